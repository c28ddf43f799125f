section
-- ===== PART A: goes FIRST, ahead of the names: the tables' words, and 'selects' of the private methods out of them =====
/-- a private method of a class that the tables say can be made, by its rows of tables_1 -/
def lw_okq (q : MethodName × Nat) : Prop := (q.1.cls ≠ "java/lang/invoke/MethodHandle" ∧ q.1.cls ≠ "java/lang/invoke/VarHandle") ∧ Cond.instantiable q.1.cls q.2 ∈ tables_1 ∧ Cond.privateMethod q.1 ∈ tables_1 ∧ Cond.instanceMethod q.1 ∈ tables_1
theorem lw_p0 : lw_okq (⟨"java/lang/Throwable", "fillInStackTrace", "(I)Ljava/lang/Throwable;"⟩, 6) := ⟨⟨by decide +kernel, by decide +kernel⟩, List.mem_of_getElem? (i := 105) (by decide +kernel), List.mem_of_getElem? (i := 103) (by decide +kernel), List.mem_of_getElem? (i := 104) (by decide +kernel)⟩
theorem lw_p1 : lw_okq (⟨"LinkResolver", "existingPack", "(I)LLinkResolver$Pack;"⟩, 6) := ⟨⟨by decide +kernel, by decide +kernel⟩, List.mem_of_getElem? (i := 16) (by decide +kernel), List.mem_of_getElem? (i := 198) (by decide +kernel), List.mem_of_getElem? (i := 199) (by decide +kernel)⟩
theorem lw_p2 : lw_okq (⟨"LinkResolver", "existingTitle", "(I)LLinkResolver$Title;"⟩, 6) := ⟨⟨by decide +kernel, by decide +kernel⟩, List.mem_of_getElem? (i := 16) (by decide +kernel), List.mem_of_getElem? (i := 248) (by decide +kernel), List.mem_of_getElem? (i := 249) (by decide +kernel)⟩
theorem lw_p3 : lw_okq (⟨"LinkResolver", "existingStay", "(II)LLinkResolver$History;"⟩, 6) := ⟨⟨by decide +kernel, by decide +kernel⟩, List.mem_of_getElem? (i := 16) (by decide +kernel), List.mem_of_getElem? (i := 265) (by decide +kernel), List.mem_of_getElem? (i := 266) (by decide +kernel)⟩
theorem lw_p4 : lw_okq (⟨"LinkResolver", "change", "(LLinkResolver$History;JI)V"⟩, 6) := ⟨⟨by decide +kernel, by decide +kernel⟩, List.mem_of_getElem? (i := 16) (by decide +kernel), List.mem_of_getElem? (i := 281) (by decide +kernel), List.mem_of_getElem? (i := 282) (by decide +kernel)⟩
theorem lw_p5 : lw_okq (⟨"LinkResolver", "checkArticle", "(III)V"⟩, 6) := ⟨⟨by decide +kernel, by decide +kernel⟩, List.mem_of_getElem? (i := 16) (by decide +kernel), List.mem_of_getElem? (i := 347) (by decide +kernel), List.mem_of_getElem? (i := 348) (by decide +kernel)⟩
theorem lw_p6 : lw_okq (⟨"LinkResolver", "waysTo", "(IIII)I"⟩, 6) := ⟨⟨by decide +kernel, by decide +kernel⟩, List.mem_of_getElem? (i := 16) (by decide +kernel), List.mem_of_getElem? (i := 393) (by decide +kernel), List.mem_of_getElem? (i := 394) (by decide +kernel)⟩
theorem lw_p7 : lw_okq (⟨"LinkResolver", "placeAmong", "(III)I"⟩, 6) := ⟨⟨by decide +kernel, by decide +kernel⟩, List.mem_of_getElem? (i := 16) (by decide +kernel), List.mem_of_getElem? (i := 410) (by decide +kernel), List.mem_of_getElem? (i := 411) (by decide +kernel)⟩
theorem lw_p8 : lw_okq (⟨"LinkResolver", "isAhead", "(III)Z"⟩, 6) := ⟨⟨by decide +kernel, by decide +kernel⟩, List.mem_of_getElem? (i := 16) (by decide +kernel), List.mem_of_getElem? (i := 414) (by decide +kernel), List.mem_of_getElem? (i := 415) (by decide +kernel)⟩
theorem lw_p9 : lw_okq (⟨"LinkResolver", "yearsSoFar", "(LLinkResolver$Title;)J"⟩, 6) := ⟨⟨by decide +kernel, by decide +kernel⟩, List.mem_of_getElem? (i := 16) (by decide +kernel), List.mem_of_getElem? (i := 434) (by decide +kernel), List.mem_of_getElem? (i := 435) (by decide +kernel)⟩
theorem lw_p10 : lw_okq (⟨"LinkResolver", "yearsCoveredButBy", "(III)J"⟩, 6) := ⟨⟨by decide +kernel, by decide +kernel⟩, List.mem_of_getElem? (i := 16) (by decide +kernel), List.mem_of_getElem? (i := 438) (by decide +kernel), List.mem_of_getElem? (i := 439) (by decide +kernel)⟩
theorem lw_p11 : lw_okq (⟨"LinkResolver", "isLostWithout", "(II)Z"⟩, 6) := ⟨⟨by decide +kernel, by decide +kernel⟩, List.mem_of_getElem? (i := 16) (by decide +kernel), List.mem_of_getElem? (i := 460) (by decide +kernel), List.mem_of_getElem? (i := 461) (by decide +kernel)⟩
def lw_privs_1 : List (MethodName × Nat) := [(⟨"java/lang/Throwable", "fillInStackTrace", "(I)Ljava/lang/Throwable;"⟩, 6), (⟨"LinkResolver", "existingPack", "(I)LLinkResolver$Pack;"⟩, 6), (⟨"LinkResolver", "existingTitle", "(I)LLinkResolver$Title;"⟩, 6), (⟨"LinkResolver", "existingStay", "(II)LLinkResolver$History;"⟩, 6), (⟨"LinkResolver", "change", "(LLinkResolver$History;JI)V"⟩, 6), (⟨"LinkResolver", "checkArticle", "(III)V"⟩, 6), (⟨"LinkResolver", "waysTo", "(IIII)I"⟩, 6), (⟨"LinkResolver", "placeAmong", "(III)I"⟩, 6), (⟨"LinkResolver", "isAhead", "(III)Z"⟩, 6), (⟨"LinkResolver", "yearsSoFar", "(LLinkResolver$Title;)J"⟩, 6), (⟨"LinkResolver", "yearsCoveredButBy", "(III)J"⟩, 6), (⟨"LinkResolver", "isLostWithout", "(II)Z"⟩, 6)]
theorem lw_r1 : ∀ q ∈ lw_privs_1, lw_okq q := List.forall_mem_cons.mpr ⟨lw_p0, List.forall_mem_cons.mpr ⟨lw_p1, List.forall_mem_cons.mpr ⟨lw_p2, List.forall_mem_cons.mpr ⟨lw_p3, List.forall_mem_cons.mpr ⟨lw_p4, List.forall_mem_cons.mpr ⟨lw_p5, List.forall_mem_cons.mpr ⟨lw_p6, List.forall_mem_cons.mpr ⟨lw_p7, List.forall_mem_cons.mpr ⟨lw_p8, List.forall_mem_cons.mpr ⟨lw_p9, List.forall_mem_cons.mpr ⟨lw_p10, List.forall_mem_cons.mpr ⟨lw_p11, fun _ h => absurd h List.not_mem_nil⟩⟩⟩⟩⟩⟩⟩⟩⟩⟩⟩⟩
def lw_privs : List (MethodName × Nat) := lw_privs_1
def lw_tbl : List Cond := k2_sels lw_privs ++ tables_1
theorem lw_privs_ok : ∀ q ∈ lw_privs, lw_okq q := lw_r1
end
section
/-! ===== BEGIN words of one list among another's, by their places ===== -/
theorem goodIn_r {big : List Cond} (ws : List Cond) (ps : List Nat) (hp : ws = ps.filterMap (fun i => big[i]?)) (h : ws.all goodWord = true) : GoodIn big ws := by
  intro w hw
  have h1 := List.all_eq_true.mp h w hw
  rw [hp] at hw
  obtain ⟨i, -, hi⟩ := List.mem_filterMap.mp hw
  have hm : w ∈ big := by first | exact List.mem_of_getElem? hi | exact List.getElem?_mem hi
  exact ⟨hm, good_of_word h1⟩
theorem goodIn_app {big a b : List Cond} (ha : GoodIn big a) (hb : GoodIn big b) : GoodIn big (a ++ b) := fun w h => (List.mem_append.mp h).elim (ha w) (hb w)
theorem goodIn_ca {big a b : List Cond} {c : Cond} (ha : GoodIn big (c :: a)) (hb : GoodIn big b) : GoodIn big (c :: (a ++ b)) := fun w h => (List.mem_cons.mp h).elim (fun e => ha w (List.mem_cons.mpr (Or.inl e))) (fun h => (List.mem_append.mp h).elim (fun h => ha w (List.mem_cons.mpr (Or.inr h))) (hb w))
theorem goodIn_sub {big ws : List Cond} (hm : ∀ w ∈ ws, w ∈ big) (h : ws.all goodWord = true) : GoodIn big ws := fun w hw => ⟨hm w hw, good_of_word (List.all_eq_true.mp h w hw)⟩
/-! ===== END ===== -/

/-! ===== BEGIN exceptions that leave a method, and their catching by the caller (launches without stack traces) ===== -/
section VXA
/-! The laws vx_back, vx_callV, vx_callS, vx_callSW, vx_throw0, vx_throwS follow proofs of the library, with one case more: JvmDerived/Free/Laws.lean (Back.of_free), Shelf42/LK1.lean (callV, callS), Shelf/KitTraced.lean (throwNew0V, throwNewS). -/
/-- where a method has thrown q: the class by its name, the cell, what was written, the world -/
def vx_T (XC : String → State → State → Prop) (st : State) (q : Addr) (t : State) (mc ms : Nat) (free : Addr → Prop) : Prop :=
  ∃ (E : String) (ce : Cell) (L : List Loc), XC E st t ∧ t.heap[q]? = some ce ∧ ce.vm = .none ∧ st.vm.findClass E = some ce.cls ∧ st.WarmedH t.vm ∧ st.sameButNew ({ t with vm := st.vm } : State) L mc ms ∧ ∀ z ∈ L, free z.base
def vx_Q (Qc : Array Value → State → Outcome → State → Prop) (XC : String → State → State → Prop) (mc ms : Nat) (free : Addr → Prop) : Array Value → State → Outcome → State → Prop := fun a st o t =>
  (Qc a st o t ∧ ∃ L, FrameEnd st o t L mc ms ∧ ∀ q ∈ L, free q.base) ∨ ∃ q, o = .threw q ∧ vx_T XC st q t mc ms free
/-- a callee that returns or throws -/
def vx_Met (l : Launch) (y : MethodName) (ws : List Cond) (rm : Room) (Pc : Array Value → State → Prop) (Qc : Array Value → State → Outcome → State → Prop) (XC : String → State → State → Prop) (mc ms : Nat) (free : Addr → Prop) : Prop :=
  MetFree l y (headSpec ws rm) Pc (fun _ _ _ _ _ => True) (vx_Q Qc XC mc ms free)
def vx_Post (XC : String → State → State → Prop) (mc ms : Nat) (free : Addr → Prop) : Pt → Array Value → Addr → Pt → Prop := fun A a q B =>
  ∃ (g : JFrame) (mk : MethodId) (t : State) (L : List Loc) (E : String) (ce : Cell), B.U.heap = t.heap ∧ B.U.vm = t.vm ∧ XC E (A.U.calling g mk a) t ∧ t.heap[q]? = some ce ∧ ce.vm = .none ∧ A.U.vm.findClass E = some ce.cls ∧ B.locs = A.locs ++ L ∧ (∀ z ∈ L, free z.base) ∧ B.cells = A.cells + mc ∧ B.slots = A.slots + ms
def vx_Back (l : Launch) (R : Room) (p : Program) (e : Env) (below : List Frame) (s : State) (sargs : Array Value) (y : MethodName) (len W9 : Nat)
    (Pre : Pt → Array Value → Prop) (Post : Pt → Array Value → Option Value → Pt → Prop) (PostX : Pt → Array Value → Addr → Pt → Prop) : Prop :=
  ∀ (m : MethodId) (meth : Method) (c : Code) (A : Pt) (g : JFrame) (ig : Instr) (mk : MethodId) (a : Array Value),
    Stand p l e R s m sargs below meth c A.U A.locs A.cells A.slots → g.method = m → g.locals.size = c.maxLocals → decode c.code g.pc = .ok (ig, len) →
    2 * g.monitorRoom + (g.stack.map fun v => v.category).sum ≤ W9 → A.U.methodNamed? y = some mk → Pre A a →
    (∃ (v : Option Value) (B : Pt), Stand p l e R s m sargs below meth c B.U B.locs B.cells B.slots ∧ Post A a v B ∧
      Steps p.tables e below (doInvoke e (A.U.setTop g) [] mk a).1 (B.U.setTop { g with pc := g.pc + len, stack := v.toList ++ g.stack })) ∨
    (∃ (q : Addr) (B : Pt), Stand p l e R s m sargs below meth c B.U B.locs B.cells B.slots ∧ PostX A a q B ∧
      Steps p.tables e below (doInvoke e (A.U.setTop g) [] mk a).1 ((B.U.setTop g).pushFrame (.throwing q)))
section Payer
variable {l : Launch} {R : Room} {p : Program} {e : Env} {below : List Frame} {s : State} {sargs : Array Value} {y : MethodName} {len W9 : Nat}
theorem vx_back {ws : List Cond} {rm : Room} {Pc : Array Value → State → Prop} {Qc : Array Value → State → Outcome → State → Prop} {XC : String → State → State → Prop} {mc ms : Nat} {free : Addr → Prop} {bytes : ByteArray} {maxL : Nat} {ret : Option FieldType}
    (hM : vx_Met l y ws rm Pc Qc XC mc ms free) (hblind : FrameBlind Pc) (hrc : rm.cells = mc) (hrs : rm.slots = ms)
    (hframes : rm.frames + 1 ≤ R.frames) (hlocals : W9 + (maxL + 11) + rm.locals ≤ R.locals)
    (hws : ∀ w ∈ ws, ∀ a' U, s.WarmedH U.vm → w.before a' U = true) (hcode : Cond.code y bytes maxL ret ∈ ws) (hinit : ∀ a' U, s.WarmedH U.vm → (Cond.initialized y.cls).before a' U = true) :
    vx_Back l R p e below s sargs y len W9 (PreOf R mc ms Pc) (PostOf Qc mc ms free) (vx_Post XC mc ms free) := by
  intro m meth c A g ig mk a X hg hsize hdg hW hn hp
  have h1 : (headSpec ws rm).pre.before a A.U = true := atoms_intro fun w hw => hws w hw _ _ X.warmed
  have h2 : (Cond.code y bytes maxL ret).before a A.U = true := hws _ hcode _ _ X.warmed
  have h3 : (Cond.initialized y.cls).before a A.U = true := hinit _ _ X.warmed
  have h4 : A.cells + (headSpec ws rm).room.cells ≤ R.cells := by rw [show (headSpec ws rm).room.cells = mc from hrc]; exact hp.1
  have h5 : A.slots + (headSpec ws rm).room.slots ≤ R.slots := by rw [show (headSpec ws rm).room.slots = ms from hrs]; exact hp.2.1
  have hPc : Pc a (A.U.calling g mk a) := hblind _ _ _ _ hp.2.2
  obtain ⟨U, Ls, c0, s0⟩ := A
  dsimp only [Pt.U, Pt.locs, Pt.cells, Pt.slots] at h1 h2 h3 h4 h5 X hn hPc ⊢
  obtain ⟨methY, cY, hmY, hcY, -, hlY, -, -, -, -⟩ := Cond.code_spec hn h2
  obtain ⟨kY, hkY, -⟩ := className_of_methodNamed hn
  have hinitY : kY.init = .initialized := Cond.initialized_spec (findClass_of_methodNamed hn) hkY h3
  have h : At U g.method c below := by rw [hg]; exact X.here
  have hlocals9 : W9 + (maxL + 11) + (headSpec ws rm).room.locals ≤ R.locals := hlocals
  have happ : (headSpec ws rm).appliesLoose y e.platform (U.calling g mk a) = true :=
    Spec.appliesLoose_calling (g := g) h hdg hn hkY hinitY
      (X.room_calling (g := g) (R' := (headSpec ws rm).room) hsize hmY hcY hframes (by rw [hlY]; omega) h4 h5) h1
  obtain ⟨mid, hmid⟩ := h.above
  have hfr : (U.setTop g).frames = (.java g :: mid) ++ below := by rw [State.frames_setTop' g h.top, hmid]; rfl
  obtain ⟨o, s₂, hsteps, -, hend, hq⟩ := Steps.callFree hM p X.admits X.cas X.clock (acts := []) hfr happ hPc trivial
  have hq' : vx_Q Qc XC mc ms free a (U.calling g mk a) o s₂ := hq
  rw [State.frames_setTop' g h.top] at hend
  obtain ⟨g₀, hg0⟩ := Option.isSome_iff_exists.mp h.top
  obtain ⟨r, hr⟩ := State.topJava?_eq_some.mp hg0
  have hr' : (({ U with heap := s₂.heap, slotsUsed := s₂.slotsUsed } : State).setVm s₂.vm).frames = .java g₀ :: r := hr
  rcases hq' with ⟨hqc, L, hfe, hL⟩ | ⟨q, rfl, E, ce, L, hx, hce, hcv, hcl, hW₂, hsm, hL⟩
  · obtain ⟨⟨v, rfl⟩, hW₂, e2, q2, q3, q4, q5, q6⟩ := id hfe
    have e3 : s₂ = ({ (U.calling g mk a).setFrames s₂.frames with heap := s₂.heap, slotsUsed := s₂.slotsUsed } : State).setVm s₂.vm := by
      have : s₂ = ({ s₂ with vm := (U.calling g mk a).vm } : State).setVm s₂.vm := rfl
      rw [e2] at this
      exact this
    obtain ⟨c₂, i₂, len₂, hc₂, hd₂, hf₂⟩ := hend
    have hW' : U.WarmedH s₂.vm := hW₂
    have hcc : c₂ = c := by
      have h1 : s₂.code? g.method = U.code? g.method := by
        rw [State.code?_eq, State.code?_eq, hW'.alike.method?]
      exact Option.some.inj (hc₂.symm.trans (h1.trans h.code))
    subst hcc
    have hlen : len₂ = len := by rw [hdg] at hd₂; cases hd₂; rfl
    subst hlen
    have hs₂ : s₂ = (({ U with heap := s₂.heap, slotsUsed := s₂.slotsUsed } : State).setVm s₂.vm).setTop { g with pc := g.pc + len₂, stack := v.toList ++ g.stack } := by
      refine e3.trans ?_
      rw [hf₂, State.calling_eq h.top, State.setFrames_setFrames, State.setTop_of_frames _ hr', hr]
      rfl
    have hsame : U.sameButNew ({ U with heap := s₂.heap, slotsUsed := s₂.slotsUsed } : State) L mc ms := by
      refine ⟨?_, q2, q3, q4, q5, q6⟩
      obtain ⟨t, ht, -⟩ := State.frames_cons hr
      show ({ U with heap := s₂.heap, slotsUsed := s₂.slotsUsed } : State) = { U.setFrames U.frames with heap := s₂.heap, slotsUsed := s₂.slotsUsed }
      rw [State.setFrames_self ht]
    subst hg
    refine Or.inl ⟨v, ⟨(({ U with heap := s₂.heap, slotsUsed := s₂.slotsUsed } : State).setVm s₂.vm), Ls ++ L, c0 + mc, s0 + ms⟩,
      ⟨X.admits, X.cas, X.clock, X.frames, X.room, X.hears, X.method, X.code, (X.here.setHeapUsed s₂.heap s₂.slotsUsed).setVm hW'.alike, X.tail, State.WarmedH.trans X.warmed hW', X.limits, X.bytes, X.same.trans (hsame.setVm s.vm)⟩,
      ⟨g, mk, s₂, L, rfl, rfl, hqc, rfl, hL, rfl, rfl⟩, ?_⟩
    show Steps p.tables e below _ ((({ U with heap := s₂.heap, slotsUsed := s₂.slotsUsed } : State).setVm s₂.vm).setTop { g with pc := g.pc + len₂, stack := v.toList ++ g.stack })
    rw [← hs₂]
    exact hsteps
  · obtain ⟨e2, q2, q3, q4, q5, q6⟩ := id hsm
    have e3 : s₂ = ({ (U.calling g mk a).setFrames s₂.frames with heap := s₂.heap, slotsUsed := s₂.slotsUsed } : State).setVm s₂.vm := by
      have : s₂ = ({ s₂ with vm := (U.calling g mk a).vm } : State).setVm s₂.vm := rfl
      rw [e2] at this
      exact this
    have hf₂ : s₂.frames = .throwing q :: .java g :: U.frames.tail := hend
    have hW' : U.WarmedH s₂.vm := hW₂
    have hs₂ : s₂ = ((({ U with heap := s₂.heap, slotsUsed := s₂.slotsUsed } : State).setVm s₂.vm).setTop g).pushFrame (.throwing q) := by
      refine e3.trans ?_
      rw [hf₂, State.calling_eq h.top, State.setFrames_setFrames, State.pushFrame, State.frames_setTop _ hr', State.setTop_of_frames _ hr', State.setFrames_setFrames, hr]
      rfl
    have hsame : U.sameButNew ({ U with heap := s₂.heap, slotsUsed := s₂.slotsUsed } : State) L mc ms := by
      refine ⟨?_, q2, q3, q4, q5, q6⟩
      obtain ⟨t, ht, -⟩ := State.frames_cons hr
      show ({ U with heap := s₂.heap, slotsUsed := s₂.slotsUsed } : State) = { U.setFrames U.frames with heap := s₂.heap, slotsUsed := s₂.slotsUsed }
      rw [State.setFrames_self ht]
    subst hg
    refine Or.inr ⟨q, ⟨(({ U with heap := s₂.heap, slotsUsed := s₂.slotsUsed } : State).setVm s₂.vm), Ls ++ L, c0 + mc, s0 + ms⟩,
      ⟨X.admits, X.cas, X.clock, X.frames, X.room, X.hears, X.method, X.code, (X.here.setHeapUsed s₂.heap s₂.slotsUsed).setVm hW'.alike, X.tail, State.WarmedH.trans X.warmed hW', X.limits, X.bytes, X.same.trans (hsame.setVm s.vm)⟩,
      ⟨g, mk, s₂, L, E, ce, rfl, rfl, hx, hce, hcv, hcl, rfl, hL, rfl, rfl⟩, ?_⟩
    show Steps p.tables e below _ (((({ U with heap := s₂.heap, slotsUsed := s₂.slotsUsed } : State).setVm s₂.vm).setTop g).pushFrame (.throwing q))
    rw [← hs₂]
    exact hsteps
end Payer
section Calls
variable {p : Program} {l : Launch} {e : Env} {R : Room} {s : State} {m : MethodId} {args : Array Value} {below : List Frame} {meth : Method} {c : Code} {T : State} {locs : List Loc} {cells slots : Nat}
theorem vx_callV (X : Stand p l e R s m args below meth c T locs cells slots) (hexec : p.tables.exec = Jvm.exec) {own C : String} {index : Nat} {y : MethodName} {bytes : ByteArray} {maxL : Nat} {ret : Option FieldType}
    (hown : s.vm.findClass own = some m.cls) (hlink : (Cond.methodLink own index y).before args s = true) (hinst : (Cond.instanceMethod y).before args s = true) (hsel : (Cond.selects C y y).before args s = true)
    (hcode : (Cond.code y bytes maxL ret).before args s = true) (hy : y.cls ≠ "java/lang/invoke/MethodHandle" ∧ y.cls ≠ "java/lang/invoke/VarHandle")
    {W9 : Nat} {Pre : Pt → Array Value → Prop} {Post : Pt → Array Value → Option Value → Pt → Prop} {PostX : Pt → Array Value → Addr → Pt → Prop} (hK : vx_Back l R p e below s args y 3 W9 Pre Post PostX)
    {b : Addr} {cellB : Cell} (hcell : T.heap[b]? = some cellB) (hobj : cellB.vm.isStatics = false) (hcls : s.vm.findClass C = some cellB.cls)
    {g : JFrame} (hg : g.method = m) (hsize : g.locals.size = c.maxLocals) {argsL rest : List Value} (hlen : ∀ sig, parseMethodDescriptor y.desc = some sig → argsL.length = sig.parameters.length)
    (hstack : g.stack = argsL.reverse ++ .ref b :: rest) (hW : 2 * g.monitorRoom + (rest.map fun v => v.category).sum ≤ W9) (hdg : decode c.code g.pc = .ok (.invokevirtual index, 3))
    (hpre : ∀ vm₁, s.WarmedH vm₁ → Pre ⟨T.setVm vm₁, locs, cells, slots⟩ (Value.ref b :: argsL).toArray) :
    (∃ (v : Option Value) (vm₁ : Vm) (B : Pt), s.WarmedH vm₁ ∧ Stand p l e R s m args below meth c B.U B.locs B.cells B.slots ∧ Post ⟨T.setVm vm₁, locs, cells, slots⟩ (Value.ref b :: argsL).toArray v B ∧
      ∀ target, Steps p.tables e below (B.U.setTop { g with pc := g.pc + 3, stack := v.toList ++ rest }) target → Steps p.tables e below (T.setTop g) target) ∨
    (∃ (q : Addr) (vm₁ : Vm) (B : Pt), s.WarmedH vm₁ ∧ Stand p l e R s m args below meth c B.U B.locs B.cells B.slots ∧ PostX ⟨T.setVm vm₁, locs, cells, slots⟩ (Value.ref b :: argsL).toArray q B ∧
      Steps p.tables e below (T.setTop g) ((B.U.setTop { g with stack := rest }).pushFrame (.throwing q))) := by
  obtain ⟨mk, methM, hnamed, hmethM, hstM, habM⟩ := Cond.instanceMethod_spec hinst
  obtain ⟨methM', cM, hmethM', -, -, -, -, -, -, hsigM⟩ := Cond.code_spec hnamed hcode
  cases hmethM.symm.trans hmethM'
  obtain ⟨c2, r2, m2, q1, q2, q3, q4, kP, hkP, hkPi⟩ := Cond.selects_spec hsel
  cases hcls.symm.trans q1
  cases (State.methodFound?_of_named hnamed hy).symm.trans q2
  cases hnamed.symm.trans q3
  have hselP : selectMethod e.platform s.vm cellB.cls mk = .method mk := by rw [Launch.admits_selectMethod X.admits]; exact q4
  obtain ⟨vm₁, X₁, hstep₁⟩ := X.invokevirtual hexec hown hlink hnamed hmethM hstM hkP hkPi hy (a := b) (cell := cellB) hcell
    (fun z h => by rw [h] at hobj; cases hobj) hselP hmethM habM hkP hkPi (g := g) hg (argsL := argsL) (rest := rest) (hlen _ hsigM) hstack hdg
  rcases hK m meth c ⟨T.setVm vm₁, locs, cells, slots⟩ { g with stack := rest } (.invokevirtual index) mk (Value.ref b :: argsL).toArray X₁ hg hsize hdg hW (X₁.named hnamed) (hpre vm₁ X₁.warmed) with ⟨v, B, X', hpost, hsteps⟩ | ⟨q, B, X', hpost, hsteps⟩
  · exact Or.inl ⟨v, vm₁, B, X₁.warmed, X', hpost, fun target h => hstep₁ _ fun acts => by rw [doInvoke_state]; exact hsteps.trans h⟩
  · exact Or.inr ⟨q, vm₁, B, X₁.warmed, X', hpost, hstep₁ _ fun acts => by rw [doInvoke_state]; exact hsteps⟩
theorem vx_callS (X : Stand p l e R s m args below meth c T locs cells slots) (hexec : p.tables.exec = Jvm.exec) {own : String} {index : Nat} {y : MethodName} {bytes : ByteArray} {maxL : Nat} {ret : Option FieldType}
    (hown : s.vm.findClass own = some m.cls) (hlink : (Cond.methodLink own index y).before args s = true) (hstat : (Cond.static y).before args s = true) (hinit : (Cond.initialized y.cls).before args s = true)
    (hcode : (Cond.code y bytes maxL ret).before args s = true) (hy : y.cls ≠ "java/lang/invoke/MethodHandle" ∧ y.cls ≠ "java/lang/invoke/VarHandle")
    {W9 : Nat} {Pre : Pt → Array Value → Prop} {Post : Pt → Array Value → Option Value → Pt → Prop} {PostX : Pt → Array Value → Addr → Pt → Prop} (hK : vx_Back l R p e below s args y 3 W9 Pre Post PostX)
    {g : JFrame} (hg : g.method = m) (hsize : g.locals.size = c.maxLocals) {argsL rest : List Value} (hlen : ∀ sig, parseMethodDescriptor y.desc = some sig → argsL.length = sig.parameters.length)
    (hstack : g.stack = argsL.reverse ++ rest) (hW : 2 * g.monitorRoom + (rest.map fun v => v.category).sum ≤ W9) (hdg : decode c.code g.pc = .ok (.invokestatic index, 3))
    (hpre : ∀ vm₁, s.WarmedH vm₁ → Pre ⟨T.setVm vm₁, locs, cells, slots⟩ argsL.toArray) :
    (∃ (v : Option Value) (vm₁ : Vm) (B : Pt), s.WarmedH vm₁ ∧ Stand p l e R s m args below meth c B.U B.locs B.cells B.slots ∧ Post ⟨T.setVm vm₁, locs, cells, slots⟩ argsL.toArray v B ∧
      ∀ target, Steps p.tables e below (B.U.setTop { g with pc := g.pc + 3, stack := v.toList ++ rest }) target → Steps p.tables e below (T.setTop g) target) ∨
    (∃ (q : Addr) (vm₁ : Vm) (B : Pt), s.WarmedH vm₁ ∧ Stand p l e R s m args below meth c B.U B.locs B.cells B.slots ∧ PostX ⟨T.setVm vm₁, locs, cells, slots⟩ argsL.toArray q B ∧
      Steps p.tables e below (T.setTop g) ((B.U.setTop { g with stack := rest }).pushFrame (.throwing q))) := by
  obtain ⟨mk, hnamed⟩ := Cond.code_named hcode
  obtain ⟨methM, cM, hmethM, -, -, -, -, -, -, hsigM⟩ := Cond.code_spec hnamed hcode
  have hstatic : methM.isStatic = true := Cond.static_spec hnamed hmethM hstat
  obtain ⟨kP, hkP, -⟩ := className_of_methodNamed hnamed
  have hinitP : kP.init = .initialized := Cond.initialized_spec (findClass_of_methodNamed hnamed) hkP hinit
  obtain ⟨vm₁, X₁, hstep₁⟩ := X.invokestatic hexec hown hlink hnamed hmethM hstatic hkP hinitP hy (g := g) hg (argsL := argsL) (rest := rest) (hlen _ hsigM) hstack hdg
  rcases hK m meth c ⟨T.setVm vm₁, locs, cells, slots⟩ { g with stack := rest } (.invokestatic index) mk argsL.toArray X₁ hg hsize hdg hW (X₁.named hnamed) (hpre vm₁ X₁.warmed) with ⟨v, B, X', hpost, hsteps⟩ | ⟨q, B, X', hpost, hsteps⟩
  · exact Or.inl ⟨v, vm₁, B, X₁.warmed, X', hpost, fun target h => hstep₁ _ fun acts => by rw [doInvoke_state]; exact hsteps.trans h⟩
  · exact Or.inr ⟨q, vm₁, B, X₁.warmed, X', hpost, hstep₁ _ fun acts => by rw [doInvoke_state]; exact hsteps⟩
end Calls
theorem vx_cls {s : State} {T : State} {vm₁ : Vm} {E : String} {k : ClassId} (hW : s.WarmedH vm₁) (h : (T.setVm vm₁).vm.findClass E = some k) : s.vm.findClass E = some k := by
  have h1 : vm₁.findClass E = some k := h
  rw [hW.alike.findClass] at h1
  exact h1
/-- the method's frame g, with q thrown over it -/
def vx_W (p : Program) (l : Launch) (e : Env) (R : Room) (s : State) (m : MethodId) (args : Array Value) (below : List Frame) (meth : Method) (c : Code) (H : Heap) (locs : List Loc) (cells slots : Nat) (Q : State → Prop) (g : JFrame) (q : Addr) : Prop :=
  ∀ T : State, T.heap = H → Stand p l e R s m args below meth c T locs cells slots → ∃ t, Steps p.tables e below ((T.setTop g).pushFrame (.throwing q)) t ∧ Q t
def vx_Run (p : Program) (l : Launch) (e : Env) (R : Room) (s : State) (m : MethodId) (args : Array Value) (below : List Frame) (meth : Method) (c : Code) (H : Heap) (locs : List Loc) (cells slots mc ms : Nat) (g : JFrame) (rest : List Value) (Qa : State → Outcome → State → Prop) (XC : String → State → State → Prop) (free : Addr → Prop) : Prop :=
  ∀ T : State, T.heap = H → Stand p l e R s m args below meth c T locs cells slots →
    (∃ (v : Option Value) (st₀ t T' : State) (L : List Loc), st₀.heap = H ∧ Stand p l e R s m args below meth c T' (locs ++ L) (cells + mc) (slots + ms) ∧ (∀ q ∈ L, free q.base) ∧ T'.heap = t.heap ∧ T'.vm = t.vm ∧ Qa st₀ (.returned v) t ∧
      Goes p e below T g T' { g with pc := g.pc + 3, stack := v.toList ++ rest }) ∨
    (∃ (q : Addr) (st₀ t T' : State) (L : List Loc) (E : String) (ce : Cell), st₀.heap = H ∧ Stand p l e R s m args below meth c T' (locs ++ L) (cells + mc) (slots + ms) ∧ (∀ z ∈ L, free z.base) ∧ T'.heap = t.heap ∧ T'.vm = t.vm ∧ XC E st₀ t ∧ t.heap[q]? = some ce ∧ ce.vm = .none ∧ s.vm.findClass E = some ce.cls ∧
      Steps p.tables e below (T.setTop g) ((T'.setTop { g with stack := rest }).pushFrame (.throwing q)))
def vx_X {S : Type} (px : S → Prop) (B : String → S → State → Prop) (A : Nat → Prop) : String → State → State → Prop := fun E st t => ∃ u : S, px u ∧ B E u t ∧ va_F A st t
section Runs
variable {p : Program} {l : Launch} {e : Env} {R : Room} {s : State} {m : MethodId} {args : Array Value} {below : List Frame} {meth : Method} {c : Code} {H : Heap} {locs : List Loc} {cells slots : Nat}
variable {y : MethodName} {bytes cc : ByteArray} {maxL nL mc ms n index : Nat} {ret : Option FieldType} {ws : List Cond} {rm : Room} {Pc : Array Value → State → Prop} {Qc : Array Value → State → Outcome → State → Prop} {XC : String → State → State → Prop} {free : Addr → Prop} {Ts : List Cond} {own C : String} {b : Addr} {As rest : List Value} {g : JFrame}
theorem vx_callBack (cb : CallB R s args own index y bytes maxL ret ws rm mc ms n) (hM : vx_Met l y ws rm Pc Qc XC mc ms free) (hbl : FrameBlind Pc) : vx_Back l R p e below s args y 3 8 (PreOf R mc ms Pc) (PostOf Qc mc ms free) (vx_Post XC mc ms free) := by
  obtain ⟨hrc, hrs, hfr, hlo, hws, hcw, -, hini, -⟩ := cb
  exact vx_back (bytes := bytes) (maxL := maxL) (ret := ret) hM hbl hrc hrs hfr hlo hws hcw (fun a' U hW => word_at hW (Or.inl (by first | rfl | simp [Cond.onTables, Cond.keeps, Cond.steady])) hini)
theorem vx_runV (S : CallFix p m c cc nL s args Ts own) (hM : vx_Met l y ws rm Pc Qc XC mc ms free) (cw : CallW R s args own C index y bytes maxL ret ws rm mc ms n) (hp : PreV s H C b Pc As)
    (hg : g.method = m) (hn : As.length = n) (hsize : g.locals.size = nL) (hstack : g.stack = As.reverse ++ .ref b :: rest) (hW : 2 * g.monitorRoom + (rest.map fun v => v.category).sum ≤ 8) (hdg : decode cc g.pc = .ok (.invokevirtual index, 3)) (hf : cells + mc ≤ R.cells ∧ slots + ms ≤ R.slots) :
    vx_Run p l e R s m args below meth c H locs cells slots mc ms g rest (Qc (Value.ref b :: As).toArray) XC free := by
  have hK : vx_Back l R p e below s args y 3 8 (PreOf R mc ms Pc) (PostOf Qc mc ms free) (vx_Post XC mc ms free) := vx_callBack cw.1 hM hp.1
  obtain ⟨⟨-, -, -, -, -, -, hcode, -, hy, hlen, hl⟩, hin, hse⟩ := cw
  obtain ⟨hx, hb, hml, ho, -⟩ := S
  obtain ⟨-, ⟨cellB, hcB, hoB, hclB⟩, hPc⟩ := hp
  intro T hT X
  rcases vx_callV X hx (C := C) (bytes := bytes) (maxL := maxL) (ret := ret) ho hl hin hse hcode hy hK (by rw [hT]; exact hcB) hoB hclB hg (hsize.trans hml.symm) (argsL := As) (rest := rest) (fun sig h => hn.trans (hlen sig h)) hstack hW (by rw [hb]; exact hdg)
    (fun vm₁ hW₁ => ⟨hf.1, hf.2, hPc (T.setVm vm₁) hT hW₁⟩) with ⟨v, vm₁, ⟨U', l2, c2, s2⟩, hW₁, X', ⟨g', mk, t, L, e1, e2, hq, h1, hL, h2, h3⟩, st⟩ | ⟨q, vm₁, ⟨U', l2, c2, s2⟩, hW₁, X', ⟨g', mk, t, L, E, ce, e1, e2, hq, hce, hcv, hcl, h1, hL, h2, h3⟩, st⟩
  · dsimp only [Pt.U, Pt.locs, Pt.cells, Pt.slots] at X' e1 e2 h1 h2 h3 st
    subst h1; subst h2; subst h3
    exact Or.inl ⟨v, (T.setVm vm₁).calling g' mk (Value.ref b :: As).toArray, t, U', L, hT, X', hL, e1, e2, hq, st⟩
  · dsimp only [Pt.U, Pt.locs, Pt.cells, Pt.slots] at X' e1 e2 h1 h2 h3 st hcl
    subst h1; subst h2; subst h3
    exact Or.inr ⟨q, (T.setVm vm₁).calling g' mk (Value.ref b :: As).toArray, t, U', L, E, ce, hT, X', hL, e1, e2, hq, hce, hcv, vx_cls hW₁ hcl, st⟩
theorem vx_runS (S : CallFix p m c cc nL s args Ts own) (hM : vx_Met l y ws rm Pc Qc XC mc ms free) (cw : CallB R s args own index y bytes maxL ret ws rm mc ms n ∧ (Cond.static y).before args s = true) (hp : PreS s H Pc As)
    (hg : g.method = m) (hn : As.length = n) (hsize : g.locals.size = nL) (hstack : g.stack = As.reverse ++ rest) (hW : 2 * g.monitorRoom + (rest.map fun v => v.category).sum ≤ 8) (hdg : decode cc g.pc = .ok (.invokestatic index, 3)) (hf : cells + mc ≤ R.cells ∧ slots + ms ≤ R.slots) :
    vx_Run p l e R s m args below meth c H locs cells slots mc ms g rest (Qc As.toArray) XC free := by
  have hK : vx_Back l R p e below s args y 3 8 (PreOf R mc ms Pc) (PostOf Qc mc ms free) (vx_Post XC mc ms free) := vx_callBack cw.1 hM hp.1
  obtain ⟨⟨-, -, -, -, -, -, hcode, hini, hy, hlen, hl⟩, hstt⟩ := cw
  obtain ⟨hx, hb, hml, ho, -⟩ := S
  intro T hT X
  rcases vx_callS X hx (bytes := bytes) (maxL := maxL) (ret := ret) ho hl hstt hini hcode hy hK hg (hsize.trans hml.symm) (argsL := As) (rest := rest) (fun sig h => hn.trans (hlen sig h)) hstack hW (by rw [hb]; exact hdg)
    (fun vm₁ hW₁ => ⟨hf.1, hf.2, hp.2 (T.setVm vm₁) hT hW₁⟩) with ⟨v, vm₁, ⟨U', l2, c2, s2⟩, hW₁, X', ⟨g', mk, t, L, e1, e2, hq, h1, hL, h2, h3⟩, st⟩ | ⟨q, vm₁, ⟨U', l2, c2, s2⟩, hW₁, X', ⟨g', mk, t, L, E, ce, e1, e2, hq, hce, hcv, hcl, h1, hL, h2, h3⟩, st⟩
  · dsimp only [Pt.U, Pt.locs, Pt.cells, Pt.slots] at X' e1 e2 h1 h2 h3 st
    subst h1; subst h2; subst h3
    exact Or.inl ⟨v, (T.setVm vm₁).calling g' mk As.toArray, t, U', L, hT, X', hL, e1, e2, hq, st⟩
  · dsimp only [Pt.U, Pt.locs, Pt.cells, Pt.slots] at X' e1 e2 h1 h2 h3 st hcl
    subst h1; subst h2; subst h3
    exact Or.inr ⟨q, (T.setVm vm₁).calling g' mk As.toArray, t, U', L, E, ce, hT, X', hL, e1, e2, hq, hce, hcv, vx_cls hW₁ hcl, st⟩
end Runs
section Rows
variable {p : Program} {l : Launch} {e : Env} {R : Room} {s : State} {m : MethodId} {args : Array Value} {below : List Frame} {meth : Method} {c : Code} {H : Heap} {locs : List Loc} {cells slots : Nat} {Q : State → Prop}
variable {mc ms : Nat} {free : Addr → Prop} {A0 A1 : Nat → Prop} {H0 : Heap} {a : Array Value} {pc : Nat} {ls : Array Slot} {st0 rest : List Value}
theorem vx_keep {st₀ t T' : State} {L : List Loc} (h0 : st₀.heap = H) (e1 : T'.heap = t.heap) (hS : va_S A0 H0 H locs) (hA : ∀ q, q < H.size → A1 q → A0 q) (hf : ∀ q, free q → A0 q) (hL : ∀ q ∈ L, free q.base) (hF : va_F A1 st₀ t) :
    H.size ≤ T'.heap.size ∧ (∀ q : Nat, q < H.size → ¬ A1 q → T'.heap[q]? = H[q]?) ∧ va_S A0 H0 T'.heap (locs ++ L) := by
  obtain ⟨hz, hk⟩ := hF
  rw [h0] at hz hk
  exact ⟨by rw [e1]; exact hz, fun q h1 h2 => by rw [e1]; exact hk q h1 h2,
    ⟨Nat.le_trans hS.1 (by rw [e1]; exact hz), fun q h1 h2 => by rw [e1, hk q (Nat.lt_of_lt_of_le h1 hS.1) (fun z => h2 (hA q (Nat.lt_of_lt_of_le h1 hS.1) z))]; exact hS.2.1 q h1 h2, fun q hq => by
      rcases List.mem_append.mp hq with h | h
      · exact hS.2.2 q h
      · exact hf _ (hL q h)⟩⟩
theorem vx_calli {S SX : Type} {post : Int32 → S → Prop} {px : SX → Prop} {B : S → State → Prop} {BX : String → SX → State → Prop} {AX : Nat → Prop} (hr : vx_Run p l e R s m args below meth c H locs cells slots mc ms (F0 m pc ls st0) rest (va_Qi post B A1 a) (vx_X px BX AX) free) (hS : va_S A0 H0 H locs) (hA : ∀ q, q < H.size → A1 q → A0 q) (hf : ∀ q, free q → A0 q) (hAX : ∀ q, q < H.size → AX q → A0 q)
    (kx : ∀ (E : String) (ce : Cell) (q9 : Addr) (u : SX) (t : State) (H1 : Heap) (locs1 : List Loc), t.heap = H1 → s.vm.Alike t.vm → px u → BX E u t → H.size ≤ H1.size → (∀ q : Nat, q < H.size → ¬ AX q → H1[q]? = H[q]?) → va_S A0 H0 H1 locs1 → H1[q9]? = some ce → ce.vm = .none → s.vm.findClass E = some ce.cls → vx_W p l e R s m args below meth c H1 locs1 (cells + mc) (slots + ms) Q (F0 m pc ls rest) q9)
    (kk : ∀ (r : Int32) (u : S) (t : State) (H1 : Heap) (locs1 : List Loc), t.heap = H1 → s.vm.Alike t.vm → post r u → B u t → H.size ≤ H1.size → (∀ q : Nat, q < H.size → ¬ A1 q → H1[q]? = H[q]?) → va_S A0 H0 H1 locs1 → W p l e R s m args below meth c H1 locs1 (cells + mc) (slots + ms) Q (F0 m (pc + 3) ls (.int r :: rest))) : W p l e R s m args below meth c H locs cells slots Q (F0 m pc ls st0) := by
  intro T hT X
  rcases hr T hT X with ⟨v, st₀, t, T', L, h0, X', hL, e1, e2, ⟨⟨r, u, hv, hp, hb⟩, hF⟩, st⟩ | ⟨q, st₀, t, T', L, E, ce, h0, X', hL, e1, e2, ⟨u, hp, hb, hF⟩, hce, hcv, hcl, st⟩
  · cases hv
    obtain ⟨k1, k2, k3⟩ := vx_keep h0 e1 hS hA hf hL hF
    obtain ⟨t2, a1, b1⟩ := kk r u t T'.heap (locs ++ L) e1.symm (by rw [← e2]; exact X'.warmed.alike) hp hb k1 k2 k3 T' rfl X'
    exact ⟨t2, st t2 a1, b1⟩
  · obtain ⟨k1, k2, k3⟩ := vx_keep h0 e1 hS hAX hf hL hF
    obtain ⟨t2, a1, b1⟩ := kx E ce q u t T'.heap (locs ++ L) e1.symm (by rw [← e2]; exact X'.warmed.alike) hp hb k1 k2 k3 (by rw [e1]; exact hce) hcv hcl T' rfl X'
    exact ⟨t2, st.trans a1, b1⟩
theorem vx_calll {S SX : Type} {post : Int64 → S → Prop} {px : SX → Prop} {B : S → State → Prop} {BX : String → SX → State → Prop} {AX : Nat → Prop} (hr : vx_Run p l e R s m args below meth c H locs cells slots mc ms (F0 m pc ls st0) rest (va_Ql post B A1 a) (vx_X px BX AX) free) (hS : va_S A0 H0 H locs) (hA : ∀ q, q < H.size → A1 q → A0 q) (hf : ∀ q, free q → A0 q) (hAX : ∀ q, q < H.size → AX q → A0 q)
    (kx : ∀ (E : String) (ce : Cell) (q9 : Addr) (u : SX) (t : State) (H1 : Heap) (locs1 : List Loc), t.heap = H1 → s.vm.Alike t.vm → px u → BX E u t → H.size ≤ H1.size → (∀ q : Nat, q < H.size → ¬ AX q → H1[q]? = H[q]?) → va_S A0 H0 H1 locs1 → H1[q9]? = some ce → ce.vm = .none → s.vm.findClass E = some ce.cls → vx_W p l e R s m args below meth c H1 locs1 (cells + mc) (slots + ms) Q (F0 m pc ls rest) q9)
    (kk : ∀ (r : Int64) (u : S) (t : State) (H1 : Heap) (locs1 : List Loc), t.heap = H1 → s.vm.Alike t.vm → post r u → B u t → H.size ≤ H1.size → (∀ q : Nat, q < H.size → ¬ A1 q → H1[q]? = H[q]?) → va_S A0 H0 H1 locs1 → W p l e R s m args below meth c H1 locs1 (cells + mc) (slots + ms) Q (F0 m (pc + 3) ls (.long r :: rest))) : W p l e R s m args below meth c H locs cells slots Q (F0 m pc ls st0) := by
  intro T hT X
  rcases hr T hT X with ⟨v, st₀, t, T', L, h0, X', hL, e1, e2, ⟨⟨r, u, hv, hp, hb⟩, hF⟩, st⟩ | ⟨q, st₀, t, T', L, E, ce, h0, X', hL, e1, e2, ⟨u, hp, hb, hF⟩, hce, hcv, hcl, st⟩
  · cases hv
    obtain ⟨k1, k2, k3⟩ := vx_keep h0 e1 hS hA hf hL hF
    obtain ⟨t2, a1, b1⟩ := kk r u t T'.heap (locs ++ L) e1.symm (by rw [← e2]; exact X'.warmed.alike) hp hb k1 k2 k3 T' rfl X'
    exact ⟨t2, st t2 a1, b1⟩
  · obtain ⟨k1, k2, k3⟩ := vx_keep h0 e1 hS hAX hf hL hF
    obtain ⟨t2, a1, b1⟩ := kx E ce q u t T'.heap (locs ++ L) e1.symm (by rw [← e2]; exact X'.warmed.alike) hp hb k1 k2 k3 (by rw [e1]; exact hce) hcv hcl T' rfl X'
    exact ⟨t2, st.trans a1, b1⟩
theorem vx_callf {S SX : Type} {post : UInt32 → S → Prop} {px : SX → Prop} {B : S → State → Prop} {BX : String → SX → State → Prop} {AX : Nat → Prop} (hr : vx_Run p l e R s m args below meth c H locs cells slots mc ms (F0 m pc ls st0) rest (va_Qf post B A1 a) (vx_X px BX AX) free) (hS : va_S A0 H0 H locs) (hA : ∀ q, q < H.size → A1 q → A0 q) (hf : ∀ q, free q → A0 q) (hAX : ∀ q, q < H.size → AX q → A0 q)
    (kx : ∀ (E : String) (ce : Cell) (q9 : Addr) (u : SX) (t : State) (H1 : Heap) (locs1 : List Loc), t.heap = H1 → s.vm.Alike t.vm → px u → BX E u t → H.size ≤ H1.size → (∀ q : Nat, q < H.size → ¬ AX q → H1[q]? = H[q]?) → va_S A0 H0 H1 locs1 → H1[q9]? = some ce → ce.vm = .none → s.vm.findClass E = some ce.cls → vx_W p l e R s m args below meth c H1 locs1 (cells + mc) (slots + ms) Q (F0 m pc ls rest) q9)
    (kk : ∀ (r : UInt32) (u : S) (t : State) (H1 : Heap) (locs1 : List Loc), t.heap = H1 → s.vm.Alike t.vm → post r u → B u t → H.size ≤ H1.size → (∀ q : Nat, q < H.size → ¬ A1 q → H1[q]? = H[q]?) → va_S A0 H0 H1 locs1 → W p l e R s m args below meth c H1 locs1 (cells + mc) (slots + ms) Q (F0 m (pc + 3) ls (.float r :: rest))) : W p l e R s m args below meth c H locs cells slots Q (F0 m pc ls st0) := by
  intro T hT X
  rcases hr T hT X with ⟨v, st₀, t, T', L, h0, X', hL, e1, e2, ⟨⟨r, u, hv, hp, hb⟩, hF⟩, st⟩ | ⟨q, st₀, t, T', L, E, ce, h0, X', hL, e1, e2, ⟨u, hp, hb, hF⟩, hce, hcv, hcl, st⟩
  · cases hv
    obtain ⟨k1, k2, k3⟩ := vx_keep h0 e1 hS hA hf hL hF
    obtain ⟨t2, a1, b1⟩ := kk r u t T'.heap (locs ++ L) e1.symm (by rw [← e2]; exact X'.warmed.alike) hp hb k1 k2 k3 T' rfl X'
    exact ⟨t2, st t2 a1, b1⟩
  · obtain ⟨k1, k2, k3⟩ := vx_keep h0 e1 hS hAX hf hL hF
    obtain ⟨t2, a1, b1⟩ := kx E ce q u t T'.heap (locs ++ L) e1.symm (by rw [← e2]; exact X'.warmed.alike) hp hb k1 k2 k3 (by rw [e1]; exact hce) hcv hcl T' rfl X'
    exact ⟨t2, st.trans a1, b1⟩
theorem vx_calld {S SX : Type} {post : UInt64 → S → Prop} {px : SX → Prop} {B : S → State → Prop} {BX : String → SX → State → Prop} {AX : Nat → Prop} (hr : vx_Run p l e R s m args below meth c H locs cells slots mc ms (F0 m pc ls st0) rest (va_Qd post B A1 a) (vx_X px BX AX) free) (hS : va_S A0 H0 H locs) (hA : ∀ q, q < H.size → A1 q → A0 q) (hf : ∀ q, free q → A0 q) (hAX : ∀ q, q < H.size → AX q → A0 q)
    (kx : ∀ (E : String) (ce : Cell) (q9 : Addr) (u : SX) (t : State) (H1 : Heap) (locs1 : List Loc), t.heap = H1 → s.vm.Alike t.vm → px u → BX E u t → H.size ≤ H1.size → (∀ q : Nat, q < H.size → ¬ AX q → H1[q]? = H[q]?) → va_S A0 H0 H1 locs1 → H1[q9]? = some ce → ce.vm = .none → s.vm.findClass E = some ce.cls → vx_W p l e R s m args below meth c H1 locs1 (cells + mc) (slots + ms) Q (F0 m pc ls rest) q9)
    (kk : ∀ (r : UInt64) (u : S) (t : State) (H1 : Heap) (locs1 : List Loc), t.heap = H1 → s.vm.Alike t.vm → post r u → B u t → H.size ≤ H1.size → (∀ q : Nat, q < H.size → ¬ A1 q → H1[q]? = H[q]?) → va_S A0 H0 H1 locs1 → W p l e R s m args below meth c H1 locs1 (cells + mc) (slots + ms) Q (F0 m (pc + 3) ls (.double r :: rest))) : W p l e R s m args below meth c H locs cells slots Q (F0 m pc ls st0) := by
  intro T hT X
  rcases hr T hT X with ⟨v, st₀, t, T', L, h0, X', hL, e1, e2, ⟨⟨r, u, hv, hp, hb⟩, hF⟩, st⟩ | ⟨q, st₀, t, T', L, E, ce, h0, X', hL, e1, e2, ⟨u, hp, hb, hF⟩, hce, hcv, hcl, st⟩
  · cases hv
    obtain ⟨k1, k2, k3⟩ := vx_keep h0 e1 hS hA hf hL hF
    obtain ⟨t2, a1, b1⟩ := kk r u t T'.heap (locs ++ L) e1.symm (by rw [← e2]; exact X'.warmed.alike) hp hb k1 k2 k3 T' rfl X'
    exact ⟨t2, st t2 a1, b1⟩
  · obtain ⟨k1, k2, k3⟩ := vx_keep h0 e1 hS hAX hf hL hF
    obtain ⟨t2, a1, b1⟩ := kx E ce q u t T'.heap (locs ++ L) e1.symm (by rw [← e2]; exact X'.warmed.alike) hp hb k1 k2 k3 (by rw [e1]; exact hce) hcv hcl T' rfl X'
    exact ⟨t2, st.trans a1, b1⟩
theorem vx_callv {S SX : Type} {post : S → Prop} {px : SX → Prop} {B : S → State → Prop} {BX : String → SX → State → Prop} {AX : Nat → Prop} (hr : vx_Run p l e R s m args below meth c H locs cells slots mc ms (F0 m pc ls st0) rest (va_Qv post B A1 a) (vx_X px BX AX) free) (hS : va_S A0 H0 H locs) (hA : ∀ q, q < H.size → A1 q → A0 q) (hf : ∀ q, free q → A0 q) (hAX : ∀ q, q < H.size → AX q → A0 q)
    (kx : ∀ (E : String) (ce : Cell) (q9 : Addr) (u : SX) (t : State) (H1 : Heap) (locs1 : List Loc), t.heap = H1 → s.vm.Alike t.vm → px u → BX E u t → H.size ≤ H1.size → (∀ q : Nat, q < H.size → ¬ AX q → H1[q]? = H[q]?) → va_S A0 H0 H1 locs1 → H1[q9]? = some ce → ce.vm = .none → s.vm.findClass E = some ce.cls → vx_W p l e R s m args below meth c H1 locs1 (cells + mc) (slots + ms) Q (F0 m pc ls rest) q9)
    (kk : ∀ (u : S) (t : State) (H1 : Heap) (locs1 : List Loc), t.heap = H1 → s.vm.Alike t.vm → post u → B u t → H.size ≤ H1.size → (∀ q : Nat, q < H.size → ¬ A1 q → H1[q]? = H[q]?) → va_S A0 H0 H1 locs1 → W p l e R s m args below meth c H1 locs1 (cells + mc) (slots + ms) Q (F0 m (pc + 3) ls (rest))) : W p l e R s m args below meth c H locs cells slots Q (F0 m pc ls st0) := by
  intro T hT X
  rcases hr T hT X with ⟨v, st₀, t, T', L, h0, X', hL, e1, e2, ⟨⟨u, hv, hp, hb⟩, hF⟩, st⟩ | ⟨q, st₀, t, T', L, E, ce, h0, X', hL, e1, e2, ⟨u, hp, hb, hF⟩, hce, hcv, hcl, st⟩
  · cases hv
    obtain ⟨k1, k2, k3⟩ := vx_keep h0 e1 hS hA hf hL hF
    obtain ⟨t2, a1, b1⟩ := kk u t T'.heap (locs ++ L) e1.symm (by rw [← e2]; exact X'.warmed.alike) hp hb k1 k2 k3 T' rfl X'
    exact ⟨t2, st t2 a1, b1⟩
  · obtain ⟨k1, k2, k3⟩ := vx_keep h0 e1 hS hAX hf hL hF
    obtain ⟨t2, a1, b1⟩ := kx E ce q u t T'.heap (locs ++ L) e1.symm (by rw [← e2]; exact X'.warmed.alike) hp hb k1 k2 k3 (by rw [e1]; exact hce) hcv hcl T' rfl X'
    exact ⟨t2, st.trans a1, b1⟩
/-- caught by the row x of this method's table; the rows ahead don't take it -/
theorem vx_catch {own name : String} {E : String} {ce : Cell} {q : Addr} (hown : s.vm.findClass own = some m.cls) (pre : List ExceptionTableEntry) (x : ExceptionTableEntry) (suf : List ExceptionTableEntry) (hsplit : c.exceptionTable.toList = pre ++ x :: suf)
    (hpass : ∀ z ∈ pre, covers z pc = false ∨ (z.catchType ≠ 0 ∧ ∃ nm : String, (Cond.classLink own z.catchType nm).before args s = true ∧ va_Nc E nm s)) (hx : covers x pc = true) (h0 : x.catchType ≠ 0)
    (hlink : (Cond.classLink own x.catchType name).before args s = true) (hcast : (Cond.castable E name).before args s = true) (hcell : H[q]? = some ce) (hv : ce.vm = .none) (hcl : s.vm.findClass E = some ce.cls)
    (kk : W p l e R s m args below meth c H locs cells slots Q (F0 m x.handlerPc ls [.ref q])) : vx_W p l e R s m args below meth c H locs cells slots Q (F0 m pc ls rest) q := by
  intro T hT X
  have hpl : e.platform.magicAccessors = ({} : Platform).magicAccessors := by rw [X.admits.platform]
  obtain ⟨c3, c4, hc3, hc4, hasg⟩ := Cond.castable_spec hcast
  cases Option.some.inj (hc3.symm.trans hcl)
  obtain ⟨c5, hc5, hcl5⟩ := Cond.classLink_spec hown hlink e.platform hpl
  cases Option.some.inj (hc4.symm.trans hc5)
  obtain ⟨vm', X', st⟩ := X.thenCaughtThrough q (g := F0 m pc ls rest) rfl (Steps.refl _) (by rw [hT]; exact hcell) (by rw [hv]; rfl) (by obtain ⟨k9, h9, -⟩ := Vm.findClass_spec hcl; exact ⟨k9, h9⟩) pre x suf hsplit
    (fun z hz => by
      rcases hpass z hz with h | ⟨hz0, nm, hl1, hn1⟩
      · exact Or.inl h
      · obtain ⟨c6, hc6, hcl6⟩ := Cond.classLink_spec hown hl1 e.platform hpl
        obtain ⟨a8, b8, h1, h2, h3⟩ := hn1
        cases Option.some.inj (h1.symm.trans hcl)
        cases Option.some.inj (h2.symm.trans hc6)
        exact Or.inr ⟨hz0, _, hcl6, h3⟩) hx (Or.inr ⟨h0, c4, hcl5, hasg⟩)
  obtain ⟨t, a1, b1⟩ := kk (T.setVm vm') hT X'
  exact ⟨t, st.trans a1, b1⟩
end Rows
section Ends
variable {p : Program} {l : Launch} {e : Env} {R : Room} {s : State} {m : MethodId} {args : Array Value} {below : List Frame} {meth : Method} {c : Code} {H : Heap} {locs : List Loc} {cells slots : Nat} {Q : State → Prop}
variable {mc ms : Nat} {free : Addr → Prop} {A0 A1 : Nat → Prop} {H0 : Heap} {a : Array Value} {ls : Array Slot} {st0 rest : List Value}
variable {Qc : Array Value → State → Outcome → State → Prop} {XC : String → State → State → Prop}
/-- what a body that may throw owes at its end -/
def vx_MQ (below : List Frame) (Qc : Array Value → State → Outcome → State → Prop) (XC : String → State → State → Prop) (a : Array Value) (s : State) (mc ms : Nat) (free : Addr → Prop) : State → Prop := fun t =>
  ∃ o, t.status = .running ∧ Ended t below o ∧ vx_Q Qc XC mc ms free a s o t
theorem vx_ret {g : JFrame} {mc ms : Nat} (k : W p l e R s m args below meth c H locs cells slots (MQ below Qc args s mc ms free) g) : W p l e R s m args below meth c H locs cells slots (vx_MQ below Qc XC args s mc ms free) g := by
  intro T hT X
  obtain ⟨t, a1, o, b1, b2, b3, b4⟩ := k T hT X
  exact ⟨t, a1, o, b1, b2, Or.inl ⟨b3, b4⟩⟩
/-- not caught here: it goes on to the caller -/
theorem vx_widen {g : JFrame} {q : Addr} {k n : Nat} (h1 : cells ≤ k) (h2 : slots ≤ n) (kk : vx_W p l e R s m args below meth c H locs k n Q g q) : vx_W p l e R s m args below meth c H locs cells slots Q g q := fun T hT X => kk T hT (stand_widen X h1 h2)
theorem vx_out {pc : Nat} {E : String} {ce : Cell} {q : Addr} {mc ms : Nat} (hout : ∀ x ∈ c.exceptionTable.toList, covers x pc = false) (hlocks : meth.locks = false) (hcell : H[q]? = some ce) (hv : ce.vm = .none) (hcl : s.vm.findClass E = some ce.cls)
    (hx : ∀ t : State, t.heap = H → s.vm.Alike t.vm → XC E s t) (hf : ∀ z ∈ locs, free z.base) (hc : cells ≤ mc) (hs : slots ≤ ms) :
    vx_W p l e R s m args below meth c H locs cells slots (vx_MQ below Qc XC args s mc ms free) (F0 m pc ls rest) q := by
  intro T hT X
  obtain ⟨st1, hrun, hend, hW, hsm⟩ := X.leaveThrown q (g := F0 m pc ls rest) rfl rfl rfl hout hlocks
  have hcell9 : (T.setFrames (.throwing q :: below)).heap[q]? = some ce := by
    show T.heap[q]? = some ce
    rw [hT]; exact hcell
  exact ⟨_, st1, .threw q, hrun, hend, Or.inr ⟨q, rfl, E, ce, locs, hx _ hT hW.alike, hcell9, hv, hcl, hW, hsm.mono hc hs, hf⟩⟩
theorem vx_frame {U : State} {k n : Nat} (h : s.sameButNew ({ U with vm := s.vm } : State) locs k n) : s.heap.size ≤ U.heap.size ∧ ∀ q : Nat, q < s.heap.size → (∀ z ∈ locs, z.base ≠ q) → U.heap[q]? = s.heap[q]? := by
  obtain ⟨-, h2, -, -, -, h6⟩ := h
  refine ⟨h2, fun q hq hz => ?_⟩
  obtain ⟨c9, e1, e2, e3, e4⟩ := h6 q _ (Array.getElem?_eq_getElem hq)
  have hs : c9.slots = (s.heap[q]).slots := Array.ext_getElem? fun i => e4 i fun hm => hz _ hm rfl
  have h9 : c9 = s.heap[q] := by
    rw [hs] at e2
    exact e2
  have e5 : U.heap[q]? = some c9 := e1
  rw [e5, h9, Array.getElem?_eq_getElem hq]
/-- the words of a throw but the four that speak of the heap -/
def vx_no (w : Cond) : Bool := decide (w ≠ .isRef (.static Bundle.tN "UNASSIGNED_STACK" Bundle.steD)) && decide (w ≠ .isRef (.static Bundle.tN "SUPPRESSED_SENTINEL" Bundle.listD)) && decide (w ≠ .laysStatic Bundle.tN "UNASSIGNED_STACK" Bundle.steD) && decide (w ≠ .laysStatic Bundle.tN "SUPPRESSED_SENTINEL" Bundle.listD)
def vx_at0 (own : String) (ic : Nat) (X : String) (names : List String) : List Cond := (Bundle.ownAtoms0 own ic X names).filter vx_no
def vx_atS (own : String) (ic : Nat) (X : String) (names : List String) : List Cond := (Bundle.ownAtoms own ic X names).filter vx_no
/-- a word that the tables alone decide, or a good one -/
def vx_ot (w : Cond) : Bool := w.onTables || goodWord w
theorem vx_ot_at {args a' : Array Value} {s U : State} {w : Cond} (hW : s.WarmedH U.vm) (hvm : s.vm = U.vm) (hg : vx_ot w = true) (h : w.before args s = true) : w.before a' U = true := by
  simp only [vx_ot, Bool.or_eq_true] at hg
  rcases hg with hg | hg
  · exact va_tabs hg hvm h
  · exact word_at hW (good_of_word hg) h
/-- a list's words: the good ones out of the method's own list, the others by premises of their own -/
theorem vx_hat {args : Array Value} {s : State} {L B : List Cond} (h1 : ∀ w ∈ L.filter goodWord, w.before args s = true) (h2 : ∀ w ∈ L.filter (fun w => !goodWord w), w ∈ B) (h3 : ∀ w ∈ B, w.before args s = true) : ∀ w ∈ L, w.before args s = true := by
  intro w hw
  by_cases g : goodWord w = true
  · exact h1 w (List.mem_filter.mpr ⟨hw, g⟩)
  · refine h3 w (h2 w (List.mem_filter.mpr ⟨hw, ?_⟩))
    show (!goodWord w) = true
    cases hgw : goodWord w
    · rfl
    · exact absurd hgw g
theorem vx_c {args : Array Value} {s : State} {w : Cond} {B : List Cond} (h : w.before args s = true) (t : ∀ w ∈ B, w.before args s = true) : ∀ w' ∈ w :: B, w'.before args s = true := fun w' h' => (List.mem_cons.mp h').elim (fun e => by rw [e]; exact h) (t w')
theorem vx_n {args : Array Value} {s : State} : ∀ w ∈ ([] : List Cond), w.before args s = true := fun _ h => nomatch h
theorem vx_own {args : Array Value} {s : State} {L : List Cond} (h1 : ∀ w ∈ L.filter vx_no, w.before args s = true)
    (hU : (Cond.isRef (.static Bundle.tN "UNASSIGNED_STACK" Bundle.steD)).before args s = true) (hN : (Cond.isRef (.static Bundle.tN "SUPPRESSED_SENTINEL" Bundle.listD)).before args s = true)
    (lU : (Cond.laysStatic Bundle.tN "UNASSIGNED_STACK" Bundle.steD).before args s = true) (lN : (Cond.laysStatic Bundle.tN "SUPPRESSED_SENTINEL" Bundle.listD).before args s = true) : ∀ w ∈ L, w.before args s = true := by
  intro w hw
  by_cases e1 : w = .isRef (.static Bundle.tN "UNASSIGNED_STACK" Bundle.steD)
  · rw [e1]; exact hU
  · by_cases e2 : w = .isRef (.static Bundle.tN "SUPPRESSED_SENTINEL" Bundle.listD)
    · rw [e2]; exact hN
    · by_cases e3 : w = .laysStatic Bundle.tN "UNASSIGNED_STACK" Bundle.steD
      · rw [e3]; exact lU
      · by_cases e4 : w = .laysStatic Bundle.tN "SUPPRESSED_SENTINEL" Bundle.listD
        · rw [e4]; exact lN
        · exact h1 w (List.mem_filter.mpr ⟨hw, by unfold vx_no; rw [decide_eq_true e1, decide_eq_true e2, decide_eq_true e3, decide_eq_true e4]; rfl⟩)
/-- where a static field lies, its class's statics cell in H -/
def vx_L (C n d : String) (A : Nat → Prop) (U : State) (H : Heap) : Prop := ∃ (c : ClassId) (k : Class) (i : Nat) (f : Field) (a : Nat) (cell : Cell), U.vm.findClass C = some c ∧ U.fieldFound? C n d = some (c, k, i, f) ∧ f.isStatic = true ∧ k.statics = some a ∧ H[a]? = some cell ∧ cell.vm.isStatics = true ∧ cell.cls = c ∧ f.slot < cell.slots.size ∧ k.staticTypes[f.slot]? = some f.type ∧ ¬ A a
theorem vx_L.moved {C n d : String} {A : Nat → Prop} {u U : State} {H : Heap} (hvm : u.vm.Alike U.vm) (h : vx_L C n d A u H) : vx_L C n d A U H := by
  obtain ⟨c, k, i, f, a, cell, h1, h2, h3, h4, h5, h6, h7, h8, h9, h10⟩ := h
  obtain ⟨k', hi', he⟩ := State.fieldFound?_setVm hvm h2
  exact ⟨c, k', i, f, a, cell, by rw [hvm.findClass]; exact h1, hi', h3, by rw [he]; exact h4, h5, h6, h7, h8, by rw [he]; exact h9, h10⟩
theorem vx_L.kept {C n d : String} {A : Nat → Prop} {U : State} {H H1 : Heap} (h : vx_L C n d A U H) (hq : ∀ a : Nat, a < H.size → ¬ A a → H1[a]? = H[a]?) : vx_L C n d A U H1 := by
  obtain ⟨c, k, i, f, a, cell, h1, h2, h3, h4, h5, h6, h7, h8, h9, h10⟩ := h
  exact ⟨c, k, i, f, a, cell, h1, h2, h3, h4, by rw [hq a (Array.getElem?_eq_some_iff.mp h5).1 h10]; exact h5, h6, h7, h8, h9, h10⟩
theorem vx_L.narrow {C n d : String} {A B : Nat → Prop} {U : State} {H : Heap} (h : vx_L C n d A U H) (hAB : ∀ q, B q → A q) : vx_L C n d B U H := by
  obtain ⟨c, k, i, f, a, cell, h1, h2, h3, h4, h5, h6, h7, h8, h9, h10⟩ := h
  exact ⟨c, k, i, f, a, cell, h1, h2, h3, h4, h5, h6, h7, h8, h9, fun z => h10 (hAB _ z)⟩
theorem vx_L.word {C n d : String} {A : Nat → Prop} {s : State} {args : Array Value} (h : vx_L C n d A s s.heap) : (Cond.laysStatic C n d).before args s = true := by
  obtain ⟨c, k, i, f, a, cell, h1, h2, h3, h4, h5, h6, h7, h8, h9, -⟩ := h
  show (Cond.laysStatic C n d).holds args s none s [] = true
  exact Cond.laysStatic_of h1 h2 h3 h4 h5 h6 h7 h8 h9
/-- .. and what it holds: null or some reference -/
def vx_Zq (C n d : String) (A : Nat → Prop) (U : State) (H : Heap) : Prop := va_Zq C n d A U H ∧ vx_L C n d A U H
theorem vx_Zq.moved {C n d : String} {A : Nat → Prop} {u U : State} {H : Heap} (hvm : u.vm.Alike U.vm) (h : vx_Zq C n d A u H) : vx_Zq C n d A U H := ⟨va_Zq.moved hvm h.1, vx_L.moved hvm h.2⟩
theorem vx_Zq.kept {C n d : String} {A : Nat → Prop} {U : State} {H H1 : Heap} (h : vx_Zq C n d A U H) (hq : ∀ a : Nat, a < H.size → ¬ A a → H1[a]? = H[a]?) : vx_Zq C n d A U H1 := ⟨va_Zq.kept h.1 hq, vx_L.kept h.2 hq⟩
theorem vx_Zq.narrow {C n d : String} {A B : Nat → Prop} {U : State} {H : Heap} (h : vx_Zq C n d A U H) (hAB : ∀ q, B q → A q) : vx_Zq C n d B U H := ⟨va_Zq.narrow h.1 hAB, vx_L.narrow h.2 hAB⟩
theorem vx_Zqof {args : Array Value} {s : State} {C n d : String} {A : Nat → Prop} (hl : (Cond.laysStatic C n d).before args s = true) (hini : (Cond.initialized C).before args s = true) (h : (Cond.isRef (.static C n d)).before args s = true) (hA : ∀ a : Nat, a < s.heap.size → ¬ A a) : vx_Zq C n d A s s.heap := by
  refine ⟨va_Zqof hl hini h hA, ?_⟩
  obtain ⟨c, k, i, f, a, cell, h1, h2, h3, h4, h5, h6, h7, h8, h9⟩ := Cond.laysStatic_spec hl
  exact ⟨c, k, i, f, a, cell, h1, h2, h3, h4, h5, h6, h7, h8, h9, hA a (Array.getElem?_eq_some_iff.mp h5).1⟩
theorem vx_isRef {C n d : String} {v : Value} {A : Nat → Prop} {s : State} {args : Array Value} (h : va_Z C n d v A s s.heap) (hv : v.isRef = true) : (Cond.isRef (.static C n d)).before args s = true := by
  obtain ⟨cf, kf, fi, f, a, cell, h1, h2, h3, h4, h5, h6, h7, -⟩ := h
  have he : (Term.static C n d).eval args s none [] s = some v := by
    simp [Term.eval, State.fieldNamed?, h1, h2, h4, h5, h6, h7]
  simp only [Cond.before, Cond.holds, Cond.value, he]
  cases v <;> simp_all [Value.isRef]
theorem vx_isRefq {C n d : String} {A : Nat → Prop} {s : State} {args : Array Value} (h : va_Zq C n d A s s.heap) : (Cond.isRef (.static C n d)).before args s = true := by
  rcases h with h | ⟨t, h⟩
  · exact vx_isRef h rfl
  · exact vx_isRef h rfl
/-- the same frame, seen from here: as if the method were called anew in this heap -/
theorem vx_rebase {T : State} (X : Stand p l e R s m args below meth c T locs cells slots) {R' : Room} (hf : R'.frames ≤ R.frames) (hl : R'.locals ≤ R.locals) (hc : cells + R'.cells ≤ R.cells) (hs : slots + R'.slots ≤ R.slots) :
    Stand p l e R' ((T.setVm s.vm).setFrames (.invoking m args :: below)) m args below meth c T [] 0 0 := by
  have htop : (T.setVm s.vm).topJava?.isSome := X.here.top
  have hF : ((T.setVm s.vm).setFrames (.invoking m args :: below)).frames = .invoking m args :: below := State.frames_setFrames _ (State.cur_lt_of_top htop)
  obtain ⟨g₀, hg0⟩ := Option.isSome_iff_exists.mp htop
  obtain ⟨r, hr⟩ := State.topJava?_eq_some.mp hg0
  have hl9 : e.platform.stackLimits (T.setVm s.vm).me = e.platform.stackLimits s.me := X.limits
  have hb9 : (T.setVm s.vm).me.stackBytes = s.me.stackBytes := X.bytes
  refine ⟨X.admits, X.cas, X.clock, hF, ?_, X.hears, X.method, X.code, X.here, X.tail, X.warmed, ?_, ?_, ?_⟩
  · have h := X.room
    have hU : ((T.setVm s.vm).setFrames (.invoking m args :: below)).localsInUse = s.localsInUse := by
      rw [State.localsInUse_invoking hF (meth := meth) (c := c) X.method X.code, State.localsInUse_invoking X.frames X.method X.code]
    simp only [State.hasRoom, Bool.and_eq_true, decide_eq_true_eq] at h ⊢
    obtain ⟨⟨⟨⟨h1, h2, h3, h4, h5, h6⟩, h7⟩, h8⟩, h9⟩ := h
    rw [X.frames, List.length_cons] at h2 h3
    have q1 := X.heapSize
    have q2 := X.used
    simp only [hF, hU, List.length_cons, State.stackLimits_setFrames, State.stackBytes_setFrames, hl9, hb9]
    refine ⟨⟨⟨⟨by omega, by omega, by omega, by omega, by omega, h6⟩, ?_⟩, ?_⟩, X.book⟩
    · show T.heap.size + R'.cells ≤ e.platform.maxCells
      omega
    · show T.slotsUsed + R'.slots ≤ e.platform.maxSlots
      omega
  · rw [State.stackLimits_setFrames]; rfl
  · rw [State.stackBytes_setFrames]; rfl
  · refine ⟨?_, Nat.le_refl _, Nat.le_refl _, ?_, ?_, fun a c9 h9 => ⟨c9, h9, rfl, rfl, fun _ _ => rfl⟩⟩
    · obtain ⟨t, ht, -⟩ := State.frames_cons hr
      show T.setVm s.vm = { ((T.setVm s.vm).setFrames (.invoking m args :: below)).setFrames (T.setVm s.vm).frames with heap := T.heap, slotsUsed := T.slotsUsed }
      rw [State.setFrames_setFrames, State.setFrames_self ht]
      rfl
    · show T.slotsUsed = T.slotsUsed + ((T.heap.toList.drop T.heap.size).map (·.slots.size)).sum
      rw [List.drop_eq_nil_of_le (Nat.le_of_eq Array.length_toList)]
      rfl
    · show ((T.heap.toList.drop T.heap.size).map (·.slots.size)).sum ≤ 0
      rw [List.drop_eq_nil_of_le (Nat.le_of_eq Array.length_toList)]
      exact Nat.le_refl _
/-- 'throw new E()': new; dup; invokespecial; athrow -/
theorem vx_throw0 {cc : ByteArray} {pc : Nat} (hexec : p.tables.exec = Jvm.exec) (hb : c.code = cc) (hl : l.stackTraces = false) {own cls : String} {names : List String} {ik ic mc ms : Nat} {A : Nat → Prop}
    (hown : s.vm.findClass own = some m.cls) (hcls : Bundle.fit cls = true) (hnames : ∀ n ∈ names, Bundle.fit n = true)
    (hk : (Cond.classLink own ik cls).before args s = true) (hini : (Cond.initialized cls).before args s = true) (hat : ∀ w ∈ vx_at0 own ic cls names, w.before args s = true)
    (hgood : ∀ w ∈ Cond.classLink own ik cls :: Cond.initialized cls :: vx_at0 own ic cls names, vx_ot w = true)
    (hU : vx_Zq Bundle.tN "UNASSIGNED_STACK" Bundle.steD A s s.heap) (hN : vx_Zq Bundle.tN "SUPPRESSED_SENTINEL" Bundle.listD A s s.heap) (hS : va_S A s.heap H locs) (hsize : ls.size = c.maxLocals)
    (d0 : decode cc pc = .ok (.new ik, 3)) (d3 : decode cc (pc + 3) = .ok (.dup, 1)) (d4 : decode cc (pc + 4) = .ok (.invokespecial ic, 3)) (d7 : decode cc (pc + 7) = .ok (.athrow, 1))
    (hout : ∀ x ∈ c.exceptionTable.toList, covers x (pc + 7) = false)
    (hRframes : names.length + 3 < R.frames) (hRlocals : (rest.map fun v => v.category).sum + (13 * (names.length + 1) + 42) ≤ R.locals) (hRcells : cells + 1 ≤ R.cells) (hRslots : slots + 6 ≤ R.slots) (hlocks : meth.locks = false)
    (hx : ∀ t : State, s.vm.Alike t.vm → H.size ≤ t.heap.size → (∀ q : Nat, q < H.size → t.heap[q]? = H[q]?) → XC cls s t)
    (hf : ∀ z ∈ locs, free z.base) (hc : cells + 1 ≤ mc) (hs : slots + 6 ≤ ms) :
    W p l e R s m args below meth c H locs cells slots (vx_MQ below Qc XC args s mc ms free) (F0 m pc ls rest) := by
  intro T hT X
  have htr : e.platform.stackTraces = false := (show e.platform.stackTraces = l.stackTraces by rw [X.admits.platform]).trans hl
  have Y := vx_rebase X (R' := { frames := R.frames, locals := R.locals, cells := 1, slots := 6 }) (Nat.le_refl _) (Nat.le_refl _) hRcells hRslots
  obtain ⟨s', hA⟩ : ∃ z, z = (T.setVm s.vm).setFrames (.invoking m args :: below) := ⟨_, rfl⟩
  rw [← hA] at Y
  have hvm : s'.vm = s.vm := by rw [hA]; rfl
  have hhp : s'.heap = H := by rw [hA]; exact hT
  have hW0 : s.WarmedH s'.vm := by rw [hvm]; exact State.WarmedH.refl s
  have hat' : ∀ w ∈ vx_at0 own ic cls names, w.before args s' = true := fun w hw => vx_ot_at hW0 hvm.symm (hgood w (List.mem_cons_of_mem _ (List.mem_cons_of_mem _ hw))) (hat w hw)
  have hk' : (Cond.classLink own ik cls).before args s' = true := vx_ot_at hW0 hvm.symm (hgood _ List.mem_cons_self) hk
  have hini' : (Cond.initialized cls).before args s' = true := vx_ot_at hW0 hvm.symm (hgood _ (List.mem_cons_of_mem _ List.mem_cons_self)) hini
  have hU' : vx_Zq Bundle.tN "UNASSIGNED_STACK" Bundle.steD A s' s'.heap := by rw [hhp]; exact vx_Zq.moved hW0.alike (hU.kept hS.2.1)
  have hN' : vx_Zq Bundle.tN "SUPPRESSED_SENTINEL" Bundle.listD A s' s'.heap := by rw [hhp]; exact vx_Zq.moved hW0.alike (hN.kept hS.2.1)
  have h : ∀ w ∈ Bundle.ownAtoms0 own ic cls names, w.before args s' = true := vx_own hat' (vx_isRefq hU'.1) (vx_isRefq hN'.1) hU'.2.word hN'.2.word
  have hown' : s'.vm.findClass own = some m.cls := by rw [hvm]; exact hown
  have hins : (Cond.instantiable cls 6).before args s' = true := h _ (by simp [Bundle.ownAtoms0])
  obtain ⟨vm₁, cX, kX, hfX, hkX, -, -, X₁, st1⟩ := Y.newCold hexec (own := own) (C := cls) (index := ik) (n := 6) hown' hk' hins hini'
    (g := F0 m pc ls rest) rfl (by rw [hb]; exact d0) (Nat.le_refl _) (Nat.le_refl _)
  generalize hT1 : (T.setVm vm₁).pushCell { cls := cX, slots := kX.instanceTypes.map defaultValue, vm := .none } = T1 at X₁ st1
  have hcat : (Value.ref T.heap.size).category = 1 := rfl
  have hcellA : T1.heap[T.heap.size]? = some (freshCell cX kX) := by rw [← hT1]; exact State.heap_pushCell_size _ _
  have d3' : decode c.code (pc + 3) = .ok (.dup, 1) := by rw [hb]; exact d3
  obtain ⟨U, hsteps, hrun, hend, hW, hsame, ce, hce, hO⟩ := X₁.ctorThrow0 hexec htr (own := own) (cls := cls) (names := names) (ic := ic) hown' hcls hnames h (fun x hx => nomatch hx) hfX hkX hcellA (by rw [hhp, hT]; exact Nat.le_refl _)
    (g := { method := m, pc := pc + 4, locals := ls, stack := .ref T.heap.size :: .ref T.heap.size :: rest, locked := none }) rfl hsize rfl rfl (rest := rest) rfl
    (by rw [hb]; exact d4) (by rw [hb]; exact d7) hout hRframes (by simp only [List.map_cons, List.sum_cons, hcat]; omega) hlocks
  obtain ⟨f1, f2⟩ := vx_frame hsame
  rw [hhp] at f1 f2
  have hWs : s.WarmedH U.vm := State.WarmedH.trans hW0 hW
  have hcl : s.vm.findClass cls = some ce.cls := by
    have h9 := hO.cls
    rw [hvm] at h9
    exact h9
  have hall : s.sameButNew ({ U with vm := s.vm } : State) locs mc ms := by
    subst hA
    obtain ⟨e1, e2⟩ := hsame
    rw [State.setFrames_setFrames] at e1
    have h2 : (T.setVm s.vm).sameButNew ({ U with vm := s.vm } : State) [] (0 + 1) (0 + 6) := ⟨e1, e2⟩
    have h3 := X.same.trans h2
    rw [List.append_nil] at h3
    exact h3.mono hc hs
  refine ⟨U, ?_, .threw T.heap.size, hrun, hend, Or.inr ⟨T.heap.size, rfl, cls, ce, locs, hx U hWs.alike f1 (fun q hq => f2 q hq (fun z hz => nomatch hz)), hce, hO.vm, hcl, hWs, hall, hf⟩⟩
  refine st1 _ ?_
  show Steps p.tables e below (T1.setTop { method := m, pc := pc + 3, locals := ls, stack := .ref T.heap.size :: rest, locked := none }) _
  jvm_step X₁.here [X₁.here.top, hexec, d3', Value.category]
  exact hsteps
/-- 'throw new E("text")': new; dup; ldc; invokespecial; athrow -/
theorem vx_throwS {cc : ByteArray} {pc : Nat} (hexec : p.tables.exec = Jvm.exec) (hb : c.code = cc) (hl : l.stackTraces = false) {own cls text : String} {names : List String} {ik is ic mc ms sa : Nat} {A : Nat → Prop}
    (hown : s.vm.findClass own = some m.cls) (hcls : Bundle.fit cls = true) (hnames : ∀ n ∈ names, Bundle.fit n = true)
    (hk : (Cond.classLink own ik cls).before args s = true) (hini : (Cond.initialized cls).before args s = true) (hstr : vk_R own is text sa s) (hat : ∀ w ∈ vx_atS own ic cls names, w.before args s = true)
    (hgood : ∀ w ∈ Cond.classLink own ik cls :: Cond.initialized cls :: vx_atS own ic cls names, vx_ot w = true)
    (hU : vx_Zq Bundle.tN "UNASSIGNED_STACK" Bundle.steD A s s.heap) (hN : vx_Zq Bundle.tN "SUPPRESSED_SENTINEL" Bundle.listD A s s.heap) (hS : va_S A s.heap H locs) (hsize : ls.size = c.maxLocals)
    (d0 : decode cc pc = .ok (.new ik, 3)) (d3 : decode cc (pc + 3) = .ok (.dup, 1)) (d4 : decode cc (pc + 4) = .ok (.ldc is, 2)) (d6 : decode cc (pc + 6) = .ok (.invokespecial ic, 3)) (d9 : decode cc (pc + 9) = .ok (.athrow, 1))
    (hout : ∀ x ∈ c.exceptionTable.toList, covers x (pc + 9) = false)
    (hRframes : names.length + 3 < R.frames) (hRlocals : (rest.map fun v => v.category).sum + (13 * (names.length + 1) + 43) ≤ R.locals) (hRcells : cells + 1 ≤ R.cells) (hRslots : slots + 6 ≤ R.slots) (hlocks : meth.locks = false)
    (hx : ∀ t : State, s.vm.Alike t.vm → H.size ≤ t.heap.size → (∀ q : Nat, q < H.size → t.heap[q]? = H[q]?) → XC cls s t)
    (hf : ∀ z ∈ locs, free z.base) (hc : cells + 1 ≤ mc) (hs : slots + 6 ≤ ms) :
    W p l e R s m args below meth c H locs cells slots (vx_MQ below Qc XC args s mc ms free) (F0 m pc ls rest) := by
  intro T hT X
  have htr : e.platform.stackTraces = false := (show e.platform.stackTraces = l.stackTraces by rw [X.admits.platform]).trans hl
  have Y := vx_rebase X (R' := { frames := R.frames, locals := R.locals, cells := 1, slots := 6 }) (Nat.le_refl _) (Nat.le_refl _) hRcells hRslots
  obtain ⟨s', hA⟩ : ∃ z, z = (T.setVm s.vm).setFrames (.invoking m args :: below) := ⟨_, rfl⟩
  rw [← hA] at Y
  have hvm : s'.vm = s.vm := by rw [hA]; rfl
  have hhp : s'.heap = H := by rw [hA]; exact hT
  have hW0 : s.WarmedH s'.vm := by rw [hvm]; exact State.WarmedH.refl s
  have hat' : ∀ w ∈ vx_atS own ic cls names, w.before args s' = true := fun w hw => vx_ot_at hW0 hvm.symm (hgood w (List.mem_cons_of_mem _ (List.mem_cons_of_mem _ hw))) (hat w hw)
  have hk' : (Cond.classLink own ik cls).before args s' = true := vx_ot_at hW0 hvm.symm (hgood _ List.mem_cons_self) hk
  have hini' : (Cond.initialized cls).before args s' = true := vx_ot_at hW0 hvm.symm (hgood _ (List.mem_cons_of_mem _ List.mem_cons_self)) hini
  have hU' : vx_Zq Bundle.tN "UNASSIGNED_STACK" Bundle.steD A s' s'.heap := by rw [hhp]; exact vx_Zq.moved hW0.alike (hU.kept hS.2.1)
  have hN' : vx_Zq Bundle.tN "SUPPRESSED_SENTINEL" Bundle.listD A s' s'.heap := by rw [hhp]; exact vx_Zq.moved hW0.alike (hN.kept hS.2.1)
  have h : ∀ w ∈ Bundle.ownAtoms own ic cls names, w.before args s' = true := vx_own hat' (vx_isRefq hU'.1) (vx_isRefq hN'.1) hU'.2.word hN'.2.word
  have hown' : s'.vm.findClass own = some m.cls := by rw [hvm]; exact hown
  have hins : (Cond.instantiable cls 6).before args s' = true := h _ (by simp [Bundle.ownAtoms])
  obtain ⟨vm₁, cX, kX, hfX, hkX, -, -, X₁, st1⟩ := Y.newCold hexec (own := own) (C := cls) (index := ik) (n := 6) hown' hk' hins hini'
    (g := F0 m pc ls rest) rfl (by rw [hb]; exact d0) (Nat.le_refl _) (Nat.le_refl _)
  generalize hT1 : (T.setVm vm₁).pushCell { cls := cX, slots := kX.instanceTypes.map defaultValue, vm := .none } = T1 at X₁ st1
  have hcat : (Value.ref T.heap.size).category = 1 := rfl
  have hcellA : T1.heap[T.heap.size]? = some (freshCell cX kX) := by rw [← hT1]; exact State.heap_pushCell_size _ _
  have d3' : decode c.code (pc + 3) = .ok (.dup, 1) := by rw [hb]; exact d3
  have d4' : decode c.code (pc + 4) = .ok (.ldc is, 2) := by rw [hb]; exact d4
  have hstr' : vk_R own is text sa s' := vk_R.warm hW0 hstr
  obtain ⟨U, hsteps, hrun, hend, hW, hsame, ce, hce, hO⟩ := X₁.ctorThrowS hexec htr (own := own) (cls := cls) (names := names) (ic := ic) hown' hcls hnames h (fun x hx => nomatch hx) hfX hkX hcellA (by rw [hhp, hT]; exact Nat.le_refl _) (msg := .ref sa) rfl
    (g := { method := m, pc := pc + 6, locals := ls, stack := .ref sa :: .ref T.heap.size :: .ref T.heap.size :: rest, locked := none }) rfl hsize rfl rfl (rest := rest) rfl
    (by rw [hb]; exact d6) (by rw [hb]; exact d9) hout hRframes (by simp only [List.map_cons, List.sum_cons, hcat]; omega) hlocks
  obtain ⟨f1, f2⟩ := vx_frame hsame
  rw [hhp] at f1 f2
  have hWs : s.WarmedH U.vm := State.WarmedH.trans hW0 hW
  have hcl : s.vm.findClass cls = some ce.cls := by
    have h9 := hO.cls
    rw [hvm] at h9
    exact h9
  have hall : s.sameButNew ({ U with vm := s.vm } : State) locs mc ms := by
    subst hA
    obtain ⟨e1, e2⟩ := hsame
    rw [State.setFrames_setFrames] at e1
    have h2 : (T.setVm s.vm).sameButNew ({ U with vm := s.vm } : State) [] (0 + 1) (0 + 6) := ⟨e1, e2⟩
    have h3 := X.same.trans h2
    rw [List.append_nil] at h3
    exact h3.mono hc hs
  refine ⟨U, ?_, .threw T.heap.size, hrun, hend, Or.inr ⟨T.heap.size, rfl, cls, ce, locs, hx U hWs.alike f1 (fun q hq => f2 q hq (fun z hz => nomatch hz)), hce, hO.vm, hcl, hWs, hall, hf⟩⟩
  refine st1 _ ?_
  show Steps p.tables e below (T1.setTop { method := m, pc := pc + 3, locals := ls, stack := .ref T.heap.size :: rest, locked := none }) _
  jvm_step X₁.here [X₁.here.top, hexec, d3', Value.category]
  exact X₁.ldcString hexec (own := own) (text := text) (index := is) (a := sa) hown' hstr'.1 hstr'.2
    (g := { method := m, pc := pc + 4, locals := ls, stack := .ref T.heap.size :: .ref T.heap.size :: rest, locked := none }) rfl d4' _ hsteps
/-- 'throw new E("text")', the text by a wide index -/
theorem vx_throwSW {cc : ByteArray} {pc : Nat} (hexec : p.tables.exec = Jvm.exec) (hb : c.code = cc) (hl : l.stackTraces = false) {own cls text : String} {names : List String} {ik is ic mc ms sa : Nat} {A : Nat → Prop}
    (hown : s.vm.findClass own = some m.cls) (hcls : Bundle.fit cls = true) (hnames : ∀ n ∈ names, Bundle.fit n = true)
    (hk : (Cond.classLink own ik cls).before args s = true) (hini : (Cond.initialized cls).before args s = true) (hstr : vk_R own is text sa s) (hat : ∀ w ∈ vx_atS own ic cls names, w.before args s = true)
    (hgood : ∀ w ∈ Cond.classLink own ik cls :: Cond.initialized cls :: vx_atS own ic cls names, vx_ot w = true)
    (hU : vx_Zq Bundle.tN "UNASSIGNED_STACK" Bundle.steD A s s.heap) (hN : vx_Zq Bundle.tN "SUPPRESSED_SENTINEL" Bundle.listD A s s.heap) (hS : va_S A s.heap H locs) (hsize : ls.size = c.maxLocals)
    (d0 : decode cc pc = .ok (.new ik, 3)) (d3 : decode cc (pc + 3) = .ok (.dup, 1)) (d4 : decode cc (pc + 4) = .ok (.ldc_w is, 3)) (d7 : decode cc (pc + 7) = .ok (.invokespecial ic, 3)) (d10 : decode cc (pc + 10) = .ok (.athrow, 1))
    (hout : ∀ x ∈ c.exceptionTable.toList, covers x (pc + 10) = false)
    (hRframes : names.length + 3 < R.frames) (hRlocals : (rest.map fun v => v.category).sum + (13 * (names.length + 1) + 43) ≤ R.locals) (hRcells : cells + 1 ≤ R.cells) (hRslots : slots + 6 ≤ R.slots) (hlocks : meth.locks = false)
    (hx : ∀ t : State, s.vm.Alike t.vm → H.size ≤ t.heap.size → (∀ q : Nat, q < H.size → t.heap[q]? = H[q]?) → XC cls s t)
    (hf : ∀ z ∈ locs, free z.base) (hc : cells + 1 ≤ mc) (hs : slots + 6 ≤ ms) :
    W p l e R s m args below meth c H locs cells slots (vx_MQ below Qc XC args s mc ms free) (F0 m pc ls rest) := by
  intro T hT X
  have htr : e.platform.stackTraces = false := (show e.platform.stackTraces = l.stackTraces by rw [X.admits.platform]).trans hl
  have Y := vx_rebase X (R' := { frames := R.frames, locals := R.locals, cells := 1, slots := 6 }) (Nat.le_refl _) (Nat.le_refl _) hRcells hRslots
  obtain ⟨s', hA⟩ : ∃ z, z = (T.setVm s.vm).setFrames (.invoking m args :: below) := ⟨_, rfl⟩
  rw [← hA] at Y
  have hvm : s'.vm = s.vm := by rw [hA]; rfl
  have hhp : s'.heap = H := by rw [hA]; exact hT
  have hW0 : s.WarmedH s'.vm := by rw [hvm]; exact State.WarmedH.refl s
  have hat' : ∀ w ∈ vx_atS own ic cls names, w.before args s' = true := fun w hw => vx_ot_at hW0 hvm.symm (hgood w (List.mem_cons_of_mem _ (List.mem_cons_of_mem _ hw))) (hat w hw)
  have hk' : (Cond.classLink own ik cls).before args s' = true := vx_ot_at hW0 hvm.symm (hgood _ List.mem_cons_self) hk
  have hini' : (Cond.initialized cls).before args s' = true := vx_ot_at hW0 hvm.symm (hgood _ (List.mem_cons_of_mem _ List.mem_cons_self)) hini
  have hU' : vx_Zq Bundle.tN "UNASSIGNED_STACK" Bundle.steD A s' s'.heap := by rw [hhp]; exact vx_Zq.moved hW0.alike (hU.kept hS.2.1)
  have hN' : vx_Zq Bundle.tN "SUPPRESSED_SENTINEL" Bundle.listD A s' s'.heap := by rw [hhp]; exact vx_Zq.moved hW0.alike (hN.kept hS.2.1)
  have h : ∀ w ∈ Bundle.ownAtoms own ic cls names, w.before args s' = true := vx_own hat' (vx_isRefq hU'.1) (vx_isRefq hN'.1) hU'.2.word hN'.2.word
  have hown' : s'.vm.findClass own = some m.cls := by rw [hvm]; exact hown
  have hins : (Cond.instantiable cls 6).before args s' = true := h _ (by simp [Bundle.ownAtoms])
  obtain ⟨vm₁, cX, kX, hfX, hkX, -, -, X₁, st1⟩ := Y.newCold hexec (own := own) (C := cls) (index := ik) (n := 6) hown' hk' hins hini'
    (g := F0 m pc ls rest) rfl (by rw [hb]; exact d0) (Nat.le_refl _) (Nat.le_refl _)
  generalize hT1 : (T.setVm vm₁).pushCell { cls := cX, slots := kX.instanceTypes.map defaultValue, vm := .none } = T1 at X₁ st1
  have hcat : (Value.ref T.heap.size).category = 1 := rfl
  have hcellA : T1.heap[T.heap.size]? = some (freshCell cX kX) := by rw [← hT1]; exact State.heap_pushCell_size _ _
  have d3' : decode c.code (pc + 3) = .ok (.dup, 1) := by rw [hb]; exact d3
  have d4' : decode c.code (pc + 4) = .ok (.ldc_w is, 3) := by rw [hb]; exact d4
  have hstr' : vk_R own is text sa s' := vk_R.warm hW0 hstr
  obtain ⟨U, hsteps, hrun, hend, hW, hsame, ce, hce, hO⟩ := X₁.ctorThrowS hexec htr (own := own) (cls := cls) (names := names) (ic := ic) hown' hcls hnames h (fun x hx => nomatch hx) hfX hkX hcellA (by rw [hhp, hT]; exact Nat.le_refl _) (msg := .ref sa) rfl
    (g := { method := m, pc := pc + 7, locals := ls, stack := .ref sa :: .ref T.heap.size :: .ref T.heap.size :: rest, locked := none }) rfl hsize rfl rfl (rest := rest) rfl
    (by rw [hb]; exact d7) (by rw [hb]; exact d10) hout hRframes (by simp only [List.map_cons, List.sum_cons, hcat]; omega) hlocks
  obtain ⟨f1, f2⟩ := vx_frame hsame
  rw [hhp] at f1 f2
  have hWs : s.WarmedH U.vm := State.WarmedH.trans hW0 hW
  have hcl : s.vm.findClass cls = some ce.cls := by
    have h9 := hO.cls
    rw [hvm] at h9
    exact h9
  have hall : s.sameButNew ({ U with vm := s.vm } : State) locs mc ms := by
    subst hA
    obtain ⟨e1, e2⟩ := hsame
    rw [State.setFrames_setFrames] at e1
    have h2 : (T.setVm s.vm).sameButNew ({ U with vm := s.vm } : State) [] (0 + 1) (0 + 6) := ⟨e1, e2⟩
    have h3 := X.same.trans h2
    rw [List.append_nil] at h3
    exact h3.mono hc hs
  refine ⟨U, ?_, .threw T.heap.size, hrun, hend, Or.inr ⟨T.heap.size, rfl, cls, ce, locs, hx U hWs.alike f1 (fun q hq => f2 q hq (fun z hz => nomatch hz)), hce, hO.vm, hcl, hWs, hall, hf⟩⟩
  refine st1 _ ?_
  show Steps p.tables e below (T1.setTop { method := m, pc := pc + 3, locals := ls, stack := .ref T.heap.size :: rest, locked := none }) _
  jvm_step X₁.here [X₁.here.top, hexec, d3', Value.category]
  exact X₁.ldcStringW hexec (own := own) (text := text) (index := is) (a := sa) hown' hstr'.1 hstr'.2
    (g := { method := m, pc := pc + 4, locals := ls, stack := .ref T.heap.size :: .ref T.heap.size :: rest, locked := none }) rfl d4' _ hsteps
end Ends
section Bodies
variable {l : Launch}
theorem vx_ofW {y : MethodName} {ws ws' : List Cond} {rm : Room} {Pc : Array Value → State → Prop} {Qc : Array Value → State → Outcome → State → Prop} {XC : String → State → State → Prop} {mc ms : Nat} {free : Addr → Prop} {cc : ByteArray} {maxL : Nat} {ret : Option FieldType}
    (hy : plainName y.cls = true) (hw : ws = Cond.code y cc maxL ret :: ws')
    (body : ∀ p e s m args below meth c s₁, BodyLoose p l y (headSpec ws rm) cc maxL ret e s m args below meth c s₁ → c.maxLocals = maxL → (∀ x ∈ c.exceptionTable.toList, False) → Pc args s →
      W p l e (headSpec ws rm).room s m args below meth c s.heap [] 0 0 (vx_MQ below Qc XC args s mc ms free) (entryFrame m args maxL)) : vx_Met l y ws rm Pc Qc XC mc ms free := by
  refine MetFree.of_bodyS (code := cc) (maxLocals := maxL) (ret := ret) hy ?_ ?_
  · intro args s m h hn
    obtain ⟨meth, c, h1, h2, h3, h4, h5, h6, -, -⟩ := Cond.code_spec hn (atoms_spec (ws := ws) h _ (by rw [hw]; exact List.mem_cons_self))
    exact ⟨meth, c, h1, h2, h3, h4, h5, h6⟩
  · intro p e s m args below meth c s₁ B hml hP _
    have hh0 : s₁.heap = s.heap := by rw [B.state]; rfl
    have ht : ∀ x ∈ c.exceptionTable.toList, False := by
      obtain ⟨meth9, c9, h1, h2, -, -, -, -, h7, -⟩ := Cond.code_spec B.named (atoms_spec (ws := ws) B.pre _ (by rw [hw]; exact List.mem_cons_self))
      cases Option.some.inj (h1.symm.trans B.method)
      cases Option.some.inj (h2.symm.trans (Stand.of_body B).code)
      intro x hx
      rw [Array.isEmpty_iff.mp h7] at hx
      cases hx
    obtain ⟨t, a1, o, b1, b2, b3⟩ := body p e s m args below meth c s₁ B hml ht hP s₁ hh0 (Stand.of_body B)
    exact ⟨t, o, a1, b1, b2, b3⟩
/-- the table of a body with handlers -/
theorem vx_table {p : Program} {x y : MethodName} {S : Spec} {cc bytes : ByteArray} {maxL maxL' : Nat} {ret ret' : Option FieldType} {e : Env} {s s₁ : State} {m : MethodId} {args : Array Value} {below : List Frame} {meth : Method} {c : Code} {hh : List (Nat × Nat × Nat × Nat)}
    (B : BodyLoose p l y S cc maxL ret e s m args below meth c s₁) (h : (Cond.codeWith y bytes maxL' ret' hh).before args s = true) : c.exceptionTable.toList = tableOf hh := by
  obtain ⟨m9, meth9, c9, hn9, h1, h2, -, -, h6, -⟩ := Cond.codeWith_spec h
  cases Option.some.inj (hn9.symm.trans B.named)
  cases Option.some.inj (h1.symm.trans B.method)
  cases Option.some.inj (h2.symm.trans (Stand.of_body B).code)
  rw [← h6, table_eq]
end Bodies
end VXA
/-! ===== END ===== -/
/-! ===== BEGIN a static call of a method with an exception table ===== -/
section VXS
variable {p : Program} {l : Launch} {e : Env} {R : Room} {s : State} {m : MethodId} {args : Array Value} {below : List Frame} {meth : Method} {c : Code} {T : State} {H : Heap} {locs : List Loc} {cells slots : Nat}
abbrev vx_CSW (R : Room) (s : State) (args : Array Value) (own : String) (index : Nat) (y : MethodName) (bytes : ByteArray) (maxL : Nat) (ret : Option FieldType) (hh : List (Nat × Nat × Nat × Nat)) (ws : List Cond) (rm : Room) (mc ms n : Nat) : Prop :=
  (rm.cells = mc ∧ rm.slots = ms ∧ rm.frames + 1 ≤ R.frames ∧ 8 + (maxL + 11) + rm.locals ≤ R.locals ∧ (∀ w ∈ ws, ∀ (a' : Array Value) (U : State), s.WarmedH U.vm → w.before a' U = true) ∧ Cond.codeWith y bytes maxL ret hh ∈ ws) ∧
  (Cond.codeWith y bytes maxL ret hh).before args s = true ∧ (Cond.initialized y.cls).before args s = true ∧ (y.cls ≠ "java/lang/invoke/MethodHandle" ∧ y.cls ≠ "java/lang/invoke/VarHandle") ∧
  (∀ sig, parseMethodDescriptor y.desc = some sig → n = sig.parameters.length) ∧ (Cond.methodLink own index y).before args s = true ∧ (Cond.static y).before args s = true
theorem vx_cwSW {own : String} {index maxL mc ms : Nat} {y : MethodName} {bytes : ByteArray} {ret : Option FieldType} {hh : List (Nat × Nat × Nat × Nat)} {Ts ws ws' : List Cond} {rm : Room} (n : Nat) (ht : ∀ w ∈ Ts, w.before args s = true) (hT : GoodIn Ts (va_wsS own index y ws)) (hw : ws = Cond.codeWith y bytes maxL ret hh :: ws') (hrc : rm.cells = mc) (hrs : rm.slots = ms)
    (hd : y.cls ≠ "java/lang/invoke/MethodHandle" ∧ y.cls ≠ "java/lang/invoke/VarHandle" ∧ (parseMethodDescriptor y.desc).map (fun d => d.parameters.length) = some n) (hR : rm.frames + 1 ≤ R.frames ∧ 8 + (maxL + 11) + rm.locals ≤ R.locals) :
    vx_CSW R s args own index y bytes maxL ret hh ws rm mc ms n := by
  have ok : ∀ w ∈ va_wsS own index y ws, w.before args s = true := fun w h => ht w (hT w h).1
  have hG : GoodIn Ts ws := fun w h => hT w (by unfold va_wsS; exact List.mem_append_right _ h)
  have hc : Cond.codeWith y bytes maxL ret hh ∈ ws := by rw [hw]; exact List.mem_cons_self
  refine ⟨⟨hrc, hrs, hR.1, hR.2, pay_in ht hG, hc⟩, ht _ (hG _ hc).1, ok _ (by simp [va_wsS]), ⟨hd.1, hd.2.1⟩, fun sig h => ?_, ok _ (by simp [va_wsS]), ok _ (by simp [va_wsS])⟩
  have h2 := hd.2.2
  rw [h] at h2
  exact (Option.some.inj h2).symm
theorem vx_callSW (X : Stand p l e R s m args below meth c T locs cells slots) (hexec : p.tables.exec = Jvm.exec) {own : String} {index : Nat} {y : MethodName} {bytes : ByteArray} {maxL : Nat} {ret : Option FieldType} {hh : List (Nat × Nat × Nat × Nat)}
    (hown : s.vm.findClass own = some m.cls) (hlink : (Cond.methodLink own index y).before args s = true) (hstat : (Cond.static y).before args s = true) (hinit : (Cond.initialized y.cls).before args s = true)
    (hcode : (Cond.codeWith y bytes maxL ret hh).before args s = true) (hy : y.cls ≠ "java/lang/invoke/MethodHandle" ∧ y.cls ≠ "java/lang/invoke/VarHandle")
    {W9 : Nat} {Pre : Pt → Array Value → Prop} {Post : Pt → Array Value → Option Value → Pt → Prop} (hK : Back l R p e below s args y 3 W9 Pre Post)
    {g : JFrame} (hg : g.method = m) (hsize : g.locals.size = c.maxLocals) {argsL rest : List Value} (hlen : ∀ sig, parseMethodDescriptor y.desc = some sig → argsL.length = sig.parameters.length)
    (hstack : g.stack = argsL.reverse ++ rest) (hW : 2 * g.monitorRoom + (rest.map fun v => v.category).sum ≤ W9) (hdg : decode c.code g.pc = .ok (.invokestatic index, 3))
    (hpre : ∀ vm₁, s.WarmedH vm₁ → Pre ⟨T.setVm vm₁, locs, cells, slots⟩ argsL.toArray) :
    ∃ (v : Option Value) (vm₁ : Vm) (B : Pt), s.WarmedH vm₁ ∧ Stand p l e R s m args below meth c B.U B.locs B.cells B.slots ∧ Post ⟨T.setVm vm₁, locs, cells, slots⟩ argsL.toArray v B ∧
      ∀ target, Steps p.tables e below (B.U.setTop { g with pc := g.pc + 3, stack := v.toList ++ rest }) target → Steps p.tables e below (T.setTop g) target := by
  obtain ⟨mk, methM, cM, hnamed, hmethM, -, -, -, -, -, -, hsigM⟩ := Cond.codeWith_spec hcode
  have hstatic : methM.isStatic = true := Cond.static_spec hnamed hmethM hstat
  obtain ⟨kP, hkP, -⟩ := className_of_methodNamed hnamed
  have hinitP : kP.init = .initialized := Cond.initialized_spec (findClass_of_methodNamed hnamed) hkP hinit
  obtain ⟨vm₁, X₁, hstep₁⟩ := X.invokestatic hexec hown hlink hnamed hmethM hstatic hkP hinitP hy (g := g) hg (argsL := argsL) (rest := rest) (hlen _ hsigM) hstack hdg
  obtain ⟨v, B, X', hpost, hsteps⟩ := hK m meth c ⟨T.setVm vm₁, locs, cells, slots⟩ { g with stack := rest } (.invokestatic index) mk argsL.toArray X₁ hg hsize hdg hW (X₁.named hnamed) (hpre vm₁ X₁.warmed)
  exact ⟨v, vm₁, B, X₁.warmed, X', hpost, fun target h => hstep₁ _ fun acts => by rw [doInvoke_state]; exact hsteps.trans h⟩
theorem vx_runSW {y : MethodName} {bytes cc : ByteArray} {maxL nL mc ms n index : Nat} {ret : Option FieldType} {hh : List (Nat × Nat × Nat × Nat)} {ws : List Cond} {rm : Room} {Pc : Array Value → State → Prop} {Qc : Array Value → State → Outcome → State → Prop} {free : Addr → Prop} {Ts : List Cond} {own : String} {As rest : List Value} {g : JFrame}
    (S : CallFix p m c cc nL s args Ts own) (hM : Met l y ws rm Pc Qc mc ms free) (cw : vx_CSW R s args own index y bytes maxL ret hh ws rm mc ms n) (hp : PreS s H Pc As)
    (hg : g.method = m) (hn : As.length = n) (hsize : g.locals.size = nL) (hstack : g.stack = As.reverse ++ rest) (hW : 2 * g.monitorRoom + (rest.map fun v => v.category).sum ≤ 8) (hdg : decode cc g.pc = .ok (.invokestatic index, 3)) (hf : cells + mc ≤ R.cells ∧ slots + ms ≤ R.slots) :
    va_Run p l e R s m args below meth c H locs cells slots mc ms g rest (Qc As.toArray) (free) := by
  obtain ⟨⟨hrc, hrs, hfr, hlo, hws, hcw⟩, hcode, hini, hy, hlen, hl, hstt⟩ := cw
  have hK : Back l R p e below s args y 3 8 (PreOf R mc ms Pc) (PostOf Qc mc ms free) := va_backW (hh := hh) (bytes := bytes) (maxL := maxL) (ret := ret) hM hp.1 hrc hrs hfr hlo hws hcw (fun a' U hW => word_at hW (Or.inl (by first | rfl | simp [Cond.onTables, Cond.keeps, Cond.steady])) hini)
  obtain ⟨hx, hb, hml, ho, -⟩ := S
  intro T hT X
  obtain ⟨v, vm₁, ⟨U', l2, c2, s2⟩, hW₁, X', ⟨g', mk, t, L, e1, e2, hq, h1, hL, h2, h3⟩, st⟩ := vx_callSW X hx (hh := hh) (bytes := bytes) (maxL := maxL) (ret := ret) ho hl hstt hini hcode hy hK hg (hsize.trans hml.symm) (argsL := As) (rest := rest) (fun sig h => hn.trans (hlen sig h)) hstack hW (by rw [hb]; exact hdg)
    (fun vm₁ hW₁ => ⟨hf.1, hf.2, hp.2 (T.setVm vm₁) hT hW₁⟩)
  dsimp only [Pt.U, Pt.locs, Pt.cells, Pt.slots] at X' e1 e2 h1 h2 h3 st
  subst h1; subst h2; subst h3
  exact ⟨v, (T.setVm vm₁).calling g' mk As.toArray, t, U', L, hT, X', hL, e1, e2, hq, st⟩
/-- not caught here, past rows that name other classes: it goes on to the caller -/
theorem vx_outP {p : Program} {l : Launch} {e : Env} {R : Room} {s : State} {m : MethodId} {args : Array Value} {below : List Frame} {meth : Method} {c : Code} {H : Heap} {locs : List Loc} {cells slots : Nat} {free : Addr → Prop} {ls : Array Slot} {rest : List Value} {Qc : Array Value → State → Outcome → State → Prop} {XC : String → State → State → Prop}
    {pc : Nat} {own E : String} {ce : Cell} {q : Addr} {mc ms : Nat} (hown : s.vm.findClass own = some m.cls) (hlocks : meth.locks = false)
    (hpass : ∀ z ∈ c.exceptionTable.toList, covers z pc = false ∨ (z.catchType ≠ 0 ∧ ∃ nm : String, (Cond.classLink own z.catchType nm).before args s = true ∧ va_Nc E nm s)) (hcell : H[q]? = some ce) (hv : ce.vm = .none) (hcl : s.vm.findClass E = some ce.cls)
    (hx : ∀ t : State, t.heap = H → s.vm.Alike t.vm → XC E s t) (hf : ∀ z ∈ locs, free z.base) (hc : cells ≤ mc) (hs : slots ≤ ms) :
    vx_W p l e R s m args below meth c H locs cells slots (vx_MQ below Qc XC args s mc ms free) (F0 m pc ls rest) q := by
  intro T hT X
  have hpl : e.platform.magicAccessors = ({} : Platform).magicAccessors := by rw [X.admits.platform]
  obtain ⟨vm', hW', X', st⟩ := X.outThrough hlocks q (g := F0 m pc ls rest) rfl rfl rfl (cell := ce) (by rw [hT]; exact hcell) (by rw [hv]; rfl)
    (by obtain ⟨k9, h9, -⟩ := Vm.findClass_spec hcl; exact ⟨k9, h9⟩) (fun z hz => by
      rcases hpass z hz with h | ⟨hz0, nm, hl1, hn1⟩
      · exact Or.inl h
      · obtain ⟨c6, hc6, hcl6⟩ := Cond.classLink_spec hown hl1 e.platform hpl
        obtain ⟨a8, b8, h1, h2, h3⟩ := hn1
        cases Option.some.inj (h1.symm.trans hcl)
        cases Option.some.inj (h2.symm.trans hc6)
        exact Or.inr ⟨hz0, _, hcl6, h3⟩)
  obtain ⟨g₀, hfr⟩ := X'.frames_eq
  have hcell9 : ((T.setVm vm').setFrames (.throwing q :: below)).heap[q]? = some ce := by
    show T.heap[q]? = some ce
    rw [hT]; exact hcell
  have hend : Ended ((T.setVm vm').setFrames (.throwing q :: below)) below (.threw q) := State.frames_setFrames _ (State.cur_lt_of_frames hfr)
  refine ⟨(T.setVm vm').setFrames (.throwing q :: below), ?_, .threw q, X'.here.running, hend, Or.inr ⟨q, rfl, E, ce, locs, hx _ hT (X'.ends _).1.alike, hcell9, hv, hcl, (X'.ends _).1, (X'.ends _).2.mono hc hs, hf⟩⟩
  rw [X.pushThrowing_eq]
  exact st
/-- a thing of a world lies in the heap -/
theorem vx_lt {D : va_G} {cl : List vw_C} {ws : va_W} {H1 : Heap} (h : va_P D cl ws H1) {k : Nat} {q : Nat × va_E} (hk : ws[k]? = some q) : q.1 < H1.size := (h k q hk).lt
end VXS
/-! ===== END ===== -/
/-! ===== BEGIN methods with a table of their own: called by a name, returning or throwing ===== -/
section VXH
/-! vx_backW, vx_callVX, vx_callSX, vx_callVW, vx_runVW, vx_runVX, vx_runSX, vx_ofWH follow the same proofs as their sisters above (Free/Laws.lean, Shelf42/LK1.lean); vx_outP calls Shelf42/NT130.lean (outThrough). -/
section
variable {l : Launch} {R : Room} {p : Program} {e : Env} {below : List Frame} {s : State} {sargs : Array Value} {y : MethodName} {len W9 : Nat}
theorem vx_backW {ws : List Cond} {rm : Room} {Pc : Array Value → State → Prop} {Qc : Array Value → State → Outcome → State → Prop} {XC : String → State → State → Prop} {mc ms : Nat} {free : Addr → Prop} {bytes : ByteArray} {maxL : Nat} {ret : Option FieldType} {hh : List (Nat × Nat × Nat × Nat)}
    (hM : vx_Met l y ws rm Pc Qc XC mc ms free) (hblind : FrameBlind Pc) (hrc : rm.cells = mc) (hrs : rm.slots = ms)
    (hframes : rm.frames + 1 ≤ R.frames) (hlocals : W9 + (maxL + 11) + rm.locals ≤ R.locals)
    (hws : ∀ w ∈ ws, ∀ a' U, s.WarmedH U.vm → w.before a' U = true) (hcode : Cond.codeWith y bytes maxL ret hh ∈ ws) (hinit : ∀ a' U, s.WarmedH U.vm → (Cond.initialized y.cls).before a' U = true) :
    vx_Back l R p e below s sargs y len W9 (PreOf R mc ms Pc) (PostOf Qc mc ms free) (vx_Post XC mc ms free) := by
  intro m meth c A g ig mk a X hg hsize hdg hW hn hp
  have h1 : (headSpec ws rm).pre.before a A.U = true := atoms_intro fun w hw => hws w hw _ _ X.warmed
  have h2 : (Cond.codeWith y bytes maxL ret hh).before a A.U = true := hws _ hcode _ _ X.warmed
  have h3 : (Cond.initialized y.cls).before a A.U = true := hinit _ _ X.warmed
  have h4 : A.cells + (headSpec ws rm).room.cells ≤ R.cells := by rw [show (headSpec ws rm).room.cells = mc from hrc]; exact hp.1
  have h5 : A.slots + (headSpec ws rm).room.slots ≤ R.slots := by rw [show (headSpec ws rm).room.slots = ms from hrs]; exact hp.2.1
  have hPc : Pc a (A.U.calling g mk a) := hblind _ _ _ _ hp.2.2
  obtain ⟨U, Ls, c0, s0⟩ := A
  dsimp only [Pt.U, Pt.locs, Pt.cells, Pt.slots] at h1 h2 h3 h4 h5 X hn hPc ⊢
  obtain ⟨m9, methY, cY, hn9, hmY, hcY, -, hlY, -⟩ := Cond.codeWith_spec h2
  cases Option.some.inj (hn9.symm.trans hn)
  obtain ⟨kY, hkY, -⟩ := className_of_methodNamed hn
  have hinitY : kY.init = .initialized := Cond.initialized_spec (findClass_of_methodNamed hn) hkY h3
  have h : At U g.method c below := by rw [hg]; exact X.here
  have hlocals9 : W9 + (maxL + 11) + (headSpec ws rm).room.locals ≤ R.locals := hlocals
  have happ : (headSpec ws rm).appliesLoose y e.platform (U.calling g mk a) = true :=
    Spec.appliesLoose_calling (g := g) h hdg hn hkY hinitY
      (X.room_calling (g := g) (R' := (headSpec ws rm).room) hsize hmY hcY hframes (by rw [hlY]; omega) h4 h5) h1
  obtain ⟨mid, hmid⟩ := h.above
  have hfr : (U.setTop g).frames = (.java g :: mid) ++ below := by rw [State.frames_setTop' g h.top, hmid]; rfl
  obtain ⟨o, s₂, hsteps, -, hend, hq⟩ := Steps.callFree hM p X.admits X.cas X.clock (acts := []) hfr happ hPc trivial
  have hq' : vx_Q Qc XC mc ms free a (U.calling g mk a) o s₂ := hq
  rw [State.frames_setTop' g h.top] at hend
  obtain ⟨g₀, hg0⟩ := Option.isSome_iff_exists.mp h.top
  obtain ⟨r, hr⟩ := State.topJava?_eq_some.mp hg0
  have hr' : (({ U with heap := s₂.heap, slotsUsed := s₂.slotsUsed } : State).setVm s₂.vm).frames = .java g₀ :: r := hr
  rcases hq' with ⟨hqc, L, hfe, hL⟩ | ⟨q, rfl, E, ce, L, hx, hce, hcv, hcl, hW₂, hsm, hL⟩
  · obtain ⟨⟨v, rfl⟩, hW₂, e2, q2, q3, q4, q5, q6⟩ := id hfe
    have e3 : s₂ = ({ (U.calling g mk a).setFrames s₂.frames with heap := s₂.heap, slotsUsed := s₂.slotsUsed } : State).setVm s₂.vm := by
      have : s₂ = ({ s₂ with vm := (U.calling g mk a).vm } : State).setVm s₂.vm := rfl
      rw [e2] at this
      exact this
    obtain ⟨c₂, i₂, len₂, hc₂, hd₂, hf₂⟩ := hend
    have hW' : U.WarmedH s₂.vm := hW₂
    have hcc : c₂ = c := by
      have h1 : s₂.code? g.method = U.code? g.method := by
        rw [State.code?_eq, State.code?_eq, hW'.alike.method?]
      exact Option.some.inj (hc₂.symm.trans (h1.trans h.code))
    subst hcc
    have hlen : len₂ = len := by rw [hdg] at hd₂; cases hd₂; rfl
    subst hlen
    have hs₂ : s₂ = (({ U with heap := s₂.heap, slotsUsed := s₂.slotsUsed } : State).setVm s₂.vm).setTop { g with pc := g.pc + len₂, stack := v.toList ++ g.stack } := by
      refine e3.trans ?_
      rw [hf₂, State.calling_eq h.top, State.setFrames_setFrames, State.setTop_of_frames _ hr', hr]
      rfl
    have hsame : U.sameButNew ({ U with heap := s₂.heap, slotsUsed := s₂.slotsUsed } : State) L mc ms := by
      refine ⟨?_, q2, q3, q4, q5, q6⟩
      obtain ⟨t, ht, -⟩ := State.frames_cons hr
      show ({ U with heap := s₂.heap, slotsUsed := s₂.slotsUsed } : State) = { U.setFrames U.frames with heap := s₂.heap, slotsUsed := s₂.slotsUsed }
      rw [State.setFrames_self ht]
    subst hg
    refine Or.inl ⟨v, ⟨(({ U with heap := s₂.heap, slotsUsed := s₂.slotsUsed } : State).setVm s₂.vm), Ls ++ L, c0 + mc, s0 + ms⟩,
      ⟨X.admits, X.cas, X.clock, X.frames, X.room, X.hears, X.method, X.code, (X.here.setHeapUsed s₂.heap s₂.slotsUsed).setVm hW'.alike, X.tail, State.WarmedH.trans X.warmed hW', X.limits, X.bytes, X.same.trans (hsame.setVm s.vm)⟩,
      ⟨g, mk, s₂, L, rfl, rfl, hqc, rfl, hL, rfl, rfl⟩, ?_⟩
    show Steps p.tables e below _ ((({ U with heap := s₂.heap, slotsUsed := s₂.slotsUsed } : State).setVm s₂.vm).setTop { g with pc := g.pc + len₂, stack := v.toList ++ g.stack })
    rw [← hs₂]
    exact hsteps
  · obtain ⟨e2, q2, q3, q4, q5, q6⟩ := id hsm
    have e3 : s₂ = ({ (U.calling g mk a).setFrames s₂.frames with heap := s₂.heap, slotsUsed := s₂.slotsUsed } : State).setVm s₂.vm := by
      have : s₂ = ({ s₂ with vm := (U.calling g mk a).vm } : State).setVm s₂.vm := rfl
      rw [e2] at this
      exact this
    have hf₂ : s₂.frames = .throwing q :: .java g :: U.frames.tail := hend
    have hW' : U.WarmedH s₂.vm := hW₂
    have hs₂ : s₂ = ((({ U with heap := s₂.heap, slotsUsed := s₂.slotsUsed } : State).setVm s₂.vm).setTop g).pushFrame (.throwing q) := by
      refine e3.trans ?_
      rw [hf₂, State.calling_eq h.top, State.setFrames_setFrames, State.pushFrame, State.frames_setTop _ hr', State.setTop_of_frames _ hr', State.setFrames_setFrames, hr]
      rfl
    have hsame : U.sameButNew ({ U with heap := s₂.heap, slotsUsed := s₂.slotsUsed } : State) L mc ms := by
      refine ⟨?_, q2, q3, q4, q5, q6⟩
      obtain ⟨t, ht, -⟩ := State.frames_cons hr
      show ({ U with heap := s₂.heap, slotsUsed := s₂.slotsUsed } : State) = { U.setFrames U.frames with heap := s₂.heap, slotsUsed := s₂.slotsUsed }
      rw [State.setFrames_self ht]
    subst hg
    refine Or.inr ⟨q, ⟨(({ U with heap := s₂.heap, slotsUsed := s₂.slotsUsed } : State).setVm s₂.vm), Ls ++ L, c0 + mc, s0 + ms⟩,
      ⟨X.admits, X.cas, X.clock, X.frames, X.room, X.hears, X.method, X.code, (X.here.setHeapUsed s₂.heap s₂.slotsUsed).setVm hW'.alike, X.tail, State.WarmedH.trans X.warmed hW', X.limits, X.bytes, X.same.trans (hsame.setVm s.vm)⟩,
      ⟨g, mk, s₂, L, E, ce, rfl, rfl, hx, hce, hcv, hcl, rfl, hL, rfl, rfl⟩, ?_⟩
    show Steps p.tables e below _ (((({ U with heap := s₂.heap, slotsUsed := s₂.slotsUsed } : State).setVm s₂.vm).setTop g).pushFrame (.throwing q))
    rw [← hs₂]
    exact hsteps
end
variable {p : Program} {l : Launch} {e : Env} {R : Room} {s : State} {m : MethodId} {args : Array Value} {below : List Frame} {meth : Method} {c : Code} {T : State} {H : Heap} {locs : List Loc} {cells slots : Nat}
theorem vx_callVX (X : Stand p l e R s m args below meth c T locs cells slots) (hexec : p.tables.exec = Jvm.exec) {own C : String} {index : Nat} {y : MethodName} {bytes : ByteArray} {maxL : Nat} {ret : Option FieldType} {hh : List (Nat × Nat × Nat × Nat)}
    (hown : s.vm.findClass own = some m.cls) (hlink : (Cond.methodLink own index y).before args s = true) (hinst : (Cond.instanceMethod y).before args s = true) (hsel : (Cond.selects C y y).before args s = true)
    (hcode : (Cond.codeWith y bytes maxL ret hh).before args s = true) (hy : y.cls ≠ "java/lang/invoke/MethodHandle" ∧ y.cls ≠ "java/lang/invoke/VarHandle")
    {W9 : Nat} {Pre : Pt → Array Value → Prop} {Post : Pt → Array Value → Option Value → Pt → Prop} {PostX : Pt → Array Value → Addr → Pt → Prop} (hK : vx_Back l R p e below s args y 3 W9 Pre Post PostX)
    {b : Addr} {cellB : Cell} (hcell : T.heap[b]? = some cellB) (hobj : cellB.vm.isStatics = false) (hcls : s.vm.findClass C = some cellB.cls)
    {g : JFrame} (hg : g.method = m) (hsize : g.locals.size = c.maxLocals) {argsL rest : List Value} (hlen : ∀ sig, parseMethodDescriptor y.desc = some sig → argsL.length = sig.parameters.length)
    (hstack : g.stack = argsL.reverse ++ .ref b :: rest) (hW : 2 * g.monitorRoom + (rest.map fun v => v.category).sum ≤ W9) (hdg : decode c.code g.pc = .ok (.invokevirtual index, 3))
    (hpre : ∀ vm₁, s.WarmedH vm₁ → Pre ⟨T.setVm vm₁, locs, cells, slots⟩ (Value.ref b :: argsL).toArray) :
    (∃ (v : Option Value) (vm₁ : Vm) (B : Pt), s.WarmedH vm₁ ∧ Stand p l e R s m args below meth c B.U B.locs B.cells B.slots ∧ Post ⟨T.setVm vm₁, locs, cells, slots⟩ (Value.ref b :: argsL).toArray v B ∧
      ∀ target, Steps p.tables e below (B.U.setTop { g with pc := g.pc + 3, stack := v.toList ++ rest }) target → Steps p.tables e below (T.setTop g) target) ∨
    (∃ (q : Addr) (vm₁ : Vm) (B : Pt), s.WarmedH vm₁ ∧ Stand p l e R s m args below meth c B.U B.locs B.cells B.slots ∧ PostX ⟨T.setVm vm₁, locs, cells, slots⟩ (Value.ref b :: argsL).toArray q B ∧
      Steps p.tables e below (T.setTop g) ((B.U.setTop { g with stack := rest }).pushFrame (.throwing q))) := by
  obtain ⟨mk, methM, hnamed, hmethM, hstM, habM⟩ := Cond.instanceMethod_spec hinst
  obtain ⟨m8, methM', cM, hn8, hmethM', -, -, -, -, -, -, hsigM⟩ := Cond.codeWith_spec hcode
  cases Option.some.inj (hn8.symm.trans hnamed)
  cases hmethM.symm.trans hmethM'
  obtain ⟨c2, r2, m2, q1, q2, q3, q4, kP, hkP, hkPi⟩ := Cond.selects_spec hsel
  cases hcls.symm.trans q1
  cases (State.methodFound?_of_named hnamed hy).symm.trans q2
  cases hnamed.symm.trans q3
  have hselP : selectMethod e.platform s.vm cellB.cls mk = .method mk := by rw [Launch.admits_selectMethod X.admits]; exact q4
  obtain ⟨vm₁, X₁, hstep₁⟩ := X.invokevirtual hexec hown hlink hnamed hmethM hstM hkP hkPi hy (a := b) (cell := cellB) hcell
    (fun z h => by rw [h] at hobj; cases hobj) hselP hmethM habM hkP hkPi (g := g) hg (argsL := argsL) (rest := rest) (hlen _ hsigM) hstack hdg
  rcases hK m meth c ⟨T.setVm vm₁, locs, cells, slots⟩ { g with stack := rest } (.invokevirtual index) mk (Value.ref b :: argsL).toArray X₁ hg hsize hdg hW (X₁.named hnamed) (hpre vm₁ X₁.warmed) with ⟨v, B, X', hpost, hsteps⟩ | ⟨q, B, X', hpost, hsteps⟩
  · exact Or.inl ⟨v, vm₁, B, X₁.warmed, X', hpost, fun target h => hstep₁ _ fun acts => by rw [doInvoke_state]; exact hsteps.trans h⟩
  · exact Or.inr ⟨q, vm₁, B, X₁.warmed, X', hpost, hstep₁ _ fun acts => by rw [doInvoke_state]; exact hsteps⟩
theorem vx_callSX (X : Stand p l e R s m args below meth c T locs cells slots) (hexec : p.tables.exec = Jvm.exec) {own : String} {index : Nat} {y : MethodName} {bytes : ByteArray} {maxL : Nat} {ret : Option FieldType} {hh : List (Nat × Nat × Nat × Nat)}
    (hown : s.vm.findClass own = some m.cls) (hlink : (Cond.methodLink own index y).before args s = true) (hstat : (Cond.static y).before args s = true) (hinit : (Cond.initialized y.cls).before args s = true)
    (hcode : (Cond.codeWith y bytes maxL ret hh).before args s = true) (hy : y.cls ≠ "java/lang/invoke/MethodHandle" ∧ y.cls ≠ "java/lang/invoke/VarHandle")
    {W9 : Nat} {Pre : Pt → Array Value → Prop} {Post : Pt → Array Value → Option Value → Pt → Prop} {PostX : Pt → Array Value → Addr → Pt → Prop} (hK : vx_Back l R p e below s args y 3 W9 Pre Post PostX)
    {g : JFrame} (hg : g.method = m) (hsize : g.locals.size = c.maxLocals) {argsL rest : List Value} (hlen : ∀ sig, parseMethodDescriptor y.desc = some sig → argsL.length = sig.parameters.length)
    (hstack : g.stack = argsL.reverse ++ rest) (hW : 2 * g.monitorRoom + (rest.map fun v => v.category).sum ≤ W9) (hdg : decode c.code g.pc = .ok (.invokestatic index, 3))
    (hpre : ∀ vm₁, s.WarmedH vm₁ → Pre ⟨T.setVm vm₁, locs, cells, slots⟩ argsL.toArray) :
    (∃ (v : Option Value) (vm₁ : Vm) (B : Pt), s.WarmedH vm₁ ∧ Stand p l e R s m args below meth c B.U B.locs B.cells B.slots ∧ Post ⟨T.setVm vm₁, locs, cells, slots⟩ argsL.toArray v B ∧
      ∀ target, Steps p.tables e below (B.U.setTop { g with pc := g.pc + 3, stack := v.toList ++ rest }) target → Steps p.tables e below (T.setTop g) target) ∨
    (∃ (q : Addr) (vm₁ : Vm) (B : Pt), s.WarmedH vm₁ ∧ Stand p l e R s m args below meth c B.U B.locs B.cells B.slots ∧ PostX ⟨T.setVm vm₁, locs, cells, slots⟩ argsL.toArray q B ∧
      Steps p.tables e below (T.setTop g) ((B.U.setTop { g with stack := rest }).pushFrame (.throwing q))) := by
  obtain ⟨mk, methM, cM, hnamed, hmethM, -, -, -, -, -, -, hsigM⟩ := Cond.codeWith_spec hcode
  have hstatic : methM.isStatic = true := Cond.static_spec hnamed hmethM hstat
  obtain ⟨kP, hkP, -⟩ := className_of_methodNamed hnamed
  have hinitP : kP.init = .initialized := Cond.initialized_spec (findClass_of_methodNamed hnamed) hkP hinit
  obtain ⟨vm₁, X₁, hstep₁⟩ := X.invokestatic hexec hown hlink hnamed hmethM hstatic hkP hinitP hy (g := g) hg (argsL := argsL) (rest := rest) (hlen _ hsigM) hstack hdg
  rcases hK m meth c ⟨T.setVm vm₁, locs, cells, slots⟩ { g with stack := rest } (.invokestatic index) mk argsL.toArray X₁ hg hsize hdg hW (X₁.named hnamed) (hpre vm₁ X₁.warmed) with ⟨v, B, X', hpost, hsteps⟩ | ⟨q, B, X', hpost, hsteps⟩
  · exact Or.inl ⟨v, vm₁, B, X₁.warmed, X', hpost, fun target h => hstep₁ _ fun acts => by rw [doInvoke_state]; exact hsteps.trans h⟩
  · exact Or.inr ⟨q, vm₁, B, X₁.warmed, X', hpost, hstep₁ _ fun acts => by rw [doInvoke_state]; exact hsteps⟩
theorem vx_callVW (X : Stand p l e R s m args below meth c T locs cells slots) (hexec : p.tables.exec = Jvm.exec) {own C : String} {index : Nat} {y : MethodName} {bytes : ByteArray} {maxL : Nat} {ret : Option FieldType} {hh : List (Nat × Nat × Nat × Nat)}
    (hown : s.vm.findClass own = some m.cls) (hlink : (Cond.methodLink own index y).before args s = true) (hinst : (Cond.instanceMethod y).before args s = true) (hsel : (Cond.selects C y y).before args s = true)
    (hcode : (Cond.codeWith y bytes maxL ret hh).before args s = true) (hy : y.cls ≠ "java/lang/invoke/MethodHandle" ∧ y.cls ≠ "java/lang/invoke/VarHandle")
    {W9 : Nat} {Pre : Pt → Array Value → Prop} {Post : Pt → Array Value → Option Value → Pt → Prop} (hK : Back l R p e below s args y 3 W9 Pre Post)
    {b : Addr} {cellB : Cell} (hcell : T.heap[b]? = some cellB) (hobj : cellB.vm.isStatics = false) (hcls : s.vm.findClass C = some cellB.cls)
    {g : JFrame} (hg : g.method = m) (hsize : g.locals.size = c.maxLocals) {argsL rest : List Value} (hlen : ∀ sig, parseMethodDescriptor y.desc = some sig → argsL.length = sig.parameters.length)
    (hstack : g.stack = argsL.reverse ++ .ref b :: rest) (hW : 2 * g.monitorRoom + (rest.map fun v => v.category).sum ≤ W9) (hdg : decode c.code g.pc = .ok (.invokevirtual index, 3))
    (hpre : ∀ vm₁, s.WarmedH vm₁ → Pre ⟨T.setVm vm₁, locs, cells, slots⟩ (Value.ref b :: argsL).toArray) :
    ∃ (v : Option Value) (vm₁ : Vm) (B : Pt), s.WarmedH vm₁ ∧ Stand p l e R s m args below meth c B.U B.locs B.cells B.slots ∧ Post ⟨T.setVm vm₁, locs, cells, slots⟩ (Value.ref b :: argsL).toArray v B ∧
      ∀ target, Steps p.tables e below (B.U.setTop { g with pc := g.pc + 3, stack := v.toList ++ rest }) target → Steps p.tables e below (T.setTop g) target := by
  obtain ⟨mk, methM, hnamed, hmethM, hstM, habM⟩ := Cond.instanceMethod_spec hinst
  obtain ⟨m8, methM', cM, hn8, hmethM', -, -, -, -, -, -, hsigM⟩ := Cond.codeWith_spec hcode
  cases Option.some.inj (hn8.symm.trans hnamed)
  cases hmethM.symm.trans hmethM'
  obtain ⟨c2, r2, m2, q1, q2, q3, q4, kP, hkP, hkPi⟩ := Cond.selects_spec hsel
  cases hcls.symm.trans q1
  cases (State.methodFound?_of_named hnamed hy).symm.trans q2
  cases hnamed.symm.trans q3
  have hselP : selectMethod e.platform s.vm cellB.cls mk = .method mk := by rw [Launch.admits_selectMethod X.admits]; exact q4
  obtain ⟨vm₁, X₁, hstep₁⟩ := X.invokevirtual hexec hown hlink hnamed hmethM hstM hkP hkPi hy (a := b) (cell := cellB) hcell
    (fun z h => by rw [h] at hobj; cases hobj) hselP hmethM habM hkP hkPi (g := g) hg (argsL := argsL) (rest := rest) (hlen _ hsigM) hstack hdg
  obtain ⟨v, B, X', hpost, hsteps⟩ := hK m meth c ⟨T.setVm vm₁, locs, cells, slots⟩ { g with stack := rest } (.invokevirtual index) mk (Value.ref b :: argsL).toArray X₁ hg hsize hdg hW (X₁.named hnamed) (hpre vm₁ X₁.warmed)
  exact ⟨v, vm₁, B, X₁.warmed, X', hpost, fun target h => hstep₁ _ fun acts => by rw [doInvoke_state]; exact hsteps.trans h⟩
abbrev vx_CVW (R : Room) (s : State) (args : Array Value) (own C : String) (index : Nat) (y : MethodName) (bytes : ByteArray) (maxL : Nat) (ret : Option FieldType) (hh : List (Nat × Nat × Nat × Nat)) (ws : List Cond) (rm : Room) (mc ms n : Nat) : Prop :=
  (rm.cells = mc ∧ rm.slots = ms ∧ rm.frames + 1 ≤ R.frames ∧ 8 + (maxL + 11) + rm.locals ≤ R.locals ∧ (∀ w ∈ ws, ∀ (a' : Array Value) (U : State), s.WarmedH U.vm → w.before a' U = true) ∧ Cond.codeWith y bytes maxL ret hh ∈ ws) ∧
  (Cond.codeWith y bytes maxL ret hh).before args s = true ∧ (Cond.initialized y.cls).before args s = true ∧ (y.cls ≠ "java/lang/invoke/MethodHandle" ∧ y.cls ≠ "java/lang/invoke/VarHandle") ∧
  (∀ sig, parseMethodDescriptor y.desc = some sig → n = sig.parameters.length) ∧ (Cond.methodLink own index y).before args s = true ∧ (Cond.instanceMethod y).before args s = true ∧ (Cond.selects C y y).before args s = true
theorem vx_cwVW {own C : String} {index maxL mc ms : Nat} {y : MethodName} {bytes : ByteArray} {ret : Option FieldType} {hh : List (Nat × Nat × Nat × Nat)} {Ts ws ws' : List Cond} {rm : Room} (n : Nat) (ht : ∀ w ∈ Ts, w.before args s = true) (hT : GoodIn Ts (wsV own index C y ws)) (hw : ws = Cond.codeWith y bytes maxL ret hh :: ws') (hrc : rm.cells = mc) (hrs : rm.slots = ms)
    (hd : y.cls = C ∧ y.cls ≠ "java/lang/invoke/MethodHandle" ∧ y.cls ≠ "java/lang/invoke/VarHandle" ∧ (parseMethodDescriptor y.desc).map (fun d => d.parameters.length) = some n) (hR : rm.frames + 1 ≤ R.frames ∧ 8 + (maxL + 11) + rm.locals ≤ R.locals) :
    vx_CVW R s args own C index y bytes maxL ret hh ws rm mc ms n := by
  obtain ⟨hC, hd⟩ := hd
  subst hC
  have ok : ∀ w ∈ wsV own index y.cls y ws, w.before args s = true := fun w h => ht w (hT w h).1
  have hG : GoodIn Ts ws := fun w h => hT w (by unfold wsV; exact List.mem_append_right _ h)
  have hc : Cond.codeWith y bytes maxL ret hh ∈ ws := by rw [hw]; exact List.mem_cons_self
  refine ⟨⟨hrc, hrs, hR.1, hR.2, pay_in ht hG, hc⟩, ht _ (hG _ hc).1, ok _ (by simp [wsV]), ⟨hd.1, hd.2.1⟩, fun sig h => ?_, ok _ (by simp [wsV]), ok _ (by simp [wsV]), ok _ (by simp [wsV])⟩
  have h2 := hd.2.2
  rw [h] at h2
  exact (Option.some.inj h2).symm
theorem vx_runVW {y : MethodName} {bytes cc : ByteArray} {maxL nL mc ms n index : Nat} {ret : Option FieldType} {hh : List (Nat × Nat × Nat × Nat)} {ws : List Cond} {rm : Room} {Pc : Array Value → State → Prop} {Qc : Array Value → State → Outcome → State → Prop} {free : Addr → Prop} {Ts : List Cond} {own C : String} {b : Addr} {As rest : List Value} {g : JFrame}
    (S : CallFix p m c cc nL s args Ts own) (hM : Met l y ws rm Pc Qc mc ms free) (cw : vx_CVW R s args own C index y bytes maxL ret hh ws rm mc ms n) (hp : PreV s H C b Pc As)
    (hg : g.method = m) (hn : As.length = n) (hsize : g.locals.size = nL) (hstack : g.stack = As.reverse ++ .ref b :: rest) (hW : 2 * g.monitorRoom + (rest.map fun v => v.category).sum ≤ 8) (hdg : decode cc g.pc = .ok (.invokevirtual index, 3)) (hf : cells + mc ≤ R.cells ∧ slots + ms ≤ R.slots) :
    va_Run p l e R s m args below meth c H locs cells slots mc ms g rest (Qc (Value.ref b :: As).toArray) free := by
  obtain ⟨⟨hrc, hrs, hfr, hlo, hws, hcw⟩, hcode, hini, hy, hlen, hl, hin, hse⟩ := cw
  have hK : Back l R p e below s args y 3 8 (PreOf R mc ms Pc) (PostOf Qc mc ms free) := va_backW (hh := hh) (bytes := bytes) (maxL := maxL) (ret := ret) hM hp.1 hrc hrs hfr hlo hws hcw (fun a' U hW => word_at hW (Or.inl (by first | rfl | simp [Cond.onTables, Cond.keeps, Cond.steady])) hini)
  obtain ⟨hx, hb, hml, ho, -⟩ := S
  obtain ⟨-, ⟨cellB, hcB, hoB, hclB⟩, hPc⟩ := hp
  intro T hT X
  obtain ⟨v, vm₁, ⟨U', l2, c2, s2⟩, hW₁, X', ⟨g', mk, t, L, e1, e2, hq, h1, hL, h2, h3⟩, st⟩ := vx_callVW X hx (C := C) (hh := hh) (bytes := bytes) (maxL := maxL) (ret := ret) ho hl hin hse hcode hy hK (by rw [hT]; exact hcB) hoB hclB hg (hsize.trans hml.symm) (argsL := As) (rest := rest) (fun sig h => hn.trans (hlen sig h)) hstack hW (by rw [hb]; exact hdg)
    (fun vm₁ hW₁ => ⟨hf.1, hf.2, hPc (T.setVm vm₁) hT hW₁⟩)
  dsimp only [Pt.U, Pt.locs, Pt.cells, Pt.slots] at X' e1 e2 h1 h2 h3 st
  subst h1; subst h2; subst h3
  exact ⟨v, (T.setVm vm₁).calling g' mk (Value.ref b :: As).toArray, t, U', L, hT, X', hL, e1, e2, hq, st⟩
section
variable {y : MethodName} {bytes cc : ByteArray} {maxL nL mc ms n index : Nat} {ret : Option FieldType} {ws : List Cond} {rm : Room} {Pc : Array Value → State → Prop} {Qc : Array Value → State → Outcome → State → Prop} {XC : String → State → State → Prop} {free : Addr → Prop} {Ts : List Cond} {own C : String} {b : Addr} {As rest : List Value} {g : JFrame}
theorem vx_runVX {hh : List (Nat × Nat × Nat × Nat)} (S : CallFix p m c cc nL s args Ts own) (hM : vx_Met l y ws rm Pc Qc XC mc ms free) (cw : vx_CVW R s args own C index y bytes maxL ret hh ws rm mc ms n) (hp : PreV s H C b Pc As)
    (hg : g.method = m) (hn : As.length = n) (hsize : g.locals.size = nL) (hstack : g.stack = As.reverse ++ .ref b :: rest) (hW : 2 * g.monitorRoom + (rest.map fun v => v.category).sum ≤ 8) (hdg : decode cc g.pc = .ok (.invokevirtual index, 3)) (hf : cells + mc ≤ R.cells ∧ slots + ms ≤ R.slots) :
    vx_Run p l e R s m args below meth c H locs cells slots mc ms g rest (Qc (Value.ref b :: As).toArray) XC free := by
  obtain ⟨⟨hrc, hrs, hfr, hlo, hws, hcw⟩, hcode, hini, hy, hlen, hl, hin, hse⟩ := cw
  have hK : vx_Back l R p e below s args y 3 8 (PreOf R mc ms Pc) (PostOf Qc mc ms free) (vx_Post XC mc ms free) := vx_backW (hh := hh) (bytes := bytes) (maxL := maxL) (ret := ret) hM hp.1 hrc hrs hfr hlo hws hcw (fun a' U hW => word_at hW (Or.inl (by first | rfl | simp [Cond.onTables, Cond.keeps, Cond.steady])) hini)
  obtain ⟨hx, hb, hml, ho, -⟩ := S
  obtain ⟨-, ⟨cellB, hcB, hoB, hclB⟩, hPc⟩ := hp
  intro T hT X
  rcases vx_callVX X hx (C := C) (hh := hh) (bytes := bytes) (maxL := maxL) (ret := ret) ho hl hin hse hcode hy hK (by rw [hT]; exact hcB) hoB hclB hg (hsize.trans hml.symm) (argsL := As) (rest := rest) (fun sig h => hn.trans (hlen sig h)) hstack hW (by rw [hb]; exact hdg)
    (fun vm₁ hW₁ => ⟨hf.1, hf.2, hPc (T.setVm vm₁) hT hW₁⟩) with ⟨v, vm₁, ⟨U', l2, c2, s2⟩, hW₁, X', ⟨g', mk, t, L, e1, e2, hq, h1, hL, h2, h3⟩, st⟩ | ⟨q, vm₁, ⟨U', l2, c2, s2⟩, hW₁, X', ⟨g', mk, t, L, E, ce, e1, e2, hq, hce, hcv, hcl, h1, hL, h2, h3⟩, st⟩
  · dsimp only [Pt.U, Pt.locs, Pt.cells, Pt.slots] at X' e1 e2 h1 h2 h3 st
    subst h1; subst h2; subst h3
    exact Or.inl ⟨v, (T.setVm vm₁).calling g' mk (Value.ref b :: As).toArray, t, U', L, hT, X', hL, e1, e2, hq, st⟩
  · dsimp only [Pt.U, Pt.locs, Pt.cells, Pt.slots] at X' e1 e2 h1 h2 h3 st hcl
    subst h1; subst h2; subst h3
    exact Or.inr ⟨q, (T.setVm vm₁).calling g' mk (Value.ref b :: As).toArray, t, U', L, E, ce, hT, X', hL, e1, e2, hq, hce, hcv, vx_cls hW₁ hcl, st⟩
theorem vx_runSX {hh : List (Nat × Nat × Nat × Nat)} (S : CallFix p m c cc nL s args Ts own) (hM : vx_Met l y ws rm Pc Qc XC mc ms free) (cw : vx_CSW R s args own index y bytes maxL ret hh ws rm mc ms n) (hp : PreS s H Pc As)
    (hg : g.method = m) (hn : As.length = n) (hsize : g.locals.size = nL) (hstack : g.stack = As.reverse ++ rest) (hW : 2 * g.monitorRoom + (rest.map fun v => v.category).sum ≤ 8) (hdg : decode cc g.pc = .ok (.invokestatic index, 3)) (hf : cells + mc ≤ R.cells ∧ slots + ms ≤ R.slots) :
    vx_Run p l e R s m args below meth c H locs cells slots mc ms g rest (Qc As.toArray) XC free := by
  obtain ⟨⟨hrc, hrs, hfr, hlo, hws, hcw⟩, hcode, hini, hy, hlen, hl, hstt⟩ := cw
  have hK : vx_Back l R p e below s args y 3 8 (PreOf R mc ms Pc) (PostOf Qc mc ms free) (vx_Post XC mc ms free) := vx_backW (hh := hh) (bytes := bytes) (maxL := maxL) (ret := ret) hM hp.1 hrc hrs hfr hlo hws hcw (fun a' U hW => word_at hW (Or.inl (by first | rfl | simp [Cond.onTables, Cond.keeps, Cond.steady])) hini)
  obtain ⟨hx, hb, hml, ho, -⟩ := S
  intro T hT X
  rcases vx_callSX X hx (hh := hh) (bytes := bytes) (maxL := maxL) (ret := ret) ho hl hstt hini hcode hy hK hg (hsize.trans hml.symm) (argsL := As) (rest := rest) (fun sig h => hn.trans (hlen sig h)) hstack hW (by rw [hb]; exact hdg)
    (fun vm₁ hW₁ => ⟨hf.1, hf.2, hp.2 (T.setVm vm₁) hT hW₁⟩) with ⟨v, vm₁, ⟨U', l2, c2, s2⟩, hW₁, X', ⟨g', mk, t, L, e1, e2, hq, h1, hL, h2, h3⟩, st⟩ | ⟨q, vm₁, ⟨U', l2, c2, s2⟩, hW₁, X', ⟨g', mk, t, L, E, ce, e1, e2, hq, hce, hcv, hcl, h1, hL, h2, h3⟩, st⟩
  · dsimp only [Pt.U, Pt.locs, Pt.cells, Pt.slots] at X' e1 e2 h1 h2 h3 st
    subst h1; subst h2; subst h3
    exact Or.inl ⟨v, (T.setVm vm₁).calling g' mk As.toArray, t, U', L, hT, X', hL, e1, e2, hq, st⟩
  · dsimp only [Pt.U, Pt.locs, Pt.cells, Pt.slots] at X' e1 e2 h1 h2 h3 st hcl
    subst h1; subst h2; subst h3
    exact Or.inr ⟨q, (T.setVm vm₁).calling g' mk As.toArray, t, U', L, E, ce, hT, X', hL, e1, e2, hq, hce, hcv, vx_cls hW₁ hcl, st⟩
end
end VXH
theorem vx_ofWH {l : Launch} {y : MethodName} {ws ws' : List Cond} {rm : Room} {Pc : Array Value → State → Prop} {Qc : Array Value → State → Outcome → State → Prop} {XC : String → State → State → Prop} {mc ms : Nat} {free : Addr → Prop} {cc : ByteArray} {maxL : Nat} {ret : Option FieldType} {hh : List (Nat × Nat × Nat × Nat)}
    (hy : plainName y.cls = true) (hw : ws = Cond.codeWith y cc maxL ret hh :: ws')
    (body : ∀ p e s m args below meth c s₁, BodyLoose p l y (headSpec ws rm) cc maxL ret e s m args below meth c s₁ → c.maxLocals = maxL → Pc args s →
      W p l e (headSpec ws rm).room s m args below meth c s.heap [] 0 0 (vx_MQ below Qc XC args s mc ms free) (entryFrame m args maxL)) : vx_Met l y ws rm Pc Qc XC mc ms free := by
  refine MetFree.of_bodyS (code := cc) (maxLocals := maxL) (ret := ret) hy ?_ ?_
  · intro args s m h hn
    obtain ⟨m9, meth, c, hn9, h1, h2, h3, h4, -, h5, h6, -⟩ := Cond.codeWith_spec (atoms_spec (ws := ws) h _ (by rw [hw]; exact List.mem_cons_self))
    cases hn.symm.trans hn9
    exact ⟨meth, c, h1, h2, h3, h4, h5, h6⟩
  · intro p e s m args below meth c s₁ B hml hP _
    have hh0 : s₁.heap = s.heap := by rw [B.state]; rfl
    obtain ⟨t, a1, o, b1, b2, b3⟩ := body p e s m args below meth c s₁ B hml hP s₁ hh0 (Stand.of_body B)
    exact ⟨t, o, a1, b1, b2, b3⟩
/-! ===== END ===== -/

/-! ===== BEGIN printed: names, fields, word lists, decode rows ===== -/
def RX0 : String := "LinkResolver$Change"
def TX0 : u_T := fun k => match k with
  | 0 => ("LinkResolver$Change", "day", "I", true)
  | 1 => ("LinkResolver$Change", "years", "J", true)
  | 2 => ("LinkResolver$Change", "wall", "I", true)
  | _ => ("LinkResolver$Change", "before", "LLinkResolver$Change;", true)
def tyX0 : Nat → FieldType := fun k => match k with
  | 0 => .int
  | 1 => .long
  | 2 => .int
  | _ => .object "LinkResolver$Change"
abbrev wsX00 : List Cond := u_ws RX0 TX0 4
theorem nmX0 : ∀ a, a < 4 → ∀ b, b < 4 → a ≠ b → (TX0 a).2.1 ≠ (TX0 b).2.1 := by decide +kernel
theorem tyX0_ok : ∀ k, k < 4 → parseFieldDescriptor (TX0 k).2.2.1 = some (tyX0 k) := by decide +kernel
abbrev cX0_init : ByteArray := prog_2_method_1_code
def yX0_init : MethodName := ⟨RX0, "<init>", "(IJILLinkResolver$Change;)V"⟩
def RX1 : String := "LinkResolver$History"
def TX1 : u_T := fun k => match k with
  | 0 => ("LinkResolver$History", "newest", "LLinkResolver$Change;", false)
  | _ => ("LinkResolver$History", "breaks", "I", false)
def tyX1 : Nat → FieldType := fun k => match k with
  | 0 => .object "LinkResolver$Change"
  | _ => .int
abbrev wsX10 : List Cond := u_ws RX1 TX1 2
theorem nmX1 : ∀ a, a < 2 → ∀ b, b < 2 → a ≠ b → (TX1 a).2.1 ≠ (TX1 b).2.1 := by decide +kernel
theorem tyX1_ok : ∀ k, k < 2 → parseFieldDescriptor (TX1 k).2.2.1 = some (tyX1 k) := by decide +kernel
abbrev cX1_init : ByteArray := prog_3_method_1_code
def yX1_init : MethodName := ⟨RX1, "<init>", "()V"⟩
abbrev cX1_add : ByteArray := prog_3_method_2_code
def yX1_add : MethodName := ⟨RX1, "add", "(IJI)V"⟩
abbrev cX1_changeAt : ByteArray := prog_3_method_3_code
def yX1_changeAt : MethodName := ⟨RX1, "changeAt", "(I)LLinkResolver$Change;"⟩
abbrev cX1_isOnAt : ByteArray := prog_3_method_4_code
def yX1_isOnAt : MethodName := ⟨RX1, "isOnAt", "(I)Z"⟩
abbrev cX1_yearsOpen : ByteArray := prog_3_method_5_code
def yX1_yearsOpen : MethodName := ⟨RX1, "yearsOpen", "(I)J"⟩
abbrev cX1_yearsKept : ByteArray := prog_3_method_6_code
def yX1_yearsKept : MethodName := ⟨RX1, "yearsKept", "(I)J"⟩
def RX2 : String := "LinkResolver$Pack"
def TX2 : u_T := fun k => match k with
  | 0 => ("LinkResolver$Pack", "cost", "I", true)
  | 1 => ("LinkResolver$Pack", "version", "I", true)
  | 2 => ("LinkResolver$Pack", "groups", "I", true)
  | 3 => ("LinkResolver$Pack", "isKeeping", "Z", true)
  | 4 => ("LinkResolver$Pack", "subscription", "LLinkResolver$History;", true)
  | _ => ("LinkResolver$Pack", "stays", "[LLinkResolver$History;", true)
def tyX2 : Nat → FieldType := fun k => match k with
  | 0 => .int
  | 1 => .int
  | 2 => .int
  | 3 => .boolean
  | 4 => .object "LinkResolver$History"
  | _ => .array (.object "LinkResolver$History")
abbrev wsX20 : List Cond := u_ws RX2 TX2 6
theorem nmX2 : ∀ a, a < 6 → ∀ b, b < 6 → a ≠ b → (TX2 a).2.1 ≠ (TX2 b).2.1 := by decide +kernel
theorem tyX2_ok : ∀ k, k < 6 → parseFieldDescriptor (TX2 k).2.2.1 = some (tyX2 k) := by decide +kernel
abbrev cX2_init : ByteArray := prog_4_method_1_code
def yX2_init : MethodName := ⟨RX2, "<init>", "(IIIZ)V"⟩
abbrev cX2_stayOf : ByteArray := prog_4_method_2_code
def yX2_stayOf : MethodName := ⟨RX2, "stayOf", "(I)LLinkResolver$History;"⟩
abbrev cX2_letsIn : ByteArray := prog_4_method_3_code
def yX2_letsIn : MethodName := ⟨RX2, "letsIn", "(I)Z"⟩
abbrev cX2_isBroken : ByteArray := prog_4_method_4_code
def yX2_isBroken : MethodName := ⟨RX2, "isBroken", "(I)Z"⟩
abbrev cX2_yearsCovered : ByteArray := prog_4_method_5_code
def yX2_yearsCovered : MethodName := ⟨RX2, "yearsCovered", "(II)J"⟩
abbrev cX2_yearsOpen : ByteArray := prog_4_method_6_code
def yX2_yearsOpen : MethodName := ⟨RX2, "yearsOpen", "(II)J"⟩
abbrev cX2_yearsKept : ByteArray := prog_4_method_7_code
def yX2_yearsKept : MethodName := ⟨RX2, "yearsKept", "(II)J"⟩
def RX3 : String := "LinkResolver$Title"
def TX3 : u_T := fun k => match k with
  | 0 => ("LinkResolver$Title", "firstYear", "I", true)
  | _ => ("LinkResolver$Title", "volumes", "I", true)
def tyX3 : Nat → FieldType := fun k => match k with
  | 0 => .int
  | _ => .int
abbrev wsX30 : List Cond := u_ws RX3 TX3 2
theorem nmX3 : ∀ a, a < 2 → ∀ b, b < 2 → a ≠ b → (TX3 a).2.1 ≠ (TX3 b).2.1 := by decide +kernel
theorem tyX3_ok : ∀ k, k < 2 → parseFieldDescriptor (TX3 k).2.2.1 = some (tyX3 k) := by decide +kernel
abbrev cX3_init : ByteArray := prog_5_method_1_code
def yX3_init : MethodName := ⟨RX3, "<init>", "(II)V"⟩
abbrev cX3_firstVolume : ByteArray := prog_5_method_2_code
def yX3_firstVolume : MethodName := ⟨RX3, "firstVolume", "(I)I"⟩
def RX4 : String := "LinkResolver"
def TX4 : u_T := fun k => match k with
  | 0 => ("LinkResolver", "titles", "[LLinkResolver$Title;", true)
  | 1 => ("LinkResolver", "packs", "[LLinkResolver$Pack;", true)
  | 2 => ("LinkResolver", "titleCount", "I", false)
  | 3 => ("LinkResolver", "packCount", "I", false)
  | 4 => ("LinkResolver", "changeCount", "I", false)
  | _ => ("LinkResolver", "currentDay", "I", false)
def tyX4 : Nat → FieldType := fun k => match k with
  | 0 => .array (.object "LinkResolver$Title")
  | 1 => .array (.object "LinkResolver$Pack")
  | 2 => .int
  | 3 => .int
  | 4 => .int
  | _ => .int
abbrev wsX40 : List Cond := u_ws RX4 TX4 6
theorem nmX4 : ∀ a, a < 6 → ∀ b, b < 6 → a ≠ b → (TX4 a).2.1 ≠ (TX4 b).2.1 := by decide +kernel
theorem tyX4_ok : ∀ k, k < 6 → parseFieldDescriptor (TX4 k).2.2.1 = some (tyX4 k) := by decide +kernel
abbrev cX4_init : ByteArray := prog_1_method_1_code
def yX4_init : MethodName := ⟨RX4, "<init>", "()V"⟩
abbrev cX4_addTitle : ByteArray := prog_1_method_2_code
def yX4_addTitle : MethodName := ⟨RX4, "addTitle", "(II)I"⟩
abbrev cX4_yearOf : ByteArray := prog_1_method_3_code
def yX4_yearOf : MethodName := ⟨RX4, "yearOf", "(II)I"⟩
abbrev cX4_volumeOf : ByteArray := prog_1_method_4_code
def yX4_volumeOf : MethodName := ⟨RX4, "volumeOf", "(II)I"⟩
abbrev cX4_addPackage : ByteArray := prog_1_method_5_code
def yX4_addPackage : MethodName := ⟨RX4, "addPackage", "(IIII)I"⟩
abbrev cX4_subscribe : ByteArray := prog_1_method_6_code
def yX4_subscribe : MethodName := ⟨RX4, "subscribe", "(IZ)Z"⟩
abbrev cX4_come : ByteArray := prog_1_method_7_code
def yX4_come : MethodName := ⟨RX4, "come", "(IIIII)Z"⟩
abbrev cX4_go : ByteArray := prog_1_method_8_code
def yX4_go : MethodName := ⟨RX4, "go", "(II)V"⟩
abbrev cX4_pass : ByteArray := prog_1_method_9_code
def yX4_pass : MethodName := ⟨RX4, "pass", "(I)I"⟩
abbrev cX4_today : ByteArray := prog_1_method_10_code
def yX4_today : MethodName := ⟨RX4, "today", "()I"⟩
abbrev cX4_isSubscribed : ByteArray := prog_1_method_11_code
def yX4_isSubscribed : MethodName := ⟨RX4, "isSubscribed", "(II)Z"⟩
abbrev cX4_isIn : ByteArray := prog_1_method_12_code
def yX4_isIn : MethodName := ⟨RX4, "isIn", "(III)Z"⟩
abbrev cX4_report : ByteArray := prog_1_method_13_code
def yX4_report : MethodName := ⟨RX4, "report", "(II)I"⟩
abbrev cX4_mend : ByteArray := prog_1_method_14_code
def yX4_mend : MethodName := ⟨RX4, "mend", "(II)I"⟩
abbrev cX4_covers : ByteArray := prog_1_method_15_code
def yX4_covers : MethodName := ⟨RX4, "covers", "(IIIII)Z"⟩
abbrev cX4_ways : ByteArray := prog_1_method_16_code
def yX4_ways : MethodName := ⟨RX4, "ways", "(IIII)I"⟩
abbrev cX4_wayAt : ByteArray := prog_1_method_17_code
def yX4_wayAt : MethodName := ⟨RX4, "wayAt", "(IIIII)I"⟩
abbrev cX4_gap : ByteArray := prog_1_method_18_code
def yX4_gap : MethodName := ⟨RX4, "gap", "(II)I"⟩
abbrev cX4_doubles : ByteArray := prog_1_method_19_code
def yX4_doubles : MethodName := ⟨RX4, "doubles", "(II)I"⟩
abbrev cX4_isNeedless : ByteArray := prog_1_method_20_code
def yX4_isNeedless : MethodName := ⟨RX4, "isNeedless", "(I)Z"⟩
abbrev cX4_checkRange : ByteArray := prog_1_method_21_code
def yX4_checkRange : MethodName := ⟨RX4, "checkRange", "(III)V"⟩
abbrev cX4_checkArticle : ByteArray := prog_1_method_22_code
def yX4_checkArticle : MethodName := ⟨RX4, "checkArticle", "(III)V"⟩
abbrev cX4_existingTitle : ByteArray := prog_1_method_23_code
def yX4_existingTitle : MethodName := ⟨RX4, "existingTitle", "(I)LLinkResolver$Title;"⟩
abbrev cX4_existingPack : ByteArray := prog_1_method_24_code
def yX4_existingPack : MethodName := ⟨RX4, "existingPack", "(I)LLinkResolver$Pack;"⟩
abbrev cX4_existingStay : ByteArray := prog_1_method_25_code
def yX4_existingStay : MethodName := ⟨RX4, "existingStay", "(II)LLinkResolver$History;"⟩
abbrev cX4_change : ByteArray := prog_1_method_26_code
def yX4_change : MethodName := ⟨RX4, "change", "(LLinkResolver$History;JI)V"⟩
abbrev cX4_isWay : ByteArray := prog_1_method_27_code
def yX4_isWay : MethodName := ⟨RX4, "isWay", "(LLinkResolver$Pack;IIII)Z"⟩
abbrev cX4_waysTo : ByteArray := prog_1_method_28_code
def yX4_waysTo : MethodName := ⟨RX4, "waysTo", "(IIII)I"⟩
abbrev cX4_isAmong : ByteArray := prog_1_method_29_code
def yX4_isAmong : MethodName := ⟨RX4, "isAmong", "(II)Z"⟩
abbrev cX4_placeAmong : ByteArray := prog_1_method_30_code
def yX4_placeAmong : MethodName := ⟨RX4, "placeAmong", "(III)I"⟩
abbrev cX4_isAhead : ByteArray := prog_1_method_31_code
def yX4_isAhead : MethodName := ⟨RX4, "isAhead", "(III)Z"⟩
abbrev cX4_yearsSoFar : ByteArray := prog_1_method_32_code
def yX4_yearsSoFar : MethodName := ⟨RX4, "yearsSoFar", "(LLinkResolver$Title;)J"⟩
abbrev cX4_yearsCoveredButBy : ByteArray := prog_1_method_33_code
def yX4_yearsCoveredButBy : MethodName := ⟨RX4, "yearsCoveredButBy", "(III)J"⟩
abbrev cX4_isLostWithout : ByteArray := prog_1_method_34_code
def yX4_isLostWithout : MethodName := ⟨RX4, "isLostWithout", "(II)Z"⟩
abbrev cX4_yearsBetween : ByteArray := prog_1_method_35_code
def yX4_yearsBetween : MethodName := ⟨RX4, "yearsBetween", "(II)J"⟩
abbrev cX4_hasYear : ByteArray := prog_1_method_36_code
def yX4_hasYear : MethodName := ⟨RX4, "hasYear", "(JI)Z"⟩
def RX5 : String := "LinkResolverModel"
def TX5 : u_T := fun k => match k with
  | _ => ("", "", "", false)
def tyX5 : Nat → FieldType := fun k => match k with
  | _ => .int
abbrev wsX50 : List Cond := u_ws RX5 TX5 0
theorem nmX5 : ∀ a, a < 0 → ∀ b, b < 0 → a ≠ b → (TX5 a).2.1 ≠ (TX5 b).2.1 := by decide +kernel
theorem tyX5_ok : ∀ k, k < 0 → parseFieldDescriptor (TX5 k).2.2.1 = some (tyX5 k) := by decide +kernel
def RJ6 : String := "java/lang/Integer"
def TJ6 : u_T := fun k => match k with
  | _ => ("", "", "", false)
def tyJ6 : Nat → FieldType := fun k => match k with
  | _ => .int
abbrev wsJ60 : List Cond := u_ws RJ6 TJ6 0
theorem nmJ6 : ∀ a, a < 0 → ∀ b, b < 0 → a ≠ b → (TJ6 a).2.1 ≠ (TJ6 b).2.1 := by decide +kernel
theorem tyJ6_ok : ∀ k, k < 0 → parseFieldDescriptor (TJ6 k).2.2.1 = some (tyJ6 k) := by decide +kernel
abbrev cJ6_bitCount_0f7a4 : ByteArray := prog_12_method_49_code
def yJ6_bitCount_0f7a4 : MethodName := ⟨RJ6, "bitCount", "(I)I"⟩
def RJ13 : String := "java/lang/Long"
def TJ13 : u_T := fun k => match k with
  | _ => ("", "", "", false)
def tyJ13 : Nat → FieldType := fun k => match k with
  | _ => .int
abbrev wsJ130 : List Cond := u_ws RJ13 TJ13 0
theorem nmJ13 : ∀ a, a < 0 → ∀ b, b < 0 → a ≠ b → (TJ13 a).2.1 ≠ (TJ13 b).2.1 := by decide +kernel
theorem tyJ13_ok : ∀ k, k < 0 → parseFieldDescriptor (TJ13 k).2.2.1 = some (tyJ13 k) := by decide +kernel
abbrev cJ13_bitCount_95d88 : ByteArray := prog_13_method_50_code
def yJ13_bitCount_95d88 : MethodName := ⟨RJ13, "bitCount", "(J)I"⟩
def RJ9 : String := "java/lang/Math"
def TJ9 : u_T := fun k => match k with
  | _ => ("", "", "", false)
def tyJ9 : Nat → FieldType := fun k => match k with
  | _ => .int
abbrev wsJ90 : List Cond := u_ws RJ9 TJ9 0
theorem nmJ9 : ∀ a, a < 0 → ∀ b, b < 0 → a ≠ b → (TJ9 a).2.1 ≠ (TJ9 b).2.1 := by decide +kernel
theorem tyJ9_ok : ∀ k, k < 0 → parseFieldDescriptor (TJ9 k).2.2.1 = some (tyJ9 k) := by decide +kernel
abbrev cJ9_min_7cf53 : ByteArray := prog_14_method_69_code
def yJ9_min_7cf53 : MethodName := ⟨RJ9, "min", "(II)I"⟩
def RJ0 : String := "java/lang/String"
def TJ0 : u_T := fun k => match k with
  | _ => ("", "", "", false)
def tyJ0 : Nat → FieldType := fun k => match k with
  | _ => .int
abbrev wsJ00 : List Cond := u_ws RJ0 TJ0 0
theorem nmJ0 : ∀ a, a < 0 → ∀ b, b < 0 → a ≠ b → (TJ0 a).2.1 ≠ (TJ0 b).2.1 := by decide +kernel
theorem tyJ0_ok : ∀ k, k < 0 → parseFieldDescriptor (TJ0 k).2.2.1 = some (tyJ0 k) := by decide +kernel
def RL : String := "LinkResolverLaw"
abbrev cL_draw : ByteArray := method_2_code
def yL_draw : MethodName := ⟨RL, "draw", "([II)I"⟩
abbrev cL_step : ByteArray := method_3_code
def yL_step : MethodName := ⟨RL, "step", "(LLinkResolver;[I[I[IIII)Z"⟩
abbrev cL_volumes : ByteArray := method_4_code
def yL_volumes : MethodName := ⟨RL, "volumes", "(LLinkResolver;[III)Z"⟩
abbrev cL_covers : ByteArray := method_5_code
def yL_covers : MethodName := ⟨RL, "covers", "(LLinkResolver;[I[IIIII)Z"⟩
abbrev cL_isAhead : ByteArray := method_6_code
def yL_isAhead : MethodName := ⟨RL, "isAhead", "([I[IIII)Z"⟩
abbrev cL_areWays : ByteArray := method_7_code
def yL_areWays : MethodName := ⟨RL, "areWays", "(LLinkResolver;[I[I[IIIII)Z"⟩
abbrev cL_areGaps : ByteArray := method_8_code
def yL_areGaps : MethodName := ⟨RL, "areGaps", "(LLinkResolver;[III)Z"⟩
abbrev cL_isNeedless : ByteArray := method_9_code
def yL_isNeedless : MethodName := ⟨RL, "isNeedless", "(LLinkResolver;[IIII)Z"⟩
abbrev cL_law : ByteArray := code
def yL_law : MethodName := ⟨RL, "law", "([I)Z"⟩
def wsX0_init : List Cond := .code yX0_init cX0_init 6 none :: ([.methodLink RX0 1 objectInit, .instanceMethod objectInit, .code objectInit ⟨#[0xb1]⟩ 1 none, .fieldLink RX0 7 "LinkResolver$Change" "day" "I", .fieldLink RX0 13 "LinkResolver$Change" "years" "J", .fieldLink RX0 17 "LinkResolver$Change" "wall" "I", .fieldLink RX0 20 "LinkResolver$Change" "before" "LLinkResolver$Change;"] ++ wsX00)
def wsX1_init : List Cond := .code yX1_init cX1_init 1 none :: ([.methodLink RX1 3 objectInit, .instanceMethod objectInit, .code objectInit ⟨#[0xb1]⟩ 1 none, .fieldLink RX1 9 "LinkResolver$History" "newest" "LLinkResolver$Change;", .fieldLink RX1 15 "LinkResolver$History" "breaks" "I"] ++ wsX10)
def wsX1_add : List Cond := .code yX1_add cX1_add 5 none :: ([.classLink RX1 19 RX0, .instantiable RX0 4, .initialized RX0, .fieldLink RX1 9 "LinkResolver$History" "newest" "LLinkResolver$Change;", .methodLink RX1 21 yX0_init, .instanceMethod yX0_init, .code yX0_init cX0_init 6 none, .methodLink RX0 1 objectInit, .instanceMethod objectInit, .code objectInit ⟨#[0xb1]⟩ 1 none, .fieldLink RX0 7 "LinkResolver$Change" "day" "I", .fieldLink RX0 13 "LinkResolver$Change" "years" "J", .fieldLink RX0 17 "LinkResolver$Change" "wall" "I", .fieldLink RX0 20 "LinkResolver$Change" "before" "LLinkResolver$Change;"] ++ wsX00 ++ wsX10)
def wsX1_changeAt : List Cond := .code yX1_changeAt cX1_changeAt 3 (some (.object "LinkResolver$Change")) :: ([.fieldLink RX1 9 "LinkResolver$History" "newest" "LLinkResolver$Change;", .fieldLink RX1 24 "LinkResolver$Change" "day" "I", .fieldLink RX1 27 "LinkResolver$Change" "before" "LLinkResolver$Change;"] ++ wsX10 ++ wsX00)
def wsX1_isOnAt : List Cond := .code yX1_isOnAt cX1_isOnAt 3 (some .boolean) :: ([.fieldLink RX1 34 "LinkResolver$Change" "years" "J", .methodLink RX1 30 yX1_changeAt, .instanceMethod yX1_changeAt, .selects RX1 yX1_changeAt yX1_changeAt, .initialized RX1, .code yX1_changeAt cX1_changeAt 3 (some (.object "LinkResolver$Change")), .fieldLink RX1 9 "LinkResolver$History" "newest" "LLinkResolver$Change;", .fieldLink RX1 24 "LinkResolver$Change" "day" "I", .fieldLink RX1 27 "LinkResolver$Change" "before" "LLinkResolver$Change;"] ++ wsX00 ++ wsX10)
def wsX4_yearsBetween : List Cond := .code yX4_yearsBetween cX4_yearsBetween 2 (some .long) :: ([])
def wsX1_yearsOpen : List Cond := .code yX1_yearsOpen cX1_yearsOpen 3 (some .long) :: ([.fieldLink RX1 34 "LinkResolver$Change" "years" "J", .fieldLink RX1 38 "LinkResolver$Change" "wall" "I", .methodLink RX1 30 yX1_changeAt, .instanceMethod yX1_changeAt, .selects RX1 yX1_changeAt yX1_changeAt, .initialized RX1, .code yX1_changeAt cX1_changeAt 3 (some (.object "LinkResolver$Change")), .fieldLink RX1 9 "LinkResolver$History" "newest" "LLinkResolver$Change;", .fieldLink RX1 24 "LinkResolver$Change" "day" "I", .fieldLink RX1 27 "LinkResolver$Change" "before" "LLinkResolver$Change;", .static yX4_yearsBetween, .initialized RX4, .code yX4_yearsBetween cX4_yearsBetween 2 (some .long)] ++ wsX00 ++ wsX10)
def wsX1_yearsKept : List Cond := .code yX1_yearsKept cX1_yearsKept 10 (some .long) :: ([.fieldLink RX1 9 "LinkResolver$History" "newest" "LLinkResolver$Change;", .fieldLink RX1 24 "LinkResolver$Change" "day" "I", .fieldLink RX1 38 "LinkResolver$Change" "wall" "I", .fieldLink RX1 34 "LinkResolver$Change" "years" "J", .methodLink RX1 45 Lib.Math.min.name, .static Lib.Math.min.name, .initialized "java/lang/Math", .code Lib.Math.min.name Lib.Math.min.code 2 (some .int), .fieldLink RX1 27 "LinkResolver$Change" "before" "LLinkResolver$Change;", .static yX4_yearsBetween, .initialized RX4, .code yX4_yearsBetween cX4_yearsBetween 2 (some .long)] ++ wsX10 ++ wsX00)
def wsX2_init : List Cond := .code yX2_init cX2_init 6 none :: ([.methodLink RX2 3 objectInit, .instanceMethod objectInit, .code objectInit ⟨#[0xb1]⟩ 1 none, .fieldLink RX2 9 "LinkResolver$Pack" "cost" "I", .fieldLink RX2 15 "LinkResolver$Pack" "version" "I", .fieldLink RX2 18 "LinkResolver$Pack" "groups" "I", .fieldLink RX2 21 "LinkResolver$Pack" "isKeeping" "Z", .classLink RX2 25 RX1, .instantiable RX1 2, .initialized RX1, .fieldLink RX2 28 "LinkResolver$Pack" "subscription" "LLinkResolver$History;", .fieldLink RX2 32 "LinkResolver$Pack" "stays" "[LLinkResolver$History;", .methodLink RX2 27 yX1_init, .instanceMethod yX1_init, .code yX1_init cX1_init 1 none, .methodLink RX1 3 objectInit, .fieldLink RX1 9 "LinkResolver$History" "newest" "LLinkResolver$Change;", .fieldLink RX1 15 "LinkResolver$History" "breaks" "I"] ++ wsX20 ++ wsX10)
def wsX2_stayOf : List Cond := .code yX2_stayOf cX2_stayOf 2 (some (.object "LinkResolver$History")) :: ([.classLink RX2 36 "java/lang/IndexOutOfBoundsException", .initialized "java/lang/IndexOutOfBoundsException", .fieldLink RX2 32 "LinkResolver$Pack" "stays" "[LLinkResolver$History;"] ++ wsX20 ++ (vx_atS RX2 40 "java/lang/IndexOutOfBoundsException" ["java/lang/RuntimeException", "java/lang/Exception"]).filter goodWord)
def wsX2_letsIn : List Cond := .code yX2_letsIn cX2_letsIn 2 (some .boolean) :: ([.fieldLink RX2 18 "LinkResolver$Pack" "groups" "I"] ++ wsX20)
def wsX2_isBroken : List Cond := .code yX2_isBroken cX2_isBroken 2 (some .boolean) :: ([.fieldLink RX2 47 "LinkResolver$History" "breaks" "I", .methodLink RX2 43 yX2_stayOf, .instanceMethod yX2_stayOf, .selects RX2 yX2_stayOf yX2_stayOf, .initialized RX2, .code yX2_stayOf cX2_stayOf 2 (some (.object "LinkResolver$History")), .classLink RX2 36 "java/lang/IndexOutOfBoundsException", .initialized "java/lang/IndexOutOfBoundsException", .fieldLink RX2 32 "LinkResolver$Pack" "stays" "[LLinkResolver$History;"] ++ wsX10 ++ wsX20 ++ (vx_atS RX2 40 "java/lang/IndexOutOfBoundsException" ["java/lang/RuntimeException", "java/lang/Exception"]).filter goodWord)
def wsX2_yearsOpen_r1 : List Cond := [Cond.fieldLink RX2 28 "LinkResolver$Pack" "subscription" "LLinkResolver$History;", Cond.methodLink RX2 43 yX2_stayOf, Cond.instanceMethod yX2_stayOf, Cond.selects RX2 yX2_stayOf yX2_stayOf, Cond.initialized RX2, Cond.code yX2_stayOf cX2_stayOf 2 (some (.object "LinkResolver$History")), Cond.classLink RX2 36 "java/lang/IndexOutOfBoundsException", Cond.initialized "java/lang/IndexOutOfBoundsException", Cond.fieldLink RX2 32 "LinkResolver$Pack" "stays" "[LLinkResolver$History;", Cond.methodLink RX2 57 yX1_yearsOpen, Cond.instanceMethod yX1_yearsOpen, Cond.selects RX1 yX1_yearsOpen yX1_yearsOpen, Cond.initialized RX1, Cond.code yX1_yearsOpen cX1_yearsOpen 3 (some .long), Cond.fieldLink RX1 34 "LinkResolver$Change" "years" "J", Cond.fieldLink RX1 38 "LinkResolver$Change" "wall" "I", Cond.methodLink RX1 30 yX1_changeAt, Cond.instanceMethod yX1_changeAt, Cond.selects RX1 yX1_changeAt yX1_changeAt, Cond.code yX1_changeAt cX1_changeAt 3 (some (.object "LinkResolver$Change")), Cond.fieldLink RX1 9 "LinkResolver$History" "newest" "LLinkResolver$Change;", Cond.fieldLink RX1 24 "LinkResolver$Change" "day" "I", Cond.fieldLink RX1 27 "LinkResolver$Change" "before" "LLinkResolver$Change;", Cond.static yX4_yearsBetween]
def wsX2_yearsOpen_r2 : List Cond := [Cond.initialized RX4, Cond.code yX4_yearsBetween cX4_yearsBetween 2 (some .long)]
def wsX2_yearsOpen : List Cond := .code yX2_yearsOpen cX2_yearsOpen 3 (some .long) :: ((wsX2_yearsOpen_r1 ++ wsX2_yearsOpen_r2) ++ wsX20 ++ wsX00 ++ wsX10 ++ (vx_atS RX2 40 "java/lang/IndexOutOfBoundsException" ["java/lang/RuntimeException", "java/lang/Exception"]).filter goodWord)
def wsX2_yearsKept_r1 : List Cond := [Cond.fieldLink RX2 21 "LinkResolver$Pack" "isKeeping" "Z", Cond.fieldLink RX2 28 "LinkResolver$Pack" "subscription" "LLinkResolver$History;", Cond.methodLink RX2 43 yX2_stayOf, Cond.instanceMethod yX2_stayOf, Cond.selects RX2 yX2_stayOf yX2_stayOf, Cond.initialized RX2, Cond.code yX2_stayOf cX2_stayOf 2 (some (.object "LinkResolver$History")), Cond.classLink RX2 36 "java/lang/IndexOutOfBoundsException", Cond.initialized "java/lang/IndexOutOfBoundsException", Cond.fieldLink RX2 32 "LinkResolver$Pack" "stays" "[LLinkResolver$History;", Cond.methodLink RX2 60 yX1_yearsKept, Cond.instanceMethod yX1_yearsKept, Cond.selects RX1 yX1_yearsKept yX1_yearsKept, Cond.initialized RX1, Cond.code yX1_yearsKept cX1_yearsKept 10 (some .long), Cond.fieldLink RX1 9 "LinkResolver$History" "newest" "LLinkResolver$Change;", Cond.fieldLink RX1 24 "LinkResolver$Change" "day" "I", Cond.fieldLink RX1 38 "LinkResolver$Change" "wall" "I", Cond.fieldLink RX1 34 "LinkResolver$Change" "years" "J", Cond.methodLink RX1 45 Lib.Math.min.name, Cond.static Lib.Math.min.name, Cond.initialized "java/lang/Math", Cond.code Lib.Math.min.name Lib.Math.min.code 2 (some .int), Cond.fieldLink RX1 27 "LinkResolver$Change" "before" "LLinkResolver$Change;"]
def wsX2_yearsKept_r2 : List Cond := [Cond.static yX4_yearsBetween, Cond.initialized RX4, Cond.code yX4_yearsBetween cX4_yearsBetween 2 (some .long)]
def wsX2_yearsKept : List Cond := .code yX2_yearsKept cX2_yearsKept 5 (some .long) :: ((wsX2_yearsKept_r1 ++ wsX2_yearsKept_r2) ++ wsX20 ++ wsX10 ++ wsX00 ++ (vx_atS RX2 40 "java/lang/IndexOutOfBoundsException" ["java/lang/RuntimeException", "java/lang/Exception"]).filter goodWord)
def wsX2_yearsCovered_r1 : List Cond := [Cond.methodLink RX2 50 yX2_yearsOpen, Cond.instanceMethod yX2_yearsOpen, Cond.selects RX2 yX2_yearsOpen yX2_yearsOpen, Cond.initialized RX2, Cond.code yX2_yearsOpen cX2_yearsOpen 3 (some .long), Cond.fieldLink RX2 28 "LinkResolver$Pack" "subscription" "LLinkResolver$History;", Cond.methodLink RX2 43 yX2_stayOf, Cond.instanceMethod yX2_stayOf, Cond.selects RX2 yX2_stayOf yX2_stayOf, Cond.code yX2_stayOf cX2_stayOf 2 (some (.object "LinkResolver$History")), Cond.classLink RX2 36 "java/lang/IndexOutOfBoundsException", Cond.initialized "java/lang/IndexOutOfBoundsException", Cond.fieldLink RX2 32 "LinkResolver$Pack" "stays" "[LLinkResolver$History;", Cond.methodLink RX2 57 yX1_yearsOpen, Cond.instanceMethod yX1_yearsOpen, Cond.selects RX1 yX1_yearsOpen yX1_yearsOpen, Cond.initialized RX1, Cond.code yX1_yearsOpen cX1_yearsOpen 3 (some .long), Cond.fieldLink RX1 34 "LinkResolver$Change" "years" "J", Cond.fieldLink RX1 38 "LinkResolver$Change" "wall" "I", Cond.methodLink RX1 30 yX1_changeAt, Cond.instanceMethod yX1_changeAt, Cond.selects RX1 yX1_changeAt yX1_changeAt, Cond.code yX1_changeAt cX1_changeAt 3 (some (.object "LinkResolver$Change"))]
def wsX2_yearsCovered_r2 : List Cond := [Cond.fieldLink RX1 9 "LinkResolver$History" "newest" "LLinkResolver$Change;", Cond.fieldLink RX1 24 "LinkResolver$Change" "day" "I", Cond.fieldLink RX1 27 "LinkResolver$Change" "before" "LLinkResolver$Change;", Cond.static yX4_yearsBetween, Cond.initialized RX4, Cond.code yX4_yearsBetween cX4_yearsBetween 2 (some .long), Cond.methodLink RX2 54 yX2_yearsKept, Cond.instanceMethod yX2_yearsKept, Cond.selects RX2 yX2_yearsKept yX2_yearsKept, Cond.code yX2_yearsKept cX2_yearsKept 5 (some .long), Cond.fieldLink RX2 21 "LinkResolver$Pack" "isKeeping" "Z", Cond.methodLink RX2 60 yX1_yearsKept, Cond.instanceMethod yX1_yearsKept, Cond.selects RX1 yX1_yearsKept yX1_yearsKept, Cond.code yX1_yearsKept cX1_yearsKept 10 (some .long), Cond.methodLink RX1 45 Lib.Math.min.name, Cond.static Lib.Math.min.name, Cond.initialized "java/lang/Math", Cond.code Lib.Math.min.name Lib.Math.min.code 2 (some .int)]
def wsX2_yearsCovered : List Cond := .code yX2_yearsCovered cX2_yearsCovered 3 (some .long) :: ((wsX2_yearsCovered_r1 ++ wsX2_yearsCovered_r2) ++ wsX20 ++ wsX00 ++ wsX10 ++ (vx_atS RX2 40 "java/lang/IndexOutOfBoundsException" ["java/lang/RuntimeException", "java/lang/Exception"]).filter goodWord)
def wsX3_init : List Cond := .code yX3_init cX3_init 3 none :: ([.methodLink RX3 1 objectInit, .instanceMethod objectInit, .code objectInit ⟨#[0xb1]⟩ 1 none, .fieldLink RX3 7 "LinkResolver$Title" "firstYear" "I", .fieldLink RX3 13 "LinkResolver$Title" "volumes" "I"] ++ wsX30)
def wsX3_firstVolume : List Cond := .code yX3_firstVolume cX3_firstVolume 2 (some .int) :: ([.fieldLink RX3 7 "LinkResolver$Title" "firstYear" "I", .fieldLink RX3 13 "LinkResolver$Title" "volumes" "I"] ++ wsX30)
def wsX4_init : List Cond := .code yX4_init cX4_init 1 none :: ([.methodLink RX4 3 objectInit, .instanceMethod objectInit, .code objectInit ⟨#[0xb1]⟩ 1 none, .classLink RX4 9 RX3, .fieldLink RX4 11 "LinkResolver" "titles" "[LLinkResolver$Title;", .classLink RX4 15 RX2, .fieldLink RX4 17 "LinkResolver" "packs" "[LLinkResolver$Pack;", .fieldLink RX4 21 "LinkResolver" "titleCount" "I", .fieldLink RX4 25 "LinkResolver" "packCount" "I", .fieldLink RX4 28 "LinkResolver" "changeCount" "I", .fieldLink RX4 31 "LinkResolver" "currentDay" "I"] ++ wsX40)
def wsX4_checkRange : List Cond := .code yX4_checkRange cX4_checkRange 3 none :: ([.classLink RX4 156 "java/lang/IllegalArgumentException", .initialized "java/lang/IllegalArgumentException"] ++ (vx_atS RX4 160 "java/lang/IllegalArgumentException" ["java/lang/RuntimeException", "java/lang/Exception"]).filter goodWord)
def wsX4_addTitle : List Cond := .code yX4_addTitle cX4_addTitle 4 (some .int) :: ([.classLink RX4 38 "java/lang/IllegalStateException", .initialized "java/lang/IllegalStateException", .fieldLink RX4 21 "LinkResolver" "titleCount" "I", .fieldLink RX4 11 "LinkResolver" "titles" "[LLinkResolver$Title;", .classLink RX4 9 RX3, .instantiable RX3 2, .initialized RX3, .methodLink RX4 34 yX4_checkRange, .static yX4_checkRange, .initialized RX4, .code yX4_checkRange cX4_checkRange 3 none, .classLink RX4 156 "java/lang/IllegalArgumentException", .initialized "java/lang/IllegalArgumentException", .methodLink RX4 45 yX3_init, .instanceMethod yX3_init, .code yX3_init cX3_init 3 none, .methodLink RX3 1 objectInit, .instanceMethod objectInit, .code objectInit ⟨#[0xb1]⟩ 1 none, .fieldLink RX3 7 "LinkResolver$Title" "firstYear" "I", .fieldLink RX3 13 "LinkResolver$Title" "volumes" "I"] ++ wsX40 ++ wsX30 ++ (vx_atS RX4 42 "java/lang/IllegalStateException" ["java/lang/RuntimeException", "java/lang/Exception"]).filter goodWord ++ (vx_atS RX4 160 "java/lang/IllegalArgumentException" ["java/lang/RuntimeException", "java/lang/Exception"]).filter goodWord)
def wsX4_existingTitle : List Cond := .code yX4_existingTitle cX4_existingTitle 2 (some (.object "LinkResolver$Title")) :: ([.classLink RX4 123 "java/lang/IndexOutOfBoundsException", .initialized "java/lang/IndexOutOfBoundsException", .fieldLink RX4 21 "LinkResolver" "titleCount" "I", .fieldLink RX4 11 "LinkResolver" "titles" "[LLinkResolver$Title;"] ++ wsX40 ++ (vx_atS RX4 127 "java/lang/IndexOutOfBoundsException" ["java/lang/RuntimeException", "java/lang/Exception"]).filter goodWord)
def wsX4_yearOf : List Cond := .code yX4_yearOf cX4_yearOf 5 (some .int) :: ([.fieldLink RX4 56 "LinkResolver$Title" "firstYear" "I", .methodLink RX4 48 yX4_existingTitle, .instanceMethod yX4_existingTitle, .selects RX4 yX4_existingTitle yX4_existingTitle, .initialized RX4, .code yX4_existingTitle cX4_existingTitle 2 (some (.object "LinkResolver$Title")), .classLink RX4 123 "java/lang/IndexOutOfBoundsException", .initialized "java/lang/IndexOutOfBoundsException", .fieldLink RX4 21 "LinkResolver" "titleCount" "I", .fieldLink RX4 11 "LinkResolver" "titles" "[LLinkResolver$Title;", .methodLink RX4 52 yX3_firstVolume, .instanceMethod yX3_firstVolume, .selects RX3 yX3_firstVolume yX3_firstVolume, .initialized RX3, .code yX3_firstVolume cX3_firstVolume 2 (some .int), .fieldLink RX3 7 "LinkResolver$Title" "firstYear" "I", .fieldLink RX3 13 "LinkResolver$Title" "volumes" "I", .methodLink RX4 34 yX4_checkRange, .static yX4_checkRange, .code yX4_checkRange cX4_checkRange 3 none, .classLink RX4 156 "java/lang/IllegalArgumentException", .initialized "java/lang/IllegalArgumentException"] ++ wsX30 ++ wsX40 ++ (vx_atS RX4 127 "java/lang/IndexOutOfBoundsException" ["java/lang/RuntimeException", "java/lang/Exception"]).filter goodWord ++ (vx_atS RX4 160 "java/lang/IllegalArgumentException" ["java/lang/RuntimeException", "java/lang/Exception"]).filter goodWord)
def wsX4_volumeOf : List Cond := .code yX4_volumeOf cX4_volumeOf 4 (some .int) :: ([.fieldLink RX4 56 "LinkResolver$Title" "firstYear" "I", .methodLink RX4 48 yX4_existingTitle, .instanceMethod yX4_existingTitle, .selects RX4 yX4_existingTitle yX4_existingTitle, .initialized RX4, .code yX4_existingTitle cX4_existingTitle 2 (some (.object "LinkResolver$Title")), .classLink RX4 123 "java/lang/IndexOutOfBoundsException", .initialized "java/lang/IndexOutOfBoundsException", .fieldLink RX4 21 "LinkResolver" "titleCount" "I", .fieldLink RX4 11 "LinkResolver" "titles" "[LLinkResolver$Title;", .methodLink RX4 34 yX4_checkRange, .static yX4_checkRange, .code yX4_checkRange cX4_checkRange 3 none, .classLink RX4 156 "java/lang/IllegalArgumentException", .initialized "java/lang/IllegalArgumentException", .methodLink RX4 52 yX3_firstVolume, .instanceMethod yX3_firstVolume, .selects RX3 yX3_firstVolume yX3_firstVolume, .initialized RX3, .code yX3_firstVolume cX3_firstVolume 2 (some .int), .fieldLink RX3 7 "LinkResolver$Title" "firstYear" "I", .fieldLink RX3 13 "LinkResolver$Title" "volumes" "I"] ++ wsX30 ++ wsX40 ++ (vx_atS RX4 127 "java/lang/IndexOutOfBoundsException" ["java/lang/RuntimeException", "java/lang/Exception"]).filter goodWord ++ (vx_atS RX4 160 "java/lang/IllegalArgumentException" ["java/lang/RuntimeException", "java/lang/Exception"]).filter goodWord)
def wsX4_addPackage_r1 : List Cond := [Cond.classLink RX4 38 "java/lang/IllegalStateException", Cond.initialized "java/lang/IllegalStateException", Cond.fieldLink RX4 25 "LinkResolver" "packCount" "I", Cond.fieldLink RX4 17 "LinkResolver" "packs" "[LLinkResolver$Pack;", Cond.classLink RX4 15 RX2, Cond.instantiable RX2 6, Cond.initialized RX2, Cond.methodLink RX4 34 yX4_checkRange, Cond.static yX4_checkRange, Cond.initialized RX4, Cond.code yX4_checkRange cX4_checkRange 3 none, Cond.classLink RX4 156 "java/lang/IllegalArgumentException", Cond.initialized "java/lang/IllegalArgumentException", Cond.methodLink RX4 61 yX2_init, Cond.instanceMethod yX2_init, Cond.code yX2_init cX2_init 6 none, Cond.methodLink RX2 3 objectInit, Cond.instanceMethod objectInit, Cond.code objectInit ⟨#[0xb1]⟩ 1 none, Cond.fieldLink RX2 9 "LinkResolver$Pack" "cost" "I", Cond.fieldLink RX2 15 "LinkResolver$Pack" "version" "I", Cond.fieldLink RX2 18 "LinkResolver$Pack" "groups" "I", Cond.fieldLink RX2 21 "LinkResolver$Pack" "isKeeping" "Z", Cond.classLink RX2 25 RX1]
def wsX4_addPackage_r2 : List Cond := [Cond.instantiable RX1 2, Cond.initialized RX1, Cond.fieldLink RX2 28 "LinkResolver$Pack" "subscription" "LLinkResolver$History;", Cond.fieldLink RX2 32 "LinkResolver$Pack" "stays" "[LLinkResolver$History;", Cond.methodLink RX2 27 yX1_init, Cond.instanceMethod yX1_init, Cond.code yX1_init cX1_init 1 none, Cond.methodLink RX1 3 objectInit, Cond.fieldLink RX1 9 "LinkResolver$History" "newest" "LLinkResolver$Change;", Cond.fieldLink RX1 15 "LinkResolver$History" "breaks" "I"]
def wsX4_addPackage : List Cond := .code yX4_addPackage cX4_addPackage 6 (some .int) :: ((wsX4_addPackage_r1 ++ wsX4_addPackage_r2) ++ wsX40 ++ wsX20 ++ wsX10 ++ (vx_atS RX4 42 "java/lang/IllegalStateException" ["java/lang/RuntimeException", "java/lang/Exception"]).filter goodWord ++ (vx_atS RX4 160 "java/lang/IllegalArgumentException" ["java/lang/RuntimeException", "java/lang/Exception"]).filter goodWord)
def wsX4_existingPack : List Cond := .code yX4_existingPack cX4_existingPack 2 (some (.object "LinkResolver$Pack")) :: ([.classLink RX4 123 "java/lang/IndexOutOfBoundsException", .initialized "java/lang/IndexOutOfBoundsException", .fieldLink RX4 25 "LinkResolver" "packCount" "I", .fieldLink RX4 17 "LinkResolver" "packs" "[LLinkResolver$Pack;"] ++ wsX40 ++ (vx_atS RX4 127 "java/lang/IndexOutOfBoundsException" ["java/lang/RuntimeException", "java/lang/Exception"]).filter goodWord)
def wsX4_change : List Cond := .code yX4_change cX4_change 5 none :: ([.fieldLink RX4 28 "LinkResolver" "changeCount" "I", .fieldLink RX4 31 "LinkResolver" "currentDay" "I", .methodLink RX4 169 yX1_add, .instanceMethod yX1_add, .selects RX1 yX1_add yX1_add, .initialized RX1, .code yX1_add cX1_add 5 none, .classLink RX1 19 RX0, .instantiable RX0 4, .initialized RX0, .fieldLink RX1 9 "LinkResolver$History" "newest" "LLinkResolver$Change;", .methodLink RX1 21 yX0_init, .instanceMethod yX0_init, .code yX0_init cX0_init 6 none, .methodLink RX0 1 objectInit, .instanceMethod objectInit, .code objectInit ⟨#[0xb1]⟩ 1 none, .fieldLink RX0 7 "LinkResolver$Change" "day" "I", .fieldLink RX0 13 "LinkResolver$Change" "years" "J", .fieldLink RX0 17 "LinkResolver$Change" "wall" "I", .fieldLink RX0 20 "LinkResolver$Change" "before" "LLinkResolver$Change;"] ++ wsX40 ++ wsX00 ++ wsX10)
def wsX4_subscribe_r1 : List Cond := [Cond.fieldLink RX4 68 "LinkResolver$Pack" "subscription" "LLinkResolver$History;", Cond.fieldLink RX4 31 "LinkResolver" "currentDay" "I", Cond.constantLong RX4 78 (72057594037927935), Cond.methodLink RX4 64 yX4_existingPack, Cond.instanceMethod yX4_existingPack, Cond.selects RX4 yX4_existingPack yX4_existingPack, Cond.initialized RX4, Cond.code yX4_existingPack cX4_existingPack 2 (some (.object "LinkResolver$Pack")), Cond.classLink RX4 123 "java/lang/IndexOutOfBoundsException", Cond.initialized "java/lang/IndexOutOfBoundsException", Cond.fieldLink RX4 25 "LinkResolver" "packCount" "I", Cond.fieldLink RX4 17 "LinkResolver" "packs" "[LLinkResolver$Pack;", Cond.methodLink RX4 72 yX1_isOnAt, Cond.instanceMethod yX1_isOnAt, Cond.selects RX1 yX1_isOnAt yX1_isOnAt, Cond.initialized RX1, Cond.code yX1_isOnAt cX1_isOnAt 3 (some .boolean), Cond.fieldLink RX1 34 "LinkResolver$Change" "years" "J", Cond.methodLink RX1 30 yX1_changeAt, Cond.instanceMethod yX1_changeAt, Cond.selects RX1 yX1_changeAt yX1_changeAt, Cond.code yX1_changeAt cX1_changeAt 3 (some (.object "LinkResolver$Change")), Cond.fieldLink RX1 9 "LinkResolver$History" "newest" "LLinkResolver$Change;", Cond.fieldLink RX1 24 "LinkResolver$Change" "day" "I"]
def wsX4_subscribe_r2 : List Cond := [Cond.fieldLink RX1 27 "LinkResolver$Change" "before" "LLinkResolver$Change;", Cond.methodLink RX4 80 yX4_change, Cond.instanceMethod yX4_change, Cond.selects RX4 yX4_change yX4_change, Cond.code yX4_change cX4_change 5 none, Cond.fieldLink RX4 28 "LinkResolver" "changeCount" "I", Cond.methodLink RX4 169 yX1_add, Cond.instanceMethod yX1_add, Cond.selects RX1 yX1_add yX1_add, Cond.code yX1_add cX1_add 5 none, Cond.classLink RX1 19 RX0, Cond.instantiable RX0 4, Cond.initialized RX0, Cond.methodLink RX1 21 yX0_init, Cond.instanceMethod yX0_init, Cond.code yX0_init cX0_init 6 none, Cond.methodLink RX0 1 objectInit, Cond.instanceMethod objectInit, Cond.code objectInit ⟨#[0xb1]⟩ 1 none, Cond.fieldLink RX0 7 "LinkResolver$Change" "day" "I", Cond.fieldLink RX0 13 "LinkResolver$Change" "years" "J", Cond.fieldLink RX0 17 "LinkResolver$Change" "wall" "I", Cond.fieldLink RX0 20 "LinkResolver$Change" "before" "LLinkResolver$Change;"]
def wsX4_subscribe : List Cond := .code yX4_subscribe cX4_subscribe 5 (some .boolean) :: ((wsX4_subscribe_r1 ++ wsX4_subscribe_r2) ++ wsX20 ++ wsX40 ++ wsX00 ++ wsX10 ++ (vx_atS RX4 127 "java/lang/IndexOutOfBoundsException" ["java/lang/RuntimeException", "java/lang/Exception"]).filter goodWord)
def wsX4_existingStay : List Cond := .code yX4_existingStay cX4_existingStay 4 (some (.object "LinkResolver$History")) :: ([.methodLink RX4 64 yX4_existingPack, .instanceMethod yX4_existingPack, .selects RX4 yX4_existingPack yX4_existingPack, .initialized RX4, .code yX4_existingPack cX4_existingPack 2 (some (.object "LinkResolver$Pack")), .classLink RX4 123 "java/lang/IndexOutOfBoundsException", .initialized "java/lang/IndexOutOfBoundsException", .fieldLink RX4 25 "LinkResolver" "packCount" "I", .fieldLink RX4 17 "LinkResolver" "packs" "[LLinkResolver$Pack;", .methodLink RX4 48 yX4_existingTitle, .instanceMethod yX4_existingTitle, .selects RX4 yX4_existingTitle yX4_existingTitle, .code yX4_existingTitle cX4_existingTitle 2 (some (.object "LinkResolver$Title")), .fieldLink RX4 21 "LinkResolver" "titleCount" "I", .fieldLink RX4 11 "LinkResolver" "titles" "[LLinkResolver$Title;", .methodLink RX4 165 yX2_stayOf, .instanceMethod yX2_stayOf, .selects RX2 yX2_stayOf yX2_stayOf, .initialized RX2, .code yX2_stayOf cX2_stayOf 2 (some (.object "LinkResolver$History")), .classLink RX2 36 "java/lang/IndexOutOfBoundsException", .fieldLink RX2 32 "LinkResolver$Pack" "stays" "[LLinkResolver$History;"] ++ wsX40 ++ wsX20 ++ (vx_atS RX4 127 "java/lang/IndexOutOfBoundsException" ["java/lang/RuntimeException", "java/lang/Exception"]).filter goodWord ++ (vx_atS RX2 40 "java/lang/IndexOutOfBoundsException" ["java/lang/RuntimeException", "java/lang/Exception"]).filter goodWord)
def wsX4_come_r1 : List Cond := [Cond.fieldLink RX4 31 "LinkResolver" "currentDay" "I", Cond.methodLink RX4 84 yX4_existingStay, Cond.instanceMethod yX4_existingStay, Cond.selects RX4 yX4_existingStay yX4_existingStay, Cond.initialized RX4, Cond.code yX4_existingStay cX4_existingStay 4 (some (.object "LinkResolver$History")), Cond.methodLink RX4 64 yX4_existingPack, Cond.instanceMethod yX4_existingPack, Cond.selects RX4 yX4_existingPack yX4_existingPack, Cond.code yX4_existingPack cX4_existingPack 2 (some (.object "LinkResolver$Pack")), Cond.classLink RX4 123 "java/lang/IndexOutOfBoundsException", Cond.initialized "java/lang/IndexOutOfBoundsException", Cond.fieldLink RX4 25 "LinkResolver" "packCount" "I", Cond.fieldLink RX4 17 "LinkResolver" "packs" "[LLinkResolver$Pack;", Cond.methodLink RX4 48 yX4_existingTitle, Cond.instanceMethod yX4_existingTitle, Cond.selects RX4 yX4_existingTitle yX4_existingTitle, Cond.code yX4_existingTitle cX4_existingTitle 2 (some (.object "LinkResolver$Title")), Cond.fieldLink RX4 21 "LinkResolver" "titleCount" "I", Cond.fieldLink RX4 11 "LinkResolver" "titles" "[LLinkResolver$Title;", Cond.methodLink RX4 165 yX2_stayOf, Cond.instanceMethod yX2_stayOf, Cond.selects RX2 yX2_stayOf yX2_stayOf, Cond.initialized RX2]
def wsX4_come_r2 : List Cond := [Cond.code yX2_stayOf cX2_stayOf 2 (some (.object "LinkResolver$History")), Cond.classLink RX2 36 "java/lang/IndexOutOfBoundsException", Cond.fieldLink RX2 32 "LinkResolver$Pack" "stays" "[LLinkResolver$History;", Cond.methodLink RX4 34 yX4_checkRange, Cond.static yX4_checkRange, Cond.code yX4_checkRange cX4_checkRange 3 none, Cond.classLink RX4 156 "java/lang/IllegalArgumentException", Cond.initialized "java/lang/IllegalArgumentException", Cond.methodLink RX4 72 yX1_isOnAt, Cond.instanceMethod yX1_isOnAt, Cond.selects RX1 yX1_isOnAt yX1_isOnAt, Cond.initialized RX1, Cond.code yX1_isOnAt cX1_isOnAt 3 (some .boolean), Cond.fieldLink RX1 34 "LinkResolver$Change" "years" "J", Cond.methodLink RX1 30 yX1_changeAt, Cond.instanceMethod yX1_changeAt, Cond.selects RX1 yX1_changeAt yX1_changeAt, Cond.code yX1_changeAt cX1_changeAt 3 (some (.object "LinkResolver$Change")), Cond.fieldLink RX1 9 "LinkResolver$History" "newest" "LLinkResolver$Change;", Cond.fieldLink RX1 24 "LinkResolver$Change" "day" "I", Cond.fieldLink RX1 27 "LinkResolver$Change" "before" "LLinkResolver$Change;", Cond.methodLink RX4 88 yX4_yearsBetween, Cond.static yX4_yearsBetween, Cond.code yX4_yearsBetween cX4_yearsBetween 2 (some .long)]
def wsX4_come_r3 : List Cond := [Cond.methodLink RX4 80 yX4_change, Cond.instanceMethod yX4_change, Cond.selects RX4 yX4_change yX4_change, Cond.code yX4_change cX4_change 5 none, Cond.fieldLink RX4 28 "LinkResolver" "changeCount" "I", Cond.methodLink RX4 169 yX1_add, Cond.instanceMethod yX1_add, Cond.selects RX1 yX1_add yX1_add, Cond.code yX1_add cX1_add 5 none, Cond.classLink RX1 19 RX0, Cond.instantiable RX0 4, Cond.initialized RX0, Cond.methodLink RX1 21 yX0_init, Cond.instanceMethod yX0_init, Cond.code yX0_init cX0_init 6 none, Cond.methodLink RX0 1 objectInit, Cond.instanceMethod objectInit, Cond.code objectInit ⟨#[0xb1]⟩ 1 none, Cond.fieldLink RX0 7 "LinkResolver$Change" "day" "I", Cond.fieldLink RX0 13 "LinkResolver$Change" "years" "J", Cond.fieldLink RX0 17 "LinkResolver$Change" "wall" "I", Cond.fieldLink RX0 20 "LinkResolver$Change" "before" "LLinkResolver$Change;"]
def wsX4_come : List Cond := .code yX4_come cX4_come 8 (some .boolean) :: ((wsX4_come_r1 ++ (wsX4_come_r2 ++ wsX4_come_r3)) ++ wsX40 ++ wsX20 ++ wsX00 ++ wsX10 ++ (vx_atS RX4 127 "java/lang/IndexOutOfBoundsException" ["java/lang/RuntimeException", "java/lang/Exception"]).filter goodWord ++ (vx_atS RX2 40 "java/lang/IndexOutOfBoundsException" ["java/lang/RuntimeException", "java/lang/Exception"]).filter goodWord ++ (vx_atS RX4 160 "java/lang/IllegalArgumentException" ["java/lang/RuntimeException", "java/lang/Exception"]).filter goodWord)
def wsX4_go_r1 : List Cond := [Cond.classLink RX4 38 "java/lang/IllegalStateException", Cond.initialized "java/lang/IllegalStateException", Cond.fieldLink RX4 31 "LinkResolver" "currentDay" "I", Cond.methodLink RX4 84 yX4_existingStay, Cond.instanceMethod yX4_existingStay, Cond.selects RX4 yX4_existingStay yX4_existingStay, Cond.initialized RX4, Cond.code yX4_existingStay cX4_existingStay 4 (some (.object "LinkResolver$History")), Cond.methodLink RX4 64 yX4_existingPack, Cond.instanceMethod yX4_existingPack, Cond.selects RX4 yX4_existingPack yX4_existingPack, Cond.code yX4_existingPack cX4_existingPack 2 (some (.object "LinkResolver$Pack")), Cond.classLink RX4 123 "java/lang/IndexOutOfBoundsException", Cond.initialized "java/lang/IndexOutOfBoundsException", Cond.fieldLink RX4 25 "LinkResolver" "packCount" "I", Cond.fieldLink RX4 17 "LinkResolver" "packs" "[LLinkResolver$Pack;", Cond.methodLink RX4 48 yX4_existingTitle, Cond.instanceMethod yX4_existingTitle, Cond.selects RX4 yX4_existingTitle yX4_existingTitle, Cond.code yX4_existingTitle cX4_existingTitle 2 (some (.object "LinkResolver$Title")), Cond.fieldLink RX4 21 "LinkResolver" "titleCount" "I", Cond.fieldLink RX4 11 "LinkResolver" "titles" "[LLinkResolver$Title;", Cond.methodLink RX4 165 yX2_stayOf, Cond.instanceMethod yX2_stayOf]
def wsX4_go_r2 : List Cond := [Cond.selects RX2 yX2_stayOf yX2_stayOf, Cond.initialized RX2, Cond.code yX2_stayOf cX2_stayOf 2 (some (.object "LinkResolver$History")), Cond.classLink RX2 36 "java/lang/IndexOutOfBoundsException", Cond.fieldLink RX2 32 "LinkResolver$Pack" "stays" "[LLinkResolver$History;", Cond.methodLink RX4 72 yX1_isOnAt, Cond.instanceMethod yX1_isOnAt, Cond.selects RX1 yX1_isOnAt yX1_isOnAt, Cond.initialized RX1, Cond.code yX1_isOnAt cX1_isOnAt 3 (some .boolean), Cond.fieldLink RX1 34 "LinkResolver$Change" "years" "J", Cond.methodLink RX1 30 yX1_changeAt, Cond.instanceMethod yX1_changeAt, Cond.selects RX1 yX1_changeAt yX1_changeAt, Cond.code yX1_changeAt cX1_changeAt 3 (some (.object "LinkResolver$Change")), Cond.fieldLink RX1 9 "LinkResolver$History" "newest" "LLinkResolver$Change;", Cond.fieldLink RX1 24 "LinkResolver$Change" "day" "I", Cond.fieldLink RX1 27 "LinkResolver$Change" "before" "LLinkResolver$Change;", Cond.methodLink RX4 80 yX4_change, Cond.instanceMethod yX4_change, Cond.selects RX4 yX4_change yX4_change, Cond.code yX4_change cX4_change 5 none, Cond.fieldLink RX4 28 "LinkResolver" "changeCount" "I", Cond.methodLink RX4 169 yX1_add]
def wsX4_go_r3 : List Cond := [Cond.instanceMethod yX1_add, Cond.selects RX1 yX1_add yX1_add, Cond.code yX1_add cX1_add 5 none, Cond.classLink RX1 19 RX0, Cond.instantiable RX0 4, Cond.initialized RX0, Cond.methodLink RX1 21 yX0_init, Cond.instanceMethod yX0_init, Cond.code yX0_init cX0_init 6 none, Cond.methodLink RX0 1 objectInit, Cond.instanceMethod objectInit, Cond.code objectInit ⟨#[0xb1]⟩ 1 none, Cond.fieldLink RX0 7 "LinkResolver$Change" "day" "I", Cond.fieldLink RX0 13 "LinkResolver$Change" "years" "J", Cond.fieldLink RX0 17 "LinkResolver$Change" "wall" "I", Cond.fieldLink RX0 20 "LinkResolver$Change" "before" "LLinkResolver$Change;"]
def wsX4_go : List Cond := .code yX4_go cX4_go 4 none :: ((wsX4_go_r1 ++ (wsX4_go_r2 ++ wsX4_go_r3)) ++ wsX40 ++ wsX20 ++ wsX00 ++ wsX10 ++ (vx_atS RX4 42 "java/lang/IllegalStateException" ["java/lang/RuntimeException", "java/lang/Exception"]).filter goodWord ++ (vx_atS RX4 127 "java/lang/IndexOutOfBoundsException" ["java/lang/RuntimeException", "java/lang/Exception"]).filter goodWord ++ (vx_atS RX2 40 "java/lang/IndexOutOfBoundsException" ["java/lang/RuntimeException", "java/lang/Exception"]).filter goodWord)
def wsX4_pass : List Cond := .code yX4_pass cX4_pass 2 (some .int) :: ([.classLink RX4 38 "java/lang/IllegalStateException", .initialized "java/lang/IllegalStateException", .fieldLink RX4 31 "LinkResolver" "currentDay" "I", .methodLink RX4 34 yX4_checkRange, .static yX4_checkRange, .initialized RX4, .code yX4_checkRange cX4_checkRange 3 none, .classLink RX4 156 "java/lang/IllegalArgumentException", .initialized "java/lang/IllegalArgumentException"] ++ wsX40 ++ (vx_atS RX4 42 "java/lang/IllegalStateException" ["java/lang/RuntimeException", "java/lang/Exception"]).filter goodWord ++ (vx_atS RX4 160 "java/lang/IllegalArgumentException" ["java/lang/RuntimeException", "java/lang/Exception"]).filter goodWord)
def wsX4_today : List Cond := .code yX4_today cX4_today 1 (some .int) :: ([.fieldLink RX4 31 "LinkResolver" "currentDay" "I"] ++ wsX40)
def wsX4_isSubscribed_r1 : List Cond := [Cond.fieldLink RX4 68 "LinkResolver$Pack" "subscription" "LLinkResolver$History;", Cond.fieldLink RX4 31 "LinkResolver" "currentDay" "I", Cond.methodLink RX4 64 yX4_existingPack, Cond.instanceMethod yX4_existingPack, Cond.selects RX4 yX4_existingPack yX4_existingPack, Cond.initialized RX4, Cond.code yX4_existingPack cX4_existingPack 2 (some (.object "LinkResolver$Pack")), Cond.classLink RX4 123 "java/lang/IndexOutOfBoundsException", Cond.initialized "java/lang/IndexOutOfBoundsException", Cond.fieldLink RX4 25 "LinkResolver" "packCount" "I", Cond.fieldLink RX4 17 "LinkResolver" "packs" "[LLinkResolver$Pack;", Cond.methodLink RX4 34 yX4_checkRange, Cond.static yX4_checkRange, Cond.code yX4_checkRange cX4_checkRange 3 none, Cond.classLink RX4 156 "java/lang/IllegalArgumentException", Cond.initialized "java/lang/IllegalArgumentException", Cond.methodLink RX4 72 yX1_isOnAt, Cond.instanceMethod yX1_isOnAt, Cond.selects RX1 yX1_isOnAt yX1_isOnAt, Cond.initialized RX1, Cond.code yX1_isOnAt cX1_isOnAt 3 (some .boolean), Cond.fieldLink RX1 34 "LinkResolver$Change" "years" "J", Cond.methodLink RX1 30 yX1_changeAt, Cond.instanceMethod yX1_changeAt]
def wsX4_isSubscribed_r2 : List Cond := [Cond.selects RX1 yX1_changeAt yX1_changeAt, Cond.code yX1_changeAt cX1_changeAt 3 (some (.object "LinkResolver$Change")), Cond.fieldLink RX1 9 "LinkResolver$History" "newest" "LLinkResolver$Change;", Cond.fieldLink RX1 24 "LinkResolver$Change" "day" "I", Cond.fieldLink RX1 27 "LinkResolver$Change" "before" "LLinkResolver$Change;"]
def wsX4_isSubscribed : List Cond := .code yX4_isSubscribed cX4_isSubscribed 4 (some .boolean) :: ((wsX4_isSubscribed_r1 ++ wsX4_isSubscribed_r2) ++ wsX20 ++ wsX40 ++ wsX00 ++ wsX10 ++ (vx_atS RX4 127 "java/lang/IndexOutOfBoundsException" ["java/lang/RuntimeException", "java/lang/Exception"]).filter goodWord ++ (vx_atS RX4 160 "java/lang/IllegalArgumentException" ["java/lang/RuntimeException", "java/lang/Exception"]).filter goodWord)
def wsX4_isIn_r1 : List Cond := [Cond.fieldLink RX4 31 "LinkResolver" "currentDay" "I", Cond.methodLink RX4 84 yX4_existingStay, Cond.instanceMethod yX4_existingStay, Cond.selects RX4 yX4_existingStay yX4_existingStay, Cond.initialized RX4, Cond.code yX4_existingStay cX4_existingStay 4 (some (.object "LinkResolver$History")), Cond.methodLink RX4 64 yX4_existingPack, Cond.instanceMethod yX4_existingPack, Cond.selects RX4 yX4_existingPack yX4_existingPack, Cond.code yX4_existingPack cX4_existingPack 2 (some (.object "LinkResolver$Pack")), Cond.classLink RX4 123 "java/lang/IndexOutOfBoundsException", Cond.initialized "java/lang/IndexOutOfBoundsException", Cond.fieldLink RX4 25 "LinkResolver" "packCount" "I", Cond.fieldLink RX4 17 "LinkResolver" "packs" "[LLinkResolver$Pack;", Cond.methodLink RX4 48 yX4_existingTitle, Cond.instanceMethod yX4_existingTitle, Cond.selects RX4 yX4_existingTitle yX4_existingTitle, Cond.code yX4_existingTitle cX4_existingTitle 2 (some (.object "LinkResolver$Title")), Cond.fieldLink RX4 21 "LinkResolver" "titleCount" "I", Cond.fieldLink RX4 11 "LinkResolver" "titles" "[LLinkResolver$Title;", Cond.methodLink RX4 165 yX2_stayOf, Cond.instanceMethod yX2_stayOf, Cond.selects RX2 yX2_stayOf yX2_stayOf, Cond.initialized RX2]
def wsX4_isIn_r2 : List Cond := [Cond.code yX2_stayOf cX2_stayOf 2 (some (.object "LinkResolver$History")), Cond.classLink RX2 36 "java/lang/IndexOutOfBoundsException", Cond.fieldLink RX2 32 "LinkResolver$Pack" "stays" "[LLinkResolver$History;", Cond.methodLink RX4 34 yX4_checkRange, Cond.static yX4_checkRange, Cond.code yX4_checkRange cX4_checkRange 3 none, Cond.classLink RX4 156 "java/lang/IllegalArgumentException", Cond.initialized "java/lang/IllegalArgumentException", Cond.methodLink RX4 72 yX1_isOnAt, Cond.instanceMethod yX1_isOnAt, Cond.selects RX1 yX1_isOnAt yX1_isOnAt, Cond.initialized RX1, Cond.code yX1_isOnAt cX1_isOnAt 3 (some .boolean), Cond.fieldLink RX1 34 "LinkResolver$Change" "years" "J", Cond.methodLink RX1 30 yX1_changeAt, Cond.instanceMethod yX1_changeAt, Cond.selects RX1 yX1_changeAt yX1_changeAt, Cond.code yX1_changeAt cX1_changeAt 3 (some (.object "LinkResolver$Change")), Cond.fieldLink RX1 9 "LinkResolver$History" "newest" "LLinkResolver$Change;", Cond.fieldLink RX1 24 "LinkResolver$Change" "day" "I", Cond.fieldLink RX1 27 "LinkResolver$Change" "before" "LLinkResolver$Change;"]
def wsX4_isIn : List Cond := .code yX4_isIn cX4_isIn 5 (some .boolean) :: ((wsX4_isIn_r1 ++ wsX4_isIn_r2) ++ wsX40 ++ wsX20 ++ wsX00 ++ wsX10 ++ (vx_atS RX4 127 "java/lang/IndexOutOfBoundsException" ["java/lang/RuntimeException", "java/lang/Exception"]).filter goodWord ++ (vx_atS RX2 40 "java/lang/IndexOutOfBoundsException" ["java/lang/RuntimeException", "java/lang/Exception"]).filter goodWord ++ (vx_atS RX4 160 "java/lang/IllegalArgumentException" ["java/lang/RuntimeException", "java/lang/Exception"]).filter goodWord)
def wsX4_report_r1 : List Cond := [Cond.fieldLink RX4 96 "LinkResolver$History" "breaks" "I", Cond.methodLink RX4 84 yX4_existingStay, Cond.instanceMethod yX4_existingStay, Cond.selects RX4 yX4_existingStay yX4_existingStay, Cond.initialized RX4, Cond.code yX4_existingStay cX4_existingStay 4 (some (.object "LinkResolver$History")), Cond.methodLink RX4 64 yX4_existingPack, Cond.instanceMethod yX4_existingPack, Cond.selects RX4 yX4_existingPack yX4_existingPack, Cond.code yX4_existingPack cX4_existingPack 2 (some (.object "LinkResolver$Pack")), Cond.classLink RX4 123 "java/lang/IndexOutOfBoundsException", Cond.initialized "java/lang/IndexOutOfBoundsException", Cond.fieldLink RX4 25 "LinkResolver" "packCount" "I", Cond.fieldLink RX4 17 "LinkResolver" "packs" "[LLinkResolver$Pack;", Cond.methodLink RX4 48 yX4_existingTitle, Cond.instanceMethod yX4_existingTitle, Cond.selects RX4 yX4_existingTitle yX4_existingTitle, Cond.code yX4_existingTitle cX4_existingTitle 2 (some (.object "LinkResolver$Title")), Cond.fieldLink RX4 21 "LinkResolver" "titleCount" "I", Cond.fieldLink RX4 11 "LinkResolver" "titles" "[LLinkResolver$Title;", Cond.methodLink RX4 165 yX2_stayOf, Cond.instanceMethod yX2_stayOf, Cond.selects RX2 yX2_stayOf yX2_stayOf, Cond.initialized RX2]
def wsX4_report_r2 : List Cond := [Cond.code yX2_stayOf cX2_stayOf 2 (some (.object "LinkResolver$History")), Cond.classLink RX2 36 "java/lang/IndexOutOfBoundsException", Cond.fieldLink RX2 32 "LinkResolver$Pack" "stays" "[LLinkResolver$History;"]
def wsX4_report : List Cond := .code yX4_report cX4_report 4 (some .int) :: ((wsX4_report_r1 ++ wsX4_report_r2) ++ wsX10 ++ wsX40 ++ wsX20 ++ (vx_atS RX4 127 "java/lang/IndexOutOfBoundsException" ["java/lang/RuntimeException", "java/lang/Exception"]).filter goodWord ++ (vx_atS RX2 40 "java/lang/IndexOutOfBoundsException" ["java/lang/RuntimeException", "java/lang/Exception"]).filter goodWord)
def wsX4_mend_r1 : List Cond := [Cond.fieldLink RX4 96 "LinkResolver$History" "breaks" "I", Cond.methodLink RX4 84 yX4_existingStay, Cond.instanceMethod yX4_existingStay, Cond.selects RX4 yX4_existingStay yX4_existingStay, Cond.initialized RX4, Cond.code yX4_existingStay cX4_existingStay 4 (some (.object "LinkResolver$History")), Cond.methodLink RX4 64 yX4_existingPack, Cond.instanceMethod yX4_existingPack, Cond.selects RX4 yX4_existingPack yX4_existingPack, Cond.code yX4_existingPack cX4_existingPack 2 (some (.object "LinkResolver$Pack")), Cond.classLink RX4 123 "java/lang/IndexOutOfBoundsException", Cond.initialized "java/lang/IndexOutOfBoundsException", Cond.fieldLink RX4 25 "LinkResolver" "packCount" "I", Cond.fieldLink RX4 17 "LinkResolver" "packs" "[LLinkResolver$Pack;", Cond.methodLink RX4 48 yX4_existingTitle, Cond.instanceMethod yX4_existingTitle, Cond.selects RX4 yX4_existingTitle yX4_existingTitle, Cond.code yX4_existingTitle cX4_existingTitle 2 (some (.object "LinkResolver$Title")), Cond.fieldLink RX4 21 "LinkResolver" "titleCount" "I", Cond.fieldLink RX4 11 "LinkResolver" "titles" "[LLinkResolver$Title;", Cond.methodLink RX4 165 yX2_stayOf, Cond.instanceMethod yX2_stayOf, Cond.selects RX2 yX2_stayOf yX2_stayOf, Cond.initialized RX2]
def wsX4_mend_r2 : List Cond := [Cond.code yX2_stayOf cX2_stayOf 2 (some (.object "LinkResolver$History")), Cond.classLink RX2 36 "java/lang/IndexOutOfBoundsException", Cond.fieldLink RX2 32 "LinkResolver$Pack" "stays" "[LLinkResolver$History;"]
def wsX4_mend : List Cond := .code yX4_mend cX4_mend 5 (some .int) :: ((wsX4_mend_r1 ++ wsX4_mend_r2) ++ wsX10 ++ wsX40 ++ wsX20 ++ (vx_atS RX4 127 "java/lang/IndexOutOfBoundsException" ["java/lang/RuntimeException", "java/lang/Exception"]).filter goodWord ++ (vx_atS RX2 40 "java/lang/IndexOutOfBoundsException" ["java/lang/RuntimeException", "java/lang/Exception"]).filter goodWord)
def wsX4_checkArticle : List Cond := .code yX4_checkArticle cX4_checkArticle 4 none :: ([.fieldLink RX4 31 "LinkResolver" "currentDay" "I", .methodLink RX4 34 yX4_checkRange, .static yX4_checkRange, .initialized RX4, .code yX4_checkRange cX4_checkRange 3 none, .classLink RX4 156 "java/lang/IllegalArgumentException", .initialized "java/lang/IllegalArgumentException"] ++ wsX40 ++ (vx_atS RX4 160 "java/lang/IllegalArgumentException" ["java/lang/RuntimeException", "java/lang/Exception"]).filter goodWord)
def wsX4_hasYear : List Cond := .code yX4_hasYear cX4_hasYear 3 (some .boolean) :: ([])
def wsX4_isWay_r1 : List Cond := [Cond.methodLink RX4 142 yX2_letsIn, Cond.instanceMethod yX2_letsIn, Cond.selects RX2 yX2_letsIn yX2_letsIn, Cond.initialized RX2, Cond.code yX2_letsIn cX2_letsIn 2 (some .boolean), Cond.fieldLink RX2 18 "LinkResolver$Pack" "groups" "I", Cond.methodLink RX4 145 yX2_yearsCovered, Cond.instanceMethod yX2_yearsCovered, Cond.selects RX2 yX2_yearsCovered yX2_yearsCovered, Cond.code yX2_yearsCovered cX2_yearsCovered 3 (some .long), Cond.methodLink RX2 50 yX2_yearsOpen, Cond.instanceMethod yX2_yearsOpen, Cond.selects RX2 yX2_yearsOpen yX2_yearsOpen, Cond.code yX2_yearsOpen cX2_yearsOpen 3 (some .long), Cond.fieldLink RX2 28 "LinkResolver$Pack" "subscription" "LLinkResolver$History;", Cond.methodLink RX2 43 yX2_stayOf, Cond.instanceMethod yX2_stayOf, Cond.selects RX2 yX2_stayOf yX2_stayOf, Cond.code yX2_stayOf cX2_stayOf 2 (some (.object "LinkResolver$History")), Cond.classLink RX2 36 "java/lang/IndexOutOfBoundsException", Cond.initialized "java/lang/IndexOutOfBoundsException", Cond.fieldLink RX2 32 "LinkResolver$Pack" "stays" "[LLinkResolver$History;", Cond.methodLink RX2 57 yX1_yearsOpen, Cond.instanceMethod yX1_yearsOpen]
def wsX4_isWay_r2 : List Cond := [Cond.selects RX1 yX1_yearsOpen yX1_yearsOpen, Cond.initialized RX1, Cond.code yX1_yearsOpen cX1_yearsOpen 3 (some .long), Cond.fieldLink RX1 34 "LinkResolver$Change" "years" "J", Cond.fieldLink RX1 38 "LinkResolver$Change" "wall" "I", Cond.methodLink RX1 30 yX1_changeAt, Cond.instanceMethod yX1_changeAt, Cond.selects RX1 yX1_changeAt yX1_changeAt, Cond.code yX1_changeAt cX1_changeAt 3 (some (.object "LinkResolver$Change")), Cond.fieldLink RX1 9 "LinkResolver$History" "newest" "LLinkResolver$Change;", Cond.fieldLink RX1 24 "LinkResolver$Change" "day" "I", Cond.fieldLink RX1 27 "LinkResolver$Change" "before" "LLinkResolver$Change;", Cond.static yX4_yearsBetween, Cond.initialized RX4, Cond.code yX4_yearsBetween cX4_yearsBetween 2 (some .long), Cond.methodLink RX2 54 yX2_yearsKept, Cond.instanceMethod yX2_yearsKept, Cond.selects RX2 yX2_yearsKept yX2_yearsKept, Cond.code yX2_yearsKept cX2_yearsKept 5 (some .long), Cond.fieldLink RX2 21 "LinkResolver$Pack" "isKeeping" "Z", Cond.methodLink RX2 60 yX1_yearsKept, Cond.instanceMethod yX1_yearsKept, Cond.selects RX1 yX1_yearsKept yX1_yearsKept, Cond.code yX1_yearsKept cX1_yearsKept 10 (some .long)]
def wsX4_isWay_r3 : List Cond := [Cond.methodLink RX1 45 Lib.Math.min.name, Cond.static Lib.Math.min.name, Cond.initialized "java/lang/Math", Cond.code Lib.Math.min.name Lib.Math.min.code 2 (some .int), Cond.methodLink RX4 138 yX4_hasYear, Cond.static yX4_hasYear, Cond.code yX4_hasYear cX4_hasYear 3 (some .boolean)]
def wsX4_isWay : List Cond := .code yX4_isWay cX4_isWay 5 (some .boolean) :: ((wsX4_isWay_r1 ++ (wsX4_isWay_r2 ++ wsX4_isWay_r3)) ++ wsX20 ++ wsX00 ++ wsX10 ++ (vx_atS RX2 40 "java/lang/IndexOutOfBoundsException" ["java/lang/RuntimeException", "java/lang/Exception"]).filter goodWord)
def wsX4_covers_r1 : List Cond := [Cond.methodLink RX4 64 yX4_existingPack, Cond.instanceMethod yX4_existingPack, Cond.selects RX4 yX4_existingPack yX4_existingPack, Cond.initialized RX4, Cond.code yX4_existingPack cX4_existingPack 2 (some (.object "LinkResolver$Pack")), Cond.classLink RX4 123 "java/lang/IndexOutOfBoundsException", Cond.initialized "java/lang/IndexOutOfBoundsException", Cond.fieldLink RX4 25 "LinkResolver" "packCount" "I", Cond.fieldLink RX4 17 "LinkResolver" "packs" "[LLinkResolver$Pack;", Cond.methodLink RX4 48 yX4_existingTitle, Cond.instanceMethod yX4_existingTitle, Cond.selects RX4 yX4_existingTitle yX4_existingTitle, Cond.code yX4_existingTitle cX4_existingTitle 2 (some (.object "LinkResolver$Title")), Cond.fieldLink RX4 21 "LinkResolver" "titleCount" "I", Cond.fieldLink RX4 11 "LinkResolver" "titles" "[LLinkResolver$Title;", Cond.methodLink RX4 99 yX4_checkArticle, Cond.instanceMethod yX4_checkArticle, Cond.selects RX4 yX4_checkArticle yX4_checkArticle, Cond.code yX4_checkArticle cX4_checkArticle 4 none, Cond.fieldLink RX4 31 "LinkResolver" "currentDay" "I", Cond.methodLink RX4 34 yX4_checkRange, Cond.static yX4_checkRange, Cond.code yX4_checkRange cX4_checkRange 3 none, Cond.classLink RX4 156 "java/lang/IllegalArgumentException"]
def wsX4_covers_r2 : List Cond := [Cond.initialized "java/lang/IllegalArgumentException", Cond.methodLink RX4 102 yX4_isWay, Cond.static yX4_isWay, Cond.code yX4_isWay cX4_isWay 5 (some .boolean), Cond.methodLink RX4 142 yX2_letsIn, Cond.instanceMethod yX2_letsIn, Cond.selects RX2 yX2_letsIn yX2_letsIn, Cond.initialized RX2, Cond.code yX2_letsIn cX2_letsIn 2 (some .boolean), Cond.fieldLink RX2 18 "LinkResolver$Pack" "groups" "I", Cond.methodLink RX4 145 yX2_yearsCovered, Cond.instanceMethod yX2_yearsCovered, Cond.selects RX2 yX2_yearsCovered yX2_yearsCovered, Cond.code yX2_yearsCovered cX2_yearsCovered 3 (some .long), Cond.methodLink RX2 50 yX2_yearsOpen, Cond.instanceMethod yX2_yearsOpen, Cond.selects RX2 yX2_yearsOpen yX2_yearsOpen, Cond.code yX2_yearsOpen cX2_yearsOpen 3 (some .long), Cond.fieldLink RX2 28 "LinkResolver$Pack" "subscription" "LLinkResolver$History;", Cond.methodLink RX2 43 yX2_stayOf, Cond.instanceMethod yX2_stayOf, Cond.selects RX2 yX2_stayOf yX2_stayOf, Cond.code yX2_stayOf cX2_stayOf 2 (some (.object "LinkResolver$History")), Cond.classLink RX2 36 "java/lang/IndexOutOfBoundsException"]
def wsX4_covers_r3 : List Cond := [Cond.fieldLink RX2 32 "LinkResolver$Pack" "stays" "[LLinkResolver$History;", Cond.methodLink RX2 57 yX1_yearsOpen, Cond.instanceMethod yX1_yearsOpen, Cond.selects RX1 yX1_yearsOpen yX1_yearsOpen, Cond.initialized RX1, Cond.code yX1_yearsOpen cX1_yearsOpen 3 (some .long), Cond.fieldLink RX1 34 "LinkResolver$Change" "years" "J", Cond.fieldLink RX1 38 "LinkResolver$Change" "wall" "I", Cond.methodLink RX1 30 yX1_changeAt, Cond.instanceMethod yX1_changeAt, Cond.selects RX1 yX1_changeAt yX1_changeAt, Cond.code yX1_changeAt cX1_changeAt 3 (some (.object "LinkResolver$Change")), Cond.fieldLink RX1 9 "LinkResolver$History" "newest" "LLinkResolver$Change;", Cond.fieldLink RX1 24 "LinkResolver$Change" "day" "I", Cond.fieldLink RX1 27 "LinkResolver$Change" "before" "LLinkResolver$Change;", Cond.static yX4_yearsBetween, Cond.code yX4_yearsBetween cX4_yearsBetween 2 (some .long), Cond.methodLink RX2 54 yX2_yearsKept, Cond.instanceMethod yX2_yearsKept, Cond.selects RX2 yX2_yearsKept yX2_yearsKept, Cond.code yX2_yearsKept cX2_yearsKept 5 (some .long), Cond.fieldLink RX2 21 "LinkResolver$Pack" "isKeeping" "Z", Cond.methodLink RX2 60 yX1_yearsKept, Cond.instanceMethod yX1_yearsKept]
def wsX4_covers_r4 : List Cond := [Cond.selects RX1 yX1_yearsKept yX1_yearsKept, Cond.code yX1_yearsKept cX1_yearsKept 10 (some .long), Cond.methodLink RX1 45 Lib.Math.min.name, Cond.static Lib.Math.min.name, Cond.initialized "java/lang/Math", Cond.code Lib.Math.min.name Lib.Math.min.code 2 (some .int), Cond.methodLink RX4 138 yX4_hasYear, Cond.static yX4_hasYear, Cond.code yX4_hasYear cX4_hasYear 3 (some .boolean)]
def wsX4_covers : List Cond := .code yX4_covers cX4_covers 7 (some .boolean) :: ((wsX4_covers_r1 ++ (wsX4_covers_r2 ++ (wsX4_covers_r3 ++ wsX4_covers_r4))) ++ wsX40 ++ wsX20 ++ wsX00 ++ wsX10 ++ (vx_atS RX4 127 "java/lang/IndexOutOfBoundsException" ["java/lang/RuntimeException", "java/lang/Exception"]).filter goodWord ++ (vx_atS RX4 160 "java/lang/IllegalArgumentException" ["java/lang/RuntimeException", "java/lang/Exception"]).filter goodWord ++ (vx_atS RX2 40 "java/lang/IndexOutOfBoundsException" ["java/lang/RuntimeException", "java/lang/Exception"]).filter goodWord)
def wsX4_waysTo_r1 : List Cond := [Cond.fieldLink RX4 25 "LinkResolver" "packCount" "I", Cond.methodLink RX4 64 yX4_existingPack, Cond.instanceMethod yX4_existingPack, Cond.selects RX4 yX4_existingPack yX4_existingPack, Cond.initialized RX4, Cond.code yX4_existingPack cX4_existingPack 2 (some (.object "LinkResolver$Pack")), Cond.classLink RX4 123 "java/lang/IndexOutOfBoundsException", Cond.initialized "java/lang/IndexOutOfBoundsException", Cond.fieldLink RX4 17 "LinkResolver" "packs" "[LLinkResolver$Pack;", Cond.methodLink RX4 102 yX4_isWay, Cond.static yX4_isWay, Cond.code yX4_isWay cX4_isWay 5 (some .boolean), Cond.methodLink RX4 142 yX2_letsIn, Cond.instanceMethod yX2_letsIn, Cond.selects RX2 yX2_letsIn yX2_letsIn, Cond.initialized RX2, Cond.code yX2_letsIn cX2_letsIn 2 (some .boolean), Cond.fieldLink RX2 18 "LinkResolver$Pack" "groups" "I", Cond.methodLink RX4 145 yX2_yearsCovered, Cond.instanceMethod yX2_yearsCovered, Cond.selects RX2 yX2_yearsCovered yX2_yearsCovered, Cond.code yX2_yearsCovered cX2_yearsCovered 3 (some .long), Cond.methodLink RX2 50 yX2_yearsOpen, Cond.instanceMethod yX2_yearsOpen]
def wsX4_waysTo_r2 : List Cond := [Cond.selects RX2 yX2_yearsOpen yX2_yearsOpen, Cond.code yX2_yearsOpen cX2_yearsOpen 3 (some .long), Cond.fieldLink RX2 28 "LinkResolver$Pack" "subscription" "LLinkResolver$History;", Cond.methodLink RX2 43 yX2_stayOf, Cond.instanceMethod yX2_stayOf, Cond.selects RX2 yX2_stayOf yX2_stayOf, Cond.code yX2_stayOf cX2_stayOf 2 (some (.object "LinkResolver$History")), Cond.classLink RX2 36 "java/lang/IndexOutOfBoundsException", Cond.fieldLink RX2 32 "LinkResolver$Pack" "stays" "[LLinkResolver$History;", Cond.methodLink RX2 57 yX1_yearsOpen, Cond.instanceMethod yX1_yearsOpen, Cond.selects RX1 yX1_yearsOpen yX1_yearsOpen, Cond.initialized RX1, Cond.code yX1_yearsOpen cX1_yearsOpen 3 (some .long), Cond.fieldLink RX1 34 "LinkResolver$Change" "years" "J", Cond.fieldLink RX1 38 "LinkResolver$Change" "wall" "I", Cond.methodLink RX1 30 yX1_changeAt, Cond.instanceMethod yX1_changeAt, Cond.selects RX1 yX1_changeAt yX1_changeAt, Cond.code yX1_changeAt cX1_changeAt 3 (some (.object "LinkResolver$Change")), Cond.fieldLink RX1 9 "LinkResolver$History" "newest" "LLinkResolver$Change;", Cond.fieldLink RX1 24 "LinkResolver$Change" "day" "I", Cond.fieldLink RX1 27 "LinkResolver$Change" "before" "LLinkResolver$Change;", Cond.static yX4_yearsBetween]
def wsX4_waysTo_r3 : List Cond := [Cond.code yX4_yearsBetween cX4_yearsBetween 2 (some .long), Cond.methodLink RX2 54 yX2_yearsKept, Cond.instanceMethod yX2_yearsKept, Cond.selects RX2 yX2_yearsKept yX2_yearsKept, Cond.code yX2_yearsKept cX2_yearsKept 5 (some .long), Cond.fieldLink RX2 21 "LinkResolver$Pack" "isKeeping" "Z", Cond.methodLink RX2 60 yX1_yearsKept, Cond.instanceMethod yX1_yearsKept, Cond.selects RX1 yX1_yearsKept yX1_yearsKept, Cond.code yX1_yearsKept cX1_yearsKept 10 (some .long), Cond.methodLink RX1 45 Lib.Math.min.name, Cond.static Lib.Math.min.name, Cond.initialized "java/lang/Math", Cond.code Lib.Math.min.name Lib.Math.min.code 2 (some .int), Cond.methodLink RX4 138 yX4_hasYear, Cond.static yX4_hasYear, Cond.code yX4_hasYear cX4_hasYear 3 (some .boolean)]
def wsX4_waysTo : List Cond := .code yX4_waysTo cX4_waysTo 7 (some .int) :: ((wsX4_waysTo_r1 ++ (wsX4_waysTo_r2 ++ wsX4_waysTo_r3)) ++ wsX40 ++ wsX20 ++ wsX00 ++ wsX10 ++ (vx_atS RX4 127 "java/lang/IndexOutOfBoundsException" ["java/lang/RuntimeException", "java/lang/Exception"]).filter goodWord ++ (vx_atS RX2 40 "java/lang/IndexOutOfBoundsException" ["java/lang/RuntimeException", "java/lang/Exception"]).filter goodWord)
def wsJ6_bitCount_0f7a4 : List Cond := .code yJ6_bitCount_0f7a4 cJ6_bitCount_0f7a4 1 (some .int) :: ([.constant RJ6 265 (1431655765), .constant RJ6 266 (858993459), .constant RJ6 267 (252645135)])
def wsX4_ways_r1 : List Cond := [Cond.methodLink RX4 48 yX4_existingTitle, Cond.instanceMethod yX4_existingTitle, Cond.selects RX4 yX4_existingTitle yX4_existingTitle, Cond.initialized RX4, Cond.code yX4_existingTitle cX4_existingTitle 2 (some (.object "LinkResolver$Title")), Cond.classLink RX4 123 "java/lang/IndexOutOfBoundsException", Cond.initialized "java/lang/IndexOutOfBoundsException", Cond.fieldLink RX4 21 "LinkResolver" "titleCount" "I", Cond.fieldLink RX4 11 "LinkResolver" "titles" "[LLinkResolver$Title;", Cond.methodLink RX4 99 yX4_checkArticle, Cond.instanceMethod yX4_checkArticle, Cond.selects RX4 yX4_checkArticle yX4_checkArticle, Cond.code yX4_checkArticle cX4_checkArticle 4 none, Cond.fieldLink RX4 31 "LinkResolver" "currentDay" "I", Cond.methodLink RX4 34 yX4_checkRange, Cond.static yX4_checkRange, Cond.code yX4_checkRange cX4_checkRange 3 none, Cond.classLink RX4 156 "java/lang/IllegalArgumentException", Cond.initialized "java/lang/IllegalArgumentException", Cond.methodLink RX4 106 yX4_waysTo, Cond.instanceMethod yX4_waysTo, Cond.selects RX4 yX4_waysTo yX4_waysTo, Cond.code yX4_waysTo cX4_waysTo 7 (some .int), Cond.fieldLink RX4 25 "LinkResolver" "packCount" "I"]
def wsX4_ways_r2 : List Cond := [Cond.methodLink RX4 64 yX4_existingPack, Cond.instanceMethod yX4_existingPack, Cond.selects RX4 yX4_existingPack yX4_existingPack, Cond.code yX4_existingPack cX4_existingPack 2 (some (.object "LinkResolver$Pack")), Cond.fieldLink RX4 17 "LinkResolver" "packs" "[LLinkResolver$Pack;", Cond.methodLink RX4 102 yX4_isWay, Cond.static yX4_isWay, Cond.code yX4_isWay cX4_isWay 5 (some .boolean), Cond.methodLink RX4 142 yX2_letsIn, Cond.instanceMethod yX2_letsIn, Cond.selects RX2 yX2_letsIn yX2_letsIn, Cond.initialized RX2, Cond.code yX2_letsIn cX2_letsIn 2 (some .boolean), Cond.fieldLink RX2 18 "LinkResolver$Pack" "groups" "I", Cond.methodLink RX4 145 yX2_yearsCovered, Cond.instanceMethod yX2_yearsCovered, Cond.selects RX2 yX2_yearsCovered yX2_yearsCovered, Cond.code yX2_yearsCovered cX2_yearsCovered 3 (some .long), Cond.methodLink RX2 50 yX2_yearsOpen, Cond.instanceMethod yX2_yearsOpen, Cond.selects RX2 yX2_yearsOpen yX2_yearsOpen, Cond.code yX2_yearsOpen cX2_yearsOpen 3 (some .long), Cond.fieldLink RX2 28 "LinkResolver$Pack" "subscription" "LLinkResolver$History;", Cond.methodLink RX2 43 yX2_stayOf]
def wsX4_ways_r3 : List Cond := [Cond.instanceMethod yX2_stayOf, Cond.selects RX2 yX2_stayOf yX2_stayOf, Cond.code yX2_stayOf cX2_stayOf 2 (some (.object "LinkResolver$History")), Cond.classLink RX2 36 "java/lang/IndexOutOfBoundsException", Cond.fieldLink RX2 32 "LinkResolver$Pack" "stays" "[LLinkResolver$History;", Cond.methodLink RX2 57 yX1_yearsOpen, Cond.instanceMethod yX1_yearsOpen, Cond.selects RX1 yX1_yearsOpen yX1_yearsOpen, Cond.initialized RX1, Cond.code yX1_yearsOpen cX1_yearsOpen 3 (some .long), Cond.fieldLink RX1 34 "LinkResolver$Change" "years" "J", Cond.fieldLink RX1 38 "LinkResolver$Change" "wall" "I", Cond.methodLink RX1 30 yX1_changeAt, Cond.instanceMethod yX1_changeAt, Cond.selects RX1 yX1_changeAt yX1_changeAt, Cond.code yX1_changeAt cX1_changeAt 3 (some (.object "LinkResolver$Change")), Cond.fieldLink RX1 9 "LinkResolver$History" "newest" "LLinkResolver$Change;", Cond.fieldLink RX1 24 "LinkResolver$Change" "day" "I", Cond.fieldLink RX1 27 "LinkResolver$Change" "before" "LLinkResolver$Change;", Cond.static yX4_yearsBetween, Cond.code yX4_yearsBetween cX4_yearsBetween 2 (some .long), Cond.methodLink RX2 54 yX2_yearsKept, Cond.instanceMethod yX2_yearsKept, Cond.selects RX2 yX2_yearsKept yX2_yearsKept]
def wsX4_ways_r4 : List Cond := [Cond.code yX2_yearsKept cX2_yearsKept 5 (some .long), Cond.fieldLink RX2 21 "LinkResolver$Pack" "isKeeping" "Z", Cond.methodLink RX2 60 yX1_yearsKept, Cond.instanceMethod yX1_yearsKept, Cond.selects RX1 yX1_yearsKept yX1_yearsKept, Cond.code yX1_yearsKept cX1_yearsKept 10 (some .long), Cond.methodLink RX1 45 Lib.Math.min.name, Cond.static Lib.Math.min.name, Cond.initialized "java/lang/Math", Cond.code Lib.Math.min.name Lib.Math.min.code 2 (some .int), Cond.methodLink RX4 138 yX4_hasYear, Cond.static yX4_hasYear, Cond.code yX4_hasYear cX4_hasYear 3 (some .boolean), Cond.methodLink RX4 110 yJ6_bitCount_0f7a4, Cond.static yJ6_bitCount_0f7a4, Cond.initialized RJ6, Cond.code yJ6_bitCount_0f7a4 cJ6_bitCount_0f7a4 1 (some .int), Cond.constant RJ6 265 (1431655765), Cond.constant RJ6 266 (858993459), Cond.constant RJ6 267 (252645135)]
def wsX4_ways : List Cond := .code yX4_ways cX4_ways 5 (some .int) :: ((wsX4_ways_r1 ++ (wsX4_ways_r2 ++ (wsX4_ways_r3 ++ wsX4_ways_r4))) ++ wsX40 ++ wsX20 ++ wsX00 ++ wsX10 ++ (vx_atS RX4 127 "java/lang/IndexOutOfBoundsException" ["java/lang/RuntimeException", "java/lang/Exception"]).filter goodWord ++ (vx_atS RX4 160 "java/lang/IllegalArgumentException" ["java/lang/RuntimeException", "java/lang/Exception"]).filter goodWord ++ (vx_atS RX2 40 "java/lang/IndexOutOfBoundsException" ["java/lang/RuntimeException", "java/lang/Exception"]).filter goodWord)
def wsX4_isAmong : List Cond := .code yX4_isAmong cX4_isAmong 2 (some .boolean) :: ([])
def wsX4_isAhead : List Cond := .code yX4_isAhead cX4_isAhead 7 (some .boolean) :: ([.fieldLink RX4 180 "LinkResolver$Pack" "cost" "I", .fieldLink RX4 183 "LinkResolver$Pack" "version" "I", .methodLink RX4 64 yX4_existingPack, .instanceMethod yX4_existingPack, .selects RX4 yX4_existingPack yX4_existingPack, .initialized RX4, .code yX4_existingPack cX4_existingPack 2 (some (.object "LinkResolver$Pack")), .classLink RX4 123 "java/lang/IndexOutOfBoundsException", .initialized "java/lang/IndexOutOfBoundsException", .fieldLink RX4 25 "LinkResolver" "packCount" "I", .fieldLink RX4 17 "LinkResolver" "packs" "[LLinkResolver$Pack;", .methodLink RX4 177 yX2_isBroken, .instanceMethod yX2_isBroken, .selects RX2 yX2_isBroken yX2_isBroken, .initialized RX2, .code yX2_isBroken cX2_isBroken 2 (some .boolean), .fieldLink RX2 47 "LinkResolver$History" "breaks" "I", .methodLink RX2 43 yX2_stayOf, .instanceMethod yX2_stayOf, .selects RX2 yX2_stayOf yX2_stayOf, .code yX2_stayOf cX2_stayOf 2 (some (.object "LinkResolver$History")), .classLink RX2 36 "java/lang/IndexOutOfBoundsException", .fieldLink RX2 32 "LinkResolver$Pack" "stays" "[LLinkResolver$History;"] ++ wsX20 ++ wsX40 ++ wsX10 ++ (vx_atS RX4 127 "java/lang/IndexOutOfBoundsException" ["java/lang/RuntimeException", "java/lang/Exception"]).filter goodWord ++ (vx_atS RX2 40 "java/lang/IndexOutOfBoundsException" ["java/lang/RuntimeException", "java/lang/Exception"]).filter goodWord)
def wsX4_placeAmong_r1 : List Cond := [Cond.fieldLink RX4 25 "LinkResolver" "packCount" "I", Cond.methodLink RX4 115 yX4_isAmong, Cond.static yX4_isAmong, Cond.initialized RX4, Cond.code yX4_isAmong cX4_isAmong 2 (some .boolean), Cond.methodLink RX4 173 yX4_isAhead, Cond.instanceMethod yX4_isAhead, Cond.selects RX4 yX4_isAhead yX4_isAhead, Cond.code yX4_isAhead cX4_isAhead 7 (some .boolean), Cond.fieldLink RX4 180 "LinkResolver$Pack" "cost" "I", Cond.fieldLink RX4 183 "LinkResolver$Pack" "version" "I", Cond.methodLink RX4 64 yX4_existingPack, Cond.instanceMethod yX4_existingPack, Cond.selects RX4 yX4_existingPack yX4_existingPack, Cond.code yX4_existingPack cX4_existingPack 2 (some (.object "LinkResolver$Pack")), Cond.classLink RX4 123 "java/lang/IndexOutOfBoundsException", Cond.initialized "java/lang/IndexOutOfBoundsException", Cond.fieldLink RX4 17 "LinkResolver" "packs" "[LLinkResolver$Pack;", Cond.methodLink RX4 177 yX2_isBroken, Cond.instanceMethod yX2_isBroken, Cond.selects RX2 yX2_isBroken yX2_isBroken, Cond.initialized RX2, Cond.code yX2_isBroken cX2_isBroken 2 (some .boolean), Cond.fieldLink RX2 47 "LinkResolver$History" "breaks" "I"]
def wsX4_placeAmong_r2 : List Cond := [Cond.methodLink RX2 43 yX2_stayOf, Cond.instanceMethod yX2_stayOf, Cond.selects RX2 yX2_stayOf yX2_stayOf, Cond.code yX2_stayOf cX2_stayOf 2 (some (.object "LinkResolver$History")), Cond.classLink RX2 36 "java/lang/IndexOutOfBoundsException", Cond.fieldLink RX2 32 "LinkResolver$Pack" "stays" "[LLinkResolver$History;"]
def wsX4_placeAmong : List Cond := .code yX4_placeAmong cX4_placeAmong 6 (some .int) :: ((wsX4_placeAmong_r1 ++ wsX4_placeAmong_r2) ++ wsX40 ++ wsX20 ++ wsX10 ++ (vx_atS RX4 127 "java/lang/IndexOutOfBoundsException" ["java/lang/RuntimeException", "java/lang/Exception"]).filter goodWord ++ (vx_atS RX2 40 "java/lang/IndexOutOfBoundsException" ["java/lang/RuntimeException", "java/lang/Exception"]).filter goodWord)
def wsX4_wayAt_r1 : List Cond := [Cond.classLink RX4 123 "java/lang/IndexOutOfBoundsException", Cond.initialized "java/lang/IndexOutOfBoundsException", Cond.fieldLink RX4 25 "LinkResolver" "packCount" "I", Cond.methodLink RX4 99 yX4_checkArticle, Cond.instanceMethod yX4_checkArticle, Cond.selects RX4 yX4_checkArticle yX4_checkArticle, Cond.initialized RX4, Cond.code yX4_checkArticle cX4_checkArticle 4 none, Cond.fieldLink RX4 31 "LinkResolver" "currentDay" "I", Cond.methodLink RX4 34 yX4_checkRange, Cond.static yX4_checkRange, Cond.code yX4_checkRange cX4_checkRange 3 none, Cond.classLink RX4 156 "java/lang/IllegalArgumentException", Cond.initialized "java/lang/IllegalArgumentException", Cond.methodLink RX4 48 yX4_existingTitle, Cond.instanceMethod yX4_existingTitle, Cond.selects RX4 yX4_existingTitle yX4_existingTitle, Cond.code yX4_existingTitle cX4_existingTitle 2 (some (.object "LinkResolver$Title")), Cond.fieldLink RX4 21 "LinkResolver" "titleCount" "I", Cond.fieldLink RX4 11 "LinkResolver" "titles" "[LLinkResolver$Title;", Cond.methodLink RX4 106 yX4_waysTo, Cond.instanceMethod yX4_waysTo, Cond.selects RX4 yX4_waysTo yX4_waysTo, Cond.code yX4_waysTo cX4_waysTo 7 (some .int)]
def wsX4_wayAt_r2 : List Cond := [Cond.methodLink RX4 64 yX4_existingPack, Cond.instanceMethod yX4_existingPack, Cond.selects RX4 yX4_existingPack yX4_existingPack, Cond.code yX4_existingPack cX4_existingPack 2 (some (.object "LinkResolver$Pack")), Cond.fieldLink RX4 17 "LinkResolver" "packs" "[LLinkResolver$Pack;", Cond.methodLink RX4 102 yX4_isWay, Cond.static yX4_isWay, Cond.code yX4_isWay cX4_isWay 5 (some .boolean), Cond.methodLink RX4 142 yX2_letsIn, Cond.instanceMethod yX2_letsIn, Cond.selects RX2 yX2_letsIn yX2_letsIn, Cond.initialized RX2, Cond.code yX2_letsIn cX2_letsIn 2 (some .boolean), Cond.fieldLink RX2 18 "LinkResolver$Pack" "groups" "I", Cond.methodLink RX4 145 yX2_yearsCovered, Cond.instanceMethod yX2_yearsCovered, Cond.selects RX2 yX2_yearsCovered yX2_yearsCovered, Cond.code yX2_yearsCovered cX2_yearsCovered 3 (some .long), Cond.methodLink RX2 50 yX2_yearsOpen, Cond.instanceMethod yX2_yearsOpen, Cond.selects RX2 yX2_yearsOpen yX2_yearsOpen, Cond.code yX2_yearsOpen cX2_yearsOpen 3 (some .long), Cond.fieldLink RX2 28 "LinkResolver$Pack" "subscription" "LLinkResolver$History;", Cond.methodLink RX2 43 yX2_stayOf]
def wsX4_wayAt_r3 : List Cond := [Cond.instanceMethod yX2_stayOf, Cond.selects RX2 yX2_stayOf yX2_stayOf, Cond.code yX2_stayOf cX2_stayOf 2 (some (.object "LinkResolver$History")), Cond.classLink RX2 36 "java/lang/IndexOutOfBoundsException", Cond.fieldLink RX2 32 "LinkResolver$Pack" "stays" "[LLinkResolver$History;", Cond.methodLink RX2 57 yX1_yearsOpen, Cond.instanceMethod yX1_yearsOpen, Cond.selects RX1 yX1_yearsOpen yX1_yearsOpen, Cond.initialized RX1, Cond.code yX1_yearsOpen cX1_yearsOpen 3 (some .long), Cond.fieldLink RX1 34 "LinkResolver$Change" "years" "J", Cond.fieldLink RX1 38 "LinkResolver$Change" "wall" "I", Cond.methodLink RX1 30 yX1_changeAt, Cond.instanceMethod yX1_changeAt, Cond.selects RX1 yX1_changeAt yX1_changeAt, Cond.code yX1_changeAt cX1_changeAt 3 (some (.object "LinkResolver$Change")), Cond.fieldLink RX1 9 "LinkResolver$History" "newest" "LLinkResolver$Change;", Cond.fieldLink RX1 24 "LinkResolver$Change" "day" "I", Cond.fieldLink RX1 27 "LinkResolver$Change" "before" "LLinkResolver$Change;", Cond.static yX4_yearsBetween, Cond.code yX4_yearsBetween cX4_yearsBetween 2 (some .long), Cond.methodLink RX2 54 yX2_yearsKept, Cond.instanceMethod yX2_yearsKept, Cond.selects RX2 yX2_yearsKept yX2_yearsKept]
def wsX4_wayAt_r4 : List Cond := [Cond.code yX2_yearsKept cX2_yearsKept 5 (some .long), Cond.fieldLink RX2 21 "LinkResolver$Pack" "isKeeping" "Z", Cond.methodLink RX2 60 yX1_yearsKept, Cond.instanceMethod yX1_yearsKept, Cond.selects RX1 yX1_yearsKept yX1_yearsKept, Cond.code yX1_yearsKept cX1_yearsKept 10 (some .long), Cond.methodLink RX1 45 Lib.Math.min.name, Cond.static Lib.Math.min.name, Cond.initialized "java/lang/Math", Cond.code Lib.Math.min.name Lib.Math.min.code 2 (some .int), Cond.methodLink RX4 138 yX4_hasYear, Cond.static yX4_hasYear, Cond.code yX4_hasYear cX4_hasYear 3 (some .boolean), Cond.methodLink RX4 115 yX4_isAmong, Cond.static yX4_isAmong, Cond.code yX4_isAmong cX4_isAmong 2 (some .boolean), Cond.methodLink RX4 119 yX4_placeAmong, Cond.instanceMethod yX4_placeAmong, Cond.selects RX4 yX4_placeAmong yX4_placeAmong, Cond.code yX4_placeAmong cX4_placeAmong 6 (some .int), Cond.methodLink RX4 173 yX4_isAhead, Cond.instanceMethod yX4_isAhead, Cond.selects RX4 yX4_isAhead yX4_isAhead, Cond.code yX4_isAhead cX4_isAhead 7 (some .boolean)]
def wsX4_wayAt_r5 : List Cond := [Cond.fieldLink RX4 180 "LinkResolver$Pack" "cost" "I", Cond.fieldLink RX4 183 "LinkResolver$Pack" "version" "I", Cond.methodLink RX4 177 yX2_isBroken, Cond.instanceMethod yX2_isBroken, Cond.selects RX2 yX2_isBroken yX2_isBroken, Cond.code yX2_isBroken cX2_isBroken 2 (some .boolean), Cond.fieldLink RX2 47 "LinkResolver$History" "breaks" "I"]
def wsX4_wayAt : List Cond := .code yX4_wayAt cX4_wayAt 8 (some .int) :: ((wsX4_wayAt_r1 ++ (wsX4_wayAt_r2 ++ (wsX4_wayAt_r3 ++ (wsX4_wayAt_r4 ++ wsX4_wayAt_r5)))) ++ wsX40 ++ wsX20 ++ wsX00 ++ wsX10 ++ (vx_atS RX4 127 "java/lang/IndexOutOfBoundsException" ["java/lang/RuntimeException", "java/lang/Exception"]).filter goodWord ++ (vx_atS RX4 160 "java/lang/IllegalArgumentException" ["java/lang/RuntimeException", "java/lang/Exception"]).filter goodWord ++ (vx_atS RX2 40 "java/lang/IndexOutOfBoundsException" ["java/lang/RuntimeException", "java/lang/Exception"]).filter goodWord)
def wsX4_yearsSoFar : List Cond := .code yX4_yearsSoFar cX4_yearsSoFar 2 (some .long) :: ([.fieldLink RX4 56 "LinkResolver$Title" "firstYear" "I", .fieldLink RX4 31 "LinkResolver" "currentDay" "I", .methodLink RX4 88 yX4_yearsBetween, .static yX4_yearsBetween, .initialized RX4, .code yX4_yearsBetween cX4_yearsBetween 2 (some .long)] ++ wsX30 ++ wsX40)
def wsX4_yearsCoveredButBy_r1 : List Cond := [Cond.fieldLink RX4 25 "LinkResolver" "packCount" "I", Cond.fieldLink RX4 31 "LinkResolver" "currentDay" "I", Cond.methodLink RX4 64 yX4_existingPack, Cond.instanceMethod yX4_existingPack, Cond.selects RX4 yX4_existingPack yX4_existingPack, Cond.initialized RX4, Cond.code yX4_existingPack cX4_existingPack 2 (some (.object "LinkResolver$Pack")), Cond.classLink RX4 123 "java/lang/IndexOutOfBoundsException", Cond.initialized "java/lang/IndexOutOfBoundsException", Cond.fieldLink RX4 17 "LinkResolver" "packs" "[LLinkResolver$Pack;", Cond.methodLink RX4 142 yX2_letsIn, Cond.instanceMethod yX2_letsIn, Cond.selects RX2 yX2_letsIn yX2_letsIn, Cond.initialized RX2, Cond.code yX2_letsIn cX2_letsIn 2 (some .boolean), Cond.fieldLink RX2 18 "LinkResolver$Pack" "groups" "I", Cond.methodLink RX4 145 yX2_yearsCovered, Cond.instanceMethod yX2_yearsCovered, Cond.selects RX2 yX2_yearsCovered yX2_yearsCovered, Cond.code yX2_yearsCovered cX2_yearsCovered 3 (some .long), Cond.methodLink RX2 50 yX2_yearsOpen, Cond.instanceMethod yX2_yearsOpen, Cond.selects RX2 yX2_yearsOpen yX2_yearsOpen, Cond.code yX2_yearsOpen cX2_yearsOpen 3 (some .long)]
def wsX4_yearsCoveredButBy_r2 : List Cond := [Cond.fieldLink RX2 28 "LinkResolver$Pack" "subscription" "LLinkResolver$History;", Cond.methodLink RX2 43 yX2_stayOf, Cond.instanceMethod yX2_stayOf, Cond.selects RX2 yX2_stayOf yX2_stayOf, Cond.code yX2_stayOf cX2_stayOf 2 (some (.object "LinkResolver$History")), Cond.classLink RX2 36 "java/lang/IndexOutOfBoundsException", Cond.fieldLink RX2 32 "LinkResolver$Pack" "stays" "[LLinkResolver$History;", Cond.methodLink RX2 57 yX1_yearsOpen, Cond.instanceMethod yX1_yearsOpen, Cond.selects RX1 yX1_yearsOpen yX1_yearsOpen, Cond.initialized RX1, Cond.code yX1_yearsOpen cX1_yearsOpen 3 (some .long), Cond.fieldLink RX1 34 "LinkResolver$Change" "years" "J", Cond.fieldLink RX1 38 "LinkResolver$Change" "wall" "I", Cond.methodLink RX1 30 yX1_changeAt, Cond.instanceMethod yX1_changeAt, Cond.selects RX1 yX1_changeAt yX1_changeAt, Cond.code yX1_changeAt cX1_changeAt 3 (some (.object "LinkResolver$Change")), Cond.fieldLink RX1 9 "LinkResolver$History" "newest" "LLinkResolver$Change;", Cond.fieldLink RX1 24 "LinkResolver$Change" "day" "I", Cond.fieldLink RX1 27 "LinkResolver$Change" "before" "LLinkResolver$Change;", Cond.static yX4_yearsBetween, Cond.code yX4_yearsBetween cX4_yearsBetween 2 (some .long), Cond.methodLink RX2 54 yX2_yearsKept]
def wsX4_yearsCoveredButBy_r3 : List Cond := [Cond.instanceMethod yX2_yearsKept, Cond.selects RX2 yX2_yearsKept yX2_yearsKept, Cond.code yX2_yearsKept cX2_yearsKept 5 (some .long), Cond.fieldLink RX2 21 "LinkResolver$Pack" "isKeeping" "Z", Cond.methodLink RX2 60 yX1_yearsKept, Cond.instanceMethod yX1_yearsKept, Cond.selects RX1 yX1_yearsKept yX1_yearsKept, Cond.code yX1_yearsKept cX1_yearsKept 10 (some .long), Cond.methodLink RX1 45 Lib.Math.min.name, Cond.static Lib.Math.min.name, Cond.initialized "java/lang/Math", Cond.code Lib.Math.min.name Lib.Math.min.code 2 (some .int)]
def wsX4_yearsCoveredButBy : List Cond := .code yX4_yearsCoveredButBy cX4_yearsCoveredButBy 8 (some .long) :: ((wsX4_yearsCoveredButBy_r1 ++ (wsX4_yearsCoveredButBy_r2 ++ wsX4_yearsCoveredButBy_r3)) ++ wsX40 ++ wsX20 ++ wsX00 ++ wsX10 ++ (vx_atS RX4 127 "java/lang/IndexOutOfBoundsException" ["java/lang/RuntimeException", "java/lang/Exception"]).filter goodWord ++ (vx_atS RX2 40 "java/lang/IndexOutOfBoundsException" ["java/lang/RuntimeException", "java/lang/Exception"]).filter goodWord)
def wsX4_gap_r1 : List Cond := [Cond.constantLong RX4 136 (-1), Cond.fieldLink RX4 56 "LinkResolver$Title" "firstYear" "I", Cond.methodLink RX4 48 yX4_existingTitle, Cond.instanceMethod yX4_existingTitle, Cond.selects RX4 yX4_existingTitle yX4_existingTitle, Cond.initialized RX4, Cond.code yX4_existingTitle cX4_existingTitle 2 (some (.object "LinkResolver$Title")), Cond.classLink RX4 123 "java/lang/IndexOutOfBoundsException", Cond.initialized "java/lang/IndexOutOfBoundsException", Cond.fieldLink RX4 21 "LinkResolver" "titleCount" "I", Cond.fieldLink RX4 11 "LinkResolver" "titles" "[LLinkResolver$Title;", Cond.methodLink RX4 34 yX4_checkRange, Cond.static yX4_checkRange, Cond.code yX4_checkRange cX4_checkRange 3 none, Cond.classLink RX4 156 "java/lang/IllegalArgumentException", Cond.initialized "java/lang/IllegalArgumentException", Cond.methodLink RX4 128 yX4_yearsSoFar, Cond.instanceMethod yX4_yearsSoFar, Cond.selects RX4 yX4_yearsSoFar yX4_yearsSoFar, Cond.code yX4_yearsSoFar cX4_yearsSoFar 2 (some .long), Cond.fieldLink RX4 31 "LinkResolver" "currentDay" "I", Cond.methodLink RX4 88 yX4_yearsBetween, Cond.static yX4_yearsBetween, Cond.code yX4_yearsBetween cX4_yearsBetween 2 (some .long)]
def wsX4_gap_r2 : List Cond := [Cond.methodLink RX4 132 yX4_yearsCoveredButBy, Cond.instanceMethod yX4_yearsCoveredButBy, Cond.selects RX4 yX4_yearsCoveredButBy yX4_yearsCoveredButBy, Cond.code yX4_yearsCoveredButBy cX4_yearsCoveredButBy 8 (some .long), Cond.fieldLink RX4 25 "LinkResolver" "packCount" "I", Cond.methodLink RX4 64 yX4_existingPack, Cond.instanceMethod yX4_existingPack, Cond.selects RX4 yX4_existingPack yX4_existingPack, Cond.code yX4_existingPack cX4_existingPack 2 (some (.object "LinkResolver$Pack")), Cond.fieldLink RX4 17 "LinkResolver" "packs" "[LLinkResolver$Pack;", Cond.methodLink RX4 142 yX2_letsIn, Cond.instanceMethod yX2_letsIn, Cond.selects RX2 yX2_letsIn yX2_letsIn, Cond.initialized RX2, Cond.code yX2_letsIn cX2_letsIn 2 (some .boolean), Cond.fieldLink RX2 18 "LinkResolver$Pack" "groups" "I", Cond.methodLink RX4 145 yX2_yearsCovered, Cond.instanceMethod yX2_yearsCovered, Cond.selects RX2 yX2_yearsCovered yX2_yearsCovered, Cond.code yX2_yearsCovered cX2_yearsCovered 3 (some .long), Cond.methodLink RX2 50 yX2_yearsOpen, Cond.instanceMethod yX2_yearsOpen, Cond.selects RX2 yX2_yearsOpen yX2_yearsOpen, Cond.code yX2_yearsOpen cX2_yearsOpen 3 (some .long)]
def wsX4_gap_r3 : List Cond := [Cond.fieldLink RX2 28 "LinkResolver$Pack" "subscription" "LLinkResolver$History;", Cond.methodLink RX2 43 yX2_stayOf, Cond.instanceMethod yX2_stayOf, Cond.selects RX2 yX2_stayOf yX2_stayOf, Cond.code yX2_stayOf cX2_stayOf 2 (some (.object "LinkResolver$History")), Cond.classLink RX2 36 "java/lang/IndexOutOfBoundsException", Cond.fieldLink RX2 32 "LinkResolver$Pack" "stays" "[LLinkResolver$History;", Cond.methodLink RX2 57 yX1_yearsOpen, Cond.instanceMethod yX1_yearsOpen, Cond.selects RX1 yX1_yearsOpen yX1_yearsOpen, Cond.initialized RX1, Cond.code yX1_yearsOpen cX1_yearsOpen 3 (some .long), Cond.fieldLink RX1 34 "LinkResolver$Change" "years" "J", Cond.fieldLink RX1 38 "LinkResolver$Change" "wall" "I", Cond.methodLink RX1 30 yX1_changeAt, Cond.instanceMethod yX1_changeAt, Cond.selects RX1 yX1_changeAt yX1_changeAt, Cond.code yX1_changeAt cX1_changeAt 3 (some (.object "LinkResolver$Change")), Cond.fieldLink RX1 9 "LinkResolver$History" "newest" "LLinkResolver$Change;", Cond.fieldLink RX1 24 "LinkResolver$Change" "day" "I", Cond.fieldLink RX1 27 "LinkResolver$Change" "before" "LLinkResolver$Change;", Cond.methodLink RX2 54 yX2_yearsKept, Cond.instanceMethod yX2_yearsKept, Cond.selects RX2 yX2_yearsKept yX2_yearsKept]
def wsX4_gap_r4 : List Cond := [Cond.code yX2_yearsKept cX2_yearsKept 5 (some .long), Cond.fieldLink RX2 21 "LinkResolver$Pack" "isKeeping" "Z", Cond.methodLink RX2 60 yX1_yearsKept, Cond.instanceMethod yX1_yearsKept, Cond.selects RX1 yX1_yearsKept yX1_yearsKept, Cond.code yX1_yearsKept cX1_yearsKept 10 (some .long), Cond.methodLink RX1 45 Lib.Math.min.name, Cond.static Lib.Math.min.name, Cond.initialized "java/lang/Math", Cond.code Lib.Math.min.name Lib.Math.min.code 2 (some .int), Cond.methodLink RX4 138 yX4_hasYear, Cond.static yX4_hasYear, Cond.code yX4_hasYear cX4_hasYear 3 (some .boolean)]
def wsX4_gap : List Cond := .code yX4_gap cX4_gap 7 (some .int) :: ((wsX4_gap_r1 ++ (wsX4_gap_r2 ++ (wsX4_gap_r3 ++ wsX4_gap_r4))) ++ wsX30 ++ wsX40 ++ wsX20 ++ wsX00 ++ wsX10 ++ (vx_atS RX4 127 "java/lang/IndexOutOfBoundsException" ["java/lang/RuntimeException", "java/lang/Exception"]).filter goodWord ++ (vx_atS RX4 160 "java/lang/IllegalArgumentException" ["java/lang/RuntimeException", "java/lang/Exception"]).filter goodWord ++ (vx_atS RX2 40 "java/lang/IndexOutOfBoundsException" ["java/lang/RuntimeException", "java/lang/Exception"]).filter goodWord)
def wsJ13_bitCount_95d88 : List Cond := .code yJ13_bitCount_95d88 cJ13_bitCount_95d88 2 (some .int) :: ([.constantLong RJ13 314 (6148914691236517205), .constantLong RJ13 316 (3689348814741910323), .constantLong RJ13 318 (1085102592571150095)])
def wsX4_doubles_r1 : List Cond := [Cond.fieldLink RX4 25 "LinkResolver" "packCount" "I", Cond.fieldLink RX4 31 "LinkResolver" "currentDay" "I", Cond.methodLink RX4 48 yX4_existingTitle, Cond.instanceMethod yX4_existingTitle, Cond.selects RX4 yX4_existingTitle yX4_existingTitle, Cond.initialized RX4, Cond.code yX4_existingTitle cX4_existingTitle 2 (some (.object "LinkResolver$Title")), Cond.classLink RX4 123 "java/lang/IndexOutOfBoundsException", Cond.initialized "java/lang/IndexOutOfBoundsException", Cond.fieldLink RX4 21 "LinkResolver" "titleCount" "I", Cond.fieldLink RX4 11 "LinkResolver" "titles" "[LLinkResolver$Title;", Cond.methodLink RX4 34 yX4_checkRange, Cond.static yX4_checkRange, Cond.code yX4_checkRange cX4_checkRange 3 none, Cond.classLink RX4 156 "java/lang/IllegalArgumentException", Cond.initialized "java/lang/IllegalArgumentException", Cond.methodLink RX4 64 yX4_existingPack, Cond.instanceMethod yX4_existingPack, Cond.selects RX4 yX4_existingPack yX4_existingPack, Cond.code yX4_existingPack cX4_existingPack 2 (some (.object "LinkResolver$Pack")), Cond.fieldLink RX4 17 "LinkResolver" "packs" "[LLinkResolver$Pack;", Cond.methodLink RX4 142 yX2_letsIn, Cond.instanceMethod yX2_letsIn, Cond.selects RX2 yX2_letsIn yX2_letsIn]
def wsX4_doubles_r2 : List Cond := [Cond.initialized RX2, Cond.code yX2_letsIn cX2_letsIn 2 (some .boolean), Cond.fieldLink RX2 18 "LinkResolver$Pack" "groups" "I", Cond.methodLink RX4 145 yX2_yearsCovered, Cond.instanceMethod yX2_yearsCovered, Cond.selects RX2 yX2_yearsCovered yX2_yearsCovered, Cond.code yX2_yearsCovered cX2_yearsCovered 3 (some .long), Cond.methodLink RX2 50 yX2_yearsOpen, Cond.instanceMethod yX2_yearsOpen, Cond.selects RX2 yX2_yearsOpen yX2_yearsOpen, Cond.code yX2_yearsOpen cX2_yearsOpen 3 (some .long), Cond.fieldLink RX2 28 "LinkResolver$Pack" "subscription" "LLinkResolver$History;", Cond.methodLink RX2 43 yX2_stayOf, Cond.instanceMethod yX2_stayOf, Cond.selects RX2 yX2_stayOf yX2_stayOf, Cond.code yX2_stayOf cX2_stayOf 2 (some (.object "LinkResolver$History")), Cond.classLink RX2 36 "java/lang/IndexOutOfBoundsException", Cond.fieldLink RX2 32 "LinkResolver$Pack" "stays" "[LLinkResolver$History;", Cond.methodLink RX2 57 yX1_yearsOpen, Cond.instanceMethod yX1_yearsOpen, Cond.selects RX1 yX1_yearsOpen yX1_yearsOpen, Cond.initialized RX1, Cond.code yX1_yearsOpen cX1_yearsOpen 3 (some .long), Cond.fieldLink RX1 34 "LinkResolver$Change" "years" "J"]
def wsX4_doubles_r3 : List Cond := [Cond.fieldLink RX1 38 "LinkResolver$Change" "wall" "I", Cond.methodLink RX1 30 yX1_changeAt, Cond.instanceMethod yX1_changeAt, Cond.selects RX1 yX1_changeAt yX1_changeAt, Cond.code yX1_changeAt cX1_changeAt 3 (some (.object "LinkResolver$Change")), Cond.fieldLink RX1 9 "LinkResolver$History" "newest" "LLinkResolver$Change;", Cond.fieldLink RX1 24 "LinkResolver$Change" "day" "I", Cond.fieldLink RX1 27 "LinkResolver$Change" "before" "LLinkResolver$Change;", Cond.static yX4_yearsBetween, Cond.code yX4_yearsBetween cX4_yearsBetween 2 (some .long), Cond.methodLink RX2 54 yX2_yearsKept, Cond.instanceMethod yX2_yearsKept, Cond.selects RX2 yX2_yearsKept yX2_yearsKept, Cond.code yX2_yearsKept cX2_yearsKept 5 (some .long), Cond.fieldLink RX2 21 "LinkResolver$Pack" "isKeeping" "Z", Cond.methodLink RX2 60 yX1_yearsKept, Cond.instanceMethod yX1_yearsKept, Cond.selects RX1 yX1_yearsKept yX1_yearsKept, Cond.code yX1_yearsKept cX1_yearsKept 10 (some .long), Cond.methodLink RX1 45 Lib.Math.min.name, Cond.static Lib.Math.min.name, Cond.initialized "java/lang/Math", Cond.code Lib.Math.min.name Lib.Math.min.code 2 (some .int), Cond.methodLink RX4 128 yX4_yearsSoFar]
def wsX4_doubles_r4 : List Cond := [Cond.instanceMethod yX4_yearsSoFar, Cond.selects RX4 yX4_yearsSoFar yX4_yearsSoFar, Cond.code yX4_yearsSoFar cX4_yearsSoFar 2 (some .long), Cond.fieldLink RX4 56 "LinkResolver$Title" "firstYear" "I", Cond.methodLink RX4 88 yX4_yearsBetween, Cond.methodLink RX4 148 yJ13_bitCount_95d88, Cond.static yJ13_bitCount_95d88, Cond.initialized RJ13, Cond.code yJ13_bitCount_95d88 cJ13_bitCount_95d88 2 (some .int), Cond.constantLong RJ13 314 (6148914691236517205), Cond.constantLong RJ13 316 (3689348814741910323), Cond.constantLong RJ13 318 (1085102592571150095)]
def wsX4_doubles : List Cond := .code yX4_doubles cX4_doubles 12 (some .int) :: ((wsX4_doubles_r1 ++ (wsX4_doubles_r2 ++ (wsX4_doubles_r3 ++ wsX4_doubles_r4))) ++ wsX40 ++ wsX20 ++ wsX00 ++ wsX10 ++ wsX30 ++ (vx_atS RX4 127 "java/lang/IndexOutOfBoundsException" ["java/lang/RuntimeException", "java/lang/Exception"]).filter goodWord ++ (vx_atS RX4 160 "java/lang/IllegalArgumentException" ["java/lang/RuntimeException", "java/lang/Exception"]).filter goodWord ++ (vx_atS RX2 40 "java/lang/IndexOutOfBoundsException" ["java/lang/RuntimeException", "java/lang/Exception"]).filter goodWord)
def wsX4_isLostWithout_r1 : List Cond := [Cond.fieldLink RX4 31 "LinkResolver" "currentDay" "I", Cond.constantLong RX4 136 (-1), Cond.methodLink RX4 64 yX4_existingPack, Cond.instanceMethod yX4_existingPack, Cond.selects RX4 yX4_existingPack yX4_existingPack, Cond.initialized RX4, Cond.code yX4_existingPack cX4_existingPack 2 (some (.object "LinkResolver$Pack")), Cond.classLink RX4 123 "java/lang/IndexOutOfBoundsException", Cond.initialized "java/lang/IndexOutOfBoundsException", Cond.fieldLink RX4 25 "LinkResolver" "packCount" "I", Cond.fieldLink RX4 17 "LinkResolver" "packs" "[LLinkResolver$Pack;", Cond.methodLink RX4 186 yX2_yearsOpen, Cond.instanceMethod yX2_yearsOpen, Cond.selects RX2 yX2_yearsOpen yX2_yearsOpen, Cond.initialized RX2, Cond.code yX2_yearsOpen cX2_yearsOpen 3 (some .long), Cond.fieldLink RX2 28 "LinkResolver$Pack" "subscription" "LLinkResolver$History;", Cond.methodLink RX2 43 yX2_stayOf, Cond.instanceMethod yX2_stayOf, Cond.selects RX2 yX2_stayOf yX2_stayOf, Cond.code yX2_stayOf cX2_stayOf 2 (some (.object "LinkResolver$History")), Cond.classLink RX2 36 "java/lang/IndexOutOfBoundsException", Cond.fieldLink RX2 32 "LinkResolver$Pack" "stays" "[LLinkResolver$History;", Cond.methodLink RX2 57 yX1_yearsOpen]
def wsX4_isLostWithout_r2 : List Cond := [Cond.instanceMethod yX1_yearsOpen, Cond.selects RX1 yX1_yearsOpen yX1_yearsOpen, Cond.initialized RX1, Cond.code yX1_yearsOpen cX1_yearsOpen 3 (some .long), Cond.fieldLink RX1 34 "LinkResolver$Change" "years" "J", Cond.fieldLink RX1 38 "LinkResolver$Change" "wall" "I", Cond.methodLink RX1 30 yX1_changeAt, Cond.instanceMethod yX1_changeAt, Cond.selects RX1 yX1_changeAt yX1_changeAt, Cond.code yX1_changeAt cX1_changeAt 3 (some (.object "LinkResolver$Change")), Cond.fieldLink RX1 9 "LinkResolver$History" "newest" "LLinkResolver$Change;", Cond.fieldLink RX1 24 "LinkResolver$Change" "day" "I", Cond.fieldLink RX1 27 "LinkResolver$Change" "before" "LLinkResolver$Change;", Cond.static yX4_yearsBetween, Cond.code yX4_yearsBetween cX4_yearsBetween 2 (some .long), Cond.methodLink RX4 189 yX2_yearsKept, Cond.instanceMethod yX2_yearsKept, Cond.selects RX2 yX2_yearsKept yX2_yearsKept, Cond.code yX2_yearsKept cX2_yearsKept 5 (some .long), Cond.fieldLink RX2 21 "LinkResolver$Pack" "isKeeping" "Z", Cond.methodLink RX2 60 yX1_yearsKept, Cond.instanceMethod yX1_yearsKept, Cond.selects RX1 yX1_yearsKept yX1_yearsKept, Cond.code yX1_yearsKept cX1_yearsKept 10 (some .long)]
def wsX4_isLostWithout_r3 : List Cond := [Cond.methodLink RX1 45 Lib.Math.min.name, Cond.static Lib.Math.min.name, Cond.initialized "java/lang/Math", Cond.code Lib.Math.min.name Lib.Math.min.code 2 (some .int), Cond.methodLink RX4 48 yX4_existingTitle, Cond.instanceMethod yX4_existingTitle, Cond.selects RX4 yX4_existingTitle yX4_existingTitle, Cond.code yX4_existingTitle cX4_existingTitle 2 (some (.object "LinkResolver$Title")), Cond.fieldLink RX4 21 "LinkResolver" "titleCount" "I", Cond.fieldLink RX4 11 "LinkResolver" "titles" "[LLinkResolver$Title;", Cond.methodLink RX4 128 yX4_yearsSoFar, Cond.instanceMethod yX4_yearsSoFar, Cond.selects RX4 yX4_yearsSoFar yX4_yearsSoFar, Cond.code yX4_yearsSoFar cX4_yearsSoFar 2 (some .long), Cond.fieldLink RX4 56 "LinkResolver$Title" "firstYear" "I", Cond.methodLink RX4 88 yX4_yearsBetween, Cond.methodLink RX4 142 yX2_letsIn, Cond.instanceMethod yX2_letsIn, Cond.selects RX2 yX2_letsIn yX2_letsIn, Cond.code yX2_letsIn cX2_letsIn 2 (some .boolean), Cond.fieldLink RX2 18 "LinkResolver$Pack" "groups" "I", Cond.methodLink RX4 132 yX4_yearsCoveredButBy, Cond.instanceMethod yX4_yearsCoveredButBy, Cond.selects RX4 yX4_yearsCoveredButBy yX4_yearsCoveredButBy]
def wsX4_isLostWithout_r4 : List Cond := [Cond.code yX4_yearsCoveredButBy cX4_yearsCoveredButBy 8 (some .long), Cond.methodLink RX4 145 yX2_yearsCovered, Cond.instanceMethod yX2_yearsCovered, Cond.selects RX2 yX2_yearsCovered yX2_yearsCovered, Cond.code yX2_yearsCovered cX2_yearsCovered 3 (some .long), Cond.methodLink RX2 50 yX2_yearsOpen, Cond.methodLink RX2 54 yX2_yearsKept]
def wsX4_isLostWithout : List Cond := .code yX4_isLostWithout cX4_isLostWithout 7 (some .boolean) :: ((wsX4_isLostWithout_r1 ++ (wsX4_isLostWithout_r2 ++ (wsX4_isLostWithout_r3 ++ wsX4_isLostWithout_r4))) ++ wsX40 ++ wsX20 ++ wsX00 ++ wsX10 ++ wsX30 ++ (vx_atS RX4 127 "java/lang/IndexOutOfBoundsException" ["java/lang/RuntimeException", "java/lang/Exception"]).filter goodWord ++ (vx_atS RX2 40 "java/lang/IndexOutOfBoundsException" ["java/lang/RuntimeException", "java/lang/Exception"]).filter goodWord)
def wsX4_isNeedless_r1 : List Cond := [Cond.fieldLink RX4 21 "LinkResolver" "titleCount" "I", Cond.methodLink RX4 64 yX4_existingPack, Cond.instanceMethod yX4_existingPack, Cond.selects RX4 yX4_existingPack yX4_existingPack, Cond.initialized RX4, Cond.code yX4_existingPack cX4_existingPack 2 (some (.object "LinkResolver$Pack")), Cond.classLink RX4 123 "java/lang/IndexOutOfBoundsException", Cond.initialized "java/lang/IndexOutOfBoundsException", Cond.fieldLink RX4 25 "LinkResolver" "packCount" "I", Cond.fieldLink RX4 17 "LinkResolver" "packs" "[LLinkResolver$Pack;", Cond.methodLink RX4 153 yX4_isLostWithout, Cond.instanceMethod yX4_isLostWithout, Cond.selects RX4 yX4_isLostWithout yX4_isLostWithout, Cond.code yX4_isLostWithout cX4_isLostWithout 7 (some .boolean), Cond.fieldLink RX4 31 "LinkResolver" "currentDay" "I", Cond.constantLong RX4 136 (-1), Cond.methodLink RX4 186 yX2_yearsOpen, Cond.instanceMethod yX2_yearsOpen, Cond.selects RX2 yX2_yearsOpen yX2_yearsOpen, Cond.initialized RX2, Cond.code yX2_yearsOpen cX2_yearsOpen 3 (some .long), Cond.fieldLink RX2 28 "LinkResolver$Pack" "subscription" "LLinkResolver$History;", Cond.methodLink RX2 43 yX2_stayOf, Cond.instanceMethod yX2_stayOf]
def wsX4_isNeedless_r2 : List Cond := [Cond.selects RX2 yX2_stayOf yX2_stayOf, Cond.code yX2_stayOf cX2_stayOf 2 (some (.object "LinkResolver$History")), Cond.classLink RX2 36 "java/lang/IndexOutOfBoundsException", Cond.fieldLink RX2 32 "LinkResolver$Pack" "stays" "[LLinkResolver$History;", Cond.methodLink RX2 57 yX1_yearsOpen, Cond.instanceMethod yX1_yearsOpen, Cond.selects RX1 yX1_yearsOpen yX1_yearsOpen, Cond.initialized RX1, Cond.code yX1_yearsOpen cX1_yearsOpen 3 (some .long), Cond.fieldLink RX1 34 "LinkResolver$Change" "years" "J", Cond.fieldLink RX1 38 "LinkResolver$Change" "wall" "I", Cond.methodLink RX1 30 yX1_changeAt, Cond.instanceMethod yX1_changeAt, Cond.selects RX1 yX1_changeAt yX1_changeAt, Cond.code yX1_changeAt cX1_changeAt 3 (some (.object "LinkResolver$Change")), Cond.fieldLink RX1 9 "LinkResolver$History" "newest" "LLinkResolver$Change;", Cond.fieldLink RX1 24 "LinkResolver$Change" "day" "I", Cond.fieldLink RX1 27 "LinkResolver$Change" "before" "LLinkResolver$Change;", Cond.static yX4_yearsBetween, Cond.code yX4_yearsBetween cX4_yearsBetween 2 (some .long), Cond.methodLink RX4 189 yX2_yearsKept, Cond.instanceMethod yX2_yearsKept, Cond.selects RX2 yX2_yearsKept yX2_yearsKept, Cond.code yX2_yearsKept cX2_yearsKept 5 (some .long)]
def wsX4_isNeedless_r3 : List Cond := [Cond.fieldLink RX2 21 "LinkResolver$Pack" "isKeeping" "Z", Cond.methodLink RX2 60 yX1_yearsKept, Cond.instanceMethod yX1_yearsKept, Cond.selects RX1 yX1_yearsKept yX1_yearsKept, Cond.code yX1_yearsKept cX1_yearsKept 10 (some .long), Cond.methodLink RX1 45 Lib.Math.min.name, Cond.static Lib.Math.min.name, Cond.initialized "java/lang/Math", Cond.code Lib.Math.min.name Lib.Math.min.code 2 (some .int), Cond.methodLink RX4 48 yX4_existingTitle, Cond.instanceMethod yX4_existingTitle, Cond.selects RX4 yX4_existingTitle yX4_existingTitle, Cond.code yX4_existingTitle cX4_existingTitle 2 (some (.object "LinkResolver$Title")), Cond.fieldLink RX4 11 "LinkResolver" "titles" "[LLinkResolver$Title;", Cond.methodLink RX4 128 yX4_yearsSoFar, Cond.instanceMethod yX4_yearsSoFar, Cond.selects RX4 yX4_yearsSoFar yX4_yearsSoFar, Cond.code yX4_yearsSoFar cX4_yearsSoFar 2 (some .long), Cond.fieldLink RX4 56 "LinkResolver$Title" "firstYear" "I", Cond.methodLink RX4 88 yX4_yearsBetween, Cond.methodLink RX4 142 yX2_letsIn, Cond.instanceMethod yX2_letsIn, Cond.selects RX2 yX2_letsIn yX2_letsIn, Cond.code yX2_letsIn cX2_letsIn 2 (some .boolean)]
def wsX4_isNeedless_r4 : List Cond := [Cond.fieldLink RX2 18 "LinkResolver$Pack" "groups" "I", Cond.methodLink RX4 132 yX4_yearsCoveredButBy, Cond.instanceMethod yX4_yearsCoveredButBy, Cond.selects RX4 yX4_yearsCoveredButBy yX4_yearsCoveredButBy, Cond.code yX4_yearsCoveredButBy cX4_yearsCoveredButBy 8 (some .long), Cond.methodLink RX4 145 yX2_yearsCovered, Cond.instanceMethod yX2_yearsCovered, Cond.selects RX2 yX2_yearsCovered yX2_yearsCovered, Cond.code yX2_yearsCovered cX2_yearsCovered 3 (some .long), Cond.methodLink RX2 50 yX2_yearsOpen, Cond.methodLink RX2 54 yX2_yearsKept]
def wsX4_isNeedless : List Cond := .code yX4_isNeedless cX4_isNeedless 3 (some .boolean) :: ((wsX4_isNeedless_r1 ++ (wsX4_isNeedless_r2 ++ (wsX4_isNeedless_r3 ++ wsX4_isNeedless_r4))) ++ wsX40 ++ wsX20 ++ wsX00 ++ wsX10 ++ wsX30 ++ (vx_atS RX4 127 "java/lang/IndexOutOfBoundsException" ["java/lang/RuntimeException", "java/lang/Exception"]).filter goodWord ++ (vx_atS RX2 40 "java/lang/IndexOutOfBoundsException" ["java/lang/RuntimeException", "java/lang/Exception"]).filter goodWord)
def wsJ9_min_7cf53 : List Cond := .code yJ9_min_7cf53 cJ9_min_7cf53 2 (some .int) :: ([])
def wsL_draw : List Cond := .code yL_draw cL_draw 2 (some .int) :: ([.constant RL 7 (2147483647), .constant RL 8 (104729), .constant RL 9 (65521)])
def wsL_volumes_r1 : List Cond := [Cond.methodLink RL 27 yX4_yearOf, Cond.instanceMethod yX4_yearOf, Cond.selects RX4 yX4_yearOf yX4_yearOf, Cond.initialized RX4, Cond.code yX4_yearOf cX4_yearOf 5 (some .int), Cond.fieldLink RX4 56 "LinkResolver$Title" "firstYear" "I", Cond.methodLink RX4 48 yX4_existingTitle, Cond.instanceMethod yX4_existingTitle, Cond.selects RX4 yX4_existingTitle yX4_existingTitle, Cond.code yX4_existingTitle cX4_existingTitle 2 (some (.object "LinkResolver$Title")), Cond.classLink RX4 123 "java/lang/IndexOutOfBoundsException", Cond.initialized "java/lang/IndexOutOfBoundsException", Cond.fieldLink RX4 21 "LinkResolver" "titleCount" "I", Cond.fieldLink RX4 11 "LinkResolver" "titles" "[LLinkResolver$Title;", Cond.methodLink RX4 52 yX3_firstVolume, Cond.instanceMethod yX3_firstVolume, Cond.selects RX3 yX3_firstVolume yX3_firstVolume, Cond.initialized RX3, Cond.code yX3_firstVolume cX3_firstVolume 2 (some .int), Cond.fieldLink RX3 7 "LinkResolver$Title" "firstYear" "I", Cond.fieldLink RX3 13 "LinkResolver$Title" "volumes" "I", Cond.methodLink RX4 34 yX4_checkRange, Cond.static yX4_checkRange, Cond.code yX4_checkRange cX4_checkRange 3 none]
def wsL_volumes_r2 : List Cond := [Cond.classLink RX4 156 "java/lang/IllegalArgumentException", Cond.initialized "java/lang/IllegalArgumentException", Cond.methodLink RL 24 yX4_volumeOf, Cond.instanceMethod yX4_volumeOf, Cond.selects RX4 yX4_volumeOf yX4_volumeOf, Cond.code yX4_volumeOf cX4_volumeOf 4 (some .int)]
def wsL_volumes : List Cond := .code yL_volumes cL_volumes 5 (some .boolean) :: ((wsL_volumes_r1 ++ wsL_volumes_r2) ++ wsX30 ++ wsX40 ++ (vx_atS RX4 127 "java/lang/IndexOutOfBoundsException" ["java/lang/RuntimeException", "java/lang/Exception"]).filter goodWord ++ (vx_atS RX4 160 "java/lang/IllegalArgumentException" ["java/lang/RuntimeException", "java/lang/Exception"]).filter goodWord)
def wsL_step_r1 : List Cond := [Cond.methodLink RL 10 yX4_addPackage, Cond.instanceMethod yX4_addPackage, Cond.selects RX4 yX4_addPackage yX4_addPackage, Cond.initialized RX4, Cond.code yX4_addPackage cX4_addPackage 6 (some .int), Cond.classLink RX4 38 "java/lang/IllegalStateException", Cond.initialized "java/lang/IllegalStateException", Cond.fieldLink RX4 25 "LinkResolver" "packCount" "I", Cond.fieldLink RX4 17 "LinkResolver" "packs" "[LLinkResolver$Pack;", Cond.classLink RX4 15 RX2, Cond.instantiable RX2 6, Cond.initialized RX2, Cond.methodLink RX4 34 yX4_checkRange, Cond.static yX4_checkRange, Cond.code yX4_checkRange cX4_checkRange 3 none, Cond.classLink RX4 156 "java/lang/IllegalArgumentException", Cond.initialized "java/lang/IllegalArgumentException", Cond.methodLink RX4 61 yX2_init, Cond.instanceMethod yX2_init, Cond.code yX2_init cX2_init 6 none, Cond.methodLink RX2 3 objectInit, Cond.instanceMethod objectInit, Cond.code objectInit ⟨#[0xb1]⟩ 1 none, Cond.fieldLink RX2 9 "LinkResolver$Pack" "cost" "I"]
def wsL_step_r2 : List Cond := [Cond.fieldLink RX2 15 "LinkResolver$Pack" "version" "I", Cond.fieldLink RX2 18 "LinkResolver$Pack" "groups" "I", Cond.fieldLink RX2 21 "LinkResolver$Pack" "isKeeping" "Z", Cond.classLink RX2 25 RX1, Cond.instantiable RX1 2, Cond.initialized RX1, Cond.fieldLink RX2 28 "LinkResolver$Pack" "subscription" "LLinkResolver$History;", Cond.fieldLink RX2 32 "LinkResolver$Pack" "stays" "[LLinkResolver$History;", Cond.methodLink RX2 27 yX1_init, Cond.instanceMethod yX1_init, Cond.code yX1_init cX1_init 1 none, Cond.methodLink RX1 3 objectInit, Cond.fieldLink RX1 9 "LinkResolver$History" "newest" "LLinkResolver$Change;", Cond.fieldLink RX1 15 "LinkResolver$History" "breaks" "I", Cond.methodLink RL 16 yX4_isSubscribed, Cond.instanceMethod yX4_isSubscribed, Cond.selects RX4 yX4_isSubscribed yX4_isSubscribed, Cond.code yX4_isSubscribed cX4_isSubscribed 4 (some .boolean), Cond.fieldLink RX4 68 "LinkResolver$Pack" "subscription" "LLinkResolver$History;", Cond.fieldLink RX4 31 "LinkResolver" "currentDay" "I", Cond.methodLink RX4 64 yX4_existingPack, Cond.instanceMethod yX4_existingPack, Cond.selects RX4 yX4_existingPack yX4_existingPack, Cond.code yX4_existingPack cX4_existingPack 2 (some (.object "LinkResolver$Pack"))]
def wsL_step_r3 : List Cond := [Cond.classLink RX4 123 "java/lang/IndexOutOfBoundsException", Cond.initialized "java/lang/IndexOutOfBoundsException", Cond.methodLink RX4 72 yX1_isOnAt, Cond.instanceMethod yX1_isOnAt, Cond.selects RX1 yX1_isOnAt yX1_isOnAt, Cond.code yX1_isOnAt cX1_isOnAt 3 (some .boolean), Cond.fieldLink RX1 34 "LinkResolver$Change" "years" "J", Cond.methodLink RX1 30 yX1_changeAt, Cond.instanceMethod yX1_changeAt, Cond.selects RX1 yX1_changeAt yX1_changeAt, Cond.code yX1_changeAt cX1_changeAt 3 (some (.object "LinkResolver$Change")), Cond.fieldLink RX1 24 "LinkResolver$Change" "day" "I", Cond.fieldLink RX1 27 "LinkResolver$Change" "before" "LLinkResolver$Change;", Cond.methodLink RL 20 yX4_addTitle, Cond.instanceMethod yX4_addTitle, Cond.selects RX4 yX4_addTitle yX4_addTitle, Cond.code yX4_addTitle cX4_addTitle 4 (some .int), Cond.fieldLink RX4 21 "LinkResolver" "titleCount" "I", Cond.fieldLink RX4 11 "LinkResolver" "titles" "[LLinkResolver$Title;", Cond.classLink RX4 9 RX3, Cond.instantiable RX3 2, Cond.initialized RX3, Cond.methodLink RX4 45 yX3_init, Cond.instanceMethod yX3_init]
def wsL_step_r4 : List Cond := [Cond.code yX3_init cX3_init 3 none, Cond.methodLink RX3 1 objectInit, Cond.fieldLink RX3 7 "LinkResolver$Title" "firstYear" "I", Cond.fieldLink RX3 13 "LinkResolver$Title" "volumes" "I", Cond.methodLink RL 24 yX4_volumeOf, Cond.instanceMethod yX4_volumeOf, Cond.selects RX4 yX4_volumeOf yX4_volumeOf, Cond.code yX4_volumeOf cX4_volumeOf 4 (some .int), Cond.fieldLink RX4 56 "LinkResolver$Title" "firstYear" "I", Cond.methodLink RX4 48 yX4_existingTitle, Cond.instanceMethod yX4_existingTitle, Cond.selects RX4 yX4_existingTitle yX4_existingTitle, Cond.code yX4_existingTitle cX4_existingTitle 2 (some (.object "LinkResolver$Title")), Cond.methodLink RX4 52 yX3_firstVolume, Cond.instanceMethod yX3_firstVolume, Cond.selects RX3 yX3_firstVolume yX3_firstVolume, Cond.code yX3_firstVolume cX3_firstVolume 2 (some .int), Cond.methodLink RL 27 yX4_yearOf, Cond.instanceMethod yX4_yearOf, Cond.selects RX4 yX4_yearOf yX4_yearOf, Cond.code yX4_yearOf cX4_yearOf 5 (some .int), Cond.methodLink RL 30 yX4_isIn, Cond.instanceMethod yX4_isIn, Cond.selects RX4 yX4_isIn yX4_isIn]
def wsL_step_r5 : List Cond := [Cond.code yX4_isIn cX4_isIn 5 (some .boolean), Cond.methodLink RX4 84 yX4_existingStay, Cond.instanceMethod yX4_existingStay, Cond.selects RX4 yX4_existingStay yX4_existingStay, Cond.code yX4_existingStay cX4_existingStay 4 (some (.object "LinkResolver$History")), Cond.methodLink RX4 165 yX2_stayOf, Cond.instanceMethod yX2_stayOf, Cond.selects RX2 yX2_stayOf yX2_stayOf, Cond.code yX2_stayOf cX2_stayOf 2 (some (.object "LinkResolver$History")), Cond.classLink RX2 36 "java/lang/IndexOutOfBoundsException", Cond.methodLink RL 34 yX4_subscribe, Cond.instanceMethod yX4_subscribe, Cond.selects RX4 yX4_subscribe yX4_subscribe, Cond.code yX4_subscribe cX4_subscribe 5 (some .boolean), Cond.constantLong RX4 78 (72057594037927935), Cond.methodLink RX4 80 yX4_change, Cond.instanceMethod yX4_change, Cond.selects RX4 yX4_change yX4_change, Cond.code yX4_change cX4_change 5 none, Cond.fieldLink RX4 28 "LinkResolver" "changeCount" "I", Cond.methodLink RX4 169 yX1_add, Cond.instanceMethod yX1_add, Cond.selects RX1 yX1_add yX1_add, Cond.code yX1_add cX1_add 5 none]
def wsL_step_r6 : List Cond := [Cond.classLink RX1 19 RX0, Cond.instantiable RX0 4, Cond.initialized RX0, Cond.methodLink RX1 21 yX0_init, Cond.instanceMethod yX0_init, Cond.code yX0_init cX0_init 6 none, Cond.methodLink RX0 1 objectInit, Cond.fieldLink RX0 7 "LinkResolver$Change" "day" "I", Cond.fieldLink RX0 13 "LinkResolver$Change" "years" "J", Cond.fieldLink RX0 17 "LinkResolver$Change" "wall" "I", Cond.fieldLink RX0 20 "LinkResolver$Change" "before" "LLinkResolver$Change;", Cond.methodLink RL 38 yX4_come, Cond.instanceMethod yX4_come, Cond.selects RX4 yX4_come yX4_come, Cond.code yX4_come cX4_come 8 (some .boolean), Cond.methodLink RX4 88 yX4_yearsBetween, Cond.static yX4_yearsBetween, Cond.code yX4_yearsBetween cX4_yearsBetween 2 (some .long), Cond.methodLink RL 42 yX4_go, Cond.instanceMethod yX4_go, Cond.selects RX4 yX4_go yX4_go, Cond.code yX4_go cX4_go 4 none, Cond.methodLink RL 46 yX4_today, Cond.instanceMethod yX4_today]
def wsL_step_r7 : List Cond := [Cond.selects RX4 yX4_today yX4_today, Cond.code yX4_today cX4_today 1 (some .int), Cond.methodLink RL 50 yX4_pass, Cond.instanceMethod yX4_pass, Cond.selects RX4 yX4_pass yX4_pass, Cond.code yX4_pass cX4_pass 2 (some .int), Cond.methodLink RL 54 yX4_report, Cond.instanceMethod yX4_report, Cond.selects RX4 yX4_report yX4_report, Cond.code yX4_report cX4_report 4 (some .int), Cond.fieldLink RX4 96 "LinkResolver$History" "breaks" "I", Cond.methodLink RL 57 yX4_mend, Cond.instanceMethod yX4_mend, Cond.selects RX4 yX4_mend yX4_mend, Cond.code yX4_mend cX4_mend 5 (some .int), Cond.methodLink RL 60 yL_volumes, Cond.static yL_volumes, Cond.initialized RL, Cond.code yL_volumes cL_volumes 5 (some .boolean)]
def wsL_step : List Cond := .code yL_step cL_step 22 (some .boolean) :: ((wsL_step_r1 ++ (wsL_step_r2 ++ (wsL_step_r3 ++ (wsL_step_r4 ++ (wsL_step_r5 ++ (wsL_step_r6 ++ wsL_step_r7)))))) ++ wsX40 ++ wsX20 ++ wsX10 ++ wsX00 ++ wsX30 ++ (vx_atS RX4 42 "java/lang/IllegalStateException" ["java/lang/RuntimeException", "java/lang/Exception"]).filter goodWord ++ (vx_atS RX4 160 "java/lang/IllegalArgumentException" ["java/lang/RuntimeException", "java/lang/Exception"]).filter goodWord ++ (vx_atS RX4 127 "java/lang/IndexOutOfBoundsException" ["java/lang/RuntimeException", "java/lang/Exception"]).filter goodWord ++ (vx_atS RX2 40 "java/lang/IndexOutOfBoundsException" ["java/lang/RuntimeException", "java/lang/Exception"]).filter goodWord)
def wsL_covers_r1 : List Cond := [Cond.methodLink RL 66 yX4_covers, Cond.instanceMethod yX4_covers, Cond.selects RX4 yX4_covers yX4_covers, Cond.initialized RX4, Cond.code yX4_covers cX4_covers 7 (some .boolean), Cond.methodLink RX4 64 yX4_existingPack, Cond.instanceMethod yX4_existingPack, Cond.selects RX4 yX4_existingPack yX4_existingPack, Cond.code yX4_existingPack cX4_existingPack 2 (some (.object "LinkResolver$Pack")), Cond.classLink RX4 123 "java/lang/IndexOutOfBoundsException", Cond.initialized "java/lang/IndexOutOfBoundsException", Cond.fieldLink RX4 25 "LinkResolver" "packCount" "I", Cond.fieldLink RX4 17 "LinkResolver" "packs" "[LLinkResolver$Pack;", Cond.methodLink RX4 48 yX4_existingTitle, Cond.instanceMethod yX4_existingTitle, Cond.selects RX4 yX4_existingTitle yX4_existingTitle, Cond.code yX4_existingTitle cX4_existingTitle 2 (some (.object "LinkResolver$Title")), Cond.fieldLink RX4 21 "LinkResolver" "titleCount" "I", Cond.fieldLink RX4 11 "LinkResolver" "titles" "[LLinkResolver$Title;", Cond.methodLink RX4 99 yX4_checkArticle, Cond.instanceMethod yX4_checkArticle, Cond.selects RX4 yX4_checkArticle yX4_checkArticle, Cond.code yX4_checkArticle cX4_checkArticle 4 none, Cond.fieldLink RX4 31 "LinkResolver" "currentDay" "I"]
def wsL_covers_r2 : List Cond := [Cond.methodLink RX4 34 yX4_checkRange, Cond.static yX4_checkRange, Cond.code yX4_checkRange cX4_checkRange 3 none, Cond.classLink RX4 156 "java/lang/IllegalArgumentException", Cond.initialized "java/lang/IllegalArgumentException", Cond.methodLink RX4 102 yX4_isWay, Cond.static yX4_isWay, Cond.code yX4_isWay cX4_isWay 5 (some .boolean), Cond.methodLink RX4 142 yX2_letsIn, Cond.instanceMethod yX2_letsIn, Cond.selects RX2 yX2_letsIn yX2_letsIn, Cond.initialized RX2, Cond.code yX2_letsIn cX2_letsIn 2 (some .boolean), Cond.fieldLink RX2 18 "LinkResolver$Pack" "groups" "I", Cond.methodLink RX4 145 yX2_yearsCovered, Cond.instanceMethod yX2_yearsCovered, Cond.selects RX2 yX2_yearsCovered yX2_yearsCovered, Cond.code yX2_yearsCovered cX2_yearsCovered 3 (some .long), Cond.methodLink RX2 50 yX2_yearsOpen, Cond.instanceMethod yX2_yearsOpen, Cond.selects RX2 yX2_yearsOpen yX2_yearsOpen, Cond.code yX2_yearsOpen cX2_yearsOpen 3 (some .long), Cond.fieldLink RX2 28 "LinkResolver$Pack" "subscription" "LLinkResolver$History;", Cond.methodLink RX2 43 yX2_stayOf]
def wsL_covers_r3 : List Cond := [Cond.instanceMethod yX2_stayOf, Cond.selects RX2 yX2_stayOf yX2_stayOf, Cond.code yX2_stayOf cX2_stayOf 2 (some (.object "LinkResolver$History")), Cond.classLink RX2 36 "java/lang/IndexOutOfBoundsException", Cond.fieldLink RX2 32 "LinkResolver$Pack" "stays" "[LLinkResolver$History;", Cond.methodLink RX2 57 yX1_yearsOpen, Cond.instanceMethod yX1_yearsOpen, Cond.selects RX1 yX1_yearsOpen yX1_yearsOpen, Cond.initialized RX1, Cond.code yX1_yearsOpen cX1_yearsOpen 3 (some .long), Cond.fieldLink RX1 34 "LinkResolver$Change" "years" "J", Cond.fieldLink RX1 38 "LinkResolver$Change" "wall" "I", Cond.methodLink RX1 30 yX1_changeAt, Cond.instanceMethod yX1_changeAt, Cond.selects RX1 yX1_changeAt yX1_changeAt, Cond.code yX1_changeAt cX1_changeAt 3 (some (.object "LinkResolver$Change")), Cond.fieldLink RX1 9 "LinkResolver$History" "newest" "LLinkResolver$Change;", Cond.fieldLink RX1 24 "LinkResolver$Change" "day" "I", Cond.fieldLink RX1 27 "LinkResolver$Change" "before" "LLinkResolver$Change;", Cond.static yX4_yearsBetween, Cond.code yX4_yearsBetween cX4_yearsBetween 2 (some .long), Cond.methodLink RX2 54 yX2_yearsKept, Cond.instanceMethod yX2_yearsKept, Cond.selects RX2 yX2_yearsKept yX2_yearsKept]
def wsL_covers_r4 : List Cond := [Cond.code yX2_yearsKept cX2_yearsKept 5 (some .long), Cond.fieldLink RX2 21 "LinkResolver$Pack" "isKeeping" "Z", Cond.methodLink RX2 60 yX1_yearsKept, Cond.instanceMethod yX1_yearsKept, Cond.selects RX1 yX1_yearsKept yX1_yearsKept, Cond.code yX1_yearsKept cX1_yearsKept 10 (some .long), Cond.methodLink RX1 45 Lib.Math.min.name, Cond.static Lib.Math.min.name, Cond.initialized "java/lang/Math", Cond.code Lib.Math.min.name Lib.Math.min.code 2 (some .int), Cond.methodLink RX4 138 yX4_hasYear, Cond.static yX4_hasYear, Cond.code yX4_hasYear cX4_hasYear 3 (some .boolean), Cond.methodLink RL 16 yX4_isSubscribed, Cond.instanceMethod yX4_isSubscribed, Cond.selects RX4 yX4_isSubscribed yX4_isSubscribed, Cond.code yX4_isSubscribed cX4_isSubscribed 4 (some .boolean), Cond.fieldLink RX4 68 "LinkResolver$Pack" "subscription" "LLinkResolver$History;", Cond.methodLink RX4 72 yX1_isOnAt, Cond.instanceMethod yX1_isOnAt, Cond.selects RX1 yX1_isOnAt yX1_isOnAt, Cond.code yX1_isOnAt cX1_isOnAt 3 (some .boolean), Cond.methodLink RL 30 yX4_isIn, Cond.instanceMethod yX4_isIn]
def wsL_covers_r5 : List Cond := [Cond.selects RX4 yX4_isIn yX4_isIn, Cond.code yX4_isIn cX4_isIn 5 (some .boolean), Cond.methodLink RX4 84 yX4_existingStay, Cond.instanceMethod yX4_existingStay, Cond.selects RX4 yX4_existingStay yX4_existingStay, Cond.code yX4_existingStay cX4_existingStay 4 (some (.object "LinkResolver$History")), Cond.methodLink RX4 165 yX2_stayOf]
def wsL_covers : List Cond := .code yL_covers cL_covers 12 (some .boolean) :: ((wsL_covers_r1 ++ (wsL_covers_r2 ++ (wsL_covers_r3 ++ (wsL_covers_r4 ++ wsL_covers_r5)))) ++ wsX40 ++ wsX20 ++ wsX00 ++ wsX10 ++ (vx_atS RX4 127 "java/lang/IndexOutOfBoundsException" ["java/lang/RuntimeException", "java/lang/Exception"]).filter goodWord ++ (vx_atS RX4 160 "java/lang/IllegalArgumentException" ["java/lang/RuntimeException", "java/lang/Exception"]).filter goodWord ++ (vx_atS RX2 40 "java/lang/IndexOutOfBoundsException" ["java/lang/RuntimeException", "java/lang/Exception"]).filter goodWord)
def wsL_isAhead : List Cond := .code yL_isAhead cL_isAhead 7 (some .boolean) :: ([.constant RL 69 (1000000)])
def wsL_areWays_r1 : List Cond := [Cond.methodLink RL 66 yX4_covers, Cond.instanceMethod yX4_covers, Cond.selects RX4 yX4_covers yX4_covers, Cond.initialized RX4, Cond.code yX4_covers cX4_covers 7 (some .boolean), Cond.methodLink RX4 64 yX4_existingPack, Cond.instanceMethod yX4_existingPack, Cond.selects RX4 yX4_existingPack yX4_existingPack, Cond.code yX4_existingPack cX4_existingPack 2 (some (.object "LinkResolver$Pack")), Cond.classLink RX4 123 "java/lang/IndexOutOfBoundsException", Cond.initialized "java/lang/IndexOutOfBoundsException", Cond.fieldLink RX4 25 "LinkResolver" "packCount" "I", Cond.fieldLink RX4 17 "LinkResolver" "packs" "[LLinkResolver$Pack;", Cond.methodLink RX4 48 yX4_existingTitle, Cond.instanceMethod yX4_existingTitle, Cond.selects RX4 yX4_existingTitle yX4_existingTitle, Cond.code yX4_existingTitle cX4_existingTitle 2 (some (.object "LinkResolver$Title")), Cond.fieldLink RX4 21 "LinkResolver" "titleCount" "I", Cond.fieldLink RX4 11 "LinkResolver" "titles" "[LLinkResolver$Title;", Cond.methodLink RX4 99 yX4_checkArticle, Cond.instanceMethod yX4_checkArticle, Cond.selects RX4 yX4_checkArticle yX4_checkArticle, Cond.code yX4_checkArticle cX4_checkArticle 4 none, Cond.fieldLink RX4 31 "LinkResolver" "currentDay" "I"]
def wsL_areWays_r2 : List Cond := [Cond.methodLink RX4 34 yX4_checkRange, Cond.static yX4_checkRange, Cond.code yX4_checkRange cX4_checkRange 3 none, Cond.classLink RX4 156 "java/lang/IllegalArgumentException", Cond.initialized "java/lang/IllegalArgumentException", Cond.methodLink RX4 102 yX4_isWay, Cond.static yX4_isWay, Cond.code yX4_isWay cX4_isWay 5 (some .boolean), Cond.methodLink RX4 142 yX2_letsIn, Cond.instanceMethod yX2_letsIn, Cond.selects RX2 yX2_letsIn yX2_letsIn, Cond.initialized RX2, Cond.code yX2_letsIn cX2_letsIn 2 (some .boolean), Cond.fieldLink RX2 18 "LinkResolver$Pack" "groups" "I", Cond.methodLink RX4 145 yX2_yearsCovered, Cond.instanceMethod yX2_yearsCovered, Cond.selects RX2 yX2_yearsCovered yX2_yearsCovered, Cond.code yX2_yearsCovered cX2_yearsCovered 3 (some .long), Cond.methodLink RX2 50 yX2_yearsOpen, Cond.instanceMethod yX2_yearsOpen, Cond.selects RX2 yX2_yearsOpen yX2_yearsOpen, Cond.code yX2_yearsOpen cX2_yearsOpen 3 (some .long), Cond.fieldLink RX2 28 "LinkResolver$Pack" "subscription" "LLinkResolver$History;", Cond.methodLink RX2 43 yX2_stayOf]
def wsL_areWays_r3 : List Cond := [Cond.instanceMethod yX2_stayOf, Cond.selects RX2 yX2_stayOf yX2_stayOf, Cond.code yX2_stayOf cX2_stayOf 2 (some (.object "LinkResolver$History")), Cond.classLink RX2 36 "java/lang/IndexOutOfBoundsException", Cond.fieldLink RX2 32 "LinkResolver$Pack" "stays" "[LLinkResolver$History;", Cond.methodLink RX2 57 yX1_yearsOpen, Cond.instanceMethod yX1_yearsOpen, Cond.selects RX1 yX1_yearsOpen yX1_yearsOpen, Cond.initialized RX1, Cond.code yX1_yearsOpen cX1_yearsOpen 3 (some .long), Cond.fieldLink RX1 34 "LinkResolver$Change" "years" "J", Cond.fieldLink RX1 38 "LinkResolver$Change" "wall" "I", Cond.methodLink RX1 30 yX1_changeAt, Cond.instanceMethod yX1_changeAt, Cond.selects RX1 yX1_changeAt yX1_changeAt, Cond.code yX1_changeAt cX1_changeAt 3 (some (.object "LinkResolver$Change")), Cond.fieldLink RX1 9 "LinkResolver$History" "newest" "LLinkResolver$Change;", Cond.fieldLink RX1 24 "LinkResolver$Change" "day" "I", Cond.fieldLink RX1 27 "LinkResolver$Change" "before" "LLinkResolver$Change;", Cond.static yX4_yearsBetween, Cond.code yX4_yearsBetween cX4_yearsBetween 2 (some .long), Cond.methodLink RX2 54 yX2_yearsKept, Cond.instanceMethod yX2_yearsKept, Cond.selects RX2 yX2_yearsKept yX2_yearsKept]
def wsL_areWays_r4 : List Cond := [Cond.code yX2_yearsKept cX2_yearsKept 5 (some .long), Cond.fieldLink RX2 21 "LinkResolver$Pack" "isKeeping" "Z", Cond.methodLink RX2 60 yX1_yearsKept, Cond.instanceMethod yX1_yearsKept, Cond.selects RX1 yX1_yearsKept yX1_yearsKept, Cond.code yX1_yearsKept cX1_yearsKept 10 (some .long), Cond.methodLink RX1 45 Lib.Math.min.name, Cond.static Lib.Math.min.name, Cond.initialized "java/lang/Math", Cond.code Lib.Math.min.name Lib.Math.min.code 2 (some .int), Cond.methodLink RX4 138 yX4_hasYear, Cond.static yX4_hasYear, Cond.code yX4_hasYear cX4_hasYear 3 (some .boolean), Cond.methodLink RL 70 yL_covers, Cond.static yL_covers, Cond.initialized RL, Cond.code yL_covers cL_covers 12 (some .boolean), Cond.methodLink RL 16 yX4_isSubscribed, Cond.instanceMethod yX4_isSubscribed, Cond.selects RX4 yX4_isSubscribed yX4_isSubscribed, Cond.code yX4_isSubscribed cX4_isSubscribed 4 (some .boolean), Cond.fieldLink RX4 68 "LinkResolver$Pack" "subscription" "LLinkResolver$History;", Cond.methodLink RX4 72 yX1_isOnAt, Cond.instanceMethod yX1_isOnAt]
def wsL_areWays_r5 : List Cond := [Cond.selects RX1 yX1_isOnAt yX1_isOnAt, Cond.code yX1_isOnAt cX1_isOnAt 3 (some .boolean), Cond.methodLink RL 30 yX4_isIn, Cond.instanceMethod yX4_isIn, Cond.selects RX4 yX4_isIn yX4_isIn, Cond.code yX4_isIn cX4_isIn 5 (some .boolean), Cond.methodLink RX4 84 yX4_existingStay, Cond.instanceMethod yX4_existingStay, Cond.selects RX4 yX4_existingStay yX4_existingStay, Cond.code yX4_existingStay cX4_existingStay 4 (some (.object "LinkResolver$History")), Cond.methodLink RX4 165 yX2_stayOf, Cond.methodLink RL 73 yX4_ways, Cond.instanceMethod yX4_ways, Cond.selects RX4 yX4_ways yX4_ways, Cond.code yX4_ways cX4_ways 5 (some .int), Cond.methodLink RX4 106 yX4_waysTo, Cond.instanceMethod yX4_waysTo, Cond.selects RX4 yX4_waysTo yX4_waysTo, Cond.code yX4_waysTo cX4_waysTo 7 (some .int), Cond.methodLink RX4 110 yJ6_bitCount_0f7a4, Cond.static yJ6_bitCount_0f7a4, Cond.initialized RJ6, Cond.code yJ6_bitCount_0f7a4 cJ6_bitCount_0f7a4 1 (some .int), Cond.constant RJ6 265 (1431655765)]
def wsL_areWays_r6 : List Cond := [Cond.constant RJ6 266 (858993459), Cond.constant RJ6 267 (252645135), Cond.methodLink RL 76 yX4_wayAt, Cond.instanceMethod yX4_wayAt, Cond.selects RX4 yX4_wayAt yX4_wayAt, Cond.code yX4_wayAt cX4_wayAt 8 (some .int), Cond.methodLink RX4 115 yX4_isAmong, Cond.static yX4_isAmong, Cond.code yX4_isAmong cX4_isAmong 2 (some .boolean), Cond.methodLink RX4 119 yX4_placeAmong, Cond.instanceMethod yX4_placeAmong, Cond.selects RX4 yX4_placeAmong yX4_placeAmong, Cond.code yX4_placeAmong cX4_placeAmong 6 (some .int), Cond.methodLink RX4 173 yX4_isAhead, Cond.instanceMethod yX4_isAhead, Cond.selects RX4 yX4_isAhead yX4_isAhead, Cond.code yX4_isAhead cX4_isAhead 7 (some .boolean), Cond.fieldLink RX4 180 "LinkResolver$Pack" "cost" "I", Cond.fieldLink RX4 183 "LinkResolver$Pack" "version" "I", Cond.methodLink RX4 177 yX2_isBroken, Cond.instanceMethod yX2_isBroken, Cond.selects RX2 yX2_isBroken yX2_isBroken, Cond.code yX2_isBroken cX2_isBroken 2 (some .boolean), Cond.fieldLink RX2 47 "LinkResolver$History" "breaks" "I"]
def wsL_areWays_r7 : List Cond := [Cond.methodLink RL 80 yL_isAhead, Cond.static yL_isAhead, Cond.code yL_isAhead cL_isAhead 7 (some .boolean), Cond.constant RL 69 (1000000)]
def wsL_areWays : List Cond := .code yL_areWays cL_areWays 12 (some .boolean) :: ((wsL_areWays_r1 ++ (wsL_areWays_r2 ++ (wsL_areWays_r3 ++ (wsL_areWays_r4 ++ (wsL_areWays_r5 ++ (wsL_areWays_r6 ++ wsL_areWays_r7)))))) ++ wsX40 ++ wsX20 ++ wsX00 ++ wsX10 ++ (vx_atS RX4 127 "java/lang/IndexOutOfBoundsException" ["java/lang/RuntimeException", "java/lang/Exception"]).filter goodWord ++ (vx_atS RX4 160 "java/lang/IllegalArgumentException" ["java/lang/RuntimeException", "java/lang/Exception"]).filter goodWord ++ (vx_atS RX2 40 "java/lang/IndexOutOfBoundsException" ["java/lang/RuntimeException", "java/lang/Exception"]).filter goodWord)
def wsL_areGaps_r1 : List Cond := [Cond.methodLink RL 73 yX4_ways, Cond.instanceMethod yX4_ways, Cond.selects RX4 yX4_ways yX4_ways, Cond.initialized RX4, Cond.code yX4_ways cX4_ways 5 (some .int), Cond.methodLink RX4 48 yX4_existingTitle, Cond.instanceMethod yX4_existingTitle, Cond.selects RX4 yX4_existingTitle yX4_existingTitle, Cond.code yX4_existingTitle cX4_existingTitle 2 (some (.object "LinkResolver$Title")), Cond.classLink RX4 123 "java/lang/IndexOutOfBoundsException", Cond.initialized "java/lang/IndexOutOfBoundsException", Cond.fieldLink RX4 21 "LinkResolver" "titleCount" "I", Cond.fieldLink RX4 11 "LinkResolver" "titles" "[LLinkResolver$Title;", Cond.methodLink RX4 99 yX4_checkArticle, Cond.instanceMethod yX4_checkArticle, Cond.selects RX4 yX4_checkArticle yX4_checkArticle, Cond.code yX4_checkArticle cX4_checkArticle 4 none, Cond.fieldLink RX4 31 "LinkResolver" "currentDay" "I", Cond.methodLink RX4 34 yX4_checkRange, Cond.static yX4_checkRange, Cond.code yX4_checkRange cX4_checkRange 3 none, Cond.classLink RX4 156 "java/lang/IllegalArgumentException", Cond.initialized "java/lang/IllegalArgumentException", Cond.methodLink RX4 106 yX4_waysTo]
def wsL_areGaps_r2 : List Cond := [Cond.instanceMethod yX4_waysTo, Cond.selects RX4 yX4_waysTo yX4_waysTo, Cond.code yX4_waysTo cX4_waysTo 7 (some .int), Cond.fieldLink RX4 25 "LinkResolver" "packCount" "I", Cond.methodLink RX4 64 yX4_existingPack, Cond.instanceMethod yX4_existingPack, Cond.selects RX4 yX4_existingPack yX4_existingPack, Cond.code yX4_existingPack cX4_existingPack 2 (some (.object "LinkResolver$Pack")), Cond.fieldLink RX4 17 "LinkResolver" "packs" "[LLinkResolver$Pack;", Cond.methodLink RX4 102 yX4_isWay, Cond.static yX4_isWay, Cond.code yX4_isWay cX4_isWay 5 (some .boolean), Cond.methodLink RX4 142 yX2_letsIn, Cond.instanceMethod yX2_letsIn, Cond.selects RX2 yX2_letsIn yX2_letsIn, Cond.initialized RX2, Cond.code yX2_letsIn cX2_letsIn 2 (some .boolean), Cond.fieldLink RX2 18 "LinkResolver$Pack" "groups" "I", Cond.methodLink RX4 145 yX2_yearsCovered, Cond.instanceMethod yX2_yearsCovered, Cond.selects RX2 yX2_yearsCovered yX2_yearsCovered, Cond.code yX2_yearsCovered cX2_yearsCovered 3 (some .long), Cond.methodLink RX2 50 yX2_yearsOpen, Cond.instanceMethod yX2_yearsOpen]
def wsL_areGaps_r3 : List Cond := [Cond.selects RX2 yX2_yearsOpen yX2_yearsOpen, Cond.code yX2_yearsOpen cX2_yearsOpen 3 (some .long), Cond.fieldLink RX2 28 "LinkResolver$Pack" "subscription" "LLinkResolver$History;", Cond.methodLink RX2 43 yX2_stayOf, Cond.instanceMethod yX2_stayOf, Cond.selects RX2 yX2_stayOf yX2_stayOf, Cond.code yX2_stayOf cX2_stayOf 2 (some (.object "LinkResolver$History")), Cond.classLink RX2 36 "java/lang/IndexOutOfBoundsException", Cond.fieldLink RX2 32 "LinkResolver$Pack" "stays" "[LLinkResolver$History;", Cond.methodLink RX2 57 yX1_yearsOpen, Cond.instanceMethod yX1_yearsOpen, Cond.selects RX1 yX1_yearsOpen yX1_yearsOpen, Cond.initialized RX1, Cond.code yX1_yearsOpen cX1_yearsOpen 3 (some .long), Cond.fieldLink RX1 34 "LinkResolver$Change" "years" "J", Cond.fieldLink RX1 38 "LinkResolver$Change" "wall" "I", Cond.methodLink RX1 30 yX1_changeAt, Cond.instanceMethod yX1_changeAt, Cond.selects RX1 yX1_changeAt yX1_changeAt, Cond.code yX1_changeAt cX1_changeAt 3 (some (.object "LinkResolver$Change")), Cond.fieldLink RX1 9 "LinkResolver$History" "newest" "LLinkResolver$Change;", Cond.fieldLink RX1 24 "LinkResolver$Change" "day" "I", Cond.fieldLink RX1 27 "LinkResolver$Change" "before" "LLinkResolver$Change;", Cond.static yX4_yearsBetween]
def wsL_areGaps_r4 : List Cond := [Cond.code yX4_yearsBetween cX4_yearsBetween 2 (some .long), Cond.methodLink RX2 54 yX2_yearsKept, Cond.instanceMethod yX2_yearsKept, Cond.selects RX2 yX2_yearsKept yX2_yearsKept, Cond.code yX2_yearsKept cX2_yearsKept 5 (some .long), Cond.fieldLink RX2 21 "LinkResolver$Pack" "isKeeping" "Z", Cond.methodLink RX2 60 yX1_yearsKept, Cond.instanceMethod yX1_yearsKept, Cond.selects RX1 yX1_yearsKept yX1_yearsKept, Cond.code yX1_yearsKept cX1_yearsKept 10 (some .long), Cond.methodLink RX1 45 Lib.Math.min.name, Cond.static Lib.Math.min.name, Cond.initialized "java/lang/Math", Cond.code Lib.Math.min.name Lib.Math.min.code 2 (some .int), Cond.methodLink RX4 138 yX4_hasYear, Cond.static yX4_hasYear, Cond.code yX4_hasYear cX4_hasYear 3 (some .boolean), Cond.methodLink RX4 110 yJ6_bitCount_0f7a4, Cond.static yJ6_bitCount_0f7a4, Cond.initialized RJ6, Cond.code yJ6_bitCount_0f7a4 cJ6_bitCount_0f7a4 1 (some .int), Cond.constant RJ6 265 (1431655765), Cond.constant RJ6 266 (858993459), Cond.constant RJ6 267 (252645135)]
def wsL_areGaps_r5 : List Cond := [Cond.methodLink RL 84 yX4_gap, Cond.instanceMethod yX4_gap, Cond.selects RX4 yX4_gap yX4_gap, Cond.code yX4_gap cX4_gap 7 (some .int), Cond.constantLong RX4 136 (-1), Cond.fieldLink RX4 56 "LinkResolver$Title" "firstYear" "I", Cond.methodLink RX4 128 yX4_yearsSoFar, Cond.instanceMethod yX4_yearsSoFar, Cond.selects RX4 yX4_yearsSoFar yX4_yearsSoFar, Cond.code yX4_yearsSoFar cX4_yearsSoFar 2 (some .long), Cond.methodLink RX4 88 yX4_yearsBetween, Cond.methodLink RX4 132 yX4_yearsCoveredButBy, Cond.instanceMethod yX4_yearsCoveredButBy, Cond.selects RX4 yX4_yearsCoveredButBy yX4_yearsCoveredButBy, Cond.code yX4_yearsCoveredButBy cX4_yearsCoveredButBy 8 (some .long), Cond.methodLink RL 87 yX4_doubles, Cond.instanceMethod yX4_doubles, Cond.selects RX4 yX4_doubles yX4_doubles, Cond.code yX4_doubles cX4_doubles 12 (some .int), Cond.methodLink RX4 148 yJ13_bitCount_95d88, Cond.static yJ13_bitCount_95d88, Cond.initialized RJ13, Cond.code yJ13_bitCount_95d88 cJ13_bitCount_95d88 2 (some .int), Cond.constantLong RJ13 314 (6148914691236517205)]
def wsL_areGaps_r6 : List Cond := [Cond.constantLong RJ13 316 (3689348814741910323), Cond.constantLong RJ13 318 (1085102592571150095)]
def wsL_areGaps : List Cond := .code yL_areGaps cL_areGaps 8 (some .boolean) :: ((wsL_areGaps_r1 ++ (wsL_areGaps_r2 ++ (wsL_areGaps_r3 ++ (wsL_areGaps_r4 ++ (wsL_areGaps_r5 ++ wsL_areGaps_r6))))) ++ wsX40 ++ wsX20 ++ wsX00 ++ wsX10 ++ wsX30 ++ (vx_atS RX4 127 "java/lang/IndexOutOfBoundsException" ["java/lang/RuntimeException", "java/lang/Exception"]).filter goodWord ++ (vx_atS RX4 160 "java/lang/IllegalArgumentException" ["java/lang/RuntimeException", "java/lang/Exception"]).filter goodWord ++ (vx_atS RX2 40 "java/lang/IndexOutOfBoundsException" ["java/lang/RuntimeException", "java/lang/Exception"]).filter goodWord)
def wsL_isNeedless_r1 : List Cond := [Cond.methodLink RL 90 yX4_isNeedless, Cond.instanceMethod yX4_isNeedless, Cond.selects RX4 yX4_isNeedless yX4_isNeedless, Cond.initialized RX4, Cond.code yX4_isNeedless cX4_isNeedless 3 (some .boolean), Cond.fieldLink RX4 21 "LinkResolver" "titleCount" "I", Cond.methodLink RX4 64 yX4_existingPack, Cond.instanceMethod yX4_existingPack, Cond.selects RX4 yX4_existingPack yX4_existingPack, Cond.code yX4_existingPack cX4_existingPack 2 (some (.object "LinkResolver$Pack")), Cond.classLink RX4 123 "java/lang/IndexOutOfBoundsException", Cond.initialized "java/lang/IndexOutOfBoundsException", Cond.fieldLink RX4 25 "LinkResolver" "packCount" "I", Cond.fieldLink RX4 17 "LinkResolver" "packs" "[LLinkResolver$Pack;", Cond.methodLink RX4 153 yX4_isLostWithout, Cond.instanceMethod yX4_isLostWithout, Cond.selects RX4 yX4_isLostWithout yX4_isLostWithout, Cond.code yX4_isLostWithout cX4_isLostWithout 7 (some .boolean), Cond.fieldLink RX4 31 "LinkResolver" "currentDay" "I", Cond.constantLong RX4 136 (-1), Cond.methodLink RX4 186 yX2_yearsOpen, Cond.instanceMethod yX2_yearsOpen, Cond.selects RX2 yX2_yearsOpen yX2_yearsOpen, Cond.initialized RX2]
def wsL_isNeedless_r2 : List Cond := [Cond.code yX2_yearsOpen cX2_yearsOpen 3 (some .long), Cond.fieldLink RX2 28 "LinkResolver$Pack" "subscription" "LLinkResolver$History;", Cond.methodLink RX2 43 yX2_stayOf, Cond.instanceMethod yX2_stayOf, Cond.selects RX2 yX2_stayOf yX2_stayOf, Cond.code yX2_stayOf cX2_stayOf 2 (some (.object "LinkResolver$History")), Cond.classLink RX2 36 "java/lang/IndexOutOfBoundsException", Cond.fieldLink RX2 32 "LinkResolver$Pack" "stays" "[LLinkResolver$History;", Cond.methodLink RX2 57 yX1_yearsOpen, Cond.instanceMethod yX1_yearsOpen, Cond.selects RX1 yX1_yearsOpen yX1_yearsOpen, Cond.initialized RX1, Cond.code yX1_yearsOpen cX1_yearsOpen 3 (some .long), Cond.fieldLink RX1 34 "LinkResolver$Change" "years" "J", Cond.fieldLink RX1 38 "LinkResolver$Change" "wall" "I", Cond.methodLink RX1 30 yX1_changeAt, Cond.instanceMethod yX1_changeAt, Cond.selects RX1 yX1_changeAt yX1_changeAt, Cond.code yX1_changeAt cX1_changeAt 3 (some (.object "LinkResolver$Change")), Cond.fieldLink RX1 9 "LinkResolver$History" "newest" "LLinkResolver$Change;", Cond.fieldLink RX1 24 "LinkResolver$Change" "day" "I", Cond.fieldLink RX1 27 "LinkResolver$Change" "before" "LLinkResolver$Change;", Cond.static yX4_yearsBetween, Cond.code yX4_yearsBetween cX4_yearsBetween 2 (some .long)]
def wsL_isNeedless_r3 : List Cond := [Cond.methodLink RX4 189 yX2_yearsKept, Cond.instanceMethod yX2_yearsKept, Cond.selects RX2 yX2_yearsKept yX2_yearsKept, Cond.code yX2_yearsKept cX2_yearsKept 5 (some .long), Cond.fieldLink RX2 21 "LinkResolver$Pack" "isKeeping" "Z", Cond.methodLink RX2 60 yX1_yearsKept, Cond.instanceMethod yX1_yearsKept, Cond.selects RX1 yX1_yearsKept yX1_yearsKept, Cond.code yX1_yearsKept cX1_yearsKept 10 (some .long), Cond.methodLink RX1 45 Lib.Math.min.name, Cond.static Lib.Math.min.name, Cond.initialized "java/lang/Math", Cond.code Lib.Math.min.name Lib.Math.min.code 2 (some .int), Cond.methodLink RX4 48 yX4_existingTitle, Cond.instanceMethod yX4_existingTitle, Cond.selects RX4 yX4_existingTitle yX4_existingTitle, Cond.code yX4_existingTitle cX4_existingTitle 2 (some (.object "LinkResolver$Title")), Cond.fieldLink RX4 11 "LinkResolver" "titles" "[LLinkResolver$Title;", Cond.methodLink RX4 128 yX4_yearsSoFar, Cond.instanceMethod yX4_yearsSoFar, Cond.selects RX4 yX4_yearsSoFar yX4_yearsSoFar, Cond.code yX4_yearsSoFar cX4_yearsSoFar 2 (some .long), Cond.fieldLink RX4 56 "LinkResolver$Title" "firstYear" "I", Cond.methodLink RX4 88 yX4_yearsBetween]
def wsL_isNeedless_r4 : List Cond := [Cond.methodLink RX4 142 yX2_letsIn, Cond.instanceMethod yX2_letsIn, Cond.selects RX2 yX2_letsIn yX2_letsIn, Cond.code yX2_letsIn cX2_letsIn 2 (some .boolean), Cond.fieldLink RX2 18 "LinkResolver$Pack" "groups" "I", Cond.methodLink RX4 132 yX4_yearsCoveredButBy, Cond.instanceMethod yX4_yearsCoveredButBy, Cond.selects RX4 yX4_yearsCoveredButBy yX4_yearsCoveredButBy, Cond.code yX4_yearsCoveredButBy cX4_yearsCoveredButBy 8 (some .long), Cond.methodLink RX4 145 yX2_yearsCovered, Cond.instanceMethod yX2_yearsCovered, Cond.selects RX2 yX2_yearsCovered yX2_yearsCovered, Cond.code yX2_yearsCovered cX2_yearsCovered 3 (some .long), Cond.methodLink RX2 50 yX2_yearsOpen, Cond.methodLink RX2 54 yX2_yearsKept, Cond.methodLink RL 73 yX4_ways, Cond.instanceMethod yX4_ways, Cond.selects RX4 yX4_ways yX4_ways, Cond.code yX4_ways cX4_ways 5 (some .int), Cond.methodLink RX4 99 yX4_checkArticle, Cond.instanceMethod yX4_checkArticle, Cond.selects RX4 yX4_checkArticle yX4_checkArticle, Cond.code yX4_checkArticle cX4_checkArticle 4 none, Cond.methodLink RX4 34 yX4_checkRange]
def wsL_isNeedless_r5 : List Cond := [Cond.static yX4_checkRange, Cond.code yX4_checkRange cX4_checkRange 3 none, Cond.classLink RX4 156 "java/lang/IllegalArgumentException", Cond.initialized "java/lang/IllegalArgumentException", Cond.methodLink RX4 106 yX4_waysTo, Cond.instanceMethod yX4_waysTo, Cond.selects RX4 yX4_waysTo yX4_waysTo, Cond.code yX4_waysTo cX4_waysTo 7 (some .int), Cond.methodLink RX4 102 yX4_isWay, Cond.static yX4_isWay, Cond.code yX4_isWay cX4_isWay 5 (some .boolean), Cond.methodLink RX4 138 yX4_hasYear, Cond.static yX4_hasYear, Cond.code yX4_hasYear cX4_hasYear 3 (some .boolean), Cond.methodLink RX4 110 yJ6_bitCount_0f7a4, Cond.static yJ6_bitCount_0f7a4, Cond.initialized RJ6, Cond.code yJ6_bitCount_0f7a4 cJ6_bitCount_0f7a4 1 (some .int), Cond.constant RJ6 265 (1431655765), Cond.constant RJ6 266 (858993459), Cond.constant RJ6 267 (252645135), Cond.methodLink RL 34 yX4_subscribe, Cond.instanceMethod yX4_subscribe, Cond.selects RX4 yX4_subscribe yX4_subscribe]
def wsL_isNeedless_r6 : List Cond := [Cond.code yX4_subscribe cX4_subscribe 5 (some .boolean), Cond.fieldLink RX4 68 "LinkResolver$Pack" "subscription" "LLinkResolver$History;", Cond.constantLong RX4 78 (72057594037927935), Cond.methodLink RX4 72 yX1_isOnAt, Cond.instanceMethod yX1_isOnAt, Cond.selects RX1 yX1_isOnAt yX1_isOnAt, Cond.code yX1_isOnAt cX1_isOnAt 3 (some .boolean), Cond.methodLink RX4 80 yX4_change, Cond.instanceMethod yX4_change, Cond.selects RX4 yX4_change yX4_change, Cond.code yX4_change cX4_change 5 none, Cond.fieldLink RX4 28 "LinkResolver" "changeCount" "I", Cond.methodLink RX4 169 yX1_add, Cond.instanceMethod yX1_add, Cond.selects RX1 yX1_add yX1_add, Cond.code yX1_add cX1_add 5 none, Cond.classLink RX1 19 RX0, Cond.instantiable RX0 4, Cond.initialized RX0, Cond.methodLink RX1 21 yX0_init, Cond.instanceMethod yX0_init, Cond.code yX0_init cX0_init 6 none, Cond.methodLink RX0 1 objectInit, Cond.instanceMethod objectInit]
def wsL_isNeedless_r7 : List Cond := [Cond.code objectInit ⟨#[0xb1]⟩ 1 none, Cond.fieldLink RX0 7 "LinkResolver$Change" "day" "I", Cond.fieldLink RX0 13 "LinkResolver$Change" "years" "J", Cond.fieldLink RX0 17 "LinkResolver$Change" "wall" "I", Cond.fieldLink RX0 20 "LinkResolver$Change" "before" "LLinkResolver$Change;"]
def wsL_isNeedless : List Cond := .code yL_isNeedless cL_isNeedless 10 (some .boolean) :: ((wsL_isNeedless_r1 ++ (wsL_isNeedless_r2 ++ (wsL_isNeedless_r3 ++ (wsL_isNeedless_r4 ++ (wsL_isNeedless_r5 ++ (wsL_isNeedless_r6 ++ wsL_isNeedless_r7)))))) ++ wsX40 ++ wsX20 ++ wsX00 ++ wsX10 ++ wsX30 ++ (vx_atS RX4 127 "java/lang/IndexOutOfBoundsException" ["java/lang/RuntimeException", "java/lang/Exception"]).filter goodWord ++ (vx_atS RX2 40 "java/lang/IndexOutOfBoundsException" ["java/lang/RuntimeException", "java/lang/Exception"]).filter goodWord ++ (vx_atS RX4 160 "java/lang/IllegalArgumentException" ["java/lang/RuntimeException", "java/lang/Exception"]).filter goodWord)
def wsL_law0_r1 : List Cond := [Cond.classLink RL 11 RX4, Cond.instantiable RX4 6, Cond.initialized RX4, Cond.arrayClass .int, Cond.methodLink RL 94 yX4_init, Cond.instanceMethod yX4_init, Cond.code yX4_init cX4_init 1 none, Cond.methodLink RX4 3 objectInit, Cond.instanceMethod objectInit, Cond.code objectInit ⟨#[0xb1]⟩ 1 none, Cond.classLink RX4 9 RX3, Cond.fieldLink RX4 11 "LinkResolver" "titles" "[LLinkResolver$Title;", Cond.classLink RX4 15 RX2, Cond.fieldLink RX4 17 "LinkResolver" "packs" "[LLinkResolver$Pack;", Cond.fieldLink RX4 21 "LinkResolver" "titleCount" "I", Cond.fieldLink RX4 25 "LinkResolver" "packCount" "I", Cond.fieldLink RX4 28 "LinkResolver" "changeCount" "I", Cond.fieldLink RX4 31 "LinkResolver" "currentDay" "I", Cond.methodLink RL 46 yX4_today, Cond.instanceMethod yX4_today, Cond.selects RX4 yX4_today yX4_today, Cond.code yX4_today cX4_today 1 (some .int), Cond.methodLink RL 95 yL_draw, Cond.static yL_draw]
def wsL_law0_r2 : List Cond := [Cond.initialized RL, Cond.code yL_draw cL_draw 2 (some .int), Cond.constant RL 7 (2147483647), Cond.constant RL 8 (104729), Cond.constant RL 9 (65521), Cond.methodLink RL 99 yL_step, Cond.static yL_step, Cond.code yL_step cL_step 22 (some .boolean), Cond.methodLink RL 10 yX4_addPackage, Cond.instanceMethod yX4_addPackage, Cond.selects RX4 yX4_addPackage yX4_addPackage, Cond.code yX4_addPackage cX4_addPackage 6 (some .int), Cond.classLink RX4 38 "java/lang/IllegalStateException", Cond.initialized "java/lang/IllegalStateException", Cond.instantiable RX2 6, Cond.initialized RX2, Cond.methodLink RX4 34 yX4_checkRange, Cond.static yX4_checkRange, Cond.code yX4_checkRange cX4_checkRange 3 none, Cond.classLink RX4 156 "java/lang/IllegalArgumentException", Cond.initialized "java/lang/IllegalArgumentException", Cond.methodLink RX4 61 yX2_init, Cond.instanceMethod yX2_init, Cond.code yX2_init cX2_init 6 none]
def wsL_law0_r3 : List Cond := [Cond.methodLink RX2 3 objectInit, Cond.fieldLink RX2 9 "LinkResolver$Pack" "cost" "I", Cond.fieldLink RX2 15 "LinkResolver$Pack" "version" "I", Cond.fieldLink RX2 18 "LinkResolver$Pack" "groups" "I", Cond.fieldLink RX2 21 "LinkResolver$Pack" "isKeeping" "Z", Cond.classLink RX2 25 RX1, Cond.instantiable RX1 2, Cond.initialized RX1, Cond.fieldLink RX2 28 "LinkResolver$Pack" "subscription" "LLinkResolver$History;", Cond.fieldLink RX2 32 "LinkResolver$Pack" "stays" "[LLinkResolver$History;", Cond.methodLink RX2 27 yX1_init, Cond.instanceMethod yX1_init, Cond.code yX1_init cX1_init 1 none, Cond.methodLink RX1 3 objectInit, Cond.fieldLink RX1 9 "LinkResolver$History" "newest" "LLinkResolver$Change;", Cond.fieldLink RX1 15 "LinkResolver$History" "breaks" "I", Cond.methodLink RL 16 yX4_isSubscribed, Cond.instanceMethod yX4_isSubscribed, Cond.selects RX4 yX4_isSubscribed yX4_isSubscribed, Cond.code yX4_isSubscribed cX4_isSubscribed 4 (some .boolean), Cond.fieldLink RX4 68 "LinkResolver$Pack" "subscription" "LLinkResolver$History;", Cond.methodLink RX4 64 yX4_existingPack, Cond.instanceMethod yX4_existingPack, Cond.selects RX4 yX4_existingPack yX4_existingPack]
def wsL_law0_r4 : List Cond := [Cond.code yX4_existingPack cX4_existingPack 2 (some (.object "LinkResolver$Pack")), Cond.classLink RX4 123 "java/lang/IndexOutOfBoundsException", Cond.initialized "java/lang/IndexOutOfBoundsException", Cond.methodLink RX4 72 yX1_isOnAt, Cond.instanceMethod yX1_isOnAt, Cond.selects RX1 yX1_isOnAt yX1_isOnAt, Cond.code yX1_isOnAt cX1_isOnAt 3 (some .boolean), Cond.fieldLink RX1 34 "LinkResolver$Change" "years" "J", Cond.methodLink RX1 30 yX1_changeAt, Cond.instanceMethod yX1_changeAt, Cond.selects RX1 yX1_changeAt yX1_changeAt, Cond.code yX1_changeAt cX1_changeAt 3 (some (.object "LinkResolver$Change")), Cond.fieldLink RX1 24 "LinkResolver$Change" "day" "I", Cond.fieldLink RX1 27 "LinkResolver$Change" "before" "LLinkResolver$Change;", Cond.methodLink RL 20 yX4_addTitle, Cond.instanceMethod yX4_addTitle, Cond.selects RX4 yX4_addTitle yX4_addTitle, Cond.code yX4_addTitle cX4_addTitle 4 (some .int), Cond.instantiable RX3 2, Cond.initialized RX3, Cond.methodLink RX4 45 yX3_init, Cond.instanceMethod yX3_init, Cond.code yX3_init cX3_init 3 none, Cond.methodLink RX3 1 objectInit]
def wsL_law0_r5 : List Cond := [Cond.fieldLink RX3 7 "LinkResolver$Title" "firstYear" "I", Cond.fieldLink RX3 13 "LinkResolver$Title" "volumes" "I", Cond.methodLink RL 24 yX4_volumeOf, Cond.instanceMethod yX4_volumeOf, Cond.selects RX4 yX4_volumeOf yX4_volumeOf, Cond.code yX4_volumeOf cX4_volumeOf 4 (some .int), Cond.fieldLink RX4 56 "LinkResolver$Title" "firstYear" "I", Cond.methodLink RX4 48 yX4_existingTitle, Cond.instanceMethod yX4_existingTitle, Cond.selects RX4 yX4_existingTitle yX4_existingTitle, Cond.code yX4_existingTitle cX4_existingTitle 2 (some (.object "LinkResolver$Title")), Cond.methodLink RX4 52 yX3_firstVolume, Cond.instanceMethod yX3_firstVolume, Cond.selects RX3 yX3_firstVolume yX3_firstVolume, Cond.code yX3_firstVolume cX3_firstVolume 2 (some .int), Cond.methodLink RL 27 yX4_yearOf, Cond.instanceMethod yX4_yearOf, Cond.selects RX4 yX4_yearOf yX4_yearOf, Cond.code yX4_yearOf cX4_yearOf 5 (some .int), Cond.methodLink RL 30 yX4_isIn, Cond.instanceMethod yX4_isIn, Cond.selects RX4 yX4_isIn yX4_isIn, Cond.code yX4_isIn cX4_isIn 5 (some .boolean), Cond.methodLink RX4 84 yX4_existingStay]
def wsL_law0_r6 : List Cond := [Cond.instanceMethod yX4_existingStay, Cond.selects RX4 yX4_existingStay yX4_existingStay, Cond.code yX4_existingStay cX4_existingStay 4 (some (.object "LinkResolver$History")), Cond.methodLink RX4 165 yX2_stayOf, Cond.instanceMethod yX2_stayOf, Cond.selects RX2 yX2_stayOf yX2_stayOf, Cond.code yX2_stayOf cX2_stayOf 2 (some (.object "LinkResolver$History")), Cond.classLink RX2 36 "java/lang/IndexOutOfBoundsException", Cond.methodLink RL 34 yX4_subscribe, Cond.instanceMethod yX4_subscribe, Cond.selects RX4 yX4_subscribe yX4_subscribe, Cond.code yX4_subscribe cX4_subscribe 5 (some .boolean), Cond.constantLong RX4 78 (72057594037927935), Cond.methodLink RX4 80 yX4_change, Cond.instanceMethod yX4_change, Cond.selects RX4 yX4_change yX4_change, Cond.code yX4_change cX4_change 5 none, Cond.methodLink RX4 169 yX1_add, Cond.instanceMethod yX1_add, Cond.selects RX1 yX1_add yX1_add, Cond.code yX1_add cX1_add 5 none, Cond.classLink RX1 19 RX0, Cond.instantiable RX0 4, Cond.initialized RX0]
def wsL_law0_r7 : List Cond := [Cond.methodLink RX1 21 yX0_init, Cond.instanceMethod yX0_init, Cond.code yX0_init cX0_init 6 none, Cond.methodLink RX0 1 objectInit, Cond.fieldLink RX0 7 "LinkResolver$Change" "day" "I", Cond.fieldLink RX0 13 "LinkResolver$Change" "years" "J", Cond.fieldLink RX0 17 "LinkResolver$Change" "wall" "I", Cond.fieldLink RX0 20 "LinkResolver$Change" "before" "LLinkResolver$Change;", Cond.methodLink RL 38 yX4_come, Cond.instanceMethod yX4_come, Cond.selects RX4 yX4_come yX4_come, Cond.code yX4_come cX4_come 8 (some .boolean), Cond.methodLink RX4 88 yX4_yearsBetween, Cond.static yX4_yearsBetween, Cond.code yX4_yearsBetween cX4_yearsBetween 2 (some .long), Cond.methodLink RL 42 yX4_go, Cond.instanceMethod yX4_go, Cond.selects RX4 yX4_go yX4_go, Cond.code yX4_go cX4_go 4 none, Cond.methodLink RL 50 yX4_pass, Cond.instanceMethod yX4_pass, Cond.selects RX4 yX4_pass yX4_pass, Cond.code yX4_pass cX4_pass 2 (some .int), Cond.methodLink RL 54 yX4_report]
def wsL_law0_r8 : List Cond := [Cond.instanceMethod yX4_report, Cond.selects RX4 yX4_report yX4_report, Cond.code yX4_report cX4_report 4 (some .int), Cond.fieldLink RX4 96 "LinkResolver$History" "breaks" "I", Cond.methodLink RL 57 yX4_mend, Cond.instanceMethod yX4_mend, Cond.selects RX4 yX4_mend yX4_mend, Cond.code yX4_mend cX4_mend 5 (some .int), Cond.methodLink RL 60 yL_volumes, Cond.static yL_volumes, Cond.code yL_volumes cL_volumes 5 (some .boolean), Cond.methodLink RL 103 yL_areWays, Cond.static yL_areWays, Cond.code yL_areWays cL_areWays 12 (some .boolean), Cond.methodLink RL 66 yX4_covers, Cond.instanceMethod yX4_covers, Cond.selects RX4 yX4_covers yX4_covers, Cond.code yX4_covers cX4_covers 7 (some .boolean), Cond.methodLink RX4 99 yX4_checkArticle, Cond.instanceMethod yX4_checkArticle, Cond.selects RX4 yX4_checkArticle yX4_checkArticle, Cond.code yX4_checkArticle cX4_checkArticle 4 none, Cond.methodLink RX4 102 yX4_isWay, Cond.static yX4_isWay]
def wsL_law0_r9 : List Cond := [Cond.code yX4_isWay cX4_isWay 5 (some .boolean), Cond.methodLink RX4 142 yX2_letsIn, Cond.instanceMethod yX2_letsIn, Cond.selects RX2 yX2_letsIn yX2_letsIn, Cond.code yX2_letsIn cX2_letsIn 2 (some .boolean), Cond.methodLink RX4 145 yX2_yearsCovered, Cond.instanceMethod yX2_yearsCovered, Cond.selects RX2 yX2_yearsCovered yX2_yearsCovered, Cond.code yX2_yearsCovered cX2_yearsCovered 3 (some .long), Cond.methodLink RX2 50 yX2_yearsOpen, Cond.instanceMethod yX2_yearsOpen, Cond.selects RX2 yX2_yearsOpen yX2_yearsOpen, Cond.code yX2_yearsOpen cX2_yearsOpen 3 (some .long), Cond.methodLink RX2 43 yX2_stayOf, Cond.methodLink RX2 57 yX1_yearsOpen, Cond.instanceMethod yX1_yearsOpen, Cond.selects RX1 yX1_yearsOpen yX1_yearsOpen, Cond.code yX1_yearsOpen cX1_yearsOpen 3 (some .long), Cond.fieldLink RX1 38 "LinkResolver$Change" "wall" "I", Cond.methodLink RX2 54 yX2_yearsKept, Cond.instanceMethod yX2_yearsKept, Cond.selects RX2 yX2_yearsKept yX2_yearsKept, Cond.code yX2_yearsKept cX2_yearsKept 5 (some .long), Cond.methodLink RX2 60 yX1_yearsKept]
def wsL_law0_r10 : List Cond := [Cond.instanceMethod yX1_yearsKept, Cond.selects RX1 yX1_yearsKept yX1_yearsKept, Cond.code yX1_yearsKept cX1_yearsKept 10 (some .long), Cond.methodLink RX1 45 Lib.Math.min.name, Cond.static Lib.Math.min.name, Cond.initialized "java/lang/Math", Cond.code Lib.Math.min.name Lib.Math.min.code 2 (some .int), Cond.methodLink RX4 138 yX4_hasYear, Cond.static yX4_hasYear, Cond.code yX4_hasYear cX4_hasYear 3 (some .boolean), Cond.methodLink RL 70 yL_covers, Cond.static yL_covers, Cond.code yL_covers cL_covers 12 (some .boolean), Cond.methodLink RL 73 yX4_ways, Cond.instanceMethod yX4_ways, Cond.selects RX4 yX4_ways yX4_ways, Cond.code yX4_ways cX4_ways 5 (some .int), Cond.methodLink RX4 106 yX4_waysTo, Cond.instanceMethod yX4_waysTo, Cond.selects RX4 yX4_waysTo yX4_waysTo, Cond.code yX4_waysTo cX4_waysTo 7 (some .int), Cond.methodLink RX4 110 yJ6_bitCount_0f7a4, Cond.static yJ6_bitCount_0f7a4, Cond.initialized RJ6]
def wsL_law0_r11 : List Cond := [Cond.code yJ6_bitCount_0f7a4 cJ6_bitCount_0f7a4 1 (some .int), Cond.constant RJ6 265 (1431655765), Cond.constant RJ6 266 (858993459), Cond.constant RJ6 267 (252645135), Cond.methodLink RL 76 yX4_wayAt, Cond.instanceMethod yX4_wayAt, Cond.selects RX4 yX4_wayAt yX4_wayAt, Cond.code yX4_wayAt cX4_wayAt 8 (some .int), Cond.methodLink RX4 115 yX4_isAmong, Cond.static yX4_isAmong, Cond.code yX4_isAmong cX4_isAmong 2 (some .boolean), Cond.methodLink RX4 119 yX4_placeAmong, Cond.instanceMethod yX4_placeAmong, Cond.selects RX4 yX4_placeAmong yX4_placeAmong, Cond.code yX4_placeAmong cX4_placeAmong 6 (some .int), Cond.methodLink RX4 173 yX4_isAhead, Cond.instanceMethod yX4_isAhead, Cond.selects RX4 yX4_isAhead yX4_isAhead, Cond.code yX4_isAhead cX4_isAhead 7 (some .boolean), Cond.fieldLink RX4 180 "LinkResolver$Pack" "cost" "I", Cond.fieldLink RX4 183 "LinkResolver$Pack" "version" "I", Cond.methodLink RX4 177 yX2_isBroken, Cond.instanceMethod yX2_isBroken, Cond.selects RX2 yX2_isBroken yX2_isBroken]
def wsL_law0_r12 : List Cond := [Cond.code yX2_isBroken cX2_isBroken 2 (some .boolean), Cond.fieldLink RX2 47 "LinkResolver$History" "breaks" "I", Cond.methodLink RL 80 yL_isAhead, Cond.static yL_isAhead, Cond.code yL_isAhead cL_isAhead 7 (some .boolean), Cond.constant RL 69 (1000000), Cond.methodLink RL 107 yL_areGaps, Cond.static yL_areGaps, Cond.code yL_areGaps cL_areGaps 8 (some .boolean), Cond.methodLink RL 84 yX4_gap, Cond.instanceMethod yX4_gap, Cond.selects RX4 yX4_gap yX4_gap, Cond.code yX4_gap cX4_gap 7 (some .int), Cond.constantLong RX4 136 (-1), Cond.methodLink RX4 128 yX4_yearsSoFar, Cond.instanceMethod yX4_yearsSoFar, Cond.selects RX4 yX4_yearsSoFar yX4_yearsSoFar, Cond.code yX4_yearsSoFar cX4_yearsSoFar 2 (some .long), Cond.methodLink RX4 132 yX4_yearsCoveredButBy, Cond.instanceMethod yX4_yearsCoveredButBy, Cond.selects RX4 yX4_yearsCoveredButBy yX4_yearsCoveredButBy, Cond.code yX4_yearsCoveredButBy cX4_yearsCoveredButBy 8 (some .long), Cond.methodLink RL 87 yX4_doubles, Cond.instanceMethod yX4_doubles]
def wsL_law0_r13 : List Cond := [Cond.selects RX4 yX4_doubles yX4_doubles, Cond.code yX4_doubles cX4_doubles 12 (some .int), Cond.methodLink RX4 148 yJ13_bitCount_95d88, Cond.static yJ13_bitCount_95d88, Cond.initialized RJ13, Cond.code yJ13_bitCount_95d88 cJ13_bitCount_95d88 2 (some .int), Cond.constantLong RJ13 314 (6148914691236517205), Cond.constantLong RJ13 316 (3689348814741910323), Cond.constantLong RJ13 318 (1085102592571150095), Cond.methodLink RL 110 yL_isNeedless, Cond.static yL_isNeedless, Cond.code yL_isNeedless cL_isNeedless 10 (some .boolean), Cond.methodLink RL 90 yX4_isNeedless, Cond.instanceMethod yX4_isNeedless, Cond.selects RX4 yX4_isNeedless yX4_isNeedless, Cond.code yX4_isNeedless cX4_isNeedless 3 (some .boolean), Cond.methodLink RX4 153 yX4_isLostWithout, Cond.instanceMethod yX4_isLostWithout, Cond.selects RX4 yX4_isLostWithout yX4_isLostWithout, Cond.code yX4_isLostWithout cX4_isLostWithout 7 (some .boolean), Cond.methodLink RX4 186 yX2_yearsOpen, Cond.methodLink RX4 189 yX2_yearsKept]
def wsL_law0 : List Cond := (wsL_law0_r1 ++ (wsL_law0_r2 ++ (wsL_law0_r3 ++ (wsL_law0_r4 ++ (wsL_law0_r5 ++ (wsL_law0_r6 ++ (wsL_law0_r7 ++ (wsL_law0_r8 ++ (wsL_law0_r9 ++ (wsL_law0_r10 ++ (wsL_law0_r11 ++ (wsL_law0_r12 ++ wsL_law0_r13)))))))))))) ++ wsX40 ++ wsX20 ++ wsX10 ++ wsX00 ++ wsX30 ++ ([] : List Cond)
def wsL_law : List Cond := wsL_law0 ++ (vx_atS RX4 42 "java/lang/IllegalStateException" ["java/lang/RuntimeException", "java/lang/Exception"]).filter goodWord ++ (vx_atS RX4 160 "java/lang/IllegalArgumentException" ["java/lang/RuntimeException", "java/lang/Exception"]).filter goodWord ++ (vx_atS RX4 127 "java/lang/IndexOutOfBoundsException" ["java/lang/RuntimeException", "java/lang/Exception"]).filter goodWord ++ (vx_atS RX2 40 "java/lang/IndexOutOfBoundsException" ["java/lang/RuntimeException", "java/lang/Exception"]).filter goodWord
end
section
set_option maxRecDepth 20000 in
theorem zin_app {a b big : List Cond} (ha : ∀ w ∈ a, w ∈ big) (hb : ∀ w ∈ b, w ∈ big) : ∀ w ∈ a ++ b, w ∈ big := fun w h => (List.mem_append.mp h).elim (ha w) (hb w)
set_option maxRecDepth 20000 in
theorem zin_r1 : ∀ w ∈ wsL_law0_r1, w ∈ lw_tbl := fun w h => (goodIn_r (big := lw_tbl) _ [27, 28, 13, 477, 29, 30, 31, 32, 33, 34, 35, 39, 37, 40, 41, 42, 43, 44, 58, 59, 60, 61, 62, 63] (by decide +kernel) (by decide +kernel) w h).1
set_option maxRecDepth 20000 in
theorem zin_r2a : ∀ w ∈ [Cond.initialized RL, Cond.code yL_draw cL_draw 2 (some .int), Cond.constant RL 7 (2147483647), Cond.constant RL 8 (104729), Cond.constant RL 9 (65521), Cond.methodLink RL 99 yL_step, Cond.static yL_step], w ∈ lw_tbl := (fun w h => (goodIn_r (big := lw_tbl) _ [12, 64, 65, 66, 67, 68, 69] (by decide +kernel) (by decide +kernel) w h).1)
set_option maxRecDepth 20000 in
theorem zin_r2b : Cond.code yL_step cL_step 22 (some .boolean) ∈ lw_tbl := List.mem_of_getElem? (i := 70) rfl
set_option maxRecDepth 20000 in
theorem zin_r2c : ∀ w ∈ [Cond.methodLink RL 10 yX4_addPackage, Cond.instanceMethod yX4_addPackage, Cond.selects RX4 yX4_addPackage yX4_addPackage, Cond.code yX4_addPackage cX4_addPackage 6 (some .int), Cond.classLink RX4 38 "java/lang/IllegalStateException", Cond.initialized "java/lang/IllegalStateException", Cond.instantiable RX2 6, Cond.initialized RX2, Cond.methodLink RX4 34 yX4_checkRange, Cond.static yX4_checkRange, Cond.code yX4_checkRange cX4_checkRange 3 none, Cond.classLink RX4 156 "java/lang/IllegalArgumentException", Cond.initialized "java/lang/IllegalArgumentException", Cond.methodLink RX4 61 yX2_init, Cond.instanceMethod yX2_init, Cond.code yX2_init cX2_init 6 none], w ∈ lw_tbl := (fun w h => (goodIn_r (big := lw_tbl) _ [71, 72, 73, 74, 146, 18, 162, 19, 75, 76, 77, 78, 17, 163, 164, 165] (by decide +kernel) (by decide +kernel) w h).1)
set_option maxRecDepth 20000 in
theorem zin_r2 : ∀ w ∈ wsL_law0_r2, w ∈ lw_tbl := zin_app zin_r2a (List.forall_mem_cons.mpr ⟨zin_r2b, zin_r2c⟩)
set_option maxRecDepth 20000 in
theorem zin_r3 : ∀ w ∈ wsL_law0_r3, w ∈ lw_tbl := fun w h => (goodIn_r (big := lw_tbl) _ [166, 183, 185, 187, 188, 167, 168, 20, 189, 191, 169, 170, 171, 172, 173, 174, 205, 206, 207, 208, 190, 209, 211, 1] (by decide +kernel) (by decide +kernel) w h).1
set_option maxRecDepth 20000 in
theorem zin_r4 : ∀ w ∈ wsL_law0_r4, w ∈ lw_tbl := fun w h => (goodIn_r (big := lw_tbl) _ [212, 213, 21, 229, 230, 231, 232, 309, 233, 234, 235, 236, 307, 313, 237, 238, 239, 240, 242, 22, 243, 244, 245, 246] (by decide +kernel) (by decide +kernel) w h).1
set_option maxRecDepth 20000 in
theorem zin_r5 : ∀ w ∈ wsL_law0_r5, w ∈ lw_tbl := fun w h => (goodIn_r (big := lw_tbl) _ [247, 249, 255, 256, 257, 258, 248, 259, 261, 2, 262, 264, 265, 266, 267, 268, 269, 270, 271, 272, 273, 274, 275, 276] (by decide +kernel) (by decide +kernel) w h).1
set_option maxRecDepth 20000 in
theorem zin_r6 : ∀ w ∈ wsL_law0_r6, w ∈ lw_tbl := fun w h => (goodIn_r (big := lw_tbl) _ [278, 3, 279, 280, 281, 282, 283, 284, 287, 288, 289, 290, 291, 292, 294, 4, 295, 296, 297, 298, 299, 300, 301, 23] (by decide +kernel) (by decide +kernel) w h).1
set_option maxRecDepth 20000 in
theorem zin_r7 : ∀ w ∈ wsL_law0_r7, w ∈ lw_tbl := fun w h => (goodIn_r (big := lw_tbl) _ [302, 303, 304, 305, 306, 308, 310, 312, 323, 324, 325, 326, 327, 328, 329, 330, 331, 332, 333, 335, 336, 337, 338, 340] (by decide +kernel) (by decide +kernel) w h).1
set_option maxRecDepth 20000 in
theorem zin_r8 : ∀ w ∈ wsL_law0_r8, w ∈ lw_tbl := fun w h => (goodIn_r (big := lw_tbl) _ [341, 342, 343, 176, 344, 345, 346, 347, 348, 349, 350, 351, 352, 353, 354, 355, 356, 357, 358, 360, 5, 361, 362, 363] (by decide +kernel) (by decide +kernel) w h).1
set_option maxRecDepth 20000 in
theorem zin_r9 : ∀ w ∈ wsL_law0_r9, w ∈ lw_tbl := fun w h => (goodIn_r (big := lw_tbl) _ [364, 365, 366, 367, 368, 369, 370, 371, 372, 373, 374, 375, 376, 377, 378, 379, 380, 381, 311, 383, 384, 385, 386, 387] (by decide +kernel) (by decide +kernel) w h).1
set_option maxRecDepth 20000 in
theorem zin_r10 : ∀ w ∈ wsL_law0_r10, w ∈ lw_tbl := fun w h => (goodIn_r (big := lw_tbl) _ [388, 389, 390, 391, 392, 24, 393, 394, 395, 396, 397, 398, 399, 400, 401, 402, 403, 404, 406, 6, 407, 408, 409, 25] (by decide +kernel) (by decide +kernel) w h).1
set_option maxRecDepth 20000 in
theorem zin_r11 : ∀ w ∈ wsL_law0_r11, w ∈ lw_tbl := fun w h => (goodIn_r (big := lw_tbl) _ [410, 411, 412, 413, 414, 415, 416, 417, 418, 419, 420, 421, 423, 7, 424, 425, 427, 8, 428, 184, 186, 429, 430, 431] (by decide +kernel) (by decide +kernel) w h).1
set_option maxRecDepth 20000 in
theorem zin_r12 : ∀ w ∈ wsL_law0_r12, w ∈ lw_tbl := fun w h => (goodIn_r (big := lw_tbl) _ [432, 175, 434, 435, 436, 437, 438, 439, 440, 441, 442, 443, 444, 453, 445, 447, 9, 448, 449, 451, 10, 452, 454, 455] (by decide +kernel) (by decide +kernel) w h).1
set_option maxRecDepth 20000 in
theorem zin_r13 : ∀ w ∈ wsL_law0_r13, w ∈ lw_tbl := fun w h => (goodIn_r (big := lw_tbl) _ [456, 457, 458, 459, 26, 460, 461, 462, 463, 464, 465, 466, 467, 468, 469, 470, 471, 473, 11, 474, 475, 476] (by decide +kernel) (by decide +kernel) w h).1
set_option maxRecDepth 20000 in
theorem zin_wX0 : ∀ w ∈ wsX00, w ∈ lw_tbl := fun w h => (goodIn_r (big := lw_tbl) _ [314, 316, 318, 320] (by decide +kernel) (by decide +kernel) w h).1
set_option maxRecDepth 20000 in
theorem zin_wX1 : ∀ w ∈ wsX10, w ∈ lw_tbl := fun w h => (goodIn_r (big := lw_tbl) _ [177, 179] (by decide +kernel) (by decide +kernel) w h).1
set_option maxRecDepth 20000 in
theorem zin_wX2 : ∀ w ∈ wsX20, w ∈ lw_tbl := fun w h => (goodIn_r (big := lw_tbl) _ [192, 194, 196, 198, 200, 202] (by decide +kernel) (by decide +kernel) w h).1
set_option maxRecDepth 20000 in
theorem zin_wX3 : ∀ w ∈ wsX30, w ∈ lw_tbl := fun w h => (goodIn_r (big := lw_tbl) _ [250, 252] (by decide +kernel) (by decide +kernel) w h).1
set_option maxRecDepth 20000 in
theorem zin_wX4 : ∀ w ∈ wsX40, w ∈ lw_tbl := fun w h => (goodIn_r (big := lw_tbl) _ [45, 47, 49, 51, 53, 55] (by decide +kernel) (by decide +kernel) w h).1
set_option maxRecDepth 20000 in
theorem wsL_law_in0 : ∀ w ∈ wsL_law0, w ∈ lw_tbl := (zin_app (zin_app (zin_app (zin_app (zin_app (zin_app (zin_app zin_r1 (zin_app zin_r2 (zin_app zin_r3 (zin_app zin_r4 (zin_app zin_r5 (zin_app zin_r6 (zin_app zin_r7 (zin_app zin_r8 (zin_app zin_r9 (zin_app zin_r10 (zin_app zin_r11 (zin_app zin_r12 zin_r13)))))))))))) zin_wX4) zin_wX2) zin_wX1) zin_wX0) zin_wX3) (fun _ h => absurd h List.not_mem_nil))
set_option maxRecDepth 20000 in
theorem goodIn_c7 {big a : List Cond} {c : Cond} (hm : c ∈ big) (hg : goodWord c = true) (ha : GoodIn big a) : GoodIn big (c :: a) := fun w h => (List.mem_cons.mp h).elim (fun e => by rw [e]; exact ⟨hm, good_of_word hg⟩) (ha w)
theorem wsL_law_x0 : ∀ w ∈ (vx_atS RX4 42 "java/lang/IllegalStateException" ["java/lang/RuntimeException", "java/lang/Exception"]).filter goodWord, w ∈ lw_tbl := by decide +kernel
theorem wsL_law_x1 : ∀ w ∈ (vx_atS RX4 160 "java/lang/IllegalArgumentException" ["java/lang/RuntimeException", "java/lang/Exception"]).filter goodWord, w ∈ lw_tbl := by decide +kernel
theorem wsL_law_x2 : ∀ w ∈ (vx_atS RX4 127 "java/lang/IndexOutOfBoundsException" ["java/lang/RuntimeException", "java/lang/Exception"]).filter goodWord, w ∈ lw_tbl := by decide +kernel
theorem wsL_law_x3 : ∀ w ∈ (vx_atS RX2 40 "java/lang/IndexOutOfBoundsException" ["java/lang/RuntimeException", "java/lang/Exception"]).filter goodWord, w ∈ lw_tbl := by decide +kernel
theorem wsL_law_in : ∀ w ∈ wsL_law, w ∈ lw_tbl := fun w h => (List.mem_append.mp h).elim (fun h => (List.mem_append.mp h).elim (fun h => (List.mem_append.mp h).elim (fun h => (List.mem_append.mp h).elim (fun h => wsL_law_in0 w h) (fun h => wsL_law_x0 w h)) (fun h => wsL_law_x1 w h)) (fun h => wsL_law_x2 w h)) (fun h => wsL_law_x3 w h)
theorem inlX0 : ∀ w ∈ wsX00, w ∈ wsL_law := fun _ h => List.mem_append_left _ (List.mem_append_left _ (List.mem_append_left _ (List.mem_append_left _ (List.mem_append_left _ (List.mem_append_left _ (List.mem_append_right _ h))))))
theorem inX0 : ∀ w ∈ wsX00, w ∈ lw_tbl := fun w h => wsL_law_in w (inlX0 w h)
theorem inlX1 : ∀ w ∈ wsX10, w ∈ wsL_law := fun _ h => List.mem_append_left _ (List.mem_append_left _ (List.mem_append_left _ (List.mem_append_left _ (List.mem_append_left _ (List.mem_append_left _ (List.mem_append_left _ (List.mem_append_right _ h)))))))
theorem inX1 : ∀ w ∈ wsX10, w ∈ lw_tbl := fun w h => wsL_law_in w (inlX1 w h)
theorem inlX2 : ∀ w ∈ wsX20, w ∈ wsL_law := fun _ h => List.mem_append_left _ (List.mem_append_left _ (List.mem_append_left _ (List.mem_append_left _ (List.mem_append_left _ (List.mem_append_left _ (List.mem_append_left _ (List.mem_append_left _ (List.mem_append_right _ h))))))))
theorem inX2 : ∀ w ∈ wsX20, w ∈ lw_tbl := fun w h => wsL_law_in w (inlX2 w h)
theorem inlX3 : ∀ w ∈ wsX30, w ∈ wsL_law := fun _ h => List.mem_append_left _ (List.mem_append_left _ (List.mem_append_left _ (List.mem_append_left _ (List.mem_append_left _ (List.mem_append_right _ h)))))
theorem inX3 : ∀ w ∈ wsX30, w ∈ lw_tbl := fun w h => wsL_law_in w (inlX3 w h)
theorem inlX4 : ∀ w ∈ wsX40, w ∈ wsL_law := fun _ h => List.mem_append_left _ (List.mem_append_left _ (List.mem_append_left _ (List.mem_append_left _ (List.mem_append_left _ (List.mem_append_left _ (List.mem_append_left _ (List.mem_append_left _ (List.mem_append_left _ (List.mem_append_right _ h)))))))))
theorem inX4 : ∀ w ∈ wsX40, w ∈ lw_tbl := fun w h => wsL_law_in w (inlX4 w h)
theorem inX5 : ∀ w ∈ wsX50, w ∈ lw_tbl := by decide +kernel
theorem inJ6 : ∀ w ∈ wsJ60, w ∈ lw_tbl := by decide +kernel
theorem inJ13 : ∀ w ∈ wsJ130, w ∈ lw_tbl := by decide +kernel
theorem inJ9 : ∀ w ∈ wsJ90, w ∈ lw_tbl := by decide +kernel
theorem inJ0 : ∀ w ∈ wsJ00, w ∈ lw_tbl := by decide +kernel
theorem dX0_init_0 : decode cX0_init 0 = .ok (.aload_n 0, 1) := by decide +kernel
theorem dX0_init_1 : decode cX0_init 1 = .ok (.invokespecial 1, 3) := by decide +kernel
theorem dX0_init_4 : decode cX0_init 4 = .ok (.aload_n 0, 1) := by decide +kernel
theorem dX0_init_5 : decode cX0_init 5 = .ok (.iload_n 1, 1) := by decide +kernel
theorem dX0_init_6 : decode cX0_init 6 = .ok (.putfield 7, 3) := by decide +kernel
theorem dX0_init_9 : decode cX0_init 9 = .ok (.aload_n 0, 1) := by decide +kernel
theorem dX0_init_10 : decode cX0_init 10 = .ok (.lload_n 2, 1) := by decide +kernel
theorem dX0_init_11 : decode cX0_init 11 = .ok (.putfield 13, 3) := by decide +kernel
theorem dX0_init_14 : decode cX0_init 14 = .ok (.aload_n 0, 1) := by decide +kernel
theorem dX0_init_15 : decode cX0_init 15 = .ok (.iload 4, 2) := by decide +kernel
theorem dX0_init_17 : decode cX0_init 17 = .ok (.putfield 17, 3) := by decide +kernel
theorem dX0_init_20 : decode cX0_init 20 = .ok (.aload_n 0, 1) := by decide +kernel
theorem dX0_init_21 : decode cX0_init 21 = .ok (.aload 5, 2) := by decide +kernel
theorem dX0_init_23 : decode cX0_init 23 = .ok (.putfield 20, 3) := by decide +kernel
theorem dX0_init_26 : decode cX0_init 26 = .ok (.return_, 1) := by decide +kernel
theorem dX1_init_0 : decode cX1_init 0 = .ok (.aload_n 0, 1) := by decide +kernel
theorem dX1_init_1 : decode cX1_init 1 = .ok (.invokespecial 3, 3) := by decide +kernel
theorem dX1_init_4 : decode cX1_init 4 = .ok (.aload_n 0, 1) := by decide +kernel
theorem dX1_init_5 : decode cX1_init 5 = .ok (.aconst_null, 1) := by decide +kernel
theorem dX1_init_6 : decode cX1_init 6 = .ok (.putfield 9, 3) := by decide +kernel
theorem dX1_init_9 : decode cX1_init 9 = .ok (.aload_n 0, 1) := by decide +kernel
theorem dX1_init_10 : decode cX1_init 10 = .ok (.iconst 0, 1) := by decide +kernel
theorem dX1_init_11 : decode cX1_init 11 = .ok (.putfield 15, 3) := by decide +kernel
theorem dX1_init_14 : decode cX1_init 14 = .ok (.return_, 1) := by decide +kernel
set_option maxRecDepth 20000 in
theorem ggX1_add_X0_init : GoodIn wsX1_add wsX0_init := goodIn_r _ [7, 8, 9, 10, 11, 12, 13, 14, 15, 16, 17, 18] (by decide +kernel) (by decide +kernel)
set_option maxRecDepth 20000 in
theorem gX1_add_X0_init : GoodIn wsX1_add (wsX0_init) := ggX1_add_X0_init
theorem dX1_add_0 : decode cX1_add 0 = .ok (.aload_n 0, 1) := by decide +kernel
theorem dX1_add_1 : decode cX1_add 1 = .ok (.new 19, 3) := by decide +kernel
theorem dX1_add_4 : decode cX1_add 4 = .ok (.dup, 1) := by decide +kernel
theorem dX1_add_5 : decode cX1_add 5 = .ok (.iload_n 1, 1) := by decide +kernel
theorem dX1_add_6 : decode cX1_add 6 = .ok (.lload_n 2, 1) := by decide +kernel
theorem dX1_add_7 : decode cX1_add 7 = .ok (.iload 4, 2) := by decide +kernel
theorem dX1_add_9 : decode cX1_add 9 = .ok (.aload_n 0, 1) := by decide +kernel
theorem dX1_add_10 : decode cX1_add 10 = .ok (.getfield 9, 3) := by decide +kernel
theorem dX1_add_13 : decode cX1_add 13 = .ok (.invokespecial 21, 3) := by decide +kernel
theorem dX1_add_16 : decode cX1_add 16 = .ok (.putfield 9, 3) := by decide +kernel
theorem dX1_add_19 : decode cX1_add 19 = .ok (.return_, 1) := by decide +kernel
theorem dX1_changeAt_0 : decode cX1_changeAt 0 = .ok (.aload_n 0, 1) := by decide +kernel
theorem dX1_changeAt_1 : decode cX1_changeAt 1 = .ok (.getfield 9, 3) := by decide +kernel
theorem dX1_changeAt_4 : decode cX1_changeAt 4 = .ok (.astore_n 2, 1) := by decide +kernel
theorem dX1_changeAt_5 : decode cX1_changeAt 5 = .ok (.aload_n 2, 1) := by decide +kernel
theorem dX1_changeAt_6 : decode cX1_changeAt 6 = .ok (.ifnull 19, 3) := by decide +kernel
theorem dX1_changeAt_9 : decode cX1_changeAt 9 = .ok (.aload_n 2, 1) := by decide +kernel
theorem dX1_changeAt_10 : decode cX1_changeAt 10 = .ok (.getfield 24, 3) := by decide +kernel
theorem dX1_changeAt_13 : decode cX1_changeAt 13 = .ok (.iload_n 1, 1) := by decide +kernel
theorem dX1_changeAt_14 : decode cX1_changeAt 14 = .ok (.if_icmp .le 11, 3) := by decide +kernel
theorem dX1_changeAt_17 : decode cX1_changeAt 17 = .ok (.aload_n 2, 1) := by decide +kernel
theorem dX1_changeAt_18 : decode cX1_changeAt 18 = .ok (.getfield 27, 3) := by decide +kernel
theorem dX1_changeAt_21 : decode cX1_changeAt 21 = .ok (.astore_n 2, 1) := by decide +kernel
theorem dX1_changeAt_22 : decode cX1_changeAt 22 = .ok (.goto (-17), 3) := by decide +kernel
theorem dX1_changeAt_25 : decode cX1_changeAt 25 = .ok (.aload_n 2, 1) := by decide +kernel
theorem dX1_changeAt_26 : decode cX1_changeAt 26 = .ok (.areturn, 1) := by decide +kernel
set_option maxRecDepth 20000 in
theorem ggX1_isOnAt_X1_changeAt : GoodIn wsX1_isOnAt wsX1_changeAt := goodIn_r _ [6, 7, 8, 9, 14, 15, 10, 11, 12, 13] (by decide +kernel) (by decide +kernel)
set_option maxRecDepth 20000 in
theorem gX1_isOnAt_X1_changeAt : GoodIn wsX1_isOnAt (wsV RX1 30 RX1 yX1_changeAt wsX1_changeAt) := goodIn_app (goodIn_of _ (by decide +kernel)) ggX1_isOnAt_X1_changeAt
theorem dX1_isOnAt_0 : decode cX1_isOnAt 0 = .ok (.aload_n 0, 1) := by decide +kernel
theorem dX1_isOnAt_1 : decode cX1_isOnAt 1 = .ok (.iload_n 1, 1) := by decide +kernel
theorem dX1_isOnAt_2 : decode cX1_isOnAt 2 = .ok (.invokevirtual 30, 3) := by decide +kernel
theorem dX1_isOnAt_5 : decode cX1_isOnAt 5 = .ok (.astore_n 2, 1) := by decide +kernel
theorem dX1_isOnAt_6 : decode cX1_isOnAt 6 = .ok (.aload_n 2, 1) := by decide +kernel
theorem dX1_isOnAt_7 : decode cX1_isOnAt 7 = .ok (.ifnull 16, 3) := by decide +kernel
theorem dX1_isOnAt_10 : decode cX1_isOnAt 10 = .ok (.aload_n 2, 1) := by decide +kernel
theorem dX1_isOnAt_11 : decode cX1_isOnAt 11 = .ok (.getfield 34, 3) := by decide +kernel
theorem dX1_isOnAt_14 : decode cX1_isOnAt 14 = .ok (.lconst 0, 1) := by decide +kernel
theorem dX1_isOnAt_15 : decode cX1_isOnAt 15 = .ok (.lcmp, 1) := by decide +kernel
theorem dX1_isOnAt_16 : decode cX1_isOnAt 16 = .ok (.ifCond .eq 7, 3) := by decide +kernel
theorem dX1_isOnAt_19 : decode cX1_isOnAt 19 = .ok (.iconst 1, 1) := by decide +kernel
theorem dX1_isOnAt_20 : decode cX1_isOnAt 20 = .ok (.goto 4, 3) := by decide +kernel
theorem dX1_isOnAt_23 : decode cX1_isOnAt 23 = .ok (.iconst 0, 1) := by decide +kernel
theorem dX1_isOnAt_24 : decode cX1_isOnAt 24 = .ok (.ireturn, 1) := by decide +kernel
set_option maxRecDepth 20000 in
theorem ggX1_yearsOpen_X1_changeAt : GoodIn wsX1_yearsOpen wsX1_changeAt := goodIn_r _ [7, 8, 9, 10, 18, 19, 14, 15, 16, 17] (by decide +kernel) (by decide +kernel)
set_option maxRecDepth 20000 in
theorem gX1_yearsOpen_X1_changeAt : GoodIn wsX1_yearsOpen (wsV RX1 30 RX1 yX1_changeAt wsX1_changeAt) := goodIn_app (goodIn_of _ (by decide +kernel)) ggX1_yearsOpen_X1_changeAt
set_option maxRecDepth 20000 in
theorem ggX1_yearsOpen_X4_yearsBetween : GoodIn wsX1_yearsOpen wsX4_yearsBetween := goodIn_r _ [13] (by decide +kernel) (by decide +kernel)
set_option maxRecDepth 20000 in
theorem gX1_yearsOpen_X4_yearsBetween_n41 : GoodIn wsX1_yearsOpen (wsX4_yearsBetween) := ggX1_yearsOpen_X4_yearsBetween
theorem dX1_yearsOpen_0 : decode cX1_yearsOpen 0 = .ok (.aload_n 0, 1) := by decide +kernel
theorem dX1_yearsOpen_1 : decode cX1_yearsOpen 1 = .ok (.iload_n 1, 1) := by decide +kernel
theorem dX1_yearsOpen_2 : decode cX1_yearsOpen 2 = .ok (.invokevirtual 30, 3) := by decide +kernel
theorem dX1_yearsOpen_5 : decode cX1_yearsOpen 5 = .ok (.astore_n 2, 1) := by decide +kernel
theorem dX1_yearsOpen_6 : decode cX1_yearsOpen 6 = .ok (.aload_n 2, 1) := by decide +kernel
theorem dX1_yearsOpen_7 : decode cX1_yearsOpen 7 = .ok (.ifnonnull 7, 3) := by decide +kernel
theorem dX1_yearsOpen_10 : decode cX1_yearsOpen 10 = .ok (.lconst 0, 1) := by decide +kernel
theorem dX1_yearsOpen_11 : decode cX1_yearsOpen 11 = .ok (.goto 22, 3) := by decide +kernel
theorem dX1_yearsOpen_14 : decode cX1_yearsOpen 14 = .ok (.aload_n 2, 1) := by decide +kernel
theorem dX1_yearsOpen_15 : decode cX1_yearsOpen 15 = .ok (.getfield 34, 3) := by decide +kernel
theorem dX1_yearsOpen_18 : decode cX1_yearsOpen 18 = .ok (.iconst 0, 1) := by decide +kernel
theorem dX1_yearsOpen_19 : decode cX1_yearsOpen 19 = .ok (.iload_n 1, 1) := by decide +kernel
theorem dX1_yearsOpen_20 : decode cX1_yearsOpen 20 = .ok (.sipush 360, 3) := by decide +kernel
theorem dX1_yearsOpen_23 : decode cX1_yearsOpen 23 = .ok (.idiv, 1) := by decide +kernel
theorem dX1_yearsOpen_24 : decode cX1_yearsOpen 24 = .ok (.aload_n 2, 1) := by decide +kernel
theorem dX1_yearsOpen_25 : decode cX1_yearsOpen 25 = .ok (.getfield 38, 3) := by decide +kernel
theorem dX1_yearsOpen_28 : decode cX1_yearsOpen 28 = .ok (.isub, 1) := by decide +kernel
theorem dX1_yearsOpen_29 : decode cX1_yearsOpen 29 = .ok (.invokestatic 41, 3) := by decide +kernel
theorem dX1_yearsOpen_32 : decode cX1_yearsOpen 32 = .ok (.land, 1) := by decide +kernel
theorem dX1_yearsOpen_33 : decode cX1_yearsOpen 33 = .ok (.lreturn, 1) := by decide +kernel
set_option maxRecDepth 20000 in
theorem ggX1_yearsKept_X4_yearsBetween : GoodIn wsX1_yearsKept wsX4_yearsBetween := goodIn_r _ [12] (by decide +kernel) (by decide +kernel)
set_option maxRecDepth 20000 in
theorem gX1_yearsKept_X4_yearsBetween_n41 : GoodIn wsX1_yearsKept (wsX4_yearsBetween) := ggX1_yearsKept_X4_yearsBetween
theorem dX1_yearsKept_0 : decode cX1_yearsKept 0 = .ok (.iload_n 1, 1) := by decide +kernel
theorem dX1_yearsKept_1 : decode cX1_yearsKept 1 = .ok (.sipush 360, 3) := by decide +kernel
theorem dX1_yearsKept_4 : decode cX1_yearsKept 4 = .ok (.idiv, 1) := by decide +kernel
theorem dX1_yearsKept_5 : decode cX1_yearsKept 5 = .ok (.istore_n 2, 1) := by decide +kernel
theorem dX1_yearsKept_6 : decode cX1_yearsKept 6 = .ok (.iload_n 1, 1) := by decide +kernel
theorem dX1_yearsKept_7 : decode cX1_yearsKept 7 = .ok (.istore_n 3, 1) := by decide +kernel
theorem dX1_yearsKept_8 : decode cX1_yearsKept 8 = .ok (.lconst 0, 1) := by decide +kernel
theorem dX1_yearsKept_9 : decode cX1_yearsKept 9 = .ok (.lstore 4, 2) := by decide +kernel
theorem dX1_yearsKept_11 : decode cX1_yearsKept 11 = .ok (.aload_n 0, 1) := by decide +kernel
theorem dX1_yearsKept_12 : decode cX1_yearsKept 12 = .ok (.getfield 9, 3) := by decide +kernel
theorem dX1_yearsKept_15 : decode cX1_yearsKept 15 = .ok (.astore 6, 2) := by decide +kernel
theorem dX1_yearsKept_17 : decode cX1_yearsKept 17 = .ok (.aload 6, 2) := by decide +kernel
theorem dX1_yearsKept_19 : decode cX1_yearsKept 19 = .ok (.ifnull 75, 3) := by decide +kernel
theorem dX1_yearsKept_22 : decode cX1_yearsKept 22 = .ok (.aload 6, 2) := by decide +kernel
theorem dX1_yearsKept_24 : decode cX1_yearsKept 24 = .ok (.getfield 24, 3) := by decide +kernel
theorem dX1_yearsKept_27 : decode cX1_yearsKept 27 = .ok (.sipush 360, 3) := by decide +kernel
theorem dX1_yearsKept_30 : decode cX1_yearsKept 30 = .ok (.idiv, 1) := by decide +kernel
theorem dX1_yearsKept_31 : decode cX1_yearsKept 31 = .ok (.istore 7, 2) := by decide +kernel
theorem dX1_yearsKept_33 : decode cX1_yearsKept 33 = .ok (.iload_n 3, 1) := by decide +kernel
theorem dX1_yearsKept_34 : decode cX1_yearsKept 34 = .ok (.sipush 360, 3) := by decide +kernel
theorem dX1_yearsKept_37 : decode cX1_yearsKept 37 = .ok (.idiv, 1) := by decide +kernel
theorem dX1_yearsKept_38 : decode cX1_yearsKept 38 = .ok (.iconst 1, 1) := by decide +kernel
theorem dX1_yearsKept_39 : decode cX1_yearsKept 39 = .ok (.isub, 1) := by decide +kernel
theorem dX1_yearsKept_40 : decode cX1_yearsKept 40 = .ok (.istore 8, 2) := by decide +kernel
theorem dX1_yearsKept_42 : decode cX1_yearsKept 42 = .ok (.iload_n 2, 1) := by decide +kernel
theorem dX1_yearsKept_43 : decode cX1_yearsKept 43 = .ok (.aload 6, 2) := by decide +kernel
theorem dX1_yearsKept_45 : decode cX1_yearsKept 45 = .ok (.getfield 38, 3) := by decide +kernel
theorem dX1_yearsKept_48 : decode cX1_yearsKept 48 = .ok (.isub, 1) := by decide +kernel
theorem dX1_yearsKept_49 : decode cX1_yearsKept 49 = .ok (.istore 9, 2) := by decide +kernel
theorem dX1_yearsKept_51 : decode cX1_yearsKept 51 = .ok (.lload 4, 2) := by decide +kernel
theorem dX1_yearsKept_53 : decode cX1_yearsKept 53 = .ok (.aload 6, 2) := by decide +kernel
theorem dX1_yearsKept_55 : decode cX1_yearsKept 55 = .ok (.getfield 34, 3) := by decide +kernel
theorem dX1_yearsKept_58 : decode cX1_yearsKept 58 = .ok (.iload 7, 2) := by decide +kernel
theorem dX1_yearsKept_60 : decode cX1_yearsKept 60 = .ok (.iload 8, 2) := by decide +kernel
theorem dX1_yearsKept_62 : decode cX1_yearsKept 62 = .ok (.iload 9, 2) := by decide +kernel
theorem dX1_yearsKept_64 : decode cX1_yearsKept 64 = .ok (.invokestatic 45, 3) := by decide +kernel
theorem dX1_yearsKept_67 : decode cX1_yearsKept 67 = .ok (.invokestatic 41, 3) := by decide +kernel
theorem dX1_yearsKept_70 : decode cX1_yearsKept 70 = .ok (.land, 1) := by decide +kernel
theorem dX1_yearsKept_71 : decode cX1_yearsKept 71 = .ok (.lor, 1) := by decide +kernel
theorem dX1_yearsKept_72 : decode cX1_yearsKept 72 = .ok (.lstore 4, 2) := by decide +kernel
theorem dX1_yearsKept_74 : decode cX1_yearsKept 74 = .ok (.iload_n 3, 1) := by decide +kernel
theorem dX1_yearsKept_75 : decode cX1_yearsKept 75 = .ok (.aload 6, 2) := by decide +kernel
theorem dX1_yearsKept_77 : decode cX1_yearsKept 77 = .ok (.getfield 24, 3) := by decide +kernel
theorem dX1_yearsKept_80 : decode cX1_yearsKept 80 = .ok (.invokestatic 45, 3) := by decide +kernel
theorem dX1_yearsKept_83 : decode cX1_yearsKept 83 = .ok (.istore_n 3, 1) := by decide +kernel
theorem dX1_yearsKept_84 : decode cX1_yearsKept 84 = .ok (.aload 6, 2) := by decide +kernel
theorem dX1_yearsKept_86 : decode cX1_yearsKept 86 = .ok (.getfield 27, 3) := by decide +kernel
theorem dX1_yearsKept_89 : decode cX1_yearsKept 89 = .ok (.astore 6, 2) := by decide +kernel
theorem dX1_yearsKept_91 : decode cX1_yearsKept 91 = .ok (.goto (-74), 3) := by decide +kernel
theorem dX1_yearsKept_94 : decode cX1_yearsKept 94 = .ok (.lload 4, 2) := by decide +kernel
theorem dX1_yearsKept_96 : decode cX1_yearsKept 96 = .ok (.lreturn, 1) := by decide +kernel
set_option maxRecDepth 20000 in
theorem ggX2_init_X1_init : GoodIn wsX2_init wsX1_init := goodIn_r _ [15, 16, 2, 3, 17, 18, 25, 26] (by decide +kernel) (by decide +kernel)
set_option maxRecDepth 20000 in
theorem gX2_init_X1_init : GoodIn wsX2_init (wsX1_init) := ggX2_init_X1_init
theorem dX2_init_0 : decode cX2_init 0 = .ok (.aload_n 0, 1) := by decide +kernel
theorem dX2_init_1 : decode cX2_init 1 = .ok (.invokespecial 3, 3) := by decide +kernel
theorem dX2_init_4 : decode cX2_init 4 = .ok (.aload_n 0, 1) := by decide +kernel
theorem dX2_init_5 : decode cX2_init 5 = .ok (.iload_n 1, 1) := by decide +kernel
theorem dX2_init_6 : decode cX2_init 6 = .ok (.putfield 9, 3) := by decide +kernel
theorem dX2_init_9 : decode cX2_init 9 = .ok (.aload_n 0, 1) := by decide +kernel
theorem dX2_init_10 : decode cX2_init 10 = .ok (.iload_n 2, 1) := by decide +kernel
theorem dX2_init_11 : decode cX2_init 11 = .ok (.putfield 15, 3) := by decide +kernel
theorem dX2_init_14 : decode cX2_init 14 = .ok (.aload_n 0, 1) := by decide +kernel
theorem dX2_init_15 : decode cX2_init 15 = .ok (.iload_n 3, 1) := by decide +kernel
theorem dX2_init_16 : decode cX2_init 16 = .ok (.putfield 18, 3) := by decide +kernel
theorem dX2_init_19 : decode cX2_init 19 = .ok (.aload_n 0, 1) := by decide +kernel
theorem dX2_init_20 : decode cX2_init 20 = .ok (.iload 4, 2) := by decide +kernel
theorem dX2_init_22 : decode cX2_init 22 = .ok (.putfield 21, 3) := by decide +kernel
theorem dX2_init_25 : decode cX2_init 25 = .ok (.aload_n 0, 1) := by decide +kernel
theorem dX2_init_26 : decode cX2_init 26 = .ok (.new 25, 3) := by decide +kernel
theorem dX2_init_29 : decode cX2_init 29 = .ok (.dup, 1) := by decide +kernel
theorem dX2_init_30 : decode cX2_init 30 = .ok (.invokespecial 27, 3) := by decide +kernel
theorem dX2_init_33 : decode cX2_init 33 = .ok (.putfield 28, 3) := by decide +kernel
theorem dX2_init_36 : decode cX2_init 36 = .ok (.aload_n 0, 1) := by decide +kernel
theorem dX2_init_37 : decode cX2_init 37 = .ok (.bipush 20, 2) := by decide +kernel
theorem dX2_init_39 : decode cX2_init 39 = .ok (.anewarray 25, 3) := by decide +kernel
theorem dX2_init_42 : decode cX2_init 42 = .ok (.putfield 32, 3) := by decide +kernel
theorem dX2_init_45 : decode cX2_init 45 = .ok (.iconst 0, 1) := by decide +kernel
theorem dX2_init_46 : decode cX2_init 46 = .ok (.istore 5, 2) := by decide +kernel
theorem dX2_init_48 : decode cX2_init 48 = .ok (.iload 5, 2) := by decide +kernel
theorem dX2_init_50 : decode cX2_init 50 = .ok (.bipush 20, 2) := by decide +kernel
theorem dX2_init_52 : decode cX2_init 52 = .ok (.if_icmp .ge 23, 3) := by decide +kernel
theorem dX2_init_55 : decode cX2_init 55 = .ok (.aload_n 0, 1) := by decide +kernel
theorem dX2_init_56 : decode cX2_init 56 = .ok (.getfield 32, 3) := by decide +kernel
theorem dX2_init_59 : decode cX2_init 59 = .ok (.iload 5, 2) := by decide +kernel
theorem dX2_init_61 : decode cX2_init 61 = .ok (.new 25, 3) := by decide +kernel
theorem dX2_init_64 : decode cX2_init 64 = .ok (.dup, 1) := by decide +kernel
theorem dX2_init_65 : decode cX2_init 65 = .ok (.invokespecial 27, 3) := by decide +kernel
theorem dX2_init_68 : decode cX2_init 68 = .ok (.aastore, 1) := by decide +kernel
theorem dX2_init_69 : decode cX2_init 69 = .ok (.iinc 5 1, 3) := by decide +kernel
theorem dX2_init_72 : decode cX2_init 72 = .ok (.goto (-24), 3) := by decide +kernel
theorem dX2_init_75 : decode cX2_init 75 = .ok (.return_, 1) := by decide +kernel
theorem dX2_stayOf_0 : decode cX2_stayOf 0 = .ok (.iload_n 1, 1) := by decide +kernel
theorem dX2_stayOf_1 : decode cX2_stayOf 1 = .ok (.ifCond .lt 21, 3) := by decide +kernel
theorem dX2_stayOf_4 : decode cX2_stayOf 4 = .ok (.iload_n 1, 1) := by decide +kernel
theorem dX2_stayOf_5 : decode cX2_stayOf 5 = .ok (.aload_n 0, 1) := by decide +kernel
theorem dX2_stayOf_6 : decode cX2_stayOf 6 = .ok (.getfield 32, 3) := by decide +kernel
theorem dX2_stayOf_9 : decode cX2_stayOf 9 = .ok (.arraylength, 1) := by decide +kernel
theorem dX2_stayOf_10 : decode cX2_stayOf 10 = .ok (.if_icmp .ge 12, 3) := by decide +kernel
theorem dX2_stayOf_13 : decode cX2_stayOf 13 = .ok (.aload_n 0, 1) := by decide +kernel
theorem dX2_stayOf_14 : decode cX2_stayOf 14 = .ok (.getfield 32, 3) := by decide +kernel
theorem dX2_stayOf_17 : decode cX2_stayOf 17 = .ok (.iload_n 1, 1) := by decide +kernel
theorem dX2_stayOf_18 : decode cX2_stayOf 18 = .ok (.aaload, 1) := by decide +kernel
theorem dX2_stayOf_19 : decode cX2_stayOf 19 = .ok (.ifnonnull 13, 3) := by decide +kernel
theorem dX2_stayOf_22 : decode cX2_stayOf 22 = .ok (.new 36, 3) := by decide +kernel
theorem dX2_stayOf_25 : decode cX2_stayOf 25 = .ok (.dup, 1) := by decide +kernel
theorem dX2_stayOf_26 : decode cX2_stayOf 26 = .ok (.ldc 38, 2) := by decide +kernel
theorem dX2_stayOf_28 : decode cX2_stayOf 28 = .ok (.invokespecial 40, 3) := by decide +kernel
theorem dX2_stayOf_31 : decode cX2_stayOf 31 = .ok (.athrow, 1) := by decide +kernel
theorem dX2_stayOf_32 : decode cX2_stayOf 32 = .ok (.aload_n 0, 1) := by decide +kernel
theorem dX2_stayOf_33 : decode cX2_stayOf 33 = .ok (.getfield 32, 3) := by decide +kernel
theorem dX2_stayOf_36 : decode cX2_stayOf 36 = .ok (.iload_n 1, 1) := by decide +kernel
theorem dX2_stayOf_37 : decode cX2_stayOf 37 = .ok (.aaload, 1) := by decide +kernel
theorem dX2_stayOf_38 : decode cX2_stayOf 38 = .ok (.areturn, 1) := by decide +kernel
theorem dX2_letsIn_0 : decode cX2_letsIn 0 = .ok (.aload_n 0, 1) := by decide +kernel
theorem dX2_letsIn_1 : decode cX2_letsIn 1 = .ok (.getfield 18, 3) := by decide +kernel
theorem dX2_letsIn_4 : decode cX2_letsIn 4 = .ok (.iload_n 1, 1) := by decide +kernel
theorem dX2_letsIn_5 : decode cX2_letsIn 5 = .ok (.ishr, 1) := by decide +kernel
theorem dX2_letsIn_6 : decode cX2_letsIn 6 = .ok (.iconst 1, 1) := by decide +kernel
theorem dX2_letsIn_7 : decode cX2_letsIn 7 = .ok (.iand, 1) := by decide +kernel
theorem dX2_letsIn_8 : decode cX2_letsIn 8 = .ok (.iconst 1, 1) := by decide +kernel
theorem dX2_letsIn_9 : decode cX2_letsIn 9 = .ok (.if_icmp .ne 7, 3) := by decide +kernel
theorem dX2_letsIn_12 : decode cX2_letsIn 12 = .ok (.iconst 1, 1) := by decide +kernel
theorem dX2_letsIn_13 : decode cX2_letsIn 13 = .ok (.goto 4, 3) := by decide +kernel
theorem dX2_letsIn_16 : decode cX2_letsIn 16 = .ok (.iconst 0, 1) := by decide +kernel
theorem dX2_letsIn_17 : decode cX2_letsIn 17 = .ok (.ireturn, 1) := by decide +kernel
set_option maxRecDepth 20000 in
theorem ggX2_isBroken_X2_stayOf : GoodIn wsX2_isBroken wsX2_stayOf := goodIn_ca (goodIn_r _ [6, 7, 8, 9, 12, 13, 14, 15, 16, 17] (by decide +kernel) (by decide +kernel)) (goodIn_sub (fun _ h => List.mem_cons_of_mem _ (List.mem_append_right _ h)) (by decide +kernel))
set_option maxRecDepth 20000 in
theorem gX2_isBroken_X2_stayOf : GoodIn wsX2_isBroken (wsV RX2 43 RX2 yX2_stayOf wsX2_stayOf) := goodIn_app (goodIn_of _ (by decide +kernel)) ggX2_isBroken_X2_stayOf
theorem dX2_isBroken_0 : decode cX2_isBroken 0 = .ok (.aload_n 0, 1) := by decide +kernel
theorem dX2_isBroken_1 : decode cX2_isBroken 1 = .ok (.iload_n 1, 1) := by decide +kernel
theorem dX2_isBroken_2 : decode cX2_isBroken 2 = .ok (.invokevirtual 43, 3) := by decide +kernel
theorem dX2_isBroken_5 : decode cX2_isBroken 5 = .ok (.getfield 47, 3) := by decide +kernel
theorem dX2_isBroken_8 : decode cX2_isBroken 8 = .ok (.iconst 2, 1) := by decide +kernel
theorem dX2_isBroken_9 : decode cX2_isBroken 9 = .ok (.if_icmp .lt 7, 3) := by decide +kernel
theorem dX2_isBroken_12 : decode cX2_isBroken 12 = .ok (.iconst 1, 1) := by decide +kernel
theorem dX2_isBroken_13 : decode cX2_isBroken 13 = .ok (.goto 4, 3) := by decide +kernel
theorem dX2_isBroken_16 : decode cX2_isBroken 16 = .ok (.iconst 0, 1) := by decide +kernel
theorem dX2_isBroken_17 : decode cX2_isBroken 17 = .ok (.ireturn, 1) := by decide +kernel
set_option maxRecDepth 20000 in
theorem ggX2_yearsCovered_X2_yearsOpen : GoodIn wsX2_yearsCovered wsX2_yearsOpen := goodIn_ca (goodIn_r _ [5, 6, 7, 8, 9, 4, 10, 11, 12, 13, 14, 15, 16, 17, 18, 19, 20, 21, 22, 23, 24, 25, 26, 27, 28, 29, 30, 44, 45, 46, 47, 48, 49, 50, 51, 52, 53, 54, 55] (by decide +kernel) (by decide +kernel)) (goodIn_sub (fun _ h => List.mem_cons_of_mem _ (List.mem_append_right _ h)) (by decide +kernel))
set_option maxRecDepth 20000 in
theorem gX2_yearsCovered_X2_yearsOpen : GoodIn wsX2_yearsCovered (wsV RX2 50 RX2 yX2_yearsOpen wsX2_yearsOpen) := goodIn_app (goodIn_of _ (by decide +kernel)) ggX2_yearsCovered_X2_yearsOpen
set_option maxRecDepth 20000 in
theorem ggX2_yearsCovered_X2_yearsKept : GoodIn wsX2_yearsCovered wsX2_yearsKept := goodIn_ca (goodIn_r _ [34, 35, 6, 7, 8, 9, 4, 10, 11, 12, 13, 36, 37, 38, 17, 39, 25, 26, 20, 19, 40, 41, 42, 43, 27, 28, 29, 30, 44, 45, 46, 47, 48, 49, 54, 55, 50, 51, 52, 53] (by decide +kernel) (by decide +kernel)) (goodIn_sub (fun _ h => List.mem_cons_of_mem _ (List.mem_append_right _ h)) (by decide +kernel))
set_option maxRecDepth 20000 in
theorem gX2_yearsCovered_X2_yearsKept : GoodIn wsX2_yearsCovered (wsV RX2 54 RX2 yX2_yearsKept wsX2_yearsKept) := goodIn_app (goodIn_of _ (by decide +kernel)) ggX2_yearsCovered_X2_yearsKept
theorem dX2_yearsCovered_0 : decode cX2_yearsCovered 0 = .ok (.aload_n 0, 1) := by decide +kernel
theorem dX2_yearsCovered_1 : decode cX2_yearsCovered 1 = .ok (.iload_n 1, 1) := by decide +kernel
theorem dX2_yearsCovered_2 : decode cX2_yearsCovered 2 = .ok (.iload_n 2, 1) := by decide +kernel
theorem dX2_yearsCovered_3 : decode cX2_yearsCovered 3 = .ok (.invokevirtual 50, 3) := by decide +kernel
theorem dX2_yearsCovered_6 : decode cX2_yearsCovered 6 = .ok (.aload_n 0, 1) := by decide +kernel
theorem dX2_yearsCovered_7 : decode cX2_yearsCovered 7 = .ok (.iload_n 1, 1) := by decide +kernel
theorem dX2_yearsCovered_8 : decode cX2_yearsCovered 8 = .ok (.iload_n 2, 1) := by decide +kernel
theorem dX2_yearsCovered_9 : decode cX2_yearsCovered 9 = .ok (.invokevirtual 54, 3) := by decide +kernel
theorem dX2_yearsCovered_12 : decode cX2_yearsCovered 12 = .ok (.lor, 1) := by decide +kernel
theorem dX2_yearsCovered_13 : decode cX2_yearsCovered 13 = .ok (.lreturn, 1) := by decide +kernel
set_option maxRecDepth 20000 in
theorem ggX2_yearsOpen_X2_stayOf : GoodIn wsX2_yearsOpen wsX2_stayOf := goodIn_ca (goodIn_r _ [6, 7, 8, 9, 27, 28, 29, 30, 31, 32] (by decide +kernel) (by decide +kernel)) (goodIn_sub (fun _ h => List.mem_cons_of_mem _ (List.mem_append_right _ h)) (by decide +kernel))
set_option maxRecDepth 20000 in
theorem gX2_yearsOpen_X2_stayOf : GoodIn wsX2_yearsOpen (wsV RX2 43 RX2 yX2_stayOf wsX2_stayOf) := goodIn_app (goodIn_of _ (by decide +kernel)) ggX2_yearsOpen_X2_stayOf
set_option maxRecDepth 20000 in
theorem ggX2_yearsOpen_X1_yearsOpen : GoodIn wsX2_yearsOpen wsX1_yearsOpen := goodIn_r _ [14, 15, 16, 17, 18, 19, 13, 20, 21, 22, 23, 24, 25, 26, 33, 34, 35, 36, 37, 38] (by decide +kernel) (by decide +kernel)
set_option maxRecDepth 20000 in
theorem gX2_yearsOpen_X1_yearsOpen : GoodIn wsX2_yearsOpen (wsV RX2 57 RX1 yX1_yearsOpen wsX1_yearsOpen) := goodIn_app (goodIn_of _ (by decide +kernel)) ggX2_yearsOpen_X1_yearsOpen
theorem dX2_yearsOpen_0 : decode cX2_yearsOpen 0 = .ok (.aload_n 0, 1) := by decide +kernel
theorem dX2_yearsOpen_1 : decode cX2_yearsOpen 1 = .ok (.iload_n 1, 1) := by decide +kernel
theorem dX2_yearsOpen_2 : decode cX2_yearsOpen 2 = .ok (.invokevirtual 43, 3) := by decide +kernel
theorem dX2_yearsOpen_5 : decode cX2_yearsOpen 5 = .ok (.iload_n 2, 1) := by decide +kernel
theorem dX2_yearsOpen_6 : decode cX2_yearsOpen 6 = .ok (.invokevirtual 57, 3) := by decide +kernel
theorem dX2_yearsOpen_9 : decode cX2_yearsOpen 9 = .ok (.aload_n 0, 1) := by decide +kernel
theorem dX2_yearsOpen_10 : decode cX2_yearsOpen 10 = .ok (.getfield 28, 3) := by decide +kernel
theorem dX2_yearsOpen_13 : decode cX2_yearsOpen 13 = .ok (.iload_n 2, 1) := by decide +kernel
theorem dX2_yearsOpen_14 : decode cX2_yearsOpen 14 = .ok (.invokevirtual 57, 3) := by decide +kernel
theorem dX2_yearsOpen_17 : decode cX2_yearsOpen 17 = .ok (.land, 1) := by decide +kernel
theorem dX2_yearsOpen_18 : decode cX2_yearsOpen 18 = .ok (.lreturn, 1) := by decide +kernel
set_option maxRecDepth 20000 in
theorem ggX2_yearsKept_X2_stayOf : GoodIn wsX2_yearsKept wsX2_stayOf := goodIn_ca (goodIn_r _ [7, 8, 9, 10, 28, 29, 30, 31, 32, 33] (by decide +kernel) (by decide +kernel)) (goodIn_sub (fun _ h => List.mem_cons_of_mem _ (List.mem_append_right _ h)) (by decide +kernel))
set_option maxRecDepth 20000 in
theorem gX2_yearsKept_X2_stayOf : GoodIn wsX2_yearsKept (wsV RX2 43 RX2 yX2_stayOf wsX2_stayOf) := goodIn_app (goodIn_of _ (by decide +kernel)) ggX2_yearsKept_X2_stayOf
set_option maxRecDepth 20000 in
theorem ggX2_yearsKept_X1_yearsKept : GoodIn wsX2_yearsKept wsX1_yearsKept := goodIn_r _ [15, 16, 17, 18, 19, 20, 21, 22, 23, 24, 25, 26, 27, 34, 35, 36, 37, 38, 39] (by decide +kernel) (by decide +kernel)
set_option maxRecDepth 20000 in
theorem gX2_yearsKept_X1_yearsKept : GoodIn wsX2_yearsKept (wsV RX2 60 RX1 yX1_yearsKept wsX1_yearsKept) := goodIn_app (goodIn_of _ (by decide +kernel)) ggX2_yearsKept_X1_yearsKept
theorem dX2_yearsKept_0 : decode cX2_yearsKept 0 = .ok (.aload_n 0, 1) := by decide +kernel
theorem dX2_yearsKept_1 : decode cX2_yearsKept 1 = .ok (.getfield 21, 3) := by decide +kernel
theorem dX2_yearsKept_4 : decode cX2_yearsKept 4 = .ok (.ifCond .ne 5, 3) := by decide +kernel
theorem dX2_yearsKept_7 : decode cX2_yearsKept 7 = .ok (.lconst 0, 1) := by decide +kernel
theorem dX2_yearsKept_8 : decode cX2_yearsKept 8 = .ok (.lreturn, 1) := by decide +kernel
theorem dX2_yearsKept_9 : decode cX2_yearsKept 9 = .ok (.aload_n 0, 1) := by decide +kernel
theorem dX2_yearsKept_10 : decode cX2_yearsKept 10 = .ok (.iload_n 1, 1) := by decide +kernel
theorem dX2_yearsKept_11 : decode cX2_yearsKept 11 = .ok (.invokevirtual 43, 3) := by decide +kernel
theorem dX2_yearsKept_14 : decode cX2_yearsKept 14 = .ok (.iload_n 2, 1) := by decide +kernel
theorem dX2_yearsKept_15 : decode cX2_yearsKept 15 = .ok (.invokevirtual 60, 3) := by decide +kernel
theorem dX2_yearsKept_18 : decode cX2_yearsKept 18 = .ok (.lstore_n 3, 1) := by decide +kernel
theorem dX2_yearsKept_19 : decode cX2_yearsKept 19 = .ok (.lload_n 3, 1) := by decide +kernel
theorem dX2_yearsKept_20 : decode cX2_yearsKept 20 = .ok (.lconst 0, 1) := by decide +kernel
theorem dX2_yearsKept_21 : decode cX2_yearsKept 21 = .ok (.lcmp, 1) := by decide +kernel
theorem dX2_yearsKept_22 : decode cX2_yearsKept 22 = .ok (.ifCond .ne 7, 3) := by decide +kernel
theorem dX2_yearsKept_25 : decode cX2_yearsKept 25 = .ok (.lconst 0, 1) := by decide +kernel
theorem dX2_yearsKept_26 : decode cX2_yearsKept 26 = .ok (.goto 13, 3) := by decide +kernel
theorem dX2_yearsKept_29 : decode cX2_yearsKept 29 = .ok (.lload_n 3, 1) := by decide +kernel
theorem dX2_yearsKept_30 : decode cX2_yearsKept 30 = .ok (.aload_n 0, 1) := by decide +kernel
theorem dX2_yearsKept_31 : decode cX2_yearsKept 31 = .ok (.getfield 28, 3) := by decide +kernel
theorem dX2_yearsKept_34 : decode cX2_yearsKept 34 = .ok (.iload_n 2, 1) := by decide +kernel
theorem dX2_yearsKept_35 : decode cX2_yearsKept 35 = .ok (.invokevirtual 60, 3) := by decide +kernel
theorem dX2_yearsKept_38 : decode cX2_yearsKept 38 = .ok (.land, 1) := by decide +kernel
theorem dX2_yearsKept_39 : decode cX2_yearsKept 39 = .ok (.lreturn, 1) := by decide +kernel
theorem dX3_init_0 : decode cX3_init 0 = .ok (.aload_n 0, 1) := by decide +kernel
theorem dX3_init_1 : decode cX3_init 1 = .ok (.invokespecial 1, 3) := by decide +kernel
theorem dX3_init_4 : decode cX3_init 4 = .ok (.aload_n 0, 1) := by decide +kernel
theorem dX3_init_5 : decode cX3_init 5 = .ok (.iload_n 1, 1) := by decide +kernel
theorem dX3_init_6 : decode cX3_init 6 = .ok (.putfield 7, 3) := by decide +kernel
theorem dX3_init_9 : decode cX3_init 9 = .ok (.aload_n 0, 1) := by decide +kernel
theorem dX3_init_10 : decode cX3_init 10 = .ok (.iload_n 2, 1) := by decide +kernel
theorem dX3_init_11 : decode cX3_init 11 = .ok (.putfield 13, 3) := by decide +kernel
theorem dX3_init_14 : decode cX3_init 14 = .ok (.return_, 1) := by decide +kernel
theorem dX3_firstVolume_0 : decode cX3_firstVolume 0 = .ok (.iload_n 1, 1) := by decide +kernel
theorem dX3_firstVolume_1 : decode cX3_firstVolume 1 = .ok (.aload_n 0, 1) := by decide +kernel
theorem dX3_firstVolume_2 : decode cX3_firstVolume 2 = .ok (.getfield 7, 3) := by decide +kernel
theorem dX3_firstVolume_5 : decode cX3_firstVolume 5 = .ok (.isub, 1) := by decide +kernel
theorem dX3_firstVolume_6 : decode cX3_firstVolume 6 = .ok (.aload_n 0, 1) := by decide +kernel
theorem dX3_firstVolume_7 : decode cX3_firstVolume 7 = .ok (.getfield 13, 3) := by decide +kernel
theorem dX3_firstVolume_10 : decode cX3_firstVolume 10 = .ok (.imul, 1) := by decide +kernel
theorem dX3_firstVolume_11 : decode cX3_firstVolume 11 = .ok (.iconst 1, 1) := by decide +kernel
theorem dX3_firstVolume_12 : decode cX3_firstVolume 12 = .ok (.iadd, 1) := by decide +kernel
theorem dX3_firstVolume_13 : decode cX3_firstVolume 13 = .ok (.ireturn, 1) := by decide +kernel
theorem dX4_init_0 : decode cX4_init 0 = .ok (.aload_n 0, 1) := by decide +kernel
theorem dX4_init_1 : decode cX4_init 1 = .ok (.invokespecial 3, 3) := by decide +kernel
theorem dX4_init_4 : decode cX4_init 4 = .ok (.aload_n 0, 1) := by decide +kernel
theorem dX4_init_5 : decode cX4_init 5 = .ok (.bipush 20, 2) := by decide +kernel
theorem dX4_init_7 : decode cX4_init 7 = .ok (.anewarray 9, 3) := by decide +kernel
theorem dX4_init_10 : decode cX4_init 10 = .ok (.putfield 11, 3) := by decide +kernel
theorem dX4_init_13 : decode cX4_init 13 = .ok (.aload_n 0, 1) := by decide +kernel
theorem dX4_init_14 : decode cX4_init 14 = .ok (.bipush 10, 2) := by decide +kernel
theorem dX4_init_16 : decode cX4_init 16 = .ok (.anewarray 15, 3) := by decide +kernel
theorem dX4_init_19 : decode cX4_init 19 = .ok (.putfield 17, 3) := by decide +kernel
theorem dX4_init_22 : decode cX4_init 22 = .ok (.aload_n 0, 1) := by decide +kernel
theorem dX4_init_23 : decode cX4_init 23 = .ok (.iconst 0, 1) := by decide +kernel
theorem dX4_init_24 : decode cX4_init 24 = .ok (.putfield 21, 3) := by decide +kernel
theorem dX4_init_27 : decode cX4_init 27 = .ok (.aload_n 0, 1) := by decide +kernel
theorem dX4_init_28 : decode cX4_init 28 = .ok (.iconst 0, 1) := by decide +kernel
theorem dX4_init_29 : decode cX4_init 29 = .ok (.putfield 25, 3) := by decide +kernel
theorem dX4_init_32 : decode cX4_init 32 = .ok (.aload_n 0, 1) := by decide +kernel
theorem dX4_init_33 : decode cX4_init 33 = .ok (.iconst 0, 1) := by decide +kernel
theorem dX4_init_34 : decode cX4_init 34 = .ok (.putfield 28, 3) := by decide +kernel
theorem dX4_init_37 : decode cX4_init 37 = .ok (.aload_n 0, 1) := by decide +kernel
theorem dX4_init_38 : decode cX4_init 38 = .ok (.iconst 0, 1) := by decide +kernel
theorem dX4_init_39 : decode cX4_init 39 = .ok (.putfield 31, 3) := by decide +kernel
theorem dX4_init_42 : decode cX4_init 42 = .ok (.return_, 1) := by decide +kernel
set_option maxRecDepth 20000 in
theorem ggX4_addTitle_X4_checkRange : GoodIn wsX4_addTitle wsX4_checkRange := goodIn_ca (goodIn_r _ [11, 12, 13] (by decide +kernel) (by decide +kernel)) (goodIn_sub (fun _ h => List.mem_cons_of_mem _ (List.mem_append_right _ h)) (by decide +kernel))
set_option maxRecDepth 20000 in
theorem gX4_addTitle_X4_checkRange : GoodIn wsX4_addTitle (va_wsS RX4 34 yX4_checkRange wsX4_checkRange) := goodIn_app (goodIn_of _ (by decide +kernel)) ggX4_addTitle_X4_checkRange
set_option maxRecDepth 20000 in
theorem ggX4_addTitle_X3_init : GoodIn wsX4_addTitle wsX3_init := goodIn_r _ [16, 17, 18, 19, 20, 21, 28, 29] (by decide +kernel) (by decide +kernel)
set_option maxRecDepth 20000 in
theorem gX4_addTitle_X3_init : GoodIn wsX4_addTitle (wsX3_init) := ggX4_addTitle_X3_init
theorem dX4_addTitle_0 : decode cX4_addTitle 0 = .ok (.iload_n 1, 1) := by decide +kernel
theorem dX4_addTitle_1 : decode cX4_addTitle 1 = .ok (.iconst 0, 1) := by decide +kernel
theorem dX4_addTitle_2 : decode cX4_addTitle 2 = .ok (.bipush 55, 2) := by decide +kernel
theorem dX4_addTitle_4 : decode cX4_addTitle 4 = .ok (.invokestatic 34, 3) := by decide +kernel
theorem dX4_addTitle_7 : decode cX4_addTitle 7 = .ok (.iload_n 2, 1) := by decide +kernel
theorem dX4_addTitle_8 : decode cX4_addTitle 8 = .ok (.iconst 1, 1) := by decide +kernel
theorem dX4_addTitle_9 : decode cX4_addTitle 9 = .ok (.iconst 4, 1) := by decide +kernel
theorem dX4_addTitle_10 : decode cX4_addTitle 10 = .ok (.invokestatic 34, 3) := by decide +kernel
theorem dX4_addTitle_13 : decode cX4_addTitle 13 = .ok (.aload_n 0, 1) := by decide +kernel
theorem dX4_addTitle_14 : decode cX4_addTitle 14 = .ok (.getfield 21, 3) := by decide +kernel
theorem dX4_addTitle_17 : decode cX4_addTitle 17 = .ok (.istore_n 3, 1) := by decide +kernel
theorem dX4_addTitle_18 : decode cX4_addTitle 18 = .ok (.iload_n 3, 1) := by decide +kernel
theorem dX4_addTitle_19 : decode cX4_addTitle 19 = .ok (.bipush 20, 2) := by decide +kernel
theorem dX4_addTitle_21 : decode cX4_addTitle 21 = .ok (.if_icmp .lt 13, 3) := by decide +kernel
theorem dX4_addTitle_24 : decode cX4_addTitle 24 = .ok (.new 38, 3) := by decide +kernel
theorem dX4_addTitle_27 : decode cX4_addTitle 27 = .ok (.dup, 1) := by decide +kernel
theorem dX4_addTitle_28 : decode cX4_addTitle 28 = .ok (.ldc 40, 2) := by decide +kernel
theorem dX4_addTitle_30 : decode cX4_addTitle 30 = .ok (.invokespecial 42, 3) := by decide +kernel
theorem dX4_addTitle_33 : decode cX4_addTitle 33 = .ok (.athrow, 1) := by decide +kernel
theorem dX4_addTitle_34 : decode cX4_addTitle 34 = .ok (.aload_n 0, 1) := by decide +kernel
theorem dX4_addTitle_35 : decode cX4_addTitle 35 = .ok (.getfield 11, 3) := by decide +kernel
theorem dX4_addTitle_38 : decode cX4_addTitle 38 = .ok (.iload_n 3, 1) := by decide +kernel
theorem dX4_addTitle_39 : decode cX4_addTitle 39 = .ok (.new 9, 3) := by decide +kernel
theorem dX4_addTitle_42 : decode cX4_addTitle 42 = .ok (.dup, 1) := by decide +kernel
theorem dX4_addTitle_43 : decode cX4_addTitle 43 = .ok (.iload_n 1, 1) := by decide +kernel
theorem dX4_addTitle_44 : decode cX4_addTitle 44 = .ok (.iload_n 2, 1) := by decide +kernel
theorem dX4_addTitle_45 : decode cX4_addTitle 45 = .ok (.invokespecial 45, 3) := by decide +kernel
theorem dX4_addTitle_48 : decode cX4_addTitle 48 = .ok (.aastore, 1) := by decide +kernel
theorem dX4_addTitle_49 : decode cX4_addTitle 49 = .ok (.aload_n 0, 1) := by decide +kernel
theorem dX4_addTitle_50 : decode cX4_addTitle 50 = .ok (.iload_n 3, 1) := by decide +kernel
theorem dX4_addTitle_51 : decode cX4_addTitle 51 = .ok (.iconst 1, 1) := by decide +kernel
theorem dX4_addTitle_52 : decode cX4_addTitle 52 = .ok (.iadd, 1) := by decide +kernel
theorem dX4_addTitle_53 : decode cX4_addTitle 53 = .ok (.putfield 21, 3) := by decide +kernel
theorem dX4_addTitle_56 : decode cX4_addTitle 56 = .ok (.iload_n 3, 1) := by decide +kernel
theorem dX4_addTitle_57 : decode cX4_addTitle 57 = .ok (.ireturn, 1) := by decide +kernel
set_option maxRecDepth 20000 in
theorem ggX4_yearOf_X4_existingTitle : GoodIn wsX4_yearOf wsX4_existingTitle := goodIn_ca (goodIn_r _ [6, 7, 8, 9, 10, 25, 26, 27, 28, 29, 30] (by decide +kernel) (by decide +kernel)) (goodIn_sub (fun _ h => List.mem_cons_of_mem _ (List.mem_append_left _ (List.mem_append_right _ h))) (by decide +kernel))
set_option maxRecDepth 20000 in
theorem gX4_yearOf_X4_existingTitle : GoodIn wsX4_yearOf (wsV RX4 48 RX4 yX4_existingTitle wsX4_existingTitle) := goodIn_app (goodIn_of _ (by decide +kernel)) ggX4_yearOf_X4_existingTitle
set_option maxRecDepth 20000 in
theorem ggX4_yearOf_X3_firstVolume : GoodIn wsX4_yearOf wsX3_firstVolume := goodIn_r _ [15, 16, 17, 23, 24] (by decide +kernel) (by decide +kernel)
set_option maxRecDepth 20000 in
theorem gX4_yearOf_X3_firstVolume : GoodIn wsX4_yearOf (wsV RX4 52 RX3 yX3_firstVolume wsX3_firstVolume) := goodIn_app (goodIn_of _ (by decide +kernel)) ggX4_yearOf_X3_firstVolume
set_option maxRecDepth 20000 in
theorem ggX4_yearOf_X4_checkRange : GoodIn wsX4_yearOf wsX4_checkRange := goodIn_ca (goodIn_r _ [20, 21, 22] (by decide +kernel) (by decide +kernel)) (goodIn_sub (fun _ h => List.mem_cons_of_mem _ (List.mem_append_right _ h)) (by decide +kernel))
set_option maxRecDepth 20000 in
theorem gX4_yearOf_X4_checkRange : GoodIn wsX4_yearOf (va_wsS RX4 34 yX4_checkRange wsX4_checkRange) := goodIn_app (goodIn_of _ (by decide +kernel)) ggX4_yearOf_X4_checkRange
theorem dX4_yearOf_0 : decode cX4_yearOf 0 = .ok (.aload_n 0, 1) := by decide +kernel
theorem dX4_yearOf_1 : decode cX4_yearOf 1 = .ok (.iload_n 1, 1) := by decide +kernel
theorem dX4_yearOf_2 : decode cX4_yearOf 2 = .ok (.invokevirtual 48, 3) := by decide +kernel
theorem dX4_yearOf_5 : decode cX4_yearOf 5 = .ok (.astore_n 3, 1) := by decide +kernel
theorem dX4_yearOf_6 : decode cX4_yearOf 6 = .ok (.iload_n 2, 1) := by decide +kernel
theorem dX4_yearOf_7 : decode cX4_yearOf 7 = .ok (.iconst 1, 1) := by decide +kernel
theorem dX4_yearOf_8 : decode cX4_yearOf 8 = .ok (.aload_n 3, 1) := by decide +kernel
theorem dX4_yearOf_9 : decode cX4_yearOf 9 = .ok (.bipush 56, 2) := by decide +kernel
theorem dX4_yearOf_11 : decode cX4_yearOf 11 = .ok (.invokevirtual 52, 3) := by decide +kernel
theorem dX4_yearOf_14 : decode cX4_yearOf 14 = .ok (.iconst 1, 1) := by decide +kernel
theorem dX4_yearOf_15 : decode cX4_yearOf 15 = .ok (.isub, 1) := by decide +kernel
theorem dX4_yearOf_16 : decode cX4_yearOf 16 = .ok (.invokestatic 34, 3) := by decide +kernel
theorem dX4_yearOf_19 : decode cX4_yearOf 19 = .ok (.aload_n 3, 1) := by decide +kernel
theorem dX4_yearOf_20 : decode cX4_yearOf 20 = .ok (.getfield 56, 3) := by decide +kernel
theorem dX4_yearOf_23 : decode cX4_yearOf 23 = .ok (.istore 4, 2) := by decide +kernel
theorem dX4_yearOf_25 : decode cX4_yearOf 25 = .ok (.iload 4, 2) := by decide +kernel
theorem dX4_yearOf_27 : decode cX4_yearOf 27 = .ok (.bipush 55, 2) := by decide +kernel
theorem dX4_yearOf_29 : decode cX4_yearOf 29 = .ok (.if_icmp .ge 21, 3) := by decide +kernel
theorem dX4_yearOf_32 : decode cX4_yearOf 32 = .ok (.aload_n 3, 1) := by decide +kernel
theorem dX4_yearOf_33 : decode cX4_yearOf 33 = .ok (.iload 4, 2) := by decide +kernel
theorem dX4_yearOf_35 : decode cX4_yearOf 35 = .ok (.iconst 1, 1) := by decide +kernel
theorem dX4_yearOf_36 : decode cX4_yearOf 36 = .ok (.iadd, 1) := by decide +kernel
theorem dX4_yearOf_37 : decode cX4_yearOf 37 = .ok (.invokevirtual 52, 3) := by decide +kernel
theorem dX4_yearOf_40 : decode cX4_yearOf 40 = .ok (.iload_n 2, 1) := by decide +kernel
theorem dX4_yearOf_41 : decode cX4_yearOf 41 = .ok (.if_icmp .gt 9, 3) := by decide +kernel
theorem dX4_yearOf_44 : decode cX4_yearOf 44 = .ok (.iinc 4 1, 3) := by decide +kernel
theorem dX4_yearOf_47 : decode cX4_yearOf 47 = .ok (.goto (-22), 3) := by decide +kernel
theorem dX4_yearOf_50 : decode cX4_yearOf 50 = .ok (.iload 4, 2) := by decide +kernel
theorem dX4_yearOf_52 : decode cX4_yearOf 52 = .ok (.ireturn, 1) := by decide +kernel
set_option maxRecDepth 20000 in
theorem ggX4_volumeOf_X4_existingTitle : GoodIn wsX4_volumeOf wsX4_existingTitle := goodIn_ca (goodIn_r _ [6, 7, 8, 9, 10, 25, 26, 27, 28, 29, 30] (by decide +kernel) (by decide +kernel)) (goodIn_sub (fun _ h => List.mem_cons_of_mem _ (List.mem_append_left _ (List.mem_append_right _ h))) (by decide +kernel))
set_option maxRecDepth 20000 in
theorem gX4_volumeOf_X4_existingTitle : GoodIn wsX4_volumeOf (wsV RX4 48 RX4 yX4_existingTitle wsX4_existingTitle) := goodIn_app (goodIn_of _ (by decide +kernel)) ggX4_volumeOf_X4_existingTitle
set_option maxRecDepth 20000 in
theorem ggX4_volumeOf_X4_checkRange : GoodIn wsX4_volumeOf wsX4_checkRange := goodIn_ca (goodIn_r _ [13, 14, 15] (by decide +kernel) (by decide +kernel)) (goodIn_sub (fun _ h => List.mem_cons_of_mem _ (List.mem_append_right _ h)) (by decide +kernel))
set_option maxRecDepth 20000 in
theorem gX4_volumeOf_X4_checkRange : GoodIn wsX4_volumeOf (va_wsS RX4 34 yX4_checkRange wsX4_checkRange) := goodIn_app (goodIn_of _ (by decide +kernel)) ggX4_volumeOf_X4_checkRange
set_option maxRecDepth 20000 in
theorem ggX4_volumeOf_X3_firstVolume : GoodIn wsX4_volumeOf wsX3_firstVolume := goodIn_r _ [20, 21, 22, 23, 24] (by decide +kernel) (by decide +kernel)
set_option maxRecDepth 20000 in
theorem gX4_volumeOf_X3_firstVolume : GoodIn wsX4_volumeOf (wsV RX4 52 RX3 yX3_firstVolume wsX3_firstVolume) := goodIn_app (goodIn_of _ (by decide +kernel)) ggX4_volumeOf_X3_firstVolume
theorem dX4_volumeOf_0 : decode cX4_volumeOf 0 = .ok (.aload_n 0, 1) := by decide +kernel
theorem dX4_volumeOf_1 : decode cX4_volumeOf 1 = .ok (.iload_n 1, 1) := by decide +kernel
theorem dX4_volumeOf_2 : decode cX4_volumeOf 2 = .ok (.invokevirtual 48, 3) := by decide +kernel
theorem dX4_volumeOf_5 : decode cX4_volumeOf 5 = .ok (.astore_n 3, 1) := by decide +kernel
theorem dX4_volumeOf_6 : decode cX4_volumeOf 6 = .ok (.iload_n 2, 1) := by decide +kernel
theorem dX4_volumeOf_7 : decode cX4_volumeOf 7 = .ok (.aload_n 3, 1) := by decide +kernel
theorem dX4_volumeOf_8 : decode cX4_volumeOf 8 = .ok (.getfield 56, 3) := by decide +kernel
theorem dX4_volumeOf_11 : decode cX4_volumeOf 11 = .ok (.bipush 55, 2) := by decide +kernel
theorem dX4_volumeOf_13 : decode cX4_volumeOf 13 = .ok (.invokestatic 34, 3) := by decide +kernel
theorem dX4_volumeOf_16 : decode cX4_volumeOf 16 = .ok (.aload_n 3, 1) := by decide +kernel
theorem dX4_volumeOf_17 : decode cX4_volumeOf 17 = .ok (.iload_n 2, 1) := by decide +kernel
theorem dX4_volumeOf_18 : decode cX4_volumeOf 18 = .ok (.invokevirtual 52, 3) := by decide +kernel
theorem dX4_volumeOf_21 : decode cX4_volumeOf 21 = .ok (.ireturn, 1) := by decide +kernel
set_option maxRecDepth 20000 in
theorem ggX4_addPackage_X4_checkRange : GoodIn wsX4_addPackage wsX4_checkRange := goodIn_ca (goodIn_r _ [11, 12, 13] (by decide +kernel) (by decide +kernel)) (goodIn_sub (fun _ h => List.mem_cons_of_mem _ (List.mem_append_right _ h)) (by decide +kernel))
set_option maxRecDepth 20000 in
theorem gX4_addPackage_X4_checkRange : GoodIn wsX4_addPackage (va_wsS RX4 34 yX4_checkRange wsX4_checkRange) := goodIn_app (goodIn_of _ (by decide +kernel)) ggX4_addPackage_X4_checkRange
set_option maxRecDepth 20000 in
theorem ggX4_addPackage_X2_init : GoodIn wsX4_addPackage wsX2_init := goodIn_r _ [16, 17, 18, 19, 20, 21, 22, 23, 24, 25, 26, 27, 28, 29, 30, 31, 32, 33, 34, 41, 42, 43, 44, 45, 46, 47, 48] (by decide +kernel) (by decide +kernel)
set_option maxRecDepth 20000 in
theorem gX4_addPackage_X2_init : GoodIn wsX4_addPackage (wsX2_init) := ggX4_addPackage_X2_init
theorem dX4_addPackage_0 : decode cX4_addPackage 0 = .ok (.iload_n 1, 1) := by decide +kernel
theorem dX4_addPackage_1 : decode cX4_addPackage 1 = .ok (.iconst 0, 1) := by decide +kernel
theorem dX4_addPackage_2 : decode cX4_addPackage 2 = .ok (.sipush 1000, 3) := by decide +kernel
theorem dX4_addPackage_5 : decode cX4_addPackage 5 = .ok (.invokestatic 34, 3) := by decide +kernel
theorem dX4_addPackage_8 : decode cX4_addPackage 8 = .ok (.iload_n 2, 1) := by decide +kernel
theorem dX4_addPackage_9 : decode cX4_addPackage 9 = .ok (.iconst 0, 1) := by decide +kernel
theorem dX4_addPackage_10 : decode cX4_addPackage 10 = .ok (.iconst 2, 1) := by decide +kernel
theorem dX4_addPackage_11 : decode cX4_addPackage 11 = .ok (.invokestatic 34, 3) := by decide +kernel
theorem dX4_addPackage_14 : decode cX4_addPackage 14 = .ok (.iload_n 3, 1) := by decide +kernel
theorem dX4_addPackage_15 : decode cX4_addPackage 15 = .ok (.iconst 0, 1) := by decide +kernel
theorem dX4_addPackage_16 : decode cX4_addPackage 16 = .ok (.bipush 15, 2) := by decide +kernel
theorem dX4_addPackage_18 : decode cX4_addPackage 18 = .ok (.invokestatic 34, 3) := by decide +kernel
theorem dX4_addPackage_21 : decode cX4_addPackage 21 = .ok (.iload 4, 2) := by decide +kernel
theorem dX4_addPackage_23 : decode cX4_addPackage 23 = .ok (.iconst 0, 1) := by decide +kernel
theorem dX4_addPackage_24 : decode cX4_addPackage 24 = .ok (.iconst 1, 1) := by decide +kernel
theorem dX4_addPackage_25 : decode cX4_addPackage 25 = .ok (.invokestatic 34, 3) := by decide +kernel
theorem dX4_addPackage_28 : decode cX4_addPackage 28 = .ok (.aload_n 0, 1) := by decide +kernel
theorem dX4_addPackage_29 : decode cX4_addPackage 29 = .ok (.getfield 25, 3) := by decide +kernel
theorem dX4_addPackage_32 : decode cX4_addPackage 32 = .ok (.istore 5, 2) := by decide +kernel
theorem dX4_addPackage_34 : decode cX4_addPackage 34 = .ok (.iload 5, 2) := by decide +kernel
theorem dX4_addPackage_36 : decode cX4_addPackage 36 = .ok (.bipush 10, 2) := by decide +kernel
theorem dX4_addPackage_38 : decode cX4_addPackage 38 = .ok (.if_icmp .lt 13, 3) := by decide +kernel
theorem dX4_addPackage_41 : decode cX4_addPackage 41 = .ok (.new 38, 3) := by decide +kernel
theorem dX4_addPackage_44 : decode cX4_addPackage 44 = .ok (.dup, 1) := by decide +kernel
theorem dX4_addPackage_45 : decode cX4_addPackage 45 = .ok (.ldc 59, 2) := by decide +kernel
theorem dX4_addPackage_47 : decode cX4_addPackage 47 = .ok (.invokespecial 42, 3) := by decide +kernel
theorem dX4_addPackage_50 : decode cX4_addPackage 50 = .ok (.athrow, 1) := by decide +kernel
theorem dX4_addPackage_51 : decode cX4_addPackage 51 = .ok (.aload_n 0, 1) := by decide +kernel
theorem dX4_addPackage_52 : decode cX4_addPackage 52 = .ok (.getfield 17, 3) := by decide +kernel
theorem dX4_addPackage_55 : decode cX4_addPackage 55 = .ok (.iload 5, 2) := by decide +kernel
theorem dX4_addPackage_57 : decode cX4_addPackage 57 = .ok (.new 15, 3) := by decide +kernel
theorem dX4_addPackage_60 : decode cX4_addPackage 60 = .ok (.dup, 1) := by decide +kernel
theorem dX4_addPackage_61 : decode cX4_addPackage 61 = .ok (.iload_n 1, 1) := by decide +kernel
theorem dX4_addPackage_62 : decode cX4_addPackage 62 = .ok (.iload_n 2, 1) := by decide +kernel
theorem dX4_addPackage_63 : decode cX4_addPackage 63 = .ok (.iload_n 3, 1) := by decide +kernel
theorem dX4_addPackage_64 : decode cX4_addPackage 64 = .ok (.iload 4, 2) := by decide +kernel
theorem dX4_addPackage_66 : decode cX4_addPackage 66 = .ok (.iconst 1, 1) := by decide +kernel
theorem dX4_addPackage_67 : decode cX4_addPackage 67 = .ok (.if_icmp .ne 7, 3) := by decide +kernel
theorem dX4_addPackage_70 : decode cX4_addPackage 70 = .ok (.iconst 1, 1) := by decide +kernel
theorem dX4_addPackage_71 : decode cX4_addPackage 71 = .ok (.goto 4, 3) := by decide +kernel
theorem dX4_addPackage_74 : decode cX4_addPackage 74 = .ok (.iconst 0, 1) := by decide +kernel
theorem dX4_addPackage_75 : decode cX4_addPackage 75 = .ok (.invokespecial 61, 3) := by decide +kernel
theorem dX4_addPackage_78 : decode cX4_addPackage 78 = .ok (.aastore, 1) := by decide +kernel
theorem dX4_addPackage_79 : decode cX4_addPackage 79 = .ok (.aload_n 0, 1) := by decide +kernel
theorem dX4_addPackage_80 : decode cX4_addPackage 80 = .ok (.iload 5, 2) := by decide +kernel
theorem dX4_addPackage_82 : decode cX4_addPackage 82 = .ok (.iconst 1, 1) := by decide +kernel
theorem dX4_addPackage_83 : decode cX4_addPackage 83 = .ok (.iadd, 1) := by decide +kernel
theorem dX4_addPackage_84 : decode cX4_addPackage 84 = .ok (.putfield 25, 3) := by decide +kernel
theorem dX4_addPackage_87 : decode cX4_addPackage 87 = .ok (.iload 5, 2) := by decide +kernel
theorem dX4_addPackage_89 : decode cX4_addPackage 89 = .ok (.ireturn, 1) := by decide +kernel
set_option maxRecDepth 20000 in
theorem ggX4_subscribe_X4_existingPack : GoodIn wsX4_subscribe wsX4_existingPack := goodIn_ca (goodIn_r _ [8, 9, 10, 11, 12, 54, 55, 56, 57, 58, 59] (by decide +kernel) (by decide +kernel)) (goodIn_sub (fun _ h => List.mem_cons_of_mem _ (List.mem_append_right _ h)) (by decide +kernel))
set_option maxRecDepth 20000 in
theorem gX4_subscribe_X4_existingPack : GoodIn wsX4_subscribe (wsV RX4 64 RX4 yX4_existingPack wsX4_existingPack) := goodIn_app (goodIn_of _ (by decide +kernel)) ggX4_subscribe_X4_existingPack
set_option maxRecDepth 20000 in
theorem ggX4_subscribe_X1_isOnAt : GoodIn wsX4_subscribe wsX1_isOnAt := goodIn_r _ [17, 18, 19, 20, 21, 16, 22, 23, 24, 25, 60, 61, 62, 63, 64, 65] (by decide +kernel) (by decide +kernel)
set_option maxRecDepth 20000 in
theorem gX4_subscribe_X1_isOnAt : GoodIn wsX4_subscribe (wsV RX4 72 RX1 yX1_isOnAt wsX1_isOnAt) := goodIn_app (goodIn_of _ (by decide +kernel)) ggX4_subscribe_X1_isOnAt
set_option maxRecDepth 20000 in
theorem ggX4_subscribe_X4_change : GoodIn wsX4_subscribe wsX4_change := goodIn_r _ [29, 30, 2, 31, 32, 33, 16, 34, 35, 36, 37, 23, 38, 39, 40, 41, 42, 43, 44, 45, 46, 47, 54, 55, 56, 57, 58, 59, 60, 61, 62, 63, 64, 65] (by decide +kernel) (by decide +kernel)
set_option maxRecDepth 20000 in
theorem gX4_subscribe_X4_change : GoodIn wsX4_subscribe (wsV RX4 80 RX4 yX4_change wsX4_change) := goodIn_app (goodIn_of _ (by decide +kernel)) ggX4_subscribe_X4_change
theorem dX4_subscribe_0 : decode cX4_subscribe 0 = .ok (.aload_n 0, 1) := by decide +kernel
theorem dX4_subscribe_1 : decode cX4_subscribe 1 = .ok (.iload_n 1, 1) := by decide +kernel
theorem dX4_subscribe_2 : decode cX4_subscribe 2 = .ok (.invokevirtual 64, 3) := by decide +kernel
theorem dX4_subscribe_5 : decode cX4_subscribe 5 = .ok (.getfield 68, 3) := by decide +kernel
theorem dX4_subscribe_8 : decode cX4_subscribe 8 = .ok (.astore_n 3, 1) := by decide +kernel
theorem dX4_subscribe_9 : decode cX4_subscribe 9 = .ok (.aload_n 3, 1) := by decide +kernel
theorem dX4_subscribe_10 : decode cX4_subscribe 10 = .ok (.aload_n 0, 1) := by decide +kernel
theorem dX4_subscribe_11 : decode cX4_subscribe 11 = .ok (.getfield 31, 3) := by decide +kernel
theorem dX4_subscribe_14 : decode cX4_subscribe 14 = .ok (.invokevirtual 72, 3) := by decide +kernel
theorem dX4_subscribe_17 : decode cX4_subscribe 17 = .ok (.istore 4, 2) := by decide +kernel
theorem dX4_subscribe_19 : decode cX4_subscribe 19 = .ok (.aload_n 0, 1) := by decide +kernel
theorem dX4_subscribe_20 : decode cX4_subscribe 20 = .ok (.aload_n 3, 1) := by decide +kernel
theorem dX4_subscribe_21 : decode cX4_subscribe 21 = .ok (.iload_n 2, 1) := by decide +kernel
theorem dX4_subscribe_22 : decode cX4_subscribe 22 = .ok (.ifCond .eq 9, 3) := by decide +kernel
theorem dX4_subscribe_25 : decode cX4_subscribe 25 = .ok (.ldc2_w 78, 3) := by decide +kernel
theorem dX4_subscribe_28 : decode cX4_subscribe 28 = .ok (.goto 4, 3) := by decide +kernel
theorem dX4_subscribe_31 : decode cX4_subscribe 31 = .ok (.lconst 0, 1) := by decide +kernel
theorem dX4_subscribe_32 : decode cX4_subscribe 32 = .ok (.iconst 0, 1) := by decide +kernel
theorem dX4_subscribe_33 : decode cX4_subscribe 33 = .ok (.invokevirtual 80, 3) := by decide +kernel
theorem dX4_subscribe_36 : decode cX4_subscribe 36 = .ok (.iload 4, 2) := by decide +kernel
theorem dX4_subscribe_38 : decode cX4_subscribe 38 = .ok (.ireturn, 1) := by decide +kernel
set_option maxRecDepth 20000 in
theorem ggX4_come_X4_existingStay : GoodIn wsX4_come wsX4_existingStay := goodIn_ca (goodIn_ca (goodIn_r _ [6, 7, 8, 9, 5, 10, 11, 12, 13, 14, 15, 16, 17, 18, 19, 20, 21, 22, 23, 24, 25, 26, 27, 71, 72, 73, 74, 75, 76, 77, 78, 79, 80, 81, 82] (by decide +kernel) (by decide +kernel)) (goodIn_sub (fun _ h => List.mem_cons_of_mem _ (List.mem_append_left _ (List.mem_append_left _ (List.mem_append_right _ h)))) (by decide +kernel))) (goodIn_sub (fun _ h => List.mem_cons_of_mem _ (List.mem_append_left _ (List.mem_append_right _ h))) (by decide +kernel))
set_option maxRecDepth 20000 in
theorem gX4_come_X4_existingStay : GoodIn wsX4_come (wsV RX4 84 RX4 yX4_existingStay wsX4_existingStay) := goodIn_app (goodIn_of _ (by decide +kernel)) ggX4_come_X4_existingStay
set_option maxRecDepth 20000 in
theorem ggX4_come_X4_checkRange : GoodIn wsX4_come wsX4_checkRange := goodIn_ca (goodIn_r _ [30, 31, 32] (by decide +kernel) (by decide +kernel)) (goodIn_sub (fun _ h => List.mem_cons_of_mem _ (List.mem_append_right _ h)) (by decide +kernel))
set_option maxRecDepth 20000 in
theorem gX4_come_X4_checkRange : GoodIn wsX4_come (va_wsS RX4 34 yX4_checkRange wsX4_checkRange) := goodIn_app (goodIn_of _ (by decide +kernel)) ggX4_come_X4_checkRange
set_option maxRecDepth 20000 in
theorem ggX4_come_X1_isOnAt : GoodIn wsX4_come wsX1_isOnAt := goodIn_r _ [37, 38, 39, 40, 41, 36, 42, 43, 44, 45, 83, 84, 85, 86, 87, 88] (by decide +kernel) (by decide +kernel)
set_option maxRecDepth 20000 in
theorem gX4_come_X1_isOnAt : GoodIn wsX4_come (wsV RX4 72 RX1 yX1_isOnAt wsX1_isOnAt) := goodIn_app (goodIn_of _ (by decide +kernel)) ggX4_come_X1_isOnAt
set_option maxRecDepth 20000 in
theorem ggX4_come_X4_yearsBetween : GoodIn wsX4_come wsX4_yearsBetween := goodIn_r _ [48] (by decide +kernel) (by decide +kernel)
set_option maxRecDepth 20000 in
theorem gX4_come_X4_yearsBetween : GoodIn wsX4_come (va_wsS RX4 88 yX4_yearsBetween wsX4_yearsBetween) := goodIn_app (goodIn_of _ (by decide +kernel)) ggX4_come_X4_yearsBetween
set_option maxRecDepth 20000 in
theorem ggX4_come_X4_change : GoodIn wsX4_come wsX4_change := goodIn_r _ [52, 53, 1, 54, 55, 56, 36, 57, 58, 59, 60, 43, 61, 62, 63, 64, 65, 66, 67, 68, 69, 70, 71, 72, 73, 74, 75, 76, 83, 84, 85, 86, 87, 88] (by decide +kernel) (by decide +kernel)
set_option maxRecDepth 20000 in
theorem gX4_come_X4_change : GoodIn wsX4_come (wsV RX4 80 RX4 yX4_change wsX4_change) := goodIn_app (goodIn_of _ (by decide +kernel)) ggX4_come_X4_change
theorem dX4_come_0 : decode cX4_come 0 = .ok (.aload_n 0, 1) := by decide +kernel
theorem dX4_come_1 : decode cX4_come 1 = .ok (.iload_n 1, 1) := by decide +kernel
theorem dX4_come_2 : decode cX4_come 2 = .ok (.iload_n 2, 1) := by decide +kernel
theorem dX4_come_3 : decode cX4_come 3 = .ok (.invokevirtual 84, 3) := by decide +kernel
theorem dX4_come_6 : decode cX4_come 6 = .ok (.astore 6, 2) := by decide +kernel
theorem dX4_come_8 : decode cX4_come 8 = .ok (.iload_n 3, 1) := by decide +kernel
theorem dX4_come_9 : decode cX4_come 9 = .ok (.iconst 0, 1) := by decide +kernel
theorem dX4_come_10 : decode cX4_come 10 = .ok (.bipush 55, 2) := by decide +kernel
theorem dX4_come_12 : decode cX4_come 12 = .ok (.invokestatic 34, 3) := by decide +kernel
theorem dX4_come_15 : decode cX4_come 15 = .ok (.iload 4, 2) := by decide +kernel
theorem dX4_come_17 : decode cX4_come 17 = .ok (.iload_n 3, 1) := by decide +kernel
theorem dX4_come_18 : decode cX4_come 18 = .ok (.bipush 55, 2) := by decide +kernel
theorem dX4_come_20 : decode cX4_come 20 = .ok (.invokestatic 34, 3) := by decide +kernel
theorem dX4_come_23 : decode cX4_come 23 = .ok (.iload 5, 2) := by decide +kernel
theorem dX4_come_25 : decode cX4_come 25 = .ok (.iconst 0, 1) := by decide +kernel
theorem dX4_come_26 : decode cX4_come 26 = .ok (.bipush 20, 2) := by decide +kernel
theorem dX4_come_28 : decode cX4_come 28 = .ok (.invokestatic 34, 3) := by decide +kernel
theorem dX4_come_31 : decode cX4_come 31 = .ok (.aload 6, 2) := by decide +kernel
theorem dX4_come_33 : decode cX4_come 33 = .ok (.aload_n 0, 1) := by decide +kernel
theorem dX4_come_34 : decode cX4_come 34 = .ok (.getfield 31, 3) := by decide +kernel
theorem dX4_come_37 : decode cX4_come 37 = .ok (.invokevirtual 72, 3) := by decide +kernel
theorem dX4_come_40 : decode cX4_come 40 = .ok (.istore 7, 2) := by decide +kernel
theorem dX4_come_42 : decode cX4_come 42 = .ok (.aload_n 0, 1) := by decide +kernel
theorem dX4_come_43 : decode cX4_come 43 = .ok (.aload 6, 2) := by decide +kernel
theorem dX4_come_45 : decode cX4_come 45 = .ok (.iload_n 3, 1) := by decide +kernel
theorem dX4_come_46 : decode cX4_come 46 = .ok (.iload 4, 2) := by decide +kernel
theorem dX4_come_48 : decode cX4_come 48 = .ok (.invokestatic 88, 3) := by decide +kernel
theorem dX4_come_51 : decode cX4_come 51 = .ok (.iload 5, 2) := by decide +kernel
theorem dX4_come_53 : decode cX4_come 53 = .ok (.invokevirtual 80, 3) := by decide +kernel
theorem dX4_come_56 : decode cX4_come 56 = .ok (.iload 7, 2) := by decide +kernel
theorem dX4_come_58 : decode cX4_come 58 = .ok (.ireturn, 1) := by decide +kernel
set_option maxRecDepth 20000 in
theorem ggX4_go_X4_existingStay : GoodIn wsX4_go wsX4_existingStay := goodIn_ca (goodIn_ca (goodIn_r _ [8, 9, 10, 11, 7, 12, 13, 14, 15, 16, 17, 18, 19, 20, 21, 22, 23, 24, 25, 26, 27, 28, 29, 65, 66, 67, 68, 69, 70, 71, 72, 73, 74, 75, 76] (by decide +kernel) (by decide +kernel)) (goodIn_sub (fun _ h => List.mem_cons_of_mem _ (List.mem_append_left _ (List.mem_append_right _ h))) (by decide +kernel))) (goodIn_sub (fun _ h => List.mem_cons_of_mem _ (List.mem_append_right _ h)) (by decide +kernel))
set_option maxRecDepth 20000 in
theorem gX4_go_X4_existingStay : GoodIn wsX4_go (wsV RX4 84 RX4 yX4_existingStay wsX4_existingStay) := goodIn_app (goodIn_of _ (by decide +kernel)) ggX4_go_X4_existingStay
set_option maxRecDepth 20000 in
theorem ggX4_go_X1_isOnAt : GoodIn wsX4_go wsX1_isOnAt := goodIn_r _ [34, 35, 36, 37, 38, 33, 39, 40, 41, 42, 77, 78, 79, 80, 81, 82] (by decide +kernel) (by decide +kernel)
set_option maxRecDepth 20000 in
theorem gX4_go_X1_isOnAt : GoodIn wsX4_go (wsV RX4 72 RX1 yX1_isOnAt wsX1_isOnAt) := goodIn_app (goodIn_of _ (by decide +kernel)) ggX4_go_X1_isOnAt
set_option maxRecDepth 20000 in
theorem ggX4_go_X4_change : GoodIn wsX4_go wsX4_change := goodIn_r _ [46, 47, 3, 48, 49, 50, 33, 51, 52, 53, 54, 40, 55, 56, 57, 58, 59, 60, 61, 62, 63, 64, 65, 66, 67, 68, 69, 70, 77, 78, 79, 80, 81, 82] (by decide +kernel) (by decide +kernel)
set_option maxRecDepth 20000 in
theorem gX4_go_X4_change : GoodIn wsX4_go (wsV RX4 80 RX4 yX4_change wsX4_change) := goodIn_app (goodIn_of _ (by decide +kernel)) ggX4_go_X4_change
theorem dX4_go_0 : decode cX4_go 0 = .ok (.aload_n 0, 1) := by decide +kernel
theorem dX4_go_1 : decode cX4_go 1 = .ok (.iload_n 1, 1) := by decide +kernel
theorem dX4_go_2 : decode cX4_go 2 = .ok (.iload_n 2, 1) := by decide +kernel
theorem dX4_go_3 : decode cX4_go 3 = .ok (.invokevirtual 84, 3) := by decide +kernel
theorem dX4_go_6 : decode cX4_go 6 = .ok (.astore_n 3, 1) := by decide +kernel
theorem dX4_go_7 : decode cX4_go 7 = .ok (.aload_n 3, 1) := by decide +kernel
theorem dX4_go_8 : decode cX4_go 8 = .ok (.aload_n 0, 1) := by decide +kernel
theorem dX4_go_9 : decode cX4_go 9 = .ok (.getfield 31, 3) := by decide +kernel
theorem dX4_go_12 : decode cX4_go 12 = .ok (.invokevirtual 72, 3) := by decide +kernel
theorem dX4_go_15 : decode cX4_go 15 = .ok (.ifCond .ne 13, 3) := by decide +kernel
theorem dX4_go_18 : decode cX4_go 18 = .ok (.new 38, 3) := by decide +kernel
theorem dX4_go_21 : decode cX4_go 21 = .ok (.dup, 1) := by decide +kernel
theorem dX4_go_22 : decode cX4_go 22 = .ok (.ldc 92, 2) := by decide +kernel
theorem dX4_go_24 : decode cX4_go 24 = .ok (.invokespecial 42, 3) := by decide +kernel
theorem dX4_go_27 : decode cX4_go 27 = .ok (.athrow, 1) := by decide +kernel
theorem dX4_go_28 : decode cX4_go 28 = .ok (.aload_n 0, 1) := by decide +kernel
theorem dX4_go_29 : decode cX4_go 29 = .ok (.aload_n 3, 1) := by decide +kernel
theorem dX4_go_30 : decode cX4_go 30 = .ok (.lconst 0, 1) := by decide +kernel
theorem dX4_go_31 : decode cX4_go 31 = .ok (.iconst 0, 1) := by decide +kernel
theorem dX4_go_32 : decode cX4_go 32 = .ok (.invokevirtual 80, 3) := by decide +kernel
theorem dX4_go_35 : decode cX4_go 35 = .ok (.return_, 1) := by decide +kernel
set_option maxRecDepth 20000 in
theorem ggX4_pass_X4_checkRange : GoodIn wsX4_pass wsX4_checkRange := goodIn_ca (goodIn_r _ [7, 8, 9] (by decide +kernel) (by decide +kernel)) (goodIn_sub (fun _ h => List.mem_cons_of_mem _ (List.mem_append_right _ h)) (by decide +kernel))
set_option maxRecDepth 20000 in
theorem gX4_pass_X4_checkRange : GoodIn wsX4_pass (va_wsS RX4 34 yX4_checkRange wsX4_checkRange) := goodIn_app (goodIn_of _ (by decide +kernel)) ggX4_pass_X4_checkRange
theorem dX4_pass_0 : decode cX4_pass 0 = .ok (.iload_n 1, 1) := by decide +kernel
theorem dX4_pass_1 : decode cX4_pass 1 = .ok (.iconst 1, 1) := by decide +kernel
theorem dX4_pass_2 : decode cX4_pass 2 = .ok (.sipush 20000, 3) := by decide +kernel
theorem dX4_pass_5 : decode cX4_pass 5 = .ok (.invokestatic 34, 3) := by decide +kernel
theorem dX4_pass_8 : decode cX4_pass 8 = .ok (.iload_n 1, 1) := by decide +kernel
theorem dX4_pass_9 : decode cX4_pass 9 = .ok (.sipush 20000, 3) := by decide +kernel
theorem dX4_pass_12 : decode cX4_pass 12 = .ok (.aload_n 0, 1) := by decide +kernel
theorem dX4_pass_13 : decode cX4_pass 13 = .ok (.getfield 31, 3) := by decide +kernel
theorem dX4_pass_16 : decode cX4_pass 16 = .ok (.isub, 1) := by decide +kernel
theorem dX4_pass_17 : decode cX4_pass 17 = .ok (.if_icmp .le 13, 3) := by decide +kernel
theorem dX4_pass_20 : decode cX4_pass 20 = .ok (.new 38, 3) := by decide +kernel
theorem dX4_pass_23 : decode cX4_pass 23 = .ok (.dup, 1) := by decide +kernel
theorem dX4_pass_24 : decode cX4_pass 24 = .ok (.ldc 94, 2) := by decide +kernel
theorem dX4_pass_26 : decode cX4_pass 26 = .ok (.invokespecial 42, 3) := by decide +kernel
theorem dX4_pass_29 : decode cX4_pass 29 = .ok (.athrow, 1) := by decide +kernel
theorem dX4_pass_30 : decode cX4_pass 30 = .ok (.aload_n 0, 1) := by decide +kernel
theorem dX4_pass_31 : decode cX4_pass 31 = .ok (.dup, 1) := by decide +kernel
theorem dX4_pass_32 : decode cX4_pass 32 = .ok (.getfield 31, 3) := by decide +kernel
theorem dX4_pass_35 : decode cX4_pass 35 = .ok (.iload_n 1, 1) := by decide +kernel
theorem dX4_pass_36 : decode cX4_pass 36 = .ok (.iadd, 1) := by decide +kernel
theorem dX4_pass_37 : decode cX4_pass 37 = .ok (.putfield 31, 3) := by decide +kernel
theorem dX4_pass_40 : decode cX4_pass 40 = .ok (.aload_n 0, 1) := by decide +kernel
theorem dX4_pass_41 : decode cX4_pass 41 = .ok (.getfield 31, 3) := by decide +kernel
theorem dX4_pass_44 : decode cX4_pass 44 = .ok (.ireturn, 1) := by decide +kernel
theorem dX4_today_0 : decode cX4_today 0 = .ok (.aload_n 0, 1) := by decide +kernel
theorem dX4_today_1 : decode cX4_today 1 = .ok (.getfield 31, 3) := by decide +kernel
theorem dX4_today_4 : decode cX4_today 4 = .ok (.ireturn, 1) := by decide +kernel
set_option maxRecDepth 20000 in
theorem ggX4_isSubscribed_X4_existingPack : GoodIn wsX4_isSubscribed wsX4_existingPack := goodIn_ca (goodIn_r _ [7, 8, 9, 10, 11, 36, 37, 38, 39, 40, 41] (by decide +kernel) (by decide +kernel)) (goodIn_sub (fun _ h => List.mem_cons_of_mem _ (List.mem_append_left _ (List.mem_append_right _ h))) (by decide +kernel))
set_option maxRecDepth 20000 in
theorem gX4_isSubscribed_X4_existingPack : GoodIn wsX4_isSubscribed (wsV RX4 64 RX4 yX4_existingPack wsX4_existingPack) := goodIn_app (goodIn_of _ (by decide +kernel)) ggX4_isSubscribed_X4_existingPack
set_option maxRecDepth 20000 in
theorem ggX4_isSubscribed_X4_checkRange : GoodIn wsX4_isSubscribed wsX4_checkRange := goodIn_ca (goodIn_r _ [14, 15, 16] (by decide +kernel) (by decide +kernel)) (goodIn_sub (fun _ h => List.mem_cons_of_mem _ (List.mem_append_right _ h)) (by decide +kernel))
set_option maxRecDepth 20000 in
theorem gX4_isSubscribed_X4_checkRange : GoodIn wsX4_isSubscribed (va_wsS RX4 34 yX4_checkRange wsX4_checkRange) := goodIn_app (goodIn_of _ (by decide +kernel)) ggX4_isSubscribed_X4_checkRange
set_option maxRecDepth 20000 in
theorem ggX4_isSubscribed_X1_isOnAt : GoodIn wsX4_isSubscribed wsX1_isOnAt := goodIn_r _ [21, 22, 23, 24, 25, 20, 26, 27, 28, 29, 42, 43, 44, 45, 46, 47] (by decide +kernel) (by decide +kernel)
set_option maxRecDepth 20000 in
theorem gX4_isSubscribed_X1_isOnAt : GoodIn wsX4_isSubscribed (wsV RX4 72 RX1 yX1_isOnAt wsX1_isOnAt) := goodIn_app (goodIn_of _ (by decide +kernel)) ggX4_isSubscribed_X1_isOnAt
theorem dX4_isSubscribed_0 : decode cX4_isSubscribed 0 = .ok (.aload_n 0, 1) := by decide +kernel
theorem dX4_isSubscribed_1 : decode cX4_isSubscribed 1 = .ok (.iload_n 1, 1) := by decide +kernel
theorem dX4_isSubscribed_2 : decode cX4_isSubscribed 2 = .ok (.invokevirtual 64, 3) := by decide +kernel
theorem dX4_isSubscribed_5 : decode cX4_isSubscribed 5 = .ok (.getfield 68, 3) := by decide +kernel
theorem dX4_isSubscribed_8 : decode cX4_isSubscribed 8 = .ok (.astore_n 3, 1) := by decide +kernel
theorem dX4_isSubscribed_9 : decode cX4_isSubscribed 9 = .ok (.iload_n 2, 1) := by decide +kernel
theorem dX4_isSubscribed_10 : decode cX4_isSubscribed 10 = .ok (.iconst 0, 1) := by decide +kernel
theorem dX4_isSubscribed_11 : decode cX4_isSubscribed 11 = .ok (.aload_n 0, 1) := by decide +kernel
theorem dX4_isSubscribed_12 : decode cX4_isSubscribed 12 = .ok (.getfield 31, 3) := by decide +kernel
theorem dX4_isSubscribed_15 : decode cX4_isSubscribed 15 = .ok (.invokestatic 34, 3) := by decide +kernel
theorem dX4_isSubscribed_18 : decode cX4_isSubscribed 18 = .ok (.aload_n 3, 1) := by decide +kernel
theorem dX4_isSubscribed_19 : decode cX4_isSubscribed 19 = .ok (.iload_n 2, 1) := by decide +kernel
theorem dX4_isSubscribed_20 : decode cX4_isSubscribed 20 = .ok (.invokevirtual 72, 3) := by decide +kernel
theorem dX4_isSubscribed_23 : decode cX4_isSubscribed 23 = .ok (.ireturn, 1) := by decide +kernel
set_option maxRecDepth 20000 in
theorem ggX4_isIn_X4_existingStay : GoodIn wsX4_isIn wsX4_existingStay := goodIn_ca (goodIn_ca (goodIn_r _ [6, 7, 8, 9, 5, 10, 11, 12, 13, 14, 15, 16, 17, 18, 19, 20, 21, 22, 23, 24, 25, 26, 27, 46, 47, 48, 49, 50, 51, 52, 53, 54, 55, 56, 57] (by decide +kernel) (by decide +kernel)) (goodIn_sub (fun _ h => List.mem_cons_of_mem _ (List.mem_append_left _ (List.mem_append_left _ (List.mem_append_right _ h)))) (by decide +kernel))) (goodIn_sub (fun _ h => List.mem_cons_of_mem _ (List.mem_append_left _ (List.mem_append_right _ h))) (by decide +kernel))
set_option maxRecDepth 20000 in
theorem gX4_isIn_X4_existingStay : GoodIn wsX4_isIn (wsV RX4 84 RX4 yX4_existingStay wsX4_existingStay) := goodIn_app (goodIn_of _ (by decide +kernel)) ggX4_isIn_X4_existingStay
set_option maxRecDepth 20000 in
theorem ggX4_isIn_X4_checkRange : GoodIn wsX4_isIn wsX4_checkRange := goodIn_ca (goodIn_r _ [30, 31, 32] (by decide +kernel) (by decide +kernel)) (goodIn_sub (fun _ h => List.mem_cons_of_mem _ (List.mem_append_right _ h)) (by decide +kernel))
set_option maxRecDepth 20000 in
theorem gX4_isIn_X4_checkRange : GoodIn wsX4_isIn (va_wsS RX4 34 yX4_checkRange wsX4_checkRange) := goodIn_app (goodIn_of _ (by decide +kernel)) ggX4_isIn_X4_checkRange
set_option maxRecDepth 20000 in
theorem ggX4_isIn_X1_isOnAt : GoodIn wsX4_isIn wsX1_isOnAt := goodIn_r _ [37, 38, 39, 40, 41, 36, 42, 43, 44, 45, 58, 59, 60, 61, 62, 63] (by decide +kernel) (by decide +kernel)
set_option maxRecDepth 20000 in
theorem gX4_isIn_X1_isOnAt : GoodIn wsX4_isIn (wsV RX4 72 RX1 yX1_isOnAt wsX1_isOnAt) := goodIn_app (goodIn_of _ (by decide +kernel)) ggX4_isIn_X1_isOnAt
theorem dX4_isIn_0 : decode cX4_isIn 0 = .ok (.aload_n 0, 1) := by decide +kernel
theorem dX4_isIn_1 : decode cX4_isIn 1 = .ok (.iload_n 1, 1) := by decide +kernel
theorem dX4_isIn_2 : decode cX4_isIn 2 = .ok (.iload_n 2, 1) := by decide +kernel
theorem dX4_isIn_3 : decode cX4_isIn 3 = .ok (.invokevirtual 84, 3) := by decide +kernel
theorem dX4_isIn_6 : decode cX4_isIn 6 = .ok (.astore 4, 2) := by decide +kernel
theorem dX4_isIn_8 : decode cX4_isIn 8 = .ok (.iload_n 3, 1) := by decide +kernel
theorem dX4_isIn_9 : decode cX4_isIn 9 = .ok (.iconst 0, 1) := by decide +kernel
theorem dX4_isIn_10 : decode cX4_isIn 10 = .ok (.aload_n 0, 1) := by decide +kernel
theorem dX4_isIn_11 : decode cX4_isIn 11 = .ok (.getfield 31, 3) := by decide +kernel
theorem dX4_isIn_14 : decode cX4_isIn 14 = .ok (.invokestatic 34, 3) := by decide +kernel
theorem dX4_isIn_17 : decode cX4_isIn 17 = .ok (.aload 4, 2) := by decide +kernel
theorem dX4_isIn_19 : decode cX4_isIn 19 = .ok (.iload_n 3, 1) := by decide +kernel
theorem dX4_isIn_20 : decode cX4_isIn 20 = .ok (.invokevirtual 72, 3) := by decide +kernel
theorem dX4_isIn_23 : decode cX4_isIn 23 = .ok (.ireturn, 1) := by decide +kernel
set_option maxRecDepth 20000 in
theorem ggX4_report_X4_existingStay : GoodIn wsX4_report wsX4_existingStay := goodIn_ca (goodIn_ca (goodIn_r _ [6, 7, 8, 9, 5, 10, 11, 12, 13, 14, 15, 16, 17, 18, 19, 20, 21, 22, 23, 24, 25, 26, 27, 30, 31, 32, 33, 34, 35, 36, 37, 38, 39, 40, 41] (by decide +kernel) (by decide +kernel)) (goodIn_sub (fun _ h => List.mem_cons_of_mem _ (List.mem_append_left _ (List.mem_append_right _ h))) (by decide +kernel))) (goodIn_sub (fun _ h => List.mem_cons_of_mem _ (List.mem_append_right _ h)) (by decide +kernel))
set_option maxRecDepth 20000 in
theorem gX4_report_X4_existingStay : GoodIn wsX4_report (wsV RX4 84 RX4 yX4_existingStay wsX4_existingStay) := goodIn_app (goodIn_of _ (by decide +kernel)) ggX4_report_X4_existingStay
theorem dX4_report_0 : decode cX4_report 0 = .ok (.aload_n 0, 1) := by decide +kernel
theorem dX4_report_1 : decode cX4_report 1 = .ok (.iload_n 1, 1) := by decide +kernel
theorem dX4_report_2 : decode cX4_report 2 = .ok (.iload_n 2, 1) := by decide +kernel
theorem dX4_report_3 : decode cX4_report 3 = .ok (.invokevirtual 84, 3) := by decide +kernel
theorem dX4_report_6 : decode cX4_report 6 = .ok (.astore_n 3, 1) := by decide +kernel
theorem dX4_report_7 : decode cX4_report 7 = .ok (.aload_n 3, 1) := by decide +kernel
theorem dX4_report_8 : decode cX4_report 8 = .ok (.dup, 1) := by decide +kernel
theorem dX4_report_9 : decode cX4_report 9 = .ok (.getfield 96, 3) := by decide +kernel
theorem dX4_report_12 : decode cX4_report 12 = .ok (.iconst 1, 1) := by decide +kernel
theorem dX4_report_13 : decode cX4_report 13 = .ok (.iadd, 1) := by decide +kernel
theorem dX4_report_14 : decode cX4_report 14 = .ok (.putfield 96, 3) := by decide +kernel
theorem dX4_report_17 : decode cX4_report 17 = .ok (.aload_n 3, 1) := by decide +kernel
theorem dX4_report_18 : decode cX4_report 18 = .ok (.getfield 96, 3) := by decide +kernel
theorem dX4_report_21 : decode cX4_report 21 = .ok (.ireturn, 1) := by decide +kernel
set_option maxRecDepth 20000 in
theorem ggX4_mend_X4_existingStay : GoodIn wsX4_mend wsX4_existingStay := goodIn_ca (goodIn_ca (goodIn_r _ [6, 7, 8, 9, 5, 10, 11, 12, 13, 14, 15, 16, 17, 18, 19, 20, 21, 22, 23, 24, 25, 26, 27, 30, 31, 32, 33, 34, 35, 36, 37, 38, 39, 40, 41] (by decide +kernel) (by decide +kernel)) (goodIn_sub (fun _ h => List.mem_cons_of_mem _ (List.mem_append_left _ (List.mem_append_right _ h))) (by decide +kernel))) (goodIn_sub (fun _ h => List.mem_cons_of_mem _ (List.mem_append_right _ h)) (by decide +kernel))
set_option maxRecDepth 20000 in
theorem gX4_mend_X4_existingStay : GoodIn wsX4_mend (wsV RX4 84 RX4 yX4_existingStay wsX4_existingStay) := goodIn_app (goodIn_of _ (by decide +kernel)) ggX4_mend_X4_existingStay
theorem dX4_mend_0 : decode cX4_mend 0 = .ok (.aload_n 0, 1) := by decide +kernel
theorem dX4_mend_1 : decode cX4_mend 1 = .ok (.iload_n 1, 1) := by decide +kernel
theorem dX4_mend_2 : decode cX4_mend 2 = .ok (.iload_n 2, 1) := by decide +kernel
theorem dX4_mend_3 : decode cX4_mend 3 = .ok (.invokevirtual 84, 3) := by decide +kernel
theorem dX4_mend_6 : decode cX4_mend 6 = .ok (.astore_n 3, 1) := by decide +kernel
theorem dX4_mend_7 : decode cX4_mend 7 = .ok (.aload_n 3, 1) := by decide +kernel
theorem dX4_mend_8 : decode cX4_mend 8 = .ok (.getfield 96, 3) := by decide +kernel
theorem dX4_mend_11 : decode cX4_mend 11 = .ok (.istore 4, 2) := by decide +kernel
theorem dX4_mend_13 : decode cX4_mend 13 = .ok (.aload_n 3, 1) := by decide +kernel
theorem dX4_mend_14 : decode cX4_mend 14 = .ok (.iconst 0, 1) := by decide +kernel
theorem dX4_mend_15 : decode cX4_mend 15 = .ok (.putfield 96, 3) := by decide +kernel
theorem dX4_mend_18 : decode cX4_mend 18 = .ok (.iload 4, 2) := by decide +kernel
theorem dX4_mend_20 : decode cX4_mend 20 = .ok (.ireturn, 1) := by decide +kernel
set_option maxRecDepth 20000 in
theorem ggX4_covers_X4_existingPack : GoodIn wsX4_covers wsX4_existingPack := goodIn_ca (goodIn_r _ [5, 6, 7, 8, 9, 82, 83, 84, 85, 86, 87] (by decide +kernel) (by decide +kernel)) (goodIn_sub (fun _ h => List.mem_cons_of_mem _ (List.mem_append_left _ (List.mem_append_left _ (List.mem_append_right _ h)))) (by decide +kernel))
set_option maxRecDepth 20000 in
theorem gX4_covers_X4_existingPack : GoodIn wsX4_covers (wsV RX4 64 RX4 yX4_existingPack wsX4_existingPack) := goodIn_app (goodIn_of _ (by decide +kernel)) ggX4_covers_X4_existingPack
set_option maxRecDepth 20000 in
theorem ggX4_covers_X4_existingTitle : GoodIn wsX4_covers wsX4_existingTitle := goodIn_ca (goodIn_r _ [13, 6, 7, 14, 15, 82, 83, 84, 85, 86, 87] (by decide +kernel) (by decide +kernel)) (goodIn_sub (fun _ h => List.mem_cons_of_mem _ (List.mem_append_left _ (List.mem_append_left _ (List.mem_append_right _ h)))) (by decide +kernel))
set_option maxRecDepth 20000 in
theorem gX4_covers_X4_existingTitle : GoodIn wsX4_covers (wsV RX4 48 RX4 yX4_existingTitle wsX4_existingTitle) := goodIn_app (goodIn_of _ (by decide +kernel)) ggX4_covers_X4_existingTitle
set_option maxRecDepth 20000 in
theorem ggX4_covers_X4_checkArticle : GoodIn wsX4_covers wsX4_checkArticle := goodIn_ca (goodIn_r _ [19, 20, 21, 22, 4, 23, 24, 25, 82, 83, 84, 85, 86, 87] (by decide +kernel) (by decide +kernel)) (goodIn_sub (fun _ h => List.mem_cons_of_mem _ (List.mem_append_left _ (List.mem_append_right _ h))) (by decide +kernel))
set_option maxRecDepth 20000 in
theorem gX4_covers_X4_checkArticle : GoodIn wsX4_covers (wsV RX4 99 RX4 yX4_checkArticle wsX4_checkArticle) := goodIn_app (goodIn_of _ (by decide +kernel)) ggX4_covers_X4_checkArticle
set_option maxRecDepth 20000 in
theorem ggX4_covers_X4_isWay : GoodIn wsX4_covers wsX4_isWay := goodIn_ca (goodIn_r _ [28, 29, 30, 31, 32, 33, 34, 35, 36, 37, 38, 39, 40, 41, 42, 43, 44, 45, 46, 47, 48, 7, 49, 50, 51, 52, 53, 54, 55, 56, 57, 58, 59, 60, 61, 62, 63, 64, 4, 65, 66, 67, 68, 69, 70, 71, 72, 73, 74, 75, 76, 77, 78, 79, 80, 81, 88, 89, 90, 91, 92, 93, 94, 95, 96, 97, 98, 99] (by decide +kernel) (by decide +kernel)) (goodIn_sub (fun _ h => List.mem_cons_of_mem _ (List.mem_append_right _ h)) (by decide +kernel))
set_option maxRecDepth 20000 in
theorem gX4_covers_X4_isWay : GoodIn wsX4_covers (va_wsS RX4 102 yX4_isWay wsX4_isWay) := goodIn_app (goodIn_of _ (by decide +kernel)) ggX4_covers_X4_isWay
theorem dX4_covers_0 : decode cX4_covers 0 = .ok (.aload_n 0, 1) := by decide +kernel
theorem dX4_covers_1 : decode cX4_covers 1 = .ok (.iload_n 1, 1) := by decide +kernel
theorem dX4_covers_2 : decode cX4_covers 2 = .ok (.invokevirtual 64, 3) := by decide +kernel
theorem dX4_covers_5 : decode cX4_covers 5 = .ok (.astore 6, 2) := by decide +kernel
theorem dX4_covers_7 : decode cX4_covers 7 = .ok (.aload_n 0, 1) := by decide +kernel
theorem dX4_covers_8 : decode cX4_covers 8 = .ok (.iload_n 2, 1) := by decide +kernel
theorem dX4_covers_9 : decode cX4_covers 9 = .ok (.invokevirtual 48, 3) := by decide +kernel
theorem dX4_covers_12 : decode cX4_covers 12 = .ok (.pop, 1) := by decide +kernel
theorem dX4_covers_13 : decode cX4_covers 13 = .ok (.aload_n 0, 1) := by decide +kernel
theorem dX4_covers_14 : decode cX4_covers 14 = .ok (.iload_n 3, 1) := by decide +kernel
theorem dX4_covers_15 : decode cX4_covers 15 = .ok (.iload 4, 2) := by decide +kernel
theorem dX4_covers_17 : decode cX4_covers 17 = .ok (.iload 5, 2) := by decide +kernel
theorem dX4_covers_19 : decode cX4_covers 19 = .ok (.invokevirtual 99, 3) := by decide +kernel
theorem dX4_covers_22 : decode cX4_covers 22 = .ok (.aload 6, 2) := by decide +kernel
theorem dX4_covers_24 : decode cX4_covers 24 = .ok (.iload_n 2, 1) := by decide +kernel
theorem dX4_covers_25 : decode cX4_covers 25 = .ok (.iload_n 3, 1) := by decide +kernel
theorem dX4_covers_26 : decode cX4_covers 26 = .ok (.iload 4, 2) := by decide +kernel
theorem dX4_covers_28 : decode cX4_covers 28 = .ok (.iload 5, 2) := by decide +kernel
theorem dX4_covers_30 : decode cX4_covers 30 = .ok (.invokestatic 102, 3) := by decide +kernel
theorem dX4_covers_33 : decode cX4_covers 33 = .ok (.ireturn, 1) := by decide +kernel
set_option maxRecDepth 20000 in
theorem ggX4_ways_X4_existingTitle : GoodIn wsX4_ways wsX4_existingTitle := goodIn_ca (goodIn_r _ [5, 6, 7, 8, 9, 93, 94, 95, 96, 97, 98] (by decide +kernel) (by decide +kernel)) (goodIn_sub (fun _ h => List.mem_cons_of_mem _ (List.mem_append_left _ (List.mem_append_left _ (List.mem_append_right _ h)))) (by decide +kernel))
set_option maxRecDepth 20000 in
theorem gX4_ways_X4_existingTitle : GoodIn wsX4_ways (wsV RX4 48 RX4 yX4_existingTitle wsX4_existingTitle) := goodIn_app (goodIn_of _ (by decide +kernel)) ggX4_ways_X4_existingTitle
set_option maxRecDepth 20000 in
theorem ggX4_ways_X4_checkArticle : GoodIn wsX4_ways wsX4_checkArticle := goodIn_ca (goodIn_r _ [13, 14, 15, 16, 4, 17, 18, 19, 93, 94, 95, 96, 97, 98] (by decide +kernel) (by decide +kernel)) (goodIn_sub (fun _ h => List.mem_cons_of_mem _ (List.mem_append_left _ (List.mem_append_right _ h))) (by decide +kernel))
set_option maxRecDepth 20000 in
theorem gX4_ways_X4_checkArticle : GoodIn wsX4_ways (wsV RX4 99 RX4 yX4_checkArticle wsX4_checkArticle) := goodIn_app (goodIn_of _ (by decide +kernel)) ggX4_ways_X4_checkArticle
set_option maxRecDepth 20000 in
theorem ggX4_ways_X4_waysTo : GoodIn wsX4_ways wsX4_waysTo := goodIn_ca (goodIn_ca (goodIn_r _ [23, 24, 25, 26, 27, 4, 28, 6, 7, 29, 30, 31, 32, 33, 34, 35, 36, 37, 38, 39, 40, 41, 42, 43, 44, 45, 46, 47, 48, 49, 50, 51, 52, 53, 54, 55, 56, 57, 58, 59, 60, 61, 62, 63, 64, 65, 66, 67, 68, 69, 70, 71, 72, 73, 74, 75, 76, 77, 78, 79, 80, 81, 82, 83, 84, 85, 93, 94, 95, 96, 97, 98, 99, 100, 101, 102, 103, 104, 105, 106, 107, 108, 109, 110] (by decide +kernel) (by decide +kernel)) (goodIn_sub (fun _ h => List.mem_cons_of_mem _ (List.mem_append_left _ (List.mem_append_left _ (List.mem_append_right _ h)))) (by decide +kernel))) (goodIn_sub (fun _ h => List.mem_cons_of_mem _ (List.mem_append_right _ h)) (by decide +kernel))
set_option maxRecDepth 20000 in
theorem gX4_ways_X4_waysTo : GoodIn wsX4_ways (wsV RX4 106 RX4 yX4_waysTo wsX4_waysTo) := goodIn_app (goodIn_of _ (by decide +kernel)) ggX4_ways_X4_waysTo
set_option maxRecDepth 20000 in
theorem ggX4_ways_J6_bitCount_0f7a4 : GoodIn wsX4_ways wsJ6_bitCount_0f7a4 := goodIn_r _ [89, 90, 91, 92] (by decide +kernel) (by decide +kernel)
set_option maxRecDepth 20000 in
theorem gX4_ways_J6_bitCount_0f7a4 : GoodIn wsX4_ways (va_wsS RX4 110 yJ6_bitCount_0f7a4 wsJ6_bitCount_0f7a4) := goodIn_app (goodIn_of _ (by decide +kernel)) ggX4_ways_J6_bitCount_0f7a4
theorem dX4_ways_0 : decode cX4_ways 0 = .ok (.aload_n 0, 1) := by decide +kernel
theorem dX4_ways_1 : decode cX4_ways 1 = .ok (.iload_n 1, 1) := by decide +kernel
theorem dX4_ways_2 : decode cX4_ways 2 = .ok (.invokevirtual 48, 3) := by decide +kernel
theorem dX4_ways_5 : decode cX4_ways 5 = .ok (.pop, 1) := by decide +kernel
theorem dX4_ways_6 : decode cX4_ways 6 = .ok (.aload_n 0, 1) := by decide +kernel
theorem dX4_ways_7 : decode cX4_ways 7 = .ok (.iload_n 2, 1) := by decide +kernel
theorem dX4_ways_8 : decode cX4_ways 8 = .ok (.iload_n 3, 1) := by decide +kernel
theorem dX4_ways_9 : decode cX4_ways 9 = .ok (.iload 4, 2) := by decide +kernel
theorem dX4_ways_11 : decode cX4_ways 11 = .ok (.invokevirtual 99, 3) := by decide +kernel
theorem dX4_ways_14 : decode cX4_ways 14 = .ok (.aload_n 0, 1) := by decide +kernel
theorem dX4_ways_15 : decode cX4_ways 15 = .ok (.iload_n 1, 1) := by decide +kernel
theorem dX4_ways_16 : decode cX4_ways 16 = .ok (.iload_n 2, 1) := by decide +kernel
theorem dX4_ways_17 : decode cX4_ways 17 = .ok (.iload_n 3, 1) := by decide +kernel
theorem dX4_ways_18 : decode cX4_ways 18 = .ok (.iload 4, 2) := by decide +kernel
theorem dX4_ways_20 : decode cX4_ways 20 = .ok (.invokevirtual 106, 3) := by decide +kernel
theorem dX4_ways_23 : decode cX4_ways 23 = .ok (.invokestatic 110, 3) := by decide +kernel
theorem dX4_ways_26 : decode cX4_ways 26 = .ok (.ireturn, 1) := by decide +kernel
set_option maxRecDepth 20000 in
theorem ggX4_wayAt_X4_checkArticle : GoodIn wsX4_wayAt wsX4_checkArticle := goodIn_ca (goodIn_r _ [8, 9, 10, 11, 7, 12, 13, 14, 104, 105, 106, 107, 108, 109] (by decide +kernel) (by decide +kernel)) (goodIn_sub (fun _ h => List.mem_cons_of_mem _ (List.mem_append_left _ (List.mem_append_right _ h))) (by decide +kernel))
set_option maxRecDepth 20000 in
theorem gX4_wayAt_X4_checkArticle : GoodIn wsX4_wayAt (wsV RX4 99 RX4 yX4_checkArticle wsX4_checkArticle) := goodIn_app (goodIn_of _ (by decide +kernel)) ggX4_wayAt_X4_checkArticle
set_option maxRecDepth 20000 in
theorem ggX4_wayAt_X4_existingTitle : GoodIn wsX4_wayAt wsX4_existingTitle := goodIn_ca (goodIn_r _ [18, 1, 2, 19, 20, 104, 105, 106, 107, 108, 109] (by decide +kernel) (by decide +kernel)) (goodIn_sub (fun _ h => List.mem_cons_of_mem _ (List.mem_append_left _ (List.mem_append_left _ (List.mem_append_right _ h)))) (by decide +kernel))
set_option maxRecDepth 20000 in
theorem gX4_wayAt_X4_existingTitle : GoodIn wsX4_wayAt (wsV RX4 48 RX4 yX4_existingTitle wsX4_existingTitle) := goodIn_app (goodIn_of _ (by decide +kernel)) ggX4_wayAt_X4_existingTitle
set_option maxRecDepth 20000 in
theorem ggX4_wayAt_X4_waysTo : GoodIn wsX4_wayAt wsX4_waysTo := goodIn_ca (goodIn_ca (goodIn_r _ [24, 3, 25, 26, 27, 7, 28, 1, 2, 29, 30, 31, 32, 33, 34, 35, 36, 37, 38, 39, 40, 41, 42, 43, 44, 45, 46, 47, 48, 49, 50, 51, 52, 53, 54, 55, 56, 57, 58, 59, 60, 61, 62, 63, 64, 65, 66, 67, 68, 69, 70, 71, 72, 73, 74, 75, 76, 77, 78, 79, 80, 81, 82, 83, 84, 85, 104, 105, 106, 107, 108, 109, 110, 111, 112, 113, 114, 115, 116, 117, 118, 119, 120, 121] (by decide +kernel) (by decide +kernel)) (goodIn_sub (fun _ h => List.mem_cons_of_mem _ (List.mem_append_left _ (List.mem_append_left _ (List.mem_append_right _ h)))) (by decide +kernel))) (goodIn_sub (fun _ h => List.mem_cons_of_mem _ (List.mem_append_right _ h)) (by decide +kernel))
set_option maxRecDepth 20000 in
theorem gX4_wayAt_X4_waysTo : GoodIn wsX4_wayAt (wsV RX4 106 RX4 yX4_waysTo wsX4_waysTo) := goodIn_app (goodIn_of _ (by decide +kernel)) ggX4_wayAt_X4_waysTo
set_option maxRecDepth 20000 in
theorem ggX4_wayAt_X4_isAmong : GoodIn wsX4_wayAt wsX4_isAmong := goodIn_r _ [88] (by decide +kernel) (by decide +kernel)
set_option maxRecDepth 20000 in
theorem gX4_wayAt_X4_isAmong : GoodIn wsX4_wayAt (va_wsS RX4 115 yX4_isAmong wsX4_isAmong) := goodIn_app (goodIn_of _ (by decide +kernel)) ggX4_wayAt_X4_isAmong
set_option maxRecDepth 20000 in
theorem ggX4_wayAt_X4_placeAmong : GoodIn wsX4_wayAt wsX4_placeAmong := goodIn_ca (goodIn_ca (goodIn_r _ [92, 3, 86, 87, 7, 88, 93, 94, 95, 96, 97, 98, 25, 26, 27, 28, 1, 2, 29, 99, 100, 101, 36, 102, 103, 48, 49, 50, 51, 52, 53, 104, 105, 106, 107, 108, 109, 110, 111, 112, 113, 114, 115, 120, 121] (by decide +kernel) (by decide +kernel)) (goodIn_sub (fun _ h => List.mem_cons_of_mem _ (List.mem_append_left _ (List.mem_append_left _ (List.mem_append_right _ h)))) (by decide +kernel))) (goodIn_sub (fun _ h => List.mem_cons_of_mem _ (List.mem_append_right _ h)) (by decide +kernel))
set_option maxRecDepth 20000 in
theorem gX4_wayAt_X4_placeAmong : GoodIn wsX4_wayAt (wsV RX4 119 RX4 yX4_placeAmong wsX4_placeAmong) := goodIn_app (goodIn_of _ (by decide +kernel)) ggX4_wayAt_X4_placeAmong
theorem dX4_wayAt_0 : decode cX4_wayAt 0 = .ok (.aload_n 0, 1) := by decide +kernel
theorem dX4_wayAt_1 : decode cX4_wayAt 1 = .ok (.iload_n 3, 1) := by decide +kernel
theorem dX4_wayAt_2 : decode cX4_wayAt 2 = .ok (.iload 4, 2) := by decide +kernel
theorem dX4_wayAt_4 : decode cX4_wayAt 4 = .ok (.iload 5, 2) := by decide +kernel
theorem dX4_wayAt_6 : decode cX4_wayAt 6 = .ok (.invokevirtual 99, 3) := by decide +kernel
theorem dX4_wayAt_9 : decode cX4_wayAt 9 = .ok (.aload_n 0, 1) := by decide +kernel
theorem dX4_wayAt_10 : decode cX4_wayAt 10 = .ok (.iload_n 2, 1) := by decide +kernel
theorem dX4_wayAt_11 : decode cX4_wayAt 11 = .ok (.invokevirtual 48, 3) := by decide +kernel
theorem dX4_wayAt_14 : decode cX4_wayAt 14 = .ok (.pop, 1) := by decide +kernel
theorem dX4_wayAt_15 : decode cX4_wayAt 15 = .ok (.aload_n 0, 1) := by decide +kernel
theorem dX4_wayAt_16 : decode cX4_wayAt 16 = .ok (.iload_n 2, 1) := by decide +kernel
theorem dX4_wayAt_17 : decode cX4_wayAt 17 = .ok (.iload_n 3, 1) := by decide +kernel
theorem dX4_wayAt_18 : decode cX4_wayAt 18 = .ok (.iload 4, 2) := by decide +kernel
theorem dX4_wayAt_20 : decode cX4_wayAt 20 = .ok (.iload 5, 2) := by decide +kernel
theorem dX4_wayAt_22 : decode cX4_wayAt 22 = .ok (.invokevirtual 106, 3) := by decide +kernel
theorem dX4_wayAt_25 : decode cX4_wayAt 25 = .ok (.istore 6, 2) := by decide +kernel
theorem dX4_wayAt_27 : decode cX4_wayAt 27 = .ok (.iconst 0, 1) := by decide +kernel
theorem dX4_wayAt_28 : decode cX4_wayAt 28 = .ok (.istore 7, 2) := by decide +kernel
theorem dX4_wayAt_30 : decode cX4_wayAt 30 = .ok (.iload 7, 2) := by decide +kernel
theorem dX4_wayAt_32 : decode cX4_wayAt 32 = .ok (.aload_n 0, 1) := by decide +kernel
theorem dX4_wayAt_33 : decode cX4_wayAt 33 = .ok (.getfield 25, 3) := by decide +kernel
theorem dX4_wayAt_36 : decode cX4_wayAt 36 = .ok (.if_icmp .ge 35, 3) := by decide +kernel
theorem dX4_wayAt_39 : decode cX4_wayAt 39 = .ok (.iload 6, 2) := by decide +kernel
theorem dX4_wayAt_41 : decode cX4_wayAt 41 = .ok (.iload 7, 2) := by decide +kernel
theorem dX4_wayAt_43 : decode cX4_wayAt 43 = .ok (.invokestatic 115, 3) := by decide +kernel
theorem dX4_wayAt_46 : decode cX4_wayAt 46 = .ok (.ifCond .eq 19, 3) := by decide +kernel
theorem dX4_wayAt_49 : decode cX4_wayAt 49 = .ok (.aload_n 0, 1) := by decide +kernel
theorem dX4_wayAt_50 : decode cX4_wayAt 50 = .ok (.iload 6, 2) := by decide +kernel
theorem dX4_wayAt_52 : decode cX4_wayAt 52 = .ok (.iload 7, 2) := by decide +kernel
theorem dX4_wayAt_54 : decode cX4_wayAt 54 = .ok (.iload_n 2, 1) := by decide +kernel
theorem dX4_wayAt_55 : decode cX4_wayAt 55 = .ok (.invokevirtual 119, 3) := by decide +kernel
theorem dX4_wayAt_58 : decode cX4_wayAt 58 = .ok (.iload_n 1, 1) := by decide +kernel
theorem dX4_wayAt_59 : decode cX4_wayAt 59 = .ok (.if_icmp .ne 6, 3) := by decide +kernel
theorem dX4_wayAt_62 : decode cX4_wayAt 62 = .ok (.iload 7, 2) := by decide +kernel
theorem dX4_wayAt_64 : decode cX4_wayAt 64 = .ok (.ireturn, 1) := by decide +kernel
theorem dX4_wayAt_65 : decode cX4_wayAt 65 = .ok (.iinc 7 1, 3) := by decide +kernel
theorem dX4_wayAt_68 : decode cX4_wayAt 68 = .ok (.goto (-38), 3) := by decide +kernel
theorem dX4_wayAt_71 : decode cX4_wayAt 71 = .ok (.new 123, 3) := by decide +kernel
theorem dX4_wayAt_74 : decode cX4_wayAt 74 = .ok (.dup, 1) := by decide +kernel
theorem dX4_wayAt_75 : decode cX4_wayAt 75 = .ok (.ldc 125, 2) := by decide +kernel
theorem dX4_wayAt_77 : decode cX4_wayAt 77 = .ok (.invokespecial 127, 3) := by decide +kernel
theorem dX4_wayAt_80 : decode cX4_wayAt 80 = .ok (.athrow, 1) := by decide +kernel
set_option maxRecDepth 20000 in
theorem ggX4_gap_X4_existingTitle : GoodIn wsX4_gap wsX4_existingTitle := goodIn_ca (goodIn_r _ [7, 8, 9, 10, 11, 88, 89, 90, 91, 92, 93] (by decide +kernel) (by decide +kernel)) (goodIn_sub (fun _ h => List.mem_cons_of_mem _ (List.mem_append_left _ (List.mem_append_left _ (List.mem_append_right _ h)))) (by decide +kernel))
set_option maxRecDepth 20000 in
theorem gX4_gap_X4_existingTitle : GoodIn wsX4_gap (wsV RX4 48 RX4 yX4_existingTitle wsX4_existingTitle) := goodIn_app (goodIn_of _ (by decide +kernel)) ggX4_gap_X4_existingTitle
set_option maxRecDepth 20000 in
theorem ggX4_gap_X4_checkRange : GoodIn wsX4_gap wsX4_checkRange := goodIn_ca (goodIn_r _ [14, 15, 16] (by decide +kernel) (by decide +kernel)) (goodIn_sub (fun _ h => List.mem_cons_of_mem _ (List.mem_append_left _ (List.mem_append_right _ h))) (by decide +kernel))
set_option maxRecDepth 20000 in
theorem gX4_gap_X4_checkRange : GoodIn wsX4_gap (va_wsS RX4 34 yX4_checkRange wsX4_checkRange) := goodIn_app (goodIn_of _ (by decide +kernel)) ggX4_gap_X4_checkRange
set_option maxRecDepth 20000 in
theorem ggX4_gap_X4_yearsSoFar : GoodIn wsX4_gap wsX4_yearsSoFar := goodIn_r _ [20, 2, 21, 22, 23, 6, 24, 86, 87, 88, 89, 90, 91, 92, 93] (by decide +kernel) (by decide +kernel)
set_option maxRecDepth 20000 in
theorem gX4_gap_X4_yearsSoFar : GoodIn wsX4_gap (wsV RX4 128 RX4 yX4_yearsSoFar wsX4_yearsSoFar) := goodIn_app (goodIn_of _ (by decide +kernel)) ggX4_gap_X4_yearsSoFar
set_option maxRecDepth 20000 in
theorem ggX4_gap_X4_yearsCoveredButBy : GoodIn wsX4_gap wsX4_yearsCoveredButBy := goodIn_ca (goodIn_ca (goodIn_r _ [28, 29, 21, 30, 31, 32, 6, 33, 8, 9, 34, 35, 36, 37, 38, 39, 40, 41, 42, 43, 44, 45, 46, 47, 48, 49, 50, 51, 52, 53, 54, 55, 56, 57, 58, 59, 60, 61, 62, 63, 64, 65, 66, 67, 68, 69, 23, 24, 70, 71, 72, 73, 74, 75, 76, 77, 78, 79, 80, 81, 82, 88, 89, 90, 91, 92, 93, 94, 95, 96, 97, 98, 99, 100, 101, 102, 103, 104, 105] (by decide +kernel) (by decide +kernel)) (goodIn_sub (fun _ h => List.mem_cons_of_mem _ (List.mem_append_left _ (List.mem_append_left _ (List.mem_append_right _ h)))) (by decide +kernel))) (goodIn_sub (fun _ h => List.mem_cons_of_mem _ (List.mem_append_right _ h)) (by decide +kernel))
set_option maxRecDepth 20000 in
theorem gX4_gap_X4_yearsCoveredButBy : GoodIn wsX4_gap (wsV RX4 132 RX4 yX4_yearsCoveredButBy wsX4_yearsCoveredButBy) := goodIn_app (goodIn_of _ (by decide +kernel)) ggX4_gap_X4_yearsCoveredButBy
set_option maxRecDepth 20000 in
theorem ggX4_gap_X4_hasYear : GoodIn wsX4_gap wsX4_hasYear := goodIn_r _ [85] (by decide +kernel) (by decide +kernel)
set_option maxRecDepth 20000 in
theorem gX4_gap_X4_hasYear : GoodIn wsX4_gap (va_wsS RX4 138 yX4_hasYear wsX4_hasYear) := goodIn_app (goodIn_of _ (by decide +kernel)) ggX4_gap_X4_hasYear
theorem dX4_gap_0 : decode cX4_gap 0 = .ok (.aload_n 0, 1) := by decide +kernel
theorem dX4_gap_1 : decode cX4_gap 1 = .ok (.iload_n 1, 1) := by decide +kernel
theorem dX4_gap_2 : decode cX4_gap 2 = .ok (.invokevirtual 48, 3) := by decide +kernel
theorem dX4_gap_5 : decode cX4_gap 5 = .ok (.astore_n 3, 1) := by decide +kernel
theorem dX4_gap_6 : decode cX4_gap 6 = .ok (.iload_n 2, 1) := by decide +kernel
theorem dX4_gap_7 : decode cX4_gap 7 = .ok (.iconst 0, 1) := by decide +kernel
theorem dX4_gap_8 : decode cX4_gap 8 = .ok (.iconst 3, 1) := by decide +kernel
theorem dX4_gap_9 : decode cX4_gap 9 = .ok (.invokestatic 34, 3) := by decide +kernel
theorem dX4_gap_12 : decode cX4_gap 12 = .ok (.aload_n 0, 1) := by decide +kernel
theorem dX4_gap_13 : decode cX4_gap 13 = .ok (.aload_n 3, 1) := by decide +kernel
theorem dX4_gap_14 : decode cX4_gap 14 = .ok (.invokevirtual 128, 3) := by decide +kernel
theorem dX4_gap_17 : decode cX4_gap 17 = .ok (.aload_n 0, 1) := by decide +kernel
theorem dX4_gap_18 : decode cX4_gap 18 = .ok (.iconst (-1), 1) := by decide +kernel
theorem dX4_gap_19 : decode cX4_gap 19 = .ok (.iload_n 1, 1) := by decide +kernel
theorem dX4_gap_20 : decode cX4_gap 20 = .ok (.iload_n 2, 1) := by decide +kernel
theorem dX4_gap_21 : decode cX4_gap 21 = .ok (.invokevirtual 132, 3) := by decide +kernel
theorem dX4_gap_24 : decode cX4_gap 24 = .ok (.ldc2_w 136, 3) := by decide +kernel
theorem dX4_gap_27 : decode cX4_gap 27 = .ok (.lxor, 1) := by decide +kernel
theorem dX4_gap_28 : decode cX4_gap 28 = .ok (.land, 1) := by decide +kernel
theorem dX4_gap_29 : decode cX4_gap 29 = .ok (.lstore 4, 2) := by decide +kernel
theorem dX4_gap_31 : decode cX4_gap 31 = .ok (.aload_n 3, 1) := by decide +kernel
theorem dX4_gap_32 : decode cX4_gap 32 = .ok (.getfield 56, 3) := by decide +kernel
theorem dX4_gap_35 : decode cX4_gap 35 = .ok (.istore 6, 2) := by decide +kernel
theorem dX4_gap_37 : decode cX4_gap 37 = .ok (.iload 6, 2) := by decide +kernel
theorem dX4_gap_39 : decode cX4_gap 39 = .ok (.bipush 55, 2) := by decide +kernel
theorem dX4_gap_41 : decode cX4_gap 41 = .ok (.if_icmp .gt 22, 3) := by decide +kernel
theorem dX4_gap_44 : decode cX4_gap 44 = .ok (.lload 4, 2) := by decide +kernel
theorem dX4_gap_46 : decode cX4_gap 46 = .ok (.iload 6, 2) := by decide +kernel
theorem dX4_gap_48 : decode cX4_gap 48 = .ok (.invokestatic 138, 3) := by decide +kernel
theorem dX4_gap_51 : decode cX4_gap 51 = .ok (.ifCond .eq 6, 3) := by decide +kernel
theorem dX4_gap_54 : decode cX4_gap 54 = .ok (.iload 6, 2) := by decide +kernel
theorem dX4_gap_56 : decode cX4_gap 56 = .ok (.ireturn, 1) := by decide +kernel
theorem dX4_gap_57 : decode cX4_gap 57 = .ok (.iinc 6 1, 3) := by decide +kernel
theorem dX4_gap_60 : decode cX4_gap 60 = .ok (.goto (-23), 3) := by decide +kernel
theorem dX4_gap_63 : decode cX4_gap 63 = .ok (.iconst (-1), 1) := by decide +kernel
theorem dX4_gap_64 : decode cX4_gap 64 = .ok (.ireturn, 1) := by decide +kernel
set_option maxRecDepth 20000 in
theorem ggX4_doubles_X4_existingTitle : GoodIn wsX4_doubles wsX4_existingTitle := goodIn_ca (goodIn_r _ [7, 8, 9, 10, 11, 85, 86, 87, 88, 89, 90] (by decide +kernel) (by decide +kernel)) (goodIn_sub (fun _ h => List.mem_cons_of_mem _ (List.mem_append_left _ (List.mem_append_left _ (List.mem_append_right _ h)))) (by decide +kernel))
set_option maxRecDepth 20000 in
theorem gX4_doubles_X4_existingTitle : GoodIn wsX4_doubles (wsV RX4 48 RX4 yX4_existingTitle wsX4_existingTitle) := goodIn_app (goodIn_of _ (by decide +kernel)) ggX4_doubles_X4_existingTitle
set_option maxRecDepth 20000 in
theorem ggX4_doubles_X4_checkRange : GoodIn wsX4_doubles wsX4_checkRange := goodIn_ca (goodIn_r _ [14, 15, 16] (by decide +kernel) (by decide +kernel)) (goodIn_sub (fun _ h => List.mem_cons_of_mem _ (List.mem_append_left _ (List.mem_append_right _ h))) (by decide +kernel))
set_option maxRecDepth 20000 in
theorem gX4_doubles_X4_checkRange : GoodIn wsX4_doubles (va_wsS RX4 34 yX4_checkRange wsX4_checkRange) := goodIn_app (goodIn_of _ (by decide +kernel)) ggX4_doubles_X4_checkRange
set_option maxRecDepth 20000 in
theorem ggX4_doubles_X4_existingPack : GoodIn wsX4_doubles wsX4_existingPack := goodIn_ca (goodIn_r _ [20, 8, 9, 1, 21, 85, 86, 87, 88, 89, 90] (by decide +kernel) (by decide +kernel)) (goodIn_sub (fun _ h => List.mem_cons_of_mem _ (List.mem_append_left _ (List.mem_append_left _ (List.mem_append_right _ h)))) (by decide +kernel))
set_option maxRecDepth 20000 in
theorem gX4_doubles_X4_existingPack : GoodIn wsX4_doubles (wsV RX4 64 RX4 yX4_existingPack wsX4_existingPack) := goodIn_app (goodIn_of _ (by decide +kernel)) ggX4_doubles_X4_existingPack
set_option maxRecDepth 20000 in
theorem ggX4_doubles_X2_letsIn : GoodIn wsX4_doubles wsX2_letsIn := goodIn_r _ [26, 27, 91, 92, 93, 94, 95, 96] (by decide +kernel) (by decide +kernel)
set_option maxRecDepth 20000 in
theorem gX4_doubles_X2_letsIn : GoodIn wsX4_doubles (wsV RX4 142 RX2 yX2_letsIn wsX2_letsIn) := goodIn_app (goodIn_of _ (by decide +kernel)) ggX4_doubles_X2_letsIn
set_option maxRecDepth 20000 in
theorem ggX4_doubles_X2_yearsCovered : GoodIn wsX4_doubles wsX2_yearsCovered := goodIn_ca (goodIn_r _ [31, 32, 33, 34, 25, 35, 36, 37, 38, 39, 40, 41, 9, 42, 43, 44, 45, 46, 47, 48, 49, 50, 51, 52, 53, 54, 55, 56, 57, 6, 58, 59, 60, 61, 62, 63, 64, 65, 66, 67, 68, 69, 70, 71, 91, 92, 93, 94, 95, 96, 97, 98, 99, 100, 101, 102] (by decide +kernel) (by decide +kernel)) (goodIn_sub (fun _ h => List.mem_cons_of_mem _ (List.mem_append_right _ h)) (by decide +kernel))
set_option maxRecDepth 20000 in
theorem gX4_doubles_X2_yearsCovered : GoodIn wsX4_doubles (wsV RX4 145 RX2 yX2_yearsCovered wsX2_yearsCovered) := goodIn_app (goodIn_of _ (by decide +kernel)) ggX4_doubles_X2_yearsCovered
set_option maxRecDepth 20000 in
theorem ggX4_doubles_X4_yearsSoFar : GoodIn wsX4_doubles wsX4_yearsSoFar := goodIn_r _ [75, 76, 2, 77, 57, 6, 58, 103, 104, 85, 86, 87, 88, 89, 90] (by decide +kernel) (by decide +kernel)
set_option maxRecDepth 20000 in
theorem gX4_doubles_X4_yearsSoFar : GoodIn wsX4_doubles (wsV RX4 128 RX4 yX4_yearsSoFar wsX4_yearsSoFar) := goodIn_app (goodIn_of _ (by decide +kernel)) ggX4_doubles_X4_yearsSoFar
set_option maxRecDepth 20000 in
theorem ggX4_doubles_J13_bitCount_95d88 : GoodIn wsX4_doubles wsJ13_bitCount_95d88 := goodIn_r _ [81, 82, 83, 84] (by decide +kernel) (by decide +kernel)
set_option maxRecDepth 20000 in
theorem gX4_doubles_J13_bitCount_95d88 : GoodIn wsX4_doubles (va_wsS RX4 148 yJ13_bitCount_95d88 wsJ13_bitCount_95d88) := goodIn_app (goodIn_of _ (by decide +kernel)) ggX4_doubles_J13_bitCount_95d88
theorem dX4_doubles_0 : decode cX4_doubles 0 = .ok (.aload_n 0, 1) := by decide +kernel
theorem dX4_doubles_1 : decode cX4_doubles 1 = .ok (.iload_n 1, 1) := by decide +kernel
theorem dX4_doubles_2 : decode cX4_doubles 2 = .ok (.invokevirtual 48, 3) := by decide +kernel
theorem dX4_doubles_5 : decode cX4_doubles 5 = .ok (.astore_n 3, 1) := by decide +kernel
theorem dX4_doubles_6 : decode cX4_doubles 6 = .ok (.iload_n 2, 1) := by decide +kernel
theorem dX4_doubles_7 : decode cX4_doubles 7 = .ok (.iconst 0, 1) := by decide +kernel
theorem dX4_doubles_8 : decode cX4_doubles 8 = .ok (.iconst 3, 1) := by decide +kernel
theorem dX4_doubles_9 : decode cX4_doubles 9 = .ok (.invokestatic 34, 3) := by decide +kernel
theorem dX4_doubles_12 : decode cX4_doubles 12 = .ok (.lconst 0, 1) := by decide +kernel
theorem dX4_doubles_13 : decode cX4_doubles 13 = .ok (.lstore 4, 2) := by decide +kernel
theorem dX4_doubles_15 : decode cX4_doubles 15 = .ok (.lconst 0, 1) := by decide +kernel
theorem dX4_doubles_16 : decode cX4_doubles 16 = .ok (.lstore 6, 2) := by decide +kernel
theorem dX4_doubles_18 : decode cX4_doubles 18 = .ok (.iconst 0, 1) := by decide +kernel
theorem dX4_doubles_19 : decode cX4_doubles 19 = .ok (.istore 8, 2) := by decide +kernel
theorem dX4_doubles_21 : decode cX4_doubles 21 = .ok (.iload 8, 2) := by decide +kernel
theorem dX4_doubles_23 : decode cX4_doubles 23 = .ok (.aload_n 0, 1) := by decide +kernel
theorem dX4_doubles_24 : decode cX4_doubles 24 = .ok (.getfield 25, 3) := by decide +kernel
theorem dX4_doubles_27 : decode cX4_doubles 27 = .ok (.if_icmp .ge 55, 3) := by decide +kernel
theorem dX4_doubles_30 : decode cX4_doubles 30 = .ok (.aload_n 0, 1) := by decide +kernel
theorem dX4_doubles_31 : decode cX4_doubles 31 = .ok (.iload 8, 2) := by decide +kernel
theorem dX4_doubles_33 : decode cX4_doubles 33 = .ok (.invokevirtual 64, 3) := by decide +kernel
theorem dX4_doubles_36 : decode cX4_doubles 36 = .ok (.astore 9, 2) := by decide +kernel
theorem dX4_doubles_38 : decode cX4_doubles 38 = .ok (.aload 9, 2) := by decide +kernel
theorem dX4_doubles_40 : decode cX4_doubles 40 = .ok (.iload_n 2, 1) := by decide +kernel
theorem dX4_doubles_41 : decode cX4_doubles 41 = .ok (.invokevirtual 142, 3) := by decide +kernel
theorem dX4_doubles_44 : decode cX4_doubles 44 = .ok (.ifCond .eq 32, 3) := by decide +kernel
theorem dX4_doubles_47 : decode cX4_doubles 47 = .ok (.aload 9, 2) := by decide +kernel
theorem dX4_doubles_49 : decode cX4_doubles 49 = .ok (.iload_n 1, 1) := by decide +kernel
theorem dX4_doubles_50 : decode cX4_doubles 50 = .ok (.aload_n 0, 1) := by decide +kernel
theorem dX4_doubles_51 : decode cX4_doubles 51 = .ok (.getfield 31, 3) := by decide +kernel
theorem dX4_doubles_54 : decode cX4_doubles 54 = .ok (.invokevirtual 145, 3) := by decide +kernel
theorem dX4_doubles_57 : decode cX4_doubles 57 = .ok (.lstore 10, 2) := by decide +kernel
theorem dX4_doubles_59 : decode cX4_doubles 59 = .ok (.lload 6, 2) := by decide +kernel
theorem dX4_doubles_61 : decode cX4_doubles 61 = .ok (.lload 4, 2) := by decide +kernel
theorem dX4_doubles_63 : decode cX4_doubles 63 = .ok (.lload 10, 2) := by decide +kernel
theorem dX4_doubles_65 : decode cX4_doubles 65 = .ok (.land, 1) := by decide +kernel
theorem dX4_doubles_66 : decode cX4_doubles 66 = .ok (.lor, 1) := by decide +kernel
theorem dX4_doubles_67 : decode cX4_doubles 67 = .ok (.lstore 6, 2) := by decide +kernel
theorem dX4_doubles_69 : decode cX4_doubles 69 = .ok (.lload 4, 2) := by decide +kernel
theorem dX4_doubles_71 : decode cX4_doubles 71 = .ok (.lload 10, 2) := by decide +kernel
theorem dX4_doubles_73 : decode cX4_doubles 73 = .ok (.lor, 1) := by decide +kernel
theorem dX4_doubles_74 : decode cX4_doubles 74 = .ok (.lstore 4, 2) := by decide +kernel
theorem dX4_doubles_76 : decode cX4_doubles 76 = .ok (.iinc 8 1, 3) := by decide +kernel
theorem dX4_doubles_79 : decode cX4_doubles 79 = .ok (.goto (-58), 3) := by decide +kernel
theorem dX4_doubles_82 : decode cX4_doubles 82 = .ok (.lload 6, 2) := by decide +kernel
theorem dX4_doubles_84 : decode cX4_doubles 84 = .ok (.aload_n 0, 1) := by decide +kernel
theorem dX4_doubles_85 : decode cX4_doubles 85 = .ok (.aload_n 3, 1) := by decide +kernel
theorem dX4_doubles_86 : decode cX4_doubles 86 = .ok (.invokevirtual 128, 3) := by decide +kernel
theorem dX4_doubles_89 : decode cX4_doubles 89 = .ok (.land, 1) := by decide +kernel
theorem dX4_doubles_90 : decode cX4_doubles 90 = .ok (.invokestatic 148, 3) := by decide +kernel
theorem dX4_doubles_93 : decode cX4_doubles 93 = .ok (.ireturn, 1) := by decide +kernel
set_option maxRecDepth 20000 in
theorem ggX4_isNeedless_X4_existingPack : GoodIn wsX4_isNeedless wsX4_existingPack := goodIn_ca (goodIn_r _ [6, 7, 8, 9, 10, 84, 85, 86, 87, 88, 89] (by decide +kernel) (by decide +kernel)) (goodIn_sub (fun _ h => List.mem_cons_of_mem _ (List.mem_append_left _ (List.mem_append_right _ h))) (by decide +kernel))
set_option maxRecDepth 20000 in
theorem gX4_isNeedless_X4_existingPack : GoodIn wsX4_isNeedless (wsV RX4 64 RX4 yX4_existingPack wsX4_existingPack) := goodIn_app (goodIn_of _ (by decide +kernel)) ggX4_isNeedless_X4_existingPack
set_option maxRecDepth 20000 in
theorem ggX4_isNeedless_X4_isLostWithout : GoodIn wsX4_isNeedless wsX4_isLostWithout := goodIn_ca (goodIn_ca (goodIn_r _ [14, 15, 16, 2, 3, 4, 5, 6, 7, 8, 9, 10, 17, 18, 19, 20, 21, 22, 23, 24, 25, 26, 27, 28, 29, 30, 31, 32, 33, 34, 35, 36, 37, 38, 39, 40, 41, 42, 43, 44, 45, 46, 47, 48, 49, 50, 51, 52, 53, 54, 55, 56, 57, 58, 59, 60, 61, 1, 62, 63, 64, 65, 66, 67, 68, 69, 70, 71, 72, 73, 74, 75, 76, 77, 78, 79, 80, 81, 82, 83, 84, 85, 86, 87, 88, 89, 90, 91, 92, 93, 94, 95, 96, 97, 98, 99, 100, 101, 102, 103] (by decide +kernel) (by decide +kernel)) (goodIn_sub (fun _ h => List.mem_cons_of_mem _ (List.mem_append_left _ (List.mem_append_right _ h))) (by decide +kernel))) (goodIn_sub (fun _ h => List.mem_cons_of_mem _ (List.mem_append_right _ h)) (by decide +kernel))
set_option maxRecDepth 20000 in
theorem gX4_isNeedless_X4_isLostWithout : GoodIn wsX4_isNeedless (wsV RX4 153 RX4 yX4_isLostWithout wsX4_isLostWithout) := goodIn_app (goodIn_of _ (by decide +kernel)) ggX4_isNeedless_X4_isLostWithout
theorem dX4_isNeedless_0 : decode cX4_isNeedless 0 = .ok (.aload_n 0, 1) := by decide +kernel
theorem dX4_isNeedless_1 : decode cX4_isNeedless 1 = .ok (.iload_n 1, 1) := by decide +kernel
theorem dX4_isNeedless_2 : decode cX4_isNeedless 2 = .ok (.invokevirtual 64, 3) := by decide +kernel
theorem dX4_isNeedless_5 : decode cX4_isNeedless 5 = .ok (.pop, 1) := by decide +kernel
theorem dX4_isNeedless_6 : decode cX4_isNeedless 6 = .ok (.iconst 0, 1) := by decide +kernel
theorem dX4_isNeedless_7 : decode cX4_isNeedless 7 = .ok (.istore_n 2, 1) := by decide +kernel
theorem dX4_isNeedless_8 : decode cX4_isNeedless 8 = .ok (.iload_n 2, 1) := by decide +kernel
theorem dX4_isNeedless_9 : decode cX4_isNeedless 9 = .ok (.aload_n 0, 1) := by decide +kernel
theorem dX4_isNeedless_10 : decode cX4_isNeedless 10 = .ok (.getfield 21, 3) := by decide +kernel
theorem dX4_isNeedless_13 : decode cX4_isNeedless 13 = .ok (.if_icmp .ge 20, 3) := by decide +kernel
theorem dX4_isNeedless_16 : decode cX4_isNeedless 16 = .ok (.aload_n 0, 1) := by decide +kernel
theorem dX4_isNeedless_17 : decode cX4_isNeedless 17 = .ok (.iload_n 1, 1) := by decide +kernel
theorem dX4_isNeedless_18 : decode cX4_isNeedless 18 = .ok (.iload_n 2, 1) := by decide +kernel
theorem dX4_isNeedless_19 : decode cX4_isNeedless 19 = .ok (.invokevirtual 153, 3) := by decide +kernel
theorem dX4_isNeedless_22 : decode cX4_isNeedless 22 = .ok (.ifCond .eq 5, 3) := by decide +kernel
theorem dX4_isNeedless_25 : decode cX4_isNeedless 25 = .ok (.iconst 0, 1) := by decide +kernel
theorem dX4_isNeedless_26 : decode cX4_isNeedless 26 = .ok (.ireturn, 1) := by decide +kernel
theorem dX4_isNeedless_27 : decode cX4_isNeedless 27 = .ok (.iinc 2 1, 3) := by decide +kernel
theorem dX4_isNeedless_30 : decode cX4_isNeedless 30 = .ok (.goto (-22), 3) := by decide +kernel
theorem dX4_isNeedless_33 : decode cX4_isNeedless 33 = .ok (.iconst 1, 1) := by decide +kernel
theorem dX4_isNeedless_34 : decode cX4_isNeedless 34 = .ok (.ireturn, 1) := by decide +kernel
theorem dX4_checkRange_0 : decode cX4_checkRange 0 = .ok (.iload_n 0, 1) := by decide +kernel
theorem dX4_checkRange_1 : decode cX4_checkRange 1 = .ok (.iload_n 1, 1) := by decide +kernel
theorem dX4_checkRange_2 : decode cX4_checkRange 2 = .ok (.if_icmp .lt 8, 3) := by decide +kernel
theorem dX4_checkRange_5 : decode cX4_checkRange 5 = .ok (.iload_n 0, 1) := by decide +kernel
theorem dX4_checkRange_6 : decode cX4_checkRange 6 = .ok (.iload_n 2, 1) := by decide +kernel
theorem dX4_checkRange_7 : decode cX4_checkRange 7 = .ok (.if_icmp .le 13, 3) := by decide +kernel
theorem dX4_checkRange_10 : decode cX4_checkRange 10 = .ok (.new 156, 3) := by decide +kernel
theorem dX4_checkRange_13 : decode cX4_checkRange 13 = .ok (.dup, 1) := by decide +kernel
theorem dX4_checkRange_14 : decode cX4_checkRange 14 = .ok (.ldc 158, 2) := by decide +kernel
theorem dX4_checkRange_16 : decode cX4_checkRange 16 = .ok (.invokespecial 160, 3) := by decide +kernel
theorem dX4_checkRange_19 : decode cX4_checkRange 19 = .ok (.athrow, 1) := by decide +kernel
theorem dX4_checkRange_20 : decode cX4_checkRange 20 = .ok (.return_, 1) := by decide +kernel
set_option maxRecDepth 20000 in
theorem ggX4_checkArticle_X4_checkRange : GoodIn wsX4_checkArticle wsX4_checkRange := goodIn_ca (goodIn_r _ [5, 6, 7] (by decide +kernel) (by decide +kernel)) (goodIn_sub (fun _ h => List.mem_cons_of_mem _ (List.mem_append_right _ h)) (by decide +kernel))
set_option maxRecDepth 20000 in
theorem gX4_checkArticle_X4_checkRange : GoodIn wsX4_checkArticle (va_wsS RX4 34 yX4_checkRange wsX4_checkRange) := goodIn_app (goodIn_of _ (by decide +kernel)) ggX4_checkArticle_X4_checkRange
theorem dX4_checkArticle_0 : decode cX4_checkArticle 0 = .ok (.iload_n 1, 1) := by decide +kernel
theorem dX4_checkArticle_1 : decode cX4_checkArticle 1 = .ok (.iconst 0, 1) := by decide +kernel
theorem dX4_checkArticle_2 : decode cX4_checkArticle 2 = .ok (.bipush 55, 2) := by decide +kernel
theorem dX4_checkArticle_4 : decode cX4_checkArticle 4 = .ok (.invokestatic 34, 3) := by decide +kernel
theorem dX4_checkArticle_7 : decode cX4_checkArticle 7 = .ok (.iload_n 2, 1) := by decide +kernel
theorem dX4_checkArticle_8 : decode cX4_checkArticle 8 = .ok (.iconst 0, 1) := by decide +kernel
theorem dX4_checkArticle_9 : decode cX4_checkArticle 9 = .ok (.iconst 3, 1) := by decide +kernel
theorem dX4_checkArticle_10 : decode cX4_checkArticle 10 = .ok (.invokestatic 34, 3) := by decide +kernel
theorem dX4_checkArticle_13 : decode cX4_checkArticle 13 = .ok (.iload_n 3, 1) := by decide +kernel
theorem dX4_checkArticle_14 : decode cX4_checkArticle 14 = .ok (.iconst 0, 1) := by decide +kernel
theorem dX4_checkArticle_15 : decode cX4_checkArticle 15 = .ok (.aload_n 0, 1) := by decide +kernel
theorem dX4_checkArticle_16 : decode cX4_checkArticle 16 = .ok (.getfield 31, 3) := by decide +kernel
theorem dX4_checkArticle_19 : decode cX4_checkArticle 19 = .ok (.invokestatic 34, 3) := by decide +kernel
theorem dX4_checkArticle_22 : decode cX4_checkArticle 22 = .ok (.return_, 1) := by decide +kernel
theorem dX4_existingTitle_0 : decode cX4_existingTitle 0 = .ok (.iload_n 1, 1) := by decide +kernel
theorem dX4_existingTitle_1 : decode cX4_existingTitle 1 = .ok (.ifCond .lt 20, 3) := by decide +kernel
theorem dX4_existingTitle_4 : decode cX4_existingTitle 4 = .ok (.iload_n 1, 1) := by decide +kernel
theorem dX4_existingTitle_5 : decode cX4_existingTitle 5 = .ok (.aload_n 0, 1) := by decide +kernel
theorem dX4_existingTitle_6 : decode cX4_existingTitle 6 = .ok (.getfield 21, 3) := by decide +kernel
theorem dX4_existingTitle_9 : decode cX4_existingTitle 9 = .ok (.if_icmp .ge 12, 3) := by decide +kernel
theorem dX4_existingTitle_12 : decode cX4_existingTitle 12 = .ok (.aload_n 0, 1) := by decide +kernel
theorem dX4_existingTitle_13 : decode cX4_existingTitle 13 = .ok (.getfield 11, 3) := by decide +kernel
theorem dX4_existingTitle_16 : decode cX4_existingTitle 16 = .ok (.iload_n 1, 1) := by decide +kernel
theorem dX4_existingTitle_17 : decode cX4_existingTitle 17 = .ok (.aaload, 1) := by decide +kernel
theorem dX4_existingTitle_18 : decode cX4_existingTitle 18 = .ok (.ifnonnull 13, 3) := by decide +kernel
theorem dX4_existingTitle_21 : decode cX4_existingTitle 21 = .ok (.new 123, 3) := by decide +kernel
theorem dX4_existingTitle_24 : decode cX4_existingTitle 24 = .ok (.dup, 1) := by decide +kernel
theorem dX4_existingTitle_25 : decode cX4_existingTitle 25 = .ok (.ldc 161, 2) := by decide +kernel
theorem dX4_existingTitle_27 : decode cX4_existingTitle 27 = .ok (.invokespecial 127, 3) := by decide +kernel
theorem dX4_existingTitle_30 : decode cX4_existingTitle 30 = .ok (.athrow, 1) := by decide +kernel
theorem dX4_existingTitle_31 : decode cX4_existingTitle 31 = .ok (.aload_n 0, 1) := by decide +kernel
theorem dX4_existingTitle_32 : decode cX4_existingTitle 32 = .ok (.getfield 11, 3) := by decide +kernel
theorem dX4_existingTitle_35 : decode cX4_existingTitle 35 = .ok (.iload_n 1, 1) := by decide +kernel
theorem dX4_existingTitle_36 : decode cX4_existingTitle 36 = .ok (.aaload, 1) := by decide +kernel
theorem dX4_existingTitle_37 : decode cX4_existingTitle 37 = .ok (.areturn, 1) := by decide +kernel
theorem dX4_existingPack_0 : decode cX4_existingPack 0 = .ok (.iload_n 1, 1) := by decide +kernel
end
section
theorem dX4_existingPack_1 : decode cX4_existingPack 1 = .ok (.ifCond .lt 20, 3) := by decide +kernel
theorem dX4_existingPack_4 : decode cX4_existingPack 4 = .ok (.iload_n 1, 1) := by decide +kernel
theorem dX4_existingPack_5 : decode cX4_existingPack 5 = .ok (.aload_n 0, 1) := by decide +kernel
theorem dX4_existingPack_6 : decode cX4_existingPack 6 = .ok (.getfield 25, 3) := by decide +kernel
theorem dX4_existingPack_9 : decode cX4_existingPack 9 = .ok (.if_icmp .ge 12, 3) := by decide +kernel
theorem dX4_existingPack_12 : decode cX4_existingPack 12 = .ok (.aload_n 0, 1) := by decide +kernel
theorem dX4_existingPack_13 : decode cX4_existingPack 13 = .ok (.getfield 17, 3) := by decide +kernel
theorem dX4_existingPack_16 : decode cX4_existingPack 16 = .ok (.iload_n 1, 1) := by decide +kernel
theorem dX4_existingPack_17 : decode cX4_existingPack 17 = .ok (.aaload, 1) := by decide +kernel
theorem dX4_existingPack_18 : decode cX4_existingPack 18 = .ok (.ifnonnull 13, 3) := by decide +kernel
theorem dX4_existingPack_21 : decode cX4_existingPack 21 = .ok (.new 123, 3) := by decide +kernel
theorem dX4_existingPack_24 : decode cX4_existingPack 24 = .ok (.dup, 1) := by decide +kernel
theorem dX4_existingPack_25 : decode cX4_existingPack 25 = .ok (.ldc 163, 2) := by decide +kernel
theorem dX4_existingPack_27 : decode cX4_existingPack 27 = .ok (.invokespecial 127, 3) := by decide +kernel
theorem dX4_existingPack_30 : decode cX4_existingPack 30 = .ok (.athrow, 1) := by decide +kernel
theorem dX4_existingPack_31 : decode cX4_existingPack 31 = .ok (.aload_n 0, 1) := by decide +kernel
theorem dX4_existingPack_32 : decode cX4_existingPack 32 = .ok (.getfield 17, 3) := by decide +kernel
theorem dX4_existingPack_35 : decode cX4_existingPack 35 = .ok (.iload_n 1, 1) := by decide +kernel
theorem dX4_existingPack_36 : decode cX4_existingPack 36 = .ok (.aaload, 1) := by decide +kernel
theorem dX4_existingPack_37 : decode cX4_existingPack 37 = .ok (.areturn, 1) := by decide +kernel
set_option maxRecDepth 20000 in
theorem ggX4_existingStay_X4_existingPack : GoodIn wsX4_existingStay wsX4_existingPack := goodIn_ca (goodIn_r _ [5, 6, 7, 8, 9, 23, 24, 25, 26, 27, 28] (by decide +kernel) (by decide +kernel)) (goodIn_sub (fun _ h => List.mem_cons_of_mem _ (List.mem_append_left _ (List.mem_append_right _ h))) (by decide +kernel))
set_option maxRecDepth 20000 in
theorem gX4_existingStay_X4_existingPack : GoodIn wsX4_existingStay (wsV RX4 64 RX4 yX4_existingPack wsX4_existingPack) := goodIn_app (goodIn_of _ (by decide +kernel)) ggX4_existingStay_X4_existingPack
set_option maxRecDepth 20000 in
theorem ggX4_existingStay_X4_existingTitle : GoodIn wsX4_existingStay wsX4_existingTitle := goodIn_ca (goodIn_r _ [13, 6, 7, 14, 15, 23, 24, 25, 26, 27, 28] (by decide +kernel) (by decide +kernel)) (goodIn_sub (fun _ h => List.mem_cons_of_mem _ (List.mem_append_left _ (List.mem_append_right _ h))) (by decide +kernel))
set_option maxRecDepth 20000 in
theorem gX4_existingStay_X4_existingTitle : GoodIn wsX4_existingStay (wsV RX4 48 RX4 yX4_existingTitle wsX4_existingTitle) := goodIn_app (goodIn_of _ (by decide +kernel)) ggX4_existingStay_X4_existingTitle
set_option maxRecDepth 20000 in
theorem ggX4_existingStay_X2_stayOf : GoodIn wsX4_existingStay wsX2_stayOf := goodIn_ca (goodIn_r _ [20, 21, 7, 22, 29, 30, 31, 32, 33, 34] (by decide +kernel) (by decide +kernel)) (goodIn_sub (fun _ h => List.mem_cons_of_mem _ (List.mem_append_right _ h)) (by decide +kernel))
set_option maxRecDepth 20000 in
theorem gX4_existingStay_X2_stayOf : GoodIn wsX4_existingStay (wsV RX4 165 RX2 yX2_stayOf wsX2_stayOf) := goodIn_app (goodIn_of _ (by decide +kernel)) ggX4_existingStay_X2_stayOf
theorem dX4_existingStay_0 : decode cX4_existingStay 0 = .ok (.aload_n 0, 1) := by decide +kernel
theorem dX4_existingStay_1 : decode cX4_existingStay 1 = .ok (.iload_n 1, 1) := by decide +kernel
theorem dX4_existingStay_2 : decode cX4_existingStay 2 = .ok (.invokevirtual 64, 3) := by decide +kernel
theorem dX4_existingStay_5 : decode cX4_existingStay 5 = .ok (.astore_n 3, 1) := by decide +kernel
theorem dX4_existingStay_6 : decode cX4_existingStay 6 = .ok (.aload_n 0, 1) := by decide +kernel
theorem dX4_existingStay_7 : decode cX4_existingStay 7 = .ok (.iload_n 2, 1) := by decide +kernel
theorem dX4_existingStay_8 : decode cX4_existingStay 8 = .ok (.invokevirtual 48, 3) := by decide +kernel
theorem dX4_existingStay_11 : decode cX4_existingStay 11 = .ok (.pop, 1) := by decide +kernel
theorem dX4_existingStay_12 : decode cX4_existingStay 12 = .ok (.aload_n 3, 1) := by decide +kernel
theorem dX4_existingStay_13 : decode cX4_existingStay 13 = .ok (.iload_n 2, 1) := by decide +kernel
theorem dX4_existingStay_14 : decode cX4_existingStay 14 = .ok (.invokevirtual 165, 3) := by decide +kernel
theorem dX4_existingStay_17 : decode cX4_existingStay 17 = .ok (.areturn, 1) := by decide +kernel
set_option maxRecDepth 20000 in
theorem ggX4_change_X1_add : GoodIn wsX4_change wsX1_add := goodIn_r _ [7, 8, 9, 10, 11, 12, 13, 14, 15, 16, 17, 18, 19, 20, 21, 28, 29, 30, 31, 32, 33] (by decide +kernel) (by decide +kernel)
set_option maxRecDepth 20000 in
theorem gX4_change_X1_add : GoodIn wsX4_change (wsV RX4 169 RX1 yX1_add wsX1_add) := goodIn_app (goodIn_of _ (by decide +kernel)) ggX4_change_X1_add
theorem dX4_change_0 : decode cX4_change 0 = .ok (.aload_n 0, 1) := by decide +kernel
theorem dX4_change_1 : decode cX4_change 1 = .ok (.getfield 28, 3) := by decide +kernel
theorem dX4_change_4 : decode cX4_change 4 = .ok (.sipush 512, 3) := by decide +kernel
theorem dX4_change_7 : decode cX4_change 7 = .ok (.if_icmp .ge 24, 3) := by decide +kernel
theorem dX4_change_10 : decode cX4_change 10 = .ok (.aload_n 0, 1) := by decide +kernel
theorem dX4_change_11 : decode cX4_change 11 = .ok (.dup, 1) := by decide +kernel
theorem dX4_change_12 : decode cX4_change 12 = .ok (.getfield 28, 3) := by decide +kernel
theorem dX4_change_15 : decode cX4_change 15 = .ok (.iconst 1, 1) := by decide +kernel
theorem dX4_change_16 : decode cX4_change 16 = .ok (.iadd, 1) := by decide +kernel
theorem dX4_change_17 : decode cX4_change 17 = .ok (.putfield 28, 3) := by decide +kernel
theorem dX4_change_20 : decode cX4_change 20 = .ok (.aload_n 1, 1) := by decide +kernel
theorem dX4_change_21 : decode cX4_change 21 = .ok (.aload_n 0, 1) := by decide +kernel
theorem dX4_change_22 : decode cX4_change 22 = .ok (.getfield 31, 3) := by decide +kernel
theorem dX4_change_25 : decode cX4_change 25 = .ok (.lload_n 2, 1) := by decide +kernel
theorem dX4_change_26 : decode cX4_change 26 = .ok (.iload 4, 2) := by decide +kernel
theorem dX4_change_28 : decode cX4_change 28 = .ok (.invokevirtual 169, 3) := by decide +kernel
theorem dX4_change_31 : decode cX4_change 31 = .ok (.return_, 1) := by decide +kernel
set_option maxRecDepth 20000 in
theorem ggX4_isWay_X2_letsIn : GoodIn wsX4_isWay wsX2_letsIn := goodIn_r _ [5, 6, 56, 57, 58, 59, 60, 61] (by decide +kernel) (by decide +kernel)
set_option maxRecDepth 20000 in
theorem gX4_isWay_X2_letsIn : GoodIn wsX4_isWay (wsV RX4 142 RX2 yX2_letsIn wsX2_letsIn) := goodIn_app (goodIn_of _ (by decide +kernel)) ggX4_isWay_X2_letsIn
set_option maxRecDepth 20000 in
theorem ggX4_isWay_X2_yearsCovered : GoodIn wsX4_isWay wsX2_yearsCovered := goodIn_ca (goodIn_r _ [10, 11, 12, 13, 4, 14, 15, 16, 17, 18, 19, 20, 21, 22, 23, 24, 25, 26, 27, 28, 29, 30, 31, 32, 33, 34, 35, 36, 37, 38, 39, 40, 41, 42, 43, 44, 45, 46, 47, 48, 49, 50, 51, 52, 56, 57, 58, 59, 60, 61, 62, 63, 64, 65, 66, 67] (by decide +kernel) (by decide +kernel)) (goodIn_sub (fun _ h => List.mem_cons_of_mem _ (List.mem_append_right _ h)) (by decide +kernel))
set_option maxRecDepth 20000 in
theorem gX4_isWay_X2_yearsCovered : GoodIn wsX4_isWay (wsV RX4 145 RX2 yX2_yearsCovered wsX2_yearsCovered) := goodIn_app (goodIn_of _ (by decide +kernel)) ggX4_isWay_X2_yearsCovered
set_option maxRecDepth 20000 in
theorem ggX4_isWay_X4_hasYear : GoodIn wsX4_isWay wsX4_hasYear := goodIn_r _ [55] (by decide +kernel) (by decide +kernel)
set_option maxRecDepth 20000 in
theorem gX4_isWay_X4_hasYear : GoodIn wsX4_isWay (va_wsS RX4 138 yX4_hasYear wsX4_hasYear) := goodIn_app (goodIn_of _ (by decide +kernel)) ggX4_isWay_X4_hasYear
theorem dX4_isWay_0 : decode cX4_isWay 0 = .ok (.aload_n 0, 1) := by decide +kernel
theorem dX4_isWay_1 : decode cX4_isWay 1 = .ok (.iload_n 3, 1) := by decide +kernel
theorem dX4_isWay_2 : decode cX4_isWay 2 = .ok (.invokevirtual 142, 3) := by decide +kernel
theorem dX4_isWay_5 : decode cX4_isWay 5 = .ok (.ifCond .eq 21, 3) := by decide +kernel
theorem dX4_isWay_8 : decode cX4_isWay 8 = .ok (.aload_n 0, 1) := by decide +kernel
theorem dX4_isWay_9 : decode cX4_isWay 9 = .ok (.iload_n 1, 1) := by decide +kernel
theorem dX4_isWay_10 : decode cX4_isWay 10 = .ok (.iload 4, 2) := by decide +kernel
theorem dX4_isWay_12 : decode cX4_isWay 12 = .ok (.invokevirtual 145, 3) := by decide +kernel
theorem dX4_isWay_15 : decode cX4_isWay 15 = .ok (.iload_n 2, 1) := by decide +kernel
theorem dX4_isWay_16 : decode cX4_isWay 16 = .ok (.invokestatic 138, 3) := by decide +kernel
theorem dX4_isWay_19 : decode cX4_isWay 19 = .ok (.ifCond .eq 7, 3) := by decide +kernel
theorem dX4_isWay_22 : decode cX4_isWay 22 = .ok (.iconst 1, 1) := by decide +kernel
theorem dX4_isWay_23 : decode cX4_isWay 23 = .ok (.goto 4, 3) := by decide +kernel
theorem dX4_isWay_26 : decode cX4_isWay 26 = .ok (.iconst 0, 1) := by decide +kernel
theorem dX4_isWay_27 : decode cX4_isWay 27 = .ok (.ireturn, 1) := by decide +kernel
set_option maxRecDepth 20000 in
theorem ggX4_waysTo_X4_existingPack : GoodIn wsX4_waysTo wsX4_existingPack := goodIn_ca (goodIn_r _ [6, 7, 8, 1, 9, 66, 67, 68, 69, 70, 71] (by decide +kernel) (by decide +kernel)) (goodIn_sub (fun _ h => List.mem_cons_of_mem _ (List.mem_append_left _ (List.mem_append_right _ h))) (by decide +kernel))
set_option maxRecDepth 20000 in
theorem gX4_waysTo_X4_existingPack : GoodIn wsX4_waysTo (wsV RX4 64 RX4 yX4_existingPack wsX4_existingPack) := goodIn_app (goodIn_of _ (by decide +kernel)) ggX4_waysTo_X4_existingPack
set_option maxRecDepth 20000 in
theorem ggX4_waysTo_X4_isWay : GoodIn wsX4_waysTo wsX4_isWay := goodIn_ca (goodIn_r _ [12, 13, 14, 15, 16, 17, 18, 19, 20, 21, 22, 23, 24, 25, 26, 27, 28, 29, 30, 31, 32, 8, 33, 34, 35, 36, 37, 38, 39, 40, 41, 42, 43, 44, 45, 46, 47, 48, 5, 49, 50, 51, 52, 53, 54, 55, 56, 57, 58, 59, 60, 61, 62, 63, 64, 65, 72, 73, 74, 75, 76, 77, 78, 79, 80, 81, 82, 83] (by decide +kernel) (by decide +kernel)) (goodIn_sub (fun _ h => List.mem_cons_of_mem _ (List.mem_append_right _ h)) (by decide +kernel))
set_option maxRecDepth 20000 in
theorem gX4_waysTo_X4_isWay : GoodIn wsX4_waysTo (va_wsS RX4 102 yX4_isWay wsX4_isWay) := goodIn_app (goodIn_of _ (by decide +kernel)) ggX4_waysTo_X4_isWay
theorem dX4_waysTo_0 : decode cX4_waysTo 0 = .ok (.iconst 0, 1) := by decide +kernel
theorem dX4_waysTo_1 : decode cX4_waysTo 1 = .ok (.istore 5, 2) := by decide +kernel
theorem dX4_waysTo_3 : decode cX4_waysTo 3 = .ok (.iconst 0, 1) := by decide +kernel
theorem dX4_waysTo_4 : decode cX4_waysTo 4 = .ok (.istore 6, 2) := by decide +kernel
theorem dX4_waysTo_6 : decode cX4_waysTo 6 = .ok (.iload 6, 2) := by decide +kernel
theorem dX4_waysTo_8 : decode cX4_waysTo 8 = .ok (.aload_n 0, 1) := by decide +kernel
theorem dX4_waysTo_9 : decode cX4_waysTo 9 = .ok (.getfield 25, 3) := by decide +kernel
theorem dX4_waysTo_12 : decode cX4_waysTo 12 = .ok (.if_icmp .ge 35, 3) := by decide +kernel
theorem dX4_waysTo_15 : decode cX4_waysTo 15 = .ok (.aload_n 0, 1) := by decide +kernel
theorem dX4_waysTo_16 : decode cX4_waysTo 16 = .ok (.iload 6, 2) := by decide +kernel
theorem dX4_waysTo_18 : decode cX4_waysTo 18 = .ok (.invokevirtual 64, 3) := by decide +kernel
theorem dX4_waysTo_21 : decode cX4_waysTo 21 = .ok (.iload_n 1, 1) := by decide +kernel
theorem dX4_waysTo_22 : decode cX4_waysTo 22 = .ok (.iload_n 2, 1) := by decide +kernel
theorem dX4_waysTo_23 : decode cX4_waysTo 23 = .ok (.iload_n 3, 1) := by decide +kernel
theorem dX4_waysTo_24 : decode cX4_waysTo 24 = .ok (.iload 4, 2) := by decide +kernel
theorem dX4_waysTo_26 : decode cX4_waysTo 26 = .ok (.invokestatic 102, 3) := by decide +kernel
theorem dX4_waysTo_29 : decode cX4_waysTo 29 = .ok (.ifCond .eq 12, 3) := by decide +kernel
theorem dX4_waysTo_32 : decode cX4_waysTo 32 = .ok (.iload 5, 2) := by decide +kernel
theorem dX4_waysTo_34 : decode cX4_waysTo 34 = .ok (.iconst 1, 1) := by decide +kernel
theorem dX4_waysTo_35 : decode cX4_waysTo 35 = .ok (.iload 6, 2) := by decide +kernel
theorem dX4_waysTo_37 : decode cX4_waysTo 37 = .ok (.ishl, 1) := by decide +kernel
theorem dX4_waysTo_38 : decode cX4_waysTo 38 = .ok (.ior, 1) := by decide +kernel
theorem dX4_waysTo_39 : decode cX4_waysTo 39 = .ok (.istore 5, 2) := by decide +kernel
theorem dX4_waysTo_41 : decode cX4_waysTo 41 = .ok (.iinc 6 1, 3) := by decide +kernel
theorem dX4_waysTo_44 : decode cX4_waysTo 44 = .ok (.goto (-38), 3) := by decide +kernel
theorem dX4_waysTo_47 : decode cX4_waysTo 47 = .ok (.iload 5, 2) := by decide +kernel
theorem dX4_waysTo_49 : decode cX4_waysTo 49 = .ok (.ireturn, 1) := by decide +kernel
theorem dX4_isAmong_0 : decode cX4_isAmong 0 = .ok (.iload_n 0, 1) := by decide +kernel
theorem dX4_isAmong_1 : decode cX4_isAmong 1 = .ok (.iload_n 1, 1) := by decide +kernel
theorem dX4_isAmong_2 : decode cX4_isAmong 2 = .ok (.ishr, 1) := by decide +kernel
theorem dX4_isAmong_3 : decode cX4_isAmong 3 = .ok (.iconst 1, 1) := by decide +kernel
theorem dX4_isAmong_4 : decode cX4_isAmong 4 = .ok (.iand, 1) := by decide +kernel
theorem dX4_isAmong_5 : decode cX4_isAmong 5 = .ok (.iconst 1, 1) := by decide +kernel
theorem dX4_isAmong_6 : decode cX4_isAmong 6 = .ok (.if_icmp .ne 7, 3) := by decide +kernel
theorem dX4_isAmong_9 : decode cX4_isAmong 9 = .ok (.iconst 1, 1) := by decide +kernel
theorem dX4_isAmong_10 : decode cX4_isAmong 10 = .ok (.goto 4, 3) := by decide +kernel
theorem dX4_isAmong_13 : decode cX4_isAmong 13 = .ok (.iconst 0, 1) := by decide +kernel
theorem dX4_isAmong_14 : decode cX4_isAmong 14 = .ok (.ireturn, 1) := by decide +kernel
set_option maxRecDepth 20000 in
theorem ggX4_placeAmong_X4_isAmong : GoodIn wsX4_placeAmong wsX4_isAmong := goodIn_r _ [5] (by decide +kernel) (by decide +kernel)
set_option maxRecDepth 20000 in
theorem gX4_placeAmong_X4_isAmong : GoodIn wsX4_placeAmong (va_wsS RX4 115 yX4_isAmong wsX4_isAmong) := goodIn_app (goodIn_of _ (by decide +kernel)) ggX4_placeAmong_X4_isAmong
set_option maxRecDepth 20000 in
theorem ggX4_placeAmong_X4_isAhead : GoodIn wsX4_placeAmong wsX4_isAhead := goodIn_ca (goodIn_ca (goodIn_r _ [9, 10, 11, 12, 13, 14, 4, 15, 16, 17, 1, 18, 19, 20, 21, 22, 23, 24, 25, 26, 27, 28, 29, 30, 37, 38, 39, 40, 41, 42, 31, 32, 33, 34, 35, 36, 43, 44] (by decide +kernel) (by decide +kernel)) (goodIn_sub (fun _ h => List.mem_cons_of_mem _ (List.mem_append_left _ (List.mem_append_right _ h))) (by decide +kernel))) (goodIn_sub (fun _ h => List.mem_cons_of_mem _ (List.mem_append_right _ h)) (by decide +kernel))
set_option maxRecDepth 20000 in
theorem gX4_placeAmong_X4_isAhead : GoodIn wsX4_placeAmong (wsV RX4 173 RX4 yX4_isAhead wsX4_isAhead) := goodIn_app (goodIn_of _ (by decide +kernel)) ggX4_placeAmong_X4_isAhead
theorem dX4_placeAmong_0 : decode cX4_placeAmong 0 = .ok (.iconst 0, 1) := by decide +kernel
theorem dX4_placeAmong_1 : decode cX4_placeAmong 1 = .ok (.istore 4, 2) := by decide +kernel
theorem dX4_placeAmong_3 : decode cX4_placeAmong 3 = .ok (.iconst 0, 1) := by decide +kernel
theorem dX4_placeAmong_4 : decode cX4_placeAmong 4 = .ok (.istore 5, 2) := by decide +kernel
theorem dX4_placeAmong_6 : decode cX4_placeAmong 6 = .ok (.iload 5, 2) := by decide +kernel
theorem dX4_placeAmong_8 : decode cX4_placeAmong 8 = .ok (.aload_n 0, 1) := by decide +kernel
theorem dX4_placeAmong_9 : decode cX4_placeAmong 9 = .ok (.getfield 25, 3) := by decide +kernel
theorem dX4_placeAmong_12 : decode cX4_placeAmong 12 = .ok (.if_icmp .ge 38, 3) := by decide +kernel
theorem dX4_placeAmong_15 : decode cX4_placeAmong 15 = .ok (.iload 5, 2) := by decide +kernel
theorem dX4_placeAmong_17 : decode cX4_placeAmong 17 = .ok (.iload_n 2, 1) := by decide +kernel
theorem dX4_placeAmong_18 : decode cX4_placeAmong 18 = .ok (.if_icmp .eq 26, 3) := by decide +kernel
theorem dX4_placeAmong_21 : decode cX4_placeAmong 21 = .ok (.iload_n 1, 1) := by decide +kernel
theorem dX4_placeAmong_22 : decode cX4_placeAmong 22 = .ok (.iload 5, 2) := by decide +kernel
theorem dX4_placeAmong_24 : decode cX4_placeAmong 24 = .ok (.invokestatic 115, 3) := by decide +kernel
theorem dX4_placeAmong_27 : decode cX4_placeAmong 27 = .ok (.ifCond .eq 17, 3) := by decide +kernel
theorem dX4_placeAmong_30 : decode cX4_placeAmong 30 = .ok (.aload_n 0, 1) := by decide +kernel
theorem dX4_placeAmong_31 : decode cX4_placeAmong 31 = .ok (.iload 5, 2) := by decide +kernel
theorem dX4_placeAmong_33 : decode cX4_placeAmong 33 = .ok (.iload_n 2, 1) := by decide +kernel
theorem dX4_placeAmong_34 : decode cX4_placeAmong 34 = .ok (.iload_n 3, 1) := by decide +kernel
theorem dX4_placeAmong_35 : decode cX4_placeAmong 35 = .ok (.invokevirtual 173, 3) := by decide +kernel
theorem dX4_placeAmong_38 : decode cX4_placeAmong 38 = .ok (.ifCond .eq 6, 3) := by decide +kernel
theorem dX4_placeAmong_41 : decode cX4_placeAmong 41 = .ok (.iinc 4 1, 3) := by decide +kernel
theorem dX4_placeAmong_44 : decode cX4_placeAmong 44 = .ok (.iinc 5 1, 3) := by decide +kernel
theorem dX4_placeAmong_47 : decode cX4_placeAmong 47 = .ok (.goto (-41), 3) := by decide +kernel
theorem dX4_placeAmong_50 : decode cX4_placeAmong 50 = .ok (.iload 4, 2) := by decide +kernel
theorem dX4_placeAmong_52 : decode cX4_placeAmong 52 = .ok (.ireturn, 1) := by decide +kernel
set_option maxRecDepth 20000 in
theorem ggX4_isAhead_X4_existingPack : GoodIn wsX4_isAhead wsX4_existingPack := goodIn_ca (goodIn_r _ [7, 8, 9, 10, 11, 30, 31, 32, 33, 34, 35] (by decide +kernel) (by decide +kernel)) (goodIn_sub (fun _ h => List.mem_cons_of_mem _ (List.mem_append_left _ (List.mem_append_right _ h))) (by decide +kernel))
set_option maxRecDepth 20000 in
theorem gX4_isAhead_X4_existingPack : GoodIn wsX4_isAhead (wsV RX4 64 RX4 yX4_existingPack wsX4_existingPack) := goodIn_app (goodIn_of _ (by decide +kernel)) ggX4_isAhead_X4_existingPack
set_option maxRecDepth 20000 in
theorem ggX4_isAhead_X2_isBroken : GoodIn wsX4_isAhead wsX2_isBroken := goodIn_ca (goodIn_r _ [16, 17, 18, 19, 20, 15, 21, 22, 9, 23, 36, 37, 24, 25, 26, 27, 28, 29] (by decide +kernel) (by decide +kernel)) (goodIn_sub (fun _ h => List.mem_cons_of_mem _ (List.mem_append_right _ h)) (by decide +kernel))
set_option maxRecDepth 20000 in
theorem gX4_isAhead_X2_isBroken : GoodIn wsX4_isAhead (wsV RX4 177 RX2 yX2_isBroken wsX2_isBroken) := goodIn_app (goodIn_of _ (by decide +kernel)) ggX4_isAhead_X2_isBroken
theorem dX4_isAhead_0 : decode cX4_isAhead 0 = .ok (.aload_n 0, 1) := by decide +kernel
theorem dX4_isAhead_1 : decode cX4_isAhead 1 = .ok (.iload_n 1, 1) := by decide +kernel
theorem dX4_isAhead_2 : decode cX4_isAhead 2 = .ok (.invokevirtual 64, 3) := by decide +kernel
theorem dX4_isAhead_5 : decode cX4_isAhead 5 = .ok (.astore 4, 2) := by decide +kernel
theorem dX4_isAhead_7 : decode cX4_isAhead 7 = .ok (.aload_n 0, 1) := by decide +kernel
theorem dX4_isAhead_8 : decode cX4_isAhead 8 = .ok (.iload_n 2, 1) := by decide +kernel
theorem dX4_isAhead_9 : decode cX4_isAhead 9 = .ok (.invokevirtual 64, 3) := by decide +kernel
theorem dX4_isAhead_12 : decode cX4_isAhead 12 = .ok (.astore 5, 2) := by decide +kernel
theorem dX4_isAhead_14 : decode cX4_isAhead 14 = .ok (.aload 4, 2) := by decide +kernel
theorem dX4_isAhead_16 : decode cX4_isAhead 16 = .ok (.iload_n 3, 1) := by decide +kernel
theorem dX4_isAhead_17 : decode cX4_isAhead 17 = .ok (.invokevirtual 177, 3) := by decide +kernel
theorem dX4_isAhead_20 : decode cX4_isAhead 20 = .ok (.istore 6, 2) := by decide +kernel
theorem dX4_isAhead_22 : decode cX4_isAhead 22 = .ok (.iload 6, 2) := by decide +kernel
theorem dX4_isAhead_24 : decode cX4_isAhead 24 = .ok (.aload 5, 2) := by decide +kernel
theorem dX4_isAhead_26 : decode cX4_isAhead 26 = .ok (.iload_n 3, 1) := by decide +kernel
theorem dX4_isAhead_27 : decode cX4_isAhead 27 = .ok (.invokevirtual 177, 3) := by decide +kernel
theorem dX4_isAhead_30 : decode cX4_isAhead 30 = .ok (.if_icmp .eq 14, 3) := by decide +kernel
theorem dX4_isAhead_33 : decode cX4_isAhead 33 = .ok (.iload 6, 2) := by decide +kernel
theorem dX4_isAhead_35 : decode cX4_isAhead 35 = .ok (.ifCond .ne 7, 3) := by decide +kernel
theorem dX4_isAhead_38 : decode cX4_isAhead 38 = .ok (.iconst 1, 1) := by decide +kernel
theorem dX4_isAhead_39 : decode cX4_isAhead 39 = .ok (.goto 4, 3) := by decide +kernel
theorem dX4_isAhead_42 : decode cX4_isAhead 42 = .ok (.iconst 0, 1) := by decide +kernel
theorem dX4_isAhead_43 : decode cX4_isAhead 43 = .ok (.ireturn, 1) := by decide +kernel
theorem dX4_isAhead_44 : decode cX4_isAhead 44 = .ok (.aload 4, 2) := by decide +kernel
theorem dX4_isAhead_46 : decode cX4_isAhead 46 = .ok (.getfield 180, 3) := by decide +kernel
theorem dX4_isAhead_49 : decode cX4_isAhead 49 = .ok (.aload 5, 2) := by decide +kernel
theorem dX4_isAhead_51 : decode cX4_isAhead 51 = .ok (.getfield 180, 3) := by decide +kernel
theorem dX4_isAhead_54 : decode cX4_isAhead 54 = .ok (.if_icmp .eq 22, 3) := by decide +kernel
theorem dX4_isAhead_57 : decode cX4_isAhead 57 = .ok (.aload 4, 2) := by decide +kernel
theorem dX4_isAhead_59 : decode cX4_isAhead 59 = .ok (.getfield 180, 3) := by decide +kernel
theorem dX4_isAhead_62 : decode cX4_isAhead 62 = .ok (.aload 5, 2) := by decide +kernel
theorem dX4_isAhead_64 : decode cX4_isAhead 64 = .ok (.getfield 180, 3) := by decide +kernel
theorem dX4_isAhead_67 : decode cX4_isAhead 67 = .ok (.if_icmp .ge 7, 3) := by decide +kernel
theorem dX4_isAhead_70 : decode cX4_isAhead 70 = .ok (.iconst 1, 1) := by decide +kernel
theorem dX4_isAhead_71 : decode cX4_isAhead 71 = .ok (.goto 4, 3) := by decide +kernel
theorem dX4_isAhead_74 : decode cX4_isAhead 74 = .ok (.iconst 0, 1) := by decide +kernel
theorem dX4_isAhead_75 : decode cX4_isAhead 75 = .ok (.ireturn, 1) := by decide +kernel
theorem dX4_isAhead_76 : decode cX4_isAhead 76 = .ok (.aload 4, 2) := by decide +kernel
theorem dX4_isAhead_78 : decode cX4_isAhead 78 = .ok (.getfield 183, 3) := by decide +kernel
theorem dX4_isAhead_81 : decode cX4_isAhead 81 = .ok (.aload 5, 2) := by decide +kernel
theorem dX4_isAhead_83 : decode cX4_isAhead 83 = .ok (.getfield 183, 3) := by decide +kernel
theorem dX4_isAhead_86 : decode cX4_isAhead 86 = .ok (.if_icmp .eq 22, 3) := by decide +kernel
theorem dX4_isAhead_89 : decode cX4_isAhead 89 = .ok (.aload 4, 2) := by decide +kernel
theorem dX4_isAhead_91 : decode cX4_isAhead 91 = .ok (.getfield 183, 3) := by decide +kernel
theorem dX4_isAhead_94 : decode cX4_isAhead 94 = .ok (.aload 5, 2) := by decide +kernel
theorem dX4_isAhead_96 : decode cX4_isAhead 96 = .ok (.getfield 183, 3) := by decide +kernel
theorem dX4_isAhead_99 : decode cX4_isAhead 99 = .ok (.if_icmp .ge 7, 3) := by decide +kernel
theorem dX4_isAhead_102 : decode cX4_isAhead 102 = .ok (.iconst 1, 1) := by decide +kernel
theorem dX4_isAhead_103 : decode cX4_isAhead 103 = .ok (.goto 4, 3) := by decide +kernel
theorem dX4_isAhead_106 : decode cX4_isAhead 106 = .ok (.iconst 0, 1) := by decide +kernel
theorem dX4_isAhead_107 : decode cX4_isAhead 107 = .ok (.ireturn, 1) := by decide +kernel
theorem dX4_isAhead_108 : decode cX4_isAhead 108 = .ok (.iload_n 1, 1) := by decide +kernel
theorem dX4_isAhead_109 : decode cX4_isAhead 109 = .ok (.iload_n 2, 1) := by decide +kernel
theorem dX4_isAhead_110 : decode cX4_isAhead 110 = .ok (.if_icmp .ge 7, 3) := by decide +kernel
theorem dX4_isAhead_113 : decode cX4_isAhead 113 = .ok (.iconst 1, 1) := by decide +kernel
theorem dX4_isAhead_114 : decode cX4_isAhead 114 = .ok (.goto 4, 3) := by decide +kernel
theorem dX4_isAhead_117 : decode cX4_isAhead 117 = .ok (.iconst 0, 1) := by decide +kernel
theorem dX4_isAhead_118 : decode cX4_isAhead 118 = .ok (.ireturn, 1) := by decide +kernel
set_option maxRecDepth 20000 in
theorem ggX4_yearsSoFar_X4_yearsBetween : GoodIn wsX4_yearsSoFar wsX4_yearsBetween := goodIn_r _ [6] (by decide +kernel) (by decide +kernel)
set_option maxRecDepth 20000 in
theorem gX4_yearsSoFar_X4_yearsBetween : GoodIn wsX4_yearsSoFar (va_wsS RX4 88 yX4_yearsBetween wsX4_yearsBetween) := goodIn_app (goodIn_of _ (by decide +kernel)) ggX4_yearsSoFar_X4_yearsBetween
theorem dX4_yearsSoFar_0 : decode cX4_yearsSoFar 0 = .ok (.aload_n 1, 1) := by decide +kernel
theorem dX4_yearsSoFar_1 : decode cX4_yearsSoFar 1 = .ok (.getfield 56, 3) := by decide +kernel
theorem dX4_yearsSoFar_4 : decode cX4_yearsSoFar 4 = .ok (.aload_n 0, 1) := by decide +kernel
theorem dX4_yearsSoFar_5 : decode cX4_yearsSoFar 5 = .ok (.getfield 31, 3) := by decide +kernel
theorem dX4_yearsSoFar_8 : decode cX4_yearsSoFar 8 = .ok (.sipush 360, 3) := by decide +kernel
theorem dX4_yearsSoFar_11 : decode cX4_yearsSoFar 11 = .ok (.idiv, 1) := by decide +kernel
theorem dX4_yearsSoFar_12 : decode cX4_yearsSoFar 12 = .ok (.invokestatic 88, 3) := by decide +kernel
theorem dX4_yearsSoFar_15 : decode cX4_yearsSoFar 15 = .ok (.lreturn, 1) := by decide +kernel
set_option maxRecDepth 20000 in
theorem ggX4_yearsCoveredButBy_X4_existingPack : GoodIn wsX4_yearsCoveredButBy wsX4_existingPack := goodIn_ca (goodIn_r _ [7, 8, 9, 1, 10, 61, 62, 63, 64, 65, 66] (by decide +kernel) (by decide +kernel)) (goodIn_sub (fun _ h => List.mem_cons_of_mem _ (List.mem_append_left _ (List.mem_append_right _ h))) (by decide +kernel))
set_option maxRecDepth 20000 in
theorem gX4_yearsCoveredButBy_X4_existingPack : GoodIn wsX4_yearsCoveredButBy (wsV RX4 64 RX4 yX4_existingPack wsX4_existingPack) := goodIn_app (goodIn_of _ (by decide +kernel)) ggX4_yearsCoveredButBy_X4_existingPack
set_option maxRecDepth 20000 in
theorem ggX4_yearsCoveredButBy_X2_letsIn : GoodIn wsX4_yearsCoveredButBy wsX2_letsIn := goodIn_r _ [15, 16, 67, 68, 69, 70, 71, 72] (by decide +kernel) (by decide +kernel)
set_option maxRecDepth 20000 in
theorem gX4_yearsCoveredButBy_X2_letsIn : GoodIn wsX4_yearsCoveredButBy (wsV RX4 142 RX2 yX2_letsIn wsX2_letsIn) := goodIn_app (goodIn_of _ (by decide +kernel)) ggX4_yearsCoveredButBy_X2_letsIn
set_option maxRecDepth 20000 in
theorem ggX4_yearsCoveredButBy_X2_yearsCovered : GoodIn wsX4_yearsCoveredButBy wsX2_yearsCovered := goodIn_ca (goodIn_r _ [20, 21, 22, 23, 14, 24, 25, 26, 27, 28, 29, 30, 9, 31, 32, 33, 34, 35, 36, 37, 38, 39, 40, 41, 42, 43, 44, 45, 46, 6, 47, 48, 49, 50, 51, 52, 53, 54, 55, 56, 57, 58, 59, 60, 67, 68, 69, 70, 71, 72, 73, 74, 75, 76, 77, 78] (by decide +kernel) (by decide +kernel)) (goodIn_sub (fun _ h => List.mem_cons_of_mem _ (List.mem_append_right _ h)) (by decide +kernel))
set_option maxRecDepth 20000 in
theorem gX4_yearsCoveredButBy_X2_yearsCovered : GoodIn wsX4_yearsCoveredButBy (wsV RX4 145 RX2 yX2_yearsCovered wsX2_yearsCovered) := goodIn_app (goodIn_of _ (by decide +kernel)) ggX4_yearsCoveredButBy_X2_yearsCovered
theorem dX4_yearsCoveredButBy_0 : decode cX4_yearsCoveredButBy 0 = .ok (.lconst 0, 1) := by decide +kernel
theorem dX4_yearsCoveredButBy_1 : decode cX4_yearsCoveredButBy 1 = .ok (.lstore 4, 2) := by decide +kernel
theorem dX4_yearsCoveredButBy_3 : decode cX4_yearsCoveredButBy 3 = .ok (.iconst 0, 1) := by decide +kernel
theorem dX4_yearsCoveredButBy_4 : decode cX4_yearsCoveredButBy 4 = .ok (.istore 6, 2) := by decide +kernel
theorem dX4_yearsCoveredButBy_6 : decode cX4_yearsCoveredButBy 6 = .ok (.iload 6, 2) := by decide +kernel
theorem dX4_yearsCoveredButBy_8 : decode cX4_yearsCoveredButBy 8 = .ok (.aload_n 0, 1) := by decide +kernel
theorem dX4_yearsCoveredButBy_9 : decode cX4_yearsCoveredButBy 9 = .ok (.getfield 25, 3) := by decide +kernel
theorem dX4_yearsCoveredButBy_12 : decode cX4_yearsCoveredButBy 12 = .ok (.if_icmp .ge 47, 3) := by decide +kernel
theorem dX4_yearsCoveredButBy_15 : decode cX4_yearsCoveredButBy 15 = .ok (.aload_n 0, 1) := by decide +kernel
theorem dX4_yearsCoveredButBy_16 : decode cX4_yearsCoveredButBy 16 = .ok (.iload 6, 2) := by decide +kernel
theorem dX4_yearsCoveredButBy_18 : decode cX4_yearsCoveredButBy 18 = .ok (.invokevirtual 64, 3) := by decide +kernel
theorem dX4_yearsCoveredButBy_21 : decode cX4_yearsCoveredButBy 21 = .ok (.astore 7, 2) := by decide +kernel
theorem dX4_yearsCoveredButBy_23 : decode cX4_yearsCoveredButBy 23 = .ok (.iload 6, 2) := by decide +kernel
theorem dX4_yearsCoveredButBy_25 : decode cX4_yearsCoveredButBy 25 = .ok (.iload_n 1, 1) := by decide +kernel
theorem dX4_yearsCoveredButBy_26 : decode cX4_yearsCoveredButBy 26 = .ok (.if_icmp .eq 27, 3) := by decide +kernel
theorem dX4_yearsCoveredButBy_29 : decode cX4_yearsCoveredButBy 29 = .ok (.aload 7, 2) := by decide +kernel
theorem dX4_yearsCoveredButBy_31 : decode cX4_yearsCoveredButBy 31 = .ok (.iload_n 3, 1) := by decide +kernel
theorem dX4_yearsCoveredButBy_32 : decode cX4_yearsCoveredButBy 32 = .ok (.invokevirtual 142, 3) := by decide +kernel
theorem dX4_yearsCoveredButBy_35 : decode cX4_yearsCoveredButBy 35 = .ok (.ifCond .eq 18, 3) := by decide +kernel
theorem dX4_yearsCoveredButBy_38 : decode cX4_yearsCoveredButBy 38 = .ok (.lload 4, 2) := by decide +kernel
theorem dX4_yearsCoveredButBy_40 : decode cX4_yearsCoveredButBy 40 = .ok (.aload 7, 2) := by decide +kernel
theorem dX4_yearsCoveredButBy_42 : decode cX4_yearsCoveredButBy 42 = .ok (.iload_n 2, 1) := by decide +kernel
theorem dX4_yearsCoveredButBy_43 : decode cX4_yearsCoveredButBy 43 = .ok (.aload_n 0, 1) := by decide +kernel
theorem dX4_yearsCoveredButBy_44 : decode cX4_yearsCoveredButBy 44 = .ok (.getfield 31, 3) := by decide +kernel
theorem dX4_yearsCoveredButBy_47 : decode cX4_yearsCoveredButBy 47 = .ok (.invokevirtual 145, 3) := by decide +kernel
theorem dX4_yearsCoveredButBy_50 : decode cX4_yearsCoveredButBy 50 = .ok (.lor, 1) := by decide +kernel
theorem dX4_yearsCoveredButBy_51 : decode cX4_yearsCoveredButBy 51 = .ok (.lstore 4, 2) := by decide +kernel
theorem dX4_yearsCoveredButBy_53 : decode cX4_yearsCoveredButBy 53 = .ok (.iinc 6 1, 3) := by decide +kernel
theorem dX4_yearsCoveredButBy_56 : decode cX4_yearsCoveredButBy 56 = .ok (.goto (-50), 3) := by decide +kernel
theorem dX4_yearsCoveredButBy_59 : decode cX4_yearsCoveredButBy 59 = .ok (.lload 4, 2) := by decide +kernel
theorem dX4_yearsCoveredButBy_61 : decode cX4_yearsCoveredButBy 61 = .ok (.lreturn, 1) := by decide +kernel
set_option maxRecDepth 20000 in
theorem ggX4_isLostWithout_X4_existingPack : GoodIn wsX4_isLostWithout wsX4_existingPack := goodIn_ca (goodIn_r _ [7, 8, 9, 10, 11, 80, 81, 82, 83, 84, 85] (by decide +kernel) (by decide +kernel)) (goodIn_sub (fun _ h => List.mem_cons_of_mem _ (List.mem_append_left _ (List.mem_append_right _ h))) (by decide +kernel))
set_option maxRecDepth 20000 in
theorem gX4_isLostWithout_X4_existingPack : GoodIn wsX4_isLostWithout (wsV RX4 64 RX4 yX4_existingPack wsX4_existingPack) := goodIn_app (goodIn_of _ (by decide +kernel)) ggX4_isLostWithout_X4_existingPack
set_option maxRecDepth 20000 in
theorem ggX4_isLostWithout_X2_yearsOpen : GoodIn wsX4_isLostWithout wsX2_yearsOpen := goodIn_ca (goodIn_r _ [16, 17, 18, 19, 20, 15, 21, 22, 9, 23, 24, 25, 26, 27, 28, 29, 30, 31, 32, 33, 34, 35, 36, 37, 38, 6, 39, 86, 87, 88, 89, 90, 91, 92, 93, 94, 95, 96, 97] (by decide +kernel) (by decide +kernel)) (goodIn_sub (fun _ h => List.mem_cons_of_mem _ (List.mem_append_right _ h)) (by decide +kernel))
set_option maxRecDepth 20000 in
theorem gX4_isLostWithout_X2_yearsOpen : GoodIn wsX4_isLostWithout (wsV RX4 186 RX2 yX2_yearsOpen wsX2_yearsOpen) := goodIn_app (goodIn_of _ (by decide +kernel)) ggX4_isLostWithout_X2_yearsOpen
set_option maxRecDepth 20000 in
theorem ggX4_isLostWithout_X2_yearsKept : GoodIn wsX4_isLostWithout wsX2_yearsKept := goodIn_ca (goodIn_r _ [43, 44, 17, 18, 19, 20, 15, 21, 22, 9, 23, 45, 46, 47, 27, 48, 35, 36, 30, 29, 49, 50, 51, 52, 37, 38, 6, 39, 86, 87, 88, 89, 90, 91, 96, 97, 92, 93, 94, 95] (by decide +kernel) (by decide +kernel)) (goodIn_sub (fun _ h => List.mem_cons_of_mem _ (List.mem_append_right _ h)) (by decide +kernel))
set_option maxRecDepth 20000 in
theorem gX4_isLostWithout_X2_yearsKept : GoodIn wsX4_isLostWithout (wsV RX4 189 RX2 yX2_yearsKept wsX2_yearsKept) := goodIn_app (goodIn_of _ (by decide +kernel)) ggX4_isLostWithout_X2_yearsKept
set_option maxRecDepth 20000 in
theorem ggX4_isLostWithout_X4_existingTitle : GoodIn wsX4_isLostWithout wsX4_existingTitle := goodIn_ca (goodIn_r _ [56, 8, 9, 57, 58, 80, 81, 82, 83, 84, 85] (by decide +kernel) (by decide +kernel)) (goodIn_sub (fun _ h => List.mem_cons_of_mem _ (List.mem_append_left _ (List.mem_append_right _ h))) (by decide +kernel))
set_option maxRecDepth 20000 in
theorem gX4_isLostWithout_X4_existingTitle : GoodIn wsX4_isLostWithout (wsV RX4 48 RX4 yX4_existingTitle wsX4_existingTitle) := goodIn_app (goodIn_of _ (by decide +kernel)) ggX4_isLostWithout_X4_existingTitle
set_option maxRecDepth 20000 in
theorem ggX4_isLostWithout_X4_yearsSoFar : GoodIn wsX4_isLostWithout wsX4_yearsSoFar := goodIn_r _ [62, 63, 1, 64, 38, 6, 39, 98, 99, 80, 81, 82, 83, 84, 85] (by decide +kernel) (by decide +kernel)
set_option maxRecDepth 20000 in
theorem gX4_isLostWithout_X4_yearsSoFar : GoodIn wsX4_isLostWithout (wsV RX4 128 RX4 yX4_yearsSoFar wsX4_yearsSoFar) := goodIn_app (goodIn_of _ (by decide +kernel)) ggX4_isLostWithout_X4_yearsSoFar
set_option maxRecDepth 20000 in
theorem ggX4_isLostWithout_X2_letsIn : GoodIn wsX4_isLostWithout wsX2_letsIn := goodIn_r _ [68, 69, 86, 87, 88, 89, 90, 91] (by decide +kernel) (by decide +kernel)
set_option maxRecDepth 20000 in
theorem gX4_isLostWithout_X2_letsIn : GoodIn wsX4_isLostWithout (wsV RX4 142 RX2 yX2_letsIn wsX2_letsIn) := goodIn_app (goodIn_of _ (by decide +kernel)) ggX4_isLostWithout_X2_letsIn
set_option maxRecDepth 20000 in
theorem ggX4_isLostWithout_X4_yearsCoveredButBy : GoodIn wsX4_isLostWithout wsX4_yearsCoveredButBy := goodIn_ca (goodIn_ca (goodIn_r _ [73, 10, 1, 3, 4, 5, 6, 7, 8, 9, 11, 65, 66, 67, 15, 68, 69, 74, 75, 76, 77, 78, 13, 14, 16, 17, 18, 19, 20, 21, 22, 23, 24, 25, 26, 27, 28, 29, 30, 31, 32, 33, 34, 35, 36, 37, 38, 39, 79, 41, 42, 43, 44, 45, 46, 47, 48, 49, 50, 51, 52, 80, 81, 82, 83, 84, 85, 86, 87, 88, 89, 90, 91, 92, 93, 94, 95, 96, 97] (by decide +kernel) (by decide +kernel)) (goodIn_sub (fun _ h => List.mem_cons_of_mem _ (List.mem_append_left _ (List.mem_append_right _ h))) (by decide +kernel))) (goodIn_sub (fun _ h => List.mem_cons_of_mem _ (List.mem_append_right _ h)) (by decide +kernel))
set_option maxRecDepth 20000 in
theorem gX4_isLostWithout_X4_yearsCoveredButBy : GoodIn wsX4_isLostWithout (wsV RX4 132 RX4 yX4_yearsCoveredButBy wsX4_yearsCoveredButBy) := goodIn_app (goodIn_of _ (by decide +kernel)) ggX4_isLostWithout_X4_yearsCoveredButBy
theorem dX4_isLostWithout_0 : decode cX4_isLostWithout 0 = .ok (.aload_n 0, 1) := by decide +kernel
theorem dX4_isLostWithout_1 : decode cX4_isLostWithout 1 = .ok (.iload_n 1, 1) := by decide +kernel
theorem dX4_isLostWithout_2 : decode cX4_isLostWithout 2 = .ok (.invokevirtual 64, 3) := by decide +kernel
theorem dX4_isLostWithout_5 : decode cX4_isLostWithout 5 = .ok (.astore_n 3, 1) := by decide +kernel
theorem dX4_isLostWithout_6 : decode cX4_isLostWithout 6 = .ok (.aload_n 3, 1) := by decide +kernel
theorem dX4_isLostWithout_7 : decode cX4_isLostWithout 7 = .ok (.iload_n 2, 1) := by decide +kernel
theorem dX4_isLostWithout_8 : decode cX4_isLostWithout 8 = .ok (.aload_n 0, 1) := by decide +kernel
theorem dX4_isLostWithout_9 : decode cX4_isLostWithout 9 = .ok (.getfield 31, 3) := by decide +kernel
theorem dX4_isLostWithout_12 : decode cX4_isLostWithout 12 = .ok (.invokevirtual 186, 3) := by decide +kernel
theorem dX4_isLostWithout_15 : decode cX4_isLostWithout 15 = .ok (.aload_n 3, 1) := by decide +kernel
theorem dX4_isLostWithout_16 : decode cX4_isLostWithout 16 = .ok (.iload_n 2, 1) := by decide +kernel
theorem dX4_isLostWithout_17 : decode cX4_isLostWithout 17 = .ok (.aload_n 0, 1) := by decide +kernel
theorem dX4_isLostWithout_18 : decode cX4_isLostWithout 18 = .ok (.getfield 31, 3) := by decide +kernel
theorem dX4_isLostWithout_21 : decode cX4_isLostWithout 21 = .ok (.invokevirtual 189, 3) := by decide +kernel
theorem dX4_isLostWithout_24 : decode cX4_isLostWithout 24 = .ok (.ldc2_w 136, 3) := by decide +kernel
theorem dX4_isLostWithout_27 : decode cX4_isLostWithout 27 = .ok (.lxor, 1) := by decide +kernel
theorem dX4_isLostWithout_28 : decode cX4_isLostWithout 28 = .ok (.land, 1) := by decide +kernel
theorem dX4_isLostWithout_29 : decode cX4_isLostWithout 29 = .ok (.aload_n 0, 1) := by decide +kernel
theorem dX4_isLostWithout_30 : decode cX4_isLostWithout 30 = .ok (.aload_n 0, 1) := by decide +kernel
theorem dX4_isLostWithout_31 : decode cX4_isLostWithout 31 = .ok (.iload_n 2, 1) := by decide +kernel
theorem dX4_isLostWithout_32 : decode cX4_isLostWithout 32 = .ok (.invokevirtual 48, 3) := by decide +kernel
theorem dX4_isLostWithout_35 : decode cX4_isLostWithout 35 = .ok (.invokevirtual 128, 3) := by decide +kernel
theorem dX4_isLostWithout_38 : decode cX4_isLostWithout 38 = .ok (.land, 1) := by decide +kernel
theorem dX4_isLostWithout_39 : decode cX4_isLostWithout 39 = .ok (.lstore 4, 2) := by decide +kernel
theorem dX4_isLostWithout_41 : decode cX4_isLostWithout 41 = .ok (.lload 4, 2) := by decide +kernel
theorem dX4_isLostWithout_43 : decode cX4_isLostWithout 43 = .ok (.lconst 0, 1) := by decide +kernel
theorem dX4_isLostWithout_44 : decode cX4_isLostWithout 44 = .ok (.lcmp, 1) := by decide +kernel
theorem dX4_isLostWithout_45 : decode cX4_isLostWithout 45 = .ok (.ifCond .ne 5, 3) := by decide +kernel
theorem dX4_isLostWithout_48 : decode cX4_isLostWithout 48 = .ok (.iconst 0, 1) := by decide +kernel
theorem dX4_isLostWithout_49 : decode cX4_isLostWithout 49 = .ok (.ireturn, 1) := by decide +kernel
theorem dX4_isLostWithout_50 : decode cX4_isLostWithout 50 = .ok (.iconst 0, 1) := by decide +kernel
theorem dX4_isLostWithout_51 : decode cX4_isLostWithout 51 = .ok (.istore 6, 2) := by decide +kernel
theorem dX4_isLostWithout_53 : decode cX4_isLostWithout 53 = .ok (.iload 6, 2) := by decide +kernel
theorem dX4_isLostWithout_55 : decode cX4_isLostWithout 55 = .ok (.iconst 3, 1) := by decide +kernel
theorem dX4_isLostWithout_56 : decode cX4_isLostWithout 56 = .ok (.if_icmp .gt 40, 3) := by decide +kernel
theorem dX4_isLostWithout_59 : decode cX4_isLostWithout 59 = .ok (.aload_n 3, 1) := by decide +kernel
theorem dX4_isLostWithout_60 : decode cX4_isLostWithout 60 = .ok (.iload 6, 2) := by decide +kernel
theorem dX4_isLostWithout_62 : decode cX4_isLostWithout 62 = .ok (.invokevirtual 142, 3) := by decide +kernel
theorem dX4_isLostWithout_65 : decode cX4_isLostWithout 65 = .ok (.ifCond .eq 25, 3) := by decide +kernel
theorem dX4_isLostWithout_68 : decode cX4_isLostWithout 68 = .ok (.lload 4, 2) := by decide +kernel
theorem dX4_isLostWithout_70 : decode cX4_isLostWithout 70 = .ok (.aload_n 0, 1) := by decide +kernel
theorem dX4_isLostWithout_71 : decode cX4_isLostWithout 71 = .ok (.iload_n 1, 1) := by decide +kernel
theorem dX4_isLostWithout_72 : decode cX4_isLostWithout 72 = .ok (.iload_n 2, 1) := by decide +kernel
theorem dX4_isLostWithout_73 : decode cX4_isLostWithout 73 = .ok (.iload 6, 2) := by decide +kernel
theorem dX4_isLostWithout_75 : decode cX4_isLostWithout 75 = .ok (.invokevirtual 132, 3) := by decide +kernel
theorem dX4_isLostWithout_78 : decode cX4_isLostWithout 78 = .ok (.ldc2_w 136, 3) := by decide +kernel
theorem dX4_isLostWithout_81 : decode cX4_isLostWithout 81 = .ok (.lxor, 1) := by decide +kernel
theorem dX4_isLostWithout_82 : decode cX4_isLostWithout 82 = .ok (.land, 1) := by decide +kernel
theorem dX4_isLostWithout_83 : decode cX4_isLostWithout 83 = .ok (.lconst 0, 1) := by decide +kernel
theorem dX4_isLostWithout_84 : decode cX4_isLostWithout 84 = .ok (.lcmp, 1) := by decide +kernel
theorem dX4_isLostWithout_85 : decode cX4_isLostWithout 85 = .ok (.ifCond .eq 5, 3) := by decide +kernel
theorem dX4_isLostWithout_88 : decode cX4_isLostWithout 88 = .ok (.iconst 1, 1) := by decide +kernel
theorem dX4_isLostWithout_89 : decode cX4_isLostWithout 89 = .ok (.ireturn, 1) := by decide +kernel
theorem dX4_isLostWithout_90 : decode cX4_isLostWithout 90 = .ok (.iinc 6 1, 3) := by decide +kernel
theorem dX4_isLostWithout_93 : decode cX4_isLostWithout 93 = .ok (.goto (-40), 3) := by decide +kernel
theorem dX4_isLostWithout_96 : decode cX4_isLostWithout 96 = .ok (.iconst 0, 1) := by decide +kernel
theorem dX4_isLostWithout_97 : decode cX4_isLostWithout 97 = .ok (.ireturn, 1) := by decide +kernel
theorem dX4_yearsBetween_0 : decode cX4_yearsBetween 0 = .ok (.iload_n 0, 1) := by decide +kernel
theorem dX4_yearsBetween_1 : decode cX4_yearsBetween 1 = .ok (.iload_n 1, 1) := by decide +kernel
theorem dX4_yearsBetween_2 : decode cX4_yearsBetween 2 = .ok (.if_icmp .le 7, 3) := by decide +kernel
theorem dX4_yearsBetween_5 : decode cX4_yearsBetween 5 = .ok (.lconst 0, 1) := by decide +kernel
theorem dX4_yearsBetween_6 : decode cX4_yearsBetween 6 = .ok (.goto 14, 3) := by decide +kernel
theorem dX4_yearsBetween_9 : decode cX4_yearsBetween 9 = .ok (.lconst 1, 1) := by decide +kernel
theorem dX4_yearsBetween_10 : decode cX4_yearsBetween 10 = .ok (.iload_n 1, 1) := by decide +kernel
theorem dX4_yearsBetween_11 : decode cX4_yearsBetween 11 = .ok (.iload_n 0, 1) := by decide +kernel
theorem dX4_yearsBetween_12 : decode cX4_yearsBetween 12 = .ok (.isub, 1) := by decide +kernel
theorem dX4_yearsBetween_13 : decode cX4_yearsBetween 13 = .ok (.iconst 1, 1) := by decide +kernel
theorem dX4_yearsBetween_14 : decode cX4_yearsBetween 14 = .ok (.iadd, 1) := by decide +kernel
theorem dX4_yearsBetween_15 : decode cX4_yearsBetween 15 = .ok (.lshl, 1) := by decide +kernel
theorem dX4_yearsBetween_16 : decode cX4_yearsBetween 16 = .ok (.lconst 1, 1) := by decide +kernel
theorem dX4_yearsBetween_17 : decode cX4_yearsBetween 17 = .ok (.lsub, 1) := by decide +kernel
theorem dX4_yearsBetween_18 : decode cX4_yearsBetween 18 = .ok (.iload_n 0, 1) := by decide +kernel
theorem dX4_yearsBetween_19 : decode cX4_yearsBetween 19 = .ok (.lshl, 1) := by decide +kernel
theorem dX4_yearsBetween_20 : decode cX4_yearsBetween 20 = .ok (.lreturn, 1) := by decide +kernel
theorem dX4_hasYear_0 : decode cX4_hasYear 0 = .ok (.lload_n 0, 1) := by decide +kernel
theorem dX4_hasYear_1 : decode cX4_hasYear 1 = .ok (.iload_n 2, 1) := by decide +kernel
theorem dX4_hasYear_2 : decode cX4_hasYear 2 = .ok (.lshr, 1) := by decide +kernel
theorem dX4_hasYear_3 : decode cX4_hasYear 3 = .ok (.lconst 1, 1) := by decide +kernel
theorem dX4_hasYear_4 : decode cX4_hasYear 4 = .ok (.land, 1) := by decide +kernel
theorem dX4_hasYear_5 : decode cX4_hasYear 5 = .ok (.lconst 1, 1) := by decide +kernel
theorem dX4_hasYear_6 : decode cX4_hasYear 6 = .ok (.lcmp, 1) := by decide +kernel
theorem dX4_hasYear_7 : decode cX4_hasYear 7 = .ok (.ifCond .ne 7, 3) := by decide +kernel
theorem dX4_hasYear_10 : decode cX4_hasYear 10 = .ok (.iconst 1, 1) := by decide +kernel
theorem dX4_hasYear_11 : decode cX4_hasYear 11 = .ok (.goto 4, 3) := by decide +kernel
theorem dX4_hasYear_14 : decode cX4_hasYear 14 = .ok (.iconst 0, 1) := by decide +kernel
theorem dX4_hasYear_15 : decode cX4_hasYear 15 = .ok (.ireturn, 1) := by decide +kernel
theorem dJ6_bitCount_0f7a4_0 : decode cJ6_bitCount_0f7a4 0 = .ok (.iload_n 0, 1) := by decide +kernel
theorem dJ6_bitCount_0f7a4_1 : decode cJ6_bitCount_0f7a4 1 = .ok (.iload_n 0, 1) := by decide +kernel
theorem dJ6_bitCount_0f7a4_2 : decode cJ6_bitCount_0f7a4 2 = .ok (.iconst 1, 1) := by decide +kernel
theorem dJ6_bitCount_0f7a4_3 : decode cJ6_bitCount_0f7a4 3 = .ok (.iushr, 1) := by decide +kernel
theorem dJ6_bitCount_0f7a4_4 : decode cJ6_bitCount_0f7a4 4 = .ok (.ldc_w 265, 3) := by decide +kernel
theorem dJ6_bitCount_0f7a4_7 : decode cJ6_bitCount_0f7a4 7 = .ok (.iand, 1) := by decide +kernel
theorem dJ6_bitCount_0f7a4_8 : decode cJ6_bitCount_0f7a4 8 = .ok (.isub, 1) := by decide +kernel
theorem dJ6_bitCount_0f7a4_9 : decode cJ6_bitCount_0f7a4 9 = .ok (.istore_n 0, 1) := by decide +kernel
theorem dJ6_bitCount_0f7a4_10 : decode cJ6_bitCount_0f7a4 10 = .ok (.iload_n 0, 1) := by decide +kernel
theorem dJ6_bitCount_0f7a4_11 : decode cJ6_bitCount_0f7a4 11 = .ok (.ldc_w 266, 3) := by decide +kernel
theorem dJ6_bitCount_0f7a4_14 : decode cJ6_bitCount_0f7a4 14 = .ok (.iand, 1) := by decide +kernel
theorem dJ6_bitCount_0f7a4_15 : decode cJ6_bitCount_0f7a4 15 = .ok (.iload_n 0, 1) := by decide +kernel
theorem dJ6_bitCount_0f7a4_16 : decode cJ6_bitCount_0f7a4 16 = .ok (.iconst 2, 1) := by decide +kernel
theorem dJ6_bitCount_0f7a4_17 : decode cJ6_bitCount_0f7a4 17 = .ok (.iushr, 1) := by decide +kernel
theorem dJ6_bitCount_0f7a4_18 : decode cJ6_bitCount_0f7a4 18 = .ok (.ldc_w 266, 3) := by decide +kernel
theorem dJ6_bitCount_0f7a4_21 : decode cJ6_bitCount_0f7a4 21 = .ok (.iand, 1) := by decide +kernel
theorem dJ6_bitCount_0f7a4_22 : decode cJ6_bitCount_0f7a4 22 = .ok (.iadd, 1) := by decide +kernel
theorem dJ6_bitCount_0f7a4_23 : decode cJ6_bitCount_0f7a4 23 = .ok (.istore_n 0, 1) := by decide +kernel
theorem dJ6_bitCount_0f7a4_24 : decode cJ6_bitCount_0f7a4 24 = .ok (.iload_n 0, 1) := by decide +kernel
theorem dJ6_bitCount_0f7a4_25 : decode cJ6_bitCount_0f7a4 25 = .ok (.iload_n 0, 1) := by decide +kernel
theorem dJ6_bitCount_0f7a4_26 : decode cJ6_bitCount_0f7a4 26 = .ok (.iconst 4, 1) := by decide +kernel
theorem dJ6_bitCount_0f7a4_27 : decode cJ6_bitCount_0f7a4 27 = .ok (.iushr, 1) := by decide +kernel
theorem dJ6_bitCount_0f7a4_28 : decode cJ6_bitCount_0f7a4 28 = .ok (.iadd, 1) := by decide +kernel
theorem dJ6_bitCount_0f7a4_29 : decode cJ6_bitCount_0f7a4 29 = .ok (.ldc_w 267, 3) := by decide +kernel
theorem dJ6_bitCount_0f7a4_32 : decode cJ6_bitCount_0f7a4 32 = .ok (.iand, 1) := by decide +kernel
theorem dJ6_bitCount_0f7a4_33 : decode cJ6_bitCount_0f7a4 33 = .ok (.istore_n 0, 1) := by decide +kernel
theorem dJ6_bitCount_0f7a4_34 : decode cJ6_bitCount_0f7a4 34 = .ok (.iload_n 0, 1) := by decide +kernel
theorem dJ6_bitCount_0f7a4_35 : decode cJ6_bitCount_0f7a4 35 = .ok (.iload_n 0, 1) := by decide +kernel
theorem dJ6_bitCount_0f7a4_36 : decode cJ6_bitCount_0f7a4 36 = .ok (.bipush 8, 2) := by decide +kernel
theorem dJ6_bitCount_0f7a4_38 : decode cJ6_bitCount_0f7a4 38 = .ok (.iushr, 1) := by decide +kernel
theorem dJ6_bitCount_0f7a4_39 : decode cJ6_bitCount_0f7a4 39 = .ok (.iadd, 1) := by decide +kernel
theorem dJ6_bitCount_0f7a4_40 : decode cJ6_bitCount_0f7a4 40 = .ok (.istore_n 0, 1) := by decide +kernel
theorem dJ6_bitCount_0f7a4_41 : decode cJ6_bitCount_0f7a4 41 = .ok (.iload_n 0, 1) := by decide +kernel
theorem dJ6_bitCount_0f7a4_42 : decode cJ6_bitCount_0f7a4 42 = .ok (.iload_n 0, 1) := by decide +kernel
theorem dJ6_bitCount_0f7a4_43 : decode cJ6_bitCount_0f7a4 43 = .ok (.bipush 16, 2) := by decide +kernel
theorem dJ6_bitCount_0f7a4_45 : decode cJ6_bitCount_0f7a4 45 = .ok (.iushr, 1) := by decide +kernel
theorem dJ6_bitCount_0f7a4_46 : decode cJ6_bitCount_0f7a4 46 = .ok (.iadd, 1) := by decide +kernel
theorem dJ6_bitCount_0f7a4_47 : decode cJ6_bitCount_0f7a4 47 = .ok (.istore_n 0, 1) := by decide +kernel
theorem dJ6_bitCount_0f7a4_48 : decode cJ6_bitCount_0f7a4 48 = .ok (.iload_n 0, 1) := by decide +kernel
theorem dJ6_bitCount_0f7a4_49 : decode cJ6_bitCount_0f7a4 49 = .ok (.bipush 63, 2) := by decide +kernel
theorem dJ6_bitCount_0f7a4_51 : decode cJ6_bitCount_0f7a4 51 = .ok (.iand, 1) := by decide +kernel
theorem dJ6_bitCount_0f7a4_52 : decode cJ6_bitCount_0f7a4 52 = .ok (.ireturn, 1) := by decide +kernel
theorem dJ13_bitCount_95d88_0 : decode cJ13_bitCount_95d88 0 = .ok (.lload_n 0, 1) := by decide +kernel
theorem dJ13_bitCount_95d88_1 : decode cJ13_bitCount_95d88 1 = .ok (.lload_n 0, 1) := by decide +kernel
theorem dJ13_bitCount_95d88_2 : decode cJ13_bitCount_95d88 2 = .ok (.iconst 1, 1) := by decide +kernel
theorem dJ13_bitCount_95d88_3 : decode cJ13_bitCount_95d88 3 = .ok (.lushr, 1) := by decide +kernel
theorem dJ13_bitCount_95d88_4 : decode cJ13_bitCount_95d88 4 = .ok (.ldc2_w 314, 3) := by decide +kernel
theorem dJ13_bitCount_95d88_7 : decode cJ13_bitCount_95d88 7 = .ok (.land, 1) := by decide +kernel
theorem dJ13_bitCount_95d88_8 : decode cJ13_bitCount_95d88 8 = .ok (.lsub, 1) := by decide +kernel
theorem dJ13_bitCount_95d88_9 : decode cJ13_bitCount_95d88 9 = .ok (.lstore_n 0, 1) := by decide +kernel
theorem dJ13_bitCount_95d88_10 : decode cJ13_bitCount_95d88 10 = .ok (.lload_n 0, 1) := by decide +kernel
theorem dJ13_bitCount_95d88_11 : decode cJ13_bitCount_95d88 11 = .ok (.ldc2_w 316, 3) := by decide +kernel
theorem dJ13_bitCount_95d88_14 : decode cJ13_bitCount_95d88 14 = .ok (.land, 1) := by decide +kernel
theorem dJ13_bitCount_95d88_15 : decode cJ13_bitCount_95d88 15 = .ok (.lload_n 0, 1) := by decide +kernel
theorem dJ13_bitCount_95d88_16 : decode cJ13_bitCount_95d88 16 = .ok (.iconst 2, 1) := by decide +kernel
theorem dJ13_bitCount_95d88_17 : decode cJ13_bitCount_95d88 17 = .ok (.lushr, 1) := by decide +kernel
theorem dJ13_bitCount_95d88_18 : decode cJ13_bitCount_95d88 18 = .ok (.ldc2_w 316, 3) := by decide +kernel
theorem dJ13_bitCount_95d88_21 : decode cJ13_bitCount_95d88 21 = .ok (.land, 1) := by decide +kernel
theorem dJ13_bitCount_95d88_22 : decode cJ13_bitCount_95d88 22 = .ok (.ladd, 1) := by decide +kernel
theorem dJ13_bitCount_95d88_23 : decode cJ13_bitCount_95d88 23 = .ok (.lstore_n 0, 1) := by decide +kernel
theorem dJ13_bitCount_95d88_24 : decode cJ13_bitCount_95d88 24 = .ok (.lload_n 0, 1) := by decide +kernel
theorem dJ13_bitCount_95d88_25 : decode cJ13_bitCount_95d88 25 = .ok (.lload_n 0, 1) := by decide +kernel
theorem dJ13_bitCount_95d88_26 : decode cJ13_bitCount_95d88 26 = .ok (.iconst 4, 1) := by decide +kernel
theorem dJ13_bitCount_95d88_27 : decode cJ13_bitCount_95d88 27 = .ok (.lushr, 1) := by decide +kernel
theorem dJ13_bitCount_95d88_28 : decode cJ13_bitCount_95d88 28 = .ok (.ladd, 1) := by decide +kernel
theorem dJ13_bitCount_95d88_29 : decode cJ13_bitCount_95d88 29 = .ok (.ldc2_w 318, 3) := by decide +kernel
theorem dJ13_bitCount_95d88_32 : decode cJ13_bitCount_95d88 32 = .ok (.land, 1) := by decide +kernel
theorem dJ13_bitCount_95d88_33 : decode cJ13_bitCount_95d88 33 = .ok (.lstore_n 0, 1) := by decide +kernel
theorem dJ13_bitCount_95d88_34 : decode cJ13_bitCount_95d88 34 = .ok (.lload_n 0, 1) := by decide +kernel
theorem dJ13_bitCount_95d88_35 : decode cJ13_bitCount_95d88 35 = .ok (.lload_n 0, 1) := by decide +kernel
theorem dJ13_bitCount_95d88_36 : decode cJ13_bitCount_95d88 36 = .ok (.bipush 8, 2) := by decide +kernel
theorem dJ13_bitCount_95d88_38 : decode cJ13_bitCount_95d88 38 = .ok (.lushr, 1) := by decide +kernel
theorem dJ13_bitCount_95d88_39 : decode cJ13_bitCount_95d88 39 = .ok (.ladd, 1) := by decide +kernel
theorem dJ13_bitCount_95d88_40 : decode cJ13_bitCount_95d88 40 = .ok (.lstore_n 0, 1) := by decide +kernel
theorem dJ13_bitCount_95d88_41 : decode cJ13_bitCount_95d88 41 = .ok (.lload_n 0, 1) := by decide +kernel
theorem dJ13_bitCount_95d88_42 : decode cJ13_bitCount_95d88 42 = .ok (.lload_n 0, 1) := by decide +kernel
theorem dJ13_bitCount_95d88_43 : decode cJ13_bitCount_95d88 43 = .ok (.bipush 16, 2) := by decide +kernel
theorem dJ13_bitCount_95d88_45 : decode cJ13_bitCount_95d88 45 = .ok (.lushr, 1) := by decide +kernel
theorem dJ13_bitCount_95d88_46 : decode cJ13_bitCount_95d88 46 = .ok (.ladd, 1) := by decide +kernel
theorem dJ13_bitCount_95d88_47 : decode cJ13_bitCount_95d88 47 = .ok (.lstore_n 0, 1) := by decide +kernel
theorem dJ13_bitCount_95d88_48 : decode cJ13_bitCount_95d88 48 = .ok (.lload_n 0, 1) := by decide +kernel
theorem dJ13_bitCount_95d88_49 : decode cJ13_bitCount_95d88 49 = .ok (.lload_n 0, 1) := by decide +kernel
theorem dJ13_bitCount_95d88_50 : decode cJ13_bitCount_95d88 50 = .ok (.bipush 32, 2) := by decide +kernel
theorem dJ13_bitCount_95d88_52 : decode cJ13_bitCount_95d88 52 = .ok (.lushr, 1) := by decide +kernel
theorem dJ13_bitCount_95d88_53 : decode cJ13_bitCount_95d88 53 = .ok (.ladd, 1) := by decide +kernel
theorem dJ13_bitCount_95d88_54 : decode cJ13_bitCount_95d88 54 = .ok (.lstore_n 0, 1) := by decide +kernel
theorem dJ13_bitCount_95d88_55 : decode cJ13_bitCount_95d88 55 = .ok (.lload_n 0, 1) := by decide +kernel
theorem dJ13_bitCount_95d88_56 : decode cJ13_bitCount_95d88 56 = .ok (.l2i, 1) := by decide +kernel
theorem dJ13_bitCount_95d88_57 : decode cJ13_bitCount_95d88 57 = .ok (.bipush 127, 2) := by decide +kernel
theorem dJ13_bitCount_95d88_59 : decode cJ13_bitCount_95d88 59 = .ok (.iand, 1) := by decide +kernel
theorem dJ13_bitCount_95d88_60 : decode cJ13_bitCount_95d88 60 = .ok (.ireturn, 1) := by decide +kernel
theorem dJ9_min_7cf53_0 : decode cJ9_min_7cf53 0 = .ok (.iload_n 0, 1) := by decide +kernel
theorem dJ9_min_7cf53_1 : decode cJ9_min_7cf53 1 = .ok (.iload_n 1, 1) := by decide +kernel
theorem dJ9_min_7cf53_2 : decode cJ9_min_7cf53 2 = .ok (.if_icmp .gt 7, 3) := by decide +kernel
theorem dJ9_min_7cf53_5 : decode cJ9_min_7cf53 5 = .ok (.iload_n 0, 1) := by decide +kernel
theorem dJ9_min_7cf53_6 : decode cJ9_min_7cf53 6 = .ok (.goto 4, 3) := by decide +kernel
theorem dJ9_min_7cf53_9 : decode cJ9_min_7cf53 9 = .ok (.iload_n 1, 1) := by decide +kernel
theorem dJ9_min_7cf53_10 : decode cJ9_min_7cf53 10 = .ok (.ireturn, 1) := by decide +kernel
theorem dL_draw_0 : decode cL_draw 0 = .ok (.iload_n 1, 1) := by decide +kernel
theorem dL_draw_1 : decode cL_draw 1 = .ok (.aload_n 0, 1) := by decide +kernel
theorem dL_draw_2 : decode cL_draw 2 = .ok (.arraylength, 1) := by decide +kernel
theorem dL_draw_3 : decode cL_draw 3 = .ok (.if_icmp .ge 12, 3) := by decide +kernel
theorem dL_draw_6 : decode cL_draw 6 = .ok (.aload_n 0, 1) := by decide +kernel
theorem dL_draw_7 : decode cL_draw 7 = .ok (.iload_n 1, 1) := by decide +kernel
theorem dL_draw_8 : decode cL_draw 8 = .ok (.iaload, 1) := by decide +kernel
theorem dL_draw_9 : decode cL_draw 9 = .ok (.ldc 7, 2) := by decide +kernel
theorem dL_draw_11 : decode cL_draw 11 = .ok (.iand, 1) := by decide +kernel
theorem dL_draw_12 : decode cL_draw 12 = .ok (.goto 12, 3) := by decide +kernel
theorem dL_draw_15 : decode cL_draw 15 = .ok (.ldc 8, 2) := by decide +kernel
theorem dL_draw_17 : decode cL_draw 17 = .ok (.iload_n 1, 1) := by decide +kernel
theorem dL_draw_18 : decode cL_draw 18 = .ok (.iconst 2, 1) := by decide +kernel
theorem dL_draw_19 : decode cL_draw 19 = .ok (.iadd, 1) := by decide +kernel
theorem dL_draw_20 : decode cL_draw 20 = .ok (.imul, 1) := by decide +kernel
theorem dL_draw_21 : decode cL_draw 21 = .ok (.ldc 9, 2) := by decide +kernel
theorem dL_draw_23 : decode cL_draw 23 = .ok (.irem, 1) := by decide +kernel
theorem dL_draw_24 : decode cL_draw 24 = .ok (.ireturn, 1) := by decide +kernel
set_option maxRecDepth 20000 in
theorem ggL_step_X4_addPackage : GoodIn wsL_step wsX4_addPackage := goodIn_ca (goodIn_ca (goodIn_r _ [5, 6, 7, 8, 9, 10, 11, 12, 13, 14, 4, 15, 16, 17, 18, 19, 20, 21, 22, 23, 24, 25, 26, 27, 28, 29, 30, 31, 32, 33, 34, 35, 36, 37, 38, 164, 165, 166, 167, 168, 169, 170, 171, 172, 173, 174, 175, 176, 177] (by decide +kernel) (by decide +kernel)) (goodIn_sub (fun _ h => List.mem_cons_of_mem _ (List.mem_append_left _ (List.mem_append_left _ (List.mem_append_left _ (List.mem_append_right _ h))))) (by decide +kernel))) (goodIn_sub (fun _ h => List.mem_cons_of_mem _ (List.mem_append_left _ (List.mem_append_left _ (List.mem_append_right _ h)))) (by decide +kernel))
set_option maxRecDepth 20000 in
theorem gL_step_X4_addPackage : GoodIn wsL_step (wsV RL 10 RX4 yX4_addPackage wsX4_addPackage) := goodIn_app (goodIn_of _ (by decide +kernel)) ggL_step_X4_addPackage
set_option maxRecDepth 20000 in
theorem ggL_step_X4_isSubscribed : GoodIn wsL_step wsX4_isSubscribed := goodIn_ca (goodIn_ca (goodIn_r _ [42, 43, 44, 45, 46, 47, 4, 48, 49, 50, 8, 9, 13, 14, 15, 16, 17, 51, 52, 53, 30, 54, 55, 56, 57, 58, 59, 37, 60, 61, 170, 171, 172, 173, 174, 175, 164, 165, 166, 167, 168, 169, 178, 179, 180, 181, 176, 177] (by decide +kernel) (by decide +kernel)) (goodIn_sub (fun _ h => List.mem_cons_of_mem _ (List.mem_append_left _ (List.mem_append_right _ h))) (by decide +kernel))) (goodIn_sub (fun _ h => List.mem_cons_of_mem _ (List.mem_append_left _ (List.mem_append_left _ (List.mem_append_right _ h)))) (by decide +kernel))
set_option maxRecDepth 20000 in
theorem gL_step_X4_isSubscribed : GoodIn wsL_step (wsV RL 16 RX4 yX4_isSubscribed wsX4_isSubscribed) := goodIn_app (goodIn_of _ (by decide +kernel)) ggL_step_X4_isSubscribed
set_option maxRecDepth 20000 in
theorem ggL_step_X4_addTitle : GoodIn wsL_step wsX4_addTitle := goodIn_ca (goodIn_ca (goodIn_r _ [65, 6, 7, 66, 67, 68, 69, 70, 13, 14, 4, 15, 16, 17, 71, 72, 73, 74, 22, 23, 75, 76, 164, 165, 166, 167, 168, 169, 182, 183] (by decide +kernel) (by decide +kernel)) (goodIn_sub (fun _ h => List.mem_cons_of_mem _ (List.mem_append_left _ (List.mem_append_left _ (List.mem_append_left _ (List.mem_append_right _ h))))) (by decide +kernel))) (goodIn_sub (fun _ h => List.mem_cons_of_mem _ (List.mem_append_left _ (List.mem_append_left _ (List.mem_append_right _ h)))) (by decide +kernel))
set_option maxRecDepth 20000 in
theorem gL_step_X4_addTitle : GoodIn wsL_step (wsV RL 20 RX4 yX4_addTitle wsX4_addTitle) := goodIn_app (goodIn_of _ (by decide +kernel)) ggL_step_X4_addTitle
set_option maxRecDepth 20000 in
theorem ggL_step_X4_volumeOf : GoodIn wsL_step wsX4_volumeOf := goodIn_ca (goodIn_ca (goodIn_r _ [80, 81, 82, 83, 84, 4, 85, 49, 50, 66, 67, 13, 14, 15, 16, 17, 86, 87, 88, 70, 89, 75, 76, 182, 183, 164, 165, 166, 167, 168, 169] (by decide +kernel) (by decide +kernel)) (goodIn_sub (fun _ h => List.mem_cons_of_mem _ (List.mem_append_left _ (List.mem_append_right _ h))) (by decide +kernel))) (goodIn_sub (fun _ h => List.mem_cons_of_mem _ (List.mem_append_left _ (List.mem_append_left _ (List.mem_append_right _ h)))) (by decide +kernel))
set_option maxRecDepth 20000 in
theorem gL_step_X4_volumeOf : GoodIn wsL_step (wsV RL 24 RX4 yX4_volumeOf wsX4_volumeOf) := goodIn_app (goodIn_of _ (by decide +kernel)) ggL_step_X4_volumeOf
set_option maxRecDepth 20000 in
theorem ggL_step_X4_yearOf : GoodIn wsL_step wsX4_yearOf := goodIn_ca (goodIn_ca (goodIn_r _ [93, 81, 82, 83, 84, 4, 85, 49, 50, 66, 67, 86, 87, 88, 70, 89, 75, 76, 13, 14, 15, 16, 17, 182, 183, 164, 165, 166, 167, 168, 169] (by decide +kernel) (by decide +kernel)) (goodIn_sub (fun _ h => List.mem_cons_of_mem _ (List.mem_append_left _ (List.mem_append_right _ h))) (by decide +kernel))) (goodIn_sub (fun _ h => List.mem_cons_of_mem _ (List.mem_append_left _ (List.mem_append_left _ (List.mem_append_right _ h)))) (by decide +kernel))
set_option maxRecDepth 20000 in
theorem gL_step_X4_yearOf : GoodIn wsL_step (wsV RL 27 RX4 yX4_yearOf wsX4_yearOf) := goodIn_app (goodIn_of _ (by decide +kernel)) ggL_step_X4_yearOf
set_option maxRecDepth 20000 in
theorem ggL_step_X4_isIn : GoodIn wsL_step wsX4_isIn := goodIn_ca (goodIn_ca (goodIn_ca (goodIn_r _ [97, 44, 98, 99, 100, 4, 101, 45, 46, 47, 48, 49, 50, 8, 9, 82, 83, 84, 85, 66, 67, 102, 103, 104, 12, 105, 106, 32, 13, 14, 15, 16, 17, 51, 52, 53, 30, 54, 55, 56, 57, 58, 59, 37, 60, 61, 164, 165, 166, 167, 168, 169, 170, 171, 172, 173, 174, 175, 178, 179, 180, 181, 176, 177] (by decide +kernel) (by decide +kernel)) (goodIn_sub (fun _ h => List.mem_cons_of_mem _ (List.mem_append_left _ (List.mem_append_right _ h))) (by decide +kernel))) (goodIn_sub (fun _ h => List.mem_cons_of_mem _ (List.mem_append_right _ h)) (by decide +kernel))) (goodIn_sub (fun _ h => List.mem_cons_of_mem _ (List.mem_append_left _ (List.mem_append_left _ (List.mem_append_right _ h)))) (by decide +kernel))
set_option maxRecDepth 20000 in
theorem gL_step_X4_isIn : GoodIn wsL_step (wsV RL 30 RX4 yX4_isIn wsX4_isIn) := goodIn_app (goodIn_of _ (by decide +kernel)) ggL_step_X4_isIn
set_option maxRecDepth 20000 in
theorem ggL_step_X4_subscribe : GoodIn wsL_step wsX4_subscribe := goodIn_ca (goodIn_r _ [110, 43, 44, 111, 45, 46, 47, 4, 48, 49, 50, 8, 9, 51, 52, 53, 30, 54, 55, 56, 57, 58, 59, 37, 60, 61, 112, 113, 114, 115, 116, 117, 118, 119, 120, 121, 122, 123, 124, 125, 126, 127, 22, 23, 128, 129, 130, 131, 170, 171, 172, 173, 174, 175, 164, 165, 166, 167, 168, 169, 178, 179, 180, 181, 176, 177] (by decide +kernel) (by decide +kernel)) (goodIn_sub (fun _ h => List.mem_cons_of_mem _ (List.mem_append_left _ (List.mem_append_right _ h))) (by decide +kernel))
set_option maxRecDepth 20000 in
theorem gL_step_X4_subscribe : GoodIn wsL_step (wsV RL 34 RX4 yX4_subscribe wsX4_subscribe) := goodIn_app (goodIn_of _ (by decide +kernel)) ggL_step_X4_subscribe
set_option maxRecDepth 20000 in
theorem ggL_step_X4_come : GoodIn wsL_step wsX4_come := goodIn_ca (goodIn_ca (goodIn_ca (goodIn_r _ [135, 44, 98, 99, 100, 4, 101, 45, 46, 47, 48, 49, 50, 8, 9, 82, 83, 84, 85, 66, 67, 102, 103, 104, 12, 105, 106, 32, 13, 14, 15, 16, 17, 51, 52, 53, 30, 54, 55, 56, 57, 58, 59, 37, 60, 61, 136, 137, 138, 112, 113, 114, 115, 116, 117, 118, 119, 120, 121, 122, 123, 124, 125, 126, 127, 22, 23, 128, 129, 130, 131, 164, 165, 166, 167, 168, 169, 170, 171, 172, 173, 174, 175, 178, 179, 180, 181, 176, 177] (by decide +kernel) (by decide +kernel)) (goodIn_sub (fun _ h => List.mem_cons_of_mem _ (List.mem_append_left _ (List.mem_append_right _ h))) (by decide +kernel))) (goodIn_sub (fun _ h => List.mem_cons_of_mem _ (List.mem_append_right _ h)) (by decide +kernel))) (goodIn_sub (fun _ h => List.mem_cons_of_mem _ (List.mem_append_left _ (List.mem_append_left _ (List.mem_append_right _ h)))) (by decide +kernel))
set_option maxRecDepth 20000 in
theorem gL_step_X4_come : GoodIn wsL_step (wsV RL 38 RX4 yX4_come wsX4_come) := goodIn_app (goodIn_of _ (by decide +kernel)) ggL_step_X4_come
set_option maxRecDepth 20000 in
theorem ggL_step_X4_go : GoodIn wsL_step wsX4_go := goodIn_ca (goodIn_ca (goodIn_ca (goodIn_r _ [142, 6, 7, 44, 98, 99, 100, 4, 101, 45, 46, 47, 48, 49, 50, 8, 9, 82, 83, 84, 85, 66, 67, 102, 103, 104, 12, 105, 106, 32, 51, 52, 53, 30, 54, 55, 56, 57, 58, 59, 37, 60, 61, 112, 113, 114, 115, 116, 117, 118, 119, 120, 121, 122, 123, 124, 125, 126, 127, 22, 23, 128, 129, 130, 131, 164, 165, 166, 167, 168, 169, 170, 171, 172, 173, 174, 175, 178, 179, 180, 181, 176, 177] (by decide +kernel) (by decide +kernel)) (goodIn_sub (fun _ h => List.mem_cons_of_mem _ (List.mem_append_left _ (List.mem_append_left _ (List.mem_append_left _ (List.mem_append_right _ h))))) (by decide +kernel))) (goodIn_sub (fun _ h => List.mem_cons_of_mem _ (List.mem_append_left _ (List.mem_append_right _ h))) (by decide +kernel))) (goodIn_sub (fun _ h => List.mem_cons_of_mem _ (List.mem_append_right _ h)) (by decide +kernel))
set_option maxRecDepth 20000 in
theorem gL_step_X4_go : GoodIn wsL_step (wsV RL 42 RX4 yX4_go wsX4_go) := goodIn_app (goodIn_of _ (by decide +kernel)) ggL_step_X4_go
set_option maxRecDepth 20000 in
theorem ggL_step_X4_today : GoodIn wsL_step wsX4_today := goodIn_r _ [146, 44, 164, 165, 166, 167, 168, 169] (by decide +kernel) (by decide +kernel)
set_option maxRecDepth 20000 in
theorem gL_step_X4_today : GoodIn wsL_step (wsV RL 46 RX4 yX4_today wsX4_today) := goodIn_app (goodIn_of _ (by decide +kernel)) ggL_step_X4_today
set_option maxRecDepth 20000 in
theorem ggL_step_X4_pass : GoodIn wsL_step wsX4_pass := goodIn_ca (goodIn_ca (goodIn_r _ [150, 6, 7, 44, 13, 14, 4, 15, 16, 17, 164, 165, 166, 167, 168, 169] (by decide +kernel) (by decide +kernel)) (goodIn_sub (fun _ h => List.mem_cons_of_mem _ (List.mem_append_left _ (List.mem_append_left _ (List.mem_append_left _ (List.mem_append_right _ h))))) (by decide +kernel))) (goodIn_sub (fun _ h => List.mem_cons_of_mem _ (List.mem_append_left _ (List.mem_append_left _ (List.mem_append_right _ h)))) (by decide +kernel))
set_option maxRecDepth 20000 in
theorem gL_step_X4_pass : GoodIn wsL_step (wsV RL 50 RX4 yX4_pass wsX4_pass) := goodIn_app (goodIn_of _ (by decide +kernel)) ggL_step_X4_pass
set_option maxRecDepth 20000 in
theorem ggL_step_X4_report : GoodIn wsL_step wsX4_report := goodIn_ca (goodIn_ca (goodIn_r _ [154, 155, 98, 99, 100, 4, 101, 45, 46, 47, 48, 49, 50, 8, 9, 82, 83, 84, 85, 66, 67, 102, 103, 104, 12, 105, 106, 32, 176, 177, 164, 165, 166, 167, 168, 169, 170, 171, 172, 173, 174, 175] (by decide +kernel) (by decide +kernel)) (goodIn_sub (fun _ h => List.mem_cons_of_mem _ (List.mem_append_left _ (List.mem_append_right _ h))) (by decide +kernel))) (goodIn_sub (fun _ h => List.mem_cons_of_mem _ (List.mem_append_right _ h)) (by decide +kernel))
set_option maxRecDepth 20000 in
theorem gL_step_X4_report : GoodIn wsL_step (wsV RL 54 RX4 yX4_report wsX4_report) := goodIn_app (goodIn_of _ (by decide +kernel)) ggL_step_X4_report
set_option maxRecDepth 20000 in
theorem ggL_step_X4_mend : GoodIn wsL_step wsX4_mend := goodIn_ca (goodIn_ca (goodIn_r _ [159, 155, 98, 99, 100, 4, 101, 45, 46, 47, 48, 49, 50, 8, 9, 82, 83, 84, 85, 66, 67, 102, 103, 104, 12, 105, 106, 32, 176, 177, 164, 165, 166, 167, 168, 169, 170, 171, 172, 173, 174, 175] (by decide +kernel) (by decide +kernel)) (goodIn_sub (fun _ h => List.mem_cons_of_mem _ (List.mem_append_left _ (List.mem_append_right _ h))) (by decide +kernel))) (goodIn_sub (fun _ h => List.mem_cons_of_mem _ (List.mem_append_right _ h)) (by decide +kernel))
set_option maxRecDepth 20000 in
theorem gL_step_X4_mend : GoodIn wsL_step (wsV RL 57 RX4 yX4_mend wsX4_mend) := goodIn_app (goodIn_of _ (by decide +kernel)) ggL_step_X4_mend
set_option maxRecDepth 20000 in
theorem ggL_step_L_volumes : GoodIn wsL_step wsL_volumes := goodIn_ca (goodIn_ca (goodIn_r _ [163, 90, 91, 92, 4, 93, 81, 82, 83, 84, 85, 49, 50, 66, 67, 86, 87, 88, 70, 89, 75, 76, 13, 14, 15, 16, 17, 77, 78, 79, 80, 182, 183, 164, 165, 166, 167, 168, 169] (by decide +kernel) (by decide +kernel)) (goodIn_sub (fun _ h => List.mem_cons_of_mem _ (List.mem_append_left _ (List.mem_append_right _ h))) (by decide +kernel))) (goodIn_sub (fun _ h => List.mem_cons_of_mem _ (List.mem_append_left _ (List.mem_append_left _ (List.mem_append_right _ h)))) (by decide +kernel))
set_option maxRecDepth 20000 in
theorem gL_step_L_volumes : GoodIn wsL_step (va_wsS RL 60 yL_volumes wsL_volumes) := goodIn_app (goodIn_of _ (by decide +kernel)) ggL_step_L_volumes
theorem dL_step_0 : decode cL_step 0 = .ok (.aload_n 1, 1) := by decide +kernel
theorem dL_step_1 : decode cL_step 1 = .ok (.bipush 38, 2) := by decide +kernel
theorem dL_step_3 : decode cL_step 3 = .ok (.iaload, 1) := by decide +kernel
theorem dL_step_4 : decode cL_step 4 = .ok (.istore 7, 2) := by decide +kernel
theorem dL_step_6 : decode cL_step 6 = .ok (.aload_n 1, 1) := by decide +kernel
theorem dL_step_7 : decode cL_step 7 = .ok (.bipush 39, 2) := by decide +kernel
theorem dL_step_9 : decode cL_step 9 = .ok (.iaload, 1) := by decide +kernel
theorem dL_step_10 : decode cL_step 10 = .ok (.istore 8, 2) := by decide +kernel
theorem dL_step_12 : decode cL_step 12 = .ok (.iload 7, 2) := by decide +kernel
theorem dL_step_14 : decode cL_step 14 = .ok (.ifCond .eq 18, 3) := by decide +kernel
theorem dL_step_17 : decode cL_step 17 = .ok (.iload 4, 2) := by decide +kernel
theorem dL_step_19 : decode cL_step 19 = .ok (.bipush 12, 2) := by decide +kernel
theorem dL_step_21 : decode cL_step 21 = .ok (.irem, 1) := by decide +kernel
theorem dL_step_22 : decode cL_step 22 = .ok (.ifCond .ne 128, 3) := by decide +kernel
theorem dL_step_25 : decode cL_step 25 = .ok (.iload 7, 2) := by decide +kernel
theorem dL_step_27 : decode cL_step 27 = .ok (.bipush 6, 2) := by decide +kernel
theorem dL_step_29 : decode cL_step 29 = .ok (.if_icmp .ge 121, 3) := by decide +kernel
theorem dL_step_32 : decode cL_step 32 = .ok (.aload_n 1, 1) := by decide +kernel
theorem dL_step_33 : decode cL_step 33 = .ok (.iload 7, 2) := by decide +kernel
theorem dL_step_35 : decode cL_step 35 = .ok (.iload 5, 2) := by decide +kernel
theorem dL_step_37 : decode cL_step 37 = .ok (.iload 6, 2) := by decide +kernel
theorem dL_step_39 : decode cL_step 39 = .ok (.iconst 2, 1) := by decide +kernel
theorem dL_step_40 : decode cL_step 40 = .ok (.irem, 1) := by decide +kernel
theorem dL_step_41 : decode cL_step 41 = .ok (.ifCond .ne 9, 3) := by decide +kernel
theorem dL_step_44 : decode cL_step 44 = .ok (.sipush 1001, 3) := by decide +kernel
theorem dL_step_47 : decode cL_step 47 = .ok (.goto 4, 3) := by decide +kernel
theorem dL_step_50 : decode cL_step 50 = .ok (.iconst 3, 1) := by decide +kernel
theorem dL_step_51 : decode cL_step 51 = .ok (.irem, 1) := by decide +kernel
theorem dL_step_52 : decode cL_step 52 = .ok (.iastore, 1) := by decide +kernel
theorem dL_step_53 : decode cL_step 53 = .ok (.aload_n 1, 1) := by decide +kernel
theorem dL_step_54 : decode cL_step 54 = .ok (.bipush 6, 2) := by decide +kernel
theorem dL_step_56 : decode cL_step 56 = .ok (.iload 7, 2) := by decide +kernel
theorem dL_step_58 : decode cL_step 58 = .ok (.iadd, 1) := by decide +kernel
theorem dL_step_59 : decode cL_step 59 = .ok (.iload 6, 2) := by decide +kernel
theorem dL_step_61 : decode cL_step 61 = .ok (.iconst 3, 1) := by decide +kernel
theorem dL_step_62 : decode cL_step 62 = .ok (.irem, 1) := by decide +kernel
theorem dL_step_63 : decode cL_step 63 = .ok (.iastore, 1) := by decide +kernel
theorem dL_step_64 : decode cL_step 64 = .ok (.aload_n 1, 1) := by decide +kernel
theorem dL_step_65 : decode cL_step 65 = .ok (.bipush 12, 2) := by decide +kernel
theorem dL_step_67 : decode cL_step 67 = .ok (.iload 7, 2) := by decide +kernel
theorem dL_step_69 : decode cL_step 69 = .ok (.iadd, 1) := by decide +kernel
theorem dL_step_70 : decode cL_step 70 = .ok (.iload 6, 2) := by decide +kernel
theorem dL_step_72 : decode cL_step 72 = .ok (.iconst 3, 1) := by decide +kernel
theorem dL_step_73 : decode cL_step 73 = .ok (.idiv, 1) := by decide +kernel
theorem dL_step_74 : decode cL_step 74 = .ok (.bipush 16, 2) := by decide +kernel
theorem dL_step_76 : decode cL_step 76 = .ok (.irem, 1) := by decide +kernel
theorem dL_step_77 : decode cL_step 77 = .ok (.iastore, 1) := by decide +kernel
theorem dL_step_78 : decode cL_step 78 = .ok (.aload_n 1, 1) := by decide +kernel
theorem dL_step_79 : decode cL_step 79 = .ok (.bipush 18, 2) := by decide +kernel
theorem dL_step_81 : decode cL_step 81 = .ok (.iload 7, 2) := by decide +kernel
theorem dL_step_83 : decode cL_step 83 = .ok (.iadd, 1) := by decide +kernel
theorem dL_step_84 : decode cL_step 84 = .ok (.iload 6, 2) := by decide +kernel
theorem dL_step_86 : decode cL_step 86 = .ok (.bipush 48, 2) := by decide +kernel
theorem dL_step_88 : decode cL_step 88 = .ok (.idiv, 1) := by decide +kernel
theorem dL_step_89 : decode cL_step 89 = .ok (.iconst 2, 1) := by decide +kernel
theorem dL_step_90 : decode cL_step 90 = .ok (.irem, 1) := by decide +kernel
theorem dL_step_91 : decode cL_step 91 = .ok (.iastore, 1) := by decide +kernel
theorem dL_step_92 : decode cL_step 92 = .ok (.aload_n 1, 1) := by decide +kernel
theorem dL_step_93 : decode cL_step 93 = .ok (.bipush 38, 2) := by decide +kernel
theorem dL_step_95 : decode cL_step 95 = .ok (.dup2, 1) := by decide +kernel
theorem dL_step_96 : decode cL_step 96 = .ok (.iaload, 1) := by decide +kernel
theorem dL_step_97 : decode cL_step 97 = .ok (.iconst 1, 1) := by decide +kernel
theorem dL_step_98 : decode cL_step 98 = .ok (.iadd, 1) := by decide +kernel
theorem dL_step_99 : decode cL_step 99 = .ok (.iastore, 1) := by decide +kernel
theorem dL_step_100 : decode cL_step 100 = .ok (.aload_n 0, 1) := by decide +kernel
theorem dL_step_101 : decode cL_step 101 = .ok (.aload_n 1, 1) := by decide +kernel
theorem dL_step_102 : decode cL_step 102 = .ok (.iload 7, 2) := by decide +kernel
theorem dL_step_104 : decode cL_step 104 = .ok (.iaload, 1) := by decide +kernel
theorem dL_step_105 : decode cL_step 105 = .ok (.iload 6, 2) := by decide +kernel
theorem dL_step_107 : decode cL_step 107 = .ok (.iconst 3, 1) := by decide +kernel
theorem dL_step_108 : decode cL_step 108 = .ok (.irem, 1) := by decide +kernel
theorem dL_step_109 : decode cL_step 109 = .ok (.iload 6, 2) := by decide +kernel
theorem dL_step_111 : decode cL_step 111 = .ok (.iconst 3, 1) := by decide +kernel
theorem dL_step_112 : decode cL_step 112 = .ok (.idiv, 1) := by decide +kernel
theorem dL_step_113 : decode cL_step 113 = .ok (.bipush 16, 2) := by decide +kernel
theorem dL_step_115 : decode cL_step 115 = .ok (.irem, 1) := by decide +kernel
theorem dL_step_116 : decode cL_step 116 = .ok (.iload 6, 2) := by decide +kernel
theorem dL_step_118 : decode cL_step 118 = .ok (.bipush 48, 2) := by decide +kernel
theorem dL_step_120 : decode cL_step 120 = .ok (.idiv, 1) := by decide +kernel
theorem dL_step_121 : decode cL_step 121 = .ok (.iconst 2, 1) := by decide +kernel
theorem dL_step_122 : decode cL_step 122 = .ok (.irem, 1) := by decide +kernel
theorem dL_step_123 : decode cL_step 123 = .ok (.invokevirtual 10, 3) := by decide +kernel
theorem dL_step_126 : decode cL_step 126 = .ok (.iload 7, 2) := by decide +kernel
theorem dL_step_128 : decode cL_step 128 = .ok (.if_icmp .ne 20, 3) := by decide +kernel
theorem dL_step_131 : decode cL_step 131 = .ok (.aload_n 0, 1) := by decide +kernel
theorem dL_step_132 : decode cL_step 132 = .ok (.iload 7, 2) := by decide +kernel
theorem dL_step_134 : decode cL_step 134 = .ok (.aload_n 1, 1) := by decide +kernel
theorem dL_step_135 : decode cL_step 135 = .ok (.bipush 40, 2) := by decide +kernel
theorem dL_step_137 : decode cL_step 137 = .ok (.iaload, 1) := by decide +kernel
theorem dL_step_138 : decode cL_step 138 = .ok (.invokevirtual 16, 3) := by decide +kernel
theorem dL_step_141 : decode cL_step 141 = .ok (.ifCond .ne 7, 3) := by decide +kernel
theorem dL_step_144 : decode cL_step 144 = .ok (.iconst 1, 1) := by decide +kernel
theorem dL_step_145 : decode cL_step 145 = .ok (.goto 4, 3) := by decide +kernel
theorem dL_step_148 : decode cL_step 148 = .ok (.iconst 0, 1) := by decide +kernel
theorem dL_step_149 : decode cL_step 149 = .ok (.ireturn, 1) := by decide +kernel
theorem dL_step_150 : decode cL_step 150 = .ok (.iload 8, 2) := by decide +kernel
theorem dL_step_152 : decode cL_step 152 = .ok (.ifCond .eq 18, 3) := by decide +kernel
theorem dL_step_155 : decode cL_step 155 = .ok (.iload 4, 2) := by decide +kernel
theorem dL_step_157 : decode cL_step 157 = .ok (.bipush 12, 2) := by decide +kernel
theorem dL_step_159 : decode cL_step 159 = .ok (.irem, 1) := by decide +kernel
theorem dL_step_160 : decode cL_step 160 = .ok (.iconst 1, 1) := by decide +kernel
theorem dL_step_161 : decode cL_step 161 = .ok (.if_icmp .ne 130, 3) := by decide +kernel
theorem dL_step_164 : decode cL_step 164 = .ok (.iload 8, 2) := by decide +kernel
theorem dL_step_166 : decode cL_step 166 = .ok (.iconst 4, 1) := by decide +kernel
theorem dL_step_167 : decode cL_step 167 = .ok (.if_icmp .ge 124, 3) := by decide +kernel
theorem dL_step_170 : decode cL_step 170 = .ok (.aload_n 1, 1) := by decide +kernel
theorem dL_step_171 : decode cL_step 171 = .ok (.bipush 30, 2) := by decide +kernel
theorem dL_step_173 : decode cL_step 173 = .ok (.iload 8, 2) := by decide +kernel
theorem dL_step_175 : decode cL_step 175 = .ok (.iadd, 1) := by decide +kernel
theorem dL_step_176 : decode cL_step 176 = .ok (.iload 5, 2) := by decide +kernel
theorem dL_step_178 : decode cL_step 178 = .ok (.iload 6, 2) := by decide +kernel
theorem dL_step_180 : decode cL_step 180 = .ok (.iconst 4, 1) := by decide +kernel
theorem dL_step_181 : decode cL_step 181 = .ok (.irem, 1) := by decide +kernel
theorem dL_step_182 : decode cL_step 182 = .ok (.ifCond .ne 8, 3) := by decide +kernel
theorem dL_step_185 : decode cL_step 185 = .ok (.bipush 56, 2) := by decide +kernel
theorem dL_step_187 : decode cL_step 187 = .ok (.goto 5, 3) := by decide +kernel
theorem dL_step_190 : decode cL_step 190 = .ok (.bipush 6, 2) := by decide +kernel
theorem dL_step_192 : decode cL_step 192 = .ok (.irem, 1) := by decide +kernel
theorem dL_step_193 : decode cL_step 193 = .ok (.iastore, 1) := by decide +kernel
theorem dL_step_194 : decode cL_step 194 = .ok (.aload_n 1, 1) := by decide +kernel
theorem dL_step_195 : decode cL_step 195 = .ok (.bipush 34, 2) := by decide +kernel
theorem dL_step_197 : decode cL_step 197 = .ok (.iload 8, 2) := by decide +kernel
theorem dL_step_199 : decode cL_step 199 = .ok (.iadd, 1) := by decide +kernel
theorem dL_step_200 : decode cL_step 200 = .ok (.iconst 1, 1) := by decide +kernel
theorem dL_step_201 : decode cL_step 201 = .ok (.iload 6, 2) := by decide +kernel
theorem dL_step_203 : decode cL_step 203 = .ok (.iconst 4, 1) := by decide +kernel
theorem dL_step_204 : decode cL_step 204 = .ok (.irem, 1) := by decide +kernel
theorem dL_step_205 : decode cL_step 205 = .ok (.iadd, 1) := by decide +kernel
theorem dL_step_206 : decode cL_step 206 = .ok (.iastore, 1) := by decide +kernel
theorem dL_step_207 : decode cL_step 207 = .ok (.aload_n 1, 1) := by decide +kernel
theorem dL_step_208 : decode cL_step 208 = .ok (.bipush 39, 2) := by decide +kernel
theorem dL_step_210 : decode cL_step 210 = .ok (.dup2, 1) := by decide +kernel
theorem dL_step_211 : decode cL_step 211 = .ok (.iaload, 1) := by decide +kernel
theorem dL_step_212 : decode cL_step 212 = .ok (.iconst 1, 1) := by decide +kernel
theorem dL_step_213 : decode cL_step 213 = .ok (.iadd, 1) := by decide +kernel
theorem dL_step_214 : decode cL_step 214 = .ok (.iastore, 1) := by decide +kernel
theorem dL_step_215 : decode cL_step 215 = .ok (.aload_n 0, 1) := by decide +kernel
theorem dL_step_216 : decode cL_step 216 = .ok (.aload_n 1, 1) := by decide +kernel
theorem dL_step_217 : decode cL_step 217 = .ok (.bipush 30, 2) := by decide +kernel
theorem dL_step_219 : decode cL_step 219 = .ok (.iload 8, 2) := by decide +kernel
theorem dL_step_221 : decode cL_step 221 = .ok (.iadd, 1) := by decide +kernel
theorem dL_step_222 : decode cL_step 222 = .ok (.iaload, 1) := by decide +kernel
theorem dL_step_223 : decode cL_step 223 = .ok (.iconst 1, 1) := by decide +kernel
theorem dL_step_224 : decode cL_step 224 = .ok (.iload 6, 2) := by decide +kernel
theorem dL_step_226 : decode cL_step 226 = .ok (.iconst 4, 1) := by decide +kernel
theorem dL_step_227 : decode cL_step 227 = .ok (.irem, 1) := by decide +kernel
theorem dL_step_228 : decode cL_step 228 = .ok (.iadd, 1) := by decide +kernel
theorem dL_step_229 : decode cL_step 229 = .ok (.invokevirtual 20, 3) := by decide +kernel
theorem dL_step_232 : decode cL_step 232 = .ok (.iload 8, 2) := by decide +kernel
theorem dL_step_234 : decode cL_step 234 = .ok (.if_icmp .ne 55, 3) := by decide +kernel
theorem dL_step_237 : decode cL_step 237 = .ok (.aload_n 0, 1) := by decide +kernel
theorem dL_step_238 : decode cL_step 238 = .ok (.iload 8, 2) := by decide +kernel
theorem dL_step_240 : decode cL_step 240 = .ok (.aload_n 1, 1) := by decide +kernel
theorem dL_step_241 : decode cL_step 241 = .ok (.bipush 30, 2) := by decide +kernel
theorem dL_step_243 : decode cL_step 243 = .ok (.iload 8, 2) := by decide +kernel
theorem dL_step_245 : decode cL_step 245 = .ok (.iadd, 1) := by decide +kernel
theorem dL_step_246 : decode cL_step 246 = .ok (.iaload, 1) := by decide +kernel
theorem dL_step_247 : decode cL_step 247 = .ok (.invokevirtual 24, 3) := by decide +kernel
theorem dL_step_250 : decode cL_step 250 = .ok (.iconst 1, 1) := by decide +kernel
theorem dL_step_251 : decode cL_step 251 = .ok (.if_icmp .ne 38, 3) := by decide +kernel
theorem dL_step_254 : decode cL_step 254 = .ok (.aload_n 0, 1) := by decide +kernel
theorem dL_step_255 : decode cL_step 255 = .ok (.iload 8, 2) := by decide +kernel
theorem dL_step_257 : decode cL_step 257 = .ok (.iconst 1, 1) := by decide +kernel
theorem dL_step_258 : decode cL_step 258 = .ok (.invokevirtual 27, 3) := by decide +kernel
theorem dL_step_261 : decode cL_step 261 = .ok (.aload_n 1, 1) := by decide +kernel
theorem dL_step_262 : decode cL_step 262 = .ok (.bipush 30, 2) := by decide +kernel
theorem dL_step_264 : decode cL_step 264 = .ok (.iload 8, 2) := by decide +kernel
theorem dL_step_266 : decode cL_step 266 = .ok (.iadd, 1) := by decide +kernel
theorem dL_step_267 : decode cL_step 267 = .ok (.iaload, 1) := by decide +kernel
theorem dL_step_268 : decode cL_step 268 = .ok (.if_icmp .ne 21, 3) := by decide +kernel
theorem dL_step_271 : decode cL_step 271 = .ok (.aload_n 0, 1) := by decide +kernel
theorem dL_step_272 : decode cL_step 272 = .ok (.iconst 0, 1) := by decide +kernel
theorem dL_step_273 : decode cL_step 273 = .ok (.iload 8, 2) := by decide +kernel
theorem dL_step_275 : decode cL_step 275 = .ok (.aload_n 1, 1) := by decide +kernel
theorem dL_step_276 : decode cL_step 276 = .ok (.bipush 40, 2) := by decide +kernel
theorem dL_step_278 : decode cL_step 278 = .ok (.iaload, 1) := by decide +kernel
theorem dL_step_279 : decode cL_step 279 = .ok (.invokevirtual 30, 3) := by decide +kernel
theorem dL_step_282 : decode cL_step 282 = .ok (.ifCond .ne 7, 3) := by decide +kernel
theorem dL_step_285 : decode cL_step 285 = .ok (.iconst 1, 1) := by decide +kernel
theorem dL_step_286 : decode cL_step 286 = .ok (.goto 4, 3) := by decide +kernel
theorem dL_step_289 : decode cL_step 289 = .ok (.iconst 0, 1) := by decide +kernel
theorem dL_step_290 : decode cL_step 290 = .ok (.ireturn, 1) := by decide +kernel
theorem dL_step_291 : decode cL_step 291 = .ok (.iload 5, 2) := by decide +kernel
theorem dL_step_293 : decode cL_step 293 = .ok (.iload 7, 2) := by decide +kernel
theorem dL_step_295 : decode cL_step 295 = .ok (.irem, 1) := by decide +kernel
theorem dL_step_296 : decode cL_step 296 = .ok (.istore 9, 2) := by decide +kernel
theorem dL_step_298 : decode cL_step 298 = .ok (.iload 6, 2) := by decide +kernel
theorem dL_step_300 : decode cL_step 300 = .ok (.iload 8, 2) := by decide +kernel
theorem dL_step_302 : decode cL_step 302 = .ok (.irem, 1) := by decide +kernel
theorem dL_step_303 : decode cL_step 303 = .ok (.istore 10, 2) := by decide +kernel
theorem dL_step_305 : decode cL_step 305 = .ok (.iconst 4, 1) := by decide +kernel
theorem dL_step_306 : decode cL_step 306 = .ok (.iload 9, 2) := by decide +kernel
theorem dL_step_308 : decode cL_step 308 = .ok (.imul, 1) := by decide +kernel
theorem dL_step_309 : decode cL_step 309 = .ok (.iload 10, 2) := by decide +kernel
theorem dL_step_311 : decode cL_step 311 = .ok (.iadd, 1) := by decide +kernel
theorem dL_step_312 : decode cL_step 312 = .ok (.istore 11, 2) := by decide +kernel
theorem dL_step_314 : decode cL_step 314 = .ok (.iload 4, 2) := by decide +kernel
theorem dL_step_316 : decode cL_step 316 = .ok (.bipush 12, 2) := by decide +kernel
theorem dL_step_318 : decode cL_step 318 = .ok (.irem, 1) := by decide +kernel
theorem dL_step_319 : decode cL_step 319 = .ok (.tableswitch 529 2 10 #[49, 49, 140, 140, 140, 275, 342, 342, 500], 49) := by decide +kernel
theorem dL_step_368 : decode cL_step 368 = .ok (.aload_n 1, 1) := by decide +kernel
theorem dL_step_369 : decode cL_step 369 = .ok (.bipush 24, 2) := by decide +kernel
theorem dL_step_371 : decode cL_step 371 = .ok (.iload 9, 2) := by decide +kernel
theorem dL_step_373 : decode cL_step 373 = .ok (.iadd, 1) := by decide +kernel
theorem dL_step_374 : decode cL_step 374 = .ok (.iaload, 1) := by decide +kernel
theorem dL_step_375 : decode cL_step 375 = .ok (.iconst 1, 1) := by decide +kernel
theorem dL_step_376 : decode cL_step 376 = .ok (.if_icmp .ne 7, 3) := by decide +kernel
theorem dL_step_379 : decode cL_step 379 = .ok (.iconst 1, 1) := by decide +kernel
theorem dL_step_380 : decode cL_step 380 = .ok (.goto 4, 3) := by decide +kernel
theorem dL_step_383 : decode cL_step 383 = .ok (.iconst 0, 1) := by decide +kernel
theorem dL_step_384 : decode cL_step 384 = .ok (.istore 12, 2) := by decide +kernel
theorem dL_step_386 : decode cL_step 386 = .ok (.aload_n 1, 1) := by decide +kernel
theorem dL_step_387 : decode cL_step 387 = .ok (.bipush 24, 2) := by decide +kernel
theorem dL_step_389 : decode cL_step 389 = .ok (.iload 9, 2) := by decide +kernel
theorem dL_step_391 : decode cL_step 391 = .ok (.iadd, 1) := by decide +kernel
theorem dL_step_392 : decode cL_step 392 = .ok (.iload 6, 2) := by decide +kernel
theorem dL_step_394 : decode cL_step 394 = .ok (.iconst 3, 1) := by decide +kernel
theorem dL_step_395 : decode cL_step 395 = .ok (.irem, 1) := by decide +kernel
theorem dL_step_396 : decode cL_step 396 = .ok (.ifCond .le 7, 3) := by decide +kernel
theorem dL_step_399 : decode cL_step 399 = .ok (.iconst 1, 1) := by decide +kernel
theorem dL_step_400 : decode cL_step 400 = .ok (.goto 4, 3) := by decide +kernel
theorem dL_step_403 : decode cL_step 403 = .ok (.iconst 0, 1) := by decide +kernel
theorem dL_step_404 : decode cL_step 404 = .ok (.iastore, 1) := by decide +kernel
theorem dL_step_405 : decode cL_step 405 = .ok (.aload_n 0, 1) := by decide +kernel
theorem dL_step_406 : decode cL_step 406 = .ok (.iload 9, 2) := by decide +kernel
theorem dL_step_408 : decode cL_step 408 = .ok (.iload 6, 2) := by decide +kernel
theorem dL_step_410 : decode cL_step 410 = .ok (.iconst 3, 1) := by decide +kernel
theorem dL_step_411 : decode cL_step 411 = .ok (.irem, 1) := by decide +kernel
theorem dL_step_412 : decode cL_step 412 = .ok (.ifCond .le 7, 3) := by decide +kernel
theorem dL_step_415 : decode cL_step 415 = .ok (.iconst 1, 1) := by decide +kernel
theorem dL_step_416 : decode cL_step 416 = .ok (.goto 4, 3) := by decide +kernel
theorem dL_step_419 : decode cL_step 419 = .ok (.iconst 0, 1) := by decide +kernel
theorem dL_step_420 : decode cL_step 420 = .ok (.invokevirtual 34, 3) := by decide +kernel
theorem dL_step_423 : decode cL_step 423 = .ok (.iload 12, 2) := by decide +kernel
theorem dL_step_425 : decode cL_step 425 = .ok (.if_icmp .ne 32, 3) := by decide +kernel
theorem dL_step_428 : decode cL_step 428 = .ok (.aload_n 0, 1) := by decide +kernel
theorem dL_step_429 : decode cL_step 429 = .ok (.iload 9, 2) := by decide +kernel
theorem dL_step_431 : decode cL_step 431 = .ok (.aload_n 1, 1) := by decide +kernel
theorem dL_step_432 : decode cL_step 432 = .ok (.bipush 40, 2) := by decide +kernel
theorem dL_step_434 : decode cL_step 434 = .ok (.iaload, 1) := by decide +kernel
theorem dL_step_435 : decode cL_step 435 = .ok (.invokevirtual 16, 3) := by decide +kernel
theorem dL_step_438 : decode cL_step 438 = .ok (.iload 6, 2) := by decide +kernel
theorem dL_step_440 : decode cL_step 440 = .ok (.iconst 3, 1) := by decide +kernel
theorem dL_step_441 : decode cL_step 441 = .ok (.irem, 1) := by decide +kernel
theorem dL_step_442 : decode cL_step 442 = .ok (.ifCond .le 7, 3) := by decide +kernel
theorem dL_step_445 : decode cL_step 445 = .ok (.iconst 1, 1) := by decide +kernel
theorem dL_step_446 : decode cL_step 446 = .ok (.goto 4, 3) := by decide +kernel
theorem dL_step_449 : decode cL_step 449 = .ok (.iconst 0, 1) := by decide +kernel
theorem dL_step_450 : decode cL_step 450 = .ok (.if_icmp .ne 7, 3) := by decide +kernel
theorem dL_step_453 : decode cL_step 453 = .ok (.iconst 1, 1) := by decide +kernel
theorem dL_step_454 : decode cL_step 454 = .ok (.goto 4, 3) := by decide +kernel
theorem dL_step_457 : decode cL_step 457 = .ok (.iconst 0, 1) := by decide +kernel
theorem dL_step_458 : decode cL_step 458 = .ok (.ireturn, 1) := by decide +kernel
theorem dL_step_459 : decode cL_step 459 = .ok (.aload_n 2, 1) := by decide +kernel
theorem dL_step_460 : decode cL_step 460 = .ok (.iload 11, 2) := by decide +kernel
theorem dL_step_462 : decode cL_step 462 = .ok (.iaload, 1) := by decide +kernel
theorem dL_step_463 : decode cL_step 463 = .ok (.iconst 2, 1) := by decide +kernel
theorem dL_step_464 : decode cL_step 464 = .ok (.irem, 1) := by decide +kernel
theorem dL_step_465 : decode cL_step 465 = .ok (.iconst 1, 1) := by decide +kernel
theorem dL_step_466 : decode cL_step 466 = .ok (.if_icmp .ne 7, 3) := by decide +kernel
theorem dL_step_469 : decode cL_step 469 = .ok (.iconst 1, 1) := by decide +kernel
theorem dL_step_470 : decode cL_step 470 = .ok (.goto 4, 3) := by decide +kernel
theorem dL_step_473 : decode cL_step 473 = .ok (.iconst 0, 1) := by decide +kernel
theorem dL_step_474 : decode cL_step 474 = .ok (.istore 13, 2) := by decide +kernel
theorem dL_step_476 : decode cL_step 476 = .ok (.iload 6, 2) := by decide +kernel
theorem dL_step_478 : decode cL_step 478 = .ok (.iconst 4, 1) := by decide +kernel
theorem dL_step_479 : decode cL_step 479 = .ok (.idiv, 1) := by decide +kernel
theorem dL_step_480 : decode cL_step 480 = .ok (.bipush 8, 2) := by decide +kernel
theorem dL_step_482 : decode cL_step 482 = .ok (.irem, 1) := by decide +kernel
theorem dL_step_483 : decode cL_step 483 = .ok (.istore 14, 2) := by decide +kernel
theorem dL_step_485 : decode cL_step 485 = .ok (.iload 14, 2) := by decide +kernel
theorem dL_step_487 : decode cL_step 487 = .ok (.iload 6, 2) := by decide +kernel
theorem dL_step_489 : decode cL_step 489 = .ok (.bipush 32, 2) := by decide +kernel
theorem dL_step_491 : decode cL_step 491 = .ok (.idiv, 1) := by decide +kernel
theorem dL_step_492 : decode cL_step 492 = .ok (.iload 6, 2) := by decide +kernel
theorem dL_step_494 : decode cL_step 494 = .ok (.iconst 2, 1) := by decide +kernel
theorem dL_step_495 : decode cL_step 495 = .ok (.irem, 1) := by decide +kernel
theorem dL_step_496 : decode cL_step 496 = .ok (.ifCond .ne 8, 3) := by decide +kernel
theorem dL_step_499 : decode cL_step 499 = .ok (.bipush 48, 2) := by decide +kernel
theorem dL_step_501 : decode cL_step 501 = .ok (.goto 4, 3) := by decide +kernel
theorem dL_step_504 : decode cL_step 504 = .ok (.iconst 5, 1) := by decide +kernel
theorem dL_step_505 : decode cL_step 505 = .ok (.irem, 1) := by decide +kernel
theorem dL_step_506 : decode cL_step 506 = .ok (.iadd, 1) := by decide +kernel
theorem dL_step_507 : decode cL_step 507 = .ok (.istore 15, 2) := by decide +kernel
theorem dL_step_509 : decode cL_step 509 = .ok (.iload 6, 2) := by decide +kernel
theorem dL_step_511 : decode cL_step 511 = .ok (.bipush 64, 2) := by decide +kernel
theorem dL_step_513 : decode cL_step 513 = .ok (.idiv, 1) := by decide +kernel
theorem dL_step_514 : decode cL_step 514 = .ok (.iload 5, 2) := by decide +kernel
theorem dL_step_516 : decode cL_step 516 = .ok (.iconst 2, 1) := by decide +kernel
theorem dL_step_517 : decode cL_step 517 = .ok (.irem, 1) := by decide +kernel
theorem dL_step_518 : decode cL_step 518 = .ok (.ifCond .ne 7, 3) := by decide +kernel
theorem dL_step_521 : decode cL_step 521 = .ok (.iconst 3, 1) := by decide +kernel
theorem dL_step_522 : decode cL_step 522 = .ok (.goto 5, 3) := by decide +kernel
theorem dL_step_525 : decode cL_step 525 = .ok (.bipush 21, 2) := by decide +kernel
theorem dL_step_527 : decode cL_step 527 = .ok (.irem, 1) := by decide +kernel
theorem dL_step_528 : decode cL_step 528 = .ok (.istore 16, 2) := by decide +kernel
theorem dL_step_530 : decode cL_step 530 = .ok (.aload_n 2, 1) := by decide +kernel
theorem dL_step_531 : decode cL_step 531 = .ok (.iload 11, 2) := by decide +kernel
theorem dL_step_533 : decode cL_step 533 = .ok (.iconst 1, 1) := by decide +kernel
theorem dL_step_534 : decode cL_step 534 = .ok (.iconst 2, 1) := by decide +kernel
theorem dL_step_535 : decode cL_step 535 = .ok (.iload 14, 2) := by decide +kernel
theorem dL_step_537 : decode cL_step 537 = .ok (.imul, 1) := by decide +kernel
theorem dL_step_538 : decode cL_step 538 = .ok (.iadd, 1) := by decide +kernel
theorem dL_step_539 : decode cL_step 539 = .ok (.sipush 128, 3) := by decide +kernel
theorem dL_step_542 : decode cL_step 542 = .ok (.iload 15, 2) := by decide +kernel
theorem dL_step_544 : decode cL_step 544 = .ok (.imul, 1) := by decide +kernel
theorem dL_step_545 : decode cL_step 545 = .ok (.iadd, 1) := by decide +kernel
theorem dL_step_546 : decode cL_step 546 = .ok (.sipush 8192, 3) := by decide +kernel
theorem dL_step_549 : decode cL_step 549 = .ok (.iload 16, 2) := by decide +kernel
theorem dL_step_551 : decode cL_step 551 = .ok (.imul, 1) := by decide +kernel
theorem dL_step_552 : decode cL_step 552 = .ok (.iadd, 1) := by decide +kernel
theorem dL_step_553 : decode cL_step 553 = .ok (.iastore, 1) := by decide +kernel
theorem dL_step_554 : decode cL_step 554 = .ok (.aload_n 0, 1) := by decide +kernel
theorem dL_step_555 : decode cL_step 555 = .ok (.iload 9, 2) := by decide +kernel
theorem dL_step_557 : decode cL_step 557 = .ok (.iload 10, 2) := by decide +kernel
theorem dL_step_559 : decode cL_step 559 = .ok (.iload 14, 2) := by decide +kernel
theorem dL_step_561 : decode cL_step 561 = .ok (.iload 15, 2) := by decide +kernel
theorem dL_step_563 : decode cL_step 563 = .ok (.iload 16, 2) := by decide +kernel
theorem dL_step_565 : decode cL_step 565 = .ok (.invokevirtual 38, 3) := by decide +kernel
theorem dL_step_568 : decode cL_step 568 = .ok (.iload 13, 2) := by decide +kernel
theorem dL_step_570 : decode cL_step 570 = .ok (.if_icmp .ne 22, 3) := by decide +kernel
theorem dL_step_573 : decode cL_step 573 = .ok (.aload_n 0, 1) := by decide +kernel
theorem dL_step_574 : decode cL_step 574 = .ok (.iload 9, 2) := by decide +kernel
theorem dL_step_576 : decode cL_step 576 = .ok (.iload 10, 2) := by decide +kernel
theorem dL_step_578 : decode cL_step 578 = .ok (.aload_n 1, 1) := by decide +kernel
theorem dL_step_579 : decode cL_step 579 = .ok (.bipush 40, 2) := by decide +kernel
theorem dL_step_581 : decode cL_step 581 = .ok (.iaload, 1) := by decide +kernel
theorem dL_step_582 : decode cL_step 582 = .ok (.invokevirtual 30, 3) := by decide +kernel
theorem dL_step_585 : decode cL_step 585 = .ok (.ifCond .eq 7, 3) := by decide +kernel
theorem dL_step_588 : decode cL_step 588 = .ok (.iconst 1, 1) := by decide +kernel
theorem dL_step_589 : decode cL_step 589 = .ok (.goto 4, 3) := by decide +kernel
theorem dL_step_592 : decode cL_step 592 = .ok (.iconst 0, 1) := by decide +kernel
theorem dL_step_593 : decode cL_step 593 = .ok (.ireturn, 1) := by decide +kernel
theorem dL_step_594 : decode cL_step 594 = .ok (.aload_n 2, 1) := by decide +kernel
theorem dL_step_595 : decode cL_step 595 = .ok (.iload 11, 2) := by decide +kernel
theorem dL_step_597 : decode cL_step 597 = .ok (.iaload, 1) := by decide +kernel
theorem dL_step_598 : decode cL_step 598 = .ok (.iconst 2, 1) := by decide +kernel
theorem dL_step_599 : decode cL_step 599 = .ok (.irem, 1) := by decide +kernel
theorem dL_step_600 : decode cL_step 600 = .ok (.ifCond .ne 24, 3) := by decide +kernel
theorem dL_step_603 : decode cL_step 603 = .ok (.aload_n 0, 1) := by decide +kernel
theorem dL_step_604 : decode cL_step 604 = .ok (.iload 9, 2) := by decide +kernel
theorem dL_step_606 : decode cL_step 606 = .ok (.iload 10, 2) := by decide +kernel
theorem dL_step_608 : decode cL_step 608 = .ok (.aload_n 1, 1) := by decide +kernel
theorem dL_step_609 : decode cL_step 609 = .ok (.bipush 40, 2) := by decide +kernel
theorem dL_step_611 : decode cL_step 611 = .ok (.iaload, 1) := by decide +kernel
theorem dL_step_612 : decode cL_step 612 = .ok (.invokevirtual 30, 3) := by decide +kernel
theorem dL_step_615 : decode cL_step 615 = .ok (.ifCond .ne 7, 3) := by decide +kernel
theorem dL_step_618 : decode cL_step 618 = .ok (.iconst 1, 1) := by decide +kernel
theorem dL_step_619 : decode cL_step 619 = .ok (.goto 4, 3) := by decide +kernel
theorem dL_step_622 : decode cL_step 622 = .ok (.iconst 0, 1) := by decide +kernel
theorem dL_step_623 : decode cL_step 623 = .ok (.ireturn, 1) := by decide +kernel
theorem dL_step_624 : decode cL_step 624 = .ok (.aload_n 2, 1) := by decide +kernel
theorem dL_step_625 : decode cL_step 625 = .ok (.iload 11, 2) := by decide +kernel
theorem dL_step_627 : decode cL_step 627 = .ok (.dup2, 1) := by decide +kernel
theorem dL_step_628 : decode cL_step 628 = .ok (.iaload, 1) := by decide +kernel
theorem dL_step_629 : decode cL_step 629 = .ok (.iconst 1, 1) := by decide +kernel
theorem dL_step_630 : decode cL_step 630 = .ok (.isub, 1) := by decide +kernel
theorem dL_step_631 : decode cL_step 631 = .ok (.iastore, 1) := by decide +kernel
theorem dL_step_632 : decode cL_step 632 = .ok (.aload_n 0, 1) := by decide +kernel
theorem dL_step_633 : decode cL_step 633 = .ok (.iload 9, 2) := by decide +kernel
theorem dL_step_635 : decode cL_step 635 = .ok (.iload 10, 2) := by decide +kernel
theorem dL_step_637 : decode cL_step 637 = .ok (.invokevirtual 42, 3) := by decide +kernel
theorem dL_step_640 : decode cL_step 640 = .ok (.aload_n 0, 1) := by decide +kernel
theorem dL_step_641 : decode cL_step 641 = .ok (.iload 9, 2) := by decide +kernel
theorem dL_step_643 : decode cL_step 643 = .ok (.iload 10, 2) := by decide +kernel
theorem dL_step_645 : decode cL_step 645 = .ok (.aload_n 1, 1) := by decide +kernel
theorem dL_step_646 : decode cL_step 646 = .ok (.bipush 40, 2) := by decide +kernel
theorem dL_step_648 : decode cL_step 648 = .ok (.iaload, 1) := by decide +kernel
theorem dL_step_649 : decode cL_step 649 = .ok (.invokevirtual 30, 3) := by decide +kernel
theorem dL_step_652 : decode cL_step 652 = .ok (.ifCond .ne 7, 3) := by decide +kernel
theorem dL_step_655 : decode cL_step 655 = .ok (.iconst 1, 1) := by decide +kernel
theorem dL_step_656 : decode cL_step 656 = .ok (.goto 4, 3) := by decide +kernel
theorem dL_step_659 : decode cL_step 659 = .ok (.iconst 0, 1) := by decide +kernel
theorem dL_step_660 : decode cL_step 660 = .ok (.ireturn, 1) := by decide +kernel
theorem dL_step_661 : decode cL_step 661 = .ok (.iconst 1, 1) := by decide +kernel
theorem dL_step_662 : decode cL_step 662 = .ok (.iload 6, 2) := by decide +kernel
theorem dL_step_664 : decode cL_step 664 = .ok (.iload 5, 2) := by decide +kernel
theorem dL_step_666 : decode cL_step 666 = .ok (.iconst 3, 1) := by decide +kernel
theorem dL_step_667 : decode cL_step 667 = .ok (.irem, 1) := by decide +kernel
theorem dL_step_668 : decode cL_step 668 = .ok (.ifCond .ne 9, 3) := by decide +kernel
theorem dL_step_671 : decode cL_step 671 = .ok (.sipush 1000, 3) := by decide +kernel
theorem dL_step_674 : decode cL_step 674 = .ok (.goto 6, 3) := by decide +kernel
theorem dL_step_677 : decode cL_step 677 = .ok (.sipush 200, 3) := by decide +kernel
theorem dL_step_680 : decode cL_step 680 = .ok (.irem, 1) := by decide +kernel
theorem dL_step_681 : decode cL_step 681 = .ok (.iadd, 1) := by decide +kernel
theorem dL_step_682 : decode cL_step 682 = .ok (.istore 17, 2) := by decide +kernel
theorem dL_step_684 : decode cL_step 684 = .ok (.aload_n 1, 1) := by decide +kernel
theorem dL_step_685 : decode cL_step 685 = .ok (.bipush 40, 2) := by decide +kernel
theorem dL_step_687 : decode cL_step 687 = .ok (.iaload, 1) := by decide +kernel
theorem dL_step_688 : decode cL_step 688 = .ok (.iload 17, 2) := by decide +kernel
theorem dL_step_690 : decode cL_step 690 = .ok (.iadd, 1) := by decide +kernel
theorem dL_step_691 : decode cL_step 691 = .ok (.sipush 20000, 3) := by decide +kernel
theorem dL_step_694 : decode cL_step 694 = .ok (.if_icmp .le 20, 3) := by decide +kernel
theorem dL_step_697 : decode cL_step 697 = .ok (.aload_n 0, 1) := by decide +kernel
theorem dL_step_698 : decode cL_step 698 = .ok (.invokevirtual 46, 3) := by decide +kernel
theorem dL_step_701 : decode cL_step 701 = .ok (.aload_n 1, 1) := by decide +kernel
theorem dL_step_702 : decode cL_step 702 = .ok (.bipush 40, 2) := by decide +kernel
theorem dL_step_704 : decode cL_step 704 = .ok (.iaload, 1) := by decide +kernel
theorem dL_step_705 : decode cL_step 705 = .ok (.if_icmp .ne 7, 3) := by decide +kernel
theorem dL_step_708 : decode cL_step 708 = .ok (.iconst 1, 1) := by decide +kernel
theorem dL_step_709 : decode cL_step 709 = .ok (.goto 4, 3) := by decide +kernel
theorem dL_step_712 : decode cL_step 712 = .ok (.iconst 0, 1) := by decide +kernel
theorem dL_step_713 : decode cL_step 713 = .ok (.ireturn, 1) := by decide +kernel
theorem dL_step_714 : decode cL_step 714 = .ok (.aload_n 0, 1) := by decide +kernel
theorem dL_step_715 : decode cL_step 715 = .ok (.iload 9, 2) := by decide +kernel
theorem dL_step_717 : decode cL_step 717 = .ok (.aload_n 1, 1) := by decide +kernel
theorem dL_step_718 : decode cL_step 718 = .ok (.bipush 40, 2) := by decide +kernel
theorem dL_step_720 : decode cL_step 720 = .ok (.iaload, 1) := by decide +kernel
theorem dL_step_721 : decode cL_step 721 = .ok (.invokevirtual 16, 3) := by decide +kernel
theorem dL_step_724 : decode cL_step 724 = .ok (.istore 18, 2) := by decide +kernel
theorem dL_step_726 : decode cL_step 726 = .ok (.aload_n 0, 1) := by decide +kernel
theorem dL_step_727 : decode cL_step 727 = .ok (.iload 9, 2) := by decide +kernel
theorem dL_step_729 : decode cL_step 729 = .ok (.iload 10, 2) := by decide +kernel
theorem dL_step_731 : decode cL_step 731 = .ok (.aload_n 1, 1) := by decide +kernel
theorem dL_step_732 : decode cL_step 732 = .ok (.bipush 40, 2) := by decide +kernel
theorem dL_step_734 : decode cL_step 734 = .ok (.iaload, 1) := by decide +kernel
theorem dL_step_735 : decode cL_step 735 = .ok (.invokevirtual 30, 3) := by decide +kernel
theorem dL_step_738 : decode cL_step 738 = .ok (.istore 19, 2) := by decide +kernel
theorem dL_step_740 : decode cL_step 740 = .ok (.aload_n 1, 1) := by decide +kernel
theorem dL_step_741 : decode cL_step 741 = .ok (.bipush 40, 2) := by decide +kernel
theorem dL_step_743 : decode cL_step 743 = .ok (.iaload, 1) := by decide +kernel
theorem dL_step_744 : decode cL_step 744 = .ok (.istore 20, 2) := by decide +kernel
theorem dL_step_746 : decode cL_step 746 = .ok (.aload_n 1, 1) := by decide +kernel
theorem dL_step_747 : decode cL_step 747 = .ok (.bipush 40, 2) := by decide +kernel
theorem dL_step_749 : decode cL_step 749 = .ok (.dup2, 1) := by decide +kernel
theorem dL_step_750 : decode cL_step 750 = .ok (.iaload, 1) := by decide +kernel
theorem dL_step_751 : decode cL_step 751 = .ok (.iload 17, 2) := by decide +kernel
theorem dL_step_753 : decode cL_step 753 = .ok (.iadd, 1) := by decide +kernel
theorem dL_step_754 : decode cL_step 754 = .ok (.iastore, 1) := by decide +kernel
theorem dL_step_755 : decode cL_step 755 = .ok (.aload_n 0, 1) := by decide +kernel
theorem dL_step_756 : decode cL_step 756 = .ok (.iload 17, 2) := by decide +kernel
theorem dL_step_758 : decode cL_step 758 = .ok (.invokevirtual 50, 3) := by decide +kernel
theorem dL_step_761 : decode cL_step 761 = .ok (.aload_n 1, 1) := by decide +kernel
theorem dL_step_762 : decode cL_step 762 = .ok (.bipush 40, 2) := by decide +kernel
theorem dL_step_764 : decode cL_step 764 = .ok (.iaload, 1) := by decide +kernel
theorem dL_step_765 : decode cL_step 765 = .ok (.if_icmp .ne 52, 3) := by decide +kernel
theorem dL_step_768 : decode cL_step 768 = .ok (.aload_n 0, 1) := by decide +kernel
theorem dL_step_769 : decode cL_step 769 = .ok (.iload 9, 2) := by decide +kernel
theorem dL_step_771 : decode cL_step 771 = .ok (.iload 20, 2) := by decide +kernel
theorem dL_step_773 : decode cL_step 773 = .ok (.invokevirtual 16, 3) := by decide +kernel
theorem dL_step_776 : decode cL_step 776 = .ok (.iload 18, 2) := by decide +kernel
theorem dL_step_778 : decode cL_step 778 = .ok (.if_icmp .ne 39, 3) := by decide +kernel
theorem dL_step_781 : decode cL_step 781 = .ok (.aload_n 0, 1) := by decide +kernel
theorem dL_step_782 : decode cL_step 782 = .ok (.iload 9, 2) := by decide +kernel
theorem dL_step_784 : decode cL_step 784 = .ok (.aload_n 1, 1) := by decide +kernel
theorem dL_step_785 : decode cL_step 785 = .ok (.bipush 40, 2) := by decide +kernel
theorem dL_step_787 : decode cL_step 787 = .ok (.iaload, 1) := by decide +kernel
theorem dL_step_788 : decode cL_step 788 = .ok (.invokevirtual 16, 3) := by decide +kernel
theorem dL_step_791 : decode cL_step 791 = .ok (.iload 18, 2) := by decide +kernel
theorem dL_step_793 : decode cL_step 793 = .ok (.if_icmp .ne 24, 3) := by decide +kernel
theorem dL_step_796 : decode cL_step 796 = .ok (.aload_n 0, 1) := by decide +kernel
theorem dL_step_797 : decode cL_step 797 = .ok (.iload 9, 2) := by decide +kernel
theorem dL_step_799 : decode cL_step 799 = .ok (.iload 10, 2) := by decide +kernel
theorem dL_step_801 : decode cL_step 801 = .ok (.aload_n 1, 1) := by decide +kernel
theorem dL_step_802 : decode cL_step 802 = .ok (.bipush 40, 2) := by decide +kernel
theorem dL_step_804 : decode cL_step 804 = .ok (.iaload, 1) := by decide +kernel
theorem dL_step_805 : decode cL_step 805 = .ok (.invokevirtual 30, 3) := by decide +kernel
theorem dL_step_808 : decode cL_step 808 = .ok (.iload 19, 2) := by decide +kernel
theorem dL_step_810 : decode cL_step 810 = .ok (.if_icmp .ne 7, 3) := by decide +kernel
theorem dL_step_813 : decode cL_step 813 = .ok (.iconst 1, 1) := by decide +kernel
theorem dL_step_814 : decode cL_step 814 = .ok (.goto 4, 3) := by decide +kernel
theorem dL_step_817 : decode cL_step 817 = .ok (.iconst 0, 1) := by decide +kernel
theorem dL_step_818 : decode cL_step 818 = .ok (.ireturn, 1) := by decide +kernel
theorem dL_step_819 : decode cL_step 819 = .ok (.aload_n 3, 1) := by decide +kernel
theorem dL_step_820 : decode cL_step 820 = .ok (.iload 11, 2) := by decide +kernel
theorem dL_step_822 : decode cL_step 822 = .ok (.dup2, 1) := by decide +kernel
theorem dL_step_823 : decode cL_step 823 = .ok (.iaload, 1) := by decide +kernel
theorem dL_step_824 : decode cL_step 824 = .ok (.iconst 1, 1) := by decide +kernel
theorem dL_step_825 : decode cL_step 825 = .ok (.iadd, 1) := by decide +kernel
theorem dL_step_826 : decode cL_step 826 = .ok (.iastore, 1) := by decide +kernel
theorem dL_step_827 : decode cL_step 827 = .ok (.aload_n 0, 1) := by decide +kernel
theorem dL_step_828 : decode cL_step 828 = .ok (.iload 9, 2) := by decide +kernel
theorem dL_step_830 : decode cL_step 830 = .ok (.iload 10, 2) := by decide +kernel
theorem dL_step_832 : decode cL_step 832 = .ok (.invokevirtual 54, 3) := by decide +kernel
theorem dL_step_835 : decode cL_step 835 = .ok (.aload_n 3, 1) := by decide +kernel
theorem dL_step_836 : decode cL_step 836 = .ok (.iload 11, 2) := by decide +kernel
theorem dL_step_838 : decode cL_step 838 = .ok (.iaload, 1) := by decide +kernel
theorem dL_step_839 : decode cL_step 839 = .ok (.if_icmp .ne 7, 3) := by decide +kernel
theorem dL_step_842 : decode cL_step 842 = .ok (.iconst 1, 1) := by decide +kernel
theorem dL_step_843 : decode cL_step 843 = .ok (.goto 4, 3) := by decide +kernel
theorem dL_step_846 : decode cL_step 846 = .ok (.iconst 0, 1) := by decide +kernel
theorem dL_step_847 : decode cL_step 847 = .ok (.ireturn, 1) := by decide +kernel
theorem dL_step_848 : decode cL_step 848 = .ok (.aload_n 3, 1) := by decide +kernel
theorem dL_step_849 : decode cL_step 849 = .ok (.iload 11, 2) := by decide +kernel
theorem dL_step_851 : decode cL_step 851 = .ok (.iaload, 1) := by decide +kernel
theorem dL_step_852 : decode cL_step 852 = .ok (.istore 21, 2) := by decide +kernel
theorem dL_step_854 : decode cL_step 854 = .ok (.aload_n 3, 1) := by decide +kernel
theorem dL_step_855 : decode cL_step 855 = .ok (.iload 11, 2) := by decide +kernel
theorem dL_step_857 : decode cL_step 857 = .ok (.iconst 0, 1) := by decide +kernel
theorem dL_step_858 : decode cL_step 858 = .ok (.iastore, 1) := by decide +kernel
theorem dL_step_859 : decode cL_step 859 = .ok (.aload_n 0, 1) := by decide +kernel
theorem dL_step_860 : decode cL_step 860 = .ok (.iload 9, 2) := by decide +kernel
theorem dL_step_862 : decode cL_step 862 = .ok (.iload 10, 2) := by decide +kernel
theorem dL_step_864 : decode cL_step 864 = .ok (.invokevirtual 57, 3) := by decide +kernel
theorem dL_step_867 : decode cL_step 867 = .ok (.iload 21, 2) := by decide +kernel
theorem dL_step_869 : decode cL_step 869 = .ok (.if_icmp .ne 24, 3) := by decide +kernel
theorem dL_step_872 : decode cL_step 872 = .ok (.aload_n 0, 1) := by decide +kernel
theorem dL_step_873 : decode cL_step 873 = .ok (.aload_n 1, 1) := by decide +kernel
theorem dL_step_874 : decode cL_step 874 = .ok (.iload 10, 2) := by decide +kernel
theorem dL_step_876 : decode cL_step 876 = .ok (.iconst 1, 1) := by decide +kernel
theorem dL_step_877 : decode cL_step 877 = .ok (.iload 6, 2) := by decide +kernel
theorem dL_step_879 : decode cL_step 879 = .ok (.bipush 60, 2) := by decide +kernel
theorem dL_step_881 : decode cL_step 881 = .ok (.irem, 1) := by decide +kernel
theorem dL_step_882 : decode cL_step 882 = .ok (.iadd, 1) := by decide +kernel
theorem dL_step_883 : decode cL_step 883 = .ok (.invokestatic 60, 3) := by decide +kernel
theorem dL_step_886 : decode cL_step 886 = .ok (.ifCond .eq 7, 3) := by decide +kernel
theorem dL_step_889 : decode cL_step 889 = .ok (.iconst 1, 1) := by decide +kernel
theorem dL_step_890 : decode cL_step 890 = .ok (.goto 4, 3) := by decide +kernel
theorem dL_step_893 : decode cL_step 893 = .ok (.iconst 0, 1) := by decide +kernel
theorem dL_step_894 : decode cL_step 894 = .ok (.ireturn, 1) := by decide +kernel
set_option maxRecDepth 20000 in
theorem ggL_volumes_X4_yearOf : GoodIn wsL_volumes wsX4_yearOf := goodIn_ca (goodIn_ca (goodIn_r _ [5, 6, 7, 8, 9, 4, 10, 11, 12, 13, 14, 15, 16, 17, 18, 19, 20, 21, 22, 23, 24, 25, 26, 31, 32, 33, 34, 35, 36, 37, 38] (by decide +kernel) (by decide +kernel)) (goodIn_sub (fun _ h => List.mem_cons_of_mem _ (List.mem_append_left _ (List.mem_append_right _ h))) (by decide +kernel))) (goodIn_sub (fun _ h => List.mem_cons_of_mem _ (List.mem_append_right _ h)) (by decide +kernel))
set_option maxRecDepth 20000 in
theorem gL_volumes_X4_yearOf : GoodIn wsL_volumes (wsV RL 27 RX4 yX4_yearOf wsX4_yearOf) := goodIn_app (goodIn_of _ (by decide +kernel)) ggL_volumes_X4_yearOf
set_option maxRecDepth 20000 in
theorem ggL_volumes_X4_volumeOf : GoodIn wsL_volumes wsX4_volumeOf := goodIn_ca (goodIn_ca (goodIn_r _ [30, 6, 7, 8, 9, 4, 10, 11, 12, 13, 14, 22, 23, 24, 25, 26, 15, 16, 17, 18, 19, 20, 21, 31, 32, 33, 34, 35, 36, 37, 38] (by decide +kernel) (by decide +kernel)) (goodIn_sub (fun _ h => List.mem_cons_of_mem _ (List.mem_append_left _ (List.mem_append_right _ h))) (by decide +kernel))) (goodIn_sub (fun _ h => List.mem_cons_of_mem _ (List.mem_append_right _ h)) (by decide +kernel))
set_option maxRecDepth 20000 in
theorem gL_volumes_X4_volumeOf : GoodIn wsL_volumes (wsV RL 24 RX4 yX4_volumeOf wsX4_volumeOf) := goodIn_app (goodIn_of _ (by decide +kernel)) ggL_volumes_X4_volumeOf
theorem dL_volumes_0 : decode cL_volumes 0 = .ok (.aload_n 1, 1) := by decide +kernel
theorem dL_volumes_1 : decode cL_volumes 1 = .ok (.bipush 30, 2) := by decide +kernel
theorem dL_volumes_3 : decode cL_volumes 3 = .ok (.iload_n 2, 1) := by decide +kernel
theorem dL_volumes_4 : decode cL_volumes 4 = .ok (.iadd, 1) := by decide +kernel
theorem dL_volumes_5 : decode cL_volumes 5 = .ok (.iaload, 1) := by decide +kernel
theorem dL_volumes_6 : decode cL_volumes 6 = .ok (.iload_n 3, 1) := by decide +kernel
theorem dL_volumes_7 : decode cL_volumes 7 = .ok (.iconst 1, 1) := by decide +kernel
theorem dL_volumes_8 : decode cL_volumes 8 = .ok (.isub, 1) := by decide +kernel
theorem dL_volumes_9 : decode cL_volumes 9 = .ok (.aload_n 1, 1) := by decide +kernel
theorem dL_volumes_10 : decode cL_volumes 10 = .ok (.bipush 34, 2) := by decide +kernel
theorem dL_volumes_12 : decode cL_volumes 12 = .ok (.iload_n 2, 1) := by decide +kernel
theorem dL_volumes_13 : decode cL_volumes 13 = .ok (.iadd, 1) := by decide +kernel
theorem dL_volumes_14 : decode cL_volumes 14 = .ok (.iaload, 1) := by decide +kernel
theorem dL_volumes_15 : decode cL_volumes 15 = .ok (.idiv, 1) := by decide +kernel
theorem dL_volumes_16 : decode cL_volumes 16 = .ok (.iadd, 1) := by decide +kernel
theorem dL_volumes_17 : decode cL_volumes 17 = .ok (.istore 4, 2) := by decide +kernel
theorem dL_volumes_19 : decode cL_volumes 19 = .ok (.iload 4, 2) := by decide +kernel
theorem dL_volumes_21 : decode cL_volumes 21 = .ok (.bipush 55, 2) := by decide +kernel
theorem dL_volumes_23 : decode cL_volumes 23 = .ok (.if_icmp .gt 43, 3) := by decide +kernel
theorem dL_volumes_26 : decode cL_volumes 26 = .ok (.aload_n 0, 1) := by decide +kernel
theorem dL_volumes_27 : decode cL_volumes 27 = .ok (.iload_n 2, 1) := by decide +kernel
theorem dL_volumes_28 : decode cL_volumes 28 = .ok (.iload_n 3, 1) := by decide +kernel
theorem dL_volumes_29 : decode cL_volumes 29 = .ok (.invokevirtual 27, 3) := by decide +kernel
theorem dL_volumes_32 : decode cL_volumes 32 = .ok (.iload 4, 2) := by decide +kernel
theorem dL_volumes_34 : decode cL_volumes 34 = .ok (.if_icmp .ne 36, 3) := by decide +kernel
theorem dL_volumes_37 : decode cL_volumes 37 = .ok (.aload_n 0, 1) := by decide +kernel
theorem dL_volumes_38 : decode cL_volumes 38 = .ok (.iload_n 2, 1) := by decide +kernel
theorem dL_volumes_39 : decode cL_volumes 39 = .ok (.iload 4, 2) := by decide +kernel
theorem dL_volumes_41 : decode cL_volumes 41 = .ok (.invokevirtual 24, 3) := by decide +kernel
theorem dL_volumes_44 : decode cL_volumes 44 = .ok (.iload_n 3, 1) := by decide +kernel
theorem dL_volumes_45 : decode cL_volumes 45 = .ok (.if_icmp .gt 25, 3) := by decide +kernel
theorem dL_volumes_48 : decode cL_volumes 48 = .ok (.iload_n 3, 1) := by decide +kernel
theorem dL_volumes_49 : decode cL_volumes 49 = .ok (.aload_n 0, 1) := by decide +kernel
theorem dL_volumes_50 : decode cL_volumes 50 = .ok (.iload_n 2, 1) := by decide +kernel
theorem dL_volumes_51 : decode cL_volumes 51 = .ok (.iload 4, 2) := by decide +kernel
theorem dL_volumes_53 : decode cL_volumes 53 = .ok (.invokevirtual 24, 3) := by decide +kernel
theorem dL_volumes_56 : decode cL_volumes 56 = .ok (.aload_n 1, 1) := by decide +kernel
theorem dL_volumes_57 : decode cL_volumes 57 = .ok (.bipush 34, 2) := by decide +kernel
theorem dL_volumes_59 : decode cL_volumes 59 = .ok (.iload_n 2, 1) := by decide +kernel
theorem dL_volumes_60 : decode cL_volumes 60 = .ok (.iadd, 1) := by decide +kernel
theorem dL_volumes_61 : decode cL_volumes 61 = .ok (.iaload, 1) := by decide +kernel
theorem dL_volumes_62 : decode cL_volumes 62 = .ok (.iadd, 1) := by decide +kernel
theorem dL_volumes_63 : decode cL_volumes 63 = .ok (.if_icmp .ge 7, 3) := by decide +kernel
theorem dL_volumes_66 : decode cL_volumes 66 = .ok (.iconst 1, 1) := by decide +kernel
theorem dL_volumes_67 : decode cL_volumes 67 = .ok (.goto 4, 3) := by decide +kernel
theorem dL_volumes_70 : decode cL_volumes 70 = .ok (.iconst 0, 1) := by decide +kernel
theorem dL_volumes_71 : decode cL_volumes 71 = .ok (.ireturn, 1) := by decide +kernel
set_option maxRecDepth 20000 in
theorem ggL_covers_X4_covers : GoodIn wsL_covers wsX4_covers := goodIn_ca (goodIn_ca (goodIn_ca (goodIn_r _ [5, 6, 7, 8, 4, 9, 10, 11, 12, 13, 14, 15, 16, 17, 18, 19, 20, 21, 22, 23, 24, 25, 26, 27, 28, 29, 30, 31, 32, 33, 34, 35, 36, 37, 38, 39, 40, 41, 42, 43, 44, 45, 46, 47, 48, 49, 50, 51, 52, 53, 54, 55, 56, 57, 58, 59, 60, 61, 62, 63, 64, 65, 66, 67, 68, 69, 70, 71, 72, 73, 74, 75, 76, 77, 78, 79, 80, 81, 82, 83, 84, 85, 104, 105, 106, 107, 108, 109, 110, 111, 112, 113, 114, 115, 116, 117, 118, 119, 120, 121] (by decide +kernel) (by decide +kernel)) (goodIn_sub (fun _ h => List.mem_cons_of_mem _ (List.mem_append_left _ (List.mem_append_left _ (List.mem_append_right _ h)))) (by decide +kernel))) (goodIn_sub (fun _ h => List.mem_cons_of_mem _ (List.mem_append_left _ (List.mem_append_right _ h))) (by decide +kernel))) (goodIn_sub (fun _ h => List.mem_cons_of_mem _ (List.mem_append_right _ h)) (by decide +kernel))
set_option maxRecDepth 20000 in
theorem gL_covers_X4_covers : GoodIn wsL_covers (wsV RL 66 RX4 yX4_covers wsX4_covers) := goodIn_app (goodIn_of _ (by decide +kernel)) ggL_covers_X4_covers
set_option maxRecDepth 20000 in
theorem ggL_covers_X4_isSubscribed : GoodIn wsL_covers wsX4_isSubscribed := goodIn_ca (goodIn_ca (goodIn_r _ [89, 90, 24, 6, 7, 8, 4, 9, 10, 11, 12, 13, 25, 26, 27, 28, 29, 91, 92, 93, 57, 94, 59, 61, 62, 63, 64, 65, 66, 67, 110, 111, 112, 113, 114, 115, 104, 105, 106, 107, 108, 109, 116, 117, 118, 119, 120, 121] (by decide +kernel) (by decide +kernel)) (goodIn_sub (fun _ h => List.mem_cons_of_mem _ (List.mem_append_left _ (List.mem_append_left _ (List.mem_append_right _ h)))) (by decide +kernel))) (goodIn_sub (fun _ h => List.mem_cons_of_mem _ (List.mem_append_left _ (List.mem_append_right _ h))) (by decide +kernel))
end
section
set_option maxRecDepth 20000 in
theorem gL_covers_X4_isSubscribed : GoodIn wsL_covers (wsV RL 16 RX4 yX4_isSubscribed wsX4_isSubscribed) := goodIn_app (goodIn_of _ (by decide +kernel)) ggL_covers_X4_isSubscribed
set_option maxRecDepth 20000 in
theorem ggL_covers_X4_isIn : GoodIn wsL_covers wsX4_isIn := goodIn_ca (goodIn_ca (goodIn_ca (goodIn_r _ [98, 24, 99, 100, 101, 4, 102, 6, 7, 8, 9, 10, 11, 12, 13, 14, 15, 16, 17, 18, 19, 103, 49, 50, 36, 51, 52, 53, 25, 26, 27, 28, 29, 91, 92, 93, 57, 94, 59, 61, 62, 63, 64, 65, 66, 67, 104, 105, 106, 107, 108, 109, 110, 111, 112, 113, 114, 115, 116, 117, 118, 119, 120, 121] (by decide +kernel) (by decide +kernel)) (goodIn_sub (fun _ h => List.mem_cons_of_mem _ (List.mem_append_left _ (List.mem_append_left _ (List.mem_append_right _ h)))) (by decide +kernel))) (goodIn_sub (fun _ h => List.mem_cons_of_mem _ (List.mem_append_right _ h)) (by decide +kernel))) (goodIn_sub (fun _ h => List.mem_cons_of_mem _ (List.mem_append_left _ (List.mem_append_right _ h))) (by decide +kernel))
set_option maxRecDepth 20000 in
theorem gL_covers_X4_isIn : GoodIn wsL_covers (wsV RL 30 RX4 yX4_isIn wsX4_isIn) := goodIn_app (goodIn_of _ (by decide +kernel)) ggL_covers_X4_isIn
theorem dL_covers_0 : decode cL_covers 0 = .ok (.aload_n 2, 1) := by decide +kernel
theorem dL_covers_1 : decode cL_covers 1 = .ok (.iconst 4, 1) := by decide +kernel
theorem dL_covers_2 : decode cL_covers 2 = .ok (.iload_n 3, 1) := by decide +kernel
theorem dL_covers_3 : decode cL_covers 3 = .ok (.imul, 1) := by decide +kernel
theorem dL_covers_4 : decode cL_covers 4 = .ok (.iload 4, 2) := by decide +kernel
theorem dL_covers_6 : decode cL_covers 6 = .ok (.iadd, 1) := by decide +kernel
theorem dL_covers_7 : decode cL_covers 7 = .ok (.iaload, 1) := by decide +kernel
theorem dL_covers_8 : decode cL_covers 8 = .ok (.istore 7, 2) := by decide +kernel
theorem dL_covers_10 : decode cL_covers 10 = .ok (.aload_n 1, 1) := by decide +kernel
theorem dL_covers_11 : decode cL_covers 11 = .ok (.bipush 24, 2) := by decide +kernel
theorem dL_covers_13 : decode cL_covers 13 = .ok (.iload_n 3, 1) := by decide +kernel
theorem dL_covers_14 : decode cL_covers 14 = .ok (.iadd, 1) := by decide +kernel
theorem dL_covers_15 : decode cL_covers 15 = .ok (.iaload, 1) := by decide +kernel
theorem dL_covers_16 : decode cL_covers 16 = .ok (.iconst 1, 1) := by decide +kernel
theorem dL_covers_17 : decode cL_covers 17 = .ok (.if_icmp .ne 61, 3) := by decide +kernel
theorem dL_covers_20 : decode cL_covers 20 = .ok (.iload 7, 2) := by decide +kernel
theorem dL_covers_22 : decode cL_covers 22 = .ok (.iconst 2, 1) := by decide +kernel
theorem dL_covers_23 : decode cL_covers 23 = .ok (.irem, 1) := by decide +kernel
theorem dL_covers_24 : decode cL_covers 24 = .ok (.iconst 1, 1) := by decide +kernel
theorem dL_covers_25 : decode cL_covers 25 = .ok (.if_icmp .ne 53, 3) := by decide +kernel
theorem dL_covers_28 : decode cL_covers 28 = .ok (.iload 5, 2) := by decide +kernel
theorem dL_covers_30 : decode cL_covers 30 = .ok (.iload 7, 2) := by decide +kernel
theorem dL_covers_32 : decode cL_covers 32 = .ok (.iconst 2, 1) := by decide +kernel
theorem dL_covers_33 : decode cL_covers 33 = .ok (.idiv, 1) := by decide +kernel
theorem dL_covers_34 : decode cL_covers 34 = .ok (.bipush 64, 2) := by decide +kernel
theorem dL_covers_36 : decode cL_covers 36 = .ok (.irem, 1) := by decide +kernel
theorem dL_covers_37 : decode cL_covers 37 = .ok (.if_icmp .lt 41, 3) := by decide +kernel
theorem dL_covers_40 : decode cL_covers 40 = .ok (.iload 5, 2) := by decide +kernel
theorem dL_covers_42 : decode cL_covers 42 = .ok (.iload 7, 2) := by decide +kernel
theorem dL_covers_44 : decode cL_covers 44 = .ok (.sipush 128, 3) := by decide +kernel
theorem dL_covers_47 : decode cL_covers 47 = .ok (.idiv, 1) := by decide +kernel
theorem dL_covers_48 : decode cL_covers 48 = .ok (.bipush 64, 2) := by decide +kernel
theorem dL_covers_50 : decode cL_covers 50 = .ok (.irem, 1) := by decide +kernel
theorem dL_covers_51 : decode cL_covers 51 = .ok (.if_icmp .gt 27, 3) := by decide +kernel
theorem dL_covers_54 : decode cL_covers 54 = .ok (.iload 5, 2) := by decide +kernel
theorem dL_covers_56 : decode cL_covers 56 = .ok (.aload_n 1, 1) := by decide +kernel
theorem dL_covers_57 : decode cL_covers 57 = .ok (.bipush 40, 2) := by decide +kernel
theorem dL_covers_59 : decode cL_covers 59 = .ok (.iaload, 1) := by decide +kernel
theorem dL_covers_60 : decode cL_covers 60 = .ok (.sipush 360, 3) := by decide +kernel
theorem dL_covers_63 : decode cL_covers 63 = .ok (.idiv, 1) := by decide +kernel
theorem dL_covers_64 : decode cL_covers 64 = .ok (.iload 7, 2) := by decide +kernel
theorem dL_covers_66 : decode cL_covers 66 = .ok (.sipush 8192, 3) := by decide +kernel
theorem dL_covers_69 : decode cL_covers 69 = .ok (.idiv, 1) := by decide +kernel
theorem dL_covers_70 : decode cL_covers 70 = .ok (.isub, 1) := by decide +kernel
theorem dL_covers_71 : decode cL_covers 71 = .ok (.if_icmp .gt 7, 3) := by decide +kernel
theorem dL_covers_74 : decode cL_covers 74 = .ok (.iconst 1, 1) := by decide +kernel
theorem dL_covers_75 : decode cL_covers 75 = .ok (.goto 4, 3) := by decide +kernel
theorem dL_covers_78 : decode cL_covers 78 = .ok (.iconst 0, 1) := by decide +kernel
theorem dL_covers_79 : decode cL_covers 79 = .ok (.istore 8, 2) := by decide +kernel
theorem dL_covers_81 : decode cL_covers 81 = .ok (.aload_n 1, 1) := by decide +kernel
theorem dL_covers_82 : decode cL_covers 82 = .ok (.bipush 12, 2) := by decide +kernel
theorem dL_covers_84 : decode cL_covers 84 = .ok (.iload_n 3, 1) := by decide +kernel
theorem dL_covers_85 : decode cL_covers 85 = .ok (.iadd, 1) := by decide +kernel
theorem dL_covers_86 : decode cL_covers 86 = .ok (.iaload, 1) := by decide +kernel
theorem dL_covers_87 : decode cL_covers 87 = .ok (.iload 6, 2) := by decide +kernel
theorem dL_covers_89 : decode cL_covers 89 = .ok (.ishr, 1) := by decide +kernel
theorem dL_covers_90 : decode cL_covers 90 = .ok (.iconst 1, 1) := by decide +kernel
theorem dL_covers_91 : decode cL_covers 91 = .ok (.iand, 1) := by decide +kernel
theorem dL_covers_92 : decode cL_covers 92 = .ok (.iconst 1, 1) := by decide +kernel
theorem dL_covers_93 : decode cL_covers 93 = .ok (.if_icmp .ne 7, 3) := by decide +kernel
theorem dL_covers_96 : decode cL_covers 96 = .ok (.iconst 1, 1) := by decide +kernel
theorem dL_covers_97 : decode cL_covers 97 = .ok (.goto 4, 3) := by decide +kernel
theorem dL_covers_100 : decode cL_covers 100 = .ok (.iconst 0, 1) := by decide +kernel
theorem dL_covers_101 : decode cL_covers 101 = .ok (.istore 9, 2) := by decide +kernel
theorem dL_covers_103 : decode cL_covers 103 = .ok (.aload_n 0, 1) := by decide +kernel
theorem dL_covers_104 : decode cL_covers 104 = .ok (.iload_n 3, 1) := by decide +kernel
theorem dL_covers_105 : decode cL_covers 105 = .ok (.iload 4, 2) := by decide +kernel
theorem dL_covers_107 : decode cL_covers 107 = .ok (.iload 5, 2) := by decide +kernel
theorem dL_covers_109 : decode cL_covers 109 = .ok (.iload 6, 2) := by decide +kernel
theorem dL_covers_111 : decode cL_covers 111 = .ok (.aload_n 1, 1) := by decide +kernel
theorem dL_covers_112 : decode cL_covers 112 = .ok (.bipush 40, 2) := by decide +kernel
theorem dL_covers_114 : decode cL_covers 114 = .ok (.iaload, 1) := by decide +kernel
theorem dL_covers_115 : decode cL_covers 115 = .ok (.invokevirtual 66, 3) := by decide +kernel
theorem dL_covers_118 : decode cL_covers 118 = .ok (.istore 10, 2) := by decide +kernel
theorem dL_covers_120 : decode cL_covers 120 = .ok (.sipush 360, 3) := by decide +kernel
theorem dL_covers_123 : decode cL_covers 123 = .ok (.iload 5, 2) := by decide +kernel
theorem dL_covers_125 : decode cL_covers 125 = .ok (.imul, 1) := by decide +kernel
theorem dL_covers_126 : decode cL_covers 126 = .ok (.sipush 359, 3) := by decide +kernel
theorem dL_covers_129 : decode cL_covers 129 = .ok (.iadd, 1) := by decide +kernel
theorem dL_covers_130 : decode cL_covers 130 = .ok (.istore 11, 2) := by decide +kernel
theorem dL_covers_132 : decode cL_covers 132 = .ok (.iload 10, 2) := by decide +kernel
theorem dL_covers_134 : decode cL_covers 134 = .ok (.ifCond .eq 65, 3) := by decide +kernel
theorem dL_covers_137 : decode cL_covers 137 = .ok (.iload 8, 2) := by decide +kernel
theorem dL_covers_139 : decode cL_covers 139 = .ok (.ifCond .eq 8, 3) := by decide +kernel
theorem dL_covers_142 : decode cL_covers 142 = .ok (.iload 9, 2) := by decide +kernel
theorem dL_covers_144 : decode cL_covers 144 = .ok (.ifCond .ne 55, 3) := by decide +kernel
theorem dL_covers_147 : decode cL_covers 147 = .ok (.iload 9, 2) := by decide +kernel
theorem dL_covers_149 : decode cL_covers 149 = .ok (.ifCond .eq 48, 3) := by decide +kernel
theorem dL_covers_152 : decode cL_covers 152 = .ok (.aload_n 1, 1) := by decide +kernel
theorem dL_covers_153 : decode cL_covers 153 = .ok (.bipush 18, 2) := by decide +kernel
theorem dL_covers_155 : decode cL_covers 155 = .ok (.iload_n 3, 1) := by decide +kernel
theorem dL_covers_156 : decode cL_covers 156 = .ok (.iadd, 1) := by decide +kernel
theorem dL_covers_157 : decode cL_covers 157 = .ok (.iaload, 1) := by decide +kernel
theorem dL_covers_158 : decode cL_covers 158 = .ok (.iconst 1, 1) := by decide +kernel
theorem dL_covers_159 : decode cL_covers 159 = .ok (.if_icmp .ne 38, 3) := by decide +kernel
theorem dL_covers_162 : decode cL_covers 162 = .ok (.iload 11, 2) := by decide +kernel
theorem dL_covers_164 : decode cL_covers 164 = .ok (.aload_n 1, 1) := by decide +kernel
theorem dL_covers_165 : decode cL_covers 165 = .ok (.bipush 40, 2) := by decide +kernel
theorem dL_covers_167 : decode cL_covers 167 = .ok (.iaload, 1) := by decide +kernel
theorem dL_covers_168 : decode cL_covers 168 = .ok (.if_icmp .ge 29, 3) := by decide +kernel
theorem dL_covers_171 : decode cL_covers 171 = .ok (.aload_n 0, 1) := by decide +kernel
theorem dL_covers_172 : decode cL_covers 172 = .ok (.iload_n 3, 1) := by decide +kernel
theorem dL_covers_173 : decode cL_covers 173 = .ok (.iload 11, 2) := by decide +kernel
theorem dL_covers_175 : decode cL_covers 175 = .ok (.invokevirtual 16, 3) := by decide +kernel
theorem dL_covers_178 : decode cL_covers 178 = .ok (.ifCond .eq 19, 3) := by decide +kernel
theorem dL_covers_181 : decode cL_covers 181 = .ok (.aload_n 0, 1) := by decide +kernel
theorem dL_covers_182 : decode cL_covers 182 = .ok (.iload_n 3, 1) := by decide +kernel
theorem dL_covers_183 : decode cL_covers 183 = .ok (.iload 4, 2) := by decide +kernel
theorem dL_covers_185 : decode cL_covers 185 = .ok (.iload 11, 2) := by decide +kernel
theorem dL_covers_187 : decode cL_covers 187 = .ok (.invokevirtual 30, 3) := by decide +kernel
theorem dL_covers_190 : decode cL_covers 190 = .ok (.ifCond .eq 7, 3) := by decide +kernel
theorem dL_covers_193 : decode cL_covers 193 = .ok (.iconst 1, 1) := by decide +kernel
theorem dL_covers_194 : decode cL_covers 194 = .ok (.goto 4, 3) := by decide +kernel
theorem dL_covers_197 : decode cL_covers 197 = .ok (.iconst 0, 1) := by decide +kernel
theorem dL_covers_198 : decode cL_covers 198 = .ok (.ireturn, 1) := by decide +kernel
theorem dL_covers_199 : decode cL_covers 199 = .ok (.iload 8, 2) := by decide +kernel
theorem dL_covers_201 : decode cL_covers 201 = .ok (.ifCond .eq 13, 3) := by decide +kernel
theorem dL_covers_204 : decode cL_covers 204 = .ok (.iload 9, 2) := by decide +kernel
theorem dL_covers_206 : decode cL_covers 206 = .ok (.ifCond .eq 8, 3) := by decide +kernel
theorem dL_covers_209 : decode cL_covers 209 = .ok (.iload 10, 2) := by decide +kernel
theorem dL_covers_211 : decode cL_covers 211 = .ok (.ifCond .eq 7, 3) := by decide +kernel
theorem dL_covers_214 : decode cL_covers 214 = .ok (.iconst 1, 1) := by decide +kernel
theorem dL_covers_215 : decode cL_covers 215 = .ok (.goto 4, 3) := by decide +kernel
theorem dL_covers_218 : decode cL_covers 218 = .ok (.iconst 0, 1) := by decide +kernel
theorem dL_covers_219 : decode cL_covers 219 = .ok (.ireturn, 1) := by decide +kernel
theorem dL_isAhead_0 : decode cL_isAhead 0 = .ok (.aload_n 1, 1) := by decide +kernel
theorem dL_isAhead_1 : decode cL_isAhead 1 = .ok (.iconst 4, 1) := by decide +kernel
theorem dL_isAhead_2 : decode cL_isAhead 2 = .ok (.iload_n 2, 1) := by decide +kernel
theorem dL_isAhead_3 : decode cL_isAhead 3 = .ok (.imul, 1) := by decide +kernel
theorem dL_isAhead_4 : decode cL_isAhead 4 = .ok (.iload 4, 2) := by decide +kernel
theorem dL_isAhead_6 : decode cL_isAhead 6 = .ok (.iadd, 1) := by decide +kernel
theorem dL_isAhead_7 : decode cL_isAhead 7 = .ok (.iaload, 1) := by decide +kernel
theorem dL_isAhead_8 : decode cL_isAhead 8 = .ok (.iconst 1, 1) := by decide +kernel
theorem dL_isAhead_9 : decode cL_isAhead 9 = .ok (.if_icmp .le 8, 3) := by decide +kernel
theorem dL_isAhead_12 : decode cL_isAhead 12 = .ok (.ldc 69, 2) := by decide +kernel
theorem dL_isAhead_14 : decode cL_isAhead 14 = .ok (.goto 4, 3) := by decide +kernel
theorem dL_isAhead_17 : decode cL_isAhead 17 = .ok (.iconst 0, 1) := by decide +kernel
theorem dL_isAhead_18 : decode cL_isAhead 18 = .ok (.bipush 100, 2) := by decide +kernel
theorem dL_isAhead_20 : decode cL_isAhead 20 = .ok (.aload_n 0, 1) := by decide +kernel
theorem dL_isAhead_21 : decode cL_isAhead 21 = .ok (.iload_n 2, 1) := by decide +kernel
theorem dL_isAhead_22 : decode cL_isAhead 22 = .ok (.iaload, 1) := by decide +kernel
theorem dL_isAhead_23 : decode cL_isAhead 23 = .ok (.imul, 1) := by decide +kernel
theorem dL_isAhead_24 : decode cL_isAhead 24 = .ok (.iadd, 1) := by decide +kernel
theorem dL_isAhead_25 : decode cL_isAhead 25 = .ok (.bipush 10, 2) := by decide +kernel
theorem dL_isAhead_27 : decode cL_isAhead 27 = .ok (.aload_n 0, 1) := by decide +kernel
theorem dL_isAhead_28 : decode cL_isAhead 28 = .ok (.bipush 6, 2) := by decide +kernel
theorem dL_isAhead_30 : decode cL_isAhead 30 = .ok (.iload_n 2, 1) := by decide +kernel
theorem dL_isAhead_31 : decode cL_isAhead 31 = .ok (.iadd, 1) := by decide +kernel
theorem dL_isAhead_32 : decode cL_isAhead 32 = .ok (.iaload, 1) := by decide +kernel
theorem dL_isAhead_33 : decode cL_isAhead 33 = .ok (.imul, 1) := by decide +kernel
theorem dL_isAhead_34 : decode cL_isAhead 34 = .ok (.iadd, 1) := by decide +kernel
theorem dL_isAhead_35 : decode cL_isAhead 35 = .ok (.iload_n 2, 1) := by decide +kernel
theorem dL_isAhead_36 : decode cL_isAhead 36 = .ok (.iadd, 1) := by decide +kernel
theorem dL_isAhead_37 : decode cL_isAhead 37 = .ok (.istore 5, 2) := by decide +kernel
theorem dL_isAhead_39 : decode cL_isAhead 39 = .ok (.aload_n 1, 1) := by decide +kernel
theorem dL_isAhead_40 : decode cL_isAhead 40 = .ok (.iconst 4, 1) := by decide +kernel
theorem dL_isAhead_41 : decode cL_isAhead 41 = .ok (.iload_n 3, 1) := by decide +kernel
theorem dL_isAhead_42 : decode cL_isAhead 42 = .ok (.imul, 1) := by decide +kernel
theorem dL_isAhead_43 : decode cL_isAhead 43 = .ok (.iload 4, 2) := by decide +kernel
theorem dL_isAhead_45 : decode cL_isAhead 45 = .ok (.iadd, 1) := by decide +kernel
theorem dL_isAhead_46 : decode cL_isAhead 46 = .ok (.iaload, 1) := by decide +kernel
theorem dL_isAhead_47 : decode cL_isAhead 47 = .ok (.iconst 1, 1) := by decide +kernel
theorem dL_isAhead_48 : decode cL_isAhead 48 = .ok (.if_icmp .le 8, 3) := by decide +kernel
theorem dL_isAhead_51 : decode cL_isAhead 51 = .ok (.ldc 69, 2) := by decide +kernel
theorem dL_isAhead_53 : decode cL_isAhead 53 = .ok (.goto 4, 3) := by decide +kernel
theorem dL_isAhead_56 : decode cL_isAhead 56 = .ok (.iconst 0, 1) := by decide +kernel
theorem dL_isAhead_57 : decode cL_isAhead 57 = .ok (.bipush 100, 2) := by decide +kernel
theorem dL_isAhead_59 : decode cL_isAhead 59 = .ok (.aload_n 0, 1) := by decide +kernel
theorem dL_isAhead_60 : decode cL_isAhead 60 = .ok (.iload_n 3, 1) := by decide +kernel
theorem dL_isAhead_61 : decode cL_isAhead 61 = .ok (.iaload, 1) := by decide +kernel
theorem dL_isAhead_62 : decode cL_isAhead 62 = .ok (.imul, 1) := by decide +kernel
theorem dL_isAhead_63 : decode cL_isAhead 63 = .ok (.iadd, 1) := by decide +kernel
theorem dL_isAhead_64 : decode cL_isAhead 64 = .ok (.bipush 10, 2) := by decide +kernel
theorem dL_isAhead_66 : decode cL_isAhead 66 = .ok (.aload_n 0, 1) := by decide +kernel
theorem dL_isAhead_67 : decode cL_isAhead 67 = .ok (.bipush 6, 2) := by decide +kernel
theorem dL_isAhead_69 : decode cL_isAhead 69 = .ok (.iload_n 3, 1) := by decide +kernel
theorem dL_isAhead_70 : decode cL_isAhead 70 = .ok (.iadd, 1) := by decide +kernel
theorem dL_isAhead_71 : decode cL_isAhead 71 = .ok (.iaload, 1) := by decide +kernel
theorem dL_isAhead_72 : decode cL_isAhead 72 = .ok (.imul, 1) := by decide +kernel
theorem dL_isAhead_73 : decode cL_isAhead 73 = .ok (.iadd, 1) := by decide +kernel
theorem dL_isAhead_74 : decode cL_isAhead 74 = .ok (.iload_n 3, 1) := by decide +kernel
theorem dL_isAhead_75 : decode cL_isAhead 75 = .ok (.iadd, 1) := by decide +kernel
theorem dL_isAhead_76 : decode cL_isAhead 76 = .ok (.istore 6, 2) := by decide +kernel
theorem dL_isAhead_78 : decode cL_isAhead 78 = .ok (.iload 5, 2) := by decide +kernel
theorem dL_isAhead_80 : decode cL_isAhead 80 = .ok (.iload 6, 2) := by decide +kernel
theorem dL_isAhead_82 : decode cL_isAhead 82 = .ok (.if_icmp .ge 7, 3) := by decide +kernel
theorem dL_isAhead_85 : decode cL_isAhead 85 = .ok (.iconst 1, 1) := by decide +kernel
theorem dL_isAhead_86 : decode cL_isAhead 86 = .ok (.goto 4, 3) := by decide +kernel
theorem dL_isAhead_89 : decode cL_isAhead 89 = .ok (.iconst 0, 1) := by decide +kernel
theorem dL_isAhead_90 : decode cL_isAhead 90 = .ok (.ireturn, 1) := by decide +kernel
set_option maxRecDepth 20000 in
theorem ggL_areWays_X4_covers : GoodIn wsL_areWays wsX4_covers := goodIn_ca (goodIn_ca (goodIn_ca (goodIn_r _ [5, 6, 7, 8, 4, 9, 10, 11, 12, 13, 14, 15, 16, 17, 18, 19, 20, 21, 22, 23, 24, 25, 26, 27, 28, 29, 30, 31, 32, 33, 34, 35, 36, 37, 38, 39, 40, 41, 42, 43, 44, 45, 46, 47, 48, 49, 50, 51, 52, 53, 54, 55, 56, 57, 58, 59, 60, 61, 62, 63, 64, 65, 66, 67, 68, 69, 70, 71, 72, 73, 74, 75, 76, 77, 78, 79, 80, 81, 82, 83, 84, 85, 149, 150, 151, 152, 153, 154, 155, 156, 157, 158, 159, 160, 161, 162, 163, 164, 165, 166] (by decide +kernel) (by decide +kernel)) (goodIn_sub (fun _ h => List.mem_cons_of_mem _ (List.mem_append_left _ (List.mem_append_left _ (List.mem_append_right _ h)))) (by decide +kernel))) (goodIn_sub (fun _ h => List.mem_cons_of_mem _ (List.mem_append_left _ (List.mem_append_right _ h))) (by decide +kernel))) (goodIn_sub (fun _ h => List.mem_cons_of_mem _ (List.mem_append_right _ h)) (by decide +kernel))
set_option maxRecDepth 20000 in
theorem gL_areWays_X4_covers : GoodIn wsL_areWays (wsV RL 66 RX4 yX4_covers wsX4_covers) := goodIn_app (goodIn_of _ (by decide +kernel)) ggL_areWays_X4_covers
set_option maxRecDepth 20000 in
theorem ggL_areWays_L_covers : GoodIn wsL_areWays wsL_covers := goodIn_ca (goodIn_ca (goodIn_ca (goodIn_r _ [89, 1, 2, 3, 4, 5, 6, 7, 8, 9, 10, 11, 12, 13, 14, 15, 16, 17, 18, 19, 20, 21, 22, 23, 24, 25, 26, 27, 28, 29, 30, 31, 32, 33, 34, 35, 36, 37, 38, 39, 40, 41, 42, 43, 44, 45, 46, 47, 48, 49, 50, 51, 52, 53, 54, 55, 56, 57, 58, 59, 60, 61, 62, 63, 64, 65, 66, 67, 68, 69, 70, 71, 72, 73, 74, 75, 76, 77, 78, 79, 80, 81, 82, 83, 84, 85, 90, 91, 92, 93, 94, 95, 96, 97, 98, 99, 100, 101, 102, 103, 104, 105, 106, 107, 149, 150, 151, 152, 153, 154, 155, 156, 157, 158, 159, 160, 161, 162, 163, 164, 165, 166] (by decide +kernel) (by decide +kernel)) (goodIn_sub (fun _ h => List.mem_cons_of_mem _ (List.mem_append_left _ (List.mem_append_left _ (List.mem_append_right _ h)))) (by decide +kernel))) (goodIn_sub (fun _ h => List.mem_cons_of_mem _ (List.mem_append_left _ (List.mem_append_right _ h))) (by decide +kernel))) (goodIn_sub (fun _ h => List.mem_cons_of_mem _ (List.mem_append_right _ h)) (by decide +kernel))
set_option maxRecDepth 20000 in
theorem gL_areWays_L_covers : GoodIn wsL_areWays (va_wsS RL 70 yL_covers wsL_covers) := goodIn_app (goodIn_of _ (by decide +kernel)) ggL_areWays_L_covers
set_option maxRecDepth 20000 in
theorem ggL_areWays_X4_ways : GoodIn wsL_areWays wsX4_ways := goodIn_ca (goodIn_ca (goodIn_ca (goodIn_r _ [111, 14, 15, 16, 4, 17, 10, 11, 18, 19, 20, 21, 22, 23, 24, 25, 26, 27, 28, 29, 112, 113, 114, 115, 12, 6, 7, 8, 9, 13, 30, 31, 32, 33, 34, 35, 36, 37, 38, 39, 40, 41, 42, 43, 44, 45, 46, 47, 48, 49, 50, 51, 52, 53, 54, 55, 56, 57, 58, 59, 60, 61, 62, 63, 64, 65, 66, 67, 68, 69, 70, 71, 72, 73, 74, 75, 76, 77, 78, 79, 80, 81, 82, 83, 84, 85, 116, 117, 118, 119, 120, 121, 122, 149, 150, 151, 152, 153, 154, 155, 156, 157, 158, 159, 160, 161, 162, 163, 164, 165, 166] (by decide +kernel) (by decide +kernel)) (goodIn_sub (fun _ h => List.mem_cons_of_mem _ (List.mem_append_left _ (List.mem_append_left _ (List.mem_append_right _ h)))) (by decide +kernel))) (goodIn_sub (fun _ h => List.mem_cons_of_mem _ (List.mem_append_left _ (List.mem_append_right _ h))) (by decide +kernel))) (goodIn_sub (fun _ h => List.mem_cons_of_mem _ (List.mem_append_right _ h)) (by decide +kernel))
set_option maxRecDepth 20000 in
theorem gL_areWays_X4_ways : GoodIn wsL_areWays (wsV RL 73 RX4 yX4_ways wsX4_ways) := goodIn_app (goodIn_of _ (by decide +kernel)) ggL_areWays_X4_ways
set_option maxRecDepth 20000 in
theorem ggL_areWays_X4_wayAt : GoodIn wsL_areWays wsX4_wayAt := goodIn_ca (goodIn_ca (goodIn_ca (goodIn_r _ [126, 10, 11, 12, 20, 21, 22, 4, 23, 24, 25, 26, 27, 28, 29, 14, 15, 16, 17, 18, 19, 112, 113, 114, 115, 6, 7, 8, 9, 13, 30, 31, 32, 33, 34, 35, 36, 37, 38, 39, 40, 41, 42, 43, 44, 45, 46, 47, 48, 49, 50, 51, 52, 53, 54, 55, 56, 57, 58, 59, 60, 61, 62, 63, 64, 65, 66, 67, 68, 69, 70, 71, 72, 73, 74, 75, 76, 77, 78, 79, 80, 81, 82, 83, 84, 85, 127, 128, 129, 130, 131, 132, 133, 134, 135, 136, 137, 138, 139, 140, 141, 142, 143, 144, 149, 150, 151, 152, 153, 154, 155, 156, 157, 158, 159, 160, 161, 162, 163, 164, 165, 166] (by decide +kernel) (by decide +kernel)) (goodIn_sub (fun _ h => List.mem_cons_of_mem _ (List.mem_append_left _ (List.mem_append_left _ (List.mem_append_right _ h)))) (by decide +kernel))) (goodIn_sub (fun _ h => List.mem_cons_of_mem _ (List.mem_append_left _ (List.mem_append_right _ h))) (by decide +kernel))) (goodIn_sub (fun _ h => List.mem_cons_of_mem _ (List.mem_append_right _ h)) (by decide +kernel))
set_option maxRecDepth 20000 in
theorem gL_areWays_X4_wayAt : GoodIn wsL_areWays (wsV RL 76 RX4 yX4_wayAt wsX4_wayAt) := goodIn_app (goodIn_of _ (by decide +kernel)) ggL_areWays_X4_wayAt
set_option maxRecDepth 20000 in
theorem ggL_areWays_L_isAhead : GoodIn wsL_areWays wsL_isAhead := goodIn_r _ [147, 148] (by decide +kernel) (by decide +kernel)
set_option maxRecDepth 20000 in
theorem gL_areWays_L_isAhead : GoodIn wsL_areWays (va_wsS RL 80 yL_isAhead wsL_isAhead) := goodIn_app (goodIn_of _ (by decide +kernel)) ggL_areWays_L_isAhead
theorem dL_areWays_0 : decode cL_areWays 0 = .ok (.iconst 0, 1) := by decide +kernel
theorem dL_areWays_1 : decode cL_areWays 1 = .ok (.istore 8, 2) := by decide +kernel
theorem dL_areWays_3 : decode cL_areWays 3 = .ok (.iconst 1, 1) := by decide +kernel
theorem dL_areWays_4 : decode cL_areWays 4 = .ok (.istore 9, 2) := by decide +kernel
theorem dL_areWays_6 : decode cL_areWays 6 = .ok (.iconst 0, 1) := by decide +kernel
theorem dL_areWays_7 : decode cL_areWays 7 = .ok (.istore 10, 2) := by decide +kernel
theorem dL_areWays_9 : decode cL_areWays 9 = .ok (.iload 10, 2) := by decide +kernel
theorem dL_areWays_11 : decode cL_areWays 11 = .ok (.aload_n 1, 1) := by decide +kernel
theorem dL_areWays_12 : decode cL_areWays 12 = .ok (.bipush 38, 2) := by decide +kernel
theorem dL_areWays_14 : decode cL_areWays 14 = .ok (.iaload, 1) := by decide +kernel
theorem dL_areWays_15 : decode cL_areWays 15 = .ok (.if_icmp .ge 74, 3) := by decide +kernel
theorem dL_areWays_18 : decode cL_areWays 18 = .ok (.iload 8, 2) := by decide +kernel
theorem dL_areWays_20 : decode cL_areWays 20 = .ok (.aload_n 0, 1) := by decide +kernel
theorem dL_areWays_21 : decode cL_areWays 21 = .ok (.iload 10, 2) := by decide +kernel
theorem dL_areWays_23 : decode cL_areWays 23 = .ok (.iload 4, 2) := by decide +kernel
theorem dL_areWays_25 : decode cL_areWays 25 = .ok (.iload 5, 2) := by decide +kernel
theorem dL_areWays_27 : decode cL_areWays 27 = .ok (.iload 6, 2) := by decide +kernel
theorem dL_areWays_29 : decode cL_areWays 29 = .ok (.iload 7, 2) := by decide +kernel
theorem dL_areWays_31 : decode cL_areWays 31 = .ok (.invokevirtual 66, 3) := by decide +kernel
theorem dL_areWays_34 : decode cL_areWays 34 = .ok (.ifCond .eq 7, 3) := by decide +kernel
theorem dL_areWays_37 : decode cL_areWays 37 = .ok (.iconst 1, 1) := by decide +kernel
theorem dL_areWays_38 : decode cL_areWays 38 = .ok (.goto 4, 3) := by decide +kernel
theorem dL_areWays_41 : decode cL_areWays 41 = .ok (.iconst 0, 1) := by decide +kernel
theorem dL_areWays_42 : decode cL_areWays 42 = .ok (.iadd, 1) := by decide +kernel
theorem dL_areWays_43 : decode cL_areWays 43 = .ok (.istore 8, 2) := by decide +kernel
theorem dL_areWays_45 : decode cL_areWays 45 = .ok (.iload 9, 2) := by decide +kernel
theorem dL_areWays_47 : decode cL_areWays 47 = .ok (.ifCond .eq 33, 3) := by decide +kernel
theorem dL_areWays_50 : decode cL_areWays 50 = .ok (.iload 7, 2) := by decide +kernel
theorem dL_areWays_52 : decode cL_areWays 52 = .ok (.aload_n 1, 1) := by decide +kernel
theorem dL_areWays_53 : decode cL_areWays 53 = .ok (.bipush 40, 2) := by decide +kernel
theorem dL_areWays_55 : decode cL_areWays 55 = .ok (.iaload, 1) := by decide +kernel
theorem dL_areWays_56 : decode cL_areWays 56 = .ok (.if_icmp .lt 20, 3) := by decide +kernel
theorem dL_areWays_59 : decode cL_areWays 59 = .ok (.aload_n 0, 1) := by decide +kernel
theorem dL_areWays_60 : decode cL_areWays 60 = .ok (.aload_n 1, 1) := by decide +kernel
theorem dL_areWays_61 : decode cL_areWays 61 = .ok (.aload_n 2, 1) := by decide +kernel
theorem dL_areWays_62 : decode cL_areWays 62 = .ok (.iload 10, 2) := by decide +kernel
theorem dL_areWays_64 : decode cL_areWays 64 = .ok (.iload 4, 2) := by decide +kernel
theorem dL_areWays_66 : decode cL_areWays 66 = .ok (.iload 5, 2) := by decide +kernel
theorem dL_areWays_68 : decode cL_areWays 68 = .ok (.iload 6, 2) := by decide +kernel
theorem dL_areWays_70 : decode cL_areWays 70 = .ok (.invokestatic 70, 3) := by decide +kernel
theorem dL_areWays_73 : decode cL_areWays 73 = .ok (.ifCond .eq 7, 3) := by decide +kernel
theorem dL_areWays_76 : decode cL_areWays 76 = .ok (.iconst 1, 1) := by decide +kernel
theorem dL_areWays_77 : decode cL_areWays 77 = .ok (.goto 4, 3) := by decide +kernel
theorem dL_areWays_80 : decode cL_areWays 80 = .ok (.iconst 0, 1) := by decide +kernel
theorem dL_areWays_81 : decode cL_areWays 81 = .ok (.istore 9, 2) := by decide +kernel
theorem dL_areWays_83 : decode cL_areWays 83 = .ok (.iinc 10 1, 3) := by decide +kernel
theorem dL_areWays_86 : decode cL_areWays 86 = .ok (.goto (-77), 3) := by decide +kernel
theorem dL_areWays_89 : decode cL_areWays 89 = .ok (.iload 9, 2) := by decide +kernel
theorem dL_areWays_91 : decode cL_areWays 91 = .ok (.ifCond .eq 24, 3) := by decide +kernel
theorem dL_areWays_94 : decode cL_areWays 94 = .ok (.aload_n 0, 1) := by decide +kernel
theorem dL_areWays_95 : decode cL_areWays 95 = .ok (.iload 4, 2) := by decide +kernel
theorem dL_areWays_97 : decode cL_areWays 97 = .ok (.iload 5, 2) := by decide +kernel
theorem dL_areWays_99 : decode cL_areWays 99 = .ok (.iload 6, 2) := by decide +kernel
theorem dL_areWays_101 : decode cL_areWays 101 = .ok (.iload 7, 2) := by decide +kernel
theorem dL_areWays_103 : decode cL_areWays 103 = .ok (.invokevirtual 73, 3) := by decide +kernel
theorem dL_areWays_106 : decode cL_areWays 106 = .ok (.iload 8, 2) := by decide +kernel
theorem dL_areWays_108 : decode cL_areWays 108 = .ok (.if_icmp .ne 7, 3) := by decide +kernel
theorem dL_areWays_111 : decode cL_areWays 111 = .ok (.iconst 1, 1) := by decide +kernel
theorem dL_areWays_112 : decode cL_areWays 112 = .ok (.goto 4, 3) := by decide +kernel
theorem dL_areWays_115 : decode cL_areWays 115 = .ok (.iconst 0, 1) := by decide +kernel
theorem dL_areWays_116 : decode cL_areWays 116 = .ok (.istore 9, 2) := by decide +kernel
theorem dL_areWays_118 : decode cL_areWays 118 = .ok (.iconst 0, 1) := by decide +kernel
theorem dL_areWays_119 : decode cL_areWays 119 = .ok (.istore 10, 2) := by decide +kernel
theorem dL_areWays_121 : decode cL_areWays 121 = .ok (.iload 10, 2) := by decide +kernel
theorem dL_areWays_123 : decode cL_areWays 123 = .ok (.iload 8, 2) := by decide +kernel
theorem dL_areWays_125 : decode cL_areWays 125 = .ok (.if_icmp .ge 87, 3) := by decide +kernel
theorem dL_areWays_128 : decode cL_areWays 128 = .ok (.iload 9, 2) := by decide +kernel
theorem dL_areWays_130 : decode cL_areWays 130 = .ok (.ifCond .eq 82, 3) := by decide +kernel
theorem dL_areWays_133 : decode cL_areWays 133 = .ok (.aload_n 0, 1) := by decide +kernel
theorem dL_areWays_134 : decode cL_areWays 134 = .ok (.iload 10, 2) := by decide +kernel
theorem dL_areWays_136 : decode cL_areWays 136 = .ok (.iload 4, 2) := by decide +kernel
theorem dL_areWays_138 : decode cL_areWays 138 = .ok (.iload 5, 2) := by decide +kernel
theorem dL_areWays_140 : decode cL_areWays 140 = .ok (.iload 6, 2) := by decide +kernel
theorem dL_areWays_142 : decode cL_areWays 142 = .ok (.iload 7, 2) := by decide +kernel
theorem dL_areWays_144 : decode cL_areWays 144 = .ok (.invokevirtual 76, 3) := by decide +kernel
theorem dL_areWays_147 : decode cL_areWays 147 = .ok (.istore 11, 2) := by decide +kernel
theorem dL_areWays_149 : decode cL_areWays 149 = .ok (.aload_n 0, 1) := by decide +kernel
theorem dL_areWays_150 : decode cL_areWays 150 = .ok (.iload 11, 2) := by decide +kernel
theorem dL_areWays_152 : decode cL_areWays 152 = .ok (.iload 4, 2) := by decide +kernel
theorem dL_areWays_154 : decode cL_areWays 154 = .ok (.iload 5, 2) := by decide +kernel
theorem dL_areWays_156 : decode cL_areWays 156 = .ok (.iload 6, 2) := by decide +kernel
theorem dL_areWays_158 : decode cL_areWays 158 = .ok (.iload 7, 2) := by decide +kernel
theorem dL_areWays_160 : decode cL_areWays 160 = .ok (.invokevirtual 66, 3) := by decide +kernel
theorem dL_areWays_163 : decode cL_areWays 163 = .ok (.ifCond .eq 40, 3) := by decide +kernel
theorem dL_areWays_166 : decode cL_areWays 166 = .ok (.iload 10, 2) := by decide +kernel
theorem dL_areWays_168 : decode cL_areWays 168 = .ok (.ifCond .eq 31, 3) := by decide +kernel
theorem dL_areWays_171 : decode cL_areWays 171 = .ok (.aload_n 1, 1) := by decide +kernel
theorem dL_areWays_172 : decode cL_areWays 172 = .ok (.aload_n 3, 1) := by decide +kernel
theorem dL_areWays_173 : decode cL_areWays 173 = .ok (.aload_n 0, 1) := by decide +kernel
theorem dL_areWays_174 : decode cL_areWays 174 = .ok (.iload 10, 2) := by decide +kernel
theorem dL_areWays_176 : decode cL_areWays 176 = .ok (.iconst 1, 1) := by decide +kernel
theorem dL_areWays_177 : decode cL_areWays 177 = .ok (.isub, 1) := by decide +kernel
theorem dL_areWays_178 : decode cL_areWays 178 = .ok (.iload 4, 2) := by decide +kernel
theorem dL_areWays_180 : decode cL_areWays 180 = .ok (.iload 5, 2) := by decide +kernel
theorem dL_areWays_182 : decode cL_areWays 182 = .ok (.iload 6, 2) := by decide +kernel
theorem dL_areWays_184 : decode cL_areWays 184 = .ok (.iload 7, 2) := by decide +kernel
theorem dL_areWays_186 : decode cL_areWays 186 = .ok (.invokevirtual 76, 3) := by decide +kernel
theorem dL_areWays_189 : decode cL_areWays 189 = .ok (.iload 11, 2) := by decide +kernel
theorem dL_areWays_191 : decode cL_areWays 191 = .ok (.iload 4, 2) := by decide +kernel
theorem dL_areWays_193 : decode cL_areWays 193 = .ok (.invokestatic 80, 3) := by decide +kernel
theorem dL_areWays_196 : decode cL_areWays 196 = .ok (.ifCond .eq 7, 3) := by decide +kernel
theorem dL_areWays_199 : decode cL_areWays 199 = .ok (.iconst 1, 1) := by decide +kernel
theorem dL_areWays_200 : decode cL_areWays 200 = .ok (.goto 4, 3) := by decide +kernel
theorem dL_areWays_203 : decode cL_areWays 203 = .ok (.iconst 0, 1) := by decide +kernel
theorem dL_areWays_204 : decode cL_areWays 204 = .ok (.istore 9, 2) := by decide +kernel
theorem dL_areWays_206 : decode cL_areWays 206 = .ok (.iinc 10 1, 3) := by decide +kernel
theorem dL_areWays_209 : decode cL_areWays 209 = .ok (.goto (-88), 3) := by decide +kernel
theorem dL_areWays_212 : decode cL_areWays 212 = .ok (.iload 9, 2) := by decide +kernel
theorem dL_areWays_214 : decode cL_areWays 214 = .ok (.ireturn, 1) := by decide +kernel
set_option maxRecDepth 20000 in
theorem ggL_areGaps_X4_ways : GoodIn wsL_areGaps wsX4_ways := goodIn_ca (goodIn_ca (goodIn_ca (goodIn_r _ [5, 6, 7, 8, 4, 9, 10, 11, 12, 13, 14, 15, 16, 17, 18, 19, 20, 21, 22, 23, 24, 25, 26, 27, 28, 29, 30, 31, 32, 33, 34, 35, 36, 37, 38, 39, 40, 41, 42, 43, 44, 45, 46, 47, 48, 49, 50, 51, 52, 53, 54, 55, 56, 57, 58, 59, 60, 61, 62, 63, 64, 65, 66, 67, 68, 69, 70, 71, 72, 73, 74, 75, 76, 77, 78, 79, 80, 81, 82, 83, 84, 85, 86, 87, 88, 89, 90, 91, 92, 93, 94, 95, 96, 123, 124, 125, 126, 127, 128, 129, 130, 131, 132, 133, 134, 135, 136, 137, 138, 139, 140] (by decide +kernel) (by decide +kernel)) (goodIn_sub (fun _ h => List.mem_cons_of_mem _ (List.mem_append_left _ (List.mem_append_left _ (List.mem_append_right _ h)))) (by decide +kernel))) (goodIn_sub (fun _ h => List.mem_cons_of_mem _ (List.mem_append_left _ (List.mem_append_right _ h))) (by decide +kernel))) (goodIn_sub (fun _ h => List.mem_cons_of_mem _ (List.mem_append_right _ h)) (by decide +kernel))
set_option maxRecDepth 20000 in
theorem gL_areGaps_X4_ways : GoodIn wsL_areGaps (wsV RL 73 RX4 yX4_ways wsX4_ways) := goodIn_app (goodIn_of _ (by decide +kernel)) ggL_areGaps_X4_ways
set_option maxRecDepth 20000 in
theorem ggL_areGaps_X4_gap : GoodIn wsL_areGaps wsX4_gap := goodIn_ca (goodIn_ca (goodIn_ca (goodIn_r _ [100, 101, 102, 6, 7, 8, 4, 9, 10, 11, 12, 13, 19, 20, 21, 22, 23, 103, 104, 105, 106, 18, 107, 72, 73, 108, 109, 110, 111, 28, 29, 30, 31, 32, 33, 37, 38, 39, 40, 41, 42, 43, 44, 45, 46, 47, 48, 49, 50, 51, 52, 53, 54, 55, 56, 57, 58, 59, 60, 61, 62, 63, 64, 65, 66, 67, 68, 69, 70, 71, 74, 75, 76, 77, 78, 79, 80, 81, 82, 83, 84, 85, 86, 87, 88, 89, 141, 142, 123, 124, 125, 126, 127, 128, 129, 130, 131, 132, 133, 134, 135, 136, 137, 138, 139, 140] (by decide +kernel) (by decide +kernel)) (goodIn_sub (fun _ h => List.mem_cons_of_mem _ (List.mem_append_left _ (List.mem_append_left _ (List.mem_append_right _ h)))) (by decide +kernel))) (goodIn_sub (fun _ h => List.mem_cons_of_mem _ (List.mem_append_left _ (List.mem_append_right _ h))) (by decide +kernel))) (goodIn_sub (fun _ h => List.mem_cons_of_mem _ (List.mem_append_right _ h)) (by decide +kernel))
set_option maxRecDepth 20000 in
theorem gL_areGaps_X4_gap : GoodIn wsL_areGaps (wsV RL 84 RX4 yX4_gap wsX4_gap) := goodIn_app (goodIn_of _ (by decide +kernel)) ggL_areGaps_X4_gap
set_option maxRecDepth 20000 in
theorem ggL_areGaps_X4_doubles : GoodIn wsL_areGaps wsX4_doubles := goodIn_ca (goodIn_ca (goodIn_ca (goodIn_r _ [115, 28, 18, 6, 7, 8, 4, 9, 10, 11, 12, 13, 19, 20, 21, 22, 23, 29, 30, 31, 32, 33, 37, 38, 39, 40, 41, 42, 43, 44, 45, 46, 47, 48, 49, 50, 51, 52, 53, 54, 55, 56, 57, 58, 59, 60, 61, 62, 63, 64, 65, 66, 67, 68, 69, 70, 71, 72, 73, 74, 75, 76, 77, 78, 79, 80, 81, 82, 83, 84, 85, 86, 103, 104, 105, 106, 102, 107, 116, 117, 118, 119, 120, 121, 122, 123, 124, 125, 126, 127, 128, 129, 130, 131, 132, 133, 134, 135, 136, 137, 138, 139, 140, 141, 142] (by decide +kernel) (by decide +kernel)) (goodIn_sub (fun _ h => List.mem_cons_of_mem _ (List.mem_append_left _ (List.mem_append_left _ (List.mem_append_right _ h)))) (by decide +kernel))) (goodIn_sub (fun _ h => List.mem_cons_of_mem _ (List.mem_append_left _ (List.mem_append_right _ h))) (by decide +kernel))) (goodIn_sub (fun _ h => List.mem_cons_of_mem _ (List.mem_append_right _ h)) (by decide +kernel))
set_option maxRecDepth 20000 in
theorem gL_areGaps_X4_doubles : GoodIn wsL_areGaps (wsV RL 87 RX4 yX4_doubles wsX4_doubles) := goodIn_app (goodIn_of _ (by decide +kernel)) ggL_areGaps_X4_doubles
theorem dL_areGaps_0 : decode cL_areGaps 0 = .ok (.iconst (-1), 1) := by decide +kernel
theorem dL_areGaps_1 : decode cL_areGaps 1 = .ok (.istore 4, 2) := by decide +kernel
theorem dL_areGaps_3 : decode cL_areGaps 3 = .ok (.iconst 0, 1) := by decide +kernel
theorem dL_areGaps_4 : decode cL_areGaps 4 = .ok (.istore 5, 2) := by decide +kernel
theorem dL_areGaps_6 : decode cL_areGaps 6 = .ok (.aload_n 1, 1) := by decide +kernel
theorem dL_areGaps_7 : decode cL_areGaps 7 = .ok (.bipush 40, 2) := by decide +kernel
theorem dL_areGaps_9 : decode cL_areGaps 9 = .ok (.iaload, 1) := by decide +kernel
theorem dL_areGaps_10 : decode cL_areGaps 10 = .ok (.sipush 360, 3) := by decide +kernel
theorem dL_areGaps_13 : decode cL_areGaps 13 = .ok (.idiv, 1) := by decide +kernel
theorem dL_areGaps_14 : decode cL_areGaps 14 = .ok (.istore 6, 2) := by decide +kernel
theorem dL_areGaps_16 : decode cL_areGaps 16 = .ok (.iload 6, 2) := by decide +kernel
theorem dL_areGaps_18 : decode cL_areGaps 18 = .ok (.aload_n 1, 1) := by decide +kernel
theorem dL_areGaps_19 : decode cL_areGaps 19 = .ok (.bipush 30, 2) := by decide +kernel
theorem dL_areGaps_21 : decode cL_areGaps 21 = .ok (.iload_n 2, 1) := by decide +kernel
theorem dL_areGaps_22 : decode cL_areGaps 22 = .ok (.iadd, 1) := by decide +kernel
theorem dL_areGaps_23 : decode cL_areGaps 23 = .ok (.iaload, 1) := by decide +kernel
theorem dL_areGaps_24 : decode cL_areGaps 24 = .ok (.if_icmp .lt 53, 3) := by decide +kernel
theorem dL_areGaps_27 : decode cL_areGaps 27 = .ok (.aload_n 0, 1) := by decide +kernel
theorem dL_areGaps_28 : decode cL_areGaps 28 = .ok (.iload_n 2, 1) := by decide +kernel
theorem dL_areGaps_29 : decode cL_areGaps 29 = .ok (.iload 6, 2) := by decide +kernel
theorem dL_areGaps_31 : decode cL_areGaps 31 = .ok (.iload_n 3, 1) := by decide +kernel
theorem dL_areGaps_32 : decode cL_areGaps 32 = .ok (.aload_n 1, 1) := by decide +kernel
theorem dL_areGaps_33 : decode cL_areGaps 33 = .ok (.bipush 40, 2) := by decide +kernel
theorem dL_areGaps_35 : decode cL_areGaps 35 = .ok (.iaload, 1) := by decide +kernel
theorem dL_areGaps_36 : decode cL_areGaps 36 = .ok (.invokevirtual 73, 3) := by decide +kernel
theorem dL_areGaps_39 : decode cL_areGaps 39 = .ok (.istore 7, 2) := by decide +kernel
theorem dL_areGaps_41 : decode cL_areGaps 41 = .ok (.iload 7, 2) := by decide +kernel
theorem dL_areGaps_43 : decode cL_areGaps 43 = .ok (.ifCond .ne 8, 3) := by decide +kernel
theorem dL_areGaps_46 : decode cL_areGaps 46 = .ok (.iload 6, 2) := by decide +kernel
theorem dL_areGaps_48 : decode cL_areGaps 48 = .ok (.goto 5, 3) := by decide +kernel
theorem dL_areGaps_51 : decode cL_areGaps 51 = .ok (.iload 4, 2) := by decide +kernel
theorem dL_areGaps_53 : decode cL_areGaps 53 = .ok (.istore 4, 2) := by decide +kernel
theorem dL_areGaps_55 : decode cL_areGaps 55 = .ok (.iload 5, 2) := by decide +kernel
theorem dL_areGaps_57 : decode cL_areGaps 57 = .ok (.iload 7, 2) := by decide +kernel
theorem dL_areGaps_59 : decode cL_areGaps 59 = .ok (.iconst 1, 1) := by decide +kernel
theorem dL_areGaps_60 : decode cL_areGaps 60 = .ok (.if_icmp .le 7, 3) := by decide +kernel
theorem dL_areGaps_63 : decode cL_areGaps 63 = .ok (.iconst 1, 1) := by decide +kernel
theorem dL_areGaps_64 : decode cL_areGaps 64 = .ok (.goto 4, 3) := by decide +kernel
theorem dL_areGaps_67 : decode cL_areGaps 67 = .ok (.iconst 0, 1) := by decide +kernel
theorem dL_areGaps_68 : decode cL_areGaps 68 = .ok (.iadd, 1) := by decide +kernel
theorem dL_areGaps_69 : decode cL_areGaps 69 = .ok (.istore 5, 2) := by decide +kernel
theorem dL_areGaps_71 : decode cL_areGaps 71 = .ok (.iinc 6 (-1), 3) := by decide +kernel
theorem dL_areGaps_74 : decode cL_areGaps 74 = .ok (.goto (-58), 3) := by decide +kernel
theorem dL_areGaps_77 : decode cL_areGaps 77 = .ok (.aload_n 0, 1) := by decide +kernel
theorem dL_areGaps_78 : decode cL_areGaps 78 = .ok (.iload_n 2, 1) := by decide +kernel
theorem dL_areGaps_79 : decode cL_areGaps 79 = .ok (.iload_n 3, 1) := by decide +kernel
theorem dL_areGaps_80 : decode cL_areGaps 80 = .ok (.invokevirtual 84, 3) := by decide +kernel
theorem dL_areGaps_83 : decode cL_areGaps 83 = .ok (.iload 4, 2) := by decide +kernel
theorem dL_areGaps_85 : decode cL_areGaps 85 = .ok (.if_icmp .ne 18, 3) := by decide +kernel
theorem dL_areGaps_88 : decode cL_areGaps 88 = .ok (.aload_n 0, 1) := by decide +kernel
theorem dL_areGaps_89 : decode cL_areGaps 89 = .ok (.iload_n 2, 1) := by decide +kernel
theorem dL_areGaps_90 : decode cL_areGaps 90 = .ok (.iload_n 3, 1) := by decide +kernel
theorem dL_areGaps_91 : decode cL_areGaps 91 = .ok (.invokevirtual 87, 3) := by decide +kernel
theorem dL_areGaps_94 : decode cL_areGaps 94 = .ok (.iload 5, 2) := by decide +kernel
theorem dL_areGaps_96 : decode cL_areGaps 96 = .ok (.if_icmp .ne 7, 3) := by decide +kernel
theorem dL_areGaps_99 : decode cL_areGaps 99 = .ok (.iconst 1, 1) := by decide +kernel
theorem dL_areGaps_100 : decode cL_areGaps 100 = .ok (.goto 4, 3) := by decide +kernel
theorem dL_areGaps_103 : decode cL_areGaps 103 = .ok (.iconst 0, 1) := by decide +kernel
theorem dL_areGaps_104 : decode cL_areGaps 104 = .ok (.ireturn, 1) := by decide +kernel
set_option maxRecDepth 20000 in
theorem ggL_isNeedless_X4_isNeedless : GoodIn wsL_isNeedless wsX4_isNeedless := goodIn_ca (goodIn_ca (goodIn_r _ [5, 6, 7, 8, 9, 4, 10, 11, 12, 13, 14, 15, 16, 17, 18, 19, 20, 21, 22, 23, 24, 25, 26, 27, 28, 29, 30, 31, 32, 33, 34, 35, 36, 37, 38, 39, 40, 41, 42, 43, 44, 45, 46, 47, 48, 49, 50, 51, 52, 53, 54, 55, 56, 57, 58, 59, 60, 61, 62, 63, 64, 65, 66, 67, 68, 69, 70, 71, 72, 73, 74, 75, 76, 77, 78, 79, 80, 81, 82, 83, 84, 85, 86, 87, 150, 151, 152, 153, 154, 155, 156, 157, 158, 159, 160, 161, 162, 163, 164, 165, 166, 167, 168, 169] (by decide +kernel) (by decide +kernel)) (goodIn_sub (fun _ h => List.mem_cons_of_mem _ (List.mem_append_left _ (List.mem_append_left _ (List.mem_append_right _ h)))) (by decide +kernel))) (goodIn_sub (fun _ h => List.mem_cons_of_mem _ (List.mem_append_left _ (List.mem_append_right _ h))) (by decide +kernel))
set_option maxRecDepth 20000 in
theorem gL_isNeedless_X4_isNeedless : GoodIn wsL_isNeedless (wsV RL 90 RX4 yX4_isNeedless wsX4_isNeedless) := goodIn_app (goodIn_of _ (by decide +kernel)) ggL_isNeedless_X4_isNeedless
set_option maxRecDepth 20000 in
theorem ggL_isNeedless_X4_ways : GoodIn wsL_isNeedless wsX4_ways := goodIn_ca (goodIn_ca (goodIn_ca (goodIn_r _ [91, 62, 63, 64, 4, 65, 11, 12, 6, 66, 92, 93, 94, 95, 19, 96, 97, 98, 99, 100, 101, 102, 103, 104, 13, 7, 8, 9, 10, 14, 105, 106, 107, 73, 74, 75, 24, 76, 77, 82, 83, 84, 85, 86, 22, 23, 25, 26, 27, 28, 29, 30, 31, 32, 33, 34, 35, 36, 37, 38, 39, 40, 41, 42, 43, 44, 45, 46, 47, 48, 87, 50, 51, 52, 53, 54, 55, 56, 57, 58, 59, 60, 61, 108, 109, 110, 111, 112, 113, 114, 115, 116, 117, 150, 151, 152, 153, 154, 155, 156, 157, 158, 159, 160, 161, 162, 163, 164, 165, 166, 167] (by decide +kernel) (by decide +kernel)) (goodIn_sub (fun _ h => List.mem_cons_of_mem _ (List.mem_append_left _ (List.mem_append_left _ (List.mem_append_right _ h)))) (by decide +kernel))) (goodIn_sub (fun _ h => List.mem_cons_of_mem _ (List.mem_append_right _ h)) (by decide +kernel))) (goodIn_sub (fun _ h => List.mem_cons_of_mem _ (List.mem_append_left _ (List.mem_append_right _ h))) (by decide +kernel))
set_option maxRecDepth 20000 in
theorem gL_isNeedless_X4_ways : GoodIn wsL_isNeedless (wsV RL 73 RX4 yX4_ways wsX4_ways) := goodIn_app (goodIn_of _ (by decide +kernel)) ggL_isNeedless_X4_ways
set_option maxRecDepth 20000 in
theorem ggL_isNeedless_X4_subscribe : GoodIn wsL_isNeedless wsX4_subscribe := goodIn_ca (goodIn_r _ [121, 122, 19, 123, 7, 8, 9, 4, 10, 11, 12, 13, 14, 124, 125, 126, 36, 127, 38, 40, 41, 42, 43, 44, 45, 46, 128, 129, 130, 131, 132, 133, 134, 135, 136, 137, 138, 139, 140, 141, 142, 143, 144, 145, 146, 147, 148, 149, 156, 157, 158, 159, 160, 161, 150, 151, 152, 153, 154, 155, 162, 163, 164, 165, 166, 167] (by decide +kernel) (by decide +kernel)) (goodIn_sub (fun _ h => List.mem_cons_of_mem _ (List.mem_append_left _ (List.mem_append_left _ (List.mem_append_right _ h)))) (by decide +kernel))
set_option maxRecDepth 20000 in
theorem gL_isNeedless_X4_subscribe : GoodIn wsL_isNeedless (wsV RL 34 RX4 yX4_subscribe wsX4_subscribe) := goodIn_app (goodIn_of _ (by decide +kernel)) ggL_isNeedless_X4_subscribe
theorem dL_isNeedless_0 : decode cL_isNeedless 0 = .ok (.aload_n 0, 1) := by decide +kernel
theorem dL_isNeedless_1 : decode cL_isNeedless 1 = .ok (.iload_n 2, 1) := by decide +kernel
theorem dL_isNeedless_2 : decode cL_isNeedless 2 = .ok (.invokevirtual 90, 3) := by decide +kernel
theorem dL_isNeedless_5 : decode cL_isNeedless 5 = .ok (.istore 5, 2) := by decide +kernel
theorem dL_isNeedless_7 : decode cL_isNeedless 7 = .ok (.aload_n 1, 1) := by decide +kernel
theorem dL_isNeedless_8 : decode cL_isNeedless 8 = .ok (.bipush 24, 2) := by decide +kernel
theorem dL_isNeedless_10 : decode cL_isNeedless 10 = .ok (.iload_n 2, 1) := by decide +kernel
theorem dL_isNeedless_11 : decode cL_isNeedless 11 = .ok (.iadd, 1) := by decide +kernel
theorem dL_isNeedless_12 : decode cL_isNeedless 12 = .ok (.iaload, 1) := by decide +kernel
theorem dL_isNeedless_13 : decode cL_isNeedless 13 = .ok (.ifCond .eq 8, 3) := by decide +kernel
theorem dL_isNeedless_16 : decode cL_isNeedless 16 = .ok (.iload 5, 2) := by decide +kernel
theorem dL_isNeedless_18 : decode cL_isNeedless 18 = .ok (.ifCond .ne 24, 3) := by decide +kernel
theorem dL_isNeedless_21 : decode cL_isNeedless 21 = .ok (.iload 5, 2) := by decide +kernel
theorem dL_isNeedless_23 : decode cL_isNeedless 23 = .ok (.ifCond .ne 13, 3) := by decide +kernel
theorem dL_isNeedless_26 : decode cL_isNeedless 26 = .ok (.aload_n 1, 1) := by decide +kernel
theorem dL_isNeedless_27 : decode cL_isNeedless 27 = .ok (.bipush 24, 2) := by decide +kernel
theorem dL_isNeedless_29 : decode cL_isNeedless 29 = .ok (.iload_n 2, 1) := by decide +kernel
theorem dL_isNeedless_30 : decode cL_isNeedless 30 = .ok (.iadd, 1) := by decide +kernel
theorem dL_isNeedless_31 : decode cL_isNeedless 31 = .ok (.iaload, 1) := by decide +kernel
theorem dL_isNeedless_32 : decode cL_isNeedless 32 = .ok (.iconst 1, 1) := by decide +kernel
theorem dL_isNeedless_33 : decode cL_isNeedless 33 = .ok (.if_icmp .ne 7, 3) := by decide +kernel
theorem dL_isNeedless_36 : decode cL_isNeedless 36 = .ok (.iconst 1, 1) := by decide +kernel
theorem dL_isNeedless_37 : decode cL_isNeedless 37 = .ok (.goto 4, 3) := by decide +kernel
theorem dL_isNeedless_40 : decode cL_isNeedless 40 = .ok (.iconst 0, 1) := by decide +kernel
theorem dL_isNeedless_41 : decode cL_isNeedless 41 = .ok (.ireturn, 1) := by decide +kernel
theorem dL_isNeedless_42 : decode cL_isNeedless 42 = .ok (.iconst 0, 1) := by decide +kernel
theorem dL_isNeedless_43 : decode cL_isNeedless 43 = .ok (.istore 6, 2) := by decide +kernel
theorem dL_isNeedless_45 : decode cL_isNeedless 45 = .ok (.iconst 0, 1) := by decide +kernel
theorem dL_isNeedless_46 : decode cL_isNeedless 46 = .ok (.istore 7, 2) := by decide +kernel
theorem dL_isNeedless_48 : decode cL_isNeedless 48 = .ok (.aload_n 1, 1) := by decide +kernel
theorem dL_isNeedless_49 : decode cL_isNeedless 49 = .ok (.bipush 30, 2) := by decide +kernel
theorem dL_isNeedless_51 : decode cL_isNeedless 51 = .ok (.iload_n 3, 1) := by decide +kernel
theorem dL_isNeedless_52 : decode cL_isNeedless 52 = .ok (.iadd, 1) := by decide +kernel
theorem dL_isNeedless_53 : decode cL_isNeedless 53 = .ok (.iaload, 1) := by decide +kernel
theorem dL_isNeedless_54 : decode cL_isNeedless 54 = .ok (.istore 8, 2) := by decide +kernel
theorem dL_isNeedless_56 : decode cL_isNeedless 56 = .ok (.iload 8, 2) := by decide +kernel
theorem dL_isNeedless_58 : decode cL_isNeedless 58 = .ok (.aload_n 1, 1) := by decide +kernel
theorem dL_isNeedless_59 : decode cL_isNeedless 59 = .ok (.bipush 40, 2) := by decide +kernel
theorem dL_isNeedless_61 : decode cL_isNeedless 61 = .ok (.iaload, 1) := by decide +kernel
theorem dL_isNeedless_62 : decode cL_isNeedless 62 = .ok (.sipush 360, 3) := by decide +kernel
theorem dL_isNeedless_65 : decode cL_isNeedless 65 = .ok (.idiv, 1) := by decide +kernel
theorem dL_isNeedless_66 : decode cL_isNeedless 66 = .ok (.if_icmp .gt 35, 3) := by decide +kernel
theorem dL_isNeedless_69 : decode cL_isNeedless 69 = .ok (.iload 6, 2) := by decide +kernel
theorem dL_isNeedless_71 : decode cL_isNeedless 71 = .ok (.aload_n 0, 1) := by decide +kernel
theorem dL_isNeedless_72 : decode cL_isNeedless 72 = .ok (.iload_n 3, 1) := by decide +kernel
theorem dL_isNeedless_73 : decode cL_isNeedless 73 = .ok (.iload 8, 2) := by decide +kernel
theorem dL_isNeedless_75 : decode cL_isNeedless 75 = .ok (.iload 4, 2) := by decide +kernel
theorem dL_isNeedless_77 : decode cL_isNeedless 77 = .ok (.aload_n 1, 1) := by decide +kernel
theorem dL_isNeedless_78 : decode cL_isNeedless 78 = .ok (.bipush 40, 2) := by decide +kernel
theorem dL_isNeedless_80 : decode cL_isNeedless 80 = .ok (.iaload, 1) := by decide +kernel
theorem dL_isNeedless_81 : decode cL_isNeedless 81 = .ok (.invokevirtual 73, 3) := by decide +kernel
theorem dL_isNeedless_84 : decode cL_isNeedless 84 = .ok (.ifCond .le 7, 3) := by decide +kernel
theorem dL_isNeedless_87 : decode cL_isNeedless 87 = .ok (.iconst 1, 1) := by decide +kernel
theorem dL_isNeedless_88 : decode cL_isNeedless 88 = .ok (.goto 4, 3) := by decide +kernel
theorem dL_isNeedless_91 : decode cL_isNeedless 91 = .ok (.iconst 0, 1) := by decide +kernel
theorem dL_isNeedless_92 : decode cL_isNeedless 92 = .ok (.iadd, 1) := by decide +kernel
theorem dL_isNeedless_93 : decode cL_isNeedless 93 = .ok (.istore 6, 2) := by decide +kernel
theorem dL_isNeedless_95 : decode cL_isNeedless 95 = .ok (.iinc 8 1, 3) := by decide +kernel
theorem dL_isNeedless_98 : decode cL_isNeedless 98 = .ok (.goto (-42), 3) := by decide +kernel
theorem dL_isNeedless_101 : decode cL_isNeedless 101 = .ok (.aload_n 0, 1) := by decide +kernel
theorem dL_isNeedless_102 : decode cL_isNeedless 102 = .ok (.iload_n 2, 1) := by decide +kernel
theorem dL_isNeedless_103 : decode cL_isNeedless 103 = .ok (.iconst 0, 1) := by decide +kernel
theorem dL_isNeedless_104 : decode cL_isNeedless 104 = .ok (.invokevirtual 34, 3) := by decide +kernel
theorem dL_isNeedless_107 : decode cL_isNeedless 107 = .ok (.istore 8, 2) := by decide +kernel
theorem dL_isNeedless_109 : decode cL_isNeedless 109 = .ok (.aload_n 1, 1) := by decide +kernel
theorem dL_isNeedless_110 : decode cL_isNeedless 110 = .ok (.bipush 30, 2) := by decide +kernel
theorem dL_isNeedless_112 : decode cL_isNeedless 112 = .ok (.iload_n 3, 1) := by decide +kernel
theorem dL_isNeedless_113 : decode cL_isNeedless 113 = .ok (.iadd, 1) := by decide +kernel
theorem dL_isNeedless_114 : decode cL_isNeedless 114 = .ok (.iaload, 1) := by decide +kernel
theorem dL_isNeedless_115 : decode cL_isNeedless 115 = .ok (.istore 9, 2) := by decide +kernel
theorem dL_isNeedless_117 : decode cL_isNeedless 117 = .ok (.iload 9, 2) := by decide +kernel
theorem dL_isNeedless_119 : decode cL_isNeedless 119 = .ok (.aload_n 1, 1) := by decide +kernel
theorem dL_isNeedless_120 : decode cL_isNeedless 120 = .ok (.bipush 40, 2) := by decide +kernel
theorem dL_isNeedless_122 : decode cL_isNeedless 122 = .ok (.iaload, 1) := by decide +kernel
theorem dL_isNeedless_123 : decode cL_isNeedless 123 = .ok (.sipush 360, 3) := by decide +kernel
theorem dL_isNeedless_126 : decode cL_isNeedless 126 = .ok (.idiv, 1) := by decide +kernel
theorem dL_isNeedless_127 : decode cL_isNeedless 127 = .ok (.if_icmp .gt 35, 3) := by decide +kernel
theorem dL_isNeedless_130 : decode cL_isNeedless 130 = .ok (.iload 7, 2) := by decide +kernel
theorem dL_isNeedless_132 : decode cL_isNeedless 132 = .ok (.aload_n 0, 1) := by decide +kernel
theorem dL_isNeedless_133 : decode cL_isNeedless 133 = .ok (.iload_n 3, 1) := by decide +kernel
theorem dL_isNeedless_134 : decode cL_isNeedless 134 = .ok (.iload 9, 2) := by decide +kernel
theorem dL_isNeedless_136 : decode cL_isNeedless 136 = .ok (.iload 4, 2) := by decide +kernel
theorem dL_isNeedless_138 : decode cL_isNeedless 138 = .ok (.aload_n 1, 1) := by decide +kernel
theorem dL_isNeedless_139 : decode cL_isNeedless 139 = .ok (.bipush 40, 2) := by decide +kernel
theorem dL_isNeedless_141 : decode cL_isNeedless 141 = .ok (.iaload, 1) := by decide +kernel
theorem dL_isNeedless_142 : decode cL_isNeedless 142 = .ok (.invokevirtual 73, 3) := by decide +kernel
theorem dL_isNeedless_145 : decode cL_isNeedless 145 = .ok (.ifCond .le 7, 3) := by decide +kernel
theorem dL_isNeedless_148 : decode cL_isNeedless 148 = .ok (.iconst 1, 1) := by decide +kernel
theorem dL_isNeedless_149 : decode cL_isNeedless 149 = .ok (.goto 4, 3) := by decide +kernel
theorem dL_isNeedless_152 : decode cL_isNeedless 152 = .ok (.iconst 0, 1) := by decide +kernel
theorem dL_isNeedless_153 : decode cL_isNeedless 153 = .ok (.iadd, 1) := by decide +kernel
theorem dL_isNeedless_154 : decode cL_isNeedless 154 = .ok (.istore 7, 2) := by decide +kernel
theorem dL_isNeedless_156 : decode cL_isNeedless 156 = .ok (.iinc 9 1, 3) := by decide +kernel
theorem dL_isNeedless_159 : decode cL_isNeedless 159 = .ok (.goto (-42), 3) := by decide +kernel
theorem dL_isNeedless_162 : decode cL_isNeedless 162 = .ok (.iload 8, 2) := by decide +kernel
theorem dL_isNeedless_164 : decode cL_isNeedless 164 = .ok (.ifCond .eq 23, 3) := by decide +kernel
theorem dL_isNeedless_167 : decode cL_isNeedless 167 = .ok (.iload 6, 2) := by decide +kernel
theorem dL_isNeedless_169 : decode cL_isNeedless 169 = .ok (.iload 7, 2) := by decide +kernel
theorem dL_isNeedless_171 : decode cL_isNeedless 171 = .ok (.if_icmp .ne 16, 3) := by decide +kernel
theorem dL_isNeedless_174 : decode cL_isNeedless 174 = .ok (.aload_n 0, 1) := by decide +kernel
theorem dL_isNeedless_175 : decode cL_isNeedless 175 = .ok (.iload_n 2, 1) := by decide +kernel
theorem dL_isNeedless_176 : decode cL_isNeedless 176 = .ok (.iconst 1, 1) := by decide +kernel
theorem dL_isNeedless_177 : decode cL_isNeedless 177 = .ok (.invokevirtual 34, 3) := by decide +kernel
theorem dL_isNeedless_180 : decode cL_isNeedless 180 = .ok (.ifCond .ne 7, 3) := by decide +kernel
theorem dL_isNeedless_183 : decode cL_isNeedless 183 = .ok (.iconst 1, 1) := by decide +kernel
theorem dL_isNeedless_184 : decode cL_isNeedless 184 = .ok (.goto 4, 3) := by decide +kernel
theorem dL_isNeedless_187 : decode cL_isNeedless 187 = .ok (.iconst 0, 1) := by decide +kernel
theorem dL_isNeedless_188 : decode cL_isNeedless 188 = .ok (.ireturn, 1) := by decide +kernel
set_option maxRecDepth 20000 in
theorem ggL_law_X4_init : GoodIn wsL_law wsX4_init := goodIn_r _ [6, 7, 8, 9, 10, 11, 12, 13, 14, 15, 16, 17, 310, 311, 312, 313, 314, 315] (by decide +kernel) (by decide +kernel)
set_option maxRecDepth 20000 in
theorem gL_law_X4_init : GoodIn wsL_law (wsX4_init) := ggL_law_X4_init
set_option maxRecDepth 20000 in
theorem ggL_law_X4_today : GoodIn wsL_law wsX4_today := goodIn_r _ [21, 17, 310, 311, 312, 313, 314, 315] (by decide +kernel) (by decide +kernel)
set_option maxRecDepth 20000 in
theorem gL_law_X4_today : GoodIn wsL_law (wsV RL 46 RX4 yX4_today wsX4_today) := goodIn_app (goodIn_of _ (by decide +kernel)) ggL_law_X4_today
set_option maxRecDepth 20000 in
theorem ggL_law_L_draw : GoodIn wsL_law wsL_draw := goodIn_r _ [25, 26, 27, 28] (by decide +kernel) (by decide +kernel)
set_option maxRecDepth 20000 in
theorem gL_law_L_draw : GoodIn wsL_law (va_wsS RL 95 yL_draw wsL_draw) := goodIn_app (goodIn_of _ (by decide +kernel)) ggL_law_L_draw
set_option maxRecDepth 20000 in
theorem ggL_law_L_step : GoodIn wsL_law wsL_step := goodIn_ca (goodIn_ca (goodIn_ca (goodIn_ca (goodIn_c7 (List.mem_of_getElem? (i := 31) rfl) rfl (goodIn_r _ [32, 33, 34, 2, 35, 36, 37, 15, 13, 12, 38, 39, 40, 41, 42, 43, 44, 45, 46, 47, 48, 8, 9, 49, 50, 51, 52, 53, 54, 55, 56, 57, 58, 59, 60, 61, 62, 63, 64, 65, 66, 67, 68, 17, 69, 70, 71, 72, 73, 74, 75, 76, 77, 78, 79, 80, 81, 82, 83, 84, 85, 86, 87, 88, 89, 14, 11, 10, 90, 91, 92, 93, 94, 95, 96, 97, 98, 99, 100, 101, 102, 103, 104, 105, 106, 107, 108, 109, 110, 111, 112, 113, 114, 115, 116, 117, 118, 119, 120, 121, 122, 123, 124, 125, 126, 127, 128, 129, 130, 131, 132, 133, 134, 135, 136, 16, 137, 138, 139, 140, 141, 142, 143, 144, 145, 146, 147, 148, 149, 150, 151, 152, 153, 154, 155, 156, 157, 158, 159, 160, 161, 162, 18, 19, 20, 21, 163, 164, 165, 166, 167, 168, 169, 170, 171, 172, 173, 174, 175, 176, 177, 24, 178, 310, 311, 312, 313, 314, 315, 316, 317, 318, 319, 320, 321, 322, 323, 324, 325, 326, 327, 328, 329] (by decide +kernel) (by decide +kernel))) (goodIn_sub (fun _ h => List.mem_append_left _ (List.mem_append_left _ (List.mem_append_left _ (List.mem_append_right _ h)))) (by decide +kernel))) (goodIn_sub (fun _ h => List.mem_append_left _ (List.mem_append_left _ (List.mem_append_right _ h))) (by decide +kernel))) (goodIn_sub (fun _ h => List.mem_append_left _ (List.mem_append_right _ h)) (by decide +kernel))) (goodIn_sub (fun _ h => List.mem_append_right _ h) (by decide +kernel))
set_option maxRecDepth 20000 in
theorem gL_law_L_step : GoodIn wsL_law (va_wsS RL 99 yL_step wsL_step) := goodIn_app (goodIn_of _ (by decide +kernel)) ggL_law_L_step
set_option maxRecDepth 20000 in
theorem ggL_law_L_areWays : GoodIn wsL_law wsL_areWays := goodIn_ca (goodIn_ca (goodIn_ca (goodIn_r _ [181, 182, 183, 184, 2, 185, 69, 70, 71, 72, 73, 74, 15, 13, 103, 104, 105, 106, 14, 11, 186, 187, 188, 189, 17, 40, 41, 42, 43, 44, 190, 191, 192, 193, 194, 195, 39, 196, 51, 197, 198, 199, 200, 201, 202, 203, 204, 56, 205, 124, 125, 126, 127, 57, 206, 207, 208, 55, 209, 79, 210, 80, 81, 82, 83, 62, 84, 85, 157, 158, 211, 212, 213, 214, 52, 215, 216, 217, 218, 219, 220, 221, 222, 223, 224, 225, 226, 227, 24, 228, 64, 65, 66, 67, 68, 75, 76, 77, 78, 115, 116, 117, 118, 119, 120, 121, 122, 123, 229, 230, 231, 232, 233, 234, 235, 236, 237, 238, 239, 240, 241, 242, 243, 244, 245, 246, 247, 248, 249, 250, 251, 252, 253, 254, 255, 256, 257, 258, 259, 260, 261, 262, 263, 264, 265, 266, 267, 268, 269, 310, 311, 312, 313, 314, 315, 316, 317, 318, 319, 320, 321, 324, 325, 326, 327, 322, 323] (by decide +kernel) (by decide +kernel)) (goodIn_sub (fun _ h => List.mem_append_left _ (List.mem_append_right _ h)) (by decide +kernel))) (goodIn_sub (fun _ h => List.mem_append_left _ (List.mem_append_left _ (List.mem_append_right _ h))) (by decide +kernel))) (goodIn_sub (fun _ h => List.mem_append_right _ h) (by decide +kernel))
set_option maxRecDepth 20000 in
theorem gL_law_L_areWays : GoodIn wsL_law (va_wsS RL 103 yL_areWays wsL_areWays) := goodIn_app (goodIn_of _ (by decide +kernel)) ggL_law_L_areWays
set_option maxRecDepth 20000 in
theorem ggL_law_L_areGaps : GoodIn wsL_law wsL_areGaps := goodIn_ca (goodIn_ca (goodIn_ca (goodIn_r _ [272, 229, 230, 231, 2, 232, 103, 104, 105, 106, 73, 74, 14, 11, 186, 187, 188, 189, 17, 40, 41, 42, 43, 44, 233, 234, 235, 236, 15, 69, 70, 71, 72, 13, 190, 191, 192, 193, 194, 195, 39, 196, 51, 197, 198, 199, 200, 201, 202, 203, 204, 56, 205, 124, 125, 126, 127, 57, 206, 207, 208, 55, 209, 79, 210, 80, 81, 82, 83, 62, 84, 85, 157, 158, 211, 212, 213, 214, 52, 215, 216, 217, 218, 219, 220, 221, 222, 223, 224, 225, 237, 238, 239, 240, 241, 242, 243, 273, 274, 275, 276, 277, 102, 278, 279, 280, 281, 156, 282, 283, 284, 285, 286, 287, 288, 289, 290, 291, 292, 293, 294, 295, 296, 310, 311, 312, 313, 314, 315, 316, 317, 318, 319, 320, 321, 324, 325, 326, 327, 322, 323, 328, 329] (by decide +kernel) (by decide +kernel)) (goodIn_sub (fun _ h => List.mem_append_left _ (List.mem_append_right _ h)) (by decide +kernel))) (goodIn_sub (fun _ h => List.mem_append_left _ (List.mem_append_left _ (List.mem_append_right _ h))) (by decide +kernel))) (goodIn_sub (fun _ h => List.mem_append_right _ h) (by decide +kernel))
set_option maxRecDepth 20000 in
theorem gL_law_L_areGaps : GoodIn wsL_law (va_wsS RL 107 yL_areGaps wsL_areGaps) := goodIn_app (goodIn_of _ (by decide +kernel)) ggL_law_L_areGaps
set_option maxRecDepth 20000 in
theorem ggL_law_L_isNeedless : GoodIn wsL_law wsL_isNeedless := goodIn_ca (goodIn_ca (goodIn_ca (goodIn_r _ [299, 300, 301, 302, 2, 303, 14, 69, 70, 71, 72, 73, 74, 15, 13, 304, 305, 306, 307, 17, 277, 308, 202, 203, 39, 204, 56, 205, 124, 125, 126, 127, 57, 206, 207, 208, 55, 209, 79, 210, 80, 81, 82, 83, 62, 84, 85, 157, 158, 309, 212, 213, 214, 52, 215, 216, 217, 218, 219, 220, 221, 222, 103, 104, 105, 106, 11, 278, 279, 280, 281, 102, 156, 193, 194, 195, 196, 51, 282, 283, 284, 285, 197, 198, 199, 200, 201, 211, 229, 230, 231, 232, 186, 187, 188, 189, 40, 41, 42, 43, 44, 233, 234, 235, 236, 190, 191, 192, 223, 224, 225, 237, 238, 239, 240, 241, 242, 243, 128, 129, 130, 131, 68, 132, 75, 76, 77, 78, 133, 134, 135, 136, 16, 137, 138, 139, 140, 141, 142, 143, 144, 145, 146, 147, 8, 9, 148, 149, 150, 151, 310, 311, 312, 313, 314, 315, 316, 317, 318, 319, 320, 321, 324, 325, 326, 327, 322, 323, 328, 329] (by decide +kernel) (by decide +kernel)) (goodIn_sub (fun _ h => List.mem_append_left _ (List.mem_append_right _ h)) (by decide +kernel))) (goodIn_sub (fun _ h => List.mem_append_right _ h) (by decide +kernel))) (goodIn_sub (fun _ h => List.mem_append_left _ (List.mem_append_left _ (List.mem_append_right _ h))) (by decide +kernel))
set_option maxRecDepth 20000 in
theorem gL_law_L_isNeedless : GoodIn wsL_law (va_wsS RL 110 yL_isNeedless wsL_isNeedless) := goodIn_app (goodIn_of _ (by decide +kernel)) ggL_law_L_isNeedless
theorem dL_law_0 : decode cL_law 0 = .ok (.new 11, 3) := by decide +kernel
theorem dL_law_3 : decode cL_law 3 = .ok (.dup, 1) := by decide +kernel
theorem dL_law_4 : decode cL_law 4 = .ok (.invokespecial 94, 3) := by decide +kernel
theorem dL_law_7 : decode cL_law 7 = .ok (.astore_n 1, 1) := by decide +kernel
theorem dL_law_8 : decode cL_law 8 = .ok (.bipush 41, 2) := by decide +kernel
theorem dL_law_10 : decode cL_law 10 = .ok (.newarray .int, 2) := by decide +kernel
theorem dL_law_12 : decode cL_law 12 = .ok (.astore_n 2, 1) := by decide +kernel
theorem dL_law_13 : decode cL_law 13 = .ok (.bipush 24, 2) := by decide +kernel
theorem dL_law_15 : decode cL_law 15 = .ok (.newarray .int, 2) := by decide +kernel
theorem dL_law_17 : decode cL_law 17 = .ok (.astore_n 3, 1) := by decide +kernel
theorem dL_law_18 : decode cL_law 18 = .ok (.bipush 24, 2) := by decide +kernel
theorem dL_law_20 : decode cL_law 20 = .ok (.newarray .int, 2) := by decide +kernel
theorem dL_law_22 : decode cL_law 22 = .ok (.astore 4, 2) := by decide +kernel
theorem dL_law_24 : decode cL_law 24 = .ok (.aload_n 1, 1) := by decide +kernel
theorem dL_law_25 : decode cL_law 25 = .ok (.invokevirtual 46, 3) := by decide +kernel
theorem dL_law_28 : decode cL_law 28 = .ok (.ifCond .ne 7, 3) := by decide +kernel
theorem dL_law_31 : decode cL_law 31 = .ok (.iconst 1, 1) := by decide +kernel
theorem dL_law_32 : decode cL_law 32 = .ok (.goto 4, 3) := by decide +kernel
theorem dL_law_35 : decode cL_law 35 = .ok (.iconst 0, 1) := by decide +kernel
theorem dL_law_36 : decode cL_law 36 = .ok (.istore 5, 2) := by decide +kernel
theorem dL_law_38 : decode cL_law 38 = .ok (.aload_n 0, 1) := by decide +kernel
theorem dL_law_39 : decode cL_law 39 = .ok (.arraylength, 1) := by decide +kernel
theorem dL_law_40 : decode cL_law 40 = .ok (.iconst 3, 1) := by decide +kernel
theorem dL_law_41 : decode cL_law 41 = .ok (.idiv, 1) := by decide +kernel
theorem dL_law_42 : decode cL_law 42 = .ok (.bipush 70, 2) := by decide +kernel
theorem dL_law_44 : decode cL_law 44 = .ok (.if_icmp .le 8, 3) := by decide +kernel
theorem dL_law_47 : decode cL_law 47 = .ok (.bipush 70, 2) := by decide +kernel
theorem dL_law_49 : decode cL_law 49 = .ok (.goto 7, 3) := by decide +kernel
theorem dL_law_52 : decode cL_law 52 = .ok (.aload_n 0, 1) := by decide +kernel
theorem dL_law_53 : decode cL_law 53 = .ok (.arraylength, 1) := by decide +kernel
theorem dL_law_54 : decode cL_law 54 = .ok (.iconst 3, 1) := by decide +kernel
theorem dL_law_55 : decode cL_law 55 = .ok (.idiv, 1) := by decide +kernel
theorem dL_law_56 : decode cL_law 56 = .ok (.istore 6, 2) := by decide +kernel
theorem dL_law_58 : decode cL_law 58 = .ok (.iconst 0, 1) := by decide +kernel
theorem dL_law_59 : decode cL_law 59 = .ok (.istore 7, 2) := by decide +kernel
theorem dL_law_61 : decode cL_law 61 = .ok (.iload 7, 2) := by decide +kernel
theorem dL_law_63 : decode cL_law 63 = .ok (.iload 6, 2) := by decide +kernel
theorem dL_law_65 : decode cL_law 65 = .ok (.if_icmp .ge 220, 3) := by decide +kernel
theorem dL_law_68 : decode cL_law 68 = .ok (.iload 5, 2) := by decide +kernel
theorem dL_law_70 : decode cL_law 70 = .ok (.ifCond .eq 215, 3) := by decide +kernel
theorem dL_law_73 : decode cL_law 73 = .ok (.aload_n 0, 1) := by decide +kernel
theorem dL_law_74 : decode cL_law 74 = .ok (.iconst 3, 1) := by decide +kernel
theorem dL_law_75 : decode cL_law 75 = .ok (.iload 7, 2) := by decide +kernel
theorem dL_law_77 : decode cL_law 77 = .ok (.imul, 1) := by decide +kernel
theorem dL_law_78 : decode cL_law 78 = .ok (.iconst 1, 1) := by decide +kernel
theorem dL_law_79 : decode cL_law 79 = .ok (.iadd, 1) := by decide +kernel
theorem dL_law_80 : decode cL_law 80 = .ok (.invokestatic 95, 3) := by decide +kernel
theorem dL_law_83 : decode cL_law 83 = .ok (.istore 8, 2) := by decide +kernel
theorem dL_law_85 : decode cL_law 85 = .ok (.aload_n 0, 1) := by decide +kernel
theorem dL_law_86 : decode cL_law 86 = .ok (.iconst 3, 1) := by decide +kernel
theorem dL_law_87 : decode cL_law 87 = .ok (.iload 7, 2) := by decide +kernel
theorem dL_law_89 : decode cL_law 89 = .ok (.imul, 1) := by decide +kernel
theorem dL_law_90 : decode cL_law 90 = .ok (.iconst 2, 1) := by decide +kernel
theorem dL_law_91 : decode cL_law 91 = .ok (.iadd, 1) := by decide +kernel
theorem dL_law_92 : decode cL_law 92 = .ok (.invokestatic 95, 3) := by decide +kernel
theorem dL_law_95 : decode cL_law 95 = .ok (.istore 9, 2) := by decide +kernel
theorem dL_law_97 : decode cL_law 97 = .ok (.aload_n 1, 1) := by decide +kernel
theorem dL_law_98 : decode cL_law 98 = .ok (.aload_n 2, 1) := by decide +kernel
theorem dL_law_99 : decode cL_law 99 = .ok (.aload_n 3, 1) := by decide +kernel
theorem dL_law_100 : decode cL_law 100 = .ok (.aload 4, 2) := by decide +kernel
theorem dL_law_102 : decode cL_law 102 = .ok (.aload_n 0, 1) := by decide +kernel
theorem dL_law_103 : decode cL_law 103 = .ok (.iconst 3, 1) := by decide +kernel
theorem dL_law_104 : decode cL_law 104 = .ok (.iload 7, 2) := by decide +kernel
theorem dL_law_106 : decode cL_law 106 = .ok (.imul, 1) := by decide +kernel
theorem dL_law_107 : decode cL_law 107 = .ok (.invokestatic 95, 3) := by decide +kernel
theorem dL_law_110 : decode cL_law 110 = .ok (.iload 8, 2) := by decide +kernel
theorem dL_law_112 : decode cL_law 112 = .ok (.iload 9, 2) := by decide +kernel
theorem dL_law_114 : decode cL_law 114 = .ok (.invokestatic 99, 3) := by decide +kernel
theorem dL_law_117 : decode cL_law 117 = .ok (.istore 5, 2) := by decide +kernel
theorem dL_law_119 : decode cL_law 119 = .ok (.iload 5, 2) := by decide +kernel
theorem dL_law_121 : decode cL_law 121 = .ok (.ifCond .eq 158, 3) := by decide +kernel
theorem dL_law_124 : decode cL_law 124 = .ok (.iload 7, 2) := by decide +kernel
theorem dL_law_126 : decode cL_law 126 = .ok (.iconst 4, 1) := by decide +kernel
theorem dL_law_127 : decode cL_law 127 = .ok (.irem, 1) := by decide +kernel
theorem dL_law_128 : decode cL_law 128 = .ok (.iconst 3, 1) := by decide +kernel
theorem dL_law_129 : decode cL_law 129 = .ok (.if_icmp .ne 150, 3) := by decide +kernel
theorem dL_law_132 : decode cL_law 132 = .ok (.aload_n 2, 1) := by decide +kernel
theorem dL_law_133 : decode cL_law 133 = .ok (.bipush 38, 2) := by decide +kernel
theorem dL_law_135 : decode cL_law 135 = .ok (.iaload, 1) := by decide +kernel
theorem dL_law_136 : decode cL_law 136 = .ok (.ifCond .le 143, 3) := by decide +kernel
theorem dL_law_139 : decode cL_law 139 = .ok (.aload_n 2, 1) := by decide +kernel
theorem dL_law_140 : decode cL_law 140 = .ok (.bipush 39, 2) := by decide +kernel
theorem dL_law_142 : decode cL_law 142 = .ok (.iaload, 1) := by decide +kernel
theorem dL_law_143 : decode cL_law 143 = .ok (.ifCond .le 136, 3) := by decide +kernel
theorem dL_law_146 : decode cL_law 146 = .ok (.iload 9, 2) := by decide +kernel
theorem dL_law_148 : decode cL_law 148 = .ok (.aload_n 2, 1) := by decide +kernel
theorem dL_law_149 : decode cL_law 149 = .ok (.bipush 39, 2) := by decide +kernel
theorem dL_law_151 : decode cL_law 151 = .ok (.iaload, 1) := by decide +kernel
theorem dL_law_152 : decode cL_law 152 = .ok (.irem, 1) := by decide +kernel
theorem dL_law_153 : decode cL_law 153 = .ok (.istore 10, 2) := by decide +kernel
theorem dL_law_155 : decode cL_law 155 = .ok (.iload 8, 2) := by decide +kernel
theorem dL_law_157 : decode cL_law 157 = .ok (.iload 9, 2) := by decide +kernel
theorem dL_law_159 : decode cL_law 159 = .ok (.iconst 3, 1) := by decide +kernel
theorem dL_law_160 : decode cL_law 160 = .ok (.irem, 1) := by decide +kernel
theorem dL_law_161 : decode cL_law 161 = .ok (.ifCond .ne 8, 3) := by decide +kernel
theorem dL_law_164 : decode cL_law 164 = .ok (.bipush 56, 2) := by decide +kernel
theorem dL_law_166 : decode cL_law 166 = .ok (.goto 13, 3) := by decide +kernel
theorem dL_law_169 : decode cL_law 169 = .ok (.iconst 1, 1) := by decide +kernel
theorem dL_law_170 : decode cL_law 170 = .ok (.aload_n 2, 1) := by decide +kernel
theorem dL_law_171 : decode cL_law 171 = .ok (.bipush 40, 2) := by decide +kernel
theorem dL_law_173 : decode cL_law 173 = .ok (.iaload, 1) := by decide +kernel
theorem dL_law_174 : decode cL_law 174 = .ok (.sipush 360, 3) := by decide +kernel
theorem dL_law_177 : decode cL_law 177 = .ok (.idiv, 1) := by decide +kernel
theorem dL_law_178 : decode cL_law 178 = .ok (.iadd, 1) := by decide +kernel
theorem dL_law_179 : decode cL_law 179 = .ok (.irem, 1) := by decide +kernel
theorem dL_law_180 : decode cL_law 180 = .ok (.istore 11, 2) := by decide +kernel
theorem dL_law_182 : decode cL_law 182 = .ok (.aload_n 1, 1) := by decide +kernel
theorem dL_law_183 : decode cL_law 183 = .ok (.aload_n 2, 1) := by decide +kernel
theorem dL_law_184 : decode cL_law 184 = .ok (.aload_n 3, 1) := by decide +kernel
theorem dL_law_185 : decode cL_law 185 = .ok (.aload 4, 2) := by decide +kernel
theorem dL_law_187 : decode cL_law 187 = .ok (.iload 10, 2) := by decide +kernel
theorem dL_law_189 : decode cL_law 189 = .ok (.iload 11, 2) := by decide +kernel
theorem dL_law_191 : decode cL_law 191 = .ok (.iload 9, 2) := by decide +kernel
theorem dL_law_193 : decode cL_law 193 = .ok (.iconst 3, 1) := by decide +kernel
theorem dL_law_194 : decode cL_law 194 = .ok (.idiv, 1) := by decide +kernel
theorem dL_law_195 : decode cL_law 195 = .ok (.iconst 4, 1) := by decide +kernel
theorem dL_law_196 : decode cL_law 196 = .ok (.irem, 1) := by decide +kernel
theorem dL_law_197 : decode cL_law 197 = .ok (.aload_n 2, 1) := by decide +kernel
theorem dL_law_198 : decode cL_law 198 = .ok (.bipush 40, 2) := by decide +kernel
theorem dL_law_200 : decode cL_law 200 = .ok (.iaload, 1) := by decide +kernel
theorem dL_law_201 : decode cL_law 201 = .ok (.invokestatic 103, 3) := by decide +kernel
theorem dL_law_204 : decode cL_law 204 = .ok (.ifCond .eq 72, 3) := by decide +kernel
theorem dL_law_207 : decode cL_law 207 = .ok (.aload_n 1, 1) := by decide +kernel
theorem dL_law_208 : decode cL_law 208 = .ok (.aload_n 2, 1) := by decide +kernel
theorem dL_law_209 : decode cL_law 209 = .ok (.aload_n 3, 1) := by decide +kernel
theorem dL_law_210 : decode cL_law 210 = .ok (.aload 4, 2) := by decide +kernel
theorem dL_law_212 : decode cL_law 212 = .ok (.iload 10, 2) := by decide +kernel
theorem dL_law_214 : decode cL_law 214 = .ok (.iload 11, 2) := by decide +kernel
theorem dL_law_216 : decode cL_law 216 = .ok (.iload 9, 2) := by decide +kernel
theorem dL_law_218 : decode cL_law 218 = .ok (.iconst 3, 1) := by decide +kernel
theorem dL_law_219 : decode cL_law 219 = .ok (.idiv, 1) := by decide +kernel
theorem dL_law_220 : decode cL_law 220 = .ok (.iconst 4, 1) := by decide +kernel
theorem dL_law_221 : decode cL_law 221 = .ok (.irem, 1) := by decide +kernel
theorem dL_law_222 : decode cL_law 222 = .ok (.iload 8, 2) := by decide +kernel
theorem dL_law_224 : decode cL_law 224 = .ok (.aload_n 2, 1) := by decide +kernel
theorem dL_law_225 : decode cL_law 225 = .ok (.bipush 40, 2) := by decide +kernel
theorem dL_law_227 : decode cL_law 227 = .ok (.iaload, 1) := by decide +kernel
theorem dL_law_228 : decode cL_law 228 = .ok (.iconst 1, 1) := by decide +kernel
theorem dL_law_229 : decode cL_law 229 = .ok (.iadd, 1) := by decide +kernel
theorem dL_law_230 : decode cL_law 230 = .ok (.irem, 1) := by decide +kernel
theorem dL_law_231 : decode cL_law 231 = .ok (.invokestatic 103, 3) := by decide +kernel
theorem dL_law_234 : decode cL_law 234 = .ok (.ifCond .eq 42, 3) := by decide +kernel
theorem dL_law_237 : decode cL_law 237 = .ok (.aload_n 1, 1) := by decide +kernel
theorem dL_law_238 : decode cL_law 238 = .ok (.aload_n 2, 1) := by decide +kernel
theorem dL_law_239 : decode cL_law 239 = .ok (.iload 10, 2) := by decide +kernel
theorem dL_law_241 : decode cL_law 241 = .ok (.iload 8, 2) := by decide +kernel
theorem dL_law_243 : decode cL_law 243 = .ok (.iconst 4, 1) := by decide +kernel
theorem dL_law_244 : decode cL_law 244 = .ok (.irem, 1) := by decide +kernel
theorem dL_law_245 : decode cL_law 245 = .ok (.invokestatic 107, 3) := by decide +kernel
theorem dL_law_248 : decode cL_law 248 = .ok (.ifCond .eq 28, 3) := by decide +kernel
theorem dL_law_251 : decode cL_law 251 = .ok (.aload_n 1, 1) := by decide +kernel
theorem dL_law_252 : decode cL_law 252 = .ok (.aload_n 2, 1) := by decide +kernel
theorem dL_law_253 : decode cL_law 253 = .ok (.iload 8, 2) := by decide +kernel
theorem dL_law_255 : decode cL_law 255 = .ok (.aload_n 2, 1) := by decide +kernel
theorem dL_law_256 : decode cL_law 256 = .ok (.bipush 38, 2) := by decide +kernel
theorem dL_law_258 : decode cL_law 258 = .ok (.iaload, 1) := by decide +kernel
theorem dL_law_259 : decode cL_law 259 = .ok (.irem, 1) := by decide +kernel
theorem dL_law_260 : decode cL_law 260 = .ok (.iload 10, 2) := by decide +kernel
theorem dL_law_262 : decode cL_law 262 = .ok (.iload 9, 2) := by decide +kernel
theorem dL_law_264 : decode cL_law 264 = .ok (.iconst 4, 1) := by decide +kernel
theorem dL_law_265 : decode cL_law 265 = .ok (.irem, 1) := by decide +kernel
theorem dL_law_266 : decode cL_law 266 = .ok (.invokestatic 110, 3) := by decide +kernel
theorem dL_law_269 : decode cL_law 269 = .ok (.ifCond .eq 7, 3) := by decide +kernel
theorem dL_law_272 : decode cL_law 272 = .ok (.iconst 1, 1) := by decide +kernel
theorem dL_law_273 : decode cL_law 273 = .ok (.goto 4, 3) := by decide +kernel
theorem dL_law_276 : decode cL_law 276 = .ok (.iconst 0, 1) := by decide +kernel
theorem dL_law_277 : decode cL_law 277 = .ok (.istore 5, 2) := by decide +kernel
theorem dL_law_279 : decode cL_law 279 = .ok (.iinc 7 1, 3) := by decide +kernel
theorem dL_law_282 : decode cL_law 282 = .ok (.goto (-221), 3) := by decide +kernel
theorem dL_law_285 : decode cL_law 285 = .ok (.iload 5, 2) := by decide +kernel
theorem dL_law_287 : decode cL_law 287 = .ok (.ireturn, 1) := by decide +kernel
abbrev vwCl : List vw_C := [(RX0, TX0, 4), (RX1, TX1, 2), (RX2, TX2, 6), (RX3, TX3, 2), (RX4, TX4, 6)]
end
