section
-- ===== PART A: goes FIRST, ahead of the names: the tables' words, and 'selects' of the private methods out of them =====
/-- a private method of a class that the tables say can be made, by its rows of tables_1 -/
def lw_okq (q : MethodName × Nat) : Prop := (q.1.cls ≠ "java/lang/invoke/MethodHandle" ∧ q.1.cls ≠ "java/lang/invoke/VarHandle") ∧ Cond.instantiable q.1.cls q.2 ∈ tables_1 ∧ Cond.privateMethod q.1 ∈ tables_1 ∧ Cond.instanceMethod q.1 ∈ tables_1
theorem lw_p0 : lw_okq (⟨"java/lang/Throwable", "fillInStackTrace", "(I)Ljava/lang/Throwable;"⟩, 6) := ⟨⟨by decide +kernel, by decide +kernel⟩, List.mem_of_getElem? (i := 102) (by decide +kernel), List.mem_of_getElem? (i := 100) (by decide +kernel), List.mem_of_getElem? (i := 101) (by decide +kernel)⟩
theorem lw_p1 : lw_okq (⟨"LinkResolver", "existingTitle", "(I)LLinkResolver$Title;"⟩, 6) := ⟨⟨by decide +kernel, by decide +kernel⟩, List.mem_of_getElem? (i := 17) (by decide +kernel), List.mem_of_getElem? (i := 169) (by decide +kernel), List.mem_of_getElem? (i := 170) (by decide +kernel)⟩
theorem lw_p2 : lw_okq (⟨"LinkResolver", "existingPack", "(I)LLinkResolver$Pack;"⟩, 6) := ⟨⟨by decide +kernel, by decide +kernel⟩, List.mem_of_getElem? (i := 17) (by decide +kernel), List.mem_of_getElem? (i := 258) (by decide +kernel), List.mem_of_getElem? (i := 259) (by decide +kernel)⟩
theorem lw_p3 : lw_okq (⟨"LinkResolver", "change", "(LLinkResolver$History;JI)V"⟩, 6) := ⟨⟨by decide +kernel, by decide +kernel⟩, List.mem_of_getElem? (i := 17) (by decide +kernel), List.mem_of_getElem? (i := 272) (by decide +kernel), List.mem_of_getElem? (i := 273) (by decide +kernel)⟩
theorem lw_p4 : lw_okq (⟨"LinkResolver", "existingStay", "(II)LLinkResolver$History;"⟩, 6) := ⟨⟨by decide +kernel, by decide +kernel⟩, List.mem_of_getElem? (i := 17) (by decide +kernel), List.mem_of_getElem? (i := 310) (by decide +kernel), List.mem_of_getElem? (i := 311) (by decide +kernel)⟩
theorem lw_p5 : lw_okq (⟨"LinkResolver", "checkArticle", "(III)V"⟩, 6) := ⟨⟨by decide +kernel, by decide +kernel⟩, List.mem_of_getElem? (i := 17) (by decide +kernel), List.mem_of_getElem? (i := 375) (by decide +kernel), List.mem_of_getElem? (i := 376) (by decide +kernel)⟩
theorem lw_p6 : lw_okq (⟨"LinkResolver", "waysTo", "(IIII)I"⟩, 6) := ⟨⟨by decide +kernel, by decide +kernel⟩, List.mem_of_getElem? (i := 17) (by decide +kernel), List.mem_of_getElem? (i := 421) (by decide +kernel), List.mem_of_getElem? (i := 422) (by decide +kernel)⟩
theorem lw_p7 : lw_okq (⟨"LinkResolver", "placeAmong", "(III)I"⟩, 6) := ⟨⟨by decide +kernel, by decide +kernel⟩, List.mem_of_getElem? (i := 17) (by decide +kernel), List.mem_of_getElem? (i := 441) (by decide +kernel), List.mem_of_getElem? (i := 442) (by decide +kernel)⟩
theorem lw_p8 : lw_okq (⟨"LinkResolver", "isAhead", "(III)Z"⟩, 6) := ⟨⟨by decide +kernel, by decide +kernel⟩, List.mem_of_getElem? (i := 17) (by decide +kernel), List.mem_of_getElem? (i := 445) (by decide +kernel), List.mem_of_getElem? (i := 446) (by decide +kernel)⟩
theorem lw_p9 : lw_okq (⟨"LinkResolver", "yearsSoFar", "(LLinkResolver$Title;)J"⟩, 6) := ⟨⟨by decide +kernel, by decide +kernel⟩, List.mem_of_getElem? (i := 17) (by decide +kernel), List.mem_of_getElem? (i := 461) (by decide +kernel), List.mem_of_getElem? (i := 462) (by decide +kernel)⟩
theorem lw_p10 : lw_okq (⟨"LinkResolver", "yearsCoveredButBy", "(III)J"⟩, 6) := ⟨⟨by decide +kernel, by decide +kernel⟩, List.mem_of_getElem? (i := 17) (by decide +kernel), List.mem_of_getElem? (i := 465) (by decide +kernel), List.mem_of_getElem? (i := 466) (by decide +kernel)⟩
theorem lw_p11 : lw_okq (⟨"LinkResolver", "isLostWithout", "(II)Z"⟩, 6) := ⟨⟨by decide +kernel, by decide +kernel⟩, List.mem_of_getElem? (i := 17) (by decide +kernel), List.mem_of_getElem? (i := 490) (by decide +kernel), List.mem_of_getElem? (i := 491) (by decide +kernel)⟩
theorem lw_p12 : lw_okq (⟨"LinkResolverModel", "holds", "(I)Z"⟩, 18) := ⟨⟨by decide +kernel, by decide +kernel⟩, List.mem_of_getElem? (i := 496) (by decide +kernel), List.mem_of_getElem? (i := 570) (by decide +kernel), List.mem_of_getElem? (i := 571) (by decide +kernel)⟩
theorem lw_p13 : lw_okq (⟨"LinkResolverModel", "isTitle", "(I)Z"⟩, 18) := ⟨⟨by decide +kernel, by decide +kernel⟩, List.mem_of_getElem? (i := 496) (by decide +kernel), List.mem_of_getElem? (i := 578) (by decide +kernel), List.mem_of_getElem? (i := 579) (by decide +kernel)⟩
theorem lw_p14 : lw_okq (⟨"LinkResolverModel", "isPackage", "(I)Z"⟩, 18) := ⟨⟨by decide +kernel, by decide +kernel⟩, List.mem_of_getElem? (i := 496) (by decide +kernel), List.mem_of_getElem? (i := 594) (by decide +kernel), List.mem_of_getElem? (i := 595) (by decide +kernel)⟩
theorem lw_p15 : lw_okq (⟨"LinkResolverModel", "notes", "(IZIII)Z"⟩, 18) := ⟨⟨by decide +kernel, by decide +kernel⟩, List.mem_of_getElem? (i := 496) (by decide +kernel), List.mem_of_getElem? (i := 601) (by decide +kernel), List.mem_of_getElem? (i := 602) (by decide +kernel)⟩
def lw_privs_1 : List (MethodName × Nat) := [(⟨"java/lang/Throwable", "fillInStackTrace", "(I)Ljava/lang/Throwable;"⟩, 6), (⟨"LinkResolver", "existingTitle", "(I)LLinkResolver$Title;"⟩, 6), (⟨"LinkResolver", "existingPack", "(I)LLinkResolver$Pack;"⟩, 6), (⟨"LinkResolver", "change", "(LLinkResolver$History;JI)V"⟩, 6), (⟨"LinkResolver", "existingStay", "(II)LLinkResolver$History;"⟩, 6), (⟨"LinkResolver", "checkArticle", "(III)V"⟩, 6), (⟨"LinkResolver", "waysTo", "(IIII)I"⟩, 6), (⟨"LinkResolver", "placeAmong", "(III)I"⟩, 6), (⟨"LinkResolver", "isAhead", "(III)Z"⟩, 6), (⟨"LinkResolver", "yearsSoFar", "(LLinkResolver$Title;)J"⟩, 6), (⟨"LinkResolver", "yearsCoveredButBy", "(III)J"⟩, 6), (⟨"LinkResolver", "isLostWithout", "(II)Z"⟩, 6), (⟨"LinkResolverModel", "holds", "(I)Z"⟩, 18), (⟨"LinkResolverModel", "isTitle", "(I)Z"⟩, 18), (⟨"LinkResolverModel", "isPackage", "(I)Z"⟩, 18), (⟨"LinkResolverModel", "notes", "(IZIII)Z"⟩, 18)]
theorem lw_r1 : ∀ q ∈ lw_privs_1, lw_okq q := List.forall_mem_cons.mpr ⟨lw_p0, List.forall_mem_cons.mpr ⟨lw_p1, List.forall_mem_cons.mpr ⟨lw_p2, List.forall_mem_cons.mpr ⟨lw_p3, List.forall_mem_cons.mpr ⟨lw_p4, List.forall_mem_cons.mpr ⟨lw_p5, List.forall_mem_cons.mpr ⟨lw_p6, List.forall_mem_cons.mpr ⟨lw_p7, List.forall_mem_cons.mpr ⟨lw_p8, List.forall_mem_cons.mpr ⟨lw_p9, List.forall_mem_cons.mpr ⟨lw_p10, List.forall_mem_cons.mpr ⟨lw_p11, List.forall_mem_cons.mpr ⟨lw_p12, List.forall_mem_cons.mpr ⟨lw_p13, List.forall_mem_cons.mpr ⟨lw_p14, List.forall_mem_cons.mpr ⟨lw_p15, fun _ h => absurd h List.not_mem_nil⟩⟩⟩⟩⟩⟩⟩⟩⟩⟩⟩⟩⟩⟩⟩⟩
theorem lw_p16 : lw_okq (⟨"LinkResolverModel", "changeOn", "(II)I"⟩, 18) := ⟨⟨by decide +kernel, by decide +kernel⟩, List.mem_of_getElem? (i := 496) (by decide +kernel), List.mem_of_getElem? (i := 605) (by decide +kernel), List.mem_of_getElem? (i := 606) (by decide +kernel)⟩
theorem lw_p17 : lw_okq (⟨"LinkResolverModel", "isSo", "(II)Z"⟩, 18) := ⟨⟨by decide +kernel, by decide +kernel⟩, List.mem_of_getElem? (i := 496) (by decide +kernel), List.mem_of_getElem? (i := 617) (by decide +kernel), List.mem_of_getElem? (i := 618) (by decide +kernel)⟩
theorem lw_p18 : lw_okq (⟨"LinkResolverModel", "isAsked", "(III)Z"⟩, 18) := ⟨⟨by decide +kernel, by decide +kernel⟩, List.mem_of_getElem? (i := 496) (by decide +kernel), List.mem_of_getElem? (i := 649) (by decide +kernel), List.mem_of_getElem? (i := 650) (by decide +kernel)⟩
theorem lw_p19 : lw_okq (⟨"LinkResolverModel", "lets", "(II)Z"⟩, 18) := ⟨⟨by decide +kernel, by decide +kernel⟩, List.mem_of_getElem? (i := 496) (by decide +kernel), List.mem_of_getElem? (i := 653) (by decide +kernel), List.mem_of_getElem? (i := 654) (by decide +kernel)⟩
theorem lw_p20 : lw_okq (⟨"LinkResolverModel", "isCovered", "(IIII)Z"⟩, 18) := ⟨⟨by decide +kernel, by decide +kernel⟩, List.mem_of_getElem? (i := 496) (by decide +kernel), List.mem_of_getElem? (i := 657) (by decide +kernel), List.mem_of_getElem? (i := 658) (by decide +kernel)⟩
theorem lw_p21 : lw_okq (⟨"LinkResolverModel", "has", "(IIIII)Z"⟩, 18) := ⟨⟨by decide +kernel, by decide +kernel⟩, List.mem_of_getElem? (i := 496) (by decide +kernel), List.mem_of_getElem? (i := 661) (by decide +kernel), List.mem_of_getElem? (i := 662) (by decide +kernel)⟩
theorem lw_p22 : lw_okq (⟨"LinkResolverModel", "isKept", "(IIII)Z"⟩, 18) := ⟨⟨by decide +kernel, by decide +kernel⟩, List.mem_of_getElem? (i := 496) (by decide +kernel), List.mem_of_getElem? (i := 665) (by decide +kernel), List.mem_of_getElem? (i := 666) (by decide +kernel)⟩
theorem lw_p23 : lw_okq (⟨"LinkResolverModel", "waysTo", "(IIII)I"⟩, 18) := ⟨⟨by decide +kernel, by decide +kernel⟩, List.mem_of_getElem? (i := 496) (by decide +kernel), List.mem_of_getElem? (i := 673) (by decide +kernel), List.mem_of_getElem? (i := 674) (by decide +kernel)⟩
theorem lw_p24 : lw_okq (⟨"LinkResolverModel", "isAhead", "(III)Z"⟩, 18) := ⟨⟨by decide +kernel, by decide +kernel⟩, List.mem_of_getElem? (i := 496) (by decide +kernel), List.mem_of_getElem? (i := 681) (by decide +kernel), List.mem_of_getElem? (i := 682) (by decide +kernel)⟩
theorem lw_p25 : lw_okq (⟨"LinkResolverModel", "isOfTitle", "(II)Z"⟩, 18) := ⟨⟨by decide +kernel, by decide +kernel⟩, List.mem_of_getElem? (i := 496) (by decide +kernel), List.mem_of_getElem? (i := 689) (by decide +kernel), List.mem_of_getElem? (i := 690) (by decide +kernel)⟩
theorem lw_p26 : lw_okq (⟨"LinkResolverModel", "othersFor", "(III)I"⟩, 18) := ⟨⟨by decide +kernel, by decide +kernel⟩, List.mem_of_getElem? (i := 496) (by decide +kernel), List.mem_of_getElem? (i := 701) (by decide +kernel), List.mem_of_getElem? (i := 702) (by decide +kernel)⟩
def lw_privs_2 : List (MethodName × Nat) := [(⟨"LinkResolverModel", "changeOn", "(II)I"⟩, 18), (⟨"LinkResolverModel", "isSo", "(II)Z"⟩, 18), (⟨"LinkResolverModel", "isAsked", "(III)Z"⟩, 18), (⟨"LinkResolverModel", "lets", "(II)Z"⟩, 18), (⟨"LinkResolverModel", "isCovered", "(IIII)Z"⟩, 18), (⟨"LinkResolverModel", "has", "(IIIII)Z"⟩, 18), (⟨"LinkResolverModel", "isKept", "(IIII)Z"⟩, 18), (⟨"LinkResolverModel", "waysTo", "(IIII)I"⟩, 18), (⟨"LinkResolverModel", "isAhead", "(III)Z"⟩, 18), (⟨"LinkResolverModel", "isOfTitle", "(II)Z"⟩, 18), (⟨"LinkResolverModel", "othersFor", "(III)I"⟩, 18)]
theorem lw_r2 : ∀ q ∈ lw_privs_2, lw_okq q := List.forall_mem_cons.mpr ⟨lw_p16, List.forall_mem_cons.mpr ⟨lw_p17, List.forall_mem_cons.mpr ⟨lw_p18, List.forall_mem_cons.mpr ⟨lw_p19, List.forall_mem_cons.mpr ⟨lw_p20, List.forall_mem_cons.mpr ⟨lw_p21, List.forall_mem_cons.mpr ⟨lw_p22, List.forall_mem_cons.mpr ⟨lw_p23, List.forall_mem_cons.mpr ⟨lw_p24, List.forall_mem_cons.mpr ⟨lw_p25, List.forall_mem_cons.mpr ⟨lw_p26, fun _ h => absurd h List.not_mem_nil⟩⟩⟩⟩⟩⟩⟩⟩⟩⟩⟩
def lw_privs : List (MethodName × Nat) := lw_privs_1 ++ (lw_privs_2)
def lw_tbl : List Cond := k2_sels lw_privs ++ tables_1
theorem lw_privs_ok : ∀ q ∈ lw_privs, lw_okq q := by
  show ∀ q ∈ lw_privs_1 ++ (lw_privs_2), lw_okq q
  exact List.forall_mem_append.mpr ⟨lw_r1, lw_r2⟩
end
section
/-! ===== BEGIN words of one list among another's, by their places ===== -/
theorem goodIn_r {big : List Cond} (ws : List Cond) (ps : List Nat) (hp : ws = ps.filterMap (fun i => big[i]?)) (h : ws.all goodWord = true) : GoodIn big ws := by
  intro w hw
  have h1 := List.all_eq_true.mp h w hw
  rw [hp] at hw
  obtain ⟨i, -, hi⟩ := List.mem_filterMap.mp hw
  have hm : w ∈ big := by first | exact List.mem_of_getElem? hi | exact List.getElem?_mem hi
  exact ⟨hm, good_of_word h1⟩
theorem goodIn_app {big a b : List Cond} (ha : GoodIn big a) (hb : GoodIn big b) : GoodIn big (a ++ b) := fun w h => (List.mem_append.mp h).elim (ha w) (hb w)
theorem goodIn_ca {big a b : List Cond} {c : Cond} (ha : GoodIn big (c :: a)) (hb : GoodIn big b) : GoodIn big (c :: (a ++ b)) := fun w h => (List.mem_cons.mp h).elim (fun e => ha w (List.mem_cons.mpr (Or.inl e))) (fun h => (List.mem_append.mp h).elim (fun h => ha w (List.mem_cons.mpr (Or.inr h))) (hb w))
theorem goodIn_sub {big ws : List Cond} (hm : ∀ w ∈ ws, w ∈ big) (h : ws.all goodWord = true) : GoodIn big ws := fun w hw => ⟨hm w hw, good_of_word (List.all_eq_true.mp h w hw)⟩
/-! ===== END ===== -/

/-! ===== BEGIN exceptions that leave a method, and their catching by the caller (launches without stack traces) ===== -/
section VXA
/-! The laws vx_back, vx_callV, vx_callS, vx_callSW, vx_throw0, vx_throwS follow proofs of the library, with one case more: JvmDerived/Free/Laws.lean (Back.of_free), Shelf42/LK1.lean (callV, callS), Shelf/KitTraced.lean (throwNew0V, throwNewS). -/
/-- where a method has thrown q: the class by its name, the cell, what was written, the world -/
def vx_T (XC : String → State → State → Prop) (st : State) (q : Addr) (t : State) (mc ms : Nat) (free : Addr → Prop) : Prop :=
  ∃ (E : String) (ce : Cell) (L : List Loc), XC E st t ∧ t.heap[q]? = some ce ∧ ce.vm = .none ∧ st.vm.findClass E = some ce.cls ∧ st.WarmedH t.vm ∧ st.sameButNew ({ t with vm := st.vm } : State) L mc ms ∧ ∀ z ∈ L, free z.base
def vx_Q (Qc : Array Value → State → Outcome → State → Prop) (XC : String → State → State → Prop) (mc ms : Nat) (free : Addr → Prop) : Array Value → State → Outcome → State → Prop := fun a st o t =>
  (Qc a st o t ∧ ∃ L, FrameEnd st o t L mc ms ∧ ∀ q ∈ L, free q.base) ∨ ∃ q, o = .threw q ∧ vx_T XC st q t mc ms free
/-- a callee that returns or throws -/
def vx_Met (l : Launch) (y : MethodName) (ws : List Cond) (rm : Room) (Pc : Array Value → State → Prop) (Qc : Array Value → State → Outcome → State → Prop) (XC : String → State → State → Prop) (mc ms : Nat) (free : Addr → Prop) : Prop :=
  MetFree l y (headSpec ws rm) Pc (fun _ _ _ _ _ => True) (vx_Q Qc XC mc ms free)
def vx_Post (XC : String → State → State → Prop) (mc ms : Nat) (free : Addr → Prop) : Pt → Array Value → Addr → Pt → Prop := fun A a q B =>
  ∃ (g : JFrame) (mk : MethodId) (t : State) (L : List Loc) (E : String) (ce : Cell), B.U.heap = t.heap ∧ B.U.vm = t.vm ∧ XC E (A.U.calling g mk a) t ∧ t.heap[q]? = some ce ∧ ce.vm = .none ∧ A.U.vm.findClass E = some ce.cls ∧ B.locs = A.locs ++ L ∧ (∀ z ∈ L, free z.base) ∧ B.cells = A.cells + mc ∧ B.slots = A.slots + ms
def vx_Back (l : Launch) (R : Room) (p : Program) (e : Env) (below : List Frame) (s : State) (sargs : Array Value) (y : MethodName) (len W9 : Nat)
    (Pre : Pt → Array Value → Prop) (Post : Pt → Array Value → Option Value → Pt → Prop) (PostX : Pt → Array Value → Addr → Pt → Prop) : Prop :=
  ∀ (m : MethodId) (meth : Method) (c : Code) (A : Pt) (g : JFrame) (ig : Instr) (mk : MethodId) (a : Array Value),
    Stand p l e R s m sargs below meth c A.U A.locs A.cells A.slots → g.method = m → g.locals.size = c.maxLocals → decode c.code g.pc = .ok (ig, len) →
    2 * g.monitorRoom + (g.stack.map fun v => v.category).sum ≤ W9 → A.U.methodNamed? y = some mk → Pre A a →
    (∃ (v : Option Value) (B : Pt), Stand p l e R s m sargs below meth c B.U B.locs B.cells B.slots ∧ Post A a v B ∧
      Steps p.tables e below (doInvoke e (A.U.setTop g) [] mk a).1 (B.U.setTop { g with pc := g.pc + len, stack := v.toList ++ g.stack })) ∨
    (∃ (q : Addr) (B : Pt), Stand p l e R s m sargs below meth c B.U B.locs B.cells B.slots ∧ PostX A a q B ∧
      Steps p.tables e below (doInvoke e (A.U.setTop g) [] mk a).1 ((B.U.setTop g).pushFrame (.throwing q)))
section Payer
variable {l : Launch} {R : Room} {p : Program} {e : Env} {below : List Frame} {s : State} {sargs : Array Value} {y : MethodName} {len W9 : Nat}
theorem vx_back {ws : List Cond} {rm : Room} {Pc : Array Value → State → Prop} {Qc : Array Value → State → Outcome → State → Prop} {XC : String → State → State → Prop} {mc ms : Nat} {free : Addr → Prop} {bytes : ByteArray} {maxL : Nat} {ret : Option FieldType}
    (hM : vx_Met l y ws rm Pc Qc XC mc ms free) (hblind : FrameBlind Pc) (hrc : rm.cells = mc) (hrs : rm.slots = ms)
    (hframes : rm.frames + 1 ≤ R.frames) (hlocals : W9 + (maxL + 11) + rm.locals ≤ R.locals)
    (hws : ∀ w ∈ ws, ∀ a' U, s.WarmedH U.vm → w.before a' U = true) (hcode : Cond.code y bytes maxL ret ∈ ws) (hinit : ∀ a' U, s.WarmedH U.vm → (Cond.initialized y.cls).before a' U = true) :
    vx_Back l R p e below s sargs y len W9 (PreOf R mc ms Pc) (PostOf Qc mc ms free) (vx_Post XC mc ms free) := by
  intro m meth c A g ig mk a X hg hsize hdg hW hn hp
  have h1 : (headSpec ws rm).pre.before a A.U = true := atoms_intro fun w hw => hws w hw _ _ X.warmed
  have h2 : (Cond.code y bytes maxL ret).before a A.U = true := hws _ hcode _ _ X.warmed
  have h3 : (Cond.initialized y.cls).before a A.U = true := hinit _ _ X.warmed
  have h4 : A.cells + (headSpec ws rm).room.cells ≤ R.cells := by rw [show (headSpec ws rm).room.cells = mc from hrc]; exact hp.1
  have h5 : A.slots + (headSpec ws rm).room.slots ≤ R.slots := by rw [show (headSpec ws rm).room.slots = ms from hrs]; exact hp.2.1
  have hPc : Pc a (A.U.calling g mk a) := hblind _ _ _ _ hp.2.2
  obtain ⟨U, Ls, c0, s0⟩ := A
  dsimp only [Pt.U, Pt.locs, Pt.cells, Pt.slots] at h1 h2 h3 h4 h5 X hn hPc ⊢
  obtain ⟨methY, cY, hmY, hcY, -, hlY, -, -, -, -⟩ := Cond.code_spec hn h2
  obtain ⟨kY, hkY, -⟩ := className_of_methodNamed hn
  have hinitY : kY.init = .initialized := Cond.initialized_spec (findClass_of_methodNamed hn) hkY h3
  have h : At U g.method c below := by rw [hg]; exact X.here
  have hlocals9 : W9 + (maxL + 11) + (headSpec ws rm).room.locals ≤ R.locals := hlocals
  have happ : (headSpec ws rm).appliesLoose y e.platform (U.calling g mk a) = true :=
    Spec.appliesLoose_calling (g := g) h hdg hn hkY hinitY
      (X.room_calling (g := g) (R' := (headSpec ws rm).room) hsize hmY hcY hframes (by rw [hlY]; omega) h4 h5) h1
  obtain ⟨mid, hmid⟩ := h.above
  have hfr : (U.setTop g).frames = (.java g :: mid) ++ below := by rw [State.frames_setTop' g h.top, hmid]; rfl
  obtain ⟨o, s₂, hsteps, -, hend, hq⟩ := Steps.callFree hM p X.admits X.cas X.clock (acts := []) hfr happ hPc trivial
  have hq' : vx_Q Qc XC mc ms free a (U.calling g mk a) o s₂ := hq
  rw [State.frames_setTop' g h.top] at hend
  obtain ⟨g₀, hg0⟩ := Option.isSome_iff_exists.mp h.top
  obtain ⟨r, hr⟩ := State.topJava?_eq_some.mp hg0
  have hr' : (({ U with heap := s₂.heap, slotsUsed := s₂.slotsUsed } : State).setVm s₂.vm).frames = .java g₀ :: r := hr
  rcases hq' with ⟨hqc, L, hfe, hL⟩ | ⟨q, rfl, E, ce, L, hx, hce, hcv, hcl, hW₂, hsm, hL⟩
  · obtain ⟨⟨v, rfl⟩, hW₂, e2, q2, q3, q4, q5, q6⟩ := id hfe
    have e3 : s₂ = ({ (U.calling g mk a).setFrames s₂.frames with heap := s₂.heap, slotsUsed := s₂.slotsUsed } : State).setVm s₂.vm := by
      have : s₂ = ({ s₂ with vm := (U.calling g mk a).vm } : State).setVm s₂.vm := rfl
      rw [e2] at this
      exact this
    obtain ⟨c₂, i₂, len₂, hc₂, hd₂, hf₂⟩ := hend
    have hW' : U.WarmedH s₂.vm := hW₂
    have hcc : c₂ = c := by
      have h1 : s₂.code? g.method = U.code? g.method := by
        rw [State.code?_eq, State.code?_eq, hW'.alike.method?]
      exact Option.some.inj (hc₂.symm.trans (h1.trans h.code))
    subst hcc
    have hlen : len₂ = len := by rw [hdg] at hd₂; cases hd₂; rfl
    subst hlen
    have hs₂ : s₂ = (({ U with heap := s₂.heap, slotsUsed := s₂.slotsUsed } : State).setVm s₂.vm).setTop { g with pc := g.pc + len₂, stack := v.toList ++ g.stack } := by
      refine e3.trans ?_
      rw [hf₂, State.calling_eq h.top, State.setFrames_setFrames, State.setTop_of_frames _ hr', hr]
      rfl
    have hsame : U.sameButNew ({ U with heap := s₂.heap, slotsUsed := s₂.slotsUsed } : State) L mc ms := by
      refine ⟨?_, q2, q3, q4, q5, q6⟩
      obtain ⟨t, ht, -⟩ := State.frames_cons hr
      show ({ U with heap := s₂.heap, slotsUsed := s₂.slotsUsed } : State) = { U.setFrames U.frames with heap := s₂.heap, slotsUsed := s₂.slotsUsed }
      rw [State.setFrames_self ht]
    subst hg
    refine Or.inl ⟨v, ⟨(({ U with heap := s₂.heap, slotsUsed := s₂.slotsUsed } : State).setVm s₂.vm), Ls ++ L, c0 + mc, s0 + ms⟩,
      ⟨X.admits, X.cas, X.clock, X.frames, X.room, X.hears, X.method, X.code, (X.here.setHeapUsed s₂.heap s₂.slotsUsed).setVm hW'.alike, X.tail, State.WarmedH.trans X.warmed hW', X.limits, X.bytes, X.same.trans (hsame.setVm s.vm)⟩,
      ⟨g, mk, s₂, L, rfl, rfl, hqc, rfl, hL, rfl, rfl⟩, ?_⟩
    show Steps p.tables e below _ ((({ U with heap := s₂.heap, slotsUsed := s₂.slotsUsed } : State).setVm s₂.vm).setTop { g with pc := g.pc + len₂, stack := v.toList ++ g.stack })
    rw [← hs₂]
    exact hsteps
  · obtain ⟨e2, q2, q3, q4, q5, q6⟩ := id hsm
    have e3 : s₂ = ({ (U.calling g mk a).setFrames s₂.frames with heap := s₂.heap, slotsUsed := s₂.slotsUsed } : State).setVm s₂.vm := by
      have : s₂ = ({ s₂ with vm := (U.calling g mk a).vm } : State).setVm s₂.vm := rfl
      rw [e2] at this
      exact this
    have hf₂ : s₂.frames = .throwing q :: .java g :: U.frames.tail := hend
    have hW' : U.WarmedH s₂.vm := hW₂
    have hs₂ : s₂ = ((({ U with heap := s₂.heap, slotsUsed := s₂.slotsUsed } : State).setVm s₂.vm).setTop g).pushFrame (.throwing q) := by
      refine e3.trans ?_
      rw [hf₂, State.calling_eq h.top, State.setFrames_setFrames, State.pushFrame, State.frames_setTop _ hr', State.setTop_of_frames _ hr', State.setFrames_setFrames, hr]
      rfl
    have hsame : U.sameButNew ({ U with heap := s₂.heap, slotsUsed := s₂.slotsUsed } : State) L mc ms := by
      refine ⟨?_, q2, q3, q4, q5, q6⟩
      obtain ⟨t, ht, -⟩ := State.frames_cons hr
      show ({ U with heap := s₂.heap, slotsUsed := s₂.slotsUsed } : State) = { U.setFrames U.frames with heap := s₂.heap, slotsUsed := s₂.slotsUsed }
      rw [State.setFrames_self ht]
    subst hg
    refine Or.inr ⟨q, ⟨(({ U with heap := s₂.heap, slotsUsed := s₂.slotsUsed } : State).setVm s₂.vm), Ls ++ L, c0 + mc, s0 + ms⟩,
      ⟨X.admits, X.cas, X.clock, X.frames, X.room, X.hears, X.method, X.code, (X.here.setHeapUsed s₂.heap s₂.slotsUsed).setVm hW'.alike, X.tail, State.WarmedH.trans X.warmed hW', X.limits, X.bytes, X.same.trans (hsame.setVm s.vm)⟩,
      ⟨g, mk, s₂, L, E, ce, rfl, rfl, hx, hce, hcv, hcl, rfl, hL, rfl, rfl⟩, ?_⟩
    show Steps p.tables e below _ (((({ U with heap := s₂.heap, slotsUsed := s₂.slotsUsed } : State).setVm s₂.vm).setTop g).pushFrame (.throwing q))
    rw [← hs₂]
    exact hsteps
end Payer
section Calls
variable {p : Program} {l : Launch} {e : Env} {R : Room} {s : State} {m : MethodId} {args : Array Value} {below : List Frame} {meth : Method} {c : Code} {T : State} {locs : List Loc} {cells slots : Nat}
theorem vx_callV (X : Stand p l e R s m args below meth c T locs cells slots) (hexec : p.tables.exec = Jvm.exec) {own C : String} {index : Nat} {y : MethodName} {bytes : ByteArray} {maxL : Nat} {ret : Option FieldType}
    (hown : s.vm.findClass own = some m.cls) (hlink : (Cond.methodLink own index y).before args s = true) (hinst : (Cond.instanceMethod y).before args s = true) (hsel : (Cond.selects C y y).before args s = true)
    (hcode : (Cond.code y bytes maxL ret).before args s = true) (hy : y.cls ≠ "java/lang/invoke/MethodHandle" ∧ y.cls ≠ "java/lang/invoke/VarHandle")
    {W9 : Nat} {Pre : Pt → Array Value → Prop} {Post : Pt → Array Value → Option Value → Pt → Prop} {PostX : Pt → Array Value → Addr → Pt → Prop} (hK : vx_Back l R p e below s args y 3 W9 Pre Post PostX)
    {b : Addr} {cellB : Cell} (hcell : T.heap[b]? = some cellB) (hobj : cellB.vm.isStatics = false) (hcls : s.vm.findClass C = some cellB.cls)
    {g : JFrame} (hg : g.method = m) (hsize : g.locals.size = c.maxLocals) {argsL rest : List Value} (hlen : ∀ sig, parseMethodDescriptor y.desc = some sig → argsL.length = sig.parameters.length)
    (hstack : g.stack = argsL.reverse ++ .ref b :: rest) (hW : 2 * g.monitorRoom + (rest.map fun v => v.category).sum ≤ W9) (hdg : decode c.code g.pc = .ok (.invokevirtual index, 3))
    (hpre : ∀ vm₁, s.WarmedH vm₁ → Pre ⟨T.setVm vm₁, locs, cells, slots⟩ (Value.ref b :: argsL).toArray) :
    (∃ (v : Option Value) (vm₁ : Vm) (B : Pt), s.WarmedH vm₁ ∧ Stand p l e R s m args below meth c B.U B.locs B.cells B.slots ∧ Post ⟨T.setVm vm₁, locs, cells, slots⟩ (Value.ref b :: argsL).toArray v B ∧
      ∀ target, Steps p.tables e below (B.U.setTop { g with pc := g.pc + 3, stack := v.toList ++ rest }) target → Steps p.tables e below (T.setTop g) target) ∨
    (∃ (q : Addr) (vm₁ : Vm) (B : Pt), s.WarmedH vm₁ ∧ Stand p l e R s m args below meth c B.U B.locs B.cells B.slots ∧ PostX ⟨T.setVm vm₁, locs, cells, slots⟩ (Value.ref b :: argsL).toArray q B ∧
      Steps p.tables e below (T.setTop g) ((B.U.setTop { g with stack := rest }).pushFrame (.throwing q))) := by
  obtain ⟨mk, methM, hnamed, hmethM, hstM, habM⟩ := Cond.instanceMethod_spec hinst
  obtain ⟨methM', cM, hmethM', -, -, -, -, -, -, hsigM⟩ := Cond.code_spec hnamed hcode
  cases hmethM.symm.trans hmethM'
  obtain ⟨c2, r2, m2, q1, q2, q3, q4, kP, hkP, hkPi⟩ := Cond.selects_spec hsel
  cases hcls.symm.trans q1
  cases (State.methodFound?_of_named hnamed hy).symm.trans q2
  cases hnamed.symm.trans q3
  have hselP : selectMethod e.platform s.vm cellB.cls mk = .method mk := by rw [Launch.admits_selectMethod X.admits]; exact q4
  obtain ⟨vm₁, X₁, hstep₁⟩ := X.invokevirtual hexec hown hlink hnamed hmethM hstM hkP hkPi hy (a := b) (cell := cellB) hcell
    (fun z h => by rw [h] at hobj; cases hobj) hselP hmethM habM hkP hkPi (g := g) hg (argsL := argsL) (rest := rest) (hlen _ hsigM) hstack hdg
  rcases hK m meth c ⟨T.setVm vm₁, locs, cells, slots⟩ { g with stack := rest } (.invokevirtual index) mk (Value.ref b :: argsL).toArray X₁ hg hsize hdg hW (X₁.named hnamed) (hpre vm₁ X₁.warmed) with ⟨v, B, X', hpost, hsteps⟩ | ⟨q, B, X', hpost, hsteps⟩
  · exact Or.inl ⟨v, vm₁, B, X₁.warmed, X', hpost, fun target h => hstep₁ _ fun acts => by rw [doInvoke_state]; exact hsteps.trans h⟩
  · exact Or.inr ⟨q, vm₁, B, X₁.warmed, X', hpost, hstep₁ _ fun acts => by rw [doInvoke_state]; exact hsteps⟩
theorem vx_callS (X : Stand p l e R s m args below meth c T locs cells slots) (hexec : p.tables.exec = Jvm.exec) {own : String} {index : Nat} {y : MethodName} {bytes : ByteArray} {maxL : Nat} {ret : Option FieldType}
    (hown : s.vm.findClass own = some m.cls) (hlink : (Cond.methodLink own index y).before args s = true) (hstat : (Cond.static y).before args s = true) (hinit : (Cond.initialized y.cls).before args s = true)
    (hcode : (Cond.code y bytes maxL ret).before args s = true) (hy : y.cls ≠ "java/lang/invoke/MethodHandle" ∧ y.cls ≠ "java/lang/invoke/VarHandle")
    {W9 : Nat} {Pre : Pt → Array Value → Prop} {Post : Pt → Array Value → Option Value → Pt → Prop} {PostX : Pt → Array Value → Addr → Pt → Prop} (hK : vx_Back l R p e below s args y 3 W9 Pre Post PostX)
    {g : JFrame} (hg : g.method = m) (hsize : g.locals.size = c.maxLocals) {argsL rest : List Value} (hlen : ∀ sig, parseMethodDescriptor y.desc = some sig → argsL.length = sig.parameters.length)
    (hstack : g.stack = argsL.reverse ++ rest) (hW : 2 * g.monitorRoom + (rest.map fun v => v.category).sum ≤ W9) (hdg : decode c.code g.pc = .ok (.invokestatic index, 3))
    (hpre : ∀ vm₁, s.WarmedH vm₁ → Pre ⟨T.setVm vm₁, locs, cells, slots⟩ argsL.toArray) :
    (∃ (v : Option Value) (vm₁ : Vm) (B : Pt), s.WarmedH vm₁ ∧ Stand p l e R s m args below meth c B.U B.locs B.cells B.slots ∧ Post ⟨T.setVm vm₁, locs, cells, slots⟩ argsL.toArray v B ∧
      ∀ target, Steps p.tables e below (B.U.setTop { g with pc := g.pc + 3, stack := v.toList ++ rest }) target → Steps p.tables e below (T.setTop g) target) ∨
    (∃ (q : Addr) (vm₁ : Vm) (B : Pt), s.WarmedH vm₁ ∧ Stand p l e R s m args below meth c B.U B.locs B.cells B.slots ∧ PostX ⟨T.setVm vm₁, locs, cells, slots⟩ argsL.toArray q B ∧
      Steps p.tables e below (T.setTop g) ((B.U.setTop { g with stack := rest }).pushFrame (.throwing q))) := by
  obtain ⟨mk, hnamed⟩ := Cond.code_named hcode
  obtain ⟨methM, cM, hmethM, -, -, -, -, -, -, hsigM⟩ := Cond.code_spec hnamed hcode
  have hstatic : methM.isStatic = true := Cond.static_spec hnamed hmethM hstat
  obtain ⟨kP, hkP, -⟩ := className_of_methodNamed hnamed
  have hinitP : kP.init = .initialized := Cond.initialized_spec (findClass_of_methodNamed hnamed) hkP hinit
  obtain ⟨vm₁, X₁, hstep₁⟩ := X.invokestatic hexec hown hlink hnamed hmethM hstatic hkP hinitP hy (g := g) hg (argsL := argsL) (rest := rest) (hlen _ hsigM) hstack hdg
  rcases hK m meth c ⟨T.setVm vm₁, locs, cells, slots⟩ { g with stack := rest } (.invokestatic index) mk argsL.toArray X₁ hg hsize hdg hW (X₁.named hnamed) (hpre vm₁ X₁.warmed) with ⟨v, B, X', hpost, hsteps⟩ | ⟨q, B, X', hpost, hsteps⟩
  · exact Or.inl ⟨v, vm₁, B, X₁.warmed, X', hpost, fun target h => hstep₁ _ fun acts => by rw [doInvoke_state]; exact hsteps.trans h⟩
  · exact Or.inr ⟨q, vm₁, B, X₁.warmed, X', hpost, hstep₁ _ fun acts => by rw [doInvoke_state]; exact hsteps⟩
end Calls
theorem vx_cls {s : State} {T : State} {vm₁ : Vm} {E : String} {k : ClassId} (hW : s.WarmedH vm₁) (h : (T.setVm vm₁).vm.findClass E = some k) : s.vm.findClass E = some k := by
  have h1 : vm₁.findClass E = some k := h
  rw [hW.alike.findClass] at h1
  exact h1
/-- the method's frame g, with q thrown over it -/
def vx_W (p : Program) (l : Launch) (e : Env) (R : Room) (s : State) (m : MethodId) (args : Array Value) (below : List Frame) (meth : Method) (c : Code) (H : Heap) (locs : List Loc) (cells slots : Nat) (Q : State → Prop) (g : JFrame) (q : Addr) : Prop :=
  ∀ T : State, T.heap = H → Stand p l e R s m args below meth c T locs cells slots → ∃ t, Steps p.tables e below ((T.setTop g).pushFrame (.throwing q)) t ∧ Q t
def vx_Run (p : Program) (l : Launch) (e : Env) (R : Room) (s : State) (m : MethodId) (args : Array Value) (below : List Frame) (meth : Method) (c : Code) (H : Heap) (locs : List Loc) (cells slots mc ms : Nat) (g : JFrame) (rest : List Value) (Qa : State → Outcome → State → Prop) (XC : String → State → State → Prop) (free : Addr → Prop) : Prop :=
  ∀ T : State, T.heap = H → Stand p l e R s m args below meth c T locs cells slots →
    (∃ (v : Option Value) (st₀ t T' : State) (L : List Loc), st₀.heap = H ∧ Stand p l e R s m args below meth c T' (locs ++ L) (cells + mc) (slots + ms) ∧ (∀ q ∈ L, free q.base) ∧ T'.heap = t.heap ∧ T'.vm = t.vm ∧ Qa st₀ (.returned v) t ∧
      Goes p e below T g T' { g with pc := g.pc + 3, stack := v.toList ++ rest }) ∨
    (∃ (q : Addr) (st₀ t T' : State) (L : List Loc) (E : String) (ce : Cell), st₀.heap = H ∧ Stand p l e R s m args below meth c T' (locs ++ L) (cells + mc) (slots + ms) ∧ (∀ z ∈ L, free z.base) ∧ T'.heap = t.heap ∧ T'.vm = t.vm ∧ XC E st₀ t ∧ t.heap[q]? = some ce ∧ ce.vm = .none ∧ s.vm.findClass E = some ce.cls ∧
      Steps p.tables e below (T.setTop g) ((T'.setTop { g with stack := rest }).pushFrame (.throwing q)))
def vx_X {S : Type} (px : S → Prop) (B : String → S → State → Prop) (A : Nat → Prop) : String → State → State → Prop := fun E st t => ∃ u : S, px u ∧ B E u t ∧ va_F A st t
section Runs
variable {p : Program} {l : Launch} {e : Env} {R : Room} {s : State} {m : MethodId} {args : Array Value} {below : List Frame} {meth : Method} {c : Code} {H : Heap} {locs : List Loc} {cells slots : Nat}
variable {y : MethodName} {bytes cc : ByteArray} {maxL nL mc ms n index : Nat} {ret : Option FieldType} {ws : List Cond} {rm : Room} {Pc : Array Value → State → Prop} {Qc : Array Value → State → Outcome → State → Prop} {XC : String → State → State → Prop} {free : Addr → Prop} {Ts : List Cond} {own C : String} {b : Addr} {As rest : List Value} {g : JFrame}
theorem vx_callBack (cb : CallB R s args own index y bytes maxL ret ws rm mc ms n) (hM : vx_Met l y ws rm Pc Qc XC mc ms free) (hbl : FrameBlind Pc) : vx_Back l R p e below s args y 3 8 (PreOf R mc ms Pc) (PostOf Qc mc ms free) (vx_Post XC mc ms free) := by
  obtain ⟨hrc, hrs, hfr, hlo, hws, hcw, -, hini, -⟩ := cb
  exact vx_back (bytes := bytes) (maxL := maxL) (ret := ret) hM hbl hrc hrs hfr hlo hws hcw (fun a' U hW => word_at hW (Or.inl (by first | rfl | simp [Cond.onTables, Cond.keeps, Cond.steady])) hini)
theorem vx_runV (S : CallFix p m c cc nL s args Ts own) (hM : vx_Met l y ws rm Pc Qc XC mc ms free) (cw : CallW R s args own C index y bytes maxL ret ws rm mc ms n) (hp : PreV s H C b Pc As)
    (hg : g.method = m) (hn : As.length = n) (hsize : g.locals.size = nL) (hstack : g.stack = As.reverse ++ .ref b :: rest) (hW : 2 * g.monitorRoom + (rest.map fun v => v.category).sum ≤ 8) (hdg : decode cc g.pc = .ok (.invokevirtual index, 3)) (hf : cells + mc ≤ R.cells ∧ slots + ms ≤ R.slots) :
    vx_Run p l e R s m args below meth c H locs cells slots mc ms g rest (Qc (Value.ref b :: As).toArray) XC free := by
  have hK : vx_Back l R p e below s args y 3 8 (PreOf R mc ms Pc) (PostOf Qc mc ms free) (vx_Post XC mc ms free) := vx_callBack cw.1 hM hp.1
  obtain ⟨⟨-, -, -, -, -, -, hcode, -, hy, hlen, hl⟩, hin, hse⟩ := cw
  obtain ⟨hx, hb, hml, ho, -⟩ := S
  obtain ⟨-, ⟨cellB, hcB, hoB, hclB⟩, hPc⟩ := hp
  intro T hT X
  rcases vx_callV X hx (C := C) (bytes := bytes) (maxL := maxL) (ret := ret) ho hl hin hse hcode hy hK (by rw [hT]; exact hcB) hoB hclB hg (hsize.trans hml.symm) (argsL := As) (rest := rest) (fun sig h => hn.trans (hlen sig h)) hstack hW (by rw [hb]; exact hdg)
    (fun vm₁ hW₁ => ⟨hf.1, hf.2, hPc (T.setVm vm₁) hT hW₁⟩) with ⟨v, vm₁, ⟨U', l2, c2, s2⟩, hW₁, X', ⟨g', mk, t, L, e1, e2, hq, h1, hL, h2, h3⟩, st⟩ | ⟨q, vm₁, ⟨U', l2, c2, s2⟩, hW₁, X', ⟨g', mk, t, L, E, ce, e1, e2, hq, hce, hcv, hcl, h1, hL, h2, h3⟩, st⟩
  · dsimp only [Pt.U, Pt.locs, Pt.cells, Pt.slots] at X' e1 e2 h1 h2 h3 st
    subst h1; subst h2; subst h3
    exact Or.inl ⟨v, (T.setVm vm₁).calling g' mk (Value.ref b :: As).toArray, t, U', L, hT, X', hL, e1, e2, hq, st⟩
  · dsimp only [Pt.U, Pt.locs, Pt.cells, Pt.slots] at X' e1 e2 h1 h2 h3 st hcl
    subst h1; subst h2; subst h3
    exact Or.inr ⟨q, (T.setVm vm₁).calling g' mk (Value.ref b :: As).toArray, t, U', L, E, ce, hT, X', hL, e1, e2, hq, hce, hcv, vx_cls hW₁ hcl, st⟩
theorem vx_runS (S : CallFix p m c cc nL s args Ts own) (hM : vx_Met l y ws rm Pc Qc XC mc ms free) (cw : CallB R s args own index y bytes maxL ret ws rm mc ms n ∧ (Cond.static y).before args s = true) (hp : PreS s H Pc As)
    (hg : g.method = m) (hn : As.length = n) (hsize : g.locals.size = nL) (hstack : g.stack = As.reverse ++ rest) (hW : 2 * g.monitorRoom + (rest.map fun v => v.category).sum ≤ 8) (hdg : decode cc g.pc = .ok (.invokestatic index, 3)) (hf : cells + mc ≤ R.cells ∧ slots + ms ≤ R.slots) :
    vx_Run p l e R s m args below meth c H locs cells slots mc ms g rest (Qc As.toArray) XC free := by
  have hK : vx_Back l R p e below s args y 3 8 (PreOf R mc ms Pc) (PostOf Qc mc ms free) (vx_Post XC mc ms free) := vx_callBack cw.1 hM hp.1
  obtain ⟨⟨-, -, -, -, -, -, hcode, hini, hy, hlen, hl⟩, hstt⟩ := cw
  obtain ⟨hx, hb, hml, ho, -⟩ := S
  intro T hT X
  rcases vx_callS X hx (bytes := bytes) (maxL := maxL) (ret := ret) ho hl hstt hini hcode hy hK hg (hsize.trans hml.symm) (argsL := As) (rest := rest) (fun sig h => hn.trans (hlen sig h)) hstack hW (by rw [hb]; exact hdg)
    (fun vm₁ hW₁ => ⟨hf.1, hf.2, hp.2 (T.setVm vm₁) hT hW₁⟩) with ⟨v, vm₁, ⟨U', l2, c2, s2⟩, hW₁, X', ⟨g', mk, t, L, e1, e2, hq, h1, hL, h2, h3⟩, st⟩ | ⟨q, vm₁, ⟨U', l2, c2, s2⟩, hW₁, X', ⟨g', mk, t, L, E, ce, e1, e2, hq, hce, hcv, hcl, h1, hL, h2, h3⟩, st⟩
  · dsimp only [Pt.U, Pt.locs, Pt.cells, Pt.slots] at X' e1 e2 h1 h2 h3 st
    subst h1; subst h2; subst h3
    exact Or.inl ⟨v, (T.setVm vm₁).calling g' mk As.toArray, t, U', L, hT, X', hL, e1, e2, hq, st⟩
  · dsimp only [Pt.U, Pt.locs, Pt.cells, Pt.slots] at X' e1 e2 h1 h2 h3 st hcl
    subst h1; subst h2; subst h3
    exact Or.inr ⟨q, (T.setVm vm₁).calling g' mk As.toArray, t, U', L, E, ce, hT, X', hL, e1, e2, hq, hce, hcv, vx_cls hW₁ hcl, st⟩
end Runs
section Rows
variable {p : Program} {l : Launch} {e : Env} {R : Room} {s : State} {m : MethodId} {args : Array Value} {below : List Frame} {meth : Method} {c : Code} {H : Heap} {locs : List Loc} {cells slots : Nat} {Q : State → Prop}
variable {mc ms : Nat} {free : Addr → Prop} {A0 A1 : Nat → Prop} {H0 : Heap} {a : Array Value} {pc : Nat} {ls : Array Slot} {st0 rest : List Value}
theorem vx_keep {st₀ t T' : State} {L : List Loc} (h0 : st₀.heap = H) (e1 : T'.heap = t.heap) (hS : va_S A0 H0 H locs) (hA : ∀ q, q < H.size → A1 q → A0 q) (hf : ∀ q, free q → A0 q) (hL : ∀ q ∈ L, free q.base) (hF : va_F A1 st₀ t) :
    H.size ≤ T'.heap.size ∧ (∀ q : Nat, q < H.size → ¬ A1 q → T'.heap[q]? = H[q]?) ∧ va_S A0 H0 T'.heap (locs ++ L) := by
  obtain ⟨hz, hk⟩ := hF
  rw [h0] at hz hk
  exact ⟨by rw [e1]; exact hz, fun q h1 h2 => by rw [e1]; exact hk q h1 h2,
    ⟨Nat.le_trans hS.1 (by rw [e1]; exact hz), fun q h1 h2 => by rw [e1, hk q (Nat.lt_of_lt_of_le h1 hS.1) (fun z => h2 (hA q (Nat.lt_of_lt_of_le h1 hS.1) z))]; exact hS.2.1 q h1 h2, fun q hq => by
      rcases List.mem_append.mp hq with h | h
      · exact hS.2.2 q h
      · exact hf _ (hL q h)⟩⟩
theorem vx_calli {S SX : Type} {post : Int32 → S → Prop} {px : SX → Prop} {B : S → State → Prop} {BX : String → SX → State → Prop} {AX : Nat → Prop} (hr : vx_Run p l e R s m args below meth c H locs cells slots mc ms (F0 m pc ls st0) rest (va_Qi post B A1 a) (vx_X px BX AX) free) (hS : va_S A0 H0 H locs) (hA : ∀ q, q < H.size → A1 q → A0 q) (hf : ∀ q, free q → A0 q) (hAX : ∀ q, q < H.size → AX q → A0 q)
    (kx : ∀ (E : String) (ce : Cell) (q9 : Addr) (u : SX) (t : State) (H1 : Heap) (locs1 : List Loc), t.heap = H1 → s.vm.Alike t.vm → px u → BX E u t → H.size ≤ H1.size → (∀ q : Nat, q < H.size → ¬ AX q → H1[q]? = H[q]?) → va_S A0 H0 H1 locs1 → H1[q9]? = some ce → ce.vm = .none → s.vm.findClass E = some ce.cls → vx_W p l e R s m args below meth c H1 locs1 (cells + mc) (slots + ms) Q (F0 m pc ls rest) q9)
    (kk : ∀ (r : Int32) (u : S) (t : State) (H1 : Heap) (locs1 : List Loc), t.heap = H1 → s.vm.Alike t.vm → post r u → B u t → H.size ≤ H1.size → (∀ q : Nat, q < H.size → ¬ A1 q → H1[q]? = H[q]?) → va_S A0 H0 H1 locs1 → W p l e R s m args below meth c H1 locs1 (cells + mc) (slots + ms) Q (F0 m (pc + 3) ls (.int r :: rest))) : W p l e R s m args below meth c H locs cells slots Q (F0 m pc ls st0) := by
  intro T hT X
  rcases hr T hT X with ⟨v, st₀, t, T', L, h0, X', hL, e1, e2, ⟨⟨r, u, hv, hp, hb⟩, hF⟩, st⟩ | ⟨q, st₀, t, T', L, E, ce, h0, X', hL, e1, e2, ⟨u, hp, hb, hF⟩, hce, hcv, hcl, st⟩
  · cases hv
    obtain ⟨k1, k2, k3⟩ := vx_keep h0 e1 hS hA hf hL hF
    obtain ⟨t2, a1, b1⟩ := kk r u t T'.heap (locs ++ L) e1.symm (by rw [← e2]; exact X'.warmed.alike) hp hb k1 k2 k3 T' rfl X'
    exact ⟨t2, st t2 a1, b1⟩
  · obtain ⟨k1, k2, k3⟩ := vx_keep h0 e1 hS hAX hf hL hF
    obtain ⟨t2, a1, b1⟩ := kx E ce q u t T'.heap (locs ++ L) e1.symm (by rw [← e2]; exact X'.warmed.alike) hp hb k1 k2 k3 (by rw [e1]; exact hce) hcv hcl T' rfl X'
    exact ⟨t2, st.trans a1, b1⟩
theorem vx_calll {S SX : Type} {post : Int64 → S → Prop} {px : SX → Prop} {B : S → State → Prop} {BX : String → SX → State → Prop} {AX : Nat → Prop} (hr : vx_Run p l e R s m args below meth c H locs cells slots mc ms (F0 m pc ls st0) rest (va_Ql post B A1 a) (vx_X px BX AX) free) (hS : va_S A0 H0 H locs) (hA : ∀ q, q < H.size → A1 q → A0 q) (hf : ∀ q, free q → A0 q) (hAX : ∀ q, q < H.size → AX q → A0 q)
    (kx : ∀ (E : String) (ce : Cell) (q9 : Addr) (u : SX) (t : State) (H1 : Heap) (locs1 : List Loc), t.heap = H1 → s.vm.Alike t.vm → px u → BX E u t → H.size ≤ H1.size → (∀ q : Nat, q < H.size → ¬ AX q → H1[q]? = H[q]?) → va_S A0 H0 H1 locs1 → H1[q9]? = some ce → ce.vm = .none → s.vm.findClass E = some ce.cls → vx_W p l e R s m args below meth c H1 locs1 (cells + mc) (slots + ms) Q (F0 m pc ls rest) q9)
    (kk : ∀ (r : Int64) (u : S) (t : State) (H1 : Heap) (locs1 : List Loc), t.heap = H1 → s.vm.Alike t.vm → post r u → B u t → H.size ≤ H1.size → (∀ q : Nat, q < H.size → ¬ A1 q → H1[q]? = H[q]?) → va_S A0 H0 H1 locs1 → W p l e R s m args below meth c H1 locs1 (cells + mc) (slots + ms) Q (F0 m (pc + 3) ls (.long r :: rest))) : W p l e R s m args below meth c H locs cells slots Q (F0 m pc ls st0) := by
  intro T hT X
  rcases hr T hT X with ⟨v, st₀, t, T', L, h0, X', hL, e1, e2, ⟨⟨r, u, hv, hp, hb⟩, hF⟩, st⟩ | ⟨q, st₀, t, T', L, E, ce, h0, X', hL, e1, e2, ⟨u, hp, hb, hF⟩, hce, hcv, hcl, st⟩
  · cases hv
    obtain ⟨k1, k2, k3⟩ := vx_keep h0 e1 hS hA hf hL hF
    obtain ⟨t2, a1, b1⟩ := kk r u t T'.heap (locs ++ L) e1.symm (by rw [← e2]; exact X'.warmed.alike) hp hb k1 k2 k3 T' rfl X'
    exact ⟨t2, st t2 a1, b1⟩
  · obtain ⟨k1, k2, k3⟩ := vx_keep h0 e1 hS hAX hf hL hF
    obtain ⟨t2, a1, b1⟩ := kx E ce q u t T'.heap (locs ++ L) e1.symm (by rw [← e2]; exact X'.warmed.alike) hp hb k1 k2 k3 (by rw [e1]; exact hce) hcv hcl T' rfl X'
    exact ⟨t2, st.trans a1, b1⟩
theorem vx_callf {S SX : Type} {post : UInt32 → S → Prop} {px : SX → Prop} {B : S → State → Prop} {BX : String → SX → State → Prop} {AX : Nat → Prop} (hr : vx_Run p l e R s m args below meth c H locs cells slots mc ms (F0 m pc ls st0) rest (va_Qf post B A1 a) (vx_X px BX AX) free) (hS : va_S A0 H0 H locs) (hA : ∀ q, q < H.size → A1 q → A0 q) (hf : ∀ q, free q → A0 q) (hAX : ∀ q, q < H.size → AX q → A0 q)
    (kx : ∀ (E : String) (ce : Cell) (q9 : Addr) (u : SX) (t : State) (H1 : Heap) (locs1 : List Loc), t.heap = H1 → s.vm.Alike t.vm → px u → BX E u t → H.size ≤ H1.size → (∀ q : Nat, q < H.size → ¬ AX q → H1[q]? = H[q]?) → va_S A0 H0 H1 locs1 → H1[q9]? = some ce → ce.vm = .none → s.vm.findClass E = some ce.cls → vx_W p l e R s m args below meth c H1 locs1 (cells + mc) (slots + ms) Q (F0 m pc ls rest) q9)
    (kk : ∀ (r : UInt32) (u : S) (t : State) (H1 : Heap) (locs1 : List Loc), t.heap = H1 → s.vm.Alike t.vm → post r u → B u t → H.size ≤ H1.size → (∀ q : Nat, q < H.size → ¬ A1 q → H1[q]? = H[q]?) → va_S A0 H0 H1 locs1 → W p l e R s m args below meth c H1 locs1 (cells + mc) (slots + ms) Q (F0 m (pc + 3) ls (.float r :: rest))) : W p l e R s m args below meth c H locs cells slots Q (F0 m pc ls st0) := by
  intro T hT X
  rcases hr T hT X with ⟨v, st₀, t, T', L, h0, X', hL, e1, e2, ⟨⟨r, u, hv, hp, hb⟩, hF⟩, st⟩ | ⟨q, st₀, t, T', L, E, ce, h0, X', hL, e1, e2, ⟨u, hp, hb, hF⟩, hce, hcv, hcl, st⟩
  · cases hv
    obtain ⟨k1, k2, k3⟩ := vx_keep h0 e1 hS hA hf hL hF
    obtain ⟨t2, a1, b1⟩ := kk r u t T'.heap (locs ++ L) e1.symm (by rw [← e2]; exact X'.warmed.alike) hp hb k1 k2 k3 T' rfl X'
    exact ⟨t2, st t2 a1, b1⟩
  · obtain ⟨k1, k2, k3⟩ := vx_keep h0 e1 hS hAX hf hL hF
    obtain ⟨t2, a1, b1⟩ := kx E ce q u t T'.heap (locs ++ L) e1.symm (by rw [← e2]; exact X'.warmed.alike) hp hb k1 k2 k3 (by rw [e1]; exact hce) hcv hcl T' rfl X'
    exact ⟨t2, st.trans a1, b1⟩
theorem vx_calld {S SX : Type} {post : UInt64 → S → Prop} {px : SX → Prop} {B : S → State → Prop} {BX : String → SX → State → Prop} {AX : Nat → Prop} (hr : vx_Run p l e R s m args below meth c H locs cells slots mc ms (F0 m pc ls st0) rest (va_Qd post B A1 a) (vx_X px BX AX) free) (hS : va_S A0 H0 H locs) (hA : ∀ q, q < H.size → A1 q → A0 q) (hf : ∀ q, free q → A0 q) (hAX : ∀ q, q < H.size → AX q → A0 q)
    (kx : ∀ (E : String) (ce : Cell) (q9 : Addr) (u : SX) (t : State) (H1 : Heap) (locs1 : List Loc), t.heap = H1 → s.vm.Alike t.vm → px u → BX E u t → H.size ≤ H1.size → (∀ q : Nat, q < H.size → ¬ AX q → H1[q]? = H[q]?) → va_S A0 H0 H1 locs1 → H1[q9]? = some ce → ce.vm = .none → s.vm.findClass E = some ce.cls → vx_W p l e R s m args below meth c H1 locs1 (cells + mc) (slots + ms) Q (F0 m pc ls rest) q9)
    (kk : ∀ (r : UInt64) (u : S) (t : State) (H1 : Heap) (locs1 : List Loc), t.heap = H1 → s.vm.Alike t.vm → post r u → B u t → H.size ≤ H1.size → (∀ q : Nat, q < H.size → ¬ A1 q → H1[q]? = H[q]?) → va_S A0 H0 H1 locs1 → W p l e R s m args below meth c H1 locs1 (cells + mc) (slots + ms) Q (F0 m (pc + 3) ls (.double r :: rest))) : W p l e R s m args below meth c H locs cells slots Q (F0 m pc ls st0) := by
  intro T hT X
  rcases hr T hT X with ⟨v, st₀, t, T', L, h0, X', hL, e1, e2, ⟨⟨r, u, hv, hp, hb⟩, hF⟩, st⟩ | ⟨q, st₀, t, T', L, E, ce, h0, X', hL, e1, e2, ⟨u, hp, hb, hF⟩, hce, hcv, hcl, st⟩
  · cases hv
    obtain ⟨k1, k2, k3⟩ := vx_keep h0 e1 hS hA hf hL hF
    obtain ⟨t2, a1, b1⟩ := kk r u t T'.heap (locs ++ L) e1.symm (by rw [← e2]; exact X'.warmed.alike) hp hb k1 k2 k3 T' rfl X'
    exact ⟨t2, st t2 a1, b1⟩
  · obtain ⟨k1, k2, k3⟩ := vx_keep h0 e1 hS hAX hf hL hF
    obtain ⟨t2, a1, b1⟩ := kx E ce q u t T'.heap (locs ++ L) e1.symm (by rw [← e2]; exact X'.warmed.alike) hp hb k1 k2 k3 (by rw [e1]; exact hce) hcv hcl T' rfl X'
    exact ⟨t2, st.trans a1, b1⟩
theorem vx_callv {S SX : Type} {post : S → Prop} {px : SX → Prop} {B : S → State → Prop} {BX : String → SX → State → Prop} {AX : Nat → Prop} (hr : vx_Run p l e R s m args below meth c H locs cells slots mc ms (F0 m pc ls st0) rest (va_Qv post B A1 a) (vx_X px BX AX) free) (hS : va_S A0 H0 H locs) (hA : ∀ q, q < H.size → A1 q → A0 q) (hf : ∀ q, free q → A0 q) (hAX : ∀ q, q < H.size → AX q → A0 q)
    (kx : ∀ (E : String) (ce : Cell) (q9 : Addr) (u : SX) (t : State) (H1 : Heap) (locs1 : List Loc), t.heap = H1 → s.vm.Alike t.vm → px u → BX E u t → H.size ≤ H1.size → (∀ q : Nat, q < H.size → ¬ AX q → H1[q]? = H[q]?) → va_S A0 H0 H1 locs1 → H1[q9]? = some ce → ce.vm = .none → s.vm.findClass E = some ce.cls → vx_W p l e R s m args below meth c H1 locs1 (cells + mc) (slots + ms) Q (F0 m pc ls rest) q9)
    (kk : ∀ (u : S) (t : State) (H1 : Heap) (locs1 : List Loc), t.heap = H1 → s.vm.Alike t.vm → post u → B u t → H.size ≤ H1.size → (∀ q : Nat, q < H.size → ¬ A1 q → H1[q]? = H[q]?) → va_S A0 H0 H1 locs1 → W p l e R s m args below meth c H1 locs1 (cells + mc) (slots + ms) Q (F0 m (pc + 3) ls (rest))) : W p l e R s m args below meth c H locs cells slots Q (F0 m pc ls st0) := by
  intro T hT X
  rcases hr T hT X with ⟨v, st₀, t, T', L, h0, X', hL, e1, e2, ⟨⟨u, hv, hp, hb⟩, hF⟩, st⟩ | ⟨q, st₀, t, T', L, E, ce, h0, X', hL, e1, e2, ⟨u, hp, hb, hF⟩, hce, hcv, hcl, st⟩
  · cases hv
    obtain ⟨k1, k2, k3⟩ := vx_keep h0 e1 hS hA hf hL hF
    obtain ⟨t2, a1, b1⟩ := kk u t T'.heap (locs ++ L) e1.symm (by rw [← e2]; exact X'.warmed.alike) hp hb k1 k2 k3 T' rfl X'
    exact ⟨t2, st t2 a1, b1⟩
  · obtain ⟨k1, k2, k3⟩ := vx_keep h0 e1 hS hAX hf hL hF
    obtain ⟨t2, a1, b1⟩ := kx E ce q u t T'.heap (locs ++ L) e1.symm (by rw [← e2]; exact X'.warmed.alike) hp hb k1 k2 k3 (by rw [e1]; exact hce) hcv hcl T' rfl X'
    exact ⟨t2, st.trans a1, b1⟩
/-- caught by the row x of this method's table; the rows ahead don't take it -/
theorem vx_catch {own name : String} {E : String} {ce : Cell} {q : Addr} (hown : s.vm.findClass own = some m.cls) (pre : List ExceptionTableEntry) (x : ExceptionTableEntry) (suf : List ExceptionTableEntry) (hsplit : c.exceptionTable.toList = pre ++ x :: suf)
    (hpass : ∀ z ∈ pre, covers z pc = false ∨ (z.catchType ≠ 0 ∧ ∃ nm : String, (Cond.classLink own z.catchType nm).before args s = true ∧ va_Nc E nm s)) (hx : covers x pc = true) (h0 : x.catchType ≠ 0)
    (hlink : (Cond.classLink own x.catchType name).before args s = true) (hcast : (Cond.castable E name).before args s = true) (hcell : H[q]? = some ce) (hv : ce.vm = .none) (hcl : s.vm.findClass E = some ce.cls)
    (kk : W p l e R s m args below meth c H locs cells slots Q (F0 m x.handlerPc ls [.ref q])) : vx_W p l e R s m args below meth c H locs cells slots Q (F0 m pc ls rest) q := by
  intro T hT X
  have hpl : e.platform.magicAccessors = ({} : Platform).magicAccessors := by rw [X.admits.platform]
  obtain ⟨c3, c4, hc3, hc4, hasg⟩ := Cond.castable_spec hcast
  cases Option.some.inj (hc3.symm.trans hcl)
  obtain ⟨c5, hc5, hcl5⟩ := Cond.classLink_spec hown hlink e.platform hpl
  cases Option.some.inj (hc4.symm.trans hc5)
  obtain ⟨vm', X', st⟩ := X.thenCaughtThrough q (g := F0 m pc ls rest) rfl (Steps.refl _) (by rw [hT]; exact hcell) (by rw [hv]; rfl) (by obtain ⟨k9, h9, -⟩ := Vm.findClass_spec hcl; exact ⟨k9, h9⟩) pre x suf hsplit
    (fun z hz => by
      rcases hpass z hz with h | ⟨hz0, nm, hl1, hn1⟩
      · exact Or.inl h
      · obtain ⟨c6, hc6, hcl6⟩ := Cond.classLink_spec hown hl1 e.platform hpl
        obtain ⟨a8, b8, h1, h2, h3⟩ := hn1
        cases Option.some.inj (h1.symm.trans hcl)
        cases Option.some.inj (h2.symm.trans hc6)
        exact Or.inr ⟨hz0, _, hcl6, h3⟩) hx (Or.inr ⟨h0, c4, hcl5, hasg⟩)
  obtain ⟨t, a1, b1⟩ := kk (T.setVm vm') hT X'
  exact ⟨t, st.trans a1, b1⟩
end Rows
section Ends
variable {p : Program} {l : Launch} {e : Env} {R : Room} {s : State} {m : MethodId} {args : Array Value} {below : List Frame} {meth : Method} {c : Code} {H : Heap} {locs : List Loc} {cells slots : Nat} {Q : State → Prop}
variable {mc ms : Nat} {free : Addr → Prop} {A0 A1 : Nat → Prop} {H0 : Heap} {a : Array Value} {ls : Array Slot} {st0 rest : List Value}
variable {Qc : Array Value → State → Outcome → State → Prop} {XC : String → State → State → Prop}
/-- what a body that may throw owes at its end -/
def vx_MQ (below : List Frame) (Qc : Array Value → State → Outcome → State → Prop) (XC : String → State → State → Prop) (a : Array Value) (s : State) (mc ms : Nat) (free : Addr → Prop) : State → Prop := fun t =>
  ∃ o, t.status = .running ∧ Ended t below o ∧ vx_Q Qc XC mc ms free a s o t
theorem vx_ret {g : JFrame} {mc ms : Nat} (k : W p l e R s m args below meth c H locs cells slots (MQ below Qc args s mc ms free) g) : W p l e R s m args below meth c H locs cells slots (vx_MQ below Qc XC args s mc ms free) g := by
  intro T hT X
  obtain ⟨t, a1, o, b1, b2, b3, b4⟩ := k T hT X
  exact ⟨t, a1, o, b1, b2, Or.inl ⟨b3, b4⟩⟩
/-- not caught here: it goes on to the caller -/
theorem vx_widen {g : JFrame} {q : Addr} {k n : Nat} (h1 : cells ≤ k) (h2 : slots ≤ n) (kk : vx_W p l e R s m args below meth c H locs k n Q g q) : vx_W p l e R s m args below meth c H locs cells slots Q g q := fun T hT X => kk T hT (stand_widen X h1 h2)
theorem vx_out {pc : Nat} {E : String} {ce : Cell} {q : Addr} {mc ms : Nat} (hout : ∀ x ∈ c.exceptionTable.toList, covers x pc = false) (hlocks : meth.locks = false) (hcell : H[q]? = some ce) (hv : ce.vm = .none) (hcl : s.vm.findClass E = some ce.cls)
    (hx : ∀ t : State, t.heap = H → s.vm.Alike t.vm → XC E s t) (hf : ∀ z ∈ locs, free z.base) (hc : cells ≤ mc) (hs : slots ≤ ms) :
    vx_W p l e R s m args below meth c H locs cells slots (vx_MQ below Qc XC args s mc ms free) (F0 m pc ls rest) q := by
  intro T hT X
  obtain ⟨st1, hrun, hend, hW, hsm⟩ := X.leaveThrown q (g := F0 m pc ls rest) rfl rfl rfl hout hlocks
  have hcell9 : (T.setFrames (.throwing q :: below)).heap[q]? = some ce := by
    show T.heap[q]? = some ce
    rw [hT]; exact hcell
  exact ⟨_, st1, .threw q, hrun, hend, Or.inr ⟨q, rfl, E, ce, locs, hx _ hT hW.alike, hcell9, hv, hcl, hW, hsm.mono hc hs, hf⟩⟩
theorem vx_frame {U : State} {k n : Nat} (h : s.sameButNew ({ U with vm := s.vm } : State) locs k n) : s.heap.size ≤ U.heap.size ∧ ∀ q : Nat, q < s.heap.size → (∀ z ∈ locs, z.base ≠ q) → U.heap[q]? = s.heap[q]? := by
  obtain ⟨-, h2, -, -, -, h6⟩ := h
  refine ⟨h2, fun q hq hz => ?_⟩
  obtain ⟨c9, e1, e2, e3, e4⟩ := h6 q _ (Array.getElem?_eq_getElem hq)
  have hs : c9.slots = (s.heap[q]).slots := Array.ext_getElem? fun i => e4 i fun hm => hz _ hm rfl
  have h9 : c9 = s.heap[q] := by
    rw [hs] at e2
    exact e2
  have e5 : U.heap[q]? = some c9 := e1
  rw [e5, h9, Array.getElem?_eq_getElem hq]
/-- the words of a throw but the four that speak of the heap -/
def vx_no (w : Cond) : Bool := decide (w ≠ .isRef (.static Bundle.tN "UNASSIGNED_STACK" Bundle.steD)) && decide (w ≠ .isRef (.static Bundle.tN "SUPPRESSED_SENTINEL" Bundle.listD)) && decide (w ≠ .laysStatic Bundle.tN "UNASSIGNED_STACK" Bundle.steD) && decide (w ≠ .laysStatic Bundle.tN "SUPPRESSED_SENTINEL" Bundle.listD)
def vx_at0 (own : String) (ic : Nat) (X : String) (names : List String) : List Cond := (Bundle.ownAtoms0 own ic X names).filter vx_no
def vx_atS (own : String) (ic : Nat) (X : String) (names : List String) : List Cond := (Bundle.ownAtoms own ic X names).filter vx_no
/-- a word that the tables alone decide, or a good one -/
def vx_ot (w : Cond) : Bool := w.onTables || goodWord w
theorem vx_ot_at {args a' : Array Value} {s U : State} {w : Cond} (hW : s.WarmedH U.vm) (hvm : s.vm = U.vm) (hg : vx_ot w = true) (h : w.before args s = true) : w.before a' U = true := by
  simp only [vx_ot, Bool.or_eq_true] at hg
  rcases hg with hg | hg
  · exact va_tabs hg hvm h
  · exact word_at hW (good_of_word hg) h
/-- a list's words: the good ones out of the method's own list, the others by premises of their own -/
theorem vx_hat {args : Array Value} {s : State} {L B : List Cond} (h1 : ∀ w ∈ L.filter goodWord, w.before args s = true) (h2 : ∀ w ∈ L.filter (fun w => !goodWord w), w ∈ B) (h3 : ∀ w ∈ B, w.before args s = true) : ∀ w ∈ L, w.before args s = true := by
  intro w hw
  by_cases g : goodWord w = true
  · exact h1 w (List.mem_filter.mpr ⟨hw, g⟩)
  · refine h3 w (h2 w (List.mem_filter.mpr ⟨hw, ?_⟩))
    show (!goodWord w) = true
    cases hgw : goodWord w
    · rfl
    · exact absurd hgw g
theorem vx_c {args : Array Value} {s : State} {w : Cond} {B : List Cond} (h : w.before args s = true) (t : ∀ w ∈ B, w.before args s = true) : ∀ w' ∈ w :: B, w'.before args s = true := fun w' h' => (List.mem_cons.mp h').elim (fun e => by rw [e]; exact h) (t w')
theorem vx_n {args : Array Value} {s : State} : ∀ w ∈ ([] : List Cond), w.before args s = true := fun _ h => nomatch h
theorem vx_own {args : Array Value} {s : State} {L : List Cond} (h1 : ∀ w ∈ L.filter vx_no, w.before args s = true)
    (hU : (Cond.isRef (.static Bundle.tN "UNASSIGNED_STACK" Bundle.steD)).before args s = true) (hN : (Cond.isRef (.static Bundle.tN "SUPPRESSED_SENTINEL" Bundle.listD)).before args s = true)
    (lU : (Cond.laysStatic Bundle.tN "UNASSIGNED_STACK" Bundle.steD).before args s = true) (lN : (Cond.laysStatic Bundle.tN "SUPPRESSED_SENTINEL" Bundle.listD).before args s = true) : ∀ w ∈ L, w.before args s = true := by
  intro w hw
  by_cases e1 : w = .isRef (.static Bundle.tN "UNASSIGNED_STACK" Bundle.steD)
  · rw [e1]; exact hU
  · by_cases e2 : w = .isRef (.static Bundle.tN "SUPPRESSED_SENTINEL" Bundle.listD)
    · rw [e2]; exact hN
    · by_cases e3 : w = .laysStatic Bundle.tN "UNASSIGNED_STACK" Bundle.steD
      · rw [e3]; exact lU
      · by_cases e4 : w = .laysStatic Bundle.tN "SUPPRESSED_SENTINEL" Bundle.listD
        · rw [e4]; exact lN
        · exact h1 w (List.mem_filter.mpr ⟨hw, by unfold vx_no; rw [decide_eq_true e1, decide_eq_true e2, decide_eq_true e3, decide_eq_true e4]; rfl⟩)
/-- where a static field lies, its class's statics cell in H -/
def vx_L (C n d : String) (A : Nat → Prop) (U : State) (H : Heap) : Prop := ∃ (c : ClassId) (k : Class) (i : Nat) (f : Field) (a : Nat) (cell : Cell), U.vm.findClass C = some c ∧ U.fieldFound? C n d = some (c, k, i, f) ∧ f.isStatic = true ∧ k.statics = some a ∧ H[a]? = some cell ∧ cell.vm.isStatics = true ∧ cell.cls = c ∧ f.slot < cell.slots.size ∧ k.staticTypes[f.slot]? = some f.type ∧ ¬ A a
theorem vx_L.moved {C n d : String} {A : Nat → Prop} {u U : State} {H : Heap} (hvm : u.vm.Alike U.vm) (h : vx_L C n d A u H) : vx_L C n d A U H := by
  obtain ⟨c, k, i, f, a, cell, h1, h2, h3, h4, h5, h6, h7, h8, h9, h10⟩ := h
  obtain ⟨k', hi', he⟩ := State.fieldFound?_setVm hvm h2
  exact ⟨c, k', i, f, a, cell, by rw [hvm.findClass]; exact h1, hi', h3, by rw [he]; exact h4, h5, h6, h7, h8, by rw [he]; exact h9, h10⟩
theorem vx_L.kept {C n d : String} {A : Nat → Prop} {U : State} {H H1 : Heap} (h : vx_L C n d A U H) (hq : ∀ a : Nat, a < H.size → ¬ A a → H1[a]? = H[a]?) : vx_L C n d A U H1 := by
  obtain ⟨c, k, i, f, a, cell, h1, h2, h3, h4, h5, h6, h7, h8, h9, h10⟩ := h
  exact ⟨c, k, i, f, a, cell, h1, h2, h3, h4, by rw [hq a (Array.getElem?_eq_some_iff.mp h5).1 h10]; exact h5, h6, h7, h8, h9, h10⟩
theorem vx_L.narrow {C n d : String} {A B : Nat → Prop} {U : State} {H : Heap} (h : vx_L C n d A U H) (hAB : ∀ q, B q → A q) : vx_L C n d B U H := by
  obtain ⟨c, k, i, f, a, cell, h1, h2, h3, h4, h5, h6, h7, h8, h9, h10⟩ := h
  exact ⟨c, k, i, f, a, cell, h1, h2, h3, h4, h5, h6, h7, h8, h9, fun z => h10 (hAB _ z)⟩
theorem vx_L.word {C n d : String} {A : Nat → Prop} {s : State} {args : Array Value} (h : vx_L C n d A s s.heap) : (Cond.laysStatic C n d).before args s = true := by
  obtain ⟨c, k, i, f, a, cell, h1, h2, h3, h4, h5, h6, h7, h8, h9, -⟩ := h
  show (Cond.laysStatic C n d).holds args s none s [] = true
  exact Cond.laysStatic_of h1 h2 h3 h4 h5 h6 h7 h8 h9
/-- .. and what it holds: null or some reference -/
def vx_Zq (C n d : String) (A : Nat → Prop) (U : State) (H : Heap) : Prop := va_Zq C n d A U H ∧ vx_L C n d A U H
theorem vx_Zq.moved {C n d : String} {A : Nat → Prop} {u U : State} {H : Heap} (hvm : u.vm.Alike U.vm) (h : vx_Zq C n d A u H) : vx_Zq C n d A U H := ⟨va_Zq.moved hvm h.1, vx_L.moved hvm h.2⟩
theorem vx_Zq.kept {C n d : String} {A : Nat → Prop} {U : State} {H H1 : Heap} (h : vx_Zq C n d A U H) (hq : ∀ a : Nat, a < H.size → ¬ A a → H1[a]? = H[a]?) : vx_Zq C n d A U H1 := ⟨va_Zq.kept h.1 hq, vx_L.kept h.2 hq⟩
theorem vx_Zq.narrow {C n d : String} {A B : Nat → Prop} {U : State} {H : Heap} (h : vx_Zq C n d A U H) (hAB : ∀ q, B q → A q) : vx_Zq C n d B U H := ⟨va_Zq.narrow h.1 hAB, vx_L.narrow h.2 hAB⟩
theorem vx_Zqof {args : Array Value} {s : State} {C n d : String} {A : Nat → Prop} (hl : (Cond.laysStatic C n d).before args s = true) (hini : (Cond.initialized C).before args s = true) (h : (Cond.isRef (.static C n d)).before args s = true) (hA : ∀ a : Nat, a < s.heap.size → ¬ A a) : vx_Zq C n d A s s.heap := by
  refine ⟨va_Zqof hl hini h hA, ?_⟩
  obtain ⟨c, k, i, f, a, cell, h1, h2, h3, h4, h5, h6, h7, h8, h9⟩ := Cond.laysStatic_spec hl
  exact ⟨c, k, i, f, a, cell, h1, h2, h3, h4, h5, h6, h7, h8, h9, hA a (Array.getElem?_eq_some_iff.mp h5).1⟩
theorem vx_isRef {C n d : String} {v : Value} {A : Nat → Prop} {s : State} {args : Array Value} (h : va_Z C n d v A s s.heap) (hv : v.isRef = true) : (Cond.isRef (.static C n d)).before args s = true := by
  obtain ⟨cf, kf, fi, f, a, cell, h1, h2, h3, h4, h5, h6, h7, -⟩ := h
  have he : (Term.static C n d).eval args s none [] s = some v := by
    simp [Term.eval, State.fieldNamed?, h1, h2, h4, h5, h6, h7]
  simp only [Cond.before, Cond.holds, Cond.value, he]
  cases v <;> simp_all [Value.isRef]
theorem vx_isRefq {C n d : String} {A : Nat → Prop} {s : State} {args : Array Value} (h : va_Zq C n d A s s.heap) : (Cond.isRef (.static C n d)).before args s = true := by
  rcases h with h | ⟨t, h⟩
  · exact vx_isRef h rfl
  · exact vx_isRef h rfl
/-- the same frame, seen from here: as if the method were called anew in this heap -/
theorem vx_rebase {T : State} (X : Stand p l e R s m args below meth c T locs cells slots) {R' : Room} (hf : R'.frames ≤ R.frames) (hl : R'.locals ≤ R.locals) (hc : cells + R'.cells ≤ R.cells) (hs : slots + R'.slots ≤ R.slots) :
    Stand p l e R' ((T.setVm s.vm).setFrames (.invoking m args :: below)) m args below meth c T [] 0 0 := by
  have htop : (T.setVm s.vm).topJava?.isSome := X.here.top
  have hF : ((T.setVm s.vm).setFrames (.invoking m args :: below)).frames = .invoking m args :: below := State.frames_setFrames _ (State.cur_lt_of_top htop)
  obtain ⟨g₀, hg0⟩ := Option.isSome_iff_exists.mp htop
  obtain ⟨r, hr⟩ := State.topJava?_eq_some.mp hg0
  have hl9 : e.platform.stackLimits (T.setVm s.vm).me = e.platform.stackLimits s.me := X.limits
  have hb9 : (T.setVm s.vm).me.stackBytes = s.me.stackBytes := X.bytes
  refine ⟨X.admits, X.cas, X.clock, hF, ?_, X.hears, X.method, X.code, X.here, X.tail, X.warmed, ?_, ?_, ?_⟩
  · have h := X.room
    have hU : ((T.setVm s.vm).setFrames (.invoking m args :: below)).localsInUse = s.localsInUse := by
      rw [State.localsInUse_invoking hF (meth := meth) (c := c) X.method X.code, State.localsInUse_invoking X.frames X.method X.code]
    simp only [State.hasRoom, Bool.and_eq_true, decide_eq_true_eq] at h ⊢
    obtain ⟨⟨⟨⟨h1, h2, h3, h4, h5, h6⟩, h7⟩, h8⟩, h9⟩ := h
    rw [X.frames, List.length_cons] at h2 h3
    have q1 := X.heapSize
    have q2 := X.used
    simp only [hF, hU, List.length_cons, State.stackLimits_setFrames, State.stackBytes_setFrames, hl9, hb9]
    refine ⟨⟨⟨⟨by omega, by omega, by omega, by omega, by omega, h6⟩, ?_⟩, ?_⟩, X.book⟩
    · show T.heap.size + R'.cells ≤ e.platform.maxCells
      omega
    · show T.slotsUsed + R'.slots ≤ e.platform.maxSlots
      omega
  · rw [State.stackLimits_setFrames]; rfl
  · rw [State.stackBytes_setFrames]; rfl
  · refine ⟨?_, Nat.le_refl _, Nat.le_refl _, ?_, ?_, fun a c9 h9 => ⟨c9, h9, rfl, rfl, fun _ _ => rfl⟩⟩
    · obtain ⟨t, ht, -⟩ := State.frames_cons hr
      show T.setVm s.vm = { ((T.setVm s.vm).setFrames (.invoking m args :: below)).setFrames (T.setVm s.vm).frames with heap := T.heap, slotsUsed := T.slotsUsed }
      rw [State.setFrames_setFrames, State.setFrames_self ht]
      rfl
    · show T.slotsUsed = T.slotsUsed + ((T.heap.toList.drop T.heap.size).map (·.slots.size)).sum
      rw [List.drop_eq_nil_of_le (Nat.le_of_eq Array.length_toList)]
      rfl
    · show ((T.heap.toList.drop T.heap.size).map (·.slots.size)).sum ≤ 0
      rw [List.drop_eq_nil_of_le (Nat.le_of_eq Array.length_toList)]
      exact Nat.le_refl _
/-- 'throw new E()': new; dup; invokespecial; athrow -/
theorem vx_throw0 {cc : ByteArray} {pc : Nat} (hexec : p.tables.exec = Jvm.exec) (hb : c.code = cc) (hl : l.stackTraces = false) {own cls : String} {names : List String} {ik ic mc ms : Nat} {A : Nat → Prop}
    (hown : s.vm.findClass own = some m.cls) (hcls : Bundle.fit cls = true) (hnames : ∀ n ∈ names, Bundle.fit n = true)
    (hk : (Cond.classLink own ik cls).before args s = true) (hini : (Cond.initialized cls).before args s = true) (hat : ∀ w ∈ vx_at0 own ic cls names, w.before args s = true)
    (hgood : ∀ w ∈ Cond.classLink own ik cls :: Cond.initialized cls :: vx_at0 own ic cls names, vx_ot w = true)
    (hU : vx_Zq Bundle.tN "UNASSIGNED_STACK" Bundle.steD A s s.heap) (hN : vx_Zq Bundle.tN "SUPPRESSED_SENTINEL" Bundle.listD A s s.heap) (hS : va_S A s.heap H locs) (hsize : ls.size = c.maxLocals)
    (d0 : decode cc pc = .ok (.new ik, 3)) (d3 : decode cc (pc + 3) = .ok (.dup, 1)) (d4 : decode cc (pc + 4) = .ok (.invokespecial ic, 3)) (d7 : decode cc (pc + 7) = .ok (.athrow, 1))
    (hout : ∀ x ∈ c.exceptionTable.toList, covers x (pc + 7) = false)
    (hRframes : names.length + 3 < R.frames) (hRlocals : (rest.map fun v => v.category).sum + (13 * (names.length + 1) + 42) ≤ R.locals) (hRcells : cells + 1 ≤ R.cells) (hRslots : slots + 6 ≤ R.slots) (hlocks : meth.locks = false)
    (hx : ∀ t : State, s.vm.Alike t.vm → H.size ≤ t.heap.size → (∀ q : Nat, q < H.size → t.heap[q]? = H[q]?) → XC cls s t)
    (hf : ∀ z ∈ locs, free z.base) (hc : cells + 1 ≤ mc) (hs : slots + 6 ≤ ms) :
    W p l e R s m args below meth c H locs cells slots (vx_MQ below Qc XC args s mc ms free) (F0 m pc ls rest) := by
  intro T hT X
  have htr : e.platform.stackTraces = false := (show e.platform.stackTraces = l.stackTraces by rw [X.admits.platform]).trans hl
  have Y := vx_rebase X (R' := { frames := R.frames, locals := R.locals, cells := 1, slots := 6 }) (Nat.le_refl _) (Nat.le_refl _) hRcells hRslots
  obtain ⟨s', hA⟩ : ∃ z, z = (T.setVm s.vm).setFrames (.invoking m args :: below) := ⟨_, rfl⟩
  rw [← hA] at Y
  have hvm : s'.vm = s.vm := by rw [hA]; rfl
  have hhp : s'.heap = H := by rw [hA]; exact hT
  have hW0 : s.WarmedH s'.vm := by rw [hvm]; exact State.WarmedH.refl s
  have hat' : ∀ w ∈ vx_at0 own ic cls names, w.before args s' = true := fun w hw => vx_ot_at hW0 hvm.symm (hgood w (List.mem_cons_of_mem _ (List.mem_cons_of_mem _ hw))) (hat w hw)
  have hk' : (Cond.classLink own ik cls).before args s' = true := vx_ot_at hW0 hvm.symm (hgood _ List.mem_cons_self) hk
  have hini' : (Cond.initialized cls).before args s' = true := vx_ot_at hW0 hvm.symm (hgood _ (List.mem_cons_of_mem _ List.mem_cons_self)) hini
  have hU' : vx_Zq Bundle.tN "UNASSIGNED_STACK" Bundle.steD A s' s'.heap := by rw [hhp]; exact vx_Zq.moved hW0.alike (hU.kept hS.2.1)
  have hN' : vx_Zq Bundle.tN "SUPPRESSED_SENTINEL" Bundle.listD A s' s'.heap := by rw [hhp]; exact vx_Zq.moved hW0.alike (hN.kept hS.2.1)
  have h : ∀ w ∈ Bundle.ownAtoms0 own ic cls names, w.before args s' = true := vx_own hat' (vx_isRefq hU'.1) (vx_isRefq hN'.1) hU'.2.word hN'.2.word
  have hown' : s'.vm.findClass own = some m.cls := by rw [hvm]; exact hown
  have hins : (Cond.instantiable cls 6).before args s' = true := h _ (by simp [Bundle.ownAtoms0])
  obtain ⟨vm₁, cX, kX, hfX, hkX, -, -, X₁, st1⟩ := Y.newCold hexec (own := own) (C := cls) (index := ik) (n := 6) hown' hk' hins hini'
    (g := F0 m pc ls rest) rfl (by rw [hb]; exact d0) (Nat.le_refl _) (Nat.le_refl _)
  generalize hT1 : (T.setVm vm₁).pushCell { cls := cX, slots := kX.instanceTypes.map defaultValue, vm := .none } = T1 at X₁ st1
  have hcat : (Value.ref T.heap.size).category = 1 := rfl
  have hcellA : T1.heap[T.heap.size]? = some (freshCell cX kX) := by rw [← hT1]; exact State.heap_pushCell_size _ _
  have d3' : decode c.code (pc + 3) = .ok (.dup, 1) := by rw [hb]; exact d3
  obtain ⟨U, hsteps, hrun, hend, hW, hsame, ce, hce, hO⟩ := X₁.ctorThrow0 hexec htr (own := own) (cls := cls) (names := names) (ic := ic) hown' hcls hnames h (fun x hx => nomatch hx) hfX hkX hcellA (by rw [hhp, hT]; exact Nat.le_refl _)
    (g := { method := m, pc := pc + 4, locals := ls, stack := .ref T.heap.size :: .ref T.heap.size :: rest, locked := none }) rfl hsize rfl rfl (rest := rest) rfl
    (by rw [hb]; exact d4) (by rw [hb]; exact d7) hout hRframes (by simp only [List.map_cons, List.sum_cons, hcat]; omega) hlocks
  obtain ⟨f1, f2⟩ := vx_frame hsame
  rw [hhp] at f1 f2
  have hWs : s.WarmedH U.vm := State.WarmedH.trans hW0 hW
  have hcl : s.vm.findClass cls = some ce.cls := by
    have h9 := hO.cls
    rw [hvm] at h9
    exact h9
  have hall : s.sameButNew ({ U with vm := s.vm } : State) locs mc ms := by
    subst hA
    obtain ⟨e1, e2⟩ := hsame
    rw [State.setFrames_setFrames] at e1
    have h2 : (T.setVm s.vm).sameButNew ({ U with vm := s.vm } : State) [] (0 + 1) (0 + 6) := ⟨e1, e2⟩
    have h3 := X.same.trans h2
    rw [List.append_nil] at h3
    exact h3.mono hc hs
  refine ⟨U, ?_, .threw T.heap.size, hrun, hend, Or.inr ⟨T.heap.size, rfl, cls, ce, locs, hx U hWs.alike f1 (fun q hq => f2 q hq (fun z hz => nomatch hz)), hce, hO.vm, hcl, hWs, hall, hf⟩⟩
  refine st1 _ ?_
  show Steps p.tables e below (T1.setTop { method := m, pc := pc + 3, locals := ls, stack := .ref T.heap.size :: rest, locked := none }) _
  jvm_step X₁.here [X₁.here.top, hexec, d3', Value.category]
  exact hsteps
/-- 'throw new E("text")': new; dup; ldc; invokespecial; athrow -/
theorem vx_throwS {cc : ByteArray} {pc : Nat} (hexec : p.tables.exec = Jvm.exec) (hb : c.code = cc) (hl : l.stackTraces = false) {own cls text : String} {names : List String} {ik is ic mc ms sa : Nat} {A : Nat → Prop}
    (hown : s.vm.findClass own = some m.cls) (hcls : Bundle.fit cls = true) (hnames : ∀ n ∈ names, Bundle.fit n = true)
    (hk : (Cond.classLink own ik cls).before args s = true) (hini : (Cond.initialized cls).before args s = true) (hstr : vk_R own is text sa s) (hat : ∀ w ∈ vx_atS own ic cls names, w.before args s = true)
    (hgood : ∀ w ∈ Cond.classLink own ik cls :: Cond.initialized cls :: vx_atS own ic cls names, vx_ot w = true)
    (hU : vx_Zq Bundle.tN "UNASSIGNED_STACK" Bundle.steD A s s.heap) (hN : vx_Zq Bundle.tN "SUPPRESSED_SENTINEL" Bundle.listD A s s.heap) (hS : va_S A s.heap H locs) (hsize : ls.size = c.maxLocals)
    (d0 : decode cc pc = .ok (.new ik, 3)) (d3 : decode cc (pc + 3) = .ok (.dup, 1)) (d4 : decode cc (pc + 4) = .ok (.ldc is, 2)) (d6 : decode cc (pc + 6) = .ok (.invokespecial ic, 3)) (d9 : decode cc (pc + 9) = .ok (.athrow, 1))
    (hout : ∀ x ∈ c.exceptionTable.toList, covers x (pc + 9) = false)
    (hRframes : names.length + 3 < R.frames) (hRlocals : (rest.map fun v => v.category).sum + (13 * (names.length + 1) + 43) ≤ R.locals) (hRcells : cells + 1 ≤ R.cells) (hRslots : slots + 6 ≤ R.slots) (hlocks : meth.locks = false)
    (hx : ∀ t : State, s.vm.Alike t.vm → H.size ≤ t.heap.size → (∀ q : Nat, q < H.size → t.heap[q]? = H[q]?) → XC cls s t)
    (hf : ∀ z ∈ locs, free z.base) (hc : cells + 1 ≤ mc) (hs : slots + 6 ≤ ms) :
    W p l e R s m args below meth c H locs cells slots (vx_MQ below Qc XC args s mc ms free) (F0 m pc ls rest) := by
  intro T hT X
  have htr : e.platform.stackTraces = false := (show e.platform.stackTraces = l.stackTraces by rw [X.admits.platform]).trans hl
  have Y := vx_rebase X (R' := { frames := R.frames, locals := R.locals, cells := 1, slots := 6 }) (Nat.le_refl _) (Nat.le_refl _) hRcells hRslots
  obtain ⟨s', hA⟩ : ∃ z, z = (T.setVm s.vm).setFrames (.invoking m args :: below) := ⟨_, rfl⟩
  rw [← hA] at Y
  have hvm : s'.vm = s.vm := by rw [hA]; rfl
  have hhp : s'.heap = H := by rw [hA]; exact hT
  have hW0 : s.WarmedH s'.vm := by rw [hvm]; exact State.WarmedH.refl s
  have hat' : ∀ w ∈ vx_atS own ic cls names, w.before args s' = true := fun w hw => vx_ot_at hW0 hvm.symm (hgood w (List.mem_cons_of_mem _ (List.mem_cons_of_mem _ hw))) (hat w hw)
  have hk' : (Cond.classLink own ik cls).before args s' = true := vx_ot_at hW0 hvm.symm (hgood _ List.mem_cons_self) hk
  have hini' : (Cond.initialized cls).before args s' = true := vx_ot_at hW0 hvm.symm (hgood _ (List.mem_cons_of_mem _ List.mem_cons_self)) hini
  have hU' : vx_Zq Bundle.tN "UNASSIGNED_STACK" Bundle.steD A s' s'.heap := by rw [hhp]; exact vx_Zq.moved hW0.alike (hU.kept hS.2.1)
  have hN' : vx_Zq Bundle.tN "SUPPRESSED_SENTINEL" Bundle.listD A s' s'.heap := by rw [hhp]; exact vx_Zq.moved hW0.alike (hN.kept hS.2.1)
  have h : ∀ w ∈ Bundle.ownAtoms own ic cls names, w.before args s' = true := vx_own hat' (vx_isRefq hU'.1) (vx_isRefq hN'.1) hU'.2.word hN'.2.word
  have hown' : s'.vm.findClass own = some m.cls := by rw [hvm]; exact hown
  have hins : (Cond.instantiable cls 6).before args s' = true := h _ (by simp [Bundle.ownAtoms])
  obtain ⟨vm₁, cX, kX, hfX, hkX, -, -, X₁, st1⟩ := Y.newCold hexec (own := own) (C := cls) (index := ik) (n := 6) hown' hk' hins hini'
    (g := F0 m pc ls rest) rfl (by rw [hb]; exact d0) (Nat.le_refl _) (Nat.le_refl _)
  generalize hT1 : (T.setVm vm₁).pushCell { cls := cX, slots := kX.instanceTypes.map defaultValue, vm := .none } = T1 at X₁ st1
  have hcat : (Value.ref T.heap.size).category = 1 := rfl
  have hcellA : T1.heap[T.heap.size]? = some (freshCell cX kX) := by rw [← hT1]; exact State.heap_pushCell_size _ _
  have d3' : decode c.code (pc + 3) = .ok (.dup, 1) := by rw [hb]; exact d3
  have d4' : decode c.code (pc + 4) = .ok (.ldc is, 2) := by rw [hb]; exact d4
  have hstr' : vk_R own is text sa s' := vk_R.warm hW0 hstr
  obtain ⟨U, hsteps, hrun, hend, hW, hsame, ce, hce, hO⟩ := X₁.ctorThrowS hexec htr (own := own) (cls := cls) (names := names) (ic := ic) hown' hcls hnames h (fun x hx => nomatch hx) hfX hkX hcellA (by rw [hhp, hT]; exact Nat.le_refl _) (msg := .ref sa) rfl
    (g := { method := m, pc := pc + 6, locals := ls, stack := .ref sa :: .ref T.heap.size :: .ref T.heap.size :: rest, locked := none }) rfl hsize rfl rfl (rest := rest) rfl
    (by rw [hb]; exact d6) (by rw [hb]; exact d9) hout hRframes (by simp only [List.map_cons, List.sum_cons, hcat]; omega) hlocks
  obtain ⟨f1, f2⟩ := vx_frame hsame
  rw [hhp] at f1 f2
  have hWs : s.WarmedH U.vm := State.WarmedH.trans hW0 hW
  have hcl : s.vm.findClass cls = some ce.cls := by
    have h9 := hO.cls
    rw [hvm] at h9
    exact h9
  have hall : s.sameButNew ({ U with vm := s.vm } : State) locs mc ms := by
    subst hA
    obtain ⟨e1, e2⟩ := hsame
    rw [State.setFrames_setFrames] at e1
    have h2 : (T.setVm s.vm).sameButNew ({ U with vm := s.vm } : State) [] (0 + 1) (0 + 6) := ⟨e1, e2⟩
    have h3 := X.same.trans h2
    rw [List.append_nil] at h3
    exact h3.mono hc hs
  refine ⟨U, ?_, .threw T.heap.size, hrun, hend, Or.inr ⟨T.heap.size, rfl, cls, ce, locs, hx U hWs.alike f1 (fun q hq => f2 q hq (fun z hz => nomatch hz)), hce, hO.vm, hcl, hWs, hall, hf⟩⟩
  refine st1 _ ?_
  show Steps p.tables e below (T1.setTop { method := m, pc := pc + 3, locals := ls, stack := .ref T.heap.size :: rest, locked := none }) _
  jvm_step X₁.here [X₁.here.top, hexec, d3', Value.category]
  exact X₁.ldcString hexec (own := own) (text := text) (index := is) (a := sa) hown' hstr'.1 hstr'.2
    (g := { method := m, pc := pc + 4, locals := ls, stack := .ref T.heap.size :: .ref T.heap.size :: rest, locked := none }) rfl d4' _ hsteps
/-- 'throw new E("text")', the text by a wide index -/
theorem vx_throwSW {cc : ByteArray} {pc : Nat} (hexec : p.tables.exec = Jvm.exec) (hb : c.code = cc) (hl : l.stackTraces = false) {own cls text : String} {names : List String} {ik is ic mc ms sa : Nat} {A : Nat → Prop}
    (hown : s.vm.findClass own = some m.cls) (hcls : Bundle.fit cls = true) (hnames : ∀ n ∈ names, Bundle.fit n = true)
    (hk : (Cond.classLink own ik cls).before args s = true) (hini : (Cond.initialized cls).before args s = true) (hstr : vk_R own is text sa s) (hat : ∀ w ∈ vx_atS own ic cls names, w.before args s = true)
    (hgood : ∀ w ∈ Cond.classLink own ik cls :: Cond.initialized cls :: vx_atS own ic cls names, vx_ot w = true)
    (hU : vx_Zq Bundle.tN "UNASSIGNED_STACK" Bundle.steD A s s.heap) (hN : vx_Zq Bundle.tN "SUPPRESSED_SENTINEL" Bundle.listD A s s.heap) (hS : va_S A s.heap H locs) (hsize : ls.size = c.maxLocals)
    (d0 : decode cc pc = .ok (.new ik, 3)) (d3 : decode cc (pc + 3) = .ok (.dup, 1)) (d4 : decode cc (pc + 4) = .ok (.ldc_w is, 3)) (d7 : decode cc (pc + 7) = .ok (.invokespecial ic, 3)) (d10 : decode cc (pc + 10) = .ok (.athrow, 1))
    (hout : ∀ x ∈ c.exceptionTable.toList, covers x (pc + 10) = false)
    (hRframes : names.length + 3 < R.frames) (hRlocals : (rest.map fun v => v.category).sum + (13 * (names.length + 1) + 43) ≤ R.locals) (hRcells : cells + 1 ≤ R.cells) (hRslots : slots + 6 ≤ R.slots) (hlocks : meth.locks = false)
    (hx : ∀ t : State, s.vm.Alike t.vm → H.size ≤ t.heap.size → (∀ q : Nat, q < H.size → t.heap[q]? = H[q]?) → XC cls s t)
    (hf : ∀ z ∈ locs, free z.base) (hc : cells + 1 ≤ mc) (hs : slots + 6 ≤ ms) :
    W p l e R s m args below meth c H locs cells slots (vx_MQ below Qc XC args s mc ms free) (F0 m pc ls rest) := by
  intro T hT X
  have htr : e.platform.stackTraces = false := (show e.platform.stackTraces = l.stackTraces by rw [X.admits.platform]).trans hl
  have Y := vx_rebase X (R' := { frames := R.frames, locals := R.locals, cells := 1, slots := 6 }) (Nat.le_refl _) (Nat.le_refl _) hRcells hRslots
  obtain ⟨s', hA⟩ : ∃ z, z = (T.setVm s.vm).setFrames (.invoking m args :: below) := ⟨_, rfl⟩
  rw [← hA] at Y
  have hvm : s'.vm = s.vm := by rw [hA]; rfl
  have hhp : s'.heap = H := by rw [hA]; exact hT
  have hW0 : s.WarmedH s'.vm := by rw [hvm]; exact State.WarmedH.refl s
  have hat' : ∀ w ∈ vx_atS own ic cls names, w.before args s' = true := fun w hw => vx_ot_at hW0 hvm.symm (hgood w (List.mem_cons_of_mem _ (List.mem_cons_of_mem _ hw))) (hat w hw)
  have hk' : (Cond.classLink own ik cls).before args s' = true := vx_ot_at hW0 hvm.symm (hgood _ List.mem_cons_self) hk
  have hini' : (Cond.initialized cls).before args s' = true := vx_ot_at hW0 hvm.symm (hgood _ (List.mem_cons_of_mem _ List.mem_cons_self)) hini
  have hU' : vx_Zq Bundle.tN "UNASSIGNED_STACK" Bundle.steD A s' s'.heap := by rw [hhp]; exact vx_Zq.moved hW0.alike (hU.kept hS.2.1)
  have hN' : vx_Zq Bundle.tN "SUPPRESSED_SENTINEL" Bundle.listD A s' s'.heap := by rw [hhp]; exact vx_Zq.moved hW0.alike (hN.kept hS.2.1)
  have h : ∀ w ∈ Bundle.ownAtoms own ic cls names, w.before args s' = true := vx_own hat' (vx_isRefq hU'.1) (vx_isRefq hN'.1) hU'.2.word hN'.2.word
  have hown' : s'.vm.findClass own = some m.cls := by rw [hvm]; exact hown
  have hins : (Cond.instantiable cls 6).before args s' = true := h _ (by simp [Bundle.ownAtoms])
  obtain ⟨vm₁, cX, kX, hfX, hkX, -, -, X₁, st1⟩ := Y.newCold hexec (own := own) (C := cls) (index := ik) (n := 6) hown' hk' hins hini'
    (g := F0 m pc ls rest) rfl (by rw [hb]; exact d0) (Nat.le_refl _) (Nat.le_refl _)
  generalize hT1 : (T.setVm vm₁).pushCell { cls := cX, slots := kX.instanceTypes.map defaultValue, vm := .none } = T1 at X₁ st1
  have hcat : (Value.ref T.heap.size).category = 1 := rfl
  have hcellA : T1.heap[T.heap.size]? = some (freshCell cX kX) := by rw [← hT1]; exact State.heap_pushCell_size _ _
  have d3' : decode c.code (pc + 3) = .ok (.dup, 1) := by rw [hb]; exact d3
  have d4' : decode c.code (pc + 4) = .ok (.ldc_w is, 3) := by rw [hb]; exact d4
  have hstr' : vk_R own is text sa s' := vk_R.warm hW0 hstr
  obtain ⟨U, hsteps, hrun, hend, hW, hsame, ce, hce, hO⟩ := X₁.ctorThrowS hexec htr (own := own) (cls := cls) (names := names) (ic := ic) hown' hcls hnames h (fun x hx => nomatch hx) hfX hkX hcellA (by rw [hhp, hT]; exact Nat.le_refl _) (msg := .ref sa) rfl
    (g := { method := m, pc := pc + 7, locals := ls, stack := .ref sa :: .ref T.heap.size :: .ref T.heap.size :: rest, locked := none }) rfl hsize rfl rfl (rest := rest) rfl
    (by rw [hb]; exact d7) (by rw [hb]; exact d10) hout hRframes (by simp only [List.map_cons, List.sum_cons, hcat]; omega) hlocks
  obtain ⟨f1, f2⟩ := vx_frame hsame
  rw [hhp] at f1 f2
  have hWs : s.WarmedH U.vm := State.WarmedH.trans hW0 hW
  have hcl : s.vm.findClass cls = some ce.cls := by
    have h9 := hO.cls
    rw [hvm] at h9
    exact h9
  have hall : s.sameButNew ({ U with vm := s.vm } : State) locs mc ms := by
    subst hA
    obtain ⟨e1, e2⟩ := hsame
    rw [State.setFrames_setFrames] at e1
    have h2 : (T.setVm s.vm).sameButNew ({ U with vm := s.vm } : State) [] (0 + 1) (0 + 6) := ⟨e1, e2⟩
    have h3 := X.same.trans h2
    rw [List.append_nil] at h3
    exact h3.mono hc hs
  refine ⟨U, ?_, .threw T.heap.size, hrun, hend, Or.inr ⟨T.heap.size, rfl, cls, ce, locs, hx U hWs.alike f1 (fun q hq => f2 q hq (fun z hz => nomatch hz)), hce, hO.vm, hcl, hWs, hall, hf⟩⟩
  refine st1 _ ?_
  show Steps p.tables e below (T1.setTop { method := m, pc := pc + 3, locals := ls, stack := .ref T.heap.size :: rest, locked := none }) _
  jvm_step X₁.here [X₁.here.top, hexec, d3', Value.category]
  exact X₁.ldcStringW hexec (own := own) (text := text) (index := is) (a := sa) hown' hstr'.1 hstr'.2
    (g := { method := m, pc := pc + 4, locals := ls, stack := .ref T.heap.size :: .ref T.heap.size :: rest, locked := none }) rfl d4' _ hsteps
end Ends
section Bodies
variable {l : Launch}
theorem vx_ofW {y : MethodName} {ws ws' : List Cond} {rm : Room} {Pc : Array Value → State → Prop} {Qc : Array Value → State → Outcome → State → Prop} {XC : String → State → State → Prop} {mc ms : Nat} {free : Addr → Prop} {cc : ByteArray} {maxL : Nat} {ret : Option FieldType}
    (hy : plainName y.cls = true) (hw : ws = Cond.code y cc maxL ret :: ws')
    (body : ∀ p e s m args below meth c s₁, BodyLoose p l y (headSpec ws rm) cc maxL ret e s m args below meth c s₁ → c.maxLocals = maxL → (∀ x ∈ c.exceptionTable.toList, False) → Pc args s →
      W p l e (headSpec ws rm).room s m args below meth c s.heap [] 0 0 (vx_MQ below Qc XC args s mc ms free) (entryFrame m args maxL)) : vx_Met l y ws rm Pc Qc XC mc ms free := by
  refine MetFree.of_bodyS (code := cc) (maxLocals := maxL) (ret := ret) hy ?_ ?_
  · intro args s m h hn
    obtain ⟨meth, c, h1, h2, h3, h4, h5, h6, -, -⟩ := Cond.code_spec hn (atoms_spec (ws := ws) h _ (by rw [hw]; exact List.mem_cons_self))
    exact ⟨meth, c, h1, h2, h3, h4, h5, h6⟩
  · intro p e s m args below meth c s₁ B hml hP _
    have hh0 : s₁.heap = s.heap := by rw [B.state]; rfl
    have ht : ∀ x ∈ c.exceptionTable.toList, False := by
      obtain ⟨meth9, c9, h1, h2, -, -, -, -, h7, -⟩ := Cond.code_spec B.named (atoms_spec (ws := ws) B.pre _ (by rw [hw]; exact List.mem_cons_self))
      cases Option.some.inj (h1.symm.trans B.method)
      cases Option.some.inj (h2.symm.trans (Stand.of_body B).code)
      intro x hx
      rw [Array.isEmpty_iff.mp h7] at hx
      cases hx
    obtain ⟨t, a1, o, b1, b2, b3⟩ := body p e s m args below meth c s₁ B hml ht hP s₁ hh0 (Stand.of_body B)
    exact ⟨t, o, a1, b1, b2, b3⟩
/-- the table of a body with handlers -/
theorem vx_table {p : Program} {x y : MethodName} {S : Spec} {cc bytes : ByteArray} {maxL maxL' : Nat} {ret ret' : Option FieldType} {e : Env} {s s₁ : State} {m : MethodId} {args : Array Value} {below : List Frame} {meth : Method} {c : Code} {hh : List (Nat × Nat × Nat × Nat)}
    (B : BodyLoose p l y S cc maxL ret e s m args below meth c s₁) (h : (Cond.codeWith y bytes maxL' ret' hh).before args s = true) : c.exceptionTable.toList = tableOf hh := by
  obtain ⟨m9, meth9, c9, hn9, h1, h2, -, -, h6, -⟩ := Cond.codeWith_spec h
  cases Option.some.inj (hn9.symm.trans B.named)
  cases Option.some.inj (h1.symm.trans B.method)
  cases Option.some.inj (h2.symm.trans (Stand.of_body B).code)
  rw [← h6, table_eq]
end Bodies
end VXA
/-! ===== END ===== -/
/-! ===== BEGIN a static call of a method with an exception table ===== -/
section VXS
variable {p : Program} {l : Launch} {e : Env} {R : Room} {s : State} {m : MethodId} {args : Array Value} {below : List Frame} {meth : Method} {c : Code} {T : State} {H : Heap} {locs : List Loc} {cells slots : Nat}
abbrev vx_CSW (R : Room) (s : State) (args : Array Value) (own : String) (index : Nat) (y : MethodName) (bytes : ByteArray) (maxL : Nat) (ret : Option FieldType) (hh : List (Nat × Nat × Nat × Nat)) (ws : List Cond) (rm : Room) (mc ms n : Nat) : Prop :=
  (rm.cells = mc ∧ rm.slots = ms ∧ rm.frames + 1 ≤ R.frames ∧ 8 + (maxL + 11) + rm.locals ≤ R.locals ∧ (∀ w ∈ ws, ∀ (a' : Array Value) (U : State), s.WarmedH U.vm → w.before a' U = true) ∧ Cond.codeWith y bytes maxL ret hh ∈ ws) ∧
  (Cond.codeWith y bytes maxL ret hh).before args s = true ∧ (Cond.initialized y.cls).before args s = true ∧ (y.cls ≠ "java/lang/invoke/MethodHandle" ∧ y.cls ≠ "java/lang/invoke/VarHandle") ∧
  (∀ sig, parseMethodDescriptor y.desc = some sig → n = sig.parameters.length) ∧ (Cond.methodLink own index y).before args s = true ∧ (Cond.static y).before args s = true
theorem vx_cwSW {own : String} {index maxL mc ms : Nat} {y : MethodName} {bytes : ByteArray} {ret : Option FieldType} {hh : List (Nat × Nat × Nat × Nat)} {Ts ws ws' : List Cond} {rm : Room} (n : Nat) (ht : ∀ w ∈ Ts, w.before args s = true) (hT : GoodIn Ts (va_wsS own index y ws)) (hw : ws = Cond.codeWith y bytes maxL ret hh :: ws') (hrc : rm.cells = mc) (hrs : rm.slots = ms)
    (hd : y.cls ≠ "java/lang/invoke/MethodHandle" ∧ y.cls ≠ "java/lang/invoke/VarHandle" ∧ (parseMethodDescriptor y.desc).map (fun d => d.parameters.length) = some n) (hR : rm.frames + 1 ≤ R.frames ∧ 8 + (maxL + 11) + rm.locals ≤ R.locals) :
    vx_CSW R s args own index y bytes maxL ret hh ws rm mc ms n := by
  have ok : ∀ w ∈ va_wsS own index y ws, w.before args s = true := fun w h => ht w (hT w h).1
  have hG : GoodIn Ts ws := fun w h => hT w (by unfold va_wsS; exact List.mem_append_right _ h)
  have hc : Cond.codeWith y bytes maxL ret hh ∈ ws := by rw [hw]; exact List.mem_cons_self
  refine ⟨⟨hrc, hrs, hR.1, hR.2, pay_in ht hG, hc⟩, ht _ (hG _ hc).1, ok _ (by simp [va_wsS]), ⟨hd.1, hd.2.1⟩, fun sig h => ?_, ok _ (by simp [va_wsS]), ok _ (by simp [va_wsS])⟩
  have h2 := hd.2.2
  rw [h] at h2
  exact (Option.some.inj h2).symm
theorem vx_callSW (X : Stand p l e R s m args below meth c T locs cells slots) (hexec : p.tables.exec = Jvm.exec) {own : String} {index : Nat} {y : MethodName} {bytes : ByteArray} {maxL : Nat} {ret : Option FieldType} {hh : List (Nat × Nat × Nat × Nat)}
    (hown : s.vm.findClass own = some m.cls) (hlink : (Cond.methodLink own index y).before args s = true) (hstat : (Cond.static y).before args s = true) (hinit : (Cond.initialized y.cls).before args s = true)
    (hcode : (Cond.codeWith y bytes maxL ret hh).before args s = true) (hy : y.cls ≠ "java/lang/invoke/MethodHandle" ∧ y.cls ≠ "java/lang/invoke/VarHandle")
    {W9 : Nat} {Pre : Pt → Array Value → Prop} {Post : Pt → Array Value → Option Value → Pt → Prop} (hK : Back l R p e below s args y 3 W9 Pre Post)
    {g : JFrame} (hg : g.method = m) (hsize : g.locals.size = c.maxLocals) {argsL rest : List Value} (hlen : ∀ sig, parseMethodDescriptor y.desc = some sig → argsL.length = sig.parameters.length)
    (hstack : g.stack = argsL.reverse ++ rest) (hW : 2 * g.monitorRoom + (rest.map fun v => v.category).sum ≤ W9) (hdg : decode c.code g.pc = .ok (.invokestatic index, 3))
    (hpre : ∀ vm₁, s.WarmedH vm₁ → Pre ⟨T.setVm vm₁, locs, cells, slots⟩ argsL.toArray) :
    ∃ (v : Option Value) (vm₁ : Vm) (B : Pt), s.WarmedH vm₁ ∧ Stand p l e R s m args below meth c B.U B.locs B.cells B.slots ∧ Post ⟨T.setVm vm₁, locs, cells, slots⟩ argsL.toArray v B ∧
      ∀ target, Steps p.tables e below (B.U.setTop { g with pc := g.pc + 3, stack := v.toList ++ rest }) target → Steps p.tables e below (T.setTop g) target := by
  obtain ⟨mk, methM, cM, hnamed, hmethM, -, -, -, -, -, -, hsigM⟩ := Cond.codeWith_spec hcode
  have hstatic : methM.isStatic = true := Cond.static_spec hnamed hmethM hstat
  obtain ⟨kP, hkP, -⟩ := className_of_methodNamed hnamed
  have hinitP : kP.init = .initialized := Cond.initialized_spec (findClass_of_methodNamed hnamed) hkP hinit
  obtain ⟨vm₁, X₁, hstep₁⟩ := X.invokestatic hexec hown hlink hnamed hmethM hstatic hkP hinitP hy (g := g) hg (argsL := argsL) (rest := rest) (hlen _ hsigM) hstack hdg
  obtain ⟨v, B, X', hpost, hsteps⟩ := hK m meth c ⟨T.setVm vm₁, locs, cells, slots⟩ { g with stack := rest } (.invokestatic index) mk argsL.toArray X₁ hg hsize hdg hW (X₁.named hnamed) (hpre vm₁ X₁.warmed)
  exact ⟨v, vm₁, B, X₁.warmed, X', hpost, fun target h => hstep₁ _ fun acts => by rw [doInvoke_state]; exact hsteps.trans h⟩
theorem vx_runSW {y : MethodName} {bytes cc : ByteArray} {maxL nL mc ms n index : Nat} {ret : Option FieldType} {hh : List (Nat × Nat × Nat × Nat)} {ws : List Cond} {rm : Room} {Pc : Array Value → State → Prop} {Qc : Array Value → State → Outcome → State → Prop} {free : Addr → Prop} {Ts : List Cond} {own : String} {As rest : List Value} {g : JFrame}
    (S : CallFix p m c cc nL s args Ts own) (hM : Met l y ws rm Pc Qc mc ms free) (cw : vx_CSW R s args own index y bytes maxL ret hh ws rm mc ms n) (hp : PreS s H Pc As)
    (hg : g.method = m) (hn : As.length = n) (hsize : g.locals.size = nL) (hstack : g.stack = As.reverse ++ rest) (hW : 2 * g.monitorRoom + (rest.map fun v => v.category).sum ≤ 8) (hdg : decode cc g.pc = .ok (.invokestatic index, 3)) (hf : cells + mc ≤ R.cells ∧ slots + ms ≤ R.slots) :
    va_Run p l e R s m args below meth c H locs cells slots mc ms g rest (Qc As.toArray) (free) := by
  obtain ⟨⟨hrc, hrs, hfr, hlo, hws, hcw⟩, hcode, hini, hy, hlen, hl, hstt⟩ := cw
  have hK : Back l R p e below s args y 3 8 (PreOf R mc ms Pc) (PostOf Qc mc ms free) := va_backW (hh := hh) (bytes := bytes) (maxL := maxL) (ret := ret) hM hp.1 hrc hrs hfr hlo hws hcw (fun a' U hW => word_at hW (Or.inl (by first | rfl | simp [Cond.onTables, Cond.keeps, Cond.steady])) hini)
  obtain ⟨hx, hb, hml, ho, -⟩ := S
  intro T hT X
  obtain ⟨v, vm₁, ⟨U', l2, c2, s2⟩, hW₁, X', ⟨g', mk, t, L, e1, e2, hq, h1, hL, h2, h3⟩, st⟩ := vx_callSW X hx (hh := hh) (bytes := bytes) (maxL := maxL) (ret := ret) ho hl hstt hini hcode hy hK hg (hsize.trans hml.symm) (argsL := As) (rest := rest) (fun sig h => hn.trans (hlen sig h)) hstack hW (by rw [hb]; exact hdg)
    (fun vm₁ hW₁ => ⟨hf.1, hf.2, hp.2 (T.setVm vm₁) hT hW₁⟩)
  dsimp only [Pt.U, Pt.locs, Pt.cells, Pt.slots] at X' e1 e2 h1 h2 h3 st
  subst h1; subst h2; subst h3
  exact ⟨v, (T.setVm vm₁).calling g' mk As.toArray, t, U', L, hT, X', hL, e1, e2, hq, st⟩
/-- not caught here, past rows that name other classes: it goes on to the caller -/
theorem vx_outP {p : Program} {l : Launch} {e : Env} {R : Room} {s : State} {m : MethodId} {args : Array Value} {below : List Frame} {meth : Method} {c : Code} {H : Heap} {locs : List Loc} {cells slots : Nat} {free : Addr → Prop} {ls : Array Slot} {rest : List Value} {Qc : Array Value → State → Outcome → State → Prop} {XC : String → State → State → Prop}
    {pc : Nat} {own E : String} {ce : Cell} {q : Addr} {mc ms : Nat} (hown : s.vm.findClass own = some m.cls) (hlocks : meth.locks = false)
    (hpass : ∀ z ∈ c.exceptionTable.toList, covers z pc = false ∨ (z.catchType ≠ 0 ∧ ∃ nm : String, (Cond.classLink own z.catchType nm).before args s = true ∧ va_Nc E nm s)) (hcell : H[q]? = some ce) (hv : ce.vm = .none) (hcl : s.vm.findClass E = some ce.cls)
    (hx : ∀ t : State, t.heap = H → s.vm.Alike t.vm → XC E s t) (hf : ∀ z ∈ locs, free z.base) (hc : cells ≤ mc) (hs : slots ≤ ms) :
    vx_W p l e R s m args below meth c H locs cells slots (vx_MQ below Qc XC args s mc ms free) (F0 m pc ls rest) q := by
  intro T hT X
  have hpl : e.platform.magicAccessors = ({} : Platform).magicAccessors := by rw [X.admits.platform]
  obtain ⟨vm', hW', X', st⟩ := X.outThrough hlocks q (g := F0 m pc ls rest) rfl rfl rfl (cell := ce) (by rw [hT]; exact hcell) (by rw [hv]; rfl)
    (by obtain ⟨k9, h9, -⟩ := Vm.findClass_spec hcl; exact ⟨k9, h9⟩) (fun z hz => by
      rcases hpass z hz with h | ⟨hz0, nm, hl1, hn1⟩
      · exact Or.inl h
      · obtain ⟨c6, hc6, hcl6⟩ := Cond.classLink_spec hown hl1 e.platform hpl
        obtain ⟨a8, b8, h1, h2, h3⟩ := hn1
        cases Option.some.inj (h1.symm.trans hcl)
        cases Option.some.inj (h2.symm.trans hc6)
        exact Or.inr ⟨hz0, _, hcl6, h3⟩)
  obtain ⟨g₀, hfr⟩ := X'.frames_eq
  have hcell9 : ((T.setVm vm').setFrames (.throwing q :: below)).heap[q]? = some ce := by
    show T.heap[q]? = some ce
    rw [hT]; exact hcell
  have hend : Ended ((T.setVm vm').setFrames (.throwing q :: below)) below (.threw q) := State.frames_setFrames _ (State.cur_lt_of_frames hfr)
  refine ⟨(T.setVm vm').setFrames (.throwing q :: below), ?_, .threw q, X'.here.running, hend, Or.inr ⟨q, rfl, E, ce, locs, hx _ hT (X'.ends _).1.alike, hcell9, hv, hcl, (X'.ends _).1, (X'.ends _).2.mono hc hs, hf⟩⟩
  rw [X.pushThrowing_eq]
  exact st
/-- a thing of a world lies in the heap -/
theorem vx_lt {D : va_G} {cl : List vw_C} {ws : va_W} {H1 : Heap} (h : va_P D cl ws H1) {k : Nat} {q : Nat × va_E} (hk : ws[k]? = some q) : q.1 < H1.size := (h k q hk).lt
end VXS
/-! ===== END ===== -/
/-! ===== BEGIN methods with a table of their own: called by a name, returning or throwing ===== -/
section VXH
/-! vx_backW, vx_callVX, vx_callSX, vx_callVW, vx_runVW, vx_runVX, vx_runSX, vx_ofWH follow the same proofs as their sisters above (Free/Laws.lean, Shelf42/LK1.lean); vx_outP calls Shelf42/NT130.lean (outThrough). -/
section
variable {l : Launch} {R : Room} {p : Program} {e : Env} {below : List Frame} {s : State} {sargs : Array Value} {y : MethodName} {len W9 : Nat}
theorem vx_backW {ws : List Cond} {rm : Room} {Pc : Array Value → State → Prop} {Qc : Array Value → State → Outcome → State → Prop} {XC : String → State → State → Prop} {mc ms : Nat} {free : Addr → Prop} {bytes : ByteArray} {maxL : Nat} {ret : Option FieldType} {hh : List (Nat × Nat × Nat × Nat)}
    (hM : vx_Met l y ws rm Pc Qc XC mc ms free) (hblind : FrameBlind Pc) (hrc : rm.cells = mc) (hrs : rm.slots = ms)
    (hframes : rm.frames + 1 ≤ R.frames) (hlocals : W9 + (maxL + 11) + rm.locals ≤ R.locals)
    (hws : ∀ w ∈ ws, ∀ a' U, s.WarmedH U.vm → w.before a' U = true) (hcode : Cond.codeWith y bytes maxL ret hh ∈ ws) (hinit : ∀ a' U, s.WarmedH U.vm → (Cond.initialized y.cls).before a' U = true) :
    vx_Back l R p e below s sargs y len W9 (PreOf R mc ms Pc) (PostOf Qc mc ms free) (vx_Post XC mc ms free) := by
  intro m meth c A g ig mk a X hg hsize hdg hW hn hp
  have h1 : (headSpec ws rm).pre.before a A.U = true := atoms_intro fun w hw => hws w hw _ _ X.warmed
  have h2 : (Cond.codeWith y bytes maxL ret hh).before a A.U = true := hws _ hcode _ _ X.warmed
  have h3 : (Cond.initialized y.cls).before a A.U = true := hinit _ _ X.warmed
  have h4 : A.cells + (headSpec ws rm).room.cells ≤ R.cells := by rw [show (headSpec ws rm).room.cells = mc from hrc]; exact hp.1
  have h5 : A.slots + (headSpec ws rm).room.slots ≤ R.slots := by rw [show (headSpec ws rm).room.slots = ms from hrs]; exact hp.2.1
  have hPc : Pc a (A.U.calling g mk a) := hblind _ _ _ _ hp.2.2
  obtain ⟨U, Ls, c0, s0⟩ := A
  dsimp only [Pt.U, Pt.locs, Pt.cells, Pt.slots] at h1 h2 h3 h4 h5 X hn hPc ⊢
  obtain ⟨m9, methY, cY, hn9, hmY, hcY, -, hlY, -⟩ := Cond.codeWith_spec h2
  cases Option.some.inj (hn9.symm.trans hn)
  obtain ⟨kY, hkY, -⟩ := className_of_methodNamed hn
  have hinitY : kY.init = .initialized := Cond.initialized_spec (findClass_of_methodNamed hn) hkY h3
  have h : At U g.method c below := by rw [hg]; exact X.here
  have hlocals9 : W9 + (maxL + 11) + (headSpec ws rm).room.locals ≤ R.locals := hlocals
  have happ : (headSpec ws rm).appliesLoose y e.platform (U.calling g mk a) = true :=
    Spec.appliesLoose_calling (g := g) h hdg hn hkY hinitY
      (X.room_calling (g := g) (R' := (headSpec ws rm).room) hsize hmY hcY hframes (by rw [hlY]; omega) h4 h5) h1
  obtain ⟨mid, hmid⟩ := h.above
  have hfr : (U.setTop g).frames = (.java g :: mid) ++ below := by rw [State.frames_setTop' g h.top, hmid]; rfl
  obtain ⟨o, s₂, hsteps, -, hend, hq⟩ := Steps.callFree hM p X.admits X.cas X.clock (acts := []) hfr happ hPc trivial
  have hq' : vx_Q Qc XC mc ms free a (U.calling g mk a) o s₂ := hq
  rw [State.frames_setTop' g h.top] at hend
  obtain ⟨g₀, hg0⟩ := Option.isSome_iff_exists.mp h.top
  obtain ⟨r, hr⟩ := State.topJava?_eq_some.mp hg0
  have hr' : (({ U with heap := s₂.heap, slotsUsed := s₂.slotsUsed } : State).setVm s₂.vm).frames = .java g₀ :: r := hr
  rcases hq' with ⟨hqc, L, hfe, hL⟩ | ⟨q, rfl, E, ce, L, hx, hce, hcv, hcl, hW₂, hsm, hL⟩
  · obtain ⟨⟨v, rfl⟩, hW₂, e2, q2, q3, q4, q5, q6⟩ := id hfe
    have e3 : s₂ = ({ (U.calling g mk a).setFrames s₂.frames with heap := s₂.heap, slotsUsed := s₂.slotsUsed } : State).setVm s₂.vm := by
      have : s₂ = ({ s₂ with vm := (U.calling g mk a).vm } : State).setVm s₂.vm := rfl
      rw [e2] at this
      exact this
    obtain ⟨c₂, i₂, len₂, hc₂, hd₂, hf₂⟩ := hend
    have hW' : U.WarmedH s₂.vm := hW₂
    have hcc : c₂ = c := by
      have h1 : s₂.code? g.method = U.code? g.method := by
        rw [State.code?_eq, State.code?_eq, hW'.alike.method?]
      exact Option.some.inj (hc₂.symm.trans (h1.trans h.code))
    subst hcc
    have hlen : len₂ = len := by rw [hdg] at hd₂; cases hd₂; rfl
    subst hlen
    have hs₂ : s₂ = (({ U with heap := s₂.heap, slotsUsed := s₂.slotsUsed } : State).setVm s₂.vm).setTop { g with pc := g.pc + len₂, stack := v.toList ++ g.stack } := by
      refine e3.trans ?_
      rw [hf₂, State.calling_eq h.top, State.setFrames_setFrames, State.setTop_of_frames _ hr', hr]
      rfl
    have hsame : U.sameButNew ({ U with heap := s₂.heap, slotsUsed := s₂.slotsUsed } : State) L mc ms := by
      refine ⟨?_, q2, q3, q4, q5, q6⟩
      obtain ⟨t, ht, -⟩ := State.frames_cons hr
      show ({ U with heap := s₂.heap, slotsUsed := s₂.slotsUsed } : State) = { U.setFrames U.frames with heap := s₂.heap, slotsUsed := s₂.slotsUsed }
      rw [State.setFrames_self ht]
    subst hg
    refine Or.inl ⟨v, ⟨(({ U with heap := s₂.heap, slotsUsed := s₂.slotsUsed } : State).setVm s₂.vm), Ls ++ L, c0 + mc, s0 + ms⟩,
      ⟨X.admits, X.cas, X.clock, X.frames, X.room, X.hears, X.method, X.code, (X.here.setHeapUsed s₂.heap s₂.slotsUsed).setVm hW'.alike, X.tail, State.WarmedH.trans X.warmed hW', X.limits, X.bytes, X.same.trans (hsame.setVm s.vm)⟩,
      ⟨g, mk, s₂, L, rfl, rfl, hqc, rfl, hL, rfl, rfl⟩, ?_⟩
    show Steps p.tables e below _ ((({ U with heap := s₂.heap, slotsUsed := s₂.slotsUsed } : State).setVm s₂.vm).setTop { g with pc := g.pc + len₂, stack := v.toList ++ g.stack })
    rw [← hs₂]
    exact hsteps
  · obtain ⟨e2, q2, q3, q4, q5, q6⟩ := id hsm
    have e3 : s₂ = ({ (U.calling g mk a).setFrames s₂.frames with heap := s₂.heap, slotsUsed := s₂.slotsUsed } : State).setVm s₂.vm := by
      have : s₂ = ({ s₂ with vm := (U.calling g mk a).vm } : State).setVm s₂.vm := rfl
      rw [e2] at this
      exact this
    have hf₂ : s₂.frames = .throwing q :: .java g :: U.frames.tail := hend
    have hW' : U.WarmedH s₂.vm := hW₂
    have hs₂ : s₂ = ((({ U with heap := s₂.heap, slotsUsed := s₂.slotsUsed } : State).setVm s₂.vm).setTop g).pushFrame (.throwing q) := by
      refine e3.trans ?_
      rw [hf₂, State.calling_eq h.top, State.setFrames_setFrames, State.pushFrame, State.frames_setTop _ hr', State.setTop_of_frames _ hr', State.setFrames_setFrames, hr]
      rfl
    have hsame : U.sameButNew ({ U with heap := s₂.heap, slotsUsed := s₂.slotsUsed } : State) L mc ms := by
      refine ⟨?_, q2, q3, q4, q5, q6⟩
      obtain ⟨t, ht, -⟩ := State.frames_cons hr
      show ({ U with heap := s₂.heap, slotsUsed := s₂.slotsUsed } : State) = { U.setFrames U.frames with heap := s₂.heap, slotsUsed := s₂.slotsUsed }
      rw [State.setFrames_self ht]
    subst hg
    refine Or.inr ⟨q, ⟨(({ U with heap := s₂.heap, slotsUsed := s₂.slotsUsed } : State).setVm s₂.vm), Ls ++ L, c0 + mc, s0 + ms⟩,
      ⟨X.admits, X.cas, X.clock, X.frames, X.room, X.hears, X.method, X.code, (X.here.setHeapUsed s₂.heap s₂.slotsUsed).setVm hW'.alike, X.tail, State.WarmedH.trans X.warmed hW', X.limits, X.bytes, X.same.trans (hsame.setVm s.vm)⟩,
      ⟨g, mk, s₂, L, E, ce, rfl, rfl, hx, hce, hcv, hcl, rfl, hL, rfl, rfl⟩, ?_⟩
    show Steps p.tables e below _ (((({ U with heap := s₂.heap, slotsUsed := s₂.slotsUsed } : State).setVm s₂.vm).setTop g).pushFrame (.throwing q))
    rw [← hs₂]
    exact hsteps
end
variable {p : Program} {l : Launch} {e : Env} {R : Room} {s : State} {m : MethodId} {args : Array Value} {below : List Frame} {meth : Method} {c : Code} {T : State} {H : Heap} {locs : List Loc} {cells slots : Nat}
theorem vx_callVX (X : Stand p l e R s m args below meth c T locs cells slots) (hexec : p.tables.exec = Jvm.exec) {own C : String} {index : Nat} {y : MethodName} {bytes : ByteArray} {maxL : Nat} {ret : Option FieldType} {hh : List (Nat × Nat × Nat × Nat)}
    (hown : s.vm.findClass own = some m.cls) (hlink : (Cond.methodLink own index y).before args s = true) (hinst : (Cond.instanceMethod y).before args s = true) (hsel : (Cond.selects C y y).before args s = true)
    (hcode : (Cond.codeWith y bytes maxL ret hh).before args s = true) (hy : y.cls ≠ "java/lang/invoke/MethodHandle" ∧ y.cls ≠ "java/lang/invoke/VarHandle")
    {W9 : Nat} {Pre : Pt → Array Value → Prop} {Post : Pt → Array Value → Option Value → Pt → Prop} {PostX : Pt → Array Value → Addr → Pt → Prop} (hK : vx_Back l R p e below s args y 3 W9 Pre Post PostX)
    {b : Addr} {cellB : Cell} (hcell : T.heap[b]? = some cellB) (hobj : cellB.vm.isStatics = false) (hcls : s.vm.findClass C = some cellB.cls)
    {g : JFrame} (hg : g.method = m) (hsize : g.locals.size = c.maxLocals) {argsL rest : List Value} (hlen : ∀ sig, parseMethodDescriptor y.desc = some sig → argsL.length = sig.parameters.length)
    (hstack : g.stack = argsL.reverse ++ .ref b :: rest) (hW : 2 * g.monitorRoom + (rest.map fun v => v.category).sum ≤ W9) (hdg : decode c.code g.pc = .ok (.invokevirtual index, 3))
    (hpre : ∀ vm₁, s.WarmedH vm₁ → Pre ⟨T.setVm vm₁, locs, cells, slots⟩ (Value.ref b :: argsL).toArray) :
    (∃ (v : Option Value) (vm₁ : Vm) (B : Pt), s.WarmedH vm₁ ∧ Stand p l e R s m args below meth c B.U B.locs B.cells B.slots ∧ Post ⟨T.setVm vm₁, locs, cells, slots⟩ (Value.ref b :: argsL).toArray v B ∧
      ∀ target, Steps p.tables e below (B.U.setTop { g with pc := g.pc + 3, stack := v.toList ++ rest }) target → Steps p.tables e below (T.setTop g) target) ∨
    (∃ (q : Addr) (vm₁ : Vm) (B : Pt), s.WarmedH vm₁ ∧ Stand p l e R s m args below meth c B.U B.locs B.cells B.slots ∧ PostX ⟨T.setVm vm₁, locs, cells, slots⟩ (Value.ref b :: argsL).toArray q B ∧
      Steps p.tables e below (T.setTop g) ((B.U.setTop { g with stack := rest }).pushFrame (.throwing q))) := by
  obtain ⟨mk, methM, hnamed, hmethM, hstM, habM⟩ := Cond.instanceMethod_spec hinst
  obtain ⟨m8, methM', cM, hn8, hmethM', -, -, -, -, -, -, hsigM⟩ := Cond.codeWith_spec hcode
  cases Option.some.inj (hn8.symm.trans hnamed)
  cases hmethM.symm.trans hmethM'
  obtain ⟨c2, r2, m2, q1, q2, q3, q4, kP, hkP, hkPi⟩ := Cond.selects_spec hsel
  cases hcls.symm.trans q1
  cases (State.methodFound?_of_named hnamed hy).symm.trans q2
  cases hnamed.symm.trans q3
  have hselP : selectMethod e.platform s.vm cellB.cls mk = .method mk := by rw [Launch.admits_selectMethod X.admits]; exact q4
  obtain ⟨vm₁, X₁, hstep₁⟩ := X.invokevirtual hexec hown hlink hnamed hmethM hstM hkP hkPi hy (a := b) (cell := cellB) hcell
    (fun z h => by rw [h] at hobj; cases hobj) hselP hmethM habM hkP hkPi (g := g) hg (argsL := argsL) (rest := rest) (hlen _ hsigM) hstack hdg
  rcases hK m meth c ⟨T.setVm vm₁, locs, cells, slots⟩ { g with stack := rest } (.invokevirtual index) mk (Value.ref b :: argsL).toArray X₁ hg hsize hdg hW (X₁.named hnamed) (hpre vm₁ X₁.warmed) with ⟨v, B, X', hpost, hsteps⟩ | ⟨q, B, X', hpost, hsteps⟩
  · exact Or.inl ⟨v, vm₁, B, X₁.warmed, X', hpost, fun target h => hstep₁ _ fun acts => by rw [doInvoke_state]; exact hsteps.trans h⟩
  · exact Or.inr ⟨q, vm₁, B, X₁.warmed, X', hpost, hstep₁ _ fun acts => by rw [doInvoke_state]; exact hsteps⟩
theorem vx_callSX (X : Stand p l e R s m args below meth c T locs cells slots) (hexec : p.tables.exec = Jvm.exec) {own : String} {index : Nat} {y : MethodName} {bytes : ByteArray} {maxL : Nat} {ret : Option FieldType} {hh : List (Nat × Nat × Nat × Nat)}
    (hown : s.vm.findClass own = some m.cls) (hlink : (Cond.methodLink own index y).before args s = true) (hstat : (Cond.static y).before args s = true) (hinit : (Cond.initialized y.cls).before args s = true)
    (hcode : (Cond.codeWith y bytes maxL ret hh).before args s = true) (hy : y.cls ≠ "java/lang/invoke/MethodHandle" ∧ y.cls ≠ "java/lang/invoke/VarHandle")
    {W9 : Nat} {Pre : Pt → Array Value → Prop} {Post : Pt → Array Value → Option Value → Pt → Prop} {PostX : Pt → Array Value → Addr → Pt → Prop} (hK : vx_Back l R p e below s args y 3 W9 Pre Post PostX)
    {g : JFrame} (hg : g.method = m) (hsize : g.locals.size = c.maxLocals) {argsL rest : List Value} (hlen : ∀ sig, parseMethodDescriptor y.desc = some sig → argsL.length = sig.parameters.length)
    (hstack : g.stack = argsL.reverse ++ rest) (hW : 2 * g.monitorRoom + (rest.map fun v => v.category).sum ≤ W9) (hdg : decode c.code g.pc = .ok (.invokestatic index, 3))
    (hpre : ∀ vm₁, s.WarmedH vm₁ → Pre ⟨T.setVm vm₁, locs, cells, slots⟩ argsL.toArray) :
    (∃ (v : Option Value) (vm₁ : Vm) (B : Pt), s.WarmedH vm₁ ∧ Stand p l e R s m args below meth c B.U B.locs B.cells B.slots ∧ Post ⟨T.setVm vm₁, locs, cells, slots⟩ argsL.toArray v B ∧
      ∀ target, Steps p.tables e below (B.U.setTop { g with pc := g.pc + 3, stack := v.toList ++ rest }) target → Steps p.tables e below (T.setTop g) target) ∨
    (∃ (q : Addr) (vm₁ : Vm) (B : Pt), s.WarmedH vm₁ ∧ Stand p l e R s m args below meth c B.U B.locs B.cells B.slots ∧ PostX ⟨T.setVm vm₁, locs, cells, slots⟩ argsL.toArray q B ∧
      Steps p.tables e below (T.setTop g) ((B.U.setTop { g with stack := rest }).pushFrame (.throwing q))) := by
  obtain ⟨mk, methM, cM, hnamed, hmethM, -, -, -, -, -, -, hsigM⟩ := Cond.codeWith_spec hcode
  have hstatic : methM.isStatic = true := Cond.static_spec hnamed hmethM hstat
  obtain ⟨kP, hkP, -⟩ := className_of_methodNamed hnamed
  have hinitP : kP.init = .initialized := Cond.initialized_spec (findClass_of_methodNamed hnamed) hkP hinit
  obtain ⟨vm₁, X₁, hstep₁⟩ := X.invokestatic hexec hown hlink hnamed hmethM hstatic hkP hinitP hy (g := g) hg (argsL := argsL) (rest := rest) (hlen _ hsigM) hstack hdg
  rcases hK m meth c ⟨T.setVm vm₁, locs, cells, slots⟩ { g with stack := rest } (.invokestatic index) mk argsL.toArray X₁ hg hsize hdg hW (X₁.named hnamed) (hpre vm₁ X₁.warmed) with ⟨v, B, X', hpost, hsteps⟩ | ⟨q, B, X', hpost, hsteps⟩
  · exact Or.inl ⟨v, vm₁, B, X₁.warmed, X', hpost, fun target h => hstep₁ _ fun acts => by rw [doInvoke_state]; exact hsteps.trans h⟩
  · exact Or.inr ⟨q, vm₁, B, X₁.warmed, X', hpost, hstep₁ _ fun acts => by rw [doInvoke_state]; exact hsteps⟩
theorem vx_callVW (X : Stand p l e R s m args below meth c T locs cells slots) (hexec : p.tables.exec = Jvm.exec) {own C : String} {index : Nat} {y : MethodName} {bytes : ByteArray} {maxL : Nat} {ret : Option FieldType} {hh : List (Nat × Nat × Nat × Nat)}
    (hown : s.vm.findClass own = some m.cls) (hlink : (Cond.methodLink own index y).before args s = true) (hinst : (Cond.instanceMethod y).before args s = true) (hsel : (Cond.selects C y y).before args s = true)
    (hcode : (Cond.codeWith y bytes maxL ret hh).before args s = true) (hy : y.cls ≠ "java/lang/invoke/MethodHandle" ∧ y.cls ≠ "java/lang/invoke/VarHandle")
    {W9 : Nat} {Pre : Pt → Array Value → Prop} {Post : Pt → Array Value → Option Value → Pt → Prop} (hK : Back l R p e below s args y 3 W9 Pre Post)
    {b : Addr} {cellB : Cell} (hcell : T.heap[b]? = some cellB) (hobj : cellB.vm.isStatics = false) (hcls : s.vm.findClass C = some cellB.cls)
    {g : JFrame} (hg : g.method = m) (hsize : g.locals.size = c.maxLocals) {argsL rest : List Value} (hlen : ∀ sig, parseMethodDescriptor y.desc = some sig → argsL.length = sig.parameters.length)
    (hstack : g.stack = argsL.reverse ++ .ref b :: rest) (hW : 2 * g.monitorRoom + (rest.map fun v => v.category).sum ≤ W9) (hdg : decode c.code g.pc = .ok (.invokevirtual index, 3))
    (hpre : ∀ vm₁, s.WarmedH vm₁ → Pre ⟨T.setVm vm₁, locs, cells, slots⟩ (Value.ref b :: argsL).toArray) :
    ∃ (v : Option Value) (vm₁ : Vm) (B : Pt), s.WarmedH vm₁ ∧ Stand p l e R s m args below meth c B.U B.locs B.cells B.slots ∧ Post ⟨T.setVm vm₁, locs, cells, slots⟩ (Value.ref b :: argsL).toArray v B ∧
      ∀ target, Steps p.tables e below (B.U.setTop { g with pc := g.pc + 3, stack := v.toList ++ rest }) target → Steps p.tables e below (T.setTop g) target := by
  obtain ⟨mk, methM, hnamed, hmethM, hstM, habM⟩ := Cond.instanceMethod_spec hinst
  obtain ⟨m8, methM', cM, hn8, hmethM', -, -, -, -, -, -, hsigM⟩ := Cond.codeWith_spec hcode
  cases Option.some.inj (hn8.symm.trans hnamed)
  cases hmethM.symm.trans hmethM'
  obtain ⟨c2, r2, m2, q1, q2, q3, q4, kP, hkP, hkPi⟩ := Cond.selects_spec hsel
  cases hcls.symm.trans q1
  cases (State.methodFound?_of_named hnamed hy).symm.trans q2
  cases hnamed.symm.trans q3
  have hselP : selectMethod e.platform s.vm cellB.cls mk = .method mk := by rw [Launch.admits_selectMethod X.admits]; exact q4
  obtain ⟨vm₁, X₁, hstep₁⟩ := X.invokevirtual hexec hown hlink hnamed hmethM hstM hkP hkPi hy (a := b) (cell := cellB) hcell
    (fun z h => by rw [h] at hobj; cases hobj) hselP hmethM habM hkP hkPi (g := g) hg (argsL := argsL) (rest := rest) (hlen _ hsigM) hstack hdg
  obtain ⟨v, B, X', hpost, hsteps⟩ := hK m meth c ⟨T.setVm vm₁, locs, cells, slots⟩ { g with stack := rest } (.invokevirtual index) mk (Value.ref b :: argsL).toArray X₁ hg hsize hdg hW (X₁.named hnamed) (hpre vm₁ X₁.warmed)
  exact ⟨v, vm₁, B, X₁.warmed, X', hpost, fun target h => hstep₁ _ fun acts => by rw [doInvoke_state]; exact hsteps.trans h⟩
abbrev vx_CVW (R : Room) (s : State) (args : Array Value) (own C : String) (index : Nat) (y : MethodName) (bytes : ByteArray) (maxL : Nat) (ret : Option FieldType) (hh : List (Nat × Nat × Nat × Nat)) (ws : List Cond) (rm : Room) (mc ms n : Nat) : Prop :=
  (rm.cells = mc ∧ rm.slots = ms ∧ rm.frames + 1 ≤ R.frames ∧ 8 + (maxL + 11) + rm.locals ≤ R.locals ∧ (∀ w ∈ ws, ∀ (a' : Array Value) (U : State), s.WarmedH U.vm → w.before a' U = true) ∧ Cond.codeWith y bytes maxL ret hh ∈ ws) ∧
  (Cond.codeWith y bytes maxL ret hh).before args s = true ∧ (Cond.initialized y.cls).before args s = true ∧ (y.cls ≠ "java/lang/invoke/MethodHandle" ∧ y.cls ≠ "java/lang/invoke/VarHandle") ∧
  (∀ sig, parseMethodDescriptor y.desc = some sig → n = sig.parameters.length) ∧ (Cond.methodLink own index y).before args s = true ∧ (Cond.instanceMethod y).before args s = true ∧ (Cond.selects C y y).before args s = true
theorem vx_cwVW {own C : String} {index maxL mc ms : Nat} {y : MethodName} {bytes : ByteArray} {ret : Option FieldType} {hh : List (Nat × Nat × Nat × Nat)} {Ts ws ws' : List Cond} {rm : Room} (n : Nat) (ht : ∀ w ∈ Ts, w.before args s = true) (hT : GoodIn Ts (wsV own index C y ws)) (hw : ws = Cond.codeWith y bytes maxL ret hh :: ws') (hrc : rm.cells = mc) (hrs : rm.slots = ms)
    (hd : y.cls = C ∧ y.cls ≠ "java/lang/invoke/MethodHandle" ∧ y.cls ≠ "java/lang/invoke/VarHandle" ∧ (parseMethodDescriptor y.desc).map (fun d => d.parameters.length) = some n) (hR : rm.frames + 1 ≤ R.frames ∧ 8 + (maxL + 11) + rm.locals ≤ R.locals) :
    vx_CVW R s args own C index y bytes maxL ret hh ws rm mc ms n := by
  obtain ⟨hC, hd⟩ := hd
  subst hC
  have ok : ∀ w ∈ wsV own index y.cls y ws, w.before args s = true := fun w h => ht w (hT w h).1
  have hG : GoodIn Ts ws := fun w h => hT w (by unfold wsV; exact List.mem_append_right _ h)
  have hc : Cond.codeWith y bytes maxL ret hh ∈ ws := by rw [hw]; exact List.mem_cons_self
  refine ⟨⟨hrc, hrs, hR.1, hR.2, pay_in ht hG, hc⟩, ht _ (hG _ hc).1, ok _ (by simp [wsV]), ⟨hd.1, hd.2.1⟩, fun sig h => ?_, ok _ (by simp [wsV]), ok _ (by simp [wsV]), ok _ (by simp [wsV])⟩
  have h2 := hd.2.2
  rw [h] at h2
  exact (Option.some.inj h2).symm
theorem vx_runVW {y : MethodName} {bytes cc : ByteArray} {maxL nL mc ms n index : Nat} {ret : Option FieldType} {hh : List (Nat × Nat × Nat × Nat)} {ws : List Cond} {rm : Room} {Pc : Array Value → State → Prop} {Qc : Array Value → State → Outcome → State → Prop} {free : Addr → Prop} {Ts : List Cond} {own C : String} {b : Addr} {As rest : List Value} {g : JFrame}
    (S : CallFix p m c cc nL s args Ts own) (hM : Met l y ws rm Pc Qc mc ms free) (cw : vx_CVW R s args own C index y bytes maxL ret hh ws rm mc ms n) (hp : PreV s H C b Pc As)
    (hg : g.method = m) (hn : As.length = n) (hsize : g.locals.size = nL) (hstack : g.stack = As.reverse ++ .ref b :: rest) (hW : 2 * g.monitorRoom + (rest.map fun v => v.category).sum ≤ 8) (hdg : decode cc g.pc = .ok (.invokevirtual index, 3)) (hf : cells + mc ≤ R.cells ∧ slots + ms ≤ R.slots) :
    va_Run p l e R s m args below meth c H locs cells slots mc ms g rest (Qc (Value.ref b :: As).toArray) free := by
  obtain ⟨⟨hrc, hrs, hfr, hlo, hws, hcw⟩, hcode, hini, hy, hlen, hl, hin, hse⟩ := cw
  have hK : Back l R p e below s args y 3 8 (PreOf R mc ms Pc) (PostOf Qc mc ms free) := va_backW (hh := hh) (bytes := bytes) (maxL := maxL) (ret := ret) hM hp.1 hrc hrs hfr hlo hws hcw (fun a' U hW => word_at hW (Or.inl (by first | rfl | simp [Cond.onTables, Cond.keeps, Cond.steady])) hini)
  obtain ⟨hx, hb, hml, ho, -⟩ := S
  obtain ⟨-, ⟨cellB, hcB, hoB, hclB⟩, hPc⟩ := hp
  intro T hT X
  obtain ⟨v, vm₁, ⟨U', l2, c2, s2⟩, hW₁, X', ⟨g', mk, t, L, e1, e2, hq, h1, hL, h2, h3⟩, st⟩ := vx_callVW X hx (C := C) (hh := hh) (bytes := bytes) (maxL := maxL) (ret := ret) ho hl hin hse hcode hy hK (by rw [hT]; exact hcB) hoB hclB hg (hsize.trans hml.symm) (argsL := As) (rest := rest) (fun sig h => hn.trans (hlen sig h)) hstack hW (by rw [hb]; exact hdg)
    (fun vm₁ hW₁ => ⟨hf.1, hf.2, hPc (T.setVm vm₁) hT hW₁⟩)
  dsimp only [Pt.U, Pt.locs, Pt.cells, Pt.slots] at X' e1 e2 h1 h2 h3 st
  subst h1; subst h2; subst h3
  exact ⟨v, (T.setVm vm₁).calling g' mk (Value.ref b :: As).toArray, t, U', L, hT, X', hL, e1, e2, hq, st⟩
section
variable {y : MethodName} {bytes cc : ByteArray} {maxL nL mc ms n index : Nat} {ret : Option FieldType} {ws : List Cond} {rm : Room} {Pc : Array Value → State → Prop} {Qc : Array Value → State → Outcome → State → Prop} {XC : String → State → State → Prop} {free : Addr → Prop} {Ts : List Cond} {own C : String} {b : Addr} {As rest : List Value} {g : JFrame}
theorem vx_runVX {hh : List (Nat × Nat × Nat × Nat)} (S : CallFix p m c cc nL s args Ts own) (hM : vx_Met l y ws rm Pc Qc XC mc ms free) (cw : vx_CVW R s args own C index y bytes maxL ret hh ws rm mc ms n) (hp : PreV s H C b Pc As)
    (hg : g.method = m) (hn : As.length = n) (hsize : g.locals.size = nL) (hstack : g.stack = As.reverse ++ .ref b :: rest) (hW : 2 * g.monitorRoom + (rest.map fun v => v.category).sum ≤ 8) (hdg : decode cc g.pc = .ok (.invokevirtual index, 3)) (hf : cells + mc ≤ R.cells ∧ slots + ms ≤ R.slots) :
    vx_Run p l e R s m args below meth c H locs cells slots mc ms g rest (Qc (Value.ref b :: As).toArray) XC free := by
  obtain ⟨⟨hrc, hrs, hfr, hlo, hws, hcw⟩, hcode, hini, hy, hlen, hl, hin, hse⟩ := cw
  have hK : vx_Back l R p e below s args y 3 8 (PreOf R mc ms Pc) (PostOf Qc mc ms free) (vx_Post XC mc ms free) := vx_backW (hh := hh) (bytes := bytes) (maxL := maxL) (ret := ret) hM hp.1 hrc hrs hfr hlo hws hcw (fun a' U hW => word_at hW (Or.inl (by first | rfl | simp [Cond.onTables, Cond.keeps, Cond.steady])) hini)
  obtain ⟨hx, hb, hml, ho, -⟩ := S
  obtain ⟨-, ⟨cellB, hcB, hoB, hclB⟩, hPc⟩ := hp
  intro T hT X
  rcases vx_callVX X hx (C := C) (hh := hh) (bytes := bytes) (maxL := maxL) (ret := ret) ho hl hin hse hcode hy hK (by rw [hT]; exact hcB) hoB hclB hg (hsize.trans hml.symm) (argsL := As) (rest := rest) (fun sig h => hn.trans (hlen sig h)) hstack hW (by rw [hb]; exact hdg)
    (fun vm₁ hW₁ => ⟨hf.1, hf.2, hPc (T.setVm vm₁) hT hW₁⟩) with ⟨v, vm₁, ⟨U', l2, c2, s2⟩, hW₁, X', ⟨g', mk, t, L, e1, e2, hq, h1, hL, h2, h3⟩, st⟩ | ⟨q, vm₁, ⟨U', l2, c2, s2⟩, hW₁, X', ⟨g', mk, t, L, E, ce, e1, e2, hq, hce, hcv, hcl, h1, hL, h2, h3⟩, st⟩
  · dsimp only [Pt.U, Pt.locs, Pt.cells, Pt.slots] at X' e1 e2 h1 h2 h3 st
    subst h1; subst h2; subst h3
    exact Or.inl ⟨v, (T.setVm vm₁).calling g' mk (Value.ref b :: As).toArray, t, U', L, hT, X', hL, e1, e2, hq, st⟩
  · dsimp only [Pt.U, Pt.locs, Pt.cells, Pt.slots] at X' e1 e2 h1 h2 h3 st hcl
    subst h1; subst h2; subst h3
    exact Or.inr ⟨q, (T.setVm vm₁).calling g' mk (Value.ref b :: As).toArray, t, U', L, E, ce, hT, X', hL, e1, e2, hq, hce, hcv, vx_cls hW₁ hcl, st⟩
theorem vx_runSX {hh : List (Nat × Nat × Nat × Nat)} (S : CallFix p m c cc nL s args Ts own) (hM : vx_Met l y ws rm Pc Qc XC mc ms free) (cw : vx_CSW R s args own index y bytes maxL ret hh ws rm mc ms n) (hp : PreS s H Pc As)
    (hg : g.method = m) (hn : As.length = n) (hsize : g.locals.size = nL) (hstack : g.stack = As.reverse ++ rest) (hW : 2 * g.monitorRoom + (rest.map fun v => v.category).sum ≤ 8) (hdg : decode cc g.pc = .ok (.invokestatic index, 3)) (hf : cells + mc ≤ R.cells ∧ slots + ms ≤ R.slots) :
    vx_Run p l e R s m args below meth c H locs cells slots mc ms g rest (Qc As.toArray) XC free := by
  obtain ⟨⟨hrc, hrs, hfr, hlo, hws, hcw⟩, hcode, hini, hy, hlen, hl, hstt⟩ := cw
  have hK : vx_Back l R p e below s args y 3 8 (PreOf R mc ms Pc) (PostOf Qc mc ms free) (vx_Post XC mc ms free) := vx_backW (hh := hh) (bytes := bytes) (maxL := maxL) (ret := ret) hM hp.1 hrc hrs hfr hlo hws hcw (fun a' U hW => word_at hW (Or.inl (by first | rfl | simp [Cond.onTables, Cond.keeps, Cond.steady])) hini)
  obtain ⟨hx, hb, hml, ho, -⟩ := S
  intro T hT X
  rcases vx_callSX X hx (hh := hh) (bytes := bytes) (maxL := maxL) (ret := ret) ho hl hstt hini hcode hy hK hg (hsize.trans hml.symm) (argsL := As) (rest := rest) (fun sig h => hn.trans (hlen sig h)) hstack hW (by rw [hb]; exact hdg)
    (fun vm₁ hW₁ => ⟨hf.1, hf.2, hp.2 (T.setVm vm₁) hT hW₁⟩) with ⟨v, vm₁, ⟨U', l2, c2, s2⟩, hW₁, X', ⟨g', mk, t, L, e1, e2, hq, h1, hL, h2, h3⟩, st⟩ | ⟨q, vm₁, ⟨U', l2, c2, s2⟩, hW₁, X', ⟨g', mk, t, L, E, ce, e1, e2, hq, hce, hcv, hcl, h1, hL, h2, h3⟩, st⟩
  · dsimp only [Pt.U, Pt.locs, Pt.cells, Pt.slots] at X' e1 e2 h1 h2 h3 st
    subst h1; subst h2; subst h3
    exact Or.inl ⟨v, (T.setVm vm₁).calling g' mk As.toArray, t, U', L, hT, X', hL, e1, e2, hq, st⟩
  · dsimp only [Pt.U, Pt.locs, Pt.cells, Pt.slots] at X' e1 e2 h1 h2 h3 st hcl
    subst h1; subst h2; subst h3
    exact Or.inr ⟨q, (T.setVm vm₁).calling g' mk As.toArray, t, U', L, E, ce, hT, X', hL, e1, e2, hq, hce, hcv, vx_cls hW₁ hcl, st⟩
end
end VXH
theorem vx_ofWH {l : Launch} {y : MethodName} {ws ws' : List Cond} {rm : Room} {Pc : Array Value → State → Prop} {Qc : Array Value → State → Outcome → State → Prop} {XC : String → State → State → Prop} {mc ms : Nat} {free : Addr → Prop} {cc : ByteArray} {maxL : Nat} {ret : Option FieldType} {hh : List (Nat × Nat × Nat × Nat)}
    (hy : plainName y.cls = true) (hw : ws = Cond.codeWith y cc maxL ret hh :: ws')
    (body : ∀ p e s m args below meth c s₁, BodyLoose p l y (headSpec ws rm) cc maxL ret e s m args below meth c s₁ → c.maxLocals = maxL → Pc args s →
      W p l e (headSpec ws rm).room s m args below meth c s.heap [] 0 0 (vx_MQ below Qc XC args s mc ms free) (entryFrame m args maxL)) : vx_Met l y ws rm Pc Qc XC mc ms free := by
  refine MetFree.of_bodyS (code := cc) (maxLocals := maxL) (ret := ret) hy ?_ ?_
  · intro args s m h hn
    obtain ⟨m9, meth, c, hn9, h1, h2, h3, h4, -, h5, h6, -⟩ := Cond.codeWith_spec (atoms_spec (ws := ws) h _ (by rw [hw]; exact List.mem_cons_self))
    cases hn.symm.trans hn9
    exact ⟨meth, c, h1, h2, h3, h4, h5, h6⟩
  · intro p e s m args below meth c s₁ B hml hP _
    have hh0 : s₁.heap = s.heap := by rw [B.state]; rfl
    obtain ⟨t, a1, o, b1, b2, b3⟩ := body p e s m args below meth c s₁ B hml hP s₁ hh0 (Stand.of_body B)
    exact ⟨t, o, a1, b1, b2, b3⟩
/-! ===== END ===== -/

/-! ===== BEGIN printed: names, fields, word lists, decode rows ===== -/
def RX0 : String := "LinkResolver$Change"
def TX0 : u_T := fun k => match k with
  | 0 => ("LinkResolver$Change", "day", "I", true)
  | 1 => ("LinkResolver$Change", "years", "J", true)
  | 2 => ("LinkResolver$Change", "wall", "I", true)
  | _ => ("LinkResolver$Change", "before", "LLinkResolver$Change;", true)
def tyX0 : Nat → FieldType := fun k => match k with
  | 0 => .int
  | 1 => .long
  | 2 => .int
  | _ => .object "LinkResolver$Change"
abbrev wsX00 : List Cond := u_ws RX0 TX0 4
theorem nmX0 : ∀ a, a < 4 → ∀ b, b < 4 → a ≠ b → (TX0 a).2.1 ≠ (TX0 b).2.1 := by decide +kernel
theorem tyX0_ok : ∀ k, k < 4 → parseFieldDescriptor (TX0 k).2.2.1 = some (tyX0 k) := by decide +kernel
abbrev cX0_init : ByteArray := prog_2_method_1_code
def yX0_init : MethodName := ⟨RX0, "<init>", "(IJILLinkResolver$Change;)V"⟩
def RX1 : String := "LinkResolver$History"
def TX1 : u_T := fun k => match k with
  | 0 => ("LinkResolver$History", "newest", "LLinkResolver$Change;", false)
  | _ => ("LinkResolver$History", "breaks", "I", false)
def tyX1 : Nat → FieldType := fun k => match k with
  | 0 => .object "LinkResolver$Change"
  | _ => .int
abbrev wsX10 : List Cond := u_ws RX1 TX1 2
theorem nmX1 : ∀ a, a < 2 → ∀ b, b < 2 → a ≠ b → (TX1 a).2.1 ≠ (TX1 b).2.1 := by decide +kernel
theorem tyX1_ok : ∀ k, k < 2 → parseFieldDescriptor (TX1 k).2.2.1 = some (tyX1 k) := by decide +kernel
abbrev cX1_init : ByteArray := prog_3_method_1_code
def yX1_init : MethodName := ⟨RX1, "<init>", "()V"⟩
abbrev cX1_add : ByteArray := prog_3_method_2_code
def yX1_add : MethodName := ⟨RX1, "add", "(IJI)V"⟩
abbrev cX1_changeAt : ByteArray := prog_3_method_3_code
def yX1_changeAt : MethodName := ⟨RX1, "changeAt", "(I)LLinkResolver$Change;"⟩
abbrev cX1_isOnAt : ByteArray := prog_3_method_4_code
def yX1_isOnAt : MethodName := ⟨RX1, "isOnAt", "(I)Z"⟩
abbrev cX1_yearsOpen : ByteArray := prog_3_method_5_code
def yX1_yearsOpen : MethodName := ⟨RX1, "yearsOpen", "(I)J"⟩
abbrev cX1_yearsKept : ByteArray := prog_3_method_6_code
def yX1_yearsKept : MethodName := ⟨RX1, "yearsKept", "(I)J"⟩
def RX2 : String := "LinkResolver$Pack"
def TX2 : u_T := fun k => match k with
  | 0 => ("LinkResolver$Pack", "cost", "I", true)
  | 1 => ("LinkResolver$Pack", "version", "I", true)
  | 2 => ("LinkResolver$Pack", "groups", "I", true)
  | 3 => ("LinkResolver$Pack", "isKeeping", "Z", true)
  | 4 => ("LinkResolver$Pack", "subscription", "LLinkResolver$History;", true)
  | _ => ("LinkResolver$Pack", "stays", "[LLinkResolver$History;", true)
def tyX2 : Nat → FieldType := fun k => match k with
  | 0 => .int
  | 1 => .int
  | 2 => .int
  | 3 => .boolean
  | 4 => .object "LinkResolver$History"
  | _ => .array (.object "LinkResolver$History")
abbrev wsX20 : List Cond := u_ws RX2 TX2 6
theorem nmX2 : ∀ a, a < 6 → ∀ b, b < 6 → a ≠ b → (TX2 a).2.1 ≠ (TX2 b).2.1 := by decide +kernel
theorem tyX2_ok : ∀ k, k < 6 → parseFieldDescriptor (TX2 k).2.2.1 = some (tyX2 k) := by decide +kernel
abbrev cX2_init : ByteArray := prog_4_method_1_code
def yX2_init : MethodName := ⟨RX2, "<init>", "(IIIZ)V"⟩
abbrev cX2_stayOf : ByteArray := prog_4_method_2_code
def yX2_stayOf : MethodName := ⟨RX2, "stayOf", "(I)LLinkResolver$History;"⟩
abbrev cX2_letsIn : ByteArray := prog_4_method_3_code
def yX2_letsIn : MethodName := ⟨RX2, "letsIn", "(I)Z"⟩
abbrev cX2_isBroken : ByteArray := prog_4_method_4_code
def yX2_isBroken : MethodName := ⟨RX2, "isBroken", "(I)Z"⟩
abbrev cX2_yearsCovered : ByteArray := prog_4_method_5_code
def yX2_yearsCovered : MethodName := ⟨RX2, "yearsCovered", "(II)J"⟩
abbrev cX2_yearsOpen : ByteArray := prog_4_method_6_code
def yX2_yearsOpen : MethodName := ⟨RX2, "yearsOpen", "(II)J"⟩
abbrev cX2_yearsKept : ByteArray := prog_4_method_7_code
def yX2_yearsKept : MethodName := ⟨RX2, "yearsKept", "(II)J"⟩
def RX3 : String := "LinkResolver$Title"
def TX3 : u_T := fun k => match k with
  | 0 => ("LinkResolver$Title", "firstYear", "I", true)
  | _ => ("LinkResolver$Title", "volumes", "I", true)
def tyX3 : Nat → FieldType := fun k => match k with
  | 0 => .int
  | _ => .int
abbrev wsX30 : List Cond := u_ws RX3 TX3 2
theorem nmX3 : ∀ a, a < 2 → ∀ b, b < 2 → a ≠ b → (TX3 a).2.1 ≠ (TX3 b).2.1 := by decide +kernel
theorem tyX3_ok : ∀ k, k < 2 → parseFieldDescriptor (TX3 k).2.2.1 = some (tyX3 k) := by decide +kernel
abbrev cX3_init : ByteArray := prog_5_method_1_code
def yX3_init : MethodName := ⟨RX3, "<init>", "(II)V"⟩
abbrev cX3_firstVolume : ByteArray := prog_5_method_2_code
def yX3_firstVolume : MethodName := ⟨RX3, "firstVolume", "(I)I"⟩
def RX4 : String := "LinkResolver"
def TX4 : u_T := fun k => match k with
  | 0 => ("LinkResolver", "titles", "[LLinkResolver$Title;", true)
  | 1 => ("LinkResolver", "packs", "[LLinkResolver$Pack;", true)
  | 2 => ("LinkResolver", "titleCount", "I", false)
  | 3 => ("LinkResolver", "packCount", "I", false)
  | 4 => ("LinkResolver", "changeCount", "I", false)
  | _ => ("LinkResolver", "currentDay", "I", false)
def tyX4 : Nat → FieldType := fun k => match k with
  | 0 => .array (.object "LinkResolver$Title")
  | 1 => .array (.object "LinkResolver$Pack")
  | 2 => .int
  | 3 => .int
  | 4 => .int
  | _ => .int
abbrev wsX40 : List Cond := u_ws RX4 TX4 6
theorem nmX4 : ∀ a, a < 6 → ∀ b, b < 6 → a ≠ b → (TX4 a).2.1 ≠ (TX4 b).2.1 := by decide +kernel
theorem tyX4_ok : ∀ k, k < 6 → parseFieldDescriptor (TX4 k).2.2.1 = some (tyX4 k) := by decide +kernel
abbrev cX4_init : ByteArray := prog_1_method_1_code
def yX4_init : MethodName := ⟨RX4, "<init>", "()V"⟩
abbrev cX4_addTitle : ByteArray := prog_1_method_2_code
def yX4_addTitle : MethodName := ⟨RX4, "addTitle", "(II)I"⟩
abbrev cX4_yearOf : ByteArray := prog_1_method_3_code
def yX4_yearOf : MethodName := ⟨RX4, "yearOf", "(II)I"⟩
abbrev cX4_volumeOf : ByteArray := prog_1_method_4_code
def yX4_volumeOf : MethodName := ⟨RX4, "volumeOf", "(II)I"⟩
abbrev cX4_addPackage : ByteArray := prog_1_method_5_code
def yX4_addPackage : MethodName := ⟨RX4, "addPackage", "(IIII)I"⟩
abbrev cX4_subscribe : ByteArray := prog_1_method_6_code
def yX4_subscribe : MethodName := ⟨RX4, "subscribe", "(IZ)Z"⟩
abbrev cX4_come : ByteArray := prog_1_method_7_code
def yX4_come : MethodName := ⟨RX4, "come", "(IIIII)Z"⟩
abbrev cX4_go : ByteArray := prog_1_method_8_code
def yX4_go : MethodName := ⟨RX4, "go", "(II)V"⟩
abbrev cX4_pass : ByteArray := prog_1_method_9_code
def yX4_pass : MethodName := ⟨RX4, "pass", "(I)I"⟩
abbrev cX4_today : ByteArray := prog_1_method_10_code
def yX4_today : MethodName := ⟨RX4, "today", "()I"⟩
abbrev cX4_isSubscribed : ByteArray := prog_1_method_11_code
def yX4_isSubscribed : MethodName := ⟨RX4, "isSubscribed", "(II)Z"⟩
abbrev cX4_isIn : ByteArray := prog_1_method_12_code
def yX4_isIn : MethodName := ⟨RX4, "isIn", "(III)Z"⟩
abbrev cX4_report : ByteArray := prog_1_method_13_code
def yX4_report : MethodName := ⟨RX4, "report", "(II)I"⟩
abbrev cX4_mend : ByteArray := prog_1_method_14_code
def yX4_mend : MethodName := ⟨RX4, "mend", "(II)I"⟩
abbrev cX4_covers : ByteArray := prog_1_method_15_code
def yX4_covers : MethodName := ⟨RX4, "covers", "(IIIII)Z"⟩
abbrev cX4_ways : ByteArray := prog_1_method_16_code
def yX4_ways : MethodName := ⟨RX4, "ways", "(IIII)I"⟩
abbrev cX4_wayAt : ByteArray := prog_1_method_17_code
def yX4_wayAt : MethodName := ⟨RX4, "wayAt", "(IIIII)I"⟩
abbrev cX4_gap : ByteArray := prog_1_method_18_code
def yX4_gap : MethodName := ⟨RX4, "gap", "(II)I"⟩
abbrev cX4_doubles : ByteArray := prog_1_method_19_code
def yX4_doubles : MethodName := ⟨RX4, "doubles", "(II)I"⟩
abbrev cX4_isNeedless : ByteArray := prog_1_method_20_code
def yX4_isNeedless : MethodName := ⟨RX4, "isNeedless", "(I)Z"⟩
abbrev cX4_checkRange : ByteArray := prog_1_method_21_code
def yX4_checkRange : MethodName := ⟨RX4, "checkRange", "(III)V"⟩
abbrev cX4_checkArticle : ByteArray := prog_1_method_22_code
def yX4_checkArticle : MethodName := ⟨RX4, "checkArticle", "(III)V"⟩
abbrev cX4_existingTitle : ByteArray := prog_1_method_23_code
def yX4_existingTitle : MethodName := ⟨RX4, "existingTitle", "(I)LLinkResolver$Title;"⟩
abbrev cX4_existingPack : ByteArray := prog_1_method_24_code
def yX4_existingPack : MethodName := ⟨RX4, "existingPack", "(I)LLinkResolver$Pack;"⟩
abbrev cX4_existingStay : ByteArray := prog_1_method_25_code
def yX4_existingStay : MethodName := ⟨RX4, "existingStay", "(II)LLinkResolver$History;"⟩
abbrev cX4_change : ByteArray := prog_1_method_26_code
def yX4_change : MethodName := ⟨RX4, "change", "(LLinkResolver$History;JI)V"⟩
abbrev cX4_isWay : ByteArray := prog_1_method_27_code
def yX4_isWay : MethodName := ⟨RX4, "isWay", "(LLinkResolver$Pack;IIII)Z"⟩
abbrev cX4_waysTo : ByteArray := prog_1_method_28_code
def yX4_waysTo : MethodName := ⟨RX4, "waysTo", "(IIII)I"⟩
abbrev cX4_isAmong : ByteArray := prog_1_method_29_code
def yX4_isAmong : MethodName := ⟨RX4, "isAmong", "(II)Z"⟩
abbrev cX4_placeAmong : ByteArray := prog_1_method_30_code
def yX4_placeAmong : MethodName := ⟨RX4, "placeAmong", "(III)I"⟩
abbrev cX4_isAhead : ByteArray := prog_1_method_31_code
def yX4_isAhead : MethodName := ⟨RX4, "isAhead", "(III)Z"⟩
abbrev cX4_yearsSoFar : ByteArray := prog_1_method_32_code
def yX4_yearsSoFar : MethodName := ⟨RX4, "yearsSoFar", "(LLinkResolver$Title;)J"⟩
abbrev cX4_yearsCoveredButBy : ByteArray := prog_1_method_33_code
def yX4_yearsCoveredButBy : MethodName := ⟨RX4, "yearsCoveredButBy", "(III)J"⟩
abbrev cX4_isLostWithout : ByteArray := prog_1_method_34_code
def yX4_isLostWithout : MethodName := ⟨RX4, "isLostWithout", "(II)Z"⟩
abbrev cX4_yearsBetween : ByteArray := prog_1_method_35_code
def yX4_yearsBetween : MethodName := ⟨RX4, "yearsBetween", "(II)J"⟩
abbrev cX4_hasYear : ByteArray := prog_1_method_36_code
def yX4_hasYear : MethodName := ⟨RX4, "hasYear", "(JI)Z"⟩
def RX5 : String := "LinkResolverModel"
def TX5 : u_T := fun k => match k with
  | 0 => ("LinkResolverModel", "thrown", "I", false)
  | 1 => ("LinkResolverModel", "today", "I", false)
  | 2 => ("LinkResolverModel", "titles", "I", false)
  | 3 => ("LinkResolverModel", "packages", "I", false)
  | 4 => ("LinkResolverModel", "firstYears", "[I", true)
  | 5 => ("LinkResolverModel", "volumes", "[I", true)
  | 6 => ("LinkResolverModel", "costs", "[I", true)
  | 7 => ("LinkResolverModel", "versions", "[I", true)
  | 8 => ("LinkResolverModel", "groups", "[I", true)
  | 9 => ("LinkResolverModel", "keeps", "[Z", true)
  | 10 => ("LinkResolverModel", "breaks", "[I", true)
  | 11 => ("LinkResolverModel", "changes", "I", false)
  | 12 => ("LinkResolverModel", "ofWhat", "[I", true)
  | 13 => ("LinkResolverModel", "days", "[I", true)
  | 14 => ("LinkResolverModel", "isOn", "[Z", true)
  | 15 => ("LinkResolverModel", "firsts", "[I", true)
  | 16 => ("LinkResolverModel", "lasts", "[I", true)
  | _ => ("LinkResolverModel", "walls", "[I", true)
def tyX5 : Nat → FieldType := fun k => match k with
  | 0 => .int
  | 1 => .int
  | 2 => .int
  | 3 => .int
  | 4 => .array .int
  | 5 => .array .int
  | 6 => .array .int
  | 7 => .array .int
  | 8 => .array .int
  | 9 => .array .boolean
  | 10 => .array .int
  | 11 => .int
  | 12 => .array .int
  | 13 => .array .int
  | 14 => .array .boolean
  | 15 => .array .int
  | 16 => .array .int
  | _ => .array .int
abbrev wsX50 : List Cond := u_ws RX5 TX5 18
theorem nmX5 : ∀ a, a < 18 → ∀ b, b < 18 → a ≠ b → (TX5 a).2.1 ≠ (TX5 b).2.1 := by decide +kernel
theorem tyX5_ok : ∀ k, k < 18 → parseFieldDescriptor (TX5 k).2.2.1 = some (tyX5 k) := by decide +kernel
abbrev cX5_init : ByteArray := prog_7_method_1_code
def yX5_init : MethodName := ⟨RX5, "<init>", "()V"⟩
abbrev cX5_thrown : ByteArray := prog_7_method_2_code
def yX5_thrown : MethodName := ⟨RX5, "thrown", "()I"⟩
abbrev cX5_holds : ByteArray := prog_7_method_3_code
def yX5_holds : MethodName := ⟨RX5, "holds", "(I)Z"⟩
abbrev cX5_isBetween : ByteArray := prog_7_method_4_code
def yX5_isBetween : MethodName := ⟨RX5, "isBetween", "(III)Z"⟩
abbrev cX5_isTitle : ByteArray := prog_7_method_5_code
def yX5_isTitle : MethodName := ⟨RX5, "isTitle", "(I)Z"⟩
abbrev cX5_isPackage : ByteArray := prog_7_method_6_code
def yX5_isPackage : MethodName := ⟨RX5, "isPackage", "(I)Z"⟩
abbrev cX5_addTitle : ByteArray := prog_7_method_7_code
def yX5_addTitle : MethodName := ⟨RX5, "addTitle", "(II)I"⟩
abbrev cX5_yearOf : ByteArray := prog_7_method_8_code
def yX5_yearOf : MethodName := ⟨RX5, "yearOf", "(II)I"⟩
abbrev cX5_volumeOf : ByteArray := prog_7_method_9_code
def yX5_volumeOf : MethodName := ⟨RX5, "volumeOf", "(II)I"⟩
abbrev cX5_addPackage : ByteArray := prog_7_method_10_code
def yX5_addPackage : MethodName := ⟨RX5, "addPackage", "(IIII)I"⟩
abbrev cX5_changeOn : ByteArray := prog_7_method_11_code
def yX5_changeOn : MethodName := ⟨RX5, "changeOn", "(II)I"⟩
abbrev cX5_isSo : ByteArray := prog_7_method_12_code
def yX5_isSo : MethodName := ⟨RX5, "isSo", "(II)Z"⟩
abbrev cX5_notes : ByteArray := prog_7_method_13_code
def yX5_notes : MethodName := ⟨RX5, "notes", "(IZIII)Z"⟩
abbrev cX5_subscription : ByteArray := prog_7_method_14_code
def yX5_subscription : MethodName := ⟨RX5, "subscription", "(I)I"⟩
abbrev cX5_subscribe : ByteArray := prog_7_method_15_code
def yX5_subscribe : MethodName := ⟨RX5, "subscribe", "(IZ)Z"⟩
abbrev cX5_come : ByteArray := prog_7_method_16_code
def yX5_come : MethodName := ⟨RX5, "come", "(IIIII)Z"⟩
abbrev cX5_go : ByteArray := prog_7_method_17_code
def yX5_go : MethodName := ⟨RX5, "go", "(II)V"⟩
abbrev cX5_pass : ByteArray := prog_7_method_18_code
def yX5_pass : MethodName := ⟨RX5, "pass", "(I)I"⟩
abbrev cX5_today : ByteArray := prog_7_method_19_code
def yX5_today : MethodName := ⟨RX5, "today", "()I"⟩
abbrev cX5_isSubscribed : ByteArray := prog_7_method_20_code
def yX5_isSubscribed : MethodName := ⟨RX5, "isSubscribed", "(II)Z"⟩
abbrev cX5_isIn : ByteArray := prog_7_method_21_code
def yX5_isIn : MethodName := ⟨RX5, "isIn", "(III)Z"⟩
abbrev cX5_report : ByteArray := prog_7_method_22_code
def yX5_report : MethodName := ⟨RX5, "report", "(II)I"⟩
abbrev cX5_mend : ByteArray := prog_7_method_23_code
def yX5_mend : MethodName := ⟨RX5, "mend", "(II)I"⟩
abbrev cX5_has : ByteArray := prog_7_method_24_code
def yX5_has : MethodName := ⟨RX5, "has", "(IIIII)Z"⟩
abbrev cX5_isKept : ByteArray := prog_7_method_25_code
def yX5_isKept : MethodName := ⟨RX5, "isKept", "(IIII)Z"⟩
abbrev cX5_isCovered : ByteArray := prog_7_method_26_code
def yX5_isCovered : MethodName := ⟨RX5, "isCovered", "(IIII)Z"⟩
abbrev cX5_lets : ByteArray := prog_7_method_27_code
def yX5_lets : MethodName := ⟨RX5, "lets", "(II)Z"⟩
abbrev cX5_isAsked : ByteArray := prog_7_method_28_code
def yX5_isAsked : MethodName := ⟨RX5, "isAsked", "(III)Z"⟩
abbrev cX5_covers : ByteArray := prog_7_method_29_code
def yX5_covers : MethodName := ⟨RX5, "covers", "(IIIII)Z"⟩
abbrev cX5_waysTo : ByteArray := prog_7_method_30_code
def yX5_waysTo : MethodName := ⟨RX5, "waysTo", "(IIII)I"⟩
abbrev cX5_ways : ByteArray := prog_7_method_31_code
def yX5_ways : MethodName := ⟨RX5, "ways", "(IIII)I"⟩
abbrev cX5_isAhead : ByteArray := prog_7_method_32_code
def yX5_isAhead : MethodName := ⟨RX5, "isAhead", "(III)Z"⟩
abbrev cX5_wayAt : ByteArray := prog_7_method_33_code
def yX5_wayAt : MethodName := ⟨RX5, "wayAt", "(IIIII)I"⟩
abbrev cX5_isOfTitle : ByteArray := prog_7_method_34_code
def yX5_isOfTitle : MethodName := ⟨RX5, "isOfTitle", "(II)Z"⟩
abbrev cX5_gap : ByteArray := prog_7_method_35_code
def yX5_gap : MethodName := ⟨RX5, "gap", "(II)I"⟩
abbrev cX5_doubles : ByteArray := prog_7_method_36_code
def yX5_doubles : MethodName := ⟨RX5, "doubles", "(II)I"⟩
abbrev cX5_othersFor : ByteArray := prog_7_method_37_code
def yX5_othersFor : MethodName := ⟨RX5, "othersFor", "(III)I"⟩
abbrev cX5_isNeedless : ByteArray := prog_7_method_38_code
def yX5_isNeedless : MethodName := ⟨RX5, "isNeedless", "(I)Z"⟩
def RJ6 : String := "java/lang/Integer"
def TJ6 : u_T := fun k => match k with
  | _ => ("", "", "", false)
def tyJ6 : Nat → FieldType := fun k => match k with
  | _ => .int
abbrev wsJ60 : List Cond := u_ws RJ6 TJ6 0
theorem nmJ6 : ∀ a, a < 0 → ∀ b, b < 0 → a ≠ b → (TJ6 a).2.1 ≠ (TJ6 b).2.1 := by decide +kernel
theorem tyJ6_ok : ∀ k, k < 0 → parseFieldDescriptor (TJ6 k).2.2.1 = some (tyJ6 k) := by decide +kernel
abbrev cJ6_bitCount_0f7a4 : ByteArray := prog_12_method_49_code
def yJ6_bitCount_0f7a4 : MethodName := ⟨RJ6, "bitCount", "(I)I"⟩
def RJ13 : String := "java/lang/Long"
def TJ13 : u_T := fun k => match k with
  | _ => ("", "", "", false)
def tyJ13 : Nat → FieldType := fun k => match k with
  | _ => .int
abbrev wsJ130 : List Cond := u_ws RJ13 TJ13 0
theorem nmJ13 : ∀ a, a < 0 → ∀ b, b < 0 → a ≠ b → (TJ13 a).2.1 ≠ (TJ13 b).2.1 := by decide +kernel
theorem tyJ13_ok : ∀ k, k < 0 → parseFieldDescriptor (TJ13 k).2.2.1 = some (tyJ13 k) := by decide +kernel
abbrev cJ13_bitCount_95d88 : ByteArray := prog_13_method_50_code
def yJ13_bitCount_95d88 : MethodName := ⟨RJ13, "bitCount", "(J)I"⟩
def RJ9 : String := "java/lang/Math"
def TJ9 : u_T := fun k => match k with
  | _ => ("", "", "", false)
def tyJ9 : Nat → FieldType := fun k => match k with
  | _ => .int
abbrev wsJ90 : List Cond := u_ws RJ9 TJ9 0
theorem nmJ9 : ∀ a, a < 0 → ∀ b, b < 0 → a ≠ b → (TJ9 a).2.1 ≠ (TJ9 b).2.1 := by decide +kernel
theorem tyJ9_ok : ∀ k, k < 0 → parseFieldDescriptor (TJ9 k).2.2.1 = some (tyJ9 k) := by decide +kernel
abbrev cJ9_min_7cf53 : ByteArray := prog_14_method_69_code
def yJ9_min_7cf53 : MethodName := ⟨RJ9, "min", "(II)I"⟩
def RJ0 : String := "java/lang/String"
def TJ0 : u_T := fun k => match k with
  | _ => ("", "", "", false)
def tyJ0 : Nat → FieldType := fun k => match k with
  | _ => .int
abbrev wsJ00 : List Cond := u_ws RJ0 TJ0 0
theorem nmJ0 : ∀ a, a < 0 → ∀ b, b < 0 → a ≠ b → (TJ0 a).2.1 ≠ (TJ0 b).2.1 := by decide +kernel
theorem tyJ0_ok : ∀ k, k < 0 → parseFieldDescriptor (TJ0 k).2.2.1 = some (tyJ0 k) := by decide +kernel
def RL : String := "LinkResolverLaw"
abbrev cL_addTitle : ByteArray := method_3_code
def yL_addTitle : MethodName := ⟨RL, "addTitle", "(LLinkResolver;II[J)I"⟩
abbrev cL_yearOf : ByteArray := method_4_code
def yL_yearOf : MethodName := ⟨RL, "yearOf", "(LLinkResolver;II[J)I"⟩
abbrev cL_volumeOf : ByteArray := method_5_code
def yL_volumeOf : MethodName := ⟨RL, "volumeOf", "(LLinkResolver;II[J)I"⟩
abbrev cL_addPackage : ByteArray := method_6_code
def yL_addPackage : MethodName := ⟨RL, "addPackage", "(LLinkResolver;IIII[J)I"⟩
abbrev cL_subscribe : ByteArray := method_7_code
def yL_subscribe : MethodName := ⟨RL, "subscribe", "(LLinkResolver;IZ[J)I"⟩
abbrev cL_come : ByteArray := method_8_code
def yL_come : MethodName := ⟨RL, "come", "(LLinkResolver;IIIII[J)I"⟩
abbrev cL_go : ByteArray := method_9_code
def yL_go : MethodName := ⟨RL, "go", "(LLinkResolver;II)I"⟩
abbrev cL_pass : ByteArray := method_10_code
def yL_pass : MethodName := ⟨RL, "pass", "(LLinkResolver;I[J)I"⟩
abbrev cL_isSubscribed : ByteArray := method_11_code
def yL_isSubscribed : MethodName := ⟨RL, "isSubscribed", "(LLinkResolver;II[J)I"⟩
abbrev cL_isIn : ByteArray := method_12_code
def yL_isIn : MethodName := ⟨RL, "isIn", "(LLinkResolver;III[J)I"⟩
abbrev cL_report : ByteArray := method_13_code
def yL_report : MethodName := ⟨RL, "report", "(LLinkResolver;II[J)I"⟩
abbrev cL_mend : ByteArray := method_14_code
def yL_mend : MethodName := ⟨RL, "mend", "(LLinkResolver;II[J)I"⟩
abbrev cL_covers : ByteArray := method_15_code
def yL_covers : MethodName := ⟨RL, "covers", "(LLinkResolver;IIIII[J)I"⟩
abbrev cL_ways : ByteArray := method_16_code
def yL_ways : MethodName := ⟨RL, "ways", "(LLinkResolver;IIII[J)I"⟩
abbrev cL_wayAt : ByteArray := method_17_code
def yL_wayAt : MethodName := ⟨RL, "wayAt", "(LLinkResolver;IIIII[J)I"⟩
abbrev cL_gap : ByteArray := method_18_code
def yL_gap : MethodName := ⟨RL, "gap", "(LLinkResolver;II[J)I"⟩
abbrev cL_doubles : ByteArray := method_19_code
def yL_doubles : MethodName := ⟨RL, "doubles", "(LLinkResolver;II[J)I"⟩
abbrev cL_isNeedless : ByteArray := method_20_code
def yL_isNeedless : MethodName := ⟨RL, "isNeedless", "(LLinkResolver;I[J)I"⟩
abbrev cL_law : ByteArray := code
def yL_law : MethodName := ⟨RL, "law", "([I)Z"⟩
def wsX0_init : List Cond := .code yX0_init cX0_init 6 none :: ([.methodLink RX0 1 objectInit, .instanceMethod objectInit, .code objectInit ⟨#[0xb1]⟩ 1 none, .fieldLink RX0 7 "LinkResolver$Change" "day" "I", .fieldLink RX0 13 "LinkResolver$Change" "years" "J", .fieldLink RX0 17 "LinkResolver$Change" "wall" "I", .fieldLink RX0 20 "LinkResolver$Change" "before" "LLinkResolver$Change;"] ++ wsX00)
def wsX1_init : List Cond := .code yX1_init cX1_init 1 none :: ([.methodLink RX1 3 objectInit, .instanceMethod objectInit, .code objectInit ⟨#[0xb1]⟩ 1 none, .fieldLink RX1 9 "LinkResolver$History" "newest" "LLinkResolver$Change;", .fieldLink RX1 15 "LinkResolver$History" "breaks" "I"] ++ wsX10)
def wsX1_add : List Cond := .code yX1_add cX1_add 5 none :: ([.classLink RX1 19 RX0, .instantiable RX0 4, .initialized RX0, .fieldLink RX1 9 "LinkResolver$History" "newest" "LLinkResolver$Change;", .methodLink RX1 21 yX0_init, .instanceMethod yX0_init, .code yX0_init cX0_init 6 none, .methodLink RX0 1 objectInit, .instanceMethod objectInit, .code objectInit ⟨#[0xb1]⟩ 1 none, .fieldLink RX0 7 "LinkResolver$Change" "day" "I", .fieldLink RX0 13 "LinkResolver$Change" "years" "J", .fieldLink RX0 17 "LinkResolver$Change" "wall" "I", .fieldLink RX0 20 "LinkResolver$Change" "before" "LLinkResolver$Change;"] ++ wsX00 ++ wsX10)
def wsX1_changeAt : List Cond := .code yX1_changeAt cX1_changeAt 3 (some (.object "LinkResolver$Change")) :: ([.fieldLink RX1 9 "LinkResolver$History" "newest" "LLinkResolver$Change;", .fieldLink RX1 24 "LinkResolver$Change" "day" "I", .fieldLink RX1 27 "LinkResolver$Change" "before" "LLinkResolver$Change;"] ++ wsX10 ++ wsX00)
def wsX1_isOnAt : List Cond := .code yX1_isOnAt cX1_isOnAt 3 (some .boolean) :: ([.fieldLink RX1 34 "LinkResolver$Change" "years" "J", .methodLink RX1 30 yX1_changeAt, .instanceMethod yX1_changeAt, .selects RX1 yX1_changeAt yX1_changeAt, .initialized RX1, .code yX1_changeAt cX1_changeAt 3 (some (.object "LinkResolver$Change")), .fieldLink RX1 9 "LinkResolver$History" "newest" "LLinkResolver$Change;", .fieldLink RX1 24 "LinkResolver$Change" "day" "I", .fieldLink RX1 27 "LinkResolver$Change" "before" "LLinkResolver$Change;"] ++ wsX00 ++ wsX10)
def wsX4_yearsBetween : List Cond := .code yX4_yearsBetween cX4_yearsBetween 2 (some .long) :: ([])
def wsX1_yearsOpen : List Cond := .code yX1_yearsOpen cX1_yearsOpen 3 (some .long) :: ([.fieldLink RX1 34 "LinkResolver$Change" "years" "J", .fieldLink RX1 38 "LinkResolver$Change" "wall" "I", .methodLink RX1 30 yX1_changeAt, .instanceMethod yX1_changeAt, .selects RX1 yX1_changeAt yX1_changeAt, .initialized RX1, .code yX1_changeAt cX1_changeAt 3 (some (.object "LinkResolver$Change")), .fieldLink RX1 9 "LinkResolver$History" "newest" "LLinkResolver$Change;", .fieldLink RX1 24 "LinkResolver$Change" "day" "I", .fieldLink RX1 27 "LinkResolver$Change" "before" "LLinkResolver$Change;", .static yX4_yearsBetween, .initialized RX4, .code yX4_yearsBetween cX4_yearsBetween 2 (some .long)] ++ wsX00 ++ wsX10)
def wsX1_yearsKept : List Cond := .code yX1_yearsKept cX1_yearsKept 10 (some .long) :: ([.fieldLink RX1 9 "LinkResolver$History" "newest" "LLinkResolver$Change;", .fieldLink RX1 24 "LinkResolver$Change" "day" "I", .fieldLink RX1 38 "LinkResolver$Change" "wall" "I", .fieldLink RX1 34 "LinkResolver$Change" "years" "J", .methodLink RX1 45 Lib.Math.min.name, .static Lib.Math.min.name, .initialized "java/lang/Math", .code Lib.Math.min.name Lib.Math.min.code 2 (some .int), .fieldLink RX1 27 "LinkResolver$Change" "before" "LLinkResolver$Change;", .static yX4_yearsBetween, .initialized RX4, .code yX4_yearsBetween cX4_yearsBetween 2 (some .long)] ++ wsX10 ++ wsX00)
def wsX2_init : List Cond := .code yX2_init cX2_init 6 none :: ([.methodLink RX2 3 objectInit, .instanceMethod objectInit, .code objectInit ⟨#[0xb1]⟩ 1 none, .fieldLink RX2 9 "LinkResolver$Pack" "cost" "I", .fieldLink RX2 15 "LinkResolver$Pack" "version" "I", .fieldLink RX2 18 "LinkResolver$Pack" "groups" "I", .fieldLink RX2 21 "LinkResolver$Pack" "isKeeping" "Z", .classLink RX2 25 RX1, .instantiable RX1 2, .initialized RX1, .fieldLink RX2 28 "LinkResolver$Pack" "subscription" "LLinkResolver$History;", .fieldLink RX2 32 "LinkResolver$Pack" "stays" "[LLinkResolver$History;", .methodLink RX2 27 yX1_init, .instanceMethod yX1_init, .code yX1_init cX1_init 1 none, .methodLink RX1 3 objectInit, .fieldLink RX1 9 "LinkResolver$History" "newest" "LLinkResolver$Change;", .fieldLink RX1 15 "LinkResolver$History" "breaks" "I"] ++ wsX20 ++ wsX10)
def wsX2_stayOf : List Cond := .code yX2_stayOf cX2_stayOf 2 (some (.object "LinkResolver$History")) :: ([.classLink RX2 36 "java/lang/IndexOutOfBoundsException", .initialized "java/lang/IndexOutOfBoundsException", .fieldLink RX2 32 "LinkResolver$Pack" "stays" "[LLinkResolver$History;"] ++ wsX20 ++ (vx_atS RX2 40 "java/lang/IndexOutOfBoundsException" ["java/lang/RuntimeException", "java/lang/Exception"]).filter goodWord)
def wsX2_letsIn : List Cond := .code yX2_letsIn cX2_letsIn 2 (some .boolean) :: ([.fieldLink RX2 18 "LinkResolver$Pack" "groups" "I"] ++ wsX20)
def wsX2_isBroken : List Cond := .code yX2_isBroken cX2_isBroken 2 (some .boolean) :: ([.fieldLink RX2 47 "LinkResolver$History" "breaks" "I", .methodLink RX2 43 yX2_stayOf, .instanceMethod yX2_stayOf, .selects RX2 yX2_stayOf yX2_stayOf, .initialized RX2, .code yX2_stayOf cX2_stayOf 2 (some (.object "LinkResolver$History")), .classLink RX2 36 "java/lang/IndexOutOfBoundsException", .initialized "java/lang/IndexOutOfBoundsException", .fieldLink RX2 32 "LinkResolver$Pack" "stays" "[LLinkResolver$History;"] ++ wsX10 ++ wsX20 ++ (vx_atS RX2 40 "java/lang/IndexOutOfBoundsException" ["java/lang/RuntimeException", "java/lang/Exception"]).filter goodWord)
def wsX2_yearsOpen_r1 : List Cond := [Cond.fieldLink RX2 28 "LinkResolver$Pack" "subscription" "LLinkResolver$History;", Cond.methodLink RX2 43 yX2_stayOf, Cond.instanceMethod yX2_stayOf, Cond.selects RX2 yX2_stayOf yX2_stayOf, Cond.initialized RX2, Cond.code yX2_stayOf cX2_stayOf 2 (some (.object "LinkResolver$History")), Cond.classLink RX2 36 "java/lang/IndexOutOfBoundsException", Cond.initialized "java/lang/IndexOutOfBoundsException", Cond.fieldLink RX2 32 "LinkResolver$Pack" "stays" "[LLinkResolver$History;", Cond.methodLink RX2 57 yX1_yearsOpen, Cond.instanceMethod yX1_yearsOpen, Cond.selects RX1 yX1_yearsOpen yX1_yearsOpen, Cond.initialized RX1, Cond.code yX1_yearsOpen cX1_yearsOpen 3 (some .long), Cond.fieldLink RX1 34 "LinkResolver$Change" "years" "J", Cond.fieldLink RX1 38 "LinkResolver$Change" "wall" "I", Cond.methodLink RX1 30 yX1_changeAt, Cond.instanceMethod yX1_changeAt, Cond.selects RX1 yX1_changeAt yX1_changeAt, Cond.code yX1_changeAt cX1_changeAt 3 (some (.object "LinkResolver$Change")), Cond.fieldLink RX1 9 "LinkResolver$History" "newest" "LLinkResolver$Change;", Cond.fieldLink RX1 24 "LinkResolver$Change" "day" "I", Cond.fieldLink RX1 27 "LinkResolver$Change" "before" "LLinkResolver$Change;", Cond.static yX4_yearsBetween]
def wsX2_yearsOpen_r2 : List Cond := [Cond.initialized RX4, Cond.code yX4_yearsBetween cX4_yearsBetween 2 (some .long)]
def wsX2_yearsOpen : List Cond := .code yX2_yearsOpen cX2_yearsOpen 3 (some .long) :: ((wsX2_yearsOpen_r1 ++ wsX2_yearsOpen_r2) ++ wsX20 ++ wsX00 ++ wsX10 ++ (vx_atS RX2 40 "java/lang/IndexOutOfBoundsException" ["java/lang/RuntimeException", "java/lang/Exception"]).filter goodWord)
def wsX2_yearsKept_r1 : List Cond := [Cond.fieldLink RX2 21 "LinkResolver$Pack" "isKeeping" "Z", Cond.fieldLink RX2 28 "LinkResolver$Pack" "subscription" "LLinkResolver$History;", Cond.methodLink RX2 43 yX2_stayOf, Cond.instanceMethod yX2_stayOf, Cond.selects RX2 yX2_stayOf yX2_stayOf, Cond.initialized RX2, Cond.code yX2_stayOf cX2_stayOf 2 (some (.object "LinkResolver$History")), Cond.classLink RX2 36 "java/lang/IndexOutOfBoundsException", Cond.initialized "java/lang/IndexOutOfBoundsException", Cond.fieldLink RX2 32 "LinkResolver$Pack" "stays" "[LLinkResolver$History;", Cond.methodLink RX2 60 yX1_yearsKept, Cond.instanceMethod yX1_yearsKept, Cond.selects RX1 yX1_yearsKept yX1_yearsKept, Cond.initialized RX1, Cond.code yX1_yearsKept cX1_yearsKept 10 (some .long), Cond.fieldLink RX1 9 "LinkResolver$History" "newest" "LLinkResolver$Change;", Cond.fieldLink RX1 24 "LinkResolver$Change" "day" "I", Cond.fieldLink RX1 38 "LinkResolver$Change" "wall" "I", Cond.fieldLink RX1 34 "LinkResolver$Change" "years" "J", Cond.methodLink RX1 45 Lib.Math.min.name, Cond.static Lib.Math.min.name, Cond.initialized "java/lang/Math", Cond.code Lib.Math.min.name Lib.Math.min.code 2 (some .int), Cond.fieldLink RX1 27 "LinkResolver$Change" "before" "LLinkResolver$Change;"]
def wsX2_yearsKept_r2 : List Cond := [Cond.static yX4_yearsBetween, Cond.initialized RX4, Cond.code yX4_yearsBetween cX4_yearsBetween 2 (some .long)]
def wsX2_yearsKept : List Cond := .code yX2_yearsKept cX2_yearsKept 5 (some .long) :: ((wsX2_yearsKept_r1 ++ wsX2_yearsKept_r2) ++ wsX20 ++ wsX10 ++ wsX00 ++ (vx_atS RX2 40 "java/lang/IndexOutOfBoundsException" ["java/lang/RuntimeException", "java/lang/Exception"]).filter goodWord)
def wsX2_yearsCovered_r1 : List Cond := [Cond.methodLink RX2 50 yX2_yearsOpen, Cond.instanceMethod yX2_yearsOpen, Cond.selects RX2 yX2_yearsOpen yX2_yearsOpen, Cond.initialized RX2, Cond.code yX2_yearsOpen cX2_yearsOpen 3 (some .long), Cond.fieldLink RX2 28 "LinkResolver$Pack" "subscription" "LLinkResolver$History;", Cond.methodLink RX2 43 yX2_stayOf, Cond.instanceMethod yX2_stayOf, Cond.selects RX2 yX2_stayOf yX2_stayOf, Cond.code yX2_stayOf cX2_stayOf 2 (some (.object "LinkResolver$History")), Cond.classLink RX2 36 "java/lang/IndexOutOfBoundsException", Cond.initialized "java/lang/IndexOutOfBoundsException", Cond.fieldLink RX2 32 "LinkResolver$Pack" "stays" "[LLinkResolver$History;", Cond.methodLink RX2 57 yX1_yearsOpen, Cond.instanceMethod yX1_yearsOpen, Cond.selects RX1 yX1_yearsOpen yX1_yearsOpen, Cond.initialized RX1, Cond.code yX1_yearsOpen cX1_yearsOpen 3 (some .long), Cond.fieldLink RX1 34 "LinkResolver$Change" "years" "J", Cond.fieldLink RX1 38 "LinkResolver$Change" "wall" "I", Cond.methodLink RX1 30 yX1_changeAt, Cond.instanceMethod yX1_changeAt, Cond.selects RX1 yX1_changeAt yX1_changeAt, Cond.code yX1_changeAt cX1_changeAt 3 (some (.object "LinkResolver$Change"))]
def wsX2_yearsCovered_r2 : List Cond := [Cond.fieldLink RX1 9 "LinkResolver$History" "newest" "LLinkResolver$Change;", Cond.fieldLink RX1 24 "LinkResolver$Change" "day" "I", Cond.fieldLink RX1 27 "LinkResolver$Change" "before" "LLinkResolver$Change;", Cond.static yX4_yearsBetween, Cond.initialized RX4, Cond.code yX4_yearsBetween cX4_yearsBetween 2 (some .long), Cond.methodLink RX2 54 yX2_yearsKept, Cond.instanceMethod yX2_yearsKept, Cond.selects RX2 yX2_yearsKept yX2_yearsKept, Cond.code yX2_yearsKept cX2_yearsKept 5 (some .long), Cond.fieldLink RX2 21 "LinkResolver$Pack" "isKeeping" "Z", Cond.methodLink RX2 60 yX1_yearsKept, Cond.instanceMethod yX1_yearsKept, Cond.selects RX1 yX1_yearsKept yX1_yearsKept, Cond.code yX1_yearsKept cX1_yearsKept 10 (some .long), Cond.methodLink RX1 45 Lib.Math.min.name, Cond.static Lib.Math.min.name, Cond.initialized "java/lang/Math", Cond.code Lib.Math.min.name Lib.Math.min.code 2 (some .int)]
def wsX2_yearsCovered : List Cond := .code yX2_yearsCovered cX2_yearsCovered 3 (some .long) :: ((wsX2_yearsCovered_r1 ++ wsX2_yearsCovered_r2) ++ wsX20 ++ wsX00 ++ wsX10 ++ (vx_atS RX2 40 "java/lang/IndexOutOfBoundsException" ["java/lang/RuntimeException", "java/lang/Exception"]).filter goodWord)
def wsX3_init : List Cond := .code yX3_init cX3_init 3 none :: ([.methodLink RX3 1 objectInit, .instanceMethod objectInit, .code objectInit ⟨#[0xb1]⟩ 1 none, .fieldLink RX3 7 "LinkResolver$Title" "firstYear" "I", .fieldLink RX3 13 "LinkResolver$Title" "volumes" "I"] ++ wsX30)
def wsX3_firstVolume : List Cond := .code yX3_firstVolume cX3_firstVolume 2 (some .int) :: ([.fieldLink RX3 7 "LinkResolver$Title" "firstYear" "I", .fieldLink RX3 13 "LinkResolver$Title" "volumes" "I"] ++ wsX30)
def wsX4_init : List Cond := .code yX4_init cX4_init 1 none :: ([.methodLink RX4 3 objectInit, .instanceMethod objectInit, .code objectInit ⟨#[0xb1]⟩ 1 none, .classLink RX4 9 RX3, .fieldLink RX4 11 "LinkResolver" "titles" "[LLinkResolver$Title;", .classLink RX4 15 RX2, .fieldLink RX4 17 "LinkResolver" "packs" "[LLinkResolver$Pack;", .fieldLink RX4 21 "LinkResolver" "titleCount" "I", .fieldLink RX4 25 "LinkResolver" "packCount" "I", .fieldLink RX4 28 "LinkResolver" "changeCount" "I", .fieldLink RX4 31 "LinkResolver" "currentDay" "I"] ++ wsX40)
def wsX4_checkRange : List Cond := .code yX4_checkRange cX4_checkRange 3 none :: ([.classLink RX4 156 "java/lang/IllegalArgumentException", .initialized "java/lang/IllegalArgumentException"] ++ (vx_atS RX4 160 "java/lang/IllegalArgumentException" ["java/lang/RuntimeException", "java/lang/Exception"]).filter goodWord)
def wsX4_addTitle : List Cond := .code yX4_addTitle cX4_addTitle 4 (some .int) :: ([.classLink RX4 38 "java/lang/IllegalStateException", .initialized "java/lang/IllegalStateException", .fieldLink RX4 21 "LinkResolver" "titleCount" "I", .fieldLink RX4 11 "LinkResolver" "titles" "[LLinkResolver$Title;", .classLink RX4 9 RX3, .instantiable RX3 2, .initialized RX3, .methodLink RX4 34 yX4_checkRange, .static yX4_checkRange, .initialized RX4, .code yX4_checkRange cX4_checkRange 3 none, .classLink RX4 156 "java/lang/IllegalArgumentException", .initialized "java/lang/IllegalArgumentException", .methodLink RX4 45 yX3_init, .instanceMethod yX3_init, .code yX3_init cX3_init 3 none, .methodLink RX3 1 objectInit, .instanceMethod objectInit, .code objectInit ⟨#[0xb1]⟩ 1 none, .fieldLink RX3 7 "LinkResolver$Title" "firstYear" "I", .fieldLink RX3 13 "LinkResolver$Title" "volumes" "I"] ++ wsX40 ++ wsX30 ++ (vx_atS RX4 42 "java/lang/IllegalStateException" ["java/lang/RuntimeException", "java/lang/Exception"]).filter goodWord ++ (vx_atS RX4 160 "java/lang/IllegalArgumentException" ["java/lang/RuntimeException", "java/lang/Exception"]).filter goodWord)
def wsX4_existingTitle : List Cond := .code yX4_existingTitle cX4_existingTitle 2 (some (.object "LinkResolver$Title")) :: ([.classLink RX4 123 "java/lang/IndexOutOfBoundsException", .initialized "java/lang/IndexOutOfBoundsException", .fieldLink RX4 21 "LinkResolver" "titleCount" "I", .fieldLink RX4 11 "LinkResolver" "titles" "[LLinkResolver$Title;"] ++ wsX40 ++ (vx_atS RX4 127 "java/lang/IndexOutOfBoundsException" ["java/lang/RuntimeException", "java/lang/Exception"]).filter goodWord)
def wsX4_yearOf : List Cond := .code yX4_yearOf cX4_yearOf 5 (some .int) :: ([.fieldLink RX4 56 "LinkResolver$Title" "firstYear" "I", .methodLink RX4 48 yX4_existingTitle, .instanceMethod yX4_existingTitle, .selects RX4 yX4_existingTitle yX4_existingTitle, .initialized RX4, .code yX4_existingTitle cX4_existingTitle 2 (some (.object "LinkResolver$Title")), .classLink RX4 123 "java/lang/IndexOutOfBoundsException", .initialized "java/lang/IndexOutOfBoundsException", .fieldLink RX4 21 "LinkResolver" "titleCount" "I", .fieldLink RX4 11 "LinkResolver" "titles" "[LLinkResolver$Title;", .methodLink RX4 52 yX3_firstVolume, .instanceMethod yX3_firstVolume, .selects RX3 yX3_firstVolume yX3_firstVolume, .initialized RX3, .code yX3_firstVolume cX3_firstVolume 2 (some .int), .fieldLink RX3 7 "LinkResolver$Title" "firstYear" "I", .fieldLink RX3 13 "LinkResolver$Title" "volumes" "I", .methodLink RX4 34 yX4_checkRange, .static yX4_checkRange, .code yX4_checkRange cX4_checkRange 3 none, .classLink RX4 156 "java/lang/IllegalArgumentException", .initialized "java/lang/IllegalArgumentException"] ++ wsX30 ++ wsX40 ++ (vx_atS RX4 127 "java/lang/IndexOutOfBoundsException" ["java/lang/RuntimeException", "java/lang/Exception"]).filter goodWord ++ (vx_atS RX4 160 "java/lang/IllegalArgumentException" ["java/lang/RuntimeException", "java/lang/Exception"]).filter goodWord)
def wsX4_volumeOf : List Cond := .code yX4_volumeOf cX4_volumeOf 4 (some .int) :: ([.fieldLink RX4 56 "LinkResolver$Title" "firstYear" "I", .methodLink RX4 48 yX4_existingTitle, .instanceMethod yX4_existingTitle, .selects RX4 yX4_existingTitle yX4_existingTitle, .initialized RX4, .code yX4_existingTitle cX4_existingTitle 2 (some (.object "LinkResolver$Title")), .classLink RX4 123 "java/lang/IndexOutOfBoundsException", .initialized "java/lang/IndexOutOfBoundsException", .fieldLink RX4 21 "LinkResolver" "titleCount" "I", .fieldLink RX4 11 "LinkResolver" "titles" "[LLinkResolver$Title;", .methodLink RX4 34 yX4_checkRange, .static yX4_checkRange, .code yX4_checkRange cX4_checkRange 3 none, .classLink RX4 156 "java/lang/IllegalArgumentException", .initialized "java/lang/IllegalArgumentException", .methodLink RX4 52 yX3_firstVolume, .instanceMethod yX3_firstVolume, .selects RX3 yX3_firstVolume yX3_firstVolume, .initialized RX3, .code yX3_firstVolume cX3_firstVolume 2 (some .int), .fieldLink RX3 7 "LinkResolver$Title" "firstYear" "I", .fieldLink RX3 13 "LinkResolver$Title" "volumes" "I"] ++ wsX30 ++ wsX40 ++ (vx_atS RX4 127 "java/lang/IndexOutOfBoundsException" ["java/lang/RuntimeException", "java/lang/Exception"]).filter goodWord ++ (vx_atS RX4 160 "java/lang/IllegalArgumentException" ["java/lang/RuntimeException", "java/lang/Exception"]).filter goodWord)
def wsX4_addPackage_r1 : List Cond := [Cond.classLink RX4 38 "java/lang/IllegalStateException", Cond.initialized "java/lang/IllegalStateException", Cond.fieldLink RX4 25 "LinkResolver" "packCount" "I", Cond.fieldLink RX4 17 "LinkResolver" "packs" "[LLinkResolver$Pack;", Cond.classLink RX4 15 RX2, Cond.instantiable RX2 6, Cond.initialized RX2, Cond.methodLink RX4 34 yX4_checkRange, Cond.static yX4_checkRange, Cond.initialized RX4, Cond.code yX4_checkRange cX4_checkRange 3 none, Cond.classLink RX4 156 "java/lang/IllegalArgumentException", Cond.initialized "java/lang/IllegalArgumentException", Cond.methodLink RX4 61 yX2_init, Cond.instanceMethod yX2_init, Cond.code yX2_init cX2_init 6 none, Cond.methodLink RX2 3 objectInit, Cond.instanceMethod objectInit, Cond.code objectInit ⟨#[0xb1]⟩ 1 none, Cond.fieldLink RX2 9 "LinkResolver$Pack" "cost" "I", Cond.fieldLink RX2 15 "LinkResolver$Pack" "version" "I", Cond.fieldLink RX2 18 "LinkResolver$Pack" "groups" "I", Cond.fieldLink RX2 21 "LinkResolver$Pack" "isKeeping" "Z", Cond.classLink RX2 25 RX1]
def wsX4_addPackage_r2 : List Cond := [Cond.instantiable RX1 2, Cond.initialized RX1, Cond.fieldLink RX2 28 "LinkResolver$Pack" "subscription" "LLinkResolver$History;", Cond.fieldLink RX2 32 "LinkResolver$Pack" "stays" "[LLinkResolver$History;", Cond.methodLink RX2 27 yX1_init, Cond.instanceMethod yX1_init, Cond.code yX1_init cX1_init 1 none, Cond.methodLink RX1 3 objectInit, Cond.fieldLink RX1 9 "LinkResolver$History" "newest" "LLinkResolver$Change;", Cond.fieldLink RX1 15 "LinkResolver$History" "breaks" "I"]
def wsX4_addPackage : List Cond := .code yX4_addPackage cX4_addPackage 6 (some .int) :: ((wsX4_addPackage_r1 ++ wsX4_addPackage_r2) ++ wsX40 ++ wsX20 ++ wsX10 ++ (vx_atS RX4 42 "java/lang/IllegalStateException" ["java/lang/RuntimeException", "java/lang/Exception"]).filter goodWord ++ (vx_atS RX4 160 "java/lang/IllegalArgumentException" ["java/lang/RuntimeException", "java/lang/Exception"]).filter goodWord)
def wsX4_existingPack : List Cond := .code yX4_existingPack cX4_existingPack 2 (some (.object "LinkResolver$Pack")) :: ([.classLink RX4 123 "java/lang/IndexOutOfBoundsException", .initialized "java/lang/IndexOutOfBoundsException", .fieldLink RX4 25 "LinkResolver" "packCount" "I", .fieldLink RX4 17 "LinkResolver" "packs" "[LLinkResolver$Pack;"] ++ wsX40 ++ (vx_atS RX4 127 "java/lang/IndexOutOfBoundsException" ["java/lang/RuntimeException", "java/lang/Exception"]).filter goodWord)
def wsX4_change : List Cond := .code yX4_change cX4_change 5 none :: ([.fieldLink RX4 28 "LinkResolver" "changeCount" "I", .fieldLink RX4 31 "LinkResolver" "currentDay" "I", .methodLink RX4 169 yX1_add, .instanceMethod yX1_add, .selects RX1 yX1_add yX1_add, .initialized RX1, .code yX1_add cX1_add 5 none, .classLink RX1 19 RX0, .instantiable RX0 4, .initialized RX0, .fieldLink RX1 9 "LinkResolver$History" "newest" "LLinkResolver$Change;", .methodLink RX1 21 yX0_init, .instanceMethod yX0_init, .code yX0_init cX0_init 6 none, .methodLink RX0 1 objectInit, .instanceMethod objectInit, .code objectInit ⟨#[0xb1]⟩ 1 none, .fieldLink RX0 7 "LinkResolver$Change" "day" "I", .fieldLink RX0 13 "LinkResolver$Change" "years" "J", .fieldLink RX0 17 "LinkResolver$Change" "wall" "I", .fieldLink RX0 20 "LinkResolver$Change" "before" "LLinkResolver$Change;"] ++ wsX40 ++ wsX00 ++ wsX10)
def wsX4_subscribe_r1 : List Cond := [Cond.fieldLink RX4 68 "LinkResolver$Pack" "subscription" "LLinkResolver$History;", Cond.fieldLink RX4 31 "LinkResolver" "currentDay" "I", Cond.constantLong RX4 78 (72057594037927935), Cond.methodLink RX4 64 yX4_existingPack, Cond.instanceMethod yX4_existingPack, Cond.selects RX4 yX4_existingPack yX4_existingPack, Cond.initialized RX4, Cond.code yX4_existingPack cX4_existingPack 2 (some (.object "LinkResolver$Pack")), Cond.classLink RX4 123 "java/lang/IndexOutOfBoundsException", Cond.initialized "java/lang/IndexOutOfBoundsException", Cond.fieldLink RX4 25 "LinkResolver" "packCount" "I", Cond.fieldLink RX4 17 "LinkResolver" "packs" "[LLinkResolver$Pack;", Cond.methodLink RX4 72 yX1_isOnAt, Cond.instanceMethod yX1_isOnAt, Cond.selects RX1 yX1_isOnAt yX1_isOnAt, Cond.initialized RX1, Cond.code yX1_isOnAt cX1_isOnAt 3 (some .boolean), Cond.fieldLink RX1 34 "LinkResolver$Change" "years" "J", Cond.methodLink RX1 30 yX1_changeAt, Cond.instanceMethod yX1_changeAt, Cond.selects RX1 yX1_changeAt yX1_changeAt, Cond.code yX1_changeAt cX1_changeAt 3 (some (.object "LinkResolver$Change")), Cond.fieldLink RX1 9 "LinkResolver$History" "newest" "LLinkResolver$Change;", Cond.fieldLink RX1 24 "LinkResolver$Change" "day" "I"]
def wsX4_subscribe_r2 : List Cond := [Cond.fieldLink RX1 27 "LinkResolver$Change" "before" "LLinkResolver$Change;", Cond.methodLink RX4 80 yX4_change, Cond.instanceMethod yX4_change, Cond.selects RX4 yX4_change yX4_change, Cond.code yX4_change cX4_change 5 none, Cond.fieldLink RX4 28 "LinkResolver" "changeCount" "I", Cond.methodLink RX4 169 yX1_add, Cond.instanceMethod yX1_add, Cond.selects RX1 yX1_add yX1_add, Cond.code yX1_add cX1_add 5 none, Cond.classLink RX1 19 RX0, Cond.instantiable RX0 4, Cond.initialized RX0, Cond.methodLink RX1 21 yX0_init, Cond.instanceMethod yX0_init, Cond.code yX0_init cX0_init 6 none, Cond.methodLink RX0 1 objectInit, Cond.instanceMethod objectInit, Cond.code objectInit ⟨#[0xb1]⟩ 1 none, Cond.fieldLink RX0 7 "LinkResolver$Change" "day" "I", Cond.fieldLink RX0 13 "LinkResolver$Change" "years" "J", Cond.fieldLink RX0 17 "LinkResolver$Change" "wall" "I", Cond.fieldLink RX0 20 "LinkResolver$Change" "before" "LLinkResolver$Change;"]
def wsX4_subscribe : List Cond := .code yX4_subscribe cX4_subscribe 5 (some .boolean) :: ((wsX4_subscribe_r1 ++ wsX4_subscribe_r2) ++ wsX20 ++ wsX40 ++ wsX00 ++ wsX10 ++ (vx_atS RX4 127 "java/lang/IndexOutOfBoundsException" ["java/lang/RuntimeException", "java/lang/Exception"]).filter goodWord)
def wsX4_existingStay : List Cond := .code yX4_existingStay cX4_existingStay 4 (some (.object "LinkResolver$History")) :: ([.methodLink RX4 64 yX4_existingPack, .instanceMethod yX4_existingPack, .selects RX4 yX4_existingPack yX4_existingPack, .initialized RX4, .code yX4_existingPack cX4_existingPack 2 (some (.object "LinkResolver$Pack")), .classLink RX4 123 "java/lang/IndexOutOfBoundsException", .initialized "java/lang/IndexOutOfBoundsException", .fieldLink RX4 25 "LinkResolver" "packCount" "I", .fieldLink RX4 17 "LinkResolver" "packs" "[LLinkResolver$Pack;", .methodLink RX4 48 yX4_existingTitle, .instanceMethod yX4_existingTitle, .selects RX4 yX4_existingTitle yX4_existingTitle, .code yX4_existingTitle cX4_existingTitle 2 (some (.object "LinkResolver$Title")), .fieldLink RX4 21 "LinkResolver" "titleCount" "I", .fieldLink RX4 11 "LinkResolver" "titles" "[LLinkResolver$Title;", .methodLink RX4 165 yX2_stayOf, .instanceMethod yX2_stayOf, .selects RX2 yX2_stayOf yX2_stayOf, .initialized RX2, .code yX2_stayOf cX2_stayOf 2 (some (.object "LinkResolver$History")), .classLink RX2 36 "java/lang/IndexOutOfBoundsException", .fieldLink RX2 32 "LinkResolver$Pack" "stays" "[LLinkResolver$History;"] ++ wsX40 ++ wsX20 ++ (vx_atS RX4 127 "java/lang/IndexOutOfBoundsException" ["java/lang/RuntimeException", "java/lang/Exception"]).filter goodWord ++ (vx_atS RX2 40 "java/lang/IndexOutOfBoundsException" ["java/lang/RuntimeException", "java/lang/Exception"]).filter goodWord)
def wsX4_come_r1 : List Cond := [Cond.fieldLink RX4 31 "LinkResolver" "currentDay" "I", Cond.methodLink RX4 84 yX4_existingStay, Cond.instanceMethod yX4_existingStay, Cond.selects RX4 yX4_existingStay yX4_existingStay, Cond.initialized RX4, Cond.code yX4_existingStay cX4_existingStay 4 (some (.object "LinkResolver$History")), Cond.methodLink RX4 64 yX4_existingPack, Cond.instanceMethod yX4_existingPack, Cond.selects RX4 yX4_existingPack yX4_existingPack, Cond.code yX4_existingPack cX4_existingPack 2 (some (.object "LinkResolver$Pack")), Cond.classLink RX4 123 "java/lang/IndexOutOfBoundsException", Cond.initialized "java/lang/IndexOutOfBoundsException", Cond.fieldLink RX4 25 "LinkResolver" "packCount" "I", Cond.fieldLink RX4 17 "LinkResolver" "packs" "[LLinkResolver$Pack;", Cond.methodLink RX4 48 yX4_existingTitle, Cond.instanceMethod yX4_existingTitle, Cond.selects RX4 yX4_existingTitle yX4_existingTitle, Cond.code yX4_existingTitle cX4_existingTitle 2 (some (.object "LinkResolver$Title")), Cond.fieldLink RX4 21 "LinkResolver" "titleCount" "I", Cond.fieldLink RX4 11 "LinkResolver" "titles" "[LLinkResolver$Title;", Cond.methodLink RX4 165 yX2_stayOf, Cond.instanceMethod yX2_stayOf, Cond.selects RX2 yX2_stayOf yX2_stayOf, Cond.initialized RX2]
def wsX4_come_r2 : List Cond := [Cond.code yX2_stayOf cX2_stayOf 2 (some (.object "LinkResolver$History")), Cond.classLink RX2 36 "java/lang/IndexOutOfBoundsException", Cond.fieldLink RX2 32 "LinkResolver$Pack" "stays" "[LLinkResolver$History;", Cond.methodLink RX4 34 yX4_checkRange, Cond.static yX4_checkRange, Cond.code yX4_checkRange cX4_checkRange 3 none, Cond.classLink RX4 156 "java/lang/IllegalArgumentException", Cond.initialized "java/lang/IllegalArgumentException", Cond.methodLink RX4 72 yX1_isOnAt, Cond.instanceMethod yX1_isOnAt, Cond.selects RX1 yX1_isOnAt yX1_isOnAt, Cond.initialized RX1, Cond.code yX1_isOnAt cX1_isOnAt 3 (some .boolean), Cond.fieldLink RX1 34 "LinkResolver$Change" "years" "J", Cond.methodLink RX1 30 yX1_changeAt, Cond.instanceMethod yX1_changeAt, Cond.selects RX1 yX1_changeAt yX1_changeAt, Cond.code yX1_changeAt cX1_changeAt 3 (some (.object "LinkResolver$Change")), Cond.fieldLink RX1 9 "LinkResolver$History" "newest" "LLinkResolver$Change;", Cond.fieldLink RX1 24 "LinkResolver$Change" "day" "I", Cond.fieldLink RX1 27 "LinkResolver$Change" "before" "LLinkResolver$Change;", Cond.methodLink RX4 88 yX4_yearsBetween, Cond.static yX4_yearsBetween, Cond.code yX4_yearsBetween cX4_yearsBetween 2 (some .long)]
def wsX4_come_r3 : List Cond := [Cond.methodLink RX4 80 yX4_change, Cond.instanceMethod yX4_change, Cond.selects RX4 yX4_change yX4_change, Cond.code yX4_change cX4_change 5 none, Cond.fieldLink RX4 28 "LinkResolver" "changeCount" "I", Cond.methodLink RX4 169 yX1_add, Cond.instanceMethod yX1_add, Cond.selects RX1 yX1_add yX1_add, Cond.code yX1_add cX1_add 5 none, Cond.classLink RX1 19 RX0, Cond.instantiable RX0 4, Cond.initialized RX0, Cond.methodLink RX1 21 yX0_init, Cond.instanceMethod yX0_init, Cond.code yX0_init cX0_init 6 none, Cond.methodLink RX0 1 objectInit, Cond.instanceMethod objectInit, Cond.code objectInit ⟨#[0xb1]⟩ 1 none, Cond.fieldLink RX0 7 "LinkResolver$Change" "day" "I", Cond.fieldLink RX0 13 "LinkResolver$Change" "years" "J", Cond.fieldLink RX0 17 "LinkResolver$Change" "wall" "I", Cond.fieldLink RX0 20 "LinkResolver$Change" "before" "LLinkResolver$Change;"]
def wsX4_come : List Cond := .code yX4_come cX4_come 8 (some .boolean) :: ((wsX4_come_r1 ++ (wsX4_come_r2 ++ wsX4_come_r3)) ++ wsX40 ++ wsX20 ++ wsX00 ++ wsX10 ++ (vx_atS RX4 127 "java/lang/IndexOutOfBoundsException" ["java/lang/RuntimeException", "java/lang/Exception"]).filter goodWord ++ (vx_atS RX2 40 "java/lang/IndexOutOfBoundsException" ["java/lang/RuntimeException", "java/lang/Exception"]).filter goodWord ++ (vx_atS RX4 160 "java/lang/IllegalArgumentException" ["java/lang/RuntimeException", "java/lang/Exception"]).filter goodWord)
def wsX4_go_r1 : List Cond := [Cond.classLink RX4 38 "java/lang/IllegalStateException", Cond.initialized "java/lang/IllegalStateException", Cond.fieldLink RX4 31 "LinkResolver" "currentDay" "I", Cond.methodLink RX4 84 yX4_existingStay, Cond.instanceMethod yX4_existingStay, Cond.selects RX4 yX4_existingStay yX4_existingStay, Cond.initialized RX4, Cond.code yX4_existingStay cX4_existingStay 4 (some (.object "LinkResolver$History")), Cond.methodLink RX4 64 yX4_existingPack, Cond.instanceMethod yX4_existingPack, Cond.selects RX4 yX4_existingPack yX4_existingPack, Cond.code yX4_existingPack cX4_existingPack 2 (some (.object "LinkResolver$Pack")), Cond.classLink RX4 123 "java/lang/IndexOutOfBoundsException", Cond.initialized "java/lang/IndexOutOfBoundsException", Cond.fieldLink RX4 25 "LinkResolver" "packCount" "I", Cond.fieldLink RX4 17 "LinkResolver" "packs" "[LLinkResolver$Pack;", Cond.methodLink RX4 48 yX4_existingTitle, Cond.instanceMethod yX4_existingTitle, Cond.selects RX4 yX4_existingTitle yX4_existingTitle, Cond.code yX4_existingTitle cX4_existingTitle 2 (some (.object "LinkResolver$Title")), Cond.fieldLink RX4 21 "LinkResolver" "titleCount" "I", Cond.fieldLink RX4 11 "LinkResolver" "titles" "[LLinkResolver$Title;", Cond.methodLink RX4 165 yX2_stayOf, Cond.instanceMethod yX2_stayOf]
def wsX4_go_r2 : List Cond := [Cond.selects RX2 yX2_stayOf yX2_stayOf, Cond.initialized RX2, Cond.code yX2_stayOf cX2_stayOf 2 (some (.object "LinkResolver$History")), Cond.classLink RX2 36 "java/lang/IndexOutOfBoundsException", Cond.fieldLink RX2 32 "LinkResolver$Pack" "stays" "[LLinkResolver$History;", Cond.methodLink RX4 72 yX1_isOnAt, Cond.instanceMethod yX1_isOnAt, Cond.selects RX1 yX1_isOnAt yX1_isOnAt, Cond.initialized RX1, Cond.code yX1_isOnAt cX1_isOnAt 3 (some .boolean), Cond.fieldLink RX1 34 "LinkResolver$Change" "years" "J", Cond.methodLink RX1 30 yX1_changeAt, Cond.instanceMethod yX1_changeAt, Cond.selects RX1 yX1_changeAt yX1_changeAt, Cond.code yX1_changeAt cX1_changeAt 3 (some (.object "LinkResolver$Change")), Cond.fieldLink RX1 9 "LinkResolver$History" "newest" "LLinkResolver$Change;", Cond.fieldLink RX1 24 "LinkResolver$Change" "day" "I", Cond.fieldLink RX1 27 "LinkResolver$Change" "before" "LLinkResolver$Change;", Cond.methodLink RX4 80 yX4_change, Cond.instanceMethod yX4_change, Cond.selects RX4 yX4_change yX4_change, Cond.code yX4_change cX4_change 5 none, Cond.fieldLink RX4 28 "LinkResolver" "changeCount" "I", Cond.methodLink RX4 169 yX1_add]
def wsX4_go_r3 : List Cond := [Cond.instanceMethod yX1_add, Cond.selects RX1 yX1_add yX1_add, Cond.code yX1_add cX1_add 5 none, Cond.classLink RX1 19 RX0, Cond.instantiable RX0 4, Cond.initialized RX0, Cond.methodLink RX1 21 yX0_init, Cond.instanceMethod yX0_init, Cond.code yX0_init cX0_init 6 none, Cond.methodLink RX0 1 objectInit, Cond.instanceMethod objectInit, Cond.code objectInit ⟨#[0xb1]⟩ 1 none, Cond.fieldLink RX0 7 "LinkResolver$Change" "day" "I", Cond.fieldLink RX0 13 "LinkResolver$Change" "years" "J", Cond.fieldLink RX0 17 "LinkResolver$Change" "wall" "I", Cond.fieldLink RX0 20 "LinkResolver$Change" "before" "LLinkResolver$Change;"]
def wsX4_go : List Cond := .code yX4_go cX4_go 4 none :: ((wsX4_go_r1 ++ (wsX4_go_r2 ++ wsX4_go_r3)) ++ wsX40 ++ wsX20 ++ wsX00 ++ wsX10 ++ (vx_atS RX4 42 "java/lang/IllegalStateException" ["java/lang/RuntimeException", "java/lang/Exception"]).filter goodWord ++ (vx_atS RX4 127 "java/lang/IndexOutOfBoundsException" ["java/lang/RuntimeException", "java/lang/Exception"]).filter goodWord ++ (vx_atS RX2 40 "java/lang/IndexOutOfBoundsException" ["java/lang/RuntimeException", "java/lang/Exception"]).filter goodWord)
def wsX4_pass : List Cond := .code yX4_pass cX4_pass 2 (some .int) :: ([.classLink RX4 38 "java/lang/IllegalStateException", .initialized "java/lang/IllegalStateException", .fieldLink RX4 31 "LinkResolver" "currentDay" "I", .methodLink RX4 34 yX4_checkRange, .static yX4_checkRange, .initialized RX4, .code yX4_checkRange cX4_checkRange 3 none, .classLink RX4 156 "java/lang/IllegalArgumentException", .initialized "java/lang/IllegalArgumentException"] ++ wsX40 ++ (vx_atS RX4 42 "java/lang/IllegalStateException" ["java/lang/RuntimeException", "java/lang/Exception"]).filter goodWord ++ (vx_atS RX4 160 "java/lang/IllegalArgumentException" ["java/lang/RuntimeException", "java/lang/Exception"]).filter goodWord)
def wsX4_today : List Cond := .code yX4_today cX4_today 1 (some .int) :: ([.fieldLink RX4 31 "LinkResolver" "currentDay" "I"] ++ wsX40)
def wsX4_isSubscribed_r1 : List Cond := [Cond.fieldLink RX4 68 "LinkResolver$Pack" "subscription" "LLinkResolver$History;", Cond.fieldLink RX4 31 "LinkResolver" "currentDay" "I", Cond.methodLink RX4 64 yX4_existingPack, Cond.instanceMethod yX4_existingPack, Cond.selects RX4 yX4_existingPack yX4_existingPack, Cond.initialized RX4, Cond.code yX4_existingPack cX4_existingPack 2 (some (.object "LinkResolver$Pack")), Cond.classLink RX4 123 "java/lang/IndexOutOfBoundsException", Cond.initialized "java/lang/IndexOutOfBoundsException", Cond.fieldLink RX4 25 "LinkResolver" "packCount" "I", Cond.fieldLink RX4 17 "LinkResolver" "packs" "[LLinkResolver$Pack;", Cond.methodLink RX4 34 yX4_checkRange, Cond.static yX4_checkRange, Cond.code yX4_checkRange cX4_checkRange 3 none, Cond.classLink RX4 156 "java/lang/IllegalArgumentException", Cond.initialized "java/lang/IllegalArgumentException", Cond.methodLink RX4 72 yX1_isOnAt, Cond.instanceMethod yX1_isOnAt, Cond.selects RX1 yX1_isOnAt yX1_isOnAt, Cond.initialized RX1, Cond.code yX1_isOnAt cX1_isOnAt 3 (some .boolean), Cond.fieldLink RX1 34 "LinkResolver$Change" "years" "J", Cond.methodLink RX1 30 yX1_changeAt, Cond.instanceMethod yX1_changeAt]
def wsX4_isSubscribed_r2 : List Cond := [Cond.selects RX1 yX1_changeAt yX1_changeAt, Cond.code yX1_changeAt cX1_changeAt 3 (some (.object "LinkResolver$Change")), Cond.fieldLink RX1 9 "LinkResolver$History" "newest" "LLinkResolver$Change;", Cond.fieldLink RX1 24 "LinkResolver$Change" "day" "I", Cond.fieldLink RX1 27 "LinkResolver$Change" "before" "LLinkResolver$Change;"]
def wsX4_isSubscribed : List Cond := .code yX4_isSubscribed cX4_isSubscribed 4 (some .boolean) :: ((wsX4_isSubscribed_r1 ++ wsX4_isSubscribed_r2) ++ wsX20 ++ wsX40 ++ wsX00 ++ wsX10 ++ (vx_atS RX4 127 "java/lang/IndexOutOfBoundsException" ["java/lang/RuntimeException", "java/lang/Exception"]).filter goodWord ++ (vx_atS RX4 160 "java/lang/IllegalArgumentException" ["java/lang/RuntimeException", "java/lang/Exception"]).filter goodWord)
def wsX4_isIn_r1 : List Cond := [Cond.fieldLink RX4 31 "LinkResolver" "currentDay" "I", Cond.methodLink RX4 84 yX4_existingStay, Cond.instanceMethod yX4_existingStay, Cond.selects RX4 yX4_existingStay yX4_existingStay, Cond.initialized RX4, Cond.code yX4_existingStay cX4_existingStay 4 (some (.object "LinkResolver$History")), Cond.methodLink RX4 64 yX4_existingPack, Cond.instanceMethod yX4_existingPack, Cond.selects RX4 yX4_existingPack yX4_existingPack, Cond.code yX4_existingPack cX4_existingPack 2 (some (.object "LinkResolver$Pack")), Cond.classLink RX4 123 "java/lang/IndexOutOfBoundsException", Cond.initialized "java/lang/IndexOutOfBoundsException", Cond.fieldLink RX4 25 "LinkResolver" "packCount" "I", Cond.fieldLink RX4 17 "LinkResolver" "packs" "[LLinkResolver$Pack;", Cond.methodLink RX4 48 yX4_existingTitle, Cond.instanceMethod yX4_existingTitle, Cond.selects RX4 yX4_existingTitle yX4_existingTitle, Cond.code yX4_existingTitle cX4_existingTitle 2 (some (.object "LinkResolver$Title")), Cond.fieldLink RX4 21 "LinkResolver" "titleCount" "I", Cond.fieldLink RX4 11 "LinkResolver" "titles" "[LLinkResolver$Title;", Cond.methodLink RX4 165 yX2_stayOf, Cond.instanceMethod yX2_stayOf, Cond.selects RX2 yX2_stayOf yX2_stayOf, Cond.initialized RX2]
def wsX4_isIn_r2 : List Cond := [Cond.code yX2_stayOf cX2_stayOf 2 (some (.object "LinkResolver$History")), Cond.classLink RX2 36 "java/lang/IndexOutOfBoundsException", Cond.fieldLink RX2 32 "LinkResolver$Pack" "stays" "[LLinkResolver$History;", Cond.methodLink RX4 34 yX4_checkRange, Cond.static yX4_checkRange, Cond.code yX4_checkRange cX4_checkRange 3 none, Cond.classLink RX4 156 "java/lang/IllegalArgumentException", Cond.initialized "java/lang/IllegalArgumentException", Cond.methodLink RX4 72 yX1_isOnAt, Cond.instanceMethod yX1_isOnAt, Cond.selects RX1 yX1_isOnAt yX1_isOnAt, Cond.initialized RX1, Cond.code yX1_isOnAt cX1_isOnAt 3 (some .boolean), Cond.fieldLink RX1 34 "LinkResolver$Change" "years" "J", Cond.methodLink RX1 30 yX1_changeAt, Cond.instanceMethod yX1_changeAt, Cond.selects RX1 yX1_changeAt yX1_changeAt, Cond.code yX1_changeAt cX1_changeAt 3 (some (.object "LinkResolver$Change")), Cond.fieldLink RX1 9 "LinkResolver$History" "newest" "LLinkResolver$Change;", Cond.fieldLink RX1 24 "LinkResolver$Change" "day" "I", Cond.fieldLink RX1 27 "LinkResolver$Change" "before" "LLinkResolver$Change;"]
def wsX4_isIn : List Cond := .code yX4_isIn cX4_isIn 5 (some .boolean) :: ((wsX4_isIn_r1 ++ wsX4_isIn_r2) ++ wsX40 ++ wsX20 ++ wsX00 ++ wsX10 ++ (vx_atS RX4 127 "java/lang/IndexOutOfBoundsException" ["java/lang/RuntimeException", "java/lang/Exception"]).filter goodWord ++ (vx_atS RX2 40 "java/lang/IndexOutOfBoundsException" ["java/lang/RuntimeException", "java/lang/Exception"]).filter goodWord ++ (vx_atS RX4 160 "java/lang/IllegalArgumentException" ["java/lang/RuntimeException", "java/lang/Exception"]).filter goodWord)
def wsX4_report_r1 : List Cond := [Cond.fieldLink RX4 96 "LinkResolver$History" "breaks" "I", Cond.methodLink RX4 84 yX4_existingStay, Cond.instanceMethod yX4_existingStay, Cond.selects RX4 yX4_existingStay yX4_existingStay, Cond.initialized RX4, Cond.code yX4_existingStay cX4_existingStay 4 (some (.object "LinkResolver$History")), Cond.methodLink RX4 64 yX4_existingPack, Cond.instanceMethod yX4_existingPack, Cond.selects RX4 yX4_existingPack yX4_existingPack, Cond.code yX4_existingPack cX4_existingPack 2 (some (.object "LinkResolver$Pack")), Cond.classLink RX4 123 "java/lang/IndexOutOfBoundsException", Cond.initialized "java/lang/IndexOutOfBoundsException", Cond.fieldLink RX4 25 "LinkResolver" "packCount" "I", Cond.fieldLink RX4 17 "LinkResolver" "packs" "[LLinkResolver$Pack;", Cond.methodLink RX4 48 yX4_existingTitle, Cond.instanceMethod yX4_existingTitle, Cond.selects RX4 yX4_existingTitle yX4_existingTitle, Cond.code yX4_existingTitle cX4_existingTitle 2 (some (.object "LinkResolver$Title")), Cond.fieldLink RX4 21 "LinkResolver" "titleCount" "I", Cond.fieldLink RX4 11 "LinkResolver" "titles" "[LLinkResolver$Title;", Cond.methodLink RX4 165 yX2_stayOf, Cond.instanceMethod yX2_stayOf, Cond.selects RX2 yX2_stayOf yX2_stayOf, Cond.initialized RX2]
def wsX4_report_r2 : List Cond := [Cond.code yX2_stayOf cX2_stayOf 2 (some (.object "LinkResolver$History")), Cond.classLink RX2 36 "java/lang/IndexOutOfBoundsException", Cond.fieldLink RX2 32 "LinkResolver$Pack" "stays" "[LLinkResolver$History;"]
def wsX4_report : List Cond := .code yX4_report cX4_report 4 (some .int) :: ((wsX4_report_r1 ++ wsX4_report_r2) ++ wsX10 ++ wsX40 ++ wsX20 ++ (vx_atS RX4 127 "java/lang/IndexOutOfBoundsException" ["java/lang/RuntimeException", "java/lang/Exception"]).filter goodWord ++ (vx_atS RX2 40 "java/lang/IndexOutOfBoundsException" ["java/lang/RuntimeException", "java/lang/Exception"]).filter goodWord)
def wsX4_mend_r1 : List Cond := [Cond.fieldLink RX4 96 "LinkResolver$History" "breaks" "I", Cond.methodLink RX4 84 yX4_existingStay, Cond.instanceMethod yX4_existingStay, Cond.selects RX4 yX4_existingStay yX4_existingStay, Cond.initialized RX4, Cond.code yX4_existingStay cX4_existingStay 4 (some (.object "LinkResolver$History")), Cond.methodLink RX4 64 yX4_existingPack, Cond.instanceMethod yX4_existingPack, Cond.selects RX4 yX4_existingPack yX4_existingPack, Cond.code yX4_existingPack cX4_existingPack 2 (some (.object "LinkResolver$Pack")), Cond.classLink RX4 123 "java/lang/IndexOutOfBoundsException", Cond.initialized "java/lang/IndexOutOfBoundsException", Cond.fieldLink RX4 25 "LinkResolver" "packCount" "I", Cond.fieldLink RX4 17 "LinkResolver" "packs" "[LLinkResolver$Pack;", Cond.methodLink RX4 48 yX4_existingTitle, Cond.instanceMethod yX4_existingTitle, Cond.selects RX4 yX4_existingTitle yX4_existingTitle, Cond.code yX4_existingTitle cX4_existingTitle 2 (some (.object "LinkResolver$Title")), Cond.fieldLink RX4 21 "LinkResolver" "titleCount" "I", Cond.fieldLink RX4 11 "LinkResolver" "titles" "[LLinkResolver$Title;", Cond.methodLink RX4 165 yX2_stayOf, Cond.instanceMethod yX2_stayOf, Cond.selects RX2 yX2_stayOf yX2_stayOf, Cond.initialized RX2]
def wsX4_mend_r2 : List Cond := [Cond.code yX2_stayOf cX2_stayOf 2 (some (.object "LinkResolver$History")), Cond.classLink RX2 36 "java/lang/IndexOutOfBoundsException", Cond.fieldLink RX2 32 "LinkResolver$Pack" "stays" "[LLinkResolver$History;"]
def wsX4_mend : List Cond := .code yX4_mend cX4_mend 5 (some .int) :: ((wsX4_mend_r1 ++ wsX4_mend_r2) ++ wsX10 ++ wsX40 ++ wsX20 ++ (vx_atS RX4 127 "java/lang/IndexOutOfBoundsException" ["java/lang/RuntimeException", "java/lang/Exception"]).filter goodWord ++ (vx_atS RX2 40 "java/lang/IndexOutOfBoundsException" ["java/lang/RuntimeException", "java/lang/Exception"]).filter goodWord)
def wsX4_checkArticle : List Cond := .code yX4_checkArticle cX4_checkArticle 4 none :: ([.fieldLink RX4 31 "LinkResolver" "currentDay" "I", .methodLink RX4 34 yX4_checkRange, .static yX4_checkRange, .initialized RX4, .code yX4_checkRange cX4_checkRange 3 none, .classLink RX4 156 "java/lang/IllegalArgumentException", .initialized "java/lang/IllegalArgumentException"] ++ wsX40 ++ (vx_atS RX4 160 "java/lang/IllegalArgumentException" ["java/lang/RuntimeException", "java/lang/Exception"]).filter goodWord)
def wsX4_hasYear : List Cond := .code yX4_hasYear cX4_hasYear 3 (some .boolean) :: ([])
def wsX4_isWay_r1 : List Cond := [Cond.methodLink RX4 142 yX2_letsIn, Cond.instanceMethod yX2_letsIn, Cond.selects RX2 yX2_letsIn yX2_letsIn, Cond.initialized RX2, Cond.code yX2_letsIn cX2_letsIn 2 (some .boolean), Cond.fieldLink RX2 18 "LinkResolver$Pack" "groups" "I", Cond.methodLink RX4 145 yX2_yearsCovered, Cond.instanceMethod yX2_yearsCovered, Cond.selects RX2 yX2_yearsCovered yX2_yearsCovered, Cond.code yX2_yearsCovered cX2_yearsCovered 3 (some .long), Cond.methodLink RX2 50 yX2_yearsOpen, Cond.instanceMethod yX2_yearsOpen, Cond.selects RX2 yX2_yearsOpen yX2_yearsOpen, Cond.code yX2_yearsOpen cX2_yearsOpen 3 (some .long), Cond.fieldLink RX2 28 "LinkResolver$Pack" "subscription" "LLinkResolver$History;", Cond.methodLink RX2 43 yX2_stayOf, Cond.instanceMethod yX2_stayOf, Cond.selects RX2 yX2_stayOf yX2_stayOf, Cond.code yX2_stayOf cX2_stayOf 2 (some (.object "LinkResolver$History")), Cond.classLink RX2 36 "java/lang/IndexOutOfBoundsException", Cond.initialized "java/lang/IndexOutOfBoundsException", Cond.fieldLink RX2 32 "LinkResolver$Pack" "stays" "[LLinkResolver$History;", Cond.methodLink RX2 57 yX1_yearsOpen, Cond.instanceMethod yX1_yearsOpen]
def wsX4_isWay_r2 : List Cond := [Cond.selects RX1 yX1_yearsOpen yX1_yearsOpen, Cond.initialized RX1, Cond.code yX1_yearsOpen cX1_yearsOpen 3 (some .long), Cond.fieldLink RX1 34 "LinkResolver$Change" "years" "J", Cond.fieldLink RX1 38 "LinkResolver$Change" "wall" "I", Cond.methodLink RX1 30 yX1_changeAt, Cond.instanceMethod yX1_changeAt, Cond.selects RX1 yX1_changeAt yX1_changeAt, Cond.code yX1_changeAt cX1_changeAt 3 (some (.object "LinkResolver$Change")), Cond.fieldLink RX1 9 "LinkResolver$History" "newest" "LLinkResolver$Change;", Cond.fieldLink RX1 24 "LinkResolver$Change" "day" "I", Cond.fieldLink RX1 27 "LinkResolver$Change" "before" "LLinkResolver$Change;", Cond.static yX4_yearsBetween, Cond.initialized RX4, Cond.code yX4_yearsBetween cX4_yearsBetween 2 (some .long), Cond.methodLink RX2 54 yX2_yearsKept, Cond.instanceMethod yX2_yearsKept, Cond.selects RX2 yX2_yearsKept yX2_yearsKept, Cond.code yX2_yearsKept cX2_yearsKept 5 (some .long), Cond.fieldLink RX2 21 "LinkResolver$Pack" "isKeeping" "Z", Cond.methodLink RX2 60 yX1_yearsKept, Cond.instanceMethod yX1_yearsKept, Cond.selects RX1 yX1_yearsKept yX1_yearsKept, Cond.code yX1_yearsKept cX1_yearsKept 10 (some .long)]
def wsX4_isWay_r3 : List Cond := [Cond.methodLink RX1 45 Lib.Math.min.name, Cond.static Lib.Math.min.name, Cond.initialized "java/lang/Math", Cond.code Lib.Math.min.name Lib.Math.min.code 2 (some .int), Cond.methodLink RX4 138 yX4_hasYear, Cond.static yX4_hasYear, Cond.code yX4_hasYear cX4_hasYear 3 (some .boolean)]
def wsX4_isWay : List Cond := .code yX4_isWay cX4_isWay 5 (some .boolean) :: ((wsX4_isWay_r1 ++ (wsX4_isWay_r2 ++ wsX4_isWay_r3)) ++ wsX20 ++ wsX00 ++ wsX10 ++ (vx_atS RX2 40 "java/lang/IndexOutOfBoundsException" ["java/lang/RuntimeException", "java/lang/Exception"]).filter goodWord)
def wsX4_covers_r1 : List Cond := [Cond.methodLink RX4 64 yX4_existingPack, Cond.instanceMethod yX4_existingPack, Cond.selects RX4 yX4_existingPack yX4_existingPack, Cond.initialized RX4, Cond.code yX4_existingPack cX4_existingPack 2 (some (.object "LinkResolver$Pack")), Cond.classLink RX4 123 "java/lang/IndexOutOfBoundsException", Cond.initialized "java/lang/IndexOutOfBoundsException", Cond.fieldLink RX4 25 "LinkResolver" "packCount" "I", Cond.fieldLink RX4 17 "LinkResolver" "packs" "[LLinkResolver$Pack;", Cond.methodLink RX4 48 yX4_existingTitle, Cond.instanceMethod yX4_existingTitle, Cond.selects RX4 yX4_existingTitle yX4_existingTitle, Cond.code yX4_existingTitle cX4_existingTitle 2 (some (.object "LinkResolver$Title")), Cond.fieldLink RX4 21 "LinkResolver" "titleCount" "I", Cond.fieldLink RX4 11 "LinkResolver" "titles" "[LLinkResolver$Title;", Cond.methodLink RX4 99 yX4_checkArticle, Cond.instanceMethod yX4_checkArticle, Cond.selects RX4 yX4_checkArticle yX4_checkArticle, Cond.code yX4_checkArticle cX4_checkArticle 4 none, Cond.fieldLink RX4 31 "LinkResolver" "currentDay" "I", Cond.methodLink RX4 34 yX4_checkRange, Cond.static yX4_checkRange, Cond.code yX4_checkRange cX4_checkRange 3 none, Cond.classLink RX4 156 "java/lang/IllegalArgumentException"]
def wsX4_covers_r2 : List Cond := [Cond.initialized "java/lang/IllegalArgumentException", Cond.methodLink RX4 102 yX4_isWay, Cond.static yX4_isWay, Cond.code yX4_isWay cX4_isWay 5 (some .boolean), Cond.methodLink RX4 142 yX2_letsIn, Cond.instanceMethod yX2_letsIn, Cond.selects RX2 yX2_letsIn yX2_letsIn, Cond.initialized RX2, Cond.code yX2_letsIn cX2_letsIn 2 (some .boolean), Cond.fieldLink RX2 18 "LinkResolver$Pack" "groups" "I", Cond.methodLink RX4 145 yX2_yearsCovered, Cond.instanceMethod yX2_yearsCovered, Cond.selects RX2 yX2_yearsCovered yX2_yearsCovered, Cond.code yX2_yearsCovered cX2_yearsCovered 3 (some .long), Cond.methodLink RX2 50 yX2_yearsOpen, Cond.instanceMethod yX2_yearsOpen, Cond.selects RX2 yX2_yearsOpen yX2_yearsOpen, Cond.code yX2_yearsOpen cX2_yearsOpen 3 (some .long), Cond.fieldLink RX2 28 "LinkResolver$Pack" "subscription" "LLinkResolver$History;", Cond.methodLink RX2 43 yX2_stayOf, Cond.instanceMethod yX2_stayOf, Cond.selects RX2 yX2_stayOf yX2_stayOf, Cond.code yX2_stayOf cX2_stayOf 2 (some (.object "LinkResolver$History")), Cond.classLink RX2 36 "java/lang/IndexOutOfBoundsException"]
def wsX4_covers_r3 : List Cond := [Cond.fieldLink RX2 32 "LinkResolver$Pack" "stays" "[LLinkResolver$History;", Cond.methodLink RX2 57 yX1_yearsOpen, Cond.instanceMethod yX1_yearsOpen, Cond.selects RX1 yX1_yearsOpen yX1_yearsOpen, Cond.initialized RX1, Cond.code yX1_yearsOpen cX1_yearsOpen 3 (some .long), Cond.fieldLink RX1 34 "LinkResolver$Change" "years" "J", Cond.fieldLink RX1 38 "LinkResolver$Change" "wall" "I", Cond.methodLink RX1 30 yX1_changeAt, Cond.instanceMethod yX1_changeAt, Cond.selects RX1 yX1_changeAt yX1_changeAt, Cond.code yX1_changeAt cX1_changeAt 3 (some (.object "LinkResolver$Change")), Cond.fieldLink RX1 9 "LinkResolver$History" "newest" "LLinkResolver$Change;", Cond.fieldLink RX1 24 "LinkResolver$Change" "day" "I", Cond.fieldLink RX1 27 "LinkResolver$Change" "before" "LLinkResolver$Change;", Cond.static yX4_yearsBetween, Cond.code yX4_yearsBetween cX4_yearsBetween 2 (some .long), Cond.methodLink RX2 54 yX2_yearsKept, Cond.instanceMethod yX2_yearsKept, Cond.selects RX2 yX2_yearsKept yX2_yearsKept, Cond.code yX2_yearsKept cX2_yearsKept 5 (some .long), Cond.fieldLink RX2 21 "LinkResolver$Pack" "isKeeping" "Z", Cond.methodLink RX2 60 yX1_yearsKept, Cond.instanceMethod yX1_yearsKept]
def wsX4_covers_r4 : List Cond := [Cond.selects RX1 yX1_yearsKept yX1_yearsKept, Cond.code yX1_yearsKept cX1_yearsKept 10 (some .long), Cond.methodLink RX1 45 Lib.Math.min.name, Cond.static Lib.Math.min.name, Cond.initialized "java/lang/Math", Cond.code Lib.Math.min.name Lib.Math.min.code 2 (some .int), Cond.methodLink RX4 138 yX4_hasYear, Cond.static yX4_hasYear, Cond.code yX4_hasYear cX4_hasYear 3 (some .boolean)]
def wsX4_covers : List Cond := .code yX4_covers cX4_covers 7 (some .boolean) :: ((wsX4_covers_r1 ++ (wsX4_covers_r2 ++ (wsX4_covers_r3 ++ wsX4_covers_r4))) ++ wsX40 ++ wsX20 ++ wsX00 ++ wsX10 ++ (vx_atS RX4 127 "java/lang/IndexOutOfBoundsException" ["java/lang/RuntimeException", "java/lang/Exception"]).filter goodWord ++ (vx_atS RX4 160 "java/lang/IllegalArgumentException" ["java/lang/RuntimeException", "java/lang/Exception"]).filter goodWord ++ (vx_atS RX2 40 "java/lang/IndexOutOfBoundsException" ["java/lang/RuntimeException", "java/lang/Exception"]).filter goodWord)
def wsX4_waysTo_r1 : List Cond := [Cond.fieldLink RX4 25 "LinkResolver" "packCount" "I", Cond.methodLink RX4 64 yX4_existingPack, Cond.instanceMethod yX4_existingPack, Cond.selects RX4 yX4_existingPack yX4_existingPack, Cond.initialized RX4, Cond.code yX4_existingPack cX4_existingPack 2 (some (.object "LinkResolver$Pack")), Cond.classLink RX4 123 "java/lang/IndexOutOfBoundsException", Cond.initialized "java/lang/IndexOutOfBoundsException", Cond.fieldLink RX4 17 "LinkResolver" "packs" "[LLinkResolver$Pack;", Cond.methodLink RX4 102 yX4_isWay, Cond.static yX4_isWay, Cond.code yX4_isWay cX4_isWay 5 (some .boolean), Cond.methodLink RX4 142 yX2_letsIn, Cond.instanceMethod yX2_letsIn, Cond.selects RX2 yX2_letsIn yX2_letsIn, Cond.initialized RX2, Cond.code yX2_letsIn cX2_letsIn 2 (some .boolean), Cond.fieldLink RX2 18 "LinkResolver$Pack" "groups" "I", Cond.methodLink RX4 145 yX2_yearsCovered, Cond.instanceMethod yX2_yearsCovered, Cond.selects RX2 yX2_yearsCovered yX2_yearsCovered, Cond.code yX2_yearsCovered cX2_yearsCovered 3 (some .long), Cond.methodLink RX2 50 yX2_yearsOpen, Cond.instanceMethod yX2_yearsOpen]
def wsX4_waysTo_r2 : List Cond := [Cond.selects RX2 yX2_yearsOpen yX2_yearsOpen, Cond.code yX2_yearsOpen cX2_yearsOpen 3 (some .long), Cond.fieldLink RX2 28 "LinkResolver$Pack" "subscription" "LLinkResolver$History;", Cond.methodLink RX2 43 yX2_stayOf, Cond.instanceMethod yX2_stayOf, Cond.selects RX2 yX2_stayOf yX2_stayOf, Cond.code yX2_stayOf cX2_stayOf 2 (some (.object "LinkResolver$History")), Cond.classLink RX2 36 "java/lang/IndexOutOfBoundsException", Cond.fieldLink RX2 32 "LinkResolver$Pack" "stays" "[LLinkResolver$History;", Cond.methodLink RX2 57 yX1_yearsOpen, Cond.instanceMethod yX1_yearsOpen, Cond.selects RX1 yX1_yearsOpen yX1_yearsOpen, Cond.initialized RX1, Cond.code yX1_yearsOpen cX1_yearsOpen 3 (some .long), Cond.fieldLink RX1 34 "LinkResolver$Change" "years" "J", Cond.fieldLink RX1 38 "LinkResolver$Change" "wall" "I", Cond.methodLink RX1 30 yX1_changeAt, Cond.instanceMethod yX1_changeAt, Cond.selects RX1 yX1_changeAt yX1_changeAt, Cond.code yX1_changeAt cX1_changeAt 3 (some (.object "LinkResolver$Change")), Cond.fieldLink RX1 9 "LinkResolver$History" "newest" "LLinkResolver$Change;", Cond.fieldLink RX1 24 "LinkResolver$Change" "day" "I", Cond.fieldLink RX1 27 "LinkResolver$Change" "before" "LLinkResolver$Change;", Cond.static yX4_yearsBetween]
def wsX4_waysTo_r3 : List Cond := [Cond.code yX4_yearsBetween cX4_yearsBetween 2 (some .long), Cond.methodLink RX2 54 yX2_yearsKept, Cond.instanceMethod yX2_yearsKept, Cond.selects RX2 yX2_yearsKept yX2_yearsKept, Cond.code yX2_yearsKept cX2_yearsKept 5 (some .long), Cond.fieldLink RX2 21 "LinkResolver$Pack" "isKeeping" "Z", Cond.methodLink RX2 60 yX1_yearsKept, Cond.instanceMethod yX1_yearsKept, Cond.selects RX1 yX1_yearsKept yX1_yearsKept, Cond.code yX1_yearsKept cX1_yearsKept 10 (some .long), Cond.methodLink RX1 45 Lib.Math.min.name, Cond.static Lib.Math.min.name, Cond.initialized "java/lang/Math", Cond.code Lib.Math.min.name Lib.Math.min.code 2 (some .int), Cond.methodLink RX4 138 yX4_hasYear, Cond.static yX4_hasYear, Cond.code yX4_hasYear cX4_hasYear 3 (some .boolean)]
def wsX4_waysTo : List Cond := .code yX4_waysTo cX4_waysTo 7 (some .int) :: ((wsX4_waysTo_r1 ++ (wsX4_waysTo_r2 ++ wsX4_waysTo_r3)) ++ wsX40 ++ wsX20 ++ wsX00 ++ wsX10 ++ (vx_atS RX4 127 "java/lang/IndexOutOfBoundsException" ["java/lang/RuntimeException", "java/lang/Exception"]).filter goodWord ++ (vx_atS RX2 40 "java/lang/IndexOutOfBoundsException" ["java/lang/RuntimeException", "java/lang/Exception"]).filter goodWord)
def wsJ6_bitCount_0f7a4 : List Cond := .code yJ6_bitCount_0f7a4 cJ6_bitCount_0f7a4 1 (some .int) :: ([.constant RJ6 265 (1431655765), .constant RJ6 266 (858993459), .constant RJ6 267 (252645135)])
def wsX4_ways_r1 : List Cond := [Cond.methodLink RX4 48 yX4_existingTitle, Cond.instanceMethod yX4_existingTitle, Cond.selects RX4 yX4_existingTitle yX4_existingTitle, Cond.initialized RX4, Cond.code yX4_existingTitle cX4_existingTitle 2 (some (.object "LinkResolver$Title")), Cond.classLink RX4 123 "java/lang/IndexOutOfBoundsException", Cond.initialized "java/lang/IndexOutOfBoundsException", Cond.fieldLink RX4 21 "LinkResolver" "titleCount" "I", Cond.fieldLink RX4 11 "LinkResolver" "titles" "[LLinkResolver$Title;", Cond.methodLink RX4 99 yX4_checkArticle, Cond.instanceMethod yX4_checkArticle, Cond.selects RX4 yX4_checkArticle yX4_checkArticle, Cond.code yX4_checkArticle cX4_checkArticle 4 none, Cond.fieldLink RX4 31 "LinkResolver" "currentDay" "I", Cond.methodLink RX4 34 yX4_checkRange, Cond.static yX4_checkRange, Cond.code yX4_checkRange cX4_checkRange 3 none, Cond.classLink RX4 156 "java/lang/IllegalArgumentException", Cond.initialized "java/lang/IllegalArgumentException", Cond.methodLink RX4 106 yX4_waysTo, Cond.instanceMethod yX4_waysTo, Cond.selects RX4 yX4_waysTo yX4_waysTo, Cond.code yX4_waysTo cX4_waysTo 7 (some .int), Cond.fieldLink RX4 25 "LinkResolver" "packCount" "I"]
def wsX4_ways_r2 : List Cond := [Cond.methodLink RX4 64 yX4_existingPack, Cond.instanceMethod yX4_existingPack, Cond.selects RX4 yX4_existingPack yX4_existingPack, Cond.code yX4_existingPack cX4_existingPack 2 (some (.object "LinkResolver$Pack")), Cond.fieldLink RX4 17 "LinkResolver" "packs" "[LLinkResolver$Pack;", Cond.methodLink RX4 102 yX4_isWay, Cond.static yX4_isWay, Cond.code yX4_isWay cX4_isWay 5 (some .boolean), Cond.methodLink RX4 142 yX2_letsIn, Cond.instanceMethod yX2_letsIn, Cond.selects RX2 yX2_letsIn yX2_letsIn, Cond.initialized RX2, Cond.code yX2_letsIn cX2_letsIn 2 (some .boolean), Cond.fieldLink RX2 18 "LinkResolver$Pack" "groups" "I", Cond.methodLink RX4 145 yX2_yearsCovered, Cond.instanceMethod yX2_yearsCovered, Cond.selects RX2 yX2_yearsCovered yX2_yearsCovered, Cond.code yX2_yearsCovered cX2_yearsCovered 3 (some .long), Cond.methodLink RX2 50 yX2_yearsOpen, Cond.instanceMethod yX2_yearsOpen, Cond.selects RX2 yX2_yearsOpen yX2_yearsOpen, Cond.code yX2_yearsOpen cX2_yearsOpen 3 (some .long), Cond.fieldLink RX2 28 "LinkResolver$Pack" "subscription" "LLinkResolver$History;", Cond.methodLink RX2 43 yX2_stayOf]
def wsX4_ways_r3 : List Cond := [Cond.instanceMethod yX2_stayOf, Cond.selects RX2 yX2_stayOf yX2_stayOf, Cond.code yX2_stayOf cX2_stayOf 2 (some (.object "LinkResolver$History")), Cond.classLink RX2 36 "java/lang/IndexOutOfBoundsException", Cond.fieldLink RX2 32 "LinkResolver$Pack" "stays" "[LLinkResolver$History;", Cond.methodLink RX2 57 yX1_yearsOpen, Cond.instanceMethod yX1_yearsOpen, Cond.selects RX1 yX1_yearsOpen yX1_yearsOpen, Cond.initialized RX1, Cond.code yX1_yearsOpen cX1_yearsOpen 3 (some .long), Cond.fieldLink RX1 34 "LinkResolver$Change" "years" "J", Cond.fieldLink RX1 38 "LinkResolver$Change" "wall" "I", Cond.methodLink RX1 30 yX1_changeAt, Cond.instanceMethod yX1_changeAt, Cond.selects RX1 yX1_changeAt yX1_changeAt, Cond.code yX1_changeAt cX1_changeAt 3 (some (.object "LinkResolver$Change")), Cond.fieldLink RX1 9 "LinkResolver$History" "newest" "LLinkResolver$Change;", Cond.fieldLink RX1 24 "LinkResolver$Change" "day" "I", Cond.fieldLink RX1 27 "LinkResolver$Change" "before" "LLinkResolver$Change;", Cond.static yX4_yearsBetween, Cond.code yX4_yearsBetween cX4_yearsBetween 2 (some .long), Cond.methodLink RX2 54 yX2_yearsKept, Cond.instanceMethod yX2_yearsKept, Cond.selects RX2 yX2_yearsKept yX2_yearsKept]
def wsX4_ways_r4 : List Cond := [Cond.code yX2_yearsKept cX2_yearsKept 5 (some .long), Cond.fieldLink RX2 21 "LinkResolver$Pack" "isKeeping" "Z", Cond.methodLink RX2 60 yX1_yearsKept, Cond.instanceMethod yX1_yearsKept, Cond.selects RX1 yX1_yearsKept yX1_yearsKept, Cond.code yX1_yearsKept cX1_yearsKept 10 (some .long), Cond.methodLink RX1 45 Lib.Math.min.name, Cond.static Lib.Math.min.name, Cond.initialized "java/lang/Math", Cond.code Lib.Math.min.name Lib.Math.min.code 2 (some .int), Cond.methodLink RX4 138 yX4_hasYear, Cond.static yX4_hasYear, Cond.code yX4_hasYear cX4_hasYear 3 (some .boolean), Cond.methodLink RX4 110 yJ6_bitCount_0f7a4, Cond.static yJ6_bitCount_0f7a4, Cond.initialized RJ6, Cond.code yJ6_bitCount_0f7a4 cJ6_bitCount_0f7a4 1 (some .int), Cond.constant RJ6 265 (1431655765), Cond.constant RJ6 266 (858993459), Cond.constant RJ6 267 (252645135)]
def wsX4_ways : List Cond := .code yX4_ways cX4_ways 5 (some .int) :: ((wsX4_ways_r1 ++ (wsX4_ways_r2 ++ (wsX4_ways_r3 ++ wsX4_ways_r4))) ++ wsX40 ++ wsX20 ++ wsX00 ++ wsX10 ++ (vx_atS RX4 127 "java/lang/IndexOutOfBoundsException" ["java/lang/RuntimeException", "java/lang/Exception"]).filter goodWord ++ (vx_atS RX4 160 "java/lang/IllegalArgumentException" ["java/lang/RuntimeException", "java/lang/Exception"]).filter goodWord ++ (vx_atS RX2 40 "java/lang/IndexOutOfBoundsException" ["java/lang/RuntimeException", "java/lang/Exception"]).filter goodWord)
def wsX4_isAmong : List Cond := .code yX4_isAmong cX4_isAmong 2 (some .boolean) :: ([])
def wsX4_isAhead : List Cond := .code yX4_isAhead cX4_isAhead 7 (some .boolean) :: ([.fieldLink RX4 180 "LinkResolver$Pack" "cost" "I", .fieldLink RX4 183 "LinkResolver$Pack" "version" "I", .methodLink RX4 64 yX4_existingPack, .instanceMethod yX4_existingPack, .selects RX4 yX4_existingPack yX4_existingPack, .initialized RX4, .code yX4_existingPack cX4_existingPack 2 (some (.object "LinkResolver$Pack")), .classLink RX4 123 "java/lang/IndexOutOfBoundsException", .initialized "java/lang/IndexOutOfBoundsException", .fieldLink RX4 25 "LinkResolver" "packCount" "I", .fieldLink RX4 17 "LinkResolver" "packs" "[LLinkResolver$Pack;", .methodLink RX4 177 yX2_isBroken, .instanceMethod yX2_isBroken, .selects RX2 yX2_isBroken yX2_isBroken, .initialized RX2, .code yX2_isBroken cX2_isBroken 2 (some .boolean), .fieldLink RX2 47 "LinkResolver$History" "breaks" "I", .methodLink RX2 43 yX2_stayOf, .instanceMethod yX2_stayOf, .selects RX2 yX2_stayOf yX2_stayOf, .code yX2_stayOf cX2_stayOf 2 (some (.object "LinkResolver$History")), .classLink RX2 36 "java/lang/IndexOutOfBoundsException", .fieldLink RX2 32 "LinkResolver$Pack" "stays" "[LLinkResolver$History;"] ++ wsX20 ++ wsX40 ++ wsX10 ++ (vx_atS RX4 127 "java/lang/IndexOutOfBoundsException" ["java/lang/RuntimeException", "java/lang/Exception"]).filter goodWord ++ (vx_atS RX2 40 "java/lang/IndexOutOfBoundsException" ["java/lang/RuntimeException", "java/lang/Exception"]).filter goodWord)
def wsX4_placeAmong_r1 : List Cond := [Cond.fieldLink RX4 25 "LinkResolver" "packCount" "I", Cond.methodLink RX4 115 yX4_isAmong, Cond.static yX4_isAmong, Cond.initialized RX4, Cond.code yX4_isAmong cX4_isAmong 2 (some .boolean), Cond.methodLink RX4 173 yX4_isAhead, Cond.instanceMethod yX4_isAhead, Cond.selects RX4 yX4_isAhead yX4_isAhead, Cond.code yX4_isAhead cX4_isAhead 7 (some .boolean), Cond.fieldLink RX4 180 "LinkResolver$Pack" "cost" "I", Cond.fieldLink RX4 183 "LinkResolver$Pack" "version" "I", Cond.methodLink RX4 64 yX4_existingPack, Cond.instanceMethod yX4_existingPack, Cond.selects RX4 yX4_existingPack yX4_existingPack, Cond.code yX4_existingPack cX4_existingPack 2 (some (.object "LinkResolver$Pack")), Cond.classLink RX4 123 "java/lang/IndexOutOfBoundsException", Cond.initialized "java/lang/IndexOutOfBoundsException", Cond.fieldLink RX4 17 "LinkResolver" "packs" "[LLinkResolver$Pack;", Cond.methodLink RX4 177 yX2_isBroken, Cond.instanceMethod yX2_isBroken, Cond.selects RX2 yX2_isBroken yX2_isBroken, Cond.initialized RX2, Cond.code yX2_isBroken cX2_isBroken 2 (some .boolean), Cond.fieldLink RX2 47 "LinkResolver$History" "breaks" "I"]
def wsX4_placeAmong_r2 : List Cond := [Cond.methodLink RX2 43 yX2_stayOf, Cond.instanceMethod yX2_stayOf, Cond.selects RX2 yX2_stayOf yX2_stayOf, Cond.code yX2_stayOf cX2_stayOf 2 (some (.object "LinkResolver$History")), Cond.classLink RX2 36 "java/lang/IndexOutOfBoundsException", Cond.fieldLink RX2 32 "LinkResolver$Pack" "stays" "[LLinkResolver$History;"]
def wsX4_placeAmong : List Cond := .code yX4_placeAmong cX4_placeAmong 6 (some .int) :: ((wsX4_placeAmong_r1 ++ wsX4_placeAmong_r2) ++ wsX40 ++ wsX20 ++ wsX10 ++ (vx_atS RX4 127 "java/lang/IndexOutOfBoundsException" ["java/lang/RuntimeException", "java/lang/Exception"]).filter goodWord ++ (vx_atS RX2 40 "java/lang/IndexOutOfBoundsException" ["java/lang/RuntimeException", "java/lang/Exception"]).filter goodWord)
def wsX4_wayAt_r1 : List Cond := [Cond.classLink RX4 123 "java/lang/IndexOutOfBoundsException", Cond.initialized "java/lang/IndexOutOfBoundsException", Cond.fieldLink RX4 25 "LinkResolver" "packCount" "I", Cond.methodLink RX4 99 yX4_checkArticle, Cond.instanceMethod yX4_checkArticle, Cond.selects RX4 yX4_checkArticle yX4_checkArticle, Cond.initialized RX4, Cond.code yX4_checkArticle cX4_checkArticle 4 none, Cond.fieldLink RX4 31 "LinkResolver" "currentDay" "I", Cond.methodLink RX4 34 yX4_checkRange, Cond.static yX4_checkRange, Cond.code yX4_checkRange cX4_checkRange 3 none, Cond.classLink RX4 156 "java/lang/IllegalArgumentException", Cond.initialized "java/lang/IllegalArgumentException", Cond.methodLink RX4 48 yX4_existingTitle, Cond.instanceMethod yX4_existingTitle, Cond.selects RX4 yX4_existingTitle yX4_existingTitle, Cond.code yX4_existingTitle cX4_existingTitle 2 (some (.object "LinkResolver$Title")), Cond.fieldLink RX4 21 "LinkResolver" "titleCount" "I", Cond.fieldLink RX4 11 "LinkResolver" "titles" "[LLinkResolver$Title;", Cond.methodLink RX4 106 yX4_waysTo, Cond.instanceMethod yX4_waysTo, Cond.selects RX4 yX4_waysTo yX4_waysTo, Cond.code yX4_waysTo cX4_waysTo 7 (some .int)]
def wsX4_wayAt_r2 : List Cond := [Cond.methodLink RX4 64 yX4_existingPack, Cond.instanceMethod yX4_existingPack, Cond.selects RX4 yX4_existingPack yX4_existingPack, Cond.code yX4_existingPack cX4_existingPack 2 (some (.object "LinkResolver$Pack")), Cond.fieldLink RX4 17 "LinkResolver" "packs" "[LLinkResolver$Pack;", Cond.methodLink RX4 102 yX4_isWay, Cond.static yX4_isWay, Cond.code yX4_isWay cX4_isWay 5 (some .boolean), Cond.methodLink RX4 142 yX2_letsIn, Cond.instanceMethod yX2_letsIn, Cond.selects RX2 yX2_letsIn yX2_letsIn, Cond.initialized RX2, Cond.code yX2_letsIn cX2_letsIn 2 (some .boolean), Cond.fieldLink RX2 18 "LinkResolver$Pack" "groups" "I", Cond.methodLink RX4 145 yX2_yearsCovered, Cond.instanceMethod yX2_yearsCovered, Cond.selects RX2 yX2_yearsCovered yX2_yearsCovered, Cond.code yX2_yearsCovered cX2_yearsCovered 3 (some .long), Cond.methodLink RX2 50 yX2_yearsOpen, Cond.instanceMethod yX2_yearsOpen, Cond.selects RX2 yX2_yearsOpen yX2_yearsOpen, Cond.code yX2_yearsOpen cX2_yearsOpen 3 (some .long), Cond.fieldLink RX2 28 "LinkResolver$Pack" "subscription" "LLinkResolver$History;", Cond.methodLink RX2 43 yX2_stayOf]
def wsX4_wayAt_r3 : List Cond := [Cond.instanceMethod yX2_stayOf, Cond.selects RX2 yX2_stayOf yX2_stayOf, Cond.code yX2_stayOf cX2_stayOf 2 (some (.object "LinkResolver$History")), Cond.classLink RX2 36 "java/lang/IndexOutOfBoundsException", Cond.fieldLink RX2 32 "LinkResolver$Pack" "stays" "[LLinkResolver$History;", Cond.methodLink RX2 57 yX1_yearsOpen, Cond.instanceMethod yX1_yearsOpen, Cond.selects RX1 yX1_yearsOpen yX1_yearsOpen, Cond.initialized RX1, Cond.code yX1_yearsOpen cX1_yearsOpen 3 (some .long), Cond.fieldLink RX1 34 "LinkResolver$Change" "years" "J", Cond.fieldLink RX1 38 "LinkResolver$Change" "wall" "I", Cond.methodLink RX1 30 yX1_changeAt, Cond.instanceMethod yX1_changeAt, Cond.selects RX1 yX1_changeAt yX1_changeAt, Cond.code yX1_changeAt cX1_changeAt 3 (some (.object "LinkResolver$Change")), Cond.fieldLink RX1 9 "LinkResolver$History" "newest" "LLinkResolver$Change;", Cond.fieldLink RX1 24 "LinkResolver$Change" "day" "I", Cond.fieldLink RX1 27 "LinkResolver$Change" "before" "LLinkResolver$Change;", Cond.static yX4_yearsBetween, Cond.code yX4_yearsBetween cX4_yearsBetween 2 (some .long), Cond.methodLink RX2 54 yX2_yearsKept, Cond.instanceMethod yX2_yearsKept, Cond.selects RX2 yX2_yearsKept yX2_yearsKept]
def wsX4_wayAt_r4 : List Cond := [Cond.code yX2_yearsKept cX2_yearsKept 5 (some .long), Cond.fieldLink RX2 21 "LinkResolver$Pack" "isKeeping" "Z", Cond.methodLink RX2 60 yX1_yearsKept, Cond.instanceMethod yX1_yearsKept, Cond.selects RX1 yX1_yearsKept yX1_yearsKept, Cond.code yX1_yearsKept cX1_yearsKept 10 (some .long), Cond.methodLink RX1 45 Lib.Math.min.name, Cond.static Lib.Math.min.name, Cond.initialized "java/lang/Math", Cond.code Lib.Math.min.name Lib.Math.min.code 2 (some .int), Cond.methodLink RX4 138 yX4_hasYear, Cond.static yX4_hasYear, Cond.code yX4_hasYear cX4_hasYear 3 (some .boolean), Cond.methodLink RX4 115 yX4_isAmong, Cond.static yX4_isAmong, Cond.code yX4_isAmong cX4_isAmong 2 (some .boolean), Cond.methodLink RX4 119 yX4_placeAmong, Cond.instanceMethod yX4_placeAmong, Cond.selects RX4 yX4_placeAmong yX4_placeAmong, Cond.code yX4_placeAmong cX4_placeAmong 6 (some .int), Cond.methodLink RX4 173 yX4_isAhead, Cond.instanceMethod yX4_isAhead, Cond.selects RX4 yX4_isAhead yX4_isAhead, Cond.code yX4_isAhead cX4_isAhead 7 (some .boolean)]
def wsX4_wayAt_r5 : List Cond := [Cond.fieldLink RX4 180 "LinkResolver$Pack" "cost" "I", Cond.fieldLink RX4 183 "LinkResolver$Pack" "version" "I", Cond.methodLink RX4 177 yX2_isBroken, Cond.instanceMethod yX2_isBroken, Cond.selects RX2 yX2_isBroken yX2_isBroken, Cond.code yX2_isBroken cX2_isBroken 2 (some .boolean), Cond.fieldLink RX2 47 "LinkResolver$History" "breaks" "I"]
def wsX4_wayAt : List Cond := .code yX4_wayAt cX4_wayAt 8 (some .int) :: ((wsX4_wayAt_r1 ++ (wsX4_wayAt_r2 ++ (wsX4_wayAt_r3 ++ (wsX4_wayAt_r4 ++ wsX4_wayAt_r5)))) ++ wsX40 ++ wsX20 ++ wsX00 ++ wsX10 ++ (vx_atS RX4 127 "java/lang/IndexOutOfBoundsException" ["java/lang/RuntimeException", "java/lang/Exception"]).filter goodWord ++ (vx_atS RX4 160 "java/lang/IllegalArgumentException" ["java/lang/RuntimeException", "java/lang/Exception"]).filter goodWord ++ (vx_atS RX2 40 "java/lang/IndexOutOfBoundsException" ["java/lang/RuntimeException", "java/lang/Exception"]).filter goodWord)
def wsX4_yearsSoFar : List Cond := .code yX4_yearsSoFar cX4_yearsSoFar 2 (some .long) :: ([.fieldLink RX4 56 "LinkResolver$Title" "firstYear" "I", .fieldLink RX4 31 "LinkResolver" "currentDay" "I", .methodLink RX4 88 yX4_yearsBetween, .static yX4_yearsBetween, .initialized RX4, .code yX4_yearsBetween cX4_yearsBetween 2 (some .long)] ++ wsX30 ++ wsX40)
def wsX4_yearsCoveredButBy_r1 : List Cond := [Cond.fieldLink RX4 25 "LinkResolver" "packCount" "I", Cond.fieldLink RX4 31 "LinkResolver" "currentDay" "I", Cond.methodLink RX4 64 yX4_existingPack, Cond.instanceMethod yX4_existingPack, Cond.selects RX4 yX4_existingPack yX4_existingPack, Cond.initialized RX4, Cond.code yX4_existingPack cX4_existingPack 2 (some (.object "LinkResolver$Pack")), Cond.classLink RX4 123 "java/lang/IndexOutOfBoundsException", Cond.initialized "java/lang/IndexOutOfBoundsException", Cond.fieldLink RX4 17 "LinkResolver" "packs" "[LLinkResolver$Pack;", Cond.methodLink RX4 142 yX2_letsIn, Cond.instanceMethod yX2_letsIn, Cond.selects RX2 yX2_letsIn yX2_letsIn, Cond.initialized RX2, Cond.code yX2_letsIn cX2_letsIn 2 (some .boolean), Cond.fieldLink RX2 18 "LinkResolver$Pack" "groups" "I", Cond.methodLink RX4 145 yX2_yearsCovered, Cond.instanceMethod yX2_yearsCovered, Cond.selects RX2 yX2_yearsCovered yX2_yearsCovered, Cond.code yX2_yearsCovered cX2_yearsCovered 3 (some .long), Cond.methodLink RX2 50 yX2_yearsOpen, Cond.instanceMethod yX2_yearsOpen, Cond.selects RX2 yX2_yearsOpen yX2_yearsOpen, Cond.code yX2_yearsOpen cX2_yearsOpen 3 (some .long)]
def wsX4_yearsCoveredButBy_r2 : List Cond := [Cond.fieldLink RX2 28 "LinkResolver$Pack" "subscription" "LLinkResolver$History;", Cond.methodLink RX2 43 yX2_stayOf, Cond.instanceMethod yX2_stayOf, Cond.selects RX2 yX2_stayOf yX2_stayOf, Cond.code yX2_stayOf cX2_stayOf 2 (some (.object "LinkResolver$History")), Cond.classLink RX2 36 "java/lang/IndexOutOfBoundsException", Cond.fieldLink RX2 32 "LinkResolver$Pack" "stays" "[LLinkResolver$History;", Cond.methodLink RX2 57 yX1_yearsOpen, Cond.instanceMethod yX1_yearsOpen, Cond.selects RX1 yX1_yearsOpen yX1_yearsOpen, Cond.initialized RX1, Cond.code yX1_yearsOpen cX1_yearsOpen 3 (some .long), Cond.fieldLink RX1 34 "LinkResolver$Change" "years" "J", Cond.fieldLink RX1 38 "LinkResolver$Change" "wall" "I", Cond.methodLink RX1 30 yX1_changeAt, Cond.instanceMethod yX1_changeAt, Cond.selects RX1 yX1_changeAt yX1_changeAt, Cond.code yX1_changeAt cX1_changeAt 3 (some (.object "LinkResolver$Change")), Cond.fieldLink RX1 9 "LinkResolver$History" "newest" "LLinkResolver$Change;", Cond.fieldLink RX1 24 "LinkResolver$Change" "day" "I", Cond.fieldLink RX1 27 "LinkResolver$Change" "before" "LLinkResolver$Change;", Cond.static yX4_yearsBetween, Cond.code yX4_yearsBetween cX4_yearsBetween 2 (some .long), Cond.methodLink RX2 54 yX2_yearsKept]
def wsX4_yearsCoveredButBy_r3 : List Cond := [Cond.instanceMethod yX2_yearsKept, Cond.selects RX2 yX2_yearsKept yX2_yearsKept, Cond.code yX2_yearsKept cX2_yearsKept 5 (some .long), Cond.fieldLink RX2 21 "LinkResolver$Pack" "isKeeping" "Z", Cond.methodLink RX2 60 yX1_yearsKept, Cond.instanceMethod yX1_yearsKept, Cond.selects RX1 yX1_yearsKept yX1_yearsKept, Cond.code yX1_yearsKept cX1_yearsKept 10 (some .long), Cond.methodLink RX1 45 Lib.Math.min.name, Cond.static Lib.Math.min.name, Cond.initialized "java/lang/Math", Cond.code Lib.Math.min.name Lib.Math.min.code 2 (some .int)]
def wsX4_yearsCoveredButBy : List Cond := .code yX4_yearsCoveredButBy cX4_yearsCoveredButBy 8 (some .long) :: ((wsX4_yearsCoveredButBy_r1 ++ (wsX4_yearsCoveredButBy_r2 ++ wsX4_yearsCoveredButBy_r3)) ++ wsX40 ++ wsX20 ++ wsX00 ++ wsX10 ++ (vx_atS RX4 127 "java/lang/IndexOutOfBoundsException" ["java/lang/RuntimeException", "java/lang/Exception"]).filter goodWord ++ (vx_atS RX2 40 "java/lang/IndexOutOfBoundsException" ["java/lang/RuntimeException", "java/lang/Exception"]).filter goodWord)
def wsX4_gap_r1 : List Cond := [Cond.constantLong RX4 136 (-1), Cond.fieldLink RX4 56 "LinkResolver$Title" "firstYear" "I", Cond.methodLink RX4 48 yX4_existingTitle, Cond.instanceMethod yX4_existingTitle, Cond.selects RX4 yX4_existingTitle yX4_existingTitle, Cond.initialized RX4, Cond.code yX4_existingTitle cX4_existingTitle 2 (some (.object "LinkResolver$Title")), Cond.classLink RX4 123 "java/lang/IndexOutOfBoundsException", Cond.initialized "java/lang/IndexOutOfBoundsException", Cond.fieldLink RX4 21 "LinkResolver" "titleCount" "I", Cond.fieldLink RX4 11 "LinkResolver" "titles" "[LLinkResolver$Title;", Cond.methodLink RX4 34 yX4_checkRange, Cond.static yX4_checkRange, Cond.code yX4_checkRange cX4_checkRange 3 none, Cond.classLink RX4 156 "java/lang/IllegalArgumentException", Cond.initialized "java/lang/IllegalArgumentException", Cond.methodLink RX4 128 yX4_yearsSoFar, Cond.instanceMethod yX4_yearsSoFar, Cond.selects RX4 yX4_yearsSoFar yX4_yearsSoFar, Cond.code yX4_yearsSoFar cX4_yearsSoFar 2 (some .long), Cond.fieldLink RX4 31 "LinkResolver" "currentDay" "I", Cond.methodLink RX4 88 yX4_yearsBetween, Cond.static yX4_yearsBetween, Cond.code yX4_yearsBetween cX4_yearsBetween 2 (some .long)]
def wsX4_gap_r2 : List Cond := [Cond.methodLink RX4 132 yX4_yearsCoveredButBy, Cond.instanceMethod yX4_yearsCoveredButBy, Cond.selects RX4 yX4_yearsCoveredButBy yX4_yearsCoveredButBy, Cond.code yX4_yearsCoveredButBy cX4_yearsCoveredButBy 8 (some .long), Cond.fieldLink RX4 25 "LinkResolver" "packCount" "I", Cond.methodLink RX4 64 yX4_existingPack, Cond.instanceMethod yX4_existingPack, Cond.selects RX4 yX4_existingPack yX4_existingPack, Cond.code yX4_existingPack cX4_existingPack 2 (some (.object "LinkResolver$Pack")), Cond.fieldLink RX4 17 "LinkResolver" "packs" "[LLinkResolver$Pack;", Cond.methodLink RX4 142 yX2_letsIn, Cond.instanceMethod yX2_letsIn, Cond.selects RX2 yX2_letsIn yX2_letsIn, Cond.initialized RX2, Cond.code yX2_letsIn cX2_letsIn 2 (some .boolean), Cond.fieldLink RX2 18 "LinkResolver$Pack" "groups" "I", Cond.methodLink RX4 145 yX2_yearsCovered, Cond.instanceMethod yX2_yearsCovered, Cond.selects RX2 yX2_yearsCovered yX2_yearsCovered, Cond.code yX2_yearsCovered cX2_yearsCovered 3 (some .long), Cond.methodLink RX2 50 yX2_yearsOpen, Cond.instanceMethod yX2_yearsOpen, Cond.selects RX2 yX2_yearsOpen yX2_yearsOpen, Cond.code yX2_yearsOpen cX2_yearsOpen 3 (some .long)]
def wsX4_gap_r3 : List Cond := [Cond.fieldLink RX2 28 "LinkResolver$Pack" "subscription" "LLinkResolver$History;", Cond.methodLink RX2 43 yX2_stayOf, Cond.instanceMethod yX2_stayOf, Cond.selects RX2 yX2_stayOf yX2_stayOf, Cond.code yX2_stayOf cX2_stayOf 2 (some (.object "LinkResolver$History")), Cond.classLink RX2 36 "java/lang/IndexOutOfBoundsException", Cond.fieldLink RX2 32 "LinkResolver$Pack" "stays" "[LLinkResolver$History;", Cond.methodLink RX2 57 yX1_yearsOpen, Cond.instanceMethod yX1_yearsOpen, Cond.selects RX1 yX1_yearsOpen yX1_yearsOpen, Cond.initialized RX1, Cond.code yX1_yearsOpen cX1_yearsOpen 3 (some .long), Cond.fieldLink RX1 34 "LinkResolver$Change" "years" "J", Cond.fieldLink RX1 38 "LinkResolver$Change" "wall" "I", Cond.methodLink RX1 30 yX1_changeAt, Cond.instanceMethod yX1_changeAt, Cond.selects RX1 yX1_changeAt yX1_changeAt, Cond.code yX1_changeAt cX1_changeAt 3 (some (.object "LinkResolver$Change")), Cond.fieldLink RX1 9 "LinkResolver$History" "newest" "LLinkResolver$Change;", Cond.fieldLink RX1 24 "LinkResolver$Change" "day" "I", Cond.fieldLink RX1 27 "LinkResolver$Change" "before" "LLinkResolver$Change;", Cond.methodLink RX2 54 yX2_yearsKept, Cond.instanceMethod yX2_yearsKept, Cond.selects RX2 yX2_yearsKept yX2_yearsKept]
def wsX4_gap_r4 : List Cond := [Cond.code yX2_yearsKept cX2_yearsKept 5 (some .long), Cond.fieldLink RX2 21 "LinkResolver$Pack" "isKeeping" "Z", Cond.methodLink RX2 60 yX1_yearsKept, Cond.instanceMethod yX1_yearsKept, Cond.selects RX1 yX1_yearsKept yX1_yearsKept, Cond.code yX1_yearsKept cX1_yearsKept 10 (some .long), Cond.methodLink RX1 45 Lib.Math.min.name, Cond.static Lib.Math.min.name, Cond.initialized "java/lang/Math", Cond.code Lib.Math.min.name Lib.Math.min.code 2 (some .int), Cond.methodLink RX4 138 yX4_hasYear, Cond.static yX4_hasYear, Cond.code yX4_hasYear cX4_hasYear 3 (some .boolean)]
def wsX4_gap : List Cond := .code yX4_gap cX4_gap 7 (some .int) :: ((wsX4_gap_r1 ++ (wsX4_gap_r2 ++ (wsX4_gap_r3 ++ wsX4_gap_r4))) ++ wsX30 ++ wsX40 ++ wsX20 ++ wsX00 ++ wsX10 ++ (vx_atS RX4 127 "java/lang/IndexOutOfBoundsException" ["java/lang/RuntimeException", "java/lang/Exception"]).filter goodWord ++ (vx_atS RX4 160 "java/lang/IllegalArgumentException" ["java/lang/RuntimeException", "java/lang/Exception"]).filter goodWord ++ (vx_atS RX2 40 "java/lang/IndexOutOfBoundsException" ["java/lang/RuntimeException", "java/lang/Exception"]).filter goodWord)
def wsJ13_bitCount_95d88 : List Cond := .code yJ13_bitCount_95d88 cJ13_bitCount_95d88 2 (some .int) :: ([.constantLong RJ13 314 (6148914691236517205), .constantLong RJ13 316 (3689348814741910323), .constantLong RJ13 318 (1085102592571150095)])
def wsX4_doubles_r1 : List Cond := [Cond.fieldLink RX4 25 "LinkResolver" "packCount" "I", Cond.fieldLink RX4 31 "LinkResolver" "currentDay" "I", Cond.methodLink RX4 48 yX4_existingTitle, Cond.instanceMethod yX4_existingTitle, Cond.selects RX4 yX4_existingTitle yX4_existingTitle, Cond.initialized RX4, Cond.code yX4_existingTitle cX4_existingTitle 2 (some (.object "LinkResolver$Title")), Cond.classLink RX4 123 "java/lang/IndexOutOfBoundsException", Cond.initialized "java/lang/IndexOutOfBoundsException", Cond.fieldLink RX4 21 "LinkResolver" "titleCount" "I", Cond.fieldLink RX4 11 "LinkResolver" "titles" "[LLinkResolver$Title;", Cond.methodLink RX4 34 yX4_checkRange, Cond.static yX4_checkRange, Cond.code yX4_checkRange cX4_checkRange 3 none, Cond.classLink RX4 156 "java/lang/IllegalArgumentException", Cond.initialized "java/lang/IllegalArgumentException", Cond.methodLink RX4 64 yX4_existingPack, Cond.instanceMethod yX4_existingPack, Cond.selects RX4 yX4_existingPack yX4_existingPack, Cond.code yX4_existingPack cX4_existingPack 2 (some (.object "LinkResolver$Pack")), Cond.fieldLink RX4 17 "LinkResolver" "packs" "[LLinkResolver$Pack;", Cond.methodLink RX4 142 yX2_letsIn, Cond.instanceMethod yX2_letsIn, Cond.selects RX2 yX2_letsIn yX2_letsIn]
def wsX4_doubles_r2 : List Cond := [Cond.initialized RX2, Cond.code yX2_letsIn cX2_letsIn 2 (some .boolean), Cond.fieldLink RX2 18 "LinkResolver$Pack" "groups" "I", Cond.methodLink RX4 145 yX2_yearsCovered, Cond.instanceMethod yX2_yearsCovered, Cond.selects RX2 yX2_yearsCovered yX2_yearsCovered, Cond.code yX2_yearsCovered cX2_yearsCovered 3 (some .long), Cond.methodLink RX2 50 yX2_yearsOpen, Cond.instanceMethod yX2_yearsOpen, Cond.selects RX2 yX2_yearsOpen yX2_yearsOpen, Cond.code yX2_yearsOpen cX2_yearsOpen 3 (some .long), Cond.fieldLink RX2 28 "LinkResolver$Pack" "subscription" "LLinkResolver$History;", Cond.methodLink RX2 43 yX2_stayOf, Cond.instanceMethod yX2_stayOf, Cond.selects RX2 yX2_stayOf yX2_stayOf, Cond.code yX2_stayOf cX2_stayOf 2 (some (.object "LinkResolver$History")), Cond.classLink RX2 36 "java/lang/IndexOutOfBoundsException", Cond.fieldLink RX2 32 "LinkResolver$Pack" "stays" "[LLinkResolver$History;", Cond.methodLink RX2 57 yX1_yearsOpen, Cond.instanceMethod yX1_yearsOpen, Cond.selects RX1 yX1_yearsOpen yX1_yearsOpen, Cond.initialized RX1, Cond.code yX1_yearsOpen cX1_yearsOpen 3 (some .long), Cond.fieldLink RX1 34 "LinkResolver$Change" "years" "J"]
def wsX4_doubles_r3 : List Cond := [Cond.fieldLink RX1 38 "LinkResolver$Change" "wall" "I", Cond.methodLink RX1 30 yX1_changeAt, Cond.instanceMethod yX1_changeAt, Cond.selects RX1 yX1_changeAt yX1_changeAt, Cond.code yX1_changeAt cX1_changeAt 3 (some (.object "LinkResolver$Change")), Cond.fieldLink RX1 9 "LinkResolver$History" "newest" "LLinkResolver$Change;", Cond.fieldLink RX1 24 "LinkResolver$Change" "day" "I", Cond.fieldLink RX1 27 "LinkResolver$Change" "before" "LLinkResolver$Change;", Cond.static yX4_yearsBetween, Cond.code yX4_yearsBetween cX4_yearsBetween 2 (some .long), Cond.methodLink RX2 54 yX2_yearsKept, Cond.instanceMethod yX2_yearsKept, Cond.selects RX2 yX2_yearsKept yX2_yearsKept, Cond.code yX2_yearsKept cX2_yearsKept 5 (some .long), Cond.fieldLink RX2 21 "LinkResolver$Pack" "isKeeping" "Z", Cond.methodLink RX2 60 yX1_yearsKept, Cond.instanceMethod yX1_yearsKept, Cond.selects RX1 yX1_yearsKept yX1_yearsKept, Cond.code yX1_yearsKept cX1_yearsKept 10 (some .long), Cond.methodLink RX1 45 Lib.Math.min.name, Cond.static Lib.Math.min.name, Cond.initialized "java/lang/Math", Cond.code Lib.Math.min.name Lib.Math.min.code 2 (some .int), Cond.methodLink RX4 128 yX4_yearsSoFar]
def wsX4_doubles_r4 : List Cond := [Cond.instanceMethod yX4_yearsSoFar, Cond.selects RX4 yX4_yearsSoFar yX4_yearsSoFar, Cond.code yX4_yearsSoFar cX4_yearsSoFar 2 (some .long), Cond.fieldLink RX4 56 "LinkResolver$Title" "firstYear" "I", Cond.methodLink RX4 88 yX4_yearsBetween, Cond.methodLink RX4 148 yJ13_bitCount_95d88, Cond.static yJ13_bitCount_95d88, Cond.initialized RJ13, Cond.code yJ13_bitCount_95d88 cJ13_bitCount_95d88 2 (some .int), Cond.constantLong RJ13 314 (6148914691236517205), Cond.constantLong RJ13 316 (3689348814741910323), Cond.constantLong RJ13 318 (1085102592571150095)]
def wsX4_doubles : List Cond := .code yX4_doubles cX4_doubles 12 (some .int) :: ((wsX4_doubles_r1 ++ (wsX4_doubles_r2 ++ (wsX4_doubles_r3 ++ wsX4_doubles_r4))) ++ wsX40 ++ wsX20 ++ wsX00 ++ wsX10 ++ wsX30 ++ (vx_atS RX4 127 "java/lang/IndexOutOfBoundsException" ["java/lang/RuntimeException", "java/lang/Exception"]).filter goodWord ++ (vx_atS RX4 160 "java/lang/IllegalArgumentException" ["java/lang/RuntimeException", "java/lang/Exception"]).filter goodWord ++ (vx_atS RX2 40 "java/lang/IndexOutOfBoundsException" ["java/lang/RuntimeException", "java/lang/Exception"]).filter goodWord)
def wsX4_isLostWithout_r1 : List Cond := [Cond.fieldLink RX4 31 "LinkResolver" "currentDay" "I", Cond.constantLong RX4 136 (-1), Cond.methodLink RX4 64 yX4_existingPack, Cond.instanceMethod yX4_existingPack, Cond.selects RX4 yX4_existingPack yX4_existingPack, Cond.initialized RX4, Cond.code yX4_existingPack cX4_existingPack 2 (some (.object "LinkResolver$Pack")), Cond.classLink RX4 123 "java/lang/IndexOutOfBoundsException", Cond.initialized "java/lang/IndexOutOfBoundsException", Cond.fieldLink RX4 25 "LinkResolver" "packCount" "I", Cond.fieldLink RX4 17 "LinkResolver" "packs" "[LLinkResolver$Pack;", Cond.methodLink RX4 186 yX2_yearsOpen, Cond.instanceMethod yX2_yearsOpen, Cond.selects RX2 yX2_yearsOpen yX2_yearsOpen, Cond.initialized RX2, Cond.code yX2_yearsOpen cX2_yearsOpen 3 (some .long), Cond.fieldLink RX2 28 "LinkResolver$Pack" "subscription" "LLinkResolver$History;", Cond.methodLink RX2 43 yX2_stayOf, Cond.instanceMethod yX2_stayOf, Cond.selects RX2 yX2_stayOf yX2_stayOf, Cond.code yX2_stayOf cX2_stayOf 2 (some (.object "LinkResolver$History")), Cond.classLink RX2 36 "java/lang/IndexOutOfBoundsException", Cond.fieldLink RX2 32 "LinkResolver$Pack" "stays" "[LLinkResolver$History;", Cond.methodLink RX2 57 yX1_yearsOpen]
def wsX4_isLostWithout_r2 : List Cond := [Cond.instanceMethod yX1_yearsOpen, Cond.selects RX1 yX1_yearsOpen yX1_yearsOpen, Cond.initialized RX1, Cond.code yX1_yearsOpen cX1_yearsOpen 3 (some .long), Cond.fieldLink RX1 34 "LinkResolver$Change" "years" "J", Cond.fieldLink RX1 38 "LinkResolver$Change" "wall" "I", Cond.methodLink RX1 30 yX1_changeAt, Cond.instanceMethod yX1_changeAt, Cond.selects RX1 yX1_changeAt yX1_changeAt, Cond.code yX1_changeAt cX1_changeAt 3 (some (.object "LinkResolver$Change")), Cond.fieldLink RX1 9 "LinkResolver$History" "newest" "LLinkResolver$Change;", Cond.fieldLink RX1 24 "LinkResolver$Change" "day" "I", Cond.fieldLink RX1 27 "LinkResolver$Change" "before" "LLinkResolver$Change;", Cond.static yX4_yearsBetween, Cond.code yX4_yearsBetween cX4_yearsBetween 2 (some .long), Cond.methodLink RX4 189 yX2_yearsKept, Cond.instanceMethod yX2_yearsKept, Cond.selects RX2 yX2_yearsKept yX2_yearsKept, Cond.code yX2_yearsKept cX2_yearsKept 5 (some .long), Cond.fieldLink RX2 21 "LinkResolver$Pack" "isKeeping" "Z", Cond.methodLink RX2 60 yX1_yearsKept, Cond.instanceMethod yX1_yearsKept, Cond.selects RX1 yX1_yearsKept yX1_yearsKept, Cond.code yX1_yearsKept cX1_yearsKept 10 (some .long)]
def wsX4_isLostWithout_r3 : List Cond := [Cond.methodLink RX1 45 Lib.Math.min.name, Cond.static Lib.Math.min.name, Cond.initialized "java/lang/Math", Cond.code Lib.Math.min.name Lib.Math.min.code 2 (some .int), Cond.methodLink RX4 48 yX4_existingTitle, Cond.instanceMethod yX4_existingTitle, Cond.selects RX4 yX4_existingTitle yX4_existingTitle, Cond.code yX4_existingTitle cX4_existingTitle 2 (some (.object "LinkResolver$Title")), Cond.fieldLink RX4 21 "LinkResolver" "titleCount" "I", Cond.fieldLink RX4 11 "LinkResolver" "titles" "[LLinkResolver$Title;", Cond.methodLink RX4 128 yX4_yearsSoFar, Cond.instanceMethod yX4_yearsSoFar, Cond.selects RX4 yX4_yearsSoFar yX4_yearsSoFar, Cond.code yX4_yearsSoFar cX4_yearsSoFar 2 (some .long), Cond.fieldLink RX4 56 "LinkResolver$Title" "firstYear" "I", Cond.methodLink RX4 88 yX4_yearsBetween, Cond.methodLink RX4 142 yX2_letsIn, Cond.instanceMethod yX2_letsIn, Cond.selects RX2 yX2_letsIn yX2_letsIn, Cond.code yX2_letsIn cX2_letsIn 2 (some .boolean), Cond.fieldLink RX2 18 "LinkResolver$Pack" "groups" "I", Cond.methodLink RX4 132 yX4_yearsCoveredButBy, Cond.instanceMethod yX4_yearsCoveredButBy, Cond.selects RX4 yX4_yearsCoveredButBy yX4_yearsCoveredButBy]
def wsX4_isLostWithout_r4 : List Cond := [Cond.code yX4_yearsCoveredButBy cX4_yearsCoveredButBy 8 (some .long), Cond.methodLink RX4 145 yX2_yearsCovered, Cond.instanceMethod yX2_yearsCovered, Cond.selects RX2 yX2_yearsCovered yX2_yearsCovered, Cond.code yX2_yearsCovered cX2_yearsCovered 3 (some .long), Cond.methodLink RX2 50 yX2_yearsOpen, Cond.methodLink RX2 54 yX2_yearsKept]
def wsX4_isLostWithout : List Cond := .code yX4_isLostWithout cX4_isLostWithout 7 (some .boolean) :: ((wsX4_isLostWithout_r1 ++ (wsX4_isLostWithout_r2 ++ (wsX4_isLostWithout_r3 ++ wsX4_isLostWithout_r4))) ++ wsX40 ++ wsX20 ++ wsX00 ++ wsX10 ++ wsX30 ++ (vx_atS RX4 127 "java/lang/IndexOutOfBoundsException" ["java/lang/RuntimeException", "java/lang/Exception"]).filter goodWord ++ (vx_atS RX2 40 "java/lang/IndexOutOfBoundsException" ["java/lang/RuntimeException", "java/lang/Exception"]).filter goodWord)
def wsX4_isNeedless_r1 : List Cond := [Cond.fieldLink RX4 21 "LinkResolver" "titleCount" "I", Cond.methodLink RX4 64 yX4_existingPack, Cond.instanceMethod yX4_existingPack, Cond.selects RX4 yX4_existingPack yX4_existingPack, Cond.initialized RX4, Cond.code yX4_existingPack cX4_existingPack 2 (some (.object "LinkResolver$Pack")), Cond.classLink RX4 123 "java/lang/IndexOutOfBoundsException", Cond.initialized "java/lang/IndexOutOfBoundsException", Cond.fieldLink RX4 25 "LinkResolver" "packCount" "I", Cond.fieldLink RX4 17 "LinkResolver" "packs" "[LLinkResolver$Pack;", Cond.methodLink RX4 153 yX4_isLostWithout, Cond.instanceMethod yX4_isLostWithout, Cond.selects RX4 yX4_isLostWithout yX4_isLostWithout, Cond.code yX4_isLostWithout cX4_isLostWithout 7 (some .boolean), Cond.fieldLink RX4 31 "LinkResolver" "currentDay" "I", Cond.constantLong RX4 136 (-1), Cond.methodLink RX4 186 yX2_yearsOpen, Cond.instanceMethod yX2_yearsOpen, Cond.selects RX2 yX2_yearsOpen yX2_yearsOpen, Cond.initialized RX2, Cond.code yX2_yearsOpen cX2_yearsOpen 3 (some .long), Cond.fieldLink RX2 28 "LinkResolver$Pack" "subscription" "LLinkResolver$History;", Cond.methodLink RX2 43 yX2_stayOf, Cond.instanceMethod yX2_stayOf]
def wsX4_isNeedless_r2 : List Cond := [Cond.selects RX2 yX2_stayOf yX2_stayOf, Cond.code yX2_stayOf cX2_stayOf 2 (some (.object "LinkResolver$History")), Cond.classLink RX2 36 "java/lang/IndexOutOfBoundsException", Cond.fieldLink RX2 32 "LinkResolver$Pack" "stays" "[LLinkResolver$History;", Cond.methodLink RX2 57 yX1_yearsOpen, Cond.instanceMethod yX1_yearsOpen, Cond.selects RX1 yX1_yearsOpen yX1_yearsOpen, Cond.initialized RX1, Cond.code yX1_yearsOpen cX1_yearsOpen 3 (some .long), Cond.fieldLink RX1 34 "LinkResolver$Change" "years" "J", Cond.fieldLink RX1 38 "LinkResolver$Change" "wall" "I", Cond.methodLink RX1 30 yX1_changeAt, Cond.instanceMethod yX1_changeAt, Cond.selects RX1 yX1_changeAt yX1_changeAt, Cond.code yX1_changeAt cX1_changeAt 3 (some (.object "LinkResolver$Change")), Cond.fieldLink RX1 9 "LinkResolver$History" "newest" "LLinkResolver$Change;", Cond.fieldLink RX1 24 "LinkResolver$Change" "day" "I", Cond.fieldLink RX1 27 "LinkResolver$Change" "before" "LLinkResolver$Change;", Cond.static yX4_yearsBetween, Cond.code yX4_yearsBetween cX4_yearsBetween 2 (some .long), Cond.methodLink RX4 189 yX2_yearsKept, Cond.instanceMethod yX2_yearsKept, Cond.selects RX2 yX2_yearsKept yX2_yearsKept, Cond.code yX2_yearsKept cX2_yearsKept 5 (some .long)]
def wsX4_isNeedless_r3 : List Cond := [Cond.fieldLink RX2 21 "LinkResolver$Pack" "isKeeping" "Z", Cond.methodLink RX2 60 yX1_yearsKept, Cond.instanceMethod yX1_yearsKept, Cond.selects RX1 yX1_yearsKept yX1_yearsKept, Cond.code yX1_yearsKept cX1_yearsKept 10 (some .long), Cond.methodLink RX1 45 Lib.Math.min.name, Cond.static Lib.Math.min.name, Cond.initialized "java/lang/Math", Cond.code Lib.Math.min.name Lib.Math.min.code 2 (some .int), Cond.methodLink RX4 48 yX4_existingTitle, Cond.instanceMethod yX4_existingTitle, Cond.selects RX4 yX4_existingTitle yX4_existingTitle, Cond.code yX4_existingTitle cX4_existingTitle 2 (some (.object "LinkResolver$Title")), Cond.fieldLink RX4 11 "LinkResolver" "titles" "[LLinkResolver$Title;", Cond.methodLink RX4 128 yX4_yearsSoFar, Cond.instanceMethod yX4_yearsSoFar, Cond.selects RX4 yX4_yearsSoFar yX4_yearsSoFar, Cond.code yX4_yearsSoFar cX4_yearsSoFar 2 (some .long), Cond.fieldLink RX4 56 "LinkResolver$Title" "firstYear" "I", Cond.methodLink RX4 88 yX4_yearsBetween, Cond.methodLink RX4 142 yX2_letsIn, Cond.instanceMethod yX2_letsIn, Cond.selects RX2 yX2_letsIn yX2_letsIn, Cond.code yX2_letsIn cX2_letsIn 2 (some .boolean)]
def wsX4_isNeedless_r4 : List Cond := [Cond.fieldLink RX2 18 "LinkResolver$Pack" "groups" "I", Cond.methodLink RX4 132 yX4_yearsCoveredButBy, Cond.instanceMethod yX4_yearsCoveredButBy, Cond.selects RX4 yX4_yearsCoveredButBy yX4_yearsCoveredButBy, Cond.code yX4_yearsCoveredButBy cX4_yearsCoveredButBy 8 (some .long), Cond.methodLink RX4 145 yX2_yearsCovered, Cond.instanceMethod yX2_yearsCovered, Cond.selects RX2 yX2_yearsCovered yX2_yearsCovered, Cond.code yX2_yearsCovered cX2_yearsCovered 3 (some .long), Cond.methodLink RX2 50 yX2_yearsOpen, Cond.methodLink RX2 54 yX2_yearsKept]
def wsX4_isNeedless : List Cond := .code yX4_isNeedless cX4_isNeedless 3 (some .boolean) :: ((wsX4_isNeedless_r1 ++ (wsX4_isNeedless_r2 ++ (wsX4_isNeedless_r3 ++ wsX4_isNeedless_r4))) ++ wsX40 ++ wsX20 ++ wsX00 ++ wsX10 ++ wsX30 ++ (vx_atS RX4 127 "java/lang/IndexOutOfBoundsException" ["java/lang/RuntimeException", "java/lang/Exception"]).filter goodWord ++ (vx_atS RX2 40 "java/lang/IndexOutOfBoundsException" ["java/lang/RuntimeException", "java/lang/Exception"]).filter goodWord)
def wsX5_init : List Cond := .code yX5_init cX5_init 1 none :: ([.methodLink RX5 1 objectInit, .instanceMethod objectInit, .code objectInit ⟨#[0xb1]⟩ 1 none, .arrayClass .int, .fieldLink RX5 7 "LinkResolverModel" "firstYears" "[I", .fieldLink RX5 13 "LinkResolverModel" "volumes" "[I", .fieldLink RX5 16 "LinkResolverModel" "costs" "[I", .fieldLink RX5 19 "LinkResolverModel" "versions" "[I", .fieldLink RX5 22 "LinkResolverModel" "groups" "[I", .arrayClass .boolean, .fieldLink RX5 25 "LinkResolverModel" "keeps" "[Z", .fieldLink RX5 29 "LinkResolverModel" "breaks" "[I", .fieldLink RX5 32 "LinkResolverModel" "ofWhat" "[I", .fieldLink RX5 35 "LinkResolverModel" "days" "[I", .fieldLink RX5 38 "LinkResolverModel" "isOn" "[Z", .fieldLink RX5 41 "LinkResolverModel" "firsts" "[I", .fieldLink RX5 44 "LinkResolverModel" "lasts" "[I", .fieldLink RX5 47 "LinkResolverModel" "walls" "[I"] ++ wsX50)
def wsX5_thrown : List Cond := .code yX5_thrown cX5_thrown 1 (some .int) :: ([.fieldLink RX5 50 "LinkResolverModel" "thrown" "I"] ++ wsX50)
def wsX5_holds : List Cond := .code yX5_holds cX5_holds 2 (some .boolean) :: ([.fieldLink RX5 50 "LinkResolverModel" "thrown" "I"] ++ wsX50)
def wsX5_isBetween : List Cond := .code yX5_isBetween cX5_isBetween 3 (some .boolean) :: ([])
def wsX5_isTitle : List Cond := .code yX5_isTitle cX5_isTitle 2 (some .boolean) :: ([.fieldLink RX5 54 "LinkResolverModel" "titles" "I"] ++ wsX50)
def wsX5_isPackage : List Cond := .code yX5_isPackage cX5_isPackage 2 (some .boolean) :: ([.fieldLink RX5 57 "LinkResolverModel" "packages" "I"] ++ wsX50)
def wsX5_addTitle : List Cond := .code yX5_addTitle cX5_addTitle 3 (some .int) :: ([.fieldLink RX5 54 "LinkResolverModel" "titles" "I", .fieldLink RX5 7 "LinkResolverModel" "firstYears" "[I", .fieldLink RX5 13 "LinkResolverModel" "volumes" "[I", .methodLink RX5 60 yX5_isBetween, .static yX5_isBetween, .initialized RX5, .code yX5_isBetween cX5_isBetween 3 (some .boolean), .methodLink RX5 64 yX5_holds, .instanceMethod yX5_holds, .selects RX5 yX5_holds yX5_holds, .code yX5_holds cX5_holds 2 (some .boolean), .fieldLink RX5 50 "LinkResolverModel" "thrown" "I"] ++ wsX50)
def wsX5_yearOf : List Cond := .code yX5_yearOf cX5_yearOf 4 (some .int) :: ([.fieldLink RX5 13 "LinkResolverModel" "volumes" "[I", .fieldLink RX5 7 "LinkResolverModel" "firstYears" "[I", .methodLink RX5 68 yX5_isTitle, .instanceMethod yX5_isTitle, .selects RX5 yX5_isTitle yX5_isTitle, .initialized RX5, .code yX5_isTitle cX5_isTitle 2 (some .boolean), .fieldLink RX5 54 "LinkResolverModel" "titles" "I", .methodLink RX5 64 yX5_holds, .instanceMethod yX5_holds, .selects RX5 yX5_holds yX5_holds, .code yX5_holds cX5_holds 2 (some .boolean), .fieldLink RX5 50 "LinkResolverModel" "thrown" "I"] ++ wsX50)
def wsX5_volumeOf : List Cond := .code yX5_volumeOf cX5_volumeOf 4 (some .int) :: ([.fieldLink RX5 7 "LinkResolverModel" "firstYears" "[I", .fieldLink RX5 13 "LinkResolverModel" "volumes" "[I", .methodLink RX5 68 yX5_isTitle, .instanceMethod yX5_isTitle, .selects RX5 yX5_isTitle yX5_isTitle, .initialized RX5, .code yX5_isTitle cX5_isTitle 2 (some .boolean), .fieldLink RX5 54 "LinkResolverModel" "titles" "I", .methodLink RX5 60 yX5_isBetween, .static yX5_isBetween, .code yX5_isBetween cX5_isBetween 3 (some .boolean), .methodLink RX5 64 yX5_holds, .instanceMethod yX5_holds, .selects RX5 yX5_holds yX5_holds, .code yX5_holds cX5_holds 2 (some .boolean), .fieldLink RX5 50 "LinkResolverModel" "thrown" "I"] ++ wsX50)
def wsX5_addPackage : List Cond := .code yX5_addPackage cX5_addPackage 6 (some .int) :: ([.fieldLink RX5 57 "LinkResolverModel" "packages" "I", .fieldLink RX5 16 "LinkResolverModel" "costs" "[I", .fieldLink RX5 19 "LinkResolverModel" "versions" "[I", .fieldLink RX5 22 "LinkResolverModel" "groups" "[I", .fieldLink RX5 25 "LinkResolverModel" "keeps" "[Z", .methodLink RX5 60 yX5_isBetween, .static yX5_isBetween, .initialized RX5, .code yX5_isBetween cX5_isBetween 3 (some .boolean), .methodLink RX5 64 yX5_holds, .instanceMethod yX5_holds, .selects RX5 yX5_holds yX5_holds, .code yX5_holds cX5_holds 2 (some .boolean), .fieldLink RX5 50 "LinkResolverModel" "thrown" "I"] ++ wsX50)
def wsX5_changeOn : List Cond := .code yX5_changeOn cX5_changeOn 4 (some .int) :: ([.fieldLink RX5 71 "LinkResolverModel" "changes" "I", .fieldLink RX5 32 "LinkResolverModel" "ofWhat" "[I", .fieldLink RX5 35 "LinkResolverModel" "days" "[I"] ++ wsX50)
def wsX5_isSo : List Cond := .code yX5_isSo cX5_isSo 4 (some .boolean) :: ([.fieldLink RX5 38 "LinkResolverModel" "isOn" "[Z", .methodLink RX5 74 yX5_changeOn, .instanceMethod yX5_changeOn, .selects RX5 yX5_changeOn yX5_changeOn, .initialized RX5, .code yX5_changeOn cX5_changeOn 4 (some .int), .fieldLink RX5 71 "LinkResolverModel" "changes" "I", .fieldLink RX5 32 "LinkResolverModel" "ofWhat" "[I", .fieldLink RX5 35 "LinkResolverModel" "days" "[I"] ++ wsX50)
def wsX5_notes : List Cond := .code yX5_notes cX5_notes 9 (some .boolean) :: ([.fieldLink RX5 78 "LinkResolverModel" "today" "I", .fieldLink RX5 38 "LinkResolverModel" "isOn" "[Z", .fieldLink RX5 35 "LinkResolverModel" "days" "[I", .fieldLink RX5 71 "LinkResolverModel" "changes" "I", .fieldLink RX5 32 "LinkResolverModel" "ofWhat" "[I", .fieldLink RX5 41 "LinkResolverModel" "firsts" "[I", .fieldLink RX5 44 "LinkResolverModel" "lasts" "[I", .fieldLink RX5 47 "LinkResolverModel" "walls" "[I", .methodLink RX5 74 yX5_changeOn, .instanceMethod yX5_changeOn, .selects RX5 yX5_changeOn yX5_changeOn, .initialized RX5, .code yX5_changeOn cX5_changeOn 4 (some .int)] ++ wsX50)
def wsX5_subscription : List Cond := .code yX5_subscription cX5_subscription 1 (some .int) :: ([])
def wsX5_subscribe_r1 : List Cond := [Cond.methodLink RX5 81 yX5_isPackage, Cond.instanceMethod yX5_isPackage, Cond.selects RX5 yX5_isPackage yX5_isPackage, Cond.initialized RX5, Cond.code yX5_isPackage cX5_isPackage 2 (some .boolean), Cond.fieldLink RX5 57 "LinkResolverModel" "packages" "I", Cond.methodLink RX5 64 yX5_holds, Cond.instanceMethod yX5_holds, Cond.selects RX5 yX5_holds yX5_holds, Cond.code yX5_holds cX5_holds 2 (some .boolean), Cond.fieldLink RX5 50 "LinkResolverModel" "thrown" "I", Cond.methodLink RX5 84 yX5_subscription, Cond.static yX5_subscription, Cond.code yX5_subscription cX5_subscription 1 (some .int), Cond.methodLink RX5 88 yX5_notes, Cond.instanceMethod yX5_notes, Cond.selects RX5 yX5_notes yX5_notes, Cond.code yX5_notes cX5_notes 9 (some .boolean), Cond.fieldLink RX5 78 "LinkResolverModel" "today" "I", Cond.fieldLink RX5 38 "LinkResolverModel" "isOn" "[Z", Cond.fieldLink RX5 35 "LinkResolverModel" "days" "[I", Cond.fieldLink RX5 71 "LinkResolverModel" "changes" "I", Cond.fieldLink RX5 32 "LinkResolverModel" "ofWhat" "[I", Cond.fieldLink RX5 41 "LinkResolverModel" "firsts" "[I"]
def wsX5_subscribe_r2 : List Cond := [Cond.fieldLink RX5 44 "LinkResolverModel" "lasts" "[I", Cond.fieldLink RX5 47 "LinkResolverModel" "walls" "[I", Cond.methodLink RX5 74 yX5_changeOn, Cond.instanceMethod yX5_changeOn, Cond.selects RX5 yX5_changeOn yX5_changeOn, Cond.code yX5_changeOn cX5_changeOn 4 (some .int)]
def wsX5_subscribe : List Cond := .code yX5_subscribe cX5_subscribe 3 (some .boolean) :: ((wsX5_subscribe_r1 ++ wsX5_subscribe_r2) ++ wsX50)
def wsX5_come_r1 : List Cond := [Cond.methodLink RX5 81 yX5_isPackage, Cond.instanceMethod yX5_isPackage, Cond.selects RX5 yX5_isPackage yX5_isPackage, Cond.initialized RX5, Cond.code yX5_isPackage cX5_isPackage 2 (some .boolean), Cond.fieldLink RX5 57 "LinkResolverModel" "packages" "I", Cond.methodLink RX5 68 yX5_isTitle, Cond.instanceMethod yX5_isTitle, Cond.selects RX5 yX5_isTitle yX5_isTitle, Cond.code yX5_isTitle cX5_isTitle 2 (some .boolean), Cond.fieldLink RX5 54 "LinkResolverModel" "titles" "I", Cond.methodLink RX5 60 yX5_isBetween, Cond.static yX5_isBetween, Cond.code yX5_isBetween cX5_isBetween 3 (some .boolean), Cond.methodLink RX5 64 yX5_holds, Cond.instanceMethod yX5_holds, Cond.selects RX5 yX5_holds yX5_holds, Cond.code yX5_holds cX5_holds 2 (some .boolean), Cond.fieldLink RX5 50 "LinkResolverModel" "thrown" "I", Cond.methodLink RX5 88 yX5_notes, Cond.instanceMethod yX5_notes, Cond.selects RX5 yX5_notes yX5_notes, Cond.code yX5_notes cX5_notes 9 (some .boolean), Cond.fieldLink RX5 78 "LinkResolverModel" "today" "I"]
def wsX5_come_r2 : List Cond := [Cond.fieldLink RX5 38 "LinkResolverModel" "isOn" "[Z", Cond.fieldLink RX5 35 "LinkResolverModel" "days" "[I", Cond.fieldLink RX5 71 "LinkResolverModel" "changes" "I", Cond.fieldLink RX5 32 "LinkResolverModel" "ofWhat" "[I", Cond.fieldLink RX5 41 "LinkResolverModel" "firsts" "[I", Cond.fieldLink RX5 44 "LinkResolverModel" "lasts" "[I", Cond.fieldLink RX5 47 "LinkResolverModel" "walls" "[I", Cond.methodLink RX5 74 yX5_changeOn, Cond.instanceMethod yX5_changeOn, Cond.selects RX5 yX5_changeOn yX5_changeOn, Cond.code yX5_changeOn cX5_changeOn 4 (some .int)]
def wsX5_come : List Cond := .code yX5_come cX5_come 8 (some .boolean) :: ((wsX5_come_r1 ++ wsX5_come_r2) ++ wsX50)
def wsX5_go_r1 : List Cond := [Cond.fieldLink RX5 78 "LinkResolverModel" "today" "I", Cond.methodLink RX5 81 yX5_isPackage, Cond.instanceMethod yX5_isPackage, Cond.selects RX5 yX5_isPackage yX5_isPackage, Cond.initialized RX5, Cond.code yX5_isPackage cX5_isPackage 2 (some .boolean), Cond.fieldLink RX5 57 "LinkResolverModel" "packages" "I", Cond.methodLink RX5 68 yX5_isTitle, Cond.instanceMethod yX5_isTitle, Cond.selects RX5 yX5_isTitle yX5_isTitle, Cond.code yX5_isTitle cX5_isTitle 2 (some .boolean), Cond.fieldLink RX5 54 "LinkResolverModel" "titles" "I", Cond.methodLink RX5 92 yX5_isSo, Cond.instanceMethod yX5_isSo, Cond.selects RX5 yX5_isSo yX5_isSo, Cond.code yX5_isSo cX5_isSo 4 (some .boolean), Cond.fieldLink RX5 38 "LinkResolverModel" "isOn" "[Z", Cond.methodLink RX5 74 yX5_changeOn, Cond.instanceMethod yX5_changeOn, Cond.selects RX5 yX5_changeOn yX5_changeOn, Cond.code yX5_changeOn cX5_changeOn 4 (some .int), Cond.fieldLink RX5 71 "LinkResolverModel" "changes" "I", Cond.fieldLink RX5 32 "LinkResolverModel" "ofWhat" "[I", Cond.fieldLink RX5 35 "LinkResolverModel" "days" "[I"]
def wsX5_go_r2 : List Cond := [Cond.methodLink RX5 64 yX5_holds, Cond.instanceMethod yX5_holds, Cond.selects RX5 yX5_holds yX5_holds, Cond.code yX5_holds cX5_holds 2 (some .boolean), Cond.fieldLink RX5 50 "LinkResolverModel" "thrown" "I", Cond.methodLink RX5 88 yX5_notes, Cond.instanceMethod yX5_notes, Cond.selects RX5 yX5_notes yX5_notes, Cond.code yX5_notes cX5_notes 9 (some .boolean), Cond.fieldLink RX5 41 "LinkResolverModel" "firsts" "[I", Cond.fieldLink RX5 44 "LinkResolverModel" "lasts" "[I", Cond.fieldLink RX5 47 "LinkResolverModel" "walls" "[I"]
def wsX5_go : List Cond := .code yX5_go cX5_go 5 none :: ((wsX5_go_r1 ++ wsX5_go_r2) ++ wsX50)
def wsX5_pass : List Cond := .code yX5_pass cX5_pass 2 (some .int) :: ([.fieldLink RX5 78 "LinkResolverModel" "today" "I", .methodLink RX5 60 yX5_isBetween, .static yX5_isBetween, .initialized RX5, .code yX5_isBetween cX5_isBetween 3 (some .boolean), .methodLink RX5 64 yX5_holds, .instanceMethod yX5_holds, .selects RX5 yX5_holds yX5_holds, .code yX5_holds cX5_holds 2 (some .boolean), .fieldLink RX5 50 "LinkResolverModel" "thrown" "I"] ++ wsX50)
def wsX5_today : List Cond := .code yX5_today cX5_today 1 (some .int) :: ([.fieldLink RX5 50 "LinkResolverModel" "thrown" "I", .fieldLink RX5 78 "LinkResolverModel" "today" "I"] ++ wsX50)
def wsX5_isSubscribed_r1 : List Cond := [Cond.fieldLink RX5 78 "LinkResolverModel" "today" "I", Cond.methodLink RX5 81 yX5_isPackage, Cond.instanceMethod yX5_isPackage, Cond.selects RX5 yX5_isPackage yX5_isPackage, Cond.initialized RX5, Cond.code yX5_isPackage cX5_isPackage 2 (some .boolean), Cond.fieldLink RX5 57 "LinkResolverModel" "packages" "I", Cond.methodLink RX5 60 yX5_isBetween, Cond.static yX5_isBetween, Cond.code yX5_isBetween cX5_isBetween 3 (some .boolean), Cond.methodLink RX5 64 yX5_holds, Cond.instanceMethod yX5_holds, Cond.selects RX5 yX5_holds yX5_holds, Cond.code yX5_holds cX5_holds 2 (some .boolean), Cond.fieldLink RX5 50 "LinkResolverModel" "thrown" "I", Cond.methodLink RX5 84 yX5_subscription, Cond.static yX5_subscription, Cond.code yX5_subscription cX5_subscription 1 (some .int), Cond.methodLink RX5 92 yX5_isSo, Cond.instanceMethod yX5_isSo, Cond.selects RX5 yX5_isSo yX5_isSo, Cond.code yX5_isSo cX5_isSo 4 (some .boolean), Cond.fieldLink RX5 38 "LinkResolverModel" "isOn" "[Z", Cond.methodLink RX5 74 yX5_changeOn]
def wsX5_isSubscribed_r2 : List Cond := [Cond.instanceMethod yX5_changeOn, Cond.selects RX5 yX5_changeOn yX5_changeOn, Cond.code yX5_changeOn cX5_changeOn 4 (some .int), Cond.fieldLink RX5 71 "LinkResolverModel" "changes" "I", Cond.fieldLink RX5 32 "LinkResolverModel" "ofWhat" "[I", Cond.fieldLink RX5 35 "LinkResolverModel" "days" "[I"]
def wsX5_isSubscribed : List Cond := .code yX5_isSubscribed cX5_isSubscribed 3 (some .boolean) :: ((wsX5_isSubscribed_r1 ++ wsX5_isSubscribed_r2) ++ wsX50)
def wsX5_isIn_r1 : List Cond := [Cond.fieldLink RX5 78 "LinkResolverModel" "today" "I", Cond.methodLink RX5 81 yX5_isPackage, Cond.instanceMethod yX5_isPackage, Cond.selects RX5 yX5_isPackage yX5_isPackage, Cond.initialized RX5, Cond.code yX5_isPackage cX5_isPackage 2 (some .boolean), Cond.fieldLink RX5 57 "LinkResolverModel" "packages" "I", Cond.methodLink RX5 68 yX5_isTitle, Cond.instanceMethod yX5_isTitle, Cond.selects RX5 yX5_isTitle yX5_isTitle, Cond.code yX5_isTitle cX5_isTitle 2 (some .boolean), Cond.fieldLink RX5 54 "LinkResolverModel" "titles" "I", Cond.methodLink RX5 60 yX5_isBetween, Cond.static yX5_isBetween, Cond.code yX5_isBetween cX5_isBetween 3 (some .boolean), Cond.methodLink RX5 64 yX5_holds, Cond.instanceMethod yX5_holds, Cond.selects RX5 yX5_holds yX5_holds, Cond.code yX5_holds cX5_holds 2 (some .boolean), Cond.fieldLink RX5 50 "LinkResolverModel" "thrown" "I", Cond.methodLink RX5 92 yX5_isSo, Cond.instanceMethod yX5_isSo, Cond.selects RX5 yX5_isSo yX5_isSo, Cond.code yX5_isSo cX5_isSo 4 (some .boolean)]
def wsX5_isIn_r2 : List Cond := [Cond.fieldLink RX5 38 "LinkResolverModel" "isOn" "[Z", Cond.methodLink RX5 74 yX5_changeOn, Cond.instanceMethod yX5_changeOn, Cond.selects RX5 yX5_changeOn yX5_changeOn, Cond.code yX5_changeOn cX5_changeOn 4 (some .int), Cond.fieldLink RX5 71 "LinkResolverModel" "changes" "I", Cond.fieldLink RX5 32 "LinkResolverModel" "ofWhat" "[I", Cond.fieldLink RX5 35 "LinkResolverModel" "days" "[I"]
def wsX5_isIn : List Cond := .code yX5_isIn cX5_isIn 4 (some .boolean) :: ((wsX5_isIn_r1 ++ wsX5_isIn_r2) ++ wsX50)
def wsX5_report : List Cond := .code yX5_report cX5_report 3 (some .int) :: ([.fieldLink RX5 29 "LinkResolverModel" "breaks" "[I", .methodLink RX5 81 yX5_isPackage, .instanceMethod yX5_isPackage, .selects RX5 yX5_isPackage yX5_isPackage, .initialized RX5, .code yX5_isPackage cX5_isPackage 2 (some .boolean), .fieldLink RX5 57 "LinkResolverModel" "packages" "I", .methodLink RX5 68 yX5_isTitle, .instanceMethod yX5_isTitle, .selects RX5 yX5_isTitle yX5_isTitle, .code yX5_isTitle cX5_isTitle 2 (some .boolean), .fieldLink RX5 54 "LinkResolverModel" "titles" "I", .methodLink RX5 64 yX5_holds, .instanceMethod yX5_holds, .selects RX5 yX5_holds yX5_holds, .code yX5_holds cX5_holds 2 (some .boolean), .fieldLink RX5 50 "LinkResolverModel" "thrown" "I"] ++ wsX50)
def wsX5_mend : List Cond := .code yX5_mend cX5_mend 4 (some .int) :: ([.fieldLink RX5 29 "LinkResolverModel" "breaks" "[I", .methodLink RX5 81 yX5_isPackage, .instanceMethod yX5_isPackage, .selects RX5 yX5_isPackage yX5_isPackage, .initialized RX5, .code yX5_isPackage cX5_isPackage 2 (some .boolean), .fieldLink RX5 57 "LinkResolverModel" "packages" "I", .methodLink RX5 68 yX5_isTitle, .instanceMethod yX5_isTitle, .selects RX5 yX5_isTitle yX5_isTitle, .code yX5_isTitle cX5_isTitle 2 (some .boolean), .fieldLink RX5 54 "LinkResolverModel" "titles" "I", .methodLink RX5 64 yX5_holds, .instanceMethod yX5_holds, .selects RX5 yX5_holds yX5_holds, .code yX5_holds cX5_holds 2 (some .boolean), .fieldLink RX5 50 "LinkResolverModel" "thrown" "I"] ++ wsX50)
def wsX5_has : List Cond := .code yX5_has cX5_has 8 (some .boolean) :: ([.fieldLink RX5 38 "LinkResolverModel" "isOn" "[Z", .fieldLink RX5 41 "LinkResolverModel" "firsts" "[I", .fieldLink RX5 44 "LinkResolverModel" "lasts" "[I", .fieldLink RX5 47 "LinkResolverModel" "walls" "[I", .methodLink RX5 74 yX5_changeOn, .instanceMethod yX5_changeOn, .selects RX5 yX5_changeOn yX5_changeOn, .initialized RX5, .code yX5_changeOn cX5_changeOn 4 (some .int), .fieldLink RX5 71 "LinkResolverModel" "changes" "I", .fieldLink RX5 32 "LinkResolverModel" "ofWhat" "[I", .fieldLink RX5 35 "LinkResolverModel" "days" "[I", .methodLink RX5 60 yX5_isBetween, .static yX5_isBetween, .code yX5_isBetween cX5_isBetween 3 (some .boolean), .methodLink RX5 84 yX5_subscription, .static yX5_subscription, .code yX5_subscription cX5_subscription 1 (some .int), .methodLink RX5 92 yX5_isSo, .instanceMethod yX5_isSo, .selects RX5 yX5_isSo yX5_isSo, .code yX5_isSo cX5_isSo 4 (some .boolean)] ++ wsX50)
def wsX5_isKept_r1 : List Cond := [Cond.fieldLink RX5 25 "LinkResolverModel" "keeps" "[Z", Cond.methodLink RX5 96 yX5_has, Cond.instanceMethod yX5_has, Cond.selects RX5 yX5_has yX5_has, Cond.initialized RX5, Cond.code yX5_has cX5_has 8 (some .boolean), Cond.fieldLink RX5 38 "LinkResolverModel" "isOn" "[Z", Cond.fieldLink RX5 41 "LinkResolverModel" "firsts" "[I", Cond.fieldLink RX5 44 "LinkResolverModel" "lasts" "[I", Cond.fieldLink RX5 47 "LinkResolverModel" "walls" "[I", Cond.methodLink RX5 74 yX5_changeOn, Cond.instanceMethod yX5_changeOn, Cond.selects RX5 yX5_changeOn yX5_changeOn, Cond.code yX5_changeOn cX5_changeOn 4 (some .int), Cond.fieldLink RX5 71 "LinkResolverModel" "changes" "I", Cond.fieldLink RX5 32 "LinkResolverModel" "ofWhat" "[I", Cond.fieldLink RX5 35 "LinkResolverModel" "days" "[I", Cond.methodLink RX5 60 yX5_isBetween, Cond.static yX5_isBetween, Cond.code yX5_isBetween cX5_isBetween 3 (some .boolean), Cond.methodLink RX5 84 yX5_subscription, Cond.static yX5_subscription, Cond.code yX5_subscription cX5_subscription 1 (some .int), Cond.methodLink RX5 92 yX5_isSo]
def wsX5_isKept_r2 : List Cond := [Cond.instanceMethod yX5_isSo, Cond.selects RX5 yX5_isSo yX5_isSo, Cond.code yX5_isSo cX5_isSo 4 (some .boolean)]
def wsX5_isKept : List Cond := .code yX5_isKept cX5_isKept 6 (some .boolean) :: ((wsX5_isKept_r1 ++ wsX5_isKept_r2) ++ wsX50)
def wsX5_isCovered_r1 : List Cond := [Cond.methodLink RX5 96 yX5_has, Cond.instanceMethod yX5_has, Cond.selects RX5 yX5_has yX5_has, Cond.initialized RX5, Cond.code yX5_has cX5_has 8 (some .boolean), Cond.fieldLink RX5 38 "LinkResolverModel" "isOn" "[Z", Cond.fieldLink RX5 41 "LinkResolverModel" "firsts" "[I", Cond.fieldLink RX5 44 "LinkResolverModel" "lasts" "[I", Cond.fieldLink RX5 47 "LinkResolverModel" "walls" "[I", Cond.methodLink RX5 74 yX5_changeOn, Cond.instanceMethod yX5_changeOn, Cond.selects RX5 yX5_changeOn yX5_changeOn, Cond.code yX5_changeOn cX5_changeOn 4 (some .int), Cond.fieldLink RX5 71 "LinkResolverModel" "changes" "I", Cond.fieldLink RX5 32 "LinkResolverModel" "ofWhat" "[I", Cond.fieldLink RX5 35 "LinkResolverModel" "days" "[I", Cond.methodLink RX5 60 yX5_isBetween, Cond.static yX5_isBetween, Cond.code yX5_isBetween cX5_isBetween 3 (some .boolean), Cond.methodLink RX5 84 yX5_subscription, Cond.static yX5_subscription, Cond.code yX5_subscription cX5_subscription 1 (some .int), Cond.methodLink RX5 92 yX5_isSo, Cond.instanceMethod yX5_isSo]
def wsX5_isCovered_r2 : List Cond := [Cond.selects RX5 yX5_isSo yX5_isSo, Cond.code yX5_isSo cX5_isSo 4 (some .boolean), Cond.methodLink RX5 100 yX5_isKept, Cond.instanceMethod yX5_isKept, Cond.selects RX5 yX5_isKept yX5_isKept, Cond.code yX5_isKept cX5_isKept 6 (some .boolean), Cond.fieldLink RX5 25 "LinkResolverModel" "keeps" "[Z"]
def wsX5_isCovered : List Cond := .code yX5_isCovered cX5_isCovered 5 (some .boolean) :: ((wsX5_isCovered_r1 ++ wsX5_isCovered_r2) ++ wsX50)
def wsX5_lets : List Cond := .code yX5_lets cX5_lets 3 (some .boolean) :: ([.fieldLink RX5 22 "LinkResolverModel" "groups" "[I"] ++ wsX50)
def wsX5_isAsked : List Cond := .code yX5_isAsked cX5_isAsked 4 (some .boolean) :: ([.fieldLink RX5 78 "LinkResolverModel" "today" "I", .methodLink RX5 60 yX5_isBetween, .static yX5_isBetween, .initialized RX5, .code yX5_isBetween cX5_isBetween 3 (some .boolean)] ++ wsX50)
def wsX5_covers_r1 : List Cond := [Cond.methodLink RX5 81 yX5_isPackage, Cond.instanceMethod yX5_isPackage, Cond.selects RX5 yX5_isPackage yX5_isPackage, Cond.initialized RX5, Cond.code yX5_isPackage cX5_isPackage 2 (some .boolean), Cond.fieldLink RX5 57 "LinkResolverModel" "packages" "I", Cond.methodLink RX5 68 yX5_isTitle, Cond.instanceMethod yX5_isTitle, Cond.selects RX5 yX5_isTitle yX5_isTitle, Cond.code yX5_isTitle cX5_isTitle 2 (some .boolean), Cond.fieldLink RX5 54 "LinkResolverModel" "titles" "I", Cond.methodLink RX5 104 yX5_isAsked, Cond.instanceMethod yX5_isAsked, Cond.selects RX5 yX5_isAsked yX5_isAsked, Cond.code yX5_isAsked cX5_isAsked 4 (some .boolean), Cond.fieldLink RX5 78 "LinkResolverModel" "today" "I", Cond.methodLink RX5 60 yX5_isBetween, Cond.static yX5_isBetween, Cond.code yX5_isBetween cX5_isBetween 3 (some .boolean), Cond.methodLink RX5 64 yX5_holds, Cond.instanceMethod yX5_holds, Cond.selects RX5 yX5_holds yX5_holds, Cond.code yX5_holds cX5_holds 2 (some .boolean), Cond.fieldLink RX5 50 "LinkResolverModel" "thrown" "I"]
def wsX5_covers_r2 : List Cond := [Cond.methodLink RX5 107 yX5_lets, Cond.instanceMethod yX5_lets, Cond.selects RX5 yX5_lets yX5_lets, Cond.code yX5_lets cX5_lets 3 (some .boolean), Cond.fieldLink RX5 22 "LinkResolverModel" "groups" "[I", Cond.methodLink RX5 110 yX5_isCovered, Cond.instanceMethod yX5_isCovered, Cond.selects RX5 yX5_isCovered yX5_isCovered, Cond.code yX5_isCovered cX5_isCovered 5 (some .boolean), Cond.methodLink RX5 96 yX5_has, Cond.instanceMethod yX5_has, Cond.selects RX5 yX5_has yX5_has, Cond.code yX5_has cX5_has 8 (some .boolean), Cond.fieldLink RX5 38 "LinkResolverModel" "isOn" "[Z", Cond.fieldLink RX5 41 "LinkResolverModel" "firsts" "[I", Cond.fieldLink RX5 44 "LinkResolverModel" "lasts" "[I", Cond.fieldLink RX5 47 "LinkResolverModel" "walls" "[I", Cond.methodLink RX5 74 yX5_changeOn, Cond.instanceMethod yX5_changeOn, Cond.selects RX5 yX5_changeOn yX5_changeOn, Cond.code yX5_changeOn cX5_changeOn 4 (some .int), Cond.fieldLink RX5 71 "LinkResolverModel" "changes" "I", Cond.fieldLink RX5 32 "LinkResolverModel" "ofWhat" "[I", Cond.fieldLink RX5 35 "LinkResolverModel" "days" "[I"]
def wsX5_covers_r3 : List Cond := [Cond.methodLink RX5 84 yX5_subscription, Cond.static yX5_subscription, Cond.code yX5_subscription cX5_subscription 1 (some .int), Cond.methodLink RX5 92 yX5_isSo, Cond.instanceMethod yX5_isSo, Cond.selects RX5 yX5_isSo yX5_isSo, Cond.code yX5_isSo cX5_isSo 4 (some .boolean), Cond.methodLink RX5 100 yX5_isKept, Cond.instanceMethod yX5_isKept, Cond.selects RX5 yX5_isKept yX5_isKept, Cond.code yX5_isKept cX5_isKept 6 (some .boolean), Cond.fieldLink RX5 25 "LinkResolverModel" "keeps" "[Z"]
def wsX5_covers : List Cond := .code yX5_covers cX5_covers 7 (some .boolean) :: ((wsX5_covers_r1 ++ (wsX5_covers_r2 ++ wsX5_covers_r3)) ++ wsX50)
def wsX5_waysTo_r1 : List Cond := [Cond.fieldLink RX5 57 "LinkResolverModel" "packages" "I", Cond.methodLink RX5 107 yX5_lets, Cond.instanceMethod yX5_lets, Cond.selects RX5 yX5_lets yX5_lets, Cond.initialized RX5, Cond.code yX5_lets cX5_lets 3 (some .boolean), Cond.fieldLink RX5 22 "LinkResolverModel" "groups" "[I", Cond.methodLink RX5 110 yX5_isCovered, Cond.instanceMethod yX5_isCovered, Cond.selects RX5 yX5_isCovered yX5_isCovered, Cond.code yX5_isCovered cX5_isCovered 5 (some .boolean), Cond.methodLink RX5 96 yX5_has, Cond.instanceMethod yX5_has, Cond.selects RX5 yX5_has yX5_has, Cond.code yX5_has cX5_has 8 (some .boolean), Cond.fieldLink RX5 38 "LinkResolverModel" "isOn" "[Z", Cond.fieldLink RX5 41 "LinkResolverModel" "firsts" "[I", Cond.fieldLink RX5 44 "LinkResolverModel" "lasts" "[I", Cond.fieldLink RX5 47 "LinkResolverModel" "walls" "[I", Cond.methodLink RX5 74 yX5_changeOn, Cond.instanceMethod yX5_changeOn, Cond.selects RX5 yX5_changeOn yX5_changeOn, Cond.code yX5_changeOn cX5_changeOn 4 (some .int), Cond.fieldLink RX5 71 "LinkResolverModel" "changes" "I"]
def wsX5_waysTo_r2 : List Cond := [Cond.fieldLink RX5 32 "LinkResolverModel" "ofWhat" "[I", Cond.fieldLink RX5 35 "LinkResolverModel" "days" "[I", Cond.methodLink RX5 60 yX5_isBetween, Cond.static yX5_isBetween, Cond.code yX5_isBetween cX5_isBetween 3 (some .boolean), Cond.methodLink RX5 84 yX5_subscription, Cond.static yX5_subscription, Cond.code yX5_subscription cX5_subscription 1 (some .int), Cond.methodLink RX5 92 yX5_isSo, Cond.instanceMethod yX5_isSo, Cond.selects RX5 yX5_isSo yX5_isSo, Cond.code yX5_isSo cX5_isSo 4 (some .boolean), Cond.methodLink RX5 100 yX5_isKept, Cond.instanceMethod yX5_isKept, Cond.selects RX5 yX5_isKept yX5_isKept, Cond.code yX5_isKept cX5_isKept 6 (some .boolean), Cond.fieldLink RX5 25 "LinkResolverModel" "keeps" "[Z"]
def wsX5_waysTo : List Cond := .code yX5_waysTo cX5_waysTo 7 (some .int) :: ((wsX5_waysTo_r1 ++ wsX5_waysTo_r2) ++ wsX50)
def wsX5_ways_r1 : List Cond := [Cond.methodLink RX5 68 yX5_isTitle, Cond.instanceMethod yX5_isTitle, Cond.selects RX5 yX5_isTitle yX5_isTitle, Cond.initialized RX5, Cond.code yX5_isTitle cX5_isTitle 2 (some .boolean), Cond.fieldLink RX5 54 "LinkResolverModel" "titles" "I", Cond.methodLink RX5 104 yX5_isAsked, Cond.instanceMethod yX5_isAsked, Cond.selects RX5 yX5_isAsked yX5_isAsked, Cond.code yX5_isAsked cX5_isAsked 4 (some .boolean), Cond.fieldLink RX5 78 "LinkResolverModel" "today" "I", Cond.methodLink RX5 60 yX5_isBetween, Cond.static yX5_isBetween, Cond.code yX5_isBetween cX5_isBetween 3 (some .boolean), Cond.methodLink RX5 64 yX5_holds, Cond.instanceMethod yX5_holds, Cond.selects RX5 yX5_holds yX5_holds, Cond.code yX5_holds cX5_holds 2 (some .boolean), Cond.fieldLink RX5 50 "LinkResolverModel" "thrown" "I", Cond.methodLink RX5 113 yX5_waysTo, Cond.instanceMethod yX5_waysTo, Cond.selects RX5 yX5_waysTo yX5_waysTo, Cond.code yX5_waysTo cX5_waysTo 7 (some .int), Cond.fieldLink RX5 57 "LinkResolverModel" "packages" "I"]
def wsX5_ways_r2 : List Cond := [Cond.methodLink RX5 107 yX5_lets, Cond.instanceMethod yX5_lets, Cond.selects RX5 yX5_lets yX5_lets, Cond.code yX5_lets cX5_lets 3 (some .boolean), Cond.fieldLink RX5 22 "LinkResolverModel" "groups" "[I", Cond.methodLink RX5 110 yX5_isCovered, Cond.instanceMethod yX5_isCovered, Cond.selects RX5 yX5_isCovered yX5_isCovered, Cond.code yX5_isCovered cX5_isCovered 5 (some .boolean), Cond.methodLink RX5 96 yX5_has, Cond.instanceMethod yX5_has, Cond.selects RX5 yX5_has yX5_has, Cond.code yX5_has cX5_has 8 (some .boolean), Cond.fieldLink RX5 38 "LinkResolverModel" "isOn" "[Z", Cond.fieldLink RX5 41 "LinkResolverModel" "firsts" "[I", Cond.fieldLink RX5 44 "LinkResolverModel" "lasts" "[I", Cond.fieldLink RX5 47 "LinkResolverModel" "walls" "[I", Cond.methodLink RX5 74 yX5_changeOn, Cond.instanceMethod yX5_changeOn, Cond.selects RX5 yX5_changeOn yX5_changeOn, Cond.code yX5_changeOn cX5_changeOn 4 (some .int), Cond.fieldLink RX5 71 "LinkResolverModel" "changes" "I", Cond.fieldLink RX5 32 "LinkResolverModel" "ofWhat" "[I", Cond.fieldLink RX5 35 "LinkResolverModel" "days" "[I"]
def wsX5_ways_r3 : List Cond := [Cond.methodLink RX5 84 yX5_subscription, Cond.static yX5_subscription, Cond.code yX5_subscription cX5_subscription 1 (some .int), Cond.methodLink RX5 92 yX5_isSo, Cond.instanceMethod yX5_isSo, Cond.selects RX5 yX5_isSo yX5_isSo, Cond.code yX5_isSo cX5_isSo 4 (some .boolean), Cond.methodLink RX5 100 yX5_isKept, Cond.instanceMethod yX5_isKept, Cond.selects RX5 yX5_isKept yX5_isKept, Cond.code yX5_isKept cX5_isKept 6 (some .boolean), Cond.fieldLink RX5 25 "LinkResolverModel" "keeps" "[Z"]
def wsX5_ways : List Cond := .code yX5_ways cX5_ways 5 (some .int) :: ((wsX5_ways_r1 ++ (wsX5_ways_r2 ++ wsX5_ways_r3)) ++ wsX50)
def wsX5_isAhead : List Cond := .code yX5_isAhead cX5_isAhead 6 (some .boolean) :: ([.fieldLink RX5 29 "LinkResolverModel" "breaks" "[I", .fieldLink RX5 16 "LinkResolverModel" "costs" "[I", .fieldLink RX5 19 "LinkResolverModel" "versions" "[I"] ++ wsX50)
def wsX5_wayAt_r1 : List Cond := [Cond.fieldLink RX5 57 "LinkResolverModel" "packages" "I", Cond.methodLink RX5 104 yX5_isAsked, Cond.instanceMethod yX5_isAsked, Cond.selects RX5 yX5_isAsked yX5_isAsked, Cond.initialized RX5, Cond.code yX5_isAsked cX5_isAsked 4 (some .boolean), Cond.fieldLink RX5 78 "LinkResolverModel" "today" "I", Cond.methodLink RX5 60 yX5_isBetween, Cond.static yX5_isBetween, Cond.code yX5_isBetween cX5_isBetween 3 (some .boolean), Cond.methodLink RX5 68 yX5_isTitle, Cond.instanceMethod yX5_isTitle, Cond.selects RX5 yX5_isTitle yX5_isTitle, Cond.code yX5_isTitle cX5_isTitle 2 (some .boolean), Cond.fieldLink RX5 54 "LinkResolverModel" "titles" "I", Cond.methodLink RX5 113 yX5_waysTo, Cond.instanceMethod yX5_waysTo, Cond.selects RX5 yX5_waysTo yX5_waysTo, Cond.code yX5_waysTo cX5_waysTo 7 (some .int), Cond.methodLink RX5 107 yX5_lets, Cond.instanceMethod yX5_lets, Cond.selects RX5 yX5_lets yX5_lets, Cond.code yX5_lets cX5_lets 3 (some .boolean), Cond.fieldLink RX5 22 "LinkResolverModel" "groups" "[I"]
def wsX5_wayAt_r2 : List Cond := [Cond.methodLink RX5 110 yX5_isCovered, Cond.instanceMethod yX5_isCovered, Cond.selects RX5 yX5_isCovered yX5_isCovered, Cond.code yX5_isCovered cX5_isCovered 5 (some .boolean), Cond.methodLink RX5 96 yX5_has, Cond.instanceMethod yX5_has, Cond.selects RX5 yX5_has yX5_has, Cond.code yX5_has cX5_has 8 (some .boolean), Cond.fieldLink RX5 38 "LinkResolverModel" "isOn" "[Z", Cond.fieldLink RX5 41 "LinkResolverModel" "firsts" "[I", Cond.fieldLink RX5 44 "LinkResolverModel" "lasts" "[I", Cond.fieldLink RX5 47 "LinkResolverModel" "walls" "[I", Cond.methodLink RX5 74 yX5_changeOn, Cond.instanceMethod yX5_changeOn, Cond.selects RX5 yX5_changeOn yX5_changeOn, Cond.code yX5_changeOn cX5_changeOn 4 (some .int), Cond.fieldLink RX5 71 "LinkResolverModel" "changes" "I", Cond.fieldLink RX5 32 "LinkResolverModel" "ofWhat" "[I", Cond.fieldLink RX5 35 "LinkResolverModel" "days" "[I", Cond.methodLink RX5 84 yX5_subscription, Cond.static yX5_subscription, Cond.code yX5_subscription cX5_subscription 1 (some .int), Cond.methodLink RX5 92 yX5_isSo, Cond.instanceMethod yX5_isSo]
def wsX5_wayAt_r3 : List Cond := [Cond.selects RX5 yX5_isSo yX5_isSo, Cond.code yX5_isSo cX5_isSo 4 (some .boolean), Cond.methodLink RX5 100 yX5_isKept, Cond.instanceMethod yX5_isKept, Cond.selects RX5 yX5_isKept yX5_isKept, Cond.code yX5_isKept cX5_isKept 6 (some .boolean), Cond.fieldLink RX5 25 "LinkResolverModel" "keeps" "[Z", Cond.methodLink RX5 64 yX5_holds, Cond.instanceMethod yX5_holds, Cond.selects RX5 yX5_holds yX5_holds, Cond.code yX5_holds cX5_holds 2 (some .boolean), Cond.fieldLink RX5 50 "LinkResolverModel" "thrown" "I", Cond.methodLink RX5 117 yX5_isAhead, Cond.instanceMethod yX5_isAhead, Cond.selects RX5 yX5_isAhead yX5_isAhead, Cond.code yX5_isAhead cX5_isAhead 6 (some .boolean), Cond.fieldLink RX5 29 "LinkResolverModel" "breaks" "[I", Cond.fieldLink RX5 16 "LinkResolverModel" "costs" "[I", Cond.fieldLink RX5 19 "LinkResolverModel" "versions" "[I"]
def wsX5_wayAt : List Cond := .code yX5_wayAt cX5_wayAt 12 (some .int) :: ((wsX5_wayAt_r1 ++ (wsX5_wayAt_r2 ++ wsX5_wayAt_r3)) ++ wsX50)
def wsX5_isOfTitle : List Cond := .code yX5_isOfTitle cX5_isOfTitle 3 (some .boolean) :: ([.methodLink RX5 68 yX5_isTitle, .instanceMethod yX5_isTitle, .selects RX5 yX5_isTitle yX5_isTitle, .initialized RX5, .code yX5_isTitle cX5_isTitle 2 (some .boolean), .fieldLink RX5 54 "LinkResolverModel" "titles" "I", .methodLink RX5 60 yX5_isBetween, .static yX5_isBetween, .code yX5_isBetween cX5_isBetween 3 (some .boolean), .methodLink RX5 64 yX5_holds, .instanceMethod yX5_holds, .selects RX5 yX5_holds yX5_holds, .code yX5_holds cX5_holds 2 (some .boolean), .fieldLink RX5 50 "LinkResolverModel" "thrown" "I"] ++ wsX50)
def wsX5_gap_r1 : List Cond := [Cond.fieldLink RX5 78 "LinkResolverModel" "today" "I", Cond.fieldLink RX5 7 "LinkResolverModel" "firstYears" "[I", Cond.methodLink RX5 120 yX5_isOfTitle, Cond.instanceMethod yX5_isOfTitle, Cond.selects RX5 yX5_isOfTitle yX5_isOfTitle, Cond.initialized RX5, Cond.code yX5_isOfTitle cX5_isOfTitle 3 (some .boolean), Cond.methodLink RX5 68 yX5_isTitle, Cond.instanceMethod yX5_isTitle, Cond.selects RX5 yX5_isTitle yX5_isTitle, Cond.code yX5_isTitle cX5_isTitle 2 (some .boolean), Cond.fieldLink RX5 54 "LinkResolverModel" "titles" "I", Cond.methodLink RX5 60 yX5_isBetween, Cond.static yX5_isBetween, Cond.code yX5_isBetween cX5_isBetween 3 (some .boolean), Cond.methodLink RX5 64 yX5_holds, Cond.instanceMethod yX5_holds, Cond.selects RX5 yX5_holds yX5_holds, Cond.code yX5_holds cX5_holds 2 (some .boolean), Cond.fieldLink RX5 50 "LinkResolverModel" "thrown" "I", Cond.methodLink RX5 113 yX5_waysTo, Cond.instanceMethod yX5_waysTo, Cond.selects RX5 yX5_waysTo yX5_waysTo, Cond.code yX5_waysTo cX5_waysTo 7 (some .int)]
def wsX5_gap_r2 : List Cond := [Cond.fieldLink RX5 57 "LinkResolverModel" "packages" "I", Cond.methodLink RX5 107 yX5_lets, Cond.instanceMethod yX5_lets, Cond.selects RX5 yX5_lets yX5_lets, Cond.code yX5_lets cX5_lets 3 (some .boolean), Cond.fieldLink RX5 22 "LinkResolverModel" "groups" "[I", Cond.methodLink RX5 110 yX5_isCovered, Cond.instanceMethod yX5_isCovered, Cond.selects RX5 yX5_isCovered yX5_isCovered, Cond.code yX5_isCovered cX5_isCovered 5 (some .boolean), Cond.methodLink RX5 96 yX5_has, Cond.instanceMethod yX5_has, Cond.selects RX5 yX5_has yX5_has, Cond.code yX5_has cX5_has 8 (some .boolean), Cond.fieldLink RX5 38 "LinkResolverModel" "isOn" "[Z", Cond.fieldLink RX5 41 "LinkResolverModel" "firsts" "[I", Cond.fieldLink RX5 44 "LinkResolverModel" "lasts" "[I", Cond.fieldLink RX5 47 "LinkResolverModel" "walls" "[I", Cond.methodLink RX5 74 yX5_changeOn, Cond.instanceMethod yX5_changeOn, Cond.selects RX5 yX5_changeOn yX5_changeOn, Cond.code yX5_changeOn cX5_changeOn 4 (some .int), Cond.fieldLink RX5 71 "LinkResolverModel" "changes" "I", Cond.fieldLink RX5 32 "LinkResolverModel" "ofWhat" "[I"]
def wsX5_gap_r3 : List Cond := [Cond.fieldLink RX5 35 "LinkResolverModel" "days" "[I", Cond.methodLink RX5 84 yX5_subscription, Cond.static yX5_subscription, Cond.code yX5_subscription cX5_subscription 1 (some .int), Cond.methodLink RX5 92 yX5_isSo, Cond.instanceMethod yX5_isSo, Cond.selects RX5 yX5_isSo yX5_isSo, Cond.code yX5_isSo cX5_isSo 4 (some .boolean), Cond.methodLink RX5 100 yX5_isKept, Cond.instanceMethod yX5_isKept, Cond.selects RX5 yX5_isKept yX5_isKept, Cond.code yX5_isKept cX5_isKept 6 (some .boolean), Cond.fieldLink RX5 25 "LinkResolverModel" "keeps" "[Z"]
def wsX5_gap : List Cond := .code yX5_gap cX5_gap 5 (some .int) :: ((wsX5_gap_r1 ++ (wsX5_gap_r2 ++ wsX5_gap_r3)) ++ wsX50)
def wsX5_doubles_r1 : List Cond := [Cond.fieldLink RX5 7 "LinkResolverModel" "firstYears" "[I", Cond.fieldLink RX5 78 "LinkResolverModel" "today" "I", Cond.methodLink RX5 120 yX5_isOfTitle, Cond.instanceMethod yX5_isOfTitle, Cond.selects RX5 yX5_isOfTitle yX5_isOfTitle, Cond.initialized RX5, Cond.code yX5_isOfTitle cX5_isOfTitle 3 (some .boolean), Cond.methodLink RX5 68 yX5_isTitle, Cond.instanceMethod yX5_isTitle, Cond.selects RX5 yX5_isTitle yX5_isTitle, Cond.code yX5_isTitle cX5_isTitle 2 (some .boolean), Cond.fieldLink RX5 54 "LinkResolverModel" "titles" "I", Cond.methodLink RX5 60 yX5_isBetween, Cond.static yX5_isBetween, Cond.code yX5_isBetween cX5_isBetween 3 (some .boolean), Cond.methodLink RX5 64 yX5_holds, Cond.instanceMethod yX5_holds, Cond.selects RX5 yX5_holds yX5_holds, Cond.code yX5_holds cX5_holds 2 (some .boolean), Cond.fieldLink RX5 50 "LinkResolverModel" "thrown" "I", Cond.methodLink RX5 113 yX5_waysTo, Cond.instanceMethod yX5_waysTo, Cond.selects RX5 yX5_waysTo yX5_waysTo, Cond.code yX5_waysTo cX5_waysTo 7 (some .int)]
def wsX5_doubles_r2 : List Cond := [Cond.fieldLink RX5 57 "LinkResolverModel" "packages" "I", Cond.methodLink RX5 107 yX5_lets, Cond.instanceMethod yX5_lets, Cond.selects RX5 yX5_lets yX5_lets, Cond.code yX5_lets cX5_lets 3 (some .boolean), Cond.fieldLink RX5 22 "LinkResolverModel" "groups" "[I", Cond.methodLink RX5 110 yX5_isCovered, Cond.instanceMethod yX5_isCovered, Cond.selects RX5 yX5_isCovered yX5_isCovered, Cond.code yX5_isCovered cX5_isCovered 5 (some .boolean), Cond.methodLink RX5 96 yX5_has, Cond.instanceMethod yX5_has, Cond.selects RX5 yX5_has yX5_has, Cond.code yX5_has cX5_has 8 (some .boolean), Cond.fieldLink RX5 38 "LinkResolverModel" "isOn" "[Z", Cond.fieldLink RX5 41 "LinkResolverModel" "firsts" "[I", Cond.fieldLink RX5 44 "LinkResolverModel" "lasts" "[I", Cond.fieldLink RX5 47 "LinkResolverModel" "walls" "[I", Cond.methodLink RX5 74 yX5_changeOn, Cond.instanceMethod yX5_changeOn, Cond.selects RX5 yX5_changeOn yX5_changeOn, Cond.code yX5_changeOn cX5_changeOn 4 (some .int), Cond.fieldLink RX5 71 "LinkResolverModel" "changes" "I", Cond.fieldLink RX5 32 "LinkResolverModel" "ofWhat" "[I"]
def wsX5_doubles_r3 : List Cond := [Cond.fieldLink RX5 35 "LinkResolverModel" "days" "[I", Cond.methodLink RX5 84 yX5_subscription, Cond.static yX5_subscription, Cond.code yX5_subscription cX5_subscription 1 (some .int), Cond.methodLink RX5 92 yX5_isSo, Cond.instanceMethod yX5_isSo, Cond.selects RX5 yX5_isSo yX5_isSo, Cond.code yX5_isSo cX5_isSo 4 (some .boolean), Cond.methodLink RX5 100 yX5_isKept, Cond.instanceMethod yX5_isKept, Cond.selects RX5 yX5_isKept yX5_isKept, Cond.code yX5_isKept cX5_isKept 6 (some .boolean), Cond.fieldLink RX5 25 "LinkResolverModel" "keeps" "[Z"]
def wsX5_doubles : List Cond := .code yX5_doubles cX5_doubles 5 (some .int) :: ((wsX5_doubles_r1 ++ (wsX5_doubles_r2 ++ wsX5_doubles_r3)) ++ wsX50)
def wsX5_othersFor_r1 : List Cond := [Cond.fieldLink RX5 57 "LinkResolverModel" "packages" "I", Cond.fieldLink RX5 78 "LinkResolverModel" "today" "I", Cond.fieldLink RX5 22 "LinkResolverModel" "groups" "[I", Cond.methodLink RX5 110 yX5_isCovered, Cond.instanceMethod yX5_isCovered, Cond.selects RX5 yX5_isCovered yX5_isCovered, Cond.initialized RX5, Cond.code yX5_isCovered cX5_isCovered 5 (some .boolean), Cond.methodLink RX5 96 yX5_has, Cond.instanceMethod yX5_has, Cond.selects RX5 yX5_has yX5_has, Cond.code yX5_has cX5_has 8 (some .boolean), Cond.fieldLink RX5 38 "LinkResolverModel" "isOn" "[Z", Cond.fieldLink RX5 41 "LinkResolverModel" "firsts" "[I", Cond.fieldLink RX5 44 "LinkResolverModel" "lasts" "[I", Cond.fieldLink RX5 47 "LinkResolverModel" "walls" "[I", Cond.methodLink RX5 74 yX5_changeOn, Cond.instanceMethod yX5_changeOn, Cond.selects RX5 yX5_changeOn yX5_changeOn, Cond.code yX5_changeOn cX5_changeOn 4 (some .int), Cond.fieldLink RX5 71 "LinkResolverModel" "changes" "I", Cond.fieldLink RX5 32 "LinkResolverModel" "ofWhat" "[I", Cond.fieldLink RX5 35 "LinkResolverModel" "days" "[I", Cond.methodLink RX5 60 yX5_isBetween]
def wsX5_othersFor_r2 : List Cond := [Cond.static yX5_isBetween, Cond.code yX5_isBetween cX5_isBetween 3 (some .boolean), Cond.methodLink RX5 84 yX5_subscription, Cond.static yX5_subscription, Cond.code yX5_subscription cX5_subscription 1 (some .int), Cond.methodLink RX5 92 yX5_isSo, Cond.instanceMethod yX5_isSo, Cond.selects RX5 yX5_isSo yX5_isSo, Cond.code yX5_isSo cX5_isSo 4 (some .boolean), Cond.methodLink RX5 100 yX5_isKept, Cond.instanceMethod yX5_isKept, Cond.selects RX5 yX5_isKept yX5_isKept, Cond.code yX5_isKept cX5_isKept 6 (some .boolean), Cond.fieldLink RX5 25 "LinkResolverModel" "keeps" "[Z"]
def wsX5_othersFor : List Cond := .code yX5_othersFor cX5_othersFor 6 (some .int) :: ((wsX5_othersFor_r1 ++ wsX5_othersFor_r2) ++ wsX50)
def wsX5_isNeedless_r1 : List Cond := [Cond.fieldLink RX5 54 "LinkResolverModel" "titles" "I", Cond.fieldLink RX5 7 "LinkResolverModel" "firstYears" "[I", Cond.fieldLink RX5 78 "LinkResolverModel" "today" "I", Cond.fieldLink RX5 22 "LinkResolverModel" "groups" "[I", Cond.methodLink RX5 81 yX5_isPackage, Cond.instanceMethod yX5_isPackage, Cond.selects RX5 yX5_isPackage yX5_isPackage, Cond.initialized RX5, Cond.code yX5_isPackage cX5_isPackage 2 (some .boolean), Cond.fieldLink RX5 57 "LinkResolverModel" "packages" "I", Cond.methodLink RX5 64 yX5_holds, Cond.instanceMethod yX5_holds, Cond.selects RX5 yX5_holds yX5_holds, Cond.code yX5_holds cX5_holds 2 (some .boolean), Cond.fieldLink RX5 50 "LinkResolverModel" "thrown" "I", Cond.methodLink RX5 96 yX5_has, Cond.instanceMethod yX5_has, Cond.selects RX5 yX5_has yX5_has, Cond.code yX5_has cX5_has 8 (some .boolean), Cond.fieldLink RX5 38 "LinkResolverModel" "isOn" "[Z", Cond.fieldLink RX5 41 "LinkResolverModel" "firsts" "[I", Cond.fieldLink RX5 44 "LinkResolverModel" "lasts" "[I", Cond.fieldLink RX5 47 "LinkResolverModel" "walls" "[I", Cond.methodLink RX5 74 yX5_changeOn]
def wsX5_isNeedless_r2 : List Cond := [Cond.instanceMethod yX5_changeOn, Cond.selects RX5 yX5_changeOn yX5_changeOn, Cond.code yX5_changeOn cX5_changeOn 4 (some .int), Cond.fieldLink RX5 71 "LinkResolverModel" "changes" "I", Cond.fieldLink RX5 32 "LinkResolverModel" "ofWhat" "[I", Cond.fieldLink RX5 35 "LinkResolverModel" "days" "[I", Cond.methodLink RX5 60 yX5_isBetween, Cond.static yX5_isBetween, Cond.code yX5_isBetween cX5_isBetween 3 (some .boolean), Cond.methodLink RX5 84 yX5_subscription, Cond.static yX5_subscription, Cond.code yX5_subscription cX5_subscription 1 (some .int), Cond.methodLink RX5 92 yX5_isSo, Cond.instanceMethod yX5_isSo, Cond.selects RX5 yX5_isSo yX5_isSo, Cond.code yX5_isSo cX5_isSo 4 (some .boolean), Cond.methodLink RX5 100 yX5_isKept, Cond.instanceMethod yX5_isKept, Cond.selects RX5 yX5_isKept yX5_isKept, Cond.code yX5_isKept cX5_isKept 6 (some .boolean), Cond.fieldLink RX5 25 "LinkResolverModel" "keeps" "[Z", Cond.methodLink RX5 123 yX5_othersFor, Cond.instanceMethod yX5_othersFor, Cond.selects RX5 yX5_othersFor yX5_othersFor]
def wsX5_isNeedless_r3 : List Cond := [Cond.code yX5_othersFor cX5_othersFor 6 (some .int), Cond.methodLink RX5 110 yX5_isCovered, Cond.instanceMethod yX5_isCovered, Cond.selects RX5 yX5_isCovered yX5_isCovered, Cond.code yX5_isCovered cX5_isCovered 5 (some .boolean)]
def wsX5_isNeedless : List Cond := .code yX5_isNeedless cX5_isNeedless 6 (some .boolean) :: ((wsX5_isNeedless_r1 ++ (wsX5_isNeedless_r2 ++ wsX5_isNeedless_r3)) ++ wsX50)
def wsJ9_min_7cf53 : List Cond := .code yJ9_min_7cf53 cJ9_min_7cf53 2 (some .int) :: ([])
def wsL_addTitle_r1 : List Cond := [Cond.classLink RL 13 "java/lang/IllegalArgumentException", Cond.classLink RL 15 "java/lang/IllegalStateException", Cond.methodLink RL 7 yX4_addTitle, Cond.instanceMethod yX4_addTitle, Cond.selects RX4 yX4_addTitle yX4_addTitle, Cond.initialized RX4, Cond.code yX4_addTitle cX4_addTitle 4 (some .int), Cond.classLink RX4 38 "java/lang/IllegalStateException", Cond.initialized "java/lang/IllegalStateException", Cond.fieldLink RX4 21 "LinkResolver" "titleCount" "I", Cond.fieldLink RX4 11 "LinkResolver" "titles" "[LLinkResolver$Title;", Cond.classLink RX4 9 RX3, Cond.instantiable RX3 2, Cond.initialized RX3, Cond.methodLink RX4 34 yX4_checkRange, Cond.static yX4_checkRange, Cond.code yX4_checkRange cX4_checkRange 3 none, Cond.classLink RX4 156 "java/lang/IllegalArgumentException", Cond.initialized "java/lang/IllegalArgumentException", Cond.methodLink RX4 45 yX3_init, Cond.instanceMethod yX3_init, Cond.code yX3_init cX3_init 3 none, Cond.methodLink RX3 1 objectInit, Cond.instanceMethod objectInit]
def wsL_addTitle_r2 : List Cond := [Cond.code objectInit ⟨#[0xb1]⟩ 1 none, Cond.fieldLink RX3 7 "LinkResolver$Title" "firstYear" "I", Cond.fieldLink RX3 13 "LinkResolver$Title" "volumes" "I"]
def wsL_addTitle : List Cond := .codeWith yL_addTitle cL_addTitle 5 (some .int) [(0, 10, 13, 13), (0, 10, 17, 15)] :: ((wsL_addTitle_r1 ++ wsL_addTitle_r2) ++ wsX40 ++ wsX30 ++ (vx_atS RX4 42 "java/lang/IllegalStateException" ["java/lang/RuntimeException", "java/lang/Exception"]).filter goodWord ++ (vx_atS RX4 160 "java/lang/IllegalArgumentException" ["java/lang/RuntimeException", "java/lang/Exception"]).filter goodWord)
def wsL_yearOf_r1 : List Cond := [Cond.classLink RL 20 "java/lang/IndexOutOfBoundsException", Cond.classLink RL 13 "java/lang/IllegalArgumentException", Cond.methodLink RL 17 yX4_yearOf, Cond.instanceMethod yX4_yearOf, Cond.selects RX4 yX4_yearOf yX4_yearOf, Cond.initialized RX4, Cond.code yX4_yearOf cX4_yearOf 5 (some .int), Cond.fieldLink RX4 56 "LinkResolver$Title" "firstYear" "I", Cond.methodLink RX4 48 yX4_existingTitle, Cond.instanceMethod yX4_existingTitle, Cond.selects RX4 yX4_existingTitle yX4_existingTitle, Cond.code yX4_existingTitle cX4_existingTitle 2 (some (.object "LinkResolver$Title")), Cond.classLink RX4 123 "java/lang/IndexOutOfBoundsException", Cond.initialized "java/lang/IndexOutOfBoundsException", Cond.fieldLink RX4 21 "LinkResolver" "titleCount" "I", Cond.fieldLink RX4 11 "LinkResolver" "titles" "[LLinkResolver$Title;", Cond.methodLink RX4 52 yX3_firstVolume, Cond.instanceMethod yX3_firstVolume, Cond.selects RX3 yX3_firstVolume yX3_firstVolume, Cond.initialized RX3, Cond.code yX3_firstVolume cX3_firstVolume 2 (some .int), Cond.fieldLink RX3 7 "LinkResolver$Title" "firstYear" "I", Cond.fieldLink RX3 13 "LinkResolver$Title" "volumes" "I", Cond.methodLink RX4 34 yX4_checkRange]
def wsL_yearOf_r2 : List Cond := [Cond.static yX4_checkRange, Cond.code yX4_checkRange cX4_checkRange 3 none, Cond.classLink RX4 156 "java/lang/IllegalArgumentException", Cond.initialized "java/lang/IllegalArgumentException"]
def wsL_yearOf : List Cond := .codeWith yL_yearOf cL_yearOf 5 (some .int) [(0, 10, 13, 20), (0, 10, 17, 13)] :: ((wsL_yearOf_r1 ++ wsL_yearOf_r2) ++ wsX30 ++ wsX40 ++ (vx_atS RX4 127 "java/lang/IndexOutOfBoundsException" ["java/lang/RuntimeException", "java/lang/Exception"]).filter goodWord ++ (vx_atS RX4 160 "java/lang/IllegalArgumentException" ["java/lang/RuntimeException", "java/lang/Exception"]).filter goodWord)
def wsL_volumeOf_r1 : List Cond := [Cond.classLink RL 20 "java/lang/IndexOutOfBoundsException", Cond.classLink RL 13 "java/lang/IllegalArgumentException", Cond.methodLink RL 22 yX4_volumeOf, Cond.instanceMethod yX4_volumeOf, Cond.selects RX4 yX4_volumeOf yX4_volumeOf, Cond.initialized RX4, Cond.code yX4_volumeOf cX4_volumeOf 4 (some .int), Cond.fieldLink RX4 56 "LinkResolver$Title" "firstYear" "I", Cond.methodLink RX4 48 yX4_existingTitle, Cond.instanceMethod yX4_existingTitle, Cond.selects RX4 yX4_existingTitle yX4_existingTitle, Cond.code yX4_existingTitle cX4_existingTitle 2 (some (.object "LinkResolver$Title")), Cond.classLink RX4 123 "java/lang/IndexOutOfBoundsException", Cond.initialized "java/lang/IndexOutOfBoundsException", Cond.fieldLink RX4 21 "LinkResolver" "titleCount" "I", Cond.fieldLink RX4 11 "LinkResolver" "titles" "[LLinkResolver$Title;", Cond.methodLink RX4 34 yX4_checkRange, Cond.static yX4_checkRange, Cond.code yX4_checkRange cX4_checkRange 3 none, Cond.classLink RX4 156 "java/lang/IllegalArgumentException", Cond.initialized "java/lang/IllegalArgumentException", Cond.methodLink RX4 52 yX3_firstVolume, Cond.instanceMethod yX3_firstVolume, Cond.selects RX3 yX3_firstVolume yX3_firstVolume]
def wsL_volumeOf_r2 : List Cond := [Cond.initialized RX3, Cond.code yX3_firstVolume cX3_firstVolume 2 (some .int), Cond.fieldLink RX3 7 "LinkResolver$Title" "firstYear" "I", Cond.fieldLink RX3 13 "LinkResolver$Title" "volumes" "I"]
def wsL_volumeOf : List Cond := .codeWith yL_volumeOf cL_volumeOf 5 (some .int) [(0, 10, 13, 20), (0, 10, 17, 13)] :: ((wsL_volumeOf_r1 ++ wsL_volumeOf_r2) ++ wsX30 ++ wsX40 ++ (vx_atS RX4 127 "java/lang/IndexOutOfBoundsException" ["java/lang/RuntimeException", "java/lang/Exception"]).filter goodWord ++ (vx_atS RX4 160 "java/lang/IllegalArgumentException" ["java/lang/RuntimeException", "java/lang/Exception"]).filter goodWord)
def wsL_addPackage_r1 : List Cond := [Cond.classLink RL 13 "java/lang/IllegalArgumentException", Cond.classLink RL 15 "java/lang/IllegalStateException", Cond.methodLink RL 25 yX4_addPackage, Cond.instanceMethod yX4_addPackage, Cond.selects RX4 yX4_addPackage yX4_addPackage, Cond.initialized RX4, Cond.code yX4_addPackage cX4_addPackage 6 (some .int), Cond.classLink RX4 38 "java/lang/IllegalStateException", Cond.initialized "java/lang/IllegalStateException", Cond.fieldLink RX4 25 "LinkResolver" "packCount" "I", Cond.fieldLink RX4 17 "LinkResolver" "packs" "[LLinkResolver$Pack;", Cond.classLink RX4 15 RX2, Cond.instantiable RX2 6, Cond.initialized RX2, Cond.methodLink RX4 34 yX4_checkRange, Cond.static yX4_checkRange, Cond.code yX4_checkRange cX4_checkRange 3 none, Cond.classLink RX4 156 "java/lang/IllegalArgumentException", Cond.initialized "java/lang/IllegalArgumentException", Cond.methodLink RX4 61 yX2_init, Cond.instanceMethod yX2_init, Cond.code yX2_init cX2_init 6 none, Cond.methodLink RX2 3 objectInit, Cond.instanceMethod objectInit]
def wsL_addPackage_r2 : List Cond := [Cond.code objectInit ⟨#[0xb1]⟩ 1 none, Cond.fieldLink RX2 9 "LinkResolver$Pack" "cost" "I", Cond.fieldLink RX2 15 "LinkResolver$Pack" "version" "I", Cond.fieldLink RX2 18 "LinkResolver$Pack" "groups" "I", Cond.fieldLink RX2 21 "LinkResolver$Pack" "isKeeping" "Z", Cond.classLink RX2 25 RX1, Cond.instantiable RX1 2, Cond.initialized RX1, Cond.fieldLink RX2 28 "LinkResolver$Pack" "subscription" "LLinkResolver$History;", Cond.fieldLink RX2 32 "LinkResolver$Pack" "stays" "[LLinkResolver$History;", Cond.methodLink RX2 27 yX1_init, Cond.instanceMethod yX1_init, Cond.code yX1_init cX1_init 1 none, Cond.methodLink RX1 3 objectInit, Cond.fieldLink RX1 9 "LinkResolver$History" "newest" "LLinkResolver$Change;", Cond.fieldLink RX1 15 "LinkResolver$History" "breaks" "I"]
def wsL_addPackage : List Cond := .codeWith yL_addPackage cL_addPackage 7 (some .int) [(0, 14, 17, 13), (0, 14, 21, 15)] :: ((wsL_addPackage_r1 ++ wsL_addPackage_r2) ++ wsX40 ++ wsX20 ++ wsX10 ++ (vx_atS RX4 42 "java/lang/IllegalStateException" ["java/lang/RuntimeException", "java/lang/Exception"]).filter goodWord ++ (vx_atS RX4 160 "java/lang/IllegalArgumentException" ["java/lang/RuntimeException", "java/lang/Exception"]).filter goodWord)
def wsL_subscribe_r1 : List Cond := [Cond.classLink RL 20 "java/lang/IndexOutOfBoundsException", Cond.methodLink RL 29 yX4_subscribe, Cond.instanceMethod yX4_subscribe, Cond.selects RX4 yX4_subscribe yX4_subscribe, Cond.initialized RX4, Cond.code yX4_subscribe cX4_subscribe 5 (some .boolean), Cond.fieldLink RX4 68 "LinkResolver$Pack" "subscription" "LLinkResolver$History;", Cond.fieldLink RX4 31 "LinkResolver" "currentDay" "I", Cond.constantLong RX4 78 (72057594037927935), Cond.methodLink RX4 64 yX4_existingPack, Cond.instanceMethod yX4_existingPack, Cond.selects RX4 yX4_existingPack yX4_existingPack, Cond.code yX4_existingPack cX4_existingPack 2 (some (.object "LinkResolver$Pack")), Cond.classLink RX4 123 "java/lang/IndexOutOfBoundsException", Cond.initialized "java/lang/IndexOutOfBoundsException", Cond.fieldLink RX4 25 "LinkResolver" "packCount" "I", Cond.fieldLink RX4 17 "LinkResolver" "packs" "[LLinkResolver$Pack;", Cond.methodLink RX4 72 yX1_isOnAt, Cond.instanceMethod yX1_isOnAt, Cond.selects RX1 yX1_isOnAt yX1_isOnAt, Cond.initialized RX1, Cond.code yX1_isOnAt cX1_isOnAt 3 (some .boolean), Cond.fieldLink RX1 34 "LinkResolver$Change" "years" "J", Cond.methodLink RX1 30 yX1_changeAt]
def wsL_subscribe_r2 : List Cond := [Cond.instanceMethod yX1_changeAt, Cond.selects RX1 yX1_changeAt yX1_changeAt, Cond.code yX1_changeAt cX1_changeAt 3 (some (.object "LinkResolver$Change")), Cond.fieldLink RX1 9 "LinkResolver$History" "newest" "LLinkResolver$Change;", Cond.fieldLink RX1 24 "LinkResolver$Change" "day" "I", Cond.fieldLink RX1 27 "LinkResolver$Change" "before" "LLinkResolver$Change;", Cond.methodLink RX4 80 yX4_change, Cond.instanceMethod yX4_change, Cond.selects RX4 yX4_change yX4_change, Cond.code yX4_change cX4_change 5 none, Cond.fieldLink RX4 28 "LinkResolver" "changeCount" "I", Cond.methodLink RX4 169 yX1_add, Cond.instanceMethod yX1_add, Cond.selects RX1 yX1_add yX1_add, Cond.code yX1_add cX1_add 5 none, Cond.classLink RX1 19 RX0, Cond.instantiable RX0 4, Cond.initialized RX0, Cond.methodLink RX1 21 yX0_init, Cond.instanceMethod yX0_init, Cond.code yX0_init cX0_init 6 none, Cond.methodLink RX0 1 objectInit, Cond.instanceMethod objectInit, Cond.code objectInit ⟨#[0xb1]⟩ 1 none]
def wsL_subscribe_r3 : List Cond := [Cond.fieldLink RX0 7 "LinkResolver$Change" "day" "I", Cond.fieldLink RX0 13 "LinkResolver$Change" "years" "J", Cond.fieldLink RX0 17 "LinkResolver$Change" "wall" "I", Cond.fieldLink RX0 20 "LinkResolver$Change" "before" "LLinkResolver$Change;"]
def wsL_subscribe : List Cond := .codeWith yL_subscribe cL_subscribe 5 (some .int) [(0, 17, 20, 20)] :: ((wsL_subscribe_r1 ++ (wsL_subscribe_r2 ++ wsL_subscribe_r3)) ++ wsX20 ++ wsX40 ++ wsX00 ++ wsX10 ++ (vx_atS RX4 127 "java/lang/IndexOutOfBoundsException" ["java/lang/RuntimeException", "java/lang/Exception"]).filter goodWord)
def wsL_come_r1 : List Cond := [Cond.classLink RL 20 "java/lang/IndexOutOfBoundsException", Cond.classLink RL 13 "java/lang/IllegalArgumentException", Cond.methodLink RL 33 yX4_come, Cond.instanceMethod yX4_come, Cond.selects RX4 yX4_come yX4_come, Cond.initialized RX4, Cond.code yX4_come cX4_come 8 (some .boolean), Cond.fieldLink RX4 31 "LinkResolver" "currentDay" "I", Cond.methodLink RX4 84 yX4_existingStay, Cond.instanceMethod yX4_existingStay, Cond.selects RX4 yX4_existingStay yX4_existingStay, Cond.code yX4_existingStay cX4_existingStay 4 (some (.object "LinkResolver$History")), Cond.methodLink RX4 64 yX4_existingPack, Cond.instanceMethod yX4_existingPack, Cond.selects RX4 yX4_existingPack yX4_existingPack, Cond.code yX4_existingPack cX4_existingPack 2 (some (.object "LinkResolver$Pack")), Cond.classLink RX4 123 "java/lang/IndexOutOfBoundsException", Cond.initialized "java/lang/IndexOutOfBoundsException", Cond.fieldLink RX4 25 "LinkResolver" "packCount" "I", Cond.fieldLink RX4 17 "LinkResolver" "packs" "[LLinkResolver$Pack;", Cond.methodLink RX4 48 yX4_existingTitle, Cond.instanceMethod yX4_existingTitle, Cond.selects RX4 yX4_existingTitle yX4_existingTitle, Cond.code yX4_existingTitle cX4_existingTitle 2 (some (.object "LinkResolver$Title"))]
def wsL_come_r2 : List Cond := [Cond.fieldLink RX4 21 "LinkResolver" "titleCount" "I", Cond.fieldLink RX4 11 "LinkResolver" "titles" "[LLinkResolver$Title;", Cond.methodLink RX4 165 yX2_stayOf, Cond.instanceMethod yX2_stayOf, Cond.selects RX2 yX2_stayOf yX2_stayOf, Cond.initialized RX2, Cond.code yX2_stayOf cX2_stayOf 2 (some (.object "LinkResolver$History")), Cond.classLink RX2 36 "java/lang/IndexOutOfBoundsException", Cond.fieldLink RX2 32 "LinkResolver$Pack" "stays" "[LLinkResolver$History;", Cond.methodLink RX4 34 yX4_checkRange, Cond.static yX4_checkRange, Cond.code yX4_checkRange cX4_checkRange 3 none, Cond.classLink RX4 156 "java/lang/IllegalArgumentException", Cond.initialized "java/lang/IllegalArgumentException", Cond.methodLink RX4 72 yX1_isOnAt, Cond.instanceMethod yX1_isOnAt, Cond.selects RX1 yX1_isOnAt yX1_isOnAt, Cond.initialized RX1, Cond.code yX1_isOnAt cX1_isOnAt 3 (some .boolean), Cond.fieldLink RX1 34 "LinkResolver$Change" "years" "J", Cond.methodLink RX1 30 yX1_changeAt, Cond.instanceMethod yX1_changeAt, Cond.selects RX1 yX1_changeAt yX1_changeAt, Cond.code yX1_changeAt cX1_changeAt 3 (some (.object "LinkResolver$Change"))]
def wsL_come_r3 : List Cond := [Cond.fieldLink RX1 9 "LinkResolver$History" "newest" "LLinkResolver$Change;", Cond.fieldLink RX1 24 "LinkResolver$Change" "day" "I", Cond.fieldLink RX1 27 "LinkResolver$Change" "before" "LLinkResolver$Change;", Cond.methodLink RX4 88 yX4_yearsBetween, Cond.static yX4_yearsBetween, Cond.code yX4_yearsBetween cX4_yearsBetween 2 (some .long), Cond.methodLink RX4 80 yX4_change, Cond.instanceMethod yX4_change, Cond.selects RX4 yX4_change yX4_change, Cond.code yX4_change cX4_change 5 none, Cond.fieldLink RX4 28 "LinkResolver" "changeCount" "I", Cond.methodLink RX4 169 yX1_add, Cond.instanceMethod yX1_add, Cond.selects RX1 yX1_add yX1_add, Cond.code yX1_add cX1_add 5 none, Cond.classLink RX1 19 RX0, Cond.instantiable RX0 4, Cond.initialized RX0, Cond.methodLink RX1 21 yX0_init, Cond.instanceMethod yX0_init, Cond.code yX0_init cX0_init 6 none, Cond.methodLink RX0 1 objectInit, Cond.instanceMethod objectInit, Cond.code objectInit ⟨#[0xb1]⟩ 1 none]
def wsL_come_r4 : List Cond := [Cond.fieldLink RX0 7 "LinkResolver$Change" "day" "I", Cond.fieldLink RX0 13 "LinkResolver$Change" "years" "J", Cond.fieldLink RX0 17 "LinkResolver$Change" "wall" "I", Cond.fieldLink RX0 20 "LinkResolver$Change" "before" "LLinkResolver$Change;"]
def wsL_come : List Cond := .codeWith yL_come cL_come 8 (some .int) [(0, 23, 26, 20), (0, 23, 30, 13)] :: ((wsL_come_r1 ++ (wsL_come_r2 ++ (wsL_come_r3 ++ wsL_come_r4))) ++ wsX40 ++ wsX20 ++ wsX00 ++ wsX10 ++ (vx_atS RX4 127 "java/lang/IndexOutOfBoundsException" ["java/lang/RuntimeException", "java/lang/Exception"]).filter goodWord ++ (vx_atS RX2 40 "java/lang/IndexOutOfBoundsException" ["java/lang/RuntimeException", "java/lang/Exception"]).filter goodWord ++ (vx_atS RX4 160 "java/lang/IllegalArgumentException" ["java/lang/RuntimeException", "java/lang/Exception"]).filter goodWord)
def wsL_go_r1 : List Cond := [Cond.classLink RL 20 "java/lang/IndexOutOfBoundsException", Cond.classLink RL 15 "java/lang/IllegalStateException", Cond.methodLink RL 37 yX4_go, Cond.instanceMethod yX4_go, Cond.selects RX4 yX4_go yX4_go, Cond.initialized RX4, Cond.code yX4_go cX4_go 4 none, Cond.classLink RX4 38 "java/lang/IllegalStateException", Cond.initialized "java/lang/IllegalStateException", Cond.fieldLink RX4 31 "LinkResolver" "currentDay" "I", Cond.methodLink RX4 84 yX4_existingStay, Cond.instanceMethod yX4_existingStay, Cond.selects RX4 yX4_existingStay yX4_existingStay, Cond.code yX4_existingStay cX4_existingStay 4 (some (.object "LinkResolver$History")), Cond.methodLink RX4 64 yX4_existingPack, Cond.instanceMethod yX4_existingPack, Cond.selects RX4 yX4_existingPack yX4_existingPack, Cond.code yX4_existingPack cX4_existingPack 2 (some (.object "LinkResolver$Pack")), Cond.classLink RX4 123 "java/lang/IndexOutOfBoundsException", Cond.initialized "java/lang/IndexOutOfBoundsException", Cond.fieldLink RX4 25 "LinkResolver" "packCount" "I", Cond.fieldLink RX4 17 "LinkResolver" "packs" "[LLinkResolver$Pack;", Cond.methodLink RX4 48 yX4_existingTitle, Cond.instanceMethod yX4_existingTitle]
def wsL_go_r2 : List Cond := [Cond.selects RX4 yX4_existingTitle yX4_existingTitle, Cond.code yX4_existingTitle cX4_existingTitle 2 (some (.object "LinkResolver$Title")), Cond.fieldLink RX4 21 "LinkResolver" "titleCount" "I", Cond.fieldLink RX4 11 "LinkResolver" "titles" "[LLinkResolver$Title;", Cond.methodLink RX4 165 yX2_stayOf, Cond.instanceMethod yX2_stayOf, Cond.selects RX2 yX2_stayOf yX2_stayOf, Cond.initialized RX2, Cond.code yX2_stayOf cX2_stayOf 2 (some (.object "LinkResolver$History")), Cond.classLink RX2 36 "java/lang/IndexOutOfBoundsException", Cond.fieldLink RX2 32 "LinkResolver$Pack" "stays" "[LLinkResolver$History;", Cond.methodLink RX4 72 yX1_isOnAt, Cond.instanceMethod yX1_isOnAt, Cond.selects RX1 yX1_isOnAt yX1_isOnAt, Cond.initialized RX1, Cond.code yX1_isOnAt cX1_isOnAt 3 (some .boolean), Cond.fieldLink RX1 34 "LinkResolver$Change" "years" "J", Cond.methodLink RX1 30 yX1_changeAt, Cond.instanceMethod yX1_changeAt, Cond.selects RX1 yX1_changeAt yX1_changeAt, Cond.code yX1_changeAt cX1_changeAt 3 (some (.object "LinkResolver$Change")), Cond.fieldLink RX1 9 "LinkResolver$History" "newest" "LLinkResolver$Change;", Cond.fieldLink RX1 24 "LinkResolver$Change" "day" "I", Cond.fieldLink RX1 27 "LinkResolver$Change" "before" "LLinkResolver$Change;"]
def wsL_go_r3 : List Cond := [Cond.methodLink RX4 80 yX4_change, Cond.instanceMethod yX4_change, Cond.selects RX4 yX4_change yX4_change, Cond.code yX4_change cX4_change 5 none, Cond.fieldLink RX4 28 "LinkResolver" "changeCount" "I", Cond.methodLink RX4 169 yX1_add, Cond.instanceMethod yX1_add, Cond.selects RX1 yX1_add yX1_add, Cond.code yX1_add cX1_add 5 none, Cond.classLink RX1 19 RX0, Cond.instantiable RX0 4, Cond.initialized RX0, Cond.methodLink RX1 21 yX0_init, Cond.instanceMethod yX0_init, Cond.code yX0_init cX0_init 6 none, Cond.methodLink RX0 1 objectInit, Cond.instanceMethod objectInit, Cond.code objectInit ⟨#[0xb1]⟩ 1 none, Cond.fieldLink RX0 7 "LinkResolver$Change" "day" "I", Cond.fieldLink RX0 13 "LinkResolver$Change" "years" "J", Cond.fieldLink RX0 17 "LinkResolver$Change" "wall" "I", Cond.fieldLink RX0 20 "LinkResolver$Change" "before" "LLinkResolver$Change;"]
def wsL_go : List Cond := .codeWith yL_go cL_go 4 (some .int) [(0, 6, 9, 20), (0, 6, 12, 15)] :: ((wsL_go_r1 ++ (wsL_go_r2 ++ wsL_go_r3)) ++ wsX40 ++ wsX20 ++ wsX00 ++ wsX10 ++ (vx_atS RX4 42 "java/lang/IllegalStateException" ["java/lang/RuntimeException", "java/lang/Exception"]).filter goodWord ++ (vx_atS RX4 127 "java/lang/IndexOutOfBoundsException" ["java/lang/RuntimeException", "java/lang/Exception"]).filter goodWord ++ (vx_atS RX2 40 "java/lang/IndexOutOfBoundsException" ["java/lang/RuntimeException", "java/lang/Exception"]).filter goodWord)
def wsL_pass : List Cond := .codeWith yL_pass cL_pass 4 (some .int) [(0, 9, 12, 13), (0, 9, 15, 15)] :: ([.classLink RL 13 "java/lang/IllegalArgumentException", .classLink RL 15 "java/lang/IllegalStateException", .methodLink RL 41 yX4_pass, .instanceMethod yX4_pass, .selects RX4 yX4_pass yX4_pass, .initialized RX4, .code yX4_pass cX4_pass 2 (some .int), .classLink RX4 38 "java/lang/IllegalStateException", .initialized "java/lang/IllegalStateException", .fieldLink RX4 31 "LinkResolver" "currentDay" "I", .methodLink RX4 34 yX4_checkRange, .static yX4_checkRange, .code yX4_checkRange cX4_checkRange 3 none, .classLink RX4 156 "java/lang/IllegalArgumentException", .initialized "java/lang/IllegalArgumentException"] ++ wsX40 ++ (vx_atS RX4 42 "java/lang/IllegalStateException" ["java/lang/RuntimeException", "java/lang/Exception"]).filter goodWord ++ (vx_atS RX4 160 "java/lang/IllegalArgumentException" ["java/lang/RuntimeException", "java/lang/Exception"]).filter goodWord)
def wsL_isSubscribed_r1 : List Cond := [Cond.classLink RL 20 "java/lang/IndexOutOfBoundsException", Cond.classLink RL 13 "java/lang/IllegalArgumentException", Cond.methodLink RL 45 yX4_isSubscribed, Cond.instanceMethod yX4_isSubscribed, Cond.selects RX4 yX4_isSubscribed yX4_isSubscribed, Cond.initialized RX4, Cond.code yX4_isSubscribed cX4_isSubscribed 4 (some .boolean), Cond.fieldLink RX4 68 "LinkResolver$Pack" "subscription" "LLinkResolver$History;", Cond.fieldLink RX4 31 "LinkResolver" "currentDay" "I", Cond.methodLink RX4 64 yX4_existingPack, Cond.instanceMethod yX4_existingPack, Cond.selects RX4 yX4_existingPack yX4_existingPack, Cond.code yX4_existingPack cX4_existingPack 2 (some (.object "LinkResolver$Pack")), Cond.classLink RX4 123 "java/lang/IndexOutOfBoundsException", Cond.initialized "java/lang/IndexOutOfBoundsException", Cond.fieldLink RX4 25 "LinkResolver" "packCount" "I", Cond.fieldLink RX4 17 "LinkResolver" "packs" "[LLinkResolver$Pack;", Cond.methodLink RX4 34 yX4_checkRange, Cond.static yX4_checkRange, Cond.code yX4_checkRange cX4_checkRange 3 none, Cond.classLink RX4 156 "java/lang/IllegalArgumentException", Cond.initialized "java/lang/IllegalArgumentException", Cond.methodLink RX4 72 yX1_isOnAt, Cond.instanceMethod yX1_isOnAt]
def wsL_isSubscribed_r2 : List Cond := [Cond.selects RX1 yX1_isOnAt yX1_isOnAt, Cond.initialized RX1, Cond.code yX1_isOnAt cX1_isOnAt 3 (some .boolean), Cond.fieldLink RX1 34 "LinkResolver$Change" "years" "J", Cond.methodLink RX1 30 yX1_changeAt, Cond.instanceMethod yX1_changeAt, Cond.selects RX1 yX1_changeAt yX1_changeAt, Cond.code yX1_changeAt cX1_changeAt 3 (some (.object "LinkResolver$Change")), Cond.fieldLink RX1 9 "LinkResolver$History" "newest" "LLinkResolver$Change;", Cond.fieldLink RX1 24 "LinkResolver$Change" "day" "I", Cond.fieldLink RX1 27 "LinkResolver$Change" "before" "LLinkResolver$Change;"]
def wsL_isSubscribed : List Cond := .codeWith yL_isSubscribed cL_isSubscribed 5 (some .int) [(0, 17, 20, 20), (0, 17, 24, 13)] :: ((wsL_isSubscribed_r1 ++ wsL_isSubscribed_r2) ++ wsX20 ++ wsX40 ++ wsX00 ++ wsX10 ++ (vx_atS RX4 127 "java/lang/IndexOutOfBoundsException" ["java/lang/RuntimeException", "java/lang/Exception"]).filter goodWord ++ (vx_atS RX4 160 "java/lang/IllegalArgumentException" ["java/lang/RuntimeException", "java/lang/Exception"]).filter goodWord)
def wsL_isIn_r1 : List Cond := [Cond.classLink RL 20 "java/lang/IndexOutOfBoundsException", Cond.classLink RL 13 "java/lang/IllegalArgumentException", Cond.methodLink RL 49 yX4_isIn, Cond.instanceMethod yX4_isIn, Cond.selects RX4 yX4_isIn yX4_isIn, Cond.initialized RX4, Cond.code yX4_isIn cX4_isIn 5 (some .boolean), Cond.fieldLink RX4 31 "LinkResolver" "currentDay" "I", Cond.methodLink RX4 84 yX4_existingStay, Cond.instanceMethod yX4_existingStay, Cond.selects RX4 yX4_existingStay yX4_existingStay, Cond.code yX4_existingStay cX4_existingStay 4 (some (.object "LinkResolver$History")), Cond.methodLink RX4 64 yX4_existingPack, Cond.instanceMethod yX4_existingPack, Cond.selects RX4 yX4_existingPack yX4_existingPack, Cond.code yX4_existingPack cX4_existingPack 2 (some (.object "LinkResolver$Pack")), Cond.classLink RX4 123 "java/lang/IndexOutOfBoundsException", Cond.initialized "java/lang/IndexOutOfBoundsException", Cond.fieldLink RX4 25 "LinkResolver" "packCount" "I", Cond.fieldLink RX4 17 "LinkResolver" "packs" "[LLinkResolver$Pack;", Cond.methodLink RX4 48 yX4_existingTitle, Cond.instanceMethod yX4_existingTitle, Cond.selects RX4 yX4_existingTitle yX4_existingTitle, Cond.code yX4_existingTitle cX4_existingTitle 2 (some (.object "LinkResolver$Title"))]
def wsL_isIn_r2 : List Cond := [Cond.fieldLink RX4 21 "LinkResolver" "titleCount" "I", Cond.fieldLink RX4 11 "LinkResolver" "titles" "[LLinkResolver$Title;", Cond.methodLink RX4 165 yX2_stayOf, Cond.instanceMethod yX2_stayOf, Cond.selects RX2 yX2_stayOf yX2_stayOf, Cond.initialized RX2, Cond.code yX2_stayOf cX2_stayOf 2 (some (.object "LinkResolver$History")), Cond.classLink RX2 36 "java/lang/IndexOutOfBoundsException", Cond.fieldLink RX2 32 "LinkResolver$Pack" "stays" "[LLinkResolver$History;", Cond.methodLink RX4 34 yX4_checkRange, Cond.static yX4_checkRange, Cond.code yX4_checkRange cX4_checkRange 3 none, Cond.classLink RX4 156 "java/lang/IllegalArgumentException", Cond.initialized "java/lang/IllegalArgumentException", Cond.methodLink RX4 72 yX1_isOnAt, Cond.instanceMethod yX1_isOnAt, Cond.selects RX1 yX1_isOnAt yX1_isOnAt, Cond.initialized RX1, Cond.code yX1_isOnAt cX1_isOnAt 3 (some .boolean), Cond.fieldLink RX1 34 "LinkResolver$Change" "years" "J", Cond.methodLink RX1 30 yX1_changeAt, Cond.instanceMethod yX1_changeAt, Cond.selects RX1 yX1_changeAt yX1_changeAt, Cond.code yX1_changeAt cX1_changeAt 3 (some (.object "LinkResolver$Change"))]
def wsL_isIn_r3 : List Cond := [Cond.fieldLink RX1 9 "LinkResolver$History" "newest" "LLinkResolver$Change;", Cond.fieldLink RX1 24 "LinkResolver$Change" "day" "I", Cond.fieldLink RX1 27 "LinkResolver$Change" "before" "LLinkResolver$Change;"]
def wsL_isIn : List Cond := .codeWith yL_isIn cL_isIn 6 (some .int) [(0, 19, 22, 20), (0, 19, 26, 13)] :: ((wsL_isIn_r1 ++ (wsL_isIn_r2 ++ wsL_isIn_r3)) ++ wsX40 ++ wsX20 ++ wsX00 ++ wsX10 ++ (vx_atS RX4 127 "java/lang/IndexOutOfBoundsException" ["java/lang/RuntimeException", "java/lang/Exception"]).filter goodWord ++ (vx_atS RX2 40 "java/lang/IndexOutOfBoundsException" ["java/lang/RuntimeException", "java/lang/Exception"]).filter goodWord ++ (vx_atS RX4 160 "java/lang/IllegalArgumentException" ["java/lang/RuntimeException", "java/lang/Exception"]).filter goodWord)
def wsL_report_r1 : List Cond := [Cond.classLink RL 20 "java/lang/IndexOutOfBoundsException", Cond.methodLink RL 53 yX4_report, Cond.instanceMethod yX4_report, Cond.selects RX4 yX4_report yX4_report, Cond.initialized RX4, Cond.code yX4_report cX4_report 4 (some .int), Cond.fieldLink RX4 96 "LinkResolver$History" "breaks" "I", Cond.methodLink RX4 84 yX4_existingStay, Cond.instanceMethod yX4_existingStay, Cond.selects RX4 yX4_existingStay yX4_existingStay, Cond.code yX4_existingStay cX4_existingStay 4 (some (.object "LinkResolver$History")), Cond.methodLink RX4 64 yX4_existingPack, Cond.instanceMethod yX4_existingPack, Cond.selects RX4 yX4_existingPack yX4_existingPack, Cond.code yX4_existingPack cX4_existingPack 2 (some (.object "LinkResolver$Pack")), Cond.classLink RX4 123 "java/lang/IndexOutOfBoundsException", Cond.initialized "java/lang/IndexOutOfBoundsException", Cond.fieldLink RX4 25 "LinkResolver" "packCount" "I", Cond.fieldLink RX4 17 "LinkResolver" "packs" "[LLinkResolver$Pack;", Cond.methodLink RX4 48 yX4_existingTitle, Cond.instanceMethod yX4_existingTitle, Cond.selects RX4 yX4_existingTitle yX4_existingTitle, Cond.code yX4_existingTitle cX4_existingTitle 2 (some (.object "LinkResolver$Title")), Cond.fieldLink RX4 21 "LinkResolver" "titleCount" "I"]
def wsL_report_r2 : List Cond := [Cond.fieldLink RX4 11 "LinkResolver" "titles" "[LLinkResolver$Title;", Cond.methodLink RX4 165 yX2_stayOf, Cond.instanceMethod yX2_stayOf, Cond.selects RX2 yX2_stayOf yX2_stayOf, Cond.initialized RX2, Cond.code yX2_stayOf cX2_stayOf 2 (some (.object "LinkResolver$History")), Cond.classLink RX2 36 "java/lang/IndexOutOfBoundsException", Cond.fieldLink RX2 32 "LinkResolver$Pack" "stays" "[LLinkResolver$History;"]
def wsL_report : List Cond := .codeWith yL_report cL_report 5 (some .int) [(0, 10, 13, 20)] :: ((wsL_report_r1 ++ wsL_report_r2) ++ wsX10 ++ wsX40 ++ wsX20 ++ (vx_atS RX4 127 "java/lang/IndexOutOfBoundsException" ["java/lang/RuntimeException", "java/lang/Exception"]).filter goodWord ++ (vx_atS RX2 40 "java/lang/IndexOutOfBoundsException" ["java/lang/RuntimeException", "java/lang/Exception"]).filter goodWord)
def wsL_mend_r1 : List Cond := [Cond.classLink RL 20 "java/lang/IndexOutOfBoundsException", Cond.methodLink RL 56 yX4_mend, Cond.instanceMethod yX4_mend, Cond.selects RX4 yX4_mend yX4_mend, Cond.initialized RX4, Cond.code yX4_mend cX4_mend 5 (some .int), Cond.fieldLink RX4 96 "LinkResolver$History" "breaks" "I", Cond.methodLink RX4 84 yX4_existingStay, Cond.instanceMethod yX4_existingStay, Cond.selects RX4 yX4_existingStay yX4_existingStay, Cond.code yX4_existingStay cX4_existingStay 4 (some (.object "LinkResolver$History")), Cond.methodLink RX4 64 yX4_existingPack, Cond.instanceMethod yX4_existingPack, Cond.selects RX4 yX4_existingPack yX4_existingPack, Cond.code yX4_existingPack cX4_existingPack 2 (some (.object "LinkResolver$Pack")), Cond.classLink RX4 123 "java/lang/IndexOutOfBoundsException", Cond.initialized "java/lang/IndexOutOfBoundsException", Cond.fieldLink RX4 25 "LinkResolver" "packCount" "I", Cond.fieldLink RX4 17 "LinkResolver" "packs" "[LLinkResolver$Pack;", Cond.methodLink RX4 48 yX4_existingTitle, Cond.instanceMethod yX4_existingTitle, Cond.selects RX4 yX4_existingTitle yX4_existingTitle, Cond.code yX4_existingTitle cX4_existingTitle 2 (some (.object "LinkResolver$Title")), Cond.fieldLink RX4 21 "LinkResolver" "titleCount" "I"]
def wsL_mend_r2 : List Cond := [Cond.fieldLink RX4 11 "LinkResolver" "titles" "[LLinkResolver$Title;", Cond.methodLink RX4 165 yX2_stayOf, Cond.instanceMethod yX2_stayOf, Cond.selects RX2 yX2_stayOf yX2_stayOf, Cond.initialized RX2, Cond.code yX2_stayOf cX2_stayOf 2 (some (.object "LinkResolver$History")), Cond.classLink RX2 36 "java/lang/IndexOutOfBoundsException", Cond.fieldLink RX2 32 "LinkResolver$Pack" "stays" "[LLinkResolver$History;"]
def wsL_mend : List Cond := .codeWith yL_mend cL_mend 5 (some .int) [(0, 10, 13, 20)] :: ((wsL_mend_r1 ++ wsL_mend_r2) ++ wsX10 ++ wsX40 ++ wsX20 ++ (vx_atS RX4 127 "java/lang/IndexOutOfBoundsException" ["java/lang/RuntimeException", "java/lang/Exception"]).filter goodWord ++ (vx_atS RX2 40 "java/lang/IndexOutOfBoundsException" ["java/lang/RuntimeException", "java/lang/Exception"]).filter goodWord)
def wsL_covers_r1 : List Cond := [Cond.classLink RL 20 "java/lang/IndexOutOfBoundsException", Cond.classLink RL 13 "java/lang/IllegalArgumentException", Cond.methodLink RL 59 yX4_covers, Cond.instanceMethod yX4_covers, Cond.selects RX4 yX4_covers yX4_covers, Cond.initialized RX4, Cond.code yX4_covers cX4_covers 7 (some .boolean), Cond.methodLink RX4 64 yX4_existingPack, Cond.instanceMethod yX4_existingPack, Cond.selects RX4 yX4_existingPack yX4_existingPack, Cond.code yX4_existingPack cX4_existingPack 2 (some (.object "LinkResolver$Pack")), Cond.classLink RX4 123 "java/lang/IndexOutOfBoundsException", Cond.initialized "java/lang/IndexOutOfBoundsException", Cond.fieldLink RX4 25 "LinkResolver" "packCount" "I", Cond.fieldLink RX4 17 "LinkResolver" "packs" "[LLinkResolver$Pack;", Cond.methodLink RX4 48 yX4_existingTitle, Cond.instanceMethod yX4_existingTitle, Cond.selects RX4 yX4_existingTitle yX4_existingTitle, Cond.code yX4_existingTitle cX4_existingTitle 2 (some (.object "LinkResolver$Title")), Cond.fieldLink RX4 21 "LinkResolver" "titleCount" "I", Cond.fieldLink RX4 11 "LinkResolver" "titles" "[LLinkResolver$Title;", Cond.methodLink RX4 99 yX4_checkArticle, Cond.instanceMethod yX4_checkArticle, Cond.selects RX4 yX4_checkArticle yX4_checkArticle]
def wsL_covers_r2 : List Cond := [Cond.code yX4_checkArticle cX4_checkArticle 4 none, Cond.fieldLink RX4 31 "LinkResolver" "currentDay" "I", Cond.methodLink RX4 34 yX4_checkRange, Cond.static yX4_checkRange, Cond.code yX4_checkRange cX4_checkRange 3 none, Cond.classLink RX4 156 "java/lang/IllegalArgumentException", Cond.initialized "java/lang/IllegalArgumentException", Cond.methodLink RX4 102 yX4_isWay, Cond.static yX4_isWay, Cond.code yX4_isWay cX4_isWay 5 (some .boolean), Cond.methodLink RX4 142 yX2_letsIn, Cond.instanceMethod yX2_letsIn, Cond.selects RX2 yX2_letsIn yX2_letsIn, Cond.initialized RX2, Cond.code yX2_letsIn cX2_letsIn 2 (some .boolean), Cond.fieldLink RX2 18 "LinkResolver$Pack" "groups" "I", Cond.methodLink RX4 145 yX2_yearsCovered, Cond.instanceMethod yX2_yearsCovered, Cond.selects RX2 yX2_yearsCovered yX2_yearsCovered, Cond.code yX2_yearsCovered cX2_yearsCovered 3 (some .long), Cond.methodLink RX2 50 yX2_yearsOpen, Cond.instanceMethod yX2_yearsOpen, Cond.selects RX2 yX2_yearsOpen yX2_yearsOpen, Cond.code yX2_yearsOpen cX2_yearsOpen 3 (some .long)]
def wsL_covers_r3 : List Cond := [Cond.fieldLink RX2 28 "LinkResolver$Pack" "subscription" "LLinkResolver$History;", Cond.methodLink RX2 43 yX2_stayOf, Cond.instanceMethod yX2_stayOf, Cond.selects RX2 yX2_stayOf yX2_stayOf, Cond.code yX2_stayOf cX2_stayOf 2 (some (.object "LinkResolver$History")), Cond.classLink RX2 36 "java/lang/IndexOutOfBoundsException", Cond.fieldLink RX2 32 "LinkResolver$Pack" "stays" "[LLinkResolver$History;", Cond.methodLink RX2 57 yX1_yearsOpen, Cond.instanceMethod yX1_yearsOpen, Cond.selects RX1 yX1_yearsOpen yX1_yearsOpen, Cond.initialized RX1, Cond.code yX1_yearsOpen cX1_yearsOpen 3 (some .long), Cond.fieldLink RX1 34 "LinkResolver$Change" "years" "J", Cond.fieldLink RX1 38 "LinkResolver$Change" "wall" "I", Cond.methodLink RX1 30 yX1_changeAt, Cond.instanceMethod yX1_changeAt, Cond.selects RX1 yX1_changeAt yX1_changeAt, Cond.code yX1_changeAt cX1_changeAt 3 (some (.object "LinkResolver$Change")), Cond.fieldLink RX1 9 "LinkResolver$History" "newest" "LLinkResolver$Change;", Cond.fieldLink RX1 24 "LinkResolver$Change" "day" "I", Cond.fieldLink RX1 27 "LinkResolver$Change" "before" "LLinkResolver$Change;", Cond.static yX4_yearsBetween, Cond.code yX4_yearsBetween cX4_yearsBetween 2 (some .long), Cond.methodLink RX2 54 yX2_yearsKept]
def wsL_covers_r4 : List Cond := [Cond.instanceMethod yX2_yearsKept, Cond.selects RX2 yX2_yearsKept yX2_yearsKept, Cond.code yX2_yearsKept cX2_yearsKept 5 (some .long), Cond.fieldLink RX2 21 "LinkResolver$Pack" "isKeeping" "Z", Cond.methodLink RX2 60 yX1_yearsKept, Cond.instanceMethod yX1_yearsKept, Cond.selects RX1 yX1_yearsKept yX1_yearsKept, Cond.code yX1_yearsKept cX1_yearsKept 10 (some .long), Cond.methodLink RX1 45 Lib.Math.min.name, Cond.static Lib.Math.min.name, Cond.initialized "java/lang/Math", Cond.code Lib.Math.min.name Lib.Math.min.code 2 (some .int), Cond.methodLink RX4 138 yX4_hasYear, Cond.static yX4_hasYear, Cond.code yX4_hasYear cX4_hasYear 3 (some .boolean)]
def wsL_covers : List Cond := .codeWith yL_covers cL_covers 8 (some .int) [(0, 23, 26, 20), (0, 23, 30, 13)] :: ((wsL_covers_r1 ++ (wsL_covers_r2 ++ (wsL_covers_r3 ++ wsL_covers_r4))) ++ wsX40 ++ wsX20 ++ wsX00 ++ wsX10 ++ (vx_atS RX4 127 "java/lang/IndexOutOfBoundsException" ["java/lang/RuntimeException", "java/lang/Exception"]).filter goodWord ++ (vx_atS RX4 160 "java/lang/IllegalArgumentException" ["java/lang/RuntimeException", "java/lang/Exception"]).filter goodWord ++ (vx_atS RX2 40 "java/lang/IndexOutOfBoundsException" ["java/lang/RuntimeException", "java/lang/Exception"]).filter goodWord)
def wsL_ways_r1 : List Cond := [Cond.classLink RL 20 "java/lang/IndexOutOfBoundsException", Cond.classLink RL 13 "java/lang/IllegalArgumentException", Cond.methodLink RL 62 yX4_ways, Cond.instanceMethod yX4_ways, Cond.selects RX4 yX4_ways yX4_ways, Cond.initialized RX4, Cond.code yX4_ways cX4_ways 5 (some .int), Cond.methodLink RX4 48 yX4_existingTitle, Cond.instanceMethod yX4_existingTitle, Cond.selects RX4 yX4_existingTitle yX4_existingTitle, Cond.code yX4_existingTitle cX4_existingTitle 2 (some (.object "LinkResolver$Title")), Cond.classLink RX4 123 "java/lang/IndexOutOfBoundsException", Cond.initialized "java/lang/IndexOutOfBoundsException", Cond.fieldLink RX4 21 "LinkResolver" "titleCount" "I", Cond.fieldLink RX4 11 "LinkResolver" "titles" "[LLinkResolver$Title;", Cond.methodLink RX4 99 yX4_checkArticle, Cond.instanceMethod yX4_checkArticle, Cond.selects RX4 yX4_checkArticle yX4_checkArticle, Cond.code yX4_checkArticle cX4_checkArticle 4 none, Cond.fieldLink RX4 31 "LinkResolver" "currentDay" "I", Cond.methodLink RX4 34 yX4_checkRange, Cond.static yX4_checkRange, Cond.code yX4_checkRange cX4_checkRange 3 none, Cond.classLink RX4 156 "java/lang/IllegalArgumentException"]
def wsL_ways_r2 : List Cond := [Cond.initialized "java/lang/IllegalArgumentException", Cond.methodLink RX4 106 yX4_waysTo, Cond.instanceMethod yX4_waysTo, Cond.selects RX4 yX4_waysTo yX4_waysTo, Cond.code yX4_waysTo cX4_waysTo 7 (some .int), Cond.fieldLink RX4 25 "LinkResolver" "packCount" "I", Cond.methodLink RX4 64 yX4_existingPack, Cond.instanceMethod yX4_existingPack, Cond.selects RX4 yX4_existingPack yX4_existingPack, Cond.code yX4_existingPack cX4_existingPack 2 (some (.object "LinkResolver$Pack")), Cond.fieldLink RX4 17 "LinkResolver" "packs" "[LLinkResolver$Pack;", Cond.methodLink RX4 102 yX4_isWay, Cond.static yX4_isWay, Cond.code yX4_isWay cX4_isWay 5 (some .boolean), Cond.methodLink RX4 142 yX2_letsIn, Cond.instanceMethod yX2_letsIn, Cond.selects RX2 yX2_letsIn yX2_letsIn, Cond.initialized RX2, Cond.code yX2_letsIn cX2_letsIn 2 (some .boolean), Cond.fieldLink RX2 18 "LinkResolver$Pack" "groups" "I", Cond.methodLink RX4 145 yX2_yearsCovered, Cond.instanceMethod yX2_yearsCovered, Cond.selects RX2 yX2_yearsCovered yX2_yearsCovered, Cond.code yX2_yearsCovered cX2_yearsCovered 3 (some .long)]
def wsL_ways_r3 : List Cond := [Cond.methodLink RX2 50 yX2_yearsOpen, Cond.instanceMethod yX2_yearsOpen, Cond.selects RX2 yX2_yearsOpen yX2_yearsOpen, Cond.code yX2_yearsOpen cX2_yearsOpen 3 (some .long), Cond.fieldLink RX2 28 "LinkResolver$Pack" "subscription" "LLinkResolver$History;", Cond.methodLink RX2 43 yX2_stayOf, Cond.instanceMethod yX2_stayOf, Cond.selects RX2 yX2_stayOf yX2_stayOf, Cond.code yX2_stayOf cX2_stayOf 2 (some (.object "LinkResolver$History")), Cond.classLink RX2 36 "java/lang/IndexOutOfBoundsException", Cond.fieldLink RX2 32 "LinkResolver$Pack" "stays" "[LLinkResolver$History;", Cond.methodLink RX2 57 yX1_yearsOpen, Cond.instanceMethod yX1_yearsOpen, Cond.selects RX1 yX1_yearsOpen yX1_yearsOpen, Cond.initialized RX1, Cond.code yX1_yearsOpen cX1_yearsOpen 3 (some .long), Cond.fieldLink RX1 34 "LinkResolver$Change" "years" "J", Cond.fieldLink RX1 38 "LinkResolver$Change" "wall" "I", Cond.methodLink RX1 30 yX1_changeAt, Cond.instanceMethod yX1_changeAt, Cond.selects RX1 yX1_changeAt yX1_changeAt, Cond.code yX1_changeAt cX1_changeAt 3 (some (.object "LinkResolver$Change")), Cond.fieldLink RX1 9 "LinkResolver$History" "newest" "LLinkResolver$Change;", Cond.fieldLink RX1 24 "LinkResolver$Change" "day" "I"]
def wsL_ways_r4 : List Cond := [Cond.fieldLink RX1 27 "LinkResolver$Change" "before" "LLinkResolver$Change;", Cond.static yX4_yearsBetween, Cond.code yX4_yearsBetween cX4_yearsBetween 2 (some .long), Cond.methodLink RX2 54 yX2_yearsKept, Cond.instanceMethod yX2_yearsKept, Cond.selects RX2 yX2_yearsKept yX2_yearsKept, Cond.code yX2_yearsKept cX2_yearsKept 5 (some .long), Cond.fieldLink RX2 21 "LinkResolver$Pack" "isKeeping" "Z", Cond.methodLink RX2 60 yX1_yearsKept, Cond.instanceMethod yX1_yearsKept, Cond.selects RX1 yX1_yearsKept yX1_yearsKept, Cond.code yX1_yearsKept cX1_yearsKept 10 (some .long), Cond.methodLink RX1 45 Lib.Math.min.name, Cond.static Lib.Math.min.name, Cond.initialized "java/lang/Math", Cond.code Lib.Math.min.name Lib.Math.min.code 2 (some .int), Cond.methodLink RX4 138 yX4_hasYear, Cond.static yX4_hasYear, Cond.code yX4_hasYear cX4_hasYear 3 (some .boolean), Cond.methodLink RX4 110 yJ6_bitCount_0f7a4, Cond.static yJ6_bitCount_0f7a4, Cond.initialized RJ6, Cond.code yJ6_bitCount_0f7a4 cJ6_bitCount_0f7a4 1 (some .int), Cond.constant RJ6 265 (1431655765)]
def wsL_ways_r5 : List Cond := [Cond.constant RJ6 266 (858993459), Cond.constant RJ6 267 (252645135)]
def wsL_ways : List Cond := .codeWith yL_ways cL_ways 7 (some .int) [(0, 14, 17, 20), (0, 14, 21, 13)] :: ((wsL_ways_r1 ++ (wsL_ways_r2 ++ (wsL_ways_r3 ++ (wsL_ways_r4 ++ wsL_ways_r5)))) ++ wsX40 ++ wsX20 ++ wsX00 ++ wsX10 ++ (vx_atS RX4 127 "java/lang/IndexOutOfBoundsException" ["java/lang/RuntimeException", "java/lang/Exception"]).filter goodWord ++ (vx_atS RX4 160 "java/lang/IllegalArgumentException" ["java/lang/RuntimeException", "java/lang/Exception"]).filter goodWord ++ (vx_atS RX2 40 "java/lang/IndexOutOfBoundsException" ["java/lang/RuntimeException", "java/lang/Exception"]).filter goodWord)
def wsL_wayAt_r1 : List Cond := [Cond.classLink RL 13 "java/lang/IllegalArgumentException", Cond.classLink RL 20 "java/lang/IndexOutOfBoundsException", Cond.methodLink RL 65 yX4_wayAt, Cond.instanceMethod yX4_wayAt, Cond.selects RX4 yX4_wayAt yX4_wayAt, Cond.initialized RX4, Cond.code yX4_wayAt cX4_wayAt 8 (some .int), Cond.classLink RX4 123 "java/lang/IndexOutOfBoundsException", Cond.initialized "java/lang/IndexOutOfBoundsException", Cond.fieldLink RX4 25 "LinkResolver" "packCount" "I", Cond.methodLink RX4 99 yX4_checkArticle, Cond.instanceMethod yX4_checkArticle, Cond.selects RX4 yX4_checkArticle yX4_checkArticle, Cond.code yX4_checkArticle cX4_checkArticle 4 none, Cond.fieldLink RX4 31 "LinkResolver" "currentDay" "I", Cond.methodLink RX4 34 yX4_checkRange, Cond.static yX4_checkRange, Cond.code yX4_checkRange cX4_checkRange 3 none, Cond.classLink RX4 156 "java/lang/IllegalArgumentException", Cond.initialized "java/lang/IllegalArgumentException", Cond.methodLink RX4 48 yX4_existingTitle, Cond.instanceMethod yX4_existingTitle, Cond.selects RX4 yX4_existingTitle yX4_existingTitle, Cond.code yX4_existingTitle cX4_existingTitle 2 (some (.object "LinkResolver$Title"))]
def wsL_wayAt_r2 : List Cond := [Cond.fieldLink RX4 21 "LinkResolver" "titleCount" "I", Cond.fieldLink RX4 11 "LinkResolver" "titles" "[LLinkResolver$Title;", Cond.methodLink RX4 106 yX4_waysTo, Cond.instanceMethod yX4_waysTo, Cond.selects RX4 yX4_waysTo yX4_waysTo, Cond.code yX4_waysTo cX4_waysTo 7 (some .int), Cond.methodLink RX4 64 yX4_existingPack, Cond.instanceMethod yX4_existingPack, Cond.selects RX4 yX4_existingPack yX4_existingPack, Cond.code yX4_existingPack cX4_existingPack 2 (some (.object "LinkResolver$Pack")), Cond.fieldLink RX4 17 "LinkResolver" "packs" "[LLinkResolver$Pack;", Cond.methodLink RX4 102 yX4_isWay, Cond.static yX4_isWay, Cond.code yX4_isWay cX4_isWay 5 (some .boolean), Cond.methodLink RX4 142 yX2_letsIn, Cond.instanceMethod yX2_letsIn, Cond.selects RX2 yX2_letsIn yX2_letsIn, Cond.initialized RX2, Cond.code yX2_letsIn cX2_letsIn 2 (some .boolean), Cond.fieldLink RX2 18 "LinkResolver$Pack" "groups" "I", Cond.methodLink RX4 145 yX2_yearsCovered, Cond.instanceMethod yX2_yearsCovered, Cond.selects RX2 yX2_yearsCovered yX2_yearsCovered, Cond.code yX2_yearsCovered cX2_yearsCovered 3 (some .long)]
def wsL_wayAt_r3 : List Cond := [Cond.methodLink RX2 50 yX2_yearsOpen, Cond.instanceMethod yX2_yearsOpen, Cond.selects RX2 yX2_yearsOpen yX2_yearsOpen, Cond.code yX2_yearsOpen cX2_yearsOpen 3 (some .long), Cond.fieldLink RX2 28 "LinkResolver$Pack" "subscription" "LLinkResolver$History;", Cond.methodLink RX2 43 yX2_stayOf, Cond.instanceMethod yX2_stayOf, Cond.selects RX2 yX2_stayOf yX2_stayOf, Cond.code yX2_stayOf cX2_stayOf 2 (some (.object "LinkResolver$History")), Cond.classLink RX2 36 "java/lang/IndexOutOfBoundsException", Cond.fieldLink RX2 32 "LinkResolver$Pack" "stays" "[LLinkResolver$History;", Cond.methodLink RX2 57 yX1_yearsOpen, Cond.instanceMethod yX1_yearsOpen, Cond.selects RX1 yX1_yearsOpen yX1_yearsOpen, Cond.initialized RX1, Cond.code yX1_yearsOpen cX1_yearsOpen 3 (some .long), Cond.fieldLink RX1 34 "LinkResolver$Change" "years" "J", Cond.fieldLink RX1 38 "LinkResolver$Change" "wall" "I", Cond.methodLink RX1 30 yX1_changeAt, Cond.instanceMethod yX1_changeAt, Cond.selects RX1 yX1_changeAt yX1_changeAt, Cond.code yX1_changeAt cX1_changeAt 3 (some (.object "LinkResolver$Change")), Cond.fieldLink RX1 9 "LinkResolver$History" "newest" "LLinkResolver$Change;", Cond.fieldLink RX1 24 "LinkResolver$Change" "day" "I"]
def wsL_wayAt_r4 : List Cond := [Cond.fieldLink RX1 27 "LinkResolver$Change" "before" "LLinkResolver$Change;", Cond.static yX4_yearsBetween, Cond.code yX4_yearsBetween cX4_yearsBetween 2 (some .long), Cond.methodLink RX2 54 yX2_yearsKept, Cond.instanceMethod yX2_yearsKept, Cond.selects RX2 yX2_yearsKept yX2_yearsKept, Cond.code yX2_yearsKept cX2_yearsKept 5 (some .long), Cond.fieldLink RX2 21 "LinkResolver$Pack" "isKeeping" "Z", Cond.methodLink RX2 60 yX1_yearsKept, Cond.instanceMethod yX1_yearsKept, Cond.selects RX1 yX1_yearsKept yX1_yearsKept, Cond.code yX1_yearsKept cX1_yearsKept 10 (some .long), Cond.methodLink RX1 45 Lib.Math.min.name, Cond.static Lib.Math.min.name, Cond.initialized "java/lang/Math", Cond.code Lib.Math.min.name Lib.Math.min.code 2 (some .int), Cond.methodLink RX4 138 yX4_hasYear, Cond.static yX4_hasYear, Cond.code yX4_hasYear cX4_hasYear 3 (some .boolean), Cond.methodLink RX4 115 yX4_isAmong, Cond.static yX4_isAmong, Cond.code yX4_isAmong cX4_isAmong 2 (some .boolean), Cond.methodLink RX4 119 yX4_placeAmong, Cond.instanceMethod yX4_placeAmong]
def wsL_wayAt_r5 : List Cond := [Cond.selects RX4 yX4_placeAmong yX4_placeAmong, Cond.code yX4_placeAmong cX4_placeAmong 6 (some .int), Cond.methodLink RX4 173 yX4_isAhead, Cond.instanceMethod yX4_isAhead, Cond.selects RX4 yX4_isAhead yX4_isAhead, Cond.code yX4_isAhead cX4_isAhead 7 (some .boolean), Cond.fieldLink RX4 180 "LinkResolver$Pack" "cost" "I", Cond.fieldLink RX4 183 "LinkResolver$Pack" "version" "I", Cond.methodLink RX4 177 yX2_isBroken, Cond.instanceMethod yX2_isBroken, Cond.selects RX2 yX2_isBroken yX2_isBroken, Cond.code yX2_isBroken cX2_isBroken 2 (some .boolean), Cond.fieldLink RX2 47 "LinkResolver$History" "breaks" "I"]
def wsL_wayAt : List Cond := .codeWith yL_wayAt cL_wayAt 8 (some .int) [(0, 16, 19, 13), (0, 16, 23, 20)] :: ((wsL_wayAt_r1 ++ (wsL_wayAt_r2 ++ (wsL_wayAt_r3 ++ (wsL_wayAt_r4 ++ wsL_wayAt_r5)))) ++ wsX40 ++ wsX20 ++ wsX00 ++ wsX10 ++ (vx_atS RX4 127 "java/lang/IndexOutOfBoundsException" ["java/lang/RuntimeException", "java/lang/Exception"]).filter goodWord ++ (vx_atS RX4 160 "java/lang/IllegalArgumentException" ["java/lang/RuntimeException", "java/lang/Exception"]).filter goodWord ++ (vx_atS RX2 40 "java/lang/IndexOutOfBoundsException" ["java/lang/RuntimeException", "java/lang/Exception"]).filter goodWord)
def wsL_gap_r1 : List Cond := [Cond.classLink RL 20 "java/lang/IndexOutOfBoundsException", Cond.classLink RL 13 "java/lang/IllegalArgumentException", Cond.methodLink RL 69 yX4_gap, Cond.instanceMethod yX4_gap, Cond.selects RX4 yX4_gap yX4_gap, Cond.initialized RX4, Cond.code yX4_gap cX4_gap 7 (some .int), Cond.constantLong RX4 136 (-1), Cond.fieldLink RX4 56 "LinkResolver$Title" "firstYear" "I", Cond.methodLink RX4 48 yX4_existingTitle, Cond.instanceMethod yX4_existingTitle, Cond.selects RX4 yX4_existingTitle yX4_existingTitle, Cond.code yX4_existingTitle cX4_existingTitle 2 (some (.object "LinkResolver$Title")), Cond.classLink RX4 123 "java/lang/IndexOutOfBoundsException", Cond.initialized "java/lang/IndexOutOfBoundsException", Cond.fieldLink RX4 21 "LinkResolver" "titleCount" "I", Cond.fieldLink RX4 11 "LinkResolver" "titles" "[LLinkResolver$Title;", Cond.methodLink RX4 34 yX4_checkRange, Cond.static yX4_checkRange, Cond.code yX4_checkRange cX4_checkRange 3 none, Cond.classLink RX4 156 "java/lang/IllegalArgumentException", Cond.initialized "java/lang/IllegalArgumentException", Cond.methodLink RX4 128 yX4_yearsSoFar, Cond.instanceMethod yX4_yearsSoFar]
def wsL_gap_r2 : List Cond := [Cond.selects RX4 yX4_yearsSoFar yX4_yearsSoFar, Cond.code yX4_yearsSoFar cX4_yearsSoFar 2 (some .long), Cond.fieldLink RX4 31 "LinkResolver" "currentDay" "I", Cond.methodLink RX4 88 yX4_yearsBetween, Cond.static yX4_yearsBetween, Cond.code yX4_yearsBetween cX4_yearsBetween 2 (some .long), Cond.methodLink RX4 132 yX4_yearsCoveredButBy, Cond.instanceMethod yX4_yearsCoveredButBy, Cond.selects RX4 yX4_yearsCoveredButBy yX4_yearsCoveredButBy, Cond.code yX4_yearsCoveredButBy cX4_yearsCoveredButBy 8 (some .long), Cond.fieldLink RX4 25 "LinkResolver" "packCount" "I", Cond.methodLink RX4 64 yX4_existingPack, Cond.instanceMethod yX4_existingPack, Cond.selects RX4 yX4_existingPack yX4_existingPack, Cond.code yX4_existingPack cX4_existingPack 2 (some (.object "LinkResolver$Pack")), Cond.fieldLink RX4 17 "LinkResolver" "packs" "[LLinkResolver$Pack;", Cond.methodLink RX4 142 yX2_letsIn, Cond.instanceMethod yX2_letsIn, Cond.selects RX2 yX2_letsIn yX2_letsIn, Cond.initialized RX2, Cond.code yX2_letsIn cX2_letsIn 2 (some .boolean), Cond.fieldLink RX2 18 "LinkResolver$Pack" "groups" "I", Cond.methodLink RX4 145 yX2_yearsCovered, Cond.instanceMethod yX2_yearsCovered]
def wsL_gap_r3 : List Cond := [Cond.selects RX2 yX2_yearsCovered yX2_yearsCovered, Cond.code yX2_yearsCovered cX2_yearsCovered 3 (some .long), Cond.methodLink RX2 50 yX2_yearsOpen, Cond.instanceMethod yX2_yearsOpen, Cond.selects RX2 yX2_yearsOpen yX2_yearsOpen, Cond.code yX2_yearsOpen cX2_yearsOpen 3 (some .long), Cond.fieldLink RX2 28 "LinkResolver$Pack" "subscription" "LLinkResolver$History;", Cond.methodLink RX2 43 yX2_stayOf, Cond.instanceMethod yX2_stayOf, Cond.selects RX2 yX2_stayOf yX2_stayOf, Cond.code yX2_stayOf cX2_stayOf 2 (some (.object "LinkResolver$History")), Cond.classLink RX2 36 "java/lang/IndexOutOfBoundsException", Cond.fieldLink RX2 32 "LinkResolver$Pack" "stays" "[LLinkResolver$History;", Cond.methodLink RX2 57 yX1_yearsOpen, Cond.instanceMethod yX1_yearsOpen, Cond.selects RX1 yX1_yearsOpen yX1_yearsOpen, Cond.initialized RX1, Cond.code yX1_yearsOpen cX1_yearsOpen 3 (some .long), Cond.fieldLink RX1 34 "LinkResolver$Change" "years" "J", Cond.fieldLink RX1 38 "LinkResolver$Change" "wall" "I", Cond.methodLink RX1 30 yX1_changeAt, Cond.instanceMethod yX1_changeAt, Cond.selects RX1 yX1_changeAt yX1_changeAt, Cond.code yX1_changeAt cX1_changeAt 3 (some (.object "LinkResolver$Change"))]
def wsL_gap_r4 : List Cond := [Cond.fieldLink RX1 9 "LinkResolver$History" "newest" "LLinkResolver$Change;", Cond.fieldLink RX1 24 "LinkResolver$Change" "day" "I", Cond.fieldLink RX1 27 "LinkResolver$Change" "before" "LLinkResolver$Change;", Cond.methodLink RX2 54 yX2_yearsKept, Cond.instanceMethod yX2_yearsKept, Cond.selects RX2 yX2_yearsKept yX2_yearsKept, Cond.code yX2_yearsKept cX2_yearsKept 5 (some .long), Cond.fieldLink RX2 21 "LinkResolver$Pack" "isKeeping" "Z", Cond.methodLink RX2 60 yX1_yearsKept, Cond.instanceMethod yX1_yearsKept, Cond.selects RX1 yX1_yearsKept yX1_yearsKept, Cond.code yX1_yearsKept cX1_yearsKept 10 (some .long), Cond.methodLink RX1 45 Lib.Math.min.name, Cond.static Lib.Math.min.name, Cond.initialized "java/lang/Math", Cond.code Lib.Math.min.name Lib.Math.min.code 2 (some .int), Cond.methodLink RX4 138 yX4_hasYear, Cond.static yX4_hasYear, Cond.code yX4_hasYear cX4_hasYear 3 (some .boolean)]
def wsL_gap : List Cond := .codeWith yL_gap cL_gap 5 (some .int) [(0, 10, 13, 20), (0, 10, 17, 13)] :: ((wsL_gap_r1 ++ (wsL_gap_r2 ++ (wsL_gap_r3 ++ wsL_gap_r4))) ++ wsX30 ++ wsX40 ++ wsX20 ++ wsX00 ++ wsX10 ++ (vx_atS RX4 127 "java/lang/IndexOutOfBoundsException" ["java/lang/RuntimeException", "java/lang/Exception"]).filter goodWord ++ (vx_atS RX4 160 "java/lang/IllegalArgumentException" ["java/lang/RuntimeException", "java/lang/Exception"]).filter goodWord ++ (vx_atS RX2 40 "java/lang/IndexOutOfBoundsException" ["java/lang/RuntimeException", "java/lang/Exception"]).filter goodWord)
def wsL_doubles_r1 : List Cond := [Cond.classLink RL 20 "java/lang/IndexOutOfBoundsException", Cond.classLink RL 13 "java/lang/IllegalArgumentException", Cond.methodLink RL 72 yX4_doubles, Cond.instanceMethod yX4_doubles, Cond.selects RX4 yX4_doubles yX4_doubles, Cond.initialized RX4, Cond.code yX4_doubles cX4_doubles 12 (some .int), Cond.fieldLink RX4 25 "LinkResolver" "packCount" "I", Cond.fieldLink RX4 31 "LinkResolver" "currentDay" "I", Cond.methodLink RX4 48 yX4_existingTitle, Cond.instanceMethod yX4_existingTitle, Cond.selects RX4 yX4_existingTitle yX4_existingTitle, Cond.code yX4_existingTitle cX4_existingTitle 2 (some (.object "LinkResolver$Title")), Cond.classLink RX4 123 "java/lang/IndexOutOfBoundsException", Cond.initialized "java/lang/IndexOutOfBoundsException", Cond.fieldLink RX4 21 "LinkResolver" "titleCount" "I", Cond.fieldLink RX4 11 "LinkResolver" "titles" "[LLinkResolver$Title;", Cond.methodLink RX4 34 yX4_checkRange, Cond.static yX4_checkRange, Cond.code yX4_checkRange cX4_checkRange 3 none, Cond.classLink RX4 156 "java/lang/IllegalArgumentException", Cond.initialized "java/lang/IllegalArgumentException", Cond.methodLink RX4 64 yX4_existingPack, Cond.instanceMethod yX4_existingPack]
def wsL_doubles_r2 : List Cond := [Cond.selects RX4 yX4_existingPack yX4_existingPack, Cond.code yX4_existingPack cX4_existingPack 2 (some (.object "LinkResolver$Pack")), Cond.fieldLink RX4 17 "LinkResolver" "packs" "[LLinkResolver$Pack;", Cond.methodLink RX4 142 yX2_letsIn, Cond.instanceMethod yX2_letsIn, Cond.selects RX2 yX2_letsIn yX2_letsIn, Cond.initialized RX2, Cond.code yX2_letsIn cX2_letsIn 2 (some .boolean), Cond.fieldLink RX2 18 "LinkResolver$Pack" "groups" "I", Cond.methodLink RX4 145 yX2_yearsCovered, Cond.instanceMethod yX2_yearsCovered, Cond.selects RX2 yX2_yearsCovered yX2_yearsCovered, Cond.code yX2_yearsCovered cX2_yearsCovered 3 (some .long), Cond.methodLink RX2 50 yX2_yearsOpen, Cond.instanceMethod yX2_yearsOpen, Cond.selects RX2 yX2_yearsOpen yX2_yearsOpen, Cond.code yX2_yearsOpen cX2_yearsOpen 3 (some .long), Cond.fieldLink RX2 28 "LinkResolver$Pack" "subscription" "LLinkResolver$History;", Cond.methodLink RX2 43 yX2_stayOf, Cond.instanceMethod yX2_stayOf, Cond.selects RX2 yX2_stayOf yX2_stayOf, Cond.code yX2_stayOf cX2_stayOf 2 (some (.object "LinkResolver$History")), Cond.classLink RX2 36 "java/lang/IndexOutOfBoundsException", Cond.fieldLink RX2 32 "LinkResolver$Pack" "stays" "[LLinkResolver$History;"]
def wsL_doubles_r3 : List Cond := [Cond.methodLink RX2 57 yX1_yearsOpen, Cond.instanceMethod yX1_yearsOpen, Cond.selects RX1 yX1_yearsOpen yX1_yearsOpen, Cond.initialized RX1, Cond.code yX1_yearsOpen cX1_yearsOpen 3 (some .long), Cond.fieldLink RX1 34 "LinkResolver$Change" "years" "J", Cond.fieldLink RX1 38 "LinkResolver$Change" "wall" "I", Cond.methodLink RX1 30 yX1_changeAt, Cond.instanceMethod yX1_changeAt, Cond.selects RX1 yX1_changeAt yX1_changeAt, Cond.code yX1_changeAt cX1_changeAt 3 (some (.object "LinkResolver$Change")), Cond.fieldLink RX1 9 "LinkResolver$History" "newest" "LLinkResolver$Change;", Cond.fieldLink RX1 24 "LinkResolver$Change" "day" "I", Cond.fieldLink RX1 27 "LinkResolver$Change" "before" "LLinkResolver$Change;", Cond.static yX4_yearsBetween, Cond.code yX4_yearsBetween cX4_yearsBetween 2 (some .long), Cond.methodLink RX2 54 yX2_yearsKept, Cond.instanceMethod yX2_yearsKept, Cond.selects RX2 yX2_yearsKept yX2_yearsKept, Cond.code yX2_yearsKept cX2_yearsKept 5 (some .long), Cond.fieldLink RX2 21 "LinkResolver$Pack" "isKeeping" "Z", Cond.methodLink RX2 60 yX1_yearsKept, Cond.instanceMethod yX1_yearsKept, Cond.selects RX1 yX1_yearsKept yX1_yearsKept]
def wsL_doubles_r4 : List Cond := [Cond.code yX1_yearsKept cX1_yearsKept 10 (some .long), Cond.methodLink RX1 45 Lib.Math.min.name, Cond.static Lib.Math.min.name, Cond.initialized "java/lang/Math", Cond.code Lib.Math.min.name Lib.Math.min.code 2 (some .int), Cond.methodLink RX4 128 yX4_yearsSoFar, Cond.instanceMethod yX4_yearsSoFar, Cond.selects RX4 yX4_yearsSoFar yX4_yearsSoFar, Cond.code yX4_yearsSoFar cX4_yearsSoFar 2 (some .long), Cond.fieldLink RX4 56 "LinkResolver$Title" "firstYear" "I", Cond.methodLink RX4 88 yX4_yearsBetween, Cond.methodLink RX4 148 yJ13_bitCount_95d88, Cond.static yJ13_bitCount_95d88, Cond.initialized RJ13, Cond.code yJ13_bitCount_95d88 cJ13_bitCount_95d88 2 (some .int), Cond.constantLong RJ13 314 (6148914691236517205), Cond.constantLong RJ13 316 (3689348814741910323), Cond.constantLong RJ13 318 (1085102592571150095)]
def wsL_doubles : List Cond := .codeWith yL_doubles cL_doubles 5 (some .int) [(0, 10, 13, 20), (0, 10, 17, 13)] :: ((wsL_doubles_r1 ++ (wsL_doubles_r2 ++ (wsL_doubles_r3 ++ wsL_doubles_r4))) ++ wsX40 ++ wsX20 ++ wsX00 ++ wsX10 ++ wsX30 ++ (vx_atS RX4 127 "java/lang/IndexOutOfBoundsException" ["java/lang/RuntimeException", "java/lang/Exception"]).filter goodWord ++ (vx_atS RX4 160 "java/lang/IllegalArgumentException" ["java/lang/RuntimeException", "java/lang/Exception"]).filter goodWord ++ (vx_atS RX2 40 "java/lang/IndexOutOfBoundsException" ["java/lang/RuntimeException", "java/lang/Exception"]).filter goodWord)
def wsL_isNeedless_r1 : List Cond := [Cond.classLink RL 20 "java/lang/IndexOutOfBoundsException", Cond.methodLink RL 75 yX4_isNeedless, Cond.instanceMethod yX4_isNeedless, Cond.selects RX4 yX4_isNeedless yX4_isNeedless, Cond.initialized RX4, Cond.code yX4_isNeedless cX4_isNeedless 3 (some .boolean), Cond.fieldLink RX4 21 "LinkResolver" "titleCount" "I", Cond.methodLink RX4 64 yX4_existingPack, Cond.instanceMethod yX4_existingPack, Cond.selects RX4 yX4_existingPack yX4_existingPack, Cond.code yX4_existingPack cX4_existingPack 2 (some (.object "LinkResolver$Pack")), Cond.classLink RX4 123 "java/lang/IndexOutOfBoundsException", Cond.initialized "java/lang/IndexOutOfBoundsException", Cond.fieldLink RX4 25 "LinkResolver" "packCount" "I", Cond.fieldLink RX4 17 "LinkResolver" "packs" "[LLinkResolver$Pack;", Cond.methodLink RX4 153 yX4_isLostWithout, Cond.instanceMethod yX4_isLostWithout, Cond.selects RX4 yX4_isLostWithout yX4_isLostWithout, Cond.code yX4_isLostWithout cX4_isLostWithout 7 (some .boolean), Cond.fieldLink RX4 31 "LinkResolver" "currentDay" "I", Cond.constantLong RX4 136 (-1), Cond.methodLink RX4 186 yX2_yearsOpen, Cond.instanceMethod yX2_yearsOpen, Cond.selects RX2 yX2_yearsOpen yX2_yearsOpen]
def wsL_isNeedless_r2 : List Cond := [Cond.initialized RX2, Cond.code yX2_yearsOpen cX2_yearsOpen 3 (some .long), Cond.fieldLink RX2 28 "LinkResolver$Pack" "subscription" "LLinkResolver$History;", Cond.methodLink RX2 43 yX2_stayOf, Cond.instanceMethod yX2_stayOf, Cond.selects RX2 yX2_stayOf yX2_stayOf, Cond.code yX2_stayOf cX2_stayOf 2 (some (.object "LinkResolver$History")), Cond.classLink RX2 36 "java/lang/IndexOutOfBoundsException", Cond.fieldLink RX2 32 "LinkResolver$Pack" "stays" "[LLinkResolver$History;", Cond.methodLink RX2 57 yX1_yearsOpen, Cond.instanceMethod yX1_yearsOpen, Cond.selects RX1 yX1_yearsOpen yX1_yearsOpen, Cond.initialized RX1, Cond.code yX1_yearsOpen cX1_yearsOpen 3 (some .long), Cond.fieldLink RX1 34 "LinkResolver$Change" "years" "J", Cond.fieldLink RX1 38 "LinkResolver$Change" "wall" "I", Cond.methodLink RX1 30 yX1_changeAt, Cond.instanceMethod yX1_changeAt, Cond.selects RX1 yX1_changeAt yX1_changeAt, Cond.code yX1_changeAt cX1_changeAt 3 (some (.object "LinkResolver$Change")), Cond.fieldLink RX1 9 "LinkResolver$History" "newest" "LLinkResolver$Change;", Cond.fieldLink RX1 24 "LinkResolver$Change" "day" "I", Cond.fieldLink RX1 27 "LinkResolver$Change" "before" "LLinkResolver$Change;", Cond.static yX4_yearsBetween]
def wsL_isNeedless_r3 : List Cond := [Cond.code yX4_yearsBetween cX4_yearsBetween 2 (some .long), Cond.methodLink RX4 189 yX2_yearsKept, Cond.instanceMethod yX2_yearsKept, Cond.selects RX2 yX2_yearsKept yX2_yearsKept, Cond.code yX2_yearsKept cX2_yearsKept 5 (some .long), Cond.fieldLink RX2 21 "LinkResolver$Pack" "isKeeping" "Z", Cond.methodLink RX2 60 yX1_yearsKept, Cond.instanceMethod yX1_yearsKept, Cond.selects RX1 yX1_yearsKept yX1_yearsKept, Cond.code yX1_yearsKept cX1_yearsKept 10 (some .long), Cond.methodLink RX1 45 Lib.Math.min.name, Cond.static Lib.Math.min.name, Cond.initialized "java/lang/Math", Cond.code Lib.Math.min.name Lib.Math.min.code 2 (some .int), Cond.methodLink RX4 48 yX4_existingTitle, Cond.instanceMethod yX4_existingTitle, Cond.selects RX4 yX4_existingTitle yX4_existingTitle, Cond.code yX4_existingTitle cX4_existingTitle 2 (some (.object "LinkResolver$Title")), Cond.fieldLink RX4 11 "LinkResolver" "titles" "[LLinkResolver$Title;", Cond.methodLink RX4 128 yX4_yearsSoFar, Cond.instanceMethod yX4_yearsSoFar, Cond.selects RX4 yX4_yearsSoFar yX4_yearsSoFar, Cond.code yX4_yearsSoFar cX4_yearsSoFar 2 (some .long), Cond.fieldLink RX4 56 "LinkResolver$Title" "firstYear" "I"]
def wsL_isNeedless_r4 : List Cond := [Cond.methodLink RX4 88 yX4_yearsBetween, Cond.methodLink RX4 142 yX2_letsIn, Cond.instanceMethod yX2_letsIn, Cond.selects RX2 yX2_letsIn yX2_letsIn, Cond.code yX2_letsIn cX2_letsIn 2 (some .boolean), Cond.fieldLink RX2 18 "LinkResolver$Pack" "groups" "I", Cond.methodLink RX4 132 yX4_yearsCoveredButBy, Cond.instanceMethod yX4_yearsCoveredButBy, Cond.selects RX4 yX4_yearsCoveredButBy yX4_yearsCoveredButBy, Cond.code yX4_yearsCoveredButBy cX4_yearsCoveredButBy 8 (some .long), Cond.methodLink RX4 145 yX2_yearsCovered, Cond.instanceMethod yX2_yearsCovered, Cond.selects RX2 yX2_yearsCovered yX2_yearsCovered, Cond.code yX2_yearsCovered cX2_yearsCovered 3 (some .long), Cond.methodLink RX2 50 yX2_yearsOpen, Cond.methodLink RX2 54 yX2_yearsKept]
def wsL_isNeedless : List Cond := .codeWith yL_isNeedless cL_isNeedless 4 (some .int) [(0, 16, 19, 20)] :: ((wsL_isNeedless_r1 ++ (wsL_isNeedless_r2 ++ (wsL_isNeedless_r3 ++ wsL_isNeedless_r4))) ++ wsX40 ++ wsX20 ++ wsX00 ++ wsX10 ++ wsX30 ++ (vx_atS RX4 127 "java/lang/IndexOutOfBoundsException" ["java/lang/RuntimeException", "java/lang/Exception"]).filter goodWord ++ (vx_atS RX2 40 "java/lang/IndexOutOfBoundsException" ["java/lang/RuntimeException", "java/lang/Exception"]).filter goodWord)
def wsL_law0_r1 : List Cond := [Cond.classLink RL 8 RX4, Cond.instantiable RX4 6, Cond.initialized RX4, Cond.classLink RL 80 RX5, Cond.instantiable RX5 18, Cond.initialized RX5, Cond.arrayClass .long, Cond.methodLink RL 79 yX4_init, Cond.instanceMethod yX4_init, Cond.code yX4_init cX4_init 1 none, Cond.methodLink RX4 3 objectInit, Cond.instanceMethod objectInit, Cond.code objectInit ⟨#[0xb1]⟩ 1 none, Cond.classLink RX4 9 RX3, Cond.fieldLink RX4 11 "LinkResolver" "titles" "[LLinkResolver$Title;", Cond.classLink RX4 15 RX2, Cond.fieldLink RX4 17 "LinkResolver" "packs" "[LLinkResolver$Pack;", Cond.fieldLink RX4 21 "LinkResolver" "titleCount" "I", Cond.fieldLink RX4 25 "LinkResolver" "packCount" "I", Cond.fieldLink RX4 28 "LinkResolver" "changeCount" "I", Cond.fieldLink RX4 31 "LinkResolver" "currentDay" "I", Cond.methodLink RL 82 yX5_init, Cond.instanceMethod yX5_init, Cond.code yX5_init cX5_init 1 none]
def wsL_law0_r2 : List Cond := [Cond.methodLink RX5 1 objectInit, Cond.arrayClass .int, Cond.fieldLink RX5 7 "LinkResolverModel" "firstYears" "[I", Cond.fieldLink RX5 13 "LinkResolverModel" "volumes" "[I", Cond.fieldLink RX5 16 "LinkResolverModel" "costs" "[I", Cond.fieldLink RX5 19 "LinkResolverModel" "versions" "[I", Cond.fieldLink RX5 22 "LinkResolverModel" "groups" "[I", Cond.arrayClass .boolean, Cond.fieldLink RX5 25 "LinkResolverModel" "keeps" "[Z", Cond.fieldLink RX5 29 "LinkResolverModel" "breaks" "[I", Cond.fieldLink RX5 32 "LinkResolverModel" "ofWhat" "[I", Cond.fieldLink RX5 35 "LinkResolverModel" "days" "[I", Cond.fieldLink RX5 38 "LinkResolverModel" "isOn" "[Z", Cond.fieldLink RX5 41 "LinkResolverModel" "firsts" "[I", Cond.fieldLink RX5 44 "LinkResolverModel" "lasts" "[I", Cond.fieldLink RX5 47 "LinkResolverModel" "walls" "[I", Cond.methodLink RL 83 yL_addTitle, Cond.static yL_addTitle, Cond.initialized RL, Cond.codeWith yL_addTitle cL_addTitle 5 (some .int) [(0, 10, 13, 13), (0, 10, 17, 15)], Cond.classLink RL 13 "java/lang/IllegalArgumentException", Cond.classLink RL 15 "java/lang/IllegalStateException", Cond.methodLink RL 7 yX4_addTitle, Cond.instanceMethod yX4_addTitle]
def wsL_law0_r3 : List Cond := [Cond.selects RX4 yX4_addTitle yX4_addTitle, Cond.code yX4_addTitle cX4_addTitle 4 (some .int), Cond.classLink RX4 38 "java/lang/IllegalStateException", Cond.initialized "java/lang/IllegalStateException", Cond.instantiable RX3 2, Cond.initialized RX3, Cond.methodLink RX4 34 yX4_checkRange, Cond.static yX4_checkRange, Cond.code yX4_checkRange cX4_checkRange 3 none, Cond.classLink RX4 156 "java/lang/IllegalArgumentException", Cond.initialized "java/lang/IllegalArgumentException", Cond.methodLink RX4 45 yX3_init, Cond.instanceMethod yX3_init, Cond.code yX3_init cX3_init 3 none, Cond.methodLink RX3 1 objectInit, Cond.fieldLink RX3 7 "LinkResolver$Title" "firstYear" "I", Cond.fieldLink RX3 13 "LinkResolver$Title" "volumes" "I", Cond.methodLink RL 88 yX5_addTitle, Cond.instanceMethod yX5_addTitle, Cond.selects RX5 yX5_addTitle yX5_addTitle, Cond.code yX5_addTitle cX5_addTitle 3 (some .int), Cond.fieldLink RX5 54 "LinkResolverModel" "titles" "I", Cond.methodLink RX5 60 yX5_isBetween, Cond.static yX5_isBetween]
def wsL_law0_r4 : List Cond := [Cond.code yX5_isBetween cX5_isBetween 3 (some .boolean), Cond.methodLink RX5 64 yX5_holds, Cond.instanceMethod yX5_holds, Cond.selects RX5 yX5_holds yX5_holds, Cond.code yX5_holds cX5_holds 2 (some .boolean), Cond.fieldLink RX5 50 "LinkResolverModel" "thrown" "I", Cond.methodLink RL 89 yX5_thrown, Cond.instanceMethod yX5_thrown, Cond.selects RX5 yX5_thrown yX5_thrown, Cond.code yX5_thrown cX5_thrown 1 (some .int), Cond.methodLink RL 93 yL_yearOf, Cond.static yL_yearOf, Cond.codeWith yL_yearOf cL_yearOf 5 (some .int) [(0, 10, 13, 20), (0, 10, 17, 13)], Cond.classLink RL 20 "java/lang/IndexOutOfBoundsException", Cond.methodLink RL 17 yX4_yearOf, Cond.instanceMethod yX4_yearOf, Cond.selects RX4 yX4_yearOf yX4_yearOf, Cond.code yX4_yearOf cX4_yearOf 5 (some .int), Cond.fieldLink RX4 56 "LinkResolver$Title" "firstYear" "I", Cond.methodLink RX4 48 yX4_existingTitle, Cond.instanceMethod yX4_existingTitle, Cond.selects RX4 yX4_existingTitle yX4_existingTitle, Cond.code yX4_existingTitle cX4_existingTitle 2 (some (.object "LinkResolver$Title")), Cond.classLink RX4 123 "java/lang/IndexOutOfBoundsException"]
def wsL_law0_r5 : List Cond := [Cond.initialized "java/lang/IndexOutOfBoundsException", Cond.methodLink RX4 52 yX3_firstVolume, Cond.instanceMethod yX3_firstVolume, Cond.selects RX3 yX3_firstVolume yX3_firstVolume, Cond.code yX3_firstVolume cX3_firstVolume 2 (some .int), Cond.methodLink RL 95 yX5_yearOf, Cond.instanceMethod yX5_yearOf, Cond.selects RX5 yX5_yearOf yX5_yearOf, Cond.code yX5_yearOf cX5_yearOf 4 (some .int), Cond.methodLink RX5 68 yX5_isTitle, Cond.instanceMethod yX5_isTitle, Cond.selects RX5 yX5_isTitle yX5_isTitle, Cond.code yX5_isTitle cX5_isTitle 2 (some .boolean), Cond.methodLink RL 96 yL_volumeOf, Cond.static yL_volumeOf, Cond.codeWith yL_volumeOf cL_volumeOf 5 (some .int) [(0, 10, 13, 20), (0, 10, 17, 13)], Cond.methodLink RL 22 yX4_volumeOf, Cond.instanceMethod yX4_volumeOf, Cond.selects RX4 yX4_volumeOf yX4_volumeOf, Cond.code yX4_volumeOf cX4_volumeOf 4 (some .int), Cond.methodLink RL 98 yX5_volumeOf, Cond.instanceMethod yX5_volumeOf, Cond.selects RX5 yX5_volumeOf yX5_volumeOf, Cond.code yX5_volumeOf cX5_volumeOf 4 (some .int)]
def wsL_law0_r6 : List Cond := [Cond.methodLink RL 99 yL_addPackage, Cond.static yL_addPackage, Cond.codeWith yL_addPackage cL_addPackage 7 (some .int) [(0, 14, 17, 13), (0, 14, 21, 15)], Cond.methodLink RL 25 yX4_addPackage, Cond.instanceMethod yX4_addPackage, Cond.selects RX4 yX4_addPackage yX4_addPackage, Cond.code yX4_addPackage cX4_addPackage 6 (some .int), Cond.instantiable RX2 6, Cond.initialized RX2, Cond.methodLink RX4 61 yX2_init, Cond.instanceMethod yX2_init, Cond.code yX2_init cX2_init 6 none, Cond.methodLink RX2 3 objectInit, Cond.fieldLink RX2 9 "LinkResolver$Pack" "cost" "I", Cond.fieldLink RX2 15 "LinkResolver$Pack" "version" "I", Cond.fieldLink RX2 18 "LinkResolver$Pack" "groups" "I", Cond.fieldLink RX2 21 "LinkResolver$Pack" "isKeeping" "Z", Cond.classLink RX2 25 RX1, Cond.instantiable RX1 2, Cond.initialized RX1, Cond.fieldLink RX2 28 "LinkResolver$Pack" "subscription" "LLinkResolver$History;", Cond.fieldLink RX2 32 "LinkResolver$Pack" "stays" "[LLinkResolver$History;", Cond.methodLink RX2 27 yX1_init, Cond.instanceMethod yX1_init]
def wsL_law0_r7 : List Cond := [Cond.code yX1_init cX1_init 1 none, Cond.methodLink RX1 3 objectInit, Cond.fieldLink RX1 9 "LinkResolver$History" "newest" "LLinkResolver$Change;", Cond.fieldLink RX1 15 "LinkResolver$History" "breaks" "I", Cond.methodLink RL 102 yX5_addPackage, Cond.instanceMethod yX5_addPackage, Cond.selects RX5 yX5_addPackage yX5_addPackage, Cond.code yX5_addPackage cX5_addPackage 6 (some .int), Cond.fieldLink RX5 57 "LinkResolverModel" "packages" "I", Cond.methodLink RL 103 yL_subscribe, Cond.static yL_subscribe, Cond.codeWith yL_subscribe cL_subscribe 5 (some .int) [(0, 17, 20, 20)], Cond.methodLink RL 29 yX4_subscribe, Cond.instanceMethod yX4_subscribe, Cond.selects RX4 yX4_subscribe yX4_subscribe, Cond.code yX4_subscribe cX4_subscribe 5 (some .boolean), Cond.fieldLink RX4 68 "LinkResolver$Pack" "subscription" "LLinkResolver$History;", Cond.constantLong RX4 78 (72057594037927935), Cond.methodLink RX4 64 yX4_existingPack, Cond.instanceMethod yX4_existingPack, Cond.selects RX4 yX4_existingPack yX4_existingPack, Cond.code yX4_existingPack cX4_existingPack 2 (some (.object "LinkResolver$Pack")), Cond.methodLink RX4 72 yX1_isOnAt, Cond.instanceMethod yX1_isOnAt]
def wsL_law0_r8 : List Cond := [Cond.selects RX1 yX1_isOnAt yX1_isOnAt, Cond.code yX1_isOnAt cX1_isOnAt 3 (some .boolean), Cond.fieldLink RX1 34 "LinkResolver$Change" "years" "J", Cond.methodLink RX1 30 yX1_changeAt, Cond.instanceMethod yX1_changeAt, Cond.selects RX1 yX1_changeAt yX1_changeAt, Cond.code yX1_changeAt cX1_changeAt 3 (some (.object "LinkResolver$Change")), Cond.fieldLink RX1 24 "LinkResolver$Change" "day" "I", Cond.fieldLink RX1 27 "LinkResolver$Change" "before" "LLinkResolver$Change;", Cond.methodLink RX4 80 yX4_change, Cond.instanceMethod yX4_change, Cond.selects RX4 yX4_change yX4_change, Cond.code yX4_change cX4_change 5 none, Cond.methodLink RX4 169 yX1_add, Cond.instanceMethod yX1_add, Cond.selects RX1 yX1_add yX1_add, Cond.code yX1_add cX1_add 5 none, Cond.classLink RX1 19 RX0, Cond.instantiable RX0 4, Cond.initialized RX0, Cond.methodLink RX1 21 yX0_init, Cond.instanceMethod yX0_init, Cond.code yX0_init cX0_init 6 none, Cond.methodLink RX0 1 objectInit]
def wsL_law0_r9 : List Cond := [Cond.fieldLink RX0 7 "LinkResolver$Change" "day" "I", Cond.fieldLink RX0 13 "LinkResolver$Change" "years" "J", Cond.fieldLink RX0 17 "LinkResolver$Change" "wall" "I", Cond.fieldLink RX0 20 "LinkResolver$Change" "before" "LLinkResolver$Change;", Cond.methodLink RL 106 yX5_subscribe, Cond.instanceMethod yX5_subscribe, Cond.selects RX5 yX5_subscribe yX5_subscribe, Cond.code yX5_subscribe cX5_subscribe 3 (some .boolean), Cond.methodLink RX5 81 yX5_isPackage, Cond.instanceMethod yX5_isPackage, Cond.selects RX5 yX5_isPackage yX5_isPackage, Cond.code yX5_isPackage cX5_isPackage 2 (some .boolean), Cond.methodLink RX5 84 yX5_subscription, Cond.static yX5_subscription, Cond.code yX5_subscription cX5_subscription 1 (some .int), Cond.methodLink RX5 88 yX5_notes, Cond.instanceMethod yX5_notes, Cond.selects RX5 yX5_notes yX5_notes, Cond.code yX5_notes cX5_notes 9 (some .boolean), Cond.fieldLink RX5 78 "LinkResolverModel" "today" "I", Cond.fieldLink RX5 71 "LinkResolverModel" "changes" "I", Cond.methodLink RX5 74 yX5_changeOn, Cond.instanceMethod yX5_changeOn, Cond.selects RX5 yX5_changeOn yX5_changeOn]
def wsL_law0_r10 : List Cond := [Cond.code yX5_changeOn cX5_changeOn 4 (some .int), Cond.methodLink RL 107 yL_come, Cond.static yL_come, Cond.codeWith yL_come cL_come 8 (some .int) [(0, 23, 26, 20), (0, 23, 30, 13)], Cond.methodLink RL 33 yX4_come, Cond.instanceMethod yX4_come, Cond.selects RX4 yX4_come yX4_come, Cond.code yX4_come cX4_come 8 (some .boolean), Cond.methodLink RX4 84 yX4_existingStay, Cond.instanceMethod yX4_existingStay, Cond.selects RX4 yX4_existingStay yX4_existingStay, Cond.code yX4_existingStay cX4_existingStay 4 (some (.object "LinkResolver$History")), Cond.methodLink RX4 165 yX2_stayOf, Cond.instanceMethod yX2_stayOf, Cond.selects RX2 yX2_stayOf yX2_stayOf, Cond.code yX2_stayOf cX2_stayOf 2 (some (.object "LinkResolver$History")), Cond.classLink RX2 36 "java/lang/IndexOutOfBoundsException", Cond.methodLink RX4 88 yX4_yearsBetween, Cond.static yX4_yearsBetween, Cond.code yX4_yearsBetween cX4_yearsBetween 2 (some .long), Cond.methodLink RL 110 yX5_come, Cond.instanceMethod yX5_come, Cond.selects RX5 yX5_come yX5_come, Cond.code yX5_come cX5_come 8 (some .boolean)]
def wsL_law0_r11 : List Cond := [Cond.methodLink RL 111 yL_go, Cond.static yL_go, Cond.codeWith yL_go cL_go 4 (some .int) [(0, 6, 9, 20), (0, 6, 12, 15)], Cond.methodLink RL 37 yX4_go, Cond.instanceMethod yX4_go, Cond.selects RX4 yX4_go yX4_go, Cond.code yX4_go cX4_go 4 none, Cond.methodLink RL 114 yX5_go, Cond.instanceMethod yX5_go, Cond.selects RX5 yX5_go yX5_go, Cond.code yX5_go cX5_go 5 none, Cond.methodLink RX5 92 yX5_isSo, Cond.instanceMethod yX5_isSo, Cond.selects RX5 yX5_isSo yX5_isSo, Cond.code yX5_isSo cX5_isSo 4 (some .boolean), Cond.methodLink RL 115 yL_pass, Cond.static yL_pass, Cond.codeWith yL_pass cL_pass 4 (some .int) [(0, 9, 12, 13), (0, 9, 15, 15)], Cond.methodLink RL 41 yX4_pass, Cond.instanceMethod yX4_pass, Cond.selects RX4 yX4_pass yX4_pass, Cond.code yX4_pass cX4_pass 2 (some .int), Cond.methodLink RL 118 yX5_pass, Cond.instanceMethod yX5_pass]
def wsL_law0_r12 : List Cond := [Cond.selects RX5 yX5_pass yX5_pass, Cond.code yX5_pass cX5_pass 2 (some .int), Cond.methodLink RL 119 yX4_today, Cond.instanceMethod yX4_today, Cond.selects RX4 yX4_today yX4_today, Cond.code yX4_today cX4_today 1 (some .int), Cond.methodLink RL 122 yX5_today, Cond.instanceMethod yX5_today, Cond.selects RX5 yX5_today yX5_today, Cond.code yX5_today cX5_today 1 (some .int), Cond.methodLink RL 123 yL_isSubscribed, Cond.static yL_isSubscribed, Cond.codeWith yL_isSubscribed cL_isSubscribed 5 (some .int) [(0, 17, 20, 20), (0, 17, 24, 13)], Cond.methodLink RL 45 yX4_isSubscribed, Cond.instanceMethod yX4_isSubscribed, Cond.selects RX4 yX4_isSubscribed yX4_isSubscribed, Cond.code yX4_isSubscribed cX4_isSubscribed 4 (some .boolean), Cond.methodLink RL 125 yX5_isSubscribed, Cond.instanceMethod yX5_isSubscribed, Cond.selects RX5 yX5_isSubscribed yX5_isSubscribed, Cond.code yX5_isSubscribed cX5_isSubscribed 3 (some .boolean), Cond.methodLink RL 126 yL_isIn, Cond.static yL_isIn, Cond.codeWith yL_isIn cL_isIn 6 (some .int) [(0, 19, 22, 20), (0, 19, 26, 13)]]
def wsL_law0_r13 : List Cond := [Cond.methodLink RL 49 yX4_isIn, Cond.instanceMethod yX4_isIn, Cond.selects RX4 yX4_isIn yX4_isIn, Cond.code yX4_isIn cX4_isIn 5 (some .boolean), Cond.methodLink RL 129 yX5_isIn, Cond.instanceMethod yX5_isIn, Cond.selects RX5 yX5_isIn yX5_isIn, Cond.code yX5_isIn cX5_isIn 4 (some .boolean), Cond.methodLink RL 130 yL_report, Cond.static yL_report, Cond.codeWith yL_report cL_report 5 (some .int) [(0, 10, 13, 20)], Cond.methodLink RL 53 yX4_report, Cond.instanceMethod yX4_report, Cond.selects RX4 yX4_report yX4_report, Cond.code yX4_report cX4_report 4 (some .int), Cond.fieldLink RX4 96 "LinkResolver$History" "breaks" "I", Cond.methodLink RL 132 yX5_report, Cond.instanceMethod yX5_report, Cond.selects RX5 yX5_report yX5_report, Cond.code yX5_report cX5_report 3 (some .int), Cond.methodLink RL 133 yL_mend, Cond.static yL_mend, Cond.codeWith yL_mend cL_mend 5 (some .int) [(0, 10, 13, 20)], Cond.methodLink RL 56 yX4_mend]
def wsL_law0_r14 : List Cond := [Cond.instanceMethod yX4_mend, Cond.selects RX4 yX4_mend yX4_mend, Cond.code yX4_mend cX4_mend 5 (some .int), Cond.methodLink RL 135 yX5_mend, Cond.instanceMethod yX5_mend, Cond.selects RX5 yX5_mend yX5_mend, Cond.code yX5_mend cX5_mend 4 (some .int), Cond.methodLink RL 136 yL_covers, Cond.static yL_covers, Cond.codeWith yL_covers cL_covers 8 (some .int) [(0, 23, 26, 20), (0, 23, 30, 13)], Cond.methodLink RL 59 yX4_covers, Cond.instanceMethod yX4_covers, Cond.selects RX4 yX4_covers yX4_covers, Cond.code yX4_covers cX4_covers 7 (some .boolean), Cond.methodLink RX4 99 yX4_checkArticle, Cond.instanceMethod yX4_checkArticle, Cond.selects RX4 yX4_checkArticle yX4_checkArticle, Cond.code yX4_checkArticle cX4_checkArticle 4 none, Cond.methodLink RX4 102 yX4_isWay, Cond.static yX4_isWay, Cond.code yX4_isWay cX4_isWay 5 (some .boolean), Cond.methodLink RX4 142 yX2_letsIn, Cond.instanceMethod yX2_letsIn, Cond.selects RX2 yX2_letsIn yX2_letsIn]
def wsL_law0_r15 : List Cond := [Cond.code yX2_letsIn cX2_letsIn 2 (some .boolean), Cond.methodLink RX4 145 yX2_yearsCovered, Cond.instanceMethod yX2_yearsCovered, Cond.selects RX2 yX2_yearsCovered yX2_yearsCovered, Cond.code yX2_yearsCovered cX2_yearsCovered 3 (some .long), Cond.methodLink RX2 50 yX2_yearsOpen, Cond.instanceMethod yX2_yearsOpen, Cond.selects RX2 yX2_yearsOpen yX2_yearsOpen, Cond.code yX2_yearsOpen cX2_yearsOpen 3 (some .long), Cond.methodLink RX2 43 yX2_stayOf, Cond.methodLink RX2 57 yX1_yearsOpen, Cond.instanceMethod yX1_yearsOpen, Cond.selects RX1 yX1_yearsOpen yX1_yearsOpen, Cond.code yX1_yearsOpen cX1_yearsOpen 3 (some .long), Cond.fieldLink RX1 38 "LinkResolver$Change" "wall" "I", Cond.methodLink RX2 54 yX2_yearsKept, Cond.instanceMethod yX2_yearsKept, Cond.selects RX2 yX2_yearsKept yX2_yearsKept, Cond.code yX2_yearsKept cX2_yearsKept 5 (some .long), Cond.methodLink RX2 60 yX1_yearsKept, Cond.instanceMethod yX1_yearsKept, Cond.selects RX1 yX1_yearsKept yX1_yearsKept, Cond.code yX1_yearsKept cX1_yearsKept 10 (some .long), Cond.methodLink RX1 45 Lib.Math.min.name]
def wsL_law0_r16 : List Cond := [Cond.static Lib.Math.min.name, Cond.initialized "java/lang/Math", Cond.code Lib.Math.min.name Lib.Math.min.code 2 (some .int), Cond.methodLink RX4 138 yX4_hasYear, Cond.static yX4_hasYear, Cond.code yX4_hasYear cX4_hasYear 3 (some .boolean), Cond.methodLink RL 138 yX5_covers, Cond.instanceMethod yX5_covers, Cond.selects RX5 yX5_covers yX5_covers, Cond.code yX5_covers cX5_covers 7 (some .boolean), Cond.methodLink RX5 104 yX5_isAsked, Cond.instanceMethod yX5_isAsked, Cond.selects RX5 yX5_isAsked yX5_isAsked, Cond.code yX5_isAsked cX5_isAsked 4 (some .boolean), Cond.methodLink RX5 107 yX5_lets, Cond.instanceMethod yX5_lets, Cond.selects RX5 yX5_lets yX5_lets, Cond.code yX5_lets cX5_lets 3 (some .boolean), Cond.methodLink RX5 110 yX5_isCovered, Cond.instanceMethod yX5_isCovered, Cond.selects RX5 yX5_isCovered yX5_isCovered, Cond.code yX5_isCovered cX5_isCovered 5 (some .boolean), Cond.methodLink RX5 96 yX5_has, Cond.instanceMethod yX5_has]
def wsL_law0_r17 : List Cond := [Cond.selects RX5 yX5_has yX5_has, Cond.code yX5_has cX5_has 8 (some .boolean), Cond.methodLink RX5 100 yX5_isKept, Cond.instanceMethod yX5_isKept, Cond.selects RX5 yX5_isKept yX5_isKept, Cond.code yX5_isKept cX5_isKept 6 (some .boolean), Cond.methodLink RL 139 yL_ways, Cond.static yL_ways, Cond.codeWith yL_ways cL_ways 7 (some .int) [(0, 14, 17, 20), (0, 14, 21, 13)], Cond.methodLink RL 62 yX4_ways, Cond.instanceMethod yX4_ways, Cond.selects RX4 yX4_ways yX4_ways, Cond.code yX4_ways cX4_ways 5 (some .int), Cond.methodLink RX4 106 yX4_waysTo, Cond.instanceMethod yX4_waysTo, Cond.selects RX4 yX4_waysTo yX4_waysTo, Cond.code yX4_waysTo cX4_waysTo 7 (some .int), Cond.methodLink RX4 110 yJ6_bitCount_0f7a4, Cond.static yJ6_bitCount_0f7a4, Cond.initialized RJ6, Cond.code yJ6_bitCount_0f7a4 cJ6_bitCount_0f7a4 1 (some .int), Cond.constant RJ6 265 (1431655765), Cond.constant RJ6 266 (858993459), Cond.constant RJ6 267 (252645135)]
def wsL_law0_r18 : List Cond := [Cond.methodLink RL 141 yX5_ways, Cond.instanceMethod yX5_ways, Cond.selects RX5 yX5_ways yX5_ways, Cond.code yX5_ways cX5_ways 5 (some .int), Cond.methodLink RX5 113 yX5_waysTo, Cond.instanceMethod yX5_waysTo, Cond.selects RX5 yX5_waysTo yX5_waysTo, Cond.code yX5_waysTo cX5_waysTo 7 (some .int), Cond.methodLink RL 142 yL_wayAt, Cond.static yL_wayAt, Cond.codeWith yL_wayAt cL_wayAt 8 (some .int) [(0, 16, 19, 13), (0, 16, 23, 20)], Cond.methodLink RL 65 yX4_wayAt, Cond.instanceMethod yX4_wayAt, Cond.selects RX4 yX4_wayAt yX4_wayAt, Cond.code yX4_wayAt cX4_wayAt 8 (some .int), Cond.methodLink RX4 115 yX4_isAmong, Cond.static yX4_isAmong, Cond.code yX4_isAmong cX4_isAmong 2 (some .boolean), Cond.methodLink RX4 119 yX4_placeAmong, Cond.instanceMethod yX4_placeAmong, Cond.selects RX4 yX4_placeAmong yX4_placeAmong, Cond.code yX4_placeAmong cX4_placeAmong 6 (some .int), Cond.methodLink RX4 173 yX4_isAhead, Cond.instanceMethod yX4_isAhead]
def wsL_law0_r19 : List Cond := [Cond.selects RX4 yX4_isAhead yX4_isAhead, Cond.code yX4_isAhead cX4_isAhead 7 (some .boolean), Cond.fieldLink RX4 180 "LinkResolver$Pack" "cost" "I", Cond.fieldLink RX4 183 "LinkResolver$Pack" "version" "I", Cond.methodLink RX4 177 yX2_isBroken, Cond.instanceMethod yX2_isBroken, Cond.selects RX2 yX2_isBroken yX2_isBroken, Cond.code yX2_isBroken cX2_isBroken 2 (some .boolean), Cond.fieldLink RX2 47 "LinkResolver$History" "breaks" "I", Cond.methodLink RL 144 yX5_wayAt, Cond.instanceMethod yX5_wayAt, Cond.selects RX5 yX5_wayAt yX5_wayAt, Cond.code yX5_wayAt cX5_wayAt 12 (some .int), Cond.methodLink RX5 117 yX5_isAhead, Cond.instanceMethod yX5_isAhead, Cond.selects RX5 yX5_isAhead yX5_isAhead, Cond.code yX5_isAhead cX5_isAhead 6 (some .boolean), Cond.methodLink RL 145 yL_gap, Cond.static yL_gap, Cond.codeWith yL_gap cL_gap 5 (some .int) [(0, 10, 13, 20), (0, 10, 17, 13)], Cond.methodLink RL 69 yX4_gap, Cond.instanceMethod yX4_gap, Cond.selects RX4 yX4_gap yX4_gap, Cond.code yX4_gap cX4_gap 7 (some .int)]
def wsL_law0_r20 : List Cond := [Cond.constantLong RX4 136 (-1), Cond.methodLink RX4 128 yX4_yearsSoFar, Cond.instanceMethod yX4_yearsSoFar, Cond.selects RX4 yX4_yearsSoFar yX4_yearsSoFar, Cond.code yX4_yearsSoFar cX4_yearsSoFar 2 (some .long), Cond.methodLink RX4 132 yX4_yearsCoveredButBy, Cond.instanceMethod yX4_yearsCoveredButBy, Cond.selects RX4 yX4_yearsCoveredButBy yX4_yearsCoveredButBy, Cond.code yX4_yearsCoveredButBy cX4_yearsCoveredButBy 8 (some .long), Cond.methodLink RL 147 yX5_gap, Cond.instanceMethod yX5_gap, Cond.selects RX5 yX5_gap yX5_gap, Cond.code yX5_gap cX5_gap 5 (some .int), Cond.methodLink RX5 120 yX5_isOfTitle, Cond.instanceMethod yX5_isOfTitle, Cond.selects RX5 yX5_isOfTitle yX5_isOfTitle, Cond.code yX5_isOfTitle cX5_isOfTitle 3 (some .boolean), Cond.methodLink RL 148 yL_doubles, Cond.static yL_doubles, Cond.codeWith yL_doubles cL_doubles 5 (some .int) [(0, 10, 13, 20), (0, 10, 17, 13)], Cond.methodLink RL 72 yX4_doubles, Cond.instanceMethod yX4_doubles, Cond.selects RX4 yX4_doubles yX4_doubles, Cond.code yX4_doubles cX4_doubles 12 (some .int)]
def wsL_law0_r21 : List Cond := [Cond.methodLink RX4 148 yJ13_bitCount_95d88, Cond.static yJ13_bitCount_95d88, Cond.initialized RJ13, Cond.code yJ13_bitCount_95d88 cJ13_bitCount_95d88 2 (some .int), Cond.constantLong RJ13 314 (6148914691236517205), Cond.constantLong RJ13 316 (3689348814741910323), Cond.constantLong RJ13 318 (1085102592571150095), Cond.methodLink RL 150 yX5_doubles, Cond.instanceMethod yX5_doubles, Cond.selects RX5 yX5_doubles yX5_doubles, Cond.code yX5_doubles cX5_doubles 5 (some .int), Cond.methodLink RL 151 yL_isNeedless, Cond.static yL_isNeedless, Cond.codeWith yL_isNeedless cL_isNeedless 4 (some .int) [(0, 16, 19, 20)], Cond.methodLink RL 75 yX4_isNeedless, Cond.instanceMethod yX4_isNeedless, Cond.selects RX4 yX4_isNeedless yX4_isNeedless, Cond.code yX4_isNeedless cX4_isNeedless 3 (some .boolean), Cond.methodLink RX4 153 yX4_isLostWithout, Cond.instanceMethod yX4_isLostWithout, Cond.selects RX4 yX4_isLostWithout yX4_isLostWithout, Cond.code yX4_isLostWithout cX4_isLostWithout 7 (some .boolean), Cond.methodLink RX4 186 yX2_yearsOpen, Cond.methodLink RX4 189 yX2_yearsKept]
def wsL_law0_r22 : List Cond := [Cond.methodLink RL 153 yX5_isNeedless, Cond.instanceMethod yX5_isNeedless, Cond.selects RX5 yX5_isNeedless yX5_isNeedless, Cond.code yX5_isNeedless cX5_isNeedless 6 (some .boolean), Cond.methodLink RX5 123 yX5_othersFor, Cond.instanceMethod yX5_othersFor, Cond.selects RX5 yX5_othersFor yX5_othersFor, Cond.code yX5_othersFor cX5_othersFor 6 (some .int)]
def wsL_law0 : List Cond := (wsL_law0_r1 ++ (wsL_law0_r2 ++ (wsL_law0_r3 ++ (wsL_law0_r4 ++ (wsL_law0_r5 ++ (wsL_law0_r6 ++ (wsL_law0_r7 ++ (wsL_law0_r8 ++ (wsL_law0_r9 ++ (wsL_law0_r10 ++ (wsL_law0_r11 ++ (wsL_law0_r12 ++ (wsL_law0_r13 ++ (wsL_law0_r14 ++ (wsL_law0_r15 ++ (wsL_law0_r16 ++ (wsL_law0_r17 ++ (wsL_law0_r18 ++ (wsL_law0_r19 ++ (wsL_law0_r20 ++ (wsL_law0_r21 ++ wsL_law0_r22))))))))))))))))))))) ++ wsX40 ++ wsX50 ++ wsX30 ++ wsX20 ++ wsX10 ++ wsX00 ++ ([] : List Cond)
def wsL_law : List Cond := wsL_law0 ++ (vx_atS RX4 42 "java/lang/IllegalStateException" ["java/lang/RuntimeException", "java/lang/Exception"]).filter goodWord ++ (vx_atS RX4 160 "java/lang/IllegalArgumentException" ["java/lang/RuntimeException", "java/lang/Exception"]).filter goodWord ++ (vx_atS RX4 127 "java/lang/IndexOutOfBoundsException" ["java/lang/RuntimeException", "java/lang/Exception"]).filter goodWord ++ (vx_atS RX2 40 "java/lang/IndexOutOfBoundsException" ["java/lang/RuntimeException", "java/lang/Exception"]).filter goodWord
end
section
set_option maxRecDepth 20000 in
theorem zin_app {a b big : List Cond} (ha : ∀ w ∈ a, w ∈ big) (hb : ∀ w ∈ b, w ∈ big) : ∀ w ∈ a ++ b, w ∈ big := fun w h => (List.mem_append.mp h).elim (ha w) (hb w)
set_option maxRecDepth 20000 in
theorem zin_r1 : ∀ w ∈ wsL_law0_r1, w ∈ lw_tbl := fun w h => (goodIn_r (big := lw_tbl) _ [43, 44, 28, 522, 523, 29, 731, 45, 46, 47, 48, 49, 50, 51, 55, 53, 56, 57, 58, 59, 60, 524, 525, 526] (by decide +kernel) (by decide +kernel) w h).1
set_option maxRecDepth 20000 in
theorem zin_r2 : ∀ w ∈ wsL_law0_r2, w ∈ lw_tbl := fun w h => (goodIn_r (big := lw_tbl) _ [527, 583, 532, 533, 534, 535, 536, 584, 537, 538, 540, 541, 542, 543, 544, 545, 78, 79, 27, 80, 81, 82, 83, 84] (by decide +kernel) (by decide +kernel) w h).1
set_option maxRecDepth 20000 in
theorem zin_r3 : ∀ w ∈ wsL_law0_r3, w ∈ lw_tbl := fun w h => (goodIn_r (big := lw_tbl) _ [85, 86, 158, 34, 174, 35, 87, 88, 89, 90, 33, 175, 176, 177, 178, 179, 181, 589, 590, 591, 592, 530, 593, 594] (by decide +kernel) (by decide +kernel) w h).1
set_option maxRecDepth 20000 in
theorem zin_r4 : ∀ w ∈ wsL_law0_r4, w ∈ lw_tbl := fun w h => (goodIn_r (big := lw_tbl) _ [595, 596, 598, 12, 599, 528, 585, 586, 587, 588, 187, 188, 189, 190, 191, 192, 193, 194, 180, 195, 197, 1, 198, 199] (by decide +kernel) (by decide +kernel) w h).1
set_option maxRecDepth 20000 in
theorem zin_r5 : ∀ w ∈ wsL_law0_r5, w ∈ lw_tbl := fun w h => (goodIn_r (big := lw_tbl) _ [36, 215, 216, 217, 218, 600, 601, 602, 603, 604, 606, 13, 607, 219, 220, 221, 222, 223, 224, 225, 608, 609, 610, 611] (by decide +kernel) (by decide +kernel) w h).1
set_option maxRecDepth 20000 in
theorem zin_r6 : ∀ w ∈ wsL_law0_r6, w ∈ lw_tbl := fun w h => (goodIn_r (big := lw_tbl) _ [226, 227, 228, 229, 230, 231, 232, 234, 37, 235, 236, 237, 238, 255, 257, 259, 260, 239, 240, 38, 261, 263, 241, 242] (by decide +kernel) (by decide +kernel) w h).1
set_option maxRecDepth 20000 in
theorem zin_r7 : ∀ w ∈ wsL_law0_r7, w ∈ lw_tbl := fun w h => (goodIn_r (big := lw_tbl) _ [243, 244, 245, 246, 612, 613, 614, 615, 531, 277, 278, 279, 280, 281, 282, 283, 262, 297, 284, 286, 2, 287, 289, 290] (by decide +kernel) (by decide +kernel) w h).1
set_option maxRecDepth 20000 in
theorem zin_r8 : ∀ w ∈ wsL_law0_r8, w ∈ lw_tbl := fun w h => (goodIn_r (big := lw_tbl) _ [291, 292, 315, 293, 294, 295, 296, 313, 319, 298, 300, 3, 301, 302, 303, 304, 305, 306, 307, 39, 308, 309, 310, 311] (by decide +kernel) (by decide +kernel) w h).1
set_option maxRecDepth 20000 in
theorem zin_r9 : ∀ w ∈ wsL_law0_r9, w ∈ lw_tbl := fun w h => (goodIn_r (big := lw_tbl) _ [312, 314, 316, 318, 616, 617, 618, 619, 620, 622, 14, 623, 624, 625, 626, 627, 629, 15, 630, 529, 539, 631, 633, 16] (by decide +kernel) (by decide +kernel) w h).1
set_option maxRecDepth 20000 in
theorem zin_r10 : ∀ w ∈ wsL_law0_r10, w ∈ lw_tbl := fun w h => (goodIn_r (big := lw_tbl) _ [634, 329, 330, 331, 332, 333, 334, 335, 336, 338, 4, 339, 340, 341, 342, 343, 344, 347, 348, 349, 635, 636, 637, 638] (by decide +kernel) (by decide +kernel) w h).1
set_option maxRecDepth 20000 in
theorem zin_r11 : ∀ w ∈ wsL_law0_r11, w ∈ lw_tbl := fun w h => (goodIn_r (big := lw_tbl) _ [350, 351, 352, 353, 354, 355, 356, 639, 640, 641, 642, 643, 645, 17, 646, 358, 359, 360, 361, 362, 363, 364, 647, 648] (by decide +kernel) (by decide +kernel) w h).1
set_option maxRecDepth 20000 in
theorem zin_r12 : ∀ w ∈ wsL_law0_r12, w ∈ lw_tbl := fun w h => (goodIn_r (big := lw_tbl) _ [649, 650, 74, 75, 76, 77, 651, 652, 653, 654, 366, 367, 368, 369, 370, 371, 372, 655, 656, 657, 658, 373, 374, 375] (by decide +kernel) (by decide +kernel) w h).1
set_option maxRecDepth 20000 in
theorem zin_r13 : ∀ w ∈ wsL_law0_r13, w ∈ lw_tbl := fun w h => (goodIn_r (big := lw_tbl) _ [376, 377, 378, 379, 659, 660, 661, 662, 380, 381, 382, 383, 384, 385, 386, 248, 663, 664, 665, 666, 387, 388, 389, 390] (by decide +kernel) (by decide +kernel) w h).1
set_option maxRecDepth 20000 in
theorem zin_r14 : ∀ w ∈ wsL_law0_r14, w ∈ lw_tbl := fun w h => (goodIn_r (big := lw_tbl) _ [391, 392, 393, 667, 668, 669, 670, 394, 395, 396, 397, 398, 399, 400, 401, 403, 5, 404, 405, 406, 407, 408, 409, 410] (by decide +kernel) (by decide +kernel) w h).1
set_option maxRecDepth 20000 in
theorem zin_r15 : ∀ w ∈ wsL_law0_r15, w ∈ lw_tbl := fun w h => (goodIn_r (big := lw_tbl) _ [411, 412, 413, 414, 415, 416, 417, 418, 419, 420, 421, 422, 423, 424, 317, 426, 427, 428, 429, 430, 431, 432, 433, 434] (by decide +kernel) (by decide +kernel) w h).1
set_option maxRecDepth 20000 in
theorem zin_r16 : ∀ w ∈ wsL_law0_r16, w ∈ lw_tbl := fun w h => (goodIn_r (big := lw_tbl) _ [435, 40, 436, 437, 438, 439, 671, 672, 673, 674, 675, 677, 18, 678, 679, 681, 19, 682, 683, 685, 20, 686, 687, 689] (by decide +kernel) (by decide +kernel) w h).1
set_option maxRecDepth 20000 in
theorem zin_r17 : ∀ w ∈ wsL_law0_r17, w ∈ lw_tbl := fun w h => (goodIn_r (big := lw_tbl) _ [21, 690, 691, 693, 22, 694, 440, 441, 442, 443, 444, 445, 446, 447, 449, 6, 450, 451, 452, 41, 453, 454, 455, 456] (by decide +kernel) (by decide +kernel) w h).1
set_option maxRecDepth 20000 in
theorem zin_r18 : ∀ w ∈ wsL_law0_r18, w ∈ lw_tbl := fun w h => (goodIn_r (big := lw_tbl) _ [695, 696, 697, 698, 699, 701, 23, 702, 457, 458, 459, 460, 461, 462, 463, 464, 465, 466, 467, 469, 7, 470, 471, 473] (by decide +kernel) (by decide +kernel) w h).1
set_option maxRecDepth 20000 in
theorem zin_r19 : ∀ w ∈ wsL_law0_r19, w ∈ lw_tbl := fun w h => (goodIn_r (big := lw_tbl) _ [8, 474, 256, 258, 475, 476, 477, 478, 247, 703, 704, 705, 706, 707, 709, 24, 710, 480, 481, 482, 483, 484, 485, 486] (by decide +kernel) (by decide +kernel) w h).1
set_option maxRecDepth 20000 in
theorem zin_r20 : ∀ w ∈ wsL_law0_r20, w ∈ lw_tbl := fun w h => (goodIn_r (big := lw_tbl) _ [495, 487, 489, 9, 490, 491, 493, 10, 494, 711, 712, 713, 714, 715, 717, 25, 718, 496, 497, 498, 499, 500, 501, 502] (by decide +kernel) (by decide +kernel) w h).1
set_option maxRecDepth 20000 in
theorem zin_r21 : ∀ w ∈ wsL_law0_r21, w ∈ lw_tbl := fun w h => (goodIn_r (big := lw_tbl) _ [503, 504, 42, 505, 506, 507, 508, 719, 720, 721, 722, 509, 510, 511, 512, 513, 514, 515, 516, 518, 11, 519, 520, 521] (by decide +kernel) (by decide +kernel) w h).1
set_option maxRecDepth 20000 in
theorem zin_r22 : ∀ w ∈ wsL_law0_r22, w ∈ lw_tbl := fun w h => (goodIn_r (big := lw_tbl) _ [723, 724, 725, 726, 727, 729, 26, 730] (by decide +kernel) (by decide +kernel) w h).1
set_option maxRecDepth 20000 in
theorem zin_wX0 : ∀ w ∈ wsX00, w ∈ lw_tbl := fun w h => (goodIn_r (big := lw_tbl) _ [320, 322, 324, 326] (by decide +kernel) (by decide +kernel) w h).1
set_option maxRecDepth 20000 in
theorem zin_wX1 : ∀ w ∈ wsX10, w ∈ lw_tbl := fun w h => (goodIn_r (big := lw_tbl) _ [249, 251] (by decide +kernel) (by decide +kernel) w h).1
set_option maxRecDepth 20000 in
theorem zin_wX2 : ∀ w ∈ wsX20, w ∈ lw_tbl := fun w h => (goodIn_r (big := lw_tbl) _ [264, 266, 268, 270, 272, 274] (by decide +kernel) (by decide +kernel) w h).1
set_option maxRecDepth 20000 in
theorem zin_wX3 : ∀ w ∈ wsX30, w ∈ lw_tbl := fun w h => (goodIn_r (big := lw_tbl) _ [182, 184] (by decide +kernel) (by decide +kernel) w h).1
set_option maxRecDepth 20000 in
theorem zin_wX4 : ∀ w ∈ wsX40, w ∈ lw_tbl := fun w h => (goodIn_r (big := lw_tbl) _ [61, 63, 65, 67, 69, 71] (by decide +kernel) (by decide +kernel) w h).1
set_option maxRecDepth 20000 in
theorem zin_wX5 : ∀ w ∈ wsX50, w ∈ lw_tbl := fun w h => (goodIn_r (big := lw_tbl) _ [546, 548, 550, 552, 554, 556, 558, 560, 562, 564, 566, 568, 570, 572, 574, 576, 578, 580] (by decide +kernel) (by decide +kernel) w h).1
set_option maxRecDepth 20000 in
theorem wsL_law_in0 : ∀ w ∈ wsL_law0, w ∈ lw_tbl := (zin_app (zin_app (zin_app (zin_app (zin_app (zin_app (zin_app (zin_app zin_r1 (zin_app zin_r2 (zin_app zin_r3 (zin_app zin_r4 (zin_app zin_r5 (zin_app zin_r6 (zin_app zin_r7 (zin_app zin_r8 (zin_app zin_r9 (zin_app zin_r10 (zin_app zin_r11 (zin_app zin_r12 (zin_app zin_r13 (zin_app zin_r14 (zin_app zin_r15 (zin_app zin_r16 (zin_app zin_r17 (zin_app zin_r18 (zin_app zin_r19 (zin_app zin_r20 (zin_app zin_r21 zin_r22))))))))))))))))))))) zin_wX4) zin_wX5) zin_wX3) zin_wX2) zin_wX1) zin_wX0) (fun _ h => absurd h List.not_mem_nil))
theorem wsL_law_x0 : ∀ w ∈ (vx_atS RX4 42 "java/lang/IllegalStateException" ["java/lang/RuntimeException", "java/lang/Exception"]).filter goodWord, w ∈ lw_tbl := by decide +kernel
theorem wsL_law_x1 : ∀ w ∈ (vx_atS RX4 160 "java/lang/IllegalArgumentException" ["java/lang/RuntimeException", "java/lang/Exception"]).filter goodWord, w ∈ lw_tbl := by decide +kernel
theorem wsL_law_x2 : ∀ w ∈ (vx_atS RX4 127 "java/lang/IndexOutOfBoundsException" ["java/lang/RuntimeException", "java/lang/Exception"]).filter goodWord, w ∈ lw_tbl := by decide +kernel
theorem wsL_law_x3 : ∀ w ∈ (vx_atS RX2 40 "java/lang/IndexOutOfBoundsException" ["java/lang/RuntimeException", "java/lang/Exception"]).filter goodWord, w ∈ lw_tbl := by decide +kernel
theorem wsL_law_in : ∀ w ∈ wsL_law, w ∈ lw_tbl := fun w h => (List.mem_append.mp h).elim (fun h => (List.mem_append.mp h).elim (fun h => (List.mem_append.mp h).elim (fun h => (List.mem_append.mp h).elim (fun h => wsL_law_in0 w h) (fun h => wsL_law_x0 w h)) (fun h => wsL_law_x1 w h)) (fun h => wsL_law_x2 w h)) (fun h => wsL_law_x3 w h)
theorem inlX0 : ∀ w ∈ wsX00, w ∈ wsL_law := fun _ h => List.mem_append_left _ (List.mem_append_left _ (List.mem_append_left _ (List.mem_append_left _ (List.mem_append_left _ (List.mem_append_right _ h)))))
theorem inX0 : ∀ w ∈ wsX00, w ∈ lw_tbl := fun w h => wsL_law_in w (inlX0 w h)
theorem inlX1 : ∀ w ∈ wsX10, w ∈ wsL_law := fun _ h => List.mem_append_left _ (List.mem_append_left _ (List.mem_append_left _ (List.mem_append_left _ (List.mem_append_left _ (List.mem_append_left _ (List.mem_append_right _ h))))))
theorem inX1 : ∀ w ∈ wsX10, w ∈ lw_tbl := fun w h => wsL_law_in w (inlX1 w h)
theorem inlX2 : ∀ w ∈ wsX20, w ∈ wsL_law := fun _ h => List.mem_append_left _ (List.mem_append_left _ (List.mem_append_left _ (List.mem_append_left _ (List.mem_append_left _ (List.mem_append_left _ (List.mem_append_left _ (List.mem_append_right _ h)))))))
theorem inX2 : ∀ w ∈ wsX20, w ∈ lw_tbl := fun w h => wsL_law_in w (inlX2 w h)
theorem inlX3 : ∀ w ∈ wsX30, w ∈ wsL_law := fun _ h => List.mem_append_left _ (List.mem_append_left _ (List.mem_append_left _ (List.mem_append_left _ (List.mem_append_left _ (List.mem_append_left _ (List.mem_append_left _ (List.mem_append_left _ (List.mem_append_right _ h))))))))
theorem inX3 : ∀ w ∈ wsX30, w ∈ lw_tbl := fun w h => wsL_law_in w (inlX3 w h)
theorem inlX4 : ∀ w ∈ wsX40, w ∈ wsL_law := fun _ h => List.mem_append_left _ (List.mem_append_left _ (List.mem_append_left _ (List.mem_append_left _ (List.mem_append_left _ (List.mem_append_left _ (List.mem_append_left _ (List.mem_append_left _ (List.mem_append_left _ (List.mem_append_left _ (List.mem_append_right _ h))))))))))
theorem inX4 : ∀ w ∈ wsX40, w ∈ lw_tbl := fun w h => wsL_law_in w (inlX4 w h)
theorem inlX5 : ∀ w ∈ wsX50, w ∈ wsL_law := fun _ h => List.mem_append_left _ (List.mem_append_left _ (List.mem_append_left _ (List.mem_append_left _ (List.mem_append_left _ (List.mem_append_left _ (List.mem_append_left _ (List.mem_append_left _ (List.mem_append_left _ (List.mem_append_right _ h)))))))))
theorem inX5 : ∀ w ∈ wsX50, w ∈ lw_tbl := fun w h => wsL_law_in w (inlX5 w h)
theorem inJ6 : ∀ w ∈ wsJ60, w ∈ lw_tbl := by decide +kernel
theorem inJ13 : ∀ w ∈ wsJ130, w ∈ lw_tbl := by decide +kernel
theorem inJ9 : ∀ w ∈ wsJ90, w ∈ lw_tbl := by decide +kernel
theorem inJ0 : ∀ w ∈ wsJ00, w ∈ lw_tbl := by decide +kernel
theorem dX0_init_0 : decode cX0_init 0 = .ok (.aload_n 0, 1) := by decide +kernel
theorem dX0_init_1 : decode cX0_init 1 = .ok (.invokespecial 1, 3) := by decide +kernel
theorem dX0_init_4 : decode cX0_init 4 = .ok (.aload_n 0, 1) := by decide +kernel
theorem dX0_init_5 : decode cX0_init 5 = .ok (.iload_n 1, 1) := by decide +kernel
theorem dX0_init_6 : decode cX0_init 6 = .ok (.putfield 7, 3) := by decide +kernel
theorem dX0_init_9 : decode cX0_init 9 = .ok (.aload_n 0, 1) := by decide +kernel
theorem dX0_init_10 : decode cX0_init 10 = .ok (.lload_n 2, 1) := by decide +kernel
theorem dX0_init_11 : decode cX0_init 11 = .ok (.putfield 13, 3) := by decide +kernel
theorem dX0_init_14 : decode cX0_init 14 = .ok (.aload_n 0, 1) := by decide +kernel
theorem dX0_init_15 : decode cX0_init 15 = .ok (.iload 4, 2) := by decide +kernel
theorem dX0_init_17 : decode cX0_init 17 = .ok (.putfield 17, 3) := by decide +kernel
theorem dX0_init_20 : decode cX0_init 20 = .ok (.aload_n 0, 1) := by decide +kernel
theorem dX0_init_21 : decode cX0_init 21 = .ok (.aload 5, 2) := by decide +kernel
theorem dX0_init_23 : decode cX0_init 23 = .ok (.putfield 20, 3) := by decide +kernel
theorem dX0_init_26 : decode cX0_init 26 = .ok (.return_, 1) := by decide +kernel
theorem dX1_init_0 : decode cX1_init 0 = .ok (.aload_n 0, 1) := by decide +kernel
theorem dX1_init_1 : decode cX1_init 1 = .ok (.invokespecial 3, 3) := by decide +kernel
theorem dX1_init_4 : decode cX1_init 4 = .ok (.aload_n 0, 1) := by decide +kernel
theorem dX1_init_5 : decode cX1_init 5 = .ok (.aconst_null, 1) := by decide +kernel
theorem dX1_init_6 : decode cX1_init 6 = .ok (.putfield 9, 3) := by decide +kernel
theorem dX1_init_9 : decode cX1_init 9 = .ok (.aload_n 0, 1) := by decide +kernel
theorem dX1_init_10 : decode cX1_init 10 = .ok (.iconst 0, 1) := by decide +kernel
theorem dX1_init_11 : decode cX1_init 11 = .ok (.putfield 15, 3) := by decide +kernel
theorem dX1_init_14 : decode cX1_init 14 = .ok (.return_, 1) := by decide +kernel
set_option maxRecDepth 20000 in
theorem ggX1_add_X0_init : GoodIn wsX1_add wsX0_init := goodIn_r _ [7, 8, 9, 10, 11, 12, 13, 14, 15, 16, 17, 18] (by decide +kernel) (by decide +kernel)
set_option maxRecDepth 20000 in
theorem gX1_add_X0_init : GoodIn wsX1_add (wsX0_init) := ggX1_add_X0_init
theorem dX1_add_0 : decode cX1_add 0 = .ok (.aload_n 0, 1) := by decide +kernel
theorem dX1_add_1 : decode cX1_add 1 = .ok (.new 19, 3) := by decide +kernel
theorem dX1_add_4 : decode cX1_add 4 = .ok (.dup, 1) := by decide +kernel
theorem dX1_add_5 : decode cX1_add 5 = .ok (.iload_n 1, 1) := by decide +kernel
theorem dX1_add_6 : decode cX1_add 6 = .ok (.lload_n 2, 1) := by decide +kernel
theorem dX1_add_7 : decode cX1_add 7 = .ok (.iload 4, 2) := by decide +kernel
theorem dX1_add_9 : decode cX1_add 9 = .ok (.aload_n 0, 1) := by decide +kernel
theorem dX1_add_10 : decode cX1_add 10 = .ok (.getfield 9, 3) := by decide +kernel
theorem dX1_add_13 : decode cX1_add 13 = .ok (.invokespecial 21, 3) := by decide +kernel
theorem dX1_add_16 : decode cX1_add 16 = .ok (.putfield 9, 3) := by decide +kernel
theorem dX1_add_19 : decode cX1_add 19 = .ok (.return_, 1) := by decide +kernel
theorem dX1_changeAt_0 : decode cX1_changeAt 0 = .ok (.aload_n 0, 1) := by decide +kernel
theorem dX1_changeAt_1 : decode cX1_changeAt 1 = .ok (.getfield 9, 3) := by decide +kernel
theorem dX1_changeAt_4 : decode cX1_changeAt 4 = .ok (.astore_n 2, 1) := by decide +kernel
theorem dX1_changeAt_5 : decode cX1_changeAt 5 = .ok (.aload_n 2, 1) := by decide +kernel
theorem dX1_changeAt_6 : decode cX1_changeAt 6 = .ok (.ifnull 19, 3) := by decide +kernel
theorem dX1_changeAt_9 : decode cX1_changeAt 9 = .ok (.aload_n 2, 1) := by decide +kernel
theorem dX1_changeAt_10 : decode cX1_changeAt 10 = .ok (.getfield 24, 3) := by decide +kernel
theorem dX1_changeAt_13 : decode cX1_changeAt 13 = .ok (.iload_n 1, 1) := by decide +kernel
theorem dX1_changeAt_14 : decode cX1_changeAt 14 = .ok (.if_icmp .le 11, 3) := by decide +kernel
theorem dX1_changeAt_17 : decode cX1_changeAt 17 = .ok (.aload_n 2, 1) := by decide +kernel
theorem dX1_changeAt_18 : decode cX1_changeAt 18 = .ok (.getfield 27, 3) := by decide +kernel
theorem dX1_changeAt_21 : decode cX1_changeAt 21 = .ok (.astore_n 2, 1) := by decide +kernel
theorem dX1_changeAt_22 : decode cX1_changeAt 22 = .ok (.goto (-17), 3) := by decide +kernel
theorem dX1_changeAt_25 : decode cX1_changeAt 25 = .ok (.aload_n 2, 1) := by decide +kernel
theorem dX1_changeAt_26 : decode cX1_changeAt 26 = .ok (.areturn, 1) := by decide +kernel
set_option maxRecDepth 20000 in
theorem ggX1_isOnAt_X1_changeAt : GoodIn wsX1_isOnAt wsX1_changeAt := goodIn_r _ [6, 7, 8, 9, 14, 15, 10, 11, 12, 13] (by decide +kernel) (by decide +kernel)
set_option maxRecDepth 20000 in
theorem gX1_isOnAt_X1_changeAt : GoodIn wsX1_isOnAt (wsV RX1 30 RX1 yX1_changeAt wsX1_changeAt) := goodIn_app (goodIn_of _ (by decide +kernel)) ggX1_isOnAt_X1_changeAt
theorem dX1_isOnAt_0 : decode cX1_isOnAt 0 = .ok (.aload_n 0, 1) := by decide +kernel
theorem dX1_isOnAt_1 : decode cX1_isOnAt 1 = .ok (.iload_n 1, 1) := by decide +kernel
theorem dX1_isOnAt_2 : decode cX1_isOnAt 2 = .ok (.invokevirtual 30, 3) := by decide +kernel
theorem dX1_isOnAt_5 : decode cX1_isOnAt 5 = .ok (.astore_n 2, 1) := by decide +kernel
theorem dX1_isOnAt_6 : decode cX1_isOnAt 6 = .ok (.aload_n 2, 1) := by decide +kernel
theorem dX1_isOnAt_7 : decode cX1_isOnAt 7 = .ok (.ifnull 16, 3) := by decide +kernel
theorem dX1_isOnAt_10 : decode cX1_isOnAt 10 = .ok (.aload_n 2, 1) := by decide +kernel
theorem dX1_isOnAt_11 : decode cX1_isOnAt 11 = .ok (.getfield 34, 3) := by decide +kernel
theorem dX1_isOnAt_14 : decode cX1_isOnAt 14 = .ok (.lconst 0, 1) := by decide +kernel
theorem dX1_isOnAt_15 : decode cX1_isOnAt 15 = .ok (.lcmp, 1) := by decide +kernel
theorem dX1_isOnAt_16 : decode cX1_isOnAt 16 = .ok (.ifCond .eq 7, 3) := by decide +kernel
theorem dX1_isOnAt_19 : decode cX1_isOnAt 19 = .ok (.iconst 1, 1) := by decide +kernel
theorem dX1_isOnAt_20 : decode cX1_isOnAt 20 = .ok (.goto 4, 3) := by decide +kernel
theorem dX1_isOnAt_23 : decode cX1_isOnAt 23 = .ok (.iconst 0, 1) := by decide +kernel
theorem dX1_isOnAt_24 : decode cX1_isOnAt 24 = .ok (.ireturn, 1) := by decide +kernel
set_option maxRecDepth 20000 in
theorem ggX1_yearsOpen_X1_changeAt : GoodIn wsX1_yearsOpen wsX1_changeAt := goodIn_r _ [7, 8, 9, 10, 18, 19, 14, 15, 16, 17] (by decide +kernel) (by decide +kernel)
set_option maxRecDepth 20000 in
theorem gX1_yearsOpen_X1_changeAt : GoodIn wsX1_yearsOpen (wsV RX1 30 RX1 yX1_changeAt wsX1_changeAt) := goodIn_app (goodIn_of _ (by decide +kernel)) ggX1_yearsOpen_X1_changeAt
set_option maxRecDepth 20000 in
theorem ggX1_yearsOpen_X4_yearsBetween : GoodIn wsX1_yearsOpen wsX4_yearsBetween := goodIn_r _ [13] (by decide +kernel) (by decide +kernel)
set_option maxRecDepth 20000 in
theorem gX1_yearsOpen_X4_yearsBetween_n41 : GoodIn wsX1_yearsOpen (wsX4_yearsBetween) := ggX1_yearsOpen_X4_yearsBetween
theorem dX1_yearsOpen_0 : decode cX1_yearsOpen 0 = .ok (.aload_n 0, 1) := by decide +kernel
theorem dX1_yearsOpen_1 : decode cX1_yearsOpen 1 = .ok (.iload_n 1, 1) := by decide +kernel
theorem dX1_yearsOpen_2 : decode cX1_yearsOpen 2 = .ok (.invokevirtual 30, 3) := by decide +kernel
theorem dX1_yearsOpen_5 : decode cX1_yearsOpen 5 = .ok (.astore_n 2, 1) := by decide +kernel
theorem dX1_yearsOpen_6 : decode cX1_yearsOpen 6 = .ok (.aload_n 2, 1) := by decide +kernel
theorem dX1_yearsOpen_7 : decode cX1_yearsOpen 7 = .ok (.ifnonnull 7, 3) := by decide +kernel
theorem dX1_yearsOpen_10 : decode cX1_yearsOpen 10 = .ok (.lconst 0, 1) := by decide +kernel
theorem dX1_yearsOpen_11 : decode cX1_yearsOpen 11 = .ok (.goto 22, 3) := by decide +kernel
theorem dX1_yearsOpen_14 : decode cX1_yearsOpen 14 = .ok (.aload_n 2, 1) := by decide +kernel
theorem dX1_yearsOpen_15 : decode cX1_yearsOpen 15 = .ok (.getfield 34, 3) := by decide +kernel
theorem dX1_yearsOpen_18 : decode cX1_yearsOpen 18 = .ok (.iconst 0, 1) := by decide +kernel
theorem dX1_yearsOpen_19 : decode cX1_yearsOpen 19 = .ok (.iload_n 1, 1) := by decide +kernel
theorem dX1_yearsOpen_20 : decode cX1_yearsOpen 20 = .ok (.sipush 360, 3) := by decide +kernel
theorem dX1_yearsOpen_23 : decode cX1_yearsOpen 23 = .ok (.idiv, 1) := by decide +kernel
theorem dX1_yearsOpen_24 : decode cX1_yearsOpen 24 = .ok (.aload_n 2, 1) := by decide +kernel
theorem dX1_yearsOpen_25 : decode cX1_yearsOpen 25 = .ok (.getfield 38, 3) := by decide +kernel
theorem dX1_yearsOpen_28 : decode cX1_yearsOpen 28 = .ok (.isub, 1) := by decide +kernel
theorem dX1_yearsOpen_29 : decode cX1_yearsOpen 29 = .ok (.invokestatic 41, 3) := by decide +kernel
theorem dX1_yearsOpen_32 : decode cX1_yearsOpen 32 = .ok (.land, 1) := by decide +kernel
theorem dX1_yearsOpen_33 : decode cX1_yearsOpen 33 = .ok (.lreturn, 1) := by decide +kernel
set_option maxRecDepth 20000 in
theorem ggX1_yearsKept_X4_yearsBetween : GoodIn wsX1_yearsKept wsX4_yearsBetween := goodIn_r _ [12] (by decide +kernel) (by decide +kernel)
set_option maxRecDepth 20000 in
theorem gX1_yearsKept_X4_yearsBetween_n41 : GoodIn wsX1_yearsKept (wsX4_yearsBetween) := ggX1_yearsKept_X4_yearsBetween
theorem dX1_yearsKept_0 : decode cX1_yearsKept 0 = .ok (.iload_n 1, 1) := by decide +kernel
theorem dX1_yearsKept_1 : decode cX1_yearsKept 1 = .ok (.sipush 360, 3) := by decide +kernel
theorem dX1_yearsKept_4 : decode cX1_yearsKept 4 = .ok (.idiv, 1) := by decide +kernel
theorem dX1_yearsKept_5 : decode cX1_yearsKept 5 = .ok (.istore_n 2, 1) := by decide +kernel
theorem dX1_yearsKept_6 : decode cX1_yearsKept 6 = .ok (.iload_n 1, 1) := by decide +kernel
theorem dX1_yearsKept_7 : decode cX1_yearsKept 7 = .ok (.istore_n 3, 1) := by decide +kernel
theorem dX1_yearsKept_8 : decode cX1_yearsKept 8 = .ok (.lconst 0, 1) := by decide +kernel
theorem dX1_yearsKept_9 : decode cX1_yearsKept 9 = .ok (.lstore 4, 2) := by decide +kernel
theorem dX1_yearsKept_11 : decode cX1_yearsKept 11 = .ok (.aload_n 0, 1) := by decide +kernel
theorem dX1_yearsKept_12 : decode cX1_yearsKept 12 = .ok (.getfield 9, 3) := by decide +kernel
theorem dX1_yearsKept_15 : decode cX1_yearsKept 15 = .ok (.astore 6, 2) := by decide +kernel
theorem dX1_yearsKept_17 : decode cX1_yearsKept 17 = .ok (.aload 6, 2) := by decide +kernel
theorem dX1_yearsKept_19 : decode cX1_yearsKept 19 = .ok (.ifnull 75, 3) := by decide +kernel
theorem dX1_yearsKept_22 : decode cX1_yearsKept 22 = .ok (.aload 6, 2) := by decide +kernel
theorem dX1_yearsKept_24 : decode cX1_yearsKept 24 = .ok (.getfield 24, 3) := by decide +kernel
theorem dX1_yearsKept_27 : decode cX1_yearsKept 27 = .ok (.sipush 360, 3) := by decide +kernel
theorem dX1_yearsKept_30 : decode cX1_yearsKept 30 = .ok (.idiv, 1) := by decide +kernel
theorem dX1_yearsKept_31 : decode cX1_yearsKept 31 = .ok (.istore 7, 2) := by decide +kernel
theorem dX1_yearsKept_33 : decode cX1_yearsKept 33 = .ok (.iload_n 3, 1) := by decide +kernel
theorem dX1_yearsKept_34 : decode cX1_yearsKept 34 = .ok (.sipush 360, 3) := by decide +kernel
theorem dX1_yearsKept_37 : decode cX1_yearsKept 37 = .ok (.idiv, 1) := by decide +kernel
theorem dX1_yearsKept_38 : decode cX1_yearsKept 38 = .ok (.iconst 1, 1) := by decide +kernel
theorem dX1_yearsKept_39 : decode cX1_yearsKept 39 = .ok (.isub, 1) := by decide +kernel
theorem dX1_yearsKept_40 : decode cX1_yearsKept 40 = .ok (.istore 8, 2) := by decide +kernel
theorem dX1_yearsKept_42 : decode cX1_yearsKept 42 = .ok (.iload_n 2, 1) := by decide +kernel
theorem dX1_yearsKept_43 : decode cX1_yearsKept 43 = .ok (.aload 6, 2) := by decide +kernel
theorem dX1_yearsKept_45 : decode cX1_yearsKept 45 = .ok (.getfield 38, 3) := by decide +kernel
theorem dX1_yearsKept_48 : decode cX1_yearsKept 48 = .ok (.isub, 1) := by decide +kernel
theorem dX1_yearsKept_49 : decode cX1_yearsKept 49 = .ok (.istore 9, 2) := by decide +kernel
theorem dX1_yearsKept_51 : decode cX1_yearsKept 51 = .ok (.lload 4, 2) := by decide +kernel
theorem dX1_yearsKept_53 : decode cX1_yearsKept 53 = .ok (.aload 6, 2) := by decide +kernel
theorem dX1_yearsKept_55 : decode cX1_yearsKept 55 = .ok (.getfield 34, 3) := by decide +kernel
theorem dX1_yearsKept_58 : decode cX1_yearsKept 58 = .ok (.iload 7, 2) := by decide +kernel
theorem dX1_yearsKept_60 : decode cX1_yearsKept 60 = .ok (.iload 8, 2) := by decide +kernel
theorem dX1_yearsKept_62 : decode cX1_yearsKept 62 = .ok (.iload 9, 2) := by decide +kernel
theorem dX1_yearsKept_64 : decode cX1_yearsKept 64 = .ok (.invokestatic 45, 3) := by decide +kernel
theorem dX1_yearsKept_67 : decode cX1_yearsKept 67 = .ok (.invokestatic 41, 3) := by decide +kernel
theorem dX1_yearsKept_70 : decode cX1_yearsKept 70 = .ok (.land, 1) := by decide +kernel
theorem dX1_yearsKept_71 : decode cX1_yearsKept 71 = .ok (.lor, 1) := by decide +kernel
theorem dX1_yearsKept_72 : decode cX1_yearsKept 72 = .ok (.lstore 4, 2) := by decide +kernel
theorem dX1_yearsKept_74 : decode cX1_yearsKept 74 = .ok (.iload_n 3, 1) := by decide +kernel
theorem dX1_yearsKept_75 : decode cX1_yearsKept 75 = .ok (.aload 6, 2) := by decide +kernel
theorem dX1_yearsKept_77 : decode cX1_yearsKept 77 = .ok (.getfield 24, 3) := by decide +kernel
theorem dX1_yearsKept_80 : decode cX1_yearsKept 80 = .ok (.invokestatic 45, 3) := by decide +kernel
theorem dX1_yearsKept_83 : decode cX1_yearsKept 83 = .ok (.istore_n 3, 1) := by decide +kernel
theorem dX1_yearsKept_84 : decode cX1_yearsKept 84 = .ok (.aload 6, 2) := by decide +kernel
theorem dX1_yearsKept_86 : decode cX1_yearsKept 86 = .ok (.getfield 27, 3) := by decide +kernel
theorem dX1_yearsKept_89 : decode cX1_yearsKept 89 = .ok (.astore 6, 2) := by decide +kernel
theorem dX1_yearsKept_91 : decode cX1_yearsKept 91 = .ok (.goto (-74), 3) := by decide +kernel
theorem dX1_yearsKept_94 : decode cX1_yearsKept 94 = .ok (.lload 4, 2) := by decide +kernel
theorem dX1_yearsKept_96 : decode cX1_yearsKept 96 = .ok (.lreturn, 1) := by decide +kernel
set_option maxRecDepth 20000 in
theorem ggX2_init_X1_init : GoodIn wsX2_init wsX1_init := goodIn_r _ [15, 16, 2, 3, 17, 18, 25, 26] (by decide +kernel) (by decide +kernel)
set_option maxRecDepth 20000 in
theorem gX2_init_X1_init : GoodIn wsX2_init (wsX1_init) := ggX2_init_X1_init
theorem dX2_init_0 : decode cX2_init 0 = .ok (.aload_n 0, 1) := by decide +kernel
theorem dX2_init_1 : decode cX2_init 1 = .ok (.invokespecial 3, 3) := by decide +kernel
theorem dX2_init_4 : decode cX2_init 4 = .ok (.aload_n 0, 1) := by decide +kernel
theorem dX2_init_5 : decode cX2_init 5 = .ok (.iload_n 1, 1) := by decide +kernel
theorem dX2_init_6 : decode cX2_init 6 = .ok (.putfield 9, 3) := by decide +kernel
theorem dX2_init_9 : decode cX2_init 9 = .ok (.aload_n 0, 1) := by decide +kernel
theorem dX2_init_10 : decode cX2_init 10 = .ok (.iload_n 2, 1) := by decide +kernel
theorem dX2_init_11 : decode cX2_init 11 = .ok (.putfield 15, 3) := by decide +kernel
theorem dX2_init_14 : decode cX2_init 14 = .ok (.aload_n 0, 1) := by decide +kernel
theorem dX2_init_15 : decode cX2_init 15 = .ok (.iload_n 3, 1) := by decide +kernel
theorem dX2_init_16 : decode cX2_init 16 = .ok (.putfield 18, 3) := by decide +kernel
theorem dX2_init_19 : decode cX2_init 19 = .ok (.aload_n 0, 1) := by decide +kernel
theorem dX2_init_20 : decode cX2_init 20 = .ok (.iload 4, 2) := by decide +kernel
theorem dX2_init_22 : decode cX2_init 22 = .ok (.putfield 21, 3) := by decide +kernel
theorem dX2_init_25 : decode cX2_init 25 = .ok (.aload_n 0, 1) := by decide +kernel
theorem dX2_init_26 : decode cX2_init 26 = .ok (.new 25, 3) := by decide +kernel
theorem dX2_init_29 : decode cX2_init 29 = .ok (.dup, 1) := by decide +kernel
theorem dX2_init_30 : decode cX2_init 30 = .ok (.invokespecial 27, 3) := by decide +kernel
theorem dX2_init_33 : decode cX2_init 33 = .ok (.putfield 28, 3) := by decide +kernel
theorem dX2_init_36 : decode cX2_init 36 = .ok (.aload_n 0, 1) := by decide +kernel
theorem dX2_init_37 : decode cX2_init 37 = .ok (.bipush 20, 2) := by decide +kernel
theorem dX2_init_39 : decode cX2_init 39 = .ok (.anewarray 25, 3) := by decide +kernel
theorem dX2_init_42 : decode cX2_init 42 = .ok (.putfield 32, 3) := by decide +kernel
theorem dX2_init_45 : decode cX2_init 45 = .ok (.iconst 0, 1) := by decide +kernel
theorem dX2_init_46 : decode cX2_init 46 = .ok (.istore 5, 2) := by decide +kernel
theorem dX2_init_48 : decode cX2_init 48 = .ok (.iload 5, 2) := by decide +kernel
theorem dX2_init_50 : decode cX2_init 50 = .ok (.bipush 20, 2) := by decide +kernel
theorem dX2_init_52 : decode cX2_init 52 = .ok (.if_icmp .ge 23, 3) := by decide +kernel
theorem dX2_init_55 : decode cX2_init 55 = .ok (.aload_n 0, 1) := by decide +kernel
theorem dX2_init_56 : decode cX2_init 56 = .ok (.getfield 32, 3) := by decide +kernel
theorem dX2_init_59 : decode cX2_init 59 = .ok (.iload 5, 2) := by decide +kernel
theorem dX2_init_61 : decode cX2_init 61 = .ok (.new 25, 3) := by decide +kernel
theorem dX2_init_64 : decode cX2_init 64 = .ok (.dup, 1) := by decide +kernel
theorem dX2_init_65 : decode cX2_init 65 = .ok (.invokespecial 27, 3) := by decide +kernel
theorem dX2_init_68 : decode cX2_init 68 = .ok (.aastore, 1) := by decide +kernel
theorem dX2_init_69 : decode cX2_init 69 = .ok (.iinc 5 1, 3) := by decide +kernel
theorem dX2_init_72 : decode cX2_init 72 = .ok (.goto (-24), 3) := by decide +kernel
theorem dX2_init_75 : decode cX2_init 75 = .ok (.return_, 1) := by decide +kernel
theorem dX2_stayOf_0 : decode cX2_stayOf 0 = .ok (.iload_n 1, 1) := by decide +kernel
theorem dX2_stayOf_1 : decode cX2_stayOf 1 = .ok (.ifCond .lt 21, 3) := by decide +kernel
theorem dX2_stayOf_4 : decode cX2_stayOf 4 = .ok (.iload_n 1, 1) := by decide +kernel
theorem dX2_stayOf_5 : decode cX2_stayOf 5 = .ok (.aload_n 0, 1) := by decide +kernel
theorem dX2_stayOf_6 : decode cX2_stayOf 6 = .ok (.getfield 32, 3) := by decide +kernel
theorem dX2_stayOf_9 : decode cX2_stayOf 9 = .ok (.arraylength, 1) := by decide +kernel
theorem dX2_stayOf_10 : decode cX2_stayOf 10 = .ok (.if_icmp .ge 12, 3) := by decide +kernel
theorem dX2_stayOf_13 : decode cX2_stayOf 13 = .ok (.aload_n 0, 1) := by decide +kernel
theorem dX2_stayOf_14 : decode cX2_stayOf 14 = .ok (.getfield 32, 3) := by decide +kernel
theorem dX2_stayOf_17 : decode cX2_stayOf 17 = .ok (.iload_n 1, 1) := by decide +kernel
theorem dX2_stayOf_18 : decode cX2_stayOf 18 = .ok (.aaload, 1) := by decide +kernel
theorem dX2_stayOf_19 : decode cX2_stayOf 19 = .ok (.ifnonnull 13, 3) := by decide +kernel
theorem dX2_stayOf_22 : decode cX2_stayOf 22 = .ok (.new 36, 3) := by decide +kernel
theorem dX2_stayOf_25 : decode cX2_stayOf 25 = .ok (.dup, 1) := by decide +kernel
theorem dX2_stayOf_26 : decode cX2_stayOf 26 = .ok (.ldc 38, 2) := by decide +kernel
theorem dX2_stayOf_28 : decode cX2_stayOf 28 = .ok (.invokespecial 40, 3) := by decide +kernel
theorem dX2_stayOf_31 : decode cX2_stayOf 31 = .ok (.athrow, 1) := by decide +kernel
theorem dX2_stayOf_32 : decode cX2_stayOf 32 = .ok (.aload_n 0, 1) := by decide +kernel
theorem dX2_stayOf_33 : decode cX2_stayOf 33 = .ok (.getfield 32, 3) := by decide +kernel
theorem dX2_stayOf_36 : decode cX2_stayOf 36 = .ok (.iload_n 1, 1) := by decide +kernel
theorem dX2_stayOf_37 : decode cX2_stayOf 37 = .ok (.aaload, 1) := by decide +kernel
theorem dX2_stayOf_38 : decode cX2_stayOf 38 = .ok (.areturn, 1) := by decide +kernel
theorem dX2_letsIn_0 : decode cX2_letsIn 0 = .ok (.aload_n 0, 1) := by decide +kernel
theorem dX2_letsIn_1 : decode cX2_letsIn 1 = .ok (.getfield 18, 3) := by decide +kernel
theorem dX2_letsIn_4 : decode cX2_letsIn 4 = .ok (.iload_n 1, 1) := by decide +kernel
theorem dX2_letsIn_5 : decode cX2_letsIn 5 = .ok (.ishr, 1) := by decide +kernel
theorem dX2_letsIn_6 : decode cX2_letsIn 6 = .ok (.iconst 1, 1) := by decide +kernel
theorem dX2_letsIn_7 : decode cX2_letsIn 7 = .ok (.iand, 1) := by decide +kernel
theorem dX2_letsIn_8 : decode cX2_letsIn 8 = .ok (.iconst 1, 1) := by decide +kernel
theorem dX2_letsIn_9 : decode cX2_letsIn 9 = .ok (.if_icmp .ne 7, 3) := by decide +kernel
theorem dX2_letsIn_12 : decode cX2_letsIn 12 = .ok (.iconst 1, 1) := by decide +kernel
theorem dX2_letsIn_13 : decode cX2_letsIn 13 = .ok (.goto 4, 3) := by decide +kernel
theorem dX2_letsIn_16 : decode cX2_letsIn 16 = .ok (.iconst 0, 1) := by decide +kernel
theorem dX2_letsIn_17 : decode cX2_letsIn 17 = .ok (.ireturn, 1) := by decide +kernel
set_option maxRecDepth 20000 in
theorem ggX2_isBroken_X2_stayOf : GoodIn wsX2_isBroken wsX2_stayOf := goodIn_ca (goodIn_r _ [6, 7, 8, 9, 12, 13, 14, 15, 16, 17] (by decide +kernel) (by decide +kernel)) (goodIn_sub (fun _ h => List.mem_cons_of_mem _ (List.mem_append_right _ h)) (by decide +kernel))
set_option maxRecDepth 20000 in
theorem gX2_isBroken_X2_stayOf : GoodIn wsX2_isBroken (wsV RX2 43 RX2 yX2_stayOf wsX2_stayOf) := goodIn_app (goodIn_of _ (by decide +kernel)) ggX2_isBroken_X2_stayOf
theorem dX2_isBroken_0 : decode cX2_isBroken 0 = .ok (.aload_n 0, 1) := by decide +kernel
theorem dX2_isBroken_1 : decode cX2_isBroken 1 = .ok (.iload_n 1, 1) := by decide +kernel
theorem dX2_isBroken_2 : decode cX2_isBroken 2 = .ok (.invokevirtual 43, 3) := by decide +kernel
theorem dX2_isBroken_5 : decode cX2_isBroken 5 = .ok (.getfield 47, 3) := by decide +kernel
theorem dX2_isBroken_8 : decode cX2_isBroken 8 = .ok (.iconst 2, 1) := by decide +kernel
theorem dX2_isBroken_9 : decode cX2_isBroken 9 = .ok (.if_icmp .lt 7, 3) := by decide +kernel
theorem dX2_isBroken_12 : decode cX2_isBroken 12 = .ok (.iconst 1, 1) := by decide +kernel
theorem dX2_isBroken_13 : decode cX2_isBroken 13 = .ok (.goto 4, 3) := by decide +kernel
theorem dX2_isBroken_16 : decode cX2_isBroken 16 = .ok (.iconst 0, 1) := by decide +kernel
theorem dX2_isBroken_17 : decode cX2_isBroken 17 = .ok (.ireturn, 1) := by decide +kernel
set_option maxRecDepth 20000 in
theorem ggX2_yearsCovered_X2_yearsOpen : GoodIn wsX2_yearsCovered wsX2_yearsOpen := goodIn_ca (goodIn_r _ [5, 6, 7, 8, 9, 4, 10, 11, 12, 13, 14, 15, 16, 17, 18, 19, 20, 21, 22, 23, 24, 25, 26, 27, 28, 29, 30, 44, 45, 46, 47, 48, 49, 50, 51, 52, 53, 54, 55] (by decide +kernel) (by decide +kernel)) (goodIn_sub (fun _ h => List.mem_cons_of_mem _ (List.mem_append_right _ h)) (by decide +kernel))
set_option maxRecDepth 20000 in
theorem gX2_yearsCovered_X2_yearsOpen : GoodIn wsX2_yearsCovered (wsV RX2 50 RX2 yX2_yearsOpen wsX2_yearsOpen) := goodIn_app (goodIn_of _ (by decide +kernel)) ggX2_yearsCovered_X2_yearsOpen
set_option maxRecDepth 20000 in
theorem ggX2_yearsCovered_X2_yearsKept : GoodIn wsX2_yearsCovered wsX2_yearsKept := goodIn_ca (goodIn_r _ [34, 35, 6, 7, 8, 9, 4, 10, 11, 12, 13, 36, 37, 38, 17, 39, 25, 26, 20, 19, 40, 41, 42, 43, 27, 28, 29, 30, 44, 45, 46, 47, 48, 49, 54, 55, 50, 51, 52, 53] (by decide +kernel) (by decide +kernel)) (goodIn_sub (fun _ h => List.mem_cons_of_mem _ (List.mem_append_right _ h)) (by decide +kernel))
set_option maxRecDepth 20000 in
theorem gX2_yearsCovered_X2_yearsKept : GoodIn wsX2_yearsCovered (wsV RX2 54 RX2 yX2_yearsKept wsX2_yearsKept) := goodIn_app (goodIn_of _ (by decide +kernel)) ggX2_yearsCovered_X2_yearsKept
theorem dX2_yearsCovered_0 : decode cX2_yearsCovered 0 = .ok (.aload_n 0, 1) := by decide +kernel
theorem dX2_yearsCovered_1 : decode cX2_yearsCovered 1 = .ok (.iload_n 1, 1) := by decide +kernel
theorem dX2_yearsCovered_2 : decode cX2_yearsCovered 2 = .ok (.iload_n 2, 1) := by decide +kernel
theorem dX2_yearsCovered_3 : decode cX2_yearsCovered 3 = .ok (.invokevirtual 50, 3) := by decide +kernel
theorem dX2_yearsCovered_6 : decode cX2_yearsCovered 6 = .ok (.aload_n 0, 1) := by decide +kernel
theorem dX2_yearsCovered_7 : decode cX2_yearsCovered 7 = .ok (.iload_n 1, 1) := by decide +kernel
theorem dX2_yearsCovered_8 : decode cX2_yearsCovered 8 = .ok (.iload_n 2, 1) := by decide +kernel
theorem dX2_yearsCovered_9 : decode cX2_yearsCovered 9 = .ok (.invokevirtual 54, 3) := by decide +kernel
theorem dX2_yearsCovered_12 : decode cX2_yearsCovered 12 = .ok (.lor, 1) := by decide +kernel
theorem dX2_yearsCovered_13 : decode cX2_yearsCovered 13 = .ok (.lreturn, 1) := by decide +kernel
set_option maxRecDepth 20000 in
theorem ggX2_yearsOpen_X2_stayOf : GoodIn wsX2_yearsOpen wsX2_stayOf := goodIn_ca (goodIn_r _ [6, 7, 8, 9, 27, 28, 29, 30, 31, 32] (by decide +kernel) (by decide +kernel)) (goodIn_sub (fun _ h => List.mem_cons_of_mem _ (List.mem_append_right _ h)) (by decide +kernel))
set_option maxRecDepth 20000 in
theorem gX2_yearsOpen_X2_stayOf : GoodIn wsX2_yearsOpen (wsV RX2 43 RX2 yX2_stayOf wsX2_stayOf) := goodIn_app (goodIn_of _ (by decide +kernel)) ggX2_yearsOpen_X2_stayOf
set_option maxRecDepth 20000 in
theorem ggX2_yearsOpen_X1_yearsOpen : GoodIn wsX2_yearsOpen wsX1_yearsOpen := goodIn_r _ [14, 15, 16, 17, 18, 19, 13, 20, 21, 22, 23, 24, 25, 26, 33, 34, 35, 36, 37, 38] (by decide +kernel) (by decide +kernel)
set_option maxRecDepth 20000 in
theorem gX2_yearsOpen_X1_yearsOpen : GoodIn wsX2_yearsOpen (wsV RX2 57 RX1 yX1_yearsOpen wsX1_yearsOpen) := goodIn_app (goodIn_of _ (by decide +kernel)) ggX2_yearsOpen_X1_yearsOpen
theorem dX2_yearsOpen_0 : decode cX2_yearsOpen 0 = .ok (.aload_n 0, 1) := by decide +kernel
theorem dX2_yearsOpen_1 : decode cX2_yearsOpen 1 = .ok (.iload_n 1, 1) := by decide +kernel
theorem dX2_yearsOpen_2 : decode cX2_yearsOpen 2 = .ok (.invokevirtual 43, 3) := by decide +kernel
theorem dX2_yearsOpen_5 : decode cX2_yearsOpen 5 = .ok (.iload_n 2, 1) := by decide +kernel
theorem dX2_yearsOpen_6 : decode cX2_yearsOpen 6 = .ok (.invokevirtual 57, 3) := by decide +kernel
theorem dX2_yearsOpen_9 : decode cX2_yearsOpen 9 = .ok (.aload_n 0, 1) := by decide +kernel
theorem dX2_yearsOpen_10 : decode cX2_yearsOpen 10 = .ok (.getfield 28, 3) := by decide +kernel
theorem dX2_yearsOpen_13 : decode cX2_yearsOpen 13 = .ok (.iload_n 2, 1) := by decide +kernel
theorem dX2_yearsOpen_14 : decode cX2_yearsOpen 14 = .ok (.invokevirtual 57, 3) := by decide +kernel
theorem dX2_yearsOpen_17 : decode cX2_yearsOpen 17 = .ok (.land, 1) := by decide +kernel
theorem dX2_yearsOpen_18 : decode cX2_yearsOpen 18 = .ok (.lreturn, 1) := by decide +kernel
set_option maxRecDepth 20000 in
theorem ggX2_yearsKept_X2_stayOf : GoodIn wsX2_yearsKept wsX2_stayOf := goodIn_ca (goodIn_r _ [7, 8, 9, 10, 28, 29, 30, 31, 32, 33] (by decide +kernel) (by decide +kernel)) (goodIn_sub (fun _ h => List.mem_cons_of_mem _ (List.mem_append_right _ h)) (by decide +kernel))
set_option maxRecDepth 20000 in
theorem gX2_yearsKept_X2_stayOf : GoodIn wsX2_yearsKept (wsV RX2 43 RX2 yX2_stayOf wsX2_stayOf) := goodIn_app (goodIn_of _ (by decide +kernel)) ggX2_yearsKept_X2_stayOf
set_option maxRecDepth 20000 in
theorem ggX2_yearsKept_X1_yearsKept : GoodIn wsX2_yearsKept wsX1_yearsKept := goodIn_r _ [15, 16, 17, 18, 19, 20, 21, 22, 23, 24, 25, 26, 27, 34, 35, 36, 37, 38, 39] (by decide +kernel) (by decide +kernel)
set_option maxRecDepth 20000 in
theorem gX2_yearsKept_X1_yearsKept : GoodIn wsX2_yearsKept (wsV RX2 60 RX1 yX1_yearsKept wsX1_yearsKept) := goodIn_app (goodIn_of _ (by decide +kernel)) ggX2_yearsKept_X1_yearsKept
theorem dX2_yearsKept_0 : decode cX2_yearsKept 0 = .ok (.aload_n 0, 1) := by decide +kernel
theorem dX2_yearsKept_1 : decode cX2_yearsKept 1 = .ok (.getfield 21, 3) := by decide +kernel
theorem dX2_yearsKept_4 : decode cX2_yearsKept 4 = .ok (.ifCond .ne 5, 3) := by decide +kernel
theorem dX2_yearsKept_7 : decode cX2_yearsKept 7 = .ok (.lconst 0, 1) := by decide +kernel
theorem dX2_yearsKept_8 : decode cX2_yearsKept 8 = .ok (.lreturn, 1) := by decide +kernel
theorem dX2_yearsKept_9 : decode cX2_yearsKept 9 = .ok (.aload_n 0, 1) := by decide +kernel
theorem dX2_yearsKept_10 : decode cX2_yearsKept 10 = .ok (.iload_n 1, 1) := by decide +kernel
theorem dX2_yearsKept_11 : decode cX2_yearsKept 11 = .ok (.invokevirtual 43, 3) := by decide +kernel
theorem dX2_yearsKept_14 : decode cX2_yearsKept 14 = .ok (.iload_n 2, 1) := by decide +kernel
theorem dX2_yearsKept_15 : decode cX2_yearsKept 15 = .ok (.invokevirtual 60, 3) := by decide +kernel
theorem dX2_yearsKept_18 : decode cX2_yearsKept 18 = .ok (.lstore_n 3, 1) := by decide +kernel
theorem dX2_yearsKept_19 : decode cX2_yearsKept 19 = .ok (.lload_n 3, 1) := by decide +kernel
theorem dX2_yearsKept_20 : decode cX2_yearsKept 20 = .ok (.lconst 0, 1) := by decide +kernel
theorem dX2_yearsKept_21 : decode cX2_yearsKept 21 = .ok (.lcmp, 1) := by decide +kernel
theorem dX2_yearsKept_22 : decode cX2_yearsKept 22 = .ok (.ifCond .ne 7, 3) := by decide +kernel
theorem dX2_yearsKept_25 : decode cX2_yearsKept 25 = .ok (.lconst 0, 1) := by decide +kernel
theorem dX2_yearsKept_26 : decode cX2_yearsKept 26 = .ok (.goto 13, 3) := by decide +kernel
theorem dX2_yearsKept_29 : decode cX2_yearsKept 29 = .ok (.lload_n 3, 1) := by decide +kernel
theorem dX2_yearsKept_30 : decode cX2_yearsKept 30 = .ok (.aload_n 0, 1) := by decide +kernel
theorem dX2_yearsKept_31 : decode cX2_yearsKept 31 = .ok (.getfield 28, 3) := by decide +kernel
theorem dX2_yearsKept_34 : decode cX2_yearsKept 34 = .ok (.iload_n 2, 1) := by decide +kernel
theorem dX2_yearsKept_35 : decode cX2_yearsKept 35 = .ok (.invokevirtual 60, 3) := by decide +kernel
theorem dX2_yearsKept_38 : decode cX2_yearsKept 38 = .ok (.land, 1) := by decide +kernel
theorem dX2_yearsKept_39 : decode cX2_yearsKept 39 = .ok (.lreturn, 1) := by decide +kernel
theorem dX3_init_0 : decode cX3_init 0 = .ok (.aload_n 0, 1) := by decide +kernel
theorem dX3_init_1 : decode cX3_init 1 = .ok (.invokespecial 1, 3) := by decide +kernel
theorem dX3_init_4 : decode cX3_init 4 = .ok (.aload_n 0, 1) := by decide +kernel
theorem dX3_init_5 : decode cX3_init 5 = .ok (.iload_n 1, 1) := by decide +kernel
theorem dX3_init_6 : decode cX3_init 6 = .ok (.putfield 7, 3) := by decide +kernel
theorem dX3_init_9 : decode cX3_init 9 = .ok (.aload_n 0, 1) := by decide +kernel
theorem dX3_init_10 : decode cX3_init 10 = .ok (.iload_n 2, 1) := by decide +kernel
theorem dX3_init_11 : decode cX3_init 11 = .ok (.putfield 13, 3) := by decide +kernel
theorem dX3_init_14 : decode cX3_init 14 = .ok (.return_, 1) := by decide +kernel
theorem dX3_firstVolume_0 : decode cX3_firstVolume 0 = .ok (.iload_n 1, 1) := by decide +kernel
theorem dX3_firstVolume_1 : decode cX3_firstVolume 1 = .ok (.aload_n 0, 1) := by decide +kernel
theorem dX3_firstVolume_2 : decode cX3_firstVolume 2 = .ok (.getfield 7, 3) := by decide +kernel
theorem dX3_firstVolume_5 : decode cX3_firstVolume 5 = .ok (.isub, 1) := by decide +kernel
theorem dX3_firstVolume_6 : decode cX3_firstVolume 6 = .ok (.aload_n 0, 1) := by decide +kernel
theorem dX3_firstVolume_7 : decode cX3_firstVolume 7 = .ok (.getfield 13, 3) := by decide +kernel
theorem dX3_firstVolume_10 : decode cX3_firstVolume 10 = .ok (.imul, 1) := by decide +kernel
theorem dX3_firstVolume_11 : decode cX3_firstVolume 11 = .ok (.iconst 1, 1) := by decide +kernel
theorem dX3_firstVolume_12 : decode cX3_firstVolume 12 = .ok (.iadd, 1) := by decide +kernel
theorem dX3_firstVolume_13 : decode cX3_firstVolume 13 = .ok (.ireturn, 1) := by decide +kernel
theorem dX4_init_0 : decode cX4_init 0 = .ok (.aload_n 0, 1) := by decide +kernel
theorem dX4_init_1 : decode cX4_init 1 = .ok (.invokespecial 3, 3) := by decide +kernel
theorem dX4_init_4 : decode cX4_init 4 = .ok (.aload_n 0, 1) := by decide +kernel
theorem dX4_init_5 : decode cX4_init 5 = .ok (.bipush 20, 2) := by decide +kernel
theorem dX4_init_7 : decode cX4_init 7 = .ok (.anewarray 9, 3) := by decide +kernel
theorem dX4_init_10 : decode cX4_init 10 = .ok (.putfield 11, 3) := by decide +kernel
theorem dX4_init_13 : decode cX4_init 13 = .ok (.aload_n 0, 1) := by decide +kernel
theorem dX4_init_14 : decode cX4_init 14 = .ok (.bipush 10, 2) := by decide +kernel
theorem dX4_init_16 : decode cX4_init 16 = .ok (.anewarray 15, 3) := by decide +kernel
theorem dX4_init_19 : decode cX4_init 19 = .ok (.putfield 17, 3) := by decide +kernel
theorem dX4_init_22 : decode cX4_init 22 = .ok (.aload_n 0, 1) := by decide +kernel
theorem dX4_init_23 : decode cX4_init 23 = .ok (.iconst 0, 1) := by decide +kernel
theorem dX4_init_24 : decode cX4_init 24 = .ok (.putfield 21, 3) := by decide +kernel
theorem dX4_init_27 : decode cX4_init 27 = .ok (.aload_n 0, 1) := by decide +kernel
theorem dX4_init_28 : decode cX4_init 28 = .ok (.iconst 0, 1) := by decide +kernel
theorem dX4_init_29 : decode cX4_init 29 = .ok (.putfield 25, 3) := by decide +kernel
theorem dX4_init_32 : decode cX4_init 32 = .ok (.aload_n 0, 1) := by decide +kernel
theorem dX4_init_33 : decode cX4_init 33 = .ok (.iconst 0, 1) := by decide +kernel
theorem dX4_init_34 : decode cX4_init 34 = .ok (.putfield 28, 3) := by decide +kernel
theorem dX4_init_37 : decode cX4_init 37 = .ok (.aload_n 0, 1) := by decide +kernel
theorem dX4_init_38 : decode cX4_init 38 = .ok (.iconst 0, 1) := by decide +kernel
theorem dX4_init_39 : decode cX4_init 39 = .ok (.putfield 31, 3) := by decide +kernel
theorem dX4_init_42 : decode cX4_init 42 = .ok (.return_, 1) := by decide +kernel
set_option maxRecDepth 20000 in
theorem ggX4_addTitle_X4_checkRange : GoodIn wsX4_addTitle wsX4_checkRange := goodIn_ca (goodIn_r _ [11, 12, 13] (by decide +kernel) (by decide +kernel)) (goodIn_sub (fun _ h => List.mem_cons_of_mem _ (List.mem_append_right _ h)) (by decide +kernel))
set_option maxRecDepth 20000 in
theorem gX4_addTitle_X4_checkRange : GoodIn wsX4_addTitle (va_wsS RX4 34 yX4_checkRange wsX4_checkRange) := goodIn_app (goodIn_of _ (by decide +kernel)) ggX4_addTitle_X4_checkRange
set_option maxRecDepth 20000 in
theorem ggX4_addTitle_X3_init : GoodIn wsX4_addTitle wsX3_init := goodIn_r _ [16, 17, 18, 19, 20, 21, 28, 29] (by decide +kernel) (by decide +kernel)
set_option maxRecDepth 20000 in
theorem gX4_addTitle_X3_init : GoodIn wsX4_addTitle (wsX3_init) := ggX4_addTitle_X3_init
theorem dX4_addTitle_0 : decode cX4_addTitle 0 = .ok (.iload_n 1, 1) := by decide +kernel
theorem dX4_addTitle_1 : decode cX4_addTitle 1 = .ok (.iconst 0, 1) := by decide +kernel
theorem dX4_addTitle_2 : decode cX4_addTitle 2 = .ok (.bipush 55, 2) := by decide +kernel
theorem dX4_addTitle_4 : decode cX4_addTitle 4 = .ok (.invokestatic 34, 3) := by decide +kernel
theorem dX4_addTitle_7 : decode cX4_addTitle 7 = .ok (.iload_n 2, 1) := by decide +kernel
theorem dX4_addTitle_8 : decode cX4_addTitle 8 = .ok (.iconst 1, 1) := by decide +kernel
theorem dX4_addTitle_9 : decode cX4_addTitle 9 = .ok (.iconst 4, 1) := by decide +kernel
theorem dX4_addTitle_10 : decode cX4_addTitle 10 = .ok (.invokestatic 34, 3) := by decide +kernel
theorem dX4_addTitle_13 : decode cX4_addTitle 13 = .ok (.aload_n 0, 1) := by decide +kernel
theorem dX4_addTitle_14 : decode cX4_addTitle 14 = .ok (.getfield 21, 3) := by decide +kernel
theorem dX4_addTitle_17 : decode cX4_addTitle 17 = .ok (.istore_n 3, 1) := by decide +kernel
theorem dX4_addTitle_18 : decode cX4_addTitle 18 = .ok (.iload_n 3, 1) := by decide +kernel
theorem dX4_addTitle_19 : decode cX4_addTitle 19 = .ok (.bipush 20, 2) := by decide +kernel
theorem dX4_addTitle_21 : decode cX4_addTitle 21 = .ok (.if_icmp .lt 13, 3) := by decide +kernel
theorem dX4_addTitle_24 : decode cX4_addTitle 24 = .ok (.new 38, 3) := by decide +kernel
theorem dX4_addTitle_27 : decode cX4_addTitle 27 = .ok (.dup, 1) := by decide +kernel
theorem dX4_addTitle_28 : decode cX4_addTitle 28 = .ok (.ldc 40, 2) := by decide +kernel
theorem dX4_addTitle_30 : decode cX4_addTitle 30 = .ok (.invokespecial 42, 3) := by decide +kernel
theorem dX4_addTitle_33 : decode cX4_addTitle 33 = .ok (.athrow, 1) := by decide +kernel
theorem dX4_addTitle_34 : decode cX4_addTitle 34 = .ok (.aload_n 0, 1) := by decide +kernel
theorem dX4_addTitle_35 : decode cX4_addTitle 35 = .ok (.getfield 11, 3) := by decide +kernel
theorem dX4_addTitle_38 : decode cX4_addTitle 38 = .ok (.iload_n 3, 1) := by decide +kernel
theorem dX4_addTitle_39 : decode cX4_addTitle 39 = .ok (.new 9, 3) := by decide +kernel
theorem dX4_addTitle_42 : decode cX4_addTitle 42 = .ok (.dup, 1) := by decide +kernel
theorem dX4_addTitle_43 : decode cX4_addTitle 43 = .ok (.iload_n 1, 1) := by decide +kernel
theorem dX4_addTitle_44 : decode cX4_addTitle 44 = .ok (.iload_n 2, 1) := by decide +kernel
theorem dX4_addTitle_45 : decode cX4_addTitle 45 = .ok (.invokespecial 45, 3) := by decide +kernel
theorem dX4_addTitle_48 : decode cX4_addTitle 48 = .ok (.aastore, 1) := by decide +kernel
theorem dX4_addTitle_49 : decode cX4_addTitle 49 = .ok (.aload_n 0, 1) := by decide +kernel
theorem dX4_addTitle_50 : decode cX4_addTitle 50 = .ok (.iload_n 3, 1) := by decide +kernel
theorem dX4_addTitle_51 : decode cX4_addTitle 51 = .ok (.iconst 1, 1) := by decide +kernel
theorem dX4_addTitle_52 : decode cX4_addTitle 52 = .ok (.iadd, 1) := by decide +kernel
theorem dX4_addTitle_53 : decode cX4_addTitle 53 = .ok (.putfield 21, 3) := by decide +kernel
theorem dX4_addTitle_56 : decode cX4_addTitle 56 = .ok (.iload_n 3, 1) := by decide +kernel
theorem dX4_addTitle_57 : decode cX4_addTitle 57 = .ok (.ireturn, 1) := by decide +kernel
set_option maxRecDepth 20000 in
theorem ggX4_yearOf_X4_existingTitle : GoodIn wsX4_yearOf wsX4_existingTitle := goodIn_ca (goodIn_r _ [6, 7, 8, 9, 10, 25, 26, 27, 28, 29, 30] (by decide +kernel) (by decide +kernel)) (goodIn_sub (fun _ h => List.mem_cons_of_mem _ (List.mem_append_left _ (List.mem_append_right _ h))) (by decide +kernel))
set_option maxRecDepth 20000 in
theorem gX4_yearOf_X4_existingTitle : GoodIn wsX4_yearOf (wsV RX4 48 RX4 yX4_existingTitle wsX4_existingTitle) := goodIn_app (goodIn_of _ (by decide +kernel)) ggX4_yearOf_X4_existingTitle
set_option maxRecDepth 20000 in
theorem ggX4_yearOf_X3_firstVolume : GoodIn wsX4_yearOf wsX3_firstVolume := goodIn_r _ [15, 16, 17, 23, 24] (by decide +kernel) (by decide +kernel)
set_option maxRecDepth 20000 in
theorem gX4_yearOf_X3_firstVolume : GoodIn wsX4_yearOf (wsV RX4 52 RX3 yX3_firstVolume wsX3_firstVolume) := goodIn_app (goodIn_of _ (by decide +kernel)) ggX4_yearOf_X3_firstVolume
set_option maxRecDepth 20000 in
theorem ggX4_yearOf_X4_checkRange : GoodIn wsX4_yearOf wsX4_checkRange := goodIn_ca (goodIn_r _ [20, 21, 22] (by decide +kernel) (by decide +kernel)) (goodIn_sub (fun _ h => List.mem_cons_of_mem _ (List.mem_append_right _ h)) (by decide +kernel))
set_option maxRecDepth 20000 in
theorem gX4_yearOf_X4_checkRange : GoodIn wsX4_yearOf (va_wsS RX4 34 yX4_checkRange wsX4_checkRange) := goodIn_app (goodIn_of _ (by decide +kernel)) ggX4_yearOf_X4_checkRange
theorem dX4_yearOf_0 : decode cX4_yearOf 0 = .ok (.aload_n 0, 1) := by decide +kernel
theorem dX4_yearOf_1 : decode cX4_yearOf 1 = .ok (.iload_n 1, 1) := by decide +kernel
theorem dX4_yearOf_2 : decode cX4_yearOf 2 = .ok (.invokevirtual 48, 3) := by decide +kernel
theorem dX4_yearOf_5 : decode cX4_yearOf 5 = .ok (.astore_n 3, 1) := by decide +kernel
theorem dX4_yearOf_6 : decode cX4_yearOf 6 = .ok (.iload_n 2, 1) := by decide +kernel
theorem dX4_yearOf_7 : decode cX4_yearOf 7 = .ok (.iconst 1, 1) := by decide +kernel
theorem dX4_yearOf_8 : decode cX4_yearOf 8 = .ok (.aload_n 3, 1) := by decide +kernel
theorem dX4_yearOf_9 : decode cX4_yearOf 9 = .ok (.bipush 56, 2) := by decide +kernel
theorem dX4_yearOf_11 : decode cX4_yearOf 11 = .ok (.invokevirtual 52, 3) := by decide +kernel
theorem dX4_yearOf_14 : decode cX4_yearOf 14 = .ok (.iconst 1, 1) := by decide +kernel
theorem dX4_yearOf_15 : decode cX4_yearOf 15 = .ok (.isub, 1) := by decide +kernel
theorem dX4_yearOf_16 : decode cX4_yearOf 16 = .ok (.invokestatic 34, 3) := by decide +kernel
theorem dX4_yearOf_19 : decode cX4_yearOf 19 = .ok (.aload_n 3, 1) := by decide +kernel
theorem dX4_yearOf_20 : decode cX4_yearOf 20 = .ok (.getfield 56, 3) := by decide +kernel
theorem dX4_yearOf_23 : decode cX4_yearOf 23 = .ok (.istore 4, 2) := by decide +kernel
theorem dX4_yearOf_25 : decode cX4_yearOf 25 = .ok (.iload 4, 2) := by decide +kernel
theorem dX4_yearOf_27 : decode cX4_yearOf 27 = .ok (.bipush 55, 2) := by decide +kernel
theorem dX4_yearOf_29 : decode cX4_yearOf 29 = .ok (.if_icmp .ge 21, 3) := by decide +kernel
theorem dX4_yearOf_32 : decode cX4_yearOf 32 = .ok (.aload_n 3, 1) := by decide +kernel
theorem dX4_yearOf_33 : decode cX4_yearOf 33 = .ok (.iload 4, 2) := by decide +kernel
theorem dX4_yearOf_35 : decode cX4_yearOf 35 = .ok (.iconst 1, 1) := by decide +kernel
theorem dX4_yearOf_36 : decode cX4_yearOf 36 = .ok (.iadd, 1) := by decide +kernel
theorem dX4_yearOf_37 : decode cX4_yearOf 37 = .ok (.invokevirtual 52, 3) := by decide +kernel
theorem dX4_yearOf_40 : decode cX4_yearOf 40 = .ok (.iload_n 2, 1) := by decide +kernel
theorem dX4_yearOf_41 : decode cX4_yearOf 41 = .ok (.if_icmp .gt 9, 3) := by decide +kernel
theorem dX4_yearOf_44 : decode cX4_yearOf 44 = .ok (.iinc 4 1, 3) := by decide +kernel
theorem dX4_yearOf_47 : decode cX4_yearOf 47 = .ok (.goto (-22), 3) := by decide +kernel
theorem dX4_yearOf_50 : decode cX4_yearOf 50 = .ok (.iload 4, 2) := by decide +kernel
theorem dX4_yearOf_52 : decode cX4_yearOf 52 = .ok (.ireturn, 1) := by decide +kernel
set_option maxRecDepth 20000 in
theorem ggX4_volumeOf_X4_existingTitle : GoodIn wsX4_volumeOf wsX4_existingTitle := goodIn_ca (goodIn_r _ [6, 7, 8, 9, 10, 25, 26, 27, 28, 29, 30] (by decide +kernel) (by decide +kernel)) (goodIn_sub (fun _ h => List.mem_cons_of_mem _ (List.mem_append_left _ (List.mem_append_right _ h))) (by decide +kernel))
set_option maxRecDepth 20000 in
theorem gX4_volumeOf_X4_existingTitle : GoodIn wsX4_volumeOf (wsV RX4 48 RX4 yX4_existingTitle wsX4_existingTitle) := goodIn_app (goodIn_of _ (by decide +kernel)) ggX4_volumeOf_X4_existingTitle
set_option maxRecDepth 20000 in
theorem ggX4_volumeOf_X4_checkRange : GoodIn wsX4_volumeOf wsX4_checkRange := goodIn_ca (goodIn_r _ [13, 14, 15] (by decide +kernel) (by decide +kernel)) (goodIn_sub (fun _ h => List.mem_cons_of_mem _ (List.mem_append_right _ h)) (by decide +kernel))
set_option maxRecDepth 20000 in
theorem gX4_volumeOf_X4_checkRange : GoodIn wsX4_volumeOf (va_wsS RX4 34 yX4_checkRange wsX4_checkRange) := goodIn_app (goodIn_of _ (by decide +kernel)) ggX4_volumeOf_X4_checkRange
set_option maxRecDepth 20000 in
theorem ggX4_volumeOf_X3_firstVolume : GoodIn wsX4_volumeOf wsX3_firstVolume := goodIn_r _ [20, 21, 22, 23, 24] (by decide +kernel) (by decide +kernel)
set_option maxRecDepth 20000 in
theorem gX4_volumeOf_X3_firstVolume : GoodIn wsX4_volumeOf (wsV RX4 52 RX3 yX3_firstVolume wsX3_firstVolume) := goodIn_app (goodIn_of _ (by decide +kernel)) ggX4_volumeOf_X3_firstVolume
theorem dX4_volumeOf_0 : decode cX4_volumeOf 0 = .ok (.aload_n 0, 1) := by decide +kernel
theorem dX4_volumeOf_1 : decode cX4_volumeOf 1 = .ok (.iload_n 1, 1) := by decide +kernel
theorem dX4_volumeOf_2 : decode cX4_volumeOf 2 = .ok (.invokevirtual 48, 3) := by decide +kernel
theorem dX4_volumeOf_5 : decode cX4_volumeOf 5 = .ok (.astore_n 3, 1) := by decide +kernel
theorem dX4_volumeOf_6 : decode cX4_volumeOf 6 = .ok (.iload_n 2, 1) := by decide +kernel
theorem dX4_volumeOf_7 : decode cX4_volumeOf 7 = .ok (.aload_n 3, 1) := by decide +kernel
theorem dX4_volumeOf_8 : decode cX4_volumeOf 8 = .ok (.getfield 56, 3) := by decide +kernel
theorem dX4_volumeOf_11 : decode cX4_volumeOf 11 = .ok (.bipush 55, 2) := by decide +kernel
theorem dX4_volumeOf_13 : decode cX4_volumeOf 13 = .ok (.invokestatic 34, 3) := by decide +kernel
theorem dX4_volumeOf_16 : decode cX4_volumeOf 16 = .ok (.aload_n 3, 1) := by decide +kernel
theorem dX4_volumeOf_17 : decode cX4_volumeOf 17 = .ok (.iload_n 2, 1) := by decide +kernel
theorem dX4_volumeOf_18 : decode cX4_volumeOf 18 = .ok (.invokevirtual 52, 3) := by decide +kernel
theorem dX4_volumeOf_21 : decode cX4_volumeOf 21 = .ok (.ireturn, 1) := by decide +kernel
set_option maxRecDepth 20000 in
theorem ggX4_addPackage_X4_checkRange : GoodIn wsX4_addPackage wsX4_checkRange := goodIn_ca (goodIn_r _ [11, 12, 13] (by decide +kernel) (by decide +kernel)) (goodIn_sub (fun _ h => List.mem_cons_of_mem _ (List.mem_append_right _ h)) (by decide +kernel))
set_option maxRecDepth 20000 in
theorem gX4_addPackage_X4_checkRange : GoodIn wsX4_addPackage (va_wsS RX4 34 yX4_checkRange wsX4_checkRange) := goodIn_app (goodIn_of _ (by decide +kernel)) ggX4_addPackage_X4_checkRange
set_option maxRecDepth 20000 in
theorem ggX4_addPackage_X2_init : GoodIn wsX4_addPackage wsX2_init := goodIn_r _ [16, 17, 18, 19, 20, 21, 22, 23, 24, 25, 26, 27, 28, 29, 30, 31, 32, 33, 34, 41, 42, 43, 44, 45, 46, 47, 48] (by decide +kernel) (by decide +kernel)
set_option maxRecDepth 20000 in
theorem gX4_addPackage_X2_init : GoodIn wsX4_addPackage (wsX2_init) := ggX4_addPackage_X2_init
theorem dX4_addPackage_0 : decode cX4_addPackage 0 = .ok (.iload_n 1, 1) := by decide +kernel
theorem dX4_addPackage_1 : decode cX4_addPackage 1 = .ok (.iconst 0, 1) := by decide +kernel
theorem dX4_addPackage_2 : decode cX4_addPackage 2 = .ok (.sipush 1000, 3) := by decide +kernel
theorem dX4_addPackage_5 : decode cX4_addPackage 5 = .ok (.invokestatic 34, 3) := by decide +kernel
theorem dX4_addPackage_8 : decode cX4_addPackage 8 = .ok (.iload_n 2, 1) := by decide +kernel
theorem dX4_addPackage_9 : decode cX4_addPackage 9 = .ok (.iconst 0, 1) := by decide +kernel
theorem dX4_addPackage_10 : decode cX4_addPackage 10 = .ok (.iconst 2, 1) := by decide +kernel
theorem dX4_addPackage_11 : decode cX4_addPackage 11 = .ok (.invokestatic 34, 3) := by decide +kernel
theorem dX4_addPackage_14 : decode cX4_addPackage 14 = .ok (.iload_n 3, 1) := by decide +kernel
theorem dX4_addPackage_15 : decode cX4_addPackage 15 = .ok (.iconst 0, 1) := by decide +kernel
theorem dX4_addPackage_16 : decode cX4_addPackage 16 = .ok (.bipush 15, 2) := by decide +kernel
theorem dX4_addPackage_18 : decode cX4_addPackage 18 = .ok (.invokestatic 34, 3) := by decide +kernel
theorem dX4_addPackage_21 : decode cX4_addPackage 21 = .ok (.iload 4, 2) := by decide +kernel
theorem dX4_addPackage_23 : decode cX4_addPackage 23 = .ok (.iconst 0, 1) := by decide +kernel
theorem dX4_addPackage_24 : decode cX4_addPackage 24 = .ok (.iconst 1, 1) := by decide +kernel
theorem dX4_addPackage_25 : decode cX4_addPackage 25 = .ok (.invokestatic 34, 3) := by decide +kernel
theorem dX4_addPackage_28 : decode cX4_addPackage 28 = .ok (.aload_n 0, 1) := by decide +kernel
theorem dX4_addPackage_29 : decode cX4_addPackage 29 = .ok (.getfield 25, 3) := by decide +kernel
theorem dX4_addPackage_32 : decode cX4_addPackage 32 = .ok (.istore 5, 2) := by decide +kernel
theorem dX4_addPackage_34 : decode cX4_addPackage 34 = .ok (.iload 5, 2) := by decide +kernel
theorem dX4_addPackage_36 : decode cX4_addPackage 36 = .ok (.bipush 10, 2) := by decide +kernel
theorem dX4_addPackage_38 : decode cX4_addPackage 38 = .ok (.if_icmp .lt 13, 3) := by decide +kernel
theorem dX4_addPackage_41 : decode cX4_addPackage 41 = .ok (.new 38, 3) := by decide +kernel
theorem dX4_addPackage_44 : decode cX4_addPackage 44 = .ok (.dup, 1) := by decide +kernel
theorem dX4_addPackage_45 : decode cX4_addPackage 45 = .ok (.ldc 59, 2) := by decide +kernel
theorem dX4_addPackage_47 : decode cX4_addPackage 47 = .ok (.invokespecial 42, 3) := by decide +kernel
theorem dX4_addPackage_50 : decode cX4_addPackage 50 = .ok (.athrow, 1) := by decide +kernel
theorem dX4_addPackage_51 : decode cX4_addPackage 51 = .ok (.aload_n 0, 1) := by decide +kernel
theorem dX4_addPackage_52 : decode cX4_addPackage 52 = .ok (.getfield 17, 3) := by decide +kernel
theorem dX4_addPackage_55 : decode cX4_addPackage 55 = .ok (.iload 5, 2) := by decide +kernel
theorem dX4_addPackage_57 : decode cX4_addPackage 57 = .ok (.new 15, 3) := by decide +kernel
theorem dX4_addPackage_60 : decode cX4_addPackage 60 = .ok (.dup, 1) := by decide +kernel
theorem dX4_addPackage_61 : decode cX4_addPackage 61 = .ok (.iload_n 1, 1) := by decide +kernel
theorem dX4_addPackage_62 : decode cX4_addPackage 62 = .ok (.iload_n 2, 1) := by decide +kernel
theorem dX4_addPackage_63 : decode cX4_addPackage 63 = .ok (.iload_n 3, 1) := by decide +kernel
theorem dX4_addPackage_64 : decode cX4_addPackage 64 = .ok (.iload 4, 2) := by decide +kernel
theorem dX4_addPackage_66 : decode cX4_addPackage 66 = .ok (.iconst 1, 1) := by decide +kernel
theorem dX4_addPackage_67 : decode cX4_addPackage 67 = .ok (.if_icmp .ne 7, 3) := by decide +kernel
theorem dX4_addPackage_70 : decode cX4_addPackage 70 = .ok (.iconst 1, 1) := by decide +kernel
theorem dX4_addPackage_71 : decode cX4_addPackage 71 = .ok (.goto 4, 3) := by decide +kernel
theorem dX4_addPackage_74 : decode cX4_addPackage 74 = .ok (.iconst 0, 1) := by decide +kernel
theorem dX4_addPackage_75 : decode cX4_addPackage 75 = .ok (.invokespecial 61, 3) := by decide +kernel
theorem dX4_addPackage_78 : decode cX4_addPackage 78 = .ok (.aastore, 1) := by decide +kernel
theorem dX4_addPackage_79 : decode cX4_addPackage 79 = .ok (.aload_n 0, 1) := by decide +kernel
theorem dX4_addPackage_80 : decode cX4_addPackage 80 = .ok (.iload 5, 2) := by decide +kernel
theorem dX4_addPackage_82 : decode cX4_addPackage 82 = .ok (.iconst 1, 1) := by decide +kernel
theorem dX4_addPackage_83 : decode cX4_addPackage 83 = .ok (.iadd, 1) := by decide +kernel
theorem dX4_addPackage_84 : decode cX4_addPackage 84 = .ok (.putfield 25, 3) := by decide +kernel
theorem dX4_addPackage_87 : decode cX4_addPackage 87 = .ok (.iload 5, 2) := by decide +kernel
theorem dX4_addPackage_89 : decode cX4_addPackage 89 = .ok (.ireturn, 1) := by decide +kernel
set_option maxRecDepth 20000 in
theorem ggX4_subscribe_X4_existingPack : GoodIn wsX4_subscribe wsX4_existingPack := goodIn_ca (goodIn_r _ [8, 9, 10, 11, 12, 54, 55, 56, 57, 58, 59] (by decide +kernel) (by decide +kernel)) (goodIn_sub (fun _ h => List.mem_cons_of_mem _ (List.mem_append_right _ h)) (by decide +kernel))
set_option maxRecDepth 20000 in
theorem gX4_subscribe_X4_existingPack : GoodIn wsX4_subscribe (wsV RX4 64 RX4 yX4_existingPack wsX4_existingPack) := goodIn_app (goodIn_of _ (by decide +kernel)) ggX4_subscribe_X4_existingPack
set_option maxRecDepth 20000 in
theorem ggX4_subscribe_X1_isOnAt : GoodIn wsX4_subscribe wsX1_isOnAt := goodIn_r _ [17, 18, 19, 20, 21, 16, 22, 23, 24, 25, 60, 61, 62, 63, 64, 65] (by decide +kernel) (by decide +kernel)
set_option maxRecDepth 20000 in
theorem gX4_subscribe_X1_isOnAt : GoodIn wsX4_subscribe (wsV RX4 72 RX1 yX1_isOnAt wsX1_isOnAt) := goodIn_app (goodIn_of _ (by decide +kernel)) ggX4_subscribe_X1_isOnAt
set_option maxRecDepth 20000 in
theorem ggX4_subscribe_X4_change : GoodIn wsX4_subscribe wsX4_change := goodIn_r _ [29, 30, 2, 31, 32, 33, 16, 34, 35, 36, 37, 23, 38, 39, 40, 41, 42, 43, 44, 45, 46, 47, 54, 55, 56, 57, 58, 59, 60, 61, 62, 63, 64, 65] (by decide +kernel) (by decide +kernel)
set_option maxRecDepth 20000 in
theorem gX4_subscribe_X4_change : GoodIn wsX4_subscribe (wsV RX4 80 RX4 yX4_change wsX4_change) := goodIn_app (goodIn_of _ (by decide +kernel)) ggX4_subscribe_X4_change
theorem dX4_subscribe_0 : decode cX4_subscribe 0 = .ok (.aload_n 0, 1) := by decide +kernel
theorem dX4_subscribe_1 : decode cX4_subscribe 1 = .ok (.iload_n 1, 1) := by decide +kernel
theorem dX4_subscribe_2 : decode cX4_subscribe 2 = .ok (.invokevirtual 64, 3) := by decide +kernel
theorem dX4_subscribe_5 : decode cX4_subscribe 5 = .ok (.getfield 68, 3) := by decide +kernel
theorem dX4_subscribe_8 : decode cX4_subscribe 8 = .ok (.astore_n 3, 1) := by decide +kernel
theorem dX4_subscribe_9 : decode cX4_subscribe 9 = .ok (.aload_n 3, 1) := by decide +kernel
theorem dX4_subscribe_10 : decode cX4_subscribe 10 = .ok (.aload_n 0, 1) := by decide +kernel
theorem dX4_subscribe_11 : decode cX4_subscribe 11 = .ok (.getfield 31, 3) := by decide +kernel
theorem dX4_subscribe_14 : decode cX4_subscribe 14 = .ok (.invokevirtual 72, 3) := by decide +kernel
theorem dX4_subscribe_17 : decode cX4_subscribe 17 = .ok (.istore 4, 2) := by decide +kernel
theorem dX4_subscribe_19 : decode cX4_subscribe 19 = .ok (.aload_n 0, 1) := by decide +kernel
theorem dX4_subscribe_20 : decode cX4_subscribe 20 = .ok (.aload_n 3, 1) := by decide +kernel
theorem dX4_subscribe_21 : decode cX4_subscribe 21 = .ok (.iload_n 2, 1) := by decide +kernel
theorem dX4_subscribe_22 : decode cX4_subscribe 22 = .ok (.ifCond .eq 9, 3) := by decide +kernel
theorem dX4_subscribe_25 : decode cX4_subscribe 25 = .ok (.ldc2_w 78, 3) := by decide +kernel
theorem dX4_subscribe_28 : decode cX4_subscribe 28 = .ok (.goto 4, 3) := by decide +kernel
theorem dX4_subscribe_31 : decode cX4_subscribe 31 = .ok (.lconst 0, 1) := by decide +kernel
theorem dX4_subscribe_32 : decode cX4_subscribe 32 = .ok (.iconst 0, 1) := by decide +kernel
theorem dX4_subscribe_33 : decode cX4_subscribe 33 = .ok (.invokevirtual 80, 3) := by decide +kernel
theorem dX4_subscribe_36 : decode cX4_subscribe 36 = .ok (.iload 4, 2) := by decide +kernel
theorem dX4_subscribe_38 : decode cX4_subscribe 38 = .ok (.ireturn, 1) := by decide +kernel
set_option maxRecDepth 20000 in
theorem ggX4_come_X4_existingStay : GoodIn wsX4_come wsX4_existingStay := goodIn_ca (goodIn_ca (goodIn_r _ [6, 7, 8, 9, 5, 10, 11, 12, 13, 14, 15, 16, 17, 18, 19, 20, 21, 22, 23, 24, 25, 26, 27, 71, 72, 73, 74, 75, 76, 77, 78, 79, 80, 81, 82] (by decide +kernel) (by decide +kernel)) (goodIn_sub (fun _ h => List.mem_cons_of_mem _ (List.mem_append_left _ (List.mem_append_left _ (List.mem_append_right _ h)))) (by decide +kernel))) (goodIn_sub (fun _ h => List.mem_cons_of_mem _ (List.mem_append_left _ (List.mem_append_right _ h))) (by decide +kernel))
set_option maxRecDepth 20000 in
theorem gX4_come_X4_existingStay : GoodIn wsX4_come (wsV RX4 84 RX4 yX4_existingStay wsX4_existingStay) := goodIn_app (goodIn_of _ (by decide +kernel)) ggX4_come_X4_existingStay
set_option maxRecDepth 20000 in
theorem ggX4_come_X4_checkRange : GoodIn wsX4_come wsX4_checkRange := goodIn_ca (goodIn_r _ [30, 31, 32] (by decide +kernel) (by decide +kernel)) (goodIn_sub (fun _ h => List.mem_cons_of_mem _ (List.mem_append_right _ h)) (by decide +kernel))
set_option maxRecDepth 20000 in
theorem gX4_come_X4_checkRange : GoodIn wsX4_come (va_wsS RX4 34 yX4_checkRange wsX4_checkRange) := goodIn_app (goodIn_of _ (by decide +kernel)) ggX4_come_X4_checkRange
set_option maxRecDepth 20000 in
theorem ggX4_come_X1_isOnAt : GoodIn wsX4_come wsX1_isOnAt := goodIn_r _ [37, 38, 39, 40, 41, 36, 42, 43, 44, 45, 83, 84, 85, 86, 87, 88] (by decide +kernel) (by decide +kernel)
set_option maxRecDepth 20000 in
theorem gX4_come_X1_isOnAt : GoodIn wsX4_come (wsV RX4 72 RX1 yX1_isOnAt wsX1_isOnAt) := goodIn_app (goodIn_of _ (by decide +kernel)) ggX4_come_X1_isOnAt
set_option maxRecDepth 20000 in
theorem ggX4_come_X4_yearsBetween : GoodIn wsX4_come wsX4_yearsBetween := goodIn_r _ [48] (by decide +kernel) (by decide +kernel)
set_option maxRecDepth 20000 in
theorem gX4_come_X4_yearsBetween : GoodIn wsX4_come (va_wsS RX4 88 yX4_yearsBetween wsX4_yearsBetween) := goodIn_app (goodIn_of _ (by decide +kernel)) ggX4_come_X4_yearsBetween
set_option maxRecDepth 20000 in
theorem ggX4_come_X4_change : GoodIn wsX4_come wsX4_change := goodIn_r _ [52, 53, 1, 54, 55, 56, 36, 57, 58, 59, 60, 43, 61, 62, 63, 64, 65, 66, 67, 68, 69, 70, 71, 72, 73, 74, 75, 76, 83, 84, 85, 86, 87, 88] (by decide +kernel) (by decide +kernel)
set_option maxRecDepth 20000 in
theorem gX4_come_X4_change : GoodIn wsX4_come (wsV RX4 80 RX4 yX4_change wsX4_change) := goodIn_app (goodIn_of _ (by decide +kernel)) ggX4_come_X4_change
theorem dX4_come_0 : decode cX4_come 0 = .ok (.aload_n 0, 1) := by decide +kernel
theorem dX4_come_1 : decode cX4_come 1 = .ok (.iload_n 1, 1) := by decide +kernel
theorem dX4_come_2 : decode cX4_come 2 = .ok (.iload_n 2, 1) := by decide +kernel
theorem dX4_come_3 : decode cX4_come 3 = .ok (.invokevirtual 84, 3) := by decide +kernel
theorem dX4_come_6 : decode cX4_come 6 = .ok (.astore 6, 2) := by decide +kernel
theorem dX4_come_8 : decode cX4_come 8 = .ok (.iload_n 3, 1) := by decide +kernel
theorem dX4_come_9 : decode cX4_come 9 = .ok (.iconst 0, 1) := by decide +kernel
theorem dX4_come_10 : decode cX4_come 10 = .ok (.bipush 55, 2) := by decide +kernel
theorem dX4_come_12 : decode cX4_come 12 = .ok (.invokestatic 34, 3) := by decide +kernel
theorem dX4_come_15 : decode cX4_come 15 = .ok (.iload 4, 2) := by decide +kernel
theorem dX4_come_17 : decode cX4_come 17 = .ok (.iload_n 3, 1) := by decide +kernel
theorem dX4_come_18 : decode cX4_come 18 = .ok (.bipush 55, 2) := by decide +kernel
theorem dX4_come_20 : decode cX4_come 20 = .ok (.invokestatic 34, 3) := by decide +kernel
theorem dX4_come_23 : decode cX4_come 23 = .ok (.iload 5, 2) := by decide +kernel
theorem dX4_come_25 : decode cX4_come 25 = .ok (.iconst 0, 1) := by decide +kernel
theorem dX4_come_26 : decode cX4_come 26 = .ok (.bipush 20, 2) := by decide +kernel
theorem dX4_come_28 : decode cX4_come 28 = .ok (.invokestatic 34, 3) := by decide +kernel
theorem dX4_come_31 : decode cX4_come 31 = .ok (.aload 6, 2) := by decide +kernel
theorem dX4_come_33 : decode cX4_come 33 = .ok (.aload_n 0, 1) := by decide +kernel
theorem dX4_come_34 : decode cX4_come 34 = .ok (.getfield 31, 3) := by decide +kernel
theorem dX4_come_37 : decode cX4_come 37 = .ok (.invokevirtual 72, 3) := by decide +kernel
theorem dX4_come_40 : decode cX4_come 40 = .ok (.istore 7, 2) := by decide +kernel
theorem dX4_come_42 : decode cX4_come 42 = .ok (.aload_n 0, 1) := by decide +kernel
theorem dX4_come_43 : decode cX4_come 43 = .ok (.aload 6, 2) := by decide +kernel
theorem dX4_come_45 : decode cX4_come 45 = .ok (.iload_n 3, 1) := by decide +kernel
theorem dX4_come_46 : decode cX4_come 46 = .ok (.iload 4, 2) := by decide +kernel
theorem dX4_come_48 : decode cX4_come 48 = .ok (.invokestatic 88, 3) := by decide +kernel
theorem dX4_come_51 : decode cX4_come 51 = .ok (.iload 5, 2) := by decide +kernel
theorem dX4_come_53 : decode cX4_come 53 = .ok (.invokevirtual 80, 3) := by decide +kernel
theorem dX4_come_56 : decode cX4_come 56 = .ok (.iload 7, 2) := by decide +kernel
theorem dX4_come_58 : decode cX4_come 58 = .ok (.ireturn, 1) := by decide +kernel
set_option maxRecDepth 20000 in
theorem ggX4_go_X4_existingStay : GoodIn wsX4_go wsX4_existingStay := goodIn_ca (goodIn_ca (goodIn_r _ [8, 9, 10, 11, 7, 12, 13, 14, 15, 16, 17, 18, 19, 20, 21, 22, 23, 24, 25, 26, 27, 28, 29, 65, 66, 67, 68, 69, 70, 71, 72, 73, 74, 75, 76] (by decide +kernel) (by decide +kernel)) (goodIn_sub (fun _ h => List.mem_cons_of_mem _ (List.mem_append_left _ (List.mem_append_right _ h))) (by decide +kernel))) (goodIn_sub (fun _ h => List.mem_cons_of_mem _ (List.mem_append_right _ h)) (by decide +kernel))
set_option maxRecDepth 20000 in
theorem gX4_go_X4_existingStay : GoodIn wsX4_go (wsV RX4 84 RX4 yX4_existingStay wsX4_existingStay) := goodIn_app (goodIn_of _ (by decide +kernel)) ggX4_go_X4_existingStay
set_option maxRecDepth 20000 in
theorem ggX4_go_X1_isOnAt : GoodIn wsX4_go wsX1_isOnAt := goodIn_r _ [34, 35, 36, 37, 38, 33, 39, 40, 41, 42, 77, 78, 79, 80, 81, 82] (by decide +kernel) (by decide +kernel)
set_option maxRecDepth 20000 in
theorem gX4_go_X1_isOnAt : GoodIn wsX4_go (wsV RX4 72 RX1 yX1_isOnAt wsX1_isOnAt) := goodIn_app (goodIn_of _ (by decide +kernel)) ggX4_go_X1_isOnAt
set_option maxRecDepth 20000 in
theorem ggX4_go_X4_change : GoodIn wsX4_go wsX4_change := goodIn_r _ [46, 47, 3, 48, 49, 50, 33, 51, 52, 53, 54, 40, 55, 56, 57, 58, 59, 60, 61, 62, 63, 64, 65, 66, 67, 68, 69, 70, 77, 78, 79, 80, 81, 82] (by decide +kernel) (by decide +kernel)
set_option maxRecDepth 20000 in
theorem gX4_go_X4_change : GoodIn wsX4_go (wsV RX4 80 RX4 yX4_change wsX4_change) := goodIn_app (goodIn_of _ (by decide +kernel)) ggX4_go_X4_change
theorem dX4_go_0 : decode cX4_go 0 = .ok (.aload_n 0, 1) := by decide +kernel
theorem dX4_go_1 : decode cX4_go 1 = .ok (.iload_n 1, 1) := by decide +kernel
theorem dX4_go_2 : decode cX4_go 2 = .ok (.iload_n 2, 1) := by decide +kernel
theorem dX4_go_3 : decode cX4_go 3 = .ok (.invokevirtual 84, 3) := by decide +kernel
theorem dX4_go_6 : decode cX4_go 6 = .ok (.astore_n 3, 1) := by decide +kernel
theorem dX4_go_7 : decode cX4_go 7 = .ok (.aload_n 3, 1) := by decide +kernel
theorem dX4_go_8 : decode cX4_go 8 = .ok (.aload_n 0, 1) := by decide +kernel
theorem dX4_go_9 : decode cX4_go 9 = .ok (.getfield 31, 3) := by decide +kernel
theorem dX4_go_12 : decode cX4_go 12 = .ok (.invokevirtual 72, 3) := by decide +kernel
theorem dX4_go_15 : decode cX4_go 15 = .ok (.ifCond .ne 13, 3) := by decide +kernel
theorem dX4_go_18 : decode cX4_go 18 = .ok (.new 38, 3) := by decide +kernel
theorem dX4_go_21 : decode cX4_go 21 = .ok (.dup, 1) := by decide +kernel
theorem dX4_go_22 : decode cX4_go 22 = .ok (.ldc 92, 2) := by decide +kernel
theorem dX4_go_24 : decode cX4_go 24 = .ok (.invokespecial 42, 3) := by decide +kernel
theorem dX4_go_27 : decode cX4_go 27 = .ok (.athrow, 1) := by decide +kernel
theorem dX4_go_28 : decode cX4_go 28 = .ok (.aload_n 0, 1) := by decide +kernel
theorem dX4_go_29 : decode cX4_go 29 = .ok (.aload_n 3, 1) := by decide +kernel
theorem dX4_go_30 : decode cX4_go 30 = .ok (.lconst 0, 1) := by decide +kernel
theorem dX4_go_31 : decode cX4_go 31 = .ok (.iconst 0, 1) := by decide +kernel
theorem dX4_go_32 : decode cX4_go 32 = .ok (.invokevirtual 80, 3) := by decide +kernel
theorem dX4_go_35 : decode cX4_go 35 = .ok (.return_, 1) := by decide +kernel
set_option maxRecDepth 20000 in
theorem ggX4_pass_X4_checkRange : GoodIn wsX4_pass wsX4_checkRange := goodIn_ca (goodIn_r _ [7, 8, 9] (by decide +kernel) (by decide +kernel)) (goodIn_sub (fun _ h => List.mem_cons_of_mem _ (List.mem_append_right _ h)) (by decide +kernel))
set_option maxRecDepth 20000 in
theorem gX4_pass_X4_checkRange : GoodIn wsX4_pass (va_wsS RX4 34 yX4_checkRange wsX4_checkRange) := goodIn_app (goodIn_of _ (by decide +kernel)) ggX4_pass_X4_checkRange
theorem dX4_pass_0 : decode cX4_pass 0 = .ok (.iload_n 1, 1) := by decide +kernel
theorem dX4_pass_1 : decode cX4_pass 1 = .ok (.iconst 1, 1) := by decide +kernel
theorem dX4_pass_2 : decode cX4_pass 2 = .ok (.sipush 20000, 3) := by decide +kernel
theorem dX4_pass_5 : decode cX4_pass 5 = .ok (.invokestatic 34, 3) := by decide +kernel
theorem dX4_pass_8 : decode cX4_pass 8 = .ok (.iload_n 1, 1) := by decide +kernel
theorem dX4_pass_9 : decode cX4_pass 9 = .ok (.sipush 20000, 3) := by decide +kernel
theorem dX4_pass_12 : decode cX4_pass 12 = .ok (.aload_n 0, 1) := by decide +kernel
theorem dX4_pass_13 : decode cX4_pass 13 = .ok (.getfield 31, 3) := by decide +kernel
theorem dX4_pass_16 : decode cX4_pass 16 = .ok (.isub, 1) := by decide +kernel
theorem dX4_pass_17 : decode cX4_pass 17 = .ok (.if_icmp .le 13, 3) := by decide +kernel
theorem dX4_pass_20 : decode cX4_pass 20 = .ok (.new 38, 3) := by decide +kernel
theorem dX4_pass_23 : decode cX4_pass 23 = .ok (.dup, 1) := by decide +kernel
theorem dX4_pass_24 : decode cX4_pass 24 = .ok (.ldc 94, 2) := by decide +kernel
theorem dX4_pass_26 : decode cX4_pass 26 = .ok (.invokespecial 42, 3) := by decide +kernel
theorem dX4_pass_29 : decode cX4_pass 29 = .ok (.athrow, 1) := by decide +kernel
theorem dX4_pass_30 : decode cX4_pass 30 = .ok (.aload_n 0, 1) := by decide +kernel
theorem dX4_pass_31 : decode cX4_pass 31 = .ok (.dup, 1) := by decide +kernel
theorem dX4_pass_32 : decode cX4_pass 32 = .ok (.getfield 31, 3) := by decide +kernel
theorem dX4_pass_35 : decode cX4_pass 35 = .ok (.iload_n 1, 1) := by decide +kernel
theorem dX4_pass_36 : decode cX4_pass 36 = .ok (.iadd, 1) := by decide +kernel
theorem dX4_pass_37 : decode cX4_pass 37 = .ok (.putfield 31, 3) := by decide +kernel
theorem dX4_pass_40 : decode cX4_pass 40 = .ok (.aload_n 0, 1) := by decide +kernel
theorem dX4_pass_41 : decode cX4_pass 41 = .ok (.getfield 31, 3) := by decide +kernel
theorem dX4_pass_44 : decode cX4_pass 44 = .ok (.ireturn, 1) := by decide +kernel
theorem dX4_today_0 : decode cX4_today 0 = .ok (.aload_n 0, 1) := by decide +kernel
theorem dX4_today_1 : decode cX4_today 1 = .ok (.getfield 31, 3) := by decide +kernel
theorem dX4_today_4 : decode cX4_today 4 = .ok (.ireturn, 1) := by decide +kernel
set_option maxRecDepth 20000 in
theorem ggX4_isSubscribed_X4_existingPack : GoodIn wsX4_isSubscribed wsX4_existingPack := goodIn_ca (goodIn_r _ [7, 8, 9, 10, 11, 36, 37, 38, 39, 40, 41] (by decide +kernel) (by decide +kernel)) (goodIn_sub (fun _ h => List.mem_cons_of_mem _ (List.mem_append_left _ (List.mem_append_right _ h))) (by decide +kernel))
set_option maxRecDepth 20000 in
theorem gX4_isSubscribed_X4_existingPack : GoodIn wsX4_isSubscribed (wsV RX4 64 RX4 yX4_existingPack wsX4_existingPack) := goodIn_app (goodIn_of _ (by decide +kernel)) ggX4_isSubscribed_X4_existingPack
set_option maxRecDepth 20000 in
theorem ggX4_isSubscribed_X4_checkRange : GoodIn wsX4_isSubscribed wsX4_checkRange := goodIn_ca (goodIn_r _ [14, 15, 16] (by decide +kernel) (by decide +kernel)) (goodIn_sub (fun _ h => List.mem_cons_of_mem _ (List.mem_append_right _ h)) (by decide +kernel))
set_option maxRecDepth 20000 in
theorem gX4_isSubscribed_X4_checkRange : GoodIn wsX4_isSubscribed (va_wsS RX4 34 yX4_checkRange wsX4_checkRange) := goodIn_app (goodIn_of _ (by decide +kernel)) ggX4_isSubscribed_X4_checkRange
set_option maxRecDepth 20000 in
theorem ggX4_isSubscribed_X1_isOnAt : GoodIn wsX4_isSubscribed wsX1_isOnAt := goodIn_r _ [21, 22, 23, 24, 25, 20, 26, 27, 28, 29, 42, 43, 44, 45, 46, 47] (by decide +kernel) (by decide +kernel)
set_option maxRecDepth 20000 in
theorem gX4_isSubscribed_X1_isOnAt : GoodIn wsX4_isSubscribed (wsV RX4 72 RX1 yX1_isOnAt wsX1_isOnAt) := goodIn_app (goodIn_of _ (by decide +kernel)) ggX4_isSubscribed_X1_isOnAt
theorem dX4_isSubscribed_0 : decode cX4_isSubscribed 0 = .ok (.aload_n 0, 1) := by decide +kernel
theorem dX4_isSubscribed_1 : decode cX4_isSubscribed 1 = .ok (.iload_n 1, 1) := by decide +kernel
theorem dX4_isSubscribed_2 : decode cX4_isSubscribed 2 = .ok (.invokevirtual 64, 3) := by decide +kernel
theorem dX4_isSubscribed_5 : decode cX4_isSubscribed 5 = .ok (.getfield 68, 3) := by decide +kernel
theorem dX4_isSubscribed_8 : decode cX4_isSubscribed 8 = .ok (.astore_n 3, 1) := by decide +kernel
theorem dX4_isSubscribed_9 : decode cX4_isSubscribed 9 = .ok (.iload_n 2, 1) := by decide +kernel
theorem dX4_isSubscribed_10 : decode cX4_isSubscribed 10 = .ok (.iconst 0, 1) := by decide +kernel
theorem dX4_isSubscribed_11 : decode cX4_isSubscribed 11 = .ok (.aload_n 0, 1) := by decide +kernel
theorem dX4_isSubscribed_12 : decode cX4_isSubscribed 12 = .ok (.getfield 31, 3) := by decide +kernel
theorem dX4_isSubscribed_15 : decode cX4_isSubscribed 15 = .ok (.invokestatic 34, 3) := by decide +kernel
theorem dX4_isSubscribed_18 : decode cX4_isSubscribed 18 = .ok (.aload_n 3, 1) := by decide +kernel
theorem dX4_isSubscribed_19 : decode cX4_isSubscribed 19 = .ok (.iload_n 2, 1) := by decide +kernel
theorem dX4_isSubscribed_20 : decode cX4_isSubscribed 20 = .ok (.invokevirtual 72, 3) := by decide +kernel
theorem dX4_isSubscribed_23 : decode cX4_isSubscribed 23 = .ok (.ireturn, 1) := by decide +kernel
set_option maxRecDepth 20000 in
theorem ggX4_isIn_X4_existingStay : GoodIn wsX4_isIn wsX4_existingStay := goodIn_ca (goodIn_ca (goodIn_r _ [6, 7, 8, 9, 5, 10, 11, 12, 13, 14, 15, 16, 17, 18, 19, 20, 21, 22, 23, 24, 25, 26, 27, 46, 47, 48, 49, 50, 51, 52, 53, 54, 55, 56, 57] (by decide +kernel) (by decide +kernel)) (goodIn_sub (fun _ h => List.mem_cons_of_mem _ (List.mem_append_left _ (List.mem_append_left _ (List.mem_append_right _ h)))) (by decide +kernel))) (goodIn_sub (fun _ h => List.mem_cons_of_mem _ (List.mem_append_left _ (List.mem_append_right _ h))) (by decide +kernel))
set_option maxRecDepth 20000 in
theorem gX4_isIn_X4_existingStay : GoodIn wsX4_isIn (wsV RX4 84 RX4 yX4_existingStay wsX4_existingStay) := goodIn_app (goodIn_of _ (by decide +kernel)) ggX4_isIn_X4_existingStay
set_option maxRecDepth 20000 in
theorem ggX4_isIn_X4_checkRange : GoodIn wsX4_isIn wsX4_checkRange := goodIn_ca (goodIn_r _ [30, 31, 32] (by decide +kernel) (by decide +kernel)) (goodIn_sub (fun _ h => List.mem_cons_of_mem _ (List.mem_append_right _ h)) (by decide +kernel))
set_option maxRecDepth 20000 in
theorem gX4_isIn_X4_checkRange : GoodIn wsX4_isIn (va_wsS RX4 34 yX4_checkRange wsX4_checkRange) := goodIn_app (goodIn_of _ (by decide +kernel)) ggX4_isIn_X4_checkRange
set_option maxRecDepth 20000 in
theorem ggX4_isIn_X1_isOnAt : GoodIn wsX4_isIn wsX1_isOnAt := goodIn_r _ [37, 38, 39, 40, 41, 36, 42, 43, 44, 45, 58, 59, 60, 61, 62, 63] (by decide +kernel) (by decide +kernel)
set_option maxRecDepth 20000 in
theorem gX4_isIn_X1_isOnAt : GoodIn wsX4_isIn (wsV RX4 72 RX1 yX1_isOnAt wsX1_isOnAt) := goodIn_app (goodIn_of _ (by decide +kernel)) ggX4_isIn_X1_isOnAt
theorem dX4_isIn_0 : decode cX4_isIn 0 = .ok (.aload_n 0, 1) := by decide +kernel
theorem dX4_isIn_1 : decode cX4_isIn 1 = .ok (.iload_n 1, 1) := by decide +kernel
theorem dX4_isIn_2 : decode cX4_isIn 2 = .ok (.iload_n 2, 1) := by decide +kernel
theorem dX4_isIn_3 : decode cX4_isIn 3 = .ok (.invokevirtual 84, 3) := by decide +kernel
theorem dX4_isIn_6 : decode cX4_isIn 6 = .ok (.astore 4, 2) := by decide +kernel
theorem dX4_isIn_8 : decode cX4_isIn 8 = .ok (.iload_n 3, 1) := by decide +kernel
theorem dX4_isIn_9 : decode cX4_isIn 9 = .ok (.iconst 0, 1) := by decide +kernel
theorem dX4_isIn_10 : decode cX4_isIn 10 = .ok (.aload_n 0, 1) := by decide +kernel
theorem dX4_isIn_11 : decode cX4_isIn 11 = .ok (.getfield 31, 3) := by decide +kernel
theorem dX4_isIn_14 : decode cX4_isIn 14 = .ok (.invokestatic 34, 3) := by decide +kernel
theorem dX4_isIn_17 : decode cX4_isIn 17 = .ok (.aload 4, 2) := by decide +kernel
theorem dX4_isIn_19 : decode cX4_isIn 19 = .ok (.iload_n 3, 1) := by decide +kernel
theorem dX4_isIn_20 : decode cX4_isIn 20 = .ok (.invokevirtual 72, 3) := by decide +kernel
theorem dX4_isIn_23 : decode cX4_isIn 23 = .ok (.ireturn, 1) := by decide +kernel
set_option maxRecDepth 20000 in
theorem ggX4_report_X4_existingStay : GoodIn wsX4_report wsX4_existingStay := goodIn_ca (goodIn_ca (goodIn_r _ [6, 7, 8, 9, 5, 10, 11, 12, 13, 14, 15, 16, 17, 18, 19, 20, 21, 22, 23, 24, 25, 26, 27, 30, 31, 32, 33, 34, 35, 36, 37, 38, 39, 40, 41] (by decide +kernel) (by decide +kernel)) (goodIn_sub (fun _ h => List.mem_cons_of_mem _ (List.mem_append_left _ (List.mem_append_right _ h))) (by decide +kernel))) (goodIn_sub (fun _ h => List.mem_cons_of_mem _ (List.mem_append_right _ h)) (by decide +kernel))
set_option maxRecDepth 20000 in
theorem gX4_report_X4_existingStay : GoodIn wsX4_report (wsV RX4 84 RX4 yX4_existingStay wsX4_existingStay) := goodIn_app (goodIn_of _ (by decide +kernel)) ggX4_report_X4_existingStay
theorem dX4_report_0 : decode cX4_report 0 = .ok (.aload_n 0, 1) := by decide +kernel
theorem dX4_report_1 : decode cX4_report 1 = .ok (.iload_n 1, 1) := by decide +kernel
theorem dX4_report_2 : decode cX4_report 2 = .ok (.iload_n 2, 1) := by decide +kernel
theorem dX4_report_3 : decode cX4_report 3 = .ok (.invokevirtual 84, 3) := by decide +kernel
theorem dX4_report_6 : decode cX4_report 6 = .ok (.astore_n 3, 1) := by decide +kernel
theorem dX4_report_7 : decode cX4_report 7 = .ok (.aload_n 3, 1) := by decide +kernel
theorem dX4_report_8 : decode cX4_report 8 = .ok (.dup, 1) := by decide +kernel
theorem dX4_report_9 : decode cX4_report 9 = .ok (.getfield 96, 3) := by decide +kernel
theorem dX4_report_12 : decode cX4_report 12 = .ok (.iconst 1, 1) := by decide +kernel
theorem dX4_report_13 : decode cX4_report 13 = .ok (.iadd, 1) := by decide +kernel
theorem dX4_report_14 : decode cX4_report 14 = .ok (.putfield 96, 3) := by decide +kernel
theorem dX4_report_17 : decode cX4_report 17 = .ok (.aload_n 3, 1) := by decide +kernel
theorem dX4_report_18 : decode cX4_report 18 = .ok (.getfield 96, 3) := by decide +kernel
theorem dX4_report_21 : decode cX4_report 21 = .ok (.ireturn, 1) := by decide +kernel
set_option maxRecDepth 20000 in
theorem ggX4_mend_X4_existingStay : GoodIn wsX4_mend wsX4_existingStay := goodIn_ca (goodIn_ca (goodIn_r _ [6, 7, 8, 9, 5, 10, 11, 12, 13, 14, 15, 16, 17, 18, 19, 20, 21, 22, 23, 24, 25, 26, 27, 30, 31, 32, 33, 34, 35, 36, 37, 38, 39, 40, 41] (by decide +kernel) (by decide +kernel)) (goodIn_sub (fun _ h => List.mem_cons_of_mem _ (List.mem_append_left _ (List.mem_append_right _ h))) (by decide +kernel))) (goodIn_sub (fun _ h => List.mem_cons_of_mem _ (List.mem_append_right _ h)) (by decide +kernel))
set_option maxRecDepth 20000 in
theorem gX4_mend_X4_existingStay : GoodIn wsX4_mend (wsV RX4 84 RX4 yX4_existingStay wsX4_existingStay) := goodIn_app (goodIn_of _ (by decide +kernel)) ggX4_mend_X4_existingStay
theorem dX4_mend_0 : decode cX4_mend 0 = .ok (.aload_n 0, 1) := by decide +kernel
theorem dX4_mend_1 : decode cX4_mend 1 = .ok (.iload_n 1, 1) := by decide +kernel
theorem dX4_mend_2 : decode cX4_mend 2 = .ok (.iload_n 2, 1) := by decide +kernel
theorem dX4_mend_3 : decode cX4_mend 3 = .ok (.invokevirtual 84, 3) := by decide +kernel
theorem dX4_mend_6 : decode cX4_mend 6 = .ok (.astore_n 3, 1) := by decide +kernel
theorem dX4_mend_7 : decode cX4_mend 7 = .ok (.aload_n 3, 1) := by decide +kernel
theorem dX4_mend_8 : decode cX4_mend 8 = .ok (.getfield 96, 3) := by decide +kernel
theorem dX4_mend_11 : decode cX4_mend 11 = .ok (.istore 4, 2) := by decide +kernel
theorem dX4_mend_13 : decode cX4_mend 13 = .ok (.aload_n 3, 1) := by decide +kernel
theorem dX4_mend_14 : decode cX4_mend 14 = .ok (.iconst 0, 1) := by decide +kernel
theorem dX4_mend_15 : decode cX4_mend 15 = .ok (.putfield 96, 3) := by decide +kernel
theorem dX4_mend_18 : decode cX4_mend 18 = .ok (.iload 4, 2) := by decide +kernel
theorem dX4_mend_20 : decode cX4_mend 20 = .ok (.ireturn, 1) := by decide +kernel
set_option maxRecDepth 20000 in
theorem ggX4_covers_X4_existingPack : GoodIn wsX4_covers wsX4_existingPack := goodIn_ca (goodIn_r _ [5, 6, 7, 8, 9, 82, 83, 84, 85, 86, 87] (by decide +kernel) (by decide +kernel)) (goodIn_sub (fun _ h => List.mem_cons_of_mem _ (List.mem_append_left _ (List.mem_append_left _ (List.mem_append_right _ h)))) (by decide +kernel))
set_option maxRecDepth 20000 in
theorem gX4_covers_X4_existingPack : GoodIn wsX4_covers (wsV RX4 64 RX4 yX4_existingPack wsX4_existingPack) := goodIn_app (goodIn_of _ (by decide +kernel)) ggX4_covers_X4_existingPack
set_option maxRecDepth 20000 in
theorem ggX4_covers_X4_existingTitle : GoodIn wsX4_covers wsX4_existingTitle := goodIn_ca (goodIn_r _ [13, 6, 7, 14, 15, 82, 83, 84, 85, 86, 87] (by decide +kernel) (by decide +kernel)) (goodIn_sub (fun _ h => List.mem_cons_of_mem _ (List.mem_append_left _ (List.mem_append_left _ (List.mem_append_right _ h)))) (by decide +kernel))
set_option maxRecDepth 20000 in
theorem gX4_covers_X4_existingTitle : GoodIn wsX4_covers (wsV RX4 48 RX4 yX4_existingTitle wsX4_existingTitle) := goodIn_app (goodIn_of _ (by decide +kernel)) ggX4_covers_X4_existingTitle
set_option maxRecDepth 20000 in
theorem ggX4_covers_X4_checkArticle : GoodIn wsX4_covers wsX4_checkArticle := goodIn_ca (goodIn_r _ [19, 20, 21, 22, 4, 23, 24, 25, 82, 83, 84, 85, 86, 87] (by decide +kernel) (by decide +kernel)) (goodIn_sub (fun _ h => List.mem_cons_of_mem _ (List.mem_append_left _ (List.mem_append_right _ h))) (by decide +kernel))
set_option maxRecDepth 20000 in
theorem gX4_covers_X4_checkArticle : GoodIn wsX4_covers (wsV RX4 99 RX4 yX4_checkArticle wsX4_checkArticle) := goodIn_app (goodIn_of _ (by decide +kernel)) ggX4_covers_X4_checkArticle
set_option maxRecDepth 20000 in
theorem ggX4_covers_X4_isWay : GoodIn wsX4_covers wsX4_isWay := goodIn_ca (goodIn_r _ [28, 29, 30, 31, 32, 33, 34, 35, 36, 37, 38, 39, 40, 41, 42, 43, 44, 45, 46, 47, 48, 7, 49, 50, 51, 52, 53, 54, 55, 56, 57, 58, 59, 60, 61, 62, 63, 64, 4, 65, 66, 67, 68, 69, 70, 71, 72, 73, 74, 75, 76, 77, 78, 79, 80, 81, 88, 89, 90, 91, 92, 93, 94, 95, 96, 97, 98, 99] (by decide +kernel) (by decide +kernel)) (goodIn_sub (fun _ h => List.mem_cons_of_mem _ (List.mem_append_right _ h)) (by decide +kernel))
set_option maxRecDepth 20000 in
theorem gX4_covers_X4_isWay : GoodIn wsX4_covers (va_wsS RX4 102 yX4_isWay wsX4_isWay) := goodIn_app (goodIn_of _ (by decide +kernel)) ggX4_covers_X4_isWay
theorem dX4_covers_0 : decode cX4_covers 0 = .ok (.aload_n 0, 1) := by decide +kernel
theorem dX4_covers_1 : decode cX4_covers 1 = .ok (.iload_n 1, 1) := by decide +kernel
theorem dX4_covers_2 : decode cX4_covers 2 = .ok (.invokevirtual 64, 3) := by decide +kernel
theorem dX4_covers_5 : decode cX4_covers 5 = .ok (.astore 6, 2) := by decide +kernel
theorem dX4_covers_7 : decode cX4_covers 7 = .ok (.aload_n 0, 1) := by decide +kernel
theorem dX4_covers_8 : decode cX4_covers 8 = .ok (.iload_n 2, 1) := by decide +kernel
theorem dX4_covers_9 : decode cX4_covers 9 = .ok (.invokevirtual 48, 3) := by decide +kernel
theorem dX4_covers_12 : decode cX4_covers 12 = .ok (.pop, 1) := by decide +kernel
theorem dX4_covers_13 : decode cX4_covers 13 = .ok (.aload_n 0, 1) := by decide +kernel
theorem dX4_covers_14 : decode cX4_covers 14 = .ok (.iload_n 3, 1) := by decide +kernel
theorem dX4_covers_15 : decode cX4_covers 15 = .ok (.iload 4, 2) := by decide +kernel
theorem dX4_covers_17 : decode cX4_covers 17 = .ok (.iload 5, 2) := by decide +kernel
theorem dX4_covers_19 : decode cX4_covers 19 = .ok (.invokevirtual 99, 3) := by decide +kernel
theorem dX4_covers_22 : decode cX4_covers 22 = .ok (.aload 6, 2) := by decide +kernel
theorem dX4_covers_24 : decode cX4_covers 24 = .ok (.iload_n 2, 1) := by decide +kernel
theorem dX4_covers_25 : decode cX4_covers 25 = .ok (.iload_n 3, 1) := by decide +kernel
theorem dX4_covers_26 : decode cX4_covers 26 = .ok (.iload 4, 2) := by decide +kernel
theorem dX4_covers_28 : decode cX4_covers 28 = .ok (.iload 5, 2) := by decide +kernel
theorem dX4_covers_30 : decode cX4_covers 30 = .ok (.invokestatic 102, 3) := by decide +kernel
theorem dX4_covers_33 : decode cX4_covers 33 = .ok (.ireturn, 1) := by decide +kernel
set_option maxRecDepth 20000 in
theorem ggX4_ways_X4_existingTitle : GoodIn wsX4_ways wsX4_existingTitle := goodIn_ca (goodIn_r _ [5, 6, 7, 8, 9, 93, 94, 95, 96, 97, 98] (by decide +kernel) (by decide +kernel)) (goodIn_sub (fun _ h => List.mem_cons_of_mem _ (List.mem_append_left _ (List.mem_append_left _ (List.mem_append_right _ h)))) (by decide +kernel))
set_option maxRecDepth 20000 in
theorem gX4_ways_X4_existingTitle : GoodIn wsX4_ways (wsV RX4 48 RX4 yX4_existingTitle wsX4_existingTitle) := goodIn_app (goodIn_of _ (by decide +kernel)) ggX4_ways_X4_existingTitle
set_option maxRecDepth 20000 in
theorem ggX4_ways_X4_checkArticle : GoodIn wsX4_ways wsX4_checkArticle := goodIn_ca (goodIn_r _ [13, 14, 15, 16, 4, 17, 18, 19, 93, 94, 95, 96, 97, 98] (by decide +kernel) (by decide +kernel)) (goodIn_sub (fun _ h => List.mem_cons_of_mem _ (List.mem_append_left _ (List.mem_append_right _ h))) (by decide +kernel))
set_option maxRecDepth 20000 in
theorem gX4_ways_X4_checkArticle : GoodIn wsX4_ways (wsV RX4 99 RX4 yX4_checkArticle wsX4_checkArticle) := goodIn_app (goodIn_of _ (by decide +kernel)) ggX4_ways_X4_checkArticle
set_option maxRecDepth 20000 in
theorem ggX4_ways_X4_waysTo : GoodIn wsX4_ways wsX4_waysTo := goodIn_ca (goodIn_ca (goodIn_r _ [23, 24, 25, 26, 27, 4, 28, 6, 7, 29, 30, 31, 32, 33, 34, 35, 36, 37, 38, 39, 40, 41, 42, 43, 44, 45, 46, 47, 48, 49, 50, 51, 52, 53, 54, 55, 56, 57, 58, 59, 60, 61, 62, 63, 64, 65, 66, 67, 68, 69, 70, 71, 72, 73, 74, 75, 76, 77, 78, 79, 80, 81, 82, 83, 84, 85, 93, 94, 95, 96, 97, 98, 99, 100, 101, 102, 103, 104, 105, 106, 107, 108, 109, 110] (by decide +kernel) (by decide +kernel)) (goodIn_sub (fun _ h => List.mem_cons_of_mem _ (List.mem_append_left _ (List.mem_append_left _ (List.mem_append_right _ h)))) (by decide +kernel))) (goodIn_sub (fun _ h => List.mem_cons_of_mem _ (List.mem_append_right _ h)) (by decide +kernel))
set_option maxRecDepth 20000 in
theorem gX4_ways_X4_waysTo : GoodIn wsX4_ways (wsV RX4 106 RX4 yX4_waysTo wsX4_waysTo) := goodIn_app (goodIn_of _ (by decide +kernel)) ggX4_ways_X4_waysTo
set_option maxRecDepth 20000 in
theorem ggX4_ways_J6_bitCount_0f7a4 : GoodIn wsX4_ways wsJ6_bitCount_0f7a4 := goodIn_r _ [89, 90, 91, 92] (by decide +kernel) (by decide +kernel)
set_option maxRecDepth 20000 in
theorem gX4_ways_J6_bitCount_0f7a4 : GoodIn wsX4_ways (va_wsS RX4 110 yJ6_bitCount_0f7a4 wsJ6_bitCount_0f7a4) := goodIn_app (goodIn_of _ (by decide +kernel)) ggX4_ways_J6_bitCount_0f7a4
theorem dX4_ways_0 : decode cX4_ways 0 = .ok (.aload_n 0, 1) := by decide +kernel
theorem dX4_ways_1 : decode cX4_ways 1 = .ok (.iload_n 1, 1) := by decide +kernel
theorem dX4_ways_2 : decode cX4_ways 2 = .ok (.invokevirtual 48, 3) := by decide +kernel
theorem dX4_ways_5 : decode cX4_ways 5 = .ok (.pop, 1) := by decide +kernel
theorem dX4_ways_6 : decode cX4_ways 6 = .ok (.aload_n 0, 1) := by decide +kernel
theorem dX4_ways_7 : decode cX4_ways 7 = .ok (.iload_n 2, 1) := by decide +kernel
theorem dX4_ways_8 : decode cX4_ways 8 = .ok (.iload_n 3, 1) := by decide +kernel
theorem dX4_ways_9 : decode cX4_ways 9 = .ok (.iload 4, 2) := by decide +kernel
theorem dX4_ways_11 : decode cX4_ways 11 = .ok (.invokevirtual 99, 3) := by decide +kernel
theorem dX4_ways_14 : decode cX4_ways 14 = .ok (.aload_n 0, 1) := by decide +kernel
theorem dX4_ways_15 : decode cX4_ways 15 = .ok (.iload_n 1, 1) := by decide +kernel
theorem dX4_ways_16 : decode cX4_ways 16 = .ok (.iload_n 2, 1) := by decide +kernel
theorem dX4_ways_17 : decode cX4_ways 17 = .ok (.iload_n 3, 1) := by decide +kernel
theorem dX4_ways_18 : decode cX4_ways 18 = .ok (.iload 4, 2) := by decide +kernel
theorem dX4_ways_20 : decode cX4_ways 20 = .ok (.invokevirtual 106, 3) := by decide +kernel
theorem dX4_ways_23 : decode cX4_ways 23 = .ok (.invokestatic 110, 3) := by decide +kernel
theorem dX4_ways_26 : decode cX4_ways 26 = .ok (.ireturn, 1) := by decide +kernel
set_option maxRecDepth 20000 in
theorem ggX4_wayAt_X4_checkArticle : GoodIn wsX4_wayAt wsX4_checkArticle := goodIn_ca (goodIn_r _ [8, 9, 10, 11, 7, 12, 13, 14, 104, 105, 106, 107, 108, 109] (by decide +kernel) (by decide +kernel)) (goodIn_sub (fun _ h => List.mem_cons_of_mem _ (List.mem_append_left _ (List.mem_append_right _ h))) (by decide +kernel))
set_option maxRecDepth 20000 in
theorem gX4_wayAt_X4_checkArticle : GoodIn wsX4_wayAt (wsV RX4 99 RX4 yX4_checkArticle wsX4_checkArticle) := goodIn_app (goodIn_of _ (by decide +kernel)) ggX4_wayAt_X4_checkArticle
set_option maxRecDepth 20000 in
theorem ggX4_wayAt_X4_existingTitle : GoodIn wsX4_wayAt wsX4_existingTitle := goodIn_ca (goodIn_r _ [18, 1, 2, 19, 20, 104, 105, 106, 107, 108, 109] (by decide +kernel) (by decide +kernel)) (goodIn_sub (fun _ h => List.mem_cons_of_mem _ (List.mem_append_left _ (List.mem_append_left _ (List.mem_append_right _ h)))) (by decide +kernel))
set_option maxRecDepth 20000 in
theorem gX4_wayAt_X4_existingTitle : GoodIn wsX4_wayAt (wsV RX4 48 RX4 yX4_existingTitle wsX4_existingTitle) := goodIn_app (goodIn_of _ (by decide +kernel)) ggX4_wayAt_X4_existingTitle
set_option maxRecDepth 20000 in
theorem ggX4_wayAt_X4_waysTo : GoodIn wsX4_wayAt wsX4_waysTo := goodIn_ca (goodIn_ca (goodIn_r _ [24, 3, 25, 26, 27, 7, 28, 1, 2, 29, 30, 31, 32, 33, 34, 35, 36, 37, 38, 39, 40, 41, 42, 43, 44, 45, 46, 47, 48, 49, 50, 51, 52, 53, 54, 55, 56, 57, 58, 59, 60, 61, 62, 63, 64, 65, 66, 67, 68, 69, 70, 71, 72, 73, 74, 75, 76, 77, 78, 79, 80, 81, 82, 83, 84, 85, 104, 105, 106, 107, 108, 109, 110, 111, 112, 113, 114, 115, 116, 117, 118, 119, 120, 121] (by decide +kernel) (by decide +kernel)) (goodIn_sub (fun _ h => List.mem_cons_of_mem _ (List.mem_append_left _ (List.mem_append_left _ (List.mem_append_right _ h)))) (by decide +kernel))) (goodIn_sub (fun _ h => List.mem_cons_of_mem _ (List.mem_append_right _ h)) (by decide +kernel))
set_option maxRecDepth 20000 in
theorem gX4_wayAt_X4_waysTo : GoodIn wsX4_wayAt (wsV RX4 106 RX4 yX4_waysTo wsX4_waysTo) := goodIn_app (goodIn_of _ (by decide +kernel)) ggX4_wayAt_X4_waysTo
set_option maxRecDepth 20000 in
theorem ggX4_wayAt_X4_isAmong : GoodIn wsX4_wayAt wsX4_isAmong := goodIn_r _ [88] (by decide +kernel) (by decide +kernel)
set_option maxRecDepth 20000 in
theorem gX4_wayAt_X4_isAmong : GoodIn wsX4_wayAt (va_wsS RX4 115 yX4_isAmong wsX4_isAmong) := goodIn_app (goodIn_of _ (by decide +kernel)) ggX4_wayAt_X4_isAmong
set_option maxRecDepth 20000 in
theorem ggX4_wayAt_X4_placeAmong : GoodIn wsX4_wayAt wsX4_placeAmong := goodIn_ca (goodIn_ca (goodIn_r _ [92, 3, 86, 87, 7, 88, 93, 94, 95, 96, 97, 98, 25, 26, 27, 28, 1, 2, 29, 99, 100, 101, 36, 102, 103, 48, 49, 50, 51, 52, 53, 104, 105, 106, 107, 108, 109, 110, 111, 112, 113, 114, 115, 120, 121] (by decide +kernel) (by decide +kernel)) (goodIn_sub (fun _ h => List.mem_cons_of_mem _ (List.mem_append_left _ (List.mem_append_left _ (List.mem_append_right _ h)))) (by decide +kernel))) (goodIn_sub (fun _ h => List.mem_cons_of_mem _ (List.mem_append_right _ h)) (by decide +kernel))
set_option maxRecDepth 20000 in
theorem gX4_wayAt_X4_placeAmong : GoodIn wsX4_wayAt (wsV RX4 119 RX4 yX4_placeAmong wsX4_placeAmong) := goodIn_app (goodIn_of _ (by decide +kernel)) ggX4_wayAt_X4_placeAmong
theorem dX4_wayAt_0 : decode cX4_wayAt 0 = .ok (.aload_n 0, 1) := by decide +kernel
theorem dX4_wayAt_1 : decode cX4_wayAt 1 = .ok (.iload_n 3, 1) := by decide +kernel
theorem dX4_wayAt_2 : decode cX4_wayAt 2 = .ok (.iload 4, 2) := by decide +kernel
theorem dX4_wayAt_4 : decode cX4_wayAt 4 = .ok (.iload 5, 2) := by decide +kernel
theorem dX4_wayAt_6 : decode cX4_wayAt 6 = .ok (.invokevirtual 99, 3) := by decide +kernel
theorem dX4_wayAt_9 : decode cX4_wayAt 9 = .ok (.aload_n 0, 1) := by decide +kernel
theorem dX4_wayAt_10 : decode cX4_wayAt 10 = .ok (.iload_n 2, 1) := by decide +kernel
theorem dX4_wayAt_11 : decode cX4_wayAt 11 = .ok (.invokevirtual 48, 3) := by decide +kernel
theorem dX4_wayAt_14 : decode cX4_wayAt 14 = .ok (.pop, 1) := by decide +kernel
theorem dX4_wayAt_15 : decode cX4_wayAt 15 = .ok (.aload_n 0, 1) := by decide +kernel
theorem dX4_wayAt_16 : decode cX4_wayAt 16 = .ok (.iload_n 2, 1) := by decide +kernel
theorem dX4_wayAt_17 : decode cX4_wayAt 17 = .ok (.iload_n 3, 1) := by decide +kernel
theorem dX4_wayAt_18 : decode cX4_wayAt 18 = .ok (.iload 4, 2) := by decide +kernel
theorem dX4_wayAt_20 : decode cX4_wayAt 20 = .ok (.iload 5, 2) := by decide +kernel
theorem dX4_wayAt_22 : decode cX4_wayAt 22 = .ok (.invokevirtual 106, 3) := by decide +kernel
theorem dX4_wayAt_25 : decode cX4_wayAt 25 = .ok (.istore 6, 2) := by decide +kernel
theorem dX4_wayAt_27 : decode cX4_wayAt 27 = .ok (.iconst 0, 1) := by decide +kernel
theorem dX4_wayAt_28 : decode cX4_wayAt 28 = .ok (.istore 7, 2) := by decide +kernel
theorem dX4_wayAt_30 : decode cX4_wayAt 30 = .ok (.iload 7, 2) := by decide +kernel
theorem dX4_wayAt_32 : decode cX4_wayAt 32 = .ok (.aload_n 0, 1) := by decide +kernel
theorem dX4_wayAt_33 : decode cX4_wayAt 33 = .ok (.getfield 25, 3) := by decide +kernel
theorem dX4_wayAt_36 : decode cX4_wayAt 36 = .ok (.if_icmp .ge 35, 3) := by decide +kernel
theorem dX4_wayAt_39 : decode cX4_wayAt 39 = .ok (.iload 6, 2) := by decide +kernel
theorem dX4_wayAt_41 : decode cX4_wayAt 41 = .ok (.iload 7, 2) := by decide +kernel
theorem dX4_wayAt_43 : decode cX4_wayAt 43 = .ok (.invokestatic 115, 3) := by decide +kernel
theorem dX4_wayAt_46 : decode cX4_wayAt 46 = .ok (.ifCond .eq 19, 3) := by decide +kernel
theorem dX4_wayAt_49 : decode cX4_wayAt 49 = .ok (.aload_n 0, 1) := by decide +kernel
theorem dX4_wayAt_50 : decode cX4_wayAt 50 = .ok (.iload 6, 2) := by decide +kernel
theorem dX4_wayAt_52 : decode cX4_wayAt 52 = .ok (.iload 7, 2) := by decide +kernel
theorem dX4_wayAt_54 : decode cX4_wayAt 54 = .ok (.iload_n 2, 1) := by decide +kernel
theorem dX4_wayAt_55 : decode cX4_wayAt 55 = .ok (.invokevirtual 119, 3) := by decide +kernel
theorem dX4_wayAt_58 : decode cX4_wayAt 58 = .ok (.iload_n 1, 1) := by decide +kernel
theorem dX4_wayAt_59 : decode cX4_wayAt 59 = .ok (.if_icmp .ne 6, 3) := by decide +kernel
theorem dX4_wayAt_62 : decode cX4_wayAt 62 = .ok (.iload 7, 2) := by decide +kernel
theorem dX4_wayAt_64 : decode cX4_wayAt 64 = .ok (.ireturn, 1) := by decide +kernel
theorem dX4_wayAt_65 : decode cX4_wayAt 65 = .ok (.iinc 7 1, 3) := by decide +kernel
theorem dX4_wayAt_68 : decode cX4_wayAt 68 = .ok (.goto (-38), 3) := by decide +kernel
theorem dX4_wayAt_71 : decode cX4_wayAt 71 = .ok (.new 123, 3) := by decide +kernel
theorem dX4_wayAt_74 : decode cX4_wayAt 74 = .ok (.dup, 1) := by decide +kernel
theorem dX4_wayAt_75 : decode cX4_wayAt 75 = .ok (.ldc 125, 2) := by decide +kernel
theorem dX4_wayAt_77 : decode cX4_wayAt 77 = .ok (.invokespecial 127, 3) := by decide +kernel
theorem dX4_wayAt_80 : decode cX4_wayAt 80 = .ok (.athrow, 1) := by decide +kernel
set_option maxRecDepth 20000 in
theorem ggX4_gap_X4_existingTitle : GoodIn wsX4_gap wsX4_existingTitle := goodIn_ca (goodIn_r _ [7, 8, 9, 10, 11, 88, 89, 90, 91, 92, 93] (by decide +kernel) (by decide +kernel)) (goodIn_sub (fun _ h => List.mem_cons_of_mem _ (List.mem_append_left _ (List.mem_append_left _ (List.mem_append_right _ h)))) (by decide +kernel))
set_option maxRecDepth 20000 in
theorem gX4_gap_X4_existingTitle : GoodIn wsX4_gap (wsV RX4 48 RX4 yX4_existingTitle wsX4_existingTitle) := goodIn_app (goodIn_of _ (by decide +kernel)) ggX4_gap_X4_existingTitle
set_option maxRecDepth 20000 in
theorem ggX4_gap_X4_checkRange : GoodIn wsX4_gap wsX4_checkRange := goodIn_ca (goodIn_r _ [14, 15, 16] (by decide +kernel) (by decide +kernel)) (goodIn_sub (fun _ h => List.mem_cons_of_mem _ (List.mem_append_left _ (List.mem_append_right _ h))) (by decide +kernel))
set_option maxRecDepth 20000 in
theorem gX4_gap_X4_checkRange : GoodIn wsX4_gap (va_wsS RX4 34 yX4_checkRange wsX4_checkRange) := goodIn_app (goodIn_of _ (by decide +kernel)) ggX4_gap_X4_checkRange
set_option maxRecDepth 20000 in
theorem ggX4_gap_X4_yearsSoFar : GoodIn wsX4_gap wsX4_yearsSoFar := goodIn_r _ [20, 2, 21, 22, 23, 6, 24, 86, 87, 88, 89, 90, 91, 92, 93] (by decide +kernel) (by decide +kernel)
set_option maxRecDepth 20000 in
theorem gX4_gap_X4_yearsSoFar : GoodIn wsX4_gap (wsV RX4 128 RX4 yX4_yearsSoFar wsX4_yearsSoFar) := goodIn_app (goodIn_of _ (by decide +kernel)) ggX4_gap_X4_yearsSoFar
set_option maxRecDepth 20000 in
theorem ggX4_gap_X4_yearsCoveredButBy : GoodIn wsX4_gap wsX4_yearsCoveredButBy := goodIn_ca (goodIn_ca (goodIn_r _ [28, 29, 21, 30, 31, 32, 6, 33, 8, 9, 34, 35, 36, 37, 38, 39, 40, 41, 42, 43, 44, 45, 46, 47, 48, 49, 50, 51, 52, 53, 54, 55, 56, 57, 58, 59, 60, 61, 62, 63, 64, 65, 66, 67, 68, 69, 23, 24, 70, 71, 72, 73, 74, 75, 76, 77, 78, 79, 80, 81, 82, 88, 89, 90, 91, 92, 93, 94, 95, 96, 97, 98, 99, 100, 101, 102, 103, 104, 105] (by decide +kernel) (by decide +kernel)) (goodIn_sub (fun _ h => List.mem_cons_of_mem _ (List.mem_append_left _ (List.mem_append_left _ (List.mem_append_right _ h)))) (by decide +kernel))) (goodIn_sub (fun _ h => List.mem_cons_of_mem _ (List.mem_append_right _ h)) (by decide +kernel))
set_option maxRecDepth 20000 in
theorem gX4_gap_X4_yearsCoveredButBy : GoodIn wsX4_gap (wsV RX4 132 RX4 yX4_yearsCoveredButBy wsX4_yearsCoveredButBy) := goodIn_app (goodIn_of _ (by decide +kernel)) ggX4_gap_X4_yearsCoveredButBy
set_option maxRecDepth 20000 in
theorem ggX4_gap_X4_hasYear : GoodIn wsX4_gap wsX4_hasYear := goodIn_r _ [85] (by decide +kernel) (by decide +kernel)
set_option maxRecDepth 20000 in
theorem gX4_gap_X4_hasYear : GoodIn wsX4_gap (va_wsS RX4 138 yX4_hasYear wsX4_hasYear) := goodIn_app (goodIn_of _ (by decide +kernel)) ggX4_gap_X4_hasYear
theorem dX4_gap_0 : decode cX4_gap 0 = .ok (.aload_n 0, 1) := by decide +kernel
theorem dX4_gap_1 : decode cX4_gap 1 = .ok (.iload_n 1, 1) := by decide +kernel
theorem dX4_gap_2 : decode cX4_gap 2 = .ok (.invokevirtual 48, 3) := by decide +kernel
theorem dX4_gap_5 : decode cX4_gap 5 = .ok (.astore_n 3, 1) := by decide +kernel
theorem dX4_gap_6 : decode cX4_gap 6 = .ok (.iload_n 2, 1) := by decide +kernel
theorem dX4_gap_7 : decode cX4_gap 7 = .ok (.iconst 0, 1) := by decide +kernel
theorem dX4_gap_8 : decode cX4_gap 8 = .ok (.iconst 3, 1) := by decide +kernel
theorem dX4_gap_9 : decode cX4_gap 9 = .ok (.invokestatic 34, 3) := by decide +kernel
theorem dX4_gap_12 : decode cX4_gap 12 = .ok (.aload_n 0, 1) := by decide +kernel
theorem dX4_gap_13 : decode cX4_gap 13 = .ok (.aload_n 3, 1) := by decide +kernel
theorem dX4_gap_14 : decode cX4_gap 14 = .ok (.invokevirtual 128, 3) := by decide +kernel
theorem dX4_gap_17 : decode cX4_gap 17 = .ok (.aload_n 0, 1) := by decide +kernel
theorem dX4_gap_18 : decode cX4_gap 18 = .ok (.iconst (-1), 1) := by decide +kernel
theorem dX4_gap_19 : decode cX4_gap 19 = .ok (.iload_n 1, 1) := by decide +kernel
theorem dX4_gap_20 : decode cX4_gap 20 = .ok (.iload_n 2, 1) := by decide +kernel
theorem dX4_gap_21 : decode cX4_gap 21 = .ok (.invokevirtual 132, 3) := by decide +kernel
theorem dX4_gap_24 : decode cX4_gap 24 = .ok (.ldc2_w 136, 3) := by decide +kernel
theorem dX4_gap_27 : decode cX4_gap 27 = .ok (.lxor, 1) := by decide +kernel
theorem dX4_gap_28 : decode cX4_gap 28 = .ok (.land, 1) := by decide +kernel
theorem dX4_gap_29 : decode cX4_gap 29 = .ok (.lstore 4, 2) := by decide +kernel
theorem dX4_gap_31 : decode cX4_gap 31 = .ok (.aload_n 3, 1) := by decide +kernel
theorem dX4_gap_32 : decode cX4_gap 32 = .ok (.getfield 56, 3) := by decide +kernel
theorem dX4_gap_35 : decode cX4_gap 35 = .ok (.istore 6, 2) := by decide +kernel
theorem dX4_gap_37 : decode cX4_gap 37 = .ok (.iload 6, 2) := by decide +kernel
theorem dX4_gap_39 : decode cX4_gap 39 = .ok (.bipush 55, 2) := by decide +kernel
theorem dX4_gap_41 : decode cX4_gap 41 = .ok (.if_icmp .gt 22, 3) := by decide +kernel
theorem dX4_gap_44 : decode cX4_gap 44 = .ok (.lload 4, 2) := by decide +kernel
theorem dX4_gap_46 : decode cX4_gap 46 = .ok (.iload 6, 2) := by decide +kernel
theorem dX4_gap_48 : decode cX4_gap 48 = .ok (.invokestatic 138, 3) := by decide +kernel
theorem dX4_gap_51 : decode cX4_gap 51 = .ok (.ifCond .eq 6, 3) := by decide +kernel
theorem dX4_gap_54 : decode cX4_gap 54 = .ok (.iload 6, 2) := by decide +kernel
theorem dX4_gap_56 : decode cX4_gap 56 = .ok (.ireturn, 1) := by decide +kernel
theorem dX4_gap_57 : decode cX4_gap 57 = .ok (.iinc 6 1, 3) := by decide +kernel
theorem dX4_gap_60 : decode cX4_gap 60 = .ok (.goto (-23), 3) := by decide +kernel
theorem dX4_gap_63 : decode cX4_gap 63 = .ok (.iconst (-1), 1) := by decide +kernel
theorem dX4_gap_64 : decode cX4_gap 64 = .ok (.ireturn, 1) := by decide +kernel
set_option maxRecDepth 20000 in
theorem ggX4_doubles_X4_existingTitle : GoodIn wsX4_doubles wsX4_existingTitle := goodIn_ca (goodIn_r _ [7, 8, 9, 10, 11, 85, 86, 87, 88, 89, 90] (by decide +kernel) (by decide +kernel)) (goodIn_sub (fun _ h => List.mem_cons_of_mem _ (List.mem_append_left _ (List.mem_append_left _ (List.mem_append_right _ h)))) (by decide +kernel))
set_option maxRecDepth 20000 in
theorem gX4_doubles_X4_existingTitle : GoodIn wsX4_doubles (wsV RX4 48 RX4 yX4_existingTitle wsX4_existingTitle) := goodIn_app (goodIn_of _ (by decide +kernel)) ggX4_doubles_X4_existingTitle
set_option maxRecDepth 20000 in
theorem ggX4_doubles_X4_checkRange : GoodIn wsX4_doubles wsX4_checkRange := goodIn_ca (goodIn_r _ [14, 15, 16] (by decide +kernel) (by decide +kernel)) (goodIn_sub (fun _ h => List.mem_cons_of_mem _ (List.mem_append_left _ (List.mem_append_right _ h))) (by decide +kernel))
set_option maxRecDepth 20000 in
theorem gX4_doubles_X4_checkRange : GoodIn wsX4_doubles (va_wsS RX4 34 yX4_checkRange wsX4_checkRange) := goodIn_app (goodIn_of _ (by decide +kernel)) ggX4_doubles_X4_checkRange
set_option maxRecDepth 20000 in
theorem ggX4_doubles_X4_existingPack : GoodIn wsX4_doubles wsX4_existingPack := goodIn_ca (goodIn_r _ [20, 8, 9, 1, 21, 85, 86, 87, 88, 89, 90] (by decide +kernel) (by decide +kernel)) (goodIn_sub (fun _ h => List.mem_cons_of_mem _ (List.mem_append_left _ (List.mem_append_left _ (List.mem_append_right _ h)))) (by decide +kernel))
set_option maxRecDepth 20000 in
theorem gX4_doubles_X4_existingPack : GoodIn wsX4_doubles (wsV RX4 64 RX4 yX4_existingPack wsX4_existingPack) := goodIn_app (goodIn_of _ (by decide +kernel)) ggX4_doubles_X4_existingPack
set_option maxRecDepth 20000 in
theorem ggX4_doubles_X2_letsIn : GoodIn wsX4_doubles wsX2_letsIn := goodIn_r _ [26, 27, 91, 92, 93, 94, 95, 96] (by decide +kernel) (by decide +kernel)
set_option maxRecDepth 20000 in
theorem gX4_doubles_X2_letsIn : GoodIn wsX4_doubles (wsV RX4 142 RX2 yX2_letsIn wsX2_letsIn) := goodIn_app (goodIn_of _ (by decide +kernel)) ggX4_doubles_X2_letsIn
set_option maxRecDepth 20000 in
theorem ggX4_doubles_X2_yearsCovered : GoodIn wsX4_doubles wsX2_yearsCovered := goodIn_ca (goodIn_r _ [31, 32, 33, 34, 25, 35, 36, 37, 38, 39, 40, 41, 9, 42, 43, 44, 45, 46, 47, 48, 49, 50, 51, 52, 53, 54, 55, 56, 57, 6, 58, 59, 60, 61, 62, 63, 64, 65, 66, 67, 68, 69, 70, 71, 91, 92, 93, 94, 95, 96, 97, 98, 99, 100, 101, 102] (by decide +kernel) (by decide +kernel)) (goodIn_sub (fun _ h => List.mem_cons_of_mem _ (List.mem_append_right _ h)) (by decide +kernel))
set_option maxRecDepth 20000 in
theorem gX4_doubles_X2_yearsCovered : GoodIn wsX4_doubles (wsV RX4 145 RX2 yX2_yearsCovered wsX2_yearsCovered) := goodIn_app (goodIn_of _ (by decide +kernel)) ggX4_doubles_X2_yearsCovered
set_option maxRecDepth 20000 in
theorem ggX4_doubles_X4_yearsSoFar : GoodIn wsX4_doubles wsX4_yearsSoFar := goodIn_r _ [75, 76, 2, 77, 57, 6, 58, 103, 104, 85, 86, 87, 88, 89, 90] (by decide +kernel) (by decide +kernel)
set_option maxRecDepth 20000 in
theorem gX4_doubles_X4_yearsSoFar : GoodIn wsX4_doubles (wsV RX4 128 RX4 yX4_yearsSoFar wsX4_yearsSoFar) := goodIn_app (goodIn_of _ (by decide +kernel)) ggX4_doubles_X4_yearsSoFar
set_option maxRecDepth 20000 in
theorem ggX4_doubles_J13_bitCount_95d88 : GoodIn wsX4_doubles wsJ13_bitCount_95d88 := goodIn_r _ [81, 82, 83, 84] (by decide +kernel) (by decide +kernel)
set_option maxRecDepth 20000 in
theorem gX4_doubles_J13_bitCount_95d88 : GoodIn wsX4_doubles (va_wsS RX4 148 yJ13_bitCount_95d88 wsJ13_bitCount_95d88) := goodIn_app (goodIn_of _ (by decide +kernel)) ggX4_doubles_J13_bitCount_95d88
theorem dX4_doubles_0 : decode cX4_doubles 0 = .ok (.aload_n 0, 1) := by decide +kernel
theorem dX4_doubles_1 : decode cX4_doubles 1 = .ok (.iload_n 1, 1) := by decide +kernel
theorem dX4_doubles_2 : decode cX4_doubles 2 = .ok (.invokevirtual 48, 3) := by decide +kernel
theorem dX4_doubles_5 : decode cX4_doubles 5 = .ok (.astore_n 3, 1) := by decide +kernel
theorem dX4_doubles_6 : decode cX4_doubles 6 = .ok (.iload_n 2, 1) := by decide +kernel
theorem dX4_doubles_7 : decode cX4_doubles 7 = .ok (.iconst 0, 1) := by decide +kernel
theorem dX4_doubles_8 : decode cX4_doubles 8 = .ok (.iconst 3, 1) := by decide +kernel
theorem dX4_doubles_9 : decode cX4_doubles 9 = .ok (.invokestatic 34, 3) := by decide +kernel
theorem dX4_doubles_12 : decode cX4_doubles 12 = .ok (.lconst 0, 1) := by decide +kernel
theorem dX4_doubles_13 : decode cX4_doubles 13 = .ok (.lstore 4, 2) := by decide +kernel
theorem dX4_doubles_15 : decode cX4_doubles 15 = .ok (.lconst 0, 1) := by decide +kernel
theorem dX4_doubles_16 : decode cX4_doubles 16 = .ok (.lstore 6, 2) := by decide +kernel
theorem dX4_doubles_18 : decode cX4_doubles 18 = .ok (.iconst 0, 1) := by decide +kernel
theorem dX4_doubles_19 : decode cX4_doubles 19 = .ok (.istore 8, 2) := by decide +kernel
theorem dX4_doubles_21 : decode cX4_doubles 21 = .ok (.iload 8, 2) := by decide +kernel
theorem dX4_doubles_23 : decode cX4_doubles 23 = .ok (.aload_n 0, 1) := by decide +kernel
theorem dX4_doubles_24 : decode cX4_doubles 24 = .ok (.getfield 25, 3) := by decide +kernel
theorem dX4_doubles_27 : decode cX4_doubles 27 = .ok (.if_icmp .ge 55, 3) := by decide +kernel
theorem dX4_doubles_30 : decode cX4_doubles 30 = .ok (.aload_n 0, 1) := by decide +kernel
theorem dX4_doubles_31 : decode cX4_doubles 31 = .ok (.iload 8, 2) := by decide +kernel
theorem dX4_doubles_33 : decode cX4_doubles 33 = .ok (.invokevirtual 64, 3) := by decide +kernel
theorem dX4_doubles_36 : decode cX4_doubles 36 = .ok (.astore 9, 2) := by decide +kernel
theorem dX4_doubles_38 : decode cX4_doubles 38 = .ok (.aload 9, 2) := by decide +kernel
theorem dX4_doubles_40 : decode cX4_doubles 40 = .ok (.iload_n 2, 1) := by decide +kernel
theorem dX4_doubles_41 : decode cX4_doubles 41 = .ok (.invokevirtual 142, 3) := by decide +kernel
theorem dX4_doubles_44 : decode cX4_doubles 44 = .ok (.ifCond .eq 32, 3) := by decide +kernel
theorem dX4_doubles_47 : decode cX4_doubles 47 = .ok (.aload 9, 2) := by decide +kernel
theorem dX4_doubles_49 : decode cX4_doubles 49 = .ok (.iload_n 1, 1) := by decide +kernel
theorem dX4_doubles_50 : decode cX4_doubles 50 = .ok (.aload_n 0, 1) := by decide +kernel
theorem dX4_doubles_51 : decode cX4_doubles 51 = .ok (.getfield 31, 3) := by decide +kernel
theorem dX4_doubles_54 : decode cX4_doubles 54 = .ok (.invokevirtual 145, 3) := by decide +kernel
theorem dX4_doubles_57 : decode cX4_doubles 57 = .ok (.lstore 10, 2) := by decide +kernel
theorem dX4_doubles_59 : decode cX4_doubles 59 = .ok (.lload 6, 2) := by decide +kernel
theorem dX4_doubles_61 : decode cX4_doubles 61 = .ok (.lload 4, 2) := by decide +kernel
theorem dX4_doubles_63 : decode cX4_doubles 63 = .ok (.lload 10, 2) := by decide +kernel
theorem dX4_doubles_65 : decode cX4_doubles 65 = .ok (.land, 1) := by decide +kernel
theorem dX4_doubles_66 : decode cX4_doubles 66 = .ok (.lor, 1) := by decide +kernel
theorem dX4_doubles_67 : decode cX4_doubles 67 = .ok (.lstore 6, 2) := by decide +kernel
theorem dX4_doubles_69 : decode cX4_doubles 69 = .ok (.lload 4, 2) := by decide +kernel
theorem dX4_doubles_71 : decode cX4_doubles 71 = .ok (.lload 10, 2) := by decide +kernel
theorem dX4_doubles_73 : decode cX4_doubles 73 = .ok (.lor, 1) := by decide +kernel
theorem dX4_doubles_74 : decode cX4_doubles 74 = .ok (.lstore 4, 2) := by decide +kernel
theorem dX4_doubles_76 : decode cX4_doubles 76 = .ok (.iinc 8 1, 3) := by decide +kernel
theorem dX4_doubles_79 : decode cX4_doubles 79 = .ok (.goto (-58), 3) := by decide +kernel
theorem dX4_doubles_82 : decode cX4_doubles 82 = .ok (.lload 6, 2) := by decide +kernel
theorem dX4_doubles_84 : decode cX4_doubles 84 = .ok (.aload_n 0, 1) := by decide +kernel
theorem dX4_doubles_85 : decode cX4_doubles 85 = .ok (.aload_n 3, 1) := by decide +kernel
theorem dX4_doubles_86 : decode cX4_doubles 86 = .ok (.invokevirtual 128, 3) := by decide +kernel
theorem dX4_doubles_89 : decode cX4_doubles 89 = .ok (.land, 1) := by decide +kernel
theorem dX4_doubles_90 : decode cX4_doubles 90 = .ok (.invokestatic 148, 3) := by decide +kernel
theorem dX4_doubles_93 : decode cX4_doubles 93 = .ok (.ireturn, 1) := by decide +kernel
set_option maxRecDepth 20000 in
theorem ggX4_isNeedless_X4_existingPack : GoodIn wsX4_isNeedless wsX4_existingPack := goodIn_ca (goodIn_r _ [6, 7, 8, 9, 10, 84, 85, 86, 87, 88, 89] (by decide +kernel) (by decide +kernel)) (goodIn_sub (fun _ h => List.mem_cons_of_mem _ (List.mem_append_left _ (List.mem_append_right _ h))) (by decide +kernel))
set_option maxRecDepth 20000 in
theorem gX4_isNeedless_X4_existingPack : GoodIn wsX4_isNeedless (wsV RX4 64 RX4 yX4_existingPack wsX4_existingPack) := goodIn_app (goodIn_of _ (by decide +kernel)) ggX4_isNeedless_X4_existingPack
set_option maxRecDepth 20000 in
theorem ggX4_isNeedless_X4_isLostWithout : GoodIn wsX4_isNeedless wsX4_isLostWithout := goodIn_ca (goodIn_ca (goodIn_r _ [14, 15, 16, 2, 3, 4, 5, 6, 7, 8, 9, 10, 17, 18, 19, 20, 21, 22, 23, 24, 25, 26, 27, 28, 29, 30, 31, 32, 33, 34, 35, 36, 37, 38, 39, 40, 41, 42, 43, 44, 45, 46, 47, 48, 49, 50, 51, 52, 53, 54, 55, 56, 57, 58, 59, 60, 61, 1, 62, 63, 64, 65, 66, 67, 68, 69, 70, 71, 72, 73, 74, 75, 76, 77, 78, 79, 80, 81, 82, 83, 84, 85, 86, 87, 88, 89, 90, 91, 92, 93, 94, 95, 96, 97, 98, 99, 100, 101, 102, 103] (by decide +kernel) (by decide +kernel)) (goodIn_sub (fun _ h => List.mem_cons_of_mem _ (List.mem_append_left _ (List.mem_append_right _ h))) (by decide +kernel))) (goodIn_sub (fun _ h => List.mem_cons_of_mem _ (List.mem_append_right _ h)) (by decide +kernel))
set_option maxRecDepth 20000 in
theorem gX4_isNeedless_X4_isLostWithout : GoodIn wsX4_isNeedless (wsV RX4 153 RX4 yX4_isLostWithout wsX4_isLostWithout) := goodIn_app (goodIn_of _ (by decide +kernel)) ggX4_isNeedless_X4_isLostWithout
theorem dX4_isNeedless_0 : decode cX4_isNeedless 0 = .ok (.aload_n 0, 1) := by decide +kernel
theorem dX4_isNeedless_1 : decode cX4_isNeedless 1 = .ok (.iload_n 1, 1) := by decide +kernel
theorem dX4_isNeedless_2 : decode cX4_isNeedless 2 = .ok (.invokevirtual 64, 3) := by decide +kernel
theorem dX4_isNeedless_5 : decode cX4_isNeedless 5 = .ok (.pop, 1) := by decide +kernel
theorem dX4_isNeedless_6 : decode cX4_isNeedless 6 = .ok (.iconst 0, 1) := by decide +kernel
theorem dX4_isNeedless_7 : decode cX4_isNeedless 7 = .ok (.istore_n 2, 1) := by decide +kernel
theorem dX4_isNeedless_8 : decode cX4_isNeedless 8 = .ok (.iload_n 2, 1) := by decide +kernel
theorem dX4_isNeedless_9 : decode cX4_isNeedless 9 = .ok (.aload_n 0, 1) := by decide +kernel
theorem dX4_isNeedless_10 : decode cX4_isNeedless 10 = .ok (.getfield 21, 3) := by decide +kernel
theorem dX4_isNeedless_13 : decode cX4_isNeedless 13 = .ok (.if_icmp .ge 20, 3) := by decide +kernel
theorem dX4_isNeedless_16 : decode cX4_isNeedless 16 = .ok (.aload_n 0, 1) := by decide +kernel
theorem dX4_isNeedless_17 : decode cX4_isNeedless 17 = .ok (.iload_n 1, 1) := by decide +kernel
theorem dX4_isNeedless_18 : decode cX4_isNeedless 18 = .ok (.iload_n 2, 1) := by decide +kernel
theorem dX4_isNeedless_19 : decode cX4_isNeedless 19 = .ok (.invokevirtual 153, 3) := by decide +kernel
theorem dX4_isNeedless_22 : decode cX4_isNeedless 22 = .ok (.ifCond .eq 5, 3) := by decide +kernel
theorem dX4_isNeedless_25 : decode cX4_isNeedless 25 = .ok (.iconst 0, 1) := by decide +kernel
theorem dX4_isNeedless_26 : decode cX4_isNeedless 26 = .ok (.ireturn, 1) := by decide +kernel
theorem dX4_isNeedless_27 : decode cX4_isNeedless 27 = .ok (.iinc 2 1, 3) := by decide +kernel
theorem dX4_isNeedless_30 : decode cX4_isNeedless 30 = .ok (.goto (-22), 3) := by decide +kernel
theorem dX4_isNeedless_33 : decode cX4_isNeedless 33 = .ok (.iconst 1, 1) := by decide +kernel
theorem dX4_isNeedless_34 : decode cX4_isNeedless 34 = .ok (.ireturn, 1) := by decide +kernel
theorem dX4_checkRange_0 : decode cX4_checkRange 0 = .ok (.iload_n 0, 1) := by decide +kernel
theorem dX4_checkRange_1 : decode cX4_checkRange 1 = .ok (.iload_n 1, 1) := by decide +kernel
theorem dX4_checkRange_2 : decode cX4_checkRange 2 = .ok (.if_icmp .lt 8, 3) := by decide +kernel
theorem dX4_checkRange_5 : decode cX4_checkRange 5 = .ok (.iload_n 0, 1) := by decide +kernel
theorem dX4_checkRange_6 : decode cX4_checkRange 6 = .ok (.iload_n 2, 1) := by decide +kernel
theorem dX4_checkRange_7 : decode cX4_checkRange 7 = .ok (.if_icmp .le 13, 3) := by decide +kernel
theorem dX4_checkRange_10 : decode cX4_checkRange 10 = .ok (.new 156, 3) := by decide +kernel
theorem dX4_checkRange_13 : decode cX4_checkRange 13 = .ok (.dup, 1) := by decide +kernel
theorem dX4_checkRange_14 : decode cX4_checkRange 14 = .ok (.ldc 158, 2) := by decide +kernel
theorem dX4_checkRange_16 : decode cX4_checkRange 16 = .ok (.invokespecial 160, 3) := by decide +kernel
theorem dX4_checkRange_19 : decode cX4_checkRange 19 = .ok (.athrow, 1) := by decide +kernel
theorem dX4_checkRange_20 : decode cX4_checkRange 20 = .ok (.return_, 1) := by decide +kernel
set_option maxRecDepth 20000 in
theorem ggX4_checkArticle_X4_checkRange : GoodIn wsX4_checkArticle wsX4_checkRange := goodIn_ca (goodIn_r _ [5, 6, 7] (by decide +kernel) (by decide +kernel)) (goodIn_sub (fun _ h => List.mem_cons_of_mem _ (List.mem_append_right _ h)) (by decide +kernel))
set_option maxRecDepth 20000 in
theorem gX4_checkArticle_X4_checkRange : GoodIn wsX4_checkArticle (va_wsS RX4 34 yX4_checkRange wsX4_checkRange) := goodIn_app (goodIn_of _ (by decide +kernel)) ggX4_checkArticle_X4_checkRange
theorem dX4_checkArticle_0 : decode cX4_checkArticle 0 = .ok (.iload_n 1, 1) := by decide +kernel
theorem dX4_checkArticle_1 : decode cX4_checkArticle 1 = .ok (.iconst 0, 1) := by decide +kernel
theorem dX4_checkArticle_2 : decode cX4_checkArticle 2 = .ok (.bipush 55, 2) := by decide +kernel
theorem dX4_checkArticle_4 : decode cX4_checkArticle 4 = .ok (.invokestatic 34, 3) := by decide +kernel
theorem dX4_checkArticle_7 : decode cX4_checkArticle 7 = .ok (.iload_n 2, 1) := by decide +kernel
theorem dX4_checkArticle_8 : decode cX4_checkArticle 8 = .ok (.iconst 0, 1) := by decide +kernel
theorem dX4_checkArticle_9 : decode cX4_checkArticle 9 = .ok (.iconst 3, 1) := by decide +kernel
theorem dX4_checkArticle_10 : decode cX4_checkArticle 10 = .ok (.invokestatic 34, 3) := by decide +kernel
theorem dX4_checkArticle_13 : decode cX4_checkArticle 13 = .ok (.iload_n 3, 1) := by decide +kernel
theorem dX4_checkArticle_14 : decode cX4_checkArticle 14 = .ok (.iconst 0, 1) := by decide +kernel
theorem dX4_checkArticle_15 : decode cX4_checkArticle 15 = .ok (.aload_n 0, 1) := by decide +kernel
theorem dX4_checkArticle_16 : decode cX4_checkArticle 16 = .ok (.getfield 31, 3) := by decide +kernel
theorem dX4_checkArticle_19 : decode cX4_checkArticle 19 = .ok (.invokestatic 34, 3) := by decide +kernel
theorem dX4_checkArticle_22 : decode cX4_checkArticle 22 = .ok (.return_, 1) := by decide +kernel
theorem dX4_existingTitle_0 : decode cX4_existingTitle 0 = .ok (.iload_n 1, 1) := by decide +kernel
theorem dX4_existingTitle_1 : decode cX4_existingTitle 1 = .ok (.ifCond .lt 20, 3) := by decide +kernel
theorem dX4_existingTitle_4 : decode cX4_existingTitle 4 = .ok (.iload_n 1, 1) := by decide +kernel
theorem dX4_existingTitle_5 : decode cX4_existingTitle 5 = .ok (.aload_n 0, 1) := by decide +kernel
theorem dX4_existingTitle_6 : decode cX4_existingTitle 6 = .ok (.getfield 21, 3) := by decide +kernel
theorem dX4_existingTitle_9 : decode cX4_existingTitle 9 = .ok (.if_icmp .ge 12, 3) := by decide +kernel
theorem dX4_existingTitle_12 : decode cX4_existingTitle 12 = .ok (.aload_n 0, 1) := by decide +kernel
theorem dX4_existingTitle_13 : decode cX4_existingTitle 13 = .ok (.getfield 11, 3) := by decide +kernel
theorem dX4_existingTitle_16 : decode cX4_existingTitle 16 = .ok (.iload_n 1, 1) := by decide +kernel
theorem dX4_existingTitle_17 : decode cX4_existingTitle 17 = .ok (.aaload, 1) := by decide +kernel
theorem dX4_existingTitle_18 : decode cX4_existingTitle 18 = .ok (.ifnonnull 13, 3) := by decide +kernel
theorem dX4_existingTitle_21 : decode cX4_existingTitle 21 = .ok (.new 123, 3) := by decide +kernel
theorem dX4_existingTitle_24 : decode cX4_existingTitle 24 = .ok (.dup, 1) := by decide +kernel
theorem dX4_existingTitle_25 : decode cX4_existingTitle 25 = .ok (.ldc 161, 2) := by decide +kernel
theorem dX4_existingTitle_27 : decode cX4_existingTitle 27 = .ok (.invokespecial 127, 3) := by decide +kernel
theorem dX4_existingTitle_30 : decode cX4_existingTitle 30 = .ok (.athrow, 1) := by decide +kernel
theorem dX4_existingTitle_31 : decode cX4_existingTitle 31 = .ok (.aload_n 0, 1) := by decide +kernel
theorem dX4_existingTitle_32 : decode cX4_existingTitle 32 = .ok (.getfield 11, 3) := by decide +kernel
theorem dX4_existingTitle_35 : decode cX4_existingTitle 35 = .ok (.iload_n 1, 1) := by decide +kernel
theorem dX4_existingTitle_36 : decode cX4_existingTitle 36 = .ok (.aaload, 1) := by decide +kernel
theorem dX4_existingTitle_37 : decode cX4_existingTitle 37 = .ok (.areturn, 1) := by decide +kernel
theorem dX4_existingPack_0 : decode cX4_existingPack 0 = .ok (.iload_n 1, 1) := by decide +kernel
theorem dX4_existingPack_1 : decode cX4_existingPack 1 = .ok (.ifCond .lt 20, 3) := by decide +kernel
theorem dX4_existingPack_4 : decode cX4_existingPack 4 = .ok (.iload_n 1, 1) := by decide +kernel
theorem dX4_existingPack_5 : decode cX4_existingPack 5 = .ok (.aload_n 0, 1) := by decide +kernel
theorem dX4_existingPack_6 : decode cX4_existingPack 6 = .ok (.getfield 25, 3) := by decide +kernel
theorem dX4_existingPack_9 : decode cX4_existingPack 9 = .ok (.if_icmp .ge 12, 3) := by decide +kernel
theorem dX4_existingPack_12 : decode cX4_existingPack 12 = .ok (.aload_n 0, 1) := by decide +kernel
theorem dX4_existingPack_13 : decode cX4_existingPack 13 = .ok (.getfield 17, 3) := by decide +kernel
theorem dX4_existingPack_16 : decode cX4_existingPack 16 = .ok (.iload_n 1, 1) := by decide +kernel
theorem dX4_existingPack_17 : decode cX4_existingPack 17 = .ok (.aaload, 1) := by decide +kernel
theorem dX4_existingPack_18 : decode cX4_existingPack 18 = .ok (.ifnonnull 13, 3) := by decide +kernel
theorem dX4_existingPack_21 : decode cX4_existingPack 21 = .ok (.new 123, 3) := by decide +kernel
theorem dX4_existingPack_24 : decode cX4_existingPack 24 = .ok (.dup, 1) := by decide +kernel
theorem dX4_existingPack_25 : decode cX4_existingPack 25 = .ok (.ldc 163, 2) := by decide +kernel
theorem dX4_existingPack_27 : decode cX4_existingPack 27 = .ok (.invokespecial 127, 3) := by decide +kernel
theorem dX4_existingPack_30 : decode cX4_existingPack 30 = .ok (.athrow, 1) := by decide +kernel
theorem dX4_existingPack_31 : decode cX4_existingPack 31 = .ok (.aload_n 0, 1) := by decide +kernel
theorem dX4_existingPack_32 : decode cX4_existingPack 32 = .ok (.getfield 17, 3) := by decide +kernel
theorem dX4_existingPack_35 : decode cX4_existingPack 35 = .ok (.iload_n 1, 1) := by decide +kernel
theorem dX4_existingPack_36 : decode cX4_existingPack 36 = .ok (.aaload, 1) := by decide +kernel
theorem dX4_existingPack_37 : decode cX4_existingPack 37 = .ok (.areturn, 1) := by decide +kernel
set_option maxRecDepth 20000 in
theorem ggX4_existingStay_X4_existingPack : GoodIn wsX4_existingStay wsX4_existingPack := goodIn_ca (goodIn_r _ [5, 6, 7, 8, 9, 23, 24, 25, 26, 27, 28] (by decide +kernel) (by decide +kernel)) (goodIn_sub (fun _ h => List.mem_cons_of_mem _ (List.mem_append_left _ (List.mem_append_right _ h))) (by decide +kernel))
set_option maxRecDepth 20000 in
theorem gX4_existingStay_X4_existingPack : GoodIn wsX4_existingStay (wsV RX4 64 RX4 yX4_existingPack wsX4_existingPack) := goodIn_app (goodIn_of _ (by decide +kernel)) ggX4_existingStay_X4_existingPack
set_option maxRecDepth 20000 in
theorem ggX4_existingStay_X4_existingTitle : GoodIn wsX4_existingStay wsX4_existingTitle := goodIn_ca (goodIn_r _ [13, 6, 7, 14, 15, 23, 24, 25, 26, 27, 28] (by decide +kernel) (by decide +kernel)) (goodIn_sub (fun _ h => List.mem_cons_of_mem _ (List.mem_append_left _ (List.mem_append_right _ h))) (by decide +kernel))
set_option maxRecDepth 20000 in
theorem gX4_existingStay_X4_existingTitle : GoodIn wsX4_existingStay (wsV RX4 48 RX4 yX4_existingTitle wsX4_existingTitle) := goodIn_app (goodIn_of _ (by decide +kernel)) ggX4_existingStay_X4_existingTitle
set_option maxRecDepth 20000 in
theorem ggX4_existingStay_X2_stayOf : GoodIn wsX4_existingStay wsX2_stayOf := goodIn_ca (goodIn_r _ [20, 21, 7, 22, 29, 30, 31, 32, 33, 34] (by decide +kernel) (by decide +kernel)) (goodIn_sub (fun _ h => List.mem_cons_of_mem _ (List.mem_append_right _ h)) (by decide +kernel))
set_option maxRecDepth 20000 in
theorem gX4_existingStay_X2_stayOf : GoodIn wsX4_existingStay (wsV RX4 165 RX2 yX2_stayOf wsX2_stayOf) := goodIn_app (goodIn_of _ (by decide +kernel)) ggX4_existingStay_X2_stayOf
theorem dX4_existingStay_0 : decode cX4_existingStay 0 = .ok (.aload_n 0, 1) := by decide +kernel
theorem dX4_existingStay_1 : decode cX4_existingStay 1 = .ok (.iload_n 1, 1) := by decide +kernel
theorem dX4_existingStay_2 : decode cX4_existingStay 2 = .ok (.invokevirtual 64, 3) := by decide +kernel
theorem dX4_existingStay_5 : decode cX4_existingStay 5 = .ok (.astore_n 3, 1) := by decide +kernel
theorem dX4_existingStay_6 : decode cX4_existingStay 6 = .ok (.aload_n 0, 1) := by decide +kernel
theorem dX4_existingStay_7 : decode cX4_existingStay 7 = .ok (.iload_n 2, 1) := by decide +kernel
theorem dX4_existingStay_8 : decode cX4_existingStay 8 = .ok (.invokevirtual 48, 3) := by decide +kernel
theorem dX4_existingStay_11 : decode cX4_existingStay 11 = .ok (.pop, 1) := by decide +kernel
theorem dX4_existingStay_12 : decode cX4_existingStay 12 = .ok (.aload_n 3, 1) := by decide +kernel
theorem dX4_existingStay_13 : decode cX4_existingStay 13 = .ok (.iload_n 2, 1) := by decide +kernel
theorem dX4_existingStay_14 : decode cX4_existingStay 14 = .ok (.invokevirtual 165, 3) := by decide +kernel
theorem dX4_existingStay_17 : decode cX4_existingStay 17 = .ok (.areturn, 1) := by decide +kernel
set_option maxRecDepth 20000 in
theorem ggX4_change_X1_add : GoodIn wsX4_change wsX1_add := goodIn_r _ [7, 8, 9, 10, 11, 12, 13, 14, 15, 16, 17, 18, 19, 20, 21, 28, 29, 30, 31, 32, 33] (by decide +kernel) (by decide +kernel)
set_option maxRecDepth 20000 in
theorem gX4_change_X1_add : GoodIn wsX4_change (wsV RX4 169 RX1 yX1_add wsX1_add) := goodIn_app (goodIn_of _ (by decide +kernel)) ggX4_change_X1_add
theorem dX4_change_0 : decode cX4_change 0 = .ok (.aload_n 0, 1) := by decide +kernel
theorem dX4_change_1 : decode cX4_change 1 = .ok (.getfield 28, 3) := by decide +kernel
theorem dX4_change_4 : decode cX4_change 4 = .ok (.sipush 512, 3) := by decide +kernel
theorem dX4_change_7 : decode cX4_change 7 = .ok (.if_icmp .ge 24, 3) := by decide +kernel
theorem dX4_change_10 : decode cX4_change 10 = .ok (.aload_n 0, 1) := by decide +kernel
theorem dX4_change_11 : decode cX4_change 11 = .ok (.dup, 1) := by decide +kernel
theorem dX4_change_12 : decode cX4_change 12 = .ok (.getfield 28, 3) := by decide +kernel
theorem dX4_change_15 : decode cX4_change 15 = .ok (.iconst 1, 1) := by decide +kernel
theorem dX4_change_16 : decode cX4_change 16 = .ok (.iadd, 1) := by decide +kernel
theorem dX4_change_17 : decode cX4_change 17 = .ok (.putfield 28, 3) := by decide +kernel
theorem dX4_change_20 : decode cX4_change 20 = .ok (.aload_n 1, 1) := by decide +kernel
theorem dX4_change_21 : decode cX4_change 21 = .ok (.aload_n 0, 1) := by decide +kernel
theorem dX4_change_22 : decode cX4_change 22 = .ok (.getfield 31, 3) := by decide +kernel
theorem dX4_change_25 : decode cX4_change 25 = .ok (.lload_n 2, 1) := by decide +kernel
theorem dX4_change_26 : decode cX4_change 26 = .ok (.iload 4, 2) := by decide +kernel
theorem dX4_change_28 : decode cX4_change 28 = .ok (.invokevirtual 169, 3) := by decide +kernel
theorem dX4_change_31 : decode cX4_change 31 = .ok (.return_, 1) := by decide +kernel
set_option maxRecDepth 20000 in
theorem ggX4_isWay_X2_letsIn : GoodIn wsX4_isWay wsX2_letsIn := goodIn_r _ [5, 6, 56, 57, 58, 59, 60, 61] (by decide +kernel) (by decide +kernel)
set_option maxRecDepth 20000 in
theorem gX4_isWay_X2_letsIn : GoodIn wsX4_isWay (wsV RX4 142 RX2 yX2_letsIn wsX2_letsIn) := goodIn_app (goodIn_of _ (by decide +kernel)) ggX4_isWay_X2_letsIn
set_option maxRecDepth 20000 in
theorem ggX4_isWay_X2_yearsCovered : GoodIn wsX4_isWay wsX2_yearsCovered := goodIn_ca (goodIn_r _ [10, 11, 12, 13, 4, 14, 15, 16, 17, 18, 19, 20, 21, 22, 23, 24, 25, 26, 27, 28, 29, 30, 31, 32, 33, 34, 35, 36, 37, 38, 39, 40, 41, 42, 43, 44, 45, 46, 47, 48, 49, 50, 51, 52, 56, 57, 58, 59, 60, 61, 62, 63, 64, 65, 66, 67] (by decide +kernel) (by decide +kernel)) (goodIn_sub (fun _ h => List.mem_cons_of_mem _ (List.mem_append_right _ h)) (by decide +kernel))
set_option maxRecDepth 20000 in
theorem gX4_isWay_X2_yearsCovered : GoodIn wsX4_isWay (wsV RX4 145 RX2 yX2_yearsCovered wsX2_yearsCovered) := goodIn_app (goodIn_of _ (by decide +kernel)) ggX4_isWay_X2_yearsCovered
set_option maxRecDepth 20000 in
theorem ggX4_isWay_X4_hasYear : GoodIn wsX4_isWay wsX4_hasYear := goodIn_r _ [55] (by decide +kernel) (by decide +kernel)
set_option maxRecDepth 20000 in
theorem gX4_isWay_X4_hasYear : GoodIn wsX4_isWay (va_wsS RX4 138 yX4_hasYear wsX4_hasYear) := goodIn_app (goodIn_of _ (by decide +kernel)) ggX4_isWay_X4_hasYear
theorem dX4_isWay_0 : decode cX4_isWay 0 = .ok (.aload_n 0, 1) := by decide +kernel
theorem dX4_isWay_1 : decode cX4_isWay 1 = .ok (.iload_n 3, 1) := by decide +kernel
theorem dX4_isWay_2 : decode cX4_isWay 2 = .ok (.invokevirtual 142, 3) := by decide +kernel
theorem dX4_isWay_5 : decode cX4_isWay 5 = .ok (.ifCond .eq 21, 3) := by decide +kernel
theorem dX4_isWay_8 : decode cX4_isWay 8 = .ok (.aload_n 0, 1) := by decide +kernel
theorem dX4_isWay_9 : decode cX4_isWay 9 = .ok (.iload_n 1, 1) := by decide +kernel
theorem dX4_isWay_10 : decode cX4_isWay 10 = .ok (.iload 4, 2) := by decide +kernel
theorem dX4_isWay_12 : decode cX4_isWay 12 = .ok (.invokevirtual 145, 3) := by decide +kernel
theorem dX4_isWay_15 : decode cX4_isWay 15 = .ok (.iload_n 2, 1) := by decide +kernel
theorem dX4_isWay_16 : decode cX4_isWay 16 = .ok (.invokestatic 138, 3) := by decide +kernel
theorem dX4_isWay_19 : decode cX4_isWay 19 = .ok (.ifCond .eq 7, 3) := by decide +kernel
theorem dX4_isWay_22 : decode cX4_isWay 22 = .ok (.iconst 1, 1) := by decide +kernel
theorem dX4_isWay_23 : decode cX4_isWay 23 = .ok (.goto 4, 3) := by decide +kernel
theorem dX4_isWay_26 : decode cX4_isWay 26 = .ok (.iconst 0, 1) := by decide +kernel
theorem dX4_isWay_27 : decode cX4_isWay 27 = .ok (.ireturn, 1) := by decide +kernel
set_option maxRecDepth 20000 in
theorem ggX4_waysTo_X4_existingPack : GoodIn wsX4_waysTo wsX4_existingPack := goodIn_ca (goodIn_r _ [6, 7, 8, 1, 9, 66, 67, 68, 69, 70, 71] (by decide +kernel) (by decide +kernel)) (goodIn_sub (fun _ h => List.mem_cons_of_mem _ (List.mem_append_left _ (List.mem_append_right _ h))) (by decide +kernel))
set_option maxRecDepth 20000 in
theorem gX4_waysTo_X4_existingPack : GoodIn wsX4_waysTo (wsV RX4 64 RX4 yX4_existingPack wsX4_existingPack) := goodIn_app (goodIn_of _ (by decide +kernel)) ggX4_waysTo_X4_existingPack
set_option maxRecDepth 20000 in
theorem ggX4_waysTo_X4_isWay : GoodIn wsX4_waysTo wsX4_isWay := goodIn_ca (goodIn_r _ [12, 13, 14, 15, 16, 17, 18, 19, 20, 21, 22, 23, 24, 25, 26, 27, 28, 29, 30, 31, 32, 8, 33, 34, 35, 36, 37, 38, 39, 40, 41, 42, 43, 44, 45, 46, 47, 48, 5, 49, 50, 51, 52, 53, 54, 55, 56, 57, 58, 59, 60, 61, 62, 63, 64, 65, 72, 73, 74, 75, 76, 77, 78, 79, 80, 81, 82, 83] (by decide +kernel) (by decide +kernel)) (goodIn_sub (fun _ h => List.mem_cons_of_mem _ (List.mem_append_right _ h)) (by decide +kernel))
set_option maxRecDepth 20000 in
theorem gX4_waysTo_X4_isWay : GoodIn wsX4_waysTo (va_wsS RX4 102 yX4_isWay wsX4_isWay) := goodIn_app (goodIn_of _ (by decide +kernel)) ggX4_waysTo_X4_isWay
theorem dX4_waysTo_0 : decode cX4_waysTo 0 = .ok (.iconst 0, 1) := by decide +kernel
theorem dX4_waysTo_1 : decode cX4_waysTo 1 = .ok (.istore 5, 2) := by decide +kernel
theorem dX4_waysTo_3 : decode cX4_waysTo 3 = .ok (.iconst 0, 1) := by decide +kernel
theorem dX4_waysTo_4 : decode cX4_waysTo 4 = .ok (.istore 6, 2) := by decide +kernel
theorem dX4_waysTo_6 : decode cX4_waysTo 6 = .ok (.iload 6, 2) := by decide +kernel
theorem dX4_waysTo_8 : decode cX4_waysTo 8 = .ok (.aload_n 0, 1) := by decide +kernel
theorem dX4_waysTo_9 : decode cX4_waysTo 9 = .ok (.getfield 25, 3) := by decide +kernel
theorem dX4_waysTo_12 : decode cX4_waysTo 12 = .ok (.if_icmp .ge 35, 3) := by decide +kernel
theorem dX4_waysTo_15 : decode cX4_waysTo 15 = .ok (.aload_n 0, 1) := by decide +kernel
theorem dX4_waysTo_16 : decode cX4_waysTo 16 = .ok (.iload 6, 2) := by decide +kernel
theorem dX4_waysTo_18 : decode cX4_waysTo 18 = .ok (.invokevirtual 64, 3) := by decide +kernel
theorem dX4_waysTo_21 : decode cX4_waysTo 21 = .ok (.iload_n 1, 1) := by decide +kernel
theorem dX4_waysTo_22 : decode cX4_waysTo 22 = .ok (.iload_n 2, 1) := by decide +kernel
theorem dX4_waysTo_23 : decode cX4_waysTo 23 = .ok (.iload_n 3, 1) := by decide +kernel
theorem dX4_waysTo_24 : decode cX4_waysTo 24 = .ok (.iload 4, 2) := by decide +kernel
theorem dX4_waysTo_26 : decode cX4_waysTo 26 = .ok (.invokestatic 102, 3) := by decide +kernel
theorem dX4_waysTo_29 : decode cX4_waysTo 29 = .ok (.ifCond .eq 12, 3) := by decide +kernel
theorem dX4_waysTo_32 : decode cX4_waysTo 32 = .ok (.iload 5, 2) := by decide +kernel
theorem dX4_waysTo_34 : decode cX4_waysTo 34 = .ok (.iconst 1, 1) := by decide +kernel
theorem dX4_waysTo_35 : decode cX4_waysTo 35 = .ok (.iload 6, 2) := by decide +kernel
theorem dX4_waysTo_37 : decode cX4_waysTo 37 = .ok (.ishl, 1) := by decide +kernel
theorem dX4_waysTo_38 : decode cX4_waysTo 38 = .ok (.ior, 1) := by decide +kernel
theorem dX4_waysTo_39 : decode cX4_waysTo 39 = .ok (.istore 5, 2) := by decide +kernel
theorem dX4_waysTo_41 : decode cX4_waysTo 41 = .ok (.iinc 6 1, 3) := by decide +kernel
theorem dX4_waysTo_44 : decode cX4_waysTo 44 = .ok (.goto (-38), 3) := by decide +kernel
theorem dX4_waysTo_47 : decode cX4_waysTo 47 = .ok (.iload 5, 2) := by decide +kernel
theorem dX4_waysTo_49 : decode cX4_waysTo 49 = .ok (.ireturn, 1) := by decide +kernel
theorem dX4_isAmong_0 : decode cX4_isAmong 0 = .ok (.iload_n 0, 1) := by decide +kernel
theorem dX4_isAmong_1 : decode cX4_isAmong 1 = .ok (.iload_n 1, 1) := by decide +kernel
theorem dX4_isAmong_2 : decode cX4_isAmong 2 = .ok (.ishr, 1) := by decide +kernel
theorem dX4_isAmong_3 : decode cX4_isAmong 3 = .ok (.iconst 1, 1) := by decide +kernel
theorem dX4_isAmong_4 : decode cX4_isAmong 4 = .ok (.iand, 1) := by decide +kernel
theorem dX4_isAmong_5 : decode cX4_isAmong 5 = .ok (.iconst 1, 1) := by decide +kernel
theorem dX4_isAmong_6 : decode cX4_isAmong 6 = .ok (.if_icmp .ne 7, 3) := by decide +kernel
theorem dX4_isAmong_9 : decode cX4_isAmong 9 = .ok (.iconst 1, 1) := by decide +kernel
theorem dX4_isAmong_10 : decode cX4_isAmong 10 = .ok (.goto 4, 3) := by decide +kernel
theorem dX4_isAmong_13 : decode cX4_isAmong 13 = .ok (.iconst 0, 1) := by decide +kernel
theorem dX4_isAmong_14 : decode cX4_isAmong 14 = .ok (.ireturn, 1) := by decide +kernel
set_option maxRecDepth 20000 in
theorem ggX4_placeAmong_X4_isAmong : GoodIn wsX4_placeAmong wsX4_isAmong := goodIn_r _ [5] (by decide +kernel) (by decide +kernel)
set_option maxRecDepth 20000 in
theorem gX4_placeAmong_X4_isAmong : GoodIn wsX4_placeAmong (va_wsS RX4 115 yX4_isAmong wsX4_isAmong) := goodIn_app (goodIn_of _ (by decide +kernel)) ggX4_placeAmong_X4_isAmong
set_option maxRecDepth 20000 in
theorem ggX4_placeAmong_X4_isAhead : GoodIn wsX4_placeAmong wsX4_isAhead := goodIn_ca (goodIn_ca (goodIn_r _ [9, 10, 11, 12, 13, 14, 4, 15, 16, 17, 1, 18, 19, 20, 21, 22, 23, 24, 25, 26, 27, 28, 29, 30, 37, 38, 39, 40, 41, 42, 31, 32, 33, 34, 35, 36, 43, 44] (by decide +kernel) (by decide +kernel)) (goodIn_sub (fun _ h => List.mem_cons_of_mem _ (List.mem_append_left _ (List.mem_append_right _ h))) (by decide +kernel))) (goodIn_sub (fun _ h => List.mem_cons_of_mem _ (List.mem_append_right _ h)) (by decide +kernel))
set_option maxRecDepth 20000 in
theorem gX4_placeAmong_X4_isAhead : GoodIn wsX4_placeAmong (wsV RX4 173 RX4 yX4_isAhead wsX4_isAhead) := goodIn_app (goodIn_of _ (by decide +kernel)) ggX4_placeAmong_X4_isAhead
theorem dX4_placeAmong_0 : decode cX4_placeAmong 0 = .ok (.iconst 0, 1) := by decide +kernel
theorem dX4_placeAmong_1 : decode cX4_placeAmong 1 = .ok (.istore 4, 2) := by decide +kernel
theorem dX4_placeAmong_3 : decode cX4_placeAmong 3 = .ok (.iconst 0, 1) := by decide +kernel
theorem dX4_placeAmong_4 : decode cX4_placeAmong 4 = .ok (.istore 5, 2) := by decide +kernel
theorem dX4_placeAmong_6 : decode cX4_placeAmong 6 = .ok (.iload 5, 2) := by decide +kernel
theorem dX4_placeAmong_8 : decode cX4_placeAmong 8 = .ok (.aload_n 0, 1) := by decide +kernel
theorem dX4_placeAmong_9 : decode cX4_placeAmong 9 = .ok (.getfield 25, 3) := by decide +kernel
theorem dX4_placeAmong_12 : decode cX4_placeAmong 12 = .ok (.if_icmp .ge 38, 3) := by decide +kernel
theorem dX4_placeAmong_15 : decode cX4_placeAmong 15 = .ok (.iload 5, 2) := by decide +kernel
theorem dX4_placeAmong_17 : decode cX4_placeAmong 17 = .ok (.iload_n 2, 1) := by decide +kernel
theorem dX4_placeAmong_18 : decode cX4_placeAmong 18 = .ok (.if_icmp .eq 26, 3) := by decide +kernel
theorem dX4_placeAmong_21 : decode cX4_placeAmong 21 = .ok (.iload_n 1, 1) := by decide +kernel
theorem dX4_placeAmong_22 : decode cX4_placeAmong 22 = .ok (.iload 5, 2) := by decide +kernel
theorem dX4_placeAmong_24 : decode cX4_placeAmong 24 = .ok (.invokestatic 115, 3) := by decide +kernel
theorem dX4_placeAmong_27 : decode cX4_placeAmong 27 = .ok (.ifCond .eq 17, 3) := by decide +kernel
theorem dX4_placeAmong_30 : decode cX4_placeAmong 30 = .ok (.aload_n 0, 1) := by decide +kernel
theorem dX4_placeAmong_31 : decode cX4_placeAmong 31 = .ok (.iload 5, 2) := by decide +kernel
theorem dX4_placeAmong_33 : decode cX4_placeAmong 33 = .ok (.iload_n 2, 1) := by decide +kernel
theorem dX4_placeAmong_34 : decode cX4_placeAmong 34 = .ok (.iload_n 3, 1) := by decide +kernel
theorem dX4_placeAmong_35 : decode cX4_placeAmong 35 = .ok (.invokevirtual 173, 3) := by decide +kernel
theorem dX4_placeAmong_38 : decode cX4_placeAmong 38 = .ok (.ifCond .eq 6, 3) := by decide +kernel
theorem dX4_placeAmong_41 : decode cX4_placeAmong 41 = .ok (.iinc 4 1, 3) := by decide +kernel
theorem dX4_placeAmong_44 : decode cX4_placeAmong 44 = .ok (.iinc 5 1, 3) := by decide +kernel
theorem dX4_placeAmong_47 : decode cX4_placeAmong 47 = .ok (.goto (-41), 3) := by decide +kernel
theorem dX4_placeAmong_50 : decode cX4_placeAmong 50 = .ok (.iload 4, 2) := by decide +kernel
theorem dX4_placeAmong_52 : decode cX4_placeAmong 52 = .ok (.ireturn, 1) := by decide +kernel
set_option maxRecDepth 20000 in
theorem ggX4_isAhead_X4_existingPack : GoodIn wsX4_isAhead wsX4_existingPack := goodIn_ca (goodIn_r _ [7, 8, 9, 10, 11, 30, 31, 32, 33, 34, 35] (by decide +kernel) (by decide +kernel)) (goodIn_sub (fun _ h => List.mem_cons_of_mem _ (List.mem_append_left _ (List.mem_append_right _ h))) (by decide +kernel))
set_option maxRecDepth 20000 in
theorem gX4_isAhead_X4_existingPack : GoodIn wsX4_isAhead (wsV RX4 64 RX4 yX4_existingPack wsX4_existingPack) := goodIn_app (goodIn_of _ (by decide +kernel)) ggX4_isAhead_X4_existingPack
set_option maxRecDepth 20000 in
theorem ggX4_isAhead_X2_isBroken : GoodIn wsX4_isAhead wsX2_isBroken := goodIn_ca (goodIn_r _ [16, 17, 18, 19, 20, 15, 21, 22, 9, 23, 36, 37, 24, 25, 26, 27, 28, 29] (by decide +kernel) (by decide +kernel)) (goodIn_sub (fun _ h => List.mem_cons_of_mem _ (List.mem_append_right _ h)) (by decide +kernel))
set_option maxRecDepth 20000 in
theorem gX4_isAhead_X2_isBroken : GoodIn wsX4_isAhead (wsV RX4 177 RX2 yX2_isBroken wsX2_isBroken) := goodIn_app (goodIn_of _ (by decide +kernel)) ggX4_isAhead_X2_isBroken
theorem dX4_isAhead_0 : decode cX4_isAhead 0 = .ok (.aload_n 0, 1) := by decide +kernel
theorem dX4_isAhead_1 : decode cX4_isAhead 1 = .ok (.iload_n 1, 1) := by decide +kernel
theorem dX4_isAhead_2 : decode cX4_isAhead 2 = .ok (.invokevirtual 64, 3) := by decide +kernel
theorem dX4_isAhead_5 : decode cX4_isAhead 5 = .ok (.astore 4, 2) := by decide +kernel
theorem dX4_isAhead_7 : decode cX4_isAhead 7 = .ok (.aload_n 0, 1) := by decide +kernel
theorem dX4_isAhead_8 : decode cX4_isAhead 8 = .ok (.iload_n 2, 1) := by decide +kernel
theorem dX4_isAhead_9 : decode cX4_isAhead 9 = .ok (.invokevirtual 64, 3) := by decide +kernel
theorem dX4_isAhead_12 : decode cX4_isAhead 12 = .ok (.astore 5, 2) := by decide +kernel
theorem dX4_isAhead_14 : decode cX4_isAhead 14 = .ok (.aload 4, 2) := by decide +kernel
theorem dX4_isAhead_16 : decode cX4_isAhead 16 = .ok (.iload_n 3, 1) := by decide +kernel
theorem dX4_isAhead_17 : decode cX4_isAhead 17 = .ok (.invokevirtual 177, 3) := by decide +kernel
theorem dX4_isAhead_20 : decode cX4_isAhead 20 = .ok (.istore 6, 2) := by decide +kernel
theorem dX4_isAhead_22 : decode cX4_isAhead 22 = .ok (.iload 6, 2) := by decide +kernel
theorem dX4_isAhead_24 : decode cX4_isAhead 24 = .ok (.aload 5, 2) := by decide +kernel
theorem dX4_isAhead_26 : decode cX4_isAhead 26 = .ok (.iload_n 3, 1) := by decide +kernel
theorem dX4_isAhead_27 : decode cX4_isAhead 27 = .ok (.invokevirtual 177, 3) := by decide +kernel
theorem dX4_isAhead_30 : decode cX4_isAhead 30 = .ok (.if_icmp .eq 14, 3) := by decide +kernel
theorem dX4_isAhead_33 : decode cX4_isAhead 33 = .ok (.iload 6, 2) := by decide +kernel
theorem dX4_isAhead_35 : decode cX4_isAhead 35 = .ok (.ifCond .ne 7, 3) := by decide +kernel
theorem dX4_isAhead_38 : decode cX4_isAhead 38 = .ok (.iconst 1, 1) := by decide +kernel
theorem dX4_isAhead_39 : decode cX4_isAhead 39 = .ok (.goto 4, 3) := by decide +kernel
theorem dX4_isAhead_42 : decode cX4_isAhead 42 = .ok (.iconst 0, 1) := by decide +kernel
theorem dX4_isAhead_43 : decode cX4_isAhead 43 = .ok (.ireturn, 1) := by decide +kernel
theorem dX4_isAhead_44 : decode cX4_isAhead 44 = .ok (.aload 4, 2) := by decide +kernel
theorem dX4_isAhead_46 : decode cX4_isAhead 46 = .ok (.getfield 180, 3) := by decide +kernel
theorem dX4_isAhead_49 : decode cX4_isAhead 49 = .ok (.aload 5, 2) := by decide +kernel
theorem dX4_isAhead_51 : decode cX4_isAhead 51 = .ok (.getfield 180, 3) := by decide +kernel
theorem dX4_isAhead_54 : decode cX4_isAhead 54 = .ok (.if_icmp .eq 22, 3) := by decide +kernel
theorem dX4_isAhead_57 : decode cX4_isAhead 57 = .ok (.aload 4, 2) := by decide +kernel
theorem dX4_isAhead_59 : decode cX4_isAhead 59 = .ok (.getfield 180, 3) := by decide +kernel
theorem dX4_isAhead_62 : decode cX4_isAhead 62 = .ok (.aload 5, 2) := by decide +kernel
theorem dX4_isAhead_64 : decode cX4_isAhead 64 = .ok (.getfield 180, 3) := by decide +kernel
theorem dX4_isAhead_67 : decode cX4_isAhead 67 = .ok (.if_icmp .ge 7, 3) := by decide +kernel
theorem dX4_isAhead_70 : decode cX4_isAhead 70 = .ok (.iconst 1, 1) := by decide +kernel
theorem dX4_isAhead_71 : decode cX4_isAhead 71 = .ok (.goto 4, 3) := by decide +kernel
theorem dX4_isAhead_74 : decode cX4_isAhead 74 = .ok (.iconst 0, 1) := by decide +kernel
theorem dX4_isAhead_75 : decode cX4_isAhead 75 = .ok (.ireturn, 1) := by decide +kernel
theorem dX4_isAhead_76 : decode cX4_isAhead 76 = .ok (.aload 4, 2) := by decide +kernel
theorem dX4_isAhead_78 : decode cX4_isAhead 78 = .ok (.getfield 183, 3) := by decide +kernel
theorem dX4_isAhead_81 : decode cX4_isAhead 81 = .ok (.aload 5, 2) := by decide +kernel
theorem dX4_isAhead_83 : decode cX4_isAhead 83 = .ok (.getfield 183, 3) := by decide +kernel
theorem dX4_isAhead_86 : decode cX4_isAhead 86 = .ok (.if_icmp .eq 22, 3) := by decide +kernel
theorem dX4_isAhead_89 : decode cX4_isAhead 89 = .ok (.aload 4, 2) := by decide +kernel
theorem dX4_isAhead_91 : decode cX4_isAhead 91 = .ok (.getfield 183, 3) := by decide +kernel
theorem dX4_isAhead_94 : decode cX4_isAhead 94 = .ok (.aload 5, 2) := by decide +kernel
theorem dX4_isAhead_96 : decode cX4_isAhead 96 = .ok (.getfield 183, 3) := by decide +kernel
theorem dX4_isAhead_99 : decode cX4_isAhead 99 = .ok (.if_icmp .ge 7, 3) := by decide +kernel
theorem dX4_isAhead_102 : decode cX4_isAhead 102 = .ok (.iconst 1, 1) := by decide +kernel
theorem dX4_isAhead_103 : decode cX4_isAhead 103 = .ok (.goto 4, 3) := by decide +kernel
theorem dX4_isAhead_106 : decode cX4_isAhead 106 = .ok (.iconst 0, 1) := by decide +kernel
theorem dX4_isAhead_107 : decode cX4_isAhead 107 = .ok (.ireturn, 1) := by decide +kernel
theorem dX4_isAhead_108 : decode cX4_isAhead 108 = .ok (.iload_n 1, 1) := by decide +kernel
theorem dX4_isAhead_109 : decode cX4_isAhead 109 = .ok (.iload_n 2, 1) := by decide +kernel
theorem dX4_isAhead_110 : decode cX4_isAhead 110 = .ok (.if_icmp .ge 7, 3) := by decide +kernel
theorem dX4_isAhead_113 : decode cX4_isAhead 113 = .ok (.iconst 1, 1) := by decide +kernel
theorem dX4_isAhead_114 : decode cX4_isAhead 114 = .ok (.goto 4, 3) := by decide +kernel
theorem dX4_isAhead_117 : decode cX4_isAhead 117 = .ok (.iconst 0, 1) := by decide +kernel
theorem dX4_isAhead_118 : decode cX4_isAhead 118 = .ok (.ireturn, 1) := by decide +kernel
set_option maxRecDepth 20000 in
theorem ggX4_yearsSoFar_X4_yearsBetween : GoodIn wsX4_yearsSoFar wsX4_yearsBetween := goodIn_r _ [6] (by decide +kernel) (by decide +kernel)
set_option maxRecDepth 20000 in
theorem gX4_yearsSoFar_X4_yearsBetween : GoodIn wsX4_yearsSoFar (va_wsS RX4 88 yX4_yearsBetween wsX4_yearsBetween) := goodIn_app (goodIn_of _ (by decide +kernel)) ggX4_yearsSoFar_X4_yearsBetween
theorem dX4_yearsSoFar_0 : decode cX4_yearsSoFar 0 = .ok (.aload_n 1, 1) := by decide +kernel
theorem dX4_yearsSoFar_1 : decode cX4_yearsSoFar 1 = .ok (.getfield 56, 3) := by decide +kernel
theorem dX4_yearsSoFar_4 : decode cX4_yearsSoFar 4 = .ok (.aload_n 0, 1) := by decide +kernel
theorem dX4_yearsSoFar_5 : decode cX4_yearsSoFar 5 = .ok (.getfield 31, 3) := by decide +kernel
theorem dX4_yearsSoFar_8 : decode cX4_yearsSoFar 8 = .ok (.sipush 360, 3) := by decide +kernel
theorem dX4_yearsSoFar_11 : decode cX4_yearsSoFar 11 = .ok (.idiv, 1) := by decide +kernel
theorem dX4_yearsSoFar_12 : decode cX4_yearsSoFar 12 = .ok (.invokestatic 88, 3) := by decide +kernel
theorem dX4_yearsSoFar_15 : decode cX4_yearsSoFar 15 = .ok (.lreturn, 1) := by decide +kernel
set_option maxRecDepth 20000 in
theorem ggX4_yearsCoveredButBy_X4_existingPack : GoodIn wsX4_yearsCoveredButBy wsX4_existingPack := goodIn_ca (goodIn_r _ [7, 8, 9, 1, 10, 61, 62, 63, 64, 65, 66] (by decide +kernel) (by decide +kernel)) (goodIn_sub (fun _ h => List.mem_cons_of_mem _ (List.mem_append_left _ (List.mem_append_right _ h))) (by decide +kernel))
set_option maxRecDepth 20000 in
theorem gX4_yearsCoveredButBy_X4_existingPack : GoodIn wsX4_yearsCoveredButBy (wsV RX4 64 RX4 yX4_existingPack wsX4_existingPack) := goodIn_app (goodIn_of _ (by decide +kernel)) ggX4_yearsCoveredButBy_X4_existingPack
set_option maxRecDepth 20000 in
theorem ggX4_yearsCoveredButBy_X2_letsIn : GoodIn wsX4_yearsCoveredButBy wsX2_letsIn := goodIn_r _ [15, 16, 67, 68, 69, 70, 71, 72] (by decide +kernel) (by decide +kernel)
set_option maxRecDepth 20000 in
theorem gX4_yearsCoveredButBy_X2_letsIn : GoodIn wsX4_yearsCoveredButBy (wsV RX4 142 RX2 yX2_letsIn wsX2_letsIn) := goodIn_app (goodIn_of _ (by decide +kernel)) ggX4_yearsCoveredButBy_X2_letsIn
set_option maxRecDepth 20000 in
theorem ggX4_yearsCoveredButBy_X2_yearsCovered : GoodIn wsX4_yearsCoveredButBy wsX2_yearsCovered := goodIn_ca (goodIn_r _ [20, 21, 22, 23, 14, 24, 25, 26, 27, 28, 29, 30, 9, 31, 32, 33, 34, 35, 36, 37, 38, 39, 40, 41, 42, 43, 44, 45, 46, 6, 47, 48, 49, 50, 51, 52, 53, 54, 55, 56, 57, 58, 59, 60, 67, 68, 69, 70, 71, 72, 73, 74, 75, 76, 77, 78] (by decide +kernel) (by decide +kernel)) (goodIn_sub (fun _ h => List.mem_cons_of_mem _ (List.mem_append_right _ h)) (by decide +kernel))
set_option maxRecDepth 20000 in
theorem gX4_yearsCoveredButBy_X2_yearsCovered : GoodIn wsX4_yearsCoveredButBy (wsV RX4 145 RX2 yX2_yearsCovered wsX2_yearsCovered) := goodIn_app (goodIn_of _ (by decide +kernel)) ggX4_yearsCoveredButBy_X2_yearsCovered
theorem dX4_yearsCoveredButBy_0 : decode cX4_yearsCoveredButBy 0 = .ok (.lconst 0, 1) := by decide +kernel
theorem dX4_yearsCoveredButBy_1 : decode cX4_yearsCoveredButBy 1 = .ok (.lstore 4, 2) := by decide +kernel
theorem dX4_yearsCoveredButBy_3 : decode cX4_yearsCoveredButBy 3 = .ok (.iconst 0, 1) := by decide +kernel
theorem dX4_yearsCoveredButBy_4 : decode cX4_yearsCoveredButBy 4 = .ok (.istore 6, 2) := by decide +kernel
theorem dX4_yearsCoveredButBy_6 : decode cX4_yearsCoveredButBy 6 = .ok (.iload 6, 2) := by decide +kernel
theorem dX4_yearsCoveredButBy_8 : decode cX4_yearsCoveredButBy 8 = .ok (.aload_n 0, 1) := by decide +kernel
theorem dX4_yearsCoveredButBy_9 : decode cX4_yearsCoveredButBy 9 = .ok (.getfield 25, 3) := by decide +kernel
theorem dX4_yearsCoveredButBy_12 : decode cX4_yearsCoveredButBy 12 = .ok (.if_icmp .ge 47, 3) := by decide +kernel
theorem dX4_yearsCoveredButBy_15 : decode cX4_yearsCoveredButBy 15 = .ok (.aload_n 0, 1) := by decide +kernel
theorem dX4_yearsCoveredButBy_16 : decode cX4_yearsCoveredButBy 16 = .ok (.iload 6, 2) := by decide +kernel
theorem dX4_yearsCoveredButBy_18 : decode cX4_yearsCoveredButBy 18 = .ok (.invokevirtual 64, 3) := by decide +kernel
theorem dX4_yearsCoveredButBy_21 : decode cX4_yearsCoveredButBy 21 = .ok (.astore 7, 2) := by decide +kernel
theorem dX4_yearsCoveredButBy_23 : decode cX4_yearsCoveredButBy 23 = .ok (.iload 6, 2) := by decide +kernel
theorem dX4_yearsCoveredButBy_25 : decode cX4_yearsCoveredButBy 25 = .ok (.iload_n 1, 1) := by decide +kernel
theorem dX4_yearsCoveredButBy_26 : decode cX4_yearsCoveredButBy 26 = .ok (.if_icmp .eq 27, 3) := by decide +kernel
theorem dX4_yearsCoveredButBy_29 : decode cX4_yearsCoveredButBy 29 = .ok (.aload 7, 2) := by decide +kernel
theorem dX4_yearsCoveredButBy_31 : decode cX4_yearsCoveredButBy 31 = .ok (.iload_n 3, 1) := by decide +kernel
theorem dX4_yearsCoveredButBy_32 : decode cX4_yearsCoveredButBy 32 = .ok (.invokevirtual 142, 3) := by decide +kernel
theorem dX4_yearsCoveredButBy_35 : decode cX4_yearsCoveredButBy 35 = .ok (.ifCond .eq 18, 3) := by decide +kernel
theorem dX4_yearsCoveredButBy_38 : decode cX4_yearsCoveredButBy 38 = .ok (.lload 4, 2) := by decide +kernel
theorem dX4_yearsCoveredButBy_40 : decode cX4_yearsCoveredButBy 40 = .ok (.aload 7, 2) := by decide +kernel
theorem dX4_yearsCoveredButBy_42 : decode cX4_yearsCoveredButBy 42 = .ok (.iload_n 2, 1) := by decide +kernel
theorem dX4_yearsCoveredButBy_43 : decode cX4_yearsCoveredButBy 43 = .ok (.aload_n 0, 1) := by decide +kernel
theorem dX4_yearsCoveredButBy_44 : decode cX4_yearsCoveredButBy 44 = .ok (.getfield 31, 3) := by decide +kernel
theorem dX4_yearsCoveredButBy_47 : decode cX4_yearsCoveredButBy 47 = .ok (.invokevirtual 145, 3) := by decide +kernel
theorem dX4_yearsCoveredButBy_50 : decode cX4_yearsCoveredButBy 50 = .ok (.lor, 1) := by decide +kernel
theorem dX4_yearsCoveredButBy_51 : decode cX4_yearsCoveredButBy 51 = .ok (.lstore 4, 2) := by decide +kernel
theorem dX4_yearsCoveredButBy_53 : decode cX4_yearsCoveredButBy 53 = .ok (.iinc 6 1, 3) := by decide +kernel
theorem dX4_yearsCoveredButBy_56 : decode cX4_yearsCoveredButBy 56 = .ok (.goto (-50), 3) := by decide +kernel
theorem dX4_yearsCoveredButBy_59 : decode cX4_yearsCoveredButBy 59 = .ok (.lload 4, 2) := by decide +kernel
theorem dX4_yearsCoveredButBy_61 : decode cX4_yearsCoveredButBy 61 = .ok (.lreturn, 1) := by decide +kernel
set_option maxRecDepth 20000 in
theorem ggX4_isLostWithout_X4_existingPack : GoodIn wsX4_isLostWithout wsX4_existingPack := goodIn_ca (goodIn_r _ [7, 8, 9, 10, 11, 80, 81, 82, 83, 84, 85] (by decide +kernel) (by decide +kernel)) (goodIn_sub (fun _ h => List.mem_cons_of_mem _ (List.mem_append_left _ (List.mem_append_right _ h))) (by decide +kernel))
set_option maxRecDepth 20000 in
theorem gX4_isLostWithout_X4_existingPack : GoodIn wsX4_isLostWithout (wsV RX4 64 RX4 yX4_existingPack wsX4_existingPack) := goodIn_app (goodIn_of _ (by decide +kernel)) ggX4_isLostWithout_X4_existingPack
set_option maxRecDepth 20000 in
theorem ggX4_isLostWithout_X2_yearsOpen : GoodIn wsX4_isLostWithout wsX2_yearsOpen := goodIn_ca (goodIn_r _ [16, 17, 18, 19, 20, 15, 21, 22, 9, 23, 24, 25, 26, 27, 28, 29, 30, 31, 32, 33, 34, 35, 36, 37, 38, 6, 39, 86, 87, 88, 89, 90, 91, 92, 93, 94, 95, 96, 97] (by decide +kernel) (by decide +kernel)) (goodIn_sub (fun _ h => List.mem_cons_of_mem _ (List.mem_append_right _ h)) (by decide +kernel))
set_option maxRecDepth 20000 in
theorem gX4_isLostWithout_X2_yearsOpen : GoodIn wsX4_isLostWithout (wsV RX4 186 RX2 yX2_yearsOpen wsX2_yearsOpen) := goodIn_app (goodIn_of _ (by decide +kernel)) ggX4_isLostWithout_X2_yearsOpen
set_option maxRecDepth 20000 in
theorem ggX4_isLostWithout_X2_yearsKept : GoodIn wsX4_isLostWithout wsX2_yearsKept := goodIn_ca (goodIn_r _ [43, 44, 17, 18, 19, 20, 15, 21, 22, 9, 23, 45, 46, 47, 27, 48, 35, 36, 30, 29, 49, 50, 51, 52, 37, 38, 6, 39, 86, 87, 88, 89, 90, 91, 96, 97, 92, 93, 94, 95] (by decide +kernel) (by decide +kernel)) (goodIn_sub (fun _ h => List.mem_cons_of_mem _ (List.mem_append_right _ h)) (by decide +kernel))
set_option maxRecDepth 20000 in
theorem gX4_isLostWithout_X2_yearsKept : GoodIn wsX4_isLostWithout (wsV RX4 189 RX2 yX2_yearsKept wsX2_yearsKept) := goodIn_app (goodIn_of _ (by decide +kernel)) ggX4_isLostWithout_X2_yearsKept
set_option maxRecDepth 20000 in
theorem ggX4_isLostWithout_X4_existingTitle : GoodIn wsX4_isLostWithout wsX4_existingTitle := goodIn_ca (goodIn_r _ [56, 8, 9, 57, 58, 80, 81, 82, 83, 84, 85] (by decide +kernel) (by decide +kernel)) (goodIn_sub (fun _ h => List.mem_cons_of_mem _ (List.mem_append_left _ (List.mem_append_right _ h))) (by decide +kernel))
set_option maxRecDepth 20000 in
theorem gX4_isLostWithout_X4_existingTitle : GoodIn wsX4_isLostWithout (wsV RX4 48 RX4 yX4_existingTitle wsX4_existingTitle) := goodIn_app (goodIn_of _ (by decide +kernel)) ggX4_isLostWithout_X4_existingTitle
set_option maxRecDepth 20000 in
theorem ggX4_isLostWithout_X4_yearsSoFar : GoodIn wsX4_isLostWithout wsX4_yearsSoFar := goodIn_r _ [62, 63, 1, 64, 38, 6, 39, 98, 99, 80, 81, 82, 83, 84, 85] (by decide +kernel) (by decide +kernel)
set_option maxRecDepth 20000 in
theorem gX4_isLostWithout_X4_yearsSoFar : GoodIn wsX4_isLostWithout (wsV RX4 128 RX4 yX4_yearsSoFar wsX4_yearsSoFar) := goodIn_app (goodIn_of _ (by decide +kernel)) ggX4_isLostWithout_X4_yearsSoFar
set_option maxRecDepth 20000 in
theorem ggX4_isLostWithout_X2_letsIn : GoodIn wsX4_isLostWithout wsX2_letsIn := goodIn_r _ [68, 69, 86, 87, 88, 89, 90, 91] (by decide +kernel) (by decide +kernel)
set_option maxRecDepth 20000 in
theorem gX4_isLostWithout_X2_letsIn : GoodIn wsX4_isLostWithout (wsV RX4 142 RX2 yX2_letsIn wsX2_letsIn) := goodIn_app (goodIn_of _ (by decide +kernel)) ggX4_isLostWithout_X2_letsIn
set_option maxRecDepth 20000 in
theorem ggX4_isLostWithout_X4_yearsCoveredButBy : GoodIn wsX4_isLostWithout wsX4_yearsCoveredButBy := goodIn_ca (goodIn_ca (goodIn_r _ [73, 10, 1, 3, 4, 5, 6, 7, 8, 9, 11, 65, 66, 67, 15, 68, 69, 74, 75, 76, 77, 78, 13, 14, 16, 17, 18, 19, 20, 21, 22, 23, 24, 25, 26, 27, 28, 29, 30, 31, 32, 33, 34, 35, 36, 37, 38, 39, 79, 41, 42, 43, 44, 45, 46, 47, 48, 49, 50, 51, 52, 80, 81, 82, 83, 84, 85, 86, 87, 88, 89, 90, 91, 92, 93, 94, 95, 96, 97] (by decide +kernel) (by decide +kernel)) (goodIn_sub (fun _ h => List.mem_cons_of_mem _ (List.mem_append_left _ (List.mem_append_right _ h))) (by decide +kernel))) (goodIn_sub (fun _ h => List.mem_cons_of_mem _ (List.mem_append_right _ h)) (by decide +kernel))
set_option maxRecDepth 20000 in
theorem gX4_isLostWithout_X4_yearsCoveredButBy : GoodIn wsX4_isLostWithout (wsV RX4 132 RX4 yX4_yearsCoveredButBy wsX4_yearsCoveredButBy) := goodIn_app (goodIn_of _ (by decide +kernel)) ggX4_isLostWithout_X4_yearsCoveredButBy
theorem dX4_isLostWithout_0 : decode cX4_isLostWithout 0 = .ok (.aload_n 0, 1) := by decide +kernel
theorem dX4_isLostWithout_1 : decode cX4_isLostWithout 1 = .ok (.iload_n 1, 1) := by decide +kernel
theorem dX4_isLostWithout_2 : decode cX4_isLostWithout 2 = .ok (.invokevirtual 64, 3) := by decide +kernel
theorem dX4_isLostWithout_5 : decode cX4_isLostWithout 5 = .ok (.astore_n 3, 1) := by decide +kernel
theorem dX4_isLostWithout_6 : decode cX4_isLostWithout 6 = .ok (.aload_n 3, 1) := by decide +kernel
theorem dX4_isLostWithout_7 : decode cX4_isLostWithout 7 = .ok (.iload_n 2, 1) := by decide +kernel
theorem dX4_isLostWithout_8 : decode cX4_isLostWithout 8 = .ok (.aload_n 0, 1) := by decide +kernel
theorem dX4_isLostWithout_9 : decode cX4_isLostWithout 9 = .ok (.getfield 31, 3) := by decide +kernel
theorem dX4_isLostWithout_12 : decode cX4_isLostWithout 12 = .ok (.invokevirtual 186, 3) := by decide +kernel
theorem dX4_isLostWithout_15 : decode cX4_isLostWithout 15 = .ok (.aload_n 3, 1) := by decide +kernel
theorem dX4_isLostWithout_16 : decode cX4_isLostWithout 16 = .ok (.iload_n 2, 1) := by decide +kernel
theorem dX4_isLostWithout_17 : decode cX4_isLostWithout 17 = .ok (.aload_n 0, 1) := by decide +kernel
theorem dX4_isLostWithout_18 : decode cX4_isLostWithout 18 = .ok (.getfield 31, 3) := by decide +kernel
theorem dX4_isLostWithout_21 : decode cX4_isLostWithout 21 = .ok (.invokevirtual 189, 3) := by decide +kernel
theorem dX4_isLostWithout_24 : decode cX4_isLostWithout 24 = .ok (.ldc2_w 136, 3) := by decide +kernel
theorem dX4_isLostWithout_27 : decode cX4_isLostWithout 27 = .ok (.lxor, 1) := by decide +kernel
theorem dX4_isLostWithout_28 : decode cX4_isLostWithout 28 = .ok (.land, 1) := by decide +kernel
theorem dX4_isLostWithout_29 : decode cX4_isLostWithout 29 = .ok (.aload_n 0, 1) := by decide +kernel
theorem dX4_isLostWithout_30 : decode cX4_isLostWithout 30 = .ok (.aload_n 0, 1) := by decide +kernel
theorem dX4_isLostWithout_31 : decode cX4_isLostWithout 31 = .ok (.iload_n 2, 1) := by decide +kernel
theorem dX4_isLostWithout_32 : decode cX4_isLostWithout 32 = .ok (.invokevirtual 48, 3) := by decide +kernel
theorem dX4_isLostWithout_35 : decode cX4_isLostWithout 35 = .ok (.invokevirtual 128, 3) := by decide +kernel
theorem dX4_isLostWithout_38 : decode cX4_isLostWithout 38 = .ok (.land, 1) := by decide +kernel
theorem dX4_isLostWithout_39 : decode cX4_isLostWithout 39 = .ok (.lstore 4, 2) := by decide +kernel
theorem dX4_isLostWithout_41 : decode cX4_isLostWithout 41 = .ok (.lload 4, 2) := by decide +kernel
theorem dX4_isLostWithout_43 : decode cX4_isLostWithout 43 = .ok (.lconst 0, 1) := by decide +kernel
theorem dX4_isLostWithout_44 : decode cX4_isLostWithout 44 = .ok (.lcmp, 1) := by decide +kernel
theorem dX4_isLostWithout_45 : decode cX4_isLostWithout 45 = .ok (.ifCond .ne 5, 3) := by decide +kernel
theorem dX4_isLostWithout_48 : decode cX4_isLostWithout 48 = .ok (.iconst 0, 1) := by decide +kernel
theorem dX4_isLostWithout_49 : decode cX4_isLostWithout 49 = .ok (.ireturn, 1) := by decide +kernel
theorem dX4_isLostWithout_50 : decode cX4_isLostWithout 50 = .ok (.iconst 0, 1) := by decide +kernel
theorem dX4_isLostWithout_51 : decode cX4_isLostWithout 51 = .ok (.istore 6, 2) := by decide +kernel
theorem dX4_isLostWithout_53 : decode cX4_isLostWithout 53 = .ok (.iload 6, 2) := by decide +kernel
theorem dX4_isLostWithout_55 : decode cX4_isLostWithout 55 = .ok (.iconst 3, 1) := by decide +kernel
theorem dX4_isLostWithout_56 : decode cX4_isLostWithout 56 = .ok (.if_icmp .gt 40, 3) := by decide +kernel
theorem dX4_isLostWithout_59 : decode cX4_isLostWithout 59 = .ok (.aload_n 3, 1) := by decide +kernel
theorem dX4_isLostWithout_60 : decode cX4_isLostWithout 60 = .ok (.iload 6, 2) := by decide +kernel
theorem dX4_isLostWithout_62 : decode cX4_isLostWithout 62 = .ok (.invokevirtual 142, 3) := by decide +kernel
theorem dX4_isLostWithout_65 : decode cX4_isLostWithout 65 = .ok (.ifCond .eq 25, 3) := by decide +kernel
theorem dX4_isLostWithout_68 : decode cX4_isLostWithout 68 = .ok (.lload 4, 2) := by decide +kernel
theorem dX4_isLostWithout_70 : decode cX4_isLostWithout 70 = .ok (.aload_n 0, 1) := by decide +kernel
theorem dX4_isLostWithout_71 : decode cX4_isLostWithout 71 = .ok (.iload_n 1, 1) := by decide +kernel
theorem dX4_isLostWithout_72 : decode cX4_isLostWithout 72 = .ok (.iload_n 2, 1) := by decide +kernel
theorem dX4_isLostWithout_73 : decode cX4_isLostWithout 73 = .ok (.iload 6, 2) := by decide +kernel
theorem dX4_isLostWithout_75 : decode cX4_isLostWithout 75 = .ok (.invokevirtual 132, 3) := by decide +kernel
theorem dX4_isLostWithout_78 : decode cX4_isLostWithout 78 = .ok (.ldc2_w 136, 3) := by decide +kernel
theorem dX4_isLostWithout_81 : decode cX4_isLostWithout 81 = .ok (.lxor, 1) := by decide +kernel
theorem dX4_isLostWithout_82 : decode cX4_isLostWithout 82 = .ok (.land, 1) := by decide +kernel
theorem dX4_isLostWithout_83 : decode cX4_isLostWithout 83 = .ok (.lconst 0, 1) := by decide +kernel
theorem dX4_isLostWithout_84 : decode cX4_isLostWithout 84 = .ok (.lcmp, 1) := by decide +kernel
theorem dX4_isLostWithout_85 : decode cX4_isLostWithout 85 = .ok (.ifCond .eq 5, 3) := by decide +kernel
theorem dX4_isLostWithout_88 : decode cX4_isLostWithout 88 = .ok (.iconst 1, 1) := by decide +kernel
theorem dX4_isLostWithout_89 : decode cX4_isLostWithout 89 = .ok (.ireturn, 1) := by decide +kernel
theorem dX4_isLostWithout_90 : decode cX4_isLostWithout 90 = .ok (.iinc 6 1, 3) := by decide +kernel
theorem dX4_isLostWithout_93 : decode cX4_isLostWithout 93 = .ok (.goto (-40), 3) := by decide +kernel
theorem dX4_isLostWithout_96 : decode cX4_isLostWithout 96 = .ok (.iconst 0, 1) := by decide +kernel
theorem dX4_isLostWithout_97 : decode cX4_isLostWithout 97 = .ok (.ireturn, 1) := by decide +kernel
theorem dX4_yearsBetween_0 : decode cX4_yearsBetween 0 = .ok (.iload_n 0, 1) := by decide +kernel
theorem dX4_yearsBetween_1 : decode cX4_yearsBetween 1 = .ok (.iload_n 1, 1) := by decide +kernel
theorem dX4_yearsBetween_2 : decode cX4_yearsBetween 2 = .ok (.if_icmp .le 7, 3) := by decide +kernel
theorem dX4_yearsBetween_5 : decode cX4_yearsBetween 5 = .ok (.lconst 0, 1) := by decide +kernel
theorem dX4_yearsBetween_6 : decode cX4_yearsBetween 6 = .ok (.goto 14, 3) := by decide +kernel
theorem dX4_yearsBetween_9 : decode cX4_yearsBetween 9 = .ok (.lconst 1, 1) := by decide +kernel
theorem dX4_yearsBetween_10 : decode cX4_yearsBetween 10 = .ok (.iload_n 1, 1) := by decide +kernel
theorem dX4_yearsBetween_11 : decode cX4_yearsBetween 11 = .ok (.iload_n 0, 1) := by decide +kernel
theorem dX4_yearsBetween_12 : decode cX4_yearsBetween 12 = .ok (.isub, 1) := by decide +kernel
theorem dX4_yearsBetween_13 : decode cX4_yearsBetween 13 = .ok (.iconst 1, 1) := by decide +kernel
theorem dX4_yearsBetween_14 : decode cX4_yearsBetween 14 = .ok (.iadd, 1) := by decide +kernel
theorem dX4_yearsBetween_15 : decode cX4_yearsBetween 15 = .ok (.lshl, 1) := by decide +kernel
theorem dX4_yearsBetween_16 : decode cX4_yearsBetween 16 = .ok (.lconst 1, 1) := by decide +kernel
theorem dX4_yearsBetween_17 : decode cX4_yearsBetween 17 = .ok (.lsub, 1) := by decide +kernel
theorem dX4_yearsBetween_18 : decode cX4_yearsBetween 18 = .ok (.iload_n 0, 1) := by decide +kernel
theorem dX4_yearsBetween_19 : decode cX4_yearsBetween 19 = .ok (.lshl, 1) := by decide +kernel
theorem dX4_yearsBetween_20 : decode cX4_yearsBetween 20 = .ok (.lreturn, 1) := by decide +kernel
theorem dX4_hasYear_0 : decode cX4_hasYear 0 = .ok (.lload_n 0, 1) := by decide +kernel
theorem dX4_hasYear_1 : decode cX4_hasYear 1 = .ok (.iload_n 2, 1) := by decide +kernel
theorem dX4_hasYear_2 : decode cX4_hasYear 2 = .ok (.lshr, 1) := by decide +kernel
theorem dX4_hasYear_3 : decode cX4_hasYear 3 = .ok (.lconst 1, 1) := by decide +kernel
theorem dX4_hasYear_4 : decode cX4_hasYear 4 = .ok (.land, 1) := by decide +kernel
theorem dX4_hasYear_5 : decode cX4_hasYear 5 = .ok (.lconst 1, 1) := by decide +kernel
theorem dX4_hasYear_6 : decode cX4_hasYear 6 = .ok (.lcmp, 1) := by decide +kernel
theorem dX4_hasYear_7 : decode cX4_hasYear 7 = .ok (.ifCond .ne 7, 3) := by decide +kernel
theorem dX4_hasYear_10 : decode cX4_hasYear 10 = .ok (.iconst 1, 1) := by decide +kernel
theorem dX4_hasYear_11 : decode cX4_hasYear 11 = .ok (.goto 4, 3) := by decide +kernel
theorem dX4_hasYear_14 : decode cX4_hasYear 14 = .ok (.iconst 0, 1) := by decide +kernel
theorem dX4_hasYear_15 : decode cX4_hasYear 15 = .ok (.ireturn, 1) := by decide +kernel
theorem dX5_init_0 : decode cX5_init 0 = .ok (.aload_n 0, 1) := by decide +kernel
theorem dX5_init_1 : decode cX5_init 1 = .ok (.invokespecial 1, 3) := by decide +kernel
theorem dX5_init_4 : decode cX5_init 4 = .ok (.aload_n 0, 1) := by decide +kernel
theorem dX5_init_5 : decode cX5_init 5 = .ok (.bipush 20, 2) := by decide +kernel
theorem dX5_init_7 : decode cX5_init 7 = .ok (.newarray .int, 2) := by decide +kernel
theorem dX5_init_9 : decode cX5_init 9 = .ok (.putfield 7, 3) := by decide +kernel
theorem dX5_init_12 : decode cX5_init 12 = .ok (.aload_n 0, 1) := by decide +kernel
theorem dX5_init_13 : decode cX5_init 13 = .ok (.bipush 20, 2) := by decide +kernel
theorem dX5_init_15 : decode cX5_init 15 = .ok (.newarray .int, 2) := by decide +kernel
theorem dX5_init_17 : decode cX5_init 17 = .ok (.putfield 13, 3) := by decide +kernel
theorem dX5_init_20 : decode cX5_init 20 = .ok (.aload_n 0, 1) := by decide +kernel
theorem dX5_init_21 : decode cX5_init 21 = .ok (.bipush 10, 2) := by decide +kernel
theorem dX5_init_23 : decode cX5_init 23 = .ok (.newarray .int, 2) := by decide +kernel
theorem dX5_init_25 : decode cX5_init 25 = .ok (.putfield 16, 3) := by decide +kernel
theorem dX5_init_28 : decode cX5_init 28 = .ok (.aload_n 0, 1) := by decide +kernel
theorem dX5_init_29 : decode cX5_init 29 = .ok (.bipush 10, 2) := by decide +kernel
theorem dX5_init_31 : decode cX5_init 31 = .ok (.newarray .int, 2) := by decide +kernel
theorem dX5_init_33 : decode cX5_init 33 = .ok (.putfield 19, 3) := by decide +kernel
theorem dX5_init_36 : decode cX5_init 36 = .ok (.aload_n 0, 1) := by decide +kernel
theorem dX5_init_37 : decode cX5_init 37 = .ok (.bipush 10, 2) := by decide +kernel
theorem dX5_init_39 : decode cX5_init 39 = .ok (.newarray .int, 2) := by decide +kernel
theorem dX5_init_41 : decode cX5_init 41 = .ok (.putfield 22, 3) := by decide +kernel
theorem dX5_init_44 : decode cX5_init 44 = .ok (.aload_n 0, 1) := by decide +kernel
theorem dX5_init_45 : decode cX5_init 45 = .ok (.bipush 10, 2) := by decide +kernel
theorem dX5_init_47 : decode cX5_init 47 = .ok (.newarray .boolean, 2) := by decide +kernel
theorem dX5_init_49 : decode cX5_init 49 = .ok (.putfield 25, 3) := by decide +kernel
theorem dX5_init_52 : decode cX5_init 52 = .ok (.aload_n 0, 1) := by decide +kernel
theorem dX5_init_53 : decode cX5_init 53 = .ok (.sipush 200, 3) := by decide +kernel
theorem dX5_init_56 : decode cX5_init 56 = .ok (.newarray .int, 2) := by decide +kernel
theorem dX5_init_58 : decode cX5_init 58 = .ok (.putfield 29, 3) := by decide +kernel
theorem dX5_init_61 : decode cX5_init 61 = .ok (.aload_n 0, 1) := by decide +kernel
theorem dX5_init_62 : decode cX5_init 62 = .ok (.sipush 4096, 3) := by decide +kernel
theorem dX5_init_65 : decode cX5_init 65 = .ok (.newarray .int, 2) := by decide +kernel
theorem dX5_init_67 : decode cX5_init 67 = .ok (.putfield 32, 3) := by decide +kernel
theorem dX5_init_70 : decode cX5_init 70 = .ok (.aload_n 0, 1) := by decide +kernel
theorem dX5_init_71 : decode cX5_init 71 = .ok (.sipush 4096, 3) := by decide +kernel
theorem dX5_init_74 : decode cX5_init 74 = .ok (.newarray .int, 2) := by decide +kernel
theorem dX5_init_76 : decode cX5_init 76 = .ok (.putfield 35, 3) := by decide +kernel
theorem dX5_init_79 : decode cX5_init 79 = .ok (.aload_n 0, 1) := by decide +kernel
theorem dX5_init_80 : decode cX5_init 80 = .ok (.sipush 4096, 3) := by decide +kernel
theorem dX5_init_83 : decode cX5_init 83 = .ok (.newarray .boolean, 2) := by decide +kernel
theorem dX5_init_85 : decode cX5_init 85 = .ok (.putfield 38, 3) := by decide +kernel
theorem dX5_init_88 : decode cX5_init 88 = .ok (.aload_n 0, 1) := by decide +kernel
theorem dX5_init_89 : decode cX5_init 89 = .ok (.sipush 4096, 3) := by decide +kernel
theorem dX5_init_92 : decode cX5_init 92 = .ok (.newarray .int, 2) := by decide +kernel
theorem dX5_init_94 : decode cX5_init 94 = .ok (.putfield 41, 3) := by decide +kernel
theorem dX5_init_97 : decode cX5_init 97 = .ok (.aload_n 0, 1) := by decide +kernel
theorem dX5_init_98 : decode cX5_init 98 = .ok (.sipush 4096, 3) := by decide +kernel
theorem dX5_init_101 : decode cX5_init 101 = .ok (.newarray .int, 2) := by decide +kernel
theorem dX5_init_103 : decode cX5_init 103 = .ok (.putfield 44, 3) := by decide +kernel
theorem dX5_init_106 : decode cX5_init 106 = .ok (.aload_n 0, 1) := by decide +kernel
theorem dX5_init_107 : decode cX5_init 107 = .ok (.sipush 4096, 3) := by decide +kernel
theorem dX5_init_110 : decode cX5_init 110 = .ok (.newarray .int, 2) := by decide +kernel
theorem dX5_init_112 : decode cX5_init 112 = .ok (.putfield 47, 3) := by decide +kernel
theorem dX5_init_115 : decode cX5_init 115 = .ok (.return_, 1) := by decide +kernel
theorem dX5_thrown_0 : decode cX5_thrown 0 = .ok (.aload_n 0, 1) := by decide +kernel
theorem dX5_thrown_1 : decode cX5_thrown 1 = .ok (.getfield 50, 3) := by decide +kernel
theorem dX5_thrown_4 : decode cX5_thrown 4 = .ok (.ireturn, 1) := by decide +kernel
theorem dX5_holds_0 : decode cX5_holds 0 = .ok (.aload_n 0, 1) := by decide +kernel
theorem dX5_holds_1 : decode cX5_holds 1 = .ok (.iload_n 1, 1) := by decide +kernel
theorem dX5_holds_2 : decode cX5_holds 2 = .ok (.putfield 50, 3) := by decide +kernel
theorem dX5_holds_5 : decode cX5_holds 5 = .ok (.iload_n 1, 1) := by decide +kernel
theorem dX5_holds_6 : decode cX5_holds 6 = .ok (.ifCond .ne 7, 3) := by decide +kernel
theorem dX5_holds_9 : decode cX5_holds 9 = .ok (.iconst 1, 1) := by decide +kernel
theorem dX5_holds_10 : decode cX5_holds 10 = .ok (.goto 4, 3) := by decide +kernel
theorem dX5_holds_13 : decode cX5_holds 13 = .ok (.iconst 0, 1) := by decide +kernel
theorem dX5_holds_14 : decode cX5_holds 14 = .ok (.ireturn, 1) := by decide +kernel
theorem dX5_isBetween_0 : decode cX5_isBetween 0 = .ok (.iload_n 0, 1) := by decide +kernel
theorem dX5_isBetween_1 : decode cX5_isBetween 1 = .ok (.iload_n 1, 1) := by decide +kernel
theorem dX5_isBetween_2 : decode cX5_isBetween 2 = .ok (.if_icmp .lt 12, 3) := by decide +kernel
theorem dX5_isBetween_5 : decode cX5_isBetween 5 = .ok (.iload_n 0, 1) := by decide +kernel
theorem dX5_isBetween_6 : decode cX5_isBetween 6 = .ok (.iload_n 2, 1) := by decide +kernel
theorem dX5_isBetween_7 : decode cX5_isBetween 7 = .ok (.if_icmp .gt 7, 3) := by decide +kernel
theorem dX5_isBetween_10 : decode cX5_isBetween 10 = .ok (.iconst 1, 1) := by decide +kernel
theorem dX5_isBetween_11 : decode cX5_isBetween 11 = .ok (.goto 4, 3) := by decide +kernel
theorem dX5_isBetween_14 : decode cX5_isBetween 14 = .ok (.iconst 0, 1) := by decide +kernel
theorem dX5_isBetween_15 : decode cX5_isBetween 15 = .ok (.ireturn, 1) := by decide +kernel
theorem dX5_isTitle_0 : decode cX5_isTitle 0 = .ok (.iload_n 1, 1) := by decide +kernel
theorem dX5_isTitle_1 : decode cX5_isTitle 1 = .ok (.ifCond .lt 15, 3) := by decide +kernel
theorem dX5_isTitle_4 : decode cX5_isTitle 4 = .ok (.iload_n 1, 1) := by decide +kernel
theorem dX5_isTitle_5 : decode cX5_isTitle 5 = .ok (.aload_n 0, 1) := by decide +kernel
theorem dX5_isTitle_6 : decode cX5_isTitle 6 = .ok (.getfield 54, 3) := by decide +kernel
theorem dX5_isTitle_9 : decode cX5_isTitle 9 = .ok (.if_icmp .ge 7, 3) := by decide +kernel
theorem dX5_isTitle_12 : decode cX5_isTitle 12 = .ok (.iconst 1, 1) := by decide +kernel
theorem dX5_isTitle_13 : decode cX5_isTitle 13 = .ok (.goto 4, 3) := by decide +kernel
theorem dX5_isTitle_16 : decode cX5_isTitle 16 = .ok (.iconst 0, 1) := by decide +kernel
theorem dX5_isTitle_17 : decode cX5_isTitle 17 = .ok (.ireturn, 1) := by decide +kernel
theorem dX5_isPackage_0 : decode cX5_isPackage 0 = .ok (.iload_n 1, 1) := by decide +kernel
theorem dX5_isPackage_1 : decode cX5_isPackage 1 = .ok (.ifCond .lt 15, 3) := by decide +kernel
theorem dX5_isPackage_4 : decode cX5_isPackage 4 = .ok (.iload_n 1, 1) := by decide +kernel
theorem dX5_isPackage_5 : decode cX5_isPackage 5 = .ok (.aload_n 0, 1) := by decide +kernel
theorem dX5_isPackage_6 : decode cX5_isPackage 6 = .ok (.getfield 57, 3) := by decide +kernel
theorem dX5_isPackage_9 : decode cX5_isPackage 9 = .ok (.if_icmp .ge 7, 3) := by decide +kernel
theorem dX5_isPackage_12 : decode cX5_isPackage 12 = .ok (.iconst 1, 1) := by decide +kernel
theorem dX5_isPackage_13 : decode cX5_isPackage 13 = .ok (.goto 4, 3) := by decide +kernel
theorem dX5_isPackage_16 : decode cX5_isPackage 16 = .ok (.iconst 0, 1) := by decide +kernel
theorem dX5_isPackage_17 : decode cX5_isPackage 17 = .ok (.ireturn, 1) := by decide +kernel
set_option maxRecDepth 20000 in
theorem ggX5_addTitle_X5_isBetween : GoodIn wsX5_addTitle wsX5_isBetween := goodIn_r _ [7] (by decide +kernel) (by decide +kernel)
set_option maxRecDepth 20000 in
theorem gX5_addTitle_X5_isBetween : GoodIn wsX5_addTitle (va_wsS RX5 60 yX5_isBetween wsX5_isBetween) := goodIn_app (goodIn_of _ (by decide +kernel)) ggX5_addTitle_X5_isBetween
set_option maxRecDepth 20000 in
theorem ggX5_addTitle_X5_holds : GoodIn wsX5_addTitle wsX5_holds := goodIn_r _ [11, 12, 13, 14, 15, 16, 17, 18, 19, 20, 21, 22, 23, 24, 25, 26, 27, 28, 29, 30] (by decide +kernel) (by decide +kernel)
set_option maxRecDepth 20000 in
theorem gX5_addTitle_X5_holds : GoodIn wsX5_addTitle (wsV RX5 64 RX5 yX5_holds wsX5_holds) := goodIn_app (goodIn_of _ (by decide +kernel)) ggX5_addTitle_X5_holds
theorem dX5_addTitle_0 : decode cX5_addTitle 0 = .ok (.aload_n 0, 1) := by decide +kernel
theorem dX5_addTitle_1 : decode cX5_addTitle 1 = .ok (.iload_n 1, 1) := by decide +kernel
theorem dX5_addTitle_2 : decode cX5_addTitle 2 = .ok (.iconst 0, 1) := by decide +kernel
theorem dX5_addTitle_3 : decode cX5_addTitle 3 = .ok (.bipush 55, 2) := by decide +kernel
theorem dX5_addTitle_5 : decode cX5_addTitle 5 = .ok (.invokestatic 60, 3) := by decide +kernel
theorem dX5_addTitle_8 : decode cX5_addTitle 8 = .ok (.ifCond .eq 12, 3) := by decide +kernel
theorem dX5_addTitle_11 : decode cX5_addTitle 11 = .ok (.iload_n 2, 1) := by decide +kernel
theorem dX5_addTitle_12 : decode cX5_addTitle 12 = .ok (.iconst 1, 1) := by decide +kernel
theorem dX5_addTitle_13 : decode cX5_addTitle 13 = .ok (.iconst 4, 1) := by decide +kernel
theorem dX5_addTitle_14 : decode cX5_addTitle 14 = .ok (.invokestatic 60, 3) := by decide +kernel
theorem dX5_addTitle_17 : decode cX5_addTitle 17 = .ok (.ifCond .ne 7, 3) := by decide +kernel
theorem dX5_addTitle_20 : decode cX5_addTitle 20 = .ok (.iconst 1, 1) := by decide +kernel
theorem dX5_addTitle_21 : decode cX5_addTitle 21 = .ok (.goto 17, 3) := by decide +kernel
theorem dX5_addTitle_24 : decode cX5_addTitle 24 = .ok (.aload_n 0, 1) := by decide +kernel
theorem dX5_addTitle_25 : decode cX5_addTitle 25 = .ok (.getfield 54, 3) := by decide +kernel
theorem dX5_addTitle_28 : decode cX5_addTitle 28 = .ok (.bipush 20, 2) := by decide +kernel
theorem dX5_addTitle_30 : decode cX5_addTitle 30 = .ok (.if_icmp .ne 7, 3) := by decide +kernel
theorem dX5_addTitle_33 : decode cX5_addTitle 33 = .ok (.iconst 2, 1) := by decide +kernel
theorem dX5_addTitle_34 : decode cX5_addTitle 34 = .ok (.goto 4, 3) := by decide +kernel
theorem dX5_addTitle_37 : decode cX5_addTitle 37 = .ok (.iconst 0, 1) := by decide +kernel
theorem dX5_addTitle_38 : decode cX5_addTitle 38 = .ok (.invokevirtual 64, 3) := by decide +kernel
theorem dX5_addTitle_41 : decode cX5_addTitle 41 = .ok (.ifCond .ne 5, 3) := by decide +kernel
theorem dX5_addTitle_44 : decode cX5_addTitle 44 = .ok (.iconst 0, 1) := by decide +kernel
theorem dX5_addTitle_45 : decode cX5_addTitle 45 = .ok (.ireturn, 1) := by decide +kernel
theorem dX5_addTitle_46 : decode cX5_addTitle 46 = .ok (.aload_n 0, 1) := by decide +kernel
theorem dX5_addTitle_47 : decode cX5_addTitle 47 = .ok (.getfield 7, 3) := by decide +kernel
theorem dX5_addTitle_50 : decode cX5_addTitle 50 = .ok (.aload_n 0, 1) := by decide +kernel
theorem dX5_addTitle_51 : decode cX5_addTitle 51 = .ok (.getfield 54, 3) := by decide +kernel
theorem dX5_addTitle_54 : decode cX5_addTitle 54 = .ok (.iload_n 1, 1) := by decide +kernel
theorem dX5_addTitle_55 : decode cX5_addTitle 55 = .ok (.iastore, 1) := by decide +kernel
theorem dX5_addTitle_56 : decode cX5_addTitle 56 = .ok (.aload_n 0, 1) := by decide +kernel
end
section
theorem dX5_addTitle_57 : decode cX5_addTitle 57 = .ok (.getfield 13, 3) := by decide +kernel
theorem dX5_addTitle_60 : decode cX5_addTitle 60 = .ok (.aload_n 0, 1) := by decide +kernel
theorem dX5_addTitle_61 : decode cX5_addTitle 61 = .ok (.getfield 54, 3) := by decide +kernel
theorem dX5_addTitle_64 : decode cX5_addTitle 64 = .ok (.iload_n 2, 1) := by decide +kernel
theorem dX5_addTitle_65 : decode cX5_addTitle 65 = .ok (.iastore, 1) := by decide +kernel
theorem dX5_addTitle_66 : decode cX5_addTitle 66 = .ok (.aload_n 0, 1) := by decide +kernel
theorem dX5_addTitle_67 : decode cX5_addTitle 67 = .ok (.dup, 1) := by decide +kernel
theorem dX5_addTitle_68 : decode cX5_addTitle 68 = .ok (.getfield 54, 3) := by decide +kernel
theorem dX5_addTitle_71 : decode cX5_addTitle 71 = .ok (.iconst 1, 1) := by decide +kernel
theorem dX5_addTitle_72 : decode cX5_addTitle 72 = .ok (.iadd, 1) := by decide +kernel
theorem dX5_addTitle_73 : decode cX5_addTitle 73 = .ok (.putfield 54, 3) := by decide +kernel
theorem dX5_addTitle_76 : decode cX5_addTitle 76 = .ok (.aload_n 0, 1) := by decide +kernel
theorem dX5_addTitle_77 : decode cX5_addTitle 77 = .ok (.getfield 54, 3) := by decide +kernel
theorem dX5_addTitle_80 : decode cX5_addTitle 80 = .ok (.iconst 1, 1) := by decide +kernel
theorem dX5_addTitle_81 : decode cX5_addTitle 81 = .ok (.isub, 1) := by decide +kernel
theorem dX5_addTitle_82 : decode cX5_addTitle 82 = .ok (.ireturn, 1) := by decide +kernel
set_option maxRecDepth 20000 in
theorem ggX5_yearOf_X5_isTitle : GoodIn wsX5_yearOf wsX5_isTitle := goodIn_r _ [7, 8, 14, 15, 16, 17, 18, 19, 20, 21, 22, 23, 24, 25, 26, 27, 28, 29, 30, 31] (by decide +kernel) (by decide +kernel)
set_option maxRecDepth 20000 in
theorem gX5_yearOf_X5_isTitle : GoodIn wsX5_yearOf (wsV RX5 68 RX5 yX5_isTitle wsX5_isTitle) := goodIn_app (goodIn_of _ (by decide +kernel)) ggX5_yearOf_X5_isTitle
set_option maxRecDepth 20000 in
theorem ggX5_yearOf_X5_holds : GoodIn wsX5_yearOf wsX5_holds := goodIn_r _ [12, 13, 14, 15, 16, 17, 18, 19, 20, 21, 22, 23, 24, 25, 26, 27, 28, 29, 30, 31] (by decide +kernel) (by decide +kernel)
set_option maxRecDepth 20000 in
theorem gX5_yearOf_X5_holds : GoodIn wsX5_yearOf (wsV RX5 64 RX5 yX5_holds wsX5_holds) := goodIn_app (goodIn_of _ (by decide +kernel)) ggX5_yearOf_X5_holds
theorem dX5_yearOf_0 : decode cX5_yearOf 0 = .ok (.aload_n 0, 1) := by decide +kernel
theorem dX5_yearOf_1 : decode cX5_yearOf 1 = .ok (.iload_n 1, 1) := by decide +kernel
theorem dX5_yearOf_2 : decode cX5_yearOf 2 = .ok (.invokevirtual 68, 3) := by decide +kernel
theorem dX5_yearOf_5 : decode cX5_yearOf 5 = .ok (.istore_n 3, 1) := by decide +kernel
theorem dX5_yearOf_6 : decode cX5_yearOf 6 = .ok (.aload_n 0, 1) := by decide +kernel
theorem dX5_yearOf_7 : decode cX5_yearOf 7 = .ok (.iload_n 3, 1) := by decide +kernel
theorem dX5_yearOf_8 : decode cX5_yearOf 8 = .ok (.ifCond .ne 7, 3) := by decide +kernel
theorem dX5_yearOf_11 : decode cX5_yearOf 11 = .ok (.iconst 1, 1) := by decide +kernel
theorem dX5_yearOf_12 : decode cX5_yearOf 12 = .ok (.goto 35, 3) := by decide +kernel
theorem dX5_yearOf_15 : decode cX5_yearOf 15 = .ok (.iload_n 2, 1) := by decide +kernel
theorem dX5_yearOf_16 : decode cX5_yearOf 16 = .ok (.iconst 1, 1) := by decide +kernel
theorem dX5_yearOf_17 : decode cX5_yearOf 17 = .ok (.if_icmp .lt 25, 3) := by decide +kernel
theorem dX5_yearOf_20 : decode cX5_yearOf 20 = .ok (.iload_n 2, 1) := by decide +kernel
theorem dX5_yearOf_21 : decode cX5_yearOf 21 = .ok (.iconst 1, 1) := by decide +kernel
theorem dX5_yearOf_22 : decode cX5_yearOf 22 = .ok (.isub, 1) := by decide +kernel
theorem dX5_yearOf_23 : decode cX5_yearOf 23 = .ok (.aload_n 0, 1) := by decide +kernel
theorem dX5_yearOf_24 : decode cX5_yearOf 24 = .ok (.getfield 13, 3) := by decide +kernel
theorem dX5_yearOf_27 : decode cX5_yearOf 27 = .ok (.iload_n 1, 1) := by decide +kernel
theorem dX5_yearOf_28 : decode cX5_yearOf 28 = .ok (.iaload, 1) := by decide +kernel
theorem dX5_yearOf_29 : decode cX5_yearOf 29 = .ok (.idiv, 1) := by decide +kernel
theorem dX5_yearOf_30 : decode cX5_yearOf 30 = .ok (.bipush 55, 2) := by decide +kernel
theorem dX5_yearOf_32 : decode cX5_yearOf 32 = .ok (.aload_n 0, 1) := by decide +kernel
theorem dX5_yearOf_33 : decode cX5_yearOf 33 = .ok (.getfield 7, 3) := by decide +kernel
theorem dX5_yearOf_36 : decode cX5_yearOf 36 = .ok (.iload_n 1, 1) := by decide +kernel
theorem dX5_yearOf_37 : decode cX5_yearOf 37 = .ok (.iaload, 1) := by decide +kernel
theorem dX5_yearOf_38 : decode cX5_yearOf 38 = .ok (.isub, 1) := by decide +kernel
theorem dX5_yearOf_39 : decode cX5_yearOf 39 = .ok (.if_icmp .le 7, 3) := by decide +kernel
theorem dX5_yearOf_42 : decode cX5_yearOf 42 = .ok (.iconst 2, 1) := by decide +kernel
theorem dX5_yearOf_43 : decode cX5_yearOf 43 = .ok (.goto 4, 3) := by decide +kernel
theorem dX5_yearOf_46 : decode cX5_yearOf 46 = .ok (.iconst 0, 1) := by decide +kernel
theorem dX5_yearOf_47 : decode cX5_yearOf 47 = .ok (.invokevirtual 64, 3) := by decide +kernel
theorem dX5_yearOf_50 : decode cX5_yearOf 50 = .ok (.ifCond .ne 5, 3) := by decide +kernel
theorem dX5_yearOf_53 : decode cX5_yearOf 53 = .ok (.iconst 0, 1) := by decide +kernel
theorem dX5_yearOf_54 : decode cX5_yearOf 54 = .ok (.ireturn, 1) := by decide +kernel
theorem dX5_yearOf_55 : decode cX5_yearOf 55 = .ok (.aload_n 0, 1) := by decide +kernel
theorem dX5_yearOf_56 : decode cX5_yearOf 56 = .ok (.getfield 7, 3) := by decide +kernel
theorem dX5_yearOf_59 : decode cX5_yearOf 59 = .ok (.iload_n 1, 1) := by decide +kernel
theorem dX5_yearOf_60 : decode cX5_yearOf 60 = .ok (.iaload, 1) := by decide +kernel
theorem dX5_yearOf_61 : decode cX5_yearOf 61 = .ok (.iload_n 2, 1) := by decide +kernel
theorem dX5_yearOf_62 : decode cX5_yearOf 62 = .ok (.iconst 1, 1) := by decide +kernel
theorem dX5_yearOf_63 : decode cX5_yearOf 63 = .ok (.isub, 1) := by decide +kernel
theorem dX5_yearOf_64 : decode cX5_yearOf 64 = .ok (.aload_n 0, 1) := by decide +kernel
theorem dX5_yearOf_65 : decode cX5_yearOf 65 = .ok (.getfield 13, 3) := by decide +kernel
theorem dX5_yearOf_68 : decode cX5_yearOf 68 = .ok (.iload_n 1, 1) := by decide +kernel
theorem dX5_yearOf_69 : decode cX5_yearOf 69 = .ok (.iaload, 1) := by decide +kernel
theorem dX5_yearOf_70 : decode cX5_yearOf 70 = .ok (.idiv, 1) := by decide +kernel
theorem dX5_yearOf_71 : decode cX5_yearOf 71 = .ok (.iadd, 1) := by decide +kernel
theorem dX5_yearOf_72 : decode cX5_yearOf 72 = .ok (.ireturn, 1) := by decide +kernel
set_option maxRecDepth 20000 in
theorem ggX5_volumeOf_X5_isTitle : GoodIn wsX5_volumeOf wsX5_isTitle := goodIn_r _ [7, 8, 17, 18, 19, 20, 21, 22, 23, 24, 25, 26, 27, 28, 29, 30, 31, 32, 33, 34] (by decide +kernel) (by decide +kernel)
set_option maxRecDepth 20000 in
theorem gX5_volumeOf_X5_isTitle : GoodIn wsX5_volumeOf (wsV RX5 68 RX5 yX5_isTitle wsX5_isTitle) := goodIn_app (goodIn_of _ (by decide +kernel)) ggX5_volumeOf_X5_isTitle
set_option maxRecDepth 20000 in
theorem ggX5_volumeOf_X5_isBetween : GoodIn wsX5_volumeOf wsX5_isBetween := goodIn_r _ [11] (by decide +kernel) (by decide +kernel)
set_option maxRecDepth 20000 in
theorem gX5_volumeOf_X5_isBetween : GoodIn wsX5_volumeOf (va_wsS RX5 60 yX5_isBetween wsX5_isBetween) := goodIn_app (goodIn_of _ (by decide +kernel)) ggX5_volumeOf_X5_isBetween
set_option maxRecDepth 20000 in
theorem ggX5_volumeOf_X5_holds : GoodIn wsX5_volumeOf wsX5_holds := goodIn_r _ [15, 16, 17, 18, 19, 20, 21, 22, 23, 24, 25, 26, 27, 28, 29, 30, 31, 32, 33, 34] (by decide +kernel) (by decide +kernel)
set_option maxRecDepth 20000 in
theorem gX5_volumeOf_X5_holds : GoodIn wsX5_volumeOf (wsV RX5 64 RX5 yX5_holds wsX5_holds) := goodIn_app (goodIn_of _ (by decide +kernel)) ggX5_volumeOf_X5_holds
theorem dX5_volumeOf_0 : decode cX5_volumeOf 0 = .ok (.aload_n 0, 1) := by decide +kernel
theorem dX5_volumeOf_1 : decode cX5_volumeOf 1 = .ok (.iload_n 1, 1) := by decide +kernel
theorem dX5_volumeOf_2 : decode cX5_volumeOf 2 = .ok (.invokevirtual 68, 3) := by decide +kernel
theorem dX5_volumeOf_5 : decode cX5_volumeOf 5 = .ok (.istore_n 3, 1) := by decide +kernel
theorem dX5_volumeOf_6 : decode cX5_volumeOf 6 = .ok (.aload_n 0, 1) := by decide +kernel
theorem dX5_volumeOf_7 : decode cX5_volumeOf 7 = .ok (.iload_n 3, 1) := by decide +kernel
theorem dX5_volumeOf_8 : decode cX5_volumeOf 8 = .ok (.ifCond .ne 7, 3) := by decide +kernel
theorem dX5_volumeOf_11 : decode cX5_volumeOf 11 = .ok (.iconst 1, 1) := by decide +kernel
theorem dX5_volumeOf_12 : decode cX5_volumeOf 12 = .ok (.goto 23, 3) := by decide +kernel
theorem dX5_volumeOf_15 : decode cX5_volumeOf 15 = .ok (.iload_n 2, 1) := by decide +kernel
theorem dX5_volumeOf_16 : decode cX5_volumeOf 16 = .ok (.aload_n 0, 1) := by decide +kernel
theorem dX5_volumeOf_17 : decode cX5_volumeOf 17 = .ok (.getfield 7, 3) := by decide +kernel
theorem dX5_volumeOf_20 : decode cX5_volumeOf 20 = .ok (.iload_n 1, 1) := by decide +kernel
theorem dX5_volumeOf_21 : decode cX5_volumeOf 21 = .ok (.iaload, 1) := by decide +kernel
theorem dX5_volumeOf_22 : decode cX5_volumeOf 22 = .ok (.bipush 55, 2) := by decide +kernel
theorem dX5_volumeOf_24 : decode cX5_volumeOf 24 = .ok (.invokestatic 60, 3) := by decide +kernel
theorem dX5_volumeOf_27 : decode cX5_volumeOf 27 = .ok (.ifCond .eq 7, 3) := by decide +kernel
theorem dX5_volumeOf_30 : decode cX5_volumeOf 30 = .ok (.iconst 0, 1) := by decide +kernel
theorem dX5_volumeOf_31 : decode cX5_volumeOf 31 = .ok (.goto 4, 3) := by decide +kernel
theorem dX5_volumeOf_34 : decode cX5_volumeOf 34 = .ok (.iconst 2, 1) := by decide +kernel
theorem dX5_volumeOf_35 : decode cX5_volumeOf 35 = .ok (.invokevirtual 64, 3) := by decide +kernel
theorem dX5_volumeOf_38 : decode cX5_volumeOf 38 = .ok (.ifCond .ne 5, 3) := by decide +kernel
theorem dX5_volumeOf_41 : decode cX5_volumeOf 41 = .ok (.iconst 0, 1) := by decide +kernel
theorem dX5_volumeOf_42 : decode cX5_volumeOf 42 = .ok (.ireturn, 1) := by decide +kernel
theorem dX5_volumeOf_43 : decode cX5_volumeOf 43 = .ok (.iload_n 2, 1) := by decide +kernel
theorem dX5_volumeOf_44 : decode cX5_volumeOf 44 = .ok (.aload_n 0, 1) := by decide +kernel
theorem dX5_volumeOf_45 : decode cX5_volumeOf 45 = .ok (.getfield 7, 3) := by decide +kernel
theorem dX5_volumeOf_48 : decode cX5_volumeOf 48 = .ok (.iload_n 1, 1) := by decide +kernel
theorem dX5_volumeOf_49 : decode cX5_volumeOf 49 = .ok (.iaload, 1) := by decide +kernel
theorem dX5_volumeOf_50 : decode cX5_volumeOf 50 = .ok (.isub, 1) := by decide +kernel
theorem dX5_volumeOf_51 : decode cX5_volumeOf 51 = .ok (.aload_n 0, 1) := by decide +kernel
theorem dX5_volumeOf_52 : decode cX5_volumeOf 52 = .ok (.getfield 13, 3) := by decide +kernel
theorem dX5_volumeOf_55 : decode cX5_volumeOf 55 = .ok (.iload_n 1, 1) := by decide +kernel
theorem dX5_volumeOf_56 : decode cX5_volumeOf 56 = .ok (.iaload, 1) := by decide +kernel
theorem dX5_volumeOf_57 : decode cX5_volumeOf 57 = .ok (.imul, 1) := by decide +kernel
theorem dX5_volumeOf_58 : decode cX5_volumeOf 58 = .ok (.iconst 1, 1) := by decide +kernel
theorem dX5_volumeOf_59 : decode cX5_volumeOf 59 = .ok (.iadd, 1) := by decide +kernel
theorem dX5_volumeOf_60 : decode cX5_volumeOf 60 = .ok (.ireturn, 1) := by decide +kernel
set_option maxRecDepth 20000 in
theorem ggX5_addPackage_X5_isBetween : GoodIn wsX5_addPackage wsX5_isBetween := goodIn_r _ [9] (by decide +kernel) (by decide +kernel)
set_option maxRecDepth 20000 in
theorem gX5_addPackage_X5_isBetween : GoodIn wsX5_addPackage (va_wsS RX5 60 yX5_isBetween wsX5_isBetween) := goodIn_app (goodIn_of _ (by decide +kernel)) ggX5_addPackage_X5_isBetween
set_option maxRecDepth 20000 in
theorem ggX5_addPackage_X5_holds : GoodIn wsX5_addPackage wsX5_holds := goodIn_r _ [13, 14, 15, 16, 17, 18, 19, 20, 21, 22, 23, 24, 25, 26, 27, 28, 29, 30, 31, 32] (by decide +kernel) (by decide +kernel)
set_option maxRecDepth 20000 in
theorem gX5_addPackage_X5_holds : GoodIn wsX5_addPackage (wsV RX5 64 RX5 yX5_holds wsX5_holds) := goodIn_app (goodIn_of _ (by decide +kernel)) ggX5_addPackage_X5_holds
theorem dX5_addPackage_0 : decode cX5_addPackage 0 = .ok (.iload_n 1, 1) := by decide +kernel
theorem dX5_addPackage_1 : decode cX5_addPackage 1 = .ok (.iconst 0, 1) := by decide +kernel
theorem dX5_addPackage_2 : decode cX5_addPackage 2 = .ok (.sipush 1000, 3) := by decide +kernel
theorem dX5_addPackage_5 : decode cX5_addPackage 5 = .ok (.invokestatic 60, 3) := by decide +kernel
theorem dX5_addPackage_8 : decode cX5_addPackage 8 = .ok (.ifCond .eq 36, 3) := by decide +kernel
theorem dX5_addPackage_11 : decode cX5_addPackage 11 = .ok (.iload_n 2, 1) := by decide +kernel
theorem dX5_addPackage_12 : decode cX5_addPackage 12 = .ok (.iconst 0, 1) := by decide +kernel
theorem dX5_addPackage_13 : decode cX5_addPackage 13 = .ok (.iconst 2, 1) := by decide +kernel
theorem dX5_addPackage_14 : decode cX5_addPackage 14 = .ok (.invokestatic 60, 3) := by decide +kernel
theorem dX5_addPackage_17 : decode cX5_addPackage 17 = .ok (.ifCond .eq 27, 3) := by decide +kernel
theorem dX5_addPackage_20 : decode cX5_addPackage 20 = .ok (.iload_n 3, 1) := by decide +kernel
theorem dX5_addPackage_21 : decode cX5_addPackage 21 = .ok (.iconst 0, 1) := by decide +kernel
theorem dX5_addPackage_22 : decode cX5_addPackage 22 = .ok (.bipush 15, 2) := by decide +kernel
theorem dX5_addPackage_24 : decode cX5_addPackage 24 = .ok (.invokestatic 60, 3) := by decide +kernel
theorem dX5_addPackage_27 : decode cX5_addPackage 27 = .ok (.ifCond .eq 17, 3) := by decide +kernel
theorem dX5_addPackage_30 : decode cX5_addPackage 30 = .ok (.iload 4, 2) := by decide +kernel
theorem dX5_addPackage_32 : decode cX5_addPackage 32 = .ok (.iconst 0, 1) := by decide +kernel
theorem dX5_addPackage_33 : decode cX5_addPackage 33 = .ok (.iconst 1, 1) := by decide +kernel
theorem dX5_addPackage_34 : decode cX5_addPackage 34 = .ok (.invokestatic 60, 3) := by decide +kernel
theorem dX5_addPackage_37 : decode cX5_addPackage 37 = .ok (.ifCond .eq 7, 3) := by decide +kernel
theorem dX5_addPackage_40 : decode cX5_addPackage 40 = .ok (.iconst 1, 1) := by decide +kernel
theorem dX5_addPackage_41 : decode cX5_addPackage 41 = .ok (.goto 4, 3) := by decide +kernel
theorem dX5_addPackage_44 : decode cX5_addPackage 44 = .ok (.iconst 0, 1) := by decide +kernel
theorem dX5_addPackage_45 : decode cX5_addPackage 45 = .ok (.istore 5, 2) := by decide +kernel
theorem dX5_addPackage_47 : decode cX5_addPackage 47 = .ok (.aload_n 0, 1) := by decide +kernel
theorem dX5_addPackage_48 : decode cX5_addPackage 48 = .ok (.iload 5, 2) := by decide +kernel
theorem dX5_addPackage_50 : decode cX5_addPackage 50 = .ok (.ifCond .ne 7, 3) := by decide +kernel
theorem dX5_addPackage_53 : decode cX5_addPackage 53 = .ok (.iconst 1, 1) := by decide +kernel
theorem dX5_addPackage_54 : decode cX5_addPackage 54 = .ok (.goto 17, 3) := by decide +kernel
theorem dX5_addPackage_57 : decode cX5_addPackage 57 = .ok (.aload_n 0, 1) := by decide +kernel
theorem dX5_addPackage_58 : decode cX5_addPackage 58 = .ok (.getfield 57, 3) := by decide +kernel
theorem dX5_addPackage_61 : decode cX5_addPackage 61 = .ok (.bipush 10, 2) := by decide +kernel
theorem dX5_addPackage_63 : decode cX5_addPackage 63 = .ok (.if_icmp .ne 7, 3) := by decide +kernel
theorem dX5_addPackage_66 : decode cX5_addPackage 66 = .ok (.iconst 2, 1) := by decide +kernel
theorem dX5_addPackage_67 : decode cX5_addPackage 67 = .ok (.goto 4, 3) := by decide +kernel
theorem dX5_addPackage_70 : decode cX5_addPackage 70 = .ok (.iconst 0, 1) := by decide +kernel
theorem dX5_addPackage_71 : decode cX5_addPackage 71 = .ok (.invokevirtual 64, 3) := by decide +kernel
theorem dX5_addPackage_74 : decode cX5_addPackage 74 = .ok (.ifCond .ne 5, 3) := by decide +kernel
theorem dX5_addPackage_77 : decode cX5_addPackage 77 = .ok (.iconst 0, 1) := by decide +kernel
theorem dX5_addPackage_78 : decode cX5_addPackage 78 = .ok (.ireturn, 1) := by decide +kernel
theorem dX5_addPackage_79 : decode cX5_addPackage 79 = .ok (.aload_n 0, 1) := by decide +kernel
theorem dX5_addPackage_80 : decode cX5_addPackage 80 = .ok (.getfield 16, 3) := by decide +kernel
theorem dX5_addPackage_83 : decode cX5_addPackage 83 = .ok (.aload_n 0, 1) := by decide +kernel
theorem dX5_addPackage_84 : decode cX5_addPackage 84 = .ok (.getfield 57, 3) := by decide +kernel
theorem dX5_addPackage_87 : decode cX5_addPackage 87 = .ok (.iload_n 1, 1) := by decide +kernel
theorem dX5_addPackage_88 : decode cX5_addPackage 88 = .ok (.iastore, 1) := by decide +kernel
theorem dX5_addPackage_89 : decode cX5_addPackage 89 = .ok (.aload_n 0, 1) := by decide +kernel
theorem dX5_addPackage_90 : decode cX5_addPackage 90 = .ok (.getfield 19, 3) := by decide +kernel
theorem dX5_addPackage_93 : decode cX5_addPackage 93 = .ok (.aload_n 0, 1) := by decide +kernel
theorem dX5_addPackage_94 : decode cX5_addPackage 94 = .ok (.getfield 57, 3) := by decide +kernel
theorem dX5_addPackage_97 : decode cX5_addPackage 97 = .ok (.iload_n 2, 1) := by decide +kernel
theorem dX5_addPackage_98 : decode cX5_addPackage 98 = .ok (.iastore, 1) := by decide +kernel
theorem dX5_addPackage_99 : decode cX5_addPackage 99 = .ok (.aload_n 0, 1) := by decide +kernel
theorem dX5_addPackage_100 : decode cX5_addPackage 100 = .ok (.getfield 22, 3) := by decide +kernel
theorem dX5_addPackage_103 : decode cX5_addPackage 103 = .ok (.aload_n 0, 1) := by decide +kernel
theorem dX5_addPackage_104 : decode cX5_addPackage 104 = .ok (.getfield 57, 3) := by decide +kernel
theorem dX5_addPackage_107 : decode cX5_addPackage 107 = .ok (.iload_n 3, 1) := by decide +kernel
theorem dX5_addPackage_108 : decode cX5_addPackage 108 = .ok (.iastore, 1) := by decide +kernel
theorem dX5_addPackage_109 : decode cX5_addPackage 109 = .ok (.aload_n 0, 1) := by decide +kernel
theorem dX5_addPackage_110 : decode cX5_addPackage 110 = .ok (.getfield 25, 3) := by decide +kernel
theorem dX5_addPackage_113 : decode cX5_addPackage 113 = .ok (.aload_n 0, 1) := by decide +kernel
theorem dX5_addPackage_114 : decode cX5_addPackage 114 = .ok (.getfield 57, 3) := by decide +kernel
theorem dX5_addPackage_117 : decode cX5_addPackage 117 = .ok (.iload 4, 2) := by decide +kernel
theorem dX5_addPackage_119 : decode cX5_addPackage 119 = .ok (.iconst 1, 1) := by decide +kernel
theorem dX5_addPackage_120 : decode cX5_addPackage 120 = .ok (.if_icmp .ne 7, 3) := by decide +kernel
theorem dX5_addPackage_123 : decode cX5_addPackage 123 = .ok (.iconst 1, 1) := by decide +kernel
theorem dX5_addPackage_124 : decode cX5_addPackage 124 = .ok (.goto 4, 3) := by decide +kernel
theorem dX5_addPackage_127 : decode cX5_addPackage 127 = .ok (.iconst 0, 1) := by decide +kernel
theorem dX5_addPackage_128 : decode cX5_addPackage 128 = .ok (.bastore, 1) := by decide +kernel
theorem dX5_addPackage_129 : decode cX5_addPackage 129 = .ok (.aload_n 0, 1) := by decide +kernel
theorem dX5_addPackage_130 : decode cX5_addPackage 130 = .ok (.dup, 1) := by decide +kernel
theorem dX5_addPackage_131 : decode cX5_addPackage 131 = .ok (.getfield 57, 3) := by decide +kernel
theorem dX5_addPackage_134 : decode cX5_addPackage 134 = .ok (.iconst 1, 1) := by decide +kernel
theorem dX5_addPackage_135 : decode cX5_addPackage 135 = .ok (.iadd, 1) := by decide +kernel
theorem dX5_addPackage_136 : decode cX5_addPackage 136 = .ok (.putfield 57, 3) := by decide +kernel
theorem dX5_addPackage_139 : decode cX5_addPackage 139 = .ok (.aload_n 0, 1) := by decide +kernel
theorem dX5_addPackage_140 : decode cX5_addPackage 140 = .ok (.getfield 57, 3) := by decide +kernel
theorem dX5_addPackage_143 : decode cX5_addPackage 143 = .ok (.iconst 1, 1) := by decide +kernel
theorem dX5_addPackage_144 : decode cX5_addPackage 144 = .ok (.isub, 1) := by decide +kernel
theorem dX5_addPackage_145 : decode cX5_addPackage 145 = .ok (.ireturn, 1) := by decide +kernel
theorem dX5_changeOn_0 : decode cX5_changeOn 0 = .ok (.aload_n 0, 1) := by decide +kernel
theorem dX5_changeOn_1 : decode cX5_changeOn 1 = .ok (.getfield 71, 3) := by decide +kernel
theorem dX5_changeOn_4 : decode cX5_changeOn 4 = .ok (.iconst 1, 1) := by decide +kernel
theorem dX5_changeOn_5 : decode cX5_changeOn 5 = .ok (.isub, 1) := by decide +kernel
theorem dX5_changeOn_6 : decode cX5_changeOn 6 = .ok (.istore_n 3, 1) := by decide +kernel
theorem dX5_changeOn_7 : decode cX5_changeOn 7 = .ok (.iload_n 3, 1) := by decide +kernel
theorem dX5_changeOn_8 : decode cX5_changeOn 8 = .ok (.ifCond .lt 29, 3) := by decide +kernel
theorem dX5_changeOn_11 : decode cX5_changeOn 11 = .ok (.aload_n 0, 1) := by decide +kernel
theorem dX5_changeOn_12 : decode cX5_changeOn 12 = .ok (.getfield 32, 3) := by decide +kernel
theorem dX5_changeOn_15 : decode cX5_changeOn 15 = .ok (.iload_n 3, 1) := by decide +kernel
theorem dX5_changeOn_16 : decode cX5_changeOn 16 = .ok (.iaload, 1) := by decide +kernel
theorem dX5_changeOn_17 : decode cX5_changeOn 17 = .ok (.iload_n 1, 1) := by decide +kernel
theorem dX5_changeOn_18 : decode cX5_changeOn 18 = .ok (.if_icmp .ne 13, 3) := by decide +kernel
theorem dX5_changeOn_21 : decode cX5_changeOn 21 = .ok (.aload_n 0, 1) := by decide +kernel
theorem dX5_changeOn_22 : decode cX5_changeOn 22 = .ok (.getfield 35, 3) := by decide +kernel
theorem dX5_changeOn_25 : decode cX5_changeOn 25 = .ok (.iload_n 3, 1) := by decide +kernel
theorem dX5_changeOn_26 : decode cX5_changeOn 26 = .ok (.iaload, 1) := by decide +kernel
theorem dX5_changeOn_27 : decode cX5_changeOn 27 = .ok (.iload_n 2, 1) := by decide +kernel
theorem dX5_changeOn_28 : decode cX5_changeOn 28 = .ok (.if_icmp .le 9, 3) := by decide +kernel
theorem dX5_changeOn_31 : decode cX5_changeOn 31 = .ok (.iinc 3 (-1), 3) := by decide +kernel
theorem dX5_changeOn_34 : decode cX5_changeOn 34 = .ok (.goto (-27), 3) := by decide +kernel
theorem dX5_changeOn_37 : decode cX5_changeOn 37 = .ok (.iload_n 3, 1) := by decide +kernel
theorem dX5_changeOn_38 : decode cX5_changeOn 38 = .ok (.ireturn, 1) := by decide +kernel
set_option maxRecDepth 20000 in
theorem ggX5_isSo_X5_changeOn : GoodIn wsX5_isSo wsX5_changeOn := goodIn_r _ [6, 7, 8, 9, 10, 11, 12, 13, 14, 15, 16, 17, 18, 19, 20, 21, 22, 23, 24, 25, 26, 27] (by decide +kernel) (by decide +kernel)
set_option maxRecDepth 20000 in
theorem gX5_isSo_X5_changeOn : GoodIn wsX5_isSo (wsV RX5 74 RX5 yX5_changeOn wsX5_changeOn) := goodIn_app (goodIn_of _ (by decide +kernel)) ggX5_isSo_X5_changeOn
theorem dX5_isSo_0 : decode cX5_isSo 0 = .ok (.aload_n 0, 1) := by decide +kernel
theorem dX5_isSo_1 : decode cX5_isSo 1 = .ok (.iload_n 1, 1) := by decide +kernel
theorem dX5_isSo_2 : decode cX5_isSo 2 = .ok (.iload_n 2, 1) := by decide +kernel
theorem dX5_isSo_3 : decode cX5_isSo 3 = .ok (.invokevirtual 74, 3) := by decide +kernel
theorem dX5_isSo_6 : decode cX5_isSo 6 = .ok (.istore_n 3, 1) := by decide +kernel
theorem dX5_isSo_7 : decode cX5_isSo 7 = .ok (.iload_n 3, 1) := by decide +kernel
theorem dX5_isSo_8 : decode cX5_isSo 8 = .ok (.iconst (-1), 1) := by decide +kernel
theorem dX5_isSo_9 : decode cX5_isSo 9 = .ok (.if_icmp .eq 16, 3) := by decide +kernel
theorem dX5_isSo_12 : decode cX5_isSo 12 = .ok (.aload_n 0, 1) := by decide +kernel
theorem dX5_isSo_13 : decode cX5_isSo 13 = .ok (.getfield 38, 3) := by decide +kernel
theorem dX5_isSo_16 : decode cX5_isSo 16 = .ok (.iload_n 3, 1) := by decide +kernel
theorem dX5_isSo_17 : decode cX5_isSo 17 = .ok (.baload, 1) := by decide +kernel
theorem dX5_isSo_18 : decode cX5_isSo 18 = .ok (.ifCond .eq 7, 3) := by decide +kernel
theorem dX5_isSo_21 : decode cX5_isSo 21 = .ok (.iconst 1, 1) := by decide +kernel
theorem dX5_isSo_22 : decode cX5_isSo 22 = .ok (.goto 4, 3) := by decide +kernel
theorem dX5_isSo_25 : decode cX5_isSo 25 = .ok (.iconst 0, 1) := by decide +kernel
theorem dX5_isSo_26 : decode cX5_isSo 26 = .ok (.ireturn, 1) := by decide +kernel
set_option maxRecDepth 20000 in
theorem ggX5_notes_X5_changeOn : GoodIn wsX5_notes wsX5_changeOn := goodIn_r _ [13, 4, 5, 3, 14, 15, 16, 17, 18, 19, 20, 21, 22, 23, 24, 25, 26, 27, 28, 29, 30, 31] (by decide +kernel) (by decide +kernel)
set_option maxRecDepth 20000 in
theorem gX5_notes_X5_changeOn : GoodIn wsX5_notes (wsV RX5 74 RX5 yX5_changeOn wsX5_changeOn) := goodIn_app (goodIn_of _ (by decide +kernel)) ggX5_notes_X5_changeOn
theorem dX5_notes_0 : decode cX5_notes 0 = .ok (.aload_n 0, 1) := by decide +kernel
theorem dX5_notes_1 : decode cX5_notes 1 = .ok (.iload_n 1, 1) := by decide +kernel
theorem dX5_notes_2 : decode cX5_notes 2 = .ok (.aload_n 0, 1) := by decide +kernel
theorem dX5_notes_3 : decode cX5_notes 3 = .ok (.getfield 78, 3) := by decide +kernel
theorem dX5_notes_6 : decode cX5_notes 6 = .ok (.invokevirtual 74, 3) := by decide +kernel
theorem dX5_notes_9 : decode cX5_notes 9 = .ok (.istore 6, 2) := by decide +kernel
theorem dX5_notes_11 : decode cX5_notes 11 = .ok (.iload 6, 2) := by decide +kernel
theorem dX5_notes_13 : decode cX5_notes 13 = .ok (.iconst (-1), 1) := by decide +kernel
theorem dX5_notes_14 : decode cX5_notes 14 = .ok (.if_icmp .eq 17, 3) := by decide +kernel
theorem dX5_notes_17 : decode cX5_notes 17 = .ok (.aload_n 0, 1) := by decide +kernel
theorem dX5_notes_18 : decode cX5_notes 18 = .ok (.getfield 38, 3) := by decide +kernel
theorem dX5_notes_21 : decode cX5_notes 21 = .ok (.iload 6, 2) := by decide +kernel
theorem dX5_notes_23 : decode cX5_notes 23 = .ok (.baload, 1) := by decide +kernel
theorem dX5_notes_24 : decode cX5_notes 24 = .ok (.ifCond .eq 7, 3) := by decide +kernel
theorem dX5_notes_27 : decode cX5_notes 27 = .ok (.iconst 1, 1) := by decide +kernel
theorem dX5_notes_28 : decode cX5_notes 28 = .ok (.goto 4, 3) := by decide +kernel
theorem dX5_notes_31 : decode cX5_notes 31 = .ok (.iconst 0, 1) := by decide +kernel
theorem dX5_notes_32 : decode cX5_notes 32 = .ok (.istore 7, 2) := by decide +kernel
theorem dX5_notes_34 : decode cX5_notes 34 = .ok (.iload 6, 2) := by decide +kernel
theorem dX5_notes_36 : decode cX5_notes 36 = .ok (.iconst (-1), 1) := by decide +kernel
theorem dX5_notes_37 : decode cX5_notes 37 = .ok (.if_icmp .eq 22, 3) := by decide +kernel
theorem dX5_notes_40 : decode cX5_notes 40 = .ok (.aload_n 0, 1) := by decide +kernel
theorem dX5_notes_41 : decode cX5_notes 41 = .ok (.getfield 35, 3) := by decide +kernel
theorem dX5_notes_44 : decode cX5_notes 44 = .ok (.iload 6, 2) := by decide +kernel
theorem dX5_notes_46 : decode cX5_notes 46 = .ok (.iaload, 1) := by decide +kernel
theorem dX5_notes_47 : decode cX5_notes 47 = .ok (.aload_n 0, 1) := by decide +kernel
theorem dX5_notes_48 : decode cX5_notes 48 = .ok (.getfield 78, 3) := by decide +kernel
theorem dX5_notes_51 : decode cX5_notes 51 = .ok (.if_icmp .ne 8, 3) := by decide +kernel
theorem dX5_notes_54 : decode cX5_notes 54 = .ok (.iload 6, 2) := by decide +kernel
theorem dX5_notes_56 : decode cX5_notes 56 = .ok (.goto 7, 3) := by decide +kernel
theorem dX5_notes_59 : decode cX5_notes 59 = .ok (.aload_n 0, 1) := by decide +kernel
theorem dX5_notes_60 : decode cX5_notes 60 = .ok (.getfield 71, 3) := by decide +kernel
theorem dX5_notes_63 : decode cX5_notes 63 = .ok (.istore 8, 2) := by decide +kernel
theorem dX5_notes_65 : decode cX5_notes 65 = .ok (.aload_n 0, 1) := by decide +kernel
theorem dX5_notes_66 : decode cX5_notes 66 = .ok (.dup, 1) := by decide +kernel
theorem dX5_notes_67 : decode cX5_notes 67 = .ok (.getfield 71, 3) := by decide +kernel
theorem dX5_notes_70 : decode cX5_notes 70 = .ok (.iload 8, 2) := by decide +kernel
theorem dX5_notes_72 : decode cX5_notes 72 = .ok (.aload_n 0, 1) := by decide +kernel
theorem dX5_notes_73 : decode cX5_notes 73 = .ok (.getfield 71, 3) := by decide +kernel
theorem dX5_notes_76 : decode cX5_notes 76 = .ok (.if_icmp .ne 7, 3) := by decide +kernel
theorem dX5_notes_79 : decode cX5_notes 79 = .ok (.iconst 1, 1) := by decide +kernel
theorem dX5_notes_80 : decode cX5_notes 80 = .ok (.goto 4, 3) := by decide +kernel
theorem dX5_notes_83 : decode cX5_notes 83 = .ok (.iconst 0, 1) := by decide +kernel
theorem dX5_notes_84 : decode cX5_notes 84 = .ok (.iadd, 1) := by decide +kernel
theorem dX5_notes_85 : decode cX5_notes 85 = .ok (.putfield 71, 3) := by decide +kernel
theorem dX5_notes_88 : decode cX5_notes 88 = .ok (.aload_n 0, 1) := by decide +kernel
theorem dX5_notes_89 : decode cX5_notes 89 = .ok (.getfield 32, 3) := by decide +kernel
theorem dX5_notes_92 : decode cX5_notes 92 = .ok (.iload 8, 2) := by decide +kernel
theorem dX5_notes_94 : decode cX5_notes 94 = .ok (.iload_n 1, 1) := by decide +kernel
theorem dX5_notes_95 : decode cX5_notes 95 = .ok (.iastore, 1) := by decide +kernel
theorem dX5_notes_96 : decode cX5_notes 96 = .ok (.aload_n 0, 1) := by decide +kernel
theorem dX5_notes_97 : decode cX5_notes 97 = .ok (.getfield 35, 3) := by decide +kernel
theorem dX5_notes_100 : decode cX5_notes 100 = .ok (.iload 8, 2) := by decide +kernel
theorem dX5_notes_102 : decode cX5_notes 102 = .ok (.aload_n 0, 1) := by decide +kernel
theorem dX5_notes_103 : decode cX5_notes 103 = .ok (.getfield 78, 3) := by decide +kernel
theorem dX5_notes_106 : decode cX5_notes 106 = .ok (.iastore, 1) := by decide +kernel
theorem dX5_notes_107 : decode cX5_notes 107 = .ok (.aload_n 0, 1) := by decide +kernel
theorem dX5_notes_108 : decode cX5_notes 108 = .ok (.getfield 38, 3) := by decide +kernel
theorem dX5_notes_111 : decode cX5_notes 111 = .ok (.iload 8, 2) := by decide +kernel
theorem dX5_notes_113 : decode cX5_notes 113 = .ok (.iload_n 2, 1) := by decide +kernel
theorem dX5_notes_114 : decode cX5_notes 114 = .ok (.bastore, 1) := by decide +kernel
theorem dX5_notes_115 : decode cX5_notes 115 = .ok (.aload_n 0, 1) := by decide +kernel
theorem dX5_notes_116 : decode cX5_notes 116 = .ok (.getfield 41, 3) := by decide +kernel
theorem dX5_notes_119 : decode cX5_notes 119 = .ok (.iload 8, 2) := by decide +kernel
theorem dX5_notes_121 : decode cX5_notes 121 = .ok (.iload_n 3, 1) := by decide +kernel
theorem dX5_notes_122 : decode cX5_notes 122 = .ok (.iastore, 1) := by decide +kernel
theorem dX5_notes_123 : decode cX5_notes 123 = .ok (.aload_n 0, 1) := by decide +kernel
theorem dX5_notes_124 : decode cX5_notes 124 = .ok (.getfield 44, 3) := by decide +kernel
theorem dX5_notes_127 : decode cX5_notes 127 = .ok (.iload 8, 2) := by decide +kernel
theorem dX5_notes_129 : decode cX5_notes 129 = .ok (.iload 4, 2) := by decide +kernel
theorem dX5_notes_131 : decode cX5_notes 131 = .ok (.iastore, 1) := by decide +kernel
theorem dX5_notes_132 : decode cX5_notes 132 = .ok (.aload_n 0, 1) := by decide +kernel
theorem dX5_notes_133 : decode cX5_notes 133 = .ok (.getfield 47, 3) := by decide +kernel
theorem dX5_notes_136 : decode cX5_notes 136 = .ok (.iload 8, 2) := by decide +kernel
theorem dX5_notes_138 : decode cX5_notes 138 = .ok (.iload 5, 2) := by decide +kernel
theorem dX5_notes_140 : decode cX5_notes 140 = .ok (.iastore, 1) := by decide +kernel
theorem dX5_notes_141 : decode cX5_notes 141 = .ok (.iload 7, 2) := by decide +kernel
theorem dX5_notes_143 : decode cX5_notes 143 = .ok (.ireturn, 1) := by decide +kernel
theorem dX5_subscription_0 : decode cX5_subscription 0 = .ok (.bipush 21, 2) := by decide +kernel
theorem dX5_subscription_2 : decode cX5_subscription 2 = .ok (.iload_n 0, 1) := by decide +kernel
theorem dX5_subscription_3 : decode cX5_subscription 3 = .ok (.imul, 1) := by decide +kernel
theorem dX5_subscription_4 : decode cX5_subscription 4 = .ok (.bipush 20, 2) := by decide +kernel
theorem dX5_subscription_6 : decode cX5_subscription 6 = .ok (.iadd, 1) := by decide +kernel
theorem dX5_subscription_7 : decode cX5_subscription 7 = .ok (.ireturn, 1) := by decide +kernel
set_option maxRecDepth 20000 in
theorem ggX5_subscribe_X5_isPackage : GoodIn wsX5_subscribe wsX5_isPackage := goodIn_r _ [5, 6, 31, 32, 33, 34, 35, 36, 37, 38, 39, 40, 41, 42, 43, 44, 45, 46, 47, 48] (by decide +kernel) (by decide +kernel)
set_option maxRecDepth 20000 in
theorem gX5_subscribe_X5_isPackage : GoodIn wsX5_subscribe (wsV RX5 81 RX5 yX5_isPackage wsX5_isPackage) := goodIn_app (goodIn_of _ (by decide +kernel)) ggX5_subscribe_X5_isPackage
set_option maxRecDepth 20000 in
theorem ggX5_subscribe_X5_holds : GoodIn wsX5_subscribe wsX5_holds := goodIn_r _ [10, 11, 31, 32, 33, 34, 35, 36, 37, 38, 39, 40, 41, 42, 43, 44, 45, 46, 47, 48] (by decide +kernel) (by decide +kernel)
set_option maxRecDepth 20000 in
theorem gX5_subscribe_X5_holds : GoodIn wsX5_subscribe (wsV RX5 64 RX5 yX5_holds wsX5_holds) := goodIn_app (goodIn_of _ (by decide +kernel)) ggX5_subscribe_X5_holds
set_option maxRecDepth 20000 in
theorem ggX5_subscribe_X5_subscription : GoodIn wsX5_subscribe wsX5_subscription := goodIn_r _ [14] (by decide +kernel) (by decide +kernel)
set_option maxRecDepth 20000 in
theorem gX5_subscribe_X5_subscription : GoodIn wsX5_subscribe (va_wsS RX5 84 yX5_subscription wsX5_subscription) := goodIn_app (goodIn_of _ (by decide +kernel)) ggX5_subscribe_X5_subscription
set_option maxRecDepth 20000 in
theorem ggX5_subscribe_X5_notes : GoodIn wsX5_subscribe wsX5_notes := goodIn_r _ [18, 19, 20, 21, 22, 23, 24, 25, 26, 27, 28, 29, 4, 30, 31, 32, 33, 34, 35, 36, 37, 38, 39, 40, 41, 42, 43, 44, 45, 46, 47, 48] (by decide +kernel) (by decide +kernel)
set_option maxRecDepth 20000 in
theorem gX5_subscribe_X5_notes : GoodIn wsX5_subscribe (wsV RX5 88 RX5 yX5_notes wsX5_notes) := goodIn_app (goodIn_of _ (by decide +kernel)) ggX5_subscribe_X5_notes
theorem dX5_subscribe_0 : decode cX5_subscribe 0 = .ok (.aload_n 0, 1) := by decide +kernel
theorem dX5_subscribe_1 : decode cX5_subscribe 1 = .ok (.aload_n 0, 1) := by decide +kernel
theorem dX5_subscribe_2 : decode cX5_subscribe 2 = .ok (.iload_n 1, 1) := by decide +kernel
theorem dX5_subscribe_3 : decode cX5_subscribe 3 = .ok (.invokevirtual 81, 3) := by decide +kernel
theorem dX5_subscribe_6 : decode cX5_subscribe 6 = .ok (.ifCond .eq 7, 3) := by decide +kernel
theorem dX5_subscribe_9 : decode cX5_subscribe 9 = .ok (.iconst 0, 1) := by decide +kernel
theorem dX5_subscribe_10 : decode cX5_subscribe 10 = .ok (.goto 4, 3) := by decide +kernel
theorem dX5_subscribe_13 : decode cX5_subscribe 13 = .ok (.iconst 1, 1) := by decide +kernel
theorem dX5_subscribe_14 : decode cX5_subscribe 14 = .ok (.invokevirtual 64, 3) := by decide +kernel
theorem dX5_subscribe_17 : decode cX5_subscribe 17 = .ok (.ifCond .eq 22, 3) := by decide +kernel
theorem dX5_subscribe_20 : decode cX5_subscribe 20 = .ok (.aload_n 0, 1) := by decide +kernel
theorem dX5_subscribe_21 : decode cX5_subscribe 21 = .ok (.iload_n 1, 1) := by decide +kernel
theorem dX5_subscribe_22 : decode cX5_subscribe 22 = .ok (.invokestatic 84, 3) := by decide +kernel
theorem dX5_subscribe_25 : decode cX5_subscribe 25 = .ok (.iload_n 2, 1) := by decide +kernel
theorem dX5_subscribe_26 : decode cX5_subscribe 26 = .ok (.iconst 0, 1) := by decide +kernel
theorem dX5_subscribe_27 : decode cX5_subscribe 27 = .ok (.iconst 0, 1) := by decide +kernel
theorem dX5_subscribe_28 : decode cX5_subscribe 28 = .ok (.iconst 0, 1) := by decide +kernel
theorem dX5_subscribe_29 : decode cX5_subscribe 29 = .ok (.invokevirtual 88, 3) := by decide +kernel
theorem dX5_subscribe_32 : decode cX5_subscribe 32 = .ok (.ifCond .eq 7, 3) := by decide +kernel
theorem dX5_subscribe_35 : decode cX5_subscribe 35 = .ok (.iconst 1, 1) := by decide +kernel
theorem dX5_subscribe_36 : decode cX5_subscribe 36 = .ok (.goto 4, 3) := by decide +kernel
theorem dX5_subscribe_39 : decode cX5_subscribe 39 = .ok (.iconst 0, 1) := by decide +kernel
theorem dX5_subscribe_40 : decode cX5_subscribe 40 = .ok (.ireturn, 1) := by decide +kernel
set_option maxRecDepth 20000 in
theorem ggX5_come_X5_isPackage : GoodIn wsX5_come wsX5_isPackage := goodIn_r _ [5, 6, 36, 37, 38, 39, 40, 41, 42, 43, 44, 45, 46, 47, 48, 49, 50, 51, 52, 53] (by decide +kernel) (by decide +kernel)
set_option maxRecDepth 20000 in
theorem gX5_come_X5_isPackage : GoodIn wsX5_come (wsV RX5 81 RX5 yX5_isPackage wsX5_isPackage) := goodIn_app (goodIn_of _ (by decide +kernel)) ggX5_come_X5_isPackage
set_option maxRecDepth 20000 in
theorem ggX5_come_X5_isTitle : GoodIn wsX5_come wsX5_isTitle := goodIn_r _ [10, 11, 36, 37, 38, 39, 40, 41, 42, 43, 44, 45, 46, 47, 48, 49, 50, 51, 52, 53] (by decide +kernel) (by decide +kernel)
set_option maxRecDepth 20000 in
theorem gX5_come_X5_isTitle : GoodIn wsX5_come (wsV RX5 68 RX5 yX5_isTitle wsX5_isTitle) := goodIn_app (goodIn_of _ (by decide +kernel)) ggX5_come_X5_isTitle
set_option maxRecDepth 20000 in
theorem ggX5_come_X5_isBetween : GoodIn wsX5_come wsX5_isBetween := goodIn_r _ [14] (by decide +kernel) (by decide +kernel)
set_option maxRecDepth 20000 in
theorem gX5_come_X5_isBetween : GoodIn wsX5_come (va_wsS RX5 60 yX5_isBetween wsX5_isBetween) := goodIn_app (goodIn_of _ (by decide +kernel)) ggX5_come_X5_isBetween
set_option maxRecDepth 20000 in
theorem ggX5_come_X5_holds : GoodIn wsX5_come wsX5_holds := goodIn_r _ [18, 19, 36, 37, 38, 39, 40, 41, 42, 43, 44, 45, 46, 47, 48, 49, 50, 51, 52, 53] (by decide +kernel) (by decide +kernel)
set_option maxRecDepth 20000 in
theorem gX5_come_X5_holds : GoodIn wsX5_come (wsV RX5 64 RX5 yX5_holds wsX5_holds) := goodIn_app (goodIn_of _ (by decide +kernel)) ggX5_come_X5_holds
set_option maxRecDepth 20000 in
theorem ggX5_come_X5_notes : GoodIn wsX5_come wsX5_notes := goodIn_r _ [23, 24, 25, 26, 27, 28, 29, 30, 31, 32, 33, 34, 4, 35, 36, 37, 38, 39, 40, 41, 42, 43, 44, 45, 46, 47, 48, 49, 50, 51, 52, 53] (by decide +kernel) (by decide +kernel)
set_option maxRecDepth 20000 in
theorem gX5_come_X5_notes : GoodIn wsX5_come (wsV RX5 88 RX5 yX5_notes wsX5_notes) := goodIn_app (goodIn_of _ (by decide +kernel)) ggX5_come_X5_notes
theorem dX5_come_0 : decode cX5_come 0 = .ok (.aload_n 0, 1) := by decide +kernel
theorem dX5_come_1 : decode cX5_come 1 = .ok (.iload_n 1, 1) := by decide +kernel
theorem dX5_come_2 : decode cX5_come 2 = .ok (.invokevirtual 81, 3) := by decide +kernel
theorem dX5_come_5 : decode cX5_come 5 = .ok (.ifCond .eq 15, 3) := by decide +kernel
theorem dX5_come_8 : decode cX5_come 8 = .ok (.aload_n 0, 1) := by decide +kernel
theorem dX5_come_9 : decode cX5_come 9 = .ok (.iload_n 2, 1) := by decide +kernel
theorem dX5_come_10 : decode cX5_come 10 = .ok (.invokevirtual 68, 3) := by decide +kernel
theorem dX5_come_13 : decode cX5_come 13 = .ok (.ifCond .eq 7, 3) := by decide +kernel
theorem dX5_come_16 : decode cX5_come 16 = .ok (.iconst 1, 1) := by decide +kernel
theorem dX5_come_17 : decode cX5_come 17 = .ok (.goto 4, 3) := by decide +kernel
theorem dX5_come_20 : decode cX5_come 20 = .ok (.iconst 0, 1) := by decide +kernel
theorem dX5_come_21 : decode cX5_come 21 = .ok (.istore 6, 2) := by decide +kernel
theorem dX5_come_23 : decode cX5_come 23 = .ok (.iload_n 3, 1) := by decide +kernel
theorem dX5_come_24 : decode cX5_come 24 = .ok (.iconst 0, 1) := by decide +kernel
theorem dX5_come_25 : decode cX5_come 25 = .ok (.bipush 55, 2) := by decide +kernel
theorem dX5_come_27 : decode cX5_come 27 = .ok (.invokestatic 60, 3) := by decide +kernel
theorem dX5_come_30 : decode cX5_come 30 = .ok (.ifCond .eq 29, 3) := by decide +kernel
theorem dX5_come_33 : decode cX5_come 33 = .ok (.iload 4, 2) := by decide +kernel
theorem dX5_come_35 : decode cX5_come 35 = .ok (.iload_n 3, 1) := by decide +kernel
theorem dX5_come_36 : decode cX5_come 36 = .ok (.bipush 55, 2) := by decide +kernel
theorem dX5_come_38 : decode cX5_come 38 = .ok (.invokestatic 60, 3) := by decide +kernel
theorem dX5_come_41 : decode cX5_come 41 = .ok (.ifCond .eq 18, 3) := by decide +kernel
theorem dX5_come_44 : decode cX5_come 44 = .ok (.iload 5, 2) := by decide +kernel
theorem dX5_come_46 : decode cX5_come 46 = .ok (.iconst 0, 1) := by decide +kernel
theorem dX5_come_47 : decode cX5_come 47 = .ok (.bipush 20, 2) := by decide +kernel
theorem dX5_come_49 : decode cX5_come 49 = .ok (.invokestatic 60, 3) := by decide +kernel
theorem dX5_come_52 : decode cX5_come 52 = .ok (.ifCond .eq 7, 3) := by decide +kernel
theorem dX5_come_55 : decode cX5_come 55 = .ok (.iconst 1, 1) := by decide +kernel
theorem dX5_come_56 : decode cX5_come 56 = .ok (.goto 4, 3) := by decide +kernel
theorem dX5_come_59 : decode cX5_come 59 = .ok (.iconst 0, 1) := by decide +kernel
theorem dX5_come_60 : decode cX5_come 60 = .ok (.istore 7, 2) := by decide +kernel
theorem dX5_come_62 : decode cX5_come 62 = .ok (.aload_n 0, 1) := by decide +kernel
theorem dX5_come_63 : decode cX5_come 63 = .ok (.iload 6, 2) := by decide +kernel
theorem dX5_come_65 : decode cX5_come 65 = .ok (.ifCond .ne 7, 3) := by decide +kernel
theorem dX5_come_68 : decode cX5_come 68 = .ok (.iconst 1, 1) := by decide +kernel
theorem dX5_come_69 : decode cX5_come 69 = .ok (.goto 13, 3) := by decide +kernel
theorem dX5_come_72 : decode cX5_come 72 = .ok (.iload 7, 2) := by decide +kernel
theorem dX5_come_74 : decode cX5_come 74 = .ok (.ifCond .eq 7, 3) := by decide +kernel
theorem dX5_come_77 : decode cX5_come 77 = .ok (.iconst 0, 1) := by decide +kernel
theorem dX5_come_78 : decode cX5_come 78 = .ok (.goto 4, 3) := by decide +kernel
theorem dX5_come_81 : decode cX5_come 81 = .ok (.iconst 2, 1) := by decide +kernel
theorem dX5_come_82 : decode cX5_come 82 = .ok (.invokevirtual 64, 3) := by decide +kernel
theorem dX5_come_85 : decode cX5_come 85 = .ok (.ifCond .eq 26, 3) := by decide +kernel
theorem dX5_come_88 : decode cX5_come 88 = .ok (.aload_n 0, 1) := by decide +kernel
theorem dX5_come_89 : decode cX5_come 89 = .ok (.bipush 21, 2) := by decide +kernel
theorem dX5_come_91 : decode cX5_come 91 = .ok (.iload_n 1, 1) := by decide +kernel
theorem dX5_come_92 : decode cX5_come 92 = .ok (.imul, 1) := by decide +kernel
theorem dX5_come_93 : decode cX5_come 93 = .ok (.iload_n 2, 1) := by decide +kernel
theorem dX5_come_94 : decode cX5_come 94 = .ok (.iadd, 1) := by decide +kernel
theorem dX5_come_95 : decode cX5_come 95 = .ok (.iconst 1, 1) := by decide +kernel
theorem dX5_come_96 : decode cX5_come 96 = .ok (.iload_n 3, 1) := by decide +kernel
theorem dX5_come_97 : decode cX5_come 97 = .ok (.iload 4, 2) := by decide +kernel
theorem dX5_come_99 : decode cX5_come 99 = .ok (.iload 5, 2) := by decide +kernel
theorem dX5_come_101 : decode cX5_come 101 = .ok (.invokevirtual 88, 3) := by decide +kernel
theorem dX5_come_104 : decode cX5_come 104 = .ok (.ifCond .eq 7, 3) := by decide +kernel
theorem dX5_come_107 : decode cX5_come 107 = .ok (.iconst 1, 1) := by decide +kernel
theorem dX5_come_108 : decode cX5_come 108 = .ok (.goto 4, 3) := by decide +kernel
theorem dX5_come_111 : decode cX5_come 111 = .ok (.iconst 0, 1) := by decide +kernel
theorem dX5_come_112 : decode cX5_come 112 = .ok (.ireturn, 1) := by decide +kernel
set_option maxRecDepth 20000 in
theorem ggX5_go_X5_isPackage : GoodIn wsX5_go wsX5_isPackage := goodIn_r _ [6, 7, 37, 38, 39, 40, 41, 42, 43, 44, 45, 46, 47, 48, 49, 50, 51, 52, 53, 54] (by decide +kernel) (by decide +kernel)
set_option maxRecDepth 20000 in
theorem gX5_go_X5_isPackage : GoodIn wsX5_go (wsV RX5 81 RX5 yX5_isPackage wsX5_isPackage) := goodIn_app (goodIn_of _ (by decide +kernel)) ggX5_go_X5_isPackage
set_option maxRecDepth 20000 in
theorem ggX5_go_X5_isTitle : GoodIn wsX5_go wsX5_isTitle := goodIn_r _ [11, 12, 37, 38, 39, 40, 41, 42, 43, 44, 45, 46, 47, 48, 49, 50, 51, 52, 53, 54] (by decide +kernel) (by decide +kernel)
set_option maxRecDepth 20000 in
theorem gX5_go_X5_isTitle : GoodIn wsX5_go (wsV RX5 68 RX5 yX5_isTitle wsX5_isTitle) := goodIn_app (goodIn_of _ (by decide +kernel)) ggX5_go_X5_isTitle
set_option maxRecDepth 20000 in
theorem ggX5_go_X5_isSo : GoodIn wsX5_go wsX5_isSo := goodIn_r _ [16, 17, 18, 19, 20, 5, 21, 22, 23, 24, 37, 38, 39, 40, 41, 42, 43, 44, 45, 46, 47, 48, 49, 50, 51, 52, 53, 54] (by decide +kernel) (by decide +kernel)
set_option maxRecDepth 20000 in
theorem gX5_go_X5_isSo : GoodIn wsX5_go (wsV RX5 92 RX5 yX5_isSo wsX5_isSo) := goodIn_app (goodIn_of _ (by decide +kernel)) ggX5_go_X5_isSo
set_option maxRecDepth 20000 in
theorem ggX5_go_X5_holds : GoodIn wsX5_go wsX5_holds := goodIn_r _ [28, 29, 37, 38, 39, 40, 41, 42, 43, 44, 45, 46, 47, 48, 49, 50, 51, 52, 53, 54] (by decide +kernel) (by decide +kernel)
set_option maxRecDepth 20000 in
theorem gX5_go_X5_holds : GoodIn wsX5_go (wsV RX5 64 RX5 yX5_holds wsX5_holds) := goodIn_app (goodIn_of _ (by decide +kernel)) ggX5_go_X5_holds
set_option maxRecDepth 20000 in
theorem ggX5_go_X5_notes : GoodIn wsX5_go wsX5_notes := goodIn_r _ [33, 1, 17, 24, 22, 23, 34, 35, 36, 18, 19, 20, 5, 21, 37, 38, 39, 40, 41, 42, 43, 44, 45, 46, 47, 48, 49, 50, 51, 52, 53, 54] (by decide +kernel) (by decide +kernel)
set_option maxRecDepth 20000 in
theorem gX5_go_X5_notes : GoodIn wsX5_go (wsV RX5 88 RX5 yX5_notes wsX5_notes) := goodIn_app (goodIn_of _ (by decide +kernel)) ggX5_go_X5_notes
theorem dX5_go_0 : decode cX5_go 0 = .ok (.aload_n 0, 1) := by decide +kernel
theorem dX5_go_1 : decode cX5_go 1 = .ok (.iload_n 1, 1) := by decide +kernel
theorem dX5_go_2 : decode cX5_go 2 = .ok (.invokevirtual 81, 3) := by decide +kernel
theorem dX5_go_5 : decode cX5_go 5 = .ok (.ifCond .eq 15, 3) := by decide +kernel
theorem dX5_go_8 : decode cX5_go 8 = .ok (.aload_n 0, 1) := by decide +kernel
theorem dX5_go_9 : decode cX5_go 9 = .ok (.iload_n 2, 1) := by decide +kernel
theorem dX5_go_10 : decode cX5_go 10 = .ok (.invokevirtual 68, 3) := by decide +kernel
theorem dX5_go_13 : decode cX5_go 13 = .ok (.ifCond .eq 7, 3) := by decide +kernel
theorem dX5_go_16 : decode cX5_go 16 = .ok (.iconst 1, 1) := by decide +kernel
theorem dX5_go_17 : decode cX5_go 17 = .ok (.goto 4, 3) := by decide +kernel
theorem dX5_go_20 : decode cX5_go 20 = .ok (.iconst 0, 1) := by decide +kernel
theorem dX5_go_21 : decode cX5_go 21 = .ok (.istore_n 3, 1) := by decide +kernel
theorem dX5_go_22 : decode cX5_go 22 = .ok (.aload_n 0, 1) := by decide +kernel
theorem dX5_go_23 : decode cX5_go 23 = .ok (.iload_n 3, 1) := by decide +kernel
theorem dX5_go_24 : decode cX5_go 24 = .ok (.ifCond .ne 7, 3) := by decide +kernel
theorem dX5_go_27 : decode cX5_go 27 = .ok (.iconst 1, 1) := by decide +kernel
theorem dX5_go_28 : decode cX5_go 28 = .ok (.goto 25, 3) := by decide +kernel
theorem dX5_go_31 : decode cX5_go 31 = .ok (.aload_n 0, 1) := by decide +kernel
theorem dX5_go_32 : decode cX5_go 32 = .ok (.bipush 21, 2) := by decide +kernel
theorem dX5_go_34 : decode cX5_go 34 = .ok (.iload_n 1, 1) := by decide +kernel
theorem dX5_go_35 : decode cX5_go 35 = .ok (.imul, 1) := by decide +kernel
theorem dX5_go_36 : decode cX5_go 36 = .ok (.iload_n 2, 1) := by decide +kernel
theorem dX5_go_37 : decode cX5_go 37 = .ok (.iadd, 1) := by decide +kernel
theorem dX5_go_38 : decode cX5_go 38 = .ok (.aload_n 0, 1) := by decide +kernel
theorem dX5_go_39 : decode cX5_go 39 = .ok (.getfield 78, 3) := by decide +kernel
theorem dX5_go_42 : decode cX5_go 42 = .ok (.invokevirtual 92, 3) := by decide +kernel
theorem dX5_go_45 : decode cX5_go 45 = .ok (.ifCond .eq 7, 3) := by decide +kernel
theorem dX5_go_48 : decode cX5_go 48 = .ok (.iconst 0, 1) := by decide +kernel
theorem dX5_go_49 : decode cX5_go 49 = .ok (.goto 4, 3) := by decide +kernel
theorem dX5_go_52 : decode cX5_go 52 = .ok (.iconst 2, 1) := by decide +kernel
theorem dX5_go_53 : decode cX5_go 53 = .ok (.invokevirtual 64, 3) := by decide +kernel
theorem dX5_go_56 : decode cX5_go 56 = .ok (.ifCond .eq 19, 3) := by decide +kernel
theorem dX5_go_59 : decode cX5_go 59 = .ok (.aload_n 0, 1) := by decide +kernel
theorem dX5_go_60 : decode cX5_go 60 = .ok (.bipush 21, 2) := by decide +kernel
theorem dX5_go_62 : decode cX5_go 62 = .ok (.iload_n 1, 1) := by decide +kernel
theorem dX5_go_63 : decode cX5_go 63 = .ok (.imul, 1) := by decide +kernel
theorem dX5_go_64 : decode cX5_go 64 = .ok (.iload_n 2, 1) := by decide +kernel
theorem dX5_go_65 : decode cX5_go 65 = .ok (.iadd, 1) := by decide +kernel
theorem dX5_go_66 : decode cX5_go 66 = .ok (.iconst 0, 1) := by decide +kernel
theorem dX5_go_67 : decode cX5_go 67 = .ok (.iconst 0, 1) := by decide +kernel
theorem dX5_go_68 : decode cX5_go 68 = .ok (.iconst 0, 1) := by decide +kernel
theorem dX5_go_69 : decode cX5_go 69 = .ok (.iconst 0, 1) := by decide +kernel
theorem dX5_go_70 : decode cX5_go 70 = .ok (.invokevirtual 88, 3) := by decide +kernel
theorem dX5_go_73 : decode cX5_go 73 = .ok (.istore 4, 2) := by decide +kernel
theorem dX5_go_75 : decode cX5_go 75 = .ok (.return_, 1) := by decide +kernel
set_option maxRecDepth 20000 in
theorem ggX5_pass_X5_isBetween : GoodIn wsX5_pass wsX5_isBetween := goodIn_r _ [5] (by decide +kernel) (by decide +kernel)
set_option maxRecDepth 20000 in
theorem gX5_pass_X5_isBetween : GoodIn wsX5_pass (va_wsS RX5 60 yX5_isBetween wsX5_isBetween) := goodIn_app (goodIn_of _ (by decide +kernel)) ggX5_pass_X5_isBetween
set_option maxRecDepth 20000 in
theorem ggX5_pass_X5_holds : GoodIn wsX5_pass wsX5_holds := goodIn_r _ [9, 10, 11, 12, 13, 14, 15, 16, 17, 18, 19, 20, 21, 22, 23, 24, 25, 26, 27, 28] (by decide +kernel) (by decide +kernel)
set_option maxRecDepth 20000 in
theorem gX5_pass_X5_holds : GoodIn wsX5_pass (wsV RX5 64 RX5 yX5_holds wsX5_holds) := goodIn_app (goodIn_of _ (by decide +kernel)) ggX5_pass_X5_holds
theorem dX5_pass_0 : decode cX5_pass 0 = .ok (.aload_n 0, 1) := by decide +kernel
theorem dX5_pass_1 : decode cX5_pass 1 = .ok (.iload_n 1, 1) := by decide +kernel
theorem dX5_pass_2 : decode cX5_pass 2 = .ok (.iconst 1, 1) := by decide +kernel
theorem dX5_pass_3 : decode cX5_pass 3 = .ok (.sipush 20000, 3) := by decide +kernel
theorem dX5_pass_6 : decode cX5_pass 6 = .ok (.invokestatic 60, 3) := by decide +kernel
theorem dX5_pass_9 : decode cX5_pass 9 = .ok (.ifCond .ne 7, 3) := by decide +kernel
theorem dX5_pass_12 : decode cX5_pass 12 = .ok (.iconst 1, 1) := by decide +kernel
theorem dX5_pass_13 : decode cX5_pass 13 = .ok (.goto 20, 3) := by decide +kernel
theorem dX5_pass_16 : decode cX5_pass 16 = .ok (.aload_n 0, 1) := by decide +kernel
theorem dX5_pass_17 : decode cX5_pass 17 = .ok (.getfield 78, 3) := by decide +kernel
theorem dX5_pass_20 : decode cX5_pass 20 = .ok (.iload_n 1, 1) := by decide +kernel
theorem dX5_pass_21 : decode cX5_pass 21 = .ok (.iadd, 1) := by decide +kernel
theorem dX5_pass_22 : decode cX5_pass 22 = .ok (.sipush 20000, 3) := by decide +kernel
theorem dX5_pass_25 : decode cX5_pass 25 = .ok (.if_icmp .le 7, 3) := by decide +kernel
theorem dX5_pass_28 : decode cX5_pass 28 = .ok (.iconst 2, 1) := by decide +kernel
theorem dX5_pass_29 : decode cX5_pass 29 = .ok (.goto 4, 3) := by decide +kernel
theorem dX5_pass_32 : decode cX5_pass 32 = .ok (.iconst 0, 1) := by decide +kernel
theorem dX5_pass_33 : decode cX5_pass 33 = .ok (.invokevirtual 64, 3) := by decide +kernel
theorem dX5_pass_36 : decode cX5_pass 36 = .ok (.ifCond .ne 5, 3) := by decide +kernel
theorem dX5_pass_39 : decode cX5_pass 39 = .ok (.iconst 0, 1) := by decide +kernel
theorem dX5_pass_40 : decode cX5_pass 40 = .ok (.ireturn, 1) := by decide +kernel
theorem dX5_pass_41 : decode cX5_pass 41 = .ok (.aload_n 0, 1) := by decide +kernel
theorem dX5_pass_42 : decode cX5_pass 42 = .ok (.dup, 1) := by decide +kernel
theorem dX5_pass_43 : decode cX5_pass 43 = .ok (.getfield 78, 3) := by decide +kernel
theorem dX5_pass_46 : decode cX5_pass 46 = .ok (.iload_n 1, 1) := by decide +kernel
theorem dX5_pass_47 : decode cX5_pass 47 = .ok (.iadd, 1) := by decide +kernel
theorem dX5_pass_48 : decode cX5_pass 48 = .ok (.putfield 78, 3) := by decide +kernel
theorem dX5_pass_51 : decode cX5_pass 51 = .ok (.aload_n 0, 1) := by decide +kernel
theorem dX5_pass_52 : decode cX5_pass 52 = .ok (.getfield 78, 3) := by decide +kernel
theorem dX5_pass_55 : decode cX5_pass 55 = .ok (.ireturn, 1) := by decide +kernel
theorem dX5_today_0 : decode cX5_today 0 = .ok (.aload_n 0, 1) := by decide +kernel
theorem dX5_today_1 : decode cX5_today 1 = .ok (.iconst 0, 1) := by decide +kernel
theorem dX5_today_2 : decode cX5_today 2 = .ok (.putfield 50, 3) := by decide +kernel
theorem dX5_today_5 : decode cX5_today 5 = .ok (.aload_n 0, 1) := by decide +kernel
theorem dX5_today_6 : decode cX5_today 6 = .ok (.getfield 78, 3) := by decide +kernel
theorem dX5_today_9 : decode cX5_today 9 = .ok (.ireturn, 1) := by decide +kernel
set_option maxRecDepth 20000 in
theorem ggX5_isSubscribed_X5_isPackage : GoodIn wsX5_isSubscribed wsX5_isPackage := goodIn_r _ [6, 7, 31, 32, 33, 34, 35, 36, 37, 38, 39, 40, 41, 42, 43, 44, 45, 46, 47, 48] (by decide +kernel) (by decide +kernel)
set_option maxRecDepth 20000 in
theorem gX5_isSubscribed_X5_isPackage : GoodIn wsX5_isSubscribed (wsV RX5 81 RX5 yX5_isPackage wsX5_isPackage) := goodIn_app (goodIn_of _ (by decide +kernel)) ggX5_isSubscribed_X5_isPackage
set_option maxRecDepth 20000 in
theorem ggX5_isSubscribed_X5_isBetween : GoodIn wsX5_isSubscribed wsX5_isBetween := goodIn_r _ [10] (by decide +kernel) (by decide +kernel)
set_option maxRecDepth 20000 in
theorem gX5_isSubscribed_X5_isBetween : GoodIn wsX5_isSubscribed (va_wsS RX5 60 yX5_isBetween wsX5_isBetween) := goodIn_app (goodIn_of _ (by decide +kernel)) ggX5_isSubscribed_X5_isBetween
set_option maxRecDepth 20000 in
theorem ggX5_isSubscribed_X5_holds : GoodIn wsX5_isSubscribed wsX5_holds := goodIn_r _ [14, 15, 31, 32, 33, 34, 35, 36, 37, 38, 39, 40, 41, 42, 43, 44, 45, 46, 47, 48] (by decide +kernel) (by decide +kernel)
set_option maxRecDepth 20000 in
theorem gX5_isSubscribed_X5_holds : GoodIn wsX5_isSubscribed (wsV RX5 64 RX5 yX5_holds wsX5_holds) := goodIn_app (goodIn_of _ (by decide +kernel)) ggX5_isSubscribed_X5_holds
set_option maxRecDepth 20000 in
theorem ggX5_isSubscribed_X5_subscription : GoodIn wsX5_isSubscribed wsX5_subscription := goodIn_r _ [18] (by decide +kernel) (by decide +kernel)
set_option maxRecDepth 20000 in
theorem gX5_isSubscribed_X5_subscription : GoodIn wsX5_isSubscribed (va_wsS RX5 84 yX5_subscription wsX5_subscription) := goodIn_app (goodIn_of _ (by decide +kernel)) ggX5_isSubscribed_X5_subscription
set_option maxRecDepth 20000 in
theorem ggX5_isSubscribed_X5_isSo : GoodIn wsX5_isSubscribed wsX5_isSo := goodIn_r _ [22, 23, 24, 25, 26, 5, 27, 28, 29, 30, 31, 32, 33, 34, 35, 36, 37, 38, 39, 40, 41, 42, 43, 44, 45, 46, 47, 48] (by decide +kernel) (by decide +kernel)
set_option maxRecDepth 20000 in
theorem gX5_isSubscribed_X5_isSo : GoodIn wsX5_isSubscribed (wsV RX5 92 RX5 yX5_isSo wsX5_isSo) := goodIn_app (goodIn_of _ (by decide +kernel)) ggX5_isSubscribed_X5_isSo
theorem dX5_isSubscribed_0 : decode cX5_isSubscribed 0 = .ok (.aload_n 0, 1) := by decide +kernel
theorem dX5_isSubscribed_1 : decode cX5_isSubscribed 1 = .ok (.aload_n 0, 1) := by decide +kernel
theorem dX5_isSubscribed_2 : decode cX5_isSubscribed 2 = .ok (.iload_n 1, 1) := by decide +kernel
theorem dX5_isSubscribed_3 : decode cX5_isSubscribed 3 = .ok (.invokevirtual 81, 3) := by decide +kernel
theorem dX5_isSubscribed_6 : decode cX5_isSubscribed 6 = .ok (.ifCond .ne 7, 3) := by decide +kernel
theorem dX5_isSubscribed_9 : decode cX5_isSubscribed 9 = .ok (.iconst 1, 1) := by decide +kernel
theorem dX5_isSubscribed_10 : decode cX5_isSubscribed 10 = .ok (.goto 20, 3) := by decide +kernel
theorem dX5_isSubscribed_13 : decode cX5_isSubscribed 13 = .ok (.iload_n 2, 1) := by decide +kernel
theorem dX5_isSubscribed_14 : decode cX5_isSubscribed 14 = .ok (.iconst 0, 1) := by decide +kernel
theorem dX5_isSubscribed_15 : decode cX5_isSubscribed 15 = .ok (.aload_n 0, 1) := by decide +kernel
theorem dX5_isSubscribed_16 : decode cX5_isSubscribed 16 = .ok (.getfield 78, 3) := by decide +kernel
theorem dX5_isSubscribed_19 : decode cX5_isSubscribed 19 = .ok (.invokestatic 60, 3) := by decide +kernel
theorem dX5_isSubscribed_22 : decode cX5_isSubscribed 22 = .ok (.ifCond .eq 7, 3) := by decide +kernel
theorem dX5_isSubscribed_25 : decode cX5_isSubscribed 25 = .ok (.iconst 0, 1) := by decide +kernel
theorem dX5_isSubscribed_26 : decode cX5_isSubscribed 26 = .ok (.goto 4, 3) := by decide +kernel
theorem dX5_isSubscribed_29 : decode cX5_isSubscribed 29 = .ok (.iconst 2, 1) := by decide +kernel
theorem dX5_isSubscribed_30 : decode cX5_isSubscribed 30 = .ok (.invokevirtual 64, 3) := by decide +kernel
theorem dX5_isSubscribed_33 : decode cX5_isSubscribed 33 = .ok (.ifCond .eq 19, 3) := by decide +kernel
theorem dX5_isSubscribed_36 : decode cX5_isSubscribed 36 = .ok (.aload_n 0, 1) := by decide +kernel
theorem dX5_isSubscribed_37 : decode cX5_isSubscribed 37 = .ok (.iload_n 1, 1) := by decide +kernel
theorem dX5_isSubscribed_38 : decode cX5_isSubscribed 38 = .ok (.invokestatic 84, 3) := by decide +kernel
theorem dX5_isSubscribed_41 : decode cX5_isSubscribed 41 = .ok (.iload_n 2, 1) := by decide +kernel
theorem dX5_isSubscribed_42 : decode cX5_isSubscribed 42 = .ok (.invokevirtual 92, 3) := by decide +kernel
theorem dX5_isSubscribed_45 : decode cX5_isSubscribed 45 = .ok (.ifCond .eq 7, 3) := by decide +kernel
theorem dX5_isSubscribed_48 : decode cX5_isSubscribed 48 = .ok (.iconst 1, 1) := by decide +kernel
theorem dX5_isSubscribed_49 : decode cX5_isSubscribed 49 = .ok (.goto 4, 3) := by decide +kernel
theorem dX5_isSubscribed_52 : decode cX5_isSubscribed 52 = .ok (.iconst 0, 1) := by decide +kernel
theorem dX5_isSubscribed_53 : decode cX5_isSubscribed 53 = .ok (.ireturn, 1) := by decide +kernel
set_option maxRecDepth 20000 in
theorem ggX5_isIn_X5_isPackage : GoodIn wsX5_isIn wsX5_isPackage := goodIn_r _ [6, 7, 33, 34, 35, 36, 37, 38, 39, 40, 41, 42, 43, 44, 45, 46, 47, 48, 49, 50] (by decide +kernel) (by decide +kernel)
set_option maxRecDepth 20000 in
theorem gX5_isIn_X5_isPackage : GoodIn wsX5_isIn (wsV RX5 81 RX5 yX5_isPackage wsX5_isPackage) := goodIn_app (goodIn_of _ (by decide +kernel)) ggX5_isIn_X5_isPackage
set_option maxRecDepth 20000 in
theorem ggX5_isIn_X5_isTitle : GoodIn wsX5_isIn wsX5_isTitle := goodIn_r _ [11, 12, 33, 34, 35, 36, 37, 38, 39, 40, 41, 42, 43, 44, 45, 46, 47, 48, 49, 50] (by decide +kernel) (by decide +kernel)
set_option maxRecDepth 20000 in
theorem gX5_isIn_X5_isTitle : GoodIn wsX5_isIn (wsV RX5 68 RX5 yX5_isTitle wsX5_isTitle) := goodIn_app (goodIn_of _ (by decide +kernel)) ggX5_isIn_X5_isTitle
set_option maxRecDepth 20000 in
theorem ggX5_isIn_X5_isBetween : GoodIn wsX5_isIn wsX5_isBetween := goodIn_r _ [15] (by decide +kernel) (by decide +kernel)
set_option maxRecDepth 20000 in
theorem gX5_isIn_X5_isBetween : GoodIn wsX5_isIn (va_wsS RX5 60 yX5_isBetween wsX5_isBetween) := goodIn_app (goodIn_of _ (by decide +kernel)) ggX5_isIn_X5_isBetween
set_option maxRecDepth 20000 in
theorem ggX5_isIn_X5_holds : GoodIn wsX5_isIn wsX5_holds := goodIn_r _ [19, 20, 33, 34, 35, 36, 37, 38, 39, 40, 41, 42, 43, 44, 45, 46, 47, 48, 49, 50] (by decide +kernel) (by decide +kernel)
set_option maxRecDepth 20000 in
theorem gX5_isIn_X5_holds : GoodIn wsX5_isIn (wsV RX5 64 RX5 yX5_holds wsX5_holds) := goodIn_app (goodIn_of _ (by decide +kernel)) ggX5_isIn_X5_holds
set_option maxRecDepth 20000 in
theorem ggX5_isIn_X5_isSo : GoodIn wsX5_isIn wsX5_isSo := goodIn_r _ [24, 25, 26, 27, 28, 5, 29, 30, 31, 32, 33, 34, 35, 36, 37, 38, 39, 40, 41, 42, 43, 44, 45, 46, 47, 48, 49, 50] (by decide +kernel) (by decide +kernel)
set_option maxRecDepth 20000 in
theorem gX5_isIn_X5_isSo : GoodIn wsX5_isIn (wsV RX5 92 RX5 yX5_isSo wsX5_isSo) := goodIn_app (goodIn_of _ (by decide +kernel)) ggX5_isIn_X5_isSo
theorem dX5_isIn_0 : decode cX5_isIn 0 = .ok (.aload_n 0, 1) := by decide +kernel
theorem dX5_isIn_1 : decode cX5_isIn 1 = .ok (.aload_n 0, 1) := by decide +kernel
theorem dX5_isIn_2 : decode cX5_isIn 2 = .ok (.iload_n 1, 1) := by decide +kernel
theorem dX5_isIn_3 : decode cX5_isIn 3 = .ok (.invokevirtual 81, 3) := by decide +kernel
theorem dX5_isIn_6 : decode cX5_isIn 6 = .ok (.ifCond .eq 11, 3) := by decide +kernel
theorem dX5_isIn_9 : decode cX5_isIn 9 = .ok (.aload_n 0, 1) := by decide +kernel
theorem dX5_isIn_10 : decode cX5_isIn 10 = .ok (.iload_n 2, 1) := by decide +kernel
theorem dX5_isIn_11 : decode cX5_isIn 11 = .ok (.invokevirtual 68, 3) := by decide +kernel
theorem dX5_isIn_14 : decode cX5_isIn 14 = .ok (.ifCond .ne 7, 3) := by decide +kernel
theorem dX5_isIn_17 : decode cX5_isIn 17 = .ok (.iconst 1, 1) := by decide +kernel
theorem dX5_isIn_18 : decode cX5_isIn 18 = .ok (.goto 20, 3) := by decide +kernel
theorem dX5_isIn_21 : decode cX5_isIn 21 = .ok (.iload_n 3, 1) := by decide +kernel
theorem dX5_isIn_22 : decode cX5_isIn 22 = .ok (.iconst 0, 1) := by decide +kernel
theorem dX5_isIn_23 : decode cX5_isIn 23 = .ok (.aload_n 0, 1) := by decide +kernel
theorem dX5_isIn_24 : decode cX5_isIn 24 = .ok (.getfield 78, 3) := by decide +kernel
theorem dX5_isIn_27 : decode cX5_isIn 27 = .ok (.invokestatic 60, 3) := by decide +kernel
theorem dX5_isIn_30 : decode cX5_isIn 30 = .ok (.ifCond .eq 7, 3) := by decide +kernel
theorem dX5_isIn_33 : decode cX5_isIn 33 = .ok (.iconst 0, 1) := by decide +kernel
theorem dX5_isIn_34 : decode cX5_isIn 34 = .ok (.goto 4, 3) := by decide +kernel
theorem dX5_isIn_37 : decode cX5_isIn 37 = .ok (.iconst 2, 1) := by decide +kernel
theorem dX5_isIn_38 : decode cX5_isIn 38 = .ok (.invokevirtual 64, 3) := by decide +kernel
theorem dX5_isIn_41 : decode cX5_isIn 41 = .ok (.ifCond .eq 21, 3) := by decide +kernel
theorem dX5_isIn_44 : decode cX5_isIn 44 = .ok (.aload_n 0, 1) := by decide +kernel
theorem dX5_isIn_45 : decode cX5_isIn 45 = .ok (.bipush 21, 2) := by decide +kernel
theorem dX5_isIn_47 : decode cX5_isIn 47 = .ok (.iload_n 1, 1) := by decide +kernel
theorem dX5_isIn_48 : decode cX5_isIn 48 = .ok (.imul, 1) := by decide +kernel
theorem dX5_isIn_49 : decode cX5_isIn 49 = .ok (.iload_n 2, 1) := by decide +kernel
theorem dX5_isIn_50 : decode cX5_isIn 50 = .ok (.iadd, 1) := by decide +kernel
theorem dX5_isIn_51 : decode cX5_isIn 51 = .ok (.iload_n 3, 1) := by decide +kernel
theorem dX5_isIn_52 : decode cX5_isIn 52 = .ok (.invokevirtual 92, 3) := by decide +kernel
theorem dX5_isIn_55 : decode cX5_isIn 55 = .ok (.ifCond .eq 7, 3) := by decide +kernel
theorem dX5_isIn_58 : decode cX5_isIn 58 = .ok (.iconst 1, 1) := by decide +kernel
theorem dX5_isIn_59 : decode cX5_isIn 59 = .ok (.goto 4, 3) := by decide +kernel
theorem dX5_isIn_62 : decode cX5_isIn 62 = .ok (.iconst 0, 1) := by decide +kernel
theorem dX5_isIn_63 : decode cX5_isIn 63 = .ok (.ireturn, 1) := by decide +kernel
set_option maxRecDepth 20000 in
theorem ggX5_report_X5_isPackage : GoodIn wsX5_report wsX5_isPackage := goodIn_r _ [6, 7, 18, 19, 20, 21, 22, 23, 24, 25, 26, 27, 28, 29, 30, 31, 32, 33, 34, 35] (by decide +kernel) (by decide +kernel)
set_option maxRecDepth 20000 in
theorem gX5_report_X5_isPackage : GoodIn wsX5_report (wsV RX5 81 RX5 yX5_isPackage wsX5_isPackage) := goodIn_app (goodIn_of _ (by decide +kernel)) ggX5_report_X5_isPackage
set_option maxRecDepth 20000 in
theorem ggX5_report_X5_isTitle : GoodIn wsX5_report wsX5_isTitle := goodIn_r _ [11, 12, 18, 19, 20, 21, 22, 23, 24, 25, 26, 27, 28, 29, 30, 31, 32, 33, 34, 35] (by decide +kernel) (by decide +kernel)
set_option maxRecDepth 20000 in
theorem gX5_report_X5_isTitle : GoodIn wsX5_report (wsV RX5 68 RX5 yX5_isTitle wsX5_isTitle) := goodIn_app (goodIn_of _ (by decide +kernel)) ggX5_report_X5_isTitle
set_option maxRecDepth 20000 in
theorem ggX5_report_X5_holds : GoodIn wsX5_report wsX5_holds := goodIn_r _ [16, 17, 18, 19, 20, 21, 22, 23, 24, 25, 26, 27, 28, 29, 30, 31, 32, 33, 34, 35] (by decide +kernel) (by decide +kernel)
set_option maxRecDepth 20000 in
theorem gX5_report_X5_holds : GoodIn wsX5_report (wsV RX5 64 RX5 yX5_holds wsX5_holds) := goodIn_app (goodIn_of _ (by decide +kernel)) ggX5_report_X5_holds
theorem dX5_report_0 : decode cX5_report 0 = .ok (.aload_n 0, 1) := by decide +kernel
theorem dX5_report_1 : decode cX5_report 1 = .ok (.aload_n 0, 1) := by decide +kernel
theorem dX5_report_2 : decode cX5_report 2 = .ok (.iload_n 1, 1) := by decide +kernel
theorem dX5_report_3 : decode cX5_report 3 = .ok (.invokevirtual 81, 3) := by decide +kernel
theorem dX5_report_6 : decode cX5_report 6 = .ok (.ifCond .eq 15, 3) := by decide +kernel
theorem dX5_report_9 : decode cX5_report 9 = .ok (.aload_n 0, 1) := by decide +kernel
theorem dX5_report_10 : decode cX5_report 10 = .ok (.iload_n 2, 1) := by decide +kernel
theorem dX5_report_11 : decode cX5_report 11 = .ok (.invokevirtual 68, 3) := by decide +kernel
theorem dX5_report_14 : decode cX5_report 14 = .ok (.ifCond .eq 7, 3) := by decide +kernel
theorem dX5_report_17 : decode cX5_report 17 = .ok (.iconst 0, 1) := by decide +kernel
theorem dX5_report_18 : decode cX5_report 18 = .ok (.goto 4, 3) := by decide +kernel
theorem dX5_report_21 : decode cX5_report 21 = .ok (.iconst 1, 1) := by decide +kernel
theorem dX5_report_22 : decode cX5_report 22 = .ok (.invokevirtual 64, 3) := by decide +kernel
theorem dX5_report_25 : decode cX5_report 25 = .ok (.ifCond .ne 5, 3) := by decide +kernel
theorem dX5_report_28 : decode cX5_report 28 = .ok (.iconst 0, 1) := by decide +kernel
theorem dX5_report_29 : decode cX5_report 29 = .ok (.ireturn, 1) := by decide +kernel
theorem dX5_report_30 : decode cX5_report 30 = .ok (.aload_n 0, 1) := by decide +kernel
theorem dX5_report_31 : decode cX5_report 31 = .ok (.getfield 29, 3) := by decide +kernel
theorem dX5_report_34 : decode cX5_report 34 = .ok (.bipush 20, 2) := by decide +kernel
theorem dX5_report_36 : decode cX5_report 36 = .ok (.iload_n 1, 1) := by decide +kernel
theorem dX5_report_37 : decode cX5_report 37 = .ok (.imul, 1) := by decide +kernel
theorem dX5_report_38 : decode cX5_report 38 = .ok (.iload_n 2, 1) := by decide +kernel
theorem dX5_report_39 : decode cX5_report 39 = .ok (.iadd, 1) := by decide +kernel
theorem dX5_report_40 : decode cX5_report 40 = .ok (.dup2, 1) := by decide +kernel
theorem dX5_report_41 : decode cX5_report 41 = .ok (.iaload, 1) := by decide +kernel
theorem dX5_report_42 : decode cX5_report 42 = .ok (.iconst 1, 1) := by decide +kernel
theorem dX5_report_43 : decode cX5_report 43 = .ok (.iadd, 1) := by decide +kernel
theorem dX5_report_44 : decode cX5_report 44 = .ok (.iastore, 1) := by decide +kernel
theorem dX5_report_45 : decode cX5_report 45 = .ok (.aload_n 0, 1) := by decide +kernel
theorem dX5_report_46 : decode cX5_report 46 = .ok (.getfield 29, 3) := by decide +kernel
theorem dX5_report_49 : decode cX5_report 49 = .ok (.bipush 20, 2) := by decide +kernel
theorem dX5_report_51 : decode cX5_report 51 = .ok (.iload_n 1, 1) := by decide +kernel
theorem dX5_report_52 : decode cX5_report 52 = .ok (.imul, 1) := by decide +kernel
theorem dX5_report_53 : decode cX5_report 53 = .ok (.iload_n 2, 1) := by decide +kernel
theorem dX5_report_54 : decode cX5_report 54 = .ok (.iadd, 1) := by decide +kernel
theorem dX5_report_55 : decode cX5_report 55 = .ok (.iaload, 1) := by decide +kernel
theorem dX5_report_56 : decode cX5_report 56 = .ok (.ireturn, 1) := by decide +kernel
set_option maxRecDepth 20000 in
theorem ggX5_mend_X5_isPackage : GoodIn wsX5_mend wsX5_isPackage := goodIn_r _ [6, 7, 18, 19, 20, 21, 22, 23, 24, 25, 26, 27, 28, 29, 30, 31, 32, 33, 34, 35] (by decide +kernel) (by decide +kernel)
set_option maxRecDepth 20000 in
theorem gX5_mend_X5_isPackage : GoodIn wsX5_mend (wsV RX5 81 RX5 yX5_isPackage wsX5_isPackage) := goodIn_app (goodIn_of _ (by decide +kernel)) ggX5_mend_X5_isPackage
set_option maxRecDepth 20000 in
theorem ggX5_mend_X5_isTitle : GoodIn wsX5_mend wsX5_isTitle := goodIn_r _ [11, 12, 18, 19, 20, 21, 22, 23, 24, 25, 26, 27, 28, 29, 30, 31, 32, 33, 34, 35] (by decide +kernel) (by decide +kernel)
set_option maxRecDepth 20000 in
theorem gX5_mend_X5_isTitle : GoodIn wsX5_mend (wsV RX5 68 RX5 yX5_isTitle wsX5_isTitle) := goodIn_app (goodIn_of _ (by decide +kernel)) ggX5_mend_X5_isTitle
set_option maxRecDepth 20000 in
theorem ggX5_mend_X5_holds : GoodIn wsX5_mend wsX5_holds := goodIn_r _ [16, 17, 18, 19, 20, 21, 22, 23, 24, 25, 26, 27, 28, 29, 30, 31, 32, 33, 34, 35] (by decide +kernel) (by decide +kernel)
set_option maxRecDepth 20000 in
theorem gX5_mend_X5_holds : GoodIn wsX5_mend (wsV RX5 64 RX5 yX5_holds wsX5_holds) := goodIn_app (goodIn_of _ (by decide +kernel)) ggX5_mend_X5_holds
theorem dX5_mend_0 : decode cX5_mend 0 = .ok (.aload_n 0, 1) := by decide +kernel
theorem dX5_mend_1 : decode cX5_mend 1 = .ok (.aload_n 0, 1) := by decide +kernel
theorem dX5_mend_2 : decode cX5_mend 2 = .ok (.iload_n 1, 1) := by decide +kernel
theorem dX5_mend_3 : decode cX5_mend 3 = .ok (.invokevirtual 81, 3) := by decide +kernel
theorem dX5_mend_6 : decode cX5_mend 6 = .ok (.ifCond .eq 15, 3) := by decide +kernel
theorem dX5_mend_9 : decode cX5_mend 9 = .ok (.aload_n 0, 1) := by decide +kernel
theorem dX5_mend_10 : decode cX5_mend 10 = .ok (.iload_n 2, 1) := by decide +kernel
theorem dX5_mend_11 : decode cX5_mend 11 = .ok (.invokevirtual 68, 3) := by decide +kernel
theorem dX5_mend_14 : decode cX5_mend 14 = .ok (.ifCond .eq 7, 3) := by decide +kernel
theorem dX5_mend_17 : decode cX5_mend 17 = .ok (.iconst 0, 1) := by decide +kernel
theorem dX5_mend_18 : decode cX5_mend 18 = .ok (.goto 4, 3) := by decide +kernel
theorem dX5_mend_21 : decode cX5_mend 21 = .ok (.iconst 1, 1) := by decide +kernel
theorem dX5_mend_22 : decode cX5_mend 22 = .ok (.invokevirtual 64, 3) := by decide +kernel
theorem dX5_mend_25 : decode cX5_mend 25 = .ok (.ifCond .ne 5, 3) := by decide +kernel
theorem dX5_mend_28 : decode cX5_mend 28 = .ok (.iconst 0, 1) := by decide +kernel
theorem dX5_mend_29 : decode cX5_mend 29 = .ok (.ireturn, 1) := by decide +kernel
theorem dX5_mend_30 : decode cX5_mend 30 = .ok (.aload_n 0, 1) := by decide +kernel
theorem dX5_mend_31 : decode cX5_mend 31 = .ok (.getfield 29, 3) := by decide +kernel
theorem dX5_mend_34 : decode cX5_mend 34 = .ok (.bipush 20, 2) := by decide +kernel
theorem dX5_mend_36 : decode cX5_mend 36 = .ok (.iload_n 1, 1) := by decide +kernel
theorem dX5_mend_37 : decode cX5_mend 37 = .ok (.imul, 1) := by decide +kernel
theorem dX5_mend_38 : decode cX5_mend 38 = .ok (.iload_n 2, 1) := by decide +kernel
theorem dX5_mend_39 : decode cX5_mend 39 = .ok (.iadd, 1) := by decide +kernel
theorem dX5_mend_40 : decode cX5_mend 40 = .ok (.iaload, 1) := by decide +kernel
theorem dX5_mend_41 : decode cX5_mend 41 = .ok (.istore_n 3, 1) := by decide +kernel
theorem dX5_mend_42 : decode cX5_mend 42 = .ok (.aload_n 0, 1) := by decide +kernel
theorem dX5_mend_43 : decode cX5_mend 43 = .ok (.getfield 29, 3) := by decide +kernel
theorem dX5_mend_46 : decode cX5_mend 46 = .ok (.bipush 20, 2) := by decide +kernel
theorem dX5_mend_48 : decode cX5_mend 48 = .ok (.iload_n 1, 1) := by decide +kernel
theorem dX5_mend_49 : decode cX5_mend 49 = .ok (.imul, 1) := by decide +kernel
theorem dX5_mend_50 : decode cX5_mend 50 = .ok (.iload_n 2, 1) := by decide +kernel
theorem dX5_mend_51 : decode cX5_mend 51 = .ok (.iadd, 1) := by decide +kernel
theorem dX5_mend_52 : decode cX5_mend 52 = .ok (.iconst 0, 1) := by decide +kernel
theorem dX5_mend_53 : decode cX5_mend 53 = .ok (.iastore, 1) := by decide +kernel
theorem dX5_mend_54 : decode cX5_mend 54 = .ok (.iload_n 3, 1) := by decide +kernel
theorem dX5_mend_55 : decode cX5_mend 55 = .ok (.ireturn, 1) := by decide +kernel
set_option maxRecDepth 20000 in
theorem ggX5_has_X5_changeOn : GoodIn wsX5_has wsX5_changeOn := goodIn_r _ [9, 10, 11, 12, 23, 24, 25, 26, 27, 28, 29, 30, 31, 32, 33, 34, 35, 36, 37, 38, 39, 40] (by decide +kernel) (by decide +kernel)
set_option maxRecDepth 20000 in
theorem gX5_has_X5_changeOn : GoodIn wsX5_has (wsV RX5 74 RX5 yX5_changeOn wsX5_changeOn) := goodIn_app (goodIn_of _ (by decide +kernel)) ggX5_has_X5_changeOn
set_option maxRecDepth 20000 in
theorem ggX5_has_X5_isBetween : GoodIn wsX5_has wsX5_isBetween := goodIn_r _ [15] (by decide +kernel) (by decide +kernel)
set_option maxRecDepth 20000 in
theorem gX5_has_X5_isBetween : GoodIn wsX5_has (va_wsS RX5 60 yX5_isBetween wsX5_isBetween) := goodIn_app (goodIn_of _ (by decide +kernel)) ggX5_has_X5_isBetween
set_option maxRecDepth 20000 in
theorem ggX5_has_X5_subscription : GoodIn wsX5_has wsX5_subscription := goodIn_r _ [18] (by decide +kernel) (by decide +kernel)
set_option maxRecDepth 20000 in
theorem gX5_has_X5_subscription : GoodIn wsX5_has (va_wsS RX5 84 yX5_subscription wsX5_subscription) := goodIn_app (goodIn_of _ (by decide +kernel)) ggX5_has_X5_subscription
set_option maxRecDepth 20000 in
theorem ggX5_has_X5_isSo : GoodIn wsX5_has wsX5_isSo := goodIn_r _ [22, 1, 5, 6, 7, 8, 9, 10, 11, 12, 23, 24, 25, 26, 27, 28, 29, 30, 31, 32, 33, 34, 35, 36, 37, 38, 39, 40] (by decide +kernel) (by decide +kernel)
set_option maxRecDepth 20000 in
theorem gX5_has_X5_isSo : GoodIn wsX5_has (wsV RX5 92 RX5 yX5_isSo wsX5_isSo) := goodIn_app (goodIn_of _ (by decide +kernel)) ggX5_has_X5_isSo
theorem dX5_has_0 : decode cX5_has 0 = .ok (.aload_n 0, 1) := by decide +kernel
theorem dX5_has_1 : decode cX5_has 1 = .ok (.bipush 21, 2) := by decide +kernel
theorem dX5_has_3 : decode cX5_has 3 = .ok (.iload_n 1, 1) := by decide +kernel
theorem dX5_has_4 : decode cX5_has 4 = .ok (.imul, 1) := by decide +kernel
theorem dX5_has_5 : decode cX5_has 5 = .ok (.iload_n 2, 1) := by decide +kernel
theorem dX5_has_6 : decode cX5_has 6 = .ok (.iadd, 1) := by decide +kernel
theorem dX5_has_7 : decode cX5_has 7 = .ok (.iload 4, 2) := by decide +kernel
theorem dX5_has_9 : decode cX5_has 9 = .ok (.invokevirtual 74, 3) := by decide +kernel
theorem dX5_has_12 : decode cX5_has 12 = .ok (.istore 6, 2) := by decide +kernel
theorem dX5_has_14 : decode cX5_has 14 = .ok (.iload 6, 2) := by decide +kernel
theorem dX5_has_16 : decode cX5_has 16 = .ok (.iconst (-1), 1) := by decide +kernel
theorem dX5_has_17 : decode cX5_has 17 = .ok (.if_icmp .eq 56, 3) := by decide +kernel
theorem dX5_has_20 : decode cX5_has 20 = .ok (.aload_n 0, 1) := by decide +kernel
theorem dX5_has_21 : decode cX5_has 21 = .ok (.getfield 38, 3) := by decide +kernel
theorem dX5_has_24 : decode cX5_has 24 = .ok (.iload 6, 2) := by decide +kernel
theorem dX5_has_26 : decode cX5_has 26 = .ok (.baload, 1) := by decide +kernel
theorem dX5_has_27 : decode cX5_has 27 = .ok (.ifCond .eq 46, 3) := by decide +kernel
theorem dX5_has_30 : decode cX5_has 30 = .ok (.iload_n 3, 1) := by decide +kernel
theorem dX5_has_31 : decode cX5_has 31 = .ok (.aload_n 0, 1) := by decide +kernel
theorem dX5_has_32 : decode cX5_has 32 = .ok (.getfield 41, 3) := by decide +kernel
theorem dX5_has_35 : decode cX5_has 35 = .ok (.iload 6, 2) := by decide +kernel
theorem dX5_has_37 : decode cX5_has 37 = .ok (.iaload, 1) := by decide +kernel
theorem dX5_has_38 : decode cX5_has 38 = .ok (.aload_n 0, 1) := by decide +kernel
theorem dX5_has_39 : decode cX5_has 39 = .ok (.getfield 44, 3) := by decide +kernel
theorem dX5_has_42 : decode cX5_has 42 = .ok (.iload 6, 2) := by decide +kernel
theorem dX5_has_44 : decode cX5_has 44 = .ok (.iaload, 1) := by decide +kernel
theorem dX5_has_45 : decode cX5_has 45 = .ok (.invokestatic 60, 3) := by decide +kernel
theorem dX5_has_48 : decode cX5_has 48 = .ok (.ifCond .eq 25, 3) := by decide +kernel
theorem dX5_has_51 : decode cX5_has 51 = .ok (.iload_n 3, 1) := by decide +kernel
theorem dX5_has_52 : decode cX5_has 52 = .ok (.iload 5, 2) := by decide +kernel
theorem dX5_has_54 : decode cX5_has 54 = .ok (.sipush 360, 3) := by decide +kernel
theorem dX5_has_57 : decode cX5_has 57 = .ok (.idiv, 1) := by decide +kernel
theorem dX5_has_58 : decode cX5_has 58 = .ok (.aload_n 0, 1) := by decide +kernel
theorem dX5_has_59 : decode cX5_has 59 = .ok (.getfield 47, 3) := by decide +kernel
theorem dX5_has_62 : decode cX5_has 62 = .ok (.iload 6, 2) := by decide +kernel
theorem dX5_has_64 : decode cX5_has 64 = .ok (.iaload, 1) := by decide +kernel
theorem dX5_has_65 : decode cX5_has 65 = .ok (.isub, 1) := by decide +kernel
theorem dX5_has_66 : decode cX5_has 66 = .ok (.if_icmp .gt 7, 3) := by decide +kernel
theorem dX5_has_69 : decode cX5_has 69 = .ok (.iconst 1, 1) := by decide +kernel
theorem dX5_has_70 : decode cX5_has 70 = .ok (.goto 4, 3) := by decide +kernel
theorem dX5_has_73 : decode cX5_has 73 = .ok (.iconst 0, 1) := by decide +kernel
theorem dX5_has_74 : decode cX5_has 74 = .ok (.istore 7, 2) := by decide +kernel
theorem dX5_has_76 : decode cX5_has 76 = .ok (.iload 7, 2) := by decide +kernel
theorem dX5_has_78 : decode cX5_has 78 = .ok (.ifCond .eq 20, 3) := by decide +kernel
theorem dX5_has_81 : decode cX5_has 81 = .ok (.aload_n 0, 1) := by decide +kernel
theorem dX5_has_82 : decode cX5_has 82 = .ok (.iload_n 1, 1) := by decide +kernel
theorem dX5_has_83 : decode cX5_has 83 = .ok (.invokestatic 84, 3) := by decide +kernel
theorem dX5_has_86 : decode cX5_has 86 = .ok (.iload 4, 2) := by decide +kernel
theorem dX5_has_88 : decode cX5_has 88 = .ok (.invokevirtual 92, 3) := by decide +kernel
theorem dX5_has_91 : decode cX5_has 91 = .ok (.ifCond .eq 7, 3) := by decide +kernel
theorem dX5_has_94 : decode cX5_has 94 = .ok (.iconst 1, 1) := by decide +kernel
theorem dX5_has_95 : decode cX5_has 95 = .ok (.goto 4, 3) := by decide +kernel
theorem dX5_has_98 : decode cX5_has 98 = .ok (.iconst 0, 1) := by decide +kernel
theorem dX5_has_99 : decode cX5_has 99 = .ok (.ireturn, 1) := by decide +kernel
set_option maxRecDepth 20000 in
theorem ggX5_isKept_X5_has : GoodIn wsX5_isKept wsX5_has := goodIn_r _ [6, 7, 8, 9, 10, 11, 12, 13, 5, 14, 15, 16, 17, 18, 19, 20, 21, 22, 23, 24, 25, 26, 27, 28, 29, 30, 31, 32, 33, 34, 35, 36, 37, 38, 39, 40, 41, 42, 43, 44, 45] (by decide +kernel) (by decide +kernel)
set_option maxRecDepth 20000 in
theorem gX5_isKept_X5_has : GoodIn wsX5_isKept (wsV RX5 96 RX5 yX5_has wsX5_has) := goodIn_app (goodIn_of _ (by decide +kernel)) ggX5_isKept_X5_has
theorem dX5_isKept_0 : decode cX5_isKept 0 = .ok (.sipush 360, 3) := by decide +kernel
theorem dX5_isKept_3 : decode cX5_isKept 3 = .ok (.iload_n 3, 1) := by decide +kernel
theorem dX5_isKept_4 : decode cX5_isKept 4 = .ok (.imul, 1) := by decide +kernel
theorem dX5_isKept_5 : decode cX5_isKept 5 = .ok (.sipush 360, 3) := by decide +kernel
theorem dX5_isKept_8 : decode cX5_isKept 8 = .ok (.iadd, 1) := by decide +kernel
theorem dX5_isKept_9 : decode cX5_isKept 9 = .ok (.iconst 1, 1) := by decide +kernel
theorem dX5_isKept_10 : decode cX5_isKept 10 = .ok (.isub, 1) := by decide +kernel
theorem dX5_isKept_11 : decode cX5_isKept 11 = .ok (.istore 5, 2) := by decide +kernel
theorem dX5_isKept_13 : decode cX5_isKept 13 = .ok (.aload_n 0, 1) := by decide +kernel
theorem dX5_isKept_14 : decode cX5_isKept 14 = .ok (.getfield 25, 3) := by decide +kernel
theorem dX5_isKept_17 : decode cX5_isKept 17 = .ok (.iload_n 1, 1) := by decide +kernel
theorem dX5_isKept_18 : decode cX5_isKept 18 = .ok (.baload, 1) := by decide +kernel
theorem dX5_isKept_19 : decode cX5_isKept 19 = .ok (.ifCond .eq 28, 3) := by decide +kernel
theorem dX5_isKept_22 : decode cX5_isKept 22 = .ok (.iload 5, 2) := by decide +kernel
theorem dX5_isKept_24 : decode cX5_isKept 24 = .ok (.iload 4, 2) := by decide +kernel
theorem dX5_isKept_26 : decode cX5_isKept 26 = .ok (.if_icmp .ge 21, 3) := by decide +kernel
theorem dX5_isKept_29 : decode cX5_isKept 29 = .ok (.aload_n 0, 1) := by decide +kernel
theorem dX5_isKept_30 : decode cX5_isKept 30 = .ok (.iload_n 1, 1) := by decide +kernel
theorem dX5_isKept_31 : decode cX5_isKept 31 = .ok (.iload_n 2, 1) := by decide +kernel
theorem dX5_isKept_32 : decode cX5_isKept 32 = .ok (.iload_n 3, 1) := by decide +kernel
theorem dX5_isKept_33 : decode cX5_isKept 33 = .ok (.iload 5, 2) := by decide +kernel
theorem dX5_isKept_35 : decode cX5_isKept 35 = .ok (.iload 4, 2) := by decide +kernel
theorem dX5_isKept_37 : decode cX5_isKept 37 = .ok (.invokevirtual 96, 3) := by decide +kernel
theorem dX5_isKept_40 : decode cX5_isKept 40 = .ok (.ifCond .eq 7, 3) := by decide +kernel
theorem dX5_isKept_43 : decode cX5_isKept 43 = .ok (.iconst 1, 1) := by decide +kernel
theorem dX5_isKept_44 : decode cX5_isKept 44 = .ok (.goto 4, 3) := by decide +kernel
theorem dX5_isKept_47 : decode cX5_isKept 47 = .ok (.iconst 0, 1) := by decide +kernel
theorem dX5_isKept_48 : decode cX5_isKept 48 = .ok (.ireturn, 1) := by decide +kernel
set_option maxRecDepth 20000 in
theorem ggX5_isCovered_X5_has : GoodIn wsX5_isCovered wsX5_has := goodIn_r _ [5, 6, 7, 8, 9, 10, 11, 12, 4, 13, 14, 15, 16, 17, 18, 19, 20, 21, 22, 23, 24, 25, 26, 32, 33, 34, 35, 36, 37, 38, 39, 40, 41, 42, 43, 44, 45, 46, 47, 48, 49] (by decide +kernel) (by decide +kernel)
set_option maxRecDepth 20000 in
theorem gX5_isCovered_X5_has : GoodIn wsX5_isCovered (wsV RX5 96 RX5 yX5_has wsX5_has) := goodIn_app (goodIn_of _ (by decide +kernel)) ggX5_isCovered_X5_has
set_option maxRecDepth 20000 in
theorem ggX5_isCovered_X5_isKept : GoodIn wsX5_isCovered wsX5_isKept := goodIn_r _ [30, 31, 1, 2, 3, 4, 5, 6, 7, 8, 9, 10, 11, 12, 13, 14, 15, 16, 17, 18, 19, 20, 21, 22, 23, 24, 25, 26, 32, 33, 34, 35, 36, 37, 38, 39, 40, 41, 42, 43, 44, 45, 46, 47, 48, 49] (by decide +kernel) (by decide +kernel)
set_option maxRecDepth 20000 in
theorem gX5_isCovered_X5_isKept : GoodIn wsX5_isCovered (wsV RX5 100 RX5 yX5_isKept wsX5_isKept) := goodIn_app (goodIn_of _ (by decide +kernel)) ggX5_isCovered_X5_isKept
theorem dX5_isCovered_0 : decode cX5_isCovered 0 = .ok (.aload_n 0, 1) := by decide +kernel
theorem dX5_isCovered_1 : decode cX5_isCovered 1 = .ok (.iload_n 1, 1) := by decide +kernel
theorem dX5_isCovered_2 : decode cX5_isCovered 2 = .ok (.iload_n 2, 1) := by decide +kernel
theorem dX5_isCovered_3 : decode cX5_isCovered 3 = .ok (.iload_n 3, 1) := by decide +kernel
theorem dX5_isCovered_4 : decode cX5_isCovered 4 = .ok (.iload 4, 2) := by decide +kernel
theorem dX5_isCovered_6 : decode cX5_isCovered 6 = .ok (.iload 4, 2) := by decide +kernel
theorem dX5_isCovered_8 : decode cX5_isCovered 8 = .ok (.invokevirtual 96, 3) := by decide +kernel
theorem dX5_isCovered_11 : decode cX5_isCovered 11 = .ok (.ifCond .ne 15, 3) := by decide +kernel
theorem dX5_isCovered_14 : decode cX5_isCovered 14 = .ok (.aload_n 0, 1) := by decide +kernel
theorem dX5_isCovered_15 : decode cX5_isCovered 15 = .ok (.iload_n 1, 1) := by decide +kernel
theorem dX5_isCovered_16 : decode cX5_isCovered 16 = .ok (.iload_n 2, 1) := by decide +kernel
theorem dX5_isCovered_17 : decode cX5_isCovered 17 = .ok (.iload_n 3, 1) := by decide +kernel
theorem dX5_isCovered_18 : decode cX5_isCovered 18 = .ok (.iload 4, 2) := by decide +kernel
theorem dX5_isCovered_20 : decode cX5_isCovered 20 = .ok (.invokevirtual 100, 3) := by decide +kernel
theorem dX5_isCovered_23 : decode cX5_isCovered 23 = .ok (.ifCond .eq 7, 3) := by decide +kernel
theorem dX5_isCovered_26 : decode cX5_isCovered 26 = .ok (.iconst 1, 1) := by decide +kernel
theorem dX5_isCovered_27 : decode cX5_isCovered 27 = .ok (.goto 4, 3) := by decide +kernel
theorem dX5_isCovered_30 : decode cX5_isCovered 30 = .ok (.iconst 0, 1) := by decide +kernel
theorem dX5_isCovered_31 : decode cX5_isCovered 31 = .ok (.ireturn, 1) := by decide +kernel
theorem dX5_lets_0 : decode cX5_lets 0 = .ok (.aload_n 0, 1) := by decide +kernel
theorem dX5_lets_1 : decode cX5_lets 1 = .ok (.getfield 22, 3) := by decide +kernel
theorem dX5_lets_4 : decode cX5_lets 4 = .ok (.iload_n 1, 1) := by decide +kernel
theorem dX5_lets_5 : decode cX5_lets 5 = .ok (.iaload, 1) := by decide +kernel
theorem dX5_lets_6 : decode cX5_lets 6 = .ok (.iload_n 2, 1) := by decide +kernel
theorem dX5_lets_7 : decode cX5_lets 7 = .ok (.ishr, 1) := by decide +kernel
theorem dX5_lets_8 : decode cX5_lets 8 = .ok (.iconst 1, 1) := by decide +kernel
theorem dX5_lets_9 : decode cX5_lets 9 = .ok (.iand, 1) := by decide +kernel
theorem dX5_lets_10 : decode cX5_lets 10 = .ok (.iconst 1, 1) := by decide +kernel
theorem dX5_lets_11 : decode cX5_lets 11 = .ok (.if_icmp .ne 7, 3) := by decide +kernel
theorem dX5_lets_14 : decode cX5_lets 14 = .ok (.iconst 1, 1) := by decide +kernel
theorem dX5_lets_15 : decode cX5_lets 15 = .ok (.goto 4, 3) := by decide +kernel
theorem dX5_lets_18 : decode cX5_lets 18 = .ok (.iconst 0, 1) := by decide +kernel
theorem dX5_lets_19 : decode cX5_lets 19 = .ok (.ireturn, 1) := by decide +kernel
set_option maxRecDepth 20000 in
theorem ggX5_isAsked_X5_isBetween : GoodIn wsX5_isAsked wsX5_isBetween := goodIn_r _ [5] (by decide +kernel) (by decide +kernel)
set_option maxRecDepth 20000 in
theorem gX5_isAsked_X5_isBetween : GoodIn wsX5_isAsked (va_wsS RX5 60 yX5_isBetween wsX5_isBetween) := goodIn_app (goodIn_of _ (by decide +kernel)) ggX5_isAsked_X5_isBetween
theorem dX5_isAsked_0 : decode cX5_isAsked 0 = .ok (.iload_n 1, 1) := by decide +kernel
theorem dX5_isAsked_1 : decode cX5_isAsked 1 = .ok (.iconst 0, 1) := by decide +kernel
theorem dX5_isAsked_2 : decode cX5_isAsked 2 = .ok (.bipush 55, 2) := by decide +kernel
theorem dX5_isAsked_4 : decode cX5_isAsked 4 = .ok (.invokestatic 60, 3) := by decide +kernel
theorem dX5_isAsked_7 : decode cX5_isAsked 7 = .ok (.ifCond .eq 28, 3) := by decide +kernel
theorem dX5_isAsked_10 : decode cX5_isAsked 10 = .ok (.iload_n 2, 1) := by decide +kernel
theorem dX5_isAsked_11 : decode cX5_isAsked 11 = .ok (.iconst 0, 1) := by decide +kernel
theorem dX5_isAsked_12 : decode cX5_isAsked 12 = .ok (.iconst 3, 1) := by decide +kernel
theorem dX5_isAsked_13 : decode cX5_isAsked 13 = .ok (.invokestatic 60, 3) := by decide +kernel
theorem dX5_isAsked_16 : decode cX5_isAsked 16 = .ok (.ifCond .eq 19, 3) := by decide +kernel
theorem dX5_isAsked_19 : decode cX5_isAsked 19 = .ok (.iload_n 3, 1) := by decide +kernel
theorem dX5_isAsked_20 : decode cX5_isAsked 20 = .ok (.iconst 0, 1) := by decide +kernel
theorem dX5_isAsked_21 : decode cX5_isAsked 21 = .ok (.aload_n 0, 1) := by decide +kernel
theorem dX5_isAsked_22 : decode cX5_isAsked 22 = .ok (.getfield 78, 3) := by decide +kernel
theorem dX5_isAsked_25 : decode cX5_isAsked 25 = .ok (.invokestatic 60, 3) := by decide +kernel
theorem dX5_isAsked_28 : decode cX5_isAsked 28 = .ok (.ifCond .eq 7, 3) := by decide +kernel
theorem dX5_isAsked_31 : decode cX5_isAsked 31 = .ok (.iconst 1, 1) := by decide +kernel
theorem dX5_isAsked_32 : decode cX5_isAsked 32 = .ok (.goto 4, 3) := by decide +kernel
theorem dX5_isAsked_35 : decode cX5_isAsked 35 = .ok (.iconst 0, 1) := by decide +kernel
theorem dX5_isAsked_36 : decode cX5_isAsked 36 = .ok (.ireturn, 1) := by decide +kernel
set_option maxRecDepth 20000 in
theorem ggX5_covers_X5_isPackage : GoodIn wsX5_covers wsX5_isPackage := goodIn_r _ [5, 6, 61, 62, 63, 64, 65, 66, 67, 68, 69, 70, 71, 72, 73, 74, 75, 76, 77, 78] (by decide +kernel) (by decide +kernel)
set_option maxRecDepth 20000 in
theorem gX5_covers_X5_isPackage : GoodIn wsX5_covers (wsV RX5 81 RX5 yX5_isPackage wsX5_isPackage) := goodIn_app (goodIn_of _ (by decide +kernel)) ggX5_covers_X5_isPackage
set_option maxRecDepth 20000 in
theorem ggX5_covers_X5_isTitle : GoodIn wsX5_covers wsX5_isTitle := goodIn_r _ [10, 11, 61, 62, 63, 64, 65, 66, 67, 68, 69, 70, 71, 72, 73, 74, 75, 76, 77, 78] (by decide +kernel) (by decide +kernel)
set_option maxRecDepth 20000 in
theorem gX5_covers_X5_isTitle : GoodIn wsX5_covers (wsV RX5 68 RX5 yX5_isTitle wsX5_isTitle) := goodIn_app (goodIn_of _ (by decide +kernel)) ggX5_covers_X5_isTitle
set_option maxRecDepth 20000 in
theorem ggX5_covers_X5_isAsked : GoodIn wsX5_covers wsX5_isAsked := goodIn_r _ [15, 16, 17, 18, 4, 19, 61, 62, 63, 64, 65, 66, 67, 68, 69, 70, 71, 72, 73, 74, 75, 76, 77, 78] (by decide +kernel) (by decide +kernel)
set_option maxRecDepth 20000 in
theorem gX5_covers_X5_isAsked : GoodIn wsX5_covers (wsV RX5 104 RX5 yX5_isAsked wsX5_isAsked) := goodIn_app (goodIn_of _ (by decide +kernel)) ggX5_covers_X5_isAsked
set_option maxRecDepth 20000 in
theorem ggX5_covers_X5_holds : GoodIn wsX5_covers wsX5_holds := goodIn_r _ [23, 24, 61, 62, 63, 64, 65, 66, 67, 68, 69, 70, 71, 72, 73, 74, 75, 76, 77, 78] (by decide +kernel) (by decide +kernel)
set_option maxRecDepth 20000 in
theorem gX5_covers_X5_holds : GoodIn wsX5_covers (wsV RX5 64 RX5 yX5_holds wsX5_holds) := goodIn_app (goodIn_of _ (by decide +kernel)) ggX5_covers_X5_holds
set_option maxRecDepth 20000 in
theorem ggX5_covers_X5_lets : GoodIn wsX5_covers wsX5_lets := goodIn_r _ [28, 29, 61, 62, 63, 64, 65, 66, 67, 68, 69, 70, 71, 72, 73, 74, 75, 76, 77, 78] (by decide +kernel) (by decide +kernel)
set_option maxRecDepth 20000 in
theorem gX5_covers_X5_lets : GoodIn wsX5_covers (wsV RX5 107 RX5 yX5_lets wsX5_lets) := goodIn_app (goodIn_of _ (by decide +kernel)) ggX5_covers_X5_lets
set_option maxRecDepth 20000 in
theorem ggX5_covers_X5_isCovered : GoodIn wsX5_covers wsX5_isCovered := goodIn_r _ [33, 34, 35, 36, 4, 37, 38, 39, 40, 41, 42, 43, 44, 45, 46, 47, 48, 17, 18, 19, 49, 50, 51, 52, 53, 54, 55, 56, 57, 58, 59, 60, 61, 62, 63, 64, 65, 66, 67, 68, 69, 70, 71, 72, 73, 74, 75, 76, 77, 78] (by decide +kernel) (by decide +kernel)
set_option maxRecDepth 20000 in
theorem gX5_covers_X5_isCovered : GoodIn wsX5_covers (wsV RX5 110 RX5 yX5_isCovered wsX5_isCovered) := goodIn_app (goodIn_of _ (by decide +kernel)) ggX5_covers_X5_isCovered
theorem dX5_covers_0 : decode cX5_covers 0 = .ok (.aload_n 0, 1) := by decide +kernel
theorem dX5_covers_1 : decode cX5_covers 1 = .ok (.iload_n 1, 1) := by decide +kernel
theorem dX5_covers_2 : decode cX5_covers 2 = .ok (.invokevirtual 81, 3) := by decide +kernel
theorem dX5_covers_5 : decode cX5_covers 5 = .ok (.ifCond .eq 15, 3) := by decide +kernel
theorem dX5_covers_8 : decode cX5_covers 8 = .ok (.aload_n 0, 1) := by decide +kernel
theorem dX5_covers_9 : decode cX5_covers 9 = .ok (.iload_n 2, 1) := by decide +kernel
theorem dX5_covers_10 : decode cX5_covers 10 = .ok (.invokevirtual 68, 3) := by decide +kernel
theorem dX5_covers_13 : decode cX5_covers 13 = .ok (.ifCond .eq 7, 3) := by decide +kernel
theorem dX5_covers_16 : decode cX5_covers 16 = .ok (.iconst 1, 1) := by decide +kernel
theorem dX5_covers_17 : decode cX5_covers 17 = .ok (.goto 4, 3) := by decide +kernel
theorem dX5_covers_20 : decode cX5_covers 20 = .ok (.iconst 0, 1) := by decide +kernel
theorem dX5_covers_21 : decode cX5_covers 21 = .ok (.istore 6, 2) := by decide +kernel
theorem dX5_covers_23 : decode cX5_covers 23 = .ok (.aload_n 0, 1) := by decide +kernel
theorem dX5_covers_24 : decode cX5_covers 24 = .ok (.iload 6, 2) := by decide +kernel
theorem dX5_covers_26 : decode cX5_covers 26 = .ok (.ifCond .ne 7, 3) := by decide +kernel
theorem dX5_covers_29 : decode cX5_covers 29 = .ok (.iconst 1, 1) := by decide +kernel
theorem dX5_covers_30 : decode cX5_covers 30 = .ok (.goto 20, 3) := by decide +kernel
theorem dX5_covers_33 : decode cX5_covers 33 = .ok (.aload_n 0, 1) := by decide +kernel
theorem dX5_covers_34 : decode cX5_covers 34 = .ok (.iload_n 3, 1) := by decide +kernel
theorem dX5_covers_35 : decode cX5_covers 35 = .ok (.iload 4, 2) := by decide +kernel
theorem dX5_covers_37 : decode cX5_covers 37 = .ok (.iload 5, 2) := by decide +kernel
theorem dX5_covers_39 : decode cX5_covers 39 = .ok (.invokevirtual 104, 3) := by decide +kernel
theorem dX5_covers_42 : decode cX5_covers 42 = .ok (.ifCond .eq 7, 3) := by decide +kernel
theorem dX5_covers_45 : decode cX5_covers 45 = .ok (.iconst 0, 1) := by decide +kernel
theorem dX5_covers_46 : decode cX5_covers 46 = .ok (.goto 4, 3) := by decide +kernel
theorem dX5_covers_49 : decode cX5_covers 49 = .ok (.iconst 2, 1) := by decide +kernel
theorem dX5_covers_50 : decode cX5_covers 50 = .ok (.invokevirtual 64, 3) := by decide +kernel
theorem dX5_covers_53 : decode cX5_covers 53 = .ok (.ifCond .eq 29, 3) := by decide +kernel
theorem dX5_covers_56 : decode cX5_covers 56 = .ok (.aload_n 0, 1) := by decide +kernel
theorem dX5_covers_57 : decode cX5_covers 57 = .ok (.iload_n 1, 1) := by decide +kernel
theorem dX5_covers_58 : decode cX5_covers 58 = .ok (.iload 4, 2) := by decide +kernel
theorem dX5_covers_60 : decode cX5_covers 60 = .ok (.invokevirtual 107, 3) := by decide +kernel
theorem dX5_covers_63 : decode cX5_covers 63 = .ok (.ifCond .eq 19, 3) := by decide +kernel
theorem dX5_covers_66 : decode cX5_covers 66 = .ok (.aload_n 0, 1) := by decide +kernel
theorem dX5_covers_67 : decode cX5_covers 67 = .ok (.iload_n 1, 1) := by decide +kernel
theorem dX5_covers_68 : decode cX5_covers 68 = .ok (.iload_n 2, 1) := by decide +kernel
theorem dX5_covers_69 : decode cX5_covers 69 = .ok (.iload_n 3, 1) := by decide +kernel
theorem dX5_covers_70 : decode cX5_covers 70 = .ok (.iload 5, 2) := by decide +kernel
theorem dX5_covers_72 : decode cX5_covers 72 = .ok (.invokevirtual 110, 3) := by decide +kernel
theorem dX5_covers_75 : decode cX5_covers 75 = .ok (.ifCond .eq 7, 3) := by decide +kernel
theorem dX5_covers_78 : decode cX5_covers 78 = .ok (.iconst 1, 1) := by decide +kernel
theorem dX5_covers_79 : decode cX5_covers 79 = .ok (.goto 4, 3) := by decide +kernel
theorem dX5_covers_82 : decode cX5_covers 82 = .ok (.iconst 0, 1) := by decide +kernel
theorem dX5_covers_83 : decode cX5_covers 83 = .ok (.ireturn, 1) := by decide +kernel
set_option maxRecDepth 20000 in
theorem ggX5_waysTo_X5_lets : GoodIn wsX5_waysTo wsX5_lets := goodIn_r _ [6, 7, 42, 43, 44, 45, 46, 47, 48, 49, 50, 51, 52, 53, 54, 55, 56, 57, 58, 59] (by decide +kernel) (by decide +kernel)
set_option maxRecDepth 20000 in
theorem gX5_waysTo_X5_lets : GoodIn wsX5_waysTo (wsV RX5 107 RX5 yX5_lets wsX5_lets) := goodIn_app (goodIn_of _ (by decide +kernel)) ggX5_waysTo_X5_lets
set_option maxRecDepth 20000 in
theorem ggX5_waysTo_X5_isCovered : GoodIn wsX5_waysTo wsX5_isCovered := goodIn_r _ [11, 12, 13, 14, 5, 15, 16, 17, 18, 19, 20, 21, 22, 23, 24, 25, 26, 27, 28, 29, 30, 31, 32, 33, 34, 35, 36, 37, 38, 39, 40, 41, 42, 43, 44, 45, 46, 47, 48, 49, 50, 51, 52, 53, 54, 55, 56, 57, 58, 59] (by decide +kernel) (by decide +kernel)
set_option maxRecDepth 20000 in
theorem gX5_waysTo_X5_isCovered : GoodIn wsX5_waysTo (wsV RX5 110 RX5 yX5_isCovered wsX5_isCovered) := goodIn_app (goodIn_of _ (by decide +kernel)) ggX5_waysTo_X5_isCovered
theorem dX5_waysTo_0 : decode cX5_waysTo 0 = .ok (.iconst 0, 1) := by decide +kernel
theorem dX5_waysTo_1 : decode cX5_waysTo 1 = .ok (.istore 5, 2) := by decide +kernel
theorem dX5_waysTo_3 : decode cX5_waysTo 3 = .ok (.iconst 0, 1) := by decide +kernel
theorem dX5_waysTo_4 : decode cX5_waysTo 4 = .ok (.istore 6, 2) := by decide +kernel
theorem dX5_waysTo_6 : decode cX5_waysTo 6 = .ok (.iload 6, 2) := by decide +kernel
theorem dX5_waysTo_8 : decode cX5_waysTo 8 = .ok (.aload_n 0, 1) := by decide +kernel
theorem dX5_waysTo_9 : decode cX5_waysTo 9 = .ok (.getfield 57, 3) := by decide +kernel
theorem dX5_waysTo_12 : decode cX5_waysTo 12 = .ok (.if_icmp .ge 42, 3) := by decide +kernel
theorem dX5_waysTo_15 : decode cX5_waysTo 15 = .ok (.iload 5, 2) := by decide +kernel
theorem dX5_waysTo_17 : decode cX5_waysTo 17 = .ok (.aload_n 0, 1) := by decide +kernel
theorem dX5_waysTo_18 : decode cX5_waysTo 18 = .ok (.iload 6, 2) := by decide +kernel
theorem dX5_waysTo_20 : decode cX5_waysTo 20 = .ok (.iload_n 3, 1) := by decide +kernel
theorem dX5_waysTo_21 : decode cX5_waysTo 21 = .ok (.invokevirtual 107, 3) := by decide +kernel
theorem dX5_waysTo_24 : decode cX5_waysTo 24 = .ok (.ifCond .eq 20, 3) := by decide +kernel
theorem dX5_waysTo_27 : decode cX5_waysTo 27 = .ok (.aload_n 0, 1) := by decide +kernel
theorem dX5_waysTo_28 : decode cX5_waysTo 28 = .ok (.iload 6, 2) := by decide +kernel
theorem dX5_waysTo_30 : decode cX5_waysTo 30 = .ok (.iload_n 1, 1) := by decide +kernel
theorem dX5_waysTo_31 : decode cX5_waysTo 31 = .ok (.iload_n 2, 1) := by decide +kernel
theorem dX5_waysTo_32 : decode cX5_waysTo 32 = .ok (.iload 4, 2) := by decide +kernel
theorem dX5_waysTo_34 : decode cX5_waysTo 34 = .ok (.invokevirtual 110, 3) := by decide +kernel
theorem dX5_waysTo_37 : decode cX5_waysTo 37 = .ok (.ifCond .eq 7, 3) := by decide +kernel
theorem dX5_waysTo_40 : decode cX5_waysTo 40 = .ok (.iconst 1, 1) := by decide +kernel
theorem dX5_waysTo_41 : decode cX5_waysTo 41 = .ok (.goto 4, 3) := by decide +kernel
theorem dX5_waysTo_44 : decode cX5_waysTo 44 = .ok (.iconst 0, 1) := by decide +kernel
theorem dX5_waysTo_45 : decode cX5_waysTo 45 = .ok (.iadd, 1) := by decide +kernel
theorem dX5_waysTo_46 : decode cX5_waysTo 46 = .ok (.istore 5, 2) := by decide +kernel
theorem dX5_waysTo_48 : decode cX5_waysTo 48 = .ok (.iinc 6 1, 3) := by decide +kernel
theorem dX5_waysTo_51 : decode cX5_waysTo 51 = .ok (.goto (-45), 3) := by decide +kernel
theorem dX5_waysTo_54 : decode cX5_waysTo 54 = .ok (.iload 5, 2) := by decide +kernel
theorem dX5_waysTo_56 : decode cX5_waysTo 56 = .ok (.ireturn, 1) := by decide +kernel
set_option maxRecDepth 20000 in
theorem ggX5_ways_X5_isTitle : GoodIn wsX5_ways wsX5_isTitle := goodIn_r _ [5, 6, 61, 62, 63, 64, 65, 66, 67, 68, 69, 70, 71, 72, 73, 74, 75, 76, 77, 78] (by decide +kernel) (by decide +kernel)
set_option maxRecDepth 20000 in
theorem gX5_ways_X5_isTitle : GoodIn wsX5_ways (wsV RX5 68 RX5 yX5_isTitle wsX5_isTitle) := goodIn_app (goodIn_of _ (by decide +kernel)) ggX5_ways_X5_isTitle
set_option maxRecDepth 20000 in
theorem ggX5_ways_X5_isAsked : GoodIn wsX5_ways wsX5_isAsked := goodIn_r _ [10, 11, 12, 13, 4, 14, 61, 62, 63, 64, 65, 66, 67, 68, 69, 70, 71, 72, 73, 74, 75, 76, 77, 78] (by decide +kernel) (by decide +kernel)
set_option maxRecDepth 20000 in
theorem gX5_ways_X5_isAsked : GoodIn wsX5_ways (wsV RX5 104 RX5 yX5_isAsked wsX5_isAsked) := goodIn_app (goodIn_of _ (by decide +kernel)) ggX5_ways_X5_isAsked
set_option maxRecDepth 20000 in
theorem ggX5_ways_X5_holds : GoodIn wsX5_ways wsX5_holds := goodIn_r _ [18, 19, 61, 62, 63, 64, 65, 66, 67, 68, 69, 70, 71, 72, 73, 74, 75, 76, 77, 78] (by decide +kernel) (by decide +kernel)
set_option maxRecDepth 20000 in
theorem gX5_ways_X5_holds : GoodIn wsX5_ways (wsV RX5 64 RX5 yX5_holds wsX5_holds) := goodIn_app (goodIn_of _ (by decide +kernel)) ggX5_ways_X5_holds
set_option maxRecDepth 20000 in
theorem ggX5_ways_X5_waysTo : GoodIn wsX5_ways wsX5_waysTo := goodIn_r _ [23, 24, 25, 26, 27, 4, 28, 29, 30, 31, 32, 33, 34, 35, 36, 37, 38, 39, 40, 41, 42, 43, 44, 45, 46, 47, 48, 12, 13, 14, 49, 50, 51, 52, 53, 54, 55, 56, 57, 58, 59, 60, 61, 62, 63, 64, 65, 66, 67, 68, 69, 70, 71, 72, 73, 74, 75, 76, 77, 78] (by decide +kernel) (by decide +kernel)
set_option maxRecDepth 20000 in
theorem gX5_ways_X5_waysTo : GoodIn wsX5_ways (wsV RX5 113 RX5 yX5_waysTo wsX5_waysTo) := goodIn_app (goodIn_of _ (by decide +kernel)) ggX5_ways_X5_waysTo
theorem dX5_ways_0 : decode cX5_ways 0 = .ok (.aload_n 0, 1) := by decide +kernel
theorem dX5_ways_1 : decode cX5_ways 1 = .ok (.aload_n 0, 1) := by decide +kernel
theorem dX5_ways_2 : decode cX5_ways 2 = .ok (.iload_n 1, 1) := by decide +kernel
theorem dX5_ways_3 : decode cX5_ways 3 = .ok (.invokevirtual 68, 3) := by decide +kernel
theorem dX5_ways_6 : decode cX5_ways 6 = .ok (.ifCond .ne 7, 3) := by decide +kernel
theorem dX5_ways_9 : decode cX5_ways 9 = .ok (.iconst 1, 1) := by decide +kernel
theorem dX5_ways_10 : decode cX5_ways 10 = .ok (.goto 19, 3) := by decide +kernel
theorem dX5_ways_13 : decode cX5_ways 13 = .ok (.aload_n 0, 1) := by decide +kernel
theorem dX5_ways_14 : decode cX5_ways 14 = .ok (.iload_n 2, 1) := by decide +kernel
theorem dX5_ways_15 : decode cX5_ways 15 = .ok (.iload_n 3, 1) := by decide +kernel
theorem dX5_ways_16 : decode cX5_ways 16 = .ok (.iload 4, 2) := by decide +kernel
theorem dX5_ways_18 : decode cX5_ways 18 = .ok (.invokevirtual 104, 3) := by decide +kernel
theorem dX5_ways_21 : decode cX5_ways 21 = .ok (.ifCond .eq 7, 3) := by decide +kernel
theorem dX5_ways_24 : decode cX5_ways 24 = .ok (.iconst 0, 1) := by decide +kernel
theorem dX5_ways_25 : decode cX5_ways 25 = .ok (.goto 4, 3) := by decide +kernel
theorem dX5_ways_28 : decode cX5_ways 28 = .ok (.iconst 2, 1) := by decide +kernel
theorem dX5_ways_29 : decode cX5_ways 29 = .ok (.invokevirtual 64, 3) := by decide +kernel
theorem dX5_ways_32 : decode cX5_ways 32 = .ok (.ifCond .eq 15, 3) := by decide +kernel
theorem dX5_ways_35 : decode cX5_ways 35 = .ok (.aload_n 0, 1) := by decide +kernel
theorem dX5_ways_36 : decode cX5_ways 36 = .ok (.iload_n 1, 1) := by decide +kernel
theorem dX5_ways_37 : decode cX5_ways 37 = .ok (.iload_n 2, 1) := by decide +kernel
theorem dX5_ways_38 : decode cX5_ways 38 = .ok (.iload_n 3, 1) := by decide +kernel
theorem dX5_ways_39 : decode cX5_ways 39 = .ok (.iload 4, 2) := by decide +kernel
theorem dX5_ways_41 : decode cX5_ways 41 = .ok (.invokevirtual 113, 3) := by decide +kernel
theorem dX5_ways_44 : decode cX5_ways 44 = .ok (.goto 4, 3) := by decide +kernel
theorem dX5_ways_47 : decode cX5_ways 47 = .ok (.iconst 0, 1) := by decide +kernel
theorem dX5_ways_48 : decode cX5_ways 48 = .ok (.ireturn, 1) := by decide +kernel
theorem dX5_isAhead_0 : decode cX5_isAhead 0 = .ok (.aload_n 0, 1) := by decide +kernel
theorem dX5_isAhead_1 : decode cX5_isAhead 1 = .ok (.getfield 29, 3) := by decide +kernel
theorem dX5_isAhead_4 : decode cX5_isAhead 4 = .ok (.bipush 20, 2) := by decide +kernel
theorem dX5_isAhead_6 : decode cX5_isAhead 6 = .ok (.iload_n 1, 1) := by decide +kernel
theorem dX5_isAhead_7 : decode cX5_isAhead 7 = .ok (.imul, 1) := by decide +kernel
theorem dX5_isAhead_8 : decode cX5_isAhead 8 = .ok (.iload_n 3, 1) := by decide +kernel
theorem dX5_isAhead_9 : decode cX5_isAhead 9 = .ok (.iadd, 1) := by decide +kernel
theorem dX5_isAhead_10 : decode cX5_isAhead 10 = .ok (.iaload, 1) := by decide +kernel
theorem dX5_isAhead_11 : decode cX5_isAhead 11 = .ok (.iconst 1, 1) := by decide +kernel
theorem dX5_isAhead_12 : decode cX5_isAhead 12 = .ok (.if_icmp .le 7, 3) := by decide +kernel
theorem dX5_isAhead_15 : decode cX5_isAhead 15 = .ok (.iconst 1, 1) := by decide +kernel
theorem dX5_isAhead_16 : decode cX5_isAhead 16 = .ok (.goto 4, 3) := by decide +kernel
theorem dX5_isAhead_19 : decode cX5_isAhead 19 = .ok (.iconst 0, 1) := by decide +kernel
theorem dX5_isAhead_20 : decode cX5_isAhead 20 = .ok (.istore 4, 2) := by decide +kernel
theorem dX5_isAhead_22 : decode cX5_isAhead 22 = .ok (.aload_n 0, 1) := by decide +kernel
theorem dX5_isAhead_23 : decode cX5_isAhead 23 = .ok (.getfield 29, 3) := by decide +kernel
theorem dX5_isAhead_26 : decode cX5_isAhead 26 = .ok (.bipush 20, 2) := by decide +kernel
theorem dX5_isAhead_28 : decode cX5_isAhead 28 = .ok (.iload_n 2, 1) := by decide +kernel
theorem dX5_isAhead_29 : decode cX5_isAhead 29 = .ok (.imul, 1) := by decide +kernel
theorem dX5_isAhead_30 : decode cX5_isAhead 30 = .ok (.iload_n 3, 1) := by decide +kernel
theorem dX5_isAhead_31 : decode cX5_isAhead 31 = .ok (.iadd, 1) := by decide +kernel
theorem dX5_isAhead_32 : decode cX5_isAhead 32 = .ok (.iaload, 1) := by decide +kernel
theorem dX5_isAhead_33 : decode cX5_isAhead 33 = .ok (.iconst 1, 1) := by decide +kernel
theorem dX5_isAhead_34 : decode cX5_isAhead 34 = .ok (.if_icmp .le 7, 3) := by decide +kernel
theorem dX5_isAhead_37 : decode cX5_isAhead 37 = .ok (.iconst 1, 1) := by decide +kernel
theorem dX5_isAhead_38 : decode cX5_isAhead 38 = .ok (.goto 4, 3) := by decide +kernel
theorem dX5_isAhead_41 : decode cX5_isAhead 41 = .ok (.iconst 0, 1) := by decide +kernel
theorem dX5_isAhead_42 : decode cX5_isAhead 42 = .ok (.istore 5, 2) := by decide +kernel
theorem dX5_isAhead_44 : decode cX5_isAhead 44 = .ok (.iload 4, 2) := by decide +kernel
theorem dX5_isAhead_46 : decode cX5_isAhead 46 = .ok (.iload 5, 2) := by decide +kernel
theorem dX5_isAhead_48 : decode cX5_isAhead 48 = .ok (.if_icmp .eq 6, 3) := by decide +kernel
theorem dX5_isAhead_51 : decode cX5_isAhead 51 = .ok (.iload 5, 2) := by decide +kernel
theorem dX5_isAhead_53 : decode cX5_isAhead 53 = .ok (.ireturn, 1) := by decide +kernel
theorem dX5_isAhead_54 : decode cX5_isAhead 54 = .ok (.aload_n 0, 1) := by decide +kernel
theorem dX5_isAhead_55 : decode cX5_isAhead 55 = .ok (.getfield 16, 3) := by decide +kernel
theorem dX5_isAhead_58 : decode cX5_isAhead 58 = .ok (.iload_n 1, 1) := by decide +kernel
theorem dX5_isAhead_59 : decode cX5_isAhead 59 = .ok (.iaload, 1) := by decide +kernel
theorem dX5_isAhead_60 : decode cX5_isAhead 60 = .ok (.aload_n 0, 1) := by decide +kernel
theorem dX5_isAhead_61 : decode cX5_isAhead 61 = .ok (.getfield 16, 3) := by decide +kernel
theorem dX5_isAhead_64 : decode cX5_isAhead 64 = .ok (.iload_n 2, 1) := by decide +kernel
theorem dX5_isAhead_65 : decode cX5_isAhead 65 = .ok (.iaload, 1) := by decide +kernel
theorem dX5_isAhead_66 : decode cX5_isAhead 66 = .ok (.if_icmp .eq 24, 3) := by decide +kernel
theorem dX5_isAhead_69 : decode cX5_isAhead 69 = .ok (.aload_n 0, 1) := by decide +kernel
theorem dX5_isAhead_70 : decode cX5_isAhead 70 = .ok (.getfield 16, 3) := by decide +kernel
theorem dX5_isAhead_73 : decode cX5_isAhead 73 = .ok (.iload_n 1, 1) := by decide +kernel
theorem dX5_isAhead_74 : decode cX5_isAhead 74 = .ok (.iaload, 1) := by decide +kernel
theorem dX5_isAhead_75 : decode cX5_isAhead 75 = .ok (.aload_n 0, 1) := by decide +kernel
theorem dX5_isAhead_76 : decode cX5_isAhead 76 = .ok (.getfield 16, 3) := by decide +kernel
theorem dX5_isAhead_79 : decode cX5_isAhead 79 = .ok (.iload_n 2, 1) := by decide +kernel
theorem dX5_isAhead_80 : decode cX5_isAhead 80 = .ok (.iaload, 1) := by decide +kernel
theorem dX5_isAhead_81 : decode cX5_isAhead 81 = .ok (.if_icmp .ge 7, 3) := by decide +kernel
theorem dX5_isAhead_84 : decode cX5_isAhead 84 = .ok (.iconst 1, 1) := by decide +kernel
theorem dX5_isAhead_85 : decode cX5_isAhead 85 = .ok (.goto 4, 3) := by decide +kernel
theorem dX5_isAhead_88 : decode cX5_isAhead 88 = .ok (.iconst 0, 1) := by decide +kernel
theorem dX5_isAhead_89 : decode cX5_isAhead 89 = .ok (.ireturn, 1) := by decide +kernel
theorem dX5_isAhead_90 : decode cX5_isAhead 90 = .ok (.aload_n 0, 1) := by decide +kernel
theorem dX5_isAhead_91 : decode cX5_isAhead 91 = .ok (.getfield 19, 3) := by decide +kernel
theorem dX5_isAhead_94 : decode cX5_isAhead 94 = .ok (.iload_n 1, 1) := by decide +kernel
theorem dX5_isAhead_95 : decode cX5_isAhead 95 = .ok (.iaload, 1) := by decide +kernel
theorem dX5_isAhead_96 : decode cX5_isAhead 96 = .ok (.aload_n 0, 1) := by decide +kernel
theorem dX5_isAhead_97 : decode cX5_isAhead 97 = .ok (.getfield 19, 3) := by decide +kernel
theorem dX5_isAhead_100 : decode cX5_isAhead 100 = .ok (.iload_n 2, 1) := by decide +kernel
theorem dX5_isAhead_101 : decode cX5_isAhead 101 = .ok (.iaload, 1) := by decide +kernel
theorem dX5_isAhead_102 : decode cX5_isAhead 102 = .ok (.if_icmp .lt 23, 3) := by decide +kernel
theorem dX5_isAhead_105 : decode cX5_isAhead 105 = .ok (.aload_n 0, 1) := by decide +kernel
theorem dX5_isAhead_106 : decode cX5_isAhead 106 = .ok (.getfield 19, 3) := by decide +kernel
theorem dX5_isAhead_109 : decode cX5_isAhead 109 = .ok (.iload_n 1, 1) := by decide +kernel
theorem dX5_isAhead_110 : decode cX5_isAhead 110 = .ok (.iaload, 1) := by decide +kernel
theorem dX5_isAhead_111 : decode cX5_isAhead 111 = .ok (.aload_n 0, 1) := by decide +kernel
theorem dX5_isAhead_112 : decode cX5_isAhead 112 = .ok (.getfield 19, 3) := by decide +kernel
theorem dX5_isAhead_115 : decode cX5_isAhead 115 = .ok (.iload_n 2, 1) := by decide +kernel
theorem dX5_isAhead_116 : decode cX5_isAhead 116 = .ok (.iaload, 1) := by decide +kernel
theorem dX5_isAhead_117 : decode cX5_isAhead 117 = .ok (.if_icmp .ne 12, 3) := by decide +kernel
theorem dX5_isAhead_120 : decode cX5_isAhead 120 = .ok (.iload_n 1, 1) := by decide +kernel
theorem dX5_isAhead_121 : decode cX5_isAhead 121 = .ok (.iload_n 2, 1) := by decide +kernel
theorem dX5_isAhead_122 : decode cX5_isAhead 122 = .ok (.if_icmp .ge 7, 3) := by decide +kernel
theorem dX5_isAhead_125 : decode cX5_isAhead 125 = .ok (.iconst 1, 1) := by decide +kernel
theorem dX5_isAhead_126 : decode cX5_isAhead 126 = .ok (.goto 4, 3) := by decide +kernel
theorem dX5_isAhead_129 : decode cX5_isAhead 129 = .ok (.iconst 0, 1) := by decide +kernel
theorem dX5_isAhead_130 : decode cX5_isAhead 130 = .ok (.ireturn, 1) := by decide +kernel
set_option maxRecDepth 20000 in
theorem ggX5_wayAt_X5_isAsked : GoodIn wsX5_wayAt wsX5_isAsked := goodIn_r _ [6, 7, 8, 9, 5, 10, 68, 69, 70, 71, 72, 73, 74, 75, 76, 77, 78, 79, 80, 81, 82, 83, 84, 85] (by decide +kernel) (by decide +kernel)
set_option maxRecDepth 20000 in
theorem gX5_wayAt_X5_isAsked : GoodIn wsX5_wayAt (wsV RX5 104 RX5 yX5_isAsked wsX5_isAsked) := goodIn_app (goodIn_of _ (by decide +kernel)) ggX5_wayAt_X5_isAsked
set_option maxRecDepth 20000 in
theorem ggX5_wayAt_X5_isTitle : GoodIn wsX5_wayAt wsX5_isTitle := goodIn_r _ [14, 15, 68, 69, 70, 71, 72, 73, 74, 75, 76, 77, 78, 79, 80, 81, 82, 83, 84, 85] (by decide +kernel) (by decide +kernel)
set_option maxRecDepth 20000 in
theorem gX5_wayAt_X5_isTitle : GoodIn wsX5_wayAt (wsV RX5 68 RX5 yX5_isTitle wsX5_isTitle) := goodIn_app (goodIn_of _ (by decide +kernel)) ggX5_wayAt_X5_isTitle
set_option maxRecDepth 20000 in
theorem ggX5_wayAt_X5_waysTo : GoodIn wsX5_wayAt wsX5_waysTo := goodIn_r _ [19, 1, 20, 21, 22, 5, 23, 24, 25, 26, 27, 28, 29, 30, 31, 32, 33, 34, 35, 36, 37, 38, 39, 40, 41, 42, 43, 8, 9, 10, 44, 45, 46, 47, 48, 49, 50, 51, 52, 53, 54, 55, 68, 69, 70, 71, 72, 73, 74, 75, 76, 77, 78, 79, 80, 81, 82, 83, 84, 85] (by decide +kernel) (by decide +kernel)
set_option maxRecDepth 20000 in
theorem gX5_wayAt_X5_waysTo : GoodIn wsX5_wayAt (wsV RX5 113 RX5 yX5_waysTo wsX5_waysTo) := goodIn_app (goodIn_of _ (by decide +kernel)) ggX5_wayAt_X5_waysTo
set_option maxRecDepth 20000 in
theorem ggX5_wayAt_X5_holds : GoodIn wsX5_wayAt wsX5_holds := goodIn_r _ [59, 60, 68, 69, 70, 71, 72, 73, 74, 75, 76, 77, 78, 79, 80, 81, 82, 83, 84, 85] (by decide +kernel) (by decide +kernel)
set_option maxRecDepth 20000 in
theorem gX5_wayAt_X5_holds : GoodIn wsX5_wayAt (wsV RX5 64 RX5 yX5_holds wsX5_holds) := goodIn_app (goodIn_of _ (by decide +kernel)) ggX5_wayAt_X5_holds
set_option maxRecDepth 20000 in
theorem ggX5_wayAt_X5_isAhead : GoodIn wsX5_wayAt wsX5_isAhead := goodIn_r _ [64, 65, 66, 67, 68, 69, 70, 71, 72, 73, 74, 75, 76, 77, 78, 79, 80, 81, 82, 83, 84, 85] (by decide +kernel) (by decide +kernel)
set_option maxRecDepth 20000 in
theorem gX5_wayAt_X5_isAhead : GoodIn wsX5_wayAt (wsV RX5 117 RX5 yX5_isAhead wsX5_isAhead) := goodIn_app (goodIn_of _ (by decide +kernel)) ggX5_wayAt_X5_isAhead
set_option maxRecDepth 20000 in
theorem ggX5_wayAt_X5_lets : GoodIn wsX5_wayAt wsX5_lets := goodIn_r _ [23, 24, 68, 69, 70, 71, 72, 73, 74, 75, 76, 77, 78, 79, 80, 81, 82, 83, 84, 85] (by decide +kernel) (by decide +kernel)
set_option maxRecDepth 20000 in
theorem gX5_wayAt_X5_lets : GoodIn wsX5_wayAt (wsV RX5 107 RX5 yX5_lets wsX5_lets) := goodIn_app (goodIn_of _ (by decide +kernel)) ggX5_wayAt_X5_lets
set_option maxRecDepth 20000 in
theorem ggX5_wayAt_X5_isCovered : GoodIn wsX5_wayAt wsX5_isCovered := goodIn_r _ [28, 29, 30, 31, 5, 32, 33, 34, 35, 36, 37, 38, 39, 40, 41, 42, 43, 8, 9, 10, 44, 45, 46, 47, 48, 49, 50, 51, 52, 53, 54, 55, 68, 69, 70, 71, 72, 73, 74, 75, 76, 77, 78, 79, 80, 81, 82, 83, 84, 85] (by decide +kernel) (by decide +kernel)
set_option maxRecDepth 20000 in
theorem gX5_wayAt_X5_isCovered : GoodIn wsX5_wayAt (wsV RX5 110 RX5 yX5_isCovered wsX5_isCovered) := goodIn_app (goodIn_of _ (by decide +kernel)) ggX5_wayAt_X5_isCovered
theorem dX5_wayAt_0 : decode cX5_wayAt 0 = .ok (.aload_n 0, 1) := by decide +kernel
theorem dX5_wayAt_1 : decode cX5_wayAt 1 = .ok (.iload_n 3, 1) := by decide +kernel
theorem dX5_wayAt_2 : decode cX5_wayAt 2 = .ok (.iload 4, 2) := by decide +kernel
theorem dX5_wayAt_4 : decode cX5_wayAt 4 = .ok (.iload 5, 2) := by decide +kernel
theorem dX5_wayAt_6 : decode cX5_wayAt 6 = .ok (.invokevirtual 104, 3) := by decide +kernel
theorem dX5_wayAt_9 : decode cX5_wayAt 9 = .ok (.istore 6, 2) := by decide +kernel
theorem dX5_wayAt_11 : decode cX5_wayAt 11 = .ok (.iload 6, 2) := by decide +kernel
theorem dX5_wayAt_13 : decode cX5_wayAt 13 = .ok (.ifCond .eq 33, 3) := by decide +kernel
theorem dX5_wayAt_16 : decode cX5_wayAt 16 = .ok (.aload_n 0, 1) := by decide +kernel
theorem dX5_wayAt_17 : decode cX5_wayAt 17 = .ok (.iload_n 2, 1) := by decide +kernel
theorem dX5_wayAt_18 : decode cX5_wayAt 18 = .ok (.invokevirtual 68, 3) := by decide +kernel
theorem dX5_wayAt_21 : decode cX5_wayAt 21 = .ok (.ifCond .eq 25, 3) := by decide +kernel
theorem dX5_wayAt_24 : decode cX5_wayAt 24 = .ok (.iload_n 1, 1) := by decide +kernel
theorem dX5_wayAt_25 : decode cX5_wayAt 25 = .ok (.ifCond .lt 21, 3) := by decide +kernel
theorem dX5_wayAt_28 : decode cX5_wayAt 28 = .ok (.iload_n 1, 1) := by decide +kernel
theorem dX5_wayAt_29 : decode cX5_wayAt 29 = .ok (.aload_n 0, 1) := by decide +kernel
theorem dX5_wayAt_30 : decode cX5_wayAt 30 = .ok (.iload_n 2, 1) := by decide +kernel
theorem dX5_wayAt_31 : decode cX5_wayAt 31 = .ok (.iload_n 3, 1) := by decide +kernel
theorem dX5_wayAt_32 : decode cX5_wayAt 32 = .ok (.iload 4, 2) := by decide +kernel
theorem dX5_wayAt_34 : decode cX5_wayAt 34 = .ok (.iload 5, 2) := by decide +kernel
theorem dX5_wayAt_36 : decode cX5_wayAt 36 = .ok (.invokevirtual 113, 3) := by decide +kernel
theorem dX5_wayAt_39 : decode cX5_wayAt 39 = .ok (.if_icmp .ge 7, 3) := by decide +kernel
theorem dX5_wayAt_42 : decode cX5_wayAt 42 = .ok (.iconst 1, 1) := by decide +kernel
theorem dX5_wayAt_43 : decode cX5_wayAt 43 = .ok (.goto 4, 3) := by decide +kernel
theorem dX5_wayAt_46 : decode cX5_wayAt 46 = .ok (.iconst 0, 1) := by decide +kernel
theorem dX5_wayAt_47 : decode cX5_wayAt 47 = .ok (.istore 7, 2) := by decide +kernel
theorem dX5_wayAt_49 : decode cX5_wayAt 49 = .ok (.aload_n 0, 1) := by decide +kernel
theorem dX5_wayAt_50 : decode cX5_wayAt 50 = .ok (.iload 6, 2) := by decide +kernel
theorem dX5_wayAt_52 : decode cX5_wayAt 52 = .ok (.ifCond .ne 7, 3) := by decide +kernel
theorem dX5_wayAt_55 : decode cX5_wayAt 55 = .ok (.iconst 1, 1) := by decide +kernel
theorem dX5_wayAt_56 : decode cX5_wayAt 56 = .ok (.goto 13, 3) := by decide +kernel
theorem dX5_wayAt_59 : decode cX5_wayAt 59 = .ok (.iload 7, 2) := by decide +kernel
theorem dX5_wayAt_61 : decode cX5_wayAt 61 = .ok (.ifCond .eq 7, 3) := by decide +kernel
theorem dX5_wayAt_64 : decode cX5_wayAt 64 = .ok (.iconst 0, 1) := by decide +kernel
theorem dX5_wayAt_65 : decode cX5_wayAt 65 = .ok (.goto 4, 3) := by decide +kernel
theorem dX5_wayAt_68 : decode cX5_wayAt 68 = .ok (.iconst 2, 1) := by decide +kernel
theorem dX5_wayAt_69 : decode cX5_wayAt 69 = .ok (.invokevirtual 64, 3) := by decide +kernel
theorem dX5_wayAt_72 : decode cX5_wayAt 72 = .ok (.ifCond .ne 5, 3) := by decide +kernel
theorem dX5_wayAt_75 : decode cX5_wayAt 75 = .ok (.iconst 0, 1) := by decide +kernel
theorem dX5_wayAt_76 : decode cX5_wayAt 76 = .ok (.ireturn, 1) := by decide +kernel
theorem dX5_wayAt_77 : decode cX5_wayAt 77 = .ok (.iconst (-1), 1) := by decide +kernel
theorem dX5_wayAt_78 : decode cX5_wayAt 78 = .ok (.istore 8, 2) := by decide +kernel
theorem dX5_wayAt_80 : decode cX5_wayAt 80 = .ok (.iconst 0, 1) := by decide +kernel
theorem dX5_wayAt_81 : decode cX5_wayAt 81 = .ok (.istore 9, 2) := by decide +kernel
theorem dX5_wayAt_83 : decode cX5_wayAt 83 = .ok (.iload 9, 2) := by decide +kernel
theorem dX5_wayAt_85 : decode cX5_wayAt 85 = .ok (.aload_n 0, 1) := by decide +kernel
theorem dX5_wayAt_86 : decode cX5_wayAt 86 = .ok (.getfield 57, 3) := by decide +kernel
theorem dX5_wayAt_89 : decode cX5_wayAt 89 = .ok (.if_icmp .ge 122, 3) := by decide +kernel
theorem dX5_wayAt_92 : decode cX5_wayAt 92 = .ok (.iconst 0, 1) := by decide +kernel
theorem dX5_wayAt_93 : decode cX5_wayAt 93 = .ok (.istore 10, 2) := by decide +kernel
theorem dX5_wayAt_95 : decode cX5_wayAt 95 = .ok (.iconst 0, 1) := by decide +kernel
theorem dX5_wayAt_96 : decode cX5_wayAt 96 = .ok (.istore 11, 2) := by decide +kernel
theorem dX5_wayAt_98 : decode cX5_wayAt 98 = .ok (.iload 11, 2) := by decide +kernel
theorem dX5_wayAt_100 : decode cX5_wayAt 100 = .ok (.aload_n 0, 1) := by decide +kernel
theorem dX5_wayAt_101 : decode cX5_wayAt 101 = .ok (.getfield 57, 3) := by decide +kernel
theorem dX5_wayAt_104 : decode cX5_wayAt 104 = .ok (.if_icmp .ge 62, 3) := by decide +kernel
theorem dX5_wayAt_107 : decode cX5_wayAt 107 = .ok (.iload 10, 2) := by decide +kernel
theorem dX5_wayAt_109 : decode cX5_wayAt 109 = .ok (.iload 11, 2) := by decide +kernel
theorem dX5_wayAt_111 : decode cX5_wayAt 111 = .ok (.iload 9, 2) := by decide +kernel
theorem dX5_wayAt_113 : decode cX5_wayAt 113 = .ok (.if_icmp .eq 43, 3) := by decide +kernel
theorem dX5_wayAt_116 : decode cX5_wayAt 116 = .ok (.aload_n 0, 1) := by decide +kernel
theorem dX5_wayAt_117 : decode cX5_wayAt 117 = .ok (.iload 11, 2) := by decide +kernel
theorem dX5_wayAt_119 : decode cX5_wayAt 119 = .ok (.iload 9, 2) := by decide +kernel
theorem dX5_wayAt_121 : decode cX5_wayAt 121 = .ok (.iload_n 2, 1) := by decide +kernel
theorem dX5_wayAt_122 : decode cX5_wayAt 122 = .ok (.invokevirtual 117, 3) := by decide +kernel
theorem dX5_wayAt_125 : decode cX5_wayAt 125 = .ok (.ifCond .eq 31, 3) := by decide +kernel
theorem dX5_wayAt_128 : decode cX5_wayAt 128 = .ok (.aload_n 0, 1) := by decide +kernel
theorem dX5_wayAt_129 : decode cX5_wayAt 129 = .ok (.iload 11, 2) := by decide +kernel
theorem dX5_wayAt_131 : decode cX5_wayAt 131 = .ok (.iload 4, 2) := by decide +kernel
theorem dX5_wayAt_133 : decode cX5_wayAt 133 = .ok (.invokevirtual 107, 3) := by decide +kernel
theorem dX5_wayAt_136 : decode cX5_wayAt 136 = .ok (.ifCond .eq 20, 3) := by decide +kernel
theorem dX5_wayAt_139 : decode cX5_wayAt 139 = .ok (.aload_n 0, 1) := by decide +kernel
theorem dX5_wayAt_140 : decode cX5_wayAt 140 = .ok (.iload 11, 2) := by decide +kernel
theorem dX5_wayAt_142 : decode cX5_wayAt 142 = .ok (.iload_n 2, 1) := by decide +kernel
theorem dX5_wayAt_143 : decode cX5_wayAt 143 = .ok (.iload_n 3, 1) := by decide +kernel
theorem dX5_wayAt_144 : decode cX5_wayAt 144 = .ok (.iload 5, 2) := by decide +kernel
theorem dX5_wayAt_146 : decode cX5_wayAt 146 = .ok (.invokevirtual 110, 3) := by decide +kernel
theorem dX5_wayAt_149 : decode cX5_wayAt 149 = .ok (.ifCond .eq 7, 3) := by decide +kernel
theorem dX5_wayAt_152 : decode cX5_wayAt 152 = .ok (.iconst 1, 1) := by decide +kernel
theorem dX5_wayAt_153 : decode cX5_wayAt 153 = .ok (.goto 4, 3) := by decide +kernel
theorem dX5_wayAt_156 : decode cX5_wayAt 156 = .ok (.iconst 0, 1) := by decide +kernel
theorem dX5_wayAt_157 : decode cX5_wayAt 157 = .ok (.iadd, 1) := by decide +kernel
theorem dX5_wayAt_158 : decode cX5_wayAt 158 = .ok (.istore 10, 2) := by decide +kernel
theorem dX5_wayAt_160 : decode cX5_wayAt 160 = .ok (.iinc 11 1, 3) := by decide +kernel
theorem dX5_wayAt_163 : decode cX5_wayAt 163 = .ok (.goto (-65), 3) := by decide +kernel
theorem dX5_wayAt_166 : decode cX5_wayAt 166 = .ok (.iload 10, 2) := by decide +kernel
theorem dX5_wayAt_168 : decode cX5_wayAt 168 = .ok (.iload_n 1, 1) := by decide +kernel
theorem dX5_wayAt_169 : decode cX5_wayAt 169 = .ok (.if_icmp .ne 32, 3) := by decide +kernel
theorem dX5_wayAt_172 : decode cX5_wayAt 172 = .ok (.aload_n 0, 1) := by decide +kernel
theorem dX5_wayAt_173 : decode cX5_wayAt 173 = .ok (.iload 9, 2) := by decide +kernel
theorem dX5_wayAt_175 : decode cX5_wayAt 175 = .ok (.iload 4, 2) := by decide +kernel
theorem dX5_wayAt_177 : decode cX5_wayAt 177 = .ok (.invokevirtual 107, 3) := by decide +kernel
theorem dX5_wayAt_180 : decode cX5_wayAt 180 = .ok (.ifCond .eq 21, 3) := by decide +kernel
theorem dX5_wayAt_183 : decode cX5_wayAt 183 = .ok (.aload_n 0, 1) := by decide +kernel
theorem dX5_wayAt_184 : decode cX5_wayAt 184 = .ok (.iload 9, 2) := by decide +kernel
theorem dX5_wayAt_186 : decode cX5_wayAt 186 = .ok (.iload_n 2, 1) := by decide +kernel
theorem dX5_wayAt_187 : decode cX5_wayAt 187 = .ok (.iload_n 3, 1) := by decide +kernel
theorem dX5_wayAt_188 : decode cX5_wayAt 188 = .ok (.iload 5, 2) := by decide +kernel
theorem dX5_wayAt_190 : decode cX5_wayAt 190 = .ok (.invokevirtual 110, 3) := by decide +kernel
theorem dX5_wayAt_193 : decode cX5_wayAt 193 = .ok (.ifCond .eq 8, 3) := by decide +kernel
theorem dX5_wayAt_196 : decode cX5_wayAt 196 = .ok (.iload 9, 2) := by decide +kernel
theorem dX5_wayAt_198 : decode cX5_wayAt 198 = .ok (.goto 5, 3) := by decide +kernel
theorem dX5_wayAt_201 : decode cX5_wayAt 201 = .ok (.iload 8, 2) := by decide +kernel
theorem dX5_wayAt_203 : decode cX5_wayAt 203 = .ok (.istore 8, 2) := by decide +kernel
theorem dX5_wayAt_205 : decode cX5_wayAt 205 = .ok (.iinc 9 1, 3) := by decide +kernel
theorem dX5_wayAt_208 : decode cX5_wayAt 208 = .ok (.goto (-125), 3) := by decide +kernel
theorem dX5_wayAt_211 : decode cX5_wayAt 211 = .ok (.iload 8, 2) := by decide +kernel
theorem dX5_wayAt_213 : decode cX5_wayAt 213 = .ok (.ireturn, 1) := by decide +kernel
set_option maxRecDepth 20000 in
theorem ggX5_isOfTitle_X5_isTitle : GoodIn wsX5_isOfTitle wsX5_isTitle := goodIn_r _ [5, 6, 15, 16, 17, 18, 19, 20, 21, 22, 23, 24, 25, 26, 27, 28, 29, 30, 31, 32] (by decide +kernel) (by decide +kernel)
set_option maxRecDepth 20000 in
theorem gX5_isOfTitle_X5_isTitle : GoodIn wsX5_isOfTitle (wsV RX5 68 RX5 yX5_isTitle wsX5_isTitle) := goodIn_app (goodIn_of _ (by decide +kernel)) ggX5_isOfTitle_X5_isTitle
set_option maxRecDepth 20000 in
theorem ggX5_isOfTitle_X5_isBetween : GoodIn wsX5_isOfTitle wsX5_isBetween := goodIn_r _ [9] (by decide +kernel) (by decide +kernel)
set_option maxRecDepth 20000 in
theorem gX5_isOfTitle_X5_isBetween : GoodIn wsX5_isOfTitle (va_wsS RX5 60 yX5_isBetween wsX5_isBetween) := goodIn_app (goodIn_of _ (by decide +kernel)) ggX5_isOfTitle_X5_isBetween
set_option maxRecDepth 20000 in
theorem ggX5_isOfTitle_X5_holds : GoodIn wsX5_isOfTitle wsX5_holds := goodIn_r _ [13, 14, 15, 16, 17, 18, 19, 20, 21, 22, 23, 24, 25, 26, 27, 28, 29, 30, 31, 32] (by decide +kernel) (by decide +kernel)
set_option maxRecDepth 20000 in
theorem gX5_isOfTitle_X5_holds : GoodIn wsX5_isOfTitle (wsV RX5 64 RX5 yX5_holds wsX5_holds) := goodIn_app (goodIn_of _ (by decide +kernel)) ggX5_isOfTitle_X5_holds
theorem dX5_isOfTitle_0 : decode cX5_isOfTitle 0 = .ok (.aload_n 0, 1) := by decide +kernel
theorem dX5_isOfTitle_1 : decode cX5_isOfTitle 1 = .ok (.aload_n 0, 1) := by decide +kernel
theorem dX5_isOfTitle_2 : decode cX5_isOfTitle 2 = .ok (.iload_n 1, 1) := by decide +kernel
theorem dX5_isOfTitle_3 : decode cX5_isOfTitle 3 = .ok (.invokevirtual 68, 3) := by decide +kernel
theorem dX5_isOfTitle_6 : decode cX5_isOfTitle 6 = .ok (.ifCond .ne 7, 3) := by decide +kernel
theorem dX5_isOfTitle_9 : decode cX5_isOfTitle 9 = .ok (.iconst 1, 1) := by decide +kernel
theorem dX5_isOfTitle_10 : decode cX5_isOfTitle 10 = .ok (.goto 17, 3) := by decide +kernel
theorem dX5_isOfTitle_13 : decode cX5_isOfTitle 13 = .ok (.iload_n 2, 1) := by decide +kernel
theorem dX5_isOfTitle_14 : decode cX5_isOfTitle 14 = .ok (.iconst 0, 1) := by decide +kernel
theorem dX5_isOfTitle_15 : decode cX5_isOfTitle 15 = .ok (.iconst 3, 1) := by decide +kernel
theorem dX5_isOfTitle_16 : decode cX5_isOfTitle 16 = .ok (.invokestatic 60, 3) := by decide +kernel
theorem dX5_isOfTitle_19 : decode cX5_isOfTitle 19 = .ok (.ifCond .eq 7, 3) := by decide +kernel
theorem dX5_isOfTitle_22 : decode cX5_isOfTitle 22 = .ok (.iconst 0, 1) := by decide +kernel
theorem dX5_isOfTitle_23 : decode cX5_isOfTitle 23 = .ok (.goto 4, 3) := by decide +kernel
theorem dX5_isOfTitle_26 : decode cX5_isOfTitle 26 = .ok (.iconst 2, 1) := by decide +kernel
theorem dX5_isOfTitle_27 : decode cX5_isOfTitle 27 = .ok (.invokevirtual 64, 3) := by decide +kernel
theorem dX5_isOfTitle_30 : decode cX5_isOfTitle 30 = .ok (.ireturn, 1) := by decide +kernel
set_option maxRecDepth 20000 in
theorem ggX5_gap_X5_isOfTitle : GoodIn wsX5_gap wsX5_isOfTitle := goodIn_r _ [7, 8, 9, 10, 6, 11, 12, 13, 14, 15, 16, 17, 18, 19, 20, 62, 63, 64, 65, 66, 67, 68, 69, 70, 71, 72, 73, 74, 75, 76, 77, 78, 79] (by decide +kernel) (by decide +kernel)
set_option maxRecDepth 20000 in
theorem gX5_gap_X5_isOfTitle : GoodIn wsX5_gap (wsV RX5 120 RX5 yX5_isOfTitle wsX5_isOfTitle) := goodIn_app (goodIn_of _ (by decide +kernel)) ggX5_gap_X5_isOfTitle
set_option maxRecDepth 20000 in
theorem ggX5_gap_X5_waysTo : GoodIn wsX5_gap wsX5_waysTo := goodIn_r _ [24, 25, 26, 27, 28, 6, 29, 30, 31, 32, 33, 34, 35, 36, 37, 38, 39, 40, 41, 42, 43, 44, 45, 46, 47, 48, 49, 13, 14, 15, 50, 51, 52, 53, 54, 55, 56, 57, 58, 59, 60, 61, 62, 63, 64, 65, 66, 67, 68, 69, 70, 71, 72, 73, 74, 75, 76, 77, 78, 79] (by decide +kernel) (by decide +kernel)
set_option maxRecDepth 20000 in
theorem gX5_gap_X5_waysTo : GoodIn wsX5_gap (wsV RX5 113 RX5 yX5_waysTo wsX5_waysTo) := goodIn_app (goodIn_of _ (by decide +kernel)) ggX5_gap_X5_waysTo
theorem dX5_gap_0 : decode cX5_gap 0 = .ok (.aload_n 0, 1) := by decide +kernel
theorem dX5_gap_1 : decode cX5_gap 1 = .ok (.iload_n 1, 1) := by decide +kernel
theorem dX5_gap_2 : decode cX5_gap 2 = .ok (.iload_n 2, 1) := by decide +kernel
theorem dX5_gap_3 : decode cX5_gap 3 = .ok (.invokevirtual 120, 3) := by decide +kernel
theorem dX5_gap_6 : decode cX5_gap 6 = .ok (.ifCond .ne 5, 3) := by decide +kernel
theorem dX5_gap_9 : decode cX5_gap 9 = .ok (.iconst 0, 1) := by decide +kernel
theorem dX5_gap_10 : decode cX5_gap 10 = .ok (.ireturn, 1) := by decide +kernel
theorem dX5_gap_11 : decode cX5_gap 11 = .ok (.iconst (-1), 1) := by decide +kernel
theorem dX5_gap_12 : decode cX5_gap 12 = .ok (.istore_n 3, 1) := by decide +kernel
theorem dX5_gap_13 : decode cX5_gap 13 = .ok (.aload_n 0, 1) := by decide +kernel
theorem dX5_gap_14 : decode cX5_gap 14 = .ok (.getfield 78, 3) := by decide +kernel
theorem dX5_gap_17 : decode cX5_gap 17 = .ok (.sipush 360, 3) := by decide +kernel
theorem dX5_gap_20 : decode cX5_gap 20 = .ok (.idiv, 1) := by decide +kernel
theorem dX5_gap_21 : decode cX5_gap 21 = .ok (.istore 4, 2) := by decide +kernel
theorem dX5_gap_23 : decode cX5_gap 23 = .ok (.iload 4, 2) := by decide +kernel
theorem dX5_gap_25 : decode cX5_gap 25 = .ok (.aload_n 0, 1) := by decide +kernel
theorem dX5_gap_26 : decode cX5_gap 26 = .ok (.getfield 7, 3) := by decide +kernel
theorem dX5_gap_29 : decode cX5_gap 29 = .ok (.iload_n 1, 1) := by decide +kernel
theorem dX5_gap_30 : decode cX5_gap 30 = .ok (.iaload, 1) := by decide +kernel
theorem dX5_gap_31 : decode cX5_gap 31 = .ok (.if_icmp .lt 31, 3) := by decide +kernel
theorem dX5_gap_34 : decode cX5_gap 34 = .ok (.aload_n 0, 1) := by decide +kernel
theorem dX5_gap_35 : decode cX5_gap 35 = .ok (.iload_n 1, 1) := by decide +kernel
theorem dX5_gap_36 : decode cX5_gap 36 = .ok (.iload 4, 2) := by decide +kernel
theorem dX5_gap_38 : decode cX5_gap 38 = .ok (.iload_n 2, 1) := by decide +kernel
theorem dX5_gap_39 : decode cX5_gap 39 = .ok (.aload_n 0, 1) := by decide +kernel
theorem dX5_gap_40 : decode cX5_gap 40 = .ok (.getfield 78, 3) := by decide +kernel
theorem dX5_gap_43 : decode cX5_gap 43 = .ok (.invokevirtual 113, 3) := by decide +kernel
theorem dX5_gap_46 : decode cX5_gap 46 = .ok (.ifCond .ne 8, 3) := by decide +kernel
theorem dX5_gap_49 : decode cX5_gap 49 = .ok (.iload 4, 2) := by decide +kernel
theorem dX5_gap_51 : decode cX5_gap 51 = .ok (.goto 4, 3) := by decide +kernel
theorem dX5_gap_54 : decode cX5_gap 54 = .ok (.iload_n 3, 1) := by decide +kernel
theorem dX5_gap_55 : decode cX5_gap 55 = .ok (.istore_n 3, 1) := by decide +kernel
theorem dX5_gap_56 : decode cX5_gap 56 = .ok (.iinc 4 (-1), 3) := by decide +kernel
theorem dX5_gap_59 : decode cX5_gap 59 = .ok (.goto (-36), 3) := by decide +kernel
theorem dX5_gap_62 : decode cX5_gap 62 = .ok (.iload_n 3, 1) := by decide +kernel
theorem dX5_gap_63 : decode cX5_gap 63 = .ok (.ireturn, 1) := by decide +kernel
set_option maxRecDepth 20000 in
theorem ggX5_doubles_X5_isOfTitle : GoodIn wsX5_doubles wsX5_isOfTitle := goodIn_r _ [7, 8, 9, 10, 6, 11, 12, 13, 14, 15, 16, 17, 18, 19, 20, 62, 63, 64, 65, 66, 67, 68, 69, 70, 71, 72, 73, 74, 75, 76, 77, 78, 79] (by decide +kernel) (by decide +kernel)
set_option maxRecDepth 20000 in
theorem gX5_doubles_X5_isOfTitle : GoodIn wsX5_doubles (wsV RX5 120 RX5 yX5_isOfTitle wsX5_isOfTitle) := goodIn_app (goodIn_of _ (by decide +kernel)) ggX5_doubles_X5_isOfTitle
set_option maxRecDepth 20000 in
theorem ggX5_doubles_X5_waysTo : GoodIn wsX5_doubles wsX5_waysTo := goodIn_r _ [24, 25, 26, 27, 28, 6, 29, 30, 31, 32, 33, 34, 35, 36, 37, 38, 39, 40, 41, 42, 43, 44, 45, 46, 47, 48, 49, 13, 14, 15, 50, 51, 52, 53, 54, 55, 56, 57, 58, 59, 60, 61, 62, 63, 64, 65, 66, 67, 68, 69, 70, 71, 72, 73, 74, 75, 76, 77, 78, 79] (by decide +kernel) (by decide +kernel)
set_option maxRecDepth 20000 in
theorem gX5_doubles_X5_waysTo : GoodIn wsX5_doubles (wsV RX5 113 RX5 yX5_waysTo wsX5_waysTo) := goodIn_app (goodIn_of _ (by decide +kernel)) ggX5_doubles_X5_waysTo
theorem dX5_doubles_0 : decode cX5_doubles 0 = .ok (.aload_n 0, 1) := by decide +kernel
theorem dX5_doubles_1 : decode cX5_doubles 1 = .ok (.iload_n 1, 1) := by decide +kernel
theorem dX5_doubles_2 : decode cX5_doubles 2 = .ok (.iload_n 2, 1) := by decide +kernel
theorem dX5_doubles_3 : decode cX5_doubles 3 = .ok (.invokevirtual 120, 3) := by decide +kernel
theorem dX5_doubles_6 : decode cX5_doubles 6 = .ok (.ifCond .ne 5, 3) := by decide +kernel
theorem dX5_doubles_9 : decode cX5_doubles 9 = .ok (.iconst 0, 1) := by decide +kernel
theorem dX5_doubles_10 : decode cX5_doubles 10 = .ok (.ireturn, 1) := by decide +kernel
theorem dX5_doubles_11 : decode cX5_doubles 11 = .ok (.iconst 0, 1) := by decide +kernel
theorem dX5_doubles_12 : decode cX5_doubles 12 = .ok (.istore_n 3, 1) := by decide +kernel
theorem dX5_doubles_13 : decode cX5_doubles 13 = .ok (.aload_n 0, 1) := by decide +kernel
theorem dX5_doubles_14 : decode cX5_doubles 14 = .ok (.getfield 7, 3) := by decide +kernel
theorem dX5_doubles_17 : decode cX5_doubles 17 = .ok (.iload_n 1, 1) := by decide +kernel
theorem dX5_doubles_18 : decode cX5_doubles 18 = .ok (.iaload, 1) := by decide +kernel
theorem dX5_doubles_19 : decode cX5_doubles 19 = .ok (.istore 4, 2) := by decide +kernel
theorem dX5_doubles_21 : decode cX5_doubles 21 = .ok (.iload 4, 2) := by decide +kernel
theorem dX5_doubles_23 : decode cX5_doubles 23 = .ok (.aload_n 0, 1) := by decide +kernel
theorem dX5_doubles_24 : decode cX5_doubles 24 = .ok (.getfield 78, 3) := by decide +kernel
theorem dX5_doubles_27 : decode cX5_doubles 27 = .ok (.sipush 360, 3) := by decide +kernel
theorem dX5_doubles_30 : decode cX5_doubles 30 = .ok (.idiv, 1) := by decide +kernel
theorem dX5_doubles_31 : decode cX5_doubles 31 = .ok (.if_icmp .gt 33, 3) := by decide +kernel
theorem dX5_doubles_34 : decode cX5_doubles 34 = .ok (.iload_n 3, 1) := by decide +kernel
theorem dX5_doubles_35 : decode cX5_doubles 35 = .ok (.aload_n 0, 1) := by decide +kernel
theorem dX5_doubles_36 : decode cX5_doubles 36 = .ok (.iload_n 1, 1) := by decide +kernel
theorem dX5_doubles_37 : decode cX5_doubles 37 = .ok (.iload 4, 2) := by decide +kernel
theorem dX5_doubles_39 : decode cX5_doubles 39 = .ok (.iload_n 2, 1) := by decide +kernel
theorem dX5_doubles_40 : decode cX5_doubles 40 = .ok (.aload_n 0, 1) := by decide +kernel
theorem dX5_doubles_41 : decode cX5_doubles 41 = .ok (.getfield 78, 3) := by decide +kernel
theorem dX5_doubles_44 : decode cX5_doubles 44 = .ok (.invokevirtual 113, 3) := by decide +kernel
theorem dX5_doubles_47 : decode cX5_doubles 47 = .ok (.iconst 1, 1) := by decide +kernel
theorem dX5_doubles_48 : decode cX5_doubles 48 = .ok (.if_icmp .le 7, 3) := by decide +kernel
theorem dX5_doubles_51 : decode cX5_doubles 51 = .ok (.iconst 1, 1) := by decide +kernel
theorem dX5_doubles_52 : decode cX5_doubles 52 = .ok (.goto 4, 3) := by decide +kernel
theorem dX5_doubles_55 : decode cX5_doubles 55 = .ok (.iconst 0, 1) := by decide +kernel
theorem dX5_doubles_56 : decode cX5_doubles 56 = .ok (.iadd, 1) := by decide +kernel
theorem dX5_doubles_57 : decode cX5_doubles 57 = .ok (.istore_n 3, 1) := by decide +kernel
theorem dX5_doubles_58 : decode cX5_doubles 58 = .ok (.iinc 4 1, 3) := by decide +kernel
theorem dX5_doubles_61 : decode cX5_doubles 61 = .ok (.goto (-40), 3) := by decide +kernel
theorem dX5_doubles_64 : decode cX5_doubles 64 = .ok (.iload_n 3, 1) := by decide +kernel
theorem dX5_doubles_65 : decode cX5_doubles 65 = .ok (.ireturn, 1) := by decide +kernel
set_option maxRecDepth 20000 in
theorem ggX5_othersFor_X5_isCovered : GoodIn wsX5_othersFor wsX5_isCovered := goodIn_r _ [8, 9, 10, 11, 7, 12, 13, 14, 15, 16, 17, 18, 19, 20, 21, 22, 23, 24, 25, 26, 27, 28, 29, 30, 31, 32, 33, 34, 35, 36, 37, 38, 39, 40, 41, 42, 43, 44, 45, 46, 47, 48, 49, 50, 51, 52, 53, 54, 55, 56] (by decide +kernel) (by decide +kernel)
set_option maxRecDepth 20000 in
theorem gX5_othersFor_X5_isCovered : GoodIn wsX5_othersFor (wsV RX5 110 RX5 yX5_isCovered wsX5_isCovered) := goodIn_app (goodIn_of _ (by decide +kernel)) ggX5_othersFor_X5_isCovered
theorem dX5_othersFor_0 : decode cX5_othersFor 0 = .ok (.iconst 0, 1) := by decide +kernel
theorem dX5_othersFor_1 : decode cX5_othersFor 1 = .ok (.istore 4, 2) := by decide +kernel
theorem dX5_othersFor_3 : decode cX5_othersFor 3 = .ok (.iconst 0, 1) := by decide +kernel
theorem dX5_othersFor_4 : decode cX5_othersFor 4 = .ok (.istore 5, 2) := by decide +kernel
theorem dX5_othersFor_6 : decode cX5_othersFor 6 = .ok (.iload 5, 2) := by decide +kernel
theorem dX5_othersFor_8 : decode cX5_othersFor 8 = .ok (.aload_n 0, 1) := by decide +kernel
theorem dX5_othersFor_9 : decode cX5_othersFor 9 = .ok (.getfield 57, 3) := by decide +kernel
theorem dX5_othersFor_12 : decode cX5_othersFor 12 = .ok (.if_icmp .ge 46, 3) := by decide +kernel
theorem dX5_othersFor_15 : decode cX5_othersFor 15 = .ok (.iload 4, 2) := by decide +kernel
theorem dX5_othersFor_17 : decode cX5_othersFor 17 = .ok (.iload 5, 2) := by decide +kernel
theorem dX5_othersFor_19 : decode cX5_othersFor 19 = .ok (.iload_n 1, 1) := by decide +kernel
theorem dX5_othersFor_20 : decode cX5_othersFor 20 = .ok (.if_icmp .eq 28, 3) := by decide +kernel
theorem dX5_othersFor_23 : decode cX5_othersFor 23 = .ok (.aload_n 0, 1) := by decide +kernel
theorem dX5_othersFor_24 : decode cX5_othersFor 24 = .ok (.iload 5, 2) := by decide +kernel
theorem dX5_othersFor_26 : decode cX5_othersFor 26 = .ok (.iload_n 2, 1) := by decide +kernel
theorem dX5_othersFor_27 : decode cX5_othersFor 27 = .ok (.iload_n 3, 1) := by decide +kernel
theorem dX5_othersFor_28 : decode cX5_othersFor 28 = .ok (.aload_n 0, 1) := by decide +kernel
theorem dX5_othersFor_29 : decode cX5_othersFor 29 = .ok (.getfield 78, 3) := by decide +kernel
theorem dX5_othersFor_32 : decode cX5_othersFor 32 = .ok (.invokevirtual 110, 3) := by decide +kernel
theorem dX5_othersFor_35 : decode cX5_othersFor 35 = .ok (.ifCond .eq 13, 3) := by decide +kernel
theorem dX5_othersFor_38 : decode cX5_othersFor 38 = .ok (.aload_n 0, 1) := by decide +kernel
theorem dX5_othersFor_39 : decode cX5_othersFor 39 = .ok (.getfield 22, 3) := by decide +kernel
theorem dX5_othersFor_42 : decode cX5_othersFor 42 = .ok (.iload 5, 2) := by decide +kernel
theorem dX5_othersFor_44 : decode cX5_othersFor 44 = .ok (.iaload, 1) := by decide +kernel
theorem dX5_othersFor_45 : decode cX5_othersFor 45 = .ok (.goto 4, 3) := by decide +kernel
theorem dX5_othersFor_48 : decode cX5_othersFor 48 = .ok (.iconst 0, 1) := by decide +kernel
theorem dX5_othersFor_49 : decode cX5_othersFor 49 = .ok (.ior, 1) := by decide +kernel
theorem dX5_othersFor_50 : decode cX5_othersFor 50 = .ok (.istore 4, 2) := by decide +kernel
theorem dX5_othersFor_52 : decode cX5_othersFor 52 = .ok (.iinc 5 1, 3) := by decide +kernel
theorem dX5_othersFor_55 : decode cX5_othersFor 55 = .ok (.goto (-49), 3) := by decide +kernel
theorem dX5_othersFor_58 : decode cX5_othersFor 58 = .ok (.iload 4, 2) := by decide +kernel
theorem dX5_othersFor_60 : decode cX5_othersFor 60 = .ok (.ireturn, 1) := by decide +kernel
set_option maxRecDepth 20000 in
theorem ggX5_isNeedless_X5_isPackage : GoodIn wsX5_isNeedless wsX5_isPackage := goodIn_r _ [9, 10, 54, 55, 56, 57, 58, 59, 60, 61, 62, 63, 64, 65, 66, 67, 68, 69, 70, 71] (by decide +kernel) (by decide +kernel)
set_option maxRecDepth 20000 in
theorem gX5_isNeedless_X5_isPackage : GoodIn wsX5_isNeedless (wsV RX5 81 RX5 yX5_isPackage wsX5_isPackage) := goodIn_app (goodIn_of _ (by decide +kernel)) ggX5_isNeedless_X5_isPackage
set_option maxRecDepth 20000 in
theorem ggX5_isNeedless_X5_holds : GoodIn wsX5_isNeedless wsX5_holds := goodIn_r _ [14, 15, 54, 55, 56, 57, 58, 59, 60, 61, 62, 63, 64, 65, 66, 67, 68, 69, 70, 71] (by decide +kernel) (by decide +kernel)
set_option maxRecDepth 20000 in
theorem gX5_isNeedless_X5_holds : GoodIn wsX5_isNeedless (wsV RX5 64 RX5 yX5_holds wsX5_holds) := goodIn_app (goodIn_of _ (by decide +kernel)) ggX5_isNeedless_X5_holds
set_option maxRecDepth 20000 in
theorem ggX5_isNeedless_X5_has : GoodIn wsX5_isNeedless wsX5_has := goodIn_r _ [19, 20, 21, 22, 23, 24, 25, 26, 8, 27, 28, 29, 30, 31, 32, 33, 34, 35, 36, 37, 38, 39, 40, 54, 55, 56, 57, 58, 59, 60, 61, 62, 63, 64, 65, 66, 67, 68, 69, 70, 71] (by decide +kernel) (by decide +kernel)
set_option maxRecDepth 20000 in
theorem gX5_isNeedless_X5_has : GoodIn wsX5_isNeedless (wsV RX5 96 RX5 yX5_has wsX5_has) := goodIn_app (goodIn_of _ (by decide +kernel)) ggX5_isNeedless_X5_has
set_option maxRecDepth 20000 in
theorem ggX5_isNeedless_X5_isKept : GoodIn wsX5_isNeedless wsX5_isKept := goodIn_r _ [44, 45, 16, 17, 18, 8, 19, 20, 21, 22, 23, 24, 25, 26, 27, 28, 29, 30, 31, 32, 33, 34, 35, 36, 37, 38, 39, 40, 54, 55, 56, 57, 58, 59, 60, 61, 62, 63, 64, 65, 66, 67, 68, 69, 70, 71] (by decide +kernel) (by decide +kernel)
set_option maxRecDepth 20000 in
theorem gX5_isNeedless_X5_isKept : GoodIn wsX5_isNeedless (wsV RX5 100 RX5 yX5_isKept wsX5_isKept) := goodIn_app (goodIn_of _ (by decide +kernel)) ggX5_isNeedless_X5_isKept
set_option maxRecDepth 20000 in
theorem ggX5_isNeedless_X5_othersFor : GoodIn wsX5_isNeedless wsX5_othersFor := goodIn_r _ [49, 10, 3, 4, 50, 51, 52, 8, 53, 16, 17, 18, 19, 20, 21, 22, 23, 24, 25, 26, 27, 28, 29, 30, 31, 32, 33, 34, 35, 36, 37, 38, 39, 40, 41, 42, 43, 44, 45, 54, 55, 56, 57, 58, 59, 60, 61, 62, 63, 64, 65, 66, 67, 68, 69, 70, 71] (by decide +kernel) (by decide +kernel)
set_option maxRecDepth 20000 in
theorem gX5_isNeedless_X5_othersFor : GoodIn wsX5_isNeedless (wsV RX5 123 RX5 yX5_othersFor wsX5_othersFor) := goodIn_app (goodIn_of _ (by decide +kernel)) ggX5_isNeedless_X5_othersFor
theorem dX5_isNeedless_0 : decode cX5_isNeedless 0 = .ok (.aload_n 0, 1) := by decide +kernel
theorem dX5_isNeedless_1 : decode cX5_isNeedless 1 = .ok (.aload_n 0, 1) := by decide +kernel
theorem dX5_isNeedless_2 : decode cX5_isNeedless 2 = .ok (.iload_n 1, 1) := by decide +kernel
theorem dX5_isNeedless_3 : decode cX5_isNeedless 3 = .ok (.invokevirtual 81, 3) := by decide +kernel
theorem dX5_isNeedless_6 : decode cX5_isNeedless 6 = .ok (.ifCond .eq 7, 3) := by decide +kernel
theorem dX5_isNeedless_9 : decode cX5_isNeedless 9 = .ok (.iconst 0, 1) := by decide +kernel
theorem dX5_isNeedless_10 : decode cX5_isNeedless 10 = .ok (.goto 4, 3) := by decide +kernel
theorem dX5_isNeedless_13 : decode cX5_isNeedless 13 = .ok (.iconst 1, 1) := by decide +kernel
theorem dX5_isNeedless_14 : decode cX5_isNeedless 14 = .ok (.invokevirtual 64, 3) := by decide +kernel
theorem dX5_isNeedless_17 : decode cX5_isNeedless 17 = .ok (.ifCond .ne 5, 3) := by decide +kernel
theorem dX5_isNeedless_20 : decode cX5_isNeedless 20 = .ok (.iconst 0, 1) := by decide +kernel
theorem dX5_isNeedless_21 : decode cX5_isNeedless 21 = .ok (.ireturn, 1) := by decide +kernel
theorem dX5_isNeedless_22 : decode cX5_isNeedless 22 = .ok (.iconst 1, 1) := by decide +kernel
theorem dX5_isNeedless_23 : decode cX5_isNeedless 23 = .ok (.istore_n 2, 1) := by decide +kernel
theorem dX5_isNeedless_24 : decode cX5_isNeedless 24 = .ok (.iconst 0, 1) := by decide +kernel
theorem dX5_isNeedless_25 : decode cX5_isNeedless 25 = .ok (.istore_n 3, 1) := by decide +kernel
theorem dX5_isNeedless_26 : decode cX5_isNeedless 26 = .ok (.iload_n 3, 1) := by decide +kernel
theorem dX5_isNeedless_27 : decode cX5_isNeedless 27 = .ok (.aload_n 0, 1) := by decide +kernel
theorem dX5_isNeedless_28 : decode cX5_isNeedless 28 = .ok (.getfield 54, 3) := by decide +kernel
theorem dX5_isNeedless_31 : decode cX5_isNeedless 31 = .ok (.if_icmp .ge 116, 3) := by decide +kernel
theorem dX5_isNeedless_34 : decode cX5_isNeedless 34 = .ok (.iload_n 2, 1) := by decide +kernel
theorem dX5_isNeedless_35 : decode cX5_isNeedless 35 = .ok (.ifCond .eq 112, 3) := by decide +kernel
theorem dX5_isNeedless_38 : decode cX5_isNeedless 38 = .ok (.aload_n 0, 1) := by decide +kernel
theorem dX5_isNeedless_39 : decode cX5_isNeedless 39 = .ok (.getfield 7, 3) := by decide +kernel
theorem dX5_isNeedless_42 : decode cX5_isNeedless 42 = .ok (.iload_n 3, 1) := by decide +kernel
theorem dX5_isNeedless_43 : decode cX5_isNeedless 43 = .ok (.iaload, 1) := by decide +kernel
theorem dX5_isNeedless_44 : decode cX5_isNeedless 44 = .ok (.istore 4, 2) := by decide +kernel
theorem dX5_isNeedless_46 : decode cX5_isNeedless 46 = .ok (.iload 4, 2) := by decide +kernel
theorem dX5_isNeedless_48 : decode cX5_isNeedless 48 = .ok (.aload_n 0, 1) := by decide +kernel
theorem dX5_isNeedless_49 : decode cX5_isNeedless 49 = .ok (.getfield 78, 3) := by decide +kernel
theorem dX5_isNeedless_52 : decode cX5_isNeedless 52 = .ok (.sipush 360, 3) := by decide +kernel
theorem dX5_isNeedless_55 : decode cX5_isNeedless 55 = .ok (.idiv, 1) := by decide +kernel
theorem dX5_isNeedless_56 : decode cX5_isNeedless 56 = .ok (.if_icmp .gt 85, 3) := by decide +kernel
theorem dX5_isNeedless_59 : decode cX5_isNeedless 59 = .ok (.iload_n 2, 1) := by decide +kernel
theorem dX5_isNeedless_60 : decode cX5_isNeedless 60 = .ok (.ifCond .eq 81, 3) := by decide +kernel
theorem dX5_isNeedless_63 : decode cX5_isNeedless 63 = .ok (.aload_n 0, 1) := by decide +kernel
theorem dX5_isNeedless_64 : decode cX5_isNeedless 64 = .ok (.iload_n 1, 1) := by decide +kernel
theorem dX5_isNeedless_65 : decode cX5_isNeedless 65 = .ok (.iload_n 3, 1) := by decide +kernel
theorem dX5_isNeedless_66 : decode cX5_isNeedless 66 = .ok (.iload 4, 2) := by decide +kernel
theorem dX5_isNeedless_68 : decode cX5_isNeedless 68 = .ok (.aload_n 0, 1) := by decide +kernel
theorem dX5_isNeedless_69 : decode cX5_isNeedless 69 = .ok (.getfield 78, 3) := by decide +kernel
theorem dX5_isNeedless_72 : decode cX5_isNeedless 72 = .ok (.aload_n 0, 1) := by decide +kernel
theorem dX5_isNeedless_73 : decode cX5_isNeedless 73 = .ok (.getfield 78, 3) := by decide +kernel
theorem dX5_isNeedless_76 : decode cX5_isNeedless 76 = .ok (.invokevirtual 96, 3) := by decide +kernel
theorem dX5_isNeedless_79 : decode cX5_isNeedless 79 = .ok (.ifCond .eq 22, 3) := by decide +kernel
theorem dX5_isNeedless_82 : decode cX5_isNeedless 82 = .ok (.aload_n 0, 1) := by decide +kernel
theorem dX5_isNeedless_83 : decode cX5_isNeedless 83 = .ok (.iload_n 1, 1) := by decide +kernel
theorem dX5_isNeedless_84 : decode cX5_isNeedless 84 = .ok (.iload_n 3, 1) := by decide +kernel
theorem dX5_isNeedless_85 : decode cX5_isNeedless 85 = .ok (.iload 4, 2) := by decide +kernel
theorem dX5_isNeedless_87 : decode cX5_isNeedless 87 = .ok (.aload_n 0, 1) := by decide +kernel
theorem dX5_isNeedless_88 : decode cX5_isNeedless 88 = .ok (.getfield 78, 3) := by decide +kernel
theorem dX5_isNeedless_91 : decode cX5_isNeedless 91 = .ok (.invokevirtual 100, 3) := by decide +kernel
theorem dX5_isNeedless_94 : decode cX5_isNeedless 94 = .ok (.ifCond .ne 7, 3) := by decide +kernel
theorem dX5_isNeedless_97 : decode cX5_isNeedless 97 = .ok (.iconst 1, 1) := by decide +kernel
theorem dX5_isNeedless_98 : decode cX5_isNeedless 98 = .ok (.goto 4, 3) := by decide +kernel
theorem dX5_isNeedless_101 : decode cX5_isNeedless 101 = .ok (.iconst 0, 1) := by decide +kernel
theorem dX5_isNeedless_102 : decode cX5_isNeedless 102 = .ok (.istore 5, 2) := by decide +kernel
theorem dX5_isNeedless_104 : decode cX5_isNeedless 104 = .ok (.iload 5, 2) := by decide +kernel
theorem dX5_isNeedless_106 : decode cX5_isNeedless 106 = .ok (.ifCond .eq 23, 3) := by decide +kernel
theorem dX5_isNeedless_109 : decode cX5_isNeedless 109 = .ok (.aload_n 0, 1) := by decide +kernel
theorem dX5_isNeedless_110 : decode cX5_isNeedless 110 = .ok (.getfield 22, 3) := by decide +kernel
theorem dX5_isNeedless_113 : decode cX5_isNeedless 113 = .ok (.iload_n 1, 1) := by decide +kernel
theorem dX5_isNeedless_114 : decode cX5_isNeedless 114 = .ok (.iaload, 1) := by decide +kernel
theorem dX5_isNeedless_115 : decode cX5_isNeedless 115 = .ok (.aload_n 0, 1) := by decide +kernel
theorem dX5_isNeedless_116 : decode cX5_isNeedless 116 = .ok (.iload_n 1, 1) := by decide +kernel
theorem dX5_isNeedless_117 : decode cX5_isNeedless 117 = .ok (.iload_n 3, 1) := by decide +kernel
theorem dX5_isNeedless_118 : decode cX5_isNeedless 118 = .ok (.iload 4, 2) := by decide +kernel
theorem dX5_isNeedless_120 : decode cX5_isNeedless 120 = .ok (.invokevirtual 123, 3) := by decide +kernel
theorem dX5_isNeedless_123 : decode cX5_isNeedless 123 = .ok (.iconst (-1), 1) := by decide +kernel
theorem dX5_isNeedless_124 : decode cX5_isNeedless 124 = .ok (.ixor, 1) := by decide +kernel
theorem dX5_isNeedless_125 : decode cX5_isNeedless 125 = .ok (.iand, 1) := by decide +kernel
theorem dX5_isNeedless_126 : decode cX5_isNeedless 126 = .ok (.ifCond .ne 7, 3) := by decide +kernel
theorem dX5_isNeedless_129 : decode cX5_isNeedless 129 = .ok (.iconst 1, 1) := by decide +kernel
theorem dX5_isNeedless_130 : decode cX5_isNeedless 130 = .ok (.goto 4, 3) := by decide +kernel
theorem dX5_isNeedless_133 : decode cX5_isNeedless 133 = .ok (.iconst 0, 1) := by decide +kernel
theorem dX5_isNeedless_134 : decode cX5_isNeedless 134 = .ok (.istore_n 2, 1) := by decide +kernel
theorem dX5_isNeedless_135 : decode cX5_isNeedless 135 = .ok (.iinc 4 1, 3) := by decide +kernel
theorem dX5_isNeedless_138 : decode cX5_isNeedless 138 = .ok (.goto (-92), 3) := by decide +kernel
theorem dX5_isNeedless_141 : decode cX5_isNeedless 141 = .ok (.iinc 3 1, 3) := by decide +kernel
theorem dX5_isNeedless_144 : decode cX5_isNeedless 144 = .ok (.goto (-118), 3) := by decide +kernel
theorem dX5_isNeedless_147 : decode cX5_isNeedless 147 = .ok (.iload_n 2, 1) := by decide +kernel
theorem dX5_isNeedless_148 : decode cX5_isNeedless 148 = .ok (.ireturn, 1) := by decide +kernel
theorem dJ6_bitCount_0f7a4_0 : decode cJ6_bitCount_0f7a4 0 = .ok (.iload_n 0, 1) := by decide +kernel
theorem dJ6_bitCount_0f7a4_1 : decode cJ6_bitCount_0f7a4 1 = .ok (.iload_n 0, 1) := by decide +kernel
theorem dJ6_bitCount_0f7a4_2 : decode cJ6_bitCount_0f7a4 2 = .ok (.iconst 1, 1) := by decide +kernel
theorem dJ6_bitCount_0f7a4_3 : decode cJ6_bitCount_0f7a4 3 = .ok (.iushr, 1) := by decide +kernel
theorem dJ6_bitCount_0f7a4_4 : decode cJ6_bitCount_0f7a4 4 = .ok (.ldc_w 265, 3) := by decide +kernel
theorem dJ6_bitCount_0f7a4_7 : decode cJ6_bitCount_0f7a4 7 = .ok (.iand, 1) := by decide +kernel
theorem dJ6_bitCount_0f7a4_8 : decode cJ6_bitCount_0f7a4 8 = .ok (.isub, 1) := by decide +kernel
theorem dJ6_bitCount_0f7a4_9 : decode cJ6_bitCount_0f7a4 9 = .ok (.istore_n 0, 1) := by decide +kernel
theorem dJ6_bitCount_0f7a4_10 : decode cJ6_bitCount_0f7a4 10 = .ok (.iload_n 0, 1) := by decide +kernel
theorem dJ6_bitCount_0f7a4_11 : decode cJ6_bitCount_0f7a4 11 = .ok (.ldc_w 266, 3) := by decide +kernel
theorem dJ6_bitCount_0f7a4_14 : decode cJ6_bitCount_0f7a4 14 = .ok (.iand, 1) := by decide +kernel
theorem dJ6_bitCount_0f7a4_15 : decode cJ6_bitCount_0f7a4 15 = .ok (.iload_n 0, 1) := by decide +kernel
theorem dJ6_bitCount_0f7a4_16 : decode cJ6_bitCount_0f7a4 16 = .ok (.iconst 2, 1) := by decide +kernel
theorem dJ6_bitCount_0f7a4_17 : decode cJ6_bitCount_0f7a4 17 = .ok (.iushr, 1) := by decide +kernel
theorem dJ6_bitCount_0f7a4_18 : decode cJ6_bitCount_0f7a4 18 = .ok (.ldc_w 266, 3) := by decide +kernel
theorem dJ6_bitCount_0f7a4_21 : decode cJ6_bitCount_0f7a4 21 = .ok (.iand, 1) := by decide +kernel
theorem dJ6_bitCount_0f7a4_22 : decode cJ6_bitCount_0f7a4 22 = .ok (.iadd, 1) := by decide +kernel
theorem dJ6_bitCount_0f7a4_23 : decode cJ6_bitCount_0f7a4 23 = .ok (.istore_n 0, 1) := by decide +kernel
theorem dJ6_bitCount_0f7a4_24 : decode cJ6_bitCount_0f7a4 24 = .ok (.iload_n 0, 1) := by decide +kernel
theorem dJ6_bitCount_0f7a4_25 : decode cJ6_bitCount_0f7a4 25 = .ok (.iload_n 0, 1) := by decide +kernel
theorem dJ6_bitCount_0f7a4_26 : decode cJ6_bitCount_0f7a4 26 = .ok (.iconst 4, 1) := by decide +kernel
theorem dJ6_bitCount_0f7a4_27 : decode cJ6_bitCount_0f7a4 27 = .ok (.iushr, 1) := by decide +kernel
theorem dJ6_bitCount_0f7a4_28 : decode cJ6_bitCount_0f7a4 28 = .ok (.iadd, 1) := by decide +kernel
theorem dJ6_bitCount_0f7a4_29 : decode cJ6_bitCount_0f7a4 29 = .ok (.ldc_w 267, 3) := by decide +kernel
theorem dJ6_bitCount_0f7a4_32 : decode cJ6_bitCount_0f7a4 32 = .ok (.iand, 1) := by decide +kernel
theorem dJ6_bitCount_0f7a4_33 : decode cJ6_bitCount_0f7a4 33 = .ok (.istore_n 0, 1) := by decide +kernel
theorem dJ6_bitCount_0f7a4_34 : decode cJ6_bitCount_0f7a4 34 = .ok (.iload_n 0, 1) := by decide +kernel
theorem dJ6_bitCount_0f7a4_35 : decode cJ6_bitCount_0f7a4 35 = .ok (.iload_n 0, 1) := by decide +kernel
theorem dJ6_bitCount_0f7a4_36 : decode cJ6_bitCount_0f7a4 36 = .ok (.bipush 8, 2) := by decide +kernel
theorem dJ6_bitCount_0f7a4_38 : decode cJ6_bitCount_0f7a4 38 = .ok (.iushr, 1) := by decide +kernel
theorem dJ6_bitCount_0f7a4_39 : decode cJ6_bitCount_0f7a4 39 = .ok (.iadd, 1) := by decide +kernel
theorem dJ6_bitCount_0f7a4_40 : decode cJ6_bitCount_0f7a4 40 = .ok (.istore_n 0, 1) := by decide +kernel
theorem dJ6_bitCount_0f7a4_41 : decode cJ6_bitCount_0f7a4 41 = .ok (.iload_n 0, 1) := by decide +kernel
theorem dJ6_bitCount_0f7a4_42 : decode cJ6_bitCount_0f7a4 42 = .ok (.iload_n 0, 1) := by decide +kernel
theorem dJ6_bitCount_0f7a4_43 : decode cJ6_bitCount_0f7a4 43 = .ok (.bipush 16, 2) := by decide +kernel
theorem dJ6_bitCount_0f7a4_45 : decode cJ6_bitCount_0f7a4 45 = .ok (.iushr, 1) := by decide +kernel
theorem dJ6_bitCount_0f7a4_46 : decode cJ6_bitCount_0f7a4 46 = .ok (.iadd, 1) := by decide +kernel
theorem dJ6_bitCount_0f7a4_47 : decode cJ6_bitCount_0f7a4 47 = .ok (.istore_n 0, 1) := by decide +kernel
theorem dJ6_bitCount_0f7a4_48 : decode cJ6_bitCount_0f7a4 48 = .ok (.iload_n 0, 1) := by decide +kernel
theorem dJ6_bitCount_0f7a4_49 : decode cJ6_bitCount_0f7a4 49 = .ok (.bipush 63, 2) := by decide +kernel
theorem dJ6_bitCount_0f7a4_51 : decode cJ6_bitCount_0f7a4 51 = .ok (.iand, 1) := by decide +kernel
theorem dJ6_bitCount_0f7a4_52 : decode cJ6_bitCount_0f7a4 52 = .ok (.ireturn, 1) := by decide +kernel
theorem dJ13_bitCount_95d88_0 : decode cJ13_bitCount_95d88 0 = .ok (.lload_n 0, 1) := by decide +kernel
theorem dJ13_bitCount_95d88_1 : decode cJ13_bitCount_95d88 1 = .ok (.lload_n 0, 1) := by decide +kernel
theorem dJ13_bitCount_95d88_2 : decode cJ13_bitCount_95d88 2 = .ok (.iconst 1, 1) := by decide +kernel
theorem dJ13_bitCount_95d88_3 : decode cJ13_bitCount_95d88 3 = .ok (.lushr, 1) := by decide +kernel
theorem dJ13_bitCount_95d88_4 : decode cJ13_bitCount_95d88 4 = .ok (.ldc2_w 314, 3) := by decide +kernel
theorem dJ13_bitCount_95d88_7 : decode cJ13_bitCount_95d88 7 = .ok (.land, 1) := by decide +kernel
theorem dJ13_bitCount_95d88_8 : decode cJ13_bitCount_95d88 8 = .ok (.lsub, 1) := by decide +kernel
theorem dJ13_bitCount_95d88_9 : decode cJ13_bitCount_95d88 9 = .ok (.lstore_n 0, 1) := by decide +kernel
theorem dJ13_bitCount_95d88_10 : decode cJ13_bitCount_95d88 10 = .ok (.lload_n 0, 1) := by decide +kernel
theorem dJ13_bitCount_95d88_11 : decode cJ13_bitCount_95d88 11 = .ok (.ldc2_w 316, 3) := by decide +kernel
theorem dJ13_bitCount_95d88_14 : decode cJ13_bitCount_95d88 14 = .ok (.land, 1) := by decide +kernel
theorem dJ13_bitCount_95d88_15 : decode cJ13_bitCount_95d88 15 = .ok (.lload_n 0, 1) := by decide +kernel
theorem dJ13_bitCount_95d88_16 : decode cJ13_bitCount_95d88 16 = .ok (.iconst 2, 1) := by decide +kernel
theorem dJ13_bitCount_95d88_17 : decode cJ13_bitCount_95d88 17 = .ok (.lushr, 1) := by decide +kernel
theorem dJ13_bitCount_95d88_18 : decode cJ13_bitCount_95d88 18 = .ok (.ldc2_w 316, 3) := by decide +kernel
theorem dJ13_bitCount_95d88_21 : decode cJ13_bitCount_95d88 21 = .ok (.land, 1) := by decide +kernel
theorem dJ13_bitCount_95d88_22 : decode cJ13_bitCount_95d88 22 = .ok (.ladd, 1) := by decide +kernel
theorem dJ13_bitCount_95d88_23 : decode cJ13_bitCount_95d88 23 = .ok (.lstore_n 0, 1) := by decide +kernel
theorem dJ13_bitCount_95d88_24 : decode cJ13_bitCount_95d88 24 = .ok (.lload_n 0, 1) := by decide +kernel
theorem dJ13_bitCount_95d88_25 : decode cJ13_bitCount_95d88 25 = .ok (.lload_n 0, 1) := by decide +kernel
theorem dJ13_bitCount_95d88_26 : decode cJ13_bitCount_95d88 26 = .ok (.iconst 4, 1) := by decide +kernel
theorem dJ13_bitCount_95d88_27 : decode cJ13_bitCount_95d88 27 = .ok (.lushr, 1) := by decide +kernel
theorem dJ13_bitCount_95d88_28 : decode cJ13_bitCount_95d88 28 = .ok (.ladd, 1) := by decide +kernel
theorem dJ13_bitCount_95d88_29 : decode cJ13_bitCount_95d88 29 = .ok (.ldc2_w 318, 3) := by decide +kernel
theorem dJ13_bitCount_95d88_32 : decode cJ13_bitCount_95d88 32 = .ok (.land, 1) := by decide +kernel
theorem dJ13_bitCount_95d88_33 : decode cJ13_bitCount_95d88 33 = .ok (.lstore_n 0, 1) := by decide +kernel
theorem dJ13_bitCount_95d88_34 : decode cJ13_bitCount_95d88 34 = .ok (.lload_n 0, 1) := by decide +kernel
theorem dJ13_bitCount_95d88_35 : decode cJ13_bitCount_95d88 35 = .ok (.lload_n 0, 1) := by decide +kernel
theorem dJ13_bitCount_95d88_36 : decode cJ13_bitCount_95d88 36 = .ok (.bipush 8, 2) := by decide +kernel
theorem dJ13_bitCount_95d88_38 : decode cJ13_bitCount_95d88 38 = .ok (.lushr, 1) := by decide +kernel
theorem dJ13_bitCount_95d88_39 : decode cJ13_bitCount_95d88 39 = .ok (.ladd, 1) := by decide +kernel
theorem dJ13_bitCount_95d88_40 : decode cJ13_bitCount_95d88 40 = .ok (.lstore_n 0, 1) := by decide +kernel
theorem dJ13_bitCount_95d88_41 : decode cJ13_bitCount_95d88 41 = .ok (.lload_n 0, 1) := by decide +kernel
theorem dJ13_bitCount_95d88_42 : decode cJ13_bitCount_95d88 42 = .ok (.lload_n 0, 1) := by decide +kernel
theorem dJ13_bitCount_95d88_43 : decode cJ13_bitCount_95d88 43 = .ok (.bipush 16, 2) := by decide +kernel
theorem dJ13_bitCount_95d88_45 : decode cJ13_bitCount_95d88 45 = .ok (.lushr, 1) := by decide +kernel
theorem dJ13_bitCount_95d88_46 : decode cJ13_bitCount_95d88 46 = .ok (.ladd, 1) := by decide +kernel
theorem dJ13_bitCount_95d88_47 : decode cJ13_bitCount_95d88 47 = .ok (.lstore_n 0, 1) := by decide +kernel
theorem dJ13_bitCount_95d88_48 : decode cJ13_bitCount_95d88 48 = .ok (.lload_n 0, 1) := by decide +kernel
theorem dJ13_bitCount_95d88_49 : decode cJ13_bitCount_95d88 49 = .ok (.lload_n 0, 1) := by decide +kernel
theorem dJ13_bitCount_95d88_50 : decode cJ13_bitCount_95d88 50 = .ok (.bipush 32, 2) := by decide +kernel
theorem dJ13_bitCount_95d88_52 : decode cJ13_bitCount_95d88 52 = .ok (.lushr, 1) := by decide +kernel
theorem dJ13_bitCount_95d88_53 : decode cJ13_bitCount_95d88 53 = .ok (.ladd, 1) := by decide +kernel
theorem dJ13_bitCount_95d88_54 : decode cJ13_bitCount_95d88 54 = .ok (.lstore_n 0, 1) := by decide +kernel
theorem dJ13_bitCount_95d88_55 : decode cJ13_bitCount_95d88 55 = .ok (.lload_n 0, 1) := by decide +kernel
theorem dJ13_bitCount_95d88_56 : decode cJ13_bitCount_95d88 56 = .ok (.l2i, 1) := by decide +kernel
theorem dJ13_bitCount_95d88_57 : decode cJ13_bitCount_95d88 57 = .ok (.bipush 127, 2) := by decide +kernel
theorem dJ13_bitCount_95d88_59 : decode cJ13_bitCount_95d88 59 = .ok (.iand, 1) := by decide +kernel
theorem dJ13_bitCount_95d88_60 : decode cJ13_bitCount_95d88 60 = .ok (.ireturn, 1) := by decide +kernel
theorem dJ9_min_7cf53_0 : decode cJ9_min_7cf53 0 = .ok (.iload_n 0, 1) := by decide +kernel
theorem dJ9_min_7cf53_1 : decode cJ9_min_7cf53 1 = .ok (.iload_n 1, 1) := by decide +kernel
theorem dJ9_min_7cf53_2 : decode cJ9_min_7cf53 2 = .ok (.if_icmp .gt 7, 3) := by decide +kernel
theorem dJ9_min_7cf53_5 : decode cJ9_min_7cf53 5 = .ok (.iload_n 0, 1) := by decide +kernel
theorem dJ9_min_7cf53_6 : decode cJ9_min_7cf53 6 = .ok (.goto 4, 3) := by decide +kernel
theorem dJ9_min_7cf53_9 : decode cJ9_min_7cf53 9 = .ok (.iload_n 1, 1) := by decide +kernel
theorem dJ9_min_7cf53_10 : decode cJ9_min_7cf53 10 = .ok (.ireturn, 1) := by decide +kernel
set_option maxRecDepth 20000 in
theorem ggL_addTitle_X4_addTitle : GoodIn wsL_addTitle wsX4_addTitle := goodIn_ca (goodIn_ca (goodIn_r _ [7, 8, 9, 10, 11, 12, 13, 14, 15, 16, 6, 17, 18, 19, 20, 21, 22, 23, 24, 25, 26, 27, 28, 29, 30, 31, 32, 33, 34, 35] (by decide +kernel) (by decide +kernel)) (goodIn_sub (fun _ h => List.mem_cons_of_mem _ (List.mem_append_left _ (List.mem_append_right _ h))) (by decide +kernel))) (goodIn_sub (fun _ h => List.mem_cons_of_mem _ (List.mem_append_right _ h)) (by decide +kernel))
set_option maxRecDepth 20000 in
theorem gL_addTitle_X4_addTitle : GoodIn wsL_addTitle (wsV RL 7 RX4 yX4_addTitle wsX4_addTitle) := goodIn_app (goodIn_of _ (by decide +kernel)) ggL_addTitle_X4_addTitle
theorem dL_addTitle_0 : decode cL_addTitle 0 = .ok (.aload_n 3, 1) := by decide +kernel
theorem dL_addTitle_1 : decode cL_addTitle 1 = .ok (.iconst 0, 1) := by decide +kernel
theorem dL_addTitle_2 : decode cL_addTitle 2 = .ok (.aload_n 0, 1) := by decide +kernel
theorem dL_addTitle_3 : decode cL_addTitle 3 = .ok (.iload_n 1, 1) := by decide +kernel
theorem dL_addTitle_4 : decode cL_addTitle 4 = .ok (.iload_n 2, 1) := by decide +kernel
theorem dL_addTitle_5 : decode cL_addTitle 5 = .ok (.invokevirtual 7, 3) := by decide +kernel
theorem dL_addTitle_8 : decode cL_addTitle 8 = .ok (.i2l, 1) := by decide +kernel
theorem dL_addTitle_9 : decode cL_addTitle 9 = .ok (.lastore, 1) := by decide +kernel
theorem dL_addTitle_10 : decode cL_addTitle 10 = .ok (.goto 11, 3) := by decide +kernel
theorem dL_addTitle_13 : decode cL_addTitle 13 = .ok (.astore 4, 2) := by decide +kernel
theorem dL_addTitle_15 : decode cL_addTitle 15 = .ok (.iconst 1, 1) := by decide +kernel
theorem dL_addTitle_16 : decode cL_addTitle 16 = .ok (.ireturn, 1) := by decide +kernel
theorem dL_addTitle_17 : decode cL_addTitle 17 = .ok (.astore 4, 2) := by decide +kernel
theorem dL_addTitle_19 : decode cL_addTitle 19 = .ok (.iconst 2, 1) := by decide +kernel
theorem dL_addTitle_20 : decode cL_addTitle 20 = .ok (.ireturn, 1) := by decide +kernel
theorem dL_addTitle_21 : decode cL_addTitle 21 = .ok (.iconst 0, 1) := by decide +kernel
theorem dL_addTitle_22 : decode cL_addTitle 22 = .ok (.ireturn, 1) := by decide +kernel
set_option maxRecDepth 20000 in
theorem ggL_yearOf_X4_yearOf : GoodIn wsL_yearOf wsX4_yearOf := goodIn_ca (goodIn_ca (goodIn_r _ [7, 8, 9, 10, 11, 6, 12, 13, 14, 15, 16, 17, 18, 19, 20, 21, 22, 23, 24, 25, 26, 27, 28, 29, 30, 31, 32, 33, 34, 35, 36] (by decide +kernel) (by decide +kernel)) (goodIn_sub (fun _ h => List.mem_cons_of_mem _ (List.mem_append_left _ (List.mem_append_right _ h))) (by decide +kernel))) (goodIn_sub (fun _ h => List.mem_cons_of_mem _ (List.mem_append_right _ h)) (by decide +kernel))
set_option maxRecDepth 20000 in
theorem gL_yearOf_X4_yearOf : GoodIn wsL_yearOf (wsV RL 17 RX4 yX4_yearOf wsX4_yearOf) := goodIn_app (goodIn_of _ (by decide +kernel)) ggL_yearOf_X4_yearOf
theorem dL_yearOf_0 : decode cL_yearOf 0 = .ok (.aload_n 3, 1) := by decide +kernel
theorem dL_yearOf_1 : decode cL_yearOf 1 = .ok (.iconst 0, 1) := by decide +kernel
theorem dL_yearOf_2 : decode cL_yearOf 2 = .ok (.aload_n 0, 1) := by decide +kernel
theorem dL_yearOf_3 : decode cL_yearOf 3 = .ok (.iload_n 1, 1) := by decide +kernel
theorem dL_yearOf_4 : decode cL_yearOf 4 = .ok (.iload_n 2, 1) := by decide +kernel
theorem dL_yearOf_5 : decode cL_yearOf 5 = .ok (.invokevirtual 17, 3) := by decide +kernel
theorem dL_yearOf_8 : decode cL_yearOf 8 = .ok (.i2l, 1) := by decide +kernel
theorem dL_yearOf_9 : decode cL_yearOf 9 = .ok (.lastore, 1) := by decide +kernel
theorem dL_yearOf_10 : decode cL_yearOf 10 = .ok (.goto 11, 3) := by decide +kernel
theorem dL_yearOf_13 : decode cL_yearOf 13 = .ok (.astore 4, 2) := by decide +kernel
theorem dL_yearOf_15 : decode cL_yearOf 15 = .ok (.iconst 1, 1) := by decide +kernel
theorem dL_yearOf_16 : decode cL_yearOf 16 = .ok (.ireturn, 1) := by decide +kernel
theorem dL_yearOf_17 : decode cL_yearOf 17 = .ok (.astore 4, 2) := by decide +kernel
theorem dL_yearOf_19 : decode cL_yearOf 19 = .ok (.iconst 2, 1) := by decide +kernel
theorem dL_yearOf_20 : decode cL_yearOf 20 = .ok (.ireturn, 1) := by decide +kernel
theorem dL_yearOf_21 : decode cL_yearOf 21 = .ok (.iconst 0, 1) := by decide +kernel
theorem dL_yearOf_22 : decode cL_yearOf 22 = .ok (.ireturn, 1) := by decide +kernel
set_option maxRecDepth 20000 in
theorem ggL_volumeOf_X4_volumeOf : GoodIn wsL_volumeOf wsX4_volumeOf := goodIn_ca (goodIn_ca (goodIn_r _ [7, 8, 9, 10, 11, 6, 12, 13, 14, 15, 16, 17, 18, 19, 20, 21, 22, 23, 24, 25, 26, 27, 28, 29, 30, 31, 32, 33, 34, 35, 36] (by decide +kernel) (by decide +kernel)) (goodIn_sub (fun _ h => List.mem_cons_of_mem _ (List.mem_append_left _ (List.mem_append_right _ h))) (by decide +kernel))) (goodIn_sub (fun _ h => List.mem_cons_of_mem _ (List.mem_append_right _ h)) (by decide +kernel))
end
section
set_option maxRecDepth 20000 in
theorem gL_volumeOf_X4_volumeOf : GoodIn wsL_volumeOf (wsV RL 22 RX4 yX4_volumeOf wsX4_volumeOf) := goodIn_app (goodIn_of _ (by decide +kernel)) ggL_volumeOf_X4_volumeOf
theorem dL_volumeOf_0 : decode cL_volumeOf 0 = .ok (.aload_n 3, 1) := by decide +kernel
theorem dL_volumeOf_1 : decode cL_volumeOf 1 = .ok (.iconst 0, 1) := by decide +kernel
theorem dL_volumeOf_2 : decode cL_volumeOf 2 = .ok (.aload_n 0, 1) := by decide +kernel
theorem dL_volumeOf_3 : decode cL_volumeOf 3 = .ok (.iload_n 1, 1) := by decide +kernel
theorem dL_volumeOf_4 : decode cL_volumeOf 4 = .ok (.iload_n 2, 1) := by decide +kernel
theorem dL_volumeOf_5 : decode cL_volumeOf 5 = .ok (.invokevirtual 22, 3) := by decide +kernel
theorem dL_volumeOf_8 : decode cL_volumeOf 8 = .ok (.i2l, 1) := by decide +kernel
theorem dL_volumeOf_9 : decode cL_volumeOf 9 = .ok (.lastore, 1) := by decide +kernel
theorem dL_volumeOf_10 : decode cL_volumeOf 10 = .ok (.goto 11, 3) := by decide +kernel
theorem dL_volumeOf_13 : decode cL_volumeOf 13 = .ok (.astore 4, 2) := by decide +kernel
theorem dL_volumeOf_15 : decode cL_volumeOf 15 = .ok (.iconst 1, 1) := by decide +kernel
theorem dL_volumeOf_16 : decode cL_volumeOf 16 = .ok (.ireturn, 1) := by decide +kernel
theorem dL_volumeOf_17 : decode cL_volumeOf 17 = .ok (.astore 4, 2) := by decide +kernel
theorem dL_volumeOf_19 : decode cL_volumeOf 19 = .ok (.iconst 2, 1) := by decide +kernel
theorem dL_volumeOf_20 : decode cL_volumeOf 20 = .ok (.ireturn, 1) := by decide +kernel
theorem dL_volumeOf_21 : decode cL_volumeOf 21 = .ok (.iconst 0, 1) := by decide +kernel
theorem dL_volumeOf_22 : decode cL_volumeOf 22 = .ok (.ireturn, 1) := by decide +kernel
set_option maxRecDepth 20000 in
theorem ggL_addPackage_X4_addPackage : GoodIn wsL_addPackage wsX4_addPackage := goodIn_ca (goodIn_ca (goodIn_r _ [7, 8, 9, 10, 11, 12, 13, 14, 15, 16, 6, 17, 18, 19, 20, 21, 22, 23, 24, 25, 26, 27, 28, 29, 30, 31, 32, 33, 34, 35, 36, 37, 38, 39, 40, 41, 42, 43, 44, 45, 46, 47, 48, 49, 50, 51, 52, 53, 54] (by decide +kernel) (by decide +kernel)) (goodIn_sub (fun _ h => List.mem_cons_of_mem _ (List.mem_append_left _ (List.mem_append_right _ h))) (by decide +kernel))) (goodIn_sub (fun _ h => List.mem_cons_of_mem _ (List.mem_append_right _ h)) (by decide +kernel))
set_option maxRecDepth 20000 in
theorem gL_addPackage_X4_addPackage : GoodIn wsL_addPackage (wsV RL 25 RX4 yX4_addPackage wsX4_addPackage) := goodIn_app (goodIn_of _ (by decide +kernel)) ggL_addPackage_X4_addPackage
theorem dL_addPackage_0 : decode cL_addPackage 0 = .ok (.aload 5, 2) := by decide +kernel
theorem dL_addPackage_2 : decode cL_addPackage 2 = .ok (.iconst 0, 1) := by decide +kernel
theorem dL_addPackage_3 : decode cL_addPackage 3 = .ok (.aload_n 0, 1) := by decide +kernel
theorem dL_addPackage_4 : decode cL_addPackage 4 = .ok (.iload_n 1, 1) := by decide +kernel
theorem dL_addPackage_5 : decode cL_addPackage 5 = .ok (.iload_n 2, 1) := by decide +kernel
theorem dL_addPackage_6 : decode cL_addPackage 6 = .ok (.iload_n 3, 1) := by decide +kernel
theorem dL_addPackage_7 : decode cL_addPackage 7 = .ok (.iload 4, 2) := by decide +kernel
theorem dL_addPackage_9 : decode cL_addPackage 9 = .ok (.invokevirtual 25, 3) := by decide +kernel
theorem dL_addPackage_12 : decode cL_addPackage 12 = .ok (.i2l, 1) := by decide +kernel
theorem dL_addPackage_13 : decode cL_addPackage 13 = .ok (.lastore, 1) := by decide +kernel
theorem dL_addPackage_14 : decode cL_addPackage 14 = .ok (.goto 11, 3) := by decide +kernel
theorem dL_addPackage_17 : decode cL_addPackage 17 = .ok (.astore 6, 2) := by decide +kernel
theorem dL_addPackage_19 : decode cL_addPackage 19 = .ok (.iconst 1, 1) := by decide +kernel
theorem dL_addPackage_20 : decode cL_addPackage 20 = .ok (.ireturn, 1) := by decide +kernel
theorem dL_addPackage_21 : decode cL_addPackage 21 = .ok (.astore 6, 2) := by decide +kernel
theorem dL_addPackage_23 : decode cL_addPackage 23 = .ok (.iconst 2, 1) := by decide +kernel
theorem dL_addPackage_24 : decode cL_addPackage 24 = .ok (.ireturn, 1) := by decide +kernel
theorem dL_addPackage_25 : decode cL_addPackage 25 = .ok (.iconst 0, 1) := by decide +kernel
theorem dL_addPackage_26 : decode cL_addPackage 26 = .ok (.ireturn, 1) := by decide +kernel
set_option maxRecDepth 20000 in
theorem ggL_subscribe_X4_subscribe : GoodIn wsL_subscribe wsX4_subscribe := goodIn_ca (goodIn_r _ [6, 7, 8, 9, 10, 11, 12, 5, 13, 14, 15, 16, 17, 18, 19, 20, 21, 22, 23, 24, 25, 26, 27, 28, 29, 30, 31, 32, 33, 34, 35, 36, 37, 38, 39, 40, 41, 42, 43, 44, 45, 46, 47, 48, 49, 50, 51, 52, 53, 54, 55, 56, 57, 58, 59, 60, 61, 62, 63, 64, 65, 66, 67, 68, 69, 70] (by decide +kernel) (by decide +kernel)) (goodIn_sub (fun _ h => List.mem_cons_of_mem _ (List.mem_append_right _ h)) (by decide +kernel))
set_option maxRecDepth 20000 in
theorem gL_subscribe_X4_subscribe : GoodIn wsL_subscribe (wsV RL 29 RX4 yX4_subscribe wsX4_subscribe) := goodIn_app (goodIn_of _ (by decide +kernel)) ggL_subscribe_X4_subscribe
theorem dL_subscribe_0 : decode cL_subscribe 0 = .ok (.aload_n 3, 1) := by decide +kernel
theorem dL_subscribe_1 : decode cL_subscribe 1 = .ok (.iconst 0, 1) := by decide +kernel
theorem dL_subscribe_2 : decode cL_subscribe 2 = .ok (.aload_n 0, 1) := by decide +kernel
theorem dL_subscribe_3 : decode cL_subscribe 3 = .ok (.iload_n 1, 1) := by decide +kernel
theorem dL_subscribe_4 : decode cL_subscribe 4 = .ok (.iload_n 2, 1) := by decide +kernel
theorem dL_subscribe_5 : decode cL_subscribe 5 = .ok (.invokevirtual 29, 3) := by decide +kernel
theorem dL_subscribe_8 : decode cL_subscribe 8 = .ok (.ifCond .eq 7, 3) := by decide +kernel
theorem dL_subscribe_11 : decode cL_subscribe 11 = .ok (.lconst 1, 1) := by decide +kernel
theorem dL_subscribe_12 : decode cL_subscribe 12 = .ok (.goto 4, 3) := by decide +kernel
theorem dL_subscribe_15 : decode cL_subscribe 15 = .ok (.lconst 0, 1) := by decide +kernel
theorem dL_subscribe_16 : decode cL_subscribe 16 = .ok (.lastore, 1) := by decide +kernel
theorem dL_subscribe_17 : decode cL_subscribe 17 = .ok (.goto 7, 3) := by decide +kernel
theorem dL_subscribe_20 : decode cL_subscribe 20 = .ok (.astore 4, 2) := by decide +kernel
theorem dL_subscribe_22 : decode cL_subscribe 22 = .ok (.iconst 1, 1) := by decide +kernel
theorem dL_subscribe_23 : decode cL_subscribe 23 = .ok (.ireturn, 1) := by decide +kernel
theorem dL_subscribe_24 : decode cL_subscribe 24 = .ok (.iconst 0, 1) := by decide +kernel
theorem dL_subscribe_25 : decode cL_subscribe 25 = .ok (.ireturn, 1) := by decide +kernel
set_option maxRecDepth 20000 in
theorem ggL_come_X4_come : GoodIn wsL_come wsX4_come := goodIn_ca (goodIn_ca (goodIn_ca (goodIn_r _ [7, 8, 9, 10, 11, 6, 12, 13, 14, 15, 16, 17, 18, 19, 20, 21, 22, 23, 24, 25, 26, 27, 28, 29, 30, 31, 32, 33, 34, 35, 36, 37, 38, 39, 40, 41, 42, 43, 44, 45, 46, 47, 48, 49, 50, 51, 52, 53, 54, 55, 56, 57, 58, 59, 60, 61, 62, 63, 64, 65, 66, 67, 68, 69, 70, 71, 72, 73, 74, 75, 76, 77, 78, 79, 80, 81, 82, 83, 84, 85, 86, 87, 88, 89, 90, 91, 92, 93, 94] (by decide +kernel) (by decide +kernel)) (goodIn_sub (fun _ h => List.mem_cons_of_mem _ (List.mem_append_left _ (List.mem_append_left _ (List.mem_append_right _ h)))) (by decide +kernel))) (goodIn_sub (fun _ h => List.mem_cons_of_mem _ (List.mem_append_left _ (List.mem_append_right _ h))) (by decide +kernel))) (goodIn_sub (fun _ h => List.mem_cons_of_mem _ (List.mem_append_right _ h)) (by decide +kernel))
set_option maxRecDepth 20000 in
theorem gL_come_X4_come : GoodIn wsL_come (wsV RL 33 RX4 yX4_come wsX4_come) := goodIn_app (goodIn_of _ (by decide +kernel)) ggL_come_X4_come
theorem dL_come_0 : decode cL_come 0 = .ok (.aload 6, 2) := by decide +kernel
theorem dL_come_2 : decode cL_come 2 = .ok (.iconst 0, 1) := by decide +kernel
theorem dL_come_3 : decode cL_come 3 = .ok (.aload_n 0, 1) := by decide +kernel
theorem dL_come_4 : decode cL_come 4 = .ok (.iload_n 1, 1) := by decide +kernel
theorem dL_come_5 : decode cL_come 5 = .ok (.iload_n 2, 1) := by decide +kernel
theorem dL_come_6 : decode cL_come 6 = .ok (.iload_n 3, 1) := by decide +kernel
theorem dL_come_7 : decode cL_come 7 = .ok (.iload 4, 2) := by decide +kernel
theorem dL_come_9 : decode cL_come 9 = .ok (.iload 5, 2) := by decide +kernel
theorem dL_come_11 : decode cL_come 11 = .ok (.invokevirtual 33, 3) := by decide +kernel
theorem dL_come_14 : decode cL_come 14 = .ok (.ifCond .eq 7, 3) := by decide +kernel
theorem dL_come_17 : decode cL_come 17 = .ok (.lconst 1, 1) := by decide +kernel
theorem dL_come_18 : decode cL_come 18 = .ok (.goto 4, 3) := by decide +kernel
theorem dL_come_21 : decode cL_come 21 = .ok (.lconst 0, 1) := by decide +kernel
theorem dL_come_22 : decode cL_come 22 = .ok (.lastore, 1) := by decide +kernel
theorem dL_come_23 : decode cL_come 23 = .ok (.goto 11, 3) := by decide +kernel
theorem dL_come_26 : decode cL_come 26 = .ok (.astore 7, 2) := by decide +kernel
theorem dL_come_28 : decode cL_come 28 = .ok (.iconst 1, 1) := by decide +kernel
theorem dL_come_29 : decode cL_come 29 = .ok (.ireturn, 1) := by decide +kernel
theorem dL_come_30 : decode cL_come 30 = .ok (.astore 7, 2) := by decide +kernel
theorem dL_come_32 : decode cL_come 32 = .ok (.iconst 2, 1) := by decide +kernel
theorem dL_come_33 : decode cL_come 33 = .ok (.ireturn, 1) := by decide +kernel
theorem dL_come_34 : decode cL_come 34 = .ok (.iconst 0, 1) := by decide +kernel
theorem dL_come_35 : decode cL_come 35 = .ok (.ireturn, 1) := by decide +kernel
set_option maxRecDepth 20000 in
theorem ggL_go_X4_go : GoodIn wsL_go wsX4_go := goodIn_ca (goodIn_ca (goodIn_ca (goodIn_r _ [7, 8, 9, 10, 11, 12, 13, 6, 14, 15, 16, 17, 18, 19, 20, 21, 22, 23, 24, 25, 26, 27, 28, 29, 30, 31, 32, 33, 34, 35, 36, 37, 38, 39, 40, 41, 42, 43, 44, 45, 46, 47, 48, 49, 50, 51, 52, 53, 54, 55, 56, 57, 58, 59, 60, 61, 62, 63, 64, 65, 66, 67, 68, 69, 70, 71, 72, 73, 74, 75, 76, 77, 78, 79, 80, 81, 82, 83, 84, 85, 86, 87, 88] (by decide +kernel) (by decide +kernel)) (goodIn_sub (fun _ h => List.mem_cons_of_mem _ (List.mem_append_left _ (List.mem_append_left _ (List.mem_append_right _ h)))) (by decide +kernel))) (goodIn_sub (fun _ h => List.mem_cons_of_mem _ (List.mem_append_left _ (List.mem_append_right _ h))) (by decide +kernel))) (goodIn_sub (fun _ h => List.mem_cons_of_mem _ (List.mem_append_right _ h)) (by decide +kernel))
set_option maxRecDepth 20000 in
theorem gL_go_X4_go : GoodIn wsL_go (wsV RL 37 RX4 yX4_go wsX4_go) := goodIn_app (goodIn_of _ (by decide +kernel)) ggL_go_X4_go
theorem dL_go_0 : decode cL_go 0 = .ok (.aload_n 0, 1) := by decide +kernel
theorem dL_go_1 : decode cL_go 1 = .ok (.iload_n 1, 1) := by decide +kernel
theorem dL_go_2 : decode cL_go 2 = .ok (.iload_n 2, 1) := by decide +kernel
theorem dL_go_3 : decode cL_go 3 = .ok (.invokevirtual 37, 3) := by decide +kernel
theorem dL_go_6 : decode cL_go 6 = .ok (.goto 9, 3) := by decide +kernel
theorem dL_go_9 : decode cL_go 9 = .ok (.astore_n 3, 1) := by decide +kernel
theorem dL_go_10 : decode cL_go 10 = .ok (.iconst 1, 1) := by decide +kernel
theorem dL_go_11 : decode cL_go 11 = .ok (.ireturn, 1) := by decide +kernel
theorem dL_go_12 : decode cL_go 12 = .ok (.astore_n 3, 1) := by decide +kernel
theorem dL_go_13 : decode cL_go 13 = .ok (.iconst 2, 1) := by decide +kernel
theorem dL_go_14 : decode cL_go 14 = .ok (.ireturn, 1) := by decide +kernel
theorem dL_go_15 : decode cL_go 15 = .ok (.iconst 0, 1) := by decide +kernel
theorem dL_go_16 : decode cL_go 16 = .ok (.ireturn, 1) := by decide +kernel
set_option maxRecDepth 20000 in
theorem ggL_pass_X4_pass : GoodIn wsL_pass wsX4_pass := goodIn_ca (goodIn_ca (goodIn_r _ [7, 8, 9, 10, 11, 12, 6, 13, 14, 15, 16, 17, 18, 19, 20, 21] (by decide +kernel) (by decide +kernel)) (goodIn_sub (fun _ h => List.mem_cons_of_mem _ (List.mem_append_left _ (List.mem_append_right _ h))) (by decide +kernel))) (goodIn_sub (fun _ h => List.mem_cons_of_mem _ (List.mem_append_right _ h)) (by decide +kernel))
set_option maxRecDepth 20000 in
theorem gL_pass_X4_pass : GoodIn wsL_pass (wsV RL 41 RX4 yX4_pass wsX4_pass) := goodIn_app (goodIn_of _ (by decide +kernel)) ggL_pass_X4_pass
theorem dL_pass_0 : decode cL_pass 0 = .ok (.aload_n 2, 1) := by decide +kernel
theorem dL_pass_1 : decode cL_pass 1 = .ok (.iconst 0, 1) := by decide +kernel
theorem dL_pass_2 : decode cL_pass 2 = .ok (.aload_n 0, 1) := by decide +kernel
theorem dL_pass_3 : decode cL_pass 3 = .ok (.iload_n 1, 1) := by decide +kernel
theorem dL_pass_4 : decode cL_pass 4 = .ok (.invokevirtual 41, 3) := by decide +kernel
theorem dL_pass_7 : decode cL_pass 7 = .ok (.i2l, 1) := by decide +kernel
theorem dL_pass_8 : decode cL_pass 8 = .ok (.lastore, 1) := by decide +kernel
theorem dL_pass_9 : decode cL_pass 9 = .ok (.goto 9, 3) := by decide +kernel
theorem dL_pass_12 : decode cL_pass 12 = .ok (.astore_n 3, 1) := by decide +kernel
theorem dL_pass_13 : decode cL_pass 13 = .ok (.iconst 1, 1) := by decide +kernel
theorem dL_pass_14 : decode cL_pass 14 = .ok (.ireturn, 1) := by decide +kernel
theorem dL_pass_15 : decode cL_pass 15 = .ok (.astore_n 3, 1) := by decide +kernel
theorem dL_pass_16 : decode cL_pass 16 = .ok (.iconst 2, 1) := by decide +kernel
theorem dL_pass_17 : decode cL_pass 17 = .ok (.ireturn, 1) := by decide +kernel
theorem dL_pass_18 : decode cL_pass 18 = .ok (.iconst 0, 1) := by decide +kernel
theorem dL_pass_19 : decode cL_pass 19 = .ok (.ireturn, 1) := by decide +kernel
set_option maxRecDepth 20000 in
theorem ggL_isSubscribed_X4_isSubscribed : GoodIn wsL_isSubscribed wsX4_isSubscribed := goodIn_ca (goodIn_ca (goodIn_r _ [7, 8, 9, 10, 11, 12, 6, 13, 14, 15, 16, 17, 18, 19, 20, 21, 22, 23, 24, 25, 26, 27, 28, 29, 30, 31, 32, 33, 34, 35, 36, 37, 38, 39, 40, 41, 42, 43, 44, 45, 46, 47, 48, 49, 50, 51, 52, 53] (by decide +kernel) (by decide +kernel)) (goodIn_sub (fun _ h => List.mem_cons_of_mem _ (List.mem_append_left _ (List.mem_append_right _ h))) (by decide +kernel))) (goodIn_sub (fun _ h => List.mem_cons_of_mem _ (List.mem_append_right _ h)) (by decide +kernel))
set_option maxRecDepth 20000 in
theorem gL_isSubscribed_X4_isSubscribed : GoodIn wsL_isSubscribed (wsV RL 45 RX4 yX4_isSubscribed wsX4_isSubscribed) := goodIn_app (goodIn_of _ (by decide +kernel)) ggL_isSubscribed_X4_isSubscribed
theorem dL_isSubscribed_0 : decode cL_isSubscribed 0 = .ok (.aload_n 3, 1) := by decide +kernel
theorem dL_isSubscribed_1 : decode cL_isSubscribed 1 = .ok (.iconst 0, 1) := by decide +kernel
theorem dL_isSubscribed_2 : decode cL_isSubscribed 2 = .ok (.aload_n 0, 1) := by decide +kernel
theorem dL_isSubscribed_3 : decode cL_isSubscribed 3 = .ok (.iload_n 1, 1) := by decide +kernel
theorem dL_isSubscribed_4 : decode cL_isSubscribed 4 = .ok (.iload_n 2, 1) := by decide +kernel
theorem dL_isSubscribed_5 : decode cL_isSubscribed 5 = .ok (.invokevirtual 45, 3) := by decide +kernel
theorem dL_isSubscribed_8 : decode cL_isSubscribed 8 = .ok (.ifCond .eq 7, 3) := by decide +kernel
theorem dL_isSubscribed_11 : decode cL_isSubscribed 11 = .ok (.lconst 1, 1) := by decide +kernel
theorem dL_isSubscribed_12 : decode cL_isSubscribed 12 = .ok (.goto 4, 3) := by decide +kernel
theorem dL_isSubscribed_15 : decode cL_isSubscribed 15 = .ok (.lconst 0, 1) := by decide +kernel
theorem dL_isSubscribed_16 : decode cL_isSubscribed 16 = .ok (.lastore, 1) := by decide +kernel
theorem dL_isSubscribed_17 : decode cL_isSubscribed 17 = .ok (.goto 11, 3) := by decide +kernel
theorem dL_isSubscribed_20 : decode cL_isSubscribed 20 = .ok (.astore 4, 2) := by decide +kernel
theorem dL_isSubscribed_22 : decode cL_isSubscribed 22 = .ok (.iconst 1, 1) := by decide +kernel
theorem dL_isSubscribed_23 : decode cL_isSubscribed 23 = .ok (.ireturn, 1) := by decide +kernel
theorem dL_isSubscribed_24 : decode cL_isSubscribed 24 = .ok (.astore 4, 2) := by decide +kernel
theorem dL_isSubscribed_26 : decode cL_isSubscribed 26 = .ok (.iconst 2, 1) := by decide +kernel
theorem dL_isSubscribed_27 : decode cL_isSubscribed 27 = .ok (.ireturn, 1) := by decide +kernel
theorem dL_isSubscribed_28 : decode cL_isSubscribed 28 = .ok (.iconst 0, 1) := by decide +kernel
theorem dL_isSubscribed_29 : decode cL_isSubscribed 29 = .ok (.ireturn, 1) := by decide +kernel
set_option maxRecDepth 20000 in
theorem ggL_isIn_X4_isIn : GoodIn wsL_isIn wsX4_isIn := goodIn_ca (goodIn_ca (goodIn_ca (goodIn_r _ [7, 8, 9, 10, 11, 6, 12, 13, 14, 15, 16, 17, 18, 19, 20, 21, 22, 23, 24, 25, 26, 27, 28, 29, 30, 31, 32, 33, 34, 35, 36, 37, 38, 39, 40, 41, 42, 43, 44, 45, 46, 47, 48, 49, 50, 51, 52, 53, 54, 55, 56, 57, 58, 59, 60, 61, 62, 63, 64, 65, 66, 67, 68, 69] (by decide +kernel) (by decide +kernel)) (goodIn_sub (fun _ h => List.mem_cons_of_mem _ (List.mem_append_left _ (List.mem_append_left _ (List.mem_append_right _ h)))) (by decide +kernel))) (goodIn_sub (fun _ h => List.mem_cons_of_mem _ (List.mem_append_left _ (List.mem_append_right _ h))) (by decide +kernel))) (goodIn_sub (fun _ h => List.mem_cons_of_mem _ (List.mem_append_right _ h)) (by decide +kernel))
set_option maxRecDepth 20000 in
theorem gL_isIn_X4_isIn : GoodIn wsL_isIn (wsV RL 49 RX4 yX4_isIn wsX4_isIn) := goodIn_app (goodIn_of _ (by decide +kernel)) ggL_isIn_X4_isIn
theorem dL_isIn_0 : decode cL_isIn 0 = .ok (.aload 4, 2) := by decide +kernel
theorem dL_isIn_2 : decode cL_isIn 2 = .ok (.iconst 0, 1) := by decide +kernel
theorem dL_isIn_3 : decode cL_isIn 3 = .ok (.aload_n 0, 1) := by decide +kernel
theorem dL_isIn_4 : decode cL_isIn 4 = .ok (.iload_n 1, 1) := by decide +kernel
theorem dL_isIn_5 : decode cL_isIn 5 = .ok (.iload_n 2, 1) := by decide +kernel
theorem dL_isIn_6 : decode cL_isIn 6 = .ok (.iload_n 3, 1) := by decide +kernel
theorem dL_isIn_7 : decode cL_isIn 7 = .ok (.invokevirtual 49, 3) := by decide +kernel
theorem dL_isIn_10 : decode cL_isIn 10 = .ok (.ifCond .eq 7, 3) := by decide +kernel
theorem dL_isIn_13 : decode cL_isIn 13 = .ok (.lconst 1, 1) := by decide +kernel
theorem dL_isIn_14 : decode cL_isIn 14 = .ok (.goto 4, 3) := by decide +kernel
theorem dL_isIn_17 : decode cL_isIn 17 = .ok (.lconst 0, 1) := by decide +kernel
theorem dL_isIn_18 : decode cL_isIn 18 = .ok (.lastore, 1) := by decide +kernel
theorem dL_isIn_19 : decode cL_isIn 19 = .ok (.goto 11, 3) := by decide +kernel
theorem dL_isIn_22 : decode cL_isIn 22 = .ok (.astore 5, 2) := by decide +kernel
theorem dL_isIn_24 : decode cL_isIn 24 = .ok (.iconst 1, 1) := by decide +kernel
theorem dL_isIn_25 : decode cL_isIn 25 = .ok (.ireturn, 1) := by decide +kernel
theorem dL_isIn_26 : decode cL_isIn 26 = .ok (.astore 5, 2) := by decide +kernel
theorem dL_isIn_28 : decode cL_isIn 28 = .ok (.iconst 2, 1) := by decide +kernel
theorem dL_isIn_29 : decode cL_isIn 29 = .ok (.ireturn, 1) := by decide +kernel
theorem dL_isIn_30 : decode cL_isIn 30 = .ok (.iconst 0, 1) := by decide +kernel
theorem dL_isIn_31 : decode cL_isIn 31 = .ok (.ireturn, 1) := by decide +kernel
set_option maxRecDepth 20000 in
theorem ggL_report_X4_report : GoodIn wsL_report wsX4_report := goodIn_ca (goodIn_ca (goodIn_r _ [6, 7, 8, 9, 10, 5, 11, 12, 13, 14, 15, 16, 17, 18, 19, 20, 21, 22, 23, 24, 25, 26, 27, 28, 29, 30, 31, 32, 33, 34, 35, 36, 37, 38, 39, 40, 41, 42, 43, 44, 45, 46] (by decide +kernel) (by decide +kernel)) (goodIn_sub (fun _ h => List.mem_cons_of_mem _ (List.mem_append_left _ (List.mem_append_right _ h))) (by decide +kernel))) (goodIn_sub (fun _ h => List.mem_cons_of_mem _ (List.mem_append_right _ h)) (by decide +kernel))
set_option maxRecDepth 20000 in
theorem gL_report_X4_report : GoodIn wsL_report (wsV RL 53 RX4 yX4_report wsX4_report) := goodIn_app (goodIn_of _ (by decide +kernel)) ggL_report_X4_report
theorem dL_report_0 : decode cL_report 0 = .ok (.aload_n 3, 1) := by decide +kernel
theorem dL_report_1 : decode cL_report 1 = .ok (.iconst 0, 1) := by decide +kernel
theorem dL_report_2 : decode cL_report 2 = .ok (.aload_n 0, 1) := by decide +kernel
theorem dL_report_3 : decode cL_report 3 = .ok (.iload_n 1, 1) := by decide +kernel
theorem dL_report_4 : decode cL_report 4 = .ok (.iload_n 2, 1) := by decide +kernel
theorem dL_report_5 : decode cL_report 5 = .ok (.invokevirtual 53, 3) := by decide +kernel
theorem dL_report_8 : decode cL_report 8 = .ok (.i2l, 1) := by decide +kernel
theorem dL_report_9 : decode cL_report 9 = .ok (.lastore, 1) := by decide +kernel
theorem dL_report_10 : decode cL_report 10 = .ok (.goto 7, 3) := by decide +kernel
theorem dL_report_13 : decode cL_report 13 = .ok (.astore 4, 2) := by decide +kernel
theorem dL_report_15 : decode cL_report 15 = .ok (.iconst 1, 1) := by decide +kernel
theorem dL_report_16 : decode cL_report 16 = .ok (.ireturn, 1) := by decide +kernel
theorem dL_report_17 : decode cL_report 17 = .ok (.iconst 0, 1) := by decide +kernel
theorem dL_report_18 : decode cL_report 18 = .ok (.ireturn, 1) := by decide +kernel
set_option maxRecDepth 20000 in
theorem ggL_mend_X4_mend : GoodIn wsL_mend wsX4_mend := goodIn_ca (goodIn_ca (goodIn_r _ [6, 7, 8, 9, 10, 5, 11, 12, 13, 14, 15, 16, 17, 18, 19, 20, 21, 22, 23, 24, 25, 26, 27, 28, 29, 30, 31, 32, 33, 34, 35, 36, 37, 38, 39, 40, 41, 42, 43, 44, 45, 46] (by decide +kernel) (by decide +kernel)) (goodIn_sub (fun _ h => List.mem_cons_of_mem _ (List.mem_append_left _ (List.mem_append_right _ h))) (by decide +kernel))) (goodIn_sub (fun _ h => List.mem_cons_of_mem _ (List.mem_append_right _ h)) (by decide +kernel))
set_option maxRecDepth 20000 in
theorem gL_mend_X4_mend : GoodIn wsL_mend (wsV RL 56 RX4 yX4_mend wsX4_mend) := goodIn_app (goodIn_of _ (by decide +kernel)) ggL_mend_X4_mend
theorem dL_mend_0 : decode cL_mend 0 = .ok (.aload_n 3, 1) := by decide +kernel
theorem dL_mend_1 : decode cL_mend 1 = .ok (.iconst 0, 1) := by decide +kernel
theorem dL_mend_2 : decode cL_mend 2 = .ok (.aload_n 0, 1) := by decide +kernel
theorem dL_mend_3 : decode cL_mend 3 = .ok (.iload_n 1, 1) := by decide +kernel
theorem dL_mend_4 : decode cL_mend 4 = .ok (.iload_n 2, 1) := by decide +kernel
theorem dL_mend_5 : decode cL_mend 5 = .ok (.invokevirtual 56, 3) := by decide +kernel
theorem dL_mend_8 : decode cL_mend 8 = .ok (.i2l, 1) := by decide +kernel
theorem dL_mend_9 : decode cL_mend 9 = .ok (.lastore, 1) := by decide +kernel
theorem dL_mend_10 : decode cL_mend 10 = .ok (.goto 7, 3) := by decide +kernel
theorem dL_mend_13 : decode cL_mend 13 = .ok (.astore 4, 2) := by decide +kernel
theorem dL_mend_15 : decode cL_mend 15 = .ok (.iconst 1, 1) := by decide +kernel
theorem dL_mend_16 : decode cL_mend 16 = .ok (.ireturn, 1) := by decide +kernel
theorem dL_mend_17 : decode cL_mend 17 = .ok (.iconst 0, 1) := by decide +kernel
theorem dL_mend_18 : decode cL_mend 18 = .ok (.ireturn, 1) := by decide +kernel
set_option maxRecDepth 20000 in
theorem ggL_covers_X4_covers : GoodIn wsL_covers wsX4_covers := goodIn_ca (goodIn_ca (goodIn_ca (goodIn_r _ [7, 8, 9, 10, 6, 11, 12, 13, 14, 15, 16, 17, 18, 19, 20, 21, 22, 23, 24, 25, 26, 27, 28, 29, 30, 31, 32, 33, 34, 35, 36, 37, 38, 39, 40, 41, 42, 43, 44, 45, 46, 47, 48, 49, 50, 51, 52, 53, 54, 55, 56, 57, 58, 59, 60, 61, 62, 63, 64, 65, 66, 67, 68, 69, 70, 71, 72, 73, 74, 75, 76, 77, 78, 79, 80, 81, 82, 83, 84, 85, 86, 87, 88, 89, 90, 91, 92, 93, 94, 95, 96, 97, 98, 99, 100, 101, 102, 103, 104, 105] (by decide +kernel) (by decide +kernel)) (goodIn_sub (fun _ h => List.mem_cons_of_mem _ (List.mem_append_left _ (List.mem_append_left _ (List.mem_append_right _ h)))) (by decide +kernel))) (goodIn_sub (fun _ h => List.mem_cons_of_mem _ (List.mem_append_left _ (List.mem_append_right _ h))) (by decide +kernel))) (goodIn_sub (fun _ h => List.mem_cons_of_mem _ (List.mem_append_right _ h)) (by decide +kernel))
set_option maxRecDepth 20000 in
theorem gL_covers_X4_covers : GoodIn wsL_covers (wsV RL 59 RX4 yX4_covers wsX4_covers) := goodIn_app (goodIn_of _ (by decide +kernel)) ggL_covers_X4_covers
theorem dL_covers_0 : decode cL_covers 0 = .ok (.aload 6, 2) := by decide +kernel
theorem dL_covers_2 : decode cL_covers 2 = .ok (.iconst 0, 1) := by decide +kernel
theorem dL_covers_3 : decode cL_covers 3 = .ok (.aload_n 0, 1) := by decide +kernel
theorem dL_covers_4 : decode cL_covers 4 = .ok (.iload_n 1, 1) := by decide +kernel
theorem dL_covers_5 : decode cL_covers 5 = .ok (.iload_n 2, 1) := by decide +kernel
theorem dL_covers_6 : decode cL_covers 6 = .ok (.iload_n 3, 1) := by decide +kernel
theorem dL_covers_7 : decode cL_covers 7 = .ok (.iload 4, 2) := by decide +kernel
theorem dL_covers_9 : decode cL_covers 9 = .ok (.iload 5, 2) := by decide +kernel
theorem dL_covers_11 : decode cL_covers 11 = .ok (.invokevirtual 59, 3) := by decide +kernel
theorem dL_covers_14 : decode cL_covers 14 = .ok (.ifCond .eq 7, 3) := by decide +kernel
theorem dL_covers_17 : decode cL_covers 17 = .ok (.lconst 1, 1) := by decide +kernel
theorem dL_covers_18 : decode cL_covers 18 = .ok (.goto 4, 3) := by decide +kernel
theorem dL_covers_21 : decode cL_covers 21 = .ok (.lconst 0, 1) := by decide +kernel
theorem dL_covers_22 : decode cL_covers 22 = .ok (.lastore, 1) := by decide +kernel
theorem dL_covers_23 : decode cL_covers 23 = .ok (.goto 11, 3) := by decide +kernel
theorem dL_covers_26 : decode cL_covers 26 = .ok (.astore 7, 2) := by decide +kernel
theorem dL_covers_28 : decode cL_covers 28 = .ok (.iconst 1, 1) := by decide +kernel
theorem dL_covers_29 : decode cL_covers 29 = .ok (.ireturn, 1) := by decide +kernel
theorem dL_covers_30 : decode cL_covers 30 = .ok (.astore 7, 2) := by decide +kernel
theorem dL_covers_32 : decode cL_covers 32 = .ok (.iconst 2, 1) := by decide +kernel
theorem dL_covers_33 : decode cL_covers 33 = .ok (.ireturn, 1) := by decide +kernel
theorem dL_covers_34 : decode cL_covers 34 = .ok (.iconst 0, 1) := by decide +kernel
theorem dL_covers_35 : decode cL_covers 35 = .ok (.ireturn, 1) := by decide +kernel
set_option maxRecDepth 20000 in
theorem ggL_ways_X4_ways : GoodIn wsL_ways wsX4_ways := goodIn_ca (goodIn_ca (goodIn_ca (goodIn_r _ [7, 8, 9, 10, 6, 11, 12, 13, 14, 15, 16, 17, 18, 19, 20, 21, 22, 23, 24, 25, 26, 27, 28, 29, 30, 31, 32, 33, 34, 35, 36, 37, 38, 39, 40, 41, 42, 43, 44, 45, 46, 47, 48, 49, 50, 51, 52, 53, 54, 55, 56, 57, 58, 59, 60, 61, 62, 63, 64, 65, 66, 67, 68, 69, 70, 71, 72, 73, 74, 75, 76, 77, 78, 79, 80, 81, 82, 83, 84, 85, 86, 87, 88, 89, 90, 91, 92, 93, 94, 95, 96, 97, 98, 99, 100, 101, 102, 103, 104, 105, 106, 107, 108, 109, 110, 111, 112, 113, 114, 115, 116] (by decide +kernel) (by decide +kernel)) (goodIn_sub (fun _ h => List.mem_cons_of_mem _ (List.mem_append_left _ (List.mem_append_left _ (List.mem_append_right _ h)))) (by decide +kernel))) (goodIn_sub (fun _ h => List.mem_cons_of_mem _ (List.mem_append_left _ (List.mem_append_right _ h))) (by decide +kernel))) (goodIn_sub (fun _ h => List.mem_cons_of_mem _ (List.mem_append_right _ h)) (by decide +kernel))
set_option maxRecDepth 20000 in
theorem gL_ways_X4_ways : GoodIn wsL_ways (wsV RL 62 RX4 yX4_ways wsX4_ways) := goodIn_app (goodIn_of _ (by decide +kernel)) ggL_ways_X4_ways
theorem dL_ways_0 : decode cL_ways 0 = .ok (.aload 5, 2) := by decide +kernel
theorem dL_ways_2 : decode cL_ways 2 = .ok (.iconst 0, 1) := by decide +kernel
theorem dL_ways_3 : decode cL_ways 3 = .ok (.aload_n 0, 1) := by decide +kernel
theorem dL_ways_4 : decode cL_ways 4 = .ok (.iload_n 1, 1) := by decide +kernel
theorem dL_ways_5 : decode cL_ways 5 = .ok (.iload_n 2, 1) := by decide +kernel
theorem dL_ways_6 : decode cL_ways 6 = .ok (.iload_n 3, 1) := by decide +kernel
theorem dL_ways_7 : decode cL_ways 7 = .ok (.iload 4, 2) := by decide +kernel
theorem dL_ways_9 : decode cL_ways 9 = .ok (.invokevirtual 62, 3) := by decide +kernel
theorem dL_ways_12 : decode cL_ways 12 = .ok (.i2l, 1) := by decide +kernel
theorem dL_ways_13 : decode cL_ways 13 = .ok (.lastore, 1) := by decide +kernel
theorem dL_ways_14 : decode cL_ways 14 = .ok (.goto 11, 3) := by decide +kernel
theorem dL_ways_17 : decode cL_ways 17 = .ok (.astore 6, 2) := by decide +kernel
theorem dL_ways_19 : decode cL_ways 19 = .ok (.iconst 1, 1) := by decide +kernel
theorem dL_ways_20 : decode cL_ways 20 = .ok (.ireturn, 1) := by decide +kernel
theorem dL_ways_21 : decode cL_ways 21 = .ok (.astore 6, 2) := by decide +kernel
theorem dL_ways_23 : decode cL_ways 23 = .ok (.iconst 2, 1) := by decide +kernel
theorem dL_ways_24 : decode cL_ways 24 = .ok (.ireturn, 1) := by decide +kernel
theorem dL_ways_25 : decode cL_ways 25 = .ok (.iconst 0, 1) := by decide +kernel
theorem dL_ways_26 : decode cL_ways 26 = .ok (.ireturn, 1) := by decide +kernel
set_option maxRecDepth 20000 in
theorem ggL_wayAt_X4_wayAt : GoodIn wsL_wayAt wsX4_wayAt := goodIn_ca (goodIn_ca (goodIn_ca (goodIn_r _ [7, 8, 9, 10, 11, 12, 13, 6, 14, 15, 16, 17, 18, 19, 20, 21, 22, 23, 24, 25, 26, 27, 28, 29, 30, 31, 32, 33, 34, 35, 36, 37, 38, 39, 40, 41, 42, 43, 44, 45, 46, 47, 48, 49, 50, 51, 52, 53, 54, 55, 56, 57, 58, 59, 60, 61, 62, 63, 64, 65, 66, 67, 68, 69, 70, 71, 72, 73, 74, 75, 76, 77, 78, 79, 80, 81, 82, 83, 84, 85, 86, 87, 88, 89, 90, 91, 92, 93, 94, 95, 96, 97, 98, 99, 100, 101, 102, 103, 104, 105, 106, 107, 108, 109, 110, 111, 112, 113, 114, 115, 116, 117, 118, 119, 120, 121, 122, 123, 124, 125, 126, 127] (by decide +kernel) (by decide +kernel)) (goodIn_sub (fun _ h => List.mem_cons_of_mem _ (List.mem_append_left _ (List.mem_append_left _ (List.mem_append_right _ h)))) (by decide +kernel))) (goodIn_sub (fun _ h => List.mem_cons_of_mem _ (List.mem_append_left _ (List.mem_append_right _ h))) (by decide +kernel))) (goodIn_sub (fun _ h => List.mem_cons_of_mem _ (List.mem_append_right _ h)) (by decide +kernel))
set_option maxRecDepth 20000 in
theorem gL_wayAt_X4_wayAt : GoodIn wsL_wayAt (wsV RL 65 RX4 yX4_wayAt wsX4_wayAt) := goodIn_app (goodIn_of _ (by decide +kernel)) ggL_wayAt_X4_wayAt
theorem dL_wayAt_0 : decode cL_wayAt 0 = .ok (.aload 6, 2) := by decide +kernel
theorem dL_wayAt_2 : decode cL_wayAt 2 = .ok (.iconst 0, 1) := by decide +kernel
theorem dL_wayAt_3 : decode cL_wayAt 3 = .ok (.aload_n 0, 1) := by decide +kernel
theorem dL_wayAt_4 : decode cL_wayAt 4 = .ok (.iload_n 1, 1) := by decide +kernel
theorem dL_wayAt_5 : decode cL_wayAt 5 = .ok (.iload_n 2, 1) := by decide +kernel
theorem dL_wayAt_6 : decode cL_wayAt 6 = .ok (.iload_n 3, 1) := by decide +kernel
theorem dL_wayAt_7 : decode cL_wayAt 7 = .ok (.iload 4, 2) := by decide +kernel
theorem dL_wayAt_9 : decode cL_wayAt 9 = .ok (.iload 5, 2) := by decide +kernel
theorem dL_wayAt_11 : decode cL_wayAt 11 = .ok (.invokevirtual 65, 3) := by decide +kernel
theorem dL_wayAt_14 : decode cL_wayAt 14 = .ok (.i2l, 1) := by decide +kernel
theorem dL_wayAt_15 : decode cL_wayAt 15 = .ok (.lastore, 1) := by decide +kernel
theorem dL_wayAt_16 : decode cL_wayAt 16 = .ok (.goto 11, 3) := by decide +kernel
theorem dL_wayAt_19 : decode cL_wayAt 19 = .ok (.astore 7, 2) := by decide +kernel
theorem dL_wayAt_21 : decode cL_wayAt 21 = .ok (.iconst 1, 1) := by decide +kernel
theorem dL_wayAt_22 : decode cL_wayAt 22 = .ok (.ireturn, 1) := by decide +kernel
theorem dL_wayAt_23 : decode cL_wayAt 23 = .ok (.astore 7, 2) := by decide +kernel
theorem dL_wayAt_25 : decode cL_wayAt 25 = .ok (.iconst 2, 1) := by decide +kernel
theorem dL_wayAt_26 : decode cL_wayAt 26 = .ok (.ireturn, 1) := by decide +kernel
theorem dL_wayAt_27 : decode cL_wayAt 27 = .ok (.iconst 0, 1) := by decide +kernel
theorem dL_wayAt_28 : decode cL_wayAt 28 = .ok (.ireturn, 1) := by decide +kernel
set_option maxRecDepth 20000 in
theorem ggL_gap_X4_gap : GoodIn wsL_gap wsX4_gap := goodIn_ca (goodIn_ca (goodIn_ca (goodIn_r _ [7, 8, 9, 10, 11, 12, 6, 13, 14, 15, 16, 17, 18, 19, 20, 21, 22, 23, 24, 25, 26, 27, 28, 29, 30, 31, 32, 33, 34, 35, 36, 37, 38, 39, 40, 41, 42, 43, 44, 45, 46, 47, 48, 49, 50, 51, 52, 53, 54, 55, 56, 57, 58, 59, 60, 61, 62, 63, 64, 65, 66, 67, 68, 69, 70, 71, 72, 73, 74, 75, 76, 77, 78, 79, 80, 81, 82, 83, 84, 85, 86, 87, 88, 89, 90, 91, 92, 93, 94, 95, 96, 97, 98, 99, 100, 101, 102, 103, 104, 105, 106, 107, 108, 109, 110, 111] (by decide +kernel) (by decide +kernel)) (goodIn_sub (fun _ h => List.mem_cons_of_mem _ (List.mem_append_left _ (List.mem_append_left _ (List.mem_append_right _ h)))) (by decide +kernel))) (goodIn_sub (fun _ h => List.mem_cons_of_mem _ (List.mem_append_left _ (List.mem_append_right _ h))) (by decide +kernel))) (goodIn_sub (fun _ h => List.mem_cons_of_mem _ (List.mem_append_right _ h)) (by decide +kernel))
set_option maxRecDepth 20000 in
theorem gL_gap_X4_gap : GoodIn wsL_gap (wsV RL 69 RX4 yX4_gap wsX4_gap) := goodIn_app (goodIn_of _ (by decide +kernel)) ggL_gap_X4_gap
theorem dL_gap_0 : decode cL_gap 0 = .ok (.aload_n 3, 1) := by decide +kernel
theorem dL_gap_1 : decode cL_gap 1 = .ok (.iconst 0, 1) := by decide +kernel
theorem dL_gap_2 : decode cL_gap 2 = .ok (.aload_n 0, 1) := by decide +kernel
theorem dL_gap_3 : decode cL_gap 3 = .ok (.iload_n 1, 1) := by decide +kernel
theorem dL_gap_4 : decode cL_gap 4 = .ok (.iload_n 2, 1) := by decide +kernel
theorem dL_gap_5 : decode cL_gap 5 = .ok (.invokevirtual 69, 3) := by decide +kernel
theorem dL_gap_8 : decode cL_gap 8 = .ok (.i2l, 1) := by decide +kernel
theorem dL_gap_9 : decode cL_gap 9 = .ok (.lastore, 1) := by decide +kernel
theorem dL_gap_10 : decode cL_gap 10 = .ok (.goto 11, 3) := by decide +kernel
theorem dL_gap_13 : decode cL_gap 13 = .ok (.astore 4, 2) := by decide +kernel
theorem dL_gap_15 : decode cL_gap 15 = .ok (.iconst 1, 1) := by decide +kernel
theorem dL_gap_16 : decode cL_gap 16 = .ok (.ireturn, 1) := by decide +kernel
theorem dL_gap_17 : decode cL_gap 17 = .ok (.astore 4, 2) := by decide +kernel
theorem dL_gap_19 : decode cL_gap 19 = .ok (.iconst 2, 1) := by decide +kernel
theorem dL_gap_20 : decode cL_gap 20 = .ok (.ireturn, 1) := by decide +kernel
theorem dL_gap_21 : decode cL_gap 21 = .ok (.iconst 0, 1) := by decide +kernel
theorem dL_gap_22 : decode cL_gap 22 = .ok (.ireturn, 1) := by decide +kernel
set_option maxRecDepth 20000 in
theorem ggL_doubles_X4_doubles : GoodIn wsL_doubles wsX4_doubles := goodIn_ca (goodIn_ca (goodIn_ca (goodIn_r _ [7, 8, 9, 10, 11, 12, 6, 13, 14, 15, 16, 17, 18, 19, 20, 21, 22, 23, 24, 25, 26, 27, 28, 29, 30, 31, 32, 33, 34, 35, 36, 37, 38, 39, 40, 41, 42, 43, 44, 45, 46, 47, 48, 49, 50, 51, 52, 53, 54, 55, 56, 57, 58, 59, 60, 61, 62, 63, 64, 65, 66, 67, 68, 69, 70, 71, 72, 73, 74, 75, 76, 77, 78, 79, 80, 81, 82, 83, 84, 85, 86, 87, 88, 89, 90, 91, 92, 93, 94, 95, 96, 97, 98, 99, 100, 101, 102, 103, 104, 105, 106, 107, 108, 109, 110] (by decide +kernel) (by decide +kernel)) (goodIn_sub (fun _ h => List.mem_cons_of_mem _ (List.mem_append_left _ (List.mem_append_left _ (List.mem_append_right _ h)))) (by decide +kernel))) (goodIn_sub (fun _ h => List.mem_cons_of_mem _ (List.mem_append_left _ (List.mem_append_right _ h))) (by decide +kernel))) (goodIn_sub (fun _ h => List.mem_cons_of_mem _ (List.mem_append_right _ h)) (by decide +kernel))
set_option maxRecDepth 20000 in
theorem gL_doubles_X4_doubles : GoodIn wsL_doubles (wsV RL 72 RX4 yX4_doubles wsX4_doubles) := goodIn_app (goodIn_of _ (by decide +kernel)) ggL_doubles_X4_doubles
theorem dL_doubles_0 : decode cL_doubles 0 = .ok (.aload_n 3, 1) := by decide +kernel
theorem dL_doubles_1 : decode cL_doubles 1 = .ok (.iconst 0, 1) := by decide +kernel
theorem dL_doubles_2 : decode cL_doubles 2 = .ok (.aload_n 0, 1) := by decide +kernel
theorem dL_doubles_3 : decode cL_doubles 3 = .ok (.iload_n 1, 1) := by decide +kernel
theorem dL_doubles_4 : decode cL_doubles 4 = .ok (.iload_n 2, 1) := by decide +kernel
theorem dL_doubles_5 : decode cL_doubles 5 = .ok (.invokevirtual 72, 3) := by decide +kernel
theorem dL_doubles_8 : decode cL_doubles 8 = .ok (.i2l, 1) := by decide +kernel
theorem dL_doubles_9 : decode cL_doubles 9 = .ok (.lastore, 1) := by decide +kernel
theorem dL_doubles_10 : decode cL_doubles 10 = .ok (.goto 11, 3) := by decide +kernel
theorem dL_doubles_13 : decode cL_doubles 13 = .ok (.astore 4, 2) := by decide +kernel
theorem dL_doubles_15 : decode cL_doubles 15 = .ok (.iconst 1, 1) := by decide +kernel
theorem dL_doubles_16 : decode cL_doubles 16 = .ok (.ireturn, 1) := by decide +kernel
theorem dL_doubles_17 : decode cL_doubles 17 = .ok (.astore 4, 2) := by decide +kernel
theorem dL_doubles_19 : decode cL_doubles 19 = .ok (.iconst 2, 1) := by decide +kernel
theorem dL_doubles_20 : decode cL_doubles 20 = .ok (.ireturn, 1) := by decide +kernel
theorem dL_doubles_21 : decode cL_doubles 21 = .ok (.iconst 0, 1) := by decide +kernel
theorem dL_doubles_22 : decode cL_doubles 22 = .ok (.ireturn, 1) := by decide +kernel
set_option maxRecDepth 20000 in
theorem ggL_isNeedless_X4_isNeedless : GoodIn wsL_isNeedless wsX4_isNeedless := goodIn_ca (goodIn_ca (goodIn_r _ [6, 7, 8, 9, 10, 5, 11, 12, 13, 14, 15, 16, 17, 18, 19, 20, 21, 22, 23, 24, 25, 26, 27, 28, 29, 30, 31, 32, 33, 34, 35, 36, 37, 38, 39, 40, 41, 42, 43, 44, 45, 46, 47, 48, 49, 50, 51, 52, 53, 54, 55, 56, 57, 58, 59, 60, 61, 62, 63, 64, 65, 66, 67, 68, 69, 70, 71, 72, 73, 74, 75, 76, 77, 78, 79, 80, 81, 82, 83, 84, 85, 86, 87, 88, 89, 90, 91, 92, 93, 94, 95, 96, 97, 98, 99, 100, 101, 102, 103, 104, 105, 106, 107, 108] (by decide +kernel) (by decide +kernel)) (goodIn_sub (fun _ h => List.mem_cons_of_mem _ (List.mem_append_left _ (List.mem_append_right _ h))) (by decide +kernel))) (goodIn_sub (fun _ h => List.mem_cons_of_mem _ (List.mem_append_right _ h)) (by decide +kernel))
set_option maxRecDepth 20000 in
theorem gL_isNeedless_X4_isNeedless : GoodIn wsL_isNeedless (wsV RL 75 RX4 yX4_isNeedless wsX4_isNeedless) := goodIn_app (goodIn_of _ (by decide +kernel)) ggL_isNeedless_X4_isNeedless
theorem dL_isNeedless_0 : decode cL_isNeedless 0 = .ok (.aload_n 2, 1) := by decide +kernel
theorem dL_isNeedless_1 : decode cL_isNeedless 1 = .ok (.iconst 0, 1) := by decide +kernel
theorem dL_isNeedless_2 : decode cL_isNeedless 2 = .ok (.aload_n 0, 1) := by decide +kernel
theorem dL_isNeedless_3 : decode cL_isNeedless 3 = .ok (.iload_n 1, 1) := by decide +kernel
theorem dL_isNeedless_4 : decode cL_isNeedless 4 = .ok (.invokevirtual 75, 3) := by decide +kernel
theorem dL_isNeedless_7 : decode cL_isNeedless 7 = .ok (.ifCond .eq 7, 3) := by decide +kernel
theorem dL_isNeedless_10 : decode cL_isNeedless 10 = .ok (.lconst 1, 1) := by decide +kernel
theorem dL_isNeedless_11 : decode cL_isNeedless 11 = .ok (.goto 4, 3) := by decide +kernel
theorem dL_isNeedless_14 : decode cL_isNeedless 14 = .ok (.lconst 0, 1) := by decide +kernel
theorem dL_isNeedless_15 : decode cL_isNeedless 15 = .ok (.lastore, 1) := by decide +kernel
theorem dL_isNeedless_16 : decode cL_isNeedless 16 = .ok (.goto 6, 3) := by decide +kernel
theorem dL_isNeedless_19 : decode cL_isNeedless 19 = .ok (.astore_n 3, 1) := by decide +kernel
theorem dL_isNeedless_20 : decode cL_isNeedless 20 = .ok (.iconst 1, 1) := by decide +kernel
theorem dL_isNeedless_21 : decode cL_isNeedless 21 = .ok (.ireturn, 1) := by decide +kernel
theorem dL_isNeedless_22 : decode cL_isNeedless 22 = .ok (.iconst 0, 1) := by decide +kernel
theorem dL_isNeedless_23 : decode cL_isNeedless 23 = .ok (.ireturn, 1) := by decide +kernel
set_option maxRecDepth 20000 in
theorem ggL_law_X4_init : GoodIn wsL_law wsX4_init := goodIn_r _ [9, 10, 11, 12, 13, 14, 15, 16, 17, 18, 19, 20, 512, 513, 514, 515, 516, 517] (by decide +kernel) (by decide +kernel)
set_option maxRecDepth 20000 in
theorem gL_law_X4_init : GoodIn wsL_law (wsX4_init) := ggL_law_X4_init
set_option maxRecDepth 20000 in
theorem ggL_law_X5_init : GoodIn wsL_law wsX5_init := goodIn_r _ [23, 24, 11, 12, 25, 26, 27, 28, 29, 30, 31, 32, 33, 34, 35, 36, 37, 38, 39, 518, 519, 520, 521, 522, 523, 524, 525, 526, 527, 528, 529, 530, 531, 532, 533, 534, 535] (by decide +kernel) (by decide +kernel)
set_option maxRecDepth 20000 in
theorem gL_law_X5_init : GoodIn wsL_law (wsX5_init) := ggL_law_X5_init
set_option maxRecDepth 20000 in
theorem ggL_law_L_addTitle : GoodIn wsL_law wsL_addTitle := goodIn_ca (goodIn_ca (goodIn_r _ [43, 44, 45, 46, 47, 48, 2, 49, 50, 51, 17, 14, 13, 52, 53, 54, 55, 56, 57, 58, 59, 60, 61, 62, 11, 12, 63, 64, 512, 513, 514, 515, 516, 517, 536, 537] (by decide +kernel) (by decide +kernel)) (goodIn_sub (fun _ h => List.mem_append_left _ (List.mem_append_left _ (List.mem_append_left _ (List.mem_append_right _ h)))) (by decide +kernel))) (goodIn_sub (fun _ h => List.mem_append_left _ (List.mem_append_left _ (List.mem_append_right _ h))) (by decide +kernel))
set_option maxRecDepth 20000 in
theorem gL_law_L_addTitle : GoodIn wsL_law (va_wsS RL 83 yL_addTitle wsL_addTitle) := goodIn_app (goodIn_of _ (by decide +kernel)) ggL_law_L_addTitle
set_option maxRecDepth 20000 in
theorem ggL_law_X5_addTitle : GoodIn wsL_law wsX5_addTitle := goodIn_r _ [68, 69, 26, 27, 70, 71, 5, 72, 73, 74, 75, 76, 77, 518, 519, 520, 521, 522, 523, 524, 525, 526, 527, 528, 529, 530, 531, 532, 533, 534, 535] (by decide +kernel) (by decide +kernel)
set_option maxRecDepth 20000 in
theorem gL_law_X5_addTitle : GoodIn wsL_law (wsV RL 88 RX5 yX5_addTitle wsX5_addTitle) := goodIn_app (goodIn_of _ (by decide +kernel)) ggL_law_X5_addTitle
set_option maxRecDepth 20000 in
theorem ggL_law_X5_thrown : GoodIn wsL_law wsX5_thrown := goodIn_r _ [81, 77, 518, 519, 520, 521, 522, 523, 524, 525, 526, 527, 528, 529, 530, 531, 532, 533, 534, 535] (by decide +kernel) (by decide +kernel)
set_option maxRecDepth 20000 in
theorem gL_law_X5_thrown : GoodIn wsL_law (wsV RL 89 RX5 yX5_thrown wsX5_thrown) := goodIn_app (goodIn_of _ (by decide +kernel)) ggL_law_X5_thrown
set_option maxRecDepth 20000 in
theorem ggL_law_L_yearOf : GoodIn wsL_law wsL_yearOf := goodIn_ca (goodIn_ca (goodIn_r _ [84, 85, 44, 86, 87, 88, 2, 89, 90, 91, 92, 93, 94, 95, 96, 17, 14, 97, 98, 99, 53, 100, 63, 64, 54, 55, 56, 57, 58, 536, 537, 512, 513, 514, 515, 516, 517] (by decide +kernel) (by decide +kernel)) (goodIn_sub (fun _ h => List.mem_append_left _ (List.mem_append_right _ h)) (by decide +kernel))) (goodIn_sub (fun _ h => List.mem_append_left _ (List.mem_append_left _ (List.mem_append_right _ h))) (by decide +kernel))
set_option maxRecDepth 20000 in
theorem gL_law_L_yearOf : GoodIn wsL_law (va_wsS RL 93 yL_yearOf wsL_yearOf) := goodIn_app (goodIn_of _ (by decide +kernel)) ggL_law_L_yearOf
set_option maxRecDepth 20000 in
theorem ggL_law_X5_yearOf : GoodIn wsL_law wsX5_yearOf := goodIn_r _ [104, 27, 26, 105, 106, 107, 5, 108, 69, 73, 74, 75, 76, 77, 518, 519, 520, 521, 522, 523, 524, 525, 526, 527, 528, 529, 530, 531, 532, 533, 534, 535] (by decide +kernel) (by decide +kernel)
set_option maxRecDepth 20000 in
theorem gL_law_X5_yearOf : GoodIn wsL_law (wsV RL 95 RX5 yX5_yearOf wsX5_yearOf) := goodIn_app (goodIn_of _ (by decide +kernel)) ggL_law_X5_yearOf
set_option maxRecDepth 20000 in
theorem ggL_law_L_volumeOf : GoodIn wsL_law wsL_volumeOf := goodIn_ca (goodIn_ca (goodIn_r _ [111, 85, 44, 112, 113, 114, 2, 115, 90, 91, 92, 93, 94, 95, 96, 17, 14, 54, 55, 56, 57, 58, 97, 98, 99, 53, 100, 63, 64, 536, 537, 512, 513, 514, 515, 516, 517] (by decide +kernel) (by decide +kernel)) (goodIn_sub (fun _ h => List.mem_append_left _ (List.mem_append_right _ h)) (by decide +kernel))) (goodIn_sub (fun _ h => List.mem_append_left _ (List.mem_append_left _ (List.mem_append_right _ h))) (by decide +kernel))
set_option maxRecDepth 20000 in
theorem gL_law_L_volumeOf : GoodIn wsL_law (va_wsS RL 96 yL_volumeOf wsL_volumeOf) := goodIn_app (goodIn_of _ (by decide +kernel)) ggL_law_L_volumeOf
set_option maxRecDepth 20000 in
theorem ggL_law_X5_volumeOf : GoodIn wsL_law wsX5_volumeOf := goodIn_r _ [119, 26, 27, 105, 106, 107, 5, 108, 69, 70, 71, 72, 73, 74, 75, 76, 77, 518, 519, 520, 521, 522, 523, 524, 525, 526, 527, 528, 529, 530, 531, 532, 533, 534, 535] (by decide +kernel) (by decide +kernel)
set_option maxRecDepth 20000 in
theorem gL_law_X5_volumeOf : GoodIn wsL_law (wsV RL 98 RX5 yX5_volumeOf wsX5_volumeOf) := goodIn_app (goodIn_of _ (by decide +kernel)) ggL_law_X5_volumeOf
set_option maxRecDepth 20000 in
theorem ggL_law_L_addPackage : GoodIn wsL_law wsL_addPackage := goodIn_ca (goodIn_ca (goodIn_r _ [122, 44, 45, 123, 124, 125, 2, 126, 50, 51, 18, 16, 15, 127, 128, 54, 55, 56, 57, 58, 129, 130, 131, 132, 11, 12, 133, 134, 135, 136, 137, 138, 139, 140, 141, 142, 143, 144, 145, 146, 147, 512, 513, 514, 515, 516, 517, 538, 539, 540, 541, 542, 543, 544, 545] (by decide +kernel) (by decide +kernel)) (goodIn_sub (fun _ h => List.mem_append_left _ (List.mem_append_left _ (List.mem_append_left _ (List.mem_append_right _ h)))) (by decide +kernel))) (goodIn_sub (fun _ h => List.mem_append_left _ (List.mem_append_left _ (List.mem_append_right _ h))) (by decide +kernel))
set_option maxRecDepth 20000 in
theorem gL_law_L_addPackage : GoodIn wsL_law (va_wsS RL 99 yL_addPackage wsL_addPackage) := goodIn_app (goodIn_of _ (by decide +kernel)) ggL_law_L_addPackage
set_option maxRecDepth 20000 in
theorem ggL_law_X5_addPackage : GoodIn wsL_law wsX5_addPackage := goodIn_r _ [151, 152, 28, 29, 30, 32, 70, 71, 5, 72, 73, 74, 75, 76, 77, 518, 519, 520, 521, 522, 523, 524, 525, 526, 527, 528, 529, 530, 531, 532, 533, 534, 535] (by decide +kernel) (by decide +kernel)
set_option maxRecDepth 20000 in
theorem gL_law_X5_addPackage : GoodIn wsL_law (wsV RL 102 RX5 yX5_addPackage wsX5_addPackage) := goodIn_app (goodIn_of _ (by decide +kernel)) ggL_law_X5_addPackage
set_option maxRecDepth 20000 in
theorem ggL_law_L_subscribe : GoodIn wsL_law wsL_subscribe := goodIn_ca (goodIn_r _ [155, 85, 156, 157, 158, 2, 159, 160, 20, 161, 162, 163, 164, 165, 95, 96, 18, 16, 166, 167, 168, 139, 169, 170, 171, 172, 173, 174, 146, 175, 176, 177, 178, 179, 180, 19, 181, 182, 183, 184, 185, 186, 187, 188, 189, 190, 191, 11, 12, 192, 193, 194, 195, 538, 539, 540, 541, 542, 543, 512, 513, 514, 515, 516, 517, 546, 547, 548, 549, 544, 545] (by decide +kernel) (by decide +kernel)) (goodIn_sub (fun _ h => List.mem_append_left _ (List.mem_append_right _ h)) (by decide +kernel))
set_option maxRecDepth 20000 in
theorem gL_law_L_subscribe : GoodIn wsL_law (va_wsS RL 103 yL_subscribe wsL_subscribe) := goodIn_app (goodIn_of _ (by decide +kernel)) ggL_law_L_subscribe
set_option maxRecDepth 20000 in
theorem ggL_law_X5_subscribe : GoodIn wsL_law wsX5_subscribe := goodIn_r _ [199, 200, 201, 202, 5, 203, 152, 73, 74, 75, 76, 77, 204, 205, 206, 207, 208, 209, 210, 211, 36, 35, 212, 34, 37, 38, 39, 213, 214, 215, 216, 518, 519, 520, 521, 522, 523, 524, 525, 526, 527, 528, 529, 530, 531, 532, 533, 534, 535] (by decide +kernel) (by decide +kernel)
set_option maxRecDepth 20000 in
theorem gL_law_X5_subscribe : GoodIn wsL_law (wsV RL 106 RX5 yX5_subscribe wsX5_subscribe) := goodIn_app (goodIn_of _ (by decide +kernel)) ggL_law_X5_subscribe
set_option maxRecDepth 20000 in
theorem ggL_law_L_come : GoodIn wsL_law wsL_come := goodIn_ca (goodIn_ca (goodIn_ca (goodIn_r _ [219, 85, 44, 220, 221, 222, 2, 223, 20, 224, 225, 226, 227, 162, 163, 164, 165, 95, 96, 18, 16, 91, 92, 93, 94, 17, 14, 228, 229, 230, 128, 231, 232, 141, 54, 55, 56, 57, 58, 166, 167, 168, 139, 169, 170, 171, 172, 173, 174, 146, 175, 176, 233, 234, 235, 177, 178, 179, 180, 19, 181, 182, 183, 184, 185, 186, 187, 188, 189, 190, 191, 11, 12, 192, 193, 194, 195, 512, 513, 514, 515, 516, 517, 538, 539, 540, 541, 542, 543, 546, 547, 548, 549, 544, 545] (by decide +kernel) (by decide +kernel)) (goodIn_sub (fun _ h => List.mem_append_left _ (List.mem_append_right _ h)) (by decide +kernel))) (goodIn_sub (fun _ h => List.mem_append_right _ h) (by decide +kernel))) (goodIn_sub (fun _ h => List.mem_append_left _ (List.mem_append_left _ (List.mem_append_right _ h))) (by decide +kernel))
set_option maxRecDepth 20000 in
theorem gL_law_L_come : GoodIn wsL_law (va_wsS RL 107 yL_come wsL_come) := goodIn_app (goodIn_of _ (by decide +kernel)) ggL_law_L_come
set_option maxRecDepth 20000 in
theorem ggL_law_X5_come : GoodIn wsL_law wsX5_come := goodIn_r _ [239, 200, 201, 202, 5, 203, 152, 105, 106, 107, 108, 69, 70, 71, 72, 73, 74, 75, 76, 77, 207, 208, 209, 210, 211, 36, 35, 212, 34, 37, 38, 39, 213, 214, 215, 216, 518, 519, 520, 521, 522, 523, 524, 525, 526, 527, 528, 529, 530, 531, 532, 533, 534, 535] (by decide +kernel) (by decide +kernel)
set_option maxRecDepth 20000 in
theorem gL_law_X5_come : GoodIn wsL_law (wsV RL 110 RX5 yX5_come wsX5_come) := goodIn_app (goodIn_of _ (by decide +kernel)) ggL_law_X5_come
set_option maxRecDepth 20000 in
theorem ggL_law_L_go : GoodIn wsL_law wsL_go := goodIn_ca (goodIn_ca (goodIn_ca (goodIn_r _ [242, 85, 45, 243, 244, 245, 2, 246, 50, 51, 20, 224, 225, 226, 227, 162, 163, 164, 165, 95, 96, 18, 16, 91, 92, 93, 94, 17, 14, 228, 229, 230, 128, 231, 232, 141, 166, 167, 168, 139, 169, 170, 171, 172, 173, 174, 146, 175, 176, 177, 178, 179, 180, 19, 181, 182, 183, 184, 185, 186, 187, 188, 189, 190, 191, 11, 12, 192, 193, 194, 195, 512, 513, 514, 515, 516, 517, 538, 539, 540, 541, 542, 543, 546, 547, 548, 549, 544, 545] (by decide +kernel) (by decide +kernel)) (goodIn_sub (fun _ h => List.mem_append_left _ (List.mem_append_left _ (List.mem_append_left _ (List.mem_append_right _ h)))) (by decide +kernel))) (goodIn_sub (fun _ h => List.mem_append_left _ (List.mem_append_right _ h)) (by decide +kernel))) (goodIn_sub (fun _ h => List.mem_append_right _ h) (by decide +kernel))
set_option maxRecDepth 20000 in
theorem gL_law_L_go : GoodIn wsL_law (va_wsS RL 111 yL_go wsL_go) := goodIn_app (goodIn_of _ (by decide +kernel)) ggL_law_L_go
set_option maxRecDepth 20000 in
theorem ggL_law_X5_go : GoodIn wsL_law wsX5_go := goodIn_r _ [250, 211, 200, 201, 202, 5, 203, 152, 105, 106, 107, 108, 69, 251, 252, 253, 254, 36, 213, 214, 215, 216, 212, 34, 35, 73, 74, 75, 76, 77, 207, 208, 209, 210, 37, 38, 39, 518, 519, 520, 521, 522, 523, 524, 525, 526, 527, 528, 529, 530, 531, 532, 533, 534, 535] (by decide +kernel) (by decide +kernel)
set_option maxRecDepth 20000 in
theorem gL_law_X5_go : GoodIn wsL_law (wsV RL 114 RX5 yX5_go wsX5_go) := goodIn_app (goodIn_of _ (by decide +kernel)) ggL_law_X5_go
set_option maxRecDepth 20000 in
theorem ggL_law_L_pass : GoodIn wsL_law wsL_pass := goodIn_ca (goodIn_ca (goodIn_r _ [257, 44, 45, 258, 259, 260, 2, 261, 50, 51, 20, 54, 55, 56, 57, 58, 512, 513, 514, 515, 516, 517] (by decide +kernel) (by decide +kernel)) (goodIn_sub (fun _ h => List.mem_append_left _ (List.mem_append_left _ (List.mem_append_left _ (List.mem_append_right _ h)))) (by decide +kernel))) (goodIn_sub (fun _ h => List.mem_append_left _ (List.mem_append_left _ (List.mem_append_right _ h))) (by decide +kernel))
set_option maxRecDepth 20000 in
theorem gL_law_L_pass : GoodIn wsL_law (va_wsS RL 115 yL_pass wsL_pass) := goodIn_app (goodIn_of _ (by decide +kernel)) ggL_law_L_pass
set_option maxRecDepth 20000 in
theorem ggL_law_X5_pass : GoodIn wsL_law wsX5_pass := goodIn_r _ [265, 211, 70, 71, 5, 72, 73, 74, 75, 76, 77, 518, 519, 520, 521, 522, 523, 524, 525, 526, 527, 528, 529, 530, 531, 532, 533, 534, 535] (by decide +kernel) (by decide +kernel)
set_option maxRecDepth 20000 in
theorem gL_law_X5_pass : GoodIn wsL_law (wsV RL 118 RX5 yX5_pass wsX5_pass) := goodIn_app (goodIn_of _ (by decide +kernel)) ggL_law_X5_pass
set_option maxRecDepth 20000 in
theorem ggL_law_X4_today : GoodIn wsL_law wsX4_today := goodIn_r _ [269, 20, 512, 513, 514, 515, 516, 517] (by decide +kernel) (by decide +kernel)
set_option maxRecDepth 20000 in
theorem gL_law_X4_today : GoodIn wsL_law (wsV RL 119 RX4 yX4_today wsX4_today) := goodIn_app (goodIn_of _ (by decide +kernel)) ggL_law_X4_today
set_option maxRecDepth 20000 in
theorem ggL_law_X5_today : GoodIn wsL_law wsX5_today := goodIn_r _ [273, 77, 211, 518, 519, 520, 521, 522, 523, 524, 525, 526, 527, 528, 529, 530, 531, 532, 533, 534, 535] (by decide +kernel) (by decide +kernel)
set_option maxRecDepth 20000 in
theorem gL_law_X5_today : GoodIn wsL_law (wsV RL 122 RX5 yX5_today wsX5_today) := goodIn_app (goodIn_of _ (by decide +kernel)) ggL_law_X5_today
set_option maxRecDepth 20000 in
theorem ggL_law_L_isSubscribed : GoodIn wsL_law wsL_isSubscribed := goodIn_ca (goodIn_ca (goodIn_r _ [276, 85, 44, 277, 278, 279, 2, 280, 160, 20, 162, 163, 164, 165, 95, 96, 18, 16, 54, 55, 56, 57, 58, 166, 167, 168, 139, 169, 170, 171, 172, 173, 174, 146, 175, 176, 538, 539, 540, 541, 542, 543, 512, 513, 514, 515, 516, 517, 546, 547, 548, 549, 544, 545] (by decide +kernel) (by decide +kernel)) (goodIn_sub (fun _ h => List.mem_append_left _ (List.mem_append_right _ h)) (by decide +kernel))) (goodIn_sub (fun _ h => List.mem_append_left _ (List.mem_append_left _ (List.mem_append_right _ h))) (by decide +kernel))
set_option maxRecDepth 20000 in
theorem gL_law_L_isSubscribed : GoodIn wsL_law (va_wsS RL 123 yL_isSubscribed wsL_isSubscribed) := goodIn_app (goodIn_of _ (by decide +kernel)) ggL_law_L_isSubscribed
set_option maxRecDepth 20000 in
theorem ggL_law_X5_isSubscribed : GoodIn wsL_law wsX5_isSubscribed := goodIn_r _ [284, 211, 200, 201, 202, 5, 203, 152, 70, 71, 72, 73, 74, 75, 76, 77, 204, 205, 206, 251, 252, 253, 254, 36, 213, 214, 215, 216, 212, 34, 35, 518, 519, 520, 521, 522, 523, 524, 525, 526, 527, 528, 529, 530, 531, 532, 533, 534, 535] (by decide +kernel) (by decide +kernel)
set_option maxRecDepth 20000 in
theorem gL_law_X5_isSubscribed : GoodIn wsL_law (wsV RL 125 RX5 yX5_isSubscribed wsX5_isSubscribed) := goodIn_app (goodIn_of _ (by decide +kernel)) ggL_law_X5_isSubscribed
set_option maxRecDepth 20000 in
theorem ggL_law_L_isIn : GoodIn wsL_law wsL_isIn := goodIn_ca (goodIn_ca (goodIn_ca (goodIn_r _ [287, 85, 44, 288, 289, 290, 2, 291, 20, 224, 225, 226, 227, 162, 163, 164, 165, 95, 96, 18, 16, 91, 92, 93, 94, 17, 14, 228, 229, 230, 128, 231, 232, 141, 54, 55, 56, 57, 58, 166, 167, 168, 139, 169, 170, 171, 172, 173, 174, 146, 175, 176, 512, 513, 514, 515, 516, 517, 538, 539, 540, 541, 542, 543, 546, 547, 548, 549, 544, 545] (by decide +kernel) (by decide +kernel)) (goodIn_sub (fun _ h => List.mem_append_left _ (List.mem_append_right _ h)) (by decide +kernel))) (goodIn_sub (fun _ h => List.mem_append_right _ h) (by decide +kernel))) (goodIn_sub (fun _ h => List.mem_append_left _ (List.mem_append_left _ (List.mem_append_right _ h))) (by decide +kernel))
set_option maxRecDepth 20000 in
theorem gL_law_L_isIn : GoodIn wsL_law (va_wsS RL 126 yL_isIn wsL_isIn) := goodIn_app (goodIn_of _ (by decide +kernel)) ggL_law_L_isIn
set_option maxRecDepth 20000 in
theorem ggL_law_X5_isIn : GoodIn wsL_law wsX5_isIn := goodIn_r _ [295, 211, 200, 201, 202, 5, 203, 152, 105, 106, 107, 108, 69, 70, 71, 72, 73, 74, 75, 76, 77, 251, 252, 253, 254, 36, 213, 214, 215, 216, 212, 34, 35, 518, 519, 520, 521, 522, 523, 524, 525, 526, 527, 528, 529, 530, 531, 532, 533, 534, 535] (by decide +kernel) (by decide +kernel)
set_option maxRecDepth 20000 in
theorem gL_law_X5_isIn : GoodIn wsL_law (wsV RL 129 RX5 yX5_isIn wsX5_isIn) := goodIn_app (goodIn_of _ (by decide +kernel)) ggL_law_X5_isIn
set_option maxRecDepth 20000 in
theorem ggL_law_L_report : GoodIn wsL_law wsL_report := goodIn_ca (goodIn_ca (goodIn_r _ [298, 85, 299, 300, 301, 2, 302, 303, 224, 225, 226, 227, 162, 163, 164, 165, 95, 96, 18, 16, 91, 92, 93, 94, 17, 14, 228, 229, 230, 128, 231, 232, 141, 544, 545, 512, 513, 514, 515, 516, 517, 538, 539, 540, 541, 542, 543] (by decide +kernel) (by decide +kernel)) (goodIn_sub (fun _ h => List.mem_append_left _ (List.mem_append_right _ h)) (by decide +kernel))) (goodIn_sub (fun _ h => List.mem_append_right _ h) (by decide +kernel))
set_option maxRecDepth 20000 in
theorem gL_law_L_report : GoodIn wsL_law (va_wsS RL 130 yL_report wsL_report) := goodIn_app (goodIn_of _ (by decide +kernel)) ggL_law_L_report
set_option maxRecDepth 20000 in
theorem ggL_law_X5_report : GoodIn wsL_law wsX5_report := goodIn_r _ [307, 33, 200, 201, 202, 5, 203, 152, 105, 106, 107, 108, 69, 73, 74, 75, 76, 77, 518, 519, 520, 521, 522, 523, 524, 525, 526, 527, 528, 529, 530, 531, 532, 533, 534, 535] (by decide +kernel) (by decide +kernel)
set_option maxRecDepth 20000 in
theorem gL_law_X5_report : GoodIn wsL_law (wsV RL 132 RX5 yX5_report wsX5_report) := goodIn_app (goodIn_of _ (by decide +kernel)) ggL_law_X5_report
set_option maxRecDepth 20000 in
theorem ggL_law_L_mend : GoodIn wsL_law wsL_mend := goodIn_ca (goodIn_ca (goodIn_r _ [310, 85, 311, 312, 313, 2, 314, 303, 224, 225, 226, 227, 162, 163, 164, 165, 95, 96, 18, 16, 91, 92, 93, 94, 17, 14, 228, 229, 230, 128, 231, 232, 141, 544, 545, 512, 513, 514, 515, 516, 517, 538, 539, 540, 541, 542, 543] (by decide +kernel) (by decide +kernel)) (goodIn_sub (fun _ h => List.mem_append_left _ (List.mem_append_right _ h)) (by decide +kernel))) (goodIn_sub (fun _ h => List.mem_append_right _ h) (by decide +kernel))
set_option maxRecDepth 20000 in
theorem gL_law_L_mend : GoodIn wsL_law (va_wsS RL 133 yL_mend wsL_mend) := goodIn_app (goodIn_of _ (by decide +kernel)) ggL_law_L_mend
set_option maxRecDepth 20000 in
theorem ggL_law_X5_mend : GoodIn wsL_law wsX5_mend := goodIn_r _ [318, 33, 200, 201, 202, 5, 203, 152, 105, 106, 107, 108, 69, 73, 74, 75, 76, 77, 518, 519, 520, 521, 522, 523, 524, 525, 526, 527, 528, 529, 530, 531, 532, 533, 534, 535] (by decide +kernel) (by decide +kernel)
set_option maxRecDepth 20000 in
theorem gL_law_X5_mend : GoodIn wsL_law (wsV RL 135 RX5 yX5_mend wsX5_mend) := goodIn_app (goodIn_of _ (by decide +kernel)) ggL_law_X5_mend
set_option maxRecDepth 20000 in
theorem ggL_law_L_covers : GoodIn wsL_law wsL_covers := goodIn_ca (goodIn_ca (goodIn_ca (goodIn_r _ [321, 85, 44, 322, 323, 324, 2, 325, 162, 163, 164, 165, 95, 96, 18, 16, 91, 92, 93, 94, 17, 14, 326, 327, 328, 329, 20, 54, 55, 56, 57, 58, 330, 331, 332, 333, 334, 335, 128, 336, 135, 337, 338, 339, 340, 341, 342, 343, 344, 140, 345, 229, 230, 231, 232, 141, 346, 347, 348, 139, 349, 170, 350, 171, 172, 173, 174, 146, 175, 176, 234, 235, 351, 352, 353, 354, 136, 355, 356, 357, 358, 359, 360, 361, 362, 363, 364, 365, 512, 513, 514, 515, 516, 517, 538, 539, 540, 541, 542, 543, 546, 547, 548, 549, 544, 545] (by decide +kernel) (by decide +kernel)) (goodIn_sub (fun _ h => List.mem_append_left _ (List.mem_append_right _ h)) (by decide +kernel))) (goodIn_sub (fun _ h => List.mem_append_left _ (List.mem_append_left _ (List.mem_append_right _ h))) (by decide +kernel))) (goodIn_sub (fun _ h => List.mem_append_right _ h) (by decide +kernel))
set_option maxRecDepth 20000 in
theorem gL_law_L_covers : GoodIn wsL_law (va_wsS RL 136 yL_covers wsL_covers) := goodIn_app (goodIn_of _ (by decide +kernel)) ggL_law_L_covers
set_option maxRecDepth 20000 in
theorem ggL_law_X5_covers : GoodIn wsL_law wsX5_covers := goodIn_r _ [369, 200, 201, 202, 5, 203, 152, 105, 106, 107, 108, 69, 370, 371, 372, 373, 211, 70, 71, 72, 73, 74, 75, 76, 77, 374, 375, 376, 377, 30, 378, 379, 380, 381, 382, 383, 384, 385, 36, 37, 38, 39, 213, 214, 215, 216, 212, 34, 35, 204, 205, 206, 251, 252, 253, 254, 386, 387, 388, 389, 32, 518, 519, 520, 521, 522, 523, 524, 525, 526, 527, 528, 529, 530, 531, 532, 533, 534, 535] (by decide +kernel) (by decide +kernel)
set_option maxRecDepth 20000 in
theorem gL_law_X5_covers : GoodIn wsL_law (wsV RL 138 RX5 yX5_covers wsX5_covers) := goodIn_app (goodIn_of _ (by decide +kernel)) ggL_law_X5_covers
set_option maxRecDepth 20000 in
theorem ggL_law_L_ways : GoodIn wsL_law wsL_ways := goodIn_ca (goodIn_ca (goodIn_ca (goodIn_r _ [392, 85, 44, 393, 394, 395, 2, 396, 91, 92, 93, 94, 95, 96, 17, 14, 326, 327, 328, 329, 20, 54, 55, 56, 57, 58, 397, 398, 399, 400, 18, 162, 163, 164, 165, 16, 330, 331, 332, 333, 334, 335, 128, 336, 135, 337, 338, 339, 340, 341, 342, 343, 344, 140, 345, 229, 230, 231, 232, 141, 346, 347, 348, 139, 349, 170, 350, 171, 172, 173, 174, 146, 175, 176, 234, 235, 351, 352, 353, 354, 136, 355, 356, 357, 358, 359, 360, 361, 362, 363, 364, 365, 401, 402, 403, 404, 405, 406, 407, 512, 513, 514, 515, 516, 517, 538, 539, 540, 541, 542, 543, 546, 547, 548, 549, 544, 545] (by decide +kernel) (by decide +kernel)) (goodIn_sub (fun _ h => List.mem_append_left _ (List.mem_append_right _ h)) (by decide +kernel))) (goodIn_sub (fun _ h => List.mem_append_left _ (List.mem_append_left _ (List.mem_append_right _ h))) (by decide +kernel))) (goodIn_sub (fun _ h => List.mem_append_right _ h) (by decide +kernel))
set_option maxRecDepth 20000 in
theorem gL_law_L_ways : GoodIn wsL_law (va_wsS RL 139 yL_ways wsL_ways) := goodIn_app (goodIn_of _ (by decide +kernel)) ggL_law_L_ways
set_option maxRecDepth 20000 in
theorem ggL_law_X5_ways : GoodIn wsL_law wsX5_ways := goodIn_r _ [411, 105, 106, 107, 5, 108, 69, 370, 371, 372, 373, 211, 70, 71, 72, 73, 74, 75, 76, 77, 412, 413, 414, 415, 152, 374, 375, 376, 377, 30, 378, 379, 380, 381, 382, 383, 384, 385, 36, 37, 38, 39, 213, 214, 215, 216, 212, 34, 35, 204, 205, 206, 251, 252, 253, 254, 386, 387, 388, 389, 32, 518, 519, 520, 521, 522, 523, 524, 525, 526, 527, 528, 529, 530, 531, 532, 533, 534, 535] (by decide +kernel) (by decide +kernel)
set_option maxRecDepth 20000 in
theorem gL_law_X5_ways : GoodIn wsL_law (wsV RL 141 RX5 yX5_ways wsX5_ways) := goodIn_app (goodIn_of _ (by decide +kernel)) ggL_law_X5_ways
set_option maxRecDepth 20000 in
theorem ggL_law_L_wayAt : GoodIn wsL_law wsL_wayAt := goodIn_ca (goodIn_ca (goodIn_ca (goodIn_r _ [418, 44, 85, 419, 420, 421, 2, 422, 95, 96, 18, 326, 327, 328, 329, 20, 54, 55, 56, 57, 58, 91, 92, 93, 94, 17, 14, 397, 398, 399, 400, 162, 163, 164, 165, 16, 330, 331, 332, 333, 334, 335, 128, 336, 135, 337, 338, 339, 340, 341, 342, 343, 344, 140, 345, 229, 230, 231, 232, 141, 346, 347, 348, 139, 349, 170, 350, 171, 172, 173, 174, 146, 175, 176, 234, 235, 351, 352, 353, 354, 136, 355, 356, 357, 358, 359, 360, 361, 362, 363, 364, 365, 423, 424, 425, 426, 427, 428, 429, 430, 431, 432, 433, 434, 435, 436, 437, 438, 439, 440, 512, 513, 514, 515, 516, 517, 538, 539, 540, 541, 542, 543, 546, 547, 548, 549, 544, 545] (by decide +kernel) (by decide +kernel)) (goodIn_sub (fun _ h => List.mem_append_left _ (List.mem_append_right _ h)) (by decide +kernel))) (goodIn_sub (fun _ h => List.mem_append_left _ (List.mem_append_left _ (List.mem_append_right _ h))) (by decide +kernel))) (goodIn_sub (fun _ h => List.mem_append_right _ h) (by decide +kernel))
set_option maxRecDepth 20000 in
theorem gL_law_L_wayAt : GoodIn wsL_law (va_wsS RL 142 yL_wayAt wsL_wayAt) := goodIn_app (goodIn_of _ (by decide +kernel)) ggL_law_L_wayAt
set_option maxRecDepth 20000 in
theorem ggL_law_X5_wayAt : GoodIn wsL_law wsX5_wayAt := goodIn_r _ [444, 152, 370, 371, 372, 5, 373, 211, 70, 71, 72, 105, 106, 107, 108, 69, 412, 413, 414, 415, 374, 375, 376, 377, 30, 378, 379, 380, 381, 382, 383, 384, 385, 36, 37, 38, 39, 213, 214, 215, 216, 212, 34, 35, 204, 205, 206, 251, 252, 253, 254, 386, 387, 388, 389, 32, 73, 74, 75, 76, 77, 445, 446, 447, 448, 33, 28, 29, 518, 519, 520, 521, 522, 523, 524, 525, 526, 527, 528, 529, 530, 531, 532, 533, 534, 535] (by decide +kernel) (by decide +kernel)
set_option maxRecDepth 20000 in
theorem gL_law_X5_wayAt : GoodIn wsL_law (wsV RL 144 RX5 yX5_wayAt wsX5_wayAt) := goodIn_app (goodIn_of _ (by decide +kernel)) ggL_law_X5_wayAt
set_option maxRecDepth 20000 in
theorem ggL_law_L_gap : GoodIn wsL_law wsL_gap := goodIn_ca (goodIn_ca (goodIn_ca (goodIn_r _ [451, 85, 44, 452, 453, 454, 2, 455, 456, 90, 91, 92, 93, 94, 95, 96, 17, 14, 54, 55, 56, 57, 58, 457, 458, 459, 460, 20, 233, 234, 235, 461, 462, 463, 464, 18, 162, 163, 164, 165, 16, 333, 334, 335, 128, 336, 135, 337, 338, 339, 340, 341, 342, 343, 344, 140, 345, 229, 230, 231, 232, 141, 346, 347, 348, 139, 349, 170, 350, 171, 172, 173, 174, 146, 175, 176, 351, 352, 353, 354, 136, 355, 356, 357, 358, 359, 360, 361, 362, 363, 364, 365, 536, 537, 512, 513, 514, 515, 516, 517, 538, 539, 540, 541, 542, 543, 546, 547, 548, 549, 544, 545] (by decide +kernel) (by decide +kernel)) (goodIn_sub (fun _ h => List.mem_append_left _ (List.mem_append_right _ h)) (by decide +kernel))) (goodIn_sub (fun _ h => List.mem_append_left _ (List.mem_append_left _ (List.mem_append_right _ h))) (by decide +kernel))) (goodIn_sub (fun _ h => List.mem_append_right _ h) (by decide +kernel))
set_option maxRecDepth 20000 in
theorem gL_law_L_gap : GoodIn wsL_law (va_wsS RL 145 yL_gap wsL_gap) := goodIn_app (goodIn_of _ (by decide +kernel)) ggL_law_L_gap
set_option maxRecDepth 20000 in
theorem ggL_law_X5_gap : GoodIn wsL_law wsX5_gap := goodIn_r _ [468, 211, 26, 469, 470, 471, 5, 472, 105, 106, 107, 108, 69, 70, 71, 72, 73, 74, 75, 76, 77, 412, 413, 414, 415, 152, 374, 375, 376, 377, 30, 378, 379, 380, 381, 382, 383, 384, 385, 36, 37, 38, 39, 213, 214, 215, 216, 212, 34, 35, 204, 205, 206, 251, 252, 253, 254, 386, 387, 388, 389, 32, 518, 519, 520, 521, 522, 523, 524, 525, 526, 527, 528, 529, 530, 531, 532, 533, 534, 535] (by decide +kernel) (by decide +kernel)
set_option maxRecDepth 20000 in
theorem gL_law_X5_gap : GoodIn wsL_law (wsV RL 147 RX5 yX5_gap wsX5_gap) := goodIn_app (goodIn_of _ (by decide +kernel)) ggL_law_X5_gap
set_option maxRecDepth 20000 in
theorem ggL_law_L_doubles : GoodIn wsL_law wsL_doubles := goodIn_ca (goodIn_ca (goodIn_ca (goodIn_r _ [475, 85, 44, 476, 477, 478, 2, 479, 18, 20, 91, 92, 93, 94, 95, 96, 17, 14, 54, 55, 56, 57, 58, 162, 163, 164, 165, 16, 333, 334, 335, 128, 336, 135, 337, 338, 339, 340, 341, 342, 343, 344, 140, 345, 229, 230, 231, 232, 141, 346, 347, 348, 139, 349, 170, 350, 171, 172, 173, 174, 146, 175, 176, 234, 235, 351, 352, 353, 354, 136, 355, 356, 357, 358, 359, 360, 361, 362, 457, 458, 459, 460, 90, 233, 480, 481, 482, 483, 484, 485, 486, 512, 513, 514, 515, 516, 517, 538, 539, 540, 541, 542, 543, 546, 547, 548, 549, 544, 545, 536, 537] (by decide +kernel) (by decide +kernel)) (goodIn_sub (fun _ h => List.mem_append_left _ (List.mem_append_right _ h)) (by decide +kernel))) (goodIn_sub (fun _ h => List.mem_append_left _ (List.mem_append_left _ (List.mem_append_right _ h))) (by decide +kernel))) (goodIn_sub (fun _ h => List.mem_append_right _ h) (by decide +kernel))
set_option maxRecDepth 20000 in
theorem gL_law_L_doubles : GoodIn wsL_law (va_wsS RL 148 yL_doubles wsL_doubles) := goodIn_app (goodIn_of _ (by decide +kernel)) ggL_law_L_doubles
set_option maxRecDepth 20000 in
theorem ggL_law_X5_doubles : GoodIn wsL_law wsX5_doubles := goodIn_r _ [490, 26, 211, 469, 470, 471, 5, 472, 105, 106, 107, 108, 69, 70, 71, 72, 73, 74, 75, 76, 77, 412, 413, 414, 415, 152, 374, 375, 376, 377, 30, 378, 379, 380, 381, 382, 383, 384, 385, 36, 37, 38, 39, 213, 214, 215, 216, 212, 34, 35, 204, 205, 206, 251, 252, 253, 254, 386, 387, 388, 389, 32, 518, 519, 520, 521, 522, 523, 524, 525, 526, 527, 528, 529, 530, 531, 532, 533, 534, 535] (by decide +kernel) (by decide +kernel)
set_option maxRecDepth 20000 in
theorem gL_law_X5_doubles : GoodIn wsL_law (wsV RL 150 RX5 yX5_doubles wsX5_doubles) := goodIn_app (goodIn_of _ (by decide +kernel)) ggL_law_X5_doubles
set_option maxRecDepth 20000 in
theorem ggL_law_L_isNeedless : GoodIn wsL_law wsL_isNeedless := goodIn_ca (goodIn_ca (goodIn_r _ [493, 85, 494, 495, 496, 2, 497, 17, 162, 163, 164, 165, 95, 96, 18, 16, 498, 499, 500, 501, 20, 456, 502, 342, 343, 128, 344, 140, 345, 229, 230, 231, 232, 141, 346, 347, 348, 139, 349, 170, 350, 171, 172, 173, 174, 146, 175, 176, 234, 235, 503, 352, 353, 354, 136, 355, 356, 357, 358, 359, 360, 361, 362, 91, 92, 93, 94, 14, 457, 458, 459, 460, 90, 233, 333, 334, 335, 336, 135, 461, 462, 463, 464, 337, 338, 339, 340, 341, 351, 512, 513, 514, 515, 516, 517, 538, 539, 540, 541, 542, 543, 546, 547, 548, 549, 544, 545, 536, 537] (by decide +kernel) (by decide +kernel)) (goodIn_sub (fun _ h => List.mem_append_left _ (List.mem_append_right _ h)) (by decide +kernel))) (goodIn_sub (fun _ h => List.mem_append_right _ h) (by decide +kernel))
set_option maxRecDepth 20000 in
theorem gL_law_L_isNeedless : GoodIn wsL_law (va_wsS RL 151 yL_isNeedless wsL_isNeedless) := goodIn_app (goodIn_of _ (by decide +kernel)) ggL_law_L_isNeedless
set_option maxRecDepth 20000 in
theorem ggL_law_X5_isNeedless : GoodIn wsL_law wsX5_isNeedless := goodIn_r _ [507, 69, 26, 211, 30, 200, 201, 202, 5, 203, 152, 73, 74, 75, 76, 77, 382, 383, 384, 385, 36, 37, 38, 39, 213, 214, 215, 216, 212, 34, 35, 70, 71, 72, 204, 205, 206, 251, 252, 253, 254, 386, 387, 388, 389, 32, 508, 509, 510, 511, 378, 379, 380, 381, 518, 519, 520, 521, 522, 523, 524, 525, 526, 527, 528, 529, 530, 531, 532, 533, 534, 535] (by decide +kernel) (by decide +kernel)
set_option maxRecDepth 20000 in
theorem gL_law_X5_isNeedless : GoodIn wsL_law (wsV RL 153 RX5 yX5_isNeedless wsX5_isNeedless) := goodIn_app (goodIn_of _ (by decide +kernel)) ggL_law_X5_isNeedless
theorem dL_law_0 : decode cL_law 0 = .ok (.new 8, 3) := by decide +kernel
theorem dL_law_3 : decode cL_law 3 = .ok (.dup, 1) := by decide +kernel
theorem dL_law_4 : decode cL_law 4 = .ok (.invokespecial 79, 3) := by decide +kernel
theorem dL_law_7 : decode cL_law 7 = .ok (.astore_n 1, 1) := by decide +kernel
theorem dL_law_8 : decode cL_law 8 = .ok (.new 80, 3) := by decide +kernel
theorem dL_law_11 : decode cL_law 11 = .ok (.dup, 1) := by decide +kernel
theorem dL_law_12 : decode cL_law 12 = .ok (.invokespecial 82, 3) := by decide +kernel
theorem dL_law_15 : decode cL_law 15 = .ok (.astore_n 2, 1) := by decide +kernel
theorem dL_law_16 : decode cL_law 16 = .ok (.iconst 1, 1) := by decide +kernel
theorem dL_law_17 : decode cL_law 17 = .ok (.newarray .long, 2) := by decide +kernel
theorem dL_law_19 : decode cL_law 19 = .ok (.astore_n 3, 1) := by decide +kernel
theorem dL_law_20 : decode cL_law 20 = .ok (.iconst 0, 1) := by decide +kernel
theorem dL_law_21 : decode cL_law 21 = .ok (.istore 4, 2) := by decide +kernel
theorem dL_law_23 : decode cL_law 23 = .ok (.iload 4, 2) := by decide +kernel
theorem dL_law_25 : decode cL_law 25 = .ok (.aload_n 0, 1) := by decide +kernel
theorem dL_law_26 : decode cL_law 26 = .ok (.arraylength, 1) := by decide +kernel
theorem dL_law_27 : decode cL_law 27 = .ok (.bipush 6, 2) := by decide +kernel
theorem dL_law_29 : decode cL_law 29 = .ok (.isub, 1) := by decide +kernel
theorem dL_law_30 : decode cL_law 30 = .ok (.if_icmp .gt 1527, 3) := by decide +kernel
theorem dL_law_33 : decode cL_law 33 = .ok (.aload_n 0, 1) := by decide +kernel
theorem dL_law_34 : decode cL_law 34 = .ok (.iload 4, 2) := by decide +kernel
theorem dL_law_36 : decode cL_law 36 = .ok (.iaload, 1) := by decide +kernel
theorem dL_law_37 : decode cL_law 37 = .ok (.bipush 31, 2) := by decide +kernel
theorem dL_law_39 : decode cL_law 39 = .ok (.iand, 1) := by decide +kernel
theorem dL_law_40 : decode cL_law 40 = .ok (.tableswitch 1511 0 18 #[92, 160, 228, 296, 388, 479, 590, 638, 694, 707, 782, 869, 937, 1005, 1116, 1208, 1312, 1380, 1448], 92) := by decide +kernel
theorem dL_law_132 : decode cL_law 132 = .ok (.aload_n 1, 1) := by decide +kernel
theorem dL_law_133 : decode cL_law 133 = .ok (.aload_n 0, 1) := by decide +kernel
theorem dL_law_134 : decode cL_law 134 = .ok (.iload 4, 2) := by decide +kernel
theorem dL_law_136 : decode cL_law 136 = .ok (.iconst 1, 1) := by decide +kernel
theorem dL_law_137 : decode cL_law 137 = .ok (.iadd, 1) := by decide +kernel
theorem dL_law_138 : decode cL_law 138 = .ok (.iaload, 1) := by decide +kernel
theorem dL_law_139 : decode cL_law 139 = .ok (.aload_n 0, 1) := by decide +kernel
theorem dL_law_140 : decode cL_law 140 = .ok (.iload 4, 2) := by decide +kernel
theorem dL_law_142 : decode cL_law 142 = .ok (.iconst 2, 1) := by decide +kernel
theorem dL_law_143 : decode cL_law 143 = .ok (.iadd, 1) := by decide +kernel
theorem dL_law_144 : decode cL_law 144 = .ok (.iaload, 1) := by decide +kernel
theorem dL_law_145 : decode cL_law 145 = .ok (.aload_n 3, 1) := by decide +kernel
theorem dL_law_146 : decode cL_law 146 = .ok (.invokestatic 83, 3) := by decide +kernel
theorem dL_law_149 : decode cL_law 149 = .ok (.istore 5, 2) := by decide +kernel
theorem dL_law_151 : decode cL_law 151 = .ok (.aload_n 2, 1) := by decide +kernel
theorem dL_law_152 : decode cL_law 152 = .ok (.aload_n 0, 1) := by decide +kernel
theorem dL_law_153 : decode cL_law 153 = .ok (.iload 4, 2) := by decide +kernel
theorem dL_law_155 : decode cL_law 155 = .ok (.iconst 1, 1) := by decide +kernel
theorem dL_law_156 : decode cL_law 156 = .ok (.iadd, 1) := by decide +kernel
theorem dL_law_157 : decode cL_law 157 = .ok (.iaload, 1) := by decide +kernel
theorem dL_law_158 : decode cL_law 158 = .ok (.aload_n 0, 1) := by decide +kernel
theorem dL_law_159 : decode cL_law 159 = .ok (.iload 4, 2) := by decide +kernel
theorem dL_law_161 : decode cL_law 161 = .ok (.iconst 2, 1) := by decide +kernel
theorem dL_law_162 : decode cL_law 162 = .ok (.iadd, 1) := by decide +kernel
theorem dL_law_163 : decode cL_law 163 = .ok (.iaload, 1) := by decide +kernel
theorem dL_law_164 : decode cL_law 164 = .ok (.invokevirtual 88, 3) := by decide +kernel
theorem dL_law_167 : decode cL_law 167 = .ok (.istore 6, 2) := by decide +kernel
theorem dL_law_169 : decode cL_law 169 = .ok (.aload_n 2, 1) := by decide +kernel
theorem dL_law_170 : decode cL_law 170 = .ok (.invokevirtual 89, 3) := by decide +kernel
theorem dL_law_173 : decode cL_law 173 = .ok (.iload 5, 2) := by decide +kernel
theorem dL_law_175 : decode cL_law 175 = .ok (.if_icmp .eq 5, 3) := by decide +kernel
theorem dL_law_178 : decode cL_law 178 = .ok (.iconst 0, 1) := by decide +kernel
theorem dL_law_179 : decode cL_law 179 = .ok (.ireturn, 1) := by decide +kernel
theorem dL_law_180 : decode cL_law 180 = .ok (.iload 5, 2) := by decide +kernel
theorem dL_law_182 : decode cL_law 182 = .ok (.ifCond .ne 15, 3) := by decide +kernel
theorem dL_law_185 : decode cL_law 185 = .ok (.aload_n 3, 1) := by decide +kernel
theorem dL_law_186 : decode cL_law 186 = .ok (.iconst 0, 1) := by decide +kernel
theorem dL_law_187 : decode cL_law 187 = .ok (.laload, 1) := by decide +kernel
theorem dL_law_188 : decode cL_law 188 = .ok (.iload 6, 2) := by decide +kernel
theorem dL_law_190 : decode cL_law 190 = .ok (.i2l, 1) := by decide +kernel
theorem dL_law_191 : decode cL_law 191 = .ok (.lcmp, 1) := by decide +kernel
theorem dL_law_192 : decode cL_law 192 = .ok (.ifCond .eq 5, 3) := by decide +kernel
theorem dL_law_195 : decode cL_law 195 = .ok (.iconst 0, 1) := by decide +kernel
theorem dL_law_196 : decode cL_law 196 = .ok (.ireturn, 1) := by decide +kernel
theorem dL_law_197 : decode cL_law 197 = .ok (.goto 1354, 3) := by decide +kernel
theorem dL_law_200 : decode cL_law 200 = .ok (.aload_n 1, 1) := by decide +kernel
theorem dL_law_201 : decode cL_law 201 = .ok (.aload_n 0, 1) := by decide +kernel
theorem dL_law_202 : decode cL_law 202 = .ok (.iload 4, 2) := by decide +kernel
theorem dL_law_204 : decode cL_law 204 = .ok (.iconst 1, 1) := by decide +kernel
theorem dL_law_205 : decode cL_law 205 = .ok (.iadd, 1) := by decide +kernel
theorem dL_law_206 : decode cL_law 206 = .ok (.iaload, 1) := by decide +kernel
theorem dL_law_207 : decode cL_law 207 = .ok (.aload_n 0, 1) := by decide +kernel
theorem dL_law_208 : decode cL_law 208 = .ok (.iload 4, 2) := by decide +kernel
theorem dL_law_210 : decode cL_law 210 = .ok (.iconst 2, 1) := by decide +kernel
theorem dL_law_211 : decode cL_law 211 = .ok (.iadd, 1) := by decide +kernel
theorem dL_law_212 : decode cL_law 212 = .ok (.iaload, 1) := by decide +kernel
theorem dL_law_213 : decode cL_law 213 = .ok (.aload_n 3, 1) := by decide +kernel
theorem dL_law_214 : decode cL_law 214 = .ok (.invokestatic 93, 3) := by decide +kernel
theorem dL_law_217 : decode cL_law 217 = .ok (.istore 5, 2) := by decide +kernel
theorem dL_law_219 : decode cL_law 219 = .ok (.aload_n 2, 1) := by decide +kernel
theorem dL_law_220 : decode cL_law 220 = .ok (.aload_n 0, 1) := by decide +kernel
theorem dL_law_221 : decode cL_law 221 = .ok (.iload 4, 2) := by decide +kernel
theorem dL_law_223 : decode cL_law 223 = .ok (.iconst 1, 1) := by decide +kernel
theorem dL_law_224 : decode cL_law 224 = .ok (.iadd, 1) := by decide +kernel
theorem dL_law_225 : decode cL_law 225 = .ok (.iaload, 1) := by decide +kernel
theorem dL_law_226 : decode cL_law 226 = .ok (.aload_n 0, 1) := by decide +kernel
theorem dL_law_227 : decode cL_law 227 = .ok (.iload 4, 2) := by decide +kernel
theorem dL_law_229 : decode cL_law 229 = .ok (.iconst 2, 1) := by decide +kernel
theorem dL_law_230 : decode cL_law 230 = .ok (.iadd, 1) := by decide +kernel
theorem dL_law_231 : decode cL_law 231 = .ok (.iaload, 1) := by decide +kernel
theorem dL_law_232 : decode cL_law 232 = .ok (.invokevirtual 95, 3) := by decide +kernel
theorem dL_law_235 : decode cL_law 235 = .ok (.istore 6, 2) := by decide +kernel
theorem dL_law_237 : decode cL_law 237 = .ok (.aload_n 2, 1) := by decide +kernel
theorem dL_law_238 : decode cL_law 238 = .ok (.invokevirtual 89, 3) := by decide +kernel
theorem dL_law_241 : decode cL_law 241 = .ok (.iload 5, 2) := by decide +kernel
theorem dL_law_243 : decode cL_law 243 = .ok (.if_icmp .eq 5, 3) := by decide +kernel
theorem dL_law_246 : decode cL_law 246 = .ok (.iconst 0, 1) := by decide +kernel
theorem dL_law_247 : decode cL_law 247 = .ok (.ireturn, 1) := by decide +kernel
theorem dL_law_248 : decode cL_law 248 = .ok (.iload 5, 2) := by decide +kernel
theorem dL_law_250 : decode cL_law 250 = .ok (.ifCond .ne 15, 3) := by decide +kernel
theorem dL_law_253 : decode cL_law 253 = .ok (.aload_n 3, 1) := by decide +kernel
theorem dL_law_254 : decode cL_law 254 = .ok (.iconst 0, 1) := by decide +kernel
theorem dL_law_255 : decode cL_law 255 = .ok (.laload, 1) := by decide +kernel
theorem dL_law_256 : decode cL_law 256 = .ok (.iload 6, 2) := by decide +kernel
theorem dL_law_258 : decode cL_law 258 = .ok (.i2l, 1) := by decide +kernel
theorem dL_law_259 : decode cL_law 259 = .ok (.lcmp, 1) := by decide +kernel
theorem dL_law_260 : decode cL_law 260 = .ok (.ifCond .eq 5, 3) := by decide +kernel
theorem dL_law_263 : decode cL_law 263 = .ok (.iconst 0, 1) := by decide +kernel
theorem dL_law_264 : decode cL_law 264 = .ok (.ireturn, 1) := by decide +kernel
theorem dL_law_265 : decode cL_law 265 = .ok (.goto 1286, 3) := by decide +kernel
theorem dL_law_268 : decode cL_law 268 = .ok (.aload_n 1, 1) := by decide +kernel
theorem dL_law_269 : decode cL_law 269 = .ok (.aload_n 0, 1) := by decide +kernel
theorem dL_law_270 : decode cL_law 270 = .ok (.iload 4, 2) := by decide +kernel
theorem dL_law_272 : decode cL_law 272 = .ok (.iconst 1, 1) := by decide +kernel
theorem dL_law_273 : decode cL_law 273 = .ok (.iadd, 1) := by decide +kernel
theorem dL_law_274 : decode cL_law 274 = .ok (.iaload, 1) := by decide +kernel
theorem dL_law_275 : decode cL_law 275 = .ok (.aload_n 0, 1) := by decide +kernel
theorem dL_law_276 : decode cL_law 276 = .ok (.iload 4, 2) := by decide +kernel
theorem dL_law_278 : decode cL_law 278 = .ok (.iconst 2, 1) := by decide +kernel
theorem dL_law_279 : decode cL_law 279 = .ok (.iadd, 1) := by decide +kernel
theorem dL_law_280 : decode cL_law 280 = .ok (.iaload, 1) := by decide +kernel
theorem dL_law_281 : decode cL_law 281 = .ok (.aload_n 3, 1) := by decide +kernel
theorem dL_law_282 : decode cL_law 282 = .ok (.invokestatic 96, 3) := by decide +kernel
theorem dL_law_285 : decode cL_law 285 = .ok (.istore 5, 2) := by decide +kernel
theorem dL_law_287 : decode cL_law 287 = .ok (.aload_n 2, 1) := by decide +kernel
theorem dL_law_288 : decode cL_law 288 = .ok (.aload_n 0, 1) := by decide +kernel
theorem dL_law_289 : decode cL_law 289 = .ok (.iload 4, 2) := by decide +kernel
theorem dL_law_291 : decode cL_law 291 = .ok (.iconst 1, 1) := by decide +kernel
theorem dL_law_292 : decode cL_law 292 = .ok (.iadd, 1) := by decide +kernel
theorem dL_law_293 : decode cL_law 293 = .ok (.iaload, 1) := by decide +kernel
theorem dL_law_294 : decode cL_law 294 = .ok (.aload_n 0, 1) := by decide +kernel
theorem dL_law_295 : decode cL_law 295 = .ok (.iload 4, 2) := by decide +kernel
theorem dL_law_297 : decode cL_law 297 = .ok (.iconst 2, 1) := by decide +kernel
theorem dL_law_298 : decode cL_law 298 = .ok (.iadd, 1) := by decide +kernel
theorem dL_law_299 : decode cL_law 299 = .ok (.iaload, 1) := by decide +kernel
theorem dL_law_300 : decode cL_law 300 = .ok (.invokevirtual 98, 3) := by decide +kernel
theorem dL_law_303 : decode cL_law 303 = .ok (.istore 6, 2) := by decide +kernel
theorem dL_law_305 : decode cL_law 305 = .ok (.aload_n 2, 1) := by decide +kernel
theorem dL_law_306 : decode cL_law 306 = .ok (.invokevirtual 89, 3) := by decide +kernel
theorem dL_law_309 : decode cL_law 309 = .ok (.iload 5, 2) := by decide +kernel
theorem dL_law_311 : decode cL_law 311 = .ok (.if_icmp .eq 5, 3) := by decide +kernel
theorem dL_law_314 : decode cL_law 314 = .ok (.iconst 0, 1) := by decide +kernel
theorem dL_law_315 : decode cL_law 315 = .ok (.ireturn, 1) := by decide +kernel
theorem dL_law_316 : decode cL_law 316 = .ok (.iload 5, 2) := by decide +kernel
theorem dL_law_318 : decode cL_law 318 = .ok (.ifCond .ne 15, 3) := by decide +kernel
theorem dL_law_321 : decode cL_law 321 = .ok (.aload_n 3, 1) := by decide +kernel
theorem dL_law_322 : decode cL_law 322 = .ok (.iconst 0, 1) := by decide +kernel
theorem dL_law_323 : decode cL_law 323 = .ok (.laload, 1) := by decide +kernel
theorem dL_law_324 : decode cL_law 324 = .ok (.iload 6, 2) := by decide +kernel
theorem dL_law_326 : decode cL_law 326 = .ok (.i2l, 1) := by decide +kernel
theorem dL_law_327 : decode cL_law 327 = .ok (.lcmp, 1) := by decide +kernel
theorem dL_law_328 : decode cL_law 328 = .ok (.ifCond .eq 5, 3) := by decide +kernel
theorem dL_law_331 : decode cL_law 331 = .ok (.iconst 0, 1) := by decide +kernel
theorem dL_law_332 : decode cL_law 332 = .ok (.ireturn, 1) := by decide +kernel
theorem dL_law_333 : decode cL_law 333 = .ok (.goto 1218, 3) := by decide +kernel
theorem dL_law_336 : decode cL_law 336 = .ok (.aload_n 1, 1) := by decide +kernel
theorem dL_law_337 : decode cL_law 337 = .ok (.aload_n 0, 1) := by decide +kernel
theorem dL_law_338 : decode cL_law 338 = .ok (.iload 4, 2) := by decide +kernel
theorem dL_law_340 : decode cL_law 340 = .ok (.iconst 1, 1) := by decide +kernel
theorem dL_law_341 : decode cL_law 341 = .ok (.iadd, 1) := by decide +kernel
theorem dL_law_342 : decode cL_law 342 = .ok (.iaload, 1) := by decide +kernel
theorem dL_law_343 : decode cL_law 343 = .ok (.aload_n 0, 1) := by decide +kernel
theorem dL_law_344 : decode cL_law 344 = .ok (.iload 4, 2) := by decide +kernel
theorem dL_law_346 : decode cL_law 346 = .ok (.iconst 2, 1) := by decide +kernel
theorem dL_law_347 : decode cL_law 347 = .ok (.iadd, 1) := by decide +kernel
theorem dL_law_348 : decode cL_law 348 = .ok (.iaload, 1) := by decide +kernel
theorem dL_law_349 : decode cL_law 349 = .ok (.aload_n 0, 1) := by decide +kernel
theorem dL_law_350 : decode cL_law 350 = .ok (.iload 4, 2) := by decide +kernel
theorem dL_law_352 : decode cL_law 352 = .ok (.iconst 3, 1) := by decide +kernel
theorem dL_law_353 : decode cL_law 353 = .ok (.iadd, 1) := by decide +kernel
theorem dL_law_354 : decode cL_law 354 = .ok (.iaload, 1) := by decide +kernel
theorem dL_law_355 : decode cL_law 355 = .ok (.aload_n 0, 1) := by decide +kernel
theorem dL_law_356 : decode cL_law 356 = .ok (.iload 4, 2) := by decide +kernel
theorem dL_law_358 : decode cL_law 358 = .ok (.iconst 4, 1) := by decide +kernel
theorem dL_law_359 : decode cL_law 359 = .ok (.iadd, 1) := by decide +kernel
theorem dL_law_360 : decode cL_law 360 = .ok (.iaload, 1) := by decide +kernel
theorem dL_law_361 : decode cL_law 361 = .ok (.aload_n 3, 1) := by decide +kernel
theorem dL_law_362 : decode cL_law 362 = .ok (.invokestatic 99, 3) := by decide +kernel
theorem dL_law_365 : decode cL_law 365 = .ok (.istore 5, 2) := by decide +kernel
theorem dL_law_367 : decode cL_law 367 = .ok (.aload_n 2, 1) := by decide +kernel
theorem dL_law_368 : decode cL_law 368 = .ok (.aload_n 0, 1) := by decide +kernel
theorem dL_law_369 : decode cL_law 369 = .ok (.iload 4, 2) := by decide +kernel
theorem dL_law_371 : decode cL_law 371 = .ok (.iconst 1, 1) := by decide +kernel
theorem dL_law_372 : decode cL_law 372 = .ok (.iadd, 1) := by decide +kernel
theorem dL_law_373 : decode cL_law 373 = .ok (.iaload, 1) := by decide +kernel
theorem dL_law_374 : decode cL_law 374 = .ok (.aload_n 0, 1) := by decide +kernel
theorem dL_law_375 : decode cL_law 375 = .ok (.iload 4, 2) := by decide +kernel
theorem dL_law_377 : decode cL_law 377 = .ok (.iconst 2, 1) := by decide +kernel
theorem dL_law_378 : decode cL_law 378 = .ok (.iadd, 1) := by decide +kernel
theorem dL_law_379 : decode cL_law 379 = .ok (.iaload, 1) := by decide +kernel
theorem dL_law_380 : decode cL_law 380 = .ok (.aload_n 0, 1) := by decide +kernel
theorem dL_law_381 : decode cL_law 381 = .ok (.iload 4, 2) := by decide +kernel
theorem dL_law_383 : decode cL_law 383 = .ok (.iconst 3, 1) := by decide +kernel
theorem dL_law_384 : decode cL_law 384 = .ok (.iadd, 1) := by decide +kernel
theorem dL_law_385 : decode cL_law 385 = .ok (.iaload, 1) := by decide +kernel
theorem dL_law_386 : decode cL_law 386 = .ok (.aload_n 0, 1) := by decide +kernel
theorem dL_law_387 : decode cL_law 387 = .ok (.iload 4, 2) := by decide +kernel
theorem dL_law_389 : decode cL_law 389 = .ok (.iconst 4, 1) := by decide +kernel
theorem dL_law_390 : decode cL_law 390 = .ok (.iadd, 1) := by decide +kernel
theorem dL_law_391 : decode cL_law 391 = .ok (.iaload, 1) := by decide +kernel
theorem dL_law_392 : decode cL_law 392 = .ok (.invokevirtual 102, 3) := by decide +kernel
theorem dL_law_395 : decode cL_law 395 = .ok (.istore 6, 2) := by decide +kernel
theorem dL_law_397 : decode cL_law 397 = .ok (.aload_n 2, 1) := by decide +kernel
theorem dL_law_398 : decode cL_law 398 = .ok (.invokevirtual 89, 3) := by decide +kernel
theorem dL_law_401 : decode cL_law 401 = .ok (.iload 5, 2) := by decide +kernel
theorem dL_law_403 : decode cL_law 403 = .ok (.if_icmp .eq 5, 3) := by decide +kernel
theorem dL_law_406 : decode cL_law 406 = .ok (.iconst 0, 1) := by decide +kernel
theorem dL_law_407 : decode cL_law 407 = .ok (.ireturn, 1) := by decide +kernel
theorem dL_law_408 : decode cL_law 408 = .ok (.iload 5, 2) := by decide +kernel
theorem dL_law_410 : decode cL_law 410 = .ok (.ifCond .ne 15, 3) := by decide +kernel
theorem dL_law_413 : decode cL_law 413 = .ok (.aload_n 3, 1) := by decide +kernel
theorem dL_law_414 : decode cL_law 414 = .ok (.iconst 0, 1) := by decide +kernel
theorem dL_law_415 : decode cL_law 415 = .ok (.laload, 1) := by decide +kernel
theorem dL_law_416 : decode cL_law 416 = .ok (.iload 6, 2) := by decide +kernel
theorem dL_law_418 : decode cL_law 418 = .ok (.i2l, 1) := by decide +kernel
theorem dL_law_419 : decode cL_law 419 = .ok (.lcmp, 1) := by decide +kernel
theorem dL_law_420 : decode cL_law 420 = .ok (.ifCond .eq 5, 3) := by decide +kernel
theorem dL_law_423 : decode cL_law 423 = .ok (.iconst 0, 1) := by decide +kernel
theorem dL_law_424 : decode cL_law 424 = .ok (.ireturn, 1) := by decide +kernel
theorem dL_law_425 : decode cL_law 425 = .ok (.goto 1126, 3) := by decide +kernel
theorem dL_law_428 : decode cL_law 428 = .ok (.aload_n 1, 1) := by decide +kernel
theorem dL_law_429 : decode cL_law 429 = .ok (.aload_n 0, 1) := by decide +kernel
theorem dL_law_430 : decode cL_law 430 = .ok (.iload 4, 2) := by decide +kernel
theorem dL_law_432 : decode cL_law 432 = .ok (.iconst 1, 1) := by decide +kernel
theorem dL_law_433 : decode cL_law 433 = .ok (.iadd, 1) := by decide +kernel
theorem dL_law_434 : decode cL_law 434 = .ok (.iaload, 1) := by decide +kernel
theorem dL_law_435 : decode cL_law 435 = .ok (.aload_n 0, 1) := by decide +kernel
theorem dL_law_436 : decode cL_law 436 = .ok (.iload 4, 2) := by decide +kernel
theorem dL_law_438 : decode cL_law 438 = .ok (.iconst 2, 1) := by decide +kernel
theorem dL_law_439 : decode cL_law 439 = .ok (.iadd, 1) := by decide +kernel
theorem dL_law_440 : decode cL_law 440 = .ok (.iaload, 1) := by decide +kernel
theorem dL_law_441 : decode cL_law 441 = .ok (.ifCond .eq 7, 3) := by decide +kernel
theorem dL_law_444 : decode cL_law 444 = .ok (.iconst 1, 1) := by decide +kernel
theorem dL_law_445 : decode cL_law 445 = .ok (.goto 4, 3) := by decide +kernel
theorem dL_law_448 : decode cL_law 448 = .ok (.iconst 0, 1) := by decide +kernel
theorem dL_law_449 : decode cL_law 449 = .ok (.aload_n 3, 1) := by decide +kernel
theorem dL_law_450 : decode cL_law 450 = .ok (.invokestatic 103, 3) := by decide +kernel
theorem dL_law_453 : decode cL_law 453 = .ok (.istore 5, 2) := by decide +kernel
theorem dL_law_455 : decode cL_law 455 = .ok (.aload_n 2, 1) := by decide +kernel
theorem dL_law_456 : decode cL_law 456 = .ok (.aload_n 0, 1) := by decide +kernel
theorem dL_law_457 : decode cL_law 457 = .ok (.iload 4, 2) := by decide +kernel
theorem dL_law_459 : decode cL_law 459 = .ok (.iconst 1, 1) := by decide +kernel
theorem dL_law_460 : decode cL_law 460 = .ok (.iadd, 1) := by decide +kernel
theorem dL_law_461 : decode cL_law 461 = .ok (.iaload, 1) := by decide +kernel
theorem dL_law_462 : decode cL_law 462 = .ok (.aload_n 0, 1) := by decide +kernel
theorem dL_law_463 : decode cL_law 463 = .ok (.iload 4, 2) := by decide +kernel
theorem dL_law_465 : decode cL_law 465 = .ok (.iconst 2, 1) := by decide +kernel
theorem dL_law_466 : decode cL_law 466 = .ok (.iadd, 1) := by decide +kernel
theorem dL_law_467 : decode cL_law 467 = .ok (.iaload, 1) := by decide +kernel
theorem dL_law_468 : decode cL_law 468 = .ok (.ifCond .eq 7, 3) := by decide +kernel
theorem dL_law_471 : decode cL_law 471 = .ok (.iconst 1, 1) := by decide +kernel
theorem dL_law_472 : decode cL_law 472 = .ok (.goto 4, 3) := by decide +kernel
theorem dL_law_475 : decode cL_law 475 = .ok (.iconst 0, 1) := by decide +kernel
theorem dL_law_476 : decode cL_law 476 = .ok (.invokevirtual 106, 3) := by decide +kernel
theorem dL_law_479 : decode cL_law 479 = .ok (.istore 6, 2) := by decide +kernel
theorem dL_law_481 : decode cL_law 481 = .ok (.aload_n 2, 1) := by decide +kernel
theorem dL_law_482 : decode cL_law 482 = .ok (.invokevirtual 89, 3) := by decide +kernel
theorem dL_law_485 : decode cL_law 485 = .ok (.iload 5, 2) := by decide +kernel
theorem dL_law_487 : decode cL_law 487 = .ok (.if_icmp .eq 5, 3) := by decide +kernel
theorem dL_law_490 : decode cL_law 490 = .ok (.iconst 0, 1) := by decide +kernel
theorem dL_law_491 : decode cL_law 491 = .ok (.ireturn, 1) := by decide +kernel
theorem dL_law_492 : decode cL_law 492 = .ok (.iload 5, 2) := by decide +kernel
theorem dL_law_494 : decode cL_law 494 = .ok (.ifCond .ne 22, 3) := by decide +kernel
theorem dL_law_497 : decode cL_law 497 = .ok (.aload_n 3, 1) := by decide +kernel
theorem dL_law_498 : decode cL_law 498 = .ok (.iconst 0, 1) := by decide +kernel
theorem dL_law_499 : decode cL_law 499 = .ok (.laload, 1) := by decide +kernel
theorem dL_law_500 : decode cL_law 500 = .ok (.iload 6, 2) := by decide +kernel
theorem dL_law_502 : decode cL_law 502 = .ok (.ifCond .eq 7, 3) := by decide +kernel
theorem dL_law_505 : decode cL_law 505 = .ok (.lconst 1, 1) := by decide +kernel
theorem dL_law_506 : decode cL_law 506 = .ok (.goto 4, 3) := by decide +kernel
theorem dL_law_509 : decode cL_law 509 = .ok (.lconst 0, 1) := by decide +kernel
theorem dL_law_510 : decode cL_law 510 = .ok (.lcmp, 1) := by decide +kernel
theorem dL_law_511 : decode cL_law 511 = .ok (.ifCond .eq 5, 3) := by decide +kernel
theorem dL_law_514 : decode cL_law 514 = .ok (.iconst 0, 1) := by decide +kernel
theorem dL_law_515 : decode cL_law 515 = .ok (.ireturn, 1) := by decide +kernel
theorem dL_law_516 : decode cL_law 516 = .ok (.goto 1035, 3) := by decide +kernel
theorem dL_law_519 : decode cL_law 519 = .ok (.aload_n 1, 1) := by decide +kernel
theorem dL_law_520 : decode cL_law 520 = .ok (.aload_n 0, 1) := by decide +kernel
theorem dL_law_521 : decode cL_law 521 = .ok (.iload 4, 2) := by decide +kernel
theorem dL_law_523 : decode cL_law 523 = .ok (.iconst 1, 1) := by decide +kernel
theorem dL_law_524 : decode cL_law 524 = .ok (.iadd, 1) := by decide +kernel
theorem dL_law_525 : decode cL_law 525 = .ok (.iaload, 1) := by decide +kernel
theorem dL_law_526 : decode cL_law 526 = .ok (.aload_n 0, 1) := by decide +kernel
theorem dL_law_527 : decode cL_law 527 = .ok (.iload 4, 2) := by decide +kernel
theorem dL_law_529 : decode cL_law 529 = .ok (.iconst 2, 1) := by decide +kernel
theorem dL_law_530 : decode cL_law 530 = .ok (.iadd, 1) := by decide +kernel
theorem dL_law_531 : decode cL_law 531 = .ok (.iaload, 1) := by decide +kernel
theorem dL_law_532 : decode cL_law 532 = .ok (.aload_n 0, 1) := by decide +kernel
theorem dL_law_533 : decode cL_law 533 = .ok (.iload 4, 2) := by decide +kernel
theorem dL_law_535 : decode cL_law 535 = .ok (.iconst 3, 1) := by decide +kernel
theorem dL_law_536 : decode cL_law 536 = .ok (.iadd, 1) := by decide +kernel
theorem dL_law_537 : decode cL_law 537 = .ok (.iaload, 1) := by decide +kernel
theorem dL_law_538 : decode cL_law 538 = .ok (.aload_n 0, 1) := by decide +kernel
theorem dL_law_539 : decode cL_law 539 = .ok (.iload 4, 2) := by decide +kernel
theorem dL_law_541 : decode cL_law 541 = .ok (.iconst 4, 1) := by decide +kernel
theorem dL_law_542 : decode cL_law 542 = .ok (.iadd, 1) := by decide +kernel
theorem dL_law_543 : decode cL_law 543 = .ok (.iaload, 1) := by decide +kernel
theorem dL_law_544 : decode cL_law 544 = .ok (.aload_n 0, 1) := by decide +kernel
theorem dL_law_545 : decode cL_law 545 = .ok (.iload 4, 2) := by decide +kernel
theorem dL_law_547 : decode cL_law 547 = .ok (.iconst 5, 1) := by decide +kernel
theorem dL_law_548 : decode cL_law 548 = .ok (.iadd, 1) := by decide +kernel
theorem dL_law_549 : decode cL_law 549 = .ok (.iaload, 1) := by decide +kernel
theorem dL_law_550 : decode cL_law 550 = .ok (.aload_n 3, 1) := by decide +kernel
theorem dL_law_551 : decode cL_law 551 = .ok (.invokestatic 107, 3) := by decide +kernel
theorem dL_law_554 : decode cL_law 554 = .ok (.istore 5, 2) := by decide +kernel
theorem dL_law_556 : decode cL_law 556 = .ok (.aload_n 2, 1) := by decide +kernel
theorem dL_law_557 : decode cL_law 557 = .ok (.aload_n 0, 1) := by decide +kernel
theorem dL_law_558 : decode cL_law 558 = .ok (.iload 4, 2) := by decide +kernel
theorem dL_law_560 : decode cL_law 560 = .ok (.iconst 1, 1) := by decide +kernel
theorem dL_law_561 : decode cL_law 561 = .ok (.iadd, 1) := by decide +kernel
theorem dL_law_562 : decode cL_law 562 = .ok (.iaload, 1) := by decide +kernel
theorem dL_law_563 : decode cL_law 563 = .ok (.aload_n 0, 1) := by decide +kernel
theorem dL_law_564 : decode cL_law 564 = .ok (.iload 4, 2) := by decide +kernel
theorem dL_law_566 : decode cL_law 566 = .ok (.iconst 2, 1) := by decide +kernel
theorem dL_law_567 : decode cL_law 567 = .ok (.iadd, 1) := by decide +kernel
theorem dL_law_568 : decode cL_law 568 = .ok (.iaload, 1) := by decide +kernel
theorem dL_law_569 : decode cL_law 569 = .ok (.aload_n 0, 1) := by decide +kernel
theorem dL_law_570 : decode cL_law 570 = .ok (.iload 4, 2) := by decide +kernel
theorem dL_law_572 : decode cL_law 572 = .ok (.iconst 3, 1) := by decide +kernel
theorem dL_law_573 : decode cL_law 573 = .ok (.iadd, 1) := by decide +kernel
theorem dL_law_574 : decode cL_law 574 = .ok (.iaload, 1) := by decide +kernel
theorem dL_law_575 : decode cL_law 575 = .ok (.aload_n 0, 1) := by decide +kernel
theorem dL_law_576 : decode cL_law 576 = .ok (.iload 4, 2) := by decide +kernel
theorem dL_law_578 : decode cL_law 578 = .ok (.iconst 4, 1) := by decide +kernel
theorem dL_law_579 : decode cL_law 579 = .ok (.iadd, 1) := by decide +kernel
theorem dL_law_580 : decode cL_law 580 = .ok (.iaload, 1) := by decide +kernel
theorem dL_law_581 : decode cL_law 581 = .ok (.aload_n 0, 1) := by decide +kernel
theorem dL_law_582 : decode cL_law 582 = .ok (.iload 4, 2) := by decide +kernel
theorem dL_law_584 : decode cL_law 584 = .ok (.iconst 5, 1) := by decide +kernel
theorem dL_law_585 : decode cL_law 585 = .ok (.iadd, 1) := by decide +kernel
theorem dL_law_586 : decode cL_law 586 = .ok (.iaload, 1) := by decide +kernel
theorem dL_law_587 : decode cL_law 587 = .ok (.invokevirtual 110, 3) := by decide +kernel
theorem dL_law_590 : decode cL_law 590 = .ok (.istore 6, 2) := by decide +kernel
theorem dL_law_592 : decode cL_law 592 = .ok (.aload_n 2, 1) := by decide +kernel
theorem dL_law_593 : decode cL_law 593 = .ok (.invokevirtual 89, 3) := by decide +kernel
theorem dL_law_596 : decode cL_law 596 = .ok (.iload 5, 2) := by decide +kernel
theorem dL_law_598 : decode cL_law 598 = .ok (.if_icmp .eq 5, 3) := by decide +kernel
theorem dL_law_601 : decode cL_law 601 = .ok (.iconst 0, 1) := by decide +kernel
theorem dL_law_602 : decode cL_law 602 = .ok (.ireturn, 1) := by decide +kernel
theorem dL_law_603 : decode cL_law 603 = .ok (.iload 5, 2) := by decide +kernel
theorem dL_law_605 : decode cL_law 605 = .ok (.ifCond .ne 22, 3) := by decide +kernel
theorem dL_law_608 : decode cL_law 608 = .ok (.aload_n 3, 1) := by decide +kernel
theorem dL_law_609 : decode cL_law 609 = .ok (.iconst 0, 1) := by decide +kernel
theorem dL_law_610 : decode cL_law 610 = .ok (.laload, 1) := by decide +kernel
theorem dL_law_611 : decode cL_law 611 = .ok (.iload 6, 2) := by decide +kernel
theorem dL_law_613 : decode cL_law 613 = .ok (.ifCond .eq 7, 3) := by decide +kernel
theorem dL_law_616 : decode cL_law 616 = .ok (.lconst 1, 1) := by decide +kernel
theorem dL_law_617 : decode cL_law 617 = .ok (.goto 4, 3) := by decide +kernel
theorem dL_law_620 : decode cL_law 620 = .ok (.lconst 0, 1) := by decide +kernel
theorem dL_law_621 : decode cL_law 621 = .ok (.lcmp, 1) := by decide +kernel
theorem dL_law_622 : decode cL_law 622 = .ok (.ifCond .eq 5, 3) := by decide +kernel
theorem dL_law_625 : decode cL_law 625 = .ok (.iconst 0, 1) := by decide +kernel
theorem dL_law_626 : decode cL_law 626 = .ok (.ireturn, 1) := by decide +kernel
theorem dL_law_627 : decode cL_law 627 = .ok (.goto 924, 3) := by decide +kernel
theorem dL_law_630 : decode cL_law 630 = .ok (.aload_n 1, 1) := by decide +kernel
theorem dL_law_631 : decode cL_law 631 = .ok (.aload_n 0, 1) := by decide +kernel
theorem dL_law_632 : decode cL_law 632 = .ok (.iload 4, 2) := by decide +kernel
theorem dL_law_634 : decode cL_law 634 = .ok (.iconst 1, 1) := by decide +kernel
theorem dL_law_635 : decode cL_law 635 = .ok (.iadd, 1) := by decide +kernel
theorem dL_law_636 : decode cL_law 636 = .ok (.iaload, 1) := by decide +kernel
theorem dL_law_637 : decode cL_law 637 = .ok (.aload_n 0, 1) := by decide +kernel
theorem dL_law_638 : decode cL_law 638 = .ok (.iload 4, 2) := by decide +kernel
theorem dL_law_640 : decode cL_law 640 = .ok (.iconst 2, 1) := by decide +kernel
theorem dL_law_641 : decode cL_law 641 = .ok (.iadd, 1) := by decide +kernel
theorem dL_law_642 : decode cL_law 642 = .ok (.iaload, 1) := by decide +kernel
theorem dL_law_643 : decode cL_law 643 = .ok (.invokestatic 111, 3) := by decide +kernel
theorem dL_law_646 : decode cL_law 646 = .ok (.istore 5, 2) := by decide +kernel
theorem dL_law_648 : decode cL_law 648 = .ok (.aload_n 2, 1) := by decide +kernel
theorem dL_law_649 : decode cL_law 649 = .ok (.aload_n 0, 1) := by decide +kernel
theorem dL_law_650 : decode cL_law 650 = .ok (.iload 4, 2) := by decide +kernel
theorem dL_law_652 : decode cL_law 652 = .ok (.iconst 1, 1) := by decide +kernel
theorem dL_law_653 : decode cL_law 653 = .ok (.iadd, 1) := by decide +kernel
theorem dL_law_654 : decode cL_law 654 = .ok (.iaload, 1) := by decide +kernel
theorem dL_law_655 : decode cL_law 655 = .ok (.aload_n 0, 1) := by decide +kernel
theorem dL_law_656 : decode cL_law 656 = .ok (.iload 4, 2) := by decide +kernel
theorem dL_law_658 : decode cL_law 658 = .ok (.iconst 2, 1) := by decide +kernel
theorem dL_law_659 : decode cL_law 659 = .ok (.iadd, 1) := by decide +kernel
theorem dL_law_660 : decode cL_law 660 = .ok (.iaload, 1) := by decide +kernel
theorem dL_law_661 : decode cL_law 661 = .ok (.invokevirtual 114, 3) := by decide +kernel
theorem dL_law_664 : decode cL_law 664 = .ok (.aload_n 2, 1) := by decide +kernel
theorem dL_law_665 : decode cL_law 665 = .ok (.invokevirtual 89, 3) := by decide +kernel
theorem dL_law_668 : decode cL_law 668 = .ok (.iload 5, 2) := by decide +kernel
theorem dL_law_670 : decode cL_law 670 = .ok (.if_icmp .eq 5, 3) := by decide +kernel
theorem dL_law_673 : decode cL_law 673 = .ok (.iconst 0, 1) := by decide +kernel
theorem dL_law_674 : decode cL_law 674 = .ok (.ireturn, 1) := by decide +kernel
theorem dL_law_675 : decode cL_law 675 = .ok (.goto 876, 3) := by decide +kernel
theorem dL_law_678 : decode cL_law 678 = .ok (.aload_n 1, 1) := by decide +kernel
theorem dL_law_679 : decode cL_law 679 = .ok (.aload_n 0, 1) := by decide +kernel
theorem dL_law_680 : decode cL_law 680 = .ok (.iload 4, 2) := by decide +kernel
theorem dL_law_682 : decode cL_law 682 = .ok (.iconst 1, 1) := by decide +kernel
theorem dL_law_683 : decode cL_law 683 = .ok (.iadd, 1) := by decide +kernel
theorem dL_law_684 : decode cL_law 684 = .ok (.iaload, 1) := by decide +kernel
theorem dL_law_685 : decode cL_law 685 = .ok (.aload_n 3, 1) := by decide +kernel
theorem dL_law_686 : decode cL_law 686 = .ok (.invokestatic 115, 3) := by decide +kernel
theorem dL_law_689 : decode cL_law 689 = .ok (.istore 5, 2) := by decide +kernel
theorem dL_law_691 : decode cL_law 691 = .ok (.aload_n 2, 1) := by decide +kernel
theorem dL_law_692 : decode cL_law 692 = .ok (.aload_n 0, 1) := by decide +kernel
theorem dL_law_693 : decode cL_law 693 = .ok (.iload 4, 2) := by decide +kernel
theorem dL_law_695 : decode cL_law 695 = .ok (.iconst 1, 1) := by decide +kernel
theorem dL_law_696 : decode cL_law 696 = .ok (.iadd, 1) := by decide +kernel
theorem dL_law_697 : decode cL_law 697 = .ok (.iaload, 1) := by decide +kernel
theorem dL_law_698 : decode cL_law 698 = .ok (.invokevirtual 118, 3) := by decide +kernel
theorem dL_law_701 : decode cL_law 701 = .ok (.istore 6, 2) := by decide +kernel
theorem dL_law_703 : decode cL_law 703 = .ok (.aload_n 2, 1) := by decide +kernel
theorem dL_law_704 : decode cL_law 704 = .ok (.invokevirtual 89, 3) := by decide +kernel
theorem dL_law_707 : decode cL_law 707 = .ok (.iload 5, 2) := by decide +kernel
theorem dL_law_709 : decode cL_law 709 = .ok (.if_icmp .eq 5, 3) := by decide +kernel
theorem dL_law_712 : decode cL_law 712 = .ok (.iconst 0, 1) := by decide +kernel
theorem dL_law_713 : decode cL_law 713 = .ok (.ireturn, 1) := by decide +kernel
theorem dL_law_714 : decode cL_law 714 = .ok (.iload 5, 2) := by decide +kernel
theorem dL_law_716 : decode cL_law 716 = .ok (.ifCond .ne 15, 3) := by decide +kernel
theorem dL_law_719 : decode cL_law 719 = .ok (.aload_n 3, 1) := by decide +kernel
theorem dL_law_720 : decode cL_law 720 = .ok (.iconst 0, 1) := by decide +kernel
theorem dL_law_721 : decode cL_law 721 = .ok (.laload, 1) := by decide +kernel
theorem dL_law_722 : decode cL_law 722 = .ok (.iload 6, 2) := by decide +kernel
theorem dL_law_724 : decode cL_law 724 = .ok (.i2l, 1) := by decide +kernel
theorem dL_law_725 : decode cL_law 725 = .ok (.lcmp, 1) := by decide +kernel
theorem dL_law_726 : decode cL_law 726 = .ok (.ifCond .eq 5, 3) := by decide +kernel
theorem dL_law_729 : decode cL_law 729 = .ok (.iconst 0, 1) := by decide +kernel
theorem dL_law_730 : decode cL_law 730 = .ok (.ireturn, 1) := by decide +kernel
theorem dL_law_731 : decode cL_law 731 = .ok (.goto 820, 3) := by decide +kernel
theorem dL_law_734 : decode cL_law 734 = .ok (.aload_n 1, 1) := by decide +kernel
theorem dL_law_735 : decode cL_law 735 = .ok (.invokevirtual 119, 3) := by decide +kernel
theorem dL_law_738 : decode cL_law 738 = .ok (.aload_n 2, 1) := by decide +kernel
theorem dL_law_739 : decode cL_law 739 = .ok (.invokevirtual 122, 3) := by decide +kernel
theorem dL_law_742 : decode cL_law 742 = .ok (.if_icmp .eq 809, 3) := by decide +kernel
theorem dL_law_745 : decode cL_law 745 = .ok (.iconst 0, 1) := by decide +kernel
theorem dL_law_746 : decode cL_law 746 = .ok (.ireturn, 1) := by decide +kernel
theorem dL_law_747 : decode cL_law 747 = .ok (.aload_n 1, 1) := by decide +kernel
theorem dL_law_748 : decode cL_law 748 = .ok (.aload_n 0, 1) := by decide +kernel
theorem dL_law_749 : decode cL_law 749 = .ok (.iload 4, 2) := by decide +kernel
theorem dL_law_751 : decode cL_law 751 = .ok (.iconst 1, 1) := by decide +kernel
theorem dL_law_752 : decode cL_law 752 = .ok (.iadd, 1) := by decide +kernel
theorem dL_law_753 : decode cL_law 753 = .ok (.iaload, 1) := by decide +kernel
theorem dL_law_754 : decode cL_law 754 = .ok (.aload_n 0, 1) := by decide +kernel
theorem dL_law_755 : decode cL_law 755 = .ok (.iload 4, 2) := by decide +kernel
theorem dL_law_757 : decode cL_law 757 = .ok (.iconst 2, 1) := by decide +kernel
theorem dL_law_758 : decode cL_law 758 = .ok (.iadd, 1) := by decide +kernel
theorem dL_law_759 : decode cL_law 759 = .ok (.iaload, 1) := by decide +kernel
theorem dL_law_760 : decode cL_law 760 = .ok (.aload_n 3, 1) := by decide +kernel
theorem dL_law_761 : decode cL_law 761 = .ok (.invokestatic 123, 3) := by decide +kernel
theorem dL_law_764 : decode cL_law 764 = .ok (.istore 5, 2) := by decide +kernel
theorem dL_law_766 : decode cL_law 766 = .ok (.aload_n 2, 1) := by decide +kernel
theorem dL_law_767 : decode cL_law 767 = .ok (.aload_n 0, 1) := by decide +kernel
theorem dL_law_768 : decode cL_law 768 = .ok (.iload 4, 2) := by decide +kernel
theorem dL_law_770 : decode cL_law 770 = .ok (.iconst 1, 1) := by decide +kernel
theorem dL_law_771 : decode cL_law 771 = .ok (.iadd, 1) := by decide +kernel
theorem dL_law_772 : decode cL_law 772 = .ok (.iaload, 1) := by decide +kernel
theorem dL_law_773 : decode cL_law 773 = .ok (.aload_n 0, 1) := by decide +kernel
theorem dL_law_774 : decode cL_law 774 = .ok (.iload 4, 2) := by decide +kernel
theorem dL_law_776 : decode cL_law 776 = .ok (.iconst 2, 1) := by decide +kernel
theorem dL_law_777 : decode cL_law 777 = .ok (.iadd, 1) := by decide +kernel
theorem dL_law_778 : decode cL_law 778 = .ok (.iaload, 1) := by decide +kernel
theorem dL_law_779 : decode cL_law 779 = .ok (.invokevirtual 125, 3) := by decide +kernel
theorem dL_law_782 : decode cL_law 782 = .ok (.istore 6, 2) := by decide +kernel
theorem dL_law_784 : decode cL_law 784 = .ok (.aload_n 2, 1) := by decide +kernel
theorem dL_law_785 : decode cL_law 785 = .ok (.invokevirtual 89, 3) := by decide +kernel
theorem dL_law_788 : decode cL_law 788 = .ok (.iload 5, 2) := by decide +kernel
theorem dL_law_790 : decode cL_law 790 = .ok (.if_icmp .eq 5, 3) := by decide +kernel
theorem dL_law_793 : decode cL_law 793 = .ok (.iconst 0, 1) := by decide +kernel
theorem dL_law_794 : decode cL_law 794 = .ok (.ireturn, 1) := by decide +kernel
theorem dL_law_795 : decode cL_law 795 = .ok (.iload 5, 2) := by decide +kernel
theorem dL_law_797 : decode cL_law 797 = .ok (.ifCond .ne 22, 3) := by decide +kernel
theorem dL_law_800 : decode cL_law 800 = .ok (.aload_n 3, 1) := by decide +kernel
theorem dL_law_801 : decode cL_law 801 = .ok (.iconst 0, 1) := by decide +kernel
theorem dL_law_802 : decode cL_law 802 = .ok (.laload, 1) := by decide +kernel
theorem dL_law_803 : decode cL_law 803 = .ok (.iload 6, 2) := by decide +kernel
theorem dL_law_805 : decode cL_law 805 = .ok (.ifCond .eq 7, 3) := by decide +kernel
theorem dL_law_808 : decode cL_law 808 = .ok (.lconst 1, 1) := by decide +kernel
theorem dL_law_809 : decode cL_law 809 = .ok (.goto 4, 3) := by decide +kernel
theorem dL_law_812 : decode cL_law 812 = .ok (.lconst 0, 1) := by decide +kernel
theorem dL_law_813 : decode cL_law 813 = .ok (.lcmp, 1) := by decide +kernel
theorem dL_law_814 : decode cL_law 814 = .ok (.ifCond .eq 5, 3) := by decide +kernel
theorem dL_law_817 : decode cL_law 817 = .ok (.iconst 0, 1) := by decide +kernel
theorem dL_law_818 : decode cL_law 818 = .ok (.ireturn, 1) := by decide +kernel
theorem dL_law_819 : decode cL_law 819 = .ok (.goto 732, 3) := by decide +kernel
theorem dL_law_822 : decode cL_law 822 = .ok (.aload_n 1, 1) := by decide +kernel
theorem dL_law_823 : decode cL_law 823 = .ok (.aload_n 0, 1) := by decide +kernel
theorem dL_law_824 : decode cL_law 824 = .ok (.iload 4, 2) := by decide +kernel
theorem dL_law_826 : decode cL_law 826 = .ok (.iconst 1, 1) := by decide +kernel
theorem dL_law_827 : decode cL_law 827 = .ok (.iadd, 1) := by decide +kernel
theorem dL_law_828 : decode cL_law 828 = .ok (.iaload, 1) := by decide +kernel
theorem dL_law_829 : decode cL_law 829 = .ok (.aload_n 0, 1) := by decide +kernel
theorem dL_law_830 : decode cL_law 830 = .ok (.iload 4, 2) := by decide +kernel
theorem dL_law_832 : decode cL_law 832 = .ok (.iconst 2, 1) := by decide +kernel
theorem dL_law_833 : decode cL_law 833 = .ok (.iadd, 1) := by decide +kernel
theorem dL_law_834 : decode cL_law 834 = .ok (.iaload, 1) := by decide +kernel
theorem dL_law_835 : decode cL_law 835 = .ok (.aload_n 0, 1) := by decide +kernel
theorem dL_law_836 : decode cL_law 836 = .ok (.iload 4, 2) := by decide +kernel
theorem dL_law_838 : decode cL_law 838 = .ok (.iconst 3, 1) := by decide +kernel
theorem dL_law_839 : decode cL_law 839 = .ok (.iadd, 1) := by decide +kernel
theorem dL_law_840 : decode cL_law 840 = .ok (.iaload, 1) := by decide +kernel
theorem dL_law_841 : decode cL_law 841 = .ok (.aload_n 3, 1) := by decide +kernel
theorem dL_law_842 : decode cL_law 842 = .ok (.invokestatic 126, 3) := by decide +kernel
theorem dL_law_845 : decode cL_law 845 = .ok (.istore 5, 2) := by decide +kernel
theorem dL_law_847 : decode cL_law 847 = .ok (.aload_n 2, 1) := by decide +kernel
theorem dL_law_848 : decode cL_law 848 = .ok (.aload_n 0, 1) := by decide +kernel
theorem dL_law_849 : decode cL_law 849 = .ok (.iload 4, 2) := by decide +kernel
theorem dL_law_851 : decode cL_law 851 = .ok (.iconst 1, 1) := by decide +kernel
theorem dL_law_852 : decode cL_law 852 = .ok (.iadd, 1) := by decide +kernel
theorem dL_law_853 : decode cL_law 853 = .ok (.iaload, 1) := by decide +kernel
theorem dL_law_854 : decode cL_law 854 = .ok (.aload_n 0, 1) := by decide +kernel
theorem dL_law_855 : decode cL_law 855 = .ok (.iload 4, 2) := by decide +kernel
theorem dL_law_857 : decode cL_law 857 = .ok (.iconst 2, 1) := by decide +kernel
theorem dL_law_858 : decode cL_law 858 = .ok (.iadd, 1) := by decide +kernel
theorem dL_law_859 : decode cL_law 859 = .ok (.iaload, 1) := by decide +kernel
theorem dL_law_860 : decode cL_law 860 = .ok (.aload_n 0, 1) := by decide +kernel
theorem dL_law_861 : decode cL_law 861 = .ok (.iload 4, 2) := by decide +kernel
theorem dL_law_863 : decode cL_law 863 = .ok (.iconst 3, 1) := by decide +kernel
theorem dL_law_864 : decode cL_law 864 = .ok (.iadd, 1) := by decide +kernel
theorem dL_law_865 : decode cL_law 865 = .ok (.iaload, 1) := by decide +kernel
theorem dL_law_866 : decode cL_law 866 = .ok (.invokevirtual 129, 3) := by decide +kernel
theorem dL_law_869 : decode cL_law 869 = .ok (.istore 6, 2) := by decide +kernel
theorem dL_law_871 : decode cL_law 871 = .ok (.aload_n 2, 1) := by decide +kernel
theorem dL_law_872 : decode cL_law 872 = .ok (.invokevirtual 89, 3) := by decide +kernel
theorem dL_law_875 : decode cL_law 875 = .ok (.iload 5, 2) := by decide +kernel
theorem dL_law_877 : decode cL_law 877 = .ok (.if_icmp .eq 5, 3) := by decide +kernel
theorem dL_law_880 : decode cL_law 880 = .ok (.iconst 0, 1) := by decide +kernel
theorem dL_law_881 : decode cL_law 881 = .ok (.ireturn, 1) := by decide +kernel
theorem dL_law_882 : decode cL_law 882 = .ok (.iload 5, 2) := by decide +kernel
theorem dL_law_884 : decode cL_law 884 = .ok (.ifCond .ne 22, 3) := by decide +kernel
theorem dL_law_887 : decode cL_law 887 = .ok (.aload_n 3, 1) := by decide +kernel
theorem dL_law_888 : decode cL_law 888 = .ok (.iconst 0, 1) := by decide +kernel
theorem dL_law_889 : decode cL_law 889 = .ok (.laload, 1) := by decide +kernel
theorem dL_law_890 : decode cL_law 890 = .ok (.iload 6, 2) := by decide +kernel
theorem dL_law_892 : decode cL_law 892 = .ok (.ifCond .eq 7, 3) := by decide +kernel
theorem dL_law_895 : decode cL_law 895 = .ok (.lconst 1, 1) := by decide +kernel
theorem dL_law_896 : decode cL_law 896 = .ok (.goto 4, 3) := by decide +kernel
theorem dL_law_899 : decode cL_law 899 = .ok (.lconst 0, 1) := by decide +kernel
theorem dL_law_900 : decode cL_law 900 = .ok (.lcmp, 1) := by decide +kernel
theorem dL_law_901 : decode cL_law 901 = .ok (.ifCond .eq 5, 3) := by decide +kernel
theorem dL_law_904 : decode cL_law 904 = .ok (.iconst 0, 1) := by decide +kernel
theorem dL_law_905 : decode cL_law 905 = .ok (.ireturn, 1) := by decide +kernel
theorem dL_law_906 : decode cL_law 906 = .ok (.goto 645, 3) := by decide +kernel
theorem dL_law_909 : decode cL_law 909 = .ok (.aload_n 1, 1) := by decide +kernel
theorem dL_law_910 : decode cL_law 910 = .ok (.aload_n 0, 1) := by decide +kernel
theorem dL_law_911 : decode cL_law 911 = .ok (.iload 4, 2) := by decide +kernel
theorem dL_law_913 : decode cL_law 913 = .ok (.iconst 1, 1) := by decide +kernel
theorem dL_law_914 : decode cL_law 914 = .ok (.iadd, 1) := by decide +kernel
theorem dL_law_915 : decode cL_law 915 = .ok (.iaload, 1) := by decide +kernel
theorem dL_law_916 : decode cL_law 916 = .ok (.aload_n 0, 1) := by decide +kernel
theorem dL_law_917 : decode cL_law 917 = .ok (.iload 4, 2) := by decide +kernel
theorem dL_law_919 : decode cL_law 919 = .ok (.iconst 2, 1) := by decide +kernel
theorem dL_law_920 : decode cL_law 920 = .ok (.iadd, 1) := by decide +kernel
theorem dL_law_921 : decode cL_law 921 = .ok (.iaload, 1) := by decide +kernel
theorem dL_law_922 : decode cL_law 922 = .ok (.aload_n 3, 1) := by decide +kernel
theorem dL_law_923 : decode cL_law 923 = .ok (.invokestatic 130, 3) := by decide +kernel
theorem dL_law_926 : decode cL_law 926 = .ok (.istore 5, 2) := by decide +kernel
theorem dL_law_928 : decode cL_law 928 = .ok (.aload_n 2, 1) := by decide +kernel
theorem dL_law_929 : decode cL_law 929 = .ok (.aload_n 0, 1) := by decide +kernel
theorem dL_law_930 : decode cL_law 930 = .ok (.iload 4, 2) := by decide +kernel
theorem dL_law_932 : decode cL_law 932 = .ok (.iconst 1, 1) := by decide +kernel
theorem dL_law_933 : decode cL_law 933 = .ok (.iadd, 1) := by decide +kernel
theorem dL_law_934 : decode cL_law 934 = .ok (.iaload, 1) := by decide +kernel
theorem dL_law_935 : decode cL_law 935 = .ok (.aload_n 0, 1) := by decide +kernel
theorem dL_law_936 : decode cL_law 936 = .ok (.iload 4, 2) := by decide +kernel
theorem dL_law_938 : decode cL_law 938 = .ok (.iconst 2, 1) := by decide +kernel
theorem dL_law_939 : decode cL_law 939 = .ok (.iadd, 1) := by decide +kernel
theorem dL_law_940 : decode cL_law 940 = .ok (.iaload, 1) := by decide +kernel
theorem dL_law_941 : decode cL_law 941 = .ok (.invokevirtual 132, 3) := by decide +kernel
theorem dL_law_944 : decode cL_law 944 = .ok (.istore 6, 2) := by decide +kernel
theorem dL_law_946 : decode cL_law 946 = .ok (.aload_n 2, 1) := by decide +kernel
theorem dL_law_947 : decode cL_law 947 = .ok (.invokevirtual 89, 3) := by decide +kernel
theorem dL_law_950 : decode cL_law 950 = .ok (.iload 5, 2) := by decide +kernel
theorem dL_law_952 : decode cL_law 952 = .ok (.if_icmp .eq 5, 3) := by decide +kernel
theorem dL_law_955 : decode cL_law 955 = .ok (.iconst 0, 1) := by decide +kernel
theorem dL_law_956 : decode cL_law 956 = .ok (.ireturn, 1) := by decide +kernel
theorem dL_law_957 : decode cL_law 957 = .ok (.iload 5, 2) := by decide +kernel
theorem dL_law_959 : decode cL_law 959 = .ok (.ifCond .ne 15, 3) := by decide +kernel
theorem dL_law_962 : decode cL_law 962 = .ok (.aload_n 3, 1) := by decide +kernel
theorem dL_law_963 : decode cL_law 963 = .ok (.iconst 0, 1) := by decide +kernel
theorem dL_law_964 : decode cL_law 964 = .ok (.laload, 1) := by decide +kernel
theorem dL_law_965 : decode cL_law 965 = .ok (.iload 6, 2) := by decide +kernel
theorem dL_law_967 : decode cL_law 967 = .ok (.i2l, 1) := by decide +kernel
theorem dL_law_968 : decode cL_law 968 = .ok (.lcmp, 1) := by decide +kernel
theorem dL_law_969 : decode cL_law 969 = .ok (.ifCond .eq 5, 3) := by decide +kernel
theorem dL_law_972 : decode cL_law 972 = .ok (.iconst 0, 1) := by decide +kernel
theorem dL_law_973 : decode cL_law 973 = .ok (.ireturn, 1) := by decide +kernel
theorem dL_law_974 : decode cL_law 974 = .ok (.goto 577, 3) := by decide +kernel
theorem dL_law_977 : decode cL_law 977 = .ok (.aload_n 1, 1) := by decide +kernel
theorem dL_law_978 : decode cL_law 978 = .ok (.aload_n 0, 1) := by decide +kernel
theorem dL_law_979 : decode cL_law 979 = .ok (.iload 4, 2) := by decide +kernel
theorem dL_law_981 : decode cL_law 981 = .ok (.iconst 1, 1) := by decide +kernel
theorem dL_law_982 : decode cL_law 982 = .ok (.iadd, 1) := by decide +kernel
theorem dL_law_983 : decode cL_law 983 = .ok (.iaload, 1) := by decide +kernel
theorem dL_law_984 : decode cL_law 984 = .ok (.aload_n 0, 1) := by decide +kernel
theorem dL_law_985 : decode cL_law 985 = .ok (.iload 4, 2) := by decide +kernel
theorem dL_law_987 : decode cL_law 987 = .ok (.iconst 2, 1) := by decide +kernel
theorem dL_law_988 : decode cL_law 988 = .ok (.iadd, 1) := by decide +kernel
theorem dL_law_989 : decode cL_law 989 = .ok (.iaload, 1) := by decide +kernel
theorem dL_law_990 : decode cL_law 990 = .ok (.aload_n 3, 1) := by decide +kernel
theorem dL_law_991 : decode cL_law 991 = .ok (.invokestatic 133, 3) := by decide +kernel
theorem dL_law_994 : decode cL_law 994 = .ok (.istore 5, 2) := by decide +kernel
theorem dL_law_996 : decode cL_law 996 = .ok (.aload_n 2, 1) := by decide +kernel
theorem dL_law_997 : decode cL_law 997 = .ok (.aload_n 0, 1) := by decide +kernel
theorem dL_law_998 : decode cL_law 998 = .ok (.iload 4, 2) := by decide +kernel
theorem dL_law_1000 : decode cL_law 1000 = .ok (.iconst 1, 1) := by decide +kernel
theorem dL_law_1001 : decode cL_law 1001 = .ok (.iadd, 1) := by decide +kernel
theorem dL_law_1002 : decode cL_law 1002 = .ok (.iaload, 1) := by decide +kernel
theorem dL_law_1003 : decode cL_law 1003 = .ok (.aload_n 0, 1) := by decide +kernel
theorem dL_law_1004 : decode cL_law 1004 = .ok (.iload 4, 2) := by decide +kernel
theorem dL_law_1006 : decode cL_law 1006 = .ok (.iconst 2, 1) := by decide +kernel
theorem dL_law_1007 : decode cL_law 1007 = .ok (.iadd, 1) := by decide +kernel
theorem dL_law_1008 : decode cL_law 1008 = .ok (.iaload, 1) := by decide +kernel
theorem dL_law_1009 : decode cL_law 1009 = .ok (.invokevirtual 135, 3) := by decide +kernel
theorem dL_law_1012 : decode cL_law 1012 = .ok (.istore 6, 2) := by decide +kernel
theorem dL_law_1014 : decode cL_law 1014 = .ok (.aload_n 2, 1) := by decide +kernel
theorem dL_law_1015 : decode cL_law 1015 = .ok (.invokevirtual 89, 3) := by decide +kernel
theorem dL_law_1018 : decode cL_law 1018 = .ok (.iload 5, 2) := by decide +kernel
theorem dL_law_1020 : decode cL_law 1020 = .ok (.if_icmp .eq 5, 3) := by decide +kernel
theorem dL_law_1023 : decode cL_law 1023 = .ok (.iconst 0, 1) := by decide +kernel
theorem dL_law_1024 : decode cL_law 1024 = .ok (.ireturn, 1) := by decide +kernel
theorem dL_law_1025 : decode cL_law 1025 = .ok (.iload 5, 2) := by decide +kernel
theorem dL_law_1027 : decode cL_law 1027 = .ok (.ifCond .ne 15, 3) := by decide +kernel
theorem dL_law_1030 : decode cL_law 1030 = .ok (.aload_n 3, 1) := by decide +kernel
theorem dL_law_1031 : decode cL_law 1031 = .ok (.iconst 0, 1) := by decide +kernel
theorem dL_law_1032 : decode cL_law 1032 = .ok (.laload, 1) := by decide +kernel
theorem dL_law_1033 : decode cL_law 1033 = .ok (.iload 6, 2) := by decide +kernel
theorem dL_law_1035 : decode cL_law 1035 = .ok (.i2l, 1) := by decide +kernel
theorem dL_law_1036 : decode cL_law 1036 = .ok (.lcmp, 1) := by decide +kernel
theorem dL_law_1037 : decode cL_law 1037 = .ok (.ifCond .eq 5, 3) := by decide +kernel
theorem dL_law_1040 : decode cL_law 1040 = .ok (.iconst 0, 1) := by decide +kernel
theorem dL_law_1041 : decode cL_law 1041 = .ok (.ireturn, 1) := by decide +kernel
theorem dL_law_1042 : decode cL_law 1042 = .ok (.goto 509, 3) := by decide +kernel
theorem dL_law_1045 : decode cL_law 1045 = .ok (.aload_n 1, 1) := by decide +kernel
theorem dL_law_1046 : decode cL_law 1046 = .ok (.aload_n 0, 1) := by decide +kernel
theorem dL_law_1047 : decode cL_law 1047 = .ok (.iload 4, 2) := by decide +kernel
theorem dL_law_1049 : decode cL_law 1049 = .ok (.iconst 1, 1) := by decide +kernel
theorem dL_law_1050 : decode cL_law 1050 = .ok (.iadd, 1) := by decide +kernel
theorem dL_law_1051 : decode cL_law 1051 = .ok (.iaload, 1) := by decide +kernel
theorem dL_law_1052 : decode cL_law 1052 = .ok (.aload_n 0, 1) := by decide +kernel
theorem dL_law_1053 : decode cL_law 1053 = .ok (.iload 4, 2) := by decide +kernel
theorem dL_law_1055 : decode cL_law 1055 = .ok (.iconst 2, 1) := by decide +kernel
theorem dL_law_1056 : decode cL_law 1056 = .ok (.iadd, 1) := by decide +kernel
theorem dL_law_1057 : decode cL_law 1057 = .ok (.iaload, 1) := by decide +kernel
theorem dL_law_1058 : decode cL_law 1058 = .ok (.aload_n 0, 1) := by decide +kernel
theorem dL_law_1059 : decode cL_law 1059 = .ok (.iload 4, 2) := by decide +kernel
theorem dL_law_1061 : decode cL_law 1061 = .ok (.iconst 3, 1) := by decide +kernel
theorem dL_law_1062 : decode cL_law 1062 = .ok (.iadd, 1) := by decide +kernel
theorem dL_law_1063 : decode cL_law 1063 = .ok (.iaload, 1) := by decide +kernel
theorem dL_law_1064 : decode cL_law 1064 = .ok (.aload_n 0, 1) := by decide +kernel
theorem dL_law_1065 : decode cL_law 1065 = .ok (.iload 4, 2) := by decide +kernel
theorem dL_law_1067 : decode cL_law 1067 = .ok (.iconst 4, 1) := by decide +kernel
theorem dL_law_1068 : decode cL_law 1068 = .ok (.iadd, 1) := by decide +kernel
theorem dL_law_1069 : decode cL_law 1069 = .ok (.iaload, 1) := by decide +kernel
theorem dL_law_1070 : decode cL_law 1070 = .ok (.aload_n 0, 1) := by decide +kernel
theorem dL_law_1071 : decode cL_law 1071 = .ok (.iload 4, 2) := by decide +kernel
theorem dL_law_1073 : decode cL_law 1073 = .ok (.iconst 5, 1) := by decide +kernel
theorem dL_law_1074 : decode cL_law 1074 = .ok (.iadd, 1) := by decide +kernel
theorem dL_law_1075 : decode cL_law 1075 = .ok (.iaload, 1) := by decide +kernel
theorem dL_law_1076 : decode cL_law 1076 = .ok (.aload_n 3, 1) := by decide +kernel
theorem dL_law_1077 : decode cL_law 1077 = .ok (.invokestatic 136, 3) := by decide +kernel
theorem dL_law_1080 : decode cL_law 1080 = .ok (.istore 5, 2) := by decide +kernel
theorem dL_law_1082 : decode cL_law 1082 = .ok (.aload_n 2, 1) := by decide +kernel
theorem dL_law_1083 : decode cL_law 1083 = .ok (.aload_n 0, 1) := by decide +kernel
theorem dL_law_1084 : decode cL_law 1084 = .ok (.iload 4, 2) := by decide +kernel
theorem dL_law_1086 : decode cL_law 1086 = .ok (.iconst 1, 1) := by decide +kernel
theorem dL_law_1087 : decode cL_law 1087 = .ok (.iadd, 1) := by decide +kernel
theorem dL_law_1088 : decode cL_law 1088 = .ok (.iaload, 1) := by decide +kernel
theorem dL_law_1089 : decode cL_law 1089 = .ok (.aload_n 0, 1) := by decide +kernel
theorem dL_law_1090 : decode cL_law 1090 = .ok (.iload 4, 2) := by decide +kernel
theorem dL_law_1092 : decode cL_law 1092 = .ok (.iconst 2, 1) := by decide +kernel
theorem dL_law_1093 : decode cL_law 1093 = .ok (.iadd, 1) := by decide +kernel
theorem dL_law_1094 : decode cL_law 1094 = .ok (.iaload, 1) := by decide +kernel
theorem dL_law_1095 : decode cL_law 1095 = .ok (.aload_n 0, 1) := by decide +kernel
theorem dL_law_1096 : decode cL_law 1096 = .ok (.iload 4, 2) := by decide +kernel
theorem dL_law_1098 : decode cL_law 1098 = .ok (.iconst 3, 1) := by decide +kernel
theorem dL_law_1099 : decode cL_law 1099 = .ok (.iadd, 1) := by decide +kernel
theorem dL_law_1100 : decode cL_law 1100 = .ok (.iaload, 1) := by decide +kernel
theorem dL_law_1101 : decode cL_law 1101 = .ok (.aload_n 0, 1) := by decide +kernel
theorem dL_law_1102 : decode cL_law 1102 = .ok (.iload 4, 2) := by decide +kernel
theorem dL_law_1104 : decode cL_law 1104 = .ok (.iconst 4, 1) := by decide +kernel
theorem dL_law_1105 : decode cL_law 1105 = .ok (.iadd, 1) := by decide +kernel
theorem dL_law_1106 : decode cL_law 1106 = .ok (.iaload, 1) := by decide +kernel
theorem dL_law_1107 : decode cL_law 1107 = .ok (.aload_n 0, 1) := by decide +kernel
theorem dL_law_1108 : decode cL_law 1108 = .ok (.iload 4, 2) := by decide +kernel
theorem dL_law_1110 : decode cL_law 1110 = .ok (.iconst 5, 1) := by decide +kernel
theorem dL_law_1111 : decode cL_law 1111 = .ok (.iadd, 1) := by decide +kernel
theorem dL_law_1112 : decode cL_law 1112 = .ok (.iaload, 1) := by decide +kernel
theorem dL_law_1113 : decode cL_law 1113 = .ok (.invokevirtual 138, 3) := by decide +kernel
theorem dL_law_1116 : decode cL_law 1116 = .ok (.istore 6, 2) := by decide +kernel
theorem dL_law_1118 : decode cL_law 1118 = .ok (.aload_n 2, 1) := by decide +kernel
theorem dL_law_1119 : decode cL_law 1119 = .ok (.invokevirtual 89, 3) := by decide +kernel
theorem dL_law_1122 : decode cL_law 1122 = .ok (.iload 5, 2) := by decide +kernel
theorem dL_law_1124 : decode cL_law 1124 = .ok (.if_icmp .eq 5, 3) := by decide +kernel
theorem dL_law_1127 : decode cL_law 1127 = .ok (.iconst 0, 1) := by decide +kernel
theorem dL_law_1128 : decode cL_law 1128 = .ok (.ireturn, 1) := by decide +kernel
theorem dL_law_1129 : decode cL_law 1129 = .ok (.iload 5, 2) := by decide +kernel
theorem dL_law_1131 : decode cL_law 1131 = .ok (.ifCond .ne 22, 3) := by decide +kernel
theorem dL_law_1134 : decode cL_law 1134 = .ok (.aload_n 3, 1) := by decide +kernel
theorem dL_law_1135 : decode cL_law 1135 = .ok (.iconst 0, 1) := by decide +kernel
theorem dL_law_1136 : decode cL_law 1136 = .ok (.laload, 1) := by decide +kernel
theorem dL_law_1137 : decode cL_law 1137 = .ok (.iload 6, 2) := by decide +kernel
theorem dL_law_1139 : decode cL_law 1139 = .ok (.ifCond .eq 7, 3) := by decide +kernel
theorem dL_law_1142 : decode cL_law 1142 = .ok (.lconst 1, 1) := by decide +kernel
theorem dL_law_1143 : decode cL_law 1143 = .ok (.goto 4, 3) := by decide +kernel
theorem dL_law_1146 : decode cL_law 1146 = .ok (.lconst 0, 1) := by decide +kernel
theorem dL_law_1147 : decode cL_law 1147 = .ok (.lcmp, 1) := by decide +kernel
theorem dL_law_1148 : decode cL_law 1148 = .ok (.ifCond .eq 5, 3) := by decide +kernel
theorem dL_law_1151 : decode cL_law 1151 = .ok (.iconst 0, 1) := by decide +kernel
theorem dL_law_1152 : decode cL_law 1152 = .ok (.ireturn, 1) := by decide +kernel
theorem dL_law_1153 : decode cL_law 1153 = .ok (.goto 398, 3) := by decide +kernel
theorem dL_law_1156 : decode cL_law 1156 = .ok (.aload_n 1, 1) := by decide +kernel
theorem dL_law_1157 : decode cL_law 1157 = .ok (.aload_n 0, 1) := by decide +kernel
theorem dL_law_1158 : decode cL_law 1158 = .ok (.iload 4, 2) := by decide +kernel
theorem dL_law_1160 : decode cL_law 1160 = .ok (.iconst 1, 1) := by decide +kernel
theorem dL_law_1161 : decode cL_law 1161 = .ok (.iadd, 1) := by decide +kernel
theorem dL_law_1162 : decode cL_law 1162 = .ok (.iaload, 1) := by decide +kernel
theorem dL_law_1163 : decode cL_law 1163 = .ok (.aload_n 0, 1) := by decide +kernel
theorem dL_law_1164 : decode cL_law 1164 = .ok (.iload 4, 2) := by decide +kernel
theorem dL_law_1166 : decode cL_law 1166 = .ok (.iconst 2, 1) := by decide +kernel
theorem dL_law_1167 : decode cL_law 1167 = .ok (.iadd, 1) := by decide +kernel
theorem dL_law_1168 : decode cL_law 1168 = .ok (.iaload, 1) := by decide +kernel
theorem dL_law_1169 : decode cL_law 1169 = .ok (.aload_n 0, 1) := by decide +kernel
theorem dL_law_1170 : decode cL_law 1170 = .ok (.iload 4, 2) := by decide +kernel
theorem dL_law_1172 : decode cL_law 1172 = .ok (.iconst 3, 1) := by decide +kernel
theorem dL_law_1173 : decode cL_law 1173 = .ok (.iadd, 1) := by decide +kernel
theorem dL_law_1174 : decode cL_law 1174 = .ok (.iaload, 1) := by decide +kernel
theorem dL_law_1175 : decode cL_law 1175 = .ok (.aload_n 0, 1) := by decide +kernel
theorem dL_law_1176 : decode cL_law 1176 = .ok (.iload 4, 2) := by decide +kernel
theorem dL_law_1178 : decode cL_law 1178 = .ok (.iconst 4, 1) := by decide +kernel
theorem dL_law_1179 : decode cL_law 1179 = .ok (.iadd, 1) := by decide +kernel
theorem dL_law_1180 : decode cL_law 1180 = .ok (.iaload, 1) := by decide +kernel
theorem dL_law_1181 : decode cL_law 1181 = .ok (.aload_n 3, 1) := by decide +kernel
theorem dL_law_1182 : decode cL_law 1182 = .ok (.invokestatic 139, 3) := by decide +kernel
theorem dL_law_1185 : decode cL_law 1185 = .ok (.istore 5, 2) := by decide +kernel
theorem dL_law_1187 : decode cL_law 1187 = .ok (.aload_n 2, 1) := by decide +kernel
theorem dL_law_1188 : decode cL_law 1188 = .ok (.aload_n 0, 1) := by decide +kernel
theorem dL_law_1189 : decode cL_law 1189 = .ok (.iload 4, 2) := by decide +kernel
theorem dL_law_1191 : decode cL_law 1191 = .ok (.iconst 1, 1) := by decide +kernel
theorem dL_law_1192 : decode cL_law 1192 = .ok (.iadd, 1) := by decide +kernel
theorem dL_law_1193 : decode cL_law 1193 = .ok (.iaload, 1) := by decide +kernel
theorem dL_law_1194 : decode cL_law 1194 = .ok (.aload_n 0, 1) := by decide +kernel
theorem dL_law_1195 : decode cL_law 1195 = .ok (.iload 4, 2) := by decide +kernel
theorem dL_law_1197 : decode cL_law 1197 = .ok (.iconst 2, 1) := by decide +kernel
theorem dL_law_1198 : decode cL_law 1198 = .ok (.iadd, 1) := by decide +kernel
theorem dL_law_1199 : decode cL_law 1199 = .ok (.iaload, 1) := by decide +kernel
theorem dL_law_1200 : decode cL_law 1200 = .ok (.aload_n 0, 1) := by decide +kernel
theorem dL_law_1201 : decode cL_law 1201 = .ok (.iload 4, 2) := by decide +kernel
theorem dL_law_1203 : decode cL_law 1203 = .ok (.iconst 3, 1) := by decide +kernel
theorem dL_law_1204 : decode cL_law 1204 = .ok (.iadd, 1) := by decide +kernel
theorem dL_law_1205 : decode cL_law 1205 = .ok (.iaload, 1) := by decide +kernel
theorem dL_law_1206 : decode cL_law 1206 = .ok (.aload_n 0, 1) := by decide +kernel
theorem dL_law_1207 : decode cL_law 1207 = .ok (.iload 4, 2) := by decide +kernel
theorem dL_law_1209 : decode cL_law 1209 = .ok (.iconst 4, 1) := by decide +kernel
theorem dL_law_1210 : decode cL_law 1210 = .ok (.iadd, 1) := by decide +kernel
theorem dL_law_1211 : decode cL_law 1211 = .ok (.iaload, 1) := by decide +kernel
theorem dL_law_1212 : decode cL_law 1212 = .ok (.invokevirtual 141, 3) := by decide +kernel
theorem dL_law_1215 : decode cL_law 1215 = .ok (.istore 6, 2) := by decide +kernel
theorem dL_law_1217 : decode cL_law 1217 = .ok (.aload_n 2, 1) := by decide +kernel
theorem dL_law_1218 : decode cL_law 1218 = .ok (.invokevirtual 89, 3) := by decide +kernel
theorem dL_law_1221 : decode cL_law 1221 = .ok (.iload 5, 2) := by decide +kernel
theorem dL_law_1223 : decode cL_law 1223 = .ok (.if_icmp .eq 5, 3) := by decide +kernel
theorem dL_law_1226 : decode cL_law 1226 = .ok (.iconst 0, 1) := by decide +kernel
theorem dL_law_1227 : decode cL_law 1227 = .ok (.ireturn, 1) := by decide +kernel
theorem dL_law_1228 : decode cL_law 1228 = .ok (.iload 5, 2) := by decide +kernel
theorem dL_law_1230 : decode cL_law 1230 = .ok (.ifCond .ne 15, 3) := by decide +kernel
theorem dL_law_1233 : decode cL_law 1233 = .ok (.aload_n 3, 1) := by decide +kernel
theorem dL_law_1234 : decode cL_law 1234 = .ok (.iconst 0, 1) := by decide +kernel
theorem dL_law_1235 : decode cL_law 1235 = .ok (.laload, 1) := by decide +kernel
theorem dL_law_1236 : decode cL_law 1236 = .ok (.iload 6, 2) := by decide +kernel
theorem dL_law_1238 : decode cL_law 1238 = .ok (.i2l, 1) := by decide +kernel
theorem dL_law_1239 : decode cL_law 1239 = .ok (.lcmp, 1) := by decide +kernel
theorem dL_law_1240 : decode cL_law 1240 = .ok (.ifCond .eq 5, 3) := by decide +kernel
theorem dL_law_1243 : decode cL_law 1243 = .ok (.iconst 0, 1) := by decide +kernel
theorem dL_law_1244 : decode cL_law 1244 = .ok (.ireturn, 1) := by decide +kernel
theorem dL_law_1245 : decode cL_law 1245 = .ok (.goto 306, 3) := by decide +kernel
theorem dL_law_1248 : decode cL_law 1248 = .ok (.aload_n 1, 1) := by decide +kernel
theorem dL_law_1249 : decode cL_law 1249 = .ok (.aload_n 0, 1) := by decide +kernel
theorem dL_law_1250 : decode cL_law 1250 = .ok (.iload 4, 2) := by decide +kernel
theorem dL_law_1252 : decode cL_law 1252 = .ok (.iconst 1, 1) := by decide +kernel
theorem dL_law_1253 : decode cL_law 1253 = .ok (.iadd, 1) := by decide +kernel
theorem dL_law_1254 : decode cL_law 1254 = .ok (.iaload, 1) := by decide +kernel
theorem dL_law_1255 : decode cL_law 1255 = .ok (.aload_n 0, 1) := by decide +kernel
theorem dL_law_1256 : decode cL_law 1256 = .ok (.iload 4, 2) := by decide +kernel
theorem dL_law_1258 : decode cL_law 1258 = .ok (.iconst 2, 1) := by decide +kernel
theorem dL_law_1259 : decode cL_law 1259 = .ok (.iadd, 1) := by decide +kernel
theorem dL_law_1260 : decode cL_law 1260 = .ok (.iaload, 1) := by decide +kernel
theorem dL_law_1261 : decode cL_law 1261 = .ok (.aload_n 0, 1) := by decide +kernel
theorem dL_law_1262 : decode cL_law 1262 = .ok (.iload 4, 2) := by decide +kernel
theorem dL_law_1264 : decode cL_law 1264 = .ok (.iconst 3, 1) := by decide +kernel
theorem dL_law_1265 : decode cL_law 1265 = .ok (.iadd, 1) := by decide +kernel
theorem dL_law_1266 : decode cL_law 1266 = .ok (.iaload, 1) := by decide +kernel
theorem dL_law_1267 : decode cL_law 1267 = .ok (.aload_n 0, 1) := by decide +kernel
theorem dL_law_1268 : decode cL_law 1268 = .ok (.iload 4, 2) := by decide +kernel
theorem dL_law_1270 : decode cL_law 1270 = .ok (.iconst 4, 1) := by decide +kernel
theorem dL_law_1271 : decode cL_law 1271 = .ok (.iadd, 1) := by decide +kernel
theorem dL_law_1272 : decode cL_law 1272 = .ok (.iaload, 1) := by decide +kernel
theorem dL_law_1273 : decode cL_law 1273 = .ok (.aload_n 0, 1) := by decide +kernel
theorem dL_law_1274 : decode cL_law 1274 = .ok (.iload 4, 2) := by decide +kernel
theorem dL_law_1276 : decode cL_law 1276 = .ok (.iconst 5, 1) := by decide +kernel
theorem dL_law_1277 : decode cL_law 1277 = .ok (.iadd, 1) := by decide +kernel
theorem dL_law_1278 : decode cL_law 1278 = .ok (.iaload, 1) := by decide +kernel
theorem dL_law_1279 : decode cL_law 1279 = .ok (.aload_n 3, 1) := by decide +kernel
theorem dL_law_1280 : decode cL_law 1280 = .ok (.invokestatic 142, 3) := by decide +kernel
theorem dL_law_1283 : decode cL_law 1283 = .ok (.istore 5, 2) := by decide +kernel
theorem dL_law_1285 : decode cL_law 1285 = .ok (.aload_n 2, 1) := by decide +kernel
theorem dL_law_1286 : decode cL_law 1286 = .ok (.aload_n 0, 1) := by decide +kernel
theorem dL_law_1287 : decode cL_law 1287 = .ok (.iload 4, 2) := by decide +kernel
theorem dL_law_1289 : decode cL_law 1289 = .ok (.iconst 1, 1) := by decide +kernel
theorem dL_law_1290 : decode cL_law 1290 = .ok (.iadd, 1) := by decide +kernel
theorem dL_law_1291 : decode cL_law 1291 = .ok (.iaload, 1) := by decide +kernel
theorem dL_law_1292 : decode cL_law 1292 = .ok (.aload_n 0, 1) := by decide +kernel
theorem dL_law_1293 : decode cL_law 1293 = .ok (.iload 4, 2) := by decide +kernel
theorem dL_law_1295 : decode cL_law 1295 = .ok (.iconst 2, 1) := by decide +kernel
theorem dL_law_1296 : decode cL_law 1296 = .ok (.iadd, 1) := by decide +kernel
theorem dL_law_1297 : decode cL_law 1297 = .ok (.iaload, 1) := by decide +kernel
theorem dL_law_1298 : decode cL_law 1298 = .ok (.aload_n 0, 1) := by decide +kernel
theorem dL_law_1299 : decode cL_law 1299 = .ok (.iload 4, 2) := by decide +kernel
theorem dL_law_1301 : decode cL_law 1301 = .ok (.iconst 3, 1) := by decide +kernel
theorem dL_law_1302 : decode cL_law 1302 = .ok (.iadd, 1) := by decide +kernel
theorem dL_law_1303 : decode cL_law 1303 = .ok (.iaload, 1) := by decide +kernel
theorem dL_law_1304 : decode cL_law 1304 = .ok (.aload_n 0, 1) := by decide +kernel
theorem dL_law_1305 : decode cL_law 1305 = .ok (.iload 4, 2) := by decide +kernel
theorem dL_law_1307 : decode cL_law 1307 = .ok (.iconst 4, 1) := by decide +kernel
theorem dL_law_1308 : decode cL_law 1308 = .ok (.iadd, 1) := by decide +kernel
theorem dL_law_1309 : decode cL_law 1309 = .ok (.iaload, 1) := by decide +kernel
theorem dL_law_1310 : decode cL_law 1310 = .ok (.aload_n 0, 1) := by decide +kernel
theorem dL_law_1311 : decode cL_law 1311 = .ok (.iload 4, 2) := by decide +kernel
theorem dL_law_1313 : decode cL_law 1313 = .ok (.iconst 5, 1) := by decide +kernel
theorem dL_law_1314 : decode cL_law 1314 = .ok (.iadd, 1) := by decide +kernel
theorem dL_law_1315 : decode cL_law 1315 = .ok (.iaload, 1) := by decide +kernel
theorem dL_law_1316 : decode cL_law 1316 = .ok (.invokevirtual 144, 3) := by decide +kernel
theorem dL_law_1319 : decode cL_law 1319 = .ok (.istore 6, 2) := by decide +kernel
theorem dL_law_1321 : decode cL_law 1321 = .ok (.aload_n 2, 1) := by decide +kernel
theorem dL_law_1322 : decode cL_law 1322 = .ok (.invokevirtual 89, 3) := by decide +kernel
theorem dL_law_1325 : decode cL_law 1325 = .ok (.iload 5, 2) := by decide +kernel
theorem dL_law_1327 : decode cL_law 1327 = .ok (.if_icmp .eq 5, 3) := by decide +kernel
theorem dL_law_1330 : decode cL_law 1330 = .ok (.iconst 0, 1) := by decide +kernel
theorem dL_law_1331 : decode cL_law 1331 = .ok (.ireturn, 1) := by decide +kernel
theorem dL_law_1332 : decode cL_law 1332 = .ok (.iload 5, 2) := by decide +kernel
theorem dL_law_1334 : decode cL_law 1334 = .ok (.ifCond .ne 15, 3) := by decide +kernel
theorem dL_law_1337 : decode cL_law 1337 = .ok (.aload_n 3, 1) := by decide +kernel
theorem dL_law_1338 : decode cL_law 1338 = .ok (.iconst 0, 1) := by decide +kernel
theorem dL_law_1339 : decode cL_law 1339 = .ok (.laload, 1) := by decide +kernel
theorem dL_law_1340 : decode cL_law 1340 = .ok (.iload 6, 2) := by decide +kernel
theorem dL_law_1342 : decode cL_law 1342 = .ok (.i2l, 1) := by decide +kernel
theorem dL_law_1343 : decode cL_law 1343 = .ok (.lcmp, 1) := by decide +kernel
theorem dL_law_1344 : decode cL_law 1344 = .ok (.ifCond .eq 5, 3) := by decide +kernel
theorem dL_law_1347 : decode cL_law 1347 = .ok (.iconst 0, 1) := by decide +kernel
theorem dL_law_1348 : decode cL_law 1348 = .ok (.ireturn, 1) := by decide +kernel
theorem dL_law_1349 : decode cL_law 1349 = .ok (.goto 202, 3) := by decide +kernel
theorem dL_law_1352 : decode cL_law 1352 = .ok (.aload_n 1, 1) := by decide +kernel
theorem dL_law_1353 : decode cL_law 1353 = .ok (.aload_n 0, 1) := by decide +kernel
theorem dL_law_1354 : decode cL_law 1354 = .ok (.iload 4, 2) := by decide +kernel
theorem dL_law_1356 : decode cL_law 1356 = .ok (.iconst 1, 1) := by decide +kernel
theorem dL_law_1357 : decode cL_law 1357 = .ok (.iadd, 1) := by decide +kernel
theorem dL_law_1358 : decode cL_law 1358 = .ok (.iaload, 1) := by decide +kernel
theorem dL_law_1359 : decode cL_law 1359 = .ok (.aload_n 0, 1) := by decide +kernel
theorem dL_law_1360 : decode cL_law 1360 = .ok (.iload 4, 2) := by decide +kernel
theorem dL_law_1362 : decode cL_law 1362 = .ok (.iconst 2, 1) := by decide +kernel
theorem dL_law_1363 : decode cL_law 1363 = .ok (.iadd, 1) := by decide +kernel
theorem dL_law_1364 : decode cL_law 1364 = .ok (.iaload, 1) := by decide +kernel
theorem dL_law_1365 : decode cL_law 1365 = .ok (.aload_n 3, 1) := by decide +kernel
theorem dL_law_1366 : decode cL_law 1366 = .ok (.invokestatic 145, 3) := by decide +kernel
theorem dL_law_1369 : decode cL_law 1369 = .ok (.istore 5, 2) := by decide +kernel
theorem dL_law_1371 : decode cL_law 1371 = .ok (.aload_n 2, 1) := by decide +kernel
theorem dL_law_1372 : decode cL_law 1372 = .ok (.aload_n 0, 1) := by decide +kernel
theorem dL_law_1373 : decode cL_law 1373 = .ok (.iload 4, 2) := by decide +kernel
theorem dL_law_1375 : decode cL_law 1375 = .ok (.iconst 1, 1) := by decide +kernel
theorem dL_law_1376 : decode cL_law 1376 = .ok (.iadd, 1) := by decide +kernel
theorem dL_law_1377 : decode cL_law 1377 = .ok (.iaload, 1) := by decide +kernel
theorem dL_law_1378 : decode cL_law 1378 = .ok (.aload_n 0, 1) := by decide +kernel
theorem dL_law_1379 : decode cL_law 1379 = .ok (.iload 4, 2) := by decide +kernel
theorem dL_law_1381 : decode cL_law 1381 = .ok (.iconst 2, 1) := by decide +kernel
theorem dL_law_1382 : decode cL_law 1382 = .ok (.iadd, 1) := by decide +kernel
theorem dL_law_1383 : decode cL_law 1383 = .ok (.iaload, 1) := by decide +kernel
theorem dL_law_1384 : decode cL_law 1384 = .ok (.invokevirtual 147, 3) := by decide +kernel
theorem dL_law_1387 : decode cL_law 1387 = .ok (.istore 6, 2) := by decide +kernel
theorem dL_law_1389 : decode cL_law 1389 = .ok (.aload_n 2, 1) := by decide +kernel
theorem dL_law_1390 : decode cL_law 1390 = .ok (.invokevirtual 89, 3) := by decide +kernel
theorem dL_law_1393 : decode cL_law 1393 = .ok (.iload 5, 2) := by decide +kernel
theorem dL_law_1395 : decode cL_law 1395 = .ok (.if_icmp .eq 5, 3) := by decide +kernel
theorem dL_law_1398 : decode cL_law 1398 = .ok (.iconst 0, 1) := by decide +kernel
theorem dL_law_1399 : decode cL_law 1399 = .ok (.ireturn, 1) := by decide +kernel
theorem dL_law_1400 : decode cL_law 1400 = .ok (.iload 5, 2) := by decide +kernel
theorem dL_law_1402 : decode cL_law 1402 = .ok (.ifCond .ne 15, 3) := by decide +kernel
theorem dL_law_1405 : decode cL_law 1405 = .ok (.aload_n 3, 1) := by decide +kernel
theorem dL_law_1406 : decode cL_law 1406 = .ok (.iconst 0, 1) := by decide +kernel
theorem dL_law_1407 : decode cL_law 1407 = .ok (.laload, 1) := by decide +kernel
theorem dL_law_1408 : decode cL_law 1408 = .ok (.iload 6, 2) := by decide +kernel
theorem dL_law_1410 : decode cL_law 1410 = .ok (.i2l, 1) := by decide +kernel
theorem dL_law_1411 : decode cL_law 1411 = .ok (.lcmp, 1) := by decide +kernel
theorem dL_law_1412 : decode cL_law 1412 = .ok (.ifCond .eq 5, 3) := by decide +kernel
theorem dL_law_1415 : decode cL_law 1415 = .ok (.iconst 0, 1) := by decide +kernel
theorem dL_law_1416 : decode cL_law 1416 = .ok (.ireturn, 1) := by decide +kernel
theorem dL_law_1417 : decode cL_law 1417 = .ok (.goto 134, 3) := by decide +kernel
theorem dL_law_1420 : decode cL_law 1420 = .ok (.aload_n 1, 1) := by decide +kernel
theorem dL_law_1421 : decode cL_law 1421 = .ok (.aload_n 0, 1) := by decide +kernel
theorem dL_law_1422 : decode cL_law 1422 = .ok (.iload 4, 2) := by decide +kernel
theorem dL_law_1424 : decode cL_law 1424 = .ok (.iconst 1, 1) := by decide +kernel
theorem dL_law_1425 : decode cL_law 1425 = .ok (.iadd, 1) := by decide +kernel
theorem dL_law_1426 : decode cL_law 1426 = .ok (.iaload, 1) := by decide +kernel
theorem dL_law_1427 : decode cL_law 1427 = .ok (.aload_n 0, 1) := by decide +kernel
theorem dL_law_1428 : decode cL_law 1428 = .ok (.iload 4, 2) := by decide +kernel
theorem dL_law_1430 : decode cL_law 1430 = .ok (.iconst 2, 1) := by decide +kernel
theorem dL_law_1431 : decode cL_law 1431 = .ok (.iadd, 1) := by decide +kernel
theorem dL_law_1432 : decode cL_law 1432 = .ok (.iaload, 1) := by decide +kernel
theorem dL_law_1433 : decode cL_law 1433 = .ok (.aload_n 3, 1) := by decide +kernel
theorem dL_law_1434 : decode cL_law 1434 = .ok (.invokestatic 148, 3) := by decide +kernel
theorem dL_law_1437 : decode cL_law 1437 = .ok (.istore 5, 2) := by decide +kernel
theorem dL_law_1439 : decode cL_law 1439 = .ok (.aload_n 2, 1) := by decide +kernel
theorem dL_law_1440 : decode cL_law 1440 = .ok (.aload_n 0, 1) := by decide +kernel
theorem dL_law_1441 : decode cL_law 1441 = .ok (.iload 4, 2) := by decide +kernel
theorem dL_law_1443 : decode cL_law 1443 = .ok (.iconst 1, 1) := by decide +kernel
theorem dL_law_1444 : decode cL_law 1444 = .ok (.iadd, 1) := by decide +kernel
theorem dL_law_1445 : decode cL_law 1445 = .ok (.iaload, 1) := by decide +kernel
theorem dL_law_1446 : decode cL_law 1446 = .ok (.aload_n 0, 1) := by decide +kernel
theorem dL_law_1447 : decode cL_law 1447 = .ok (.iload 4, 2) := by decide +kernel
theorem dL_law_1449 : decode cL_law 1449 = .ok (.iconst 2, 1) := by decide +kernel
theorem dL_law_1450 : decode cL_law 1450 = .ok (.iadd, 1) := by decide +kernel
theorem dL_law_1451 : decode cL_law 1451 = .ok (.iaload, 1) := by decide +kernel
theorem dL_law_1452 : decode cL_law 1452 = .ok (.invokevirtual 150, 3) := by decide +kernel
theorem dL_law_1455 : decode cL_law 1455 = .ok (.istore 6, 2) := by decide +kernel
theorem dL_law_1457 : decode cL_law 1457 = .ok (.aload_n 2, 1) := by decide +kernel
theorem dL_law_1458 : decode cL_law 1458 = .ok (.invokevirtual 89, 3) := by decide +kernel
theorem dL_law_1461 : decode cL_law 1461 = .ok (.iload 5, 2) := by decide +kernel
theorem dL_law_1463 : decode cL_law 1463 = .ok (.if_icmp .eq 5, 3) := by decide +kernel
theorem dL_law_1466 : decode cL_law 1466 = .ok (.iconst 0, 1) := by decide +kernel
theorem dL_law_1467 : decode cL_law 1467 = .ok (.ireturn, 1) := by decide +kernel
theorem dL_law_1468 : decode cL_law 1468 = .ok (.iload 5, 2) := by decide +kernel
theorem dL_law_1470 : decode cL_law 1470 = .ok (.ifCond .ne 15, 3) := by decide +kernel
theorem dL_law_1473 : decode cL_law 1473 = .ok (.aload_n 3, 1) := by decide +kernel
theorem dL_law_1474 : decode cL_law 1474 = .ok (.iconst 0, 1) := by decide +kernel
theorem dL_law_1475 : decode cL_law 1475 = .ok (.laload, 1) := by decide +kernel
theorem dL_law_1476 : decode cL_law 1476 = .ok (.iload 6, 2) := by decide +kernel
theorem dL_law_1478 : decode cL_law 1478 = .ok (.i2l, 1) := by decide +kernel
theorem dL_law_1479 : decode cL_law 1479 = .ok (.lcmp, 1) := by decide +kernel
theorem dL_law_1480 : decode cL_law 1480 = .ok (.ifCond .eq 5, 3) := by decide +kernel
theorem dL_law_1483 : decode cL_law 1483 = .ok (.iconst 0, 1) := by decide +kernel
theorem dL_law_1484 : decode cL_law 1484 = .ok (.ireturn, 1) := by decide +kernel
theorem dL_law_1485 : decode cL_law 1485 = .ok (.goto 66, 3) := by decide +kernel
theorem dL_law_1488 : decode cL_law 1488 = .ok (.aload_n 1, 1) := by decide +kernel
theorem dL_law_1489 : decode cL_law 1489 = .ok (.aload_n 0, 1) := by decide +kernel
theorem dL_law_1490 : decode cL_law 1490 = .ok (.iload 4, 2) := by decide +kernel
theorem dL_law_1492 : decode cL_law 1492 = .ok (.iconst 1, 1) := by decide +kernel
theorem dL_law_1493 : decode cL_law 1493 = .ok (.iadd, 1) := by decide +kernel
theorem dL_law_1494 : decode cL_law 1494 = .ok (.iaload, 1) := by decide +kernel
theorem dL_law_1495 : decode cL_law 1495 = .ok (.aload_n 3, 1) := by decide +kernel
theorem dL_law_1496 : decode cL_law 1496 = .ok (.invokestatic 151, 3) := by decide +kernel
theorem dL_law_1499 : decode cL_law 1499 = .ok (.istore 5, 2) := by decide +kernel
theorem dL_law_1501 : decode cL_law 1501 = .ok (.aload_n 2, 1) := by decide +kernel
theorem dL_law_1502 : decode cL_law 1502 = .ok (.aload_n 0, 1) := by decide +kernel
theorem dL_law_1503 : decode cL_law 1503 = .ok (.iload 4, 2) := by decide +kernel
theorem dL_law_1505 : decode cL_law 1505 = .ok (.iconst 1, 1) := by decide +kernel
theorem dL_law_1506 : decode cL_law 1506 = .ok (.iadd, 1) := by decide +kernel
theorem dL_law_1507 : decode cL_law 1507 = .ok (.iaload, 1) := by decide +kernel
theorem dL_law_1508 : decode cL_law 1508 = .ok (.invokevirtual 153, 3) := by decide +kernel
theorem dL_law_1511 : decode cL_law 1511 = .ok (.istore 6, 2) := by decide +kernel
theorem dL_law_1513 : decode cL_law 1513 = .ok (.aload_n 2, 1) := by decide +kernel
theorem dL_law_1514 : decode cL_law 1514 = .ok (.invokevirtual 89, 3) := by decide +kernel
theorem dL_law_1517 : decode cL_law 1517 = .ok (.iload 5, 2) := by decide +kernel
theorem dL_law_1519 : decode cL_law 1519 = .ok (.if_icmp .eq 5, 3) := by decide +kernel
theorem dL_law_1522 : decode cL_law 1522 = .ok (.iconst 0, 1) := by decide +kernel
theorem dL_law_1523 : decode cL_law 1523 = .ok (.ireturn, 1) := by decide +kernel
theorem dL_law_1524 : decode cL_law 1524 = .ok (.iload 5, 2) := by decide +kernel
theorem dL_law_1526 : decode cL_law 1526 = .ok (.ifCond .ne 22, 3) := by decide +kernel
theorem dL_law_1529 : decode cL_law 1529 = .ok (.aload_n 3, 1) := by decide +kernel
theorem dL_law_1530 : decode cL_law 1530 = .ok (.iconst 0, 1) := by decide +kernel
theorem dL_law_1531 : decode cL_law 1531 = .ok (.laload, 1) := by decide +kernel
theorem dL_law_1532 : decode cL_law 1532 = .ok (.iload 6, 2) := by decide +kernel
theorem dL_law_1534 : decode cL_law 1534 = .ok (.ifCond .eq 7, 3) := by decide +kernel
theorem dL_law_1537 : decode cL_law 1537 = .ok (.lconst 1, 1) := by decide +kernel
theorem dL_law_1538 : decode cL_law 1538 = .ok (.goto 4, 3) := by decide +kernel
theorem dL_law_1541 : decode cL_law 1541 = .ok (.lconst 0, 1) := by decide +kernel
theorem dL_law_1542 : decode cL_law 1542 = .ok (.lcmp, 1) := by decide +kernel
theorem dL_law_1543 : decode cL_law 1543 = .ok (.ifCond .eq 5, 3) := by decide +kernel
theorem dL_law_1546 : decode cL_law 1546 = .ok (.iconst 0, 1) := by decide +kernel
theorem dL_law_1547 : decode cL_law 1547 = .ok (.ireturn, 1) := by decide +kernel
theorem dL_law_1548 : decode cL_law 1548 = .ok (.goto 3, 3) := by decide +kernel
theorem dL_law_1551 : decode cL_law 1551 = .ok (.iinc 4 6, 3) := by decide +kernel
theorem dL_law_1554 : decode cL_law 1554 = .ok (.goto (-1531), 3) := by decide +kernel
theorem dL_law_1557 : decode cL_law 1557 = .ok (.iconst 1, 1) := by decide +kernel
theorem dL_law_1558 : decode cL_law 1558 = .ok (.ireturn, 1) := by decide +kernel
abbrev vwCl : List vw_C := [(RX0, TX0, 4), (RX1, TX1, 2), (RX2, TX2, 6), (RX3, TX3, 2), (RX4, TX4, 6), (RX5, TX5, 18)]
end
section
/-! the class's worlds: one pool of cells, each at its address; the words that every method is given beside its own -/
def zIA : String := "java/lang/IllegalArgumentException"
def zIS : String := "java/lang/IllegalStateException"
def zIO : String := "java/lang/IndexOutOfBoundsException"
abbrev zty (ca : Nat → ClassId) : List (ClassId × FieldType) := [(ca 0, .object "LinkResolver$Title"), (ca 1, .object "LinkResolver$Pack"), (ca 2, .object "LinkResolver$History"), (ca 3, .int), (ca 4, .boolean), (ca 5, .long)]
def zE1 (U : State) : Prop := va_Nw (.methodLinkNest RX1 41 yX4_yearsBetween "LinkResolver") U ∧ va_AO RX3 U ∧ va_AO RX2 U ∧ va_AO RX1 U
def zE2 (U : State) : Prop := va_Nw (.castable "java/lang/IllegalArgumentException" "java/lang/IllegalArgumentException") U ∧ va_Nw (.castable "java/lang/IllegalStateException" "java/lang/IllegalStateException") U ∧ va_Nw (.castable "java/lang/IndexOutOfBoundsException" "java/lang/IndexOutOfBoundsException") U
def zE3 (sa : Nat → Nat) (U : State) : Prop := vk_R RX4 125 "no such place" (sa 0) U ∧ vk_R RX4 158 "an argument is out of range" (sa 1) U ∧ vk_R RX4 161 "no such title" (sa 2) U ∧ vk_R RX4 163 "no such package" (sa 3) U ∧ vk_R RX4 40 "there are 20 titles" (sa 4) U ∧ vk_R RX4 59 "there are 10 packages" (sa 5) U ∧ vk_R RX4 92 "the title is not in the package" (sa 6) U ∧ vk_R RX4 94 "today would be above 20000" (sa 7) U ∧ vk_R RX2 38 "no such title" (sa 8) U
def zE (D : va_G) (ca : Nat → ClassId) (sa : Nat → Nat) (U : State) : Prop := va_K D vwCl (zty ca) U ∧ zE1 U ∧ zE2 U ∧ zE3 sa U
theorem zE.warm {D : va_G} {ca : Nat → ClassId} {sa : Nat → Nat} {s U : State} (hW : s.WarmedH U.vm) (h : zE D ca sa s) : zE D ca sa U := by
  obtain ⟨h1, ⟨a1, a2, a3, a4⟩, ⟨b1, b2, b3⟩, c0, c1, c2, c3, c4, c5, c6, c7, c8⟩ := h
  exact ⟨h1.moved hW.alike, ⟨a1.warmM hW, a2.moved hW.alike, a3.moved hW.alike, a4.moved hW.alike⟩, ⟨b1.warmC hW, b2.warmC hW, b3.warmC hW⟩, c0.warm hW, c1.warm hW, c2.warm hW, c3.warm hW, c4.warm hW, c5.warm hW, c6.warm hW, c7.warm hW, c8.warm hW⟩
def zZ (A : Nat → Prop) (U : State) (H : Heap) : Prop := vx_Zq Bundle.tN "UNASSIGNED_STACK" Bundle.steD A U H ∧ vx_Zq Bundle.tN "SUPPRESSED_SENTINEL" Bundle.listD A U H
theorem zZ.to {A B : Nat → Prop} {s U : State} {H H1 : Heap} (hvm : s.vm.Alike U.vm) (hk : ∀ a : Nat, a < H.size → ¬ A a → H1[a]? = H[a]?) (hAB : ∀ q, B q → A q) (h : zZ A s H) : zZ B U H1 := ⟨((h.1.moved hvm).kept hk).narrow hAB, ((h.2.moved hvm).kept hk).narrow hAB⟩
/-- what is at an address of the pool -/
def zat (L : List Nat) (f : Nat → va_E) (a : Nat) (e : va_E) : Prop := a ∈ L ∧ f a = e
theorem zat_get {L : List Nat} {f : Nat → va_E} {a : Nat} {e : va_E} (h : zat L f a e) : ∃ k : Nat, (va_pl L f)[k]? = some (a, e) := by
  obtain ⟨k, hk⟩ := va_pl_get (X := []) (f := f) h.1
  refine ⟨k, ?_⟩
  rw [← h.2]
  exact hk
theorem zat_inj {L : List Nat} {f : Nat → va_E} {a : Nat} {e e' : va_E} (h : zat L f a e) (h' : zat L f a e') : e = e' := h.2.symm.trans h'.2
theorem zat_up {L : List Nat} {f : Nat → va_E} {a b : Nat} {e e' : va_E} (h : zat L f a e) (hn : a ≠ b) : zat L (va_up f b e') a e := ⟨h.1, (va_up_ne f e' hn).trans h.2⟩
theorem zat_self {L : List Nat} {f : Nat → va_E} {a : Nat} {e : va_E} (h : a ∈ L) : zat L (va_up f a e) a e := ⟨h, va_up_self f a e⟩
theorem zat_push {L : List Nat} {f : Nat → va_E} {a q : Nat} {e e' : va_E} (h : zat L f a e) (hq : q ∉ L) : zat (L ++ [q]) (va_up f q e') a e := ⟨List.mem_append_left _ h.1, (va_up_ne f e' (fun z => hq (by rw [← z]; exact h.1))).trans h.2⟩
theorem zat_new {L : List Nat} {f : Nat → va_E} {q : Nat} {e : va_E} : zat (L ++ [q]) (va_up f q e) q e := ⟨List.mem_append_right _ List.mem_cons_self, va_up_self f q e⟩
/-- the start of a method that only reads: the world and the words -/
def zPw (D : va_G) (ws : va_W) (ca : Nat → ClassId) (sa : Nat → Nat) (U : State) : Prop := va_P D vwCl ws U.heap ∧ zE D ca sa U
theorem zPw_warm {D : va_G} {ws : va_W} {ca : Nat → ClassId} {sa : Nat → Nat} {s U : State} {H : Heap} (hP : va_P D vwCl ws H) (hE : zE D ca sa s) (hU : U.heap = H) (hW : s.WarmedH U.vm) : zPw D ws ca sa U := ⟨by rw [hU]; exact hP, hE.warm hW⟩
theorem zblind {D : va_G} {ws : va_W} {ca : Nat → ClassId} {sa : Nat → Nat} {av : List Value} : FrameBlind (va_Pc av (zPw D ws ca sa)) := fun a U g mk q => ⟨q.1, q.2.1, zE.warm (U := U.calling g mk a) (State.WarmedH.refl U) q.2.2⟩
theorem zpS {D : va_G} {ws : va_W} {ca : Nat → ClassId} {sa : Nat → Nat} {s : State} {H : Heap} {As : List Value} (hP : va_P D vwCl ws H) (hE : zE D ca sa s) : PreS s H (va_Pc As (zPw D ws ca sa)) As := ⟨zblind, fun U hU hW => ⟨rfl, zPw_warm hP hE hU hW⟩⟩
theorem zpV {D : va_G} {ws : va_W} {ca : Nat → ClassId} {sa : Nat → Nat} {s : State} {H : Heap} {b q0 ci : Nat} {q : vw_C} {fs : List Value} {As : List Value} (hP : va_P D vwCl ws H) (hE : zE D ca sa s) (hc : vwCl[ci]? = some q) (he : ws[q0]? = some (b, .inr (ci, fs))) : PreV s H q.1 b (va_Pc (.ref b :: As) (zPw D ws ca sa)) As := ⟨zblind, va_recv hE.1 hP hc he, fun U hU hW => ⟨rfl, zPw_warm hP hE hU hW⟩⟩
theorem zpVp {D : va_G} {L : List Nat} {f : Nat → va_E} {ca : Nat → ClassId} {sa : Nat → Nat} {s : State} {H : Heap} {b ci : Nat} {q : vw_C} {fs : List Value} {As : List Value} (hP : va_P D vwCl (va_pl L f) H) (hE : zE D ca sa s) (hc : vwCl[ci]? = some q) (he : zat L f b (.inr (ci, fs))) : PreV s H q.1 b (va_Pc (.ref b :: As) (zPw D (va_pl L f) ca sa)) As := by
  obtain ⟨k, hk⟩ := zat_get he
  exact zpV hP hE hc hk
section ZB
variable {p : Program} {l : Launch} {e : Env} {R : Room} {s : State} {m : MethodId} {args : Array Value} {below : List Frame} {meth : Method} {c : Code} {H : Heap} {locs : List Loc} {cells slots : Nat} {Q : State → Prop}
variable {cc : ByteArray} {pc : Nat} {ls : Array Slot} {rest st0 : List Value} {A : Nat → Prop} {H0 : Heap} {D : va_G} {L : List Nat} {f : Nat → va_E} {a : Nat} {ca : Nat → ClassId} {sa : Nat → Nat} {ar : Array Value}
/-- the value on top by another name -/
theorem zasi {x y : Int32} (h : x = y) (k : W p l e R s m args below meth c H locs cells slots Q (F0 m pc ls (.int y :: rest))) : W p l e R s m args below meth c H locs cells slots Q (F0 m pc ls (.int x :: rest)) := by
  rw [h]; exact k
theorem zasl {x y : Int64} (h : x = y) (k : W p l e R s m args below meth c H locs cells slots Q (F0 m pc ls (.long y :: rest))) : W p l e R s m args below meth c H locs cells slots Q (F0 m pc ls (.long x :: rest)) := by
  rw [h]; exact k
theorem zasv {x y : Value} (h : x = y) (k : W p l e R s m args below meth c H locs cells slots Q (F0 m pc ls (y :: rest))) : W p l e R s m args below meth c H locs cells slots Q (F0 m pc ls (x :: rest)) := by
  rw [h]; exact k
/-- references that may be null -/
theorem zaload_n (hexec : p.tables.exec = Jvm.exec) (hb : c.code = cc) {k : Fin 4} {i : Nat} {x : Option Nat} (hdg : decode cc pc = .ok (.aload_n k, 1)) (hi : (k : Nat) = i) (hl : ls[i]? = some (.val (va_rf x)))
    (kk : W p l e R s m args below meth c H locs cells slots Q (F0 m (pc + 1) ls (va_rf x :: rest))) : W p l e R s m args below meth c H locs cells slots Q (F0 m pc ls rest) := by
  cases x with
  | none => exact lv_aload_nN hexec hb hdg hi hl kk
  | some x => exact lv_aload_n hexec hb hdg hi hl kk
theorem zaload (hexec : p.tables.exec = Jvm.exec) (hb : c.code = cc) {i : Nat} {x : Option Nat} (hdg : decode cc pc = .ok (.aload i, 2)) (hl : ls[i]? = some (.val (va_rf x)))
    (kk : W p l e R s m args below meth c H locs cells slots Q (F0 m (pc + 2) ls (va_rf x :: rest))) : W p l e R s m args below meth c H locs cells slots Q (F0 m pc ls rest) := by
  cases x with
  | none => exact lv_aloadN hexec hb hdg hl kk
  | some x => exact lv_aload hexec hb hdg hl kk
theorem zcat (x : Option Nat) : (va_rf x).category = 1 := by cases x <;> rfl
theorem zastore_n (hexec : p.tables.exec = Jvm.exec) (hb : c.code = cc) {k : Fin 4} {i nL : Nat} {x : Option Nat} {lv lv' : List (Nat × Value)} (hdg : decode cc pc = .ok (.astore_n k, 1)) (hi : (k : Nat) = i) (h : lv_has ls nL lv) (hn : i < nL) (hl : (i, va_rf x) :: lv.filter (fun q => !(q.1 == i) && !(q.1 + 1 == i && q.2.category == 2)) = lv')
    (kk : ∀ ls' : Array Slot, lv_has ls' nL lv' → W p l e R s m args below meth c H locs cells slots Q (F0 m (pc + 1) ls' rest)) : W p l e R s m args below meth c H locs cells slots Q (F0 m pc ls (va_rf x :: rest)) := by
  cases x with
  | none => exact lv_astore_nN hexec hb hdg hi h hn hl kk
  | some x => exact lv_astore_n hexec hb hdg hi h hn hl kk
theorem zastore (hexec : p.tables.exec = Jvm.exec) (hb : c.code = cc) {i nL : Nat} {x : Option Nat} {lv lv' : List (Nat × Value)} (hdg : decode cc pc = .ok (.astore i, 2)) (h : lv_has ls nL lv) (hn : i < nL) (hl : (i, va_rf x) :: lv.filter (fun q => !(q.1 == i) && !(q.1 + 1 == i && q.2.category == 2)) = lv')
    (kk : ∀ ls' : Array Slot, lv_has ls' nL lv' → W p l e R s m args below meth c H locs cells slots Q (F0 m (pc + 2) ls' rest)) : W p l e R s m args below meth c H locs cells slots Q (F0 m pc ls (va_rf x :: rest)) := by
  cases x with
  | none => exact lv_astoreN hexec hb hdg h hn hl kk
  | some x => exact lv_astore hexec hb hdg h hn hl kk
/-- a field of a pooled object -/
theorem zget (hexec : p.tables.exec = Jvm.exec) (hb : c.code = cc) {own C : String} {T : u_T} {N ci index : Nat} {Ts : List Cond} (hts : ∀ w ∈ Ts, w.before args s = true) (hin : ∀ w ∈ u_ws C T N, w ∈ Ts) (hown : s.vm.findClass own = some m.cls) (hE : zE D ca sa s) (hP : va_P D vwCl (va_pl L f) H) {fs : List Value} (hat : zat L f a (.inr (ci, fs))) (hc : vwCl[ci]? = some (C, T, N)) (k : Nat) (hk : k < N) (hlink : (Cond.fieldLink own index (T k).1 (T k).2.1 (T k).2.2.1).before args s = true) {v : Value} (hv : fs[k]? = some v) (hdg : decode cc pc = .ok (.getfield index, 3))
    (kk : W p l e R s m args below meth c H locs cells slots Q (F0 m (pc + 3) ls (v :: rest))) : W p l e R s m args below meth c H locs cells slots Q (F0 m pc ls (.ref a :: rest)) := by
  obtain ⟨q0, he⟩ := zat_get hat
  exact va_get hexec hb hts hin hown hE.1 hP q0 he hc k hk hlink (fun _ h => h) hv hdg kk
/-- a place of a pooled array of references, and its length -/
theorem zaldq (hexec : p.tables.exec = Jvm.exec) (hb : c.code = cc) (hE : zE D ca sa s) (hP : va_P D vwCl (va_pl L f) H) (t0 : Nat) {cA : ClassId} {C : String} {n : Nat} {g : Nat → Option Nat} (hat : zat L f a (.inl (cA, n, .inr (.inr (.inr (.inr g)))))) (ht : (zty ca)[t0]? = some (cA, .object C)) {i : Nat} (hi : i < n) (hn : n < 2 ^ 31) (hdg : decode cc pc = .ok (.aaload, 1))
    (kk : W p l e R s m args below meth c H locs cells slots Q (F0 m (pc + 1) ls (va_rf (g i) :: rest))) : W p l e R s m args below meth c H locs cells slots Q (F0 m pc ls (.int (nI i) :: .ref a :: rest)) := by
  obtain ⟨q0, he⟩ := zat_get hat
  refine va_aldq hexec hb hE.1 hP q0 t0 he ht (vp_in_nI hi hn) hdg ?_
  rw [nI_clamp (by omega)]
  exact kk
theorem zalen (hexec : p.tables.exec = Jvm.exec) (hb : c.code = cc) (hE : zE D ca sa s) (hP : va_P D vwCl (va_pl L f) H) (t0 : Nat) {cA : ClassId} {x : vp_A} (hat : zat L f a (.inl (cA, x))) {ty : FieldType} (ht : (zty ca)[t0]? = some (cA, ty)) {n : Nat} (hn : x.1 = n) (hdg : decode cc pc = .ok (.arraylength, 1))
    (kk : W p l e R s m args below meth c H locs cells slots Q (F0 m (pc + 1) ls (.int (nI n) :: rest))) : W p l e R s m args below meth c H locs cells slots Q (F0 m pc ls (.ref a :: rest)) := by
  obtain ⟨q0, he⟩ := zat_get hat
  subst hn
  exact va_alen hexec hb hE.1 hP q0 t0 he ht rfl hdg kk
/-- behind a call that only reads -/
theorem zci {v : Int32} (hr : va_Run p l e R s m args below meth c H locs cells slots 0 0 (F0 m pc ls st0) rest (vp_Si (fun r => r = v) ar) (fun _ => False)) (kk : W p l e R s m args below meth c H locs cells slots Q (F0 m (pc + 3) ls (.int v :: rest))) : W p l e R s m args below meth c H locs cells slots Q (F0 m pc ls st0) := vp_callSi hr.run (fun r er => by subst er; exact kk)
theorem zcl {v : Int64} (hr : va_Run p l e R s m args below meth c H locs cells slots 0 0 (F0 m pc ls st0) rest (vp_Sl (fun r => r = v) ar) (fun _ => False)) (kk : W p l e R s m args below meth c H locs cells slots Q (F0 m (pc + 3) ls (.long v :: rest))) : W p l e R s m args below meth c H locs cells slots Q (F0 m pc ls st0) := vp_callSl hr.run (fun r er => by subst er; exact kk)
theorem zcq {v : Option Nat} (hr : va_Run p l e R s m args below meth c H locs cells slots 0 0 (F0 m pc ls st0) rest (va_Sq (fun r => r = v) ar) (fun _ => False)) (kk : W p l e R s m args below meth c H locs cells slots Q (F0 m (pc + 3) ls (va_rf v :: rest))) : W p l e R s m args below meth c H locs cells slots Q (F0 m pc ls st0) := va_csq hr.run (fun r er => by subst er; exact kk)
theorem zcqp {post : Option Nat → Prop} (hr : va_Run p l e R s m args below meth c H locs cells slots 0 0 (F0 m pc ls st0) rest (va_Sq post ar) (fun _ => False)) (kk : ∀ r : Option Nat, post r → W p l e R s m args below meth c H locs cells slots Q (F0 m (pc + 3) ls (va_rf r :: rest))) : W p l e R s m args below meth c H locs cells slots Q (F0 m pc ls st0) := va_csq hr.run kk
theorem zcv (hr : va_Run p l e R s m args below meth c H locs cells slots 0 0 (F0 m pc ls st0) rest (va_Sv (fun _ => True) ar) (fun _ => False)) (kk : W p l e R s m args below meth c H locs cells slots Q (F0 m (pc + 3) ls rest)) : W p l e R s m args below meth c H locs cells slots Q (F0 m pc ls st0) := va_csv hr.run (fun _ => kk)
/-- ends of methods that only read -/
theorem zri {post : Int32 → Prop} {v : Int32} (hexec : p.tables.exec = Jvm.exec) (hb : c.code = cc) (hr : meth.sig.returnType = some .int) (hlocks : meth.locks = false) (hdg : decode cc pc = .ok (.ireturn, 1)) (hp : post v) : W p l e R s m args below meth c s.heap [] 0 0 (MQ below (vp_Si post) args s 0 0 (fun _ => False)) (F0 m pc ls [.int v]) :=
  W.iret hexec hb hr (fun t ht _ => ⟨v, rfl, hp, ht⟩) (fun q h => nomatch h) hdg hlocks
theorem zrz {post : Int32 → Prop} {v : Int32} (hexec : p.tables.exec = Jvm.exec) (hb : c.code = cc) (hr : meth.sig.returnType = some .boolean) (hlocks : meth.locks = false) (hdg : decode cc pc = .ok (.ireturn, 1)) (hn : narrow .boolean (.int v) = .int v) (hp : post v) : W p l e R s m args below meth c s.heap [] 0 0 (MQ below (vp_Si post) args s 0 0 (fun _ => False)) (F0 m pc ls [.int v]) :=
  W.zret hexec hb hr hn (fun t ht _ => ⟨v, rfl, hp, ht⟩) (fun q h => nomatch h) hdg hlocks
theorem zrl {post : Int64 → Prop} {v : Int64} (hexec : p.tables.exec = Jvm.exec) (hb : c.code = cc) (hr : meth.sig.returnType = some .long) (hlocks : meth.locks = false) (hdg : decode cc pc = .ok (.lreturn, 1)) (hp : post v) : W p l e R s m args below meth c s.heap [] 0 0 (MQ below (vp_Sl post) args s 0 0 (fun _ => False)) (F0 m pc ls [.long v]) :=
  W.lret hexec hb hr (fun t ht _ => ⟨v, rfl, hp, ht⟩) (fun q h => nomatch h) hdg hlocks
theorem zrq {post : Option Nat → Prop} {v : Option Nat} {C : String} (hexec : p.tables.exec = Jvm.exec) (hb : c.code = cc) (hr : meth.sig.returnType = some (.object C)) (hlocks : meth.locks = false) (hdg : decode cc pc = .ok (.areturn, 1)) (hp : post v) : W p l e R s m args below meth c s.heap [] 0 0 (MQ below (va_Sq post) args s 0 0 (fun _ => False)) (F0 m pc ls [va_rf v]) :=
  W.aret hexec hb hr (Or.inl ⟨_, rfl⟩) (va_rf_or v) (fun t ht _ => ⟨v, rfl, hp, ht⟩) (fun q h => nomatch h) hdg hlocks
theorem zrv (hexec : p.tables.exec = Jvm.exec) (hb : c.code = cc) (hr : meth.sig.returnType = none) (hlocks : meth.locks = false) (hdg : decode cc pc = .ok (.return_, 1)) : W p l e R s m args below meth c s.heap [] 0 0 (MQ below (va_Sv (fun _ => True)) args s 0 0 (fun _ => False)) (F0 m pc ls []) :=
  W.vret hexec hb hr (fun t ht _ => ⟨rfl, trivial, ht⟩) (fun q h => nomatch h) hdg hlocks
/-- a field of a pooled object is written -/
theorem zput (hexec : p.tables.exec = Jvm.exec) (hb : c.code = cc) {own C : String} {T : u_T} {N ci index : Nat} {Ts : List Cond} (hts : ∀ w ∈ Ts, w.before args s = true) (hin : ∀ w ∈ u_ws C T N, w ∈ Ts) (ty0 : Nat → FieldType) (hty : ∀ k, k < N → parseFieldDescriptor (T k).2.2.1 = some (ty0 k)) (hnm : ∀ a, a < N → ∀ b, b < N → a ≠ b → (T a).2.1 ≠ (T b).2.1) (hown : s.vm.findClass own = some m.cls) (hE : zE D ca sa s) (hP : va_P D vwCl (va_pl L f) H) (hD : va_D A (va_pl L f)) (hS : va_S A H0 H locs) {fs : List Value} (hat : zat L f a (.inr (ci, fs))) (hc : vwCl[ci]? = some (C, T, N)) (k : Nat) (hk : k < N) (hlink : (Cond.fieldLink own index (T k).1 (T k).2.1 (T k).2.2.1).before args s = true) (hfin : (T k).2.2.2 = false) {ty : FieldType} {v : Value} (hd : parseFieldDescriptor (T k).2.2.1 = some ty) (hn : narrow ty v = v) (hfit : fits ty v = true) (hl : k < fs.length)
    (hdg : decode cc pc = .ok (.putfield index, 3)) (kk : ∀ (H1 : Heap) (locs1 : List Loc), va_P D vwCl (va_pl L (va_up f a (.inr (ci, fs.set k v)))) H1 → va_D A (va_pl L (va_up f a (.inr (ci, fs.set k v)))) → va_S A H0 H1 locs1 → W p l e R s m args below meth c H1 locs1 cells slots Q (F0 m (pc + 3) ls rest)) : W p l e R s m args below meth c H locs cells slots Q (F0 m pc ls (v :: .ref a :: rest)) := by
  obtain ⟨q0, he⟩ := zat_get hat
  refine va_put hexec hb hts hin ty0 hty hnm hown hE.1 hP hD hS q0 he hc k hk hlink (fun _ h => h) hfin hd hn hfit hl hdg (fun H1 locs1 h1 h2 h3 => ?_)
  have e := va_pl_set (X := []) (e := .inr (ci, fs.set k v)) hD hat.1 (by rw [hat.2]; exact he)
  rw [List.nil_append, List.nil_append] at e
  rw [e] at h1 h2
  exact kk H1 locs1 h1 h2 h3
theorem zputF (hexec : p.tables.exec = Jvm.exec) (hb : c.code = cc) {own C : String} {T : u_T} {N ci index : Nat} {Ts : List Cond} (hts : ∀ w ∈ Ts, w.before args s = true) (hin : ∀ w ∈ u_ws C T N, w ∈ Ts) (ty0 : Nat → FieldType) (hty : ∀ k, k < N → parseFieldDescriptor (T k).2.2.1 = some (ty0 k)) (hnm : ∀ a, a < N → ∀ b, b < N → a ≠ b → (T a).2.1 ≠ (T b).2.1) (hown : s.vm.findClass own = some m.cls) (hE : zE D ca sa s) (hP : va_P D vwCl (va_pl L f) H) (hD : va_D A (va_pl L f)) (hS : va_S A H0 H locs) {fs : List Value} (hat : zat L f a (.inr (ci, fs))) (hc : vwCl[ci]? = some (C, T, N)) (k : Nat) (hk : k < N) (hlink : (Cond.fieldLink own index (T k).1 (T k).2.1 (T k).2.2.1).before args s = true) (hfin : (T k).2.2.2 = true) (hin2 : meth.name = "<init>") (hdecl : (T k).1 = own) {ty : FieldType} {v : Value} (hd : parseFieldDescriptor (T k).2.2.1 = some ty) (hn : narrow ty v = v) (hfit : fits ty v = true) (hl : k < fs.length)
    (hdg : decode cc pc = .ok (.putfield index, 3)) (kk : ∀ (H1 : Heap) (locs1 : List Loc), va_P D vwCl (va_pl L (va_up f a (.inr (ci, fs.set k v)))) H1 → va_D A (va_pl L (va_up f a (.inr (ci, fs.set k v)))) → va_S A H0 H1 locs1 → W p l e R s m args below meth c H1 locs1 cells slots Q (F0 m (pc + 3) ls rest)) : W p l e R s m args below meth c H locs cells slots Q (F0 m pc ls (v :: .ref a :: rest)) := by
  obtain ⟨q0, he⟩ := zat_get hat
  refine va_putF hexec hb hts hin ty0 hty hnm hown hE.1 hP hD hS q0 he hc k hk hlink (fun _ h => h) hfin hin2 hdecl hd hn hfit hl hdg (fun H1 locs1 h1 h2 h3 => ?_)
  have e := va_pl_set (X := []) (e := .inr (ci, fs.set k v)) hD hat.1 (by rw [hat.2]; exact he)
  rw [List.nil_append, List.nil_append] at e
  rw [e] at h1 h2
  exact kk H1 locs1 h1 h2 h3
theorem zast (hexec : p.tables.exec = Jvm.exec) (hb : c.code = cc) (hE : zE D ca sa s) (hP : va_P D vwCl (va_pl L f) H) (hD : va_D A (va_pl L f)) (hS : va_S A H0 H locs) (t0 ci : Nat) {cA : ClassId} {r : vw_C} {n v : Nat} {vs : List Value} {g : Nat → Option Nat} (hat : zat L f a (.inl (cA, n, .inr (.inr (.inr (.inr g)))))) (ht : (zty ca)[t0]? = some (cA, .object r.1)) (hv : zat L f v (.inr (ci, vs))) (hc : vwCl[ci]? = some r) {i : Nat} (hi : i < n) (hn : n < 2 ^ 31) (hdg : decode cc pc = .ok (.aastore, 1))
    (kk : ∀ (H1 : Heap) (locs1 : List Loc), va_P D vwCl (va_pl L (va_up f a (.inl (cA, n, .inr (.inr (.inr (.inr (va_up g i (some v))))))))) H1 → va_D A (va_pl L (va_up f a (.inl (cA, n, .inr (.inr (.inr (.inr (va_up g i (some v))))))))) → va_S A H0 H1 locs1 → W p l e R s m args below meth c H1 locs1 cells slots Q (F0 m (pc + 1) ls rest)) : W p l e R s m args below meth c H locs cells slots Q (F0 m pc ls (.ref v :: .int (nI i) :: .ref a :: rest)) := by
  obtain ⟨q0, he⟩ := zat_get hat
  obtain ⟨qk, hk⟩ := zat_get hv
  refine va_astq hexec hb hE.1 hP hD hS q0 t0 qk ci he ht hk hc (vp_in_nI hi hn) hdg (fun H1 locs1 h1 h2 h3 => ?_)
  rw [nI_clamp (by omega)] at h1 h2
  have e := va_pl_set (X := []) (e := .inl (cA, n, .inr (.inr (.inr (.inr (va_up g i (some v))))))) hD hat.1 (by rw [hat.2]; exact he)
  rw [List.nil_append, List.nil_append] at e
  rw [e] at h1 h2
  exact kk H1 locs1 h1 h2 h3
/-- a new object joins the pool -/
theorem znew (hexec : p.tables.exec = Jvm.exec) (hb : c.code = cc) {own C : String} {T : u_T} {N ci index : Nat} {Ts : List Cond} (hts : ∀ w ∈ Ts, w.before args s = true) (hin : ∀ w ∈ u_ws C T N, w ∈ Ts) (ty : Nat → FieldType) (hty : ∀ k, k < N → parseFieldDescriptor (T k).2.2.1 = some (ty k)) (hown : s.vm.findClass own = some m.cls) (hcl : (Cond.classLink own index C).before args s = true) (hinst : (Cond.instantiable C N).before args s = true) (hini : (Cond.initialized C).before args s = true)
    (hE : zE D ca sa s) (hP : va_P D vwCl (va_pl L f) H) (hD : va_D A (va_pl L f)) (hS : va_S A H0 H locs) (hA : ∀ q, H0.size ≤ q → A q) (hc : vwCl[ci]? = some (C, T, N)) {fs : List Value} (hfs : ∀ j, j < N → defaultValue (ty j) = vp_V fs j) (hcells : cells + 1 ≤ R.cells) (hslots : slots + N ≤ R.slots) (hdg : decode cc pc = .ok (.new index, 3))
    (kk : ∀ (q : Nat) (H1 : Heap), q ∉ L → va_P D vwCl (va_pl (L ++ [q]) (va_up f q (.inr (ci, fs)))) H1 → va_D A (va_pl (L ++ [q]) (va_up f q (.inr (ci, fs)))) → va_S A H0 H1 locs →
      W p l e R s m args below meth c H1 locs (cells + 1) (slots + N) Q (F0 m (pc + 3) ls (.ref q :: rest))) : W p l e R s m args below meth c H locs cells slots Q (F0 m pc ls rest) := by
  refine va_new hexec hb hts hin ty hty hown hcl hinst hini hE.1 hP hD hS hA hc hfs hcells hslots hdg (fun q H1 h1 h2 h3 => ?_)
  have hq : q ∉ L := va_pl_fresh2 (X := []) (by rw [List.nil_append]; exact h2)
  rw [va_pl_push hq] at h1 h2
  exact kk q H1 hq h1 h2 h3
theorem znewq (hexec : p.tables.exec = Jvm.exec) (hb : c.code = cc) {own C : String} {index : Nat} (hown : s.vm.findClass own = some m.cls) (hclink : (Cond.classLink own index C).before args s = true) (hover : va_AO C s) (hE : zE D ca sa s) (t0 : Nat) {cA0 : ClassId} (ht : (zty ca)[t0]? = some (cA0, .object C)) (hP : va_P D vwCl (va_pl L f) H) (hD : va_D A (va_pl L f)) (hS : va_S A H0 H locs) (hA : ∀ q, H0.size ≤ q → A q)
    {n : Nat} (hn : n ≤ 1000) (hcells : cells + 1 ≤ R.cells) (hslots : slots + n ≤ R.slots) (hdg : decode cc pc = .ok (.anewarray index, 3))
    (kk : ∀ (q : Nat) (H1 : Heap), q ∉ L → va_P D vwCl (va_pl (L ++ [q]) (va_up f q (.inl (cA0, n, .inr (.inr (.inr (.inr (fun _ => none)))))))) H1 → va_D A (va_pl (L ++ [q]) (va_up f q (.inl (cA0, n, .inr (.inr (.inr (.inr (fun _ => none)))))))) → va_S A H0 H1 locs →
      W p l e R s m args below meth c H1 locs (cells + 1) (slots + n) Q (F0 m (pc + 3) ls (.ref q :: rest))) : W p l e R s m args below meth c H locs cells slots Q (F0 m pc ls (.int (nI n) :: rest)) := by
  refine va_newq hexec hb hown hclink hover hE.1 hP hD hS hA (nI_pos (by omega)) (nI_clamp (by omega)) (by omega) hcells hslots hdg (fun q cA H1 h0 h1 h2 h3 => ?_)
  have e1 := (h0.2 6 (cA, .object C) rfl).2
  have e2 := (hE.1.2 t0 _ ht).2
  obtain ⟨-, -, -, -, -, e3⟩ := e1
  obtain ⟨-, -, -, -, -, e4⟩ := e2
  have e5 : cA = cA0 := Option.some.inj (e3.symm.trans e4)
  subst e5
  have hq : q ∉ L := va_pl_fresh2 (X := []) (by rw [List.nil_append]; exact h2)
  rw [va_pl_push hq] at h1 h2
  exact kk q H1 hq h1 h2 h3
end ZB
end
section
/-! years as bits, and the chain of changes: what the leaves of the class answer, word for word as the code has it -/
def bI (b : Bool) : Int32 := if b then 1 else 0
theorem bI_nar (b : Bool) : narrow .boolean (.int (bI b)) = .int (bI b) := by cases b <;> rfl
theorem bI_t {c : Prop} [Decidable c] (h : c) : nI 1 = bI (decide c) := by rw [decide_eq_true h]; rfl
theorem bI_f {c : Prop} [Decidable c] (h : ¬ c) : nI 0 = bI (decide c) := by rw [decide_eq_false h]; rfl
theorem bI_eq0 {b : Bool} (h : bI b = 0) : b = false := by cases b with | false => rfl | true => exact absurd h (by decide)
theorem bI_ne0 {b : Bool} (h : ¬ bI b = 0) : b = true := by cases b with | true => rfl | false => exact absurd rfl h
theorem zinc1 (a : Nat) : nI a + Int32.ofInt 1 = nI (a + 1) := nI_1 a
theorem zmin {a b : Nat} (ha : a < 2 ^ 31) (hb : b < 2 ^ 31) : (if nI b < nI a then nI b else nI a) = nI (min a b) := by
  by_cases h : b < a
  · rw [if_pos ((nI_ltI hb ha).mpr h), Nat.min_eq_right (Nat.le_of_lt h)]
  · rw [if_neg (fun q => h ((nI_ltI hb ha).mp q)), Nat.min_eq_left (Nat.le_of_not_lt h)]
theorem zdiv {a : Nat} (ha : a ≤ 20000) : nI a / nI 360 = nI (a / 360) := pk_div (by omega) (by decide) (by decide)
theorem z360 : ¬ nI 360 = 0 := by decide
def yB (a b : Int32) : Int64 := if a ≤ b then (((1 : Int64) <<< ((b - a + nI 1).toInt64 &&& 63)) - 1) <<< (a.toInt64 &&& 63) else 0
def hY (x : Int64) (k : Int32) : Bool := decide ((x >>> (k.toInt64 &&& 63)) &&& 1 = 1)
abbrev zLs : Type := List (Nat × Int64 × Nat)
/-- the changes from a reference on, newest first -/
def zCh (L : List Nat) (f : Nat → va_E) : Option Nat → zLs → Prop
  | nx, [] => nx = none
  | nx, c :: r => ∃ (a : Nat) (nx' : Option Nat), nx = some a ∧ zat L f a (.inr (0, [.int (nI c.1), .long c.2.1, .int (nI c.2.2), va_rf nx'])) ∧ zCh L f nx' r
def zOk (l : zLs) : Prop := ∀ c ∈ l, c.1 ≤ 20000 ∧ c.2.2 ≤ 20
def zDr (d : Nat) (l : zLs) : zLs := l.dropWhile (fun c => decide (d < c.1))
def zOn (d : Nat) (l : zLs) : Bool := match zDr d l with
  | [] => false
  | c :: _ => decide (¬ c.2.1 = 0)
def zOp (d : Nat) (l : zLs) : Int64 := match zDr d l with
  | [] => 0
  | c :: _ => c.2.1 &&& yB (nI 0) (nI (d / 360) - nI c.2.2)
def zKe (day : Nat) : Nat → Int64 → zLs → Int64
  | _, acc, [] => acc
  | u, acc, c :: r => zKe day (min u c.1) (acc ||| (c.2.1 &&& yB (nI (c.1 / 360)) (if nI (day / 360) - nI c.2.2 < nI (u / 360) - nI 1 then nI (day / 360) - nI c.2.2 else nI (u / 360) - nI 1))) r
def zHist (L : List Nat) (f : Nat → va_E) (h b : Nat) (l : zLs) : Prop := (∃ nx : Option Nat, zat L f h (.inr (1, [va_rf nx, .int (nI b)])) ∧ zCh L f nx l) ∧ zOk l
theorem zOk_dr {l : zLs} (h : zOk l) (d : Nat) : zOk (zDr d l) := fun c hc => h c ((List.dropWhile_sublist _).subset hc)

set_option maxHeartbeats 4000000 in
set_option maxRecDepth 100000 in
theorem c_yearsBetween (l : Launch) (D : va_G) (ca : Nat → ClassId) (sa : Nat → Nat) (ws : va_W) (a b : Int32) : Met l yX4_yearsBetween wsX4_yearsBetween ({ frames := 1, cells := 0, slots := 0, locals := 40 }) (va_Pc [.int a, .int b] (zPw D ws ca sa)) (vp_Sl (fun r => r = yB a b)) 0 0 (fun _ => False) := by
  refine Met.ofW (cc := cX4_yearsBetween) (maxL := 2) (ret := (some .long)) (by decide) rfl ?_
  intro p e s m args below meth c s₁ B hml hv
  obtain ⟨rfl, hP, hE⟩ := hv
  have hx := B.exec
  have hb := B.bytes
  have hr := B.returns
  have hts := atoms_spec (ws := wsX4_yearsBetween) B.pre
  have hown : s.vm.findClass RX4 = some m.cls := findClass_of_methodNamed B.named
  have hlocks := B.notSynchronized
  have hl := lv_entry ([.int a, .int b]) (n := 2) (Nat.le_of_ble_eq_true rfl)
  rw [lg_entry_eq]
  generalize (lg_sl ([.int a, .int b]) ++ List.replicate (2 - (lg_sl ([.int a, .int b])).length) Slot.unset).toArray = ls at hl ⊢
  have hl : lv_has ls 2 [(0, .int a), (1, .int b)] := hl
  refine lv_iload_n hx hb dX4_yearsBetween_0 rfl (lv_at hl 0 rfl) ?_
  refine lv_iload_n hx hb dX4_yearsBetween_1 rfl (lv_at hl 1 rfl) ?_
  refine lv_icmp_le (tgt := 9) hx hb dX4_yearsBetween_2 (by decide) (fun c_2 => ?_) (fun c_2 => ?_)
  · refine lv_lconst (v := 1) hx hb dX4_yearsBetween_9 (by decide) ?_
    refine lv_iload_n hx hb dX4_yearsBetween_10 rfl (lv_at hl 1 rfl) ?_
    refine lv_iload_n hx hb dX4_yearsBetween_11 rfl (lv_at hl 0 rfl) ?_
    refine lv_isub hx hb dX4_yearsBetween_12 ?_
    refine lv_iconst (v := nI 1) hx hb dX4_yearsBetween_13 (by decide) ?_
    refine lv_iadd hx hb dX4_yearsBetween_14 ?_
    refine lv_lshl hx hb dX4_yearsBetween_15 rfl ?_
    refine lv_lconst (v := 1) hx hb dX4_yearsBetween_16 (by decide) ?_
    refine lv_lsub hx hb dX4_yearsBetween_17 ?_
    refine lv_iload_n hx hb dX4_yearsBetween_18 rfl (lv_at hl 0 rfl) ?_
    refine lv_lshl hx hb dX4_yearsBetween_19 rfl ?_
    exact zrl hx hb hr hlocks dX4_yearsBetween_20 ((if_pos c_2).symm)
  · refine lv_lconst (v := 0) hx hb dX4_yearsBetween_5 (by decide) ?_
    refine lv_goto (tgt := 20) hx hb dX4_yearsBetween_6 (by decide) ?_
    exact zrl hx hb hr hlocks dX4_yearsBetween_20 ((if_neg c_2).symm)

set_option maxHeartbeats 4000000 in
set_option maxRecDepth 100000 in
theorem c_hasYear (l : Launch) (D : va_G) (ca : Nat → ClassId) (sa : Nat → Nat) (ws : va_W) (x : Int64) (k : Int32) : Met l yX4_hasYear wsX4_hasYear ({ frames := 1, cells := 0, slots := 0, locals := 40 }) (va_Pc [.long x, .int k] (zPw D ws ca sa)) (vp_Si (fun r => r = bI (hY x k))) 0 0 (fun _ => False) := by
  refine Met.ofW (cc := cX4_hasYear) (maxL := 3) (ret := (some .boolean)) (by decide) rfl ?_
  intro p e s m args below meth c s₁ B hml hv
  obtain ⟨rfl, hP, hE⟩ := hv
  have hx := B.exec
  have hb := B.bytes
  have hr := B.returns
  have hts := atoms_spec (ws := wsX4_hasYear) B.pre
  have hown : s.vm.findClass RX4 = some m.cls := findClass_of_methodNamed B.named
  have hlocks := B.notSynchronized
  have hl := lv_entry ([.long x, .int k]) (n := 3) (Nat.le_of_ble_eq_true rfl)
  rw [lg_entry_eq]
  generalize (lg_sl ([.long x, .int k]) ++ List.replicate (3 - (lg_sl ([.long x, .int k])).length) Slot.unset).toArray = ls at hl ⊢
  have hl : lv_has ls 3 [(0, .long x), (2, .int k)] := hl
  refine lv_lload_n hx hb dX4_hasYear_0 rfl (lv_at hl 0 rfl) ?_
  refine lv_iload_n hx hb dX4_hasYear_1 rfl (lv_at hl 1 rfl) ?_
  refine lv_lshr hx hb dX4_hasYear_2 rfl ?_
  refine lv_lconst (v := 1) hx hb dX4_hasYear_3 (by decide) ?_
  refine lv_land hx hb dX4_hasYear_4 ?_
  refine lv_lconst (v := 1) hx hb dX4_hasYear_5 (by decide) ?_
  refine W.lcmp hx hb dX4_hasYear_6 ?_
  refine lv_if_ne (tgt := 14) hx hb dX4_hasYear_7 (by decide) (fun c_7 => ?_) (fun c_7 => ?_)
  · refine lv_iconst (v := nI 0) hx hb dX4_hasYear_14 (by decide) ?_
    exact zrz hx hb hr hlocks dX4_hasYear_15 rfl (bI_f (fun e9 => c_7 ((lg_cmp_eq _ _).mpr e9)))
  · refine lv_iconst (v := nI 1) hx hb dX4_hasYear_10 (by decide) ?_
    refine lv_goto (tgt := 15) hx hb dX4_hasYear_11 (by decide) ?_
    exact zrz hx hb hr hlocks dX4_hasYear_15 rfl (bI_t ((lg_cmp_eq _ _).mp c_7))

set_option maxHeartbeats 4000000 in
set_option maxRecDepth 100000 in
theorem c_changeAt (l : Launch) (D : va_G) (ca : Nat → ClassId) (sa : Nat → Nat) (L : List Nat) (f : Nat → va_E) (h d b : Nat) (l0 : zLs) (hd : d ≤ 20000) (hh : zHist L f h b l0) : Met l yX1_changeAt wsX1_changeAt ({ frames := 1, cells := 0, slots := 0, locals := 40 }) (va_Pc [.ref h, .int (nI d)] (zPw D (va_pl L f) ca sa)) (va_Sq (fun r => zCh L f r (zDr d l0))) 0 0 (fun _ => False) := by
  refine Met.ofW (cc := cX1_changeAt) (maxL := 3) (ret := (some (.object "LinkResolver$Change"))) (by decide) rfl ?_
  intro p e s m args below meth c s₁ B hml hv
  obtain ⟨rfl, hP, hE⟩ := hv
  have hx := B.exec
  have hb := B.bytes
  have hr := B.returns
  have hts := atoms_spec (ws := wsX1_changeAt) B.pre
  have hown : s.vm.findClass RX1 = some m.cls := findClass_of_methodNamed B.named
  have hlocks := B.notSynchronized
  have hl := lv_entry ([.ref h, .int (nI d)]) (n := 3) (Nat.le_of_ble_eq_true rfl)
  rw [lg_entry_eq]
  generalize (lg_sl ([.ref h, .int (nI d)]) ++ List.replicate (3 - (lg_sl ([.ref h, .int (nI d)])).length) Slot.unset).toArray = ls at hl ⊢
  have hl : lv_has ls 3 [(0, .ref h), (1, .int (nI d))] := hl
  obtain ⟨nx0, hat0, hch0⟩ := hh.1
  have loop : ∀ (l1 : zLs) (nx : Option Nat) (ls : Array Slot), zOk l1 → zCh L f nx l1 → zDr d l1 = zDr d l0 → lv_has ls 3 [(2, va_rf nx), (0, .ref h), (1, .int (nI d))] → W p l e (headSpec wsX1_changeAt ({ frames := 1, cells := 0, slots := 0, locals := 40 })).room s m ([.ref h, .int (nI d)] : List Value).toArray below meth c s.heap [] 0 0 (MQ below (va_Sq (fun r => zCh L f r (zDr d l0))) ([.ref h, .int (nI d)] : List Value).toArray s 0 0 (fun _ => False)) (F0 m 5 ls []) := by
    intro l1
    induction l1 with
    | nil =>
      intro nx ls hok hch hdr hl
      obtain rfl : nx = none := hch
      have hl : lv_has ls 3 [(2, .null), (0, .ref h), (1, .int (nI d))] := hl
      refine lv_aload_nN hx hb dX1_changeAt_5 rfl (lv_at hl 0 rfl) ?_
      refine lv_ifnullN (tgt := 25) hx hb dX1_changeAt_6 (by decide) ?_
      refine lv_aload_nN hx hb dX1_changeAt_25 rfl (lv_at hl 0 rfl) ?_
      exact zrq (v := none) hx hb hr hlocks dX1_changeAt_26 (by rw [← hdr]; rfl)
    | cons c9 r ih =>
      intro nx ls hok hch hdr hl
      obtain ⟨a, nx2, rfl, hat, hch2⟩ := hch
      have hk := hok c9 List.mem_cons_self
      have hl : lv_has ls 3 [(2, .ref a), (0, .ref h), (1, .int (nI d))] := hl
      refine lv_aload_n hx hb dX1_changeAt_5 rfl (lv_at hl 0 rfl) ?_
      refine lv_ifnull hx hb dX1_changeAt_6 ?_
      refine lv_aload_n hx hb dX1_changeAt_9 rfl (lv_at hl 0 rfl) ?_
      refine zget (own := RX1) (ci := 0) (C := RX0) (T := TX0) (N := 4) hx hb hts (by decide +kernel) hown hE hP hat rfl 0 (by decide) (hts (.fieldLink RX1 24 "LinkResolver$Change" "day" "I") (by decide +kernel)) rfl dX1_changeAt_10 ?_
      refine lv_iload_n hx hb dX1_changeAt_13 rfl (lv_at hl 2 rfl) ?_
      refine lv_icmp_le (tgt := 25) hx hb dX1_changeAt_14 (by decide) (fun c_14 => ?_) (fun c_14 => ?_)
      · refine lv_aload_n hx hb dX1_changeAt_25 rfl (lv_at hl 0 rfl) ?_
        exact zrq (v := some a) hx hb hr hlocks dX1_changeAt_26 (by rw [← hdr, zDr, List.dropWhile_cons_of_neg (by rw [decide_eq_true_eq]; exact Nat.not_lt.mpr ((nI_leI (by omega) (by omega)).mp c_14))]; exact ⟨a, nx2, rfl, hat, hch2⟩)
      · refine lv_aload_n hx hb dX1_changeAt_17 rfl (lv_at hl 0 rfl) ?_
        refine zget (own := RX1) (ci := 0) (C := RX0) (T := TX0) (N := 4) hx hb hts (by decide +kernel) hown hE hP hat rfl 3 (by decide) (hts (.fieldLink RX1 27 "LinkResolver$Change" "before" "LLinkResolver$Change;") (by decide +kernel)) rfl dX1_changeAt_18 ?_
        refine zastore_n (lv' := [(2, va_rf nx2), (0, .ref h), (1, .int (nI d))]) hx hb dX1_changeAt_21 rfl hl (by decide) rfl (fun ls hl => ?_)
        refine lv_goto (tgt := 5) hx hb dX1_changeAt_22 (by decide) ?_
        refine ih nx2 ls (fun c hc => hok c (List.mem_cons_of_mem _ hc)) hch2 ?_ hl
        rw [← hdr, zDr, zDr, List.dropWhile_cons_of_pos (by rw [decide_eq_true_eq]; exact Nat.lt_of_not_le (fun q => c_14 ((nI_leI (by omega) (by omega)).mpr q)))]
  refine lv_aload_n hx hb dX1_changeAt_0 rfl (lv_at hl 0 rfl) ?_
  refine zget (own := RX1) (ci := 1) (C := RX1) (T := TX1) (N := 2) hx hb hts (by decide +kernel) hown hE hP hat0 rfl 0 (by decide) (hts (.fieldLink RX1 9 "LinkResolver$History" "newest" "LLinkResolver$Change;") (by decide +kernel)) rfl dX1_changeAt_1 ?_
  refine zastore_n (lv' := [(2, va_rf nx0), (0, .ref h), (1, .int (nI d))]) hx hb dX1_changeAt_4 rfl hl (by decide) rfl (fun ls hl => ?_)
  exact loop l0 nx0 ls hh.2 hch0 rfl hl

set_option maxHeartbeats 4000000 in
set_option maxRecDepth 100000 in
theorem c_isOnAt (l : Launch) (D : va_G) (ca : Nat → ClassId) (sa : Nat → Nat) (L : List Nat) (f : Nat → va_E) (h d b : Nat) (l0 : zLs) (hd : d ≤ 20000) (hh : zHist L f h b l0) : Met l yX1_isOnAt wsX1_isOnAt ({ frames := 2, cells := 0, slots := 0, locals := 80 }) (va_Pc [.ref h, .int (nI d)] (zPw D (va_pl L f) ca sa)) (vp_Si (fun r => r = bI (zOn d l0))) 0 0 (fun _ => False) := by
  refine Met.ofW (cc := cX1_isOnAt) (maxL := 3) (ret := (some .boolean)) (by decide) rfl ?_
  intro p e s m args below meth c s₁ B hml hv
  obtain ⟨rfl, hP, hE⟩ := hv
  have hx := B.exec
  have hb := B.bytes
  have hr := B.returns
  have hts := atoms_spec (ws := wsX1_isOnAt) B.pre
  have hown : s.vm.findClass RX1 = some m.cls := findClass_of_methodNamed B.named
  have hlocks := B.notSynchronized
  have hl := lv_entry ([.ref h, .int (nI d)]) (n := 3) (Nat.le_of_ble_eq_true rfl)
  rw [lg_entry_eq]
  generalize (lg_sl ([.ref h, .int (nI d)]) ++ List.replicate (3 - (lg_sl ([.ref h, .int (nI d)])).length) Slot.unset).toArray = ls at hl ⊢
  have hl : lv_has ls 3 [(0, .ref h), (1, .int (nI d))] := hl
  obtain ⟨nx0, hat0, hch0⟩ := hh.1
  refine lv_aload_n hx hb dX1_isOnAt_0 rfl (lv_at hl 0 rfl) ?_
  refine lv_iload_n hx hb dX1_isOnAt_1 rfl (lv_at hl 1 rfl) ?_
  refine zcqp (va_runV (As := [.int (nI d)]) (rest := []) ⟨hx, hb, hml, hown, hts⟩ (c_changeAt l D ca sa L f h d b l0 hd hh) (cwV 1 hts gX1_isOnAt_X1_changeAt rfl rfl rfl (by decide +kernel) ⟨Nat.le_of_ble_eq_true rfl, Nat.le_of_ble_eq_true rfl⟩) (zpVp hP hE (ci := 1) rfl hat0) rfl rfl hl.1 rfl (lv_room (Nat.le_of_ble_eq_true rfl)) dX1_isOnAt_2 ⟨Nat.le_of_ble_eq_true rfl, Nat.le_of_ble_eq_true rfl⟩) (fun r9 hr9 => ?_)
  cases e9 : zDr d l0 with
  | nil =>
    rw [e9] at hr9
    obtain rfl : r9 = none := hr9
    refine W.eq (g2 := F0 m 5 ls [.null]) rfl ?_
    refine lv_astore_nN (lv' := [(2, .null), (0, .ref h), (1, .int (nI d))]) hx hb dX1_isOnAt_5 rfl hl (by decide) rfl (fun ls hl => ?_)
    refine lv_aload_nN hx hb dX1_isOnAt_6 rfl (lv_at hl 0 rfl) ?_
    refine lv_ifnullN (tgt := 23) hx hb dX1_isOnAt_7 (by decide) ?_
    refine lv_iconst (v := nI 0) hx hb dX1_isOnAt_23 (by decide) ?_
    exact zrz hx hb hr hlocks dX1_isOnAt_24 rfl (by unfold zOn; rw [e9]; rfl)
  | cons c9 r =>
    rw [e9] at hr9
    obtain ⟨a, nx2, rfl, hat, hch2⟩ := hr9
    refine W.eq (g2 := F0 m 5 ls [.ref a]) rfl ?_
    refine lv_astore_n (lv' := [(2, .ref a), (0, .ref h), (1, .int (nI d))]) hx hb dX1_isOnAt_5 rfl hl (by decide) rfl (fun ls hl => ?_)
    refine lv_aload_n hx hb dX1_isOnAt_6 rfl (lv_at hl 0 rfl) ?_
    refine lv_ifnull hx hb dX1_isOnAt_7 ?_
    refine lv_aload_n hx hb dX1_isOnAt_10 rfl (lv_at hl 0 rfl) ?_
    refine zget (own := RX1) (ci := 0) (C := RX0) (T := TX0) (N := 4) hx hb hts (by decide +kernel) hown hE hP hat rfl 1 (by decide) (hts (.fieldLink RX1 34 "LinkResolver$Change" "years" "J") (by decide +kernel)) rfl dX1_isOnAt_11 ?_
    refine lv_lconst (v := 0) hx hb dX1_isOnAt_14 (by decide) ?_
    refine W.lcmp hx hb dX1_isOnAt_15 ?_
    refine lv_if_eq (tgt := 23) hx hb dX1_isOnAt_16 (by decide) (fun c_16 => ?_) (fun c_16 => ?_)
    · refine lv_iconst (v := nI 0) hx hb dX1_isOnAt_23 (by decide) ?_
      exact zrz hx hb hr hlocks dX1_isOnAt_24 rfl (by unfold zOn; rw [e9]; exact bI_f (fun q => q ((lg_cmp_eq _ _).mp c_16)))
    · refine lv_iconst (v := nI 1) hx hb dX1_isOnAt_19 (by decide) ?_
      refine lv_goto (tgt := 24) hx hb dX1_isOnAt_20 (by decide) ?_
      exact zrz hx hb hr hlocks dX1_isOnAt_24 rfl (by unfold zOn; rw [e9]; exact bI_t (fun q => c_16 ((lg_cmp_eq _ _).mpr q)))

set_option maxHeartbeats 4000000 in
set_option maxRecDepth 100000 in
theorem c_hOpen (l : Launch) (D : va_G) (ca : Nat → ClassId) (sa : Nat → Nat) (L : List Nat) (f : Nat → va_E) (h d b : Nat) (l0 : zLs) (hd : d ≤ 20000) (hh : zHist L f h b l0) : Met l yX1_yearsOpen wsX1_yearsOpen ({ frames := 2, cells := 0, slots := 0, locals := 80 }) (va_Pc [.ref h, .int (nI d)] (zPw D (va_pl L f) ca sa)) (vp_Sl (fun r => r = zOp d l0)) 0 0 (fun _ => False) := by
  refine Met.ofW (cc := cX1_yearsOpen) (maxL := 3) (ret := (some .long)) (by decide) rfl ?_
  intro p e s m args below meth c s₁ B hml hv
  obtain ⟨rfl, hP, hE⟩ := hv
  have hx := B.exec
  have hb := B.bytes
  have hr := B.returns
  have hts := atoms_spec (ws := wsX1_yearsOpen) B.pre
  have hown : s.vm.findClass RX1 = some m.cls := findClass_of_methodNamed B.named
  have hlocks := B.notSynchronized
  have hl := lv_entry ([.ref h, .int (nI d)]) (n := 3) (Nat.le_of_ble_eq_true rfl)
  rw [lg_entry_eq]
  generalize (lg_sl ([.ref h, .int (nI d)]) ++ List.replicate (3 - (lg_sl ([.ref h, .int (nI d)])).length) Slot.unset).toArray = ls at hl ⊢
  have hl : lv_has ls 3 [(0, .ref h), (1, .int (nI d))] := hl
  obtain ⟨nx0, hat0, hch0⟩ := hh.1
  refine lv_aload_n hx hb dX1_yearsOpen_0 rfl (lv_at hl 0 rfl) ?_
  refine lv_iload_n hx hb dX1_yearsOpen_1 rfl (lv_at hl 1 rfl) ?_
  refine zcqp (va_runV (As := [.int (nI d)]) (rest := []) ⟨hx, hb, hml, hown, hts⟩ (c_changeAt l D ca sa L f h d b l0 hd hh) (cwV 1 hts gX1_yearsOpen_X1_changeAt rfl rfl rfl (by decide +kernel) ⟨Nat.le_of_ble_eq_true rfl, Nat.le_of_ble_eq_true rfl⟩) (zpVp hP hE (ci := 1) rfl hat0) rfl rfl hl.1 rfl (lv_room (Nat.le_of_ble_eq_true rfl)) dX1_yearsOpen_2 ⟨Nat.le_of_ble_eq_true rfl, Nat.le_of_ble_eq_true rfl⟩) (fun r9 hr9 => ?_)
  cases e9 : zDr d l0 with
  | nil =>
    rw [e9] at hr9
    obtain rfl : r9 = none := hr9
    refine W.eq (g2 := F0 m 5 ls [.null]) rfl ?_
    refine lv_astore_nN (lv' := [(2, .null), (0, .ref h), (1, .int (nI d))]) hx hb dX1_yearsOpen_5 rfl hl (by decide) rfl (fun ls hl => ?_)
    refine lv_aload_nN hx hb dX1_yearsOpen_6 rfl (lv_at hl 0 rfl) ?_
    refine lv_ifnonnullN hx hb dX1_yearsOpen_7 ?_
    refine lv_lconst (v := 0) hx hb dX1_yearsOpen_10 (by decide) ?_
    refine lv_goto (tgt := 33) hx hb dX1_yearsOpen_11 (by decide) ?_
    exact zrl hx hb hr hlocks dX1_yearsOpen_33 (by unfold zOp; rw [e9])
  | cons c9 r =>
    rw [e9] at hr9
    obtain ⟨a, nx2, rfl, hat, hch2⟩ := hr9
    refine W.eq (g2 := F0 m 5 ls [.ref a]) rfl ?_
    refine lv_astore_n (lv' := [(2, .ref a), (0, .ref h), (1, .int (nI d))]) hx hb dX1_yearsOpen_5 rfl hl (by decide) rfl (fun ls hl => ?_)
    refine lv_aload_n hx hb dX1_yearsOpen_6 rfl (lv_at hl 0 rfl) ?_
    refine lv_ifnonnull (tgt := 14) hx hb dX1_yearsOpen_7 (by decide) ?_
    refine lv_aload_n hx hb dX1_yearsOpen_14 rfl (lv_at hl 0 rfl) ?_
    refine zget (own := RX1) (ci := 0) (C := RX0) (T := TX0) (N := 4) hx hb hts (by decide +kernel) hown hE hP hat rfl 1 (by decide) (hts (.fieldLink RX1 34 "LinkResolver$Change" "years" "J") (by decide +kernel)) rfl dX1_yearsOpen_15 ?_
    refine lv_iconst (v := nI 0) hx hb dX1_yearsOpen_18 (by decide) ?_
    refine lv_iload_n hx hb dX1_yearsOpen_19 rfl (lv_at hl 2 rfl) ?_
    refine lv_sipush (v := nI 360) hx hb dX1_yearsOpen_20 (by decide) ?_
    refine lv_idiv hx hb dX1_yearsOpen_23 z360 ?_
    refine zasi (show ((nI d) / (nI 360)) = nI (d / 360) from zdiv hd) ?_
    refine lv_aload_n hx hb dX1_yearsOpen_24 rfl (lv_at hl 0 rfl) ?_
    refine zget (own := RX1) (ci := 0) (C := RX0) (T := TX0) (N := 4) hx hb hts (by decide +kernel) hown hE hP hat rfl 2 (by decide) (hts (.fieldLink RX1 38 "LinkResolver$Change" "wall" "I") (by decide +kernel)) rfl dX1_yearsOpen_25 ?_
    refine lv_isub hx hb dX1_yearsOpen_28 ?_
    refine zcl (va_runSN (host := "LinkResolver") (As := [.int (nI 0), .int ((nI (d / 360)) - (nI c9.2.2))]) (rest := [.long c9.2.1]) ⟨hx, hb, hml, hown, hts⟩ (c_yearsBetween l D ca sa _ ((nI 0)) (((nI (d / 360)) - (nI c9.2.2)))) ⟨va_cnB 2 hts gX1_yearsOpen_X4_yearsBetween_n41 rfl rfl rfl hE.2.1.1 (hts (.initialized RX4) (by decide +kernel)) (by decide +kernel) ⟨Nat.le_of_ble_eq_true rfl, Nat.le_of_ble_eq_true rfl⟩, hts (.static yX4_yearsBetween) (by decide +kernel), trivial⟩ (zpS hP hE) rfl rfl hl.1 rfl (lv_room (Nat.le_of_ble_eq_true rfl)) dX1_yearsOpen_29 ⟨Nat.le_of_ble_eq_true rfl, Nat.le_of_ble_eq_true rfl⟩) ?_
    refine lv_land hx hb dX1_yearsOpen_32 ?_
    exact zrl hx hb hr hlocks dX1_yearsOpen_33 (by unfold zOp; rw [e9])

set_option maxHeartbeats 4000000 in
set_option maxRecDepth 100000 in
theorem c_hKept (l : Launch) (D : va_G) (ca : Nat → ClassId) (sa : Nat → Nat) (L : List Nat) (f : Nat → va_E) (h d b : Nat) (l0 : zLs) (hd : d ≤ 20000) (hh : zHist L f h b l0) : Met l yX1_yearsKept wsX1_yearsKept ({ frames := 2, cells := 0, slots := 0, locals := 80 }) (va_Pc [.ref h, .int (nI d)] (zPw D (va_pl L f) ca sa)) (vp_Sl (fun r => r = zKe d d 0 l0)) 0 0 (fun _ => False) := by
  refine Met.ofW (cc := cX1_yearsKept) (maxL := 10) (ret := (some .long)) (by decide) rfl ?_
  intro p e s m args below meth c s₁ B hml hv
  obtain ⟨rfl, hP, hE⟩ := hv
  have hx := B.exec
  have hb := B.bytes
  have hr := B.returns
  have hts := atoms_spec (ws := wsX1_yearsKept) B.pre
  have hown : s.vm.findClass RX1 = some m.cls := findClass_of_methodNamed B.named
  have hlocks := B.notSynchronized
  have hl := lv_entry ([.ref h, .int (nI d)]) (n := 10) (Nat.le_of_ble_eq_true rfl)
  rw [lg_entry_eq]
  generalize (lg_sl ([.ref h, .int (nI d)]) ++ List.replicate (10 - (lg_sl ([.ref h, .int (nI d)])).length) Slot.unset).toArray = ls at hl ⊢
  have hl : lv_has ls 10 [(0, .ref h), (1, .int (nI d))] := hl
  obtain ⟨nx0, hat0, hch0⟩ := hh.1
  have loop : ∀ (l1 : zLs) (nx : Option Nat) (u : Nat) (acc : Int64) (ls : Array Slot), u ≤ 20000 → zOk l1 → zCh L f nx l1 → zKe d u acc l1 = zKe d d 0 l0 → lv_has ls 10 [(6, va_rf nx), (4, .long acc), (3, .int (nI u)), (2, .int (nI (d / 360))), (0, .ref h), (1, .int (nI d))] → W p l e (headSpec wsX1_yearsKept ({ frames := 2, cells := 0, slots := 0, locals := 80 })).room s m ([.ref h, .int (nI d)] : List Value).toArray below meth c s.heap [] 0 0 (MQ below (vp_Sl (fun r => r = zKe d d 0 l0)) ([.ref h, .int (nI d)] : List Value).toArray s 0 0 (fun _ => False)) (F0 m 17 ls []) := by
    intro l1
    induction l1 with
    | nil =>
      intro nx u acc ls hu hok hch hdr hl
      obtain rfl : nx = none := hch
      have hl : lv_has ls 10 [(6, .null), (4, .long acc), (3, .int (nI u)), (2, .int (nI (d / 360))), (0, .ref h), (1, .int (nI d))] := hl
      refine lv_aloadN hx hb dX1_yearsKept_17 (lv_at hl 0 rfl) ?_
      refine lv_ifnullN (tgt := 94) hx hb dX1_yearsKept_19 (by decide) ?_
      refine lv_lload hx hb dX1_yearsKept_94 (lv_at hl 1 rfl) ?_
      exact zrl hx hb hr hlocks dX1_yearsKept_96 (hdr)
    | cons c9 r ih =>
      intro nx u acc ls hu hok hch hdr hl
      obtain ⟨a, nx2, rfl, hat, hch2⟩ := hch
      have hk := hok c9 List.mem_cons_self
      have hl : lv_has ls 10 [(6, .ref a), (4, .long acc), (3, .int (nI u)), (2, .int (nI (d / 360))), (0, .ref h), (1, .int (nI d))] := hl
      refine lv_aload hx hb dX1_yearsKept_17 (lv_at hl 0 rfl) ?_
      refine lv_ifnull hx hb dX1_yearsKept_19 ?_
      refine lv_aload hx hb dX1_yearsKept_22 (lv_at hl 0 rfl) ?_
      refine zget (own := RX1) (ci := 0) (C := RX0) (T := TX0) (N := 4) hx hb hts (by decide +kernel) hown hE hP hat rfl 0 (by decide) (hts (.fieldLink RX1 24 "LinkResolver$Change" "day" "I") (by decide +kernel)) rfl dX1_yearsKept_24 ?_
      refine lv_sipush (v := nI 360) hx hb dX1_yearsKept_27 (by decide) ?_
      refine lv_idiv hx hb dX1_yearsKept_30 z360 ?_
      refine zasi (show ((nI c9.1) / (nI 360)) = nI (c9.1 / 360) from zdiv hk.1) ?_
      refine lv_istore (lv' := [(7, .int (nI (c9.1 / 360))), (6, .ref a), (4, .long acc), (3, .int (nI u)), (2, .int (nI (d / 360))), (0, .ref h), (1, .int (nI d))]) hx hb dX1_yearsKept_31 hl (by decide) rfl (fun ls hl => ?_)
      refine lv_iload_n hx hb dX1_yearsKept_33 rfl (lv_at hl 3 rfl) ?_
      refine lv_sipush (v := nI 360) hx hb dX1_yearsKept_34 (by decide) ?_
      refine lv_idiv hx hb dX1_yearsKept_37 z360 ?_
      refine zasi (show ((nI u) / (nI 360)) = nI (u / 360) from zdiv hu) ?_
      refine lv_iconst (v := nI 1) hx hb dX1_yearsKept_38 (by decide) ?_
      refine lv_isub hx hb dX1_yearsKept_39 ?_
      refine lv_istore (lv' := [(8, .int ((nI (u / 360)) - (nI 1))), (7, .int (nI (c9.1 / 360))), (6, .ref a), (4, .long acc), (3, .int (nI u)), (2, .int (nI (d / 360))), (0, .ref h), (1, .int (nI d))]) hx hb dX1_yearsKept_40 hl (by decide) rfl (fun ls hl => ?_)
      refine lv_iload_n hx hb dX1_yearsKept_42 rfl (lv_at hl 5 rfl) ?_
      refine lv_aload hx hb dX1_yearsKept_43 (lv_at hl 2 rfl) ?_
      refine zget (own := RX1) (ci := 0) (C := RX0) (T := TX0) (N := 4) hx hb hts (by decide +kernel) hown hE hP hat rfl 2 (by decide) (hts (.fieldLink RX1 38 "LinkResolver$Change" "wall" "I") (by decide +kernel)) rfl dX1_yearsKept_45 ?_
      refine lv_isub hx hb dX1_yearsKept_48 ?_
      refine lv_istore (lv' := [(9, .int ((nI (d / 360)) - (nI c9.2.2))), (8, .int ((nI (u / 360)) - (nI 1))), (7, .int (nI (c9.1 / 360))), (6, .ref a), (4, .long acc), (3, .int (nI u)), (2, .int (nI (d / 360))), (0, .ref h), (1, .int (nI d))]) hx hb dX1_yearsKept_49 hl (by decide) rfl (fun ls hl => ?_)
      refine lv_lload hx hb dX1_yearsKept_51 (lv_at hl 4 rfl) ?_
      refine lv_aload hx hb dX1_yearsKept_53 (lv_at hl 3 rfl) ?_
      refine zget (own := RX1) (ci := 0) (C := RX0) (T := TX0) (N := 4) hx hb hts (by decide +kernel) hown hE hP hat rfl 1 (by decide) (hts (.fieldLink RX1 34 "LinkResolver$Change" "years" "J") (by decide +kernel)) rfl dX1_yearsKept_55 ?_
      refine lv_iload hx hb dX1_yearsKept_58 (lv_at hl 2 rfl) ?_
      refine lv_iload hx hb dX1_yearsKept_60 (lv_at hl 1 rfl) ?_
      refine lv_iload hx hb dX1_yearsKept_62 (lv_at hl 0 rfl) ?_
      refine va_mmin hx hb (hml.trans hl.1.symm) hown (hts (.methodLink RX1 45 yJ9_min_7cf53) (by decide +kernel)) (hts (.static yJ9_min_7cf53) (by decide +kernel)) (hts (.initialized "java/lang/Math") (by decide +kernel)) (hts (.code yJ9_min_7cf53 cJ9_min_7cf53 2 (some .int)) (by decide +kernel)) (Nat.le_of_ble_eq_true rfl) (Nat.le_of_ble_eq_true rfl) (Nat.le_of_ble_eq_true rfl) (Nat.le_of_ble_eq_true rfl) dX1_yearsKept_64 ?_
      refine zcl (va_runSN (host := "LinkResolver") (As := [.int (nI (c9.1 / 360)), .int (if ((nI (d / 360)) - (nI c9.2.2)) < ((nI (u / 360)) - (nI 1)) then ((nI (d / 360)) - (nI c9.2.2)) else ((nI (u / 360)) - (nI 1)))]) (rest := [.long c9.2.1, .long acc]) ⟨hx, hb, hml, hown, hts⟩ (c_yearsBetween l D ca sa _ ((nI (c9.1 / 360))) ((if ((nI (d / 360)) - (nI c9.2.2)) < ((nI (u / 360)) - (nI 1)) then ((nI (d / 360)) - (nI c9.2.2)) else ((nI (u / 360)) - (nI 1))))) ⟨va_cnB 2 hts gX1_yearsKept_X4_yearsBetween_n41 rfl rfl rfl hE.2.1.1 (hts (.initialized RX4) (by decide +kernel)) (by decide +kernel) ⟨Nat.le_of_ble_eq_true rfl, Nat.le_of_ble_eq_true rfl⟩, hts (.static yX4_yearsBetween) (by decide +kernel), trivial⟩ (zpS hP hE) rfl rfl hl.1 rfl (lv_room (Nat.le_of_ble_eq_true rfl)) dX1_yearsKept_67 ⟨Nat.le_of_ble_eq_true rfl, Nat.le_of_ble_eq_true rfl⟩) ?_
      refine lv_land hx hb dX1_yearsKept_70 ?_
      refine lv_lor hx hb dX1_yearsKept_71 ?_
      refine lv_lstore (lv' := [(4, .long (acc ||| (c9.2.1 &&& (yB ((nI (c9.1 / 360))) ((if ((nI (d / 360)) - (nI c9.2.2)) < ((nI (u / 360)) - (nI 1)) then ((nI (d / 360)) - (nI c9.2.2)) else ((nI (u / 360)) - (nI 1)))))))), (9, .int ((nI (d / 360)) - (nI c9.2.2))), (8, .int ((nI (u / 360)) - (nI 1))), (7, .int (nI (c9.1 / 360))), (6, .ref a), (3, .int (nI u)), (2, .int (nI (d / 360))), (0, .ref h), (1, .int (nI d))]) hx hb dX1_yearsKept_72 hl (by decide) rfl (fun ls hl => ?_)
      refine lv_iload_n hx hb dX1_yearsKept_74 rfl (lv_at hl 5 rfl) ?_
      refine lv_aload hx hb dX1_yearsKept_75 (lv_at hl 4 rfl) ?_
      refine zget (own := RX1) (ci := 0) (C := RX0) (T := TX0) (N := 4) hx hb hts (by decide +kernel) hown hE hP hat rfl 0 (by decide) (hts (.fieldLink RX1 24 "LinkResolver$Change" "day" "I") (by decide +kernel)) rfl dX1_yearsKept_77 ?_
      refine va_mmin hx hb (hml.trans hl.1.symm) hown (hts (.methodLink RX1 45 yJ9_min_7cf53) (by decide +kernel)) (hts (.static yJ9_min_7cf53) (by decide +kernel)) (hts (.initialized "java/lang/Math") (by decide +kernel)) (hts (.code yJ9_min_7cf53 cJ9_min_7cf53 2 (some .int)) (by decide +kernel)) (Nat.le_of_ble_eq_true rfl) (Nat.le_of_ble_eq_true rfl) (Nat.le_of_ble_eq_true rfl) (Nat.le_of_ble_eq_true rfl) dX1_yearsKept_80 ?_
      refine zasi (show (if (nI c9.1) < (nI u) then (nI c9.1) else (nI u)) = nI (min u c9.1) from zmin (by omega) (by omega)) ?_
      refine lv_istore_n (lv' := [(3, .int (nI (min u c9.1))), (4, .long (acc ||| (c9.2.1 &&& (yB ((nI (c9.1 / 360))) ((if ((nI (d / 360)) - (nI c9.2.2)) < ((nI (u / 360)) - (nI 1)) then ((nI (d / 360)) - (nI c9.2.2)) else ((nI (u / 360)) - (nI 1)))))))), (9, .int ((nI (d / 360)) - (nI c9.2.2))), (8, .int ((nI (u / 360)) - (nI 1))), (7, .int (nI (c9.1 / 360))), (6, .ref a), (2, .int (nI (d / 360))), (0, .ref h), (1, .int (nI d))]) hx hb dX1_yearsKept_83 rfl hl (by decide) rfl (fun ls hl => ?_)
      refine lv_aload hx hb dX1_yearsKept_84 (lv_at hl 5 rfl) ?_
      refine zget (own := RX1) (ci := 0) (C := RX0) (T := TX0) (N := 4) hx hb hts (by decide +kernel) hown hE hP hat rfl 3 (by decide) (hts (.fieldLink RX1 27 "LinkResolver$Change" "before" "LLinkResolver$Change;") (by decide +kernel)) rfl dX1_yearsKept_86 ?_
      refine zastore (lv' := [(6, va_rf nx2), (3, .int (nI (min u c9.1))), (4, .long (acc ||| (c9.2.1 &&& (yB ((nI (c9.1 / 360))) ((if ((nI (d / 360)) - (nI c9.2.2)) < ((nI (u / 360)) - (nI 1)) then ((nI (d / 360)) - (nI c9.2.2)) else ((nI (u / 360)) - (nI 1)))))))), (9, .int ((nI (d / 360)) - (nI c9.2.2))), (8, .int ((nI (u / 360)) - (nI 1))), (7, .int (nI (c9.1 / 360))), (2, .int (nI (d / 360))), (0, .ref h), (1, .int (nI d))]) hx hb dX1_yearsKept_89 hl (by decide) rfl (fun ls hl => ?_)
      refine lv_goto (tgt := 17) hx hb dX1_yearsKept_91 (by decide) ?_
      exact ih nx2 (min u c9.1) _ ls (by omega) (fun c hc => hok c (List.mem_cons_of_mem _ hc)) hch2 hdr (lv_sub hl [0, 2, 1, 6, 7, 8] rfl)
  refine lv_iload_n hx hb dX1_yearsKept_0 rfl (lv_at hl 1 rfl) ?_
  refine lv_sipush (v := nI 360) hx hb dX1_yearsKept_1 (by decide) ?_
  refine lv_idiv hx hb dX1_yearsKept_4 z360 ?_
  refine zasi (show ((nI d) / (nI 360)) = nI (d / 360) from zdiv hd) ?_
  refine lv_istore_n (lv' := [(2, .int (nI (d / 360))), (0, .ref h), (1, .int (nI d))]) hx hb dX1_yearsKept_5 rfl hl (by decide) rfl (fun ls hl => ?_)
  refine lv_iload_n hx hb dX1_yearsKept_6 rfl (lv_at hl 2 rfl) ?_
  refine lv_istore_n (lv' := [(3, .int (nI d)), (2, .int (nI (d / 360))), (0, .ref h), (1, .int (nI d))]) hx hb dX1_yearsKept_7 rfl hl (by decide) rfl (fun ls hl => ?_)
  refine lv_lconst (v := 0) hx hb dX1_yearsKept_8 (by decide) ?_
  refine lv_lstore (lv' := [(4, .long 0), (3, .int (nI d)), (2, .int (nI (d / 360))), (0, .ref h), (1, .int (nI d))]) hx hb dX1_yearsKept_9 hl (by decide) rfl (fun ls hl => ?_)
  refine lv_aload_n hx hb dX1_yearsKept_11 rfl (lv_at hl 3 rfl) ?_
  refine zget (own := RX1) (ci := 1) (C := RX1) (T := TX1) (N := 2) hx hb hts (by decide +kernel) hown hE hP hat0 rfl 0 (by decide) (hts (.fieldLink RX1 9 "LinkResolver$History" "newest" "LLinkResolver$Change;") (by decide +kernel)) rfl dX1_yearsKept_12 ?_
  refine zastore (lv' := [(6, va_rf nx0), (4, .long 0), (3, .int (nI d)), (2, .int (nI (d / 360))), (0, .ref h), (1, .int (nI d))]) hx hb dX1_yearsKept_15 hl (by decide) rfl (fun ls hl => ?_)
  exact loop l0 nx0 d 0 ls hd hh.2 hch0 rfl (lv_sub hl [0, 1, 2, 3, 4, 5] rfl)
end
section
/-! packages: their fields, the row of their titles' stays, and what they cover -/
def zlb (G k : Nat) : Bool := G.testBit k
theorem zlb_iff : ∀ G : Fin 16, ∀ k : Fin 4, ((nI G.val >>> (nI k.val &&& 31)) &&& nI 1 = nI 1) ↔ zlb G.val k.val = true := by decide +kernel
theorem zlb_if {G k : Nat} (hG : G ≤ 15) (hk : k ≤ 3) : ((nI G >>> (nI k &&& 31)) &&& nI 1 = nI 1) ↔ zlb G k = true := zlb_iff ⟨G, by omega⟩ ⟨k, by omega⟩
theorem bI_is {b : Bool} (h : b = true) : nI 1 = bI b := by rw [h]; rfl
theorem bI_no {b : Bool} (h : ¬ b = true) : nI 0 = bI b := by cases b with | false => rfl | true => exact absurd rfl h
def zPack (L : List Nat) (f : Nat → va_E) (ca : Nat → ClassId) (q : Nat) (P : Nat × Nat × Nat × Nat) (hs sA : Nat) (hA : Nat → Nat) : Prop := (zat L f q (.inr (2, [.int (nI P.1), .int (nI P.2.1), .int (nI P.2.2.1), .int (nI P.2.2.2), .ref hs, .ref sA])) ∧ P.1 ≤ 1000 ∧ P.2.1 ≤ 2 ∧ P.2.2.1 ≤ 15 ∧ P.2.2.2 ≤ 1) ∧ ∃ g : Nat → Option Nat, zat L f sA (.inl (ca 2, 20, .inr (.inr (.inr (.inr g))))) ∧ ∀ t, t < 20 → g t = some (hA t)
def zPK (k d : Nat) (lT lS : zLs) : Int64 := if k = 0 then 0 else zKe d d 0 lT &&& zKe d d 0 lS
def zPC (k d : Nat) (lT lS : zLs) : Int64 := (zOp d lT &&& zOp d lS) ||| zPK k d lT lS
def zWy (P : Nat × Nat × Nat × Nat) (d g y : Nat) (lT lS : zLs) : Bool := zlb P.2.2.1 g && hY (zPC P.2.2.2 d lT lS) (nI y)

set_option maxHeartbeats 4000000 in
set_option maxRecDepth 100000 in
theorem c_stayOf (l : Launch) (D : va_G) (ca : Nat → ClassId) (sa : Nat → Nat) (L : List Nat) (f : Nat → va_E) (q : Nat) (P : Nat × Nat × Nat × Nat) (hs sA : Nat) (hA : Nat → Nat) (hp : zPack L f ca q P hs sA hA) (t : Nat) (ht : t < 20) : Met l yX2_stayOf wsX2_stayOf ({ frames := 1, cells := 0, slots := 0, locals := 40 }) (va_Pc [.ref q, .int (nI t)] (zPw D (va_pl L f) ca sa)) (va_Sq (fun r => r = some (hA t))) 0 0 (fun _ => False) := by
  refine Met.ofW (cc := cX2_stayOf) (maxL := 2) (ret := (some (.object "LinkResolver$History"))) (by decide) rfl ?_
  intro p e s m args below meth c s₁ B hml hv
  obtain ⟨rfl, hP, hE⟩ := hv
  have hx := B.exec
  have hb := B.bytes
  have hr := B.returns
  have hts := atoms_spec (ws := wsX2_stayOf) B.pre
  have hown : s.vm.findClass RX2 = some m.cls := findClass_of_methodNamed B.named
  have hlocks := B.notSynchronized
  have hl := lv_entry ([.ref q, .int (nI t)]) (n := 2) (Nat.le_of_ble_eq_true rfl)
  rw [lg_entry_eq]
  generalize (lg_sl ([.ref q, .int (nI t)]) ++ List.replicate (2 - (lg_sl ([.ref q, .int (nI t)])).length) Slot.unset).toArray = ls at hl ⊢
  have hl : lv_has ls 2 [(0, .ref q), (1, .int (nI t))] := hl
  obtain ⟨⟨hq, hP1, hP2, hP3, hP4⟩, g0, hg, hgt⟩ := id hp
  refine lv_iload_n hx hb dX2_stayOf_0 rfl (lv_at hl 1 rfl) ?_
  refine lv_if_lt (tgt := 22) hx hb dX2_stayOf_1 (by decide) (fun c_1 => ?_) (fun c_1 => ?_)
  · exact absurd c_1 (nI_pos (by omega))
  · refine lv_iload_n hx hb dX2_stayOf_4 rfl (lv_at hl 1 rfl) ?_
    refine lv_aload_n hx hb dX2_stayOf_5 rfl (lv_at hl 0 rfl) ?_
    refine zget (own := RX2) (ci := 2) (C := RX2) (T := TX2) (N := 6) hx hb hts (by decide +kernel) hown hE hP hq rfl 5 (by decide) (hts (.fieldLink RX2 32 "LinkResolver$Pack" "stays" "[LLinkResolver$History;") (by decide +kernel)) rfl dX2_stayOf_6 ?_
    refine zalen hx hb hE hP 2 hg rfl (n := 20) rfl dX2_stayOf_9 ?_
    refine lv_icmp_ge (tgt := 22) hx hb dX2_stayOf_10 (by decide) (fun c_10 => ?_) (fun c_10 => ?_)
    · exact absurd ((nI_leI (by omega) (by omega)).mp c_10) (by omega)
    · refine lv_aload_n hx hb dX2_stayOf_13 rfl (lv_at hl 0 rfl) ?_
      refine zget (own := RX2) (ci := 2) (C := RX2) (T := TX2) (N := 6) hx hb hts (by decide +kernel) hown hE hP hq rfl 5 (by decide) (hts (.fieldLink RX2 32 "LinkResolver$Pack" "stays" "[LLinkResolver$History;") (by decide +kernel)) rfl dX2_stayOf_14 ?_
      refine lv_iload_n hx hb dX2_stayOf_17 rfl (lv_at hl 1 rfl) ?_
      refine zaldq hx hb hE hP 2 hg rfl ht (by decide) dX2_stayOf_18 ?_
      refine zasv (show va_rf (g0 t) = .ref (hA t) from by rw [hgt t ht]; rfl) ?_
      refine lv_ifnonnull (tgt := 32) hx hb dX2_stayOf_19 (by decide) ?_
      refine lv_aload_n hx hb dX2_stayOf_32 rfl (lv_at hl 0 rfl) ?_
      refine zget (own := RX2) (ci := 2) (C := RX2) (T := TX2) (N := 6) hx hb hts (by decide +kernel) hown hE hP hq rfl 5 (by decide) (hts (.fieldLink RX2 32 "LinkResolver$Pack" "stays" "[LLinkResolver$History;") (by decide +kernel)) rfl dX2_stayOf_33 ?_
      refine lv_iload_n hx hb dX2_stayOf_36 rfl (lv_at hl 1 rfl) ?_
      refine zaldq hx hb hE hP 2 hg rfl ht (by decide) dX2_stayOf_37 ?_
      refine zasv (show va_rf (g0 t) = .ref (hA t) from by rw [hgt t ht]; rfl) ?_
      exact zrq (v := some (hA t)) hx hb hr hlocks dX2_stayOf_38 (rfl)

set_option maxHeartbeats 4000000 in
set_option maxRecDepth 100000 in
theorem c_letsIn (l : Launch) (D : va_G) (ca : Nat → ClassId) (sa : Nat → Nat) (L : List Nat) (f : Nat → va_E) (q : Nat) (P : Nat × Nat × Nat × Nat) (hs sA : Nat) (hA : Nat → Nat) (hp : zPack L f ca q P hs sA hA) (g : Nat) (hg4 : g ≤ 3) : Met l yX2_letsIn wsX2_letsIn ({ frames := 1, cells := 0, slots := 0, locals := 40 }) (va_Pc [.ref q, .int (nI g)] (zPw D (va_pl L f) ca sa)) (vp_Si (fun r => r = bI (zlb P.2.2.1 g))) 0 0 (fun _ => False) := by
  refine Met.ofW (cc := cX2_letsIn) (maxL := 2) (ret := (some .boolean)) (by decide) rfl ?_
  intro p e s m args below meth c s₁ B hml hv
  obtain ⟨rfl, hP, hE⟩ := hv
  have hx := B.exec
  have hb := B.bytes
  have hr := B.returns
  have hts := atoms_spec (ws := wsX2_letsIn) B.pre
  have hown : s.vm.findClass RX2 = some m.cls := findClass_of_methodNamed B.named
  have hlocks := B.notSynchronized
  have hl := lv_entry ([.ref q, .int (nI g)]) (n := 2) (Nat.le_of_ble_eq_true rfl)
  rw [lg_entry_eq]
  generalize (lg_sl ([.ref q, .int (nI g)]) ++ List.replicate (2 - (lg_sl ([.ref q, .int (nI g)])).length) Slot.unset).toArray = ls at hl ⊢
  have hl : lv_has ls 2 [(0, .ref q), (1, .int (nI g))] := hl
  obtain ⟨⟨hq, hP1, hP2, hP3, hP4⟩, g0, hg, hgt⟩ := id hp
  refine lv_aload_n hx hb dX2_letsIn_0 rfl (lv_at hl 0 rfl) ?_
  refine zget (own := RX2) (ci := 2) (C := RX2) (T := TX2) (N := 6) hx hb hts (by decide +kernel) hown hE hP hq rfl 2 (by decide) (hts (.fieldLink RX2 18 "LinkResolver$Pack" "groups" "I") (by decide +kernel)) rfl dX2_letsIn_1 ?_
  refine lv_iload_n hx hb dX2_letsIn_4 rfl (lv_at hl 1 rfl) ?_
  refine lv_ishr hx hb dX2_letsIn_5 ?_
  refine lv_iconst (v := nI 1) hx hb dX2_letsIn_6 (by decide) ?_
  refine lv_iand hx hb dX2_letsIn_7 ?_
  refine lv_iconst (v := nI 1) hx hb dX2_letsIn_8 (by decide) ?_
  refine lv_icmp_ne (tgt := 16) hx hb dX2_letsIn_9 (by decide) (fun c_9 => ?_) (fun c_9 => ?_)
  · refine lv_iconst (v := nI 0) hx hb dX2_letsIn_16 (by decide) ?_
    exact zrz hx hb hr hlocks dX2_letsIn_17 rfl (bI_no (fun q9 => c_9 ((zlb_if hP3 hg4).mpr q9)))
  · refine lv_iconst (v := nI 1) hx hb dX2_letsIn_12 (by decide) ?_
    refine lv_goto (tgt := 17) hx hb dX2_letsIn_13 (by decide) ?_
    exact zrz hx hb hr hlocks dX2_letsIn_17 rfl (bI_is ((zlb_if hP3 hg4).mp c_9))

set_option maxHeartbeats 4000000 in
set_option maxRecDepth 100000 in
theorem c_isBroken (l : Launch) (D : va_G) (ca : Nat → ClassId) (sa : Nat → Nat) (L : List Nat) (f : Nat → va_E) (q : Nat) (P : Nat × Nat × Nat × Nat) (hs sA : Nat) (hA : Nat → Nat) (hp : zPack L f ca q P hs sA hA) (t b : Nat) (ht : t < 20) (lT : zLs) (hT : zHist L f (hA t) b lT) (hb9 : b ≤ 1000) : Met l yX2_isBroken wsX2_isBroken ({ frames := 2, cells := 0, slots := 0, locals := 80 }) (va_Pc [.ref q, .int (nI t)] (zPw D (va_pl L f) ca sa)) (vp_Si (fun r => r = bI (decide (2 ≤ b)))) 0 0 (fun _ => False) := by
  refine Met.ofW (cc := cX2_isBroken) (maxL := 2) (ret := (some .boolean)) (by decide) rfl ?_
  intro p e s m args below meth c s₁ B hml hv
  obtain ⟨rfl, hP, hE⟩ := hv
  have hx := B.exec
  have hb := B.bytes
  have hr := B.returns
  have hts := atoms_spec (ws := wsX2_isBroken) B.pre
  have hown : s.vm.findClass RX2 = some m.cls := findClass_of_methodNamed B.named
  have hlocks := B.notSynchronized
  have hl := lv_entry ([.ref q, .int (nI t)]) (n := 2) (Nat.le_of_ble_eq_true rfl)
  rw [lg_entry_eq]
  generalize (lg_sl ([.ref q, .int (nI t)]) ++ List.replicate (2 - (lg_sl ([.ref q, .int (nI t)])).length) Slot.unset).toArray = ls at hl ⊢
  have hl : lv_has ls 2 [(0, .ref q), (1, .int (nI t))] := hl
  obtain ⟨⟨hq, hP1, hP2, hP3, hP4⟩, g0, hg, hgt⟩ := id hp
  obtain ⟨nx0, hat0, hch0⟩ := hT.1
  refine lv_aload_n hx hb dX2_isBroken_0 rfl (lv_at hl 0 rfl) ?_
  refine lv_iload_n hx hb dX2_isBroken_1 rfl (lv_at hl 1 rfl) ?_
  refine zcq (va_runV (As := [.int (nI t)]) (rest := []) ⟨hx, hb, hml, hown, hts⟩ (c_stayOf l D ca sa L f q P hs sA hA hp t ht) (cwV 1 hts gX2_isBroken_X2_stayOf rfl rfl rfl (by decide +kernel) ⟨Nat.le_of_ble_eq_true rfl, Nat.le_of_ble_eq_true rfl⟩) (zpVp hP hE (ci := 2) rfl hq) rfl rfl hl.1 rfl (lv_room (Nat.le_of_ble_eq_true rfl)) dX2_isBroken_2 ⟨Nat.le_of_ble_eq_true rfl, Nat.le_of_ble_eq_true rfl⟩) ?_
  refine W.eq (g2 := F0 m 5 ls [.ref (hA t)]) rfl ?_
  refine zget (own := RX2) (ci := 1) (C := RX1) (T := TX1) (N := 2) hx hb hts (by decide +kernel) hown hE hP hat0 rfl 1 (by decide) (hts (.fieldLink RX2 47 "LinkResolver$History" "breaks" "I") (by decide +kernel)) rfl dX2_isBroken_5 ?_
  refine lv_iconst (v := nI 2) hx hb dX2_isBroken_8 (by decide) ?_
  refine lv_icmp_lt (tgt := 16) hx hb dX2_isBroken_9 (by decide) (fun c_9 => ?_) (fun c_9 => ?_)
  · refine lv_iconst (v := nI 0) hx hb dX2_isBroken_16 (by decide) ?_
    exact zrz hx hb hr hlocks dX2_isBroken_17 rfl (bI_f (fun q9 => absurd ((nI_ltI (by omega) (by omega)).mp c_9) (by omega)))
  · refine lv_iconst (v := nI 1) hx hb dX2_isBroken_12 (by decide) ?_
    refine lv_goto (tgt := 17) hx hb dX2_isBroken_13 (by decide) ?_
    exact zrz hx hb hr hlocks dX2_isBroken_17 rfl (bI_t (Nat.le_of_not_lt (fun q9 => c_9 ((nI_ltI (by omega) (by omega)).mpr q9))))

set_option maxHeartbeats 4000000 in
set_option maxRecDepth 100000 in
theorem c_pOpen (l : Launch) (D : va_G) (ca : Nat → ClassId) (sa : Nat → Nat) (L : List Nat) (f : Nat → va_E) (q : Nat) (P : Nat × Nat × Nat × Nat) (hs sA : Nat) (hA : Nat → Nat) (hp : zPack L f ca q P hs sA hA) (t b : Nat) (ht : t < 20) (lT : zLs) (hT : zHist L f (hA t) b lT) (bs : Nat) (lS : zLs) (hSb : zHist L f hs bs lS) (d : Nat) (hd : d ≤ 20000) : Met l yX2_yearsOpen wsX2_yearsOpen ({ frames := 3, cells := 0, slots := 0, locals := 120 }) (va_Pc [.ref q, .int (nI t), .int (nI d)] (zPw D (va_pl L f) ca sa)) (vp_Sl (fun r => r = zOp d lT &&& zOp d lS)) 0 0 (fun _ => False) := by
  refine Met.ofW (cc := cX2_yearsOpen) (maxL := 3) (ret := (some .long)) (by decide) rfl ?_
  intro p e s m args below meth c s₁ B hml hv
  obtain ⟨rfl, hP, hE⟩ := hv
  have hx := B.exec
  have hb := B.bytes
  have hr := B.returns
  have hts := atoms_spec (ws := wsX2_yearsOpen) B.pre
  have hown : s.vm.findClass RX2 = some m.cls := findClass_of_methodNamed B.named
  have hlocks := B.notSynchronized
  have hl := lv_entry ([.ref q, .int (nI t), .int (nI d)]) (n := 3) (Nat.le_of_ble_eq_true rfl)
  rw [lg_entry_eq]
  generalize (lg_sl ([.ref q, .int (nI t), .int (nI d)]) ++ List.replicate (3 - (lg_sl ([.ref q, .int (nI t), .int (nI d)])).length) Slot.unset).toArray = ls at hl ⊢
  have hl : lv_has ls 3 [(0, .ref q), (1, .int (nI t)), (2, .int (nI d))] := hl
  obtain ⟨⟨hq, hP1, hP2, hP3, hP4⟩, g0, hg, hgt⟩ := id hp
  obtain ⟨nx0, hat0, hch0⟩ := hT.1
  obtain ⟨nx1, hat1, hch1⟩ := hSb.1
  refine lv_aload_n hx hb dX2_yearsOpen_0 rfl (lv_at hl 0 rfl) ?_
  refine lv_iload_n hx hb dX2_yearsOpen_1 rfl (lv_at hl 1 rfl) ?_
  refine zcq (va_runV (As := [.int (nI t)]) (rest := []) ⟨hx, hb, hml, hown, hts⟩ (c_stayOf l D ca sa L f q P hs sA hA hp t ht) (cwV 1 hts gX2_yearsOpen_X2_stayOf rfl rfl rfl (by decide +kernel) ⟨Nat.le_of_ble_eq_true rfl, Nat.le_of_ble_eq_true rfl⟩) (zpVp hP hE (ci := 2) rfl hq) rfl rfl hl.1 rfl (lv_room (Nat.le_of_ble_eq_true rfl)) dX2_yearsOpen_2 ⟨Nat.le_of_ble_eq_true rfl, Nat.le_of_ble_eq_true rfl⟩) ?_
  refine W.eq (g2 := F0 m 5 ls [.ref (hA t)]) rfl ?_
  refine lv_iload_n hx hb dX2_yearsOpen_5 rfl (lv_at hl 2 rfl) ?_
  refine zcl (va_runV (As := [.int (nI d)]) (rest := []) ⟨hx, hb, hml, hown, hts⟩ (c_hOpen l D ca sa L f (hA t) d b lT hd hT) (cwV 1 hts gX2_yearsOpen_X1_yearsOpen rfl rfl rfl (by decide +kernel) ⟨Nat.le_of_ble_eq_true rfl, Nat.le_of_ble_eq_true rfl⟩) (zpVp hP hE (ci := 1) rfl hat0) rfl rfl hl.1 rfl (lv_room (Nat.le_of_ble_eq_true rfl)) dX2_yearsOpen_6 ⟨Nat.le_of_ble_eq_true rfl, Nat.le_of_ble_eq_true rfl⟩) ?_
  refine lv_aload_n hx hb dX2_yearsOpen_9 rfl (lv_at hl 0 rfl) ?_
  refine zget (own := RX2) (ci := 2) (C := RX2) (T := TX2) (N := 6) hx hb hts (by decide +kernel) hown hE hP hq rfl 4 (by decide) (hts (.fieldLink RX2 28 "LinkResolver$Pack" "subscription" "LLinkResolver$History;") (by decide +kernel)) rfl dX2_yearsOpen_10 ?_
  refine lv_iload_n hx hb dX2_yearsOpen_13 rfl (lv_at hl 2 rfl) ?_
  refine zcl (va_runV (As := [.int (nI d)]) (rest := [.long (zOp d lT)]) ⟨hx, hb, hml, hown, hts⟩ (c_hOpen l D ca sa L f hs d bs lS hd hSb) (cwV 1 hts gX2_yearsOpen_X1_yearsOpen rfl rfl rfl (by decide +kernel) ⟨Nat.le_of_ble_eq_true rfl, Nat.le_of_ble_eq_true rfl⟩) (zpVp hP hE (ci := 1) rfl hat1) rfl rfl hl.1 rfl (lv_room (Nat.le_of_ble_eq_true rfl)) dX2_yearsOpen_14 ⟨Nat.le_of_ble_eq_true rfl, Nat.le_of_ble_eq_true rfl⟩) ?_
  refine lv_land hx hb dX2_yearsOpen_17 ?_
  exact zrl hx hb hr hlocks dX2_yearsOpen_18 (rfl)

set_option maxHeartbeats 4000000 in
set_option maxRecDepth 100000 in
theorem c_pKept (l : Launch) (D : va_G) (ca : Nat → ClassId) (sa : Nat → Nat) (L : List Nat) (f : Nat → va_E) (q : Nat) (P : Nat × Nat × Nat × Nat) (hs sA : Nat) (hA : Nat → Nat) (hp : zPack L f ca q P hs sA hA) (t b : Nat) (ht : t < 20) (lT : zLs) (hT : zHist L f (hA t) b lT) (bs : Nat) (lS : zLs) (hSb : zHist L f hs bs lS) (d : Nat) (hd : d ≤ 20000) : Met l yX2_yearsKept wsX2_yearsKept ({ frames := 3, cells := 0, slots := 0, locals := 120 }) (va_Pc [.ref q, .int (nI t), .int (nI d)] (zPw D (va_pl L f) ca sa)) (vp_Sl (fun r => r = zPK P.2.2.2 d lT lS)) 0 0 (fun _ => False) := by
  refine Met.ofW (cc := cX2_yearsKept) (maxL := 5) (ret := (some .long)) (by decide) rfl ?_
  intro p e s m args below meth c s₁ B hml hv
  obtain ⟨rfl, hP, hE⟩ := hv
  have hx := B.exec
  have hb := B.bytes
  have hr := B.returns
  have hts := atoms_spec (ws := wsX2_yearsKept) B.pre
  have hown : s.vm.findClass RX2 = some m.cls := findClass_of_methodNamed B.named
  have hlocks := B.notSynchronized
  have hl := lv_entry ([.ref q, .int (nI t), .int (nI d)]) (n := 5) (Nat.le_of_ble_eq_true rfl)
  rw [lg_entry_eq]
  generalize (lg_sl ([.ref q, .int (nI t), .int (nI d)]) ++ List.replicate (5 - (lg_sl ([.ref q, .int (nI t), .int (nI d)])).length) Slot.unset).toArray = ls at hl ⊢
  have hl : lv_has ls 5 [(0, .ref q), (1, .int (nI t)), (2, .int (nI d))] := hl
  obtain ⟨⟨hq, hP1, hP2, hP3, hP4⟩, g0, hg, hgt⟩ := id hp
  obtain ⟨nx0, hat0, hch0⟩ := hT.1
  obtain ⟨nx1, hat1, hch1⟩ := hSb.1
  refine lv_aload_n hx hb dX2_yearsKept_0 rfl (lv_at hl 0 rfl) ?_
  refine zget (own := RX2) (ci := 2) (C := RX2) (T := TX2) (N := 6) hx hb hts (by decide +kernel) hown hE hP hq rfl 3 (by decide) (hts (.fieldLink RX2 21 "LinkResolver$Pack" "isKeeping" "Z") (by decide +kernel)) rfl dX2_yearsKept_1 ?_
  refine lv_if_ne (tgt := 9) hx hb dX2_yearsKept_4 (by decide) (fun c_4 => ?_) (fun c_4 => ?_)
  · have hk9 : ¬ P.2.2.2 = 0 := fun q9 => c_4 (by rw [q9]; rfl)
    refine lv_aload_n hx hb dX2_yearsKept_9 rfl (lv_at hl 0 rfl) ?_
    refine lv_iload_n hx hb dX2_yearsKept_10 rfl (lv_at hl 1 rfl) ?_
    refine zcq (va_runV (As := [.int (nI t)]) (rest := []) ⟨hx, hb, hml, hown, hts⟩ (c_stayOf l D ca sa L f q P hs sA hA hp t ht) (cwV 1 hts gX2_yearsKept_X2_stayOf rfl rfl rfl (by decide +kernel) ⟨Nat.le_of_ble_eq_true rfl, Nat.le_of_ble_eq_true rfl⟩) (zpVp hP hE (ci := 2) rfl hq) rfl rfl hl.1 rfl (lv_room (Nat.le_of_ble_eq_true rfl)) dX2_yearsKept_11 ⟨Nat.le_of_ble_eq_true rfl, Nat.le_of_ble_eq_true rfl⟩) ?_
    refine W.eq (g2 := F0 m 14 ls [.ref (hA t)]) rfl ?_
    refine lv_iload_n hx hb dX2_yearsKept_14 rfl (lv_at hl 2 rfl) ?_
    refine zcl (va_runV (As := [.int (nI d)]) (rest := []) ⟨hx, hb, hml, hown, hts⟩ (c_hKept l D ca sa L f (hA t) d b lT hd hT) (cwV 1 hts gX2_yearsKept_X1_yearsKept rfl rfl rfl (by decide +kernel) ⟨Nat.le_of_ble_eq_true rfl, Nat.le_of_ble_eq_true rfl⟩) (zpVp hP hE (ci := 1) rfl hat0) rfl rfl hl.1 rfl (lv_room (Nat.le_of_ble_eq_true rfl)) dX2_yearsKept_15 ⟨Nat.le_of_ble_eq_true rfl, Nat.le_of_ble_eq_true rfl⟩) ?_
    refine lv_lstore_n (lv' := [(3, .long (zKe d d 0 lT)), (0, .ref q), (1, .int (nI t)), (2, .int (nI d))]) hx hb dX2_yearsKept_18 rfl hl (by decide) rfl (fun ls hl => ?_)
    refine lv_lload_n hx hb dX2_yearsKept_19 rfl (lv_at hl 0 rfl) ?_
    refine lv_lconst (v := 0) hx hb dX2_yearsKept_20 (by decide) ?_
    refine W.lcmp hx hb dX2_yearsKept_21 ?_
    refine lv_if_ne (tgt := 29) hx hb dX2_yearsKept_22 (by decide) (fun c_22 => ?_) (fun c_22 => ?_)
    · refine lv_lload_n hx hb dX2_yearsKept_29 rfl (lv_at hl 0 rfl) ?_
      refine lv_aload_n hx hb dX2_yearsKept_30 rfl (lv_at hl 1 rfl) ?_
      refine zget (own := RX2) (ci := 2) (C := RX2) (T := TX2) (N := 6) hx hb hts (by decide +kernel) hown hE hP hq rfl 4 (by decide) (hts (.fieldLink RX2 28 "LinkResolver$Pack" "subscription" "LLinkResolver$History;") (by decide +kernel)) rfl dX2_yearsKept_31 ?_
      refine lv_iload_n hx hb dX2_yearsKept_34 rfl (lv_at hl 3 rfl) ?_
      refine zcl (va_runV (As := [.int (nI d)]) (rest := [.long (zKe d d 0 lT)]) ⟨hx, hb, hml, hown, hts⟩ (c_hKept l D ca sa L f hs d bs lS hd hSb) (cwV 1 hts gX2_yearsKept_X1_yearsKept rfl rfl rfl (by decide +kernel) ⟨Nat.le_of_ble_eq_true rfl, Nat.le_of_ble_eq_true rfl⟩) (zpVp hP hE (ci := 1) rfl hat1) rfl rfl hl.1 rfl (lv_room (Nat.le_of_ble_eq_true rfl)) dX2_yearsKept_35 ⟨Nat.le_of_ble_eq_true rfl, Nat.le_of_ble_eq_true rfl⟩) ?_
      refine lv_land hx hb dX2_yearsKept_38 ?_
      exact zrl hx hb hr hlocks dX2_yearsKept_39 ((if_neg hk9).symm)
    · refine lv_lconst (v := 0) hx hb dX2_yearsKept_25 (by decide) ?_
      refine lv_goto (tgt := 39) hx hb dX2_yearsKept_26 (by decide) ?_
      exact zrl hx hb hr hlocks dX2_yearsKept_39 (by rw [zPK, if_neg hk9, (lg_cmp_eq _ _).mp c_22]; exact (Int64.zero_and).symm)
  · have hk9 : P.2.2.2 = 0 := by
      rcases Nat.eq_zero_or_pos P.2.2.2 with q9 | q9
      · exact q9
      · exact absurd c_4 (nI_ne0 q9 (by omega))
    refine lv_lconst (v := 0) hx hb dX2_yearsKept_7 (by decide) ?_
    exact zrl hx hb hr hlocks dX2_yearsKept_8 ((if_pos hk9).symm)

set_option maxHeartbeats 4000000 in
set_option maxRecDepth 100000 in
theorem c_pCov (l : Launch) (D : va_G) (ca : Nat → ClassId) (sa : Nat → Nat) (L : List Nat) (f : Nat → va_E) (q : Nat) (P : Nat × Nat × Nat × Nat) (hs sA : Nat) (hA : Nat → Nat) (hp : zPack L f ca q P hs sA hA) (t b : Nat) (ht : t < 20) (lT : zLs) (hT : zHist L f (hA t) b lT) (bs : Nat) (lS : zLs) (hSb : zHist L f hs bs lS) (d : Nat) (hd : d ≤ 20000) : Met l yX2_yearsCovered wsX2_yearsCovered ({ frames := 4, cells := 0, slots := 0, locals := 160 }) (va_Pc [.ref q, .int (nI t), .int (nI d)] (zPw D (va_pl L f) ca sa)) (vp_Sl (fun r => r = zPC P.2.2.2 d lT lS)) 0 0 (fun _ => False) := by
  refine Met.ofW (cc := cX2_yearsCovered) (maxL := 3) (ret := (some .long)) (by decide) rfl ?_
  intro p e s m args below meth c s₁ B hml hv
  obtain ⟨rfl, hP, hE⟩ := hv
  have hx := B.exec
  have hb := B.bytes
  have hr := B.returns
  have hts := atoms_spec (ws := wsX2_yearsCovered) B.pre
  have hown : s.vm.findClass RX2 = some m.cls := findClass_of_methodNamed B.named
  have hlocks := B.notSynchronized
  have hl := lv_entry ([.ref q, .int (nI t), .int (nI d)]) (n := 3) (Nat.le_of_ble_eq_true rfl)
  rw [lg_entry_eq]
  generalize (lg_sl ([.ref q, .int (nI t), .int (nI d)]) ++ List.replicate (3 - (lg_sl ([.ref q, .int (nI t), .int (nI d)])).length) Slot.unset).toArray = ls at hl ⊢
  have hl : lv_has ls 3 [(0, .ref q), (1, .int (nI t)), (2, .int (nI d))] := hl
  obtain ⟨⟨hq, hP1, hP2, hP3, hP4⟩, g0, hg, hgt⟩ := id hp
  obtain ⟨nx0, hat0, hch0⟩ := hT.1
  obtain ⟨nx1, hat1, hch1⟩ := hSb.1
  refine lv_aload_n hx hb dX2_yearsCovered_0 rfl (lv_at hl 0 rfl) ?_
  refine lv_iload_n hx hb dX2_yearsCovered_1 rfl (lv_at hl 1 rfl) ?_
  refine lv_iload_n hx hb dX2_yearsCovered_2 rfl (lv_at hl 2 rfl) ?_
  refine zcl (va_runV (As := [.int (nI t), .int (nI d)]) (rest := []) ⟨hx, hb, hml, hown, hts⟩ (c_pOpen l D ca sa L f q P hs sA hA hp t b ht lT hT bs lS hSb d hd) (cwV 2 hts gX2_yearsCovered_X2_yearsOpen rfl rfl rfl (by decide +kernel) ⟨Nat.le_of_ble_eq_true rfl, Nat.le_of_ble_eq_true rfl⟩) (zpVp hP hE (ci := 2) rfl hq) rfl rfl hl.1 rfl (lv_room (Nat.le_of_ble_eq_true rfl)) dX2_yearsCovered_3 ⟨Nat.le_of_ble_eq_true rfl, Nat.le_of_ble_eq_true rfl⟩) ?_
  refine lv_aload_n hx hb dX2_yearsCovered_6 rfl (lv_at hl 0 rfl) ?_
  refine lv_iload_n hx hb dX2_yearsCovered_7 rfl (lv_at hl 1 rfl) ?_
  refine lv_iload_n hx hb dX2_yearsCovered_8 rfl (lv_at hl 2 rfl) ?_
  refine zcl (va_runV (As := [.int (nI t), .int (nI d)]) (rest := [.long (zOp d lT &&& zOp d lS)]) ⟨hx, hb, hml, hown, hts⟩ (c_pKept l D ca sa L f q P hs sA hA hp t b ht lT hT bs lS hSb d hd) (cwV 2 hts gX2_yearsCovered_X2_yearsKept rfl rfl rfl (by decide +kernel) ⟨Nat.le_of_ble_eq_true rfl, Nat.le_of_ble_eq_true rfl⟩) (zpVp hP hE (ci := 2) rfl hq) rfl rfl hl.1 rfl (lv_room (Nat.le_of_ble_eq_true rfl)) dX2_yearsCovered_9 ⟨Nat.le_of_ble_eq_true rfl, Nat.le_of_ble_eq_true rfl⟩) ?_
  refine lv_lor hx hb dX2_yearsCovered_12 ?_
  exact zrl hx hb hr hlocks dX2_yearsCovered_13 (rfl)

set_option maxHeartbeats 4000000 in
set_option maxRecDepth 100000 in
theorem c_isWay (l : Launch) (D : va_G) (ca : Nat → ClassId) (sa : Nat → Nat) (L : List Nat) (f : Nat → va_E) (q : Nat) (P : Nat × Nat × Nat × Nat) (hs sA : Nat) (hA : Nat → Nat) (hp : zPack L f ca q P hs sA hA) (t b : Nat) (ht : t < 20) (lT : zLs) (hT : zHist L f (hA t) b lT) (bs : Nat) (lS : zLs) (hSb : zHist L f hs bs lS) (d : Nat) (hd : d ≤ 20000) (y g : Nat) (hy : y ≤ 55) (hg4 : g ≤ 3) : Met l yX4_isWay wsX4_isWay ({ frames := 5, cells := 0, slots := 0, locals := 200 }) (va_Pc [.ref q, .int (nI t), .int (nI y), .int (nI g), .int (nI d)] (zPw D (va_pl L f) ca sa)) (vp_Si (fun r => r = bI (zWy P d g y lT lS))) 0 0 (fun _ => False) := by
  refine Met.ofW (cc := cX4_isWay) (maxL := 5) (ret := (some .boolean)) (by decide) rfl ?_
  intro p e s m args below meth c s₁ B hml hv
  obtain ⟨rfl, hP, hE⟩ := hv
  have hx := B.exec
  have hb := B.bytes
  have hr := B.returns
  have hts := atoms_spec (ws := wsX4_isWay) B.pre
  have hown : s.vm.findClass RX4 = some m.cls := findClass_of_methodNamed B.named
  have hlocks := B.notSynchronized
  have hl := lv_entry ([.ref q, .int (nI t), .int (nI y), .int (nI g), .int (nI d)]) (n := 5) (Nat.le_of_ble_eq_true rfl)
  rw [lg_entry_eq]
  generalize (lg_sl ([.ref q, .int (nI t), .int (nI y), .int (nI g), .int (nI d)]) ++ List.replicate (5 - (lg_sl ([.ref q, .int (nI t), .int (nI y), .int (nI g), .int (nI d)])).length) Slot.unset).toArray = ls at hl ⊢
  have hl : lv_has ls 5 [(0, .ref q), (1, .int (nI t)), (2, .int (nI y)), (3, .int (nI g)), (4, .int (nI d))] := hl
  obtain ⟨⟨hq, hP1, hP2, hP3, hP4⟩, g0, hg, hgt⟩ := id hp
  obtain ⟨nx0, hat0, hch0⟩ := hT.1
  obtain ⟨nx1, hat1, hch1⟩ := hSb.1
  refine lv_aload_n hx hb dX4_isWay_0 rfl (lv_at hl 0 rfl) ?_
  refine lv_iload_n hx hb dX4_isWay_1 rfl (lv_at hl 3 rfl) ?_
  refine zci (va_runV (As := [.int (nI g)]) (rest := []) ⟨hx, hb, hml, hown, hts⟩ (c_letsIn l D ca sa L f q P hs sA hA hp g hg4) (cwV 1 hts gX4_isWay_X2_letsIn rfl rfl rfl (by decide +kernel) ⟨Nat.le_of_ble_eq_true rfl, Nat.le_of_ble_eq_true rfl⟩) (zpVp hP hE (ci := 2) rfl hq) rfl rfl hl.1 rfl (lv_room (Nat.le_of_ble_eq_true rfl)) dX4_isWay_2 ⟨Nat.le_of_ble_eq_true rfl, Nat.le_of_ble_eq_true rfl⟩) ?_
  refine lv_if_eq (tgt := 26) hx hb dX4_isWay_5 (by decide) (fun c_5 => ?_) (fun c_5 => ?_)
  · refine lv_iconst (v := nI 0) hx hb dX4_isWay_26 (by decide) ?_
    exact zrz hx hb hr hlocks dX4_isWay_27 rfl (by rw [zWy, bI_eq0 c_5]; rfl)
  · refine lv_aload_n hx hb dX4_isWay_8 rfl (lv_at hl 0 rfl) ?_
    refine lv_iload_n hx hb dX4_isWay_9 rfl (lv_at hl 1 rfl) ?_
    refine lv_iload hx hb dX4_isWay_10 (lv_at hl 4 rfl) ?_
    refine zcl (va_runV (As := [.int (nI t), .int (nI d)]) (rest := []) ⟨hx, hb, hml, hown, hts⟩ (c_pCov l D ca sa L f q P hs sA hA hp t b ht lT hT bs lS hSb d hd) (cwV 2 hts gX4_isWay_X2_yearsCovered rfl rfl rfl (by decide +kernel) ⟨Nat.le_of_ble_eq_true rfl, Nat.le_of_ble_eq_true rfl⟩) (zpVp hP hE (ci := 2) rfl hq) rfl rfl hl.1 rfl (lv_room (Nat.le_of_ble_eq_true rfl)) dX4_isWay_12 ⟨Nat.le_of_ble_eq_true rfl, Nat.le_of_ble_eq_true rfl⟩) ?_
    refine lv_iload_n hx hb dX4_isWay_15 rfl (lv_at hl 2 rfl) ?_
    refine zci (va_runS (As := [.long (zPC P.2.2.2 d lT lS), .int (nI y)]) (rest := []) ⟨hx, hb, hml, hown, hts⟩ (c_hasYear l D ca sa _ _ _) (va_cwS 2 hts gX4_isWay_X4_hasYear rfl rfl rfl (by decide +kernel) ⟨Nat.le_of_ble_eq_true rfl, Nat.le_of_ble_eq_true rfl⟩) (zpS hP hE) rfl rfl hl.1 rfl (lv_room (Nat.le_of_ble_eq_true rfl)) dX4_isWay_16 ⟨Nat.le_of_ble_eq_true rfl, Nat.le_of_ble_eq_true rfl⟩) ?_
    refine lv_if_eq (tgt := 26) hx hb dX4_isWay_19 (by decide) (fun c_19 => ?_) (fun c_19 => ?_)
    · refine lv_iconst (v := nI 0) hx hb dX4_isWay_26 (by decide) ?_
      exact zrz hx hb hr hlocks dX4_isWay_27 rfl (by rw [zWy, bI_ne0 c_5, bI_eq0 c_19]; rfl)
    · refine lv_iconst (v := nI 1) hx hb dX4_isWay_22 (by decide) ?_
      refine lv_goto (tgt := 27) hx hb dX4_isWay_23 (by decide) ?_
      exact zrz hx hb hr hlocks dX4_isWay_27 rfl (by rw [zWy, bI_ne0 c_5, bI_ne0 c_19]; rfl)
end
