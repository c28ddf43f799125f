/-! the class's worlds: one pool of cells, each at its address; the words that every method is given beside its own -/
def zIA : String := "java/lang/IllegalArgumentException"
def zIS : String := "java/lang/IllegalStateException"
def zIO : String := "java/lang/IndexOutOfBoundsException"
abbrev zty (ca : Nat → ClassId) : List (ClassId × FieldType) := [(ca 0, .object "LinkResolver$Title"), (ca 1, .object "LinkResolver$Pack"), (ca 2, .object "LinkResolver$History"), (ca 3, .int)]
def zE1 (U : State) : Prop := va_Nw (.methodLinkNest RX1 41 yX4_yearsBetween "LinkResolver") U ∧ va_AO RX3 U ∧ va_AO RX2 U ∧ va_AO RX1 U
def zE2a (U : State) : Prop := va_Nw (.castable "java/lang/IllegalArgumentException" "java/lang/IllegalArgumentException") U ∧ va_Nw (.castable "java/lang/IllegalStateException" "java/lang/IllegalStateException") U ∧ va_Nw (.castable "java/lang/IndexOutOfBoundsException" "java/lang/IndexOutOfBoundsException") U
def zE2b (U : State) : Prop := va_Nw (.declares (Bundle.initS "java/lang/RuntimeException")) U ∧ va_Nw (.declares (Bundle.initS "java/lang/Exception")) U ∧ va_Nw (.declares (Bundle.initS Bundle.tN)) U
def zE2 (U : State) : Prop := zE2a U ∧ zE2b U
def zE3 (sa : Nat → Nat) (U : State) : Prop := vk_R RX4 125 "no such place" (sa 0) U ∧ vk_R RX4 158 "an argument is out of range" (sa 1) U ∧ vk_R RX4 161 "no such title" (sa 2) U ∧ vk_R RX4 163 "no such package" (sa 3) U ∧ vk_R RX4 40 "there are 20 titles" (sa 4) U ∧ vk_R RX4 59 "there are 10 packages" (sa 5) U ∧ vk_R RX4 92 "the title is not in the package" (sa 6) U ∧ vk_R RX4 94 "today would be above 20000" (sa 7) U ∧ vk_R RX2 38 "no such title" (sa 8) U
def zE (D : va_G) (ca : Nat → ClassId) (sa : Nat → Nat) (U : State) : Prop := va_K D vwCl (zty ca) U ∧ zE1 U ∧ zE2 U ∧ zE3 sa U
theorem zE.warm {D : va_G} {ca : Nat → ClassId} {sa : Nat → Nat} {s U : State} (hW : s.WarmedH U.vm) (h : zE D ca sa s) : zE D ca sa U := by
  obtain ⟨h1, ⟨a1, a2, a3, a4⟩, ⟨⟨b1, b2, b3⟩, b4, b5, b6⟩, c0, c1, c2, c3, c4, c5, c6, c7, c8⟩ := h
  exact ⟨h1.moved hW.alike, ⟨a1.warmM hW, a2.moved hW.alike, a3.moved hW.alike, a4.moved hW.alike⟩, ⟨⟨b1.warmC hW, b2.warmC hW, b3.warmC hW⟩, b4.warmD hW, b5.warmD hW, b6.warmD hW⟩, c0.warm hW, c1.warm hW, c2.warm hW, c3.warm hW, c4.warm hW, c5.warm hW, c6.warm hW, c7.warm hW, c8.warm hW⟩
def zZ (A : Nat → Prop) (U : State) (H : Heap) : Prop := vx_Zq Bundle.tN "UNASSIGNED_STACK" Bundle.steD A U H ∧ vx_Zq Bundle.tN "SUPPRESSED_SENTINEL" Bundle.listD A U H
theorem zZ.to {A B : Nat → Prop} {s U : State} {H H1 : Heap} (hvm : s.vm.Alike U.vm) (hk : ∀ a : Nat, a < H.size → ¬ A a → H1[a]? = H[a]?) (hAB : ∀ q, B q → A q) (h : zZ A s H) : zZ B U H1 := ⟨((h.1.moved hvm).kept hk).narrow hAB, ((h.2.moved hvm).kept hk).narrow hAB⟩
/-- what is at an address of the pool -/
def zat (L : List Nat) (f : Nat → va_E) (a : Nat) (e : va_E) : Prop := a ∈ L ∧ f a = e
theorem zat_get {L : List Nat} {f : Nat → va_E} {a : Nat} {e : va_E} (h : zat L f a e) : ∃ k : Nat, (va_pl L f)[k]? = some (a, e) := by
  obtain ⟨k, hk⟩ := va_pl_get (X := []) (f := f) h.1
  refine ⟨k, ?_⟩
  rw [← h.2]
  exact hk
theorem zat_inj {L : List Nat} {f : Nat → va_E} {a : Nat} {e e' : va_E} (h : zat L f a e) (h' : zat L f a e') : e = e' := h.2.symm.trans h'.2
theorem zat_up {L : List Nat} {f : Nat → va_E} {a b : Nat} {e e' : va_E} (h : zat L f a e) (hn : a ≠ b) : zat L (va_up f b e') a e := ⟨h.1, (va_up_ne f e' hn).trans h.2⟩
theorem zat_self {L : List Nat} {f : Nat → va_E} {a : Nat} {e : va_E} (h : a ∈ L) : zat L (va_up f a e) a e := ⟨h, va_up_self f a e⟩
theorem zat_push {L : List Nat} {f : Nat → va_E} {a q : Nat} {e e' : va_E} (h : zat L f a e) (hq : q ∉ L) : zat (L ++ [q]) (va_up f q e') a e := ⟨List.mem_append_left _ h.1, (va_up_ne f e' (fun z => hq (by rw [← z]; exact h.1))).trans h.2⟩
theorem zat_new {L : List Nat} {f : Nat → va_E} {q : Nat} {e : va_E} : zat (L ++ [q]) (va_up f q e) q e := ⟨List.mem_append_right _ List.mem_cons_self, va_up_self f q e⟩
/-- the start of a method that only reads: the world and the words -/
def zPw (D : va_G) (ws : va_W) (ca : Nat → ClassId) (sa : Nat → Nat) (U : State) : Prop := va_P D vwCl ws U.heap ∧ zE D ca sa U
theorem zPw_warm {D : va_G} {ws : va_W} {ca : Nat → ClassId} {sa : Nat → Nat} {s U : State} {H : Heap} (hP : va_P D vwCl ws H) (hE : zE D ca sa s) (hU : U.heap = H) (hW : s.WarmedH U.vm) : zPw D ws ca sa U := ⟨by rw [hU]; exact hP, hE.warm hW⟩
theorem zblind {D : va_G} {ws : va_W} {ca : Nat → ClassId} {sa : Nat → Nat} {av : List Value} : FrameBlind (va_Pc av (zPw D ws ca sa)) := fun a U g mk q => ⟨q.1, q.2.1, zE.warm (U := U.calling g mk a) (State.WarmedH.refl U) q.2.2⟩
theorem zpS {D : va_G} {ws : va_W} {ca : Nat → ClassId} {sa : Nat → Nat} {s : State} {H : Heap} {As : List Value} (hP : va_P D vwCl ws H) (hE : zE D ca sa s) : PreS s H (va_Pc As (zPw D ws ca sa)) As := ⟨zblind, fun U hU hW => ⟨rfl, zPw_warm hP hE hU hW⟩⟩
theorem zpV {D : va_G} {ws : va_W} {ca : Nat → ClassId} {sa : Nat → Nat} {s : State} {H : Heap} {b q0 ci : Nat} {q : vw_C} {fs : List Value} {As : List Value} (hP : va_P D vwCl ws H) (hE : zE D ca sa s) (hc : vwCl[ci]? = some q) (he : ws[q0]? = some (b, .inr (ci, fs))) : PreV s H q.1 b (va_Pc (.ref b :: As) (zPw D ws ca sa)) As := ⟨zblind, va_recv hE.1 hP hc he, fun U hU hW => ⟨rfl, zPw_warm hP hE hU hW⟩⟩
theorem zpVp {D : va_G} {L : List Nat} {f : Nat → va_E} {ca : Nat → ClassId} {sa : Nat → Nat} {s : State} {H : Heap} {b ci : Nat} {q : vw_C} {fs : List Value} {As : List Value} (hP : va_P D vwCl (va_pl L f) H) (hE : zE D ca sa s) (hc : vwCl[ci]? = some q) (he : zat L f b (.inr (ci, fs))) : PreV s H q.1 b (va_Pc (.ref b :: As) (zPw D (va_pl L f) ca sa)) As := by
  obtain ⟨k, hk⟩ := zat_get he
  exact zpV hP hE hc hk
section ZB
variable {p : Program} {l : Launch} {e : Env} {R : Room} {s : State} {m : MethodId} {args : Array Value} {below : List Frame} {meth : Method} {c : Code} {H : Heap} {locs : List Loc} {cells slots : Nat} {Q : State → Prop}
variable {cc : ByteArray} {pc : Nat} {ls : Array Slot} {rest st0 : List Value} {A : Nat → Prop} {H0 : Heap} {D : va_G} {L : List Nat} {f : Nat → va_E} {a : Nat} {ca : Nat → ClassId} {sa : Nat → Nat} {ar : Array Value}
/-- the value on top by another name -/
theorem zasi {x y : Int32} (h : x = y) (k : W p l e R s m args below meth c H locs cells slots Q (F0 m pc ls (.int y :: rest))) : W p l e R s m args below meth c H locs cells slots Q (F0 m pc ls (.int x :: rest)) := by
  rw [h]; exact k
theorem zasl {x y : Int64} (h : x = y) (k : W p l e R s m args below meth c H locs cells slots Q (F0 m pc ls (.long y :: rest))) : W p l e R s m args below meth c H locs cells slots Q (F0 m pc ls (.long x :: rest)) := by
  rw [h]; exact k
theorem zasv {x y : Value} (h : x = y) (k : W p l e R s m args below meth c H locs cells slots Q (F0 m pc ls (y :: rest))) : W p l e R s m args below meth c H locs cells slots Q (F0 m pc ls (x :: rest)) := by
  rw [h]; exact k
/-- references that may be null -/
theorem zaload_n (hexec : p.tables.exec = Jvm.exec) (hb : c.code = cc) {k : Fin 4} {i : Nat} {x : Option Nat} (hdg : decode cc pc = .ok (.aload_n k, 1)) (hi : (k : Nat) = i) (hl : ls[i]? = some (.val (va_rf x)))
    (kk : W p l e R s m args below meth c H locs cells slots Q (F0 m (pc + 1) ls (va_rf x :: rest))) : W p l e R s m args below meth c H locs cells slots Q (F0 m pc ls rest) := by
  cases x with
  | none => exact lv_aload_nN hexec hb hdg hi hl kk
  | some x => exact lv_aload_n hexec hb hdg hi hl kk
theorem zaload (hexec : p.tables.exec = Jvm.exec) (hb : c.code = cc) {i : Nat} {x : Option Nat} (hdg : decode cc pc = .ok (.aload i, 2)) (hl : ls[i]? = some (.val (va_rf x)))
    (kk : W p l e R s m args below meth c H locs cells slots Q (F0 m (pc + 2) ls (va_rf x :: rest))) : W p l e R s m args below meth c H locs cells slots Q (F0 m pc ls rest) := by
  cases x with
  | none => exact lv_aloadN hexec hb hdg hl kk
  | some x => exact lv_aload hexec hb hdg hl kk
theorem zcat (x : Option Nat) : (va_rf x).category = 1 := by cases x <;> rfl
theorem zastore_n (hexec : p.tables.exec = Jvm.exec) (hb : c.code = cc) {k : Fin 4} {i nL : Nat} {x : Option Nat} {lv lv' : List (Nat × Value)} (hdg : decode cc pc = .ok (.astore_n k, 1)) (hi : (k : Nat) = i) (h : lv_has ls nL lv) (hn : i < nL) (hl : (i, va_rf x) :: lv.filter (fun q => !(q.1 == i) && !(q.1 + 1 == i && q.2.category == 2)) = lv')
    (kk : ∀ ls' : Array Slot, lv_has ls' nL lv' → W p l e R s m args below meth c H locs cells slots Q (F0 m (pc + 1) ls' rest)) : W p l e R s m args below meth c H locs cells slots Q (F0 m pc ls (va_rf x :: rest)) := by
  cases x with
  | none => exact lv_astore_nN hexec hb hdg hi h hn hl kk
  | some x => exact lv_astore_n hexec hb hdg hi h hn hl kk
theorem zastore (hexec : p.tables.exec = Jvm.exec) (hb : c.code = cc) {i nL : Nat} {x : Option Nat} {lv lv' : List (Nat × Value)} (hdg : decode cc pc = .ok (.astore i, 2)) (h : lv_has ls nL lv) (hn : i < nL) (hl : (i, va_rf x) :: lv.filter (fun q => !(q.1 == i) && !(q.1 + 1 == i && q.2.category == 2)) = lv')
    (kk : ∀ ls' : Array Slot, lv_has ls' nL lv' → W p l e R s m args below meth c H locs cells slots Q (F0 m (pc + 2) ls' rest)) : W p l e R s m args below meth c H locs cells slots Q (F0 m pc ls (va_rf x :: rest)) := by
  cases x with
  | none => exact lv_astoreN hexec hb hdg h hn hl kk
  | some x => exact lv_astore hexec hb hdg h hn hl kk
/-- a field of a pooled object -/
theorem zget (hexec : p.tables.exec = Jvm.exec) (hb : c.code = cc) {own C : String} {T : u_T} {N ci index : Nat} {Ts : List Cond} (hts : ∀ w ∈ Ts, w.before args s = true) (hin : ∀ w ∈ u_ws C T N, w ∈ Ts) (hown : s.vm.findClass own = some m.cls) (hE : zE D ca sa s) (hP : va_P D vwCl (va_pl L f) H) {fs : List Value} (hat : zat L f a (.inr (ci, fs))) (hc : vwCl[ci]? = some (C, T, N)) (k : Nat) (hk : k < N) (hlink : (Cond.fieldLink own index (T k).1 (T k).2.1 (T k).2.2.1).before args s = true) {v : Value} (hv : fs[k]? = some v) (hdg : decode cc pc = .ok (.getfield index, 3))
    (kk : W p l e R s m args below meth c H locs cells slots Q (F0 m (pc + 3) ls (v :: rest))) : W p l e R s m args below meth c H locs cells slots Q (F0 m pc ls (.ref a :: rest)) := by
  obtain ⟨q0, he⟩ := zat_get hat
  exact va_get hexec hb hts hin hown hE.1 hP q0 he hc k hk hlink (fun _ h => h) hv hdg kk
/-- a place of a pooled array of references, and its length -/
theorem zaldq (hexec : p.tables.exec = Jvm.exec) (hb : c.code = cc) (hE : zE D ca sa s) (hP : va_P D vwCl (va_pl L f) H) (t0 : Nat) {cA : ClassId} {C : String} {n : Nat} {g : Nat → Option Nat} (hat : zat L f a (.inl (cA, n, .inr (.inr (.inr (.inr g)))))) (ht : (zty ca)[t0]? = some (cA, .object C)) {i : Nat} (hi : i < n) (hn : n < 2 ^ 31) (hdg : decode cc pc = .ok (.aaload, 1))
    (kk : W p l e R s m args below meth c H locs cells slots Q (F0 m (pc + 1) ls (va_rf (g i) :: rest))) : W p l e R s m args below meth c H locs cells slots Q (F0 m pc ls (.int (nI i) :: .ref a :: rest)) := by
  obtain ⟨q0, he⟩ := zat_get hat
  refine va_aldq hexec hb hE.1 hP q0 t0 he ht (vp_in_nI hi hn) hdg ?_
  rw [nI_clamp (by omega)]
  exact kk
theorem zalen (hexec : p.tables.exec = Jvm.exec) (hb : c.code = cc) (hE : zE D ca sa s) (hP : va_P D vwCl (va_pl L f) H) (t0 : Nat) {cA : ClassId} {x : vp_A} (hat : zat L f a (.inl (cA, x))) {ty : FieldType} (ht : (zty ca)[t0]? = some (cA, ty)) {n : Nat} (hn : x.1 = n) (hdg : decode cc pc = .ok (.arraylength, 1))
    (kk : W p l e R s m args below meth c H locs cells slots Q (F0 m (pc + 1) ls (.int (nI n) :: rest))) : W p l e R s m args below meth c H locs cells slots Q (F0 m pc ls (.ref a :: rest)) := by
  obtain ⟨q0, he⟩ := zat_get hat
  subst hn
  exact va_alen hexec hb hE.1 hP q0 t0 he ht rfl hdg kk
/-- behind a call that only reads -/
theorem zci {v : Int32} (hr : va_Run p l e R s m args below meth c H locs cells slots 0 0 (F0 m pc ls st0) rest (vp_Si (fun r => r = v) ar) (fun _ => False)) (kk : W p l e R s m args below meth c H locs cells slots Q (F0 m (pc + 3) ls (.int v :: rest))) : W p l e R s m args below meth c H locs cells slots Q (F0 m pc ls st0) := vp_callSi hr.run (fun r er => by subst er; exact kk)
theorem zcl {v : Int64} (hr : va_Run p l e R s m args below meth c H locs cells slots 0 0 (F0 m pc ls st0) rest (vp_Sl (fun r => r = v) ar) (fun _ => False)) (kk : W p l e R s m args below meth c H locs cells slots Q (F0 m (pc + 3) ls (.long v :: rest))) : W p l e R s m args below meth c H locs cells slots Q (F0 m pc ls st0) := vp_callSl hr.run (fun r er => by subst er; exact kk)
theorem zcq {v : Option Nat} (hr : va_Run p l e R s m args below meth c H locs cells slots 0 0 (F0 m pc ls st0) rest (va_Sq (fun r => r = v) ar) (fun _ => False)) (kk : W p l e R s m args below meth c H locs cells slots Q (F0 m (pc + 3) ls (va_rf v :: rest))) : W p l e R s m args below meth c H locs cells slots Q (F0 m pc ls st0) := va_csq hr.run (fun r er => by subst er; exact kk)
theorem zcqp {post : Option Nat → Prop} (hr : va_Run p l e R s m args below meth c H locs cells slots 0 0 (F0 m pc ls st0) rest (va_Sq post ar) (fun _ => False)) (kk : ∀ r : Option Nat, post r → W p l e R s m args below meth c H locs cells slots Q (F0 m (pc + 3) ls (va_rf r :: rest))) : W p l e R s m args below meth c H locs cells slots Q (F0 m pc ls st0) := va_csq hr.run kk
theorem zcv (hr : va_Run p l e R s m args below meth c H locs cells slots 0 0 (F0 m pc ls st0) rest (va_Sv (fun _ => True) ar) (fun _ => False)) (kk : W p l e R s m args below meth c H locs cells slots Q (F0 m (pc + 3) ls rest)) : W p l e R s m args below meth c H locs cells slots Q (F0 m pc ls st0) := va_csv hr.run (fun _ => kk)
/-- ends of methods that only read -/
theorem zri {post : Int32 → Prop} {v : Int32} (hexec : p.tables.exec = Jvm.exec) (hb : c.code = cc) (hr : meth.sig.returnType = some .int) (hlocks : meth.locks = false) (hdg : decode cc pc = .ok (.ireturn, 1)) (hp : post v) : W p l e R s m args below meth c s.heap [] 0 0 (MQ below (vp_Si post) args s 0 0 (fun _ => False)) (F0 m pc ls [.int v]) :=
  W.iret hexec hb hr (fun t ht _ => ⟨v, rfl, hp, ht⟩) (fun q h => nomatch h) hdg hlocks
theorem zrz {post : Int32 → Prop} {v : Int32} (hexec : p.tables.exec = Jvm.exec) (hb : c.code = cc) (hr : meth.sig.returnType = some .boolean) (hlocks : meth.locks = false) (hdg : decode cc pc = .ok (.ireturn, 1)) (hn : narrow .boolean (.int v) = .int v) (hp : post v) : W p l e R s m args below meth c s.heap [] 0 0 (MQ below (vp_Si post) args s 0 0 (fun _ => False)) (F0 m pc ls [.int v]) :=
  W.zret hexec hb hr hn (fun t ht _ => ⟨v, rfl, hp, ht⟩) (fun q h => nomatch h) hdg hlocks
theorem zrl {post : Int64 → Prop} {v : Int64} (hexec : p.tables.exec = Jvm.exec) (hb : c.code = cc) (hr : meth.sig.returnType = some .long) (hlocks : meth.locks = false) (hdg : decode cc pc = .ok (.lreturn, 1)) (hp : post v) : W p l e R s m args below meth c s.heap [] 0 0 (MQ below (vp_Sl post) args s 0 0 (fun _ => False)) (F0 m pc ls [.long v]) :=
  W.lret hexec hb hr (fun t ht _ => ⟨v, rfl, hp, ht⟩) (fun q h => nomatch h) hdg hlocks
theorem zrq {post : Option Nat → Prop} {v : Option Nat} {C : String} (hexec : p.tables.exec = Jvm.exec) (hb : c.code = cc) (hr : meth.sig.returnType = some (.object C)) (hlocks : meth.locks = false) (hdg : decode cc pc = .ok (.areturn, 1)) (hp : post v) : W p l e R s m args below meth c s.heap [] 0 0 (MQ below (va_Sq post) args s 0 0 (fun _ => False)) (F0 m pc ls [va_rf v]) :=
  W.aret hexec hb hr (Or.inl ⟨_, rfl⟩) (va_rf_or v) (fun t ht _ => ⟨v, rfl, hp, ht⟩) (fun q h => nomatch h) hdg hlocks
theorem zrv (hexec : p.tables.exec = Jvm.exec) (hb : c.code = cc) (hr : meth.sig.returnType = none) (hlocks : meth.locks = false) (hdg : decode cc pc = .ok (.return_, 1)) : W p l e R s m args below meth c s.heap [] 0 0 (MQ below (va_Sv (fun _ => True)) args s 0 0 (fun _ => False)) (F0 m pc ls []) :=
  W.vret hexec hb hr (fun t ht _ => ⟨rfl, trivial, ht⟩) (fun q h => nomatch h) hdg hlocks
/-- a field of a pooled object is written -/
theorem zput (hexec : p.tables.exec = Jvm.exec) (hb : c.code = cc) {own C : String} {T : u_T} {N ci index : Nat} {Ts : List Cond} (hts : ∀ w ∈ Ts, w.before args s = true) (hin : ∀ w ∈ u_ws C T N, w ∈ Ts) (ty0 : Nat → FieldType) (hty : ∀ k, k < N → parseFieldDescriptor (T k).2.2.1 = some (ty0 k)) (hnm : ∀ a, a < N → ∀ b, b < N → a ≠ b → (T a).2.1 ≠ (T b).2.1) (hown : s.vm.findClass own = some m.cls) (hE : zE D ca sa s) (hP : va_P D vwCl (va_pl L f) H) (hD : va_D A (va_pl L f)) (hS : va_S A H0 H locs) {fs : List Value} (hat : zat L f a (.inr (ci, fs))) (hc : vwCl[ci]? = some (C, T, N)) (k : Nat) (hk : k < N) (hlink : (Cond.fieldLink own index (T k).1 (T k).2.1 (T k).2.2.1).before args s = true) (hfin : (T k).2.2.2 = false) {ty : FieldType} {v : Value} (hd : parseFieldDescriptor (T k).2.2.1 = some ty) (hn : narrow ty v = v) (hfit : fits ty v = true) (hl : k < fs.length)
    (hdg : decode cc pc = .ok (.putfield index, 3)) (kk : ∀ (H1 : Heap) (locs1 : List Loc), va_P D vwCl (va_pl L (va_up f a (.inr (ci, fs.set k v)))) H1 → va_D A (va_pl L (va_up f a (.inr (ci, fs.set k v)))) → va_S A H0 H1 locs1 → W p l e R s m args below meth c H1 locs1 cells slots Q (F0 m (pc + 3) ls rest)) : W p l e R s m args below meth c H locs cells slots Q (F0 m pc ls (v :: .ref a :: rest)) := by
  obtain ⟨q0, he⟩ := zat_get hat
  refine va_put hexec hb hts hin ty0 hty hnm hown hE.1 hP hD hS q0 he hc k hk hlink (fun _ h => h) hfin hd hn hfit hl hdg (fun H1 locs1 h1 h2 h3 => ?_)
  have e := va_pl_set (X := []) (e := .inr (ci, fs.set k v)) hD hat.1 (by rw [hat.2]; exact he)
  rw [List.nil_append, List.nil_append] at e
  rw [e] at h1 h2
  exact kk H1 locs1 h1 h2 h3
theorem zputF (hexec : p.tables.exec = Jvm.exec) (hb : c.code = cc) {own C : String} {T : u_T} {N ci index : Nat} {Ts : List Cond} (hts : ∀ w ∈ Ts, w.before args s = true) (hin : ∀ w ∈ u_ws C T N, w ∈ Ts) (ty0 : Nat → FieldType) (hty : ∀ k, k < N → parseFieldDescriptor (T k).2.2.1 = some (ty0 k)) (hnm : ∀ a, a < N → ∀ b, b < N → a ≠ b → (T a).2.1 ≠ (T b).2.1) (hown : s.vm.findClass own = some m.cls) (hE : zE D ca sa s) (hP : va_P D vwCl (va_pl L f) H) (hD : va_D A (va_pl L f)) (hS : va_S A H0 H locs) {fs : List Value} (hat : zat L f a (.inr (ci, fs))) (hc : vwCl[ci]? = some (C, T, N)) (k : Nat) (hk : k < N) (hlink : (Cond.fieldLink own index (T k).1 (T k).2.1 (T k).2.2.1).before args s = true) (hfin : (T k).2.2.2 = true) (hin2 : meth.name = "<init>") (hdecl : (T k).1 = own) {ty : FieldType} {v : Value} (hd : parseFieldDescriptor (T k).2.2.1 = some ty) (hn : narrow ty v = v) (hfit : fits ty v = true) (hl : k < fs.length)
    (hdg : decode cc pc = .ok (.putfield index, 3)) (kk : ∀ (H1 : Heap) (locs1 : List Loc), va_P D vwCl (va_pl L (va_up f a (.inr (ci, fs.set k v)))) H1 → va_D A (va_pl L (va_up f a (.inr (ci, fs.set k v)))) → va_S A H0 H1 locs1 → W p l e R s m args below meth c H1 locs1 cells slots Q (F0 m (pc + 3) ls rest)) : W p l e R s m args below meth c H locs cells slots Q (F0 m pc ls (v :: .ref a :: rest)) := by
  obtain ⟨q0, he⟩ := zat_get hat
  refine va_putF hexec hb hts hin ty0 hty hnm hown hE.1 hP hD hS q0 he hc k hk hlink (fun _ h => h) hfin hin2 hdecl hd hn hfit hl hdg (fun H1 locs1 h1 h2 h3 => ?_)
  have e := va_pl_set (X := []) (e := .inr (ci, fs.set k v)) hD hat.1 (by rw [hat.2]; exact he)
  rw [List.nil_append, List.nil_append] at e
  rw [e] at h1 h2
  exact kk H1 locs1 h1 h2 h3
theorem zast (hexec : p.tables.exec = Jvm.exec) (hb : c.code = cc) (hE : zE D ca sa s) (hP : va_P D vwCl (va_pl L f) H) (hD : va_D A (va_pl L f)) (hS : va_S A H0 H locs) (t0 ci : Nat) {cA : ClassId} {r : vw_C} {n v : Nat} {vs : List Value} {g : Nat → Option Nat} (hat : zat L f a (.inl (cA, n, .inr (.inr (.inr (.inr g)))))) (ht : (zty ca)[t0]? = some (cA, .object r.1)) (hv : zat L f v (.inr (ci, vs))) (hc : vwCl[ci]? = some r) {i : Nat} (hi : i < n) (hn : n < 2 ^ 31) (hdg : decode cc pc = .ok (.aastore, 1))
    (kk : ∀ (H1 : Heap) (locs1 : List Loc), va_P D vwCl (va_pl L (va_up f a (.inl (cA, n, .inr (.inr (.inr (.inr (va_up g i (some v))))))))) H1 → va_D A (va_pl L (va_up f a (.inl (cA, n, .inr (.inr (.inr (.inr (va_up g i (some v))))))))) → va_S A H0 H1 locs1 → W p l e R s m args below meth c H1 locs1 cells slots Q (F0 m (pc + 1) ls rest)) : W p l e R s m args below meth c H locs cells slots Q (F0 m pc ls (.ref v :: .int (nI i) :: .ref a :: rest)) := by
  obtain ⟨q0, he⟩ := zat_get hat
  obtain ⟨qk, hk⟩ := zat_get hv
  refine va_astq hexec hb hE.1 hP hD hS q0 t0 qk ci he ht hk hc (vp_in_nI hi hn) hdg (fun H1 locs1 h1 h2 h3 => ?_)
  rw [nI_clamp (by omega)] at h1 h2
  have e := va_pl_set (X := []) (e := .inl (cA, n, .inr (.inr (.inr (.inr (va_up g i (some v))))))) hD hat.1 (by rw [hat.2]; exact he)
  rw [List.nil_append, List.nil_append] at e
  rw [e] at h1 h2
  exact kk H1 locs1 h1 h2 h3
/-- a new object joins the pool -/
theorem znew (hexec : p.tables.exec = Jvm.exec) (hb : c.code = cc) {own C : String} {T : u_T} {N ci index : Nat} {Ts : List Cond} (hts : ∀ w ∈ Ts, w.before args s = true) (hin : ∀ w ∈ u_ws C T N, w ∈ Ts) (ty : Nat → FieldType) (hty : ∀ k, k < N → parseFieldDescriptor (T k).2.2.1 = some (ty k)) (hown : s.vm.findClass own = some m.cls) (hcl : (Cond.classLink own index C).before args s = true) (hinst : (Cond.instantiable C N).before args s = true) (hini : (Cond.initialized C).before args s = true)
    (hE : zE D ca sa s) (hP : va_P D vwCl (va_pl L f) H) (hD : va_D A (va_pl L f)) (hS : va_S A H0 H locs) (hA : ∀ q, H0.size ≤ q → A q) (hc : vwCl[ci]? = some (C, T, N)) {fs : List Value} (hfs : ∀ j, j < N → defaultValue (ty j) = vp_V fs j) (hcells : cells + 1 ≤ R.cells) (hslots : slots + N ≤ R.slots) (hdg : decode cc pc = .ok (.new index, 3))
    (kk : ∀ (q : Nat) (H1 : Heap), q ∉ L → va_P D vwCl (va_pl (L ++ [q]) (va_up f q (.inr (ci, fs)))) H1 → va_D A (va_pl (L ++ [q]) (va_up f q (.inr (ci, fs)))) → va_S A H0 H1 locs →
      W p l e R s m args below meth c H1 locs (cells + 1) (slots + N) Q (F0 m (pc + 3) ls (.ref q :: rest))) : W p l e R s m args below meth c H locs cells slots Q (F0 m pc ls rest) := by
  refine va_new hexec hb hts hin ty hty hown hcl hinst hini hE.1 hP hD hS hA hc hfs hcells hslots hdg (fun q H1 h1 h2 h3 => ?_)
  have hq : q ∉ L := va_pl_fresh2 (X := []) (by rw [List.nil_append]; exact h2)
  rw [va_pl_push hq] at h1 h2
  exact kk q H1 hq h1 h2 h3
theorem znewq (hexec : p.tables.exec = Jvm.exec) (hb : c.code = cc) {own C : String} {index : Nat} (hown : s.vm.findClass own = some m.cls) (hclink : (Cond.classLink own index C).before args s = true) (hover : va_AO C s) (hE : zE D ca sa s) (t0 : Nat) {cA0 : ClassId} (ht : (zty ca)[t0]? = some (cA0, .object C)) (hP : va_P D vwCl (va_pl L f) H) (hD : va_D A (va_pl L f)) (hS : va_S A H0 H locs) (hA : ∀ q, H0.size ≤ q → A q)
    {n : Nat} (hn : n ≤ 1000) (hcells : cells + 1 ≤ R.cells) (hslots : slots + n ≤ R.slots) (hdg : decode cc pc = .ok (.anewarray index, 3))
    (kk : ∀ (q : Nat) (H1 : Heap), q ∉ L → va_P D vwCl (va_pl (L ++ [q]) (va_up f q (.inl (cA0, n, .inr (.inr (.inr (.inr (fun _ => none)))))))) H1 → va_D A (va_pl (L ++ [q]) (va_up f q (.inl (cA0, n, .inr (.inr (.inr (.inr (fun _ => none)))))))) → va_S A H0 H1 locs →
      W p l e R s m args below meth c H1 locs (cells + 1) (slots + n) Q (F0 m (pc + 3) ls (.ref q :: rest))) : W p l e R s m args below meth c H locs cells slots Q (F0 m pc ls (.int (nI n) :: rest)) := by
  refine va_newq hexec hb hown hclink hover hE.1 hP hD hS hA (nI_pos (by omega)) (nI_clamp (by omega)) (by omega) hcells hslots hdg (fun q cA H1 h0 h1 h2 h3 => ?_)
  have e1 := (h0.2 4 (cA, .object C) rfl).2
  have e2 := (hE.1.2 t0 _ ht).2
  obtain ⟨-, -, -, -, -, e3⟩ := e1
  obtain ⟨-, -, -, -, -, e4⟩ := e2
  have e5 : cA = cA0 := Option.some.inj (e3.symm.trans e4)
  subst e5
  have hq : q ∉ L := va_pl_fresh2 (X := []) (by rw [List.nil_append]; exact h2)
  rw [va_pl_push hq] at h1 h2
  exact kk q H1 hq h1 h2 h3
end ZB
