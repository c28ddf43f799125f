/-! the law's own callers of the class: a code, and the answer in out[0] -/
def oW (ca : Nat → ClassId) (ob : Nat) (g : Nat → Int64) : va_W := [(ob, .inl (ca 5, 1, .inr (.inl g)))]
def bL (b : Bool) : Int64 := if b then 1 else 0
def zN (U : State) : Prop := va_Nc "java/lang/IllegalStateException" "java/lang/IllegalArgumentException" U ∧ va_Nc "java/lang/IllegalArgumentException" "java/lang/IndexOutOfBoundsException" U ∧ va_Nc "java/lang/IllegalStateException" "java/lang/IndexOutOfBoundsException" U ∧ va_Nc "java/lang/IndexOutOfBoundsException" "java/lang/IllegalArgumentException" U
theorem zN.moved {u U : State} (hvm : u.vm.Alike U.vm) (h : zN u) : zN U := ⟨h.1.moved hvm, h.2.1.moved hvm, h.2.2.1.moved hvm, h.2.2.2.moved hvm⟩
def zLp (D : va_G) (L : List Nat) (f : Nat → va_E) (ob : Nat) (g : Nat → Int64) (ca : Nat → ClassId) (sa : Nat → Nat) (sz : Nat) (U : State) : Prop := U.heap.size = sz ∧ va_P D vwCl (oW ca ob g ++ va_pl L f) U.heap ∧ va_D (fun _ => True) (oW ca ob g ++ va_pl L f) ∧ zE D ca sa U ∧ zN U ∧ zZ (fun q => sz ≤ q) U U.heap
theorem zLblind {D : va_G} {L : List Nat} {f : Nat → va_E} {ob : Nat} {g : Nat → Int64} {ca : Nat → ClassId} {sa : Nat → Nat} {sz : Nat} {av : List Value} : FrameBlind (va_Pc av (zLp D L f ob g ca sa sz)) := fun a U g mk q => ⟨q.1, q.2.1, q.2.2.1, q.2.2.2.1, zE.warm (U := U.calling g mk a) (State.WarmedH.refl U) q.2.2.2.2.1, zN.moved (U := U.calling g mk a) (Vm.Alike.refl U.vm) q.2.2.2.2.2.1, zZ.to (Vm.Alike.refl U.vm) (fun _ _ _ => rfl) (fun _ h => h) q.2.2.2.2.2.2⟩
theorem zLS {D : va_G} {L : List Nat} {f : Nat → va_E} {ob : Nat} {g : Nat → Int64} {ca : Nat → ClassId} {sa : Nat → Nat} {s : State} {H : Heap} {A : Nat → Prop} {As : List Value} (hP : va_P D vwCl (oW ca ob g ++ va_pl L f) H) (hD : va_D A (oW ca ob g ++ va_pl L f)) (hE : zE D ca sa s) (hN : zN s) (hZ : zZ A s H) (hA : ∀ q, H.size ≤ q → A q) : PreS s H (va_Pc As (zLp D L f ob g ca sa H.size)) As := ⟨zLblind, fun U hU hW => ⟨rfl, by rw [hU], by rw [hU]; exact hP, hD.weaken (fun _ _ _ _ => trivial), hE.warm hW, hN.moved hW.alike, by rw [hU]; exact zZ.to hW.alike (fun _ _ _ => rfl) hA hZ⟩⟩
def zX0 : String → State → State → Prop := vx_X (fun _ : Unit => True) (fun _ _ _ => False) (fun _ => False)
section ZO
variable {D : va_G} {L : List Nat} {f : Nat → va_E} {ob : Nat} {g : Nat → Int64} {ca : Nat → ClassId} {A : Nat → Prop} {H : Heap}
theorem o_P (h : va_P D vwCl (oW ca ob g ++ va_pl L f) H) : va_P D vwCl (va_pl L f) H := h.by (fun k => k + 1) (fun _ _ hk => hk)
theorem o_O (h : va_P D vwCl (oW ca ob g ++ va_pl L f) H) : va_P D vwCl (oW ca ob g) H := h.by (fun k => k) (fun k q hk => by
  have hl := (List.getElem?_eq_some_iff.mp hk).1
  rw [List.getElem?_append_left hl]; exact hk)
theorem o_D (h : va_D A (oW ca ob g ++ va_pl L f)) : va_D A (va_pl L f) := h.by (fun k => k + 1) (fun _ _ hk => hk) (fun i j _ _ e => by omega)
theorem o_lt (h : va_P D vwCl (oW ca ob g ++ va_pl L f) H) : ob < H.size := (h 0 (ob, .inl (ca 5, 1, .inr (.inl g))) rfl).lt
theorem o_no (hP : va_P D vwCl (oW ca ob g ++ va_pl L f) H) (hD : va_D A (oW ca ob g ++ va_pl L f)) : ¬ va_A (va_pl L f) H.size ob := by
  rintro (⟨k, e, h⟩ | h)
  · have := hD.1 0 (k + 1) (ob, .inl (ca 5, 1, .inr (.inl g))) (ob, e) rfl h rfl
    omega
  · exact absurd (o_lt hP) (Nat.not_lt.mpr h)
/-- behind a callee that changed the pool: the two worlds side by side again -/
theorem o_back {u : zU} {H1 : Heap} (hP : va_P D vwCl (oW ca ob g ++ va_pl L f) H) (hD : va_D A (oW ca ob g ++ va_pl L f)) (hA : ∀ q : Nat, H.size ≤ q → A q) (k2 : ∀ q : Nat, q < H.size → ¬ va_A (va_pl L f) H.size q → H1[q]? = H[q]?) (h1 : va_P D vwCl (va_pl u.1 u.2) H1) (h2 : va_D (va_A (va_pl L f) H.size) (va_pl u.1 u.2)) : va_P D vwCl (oW ca ob g ++ va_pl u.1 u.2) H1 ∧ va_D A (oW ca ob g ++ va_pl u.1 u.2) := by
  have hno := o_no hP hD
  have hO1 : va_P D vwCl (oW ca ob g) H1 := (o_O hP).kept (fun k q hk => by
    have hl := (List.getElem?_eq_some_iff.mp hk).1
    have hz : k = 0 := by
      have : k < 1 := hl
      omega
    subst hz
    cases hk
    exact k2 ob (o_lt hP) hno)
  refine ⟨hO1.app h1, va_D.app ⟨fun i j x y hi hj _ => ?_, fun k q hk => ?_⟩ (h2.weaken (fun k q hk h => ?_)) (fun i j x y hi hj e => ?_)⟩
  · have h1 : i < 1 := (List.getElem?_eq_some_iff.mp hi).1
    have h2 : j < 1 := (List.getElem?_eq_some_iff.mp hj).1
    omega
  · have h1 : k < 1 := (List.getElem?_eq_some_iff.mp hk).1
    have hz : k = 0 := by omega
    subst hz
    cases hk
    exact hD.2 0 (ob, .inl (ca 5, 1, .inr (.inl g))) rfl
  · rcases h with ⟨k9, e9, h9⟩ | h
    · exact (o_D hD).2 k9 (q.1, e9) h9
    · exact hA _ h
  · have h1 : i < 1 := (List.getElem?_eq_some_iff.mp hi).1
    have hz : i = 0 := by omega
    subst hz
    cases hi
    have := h2.2 j y hj
    rw [← e] at this
    exact hno this
end ZO
section ZL
variable {p : Program} {l : Launch} {e : Env} {R : Room} {s : State} {m : MethodId} {args : Array Value} {below : List Frame} {meth : Method} {c : Code} {H : Heap} {locs : List Loc} {cells slots : Nat} {Q : State → Prop}
variable {cc : ByteArray} {pc : Nat} {ls : Array Slot} {rest st0 : List Value} {A : Nat → Prop} {H0 : Heap} {D : va_G} {L : List Nat} {f : Nat → va_E} {ca : Nat → ClassId} {sa : Nat → Nat} {ob : Nat} {g : Nat → Int64} {mc ms : Nat} {ar : Array Value}
theorem zlw {P : Int32 → zU → Prop} (hr : va_Run p l e R s m args below meth c H locs cells slots mc ms (F0 m pc ls st0) rest (va_Qi P (zPost D (va_A (va_pl L f) H.size)) (va_A (va_pl L f) H.size) ar) (va_A (va_pl L f) H.size)) (hP : va_P D vwCl (oW ca ob g ++ va_pl L f) H) (hD : va_D A (oW ca ob g ++ va_pl L f)) (hS : va_S A H0 H locs) (hA : ∀ q : Nat, H0.size ≤ q → A q)
    (kk : ∀ (r : Int32) (u : zU) (H1 : Heap) (locs1 : List Loc), P r u → va_P D vwCl (oW ca ob g ++ va_pl u.1 u.2) H1 → va_D A (oW ca ob g ++ va_pl u.1 u.2) → va_S A H0 H1 locs1 → W p l e R s m args below meth c H1 locs1 (cells + mc) (slots + ms) Q (F0 m (pc + 3) ls (.int r :: rest))) : W p l e R s m args below meth c H locs cells slots Q (F0 m pc ls st0) := by
  have hA' : ∀ q : Nat, H.size ≤ q → A q := fun q h => hA q (Nat.le_trans hS.1 h)
  have hF : ∀ q, va_A (va_pl L f) H.size q → A q := fun q h => h.elim (fun ⟨k, e, h1⟩ => (o_D hD).2 k (q, e) h1) (hA' q)
  refine va_calli hr hS (fun q _ h => hF q h) hF (fun r u t H1 locs1 ht _ hp hb _ k2 hS1 => ?_)
  obtain ⟨hb1, hb2⟩ := hb
  rw [ht] at hb1
  obtain ⟨g1, g2⟩ := o_back hP hD hA' k2 hb1 hb2
  exact kk r u H1 locs1 hp g1 g2 hS1
theorem zlwv {P : zU → Prop} (hr : va_Run p l e R s m args below meth c H locs cells slots mc ms (F0 m pc ls st0) rest (va_Qv P (zPost D (va_A (va_pl L f) H.size)) (va_A (va_pl L f) H.size) ar) (va_A (va_pl L f) H.size)) (hP : va_P D vwCl (oW ca ob g ++ va_pl L f) H) (hD : va_D A (oW ca ob g ++ va_pl L f)) (hS : va_S A H0 H locs) (hA : ∀ q : Nat, H0.size ≤ q → A q)
    (kk : ∀ (u : zU) (H1 : Heap) (locs1 : List Loc), P u → va_P D vwCl (oW ca ob g ++ va_pl u.1 u.2) H1 → va_D A (oW ca ob g ++ va_pl u.1 u.2) → va_S A H0 H1 locs1 → W p l e R s m args below meth c H1 locs1 (cells + mc) (slots + ms) Q (F0 m (pc + 3) ls rest)) : W p l e R s m args below meth c H locs cells slots Q (F0 m pc ls st0) := by
  have hA' : ∀ q : Nat, H.size ≤ q → A q := fun q h => hA q (Nat.le_trans hS.1 h)
  have hF : ∀ q, va_A (va_pl L f) H.size q → A q := fun q h => h.elim (fun ⟨k, e, h1⟩ => (o_D hD).2 k (q, e) h1) (hA' q)
  refine va_callv hr hS (fun q _ h => hF q h) hF (fun u t H1 locs1 ht _ hp hb _ k2 hS1 => ?_)
  obtain ⟨hb1, hb2⟩ := hb
  rw [ht] at hb1
  obtain ⟨g1, g2⟩ := o_back hP hD hA' k2 hb1 hb2
  exact kk u H1 locs1 hp g1 g2 hS1
/-- out[0] := x -/
theorem zlst (hexec : p.tables.exec = Jvm.exec) (hb : c.code = cc) (hE : zE D ca sa s) (hP : va_P D vwCl (oW ca ob g ++ va_pl L f) H) (hD : va_D A (oW ca ob g ++ va_pl L f)) (hS : va_S A H0 H locs) {x : Int64} (hdg : decode cc pc = .ok (.lastore, 1))
    (kk : ∀ (H1 : Heap) (locs1 : List Loc), va_P D vwCl (oW ca ob (vp_updL g 0 x) ++ va_pl L f) H1 → va_D A (oW ca ob (vp_updL g 0 x) ++ va_pl L f) → va_S A H0 H1 locs1 → W p l e R s m args below meth c H1 locs1 cells slots Q (F0 m (pc + 1) ls rest)) : W p l e R s m args below meth c H locs cells slots Q (F0 m pc ls (.long x :: .int (nI 0) :: .ref ob :: rest)) :=
  va_last hexec hb hE.1 hP hD hS 0 5 rfl rfl (vp_in_nI (by decide) (by decide)) hdg (fun H1 locs1 h1 h2 h3 => kk H1 locs1 h1 h2 h3)
theorem zlri {P : Int64 → zU → Prop} (u : zU) (hexec : p.tables.exec = Jvm.exec) (hb : c.code = cc) (hr : meth.sig.returnType = some .int) (hlocks : meth.locks = false) (hdg : decode cc pc = .ok (.ireturn, 1)) (hP : va_P D vwCl (oW ca ob g ++ va_pl u.1 u.2) H) (hD : va_D A (oW ca ob g ++ va_pl u.1 u.2)) (hS : va_S A s.heap H locs) (hp : P (g 0) u) : W p l e R s m args below meth c H locs cells slots (MQ below (va_Qi (fun (r : Int32) (u : zU × (Nat → Int64)) => r = nI 0 ∧ P (u.2 0) u.1) (fun u t => va_P D vwCl (oW ca ob u.2 ++ va_pl u.1.1 u.1.2) t.heap ∧ va_D A (oW ca ob u.2 ++ va_pl u.1.1 u.1.2)) A) args s cells slots A) (F0 m pc ls [.int (nI 0)]) :=
  W.iret hexec hb hr (fun t ht _ => ⟨⟨nI 0, (u, g), rfl, ⟨rfl, hp⟩, by rw [ht]; exact hP, hD⟩, hS.F ht⟩) hS.2.2 hdg hlocks
theorem zlrx {v : Int32} (hexec : p.tables.exec = Jvm.exec) (hb : c.code = cc) (hr : meth.sig.returnType = some .int) (hlocks : meth.locks = false) (hdg : decode cc pc = .ok (.ireturn, 1)) (hS : va_S A s.heap H locs) : W p l e R s m args below meth c H locs cells slots (MQ below (va_Qi (fun (r : Int32) (_ : Unit) => r = v) (fun _ _ => True) A) args s cells slots A) (F0 m pc ls [.int v]) :=
  W.iret hexec hb hr (fun t ht _ => ⟨⟨v, (), rfl, rfl, trivial⟩, hS.F ht⟩) hS.2.2 hdg hlocks
end ZL

set_option maxHeartbeats 4000000 in
set_option maxRecDepth 100000 in
theorem L_addTitle_ok (l : Launch) (D : va_G) (ca : Nat → ClassId) (sa : Nat → Nat) (L : List Nat) (f : Nat → va_E) (h0 ta pa : Nat) (aT aP aS : Nat → Nat) (aH : Nat → Nat → Nat) (n K : Nat) (V : zV) (hR : zRep L f ca h0 ta pa aT aP aS aH n K V) (a b : Nat) (ha : a ≤ 55) (hb1 : 1 ≤ b) (hb4 : b ≤ 4) (hnt : vNt V < 20) (hK : K < 512) (ob : Nat) (og : Nat → Int64) (sz : Nat) : vx_Met l yL_addTitle wsL_addTitle ({ frames := 10, cells := 1, slots := 2, locals := 450 }) (va_Pc [.ref h0, .int (nI a), .int (nI b), .ref ob] (zLp D L f ob og ca sa sz)) (va_Qi (fun (r : Int32) (u : zU × (Nat → Int64)) => r = nI 0 ∧ (fun (x9 : Int64) (u : zU) => x9 = (nI (vNt V)).toInt64 ∧ zR u.1 u.2 ca h0 (K + 1) (vTd V, vNt V + 1, vNp V, va_up (vT V) (vNt V) (a, b), vP V, vB V, vL V)) (u.2 0) u.1) (fun u t => va_P D vwCl (oW ca ob u.2 ++ va_pl u.1.1 u.1.2) t.heap ∧ va_D (va_A (oW ca ob og ++ va_pl L f) sz) (oW ca ob u.2 ++ va_pl u.1.1 u.1.2)) (va_A (oW ca ob og ++ va_pl L f) sz)) zX0 1 2 (va_A (oW ca ob og ++ va_pl L f) sz) := by
  refine vx_ofWH (hh := [(0, 10, 13, 13), (0, 10, 17, 15)]) (cc := cL_addTitle) (maxL := 5) (ret := (some .int)) (by decide) rfl ?_
  intro p e s m args below meth c s₁ B hml hv
  obtain ⟨rfl, hsz, hP, hD0, hE, hN, hZ⟩ := hv
  have hx := B.exec
  have hb := B.bytes
  have hr := B.returns
  have hts := atoms_spec (ws := wsL_addTitle) B.pre
  have hown : s.vm.findClass RL = some m.cls := findClass_of_methodNamed B.named
  have hlocks := B.notSynchronized
  have hl := lv_entry ([.ref h0, .int (nI a), .int (nI b), .ref ob]) (n := 5) (Nat.le_of_ble_eq_true rfl)
  rw [lg_entry_eq]
  generalize (lg_sl ([.ref h0, .int (nI a), .int (nI b), .ref ob]) ++ List.replicate (5 - (lg_sl ([.ref h0, .int (nI a), .int (nI b), .ref ob])).length) Slot.unset).toArray = ls at hl ⊢
  have hl : lv_has ls 5 [(0, .ref h0), (1, .int (nI a)), (2, .int (nI b)), (3, .ref ob)] := hl
  subst hsz
  have hD := hD0.self (sz := s.heap.size)
  generalize hAe : va_A (oW ca ob og ++ va_pl L f) s.heap.size = A at hD ⊢
  have hA : ∀ q : Nat, s.heap.size ≤ q → A q := fun q h => by rw [← hAe]; exact Or.inr h
  have hS : va_S A s.heap s.heap [] := va_S.rf
  have hW := hP
  have hP := o_P hW
  have h4 := hR.1.1
  refine lv_aload_n hx hb dL_addTitle_0 rfl (lv_at hl 3 rfl) ?_
  refine lv_iconst (v := nI 0) hx hb dL_addTitle_1 (by decide) ?_
  refine lv_aload_n hx hb dL_addTitle_2 rfl (lv_at hl 0 rfl) ?_
  refine lv_iload_n hx hb dL_addTitle_3 rfl (lv_at hl 1 rfl) ?_
  refine lv_iload_n hx hb dL_addTitle_4 rfl (lv_at hl 2 rfl) ?_
  refine zlw (va_runV (As := [.int (nI a), .int (nI b)]) (rest := [.int (nI 0), .ref ob]) ⟨hx, hb, hml, hown, hts⟩ (w_addTitle l D ca sa L f h0 ta pa aT aP aS aH n K V hR a b ha hb1 hb4 hnt hK _) (cwV 2 hts gL_addTitle_X4_addTitle rfl rfl rfl (by decide +kernel) ⟨Nat.le_of_ble_eq_true rfl, Nat.le_of_ble_eq_true rfl⟩) (zmVp hP (o_D hD) hE rfl h4) rfl rfl hl.1 rfl (lv_room (Nat.le_of_ble_eq_true rfl)) dL_addTitle_5 ⟨Nat.le_of_ble_eq_true rfl, Nat.le_of_ble_eq_true rfl⟩) hW hD hS hA (fun r u H locs hu hW hD hS => ?_)
  obtain ⟨rfl, hu⟩ := hu
  refine lv_i2l hx hb dL_addTitle_8 rfl ?_
  refine zlst hx hb hE hW hD hS dL_addTitle_9 (fun H locs hW hD hS => ?_)
  refine lv_goto (tgt := 21) hx hb dL_addTitle_10 (by decide) ?_
  refine lv_iconst (v := nI 0) hx hb dL_addTitle_21 (by decide) ?_
  exact vx_ret (zlri (P := fun (x9 : Int64) (u : zU) => x9 = (nI (vNt V)).toInt64 ∧ zR u.1 u.2 ca h0 (K + 1) (vTd V, vNt V + 1, vNp V, va_up (vT V) (vNt V) (a, b), vP V, vB V, vL V)) u hx hb hr hlocks dL_addTitle_22 hW hD hS ⟨rfl, hu⟩)

set_option maxHeartbeats 4000000 in
set_option maxRecDepth 100000 in
theorem L_yearOf_ok (l : Launch) (D : va_G) (ca : Nat → ClassId) (sa : Nat → Nat) (L : List Nat) (f : Nat → va_E) (h0 ta pa : Nat) (aT aP aS : Nat → Nat) (aH : Nat → Nat → Nat) (n K : Nat) (V : zV) (hR : zRep L f ca h0 ta pa aT aP aS aH n K V) (t : Nat) (ht : t < vNt V) (v : Nat) (hv1 : 1 ≤ v) (hv2 : v ≤ (56 - (vT V t).1) * (vT V t).2) (ob : Nat) (og : Nat → Int64) (sz : Nat) : vx_Met l yL_yearOf wsL_yearOf ({ frames := 10, cells := 0, slots := 0, locals := 450 }) (va_Pc [.ref h0, .int (nI t), .int (nI v), .ref ob] (zLp D L f ob og ca sa sz)) (va_Qi (fun (r : Int32) (u : zU × (Nat → Int64)) => r = nI 0 ∧ (fun (x9 : Int64) (u : zU) => x9 = (nI ((vT V t).1 + (v - 1) / (vT V t).2)).toInt64 ∧ u = (L, f)) (u.2 0) u.1) (fun u t => va_P D vwCl (oW ca ob u.2 ++ va_pl u.1.1 u.1.2) t.heap ∧ va_D (va_A (oW ca ob og ++ va_pl L f) sz) (oW ca ob u.2 ++ va_pl u.1.1 u.1.2)) (va_A (oW ca ob og ++ va_pl L f) sz)) zX0 0 0 (va_A (oW ca ob og ++ va_pl L f) sz) := by
  refine vx_ofWH (hh := [(0, 10, 13, 20), (0, 10, 17, 13)]) (cc := cL_yearOf) (maxL := 5) (ret := (some .int)) (by decide) rfl ?_
  intro p e s m args below meth c s₁ B hml hv
  obtain ⟨rfl, hsz, hP, hD0, hE, hN, hZ⟩ := hv
  have hx := B.exec
  have hb := B.bytes
  have hr := B.returns
  have hts := atoms_spec (ws := wsL_yearOf) B.pre
  have hown : s.vm.findClass RL = some m.cls := findClass_of_methodNamed B.named
  have hlocks := B.notSynchronized
  have hl := lv_entry ([.ref h0, .int (nI t), .int (nI v), .ref ob]) (n := 5) (Nat.le_of_ble_eq_true rfl)
  rw [lg_entry_eq]
  generalize (lg_sl ([.ref h0, .int (nI t), .int (nI v), .ref ob]) ++ List.replicate (5 - (lg_sl ([.ref h0, .int (nI t), .int (nI v), .ref ob])).length) Slot.unset).toArray = ls at hl ⊢
  have hl : lv_has ls 5 [(0, .ref h0), (1, .int (nI t)), (2, .int (nI v)), (3, .ref ob)] := hl
  subst hsz
  have hD := hD0.self (sz := s.heap.size)
  generalize hAe : va_A (oW ca ob og ++ va_pl L f) s.heap.size = A at hD ⊢
  have hA : ∀ q : Nat, s.heap.size ≤ q → A q := fun q h => by rw [← hAe]; exact Or.inr h
  have hS : va_S A s.heap s.heap [] := va_S.rf
  have hW := hP
  have hP := o_P hW
  have h4 := hR.1.1
  refine lv_aload_n hx hb dL_yearOf_0 rfl (lv_at hl 3 rfl) ?_
  refine lv_iconst (v := nI 0) hx hb dL_yearOf_1 (by decide) ?_
  refine lv_aload_n hx hb dL_yearOf_2 rfl (lv_at hl 0 rfl) ?_
  refine lv_iload_n hx hb dL_yearOf_3 rfl (lv_at hl 1 rfl) ?_
  refine lv_iload_n hx hb dL_yearOf_4 rfl (lv_at hl 2 rfl) ?_
  refine zci (va_runV (As := [.int (nI t), .int (nI v)]) (rest := [.int (nI 0), .ref ob]) ⟨hx, hb, hml, hown, hts⟩ (c_yearOf l D ca sa L f h0 ta pa aT aP aS aH n K V hR t ht v hv1 hv2) (cwV 2 hts gL_yearOf_X4_yearOf rfl rfl rfl (by decide +kernel) ⟨Nat.le_of_ble_eq_true rfl, Nat.le_of_ble_eq_true rfl⟩) (zpVp hP hE rfl h4) rfl rfl hl.1 rfl (lv_room (Nat.le_of_ble_eq_true rfl)) dL_yearOf_5 ⟨Nat.le_of_ble_eq_true rfl, Nat.le_of_ble_eq_true rfl⟩) ?_
  refine lv_i2l hx hb dL_yearOf_8 rfl ?_
  refine zlst hx hb hE hW hD hS dL_yearOf_9 (fun H locs hW hD hS => ?_)
  refine lv_goto (tgt := 21) hx hb dL_yearOf_10 (by decide) ?_
  refine lv_iconst (v := nI 0) hx hb dL_yearOf_21 (by decide) ?_
  exact vx_ret (zlri (P := fun (x9 : Int64) (u : zU) => x9 = (nI ((vT V t).1 + (v - 1) / (vT V t).2)).toInt64 ∧ u = (L, f)) (L, f) hx hb hr hlocks dL_yearOf_22 hW hD hS ⟨rfl, rfl⟩)

set_option maxHeartbeats 4000000 in
set_option maxRecDepth 100000 in
theorem L_volumeOf_ok (l : Launch) (D : va_G) (ca : Nat → ClassId) (sa : Nat → Nat) (L : List Nat) (f : Nat → va_E) (h0 ta pa : Nat) (aT aP aS : Nat → Nat) (aH : Nat → Nat → Nat) (n K : Nat) (V : zV) (hR : zRep L f ca h0 ta pa aT aP aS aH n K V) (t : Nat) (ht : t < vNt V) (y : Nat) (hy : (vT V t).1 ≤ y) (hy2 : y ≤ 55) (ob : Nat) (og : Nat → Int64) (sz : Nat) : vx_Met l yL_volumeOf wsL_volumeOf ({ frames := 10, cells := 0, slots := 0, locals := 450 }) (va_Pc [.ref h0, .int (nI t), .int (nI y), .ref ob] (zLp D L f ob og ca sa sz)) (va_Qi (fun (r : Int32) (u : zU × (Nat → Int64)) => r = nI 0 ∧ (fun (x9 : Int64) (u : zU) => x9 = (nI ((y - (vT V t).1) * (vT V t).2 + 1)).toInt64 ∧ u = (L, f)) (u.2 0) u.1) (fun u t => va_P D vwCl (oW ca ob u.2 ++ va_pl u.1.1 u.1.2) t.heap ∧ va_D (va_A (oW ca ob og ++ va_pl L f) sz) (oW ca ob u.2 ++ va_pl u.1.1 u.1.2)) (va_A (oW ca ob og ++ va_pl L f) sz)) zX0 0 0 (va_A (oW ca ob og ++ va_pl L f) sz) := by
  refine vx_ofWH (hh := [(0, 10, 13, 20), (0, 10, 17, 13)]) (cc := cL_volumeOf) (maxL := 5) (ret := (some .int)) (by decide) rfl ?_
  intro p e s m args below meth c s₁ B hml hv
  obtain ⟨rfl, hsz, hP, hD0, hE, hN, hZ⟩ := hv
  have hx := B.exec
  have hb := B.bytes
  have hr := B.returns
  have hts := atoms_spec (ws := wsL_volumeOf) B.pre
  have hown : s.vm.findClass RL = some m.cls := findClass_of_methodNamed B.named
  have hlocks := B.notSynchronized
  have hl := lv_entry ([.ref h0, .int (nI t), .int (nI y), .ref ob]) (n := 5) (Nat.le_of_ble_eq_true rfl)
  rw [lg_entry_eq]
  generalize (lg_sl ([.ref h0, .int (nI t), .int (nI y), .ref ob]) ++ List.replicate (5 - (lg_sl ([.ref h0, .int (nI t), .int (nI y), .ref ob])).length) Slot.unset).toArray = ls at hl ⊢
  have hl : lv_has ls 5 [(0, .ref h0), (1, .int (nI t)), (2, .int (nI y)), (3, .ref ob)] := hl
  subst hsz
  have hD := hD0.self (sz := s.heap.size)
  generalize hAe : va_A (oW ca ob og ++ va_pl L f) s.heap.size = A at hD ⊢
  have hA : ∀ q : Nat, s.heap.size ≤ q → A q := fun q h => by rw [← hAe]; exact Or.inr h
  have hS : va_S A s.heap s.heap [] := va_S.rf
  have hW := hP
  have hP := o_P hW
  have h4 := hR.1.1
  refine lv_aload_n hx hb dL_volumeOf_0 rfl (lv_at hl 3 rfl) ?_
  refine lv_iconst (v := nI 0) hx hb dL_volumeOf_1 (by decide) ?_
  refine lv_aload_n hx hb dL_volumeOf_2 rfl (lv_at hl 0 rfl) ?_
  refine lv_iload_n hx hb dL_volumeOf_3 rfl (lv_at hl 1 rfl) ?_
  refine lv_iload_n hx hb dL_volumeOf_4 rfl (lv_at hl 2 rfl) ?_
  refine zci (va_runV (As := [.int (nI t), .int (nI y)]) (rest := [.int (nI 0), .ref ob]) ⟨hx, hb, hml, hown, hts⟩ (c_volumeOf l D ca sa L f h0 ta pa aT aP aS aH n K V hR t ht y hy hy2) (cwV 2 hts gL_volumeOf_X4_volumeOf rfl rfl rfl (by decide +kernel) ⟨Nat.le_of_ble_eq_true rfl, Nat.le_of_ble_eq_true rfl⟩) (zpVp hP hE rfl h4) rfl rfl hl.1 rfl (lv_room (Nat.le_of_ble_eq_true rfl)) dL_volumeOf_5 ⟨Nat.le_of_ble_eq_true rfl, Nat.le_of_ble_eq_true rfl⟩) ?_
  refine lv_i2l hx hb dL_volumeOf_8 rfl ?_
  refine zlst hx hb hE hW hD hS dL_volumeOf_9 (fun H locs hW hD hS => ?_)
  refine lv_goto (tgt := 21) hx hb dL_volumeOf_10 (by decide) ?_
  refine lv_iconst (v := nI 0) hx hb dL_volumeOf_21 (by decide) ?_
  exact vx_ret (zlri (P := fun (x9 : Int64) (u : zU) => x9 = (nI ((y - (vT V t).1) * (vT V t).2 + 1)).toInt64 ∧ u = (L, f)) (L, f) hx hb hr hlocks dL_volumeOf_22 hW hD hS ⟨rfl, rfl⟩)

set_option maxHeartbeats 4000000 in
set_option maxRecDepth 100000 in
theorem L_addPackage_ok (l : Launch) (D : va_G) (ca : Nat → ClassId) (sa : Nat → Nat) (L : List Nat) (f : Nat → va_E) (h0 ta pa : Nat) (aT aP aS : Nat → Nat) (aH : Nat → Nat → Nat) (n K : Nat) (V : zV) (hR : zRep L f ca h0 ta pa aT aP aS aH n K V) (a b g k : Nat) (ha : a ≤ 1000) (hb2 : b ≤ 2) (hg : g ≤ 15) (hk : k ≤ 1) (hnp : vNp V < 10) (hK : K < 512) (ob : Nat) (og : Nat → Int64) (sz : Nat) : vx_Met l yL_addPackage wsL_addPackage ({ frames := 10, cells := 23, slots := 68, locals := 450 }) (va_Pc [.ref h0, .int (nI a), .int (nI b), .int (nI g), .int (nI k), .ref ob] (zLp D L f ob og ca sa sz)) (va_Qi (fun (r : Int32) (u : zU × (Nat → Int64)) => r = nI 0 ∧ (fun (x9 : Int64) (u : zU) => x9 = (nI (vNp V)).toInt64 ∧ zR u.1 u.2 ca h0 (K + 1) (vTd V, vNt V, vNp V + 1, vT V, va_up (vP V) (vNp V) (a, b, g, k), va_up (vB V) (vNp V) (fun _ => 0), va_up (vL V) (vNp V) (fun _ => []))) (u.2 0) u.1) (fun u t => va_P D vwCl (oW ca ob u.2 ++ va_pl u.1.1 u.1.2) t.heap ∧ va_D (va_A (oW ca ob og ++ va_pl L f) sz) (oW ca ob u.2 ++ va_pl u.1.1 u.1.2)) (va_A (oW ca ob og ++ va_pl L f) sz)) zX0 23 68 (va_A (oW ca ob og ++ va_pl L f) sz) := by
  refine vx_ofWH (hh := [(0, 14, 17, 13), (0, 14, 21, 15)]) (cc := cL_addPackage) (maxL := 7) (ret := (some .int)) (by decide) rfl ?_
  intro p e s m args below meth c s₁ B hml hv
  obtain ⟨rfl, hsz, hP, hD0, hE, hN, hZ⟩ := hv
  have hx := B.exec
  have hb := B.bytes
  have hr := B.returns
  have hts := atoms_spec (ws := wsL_addPackage) B.pre
  have hown : s.vm.findClass RL = some m.cls := findClass_of_methodNamed B.named
  have hlocks := B.notSynchronized
  have hl := lv_entry ([.ref h0, .int (nI a), .int (nI b), .int (nI g), .int (nI k), .ref ob]) (n := 7) (Nat.le_of_ble_eq_true rfl)
  rw [lg_entry_eq]
  generalize (lg_sl ([.ref h0, .int (nI a), .int (nI b), .int (nI g), .int (nI k), .ref ob]) ++ List.replicate (7 - (lg_sl ([.ref h0, .int (nI a), .int (nI b), .int (nI g), .int (nI k), .ref ob])).length) Slot.unset).toArray = ls at hl ⊢
  have hl : lv_has ls 7 [(0, .ref h0), (1, .int (nI a)), (2, .int (nI b)), (3, .int (nI g)), (4, .int (nI k)), (5, .ref ob)] := hl
  subst hsz
  have hD := hD0.self (sz := s.heap.size)
  generalize hAe : va_A (oW ca ob og ++ va_pl L f) s.heap.size = A at hD ⊢
  have hA : ∀ q : Nat, s.heap.size ≤ q → A q := fun q h => by rw [← hAe]; exact Or.inr h
  have hS : va_S A s.heap s.heap [] := va_S.rf
  have hW := hP
  have hP := o_P hW
  have h4 := hR.1.1
  refine lv_aload hx hb dL_addPackage_0 (lv_at hl 5 rfl) ?_
  refine lv_iconst (v := nI 0) hx hb dL_addPackage_2 (by decide) ?_
  refine lv_aload_n hx hb dL_addPackage_3 rfl (lv_at hl 0 rfl) ?_
  refine lv_iload_n hx hb dL_addPackage_4 rfl (lv_at hl 1 rfl) ?_
  refine lv_iload_n hx hb dL_addPackage_5 rfl (lv_at hl 2 rfl) ?_
  refine lv_iload_n hx hb dL_addPackage_6 rfl (lv_at hl 3 rfl) ?_
  refine lv_iload hx hb dL_addPackage_7 (lv_at hl 4 rfl) ?_
  refine zlw (va_runV (As := [.int (nI a), .int (nI b), .int (nI g), .int (nI k)]) (rest := [.int (nI 0), .ref ob]) ⟨hx, hb, hml, hown, hts⟩ (w_addPackage l D ca sa L f h0 ta pa aT aP aS aH n K V hR a b g k ha hb2 hg hk hnp hK _) (cwV 4 hts gL_addPackage_X4_addPackage rfl rfl rfl (by decide +kernel) ⟨Nat.le_of_ble_eq_true rfl, Nat.le_of_ble_eq_true rfl⟩) (zmVp hP (o_D hD) hE rfl h4) rfl rfl hl.1 rfl (lv_room (Nat.le_of_ble_eq_true rfl)) dL_addPackage_9 ⟨Nat.le_of_ble_eq_true rfl, Nat.le_of_ble_eq_true rfl⟩) hW hD hS hA (fun r u H locs hu hW hD hS => ?_)
  obtain ⟨rfl, hu⟩ := hu
  refine lv_i2l hx hb dL_addPackage_12 rfl ?_
  refine zlst hx hb hE hW hD hS dL_addPackage_13 (fun H locs hW hD hS => ?_)
  refine lv_goto (tgt := 25) hx hb dL_addPackage_14 (by decide) ?_
  refine lv_iconst (v := nI 0) hx hb dL_addPackage_25 (by decide) ?_
  exact vx_ret (zlri (P := fun (x9 : Int64) (u : zU) => x9 = (nI (vNp V)).toInt64 ∧ zR u.1 u.2 ca h0 (K + 1) (vTd V, vNt V, vNp V + 1, vT V, va_up (vP V) (vNp V) (a, b, g, k), va_up (vB V) (vNp V) (fun _ => 0), va_up (vL V) (vNp V) (fun _ => []))) u hx hb hr hlocks dL_addPackage_26 hW hD hS ⟨rfl, hu⟩)

set_option maxHeartbeats 4000000 in
set_option maxRecDepth 100000 in
theorem L_subscribe_ok (l : Launch) (D : va_G) (ca : Nat → ClassId) (sa : Nat → Nat) (L : List Nat) (f : Nat → va_E) (h0 ta pa : Nat) (aT aP aS : Nat → Nat) (aH : Nat → Nat → Nat) (n K : Nat) (V : zV) (hR : zRep L f ca h0 ta pa aT aP aS aH n K V) (q : Nat) (b : Bool) (hq : q < vNp V) (hK : K < 512) (ob : Nat) (og : Nat → Int64) (sz : Nat) : vx_Met l yL_subscribe wsL_subscribe ({ frames := 10, cells := 1, slots := 4, locals := 450 }) (va_Pc [.ref h0, .int (nI q), .int (bI b), .ref ob] (zLp D L f ob og ca sa sz)) (va_Qi (fun (r : Int32) (u : zU × (Nat → Int64)) => r = nI 0 ∧ (fun (x9 : Int64) (u : zU) => x9 = bL (zOn (vTd V) (vL V q 20)) ∧ zR u.1 u.2 ca h0 (K + 1) (vTd V, vNt V, vNp V, vT V, vP V, vB V, zU2 (vL V) q 20 ((vTd V, zAll b, 0) :: vL V q 20))) (u.2 0) u.1) (fun u t => va_P D vwCl (oW ca ob u.2 ++ va_pl u.1.1 u.1.2) t.heap ∧ va_D (va_A (oW ca ob og ++ va_pl L f) sz) (oW ca ob u.2 ++ va_pl u.1.1 u.1.2)) (va_A (oW ca ob og ++ va_pl L f) sz)) zX0 1 4 (va_A (oW ca ob og ++ va_pl L f) sz) := by
  refine vx_ofWH (hh := [(0, 17, 20, 20)]) (cc := cL_subscribe) (maxL := 5) (ret := (some .int)) (by decide) rfl ?_
  intro p e s m args below meth c s₁ B hml hv
  obtain ⟨rfl, hsz, hP, hD0, hE, hN, hZ⟩ := hv
  have hx := B.exec
  have hb := B.bytes
  have hr := B.returns
  have hts := atoms_spec (ws := wsL_subscribe) B.pre
  have hown : s.vm.findClass RL = some m.cls := findClass_of_methodNamed B.named
  have hlocks := B.notSynchronized
  have hl := lv_entry ([.ref h0, .int (nI q), .int (bI b), .ref ob]) (n := 5) (Nat.le_of_ble_eq_true rfl)
  rw [lg_entry_eq]
  generalize (lg_sl ([.ref h0, .int (nI q), .int (bI b), .ref ob]) ++ List.replicate (5 - (lg_sl ([.ref h0, .int (nI q), .int (bI b), .ref ob])).length) Slot.unset).toArray = ls at hl ⊢
  have hl : lv_has ls 5 [(0, .ref h0), (1, .int (nI q)), (2, .int (bI b)), (3, .ref ob)] := hl
  subst hsz
  have hD := hD0.self (sz := s.heap.size)
  generalize hAe : va_A (oW ca ob og ++ va_pl L f) s.heap.size = A at hD ⊢
  have hA : ∀ q : Nat, s.heap.size ≤ q → A q := fun q h => by rw [← hAe]; exact Or.inr h
  have hS : va_S A s.heap s.heap [] := va_S.rf
  have hW := hP
  have hP := o_P hW
  have h4 := hR.1.1
  refine lv_aload_n hx hb dL_subscribe_0 rfl (lv_at hl 3 rfl) ?_
  refine lv_iconst (v := nI 0) hx hb dL_subscribe_1 (by decide) ?_
  refine lv_aload_n hx hb dL_subscribe_2 rfl (lv_at hl 0 rfl) ?_
  refine lv_iload_n hx hb dL_subscribe_3 rfl (lv_at hl 1 rfl) ?_
  refine lv_iload_n hx hb dL_subscribe_4 rfl (lv_at hl 2 rfl) ?_
  refine zlw (va_runV (As := [.int (nI q), .int (bI b)]) (rest := [.int (nI 0), .ref ob]) ⟨hx, hb, hml, hown, hts⟩ (w_subscribe l D ca sa L f h0 ta pa aT aP aS aH n K V hR q b hq hK _) (cwV 2 hts gL_subscribe_X4_subscribe rfl rfl rfl (by decide +kernel) ⟨Nat.le_of_ble_eq_true rfl, Nat.le_of_ble_eq_true rfl⟩) (zmVp hP (o_D hD) hE rfl h4) rfl rfl hl.1 rfl (lv_room (Nat.le_of_ble_eq_true rfl)) dL_subscribe_5 ⟨Nat.le_of_ble_eq_true rfl, Nat.le_of_ble_eq_true rfl⟩) hW hD hS hA (fun r u H locs hu hW hD hS => ?_)
  obtain ⟨rfl, hu⟩ := hu
  refine lv_if_eq (tgt := 15) hx hb dL_subscribe_8 (by decide) (fun c_8 => ?_) (fun c_8 => ?_)
  · skip
    refine lv_lconst (v := 0) hx hb dL_subscribe_15 (by decide) ?_
    refine zlst hx hb hE hW hD hS dL_subscribe_16 (fun H locs hW hD hS => ?_)
    refine lv_goto (tgt := 24) hx hb dL_subscribe_17 (by decide) ?_
    refine lv_iconst (v := nI 0) hx hb dL_subscribe_24 (by decide) ?_
    exact vx_ret (zlri (P := fun (x9 : Int64) (u : zU) => x9 = bL (zOn (vTd V) (vL V q 20)) ∧ zR u.1 u.2 ca h0 (K + 1) (vTd V, vNt V, vNp V, vT V, vP V, vB V, zU2 (vL V) q 20 ((vTd V, zAll b, 0) :: vL V q 20))) u hx hb hr hlocks dL_subscribe_25 hW hD hS ⟨by rw [bI_eq0 c_8]; rfl, hu⟩)
  · skip
    refine lv_lconst (v := 1) hx hb dL_subscribe_11 (by decide) ?_
    refine lv_goto (tgt := 16) hx hb dL_subscribe_12 (by decide) ?_
    refine zlst hx hb hE hW hD hS dL_subscribe_16 (fun H locs hW hD hS => ?_)
    refine lv_goto (tgt := 24) hx hb dL_subscribe_17 (by decide) ?_
    refine lv_iconst (v := nI 0) hx hb dL_subscribe_24 (by decide) ?_
    exact vx_ret (zlri (P := fun (x9 : Int64) (u : zU) => x9 = bL (zOn (vTd V) (vL V q 20)) ∧ zR u.1 u.2 ca h0 (K + 1) (vTd V, vNt V, vNp V, vT V, vP V, vB V, zU2 (vL V) q 20 ((vTd V, zAll b, 0) :: vL V q 20))) u hx hb hr hlocks dL_subscribe_25 hW hD hS ⟨by rw [bI_ne0 c_8]; rfl, hu⟩)

set_option maxHeartbeats 4000000 in
set_option maxRecDepth 100000 in
theorem L_come_ok (l : Launch) (D : va_G) (ca : Nat → ClassId) (sa : Nat → Nat) (L : List Nat) (f : Nat → va_E) (h0 ta pa : Nat) (aT aP aS : Nat → Nat) (aH : Nat → Nat → Nat) (n K : Nat) (V : zV) (hR : zRep L f ca h0 ta pa aT aP aS aH n K V) (q : Nat) (hq : q < vNp V) (t : Nat) (ht : t < vNt V) (a b w : Nat) (ha : a ≤ b) (hb5 : b ≤ 55) (hw : w ≤ 20) (hK : K < 512) (ob : Nat) (og : Nat → Int64) (sz : Nat) : vx_Met l yL_come wsL_come ({ frames := 10, cells := 1, slots := 4, locals := 450 }) (va_Pc [.ref h0, .int (nI q), .int (nI t), .int (nI a), .int (nI b), .int (nI w), .ref ob] (zLp D L f ob og ca sa sz)) (va_Qi (fun (r : Int32) (u : zU × (Nat → Int64)) => r = nI 0 ∧ (fun (x9 : Int64) (u : zU) => x9 = bL (zOn (vTd V) (vL V q t)) ∧ zR u.1 u.2 ca h0 (K + 1) (vTd V, vNt V, vNp V, vT V, vP V, vB V, zU2 (vL V) q t ((vTd V, yB (nI a) (nI b), w) :: vL V q t))) (u.2 0) u.1) (fun u t => va_P D vwCl (oW ca ob u.2 ++ va_pl u.1.1 u.1.2) t.heap ∧ va_D (va_A (oW ca ob og ++ va_pl L f) sz) (oW ca ob u.2 ++ va_pl u.1.1 u.1.2)) (va_A (oW ca ob og ++ va_pl L f) sz)) zX0 1 4 (va_A (oW ca ob og ++ va_pl L f) sz) := by
  refine vx_ofWH (hh := [(0, 23, 26, 20), (0, 23, 30, 13)]) (cc := cL_come) (maxL := 8) (ret := (some .int)) (by decide) rfl ?_
  intro p e s m args below meth c s₁ B hml hv
  obtain ⟨rfl, hsz, hP, hD0, hE, hN, hZ⟩ := hv
  have hx := B.exec
  have hb := B.bytes
  have hr := B.returns
  have hts := atoms_spec (ws := wsL_come) B.pre
  have hown : s.vm.findClass RL = some m.cls := findClass_of_methodNamed B.named
  have hlocks := B.notSynchronized
  have hl := lv_entry ([.ref h0, .int (nI q), .int (nI t), .int (nI a), .int (nI b), .int (nI w), .ref ob]) (n := 8) (Nat.le_of_ble_eq_true rfl)
  rw [lg_entry_eq]
  generalize (lg_sl ([.ref h0, .int (nI q), .int (nI t), .int (nI a), .int (nI b), .int (nI w), .ref ob]) ++ List.replicate (8 - (lg_sl ([.ref h0, .int (nI q), .int (nI t), .int (nI a), .int (nI b), .int (nI w), .ref ob])).length) Slot.unset).toArray = ls at hl ⊢
  have hl : lv_has ls 8 [(0, .ref h0), (1, .int (nI q)), (2, .int (nI t)), (3, .int (nI a)), (4, .int (nI b)), (5, .int (nI w)), (6, .ref ob)] := hl
  subst hsz
  have hD := hD0.self (sz := s.heap.size)
  generalize hAe : va_A (oW ca ob og ++ va_pl L f) s.heap.size = A at hD ⊢
  have hA : ∀ q : Nat, s.heap.size ≤ q → A q := fun q h => by rw [← hAe]; exact Or.inr h
  have hS : va_S A s.heap s.heap [] := va_S.rf
  have hW := hP
  have hP := o_P hW
  have h4 := hR.1.1
  refine lv_aload hx hb dL_come_0 (lv_at hl 6 rfl) ?_
  refine lv_iconst (v := nI 0) hx hb dL_come_2 (by decide) ?_
  refine lv_aload_n hx hb dL_come_3 rfl (lv_at hl 0 rfl) ?_
  refine lv_iload_n hx hb dL_come_4 rfl (lv_at hl 1 rfl) ?_
  refine lv_iload_n hx hb dL_come_5 rfl (lv_at hl 2 rfl) ?_
  refine lv_iload_n hx hb dL_come_6 rfl (lv_at hl 3 rfl) ?_
  refine lv_iload hx hb dL_come_7 (lv_at hl 4 rfl) ?_
  refine lv_iload hx hb dL_come_9 (lv_at hl 5 rfl) ?_
  refine zlw (va_runV (As := [.int (nI q), .int (nI t), .int (nI a), .int (nI b), .int (nI w)]) (rest := [.int (nI 0), .ref ob]) ⟨hx, hb, hml, hown, hts⟩ (w_come l D ca sa L f h0 ta pa aT aP aS aH n K V hR q hq t ht a b w ha hb5 hw hK _) (cwV 5 hts gL_come_X4_come rfl rfl rfl (by decide +kernel) ⟨Nat.le_of_ble_eq_true rfl, Nat.le_of_ble_eq_true rfl⟩) (zmVp hP (o_D hD) hE rfl h4) rfl rfl hl.1 rfl (lv_room (Nat.le_of_ble_eq_true rfl)) dL_come_11 ⟨Nat.le_of_ble_eq_true rfl, Nat.le_of_ble_eq_true rfl⟩) hW hD hS hA (fun r u H locs hu hW hD hS => ?_)
  obtain ⟨rfl, hu⟩ := hu
  refine lv_if_eq (tgt := 21) hx hb dL_come_14 (by decide) (fun c_14 => ?_) (fun c_14 => ?_)
  · skip
    refine lv_lconst (v := 0) hx hb dL_come_21 (by decide) ?_
    refine zlst hx hb hE hW hD hS dL_come_22 (fun H locs hW hD hS => ?_)
    refine lv_goto (tgt := 34) hx hb dL_come_23 (by decide) ?_
    refine lv_iconst (v := nI 0) hx hb dL_come_34 (by decide) ?_
    exact vx_ret (zlri (P := fun (x9 : Int64) (u : zU) => x9 = bL (zOn (vTd V) (vL V q t)) ∧ zR u.1 u.2 ca h0 (K + 1) (vTd V, vNt V, vNp V, vT V, vP V, vB V, zU2 (vL V) q t ((vTd V, yB (nI a) (nI b), w) :: vL V q t))) u hx hb hr hlocks dL_come_35 hW hD hS ⟨by rw [bI_eq0 c_14]; rfl, hu⟩)
  · skip
    refine lv_lconst (v := 1) hx hb dL_come_17 (by decide) ?_
    refine lv_goto (tgt := 22) hx hb dL_come_18 (by decide) ?_
    refine zlst hx hb hE hW hD hS dL_come_22 (fun H locs hW hD hS => ?_)
    refine lv_goto (tgt := 34) hx hb dL_come_23 (by decide) ?_
    refine lv_iconst (v := nI 0) hx hb dL_come_34 (by decide) ?_
    exact vx_ret (zlri (P := fun (x9 : Int64) (u : zU) => x9 = bL (zOn (vTd V) (vL V q t)) ∧ zR u.1 u.2 ca h0 (K + 1) (vTd V, vNt V, vNp V, vT V, vP V, vB V, zU2 (vL V) q t ((vTd V, yB (nI a) (nI b), w) :: vL V q t))) u hx hb hr hlocks dL_come_35 hW hD hS ⟨by rw [bI_ne0 c_14]; rfl, hu⟩)

set_option maxHeartbeats 4000000 in
set_option maxRecDepth 100000 in
theorem L_go_ok (l : Launch) (D : va_G) (ca : Nat → ClassId) (sa : Nat → Nat) (L : List Nat) (f : Nat → va_E) (h0 ta pa : Nat) (aT aP aS : Nat → Nat) (aH : Nat → Nat → Nat) (n K : Nat) (V : zV) (hR : zRep L f ca h0 ta pa aT aP aS aH n K V) (q : Nat) (hq : q < vNp V) (t : Nat) (ht : t < vNt V) (hon : zOn (vTd V) (vL V q t) = true) (hK : K < 512) (ob : Nat) (og : Nat → Int64) (sz : Nat) : vx_Met l yL_go wsL_go ({ frames := 10, cells := 1, slots := 4, locals := 450 }) (va_Pc [.ref h0, .int (nI q), .int (nI t)] (zLp D L f ob og ca sa sz)) (va_Qi (fun (r : Int32) (u : zU × (Nat → Int64)) => r = nI 0 ∧ (fun (x9 : Int64) (u : zU) => zR u.1 u.2 ca h0 (K + 1) (vTd V, vNt V, vNp V, vT V, vP V, vB V, zU2 (vL V) q t ((vTd V, 0, 0) :: vL V q t))) (u.2 0) u.1) (fun u t => va_P D vwCl (oW ca ob u.2 ++ va_pl u.1.1 u.1.2) t.heap ∧ va_D (va_A (oW ca ob og ++ va_pl L f) sz) (oW ca ob u.2 ++ va_pl u.1.1 u.1.2)) (va_A (oW ca ob og ++ va_pl L f) sz)) zX0 1 4 (va_A (oW ca ob og ++ va_pl L f) sz) := by
  refine vx_ofWH (hh := [(0, 6, 9, 20), (0, 6, 12, 15)]) (cc := cL_go) (maxL := 4) (ret := (some .int)) (by decide) rfl ?_
  intro p e s m args below meth c s₁ B hml hv
  obtain ⟨rfl, hsz, hP, hD0, hE, hN, hZ⟩ := hv
  have hx := B.exec
  have hb := B.bytes
  have hr := B.returns
  have hts := atoms_spec (ws := wsL_go) B.pre
  have hown : s.vm.findClass RL = some m.cls := findClass_of_methodNamed B.named
  have hlocks := B.notSynchronized
  have hl := lv_entry ([.ref h0, .int (nI q), .int (nI t)]) (n := 4) (Nat.le_of_ble_eq_true rfl)
  rw [lg_entry_eq]
  generalize (lg_sl ([.ref h0, .int (nI q), .int (nI t)]) ++ List.replicate (4 - (lg_sl ([.ref h0, .int (nI q), .int (nI t)])).length) Slot.unset).toArray = ls at hl ⊢
  have hl : lv_has ls 4 [(0, .ref h0), (1, .int (nI q)), (2, .int (nI t))] := hl
  subst hsz
  have hD := hD0.self (sz := s.heap.size)
  generalize hAe : va_A (oW ca ob og ++ va_pl L f) s.heap.size = A at hD ⊢
  have hA : ∀ q : Nat, s.heap.size ≤ q → A q := fun q h => by rw [← hAe]; exact Or.inr h
  have hS : va_S A s.heap s.heap [] := va_S.rf
  have hW := hP
  have hP := o_P hW
  have h4 := hR.1.1
  refine lv_aload_n hx hb dL_go_0 rfl (lv_at hl 0 rfl) ?_
  refine lv_iload_n hx hb dL_go_1 rfl (lv_at hl 1 rfl) ?_
  refine lv_iload_n hx hb dL_go_2 rfl (lv_at hl 2 rfl) ?_
  refine zlwv (va_runV (As := [.int (nI q), .int (nI t)]) (rest := []) ⟨hx, hb, hml, hown, hts⟩ (w_go l D ca sa L f h0 ta pa aT aP aS aH n K V hR q hq t ht hon hK _) (cwV 2 hts gL_go_X4_go rfl rfl rfl (by decide +kernel) ⟨Nat.le_of_ble_eq_true rfl, Nat.le_of_ble_eq_true rfl⟩) (zmVp hP (o_D hD) hE rfl h4) rfl rfl hl.1 rfl (lv_room (Nat.le_of_ble_eq_true rfl)) dL_go_3 ⟨Nat.le_of_ble_eq_true rfl, Nat.le_of_ble_eq_true rfl⟩) hW hD hS hA (fun u H locs hu hW hD hS => ?_)
  refine lv_goto (tgt := 15) hx hb dL_go_6 (by decide) ?_
  refine lv_iconst (v := nI 0) hx hb dL_go_15 (by decide) ?_
  exact vx_ret (zlri (P := fun (x9 : Int64) (u : zU) => zR u.1 u.2 ca h0 (K + 1) (vTd V, vNt V, vNp V, vT V, vP V, vB V, zU2 (vL V) q t ((vTd V, 0, 0) :: vL V q t))) u hx hb hr hlocks dL_go_16 hW hD hS hu)

set_option maxHeartbeats 4000000 in
set_option maxRecDepth 100000 in
theorem L_pass_ok (l : Launch) (D : va_G) (ca : Nat → ClassId) (sa : Nat → Nat) (L : List Nat) (f : Nat → va_E) (h0 ta pa : Nat) (aT aP aS : Nat → Nat) (aH : Nat → Nat → Nat) (n K : Nat) (V : zV) (hR : zRep L f ca h0 ta pa aT aP aS aH n K V) (d : Nat) (h1 : 1 ≤ d) (h2 : d ≤ 20000) (hd : vTd V + d ≤ 20000) (hK : K < 512) (ob : Nat) (og : Nat → Int64) (sz : Nat) : vx_Met l yL_pass wsL_pass ({ frames := 10, cells := 0, slots := 0, locals := 450 }) (va_Pc [.ref h0, .int (nI d), .ref ob] (zLp D L f ob og ca sa sz)) (va_Qi (fun (r : Int32) (u : zU × (Nat → Int64)) => r = nI 0 ∧ (fun (x9 : Int64) (u : zU) => x9 = (nI (vTd V + d)).toInt64 ∧ zR u.1 u.2 ca h0 (K + 1) (vTd V + d, vNt V, vNp V, vT V, vP V, vB V, vL V)) (u.2 0) u.1) (fun u t => va_P D vwCl (oW ca ob u.2 ++ va_pl u.1.1 u.1.2) t.heap ∧ va_D (va_A (oW ca ob og ++ va_pl L f) sz) (oW ca ob u.2 ++ va_pl u.1.1 u.1.2)) (va_A (oW ca ob og ++ va_pl L f) sz)) zX0 0 0 (va_A (oW ca ob og ++ va_pl L f) sz) := by
  refine vx_ofWH (hh := [(0, 9, 12, 13), (0, 9, 15, 15)]) (cc := cL_pass) (maxL := 4) (ret := (some .int)) (by decide) rfl ?_
  intro p e s m args below meth c s₁ B hml hv
  obtain ⟨rfl, hsz, hP, hD0, hE, hN, hZ⟩ := hv
  have hx := B.exec
  have hb := B.bytes
  have hr := B.returns
  have hts := atoms_spec (ws := wsL_pass) B.pre
  have hown : s.vm.findClass RL = some m.cls := findClass_of_methodNamed B.named
  have hlocks := B.notSynchronized
  have hl := lv_entry ([.ref h0, .int (nI d), .ref ob]) (n := 4) (Nat.le_of_ble_eq_true rfl)
  rw [lg_entry_eq]
  generalize (lg_sl ([.ref h0, .int (nI d), .ref ob]) ++ List.replicate (4 - (lg_sl ([.ref h0, .int (nI d), .ref ob])).length) Slot.unset).toArray = ls at hl ⊢
  have hl : lv_has ls 4 [(0, .ref h0), (1, .int (nI d)), (2, .ref ob)] := hl
  subst hsz
  have hD := hD0.self (sz := s.heap.size)
  generalize hAe : va_A (oW ca ob og ++ va_pl L f) s.heap.size = A at hD ⊢
  have hA : ∀ q : Nat, s.heap.size ≤ q → A q := fun q h => by rw [← hAe]; exact Or.inr h
  have hS : va_S A s.heap s.heap [] := va_S.rf
  have hW := hP
  have hP := o_P hW
  have h4 := hR.1.1
  refine lv_aload_n hx hb dL_pass_0 rfl (lv_at hl 2 rfl) ?_
  refine lv_iconst (v := nI 0) hx hb dL_pass_1 (by decide) ?_
  refine lv_aload_n hx hb dL_pass_2 rfl (lv_at hl 0 rfl) ?_
  refine lv_iload_n hx hb dL_pass_3 rfl (lv_at hl 1 rfl) ?_
  refine zlw (va_runV (As := [.int (nI d)]) (rest := [.int (nI 0), .ref ob]) ⟨hx, hb, hml, hown, hts⟩ (w_pass l D ca sa L f h0 ta pa aT aP aS aH n K V hR d h1 h2 hd hK _) (cwV 1 hts gL_pass_X4_pass rfl rfl rfl (by decide +kernel) ⟨Nat.le_of_ble_eq_true rfl, Nat.le_of_ble_eq_true rfl⟩) (zmVp hP (o_D hD) hE rfl h4) rfl rfl hl.1 rfl (lv_room (Nat.le_of_ble_eq_true rfl)) dL_pass_4 ⟨Nat.le_of_ble_eq_true rfl, Nat.le_of_ble_eq_true rfl⟩) hW hD hS hA (fun r u H locs hu hW hD hS => ?_)
  obtain ⟨rfl, hu⟩ := hu
  refine lv_i2l hx hb dL_pass_7 rfl ?_
  refine zlst hx hb hE hW hD hS dL_pass_8 (fun H locs hW hD hS => ?_)
  refine lv_goto (tgt := 18) hx hb dL_pass_9 (by decide) ?_
  refine lv_iconst (v := nI 0) hx hb dL_pass_18 (by decide) ?_
  exact vx_ret (zlri (P := fun (x9 : Int64) (u : zU) => x9 = (nI (vTd V + d)).toInt64 ∧ zR u.1 u.2 ca h0 (K + 1) (vTd V + d, vNt V, vNp V, vT V, vP V, vB V, vL V)) u hx hb hr hlocks dL_pass_19 hW hD hS ⟨rfl, hu⟩)

set_option maxHeartbeats 4000000 in
set_option maxRecDepth 100000 in
theorem L_isSubscribed_ok (l : Launch) (D : va_G) (ca : Nat → ClassId) (sa : Nat → Nat) (L : List Nat) (f : Nat → va_E) (h0 ta pa : Nat) (aT aP aS : Nat → Nat) (aH : Nat → Nat → Nat) (n K : Nat) (V : zV) (hR : zRep L f ca h0 ta pa aT aP aS aH n K V) (q : Nat) (hq : q < vNp V) (d : Nat) (hd : d ≤ vTd V) (ob : Nat) (og : Nat → Int64) (sz : Nat) : vx_Met l yL_isSubscribed wsL_isSubscribed ({ frames := 10, cells := 0, slots := 0, locals := 450 }) (va_Pc [.ref h0, .int (nI q), .int (nI d), .ref ob] (zLp D L f ob og ca sa sz)) (va_Qi (fun (r : Int32) (u : zU × (Nat → Int64)) => r = nI 0 ∧ (fun (x9 : Int64) (u : zU) => x9 = bL (zOn d (vL V q 20)) ∧ u = (L, f)) (u.2 0) u.1) (fun u t => va_P D vwCl (oW ca ob u.2 ++ va_pl u.1.1 u.1.2) t.heap ∧ va_D (va_A (oW ca ob og ++ va_pl L f) sz) (oW ca ob u.2 ++ va_pl u.1.1 u.1.2)) (va_A (oW ca ob og ++ va_pl L f) sz)) zX0 0 0 (va_A (oW ca ob og ++ va_pl L f) sz) := by
  refine vx_ofWH (hh := [(0, 17, 20, 20), (0, 17, 24, 13)]) (cc := cL_isSubscribed) (maxL := 5) (ret := (some .int)) (by decide) rfl ?_
  intro p e s m args below meth c s₁ B hml hv
  obtain ⟨rfl, hsz, hP, hD0, hE, hN, hZ⟩ := hv
  have hx := B.exec
  have hb := B.bytes
  have hr := B.returns
  have hts := atoms_spec (ws := wsL_isSubscribed) B.pre
  have hown : s.vm.findClass RL = some m.cls := findClass_of_methodNamed B.named
  have hlocks := B.notSynchronized
  have hl := lv_entry ([.ref h0, .int (nI q), .int (nI d), .ref ob]) (n := 5) (Nat.le_of_ble_eq_true rfl)
  rw [lg_entry_eq]
  generalize (lg_sl ([.ref h0, .int (nI q), .int (nI d), .ref ob]) ++ List.replicate (5 - (lg_sl ([.ref h0, .int (nI q), .int (nI d), .ref ob])).length) Slot.unset).toArray = ls at hl ⊢
  have hl : lv_has ls 5 [(0, .ref h0), (1, .int (nI q)), (2, .int (nI d)), (3, .ref ob)] := hl
  subst hsz
  have hD := hD0.self (sz := s.heap.size)
  generalize hAe : va_A (oW ca ob og ++ va_pl L f) s.heap.size = A at hD ⊢
  have hA : ∀ q : Nat, s.heap.size ≤ q → A q := fun q h => by rw [← hAe]; exact Or.inr h
  have hS : va_S A s.heap s.heap [] := va_S.rf
  have hW := hP
  have hP := o_P hW
  have h4 := hR.1.1
  refine lv_aload_n hx hb dL_isSubscribed_0 rfl (lv_at hl 3 rfl) ?_
  refine lv_iconst (v := nI 0) hx hb dL_isSubscribed_1 (by decide) ?_
  refine lv_aload_n hx hb dL_isSubscribed_2 rfl (lv_at hl 0 rfl) ?_
  refine lv_iload_n hx hb dL_isSubscribed_3 rfl (lv_at hl 1 rfl) ?_
  refine lv_iload_n hx hb dL_isSubscribed_4 rfl (lv_at hl 2 rfl) ?_
  refine zci (va_runV (As := [.int (nI q), .int (nI d)]) (rest := [.int (nI 0), .ref ob]) ⟨hx, hb, hml, hown, hts⟩ (c_isSub l D ca sa L f h0 ta pa aT aP aS aH n K V hR q hq d hd) (cwV 2 hts gL_isSubscribed_X4_isSubscribed rfl rfl rfl (by decide +kernel) ⟨Nat.le_of_ble_eq_true rfl, Nat.le_of_ble_eq_true rfl⟩) (zpVp hP hE rfl h4) rfl rfl hl.1 rfl (lv_room (Nat.le_of_ble_eq_true rfl)) dL_isSubscribed_5 ⟨Nat.le_of_ble_eq_true rfl, Nat.le_of_ble_eq_true rfl⟩) ?_
  refine lv_if_eq (tgt := 15) hx hb dL_isSubscribed_8 (by decide) (fun c_8 => ?_) (fun c_8 => ?_)
  · skip
    refine lv_lconst (v := 0) hx hb dL_isSubscribed_15 (by decide) ?_
    refine zlst hx hb hE hW hD hS dL_isSubscribed_16 (fun H locs hW hD hS => ?_)
    refine lv_goto (tgt := 28) hx hb dL_isSubscribed_17 (by decide) ?_
    refine lv_iconst (v := nI 0) hx hb dL_isSubscribed_28 (by decide) ?_
    exact vx_ret (zlri (P := fun (x9 : Int64) (u : zU) => x9 = bL (zOn d (vL V q 20)) ∧ u = (L, f)) (L, f) hx hb hr hlocks dL_isSubscribed_29 hW hD hS ⟨by rw [bI_eq0 c_8]; rfl, rfl⟩)
  · skip
    refine lv_lconst (v := 1) hx hb dL_isSubscribed_11 (by decide) ?_
    refine lv_goto (tgt := 16) hx hb dL_isSubscribed_12 (by decide) ?_
    refine zlst hx hb hE hW hD hS dL_isSubscribed_16 (fun H locs hW hD hS => ?_)
    refine lv_goto (tgt := 28) hx hb dL_isSubscribed_17 (by decide) ?_
    refine lv_iconst (v := nI 0) hx hb dL_isSubscribed_28 (by decide) ?_
    exact vx_ret (zlri (P := fun (x9 : Int64) (u : zU) => x9 = bL (zOn d (vL V q 20)) ∧ u = (L, f)) (L, f) hx hb hr hlocks dL_isSubscribed_29 hW hD hS ⟨by rw [bI_ne0 c_8]; rfl, rfl⟩)

set_option maxHeartbeats 4000000 in
set_option maxRecDepth 100000 in
theorem L_isIn_ok (l : Launch) (D : va_G) (ca : Nat → ClassId) (sa : Nat → Nat) (L : List Nat) (f : Nat → va_E) (h0 ta pa : Nat) (aT aP aS : Nat → Nat) (aH : Nat → Nat → Nat) (n K : Nat) (V : zV) (hR : zRep L f ca h0 ta pa aT aP aS aH n K V) (q : Nat) (hq : q < vNp V) (t : Nat) (ht : t < vNt V) (d : Nat) (hd : d ≤ vTd V) (ob : Nat) (og : Nat → Int64) (sz : Nat) : vx_Met l yL_isIn wsL_isIn ({ frames := 10, cells := 0, slots := 0, locals := 450 }) (va_Pc [.ref h0, .int (nI q), .int (nI t), .int (nI d), .ref ob] (zLp D L f ob og ca sa sz)) (va_Qi (fun (r : Int32) (u : zU × (Nat → Int64)) => r = nI 0 ∧ (fun (x9 : Int64) (u : zU) => x9 = bL (zOn d (vL V q t)) ∧ u = (L, f)) (u.2 0) u.1) (fun u t => va_P D vwCl (oW ca ob u.2 ++ va_pl u.1.1 u.1.2) t.heap ∧ va_D (va_A (oW ca ob og ++ va_pl L f) sz) (oW ca ob u.2 ++ va_pl u.1.1 u.1.2)) (va_A (oW ca ob og ++ va_pl L f) sz)) zX0 0 0 (va_A (oW ca ob og ++ va_pl L f) sz) := by
  refine vx_ofWH (hh := [(0, 19, 22, 20), (0, 19, 26, 13)]) (cc := cL_isIn) (maxL := 6) (ret := (some .int)) (by decide) rfl ?_
  intro p e s m args below meth c s₁ B hml hv
  obtain ⟨rfl, hsz, hP, hD0, hE, hN, hZ⟩ := hv
  have hx := B.exec
  have hb := B.bytes
  have hr := B.returns
  have hts := atoms_spec (ws := wsL_isIn) B.pre
  have hown : s.vm.findClass RL = some m.cls := findClass_of_methodNamed B.named
  have hlocks := B.notSynchronized
  have hl := lv_entry ([.ref h0, .int (nI q), .int (nI t), .int (nI d), .ref ob]) (n := 6) (Nat.le_of_ble_eq_true rfl)
  rw [lg_entry_eq]
  generalize (lg_sl ([.ref h0, .int (nI q), .int (nI t), .int (nI d), .ref ob]) ++ List.replicate (6 - (lg_sl ([.ref h0, .int (nI q), .int (nI t), .int (nI d), .ref ob])).length) Slot.unset).toArray = ls at hl ⊢
  have hl : lv_has ls 6 [(0, .ref h0), (1, .int (nI q)), (2, .int (nI t)), (3, .int (nI d)), (4, .ref ob)] := hl
  subst hsz
  have hD := hD0.self (sz := s.heap.size)
  generalize hAe : va_A (oW ca ob og ++ va_pl L f) s.heap.size = A at hD ⊢
  have hA : ∀ q : Nat, s.heap.size ≤ q → A q := fun q h => by rw [← hAe]; exact Or.inr h
  have hS : va_S A s.heap s.heap [] := va_S.rf
  have hW := hP
  have hP := o_P hW
  have h4 := hR.1.1
  refine lv_aload hx hb dL_isIn_0 (lv_at hl 4 rfl) ?_
  refine lv_iconst (v := nI 0) hx hb dL_isIn_2 (by decide) ?_
  refine lv_aload_n hx hb dL_isIn_3 rfl (lv_at hl 0 rfl) ?_
  refine lv_iload_n hx hb dL_isIn_4 rfl (lv_at hl 1 rfl) ?_
  refine lv_iload_n hx hb dL_isIn_5 rfl (lv_at hl 2 rfl) ?_
  refine lv_iload_n hx hb dL_isIn_6 rfl (lv_at hl 3 rfl) ?_
  refine zci (va_runV (As := [.int (nI q), .int (nI t), .int (nI d)]) (rest := [.int (nI 0), .ref ob]) ⟨hx, hb, hml, hown, hts⟩ (c_isIn l D ca sa L f h0 ta pa aT aP aS aH n K V hR q hq t ht d hd) (cwV 3 hts gL_isIn_X4_isIn rfl rfl rfl (by decide +kernel) ⟨Nat.le_of_ble_eq_true rfl, Nat.le_of_ble_eq_true rfl⟩) (zpVp hP hE rfl h4) rfl rfl hl.1 rfl (lv_room (Nat.le_of_ble_eq_true rfl)) dL_isIn_7 ⟨Nat.le_of_ble_eq_true rfl, Nat.le_of_ble_eq_true rfl⟩) ?_
  refine lv_if_eq (tgt := 17) hx hb dL_isIn_10 (by decide) (fun c_10 => ?_) (fun c_10 => ?_)
  · skip
    refine lv_lconst (v := 0) hx hb dL_isIn_17 (by decide) ?_
    refine zlst hx hb hE hW hD hS dL_isIn_18 (fun H locs hW hD hS => ?_)
    refine lv_goto (tgt := 30) hx hb dL_isIn_19 (by decide) ?_
    refine lv_iconst (v := nI 0) hx hb dL_isIn_30 (by decide) ?_
    exact vx_ret (zlri (P := fun (x9 : Int64) (u : zU) => x9 = bL (zOn d (vL V q t)) ∧ u = (L, f)) (L, f) hx hb hr hlocks dL_isIn_31 hW hD hS ⟨by rw [bI_eq0 c_10]; rfl, rfl⟩)
  · skip
    refine lv_lconst (v := 1) hx hb dL_isIn_13 (by decide) ?_
    refine lv_goto (tgt := 18) hx hb dL_isIn_14 (by decide) ?_
    refine zlst hx hb hE hW hD hS dL_isIn_18 (fun H locs hW hD hS => ?_)
    refine lv_goto (tgt := 30) hx hb dL_isIn_19 (by decide) ?_
    refine lv_iconst (v := nI 0) hx hb dL_isIn_30 (by decide) ?_
    exact vx_ret (zlri (P := fun (x9 : Int64) (u : zU) => x9 = bL (zOn d (vL V q t)) ∧ u = (L, f)) (L, f) hx hb hr hlocks dL_isIn_31 hW hD hS ⟨by rw [bI_ne0 c_10]; rfl, rfl⟩)

set_option maxHeartbeats 4000000 in
set_option maxRecDepth 100000 in
theorem L_report_ok (l : Launch) (D : va_G) (ca : Nat → ClassId) (sa : Nat → Nat) (L : List Nat) (f : Nat → va_E) (h0 ta pa : Nat) (aT aP aS : Nat → Nat) (aH : Nat → Nat → Nat) (n K : Nat) (V : zV) (hR : zRep L f ca h0 ta pa aT aP aS aH n K V) (q : Nat) (hq : q < vNp V) (t : Nat) (ht : t < vNt V) (hK : K < 512) (ob : Nat) (og : Nat → Int64) (sz : Nat) : vx_Met l yL_report wsL_report ({ frames := 10, cells := 0, slots := 0, locals := 450 }) (va_Pc [.ref h0, .int (nI q), .int (nI t), .ref ob] (zLp D L f ob og ca sa sz)) (va_Qi (fun (r : Int32) (u : zU × (Nat → Int64)) => r = nI 0 ∧ (fun (x9 : Int64) (u : zU) => x9 = (nI (vB V q t + 1)).toInt64 ∧ zR u.1 u.2 ca h0 (K + 1) (vTd V, vNt V, vNp V, vT V, vP V, zU2 (vB V) q t (vB V q t + 1), vL V)) (u.2 0) u.1) (fun u t => va_P D vwCl (oW ca ob u.2 ++ va_pl u.1.1 u.1.2) t.heap ∧ va_D (va_A (oW ca ob og ++ va_pl L f) sz) (oW ca ob u.2 ++ va_pl u.1.1 u.1.2)) (va_A (oW ca ob og ++ va_pl L f) sz)) zX0 0 0 (va_A (oW ca ob og ++ va_pl L f) sz) := by
  refine vx_ofWH (hh := [(0, 10, 13, 20)]) (cc := cL_report) (maxL := 5) (ret := (some .int)) (by decide) rfl ?_
  intro p e s m args below meth c s₁ B hml hv
  obtain ⟨rfl, hsz, hP, hD0, hE, hN, hZ⟩ := hv
  have hx := B.exec
  have hb := B.bytes
  have hr := B.returns
  have hts := atoms_spec (ws := wsL_report) B.pre
  have hown : s.vm.findClass RL = some m.cls := findClass_of_methodNamed B.named
  have hlocks := B.notSynchronized
  have hl := lv_entry ([.ref h0, .int (nI q), .int (nI t), .ref ob]) (n := 5) (Nat.le_of_ble_eq_true rfl)
  rw [lg_entry_eq]
  generalize (lg_sl ([.ref h0, .int (nI q), .int (nI t), .ref ob]) ++ List.replicate (5 - (lg_sl ([.ref h0, .int (nI q), .int (nI t), .ref ob])).length) Slot.unset).toArray = ls at hl ⊢
  have hl : lv_has ls 5 [(0, .ref h0), (1, .int (nI q)), (2, .int (nI t)), (3, .ref ob)] := hl
  subst hsz
  have hD := hD0.self (sz := s.heap.size)
  generalize hAe : va_A (oW ca ob og ++ va_pl L f) s.heap.size = A at hD ⊢
  have hA : ∀ q : Nat, s.heap.size ≤ q → A q := fun q h => by rw [← hAe]; exact Or.inr h
  have hS : va_S A s.heap s.heap [] := va_S.rf
  have hW := hP
  have hP := o_P hW
  have h4 := hR.1.1
  refine lv_aload_n hx hb dL_report_0 rfl (lv_at hl 3 rfl) ?_
  refine lv_iconst (v := nI 0) hx hb dL_report_1 (by decide) ?_
  refine lv_aload_n hx hb dL_report_2 rfl (lv_at hl 0 rfl) ?_
  refine lv_iload_n hx hb dL_report_3 rfl (lv_at hl 1 rfl) ?_
  refine lv_iload_n hx hb dL_report_4 rfl (lv_at hl 2 rfl) ?_
  refine zlw (va_runV (As := [.int (nI q), .int (nI t)]) (rest := [.int (nI 0), .ref ob]) ⟨hx, hb, hml, hown, hts⟩ (w_report l D ca sa L f h0 ta pa aT aP aS aH n K V hR q hq t ht hK _) (cwV 2 hts gL_report_X4_report rfl rfl rfl (by decide +kernel) ⟨Nat.le_of_ble_eq_true rfl, Nat.le_of_ble_eq_true rfl⟩) (zmVp hP (o_D hD) hE rfl h4) rfl rfl hl.1 rfl (lv_room (Nat.le_of_ble_eq_true rfl)) dL_report_5 ⟨Nat.le_of_ble_eq_true rfl, Nat.le_of_ble_eq_true rfl⟩) hW hD hS hA (fun r u H locs hu hW hD hS => ?_)
  obtain ⟨rfl, hu⟩ := hu
  refine lv_i2l hx hb dL_report_8 rfl ?_
  refine zlst hx hb hE hW hD hS dL_report_9 (fun H locs hW hD hS => ?_)
  refine lv_goto (tgt := 17) hx hb dL_report_10 (by decide) ?_
  refine lv_iconst (v := nI 0) hx hb dL_report_17 (by decide) ?_
  exact vx_ret (zlri (P := fun (x9 : Int64) (u : zU) => x9 = (nI (vB V q t + 1)).toInt64 ∧ zR u.1 u.2 ca h0 (K + 1) (vTd V, vNt V, vNp V, vT V, vP V, zU2 (vB V) q t (vB V q t + 1), vL V)) u hx hb hr hlocks dL_report_18 hW hD hS ⟨rfl, hu⟩)

set_option maxHeartbeats 4000000 in
set_option maxRecDepth 100000 in
theorem L_mend_ok (l : Launch) (D : va_G) (ca : Nat → ClassId) (sa : Nat → Nat) (L : List Nat) (f : Nat → va_E) (h0 ta pa : Nat) (aT aP aS : Nat → Nat) (aH : Nat → Nat → Nat) (n K : Nat) (V : zV) (hR : zRep L f ca h0 ta pa aT aP aS aH n K V) (q : Nat) (hq : q < vNp V) (t : Nat) (ht : t < vNt V) (hK : K < 512) (ob : Nat) (og : Nat → Int64) (sz : Nat) : vx_Met l yL_mend wsL_mend ({ frames := 10, cells := 0, slots := 0, locals := 450 }) (va_Pc [.ref h0, .int (nI q), .int (nI t), .ref ob] (zLp D L f ob og ca sa sz)) (va_Qi (fun (r : Int32) (u : zU × (Nat → Int64)) => r = nI 0 ∧ (fun (x9 : Int64) (u : zU) => x9 = (nI (vB V q t)).toInt64 ∧ zR u.1 u.2 ca h0 (K + 1) (vTd V, vNt V, vNp V, vT V, vP V, zU2 (vB V) q t (0), vL V)) (u.2 0) u.1) (fun u t => va_P D vwCl (oW ca ob u.2 ++ va_pl u.1.1 u.1.2) t.heap ∧ va_D (va_A (oW ca ob og ++ va_pl L f) sz) (oW ca ob u.2 ++ va_pl u.1.1 u.1.2)) (va_A (oW ca ob og ++ va_pl L f) sz)) zX0 0 0 (va_A (oW ca ob og ++ va_pl L f) sz) := by
  refine vx_ofWH (hh := [(0, 10, 13, 20)]) (cc := cL_mend) (maxL := 5) (ret := (some .int)) (by decide) rfl ?_
  intro p e s m args below meth c s₁ B hml hv
  obtain ⟨rfl, hsz, hP, hD0, hE, hN, hZ⟩ := hv
  have hx := B.exec
  have hb := B.bytes
  have hr := B.returns
  have hts := atoms_spec (ws := wsL_mend) B.pre
  have hown : s.vm.findClass RL = some m.cls := findClass_of_methodNamed B.named
  have hlocks := B.notSynchronized
  have hl := lv_entry ([.ref h0, .int (nI q), .int (nI t), .ref ob]) (n := 5) (Nat.le_of_ble_eq_true rfl)
  rw [lg_entry_eq]
  generalize (lg_sl ([.ref h0, .int (nI q), .int (nI t), .ref ob]) ++ List.replicate (5 - (lg_sl ([.ref h0, .int (nI q), .int (nI t), .ref ob])).length) Slot.unset).toArray = ls at hl ⊢
  have hl : lv_has ls 5 [(0, .ref h0), (1, .int (nI q)), (2, .int (nI t)), (3, .ref ob)] := hl
  subst hsz
  have hD := hD0.self (sz := s.heap.size)
  generalize hAe : va_A (oW ca ob og ++ va_pl L f) s.heap.size = A at hD ⊢
  have hA : ∀ q : Nat, s.heap.size ≤ q → A q := fun q h => by rw [← hAe]; exact Or.inr h
  have hS : va_S A s.heap s.heap [] := va_S.rf
  have hW := hP
  have hP := o_P hW
  have h4 := hR.1.1
  refine lv_aload_n hx hb dL_mend_0 rfl (lv_at hl 3 rfl) ?_
  refine lv_iconst (v := nI 0) hx hb dL_mend_1 (by decide) ?_
  refine lv_aload_n hx hb dL_mend_2 rfl (lv_at hl 0 rfl) ?_
  refine lv_iload_n hx hb dL_mend_3 rfl (lv_at hl 1 rfl) ?_
  refine lv_iload_n hx hb dL_mend_4 rfl (lv_at hl 2 rfl) ?_
  refine zlw (va_runV (As := [.int (nI q), .int (nI t)]) (rest := [.int (nI 0), .ref ob]) ⟨hx, hb, hml, hown, hts⟩ (w_mend l D ca sa L f h0 ta pa aT aP aS aH n K V hR q hq t ht hK _) (cwV 2 hts gL_mend_X4_mend rfl rfl rfl (by decide +kernel) ⟨Nat.le_of_ble_eq_true rfl, Nat.le_of_ble_eq_true rfl⟩) (zmVp hP (o_D hD) hE rfl h4) rfl rfl hl.1 rfl (lv_room (Nat.le_of_ble_eq_true rfl)) dL_mend_5 ⟨Nat.le_of_ble_eq_true rfl, Nat.le_of_ble_eq_true rfl⟩) hW hD hS hA (fun r u H locs hu hW hD hS => ?_)
  obtain ⟨rfl, hu⟩ := hu
  refine lv_i2l hx hb dL_mend_8 rfl ?_
  refine zlst hx hb hE hW hD hS dL_mend_9 (fun H locs hW hD hS => ?_)
  refine lv_goto (tgt := 17) hx hb dL_mend_10 (by decide) ?_
  refine lv_iconst (v := nI 0) hx hb dL_mend_17 (by decide) ?_
  exact vx_ret (zlri (P := fun (x9 : Int64) (u : zU) => x9 = (nI (vB V q t)).toInt64 ∧ zR u.1 u.2 ca h0 (K + 1) (vTd V, vNt V, vNp V, vT V, vP V, zU2 (vB V) q t (0), vL V)) u hx hb hr hlocks dL_mend_18 hW hD hS ⟨rfl, hu⟩)

set_option maxHeartbeats 4000000 in
set_option maxRecDepth 100000 in
theorem L_covers_ok (l : Launch) (D : va_G) (ca : Nat → ClassId) (sa : Nat → Nat) (L : List Nat) (f : Nat → va_E) (h0 ta pa : Nat) (aT aP aS : Nat → Nat) (aH : Nat → Nat → Nat) (n K : Nat) (V : zV) (hR : zRep L f ca h0 ta pa aT aP aS aH n K V) (q : Nat) (hq : q < vNp V) (t : Nat) (ht : t < vNt V) (y g d : Nat) (hy : y ≤ 55) (hg : g ≤ 3) (hd : d ≤ vTd V) (ob : Nat) (og : Nat → Int64) (sz : Nat) : vx_Met l yL_covers wsL_covers ({ frames := 10, cells := 0, slots := 0, locals := 450 }) (va_Pc [.ref h0, .int (nI q), .int (nI t), .int (nI y), .int (nI g), .int (nI d), .ref ob] (zLp D L f ob og ca sa sz)) (va_Qi (fun (r : Int32) (u : zU × (Nat → Int64)) => r = nI 0 ∧ (fun (x9 : Int64) (u : zU) => x9 = bL (cWy V q t y g d) ∧ u = (L, f)) (u.2 0) u.1) (fun u t => va_P D vwCl (oW ca ob u.2 ++ va_pl u.1.1 u.1.2) t.heap ∧ va_D (va_A (oW ca ob og ++ va_pl L f) sz) (oW ca ob u.2 ++ va_pl u.1.1 u.1.2)) (va_A (oW ca ob og ++ va_pl L f) sz)) zX0 0 0 (va_A (oW ca ob og ++ va_pl L f) sz) := by
  refine vx_ofWH (hh := [(0, 23, 26, 20), (0, 23, 30, 13)]) (cc := cL_covers) (maxL := 8) (ret := (some .int)) (by decide) rfl ?_
  intro p e s m args below meth c s₁ B hml hv
  obtain ⟨rfl, hsz, hP, hD0, hE, hN, hZ⟩ := hv
  have hx := B.exec
  have hb := B.bytes
  have hr := B.returns
  have hts := atoms_spec (ws := wsL_covers) B.pre
  have hown : s.vm.findClass RL = some m.cls := findClass_of_methodNamed B.named
  have hlocks := B.notSynchronized
  have hl := lv_entry ([.ref h0, .int (nI q), .int (nI t), .int (nI y), .int (nI g), .int (nI d), .ref ob]) (n := 8) (Nat.le_of_ble_eq_true rfl)
  rw [lg_entry_eq]
  generalize (lg_sl ([.ref h0, .int (nI q), .int (nI t), .int (nI y), .int (nI g), .int (nI d), .ref ob]) ++ List.replicate (8 - (lg_sl ([.ref h0, .int (nI q), .int (nI t), .int (nI y), .int (nI g), .int (nI d), .ref ob])).length) Slot.unset).toArray = ls at hl ⊢
  have hl : lv_has ls 8 [(0, .ref h0), (1, .int (nI q)), (2, .int (nI t)), (3, .int (nI y)), (4, .int (nI g)), (5, .int (nI d)), (6, .ref ob)] := hl
  subst hsz
  have hD := hD0.self (sz := s.heap.size)
  generalize hAe : va_A (oW ca ob og ++ va_pl L f) s.heap.size = A at hD ⊢
  have hA : ∀ q : Nat, s.heap.size ≤ q → A q := fun q h => by rw [← hAe]; exact Or.inr h
  have hS : va_S A s.heap s.heap [] := va_S.rf
  have hW := hP
  have hP := o_P hW
  have h4 := hR.1.1
  refine lv_aload hx hb dL_covers_0 (lv_at hl 6 rfl) ?_
  refine lv_iconst (v := nI 0) hx hb dL_covers_2 (by decide) ?_
  refine lv_aload_n hx hb dL_covers_3 rfl (lv_at hl 0 rfl) ?_
  refine lv_iload_n hx hb dL_covers_4 rfl (lv_at hl 1 rfl) ?_
  refine lv_iload_n hx hb dL_covers_5 rfl (lv_at hl 2 rfl) ?_
  refine lv_iload_n hx hb dL_covers_6 rfl (lv_at hl 3 rfl) ?_
  refine lv_iload hx hb dL_covers_7 (lv_at hl 4 rfl) ?_
  refine lv_iload hx hb dL_covers_9 (lv_at hl 5 rfl) ?_
  refine zci (va_runV (As := [.int (nI q), .int (nI t), .int (nI y), .int (nI g), .int (nI d)]) (rest := [.int (nI 0), .ref ob]) ⟨hx, hb, hml, hown, hts⟩ (c_covers l D ca sa L f h0 ta pa aT aP aS aH n K V hR q hq t ht y g d hy hg hd) (cwV 5 hts gL_covers_X4_covers rfl rfl rfl (by decide +kernel) ⟨Nat.le_of_ble_eq_true rfl, Nat.le_of_ble_eq_true rfl⟩) (zpVp hP hE rfl h4) rfl rfl hl.1 rfl (lv_room (Nat.le_of_ble_eq_true rfl)) dL_covers_11 ⟨Nat.le_of_ble_eq_true rfl, Nat.le_of_ble_eq_true rfl⟩) ?_
  refine lv_if_eq (tgt := 21) hx hb dL_covers_14 (by decide) (fun c_14 => ?_) (fun c_14 => ?_)
  · skip
    refine lv_lconst (v := 0) hx hb dL_covers_21 (by decide) ?_
    refine zlst hx hb hE hW hD hS dL_covers_22 (fun H locs hW hD hS => ?_)
    refine lv_goto (tgt := 34) hx hb dL_covers_23 (by decide) ?_
    refine lv_iconst (v := nI 0) hx hb dL_covers_34 (by decide) ?_
    exact vx_ret (zlri (P := fun (x9 : Int64) (u : zU) => x9 = bL (cWy V q t y g d) ∧ u = (L, f)) (L, f) hx hb hr hlocks dL_covers_35 hW hD hS ⟨by rw [bI_eq0 c_14]; rfl, rfl⟩)
  · skip
    refine lv_lconst (v := 1) hx hb dL_covers_17 (by decide) ?_
    refine lv_goto (tgt := 22) hx hb dL_covers_18 (by decide) ?_
    refine zlst hx hb hE hW hD hS dL_covers_22 (fun H locs hW hD hS => ?_)
    refine lv_goto (tgt := 34) hx hb dL_covers_23 (by decide) ?_
    refine lv_iconst (v := nI 0) hx hb dL_covers_34 (by decide) ?_
    exact vx_ret (zlri (P := fun (x9 : Int64) (u : zU) => x9 = bL (cWy V q t y g d) ∧ u = (L, f)) (L, f) hx hb hr hlocks dL_covers_35 hW hD hS ⟨by rw [bI_ne0 c_14]; rfl, rfl⟩)

set_option maxHeartbeats 4000000 in
set_option maxRecDepth 100000 in
theorem L_ways_ok (l : Launch) (D : va_G) (ca : Nat → ClassId) (sa : Nat → Nat) (L : List Nat) (f : Nat → va_E) (h0 ta pa : Nat) (aT aP aS : Nat → Nat) (aH : Nat → Nat → Nat) (n K : Nat) (V : zV) (hR : zRep L f ca h0 ta pa aT aP aS aH n K V) (t : Nat) (ht : t < vNt V) (y g d : Nat) (hy : y ≤ 55) (hg : g ≤ 3) (hd : d ≤ vTd V) (ob : Nat) (og : Nat → Int64) (sz : Nat) : vx_Met l yL_ways wsL_ways ({ frames := 10, cells := 0, slots := 0, locals := 450 }) (va_Pc [.ref h0, .int (nI t), .int (nI y), .int (nI g), .int (nI d), .ref ob] (zLp D L f ob og ca sa sz)) (va_Qi (fun (r : Int32) (u : zU × (Nat → Int64)) => r = nI 0 ∧ (fun (x9 : Int64) (u : zU) => x9 = (swI (wTo V t y g d (vNp V))).toInt64 ∧ u = (L, f)) (u.2 0) u.1) (fun u t => va_P D vwCl (oW ca ob u.2 ++ va_pl u.1.1 u.1.2) t.heap ∧ va_D (va_A (oW ca ob og ++ va_pl L f) sz) (oW ca ob u.2 ++ va_pl u.1.1 u.1.2)) (va_A (oW ca ob og ++ va_pl L f) sz)) zX0 0 0 (va_A (oW ca ob og ++ va_pl L f) sz) := by
  refine vx_ofWH (hh := [(0, 14, 17, 20), (0, 14, 21, 13)]) (cc := cL_ways) (maxL := 7) (ret := (some .int)) (by decide) rfl ?_
  intro p e s m args below meth c s₁ B hml hv
  obtain ⟨rfl, hsz, hP, hD0, hE, hN, hZ⟩ := hv
  have hx := B.exec
  have hb := B.bytes
  have hr := B.returns
  have hts := atoms_spec (ws := wsL_ways) B.pre
  have hown : s.vm.findClass RL = some m.cls := findClass_of_methodNamed B.named
  have hlocks := B.notSynchronized
  have hl := lv_entry ([.ref h0, .int (nI t), .int (nI y), .int (nI g), .int (nI d), .ref ob]) (n := 7) (Nat.le_of_ble_eq_true rfl)
  rw [lg_entry_eq]
  generalize (lg_sl ([.ref h0, .int (nI t), .int (nI y), .int (nI g), .int (nI d), .ref ob]) ++ List.replicate (7 - (lg_sl ([.ref h0, .int (nI t), .int (nI y), .int (nI g), .int (nI d), .ref ob])).length) Slot.unset).toArray = ls at hl ⊢
  have hl : lv_has ls 7 [(0, .ref h0), (1, .int (nI t)), (2, .int (nI y)), (3, .int (nI g)), (4, .int (nI d)), (5, .ref ob)] := hl
  subst hsz
  have hD := hD0.self (sz := s.heap.size)
  generalize hAe : va_A (oW ca ob og ++ va_pl L f) s.heap.size = A at hD ⊢
  have hA : ∀ q : Nat, s.heap.size ≤ q → A q := fun q h => by rw [← hAe]; exact Or.inr h
  have hS : va_S A s.heap s.heap [] := va_S.rf
  have hW := hP
  have hP := o_P hW
  have h4 := hR.1.1
  refine lv_aload hx hb dL_ways_0 (lv_at hl 5 rfl) ?_
  refine lv_iconst (v := nI 0) hx hb dL_ways_2 (by decide) ?_
  refine lv_aload_n hx hb dL_ways_3 rfl (lv_at hl 0 rfl) ?_
  refine lv_iload_n hx hb dL_ways_4 rfl (lv_at hl 1 rfl) ?_
  refine lv_iload_n hx hb dL_ways_5 rfl (lv_at hl 2 rfl) ?_
  refine lv_iload_n hx hb dL_ways_6 rfl (lv_at hl 3 rfl) ?_
  refine lv_iload hx hb dL_ways_7 (lv_at hl 4 rfl) ?_
  refine zci (va_runV (As := [.int (nI t), .int (nI y), .int (nI g), .int (nI d)]) (rest := [.int (nI 0), .ref ob]) ⟨hx, hb, hml, hown, hts⟩ (c_ways l D ca sa L f h0 ta pa aT aP aS aH n K V hR t ht y g d hy hg hd) (cwV 4 hts gL_ways_X4_ways rfl rfl rfl (by decide +kernel) ⟨Nat.le_of_ble_eq_true rfl, Nat.le_of_ble_eq_true rfl⟩) (zpVp hP hE rfl h4) rfl rfl hl.1 rfl (lv_room (Nat.le_of_ble_eq_true rfl)) dL_ways_9 ⟨Nat.le_of_ble_eq_true rfl, Nat.le_of_ble_eq_true rfl⟩) ?_
  refine lv_i2l hx hb dL_ways_12 rfl ?_
  refine zlst hx hb hE hW hD hS dL_ways_13 (fun H locs hW hD hS => ?_)
  refine lv_goto (tgt := 25) hx hb dL_ways_14 (by decide) ?_
  refine lv_iconst (v := nI 0) hx hb dL_ways_25 (by decide) ?_
  exact vx_ret (zlri (P := fun (x9 : Int64) (u : zU) => x9 = (swI (wTo V t y g d (vNp V))).toInt64 ∧ u = (L, f)) (L, f) hx hb hr hlocks dL_ways_26 hW hD hS ⟨rfl, rfl⟩)

set_option maxHeartbeats 4000000 in
set_option maxRecDepth 100000 in
theorem L_wayAt_ok (l : Launch) (D : va_G) (ca : Nat → ClassId) (sa : Nat → Nat) (L : List Nat) (f : Nat → va_E) (h0 ta pa : Nat) (aT aP aS : Nat → Nat) (aH : Nat → Nat → Nat) (n K : Nat) (V : zV) (hR : zRep L f ca h0 ta pa aT aP aS aH n K V) (pl : Int32) (t : Nat) (ht : t < vNt V) (y g d : Nat) (hy : y ≤ 55) (hg : g ≤ 3) (hd : d ≤ vTd V) (q : Nat) (hq : q < vNp V) (hq1 : aM (wTo V t y g d (vNp V)) q = true) (hq2 : nI (cPla V (wTo V t y g d (vNp V)) q t (vNp V)) = pl) (hqn : ∀ k, k < q → aM (wTo V t y g d (vNp V)) k = true → ¬ nI (cPla V (wTo V t y g d (vNp V)) k t (vNp V)) = pl) (ob : Nat) (og : Nat → Int64) (sz : Nat) : vx_Met l yL_wayAt wsL_wayAt ({ frames := 10, cells := 0, slots := 0, locals := 450 }) (va_Pc [.ref h0, .int pl, .int (nI t), .int (nI y), .int (nI g), .int (nI d), .ref ob] (zLp D L f ob og ca sa sz)) (va_Qi (fun (r : Int32) (u : zU × (Nat → Int64)) => r = nI 0 ∧ (fun (x9 : Int64) (u : zU) => x9 = (nI q).toInt64 ∧ u = (L, f)) (u.2 0) u.1) (fun u t => va_P D vwCl (oW ca ob u.2 ++ va_pl u.1.1 u.1.2) t.heap ∧ va_D (va_A (oW ca ob og ++ va_pl L f) sz) (oW ca ob u.2 ++ va_pl u.1.1 u.1.2)) (va_A (oW ca ob og ++ va_pl L f) sz)) zX0 0 0 (va_A (oW ca ob og ++ va_pl L f) sz) := by
  refine vx_ofWH (hh := [(0, 16, 19, 13), (0, 16, 23, 20)]) (cc := cL_wayAt) (maxL := 8) (ret := (some .int)) (by decide) rfl ?_
  intro p e s m args below meth c s₁ B hml hv
  obtain ⟨rfl, hsz, hP, hD0, hE, hN, hZ⟩ := hv
  have hx := B.exec
  have hb := B.bytes
  have hr := B.returns
  have hts := atoms_spec (ws := wsL_wayAt) B.pre
  have hown : s.vm.findClass RL = some m.cls := findClass_of_methodNamed B.named
  have hlocks := B.notSynchronized
  have hl := lv_entry ([.ref h0, .int pl, .int (nI t), .int (nI y), .int (nI g), .int (nI d), .ref ob]) (n := 8) (Nat.le_of_ble_eq_true rfl)
  rw [lg_entry_eq]
  generalize (lg_sl ([.ref h0, .int pl, .int (nI t), .int (nI y), .int (nI g), .int (nI d), .ref ob]) ++ List.replicate (8 - (lg_sl ([.ref h0, .int pl, .int (nI t), .int (nI y), .int (nI g), .int (nI d), .ref ob])).length) Slot.unset).toArray = ls at hl ⊢
  have hl : lv_has ls 8 [(0, .ref h0), (1, .int pl), (2, .int (nI t)), (3, .int (nI y)), (4, .int (nI g)), (5, .int (nI d)), (6, .ref ob)] := hl
  subst hsz
  have hD := hD0.self (sz := s.heap.size)
  generalize hAe : va_A (oW ca ob og ++ va_pl L f) s.heap.size = A at hD ⊢
  have hA : ∀ q : Nat, s.heap.size ≤ q → A q := fun q h => by rw [← hAe]; exact Or.inr h
  have hS : va_S A s.heap s.heap [] := va_S.rf
  have hW := hP
  have hP := o_P hW
  have h4 := hR.1.1
  refine lv_aload hx hb dL_wayAt_0 (lv_at hl 6 rfl) ?_
  refine lv_iconst (v := nI 0) hx hb dL_wayAt_2 (by decide) ?_
  refine lv_aload_n hx hb dL_wayAt_3 rfl (lv_at hl 0 rfl) ?_
  refine lv_iload_n hx hb dL_wayAt_4 rfl (lv_at hl 1 rfl) ?_
  refine lv_iload_n hx hb dL_wayAt_5 rfl (lv_at hl 2 rfl) ?_
  refine lv_iload_n hx hb dL_wayAt_6 rfl (lv_at hl 3 rfl) ?_
  refine lv_iload hx hb dL_wayAt_7 (lv_at hl 4 rfl) ?_
  refine lv_iload hx hb dL_wayAt_9 (lv_at hl 5 rfl) ?_
  refine zci (va_runV (As := [.int pl, .int (nI t), .int (nI y), .int (nI g), .int (nI d)]) (rest := [.int (nI 0), .ref ob]) ⟨hx, hb, hml, hown, hts⟩ (c_wayAt l D ca sa L f h0 ta pa aT aP aS aH n K V hR pl t ht y g d hy hg hd q hq hq1 hq2 hqn) (cwV 5 hts gL_wayAt_X4_wayAt rfl rfl rfl (by decide +kernel) ⟨Nat.le_of_ble_eq_true rfl, Nat.le_of_ble_eq_true rfl⟩) (zpVp hP hE rfl h4) rfl rfl hl.1 rfl (lv_room (Nat.le_of_ble_eq_true rfl)) dL_wayAt_11 ⟨Nat.le_of_ble_eq_true rfl, Nat.le_of_ble_eq_true rfl⟩) ?_
  refine lv_i2l hx hb dL_wayAt_14 rfl ?_
  refine zlst hx hb hE hW hD hS dL_wayAt_15 (fun H locs hW hD hS => ?_)
  refine lv_goto (tgt := 27) hx hb dL_wayAt_16 (by decide) ?_
  refine lv_iconst (v := nI 0) hx hb dL_wayAt_27 (by decide) ?_
  exact vx_ret (zlri (P := fun (x9 : Int64) (u : zU) => x9 = (nI q).toInt64 ∧ u = (L, f)) (L, f) hx hb hr hlocks dL_wayAt_28 hW hD hS ⟨rfl, rfl⟩)

set_option maxHeartbeats 4000000 in
set_option maxRecDepth 100000 in
theorem L_gap_ok (l : Launch) (D : va_G) (ca : Nat → ClassId) (sa : Nat → Nat) (L : List Nat) (f : Nat → va_E) (h0 ta pa : Nat) (aT aP aS : Nat → Nat) (aH : Nat → Nat → Nat) (n K : Nat) (V : zV) (hR : zRep L f ca h0 ta pa aT aP aS aH n K V) (t : Nat) (ht : t < vNt V) (g : Nat) (hg : g ≤ 3) (ob : Nat) (og : Nat → Int64) (sz : Nat) : vx_Met l yL_gap wsL_gap ({ frames := 10, cells := 0, slots := 0, locals := 450 }) (va_Pc [.ref h0, .int (nI t), .int (nI g), .ref ob] (zLp D L f ob og ca sa sz)) (va_Qi (fun (r : Int32) (u : zU × (Nat → Int64)) => r = nI 0 ∧ (fun (x9 : Int64) (u : zU) => x9 = (cGap V t g).toInt64 ∧ u = (L, f)) (u.2 0) u.1) (fun u t => va_P D vwCl (oW ca ob u.2 ++ va_pl u.1.1 u.1.2) t.heap ∧ va_D (va_A (oW ca ob og ++ va_pl L f) sz) (oW ca ob u.2 ++ va_pl u.1.1 u.1.2)) (va_A (oW ca ob og ++ va_pl L f) sz)) zX0 0 0 (va_A (oW ca ob og ++ va_pl L f) sz) := by
  refine vx_ofWH (hh := [(0, 10, 13, 20), (0, 10, 17, 13)]) (cc := cL_gap) (maxL := 5) (ret := (some .int)) (by decide) rfl ?_
  intro p e s m args below meth c s₁ B hml hv
  obtain ⟨rfl, hsz, hP, hD0, hE, hN, hZ⟩ := hv
  have hx := B.exec
  have hb := B.bytes
  have hr := B.returns
  have hts := atoms_spec (ws := wsL_gap) B.pre
  have hown : s.vm.findClass RL = some m.cls := findClass_of_methodNamed B.named
  have hlocks := B.notSynchronized
  have hl := lv_entry ([.ref h0, .int (nI t), .int (nI g), .ref ob]) (n := 5) (Nat.le_of_ble_eq_true rfl)
  rw [lg_entry_eq]
  generalize (lg_sl ([.ref h0, .int (nI t), .int (nI g), .ref ob]) ++ List.replicate (5 - (lg_sl ([.ref h0, .int (nI t), .int (nI g), .ref ob])).length) Slot.unset).toArray = ls at hl ⊢
  have hl : lv_has ls 5 [(0, .ref h0), (1, .int (nI t)), (2, .int (nI g)), (3, .ref ob)] := hl
  subst hsz
  have hD := hD0.self (sz := s.heap.size)
  generalize hAe : va_A (oW ca ob og ++ va_pl L f) s.heap.size = A at hD ⊢
  have hA : ∀ q : Nat, s.heap.size ≤ q → A q := fun q h => by rw [← hAe]; exact Or.inr h
  have hS : va_S A s.heap s.heap [] := va_S.rf
  have hW := hP
  have hP := o_P hW
  have h4 := hR.1.1
  refine lv_aload_n hx hb dL_gap_0 rfl (lv_at hl 3 rfl) ?_
  refine lv_iconst (v := nI 0) hx hb dL_gap_1 (by decide) ?_
  refine lv_aload_n hx hb dL_gap_2 rfl (lv_at hl 0 rfl) ?_
  refine lv_iload_n hx hb dL_gap_3 rfl (lv_at hl 1 rfl) ?_
  refine lv_iload_n hx hb dL_gap_4 rfl (lv_at hl 2 rfl) ?_
  refine zci (va_runV (As := [.int (nI t), .int (nI g)]) (rest := [.int (nI 0), .ref ob]) ⟨hx, hb, hml, hown, hts⟩ (c_gap l D ca sa L f h0 ta pa aT aP aS aH n K V hR t ht g hg) (cwV 2 hts gL_gap_X4_gap rfl rfl rfl (by decide +kernel) ⟨Nat.le_of_ble_eq_true rfl, Nat.le_of_ble_eq_true rfl⟩) (zpVp hP hE rfl h4) rfl rfl hl.1 rfl (lv_room (Nat.le_of_ble_eq_true rfl)) dL_gap_5 ⟨Nat.le_of_ble_eq_true rfl, Nat.le_of_ble_eq_true rfl⟩) ?_
  refine lv_i2l hx hb dL_gap_8 rfl ?_
  refine zlst hx hb hE hW hD hS dL_gap_9 (fun H locs hW hD hS => ?_)
  refine lv_goto (tgt := 21) hx hb dL_gap_10 (by decide) ?_
  refine lv_iconst (v := nI 0) hx hb dL_gap_21 (by decide) ?_
  exact vx_ret (zlri (P := fun (x9 : Int64) (u : zU) => x9 = (cGap V t g).toInt64 ∧ u = (L, f)) (L, f) hx hb hr hlocks dL_gap_22 hW hD hS ⟨rfl, rfl⟩)

set_option maxHeartbeats 4000000 in
set_option maxRecDepth 100000 in
theorem L_doubles_ok (l : Launch) (D : va_G) (ca : Nat → ClassId) (sa : Nat → Nat) (L : List Nat) (f : Nat → va_E) (h0 ta pa : Nat) (aT aP aS : Nat → Nat) (aH : Nat → Nat → Nat) (n K : Nat) (V : zV) (hR : zRep L f ca h0 ta pa aT aP aS aH n K V) (t : Nat) (ht : t < vNt V) (g : Nat) (hg : g ≤ 3) (ob : Nat) (og : Nat → Int64) (sz : Nat) : vx_Met l yL_doubles wsL_doubles ({ frames := 10, cells := 0, slots := 0, locals := 450 }) (va_Pc [.ref h0, .int (nI t), .int (nI g), .ref ob] (zLp D L f ob og ca sa sz)) (va_Qi (fun (r : Int32) (u : zU × (Nat → Int64)) => r = nI 0 ∧ (fun (x9 : Int64) (u : zU) => x9 = (swL ((cDb V t g (vNp V)).2 &&& zYs V t)).toInt64 ∧ u = (L, f)) (u.2 0) u.1) (fun u t => va_P D vwCl (oW ca ob u.2 ++ va_pl u.1.1 u.1.2) t.heap ∧ va_D (va_A (oW ca ob og ++ va_pl L f) sz) (oW ca ob u.2 ++ va_pl u.1.1 u.1.2)) (va_A (oW ca ob og ++ va_pl L f) sz)) zX0 0 0 (va_A (oW ca ob og ++ va_pl L f) sz) := by
  refine vx_ofWH (hh := [(0, 10, 13, 20), (0, 10, 17, 13)]) (cc := cL_doubles) (maxL := 5) (ret := (some .int)) (by decide) rfl ?_
  intro p e s m args below meth c s₁ B hml hv
  obtain ⟨rfl, hsz, hP, hD0, hE, hN, hZ⟩ := hv
  have hx := B.exec
  have hb := B.bytes
  have hr := B.returns
  have hts := atoms_spec (ws := wsL_doubles) B.pre
  have hown : s.vm.findClass RL = some m.cls := findClass_of_methodNamed B.named
  have hlocks := B.notSynchronized
  have hl := lv_entry ([.ref h0, .int (nI t), .int (nI g), .ref ob]) (n := 5) (Nat.le_of_ble_eq_true rfl)
  rw [lg_entry_eq]
  generalize (lg_sl ([.ref h0, .int (nI t), .int (nI g), .ref ob]) ++ List.replicate (5 - (lg_sl ([.ref h0, .int (nI t), .int (nI g), .ref ob])).length) Slot.unset).toArray = ls at hl ⊢
  have hl : lv_has ls 5 [(0, .ref h0), (1, .int (nI t)), (2, .int (nI g)), (3, .ref ob)] := hl
  subst hsz
  have hD := hD0.self (sz := s.heap.size)
  generalize hAe : va_A (oW ca ob og ++ va_pl L f) s.heap.size = A at hD ⊢
  have hA : ∀ q : Nat, s.heap.size ≤ q → A q := fun q h => by rw [← hAe]; exact Or.inr h
  have hS : va_S A s.heap s.heap [] := va_S.rf
  have hW := hP
  have hP := o_P hW
  have h4 := hR.1.1
  refine lv_aload_n hx hb dL_doubles_0 rfl (lv_at hl 3 rfl) ?_
  refine lv_iconst (v := nI 0) hx hb dL_doubles_1 (by decide) ?_
  refine lv_aload_n hx hb dL_doubles_2 rfl (lv_at hl 0 rfl) ?_
  refine lv_iload_n hx hb dL_doubles_3 rfl (lv_at hl 1 rfl) ?_
  refine lv_iload_n hx hb dL_doubles_4 rfl (lv_at hl 2 rfl) ?_
  refine zci (va_runV (As := [.int (nI t), .int (nI g)]) (rest := [.int (nI 0), .ref ob]) ⟨hx, hb, hml, hown, hts⟩ (c_doubles l D ca sa L f h0 ta pa aT aP aS aH n K V hR t ht g hg) (cwV 2 hts gL_doubles_X4_doubles rfl rfl rfl (by decide +kernel) ⟨Nat.le_of_ble_eq_true rfl, Nat.le_of_ble_eq_true rfl⟩) (zpVp hP hE rfl h4) rfl rfl hl.1 rfl (lv_room (Nat.le_of_ble_eq_true rfl)) dL_doubles_5 ⟨Nat.le_of_ble_eq_true rfl, Nat.le_of_ble_eq_true rfl⟩) ?_
  refine lv_i2l hx hb dL_doubles_8 rfl ?_
  refine zlst hx hb hE hW hD hS dL_doubles_9 (fun H locs hW hD hS => ?_)
  refine lv_goto (tgt := 21) hx hb dL_doubles_10 (by decide) ?_
  refine lv_iconst (v := nI 0) hx hb dL_doubles_21 (by decide) ?_
  exact vx_ret (zlri (P := fun (x9 : Int64) (u : zU) => x9 = (swL ((cDb V t g (vNp V)).2 &&& zYs V t)).toInt64 ∧ u = (L, f)) (L, f) hx hb hr hlocks dL_doubles_22 hW hD hS ⟨rfl, rfl⟩)

set_option maxHeartbeats 4000000 in
set_option maxRecDepth 100000 in
theorem L_isNeedless_ok (l : Launch) (D : va_G) (ca : Nat → ClassId) (sa : Nat → Nat) (L : List Nat) (f : Nat → va_E) (h0 ta pa : Nat) (aT aP aS : Nat → Nat) (aH : Nat → Nat → Nat) (n K : Nat) (V : zV) (hR : zRep L f ca h0 ta pa aT aP aS aH n K V) (q : Nat) (hq : q < vNp V) (ob : Nat) (og : Nat → Int64) (sz : Nat) : vx_Met l yL_isNeedless wsL_isNeedless ({ frames := 10, cells := 0, slots := 0, locals := 450 }) (va_Pc [.ref h0, .int (nI q), .ref ob] (zLp D L f ob og ca sa sz)) (va_Qi (fun (r : Int32) (u : zU × (Nat → Int64)) => r = nI 0 ∧ (fun (x9 : Int64) (u : zU) => x9 = bL (cNd V q (vNt V) 0) ∧ u = (L, f)) (u.2 0) u.1) (fun u t => va_P D vwCl (oW ca ob u.2 ++ va_pl u.1.1 u.1.2) t.heap ∧ va_D (va_A (oW ca ob og ++ va_pl L f) sz) (oW ca ob u.2 ++ va_pl u.1.1 u.1.2)) (va_A (oW ca ob og ++ va_pl L f) sz)) zX0 0 0 (va_A (oW ca ob og ++ va_pl L f) sz) := by
  refine vx_ofWH (hh := [(0, 16, 19, 20)]) (cc := cL_isNeedless) (maxL := 4) (ret := (some .int)) (by decide) rfl ?_
  intro p e s m args below meth c s₁ B hml hv
  obtain ⟨rfl, hsz, hP, hD0, hE, hN, hZ⟩ := hv
  have hx := B.exec
  have hb := B.bytes
  have hr := B.returns
  have hts := atoms_spec (ws := wsL_isNeedless) B.pre
  have hown : s.vm.findClass RL = some m.cls := findClass_of_methodNamed B.named
  have hlocks := B.notSynchronized
  have hl := lv_entry ([.ref h0, .int (nI q), .ref ob]) (n := 4) (Nat.le_of_ble_eq_true rfl)
  rw [lg_entry_eq]
  generalize (lg_sl ([.ref h0, .int (nI q), .ref ob]) ++ List.replicate (4 - (lg_sl ([.ref h0, .int (nI q), .ref ob])).length) Slot.unset).toArray = ls at hl ⊢
  have hl : lv_has ls 4 [(0, .ref h0), (1, .int (nI q)), (2, .ref ob)] := hl
  subst hsz
  have hD := hD0.self (sz := s.heap.size)
  generalize hAe : va_A (oW ca ob og ++ va_pl L f) s.heap.size = A at hD ⊢
  have hA : ∀ q : Nat, s.heap.size ≤ q → A q := fun q h => by rw [← hAe]; exact Or.inr h
  have hS : va_S A s.heap s.heap [] := va_S.rf
  have hW := hP
  have hP := o_P hW
  have h4 := hR.1.1
  refine lv_aload_n hx hb dL_isNeedless_0 rfl (lv_at hl 2 rfl) ?_
  refine lv_iconst (v := nI 0) hx hb dL_isNeedless_1 (by decide) ?_
  refine lv_aload_n hx hb dL_isNeedless_2 rfl (lv_at hl 0 rfl) ?_
  refine lv_iload_n hx hb dL_isNeedless_3 rfl (lv_at hl 1 rfl) ?_
  refine zci (va_runV (As := [.int (nI q)]) (rest := [.int (nI 0), .ref ob]) ⟨hx, hb, hml, hown, hts⟩ (c_isNeedless l D ca sa L f h0 ta pa aT aP aS aH n K V hR q hq) (cwV 1 hts gL_isNeedless_X4_isNeedless rfl rfl rfl (by decide +kernel) ⟨Nat.le_of_ble_eq_true rfl, Nat.le_of_ble_eq_true rfl⟩) (zpVp hP hE rfl h4) rfl rfl hl.1 rfl (lv_room (Nat.le_of_ble_eq_true rfl)) dL_isNeedless_4 ⟨Nat.le_of_ble_eq_true rfl, Nat.le_of_ble_eq_true rfl⟩) ?_
  refine lv_if_eq (tgt := 14) hx hb dL_isNeedless_7 (by decide) (fun c_7 => ?_) (fun c_7 => ?_)
  · skip
    refine lv_lconst (v := 0) hx hb dL_isNeedless_14 (by decide) ?_
    refine zlst hx hb hE hW hD hS dL_isNeedless_15 (fun H locs hW hD hS => ?_)
    refine lv_goto (tgt := 22) hx hb dL_isNeedless_16 (by decide) ?_
    refine lv_iconst (v := nI 0) hx hb dL_isNeedless_22 (by decide) ?_
    exact vx_ret (zlri (P := fun (x9 : Int64) (u : zU) => x9 = bL (cNd V q (vNt V) 0) ∧ u = (L, f)) (L, f) hx hb hr hlocks dL_isNeedless_23 hW hD hS ⟨by rw [bI_eq0 c_7]; rfl, rfl⟩)
  · skip
    refine lv_lconst (v := 1) hx hb dL_isNeedless_10 (by decide) ?_
    refine lv_goto (tgt := 15) hx hb dL_isNeedless_11 (by decide) ?_
    refine zlst hx hb hE hW hD hS dL_isNeedless_15 (fun H locs hW hD hS => ?_)
    refine lv_goto (tgt := 22) hx hb dL_isNeedless_16 (by decide) ?_
    refine lv_iconst (v := nI 0) hx hb dL_isNeedless_22 (by decide) ?_
    exact vx_ret (zlri (P := fun (x9 : Int64) (u : zU) => x9 = bL (cNd V q (vNt V) 0) ∧ u = (L, f)) (L, f) hx hb hr hlocks dL_isNeedless_23 hW hD hS ⟨by rw [bI_ne0 c_7]; rfl, rfl⟩)
