/-! the reference's methods that write: what each leaves behind -/
def mP (M : Nat → Nat → Int32) (j k : Nat) (v : Int32) : Nat → Nat → Int32 := va_up M j (upd (M j) k v)
theorem mP_s (M : Nat → Nat → Int32) (j k : Nat) (v : Int32) : mP M j k v j k = v := by rw [mP, va_up_self]; exact pk_us
theorem mP_n {M : Nat → Nat → Int32} {j k i : Nat} {v : Int32} (h : i ≠ j) : mP M j k v i = M i := va_up_ne _ _ h
theorem mP_k {M : Nat → Nat → Int32} {j k i : Nat} {v : Int32} (h : i ≠ k) : mP M j k v j i = M j i := by rw [mP, va_up_self]; exact pk_un h
theorem va_Dmap {A : Nat → Prop} {ws ws' : va_W} (h : ws.map Prod.fst = ws'.map Prod.fst) (hD : va_D A ws) : va_D A ws' := by
  have key : ∀ (k : Nat) (q : Nat × va_E), ws'[k]? = some q → ∃ q0, ws[k]? = some q0 ∧ q0.1 = q.1 := by
    intro k q hk
    have h1 : (ws'.map Prod.fst)[k]? = some q.1 := by rw [List.getElem?_map, hk]; rfl
    rw [← h, List.getElem?_map] at h1
    cases h2 : ws[k]? with
    | none => rw [h2] at h1; cases h1
    | some q0 => rw [h2] at h1; exact ⟨q0, rfl, Option.some.inj h1⟩
  refine ⟨fun i j x y hi hj hxy => ?_, fun k q hk => ?_⟩
  · obtain ⟨x0, a1, a2⟩ := key i x hi
    obtain ⟨y0, b1, b2⟩ := key j y hj
    exact hD.1 i j x0 y0 a1 b1 (a2.trans (hxy.trans b2.symm))
  · obtain ⟨q0, a1, a2⟩ := key k q hk
    rw [← a2]
    exact hD.2 k q0 a1
/-- the start of a method that writes: the world, its cells apart, the words -/
def zMp (D : va_G) (ws : va_W) (ca : Nat → ClassId) (sa : Nat → Nat) (sz : Nat) (U : State) : Prop := U.heap.size = sz ∧ va_P D vwCl ws U.heap ∧ va_D (fun _ => True) ws ∧ zE D ca sa U
theorem zMblind {D : va_G} {ws : va_W} {ca : Nat → ClassId} {sa : Nat → Nat} {sz : Nat} {av : List Value} : FrameBlind (va_Pc av (zMp D ws ca sa sz)) := fun a U g mk q => ⟨q.1, q.2.1, q.2.2.1, q.2.2.2.1, zE.warm (U := U.calling g mk a) (State.WarmedH.refl U) q.2.2.2.2⟩
theorem zmS {D : va_G} {ws : va_W} {ca : Nat → ClassId} {sa : Nat → Nat} {s : State} {H : Heap} {A : Nat → Prop} {As : List Value} (hP : va_P D vwCl ws H) (hD : va_D A ws) (hE : zE D ca sa s) : PreS s H (va_Pc As (zMp D ws ca sa H.size)) As := ⟨zMblind, fun U hU hW => ⟨rfl, by rw [hU], by rw [hU]; exact hP, hD.weaken (fun _ _ _ _ => trivial), hE.warm hW⟩⟩
theorem zmV {D : va_G} {ws : va_W} {ca : Nat → ClassId} {sa : Nat → Nat} {s : State} {H : Heap} {A : Nat → Prop} {b q0 ci : Nat} {q : vw_C} {fs : List Value} {As : List Value} (hP : va_P D vwCl ws H) (hD : va_D A ws) (hE : zE D ca sa s) (hc : vwCl[ci]? = some q) (he : ws[q0]? = some (b, .inr (ci, fs))) : PreV s H q.1 b (va_Pc (.ref b :: As) (zMp D ws ca sa H.size)) As := ⟨zMblind, va_recv hE.1 hP hc he, fun U hU hW => ⟨rfl, by rw [hU], by rw [hU]; exact hP, hD.weaken (fun _ _ _ _ => trivial), hE.warm hW⟩⟩
theorem va_D.inA {A B : Nat → Prop} {ws : va_W} {sz : Nat} (hD : va_D A ws) (hz : ∀ q, sz ≤ q → A q) : ∀ q, va_A ws sz q → A q := fun q h => h.elim (fun ⟨k, e, h1⟩ => hD.2 k (q, e) h1) (hz q)
section ZN
variable {p : Program} {l : Launch} {e : Env} {R : Room} {s : State} {m : MethodId} {args : Array Value} {below : List Frame} {meth : Method} {c : Code} {H : Heap} {locs : List Loc} {cells slots : Nat} {Q : State → Prop}
variable {cc : ByteArray} {pc : Nat} {ls : Array Slot} {rest st0 : List Value} {A : Nat → Prop} {H0 : Heap} {D : va_G} {ca : Nat → ClassId} {sa : Nat → Nat} {ar : Array Value} {ws ws' : va_W}
theorem zmist (hexec : p.tables.exec = Jvm.exec) (hb : c.code = cc) (hE : zE D ca sa s) (hP : va_P D vwCl ws H) (hD : va_D A ws) (hS : va_S A H0 H locs) (q0 : Nat) {a n : Nat} {f : Nat → Int32} (ha : ws[q0]? = some (a, .inl (ca 3, n, .inl f))) {i : Nat} {x : Int32} (hi : i < n) (hn : n < 2 ^ 31) (hdg : decode cc pc = .ok (.iastore, 1))
    (kk : ∀ (H1 : Heap) (locs1 : List Loc), va_P D vwCl (ws.set q0 (a, .inl (ca 3, n, .inl (upd f i x)))) H1 → va_D A (ws.set q0 (a, .inl (ca 3, n, .inl (upd f i x)))) → va_S A H0 H1 locs1 → W p l e R s m args below meth c H1 locs1 cells slots Q (F0 m (pc + 1) ls rest)) : W p l e R s m args below meth c H locs cells slots Q (F0 m pc ls (.int x :: .int (nI i) :: .ref a :: rest)) := by
  refine va_iast hexec hb hE.1 hP hD hS q0 3 ha rfl (vp_in_nI hi hn) hdg (fun H1 locs1 h1 h2 h3 => ?_)
  rw [nI_clamp (by omega)] at h1 h2
  exact kk H1 locs1 h1 h2 h3
theorem zmzst (hexec : p.tables.exec = Jvm.exec) (hb : c.code = cc) (hE : zE D ca sa s) (hP : va_P D vwCl ws H) (hD : va_D A ws) (hS : va_S A H0 H locs) (q0 : Nat) {a n : Nat} {f : Nat → Int32} (ha : ws[q0]? = some (a, .inl (ca 4, n, .inl f))) {i : Nat} {x : Int32} (hi : i < n) (hn : n < 2 ^ 31) (hdg : decode cc pc = .ok (.bastore, 1))
    (kk : ∀ (H1 : Heap) (locs1 : List Loc), va_P D vwCl (ws.set q0 (a, .inl (ca 4, n, .inl (upd f i (vp_nar .boolean x))))) H1 → va_D A (ws.set q0 (a, .inl (ca 4, n, .inl (upd f i (vp_nar .boolean x))))) → va_S A H0 H1 locs1 → W p l e R s m args below meth c H1 locs1 cells slots Q (F0 m (pc + 1) ls rest)) : W p l e R s m args below meth c H locs cells slots Q (F0 m pc ls (.int x :: .int (nI i) :: .ref a :: rest)) := by
  refine va_zast hexec hb hE.1 hP hD hS q0 4 ha rfl (vp_in_nI hi hn) hdg (fun H1 locs1 h1 h2 h3 => ?_)
  rw [nI_clamp (by omega)] at h1 h2
  exact kk H1 locs1 h1 h2 h3
/-- behind a call of a method that writes in this very world -/
theorem zmci {post : Int32 → Prop} (hr : va_Run p l e R s m args below meth c H locs cells slots 0 0 (F0 m pc ls st0) rest (va_Qi (fun (r : Int32) (_ : Unit) => post r) (fun _ t => va_P D vwCl ws' t.heap) (va_A ws H.size) ar) (va_A ws H.size)) (hD : va_D A ws) (hw : ws.map Prod.fst = ws'.map Prod.fst) (hS : va_S A H0 H locs) (hA : ∀ q : Nat, H0.size ≤ q → A q)
    (kk : ∀ (r : Int32) (H1 : Heap) (locs1 : List Loc), post r → va_P D vwCl ws' H1 → va_D A ws' → va_S A H0 H1 locs1 → W p l e R s m args below meth c H1 locs1 cells slots Q (F0 m (pc + 3) ls (.int r :: rest))) : W p l e R s m args below meth c H locs cells slots Q (F0 m pc ls st0) := by
  have hF : ∀ q, va_A ws H.size q → A q := fun q h => h.elim (fun ⟨k, e, h1⟩ => hD.2 k (q, e) h1) (fun h => hA q (Nat.le_trans hS.1 h))
  refine va_calli hr hS (fun q _ h => hF q h) hF (fun r u t H1 locs1 ht _ hp hb _ _ hS1 => ?_)
  rw [ht] at hb
  exact kk r H1 locs1 hp hb (va_Dmap hw hD) hS1
/-- ends of methods that write -/
theorem zmri {post : Int32 → Prop} {v : Int32} (hexec : p.tables.exec = Jvm.exec) (hb : c.code = cc) (hr : meth.sig.returnType = some .int) (hlocks : meth.locks = false) (hdg : decode cc pc = .ok (.ireturn, 1)) (hP : va_P D vwCl ws' H) (hS : va_S A s.heap H locs) (hp : post v) : W p l e R s m args below meth c H locs 0 0 (MQ below (va_Qi (fun (r : Int32) (_ : Unit) => post r) (fun _ t => va_P D vwCl ws' t.heap) A) args s 0 0 A) (F0 m pc ls [.int v]) :=
  W.iret hexec hb hr (fun t ht _ => ⟨⟨v, (), rfl, hp, by show va_P D vwCl ws' t.heap; rw [ht]; exact hP⟩, hS.F ht⟩) hS.2.2 hdg hlocks
theorem zmrz {post : Int32 → Prop} {v : Int32} (hexec : p.tables.exec = Jvm.exec) (hb : c.code = cc) (hr : meth.sig.returnType = some .boolean) (hlocks : meth.locks = false) (hdg : decode cc pc = .ok (.ireturn, 1)) (hn : narrow .boolean (.int v) = .int v) (hP : va_P D vwCl ws' H) (hS : va_S A s.heap H locs) (hp : post v) : W p l e R s m args below meth c H locs 0 0 (MQ below (va_Qi (fun (r : Int32) (_ : Unit) => post r) (fun _ t => va_P D vwCl ws' t.heap) A) args s 0 0 A) (F0 m pc ls [.int v]) :=
  W.zret hexec hb hr hn (fun t ht _ => ⟨⟨v, (), rfl, hp, by show va_P D vwCl ws' t.heap; rw [ht]; exact hP⟩, hS.F ht⟩) hS.2.2 hdg hlocks
theorem zmrv (hexec : p.tables.exec = Jvm.exec) (hb : c.code = cc) (hr : meth.sig.returnType = none) (hlocks : meth.locks = false) (hdg : decode cc pc = .ok (.return_, 1)) (hP : va_P D vwCl ws' H) (hS : va_S A s.heap H locs) : W p l e R s m args below meth c H locs 0 0 (MQ below (va_Qv (fun _ : Unit => True) (fun _ t => va_P D vwCl ws' t.heap) A) args s 0 0 A) (F0 m pc ls []) :=
  W.vret hexec hb hr (fun t ht _ => ⟨⟨(), rfl, trivial, by show va_P D vwCl ws' t.heap; rw [ht]; exact hP⟩, hS.F ht⟩) hS.2.2 hdg hlocks
end ZN
theorem iB_t {v a b : Nat} (h1 : a ≤ v) (h2 : v ≤ b) (h3 : b < 2147483648) : iB (nI v) (nI a) (nI b) = true := by
  rw [iB, decide_eq_true (p := ¬ nI v < nI a) (fun q => absurd ((nI_ltI (by omega) (by omega)).mp q) (by omega)), decide_eq_true (p := ¬ nI b < nI v) (fun q => absurd ((nI_ltI (by omega) (by omega)).mp q) (by omega))]; rfl
theorem iT_t {n t : Nat} (h : t < n) (hn : n < 2147483648) : iT n (nI t) = true := by
  rw [iT, decide_eq_true (p := ¬ nI t < 0) (nI_pos (by omega)), decide_eq_true (p := ¬ nI n ≤ nI t) (fun q => absurd ((nI_leI (by omega) (by omega)).mp q) (by omega))]; rfl
theorem iB_n {v : Int32} {a b : Nat} (h : iB v (nI a) (nI b) = true) (hb : b < 2147483648) (hab : a ≤ b) : ∃ k : Nat, a ≤ k ∧ k ≤ b ∧ v = nI k := by
  rw [iB, Bool.and_eq_true, decide_eq_true_eq, decide_eq_true_eq] at h
  have h0 : ¬ v < 0 := fun q => h.1 (Int32.lt_of_lt_of_le q (nI_pos' (by omega)))
  obtain ⟨k, hk, rfl⟩ := nI_of h0
  exact ⟨k, Nat.le_of_not_lt (fun q => h.1 ((nI_ltI hk (by omega)).mpr q)), Nat.le_of_not_lt (fun q => h.2 ((nI_ltI (by omega) hk).mpr q)), rfl⟩
theorem iT_n {n : Nat} {t : Int32} (h : iT n t = true) (hn : n < 2147483648) : ∃ k : Nat, k < n ∧ t = nI k := by
  rw [iT, Bool.and_eq_true, decide_eq_true_eq, decide_eq_true_eq] at h
  obtain ⟨k, hk, rfl⟩ := nI_of h.1
  exact ⟨k, Nat.lt_of_not_le (fun q => h.2 ((nI_leI (by omega) hk).mpr q)), rfl⟩
theorem b01 (b : Bool) : vp_nar .boolean (bI b) = bI b := by cases b <;> rfl

set_option maxHeartbeats 4000000 in
set_option maxRecDepth 100000 in
theorem m_holds (l : Launch) (D : va_G) (ca : Nat → ClassId) (sa : Nat → Nat) (hm : Nat) (ad : Nat → Nat) (th : Int32) (td nt np nc : Nat) (M : Nat → Nat → Int32) (v : Nat) (hv9 : v ≤ 2) (sz : Nat) : Met l yX5_holds wsX5_holds ({ frames := 1, cells := 0, slots := 0, locals := 40 }) (va_Pc [.ref hm, .int (nI v)] (zMp D (mW hm ad ca th td nt np nc M) ca sa sz)) (va_Qi (fun (r : Int32) (_ : Unit) => r = bI (decide (v = 0))) (fun _ t9 => va_P D vwCl (mW hm ad ca (nI v) td nt np nc M) t9.heap) (va_A (mW hm ad ca th td nt np nc M) sz)) 0 0 (va_A (mW hm ad ca th td nt np nc M) sz) := by
  refine Met.ofW (cc := cX5_holds) (maxL := 2) (ret := (some .boolean)) (by decide) rfl ?_
  intro p e s m args below meth c s₁ B hml hv
  obtain ⟨rfl, hsz, hP, hD0, hE⟩ := hv
  have hx := B.exec
  have hb := B.bytes
  have hr := B.returns
  have hts := atoms_spec (ws := wsX5_holds) B.pre
  have hown : s.vm.findClass RX5 = some m.cls := findClass_of_methodNamed B.named
  have hlocks := B.notSynchronized
  have hl := lv_entry ([.ref hm, .int (nI v)]) (n := 2) (Nat.le_of_ble_eq_true rfl)
  rw [lg_entry_eq]
  generalize (lg_sl ([.ref hm, .int (nI v)]) ++ List.replicate (2 - (lg_sl ([.ref hm, .int (nI v)])).length) Slot.unset).toArray = ls at hl ⊢
  have hl : lv_has ls 2 [(0, .ref hm), (1, .int (nI v))] := hl
  subst hsz
  have hD := hD0.self (sz := s.heap.size)
  generalize hAe : va_A (mW hm ad ca th td nt np nc M) s.heap.size = A at hD ⊢
  have hA : ∀ q : Nat, s.heap.size ≤ q → A q := fun q h => by rw [← hAe]; exact Or.inr h
  have hS : va_S A s.heap s.heap [] := va_S.rf
  refine lv_aload_n hx hb dX5_holds_0 rfl (lv_at hl 0 rfl) ?_
  refine lv_iload_n hx hb dX5_holds_1 rfl (lv_at hl 1 rfl) ?_
  refine va_put (own := RX5) (ci := 5) (v := .int (nI v)) (ty := .int) (C := RX5) (T := TX5) (N := 18) hx hb hts (by decide +kernel) tyX5 tyX5_ok nmX5 hown hE.1 hP hD hS 0 rfl rfl 0 (by decide) (hts (.fieldLink RX5 50 "LinkResolverModel" "thrown" "I") (by decide +kernel)) (fun _ h9 => h9) rfl (by decide +kernel) rfl rfl (Nat.le_of_ble_eq_true rfl) dX5_holds_2 (fun H locs hP hD hS => ?_)
  have hP : va_P D vwCl (mW hm ad ca (nI v) td nt np nc M) H := hP
  have hD : va_D A (mW hm ad ca (nI v) td nt np nc M) := hD
  refine lv_iload_n hx hb dX5_holds_5 rfl (lv_at hl 1 rfl) ?_
  refine lv_if_ne (tgt := 13) hx hb dX5_holds_6 (by decide) (fun c_6 => ?_) (fun c_6 => ?_)
  · refine lv_iconst (v := nI 0) hx hb dX5_holds_13 (by decide) ?_
    exact zmrz hx hb hr hlocks dX5_holds_14 (rfl) hP hS (bI_f (fun q => c_6 (by rw [q]; rfl)))
  · refine lv_iconst (v := nI 1) hx hb dX5_holds_9 (by decide) ?_
    refine lv_goto (tgt := 14) hx hb dX5_holds_10 (by decide) ?_
    exact zmrz hx hb hr hlocks dX5_holds_14 (rfl) hP hS (bI_t ((nI_eq (a := v) (b := 0) (by omega) (by omega)).mp c_6))

set_option maxHeartbeats 4000000 in
set_option maxRecDepth 100000 in
theorem m_thrown (l : Launch) (D : va_G) (ca : Nat → ClassId) (sa : Nat → Nat) (hm : Nat) (ad : Nat → Nat) (th : Int32) (td nt np nc : Nat) (M : Nat → Nat → Int32) : Met l yX5_thrown wsX5_thrown ({ frames := 1, cells := 0, slots := 0, locals := 40 }) (va_Pc [.ref hm] (zPw D (mW hm ad ca th td nt np nc M) ca sa)) (vp_Si (fun r => r = th)) 0 0 (fun _ => False) := by
  refine Met.ofW (cc := cX5_thrown) (maxL := 1) (ret := (some .int)) (by decide) rfl ?_
  intro p e s m args below meth c s₁ B hml hv
  obtain ⟨rfl, hP, hE⟩ := hv
  have hx := B.exec
  have hb := B.bytes
  have hr := B.returns
  have hts := atoms_spec (ws := wsX5_thrown) B.pre
  have hown : s.vm.findClass RX5 = some m.cls := findClass_of_methodNamed B.named
  have hlocks := B.notSynchronized
  have hl := lv_entry ([.ref hm]) (n := 1) (Nat.le_of_ble_eq_true rfl)
  rw [lg_entry_eq]
  generalize (lg_sl ([.ref hm]) ++ List.replicate (1 - (lg_sl ([.ref hm])).length) Slot.unset).toArray = ls at hl ⊢
  have hl : lv_has ls 1 [(0, .ref hm)] := hl
  refine lv_aload_n hx hb dX5_thrown_0 rfl (lv_at hl 0 rfl) ?_
  refine zmget (own := RX5) (ci := 5) (C := RX5) (T := TX5) (N := 18) hx hb hts (by decide +kernel) hown hE hP 0 rfl rfl 0 (by decide) (hts (.fieldLink RX5 50 "LinkResolverModel" "thrown" "I") (by decide +kernel)) rfl dX5_thrown_1 ?_
  exact zri hx hb hr hlocks dX5_thrown_4 (rfl)

set_option maxHeartbeats 4000000 in
set_option maxRecDepth 100000 in
theorem m_today (l : Launch) (D : va_G) (ca : Nat → ClassId) (sa : Nat → Nat) (hm : Nat) (ad : Nat → Nat) (th : Int32) (td nt np nc : Nat) (M : Nat → Nat → Int32)  (sz : Nat) : Met l yX5_today wsX5_today ({ frames := 9, cells := 0, slots := 0, locals := 360 }) (va_Pc [.ref hm] (zMp D (mW hm ad ca th td nt np nc M) ca sa sz)) (va_Qi (fun (r : Int32) (_ : Unit) => r = nI td) (fun _ t9 => va_P D vwCl (mW hm ad ca (nI 0) td nt np nc M) t9.heap) (va_A (mW hm ad ca th td nt np nc M) sz)) 0 0 (va_A (mW hm ad ca th td nt np nc M) sz) := by
  refine Met.ofW (cc := cX5_today) (maxL := 1) (ret := (some .int)) (by decide) rfl ?_
  intro p e s m args below meth c s₁ B hml hv
  obtain ⟨rfl, hsz, hP, hD0, hE⟩ := hv
  have hx := B.exec
  have hb := B.bytes
  have hr := B.returns
  have hts := atoms_spec (ws := wsX5_today) B.pre
  have hown : s.vm.findClass RX5 = some m.cls := findClass_of_methodNamed B.named
  have hlocks := B.notSynchronized
  have hl := lv_entry ([.ref hm]) (n := 1) (Nat.le_of_ble_eq_true rfl)
  rw [lg_entry_eq]
  generalize (lg_sl ([.ref hm]) ++ List.replicate (1 - (lg_sl ([.ref hm])).length) Slot.unset).toArray = ls at hl ⊢
  have hl : lv_has ls 1 [(0, .ref hm)] := hl
  subst hsz
  have hD := hD0.self (sz := s.heap.size)
  generalize hAe : va_A (mW hm ad ca th td nt np nc M) s.heap.size = A at hD ⊢
  have hA : ∀ q : Nat, s.heap.size ≤ q → A q := fun q h => by rw [← hAe]; exact Or.inr h
  have hS : va_S A s.heap s.heap [] := va_S.rf
  refine lv_aload_n hx hb dX5_today_0 rfl (lv_at hl 0 rfl) ?_
  refine lv_iconst (v := nI 0) hx hb dX5_today_1 (by decide) ?_
  refine va_put (own := RX5) (ci := 5) (v := .int (nI 0)) (ty := .int) (C := RX5) (T := TX5) (N := 18) hx hb hts (by decide +kernel) tyX5 tyX5_ok nmX5 hown hE.1 hP hD hS 0 rfl rfl 0 (by decide) (hts (.fieldLink RX5 50 "LinkResolverModel" "thrown" "I") (by decide +kernel)) (fun _ h9 => h9) rfl (by decide +kernel) rfl rfl (Nat.le_of_ble_eq_true rfl) dX5_today_2 (fun H locs hP hD hS => ?_)
  have hP : va_P D vwCl (mW hm ad ca (nI 0) td nt np nc M) H := hP
  have hD : va_D A (mW hm ad ca (nI 0) td nt np nc M) := hD
  refine lv_aload_n hx hb dX5_today_5 rfl (lv_at hl 0 rfl) ?_
  refine zmget (own := RX5) (ci := 5) (C := RX5) (T := TX5) (N := 18) hx hb hts (by decide +kernel) hown hE hP 0 rfl rfl 1 (by decide) (hts (.fieldLink RX5 78 "LinkResolverModel" "today" "I") (by decide +kernel)) rfl dX5_today_6 ?_
  exact zmri hx hb hr hlocks dX5_today_9 hP hS (rfl)

set_option maxHeartbeats 4000000 in
set_option maxRecDepth 100000 in
theorem m_addTitle (l : Launch) (D : va_G) (ca : Nat → ClassId) (sa : Nat → Nat) (hm : Nat) (ad : Nat → Nat) (th : Int32) (td nt np nc : Nat) (M : Nat → Nat → Int32) (a b : Nat) (ha : a ≤ 55) (hb1 : 1 ≤ b) (hb4 : b ≤ 4) (hnt : nt < 20) (sz : Nat) : Met l yX5_addTitle wsX5_addTitle ({ frames := 9, cells := 0, slots := 0, locals := 360 }) (va_Pc [.ref hm, .int (nI a), .int (nI b)] (zMp D (mW hm ad ca th td nt np nc M) ca sa sz)) (va_Qi (fun (r : Int32) (_ : Unit) => r = nI nt) (fun _ t9 => va_P D vwCl (mW hm ad ca (nI 0) td (nt + 1) np nc (mP (mP M 0 nt (nI a)) 1 nt (nI b))) t9.heap) (va_A (mW hm ad ca th td nt np nc M) sz)) 0 0 (va_A (mW hm ad ca th td nt np nc M) sz) := by
  refine Met.ofW (cc := cX5_addTitle) (maxL := 3) (ret := (some .int)) (by decide) rfl ?_
  intro p e s m args below meth c s₁ B hml hv
  obtain ⟨rfl, hsz, hP, hD0, hE⟩ := hv
  have hx := B.exec
  have hb := B.bytes
  have hr := B.returns
  have hts := atoms_spec (ws := wsX5_addTitle) B.pre
  have hown : s.vm.findClass RX5 = some m.cls := findClass_of_methodNamed B.named
  have hlocks := B.notSynchronized
  have hl := lv_entry ([.ref hm, .int (nI a), .int (nI b)]) (n := 3) (Nat.le_of_ble_eq_true rfl)
  rw [lg_entry_eq]
  generalize (lg_sl ([.ref hm, .int (nI a), .int (nI b)]) ++ List.replicate (3 - (lg_sl ([.ref hm, .int (nI a), .int (nI b)])).length) Slot.unset).toArray = ls at hl ⊢
  have hl : lv_has ls 3 [(0, .ref hm), (1, .int (nI a)), (2, .int (nI b))] := hl
  subst hsz
  have hD := hD0.self (sz := s.heap.size)
  generalize hAe : va_A (mW hm ad ca th td nt np nc M) s.heap.size = A at hD ⊢
  have hA : ∀ q : Nat, s.heap.size ≤ q → A q := fun q h => by rw [← hAe]; exact Or.inr h
  have hS : va_S A s.heap s.heap [] := va_S.rf
  refine lv_aload_n hx hb dX5_addTitle_0 rfl (lv_at hl 0 rfl) ?_
  refine lv_iload_n hx hb dX5_addTitle_1 rfl (lv_at hl 1 rfl) ?_
  refine lv_iconst (v := nI 0) hx hb dX5_addTitle_2 (by decide) ?_
  refine lv_bipush (v := nI 55) hx hb dX5_addTitle_3 (by decide) ?_
  refine zci (va_runS (As := [.int (nI a), .int (nI 0), .int (nI 55)]) (rest := [.ref hm]) ⟨hx, hb, hml, hown, hts⟩ (m_isB l D ca sa _ _ _ _) (va_cwS 3 hts gX5_addTitle_X5_isBetween rfl rfl rfl (by decide +kernel) ⟨Nat.le_of_ble_eq_true rfl, Nat.le_of_ble_eq_true rfl⟩) (zpS hP hE) rfl rfl hl.1 rfl (lv_room (Nat.le_of_ble_eq_true rfl)) dX5_addTitle_5 ⟨Nat.le_of_ble_eq_true rfl, Nat.le_of_ble_eq_true rfl⟩) ?_
  refine zasi (show (bI (iB ((nI a)) ((nI 0)) ((nI 55)))) = nI 1 from by rw [iB_t (Nat.zero_le _) ha (by decide)]; rfl) ?_
  refine lv_if_eq (tgt := 20) hx hb dX5_addTitle_8 (by decide) (fun c_8 => ?_) (fun c_8 => ?_)
  · exact absurd c_8 (by decide)
  · refine lv_iload_n hx hb dX5_addTitle_11 rfl (lv_at hl 2 rfl) ?_
    refine lv_iconst (v := nI 1) hx hb dX5_addTitle_12 (by decide) ?_
    refine lv_iconst (v := nI 4) hx hb dX5_addTitle_13 (by decide) ?_
    refine zci (va_runS (As := [.int (nI b), .int (nI 1), .int (nI 4)]) (rest := [.ref hm]) ⟨hx, hb, hml, hown, hts⟩ (m_isB l D ca sa _ _ _ _) (va_cwS 3 hts gX5_addTitle_X5_isBetween rfl rfl rfl (by decide +kernel) ⟨Nat.le_of_ble_eq_true rfl, Nat.le_of_ble_eq_true rfl⟩) (zpS hP hE) rfl rfl hl.1 rfl (lv_room (Nat.le_of_ble_eq_true rfl)) dX5_addTitle_14 ⟨Nat.le_of_ble_eq_true rfl, Nat.le_of_ble_eq_true rfl⟩) ?_
    refine zasi (show (bI (iB ((nI b)) ((nI 1)) ((nI 4)))) = nI 1 from by rw [iB_t hb1 hb4 (by decide)]; rfl) ?_
    refine lv_if_ne (tgt := 24) hx hb dX5_addTitle_17 (by decide) (fun c_17 => ?_) (fun c_17 => ?_)
    · refine lv_aload_n hx hb dX5_addTitle_24 rfl (lv_at hl 0 rfl) ?_
      refine zmget (own := RX5) (ci := 5) (C := RX5) (T := TX5) (N := 18) hx hb hts (by decide +kernel) hown hE hP 0 rfl rfl 2 (by decide) (hts (.fieldLink RX5 54 "LinkResolverModel" "titles" "I") (by decide +kernel)) rfl dX5_addTitle_25 ?_
      refine lv_bipush (v := nI 20) hx hb dX5_addTitle_28 (by decide) ?_
      refine lv_icmp_ne (tgt := 37) hx hb dX5_addTitle_30 (by decide) (fun c_30 => ?_) (fun c_30 => ?_)
      · refine lv_iconst (v := nI 0) hx hb dX5_addTitle_37 (by decide) ?_
        refine zmci (va_runV (As := [.int (nI 0)]) (rest := []) ⟨hx, hb, hml, hown, hts⟩ (m_holds l D ca sa hm ad th td nt np nc M 0 (by decide) _) (cwV 1 hts gX5_addTitle_X5_holds rfl rfl rfl (by decide +kernel) ⟨Nat.le_of_ble_eq_true rfl, Nat.le_of_ble_eq_true rfl⟩) (zmV hP hD hE (ci := 5) rfl (q0 := 0) rfl) rfl rfl hl.1 rfl (lv_room (Nat.le_of_ble_eq_true rfl)) dX5_addTitle_38 ⟨Nat.le_of_ble_eq_true rfl, Nat.le_of_ble_eq_true rfl⟩) hD rfl hS hA (fun r9 H locs er hP hD hS => ?_)
        subst er
        refine zasi (show bI (decide (0 = 0)) = nI 1 from rfl) ?_
        refine lv_if_ne (tgt := 46) hx hb dX5_addTitle_41 (by decide) (fun c_41 => ?_) (fun c_41 => ?_)
        · refine lv_aload_n hx hb dX5_addTitle_46 rfl (lv_at hl 0 rfl) ?_
          refine zmget (own := RX5) (ci := 5) (C := RX5) (T := TX5) (N := 18) hx hb hts (by decide +kernel) hown hE hP 0 rfl rfl 4 (by decide) (hts (.fieldLink RX5 7 "LinkResolverModel" "firstYears" "[I") (by decide +kernel)) rfl dX5_addTitle_47 ?_
          refine lv_aload_n hx hb dX5_addTitle_50 rfl (lv_at hl 0 rfl) ?_
          refine zmget (own := RX5) (ci := 5) (C := RX5) (T := TX5) (N := 18) hx hb hts (by decide +kernel) hown hE hP 0 rfl rfl 2 (by decide) (hts (.fieldLink RX5 54 "LinkResolverModel" "titles" "I") (by decide +kernel)) rfl dX5_addTitle_51 ?_
          refine lv_iload_n hx hb dX5_addTitle_54 rfl (lv_at hl 1 rfl) ?_
          refine zmist hx hb hE hP hD hS 1 rfl (i := nt) (show _ < _ from by omega) (by decide) dX5_addTitle_55 (fun H locs hP hD hS => ?_)
          have hP : va_P D vwCl (mW hm ad ca (nI 0) td nt np nc (mP M 0 nt (nI a))) H := hP
          have hD : va_D A (mW hm ad ca (nI 0) td nt np nc (mP M 0 nt (nI a))) := hD
          refine lv_aload_n hx hb dX5_addTitle_56 rfl (lv_at hl 0 rfl) ?_
          refine zmget (own := RX5) (ci := 5) (C := RX5) (T := TX5) (N := 18) hx hb hts (by decide +kernel) hown hE hP 0 rfl rfl 5 (by decide) (hts (.fieldLink RX5 13 "LinkResolverModel" "volumes" "[I") (by decide +kernel)) rfl dX5_addTitle_57 ?_
          refine lv_aload_n hx hb dX5_addTitle_60 rfl (lv_at hl 0 rfl) ?_
          refine zmget (own := RX5) (ci := 5) (C := RX5) (T := TX5) (N := 18) hx hb hts (by decide +kernel) hown hE hP 0 rfl rfl 2 (by decide) (hts (.fieldLink RX5 54 "LinkResolverModel" "titles" "I") (by decide +kernel)) rfl dX5_addTitle_61 ?_
          refine lv_iload_n hx hb dX5_addTitle_64 rfl (lv_at hl 2 rfl) ?_
          refine zmist hx hb hE hP hD hS 2 rfl (i := nt) (show _ < _ from by omega) (by decide) dX5_addTitle_65 (fun H locs hP hD hS => ?_)
          have hP : va_P D vwCl (mW hm ad ca (nI 0) td nt np nc (mP (mP M 0 nt (nI a)) 1 nt (nI b))) H := hP
          have hD : va_D A (mW hm ad ca (nI 0) td nt np nc (mP (mP M 0 nt (nI a)) 1 nt (nI b))) := hD
          refine lv_aload_n hx hb dX5_addTitle_66 rfl (lv_at hl 0 rfl) ?_
          refine lv_dup hx hb dX5_addTitle_67 rfl ?_
          refine zmget (own := RX5) (ci := 5) (C := RX5) (T := TX5) (N := 18) hx hb hts (by decide +kernel) hown hE hP 0 rfl rfl 2 (by decide) (hts (.fieldLink RX5 54 "LinkResolverModel" "titles" "I") (by decide +kernel)) rfl dX5_addTitle_68 ?_
          refine lv_iconst (v := nI 1) hx hb dX5_addTitle_71 (by decide) ?_
          refine lv_iadd hx hb dX5_addTitle_72 ?_
          refine zasi (show ((nI nt) + (nI 1)) = nI (nt + 1) from nI_1 _) ?_
          refine va_put (own := RX5) (ci := 5) (v := .int (nI (nt + 1))) (ty := .int) (C := RX5) (T := TX5) (N := 18) hx hb hts (by decide +kernel) tyX5 tyX5_ok nmX5 hown hE.1 hP hD hS 0 rfl rfl 2 (by decide) (hts (.fieldLink RX5 54 "LinkResolverModel" "titles" "I") (by decide +kernel)) (fun _ h9 => h9) rfl (by decide +kernel) rfl rfl (Nat.le_of_ble_eq_true rfl) dX5_addTitle_73 (fun H locs hP hD hS => ?_)
          have hP : va_P D vwCl (mW hm ad ca (nI 0) td (nt + 1) np nc (mP (mP M 0 nt (nI a)) 1 nt (nI b))) H := hP
          have hD : va_D A (mW hm ad ca (nI 0) td (nt + 1) np nc (mP (mP M 0 nt (nI a)) 1 nt (nI b))) := hD
          refine lv_aload_n hx hb dX5_addTitle_76 rfl (lv_at hl 0 rfl) ?_
          refine zmget (own := RX5) (ci := 5) (C := RX5) (T := TX5) (N := 18) hx hb hts (by decide +kernel) hown hE hP 0 rfl rfl 2 (by decide) (hts (.fieldLink RX5 54 "LinkResolverModel" "titles" "I") (by decide +kernel)) rfl dX5_addTitle_77 ?_
          refine lv_iconst (v := nI 1) hx hb dX5_addTitle_80 (by decide) ?_
          refine lv_isub hx hb dX5_addTitle_81 ?_
          refine zasi (show ((nI (nt + 1)) - (nI 1)) = nI nt from pk_sub (by omega)) ?_
          exact zmri hx hb hr hlocks dX5_addTitle_82 hP hS (rfl)
        · exact absurd c_41 (by decide)
      · exact absurd ((nI_eq (by omega) (by omega)).mp c_30) (by omega)
    · exact absurd c_17 (by decide)

set_option maxHeartbeats 4000000 in
set_option maxRecDepth 100000 in
theorem m_addTitle_1 (l : Launch) (D : va_G) (ca : Nat → ClassId) (sa : Nat → Nat) (hm : Nat) (ad : Nat → Nat) (th : Int32) (td nt np nc : Nat) (M : Nat → Nat → Int32) (a b : Int32) (hbad : (iB a (nI 0) (nI 55) && iB b (nI 1) (nI 4)) = false) (sz : Nat) : Met l yX5_addTitle wsX5_addTitle ({ frames := 9, cells := 0, slots := 0, locals := 360 }) (va_Pc [.ref hm, .int a, .int b] (zMp D (mW hm ad ca th td nt np nc M) ca sa sz)) (va_Qi (fun (r : Int32) (_ : Unit) => True) (fun _ t9 => va_P D vwCl (mW hm ad ca (nI 1) td nt np nc M) t9.heap) (va_A (mW hm ad ca th td nt np nc M) sz)) 0 0 (va_A (mW hm ad ca th td nt np nc M) sz) := by
  refine Met.ofW (cc := cX5_addTitle) (maxL := 3) (ret := (some .int)) (by decide) rfl ?_
  intro p e s m args below meth c s₁ B hml hv
  obtain ⟨rfl, hsz, hP, hD0, hE⟩ := hv
  have hx := B.exec
  have hb := B.bytes
  have hr := B.returns
  have hts := atoms_spec (ws := wsX5_addTitle) B.pre
  have hown : s.vm.findClass RX5 = some m.cls := findClass_of_methodNamed B.named
  have hlocks := B.notSynchronized
  have hl := lv_entry ([.ref hm, .int a, .int b]) (n := 3) (Nat.le_of_ble_eq_true rfl)
  rw [lg_entry_eq]
  generalize (lg_sl ([.ref hm, .int a, .int b]) ++ List.replicate (3 - (lg_sl ([.ref hm, .int a, .int b])).length) Slot.unset).toArray = ls at hl ⊢
  have hl : lv_has ls 3 [(0, .ref hm), (1, .int a), (2, .int b)] := hl
  subst hsz
  have hD := hD0.self (sz := s.heap.size)
  generalize hAe : va_A (mW hm ad ca th td nt np nc M) s.heap.size = A at hD ⊢
  have hA : ∀ q : Nat, s.heap.size ≤ q → A q := fun q h => by rw [← hAe]; exact Or.inr h
  have hS : va_S A s.heap s.heap [] := va_S.rf
  refine lv_aload_n hx hb dX5_addTitle_0 rfl (lv_at hl 0 rfl) ?_
  refine lv_iload_n hx hb dX5_addTitle_1 rfl (lv_at hl 1 rfl) ?_
  refine lv_iconst (v := nI 0) hx hb dX5_addTitle_2 (by decide) ?_
  refine lv_bipush (v := nI 55) hx hb dX5_addTitle_3 (by decide) ?_
  refine zci (va_runS (As := [.int a, .int (nI 0), .int (nI 55)]) (rest := [.ref hm]) ⟨hx, hb, hml, hown, hts⟩ (m_isB l D ca sa _ _ _ _) (va_cwS 3 hts gX5_addTitle_X5_isBetween rfl rfl rfl (by decide +kernel) ⟨Nat.le_of_ble_eq_true rfl, Nat.le_of_ble_eq_true rfl⟩) (zpS hP hE) rfl rfl hl.1 rfl (lv_room (Nat.le_of_ble_eq_true rfl)) dX5_addTitle_5 ⟨Nat.le_of_ble_eq_true rfl, Nat.le_of_ble_eq_true rfl⟩) ?_
  refine lv_if_eq (tgt := 20) hx hb dX5_addTitle_8 (by decide) (fun c_8 => ?_) (fun c_8 => ?_)
  · have e_8 := bI_eq0 c_8
    refine lv_iconst (v := nI 1) hx hb dX5_addTitle_20 (by decide) ?_
    refine lv_goto (tgt := 38) hx hb dX5_addTitle_21 (by decide) ?_
    refine zmci (va_runV (As := [.int (nI 1)]) (rest := []) ⟨hx, hb, hml, hown, hts⟩ (m_holds l D ca sa hm ad th td nt np nc M 1 (by decide) _) (cwV 1 hts gX5_addTitle_X5_holds rfl rfl rfl (by decide +kernel) ⟨Nat.le_of_ble_eq_true rfl, Nat.le_of_ble_eq_true rfl⟩) (zmV hP hD hE (ci := 5) rfl (q0 := 0) rfl) rfl rfl hl.1 rfl (lv_room (Nat.le_of_ble_eq_true rfl)) dX5_addTitle_38 ⟨Nat.le_of_ble_eq_true rfl, Nat.le_of_ble_eq_true rfl⟩) hD rfl hS hA (fun r9 H locs er hP hD hS => ?_)
    subst er
    refine zasi (show bI (decide (1 = 0)) = nI 0 from rfl) ?_
    refine lv_if_ne (tgt := 46) hx hb dX5_addTitle_41 (by decide) (fun c_41 => ?_) (fun c_41 => ?_)
    · exact absurd c_41 (by decide)
    · refine lv_iconst (v := nI 0) hx hb dX5_addTitle_44 (by decide) ?_
      exact zmri hx hb hr hlocks dX5_addTitle_45 hP hS (trivial)
  · have e_8 := bI_ne0 c_8
    refine lv_iload_n hx hb dX5_addTitle_11 rfl (lv_at hl 2 rfl) ?_
    refine lv_iconst (v := nI 1) hx hb dX5_addTitle_12 (by decide) ?_
    refine lv_iconst (v := nI 4) hx hb dX5_addTitle_13 (by decide) ?_
    refine zci (va_runS (As := [.int b, .int (nI 1), .int (nI 4)]) (rest := [.ref hm]) ⟨hx, hb, hml, hown, hts⟩ (m_isB l D ca sa _ _ _ _) (va_cwS 3 hts gX5_addTitle_X5_isBetween rfl rfl rfl (by decide +kernel) ⟨Nat.le_of_ble_eq_true rfl, Nat.le_of_ble_eq_true rfl⟩) (zpS hP hE) rfl rfl hl.1 rfl (lv_room (Nat.le_of_ble_eq_true rfl)) dX5_addTitle_14 ⟨Nat.le_of_ble_eq_true rfl, Nat.le_of_ble_eq_true rfl⟩) ?_
    refine lv_if_ne (tgt := 24) hx hb dX5_addTitle_17 (by decide) (fun c_17 => ?_) (fun c_17 => ?_)
    · have e_17 := bI_ne0 c_17
      refine lv_aload_n hx hb dX5_addTitle_24 rfl (lv_at hl 0 rfl) ?_
      refine zmget (own := RX5) (ci := 5) (C := RX5) (T := TX5) (N := 18) hx hb hts (by decide +kernel) hown hE hP 0 rfl rfl 2 (by decide) (hts (.fieldLink RX5 54 "LinkResolverModel" "titles" "I") (by decide +kernel)) rfl dX5_addTitle_25 ?_
      refine lv_bipush (v := nI 20) hx hb dX5_addTitle_28 (by decide) ?_
      refine lv_icmp_ne (tgt := 37) hx hb dX5_addTitle_30 (by decide) (fun c_30 => ?_) (fun c_30 => ?_)
      · refine lv_iconst (v := nI 0) hx hb dX5_addTitle_37 (by decide) ?_
        exact absurd hbad (by simp [e_8, e_17])
      · refine lv_iconst (v := nI 2) hx hb dX5_addTitle_33 (by decide) ?_
        refine lv_goto (tgt := 38) hx hb dX5_addTitle_34 (by decide) ?_
        exact absurd hbad (by simp [e_8, e_17])
    · have e_17 := bI_eq0 c_17
      refine lv_iconst (v := nI 1) hx hb dX5_addTitle_20 (by decide) ?_
      refine lv_goto (tgt := 38) hx hb dX5_addTitle_21 (by decide) ?_
      refine zmci (va_runV (As := [.int (nI 1)]) (rest := []) ⟨hx, hb, hml, hown, hts⟩ (m_holds l D ca sa hm ad th td nt np nc M 1 (by decide) _) (cwV 1 hts gX5_addTitle_X5_holds rfl rfl rfl (by decide +kernel) ⟨Nat.le_of_ble_eq_true rfl, Nat.le_of_ble_eq_true rfl⟩) (zmV hP hD hE (ci := 5) rfl (q0 := 0) rfl) rfl rfl hl.1 rfl (lv_room (Nat.le_of_ble_eq_true rfl)) dX5_addTitle_38 ⟨Nat.le_of_ble_eq_true rfl, Nat.le_of_ble_eq_true rfl⟩) hD rfl hS hA (fun r9 H locs er hP hD hS => ?_)
      subst er
      refine zasi (show bI (decide (1 = 0)) = nI 0 from rfl) ?_
      refine lv_if_ne (tgt := 46) hx hb dX5_addTitle_41 (by decide) (fun c_41 => ?_) (fun c_41 => ?_)
      · exact absurd c_41 (by decide)
      · refine lv_iconst (v := nI 0) hx hb dX5_addTitle_44 (by decide) ?_
        exact zmri hx hb hr hlocks dX5_addTitle_45 hP hS (trivial)

set_option maxHeartbeats 4000000 in
set_option maxRecDepth 100000 in
theorem m_addTitle_2 (l : Launch) (D : va_G) (ca : Nat → ClassId) (sa : Nat → Nat) (hm : Nat) (ad : Nat → Nat) (th : Int32) (td nt np nc : Nat) (M : Nat → Nat → Int32) (a b : Int32) (h1 : iB a (nI 0) (nI 55) = true) (h2 : iB b (nI 1) (nI 4) = true) (hnt : nt = 20) (sz : Nat) : Met l yX5_addTitle wsX5_addTitle ({ frames := 9, cells := 0, slots := 0, locals := 360 }) (va_Pc [.ref hm, .int a, .int b] (zMp D (mW hm ad ca th td nt np nc M) ca sa sz)) (va_Qi (fun (r : Int32) (_ : Unit) => True) (fun _ t9 => va_P D vwCl (mW hm ad ca (nI 2) td nt np nc M) t9.heap) (va_A (mW hm ad ca th td nt np nc M) sz)) 0 0 (va_A (mW hm ad ca th td nt np nc M) sz) := by
  refine Met.ofW (cc := cX5_addTitle) (maxL := 3) (ret := (some .int)) (by decide) rfl ?_
  intro p e s m args below meth c s₁ B hml hv
  obtain ⟨rfl, hsz, hP, hD0, hE⟩ := hv
  have hx := B.exec
  have hb := B.bytes
  have hr := B.returns
  have hts := atoms_spec (ws := wsX5_addTitle) B.pre
  have hown : s.vm.findClass RX5 = some m.cls := findClass_of_methodNamed B.named
  have hlocks := B.notSynchronized
  have hl := lv_entry ([.ref hm, .int a, .int b]) (n := 3) (Nat.le_of_ble_eq_true rfl)
  rw [lg_entry_eq]
  generalize (lg_sl ([.ref hm, .int a, .int b]) ++ List.replicate (3 - (lg_sl ([.ref hm, .int a, .int b])).length) Slot.unset).toArray = ls at hl ⊢
  have hl : lv_has ls 3 [(0, .ref hm), (1, .int a), (2, .int b)] := hl
  subst hsz
  have hD := hD0.self (sz := s.heap.size)
  generalize hAe : va_A (mW hm ad ca th td nt np nc M) s.heap.size = A at hD ⊢
  have hA : ∀ q : Nat, s.heap.size ≤ q → A q := fun q h => by rw [← hAe]; exact Or.inr h
  have hS : va_S A s.heap s.heap [] := va_S.rf
  refine lv_aload_n hx hb dX5_addTitle_0 rfl (lv_at hl 0 rfl) ?_
  refine lv_iload_n hx hb dX5_addTitle_1 rfl (lv_at hl 1 rfl) ?_
  refine lv_iconst (v := nI 0) hx hb dX5_addTitle_2 (by decide) ?_
  refine lv_bipush (v := nI 55) hx hb dX5_addTitle_3 (by decide) ?_
  refine zci (va_runS (As := [.int a, .int (nI 0), .int (nI 55)]) (rest := [.ref hm]) ⟨hx, hb, hml, hown, hts⟩ (m_isB l D ca sa _ _ _ _) (va_cwS 3 hts gX5_addTitle_X5_isBetween rfl rfl rfl (by decide +kernel) ⟨Nat.le_of_ble_eq_true rfl, Nat.le_of_ble_eq_true rfl⟩) (zpS hP hE) rfl rfl hl.1 rfl (lv_room (Nat.le_of_ble_eq_true rfl)) dX5_addTitle_5 ⟨Nat.le_of_ble_eq_true rfl, Nat.le_of_ble_eq_true rfl⟩) ?_
  refine zasi (show (bI (iB (a) ((nI 0)) ((nI 55)))) = nI 1 from by rw [h1]; rfl) ?_
  refine lv_if_eq (tgt := 20) hx hb dX5_addTitle_8 (by decide) (fun c_8 => ?_) (fun c_8 => ?_)
  · exact absurd c_8 (by decide)
  · refine lv_iload_n hx hb dX5_addTitle_11 rfl (lv_at hl 2 rfl) ?_
    refine lv_iconst (v := nI 1) hx hb dX5_addTitle_12 (by decide) ?_
    refine lv_iconst (v := nI 4) hx hb dX5_addTitle_13 (by decide) ?_
    refine zci (va_runS (As := [.int b, .int (nI 1), .int (nI 4)]) (rest := [.ref hm]) ⟨hx, hb, hml, hown, hts⟩ (m_isB l D ca sa _ _ _ _) (va_cwS 3 hts gX5_addTitle_X5_isBetween rfl rfl rfl (by decide +kernel) ⟨Nat.le_of_ble_eq_true rfl, Nat.le_of_ble_eq_true rfl⟩) (zpS hP hE) rfl rfl hl.1 rfl (lv_room (Nat.le_of_ble_eq_true rfl)) dX5_addTitle_14 ⟨Nat.le_of_ble_eq_true rfl, Nat.le_of_ble_eq_true rfl⟩) ?_
    refine zasi (show (bI (iB (b) ((nI 1)) ((nI 4)))) = nI 1 from by rw [h2]; rfl) ?_
    refine lv_if_ne (tgt := 24) hx hb dX5_addTitle_17 (by decide) (fun c_17 => ?_) (fun c_17 => ?_)
    · refine lv_aload_n hx hb dX5_addTitle_24 rfl (lv_at hl 0 rfl) ?_
      refine zmget (own := RX5) (ci := 5) (C := RX5) (T := TX5) (N := 18) hx hb hts (by decide +kernel) hown hE hP 0 rfl rfl 2 (by decide) (hts (.fieldLink RX5 54 "LinkResolverModel" "titles" "I") (by decide +kernel)) rfl dX5_addTitle_25 ?_
      refine lv_bipush (v := nI 20) hx hb dX5_addTitle_28 (by decide) ?_
      refine lv_icmp_ne (tgt := 37) hx hb dX5_addTitle_30 (by decide) (fun c_30 => ?_) (fun c_30 => ?_)
      · exact absurd (by rw [hnt]) c_30
      · refine lv_iconst (v := nI 2) hx hb dX5_addTitle_33 (by decide) ?_
        refine lv_goto (tgt := 38) hx hb dX5_addTitle_34 (by decide) ?_
        refine zmci (va_runV (As := [.int (nI 2)]) (rest := []) ⟨hx, hb, hml, hown, hts⟩ (m_holds l D ca sa hm ad th td nt np nc M 2 (by decide) _) (cwV 1 hts gX5_addTitle_X5_holds rfl rfl rfl (by decide +kernel) ⟨Nat.le_of_ble_eq_true rfl, Nat.le_of_ble_eq_true rfl⟩) (zmV hP hD hE (ci := 5) rfl (q0 := 0) rfl) rfl rfl hl.1 rfl (lv_room (Nat.le_of_ble_eq_true rfl)) dX5_addTitle_38 ⟨Nat.le_of_ble_eq_true rfl, Nat.le_of_ble_eq_true rfl⟩) hD rfl hS hA (fun r9 H locs er hP hD hS => ?_)
        subst er
        refine zasi (show bI (decide (2 = 0)) = nI 0 from rfl) ?_
        refine lv_if_ne (tgt := 46) hx hb dX5_addTitle_41 (by decide) (fun c_41 => ?_) (fun c_41 => ?_)
        · exact absurd c_41 (by decide)
        · refine lv_iconst (v := nI 0) hx hb dX5_addTitle_44 (by decide) ?_
          exact zmri hx hb hr hlocks dX5_addTitle_45 hP hS (trivial)
    · exact absurd c_17 (by decide)

theorem zvb (a b : Nat) (hb : b ≤ 4) : (56 - a) * b ≤ 224 := Nat.le_trans (Nat.mul_le_mul (show 56 - a ≤ 56 by omega) hb) (by decide)
theorem zvd {fy vo v : Nat} (h1 : 1 ≤ v) (hf : fy ≤ 55) (h2 : v ≤ (56 - fy) * vo) : (v - 1) / vo ≤ 55 - fy := by
  have h3 : v - 1 < (56 - fy) * vo := by omega
  have h4 := Nat.div_lt_of_lt_mul (show v - 1 < vo * (56 - fy) by rw [Nat.mul_comm]; exact h3)
  omega
theorem zvu {fy vo v : Nat} (h1 : 1 ≤ v) (hf : fy ≤ 55) (hv : 1 ≤ vo) (h : (v - 1) / vo ≤ 55 - fy) : v ≤ (56 - fy) * vo := by
  have h2 : v - 1 < vo * ((v - 1) / vo + 1) := Nat.lt_mul_div_succ _ (by omega)
  have h3 : vo * ((v - 1) / vo + 1) ≤ vo * (56 - fy) := Nat.mul_le_mul (Nat.le_refl _) (by omega)
  rw [Nat.mul_comm (56 - fy) vo]
  omega
theorem zne1 {n : Nat} (h : 1 ≤ n) (h2 : n ≤ 4) : ¬ nI n = 0 := nI_ne0 (by omega) (by omega)
theorem zdv {a b : Nat} (ha : a < 2147483648) (h1 : 1 ≤ b) (h2 : b ≤ 4) : nI a / nI b = nI (a / b) := pk_div ha (by omega) (by omega)

set_option maxHeartbeats 4000000 in
set_option maxRecDepth 100000 in
theorem m_yearOf (l : Launch) (D : va_G) (ca : Nat → ClassId) (sa : Nat → Nat) (hm : Nat) (ad : Nat → Nat) (th : Int32) (td nt np nc : Nat) (M : Nat → Nat → Int32) (t fy vo : Nat) (ht : t < nt) (hnt : nt ≤ 20) (hfy : M 0 t = nI fy) (hvo : M 1 t = nI vo) (hf5 : fy ≤ 55) (hv1 : 1 ≤ vo) (hv4 : vo ≤ 4) (v : Nat) (h1 : 1 ≤ v) (h2 : v ≤ (56 - fy) * vo) (sz : Nat) : Met l yX5_yearOf wsX5_yearOf ({ frames := 9, cells := 0, slots := 0, locals := 360 }) (va_Pc [.ref hm, .int (nI t), .int (nI v)] (zMp D (mW hm ad ca th td nt np nc M) ca sa sz)) (va_Qi (fun (r : Int32) (_ : Unit) => r = nI (fy + (v - 1) / vo)) (fun _ t9 => va_P D vwCl (mW hm ad ca (nI 0) td nt np nc M) t9.heap) (va_A (mW hm ad ca th td nt np nc M) sz)) 0 0 (va_A (mW hm ad ca th td nt np nc M) sz) := by
  refine Met.ofW (cc := cX5_yearOf) (maxL := 4) (ret := (some .int)) (by decide) rfl ?_
  intro p e s m args below meth c s₁ B hml hv
  obtain ⟨rfl, hsz, hP, hD0, hE⟩ := hv
  have hx := B.exec
  have hb := B.bytes
  have hr := B.returns
  have hts := atoms_spec (ws := wsX5_yearOf) B.pre
  have hown : s.vm.findClass RX5 = some m.cls := findClass_of_methodNamed B.named
  have hlocks := B.notSynchronized
  have hl := lv_entry ([.ref hm, .int (nI t), .int (nI v)]) (n := 4) (Nat.le_of_ble_eq_true rfl)
  rw [lg_entry_eq]
  generalize (lg_sl ([.ref hm, .int (nI t), .int (nI v)]) ++ List.replicate (4 - (lg_sl ([.ref hm, .int (nI t), .int (nI v)])).length) Slot.unset).toArray = ls at hl ⊢
  have hl : lv_has ls 4 [(0, .ref hm), (1, .int (nI t)), (2, .int (nI v))] := hl
  subst hsz
  have hD := hD0.self (sz := s.heap.size)
  generalize hAe : va_A (mW hm ad ca th td nt np nc M) s.heap.size = A at hD ⊢
  have hA : ∀ q : Nat, s.heap.size ≤ q → A q := fun q h => by rw [← hAe]; exact Or.inr h
  have hS : va_S A s.heap s.heap [] := va_S.rf
  have hb9 := zvb fy vo hv4
  have hd9 := zvd h1 hf5 h2
  have hml9 : fy + (v - 1) / vo ≤ 55 := by omega
  refine lv_aload_n hx hb dX5_yearOf_0 rfl (lv_at hl 0 rfl) ?_
  refine lv_iload_n hx hb dX5_yearOf_1 rfl (lv_at hl 1 rfl) ?_
  refine zci (va_runV (As := [.int (nI t)]) (rest := []) ⟨hx, hb, hml, hown, hts⟩ (m_isT l D ca sa hm ad th td nt np nc M ((nI t))) (cwV 1 hts gX5_yearOf_X5_isTitle rfl rfl rfl (by decide +kernel) ⟨Nat.le_of_ble_eq_true rfl, Nat.le_of_ble_eq_true rfl⟩) (zpV hP hE (ci := 5) rfl (q0 := 0) rfl) rfl rfl hl.1 rfl (lv_room (Nat.le_of_ble_eq_true rfl)) dX5_yearOf_2 ⟨Nat.le_of_ble_eq_true rfl, Nat.le_of_ble_eq_true rfl⟩) ?_
  refine zasi (show (bI (iT nt ((nI t)))) = nI 1 from by rw [iT_t ht (by omega)]; rfl) ?_
  refine lv_istore_n (lv' := [(3, .int (nI 1)), (0, .ref hm), (1, .int (nI t)), (2, .int (nI v))]) hx hb dX5_yearOf_5 rfl hl (by decide) rfl (fun ls hl => ?_)
  refine lv_aload_n hx hb dX5_yearOf_6 rfl (lv_at hl 1 rfl) ?_
  refine lv_iload_n hx hb dX5_yearOf_7 rfl (lv_at hl 0 rfl) ?_
  refine lv_if_ne (tgt := 15) hx hb dX5_yearOf_8 (by decide) (fun c_8 => ?_) (fun c_8 => ?_)
  · refine lv_iload_n hx hb dX5_yearOf_15 rfl (lv_at hl 3 rfl) ?_
    refine lv_iconst (v := nI 1) hx hb dX5_yearOf_16 (by decide) ?_
    refine lv_icmp_lt (tgt := 42) hx hb dX5_yearOf_17 (by decide) (fun c_17 => ?_) (fun c_17 => ?_)
    · exact absurd ((nI_ltI (by omega) (by omega)).mp c_17) (by omega)
    · refine lv_iload_n hx hb dX5_yearOf_20 rfl (lv_at hl 3 rfl) ?_
      refine lv_iconst (v := nI 1) hx hb dX5_yearOf_21 (by decide) ?_
      refine lv_isub hx hb dX5_yearOf_22 ?_
      refine zasi (show ((nI v) - (nI 1)) = nI (v - 1) from pk_sub (by omega)) ?_
      refine lv_aload_n hx hb dX5_yearOf_23 rfl (lv_at hl 1 rfl) ?_
      refine zmget (own := RX5) (ci := 5) (C := RX5) (T := TX5) (N := 18) hx hb hts (by decide +kernel) hown hE hP 0 rfl rfl 5 (by decide) (hts (.fieldLink RX5 13 "LinkResolverModel" "volumes" "[I") (by decide +kernel)) rfl dX5_yearOf_24 ?_
      refine lv_iload_n hx hb dX5_yearOf_27 rfl (lv_at hl 2 rfl) ?_
      refine zmi hx hb hE hP 2 rfl (i := t) (show _ < _ from by omega) (by decide) dX5_yearOf_28 ?_
      refine zasi (show (M 1 t) = nI vo from hvo) ?_
      refine lv_idiv hx hb dX5_yearOf_29 (zne1 hv1 hv4) ?_
      refine zasi (show ((nI (v - 1)) / (nI vo)) = nI ((v - 1) / vo) from zdv (by omega) hv1 hv4) ?_
      refine lv_bipush (v := nI 55) hx hb dX5_yearOf_30 (by decide) ?_
      refine lv_aload_n hx hb dX5_yearOf_32 rfl (lv_at hl 1 rfl) ?_
      refine zmget (own := RX5) (ci := 5) (C := RX5) (T := TX5) (N := 18) hx hb hts (by decide +kernel) hown hE hP 0 rfl rfl 4 (by decide) (hts (.fieldLink RX5 7 "LinkResolverModel" "firstYears" "[I") (by decide +kernel)) rfl dX5_yearOf_33 ?_
      refine lv_iload_n hx hb dX5_yearOf_36 rfl (lv_at hl 2 rfl) ?_
      refine zmi hx hb hE hP 1 rfl (i := t) (show _ < _ from by omega) (by decide) dX5_yearOf_37 ?_
      refine zasi (show (M 0 t) = nI fy from hfy) ?_
      refine lv_isub hx hb dX5_yearOf_38 ?_
      refine zasi (show ((nI 55) - (nI fy)) = nI (55 - fy) from pk_sub hf5) ?_
      refine lv_icmp_le (tgt := 46) hx hb dX5_yearOf_39 (by decide) (fun c_39 => ?_) (fun c_39 => ?_)
      · refine lv_iconst (v := nI 0) hx hb dX5_yearOf_46 (by decide) ?_
        refine zmci (va_runV (As := [.int (nI 0)]) (rest := []) ⟨hx, hb, hml, hown, hts⟩ (m_holds l D ca sa hm ad th td nt np nc M 0 (by decide) _) (cwV 1 hts gX5_yearOf_X5_holds rfl rfl rfl (by decide +kernel) ⟨Nat.le_of_ble_eq_true rfl, Nat.le_of_ble_eq_true rfl⟩) (zmV hP hD hE (ci := 5) rfl (q0 := 0) rfl) rfl rfl hl.1 rfl (lv_room (Nat.le_of_ble_eq_true rfl)) dX5_yearOf_47 ⟨Nat.le_of_ble_eq_true rfl, Nat.le_of_ble_eq_true rfl⟩) hD rfl hS hA (fun r9 H locs er hP hD hS => ?_)
        subst er
        refine zasi (show bI (decide (0 = 0)) = nI 1 from rfl) ?_
        refine lv_if_ne (tgt := 55) hx hb dX5_yearOf_50 (by decide) (fun c_50 => ?_) (fun c_50 => ?_)
        · refine lv_aload_n hx hb dX5_yearOf_55 rfl (lv_at hl 1 rfl) ?_
          refine zmget (own := RX5) (ci := 5) (C := RX5) (T := TX5) (N := 18) hx hb hts (by decide +kernel) hown hE hP 0 rfl rfl 4 (by decide) (hts (.fieldLink RX5 7 "LinkResolverModel" "firstYears" "[I") (by decide +kernel)) rfl dX5_yearOf_56 ?_
          refine lv_iload_n hx hb dX5_yearOf_59 rfl (lv_at hl 2 rfl) ?_
          refine zmi hx hb hE hP 1 rfl (i := t) (show _ < _ from by omega) (by decide) dX5_yearOf_60 ?_
          refine zasi (show (M 0 t) = nI fy from hfy) ?_
          refine lv_iload_n hx hb dX5_yearOf_61 rfl (lv_at hl 3 rfl) ?_
          refine lv_iconst (v := nI 1) hx hb dX5_yearOf_62 (by decide) ?_
          refine lv_isub hx hb dX5_yearOf_63 ?_
          refine zasi (show ((nI v) - (nI 1)) = nI (v - 1) from pk_sub (by omega)) ?_
          refine lv_aload_n hx hb dX5_yearOf_64 rfl (lv_at hl 1 rfl) ?_
          refine zmget (own := RX5) (ci := 5) (C := RX5) (T := TX5) (N := 18) hx hb hts (by decide +kernel) hown hE hP 0 rfl rfl 5 (by decide) (hts (.fieldLink RX5 13 "LinkResolverModel" "volumes" "[I") (by decide +kernel)) rfl dX5_yearOf_65 ?_
          refine lv_iload_n hx hb dX5_yearOf_68 rfl (lv_at hl 2 rfl) ?_
          refine zmi hx hb hE hP 2 rfl (i := t) (show _ < _ from by omega) (by decide) dX5_yearOf_69 ?_
          refine zasi (show (M 1 t) = nI vo from hvo) ?_
          refine lv_idiv hx hb dX5_yearOf_70 (zne1 hv1 hv4) ?_
          refine zasi (show ((nI (v - 1)) / (nI vo)) = nI ((v - 1) / vo) from zdv (by omega) hv1 hv4) ?_
          refine lv_iadd hx hb dX5_yearOf_71 ?_
          refine zasi (show ((nI fy) + (nI ((v - 1) / vo))) = nI (fy + (v - 1) / vo) from nI_add _ _) ?_
          exact zmri hx hb hr hlocks dX5_yearOf_72 hP hS (rfl)
        · exact absurd c_50 (by decide)
      · exact absurd ((nI_leI (Nat.lt_of_le_of_lt hd9 (by omega)) (by omega)).mpr hd9) c_39
  · exact absurd c_8 (by decide)

set_option maxHeartbeats 4000000 in
set_option maxRecDepth 100000 in
theorem m_yearOf_1 (l : Launch) (D : va_G) (ca : Nat → ClassId) (sa : Nat → Nat) (hm : Nat) (ad : Nat → Nat) (th : Int32) (td nt np nc : Nat) (M : Nat → Nat → Int32) (t v : Int32) (hbad : iT nt t = false) (sz : Nat) : Met l yX5_yearOf wsX5_yearOf ({ frames := 9, cells := 0, slots := 0, locals := 360 }) (va_Pc [.ref hm, .int t, .int v] (zMp D (mW hm ad ca th td nt np nc M) ca sa sz)) (va_Qi (fun (r : Int32) (_ : Unit) => True) (fun _ t9 => va_P D vwCl (mW hm ad ca (nI 1) td nt np nc M) t9.heap) (va_A (mW hm ad ca th td nt np nc M) sz)) 0 0 (va_A (mW hm ad ca th td nt np nc M) sz) := by
  refine Met.ofW (cc := cX5_yearOf) (maxL := 4) (ret := (some .int)) (by decide) rfl ?_
  intro p e s m args below meth c s₁ B hml hv
  obtain ⟨rfl, hsz, hP, hD0, hE⟩ := hv
  have hx := B.exec
  have hb := B.bytes
  have hr := B.returns
  have hts := atoms_spec (ws := wsX5_yearOf) B.pre
  have hown : s.vm.findClass RX5 = some m.cls := findClass_of_methodNamed B.named
  have hlocks := B.notSynchronized
  have hl := lv_entry ([.ref hm, .int t, .int v]) (n := 4) (Nat.le_of_ble_eq_true rfl)
  rw [lg_entry_eq]
  generalize (lg_sl ([.ref hm, .int t, .int v]) ++ List.replicate (4 - (lg_sl ([.ref hm, .int t, .int v])).length) Slot.unset).toArray = ls at hl ⊢
  have hl : lv_has ls 4 [(0, .ref hm), (1, .int t), (2, .int v)] := hl
  subst hsz
  have hD := hD0.self (sz := s.heap.size)
  generalize hAe : va_A (mW hm ad ca th td nt np nc M) s.heap.size = A at hD ⊢
  have hA : ∀ q : Nat, s.heap.size ≤ q → A q := fun q h => by rw [← hAe]; exact Or.inr h
  have hS : va_S A s.heap s.heap [] := va_S.rf
  refine lv_aload_n hx hb dX5_yearOf_0 rfl (lv_at hl 0 rfl) ?_
  refine lv_iload_n hx hb dX5_yearOf_1 rfl (lv_at hl 1 rfl) ?_
  refine zci (va_runV (As := [.int t]) (rest := []) ⟨hx, hb, hml, hown, hts⟩ (m_isT l D ca sa hm ad th td nt np nc M (t)) (cwV 1 hts gX5_yearOf_X5_isTitle rfl rfl rfl (by decide +kernel) ⟨Nat.le_of_ble_eq_true rfl, Nat.le_of_ble_eq_true rfl⟩) (zpV hP hE (ci := 5) rfl (q0 := 0) rfl) rfl rfl hl.1 rfl (lv_room (Nat.le_of_ble_eq_true rfl)) dX5_yearOf_2 ⟨Nat.le_of_ble_eq_true rfl, Nat.le_of_ble_eq_true rfl⟩) ?_
  refine zasi (show (bI (iT nt (t))) = nI 0 from by rw [hbad]; rfl) ?_
  refine lv_istore_n (lv' := [(3, .int (nI 0)), (0, .ref hm), (1, .int t), (2, .int v)]) hx hb dX5_yearOf_5 rfl hl (by decide) rfl (fun ls hl => ?_)
  refine lv_aload_n hx hb dX5_yearOf_6 rfl (lv_at hl 1 rfl) ?_
  refine lv_iload_n hx hb dX5_yearOf_7 rfl (lv_at hl 0 rfl) ?_
  refine lv_if_ne (tgt := 15) hx hb dX5_yearOf_8 (by decide) (fun c_8 => ?_) (fun c_8 => ?_)
  · exact absurd c_8 (by decide)
  · refine lv_iconst (v := nI 1) hx hb dX5_yearOf_11 (by decide) ?_
    refine lv_goto (tgt := 47) hx hb dX5_yearOf_12 (by decide) ?_
    refine zmci (va_runV (As := [.int (nI 1)]) (rest := []) ⟨hx, hb, hml, hown, hts⟩ (m_holds l D ca sa hm ad th td nt np nc M 1 (by decide) _) (cwV 1 hts gX5_yearOf_X5_holds rfl rfl rfl (by decide +kernel) ⟨Nat.le_of_ble_eq_true rfl, Nat.le_of_ble_eq_true rfl⟩) (zmV hP hD hE (ci := 5) rfl (q0 := 0) rfl) rfl rfl hl.1 rfl (lv_room (Nat.le_of_ble_eq_true rfl)) dX5_yearOf_47 ⟨Nat.le_of_ble_eq_true rfl, Nat.le_of_ble_eq_true rfl⟩) hD rfl hS hA (fun r9 H locs er hP hD hS => ?_)
    subst er
    refine zasi (show bI (decide (1 = 0)) = nI 0 from rfl) ?_
    refine lv_if_ne (tgt := 55) hx hb dX5_yearOf_50 (by decide) (fun c_50 => ?_) (fun c_50 => ?_)
    · exact absurd c_50 (by decide)
    · refine lv_iconst (v := nI 0) hx hb dX5_yearOf_53 (by decide) ?_
      exact zmri hx hb hr hlocks dX5_yearOf_54 hP hS (trivial)

set_option maxHeartbeats 4000000 in
set_option maxRecDepth 100000 in
theorem m_yearOf_2 (l : Launch) (D : va_G) (ca : Nat → ClassId) (sa : Nat → Nat) (hm : Nat) (ad : Nat → Nat) (th : Int32) (td nt np nc : Nat) (M : Nat → Nat → Int32) (t fy vo : Nat) (ht : t < nt) (hnt : nt ≤ 20) (hfy : M 0 t = nI fy) (hvo : M 1 t = nI vo) (hf5 : fy ≤ 55) (hv1 : 1 ≤ vo) (hv4 : vo ≤ 4) (w : Int32) (hbad : iB w (nI 1) (nI ((56 - fy) * vo)) = false) (sz : Nat) : Met l yX5_yearOf wsX5_yearOf ({ frames := 9, cells := 0, slots := 0, locals := 360 }) (va_Pc [.ref hm, .int (nI t), .int w] (zMp D (mW hm ad ca th td nt np nc M) ca sa sz)) (va_Qi (fun (r : Int32) (_ : Unit) => True) (fun _ t9 => va_P D vwCl (mW hm ad ca (nI 2) td nt np nc M) t9.heap) (va_A (mW hm ad ca th td nt np nc M) sz)) 0 0 (va_A (mW hm ad ca th td nt np nc M) sz) := by
  refine Met.ofW (cc := cX5_yearOf) (maxL := 4) (ret := (some .int)) (by decide) rfl ?_
  intro p e s m args below meth c s₁ B hml hv
  obtain ⟨rfl, hsz, hP, hD0, hE⟩ := hv
  have hx := B.exec
  have hb := B.bytes
  have hr := B.returns
  have hts := atoms_spec (ws := wsX5_yearOf) B.pre
  have hown : s.vm.findClass RX5 = some m.cls := findClass_of_methodNamed B.named
  have hlocks := B.notSynchronized
  have hl := lv_entry ([.ref hm, .int (nI t), .int w]) (n := 4) (Nat.le_of_ble_eq_true rfl)
  rw [lg_entry_eq]
  generalize (lg_sl ([.ref hm, .int (nI t), .int w]) ++ List.replicate (4 - (lg_sl ([.ref hm, .int (nI t), .int w])).length) Slot.unset).toArray = ls at hl ⊢
  have hl : lv_has ls 4 [(0, .ref hm), (1, .int (nI t)), (2, .int w)] := hl
  subst hsz
  have hD := hD0.self (sz := s.heap.size)
  generalize hAe : va_A (mW hm ad ca th td nt np nc M) s.heap.size = A at hD ⊢
  have hA : ∀ q : Nat, s.heap.size ≤ q → A q := fun q h => by rw [← hAe]; exact Or.inr h
  have hS : va_S A s.heap s.heap [] := va_S.rf
  have hb9 := zvb fy vo hv4
  refine lv_aload_n hx hb dX5_yearOf_0 rfl (lv_at hl 0 rfl) ?_
  refine lv_iload_n hx hb dX5_yearOf_1 rfl (lv_at hl 1 rfl) ?_
  refine zci (va_runV (As := [.int (nI t)]) (rest := []) ⟨hx, hb, hml, hown, hts⟩ (m_isT l D ca sa hm ad th td nt np nc M ((nI t))) (cwV 1 hts gX5_yearOf_X5_isTitle rfl rfl rfl (by decide +kernel) ⟨Nat.le_of_ble_eq_true rfl, Nat.le_of_ble_eq_true rfl⟩) (zpV hP hE (ci := 5) rfl (q0 := 0) rfl) rfl rfl hl.1 rfl (lv_room (Nat.le_of_ble_eq_true rfl)) dX5_yearOf_2 ⟨Nat.le_of_ble_eq_true rfl, Nat.le_of_ble_eq_true rfl⟩) ?_
  refine zasi (show (bI (iT nt ((nI t)))) = nI 1 from by rw [iT_t ht (by omega)]; rfl) ?_
  refine lv_istore_n (lv' := [(3, .int (nI 1)), (0, .ref hm), (1, .int (nI t)), (2, .int w)]) hx hb dX5_yearOf_5 rfl hl (by decide) rfl (fun ls hl => ?_)
  refine lv_aload_n hx hb dX5_yearOf_6 rfl (lv_at hl 1 rfl) ?_
  refine lv_iload_n hx hb dX5_yearOf_7 rfl (lv_at hl 0 rfl) ?_
  refine lv_if_ne (tgt := 15) hx hb dX5_yearOf_8 (by decide) (fun c_8 => ?_) (fun c_8 => ?_)
  · refine lv_iload_n hx hb dX5_yearOf_15 rfl (lv_at hl 3 rfl) ?_
    refine lv_iconst (v := nI 1) hx hb dX5_yearOf_16 (by decide) ?_
    refine lv_icmp_lt (tgt := 42) hx hb dX5_yearOf_17 (by decide) (fun c_17 => ?_) (fun c_17 => ?_)
    · refine lv_iconst (v := nI 2) hx hb dX5_yearOf_42 (by decide) ?_
      refine lv_goto (tgt := 47) hx hb dX5_yearOf_43 (by decide) ?_
      refine zmci (va_runV (As := [.int (nI 2)]) (rest := []) ⟨hx, hb, hml, hown, hts⟩ (m_holds l D ca sa hm ad th td nt np nc M 2 (by decide) _) (cwV 1 hts gX5_yearOf_X5_holds rfl rfl rfl (by decide +kernel) ⟨Nat.le_of_ble_eq_true rfl, Nat.le_of_ble_eq_true rfl⟩) (zmV hP hD hE (ci := 5) rfl (q0 := 0) rfl) rfl rfl hl.1 rfl (lv_room (Nat.le_of_ble_eq_true rfl)) dX5_yearOf_47 ⟨Nat.le_of_ble_eq_true rfl, Nat.le_of_ble_eq_true rfl⟩) hD rfl hS hA (fun r9 H locs er hP hD hS => ?_)
      subst er
      refine zasi (show bI (decide (2 = 0)) = nI 0 from rfl) ?_
      refine lv_if_ne (tgt := 55) hx hb dX5_yearOf_50 (by decide) (fun c_50 => ?_) (fun c_50 => ?_)
      · exact absurd c_50 (by decide)
      · refine lv_iconst (v := nI 0) hx hb dX5_yearOf_53 (by decide) ?_
        exact zmri hx hb hr hlocks dX5_yearOf_54 hP hS (trivial)
    · have h0 : ¬ w < 0 := fun q => c_17 (Int32.lt_of_lt_of_le q (by decide))
      obtain ⟨v, hv9, rfl⟩ := nI_of h0
      have h1 : 1 ≤ v := Nat.le_of_not_lt (fun q => c_17 ((nI_ltI (by omega) (by omega)).mpr q))
      have hd9 : (v - 1) / vo < 2147483648 := Nat.lt_of_le_of_lt (Nat.div_le_self _ _) (by omega)
      refine lv_iload_n hx hb dX5_yearOf_20 rfl (lv_at hl 3 rfl) ?_
      refine lv_iconst (v := nI 1) hx hb dX5_yearOf_21 (by decide) ?_
      refine lv_isub hx hb dX5_yearOf_22 ?_
      refine zasi (show ((nI v) - (nI 1)) = nI (v - 1) from pk_sub (by omega)) ?_
      refine lv_aload_n hx hb dX5_yearOf_23 rfl (lv_at hl 1 rfl) ?_
      refine zmget (own := RX5) (ci := 5) (C := RX5) (T := TX5) (N := 18) hx hb hts (by decide +kernel) hown hE hP 0 rfl rfl 5 (by decide) (hts (.fieldLink RX5 13 "LinkResolverModel" "volumes" "[I") (by decide +kernel)) rfl dX5_yearOf_24 ?_
      refine lv_iload_n hx hb dX5_yearOf_27 rfl (lv_at hl 2 rfl) ?_
      refine zmi hx hb hE hP 2 rfl (i := t) (show _ < _ from by omega) (by decide) dX5_yearOf_28 ?_
      refine zasi (show (M 1 t) = nI vo from hvo) ?_
      refine lv_idiv hx hb dX5_yearOf_29 (zne1 hv1 hv4) ?_
      refine zasi (show ((nI (v - 1)) / (nI vo)) = nI ((v - 1) / vo) from zdv (by omega) hv1 hv4) ?_
      refine lv_bipush (v := nI 55) hx hb dX5_yearOf_30 (by decide) ?_
      refine lv_aload_n hx hb dX5_yearOf_32 rfl (lv_at hl 1 rfl) ?_
      refine zmget (own := RX5) (ci := 5) (C := RX5) (T := TX5) (N := 18) hx hb hts (by decide +kernel) hown hE hP 0 rfl rfl 4 (by decide) (hts (.fieldLink RX5 7 "LinkResolverModel" "firstYears" "[I") (by decide +kernel)) rfl dX5_yearOf_33 ?_
      refine lv_iload_n hx hb dX5_yearOf_36 rfl (lv_at hl 2 rfl) ?_
      refine zmi hx hb hE hP 1 rfl (i := t) (show _ < _ from by omega) (by decide) dX5_yearOf_37 ?_
      refine zasi (show (M 0 t) = nI fy from hfy) ?_
      refine lv_isub hx hb dX5_yearOf_38 ?_
      refine zasi (show ((nI 55) - (nI fy)) = nI (55 - fy) from pk_sub hf5) ?_
      refine lv_icmp_le (tgt := 46) hx hb dX5_yearOf_39 (by decide) (fun c_39 => ?_) (fun c_39 => ?_)
      · exact absurd hbad (by rw [iB_t h1 (zvu h1 hf5 hv1 ((nI_leI hd9 (by omega)).mp c_39)) (by omega)]; decide)
      · refine lv_iconst (v := nI 2) hx hb dX5_yearOf_42 (by decide) ?_
        refine lv_goto (tgt := 47) hx hb dX5_yearOf_43 (by decide) ?_
        refine zmci (va_runV (As := [.int (nI 2)]) (rest := []) ⟨hx, hb, hml, hown, hts⟩ (m_holds l D ca sa hm ad th td nt np nc M 2 (by decide) _) (cwV 1 hts gX5_yearOf_X5_holds rfl rfl rfl (by decide +kernel) ⟨Nat.le_of_ble_eq_true rfl, Nat.le_of_ble_eq_true rfl⟩) (zmV hP hD hE (ci := 5) rfl (q0 := 0) rfl) rfl rfl hl.1 rfl (lv_room (Nat.le_of_ble_eq_true rfl)) dX5_yearOf_47 ⟨Nat.le_of_ble_eq_true rfl, Nat.le_of_ble_eq_true rfl⟩) hD rfl hS hA (fun r9 H locs er hP hD hS => ?_)
        subst er
        refine zasi (show bI (decide (2 = 0)) = nI 0 from rfl) ?_
        refine lv_if_ne (tgt := 55) hx hb dX5_yearOf_50 (by decide) (fun c_50 => ?_) (fun c_50 => ?_)
        · exact absurd c_50 (by decide)
        · refine lv_iconst (v := nI 0) hx hb dX5_yearOf_53 (by decide) ?_
          exact zmri hx hb hr hlocks dX5_yearOf_54 hP hS (trivial)
  · exact absurd c_8 (by decide)

set_option maxHeartbeats 4000000 in
set_option maxRecDepth 100000 in
theorem m_volumeOf (l : Launch) (D : va_G) (ca : Nat → ClassId) (sa : Nat → Nat) (hm : Nat) (ad : Nat → Nat) (th : Int32) (td nt np nc : Nat) (M : Nat → Nat → Int32) (t fy vo : Nat) (ht : t < nt) (hnt : nt ≤ 20) (hfy : M 0 t = nI fy) (hvo : M 1 t = nI vo) (hf5 : fy ≤ 55) (hv1 : 1 ≤ vo) (hv4 : vo ≤ 4) (y : Nat) (h1 : fy ≤ y) (h2 : y ≤ 55) (sz : Nat) : Met l yX5_volumeOf wsX5_volumeOf ({ frames := 9, cells := 0, slots := 0, locals := 360 }) (va_Pc [.ref hm, .int (nI t), .int (nI y)] (zMp D (mW hm ad ca th td nt np nc M) ca sa sz)) (va_Qi (fun (r : Int32) (_ : Unit) => r = nI ((y - fy) * vo + 1)) (fun _ t9 => va_P D vwCl (mW hm ad ca (nI 0) td nt np nc M) t9.heap) (va_A (mW hm ad ca th td nt np nc M) sz)) 0 0 (va_A (mW hm ad ca th td nt np nc M) sz) := by
  refine Met.ofW (cc := cX5_volumeOf) (maxL := 4) (ret := (some .int)) (by decide) rfl ?_
  intro p e s m args below meth c s₁ B hml hv
  obtain ⟨rfl, hsz, hP, hD0, hE⟩ := hv
  have hx := B.exec
  have hb := B.bytes
  have hr := B.returns
  have hts := atoms_spec (ws := wsX5_volumeOf) B.pre
  have hown : s.vm.findClass RX5 = some m.cls := findClass_of_methodNamed B.named
  have hlocks := B.notSynchronized
  have hl := lv_entry ([.ref hm, .int (nI t), .int (nI y)]) (n := 4) (Nat.le_of_ble_eq_true rfl)
  rw [lg_entry_eq]
  generalize (lg_sl ([.ref hm, .int (nI t), .int (nI y)]) ++ List.replicate (4 - (lg_sl ([.ref hm, .int (nI t), .int (nI y)])).length) Slot.unset).toArray = ls at hl ⊢
  have hl : lv_has ls 4 [(0, .ref hm), (1, .int (nI t)), (2, .int (nI y))] := hl
  subst hsz
  have hD := hD0.self (sz := s.heap.size)
  generalize hAe : va_A (mW hm ad ca th td nt np nc M) s.heap.size = A at hD ⊢
  have hA : ∀ q : Nat, s.heap.size ≤ q → A q := fun q h => by rw [← hAe]; exact Or.inr h
  have hS : va_S A s.heap s.heap [] := va_S.rf
  refine lv_aload_n hx hb dX5_volumeOf_0 rfl (lv_at hl 0 rfl) ?_
  refine lv_iload_n hx hb dX5_volumeOf_1 rfl (lv_at hl 1 rfl) ?_
  refine zci (va_runV (As := [.int (nI t)]) (rest := []) ⟨hx, hb, hml, hown, hts⟩ (m_isT l D ca sa hm ad th td nt np nc M ((nI t))) (cwV 1 hts gX5_volumeOf_X5_isTitle rfl rfl rfl (by decide +kernel) ⟨Nat.le_of_ble_eq_true rfl, Nat.le_of_ble_eq_true rfl⟩) (zpV hP hE (ci := 5) rfl (q0 := 0) rfl) rfl rfl hl.1 rfl (lv_room (Nat.le_of_ble_eq_true rfl)) dX5_volumeOf_2 ⟨Nat.le_of_ble_eq_true rfl, Nat.le_of_ble_eq_true rfl⟩) ?_
  refine zasi (show (bI (iT nt ((nI t)))) = nI 1 from by rw [iT_t ht (by omega)]; rfl) ?_
  refine lv_istore_n (lv' := [(3, .int (nI 1)), (0, .ref hm), (1, .int (nI t)), (2, .int (nI y))]) hx hb dX5_volumeOf_5 rfl hl (by decide) rfl (fun ls hl => ?_)
  refine lv_aload_n hx hb dX5_volumeOf_6 rfl (lv_at hl 1 rfl) ?_
  refine lv_iload_n hx hb dX5_volumeOf_7 rfl (lv_at hl 0 rfl) ?_
  refine lv_if_ne (tgt := 15) hx hb dX5_volumeOf_8 (by decide) (fun c_8 => ?_) (fun c_8 => ?_)
  · refine lv_iload_n hx hb dX5_volumeOf_15 rfl (lv_at hl 3 rfl) ?_
    refine lv_aload_n hx hb dX5_volumeOf_16 rfl (lv_at hl 1 rfl) ?_
    refine zmget (own := RX5) (ci := 5) (C := RX5) (T := TX5) (N := 18) hx hb hts (by decide +kernel) hown hE hP 0 rfl rfl 4 (by decide) (hts (.fieldLink RX5 7 "LinkResolverModel" "firstYears" "[I") (by decide +kernel)) rfl dX5_volumeOf_17 ?_
    refine lv_iload_n hx hb dX5_volumeOf_20 rfl (lv_at hl 2 rfl) ?_
    refine zmi hx hb hE hP 1 rfl (i := t) (show _ < _ from by omega) (by decide) dX5_volumeOf_21 ?_
    refine zasi (show (M 0 t) = nI fy from hfy) ?_
    refine lv_bipush (v := nI 55) hx hb dX5_volumeOf_22 (by decide) ?_
    refine zci (va_runS (As := [.int (nI y), .int (nI fy), .int (nI 55)]) (rest := [.ref hm]) ⟨hx, hb, hml, hown, hts⟩ (m_isB l D ca sa _ _ _ _) (va_cwS 3 hts gX5_volumeOf_X5_isBetween rfl rfl rfl (by decide +kernel) ⟨Nat.le_of_ble_eq_true rfl, Nat.le_of_ble_eq_true rfl⟩) (zpS hP hE) rfl rfl hl.1 rfl (lv_room (Nat.le_of_ble_eq_true rfl)) dX5_volumeOf_24 ⟨Nat.le_of_ble_eq_true rfl, Nat.le_of_ble_eq_true rfl⟩) ?_
    refine zasi (show (bI (iB ((nI y)) ((nI fy)) ((nI 55)))) = nI 1 from by rw [iB_t h1 h2 (by decide)]; rfl) ?_
    refine lv_if_eq (tgt := 34) hx hb dX5_volumeOf_27 (by decide) (fun c_27 => ?_) (fun c_27 => ?_)
    · exact absurd c_27 (by decide)
    · refine lv_iconst (v := nI 0) hx hb dX5_volumeOf_30 (by decide) ?_
      refine lv_goto (tgt := 35) hx hb dX5_volumeOf_31 (by decide) ?_
      refine zmci (va_runV (As := [.int (nI 0)]) (rest := []) ⟨hx, hb, hml, hown, hts⟩ (m_holds l D ca sa hm ad th td nt np nc M 0 (by decide) _) (cwV 1 hts gX5_volumeOf_X5_holds rfl rfl rfl (by decide +kernel) ⟨Nat.le_of_ble_eq_true rfl, Nat.le_of_ble_eq_true rfl⟩) (zmV hP hD hE (ci := 5) rfl (q0 := 0) rfl) rfl rfl hl.1 rfl (lv_room (Nat.le_of_ble_eq_true rfl)) dX5_volumeOf_35 ⟨Nat.le_of_ble_eq_true rfl, Nat.le_of_ble_eq_true rfl⟩) hD rfl hS hA (fun r9 H locs er hP hD hS => ?_)
      subst er
      refine zasi (show bI (decide (0 = 0)) = nI 1 from rfl) ?_
      refine lv_if_ne (tgt := 43) hx hb dX5_volumeOf_38 (by decide) (fun c_38 => ?_) (fun c_38 => ?_)
      · refine lv_iload_n hx hb dX5_volumeOf_43 rfl (lv_at hl 3 rfl) ?_
        refine lv_aload_n hx hb dX5_volumeOf_44 rfl (lv_at hl 1 rfl) ?_
        refine zmget (own := RX5) (ci := 5) (C := RX5) (T := TX5) (N := 18) hx hb hts (by decide +kernel) hown hE hP 0 rfl rfl 4 (by decide) (hts (.fieldLink RX5 7 "LinkResolverModel" "firstYears" "[I") (by decide +kernel)) rfl dX5_volumeOf_45 ?_
        refine lv_iload_n hx hb dX5_volumeOf_48 rfl (lv_at hl 2 rfl) ?_
        refine zmi hx hb hE hP 1 rfl (i := t) (show _ < _ from by omega) (by decide) dX5_volumeOf_49 ?_
        refine zasi (show (M 0 t) = nI fy from hfy) ?_
        refine lv_isub hx hb dX5_volumeOf_50 ?_
        refine zasi (show ((nI y) - (nI fy)) = nI (y - fy) from pk_sub h1) ?_
        refine lv_aload_n hx hb dX5_volumeOf_51 rfl (lv_at hl 1 rfl) ?_
        refine zmget (own := RX5) (ci := 5) (C := RX5) (T := TX5) (N := 18) hx hb hts (by decide +kernel) hown hE hP 0 rfl rfl 5 (by decide) (hts (.fieldLink RX5 13 "LinkResolverModel" "volumes" "[I") (by decide +kernel)) rfl dX5_volumeOf_52 ?_
        refine lv_iload_n hx hb dX5_volumeOf_55 rfl (lv_at hl 2 rfl) ?_
        refine zmi hx hb hE hP 2 rfl (i := t) (show _ < _ from by omega) (by decide) dX5_volumeOf_56 ?_
        refine zasi (show (M 1 t) = nI vo from hvo) ?_
        refine lv_imul hx hb dX5_volumeOf_57 ?_
        refine zasi (show ((nI (y - fy)) * (nI vo)) = nI ((y - fy) * vo) from pk_mul _ _) ?_
        refine lv_iconst (v := nI 1) hx hb dX5_volumeOf_58 (by decide) ?_
        refine lv_iadd hx hb dX5_volumeOf_59 ?_
        refine zasi (show ((nI ((y - fy) * vo)) + (nI 1)) = nI ((y - fy) * vo + 1) from nI_1 _) ?_
        exact zmri hx hb hr hlocks dX5_volumeOf_60 hP hS (rfl)
      · exact absurd c_38 (by decide)
  · exact absurd c_8 (by decide)

set_option maxHeartbeats 4000000 in
set_option maxRecDepth 100000 in
theorem m_volumeOf_1 (l : Launch) (D : va_G) (ca : Nat → ClassId) (sa : Nat → Nat) (hm : Nat) (ad : Nat → Nat) (th : Int32) (td nt np nc : Nat) (M : Nat → Nat → Int32) (t v : Int32) (hbad : iT nt t = false) (sz : Nat) : Met l yX5_volumeOf wsX5_volumeOf ({ frames := 9, cells := 0, slots := 0, locals := 360 }) (va_Pc [.ref hm, .int t, .int v] (zMp D (mW hm ad ca th td nt np nc M) ca sa sz)) (va_Qi (fun (r : Int32) (_ : Unit) => True) (fun _ t9 => va_P D vwCl (mW hm ad ca (nI 1) td nt np nc M) t9.heap) (va_A (mW hm ad ca th td nt np nc M) sz)) 0 0 (va_A (mW hm ad ca th td nt np nc M) sz) := by
  refine Met.ofW (cc := cX5_volumeOf) (maxL := 4) (ret := (some .int)) (by decide) rfl ?_
  intro p e s m args below meth c s₁ B hml hv
  obtain ⟨rfl, hsz, hP, hD0, hE⟩ := hv
  have hx := B.exec
  have hb := B.bytes
  have hr := B.returns
  have hts := atoms_spec (ws := wsX5_volumeOf) B.pre
  have hown : s.vm.findClass RX5 = some m.cls := findClass_of_methodNamed B.named
  have hlocks := B.notSynchronized
  have hl := lv_entry ([.ref hm, .int t, .int v]) (n := 4) (Nat.le_of_ble_eq_true rfl)
  rw [lg_entry_eq]
  generalize (lg_sl ([.ref hm, .int t, .int v]) ++ List.replicate (4 - (lg_sl ([.ref hm, .int t, .int v])).length) Slot.unset).toArray = ls at hl ⊢
  have hl : lv_has ls 4 [(0, .ref hm), (1, .int t), (2, .int v)] := hl
  subst hsz
  have hD := hD0.self (sz := s.heap.size)
  generalize hAe : va_A (mW hm ad ca th td nt np nc M) s.heap.size = A at hD ⊢
  have hA : ∀ q : Nat, s.heap.size ≤ q → A q := fun q h => by rw [← hAe]; exact Or.inr h
  have hS : va_S A s.heap s.heap [] := va_S.rf
  refine lv_aload_n hx hb dX5_volumeOf_0 rfl (lv_at hl 0 rfl) ?_
  refine lv_iload_n hx hb dX5_volumeOf_1 rfl (lv_at hl 1 rfl) ?_
  refine zci (va_runV (As := [.int t]) (rest := []) ⟨hx, hb, hml, hown, hts⟩ (m_isT l D ca sa hm ad th td nt np nc M (t)) (cwV 1 hts gX5_volumeOf_X5_isTitle rfl rfl rfl (by decide +kernel) ⟨Nat.le_of_ble_eq_true rfl, Nat.le_of_ble_eq_true rfl⟩) (zpV hP hE (ci := 5) rfl (q0 := 0) rfl) rfl rfl hl.1 rfl (lv_room (Nat.le_of_ble_eq_true rfl)) dX5_volumeOf_2 ⟨Nat.le_of_ble_eq_true rfl, Nat.le_of_ble_eq_true rfl⟩) ?_
  refine zasi (show (bI (iT nt (t))) = nI 0 from by rw [hbad]; rfl) ?_
  refine lv_istore_n (lv' := [(3, .int (nI 0)), (0, .ref hm), (1, .int t), (2, .int v)]) hx hb dX5_volumeOf_5 rfl hl (by decide) rfl (fun ls hl => ?_)
  refine lv_aload_n hx hb dX5_volumeOf_6 rfl (lv_at hl 1 rfl) ?_
  refine lv_iload_n hx hb dX5_volumeOf_7 rfl (lv_at hl 0 rfl) ?_
  refine lv_if_ne (tgt := 15) hx hb dX5_volumeOf_8 (by decide) (fun c_8 => ?_) (fun c_8 => ?_)
  · exact absurd c_8 (by decide)
  · refine lv_iconst (v := nI 1) hx hb dX5_volumeOf_11 (by decide) ?_
    refine lv_goto (tgt := 35) hx hb dX5_volumeOf_12 (by decide) ?_
    refine zmci (va_runV (As := [.int (nI 1)]) (rest := []) ⟨hx, hb, hml, hown, hts⟩ (m_holds l D ca sa hm ad th td nt np nc M 1 (by decide) _) (cwV 1 hts gX5_volumeOf_X5_holds rfl rfl rfl (by decide +kernel) ⟨Nat.le_of_ble_eq_true rfl, Nat.le_of_ble_eq_true rfl⟩) (zmV hP hD hE (ci := 5) rfl (q0 := 0) rfl) rfl rfl hl.1 rfl (lv_room (Nat.le_of_ble_eq_true rfl)) dX5_volumeOf_35 ⟨Nat.le_of_ble_eq_true rfl, Nat.le_of_ble_eq_true rfl⟩) hD rfl hS hA (fun r9 H locs er hP hD hS => ?_)
    subst er
    refine zasi (show bI (decide (1 = 0)) = nI 0 from rfl) ?_
    refine lv_if_ne (tgt := 43) hx hb dX5_volumeOf_38 (by decide) (fun c_38 => ?_) (fun c_38 => ?_)
    · exact absurd c_38 (by decide)
    · refine lv_iconst (v := nI 0) hx hb dX5_volumeOf_41 (by decide) ?_
      exact zmri hx hb hr hlocks dX5_volumeOf_42 hP hS (trivial)

set_option maxHeartbeats 4000000 in
set_option maxRecDepth 100000 in
theorem m_volumeOf_2 (l : Launch) (D : va_G) (ca : Nat → ClassId) (sa : Nat → Nat) (hm : Nat) (ad : Nat → Nat) (th : Int32) (td nt np nc : Nat) (M : Nat → Nat → Int32) (t fy : Nat) (ht : t < nt) (hnt : nt ≤ 20) (hfy : M 0 t = nI fy) (w : Int32) (hbad : iB w (nI fy) (nI 55) = false) (sz : Nat) : Met l yX5_volumeOf wsX5_volumeOf ({ frames := 9, cells := 0, slots := 0, locals := 360 }) (va_Pc [.ref hm, .int (nI t), .int w] (zMp D (mW hm ad ca th td nt np nc M) ca sa sz)) (va_Qi (fun (r : Int32) (_ : Unit) => True) (fun _ t9 => va_P D vwCl (mW hm ad ca (nI 2) td nt np nc M) t9.heap) (va_A (mW hm ad ca th td nt np nc M) sz)) 0 0 (va_A (mW hm ad ca th td nt np nc M) sz) := by
  refine Met.ofW (cc := cX5_volumeOf) (maxL := 4) (ret := (some .int)) (by decide) rfl ?_
  intro p e s m args below meth c s₁ B hml hv
  obtain ⟨rfl, hsz, hP, hD0, hE⟩ := hv
  have hx := B.exec
  have hb := B.bytes
  have hr := B.returns
  have hts := atoms_spec (ws := wsX5_volumeOf) B.pre
  have hown : s.vm.findClass RX5 = some m.cls := findClass_of_methodNamed B.named
  have hlocks := B.notSynchronized
  have hl := lv_entry ([.ref hm, .int (nI t), .int w]) (n := 4) (Nat.le_of_ble_eq_true rfl)
  rw [lg_entry_eq]
  generalize (lg_sl ([.ref hm, .int (nI t), .int w]) ++ List.replicate (4 - (lg_sl ([.ref hm, .int (nI t), .int w])).length) Slot.unset).toArray = ls at hl ⊢
  have hl : lv_has ls 4 [(0, .ref hm), (1, .int (nI t)), (2, .int w)] := hl
  subst hsz
  have hD := hD0.self (sz := s.heap.size)
  generalize hAe : va_A (mW hm ad ca th td nt np nc M) s.heap.size = A at hD ⊢
  have hA : ∀ q : Nat, s.heap.size ≤ q → A q := fun q h => by rw [← hAe]; exact Or.inr h
  have hS : va_S A s.heap s.heap [] := va_S.rf
  refine lv_aload_n hx hb dX5_volumeOf_0 rfl (lv_at hl 0 rfl) ?_
  refine lv_iload_n hx hb dX5_volumeOf_1 rfl (lv_at hl 1 rfl) ?_
  refine zci (va_runV (As := [.int (nI t)]) (rest := []) ⟨hx, hb, hml, hown, hts⟩ (m_isT l D ca sa hm ad th td nt np nc M ((nI t))) (cwV 1 hts gX5_volumeOf_X5_isTitle rfl rfl rfl (by decide +kernel) ⟨Nat.le_of_ble_eq_true rfl, Nat.le_of_ble_eq_true rfl⟩) (zpV hP hE (ci := 5) rfl (q0 := 0) rfl) rfl rfl hl.1 rfl (lv_room (Nat.le_of_ble_eq_true rfl)) dX5_volumeOf_2 ⟨Nat.le_of_ble_eq_true rfl, Nat.le_of_ble_eq_true rfl⟩) ?_
  refine zasi (show (bI (iT nt ((nI t)))) = nI 1 from by rw [iT_t ht (by omega)]; rfl) ?_
  refine lv_istore_n (lv' := [(3, .int (nI 1)), (0, .ref hm), (1, .int (nI t)), (2, .int w)]) hx hb dX5_volumeOf_5 rfl hl (by decide) rfl (fun ls hl => ?_)
  refine lv_aload_n hx hb dX5_volumeOf_6 rfl (lv_at hl 1 rfl) ?_
  refine lv_iload_n hx hb dX5_volumeOf_7 rfl (lv_at hl 0 rfl) ?_
  refine lv_if_ne (tgt := 15) hx hb dX5_volumeOf_8 (by decide) (fun c_8 => ?_) (fun c_8 => ?_)
  · refine lv_iload_n hx hb dX5_volumeOf_15 rfl (lv_at hl 3 rfl) ?_
    refine lv_aload_n hx hb dX5_volumeOf_16 rfl (lv_at hl 1 rfl) ?_
    refine zmget (own := RX5) (ci := 5) (C := RX5) (T := TX5) (N := 18) hx hb hts (by decide +kernel) hown hE hP 0 rfl rfl 4 (by decide) (hts (.fieldLink RX5 7 "LinkResolverModel" "firstYears" "[I") (by decide +kernel)) rfl dX5_volumeOf_17 ?_
    refine lv_iload_n hx hb dX5_volumeOf_20 rfl (lv_at hl 2 rfl) ?_
    refine zmi hx hb hE hP 1 rfl (i := t) (show _ < _ from by omega) (by decide) dX5_volumeOf_21 ?_
    refine zasi (show (M 0 t) = nI fy from hfy) ?_
    refine lv_bipush (v := nI 55) hx hb dX5_volumeOf_22 (by decide) ?_
    refine zci (va_runS (As := [.int w, .int (nI fy), .int (nI 55)]) (rest := [.ref hm]) ⟨hx, hb, hml, hown, hts⟩ (m_isB l D ca sa _ _ _ _) (va_cwS 3 hts gX5_volumeOf_X5_isBetween rfl rfl rfl (by decide +kernel) ⟨Nat.le_of_ble_eq_true rfl, Nat.le_of_ble_eq_true rfl⟩) (zpS hP hE) rfl rfl hl.1 rfl (lv_room (Nat.le_of_ble_eq_true rfl)) dX5_volumeOf_24 ⟨Nat.le_of_ble_eq_true rfl, Nat.le_of_ble_eq_true rfl⟩) ?_
    refine zasi (show (bI (iB (w) ((nI fy)) ((nI 55)))) = nI 0 from by rw [hbad]; rfl) ?_
    refine lv_if_eq (tgt := 34) hx hb dX5_volumeOf_27 (by decide) (fun c_27 => ?_) (fun c_27 => ?_)
    · refine lv_iconst (v := nI 2) hx hb dX5_volumeOf_34 (by decide) ?_
      refine zmci (va_runV (As := [.int (nI 2)]) (rest := []) ⟨hx, hb, hml, hown, hts⟩ (m_holds l D ca sa hm ad th td nt np nc M 2 (by decide) _) (cwV 1 hts gX5_volumeOf_X5_holds rfl rfl rfl (by decide +kernel) ⟨Nat.le_of_ble_eq_true rfl, Nat.le_of_ble_eq_true rfl⟩) (zmV hP hD hE (ci := 5) rfl (q0 := 0) rfl) rfl rfl hl.1 rfl (lv_room (Nat.le_of_ble_eq_true rfl)) dX5_volumeOf_35 ⟨Nat.le_of_ble_eq_true rfl, Nat.le_of_ble_eq_true rfl⟩) hD rfl hS hA (fun r9 H locs er hP hD hS => ?_)
      subst er
      refine zasi (show bI (decide (2 = 0)) = nI 0 from rfl) ?_
      refine lv_if_ne (tgt := 43) hx hb dX5_volumeOf_38 (by decide) (fun c_38 => ?_) (fun c_38 => ?_)
      · exact absurd c_38 (by decide)
      · refine lv_iconst (v := nI 0) hx hb dX5_volumeOf_41 (by decide) ?_
        exact zmri hx hb hr hlocks dX5_volumeOf_42 hP hS (trivial)
    · exact absurd c_27 (by decide)
  · exact absurd c_8 (by decide)

set_option maxHeartbeats 4000000 in
set_option maxRecDepth 100000 in
theorem m_addPackage (l : Launch) (D : va_G) (ca : Nat → ClassId) (sa : Nat → Nat) (hm : Nat) (ad : Nat → Nat) (th : Int32) (td nt np nc : Nat) (M : Nat → Nat → Int32) (a b g k : Nat) (ha : a ≤ 1000) (hb2 : b ≤ 2) (hg : g ≤ 15) (hk : k ≤ 1) (hnp : np < 10) (sz : Nat) : Met l yX5_addPackage wsX5_addPackage ({ frames := 9, cells := 0, slots := 0, locals := 360 }) (va_Pc [.ref hm, .int (nI a), .int (nI b), .int (nI g), .int (nI k)] (zMp D (mW hm ad ca th td nt np nc M) ca sa sz)) (va_Qi (fun (r : Int32) (_ : Unit) => r = nI np) (fun _ t9 => va_P D vwCl (mW hm ad ca (nI 0) td nt (np + 1) nc (mP (mP (mP (mP M 2 np (nI a)) 3 np (nI b)) 4 np (nI g)) 5 np (vp_nar .boolean (bI (decide (k = 1)))))) t9.heap) (va_A (mW hm ad ca th td nt np nc M) sz)) 0 0 (va_A (mW hm ad ca th td nt np nc M) sz) := by
  refine Met.ofW (cc := cX5_addPackage) (maxL := 6) (ret := (some .int)) (by decide) rfl ?_
  intro p e s m args below meth c s₁ B hml hv
  obtain ⟨rfl, hsz, hP, hD0, hE⟩ := hv
  have hx := B.exec
  have hb := B.bytes
  have hr := B.returns
  have hts := atoms_spec (ws := wsX5_addPackage) B.pre
  have hown : s.vm.findClass RX5 = some m.cls := findClass_of_methodNamed B.named
  have hlocks := B.notSynchronized
  have hl := lv_entry ([.ref hm, .int (nI a), .int (nI b), .int (nI g), .int (nI k)]) (n := 6) (Nat.le_of_ble_eq_true rfl)
  rw [lg_entry_eq]
  generalize (lg_sl ([.ref hm, .int (nI a), .int (nI b), .int (nI g), .int (nI k)]) ++ List.replicate (6 - (lg_sl ([.ref hm, .int (nI a), .int (nI b), .int (nI g), .int (nI k)])).length) Slot.unset).toArray = ls at hl ⊢
  have hl : lv_has ls 6 [(0, .ref hm), (1, .int (nI a)), (2, .int (nI b)), (3, .int (nI g)), (4, .int (nI k))] := hl
  subst hsz
  have hD := hD0.self (sz := s.heap.size)
  generalize hAe : va_A (mW hm ad ca th td nt np nc M) s.heap.size = A at hD ⊢
  have hA : ∀ q : Nat, s.heap.size ≤ q → A q := fun q h => by rw [← hAe]; exact Or.inr h
  have hS : va_S A s.heap s.heap [] := va_S.rf
  refine lv_iload_n hx hb dX5_addPackage_0 rfl (lv_at hl 1 rfl) ?_
  refine lv_iconst (v := nI 0) hx hb dX5_addPackage_1 (by decide) ?_
  refine lv_sipush (v := nI 1000) hx hb dX5_addPackage_2 (by decide) ?_
  refine zci (va_runS (As := [.int (nI a), .int (nI 0), .int (nI 1000)]) (rest := []) ⟨hx, hb, hml, hown, hts⟩ (m_isB l D ca sa _ _ _ _) (va_cwS 3 hts gX5_addPackage_X5_isBetween rfl rfl rfl (by decide +kernel) ⟨Nat.le_of_ble_eq_true rfl, Nat.le_of_ble_eq_true rfl⟩) (zpS hP hE) rfl rfl hl.1 rfl (lv_room (Nat.le_of_ble_eq_true rfl)) dX5_addPackage_5 ⟨Nat.le_of_ble_eq_true rfl, Nat.le_of_ble_eq_true rfl⟩) ?_
  refine zasi (show (bI (iB ((nI a)) ((nI 0)) ((nI 1000)))) = nI 1 from by rw [iB_t (Nat.zero_le _) ha (by decide)]; rfl) ?_
  refine lv_if_eq (tgt := 44) hx hb dX5_addPackage_8 (by decide) (fun c_8 => ?_) (fun c_8 => ?_)
  · exact absurd c_8 (by decide)
  · refine lv_iload_n hx hb dX5_addPackage_11 rfl (lv_at hl 2 rfl) ?_
    refine lv_iconst (v := nI 0) hx hb dX5_addPackage_12 (by decide) ?_
    refine lv_iconst (v := nI 2) hx hb dX5_addPackage_13 (by decide) ?_
    refine zci (va_runS (As := [.int (nI b), .int (nI 0), .int (nI 2)]) (rest := []) ⟨hx, hb, hml, hown, hts⟩ (m_isB l D ca sa _ _ _ _) (va_cwS 3 hts gX5_addPackage_X5_isBetween rfl rfl rfl (by decide +kernel) ⟨Nat.le_of_ble_eq_true rfl, Nat.le_of_ble_eq_true rfl⟩) (zpS hP hE) rfl rfl hl.1 rfl (lv_room (Nat.le_of_ble_eq_true rfl)) dX5_addPackage_14 ⟨Nat.le_of_ble_eq_true rfl, Nat.le_of_ble_eq_true rfl⟩) ?_
    refine zasi (show (bI (iB ((nI b)) ((nI 0)) ((nI 2)))) = nI 1 from by rw [iB_t (Nat.zero_le _) hb2 (by decide)]; rfl) ?_
    refine lv_if_eq (tgt := 44) hx hb dX5_addPackage_17 (by decide) (fun c_17 => ?_) (fun c_17 => ?_)
    · exact absurd c_17 (by decide)
    · refine lv_iload_n hx hb dX5_addPackage_20 rfl (lv_at hl 3 rfl) ?_
      refine lv_iconst (v := nI 0) hx hb dX5_addPackage_21 (by decide) ?_
      refine lv_bipush (v := nI 15) hx hb dX5_addPackage_22 (by decide) ?_
      refine zci (va_runS (As := [.int (nI g), .int (nI 0), .int (nI 15)]) (rest := []) ⟨hx, hb, hml, hown, hts⟩ (m_isB l D ca sa _ _ _ _) (va_cwS 3 hts gX5_addPackage_X5_isBetween rfl rfl rfl (by decide +kernel) ⟨Nat.le_of_ble_eq_true rfl, Nat.le_of_ble_eq_true rfl⟩) (zpS hP hE) rfl rfl hl.1 rfl (lv_room (Nat.le_of_ble_eq_true rfl)) dX5_addPackage_24 ⟨Nat.le_of_ble_eq_true rfl, Nat.le_of_ble_eq_true rfl⟩) ?_
      refine zasi (show (bI (iB ((nI g)) ((nI 0)) ((nI 15)))) = nI 1 from by rw [iB_t (Nat.zero_le _) hg (by decide)]; rfl) ?_
      refine lv_if_eq (tgt := 44) hx hb dX5_addPackage_27 (by decide) (fun c_27 => ?_) (fun c_27 => ?_)
      · exact absurd c_27 (by decide)
      · refine lv_iload hx hb dX5_addPackage_30 (lv_at hl 4 rfl) ?_
        refine lv_iconst (v := nI 0) hx hb dX5_addPackage_32 (by decide) ?_
        refine lv_iconst (v := nI 1) hx hb dX5_addPackage_33 (by decide) ?_
        refine zci (va_runS (As := [.int (nI k), .int (nI 0), .int (nI 1)]) (rest := []) ⟨hx, hb, hml, hown, hts⟩ (m_isB l D ca sa _ _ _ _) (va_cwS 3 hts gX5_addPackage_X5_isBetween rfl rfl rfl (by decide +kernel) ⟨Nat.le_of_ble_eq_true rfl, Nat.le_of_ble_eq_true rfl⟩) (zpS hP hE) rfl rfl hl.1 rfl (lv_room (Nat.le_of_ble_eq_true rfl)) dX5_addPackage_34 ⟨Nat.le_of_ble_eq_true rfl, Nat.le_of_ble_eq_true rfl⟩) ?_
        refine zasi (show (bI (iB ((nI k)) ((nI 0)) ((nI 1)))) = nI 1 from by rw [iB_t (Nat.zero_le _) hk (by decide)]; rfl) ?_
        refine lv_if_eq (tgt := 44) hx hb dX5_addPackage_37 (by decide) (fun c_37 => ?_) (fun c_37 => ?_)
        · exact absurd c_37 (by decide)
        · refine lv_iconst (v := nI 1) hx hb dX5_addPackage_40 (by decide) ?_
          refine lv_goto (tgt := 45) hx hb dX5_addPackage_41 (by decide) ?_
          refine lv_istore (lv' := [(5, .int (nI 1)), (0, .ref hm), (1, .int (nI a)), (2, .int (nI b)), (3, .int (nI g)), (4, .int (nI k))]) hx hb dX5_addPackage_45 hl (by decide) rfl (fun ls hl => ?_)
          refine lv_aload_n hx hb dX5_addPackage_47 rfl (lv_at hl 1 rfl) ?_
          refine lv_iload hx hb dX5_addPackage_48 (lv_at hl 0 rfl) ?_
          refine lv_if_ne (tgt := 57) hx hb dX5_addPackage_50 (by decide) (fun c_50 => ?_) (fun c_50 => ?_)
          · refine lv_aload_n hx hb dX5_addPackage_57 rfl (lv_at hl 1 rfl) ?_
            refine zmget (own := RX5) (ci := 5) (C := RX5) (T := TX5) (N := 18) hx hb hts (by decide +kernel) hown hE hP 0 rfl rfl 3 (by decide) (hts (.fieldLink RX5 57 "LinkResolverModel" "packages" "I") (by decide +kernel)) rfl dX5_addPackage_58 ?_
            refine lv_bipush (v := nI 10) hx hb dX5_addPackage_61 (by decide) ?_
            refine lv_icmp_ne (tgt := 70) hx hb dX5_addPackage_63 (by decide) (fun c_63 => ?_) (fun c_63 => ?_)
            · refine lv_iconst (v := nI 0) hx hb dX5_addPackage_70 (by decide) ?_
              refine zmci (va_runV (As := [.int (nI 0)]) (rest := []) ⟨hx, hb, hml, hown, hts⟩ (m_holds l D ca sa hm ad th td nt np nc M 0 (by decide) _) (cwV 1 hts gX5_addPackage_X5_holds rfl rfl rfl (by decide +kernel) ⟨Nat.le_of_ble_eq_true rfl, Nat.le_of_ble_eq_true rfl⟩) (zmV hP hD hE (ci := 5) rfl (q0 := 0) rfl) rfl rfl hl.1 rfl (lv_room (Nat.le_of_ble_eq_true rfl)) dX5_addPackage_71 ⟨Nat.le_of_ble_eq_true rfl, Nat.le_of_ble_eq_true rfl⟩) hD rfl hS hA (fun r9 H locs er hP hD hS => ?_)
              subst er
              refine zasi (show bI (decide (0 = 0)) = nI 1 from rfl) ?_
              refine lv_if_ne (tgt := 79) hx hb dX5_addPackage_74 (by decide) (fun c_74 => ?_) (fun c_74 => ?_)
              · refine lv_aload_n hx hb dX5_addPackage_79 rfl (lv_at hl 1 rfl) ?_
                refine zmget (own := RX5) (ci := 5) (C := RX5) (T := TX5) (N := 18) hx hb hts (by decide +kernel) hown hE hP 0 rfl rfl 6 (by decide) (hts (.fieldLink RX5 16 "LinkResolverModel" "costs" "[I") (by decide +kernel)) rfl dX5_addPackage_80 ?_
                refine lv_aload_n hx hb dX5_addPackage_83 rfl (lv_at hl 1 rfl) ?_
                refine zmget (own := RX5) (ci := 5) (C := RX5) (T := TX5) (N := 18) hx hb hts (by decide +kernel) hown hE hP 0 rfl rfl 3 (by decide) (hts (.fieldLink RX5 57 "LinkResolverModel" "packages" "I") (by decide +kernel)) rfl dX5_addPackage_84 ?_
                refine lv_iload_n hx hb dX5_addPackage_87 rfl (lv_at hl 2 rfl) ?_
                refine zmist hx hb hE hP hD hS 3 rfl (i := np) (show _ < _ from by omega) (by decide) dX5_addPackage_88 (fun H locs hP hD hS => ?_)
                have hP : va_P D vwCl (mW hm ad ca (nI 0) td nt np nc (mP M 2 np (nI a))) H := hP
                have hD : va_D A (mW hm ad ca (nI 0) td nt np nc (mP M 2 np (nI a))) := hD
                refine lv_aload_n hx hb dX5_addPackage_89 rfl (lv_at hl 1 rfl) ?_
                refine zmget (own := RX5) (ci := 5) (C := RX5) (T := TX5) (N := 18) hx hb hts (by decide +kernel) hown hE hP 0 rfl rfl 7 (by decide) (hts (.fieldLink RX5 19 "LinkResolverModel" "versions" "[I") (by decide +kernel)) rfl dX5_addPackage_90 ?_
                refine lv_aload_n hx hb dX5_addPackage_93 rfl (lv_at hl 1 rfl) ?_
                refine zmget (own := RX5) (ci := 5) (C := RX5) (T := TX5) (N := 18) hx hb hts (by decide +kernel) hown hE hP 0 rfl rfl 3 (by decide) (hts (.fieldLink RX5 57 "LinkResolverModel" "packages" "I") (by decide +kernel)) rfl dX5_addPackage_94 ?_
                refine lv_iload_n hx hb dX5_addPackage_97 rfl (lv_at hl 3 rfl) ?_
                refine zmist hx hb hE hP hD hS 4 rfl (i := np) (show _ < _ from by omega) (by decide) dX5_addPackage_98 (fun H locs hP hD hS => ?_)
                have hP : va_P D vwCl (mW hm ad ca (nI 0) td nt np nc (mP (mP M 2 np (nI a)) 3 np (nI b))) H := hP
                have hD : va_D A (mW hm ad ca (nI 0) td nt np nc (mP (mP M 2 np (nI a)) 3 np (nI b))) := hD
                refine lv_aload_n hx hb dX5_addPackage_99 rfl (lv_at hl 1 rfl) ?_
                refine zmget (own := RX5) (ci := 5) (C := RX5) (T := TX5) (N := 18) hx hb hts (by decide +kernel) hown hE hP 0 rfl rfl 8 (by decide) (hts (.fieldLink RX5 22 "LinkResolverModel" "groups" "[I") (by decide +kernel)) rfl dX5_addPackage_100 ?_
                refine lv_aload_n hx hb dX5_addPackage_103 rfl (lv_at hl 1 rfl) ?_
                refine zmget (own := RX5) (ci := 5) (C := RX5) (T := TX5) (N := 18) hx hb hts (by decide +kernel) hown hE hP 0 rfl rfl 3 (by decide) (hts (.fieldLink RX5 57 "LinkResolverModel" "packages" "I") (by decide +kernel)) rfl dX5_addPackage_104 ?_
                refine lv_iload_n hx hb dX5_addPackage_107 rfl (lv_at hl 4 rfl) ?_
                refine zmist hx hb hE hP hD hS 5 rfl (i := np) (show _ < _ from by omega) (by decide) dX5_addPackage_108 (fun H locs hP hD hS => ?_)
                have hP : va_P D vwCl (mW hm ad ca (nI 0) td nt np nc (mP (mP (mP M 2 np (nI a)) 3 np (nI b)) 4 np (nI g))) H := hP
                have hD : va_D A (mW hm ad ca (nI 0) td nt np nc (mP (mP (mP M 2 np (nI a)) 3 np (nI b)) 4 np (nI g))) := hD
                refine lv_aload_n hx hb dX5_addPackage_109 rfl (lv_at hl 1 rfl) ?_
                refine zmget (own := RX5) (ci := 5) (C := RX5) (T := TX5) (N := 18) hx hb hts (by decide +kernel) hown hE hP 0 rfl rfl 9 (by decide) (hts (.fieldLink RX5 25 "LinkResolverModel" "keeps" "[Z") (by decide +kernel)) rfl dX5_addPackage_110 ?_
                refine lv_aload_n hx hb dX5_addPackage_113 rfl (lv_at hl 1 rfl) ?_
                refine zmget (own := RX5) (ci := 5) (C := RX5) (T := TX5) (N := 18) hx hb hts (by decide +kernel) hown hE hP 0 rfl rfl 3 (by decide) (hts (.fieldLink RX5 57 "LinkResolverModel" "packages" "I") (by decide +kernel)) rfl dX5_addPackage_114 ?_
                refine lv_iload hx hb dX5_addPackage_117 (lv_at hl 5 rfl) ?_
                refine lv_iconst (v := nI 1) hx hb dX5_addPackage_119 (by decide) ?_
                refine lv_icmp_ne (tgt := 127) hx hb dX5_addPackage_120 (by decide) (fun c_120 => ?_) (fun c_120 => ?_)
                · refine lv_iconst (v := nI 0) hx hb dX5_addPackage_127 (by decide) ?_
                  refine zasi (show (nI 0) = bI (decide (k = 1)) from bI_f (fun q => c_120 (by rw [q]))) ?_
                  refine zmzst hx hb hE hP hD hS 6 rfl (i := np) (show _ < _ from by omega) (by decide) dX5_addPackage_128 (fun H locs hP hD hS => ?_)
                  have hP : va_P D vwCl (mW hm ad ca (nI 0) td nt np nc (mP (mP (mP (mP M 2 np (nI a)) 3 np (nI b)) 4 np (nI g)) 5 np (vp_nar .boolean (bI (decide (k = 1)))))) H := hP
                  have hD : va_D A (mW hm ad ca (nI 0) td nt np nc (mP (mP (mP (mP M 2 np (nI a)) 3 np (nI b)) 4 np (nI g)) 5 np (vp_nar .boolean (bI (decide (k = 1)))))) := hD
                  refine lv_aload_n hx hb dX5_addPackage_129 rfl (lv_at hl 1 rfl) ?_
                  refine lv_dup hx hb dX5_addPackage_130 rfl ?_
                  refine zmget (own := RX5) (ci := 5) (C := RX5) (T := TX5) (N := 18) hx hb hts (by decide +kernel) hown hE hP 0 rfl rfl 3 (by decide) (hts (.fieldLink RX5 57 "LinkResolverModel" "packages" "I") (by decide +kernel)) rfl dX5_addPackage_131 ?_
                  refine lv_iconst (v := nI 1) hx hb dX5_addPackage_134 (by decide) ?_
                  refine lv_iadd hx hb dX5_addPackage_135 ?_
                  refine zasi (show ((nI np) + (nI 1)) = nI (np + 1) from nI_1 _) ?_
                  refine va_put (own := RX5) (ci := 5) (v := .int (nI (np + 1))) (ty := .int) (C := RX5) (T := TX5) (N := 18) hx hb hts (by decide +kernel) tyX5 tyX5_ok nmX5 hown hE.1 hP hD hS 0 rfl rfl 3 (by decide) (hts (.fieldLink RX5 57 "LinkResolverModel" "packages" "I") (by decide +kernel)) (fun _ h9 => h9) rfl (by decide +kernel) rfl rfl (Nat.le_of_ble_eq_true rfl) dX5_addPackage_136 (fun H locs hP hD hS => ?_)
                  have hP : va_P D vwCl (mW hm ad ca (nI 0) td nt (np + 1) nc (mP (mP (mP (mP M 2 np (nI a)) 3 np (nI b)) 4 np (nI g)) 5 np (vp_nar .boolean (bI (decide (k = 1)))))) H := hP
                  have hD : va_D A (mW hm ad ca (nI 0) td nt (np + 1) nc (mP (mP (mP (mP M 2 np (nI a)) 3 np (nI b)) 4 np (nI g)) 5 np (vp_nar .boolean (bI (decide (k = 1)))))) := hD
                  refine lv_aload_n hx hb dX5_addPackage_139 rfl (lv_at hl 1 rfl) ?_
                  refine zmget (own := RX5) (ci := 5) (C := RX5) (T := TX5) (N := 18) hx hb hts (by decide +kernel) hown hE hP 0 rfl rfl 3 (by decide) (hts (.fieldLink RX5 57 "LinkResolverModel" "packages" "I") (by decide +kernel)) rfl dX5_addPackage_140 ?_
                  refine lv_iconst (v := nI 1) hx hb dX5_addPackage_143 (by decide) ?_
                  refine lv_isub hx hb dX5_addPackage_144 ?_
                  refine zasi (show ((nI (np + 1)) - (nI 1)) = nI np from pk_sub (by omega)) ?_
                  exact zmri hx hb hr hlocks dX5_addPackage_145 hP hS (rfl)
                · refine lv_iconst (v := nI 1) hx hb dX5_addPackage_123 (by decide) ?_
                  refine zasi (show (nI 1) = bI (decide (k = 1)) from bI_t ((nI_eq (by omega) (by omega)).mp c_120)) ?_
                  refine lv_goto (tgt := 128) hx hb dX5_addPackage_124 (by decide) ?_
                  refine zmzst hx hb hE hP hD hS 6 rfl (i := np) (show _ < _ from by omega) (by decide) dX5_addPackage_128 (fun H locs hP hD hS => ?_)
                  have hP : va_P D vwCl (mW hm ad ca (nI 0) td nt np nc (mP (mP (mP (mP M 2 np (nI a)) 3 np (nI b)) 4 np (nI g)) 5 np (vp_nar .boolean (bI (decide (k = 1)))))) H := hP
                  have hD : va_D A (mW hm ad ca (nI 0) td nt np nc (mP (mP (mP (mP M 2 np (nI a)) 3 np (nI b)) 4 np (nI g)) 5 np (vp_nar .boolean (bI (decide (k = 1)))))) := hD
                  refine lv_aload_n hx hb dX5_addPackage_129 rfl (lv_at hl 1 rfl) ?_
                  refine lv_dup hx hb dX5_addPackage_130 rfl ?_
                  refine zmget (own := RX5) (ci := 5) (C := RX5) (T := TX5) (N := 18) hx hb hts (by decide +kernel) hown hE hP 0 rfl rfl 3 (by decide) (hts (.fieldLink RX5 57 "LinkResolverModel" "packages" "I") (by decide +kernel)) rfl dX5_addPackage_131 ?_
                  refine lv_iconst (v := nI 1) hx hb dX5_addPackage_134 (by decide) ?_
                  refine lv_iadd hx hb dX5_addPackage_135 ?_
                  refine zasi (show ((nI np) + (nI 1)) = nI (np + 1) from nI_1 _) ?_
                  refine va_put (own := RX5) (ci := 5) (v := .int (nI (np + 1))) (ty := .int) (C := RX5) (T := TX5) (N := 18) hx hb hts (by decide +kernel) tyX5 tyX5_ok nmX5 hown hE.1 hP hD hS 0 rfl rfl 3 (by decide) (hts (.fieldLink RX5 57 "LinkResolverModel" "packages" "I") (by decide +kernel)) (fun _ h9 => h9) rfl (by decide +kernel) rfl rfl (Nat.le_of_ble_eq_true rfl) dX5_addPackage_136 (fun H locs hP hD hS => ?_)
                  have hP : va_P D vwCl (mW hm ad ca (nI 0) td nt (np + 1) nc (mP (mP (mP (mP M 2 np (nI a)) 3 np (nI b)) 4 np (nI g)) 5 np (vp_nar .boolean (bI (decide (k = 1)))))) H := hP
                  have hD : va_D A (mW hm ad ca (nI 0) td nt (np + 1) nc (mP (mP (mP (mP M 2 np (nI a)) 3 np (nI b)) 4 np (nI g)) 5 np (vp_nar .boolean (bI (decide (k = 1)))))) := hD
                  refine lv_aload_n hx hb dX5_addPackage_139 rfl (lv_at hl 1 rfl) ?_
                  refine zmget (own := RX5) (ci := 5) (C := RX5) (T := TX5) (N := 18) hx hb hts (by decide +kernel) hown hE hP 0 rfl rfl 3 (by decide) (hts (.fieldLink RX5 57 "LinkResolverModel" "packages" "I") (by decide +kernel)) rfl dX5_addPackage_140 ?_
                  refine lv_iconst (v := nI 1) hx hb dX5_addPackage_143 (by decide) ?_
                  refine lv_isub hx hb dX5_addPackage_144 ?_
                  refine zasi (show ((nI (np + 1)) - (nI 1)) = nI np from pk_sub (by omega)) ?_
                  exact zmri hx hb hr hlocks dX5_addPackage_145 hP hS (rfl)
              · exact absurd c_74 (by decide)
            · exact absurd ((nI_eq (by omega) (by omega)).mp c_63) (by omega)
          · exact absurd c_50 (by decide)

set_option maxHeartbeats 4000000 in
set_option maxRecDepth 100000 in
theorem m_addPackage_1 (l : Launch) (D : va_G) (ca : Nat → ClassId) (sa : Nat → Nat) (hm : Nat) (ad : Nat → Nat) (th : Int32) (td nt np nc : Nat) (M : Nat → Nat → Int32) (a b g k : Int32) (hbad : (iB a (nI 0) (nI 1000) && (iB b (nI 0) (nI 2) && (iB g (nI 0) (nI 15) && iB k (nI 0) (nI 1)))) = false) (sz : Nat) : Met l yX5_addPackage wsX5_addPackage ({ frames := 9, cells := 0, slots := 0, locals := 360 }) (va_Pc [.ref hm, .int a, .int b, .int g, .int k] (zMp D (mW hm ad ca th td nt np nc M) ca sa sz)) (va_Qi (fun (r : Int32) (_ : Unit) => True) (fun _ t9 => va_P D vwCl (mW hm ad ca (nI 1) td nt np nc M) t9.heap) (va_A (mW hm ad ca th td nt np nc M) sz)) 0 0 (va_A (mW hm ad ca th td nt np nc M) sz) := by
  refine Met.ofW (cc := cX5_addPackage) (maxL := 6) (ret := (some .int)) (by decide) rfl ?_
  intro p e s m args below meth c s₁ B hml hv
  obtain ⟨rfl, hsz, hP, hD0, hE⟩ := hv
  have hx := B.exec
  have hb := B.bytes
  have hr := B.returns
  have hts := atoms_spec (ws := wsX5_addPackage) B.pre
  have hown : s.vm.findClass RX5 = some m.cls := findClass_of_methodNamed B.named
  have hlocks := B.notSynchronized
  have hl := lv_entry ([.ref hm, .int a, .int b, .int g, .int k]) (n := 6) (Nat.le_of_ble_eq_true rfl)
  rw [lg_entry_eq]
  generalize (lg_sl ([.ref hm, .int a, .int b, .int g, .int k]) ++ List.replicate (6 - (lg_sl ([.ref hm, .int a, .int b, .int g, .int k])).length) Slot.unset).toArray = ls at hl ⊢
  have hl : lv_has ls 6 [(0, .ref hm), (1, .int a), (2, .int b), (3, .int g), (4, .int k)] := hl
  subst hsz
  have hD := hD0.self (sz := s.heap.size)
  generalize hAe : va_A (mW hm ad ca th td nt np nc M) s.heap.size = A at hD ⊢
  have hA : ∀ q : Nat, s.heap.size ≤ q → A q := fun q h => by rw [← hAe]; exact Or.inr h
  have hS : va_S A s.heap s.heap [] := va_S.rf
  refine lv_iload_n hx hb dX5_addPackage_0 rfl (lv_at hl 1 rfl) ?_
  refine lv_iconst (v := nI 0) hx hb dX5_addPackage_1 (by decide) ?_
  refine lv_sipush (v := nI 1000) hx hb dX5_addPackage_2 (by decide) ?_
  refine zci (va_runS (As := [.int a, .int (nI 0), .int (nI 1000)]) (rest := []) ⟨hx, hb, hml, hown, hts⟩ (m_isB l D ca sa _ _ _ _) (va_cwS 3 hts gX5_addPackage_X5_isBetween rfl rfl rfl (by decide +kernel) ⟨Nat.le_of_ble_eq_true rfl, Nat.le_of_ble_eq_true rfl⟩) (zpS hP hE) rfl rfl hl.1 rfl (lv_room (Nat.le_of_ble_eq_true rfl)) dX5_addPackage_5 ⟨Nat.le_of_ble_eq_true rfl, Nat.le_of_ble_eq_true rfl⟩) ?_
  refine lv_if_eq (tgt := 44) hx hb dX5_addPackage_8 (by decide) (fun c_8 => ?_) (fun c_8 => ?_)
  · have e_8 := bI_eq0 c_8
    refine lv_iconst (v := nI 0) hx hb dX5_addPackage_44 (by decide) ?_
    refine lv_istore (lv' := [(5, .int (nI 0)), (0, .ref hm), (1, .int a), (2, .int b), (3, .int g), (4, .int k)]) hx hb dX5_addPackage_45 hl (by decide) rfl (fun ls hl => ?_)
    refine lv_aload_n hx hb dX5_addPackage_47 rfl (lv_at hl 1 rfl) ?_
    refine lv_iload hx hb dX5_addPackage_48 (lv_at hl 0 rfl) ?_
    refine lv_if_ne (tgt := 57) hx hb dX5_addPackage_50 (by decide) (fun c_50 => ?_) (fun c_50 => ?_)
    · exact absurd c_50 (by decide)
    · refine lv_iconst (v := nI 1) hx hb dX5_addPackage_53 (by decide) ?_
      refine lv_goto (tgt := 71) hx hb dX5_addPackage_54 (by decide) ?_
      refine zmci (va_runV (As := [.int (nI 1)]) (rest := []) ⟨hx, hb, hml, hown, hts⟩ (m_holds l D ca sa hm ad th td nt np nc M 1 (by decide) _) (cwV 1 hts gX5_addPackage_X5_holds rfl rfl rfl (by decide +kernel) ⟨Nat.le_of_ble_eq_true rfl, Nat.le_of_ble_eq_true rfl⟩) (zmV hP hD hE (ci := 5) rfl (q0 := 0) rfl) rfl rfl hl.1 rfl (lv_room (Nat.le_of_ble_eq_true rfl)) dX5_addPackage_71 ⟨Nat.le_of_ble_eq_true rfl, Nat.le_of_ble_eq_true rfl⟩) hD rfl hS hA (fun r9 H locs er hP hD hS => ?_)
      subst er
      refine zasi (show bI (decide (1 = 0)) = nI 0 from rfl) ?_
      refine lv_if_ne (tgt := 79) hx hb dX5_addPackage_74 (by decide) (fun c_74 => ?_) (fun c_74 => ?_)
      · exact absurd c_74 (by decide)
      · refine lv_iconst (v := nI 0) hx hb dX5_addPackage_77 (by decide) ?_
        exact zmri hx hb hr hlocks dX5_addPackage_78 hP hS (trivial)
  · have e_8 := bI_ne0 c_8
    refine lv_iload_n hx hb dX5_addPackage_11 rfl (lv_at hl 2 rfl) ?_
    refine lv_iconst (v := nI 0) hx hb dX5_addPackage_12 (by decide) ?_
    refine lv_iconst (v := nI 2) hx hb dX5_addPackage_13 (by decide) ?_
    refine zci (va_runS (As := [.int b, .int (nI 0), .int (nI 2)]) (rest := []) ⟨hx, hb, hml, hown, hts⟩ (m_isB l D ca sa _ _ _ _) (va_cwS 3 hts gX5_addPackage_X5_isBetween rfl rfl rfl (by decide +kernel) ⟨Nat.le_of_ble_eq_true rfl, Nat.le_of_ble_eq_true rfl⟩) (zpS hP hE) rfl rfl hl.1 rfl (lv_room (Nat.le_of_ble_eq_true rfl)) dX5_addPackage_14 ⟨Nat.le_of_ble_eq_true rfl, Nat.le_of_ble_eq_true rfl⟩) ?_
    refine lv_if_eq (tgt := 44) hx hb dX5_addPackage_17 (by decide) (fun c_17 => ?_) (fun c_17 => ?_)
    · have e_17 := bI_eq0 c_17
      refine lv_iconst (v := nI 0) hx hb dX5_addPackage_44 (by decide) ?_
      refine lv_istore (lv' := [(5, .int (nI 0)), (0, .ref hm), (1, .int a), (2, .int b), (3, .int g), (4, .int k)]) hx hb dX5_addPackage_45 hl (by decide) rfl (fun ls hl => ?_)
      refine lv_aload_n hx hb dX5_addPackage_47 rfl (lv_at hl 1 rfl) ?_
      refine lv_iload hx hb dX5_addPackage_48 (lv_at hl 0 rfl) ?_
      refine lv_if_ne (tgt := 57) hx hb dX5_addPackage_50 (by decide) (fun c_50 => ?_) (fun c_50 => ?_)
      · exact absurd c_50 (by decide)
      · refine lv_iconst (v := nI 1) hx hb dX5_addPackage_53 (by decide) ?_
        refine lv_goto (tgt := 71) hx hb dX5_addPackage_54 (by decide) ?_
        refine zmci (va_runV (As := [.int (nI 1)]) (rest := []) ⟨hx, hb, hml, hown, hts⟩ (m_holds l D ca sa hm ad th td nt np nc M 1 (by decide) _) (cwV 1 hts gX5_addPackage_X5_holds rfl rfl rfl (by decide +kernel) ⟨Nat.le_of_ble_eq_true rfl, Nat.le_of_ble_eq_true rfl⟩) (zmV hP hD hE (ci := 5) rfl (q0 := 0) rfl) rfl rfl hl.1 rfl (lv_room (Nat.le_of_ble_eq_true rfl)) dX5_addPackage_71 ⟨Nat.le_of_ble_eq_true rfl, Nat.le_of_ble_eq_true rfl⟩) hD rfl hS hA (fun r9 H locs er hP hD hS => ?_)
        subst er
        refine zasi (show bI (decide (1 = 0)) = nI 0 from rfl) ?_
        refine lv_if_ne (tgt := 79) hx hb dX5_addPackage_74 (by decide) (fun c_74 => ?_) (fun c_74 => ?_)
        · exact absurd c_74 (by decide)
        · refine lv_iconst (v := nI 0) hx hb dX5_addPackage_77 (by decide) ?_
          exact zmri hx hb hr hlocks dX5_addPackage_78 hP hS (trivial)
    · have e_17 := bI_ne0 c_17
      refine lv_iload_n hx hb dX5_addPackage_20 rfl (lv_at hl 3 rfl) ?_
      refine lv_iconst (v := nI 0) hx hb dX5_addPackage_21 (by decide) ?_
      refine lv_bipush (v := nI 15) hx hb dX5_addPackage_22 (by decide) ?_
      refine zci (va_runS (As := [.int g, .int (nI 0), .int (nI 15)]) (rest := []) ⟨hx, hb, hml, hown, hts⟩ (m_isB l D ca sa _ _ _ _) (va_cwS 3 hts gX5_addPackage_X5_isBetween rfl rfl rfl (by decide +kernel) ⟨Nat.le_of_ble_eq_true rfl, Nat.le_of_ble_eq_true rfl⟩) (zpS hP hE) rfl rfl hl.1 rfl (lv_room (Nat.le_of_ble_eq_true rfl)) dX5_addPackage_24 ⟨Nat.le_of_ble_eq_true rfl, Nat.le_of_ble_eq_true rfl⟩) ?_
      refine lv_if_eq (tgt := 44) hx hb dX5_addPackage_27 (by decide) (fun c_27 => ?_) (fun c_27 => ?_)
      · have e_27 := bI_eq0 c_27
        refine lv_iconst (v := nI 0) hx hb dX5_addPackage_44 (by decide) ?_
        refine lv_istore (lv' := [(5, .int (nI 0)), (0, .ref hm), (1, .int a), (2, .int b), (3, .int g), (4, .int k)]) hx hb dX5_addPackage_45 hl (by decide) rfl (fun ls hl => ?_)
        refine lv_aload_n hx hb dX5_addPackage_47 rfl (lv_at hl 1 rfl) ?_
        refine lv_iload hx hb dX5_addPackage_48 (lv_at hl 0 rfl) ?_
        refine lv_if_ne (tgt := 57) hx hb dX5_addPackage_50 (by decide) (fun c_50 => ?_) (fun c_50 => ?_)
        · exact absurd c_50 (by decide)
        · refine lv_iconst (v := nI 1) hx hb dX5_addPackage_53 (by decide) ?_
          refine lv_goto (tgt := 71) hx hb dX5_addPackage_54 (by decide) ?_
          refine zmci (va_runV (As := [.int (nI 1)]) (rest := []) ⟨hx, hb, hml, hown, hts⟩ (m_holds l D ca sa hm ad th td nt np nc M 1 (by decide) _) (cwV 1 hts gX5_addPackage_X5_holds rfl rfl rfl (by decide +kernel) ⟨Nat.le_of_ble_eq_true rfl, Nat.le_of_ble_eq_true rfl⟩) (zmV hP hD hE (ci := 5) rfl (q0 := 0) rfl) rfl rfl hl.1 rfl (lv_room (Nat.le_of_ble_eq_true rfl)) dX5_addPackage_71 ⟨Nat.le_of_ble_eq_true rfl, Nat.le_of_ble_eq_true rfl⟩) hD rfl hS hA (fun r9 H locs er hP hD hS => ?_)
          subst er
          refine zasi (show bI (decide (1 = 0)) = nI 0 from rfl) ?_
          refine lv_if_ne (tgt := 79) hx hb dX5_addPackage_74 (by decide) (fun c_74 => ?_) (fun c_74 => ?_)
          · exact absurd c_74 (by decide)
          · refine lv_iconst (v := nI 0) hx hb dX5_addPackage_77 (by decide) ?_
            exact zmri hx hb hr hlocks dX5_addPackage_78 hP hS (trivial)
      · have e_27 := bI_ne0 c_27
        refine lv_iload hx hb dX5_addPackage_30 (lv_at hl 4 rfl) ?_
        refine lv_iconst (v := nI 0) hx hb dX5_addPackage_32 (by decide) ?_
        refine lv_iconst (v := nI 1) hx hb dX5_addPackage_33 (by decide) ?_
        refine zci (va_runS (As := [.int k, .int (nI 0), .int (nI 1)]) (rest := []) ⟨hx, hb, hml, hown, hts⟩ (m_isB l D ca sa _ _ _ _) (va_cwS 3 hts gX5_addPackage_X5_isBetween rfl rfl rfl (by decide +kernel) ⟨Nat.le_of_ble_eq_true rfl, Nat.le_of_ble_eq_true rfl⟩) (zpS hP hE) rfl rfl hl.1 rfl (lv_room (Nat.le_of_ble_eq_true rfl)) dX5_addPackage_34 ⟨Nat.le_of_ble_eq_true rfl, Nat.le_of_ble_eq_true rfl⟩) ?_
        refine lv_if_eq (tgt := 44) hx hb dX5_addPackage_37 (by decide) (fun c_37 => ?_) (fun c_37 => ?_)
        · have e_37 := bI_eq0 c_37
          refine lv_iconst (v := nI 0) hx hb dX5_addPackage_44 (by decide) ?_
          refine lv_istore (lv' := [(5, .int (nI 0)), (0, .ref hm), (1, .int a), (2, .int b), (3, .int g), (4, .int k)]) hx hb dX5_addPackage_45 hl (by decide) rfl (fun ls hl => ?_)
          refine lv_aload_n hx hb dX5_addPackage_47 rfl (lv_at hl 1 rfl) ?_
          refine lv_iload hx hb dX5_addPackage_48 (lv_at hl 0 rfl) ?_
          refine lv_if_ne (tgt := 57) hx hb dX5_addPackage_50 (by decide) (fun c_50 => ?_) (fun c_50 => ?_)
          · exact absurd c_50 (by decide)
          · refine lv_iconst (v := nI 1) hx hb dX5_addPackage_53 (by decide) ?_
            refine lv_goto (tgt := 71) hx hb dX5_addPackage_54 (by decide) ?_
            refine zmci (va_runV (As := [.int (nI 1)]) (rest := []) ⟨hx, hb, hml, hown, hts⟩ (m_holds l D ca sa hm ad th td nt np nc M 1 (by decide) _) (cwV 1 hts gX5_addPackage_X5_holds rfl rfl rfl (by decide +kernel) ⟨Nat.le_of_ble_eq_true rfl, Nat.le_of_ble_eq_true rfl⟩) (zmV hP hD hE (ci := 5) rfl (q0 := 0) rfl) rfl rfl hl.1 rfl (lv_room (Nat.le_of_ble_eq_true rfl)) dX5_addPackage_71 ⟨Nat.le_of_ble_eq_true rfl, Nat.le_of_ble_eq_true rfl⟩) hD rfl hS hA (fun r9 H locs er hP hD hS => ?_)
            subst er
            refine zasi (show bI (decide (1 = 0)) = nI 0 from rfl) ?_
            refine lv_if_ne (tgt := 79) hx hb dX5_addPackage_74 (by decide) (fun c_74 => ?_) (fun c_74 => ?_)
            · exact absurd c_74 (by decide)
            · refine lv_iconst (v := nI 0) hx hb dX5_addPackage_77 (by decide) ?_
              exact zmri hx hb hr hlocks dX5_addPackage_78 hP hS (trivial)
        · have e_37 := bI_ne0 c_37
          refine lv_iconst (v := nI 1) hx hb dX5_addPackage_40 (by decide) ?_
          refine lv_goto (tgt := 45) hx hb dX5_addPackage_41 (by decide) ?_
          refine lv_istore (lv' := [(5, .int (nI 1)), (0, .ref hm), (1, .int a), (2, .int b), (3, .int g), (4, .int k)]) hx hb dX5_addPackage_45 hl (by decide) rfl (fun ls hl => ?_)
          refine lv_aload_n hx hb dX5_addPackage_47 rfl (lv_at hl 1 rfl) ?_
          refine lv_iload hx hb dX5_addPackage_48 (lv_at hl 0 rfl) ?_
          refine lv_if_ne (tgt := 57) hx hb dX5_addPackage_50 (by decide) (fun c_50 => ?_) (fun c_50 => ?_)
          · refine lv_aload_n hx hb dX5_addPackage_57 rfl (lv_at hl 1 rfl) ?_
            refine zmget (own := RX5) (ci := 5) (C := RX5) (T := TX5) (N := 18) hx hb hts (by decide +kernel) hown hE hP 0 rfl rfl 3 (by decide) (hts (.fieldLink RX5 57 "LinkResolverModel" "packages" "I") (by decide +kernel)) rfl dX5_addPackage_58 ?_
            refine lv_bipush (v := nI 10) hx hb dX5_addPackage_61 (by decide) ?_
            refine lv_icmp_ne (tgt := 70) hx hb dX5_addPackage_63 (by decide) (fun c_63 => ?_) (fun c_63 => ?_)
            · refine lv_iconst (v := nI 0) hx hb dX5_addPackage_70 (by decide) ?_
              exact absurd hbad (by simp [e_8, e_17, e_27, e_37])
            · refine lv_iconst (v := nI 2) hx hb dX5_addPackage_66 (by decide) ?_
              refine lv_goto (tgt := 71) hx hb dX5_addPackage_67 (by decide) ?_
              exact absurd hbad (by simp [e_8, e_17, e_27, e_37])
          · exact absurd c_50 (by decide)

set_option maxHeartbeats 4000000 in
set_option maxRecDepth 100000 in
theorem m_addPackage_2 (l : Launch) (D : va_G) (ca : Nat → ClassId) (sa : Nat → Nat) (hm : Nat) (ad : Nat → Nat) (th : Int32) (td nt np nc : Nat) (M : Nat → Nat → Int32) (a b g k : Int32) (hok : (iB a (nI 0) (nI 1000) && (iB b (nI 0) (nI 2) && (iB g (nI 0) (nI 15) && iB k (nI 0) (nI 1)))) = true) (hnp : np = 10) (sz : Nat) : Met l yX5_addPackage wsX5_addPackage ({ frames := 9, cells := 0, slots := 0, locals := 360 }) (va_Pc [.ref hm, .int a, .int b, .int g, .int k] (zMp D (mW hm ad ca th td nt np nc M) ca sa sz)) (va_Qi (fun (r : Int32) (_ : Unit) => True) (fun _ t9 => va_P D vwCl (mW hm ad ca (nI 2) td nt np nc M) t9.heap) (va_A (mW hm ad ca th td nt np nc M) sz)) 0 0 (va_A (mW hm ad ca th td nt np nc M) sz) := by
  refine Met.ofW (cc := cX5_addPackage) (maxL := 6) (ret := (some .int)) (by decide) rfl ?_
  intro p e s m args below meth c s₁ B hml hv
  obtain ⟨rfl, hsz, hP, hD0, hE⟩ := hv
  have hx := B.exec
  have hb := B.bytes
  have hr := B.returns
  have hts := atoms_spec (ws := wsX5_addPackage) B.pre
  have hown : s.vm.findClass RX5 = some m.cls := findClass_of_methodNamed B.named
  have hlocks := B.notSynchronized
  have hl := lv_entry ([.ref hm, .int a, .int b, .int g, .int k]) (n := 6) (Nat.le_of_ble_eq_true rfl)
  rw [lg_entry_eq]
  generalize (lg_sl ([.ref hm, .int a, .int b, .int g, .int k]) ++ List.replicate (6 - (lg_sl ([.ref hm, .int a, .int b, .int g, .int k])).length) Slot.unset).toArray = ls at hl ⊢
  have hl : lv_has ls 6 [(0, .ref hm), (1, .int a), (2, .int b), (3, .int g), (4, .int k)] := hl
  subst hsz
  have hD := hD0.self (sz := s.heap.size)
  generalize hAe : va_A (mW hm ad ca th td nt np nc M) s.heap.size = A at hD ⊢
  have hA : ∀ q : Nat, s.heap.size ≤ q → A q := fun q h => by rw [← hAe]; exact Or.inr h
  have hS : va_S A s.heap s.heap [] := va_S.rf
  refine lv_iload_n hx hb dX5_addPackage_0 rfl (lv_at hl 1 rfl) ?_
  refine lv_iconst (v := nI 0) hx hb dX5_addPackage_1 (by decide) ?_
  refine lv_sipush (v := nI 1000) hx hb dX5_addPackage_2 (by decide) ?_
  refine zci (va_runS (As := [.int a, .int (nI 0), .int (nI 1000)]) (rest := []) ⟨hx, hb, hml, hown, hts⟩ (m_isB l D ca sa _ _ _ _) (va_cwS 3 hts gX5_addPackage_X5_isBetween rfl rfl rfl (by decide +kernel) ⟨Nat.le_of_ble_eq_true rfl, Nat.le_of_ble_eq_true rfl⟩) (zpS hP hE) rfl rfl hl.1 rfl (lv_room (Nat.le_of_ble_eq_true rfl)) dX5_addPackage_5 ⟨Nat.le_of_ble_eq_true rfl, Nat.le_of_ble_eq_true rfl⟩) ?_
  refine lv_if_eq (tgt := 44) hx hb dX5_addPackage_8 (by decide) (fun c_8 => ?_) (fun c_8 => ?_)
  · have e_8 := bI_eq0 c_8
    refine lv_iconst (v := nI 0) hx hb dX5_addPackage_44 (by decide) ?_
    refine lv_istore (lv' := [(5, .int (nI 0)), (0, .ref hm), (1, .int a), (2, .int b), (3, .int g), (4, .int k)]) hx hb dX5_addPackage_45 hl (by decide) rfl (fun ls hl => ?_)
    refine lv_aload_n hx hb dX5_addPackage_47 rfl (lv_at hl 1 rfl) ?_
    refine lv_iload hx hb dX5_addPackage_48 (lv_at hl 0 rfl) ?_
    refine lv_if_ne (tgt := 57) hx hb dX5_addPackage_50 (by decide) (fun c_50 => ?_) (fun c_50 => ?_)
    · exact absurd c_50 (by decide)
    · refine lv_iconst (v := nI 1) hx hb dX5_addPackage_53 (by decide) ?_
      refine lv_goto (tgt := 71) hx hb dX5_addPackage_54 (by decide) ?_
      exact absurd hok (by simp [e_8])
  · have e_8 := bI_ne0 c_8
    refine lv_iload_n hx hb dX5_addPackage_11 rfl (lv_at hl 2 rfl) ?_
    refine lv_iconst (v := nI 0) hx hb dX5_addPackage_12 (by decide) ?_
    refine lv_iconst (v := nI 2) hx hb dX5_addPackage_13 (by decide) ?_
    refine zci (va_runS (As := [.int b, .int (nI 0), .int (nI 2)]) (rest := []) ⟨hx, hb, hml, hown, hts⟩ (m_isB l D ca sa _ _ _ _) (va_cwS 3 hts gX5_addPackage_X5_isBetween rfl rfl rfl (by decide +kernel) ⟨Nat.le_of_ble_eq_true rfl, Nat.le_of_ble_eq_true rfl⟩) (zpS hP hE) rfl rfl hl.1 rfl (lv_room (Nat.le_of_ble_eq_true rfl)) dX5_addPackage_14 ⟨Nat.le_of_ble_eq_true rfl, Nat.le_of_ble_eq_true rfl⟩) ?_
    refine lv_if_eq (tgt := 44) hx hb dX5_addPackage_17 (by decide) (fun c_17 => ?_) (fun c_17 => ?_)
    · have e_17 := bI_eq0 c_17
      refine lv_iconst (v := nI 0) hx hb dX5_addPackage_44 (by decide) ?_
      refine lv_istore (lv' := [(5, .int (nI 0)), (0, .ref hm), (1, .int a), (2, .int b), (3, .int g), (4, .int k)]) hx hb dX5_addPackage_45 hl (by decide) rfl (fun ls hl => ?_)
      refine lv_aload_n hx hb dX5_addPackage_47 rfl (lv_at hl 1 rfl) ?_
      refine lv_iload hx hb dX5_addPackage_48 (lv_at hl 0 rfl) ?_
      refine lv_if_ne (tgt := 57) hx hb dX5_addPackage_50 (by decide) (fun c_50 => ?_) (fun c_50 => ?_)
      · exact absurd c_50 (by decide)
      · refine lv_iconst (v := nI 1) hx hb dX5_addPackage_53 (by decide) ?_
        refine lv_goto (tgt := 71) hx hb dX5_addPackage_54 (by decide) ?_
        exact absurd hok (by simp [e_8, e_17])
    · have e_17 := bI_ne0 c_17
      refine lv_iload_n hx hb dX5_addPackage_20 rfl (lv_at hl 3 rfl) ?_
      refine lv_iconst (v := nI 0) hx hb dX5_addPackage_21 (by decide) ?_
      refine lv_bipush (v := nI 15) hx hb dX5_addPackage_22 (by decide) ?_
      refine zci (va_runS (As := [.int g, .int (nI 0), .int (nI 15)]) (rest := []) ⟨hx, hb, hml, hown, hts⟩ (m_isB l D ca sa _ _ _ _) (va_cwS 3 hts gX5_addPackage_X5_isBetween rfl rfl rfl (by decide +kernel) ⟨Nat.le_of_ble_eq_true rfl, Nat.le_of_ble_eq_true rfl⟩) (zpS hP hE) rfl rfl hl.1 rfl (lv_room (Nat.le_of_ble_eq_true rfl)) dX5_addPackage_24 ⟨Nat.le_of_ble_eq_true rfl, Nat.le_of_ble_eq_true rfl⟩) ?_
      refine lv_if_eq (tgt := 44) hx hb dX5_addPackage_27 (by decide) (fun c_27 => ?_) (fun c_27 => ?_)
      · have e_27 := bI_eq0 c_27
        refine lv_iconst (v := nI 0) hx hb dX5_addPackage_44 (by decide) ?_
        refine lv_istore (lv' := [(5, .int (nI 0)), (0, .ref hm), (1, .int a), (2, .int b), (3, .int g), (4, .int k)]) hx hb dX5_addPackage_45 hl (by decide) rfl (fun ls hl => ?_)
        refine lv_aload_n hx hb dX5_addPackage_47 rfl (lv_at hl 1 rfl) ?_
        refine lv_iload hx hb dX5_addPackage_48 (lv_at hl 0 rfl) ?_
        refine lv_if_ne (tgt := 57) hx hb dX5_addPackage_50 (by decide) (fun c_50 => ?_) (fun c_50 => ?_)
        · exact absurd c_50 (by decide)
        · refine lv_iconst (v := nI 1) hx hb dX5_addPackage_53 (by decide) ?_
          refine lv_goto (tgt := 71) hx hb dX5_addPackage_54 (by decide) ?_
          exact absurd hok (by simp [e_8, e_17, e_27])
      · have e_27 := bI_ne0 c_27
        refine lv_iload hx hb dX5_addPackage_30 (lv_at hl 4 rfl) ?_
        refine lv_iconst (v := nI 0) hx hb dX5_addPackage_32 (by decide) ?_
        refine lv_iconst (v := nI 1) hx hb dX5_addPackage_33 (by decide) ?_
        refine zci (va_runS (As := [.int k, .int (nI 0), .int (nI 1)]) (rest := []) ⟨hx, hb, hml, hown, hts⟩ (m_isB l D ca sa _ _ _ _) (va_cwS 3 hts gX5_addPackage_X5_isBetween rfl rfl rfl (by decide +kernel) ⟨Nat.le_of_ble_eq_true rfl, Nat.le_of_ble_eq_true rfl⟩) (zpS hP hE) rfl rfl hl.1 rfl (lv_room (Nat.le_of_ble_eq_true rfl)) dX5_addPackage_34 ⟨Nat.le_of_ble_eq_true rfl, Nat.le_of_ble_eq_true rfl⟩) ?_
        refine lv_if_eq (tgt := 44) hx hb dX5_addPackage_37 (by decide) (fun c_37 => ?_) (fun c_37 => ?_)
        · have e_37 := bI_eq0 c_37
          refine lv_iconst (v := nI 0) hx hb dX5_addPackage_44 (by decide) ?_
          refine lv_istore (lv' := [(5, .int (nI 0)), (0, .ref hm), (1, .int a), (2, .int b), (3, .int g), (4, .int k)]) hx hb dX5_addPackage_45 hl (by decide) rfl (fun ls hl => ?_)
          refine lv_aload_n hx hb dX5_addPackage_47 rfl (lv_at hl 1 rfl) ?_
          refine lv_iload hx hb dX5_addPackage_48 (lv_at hl 0 rfl) ?_
          refine lv_if_ne (tgt := 57) hx hb dX5_addPackage_50 (by decide) (fun c_50 => ?_) (fun c_50 => ?_)
          · exact absurd c_50 (by decide)
          · refine lv_iconst (v := nI 1) hx hb dX5_addPackage_53 (by decide) ?_
            refine lv_goto (tgt := 71) hx hb dX5_addPackage_54 (by decide) ?_
            exact absurd hok (by simp [e_8, e_17, e_27, e_37])
        · have e_37 := bI_ne0 c_37
          refine lv_iconst (v := nI 1) hx hb dX5_addPackage_40 (by decide) ?_
          refine lv_goto (tgt := 45) hx hb dX5_addPackage_41 (by decide) ?_
          refine lv_istore (lv' := [(5, .int (nI 1)), (0, .ref hm), (1, .int a), (2, .int b), (3, .int g), (4, .int k)]) hx hb dX5_addPackage_45 hl (by decide) rfl (fun ls hl => ?_)
          refine lv_aload_n hx hb dX5_addPackage_47 rfl (lv_at hl 1 rfl) ?_
          refine lv_iload hx hb dX5_addPackage_48 (lv_at hl 0 rfl) ?_
          refine lv_if_ne (tgt := 57) hx hb dX5_addPackage_50 (by decide) (fun c_50 => ?_) (fun c_50 => ?_)
          · refine lv_aload_n hx hb dX5_addPackage_57 rfl (lv_at hl 1 rfl) ?_
            refine zmget (own := RX5) (ci := 5) (C := RX5) (T := TX5) (N := 18) hx hb hts (by decide +kernel) hown hE hP 0 rfl rfl 3 (by decide) (hts (.fieldLink RX5 57 "LinkResolverModel" "packages" "I") (by decide +kernel)) rfl dX5_addPackage_58 ?_
            refine lv_bipush (v := nI 10) hx hb dX5_addPackage_61 (by decide) ?_
            refine lv_icmp_ne (tgt := 70) hx hb dX5_addPackage_63 (by decide) (fun c_63 => ?_) (fun c_63 => ?_)
            · exact absurd (by rw [hnp]) c_63
            · refine lv_iconst (v := nI 2) hx hb dX5_addPackage_66 (by decide) ?_
              refine lv_goto (tgt := 71) hx hb dX5_addPackage_67 (by decide) ?_
              refine zmci (va_runV (As := [.int (nI 2)]) (rest := []) ⟨hx, hb, hml, hown, hts⟩ (m_holds l D ca sa hm ad th td nt np nc M 2 (by decide) _) (cwV 1 hts gX5_addPackage_X5_holds rfl rfl rfl (by decide +kernel) ⟨Nat.le_of_ble_eq_true rfl, Nat.le_of_ble_eq_true rfl⟩) (zmV hP hD hE (ci := 5) rfl (q0 := 0) rfl) rfl rfl hl.1 rfl (lv_room (Nat.le_of_ble_eq_true rfl)) dX5_addPackage_71 ⟨Nat.le_of_ble_eq_true rfl, Nat.le_of_ble_eq_true rfl⟩) hD rfl hS hA (fun r9 H locs er hP hD hS => ?_)
              subst er
              refine zasi (show bI (decide (2 = 0)) = nI 0 from rfl) ?_
              refine lv_if_ne (tgt := 79) hx hb dX5_addPackage_74 (by decide) (fun c_74 => ?_) (fun c_74 => ?_)
              · exact absurd c_74 (by decide)
              · refine lv_iconst (v := nI 0) hx hb dX5_addPackage_77 (by decide) ?_
                exact zmri hx hb hr hlocks dX5_addPackage_78 hP hS (trivial)
          · exact absurd c_50 (by decide)

set_option maxHeartbeats 4000000 in
set_option maxRecDepth 100000 in
theorem m_pass (l : Launch) (D : va_G) (ca : Nat → ClassId) (sa : Nat → Nat) (hm : Nat) (ad : Nat → Nat) (th : Int32) (td nt np nc : Nat) (M : Nat → Nat → Int32) (d : Nat) (h1 : 1 ≤ d) (h2 : d ≤ 20000) (h3 : td + d ≤ 20000) (sz : Nat) : Met l yX5_pass wsX5_pass ({ frames := 9, cells := 0, slots := 0, locals := 360 }) (va_Pc [.ref hm, .int (nI d)] (zMp D (mW hm ad ca th td nt np nc M) ca sa sz)) (va_Qi (fun (r : Int32) (_ : Unit) => r = nI (td + d)) (fun _ t9 => va_P D vwCl (mW hm ad ca (nI 0) (td + d) nt np nc M) t9.heap) (va_A (mW hm ad ca th td nt np nc M) sz)) 0 0 (va_A (mW hm ad ca th td nt np nc M) sz) := by
  refine Met.ofW (cc := cX5_pass) (maxL := 2) (ret := (some .int)) (by decide) rfl ?_
  intro p e s m args below meth c s₁ B hml hv
  obtain ⟨rfl, hsz, hP, hD0, hE⟩ := hv
  have hx := B.exec
  have hb := B.bytes
  have hr := B.returns
  have hts := atoms_spec (ws := wsX5_pass) B.pre
  have hown : s.vm.findClass RX5 = some m.cls := findClass_of_methodNamed B.named
  have hlocks := B.notSynchronized
  have hl := lv_entry ([.ref hm, .int (nI d)]) (n := 2) (Nat.le_of_ble_eq_true rfl)
  rw [lg_entry_eq]
  generalize (lg_sl ([.ref hm, .int (nI d)]) ++ List.replicate (2 - (lg_sl ([.ref hm, .int (nI d)])).length) Slot.unset).toArray = ls at hl ⊢
  have hl : lv_has ls 2 [(0, .ref hm), (1, .int (nI d))] := hl
  subst hsz
  have hD := hD0.self (sz := s.heap.size)
  generalize hAe : va_A (mW hm ad ca th td nt np nc M) s.heap.size = A at hD ⊢
  have hA : ∀ q : Nat, s.heap.size ≤ q → A q := fun q h => by rw [← hAe]; exact Or.inr h
  have hS : va_S A s.heap s.heap [] := va_S.rf
  refine lv_aload_n hx hb dX5_pass_0 rfl (lv_at hl 0 rfl) ?_
  refine lv_iload_n hx hb dX5_pass_1 rfl (lv_at hl 1 rfl) ?_
  refine lv_iconst (v := nI 1) hx hb dX5_pass_2 (by decide) ?_
  refine lv_sipush (v := nI 20000) hx hb dX5_pass_3 (by decide) ?_
  refine zci (va_runS (As := [.int (nI d), .int (nI 1), .int (nI 20000)]) (rest := [.ref hm]) ⟨hx, hb, hml, hown, hts⟩ (m_isB l D ca sa _ _ _ _) (va_cwS 3 hts gX5_pass_X5_isBetween rfl rfl rfl (by decide +kernel) ⟨Nat.le_of_ble_eq_true rfl, Nat.le_of_ble_eq_true rfl⟩) (zpS hP hE) rfl rfl hl.1 rfl (lv_room (Nat.le_of_ble_eq_true rfl)) dX5_pass_6 ⟨Nat.le_of_ble_eq_true rfl, Nat.le_of_ble_eq_true rfl⟩) ?_
  refine zasi (show (bI (iB ((nI d)) ((nI 1)) ((nI 20000)))) = nI 1 from by rw [iB_t h1 h2 (by decide)]; rfl) ?_
  refine lv_if_ne (tgt := 16) hx hb dX5_pass_9 (by decide) (fun c_9 => ?_) (fun c_9 => ?_)
  · refine lv_aload_n hx hb dX5_pass_16 rfl (lv_at hl 0 rfl) ?_
    refine zmget (own := RX5) (ci := 5) (C := RX5) (T := TX5) (N := 18) hx hb hts (by decide +kernel) hown hE hP 0 rfl rfl 1 (by decide) (hts (.fieldLink RX5 78 "LinkResolverModel" "today" "I") (by decide +kernel)) rfl dX5_pass_17 ?_
    refine lv_iload_n hx hb dX5_pass_20 rfl (lv_at hl 1 rfl) ?_
    refine lv_iadd hx hb dX5_pass_21 ?_
    refine zasi (show ((nI td) + (nI d)) = nI (td + d) from nI_add _ _) ?_
    refine lv_sipush (v := nI 20000) hx hb dX5_pass_22 (by decide) ?_
    refine lv_icmp_le (tgt := 32) hx hb dX5_pass_25 (by decide) (fun c_25 => ?_) (fun c_25 => ?_)
    · refine lv_iconst (v := nI 0) hx hb dX5_pass_32 (by decide) ?_
      refine zmci (va_runV (As := [.int (nI 0)]) (rest := []) ⟨hx, hb, hml, hown, hts⟩ (m_holds l D ca sa hm ad th td nt np nc M 0 (by decide) _) (cwV 1 hts gX5_pass_X5_holds rfl rfl rfl (by decide +kernel) ⟨Nat.le_of_ble_eq_true rfl, Nat.le_of_ble_eq_true rfl⟩) (zmV hP hD hE (ci := 5) rfl (q0 := 0) rfl) rfl rfl hl.1 rfl (lv_room (Nat.le_of_ble_eq_true rfl)) dX5_pass_33 ⟨Nat.le_of_ble_eq_true rfl, Nat.le_of_ble_eq_true rfl⟩) hD rfl hS hA (fun r9 H locs er hP hD hS => ?_)
      subst er
      refine zasi (show bI (decide (0 = 0)) = nI 1 from rfl) ?_
      refine lv_if_ne (tgt := 41) hx hb dX5_pass_36 (by decide) (fun c_36 => ?_) (fun c_36 => ?_)
      · refine lv_aload_n hx hb dX5_pass_41 rfl (lv_at hl 0 rfl) ?_
        refine lv_dup hx hb dX5_pass_42 rfl ?_
        refine zmget (own := RX5) (ci := 5) (C := RX5) (T := TX5) (N := 18) hx hb hts (by decide +kernel) hown hE hP 0 rfl rfl 1 (by decide) (hts (.fieldLink RX5 78 "LinkResolverModel" "today" "I") (by decide +kernel)) rfl dX5_pass_43 ?_
        refine lv_iload_n hx hb dX5_pass_46 rfl (lv_at hl 1 rfl) ?_
        refine lv_iadd hx hb dX5_pass_47 ?_
        refine zasi (show ((nI td) + (nI d)) = nI (td + d) from nI_add _ _) ?_
        refine va_put (own := RX5) (ci := 5) (v := .int (nI (td + d))) (ty := .int) (C := RX5) (T := TX5) (N := 18) hx hb hts (by decide +kernel) tyX5 tyX5_ok nmX5 hown hE.1 hP hD hS 0 rfl rfl 1 (by decide) (hts (.fieldLink RX5 78 "LinkResolverModel" "today" "I") (by decide +kernel)) (fun _ h9 => h9) rfl (by decide +kernel) rfl rfl (Nat.le_of_ble_eq_true rfl) dX5_pass_48 (fun H locs hP hD hS => ?_)
        have hP : va_P D vwCl (mW hm ad ca (nI 0) (td + d) nt np nc M) H := hP
        have hD : va_D A (mW hm ad ca (nI 0) (td + d) nt np nc M) := hD
        refine lv_aload_n hx hb dX5_pass_51 rfl (lv_at hl 0 rfl) ?_
        refine zmget (own := RX5) (ci := 5) (C := RX5) (T := TX5) (N := 18) hx hb hts (by decide +kernel) hown hE hP 0 rfl rfl 1 (by decide) (hts (.fieldLink RX5 78 "LinkResolverModel" "today" "I") (by decide +kernel)) rfl dX5_pass_52 ?_
        exact zmri hx hb hr hlocks dX5_pass_55 hP hS (rfl)
      · exact absurd c_36 (by decide)
    · exact absurd ((nI_leI (by omega) (by omega)).mpr h3) c_25
  · exact absurd c_9 (by decide)

set_option maxHeartbeats 4000000 in
set_option maxRecDepth 100000 in
theorem m_pass_1 (l : Launch) (D : va_G) (ca : Nat → ClassId) (sa : Nat → Nat) (hm : Nat) (ad : Nat → Nat) (th : Int32) (td nt np nc : Nat) (M : Nat → Nat → Int32) (d : Int32) (hbad : iB d (nI 1) (nI 20000) = false) (sz : Nat) : Met l yX5_pass wsX5_pass ({ frames := 9, cells := 0, slots := 0, locals := 360 }) (va_Pc [.ref hm, .int d] (zMp D (mW hm ad ca th td nt np nc M) ca sa sz)) (va_Qi (fun (r : Int32) (_ : Unit) => True) (fun _ t9 => va_P D vwCl (mW hm ad ca (nI 1) td nt np nc M) t9.heap) (va_A (mW hm ad ca th td nt np nc M) sz)) 0 0 (va_A (mW hm ad ca th td nt np nc M) sz) := by
  refine Met.ofW (cc := cX5_pass) (maxL := 2) (ret := (some .int)) (by decide) rfl ?_
  intro p e s m args below meth c s₁ B hml hv
  obtain ⟨rfl, hsz, hP, hD0, hE⟩ := hv
  have hx := B.exec
  have hb := B.bytes
  have hr := B.returns
  have hts := atoms_spec (ws := wsX5_pass) B.pre
  have hown : s.vm.findClass RX5 = some m.cls := findClass_of_methodNamed B.named
  have hlocks := B.notSynchronized
  have hl := lv_entry ([.ref hm, .int d]) (n := 2) (Nat.le_of_ble_eq_true rfl)
  rw [lg_entry_eq]
  generalize (lg_sl ([.ref hm, .int d]) ++ List.replicate (2 - (lg_sl ([.ref hm, .int d])).length) Slot.unset).toArray = ls at hl ⊢
  have hl : lv_has ls 2 [(0, .ref hm), (1, .int d)] := hl
  subst hsz
  have hD := hD0.self (sz := s.heap.size)
  generalize hAe : va_A (mW hm ad ca th td nt np nc M) s.heap.size = A at hD ⊢
  have hA : ∀ q : Nat, s.heap.size ≤ q → A q := fun q h => by rw [← hAe]; exact Or.inr h
  have hS : va_S A s.heap s.heap [] := va_S.rf
  refine lv_aload_n hx hb dX5_pass_0 rfl (lv_at hl 0 rfl) ?_
  refine lv_iload_n hx hb dX5_pass_1 rfl (lv_at hl 1 rfl) ?_
  refine lv_iconst (v := nI 1) hx hb dX5_pass_2 (by decide) ?_
  refine lv_sipush (v := nI 20000) hx hb dX5_pass_3 (by decide) ?_
  refine zci (va_runS (As := [.int d, .int (nI 1), .int (nI 20000)]) (rest := [.ref hm]) ⟨hx, hb, hml, hown, hts⟩ (m_isB l D ca sa _ _ _ _) (va_cwS 3 hts gX5_pass_X5_isBetween rfl rfl rfl (by decide +kernel) ⟨Nat.le_of_ble_eq_true rfl, Nat.le_of_ble_eq_true rfl⟩) (zpS hP hE) rfl rfl hl.1 rfl (lv_room (Nat.le_of_ble_eq_true rfl)) dX5_pass_6 ⟨Nat.le_of_ble_eq_true rfl, Nat.le_of_ble_eq_true rfl⟩) ?_
  refine zasi (show (bI (iB (d) ((nI 1)) ((nI 20000)))) = nI 0 from by rw [hbad]; rfl) ?_
  refine lv_if_ne (tgt := 16) hx hb dX5_pass_9 (by decide) (fun c_9 => ?_) (fun c_9 => ?_)
  · exact absurd c_9 (by decide)
  · refine lv_iconst (v := nI 1) hx hb dX5_pass_12 (by decide) ?_
    refine lv_goto (tgt := 33) hx hb dX5_pass_13 (by decide) ?_
    refine zmci (va_runV (As := [.int (nI 1)]) (rest := []) ⟨hx, hb, hml, hown, hts⟩ (m_holds l D ca sa hm ad th td nt np nc M 1 (by decide) _) (cwV 1 hts gX5_pass_X5_holds rfl rfl rfl (by decide +kernel) ⟨Nat.le_of_ble_eq_true rfl, Nat.le_of_ble_eq_true rfl⟩) (zmV hP hD hE (ci := 5) rfl (q0 := 0) rfl) rfl rfl hl.1 rfl (lv_room (Nat.le_of_ble_eq_true rfl)) dX5_pass_33 ⟨Nat.le_of_ble_eq_true rfl, Nat.le_of_ble_eq_true rfl⟩) hD rfl hS hA (fun r9 H locs er hP hD hS => ?_)
    subst er
    refine zasi (show bI (decide (1 = 0)) = nI 0 from rfl) ?_
    refine lv_if_ne (tgt := 41) hx hb dX5_pass_36 (by decide) (fun c_36 => ?_) (fun c_36 => ?_)
    · exact absurd c_36 (by decide)
    · refine lv_iconst (v := nI 0) hx hb dX5_pass_39 (by decide) ?_
      exact zmri hx hb hr hlocks dX5_pass_40 hP hS (trivial)

set_option maxHeartbeats 4000000 in
set_option maxRecDepth 100000 in
theorem m_pass_2 (l : Launch) (D : va_G) (ca : Nat → ClassId) (sa : Nat → Nat) (hm : Nat) (ad : Nat → Nat) (th : Int32) (td nt np nc : Nat) (M : Nat → Nat → Int32) (d : Nat) (h1 : 1 ≤ d) (h2 : d ≤ 20000) (htd : td ≤ 20000) (h3 : 20000 < td + d) (sz : Nat) : Met l yX5_pass wsX5_pass ({ frames := 9, cells := 0, slots := 0, locals := 360 }) (va_Pc [.ref hm, .int (nI d)] (zMp D (mW hm ad ca th td nt np nc M) ca sa sz)) (va_Qi (fun (r : Int32) (_ : Unit) => True) (fun _ t9 => va_P D vwCl (mW hm ad ca (nI 2) td nt np nc M) t9.heap) (va_A (mW hm ad ca th td nt np nc M) sz)) 0 0 (va_A (mW hm ad ca th td nt np nc M) sz) := by
  refine Met.ofW (cc := cX5_pass) (maxL := 2) (ret := (some .int)) (by decide) rfl ?_
  intro p e s m args below meth c s₁ B hml hv
  obtain ⟨rfl, hsz, hP, hD0, hE⟩ := hv
  have hx := B.exec
  have hb := B.bytes
  have hr := B.returns
  have hts := atoms_spec (ws := wsX5_pass) B.pre
  have hown : s.vm.findClass RX5 = some m.cls := findClass_of_methodNamed B.named
  have hlocks := B.notSynchronized
  have hl := lv_entry ([.ref hm, .int (nI d)]) (n := 2) (Nat.le_of_ble_eq_true rfl)
  rw [lg_entry_eq]
  generalize (lg_sl ([.ref hm, .int (nI d)]) ++ List.replicate (2 - (lg_sl ([.ref hm, .int (nI d)])).length) Slot.unset).toArray = ls at hl ⊢
  have hl : lv_has ls 2 [(0, .ref hm), (1, .int (nI d))] := hl
  subst hsz
  have hD := hD0.self (sz := s.heap.size)
  generalize hAe : va_A (mW hm ad ca th td nt np nc M) s.heap.size = A at hD ⊢
  have hA : ∀ q : Nat, s.heap.size ≤ q → A q := fun q h => by rw [← hAe]; exact Or.inr h
  have hS : va_S A s.heap s.heap [] := va_S.rf
  refine lv_aload_n hx hb dX5_pass_0 rfl (lv_at hl 0 rfl) ?_
  refine lv_iload_n hx hb dX5_pass_1 rfl (lv_at hl 1 rfl) ?_
  refine lv_iconst (v := nI 1) hx hb dX5_pass_2 (by decide) ?_
  refine lv_sipush (v := nI 20000) hx hb dX5_pass_3 (by decide) ?_
  refine zci (va_runS (As := [.int (nI d), .int (nI 1), .int (nI 20000)]) (rest := [.ref hm]) ⟨hx, hb, hml, hown, hts⟩ (m_isB l D ca sa _ _ _ _) (va_cwS 3 hts gX5_pass_X5_isBetween rfl rfl rfl (by decide +kernel) ⟨Nat.le_of_ble_eq_true rfl, Nat.le_of_ble_eq_true rfl⟩) (zpS hP hE) rfl rfl hl.1 rfl (lv_room (Nat.le_of_ble_eq_true rfl)) dX5_pass_6 ⟨Nat.le_of_ble_eq_true rfl, Nat.le_of_ble_eq_true rfl⟩) ?_
  refine zasi (show (bI (iB ((nI d)) ((nI 1)) ((nI 20000)))) = nI 1 from by rw [iB_t h1 h2 (by decide)]; rfl) ?_
  refine lv_if_ne (tgt := 16) hx hb dX5_pass_9 (by decide) (fun c_9 => ?_) (fun c_9 => ?_)
  · refine lv_aload_n hx hb dX5_pass_16 rfl (lv_at hl 0 rfl) ?_
    refine zmget (own := RX5) (ci := 5) (C := RX5) (T := TX5) (N := 18) hx hb hts (by decide +kernel) hown hE hP 0 rfl rfl 1 (by decide) (hts (.fieldLink RX5 78 "LinkResolverModel" "today" "I") (by decide +kernel)) rfl dX5_pass_17 ?_
    refine lv_iload_n hx hb dX5_pass_20 rfl (lv_at hl 1 rfl) ?_
    refine lv_iadd hx hb dX5_pass_21 ?_
    refine zasi (show ((nI td) + (nI d)) = nI (td + d) from nI_add _ _) ?_
    refine lv_sipush (v := nI 20000) hx hb dX5_pass_22 (by decide) ?_
    refine lv_icmp_le (tgt := 32) hx hb dX5_pass_25 (by decide) (fun c_25 => ?_) (fun c_25 => ?_)
    · exact absurd ((nI_leI (by omega) (by omega)).mp c_25) (by omega)
    · refine lv_iconst (v := nI 2) hx hb dX5_pass_28 (by decide) ?_
      refine lv_goto (tgt := 33) hx hb dX5_pass_29 (by decide) ?_
      refine zmci (va_runV (As := [.int (nI 2)]) (rest := []) ⟨hx, hb, hml, hown, hts⟩ (m_holds l D ca sa hm ad th td nt np nc M 2 (by decide) _) (cwV 1 hts gX5_pass_X5_holds rfl rfl rfl (by decide +kernel) ⟨Nat.le_of_ble_eq_true rfl, Nat.le_of_ble_eq_true rfl⟩) (zmV hP hD hE (ci := 5) rfl (q0 := 0) rfl) rfl rfl hl.1 rfl (lv_room (Nat.le_of_ble_eq_true rfl)) dX5_pass_33 ⟨Nat.le_of_ble_eq_true rfl, Nat.le_of_ble_eq_true rfl⟩) hD rfl hS hA (fun r9 H locs er hP hD hS => ?_)
      subst er
      refine zasi (show bI (decide (2 = 0)) = nI 0 from rfl) ?_
      refine lv_if_ne (tgt := 41) hx hb dX5_pass_36 (by decide) (fun c_36 => ?_) (fun c_36 => ?_)
      · exact absurd c_36 (by decide)
      · refine lv_iconst (v := nI 0) hx hb dX5_pass_39 (by decide) ?_
        exact zmri hx hb hr hlocks dX5_pass_40 hP hS (trivial)
  · exact absurd c_9 (by decide)
