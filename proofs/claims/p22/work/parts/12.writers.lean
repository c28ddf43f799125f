/-! the class's writers: what they leave in the pool -/
def zkd : va_E → Nat
  | .inl _ => 100
  | .inr o => o.1
theorem zat_ne {L : List Nat} {f : Nat → va_E} {a b : Nat} {e e' : va_E} (h : zat L f a e) (h' : zat L f b e') (hk : zkd e ≠ zkd e') : a ≠ b := fun q => hk (by rw [← h.2, ← h'.2, q])
theorem zat_nL {L : List Nat} {f : Nat → va_E} {a q : Nat} {e : va_E} (h : zat L f a e) (hq : q ∉ L) : a ≠ q := fun z => hq (by rw [← z]; exact h.1)
abbrev zU : Type := List Nat × (Nat → va_E)
/-- what a method that writes leaves: the new pool, its cells apart -/
def zPost (D : va_G) (A : Nat → Prop) (u : zU) (t : State) : Prop := va_P D vwCl (va_pl u.1 u.2) t.heap ∧ va_D A (va_pl u.1 u.2)
section ZW
variable {p : Program} {l : Launch} {e : Env} {R : Room} {s : State} {m : MethodId} {args : Array Value} {below : List Frame} {meth : Method} {c : Code} {H : Heap} {locs : List Loc} {cells slots : Nat} {Q : State → Prop}
variable {cc : ByteArray} {pc : Nat} {ls : Array Slot} {rest st0 : List Value} {A : Nat → Prop} {H0 : Heap} {D : va_G} {L L' : List Nat} {f f' : Nat → va_E} {ca : Nat → ClassId} {sa : Nat → Nat} {ar : Array Value} {mc ms : Nat}
theorem zwcv {P : zU → Prop} (hr : va_Run p l e R s m args below meth c H locs cells slots mc ms (F0 m pc ls st0) rest (va_Qv P (zPost D (va_A (va_pl L f) H.size)) (va_A (va_pl L f) H.size) ar) (va_A (va_pl L f) H.size)) (hD : va_D A (va_pl L f)) (hS : va_S A H0 H locs) (hA : ∀ q : Nat, H0.size ≤ q → A q)
    (kk : ∀ (u : zU) (H1 : Heap) (locs1 : List Loc), P u → va_P D vwCl (va_pl u.1 u.2) H1 → va_D A (va_pl u.1 u.2) → va_S A H0 H1 locs1 → W p l e R s m args below meth c H1 locs1 (cells + mc) (slots + ms) Q (F0 m (pc + 3) ls rest)) : W p l e R s m args below meth c H locs cells slots Q (F0 m pc ls st0) := by
  have hF : ∀ q, va_A (va_pl L f) H.size q → A q := fun q h => h.elim (fun ⟨k, e, h1⟩ => hD.2 k (q, e) h1) (fun h => hA q (Nat.le_trans hS.1 h))
  refine va_callv hr hS (fun q _ h => hF q h) hF (fun u t H1 locs1 ht _ hp hb _ _ hS1 => ?_)
  obtain ⟨hb1, hb2⟩ := hb
  rw [ht] at hb1
  exact kk u H1 locs1 hp hb1 (hb2.weaken (fun k q _ h => hF q.1 h)) hS1
theorem zwri {P : Int32 → zU → Prop} {v : Int32} (u : zU) (hexec : p.tables.exec = Jvm.exec) (hb : c.code = cc) (hr : meth.sig.returnType = some .int) (hlocks : meth.locks = false) (hdg : decode cc pc = .ok (.ireturn, 1)) (hP : va_P D vwCl (va_pl u.1 u.2) H) (hD : va_D A (va_pl u.1 u.2)) (hS : va_S A s.heap H locs) (hp : P v u) : W p l e R s m args below meth c H locs cells slots (MQ below (va_Qi P (zPost D A) A) args s cells slots A) (F0 m pc ls [.int v]) :=
  W.iret hexec hb hr (fun t ht _ => ⟨⟨v, u, rfl, hp, by rw [ht]; exact hP, hD⟩, hS.F ht⟩) hS.2.2 hdg hlocks
theorem zwrz {P : Int32 → zU → Prop} {v : Int32} (u : zU) (hexec : p.tables.exec = Jvm.exec) (hb : c.code = cc) (hr : meth.sig.returnType = some .boolean) (hlocks : meth.locks = false) (hdg : decode cc pc = .ok (.ireturn, 1)) (hn : narrow .boolean (.int v) = .int v) (hP : va_P D vwCl (va_pl u.1 u.2) H) (hD : va_D A (va_pl u.1 u.2)) (hS : va_S A s.heap H locs) (hp : P v u) : W p l e R s m args below meth c H locs cells slots (MQ below (va_Qi P (zPost D A) A) args s cells slots A) (F0 m pc ls [.int v]) :=
  W.zret hexec hb hr hn (fun t ht _ => ⟨⟨v, u, rfl, hp, by rw [ht]; exact hP, hD⟩, hS.F ht⟩) hS.2.2 hdg hlocks
theorem zwrv {P : zU → Prop} (u : zU) (hexec : p.tables.exec = Jvm.exec) (hb : c.code = cc) (hr : meth.sig.returnType = none) (hlocks : meth.locks = false) (hdg : decode cc pc = .ok (.return_, 1)) (hP : va_P D vwCl (va_pl u.1 u.2) H) (hD : va_D A (va_pl u.1 u.2)) (hS : va_S A s.heap H locs) (hp : P u) : W p l e R s m args below meth c H locs cells slots (MQ below (va_Qv P (zPost D A) A) args s cells slots A) (F0 m pc ls []) :=
  W.vret hexec hb hr (fun t ht _ => ⟨⟨u, rfl, hp, by rw [ht]; exact hP, hD⟩, hS.F ht⟩) hS.2.2 hdg hlocks
theorem zmVp {b ci : Nat} {q : vw_C} {fs : List Value} {As : List Value} (hP : va_P D vwCl (va_pl L f) H) (hD : va_D A (va_pl L f)) (hE : zE D ca sa s) (hc : vwCl[ci]? = some q) (he : zat L f b (.inr (ci, fs))) : PreV s H q.1 b (va_Pc (.ref b :: As) (zMp D (va_pl L f) ca sa H.size)) As := by
  obtain ⟨k, hk⟩ := zat_get he
  exact zmV hP hD hE hc hk
end ZW
theorem zfits (r : Option Nat) (n : String) : fits (.object n) (va_rf r) = true := by cases r <;> rfl
theorem znarr (r : Option Nat) (n : String) : narrow (.object n) (va_rf r) = va_rf r := by cases r <;> rfl

theorem zmSi {D : va_G} {ws : va_W} {ca : Nat → ClassId} {sa : Nat → Nat} {s : State} {H : Heap} {A : Nat → Prop} {b : Nat} {As : List Value} (hP : va_P D vwCl ws H) (hD : va_D A ws) (hE : zE D ca sa s) : PreS s H (va_Pc (.ref b :: As) (zMp D ws ca sa H.size)) (.ref b :: As) := zmS hP hD hE

set_option maxHeartbeats 4000000 in
set_option maxRecDepth 100000 in
theorem w_Title (l : Launch) (D : va_G) (ca : Nat → ClassId) (sa : Nat → Nat) (L : List Nat) (f : Nat → va_E) (h : Nat) (x y : Int32) (h0 : zat L f h (.inr (3, [.int 0, .int 0]))) (sz : Nat) : Met l yX3_init wsX3_init ({ frames := 2, cells := 0, slots := 0, locals := 80 }) (va_Pc [.ref h, .int x, .int y] (zMp D (va_pl L f) ca sa sz)) (va_Qv (fun (u : zU) => u = (L, va_up f h (.inr (3, [.int x, .int y])))) (zPost D (va_A (va_pl L f) sz)) (va_A (va_pl L f) sz)) 0 0 (va_A (va_pl L f) sz) := by
  refine Met.ofW (cc := cX3_init) (maxL := 3) (ret := none) (by decide) rfl ?_
  intro p e s m args below meth c s₁ B hml hv
  obtain ⟨rfl, hsz, hP, hD0, hE⟩ := hv
  have hx := B.exec
  have hb := B.bytes
  have hr := B.returns
  have hts := atoms_spec (ws := wsX3_init) B.pre
  have hown : s.vm.findClass RX3 = some m.cls := findClass_of_methodNamed B.named
  have hlocks := B.notSynchronized
  have hl := lv_entry ([.ref h, .int x, .int y]) (n := 3) (Nat.le_of_ble_eq_true rfl)
  rw [lg_entry_eq]
  generalize (lg_sl ([.ref h, .int x, .int y]) ++ List.replicate (3 - (lg_sl ([.ref h, .int x, .int y])).length) Slot.unset).toArray = ls at hl ⊢
  have hl : lv_has ls 3 [(0, .ref h), (1, .int x), (2, .int y)] := hl
  have hin : meth.name = "<init>" := (name_of_methodNamed B.named B.method).1
  subst hsz
  have hD := hD0.self (sz := s.heap.size)
  generalize hAe : va_A (va_pl L f) s.heap.size = A at hD ⊢
  have hA : ∀ q : Nat, s.heap.size ≤ q → A q := fun q h => by rw [← hAe]; exact Or.inr h
  have hS : va_S A s.heap s.heap [] := va_S.rf
  refine lv_aload_n hx hb dX3_init_0 rfl (lv_at hl 0 rfl) ?_
  refine W.objInit hx hb hown (hts (.methodLink RX3 1 objectInit) (by decide +kernel)) (hts (.instanceMethod objectInit) (by decide +kernel)) (hts (.code objectInit ⟨#[0xb1]⟩ 1 none) (by decide +kernel)) rfl (by rw [hml]; exact hl.1) rfl dX3_init_1 (Nat.le_of_ble_eq_true rfl) (Nat.le_of_ble_eq_true rfl) ?_
  refine W.eq (g2 := F0 m 4 ls []) rfl ?_
  refine lv_aload_n hx hb dX3_init_4 rfl (lv_at hl 0 rfl) ?_
  refine lv_iload_n hx hb dX3_init_5 rfl (lv_at hl 1 rfl) ?_
  refine zputF (own := RX3) (ci := 3) (v := .int x) (ty := .int) (C := RX3) (T := TX3) (N := 2) hx hb hts (by decide +kernel) tyX3 tyX3_ok nmX3 hown hE hP hD hS h0 rfl 0 (by decide) (hts (.fieldLink RX3 7 "LinkResolver$Title" "firstYear" "I") (by decide +kernel)) rfl hin rfl (by decide +kernel) rfl rfl (Nat.le_of_ble_eq_true rfl) dX3_init_6 (fun H locs hP hD hS => ?_)
  have hP : va_P D vwCl (va_pl L (va_up f h (.inr (3, [.int x, .int 0])))) H := hP
  have hD : va_D A (va_pl L (va_up f h (.inr (3, [.int x, .int 0])))) := hD
  have h0 : zat L (va_up f h (.inr (3, [.int x, .int 0]))) h (.inr (3, [.int x, .int 0])) := zat_self h0.1
  refine lv_aload_n hx hb dX3_init_9 rfl (lv_at hl 0 rfl) ?_
  refine lv_iload_n hx hb dX3_init_10 rfl (lv_at hl 2 rfl) ?_
  refine zputF (own := RX3) (ci := 3) (v := .int y) (ty := .int) (C := RX3) (T := TX3) (N := 2) hx hb hts (by decide +kernel) tyX3 tyX3_ok nmX3 hown hE hP hD hS h0 rfl 1 (by decide) (hts (.fieldLink RX3 13 "LinkResolver$Title" "volumes" "I") (by decide +kernel)) rfl hin rfl (by decide +kernel) rfl rfl (Nat.le_of_ble_eq_true rfl) dX3_init_11 (fun H locs hP hD hS => ?_)
  rw [bx_uu] at hP hD
  have hP : va_P D vwCl (va_pl L (va_up f h (.inr (3, [.int x, .int y])))) H := hP
  have hD : va_D A (va_pl L (va_up f h (.inr (3, [.int x, .int y])))) := hD
  have h0 : zat L (va_up f h (.inr (3, [.int x, .int y]))) h (.inr (3, [.int x, .int y])) := zat_self h0.1
  exact zwrv (L, (va_up f h (.inr (3, [.int x, .int y])))) hx hb hr hlocks dX3_init_14 hP hD hS rfl

set_option maxHeartbeats 4000000 in
set_option maxRecDepth 100000 in
theorem w_Change_n (l : Launch) (D : va_G) (ca : Nat → ClassId) (sa : Nat → Nat) (L : List Nat) (f : Nat → va_E) (h : Nat) (d w : Int32) (y : Int64) (h0 : zat L f h (.inr (0, [.int 0, .long 0, .int 0, .null]))) (sz : Nat) : Met l yX0_init wsX0_init ({ frames := 2, cells := 0, slots := 0, locals := 80 }) (va_Pc [.ref h, .int d, .long y, .int w, .null] (zMp D (va_pl L f) ca sa sz)) (va_Qv (fun (u : zU) => u = (L, va_up f h (.inr (0, [.int d, .long y, .int w, .null])))) (zPost D (va_A (va_pl L f) sz)) (va_A (va_pl L f) sz)) 0 0 (va_A (va_pl L f) sz) := by
  refine Met.ofW (cc := cX0_init) (maxL := 6) (ret := none) (by decide) rfl ?_
  intro p e s m args below meth c s₁ B hml hv
  obtain ⟨rfl, hsz, hP, hD0, hE⟩ := hv
  have hx := B.exec
  have hb := B.bytes
  have hr := B.returns
  have hts := atoms_spec (ws := wsX0_init) B.pre
  have hown : s.vm.findClass RX0 = some m.cls := findClass_of_methodNamed B.named
  have hlocks := B.notSynchronized
  have hl := lv_entry ([.ref h, .int d, .long y, .int w, .null]) (n := 6) (Nat.le_of_ble_eq_true rfl)
  rw [lg_entry_eq]
  generalize (lg_sl ([.ref h, .int d, .long y, .int w, .null]) ++ List.replicate (6 - (lg_sl ([.ref h, .int d, .long y, .int w, .null])).length) Slot.unset).toArray = ls at hl ⊢
  have hl : lv_has ls 6 [(0, .ref h), (1, .int d), (2, .long y), (4, .int w), (5, .null)] := hl
  have hin : meth.name = "<init>" := (name_of_methodNamed B.named B.method).1
  subst hsz
  have hD := hD0.self (sz := s.heap.size)
  generalize hAe : va_A (va_pl L f) s.heap.size = A at hD ⊢
  have hA : ∀ q : Nat, s.heap.size ≤ q → A q := fun q h => by rw [← hAe]; exact Or.inr h
  have hS : va_S A s.heap s.heap [] := va_S.rf
  refine lv_aload_n hx hb dX0_init_0 rfl (lv_at hl 0 rfl) ?_
  refine W.objInit hx hb hown (hts (.methodLink RX0 1 objectInit) (by decide +kernel)) (hts (.instanceMethod objectInit) (by decide +kernel)) (hts (.code objectInit ⟨#[0xb1]⟩ 1 none) (by decide +kernel)) rfl (by rw [hml]; exact hl.1) rfl dX0_init_1 (Nat.le_of_ble_eq_true rfl) (Nat.le_of_ble_eq_true rfl) ?_
  refine W.eq (g2 := F0 m 4 ls []) rfl ?_
  refine lv_aload_n hx hb dX0_init_4 rfl (lv_at hl 0 rfl) ?_
  refine lv_iload_n hx hb dX0_init_5 rfl (lv_at hl 1 rfl) ?_
  refine zputF (own := RX0) (ci := 0) (v := .int d) (ty := .int) (C := RX0) (T := TX0) (N := 4) hx hb hts (by decide +kernel) tyX0 tyX0_ok nmX0 hown hE hP hD hS h0 rfl 0 (by decide) (hts (.fieldLink RX0 7 "LinkResolver$Change" "day" "I") (by decide +kernel)) rfl hin rfl (by decide +kernel) rfl rfl (Nat.le_of_ble_eq_true rfl) dX0_init_6 (fun H locs hP hD hS => ?_)
  have hP : va_P D vwCl (va_pl L (va_up f h (.inr (0, [.int d, .long 0, .int 0, .null])))) H := hP
  have hD : va_D A (va_pl L (va_up f h (.inr (0, [.int d, .long 0, .int 0, .null])))) := hD
  have h0 : zat L (va_up f h (.inr (0, [.int d, .long 0, .int 0, .null]))) h (.inr (0, [.int d, .long 0, .int 0, .null])) := zat_self h0.1
  refine lv_aload_n hx hb dX0_init_9 rfl (lv_at hl 0 rfl) ?_
  refine lv_lload_n hx hb dX0_init_10 rfl (lv_at hl 2 rfl) ?_
  refine zputF (own := RX0) (ci := 0) (v := .long y) (ty := .long) (C := RX0) (T := TX0) (N := 4) hx hb hts (by decide +kernel) tyX0 tyX0_ok nmX0 hown hE hP hD hS h0 rfl 1 (by decide) (hts (.fieldLink RX0 13 "LinkResolver$Change" "years" "J") (by decide +kernel)) rfl hin rfl (by decide +kernel) rfl rfl (Nat.le_of_ble_eq_true rfl) dX0_init_11 (fun H locs hP hD hS => ?_)
  rw [bx_uu] at hP hD
  have hP : va_P D vwCl (va_pl L (va_up f h (.inr (0, [.int d, .long y, .int 0, .null])))) H := hP
  have hD : va_D A (va_pl L (va_up f h (.inr (0, [.int d, .long y, .int 0, .null])))) := hD
  have h0 : zat L (va_up f h (.inr (0, [.int d, .long y, .int 0, .null]))) h (.inr (0, [.int d, .long y, .int 0, .null])) := zat_self h0.1
  refine lv_aload_n hx hb dX0_init_14 rfl (lv_at hl 0 rfl) ?_
  refine lv_iload hx hb dX0_init_15 (lv_at hl 3 rfl) ?_
  refine zputF (own := RX0) (ci := 0) (v := .int w) (ty := .int) (C := RX0) (T := TX0) (N := 4) hx hb hts (by decide +kernel) tyX0 tyX0_ok nmX0 hown hE hP hD hS h0 rfl 2 (by decide) (hts (.fieldLink RX0 17 "LinkResolver$Change" "wall" "I") (by decide +kernel)) rfl hin rfl (by decide +kernel) rfl rfl (Nat.le_of_ble_eq_true rfl) dX0_init_17 (fun H locs hP hD hS => ?_)
  rw [bx_uu] at hP hD
  have hP : va_P D vwCl (va_pl L (va_up f h (.inr (0, [.int d, .long y, .int w, .null])))) H := hP
  have hD : va_D A (va_pl L (va_up f h (.inr (0, [.int d, .long y, .int w, .null])))) := hD
  have h0 : zat L (va_up f h (.inr (0, [.int d, .long y, .int w, .null]))) h (.inr (0, [.int d, .long y, .int w, .null])) := zat_self h0.1
  refine lv_aload_n hx hb dX0_init_20 rfl (lv_at hl 0 rfl) ?_
  refine lv_aloadN hx hb dX0_init_21 (lv_at hl 4 rfl) ?_
  refine zputF (own := RX0) (ci := 0) (v := .null) (ty := (.object "LinkResolver$Change")) (C := RX0) (T := TX0) (N := 4) hx hb hts (by decide +kernel) tyX0 tyX0_ok nmX0 hown hE hP hD hS h0 rfl 3 (by decide) (hts (.fieldLink RX0 20 "LinkResolver$Change" "before" "LLinkResolver$Change;") (by decide +kernel)) rfl hin rfl (by decide +kernel) rfl rfl (Nat.le_of_ble_eq_true rfl) dX0_init_23 (fun H locs hP hD hS => ?_)
  rw [bx_uu] at hP hD
  have hP : va_P D vwCl (va_pl L (va_up f h (.inr (0, [.int d, .long y, .int w, .null])))) H := hP
  have hD : va_D A (va_pl L (va_up f h (.inr (0, [.int d, .long y, .int w, .null])))) := hD
  have h0 : zat L (va_up f h (.inr (0, [.int d, .long y, .int w, .null]))) h (.inr (0, [.int d, .long y, .int w, .null])) := zat_self h0.1
  exact zwrv (L, (va_up f h (.inr (0, [.int d, .long y, .int w, .null])))) hx hb hr hlocks dX0_init_26 hP hD hS rfl

set_option maxHeartbeats 4000000 in
set_option maxRecDepth 100000 in
theorem w_Change_s (l : Launch) (D : va_G) (ca : Nat → ClassId) (sa : Nat → Nat) (L : List Nat) (f : Nat → va_E) (h : Nat) (d w : Int32) (y : Int64) (b9 : Nat) (h0 : zat L f h (.inr (0, [.int 0, .long 0, .int 0, .null]))) (sz : Nat) : Met l yX0_init wsX0_init ({ frames := 2, cells := 0, slots := 0, locals := 80 }) (va_Pc [.ref h, .int d, .long y, .int w, .ref b9] (zMp D (va_pl L f) ca sa sz)) (va_Qv (fun (u : zU) => u = (L, va_up f h (.inr (0, [.int d, .long y, .int w, .ref b9])))) (zPost D (va_A (va_pl L f) sz)) (va_A (va_pl L f) sz)) 0 0 (va_A (va_pl L f) sz) := by
  refine Met.ofW (cc := cX0_init) (maxL := 6) (ret := none) (by decide) rfl ?_
  intro p e s m args below meth c s₁ B hml hv
  obtain ⟨rfl, hsz, hP, hD0, hE⟩ := hv
  have hx := B.exec
  have hb := B.bytes
  have hr := B.returns
  have hts := atoms_spec (ws := wsX0_init) B.pre
  have hown : s.vm.findClass RX0 = some m.cls := findClass_of_methodNamed B.named
  have hlocks := B.notSynchronized
  have hl := lv_entry ([.ref h, .int d, .long y, .int w, .ref b9]) (n := 6) (Nat.le_of_ble_eq_true rfl)
  rw [lg_entry_eq]
  generalize (lg_sl ([.ref h, .int d, .long y, .int w, .ref b9]) ++ List.replicate (6 - (lg_sl ([.ref h, .int d, .long y, .int w, .ref b9])).length) Slot.unset).toArray = ls at hl ⊢
  have hl : lv_has ls 6 [(0, .ref h), (1, .int d), (2, .long y), (4, .int w), (5, .ref b9)] := hl
  have hin : meth.name = "<init>" := (name_of_methodNamed B.named B.method).1
  subst hsz
  have hD := hD0.self (sz := s.heap.size)
  generalize hAe : va_A (va_pl L f) s.heap.size = A at hD ⊢
  have hA : ∀ q : Nat, s.heap.size ≤ q → A q := fun q h => by rw [← hAe]; exact Or.inr h
  have hS : va_S A s.heap s.heap [] := va_S.rf
  refine lv_aload_n hx hb dX0_init_0 rfl (lv_at hl 0 rfl) ?_
  refine W.objInit hx hb hown (hts (.methodLink RX0 1 objectInit) (by decide +kernel)) (hts (.instanceMethod objectInit) (by decide +kernel)) (hts (.code objectInit ⟨#[0xb1]⟩ 1 none) (by decide +kernel)) rfl (by rw [hml]; exact hl.1) rfl dX0_init_1 (Nat.le_of_ble_eq_true rfl) (Nat.le_of_ble_eq_true rfl) ?_
  refine W.eq (g2 := F0 m 4 ls []) rfl ?_
  refine lv_aload_n hx hb dX0_init_4 rfl (lv_at hl 0 rfl) ?_
  refine lv_iload_n hx hb dX0_init_5 rfl (lv_at hl 1 rfl) ?_
  refine zputF (own := RX0) (ci := 0) (v := .int d) (ty := .int) (C := RX0) (T := TX0) (N := 4) hx hb hts (by decide +kernel) tyX0 tyX0_ok nmX0 hown hE hP hD hS h0 rfl 0 (by decide) (hts (.fieldLink RX0 7 "LinkResolver$Change" "day" "I") (by decide +kernel)) rfl hin rfl (by decide +kernel) rfl rfl (Nat.le_of_ble_eq_true rfl) dX0_init_6 (fun H locs hP hD hS => ?_)
  have hP : va_P D vwCl (va_pl L (va_up f h (.inr (0, [.int d, .long 0, .int 0, .null])))) H := hP
  have hD : va_D A (va_pl L (va_up f h (.inr (0, [.int d, .long 0, .int 0, .null])))) := hD
  have h0 : zat L (va_up f h (.inr (0, [.int d, .long 0, .int 0, .null]))) h (.inr (0, [.int d, .long 0, .int 0, .null])) := zat_self h0.1
  refine lv_aload_n hx hb dX0_init_9 rfl (lv_at hl 0 rfl) ?_
  refine lv_lload_n hx hb dX0_init_10 rfl (lv_at hl 2 rfl) ?_
  refine zputF (own := RX0) (ci := 0) (v := .long y) (ty := .long) (C := RX0) (T := TX0) (N := 4) hx hb hts (by decide +kernel) tyX0 tyX0_ok nmX0 hown hE hP hD hS h0 rfl 1 (by decide) (hts (.fieldLink RX0 13 "LinkResolver$Change" "years" "J") (by decide +kernel)) rfl hin rfl (by decide +kernel) rfl rfl (Nat.le_of_ble_eq_true rfl) dX0_init_11 (fun H locs hP hD hS => ?_)
  rw [bx_uu] at hP hD
  have hP : va_P D vwCl (va_pl L (va_up f h (.inr (0, [.int d, .long y, .int 0, .null])))) H := hP
  have hD : va_D A (va_pl L (va_up f h (.inr (0, [.int d, .long y, .int 0, .null])))) := hD
  have h0 : zat L (va_up f h (.inr (0, [.int d, .long y, .int 0, .null]))) h (.inr (0, [.int d, .long y, .int 0, .null])) := zat_self h0.1
  refine lv_aload_n hx hb dX0_init_14 rfl (lv_at hl 0 rfl) ?_
  refine lv_iload hx hb dX0_init_15 (lv_at hl 3 rfl) ?_
  refine zputF (own := RX0) (ci := 0) (v := .int w) (ty := .int) (C := RX0) (T := TX0) (N := 4) hx hb hts (by decide +kernel) tyX0 tyX0_ok nmX0 hown hE hP hD hS h0 rfl 2 (by decide) (hts (.fieldLink RX0 17 "LinkResolver$Change" "wall" "I") (by decide +kernel)) rfl hin rfl (by decide +kernel) rfl rfl (Nat.le_of_ble_eq_true rfl) dX0_init_17 (fun H locs hP hD hS => ?_)
  rw [bx_uu] at hP hD
  have hP : va_P D vwCl (va_pl L (va_up f h (.inr (0, [.int d, .long y, .int w, .null])))) H := hP
  have hD : va_D A (va_pl L (va_up f h (.inr (0, [.int d, .long y, .int w, .null])))) := hD
  have h0 : zat L (va_up f h (.inr (0, [.int d, .long y, .int w, .null]))) h (.inr (0, [.int d, .long y, .int w, .null])) := zat_self h0.1
  refine lv_aload_n hx hb dX0_init_20 rfl (lv_at hl 0 rfl) ?_
  refine lv_aload hx hb dX0_init_21 (lv_at hl 4 rfl) ?_
  refine zputF (own := RX0) (ci := 0) (v := .ref b9) (ty := (.object "LinkResolver$Change")) (C := RX0) (T := TX0) (N := 4) hx hb hts (by decide +kernel) tyX0 tyX0_ok nmX0 hown hE hP hD hS h0 rfl 3 (by decide) (hts (.fieldLink RX0 20 "LinkResolver$Change" "before" "LLinkResolver$Change;") (by decide +kernel)) rfl hin rfl (by decide +kernel) rfl rfl (Nat.le_of_ble_eq_true rfl) dX0_init_23 (fun H locs hP hD hS => ?_)
  rw [bx_uu] at hP hD
  have hP : va_P D vwCl (va_pl L (va_up f h (.inr (0, [.int d, .long y, .int w, .ref b9])))) H := hP
  have hD : va_D A (va_pl L (va_up f h (.inr (0, [.int d, .long y, .int w, .ref b9])))) := hD
  have h0 : zat L (va_up f h (.inr (0, [.int d, .long y, .int w, .ref b9]))) h (.inr (0, [.int d, .long y, .int w, .ref b9])) := zat_self h0.1
  exact zwrv (L, (va_up f h (.inr (0, [.int d, .long y, .int w, .ref b9])))) hx hb hr hlocks dX0_init_26 hP hD hS rfl

theorem w_Change (l : Launch) (D : va_G) (ca : Nat → ClassId) (sa : Nat → Nat) (L : List Nat) (f : Nat → va_E) (h : Nat) (d w : Int32) (y : Int64) (nx : Option Nat) (h0 : zat L f h (.inr (0, [.int 0, .long 0, .int 0, .null]))) (sz : Nat) : Met l yX0_init wsX0_init ({ frames := 2, cells := 0, slots := 0, locals := 80 }) (va_Pc [.ref h, .int d, .long y, .int w, va_rf nx] (zMp D (va_pl L f) ca sa sz)) (va_Qv (fun (u : zU) => u = (L, va_up f h (.inr (0, [.int d, .long y, .int w, va_rf nx])))) (zPost D (va_A (va_pl L f) sz)) (va_A (va_pl L f) sz)) 0 0 (va_A (va_pl L f) sz) := by
  cases nx with
  | none => exact w_Change_n l D ca sa L f h d w y h0 sz
  | some b9 => exact w_Change_s l D ca sa L f h d w y b9 h0 sz

set_option maxHeartbeats 4000000 in
set_option maxRecDepth 100000 in
theorem w_Hist (l : Launch) (D : va_G) (ca : Nat → ClassId) (sa : Nat → Nat) (L : List Nat) (f : Nat → va_E) (h : Nat) (h0 : zat L f h (.inr (1, [.null, .int 0]))) (sz : Nat) : Met l yX1_init wsX1_init ({ frames := 2, cells := 0, slots := 0, locals := 80 }) (va_Pc [.ref h] (zMp D (va_pl L f) ca sa sz)) (va_Qv (fun (u : zU) => u = (L, va_up f h (.inr (1, [.null, .int (nI 0)])))) (zPost D (va_A (va_pl L f) sz)) (va_A (va_pl L f) sz)) 0 0 (va_A (va_pl L f) sz) := by
  refine Met.ofW (cc := cX1_init) (maxL := 1) (ret := none) (by decide) rfl ?_
  intro p e s m args below meth c s₁ B hml hv
  obtain ⟨rfl, hsz, hP, hD0, hE⟩ := hv
  have hx := B.exec
  have hb := B.bytes
  have hr := B.returns
  have hts := atoms_spec (ws := wsX1_init) B.pre
  have hown : s.vm.findClass RX1 = some m.cls := findClass_of_methodNamed B.named
  have hlocks := B.notSynchronized
  have hl := lv_entry ([.ref h]) (n := 1) (Nat.le_of_ble_eq_true rfl)
  rw [lg_entry_eq]
  generalize (lg_sl ([.ref h]) ++ List.replicate (1 - (lg_sl ([.ref h])).length) Slot.unset).toArray = ls at hl ⊢
  have hl : lv_has ls 1 [(0, .ref h)] := hl
  have hin : meth.name = "<init>" := (name_of_methodNamed B.named B.method).1
  subst hsz
  have hD := hD0.self (sz := s.heap.size)
  generalize hAe : va_A (va_pl L f) s.heap.size = A at hD ⊢
  have hA : ∀ q : Nat, s.heap.size ≤ q → A q := fun q h => by rw [← hAe]; exact Or.inr h
  have hS : va_S A s.heap s.heap [] := va_S.rf
  refine lv_aload_n hx hb dX1_init_0 rfl (lv_at hl 0 rfl) ?_
  refine W.objInit hx hb hown (hts (.methodLink RX1 3 objectInit) (by decide +kernel)) (hts (.instanceMethod objectInit) (by decide +kernel)) (hts (.code objectInit ⟨#[0xb1]⟩ 1 none) (by decide +kernel)) rfl (by rw [hml]; exact hl.1) rfl dX1_init_1 (Nat.le_of_ble_eq_true rfl) (Nat.le_of_ble_eq_true rfl) ?_
  refine W.eq (g2 := F0 m 4 ls []) rfl ?_
  refine lv_aload_n hx hb dX1_init_4 rfl (lv_at hl 0 rfl) ?_
  refine lv_null hx hb dX1_init_5 ?_
  refine zput (own := RX1) (ci := 1) (v := .null) (ty := (.object "LinkResolver$Change")) (C := RX1) (T := TX1) (N := 2) hx hb hts (by decide +kernel) tyX1 tyX1_ok nmX1 hown hE hP hD hS h0 rfl 0 (by decide) (hts (.fieldLink RX1 9 "LinkResolver$History" "newest" "LLinkResolver$Change;") (by decide +kernel)) rfl (by decide +kernel) rfl rfl (Nat.le_of_ble_eq_true rfl) dX1_init_6 (fun H locs hP hD hS => ?_)
  have hP : va_P D vwCl (va_pl L (va_up f h (.inr (1, [.null, .int 0])))) H := hP
  have hD : va_D A (va_pl L (va_up f h (.inr (1, [.null, .int 0])))) := hD
  have h0 : zat L (va_up f h (.inr (1, [.null, .int 0]))) h (.inr (1, [.null, .int 0])) := zat_self h0.1
  refine lv_aload_n hx hb dX1_init_9 rfl (lv_at hl 0 rfl) ?_
  refine lv_iconst (v := nI 0) hx hb dX1_init_10 (by decide) ?_
  refine zput (own := RX1) (ci := 1) (v := .int (nI 0)) (ty := .int) (C := RX1) (T := TX1) (N := 2) hx hb hts (by decide +kernel) tyX1 tyX1_ok nmX1 hown hE hP hD hS h0 rfl 1 (by decide) (hts (.fieldLink RX1 15 "LinkResolver$History" "breaks" "I") (by decide +kernel)) rfl (by decide +kernel) rfl rfl (Nat.le_of_ble_eq_true rfl) dX1_init_11 (fun H locs hP hD hS => ?_)
  rw [bx_uu] at hP hD
  have hP : va_P D vwCl (va_pl L (va_up f h (.inr (1, [.null, .int (nI 0)])))) H := hP
  have hD : va_D A (va_pl L (va_up f h (.inr (1, [.null, .int (nI 0)])))) := hD
  have h0 : zat L (va_up f h (.inr (1, [.null, .int (nI 0)]))) h (.inr (1, [.null, .int (nI 0)])) := zat_self h0.1
  exact zwrv (L, (va_up f h (.inr (1, [.null, .int (nI 0)])))) hx hb hr hlocks dX1_init_14 hP hD hS rfl

set_option maxHeartbeats 4000000 in
set_option maxRecDepth 100000 in
theorem w_add (l : Launch) (D : va_G) (ca : Nat → ClassId) (sa : Nat → Nat) (L : List Nat) (f : Nat → va_E) (h : Nat) (d w b : Nat) (y : Int64) (nx : Option Nat) (h0 : zat L f h (.inr (1, [va_rf nx, .int (nI b)]))) (sz : Nat) : Met l yX1_add wsX1_add ({ frames := 3, cells := 1, slots := 4, locals := 120 }) (va_Pc [.ref h, .int (nI d), .long y, .int (nI w)] (zMp D (va_pl L f) ca sa sz)) (va_Qv (fun (u : zU) => ∃ q : Nat, q ∉ L ∧ u = (L ++ [q], va_up (va_up f q (.inr (0, [.int (nI d), .long y, .int (nI w), va_rf nx]))) h (.inr (1, [.ref q, .int (nI b)])))) (zPost D (va_A (va_pl L f) sz)) (va_A (va_pl L f) sz)) 1 4 (va_A (va_pl L f) sz) := by
  refine Met.ofW (cc := cX1_add) (maxL := 5) (ret := none) (by decide) rfl ?_
  intro p e s m args below meth c s₁ B hml hv
  obtain ⟨rfl, hsz, hP, hD0, hE⟩ := hv
  have hx := B.exec
  have hb := B.bytes
  have hr := B.returns
  have hts := atoms_spec (ws := wsX1_add) B.pre
  have hown : s.vm.findClass RX1 = some m.cls := findClass_of_methodNamed B.named
  have hlocks := B.notSynchronized
  have hl := lv_entry ([.ref h, .int (nI d), .long y, .int (nI w)]) (n := 5) (Nat.le_of_ble_eq_true rfl)
  rw [lg_entry_eq]
  generalize (lg_sl ([.ref h, .int (nI d), .long y, .int (nI w)]) ++ List.replicate (5 - (lg_sl ([.ref h, .int (nI d), .long y, .int (nI w)])).length) Slot.unset).toArray = ls at hl ⊢
  have hl : lv_has ls 5 [(0, .ref h), (1, .int (nI d)), (2, .long y), (4, .int (nI w))] := hl
  subst hsz
  have hD := hD0.self (sz := s.heap.size)
  generalize hAe : va_A (va_pl L f) s.heap.size = A at hD ⊢
  have hA : ∀ q : Nat, s.heap.size ≤ q → A q := fun q h => by rw [← hAe]; exact Or.inr h
  have hS : va_S A s.heap s.heap [] := va_S.rf
  refine lv_aload_n hx hb dX1_add_0 rfl (lv_at hl 0 rfl) ?_
  refine znew (own := RX1) (ci := 0) (fs := [.int 0, .long 0, .int 0, .null]) (C := RX0) (T := TX0) (N := 4) hx hb hts (by decide +kernel) tyX0 tyX0_ok hown (hts (.classLink RX1 19 RX0) (by decide +kernel)) (hts (.instantiable RX0 4) (by decide +kernel)) (hts (.initialized RX0) (by decide +kernel)) hE hP hD hS hA rfl (fun j hj => by rcases (show j = 0 ∨ j = 1 ∨ j = 2 ∨ j = 3 by omega) with rfl | rfl | rfl | rfl <;> rfl) (Nat.le_of_ble_eq_true rfl) (Nat.le_of_ble_eq_true rfl) dX1_add_1 (fun q1 H hn_q1 hP hD hS => ?_)
  have h0 := zat_push (e' := (.inr (0, [.int 0, .long 0, .int 0, .null]))) h0 hn_q1
  have hq1 : zat (L ++ [q1]) (va_up f q1 (.inr (0, [.int 0, .long 0, .int 0, .null]))) q1 (.inr (0, [.int 0, .long 0, .int 0, .null])) := zat_new
  refine lv_dup hx hb dX1_add_4 rfl ?_
  refine lv_iload_n hx hb dX1_add_5 rfl (lv_at hl 1 rfl) ?_
  refine lv_lload_n hx hb dX1_add_6 rfl (lv_at hl 2 rfl) ?_
  refine lv_iload hx hb dX1_add_7 (lv_at hl 3 rfl) ?_
  refine lv_aload_n hx hb dX1_add_9 rfl (lv_at hl 0 rfl) ?_
  refine zget (own := RX1) (ci := 1) (C := RX1) (T := TX1) (N := 2) hx hb hts (by decide +kernel) hown hE hP h0 rfl 0 (by decide) (hts (.fieldLink RX1 9 "LinkResolver$History" "newest" "LLinkResolver$Change;") (by decide +kernel)) rfl dX1_add_10 ?_
  refine zwcv (va_runI (As := [.int (nI d), .long y, .int (nI w), va_rf nx]) (rest := [.ref q1, .ref h]) ⟨hx, hb, hml, hown, hts⟩ (w_Change l D ca sa (L ++ [q1]) (va_up f q1 (.inr (0, [.int 0, .long 0, .int 0, .null]))) q1 (nI d) (nI w) y nx hq1 _) (cwI 4 hts gX1_add_X0_init rfl rfl rfl (hts (.initialized RX0) (by decide +kernel)) (hts (.methodLink RX1 21 yX0_init) (by decide +kernel)) (hts (.instanceMethod yX0_init) (by decide +kernel)) rfl (by decide +kernel) ⟨Nat.le_of_ble_eq_true rfl, Nat.le_of_ble_eq_true rfl⟩) (zmSi hP hD hE) rfl rfl hl.1 rfl (lv_room (Nat.le_of_ble_eq_true rfl)) dX1_add_13 ⟨Nat.le_of_ble_eq_true rfl, Nat.le_of_ble_eq_true rfl⟩) hD hS hA (fun u H locs hu hP hD hS => ?_)
  subst hu
  have hP : va_P D vwCl (va_pl (L ++ [q1]) (va_up f q1 (.inr (0, [.int (nI d), .long y, .int (nI w), va_rf nx])))) H := by rw [← bx_uu f q1]; exact hP
  have hD : va_D A (va_pl (L ++ [q1]) (va_up f q1 (.inr (0, [.int (nI d), .long y, .int (nI w), va_rf nx])))) := by rw [← bx_uu f q1]; exact hD
  have h0 := zat_up (b := q1) (e' := (.inr (0, [.int (nI d), .long y, .int (nI w), va_rf nx]))) h0 (zat_ne h0 hq1 (show (1 : Nat) ≠ 0 by decide))
  rw [bx_uu] at h0
  have hq1 : zat (L ++ [q1]) (va_up f q1 (.inr (0, [.int (nI d), .long y, .int (nI w), va_rf nx]))) q1 (.inr (0, [.int (nI d), .long y, .int (nI w), va_rf nx])) := zat_self hq1.1
  refine zput (own := RX1) (ci := 1) (v := .ref q1) (ty := (.object "LinkResolver$Change")) (C := RX1) (T := TX1) (N := 2) hx hb hts (by decide +kernel) tyX1 tyX1_ok nmX1 hown hE hP hD hS h0 rfl 0 (by decide) (hts (.fieldLink RX1 9 "LinkResolver$History" "newest" "LLinkResolver$Change;") (by decide +kernel)) rfl (by decide +kernel) rfl rfl (Nat.le_of_ble_eq_true rfl) dX1_add_16 (fun H locs hP hD hS => ?_)
  have hP : va_P D vwCl (va_pl (L ++ [q1]) (va_up (va_up f q1 (.inr (0, [.int (nI d), .long y, .int (nI w), va_rf nx]))) h (.inr (1, [.ref q1, .int (nI b)])))) H := hP
  have hD : va_D A (va_pl (L ++ [q1]) (va_up (va_up f q1 (.inr (0, [.int (nI d), .long y, .int (nI w), va_rf nx]))) h (.inr (1, [.ref q1, .int (nI b)])))) := hD
  have hq1 := zat_up (b := h) (e' := (.inr (1, [.ref q1, .int (nI b)]))) hq1 (zat_ne hq1 h0 (show (0 : Nat) ≠ 1 by decide))
  have h0 : zat (L ++ [q1]) (va_up (va_up f q1 (.inr (0, [.int (nI d), .long y, .int (nI w), va_rf nx]))) h (.inr (1, [.ref q1, .int (nI b)]))) h (.inr (1, [.ref q1, .int (nI b)])) := zat_self h0.1
  exact zwrv ((L ++ [q1]), (va_up (va_up f q1 (.inr (0, [.int (nI d), .long y, .int (nI w), va_rf nx]))) h (.inr (1, [.ref q1, .int (nI b)])))) hx hb hr hlocks dX1_add_19 hP hD hS ⟨q1, hn_q1, rfl⟩
