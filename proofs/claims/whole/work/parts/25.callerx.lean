/-! the law's callers where the class throws: the code of what it threw-/
set_option maxHeartbeats 4000000 in
set_option maxRecDepth 100000 in
theorem L_addTitle_1 (l : Launch) (hl0 : l.stackTraces = false) (D : va_G) (ca : Nat → ClassId) (sa : Nat → Nat) (L : List Nat) (f : Nat → va_E) (h0 ta pa : Nat) (aT aP aS : Nat → Nat) (aH : Nat → Nat → Nat) (n K : Nat) (V : zV) (hR : zRep L f ca h0 ta pa aT aP aS aH n K V) (a b : Int32) (hbad : (iB a (nI 0) (nI 55) && iB b (nI 1) (nI 4)) = false) (ob : Nat) (og : Nat → Int64) (sz : Nat) : vx_Met l yL_addTitle wsL_addTitle ({ frames := 10, cells := 1, slots := 6, locals := 450 }) (va_Pc [.ref h0, .int a, .int b, .ref ob] (zLp D L f ob og ca sa sz)) (va_Qi (fun (r : Int32) (_ : Unit) => r = nI 1) (fun _ _ => True) (fun q => sz ≤ q)) zX0 1 6 (fun q => sz ≤ q) := by
  refine vx_ofWH (hh := [(0, 10, 13, 13), (0, 10, 17, 15)]) (cc := cL_addTitle) (maxL := 5) (ret := (some .int)) (by decide) rfl ?_
  intro p e s m args below meth c s₁ B hml hv
  obtain ⟨rfl, hsz, hP, hD0, hE, hN, hZ⟩ := hv
  have hx := B.exec
  have hb := B.bytes
  have hr := B.returns
  have hts := atoms_spec (ws := wsL_addTitle) B.pre
  have hown : s.vm.findClass RL = some m.cls := findClass_of_methodNamed B.named
  have hlocks := B.notSynchronized
  have hl := lv_entry ([.ref h0, .int a, .int b, .ref ob]) (n := 5) (Nat.le_of_ble_eq_true rfl)
  rw [lg_entry_eq]
  generalize (lg_sl ([.ref h0, .int a, .int b, .ref ob]) ++ List.replicate (5 - (lg_sl ([.ref h0, .int a, .int b, .ref ob])).length) Slot.unset).toArray = ls at hl ⊢
  have hl : lv_has ls 5 [(0, .ref h0), (1, .int a), (2, .int b), (3, .ref ob)] := hl
  have hT := vx_table (x := yX4_init) B (hts (.codeWith yL_addTitle cL_addTitle 5 (some .int) [(0, 10, 13, 13), (0, 10, 17, 15)]) (by decide +kernel))
  subst hsz
  have hS : va_S (fun q => s.heap.size ≤ q) s.heap s.heap [] := va_S.rf
  have hP := o_P hP
  have h4 := hR.1.1
  refine lv_aload_n hx hb dL_addTitle_0 rfl (lv_at hl 3 rfl) ?_
  refine lv_iconst (v := nI 0) hx hb dL_addTitle_1 (by decide) ?_
  refine lv_aload_n hx hb dL_addTitle_2 rfl (lv_at hl 0 rfl) ?_
  refine lv_iload_n hx hb dL_addTitle_3 rfl (lv_at hl 1 rfl) ?_
  refine lv_iload_n hx hb dL_addTitle_4 rfl (lv_at hl 2 rfl) ?_
  refine zxc (E0 := "java/lang/IllegalArgumentException") (A0 := fun q => s.heap.size ≤ q) (vx_runV (As := [.int a, .int b]) (rest := [.int (nI 0), .ref ob]) ⟨hx, hb, hml, hown, hts⟩ (x_addTitle_1 l hl0 D ca sa L f h0 ta pa aT aP aS aH n K V hR a b hbad _) (cwV 2 hts gL_addTitle_X4_addTitle rfl rfl rfl (by decide +kernel) ⟨Nat.le_of_ble_eq_true rfl, Nat.le_of_ble_eq_true rfl⟩) (ztV hP hE hZ (fun _ h => h) rfl h4) rfl rfl hl.1 rfl (lv_room (Nat.le_of_ble_eq_true rfl)) dL_addTitle_5 ⟨Nat.le_of_ble_eq_true rfl, Nat.le_of_ble_eq_true rfl⟩) hS (fun _ h => h) (fun ce q9 H locs k1 k2 hS k3 k4 k5 => ?_)
  refine vx_catch (E := "java/lang/IllegalArgumentException") (name := "java/lang/IllegalArgumentException") hown [] ⟨0, 10, 13, 13⟩ [⟨0, 10, 17, 15⟩] hT (fun z hz => by cases hz) rfl (by decide) (hts (.classLink RL 13 "java/lang/IllegalArgumentException") (by decide +kernel)) (va_Nw.use rfl hE.2.2.1.1.1) k3 k4 k5 ?_
  refine W.eq (g2 := F0 m 13 ls [.ref q9]) rfl ?_
  refine lv_astore (lv' := [(4, .ref q9), (0, .ref h0), (1, .int a), (2, .int b), (3, .ref ob)]) hx hb dL_addTitle_13 hl (by decide) rfl (fun ls hl => ?_)
  refine lv_iconst (v := nI 1) hx hb dL_addTitle_15 (by decide) ?_
  exact vx_ret (zlrx hx hb hr hlocks dL_addTitle_16 hS)

set_option maxHeartbeats 4000000 in
set_option maxRecDepth 100000 in
theorem L_addTitle_2 (l : Launch) (hl0 : l.stackTraces = false) (D : va_G) (ca : Nat → ClassId) (sa : Nat → Nat) (L : List Nat) (f : Nat → va_E) (h0 ta pa : Nat) (aT aP aS : Nat → Nat) (aH : Nat → Nat → Nat) (n K : Nat) (V : zV) (hR : zRep L f ca h0 ta pa aT aP aS aH n K V) (a b : Int32) (h1 : iB a (nI 0) (nI 55) = true) (h2 : iB b (nI 1) (nI 4) = true) (hnt : vNt V = 20) (ob : Nat) (og : Nat → Int64) (sz : Nat) : vx_Met l yL_addTitle wsL_addTitle ({ frames := 10, cells := 1, slots := 6, locals := 450 }) (va_Pc [.ref h0, .int a, .int b, .ref ob] (zLp D L f ob og ca sa sz)) (va_Qi (fun (r : Int32) (_ : Unit) => r = nI 2) (fun _ _ => True) (fun q => sz ≤ q)) zX0 1 6 (fun q => sz ≤ q) := by
  refine vx_ofWH (hh := [(0, 10, 13, 13), (0, 10, 17, 15)]) (cc := cL_addTitle) (maxL := 5) (ret := (some .int)) (by decide) rfl ?_
  intro p e s m args below meth c s₁ B hml hv
  obtain ⟨rfl, hsz, hP, hD0, hE, hN, hZ⟩ := hv
  have hx := B.exec
  have hb := B.bytes
  have hr := B.returns
  have hts := atoms_spec (ws := wsL_addTitle) B.pre
  have hown : s.vm.findClass RL = some m.cls := findClass_of_methodNamed B.named
  have hlocks := B.notSynchronized
  have hl := lv_entry ([.ref h0, .int a, .int b, .ref ob]) (n := 5) (Nat.le_of_ble_eq_true rfl)
  rw [lg_entry_eq]
  generalize (lg_sl ([.ref h0, .int a, .int b, .ref ob]) ++ List.replicate (5 - (lg_sl ([.ref h0, .int a, .int b, .ref ob])).length) Slot.unset).toArray = ls at hl ⊢
  have hl : lv_has ls 5 [(0, .ref h0), (1, .int a), (2, .int b), (3, .ref ob)] := hl
  have hT := vx_table (x := yX4_init) B (hts (.codeWith yL_addTitle cL_addTitle 5 (some .int) [(0, 10, 13, 13), (0, 10, 17, 15)]) (by decide +kernel))
  subst hsz
  have hS : va_S (fun q => s.heap.size ≤ q) s.heap s.heap [] := va_S.rf
  have hP := o_P hP
  have h4 := hR.1.1
  refine lv_aload_n hx hb dL_addTitle_0 rfl (lv_at hl 3 rfl) ?_
  refine lv_iconst (v := nI 0) hx hb dL_addTitle_1 (by decide) ?_
  refine lv_aload_n hx hb dL_addTitle_2 rfl (lv_at hl 0 rfl) ?_
  refine lv_iload_n hx hb dL_addTitle_3 rfl (lv_at hl 1 rfl) ?_
  refine lv_iload_n hx hb dL_addTitle_4 rfl (lv_at hl 2 rfl) ?_
  refine zxc (E0 := "java/lang/IllegalStateException") (A0 := fun q => s.heap.size ≤ q) (vx_runV (As := [.int a, .int b]) (rest := [.int (nI 0), .ref ob]) ⟨hx, hb, hml, hown, hts⟩ (x_addTitle_2 l hl0 D ca sa L f h0 ta pa aT aP aS aH n K V hR a b h1 h2 hnt _) (cwV 2 hts gL_addTitle_X4_addTitle rfl rfl rfl (by decide +kernel) ⟨Nat.le_of_ble_eq_true rfl, Nat.le_of_ble_eq_true rfl⟩) (ztV hP hE hZ (fun _ h => h) rfl h4) rfl rfl hl.1 rfl (lv_room (Nat.le_of_ble_eq_true rfl)) dL_addTitle_5 ⟨Nat.le_of_ble_eq_true rfl, Nat.le_of_ble_eq_true rfl⟩) hS (fun _ h => h) (fun ce q9 H locs k1 k2 hS k3 k4 k5 => ?_)
  refine vx_catch (E := "java/lang/IllegalStateException") (name := "java/lang/IllegalStateException") hown [⟨0, 10, 13, 13⟩] ⟨0, 10, 17, 15⟩ [] hT (fun z hz => by rcases List.mem_singleton.mp hz with rfl; exact Or.inr ⟨by decide, "java/lang/IllegalArgumentException", hts (.classLink RL 13 "java/lang/IllegalArgumentException") (by decide +kernel), hN.1⟩) rfl (by decide) (hts (.classLink RL 15 "java/lang/IllegalStateException") (by decide +kernel)) (va_Nw.use rfl hE.2.2.1.1.2.1) k3 k4 k5 ?_
  refine W.eq (g2 := F0 m 17 ls [.ref q9]) rfl ?_
  refine lv_astore (lv' := [(4, .ref q9), (0, .ref h0), (1, .int a), (2, .int b), (3, .ref ob)]) hx hb dL_addTitle_17 hl (by decide) rfl (fun ls hl => ?_)
  refine lv_iconst (v := nI 2) hx hb dL_addTitle_19 (by decide) ?_
  exact vx_ret (zlrx hx hb hr hlocks dL_addTitle_20 hS)

set_option maxHeartbeats 4000000 in
set_option maxRecDepth 100000 in
theorem L_yearOf_1 (l : Launch) (hl0 : l.stackTraces = false) (D : va_G) (ca : Nat → ClassId) (sa : Nat → Nat) (L : List Nat) (f : Nat → va_E) (h0 ta pa : Nat) (aT aP aS : Nat → Nat) (aH : Nat → Nat → Nat) (n K : Nat) (V : zV) (hR : zRep L f ca h0 ta pa aT aP aS aH n K V) (t v : Int32) (hbad : iT (vNt V) t = false) (ob : Nat) (og : Nat → Int64) (sz : Nat) : vx_Met l yL_yearOf wsL_yearOf ({ frames := 10, cells := 1, slots := 6, locals := 450 }) (va_Pc [.ref h0, .int t, .int v, .ref ob] (zLp D L f ob og ca sa sz)) (va_Qi (fun (r : Int32) (_ : Unit) => r = nI 1) (fun _ _ => True) (fun q => sz ≤ q)) zX0 1 6 (fun q => sz ≤ q) := by
  refine vx_ofWH (hh := [(0, 10, 13, 20), (0, 10, 17, 13)]) (cc := cL_yearOf) (maxL := 5) (ret := (some .int)) (by decide) rfl ?_
  intro p e s m args below meth c s₁ B hml hv
  obtain ⟨rfl, hsz, hP, hD0, hE, hN, hZ⟩ := hv
  have hx := B.exec
  have hb := B.bytes
  have hr := B.returns
  have hts := atoms_spec (ws := wsL_yearOf) B.pre
  have hown : s.vm.findClass RL = some m.cls := findClass_of_methodNamed B.named
  have hlocks := B.notSynchronized
  have hl := lv_entry ([.ref h0, .int t, .int v, .ref ob]) (n := 5) (Nat.le_of_ble_eq_true rfl)
  rw [lg_entry_eq]
  generalize (lg_sl ([.ref h0, .int t, .int v, .ref ob]) ++ List.replicate (5 - (lg_sl ([.ref h0, .int t, .int v, .ref ob])).length) Slot.unset).toArray = ls at hl ⊢
  have hl : lv_has ls 5 [(0, .ref h0), (1, .int t), (2, .int v), (3, .ref ob)] := hl
  have hT := vx_table (x := yX4_init) B (hts (.codeWith yL_yearOf cL_yearOf 5 (some .int) [(0, 10, 13, 20), (0, 10, 17, 13)]) (by decide +kernel))
  subst hsz
  have hS : va_S (fun q => s.heap.size ≤ q) s.heap s.heap [] := va_S.rf
  have hP := o_P hP
  have h4 := hR.1.1
  refine lv_aload_n hx hb dL_yearOf_0 rfl (lv_at hl 3 rfl) ?_
  refine lv_iconst (v := nI 0) hx hb dL_yearOf_1 (by decide) ?_
  refine lv_aload_n hx hb dL_yearOf_2 rfl (lv_at hl 0 rfl) ?_
  refine lv_iload_n hx hb dL_yearOf_3 rfl (lv_at hl 1 rfl) ?_
  refine lv_iload_n hx hb dL_yearOf_4 rfl (lv_at hl 2 rfl) ?_
  refine zxc (E0 := "java/lang/IndexOutOfBoundsException") (A0 := fun q => s.heap.size ≤ q) (vx_runV (As := [.int t, .int v]) (rest := [.int (nI 0), .ref ob]) ⟨hx, hb, hml, hown, hts⟩ (x_yearOf_1 l hl0 D ca sa L f h0 ta pa aT aP aS aH n K V hR t v hbad _) (cwV 2 hts gL_yearOf_X4_yearOf rfl rfl rfl (by decide +kernel) ⟨Nat.le_of_ble_eq_true rfl, Nat.le_of_ble_eq_true rfl⟩) (ztV hP hE hZ (fun _ h => h) rfl h4) rfl rfl hl.1 rfl (lv_room (Nat.le_of_ble_eq_true rfl)) dL_yearOf_5 ⟨Nat.le_of_ble_eq_true rfl, Nat.le_of_ble_eq_true rfl⟩) hS (fun _ h => h) (fun ce q9 H locs k1 k2 hS k3 k4 k5 => ?_)
  refine vx_catch (E := "java/lang/IndexOutOfBoundsException") (name := "java/lang/IndexOutOfBoundsException") hown [] ⟨0, 10, 13, 20⟩ [⟨0, 10, 17, 13⟩] hT (fun z hz => by cases hz) rfl (by decide) (hts (.classLink RL 20 "java/lang/IndexOutOfBoundsException") (by decide +kernel)) (va_Nw.use rfl hE.2.2.1.1.2.2) k3 k4 k5 ?_
  refine W.eq (g2 := F0 m 13 ls [.ref q9]) rfl ?_
  refine lv_astore (lv' := [(4, .ref q9), (0, .ref h0), (1, .int t), (2, .int v), (3, .ref ob)]) hx hb dL_yearOf_13 hl (by decide) rfl (fun ls hl => ?_)
  refine lv_iconst (v := nI 1) hx hb dL_yearOf_15 (by decide) ?_
  exact vx_ret (zlrx hx hb hr hlocks dL_yearOf_16 hS)

set_option maxHeartbeats 4000000 in
set_option maxRecDepth 100000 in
theorem L_yearOf_2 (l : Launch) (hl0 : l.stackTraces = false) (D : va_G) (ca : Nat → ClassId) (sa : Nat → Nat) (L : List Nat) (f : Nat → va_E) (h0 ta pa : Nat) (aT aP aS : Nat → Nat) (aH : Nat → Nat → Nat) (n K : Nat) (V : zV) (hR : zRep L f ca h0 ta pa aT aP aS aH n K V) (t : Nat) (ht9 : t < vNt V) (w : Int32) (hbad : iB w (nI 1) (nI ((56 - (vT V t).1) * (vT V t).2)) = false) (ob : Nat) (og : Nat → Int64) (sz : Nat) : vx_Met l yL_yearOf wsL_yearOf ({ frames := 10, cells := 1, slots := 6, locals := 450 }) (va_Pc [.ref h0, .int (nI t), .int w, .ref ob] (zLp D L f ob og ca sa sz)) (va_Qi (fun (r : Int32) (_ : Unit) => r = nI 2) (fun _ _ => True) (fun q => sz ≤ q)) zX0 1 6 (fun q => sz ≤ q) := by
  refine vx_ofWH (hh := [(0, 10, 13, 20), (0, 10, 17, 13)]) (cc := cL_yearOf) (maxL := 5) (ret := (some .int)) (by decide) rfl ?_
  intro p e s m args below meth c s₁ B hml hv
  obtain ⟨rfl, hsz, hP, hD0, hE, hN, hZ⟩ := hv
  have hx := B.exec
  have hb := B.bytes
  have hr := B.returns
  have hts := atoms_spec (ws := wsL_yearOf) B.pre
  have hown : s.vm.findClass RL = some m.cls := findClass_of_methodNamed B.named
  have hlocks := B.notSynchronized
  have hl := lv_entry ([.ref h0, .int (nI t), .int w, .ref ob]) (n := 5) (Nat.le_of_ble_eq_true rfl)
  rw [lg_entry_eq]
  generalize (lg_sl ([.ref h0, .int (nI t), .int w, .ref ob]) ++ List.replicate (5 - (lg_sl ([.ref h0, .int (nI t), .int w, .ref ob])).length) Slot.unset).toArray = ls at hl ⊢
  have hl : lv_has ls 5 [(0, .ref h0), (1, .int (nI t)), (2, .int w), (3, .ref ob)] := hl
  have hT := vx_table (x := yX4_init) B (hts (.codeWith yL_yearOf cL_yearOf 5 (some .int) [(0, 10, 13, 20), (0, 10, 17, 13)]) (by decide +kernel))
  subst hsz
  have hS : va_S (fun q => s.heap.size ≤ q) s.heap s.heap [] := va_S.rf
  have hP := o_P hP
  have h4 := hR.1.1
  refine lv_aload_n hx hb dL_yearOf_0 rfl (lv_at hl 3 rfl) ?_
  refine lv_iconst (v := nI 0) hx hb dL_yearOf_1 (by decide) ?_
  refine lv_aload_n hx hb dL_yearOf_2 rfl (lv_at hl 0 rfl) ?_
  refine lv_iload_n hx hb dL_yearOf_3 rfl (lv_at hl 1 rfl) ?_
  refine lv_iload_n hx hb dL_yearOf_4 rfl (lv_at hl 2 rfl) ?_
  refine zxc (E0 := "java/lang/IllegalArgumentException") (A0 := fun q => s.heap.size ≤ q) (vx_runV (As := [.int (nI t), .int w]) (rest := [.int (nI 0), .ref ob]) ⟨hx, hb, hml, hown, hts⟩ (x_yearOf_2 l hl0 D ca sa L f h0 ta pa aT aP aS aH n K V hR t ht9 w hbad _) (cwV 2 hts gL_yearOf_X4_yearOf rfl rfl rfl (by decide +kernel) ⟨Nat.le_of_ble_eq_true rfl, Nat.le_of_ble_eq_true rfl⟩) (ztV hP hE hZ (fun _ h => h) rfl h4) rfl rfl hl.1 rfl (lv_room (Nat.le_of_ble_eq_true rfl)) dL_yearOf_5 ⟨Nat.le_of_ble_eq_true rfl, Nat.le_of_ble_eq_true rfl⟩) hS (fun _ h => h) (fun ce q9 H locs k1 k2 hS k3 k4 k5 => ?_)
  refine vx_catch (E := "java/lang/IllegalArgumentException") (name := "java/lang/IllegalArgumentException") hown [⟨0, 10, 13, 20⟩] ⟨0, 10, 17, 13⟩ [] hT (fun z hz => by rcases List.mem_singleton.mp hz with rfl; exact Or.inr ⟨by decide, "java/lang/IndexOutOfBoundsException", hts (.classLink RL 20 "java/lang/IndexOutOfBoundsException") (by decide +kernel), hN.2.1⟩) rfl (by decide) (hts (.classLink RL 13 "java/lang/IllegalArgumentException") (by decide +kernel)) (va_Nw.use rfl hE.2.2.1.1.1) k3 k4 k5 ?_
  refine W.eq (g2 := F0 m 17 ls [.ref q9]) rfl ?_
  refine lv_astore (lv' := [(4, .ref q9), (0, .ref h0), (1, .int (nI t)), (2, .int w), (3, .ref ob)]) hx hb dL_yearOf_17 hl (by decide) rfl (fun ls hl => ?_)
  refine lv_iconst (v := nI 2) hx hb dL_yearOf_19 (by decide) ?_
  exact vx_ret (zlrx hx hb hr hlocks dL_yearOf_20 hS)

set_option maxHeartbeats 4000000 in
set_option maxRecDepth 100000 in
theorem L_volumeOf_1 (l : Launch) (hl0 : l.stackTraces = false) (D : va_G) (ca : Nat → ClassId) (sa : Nat → Nat) (L : List Nat) (f : Nat → va_E) (h0 ta pa : Nat) (aT aP aS : Nat → Nat) (aH : Nat → Nat → Nat) (n K : Nat) (V : zV) (hR : zRep L f ca h0 ta pa aT aP aS aH n K V) (t v : Int32) (hbad : iT (vNt V) t = false) (ob : Nat) (og : Nat → Int64) (sz : Nat) : vx_Met l yL_volumeOf wsL_volumeOf ({ frames := 10, cells := 1, slots := 6, locals := 450 }) (va_Pc [.ref h0, .int t, .int v, .ref ob] (zLp D L f ob og ca sa sz)) (va_Qi (fun (r : Int32) (_ : Unit) => r = nI 1) (fun _ _ => True) (fun q => sz ≤ q)) zX0 1 6 (fun q => sz ≤ q) := by
  refine vx_ofWH (hh := [(0, 10, 13, 20), (0, 10, 17, 13)]) (cc := cL_volumeOf) (maxL := 5) (ret := (some .int)) (by decide) rfl ?_
  intro p e s m args below meth c s₁ B hml hv
  obtain ⟨rfl, hsz, hP, hD0, hE, hN, hZ⟩ := hv
  have hx := B.exec
  have hb := B.bytes
  have hr := B.returns
  have hts := atoms_spec (ws := wsL_volumeOf) B.pre
  have hown : s.vm.findClass RL = some m.cls := findClass_of_methodNamed B.named
  have hlocks := B.notSynchronized
  have hl := lv_entry ([.ref h0, .int t, .int v, .ref ob]) (n := 5) (Nat.le_of_ble_eq_true rfl)
  rw [lg_entry_eq]
  generalize (lg_sl ([.ref h0, .int t, .int v, .ref ob]) ++ List.replicate (5 - (lg_sl ([.ref h0, .int t, .int v, .ref ob])).length) Slot.unset).toArray = ls at hl ⊢
  have hl : lv_has ls 5 [(0, .ref h0), (1, .int t), (2, .int v), (3, .ref ob)] := hl
  have hT := vx_table (x := yX4_init) B (hts (.codeWith yL_volumeOf cL_volumeOf 5 (some .int) [(0, 10, 13, 20), (0, 10, 17, 13)]) (by decide +kernel))
  subst hsz
  have hS : va_S (fun q => s.heap.size ≤ q) s.heap s.heap [] := va_S.rf
  have hP := o_P hP
  have h4 := hR.1.1
  refine lv_aload_n hx hb dL_volumeOf_0 rfl (lv_at hl 3 rfl) ?_
  refine lv_iconst (v := nI 0) hx hb dL_volumeOf_1 (by decide) ?_
  refine lv_aload_n hx hb dL_volumeOf_2 rfl (lv_at hl 0 rfl) ?_
  refine lv_iload_n hx hb dL_volumeOf_3 rfl (lv_at hl 1 rfl) ?_
  refine lv_iload_n hx hb dL_volumeOf_4 rfl (lv_at hl 2 rfl) ?_
  refine zxc (E0 := "java/lang/IndexOutOfBoundsException") (A0 := fun q => s.heap.size ≤ q) (vx_runV (As := [.int t, .int v]) (rest := [.int (nI 0), .ref ob]) ⟨hx, hb, hml, hown, hts⟩ (x_volumeOf_1 l hl0 D ca sa L f h0 ta pa aT aP aS aH n K V hR t v hbad _) (cwV 2 hts gL_volumeOf_X4_volumeOf rfl rfl rfl (by decide +kernel) ⟨Nat.le_of_ble_eq_true rfl, Nat.le_of_ble_eq_true rfl⟩) (ztV hP hE hZ (fun _ h => h) rfl h4) rfl rfl hl.1 rfl (lv_room (Nat.le_of_ble_eq_true rfl)) dL_volumeOf_5 ⟨Nat.le_of_ble_eq_true rfl, Nat.le_of_ble_eq_true rfl⟩) hS (fun _ h => h) (fun ce q9 H locs k1 k2 hS k3 k4 k5 => ?_)
  refine vx_catch (E := "java/lang/IndexOutOfBoundsException") (name := "java/lang/IndexOutOfBoundsException") hown [] ⟨0, 10, 13, 20⟩ [⟨0, 10, 17, 13⟩] hT (fun z hz => by cases hz) rfl (by decide) (hts (.classLink RL 20 "java/lang/IndexOutOfBoundsException") (by decide +kernel)) (va_Nw.use rfl hE.2.2.1.1.2.2) k3 k4 k5 ?_
  refine W.eq (g2 := F0 m 13 ls [.ref q9]) rfl ?_
  refine lv_astore (lv' := [(4, .ref q9), (0, .ref h0), (1, .int t), (2, .int v), (3, .ref ob)]) hx hb dL_volumeOf_13 hl (by decide) rfl (fun ls hl => ?_)
  refine lv_iconst (v := nI 1) hx hb dL_volumeOf_15 (by decide) ?_
  exact vx_ret (zlrx hx hb hr hlocks dL_volumeOf_16 hS)

set_option maxHeartbeats 4000000 in
set_option maxRecDepth 100000 in
theorem L_volumeOf_2 (l : Launch) (hl0 : l.stackTraces = false) (D : va_G) (ca : Nat → ClassId) (sa : Nat → Nat) (L : List Nat) (f : Nat → va_E) (h0 ta pa : Nat) (aT aP aS : Nat → Nat) (aH : Nat → Nat → Nat) (n K : Nat) (V : zV) (hR : zRep L f ca h0 ta pa aT aP aS aH n K V) (t : Nat) (ht9 : t < vNt V) (w : Int32) (hbad : iB w (nI (vT V t).1) (nI 55) = false) (ob : Nat) (og : Nat → Int64) (sz : Nat) : vx_Met l yL_volumeOf wsL_volumeOf ({ frames := 10, cells := 1, slots := 6, locals := 450 }) (va_Pc [.ref h0, .int (nI t), .int w, .ref ob] (zLp D L f ob og ca sa sz)) (va_Qi (fun (r : Int32) (_ : Unit) => r = nI 2) (fun _ _ => True) (fun q => sz ≤ q)) zX0 1 6 (fun q => sz ≤ q) := by
  refine vx_ofWH (hh := [(0, 10, 13, 20), (0, 10, 17, 13)]) (cc := cL_volumeOf) (maxL := 5) (ret := (some .int)) (by decide) rfl ?_
  intro p e s m args below meth c s₁ B hml hv
  obtain ⟨rfl, hsz, hP, hD0, hE, hN, hZ⟩ := hv
  have hx := B.exec
  have hb := B.bytes
  have hr := B.returns
  have hts := atoms_spec (ws := wsL_volumeOf) B.pre
  have hown : s.vm.findClass RL = some m.cls := findClass_of_methodNamed B.named
  have hlocks := B.notSynchronized
  have hl := lv_entry ([.ref h0, .int (nI t), .int w, .ref ob]) (n := 5) (Nat.le_of_ble_eq_true rfl)
  rw [lg_entry_eq]
  generalize (lg_sl ([.ref h0, .int (nI t), .int w, .ref ob]) ++ List.replicate (5 - (lg_sl ([.ref h0, .int (nI t), .int w, .ref ob])).length) Slot.unset).toArray = ls at hl ⊢
  have hl : lv_has ls 5 [(0, .ref h0), (1, .int (nI t)), (2, .int w), (3, .ref ob)] := hl
  have hT := vx_table (x := yX4_init) B (hts (.codeWith yL_volumeOf cL_volumeOf 5 (some .int) [(0, 10, 13, 20), (0, 10, 17, 13)]) (by decide +kernel))
  subst hsz
  have hS : va_S (fun q => s.heap.size ≤ q) s.heap s.heap [] := va_S.rf
  have hP := o_P hP
  have h4 := hR.1.1
  refine lv_aload_n hx hb dL_volumeOf_0 rfl (lv_at hl 3 rfl) ?_
  refine lv_iconst (v := nI 0) hx hb dL_volumeOf_1 (by decide) ?_
  refine lv_aload_n hx hb dL_volumeOf_2 rfl (lv_at hl 0 rfl) ?_
  refine lv_iload_n hx hb dL_volumeOf_3 rfl (lv_at hl 1 rfl) ?_
  refine lv_iload_n hx hb dL_volumeOf_4 rfl (lv_at hl 2 rfl) ?_
  refine zxc (E0 := "java/lang/IllegalArgumentException") (A0 := fun q => s.heap.size ≤ q) (vx_runV (As := [.int (nI t), .int w]) (rest := [.int (nI 0), .ref ob]) ⟨hx, hb, hml, hown, hts⟩ (x_volumeOf_2 l hl0 D ca sa L f h0 ta pa aT aP aS aH n K V hR t ht9 w hbad _) (cwV 2 hts gL_volumeOf_X4_volumeOf rfl rfl rfl (by decide +kernel) ⟨Nat.le_of_ble_eq_true rfl, Nat.le_of_ble_eq_true rfl⟩) (ztV hP hE hZ (fun _ h => h) rfl h4) rfl rfl hl.1 rfl (lv_room (Nat.le_of_ble_eq_true rfl)) dL_volumeOf_5 ⟨Nat.le_of_ble_eq_true rfl, Nat.le_of_ble_eq_true rfl⟩) hS (fun _ h => h) (fun ce q9 H locs k1 k2 hS k3 k4 k5 => ?_)
  refine vx_catch (E := "java/lang/IllegalArgumentException") (name := "java/lang/IllegalArgumentException") hown [⟨0, 10, 13, 20⟩] ⟨0, 10, 17, 13⟩ [] hT (fun z hz => by rcases List.mem_singleton.mp hz with rfl; exact Or.inr ⟨by decide, "java/lang/IndexOutOfBoundsException", hts (.classLink RL 20 "java/lang/IndexOutOfBoundsException") (by decide +kernel), hN.2.1⟩) rfl (by decide) (hts (.classLink RL 13 "java/lang/IllegalArgumentException") (by decide +kernel)) (va_Nw.use rfl hE.2.2.1.1.1) k3 k4 k5 ?_
  refine W.eq (g2 := F0 m 17 ls [.ref q9]) rfl ?_
  refine lv_astore (lv' := [(4, .ref q9), (0, .ref h0), (1, .int (nI t)), (2, .int w), (3, .ref ob)]) hx hb dL_volumeOf_17 hl (by decide) rfl (fun ls hl => ?_)
  refine lv_iconst (v := nI 2) hx hb dL_volumeOf_19 (by decide) ?_
  exact vx_ret (zlrx hx hb hr hlocks dL_volumeOf_20 hS)

set_option maxHeartbeats 4000000 in
set_option maxRecDepth 100000 in
theorem L_addPackage_1 (l : Launch) (hl0 : l.stackTraces = false) (D : va_G) (ca : Nat → ClassId) (sa : Nat → Nat) (L : List Nat) (f : Nat → va_E) (h0 ta pa : Nat) (aT aP aS : Nat → Nat) (aH : Nat → Nat → Nat) (n K : Nat) (V : zV) (hR : zRep L f ca h0 ta pa aT aP aS aH n K V) (a b g k : Int32) (hbad : (iB a (nI 0) (nI 1000) && (iB b (nI 0) (nI 2) && (iB g (nI 0) (nI 15) && iB k (nI 0) (nI 1)))) = false) (ob : Nat) (og : Nat → Int64) (sz : Nat) : vx_Met l yL_addPackage wsL_addPackage ({ frames := 10, cells := 1, slots := 6, locals := 450 }) (va_Pc [.ref h0, .int a, .int b, .int g, .int k, .ref ob] (zLp D L f ob og ca sa sz)) (va_Qi (fun (r : Int32) (_ : Unit) => r = nI 1) (fun _ _ => True) (fun q => sz ≤ q)) zX0 1 6 (fun q => sz ≤ q) := by
  refine vx_ofWH (hh := [(0, 14, 17, 13), (0, 14, 21, 15)]) (cc := cL_addPackage) (maxL := 7) (ret := (some .int)) (by decide) rfl ?_
  intro p e s m args below meth c s₁ B hml hv
  obtain ⟨rfl, hsz, hP, hD0, hE, hN, hZ⟩ := hv
  have hx := B.exec
  have hb := B.bytes
  have hr := B.returns
  have hts := atoms_spec (ws := wsL_addPackage) B.pre
  have hown : s.vm.findClass RL = some m.cls := findClass_of_methodNamed B.named
  have hlocks := B.notSynchronized
  have hl := lv_entry ([.ref h0, .int a, .int b, .int g, .int k, .ref ob]) (n := 7) (Nat.le_of_ble_eq_true rfl)
  rw [lg_entry_eq]
  generalize (lg_sl ([.ref h0, .int a, .int b, .int g, .int k, .ref ob]) ++ List.replicate (7 - (lg_sl ([.ref h0, .int a, .int b, .int g, .int k, .ref ob])).length) Slot.unset).toArray = ls at hl ⊢
  have hl : lv_has ls 7 [(0, .ref h0), (1, .int a), (2, .int b), (3, .int g), (4, .int k), (5, .ref ob)] := hl
  have hT := vx_table (x := yX4_init) B (hts (.codeWith yL_addPackage cL_addPackage 7 (some .int) [(0, 14, 17, 13), (0, 14, 21, 15)]) (by decide +kernel))
  subst hsz
  have hS : va_S (fun q => s.heap.size ≤ q) s.heap s.heap [] := va_S.rf
  have hP := o_P hP
  have h4 := hR.1.1
  refine lv_aload hx hb dL_addPackage_0 (lv_at hl 5 rfl) ?_
  refine lv_iconst (v := nI 0) hx hb dL_addPackage_2 (by decide) ?_
  refine lv_aload_n hx hb dL_addPackage_3 rfl (lv_at hl 0 rfl) ?_
  refine lv_iload_n hx hb dL_addPackage_4 rfl (lv_at hl 1 rfl) ?_
  refine lv_iload_n hx hb dL_addPackage_5 rfl (lv_at hl 2 rfl) ?_
  refine lv_iload_n hx hb dL_addPackage_6 rfl (lv_at hl 3 rfl) ?_
  refine lv_iload hx hb dL_addPackage_7 (lv_at hl 4 rfl) ?_
  refine zxc (E0 := "java/lang/IllegalArgumentException") (A0 := fun q => s.heap.size ≤ q) (vx_runV (As := [.int a, .int b, .int g, .int k]) (rest := [.int (nI 0), .ref ob]) ⟨hx, hb, hml, hown, hts⟩ (x_addPackage_1 l hl0 D ca sa L f h0 ta pa aT aP aS aH n K V hR a b g k hbad _) (cwV 4 hts gL_addPackage_X4_addPackage rfl rfl rfl (by decide +kernel) ⟨Nat.le_of_ble_eq_true rfl, Nat.le_of_ble_eq_true rfl⟩) (ztV hP hE hZ (fun _ h => h) rfl h4) rfl rfl hl.1 rfl (lv_room (Nat.le_of_ble_eq_true rfl)) dL_addPackage_9 ⟨Nat.le_of_ble_eq_true rfl, Nat.le_of_ble_eq_true rfl⟩) hS (fun _ h => h) (fun ce q9 H locs k1 k2 hS k3 k4 k5 => ?_)
  refine vx_catch (E := "java/lang/IllegalArgumentException") (name := "java/lang/IllegalArgumentException") hown [] ⟨0, 14, 17, 13⟩ [⟨0, 14, 21, 15⟩] hT (fun z hz => by cases hz) rfl (by decide) (hts (.classLink RL 13 "java/lang/IllegalArgumentException") (by decide +kernel)) (va_Nw.use rfl hE.2.2.1.1.1) k3 k4 k5 ?_
  refine W.eq (g2 := F0 m 17 ls [.ref q9]) rfl ?_
  refine lv_astore (lv' := [(6, .ref q9), (0, .ref h0), (1, .int a), (2, .int b), (3, .int g), (4, .int k), (5, .ref ob)]) hx hb dL_addPackage_17 hl (by decide) rfl (fun ls hl => ?_)
  refine lv_iconst (v := nI 1) hx hb dL_addPackage_19 (by decide) ?_
  exact vx_ret (zlrx hx hb hr hlocks dL_addPackage_20 hS)

set_option maxHeartbeats 4000000 in
set_option maxRecDepth 100000 in
theorem L_addPackage_2 (l : Launch) (hl0 : l.stackTraces = false) (D : va_G) (ca : Nat → ClassId) (sa : Nat → Nat) (L : List Nat) (f : Nat → va_E) (h0 ta pa : Nat) (aT aP aS : Nat → Nat) (aH : Nat → Nat → Nat) (n K : Nat) (V : zV) (hR : zRep L f ca h0 ta pa aT aP aS aH n K V) (a b g k : Int32) (hok : (iB a (nI 0) (nI 1000) && (iB b (nI 0) (nI 2) && (iB g (nI 0) (nI 15) && iB k (nI 0) (nI 1)))) = true) (hnp : vNp V = 10) (ob : Nat) (og : Nat → Int64) (sz : Nat) : vx_Met l yL_addPackage wsL_addPackage ({ frames := 10, cells := 1, slots := 6, locals := 450 }) (va_Pc [.ref h0, .int a, .int b, .int g, .int k, .ref ob] (zLp D L f ob og ca sa sz)) (va_Qi (fun (r : Int32) (_ : Unit) => r = nI 2) (fun _ _ => True) (fun q => sz ≤ q)) zX0 1 6 (fun q => sz ≤ q) := by
  refine vx_ofWH (hh := [(0, 14, 17, 13), (0, 14, 21, 15)]) (cc := cL_addPackage) (maxL := 7) (ret := (some .int)) (by decide) rfl ?_
  intro p e s m args below meth c s₁ B hml hv
  obtain ⟨rfl, hsz, hP, hD0, hE, hN, hZ⟩ := hv
  have hx := B.exec
  have hb := B.bytes
  have hr := B.returns
  have hts := atoms_spec (ws := wsL_addPackage) B.pre
  have hown : s.vm.findClass RL = some m.cls := findClass_of_methodNamed B.named
  have hlocks := B.notSynchronized
  have hl := lv_entry ([.ref h0, .int a, .int b, .int g, .int k, .ref ob]) (n := 7) (Nat.le_of_ble_eq_true rfl)
  rw [lg_entry_eq]
  generalize (lg_sl ([.ref h0, .int a, .int b, .int g, .int k, .ref ob]) ++ List.replicate (7 - (lg_sl ([.ref h0, .int a, .int b, .int g, .int k, .ref ob])).length) Slot.unset).toArray = ls at hl ⊢
  have hl : lv_has ls 7 [(0, .ref h0), (1, .int a), (2, .int b), (3, .int g), (4, .int k), (5, .ref ob)] := hl
  have hT := vx_table (x := yX4_init) B (hts (.codeWith yL_addPackage cL_addPackage 7 (some .int) [(0, 14, 17, 13), (0, 14, 21, 15)]) (by decide +kernel))
  subst hsz
  have hS : va_S (fun q => s.heap.size ≤ q) s.heap s.heap [] := va_S.rf
  have hP := o_P hP
  have h4 := hR.1.1
  refine lv_aload hx hb dL_addPackage_0 (lv_at hl 5 rfl) ?_
  refine lv_iconst (v := nI 0) hx hb dL_addPackage_2 (by decide) ?_
  refine lv_aload_n hx hb dL_addPackage_3 rfl (lv_at hl 0 rfl) ?_
  refine lv_iload_n hx hb dL_addPackage_4 rfl (lv_at hl 1 rfl) ?_
  refine lv_iload_n hx hb dL_addPackage_5 rfl (lv_at hl 2 rfl) ?_
  refine lv_iload_n hx hb dL_addPackage_6 rfl (lv_at hl 3 rfl) ?_
  refine lv_iload hx hb dL_addPackage_7 (lv_at hl 4 rfl) ?_
  refine zxc (E0 := "java/lang/IllegalStateException") (A0 := fun q => s.heap.size ≤ q) (vx_runV (As := [.int a, .int b, .int g, .int k]) (rest := [.int (nI 0), .ref ob]) ⟨hx, hb, hml, hown, hts⟩ (x_addPackage_2 l hl0 D ca sa L f h0 ta pa aT aP aS aH n K V hR a b g k hok hnp _) (cwV 4 hts gL_addPackage_X4_addPackage rfl rfl rfl (by decide +kernel) ⟨Nat.le_of_ble_eq_true rfl, Nat.le_of_ble_eq_true rfl⟩) (ztV hP hE hZ (fun _ h => h) rfl h4) rfl rfl hl.1 rfl (lv_room (Nat.le_of_ble_eq_true rfl)) dL_addPackage_9 ⟨Nat.le_of_ble_eq_true rfl, Nat.le_of_ble_eq_true rfl⟩) hS (fun _ h => h) (fun ce q9 H locs k1 k2 hS k3 k4 k5 => ?_)
  refine vx_catch (E := "java/lang/IllegalStateException") (name := "java/lang/IllegalStateException") hown [⟨0, 14, 17, 13⟩] ⟨0, 14, 21, 15⟩ [] hT (fun z hz => by rcases List.mem_singleton.mp hz with rfl; exact Or.inr ⟨by decide, "java/lang/IllegalArgumentException", hts (.classLink RL 13 "java/lang/IllegalArgumentException") (by decide +kernel), hN.1⟩) rfl (by decide) (hts (.classLink RL 15 "java/lang/IllegalStateException") (by decide +kernel)) (va_Nw.use rfl hE.2.2.1.1.2.1) k3 k4 k5 ?_
  refine W.eq (g2 := F0 m 21 ls [.ref q9]) rfl ?_
  refine lv_astore (lv' := [(6, .ref q9), (0, .ref h0), (1, .int a), (2, .int b), (3, .int g), (4, .int k), (5, .ref ob)]) hx hb dL_addPackage_21 hl (by decide) rfl (fun ls hl => ?_)
  refine lv_iconst (v := nI 2) hx hb dL_addPackage_23 (by decide) ?_
  exact vx_ret (zlrx hx hb hr hlocks dL_addPackage_24 hS)

set_option maxHeartbeats 4000000 in
set_option maxRecDepth 100000 in
theorem L_subscribe_1 (l : Launch) (hl0 : l.stackTraces = false) (D : va_G) (ca : Nat → ClassId) (sa : Nat → Nat) (L : List Nat) (f : Nat → va_E) (h0 ta pa : Nat) (aT aP aS : Nat → Nat) (aH : Nat → Nat → Nat) (n K : Nat) (V : zV) (hR : zRep L f ca h0 ta pa aT aP aS aH n K V) (q b : Int32) (hbad : iT (vNp V) q = false) (ob : Nat) (og : Nat → Int64) (sz : Nat) : vx_Met l yL_subscribe wsL_subscribe ({ frames := 10, cells := 1, slots := 6, locals := 450 }) (va_Pc [.ref h0, .int q, .int b, .ref ob] (zLp D L f ob og ca sa sz)) (va_Qi (fun (r : Int32) (_ : Unit) => r = nI 1) (fun _ _ => True) (fun q => sz ≤ q)) zX0 1 6 (fun q => sz ≤ q) := by
  refine vx_ofWH (hh := [(0, 17, 20, 20)]) (cc := cL_subscribe) (maxL := 5) (ret := (some .int)) (by decide) rfl ?_
  intro p e s m args below meth c s₁ B hml hv
  obtain ⟨rfl, hsz, hP, hD0, hE, hN, hZ⟩ := hv
  have hx := B.exec
  have hb := B.bytes
  have hr := B.returns
  have hts := atoms_spec (ws := wsL_subscribe) B.pre
  have hown : s.vm.findClass RL = some m.cls := findClass_of_methodNamed B.named
  have hlocks := B.notSynchronized
  have hl := lv_entry ([.ref h0, .int q, .int b, .ref ob]) (n := 5) (Nat.le_of_ble_eq_true rfl)
  rw [lg_entry_eq]
  generalize (lg_sl ([.ref h0, .int q, .int b, .ref ob]) ++ List.replicate (5 - (lg_sl ([.ref h0, .int q, .int b, .ref ob])).length) Slot.unset).toArray = ls at hl ⊢
  have hl : lv_has ls 5 [(0, .ref h0), (1, .int q), (2, .int b), (3, .ref ob)] := hl
  have hT := vx_table (x := yX4_init) B (hts (.codeWith yL_subscribe cL_subscribe 5 (some .int) [(0, 17, 20, 20)]) (by decide +kernel))
  subst hsz
  have hS : va_S (fun q => s.heap.size ≤ q) s.heap s.heap [] := va_S.rf
  have hP := o_P hP
  have h4 := hR.1.1
  refine lv_aload_n hx hb dL_subscribe_0 rfl (lv_at hl 3 rfl) ?_
  refine lv_iconst (v := nI 0) hx hb dL_subscribe_1 (by decide) ?_
  refine lv_aload_n hx hb dL_subscribe_2 rfl (lv_at hl 0 rfl) ?_
  refine lv_iload_n hx hb dL_subscribe_3 rfl (lv_at hl 1 rfl) ?_
  refine lv_iload_n hx hb dL_subscribe_4 rfl (lv_at hl 2 rfl) ?_
  refine zxc (E0 := "java/lang/IndexOutOfBoundsException") (A0 := fun q => s.heap.size ≤ q) (vx_runV (As := [.int q, .int b]) (rest := [.int (nI 0), .ref ob]) ⟨hx, hb, hml, hown, hts⟩ (x_subscribe_1 l hl0 D ca sa L f h0 ta pa aT aP aS aH n K V hR q b hbad _) (cwV 2 hts gL_subscribe_X4_subscribe rfl rfl rfl (by decide +kernel) ⟨Nat.le_of_ble_eq_true rfl, Nat.le_of_ble_eq_true rfl⟩) (ztV hP hE hZ (fun _ h => h) rfl h4) rfl rfl hl.1 rfl (lv_room (Nat.le_of_ble_eq_true rfl)) dL_subscribe_5 ⟨Nat.le_of_ble_eq_true rfl, Nat.le_of_ble_eq_true rfl⟩) hS (fun _ h => h) (fun ce q9 H locs k1 k2 hS k3 k4 k5 => ?_)
  refine vx_catch (E := "java/lang/IndexOutOfBoundsException") (name := "java/lang/IndexOutOfBoundsException") hown [] ⟨0, 17, 20, 20⟩ [] hT (fun z hz => by cases hz) rfl (by decide) (hts (.classLink RL 20 "java/lang/IndexOutOfBoundsException") (by decide +kernel)) (va_Nw.use rfl hE.2.2.1.1.2.2) k3 k4 k5 ?_
  refine W.eq (g2 := F0 m 20 ls [.ref q9]) rfl ?_
  refine lv_astore (lv' := [(4, .ref q9), (0, .ref h0), (1, .int q), (2, .int b), (3, .ref ob)]) hx hb dL_subscribe_20 hl (by decide) rfl (fun ls hl => ?_)
  refine lv_iconst (v := nI 1) hx hb dL_subscribe_22 (by decide) ?_
  exact vx_ret (zlrx hx hb hr hlocks dL_subscribe_23 hS)

set_option maxHeartbeats 4000000 in
set_option maxRecDepth 100000 in
theorem L_come_1 (l : Launch) (hl0 : l.stackTraces = false) (D : va_G) (ca : Nat → ClassId) (sa : Nat → Nat) (L : List Nat) (f : Nat → va_E) (h0 ta pa : Nat) (aT aP aS : Nat → Nat) (aH : Nat → Nat → Nat) (n K : Nat) (V : zV) (hR : zRep L f ca h0 ta pa aT aP aS aH n K V) (q t a b w : Int32) (hbad : (iT (vNp V) q && iT (vNt V) t) = false) (ob : Nat) (og : Nat → Int64) (sz : Nat) : vx_Met l yL_come wsL_come ({ frames := 10, cells := 1, slots := 6, locals := 450 }) (va_Pc [.ref h0, .int q, .int t, .int a, .int b, .int w, .ref ob] (zLp D L f ob og ca sa sz)) (va_Qi (fun (r : Int32) (_ : Unit) => r = nI 1) (fun _ _ => True) (fun q => sz ≤ q)) zX0 1 6 (fun q => sz ≤ q) := by
  refine vx_ofWH (hh := [(0, 23, 26, 20), (0, 23, 30, 13)]) (cc := cL_come) (maxL := 8) (ret := (some .int)) (by decide) rfl ?_
  intro p e s m args below meth c s₁ B hml hv
  obtain ⟨rfl, hsz, hP, hD0, hE, hN, hZ⟩ := hv
  have hx := B.exec
  have hb := B.bytes
  have hr := B.returns
  have hts := atoms_spec (ws := wsL_come) B.pre
  have hown : s.vm.findClass RL = some m.cls := findClass_of_methodNamed B.named
  have hlocks := B.notSynchronized
  have hl := lv_entry ([.ref h0, .int q, .int t, .int a, .int b, .int w, .ref ob]) (n := 8) (Nat.le_of_ble_eq_true rfl)
  rw [lg_entry_eq]
  generalize (lg_sl ([.ref h0, .int q, .int t, .int a, .int b, .int w, .ref ob]) ++ List.replicate (8 - (lg_sl ([.ref h0, .int q, .int t, .int a, .int b, .int w, .ref ob])).length) Slot.unset).toArray = ls at hl ⊢
  have hl : lv_has ls 8 [(0, .ref h0), (1, .int q), (2, .int t), (3, .int a), (4, .int b), (5, .int w), (6, .ref ob)] := hl
  have hT := vx_table (x := yX4_init) B (hts (.codeWith yL_come cL_come 8 (some .int) [(0, 23, 26, 20), (0, 23, 30, 13)]) (by decide +kernel))
  subst hsz
  have hS : va_S (fun q => s.heap.size ≤ q) s.heap s.heap [] := va_S.rf
  have hP := o_P hP
  have h4 := hR.1.1
  refine lv_aload hx hb dL_come_0 (lv_at hl 6 rfl) ?_
  refine lv_iconst (v := nI 0) hx hb dL_come_2 (by decide) ?_
  refine lv_aload_n hx hb dL_come_3 rfl (lv_at hl 0 rfl) ?_
  refine lv_iload_n hx hb dL_come_4 rfl (lv_at hl 1 rfl) ?_
  refine lv_iload_n hx hb dL_come_5 rfl (lv_at hl 2 rfl) ?_
  refine lv_iload_n hx hb dL_come_6 rfl (lv_at hl 3 rfl) ?_
  refine lv_iload hx hb dL_come_7 (lv_at hl 4 rfl) ?_
  refine lv_iload hx hb dL_come_9 (lv_at hl 5 rfl) ?_
  refine zxc (E0 := "java/lang/IndexOutOfBoundsException") (A0 := fun q => s.heap.size ≤ q) (vx_runV (As := [.int q, .int t, .int a, .int b, .int w]) (rest := [.int (nI 0), .ref ob]) ⟨hx, hb, hml, hown, hts⟩ (x_come_1 l hl0 D ca sa L f h0 ta pa aT aP aS aH n K V hR q t a b w hbad _) (cwV 5 hts gL_come_X4_come rfl rfl rfl (by decide +kernel) ⟨Nat.le_of_ble_eq_true rfl, Nat.le_of_ble_eq_true rfl⟩) (ztV hP hE hZ (fun _ h => h) rfl h4) rfl rfl hl.1 rfl (lv_room (Nat.le_of_ble_eq_true rfl)) dL_come_11 ⟨Nat.le_of_ble_eq_true rfl, Nat.le_of_ble_eq_true rfl⟩) hS (fun _ h => h) (fun ce q9 H locs k1 k2 hS k3 k4 k5 => ?_)
  refine vx_catch (E := "java/lang/IndexOutOfBoundsException") (name := "java/lang/IndexOutOfBoundsException") hown [] ⟨0, 23, 26, 20⟩ [⟨0, 23, 30, 13⟩] hT (fun z hz => by cases hz) rfl (by decide) (hts (.classLink RL 20 "java/lang/IndexOutOfBoundsException") (by decide +kernel)) (va_Nw.use rfl hE.2.2.1.1.2.2) k3 k4 k5 ?_
  refine W.eq (g2 := F0 m 26 ls [.ref q9]) rfl ?_
  refine lv_astore (lv' := [(7, .ref q9), (0, .ref h0), (1, .int q), (2, .int t), (3, .int a), (4, .int b), (5, .int w), (6, .ref ob)]) hx hb dL_come_26 hl (by decide) rfl (fun ls hl => ?_)
  refine lv_iconst (v := nI 1) hx hb dL_come_28 (by decide) ?_
  exact vx_ret (zlrx hx hb hr hlocks dL_come_29 hS)

set_option maxHeartbeats 4000000 in
set_option maxRecDepth 100000 in
theorem L_come_2 (l : Launch) (hl0 : l.stackTraces = false) (D : va_G) (ca : Nat → ClassId) (sa : Nat → Nat) (L : List Nat) (f : Nat → va_E) (h0 ta pa : Nat) (aT aP aS : Nat → Nat) (aH : Nat → Nat → Nat) (n K : Nat) (V : zV) (hR : zRep L f ca h0 ta pa aT aP aS aH n K V) (q t : Nat) (hq : q < vNp V) (ht : t < vNt V) (a b w : Int32) (hbad : (iB a (nI 0) (nI 55) && (iB b a (nI 55) && iB w (nI 0) (nI 20))) = false) (ob : Nat) (og : Nat → Int64) (sz : Nat) : vx_Met l yL_come wsL_come ({ frames := 10, cells := 1, slots := 6, locals := 450 }) (va_Pc [.ref h0, .int (nI q), .int (nI t), .int a, .int b, .int w, .ref ob] (zLp D L f ob og ca sa sz)) (va_Qi (fun (r : Int32) (_ : Unit) => r = nI 2) (fun _ _ => True) (fun q => sz ≤ q)) zX0 1 6 (fun q => sz ≤ q) := by
  refine vx_ofWH (hh := [(0, 23, 26, 20), (0, 23, 30, 13)]) (cc := cL_come) (maxL := 8) (ret := (some .int)) (by decide) rfl ?_
  intro p e s m args below meth c s₁ B hml hv
  obtain ⟨rfl, hsz, hP, hD0, hE, hN, hZ⟩ := hv
  have hx := B.exec
  have hb := B.bytes
  have hr := B.returns
  have hts := atoms_spec (ws := wsL_come) B.pre
  have hown : s.vm.findClass RL = some m.cls := findClass_of_methodNamed B.named
  have hlocks := B.notSynchronized
  have hl := lv_entry ([.ref h0, .int (nI q), .int (nI t), .int a, .int b, .int w, .ref ob]) (n := 8) (Nat.le_of_ble_eq_true rfl)
  rw [lg_entry_eq]
  generalize (lg_sl ([.ref h0, .int (nI q), .int (nI t), .int a, .int b, .int w, .ref ob]) ++ List.replicate (8 - (lg_sl ([.ref h0, .int (nI q), .int (nI t), .int a, .int b, .int w, .ref ob])).length) Slot.unset).toArray = ls at hl ⊢
  have hl : lv_has ls 8 [(0, .ref h0), (1, .int (nI q)), (2, .int (nI t)), (3, .int a), (4, .int b), (5, .int w), (6, .ref ob)] := hl
  have hT := vx_table (x := yX4_init) B (hts (.codeWith yL_come cL_come 8 (some .int) [(0, 23, 26, 20), (0, 23, 30, 13)]) (by decide +kernel))
  subst hsz
  have hS : va_S (fun q => s.heap.size ≤ q) s.heap s.heap [] := va_S.rf
  have hP := o_P hP
  have h4 := hR.1.1
  refine lv_aload hx hb dL_come_0 (lv_at hl 6 rfl) ?_
  refine lv_iconst (v := nI 0) hx hb dL_come_2 (by decide) ?_
  refine lv_aload_n hx hb dL_come_3 rfl (lv_at hl 0 rfl) ?_
  refine lv_iload_n hx hb dL_come_4 rfl (lv_at hl 1 rfl) ?_
  refine lv_iload_n hx hb dL_come_5 rfl (lv_at hl 2 rfl) ?_
  refine lv_iload_n hx hb dL_come_6 rfl (lv_at hl 3 rfl) ?_
  refine lv_iload hx hb dL_come_7 (lv_at hl 4 rfl) ?_
  refine lv_iload hx hb dL_come_9 (lv_at hl 5 rfl) ?_
  refine zxc (E0 := "java/lang/IllegalArgumentException") (A0 := fun q => s.heap.size ≤ q) (vx_runV (As := [.int (nI q), .int (nI t), .int a, .int b, .int w]) (rest := [.int (nI 0), .ref ob]) ⟨hx, hb, hml, hown, hts⟩ (x_come_2 l hl0 D ca sa L f h0 ta pa aT aP aS aH n K V hR q t hq ht a b w hbad _) (cwV 5 hts gL_come_X4_come rfl rfl rfl (by decide +kernel) ⟨Nat.le_of_ble_eq_true rfl, Nat.le_of_ble_eq_true rfl⟩) (ztV hP hE hZ (fun _ h => h) rfl h4) rfl rfl hl.1 rfl (lv_room (Nat.le_of_ble_eq_true rfl)) dL_come_11 ⟨Nat.le_of_ble_eq_true rfl, Nat.le_of_ble_eq_true rfl⟩) hS (fun _ h => h) (fun ce q9 H locs k1 k2 hS k3 k4 k5 => ?_)
  refine vx_catch (E := "java/lang/IllegalArgumentException") (name := "java/lang/IllegalArgumentException") hown [⟨0, 23, 26, 20⟩] ⟨0, 23, 30, 13⟩ [] hT (fun z hz => by rcases List.mem_singleton.mp hz with rfl; exact Or.inr ⟨by decide, "java/lang/IndexOutOfBoundsException", hts (.classLink RL 20 "java/lang/IndexOutOfBoundsException") (by decide +kernel), hN.2.1⟩) rfl (by decide) (hts (.classLink RL 13 "java/lang/IllegalArgumentException") (by decide +kernel)) (va_Nw.use rfl hE.2.2.1.1.1) k3 k4 k5 ?_
  refine W.eq (g2 := F0 m 30 ls [.ref q9]) rfl ?_
  refine lv_astore (lv' := [(7, .ref q9), (0, .ref h0), (1, .int (nI q)), (2, .int (nI t)), (3, .int a), (4, .int b), (5, .int w), (6, .ref ob)]) hx hb dL_come_30 hl (by decide) rfl (fun ls hl => ?_)
  refine lv_iconst (v := nI 2) hx hb dL_come_32 (by decide) ?_
  exact vx_ret (zlrx hx hb hr hlocks dL_come_33 hS)

set_option maxHeartbeats 4000000 in
set_option maxRecDepth 100000 in
theorem L_go_1 (l : Launch) (hl0 : l.stackTraces = false) (D : va_G) (ca : Nat → ClassId) (sa : Nat → Nat) (L : List Nat) (f : Nat → va_E) (h0 ta pa : Nat) (aT aP aS : Nat → Nat) (aH : Nat → Nat → Nat) (n K : Nat) (V : zV) (hR : zRep L f ca h0 ta pa aT aP aS aH n K V) (q t : Int32) (hbad : (iT (vNp V) q && iT (vNt V) t) = false) (ob : Nat) (og : Nat → Int64) (sz : Nat) : vx_Met l yL_go wsL_go ({ frames := 10, cells := 1, slots := 6, locals := 450 }) (va_Pc [.ref h0, .int q, .int t] (zLp D L f ob og ca sa sz)) (va_Qi (fun (r : Int32) (_ : Unit) => r = nI 1) (fun _ _ => True) (fun q => sz ≤ q)) zX0 1 6 (fun q => sz ≤ q) := by
  refine vx_ofWH (hh := [(0, 6, 9, 20), (0, 6, 12, 15)]) (cc := cL_go) (maxL := 4) (ret := (some .int)) (by decide) rfl ?_
  intro p e s m args below meth c s₁ B hml hv
  obtain ⟨rfl, hsz, hP, hD0, hE, hN, hZ⟩ := hv
  have hx := B.exec
  have hb := B.bytes
  have hr := B.returns
  have hts := atoms_spec (ws := wsL_go) B.pre
  have hown : s.vm.findClass RL = some m.cls := findClass_of_methodNamed B.named
  have hlocks := B.notSynchronized
  have hl := lv_entry ([.ref h0, .int q, .int t]) (n := 4) (Nat.le_of_ble_eq_true rfl)
  rw [lg_entry_eq]
  generalize (lg_sl ([.ref h0, .int q, .int t]) ++ List.replicate (4 - (lg_sl ([.ref h0, .int q, .int t])).length) Slot.unset).toArray = ls at hl ⊢
  have hl : lv_has ls 4 [(0, .ref h0), (1, .int q), (2, .int t)] := hl
  have hT := vx_table (x := yX4_init) B (hts (.codeWith yL_go cL_go 4 (some .int) [(0, 6, 9, 20), (0, 6, 12, 15)]) (by decide +kernel))
  subst hsz
  have hS : va_S (fun q => s.heap.size ≤ q) s.heap s.heap [] := va_S.rf
  have hP := o_P hP
  have h4 := hR.1.1
  refine lv_aload_n hx hb dL_go_0 rfl (lv_at hl 0 rfl) ?_
  refine lv_iload_n hx hb dL_go_1 rfl (lv_at hl 1 rfl) ?_
  refine lv_iload_n hx hb dL_go_2 rfl (lv_at hl 2 rfl) ?_
  refine zxc (E0 := "java/lang/IndexOutOfBoundsException") (A0 := fun q => s.heap.size ≤ q) (vx_runV (As := [.int q, .int t]) (rest := []) ⟨hx, hb, hml, hown, hts⟩ (x_go_1 l hl0 D ca sa L f h0 ta pa aT aP aS aH n K V hR q t hbad _) (cwV 2 hts gL_go_X4_go rfl rfl rfl (by decide +kernel) ⟨Nat.le_of_ble_eq_true rfl, Nat.le_of_ble_eq_true rfl⟩) (ztV hP hE hZ (fun _ h => h) rfl h4) rfl rfl hl.1 rfl (lv_room (Nat.le_of_ble_eq_true rfl)) dL_go_3 ⟨Nat.le_of_ble_eq_true rfl, Nat.le_of_ble_eq_true rfl⟩) hS (fun _ h => h) (fun ce q9 H locs k1 k2 hS k3 k4 k5 => ?_)
  refine vx_catch (E := "java/lang/IndexOutOfBoundsException") (name := "java/lang/IndexOutOfBoundsException") hown [] ⟨0, 6, 9, 20⟩ [⟨0, 6, 12, 15⟩] hT (fun z hz => by cases hz) rfl (by decide) (hts (.classLink RL 20 "java/lang/IndexOutOfBoundsException") (by decide +kernel)) (va_Nw.use rfl hE.2.2.1.1.2.2) k3 k4 k5 ?_
  refine W.eq (g2 := F0 m 9 ls [.ref q9]) rfl ?_
  refine lv_astore_n (lv' := [(3, .ref q9), (0, .ref h0), (1, .int q), (2, .int t)]) hx hb dL_go_9 rfl hl (by decide) rfl (fun ls hl => ?_)
  refine lv_iconst (v := nI 1) hx hb dL_go_10 (by decide) ?_
  exact vx_ret (zlrx hx hb hr hlocks dL_go_11 hS)

set_option maxHeartbeats 4000000 in
set_option maxRecDepth 100000 in
theorem L_go_2 (l : Launch) (hl0 : l.stackTraces = false) (D : va_G) (ca : Nat → ClassId) (sa : Nat → Nat) (L : List Nat) (f : Nat → va_E) (h0 ta pa : Nat) (aT aP aS : Nat → Nat) (aH : Nat → Nat → Nat) (n K : Nat) (V : zV) (hR : zRep L f ca h0 ta pa aT aP aS aH n K V) (q t : Nat) (hq : q < vNp V) (ht : t < vNt V) (hbad : zOn (vTd V) (vL V q t) = false) (ob : Nat) (og : Nat → Int64) (sz : Nat) : vx_Met l yL_go wsL_go ({ frames := 10, cells := 1, slots := 6, locals := 450 }) (va_Pc [.ref h0, .int (nI q), .int (nI t)] (zLp D L f ob og ca sa sz)) (va_Qi (fun (r : Int32) (_ : Unit) => r = nI 2) (fun _ _ => True) (fun q => sz ≤ q)) zX0 1 6 (fun q => sz ≤ q) := by
  refine vx_ofWH (hh := [(0, 6, 9, 20), (0, 6, 12, 15)]) (cc := cL_go) (maxL := 4) (ret := (some .int)) (by decide) rfl ?_
  intro p e s m args below meth c s₁ B hml hv
  obtain ⟨rfl, hsz, hP, hD0, hE, hN, hZ⟩ := hv
  have hx := B.exec
  have hb := B.bytes
  have hr := B.returns
  have hts := atoms_spec (ws := wsL_go) B.pre
  have hown : s.vm.findClass RL = some m.cls := findClass_of_methodNamed B.named
  have hlocks := B.notSynchronized
  have hl := lv_entry ([.ref h0, .int (nI q), .int (nI t)]) (n := 4) (Nat.le_of_ble_eq_true rfl)
  rw [lg_entry_eq]
  generalize (lg_sl ([.ref h0, .int (nI q), .int (nI t)]) ++ List.replicate (4 - (lg_sl ([.ref h0, .int (nI q), .int (nI t)])).length) Slot.unset).toArray = ls at hl ⊢
  have hl : lv_has ls 4 [(0, .ref h0), (1, .int (nI q)), (2, .int (nI t))] := hl
  have hT := vx_table (x := yX4_init) B (hts (.codeWith yL_go cL_go 4 (some .int) [(0, 6, 9, 20), (0, 6, 12, 15)]) (by decide +kernel))
  subst hsz
  have hS : va_S (fun q => s.heap.size ≤ q) s.heap s.heap [] := va_S.rf
  have hP := o_P hP
  have h4 := hR.1.1
  refine lv_aload_n hx hb dL_go_0 rfl (lv_at hl 0 rfl) ?_
  refine lv_iload_n hx hb dL_go_1 rfl (lv_at hl 1 rfl) ?_
  refine lv_iload_n hx hb dL_go_2 rfl (lv_at hl 2 rfl) ?_
  refine zxc (E0 := "java/lang/IllegalStateException") (A0 := fun q => s.heap.size ≤ q) (vx_runV (As := [.int (nI q), .int (nI t)]) (rest := []) ⟨hx, hb, hml, hown, hts⟩ (x_go_2 l hl0 D ca sa L f h0 ta pa aT aP aS aH n K V hR q t hq ht hbad _) (cwV 2 hts gL_go_X4_go rfl rfl rfl (by decide +kernel) ⟨Nat.le_of_ble_eq_true rfl, Nat.le_of_ble_eq_true rfl⟩) (ztV hP hE hZ (fun _ h => h) rfl h4) rfl rfl hl.1 rfl (lv_room (Nat.le_of_ble_eq_true rfl)) dL_go_3 ⟨Nat.le_of_ble_eq_true rfl, Nat.le_of_ble_eq_true rfl⟩) hS (fun _ h => h) (fun ce q9 H locs k1 k2 hS k3 k4 k5 => ?_)
  refine vx_catch (E := "java/lang/IllegalStateException") (name := "java/lang/IllegalStateException") hown [⟨0, 6, 9, 20⟩] ⟨0, 6, 12, 15⟩ [] hT (fun z hz => by rcases List.mem_singleton.mp hz with rfl; exact Or.inr ⟨by decide, "java/lang/IndexOutOfBoundsException", hts (.classLink RL 20 "java/lang/IndexOutOfBoundsException") (by decide +kernel), hN.2.2.1⟩) rfl (by decide) (hts (.classLink RL 15 "java/lang/IllegalStateException") (by decide +kernel)) (va_Nw.use rfl hE.2.2.1.1.2.1) k3 k4 k5 ?_
  refine W.eq (g2 := F0 m 12 ls [.ref q9]) rfl ?_
  refine lv_astore_n (lv' := [(3, .ref q9), (0, .ref h0), (1, .int (nI q)), (2, .int (nI t))]) hx hb dL_go_12 rfl hl (by decide) rfl (fun ls hl => ?_)
  refine lv_iconst (v := nI 2) hx hb dL_go_13 (by decide) ?_
  exact vx_ret (zlrx hx hb hr hlocks dL_go_14 hS)

set_option maxHeartbeats 4000000 in
set_option maxRecDepth 100000 in
theorem L_pass_1 (l : Launch) (hl0 : l.stackTraces = false) (D : va_G) (ca : Nat → ClassId) (sa : Nat → Nat) (L : List Nat) (f : Nat → va_E) (h0 ta pa : Nat) (aT aP aS : Nat → Nat) (aH : Nat → Nat → Nat) (n K : Nat) (V : zV) (hR : zRep L f ca h0 ta pa aT aP aS aH n K V) (d : Int32) (hbad : iB d (nI 1) (nI 20000) = false) (ob : Nat) (og : Nat → Int64) (sz : Nat) : vx_Met l yL_pass wsL_pass ({ frames := 10, cells := 1, slots := 6, locals := 450 }) (va_Pc [.ref h0, .int d, .ref ob] (zLp D L f ob og ca sa sz)) (va_Qi (fun (r : Int32) (_ : Unit) => r = nI 1) (fun _ _ => True) (fun q => sz ≤ q)) zX0 1 6 (fun q => sz ≤ q) := by
  refine vx_ofWH (hh := [(0, 9, 12, 13), (0, 9, 15, 15)]) (cc := cL_pass) (maxL := 4) (ret := (some .int)) (by decide) rfl ?_
  intro p e s m args below meth c s₁ B hml hv
  obtain ⟨rfl, hsz, hP, hD0, hE, hN, hZ⟩ := hv
  have hx := B.exec
  have hb := B.bytes
  have hr := B.returns
  have hts := atoms_spec (ws := wsL_pass) B.pre
  have hown : s.vm.findClass RL = some m.cls := findClass_of_methodNamed B.named
  have hlocks := B.notSynchronized
  have hl := lv_entry ([.ref h0, .int d, .ref ob]) (n := 4) (Nat.le_of_ble_eq_true rfl)
  rw [lg_entry_eq]
  generalize (lg_sl ([.ref h0, .int d, .ref ob]) ++ List.replicate (4 - (lg_sl ([.ref h0, .int d, .ref ob])).length) Slot.unset).toArray = ls at hl ⊢
  have hl : lv_has ls 4 [(0, .ref h0), (1, .int d), (2, .ref ob)] := hl
  have hT := vx_table (x := yX4_init) B (hts (.codeWith yL_pass cL_pass 4 (some .int) [(0, 9, 12, 13), (0, 9, 15, 15)]) (by decide +kernel))
  subst hsz
  have hS : va_S (fun q => s.heap.size ≤ q) s.heap s.heap [] := va_S.rf
  have hP := o_P hP
  have h4 := hR.1.1
  refine lv_aload_n hx hb dL_pass_0 rfl (lv_at hl 2 rfl) ?_
  refine lv_iconst (v := nI 0) hx hb dL_pass_1 (by decide) ?_
  refine lv_aload_n hx hb dL_pass_2 rfl (lv_at hl 0 rfl) ?_
  refine lv_iload_n hx hb dL_pass_3 rfl (lv_at hl 1 rfl) ?_
  refine zxc (E0 := "java/lang/IllegalArgumentException") (A0 := fun q => s.heap.size ≤ q) (vx_runV (As := [.int d]) (rest := [.int (nI 0), .ref ob]) ⟨hx, hb, hml, hown, hts⟩ (x_pass_1 l hl0 D ca sa L f h0 ta pa aT aP aS aH n K V hR d hbad _) (cwV 1 hts gL_pass_X4_pass rfl rfl rfl (by decide +kernel) ⟨Nat.le_of_ble_eq_true rfl, Nat.le_of_ble_eq_true rfl⟩) (ztV hP hE hZ (fun _ h => h) rfl h4) rfl rfl hl.1 rfl (lv_room (Nat.le_of_ble_eq_true rfl)) dL_pass_4 ⟨Nat.le_of_ble_eq_true rfl, Nat.le_of_ble_eq_true rfl⟩) hS (fun _ h => h) (fun ce q9 H locs k1 k2 hS k3 k4 k5 => ?_)
  refine vx_catch (E := "java/lang/IllegalArgumentException") (name := "java/lang/IllegalArgumentException") hown [] ⟨0, 9, 12, 13⟩ [⟨0, 9, 15, 15⟩] hT (fun z hz => by cases hz) rfl (by decide) (hts (.classLink RL 13 "java/lang/IllegalArgumentException") (by decide +kernel)) (va_Nw.use rfl hE.2.2.1.1.1) k3 k4 k5 ?_
  refine W.eq (g2 := F0 m 12 ls [.ref q9]) rfl ?_
  refine lv_astore_n (lv' := [(3, .ref q9), (0, .ref h0), (1, .int d), (2, .ref ob)]) hx hb dL_pass_12 rfl hl (by decide) rfl (fun ls hl => ?_)
  refine lv_iconst (v := nI 1) hx hb dL_pass_13 (by decide) ?_
  exact vx_ret (zlrx hx hb hr hlocks dL_pass_14 hS)

set_option maxHeartbeats 4000000 in
set_option maxRecDepth 100000 in
theorem L_pass_2 (l : Launch) (hl0 : l.stackTraces = false) (D : va_G) (ca : Nat → ClassId) (sa : Nat → Nat) (L : List Nat) (f : Nat → va_E) (h0 ta pa : Nat) (aT aP aS : Nat → Nat) (aH : Nat → Nat → Nat) (n K : Nat) (V : zV) (hR : zRep L f ca h0 ta pa aT aP aS aH n K V) (d : Nat) (h1 : 1 ≤ d) (h2 : d ≤ 20000) (h3 : 20000 < vTd V + d) (ob : Nat) (og : Nat → Int64) (sz : Nat) : vx_Met l yL_pass wsL_pass ({ frames := 10, cells := 1, slots := 6, locals := 450 }) (va_Pc [.ref h0, .int (nI d), .ref ob] (zLp D L f ob og ca sa sz)) (va_Qi (fun (r : Int32) (_ : Unit) => r = nI 2) (fun _ _ => True) (fun q => sz ≤ q)) zX0 1 6 (fun q => sz ≤ q) := by
  refine vx_ofWH (hh := [(0, 9, 12, 13), (0, 9, 15, 15)]) (cc := cL_pass) (maxL := 4) (ret := (some .int)) (by decide) rfl ?_
  intro p e s m args below meth c s₁ B hml hv
  obtain ⟨rfl, hsz, hP, hD0, hE, hN, hZ⟩ := hv
  have hx := B.exec
  have hb := B.bytes
  have hr := B.returns
  have hts := atoms_spec (ws := wsL_pass) B.pre
  have hown : s.vm.findClass RL = some m.cls := findClass_of_methodNamed B.named
  have hlocks := B.notSynchronized
  have hl := lv_entry ([.ref h0, .int (nI d), .ref ob]) (n := 4) (Nat.le_of_ble_eq_true rfl)
  rw [lg_entry_eq]
  generalize (lg_sl ([.ref h0, .int (nI d), .ref ob]) ++ List.replicate (4 - (lg_sl ([.ref h0, .int (nI d), .ref ob])).length) Slot.unset).toArray = ls at hl ⊢
  have hl : lv_has ls 4 [(0, .ref h0), (1, .int (nI d)), (2, .ref ob)] := hl
  have hT := vx_table (x := yX4_init) B (hts (.codeWith yL_pass cL_pass 4 (some .int) [(0, 9, 12, 13), (0, 9, 15, 15)]) (by decide +kernel))
  subst hsz
  have hS : va_S (fun q => s.heap.size ≤ q) s.heap s.heap [] := va_S.rf
  have hP := o_P hP
  have h4 := hR.1.1
  refine lv_aload_n hx hb dL_pass_0 rfl (lv_at hl 2 rfl) ?_
  refine lv_iconst (v := nI 0) hx hb dL_pass_1 (by decide) ?_
  refine lv_aload_n hx hb dL_pass_2 rfl (lv_at hl 0 rfl) ?_
  refine lv_iload_n hx hb dL_pass_3 rfl (lv_at hl 1 rfl) ?_
  refine zxc (E0 := "java/lang/IllegalStateException") (A0 := fun q => s.heap.size ≤ q) (vx_runV (As := [.int (nI d)]) (rest := [.int (nI 0), .ref ob]) ⟨hx, hb, hml, hown, hts⟩ (x_pass_2 l hl0 D ca sa L f h0 ta pa aT aP aS aH n K V hR d h1 h2 h3 _) (cwV 1 hts gL_pass_X4_pass rfl rfl rfl (by decide +kernel) ⟨Nat.le_of_ble_eq_true rfl, Nat.le_of_ble_eq_true rfl⟩) (ztV hP hE hZ (fun _ h => h) rfl h4) rfl rfl hl.1 rfl (lv_room (Nat.le_of_ble_eq_true rfl)) dL_pass_4 ⟨Nat.le_of_ble_eq_true rfl, Nat.le_of_ble_eq_true rfl⟩) hS (fun _ h => h) (fun ce q9 H locs k1 k2 hS k3 k4 k5 => ?_)
  refine vx_catch (E := "java/lang/IllegalStateException") (name := "java/lang/IllegalStateException") hown [⟨0, 9, 12, 13⟩] ⟨0, 9, 15, 15⟩ [] hT (fun z hz => by rcases List.mem_singleton.mp hz with rfl; exact Or.inr ⟨by decide, "java/lang/IllegalArgumentException", hts (.classLink RL 13 "java/lang/IllegalArgumentException") (by decide +kernel), hN.1⟩) rfl (by decide) (hts (.classLink RL 15 "java/lang/IllegalStateException") (by decide +kernel)) (va_Nw.use rfl hE.2.2.1.1.2.1) k3 k4 k5 ?_
  refine W.eq (g2 := F0 m 15 ls [.ref q9]) rfl ?_
  refine lv_astore_n (lv' := [(3, .ref q9), (0, .ref h0), (1, .int (nI d)), (2, .ref ob)]) hx hb dL_pass_15 rfl hl (by decide) rfl (fun ls hl => ?_)
  refine lv_iconst (v := nI 2) hx hb dL_pass_16 (by decide) ?_
  exact vx_ret (zlrx hx hb hr hlocks dL_pass_17 hS)

set_option maxHeartbeats 4000000 in
set_option maxRecDepth 100000 in
theorem L_isSubscribed_1 (l : Launch) (hl0 : l.stackTraces = false) (D : va_G) (ca : Nat → ClassId) (sa : Nat → Nat) (L : List Nat) (f : Nat → va_E) (h0 ta pa : Nat) (aT aP aS : Nat → Nat) (aH : Nat → Nat → Nat) (n K : Nat) (V : zV) (hR : zRep L f ca h0 ta pa aT aP aS aH n K V) (q d : Int32) (hbad : iT (vNp V) q = false) (ob : Nat) (og : Nat → Int64) (sz : Nat) : vx_Met l yL_isSubscribed wsL_isSubscribed ({ frames := 10, cells := 1, slots := 6, locals := 450 }) (va_Pc [.ref h0, .int q, .int d, .ref ob] (zLp D L f ob og ca sa sz)) (va_Qi (fun (r : Int32) (_ : Unit) => r = nI 1) (fun _ _ => True) (fun q => sz ≤ q)) zX0 1 6 (fun q => sz ≤ q) := by
  refine vx_ofWH (hh := [(0, 17, 20, 20), (0, 17, 24, 13)]) (cc := cL_isSubscribed) (maxL := 5) (ret := (some .int)) (by decide) rfl ?_
  intro p e s m args below meth c s₁ B hml hv
  obtain ⟨rfl, hsz, hP, hD0, hE, hN, hZ⟩ := hv
  have hx := B.exec
  have hb := B.bytes
  have hr := B.returns
  have hts := atoms_spec (ws := wsL_isSubscribed) B.pre
  have hown : s.vm.findClass RL = some m.cls := findClass_of_methodNamed B.named
  have hlocks := B.notSynchronized
  have hl := lv_entry ([.ref h0, .int q, .int d, .ref ob]) (n := 5) (Nat.le_of_ble_eq_true rfl)
  rw [lg_entry_eq]
  generalize (lg_sl ([.ref h0, .int q, .int d, .ref ob]) ++ List.replicate (5 - (lg_sl ([.ref h0, .int q, .int d, .ref ob])).length) Slot.unset).toArray = ls at hl ⊢
  have hl : lv_has ls 5 [(0, .ref h0), (1, .int q), (2, .int d), (3, .ref ob)] := hl
  have hT := vx_table (x := yX4_init) B (hts (.codeWith yL_isSubscribed cL_isSubscribed 5 (some .int) [(0, 17, 20, 20), (0, 17, 24, 13)]) (by decide +kernel))
  subst hsz
  have hS : va_S (fun q => s.heap.size ≤ q) s.heap s.heap [] := va_S.rf
  have hP := o_P hP
  have h4 := hR.1.1
  refine lv_aload_n hx hb dL_isSubscribed_0 rfl (lv_at hl 3 rfl) ?_
  refine lv_iconst (v := nI 0) hx hb dL_isSubscribed_1 (by decide) ?_
  refine lv_aload_n hx hb dL_isSubscribed_2 rfl (lv_at hl 0 rfl) ?_
  refine lv_iload_n hx hb dL_isSubscribed_3 rfl (lv_at hl 1 rfl) ?_
  refine lv_iload_n hx hb dL_isSubscribed_4 rfl (lv_at hl 2 rfl) ?_
  refine zxc (E0 := "java/lang/IndexOutOfBoundsException") (A0 := fun q => s.heap.size ≤ q) (vx_runV (As := [.int q, .int d]) (rest := [.int (nI 0), .ref ob]) ⟨hx, hb, hml, hown, hts⟩ (x_isSub_1 l hl0 D ca sa L f h0 ta pa aT aP aS aH n K V hR q d hbad _) (cwV 2 hts gL_isSubscribed_X4_isSubscribed rfl rfl rfl (by decide +kernel) ⟨Nat.le_of_ble_eq_true rfl, Nat.le_of_ble_eq_true rfl⟩) (ztV hP hE hZ (fun _ h => h) rfl h4) rfl rfl hl.1 rfl (lv_room (Nat.le_of_ble_eq_true rfl)) dL_isSubscribed_5 ⟨Nat.le_of_ble_eq_true rfl, Nat.le_of_ble_eq_true rfl⟩) hS (fun _ h => h) (fun ce q9 H locs k1 k2 hS k3 k4 k5 => ?_)
  refine vx_catch (E := "java/lang/IndexOutOfBoundsException") (name := "java/lang/IndexOutOfBoundsException") hown [] ⟨0, 17, 20, 20⟩ [⟨0, 17, 24, 13⟩] hT (fun z hz => by cases hz) rfl (by decide) (hts (.classLink RL 20 "java/lang/IndexOutOfBoundsException") (by decide +kernel)) (va_Nw.use rfl hE.2.2.1.1.2.2) k3 k4 k5 ?_
  refine W.eq (g2 := F0 m 20 ls [.ref q9]) rfl ?_
  refine lv_astore (lv' := [(4, .ref q9), (0, .ref h0), (1, .int q), (2, .int d), (3, .ref ob)]) hx hb dL_isSubscribed_20 hl (by decide) rfl (fun ls hl => ?_)
  refine lv_iconst (v := nI 1) hx hb dL_isSubscribed_22 (by decide) ?_
  exact vx_ret (zlrx hx hb hr hlocks dL_isSubscribed_23 hS)

set_option maxHeartbeats 4000000 in
set_option maxRecDepth 100000 in
theorem L_isSubscribed_2 (l : Launch) (hl0 : l.stackTraces = false) (D : va_G) (ca : Nat → ClassId) (sa : Nat → Nat) (L : List Nat) (f : Nat → va_E) (h0 ta pa : Nat) (aT aP aS : Nat → Nat) (aH : Nat → Nat → Nat) (n K : Nat) (V : zV) (hR : zRep L f ca h0 ta pa aT aP aS aH n K V) (q : Int32) (d : Int32) (hok : iT (vNp V) q = true) (hbad : iB d (nI 0) (nI (vTd V)) = false) (ob : Nat) (og : Nat → Int64) (sz : Nat) : vx_Met l yL_isSubscribed wsL_isSubscribed ({ frames := 10, cells := 1, slots := 6, locals := 450 }) (va_Pc [.ref h0, .int q, .int d, .ref ob] (zLp D L f ob og ca sa sz)) (va_Qi (fun (r : Int32) (_ : Unit) => r = nI 2) (fun _ _ => True) (fun q => sz ≤ q)) zX0 1 6 (fun q => sz ≤ q) := by
  refine vx_ofWH (hh := [(0, 17, 20, 20), (0, 17, 24, 13)]) (cc := cL_isSubscribed) (maxL := 5) (ret := (some .int)) (by decide) rfl ?_
  intro p e s m args below meth c s₁ B hml hv
  obtain ⟨rfl, hsz, hP, hD0, hE, hN, hZ⟩ := hv
  have hx := B.exec
  have hb := B.bytes
  have hr := B.returns
  have hts := atoms_spec (ws := wsL_isSubscribed) B.pre
  have hown : s.vm.findClass RL = some m.cls := findClass_of_methodNamed B.named
  have hlocks := B.notSynchronized
  have hl := lv_entry ([.ref h0, .int q, .int d, .ref ob]) (n := 5) (Nat.le_of_ble_eq_true rfl)
  rw [lg_entry_eq]
  generalize (lg_sl ([.ref h0, .int q, .int d, .ref ob]) ++ List.replicate (5 - (lg_sl ([.ref h0, .int q, .int d, .ref ob])).length) Slot.unset).toArray = ls at hl ⊢
  have hl : lv_has ls 5 [(0, .ref h0), (1, .int q), (2, .int d), (3, .ref ob)] := hl
  have hT := vx_table (x := yX4_init) B (hts (.codeWith yL_isSubscribed cL_isSubscribed 5 (some .int) [(0, 17, 20, 20), (0, 17, 24, 13)]) (by decide +kernel))
  subst hsz
  have hS : va_S (fun q => s.heap.size ≤ q) s.heap s.heap [] := va_S.rf
  have hP := o_P hP
  have h4 := hR.1.1
  refine lv_aload_n hx hb dL_isSubscribed_0 rfl (lv_at hl 3 rfl) ?_
  refine lv_iconst (v := nI 0) hx hb dL_isSubscribed_1 (by decide) ?_
  refine lv_aload_n hx hb dL_isSubscribed_2 rfl (lv_at hl 0 rfl) ?_
  refine lv_iload_n hx hb dL_isSubscribed_3 rfl (lv_at hl 1 rfl) ?_
  refine lv_iload_n hx hb dL_isSubscribed_4 rfl (lv_at hl 2 rfl) ?_
  refine zxc (E0 := "java/lang/IllegalArgumentException") (A0 := fun q => s.heap.size ≤ q) (vx_runV (As := [.int q, .int d]) (rest := [.int (nI 0), .ref ob]) ⟨hx, hb, hml, hown, hts⟩ (x_isSub_2 l hl0 D ca sa L f h0 ta pa aT aP aS aH n K V hR q d hok hbad _) (cwV 2 hts gL_isSubscribed_X4_isSubscribed rfl rfl rfl (by decide +kernel) ⟨Nat.le_of_ble_eq_true rfl, Nat.le_of_ble_eq_true rfl⟩) (ztV hP hE hZ (fun _ h => h) rfl h4) rfl rfl hl.1 rfl (lv_room (Nat.le_of_ble_eq_true rfl)) dL_isSubscribed_5 ⟨Nat.le_of_ble_eq_true rfl, Nat.le_of_ble_eq_true rfl⟩) hS (fun _ h => h) (fun ce q9 H locs k1 k2 hS k3 k4 k5 => ?_)
  refine vx_catch (E := "java/lang/IllegalArgumentException") (name := "java/lang/IllegalArgumentException") hown [⟨0, 17, 20, 20⟩] ⟨0, 17, 24, 13⟩ [] hT (fun z hz => by rcases List.mem_singleton.mp hz with rfl; exact Or.inr ⟨by decide, "java/lang/IndexOutOfBoundsException", hts (.classLink RL 20 "java/lang/IndexOutOfBoundsException") (by decide +kernel), hN.2.1⟩) rfl (by decide) (hts (.classLink RL 13 "java/lang/IllegalArgumentException") (by decide +kernel)) (va_Nw.use rfl hE.2.2.1.1.1) k3 k4 k5 ?_
  refine W.eq (g2 := F0 m 24 ls [.ref q9]) rfl ?_
  refine lv_astore (lv' := [(4, .ref q9), (0, .ref h0), (1, .int q), (2, .int d), (3, .ref ob)]) hx hb dL_isSubscribed_24 hl (by decide) rfl (fun ls hl => ?_)
  refine lv_iconst (v := nI 2) hx hb dL_isSubscribed_26 (by decide) ?_
  exact vx_ret (zlrx hx hb hr hlocks dL_isSubscribed_27 hS)

set_option maxHeartbeats 4000000 in
set_option maxRecDepth 100000 in
theorem L_isIn_1 (l : Launch) (hl0 : l.stackTraces = false) (D : va_G) (ca : Nat → ClassId) (sa : Nat → Nat) (L : List Nat) (f : Nat → va_E) (h0 ta pa : Nat) (aT aP aS : Nat → Nat) (aH : Nat → Nat → Nat) (n K : Nat) (V : zV) (hR : zRep L f ca h0 ta pa aT aP aS aH n K V) (q t d : Int32) (hbad : (iT (vNp V) q && iT (vNt V) t) = false) (ob : Nat) (og : Nat → Int64) (sz : Nat) : vx_Met l yL_isIn wsL_isIn ({ frames := 10, cells := 1, slots := 6, locals := 450 }) (va_Pc [.ref h0, .int q, .int t, .int d, .ref ob] (zLp D L f ob og ca sa sz)) (va_Qi (fun (r : Int32) (_ : Unit) => r = nI 1) (fun _ _ => True) (fun q => sz ≤ q)) zX0 1 6 (fun q => sz ≤ q) := by
  refine vx_ofWH (hh := [(0, 19, 22, 20), (0, 19, 26, 13)]) (cc := cL_isIn) (maxL := 6) (ret := (some .int)) (by decide) rfl ?_
  intro p e s m args below meth c s₁ B hml hv
  obtain ⟨rfl, hsz, hP, hD0, hE, hN, hZ⟩ := hv
  have hx := B.exec
  have hb := B.bytes
  have hr := B.returns
  have hts := atoms_spec (ws := wsL_isIn) B.pre
  have hown : s.vm.findClass RL = some m.cls := findClass_of_methodNamed B.named
  have hlocks := B.notSynchronized
  have hl := lv_entry ([.ref h0, .int q, .int t, .int d, .ref ob]) (n := 6) (Nat.le_of_ble_eq_true rfl)
  rw [lg_entry_eq]
  generalize (lg_sl ([.ref h0, .int q, .int t, .int d, .ref ob]) ++ List.replicate (6 - (lg_sl ([.ref h0, .int q, .int t, .int d, .ref ob])).length) Slot.unset).toArray = ls at hl ⊢
  have hl : lv_has ls 6 [(0, .ref h0), (1, .int q), (2, .int t), (3, .int d), (4, .ref ob)] := hl
  have hT := vx_table (x := yX4_init) B (hts (.codeWith yL_isIn cL_isIn 6 (some .int) [(0, 19, 22, 20), (0, 19, 26, 13)]) (by decide +kernel))
  subst hsz
  have hS : va_S (fun q => s.heap.size ≤ q) s.heap s.heap [] := va_S.rf
  have hP := o_P hP
  have h4 := hR.1.1
  refine lv_aload hx hb dL_isIn_0 (lv_at hl 4 rfl) ?_
  refine lv_iconst (v := nI 0) hx hb dL_isIn_2 (by decide) ?_
  refine lv_aload_n hx hb dL_isIn_3 rfl (lv_at hl 0 rfl) ?_
  refine lv_iload_n hx hb dL_isIn_4 rfl (lv_at hl 1 rfl) ?_
  refine lv_iload_n hx hb dL_isIn_5 rfl (lv_at hl 2 rfl) ?_
  refine lv_iload_n hx hb dL_isIn_6 rfl (lv_at hl 3 rfl) ?_
  refine zxc (E0 := "java/lang/IndexOutOfBoundsException") (A0 := fun q => s.heap.size ≤ q) (vx_runV (As := [.int q, .int t, .int d]) (rest := [.int (nI 0), .ref ob]) ⟨hx, hb, hml, hown, hts⟩ (x_isIn_1 l hl0 D ca sa L f h0 ta pa aT aP aS aH n K V hR q t d hbad _) (cwV 3 hts gL_isIn_X4_isIn rfl rfl rfl (by decide +kernel) ⟨Nat.le_of_ble_eq_true rfl, Nat.le_of_ble_eq_true rfl⟩) (ztV hP hE hZ (fun _ h => h) rfl h4) rfl rfl hl.1 rfl (lv_room (Nat.le_of_ble_eq_true rfl)) dL_isIn_7 ⟨Nat.le_of_ble_eq_true rfl, Nat.le_of_ble_eq_true rfl⟩) hS (fun _ h => h) (fun ce q9 H locs k1 k2 hS k3 k4 k5 => ?_)
  refine vx_catch (E := "java/lang/IndexOutOfBoundsException") (name := "java/lang/IndexOutOfBoundsException") hown [] ⟨0, 19, 22, 20⟩ [⟨0, 19, 26, 13⟩] hT (fun z hz => by cases hz) rfl (by decide) (hts (.classLink RL 20 "java/lang/IndexOutOfBoundsException") (by decide +kernel)) (va_Nw.use rfl hE.2.2.1.1.2.2) k3 k4 k5 ?_
  refine W.eq (g2 := F0 m 22 ls [.ref q9]) rfl ?_
  refine lv_astore (lv' := [(5, .ref q9), (0, .ref h0), (1, .int q), (2, .int t), (3, .int d), (4, .ref ob)]) hx hb dL_isIn_22 hl (by decide) rfl (fun ls hl => ?_)
  refine lv_iconst (v := nI 1) hx hb dL_isIn_24 (by decide) ?_
  exact vx_ret (zlrx hx hb hr hlocks dL_isIn_25 hS)

set_option maxHeartbeats 4000000 in
set_option maxRecDepth 100000 in
theorem L_isIn_2 (l : Launch) (hl0 : l.stackTraces = false) (D : va_G) (ca : Nat → ClassId) (sa : Nat → Nat) (L : List Nat) (f : Nat → va_E) (h0 ta pa : Nat) (aT aP aS : Nat → Nat) (aH : Nat → Nat → Nat) (n K : Nat) (V : zV) (hR : zRep L f ca h0 ta pa aT aP aS aH n K V) (q t : Nat) (hq : q < vNp V) (ht : t < vNt V) (d : Int32) (hbad : iB d (nI 0) (nI (vTd V)) = false) (ob : Nat) (og : Nat → Int64) (sz : Nat) : vx_Met l yL_isIn wsL_isIn ({ frames := 10, cells := 1, slots := 6, locals := 450 }) (va_Pc [.ref h0, .int (nI q), .int (nI t), .int d, .ref ob] (zLp D L f ob og ca sa sz)) (va_Qi (fun (r : Int32) (_ : Unit) => r = nI 2) (fun _ _ => True) (fun q => sz ≤ q)) zX0 1 6 (fun q => sz ≤ q) := by
  refine vx_ofWH (hh := [(0, 19, 22, 20), (0, 19, 26, 13)]) (cc := cL_isIn) (maxL := 6) (ret := (some .int)) (by decide) rfl ?_
  intro p e s m args below meth c s₁ B hml hv
  obtain ⟨rfl, hsz, hP, hD0, hE, hN, hZ⟩ := hv
  have hx := B.exec
  have hb := B.bytes
  have hr := B.returns
  have hts := atoms_spec (ws := wsL_isIn) B.pre
  have hown : s.vm.findClass RL = some m.cls := findClass_of_methodNamed B.named
  have hlocks := B.notSynchronized
  have hl := lv_entry ([.ref h0, .int (nI q), .int (nI t), .int d, .ref ob]) (n := 6) (Nat.le_of_ble_eq_true rfl)
  rw [lg_entry_eq]
  generalize (lg_sl ([.ref h0, .int (nI q), .int (nI t), .int d, .ref ob]) ++ List.replicate (6 - (lg_sl ([.ref h0, .int (nI q), .int (nI t), .int d, .ref ob])).length) Slot.unset).toArray = ls at hl ⊢
  have hl : lv_has ls 6 [(0, .ref h0), (1, .int (nI q)), (2, .int (nI t)), (3, .int d), (4, .ref ob)] := hl
  have hT := vx_table (x := yX4_init) B (hts (.codeWith yL_isIn cL_isIn 6 (some .int) [(0, 19, 22, 20), (0, 19, 26, 13)]) (by decide +kernel))
  subst hsz
  have hS : va_S (fun q => s.heap.size ≤ q) s.heap s.heap [] := va_S.rf
  have hP := o_P hP
  have h4 := hR.1.1
  refine lv_aload hx hb dL_isIn_0 (lv_at hl 4 rfl) ?_
  refine lv_iconst (v := nI 0) hx hb dL_isIn_2 (by decide) ?_
  refine lv_aload_n hx hb dL_isIn_3 rfl (lv_at hl 0 rfl) ?_
  refine lv_iload_n hx hb dL_isIn_4 rfl (lv_at hl 1 rfl) ?_
  refine lv_iload_n hx hb dL_isIn_5 rfl (lv_at hl 2 rfl) ?_
  refine lv_iload_n hx hb dL_isIn_6 rfl (lv_at hl 3 rfl) ?_
  refine zxc (E0 := "java/lang/IllegalArgumentException") (A0 := fun q => s.heap.size ≤ q) (vx_runV (As := [.int (nI q), .int (nI t), .int d]) (rest := [.int (nI 0), .ref ob]) ⟨hx, hb, hml, hown, hts⟩ (x_isIn_2 l hl0 D ca sa L f h0 ta pa aT aP aS aH n K V hR q t hq ht d hbad _) (cwV 3 hts gL_isIn_X4_isIn rfl rfl rfl (by decide +kernel) ⟨Nat.le_of_ble_eq_true rfl, Nat.le_of_ble_eq_true rfl⟩) (ztV hP hE hZ (fun _ h => h) rfl h4) rfl rfl hl.1 rfl (lv_room (Nat.le_of_ble_eq_true rfl)) dL_isIn_7 ⟨Nat.le_of_ble_eq_true rfl, Nat.le_of_ble_eq_true rfl⟩) hS (fun _ h => h) (fun ce q9 H locs k1 k2 hS k3 k4 k5 => ?_)
  refine vx_catch (E := "java/lang/IllegalArgumentException") (name := "java/lang/IllegalArgumentException") hown [⟨0, 19, 22, 20⟩] ⟨0, 19, 26, 13⟩ [] hT (fun z hz => by rcases List.mem_singleton.mp hz with rfl; exact Or.inr ⟨by decide, "java/lang/IndexOutOfBoundsException", hts (.classLink RL 20 "java/lang/IndexOutOfBoundsException") (by decide +kernel), hN.2.1⟩) rfl (by decide) (hts (.classLink RL 13 "java/lang/IllegalArgumentException") (by decide +kernel)) (va_Nw.use rfl hE.2.2.1.1.1) k3 k4 k5 ?_
  refine W.eq (g2 := F0 m 26 ls [.ref q9]) rfl ?_
  refine lv_astore (lv' := [(5, .ref q9), (0, .ref h0), (1, .int (nI q)), (2, .int (nI t)), (3, .int d), (4, .ref ob)]) hx hb dL_isIn_26 hl (by decide) rfl (fun ls hl => ?_)
  refine lv_iconst (v := nI 2) hx hb dL_isIn_28 (by decide) ?_
  exact vx_ret (zlrx hx hb hr hlocks dL_isIn_29 hS)

set_option maxHeartbeats 4000000 in
set_option maxRecDepth 100000 in
theorem L_report_1 (l : Launch) (hl0 : l.stackTraces = false) (D : va_G) (ca : Nat → ClassId) (sa : Nat → Nat) (L : List Nat) (f : Nat → va_E) (h0 ta pa : Nat) (aT aP aS : Nat → Nat) (aH : Nat → Nat → Nat) (n K : Nat) (V : zV) (hR : zRep L f ca h0 ta pa aT aP aS aH n K V) (q t : Int32) (hbad : (iT (vNp V) q && iT (vNt V) t) = false) (ob : Nat) (og : Nat → Int64) (sz : Nat) : vx_Met l yL_report wsL_report ({ frames := 10, cells := 1, slots := 6, locals := 450 }) (va_Pc [.ref h0, .int q, .int t, .ref ob] (zLp D L f ob og ca sa sz)) (va_Qi (fun (r : Int32) (_ : Unit) => r = nI 1) (fun _ _ => True) (fun q => sz ≤ q)) zX0 1 6 (fun q => sz ≤ q) := by
  refine vx_ofWH (hh := [(0, 10, 13, 20)]) (cc := cL_report) (maxL := 5) (ret := (some .int)) (by decide) rfl ?_
  intro p e s m args below meth c s₁ B hml hv
  obtain ⟨rfl, hsz, hP, hD0, hE, hN, hZ⟩ := hv
  have hx := B.exec
  have hb := B.bytes
  have hr := B.returns
  have hts := atoms_spec (ws := wsL_report) B.pre
  have hown : s.vm.findClass RL = some m.cls := findClass_of_methodNamed B.named
  have hlocks := B.notSynchronized
  have hl := lv_entry ([.ref h0, .int q, .int t, .ref ob]) (n := 5) (Nat.le_of_ble_eq_true rfl)
  rw [lg_entry_eq]
  generalize (lg_sl ([.ref h0, .int q, .int t, .ref ob]) ++ List.replicate (5 - (lg_sl ([.ref h0, .int q, .int t, .ref ob])).length) Slot.unset).toArray = ls at hl ⊢
  have hl : lv_has ls 5 [(0, .ref h0), (1, .int q), (2, .int t), (3, .ref ob)] := hl
  have hT := vx_table (x := yX4_init) B (hts (.codeWith yL_report cL_report 5 (some .int) [(0, 10, 13, 20)]) (by decide +kernel))
  subst hsz
  have hS : va_S (fun q => s.heap.size ≤ q) s.heap s.heap [] := va_S.rf
  have hP := o_P hP
  have h4 := hR.1.1
  refine lv_aload_n hx hb dL_report_0 rfl (lv_at hl 3 rfl) ?_
  refine lv_iconst (v := nI 0) hx hb dL_report_1 (by decide) ?_
  refine lv_aload_n hx hb dL_report_2 rfl (lv_at hl 0 rfl) ?_
  refine lv_iload_n hx hb dL_report_3 rfl (lv_at hl 1 rfl) ?_
  refine lv_iload_n hx hb dL_report_4 rfl (lv_at hl 2 rfl) ?_
  refine zxc (E0 := "java/lang/IndexOutOfBoundsException") (A0 := fun q => s.heap.size ≤ q) (vx_runV (As := [.int q, .int t]) (rest := [.int (nI 0), .ref ob]) ⟨hx, hb, hml, hown, hts⟩ (x_report_1 l hl0 D ca sa L f h0 ta pa aT aP aS aH n K V hR q t hbad _) (cwV 2 hts gL_report_X4_report rfl rfl rfl (by decide +kernel) ⟨Nat.le_of_ble_eq_true rfl, Nat.le_of_ble_eq_true rfl⟩) (ztV hP hE hZ (fun _ h => h) rfl h4) rfl rfl hl.1 rfl (lv_room (Nat.le_of_ble_eq_true rfl)) dL_report_5 ⟨Nat.le_of_ble_eq_true rfl, Nat.le_of_ble_eq_true rfl⟩) hS (fun _ h => h) (fun ce q9 H locs k1 k2 hS k3 k4 k5 => ?_)
  refine vx_catch (E := "java/lang/IndexOutOfBoundsException") (name := "java/lang/IndexOutOfBoundsException") hown [] ⟨0, 10, 13, 20⟩ [] hT (fun z hz => by cases hz) rfl (by decide) (hts (.classLink RL 20 "java/lang/IndexOutOfBoundsException") (by decide +kernel)) (va_Nw.use rfl hE.2.2.1.1.2.2) k3 k4 k5 ?_
  refine W.eq (g2 := F0 m 13 ls [.ref q9]) rfl ?_
  refine lv_astore (lv' := [(4, .ref q9), (0, .ref h0), (1, .int q), (2, .int t), (3, .ref ob)]) hx hb dL_report_13 hl (by decide) rfl (fun ls hl => ?_)
  refine lv_iconst (v := nI 1) hx hb dL_report_15 (by decide) ?_
  exact vx_ret (zlrx hx hb hr hlocks dL_report_16 hS)

set_option maxHeartbeats 4000000 in
set_option maxRecDepth 100000 in
theorem L_mend_1 (l : Launch) (hl0 : l.stackTraces = false) (D : va_G) (ca : Nat → ClassId) (sa : Nat → Nat) (L : List Nat) (f : Nat → va_E) (h0 ta pa : Nat) (aT aP aS : Nat → Nat) (aH : Nat → Nat → Nat) (n K : Nat) (V : zV) (hR : zRep L f ca h0 ta pa aT aP aS aH n K V) (q t : Int32) (hbad : (iT (vNp V) q && iT (vNt V) t) = false) (ob : Nat) (og : Nat → Int64) (sz : Nat) : vx_Met l yL_mend wsL_mend ({ frames := 10, cells := 1, slots := 6, locals := 450 }) (va_Pc [.ref h0, .int q, .int t, .ref ob] (zLp D L f ob og ca sa sz)) (va_Qi (fun (r : Int32) (_ : Unit) => r = nI 1) (fun _ _ => True) (fun q => sz ≤ q)) zX0 1 6 (fun q => sz ≤ q) := by
  refine vx_ofWH (hh := [(0, 10, 13, 20)]) (cc := cL_mend) (maxL := 5) (ret := (some .int)) (by decide) rfl ?_
  intro p e s m args below meth c s₁ B hml hv
  obtain ⟨rfl, hsz, hP, hD0, hE, hN, hZ⟩ := hv
  have hx := B.exec
  have hb := B.bytes
  have hr := B.returns
  have hts := atoms_spec (ws := wsL_mend) B.pre
  have hown : s.vm.findClass RL = some m.cls := findClass_of_methodNamed B.named
  have hlocks := B.notSynchronized
  have hl := lv_entry ([.ref h0, .int q, .int t, .ref ob]) (n := 5) (Nat.le_of_ble_eq_true rfl)
  rw [lg_entry_eq]
  generalize (lg_sl ([.ref h0, .int q, .int t, .ref ob]) ++ List.replicate (5 - (lg_sl ([.ref h0, .int q, .int t, .ref ob])).length) Slot.unset).toArray = ls at hl ⊢
  have hl : lv_has ls 5 [(0, .ref h0), (1, .int q), (2, .int t), (3, .ref ob)] := hl
  have hT := vx_table (x := yX4_init) B (hts (.codeWith yL_mend cL_mend 5 (some .int) [(0, 10, 13, 20)]) (by decide +kernel))
  subst hsz
  have hS : va_S (fun q => s.heap.size ≤ q) s.heap s.heap [] := va_S.rf
  have hP := o_P hP
  have h4 := hR.1.1
  refine lv_aload_n hx hb dL_mend_0 rfl (lv_at hl 3 rfl) ?_
  refine lv_iconst (v := nI 0) hx hb dL_mend_1 (by decide) ?_
  refine lv_aload_n hx hb dL_mend_2 rfl (lv_at hl 0 rfl) ?_
  refine lv_iload_n hx hb dL_mend_3 rfl (lv_at hl 1 rfl) ?_
  refine lv_iload_n hx hb dL_mend_4 rfl (lv_at hl 2 rfl) ?_
  refine zxc (E0 := "java/lang/IndexOutOfBoundsException") (A0 := fun q => s.heap.size ≤ q) (vx_runV (As := [.int q, .int t]) (rest := [.int (nI 0), .ref ob]) ⟨hx, hb, hml, hown, hts⟩ (x_mend_1 l hl0 D ca sa L f h0 ta pa aT aP aS aH n K V hR q t hbad _) (cwV 2 hts gL_mend_X4_mend rfl rfl rfl (by decide +kernel) ⟨Nat.le_of_ble_eq_true rfl, Nat.le_of_ble_eq_true rfl⟩) (ztV hP hE hZ (fun _ h => h) rfl h4) rfl rfl hl.1 rfl (lv_room (Nat.le_of_ble_eq_true rfl)) dL_mend_5 ⟨Nat.le_of_ble_eq_true rfl, Nat.le_of_ble_eq_true rfl⟩) hS (fun _ h => h) (fun ce q9 H locs k1 k2 hS k3 k4 k5 => ?_)
  refine vx_catch (E := "java/lang/IndexOutOfBoundsException") (name := "java/lang/IndexOutOfBoundsException") hown [] ⟨0, 10, 13, 20⟩ [] hT (fun z hz => by cases hz) rfl (by decide) (hts (.classLink RL 20 "java/lang/IndexOutOfBoundsException") (by decide +kernel)) (va_Nw.use rfl hE.2.2.1.1.2.2) k3 k4 k5 ?_
  refine W.eq (g2 := F0 m 13 ls [.ref q9]) rfl ?_
  refine lv_astore (lv' := [(4, .ref q9), (0, .ref h0), (1, .int q), (2, .int t), (3, .ref ob)]) hx hb dL_mend_13 hl (by decide) rfl (fun ls hl => ?_)
  refine lv_iconst (v := nI 1) hx hb dL_mend_15 (by decide) ?_
  exact vx_ret (zlrx hx hb hr hlocks dL_mend_16 hS)

set_option maxHeartbeats 4000000 in
set_option maxRecDepth 100000 in
theorem L_covers_1 (l : Launch) (hl0 : l.stackTraces = false) (D : va_G) (ca : Nat → ClassId) (sa : Nat → Nat) (L : List Nat) (f : Nat → va_E) (h0 ta pa : Nat) (aT aP aS : Nat → Nat) (aH : Nat → Nat → Nat) (n K : Nat) (V : zV) (hR : zRep L f ca h0 ta pa aT aP aS aH n K V) (q t y g d : Int32) (hbad : (iT (vNp V) q && iT (vNt V) t) = false) (ob : Nat) (og : Nat → Int64) (sz : Nat) : vx_Met l yL_covers wsL_covers ({ frames := 10, cells := 1, slots := 6, locals := 450 }) (va_Pc [.ref h0, .int q, .int t, .int y, .int g, .int d, .ref ob] (zLp D L f ob og ca sa sz)) (va_Qi (fun (r : Int32) (_ : Unit) => r = nI 1) (fun _ _ => True) (fun q => sz ≤ q)) zX0 1 6 (fun q => sz ≤ q) := by
  refine vx_ofWH (hh := [(0, 23, 26, 20), (0, 23, 30, 13)]) (cc := cL_covers) (maxL := 8) (ret := (some .int)) (by decide) rfl ?_
  intro p e s m args below meth c s₁ B hml hv
  obtain ⟨rfl, hsz, hP, hD0, hE, hN, hZ⟩ := hv
  have hx := B.exec
  have hb := B.bytes
  have hr := B.returns
  have hts := atoms_spec (ws := wsL_covers) B.pre
  have hown : s.vm.findClass RL = some m.cls := findClass_of_methodNamed B.named
  have hlocks := B.notSynchronized
  have hl := lv_entry ([.ref h0, .int q, .int t, .int y, .int g, .int d, .ref ob]) (n := 8) (Nat.le_of_ble_eq_true rfl)
  rw [lg_entry_eq]
  generalize (lg_sl ([.ref h0, .int q, .int t, .int y, .int g, .int d, .ref ob]) ++ List.replicate (8 - (lg_sl ([.ref h0, .int q, .int t, .int y, .int g, .int d, .ref ob])).length) Slot.unset).toArray = ls at hl ⊢
  have hl : lv_has ls 8 [(0, .ref h0), (1, .int q), (2, .int t), (3, .int y), (4, .int g), (5, .int d), (6, .ref ob)] := hl
  have hT := vx_table (x := yX4_init) B (hts (.codeWith yL_covers cL_covers 8 (some .int) [(0, 23, 26, 20), (0, 23, 30, 13)]) (by decide +kernel))
  subst hsz
  have hS : va_S (fun q => s.heap.size ≤ q) s.heap s.heap [] := va_S.rf
  have hP := o_P hP
  have h4 := hR.1.1
  refine lv_aload hx hb dL_covers_0 (lv_at hl 6 rfl) ?_
  refine lv_iconst (v := nI 0) hx hb dL_covers_2 (by decide) ?_
  refine lv_aload_n hx hb dL_covers_3 rfl (lv_at hl 0 rfl) ?_
  refine lv_iload_n hx hb dL_covers_4 rfl (lv_at hl 1 rfl) ?_
  refine lv_iload_n hx hb dL_covers_5 rfl (lv_at hl 2 rfl) ?_
  refine lv_iload_n hx hb dL_covers_6 rfl (lv_at hl 3 rfl) ?_
  refine lv_iload hx hb dL_covers_7 (lv_at hl 4 rfl) ?_
  refine lv_iload hx hb dL_covers_9 (lv_at hl 5 rfl) ?_
  refine zxc (E0 := "java/lang/IndexOutOfBoundsException") (A0 := fun q => s.heap.size ≤ q) (vx_runV (As := [.int q, .int t, .int y, .int g, .int d]) (rest := [.int (nI 0), .ref ob]) ⟨hx, hb, hml, hown, hts⟩ (x_covers_1 l hl0 D ca sa L f h0 ta pa aT aP aS aH n K V hR q t y g d hbad _) (cwV 5 hts gL_covers_X4_covers rfl rfl rfl (by decide +kernel) ⟨Nat.le_of_ble_eq_true rfl, Nat.le_of_ble_eq_true rfl⟩) (ztV hP hE hZ (fun _ h => h) rfl h4) rfl rfl hl.1 rfl (lv_room (Nat.le_of_ble_eq_true rfl)) dL_covers_11 ⟨Nat.le_of_ble_eq_true rfl, Nat.le_of_ble_eq_true rfl⟩) hS (fun _ h => h) (fun ce q9 H locs k1 k2 hS k3 k4 k5 => ?_)
  refine vx_catch (E := "java/lang/IndexOutOfBoundsException") (name := "java/lang/IndexOutOfBoundsException") hown [] ⟨0, 23, 26, 20⟩ [⟨0, 23, 30, 13⟩] hT (fun z hz => by cases hz) rfl (by decide) (hts (.classLink RL 20 "java/lang/IndexOutOfBoundsException") (by decide +kernel)) (va_Nw.use rfl hE.2.2.1.1.2.2) k3 k4 k5 ?_
  refine W.eq (g2 := F0 m 26 ls [.ref q9]) rfl ?_
  refine lv_astore (lv' := [(7, .ref q9), (0, .ref h0), (1, .int q), (2, .int t), (3, .int y), (4, .int g), (5, .int d), (6, .ref ob)]) hx hb dL_covers_26 hl (by decide) rfl (fun ls hl => ?_)
  refine lv_iconst (v := nI 1) hx hb dL_covers_28 (by decide) ?_
  exact vx_ret (zlrx hx hb hr hlocks dL_covers_29 hS)

set_option maxHeartbeats 4000000 in
set_option maxRecDepth 100000 in
theorem L_covers_2 (l : Launch) (hl0 : l.stackTraces = false) (D : va_G) (ca : Nat → ClassId) (sa : Nat → Nat) (L : List Nat) (f : Nat → va_E) (h0 ta pa : Nat) (aT aP aS : Nat → Nat) (aH : Nat → Nat → Nat) (n K : Nat) (V : zV) (hR : zRep L f ca h0 ta pa aT aP aS aH n K V) (q t y g d : Int32) (hok : (iT (vNp V) q && iT (vNt V) t) = true) (hbad : (iB y (nI 0) (nI 55) && (iB g (nI 0) (nI 3) && iB d (nI 0) (nI (vTd V)))) = false) (ob : Nat) (og : Nat → Int64) (sz : Nat) : vx_Met l yL_covers wsL_covers ({ frames := 10, cells := 1, slots := 6, locals := 450 }) (va_Pc [.ref h0, .int q, .int t, .int y, .int g, .int d, .ref ob] (zLp D L f ob og ca sa sz)) (va_Qi (fun (r : Int32) (_ : Unit) => r = nI 2) (fun _ _ => True) (fun q => sz ≤ q)) zX0 1 6 (fun q => sz ≤ q) := by
  refine vx_ofWH (hh := [(0, 23, 26, 20), (0, 23, 30, 13)]) (cc := cL_covers) (maxL := 8) (ret := (some .int)) (by decide) rfl ?_
  intro p e s m args below meth c s₁ B hml hv
  obtain ⟨rfl, hsz, hP, hD0, hE, hN, hZ⟩ := hv
  have hx := B.exec
  have hb := B.bytes
  have hr := B.returns
  have hts := atoms_spec (ws := wsL_covers) B.pre
  have hown : s.vm.findClass RL = some m.cls := findClass_of_methodNamed B.named
  have hlocks := B.notSynchronized
  have hl := lv_entry ([.ref h0, .int q, .int t, .int y, .int g, .int d, .ref ob]) (n := 8) (Nat.le_of_ble_eq_true rfl)
  rw [lg_entry_eq]
  generalize (lg_sl ([.ref h0, .int q, .int t, .int y, .int g, .int d, .ref ob]) ++ List.replicate (8 - (lg_sl ([.ref h0, .int q, .int t, .int y, .int g, .int d, .ref ob])).length) Slot.unset).toArray = ls at hl ⊢
  have hl : lv_has ls 8 [(0, .ref h0), (1, .int q), (2, .int t), (3, .int y), (4, .int g), (5, .int d), (6, .ref ob)] := hl
  have hT := vx_table (x := yX4_init) B (hts (.codeWith yL_covers cL_covers 8 (some .int) [(0, 23, 26, 20), (0, 23, 30, 13)]) (by decide +kernel))
  subst hsz
  have hS : va_S (fun q => s.heap.size ≤ q) s.heap s.heap [] := va_S.rf
  have hP := o_P hP
  have h4 := hR.1.1
  refine lv_aload hx hb dL_covers_0 (lv_at hl 6 rfl) ?_
  refine lv_iconst (v := nI 0) hx hb dL_covers_2 (by decide) ?_
  refine lv_aload_n hx hb dL_covers_3 rfl (lv_at hl 0 rfl) ?_
  refine lv_iload_n hx hb dL_covers_4 rfl (lv_at hl 1 rfl) ?_
  refine lv_iload_n hx hb dL_covers_5 rfl (lv_at hl 2 rfl) ?_
  refine lv_iload_n hx hb dL_covers_6 rfl (lv_at hl 3 rfl) ?_
  refine lv_iload hx hb dL_covers_7 (lv_at hl 4 rfl) ?_
  refine lv_iload hx hb dL_covers_9 (lv_at hl 5 rfl) ?_
  refine zxc (E0 := "java/lang/IllegalArgumentException") (A0 := fun q => s.heap.size ≤ q) (vx_runV (As := [.int q, .int t, .int y, .int g, .int d]) (rest := [.int (nI 0), .ref ob]) ⟨hx, hb, hml, hown, hts⟩ (x_covers_2 l hl0 D ca sa L f h0 ta pa aT aP aS aH n K V hR q t y g d hok hbad _) (cwV 5 hts gL_covers_X4_covers rfl rfl rfl (by decide +kernel) ⟨Nat.le_of_ble_eq_true rfl, Nat.le_of_ble_eq_true rfl⟩) (ztV hP hE hZ (fun _ h => h) rfl h4) rfl rfl hl.1 rfl (lv_room (Nat.le_of_ble_eq_true rfl)) dL_covers_11 ⟨Nat.le_of_ble_eq_true rfl, Nat.le_of_ble_eq_true rfl⟩) hS (fun _ h => h) (fun ce q9 H locs k1 k2 hS k3 k4 k5 => ?_)
  refine vx_catch (E := "java/lang/IllegalArgumentException") (name := "java/lang/IllegalArgumentException") hown [⟨0, 23, 26, 20⟩] ⟨0, 23, 30, 13⟩ [] hT (fun z hz => by rcases List.mem_singleton.mp hz with rfl; exact Or.inr ⟨by decide, "java/lang/IndexOutOfBoundsException", hts (.classLink RL 20 "java/lang/IndexOutOfBoundsException") (by decide +kernel), hN.2.1⟩) rfl (by decide) (hts (.classLink RL 13 "java/lang/IllegalArgumentException") (by decide +kernel)) (va_Nw.use rfl hE.2.2.1.1.1) k3 k4 k5 ?_
  refine W.eq (g2 := F0 m 30 ls [.ref q9]) rfl ?_
  refine lv_astore (lv' := [(7, .ref q9), (0, .ref h0), (1, .int q), (2, .int t), (3, .int y), (4, .int g), (5, .int d), (6, .ref ob)]) hx hb dL_covers_30 hl (by decide) rfl (fun ls hl => ?_)
  refine lv_iconst (v := nI 2) hx hb dL_covers_32 (by decide) ?_
  exact vx_ret (zlrx hx hb hr hlocks dL_covers_33 hS)

set_option maxHeartbeats 4000000 in
set_option maxRecDepth 100000 in
theorem L_ways_1 (l : Launch) (hl0 : l.stackTraces = false) (D : va_G) (ca : Nat → ClassId) (sa : Nat → Nat) (L : List Nat) (f : Nat → va_E) (h0 ta pa : Nat) (aT aP aS : Nat → Nat) (aH : Nat → Nat → Nat) (n K : Nat) (V : zV) (hR : zRep L f ca h0 ta pa aT aP aS aH n K V) (t y g d : Int32) (hbad : iT (vNt V) t = false) (ob : Nat) (og : Nat → Int64) (sz : Nat) : vx_Met l yL_ways wsL_ways ({ frames := 10, cells := 1, slots := 6, locals := 450 }) (va_Pc [.ref h0, .int t, .int y, .int g, .int d, .ref ob] (zLp D L f ob og ca sa sz)) (va_Qi (fun (r : Int32) (_ : Unit) => r = nI 1) (fun _ _ => True) (fun q => sz ≤ q)) zX0 1 6 (fun q => sz ≤ q) := by
  refine vx_ofWH (hh := [(0, 14, 17, 20), (0, 14, 21, 13)]) (cc := cL_ways) (maxL := 7) (ret := (some .int)) (by decide) rfl ?_
  intro p e s m args below meth c s₁ B hml hv
  obtain ⟨rfl, hsz, hP, hD0, hE, hN, hZ⟩ := hv
  have hx := B.exec
  have hb := B.bytes
  have hr := B.returns
  have hts := atoms_spec (ws := wsL_ways) B.pre
  have hown : s.vm.findClass RL = some m.cls := findClass_of_methodNamed B.named
  have hlocks := B.notSynchronized
  have hl := lv_entry ([.ref h0, .int t, .int y, .int g, .int d, .ref ob]) (n := 7) (Nat.le_of_ble_eq_true rfl)
  rw [lg_entry_eq]
  generalize (lg_sl ([.ref h0, .int t, .int y, .int g, .int d, .ref ob]) ++ List.replicate (7 - (lg_sl ([.ref h0, .int t, .int y, .int g, .int d, .ref ob])).length) Slot.unset).toArray = ls at hl ⊢
  have hl : lv_has ls 7 [(0, .ref h0), (1, .int t), (2, .int y), (3, .int g), (4, .int d), (5, .ref ob)] := hl
  have hT := vx_table (x := yX4_init) B (hts (.codeWith yL_ways cL_ways 7 (some .int) [(0, 14, 17, 20), (0, 14, 21, 13)]) (by decide +kernel))
  subst hsz
  have hS : va_S (fun q => s.heap.size ≤ q) s.heap s.heap [] := va_S.rf
  have hP := o_P hP
  have h4 := hR.1.1
  refine lv_aload hx hb dL_ways_0 (lv_at hl 5 rfl) ?_
  refine lv_iconst (v := nI 0) hx hb dL_ways_2 (by decide) ?_
  refine lv_aload_n hx hb dL_ways_3 rfl (lv_at hl 0 rfl) ?_
  refine lv_iload_n hx hb dL_ways_4 rfl (lv_at hl 1 rfl) ?_
  refine lv_iload_n hx hb dL_ways_5 rfl (lv_at hl 2 rfl) ?_
  refine lv_iload_n hx hb dL_ways_6 rfl (lv_at hl 3 rfl) ?_
  refine lv_iload hx hb dL_ways_7 (lv_at hl 4 rfl) ?_
  refine zxc (E0 := "java/lang/IndexOutOfBoundsException") (A0 := fun q => s.heap.size ≤ q) (vx_runV (As := [.int t, .int y, .int g, .int d]) (rest := [.int (nI 0), .ref ob]) ⟨hx, hb, hml, hown, hts⟩ (x_ways_1 l hl0 D ca sa L f h0 ta pa aT aP aS aH n K V hR t y g d hbad _) (cwV 4 hts gL_ways_X4_ways rfl rfl rfl (by decide +kernel) ⟨Nat.le_of_ble_eq_true rfl, Nat.le_of_ble_eq_true rfl⟩) (ztV hP hE hZ (fun _ h => h) rfl h4) rfl rfl hl.1 rfl (lv_room (Nat.le_of_ble_eq_true rfl)) dL_ways_9 ⟨Nat.le_of_ble_eq_true rfl, Nat.le_of_ble_eq_true rfl⟩) hS (fun _ h => h) (fun ce q9 H locs k1 k2 hS k3 k4 k5 => ?_)
  refine vx_catch (E := "java/lang/IndexOutOfBoundsException") (name := "java/lang/IndexOutOfBoundsException") hown [] ⟨0, 14, 17, 20⟩ [⟨0, 14, 21, 13⟩] hT (fun z hz => by cases hz) rfl (by decide) (hts (.classLink RL 20 "java/lang/IndexOutOfBoundsException") (by decide +kernel)) (va_Nw.use rfl hE.2.2.1.1.2.2) k3 k4 k5 ?_
  refine W.eq (g2 := F0 m 17 ls [.ref q9]) rfl ?_
  refine lv_astore (lv' := [(6, .ref q9), (0, .ref h0), (1, .int t), (2, .int y), (3, .int g), (4, .int d), (5, .ref ob)]) hx hb dL_ways_17 hl (by decide) rfl (fun ls hl => ?_)
  refine lv_iconst (v := nI 1) hx hb dL_ways_19 (by decide) ?_
  exact vx_ret (zlrx hx hb hr hlocks dL_ways_20 hS)

set_option maxHeartbeats 4000000 in
set_option maxRecDepth 100000 in
theorem L_ways_2 (l : Launch) (hl0 : l.stackTraces = false) (D : va_G) (ca : Nat → ClassId) (sa : Nat → Nat) (L : List Nat) (f : Nat → va_E) (h0 ta pa : Nat) (aT aP aS : Nat → Nat) (aH : Nat → Nat → Nat) (n K : Nat) (V : zV) (hR : zRep L f ca h0 ta pa aT aP aS aH n K V) (t y g d : Int32) (hok : iT (vNt V) t = true) (hbad : (iB y (nI 0) (nI 55) && (iB g (nI 0) (nI 3) && iB d (nI 0) (nI (vTd V)))) = false) (ob : Nat) (og : Nat → Int64) (sz : Nat) : vx_Met l yL_ways wsL_ways ({ frames := 10, cells := 1, slots := 6, locals := 450 }) (va_Pc [.ref h0, .int t, .int y, .int g, .int d, .ref ob] (zLp D L f ob og ca sa sz)) (va_Qi (fun (r : Int32) (_ : Unit) => r = nI 2) (fun _ _ => True) (fun q => sz ≤ q)) zX0 1 6 (fun q => sz ≤ q) := by
  refine vx_ofWH (hh := [(0, 14, 17, 20), (0, 14, 21, 13)]) (cc := cL_ways) (maxL := 7) (ret := (some .int)) (by decide) rfl ?_
  intro p e s m args below meth c s₁ B hml hv
  obtain ⟨rfl, hsz, hP, hD0, hE, hN, hZ⟩ := hv
  have hx := B.exec
  have hb := B.bytes
  have hr := B.returns
  have hts := atoms_spec (ws := wsL_ways) B.pre
  have hown : s.vm.findClass RL = some m.cls := findClass_of_methodNamed B.named
  have hlocks := B.notSynchronized
  have hl := lv_entry ([.ref h0, .int t, .int y, .int g, .int d, .ref ob]) (n := 7) (Nat.le_of_ble_eq_true rfl)
  rw [lg_entry_eq]
  generalize (lg_sl ([.ref h0, .int t, .int y, .int g, .int d, .ref ob]) ++ List.replicate (7 - (lg_sl ([.ref h0, .int t, .int y, .int g, .int d, .ref ob])).length) Slot.unset).toArray = ls at hl ⊢
  have hl : lv_has ls 7 [(0, .ref h0), (1, .int t), (2, .int y), (3, .int g), (4, .int d), (5, .ref ob)] := hl
  have hT := vx_table (x := yX4_init) B (hts (.codeWith yL_ways cL_ways 7 (some .int) [(0, 14, 17, 20), (0, 14, 21, 13)]) (by decide +kernel))
  subst hsz
  have hS : va_S (fun q => s.heap.size ≤ q) s.heap s.heap [] := va_S.rf
  have hP := o_P hP
  have h4 := hR.1.1
  refine lv_aload hx hb dL_ways_0 (lv_at hl 5 rfl) ?_
  refine lv_iconst (v := nI 0) hx hb dL_ways_2 (by decide) ?_
  refine lv_aload_n hx hb dL_ways_3 rfl (lv_at hl 0 rfl) ?_
  refine lv_iload_n hx hb dL_ways_4 rfl (lv_at hl 1 rfl) ?_
  refine lv_iload_n hx hb dL_ways_5 rfl (lv_at hl 2 rfl) ?_
  refine lv_iload_n hx hb dL_ways_6 rfl (lv_at hl 3 rfl) ?_
  refine lv_iload hx hb dL_ways_7 (lv_at hl 4 rfl) ?_
  refine zxc (E0 := "java/lang/IllegalArgumentException") (A0 := fun q => s.heap.size ≤ q) (vx_runV (As := [.int t, .int y, .int g, .int d]) (rest := [.int (nI 0), .ref ob]) ⟨hx, hb, hml, hown, hts⟩ (x_ways_2 l hl0 D ca sa L f h0 ta pa aT aP aS aH n K V hR t y g d hok hbad _) (cwV 4 hts gL_ways_X4_ways rfl rfl rfl (by decide +kernel) ⟨Nat.le_of_ble_eq_true rfl, Nat.le_of_ble_eq_true rfl⟩) (ztV hP hE hZ (fun _ h => h) rfl h4) rfl rfl hl.1 rfl (lv_room (Nat.le_of_ble_eq_true rfl)) dL_ways_9 ⟨Nat.le_of_ble_eq_true rfl, Nat.le_of_ble_eq_true rfl⟩) hS (fun _ h => h) (fun ce q9 H locs k1 k2 hS k3 k4 k5 => ?_)
  refine vx_catch (E := "java/lang/IllegalArgumentException") (name := "java/lang/IllegalArgumentException") hown [⟨0, 14, 17, 20⟩] ⟨0, 14, 21, 13⟩ [] hT (fun z hz => by rcases List.mem_singleton.mp hz with rfl; exact Or.inr ⟨by decide, "java/lang/IndexOutOfBoundsException", hts (.classLink RL 20 "java/lang/IndexOutOfBoundsException") (by decide +kernel), hN.2.1⟩) rfl (by decide) (hts (.classLink RL 13 "java/lang/IllegalArgumentException") (by decide +kernel)) (va_Nw.use rfl hE.2.2.1.1.1) k3 k4 k5 ?_
  refine W.eq (g2 := F0 m 21 ls [.ref q9]) rfl ?_
  refine lv_astore (lv' := [(6, .ref q9), (0, .ref h0), (1, .int t), (2, .int y), (3, .int g), (4, .int d), (5, .ref ob)]) hx hb dL_ways_21 hl (by decide) rfl (fun ls hl => ?_)
  refine lv_iconst (v := nI 2) hx hb dL_ways_23 (by decide) ?_
  exact vx_ret (zlrx hx hb hr hlocks dL_ways_24 hS)

set_option maxHeartbeats 4000000 in
set_option maxRecDepth 100000 in
theorem L_wayAt_1 (l : Launch) (hl0 : l.stackTraces = false) (D : va_G) (ca : Nat → ClassId) (sa : Nat → Nat) (L : List Nat) (f : Nat → va_E) (h0 ta pa : Nat) (aT aP aS : Nat → Nat) (aH : Nat → Nat → Nat) (n K : Nat) (V : zV) (hR : zRep L f ca h0 ta pa aT aP aS aH n K V) (pl t y g d : Int32) (hbad : (iB y (nI 0) (nI 55) && (iB g (nI 0) (nI 3) && iB d (nI 0) (nI (vTd V)))) = false) (ob : Nat) (og : Nat → Int64) (sz : Nat) : vx_Met l yL_wayAt wsL_wayAt ({ frames := 10, cells := 1, slots := 6, locals := 450 }) (va_Pc [.ref h0, .int pl, .int t, .int y, .int g, .int d, .ref ob] (zLp D L f ob og ca sa sz)) (va_Qi (fun (r : Int32) (_ : Unit) => r = nI 1) (fun _ _ => True) (fun q => sz ≤ q)) zX0 1 6 (fun q => sz ≤ q) := by
  refine vx_ofWH (hh := [(0, 16, 19, 13), (0, 16, 23, 20)]) (cc := cL_wayAt) (maxL := 8) (ret := (some .int)) (by decide) rfl ?_
  intro p e s m args below meth c s₁ B hml hv
  obtain ⟨rfl, hsz, hP, hD0, hE, hN, hZ⟩ := hv
  have hx := B.exec
  have hb := B.bytes
  have hr := B.returns
  have hts := atoms_spec (ws := wsL_wayAt) B.pre
  have hown : s.vm.findClass RL = some m.cls := findClass_of_methodNamed B.named
  have hlocks := B.notSynchronized
  have hl := lv_entry ([.ref h0, .int pl, .int t, .int y, .int g, .int d, .ref ob]) (n := 8) (Nat.le_of_ble_eq_true rfl)
  rw [lg_entry_eq]
  generalize (lg_sl ([.ref h0, .int pl, .int t, .int y, .int g, .int d, .ref ob]) ++ List.replicate (8 - (lg_sl ([.ref h0, .int pl, .int t, .int y, .int g, .int d, .ref ob])).length) Slot.unset).toArray = ls at hl ⊢
  have hl : lv_has ls 8 [(0, .ref h0), (1, .int pl), (2, .int t), (3, .int y), (4, .int g), (5, .int d), (6, .ref ob)] := hl
  have hT := vx_table (x := yX4_init) B (hts (.codeWith yL_wayAt cL_wayAt 8 (some .int) [(0, 16, 19, 13), (0, 16, 23, 20)]) (by decide +kernel))
  subst hsz
  have hS : va_S (fun q => s.heap.size ≤ q) s.heap s.heap [] := va_S.rf
  have hP := o_P hP
  have h4 := hR.1.1
  refine lv_aload hx hb dL_wayAt_0 (lv_at hl 6 rfl) ?_
  refine lv_iconst (v := nI 0) hx hb dL_wayAt_2 (by decide) ?_
  refine lv_aload_n hx hb dL_wayAt_3 rfl (lv_at hl 0 rfl) ?_
  refine lv_iload_n hx hb dL_wayAt_4 rfl (lv_at hl 1 rfl) ?_
  refine lv_iload_n hx hb dL_wayAt_5 rfl (lv_at hl 2 rfl) ?_
  refine lv_iload_n hx hb dL_wayAt_6 rfl (lv_at hl 3 rfl) ?_
  refine lv_iload hx hb dL_wayAt_7 (lv_at hl 4 rfl) ?_
  refine lv_iload hx hb dL_wayAt_9 (lv_at hl 5 rfl) ?_
  refine zxc (E0 := "java/lang/IllegalArgumentException") (A0 := fun q => s.heap.size ≤ q) (vx_runV (As := [.int pl, .int t, .int y, .int g, .int d]) (rest := [.int (nI 0), .ref ob]) ⟨hx, hb, hml, hown, hts⟩ (x_wayAt_1 l hl0 D ca sa L f h0 ta pa aT aP aS aH n K V hR pl t y g d hbad _) (cwV 5 hts gL_wayAt_X4_wayAt rfl rfl rfl (by decide +kernel) ⟨Nat.le_of_ble_eq_true rfl, Nat.le_of_ble_eq_true rfl⟩) (ztV hP hE hZ (fun _ h => h) rfl h4) rfl rfl hl.1 rfl (lv_room (Nat.le_of_ble_eq_true rfl)) dL_wayAt_11 ⟨Nat.le_of_ble_eq_true rfl, Nat.le_of_ble_eq_true rfl⟩) hS (fun _ h => h) (fun ce q9 H locs k1 k2 hS k3 k4 k5 => ?_)
  refine vx_catch (E := "java/lang/IllegalArgumentException") (name := "java/lang/IllegalArgumentException") hown [] ⟨0, 16, 19, 13⟩ [⟨0, 16, 23, 20⟩] hT (fun z hz => by cases hz) rfl (by decide) (hts (.classLink RL 13 "java/lang/IllegalArgumentException") (by decide +kernel)) (va_Nw.use rfl hE.2.2.1.1.1) k3 k4 k5 ?_
  refine W.eq (g2 := F0 m 19 ls [.ref q9]) rfl ?_
  refine lv_astore (lv' := [(7, .ref q9), (0, .ref h0), (1, .int pl), (2, .int t), (3, .int y), (4, .int g), (5, .int d), (6, .ref ob)]) hx hb dL_wayAt_19 hl (by decide) rfl (fun ls hl => ?_)
  refine lv_iconst (v := nI 1) hx hb dL_wayAt_21 (by decide) ?_
  exact vx_ret (zlrx hx hb hr hlocks dL_wayAt_22 hS)

set_option maxHeartbeats 4000000 in
set_option maxRecDepth 100000 in
theorem L_wayAt_2 (l : Launch) (hl0 : l.stackTraces = false) (D : va_G) (ca : Nat → ClassId) (sa : Nat → Nat) (L : List Nat) (f : Nat → va_E) (h0 ta pa : Nat) (aT aP aS : Nat → Nat) (aH : Nat → Nat → Nat) (n K : Nat) (V : zV) (hR : zRep L f ca h0 ta pa aT aP aS aH n K V) (pl t y g d : Int32) (hask : (iB y (nI 0) (nI 55) && (iB g (nI 0) (nI 3) && iB d (nI 0) (nI (vTd V)))) = true) (hbad : iT (vNt V) t = false) (ob : Nat) (og : Nat → Int64) (sz : Nat) : vx_Met l yL_wayAt wsL_wayAt ({ frames := 10, cells := 1, slots := 6, locals := 450 }) (va_Pc [.ref h0, .int pl, .int t, .int y, .int g, .int d, .ref ob] (zLp D L f ob og ca sa sz)) (va_Qi (fun (r : Int32) (_ : Unit) => r = nI 2) (fun _ _ => True) (fun q => sz ≤ q)) zX0 1 6 (fun q => sz ≤ q) := by
  refine vx_ofWH (hh := [(0, 16, 19, 13), (0, 16, 23, 20)]) (cc := cL_wayAt) (maxL := 8) (ret := (some .int)) (by decide) rfl ?_
  intro p e s m args below meth c s₁ B hml hv
  obtain ⟨rfl, hsz, hP, hD0, hE, hN, hZ⟩ := hv
  have hx := B.exec
  have hb := B.bytes
  have hr := B.returns
  have hts := atoms_spec (ws := wsL_wayAt) B.pre
  have hown : s.vm.findClass RL = some m.cls := findClass_of_methodNamed B.named
  have hlocks := B.notSynchronized
  have hl := lv_entry ([.ref h0, .int pl, .int t, .int y, .int g, .int d, .ref ob]) (n := 8) (Nat.le_of_ble_eq_true rfl)
  rw [lg_entry_eq]
  generalize (lg_sl ([.ref h0, .int pl, .int t, .int y, .int g, .int d, .ref ob]) ++ List.replicate (8 - (lg_sl ([.ref h0, .int pl, .int t, .int y, .int g, .int d, .ref ob])).length) Slot.unset).toArray = ls at hl ⊢
  have hl : lv_has ls 8 [(0, .ref h0), (1, .int pl), (2, .int t), (3, .int y), (4, .int g), (5, .int d), (6, .ref ob)] := hl
  have hT := vx_table (x := yX4_init) B (hts (.codeWith yL_wayAt cL_wayAt 8 (some .int) [(0, 16, 19, 13), (0, 16, 23, 20)]) (by decide +kernel))
  subst hsz
  have hS : va_S (fun q => s.heap.size ≤ q) s.heap s.heap [] := va_S.rf
  have hP := o_P hP
  have h4 := hR.1.1
  refine lv_aload hx hb dL_wayAt_0 (lv_at hl 6 rfl) ?_
  refine lv_iconst (v := nI 0) hx hb dL_wayAt_2 (by decide) ?_
  refine lv_aload_n hx hb dL_wayAt_3 rfl (lv_at hl 0 rfl) ?_
  refine lv_iload_n hx hb dL_wayAt_4 rfl (lv_at hl 1 rfl) ?_
  refine lv_iload_n hx hb dL_wayAt_5 rfl (lv_at hl 2 rfl) ?_
  refine lv_iload_n hx hb dL_wayAt_6 rfl (lv_at hl 3 rfl) ?_
  refine lv_iload hx hb dL_wayAt_7 (lv_at hl 4 rfl) ?_
  refine lv_iload hx hb dL_wayAt_9 (lv_at hl 5 rfl) ?_
  refine zxc (E0 := "java/lang/IndexOutOfBoundsException") (A0 := fun q => s.heap.size ≤ q) (vx_runV (As := [.int pl, .int t, .int y, .int g, .int d]) (rest := [.int (nI 0), .ref ob]) ⟨hx, hb, hml, hown, hts⟩ (x_wayAt_2 l hl0 D ca sa L f h0 ta pa aT aP aS aH n K V hR pl t y g d hask hbad _) (cwV 5 hts gL_wayAt_X4_wayAt rfl rfl rfl (by decide +kernel) ⟨Nat.le_of_ble_eq_true rfl, Nat.le_of_ble_eq_true rfl⟩) (ztV hP hE hZ (fun _ h => h) rfl h4) rfl rfl hl.1 rfl (lv_room (Nat.le_of_ble_eq_true rfl)) dL_wayAt_11 ⟨Nat.le_of_ble_eq_true rfl, Nat.le_of_ble_eq_true rfl⟩) hS (fun _ h => h) (fun ce q9 H locs k1 k2 hS k3 k4 k5 => ?_)
  refine vx_catch (E := "java/lang/IndexOutOfBoundsException") (name := "java/lang/IndexOutOfBoundsException") hown [⟨0, 16, 19, 13⟩] ⟨0, 16, 23, 20⟩ [] hT (fun z hz => by rcases List.mem_singleton.mp hz with rfl; exact Or.inr ⟨by decide, "java/lang/IllegalArgumentException", hts (.classLink RL 13 "java/lang/IllegalArgumentException") (by decide +kernel), hN.2.2.2⟩) rfl (by decide) (hts (.classLink RL 20 "java/lang/IndexOutOfBoundsException") (by decide +kernel)) (va_Nw.use rfl hE.2.2.1.1.2.2) k3 k4 k5 ?_
  refine W.eq (g2 := F0 m 23 ls [.ref q9]) rfl ?_
  refine lv_astore (lv' := [(7, .ref q9), (0, .ref h0), (1, .int pl), (2, .int t), (3, .int y), (4, .int g), (5, .int d), (6, .ref ob)]) hx hb dL_wayAt_23 hl (by decide) rfl (fun ls hl => ?_)
  refine lv_iconst (v := nI 2) hx hb dL_wayAt_25 (by decide) ?_
  exact vx_ret (zlrx hx hb hr hlocks dL_wayAt_26 hS)

set_option maxHeartbeats 4000000 in
set_option maxRecDepth 100000 in
theorem L_wayAt_3 (l : Launch) (hl0 : l.stackTraces = false) (D : va_G) (ca : Nat → ClassId) (sa : Nat → Nat) (L : List Nat) (f : Nat → va_E) (h0 ta pa : Nat) (aT aP aS : Nat → Nat) (aH : Nat → Nat → Nat) (n K : Nat) (V : zV) (hR : zRep L f ca h0 ta pa aT aP aS aH n K V) (pl : Int32) (t : Nat) (ht : t < vNt V) (y g d : Nat) (hy : y ≤ 55) (hg : g ≤ 3) (hd : d ≤ vTd V) (hno : ∀ k, k < vNp V → aM (wTo V t y g d (vNp V)) k = true → ¬ nI (cPla V (wTo V t y g d (vNp V)) k t (vNp V)) = pl) (ob : Nat) (og : Nat → Int64) (sz : Nat) : vx_Met l yL_wayAt wsL_wayAt ({ frames := 10, cells := 1, slots := 6, locals := 450 }) (va_Pc [.ref h0, .int pl, .int (nI t), .int (nI y), .int (nI g), .int (nI d), .ref ob] (zLp D L f ob og ca sa sz)) (va_Qi (fun (r : Int32) (_ : Unit) => r = nI 2) (fun _ _ => True) (fun q => sz ≤ q)) zX0 1 6 (fun q => sz ≤ q) := by
  refine vx_ofWH (hh := [(0, 16, 19, 13), (0, 16, 23, 20)]) (cc := cL_wayAt) (maxL := 8) (ret := (some .int)) (by decide) rfl ?_
  intro p e s m args below meth c s₁ B hml hv
  obtain ⟨rfl, hsz, hP, hD0, hE, hN, hZ⟩ := hv
  have hx := B.exec
  have hb := B.bytes
  have hr := B.returns
  have hts := atoms_spec (ws := wsL_wayAt) B.pre
  have hown : s.vm.findClass RL = some m.cls := findClass_of_methodNamed B.named
  have hlocks := B.notSynchronized
  have hl := lv_entry ([.ref h0, .int pl, .int (nI t), .int (nI y), .int (nI g), .int (nI d), .ref ob]) (n := 8) (Nat.le_of_ble_eq_true rfl)
  rw [lg_entry_eq]
  generalize (lg_sl ([.ref h0, .int pl, .int (nI t), .int (nI y), .int (nI g), .int (nI d), .ref ob]) ++ List.replicate (8 - (lg_sl ([.ref h0, .int pl, .int (nI t), .int (nI y), .int (nI g), .int (nI d), .ref ob])).length) Slot.unset).toArray = ls at hl ⊢
  have hl : lv_has ls 8 [(0, .ref h0), (1, .int pl), (2, .int (nI t)), (3, .int (nI y)), (4, .int (nI g)), (5, .int (nI d)), (6, .ref ob)] := hl
  have hT := vx_table (x := yX4_init) B (hts (.codeWith yL_wayAt cL_wayAt 8 (some .int) [(0, 16, 19, 13), (0, 16, 23, 20)]) (by decide +kernel))
  subst hsz
  have hS : va_S (fun q => s.heap.size ≤ q) s.heap s.heap [] := va_S.rf
  have hP := o_P hP
  have h4 := hR.1.1
  refine lv_aload hx hb dL_wayAt_0 (lv_at hl 6 rfl) ?_
  refine lv_iconst (v := nI 0) hx hb dL_wayAt_2 (by decide) ?_
  refine lv_aload_n hx hb dL_wayAt_3 rfl (lv_at hl 0 rfl) ?_
  refine lv_iload_n hx hb dL_wayAt_4 rfl (lv_at hl 1 rfl) ?_
  refine lv_iload_n hx hb dL_wayAt_5 rfl (lv_at hl 2 rfl) ?_
  refine lv_iload_n hx hb dL_wayAt_6 rfl (lv_at hl 3 rfl) ?_
  refine lv_iload hx hb dL_wayAt_7 (lv_at hl 4 rfl) ?_
  refine lv_iload hx hb dL_wayAt_9 (lv_at hl 5 rfl) ?_
  refine zxc (E0 := "java/lang/IndexOutOfBoundsException") (A0 := fun q => s.heap.size ≤ q) (vx_runV (As := [.int pl, .int (nI t), .int (nI y), .int (nI g), .int (nI d)]) (rest := [.int (nI 0), .ref ob]) ⟨hx, hb, hml, hown, hts⟩ (x_wayAt_3 l hl0 D ca sa L f h0 ta pa aT aP aS aH n K V hR pl t ht y g d hy hg hd hno _) (cwV 5 hts gL_wayAt_X4_wayAt rfl rfl rfl (by decide +kernel) ⟨Nat.le_of_ble_eq_true rfl, Nat.le_of_ble_eq_true rfl⟩) (ztV hP hE hZ (fun _ h => h) rfl h4) rfl rfl hl.1 rfl (lv_room (Nat.le_of_ble_eq_true rfl)) dL_wayAt_11 ⟨Nat.le_of_ble_eq_true rfl, Nat.le_of_ble_eq_true rfl⟩) hS (fun _ h => h) (fun ce q9 H locs k1 k2 hS k3 k4 k5 => ?_)
  refine vx_catch (E := "java/lang/IndexOutOfBoundsException") (name := "java/lang/IndexOutOfBoundsException") hown [⟨0, 16, 19, 13⟩] ⟨0, 16, 23, 20⟩ [] hT (fun z hz => by rcases List.mem_singleton.mp hz with rfl; exact Or.inr ⟨by decide, "java/lang/IllegalArgumentException", hts (.classLink RL 13 "java/lang/IllegalArgumentException") (by decide +kernel), hN.2.2.2⟩) rfl (by decide) (hts (.classLink RL 20 "java/lang/IndexOutOfBoundsException") (by decide +kernel)) (va_Nw.use rfl hE.2.2.1.1.2.2) k3 k4 k5 ?_
  refine W.eq (g2 := F0 m 23 ls [.ref q9]) rfl ?_
  refine lv_astore (lv' := [(7, .ref q9), (0, .ref h0), (1, .int pl), (2, .int (nI t)), (3, .int (nI y)), (4, .int (nI g)), (5, .int (nI d)), (6, .ref ob)]) hx hb dL_wayAt_23 hl (by decide) rfl (fun ls hl => ?_)
  refine lv_iconst (v := nI 2) hx hb dL_wayAt_25 (by decide) ?_
  exact vx_ret (zlrx hx hb hr hlocks dL_wayAt_26 hS)

set_option maxHeartbeats 4000000 in
set_option maxRecDepth 100000 in
theorem L_gap_1 (l : Launch) (hl0 : l.stackTraces = false) (D : va_G) (ca : Nat → ClassId) (sa : Nat → Nat) (L : List Nat) (f : Nat → va_E) (h0 ta pa : Nat) (aT aP aS : Nat → Nat) (aH : Nat → Nat → Nat) (n K : Nat) (V : zV) (hR : zRep L f ca h0 ta pa aT aP aS aH n K V) (t g : Int32) (hbad : iT (vNt V) t = false) (ob : Nat) (og : Nat → Int64) (sz : Nat) : vx_Met l yL_gap wsL_gap ({ frames := 10, cells := 1, slots := 6, locals := 450 }) (va_Pc [.ref h0, .int t, .int g, .ref ob] (zLp D L f ob og ca sa sz)) (va_Qi (fun (r : Int32) (_ : Unit) => r = nI 1) (fun _ _ => True) (fun q => sz ≤ q)) zX0 1 6 (fun q => sz ≤ q) := by
  refine vx_ofWH (hh := [(0, 10, 13, 20), (0, 10, 17, 13)]) (cc := cL_gap) (maxL := 5) (ret := (some .int)) (by decide) rfl ?_
  intro p e s m args below meth c s₁ B hml hv
  obtain ⟨rfl, hsz, hP, hD0, hE, hN, hZ⟩ := hv
  have hx := B.exec
  have hb := B.bytes
  have hr := B.returns
  have hts := atoms_spec (ws := wsL_gap) B.pre
  have hown : s.vm.findClass RL = some m.cls := findClass_of_methodNamed B.named
  have hlocks := B.notSynchronized
  have hl := lv_entry ([.ref h0, .int t, .int g, .ref ob]) (n := 5) (Nat.le_of_ble_eq_true rfl)
  rw [lg_entry_eq]
  generalize (lg_sl ([.ref h0, .int t, .int g, .ref ob]) ++ List.replicate (5 - (lg_sl ([.ref h0, .int t, .int g, .ref ob])).length) Slot.unset).toArray = ls at hl ⊢
  have hl : lv_has ls 5 [(0, .ref h0), (1, .int t), (2, .int g), (3, .ref ob)] := hl
  have hT := vx_table (x := yX4_init) B (hts (.codeWith yL_gap cL_gap 5 (some .int) [(0, 10, 13, 20), (0, 10, 17, 13)]) (by decide +kernel))
  subst hsz
  have hS : va_S (fun q => s.heap.size ≤ q) s.heap s.heap [] := va_S.rf
  have hP := o_P hP
  have h4 := hR.1.1
  refine lv_aload_n hx hb dL_gap_0 rfl (lv_at hl 3 rfl) ?_
  refine lv_iconst (v := nI 0) hx hb dL_gap_1 (by decide) ?_
  refine lv_aload_n hx hb dL_gap_2 rfl (lv_at hl 0 rfl) ?_
  refine lv_iload_n hx hb dL_gap_3 rfl (lv_at hl 1 rfl) ?_
  refine lv_iload_n hx hb dL_gap_4 rfl (lv_at hl 2 rfl) ?_
  refine zxc (E0 := "java/lang/IndexOutOfBoundsException") (A0 := fun q => s.heap.size ≤ q) (vx_runV (As := [.int t, .int g]) (rest := [.int (nI 0), .ref ob]) ⟨hx, hb, hml, hown, hts⟩ (x_gap_1 l hl0 D ca sa L f h0 ta pa aT aP aS aH n K V hR t g hbad _) (cwV 2 hts gL_gap_X4_gap rfl rfl rfl (by decide +kernel) ⟨Nat.le_of_ble_eq_true rfl, Nat.le_of_ble_eq_true rfl⟩) (ztV hP hE hZ (fun _ h => h) rfl h4) rfl rfl hl.1 rfl (lv_room (Nat.le_of_ble_eq_true rfl)) dL_gap_5 ⟨Nat.le_of_ble_eq_true rfl, Nat.le_of_ble_eq_true rfl⟩) hS (fun _ h => h) (fun ce q9 H locs k1 k2 hS k3 k4 k5 => ?_)
  refine vx_catch (E := "java/lang/IndexOutOfBoundsException") (name := "java/lang/IndexOutOfBoundsException") hown [] ⟨0, 10, 13, 20⟩ [⟨0, 10, 17, 13⟩] hT (fun z hz => by cases hz) rfl (by decide) (hts (.classLink RL 20 "java/lang/IndexOutOfBoundsException") (by decide +kernel)) (va_Nw.use rfl hE.2.2.1.1.2.2) k3 k4 k5 ?_
  refine W.eq (g2 := F0 m 13 ls [.ref q9]) rfl ?_
  refine lv_astore (lv' := [(4, .ref q9), (0, .ref h0), (1, .int t), (2, .int g), (3, .ref ob)]) hx hb dL_gap_13 hl (by decide) rfl (fun ls hl => ?_)
  refine lv_iconst (v := nI 1) hx hb dL_gap_15 (by decide) ?_
  exact vx_ret (zlrx hx hb hr hlocks dL_gap_16 hS)

set_option maxHeartbeats 4000000 in
set_option maxRecDepth 100000 in
theorem L_gap_2 (l : Launch) (hl0 : l.stackTraces = false) (D : va_G) (ca : Nat → ClassId) (sa : Nat → Nat) (L : List Nat) (f : Nat → va_E) (h0 ta pa : Nat) (aT aP aS : Nat → Nat) (aH : Nat → Nat → Nat) (n K : Nat) (V : zV) (hR : zRep L f ca h0 ta pa aT aP aS aH n K V) (t g : Int32) (hok : iT (vNt V) t = true) (hbad : iB g (nI 0) (nI 3) = false) (ob : Nat) (og : Nat → Int64) (sz : Nat) : vx_Met l yL_gap wsL_gap ({ frames := 10, cells := 1, slots := 6, locals := 450 }) (va_Pc [.ref h0, .int t, .int g, .ref ob] (zLp D L f ob og ca sa sz)) (va_Qi (fun (r : Int32) (_ : Unit) => r = nI 2) (fun _ _ => True) (fun q => sz ≤ q)) zX0 1 6 (fun q => sz ≤ q) := by
  refine vx_ofWH (hh := [(0, 10, 13, 20), (0, 10, 17, 13)]) (cc := cL_gap) (maxL := 5) (ret := (some .int)) (by decide) rfl ?_
  intro p e s m args below meth c s₁ B hml hv
  obtain ⟨rfl, hsz, hP, hD0, hE, hN, hZ⟩ := hv
  have hx := B.exec
  have hb := B.bytes
  have hr := B.returns
  have hts := atoms_spec (ws := wsL_gap) B.pre
  have hown : s.vm.findClass RL = some m.cls := findClass_of_methodNamed B.named
  have hlocks := B.notSynchronized
  have hl := lv_entry ([.ref h0, .int t, .int g, .ref ob]) (n := 5) (Nat.le_of_ble_eq_true rfl)
  rw [lg_entry_eq]
  generalize (lg_sl ([.ref h0, .int t, .int g, .ref ob]) ++ List.replicate (5 - (lg_sl ([.ref h0, .int t, .int g, .ref ob])).length) Slot.unset).toArray = ls at hl ⊢
  have hl : lv_has ls 5 [(0, .ref h0), (1, .int t), (2, .int g), (3, .ref ob)] := hl
  have hT := vx_table (x := yX4_init) B (hts (.codeWith yL_gap cL_gap 5 (some .int) [(0, 10, 13, 20), (0, 10, 17, 13)]) (by decide +kernel))
  subst hsz
  have hS : va_S (fun q => s.heap.size ≤ q) s.heap s.heap [] := va_S.rf
  have hP := o_P hP
  have h4 := hR.1.1
  refine lv_aload_n hx hb dL_gap_0 rfl (lv_at hl 3 rfl) ?_
  refine lv_iconst (v := nI 0) hx hb dL_gap_1 (by decide) ?_
  refine lv_aload_n hx hb dL_gap_2 rfl (lv_at hl 0 rfl) ?_
  refine lv_iload_n hx hb dL_gap_3 rfl (lv_at hl 1 rfl) ?_
  refine lv_iload_n hx hb dL_gap_4 rfl (lv_at hl 2 rfl) ?_
  refine zxc (E0 := "java/lang/IllegalArgumentException") (A0 := fun q => s.heap.size ≤ q) (vx_runV (As := [.int t, .int g]) (rest := [.int (nI 0), .ref ob]) ⟨hx, hb, hml, hown, hts⟩ (x_gap_2 l hl0 D ca sa L f h0 ta pa aT aP aS aH n K V hR t g hok hbad _) (cwV 2 hts gL_gap_X4_gap rfl rfl rfl (by decide +kernel) ⟨Nat.le_of_ble_eq_true rfl, Nat.le_of_ble_eq_true rfl⟩) (ztV hP hE hZ (fun _ h => h) rfl h4) rfl rfl hl.1 rfl (lv_room (Nat.le_of_ble_eq_true rfl)) dL_gap_5 ⟨Nat.le_of_ble_eq_true rfl, Nat.le_of_ble_eq_true rfl⟩) hS (fun _ h => h) (fun ce q9 H locs k1 k2 hS k3 k4 k5 => ?_)
  refine vx_catch (E := "java/lang/IllegalArgumentException") (name := "java/lang/IllegalArgumentException") hown [⟨0, 10, 13, 20⟩] ⟨0, 10, 17, 13⟩ [] hT (fun z hz => by rcases List.mem_singleton.mp hz with rfl; exact Or.inr ⟨by decide, "java/lang/IndexOutOfBoundsException", hts (.classLink RL 20 "java/lang/IndexOutOfBoundsException") (by decide +kernel), hN.2.1⟩) rfl (by decide) (hts (.classLink RL 13 "java/lang/IllegalArgumentException") (by decide +kernel)) (va_Nw.use rfl hE.2.2.1.1.1) k3 k4 k5 ?_
  refine W.eq (g2 := F0 m 17 ls [.ref q9]) rfl ?_
  refine lv_astore (lv' := [(4, .ref q9), (0, .ref h0), (1, .int t), (2, .int g), (3, .ref ob)]) hx hb dL_gap_17 hl (by decide) rfl (fun ls hl => ?_)
  refine lv_iconst (v := nI 2) hx hb dL_gap_19 (by decide) ?_
  exact vx_ret (zlrx hx hb hr hlocks dL_gap_20 hS)

set_option maxHeartbeats 4000000 in
set_option maxRecDepth 100000 in
theorem L_doubles_1 (l : Launch) (hl0 : l.stackTraces = false) (D : va_G) (ca : Nat → ClassId) (sa : Nat → Nat) (L : List Nat) (f : Nat → va_E) (h0 ta pa : Nat) (aT aP aS : Nat → Nat) (aH : Nat → Nat → Nat) (n K : Nat) (V : zV) (hR : zRep L f ca h0 ta pa aT aP aS aH n K V) (t g : Int32) (hbad : iT (vNt V) t = false) (ob : Nat) (og : Nat → Int64) (sz : Nat) : vx_Met l yL_doubles wsL_doubles ({ frames := 10, cells := 1, slots := 6, locals := 450 }) (va_Pc [.ref h0, .int t, .int g, .ref ob] (zLp D L f ob og ca sa sz)) (va_Qi (fun (r : Int32) (_ : Unit) => r = nI 1) (fun _ _ => True) (fun q => sz ≤ q)) zX0 1 6 (fun q => sz ≤ q) := by
  refine vx_ofWH (hh := [(0, 10, 13, 20), (0, 10, 17, 13)]) (cc := cL_doubles) (maxL := 5) (ret := (some .int)) (by decide) rfl ?_
  intro p e s m args below meth c s₁ B hml hv
  obtain ⟨rfl, hsz, hP, hD0, hE, hN, hZ⟩ := hv
  have hx := B.exec
  have hb := B.bytes
  have hr := B.returns
  have hts := atoms_spec (ws := wsL_doubles) B.pre
  have hown : s.vm.findClass RL = some m.cls := findClass_of_methodNamed B.named
  have hlocks := B.notSynchronized
  have hl := lv_entry ([.ref h0, .int t, .int g, .ref ob]) (n := 5) (Nat.le_of_ble_eq_true rfl)
  rw [lg_entry_eq]
  generalize (lg_sl ([.ref h0, .int t, .int g, .ref ob]) ++ List.replicate (5 - (lg_sl ([.ref h0, .int t, .int g, .ref ob])).length) Slot.unset).toArray = ls at hl ⊢
  have hl : lv_has ls 5 [(0, .ref h0), (1, .int t), (2, .int g), (3, .ref ob)] := hl
  have hT := vx_table (x := yX4_init) B (hts (.codeWith yL_doubles cL_doubles 5 (some .int) [(0, 10, 13, 20), (0, 10, 17, 13)]) (by decide +kernel))
  subst hsz
  have hS : va_S (fun q => s.heap.size ≤ q) s.heap s.heap [] := va_S.rf
  have hP := o_P hP
  have h4 := hR.1.1
  refine lv_aload_n hx hb dL_doubles_0 rfl (lv_at hl 3 rfl) ?_
  refine lv_iconst (v := nI 0) hx hb dL_doubles_1 (by decide) ?_
  refine lv_aload_n hx hb dL_doubles_2 rfl (lv_at hl 0 rfl) ?_
  refine lv_iload_n hx hb dL_doubles_3 rfl (lv_at hl 1 rfl) ?_
  refine lv_iload_n hx hb dL_doubles_4 rfl (lv_at hl 2 rfl) ?_
  refine zxc (E0 := "java/lang/IndexOutOfBoundsException") (A0 := fun q => s.heap.size ≤ q) (vx_runV (As := [.int t, .int g]) (rest := [.int (nI 0), .ref ob]) ⟨hx, hb, hml, hown, hts⟩ (x_doubles_1 l hl0 D ca sa L f h0 ta pa aT aP aS aH n K V hR t g hbad _) (cwV 2 hts gL_doubles_X4_doubles rfl rfl rfl (by decide +kernel) ⟨Nat.le_of_ble_eq_true rfl, Nat.le_of_ble_eq_true rfl⟩) (ztV hP hE hZ (fun _ h => h) rfl h4) rfl rfl hl.1 rfl (lv_room (Nat.le_of_ble_eq_true rfl)) dL_doubles_5 ⟨Nat.le_of_ble_eq_true rfl, Nat.le_of_ble_eq_true rfl⟩) hS (fun _ h => h) (fun ce q9 H locs k1 k2 hS k3 k4 k5 => ?_)
  refine vx_catch (E := "java/lang/IndexOutOfBoundsException") (name := "java/lang/IndexOutOfBoundsException") hown [] ⟨0, 10, 13, 20⟩ [⟨0, 10, 17, 13⟩] hT (fun z hz => by cases hz) rfl (by decide) (hts (.classLink RL 20 "java/lang/IndexOutOfBoundsException") (by decide +kernel)) (va_Nw.use rfl hE.2.2.1.1.2.2) k3 k4 k5 ?_
  refine W.eq (g2 := F0 m 13 ls [.ref q9]) rfl ?_
  refine lv_astore (lv' := [(4, .ref q9), (0, .ref h0), (1, .int t), (2, .int g), (3, .ref ob)]) hx hb dL_doubles_13 hl (by decide) rfl (fun ls hl => ?_)
  refine lv_iconst (v := nI 1) hx hb dL_doubles_15 (by decide) ?_
  exact vx_ret (zlrx hx hb hr hlocks dL_doubles_16 hS)

set_option maxHeartbeats 4000000 in
set_option maxRecDepth 100000 in
theorem L_doubles_2 (l : Launch) (hl0 : l.stackTraces = false) (D : va_G) (ca : Nat → ClassId) (sa : Nat → Nat) (L : List Nat) (f : Nat → va_E) (h0 ta pa : Nat) (aT aP aS : Nat → Nat) (aH : Nat → Nat → Nat) (n K : Nat) (V : zV) (hR : zRep L f ca h0 ta pa aT aP aS aH n K V) (t g : Int32) (hok : iT (vNt V) t = true) (hbad : iB g (nI 0) (nI 3) = false) (ob : Nat) (og : Nat → Int64) (sz : Nat) : vx_Met l yL_doubles wsL_doubles ({ frames := 10, cells := 1, slots := 6, locals := 450 }) (va_Pc [.ref h0, .int t, .int g, .ref ob] (zLp D L f ob og ca sa sz)) (va_Qi (fun (r : Int32) (_ : Unit) => r = nI 2) (fun _ _ => True) (fun q => sz ≤ q)) zX0 1 6 (fun q => sz ≤ q) := by
  refine vx_ofWH (hh := [(0, 10, 13, 20), (0, 10, 17, 13)]) (cc := cL_doubles) (maxL := 5) (ret := (some .int)) (by decide) rfl ?_
  intro p e s m args below meth c s₁ B hml hv
  obtain ⟨rfl, hsz, hP, hD0, hE, hN, hZ⟩ := hv
  have hx := B.exec
  have hb := B.bytes
  have hr := B.returns
  have hts := atoms_spec (ws := wsL_doubles) B.pre
  have hown : s.vm.findClass RL = some m.cls := findClass_of_methodNamed B.named
  have hlocks := B.notSynchronized
  have hl := lv_entry ([.ref h0, .int t, .int g, .ref ob]) (n := 5) (Nat.le_of_ble_eq_true rfl)
  rw [lg_entry_eq]
  generalize (lg_sl ([.ref h0, .int t, .int g, .ref ob]) ++ List.replicate (5 - (lg_sl ([.ref h0, .int t, .int g, .ref ob])).length) Slot.unset).toArray = ls at hl ⊢
  have hl : lv_has ls 5 [(0, .ref h0), (1, .int t), (2, .int g), (3, .ref ob)] := hl
  have hT := vx_table (x := yX4_init) B (hts (.codeWith yL_doubles cL_doubles 5 (some .int) [(0, 10, 13, 20), (0, 10, 17, 13)]) (by decide +kernel))
  subst hsz
  have hS : va_S (fun q => s.heap.size ≤ q) s.heap s.heap [] := va_S.rf
  have hP := o_P hP
  have h4 := hR.1.1
  refine lv_aload_n hx hb dL_doubles_0 rfl (lv_at hl 3 rfl) ?_
  refine lv_iconst (v := nI 0) hx hb dL_doubles_1 (by decide) ?_
  refine lv_aload_n hx hb dL_doubles_2 rfl (lv_at hl 0 rfl) ?_
  refine lv_iload_n hx hb dL_doubles_3 rfl (lv_at hl 1 rfl) ?_
  refine lv_iload_n hx hb dL_doubles_4 rfl (lv_at hl 2 rfl) ?_
  refine zxc (E0 := "java/lang/IllegalArgumentException") (A0 := fun q => s.heap.size ≤ q) (vx_runV (As := [.int t, .int g]) (rest := [.int (nI 0), .ref ob]) ⟨hx, hb, hml, hown, hts⟩ (x_doubles_2 l hl0 D ca sa L f h0 ta pa aT aP aS aH n K V hR t g hok hbad _) (cwV 2 hts gL_doubles_X4_doubles rfl rfl rfl (by decide +kernel) ⟨Nat.le_of_ble_eq_true rfl, Nat.le_of_ble_eq_true rfl⟩) (ztV hP hE hZ (fun _ h => h) rfl h4) rfl rfl hl.1 rfl (lv_room (Nat.le_of_ble_eq_true rfl)) dL_doubles_5 ⟨Nat.le_of_ble_eq_true rfl, Nat.le_of_ble_eq_true rfl⟩) hS (fun _ h => h) (fun ce q9 H locs k1 k2 hS k3 k4 k5 => ?_)
  refine vx_catch (E := "java/lang/IllegalArgumentException") (name := "java/lang/IllegalArgumentException") hown [⟨0, 10, 13, 20⟩] ⟨0, 10, 17, 13⟩ [] hT (fun z hz => by rcases List.mem_singleton.mp hz with rfl; exact Or.inr ⟨by decide, "java/lang/IndexOutOfBoundsException", hts (.classLink RL 20 "java/lang/IndexOutOfBoundsException") (by decide +kernel), hN.2.1⟩) rfl (by decide) (hts (.classLink RL 13 "java/lang/IllegalArgumentException") (by decide +kernel)) (va_Nw.use rfl hE.2.2.1.1.1) k3 k4 k5 ?_
  refine W.eq (g2 := F0 m 17 ls [.ref q9]) rfl ?_
  refine lv_astore (lv' := [(4, .ref q9), (0, .ref h0), (1, .int t), (2, .int g), (3, .ref ob)]) hx hb dL_doubles_17 hl (by decide) rfl (fun ls hl => ?_)
  refine lv_iconst (v := nI 2) hx hb dL_doubles_19 (by decide) ?_
  exact vx_ret (zlrx hx hb hr hlocks dL_doubles_20 hS)

set_option maxHeartbeats 4000000 in
set_option maxRecDepth 100000 in
theorem L_isNeedless_1 (l : Launch) (hl0 : l.stackTraces = false) (D : va_G) (ca : Nat → ClassId) (sa : Nat → Nat) (L : List Nat) (f : Nat → va_E) (h0 ta pa : Nat) (aT aP aS : Nat → Nat) (aH : Nat → Nat → Nat) (n K : Nat) (V : zV) (hR : zRep L f ca h0 ta pa aT aP aS aH n K V) (q : Int32) (hbad : iT (vNp V) q = false) (ob : Nat) (og : Nat → Int64) (sz : Nat) : vx_Met l yL_isNeedless wsL_isNeedless ({ frames := 10, cells := 1, slots := 6, locals := 450 }) (va_Pc [.ref h0, .int q, .ref ob] (zLp D L f ob og ca sa sz)) (va_Qi (fun (r : Int32) (_ : Unit) => r = nI 1) (fun _ _ => True) (fun q => sz ≤ q)) zX0 1 6 (fun q => sz ≤ q) := by
  refine vx_ofWH (hh := [(0, 16, 19, 20)]) (cc := cL_isNeedless) (maxL := 4) (ret := (some .int)) (by decide) rfl ?_
  intro p e s m args below meth c s₁ B hml hv
  obtain ⟨rfl, hsz, hP, hD0, hE, hN, hZ⟩ := hv
  have hx := B.exec
  have hb := B.bytes
  have hr := B.returns
  have hts := atoms_spec (ws := wsL_isNeedless) B.pre
  have hown : s.vm.findClass RL = some m.cls := findClass_of_methodNamed B.named
  have hlocks := B.notSynchronized
  have hl := lv_entry ([.ref h0, .int q, .ref ob]) (n := 4) (Nat.le_of_ble_eq_true rfl)
  rw [lg_entry_eq]
  generalize (lg_sl ([.ref h0, .int q, .ref ob]) ++ List.replicate (4 - (lg_sl ([.ref h0, .int q, .ref ob])).length) Slot.unset).toArray = ls at hl ⊢
  have hl : lv_has ls 4 [(0, .ref h0), (1, .int q), (2, .ref ob)] := hl
  have hT := vx_table (x := yX4_init) B (hts (.codeWith yL_isNeedless cL_isNeedless 4 (some .int) [(0, 16, 19, 20)]) (by decide +kernel))
  subst hsz
  have hS : va_S (fun q => s.heap.size ≤ q) s.heap s.heap [] := va_S.rf
  have hP := o_P hP
  have h4 := hR.1.1
  refine lv_aload_n hx hb dL_isNeedless_0 rfl (lv_at hl 2 rfl) ?_
  refine lv_iconst (v := nI 0) hx hb dL_isNeedless_1 (by decide) ?_
  refine lv_aload_n hx hb dL_isNeedless_2 rfl (lv_at hl 0 rfl) ?_
  refine lv_iload_n hx hb dL_isNeedless_3 rfl (lv_at hl 1 rfl) ?_
  refine zxc (E0 := "java/lang/IndexOutOfBoundsException") (A0 := fun q => s.heap.size ≤ q) (vx_runV (As := [.int q]) (rest := [.int (nI 0), .ref ob]) ⟨hx, hb, hml, hown, hts⟩ (x_isNeedless_1 l hl0 D ca sa L f h0 ta pa aT aP aS aH n K V hR q hbad _) (cwV 1 hts gL_isNeedless_X4_isNeedless rfl rfl rfl (by decide +kernel) ⟨Nat.le_of_ble_eq_true rfl, Nat.le_of_ble_eq_true rfl⟩) (ztV hP hE hZ (fun _ h => h) rfl h4) rfl rfl hl.1 rfl (lv_room (Nat.le_of_ble_eq_true rfl)) dL_isNeedless_4 ⟨Nat.le_of_ble_eq_true rfl, Nat.le_of_ble_eq_true rfl⟩) hS (fun _ h => h) (fun ce q9 H locs k1 k2 hS k3 k4 k5 => ?_)
  refine vx_catch (E := "java/lang/IndexOutOfBoundsException") (name := "java/lang/IndexOutOfBoundsException") hown [] ⟨0, 16, 19, 20⟩ [] hT (fun z hz => by cases hz) rfl (by decide) (hts (.classLink RL 20 "java/lang/IndexOutOfBoundsException") (by decide +kernel)) (va_Nw.use rfl hE.2.2.1.1.2.2) k3 k4 k5 ?_
  refine W.eq (g2 := F0 m 19 ls [.ref q9]) rfl ?_
  refine lv_astore_n (lv' := [(3, .ref q9), (0, .ref h0), (1, .int q), (2, .ref ob)]) hx hb dL_isNeedless_19 rfl hl (by decide) rfl (fun ls hl => ?_)
  refine lv_iconst (v := nI 1) hx hb dL_isNeedless_20 (by decide) ?_
  exact vx_ret (zlrx hx hb hr hlocks dL_isNeedless_21 hS)
