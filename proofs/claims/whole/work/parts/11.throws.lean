/-! what is thrown: every method that throws, on the runs on which it does -/
def zXX (E0 : String) (sz : Nat) : String → State → State → Prop := vx_X (fun _ : Unit => True) (fun E _ _ => E = E0) (fun q => sz ≤ q)
def zNo : Array Value → State → Outcome → State → Prop := fun _ _ _ _ => False
def zTp (D : va_G) (ws : va_W) (ca : Nat → ClassId) (sa : Nat → Nat) (sz : Nat) (U : State) : Prop := U.heap.size = sz ∧ va_P D vwCl ws U.heap ∧ zE D ca sa U ∧ zZ (fun q => sz ≤ q) U U.heap
theorem zTblind {D : va_G} {ws : va_W} {ca : Nat → ClassId} {sa : Nat → Nat} {sz : Nat} {av : List Value} : FrameBlind (va_Pc av (zTp D ws ca sa sz)) := fun a U g mk q => ⟨q.1, q.2.1, q.2.2.1, zE.warm (U := U.calling g mk a) (State.WarmedH.refl U) q.2.2.2.1, zZ.to (Vm.Alike.refl U.vm) (fun _ _ _ => rfl) (fun _ h => h) q.2.2.2.2⟩
theorem zTat {D : va_G} {ws : va_W} {ca : Nat → ClassId} {sa : Nat → Nat} {s U : State} {H : Heap} {A : Nat → Prop} (hP : va_P D vwCl ws H) (hE : zE D ca sa s) (hZ : zZ A s H) (hA : ∀ q, H.size ≤ q → A q) (hU : U.heap = H) (hW : s.WarmedH U.vm) : zTp D ws ca sa H.size U := ⟨by rw [hU], by rw [hU]; exact hP, hE.warm hW, by rw [hU]; exact zZ.to hW.alike (fun _ _ _ => rfl) hA hZ⟩
theorem ztS {D : va_G} {ws : va_W} {ca : Nat → ClassId} {sa : Nat → Nat} {s : State} {H : Heap} {A : Nat → Prop} {As : List Value} (hP : va_P D vwCl ws H) (hE : zE D ca sa s) (hZ : zZ A s H) (hA : ∀ q, H.size ≤ q → A q) : PreS s H (va_Pc As (zTp D ws ca sa H.size)) As := ⟨zTblind, fun U hU hW => ⟨rfl, zTat hP hE hZ hA hU hW⟩⟩
theorem ztV {D : va_G} {L : List Nat} {f : Nat → va_E} {ca : Nat → ClassId} {sa : Nat → Nat} {s : State} {H : Heap} {A : Nat → Prop} {b ci : Nat} {q : vw_C} {fs : List Value} {As : List Value} (hP : va_P D vwCl (va_pl L f) H) (hE : zE D ca sa s) (hZ : zZ A s H) (hA : ∀ q, H.size ≤ q → A q) (hc : vwCl[ci]? = some q) (he : zat L f b (.inr (ci, fs))) : PreV s H q.1 b (va_Pc (.ref b :: As) (zTp D (va_pl L f) ca sa H.size)) As := by
  obtain ⟨k, hk⟩ := zat_get he
  exact ⟨zTblind, va_recv hE.1 hP hc hk, fun U hU hW => ⟨rfl, zTat hP hE hZ hA hU hW⟩⟩
section ZX
variable {p : Program} {l : Launch} {e : Env} {R : Room} {s : State} {m : MethodId} {args : Array Value} {below : List Frame} {meth : Method} {c : Code} {H : Heap} {locs : List Loc} {cells slots : Nat} {Q : State → Prop}
variable {cc : ByteArray} {pc : Nat} {ls : Array Slot} {rest st0 : List Value} {A A0 : Nat → Prop} {H0 : Heap} {ar : Array Value} {E0 : String}
/-- behind a call that throws -/
theorem zxc (hr : vx_Run p l e R s m args below meth c H locs cells slots 1 6 (F0 m pc ls st0) rest (zNo ar) (zXX E0 H.size) (fun q => H.size ≤ q)) (hS : va_S A0 H0 H locs) (hA : ∀ q : Nat, H0.size ≤ q → A0 q)
    (kx : ∀ (ce : Cell) (q9 : Addr) (H1 : Heap) (locs1 : List Loc), H.size ≤ H1.size → (∀ q : Nat, q < H.size → H1[q]? = H[q]?) → va_S A0 H0 H1 locs1 → H1[q9]? = some ce → ce.vm = .none → s.vm.findClass E0 = some ce.cls → vx_W p l e R s m args below meth c H1 locs1 (cells + 1) (slots + 6) Q (F0 m pc ls rest) q9) : W p l e R s m args below meth c H locs cells slots Q (F0 m pc ls st0) := by
  intro T hT X
  rcases hr T hT X with ⟨v, st₀, t, T', L, h0, X', hL, e1, e2, hq, st⟩ | ⟨q, st₀, t, T', L, E, ce, h0, X', hL, e1, e2, ⟨u, -, hb, hF⟩, hce, hcv, hcl, st⟩
  · exact hq.elim
  · have hb : E = E0 := hb
    subst hb
    have hA' : ∀ q, H.size ≤ q → A0 q := fun q h => hA q (Nat.le_trans hS.1 h)
    obtain ⟨k1, k2, k3⟩ := vx_keep h0 e1 hS (fun q _ h => hA' q h) hA' hL hF
    obtain ⟨t2, a1, b1⟩ := kx ce q T'.heap (locs ++ L) k1 (fun q h => k2 q h (Nat.not_le.mpr h)) k3 (by rw [e1]; exact hce) hcv hcl T' rfl X'
    exact ⟨t2, st.trans a1, b1⟩
/-- .. and is not caught here -/
theorem zxco (hr : vx_Run p l e R s m args below meth c s.heap [] 0 0 1 6 (F0 m pc ls st0) rest (zNo ar) (zXX E0 s.heap.size) (fun q => s.heap.size ≤ q)) (hxt : ∀ x ∈ c.exceptionTable.toList, False) (hlocks : meth.locks = false) : W p l e R s m args below meth c s.heap [] 0 0 (vx_MQ below zNo (zXX E0 s.heap.size) args s 1 6 (fun q => s.heap.size ≤ q)) (F0 m pc ls st0) := by
  refine zxc hr (A0 := fun q => s.heap.size ≤ q) va_S.rf (fun _ h => h) (fun ce q9 H1 locs1 h1 h2 hS h3 h4 h5 => ?_)
  exact vx_out (fun x h => (hxt x h).elim) hlocks h3 h4 h5 (fun t htt _ => ⟨(), trivial, rfl, hS.F htt⟩) hS.2.2 (Nat.le_refl _) (Nat.le_refl _)
end ZX

set_option maxHeartbeats 4000000 in
set_option maxRecDepth 100000 in
theorem x_ckRange (l : Launch) (hl0 : l.stackTraces = false) (D : va_G) (ca : Nat → ClassId) (sa : Nat → Nat) (ws : va_W) (v a b : Int32) (hbad : iB v a b = false) (sz : Nat) : vx_Met l yX4_checkRange wsX4_checkRange ({ frames := 6, cells := 1, slots := 6, locals := 270 }) (va_Pc [.int v, .int a, .int b] (zTp D ws ca sa sz)) zNo (zXX "java/lang/IllegalArgumentException" sz) 1 6 (fun q => sz ≤ q) := by
  refine vx_ofW (cc := cX4_checkRange) (maxL := 3) (ret := none) (by decide) rfl ?_
  intro p e s m args below meth c s₁ B hml hxt hv
  obtain ⟨rfl, hsz, hP, hE, hZ⟩ := hv
  have hx := B.exec
  have hb := B.bytes
  have hr := B.returns
  have hts := atoms_spec (ws := wsX4_checkRange) B.pre
  have hown : s.vm.findClass RX4 = some m.cls := findClass_of_methodNamed B.named
  have hlocks := B.notSynchronized
  have hl := lv_entry ([.int v, .int a, .int b]) (n := 3) (Nat.le_of_ble_eq_true rfl)
  rw [lg_entry_eq]
  generalize (lg_sl ([.int v, .int a, .int b]) ++ List.replicate (3 - (lg_sl ([.int v, .int a, .int b])).length) Slot.unset).toArray = ls at hl ⊢
  have hl : lv_has ls 3 [(0, .int v), (1, .int a), (2, .int b)] := hl
  subst hsz
  refine lv_iload_n hx hb dX4_checkRange_0 rfl (lv_at hl 0 rfl) ?_
  refine lv_iload_n hx hb dX4_checkRange_1 rfl (lv_at hl 1 rfl) ?_
  refine lv_icmp_lt (tgt := 10) hx hb dX4_checkRange_2 (by decide) (fun c_2 => ?_) (fun c_2 => ?_)
  · exact vx_throwS (A := fun q => s.heap.size ≤ q) (cls := "java/lang/IllegalArgumentException") (names := ["java/lang/RuntimeException", "java/lang/Exception"]) hx hb hl0 hown (by decide +kernel) (by decide +kernel) (hts (.classLink RX4 156 "java/lang/IllegalArgumentException") (by decide +kernel)) (hts (.initialized "java/lang/IllegalArgumentException") (by decide +kernel)) hE.2.2.2.2.1 (vx_hat (B := [.castable "java/lang/IllegalArgumentException" "java/lang/IllegalArgumentException", .declares (Bundle.initS "java/lang/RuntimeException"), .declares (Bundle.initS "java/lang/Exception"), .declares (Bundle.initS Bundle.tN)]) (fun w h => hts w (List.mem_cons_of_mem _ (List.mem_append_right _ h))) (by decide +kernel) (vx_c (va_Nw.use rfl hE.2.2.1.1.1) (vx_c (va_Nw.use rfl hE.2.2.1.2.1) (vx_c (va_Nw.use rfl hE.2.2.1.2.2.1) (vx_c (va_Nw.use rfl hE.2.2.1.2.2.2) vx_n))))) (by decide +kernel) hZ.1 hZ.2 va_S.rf (hl.1.trans hml.symm) dX4_checkRange_10 dX4_checkRange_13 dX4_checkRange_14 dX4_checkRange_16 dX4_checkRange_19 (fun x h => (hxt x h).elim) (Nat.le_of_ble_eq_true rfl) (Nat.le_of_ble_eq_true rfl) (Nat.le_of_ble_eq_true rfl) (Nat.le_of_ble_eq_true rfl) hlocks (fun t _ h1 h2 => ⟨(), trivial, rfl, h1, fun q h _ => h2 q h⟩) (fun z h => nomatch h) (Nat.le_refl _) (Nat.le_refl _)
  · refine lv_iload_n hx hb dX4_checkRange_5 rfl (lv_at hl 0 rfl) ?_
    refine lv_iload_n hx hb dX4_checkRange_6 rfl (lv_at hl 2 rfl) ?_
    refine lv_icmp_le (tgt := 20) hx hb dX4_checkRange_7 (by decide) (fun c_7 => ?_) (fun c_7 => ?_)
    · exact absurd hbad (by rw [iB, decide_eq_true c_2, decide_eq_true (Int32.not_lt.mpr c_7)]; decide)
    · exact vx_throwS (A := fun q => s.heap.size ≤ q) (cls := "java/lang/IllegalArgumentException") (names := ["java/lang/RuntimeException", "java/lang/Exception"]) hx hb hl0 hown (by decide +kernel) (by decide +kernel) (hts (.classLink RX4 156 "java/lang/IllegalArgumentException") (by decide +kernel)) (hts (.initialized "java/lang/IllegalArgumentException") (by decide +kernel)) hE.2.2.2.2.1 (vx_hat (B := [.castable "java/lang/IllegalArgumentException" "java/lang/IllegalArgumentException", .declares (Bundle.initS "java/lang/RuntimeException"), .declares (Bundle.initS "java/lang/Exception"), .declares (Bundle.initS Bundle.tN)]) (fun w h => hts w (List.mem_cons_of_mem _ (List.mem_append_right _ h))) (by decide +kernel) (vx_c (va_Nw.use rfl hE.2.2.1.1.1) (vx_c (va_Nw.use rfl hE.2.2.1.2.1) (vx_c (va_Nw.use rfl hE.2.2.1.2.2.1) (vx_c (va_Nw.use rfl hE.2.2.1.2.2.2) vx_n))))) (by decide +kernel) hZ.1 hZ.2 va_S.rf (hl.1.trans hml.symm) dX4_checkRange_10 dX4_checkRange_13 dX4_checkRange_14 dX4_checkRange_16 dX4_checkRange_19 (fun x h => (hxt x h).elim) (Nat.le_of_ble_eq_true rfl) (Nat.le_of_ble_eq_true rfl) (Nat.le_of_ble_eq_true rfl) (Nat.le_of_ble_eq_true rfl) hlocks (fun t _ h1 h2 => ⟨(), trivial, rfl, h1, fun q h _ => h2 q h⟩) (fun z h => nomatch h) (Nat.le_refl _) (Nat.le_refl _)

set_option maxHeartbeats 4000000 in
set_option maxRecDepth 100000 in
theorem x_exTitle (l : Launch) (hl0 : l.stackTraces = false) (D : va_G) (ca : Nat → ClassId) (sa : Nat → Nat) (L : List Nat) (f : Nat → va_E) (h0 ta pa : Nat) (aT aP aS : Nat → Nat) (aH : Nat → Nat → Nat) (n K : Nat) (V : zV) (hR : zRep L f ca h0 ta pa aT aP aS aH n K V) (x : Int32) (hbad : iT (vNt V) x = false) (sz : Nat) : vx_Met l yX4_existingTitle wsX4_existingTitle ({ frames := 6, cells := 1, slots := 6, locals := 270 }) (va_Pc [.ref h0, .int x] (zTp D (va_pl L f) ca sa sz)) zNo (zXX "java/lang/IndexOutOfBoundsException" sz) 1 6 (fun q => sz ≤ q) := by
  refine vx_ofW (cc := cX4_existingTitle) (maxL := 2) (ret := (some (.object "LinkResolver$Title"))) (by decide) rfl ?_
  intro p e s m args below meth c s₁ B hml hxt hv
  obtain ⟨rfl, hsz, hP, hE, hZ⟩ := hv
  have hx := B.exec
  have hb := B.bytes
  have hr := B.returns
  have hts := atoms_spec (ws := wsX4_existingTitle) B.pre
  have hown : s.vm.findClass RX4 = some m.cls := findClass_of_methodNamed B.named
  have hlocks := B.notSynchronized
  have hl := lv_entry ([.ref h0, .int x]) (n := 2) (Nat.le_of_ble_eq_true rfl)
  rw [lg_entry_eq]
  generalize (lg_sl ([.ref h0, .int x]) ++ List.replicate (2 - (lg_sl ([.ref h0, .int x])).length) Slot.unset).toArray = ls at hl ⊢
  have hl : lv_has ls 2 [(0, .ref h0), (1, .int x)] := hl
  subst hsz
  obtain ⟨⟨h4, hTd, hNt, hNp, hnK, hK5⟩, ⟨gt, htA, hTi⟩, ⟨gp, hpA, hPk⟩, hinj⟩ := id hR
  have hpk : ∀ q, q < vNp V → zPack L f ca (aP q) (vP V q) (aH q 20) (aS q) (aH q) := fun q h => (hPk q h).2.1
  have hhi : ∀ q, q < vNp V → ∀ w, w ≤ 20 → zHist L f (aH q w) (vB V q w) (vL V q w) := fun q h w hw => ((hPk q h).2.2 w hw).1
  refine lv_iload_n hx hb dX4_existingTitle_0 rfl (lv_at hl 1 rfl) ?_
  refine lv_if_lt (tgt := 21) hx hb dX4_existingTitle_1 (by decide) (fun c_1 => ?_) (fun c_1 => ?_)
  · exact vx_throwS (A := fun q => s.heap.size ≤ q) (cls := "java/lang/IndexOutOfBoundsException") (names := ["java/lang/RuntimeException", "java/lang/Exception"]) hx hb hl0 hown (by decide +kernel) (by decide +kernel) (hts (.classLink RX4 123 "java/lang/IndexOutOfBoundsException") (by decide +kernel)) (hts (.initialized "java/lang/IndexOutOfBoundsException") (by decide +kernel)) hE.2.2.2.2.2.1 (vx_hat (B := [.castable "java/lang/IndexOutOfBoundsException" "java/lang/IndexOutOfBoundsException", .declares (Bundle.initS "java/lang/RuntimeException"), .declares (Bundle.initS "java/lang/Exception"), .declares (Bundle.initS Bundle.tN)]) (fun w h => hts w (List.mem_cons_of_mem _ (List.mem_append_right _ h))) (by decide +kernel) (vx_c (va_Nw.use rfl hE.2.2.1.1.2.2) (vx_c (va_Nw.use rfl hE.2.2.1.2.1) (vx_c (va_Nw.use rfl hE.2.2.1.2.2.1) (vx_c (va_Nw.use rfl hE.2.2.1.2.2.2) vx_n))))) (by decide +kernel) hZ.1 hZ.2 va_S.rf (hl.1.trans hml.symm) dX4_existingTitle_21 dX4_existingTitle_24 dX4_existingTitle_25 dX4_existingTitle_27 dX4_existingTitle_30 (fun x h => (hxt x h).elim) (Nat.le_of_ble_eq_true rfl) (Nat.le_of_ble_eq_true rfl) (Nat.le_of_ble_eq_true rfl) (Nat.le_of_ble_eq_true rfl) hlocks (fun t _ h1 h2 => ⟨(), trivial, rfl, h1, fun q h _ => h2 q h⟩) (fun z h => nomatch h) (Nat.le_refl _) (Nat.le_refl _)
  · refine lv_iload_n hx hb dX4_existingTitle_4 rfl (lv_at hl 1 rfl) ?_
    refine lv_aload_n hx hb dX4_existingTitle_5 rfl (lv_at hl 0 rfl) ?_
    refine zget (own := RX4) (ci := 4) (C := RX4) (T := TX4) (N := 6) hx hb hts (by decide +kernel) hown hE hP h4 rfl 2 (by decide) (hts (.fieldLink RX4 21 "LinkResolver" "titleCount" "I") (by decide +kernel)) rfl dX4_existingTitle_6 ?_
    refine lv_icmp_ge (tgt := 21) hx hb dX4_existingTitle_9 (by decide) (fun c_9 => ?_) (fun c_9 => ?_)
    · exact vx_throwS (A := fun q => s.heap.size ≤ q) (cls := "java/lang/IndexOutOfBoundsException") (names := ["java/lang/RuntimeException", "java/lang/Exception"]) hx hb hl0 hown (by decide +kernel) (by decide +kernel) (hts (.classLink RX4 123 "java/lang/IndexOutOfBoundsException") (by decide +kernel)) (hts (.initialized "java/lang/IndexOutOfBoundsException") (by decide +kernel)) hE.2.2.2.2.2.1 (vx_hat (B := [.castable "java/lang/IndexOutOfBoundsException" "java/lang/IndexOutOfBoundsException", .declares (Bundle.initS "java/lang/RuntimeException"), .declares (Bundle.initS "java/lang/Exception"), .declares (Bundle.initS Bundle.tN)]) (fun w h => hts w (List.mem_cons_of_mem _ (List.mem_append_right _ h))) (by decide +kernel) (vx_c (va_Nw.use rfl hE.2.2.1.1.2.2) (vx_c (va_Nw.use rfl hE.2.2.1.2.1) (vx_c (va_Nw.use rfl hE.2.2.1.2.2.1) (vx_c (va_Nw.use rfl hE.2.2.1.2.2.2) vx_n))))) (by decide +kernel) hZ.1 hZ.2 va_S.rf (hl.1.trans hml.symm) dX4_existingTitle_21 dX4_existingTitle_24 dX4_existingTitle_25 dX4_existingTitle_27 dX4_existingTitle_30 (fun x h => (hxt x h).elim) (Nat.le_of_ble_eq_true rfl) (Nat.le_of_ble_eq_true rfl) (Nat.le_of_ble_eq_true rfl) (Nat.le_of_ble_eq_true rfl) hlocks (fun t _ h1 h2 => ⟨(), trivial, rfl, h1, fun q h _ => h2 q h⟩) (fun z h => nomatch h) (Nat.le_refl _) (Nat.le_refl _)
    · exact absurd hbad (by rw [iT, decide_eq_true c_1, decide_eq_true c_9]; decide)

set_option maxHeartbeats 4000000 in
set_option maxRecDepth 100000 in
theorem x_exPack (l : Launch) (hl0 : l.stackTraces = false) (D : va_G) (ca : Nat → ClassId) (sa : Nat → Nat) (L : List Nat) (f : Nat → va_E) (h0 ta pa : Nat) (aT aP aS : Nat → Nat) (aH : Nat → Nat → Nat) (n K : Nat) (V : zV) (hR : zRep L f ca h0 ta pa aT aP aS aH n K V) (x : Int32) (hbad : iT (vNp V) x = false) (sz : Nat) : vx_Met l yX4_existingPack wsX4_existingPack ({ frames := 6, cells := 1, slots := 6, locals := 270 }) (va_Pc [.ref h0, .int x] (zTp D (va_pl L f) ca sa sz)) zNo (zXX "java/lang/IndexOutOfBoundsException" sz) 1 6 (fun q => sz ≤ q) := by
  refine vx_ofW (cc := cX4_existingPack) (maxL := 2) (ret := (some (.object "LinkResolver$Pack"))) (by decide) rfl ?_
  intro p e s m args below meth c s₁ B hml hxt hv
  obtain ⟨rfl, hsz, hP, hE, hZ⟩ := hv
  have hx := B.exec
  have hb := B.bytes
  have hr := B.returns
  have hts := atoms_spec (ws := wsX4_existingPack) B.pre
  have hown : s.vm.findClass RX4 = some m.cls := findClass_of_methodNamed B.named
  have hlocks := B.notSynchronized
  have hl := lv_entry ([.ref h0, .int x]) (n := 2) (Nat.le_of_ble_eq_true rfl)
  rw [lg_entry_eq]
  generalize (lg_sl ([.ref h0, .int x]) ++ List.replicate (2 - (lg_sl ([.ref h0, .int x])).length) Slot.unset).toArray = ls at hl ⊢
  have hl : lv_has ls 2 [(0, .ref h0), (1, .int x)] := hl
  subst hsz
  obtain ⟨⟨h4, hTd, hNt, hNp, hnK, hK5⟩, ⟨gt, htA, hTi⟩, ⟨gp, hpA, hPk⟩, hinj⟩ := id hR
  have hpk : ∀ q, q < vNp V → zPack L f ca (aP q) (vP V q) (aH q 20) (aS q) (aH q) := fun q h => (hPk q h).2.1
  have hhi : ∀ q, q < vNp V → ∀ w, w ≤ 20 → zHist L f (aH q w) (vB V q w) (vL V q w) := fun q h w hw => ((hPk q h).2.2 w hw).1
  refine lv_iload_n hx hb dX4_existingPack_0 rfl (lv_at hl 1 rfl) ?_
  refine lv_if_lt (tgt := 21) hx hb dX4_existingPack_1 (by decide) (fun c_1 => ?_) (fun c_1 => ?_)
  · exact vx_throwS (A := fun q => s.heap.size ≤ q) (cls := "java/lang/IndexOutOfBoundsException") (names := ["java/lang/RuntimeException", "java/lang/Exception"]) hx hb hl0 hown (by decide +kernel) (by decide +kernel) (hts (.classLink RX4 123 "java/lang/IndexOutOfBoundsException") (by decide +kernel)) (hts (.initialized "java/lang/IndexOutOfBoundsException") (by decide +kernel)) hE.2.2.2.2.2.2.1 (vx_hat (B := [.castable "java/lang/IndexOutOfBoundsException" "java/lang/IndexOutOfBoundsException", .declares (Bundle.initS "java/lang/RuntimeException"), .declares (Bundle.initS "java/lang/Exception"), .declares (Bundle.initS Bundle.tN)]) (fun w h => hts w (List.mem_cons_of_mem _ (List.mem_append_right _ h))) (by decide +kernel) (vx_c (va_Nw.use rfl hE.2.2.1.1.2.2) (vx_c (va_Nw.use rfl hE.2.2.1.2.1) (vx_c (va_Nw.use rfl hE.2.2.1.2.2.1) (vx_c (va_Nw.use rfl hE.2.2.1.2.2.2) vx_n))))) (by decide +kernel) hZ.1 hZ.2 va_S.rf (hl.1.trans hml.symm) dX4_existingPack_21 dX4_existingPack_24 dX4_existingPack_25 dX4_existingPack_27 dX4_existingPack_30 (fun x h => (hxt x h).elim) (Nat.le_of_ble_eq_true rfl) (Nat.le_of_ble_eq_true rfl) (Nat.le_of_ble_eq_true rfl) (Nat.le_of_ble_eq_true rfl) hlocks (fun t _ h1 h2 => ⟨(), trivial, rfl, h1, fun q h _ => h2 q h⟩) (fun z h => nomatch h) (Nat.le_refl _) (Nat.le_refl _)
  · refine lv_iload_n hx hb dX4_existingPack_4 rfl (lv_at hl 1 rfl) ?_
    refine lv_aload_n hx hb dX4_existingPack_5 rfl (lv_at hl 0 rfl) ?_
    refine zget (own := RX4) (ci := 4) (C := RX4) (T := TX4) (N := 6) hx hb hts (by decide +kernel) hown hE hP h4 rfl 3 (by decide) (hts (.fieldLink RX4 25 "LinkResolver" "packCount" "I") (by decide +kernel)) rfl dX4_existingPack_6 ?_
    refine lv_icmp_ge (tgt := 21) hx hb dX4_existingPack_9 (by decide) (fun c_9 => ?_) (fun c_9 => ?_)
    · exact vx_throwS (A := fun q => s.heap.size ≤ q) (cls := "java/lang/IndexOutOfBoundsException") (names := ["java/lang/RuntimeException", "java/lang/Exception"]) hx hb hl0 hown (by decide +kernel) (by decide +kernel) (hts (.classLink RX4 123 "java/lang/IndexOutOfBoundsException") (by decide +kernel)) (hts (.initialized "java/lang/IndexOutOfBoundsException") (by decide +kernel)) hE.2.2.2.2.2.2.1 (vx_hat (B := [.castable "java/lang/IndexOutOfBoundsException" "java/lang/IndexOutOfBoundsException", .declares (Bundle.initS "java/lang/RuntimeException"), .declares (Bundle.initS "java/lang/Exception"), .declares (Bundle.initS Bundle.tN)]) (fun w h => hts w (List.mem_cons_of_mem _ (List.mem_append_right _ h))) (by decide +kernel) (vx_c (va_Nw.use rfl hE.2.2.1.1.2.2) (vx_c (va_Nw.use rfl hE.2.2.1.2.1) (vx_c (va_Nw.use rfl hE.2.2.1.2.2.1) (vx_c (va_Nw.use rfl hE.2.2.1.2.2.2) vx_n))))) (by decide +kernel) hZ.1 hZ.2 va_S.rf (hl.1.trans hml.symm) dX4_existingPack_21 dX4_existingPack_24 dX4_existingPack_25 dX4_existingPack_27 dX4_existingPack_30 (fun x h => (hxt x h).elim) (Nat.le_of_ble_eq_true rfl) (Nat.le_of_ble_eq_true rfl) (Nat.le_of_ble_eq_true rfl) (Nat.le_of_ble_eq_true rfl) hlocks (fun t _ h1 h2 => ⟨(), trivial, rfl, h1, fun q h _ => h2 q h⟩) (fun z h => nomatch h) (Nat.le_refl _) (Nat.le_refl _)
    · exact absurd hbad (by rw [iT, decide_eq_true c_1, decide_eq_true c_9]; decide)

set_option maxHeartbeats 4000000 in
set_option maxRecDepth 100000 in
theorem x_exStay (l : Launch) (hl0 : l.stackTraces = false) (D : va_G) (ca : Nat → ClassId) (sa : Nat → Nat) (L : List Nat) (f : Nat → va_E) (h0 ta pa : Nat) (aT aP aS : Nat → Nat) (aH : Nat → Nat → Nat) (n K : Nat) (V : zV) (hR : zRep L f ca h0 ta pa aT aP aS aH n K V) (q t : Int32) (hbad : (iT (vNp V) q && iT (vNt V) t) = false) (sz : Nat) : vx_Met l yX4_existingStay wsX4_existingStay ({ frames := 7, cells := 1, slots := 6, locals := 315 }) (va_Pc [.ref h0, .int q, .int t] (zTp D (va_pl L f) ca sa sz)) zNo (zXX "java/lang/IndexOutOfBoundsException" sz) 1 6 (fun q => sz ≤ q) := by
  refine vx_ofW (cc := cX4_existingStay) (maxL := 4) (ret := (some (.object "LinkResolver$History"))) (by decide) rfl ?_
  intro p e s m args below meth c s₁ B hml hxt hv
  obtain ⟨rfl, hsz, hP, hE, hZ⟩ := hv
  have hx := B.exec
  have hb := B.bytes
  have hr := B.returns
  have hts := atoms_spec (ws := wsX4_existingStay) B.pre
  have hown : s.vm.findClass RX4 = some m.cls := findClass_of_methodNamed B.named
  have hlocks := B.notSynchronized
  have hl := lv_entry ([.ref h0, .int q, .int t]) (n := 4) (Nat.le_of_ble_eq_true rfl)
  rw [lg_entry_eq]
  generalize (lg_sl ([.ref h0, .int q, .int t]) ++ List.replicate (4 - (lg_sl ([.ref h0, .int q, .int t])).length) Slot.unset).toArray = ls at hl ⊢
  have hl : lv_has ls 4 [(0, .ref h0), (1, .int q), (2, .int t)] := hl
  subst hsz
  obtain ⟨⟨h4, hTd, hNt, hNp, hnK, hK5⟩, ⟨gt, htA, hTi⟩, ⟨gp, hpA, hPk⟩, hinj⟩ := id hR
  have hpk : ∀ q, q < vNp V → zPack L f ca (aP q) (vP V q) (aH q 20) (aS q) (aH q) := fun q h => (hPk q h).2.1
  have hhi : ∀ q, q < vNp V → ∀ w, w ≤ 20 → zHist L f (aH q w) (vB V q w) (vL V q w) := fun q h w hw => ((hPk q h).2.2 w hw).1
  refine lv_aload_n hx hb dX4_existingStay_0 rfl (lv_at hl 0 rfl) ?_
  refine lv_iload_n hx hb dX4_existingStay_1 rfl (lv_at hl 1 rfl) ?_
  rcases hk_2 : iT (vNp V) q with _ | _
  · exact zxco (vx_runV (As := [.int q]) (rest := []) ⟨hx, hb, hml, hown, hts⟩ (x_exPack l hl0 D ca sa L f h0 ta pa aT aP aS aH n K V hR (q) hk_2 _) (cwV 1 hts gX4_existingStay_X4_existingPack rfl rfl rfl (by decide +kernel) ⟨Nat.le_of_ble_eq_true rfl, Nat.le_of_ble_eq_true rfl⟩) (ztV hP hE hZ (fun _ h => h) (ci := 4) rfl h4) rfl rfl hl.1 rfl (lv_room (Nat.le_of_ble_eq_true rfl)) dX4_existingStay_2 ⟨Nat.le_of_ble_eq_true rfl, Nat.le_of_ble_eq_true rfl⟩) hxt hlocks
  obtain ⟨q9, hq9, rfl⟩ := iT_n hk_2 (by omega)
  refine zcq (va_runV (As := [.int (nI q9)]) (rest := []) ⟨hx, hb, hml, hown, hts⟩ (c_exPack l D ca sa L f h0 ta pa aT aP aS aH n K V hR q9 hq9) (cwV 1 hts gX4_existingStay_X4_existingPack rfl rfl rfl (by decide +kernel) ⟨Nat.le_of_ble_eq_true rfl, Nat.le_of_ble_eq_true rfl⟩) (zpVp hP hE (ci := 4) rfl h4) rfl rfl hl.1 rfl (lv_room (Nat.le_of_ble_eq_true rfl)) dX4_existingStay_2 ⟨Nat.le_of_ble_eq_true rfl, Nat.le_of_ble_eq_true rfl⟩) ?_
  refine W.eq (g2 := F0 m 5 ls [.ref (aP q9)]) rfl ?_
  refine lv_astore_n (lv' := [(3, .ref (aP q9)), (0, .ref h0), (1, .int (nI q9)), (2, .int t)]) hx hb dX4_existingStay_5 rfl hl (by decide) rfl (fun ls hl => ?_)
  refine lv_aload_n hx hb dX4_existingStay_6 rfl (lv_at hl 1 rfl) ?_
  refine lv_iload_n hx hb dX4_existingStay_7 rfl (lv_at hl 3 rfl) ?_
  exact zxco (vx_runV (As := [.int t]) (rest := []) ⟨hx, hb, hml, hown, hts⟩ (x_exTitle l hl0 D ca sa L f h0 ta pa aT aP aS aH n K V hR (t) (by rw [hk_2, Bool.true_and] at hbad; exact hbad) _) (cwV 1 hts gX4_existingStay_X4_existingTitle rfl rfl rfl (by decide +kernel) ⟨Nat.le_of_ble_eq_true rfl, Nat.le_of_ble_eq_true rfl⟩) (ztV hP hE hZ (fun _ h => h) (ci := 4) rfl h4) rfl rfl hl.1 rfl (lv_room (Nat.le_of_ble_eq_true rfl)) dX4_existingStay_8 ⟨Nat.le_of_ble_eq_true rfl, Nat.le_of_ble_eq_true rfl⟩) hxt hlocks

set_option maxHeartbeats 4000000 in
set_option maxRecDepth 100000 in
theorem x_ckArt (l : Launch) (hl0 : l.stackTraces = false) (D : va_G) (ca : Nat → ClassId) (sa : Nat → Nat) (L : List Nat) (f : Nat → va_E) (h0 ta pa : Nat) (aT aP aS : Nat → Nat) (aH : Nat → Nat → Nat) (n K : Nat) (V : zV) (hR : zRep L f ca h0 ta pa aT aP aS aH n K V) (y g d : Int32) (hbad : (iB y (nI 0) (nI 55) && (iB g (nI 0) (nI 3) && iB d (nI 0) (nI (vTd V)))) = false) (sz : Nat) : vx_Met l yX4_checkArticle wsX4_checkArticle ({ frames := 7, cells := 1, slots := 6, locals := 315 }) (va_Pc [.ref h0, .int y, .int g, .int d] (zTp D (va_pl L f) ca sa sz)) zNo (zXX "java/lang/IllegalArgumentException" sz) 1 6 (fun q => sz ≤ q) := by
  refine vx_ofW (cc := cX4_checkArticle) (maxL := 4) (ret := none) (by decide) rfl ?_
  intro p e s m args below meth c s₁ B hml hxt hv
  obtain ⟨rfl, hsz, hP, hE, hZ⟩ := hv
  have hx := B.exec
  have hb := B.bytes
  have hr := B.returns
  have hts := atoms_spec (ws := wsX4_checkArticle) B.pre
  have hown : s.vm.findClass RX4 = some m.cls := findClass_of_methodNamed B.named
  have hlocks := B.notSynchronized
  have hl := lv_entry ([.ref h0, .int y, .int g, .int d]) (n := 4) (Nat.le_of_ble_eq_true rfl)
  rw [lg_entry_eq]
  generalize (lg_sl ([.ref h0, .int y, .int g, .int d]) ++ List.replicate (4 - (lg_sl ([.ref h0, .int y, .int g, .int d])).length) Slot.unset).toArray = ls at hl ⊢
  have hl : lv_has ls 4 [(0, .ref h0), (1, .int y), (2, .int g), (3, .int d)] := hl
  subst hsz
  obtain ⟨⟨h4, hTd, hNt, hNp, hnK, hK5⟩, ⟨gt, htA, hTi⟩, ⟨gp, hpA, hPk⟩, hinj⟩ := id hR
  have hpk : ∀ q, q < vNp V → zPack L f ca (aP q) (vP V q) (aH q 20) (aS q) (aH q) := fun q h => (hPk q h).2.1
  have hhi : ∀ q, q < vNp V → ∀ w, w ≤ 20 → zHist L f (aH q w) (vB V q w) (vL V q w) := fun q h w hw => ((hPk q h).2.2 w hw).1
  refine lv_iload_n hx hb dX4_checkArticle_0 rfl (lv_at hl 1 rfl) ?_
  refine lv_iconst (v := nI 0) hx hb dX4_checkArticle_1 (by decide) ?_
  refine lv_bipush (v := nI 55) hx hb dX4_checkArticle_2 (by decide) ?_
  rcases hk_4 : iB y (nI 0) (nI 55) with _ | _
  · exact zxco (vx_runS (As := [.int y, .int (nI 0), .int (nI 55)]) (rest := []) ⟨hx, hb, hml, hown, hts⟩ (x_ckRange l hl0 D ca sa _ (y) ((nI 0)) ((nI 55)) hk_4 _) (va_cwS 3 hts gX4_checkArticle_X4_checkRange rfl rfl rfl (by decide +kernel) ⟨Nat.le_of_ble_eq_true rfl, Nat.le_of_ble_eq_true rfl⟩) (ztS hP hE hZ (fun _ h => h)) rfl rfl hl.1 rfl (lv_room (Nat.le_of_ble_eq_true rfl)) dX4_checkArticle_4 ⟨Nat.le_of_ble_eq_true rfl, Nat.le_of_ble_eq_true rfl⟩) hxt hlocks
  obtain ⟨y9, y9_1, y9_2, rfl⟩ := iB_n hk_4 (by omega) (by omega)
  refine zcv (va_runS (As := [.int (nI y9), .int (nI 0), .int (nI 55)]) (rest := []) ⟨hx, hb, hml, hown, hts⟩ (c_ckRange l D ca sa _ y9 (0) (55) y9_1 y9_2 (by omega)) (va_cwS 3 hts gX4_checkArticle_X4_checkRange rfl rfl rfl (by decide +kernel) ⟨Nat.le_of_ble_eq_true rfl, Nat.le_of_ble_eq_true rfl⟩) (zpS hP hE) rfl rfl hl.1 rfl (lv_room (Nat.le_of_ble_eq_true rfl)) dX4_checkArticle_4 ⟨Nat.le_of_ble_eq_true rfl, Nat.le_of_ble_eq_true rfl⟩) ?_
  refine lv_iload_n hx hb dX4_checkArticle_7 rfl (lv_at hl 2 rfl) ?_
  refine lv_iconst (v := nI 0) hx hb dX4_checkArticle_8 (by decide) ?_
  refine lv_iconst (v := nI 3) hx hb dX4_checkArticle_9 (by decide) ?_
  rcases hk_10 : iB g (nI 0) (nI 3) with _ | _
  · exact zxco (vx_runS (As := [.int g, .int (nI 0), .int (nI 3)]) (rest := []) ⟨hx, hb, hml, hown, hts⟩ (x_ckRange l hl0 D ca sa _ (g) ((nI 0)) ((nI 3)) hk_10 _) (va_cwS 3 hts gX4_checkArticle_X4_checkRange rfl rfl rfl (by decide +kernel) ⟨Nat.le_of_ble_eq_true rfl, Nat.le_of_ble_eq_true rfl⟩) (ztS hP hE hZ (fun _ h => h)) rfl rfl hl.1 rfl (lv_room (Nat.le_of_ble_eq_true rfl)) dX4_checkArticle_10 ⟨Nat.le_of_ble_eq_true rfl, Nat.le_of_ble_eq_true rfl⟩) hxt hlocks
  obtain ⟨g9, g9_1, g9_2, rfl⟩ := iB_n hk_10 (by omega) (by omega)
  refine zcv (va_runS (As := [.int (nI g9), .int (nI 0), .int (nI 3)]) (rest := []) ⟨hx, hb, hml, hown, hts⟩ (c_ckRange l D ca sa _ g9 (0) (3) g9_1 g9_2 (by omega)) (va_cwS 3 hts gX4_checkArticle_X4_checkRange rfl rfl rfl (by decide +kernel) ⟨Nat.le_of_ble_eq_true rfl, Nat.le_of_ble_eq_true rfl⟩) (zpS hP hE) rfl rfl hl.1 rfl (lv_room (Nat.le_of_ble_eq_true rfl)) dX4_checkArticle_10 ⟨Nat.le_of_ble_eq_true rfl, Nat.le_of_ble_eq_true rfl⟩) ?_
  refine lv_iload_n hx hb dX4_checkArticle_13 rfl (lv_at hl 3 rfl) ?_
  refine lv_iconst (v := nI 0) hx hb dX4_checkArticle_14 (by decide) ?_
  refine lv_aload_n hx hb dX4_checkArticle_15 rfl (lv_at hl 0 rfl) ?_
  refine zget (own := RX4) (ci := 4) (C := RX4) (T := TX4) (N := 6) hx hb hts (by decide +kernel) hown hE hP h4 rfl 5 (by decide) (hts (.fieldLink RX4 31 "LinkResolver" "currentDay" "I") (by decide +kernel)) rfl dX4_checkArticle_16 ?_
  exact zxco (vx_runS (As := [.int d, .int (nI 0), .int (nI (vTd V))]) (rest := []) ⟨hx, hb, hml, hown, hts⟩ (x_ckRange l hl0 D ca sa _ (d) ((nI 0)) ((nI (vTd V))) (by rw [hk_4, hk_10, Bool.true_and, Bool.true_and] at hbad; exact hbad) _) (va_cwS 3 hts gX4_checkArticle_X4_checkRange rfl rfl rfl (by decide +kernel) ⟨Nat.le_of_ble_eq_true rfl, Nat.le_of_ble_eq_true rfl⟩) (ztS hP hE hZ (fun _ h => h)) rfl rfl hl.1 rfl (lv_room (Nat.le_of_ble_eq_true rfl)) dX4_checkArticle_19 ⟨Nat.le_of_ble_eq_true rfl, Nat.le_of_ble_eq_true rfl⟩) hxt hlocks

set_option maxHeartbeats 4000000 in
set_option maxRecDepth 100000 in
theorem x_addTitle_1 (l : Launch) (hl0 : l.stackTraces = false) (D : va_G) (ca : Nat → ClassId) (sa : Nat → Nat) (L : List Nat) (f : Nat → va_E) (h0 ta pa : Nat) (aT aP aS : Nat → Nat) (aH : Nat → Nat → Nat) (n K : Nat) (V : zV) (hR : zRep L f ca h0 ta pa aT aP aS aH n K V) (a b : Int32) (hbad : (iB a (nI 0) (nI 55) && iB b (nI 1) (nI 4)) = false) (sz : Nat) : vx_Met l yX4_addTitle wsX4_addTitle ({ frames := 9, cells := 1, slots := 6, locals := 405 }) (va_Pc [.ref h0, .int a, .int b] (zTp D (va_pl L f) ca sa sz)) zNo (zXX "java/lang/IllegalArgumentException" sz) 1 6 (fun q => sz ≤ q) := by
  refine vx_ofW (cc := cX4_addTitle) (maxL := 4) (ret := (some .int)) (by decide) rfl ?_
  intro p e s m args below meth c s₁ B hml hxt hv
  obtain ⟨rfl, hsz, hP, hE, hZ⟩ := hv
  have hx := B.exec
  have hb := B.bytes
  have hr := B.returns
  have hts := atoms_spec (ws := wsX4_addTitle) B.pre
  have hown : s.vm.findClass RX4 = some m.cls := findClass_of_methodNamed B.named
  have hlocks := B.notSynchronized
  have hl := lv_entry ([.ref h0, .int a, .int b]) (n := 4) (Nat.le_of_ble_eq_true rfl)
  rw [lg_entry_eq]
  generalize (lg_sl ([.ref h0, .int a, .int b]) ++ List.replicate (4 - (lg_sl ([.ref h0, .int a, .int b])).length) Slot.unset).toArray = ls at hl ⊢
  have hl : lv_has ls 4 [(0, .ref h0), (1, .int a), (2, .int b)] := hl
  subst hsz
  obtain ⟨⟨h4, hTd, hNt, hNp, hnK, hK5⟩, ⟨gt, htA, hTi⟩, ⟨gp, hpA, hPk⟩, hinj⟩ := id hR
  have hpk : ∀ q, q < vNp V → zPack L f ca (aP q) (vP V q) (aH q 20) (aS q) (aH q) := fun q h => (hPk q h).2.1
  have hhi : ∀ q, q < vNp V → ∀ w, w ≤ 20 → zHist L f (aH q w) (vB V q w) (vL V q w) := fun q h w hw => ((hPk q h).2.2 w hw).1
  refine lv_iload_n hx hb dX4_addTitle_0 rfl (lv_at hl 1 rfl) ?_
  refine lv_iconst (v := nI 0) hx hb dX4_addTitle_1 (by decide) ?_
  refine lv_bipush (v := nI 55) hx hb dX4_addTitle_2 (by decide) ?_
  rcases hk_4 : iB a (nI 0) (nI 55) with _ | _
  · exact zxco (vx_runS (As := [.int a, .int (nI 0), .int (nI 55)]) (rest := []) ⟨hx, hb, hml, hown, hts⟩ (x_ckRange l hl0 D ca sa _ (a) ((nI 0)) ((nI 55)) hk_4 _) (va_cwS 3 hts gX4_addTitle_X4_checkRange rfl rfl rfl (by decide +kernel) ⟨Nat.le_of_ble_eq_true rfl, Nat.le_of_ble_eq_true rfl⟩) (ztS hP hE hZ (fun _ h => h)) rfl rfl hl.1 rfl (lv_room (Nat.le_of_ble_eq_true rfl)) dX4_addTitle_4 ⟨Nat.le_of_ble_eq_true rfl, Nat.le_of_ble_eq_true rfl⟩) hxt hlocks
  obtain ⟨a9, a9_1, a9_2, rfl⟩ := iB_n hk_4 (by omega) (by omega)
  refine zcv (va_runS (As := [.int (nI a9), .int (nI 0), .int (nI 55)]) (rest := []) ⟨hx, hb, hml, hown, hts⟩ (c_ckRange l D ca sa _ a9 (0) (55) a9_1 a9_2 (by omega)) (va_cwS 3 hts gX4_addTitle_X4_checkRange rfl rfl rfl (by decide +kernel) ⟨Nat.le_of_ble_eq_true rfl, Nat.le_of_ble_eq_true rfl⟩) (zpS hP hE) rfl rfl hl.1 rfl (lv_room (Nat.le_of_ble_eq_true rfl)) dX4_addTitle_4 ⟨Nat.le_of_ble_eq_true rfl, Nat.le_of_ble_eq_true rfl⟩) ?_
  refine lv_iload_n hx hb dX4_addTitle_7 rfl (lv_at hl 2 rfl) ?_
  refine lv_iconst (v := nI 1) hx hb dX4_addTitle_8 (by decide) ?_
  refine lv_iconst (v := nI 4) hx hb dX4_addTitle_9 (by decide) ?_
  exact zxco (vx_runS (As := [.int b, .int (nI 1), .int (nI 4)]) (rest := []) ⟨hx, hb, hml, hown, hts⟩ (x_ckRange l hl0 D ca sa _ (b) ((nI 1)) ((nI 4)) (by rw [hk_4, Bool.true_and] at hbad; exact hbad) _) (va_cwS 3 hts gX4_addTitle_X4_checkRange rfl rfl rfl (by decide +kernel) ⟨Nat.le_of_ble_eq_true rfl, Nat.le_of_ble_eq_true rfl⟩) (ztS hP hE hZ (fun _ h => h)) rfl rfl hl.1 rfl (lv_room (Nat.le_of_ble_eq_true rfl)) dX4_addTitle_10 ⟨Nat.le_of_ble_eq_true rfl, Nat.le_of_ble_eq_true rfl⟩) hxt hlocks

set_option maxHeartbeats 4000000 in
set_option maxRecDepth 100000 in
theorem x_addTitle_2 (l : Launch) (hl0 : l.stackTraces = false) (D : va_G) (ca : Nat → ClassId) (sa : Nat → Nat) (L : List Nat) (f : Nat → va_E) (h0 ta pa : Nat) (aT aP aS : Nat → Nat) (aH : Nat → Nat → Nat) (n K : Nat) (V : zV) (hR : zRep L f ca h0 ta pa aT aP aS aH n K V) (a b : Int32) (h1 : iB a (nI 0) (nI 55) = true) (h2 : iB b (nI 1) (nI 4) = true) (hnt : vNt V = 20) (sz : Nat) : vx_Met l yX4_addTitle wsX4_addTitle ({ frames := 9, cells := 1, slots := 6, locals := 405 }) (va_Pc [.ref h0, .int a, .int b] (zTp D (va_pl L f) ca sa sz)) zNo (zXX "java/lang/IllegalStateException" sz) 1 6 (fun q => sz ≤ q) := by
  refine vx_ofW (cc := cX4_addTitle) (maxL := 4) (ret := (some .int)) (by decide) rfl ?_
  intro p e s m args below meth c s₁ B hml hxt hv
  obtain ⟨rfl, hsz, hP, hE, hZ⟩ := hv
  have hx := B.exec
  have hb := B.bytes
  have hr := B.returns
  have hts := atoms_spec (ws := wsX4_addTitle) B.pre
  have hown : s.vm.findClass RX4 = some m.cls := findClass_of_methodNamed B.named
  have hlocks := B.notSynchronized
  have hl := lv_entry ([.ref h0, .int a, .int b]) (n := 4) (Nat.le_of_ble_eq_true rfl)
  rw [lg_entry_eq]
  generalize (lg_sl ([.ref h0, .int a, .int b]) ++ List.replicate (4 - (lg_sl ([.ref h0, .int a, .int b])).length) Slot.unset).toArray = ls at hl ⊢
  have hl : lv_has ls 4 [(0, .ref h0), (1, .int a), (2, .int b)] := hl
  subst hsz
  obtain ⟨⟨h4, hTd, hNt, hNp, hnK, hK5⟩, ⟨gt, htA, hTi⟩, ⟨gp, hpA, hPk⟩, hinj⟩ := id hR
  have hpk : ∀ q, q < vNp V → zPack L f ca (aP q) (vP V q) (aH q 20) (aS q) (aH q) := fun q h => (hPk q h).2.1
  have hhi : ∀ q, q < vNp V → ∀ w, w ≤ 20 → zHist L f (aH q w) (vB V q w) (vL V q w) := fun q h w hw => ((hPk q h).2.2 w hw).1
  refine lv_iload_n hx hb dX4_addTitle_0 rfl (lv_at hl 1 rfl) ?_
  refine lv_iconst (v := nI 0) hx hb dX4_addTitle_1 (by decide) ?_
  refine lv_bipush (v := nI 55) hx hb dX4_addTitle_2 (by decide) ?_
  have hk_4 : iB a (nI 0) (nI 55) = true := h1
  obtain ⟨a9, a9_1, a9_2, rfl⟩ := iB_n hk_4 (by omega) (by omega)
  refine zcv (va_runS (As := [.int (nI a9), .int (nI 0), .int (nI 55)]) (rest := []) ⟨hx, hb, hml, hown, hts⟩ (c_ckRange l D ca sa _ a9 (0) (55) a9_1 a9_2 (by omega)) (va_cwS 3 hts gX4_addTitle_X4_checkRange rfl rfl rfl (by decide +kernel) ⟨Nat.le_of_ble_eq_true rfl, Nat.le_of_ble_eq_true rfl⟩) (zpS hP hE) rfl rfl hl.1 rfl (lv_room (Nat.le_of_ble_eq_true rfl)) dX4_addTitle_4 ⟨Nat.le_of_ble_eq_true rfl, Nat.le_of_ble_eq_true rfl⟩) ?_
  refine lv_iload_n hx hb dX4_addTitle_7 rfl (lv_at hl 2 rfl) ?_
  refine lv_iconst (v := nI 1) hx hb dX4_addTitle_8 (by decide) ?_
  refine lv_iconst (v := nI 4) hx hb dX4_addTitle_9 (by decide) ?_
  have hk_10 : iB b (nI 1) (nI 4) = true := h2
  obtain ⟨b9, b9_1, b9_2, rfl⟩ := iB_n hk_10 (by omega) (by omega)
  refine zcv (va_runS (As := [.int (nI b9), .int (nI 1), .int (nI 4)]) (rest := []) ⟨hx, hb, hml, hown, hts⟩ (c_ckRange l D ca sa _ b9 (1) (4) b9_1 b9_2 (by omega)) (va_cwS 3 hts gX4_addTitle_X4_checkRange rfl rfl rfl (by decide +kernel) ⟨Nat.le_of_ble_eq_true rfl, Nat.le_of_ble_eq_true rfl⟩) (zpS hP hE) rfl rfl hl.1 rfl (lv_room (Nat.le_of_ble_eq_true rfl)) dX4_addTitle_10 ⟨Nat.le_of_ble_eq_true rfl, Nat.le_of_ble_eq_true rfl⟩) ?_
  refine lv_aload_n hx hb dX4_addTitle_13 rfl (lv_at hl 0 rfl) ?_
  refine zget (own := RX4) (ci := 4) (C := RX4) (T := TX4) (N := 6) hx hb hts (by decide +kernel) hown hE hP h4 rfl 2 (by decide) (hts (.fieldLink RX4 21 "LinkResolver" "titleCount" "I") (by decide +kernel)) rfl dX4_addTitle_14 ?_
  refine lv_istore_n (lv' := [(3, .int (nI (vNt V))), (0, .ref h0), (1, .int (nI a9)), (2, .int (nI b9))]) hx hb dX4_addTitle_17 rfl hl (by decide) rfl (fun ls hl => ?_)
  refine lv_iload_n hx hb dX4_addTitle_18 rfl (lv_at hl 0 rfl) ?_
  refine lv_bipush (v := nI 20) hx hb dX4_addTitle_19 (by decide) ?_
  refine lv_icmp_lt (tgt := 34) hx hb dX4_addTitle_21 (by decide) (fun c_21 => ?_) (fun c_21 => ?_)
  · exact absurd ((nI_ltI (by omega) (by omega)).mp c_21) (by omega)
  · exact vx_throwS (A := fun q => s.heap.size ≤ q) (cls := "java/lang/IllegalStateException") (names := ["java/lang/RuntimeException", "java/lang/Exception"]) hx hb hl0 hown (by decide +kernel) (by decide +kernel) (hts (.classLink RX4 38 "java/lang/IllegalStateException") (by decide +kernel)) (hts (.initialized "java/lang/IllegalStateException") (by decide +kernel)) hE.2.2.2.2.2.2.2.1 (vx_hat (B := [.castable "java/lang/IllegalStateException" "java/lang/IllegalStateException", .declares (Bundle.initS "java/lang/RuntimeException"), .declares (Bundle.initS "java/lang/Exception"), .declares (Bundle.initS Bundle.tN)]) (fun w h => hts w (List.mem_cons_of_mem _ (List.mem_append_left _ (List.mem_append_right _ h)))) (by decide +kernel) (vx_c (va_Nw.use rfl hE.2.2.1.1.2.1) (vx_c (va_Nw.use rfl hE.2.2.1.2.1) (vx_c (va_Nw.use rfl hE.2.2.1.2.2.1) (vx_c (va_Nw.use rfl hE.2.2.1.2.2.2) vx_n))))) (by decide +kernel) hZ.1 hZ.2 va_S.rf (hl.1.trans hml.symm) dX4_addTitle_24 dX4_addTitle_27 dX4_addTitle_28 dX4_addTitle_30 dX4_addTitle_33 (fun x h => (hxt x h).elim) (Nat.le_of_ble_eq_true rfl) (Nat.le_of_ble_eq_true rfl) (Nat.le_of_ble_eq_true rfl) (Nat.le_of_ble_eq_true rfl) hlocks (fun t _ h1 h2 => ⟨(), trivial, rfl, h1, fun q h _ => h2 q h⟩) (fun z h => nomatch h) (Nat.le_refl _) (Nat.le_refl _)

set_option maxHeartbeats 4000000 in
set_option maxRecDepth 100000 in
theorem x_yearOf_1 (l : Launch) (hl0 : l.stackTraces = false) (D : va_G) (ca : Nat → ClassId) (sa : Nat → Nat) (L : List Nat) (f : Nat → va_E) (h0 ta pa : Nat) (aT aP aS : Nat → Nat) (aH : Nat → Nat → Nat) (n K : Nat) (V : zV) (hR : zRep L f ca h0 ta pa aT aP aS aH n K V) (t v : Int32) (hbad : iT (vNt V) t = false) (sz : Nat) : vx_Met l yX4_yearOf wsX4_yearOf ({ frames := 9, cells := 1, slots := 6, locals := 405 }) (va_Pc [.ref h0, .int t, .int v] (zTp D (va_pl L f) ca sa sz)) zNo (zXX "java/lang/IndexOutOfBoundsException" sz) 1 6 (fun q => sz ≤ q) := by
  refine vx_ofW (cc := cX4_yearOf) (maxL := 5) (ret := (some .int)) (by decide) rfl ?_
  intro p e s m args below meth c s₁ B hml hxt hv
  obtain ⟨rfl, hsz, hP, hE, hZ⟩ := hv
  have hx := B.exec
  have hb := B.bytes
  have hr := B.returns
  have hts := atoms_spec (ws := wsX4_yearOf) B.pre
  have hown : s.vm.findClass RX4 = some m.cls := findClass_of_methodNamed B.named
  have hlocks := B.notSynchronized
  have hl := lv_entry ([.ref h0, .int t, .int v]) (n := 5) (Nat.le_of_ble_eq_true rfl)
  rw [lg_entry_eq]
  generalize (lg_sl ([.ref h0, .int t, .int v]) ++ List.replicate (5 - (lg_sl ([.ref h0, .int t, .int v])).length) Slot.unset).toArray = ls at hl ⊢
  have hl : lv_has ls 5 [(0, .ref h0), (1, .int t), (2, .int v)] := hl
  subst hsz
  obtain ⟨⟨h4, hTd, hNt, hNp, hnK, hK5⟩, ⟨gt, htA, hTi⟩, ⟨gp, hpA, hPk⟩, hinj⟩ := id hR
  have hpk : ∀ q, q < vNp V → zPack L f ca (aP q) (vP V q) (aH q 20) (aS q) (aH q) := fun q h => (hPk q h).2.1
  have hhi : ∀ q, q < vNp V → ∀ w, w ≤ 20 → zHist L f (aH q w) (vB V q w) (vL V q w) := fun q h w hw => ((hPk q h).2.2 w hw).1
  refine lv_aload_n hx hb dX4_yearOf_0 rfl (lv_at hl 0 rfl) ?_
  refine lv_iload_n hx hb dX4_yearOf_1 rfl (lv_at hl 1 rfl) ?_
  exact zxco (vx_runV (As := [.int t]) (rest := []) ⟨hx, hb, hml, hown, hts⟩ (x_exTitle l hl0 D ca sa L f h0 ta pa aT aP aS aH n K V hR (t) hbad _) (cwV 1 hts gX4_yearOf_X4_existingTitle rfl rfl rfl (by decide +kernel) ⟨Nat.le_of_ble_eq_true rfl, Nat.le_of_ble_eq_true rfl⟩) (ztV hP hE hZ (fun _ h => h) (ci := 4) rfl h4) rfl rfl hl.1 rfl (lv_room (Nat.le_of_ble_eq_true rfl)) dX4_yearOf_2 ⟨Nat.le_of_ble_eq_true rfl, Nat.le_of_ble_eq_true rfl⟩) hxt hlocks

set_option maxHeartbeats 4000000 in
set_option maxRecDepth 100000 in
theorem x_volumeOf_1 (l : Launch) (hl0 : l.stackTraces = false) (D : va_G) (ca : Nat → ClassId) (sa : Nat → Nat) (L : List Nat) (f : Nat → va_E) (h0 ta pa : Nat) (aT aP aS : Nat → Nat) (aH : Nat → Nat → Nat) (n K : Nat) (V : zV) (hR : zRep L f ca h0 ta pa aT aP aS aH n K V) (t v : Int32) (hbad : iT (vNt V) t = false) (sz : Nat) : vx_Met l yX4_volumeOf wsX4_volumeOf ({ frames := 9, cells := 1, slots := 6, locals := 405 }) (va_Pc [.ref h0, .int t, .int v] (zTp D (va_pl L f) ca sa sz)) zNo (zXX "java/lang/IndexOutOfBoundsException" sz) 1 6 (fun q => sz ≤ q) := by
  refine vx_ofW (cc := cX4_volumeOf) (maxL := 4) (ret := (some .int)) (by decide) rfl ?_
  intro p e s m args below meth c s₁ B hml hxt hv
  obtain ⟨rfl, hsz, hP, hE, hZ⟩ := hv
  have hx := B.exec
  have hb := B.bytes
  have hr := B.returns
  have hts := atoms_spec (ws := wsX4_volumeOf) B.pre
  have hown : s.vm.findClass RX4 = some m.cls := findClass_of_methodNamed B.named
  have hlocks := B.notSynchronized
  have hl := lv_entry ([.ref h0, .int t, .int v]) (n := 4) (Nat.le_of_ble_eq_true rfl)
  rw [lg_entry_eq]
  generalize (lg_sl ([.ref h0, .int t, .int v]) ++ List.replicate (4 - (lg_sl ([.ref h0, .int t, .int v])).length) Slot.unset).toArray = ls at hl ⊢
  have hl : lv_has ls 4 [(0, .ref h0), (1, .int t), (2, .int v)] := hl
  subst hsz
  obtain ⟨⟨h4, hTd, hNt, hNp, hnK, hK5⟩, ⟨gt, htA, hTi⟩, ⟨gp, hpA, hPk⟩, hinj⟩ := id hR
  have hpk : ∀ q, q < vNp V → zPack L f ca (aP q) (vP V q) (aH q 20) (aS q) (aH q) := fun q h => (hPk q h).2.1
  have hhi : ∀ q, q < vNp V → ∀ w, w ≤ 20 → zHist L f (aH q w) (vB V q w) (vL V q w) := fun q h w hw => ((hPk q h).2.2 w hw).1
  refine lv_aload_n hx hb dX4_volumeOf_0 rfl (lv_at hl 0 rfl) ?_
  refine lv_iload_n hx hb dX4_volumeOf_1 rfl (lv_at hl 1 rfl) ?_
  exact zxco (vx_runV (As := [.int t]) (rest := []) ⟨hx, hb, hml, hown, hts⟩ (x_exTitle l hl0 D ca sa L f h0 ta pa aT aP aS aH n K V hR (t) hbad _) (cwV 1 hts gX4_volumeOf_X4_existingTitle rfl rfl rfl (by decide +kernel) ⟨Nat.le_of_ble_eq_true rfl, Nat.le_of_ble_eq_true rfl⟩) (ztV hP hE hZ (fun _ h => h) (ci := 4) rfl h4) rfl rfl hl.1 rfl (lv_room (Nat.le_of_ble_eq_true rfl)) dX4_volumeOf_2 ⟨Nat.le_of_ble_eq_true rfl, Nat.le_of_ble_eq_true rfl⟩) hxt hlocks

set_option maxHeartbeats 4000000 in
set_option maxRecDepth 100000 in
theorem x_yearOf_2 (l : Launch) (hl0 : l.stackTraces = false) (D : va_G) (ca : Nat → ClassId) (sa : Nat → Nat) (L : List Nat) (f : Nat → va_E) (h0 ta pa : Nat) (aT aP aS : Nat → Nat) (aH : Nat → Nat → Nat) (n K : Nat) (V : zV) (hR : zRep L f ca h0 ta pa aT aP aS aH n K V) (t : Nat) (ht9 : t < vNt V) (w : Int32) (hbad : iB w (nI 1) (nI ((56 - (vT V t).1) * (vT V t).2)) = false) (sz : Nat) : vx_Met l yX4_yearOf wsX4_yearOf ({ frames := 9, cells := 1, slots := 6, locals := 405 }) (va_Pc [.ref h0, .int (nI t), .int w] (zTp D (va_pl L f) ca sa sz)) zNo (zXX "java/lang/IllegalArgumentException" sz) 1 6 (fun q => sz ≤ q) := by
  refine vx_ofW (cc := cX4_yearOf) (maxL := 5) (ret := (some .int)) (by decide) rfl ?_
  intro p e s m args below meth c s₁ B hml hxt hv
  obtain ⟨rfl, hsz, hP, hE, hZ⟩ := hv
  have hx := B.exec
  have hb := B.bytes
  have hr := B.returns
  have hts := atoms_spec (ws := wsX4_yearOf) B.pre
  have hown : s.vm.findClass RX4 = some m.cls := findClass_of_methodNamed B.named
  have hlocks := B.notSynchronized
  have hl := lv_entry ([.ref h0, .int (nI t), .int w]) (n := 5) (Nat.le_of_ble_eq_true rfl)
  rw [lg_entry_eq]
  generalize (lg_sl ([.ref h0, .int (nI t), .int w]) ++ List.replicate (5 - (lg_sl ([.ref h0, .int (nI t), .int w])).length) Slot.unset).toArray = ls at hl ⊢
  have hl : lv_has ls 5 [(0, .ref h0), (1, .int (nI t)), (2, .int w)] := hl
  subst hsz
  obtain ⟨⟨h4, hTd, hNt, hNp, hnK, hK5⟩, ⟨gt, htA, hTi⟩, ⟨gp, hpA, hPk⟩, hinj⟩ := id hR
  have hpk : ∀ q, q < vNp V → zPack L f ca (aP q) (vP V q) (aH q 20) (aS q) (aH q) := fun q h => (hPk q h).2.1
  have hhi : ∀ q, q < vNp V → ∀ w, w ≤ 20 → zHist L f (aH q w) (vB V q w) (vL V q w) := fun q h w hw => ((hPk q h).2.2 w hw).1
  have ht := ht9
  have hti := (hTi t ht9).2.2
  have hb0 := zvolb (vT V t).1 (vT V t).2 56 (by omega) (by omega)
  refine lv_aload_n hx hb dX4_yearOf_0 rfl (lv_at hl 0 rfl) ?_
  refine lv_iload_n hx hb dX4_yearOf_1 rfl (lv_at hl 1 rfl) ?_
  refine zcq (va_runV (As := [.int (nI t)]) (rest := []) ⟨hx, hb, hml, hown, hts⟩ (c_exTitle l D ca sa L f h0 ta pa aT aP aS aH n K V hR t ht9) (cwV 1 hts gX4_yearOf_X4_existingTitle rfl rfl rfl (by decide +kernel) ⟨Nat.le_of_ble_eq_true rfl, Nat.le_of_ble_eq_true rfl⟩) (zpVp hP hE (ci := 4) rfl h4) rfl rfl hl.1 rfl (lv_room (Nat.le_of_ble_eq_true rfl)) dX4_yearOf_2 ⟨Nat.le_of_ble_eq_true rfl, Nat.le_of_ble_eq_true rfl⟩) ?_
  refine W.eq (g2 := F0 m 5 ls [.ref (aT t)]) rfl ?_
  refine lv_astore_n (lv' := [(3, .ref (aT t)), (0, .ref h0), (1, .int (nI t)), (2, .int w)]) hx hb dX4_yearOf_5 rfl hl (by decide) rfl (fun ls hl => ?_)
  refine lv_iload_n hx hb dX4_yearOf_6 rfl (lv_at hl 3 rfl) ?_
  refine lv_iconst (v := nI 1) hx hb dX4_yearOf_7 (by decide) ?_
  refine lv_aload_n hx hb dX4_yearOf_8 rfl (lv_at hl 0 rfl) ?_
  refine lv_bipush (v := nI 56) hx hb dX4_yearOf_9 (by decide) ?_
  refine zci (va_runV (As := [.int (nI 56)]) (rest := [.int (nI 1), .int w]) ⟨hx, hb, hml, hown, hts⟩ (c_firstVolume l D ca sa L f (aT t) _ _ 56 (hTi t ht9).2.1 (by omega) (by omega)) (cwV 1 hts gX4_yearOf_X3_firstVolume rfl rfl rfl (by decide +kernel) ⟨Nat.le_of_ble_eq_true rfl, Nat.le_of_ble_eq_true rfl⟩) (zpVp hP hE (ci := 3) rfl (hTi t ht9).2.1) rfl rfl hl.1 rfl (lv_room (Nat.le_of_ble_eq_true rfl)) dX4_yearOf_11 ⟨Nat.le_of_ble_eq_true rfl, Nat.le_of_ble_eq_true rfl⟩) ?_
  refine lv_iconst (v := nI 1) hx hb dX4_yearOf_14 (by decide) ?_
  refine lv_isub hx hb dX4_yearOf_15 ?_
  refine zasi (show ((nI ((56 - (vT V t).1) * (vT V t).2 + 1)) - (nI 1)) = nI ((56 - (vT V t).1) * (vT V t).2) from pk_sub (Nat.le_add_left _ _)) ?_
  exact zxco (vx_runS (As := [.int w, .int (nI 1), .int (nI ((56 - (vT V t).1) * (vT V t).2))]) (rest := []) ⟨hx, hb, hml, hown, hts⟩ (x_ckRange l hl0 D ca sa _ (w) ((nI 1)) ((nI ((56 - (vT V t).1) * (vT V t).2))) hbad _) (va_cwS 3 hts gX4_yearOf_X4_checkRange rfl rfl rfl (by decide +kernel) ⟨Nat.le_of_ble_eq_true rfl, Nat.le_of_ble_eq_true rfl⟩) (ztS hP hE hZ (fun _ h => h)) rfl rfl hl.1 rfl (lv_room (Nat.le_of_ble_eq_true rfl)) dX4_yearOf_16 ⟨Nat.le_of_ble_eq_true rfl, Nat.le_of_ble_eq_true rfl⟩) hxt hlocks

set_option maxHeartbeats 4000000 in
set_option maxRecDepth 100000 in
theorem x_volumeOf_2 (l : Launch) (hl0 : l.stackTraces = false) (D : va_G) (ca : Nat → ClassId) (sa : Nat → Nat) (L : List Nat) (f : Nat → va_E) (h0 ta pa : Nat) (aT aP aS : Nat → Nat) (aH : Nat → Nat → Nat) (n K : Nat) (V : zV) (hR : zRep L f ca h0 ta pa aT aP aS aH n K V) (t : Nat) (ht9 : t < vNt V) (w : Int32) (hbad : iB w (nI (vT V t).1) (nI 55) = false) (sz : Nat) : vx_Met l yX4_volumeOf wsX4_volumeOf ({ frames := 9, cells := 1, slots := 6, locals := 405 }) (va_Pc [.ref h0, .int (nI t), .int w] (zTp D (va_pl L f) ca sa sz)) zNo (zXX "java/lang/IllegalArgumentException" sz) 1 6 (fun q => sz ≤ q) := by
  refine vx_ofW (cc := cX4_volumeOf) (maxL := 4) (ret := (some .int)) (by decide) rfl ?_
  intro p e s m args below meth c s₁ B hml hxt hv
  obtain ⟨rfl, hsz, hP, hE, hZ⟩ := hv
  have hx := B.exec
  have hb := B.bytes
  have hr := B.returns
  have hts := atoms_spec (ws := wsX4_volumeOf) B.pre
  have hown : s.vm.findClass RX4 = some m.cls := findClass_of_methodNamed B.named
  have hlocks := B.notSynchronized
  have hl := lv_entry ([.ref h0, .int (nI t), .int w]) (n := 4) (Nat.le_of_ble_eq_true rfl)
  rw [lg_entry_eq]
  generalize (lg_sl ([.ref h0, .int (nI t), .int w]) ++ List.replicate (4 - (lg_sl ([.ref h0, .int (nI t), .int w])).length) Slot.unset).toArray = ls at hl ⊢
  have hl : lv_has ls 4 [(0, .ref h0), (1, .int (nI t)), (2, .int w)] := hl
  subst hsz
  obtain ⟨⟨h4, hTd, hNt, hNp, hnK, hK5⟩, ⟨gt, htA, hTi⟩, ⟨gp, hpA, hPk⟩, hinj⟩ := id hR
  have hpk : ∀ q, q < vNp V → zPack L f ca (aP q) (vP V q) (aH q 20) (aS q) (aH q) := fun q h => (hPk q h).2.1
  have hhi : ∀ q, q < vNp V → ∀ w, w ≤ 20 → zHist L f (aH q w) (vB V q w) (vL V q w) := fun q h w hw => ((hPk q h).2.2 w hw).1
  have ht := ht9
  refine lv_aload_n hx hb dX4_volumeOf_0 rfl (lv_at hl 0 rfl) ?_
  refine lv_iload_n hx hb dX4_volumeOf_1 rfl (lv_at hl 1 rfl) ?_
  refine zcq (va_runV (As := [.int (nI t)]) (rest := []) ⟨hx, hb, hml, hown, hts⟩ (c_exTitle l D ca sa L f h0 ta pa aT aP aS aH n K V hR t ht9) (cwV 1 hts gX4_volumeOf_X4_existingTitle rfl rfl rfl (by decide +kernel) ⟨Nat.le_of_ble_eq_true rfl, Nat.le_of_ble_eq_true rfl⟩) (zpVp hP hE (ci := 4) rfl h4) rfl rfl hl.1 rfl (lv_room (Nat.le_of_ble_eq_true rfl)) dX4_volumeOf_2 ⟨Nat.le_of_ble_eq_true rfl, Nat.le_of_ble_eq_true rfl⟩) ?_
  refine W.eq (g2 := F0 m 5 ls [.ref (aT t)]) rfl ?_
  refine lv_astore_n (lv' := [(3, .ref (aT t)), (0, .ref h0), (1, .int (nI t)), (2, .int w)]) hx hb dX4_volumeOf_5 rfl hl (by decide) rfl (fun ls hl => ?_)
  refine lv_iload_n hx hb dX4_volumeOf_6 rfl (lv_at hl 3 rfl) ?_
  refine lv_aload_n hx hb dX4_volumeOf_7 rfl (lv_at hl 0 rfl) ?_
  refine zget (own := RX4) (ci := 3) (C := RX3) (T := TX3) (N := 2) hx hb hts (by decide +kernel) hown hE hP (hTi t ht).2.1 rfl 0 (by decide) (hts (.fieldLink RX4 56 "LinkResolver$Title" "firstYear" "I") (by decide +kernel)) rfl dX4_volumeOf_8 ?_
  refine lv_bipush (v := nI 55) hx hb dX4_volumeOf_11 (by decide) ?_
  exact zxco (vx_runS (As := [.int w, .int (nI (vT V t).1), .int (nI 55)]) (rest := []) ⟨hx, hb, hml, hown, hts⟩ (x_ckRange l hl0 D ca sa _ (w) ((nI (vT V t).1)) ((nI 55)) hbad _) (va_cwS 3 hts gX4_volumeOf_X4_checkRange rfl rfl rfl (by decide +kernel) ⟨Nat.le_of_ble_eq_true rfl, Nat.le_of_ble_eq_true rfl⟩) (ztS hP hE hZ (fun _ h => h)) rfl rfl hl.1 rfl (lv_room (Nat.le_of_ble_eq_true rfl)) dX4_volumeOf_13 ⟨Nat.le_of_ble_eq_true rfl, Nat.le_of_ble_eq_true rfl⟩) hxt hlocks

set_option maxHeartbeats 4000000 in
set_option maxRecDepth 100000 in
theorem x_addPackage_1 (l : Launch) (hl0 : l.stackTraces = false) (D : va_G) (ca : Nat → ClassId) (sa : Nat → Nat) (L : List Nat) (f : Nat → va_E) (h0 ta pa : Nat) (aT aP aS : Nat → Nat) (aH : Nat → Nat → Nat) (n K : Nat) (V : zV) (hR : zRep L f ca h0 ta pa aT aP aS aH n K V) (a b g k : Int32) (hbad : (iB a (nI 0) (nI 1000) && (iB b (nI 0) (nI 2) && (iB g (nI 0) (nI 15) && iB k (nI 0) (nI 1)))) = false) (sz : Nat) : vx_Met l yX4_addPackage wsX4_addPackage ({ frames := 9, cells := 1, slots := 6, locals := 405 }) (va_Pc [.ref h0, .int a, .int b, .int g, .int k] (zTp D (va_pl L f) ca sa sz)) zNo (zXX "java/lang/IllegalArgumentException" sz) 1 6 (fun q => sz ≤ q) := by
  refine vx_ofW (cc := cX4_addPackage) (maxL := 6) (ret := (some .int)) (by decide) rfl ?_
  intro p e s m args below meth c s₁ B hml hxt hv
  obtain ⟨rfl, hsz, hP, hE, hZ⟩ := hv
  have hx := B.exec
  have hb := B.bytes
  have hr := B.returns
  have hts := atoms_spec (ws := wsX4_addPackage) B.pre
  have hown : s.vm.findClass RX4 = some m.cls := findClass_of_methodNamed B.named
  have hlocks := B.notSynchronized
  have hl := lv_entry ([.ref h0, .int a, .int b, .int g, .int k]) (n := 6) (Nat.le_of_ble_eq_true rfl)
  rw [lg_entry_eq]
  generalize (lg_sl ([.ref h0, .int a, .int b, .int g, .int k]) ++ List.replicate (6 - (lg_sl ([.ref h0, .int a, .int b, .int g, .int k])).length) Slot.unset).toArray = ls at hl ⊢
  have hl : lv_has ls 6 [(0, .ref h0), (1, .int a), (2, .int b), (3, .int g), (4, .int k)] := hl
  subst hsz
  obtain ⟨⟨h4, hTd, hNt, hNp, hnK, hK5⟩, ⟨gt, htA, hTi⟩, ⟨gp, hpA, hPk⟩, hinj⟩ := id hR
  have hpk : ∀ q, q < vNp V → zPack L f ca (aP q) (vP V q) (aH q 20) (aS q) (aH q) := fun q h => (hPk q h).2.1
  have hhi : ∀ q, q < vNp V → ∀ w, w ≤ 20 → zHist L f (aH q w) (vB V q w) (vL V q w) := fun q h w hw => ((hPk q h).2.2 w hw).1
  refine lv_iload_n hx hb dX4_addPackage_0 rfl (lv_at hl 1 rfl) ?_
  refine lv_iconst (v := nI 0) hx hb dX4_addPackage_1 (by decide) ?_
  refine lv_sipush (v := nI 1000) hx hb dX4_addPackage_2 (by decide) ?_
  rcases hk_5 : iB a (nI 0) (nI 1000) with _ | _
  · exact zxco (vx_runS (As := [.int a, .int (nI 0), .int (nI 1000)]) (rest := []) ⟨hx, hb, hml, hown, hts⟩ (x_ckRange l hl0 D ca sa _ (a) ((nI 0)) ((nI 1000)) hk_5 _) (va_cwS 3 hts gX4_addPackage_X4_checkRange rfl rfl rfl (by decide +kernel) ⟨Nat.le_of_ble_eq_true rfl, Nat.le_of_ble_eq_true rfl⟩) (ztS hP hE hZ (fun _ h => h)) rfl rfl hl.1 rfl (lv_room (Nat.le_of_ble_eq_true rfl)) dX4_addPackage_5 ⟨Nat.le_of_ble_eq_true rfl, Nat.le_of_ble_eq_true rfl⟩) hxt hlocks
  obtain ⟨a9, a9_1, a9_2, rfl⟩ := iB_n hk_5 (by omega) (by omega)
  refine zcv (va_runS (As := [.int (nI a9), .int (nI 0), .int (nI 1000)]) (rest := []) ⟨hx, hb, hml, hown, hts⟩ (c_ckRange l D ca sa _ a9 (0) (1000) a9_1 a9_2 (by omega)) (va_cwS 3 hts gX4_addPackage_X4_checkRange rfl rfl rfl (by decide +kernel) ⟨Nat.le_of_ble_eq_true rfl, Nat.le_of_ble_eq_true rfl⟩) (zpS hP hE) rfl rfl hl.1 rfl (lv_room (Nat.le_of_ble_eq_true rfl)) dX4_addPackage_5 ⟨Nat.le_of_ble_eq_true rfl, Nat.le_of_ble_eq_true rfl⟩) ?_
  refine lv_iload_n hx hb dX4_addPackage_8 rfl (lv_at hl 2 rfl) ?_
  refine lv_iconst (v := nI 0) hx hb dX4_addPackage_9 (by decide) ?_
  refine lv_iconst (v := nI 2) hx hb dX4_addPackage_10 (by decide) ?_
  rcases hk_11 : iB b (nI 0) (nI 2) with _ | _
  · exact zxco (vx_runS (As := [.int b, .int (nI 0), .int (nI 2)]) (rest := []) ⟨hx, hb, hml, hown, hts⟩ (x_ckRange l hl0 D ca sa _ (b) ((nI 0)) ((nI 2)) hk_11 _) (va_cwS 3 hts gX4_addPackage_X4_checkRange rfl rfl rfl (by decide +kernel) ⟨Nat.le_of_ble_eq_true rfl, Nat.le_of_ble_eq_true rfl⟩) (ztS hP hE hZ (fun _ h => h)) rfl rfl hl.1 rfl (lv_room (Nat.le_of_ble_eq_true rfl)) dX4_addPackage_11 ⟨Nat.le_of_ble_eq_true rfl, Nat.le_of_ble_eq_true rfl⟩) hxt hlocks
  obtain ⟨b9, b9_1, b9_2, rfl⟩ := iB_n hk_11 (by omega) (by omega)
  refine zcv (va_runS (As := [.int (nI b9), .int (nI 0), .int (nI 2)]) (rest := []) ⟨hx, hb, hml, hown, hts⟩ (c_ckRange l D ca sa _ b9 (0) (2) b9_1 b9_2 (by omega)) (va_cwS 3 hts gX4_addPackage_X4_checkRange rfl rfl rfl (by decide +kernel) ⟨Nat.le_of_ble_eq_true rfl, Nat.le_of_ble_eq_true rfl⟩) (zpS hP hE) rfl rfl hl.1 rfl (lv_room (Nat.le_of_ble_eq_true rfl)) dX4_addPackage_11 ⟨Nat.le_of_ble_eq_true rfl, Nat.le_of_ble_eq_true rfl⟩) ?_
  refine lv_iload_n hx hb dX4_addPackage_14 rfl (lv_at hl 3 rfl) ?_
  refine lv_iconst (v := nI 0) hx hb dX4_addPackage_15 (by decide) ?_
  refine lv_bipush (v := nI 15) hx hb dX4_addPackage_16 (by decide) ?_
  rcases hk_18 : iB g (nI 0) (nI 15) with _ | _
  · exact zxco (vx_runS (As := [.int g, .int (nI 0), .int (nI 15)]) (rest := []) ⟨hx, hb, hml, hown, hts⟩ (x_ckRange l hl0 D ca sa _ (g) ((nI 0)) ((nI 15)) hk_18 _) (va_cwS 3 hts gX4_addPackage_X4_checkRange rfl rfl rfl (by decide +kernel) ⟨Nat.le_of_ble_eq_true rfl, Nat.le_of_ble_eq_true rfl⟩) (ztS hP hE hZ (fun _ h => h)) rfl rfl hl.1 rfl (lv_room (Nat.le_of_ble_eq_true rfl)) dX4_addPackage_18 ⟨Nat.le_of_ble_eq_true rfl, Nat.le_of_ble_eq_true rfl⟩) hxt hlocks
  obtain ⟨g9, g9_1, g9_2, rfl⟩ := iB_n hk_18 (by omega) (by omega)
  refine zcv (va_runS (As := [.int (nI g9), .int (nI 0), .int (nI 15)]) (rest := []) ⟨hx, hb, hml, hown, hts⟩ (c_ckRange l D ca sa _ g9 (0) (15) g9_1 g9_2 (by omega)) (va_cwS 3 hts gX4_addPackage_X4_checkRange rfl rfl rfl (by decide +kernel) ⟨Nat.le_of_ble_eq_true rfl, Nat.le_of_ble_eq_true rfl⟩) (zpS hP hE) rfl rfl hl.1 rfl (lv_room (Nat.le_of_ble_eq_true rfl)) dX4_addPackage_18 ⟨Nat.le_of_ble_eq_true rfl, Nat.le_of_ble_eq_true rfl⟩) ?_
  refine lv_iload hx hb dX4_addPackage_21 (lv_at hl 4 rfl) ?_
  refine lv_iconst (v := nI 0) hx hb dX4_addPackage_23 (by decide) ?_
  refine lv_iconst (v := nI 1) hx hb dX4_addPackage_24 (by decide) ?_
  exact zxco (vx_runS (As := [.int k, .int (nI 0), .int (nI 1)]) (rest := []) ⟨hx, hb, hml, hown, hts⟩ (x_ckRange l hl0 D ca sa _ (k) ((nI 0)) ((nI 1)) (by rw [hk_5, hk_11, hk_18, Bool.true_and, Bool.true_and, Bool.true_and] at hbad; exact hbad) _) (va_cwS 3 hts gX4_addPackage_X4_checkRange rfl rfl rfl (by decide +kernel) ⟨Nat.le_of_ble_eq_true rfl, Nat.le_of_ble_eq_true rfl⟩) (ztS hP hE hZ (fun _ h => h)) rfl rfl hl.1 rfl (lv_room (Nat.le_of_ble_eq_true rfl)) dX4_addPackage_25 ⟨Nat.le_of_ble_eq_true rfl, Nat.le_of_ble_eq_true rfl⟩) hxt hlocks

set_option maxHeartbeats 4000000 in
set_option maxRecDepth 100000 in
theorem x_addPackage_2 (l : Launch) (hl0 : l.stackTraces = false) (D : va_G) (ca : Nat → ClassId) (sa : Nat → Nat) (L : List Nat) (f : Nat → va_E) (h0 ta pa : Nat) (aT aP aS : Nat → Nat) (aH : Nat → Nat → Nat) (n K : Nat) (V : zV) (hR : zRep L f ca h0 ta pa aT aP aS aH n K V) (a b g k : Int32) (hok : (iB a (nI 0) (nI 1000) && (iB b (nI 0) (nI 2) && (iB g (nI 0) (nI 15) && iB k (nI 0) (nI 1)))) = true) (hnp : vNp V = 10) (sz : Nat) : vx_Met l yX4_addPackage wsX4_addPackage ({ frames := 9, cells := 1, slots := 6, locals := 405 }) (va_Pc [.ref h0, .int a, .int b, .int g, .int k] (zTp D (va_pl L f) ca sa sz)) zNo (zXX "java/lang/IllegalStateException" sz) 1 6 (fun q => sz ≤ q) := by
  refine vx_ofW (cc := cX4_addPackage) (maxL := 6) (ret := (some .int)) (by decide) rfl ?_
  intro p e s m args below meth c s₁ B hml hxt hv
  obtain ⟨rfl, hsz, hP, hE, hZ⟩ := hv
  have hx := B.exec
  have hb := B.bytes
  have hr := B.returns
  have hts := atoms_spec (ws := wsX4_addPackage) B.pre
  have hown : s.vm.findClass RX4 = some m.cls := findClass_of_methodNamed B.named
  have hlocks := B.notSynchronized
  have hl := lv_entry ([.ref h0, .int a, .int b, .int g, .int k]) (n := 6) (Nat.le_of_ble_eq_true rfl)
  rw [lg_entry_eq]
  generalize (lg_sl ([.ref h0, .int a, .int b, .int g, .int k]) ++ List.replicate (6 - (lg_sl ([.ref h0, .int a, .int b, .int g, .int k])).length) Slot.unset).toArray = ls at hl ⊢
  have hl : lv_has ls 6 [(0, .ref h0), (1, .int a), (2, .int b), (3, .int g), (4, .int k)] := hl
  subst hsz
  obtain ⟨⟨h4, hTd, hNt, hNp, hnK, hK5⟩, ⟨gt, htA, hTi⟩, ⟨gp, hpA, hPk⟩, hinj⟩ := id hR
  have hpk : ∀ q, q < vNp V → zPack L f ca (aP q) (vP V q) (aH q 20) (aS q) (aH q) := fun q h => (hPk q h).2.1
  have hhi : ∀ q, q < vNp V → ∀ w, w ≤ 20 → zHist L f (aH q w) (vB V q w) (vL V q w) := fun q h w hw => ((hPk q h).2.2 w hw).1
  rw [Bool.and_eq_true, Bool.and_eq_true, Bool.and_eq_true] at hok
  refine lv_iload_n hx hb dX4_addPackage_0 rfl (lv_at hl 1 rfl) ?_
  refine lv_iconst (v := nI 0) hx hb dX4_addPackage_1 (by decide) ?_
  refine lv_sipush (v := nI 1000) hx hb dX4_addPackage_2 (by decide) ?_
  have hk_5 : iB a (nI 0) (nI 1000) = true := hok.1
  obtain ⟨a9, a9_1, a9_2, rfl⟩ := iB_n hk_5 (by omega) (by omega)
  refine zcv (va_runS (As := [.int (nI a9), .int (nI 0), .int (nI 1000)]) (rest := []) ⟨hx, hb, hml, hown, hts⟩ (c_ckRange l D ca sa _ a9 (0) (1000) a9_1 a9_2 (by omega)) (va_cwS 3 hts gX4_addPackage_X4_checkRange rfl rfl rfl (by decide +kernel) ⟨Nat.le_of_ble_eq_true rfl, Nat.le_of_ble_eq_true rfl⟩) (zpS hP hE) rfl rfl hl.1 rfl (lv_room (Nat.le_of_ble_eq_true rfl)) dX4_addPackage_5 ⟨Nat.le_of_ble_eq_true rfl, Nat.le_of_ble_eq_true rfl⟩) ?_
  refine lv_iload_n hx hb dX4_addPackage_8 rfl (lv_at hl 2 rfl) ?_
  refine lv_iconst (v := nI 0) hx hb dX4_addPackage_9 (by decide) ?_
  refine lv_iconst (v := nI 2) hx hb dX4_addPackage_10 (by decide) ?_
  have hk_11 : iB b (nI 0) (nI 2) = true := hok.2.1
  obtain ⟨b9, b9_1, b9_2, rfl⟩ := iB_n hk_11 (by omega) (by omega)
  refine zcv (va_runS (As := [.int (nI b9), .int (nI 0), .int (nI 2)]) (rest := []) ⟨hx, hb, hml, hown, hts⟩ (c_ckRange l D ca sa _ b9 (0) (2) b9_1 b9_2 (by omega)) (va_cwS 3 hts gX4_addPackage_X4_checkRange rfl rfl rfl (by decide +kernel) ⟨Nat.le_of_ble_eq_true rfl, Nat.le_of_ble_eq_true rfl⟩) (zpS hP hE) rfl rfl hl.1 rfl (lv_room (Nat.le_of_ble_eq_true rfl)) dX4_addPackage_11 ⟨Nat.le_of_ble_eq_true rfl, Nat.le_of_ble_eq_true rfl⟩) ?_
  refine lv_iload_n hx hb dX4_addPackage_14 rfl (lv_at hl 3 rfl) ?_
  refine lv_iconst (v := nI 0) hx hb dX4_addPackage_15 (by decide) ?_
  refine lv_bipush (v := nI 15) hx hb dX4_addPackage_16 (by decide) ?_
  have hk_18 : iB g (nI 0) (nI 15) = true := hok.2.2.1
  obtain ⟨g9, g9_1, g9_2, rfl⟩ := iB_n hk_18 (by omega) (by omega)
  refine zcv (va_runS (As := [.int (nI g9), .int (nI 0), .int (nI 15)]) (rest := []) ⟨hx, hb, hml, hown, hts⟩ (c_ckRange l D ca sa _ g9 (0) (15) g9_1 g9_2 (by omega)) (va_cwS 3 hts gX4_addPackage_X4_checkRange rfl rfl rfl (by decide +kernel) ⟨Nat.le_of_ble_eq_true rfl, Nat.le_of_ble_eq_true rfl⟩) (zpS hP hE) rfl rfl hl.1 rfl (lv_room (Nat.le_of_ble_eq_true rfl)) dX4_addPackage_18 ⟨Nat.le_of_ble_eq_true rfl, Nat.le_of_ble_eq_true rfl⟩) ?_
  refine lv_iload hx hb dX4_addPackage_21 (lv_at hl 4 rfl) ?_
  refine lv_iconst (v := nI 0) hx hb dX4_addPackage_23 (by decide) ?_
  refine lv_iconst (v := nI 1) hx hb dX4_addPackage_24 (by decide) ?_
  have hk_25 : iB k (nI 0) (nI 1) = true := hok.2.2.2
  obtain ⟨k9, k9_1, k9_2, rfl⟩ := iB_n hk_25 (by omega) (by omega)
  refine zcv (va_runS (As := [.int (nI k9), .int (nI 0), .int (nI 1)]) (rest := []) ⟨hx, hb, hml, hown, hts⟩ (c_ckRange l D ca sa _ k9 (0) (1) k9_1 k9_2 (by omega)) (va_cwS 3 hts gX4_addPackage_X4_checkRange rfl rfl rfl (by decide +kernel) ⟨Nat.le_of_ble_eq_true rfl, Nat.le_of_ble_eq_true rfl⟩) (zpS hP hE) rfl rfl hl.1 rfl (lv_room (Nat.le_of_ble_eq_true rfl)) dX4_addPackage_25 ⟨Nat.le_of_ble_eq_true rfl, Nat.le_of_ble_eq_true rfl⟩) ?_
  refine lv_aload_n hx hb dX4_addPackage_28 rfl (lv_at hl 0 rfl) ?_
  refine zget (own := RX4) (ci := 4) (C := RX4) (T := TX4) (N := 6) hx hb hts (by decide +kernel) hown hE hP h4 rfl 3 (by decide) (hts (.fieldLink RX4 25 "LinkResolver" "packCount" "I") (by decide +kernel)) rfl dX4_addPackage_29 ?_
  refine lv_istore (lv' := [(5, .int (nI (vNp V))), (0, .ref h0), (1, .int (nI a9)), (2, .int (nI b9)), (3, .int (nI g9)), (4, .int (nI k9))]) hx hb dX4_addPackage_32 hl (by decide) rfl (fun ls hl => ?_)
  refine lv_iload hx hb dX4_addPackage_34 (lv_at hl 0 rfl) ?_
  refine lv_bipush (v := nI 10) hx hb dX4_addPackage_36 (by decide) ?_
  refine lv_icmp_lt (tgt := 51) hx hb dX4_addPackage_38 (by decide) (fun c_38 => ?_) (fun c_38 => ?_)
  · exact absurd ((nI_ltI (by omega) (by omega)).mp c_38) (by omega)
  · exact vx_throwS (A := fun q => s.heap.size ≤ q) (cls := "java/lang/IllegalStateException") (names := ["java/lang/RuntimeException", "java/lang/Exception"]) hx hb hl0 hown (by decide +kernel) (by decide +kernel) (hts (.classLink RX4 38 "java/lang/IllegalStateException") (by decide +kernel)) (hts (.initialized "java/lang/IllegalStateException") (by decide +kernel)) hE.2.2.2.2.2.2.2.2.1 (vx_hat (B := [.castable "java/lang/IllegalStateException" "java/lang/IllegalStateException", .declares (Bundle.initS "java/lang/RuntimeException"), .declares (Bundle.initS "java/lang/Exception"), .declares (Bundle.initS Bundle.tN)]) (fun w h => hts w (List.mem_cons_of_mem _ (List.mem_append_left _ (List.mem_append_right _ h)))) (by decide +kernel) (vx_c (va_Nw.use rfl hE.2.2.1.1.2.1) (vx_c (va_Nw.use rfl hE.2.2.1.2.1) (vx_c (va_Nw.use rfl hE.2.2.1.2.2.1) (vx_c (va_Nw.use rfl hE.2.2.1.2.2.2) vx_n))))) (by decide +kernel) hZ.1 hZ.2 va_S.rf (hl.1.trans hml.symm) dX4_addPackage_41 dX4_addPackage_44 dX4_addPackage_45 dX4_addPackage_47 dX4_addPackage_50 (fun x h => (hxt x h).elim) (Nat.le_of_ble_eq_true rfl) (Nat.le_of_ble_eq_true rfl) (Nat.le_of_ble_eq_true rfl) (Nat.le_of_ble_eq_true rfl) hlocks (fun t _ h1 h2 => ⟨(), trivial, rfl, h1, fun q h _ => h2 q h⟩) (fun z h => nomatch h) (Nat.le_refl _) (Nat.le_refl _)

set_option maxHeartbeats 4000000 in
set_option maxRecDepth 100000 in
theorem x_subscribe_1 (l : Launch) (hl0 : l.stackTraces = false) (D : va_G) (ca : Nat → ClassId) (sa : Nat → Nat) (L : List Nat) (f : Nat → va_E) (h0 ta pa : Nat) (aT aP aS : Nat → Nat) (aH : Nat → Nat → Nat) (n K : Nat) (V : zV) (hR : zRep L f ca h0 ta pa aT aP aS aH n K V) (q b : Int32) (hbad : iT (vNp V) q = false) (sz : Nat) : vx_Met l yX4_subscribe wsX4_subscribe ({ frames := 9, cells := 1, slots := 6, locals := 405 }) (va_Pc [.ref h0, .int q, .int b] (zTp D (va_pl L f) ca sa sz)) zNo (zXX "java/lang/IndexOutOfBoundsException" sz) 1 6 (fun q => sz ≤ q) := by
  refine vx_ofW (cc := cX4_subscribe) (maxL := 5) (ret := (some .boolean)) (by decide) rfl ?_
  intro p e s m args below meth c s₁ B hml hxt hv
  obtain ⟨rfl, hsz, hP, hE, hZ⟩ := hv
  have hx := B.exec
  have hb := B.bytes
  have hr := B.returns
  have hts := atoms_spec (ws := wsX4_subscribe) B.pre
  have hown : s.vm.findClass RX4 = some m.cls := findClass_of_methodNamed B.named
  have hlocks := B.notSynchronized
  have hl := lv_entry ([.ref h0, .int q, .int b]) (n := 5) (Nat.le_of_ble_eq_true rfl)
  rw [lg_entry_eq]
  generalize (lg_sl ([.ref h0, .int q, .int b]) ++ List.replicate (5 - (lg_sl ([.ref h0, .int q, .int b])).length) Slot.unset).toArray = ls at hl ⊢
  have hl : lv_has ls 5 [(0, .ref h0), (1, .int q), (2, .int b)] := hl
  subst hsz
  obtain ⟨⟨h4, hTd, hNt, hNp, hnK, hK5⟩, ⟨gt, htA, hTi⟩, ⟨gp, hpA, hPk⟩, hinj⟩ := id hR
  have hpk : ∀ q, q < vNp V → zPack L f ca (aP q) (vP V q) (aH q 20) (aS q) (aH q) := fun q h => (hPk q h).2.1
  have hhi : ∀ q, q < vNp V → ∀ w, w ≤ 20 → zHist L f (aH q w) (vB V q w) (vL V q w) := fun q h w hw => ((hPk q h).2.2 w hw).1
  refine lv_aload_n hx hb dX4_subscribe_0 rfl (lv_at hl 0 rfl) ?_
  refine lv_iload_n hx hb dX4_subscribe_1 rfl (lv_at hl 1 rfl) ?_
  exact zxco (vx_runV (As := [.int q]) (rest := []) ⟨hx, hb, hml, hown, hts⟩ (x_exPack l hl0 D ca sa L f h0 ta pa aT aP aS aH n K V hR (q) hbad _) (cwV 1 hts gX4_subscribe_X4_existingPack rfl rfl rfl (by decide +kernel) ⟨Nat.le_of_ble_eq_true rfl, Nat.le_of_ble_eq_true rfl⟩) (ztV hP hE hZ (fun _ h => h) (ci := 4) rfl h4) rfl rfl hl.1 rfl (lv_room (Nat.le_of_ble_eq_true rfl)) dX4_subscribe_2 ⟨Nat.le_of_ble_eq_true rfl, Nat.le_of_ble_eq_true rfl⟩) hxt hlocks

set_option maxHeartbeats 4000000 in
set_option maxRecDepth 100000 in
theorem x_come_1 (l : Launch) (hl0 : l.stackTraces = false) (D : va_G) (ca : Nat → ClassId) (sa : Nat → Nat) (L : List Nat) (f : Nat → va_E) (h0 ta pa : Nat) (aT aP aS : Nat → Nat) (aH : Nat → Nat → Nat) (n K : Nat) (V : zV) (hR : zRep L f ca h0 ta pa aT aP aS aH n K V) (q t a b w : Int32) (hbad : (iT (vNp V) q && iT (vNt V) t) = false) (sz : Nat) : vx_Met l yX4_come wsX4_come ({ frames := 9, cells := 1, slots := 6, locals := 405 }) (va_Pc [.ref h0, .int q, .int t, .int a, .int b, .int w] (zTp D (va_pl L f) ca sa sz)) zNo (zXX "java/lang/IndexOutOfBoundsException" sz) 1 6 (fun q => sz ≤ q) := by
  refine vx_ofW (cc := cX4_come) (maxL := 8) (ret := (some .boolean)) (by decide) rfl ?_
  intro p e s m args below meth c s₁ B hml hxt hv
  obtain ⟨rfl, hsz, hP, hE, hZ⟩ := hv
  have hx := B.exec
  have hb := B.bytes
  have hr := B.returns
  have hts := atoms_spec (ws := wsX4_come) B.pre
  have hown : s.vm.findClass RX4 = some m.cls := findClass_of_methodNamed B.named
  have hlocks := B.notSynchronized
  have hl := lv_entry ([.ref h0, .int q, .int t, .int a, .int b, .int w]) (n := 8) (Nat.le_of_ble_eq_true rfl)
  rw [lg_entry_eq]
  generalize (lg_sl ([.ref h0, .int q, .int t, .int a, .int b, .int w]) ++ List.replicate (8 - (lg_sl ([.ref h0, .int q, .int t, .int a, .int b, .int w])).length) Slot.unset).toArray = ls at hl ⊢
  have hl : lv_has ls 8 [(0, .ref h0), (1, .int q), (2, .int t), (3, .int a), (4, .int b), (5, .int w)] := hl
  subst hsz
  obtain ⟨⟨h4, hTd, hNt, hNp, hnK, hK5⟩, ⟨gt, htA, hTi⟩, ⟨gp, hpA, hPk⟩, hinj⟩ := id hR
  have hpk : ∀ q, q < vNp V → zPack L f ca (aP q) (vP V q) (aH q 20) (aS q) (aH q) := fun q h => (hPk q h).2.1
  have hhi : ∀ q, q < vNp V → ∀ w, w ≤ 20 → zHist L f (aH q w) (vB V q w) (vL V q w) := fun q h w hw => ((hPk q h).2.2 w hw).1
  refine lv_aload_n hx hb dX4_come_0 rfl (lv_at hl 0 rfl) ?_
  refine lv_iload_n hx hb dX4_come_1 rfl (lv_at hl 1 rfl) ?_
  refine lv_iload_n hx hb dX4_come_2 rfl (lv_at hl 2 rfl) ?_
  exact zxco (vx_runV (As := [.int q, .int t]) (rest := []) ⟨hx, hb, hml, hown, hts⟩ (x_exStay l hl0 D ca sa L f h0 ta pa aT aP aS aH n K V hR (q) (t) hbad _) (cwV 2 hts gX4_come_X4_existingStay rfl rfl rfl (by decide +kernel) ⟨Nat.le_of_ble_eq_true rfl, Nat.le_of_ble_eq_true rfl⟩) (ztV hP hE hZ (fun _ h => h) (ci := 4) rfl h4) rfl rfl hl.1 rfl (lv_room (Nat.le_of_ble_eq_true rfl)) dX4_come_3 ⟨Nat.le_of_ble_eq_true rfl, Nat.le_of_ble_eq_true rfl⟩) hxt hlocks

set_option maxHeartbeats 4000000 in
set_option maxRecDepth 100000 in
theorem x_come_2 (l : Launch) (hl0 : l.stackTraces = false) (D : va_G) (ca : Nat → ClassId) (sa : Nat → Nat) (L : List Nat) (f : Nat → va_E) (h0 ta pa : Nat) (aT aP aS : Nat → Nat) (aH : Nat → Nat → Nat) (n K : Nat) (V : zV) (hR : zRep L f ca h0 ta pa aT aP aS aH n K V) (q t : Nat) (hq : q < vNp V) (ht : t < vNt V) (a b w : Int32) (hbad : (iB a (nI 0) (nI 55) && (iB b a (nI 55) && iB w (nI 0) (nI 20))) = false) (sz : Nat) : vx_Met l yX4_come wsX4_come ({ frames := 9, cells := 1, slots := 6, locals := 405 }) (va_Pc [.ref h0, .int (nI q), .int (nI t), .int a, .int b, .int w] (zTp D (va_pl L f) ca sa sz)) zNo (zXX "java/lang/IllegalArgumentException" sz) 1 6 (fun q => sz ≤ q) := by
  refine vx_ofW (cc := cX4_come) (maxL := 8) (ret := (some .boolean)) (by decide) rfl ?_
  intro p e s m args below meth c s₁ B hml hxt hv
  obtain ⟨rfl, hsz, hP, hE, hZ⟩ := hv
  have hx := B.exec
  have hb := B.bytes
  have hr := B.returns
  have hts := atoms_spec (ws := wsX4_come) B.pre
  have hown : s.vm.findClass RX4 = some m.cls := findClass_of_methodNamed B.named
  have hlocks := B.notSynchronized
  have hl := lv_entry ([.ref h0, .int (nI q), .int (nI t), .int a, .int b, .int w]) (n := 8) (Nat.le_of_ble_eq_true rfl)
  rw [lg_entry_eq]
  generalize (lg_sl ([.ref h0, .int (nI q), .int (nI t), .int a, .int b, .int w]) ++ List.replicate (8 - (lg_sl ([.ref h0, .int (nI q), .int (nI t), .int a, .int b, .int w])).length) Slot.unset).toArray = ls at hl ⊢
  have hl : lv_has ls 8 [(0, .ref h0), (1, .int (nI q)), (2, .int (nI t)), (3, .int a), (4, .int b), (5, .int w)] := hl
  subst hsz
  obtain ⟨⟨h4, hTd, hNt, hNp, hnK, hK5⟩, ⟨gt, htA, hTi⟩, ⟨gp, hpA, hPk⟩, hinj⟩ := id hR
  have hpk : ∀ q, q < vNp V → zPack L f ca (aP q) (vP V q) (aH q 20) (aS q) (aH q) := fun q h => (hPk q h).2.1
  have hhi : ∀ q, q < vNp V → ∀ w, w ≤ 20 → zHist L f (aH q w) (vB V q w) (vL V q w) := fun q h w hw => ((hPk q h).2.2 w hw).1
  refine lv_aload_n hx hb dX4_come_0 rfl (lv_at hl 0 rfl) ?_
  refine lv_iload_n hx hb dX4_come_1 rfl (lv_at hl 1 rfl) ?_
  refine lv_iload_n hx hb dX4_come_2 rfl (lv_at hl 2 rfl) ?_
  refine zcq (va_runV (As := [.int (nI q), .int (nI t)]) (rest := []) ⟨hx, hb, hml, hown, hts⟩ (c_exStay l D ca sa L f h0 ta pa aT aP aS aH n K V hR q hq t ht) (cwV 2 hts gX4_come_X4_existingStay rfl rfl rfl (by decide +kernel) ⟨Nat.le_of_ble_eq_true rfl, Nat.le_of_ble_eq_true rfl⟩) (zpVp hP hE (ci := 4) rfl h4) rfl rfl hl.1 rfl (lv_room (Nat.le_of_ble_eq_true rfl)) dX4_come_3 ⟨Nat.le_of_ble_eq_true rfl, Nat.le_of_ble_eq_true rfl⟩) ?_
  refine W.eq (g2 := F0 m 6 ls [.ref (aH q t)]) rfl ?_
  refine lv_astore (lv' := [(6, .ref (aH q t)), (0, .ref h0), (1, .int (nI q)), (2, .int (nI t)), (3, .int a), (4, .int b), (5, .int w)]) hx hb dX4_come_6 hl (by decide) rfl (fun ls hl => ?_)
  refine lv_iload_n hx hb dX4_come_8 rfl (lv_at hl 4 rfl) ?_
  refine lv_iconst (v := nI 0) hx hb dX4_come_9 (by decide) ?_
  refine lv_bipush (v := nI 55) hx hb dX4_come_10 (by decide) ?_
  rcases hk_12 : iB a (nI 0) (nI 55) with _ | _
  · exact zxco (vx_runS (As := [.int a, .int (nI 0), .int (nI 55)]) (rest := []) ⟨hx, hb, hml, hown, hts⟩ (x_ckRange l hl0 D ca sa _ (a) ((nI 0)) ((nI 55)) hk_12 _) (va_cwS 3 hts gX4_come_X4_checkRange rfl rfl rfl (by decide +kernel) ⟨Nat.le_of_ble_eq_true rfl, Nat.le_of_ble_eq_true rfl⟩) (ztS hP hE hZ (fun _ h => h)) rfl rfl hl.1 rfl (lv_room (Nat.le_of_ble_eq_true rfl)) dX4_come_12 ⟨Nat.le_of_ble_eq_true rfl, Nat.le_of_ble_eq_true rfl⟩) hxt hlocks
  obtain ⟨a9, a9_1, a9_2, rfl⟩ := iB_n hk_12 (by omega) (by omega)
  refine zcv (va_runS (As := [.int (nI a9), .int (nI 0), .int (nI 55)]) (rest := []) ⟨hx, hb, hml, hown, hts⟩ (c_ckRange l D ca sa _ a9 (0) (55) a9_1 a9_2 (by omega)) (va_cwS 3 hts gX4_come_X4_checkRange rfl rfl rfl (by decide +kernel) ⟨Nat.le_of_ble_eq_true rfl, Nat.le_of_ble_eq_true rfl⟩) (zpS hP hE) rfl rfl hl.1 rfl (lv_room (Nat.le_of_ble_eq_true rfl)) dX4_come_12 ⟨Nat.le_of_ble_eq_true rfl, Nat.le_of_ble_eq_true rfl⟩) ?_
  refine lv_iload hx hb dX4_come_15 (lv_at hl 5 rfl) ?_
  refine lv_iload_n hx hb dX4_come_17 rfl (lv_at hl 4 rfl) ?_
  refine lv_bipush (v := nI 55) hx hb dX4_come_18 (by decide) ?_
  rcases hk_20 : iB b (nI a9) (nI 55) with _ | _
  · exact zxco (vx_runS (As := [.int b, .int (nI a9), .int (nI 55)]) (rest := []) ⟨hx, hb, hml, hown, hts⟩ (x_ckRange l hl0 D ca sa _ (b) ((nI a9)) ((nI 55)) hk_20 _) (va_cwS 3 hts gX4_come_X4_checkRange rfl rfl rfl (by decide +kernel) ⟨Nat.le_of_ble_eq_true rfl, Nat.le_of_ble_eq_true rfl⟩) (ztS hP hE hZ (fun _ h => h)) rfl rfl hl.1 rfl (lv_room (Nat.le_of_ble_eq_true rfl)) dX4_come_20 ⟨Nat.le_of_ble_eq_true rfl, Nat.le_of_ble_eq_true rfl⟩) hxt hlocks
  obtain ⟨b9, b9_1, b9_2, rfl⟩ := iB_n hk_20 (by omega) (by omega)
  refine zcv (va_runS (As := [.int (nI b9), .int (nI a9), .int (nI 55)]) (rest := []) ⟨hx, hb, hml, hown, hts⟩ (c_ckRange l D ca sa _ b9 (a9) (55) b9_1 b9_2 (by omega)) (va_cwS 3 hts gX4_come_X4_checkRange rfl rfl rfl (by decide +kernel) ⟨Nat.le_of_ble_eq_true rfl, Nat.le_of_ble_eq_true rfl⟩) (zpS hP hE) rfl rfl hl.1 rfl (lv_room (Nat.le_of_ble_eq_true rfl)) dX4_come_20 ⟨Nat.le_of_ble_eq_true rfl, Nat.le_of_ble_eq_true rfl⟩) ?_
  refine lv_iload hx hb dX4_come_23 (lv_at hl 6 rfl) ?_
  refine lv_iconst (v := nI 0) hx hb dX4_come_25 (by decide) ?_
  refine lv_bipush (v := nI 20) hx hb dX4_come_26 (by decide) ?_
  exact zxco (vx_runS (As := [.int w, .int (nI 0), .int (nI 20)]) (rest := []) ⟨hx, hb, hml, hown, hts⟩ (x_ckRange l hl0 D ca sa _ (w) ((nI 0)) ((nI 20)) (by rw [hk_12, hk_20, Bool.true_and, Bool.true_and] at hbad; exact hbad) _) (va_cwS 3 hts gX4_come_X4_checkRange rfl rfl rfl (by decide +kernel) ⟨Nat.le_of_ble_eq_true rfl, Nat.le_of_ble_eq_true rfl⟩) (ztS hP hE hZ (fun _ h => h)) rfl rfl hl.1 rfl (lv_room (Nat.le_of_ble_eq_true rfl)) dX4_come_28 ⟨Nat.le_of_ble_eq_true rfl, Nat.le_of_ble_eq_true rfl⟩) hxt hlocks

set_option maxHeartbeats 4000000 in
set_option maxRecDepth 100000 in
theorem x_go_1 (l : Launch) (hl0 : l.stackTraces = false) (D : va_G) (ca : Nat → ClassId) (sa : Nat → Nat) (L : List Nat) (f : Nat → va_E) (h0 ta pa : Nat) (aT aP aS : Nat → Nat) (aH : Nat → Nat → Nat) (n K : Nat) (V : zV) (hR : zRep L f ca h0 ta pa aT aP aS aH n K V) (q t : Int32) (hbad : (iT (vNp V) q && iT (vNt V) t) = false) (sz : Nat) : vx_Met l yX4_go wsX4_go ({ frames := 9, cells := 1, slots := 6, locals := 405 }) (va_Pc [.ref h0, .int q, .int t] (zTp D (va_pl L f) ca sa sz)) zNo (zXX "java/lang/IndexOutOfBoundsException" sz) 1 6 (fun q => sz ≤ q) := by
  refine vx_ofW (cc := cX4_go) (maxL := 4) (ret := none) (by decide) rfl ?_
  intro p e s m args below meth c s₁ B hml hxt hv
  obtain ⟨rfl, hsz, hP, hE, hZ⟩ := hv
  have hx := B.exec
  have hb := B.bytes
  have hr := B.returns
  have hts := atoms_spec (ws := wsX4_go) B.pre
  have hown : s.vm.findClass RX4 = some m.cls := findClass_of_methodNamed B.named
  have hlocks := B.notSynchronized
  have hl := lv_entry ([.ref h0, .int q, .int t]) (n := 4) (Nat.le_of_ble_eq_true rfl)
  rw [lg_entry_eq]
  generalize (lg_sl ([.ref h0, .int q, .int t]) ++ List.replicate (4 - (lg_sl ([.ref h0, .int q, .int t])).length) Slot.unset).toArray = ls at hl ⊢
  have hl : lv_has ls 4 [(0, .ref h0), (1, .int q), (2, .int t)] := hl
  subst hsz
  obtain ⟨⟨h4, hTd, hNt, hNp, hnK, hK5⟩, ⟨gt, htA, hTi⟩, ⟨gp, hpA, hPk⟩, hinj⟩ := id hR
  have hpk : ∀ q, q < vNp V → zPack L f ca (aP q) (vP V q) (aH q 20) (aS q) (aH q) := fun q h => (hPk q h).2.1
  have hhi : ∀ q, q < vNp V → ∀ w, w ≤ 20 → zHist L f (aH q w) (vB V q w) (vL V q w) := fun q h w hw => ((hPk q h).2.2 w hw).1
  refine lv_aload_n hx hb dX4_go_0 rfl (lv_at hl 0 rfl) ?_
  refine lv_iload_n hx hb dX4_go_1 rfl (lv_at hl 1 rfl) ?_
  refine lv_iload_n hx hb dX4_go_2 rfl (lv_at hl 2 rfl) ?_
  exact zxco (vx_runV (As := [.int q, .int t]) (rest := []) ⟨hx, hb, hml, hown, hts⟩ (x_exStay l hl0 D ca sa L f h0 ta pa aT aP aS aH n K V hR (q) (t) hbad _) (cwV 2 hts gX4_go_X4_existingStay rfl rfl rfl (by decide +kernel) ⟨Nat.le_of_ble_eq_true rfl, Nat.le_of_ble_eq_true rfl⟩) (ztV hP hE hZ (fun _ h => h) (ci := 4) rfl h4) rfl rfl hl.1 rfl (lv_room (Nat.le_of_ble_eq_true rfl)) dX4_go_3 ⟨Nat.le_of_ble_eq_true rfl, Nat.le_of_ble_eq_true rfl⟩) hxt hlocks

set_option maxHeartbeats 4000000 in
set_option maxRecDepth 100000 in
theorem x_go_2 (l : Launch) (hl0 : l.stackTraces = false) (D : va_G) (ca : Nat → ClassId) (sa : Nat → Nat) (L : List Nat) (f : Nat → va_E) (h0 ta pa : Nat) (aT aP aS : Nat → Nat) (aH : Nat → Nat → Nat) (n K : Nat) (V : zV) (hR : zRep L f ca h0 ta pa aT aP aS aH n K V) (q t : Nat) (hq : q < vNp V) (ht : t < vNt V) (hbad : zOn (vTd V) (vL V q t) = false) (sz : Nat) : vx_Met l yX4_go wsX4_go ({ frames := 9, cells := 1, slots := 6, locals := 405 }) (va_Pc [.ref h0, .int (nI q), .int (nI t)] (zTp D (va_pl L f) ca sa sz)) zNo (zXX "java/lang/IllegalStateException" sz) 1 6 (fun q => sz ≤ q) := by
  refine vx_ofW (cc := cX4_go) (maxL := 4) (ret := none) (by decide) rfl ?_
  intro p e s m args below meth c s₁ B hml hxt hv
  obtain ⟨rfl, hsz, hP, hE, hZ⟩ := hv
  have hx := B.exec
  have hb := B.bytes
  have hr := B.returns
  have hts := atoms_spec (ws := wsX4_go) B.pre
  have hown : s.vm.findClass RX4 = some m.cls := findClass_of_methodNamed B.named
  have hlocks := B.notSynchronized
  have hl := lv_entry ([.ref h0, .int (nI q), .int (nI t)]) (n := 4) (Nat.le_of_ble_eq_true rfl)
  rw [lg_entry_eq]
  generalize (lg_sl ([.ref h0, .int (nI q), .int (nI t)]) ++ List.replicate (4 - (lg_sl ([.ref h0, .int (nI q), .int (nI t)])).length) Slot.unset).toArray = ls at hl ⊢
  have hl : lv_has ls 4 [(0, .ref h0), (1, .int (nI q)), (2, .int (nI t))] := hl
  subst hsz
  obtain ⟨⟨h4, hTd, hNt, hNp, hnK, hK5⟩, ⟨gt, htA, hTi⟩, ⟨gp, hpA, hPk⟩, hinj⟩ := id hR
  have hpk : ∀ q, q < vNp V → zPack L f ca (aP q) (vP V q) (aH q 20) (aS q) (aH q) := fun q h => (hPk q h).2.1
  have hhi : ∀ q, q < vNp V → ∀ w, w ≤ 20 → zHist L f (aH q w) (vB V q w) (vL V q w) := fun q h w hw => ((hPk q h).2.2 w hw).1
  obtain ⟨nx1, hx1, -⟩ := (hhi q hq t (by omega)).1
  refine lv_aload_n hx hb dX4_go_0 rfl (lv_at hl 0 rfl) ?_
  refine lv_iload_n hx hb dX4_go_1 rfl (lv_at hl 1 rfl) ?_
  refine lv_iload_n hx hb dX4_go_2 rfl (lv_at hl 2 rfl) ?_
  refine zcq (va_runV (As := [.int (nI q), .int (nI t)]) (rest := []) ⟨hx, hb, hml, hown, hts⟩ (c_exStay l D ca sa L f h0 ta pa aT aP aS aH n K V hR q hq t ht) (cwV 2 hts gX4_go_X4_existingStay rfl rfl rfl (by decide +kernel) ⟨Nat.le_of_ble_eq_true rfl, Nat.le_of_ble_eq_true rfl⟩) (zpVp hP hE (ci := 4) rfl h4) rfl rfl hl.1 rfl (lv_room (Nat.le_of_ble_eq_true rfl)) dX4_go_3 ⟨Nat.le_of_ble_eq_true rfl, Nat.le_of_ble_eq_true rfl⟩) ?_
  refine W.eq (g2 := F0 m 6 ls [.ref (aH q t)]) rfl ?_
  refine lv_astore_n (lv' := [(3, .ref (aH q t)), (0, .ref h0), (1, .int (nI q)), (2, .int (nI t))]) hx hb dX4_go_6 rfl hl (by decide) rfl (fun ls hl => ?_)
  refine lv_aload_n hx hb dX4_go_7 rfl (lv_at hl 0 rfl) ?_
  refine lv_aload_n hx hb dX4_go_8 rfl (lv_at hl 1 rfl) ?_
  refine zget (own := RX4) (ci := 4) (C := RX4) (T := TX4) (N := 6) hx hb hts (by decide +kernel) hown hE hP h4 rfl 5 (by decide) (hts (.fieldLink RX4 31 "LinkResolver" "currentDay" "I") (by decide +kernel)) rfl dX4_go_9 ?_
  refine zci (va_runV (As := [.int (nI (vTd V))]) (rest := []) ⟨hx, hb, hml, hown, hts⟩ (c_isOnAt l D ca sa L f (aH q t) (vTd V) _ (vL V q t) (by omega) (hhi q hq t (by omega))) (cwV 1 hts gX4_go_X1_isOnAt rfl rfl rfl (by decide +kernel) ⟨Nat.le_of_ble_eq_true rfl, Nat.le_of_ble_eq_true rfl⟩) (zpVp hP hE (ci := 1) rfl hx1) rfl rfl hl.1 rfl (lv_room (Nat.le_of_ble_eq_true rfl)) dX4_go_12 ⟨Nat.le_of_ble_eq_true rfl, Nat.le_of_ble_eq_true rfl⟩) ?_
  refine zasi (show (bI (zOn (vTd V) (vL V q t))) = nI 0 from by rw [hbad]; rfl) ?_
  refine lv_if_ne (tgt := 28) hx hb dX4_go_15 (by decide) (fun c_15 => ?_) (fun c_15 => ?_)
  · exact absurd c_15 (by decide)
  · exact vx_throwS (A := fun q => s.heap.size ≤ q) (cls := "java/lang/IllegalStateException") (names := ["java/lang/RuntimeException", "java/lang/Exception"]) hx hb hl0 hown (by decide +kernel) (by decide +kernel) (hts (.classLink RX4 38 "java/lang/IllegalStateException") (by decide +kernel)) (hts (.initialized "java/lang/IllegalStateException") (by decide +kernel)) hE.2.2.2.2.2.2.2.2.2.1 (vx_hat (B := [.castable "java/lang/IllegalStateException" "java/lang/IllegalStateException", .declares (Bundle.initS "java/lang/RuntimeException"), .declares (Bundle.initS "java/lang/Exception"), .declares (Bundle.initS Bundle.tN)]) (fun w h => hts w (List.mem_cons_of_mem _ (List.mem_append_left _ (List.mem_append_left _ (List.mem_append_right _ h))))) (by decide +kernel) (vx_c (va_Nw.use rfl hE.2.2.1.1.2.1) (vx_c (va_Nw.use rfl hE.2.2.1.2.1) (vx_c (va_Nw.use rfl hE.2.2.1.2.2.1) (vx_c (va_Nw.use rfl hE.2.2.1.2.2.2) vx_n))))) (by decide +kernel) hZ.1 hZ.2 va_S.rf (hl.1.trans hml.symm) dX4_go_18 dX4_go_21 dX4_go_22 dX4_go_24 dX4_go_27 (fun x h => (hxt x h).elim) (Nat.le_of_ble_eq_true rfl) (Nat.le_of_ble_eq_true rfl) (Nat.le_of_ble_eq_true rfl) (Nat.le_of_ble_eq_true rfl) hlocks (fun t _ h1 h2 => ⟨(), trivial, rfl, h1, fun q h _ => h2 q h⟩) (fun z h => nomatch h) (Nat.le_refl _) (Nat.le_refl _)

set_option maxHeartbeats 4000000 in
set_option maxRecDepth 100000 in
theorem x_pass_1 (l : Launch) (hl0 : l.stackTraces = false) (D : va_G) (ca : Nat → ClassId) (sa : Nat → Nat) (L : List Nat) (f : Nat → va_E) (h0 ta pa : Nat) (aT aP aS : Nat → Nat) (aH : Nat → Nat → Nat) (n K : Nat) (V : zV) (hR : zRep L f ca h0 ta pa aT aP aS aH n K V) (d : Int32) (hbad : iB d (nI 1) (nI 20000) = false) (sz : Nat) : vx_Met l yX4_pass wsX4_pass ({ frames := 9, cells := 1, slots := 6, locals := 405 }) (va_Pc [.ref h0, .int d] (zTp D (va_pl L f) ca sa sz)) zNo (zXX "java/lang/IllegalArgumentException" sz) 1 6 (fun q => sz ≤ q) := by
  refine vx_ofW (cc := cX4_pass) (maxL := 2) (ret := (some .int)) (by decide) rfl ?_
  intro p e s m args below meth c s₁ B hml hxt hv
  obtain ⟨rfl, hsz, hP, hE, hZ⟩ := hv
  have hx := B.exec
  have hb := B.bytes
  have hr := B.returns
  have hts := atoms_spec (ws := wsX4_pass) B.pre
  have hown : s.vm.findClass RX4 = some m.cls := findClass_of_methodNamed B.named
  have hlocks := B.notSynchronized
  have hl := lv_entry ([.ref h0, .int d]) (n := 2) (Nat.le_of_ble_eq_true rfl)
  rw [lg_entry_eq]
  generalize (lg_sl ([.ref h0, .int d]) ++ List.replicate (2 - (lg_sl ([.ref h0, .int d])).length) Slot.unset).toArray = ls at hl ⊢
  have hl : lv_has ls 2 [(0, .ref h0), (1, .int d)] := hl
  subst hsz
  obtain ⟨⟨h4, hTd, hNt, hNp, hnK, hK5⟩, ⟨gt, htA, hTi⟩, ⟨gp, hpA, hPk⟩, hinj⟩ := id hR
  have hpk : ∀ q, q < vNp V → zPack L f ca (aP q) (vP V q) (aH q 20) (aS q) (aH q) := fun q h => (hPk q h).2.1
  have hhi : ∀ q, q < vNp V → ∀ w, w ≤ 20 → zHist L f (aH q w) (vB V q w) (vL V q w) := fun q h w hw => ((hPk q h).2.2 w hw).1
  refine lv_iload_n hx hb dX4_pass_0 rfl (lv_at hl 1 rfl) ?_
  refine lv_iconst (v := nI 1) hx hb dX4_pass_1 (by decide) ?_
  refine lv_sipush (v := nI 20000) hx hb dX4_pass_2 (by decide) ?_
  exact zxco (vx_runS (As := [.int d, .int (nI 1), .int (nI 20000)]) (rest := []) ⟨hx, hb, hml, hown, hts⟩ (x_ckRange l hl0 D ca sa _ (d) ((nI 1)) ((nI 20000)) hbad _) (va_cwS 3 hts gX4_pass_X4_checkRange rfl rfl rfl (by decide +kernel) ⟨Nat.le_of_ble_eq_true rfl, Nat.le_of_ble_eq_true rfl⟩) (ztS hP hE hZ (fun _ h => h)) rfl rfl hl.1 rfl (lv_room (Nat.le_of_ble_eq_true rfl)) dX4_pass_5 ⟨Nat.le_of_ble_eq_true rfl, Nat.le_of_ble_eq_true rfl⟩) hxt hlocks

set_option maxHeartbeats 4000000 in
set_option maxRecDepth 100000 in
theorem x_pass_2 (l : Launch) (hl0 : l.stackTraces = false) (D : va_G) (ca : Nat → ClassId) (sa : Nat → Nat) (L : List Nat) (f : Nat → va_E) (h0 ta pa : Nat) (aT aP aS : Nat → Nat) (aH : Nat → Nat → Nat) (n K : Nat) (V : zV) (hR : zRep L f ca h0 ta pa aT aP aS aH n K V) (d : Nat) (h1 : 1 ≤ d) (h2 : d ≤ 20000) (h3 : 20000 < vTd V + d) (sz : Nat) : vx_Met l yX4_pass wsX4_pass ({ frames := 9, cells := 1, slots := 6, locals := 405 }) (va_Pc [.ref h0, .int (nI d)] (zTp D (va_pl L f) ca sa sz)) zNo (zXX "java/lang/IllegalStateException" sz) 1 6 (fun q => sz ≤ q) := by
  refine vx_ofW (cc := cX4_pass) (maxL := 2) (ret := (some .int)) (by decide) rfl ?_
  intro p e s m args below meth c s₁ B hml hxt hv
  obtain ⟨rfl, hsz, hP, hE, hZ⟩ := hv
  have hx := B.exec
  have hb := B.bytes
  have hr := B.returns
  have hts := atoms_spec (ws := wsX4_pass) B.pre
  have hown : s.vm.findClass RX4 = some m.cls := findClass_of_methodNamed B.named
  have hlocks := B.notSynchronized
  have hl := lv_entry ([.ref h0, .int (nI d)]) (n := 2) (Nat.le_of_ble_eq_true rfl)
  rw [lg_entry_eq]
  generalize (lg_sl ([.ref h0, .int (nI d)]) ++ List.replicate (2 - (lg_sl ([.ref h0, .int (nI d)])).length) Slot.unset).toArray = ls at hl ⊢
  have hl : lv_has ls 2 [(0, .ref h0), (1, .int (nI d))] := hl
  subst hsz
  obtain ⟨⟨h4, hTd, hNt, hNp, hnK, hK5⟩, ⟨gt, htA, hTi⟩, ⟨gp, hpA, hPk⟩, hinj⟩ := id hR
  have hpk : ∀ q, q < vNp V → zPack L f ca (aP q) (vP V q) (aH q 20) (aS q) (aH q) := fun q h => (hPk q h).2.1
  have hhi : ∀ q, q < vNp V → ∀ w, w ≤ 20 → zHist L f (aH q w) (vB V q w) (vL V q w) := fun q h w hw => ((hPk q h).2.2 w hw).1
  refine lv_iload_n hx hb dX4_pass_0 rfl (lv_at hl 1 rfl) ?_
  refine lv_iconst (v := nI 1) hx hb dX4_pass_1 (by decide) ?_
  refine lv_sipush (v := nI 20000) hx hb dX4_pass_2 (by decide) ?_
  refine zcv (va_runS (As := [.int (nI d), .int (nI 1), .int (nI 20000)]) (rest := []) ⟨hx, hb, hml, hown, hts⟩ (c_ckRange l D ca sa _ d 1 20000 h1 h2 (by omega)) (va_cwS 3 hts gX4_pass_X4_checkRange rfl rfl rfl (by decide +kernel) ⟨Nat.le_of_ble_eq_true rfl, Nat.le_of_ble_eq_true rfl⟩) (zpS hP hE) rfl rfl hl.1 rfl (lv_room (Nat.le_of_ble_eq_true rfl)) dX4_pass_5 ⟨Nat.le_of_ble_eq_true rfl, Nat.le_of_ble_eq_true rfl⟩) ?_
  refine lv_iload_n hx hb dX4_pass_8 rfl (lv_at hl 1 rfl) ?_
  refine lv_sipush (v := nI 20000) hx hb dX4_pass_9 (by decide) ?_
  refine lv_aload_n hx hb dX4_pass_12 rfl (lv_at hl 0 rfl) ?_
  refine zget (own := RX4) (ci := 4) (C := RX4) (T := TX4) (N := 6) hx hb hts (by decide +kernel) hown hE hP h4 rfl 5 (by decide) (hts (.fieldLink RX4 31 "LinkResolver" "currentDay" "I") (by decide +kernel)) rfl dX4_pass_13 ?_
  refine lv_isub hx hb dX4_pass_16 ?_
  refine zasi (show ((nI 20000) - (nI (vTd V))) = nI (20000 - vTd V) from pk_sub hTd) ?_
  refine lv_icmp_le (tgt := 30) hx hb dX4_pass_17 (by decide) (fun c_17 => ?_) (fun c_17 => ?_)
  · exact absurd ((nI_leI (by omega) (by omega)).mp c_17) (by omega)
  · exact vx_throwS (A := fun q => s.heap.size ≤ q) (cls := "java/lang/IllegalStateException") (names := ["java/lang/RuntimeException", "java/lang/Exception"]) hx hb hl0 hown (by decide +kernel) (by decide +kernel) (hts (.classLink RX4 38 "java/lang/IllegalStateException") (by decide +kernel)) (hts (.initialized "java/lang/IllegalStateException") (by decide +kernel)) hE.2.2.2.2.2.2.2.2.2.2.1 (vx_hat (B := [.castable "java/lang/IllegalStateException" "java/lang/IllegalStateException", .declares (Bundle.initS "java/lang/RuntimeException"), .declares (Bundle.initS "java/lang/Exception"), .declares (Bundle.initS Bundle.tN)]) (fun w h => hts w (List.mem_cons_of_mem _ (List.mem_append_left _ (List.mem_append_right _ h)))) (by decide +kernel) (vx_c (va_Nw.use rfl hE.2.2.1.1.2.1) (vx_c (va_Nw.use rfl hE.2.2.1.2.1) (vx_c (va_Nw.use rfl hE.2.2.1.2.2.1) (vx_c (va_Nw.use rfl hE.2.2.1.2.2.2) vx_n))))) (by decide +kernel) hZ.1 hZ.2 va_S.rf (hl.1.trans hml.symm) dX4_pass_20 dX4_pass_23 dX4_pass_24 dX4_pass_26 dX4_pass_29 (fun x h => (hxt x h).elim) (Nat.le_of_ble_eq_true rfl) (Nat.le_of_ble_eq_true rfl) (Nat.le_of_ble_eq_true rfl) (Nat.le_of_ble_eq_true rfl) hlocks (fun t _ h1 h2 => ⟨(), trivial, rfl, h1, fun q h _ => h2 q h⟩) (fun z h => nomatch h) (Nat.le_refl _) (Nat.le_refl _)

set_option maxHeartbeats 4000000 in
set_option maxRecDepth 100000 in
theorem x_isSub_1 (l : Launch) (hl0 : l.stackTraces = false) (D : va_G) (ca : Nat → ClassId) (sa : Nat → Nat) (L : List Nat) (f : Nat → va_E) (h0 ta pa : Nat) (aT aP aS : Nat → Nat) (aH : Nat → Nat → Nat) (n K : Nat) (V : zV) (hR : zRep L f ca h0 ta pa aT aP aS aH n K V) (q d : Int32) (hbad : iT (vNp V) q = false) (sz : Nat) : vx_Met l yX4_isSubscribed wsX4_isSubscribed ({ frames := 9, cells := 1, slots := 6, locals := 405 }) (va_Pc [.ref h0, .int q, .int d] (zTp D (va_pl L f) ca sa sz)) zNo (zXX "java/lang/IndexOutOfBoundsException" sz) 1 6 (fun q => sz ≤ q) := by
  refine vx_ofW (cc := cX4_isSubscribed) (maxL := 4) (ret := (some .boolean)) (by decide) rfl ?_
  intro p e s m args below meth c s₁ B hml hxt hv
  obtain ⟨rfl, hsz, hP, hE, hZ⟩ := hv
  have hx := B.exec
  have hb := B.bytes
  have hr := B.returns
  have hts := atoms_spec (ws := wsX4_isSubscribed) B.pre
  have hown : s.vm.findClass RX4 = some m.cls := findClass_of_methodNamed B.named
  have hlocks := B.notSynchronized
  have hl := lv_entry ([.ref h0, .int q, .int d]) (n := 4) (Nat.le_of_ble_eq_true rfl)
  rw [lg_entry_eq]
  generalize (lg_sl ([.ref h0, .int q, .int d]) ++ List.replicate (4 - (lg_sl ([.ref h0, .int q, .int d])).length) Slot.unset).toArray = ls at hl ⊢
  have hl : lv_has ls 4 [(0, .ref h0), (1, .int q), (2, .int d)] := hl
  subst hsz
  obtain ⟨⟨h4, hTd, hNt, hNp, hnK, hK5⟩, ⟨gt, htA, hTi⟩, ⟨gp, hpA, hPk⟩, hinj⟩ := id hR
  have hpk : ∀ q, q < vNp V → zPack L f ca (aP q) (vP V q) (aH q 20) (aS q) (aH q) := fun q h => (hPk q h).2.1
  have hhi : ∀ q, q < vNp V → ∀ w, w ≤ 20 → zHist L f (aH q w) (vB V q w) (vL V q w) := fun q h w hw => ((hPk q h).2.2 w hw).1
  refine lv_aload_n hx hb dX4_isSubscribed_0 rfl (lv_at hl 0 rfl) ?_
  refine lv_iload_n hx hb dX4_isSubscribed_1 rfl (lv_at hl 1 rfl) ?_
  exact zxco (vx_runV (As := [.int q]) (rest := []) ⟨hx, hb, hml, hown, hts⟩ (x_exPack l hl0 D ca sa L f h0 ta pa aT aP aS aH n K V hR (q) hbad _) (cwV 1 hts gX4_isSubscribed_X4_existingPack rfl rfl rfl (by decide +kernel) ⟨Nat.le_of_ble_eq_true rfl, Nat.le_of_ble_eq_true rfl⟩) (ztV hP hE hZ (fun _ h => h) (ci := 4) rfl h4) rfl rfl hl.1 rfl (lv_room (Nat.le_of_ble_eq_true rfl)) dX4_isSubscribed_2 ⟨Nat.le_of_ble_eq_true rfl, Nat.le_of_ble_eq_true rfl⟩) hxt hlocks

set_option maxHeartbeats 4000000 in
set_option maxRecDepth 100000 in
theorem x_isSub_2 (l : Launch) (hl0 : l.stackTraces = false) (D : va_G) (ca : Nat → ClassId) (sa : Nat → Nat) (L : List Nat) (f : Nat → va_E) (h0 ta pa : Nat) (aT aP aS : Nat → Nat) (aH : Nat → Nat → Nat) (n K : Nat) (V : zV) (hR : zRep L f ca h0 ta pa aT aP aS aH n K V) (q : Int32) (d : Int32) (hok : iT (vNp V) q = true) (hbad : iB d (nI 0) (nI (vTd V)) = false) (sz : Nat) : vx_Met l yX4_isSubscribed wsX4_isSubscribed ({ frames := 9, cells := 1, slots := 6, locals := 405 }) (va_Pc [.ref h0, .int q, .int d] (zTp D (va_pl L f) ca sa sz)) zNo (zXX "java/lang/IllegalArgumentException" sz) 1 6 (fun q => sz ≤ q) := by
  refine vx_ofW (cc := cX4_isSubscribed) (maxL := 4) (ret := (some .boolean)) (by decide) rfl ?_
  intro p e s m args below meth c s₁ B hml hxt hv
  obtain ⟨rfl, hsz, hP, hE, hZ⟩ := hv
  have hx := B.exec
  have hb := B.bytes
  have hr := B.returns
  have hts := atoms_spec (ws := wsX4_isSubscribed) B.pre
  have hown : s.vm.findClass RX4 = some m.cls := findClass_of_methodNamed B.named
  have hlocks := B.notSynchronized
  have hl := lv_entry ([.ref h0, .int q, .int d]) (n := 4) (Nat.le_of_ble_eq_true rfl)
  rw [lg_entry_eq]
  generalize (lg_sl ([.ref h0, .int q, .int d]) ++ List.replicate (4 - (lg_sl ([.ref h0, .int q, .int d])).length) Slot.unset).toArray = ls at hl ⊢
  have hl : lv_has ls 4 [(0, .ref h0), (1, .int q), (2, .int d)] := hl
  subst hsz
  obtain ⟨⟨h4, hTd, hNt, hNp, hnK, hK5⟩, ⟨gt, htA, hTi⟩, ⟨gp, hpA, hPk⟩, hinj⟩ := id hR
  have hpk : ∀ q, q < vNp V → zPack L f ca (aP q) (vP V q) (aH q 20) (aS q) (aH q) := fun q h => (hPk q h).2.1
  have hhi : ∀ q, q < vNp V → ∀ w, w ≤ 20 → zHist L f (aH q w) (vB V q w) (vL V q w) := fun q h w hw => ((hPk q h).2.2 w hw).1
  refine lv_aload_n hx hb dX4_isSubscribed_0 rfl (lv_at hl 0 rfl) ?_
  refine lv_iload_n hx hb dX4_isSubscribed_1 rfl (lv_at hl 1 rfl) ?_
  have hk_2 : iT (vNp V) q = true := hok
  obtain ⟨q9, hq9, rfl⟩ := iT_n hk_2 (by omega)
  refine zcq (va_runV (As := [.int (nI q9)]) (rest := []) ⟨hx, hb, hml, hown, hts⟩ (c_exPack l D ca sa L f h0 ta pa aT aP aS aH n K V hR q9 hq9) (cwV 1 hts gX4_isSubscribed_X4_existingPack rfl rfl rfl (by decide +kernel) ⟨Nat.le_of_ble_eq_true rfl, Nat.le_of_ble_eq_true rfl⟩) (zpVp hP hE (ci := 4) rfl h4) rfl rfl hl.1 rfl (lv_room (Nat.le_of_ble_eq_true rfl)) dX4_isSubscribed_2 ⟨Nat.le_of_ble_eq_true rfl, Nat.le_of_ble_eq_true rfl⟩) ?_
  refine W.eq (g2 := F0 m 5 ls [.ref (aP q9)]) rfl ?_
  refine zget (own := RX4) (ci := 2) (C := RX2) (T := TX2) (N := 6) hx hb hts (by decide +kernel) hown hE hP (hpk q9 hq9).1.1 rfl 4 (by decide) (hts (.fieldLink RX4 68 "LinkResolver$Pack" "subscription" "LLinkResolver$History;") (by decide +kernel)) rfl dX4_isSubscribed_5 ?_
  refine lv_astore_n (lv' := [(3, .ref (aH q9 20)), (0, .ref h0), (1, .int (nI q9)), (2, .int d)]) hx hb dX4_isSubscribed_8 rfl hl (by decide) rfl (fun ls hl => ?_)
  refine lv_iload_n hx hb dX4_isSubscribed_9 rfl (lv_at hl 3 rfl) ?_
  refine lv_iconst (v := nI 0) hx hb dX4_isSubscribed_10 (by decide) ?_
  refine lv_aload_n hx hb dX4_isSubscribed_11 rfl (lv_at hl 1 rfl) ?_
  refine zget (own := RX4) (ci := 4) (C := RX4) (T := TX4) (N := 6) hx hb hts (by decide +kernel) hown hE hP h4 rfl 5 (by decide) (hts (.fieldLink RX4 31 "LinkResolver" "currentDay" "I") (by decide +kernel)) rfl dX4_isSubscribed_12 ?_
  exact zxco (vx_runS (As := [.int d, .int (nI 0), .int (nI (vTd V))]) (rest := []) ⟨hx, hb, hml, hown, hts⟩ (x_ckRange l hl0 D ca sa _ (d) ((nI 0)) ((nI (vTd V))) hbad _) (va_cwS 3 hts gX4_isSubscribed_X4_checkRange rfl rfl rfl (by decide +kernel) ⟨Nat.le_of_ble_eq_true rfl, Nat.le_of_ble_eq_true rfl⟩) (ztS hP hE hZ (fun _ h => h)) rfl rfl hl.1 rfl (lv_room (Nat.le_of_ble_eq_true rfl)) dX4_isSubscribed_15 ⟨Nat.le_of_ble_eq_true rfl, Nat.le_of_ble_eq_true rfl⟩) hxt hlocks

set_option maxHeartbeats 4000000 in
set_option maxRecDepth 100000 in
theorem x_isIn_1 (l : Launch) (hl0 : l.stackTraces = false) (D : va_G) (ca : Nat → ClassId) (sa : Nat → Nat) (L : List Nat) (f : Nat → va_E) (h0 ta pa : Nat) (aT aP aS : Nat → Nat) (aH : Nat → Nat → Nat) (n K : Nat) (V : zV) (hR : zRep L f ca h0 ta pa aT aP aS aH n K V) (q t d : Int32) (hbad : (iT (vNp V) q && iT (vNt V) t) = false) (sz : Nat) : vx_Met l yX4_isIn wsX4_isIn ({ frames := 9, cells := 1, slots := 6, locals := 405 }) (va_Pc [.ref h0, .int q, .int t, .int d] (zTp D (va_pl L f) ca sa sz)) zNo (zXX "java/lang/IndexOutOfBoundsException" sz) 1 6 (fun q => sz ≤ q) := by
  refine vx_ofW (cc := cX4_isIn) (maxL := 5) (ret := (some .boolean)) (by decide) rfl ?_
  intro p e s m args below meth c s₁ B hml hxt hv
  obtain ⟨rfl, hsz, hP, hE, hZ⟩ := hv
  have hx := B.exec
  have hb := B.bytes
  have hr := B.returns
  have hts := atoms_spec (ws := wsX4_isIn) B.pre
  have hown : s.vm.findClass RX4 = some m.cls := findClass_of_methodNamed B.named
  have hlocks := B.notSynchronized
  have hl := lv_entry ([.ref h0, .int q, .int t, .int d]) (n := 5) (Nat.le_of_ble_eq_true rfl)
  rw [lg_entry_eq]
  generalize (lg_sl ([.ref h0, .int q, .int t, .int d]) ++ List.replicate (5 - (lg_sl ([.ref h0, .int q, .int t, .int d])).length) Slot.unset).toArray = ls at hl ⊢
  have hl : lv_has ls 5 [(0, .ref h0), (1, .int q), (2, .int t), (3, .int d)] := hl
  subst hsz
  obtain ⟨⟨h4, hTd, hNt, hNp, hnK, hK5⟩, ⟨gt, htA, hTi⟩, ⟨gp, hpA, hPk⟩, hinj⟩ := id hR
  have hpk : ∀ q, q < vNp V → zPack L f ca (aP q) (vP V q) (aH q 20) (aS q) (aH q) := fun q h => (hPk q h).2.1
  have hhi : ∀ q, q < vNp V → ∀ w, w ≤ 20 → zHist L f (aH q w) (vB V q w) (vL V q w) := fun q h w hw => ((hPk q h).2.2 w hw).1
  refine lv_aload_n hx hb dX4_isIn_0 rfl (lv_at hl 0 rfl) ?_
  refine lv_iload_n hx hb dX4_isIn_1 rfl (lv_at hl 1 rfl) ?_
  refine lv_iload_n hx hb dX4_isIn_2 rfl (lv_at hl 2 rfl) ?_
  exact zxco (vx_runV (As := [.int q, .int t]) (rest := []) ⟨hx, hb, hml, hown, hts⟩ (x_exStay l hl0 D ca sa L f h0 ta pa aT aP aS aH n K V hR (q) (t) hbad _) (cwV 2 hts gX4_isIn_X4_existingStay rfl rfl rfl (by decide +kernel) ⟨Nat.le_of_ble_eq_true rfl, Nat.le_of_ble_eq_true rfl⟩) (ztV hP hE hZ (fun _ h => h) (ci := 4) rfl h4) rfl rfl hl.1 rfl (lv_room (Nat.le_of_ble_eq_true rfl)) dX4_isIn_3 ⟨Nat.le_of_ble_eq_true rfl, Nat.le_of_ble_eq_true rfl⟩) hxt hlocks

set_option maxHeartbeats 4000000 in
set_option maxRecDepth 100000 in
theorem x_isIn_2 (l : Launch) (hl0 : l.stackTraces = false) (D : va_G) (ca : Nat → ClassId) (sa : Nat → Nat) (L : List Nat) (f : Nat → va_E) (h0 ta pa : Nat) (aT aP aS : Nat → Nat) (aH : Nat → Nat → Nat) (n K : Nat) (V : zV) (hR : zRep L f ca h0 ta pa aT aP aS aH n K V) (q t : Nat) (hq : q < vNp V) (ht : t < vNt V) (d : Int32) (hbad : iB d (nI 0) (nI (vTd V)) = false) (sz : Nat) : vx_Met l yX4_isIn wsX4_isIn ({ frames := 9, cells := 1, slots := 6, locals := 405 }) (va_Pc [.ref h0, .int (nI q), .int (nI t), .int d] (zTp D (va_pl L f) ca sa sz)) zNo (zXX "java/lang/IllegalArgumentException" sz) 1 6 (fun q => sz ≤ q) := by
  refine vx_ofW (cc := cX4_isIn) (maxL := 5) (ret := (some .boolean)) (by decide) rfl ?_
  intro p e s m args below meth c s₁ B hml hxt hv
  obtain ⟨rfl, hsz, hP, hE, hZ⟩ := hv
  have hx := B.exec
  have hb := B.bytes
  have hr := B.returns
  have hts := atoms_spec (ws := wsX4_isIn) B.pre
  have hown : s.vm.findClass RX4 = some m.cls := findClass_of_methodNamed B.named
  have hlocks := B.notSynchronized
  have hl := lv_entry ([.ref h0, .int (nI q), .int (nI t), .int d]) (n := 5) (Nat.le_of_ble_eq_true rfl)
  rw [lg_entry_eq]
  generalize (lg_sl ([.ref h0, .int (nI q), .int (nI t), .int d]) ++ List.replicate (5 - (lg_sl ([.ref h0, .int (nI q), .int (nI t), .int d])).length) Slot.unset).toArray = ls at hl ⊢
  have hl : lv_has ls 5 [(0, .ref h0), (1, .int (nI q)), (2, .int (nI t)), (3, .int d)] := hl
  subst hsz
  obtain ⟨⟨h4, hTd, hNt, hNp, hnK, hK5⟩, ⟨gt, htA, hTi⟩, ⟨gp, hpA, hPk⟩, hinj⟩ := id hR
  have hpk : ∀ q, q < vNp V → zPack L f ca (aP q) (vP V q) (aH q 20) (aS q) (aH q) := fun q h => (hPk q h).2.1
  have hhi : ∀ q, q < vNp V → ∀ w, w ≤ 20 → zHist L f (aH q w) (vB V q w) (vL V q w) := fun q h w hw => ((hPk q h).2.2 w hw).1
  refine lv_aload_n hx hb dX4_isIn_0 rfl (lv_at hl 0 rfl) ?_
  refine lv_iload_n hx hb dX4_isIn_1 rfl (lv_at hl 1 rfl) ?_
  refine lv_iload_n hx hb dX4_isIn_2 rfl (lv_at hl 2 rfl) ?_
  refine zcq (va_runV (As := [.int (nI q), .int (nI t)]) (rest := []) ⟨hx, hb, hml, hown, hts⟩ (c_exStay l D ca sa L f h0 ta pa aT aP aS aH n K V hR q hq t ht) (cwV 2 hts gX4_isIn_X4_existingStay rfl rfl rfl (by decide +kernel) ⟨Nat.le_of_ble_eq_true rfl, Nat.le_of_ble_eq_true rfl⟩) (zpVp hP hE (ci := 4) rfl h4) rfl rfl hl.1 rfl (lv_room (Nat.le_of_ble_eq_true rfl)) dX4_isIn_3 ⟨Nat.le_of_ble_eq_true rfl, Nat.le_of_ble_eq_true rfl⟩) ?_
  refine W.eq (g2 := F0 m 6 ls [.ref (aH q t)]) rfl ?_
  refine lv_astore (lv' := [(4, .ref (aH q t)), (0, .ref h0), (1, .int (nI q)), (2, .int (nI t)), (3, .int d)]) hx hb dX4_isIn_6 hl (by decide) rfl (fun ls hl => ?_)
  refine lv_iload_n hx hb dX4_isIn_8 rfl (lv_at hl 4 rfl) ?_
  refine lv_iconst (v := nI 0) hx hb dX4_isIn_9 (by decide) ?_
  refine lv_aload_n hx hb dX4_isIn_10 rfl (lv_at hl 1 rfl) ?_
  refine zget (own := RX4) (ci := 4) (C := RX4) (T := TX4) (N := 6) hx hb hts (by decide +kernel) hown hE hP h4 rfl 5 (by decide) (hts (.fieldLink RX4 31 "LinkResolver" "currentDay" "I") (by decide +kernel)) rfl dX4_isIn_11 ?_
  exact zxco (vx_runS (As := [.int d, .int (nI 0), .int (nI (vTd V))]) (rest := []) ⟨hx, hb, hml, hown, hts⟩ (x_ckRange l hl0 D ca sa _ (d) ((nI 0)) ((nI (vTd V))) hbad _) (va_cwS 3 hts gX4_isIn_X4_checkRange rfl rfl rfl (by decide +kernel) ⟨Nat.le_of_ble_eq_true rfl, Nat.le_of_ble_eq_true rfl⟩) (ztS hP hE hZ (fun _ h => h)) rfl rfl hl.1 rfl (lv_room (Nat.le_of_ble_eq_true rfl)) dX4_isIn_14 ⟨Nat.le_of_ble_eq_true rfl, Nat.le_of_ble_eq_true rfl⟩) hxt hlocks

set_option maxHeartbeats 4000000 in
set_option maxRecDepth 100000 in
theorem x_report_1 (l : Launch) (hl0 : l.stackTraces = false) (D : va_G) (ca : Nat → ClassId) (sa : Nat → Nat) (L : List Nat) (f : Nat → va_E) (h0 ta pa : Nat) (aT aP aS : Nat → Nat) (aH : Nat → Nat → Nat) (n K : Nat) (V : zV) (hR : zRep L f ca h0 ta pa aT aP aS aH n K V) (q t : Int32) (hbad : (iT (vNp V) q && iT (vNt V) t) = false) (sz : Nat) : vx_Met l yX4_report wsX4_report ({ frames := 9, cells := 1, slots := 6, locals := 405 }) (va_Pc [.ref h0, .int q, .int t] (zTp D (va_pl L f) ca sa sz)) zNo (zXX "java/lang/IndexOutOfBoundsException" sz) 1 6 (fun q => sz ≤ q) := by
  refine vx_ofW (cc := cX4_report) (maxL := 4) (ret := (some .int)) (by decide) rfl ?_
  intro p e s m args below meth c s₁ B hml hxt hv
  obtain ⟨rfl, hsz, hP, hE, hZ⟩ := hv
  have hx := B.exec
  have hb := B.bytes
  have hr := B.returns
  have hts := atoms_spec (ws := wsX4_report) B.pre
  have hown : s.vm.findClass RX4 = some m.cls := findClass_of_methodNamed B.named
  have hlocks := B.notSynchronized
  have hl := lv_entry ([.ref h0, .int q, .int t]) (n := 4) (Nat.le_of_ble_eq_true rfl)
  rw [lg_entry_eq]
  generalize (lg_sl ([.ref h0, .int q, .int t]) ++ List.replicate (4 - (lg_sl ([.ref h0, .int q, .int t])).length) Slot.unset).toArray = ls at hl ⊢
  have hl : lv_has ls 4 [(0, .ref h0), (1, .int q), (2, .int t)] := hl
  subst hsz
  obtain ⟨⟨h4, hTd, hNt, hNp, hnK, hK5⟩, ⟨gt, htA, hTi⟩, ⟨gp, hpA, hPk⟩, hinj⟩ := id hR
  have hpk : ∀ q, q < vNp V → zPack L f ca (aP q) (vP V q) (aH q 20) (aS q) (aH q) := fun q h => (hPk q h).2.1
  have hhi : ∀ q, q < vNp V → ∀ w, w ≤ 20 → zHist L f (aH q w) (vB V q w) (vL V q w) := fun q h w hw => ((hPk q h).2.2 w hw).1
  refine lv_aload_n hx hb dX4_report_0 rfl (lv_at hl 0 rfl) ?_
  refine lv_iload_n hx hb dX4_report_1 rfl (lv_at hl 1 rfl) ?_
  refine lv_iload_n hx hb dX4_report_2 rfl (lv_at hl 2 rfl) ?_
  exact zxco (vx_runV (As := [.int q, .int t]) (rest := []) ⟨hx, hb, hml, hown, hts⟩ (x_exStay l hl0 D ca sa L f h0 ta pa aT aP aS aH n K V hR (q) (t) hbad _) (cwV 2 hts gX4_report_X4_existingStay rfl rfl rfl (by decide +kernel) ⟨Nat.le_of_ble_eq_true rfl, Nat.le_of_ble_eq_true rfl⟩) (ztV hP hE hZ (fun _ h => h) (ci := 4) rfl h4) rfl rfl hl.1 rfl (lv_room (Nat.le_of_ble_eq_true rfl)) dX4_report_3 ⟨Nat.le_of_ble_eq_true rfl, Nat.le_of_ble_eq_true rfl⟩) hxt hlocks

set_option maxHeartbeats 4000000 in
set_option maxRecDepth 100000 in
theorem x_mend_1 (l : Launch) (hl0 : l.stackTraces = false) (D : va_G) (ca : Nat → ClassId) (sa : Nat → Nat) (L : List Nat) (f : Nat → va_E) (h0 ta pa : Nat) (aT aP aS : Nat → Nat) (aH : Nat → Nat → Nat) (n K : Nat) (V : zV) (hR : zRep L f ca h0 ta pa aT aP aS aH n K V) (q t : Int32) (hbad : (iT (vNp V) q && iT (vNt V) t) = false) (sz : Nat) : vx_Met l yX4_mend wsX4_mend ({ frames := 9, cells := 1, slots := 6, locals := 405 }) (va_Pc [.ref h0, .int q, .int t] (zTp D (va_pl L f) ca sa sz)) zNo (zXX "java/lang/IndexOutOfBoundsException" sz) 1 6 (fun q => sz ≤ q) := by
  refine vx_ofW (cc := cX4_mend) (maxL := 5) (ret := (some .int)) (by decide) rfl ?_
  intro p e s m args below meth c s₁ B hml hxt hv
  obtain ⟨rfl, hsz, hP, hE, hZ⟩ := hv
  have hx := B.exec
  have hb := B.bytes
  have hr := B.returns
  have hts := atoms_spec (ws := wsX4_mend) B.pre
  have hown : s.vm.findClass RX4 = some m.cls := findClass_of_methodNamed B.named
  have hlocks := B.notSynchronized
  have hl := lv_entry ([.ref h0, .int q, .int t]) (n := 5) (Nat.le_of_ble_eq_true rfl)
  rw [lg_entry_eq]
  generalize (lg_sl ([.ref h0, .int q, .int t]) ++ List.replicate (5 - (lg_sl ([.ref h0, .int q, .int t])).length) Slot.unset).toArray = ls at hl ⊢
  have hl : lv_has ls 5 [(0, .ref h0), (1, .int q), (2, .int t)] := hl
  subst hsz
  obtain ⟨⟨h4, hTd, hNt, hNp, hnK, hK5⟩, ⟨gt, htA, hTi⟩, ⟨gp, hpA, hPk⟩, hinj⟩ := id hR
  have hpk : ∀ q, q < vNp V → zPack L f ca (aP q) (vP V q) (aH q 20) (aS q) (aH q) := fun q h => (hPk q h).2.1
  have hhi : ∀ q, q < vNp V → ∀ w, w ≤ 20 → zHist L f (aH q w) (vB V q w) (vL V q w) := fun q h w hw => ((hPk q h).2.2 w hw).1
  refine lv_aload_n hx hb dX4_mend_0 rfl (lv_at hl 0 rfl) ?_
  refine lv_iload_n hx hb dX4_mend_1 rfl (lv_at hl 1 rfl) ?_
  refine lv_iload_n hx hb dX4_mend_2 rfl (lv_at hl 2 rfl) ?_
  exact zxco (vx_runV (As := [.int q, .int t]) (rest := []) ⟨hx, hb, hml, hown, hts⟩ (x_exStay l hl0 D ca sa L f h0 ta pa aT aP aS aH n K V hR (q) (t) hbad _) (cwV 2 hts gX4_mend_X4_existingStay rfl rfl rfl (by decide +kernel) ⟨Nat.le_of_ble_eq_true rfl, Nat.le_of_ble_eq_true rfl⟩) (ztV hP hE hZ (fun _ h => h) (ci := 4) rfl h4) rfl rfl hl.1 rfl (lv_room (Nat.le_of_ble_eq_true rfl)) dX4_mend_3 ⟨Nat.le_of_ble_eq_true rfl, Nat.le_of_ble_eq_true rfl⟩) hxt hlocks

set_option maxHeartbeats 4000000 in
set_option maxRecDepth 100000 in
theorem x_covers_1 (l : Launch) (hl0 : l.stackTraces = false) (D : va_G) (ca : Nat → ClassId) (sa : Nat → Nat) (L : List Nat) (f : Nat → va_E) (h0 ta pa : Nat) (aT aP aS : Nat → Nat) (aH : Nat → Nat → Nat) (n K : Nat) (V : zV) (hR : zRep L f ca h0 ta pa aT aP aS aH n K V) (q t y g d : Int32) (hbad : (iT (vNp V) q && iT (vNt V) t) = false) (sz : Nat) : vx_Met l yX4_covers wsX4_covers ({ frames := 9, cells := 1, slots := 6, locals := 405 }) (va_Pc [.ref h0, .int q, .int t, .int y, .int g, .int d] (zTp D (va_pl L f) ca sa sz)) zNo (zXX "java/lang/IndexOutOfBoundsException" sz) 1 6 (fun q => sz ≤ q) := by
  refine vx_ofW (cc := cX4_covers) (maxL := 7) (ret := (some .boolean)) (by decide) rfl ?_
  intro p e s m args below meth c s₁ B hml hxt hv
  obtain ⟨rfl, hsz, hP, hE, hZ⟩ := hv
  have hx := B.exec
  have hb := B.bytes
  have hr := B.returns
  have hts := atoms_spec (ws := wsX4_covers) B.pre
  have hown : s.vm.findClass RX4 = some m.cls := findClass_of_methodNamed B.named
  have hlocks := B.notSynchronized
  have hl := lv_entry ([.ref h0, .int q, .int t, .int y, .int g, .int d]) (n := 7) (Nat.le_of_ble_eq_true rfl)
  rw [lg_entry_eq]
  generalize (lg_sl ([.ref h0, .int q, .int t, .int y, .int g, .int d]) ++ List.replicate (7 - (lg_sl ([.ref h0, .int q, .int t, .int y, .int g, .int d])).length) Slot.unset).toArray = ls at hl ⊢
  have hl : lv_has ls 7 [(0, .ref h0), (1, .int q), (2, .int t), (3, .int y), (4, .int g), (5, .int d)] := hl
  subst hsz
  obtain ⟨⟨h4, hTd, hNt, hNp, hnK, hK5⟩, ⟨gt, htA, hTi⟩, ⟨gp, hpA, hPk⟩, hinj⟩ := id hR
  have hpk : ∀ q, q < vNp V → zPack L f ca (aP q) (vP V q) (aH q 20) (aS q) (aH q) := fun q h => (hPk q h).2.1
  have hhi : ∀ q, q < vNp V → ∀ w, w ≤ 20 → zHist L f (aH q w) (vB V q w) (vL V q w) := fun q h w hw => ((hPk q h).2.2 w hw).1
  refine lv_aload_n hx hb dX4_covers_0 rfl (lv_at hl 0 rfl) ?_
  refine lv_iload_n hx hb dX4_covers_1 rfl (lv_at hl 1 rfl) ?_
  rcases hk_2 : iT (vNp V) q with _ | _
  · exact zxco (vx_runV (As := [.int q]) (rest := []) ⟨hx, hb, hml, hown, hts⟩ (x_exPack l hl0 D ca sa L f h0 ta pa aT aP aS aH n K V hR (q) hk_2 _) (cwV 1 hts gX4_covers_X4_existingPack rfl rfl rfl (by decide +kernel) ⟨Nat.le_of_ble_eq_true rfl, Nat.le_of_ble_eq_true rfl⟩) (ztV hP hE hZ (fun _ h => h) (ci := 4) rfl h4) rfl rfl hl.1 rfl (lv_room (Nat.le_of_ble_eq_true rfl)) dX4_covers_2 ⟨Nat.le_of_ble_eq_true rfl, Nat.le_of_ble_eq_true rfl⟩) hxt hlocks
  obtain ⟨q9, hq9, rfl⟩ := iT_n hk_2 (by omega)
  refine zcq (va_runV (As := [.int (nI q9)]) (rest := []) ⟨hx, hb, hml, hown, hts⟩ (c_exPack l D ca sa L f h0 ta pa aT aP aS aH n K V hR q9 hq9) (cwV 1 hts gX4_covers_X4_existingPack rfl rfl rfl (by decide +kernel) ⟨Nat.le_of_ble_eq_true rfl, Nat.le_of_ble_eq_true rfl⟩) (zpVp hP hE (ci := 4) rfl h4) rfl rfl hl.1 rfl (lv_room (Nat.le_of_ble_eq_true rfl)) dX4_covers_2 ⟨Nat.le_of_ble_eq_true rfl, Nat.le_of_ble_eq_true rfl⟩) ?_
  refine W.eq (g2 := F0 m 5 ls [.ref (aP q9)]) rfl ?_
  refine lv_astore (lv' := [(6, .ref (aP q9)), (0, .ref h0), (1, .int (nI q9)), (2, .int t), (3, .int y), (4, .int g), (5, .int d)]) hx hb dX4_covers_5 hl (by decide) rfl (fun ls hl => ?_)
  refine lv_aload_n hx hb dX4_covers_7 rfl (lv_at hl 1 rfl) ?_
  refine lv_iload_n hx hb dX4_covers_8 rfl (lv_at hl 3 rfl) ?_
  exact zxco (vx_runV (As := [.int t]) (rest := []) ⟨hx, hb, hml, hown, hts⟩ (x_exTitle l hl0 D ca sa L f h0 ta pa aT aP aS aH n K V hR (t) (by rw [hk_2, Bool.true_and] at hbad; exact hbad) _) (cwV 1 hts gX4_covers_X4_existingTitle rfl rfl rfl (by decide +kernel) ⟨Nat.le_of_ble_eq_true rfl, Nat.le_of_ble_eq_true rfl⟩) (ztV hP hE hZ (fun _ h => h) (ci := 4) rfl h4) rfl rfl hl.1 rfl (lv_room (Nat.le_of_ble_eq_true rfl)) dX4_covers_9 ⟨Nat.le_of_ble_eq_true rfl, Nat.le_of_ble_eq_true rfl⟩) hxt hlocks

set_option maxHeartbeats 4000000 in
set_option maxRecDepth 100000 in
theorem x_covers_2 (l : Launch) (hl0 : l.stackTraces = false) (D : va_G) (ca : Nat → ClassId) (sa : Nat → Nat) (L : List Nat) (f : Nat → va_E) (h0 ta pa : Nat) (aT aP aS : Nat → Nat) (aH : Nat → Nat → Nat) (n K : Nat) (V : zV) (hR : zRep L f ca h0 ta pa aT aP aS aH n K V) (q t y g d : Int32) (hok : (iT (vNp V) q && iT (vNt V) t) = true) (hbad : (iB y (nI 0) (nI 55) && (iB g (nI 0) (nI 3) && iB d (nI 0) (nI (vTd V)))) = false) (sz : Nat) : vx_Met l yX4_covers wsX4_covers ({ frames := 9, cells := 1, slots := 6, locals := 405 }) (va_Pc [.ref h0, .int q, .int t, .int y, .int g, .int d] (zTp D (va_pl L f) ca sa sz)) zNo (zXX "java/lang/IllegalArgumentException" sz) 1 6 (fun q => sz ≤ q) := by
  refine vx_ofW (cc := cX4_covers) (maxL := 7) (ret := (some .boolean)) (by decide) rfl ?_
  intro p e s m args below meth c s₁ B hml hxt hv
  obtain ⟨rfl, hsz, hP, hE, hZ⟩ := hv
  have hx := B.exec
  have hb := B.bytes
  have hr := B.returns
  have hts := atoms_spec (ws := wsX4_covers) B.pre
  have hown : s.vm.findClass RX4 = some m.cls := findClass_of_methodNamed B.named
  have hlocks := B.notSynchronized
  have hl := lv_entry ([.ref h0, .int q, .int t, .int y, .int g, .int d]) (n := 7) (Nat.le_of_ble_eq_true rfl)
  rw [lg_entry_eq]
  generalize (lg_sl ([.ref h0, .int q, .int t, .int y, .int g, .int d]) ++ List.replicate (7 - (lg_sl ([.ref h0, .int q, .int t, .int y, .int g, .int d])).length) Slot.unset).toArray = ls at hl ⊢
  have hl : lv_has ls 7 [(0, .ref h0), (1, .int q), (2, .int t), (3, .int y), (4, .int g), (5, .int d)] := hl
  subst hsz
  obtain ⟨⟨h4, hTd, hNt, hNp, hnK, hK5⟩, ⟨gt, htA, hTi⟩, ⟨gp, hpA, hPk⟩, hinj⟩ := id hR
  have hpk : ∀ q, q < vNp V → zPack L f ca (aP q) (vP V q) (aH q 20) (aS q) (aH q) := fun q h => (hPk q h).2.1
  have hhi : ∀ q, q < vNp V → ∀ w, w ≤ 20 → zHist L f (aH q w) (vB V q w) (vL V q w) := fun q h w hw => ((hPk q h).2.2 w hw).1
  rw [Bool.and_eq_true] at hok
  refine lv_aload_n hx hb dX4_covers_0 rfl (lv_at hl 0 rfl) ?_
  refine lv_iload_n hx hb dX4_covers_1 rfl (lv_at hl 1 rfl) ?_
  have hk_2 : iT (vNp V) q = true := hok.1
  obtain ⟨q9, hq9, rfl⟩ := iT_n hk_2 (by omega)
  refine zcq (va_runV (As := [.int (nI q9)]) (rest := []) ⟨hx, hb, hml, hown, hts⟩ (c_exPack l D ca sa L f h0 ta pa aT aP aS aH n K V hR q9 hq9) (cwV 1 hts gX4_covers_X4_existingPack rfl rfl rfl (by decide +kernel) ⟨Nat.le_of_ble_eq_true rfl, Nat.le_of_ble_eq_true rfl⟩) (zpVp hP hE (ci := 4) rfl h4) rfl rfl hl.1 rfl (lv_room (Nat.le_of_ble_eq_true rfl)) dX4_covers_2 ⟨Nat.le_of_ble_eq_true rfl, Nat.le_of_ble_eq_true rfl⟩) ?_
  refine W.eq (g2 := F0 m 5 ls [.ref (aP q9)]) rfl ?_
  refine lv_astore (lv' := [(6, .ref (aP q9)), (0, .ref h0), (1, .int (nI q9)), (2, .int t), (3, .int y), (4, .int g), (5, .int d)]) hx hb dX4_covers_5 hl (by decide) rfl (fun ls hl => ?_)
  refine lv_aload_n hx hb dX4_covers_7 rfl (lv_at hl 1 rfl) ?_
  refine lv_iload_n hx hb dX4_covers_8 rfl (lv_at hl 3 rfl) ?_
  have hk_9 : iT (vNt V) t = true := hok.2
  obtain ⟨t9, ht9, rfl⟩ := iT_n hk_9 (by omega)
  refine zcq (va_runV (As := [.int (nI t9)]) (rest := []) ⟨hx, hb, hml, hown, hts⟩ (c_exTitle l D ca sa L f h0 ta pa aT aP aS aH n K V hR t9 ht9) (cwV 1 hts gX4_covers_X4_existingTitle rfl rfl rfl (by decide +kernel) ⟨Nat.le_of_ble_eq_true rfl, Nat.le_of_ble_eq_true rfl⟩) (zpVp hP hE (ci := 4) rfl h4) rfl rfl hl.1 rfl (lv_room (Nat.le_of_ble_eq_true rfl)) dX4_covers_9 ⟨Nat.le_of_ble_eq_true rfl, Nat.le_of_ble_eq_true rfl⟩) ?_
  refine W.eq (g2 := F0 m 12 ls [.ref (aT t9)]) rfl ?_
  refine lv_pop hx hb dX4_covers_12 rfl ?_
  refine lv_aload_n hx hb dX4_covers_13 rfl (lv_at hl 1 rfl) ?_
  refine lv_iload_n hx hb dX4_covers_14 rfl (lv_at hl 4 rfl) ?_
  refine lv_iload hx hb dX4_covers_15 (lv_at hl 5 rfl) ?_
  refine lv_iload hx hb dX4_covers_17 (lv_at hl 6 rfl) ?_
  exact zxco (vx_runV (As := [.int y, .int g, .int d]) (rest := []) ⟨hx, hb, hml, hown, hts⟩ (x_ckArt l hl0 D ca sa L f h0 ta pa aT aP aS aH n K V hR (y) (g) (d) hbad _) (cwV 3 hts gX4_covers_X4_checkArticle rfl rfl rfl (by decide +kernel) ⟨Nat.le_of_ble_eq_true rfl, Nat.le_of_ble_eq_true rfl⟩) (ztV hP hE hZ (fun _ h => h) (ci := 4) rfl h4) rfl rfl hl.1 rfl (lv_room (Nat.le_of_ble_eq_true rfl)) dX4_covers_19 ⟨Nat.le_of_ble_eq_true rfl, Nat.le_of_ble_eq_true rfl⟩) hxt hlocks

set_option maxHeartbeats 4000000 in
set_option maxRecDepth 100000 in
theorem x_ways_1 (l : Launch) (hl0 : l.stackTraces = false) (D : va_G) (ca : Nat → ClassId) (sa : Nat → Nat) (L : List Nat) (f : Nat → va_E) (h0 ta pa : Nat) (aT aP aS : Nat → Nat) (aH : Nat → Nat → Nat) (n K : Nat) (V : zV) (hR : zRep L f ca h0 ta pa aT aP aS aH n K V) (t y g d : Int32) (hbad : iT (vNt V) t = false) (sz : Nat) : vx_Met l yX4_ways wsX4_ways ({ frames := 9, cells := 1, slots := 6, locals := 405 }) (va_Pc [.ref h0, .int t, .int y, .int g, .int d] (zTp D (va_pl L f) ca sa sz)) zNo (zXX "java/lang/IndexOutOfBoundsException" sz) 1 6 (fun q => sz ≤ q) := by
  refine vx_ofW (cc := cX4_ways) (maxL := 5) (ret := (some .int)) (by decide) rfl ?_
  intro p e s m args below meth c s₁ B hml hxt hv
  obtain ⟨rfl, hsz, hP, hE, hZ⟩ := hv
  have hx := B.exec
  have hb := B.bytes
  have hr := B.returns
  have hts := atoms_spec (ws := wsX4_ways) B.pre
  have hown : s.vm.findClass RX4 = some m.cls := findClass_of_methodNamed B.named
  have hlocks := B.notSynchronized
  have hl := lv_entry ([.ref h0, .int t, .int y, .int g, .int d]) (n := 5) (Nat.le_of_ble_eq_true rfl)
  rw [lg_entry_eq]
  generalize (lg_sl ([.ref h0, .int t, .int y, .int g, .int d]) ++ List.replicate (5 - (lg_sl ([.ref h0, .int t, .int y, .int g, .int d])).length) Slot.unset).toArray = ls at hl ⊢
  have hl : lv_has ls 5 [(0, .ref h0), (1, .int t), (2, .int y), (3, .int g), (4, .int d)] := hl
  subst hsz
  obtain ⟨⟨h4, hTd, hNt, hNp, hnK, hK5⟩, ⟨gt, htA, hTi⟩, ⟨gp, hpA, hPk⟩, hinj⟩ := id hR
  have hpk : ∀ q, q < vNp V → zPack L f ca (aP q) (vP V q) (aH q 20) (aS q) (aH q) := fun q h => (hPk q h).2.1
  have hhi : ∀ q, q < vNp V → ∀ w, w ≤ 20 → zHist L f (aH q w) (vB V q w) (vL V q w) := fun q h w hw => ((hPk q h).2.2 w hw).1
  refine lv_aload_n hx hb dX4_ways_0 rfl (lv_at hl 0 rfl) ?_
  refine lv_iload_n hx hb dX4_ways_1 rfl (lv_at hl 1 rfl) ?_
  exact zxco (vx_runV (As := [.int t]) (rest := []) ⟨hx, hb, hml, hown, hts⟩ (x_exTitle l hl0 D ca sa L f h0 ta pa aT aP aS aH n K V hR (t) hbad _) (cwV 1 hts gX4_ways_X4_existingTitle rfl rfl rfl (by decide +kernel) ⟨Nat.le_of_ble_eq_true rfl, Nat.le_of_ble_eq_true rfl⟩) (ztV hP hE hZ (fun _ h => h) (ci := 4) rfl h4) rfl rfl hl.1 rfl (lv_room (Nat.le_of_ble_eq_true rfl)) dX4_ways_2 ⟨Nat.le_of_ble_eq_true rfl, Nat.le_of_ble_eq_true rfl⟩) hxt hlocks

set_option maxHeartbeats 4000000 in
set_option maxRecDepth 100000 in
theorem x_ways_2 (l : Launch) (hl0 : l.stackTraces = false) (D : va_G) (ca : Nat → ClassId) (sa : Nat → Nat) (L : List Nat) (f : Nat → va_E) (h0 ta pa : Nat) (aT aP aS : Nat → Nat) (aH : Nat → Nat → Nat) (n K : Nat) (V : zV) (hR : zRep L f ca h0 ta pa aT aP aS aH n K V) (t y g d : Int32) (hok : iT (vNt V) t = true) (hbad : (iB y (nI 0) (nI 55) && (iB g (nI 0) (nI 3) && iB d (nI 0) (nI (vTd V)))) = false) (sz : Nat) : vx_Met l yX4_ways wsX4_ways ({ frames := 9, cells := 1, slots := 6, locals := 405 }) (va_Pc [.ref h0, .int t, .int y, .int g, .int d] (zTp D (va_pl L f) ca sa sz)) zNo (zXX "java/lang/IllegalArgumentException" sz) 1 6 (fun q => sz ≤ q) := by
  refine vx_ofW (cc := cX4_ways) (maxL := 5) (ret := (some .int)) (by decide) rfl ?_
  intro p e s m args below meth c s₁ B hml hxt hv
  obtain ⟨rfl, hsz, hP, hE, hZ⟩ := hv
  have hx := B.exec
  have hb := B.bytes
  have hr := B.returns
  have hts := atoms_spec (ws := wsX4_ways) B.pre
  have hown : s.vm.findClass RX4 = some m.cls := findClass_of_methodNamed B.named
  have hlocks := B.notSynchronized
  have hl := lv_entry ([.ref h0, .int t, .int y, .int g, .int d]) (n := 5) (Nat.le_of_ble_eq_true rfl)
  rw [lg_entry_eq]
  generalize (lg_sl ([.ref h0, .int t, .int y, .int g, .int d]) ++ List.replicate (5 - (lg_sl ([.ref h0, .int t, .int y, .int g, .int d])).length) Slot.unset).toArray = ls at hl ⊢
  have hl : lv_has ls 5 [(0, .ref h0), (1, .int t), (2, .int y), (3, .int g), (4, .int d)] := hl
  subst hsz
  obtain ⟨⟨h4, hTd, hNt, hNp, hnK, hK5⟩, ⟨gt, htA, hTi⟩, ⟨gp, hpA, hPk⟩, hinj⟩ := id hR
  have hpk : ∀ q, q < vNp V → zPack L f ca (aP q) (vP V q) (aH q 20) (aS q) (aH q) := fun q h => (hPk q h).2.1
  have hhi : ∀ q, q < vNp V → ∀ w, w ≤ 20 → zHist L f (aH q w) (vB V q w) (vL V q w) := fun q h w hw => ((hPk q h).2.2 w hw).1
  refine lv_aload_n hx hb dX4_ways_0 rfl (lv_at hl 0 rfl) ?_
  refine lv_iload_n hx hb dX4_ways_1 rfl (lv_at hl 1 rfl) ?_
  have hk_2 : iT (vNt V) t = true := hok
  obtain ⟨t9, ht9, rfl⟩ := iT_n hk_2 (by omega)
  refine zcq (va_runV (As := [.int (nI t9)]) (rest := []) ⟨hx, hb, hml, hown, hts⟩ (c_exTitle l D ca sa L f h0 ta pa aT aP aS aH n K V hR t9 ht9) (cwV 1 hts gX4_ways_X4_existingTitle rfl rfl rfl (by decide +kernel) ⟨Nat.le_of_ble_eq_true rfl, Nat.le_of_ble_eq_true rfl⟩) (zpVp hP hE (ci := 4) rfl h4) rfl rfl hl.1 rfl (lv_room (Nat.le_of_ble_eq_true rfl)) dX4_ways_2 ⟨Nat.le_of_ble_eq_true rfl, Nat.le_of_ble_eq_true rfl⟩) ?_
  refine W.eq (g2 := F0 m 5 ls [.ref (aT t9)]) rfl ?_
  refine lv_pop hx hb dX4_ways_5 rfl ?_
  refine lv_aload_n hx hb dX4_ways_6 rfl (lv_at hl 0 rfl) ?_
  refine lv_iload_n hx hb dX4_ways_7 rfl (lv_at hl 2 rfl) ?_
  refine lv_iload_n hx hb dX4_ways_8 rfl (lv_at hl 3 rfl) ?_
  refine lv_iload hx hb dX4_ways_9 (lv_at hl 4 rfl) ?_
  exact zxco (vx_runV (As := [.int y, .int g, .int d]) (rest := []) ⟨hx, hb, hml, hown, hts⟩ (x_ckArt l hl0 D ca sa L f h0 ta pa aT aP aS aH n K V hR (y) (g) (d) hbad _) (cwV 3 hts gX4_ways_X4_checkArticle rfl rfl rfl (by decide +kernel) ⟨Nat.le_of_ble_eq_true rfl, Nat.le_of_ble_eq_true rfl⟩) (ztV hP hE hZ (fun _ h => h) (ci := 4) rfl h4) rfl rfl hl.1 rfl (lv_room (Nat.le_of_ble_eq_true rfl)) dX4_ways_11 ⟨Nat.le_of_ble_eq_true rfl, Nat.le_of_ble_eq_true rfl⟩) hxt hlocks

set_option maxHeartbeats 4000000 in
set_option maxRecDepth 100000 in
theorem x_wayAt_1 (l : Launch) (hl0 : l.stackTraces = false) (D : va_G) (ca : Nat → ClassId) (sa : Nat → Nat) (L : List Nat) (f : Nat → va_E) (h0 ta pa : Nat) (aT aP aS : Nat → Nat) (aH : Nat → Nat → Nat) (n K : Nat) (V : zV) (hR : zRep L f ca h0 ta pa aT aP aS aH n K V) (pl t y g d : Int32) (hbad : (iB y (nI 0) (nI 55) && (iB g (nI 0) (nI 3) && iB d (nI 0) (nI (vTd V)))) = false) (sz : Nat) : vx_Met l yX4_wayAt wsX4_wayAt ({ frames := 9, cells := 1, slots := 6, locals := 405 }) (va_Pc [.ref h0, .int pl, .int t, .int y, .int g, .int d] (zTp D (va_pl L f) ca sa sz)) zNo (zXX "java/lang/IllegalArgumentException" sz) 1 6 (fun q => sz ≤ q) := by
  refine vx_ofW (cc := cX4_wayAt) (maxL := 8) (ret := (some .int)) (by decide) rfl ?_
  intro p e s m args below meth c s₁ B hml hxt hv
  obtain ⟨rfl, hsz, hP, hE, hZ⟩ := hv
  have hx := B.exec
  have hb := B.bytes
  have hr := B.returns
  have hts := atoms_spec (ws := wsX4_wayAt) B.pre
  have hown : s.vm.findClass RX4 = some m.cls := findClass_of_methodNamed B.named
  have hlocks := B.notSynchronized
  have hl := lv_entry ([.ref h0, .int pl, .int t, .int y, .int g, .int d]) (n := 8) (Nat.le_of_ble_eq_true rfl)
  rw [lg_entry_eq]
  generalize (lg_sl ([.ref h0, .int pl, .int t, .int y, .int g, .int d]) ++ List.replicate (8 - (lg_sl ([.ref h0, .int pl, .int t, .int y, .int g, .int d])).length) Slot.unset).toArray = ls at hl ⊢
  have hl : lv_has ls 8 [(0, .ref h0), (1, .int pl), (2, .int t), (3, .int y), (4, .int g), (5, .int d)] := hl
  subst hsz
  obtain ⟨⟨h4, hTd, hNt, hNp, hnK, hK5⟩, ⟨gt, htA, hTi⟩, ⟨gp, hpA, hPk⟩, hinj⟩ := id hR
  have hpk : ∀ q, q < vNp V → zPack L f ca (aP q) (vP V q) (aH q 20) (aS q) (aH q) := fun q h => (hPk q h).2.1
  have hhi : ∀ q, q < vNp V → ∀ w, w ≤ 20 → zHist L f (aH q w) (vB V q w) (vL V q w) := fun q h w hw => ((hPk q h).2.2 w hw).1
  refine lv_aload_n hx hb dX4_wayAt_0 rfl (lv_at hl 0 rfl) ?_
  refine lv_iload_n hx hb dX4_wayAt_1 rfl (lv_at hl 3 rfl) ?_
  refine lv_iload hx hb dX4_wayAt_2 (lv_at hl 4 rfl) ?_
  refine lv_iload hx hb dX4_wayAt_4 (lv_at hl 5 rfl) ?_
  exact zxco (vx_runV (As := [.int y, .int g, .int d]) (rest := []) ⟨hx, hb, hml, hown, hts⟩ (x_ckArt l hl0 D ca sa L f h0 ta pa aT aP aS aH n K V hR (y) (g) (d) hbad _) (cwV 3 hts gX4_wayAt_X4_checkArticle rfl rfl rfl (by decide +kernel) ⟨Nat.le_of_ble_eq_true rfl, Nat.le_of_ble_eq_true rfl⟩) (ztV hP hE hZ (fun _ h => h) (ci := 4) rfl h4) rfl rfl hl.1 rfl (lv_room (Nat.le_of_ble_eq_true rfl)) dX4_wayAt_6 ⟨Nat.le_of_ble_eq_true rfl, Nat.le_of_ble_eq_true rfl⟩) hxt hlocks

set_option maxHeartbeats 4000000 in
set_option maxRecDepth 100000 in
theorem x_wayAt_2 (l : Launch) (hl0 : l.stackTraces = false) (D : va_G) (ca : Nat → ClassId) (sa : Nat → Nat) (L : List Nat) (f : Nat → va_E) (h0 ta pa : Nat) (aT aP aS : Nat → Nat) (aH : Nat → Nat → Nat) (n K : Nat) (V : zV) (hR : zRep L f ca h0 ta pa aT aP aS aH n K V) (pl t y g d : Int32) (hask : (iB y (nI 0) (nI 55) && (iB g (nI 0) (nI 3) && iB d (nI 0) (nI (vTd V)))) = true) (hbad : iT (vNt V) t = false) (sz : Nat) : vx_Met l yX4_wayAt wsX4_wayAt ({ frames := 9, cells := 1, slots := 6, locals := 405 }) (va_Pc [.ref h0, .int pl, .int t, .int y, .int g, .int d] (zTp D (va_pl L f) ca sa sz)) zNo (zXX "java/lang/IndexOutOfBoundsException" sz) 1 6 (fun q => sz ≤ q) := by
  refine vx_ofW (cc := cX4_wayAt) (maxL := 8) (ret := (some .int)) (by decide) rfl ?_
  intro p e s m args below meth c s₁ B hml hxt hv
  obtain ⟨rfl, hsz, hP, hE, hZ⟩ := hv
  have hx := B.exec
  have hb := B.bytes
  have hr := B.returns
  have hts := atoms_spec (ws := wsX4_wayAt) B.pre
  have hown : s.vm.findClass RX4 = some m.cls := findClass_of_methodNamed B.named
  have hlocks := B.notSynchronized
  have hl := lv_entry ([.ref h0, .int pl, .int t, .int y, .int g, .int d]) (n := 8) (Nat.le_of_ble_eq_true rfl)
  rw [lg_entry_eq]
  generalize (lg_sl ([.ref h0, .int pl, .int t, .int y, .int g, .int d]) ++ List.replicate (8 - (lg_sl ([.ref h0, .int pl, .int t, .int y, .int g, .int d])).length) Slot.unset).toArray = ls at hl ⊢
  have hl : lv_has ls 8 [(0, .ref h0), (1, .int pl), (2, .int t), (3, .int y), (4, .int g), (5, .int d)] := hl
  subst hsz
  obtain ⟨⟨h4, hTd, hNt, hNp, hnK, hK5⟩, ⟨gt, htA, hTi⟩, ⟨gp, hpA, hPk⟩, hinj⟩ := id hR
  have hpk : ∀ q, q < vNp V → zPack L f ca (aP q) (vP V q) (aH q 20) (aS q) (aH q) := fun q h => (hPk q h).2.1
  have hhi : ∀ q, q < vNp V → ∀ w, w ≤ 20 → zHist L f (aH q w) (vB V q w) (vL V q w) := fun q h w hw => ((hPk q h).2.2 w hw).1
  refine lv_aload_n hx hb dX4_wayAt_0 rfl (lv_at hl 0 rfl) ?_
  refine lv_iload_n hx hb dX4_wayAt_1 rfl (lv_at hl 3 rfl) ?_
  refine lv_iload hx hb dX4_wayAt_2 (lv_at hl 4 rfl) ?_
  refine lv_iload hx hb dX4_wayAt_4 (lv_at hl 5 rfl) ?_
  rw [Bool.and_eq_true, Bool.and_eq_true] at hask
  obtain ⟨y9, y9_1, y9_2, rfl⟩ := iB_n hask.1 (by omega) (by omega)
  obtain ⟨g9, g9_1, g9_2, rfl⟩ := iB_n hask.2.1 (by omega) (by omega)
  obtain ⟨d9, d9_1, d9_2, rfl⟩ := iB_n hask.2.2 (by omega) (by omega)
  refine zcv (va_runV (As := [.int (nI y9), .int (nI g9), .int (nI d9)]) (rest := []) ⟨hx, hb, hml, hown, hts⟩ (c_ckArt l D ca sa L f h0 ta pa aT aP aS aH n K V hR y9 g9 d9 y9_2 g9_2 d9_2) (cwV 3 hts gX4_wayAt_X4_checkArticle rfl rfl rfl (by decide +kernel) ⟨Nat.le_of_ble_eq_true rfl, Nat.le_of_ble_eq_true rfl⟩) (zpVp hP hE (ci := 4) rfl h4) rfl rfl hl.1 rfl (lv_room (Nat.le_of_ble_eq_true rfl)) dX4_wayAt_6 ⟨Nat.le_of_ble_eq_true rfl, Nat.le_of_ble_eq_true rfl⟩) ?_
  refine lv_aload_n hx hb dX4_wayAt_9 rfl (lv_at hl 0 rfl) ?_
  refine lv_iload_n hx hb dX4_wayAt_10 rfl (lv_at hl 2 rfl) ?_
  exact zxco (vx_runV (As := [.int t]) (rest := []) ⟨hx, hb, hml, hown, hts⟩ (x_exTitle l hl0 D ca sa L f h0 ta pa aT aP aS aH n K V hR (t) hbad _) (cwV 1 hts gX4_wayAt_X4_existingTitle rfl rfl rfl (by decide +kernel) ⟨Nat.le_of_ble_eq_true rfl, Nat.le_of_ble_eq_true rfl⟩) (ztV hP hE hZ (fun _ h => h) (ci := 4) rfl h4) rfl rfl hl.1 rfl (lv_room (Nat.le_of_ble_eq_true rfl)) dX4_wayAt_11 ⟨Nat.le_of_ble_eq_true rfl, Nat.le_of_ble_eq_true rfl⟩) hxt hlocks

set_option maxHeartbeats 4000000 in
set_option maxRecDepth 100000 in
theorem x_wayAt_3 (l : Launch) (hl0 : l.stackTraces = false) (D : va_G) (ca : Nat → ClassId) (sa : Nat → Nat) (L : List Nat) (f : Nat → va_E) (h0 ta pa : Nat) (aT aP aS : Nat → Nat) (aH : Nat → Nat → Nat) (n K : Nat) (V : zV) (hR : zRep L f ca h0 ta pa aT aP aS aH n K V) (pl : Int32) (t : Nat) (ht : t < vNt V) (y g d : Nat) (hy : y ≤ 55) (hg : g ≤ 3) (hd : d ≤ vTd V) (hno : ∀ k, k < vNp V → aM (wTo V t y g d (vNp V)) k = true → ¬ nI (cPla V (wTo V t y g d (vNp V)) k t (vNp V)) = pl) (sz : Nat) : vx_Met l yX4_wayAt wsX4_wayAt ({ frames := 9, cells := 1, slots := 6, locals := 405 }) (va_Pc [.ref h0, .int pl, .int (nI t), .int (nI y), .int (nI g), .int (nI d)] (zTp D (va_pl L f) ca sa sz)) zNo (zXX "java/lang/IndexOutOfBoundsException" sz) 1 6 (fun q => sz ≤ q) := by
  refine vx_ofW (cc := cX4_wayAt) (maxL := 8) (ret := (some .int)) (by decide) rfl ?_
  intro p e s m args below meth c s₁ B hml hxt hv
  obtain ⟨rfl, hsz, hP, hE, hZ⟩ := hv
  have hx := B.exec
  have hb := B.bytes
  have hr := B.returns
  have hts := atoms_spec (ws := wsX4_wayAt) B.pre
  have hown : s.vm.findClass RX4 = some m.cls := findClass_of_methodNamed B.named
  have hlocks := B.notSynchronized
  have hl := lv_entry ([.ref h0, .int pl, .int (nI t), .int (nI y), .int (nI g), .int (nI d)]) (n := 8) (Nat.le_of_ble_eq_true rfl)
  rw [lg_entry_eq]
  generalize (lg_sl ([.ref h0, .int pl, .int (nI t), .int (nI y), .int (nI g), .int (nI d)]) ++ List.replicate (8 - (lg_sl ([.ref h0, .int pl, .int (nI t), .int (nI y), .int (nI g), .int (nI d)])).length) Slot.unset).toArray = ls at hl ⊢
  have hl : lv_has ls 8 [(0, .ref h0), (1, .int pl), (2, .int (nI t)), (3, .int (nI y)), (4, .int (nI g)), (5, .int (nI d))] := hl
  subst hsz
  obtain ⟨⟨h4, hTd, hNt, hNp, hnK, hK5⟩, ⟨gt, htA, hTi⟩, ⟨gp, hpA, hPk⟩, hinj⟩ := id hR
  have hpk : ∀ q, q < vNp V → zPack L f ca (aP q) (vP V q) (aH q 20) (aS q) (aH q) := fun q h => (hPk q h).2.1
  have hhi : ∀ q, q < vNp V → ∀ w, w ≤ 20 → zHist L f (aH q w) (vB V q w) (vL V q w) := fun q h w hw => ((hPk q h).2.2 w hw).1
  have loop : ∀ (n9 k : Nat) (ls : Array Slot), k ≤ vNp V → vNp V < k + n9 → lv_has ls 8 [(7, .int (nI k)), (6, .int (wTo V t y g d (vNp V))), (0, .ref h0), (1, .int pl), (2, .int (nI t)), (3, .int (nI y)), (4, .int (nI g)), (5, .int (nI d))] → W p l e (headSpec wsX4_wayAt ({ frames := 9, cells := 1, slots := 6, locals := 405 })).room s m ([.ref h0, .int pl, .int (nI t), .int (nI y), .int (nI g), .int (nI d)] : List Value).toArray below meth c s.heap [] 0 0 (vx_MQ below zNo (zXX "java/lang/IndexOutOfBoundsException" s.heap.size) ([.ref h0, .int pl, .int (nI t), .int (nI y), .int (nI g), .int (nI d)] : List Value).toArray s 1 6 (fun q => s.heap.size ≤ q)) (F0 m 30 ls []) := by
    intro n9
    induction n9 with
    | zero =>
      intro k ls hk hfu hl
      exact absurd hfu (by omega)
    | succ n9 ih =>
      intro k ls hk hfu hl
      refine lv_iload hx hb dX4_wayAt_30 (lv_at hl 0 rfl) ?_
      refine lv_aload_n hx hb dX4_wayAt_32 rfl (lv_at hl 2 rfl) ?_
      refine zget (own := RX4) (ci := 4) (C := RX4) (T := TX4) (N := 6) hx hb hts (by decide +kernel) hown hE hP h4 rfl 3 (by decide) (hts (.fieldLink RX4 25 "LinkResolver" "packCount" "I") (by decide +kernel)) rfl dX4_wayAt_33 ?_
      refine lv_icmp_ge (tgt := 71) hx hb dX4_wayAt_36 (by decide) (fun c_36 => ?_) (fun c_36 => ?_)
      · exact vx_throwS (A := fun q => s.heap.size ≤ q) (cls := "java/lang/IndexOutOfBoundsException") (names := ["java/lang/RuntimeException", "java/lang/Exception"]) hx hb hl0 hown (by decide +kernel) (by decide +kernel) (hts (.classLink RX4 123 "java/lang/IndexOutOfBoundsException") (by decide +kernel)) (hts (.initialized "java/lang/IndexOutOfBoundsException") (by decide +kernel)) hE.2.2.2.1 (vx_hat (B := [.castable "java/lang/IndexOutOfBoundsException" "java/lang/IndexOutOfBoundsException", .declares (Bundle.initS "java/lang/RuntimeException"), .declares (Bundle.initS "java/lang/Exception"), .declares (Bundle.initS Bundle.tN)]) (fun w h => hts w (List.mem_cons_of_mem _ (List.mem_append_left _ (List.mem_append_left _ (List.mem_append_right _ h))))) (by decide +kernel) (vx_c (va_Nw.use rfl hE.2.2.1.1.2.2) (vx_c (va_Nw.use rfl hE.2.2.1.2.1) (vx_c (va_Nw.use rfl hE.2.2.1.2.2.1) (vx_c (va_Nw.use rfl hE.2.2.1.2.2.2) vx_n))))) (by decide +kernel) hZ.1 hZ.2 va_S.rf (hl.1.trans hml.symm) dX4_wayAt_71 dX4_wayAt_74 dX4_wayAt_75 dX4_wayAt_77 dX4_wayAt_80 (fun x h => (hxt x h).elim) (Nat.le_of_ble_eq_true rfl) (Nat.le_of_ble_eq_true rfl) (Nat.le_of_ble_eq_true rfl) (Nat.le_of_ble_eq_true rfl) hlocks (fun t _ h1 h2 => ⟨(), trivial, rfl, h1, fun q h _ => h2 q h⟩) (fun z h => nomatch h) (Nat.le_refl _) (Nat.le_refl _)
      · have hk2 : k < vNp V := Nat.lt_of_not_le (fun q9 => c_36 ((nI_leI (by omega) (by omega)).mpr q9))
        refine lv_iload hx hb dX4_wayAt_39 (lv_at hl 1 rfl) ?_
        refine lv_iload hx hb dX4_wayAt_41 (lv_at hl 0 rfl) ?_
        refine zci (va_runS (As := [.int (wTo V t y g d (vNp V)), .int (nI k)]) (rest := []) ⟨hx, hb, hml, hown, hts⟩ (c_isAmong l D ca sa _ (wTo V t y g d (vNp V)) k) (va_cwS 2 hts gX4_wayAt_X4_isAmong rfl rfl rfl (by decide +kernel) ⟨Nat.le_of_ble_eq_true rfl, Nat.le_of_ble_eq_true rfl⟩) (zpS hP hE) rfl rfl hl.1 rfl (lv_room (Nat.le_of_ble_eq_true rfl)) dX4_wayAt_43 ⟨Nat.le_of_ble_eq_true rfl, Nat.le_of_ble_eq_true rfl⟩) ?_
        refine lv_if_eq (tgt := 65) hx hb dX4_wayAt_46 (by decide) (fun c_46 => ?_) (fun c_46 => ?_)
        · have e_46 := bI_eq0 c_46
          refine lv_iinc (v := nI (k + 1)) (lv' := [(7, .int (nI (k + 1))), (6, .int (wTo V t y g d (vNp V))), (0, .ref h0), (1, .int pl), (2, .int (nI t)), (3, .int (nI y)), (4, .int (nI g)), (5, .int (nI d))]) hx hb dX4_wayAt_65 hl (k := 0) rfl (zinc1 _) (by decide) rfl (fun ls hl => ?_)
          refine lv_goto (tgt := 30) hx hb dX4_wayAt_68 (by decide) ?_
          exact ih (k + 1) ls (by omega) (by omega) (lv_sub hl [0, 1, 2, 3, 4, 5, 6, 7] rfl)
        · have e_46 := bI_ne0 c_46
          refine lv_aload_n hx hb dX4_wayAt_49 rfl (lv_at hl 2 rfl) ?_
          refine lv_iload hx hb dX4_wayAt_50 (lv_at hl 1 rfl) ?_
          refine lv_iload hx hb dX4_wayAt_52 (lv_at hl 0 rfl) ?_
          refine lv_iload_n hx hb dX4_wayAt_54 rfl (lv_at hl 4 rfl) ?_
          refine zci (va_runV (As := [.int (wTo V t y g d (vNp V)), .int (nI k), .int (nI t)]) (rest := []) ⟨hx, hb, hml, hown, hts⟩ (c_placeAmong l D ca sa L f h0 ta pa aT aP aS aH n K V hR (wTo V t y g d (vNp V)) k hk2 t ht) (cwV 3 hts gX4_wayAt_X4_placeAmong rfl rfl rfl (by decide +kernel) ⟨Nat.le_of_ble_eq_true rfl, Nat.le_of_ble_eq_true rfl⟩) (zpVp hP hE (ci := 4) rfl h4) rfl rfl hl.1 rfl (lv_room (Nat.le_of_ble_eq_true rfl)) dX4_wayAt_55 ⟨Nat.le_of_ble_eq_true rfl, Nat.le_of_ble_eq_true rfl⟩) ?_
          refine lv_iload_n hx hb dX4_wayAt_58 rfl (lv_at hl 3 rfl) ?_
          refine lv_icmp_ne (tgt := 65) hx hb dX4_wayAt_59 (by decide) (fun c_59 => ?_) (fun c_59 => ?_)
          · refine lv_iinc (v := nI (k + 1)) (lv' := [(7, .int (nI (k + 1))), (6, .int (wTo V t y g d (vNp V))), (0, .ref h0), (1, .int pl), (2, .int (nI t)), (3, .int (nI y)), (4, .int (nI g)), (5, .int (nI d))]) hx hb dX4_wayAt_65 hl (k := 0) rfl (zinc1 _) (by decide) rfl (fun ls hl => ?_)
            refine lv_goto (tgt := 30) hx hb dX4_wayAt_68 (by decide) ?_
            exact ih (k + 1) ls (by omega) (by omega) (lv_sub hl [0, 1, 2, 3, 4, 5, 6, 7] rfl)
          · exact absurd c_59 (hno k hk2 e_46)
  refine lv_aload_n hx hb dX4_wayAt_0 rfl (lv_at hl 0 rfl) ?_
  refine lv_iload_n hx hb dX4_wayAt_1 rfl (lv_at hl 3 rfl) ?_
  refine lv_iload hx hb dX4_wayAt_2 (lv_at hl 4 rfl) ?_
  refine lv_iload hx hb dX4_wayAt_4 (lv_at hl 5 rfl) ?_
  refine zcv (va_runV (As := [.int (nI y), .int (nI g), .int (nI d)]) (rest := []) ⟨hx, hb, hml, hown, hts⟩ (c_ckArt l D ca sa L f h0 ta pa aT aP aS aH n K V hR y g d hy hg hd) (cwV 3 hts gX4_wayAt_X4_checkArticle rfl rfl rfl (by decide +kernel) ⟨Nat.le_of_ble_eq_true rfl, Nat.le_of_ble_eq_true rfl⟩) (zpVp hP hE (ci := 4) rfl h4) rfl rfl hl.1 rfl (lv_room (Nat.le_of_ble_eq_true rfl)) dX4_wayAt_6 ⟨Nat.le_of_ble_eq_true rfl, Nat.le_of_ble_eq_true rfl⟩) ?_
  refine lv_aload_n hx hb dX4_wayAt_9 rfl (lv_at hl 0 rfl) ?_
  refine lv_iload_n hx hb dX4_wayAt_10 rfl (lv_at hl 2 rfl) ?_
  refine zcq (va_runV (As := [.int (nI t)]) (rest := []) ⟨hx, hb, hml, hown, hts⟩ (c_exTitle l D ca sa L f h0 ta pa aT aP aS aH n K V hR t ht) (cwV 1 hts gX4_wayAt_X4_existingTitle rfl rfl rfl (by decide +kernel) ⟨Nat.le_of_ble_eq_true rfl, Nat.le_of_ble_eq_true rfl⟩) (zpVp hP hE (ci := 4) rfl h4) rfl rfl hl.1 rfl (lv_room (Nat.le_of_ble_eq_true rfl)) dX4_wayAt_11 ⟨Nat.le_of_ble_eq_true rfl, Nat.le_of_ble_eq_true rfl⟩) ?_
  refine W.eq (g2 := F0 m 14 ls [.ref (aT t)]) rfl ?_
  refine lv_pop hx hb dX4_wayAt_14 rfl ?_
  refine lv_aload_n hx hb dX4_wayAt_15 rfl (lv_at hl 0 rfl) ?_
  refine lv_iload_n hx hb dX4_wayAt_16 rfl (lv_at hl 2 rfl) ?_
  refine lv_iload_n hx hb dX4_wayAt_17 rfl (lv_at hl 3 rfl) ?_
  refine lv_iload hx hb dX4_wayAt_18 (lv_at hl 4 rfl) ?_
  refine lv_iload hx hb dX4_wayAt_20 (lv_at hl 5 rfl) ?_
  refine zci (va_runV (As := [.int (nI t), .int (nI y), .int (nI g), .int (nI d)]) (rest := []) ⟨hx, hb, hml, hown, hts⟩ (c_waysTo l D ca sa L f h0 ta pa aT aP aS aH n K V hR t ht y g d hy hg (by omega)) (cwV 4 hts gX4_wayAt_X4_waysTo rfl rfl rfl (by decide +kernel) ⟨Nat.le_of_ble_eq_true rfl, Nat.le_of_ble_eq_true rfl⟩) (zpVp hP hE (ci := 4) rfl h4) rfl rfl hl.1 rfl (lv_room (Nat.le_of_ble_eq_true rfl)) dX4_wayAt_22 ⟨Nat.le_of_ble_eq_true rfl, Nat.le_of_ble_eq_true rfl⟩) ?_
  refine lv_istore (lv' := [(6, .int (wTo V t y g d (vNp V))), (0, .ref h0), (1, .int pl), (2, .int (nI t)), (3, .int (nI y)), (4, .int (nI g)), (5, .int (nI d))]) hx hb dX4_wayAt_25 hl (by decide) rfl (fun ls hl => ?_)
  refine lv_iconst (v := nI 0) hx hb dX4_wayAt_27 (by decide) ?_
  refine lv_istore (lv' := [(7, .int (nI 0)), (6, .int (wTo V t y g d (vNp V))), (0, .ref h0), (1, .int pl), (2, .int (nI t)), (3, .int (nI y)), (4, .int (nI g)), (5, .int (nI d))]) hx hb dX4_wayAt_28 hl (by decide) rfl (fun ls hl => ?_)
  exact loop (vNp V + 1) 0 ls (Nat.zero_le _) (by omega) (lv_sub hl [0, 1, 2, 3, 4, 5, 6, 7] rfl)

set_option maxHeartbeats 4000000 in
set_option maxRecDepth 100000 in
theorem x_gap_1 (l : Launch) (hl0 : l.stackTraces = false) (D : va_G) (ca : Nat → ClassId) (sa : Nat → Nat) (L : List Nat) (f : Nat → va_E) (h0 ta pa : Nat) (aT aP aS : Nat → Nat) (aH : Nat → Nat → Nat) (n K : Nat) (V : zV) (hR : zRep L f ca h0 ta pa aT aP aS aH n K V) (t g : Int32) (hbad : iT (vNt V) t = false) (sz : Nat) : vx_Met l yX4_gap wsX4_gap ({ frames := 9, cells := 1, slots := 6, locals := 405 }) (va_Pc [.ref h0, .int t, .int g] (zTp D (va_pl L f) ca sa sz)) zNo (zXX "java/lang/IndexOutOfBoundsException" sz) 1 6 (fun q => sz ≤ q) := by
  refine vx_ofW (cc := cX4_gap) (maxL := 7) (ret := (some .int)) (by decide) rfl ?_
  intro p e s m args below meth c s₁ B hml hxt hv
  obtain ⟨rfl, hsz, hP, hE, hZ⟩ := hv
  have hx := B.exec
  have hb := B.bytes
  have hr := B.returns
  have hts := atoms_spec (ws := wsX4_gap) B.pre
  have hown : s.vm.findClass RX4 = some m.cls := findClass_of_methodNamed B.named
  have hlocks := B.notSynchronized
  have hl := lv_entry ([.ref h0, .int t, .int g]) (n := 7) (Nat.le_of_ble_eq_true rfl)
  rw [lg_entry_eq]
  generalize (lg_sl ([.ref h0, .int t, .int g]) ++ List.replicate (7 - (lg_sl ([.ref h0, .int t, .int g])).length) Slot.unset).toArray = ls at hl ⊢
  have hl : lv_has ls 7 [(0, .ref h0), (1, .int t), (2, .int g)] := hl
  subst hsz
  obtain ⟨⟨h4, hTd, hNt, hNp, hnK, hK5⟩, ⟨gt, htA, hTi⟩, ⟨gp, hpA, hPk⟩, hinj⟩ := id hR
  have hpk : ∀ q, q < vNp V → zPack L f ca (aP q) (vP V q) (aH q 20) (aS q) (aH q) := fun q h => (hPk q h).2.1
  have hhi : ∀ q, q < vNp V → ∀ w, w ≤ 20 → zHist L f (aH q w) (vB V q w) (vL V q w) := fun q h w hw => ((hPk q h).2.2 w hw).1
  refine lv_aload_n hx hb dX4_gap_0 rfl (lv_at hl 0 rfl) ?_
  refine lv_iload_n hx hb dX4_gap_1 rfl (lv_at hl 1 rfl) ?_
  exact zxco (vx_runV (As := [.int t]) (rest := []) ⟨hx, hb, hml, hown, hts⟩ (x_exTitle l hl0 D ca sa L f h0 ta pa aT aP aS aH n K V hR (t) hbad _) (cwV 1 hts gX4_gap_X4_existingTitle rfl rfl rfl (by decide +kernel) ⟨Nat.le_of_ble_eq_true rfl, Nat.le_of_ble_eq_true rfl⟩) (ztV hP hE hZ (fun _ h => h) (ci := 4) rfl h4) rfl rfl hl.1 rfl (lv_room (Nat.le_of_ble_eq_true rfl)) dX4_gap_2 ⟨Nat.le_of_ble_eq_true rfl, Nat.le_of_ble_eq_true rfl⟩) hxt hlocks

set_option maxHeartbeats 4000000 in
set_option maxRecDepth 100000 in
theorem x_gap_2 (l : Launch) (hl0 : l.stackTraces = false) (D : va_G) (ca : Nat → ClassId) (sa : Nat → Nat) (L : List Nat) (f : Nat → va_E) (h0 ta pa : Nat) (aT aP aS : Nat → Nat) (aH : Nat → Nat → Nat) (n K : Nat) (V : zV) (hR : zRep L f ca h0 ta pa aT aP aS aH n K V) (t g : Int32) (hok : iT (vNt V) t = true) (hbad : iB g (nI 0) (nI 3) = false) (sz : Nat) : vx_Met l yX4_gap wsX4_gap ({ frames := 9, cells := 1, slots := 6, locals := 405 }) (va_Pc [.ref h0, .int t, .int g] (zTp D (va_pl L f) ca sa sz)) zNo (zXX "java/lang/IllegalArgumentException" sz) 1 6 (fun q => sz ≤ q) := by
  refine vx_ofW (cc := cX4_gap) (maxL := 7) (ret := (some .int)) (by decide) rfl ?_
  intro p e s m args below meth c s₁ B hml hxt hv
  obtain ⟨rfl, hsz, hP, hE, hZ⟩ := hv
  have hx := B.exec
  have hb := B.bytes
  have hr := B.returns
  have hts := atoms_spec (ws := wsX4_gap) B.pre
  have hown : s.vm.findClass RX4 = some m.cls := findClass_of_methodNamed B.named
  have hlocks := B.notSynchronized
  have hl := lv_entry ([.ref h0, .int t, .int g]) (n := 7) (Nat.le_of_ble_eq_true rfl)
  rw [lg_entry_eq]
  generalize (lg_sl ([.ref h0, .int t, .int g]) ++ List.replicate (7 - (lg_sl ([.ref h0, .int t, .int g])).length) Slot.unset).toArray = ls at hl ⊢
  have hl : lv_has ls 7 [(0, .ref h0), (1, .int t), (2, .int g)] := hl
  subst hsz
  obtain ⟨⟨h4, hTd, hNt, hNp, hnK, hK5⟩, ⟨gt, htA, hTi⟩, ⟨gp, hpA, hPk⟩, hinj⟩ := id hR
  have hpk : ∀ q, q < vNp V → zPack L f ca (aP q) (vP V q) (aH q 20) (aS q) (aH q) := fun q h => (hPk q h).2.1
  have hhi : ∀ q, q < vNp V → ∀ w, w ≤ 20 → zHist L f (aH q w) (vB V q w) (vL V q w) := fun q h w hw => ((hPk q h).2.2 w hw).1
  refine lv_aload_n hx hb dX4_gap_0 rfl (lv_at hl 0 rfl) ?_
  refine lv_iload_n hx hb dX4_gap_1 rfl (lv_at hl 1 rfl) ?_
  have hk_2 : iT (vNt V) t = true := hok
  obtain ⟨t9, ht9, rfl⟩ := iT_n hk_2 (by omega)
  refine zcq (va_runV (As := [.int (nI t9)]) (rest := []) ⟨hx, hb, hml, hown, hts⟩ (c_exTitle l D ca sa L f h0 ta pa aT aP aS aH n K V hR t9 ht9) (cwV 1 hts gX4_gap_X4_existingTitle rfl rfl rfl (by decide +kernel) ⟨Nat.le_of_ble_eq_true rfl, Nat.le_of_ble_eq_true rfl⟩) (zpVp hP hE (ci := 4) rfl h4) rfl rfl hl.1 rfl (lv_room (Nat.le_of_ble_eq_true rfl)) dX4_gap_2 ⟨Nat.le_of_ble_eq_true rfl, Nat.le_of_ble_eq_true rfl⟩) ?_
  refine W.eq (g2 := F0 m 5 ls [.ref (aT t9)]) rfl ?_
  refine lv_astore_n (lv' := [(3, .ref (aT t9)), (0, .ref h0), (1, .int (nI t9)), (2, .int g)]) hx hb dX4_gap_5 rfl hl (by decide) rfl (fun ls hl => ?_)
  refine lv_iload_n hx hb dX4_gap_6 rfl (lv_at hl 3 rfl) ?_
  refine lv_iconst (v := nI 0) hx hb dX4_gap_7 (by decide) ?_
  refine lv_iconst (v := nI 3) hx hb dX4_gap_8 (by decide) ?_
  exact zxco (vx_runS (As := [.int g, .int (nI 0), .int (nI 3)]) (rest := []) ⟨hx, hb, hml, hown, hts⟩ (x_ckRange l hl0 D ca sa _ (g) ((nI 0)) ((nI 3)) hbad _) (va_cwS 3 hts gX4_gap_X4_checkRange rfl rfl rfl (by decide +kernel) ⟨Nat.le_of_ble_eq_true rfl, Nat.le_of_ble_eq_true rfl⟩) (ztS hP hE hZ (fun _ h => h)) rfl rfl hl.1 rfl (lv_room (Nat.le_of_ble_eq_true rfl)) dX4_gap_9 ⟨Nat.le_of_ble_eq_true rfl, Nat.le_of_ble_eq_true rfl⟩) hxt hlocks

set_option maxHeartbeats 4000000 in
set_option maxRecDepth 100000 in
theorem x_doubles_1 (l : Launch) (hl0 : l.stackTraces = false) (D : va_G) (ca : Nat → ClassId) (sa : Nat → Nat) (L : List Nat) (f : Nat → va_E) (h0 ta pa : Nat) (aT aP aS : Nat → Nat) (aH : Nat → Nat → Nat) (n K : Nat) (V : zV) (hR : zRep L f ca h0 ta pa aT aP aS aH n K V) (t g : Int32) (hbad : iT (vNt V) t = false) (sz : Nat) : vx_Met l yX4_doubles wsX4_doubles ({ frames := 9, cells := 1, slots := 6, locals := 405 }) (va_Pc [.ref h0, .int t, .int g] (zTp D (va_pl L f) ca sa sz)) zNo (zXX "java/lang/IndexOutOfBoundsException" sz) 1 6 (fun q => sz ≤ q) := by
  refine vx_ofW (cc := cX4_doubles) (maxL := 12) (ret := (some .int)) (by decide) rfl ?_
  intro p e s m args below meth c s₁ B hml hxt hv
  obtain ⟨rfl, hsz, hP, hE, hZ⟩ := hv
  have hx := B.exec
  have hb := B.bytes
  have hr := B.returns
  have hts := atoms_spec (ws := wsX4_doubles) B.pre
  have hown : s.vm.findClass RX4 = some m.cls := findClass_of_methodNamed B.named
  have hlocks := B.notSynchronized
  have hl := lv_entry ([.ref h0, .int t, .int g]) (n := 12) (Nat.le_of_ble_eq_true rfl)
  rw [lg_entry_eq]
  generalize (lg_sl ([.ref h0, .int t, .int g]) ++ List.replicate (12 - (lg_sl ([.ref h0, .int t, .int g])).length) Slot.unset).toArray = ls at hl ⊢
  have hl : lv_has ls 12 [(0, .ref h0), (1, .int t), (2, .int g)] := hl
  subst hsz
  obtain ⟨⟨h4, hTd, hNt, hNp, hnK, hK5⟩, ⟨gt, htA, hTi⟩, ⟨gp, hpA, hPk⟩, hinj⟩ := id hR
  have hpk : ∀ q, q < vNp V → zPack L f ca (aP q) (vP V q) (aH q 20) (aS q) (aH q) := fun q h => (hPk q h).2.1
  have hhi : ∀ q, q < vNp V → ∀ w, w ≤ 20 → zHist L f (aH q w) (vB V q w) (vL V q w) := fun q h w hw => ((hPk q h).2.2 w hw).1
  refine lv_aload_n hx hb dX4_doubles_0 rfl (lv_at hl 0 rfl) ?_
  refine lv_iload_n hx hb dX4_doubles_1 rfl (lv_at hl 1 rfl) ?_
  exact zxco (vx_runV (As := [.int t]) (rest := []) ⟨hx, hb, hml, hown, hts⟩ (x_exTitle l hl0 D ca sa L f h0 ta pa aT aP aS aH n K V hR (t) hbad _) (cwV 1 hts gX4_doubles_X4_existingTitle rfl rfl rfl (by decide +kernel) ⟨Nat.le_of_ble_eq_true rfl, Nat.le_of_ble_eq_true rfl⟩) (ztV hP hE hZ (fun _ h => h) (ci := 4) rfl h4) rfl rfl hl.1 rfl (lv_room (Nat.le_of_ble_eq_true rfl)) dX4_doubles_2 ⟨Nat.le_of_ble_eq_true rfl, Nat.le_of_ble_eq_true rfl⟩) hxt hlocks

set_option maxHeartbeats 4000000 in
set_option maxRecDepth 100000 in
theorem x_doubles_2 (l : Launch) (hl0 : l.stackTraces = false) (D : va_G) (ca : Nat → ClassId) (sa : Nat → Nat) (L : List Nat) (f : Nat → va_E) (h0 ta pa : Nat) (aT aP aS : Nat → Nat) (aH : Nat → Nat → Nat) (n K : Nat) (V : zV) (hR : zRep L f ca h0 ta pa aT aP aS aH n K V) (t g : Int32) (hok : iT (vNt V) t = true) (hbad : iB g (nI 0) (nI 3) = false) (sz : Nat) : vx_Met l yX4_doubles wsX4_doubles ({ frames := 9, cells := 1, slots := 6, locals := 405 }) (va_Pc [.ref h0, .int t, .int g] (zTp D (va_pl L f) ca sa sz)) zNo (zXX "java/lang/IllegalArgumentException" sz) 1 6 (fun q => sz ≤ q) := by
  refine vx_ofW (cc := cX4_doubles) (maxL := 12) (ret := (some .int)) (by decide) rfl ?_
  intro p e s m args below meth c s₁ B hml hxt hv
  obtain ⟨rfl, hsz, hP, hE, hZ⟩ := hv
  have hx := B.exec
  have hb := B.bytes
  have hr := B.returns
  have hts := atoms_spec (ws := wsX4_doubles) B.pre
  have hown : s.vm.findClass RX4 = some m.cls := findClass_of_methodNamed B.named
  have hlocks := B.notSynchronized
  have hl := lv_entry ([.ref h0, .int t, .int g]) (n := 12) (Nat.le_of_ble_eq_true rfl)
  rw [lg_entry_eq]
  generalize (lg_sl ([.ref h0, .int t, .int g]) ++ List.replicate (12 - (lg_sl ([.ref h0, .int t, .int g])).length) Slot.unset).toArray = ls at hl ⊢
  have hl : lv_has ls 12 [(0, .ref h0), (1, .int t), (2, .int g)] := hl
  subst hsz
  obtain ⟨⟨h4, hTd, hNt, hNp, hnK, hK5⟩, ⟨gt, htA, hTi⟩, ⟨gp, hpA, hPk⟩, hinj⟩ := id hR
  have hpk : ∀ q, q < vNp V → zPack L f ca (aP q) (vP V q) (aH q 20) (aS q) (aH q) := fun q h => (hPk q h).2.1
  have hhi : ∀ q, q < vNp V → ∀ w, w ≤ 20 → zHist L f (aH q w) (vB V q w) (vL V q w) := fun q h w hw => ((hPk q h).2.2 w hw).1
  refine lv_aload_n hx hb dX4_doubles_0 rfl (lv_at hl 0 rfl) ?_
  refine lv_iload_n hx hb dX4_doubles_1 rfl (lv_at hl 1 rfl) ?_
  have hk_2 : iT (vNt V) t = true := hok
  obtain ⟨t9, ht9, rfl⟩ := iT_n hk_2 (by omega)
  refine zcq (va_runV (As := [.int (nI t9)]) (rest := []) ⟨hx, hb, hml, hown, hts⟩ (c_exTitle l D ca sa L f h0 ta pa aT aP aS aH n K V hR t9 ht9) (cwV 1 hts gX4_doubles_X4_existingTitle rfl rfl rfl (by decide +kernel) ⟨Nat.le_of_ble_eq_true rfl, Nat.le_of_ble_eq_true rfl⟩) (zpVp hP hE (ci := 4) rfl h4) rfl rfl hl.1 rfl (lv_room (Nat.le_of_ble_eq_true rfl)) dX4_doubles_2 ⟨Nat.le_of_ble_eq_true rfl, Nat.le_of_ble_eq_true rfl⟩) ?_
  refine W.eq (g2 := F0 m 5 ls [.ref (aT t9)]) rfl ?_
  refine lv_astore_n (lv' := [(3, .ref (aT t9)), (0, .ref h0), (1, .int (nI t9)), (2, .int g)]) hx hb dX4_doubles_5 rfl hl (by decide) rfl (fun ls hl => ?_)
  refine lv_iload_n hx hb dX4_doubles_6 rfl (lv_at hl 3 rfl) ?_
  refine lv_iconst (v := nI 0) hx hb dX4_doubles_7 (by decide) ?_
  refine lv_iconst (v := nI 3) hx hb dX4_doubles_8 (by decide) ?_
  exact zxco (vx_runS (As := [.int g, .int (nI 0), .int (nI 3)]) (rest := []) ⟨hx, hb, hml, hown, hts⟩ (x_ckRange l hl0 D ca sa _ (g) ((nI 0)) ((nI 3)) hbad _) (va_cwS 3 hts gX4_doubles_X4_checkRange rfl rfl rfl (by decide +kernel) ⟨Nat.le_of_ble_eq_true rfl, Nat.le_of_ble_eq_true rfl⟩) (ztS hP hE hZ (fun _ h => h)) rfl rfl hl.1 rfl (lv_room (Nat.le_of_ble_eq_true rfl)) dX4_doubles_9 ⟨Nat.le_of_ble_eq_true rfl, Nat.le_of_ble_eq_true rfl⟩) hxt hlocks

set_option maxHeartbeats 4000000 in
set_option maxRecDepth 100000 in
theorem x_isNeedless_1 (l : Launch) (hl0 : l.stackTraces = false) (D : va_G) (ca : Nat → ClassId) (sa : Nat → Nat) (L : List Nat) (f : Nat → va_E) (h0 ta pa : Nat) (aT aP aS : Nat → Nat) (aH : Nat → Nat → Nat) (n K : Nat) (V : zV) (hR : zRep L f ca h0 ta pa aT aP aS aH n K V) (q : Int32) (hbad : iT (vNp V) q = false) (sz : Nat) : vx_Met l yX4_isNeedless wsX4_isNeedless ({ frames := 9, cells := 1, slots := 6, locals := 405 }) (va_Pc [.ref h0, .int q] (zTp D (va_pl L f) ca sa sz)) zNo (zXX "java/lang/IndexOutOfBoundsException" sz) 1 6 (fun q => sz ≤ q) := by
  refine vx_ofW (cc := cX4_isNeedless) (maxL := 3) (ret := (some .boolean)) (by decide) rfl ?_
  intro p e s m args below meth c s₁ B hml hxt hv
  obtain ⟨rfl, hsz, hP, hE, hZ⟩ := hv
  have hx := B.exec
  have hb := B.bytes
  have hr := B.returns
  have hts := atoms_spec (ws := wsX4_isNeedless) B.pre
  have hown : s.vm.findClass RX4 = some m.cls := findClass_of_methodNamed B.named
  have hlocks := B.notSynchronized
  have hl := lv_entry ([.ref h0, .int q]) (n := 3) (Nat.le_of_ble_eq_true rfl)
  rw [lg_entry_eq]
  generalize (lg_sl ([.ref h0, .int q]) ++ List.replicate (3 - (lg_sl ([.ref h0, .int q])).length) Slot.unset).toArray = ls at hl ⊢
  have hl : lv_has ls 3 [(0, .ref h0), (1, .int q)] := hl
  subst hsz
  obtain ⟨⟨h4, hTd, hNt, hNp, hnK, hK5⟩, ⟨gt, htA, hTi⟩, ⟨gp, hpA, hPk⟩, hinj⟩ := id hR
  have hpk : ∀ q, q < vNp V → zPack L f ca (aP q) (vP V q) (aH q 20) (aS q) (aH q) := fun q h => (hPk q h).2.1
  have hhi : ∀ q, q < vNp V → ∀ w, w ≤ 20 → zHist L f (aH q w) (vB V q w) (vL V q w) := fun q h w hw => ((hPk q h).2.2 w hw).1
  refine lv_aload_n hx hb dX4_isNeedless_0 rfl (lv_at hl 0 rfl) ?_
  refine lv_iload_n hx hb dX4_isNeedless_1 rfl (lv_at hl 1 rfl) ?_
  exact zxco (vx_runV (As := [.int q]) (rest := []) ⟨hx, hb, hml, hown, hts⟩ (x_exPack l hl0 D ca sa L f h0 ta pa aT aP aS aH n K V hR (q) hbad _) (cwV 1 hts gX4_isNeedless_X4_existingPack rfl rfl rfl (by decide +kernel) ⟨Nat.le_of_ble_eq_true rfl, Nat.le_of_ble_eq_true rfl⟩) (ztV hP hE hZ (fun _ h => h) (ci := 4) rfl h4) rfl rfl hl.1 rfl (lv_room (Nat.le_of_ble_eq_true rfl)) dX4_isNeedless_2 ⟨Nat.le_of_ble_eq_true rfl, Nat.le_of_ble_eq_true rfl⟩) hxt hlocks
