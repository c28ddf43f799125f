/-! the reference's constructor -/
section ZK
variable {p : Program} {l : Launch} {e : Env} {R : Room} {s : State} {m : MethodId} {args : Array Value} {below : List Frame} {meth : Method} {c : Code} {H : Heap} {locs : List Loc} {cells slots : Nat} {Q : State → Prop}
variable {cc : ByteArray} {pc : Nat} {ls : Array Slot} {rest st0 : List Value} {A : Nat → Prop} {H0 : Heap} {D : va_G} {L : List Nat} {f : Nat → va_E} {ca : Nat → ClassId} {sa : Nat → Nat}
/-- a new row of numbers, put into the new object -/
theorem zmk (hexec : p.tables.exec = Jvm.exec) (hb : c.code = cc) {Ts : List Cond} (hts : ∀ w ∈ Ts, w.before args s = true) (hin : ∀ w ∈ u_ws RX5 TX5 18, w ∈ Ts) (hown : s.vm.findClass RX5 = some m.cls) (hE : zE D ca sa s) (hP : va_P D vwCl (va_pl L f) H) (hD : va_D A (va_pl L f)) (hS : va_S A H0 H locs) (hA : ∀ q, H0.size ≤ q → A q)
    {a : Nat} {fs : List Value} (hat : zat L f a (.inr (5, fs))) {atype : ArrayType} (harr : (Cond.arrayClass (newarray.typeOf atype)).before args s = true) {ty : FieldType} (hty : newarray.typeOf atype = ty) (hra : ∀ cA, va_RA s cA ty → s.vm.findClass ("[" ++ ty.toString) = some cA) (hdef : defaultValue ty = .int 0) (hcb : componentBytes ty ≤ 4) (t0 : Nat) {cA0 : ClassId} (ht : (zty ca)[t0]? = some (cA0, ty))
    {n : Nat} (hn : n ≤ 5000) (hcells : cells + 1 ≤ R.cells) (hslots : slots + n ≤ R.slots) (hdg : decode cc pc = .ok (.newarray atype, 2))
    (k : Nat) (hk : k < 18) {index : Nat} (hlink : (Cond.fieldLink RX5 index (TX5 k).1 (TX5 k).2.1 (TX5 k).2.2.1).before args s = true) (hfin : (TX5 k).2.2.2 = true) (hin2 : meth.name = "<init>") (hdecl : (TX5 k).1 = RX5) {ty2 : FieldType} (hd : parseFieldDescriptor (TX5 k).2.2.1 = some ty2) (hnn : ∀ q : Nat, narrow ty2 (.ref q) = .ref q) (hfit : ∀ q : Nat, fits ty2 (.ref q) = true) (hl : k < fs.length)
    (hdg2 : decode cc (pc + 2) = .ok (.putfield index, 3))
    (kk : ∀ (q : Nat) (H1 : Heap) (locs1 : List Loc) (f1 : Nat → va_E), va_P D vwCl (va_pl (L ++ [q]) f1) H1 → va_D A (va_pl (L ++ [q]) f1) → va_S A H0 H1 locs1 → zat (L ++ [q]) f1 a (.inr (5, fs.set k (.ref q))) → zat (L ++ [q]) f1 q (.inl (cA0, n, .inl (fun _ => 0))) → (∀ x e, zat L f x e → zkd e ≠ 5 → zat (L ++ [q]) f1 x e) →
      W p l e R s m args below meth c H1 locs1 (cells + 1) (slots + n) Q (F0 m (pc + 5) ls rest)) : W p l e R s m args below meth c H locs cells slots Q (F0 m pc ls (.int (nI n) :: .ref a :: rest)) := by
  have hb9 : n * componentBytes ty ≤ 536870912 := Nat.le_trans (Nat.mul_le_mul hn hcb) (by decide)
  refine va_newa hexec hb harr hty hE.1 hP hD hS hA (a0 := (n, .inl (fun _ => 0))) (fun cA => by rw [hdef]; rfl) (nI_pos (by omega)) (nI_clamp (by omega)) hb9 hcells hslots hdg (fun q cA H1 h0 h1 h2 h3 => ?_)
  have e1 := hra cA (h0.2 6 (cA, ty) rfl).2
  have e2 := hra cA0 (hE.1.2 t0 _ ht).2
  have e5 : cA = cA0 := Option.some.inj (e1.symm.trans e2)
  subst e5
  have hq : q ∉ L := va_pl_fresh2 (X := []) (by rw [List.nil_append]; exact h2)
  rw [va_pl_push hq] at h1 h2
  have hat1 := zat_push (e' := .inl (cA, n, .inl (fun _ => 0))) hat hq
  refine zputF hexec hb hts hin tyX5 tyX5_ok nmX5 hown hE h1 h2 h3 hat1 rfl k hk hlink hfin hin2 hdecl hd (hnn q) (hfit q) hl hdg2 (fun H2 locs2 g1 g2 g3 => ?_)
  refine kk q H2 locs2 _ g1 g2 g3 (zat_self hat1.1) (zat_up zat_new (zat_ne (e := .inl (cA, n, .inl (fun _ => 0))) (f := va_up f q (.inl (cA, n, .inl (fun _ => 0)))) (L := L ++ [q]) zat_new hat1 (show (100 : Nat) ≠ 5 by decide))) (fun x e h9 k9 => zat_up (zat_push h9 hq) (zat_ne (zat_push h9 hq) hat1 k9))
end ZK

theorem zmk_mW {F : Nat → va_E} {ca : Nat → ClassId} {h q0 q1 q2 q3 q4 q5 q6 q7 q8 q9 q10 q11 q12 : Nat} (h0 : zat ([h] ++ [q0] ++ [q1] ++ [q2] ++ [q3] ++ [q4] ++ [q5] ++ [q6] ++ [q7] ++ [q8] ++ [q9] ++ [q10] ++ [q11] ++ [q12]) F h (.inr (5, [.int 0, .int 0, .int 0, .int 0, .ref q0, .ref q1, .ref q2, .ref q3, .ref q4, .ref q5, .ref q6, .int 0, .ref q7, .ref q8, .ref q9, .ref q10, .ref q11, .ref q12]))) (hq0 : zat ([h] ++ [q0] ++ [q1] ++ [q2] ++ [q3] ++ [q4] ++ [q5] ++ [q6] ++ [q7] ++ [q8] ++ [q9] ++ [q10] ++ [q11] ++ [q12]) F q0 (.inl (ca 3, 20, .inl (fun _ => 0)))) (hq1 : zat ([h] ++ [q0] ++ [q1] ++ [q2] ++ [q3] ++ [q4] ++ [q5] ++ [q6] ++ [q7] ++ [q8] ++ [q9] ++ [q10] ++ [q11] ++ [q12]) F q1 (.inl (ca 3, 20, .inl (fun _ => 0)))) (hq2 : zat ([h] ++ [q0] ++ [q1] ++ [q2] ++ [q3] ++ [q4] ++ [q5] ++ [q6] ++ [q7] ++ [q8] ++ [q9] ++ [q10] ++ [q11] ++ [q12]) F q2 (.inl (ca 3, 10, .inl (fun _ => 0)))) (hq3 : zat ([h] ++ [q0] ++ [q1] ++ [q2] ++ [q3] ++ [q4] ++ [q5] ++ [q6] ++ [q7] ++ [q8] ++ [q9] ++ [q10] ++ [q11] ++ [q12]) F q3 (.inl (ca 3, 10, .inl (fun _ => 0)))) (hq4 : zat ([h] ++ [q0] ++ [q1] ++ [q2] ++ [q3] ++ [q4] ++ [q5] ++ [q6] ++ [q7] ++ [q8] ++ [q9] ++ [q10] ++ [q11] ++ [q12]) F q4 (.inl (ca 3, 10, .inl (fun _ => 0)))) (hq5 : zat ([h] ++ [q0] ++ [q1] ++ [q2] ++ [q3] ++ [q4] ++ [q5] ++ [q6] ++ [q7] ++ [q8] ++ [q9] ++ [q10] ++ [q11] ++ [q12]) F q5 (.inl (ca 4, 10, .inl (fun _ => 0)))) (hq6 : zat ([h] ++ [q0] ++ [q1] ++ [q2] ++ [q3] ++ [q4] ++ [q5] ++ [q6] ++ [q7] ++ [q8] ++ [q9] ++ [q10] ++ [q11] ++ [q12]) F q6 (.inl (ca 3, 200, .inl (fun _ => 0)))) (hq7 : zat ([h] ++ [q0] ++ [q1] ++ [q2] ++ [q3] ++ [q4] ++ [q5] ++ [q6] ++ [q7] ++ [q8] ++ [q9] ++ [q10] ++ [q11] ++ [q12]) F q7 (.inl (ca 3, 4096, .inl (fun _ => 0)))) (hq8 : zat ([h] ++ [q0] ++ [q1] ++ [q2] ++ [q3] ++ [q4] ++ [q5] ++ [q6] ++ [q7] ++ [q8] ++ [q9] ++ [q10] ++ [q11] ++ [q12]) F q8 (.inl (ca 3, 4096, .inl (fun _ => 0)))) (hq9 : zat ([h] ++ [q0] ++ [q1] ++ [q2] ++ [q3] ++ [q4] ++ [q5] ++ [q6] ++ [q7] ++ [q8] ++ [q9] ++ [q10] ++ [q11] ++ [q12]) F q9 (.inl (ca 4, 4096, .inl (fun _ => 0)))) (hq10 : zat ([h] ++ [q0] ++ [q1] ++ [q2] ++ [q3] ++ [q4] ++ [q5] ++ [q6] ++ [q7] ++ [q8] ++ [q9] ++ [q10] ++ [q11] ++ [q12]) F q10 (.inl (ca 3, 4096, .inl (fun _ => 0)))) (hq11 : zat ([h] ++ [q0] ++ [q1] ++ [q2] ++ [q3] ++ [q4] ++ [q5] ++ [q6] ++ [q7] ++ [q8] ++ [q9] ++ [q10] ++ [q11] ++ [q12]) F q11 (.inl (ca 3, 4096, .inl (fun _ => 0)))) (hq12 : zat ([h] ++ [q0] ++ [q1] ++ [q2] ++ [q3] ++ [q4] ++ [q5] ++ [q6] ++ [q7] ++ [q8] ++ [q9] ++ [q10] ++ [q11] ++ [q12]) F q12 (.inl (ca 3, 4096, .inl (fun _ => 0)))) : va_pl ([h] ++ [q0] ++ [q1] ++ [q2] ++ [q3] ++ [q4] ++ [q5] ++ [q6] ++ [q7] ++ [q8] ++ [q9] ++ [q10] ++ [q11] ++ [q12]) F = mW h (fun i => [q0, q1, q2, q3, q4, q5, q6, q7, q8, q9, q10, q11, q12].getD i 0) ca 0 0 0 0 0 (fun _ _ => 0) := by
  show [(h, F h), (q0, F q0), (q1, F q1), (q2, F q2), (q3, F q3), (q4, F q4), (q5, F q5), (q6, F q6), (q7, F q7), (q8, F q8), (q9, F q9), (q10, F q10), (q11, F q11), (q12, F q12)] = _
  rw [h0.2, hq0.2, hq1.2, hq2.2, hq3.2, hq4.2, hq5.2, hq6.2, hq7.2, hq8.2, hq9.2, hq10.2, hq11.2, hq12.2]
  rfl

set_option maxHeartbeats 400000 in
set_option maxRecDepth 100000 in
theorem w_Model (l : Launch) (D : va_G) (ca : Nat → ClassId) (sa : Nat → Nat) (L : List Nat) (f : Nat → va_E) (h : Nat) (hL : L = [h]) (h0 : zat L f h (.inr (5, [.int 0, .int 0, .int 0, .int 0, .null, .null, .null, .null, .null, .null, .null, .int 0, .null, .null, .null, .null, .null, .null]))) (sz : Nat) : Met l yX5_init wsX5_init ({ frames := 2, cells := 13, slots := 24856, locals := 80 }) (va_Pc [.ref h] (zMp D (va_pl L f) ca sa sz)) (va_Qv (fun (u : zU) => ∃ ad : Nat → Nat, va_pl u.1 u.2 = mW h ad ca 0 0 0 0 0 (fun _ _ => 0)) (zPost D (va_A (va_pl L f) sz)) (va_A (va_pl L f) sz)) 13 24856 (va_A (va_pl L f) sz) := by
  refine Met.ofW (cc := cX5_init) (maxL := 1) (ret := none) (by decide) rfl ?_
  intro p e s m args below meth c s₁ B hml hv
  obtain ⟨rfl, hsz, hP, hD0, hE⟩ := hv
  have hx := B.exec
  have hb := B.bytes
  have hr := B.returns
  have hts := atoms_spec (ws := wsX5_init) B.pre
  have hown : s.vm.findClass RX5 = some m.cls := findClass_of_methodNamed B.named
  have hlocks := B.notSynchronized
  have hl := lv_entry ([.ref h]) (n := 1) (Nat.le_of_ble_eq_true rfl)
  rw [lg_entry_eq]
  generalize (lg_sl ([.ref h]) ++ List.replicate (1 - (lg_sl ([.ref h])).length) Slot.unset).toArray = ls at hl ⊢
  have hl : lv_has ls 1 [(0, .ref h)] := hl
  have hin : meth.name = "<init>" := (name_of_methodNamed B.named B.method).1
  subst hsz
  have hD := hD0.self (sz := s.heap.size)
  generalize hAe : va_A (va_pl L f) s.heap.size = A at hD ⊢
  have hA : ∀ q : Nat, s.heap.size ≤ q → A q := fun q h => by rw [← hAe]; exact Or.inr h
  have hS : va_S A s.heap s.heap [] := va_S.rf
  refine lv_aload_n hx hb dX5_init_0 rfl (lv_at hl 0 rfl) ?_
  refine W.objInit hx hb hown (hts (.methodLink RX5 1 objectInit) (by decide +kernel)) (hts (.instanceMethod objectInit) (by decide +kernel)) (hts (.code objectInit ⟨#[0xb1]⟩ 1 none) (by decide +kernel)) rfl (by rw [hml]; exact hl.1) rfl dX5_init_1 (Nat.le_of_ble_eq_true rfl) (Nat.le_of_ble_eq_true rfl) ?_
  refine W.eq (g2 := F0 m 4 ls []) rfl ?_
  refine lv_aload_n hx hb dX5_init_4 rfl (lv_at hl 0 rfl) ?_
  refine lv_bipush (v := nI 20) hx hb dX5_init_5 (by decide) ?_
  refine zmk (atype := .int) (ty2 := tyX5 4) hx hb hts (by decide +kernel) hown hE hP hD hS hA h0 (hts (.arrayClass .int) (by decide +kernel)) rfl (fun _ h => h) rfl (by decide) 3 rfl (n := 20) (by decide) (Nat.le_of_ble_eq_true rfl) (Nat.le_of_ble_eq_true rfl) dX5_init_7 4 (by decide) (hts (.fieldLink RX5 7 "LinkResolverModel" "firstYears" "[I") (by decide +kernel)) rfl hin rfl (tyX5_ok _ (by decide)) (fun _ => rfl) (fun _ => rfl) (Nat.le_of_ble_eq_true rfl) dX5_init_9 (fun q0 H locs f0 hP hD hS h0 hq0 hs => ?_)
  have h0 : zat (L ++ [q0]) f0 h (.inr (5, [.int 0, .int 0, .int 0, .int 0, .ref q0, .null, .null, .null, .null, .null, .null, .int 0, .null, .null, .null, .null, .null, .null])) := h0
  refine lv_aload_n hx hb dX5_init_12 rfl (lv_at hl 0 rfl) ?_
  refine lv_bipush (v := nI 20) hx hb dX5_init_13 (by decide) ?_
  refine zmk (atype := .int) (ty2 := tyX5 5) hx hb hts (by decide +kernel) hown hE hP hD hS hA h0 (hts (.arrayClass .int) (by decide +kernel)) rfl (fun _ h => h) rfl (by decide) 3 rfl (n := 20) (by decide) (Nat.le_of_ble_eq_true rfl) (Nat.le_of_ble_eq_true rfl) dX5_init_15 5 (by decide) (hts (.fieldLink RX5 13 "LinkResolverModel" "volumes" "[I") (by decide +kernel)) rfl hin rfl (tyX5_ok _ (by decide)) (fun _ => rfl) (fun _ => rfl) (Nat.le_of_ble_eq_true rfl) dX5_init_17 (fun q1 H locs f1 hP hD hS h0 hq1 hs => ?_)
  have h0 : zat (L ++ [q0] ++ [q1]) f1 h (.inr (5, [.int 0, .int 0, .int 0, .int 0, .ref q0, .ref q1, .null, .null, .null, .null, .null, .int 0, .null, .null, .null, .null, .null, .null])) := h0
  have hq0 := hs _ _ hq0 (show (100 : Nat) ≠ 5 by decide)
  refine lv_aload_n hx hb dX5_init_20 rfl (lv_at hl 0 rfl) ?_
  refine lv_bipush (v := nI 10) hx hb dX5_init_21 (by decide) ?_
  refine zmk (atype := .int) (ty2 := tyX5 6) hx hb hts (by decide +kernel) hown hE hP hD hS hA h0 (hts (.arrayClass .int) (by decide +kernel)) rfl (fun _ h => h) rfl (by decide) 3 rfl (n := 10) (by decide) (Nat.le_of_ble_eq_true rfl) (Nat.le_of_ble_eq_true rfl) dX5_init_23 6 (by decide) (hts (.fieldLink RX5 16 "LinkResolverModel" "costs" "[I") (by decide +kernel)) rfl hin rfl (tyX5_ok _ (by decide)) (fun _ => rfl) (fun _ => rfl) (Nat.le_of_ble_eq_true rfl) dX5_init_25 (fun q2 H locs f2 hP hD hS h0 hq2 hs => ?_)
  have h0 : zat (L ++ [q0] ++ [q1] ++ [q2]) f2 h (.inr (5, [.int 0, .int 0, .int 0, .int 0, .ref q0, .ref q1, .ref q2, .null, .null, .null, .null, .int 0, .null, .null, .null, .null, .null, .null])) := h0
  have hq0 := hs _ _ hq0 (show (100 : Nat) ≠ 5 by decide)
  have hq1 := hs _ _ hq1 (show (100 : Nat) ≠ 5 by decide)
  refine lv_aload_n hx hb dX5_init_28 rfl (lv_at hl 0 rfl) ?_
  refine lv_bipush (v := nI 10) hx hb dX5_init_29 (by decide) ?_
  refine zmk (atype := .int) (ty2 := tyX5 7) hx hb hts (by decide +kernel) hown hE hP hD hS hA h0 (hts (.arrayClass .int) (by decide +kernel)) rfl (fun _ h => h) rfl (by decide) 3 rfl (n := 10) (by decide) (Nat.le_of_ble_eq_true rfl) (Nat.le_of_ble_eq_true rfl) dX5_init_31 7 (by decide) (hts (.fieldLink RX5 19 "LinkResolverModel" "versions" "[I") (by decide +kernel)) rfl hin rfl (tyX5_ok _ (by decide)) (fun _ => rfl) (fun _ => rfl) (Nat.le_of_ble_eq_true rfl) dX5_init_33 (fun q3 H locs f3 hP hD hS h0 hq3 hs => ?_)
  have h0 : zat (L ++ [q0] ++ [q1] ++ [q2] ++ [q3]) f3 h (.inr (5, [.int 0, .int 0, .int 0, .int 0, .ref q0, .ref q1, .ref q2, .ref q3, .null, .null, .null, .int 0, .null, .null, .null, .null, .null, .null])) := h0
  have hq0 := hs _ _ hq0 (show (100 : Nat) ≠ 5 by decide)
  have hq1 := hs _ _ hq1 (show (100 : Nat) ≠ 5 by decide)
  have hq2 := hs _ _ hq2 (show (100 : Nat) ≠ 5 by decide)
  refine lv_aload_n hx hb dX5_init_36 rfl (lv_at hl 0 rfl) ?_
  refine lv_bipush (v := nI 10) hx hb dX5_init_37 (by decide) ?_
  refine zmk (atype := .int) (ty2 := tyX5 8) hx hb hts (by decide +kernel) hown hE hP hD hS hA h0 (hts (.arrayClass .int) (by decide +kernel)) rfl (fun _ h => h) rfl (by decide) 3 rfl (n := 10) (by decide) (Nat.le_of_ble_eq_true rfl) (Nat.le_of_ble_eq_true rfl) dX5_init_39 8 (by decide) (hts (.fieldLink RX5 22 "LinkResolverModel" "groups" "[I") (by decide +kernel)) rfl hin rfl (tyX5_ok _ (by decide)) (fun _ => rfl) (fun _ => rfl) (Nat.le_of_ble_eq_true rfl) dX5_init_41 (fun q4 H locs f4 hP hD hS h0 hq4 hs => ?_)
  have h0 : zat (L ++ [q0] ++ [q1] ++ [q2] ++ [q3] ++ [q4]) f4 h (.inr (5, [.int 0, .int 0, .int 0, .int 0, .ref q0, .ref q1, .ref q2, .ref q3, .ref q4, .null, .null, .int 0, .null, .null, .null, .null, .null, .null])) := h0
  have hq0 := hs _ _ hq0 (show (100 : Nat) ≠ 5 by decide)
  have hq1 := hs _ _ hq1 (show (100 : Nat) ≠ 5 by decide)
  have hq2 := hs _ _ hq2 (show (100 : Nat) ≠ 5 by decide)
  have hq3 := hs _ _ hq3 (show (100 : Nat) ≠ 5 by decide)
  refine lv_aload_n hx hb dX5_init_44 rfl (lv_at hl 0 rfl) ?_
  refine lv_bipush (v := nI 10) hx hb dX5_init_45 (by decide) ?_
  refine zmk (atype := .boolean) (ty2 := tyX5 9) hx hb hts (by decide +kernel) hown hE hP hD hS hA h0 (hts (.arrayClass .boolean) (by decide +kernel)) rfl (fun _ h => h) rfl (by decide) 4 rfl (n := 10) (by decide) (Nat.le_of_ble_eq_true rfl) (Nat.le_of_ble_eq_true rfl) dX5_init_47 9 (by decide) (hts (.fieldLink RX5 25 "LinkResolverModel" "keeps" "[Z") (by decide +kernel)) rfl hin rfl (tyX5_ok _ (by decide)) (fun _ => rfl) (fun _ => rfl) (Nat.le_of_ble_eq_true rfl) dX5_init_49 (fun q5 H locs f5 hP hD hS h0 hq5 hs => ?_)
  have h0 : zat (L ++ [q0] ++ [q1] ++ [q2] ++ [q3] ++ [q4] ++ [q5]) f5 h (.inr (5, [.int 0, .int 0, .int 0, .int 0, .ref q0, .ref q1, .ref q2, .ref q3, .ref q4, .ref q5, .null, .int 0, .null, .null, .null, .null, .null, .null])) := h0
  have hq0 := hs _ _ hq0 (show (100 : Nat) ≠ 5 by decide)
  have hq1 := hs _ _ hq1 (show (100 : Nat) ≠ 5 by decide)
  have hq2 := hs _ _ hq2 (show (100 : Nat) ≠ 5 by decide)
  have hq3 := hs _ _ hq3 (show (100 : Nat) ≠ 5 by decide)
  have hq4 := hs _ _ hq4 (show (100 : Nat) ≠ 5 by decide)
  refine lv_aload_n hx hb dX5_init_52 rfl (lv_at hl 0 rfl) ?_
  refine lv_sipush (v := nI 200) hx hb dX5_init_53 (by decide) ?_
  refine zmk (atype := .int) (ty2 := tyX5 10) hx hb hts (by decide +kernel) hown hE hP hD hS hA h0 (hts (.arrayClass .int) (by decide +kernel)) rfl (fun _ h => h) rfl (by decide) 3 rfl (n := 200) (by decide) (Nat.le_of_ble_eq_true rfl) (Nat.le_of_ble_eq_true rfl) dX5_init_56 10 (by decide) (hts (.fieldLink RX5 29 "LinkResolverModel" "breaks" "[I") (by decide +kernel)) rfl hin rfl (tyX5_ok _ (by decide)) (fun _ => rfl) (fun _ => rfl) (Nat.le_of_ble_eq_true rfl) dX5_init_58 (fun q6 H locs f6 hP hD hS h0 hq6 hs => ?_)
  have h0 : zat (L ++ [q0] ++ [q1] ++ [q2] ++ [q3] ++ [q4] ++ [q5] ++ [q6]) f6 h (.inr (5, [.int 0, .int 0, .int 0, .int 0, .ref q0, .ref q1, .ref q2, .ref q3, .ref q4, .ref q5, .ref q6, .int 0, .null, .null, .null, .null, .null, .null])) := h0
  have hq0 := hs _ _ hq0 (show (100 : Nat) ≠ 5 by decide)
  have hq1 := hs _ _ hq1 (show (100 : Nat) ≠ 5 by decide)
  have hq2 := hs _ _ hq2 (show (100 : Nat) ≠ 5 by decide)
  have hq3 := hs _ _ hq3 (show (100 : Nat) ≠ 5 by decide)
  have hq4 := hs _ _ hq4 (show (100 : Nat) ≠ 5 by decide)
  have hq5 := hs _ _ hq5 (show (100 : Nat) ≠ 5 by decide)
  refine lv_aload_n hx hb dX5_init_61 rfl (lv_at hl 0 rfl) ?_
  refine lv_sipush (v := nI 4096) hx hb dX5_init_62 (by decide) ?_
  refine zmk (atype := .int) (ty2 := tyX5 12) hx hb hts (by decide +kernel) hown hE hP hD hS hA h0 (hts (.arrayClass .int) (by decide +kernel)) rfl (fun _ h => h) rfl (by decide) 3 rfl (n := 4096) (by decide) (Nat.le_of_ble_eq_true rfl) (Nat.le_of_ble_eq_true rfl) dX5_init_65 12 (by decide) (hts (.fieldLink RX5 32 "LinkResolverModel" "ofWhat" "[I") (by decide +kernel)) rfl hin rfl (tyX5_ok _ (by decide)) (fun _ => rfl) (fun _ => rfl) (Nat.le_of_ble_eq_true rfl) dX5_init_67 (fun q7 H locs f7 hP hD hS h0 hq7 hs => ?_)
  have h0 : zat (L ++ [q0] ++ [q1] ++ [q2] ++ [q3] ++ [q4] ++ [q5] ++ [q6] ++ [q7]) f7 h (.inr (5, [.int 0, .int 0, .int 0, .int 0, .ref q0, .ref q1, .ref q2, .ref q3, .ref q4, .ref q5, .ref q6, .int 0, .ref q7, .null, .null, .null, .null, .null])) := h0
  have hq0 := hs _ _ hq0 (show (100 : Nat) ≠ 5 by decide)
  have hq1 := hs _ _ hq1 (show (100 : Nat) ≠ 5 by decide)
  have hq2 := hs _ _ hq2 (show (100 : Nat) ≠ 5 by decide)
  have hq3 := hs _ _ hq3 (show (100 : Nat) ≠ 5 by decide)
  have hq4 := hs _ _ hq4 (show (100 : Nat) ≠ 5 by decide)
  have hq5 := hs _ _ hq5 (show (100 : Nat) ≠ 5 by decide)
  have hq6 := hs _ _ hq6 (show (100 : Nat) ≠ 5 by decide)
  refine lv_aload_n hx hb dX5_init_70 rfl (lv_at hl 0 rfl) ?_
  refine lv_sipush (v := nI 4096) hx hb dX5_init_71 (by decide) ?_
  refine zmk (atype := .int) (ty2 := tyX5 13) hx hb hts (by decide +kernel) hown hE hP hD hS hA h0 (hts (.arrayClass .int) (by decide +kernel)) rfl (fun _ h => h) rfl (by decide) 3 rfl (n := 4096) (by decide) (Nat.le_of_ble_eq_true rfl) (Nat.le_of_ble_eq_true rfl) dX5_init_74 13 (by decide) (hts (.fieldLink RX5 35 "LinkResolverModel" "days" "[I") (by decide +kernel)) rfl hin rfl (tyX5_ok _ (by decide)) (fun _ => rfl) (fun _ => rfl) (Nat.le_of_ble_eq_true rfl) dX5_init_76 (fun q8 H locs f8 hP hD hS h0 hq8 hs => ?_)
  have h0 : zat (L ++ [q0] ++ [q1] ++ [q2] ++ [q3] ++ [q4] ++ [q5] ++ [q6] ++ [q7] ++ [q8]) f8 h (.inr (5, [.int 0, .int 0, .int 0, .int 0, .ref q0, .ref q1, .ref q2, .ref q3, .ref q4, .ref q5, .ref q6, .int 0, .ref q7, .ref q8, .null, .null, .null, .null])) := h0
  have hq0 := hs _ _ hq0 (show (100 : Nat) ≠ 5 by decide)
  have hq1 := hs _ _ hq1 (show (100 : Nat) ≠ 5 by decide)
  have hq2 := hs _ _ hq2 (show (100 : Nat) ≠ 5 by decide)
  have hq3 := hs _ _ hq3 (show (100 : Nat) ≠ 5 by decide)
  have hq4 := hs _ _ hq4 (show (100 : Nat) ≠ 5 by decide)
  have hq5 := hs _ _ hq5 (show (100 : Nat) ≠ 5 by decide)
  have hq6 := hs _ _ hq6 (show (100 : Nat) ≠ 5 by decide)
  have hq7 := hs _ _ hq7 (show (100 : Nat) ≠ 5 by decide)
  refine lv_aload_n hx hb dX5_init_79 rfl (lv_at hl 0 rfl) ?_
  refine lv_sipush (v := nI 4096) hx hb dX5_init_80 (by decide) ?_
  refine zmk (atype := .boolean) (ty2 := tyX5 14) hx hb hts (by decide +kernel) hown hE hP hD hS hA h0 (hts (.arrayClass .boolean) (by decide +kernel)) rfl (fun _ h => h) rfl (by decide) 4 rfl (n := 4096) (by decide) (Nat.le_of_ble_eq_true rfl) (Nat.le_of_ble_eq_true rfl) dX5_init_83 14 (by decide) (hts (.fieldLink RX5 38 "LinkResolverModel" "isOn" "[Z") (by decide +kernel)) rfl hin rfl (tyX5_ok _ (by decide)) (fun _ => rfl) (fun _ => rfl) (Nat.le_of_ble_eq_true rfl) dX5_init_85 (fun q9 H locs f9 hP hD hS h0 hq9 hs => ?_)
  have h0 : zat (L ++ [q0] ++ [q1] ++ [q2] ++ [q3] ++ [q4] ++ [q5] ++ [q6] ++ [q7] ++ [q8] ++ [q9]) f9 h (.inr (5, [.int 0, .int 0, .int 0, .int 0, .ref q0, .ref q1, .ref q2, .ref q3, .ref q4, .ref q5, .ref q6, .int 0, .ref q7, .ref q8, .ref q9, .null, .null, .null])) := h0
  have hq0 := hs _ _ hq0 (show (100 : Nat) ≠ 5 by decide)
  have hq1 := hs _ _ hq1 (show (100 : Nat) ≠ 5 by decide)
  have hq2 := hs _ _ hq2 (show (100 : Nat) ≠ 5 by decide)
  have hq3 := hs _ _ hq3 (show (100 : Nat) ≠ 5 by decide)
  have hq4 := hs _ _ hq4 (show (100 : Nat) ≠ 5 by decide)
  have hq5 := hs _ _ hq5 (show (100 : Nat) ≠ 5 by decide)
  have hq6 := hs _ _ hq6 (show (100 : Nat) ≠ 5 by decide)
  have hq7 := hs _ _ hq7 (show (100 : Nat) ≠ 5 by decide)
  have hq8 := hs _ _ hq8 (show (100 : Nat) ≠ 5 by decide)
  refine lv_aload_n hx hb dX5_init_88 rfl (lv_at hl 0 rfl) ?_
  refine lv_sipush (v := nI 4096) hx hb dX5_init_89 (by decide) ?_
  refine zmk (atype := .int) (ty2 := tyX5 15) hx hb hts (by decide +kernel) hown hE hP hD hS hA h0 (hts (.arrayClass .int) (by decide +kernel)) rfl (fun _ h => h) rfl (by decide) 3 rfl (n := 4096) (by decide) (Nat.le_of_ble_eq_true rfl) (Nat.le_of_ble_eq_true rfl) dX5_init_92 15 (by decide) (hts (.fieldLink RX5 41 "LinkResolverModel" "firsts" "[I") (by decide +kernel)) rfl hin rfl (tyX5_ok _ (by decide)) (fun _ => rfl) (fun _ => rfl) (Nat.le_of_ble_eq_true rfl) dX5_init_94 (fun q10 H locs f10 hP hD hS h0 hq10 hs => ?_)
  have h0 : zat (L ++ [q0] ++ [q1] ++ [q2] ++ [q3] ++ [q4] ++ [q5] ++ [q6] ++ [q7] ++ [q8] ++ [q9] ++ [q10]) f10 h (.inr (5, [.int 0, .int 0, .int 0, .int 0, .ref q0, .ref q1, .ref q2, .ref q3, .ref q4, .ref q5, .ref q6, .int 0, .ref q7, .ref q8, .ref q9, .ref q10, .null, .null])) := h0
  have hq0 := hs _ _ hq0 (show (100 : Nat) ≠ 5 by decide)
  have hq1 := hs _ _ hq1 (show (100 : Nat) ≠ 5 by decide)
  have hq2 := hs _ _ hq2 (show (100 : Nat) ≠ 5 by decide)
  have hq3 := hs _ _ hq3 (show (100 : Nat) ≠ 5 by decide)
  have hq4 := hs _ _ hq4 (show (100 : Nat) ≠ 5 by decide)
  have hq5 := hs _ _ hq5 (show (100 : Nat) ≠ 5 by decide)
  have hq6 := hs _ _ hq6 (show (100 : Nat) ≠ 5 by decide)
  have hq7 := hs _ _ hq7 (show (100 : Nat) ≠ 5 by decide)
  have hq8 := hs _ _ hq8 (show (100 : Nat) ≠ 5 by decide)
  have hq9 := hs _ _ hq9 (show (100 : Nat) ≠ 5 by decide)
  refine lv_aload_n hx hb dX5_init_97 rfl (lv_at hl 0 rfl) ?_
  refine lv_sipush (v := nI 4096) hx hb dX5_init_98 (by decide) ?_
  refine zmk (atype := .int) (ty2 := tyX5 16) hx hb hts (by decide +kernel) hown hE hP hD hS hA h0 (hts (.arrayClass .int) (by decide +kernel)) rfl (fun _ h => h) rfl (by decide) 3 rfl (n := 4096) (by decide) (Nat.le_of_ble_eq_true rfl) (Nat.le_of_ble_eq_true rfl) dX5_init_101 16 (by decide) (hts (.fieldLink RX5 44 "LinkResolverModel" "lasts" "[I") (by decide +kernel)) rfl hin rfl (tyX5_ok _ (by decide)) (fun _ => rfl) (fun _ => rfl) (Nat.le_of_ble_eq_true rfl) dX5_init_103 (fun q11 H locs f11 hP hD hS h0 hq11 hs => ?_)
  have h0 : zat (L ++ [q0] ++ [q1] ++ [q2] ++ [q3] ++ [q4] ++ [q5] ++ [q6] ++ [q7] ++ [q8] ++ [q9] ++ [q10] ++ [q11]) f11 h (.inr (5, [.int 0, .int 0, .int 0, .int 0, .ref q0, .ref q1, .ref q2, .ref q3, .ref q4, .ref q5, .ref q6, .int 0, .ref q7, .ref q8, .ref q9, .ref q10, .ref q11, .null])) := h0
  have hq0 := hs _ _ hq0 (show (100 : Nat) ≠ 5 by decide)
  have hq1 := hs _ _ hq1 (show (100 : Nat) ≠ 5 by decide)
  have hq2 := hs _ _ hq2 (show (100 : Nat) ≠ 5 by decide)
  have hq3 := hs _ _ hq3 (show (100 : Nat) ≠ 5 by decide)
  have hq4 := hs _ _ hq4 (show (100 : Nat) ≠ 5 by decide)
  have hq5 := hs _ _ hq5 (show (100 : Nat) ≠ 5 by decide)
  have hq6 := hs _ _ hq6 (show (100 : Nat) ≠ 5 by decide)
  have hq7 := hs _ _ hq7 (show (100 : Nat) ≠ 5 by decide)
  have hq8 := hs _ _ hq8 (show (100 : Nat) ≠ 5 by decide)
  have hq9 := hs _ _ hq9 (show (100 : Nat) ≠ 5 by decide)
  have hq10 := hs _ _ hq10 (show (100 : Nat) ≠ 5 by decide)
  refine lv_aload_n hx hb dX5_init_106 rfl (lv_at hl 0 rfl) ?_
  refine lv_sipush (v := nI 4096) hx hb dX5_init_107 (by decide) ?_
  refine zmk (atype := .int) (ty2 := tyX5 17) hx hb hts (by decide +kernel) hown hE hP hD hS hA h0 (hts (.arrayClass .int) (by decide +kernel)) rfl (fun _ h => h) rfl (by decide) 3 rfl (n := 4096) (by decide) (Nat.le_of_ble_eq_true rfl) (Nat.le_of_ble_eq_true rfl) dX5_init_110 17 (by decide) (hts (.fieldLink RX5 47 "LinkResolverModel" "walls" "[I") (by decide +kernel)) rfl hin rfl (tyX5_ok _ (by decide)) (fun _ => rfl) (fun _ => rfl) (Nat.le_of_ble_eq_true rfl) dX5_init_112 (fun q12 H locs f12 hP hD hS h0 hq12 hs => ?_)
  have h0 : zat (L ++ [q0] ++ [q1] ++ [q2] ++ [q3] ++ [q4] ++ [q5] ++ [q6] ++ [q7] ++ [q8] ++ [q9] ++ [q10] ++ [q11] ++ [q12]) f12 h (.inr (5, [.int 0, .int 0, .int 0, .int 0, .ref q0, .ref q1, .ref q2, .ref q3, .ref q4, .ref q5, .ref q6, .int 0, .ref q7, .ref q8, .ref q9, .ref q10, .ref q11, .ref q12])) := h0
  have hq0 := hs _ _ hq0 (show (100 : Nat) ≠ 5 by decide)
  have hq1 := hs _ _ hq1 (show (100 : Nat) ≠ 5 by decide)
  have hq2 := hs _ _ hq2 (show (100 : Nat) ≠ 5 by decide)
  have hq3 := hs _ _ hq3 (show (100 : Nat) ≠ 5 by decide)
  have hq4 := hs _ _ hq4 (show (100 : Nat) ≠ 5 by decide)
  have hq5 := hs _ _ hq5 (show (100 : Nat) ≠ 5 by decide)
  have hq6 := hs _ _ hq6 (show (100 : Nat) ≠ 5 by decide)
  have hq7 := hs _ _ hq7 (show (100 : Nat) ≠ 5 by decide)
  have hq8 := hs _ _ hq8 (show (100 : Nat) ≠ 5 by decide)
  have hq9 := hs _ _ hq9 (show (100 : Nat) ≠ 5 by decide)
  have hq10 := hs _ _ hq10 (show (100 : Nat) ≠ 5 by decide)
  have hq11 := hs _ _ hq11 (show (100 : Nat) ≠ 5 by decide)
  subst hL
  refine zwrv (_, f12) hx hb hr hlocks dX5_init_115 hP hD hS ⟨_, zmk_mW h0 hq0 hq1 hq2 hq3 hq4 hq5 hq6 hq7 hq8 hq9 hq10 hq11 hq12⟩
