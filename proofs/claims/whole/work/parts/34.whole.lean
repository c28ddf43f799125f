/-! the law from its entry -/
theorem w2_sw {A : Nat → Prop} {X Y : va_W} (h : va_D A (X ++ Y)) : va_D A (Y ++ X) := va_D.app (w2_r h) (w2_l h) (fun i j p q hi hj e => w2_ne h hj hi e.symm)
theorem w2_s3 {A : Nat → Prop} {X Y O : va_W} (h : va_D A ((Y ++ X) ++ O)) : va_D A ((O ++ X) ++ Y) := by
  have h2 : va_D A (Y ++ (X ++ O)) := by rw [List.append_assoc] at h; exact h
  refine va_D.app (w2_sw (w2_r h2)) (w2_l h2) (fun i j x y hi hj e => ?_)
  obtain ⟨i', hi'⟩ := List.getElem?_of_mem (show x ∈ X ++ O from (List.mem_append.mp (List.mem_of_getElem? hi)).elim (fun h => List.mem_append_right _ h) (fun h => List.mem_append_left _ h))
  exact w2_ne h2 hj hi' e.symm
theorem p2_l {D : va_G} {cl : List vw_C} {X Y : va_W} {H : Heap} (h : va_P D cl (X ++ Y) H) : va_P D cl X H := h.by (fun k => k) (fun k q hk => by rw [List.getElem?_append_left (List.getElem?_eq_some_iff.mp hk).1]; exact hk)
theorem p2_r {D : va_G} {cl : List vw_C} {X Y : va_W} {H : Heap} (h : va_P D cl (X ++ Y) H) : va_P D cl Y H := h.by (fun k => X.length + k) (fun k q hk => by rw [List.getElem?_append_right (Nat.le_add_right _ _), Nat.add_sub_cancel_left]; exact hk)
abbrev e5_0 : va_E := .inr (5, [.int 0, .int 0, .int 0, .int 0, .null, .null, .null, .null, .null, .null, .null, .int 0, .null, .null, .null, .null, .null, .null])
theorem fs5_ok : ∀ j, j < 18 → defaultValue (tyX5 j) = vp_V [.int 0, .int 0, .int 0, .int 0, .null, .null, .null, .null, .null, .null, .null, .int 0, .null, .null, .null, .null, .null, .null] j := fun j hj => by
  rcases (show j = 0 ∨ j = 1 ∨ j = 2 ∨ j = 3 ∨ j = 4 ∨ j = 5 ∨ j = 6 ∨ j = 7 ∨ j = 8 ∨ j = 9 ∨ j = 10 ∨ j = 11 ∨ j = 12 ∨ j = 13 ∨ j = 14 ∨ j = 15 ∨ j = 16 ∨ j = 17 by omega) with rfl | rfl | rfl | rfl | rfl | rfl | rfl | rfl | rfl | rfl | rfl | rfl | rfl | rfl | rfl | rfl | rfl | rfl <;> rfl
set_option maxHeartbeats 4000000 in
set_option maxRecDepth 100000 in
theorem whole_start {p : Program} {e : Env} {s : State} {m : MethodId} {below : List Frame} {meth : Method} {c : Code} (l : Launch) (hflags : l.flags = flags0) {b L : Nat} {xs : Nat → Int32} (hL : L ≤ 3072) (C0 : lw_At p s m meth c b L xs) : W p l e room_1 s m #[Value.ref b] below meth c s.heap [] 0 0 (lw_Z below #[Value.ref b] s) (entryFrame m ([Value.ref b] : List Value).toArray 7) := by
  obtain ⟨D, ca, sa, C⟩ := s_C l hflags hL C0
  have C1 := C
  obtain ⟨⟨hx, hb, hml, hown, hts⟩, hX, hbl, hL3, hE, hN, hZ0, hl0⟩ := C
  obtain ⟨-, -, hr, -, -, -, -, -, hlocks, -⟩ := C0
  have hl := lv_entry ([.ref b]) (n := 7) (Nat.le_of_ble_eq_true rfl)
  rw [lg_entry_eq]
  generalize (lg_sl ([.ref b]) ++ List.replicate (7 - (lg_sl ([.ref b])).length) Slot.unset).toArray = ls at hl ⊢
  have hl : lv_has ls 7 [(0, .ref b)] := hl
  have hA : ∀ q : Nat, s.heap.size ≤ q → (fun q => s.heap.size ≤ q) q := fun _ h => h
  have hP : va_P D vwCl (va_pl [] (fun _ => .inr (0, []))) s.heap := fun k q h => by cases h
  have hD : va_D (fun q => s.heap.size ≤ q) (va_pl [] (fun _ => .inr (0, []))) := ⟨fun i j p q h => (by cases h), fun k q h => (by cases h)⟩
  have hS : va_S (fun q => s.heap.size ≤ q) s.heap s.heap [] := va_S.rf
  refine znew (own := RL) (ci := 4) (fs := [.null, .null, .int 0, .int 0, .int 0, .int 0]) (C := RX4) (T := TX4) (N := 6) hx hb hts (by decide +kernel) tyX4 tyX4_ok hown (hts (.classLink RL 8 RX4) (by decide +kernel)) (hts (.instantiable RX4 6) (by decide +kernel)) (hts (.initialized RX4) (by decide +kernel)) hE hP hD hS hA rfl (fun j hj => by rcases (show j = 0 ∨ j = 1 ∨ j = 2 ∨ j = 3 ∨ j = 4 ∨ j = 5 by omega) with rfl | rfl | rfl | rfl | rfl | rfl <;> rfl) (Nat.le_of_ble_eq_true rfl) (Nat.le_of_ble_eq_true rfl) dL_law_0 (fun h0 H hn_0 hP hD hS => ?_)
  have hz0 : zat ([] ++ [h0]) (va_up (fun _ => .inr (0, [])) h0 (.inr (4, [.null, .null, .int 0, .int 0, .int 0, .int 0]))) h0 (.inr (4, [.null, .null, .int 0, .int 0, .int 0, .int 0])) := zat_new
  refine lv_dup hx hb dL_law_3 rfl ?_
  refine zwcv (va_runI (As := []) (rest := [.ref h0]) ⟨hx, hb, hml, hown, hts⟩ (w_LR l D ca sa ([] ++ [h0]) (va_up (fun _ => .inr (0, [])) h0 (.inr (4, [.null, .null, .int 0, .int 0, .int 0, .int 0]))) h0 hz0 _) (cwI 0 hts gL_law_X4_init rfl rfl rfl (hts (.initialized RX4) (by decide +kernel)) (hts (.methodLink RL 79 yX4_init) (by decide +kernel)) (hts (.instanceMethod yX4_init) (by decide +kernel)) rfl (by decide +kernel) ⟨Nat.le_of_ble_eq_true rfl, Nat.le_of_ble_eq_true rfl⟩) (zmSi hP hD hE) rfl rfl hl.1 rfl (lv_room (Nat.le_of_ble_eq_true rfl)) dL_law_4 ⟨Nat.le_of_ble_eq_true rfl, Nat.le_of_ble_eq_true rfl⟩) hD hS hA (fun u H locs hu hP hD hS => ?_)
  refine lv_astore_n (lv' := [(1, .ref h0), (0, .ref b)]) hx hb dL_law_7 rfl hl (by decide) rfl (fun ls hl => ?_)
  refine va_new (ci := 5) (fs := [.int 0, .int 0, .int 0, .int 0, .null, .null, .null, .null, .null, .null, .null, .int 0, .null, .null, .null, .null, .null, .null]) (C := RX5) (T := TX5) (N := 18) hx hb hts (by decide +kernel) tyX5 tyX5_ok hown (hts (.classLink RL 80 RX5) (by decide +kernel)) (hts (.instantiable RX5 18) (by decide +kernel)) (hts (.initialized RX5) (by decide +kernel)) hE.1 hP hD hS hA rfl fs5_ok (Nat.le_of_ble_eq_true rfl) (Nat.le_of_ble_eq_true rfl) dL_law_8 (fun hm H hP hD hS => ?_)
  have hD : va_D (fun q => s.heap.size ≤ q) (va_pl u.1 u.2 ++ va_pl [hm] (fun _ => e5_0)) := hD
  have hPx : va_P D vwCl (va_pl u.1 u.2) H := p2_l hP
  have hPy : va_P D vwCl (va_pl [hm] (fun _ => e5_0)) H := p2_r hP
  have hz5 : zat [hm] (fun _ => e5_0) hm e5_0 := ⟨List.mem_cons_self, rfl⟩
  have hF : ∀ q, va_A (va_pl [hm] (fun _ => e5_0)) H.size q → s.heap.size ≤ q := fun q h => h.elim (fun ⟨k, e, h1⟩ => (w2_r hD).2 k (q, e) h1) (fun h => Nat.le_trans hS.1 h)
  refine lv_dup hx hb dL_law_11 rfl ?_
  refine va_callv (va_runI (As := []) (rest := [.ref hm]) ⟨hx, hb, hml, hown, hts⟩ (w_Model l D ca sa [hm] (fun _ => e5_0) hm rfl hz5 _) (cwI 0 hts gL_law_X5_init rfl rfl rfl (hts (.initialized RX5) (by decide +kernel)) (hts (.methodLink RL 82 yX5_init) (by decide +kernel)) (hts (.instanceMethod yX5_init) (by decide +kernel)) rfl (by decide +kernel) ⟨Nat.le_of_ble_eq_true rfl, Nat.le_of_ble_eq_true rfl⟩) (zmSi hPy (w2_r hD) hE) rfl rfl hl.1 rfl (lv_room (Nat.le_of_ble_eq_true rfl)) dL_law_12 ⟨Nat.le_of_ble_eq_true rfl, Nat.le_of_ble_eq_true rfl⟩) hS (fun q _ h => hF q h) hF (fun u2 t H1 locs ht _ hp hB _ k2 hS1 => ?_)
  obtain ⟨ad, hp⟩ := hp
  obtain ⟨hb1, hb2⟩ := hB
  rw [ht] at hb1
  rw [hp] at hb1 hb2
  obtain ⟨hPx, hD⟩ := w2_X hPx (w2_sw hD) (fun q h => Nat.le_trans hS.1 h) k2 hb2
  refine lv_astore_n (lv' := [(2, .ref hm), (1, .ref h0), (0, .ref b)]) hx hb dL_law_15 rfl hl (by decide) rfl (fun ls hl => ?_)
  refine lv_iconst (v := nI 1) hx hb dL_law_16 (by decide) ?_
  have harr : (Cond.arrayClass .long).before #[Value.ref b] s = true := hts (.arrayClass .long) (by decide +kernel)
  refine va_newa (atype := .long) hx hb harr rfl hE.1 (hb1.app hPx) hD hS1 hA (N' := 1) (a0 := (1, .inr (.inl (fun _ => 0)))) (fun cA => rfl) (nI_pos (by omega)) (nI_clamp (by omega)) (by decide) (Nat.le_of_ble_eq_true rfl) (Nat.le_of_ble_eq_true rfl) dL_law_17 (fun ob cA H2 hK2 hP hD hS => ?_)
  have e1 := (hK2.2 6 (cA, .long) rfl).2
  have e2 := (hE.1.2 5 (ca 5, .long) rfl).2
  have e5 : cA = ca 5 := Option.some.inj (e1.symm.trans e2)
  subst e5
  have hPO : va_P D vwCl (oW ca ob (fun _ => 0) ++ va_pl u.1 u.2) H2 := va_P.app (p2_r hP) (p2_r (p2_l hP))
  have hPM := p2_l (p2_l hP)
  have hD : va_D (fun q => s.heap.size ≤ q) ((oW ca ob (fun _ => 0) ++ va_pl u.1 u.2) ++ mW hm ad ca 0 0 0 0 0 (fun _ _ => 0)) := w2_s3 hD
  refine lv_astore_n (lv' := [(3, .ref ob), (2, .ref hm), (1, .ref h0), (0, .ref b)]) hx hb dL_law_19 rfl hl (by decide) rfl (fun ls hl => ?_)
  refine lv_iconst (v := nI 0) hx hb dL_law_20 (by decide) ?_
  refine lv_istore (lv' := [(4, .int (nI 0)), (3, .ref ob), (2, .ref hm), (1, .ref h0), (0, .ref b)]) hx hb dL_law_21 hl (by decide) rfl (fun ls hl => ?_)
  refine lw_loop (ad := ad) (hm := hm) (h0 := h0) (ob := ob) C1 (fun H locs ls cells slots hc hs hS => ?_) 512 0 H2 _ ls (0, 0, 0, (fun _ => (0, 0)), (fun _ => (0, 0, 0, 0)), (fun _ _ => 0), (fun _ _ => [])) 0 (fun _ _ => 0) 0 u.1 u.2 (fun _ => 0) _ _ rfl (Nat.le_of_ble_eq_true rfl) (Nat.le_of_ble_eq_true rfl) ⟨i_new, hu, hPO, hPM, hD, hS, lv_sub hl [4, 3, 2, 1, 0] rfl⟩
  refine lv_iconst (v := 1) hx hb dL_law_1557 (by decide) ?_
  refine va_forget (fun q hq => hS.2.2 q hq) ?_
  refine W.widen (k := 601024) (n := 7293034) hc hs ?_
  exact lw_ret hx hb hr hlocks dL_law_1558
