/-! the law from its entry -/
set_option maxHeartbeats 4000000 in
set_option maxRecDepth 100000 in
theorem whole_start {p : Program} {e : Env} {s : State} {m : MethodId} {below : List Frame} {meth : Method} {c : Code} (l : Launch) (hflags : l.flags = flags0) {b L : Nat} {xs : Nat → Int32} (hL : L ≤ 260) (C0 : lw_At p s m meth c b L xs) : W p l e room_1 s m #[Value.ref b] below meth c s.heap [] 0 0 (lw_Z below #[Value.ref b] s) (entryFrame m ([Value.ref b] : List Value).toArray 12) := by
  obtain ⟨hx, hb, hr, hml, hown, hl9, hX, hbl, hlocks, hn⟩ := C0
  obtain ⟨D, ca, sa, hE⟩ := s_env hl9 hn
  have hts : ∀ w ∈ wsL_law, w.before #[Value.ref b] s = true := fun w h => hl9 w (wsL_law_in w h)
  have C1 : lw_C p s m c b L xs D ca sa := ⟨⟨hx, hb, hml, hown, hts⟩, hX, hbl, hL, hE⟩
  have hl := lv_entry ([.ref b]) (n := 12) (Nat.le_of_ble_eq_true rfl)
  rw [lg_entry_eq]
  generalize (lg_sl ([.ref b]) ++ List.replicate (12 - (lg_sl ([.ref b])).length) Slot.unset).toArray = ls at hl ⊢
  have hl : lv_has ls 12 [(0, .ref b)] := hl
  have hA : ∀ q : Nat, s.heap.size ≤ q → (fun q => s.heap.size ≤ q) q := fun _ h => h
  have hbA : ¬ (fun q => s.heap.size ≤ q) b := Nat.not_le.mpr hbl
  have hP : va_P D vwCl (va_pl [] (fun _ => .inr (0, []))) s.heap := fun k q h => by cases h
  have hD : va_D (fun q => s.heap.size ≤ q) (va_pl [] (fun _ => .inr (0, []))) := ⟨fun i j p q h => (by cases h), fun k q h => (by cases h)⟩
  have hS : va_S (fun q => s.heap.size ≤ q) s.heap s.heap [] := va_S.rf
  have harr : (Cond.arrayClass .int).before #[Value.ref b] s = true := hts (.arrayClass .int) (by decide +kernel)
  refine znew (own := RL) (ci := 4) (fs := [.null, .null, .int 0, .int 0, .int 0, .int 0]) (C := RX4) (T := TX4) (N := 6) hx hb hts (by decide +kernel) tyX4 tyX4_ok hown (hts (.classLink RL 11 RX4) (by decide +kernel)) (hts (.instantiable RX4 6) (by decide +kernel)) (hts (.initialized RX4) (by decide +kernel)) hE hP hD hS hA rfl (fun j hj => by rcases (show j = 0 ∨ j = 1 ∨ j = 2 ∨ j = 3 ∨ j = 4 ∨ j = 5 by omega) with rfl | rfl | rfl | rfl | rfl | rfl <;> rfl) (Nat.le_of_ble_eq_true rfl) (Nat.le_of_ble_eq_true rfl) dL_law_0 (fun h0 H hn_0 hP hD hS => ?_)
  have hz0 : zat ([] ++ [h0]) (va_up (fun _ => .inr (0, [])) h0 (.inr (4, [.null, .null, .int 0, .int 0, .int 0, .int 0]))) h0 (.inr (4, [.null, .null, .int 0, .int 0, .int 0, .int 0])) := zat_new
  refine lv_dup hx hb dL_law_3 rfl ?_
  refine zwcv (va_runI (As := []) (rest := [.ref h0]) ⟨hx, hb, hml, hown, hts⟩ (w_LR l D ca sa ([] ++ [h0]) (va_up (fun _ => .inr (0, [])) h0 (.inr (4, [.null, .null, .int 0, .int 0, .int 0, .int 0]))) h0 hz0 _) (cwI 0 hts gL_law_X4_init rfl rfl rfl (hts (.initialized RX4) (by decide +kernel)) (hts (.methodLink RL 94 yX4_init) (by decide +kernel)) (hts (.instanceMethod yX4_init) (by decide +kernel)) rfl (by decide +kernel) ⟨Nat.le_of_ble_eq_true rfl, Nat.le_of_ble_eq_true rfl⟩) (zmSi hP hD hE) rfl rfl hl.1 rfl (lv_room (Nat.le_of_ble_eq_true rfl)) dL_law_4 ⟨Nat.le_of_ble_eq_true rfl, Nat.le_of_ble_eq_true rfl⟩) hD hS hA (fun u H locs hu hP hD hS => ?_)
  refine lv_astore_n (lv' := [(1, .ref h0), (0, .ref b)]) hx hb dL_law_7 rfl hl (by decide) rfl (fun ls hl => ?_)
  refine lv_bipush (v := nI 41) hx hb dL_law_8 (by decide) ?_
  refine va_newa (atype := .int) hx hb harr rfl hE.1 hP hD hS hA (N' := 41) (a0 := (41, .inl (fun _ => 0))) (fun cA => rfl) (nI_pos (by omega)) (nI_clamp (by omega)) (by decide) (Nat.le_of_ble_eq_true rfl) (Nat.le_of_ble_eq_true rfl) dL_law_10 (fun q0 cA H hK2 hP hD hS => ?_)
  have e1 := (hK2.2 4 (cA, .int) rfl).2
  have e2 := (hE.1.2 3 (ca 3, .int) rfl).2
  have e5 : cA = ca 3 := Option.some.inj (e1.symm.trans e2)
  subst e5
  refine lv_astore_n (lv' := [(2, .ref q0), (1, .ref h0), (0, .ref b)]) hx hb dL_law_12 rfl hl (by decide) rfl (fun ls hl => ?_)
  refine lv_bipush (v := nI 24) hx hb dL_law_13 (by decide) ?_
  refine va_newa (atype := .int) hx hb harr rfl hE.1 hP hD hS hA (N' := 24) (a0 := (24, .inl (fun _ => 0))) (fun cA => rfl) (nI_pos (by omega)) (nI_clamp (by omega)) (by decide) (Nat.le_of_ble_eq_true rfl) (Nat.le_of_ble_eq_true rfl) dL_law_15 (fun q1 cA H hK2 hP hD hS => ?_)
  have e1 := (hK2.2 4 (cA, .int) rfl).2
  have e2 := (hE.1.2 3 (ca 3, .int) rfl).2
  have e5 : cA = ca 3 := Option.some.inj (e1.symm.trans e2)
  subst e5
  refine lv_astore_n (lv' := [(3, .ref q1), (2, .ref q0), (1, .ref h0), (0, .ref b)]) hx hb dL_law_17 rfl hl (by decide) rfl (fun ls hl => ?_)
  refine lv_bipush (v := nI 24) hx hb dL_law_18 (by decide) ?_
  refine va_newa (atype := .int) hx hb harr rfl hE.1 hP hD hS hA (N' := 24) (a0 := (24, .inl (fun _ => 0))) (fun cA => rfl) (nI_pos (by omega)) (nI_clamp (by omega)) (by decide) (Nat.le_of_ble_eq_true rfl) (Nat.le_of_ble_eq_true rfl) dL_law_20 (fun q2 cA H hK2 hP hD hS => ?_)
  have e1 := (hK2.2 4 (cA, .int) rfl).2
  have e2 := (hE.1.2 3 (ca 3, .int) rfl).2
  have e5 : cA = ca 3 := Option.some.inj (e1.symm.trans e2)
  subst e5
  refine lv_astore (lv' := [(4, .ref q2), (3, .ref q1), (2, .ref q0), (1, .ref h0), (0, .ref b)]) hx hb dL_law_22 hl (by decide) rfl (fun ls hl => ?_)
  obtain ⟨aa, ha0, ha1, ha2⟩ : ∃ aa : Nat → Nat, aa 0 = q0 ∧ aa 1 = q1 ∧ aa 2 = q2 := ⟨fun j => [q0, q1, q2].getD j 0, rfl, rfl, rfl⟩
  subst ha0
  subst ha1
  subst ha2
  rw [List.append_assoc, List.append_assoc] at hP hD
  have hD : va_D (fun q => s.heap.size ≤ q) (va_pl u.1 u.2 ++ tW ca aa (fun _ _ => 0)) := hD
  have hPT : va_P D vwCl (va_pl u.1 u.2 ++ tW ca aa (fun _ _ => 0)) H := hP
  have hP := p2_l hPT
  have hT := p2_r hPT
  have huc := hu
  obtain ⟨_, _, _, _, _, _, _, hR⟩ := huc
  have h4 := hR.1.1
  refine lv_aload_n hx hb dL_law_24 rfl (lv_at hl 3 rfl) ?_
  refine zci (va_runV (As := []) (rest := []) ⟨hx, hb, hml, hown, hts⟩ (c_today l D ca sa u.1 u.2 h0 _ _ _ _ _ _ _ _ _ hR) (cwV 0 hts gL_law_X4_today rfl rfl rfl (by decide +kernel) ⟨Nat.le_of_ble_eq_true rfl, Nat.le_of_ble_eq_true rfl⟩) (zpVp hP hE rfl h4) rfl rfl hl.1 rfl (lv_room (Nat.le_of_ble_eq_true rfl)) dL_law_25 (by show _ ≤ 869745 ∧ _ ≤ 6492463; omega)) ?_
  refine nif_ne (tgt := 35) hx hb dL_law_28 (by decide) (by decide) (fun c_28 => ?_) (fun c_28 => ?_)
  · exact absurd rfl c_28
  · refine lv_iconst (v := nI 1) hx hb dL_law_31 (by decide) ?_
    refine lv_goto (tgt := 36) hx hb dL_law_32 (by decide) ?_
    refine lv_istore (lv' := [(5, .int (nI 1)), (4, .ref (aa 2)), (3, .ref (aa 1)), (2, .ref (aa 0)), (1, .ref h0), (0, .ref b)]) hx hb dL_law_36 hl (by decide) rfl (fun ls hl => ?_)
    refine lv_aload_n hx hb dL_law_38 rfl (lv_at hl 5 rfl) ?_
    refine va_slen hx hb hX hbl hbA hS dL_law_39 ?_
    refine zasi (show Int32.ofNat L = nI L from rfl) ?_
    refine lv_iconst (v := nI 3) hx hb dL_law_40 (by decide) ?_
    refine ndiv hx hb (by omega) (by omega) (by omega) dL_law_41 ?_
    refine lv_bipush (v := nI 70) hx hb dL_law_42 (by decide) ?_
    refine tern (M := 56) (rest := []) (P := fun v9 : Nat => v9 ≤ 70 ∧ 3 * v9 ≤ L) (fun K9 => ?_) (fun st hst => ?_)
    · refine nicmp_le (tgt := 52) hx hb dL_law_44 (by decide) (by omega) (by omega) (fun c_44 => ?_) (fun c_44 => ?_)
      · refine lv_aload_n hx hb dL_law_52 rfl (lv_at hl 5 rfl) ?_
        refine va_slen hx hb hX hbl hbA hS dL_law_53 ?_
        refine zasi (show Int32.ofNat L = nI L from rfl) ?_
        refine lv_iconst (v := nI 3) hx hb dL_law_54 (by decide) ?_
        refine ndiv hx hb (by omega) (by omega) (by omega) dL_law_55 ?_
        exact K9 (L / 3) (by omega)
      · refine lv_bipush (v := nI 70) hx hb dL_law_47 (by decide) ?_
        refine lv_goto (tgt := 56) hx hb dL_law_49 (by decide) ?_
        exact K9 70 (by omega)
    refine lv_istore (lv' := [(6, .int (nI st)), (5, .int (nI 1)), (4, .ref (aa 2)), (3, .ref (aa 1)), (2, .ref (aa 0)), (1, .ref h0), (0, .ref b)]) hx hb dL_law_56 hl (by decide) rfl (fun ls hl => ?_)
    refine lv_iconst (v := nI 0) hx hb dL_law_58 (by decide) ?_
    refine lv_istore (lv' := [(7, .int (nI 0)), (6, .int (nI st)), (5, .int (nI 1)), (4, .ref (aa 2)), (3, .ref (aa 1)), (2, .ref (aa 0)), (1, .ref h0), (0, .ref b)]) hx hb dL_law_59 hl (by decide) rfl (fun ls hl => ?_)
    exact lw_loop (aa := aa) (h0 := h0) C1 hst.1 hst.2 (fun H locs ls cells slots hc hs hS hl => by
      refine lv_iload hx hb dL_law_285 (lv_at hl 0 rfl) ?_
      refine zasi (show nI 1 = 1 from rfl) ?_
      refine va_forget (fun q hq => hS.2.2 q hq) ?_
      refine W.widen (k := 869745) (n := 6492463) hc hs ?_
      exact lw_ret hx hb hr hlocks dL_law_287) st 0 H _ ls (0, 0, 0, (fun _ => (0, 0)), (fun _ => (0, 0, 0, 0)), (fun _ _ => 0), (fun _ _ => [])) (fun _ _ => 0) u.1 u.2 _ _ (Nat.zero_add _) (by omega) (by omega) ⟨j_new, hu, hP, hT, hD, hS, lv_sub hl [0, 1, 2, 7, 6, 5, 4, 3] rfl⟩
