/-! one step of the law, the rest -/
set_option maxHeartbeats 4000000 in
set_option maxRecDepth 100000 in
theorem sp_go {p : Program} {l : Launch} {e : Env} {s : State} {m : MethodId} {below : List Frame} {meth : Method} {c : Code} {D : va_G} {ca : Nat → ClassId} {sa : Nat → Nat} {L : List Nat} {f : Nat → va_E} {h0 ta pa : Nat} {aT aP aS : Nat → Nat} {aH : Nat → Nat → Nat} {n K : Nat} {V : zV} {aa : Nat → Nat} {T : zT} {A : Nat → Prop} {Q : State → Prop} {w9 a b : Nat} {ls : Array Slot} (hR : zRep L f ca h0 ta pa aT aP aS aH n K V) (J : Jv V T) (hK : K < 512) (hw9 : w9 < 2147483648) (ha9 : a < 2147483648) (hb9 : b < 2147483648) (C : sp_C p s m meth c ([.ref h0, .ref (aa 0), .ref (aa 1), .ref (aa 2), .int (nI w9), .int (nI a), .int (nI b)] : List Value).toArray D ca sa) (S : sp_S s D ca L f aa T A) (F : sp_F p l e (headSpec wsL_step ({ frames := 10, cells := 23, slots := 68, locals := 480 })).room s m ([.ref h0, .ref (aa 0), .ref (aa 1), .ref (aa 2), .int (nI w9), .int (nI a), .int (nI b)] : List Value).toArray below meth c D ca aa A h0 K Q) {pk tt : Nat} (q9 : pk < vNp V) (t9 : tt < vNt V) (hl : lv_has ls 22 [(11, .int (nI (4 * pk + tt))), (10, .int (nI tt)), (9, .int (nI pk)), (8, .int (nI (vNt V))), (7, .int (nI (vNp V))), (0, .ref h0), (1, .ref (aa 0)), (2, .ref (aa 1)), (3, .ref (aa 2)), (4, .int (nI w9)), (5, .int (nI a)), (6, .int (nI b))]) : W p l e (headSpec wsL_step ({ frames := 10, cells := 23, slots := 68, locals := 480 })).room s m ([.ref h0, .ref (aa 0), .ref (aa 1), .ref (aa 2), .int (nI w9), .int (nI a), .int (nI b)] : List Value).toArray below meth c s.heap [] 0 0 Q (F0 m 594 ls []) := by
  have C0 := C
  have S0 := S
  obtain ⟨⟨hx, hb, hml, hown, hts⟩, hE⟩ := C
  obtain ⟨hP, hT, hD, hA⟩ := S
  have hS : va_S A s.heap s.heap [] := va_S.rf
  have h4 := hR.1.1
  have hBd := Bd_of hR
  have htd9 := hBd.1.1
  have hnp9 := J.1.2.1
  have hnt9 := J.1.2.2.2.1
  have t20 : tt < 20 := by omega
  have tt4 : tt < 4 := by omega
  have hS9 := (J.2.2.1 pk q9).2.1.2.2
  have hT9 := ((J.2.2.1 pk q9).2.2 tt tt4).2.1
  have hon := stOk_on ((J.2.2.1 pk q9).2.2 tt tt4).1
  have hwl := stOk_lt ((J.2.2.1 pk q9).2.2 tt tt4).1
  have hbr := ((J.2.2.1 pk q9).2.2 tt tt4).2.2.1
  have hbl := ((hBd.2.2 pk q9).2 tt (by omega)).2
  have hb20 := bN_le (sOn (vL V pk 20))
  refine lv_aload_n hx hb dL_step_594 rfl (lv_at hl 7 rfl) ?_
  refine lv_iload hx hb dL_step_595 (lv_at hl 0 rfl) ?_
  refine zti hx hb hE hT 1 (by decide) (i := (4 * pk + tt)) (by show (4 * pk + tt) < 24; omega) dL_step_597 ?_
  refine lv_iconst (v := nI 2) hx hb dL_step_598 (by decide) ?_
  refine nrem hx hb (by omega) (by omega) (by omega) dL_step_599 ?_
  refine nif_ne (tgt := 624) hx hb dL_step_600 (by decide) (by omega) (fun c_600 => ?_) (fun c_600 => ?_)
  · refine lv_aload_n hx hb dL_step_624 rfl (lv_at hl 7 rfl) ?_
    refine lv_iload hx hb dL_step_625 (lv_at hl 0 rfl) ?_
    refine lv_dup2_11 hx hb dL_step_627 rfl rfl ?_
    refine zti hx hb hE hT 1 (by decide) (i := (4 * pk + tt)) (by show (4 * pk + tt) < 24; omega) dL_step_628 ?_
    refine lv_iconst (v := nI 1) hx hb dL_step_629 (by decide) ?_
    refine nsub hx hb (by omega) dL_step_630 ?_
    refine ztst hx hb hE hP hT hD hS 1 (by decide) (i := (4 * pk + tt)) (v := ((T 1 (4 * pk + tt)) - 1)) (by show (4 * pk + tt) < 24; omega) dL_step_631 (fun H locs hP hT hD hS => ?_)
    refine lv_aload_n hx hb dL_step_632 rfl (lv_at hl 5 rfl) ?_
    refine lv_iload hx hb dL_step_633 (lv_at hl 2 rfl) ?_
    refine lv_iload hx hb dL_step_635 (lv_at hl 1 rfl) ?_
    refine ztwv (va_runV (As := [.int (nI pk), .int (nI tt)]) (rest := []) ⟨hx, hb, hml, hown, hts⟩ (w_go l D ca sa L f h0 ta pa aT aP aS aH n K V hR pk q9 tt t9 (by rw [zOn_all hT9, hon]; exact decide_eq_true (by omega)) hK _) (cwV 2 hts gL_step_X4_go rfl rfl rfl (by decide +kernel) ⟨Nat.le_of_ble_eq_true rfl, Nat.le_of_ble_eq_true rfl⟩) (zmVp hP (w2_l hD) hE rfl h4) rfl rfl hl.1 rfl (lv_room (Nat.le_of_ble_eq_true rfl)) dL_step_637 ⟨Nat.le_of_ble_eq_true rfl, Nat.le_of_ble_eq_true rfl⟩) hT hD hS hA (fun u H locs hu hP hT hD hS => ?_)
    obtain ⟨_, _, _, _, _, _, _, hR9⟩ := hu
    have h4 := hR9.1.1
    have Jn := j_stay J q9 t9 0 0 (T 1 (4 * pk + tt) - 1) (Or.inl ⟨by omega, by omega, by show decide (¬ (0 : Int64) = 0) = false; decide⟩)
    refine lv_aload_n hx hb dL_step_640 rfl (lv_at hl 5 rfl) ?_
    refine lv_iload hx hb dL_step_641 (lv_at hl 2 rfl) ?_
    refine lv_iload hx hb dL_step_643 (lv_at hl 1 rfl) ?_
    refine lv_aload_n hx hb dL_step_645 rfl (lv_at hl 6 rfl) ?_
    refine lv_bipush (v := nI 40) hx hb dL_step_646 (by decide) ?_
    refine zti hx hb hE hT 0 (by decide) (i := 40) (by show 40 < 41; omega) dL_step_648 ?_
    refine zasi (congrArg nI (show ((tU T 1 (4 * pk + tt) ((T 1 (4 * pk + tt)) - 1)) 0 40) = vTd V from Jn.1.2.2.2.2)) ?_
    refine zci (va_runV (As := [.int (nI pk), .int (nI tt), .int (nI (vTd V))]) (rest := []) ⟨hx, hb, hml, hown, hts⟩ (c_isIn l D ca sa u.1 u.2 h0 _ _ _ _ _ _ _ _ _ hR9 pk q9 tt t9 (vTd V) (Nat.le_refl _)) (cwV 3 hts gL_step_X4_isIn rfl rfl rfl (by decide +kernel) ⟨Nat.le_of_ble_eq_true rfl, Nat.le_of_ble_eq_true rfl⟩) (zpVp hP hE rfl h4) rfl rfl hl.1 rfl (lv_room (Nat.le_of_ble_eq_true rfl)) dL_step_649 ⟨Nat.le_of_ble_eq_true rfl, Nat.le_of_ble_eq_true rfl⟩) ?_
    refine zasi (bI_bN _) ?_
    refine zasi (show nI (bN (zOn (vTd V) (zU2 (vL V) pk tt ((vTd V, 0, 0) :: vL V pk tt) pk tt))) = nI 0 from by rw [zU2_s, zOn_all (hT_c hT9 _ _)]; exact congrArg (fun z => nI (bN z)) (show decide (¬ (0 : Int64) = 0) = false by decide)) ?_
    refine nif_ne (tgt := 659) hx hb dL_step_652 (by decide) (by omega) (fun c_652 => ?_) (fun c_652 => ?_)
    · exact absurd rfl c_652
    · refine lv_iconst (v := nI 1) hx hb dL_step_655 (by decide) ?_
      refine lv_goto (tgt := 660) hx hb dL_step_656 (by decide) ?_
      refine W.widen (k := 23) (n := 68) (Nat.le_of_ble_eq_true rfl) (Nat.le_of_ble_eq_true rfl) ?_
      exact F _ _ _ u _ _ _ dL_step_660 Jn ⟨_, _, _, _, _, _, _, hR9⟩ hP hT hD hS
  · refine lv_aload_n hx hb dL_step_603 rfl (lv_at hl 5 rfl) ?_
    refine lv_iload hx hb dL_step_604 (lv_at hl 2 rfl) ?_
    refine lv_iload hx hb dL_step_606 (lv_at hl 1 rfl) ?_
    refine lv_aload_n hx hb dL_step_608 rfl (lv_at hl 6 rfl) ?_
    refine lv_bipush (v := nI 40) hx hb dL_step_609 (by decide) ?_
    refine zti hx hb hE hT 0 (by decide) (i := 40) (by show 40 < 41; omega) dL_step_611 ?_
    refine zasi (congrArg nI (show (T 0 40) = vTd V from J.1.2.2.2.2)) ?_
    refine zci (va_runV (As := [.int (nI pk), .int (nI tt), .int (nI (vTd V))]) (rest := []) ⟨hx, hb, hml, hown, hts⟩ (c_isIn l D ca sa L f h0 ta pa aT aP aS aH n K V hR pk q9 tt t9 (vTd V) (Nat.le_refl _)) (cwV 3 hts gL_step_X4_isIn rfl rfl rfl (by decide +kernel) ⟨Nat.le_of_ble_eq_true rfl, Nat.le_of_ble_eq_true rfl⟩) (zpVp hP hE rfl h4) rfl rfl hl.1 rfl (lv_room (Nat.le_of_ble_eq_true rfl)) dL_step_612 ⟨Nat.le_of_ble_eq_true rfl, Nat.le_of_ble_eq_true rfl⟩) ?_
    refine zasi (bI_bN _) ?_
    refine zasi (show nI (bN (zOn (vTd V) (vL V pk tt))) = nI 0 from by rw [zOn_all hT9, hon, decide_eq_false (by omega)]; rfl) ?_
    refine nif_ne (tgt := 622) hx hb dL_step_615 (by decide) (by omega) (fun c_615 => ?_) (fun c_615 => ?_)
    · exact absurd rfl c_615
    · refine lv_iconst (v := nI 1) hx hb dL_step_618 (by decide) ?_
      refine lv_goto (tgt := 623) hx hb dL_step_619 (by decide) ?_
      refine W.widen (k := 23) (n := 68) (Nat.le_of_ble_eq_true rfl) (Nat.le_of_ble_eq_true rfl) ?_
      exact F _ V T (L, f) _ _ _ dL_step_623 J ⟨_, _, _, _, _, _, _, zRep_up hR (Nat.le_succ K) (by omega)⟩ hP hT hD hS
set_option maxHeartbeats 4000000 in
set_option maxRecDepth 100000 in
theorem sp_pass {p : Program} {l : Launch} {e : Env} {s : State} {m : MethodId} {below : List Frame} {meth : Method} {c : Code} {D : va_G} {ca : Nat → ClassId} {sa : Nat → Nat} {L : List Nat} {f : Nat → va_E} {h0 ta pa : Nat} {aT aP aS : Nat → Nat} {aH : Nat → Nat → Nat} {n K : Nat} {V : zV} {aa : Nat → Nat} {T : zT} {A : Nat → Prop} {Q : State → Prop} {w9 a b : Nat} {ls : Array Slot} (hR : zRep L f ca h0 ta pa aT aP aS aH n K V) (J : Jv V T) (hK : K < 512) (hw9 : w9 < 2147483648) (ha9 : a < 2147483648) (hb9 : b < 2147483648) (C : sp_C p s m meth c ([.ref h0, .ref (aa 0), .ref (aa 1), .ref (aa 2), .int (nI w9), .int (nI a), .int (nI b)] : List Value).toArray D ca sa) (S : sp_S s D ca L f aa T A) (F : sp_F p l e (headSpec wsL_step ({ frames := 10, cells := 23, slots := 68, locals := 480 })).room s m ([.ref h0, .ref (aa 0), .ref (aa 1), .ref (aa 2), .int (nI w9), .int (nI a), .int (nI b)] : List Value).toArray below meth c D ca aa A h0 K Q) {pk tt : Nat} (q9 : pk < vNp V) (t9 : tt < vNt V) (hl : lv_has ls 22 [(11, .int (nI (4 * pk + tt))), (10, .int (nI tt)), (9, .int (nI pk)), (8, .int (nI (vNt V))), (7, .int (nI (vNp V))), (0, .ref h0), (1, .ref (aa 0)), (2, .ref (aa 1)), (3, .ref (aa 2)), (4, .int (nI w9)), (5, .int (nI a)), (6, .int (nI b))]) : W p l e (headSpec wsL_step ({ frames := 10, cells := 23, slots := 68, locals := 480 })).room s m ([.ref h0, .ref (aa 0), .ref (aa 1), .ref (aa 2), .int (nI w9), .int (nI a), .int (nI b)] : List Value).toArray below meth c s.heap [] 0 0 Q (F0 m 661 ls []) := by
  have C0 := C
  have S0 := S
  obtain ⟨⟨hx, hb, hml, hown, hts⟩, hE⟩ := C
  obtain ⟨hP, hT, hD, hA⟩ := S
  have hS : va_S A s.heap s.heap [] := va_S.rf
  have h4 := hR.1.1
  have hBd := Bd_of hR
  have htd9 := hBd.1.1
  have hnp9 := J.1.2.1
  have hnt9 := J.1.2.2.2.1
  have t20 : tt < 20 := by omega
  have tt4 : tt < 4 := by omega
  have hS9 := (J.2.2.1 pk q9).2.1.2.2
  have hT9 := ((J.2.2.1 pk q9).2.2 tt tt4).2.1
  have hon := stOk_on ((J.2.2.1 pk q9).2.2 tt tt4).1
  have hwl := stOk_lt ((J.2.2.1 pk q9).2.2 tt tt4).1
  have hbr := ((J.2.2.1 pk q9).2.2 tt tt4).2.2.1
  have hbl := ((hBd.2.2 pk q9).2 tt (by omega)).2
  have hb20 := bN_le (sOn (vL V pk 20))
  refine lv_iconst (v := nI 1) hx hb dL_step_661 (by decide) ?_
  refine lv_iload hx hb dL_step_662 (lv_at hl 11 rfl) ?_
  refine lv_iload hx hb dL_step_664 (lv_at hl 10 rfl) ?_
  refine lv_iconst (v := nI 3) hx hb dL_step_666 (by decide) ?_
  refine nrem hx hb (by omega) (by omega) (by omega) dL_step_667 ?_
  refine tern (M := 680) (rest := [.int (nI b), .int (nI 1)]) (P := fun v9 : Nat => v9 = 1000 ∨ v9 = 200) (fun K9 => ?_) (fun m1 hm1 => ?_)
  · refine nif_ne (tgt := 677) hx hb dL_step_668 (by decide) (by omega) (fun c_668 => ?_) (fun c_668 => ?_)
    · refine lv_sipush (v := nI 200) hx hb dL_step_677 (by decide) ?_
      exact K9 200 (by first | exact Or.inl rfl | exact Or.inr rfl)
    · refine lv_sipush (v := nI 1000) hx hb dL_step_671 (by decide) ?_
      refine lv_goto (tgt := 680) hx hb dL_step_674 (by decide) ?_
      exact K9 1000 (by first | exact Or.inl rfl | exact Or.inr rfl)
  refine nrem hx hb (by omega) (by omega) (by omega) dL_step_680 ?_
  have hdd : (b % m1) < 1000 := by
    have h7 := Nat.mod_lt b (show 0 < m1 by omega)
    omega
  generalize (b % m1) = dd at hdd ⊢
  refine nadd hx hb dL_step_681 ?_
  refine lv_istore (lv' := [(17, .int (nI (1 + dd))), (11, .int (nI (4 * pk + tt))), (10, .int (nI tt)), (9, .int (nI pk)), (8, .int (nI (vNt V))), (7, .int (nI (vNp V))), (0, .ref h0), (1, .ref (aa 0)), (2, .ref (aa 1)), (3, .ref (aa 2)), (4, .int (nI w9)), (5, .int (nI a)), (6, .int (nI b))]) hx hb dL_step_682 hl (by decide) rfl (fun ls hl => ?_)
  refine lv_aload_n hx hb dL_step_684 rfl (lv_at hl 7 rfl) ?_
  refine lv_bipush (v := nI 40) hx hb dL_step_685 (by decide) ?_
  refine zti hx hb hE hT 0 (by decide) (i := 40) (by show 40 < 41; omega) dL_step_687 ?_
  refine zasi (congrArg nI (show (T 0 40) = vTd V from J.1.2.2.2.2)) ?_
  refine lv_iload hx hb dL_step_688 (lv_at hl 0 rfl) ?_
  refine nadd hx hb dL_step_690 ?_
  refine lv_sipush (v := nI 20000) hx hb dL_step_691 (by decide) ?_
  refine nicmp_le (tgt := 714) hx hb dL_step_694 (by decide) (by omega) (by omega) (fun c_694 => ?_) (fun c_694 => ?_)
  · refine lv_aload_n hx hb dL_step_714 rfl (lv_at hl 6 rfl) ?_
    refine lv_iload hx hb dL_step_715 (lv_at hl 3 rfl) ?_
    refine lv_aload_n hx hb dL_step_717 rfl (lv_at hl 7 rfl) ?_
    refine lv_bipush (v := nI 40) hx hb dL_step_718 (by decide) ?_
    refine zti hx hb hE hT 0 (by decide) (i := 40) (by show 40 < 41; omega) dL_step_720 ?_
    refine zasi (congrArg nI (show (T 0 40) = vTd V from J.1.2.2.2.2)) ?_
    refine zci (va_runV (As := [.int (nI pk), .int (nI (vTd V))]) (rest := []) ⟨hx, hb, hml, hown, hts⟩ (c_isSub l D ca sa L f h0 ta pa aT aP aS aH n K V hR pk q9 (vTd V) (Nat.le_refl _)) (cwV 2 hts gL_step_X4_isSubscribed rfl rfl rfl (by decide +kernel) ⟨Nat.le_of_ble_eq_true rfl, Nat.le_of_ble_eq_true rfl⟩) (zpVp hP hE rfl h4) rfl rfl hl.1 rfl (lv_room (Nat.le_of_ble_eq_true rfl)) dL_step_721 ⟨Nat.le_of_ble_eq_true rfl, Nat.le_of_ble_eq_true rfl⟩) ?_
    refine zasi (bI_bN _) ?_
    refine lv_istore (lv' := [(18, .int (nI (bN (zOn (vTd V) (vL V pk 20))))), (17, .int (nI (1 + dd))), (11, .int (nI (4 * pk + tt))), (10, .int (nI tt)), (9, .int (nI pk)), (8, .int (nI (vNt V))), (7, .int (nI (vNp V))), (0, .ref h0), (1, .ref (aa 0)), (2, .ref (aa 1)), (3, .ref (aa 2)), (4, .int (nI w9)), (5, .int (nI a)), (6, .int (nI b))]) hx hb dL_step_724 hl (by decide) rfl (fun ls hl => ?_)
    refine lv_aload_n hx hb dL_step_726 rfl (lv_at hl 7 rfl) ?_
    refine lv_iload hx hb dL_step_727 (lv_at hl 4 rfl) ?_
    refine lv_iload hx hb dL_step_729 (lv_at hl 3 rfl) ?_
    refine lv_aload_n hx hb dL_step_731 rfl (lv_at hl 8 rfl) ?_
    refine lv_bipush (v := nI 40) hx hb dL_step_732 (by decide) ?_
    refine zti hx hb hE hT 0 (by decide) (i := 40) (by show 40 < 41; omega) dL_step_734 ?_
    refine zasi (congrArg nI (show (T 0 40) = vTd V from J.1.2.2.2.2)) ?_
    refine zci (va_runV (As := [.int (nI pk), .int (nI tt), .int (nI (vTd V))]) (rest := []) ⟨hx, hb, hml, hown, hts⟩ (c_isIn l D ca sa L f h0 ta pa aT aP aS aH n K V hR pk q9 tt t9 (vTd V) (Nat.le_refl _)) (cwV 3 hts gL_step_X4_isIn rfl rfl rfl (by decide +kernel) ⟨Nat.le_of_ble_eq_true rfl, Nat.le_of_ble_eq_true rfl⟩) (zpVp hP hE rfl h4) rfl rfl hl.1 rfl (lv_room (Nat.le_of_ble_eq_true rfl)) dL_step_735 ⟨Nat.le_of_ble_eq_true rfl, Nat.le_of_ble_eq_true rfl⟩) ?_
    refine zasi (bI_bN _) ?_
    refine lv_istore (lv' := [(19, .int (nI (bN (zOn (vTd V) (vL V pk tt))))), (18, .int (nI (bN (zOn (vTd V) (vL V pk 20))))), (17, .int (nI (1 + dd))), (11, .int (nI (4 * pk + tt))), (10, .int (nI tt)), (9, .int (nI pk)), (8, .int (nI (vNt V))), (7, .int (nI (vNp V))), (0, .ref h0), (1, .ref (aa 0)), (2, .ref (aa 1)), (3, .ref (aa 2)), (4, .int (nI w9)), (5, .int (nI a)), (6, .int (nI b))]) hx hb dL_step_738 hl (by decide) rfl (fun ls hl => ?_)
    refine lv_aload_n hx hb dL_step_740 rfl (lv_at hl 9 rfl) ?_
    refine lv_bipush (v := nI 40) hx hb dL_step_741 (by decide) ?_
    refine zti hx hb hE hT 0 (by decide) (i := 40) (by show 40 < 41; omega) dL_step_743 ?_
    refine zasi (congrArg nI (show (T 0 40) = vTd V from J.1.2.2.2.2)) ?_
    refine lv_istore (lv' := [(20, .int (nI (vTd V))), (19, .int (nI (bN (zOn (vTd V) (vL V pk tt))))), (18, .int (nI (bN (zOn (vTd V) (vL V pk 20))))), (17, .int (nI (1 + dd))), (11, .int (nI (4 * pk + tt))), (10, .int (nI tt)), (9, .int (nI pk)), (8, .int (nI (vNt V))), (7, .int (nI (vNp V))), (0, .ref h0), (1, .ref (aa 0)), (2, .ref (aa 1)), (3, .ref (aa 2)), (4, .int (nI w9)), (5, .int (nI a)), (6, .int (nI b))]) hx hb dL_step_744 hl (by decide) rfl (fun ls hl => ?_)
    refine lv_aload_n hx hb dL_step_746 rfl (lv_at hl 10 rfl) ?_
    refine lv_bipush (v := nI 40) hx hb dL_step_747 (by decide) ?_
    refine lv_dup2_11 hx hb dL_step_749 rfl rfl ?_
    refine zti hx hb hE hT 0 (by decide) (i := 40) (by show 40 < 41; omega) dL_step_750 ?_
    refine zasi (congrArg nI (show (T 0 40) = vTd V from J.1.2.2.2.2)) ?_
    refine lv_iload hx hb dL_step_751 (lv_at hl 3 rfl) ?_
    refine nadd hx hb dL_step_753 ?_
    refine ztst hx hb hE hP hT hD hS 0 (by decide) (i := 40) (v := ((vTd V) + (1 + dd))) (by show 40 < 41; omega) dL_step_754 (fun H locs hP hT hD hS => ?_)
    refine lv_aload_n hx hb dL_step_755 rfl (lv_at hl 9 rfl) ?_
    refine lv_iload hx hb dL_step_756 (lv_at hl 3 rfl) ?_
    refine ztw (va_runV (As := [.int (nI (1 + dd))]) (rest := []) ⟨hx, hb, hml, hown, hts⟩ (w_pass l D ca sa L f h0 ta pa aT aP aS aH n K V hR (1 + dd) (by omega) (by omega) c_694 hK _) (cwV 1 hts gL_step_X4_pass rfl rfl rfl (by decide +kernel) ⟨Nat.le_of_ble_eq_true rfl, Nat.le_of_ble_eq_true rfl⟩) (zmVp hP (w2_l hD) hE rfl h4) rfl rfl hl.1 rfl (lv_room (Nat.le_of_ble_eq_true rfl)) dL_step_758 ⟨Nat.le_of_ble_eq_true rfl, Nat.le_of_ble_eq_true rfl⟩) hT hD hS hA (fun r u H locs hu hP hT hD hS => ?_)
    obtain ⟨rfl, hu⟩ := hu
    obtain ⟨_, _, _, _, _, _, _, hR9⟩ := hu
    have h4 := hR9.1.1
    have Jn := j_pass J (1 + dd)
    refine lv_aload_n hx hb dL_step_761 rfl (lv_at hl 10 rfl) ?_
    refine lv_bipush (v := nI 40) hx hb dL_step_762 (by decide) ?_
    refine zti hx hb hE hT 0 (by decide) (i := 40) (by show 40 < 41; omega) dL_step_764 ?_
    refine zasi (congrArg nI (show ((tU T 0 40 ((vTd V) + (1 + dd))) 0 40) = vTd V + (1 + dd) from tU_s _ _ _ _)) ?_
    refine nicmp_ne (tgt := 817) hx hb dL_step_765 (by decide) (by omega) (by omega) (fun c_765 => ?_) (fun c_765 => ?_)
    · exact absurd rfl c_765
    · refine lv_aload_n hx hb dL_step_768 rfl (lv_at hl 9 rfl) ?_
      refine lv_iload hx hb dL_step_769 (lv_at hl 6 rfl) ?_
      refine lv_iload hx hb dL_step_771 (lv_at hl 0 rfl) ?_
      refine zci (va_runV (As := [.int (nI pk), .int (nI (vTd V))]) (rest := []) ⟨hx, hb, hml, hown, hts⟩ (c_isSub l D ca sa u.1 u.2 h0 _ _ _ _ _ _ _ _ _ hR9 pk q9 (vTd V) (Nat.le_add_right _ _)) (cwV 2 hts gL_step_X4_isSubscribed rfl rfl rfl (by decide +kernel) ⟨Nat.le_of_ble_eq_true rfl, Nat.le_of_ble_eq_true rfl⟩) (zpVp hP hE rfl h4) rfl rfl hl.1 rfl (lv_room (Nat.le_of_ble_eq_true rfl)) dL_step_773 ⟨Nat.le_of_ble_eq_true rfl, Nat.le_of_ble_eq_true rfl⟩) ?_
      refine zasi (bI_bN _) ?_
      refine lv_iload hx hb dL_step_776 (lv_at hl 2 rfl) ?_
      refine nicmp_ne (tgt := 817) hx hb dL_step_778 (by decide) (Nat.lt_trans (bN_le _) (by decide)) (Nat.lt_trans (bN_le _) (by decide)) (fun c_778 => ?_) (fun c_778 => ?_)
      · exact absurd rfl c_778
      · refine lv_aload_n hx hb dL_step_781 rfl (lv_at hl 9 rfl) ?_
        refine lv_iload hx hb dL_step_782 (lv_at hl 6 rfl) ?_
        refine lv_aload_n hx hb dL_step_784 rfl (lv_at hl 10 rfl) ?_
        refine lv_bipush (v := nI 40) hx hb dL_step_785 (by decide) ?_
        refine zti hx hb hE hT 0 (by decide) (i := 40) (by show 40 < 41; omega) dL_step_787 ?_
        refine zasi (congrArg nI (show ((tU T 0 40 ((vTd V) + (1 + dd))) 0 40) = vTd V + (1 + dd) from tU_s _ _ _ _)) ?_
        refine zci (va_runV (As := [.int (nI pk), .int (nI (vTd V + (1 + dd)))]) (rest := []) ⟨hx, hb, hml, hown, hts⟩ (c_isSub l D ca sa u.1 u.2 h0 _ _ _ _ _ _ _ _ _ hR9 pk q9 (vTd V + (1 + dd)) (Nat.le_refl _)) (cwV 2 hts gL_step_X4_isSubscribed rfl rfl rfl (by decide +kernel) ⟨Nat.le_of_ble_eq_true rfl, Nat.le_of_ble_eq_true rfl⟩) (zpVp hP hE rfl h4) rfl rfl hl.1 rfl (lv_room (Nat.le_of_ble_eq_true rfl)) dL_step_788 ⟨Nat.le_of_ble_eq_true rfl, Nat.le_of_ble_eq_true rfl⟩) ?_
        refine zasi (bI_bN _) ?_
        refine zasi (show nI (bN (zOn (vTd V + (1 + dd)) (vL V pk 20))) = nI (bN (zOn (vTd V) (vL V pk 20))) from by rw [zOn_all (hT_up hS9 _), zOn_all hS9]) ?_
        refine lv_iload hx hb dL_step_791 (lv_at hl 2 rfl) ?_
        refine nicmp_ne (tgt := 817) hx hb dL_step_793 (by decide) (Nat.lt_trans (bN_le _) (by decide)) (Nat.lt_trans (bN_le _) (by decide)) (fun c_793 => ?_) (fun c_793 => ?_)
        · exact absurd rfl c_793
        · refine lv_aload_n hx hb dL_step_796 rfl (lv_at hl 9 rfl) ?_
          refine lv_iload hx hb dL_step_797 (lv_at hl 6 rfl) ?_
          refine lv_iload hx hb dL_step_799 (lv_at hl 5 rfl) ?_
          refine lv_aload_n hx hb dL_step_801 rfl (lv_at hl 10 rfl) ?_
          refine lv_bipush (v := nI 40) hx hb dL_step_802 (by decide) ?_
          refine zti hx hb hE hT 0 (by decide) (i := 40) (by show 40 < 41; omega) dL_step_804 ?_
          refine zasi (congrArg nI (show ((tU T 0 40 ((vTd V) + (1 + dd))) 0 40) = vTd V + (1 + dd) from tU_s _ _ _ _)) ?_
          refine zci (va_runV (As := [.int (nI pk), .int (nI tt), .int (nI (vTd V + (1 + dd)))]) (rest := []) ⟨hx, hb, hml, hown, hts⟩ (c_isIn l D ca sa u.1 u.2 h0 _ _ _ _ _ _ _ _ _ hR9 pk q9 tt t9 (vTd V + (1 + dd)) (Nat.le_refl _)) (cwV 3 hts gL_step_X4_isIn rfl rfl rfl (by decide +kernel) ⟨Nat.le_of_ble_eq_true rfl, Nat.le_of_ble_eq_true rfl⟩) (zpVp hP hE rfl h4) rfl rfl hl.1 rfl (lv_room (Nat.le_of_ble_eq_true rfl)) dL_step_805 ⟨Nat.le_of_ble_eq_true rfl, Nat.le_of_ble_eq_true rfl⟩) ?_
          refine zasi (bI_bN _) ?_
          refine zasi (show nI (bN (zOn (vTd V + (1 + dd)) (vL V pk tt))) = nI (bN (zOn (vTd V) (vL V pk tt))) from by rw [zOn_all (hT_up hT9 _), zOn_all hT9]) ?_
          refine lv_iload hx hb dL_step_808 (lv_at hl 1 rfl) ?_
          refine nicmp_ne (tgt := 817) hx hb dL_step_810 (by decide) (Nat.lt_trans (bN_le _) (by decide)) (Nat.lt_trans (bN_le _) (by decide)) (fun c_810 => ?_) (fun c_810 => ?_)
          · exact absurd rfl c_810
          · refine lv_iconst (v := nI 1) hx hb dL_step_813 (by decide) ?_
            refine lv_goto (tgt := 818) hx hb dL_step_814 (by decide) ?_
            refine W.widen (k := 23) (n := 68) (Nat.le_of_ble_eq_true rfl) (Nat.le_of_ble_eq_true rfl) ?_
            exact F _ _ _ u _ _ _ dL_step_818 Jn ⟨_, _, _, _, _, _, _, hR9⟩ hP hT hD hS
  · refine lv_aload_n hx hb dL_step_697 rfl (lv_at hl 6 rfl) ?_
    refine zci (va_runV (As := []) (rest := []) ⟨hx, hb, hml, hown, hts⟩ (c_today l D ca sa L f h0 ta pa aT aP aS aH n K V hR ) (cwV 0 hts gL_step_X4_today rfl rfl rfl (by decide +kernel) ⟨Nat.le_of_ble_eq_true rfl, Nat.le_of_ble_eq_true rfl⟩) (zpVp hP hE rfl h4) rfl rfl hl.1 rfl (lv_room (Nat.le_of_ble_eq_true rfl)) dL_step_698 ⟨Nat.le_of_ble_eq_true rfl, Nat.le_of_ble_eq_true rfl⟩) ?_
    refine lv_aload_n hx hb dL_step_701 rfl (lv_at hl 7 rfl) ?_
    refine lv_bipush (v := nI 40) hx hb dL_step_702 (by decide) ?_
    refine zti hx hb hE hT 0 (by decide) (i := 40) (by show 40 < 41; omega) dL_step_704 ?_
    refine zasi (congrArg nI (show (T 0 40) = vTd V from J.1.2.2.2.2)) ?_
    refine nicmp_ne (tgt := 712) hx hb dL_step_705 (by decide) (by omega) (by omega) (fun c_705 => ?_) (fun c_705 => ?_)
    · exact absurd rfl c_705
    · refine lv_iconst (v := nI 1) hx hb dL_step_708 (by decide) ?_
      refine lv_goto (tgt := 713) hx hb dL_step_709 (by decide) ?_
      refine W.widen (k := 23) (n := 68) (Nat.le_of_ble_eq_true rfl) (Nat.le_of_ble_eq_true rfl) ?_
      exact F _ V T (L, f) _ _ _ dL_step_713 J ⟨_, _, _, _, _, _, _, zRep_up hR (Nat.le_succ K) (by omega)⟩ hP hT hD hS
set_option maxHeartbeats 4000000 in
set_option maxRecDepth 100000 in
theorem sp_rep {p : Program} {l : Launch} {e : Env} {s : State} {m : MethodId} {below : List Frame} {meth : Method} {c : Code} {D : va_G} {ca : Nat → ClassId} {sa : Nat → Nat} {L : List Nat} {f : Nat → va_E} {h0 ta pa : Nat} {aT aP aS : Nat → Nat} {aH : Nat → Nat → Nat} {n K : Nat} {V : zV} {aa : Nat → Nat} {T : zT} {A : Nat → Prop} {Q : State → Prop} {w9 a b : Nat} {ls : Array Slot} (hR : zRep L f ca h0 ta pa aT aP aS aH n K V) (J : Jv V T) (hK : K < 512) (hw9 : w9 < 2147483648) (ha9 : a < 2147483648) (hb9 : b < 2147483648) (C : sp_C p s m meth c ([.ref h0, .ref (aa 0), .ref (aa 1), .ref (aa 2), .int (nI w9), .int (nI a), .int (nI b)] : List Value).toArray D ca sa) (S : sp_S s D ca L f aa T A) (F : sp_F p l e (headSpec wsL_step ({ frames := 10, cells := 23, slots := 68, locals := 480 })).room s m ([.ref h0, .ref (aa 0), .ref (aa 1), .ref (aa 2), .int (nI w9), .int (nI a), .int (nI b)] : List Value).toArray below meth c D ca aa A h0 K Q) {pk tt : Nat} (q9 : pk < vNp V) (t9 : tt < vNt V) (hl : lv_has ls 22 [(11, .int (nI (4 * pk + tt))), (10, .int (nI tt)), (9, .int (nI pk)), (8, .int (nI (vNt V))), (7, .int (nI (vNp V))), (0, .ref h0), (1, .ref (aa 0)), (2, .ref (aa 1)), (3, .ref (aa 2)), (4, .int (nI w9)), (5, .int (nI a)), (6, .int (nI b))]) : W p l e (headSpec wsL_step ({ frames := 10, cells := 23, slots := 68, locals := 480 })).room s m ([.ref h0, .ref (aa 0), .ref (aa 1), .ref (aa 2), .int (nI w9), .int (nI a), .int (nI b)] : List Value).toArray below meth c s.heap [] 0 0 Q (F0 m 819 ls []) := by
  have C0 := C
  have S0 := S
  obtain ⟨⟨hx, hb, hml, hown, hts⟩, hE⟩ := C
  obtain ⟨hP, hT, hD, hA⟩ := S
  have hS : va_S A s.heap s.heap [] := va_S.rf
  have h4 := hR.1.1
  have hBd := Bd_of hR
  have htd9 := hBd.1.1
  have hnp9 := J.1.2.1
  have hnt9 := J.1.2.2.2.1
  have t20 : tt < 20 := by omega
  have tt4 : tt < 4 := by omega
  have hS9 := (J.2.2.1 pk q9).2.1.2.2
  have hT9 := ((J.2.2.1 pk q9).2.2 tt tt4).2.1
  have hon := stOk_on ((J.2.2.1 pk q9).2.2 tt tt4).1
  have hwl := stOk_lt ((J.2.2.1 pk q9).2.2 tt tt4).1
  have hbr := ((J.2.2.1 pk q9).2.2 tt tt4).2.2.1
  have hbl := ((hBd.2.2 pk q9).2 tt (by omega)).2
  have hb20 := bN_le (sOn (vL V pk 20))
  refine lv_aload_n hx hb dL_step_819 rfl (lv_at hl 8 rfl) ?_
  refine lv_iload hx hb dL_step_820 (lv_at hl 0 rfl) ?_
  refine lv_dup2_11 hx hb dL_step_822 rfl rfl ?_
  refine zti hx hb hE hT 2 (by decide) (i := (4 * pk + tt)) (by show (4 * pk + tt) < 24; omega) dL_step_823 ?_
  refine zasi (congrArg nI (show (T 2 (4 * pk + tt)) = vB V pk tt from hbr)) ?_
  refine lv_iconst (v := nI 1) hx hb dL_step_824 (by decide) ?_
  refine nadd hx hb dL_step_825 ?_
  refine ztst hx hb hE hP hT hD hS 2 (by decide) (i := (4 * pk + tt)) (v := ((vB V pk tt) + 1)) (by show (4 * pk + tt) < 24; omega) dL_step_826 (fun H locs hP hT hD hS => ?_)
  refine lv_aload_n hx hb dL_step_827 rfl (lv_at hl 5 rfl) ?_
  refine lv_iload hx hb dL_step_828 (lv_at hl 2 rfl) ?_
  refine lv_iload hx hb dL_step_830 (lv_at hl 1 rfl) ?_
  refine ztw (va_runV (As := [.int (nI pk), .int (nI tt)]) (rest := []) ⟨hx, hb, hml, hown, hts⟩ (w_report l D ca sa L f h0 ta pa aT aP aS aH n K V hR pk q9 tt t9 hK _) (cwV 2 hts gL_step_X4_report rfl rfl rfl (by decide +kernel) ⟨Nat.le_of_ble_eq_true rfl, Nat.le_of_ble_eq_true rfl⟩) (zmVp hP (w2_l hD) hE rfl h4) rfl rfl hl.1 rfl (lv_room (Nat.le_of_ble_eq_true rfl)) dL_step_832 ⟨Nat.le_of_ble_eq_true rfl, Nat.le_of_ble_eq_true rfl⟩) hT hD hS hA (fun r u H locs hu hP hT hD hS => ?_)
  obtain ⟨rfl, hu⟩ := hu
  obtain ⟨_, _, _, _, _, _, _, hR9⟩ := hu
  have h4 := hR9.1.1
  have Jn := j_brk J q9 t9 (vB V pk tt + 1)
  refine lv_aload_n hx hb dL_step_835 rfl (lv_at hl 8 rfl) ?_
  refine lv_iload hx hb dL_step_836 (lv_at hl 0 rfl) ?_
  refine zti hx hb hE hT 2 (by decide) (i := (4 * pk + tt)) (by show (4 * pk + tt) < 24; omega) dL_step_838 ?_
  refine zasi (congrArg nI (show ((tU T 2 (4 * pk + tt) ((vB V pk tt) + 1)) 2 (4 * pk + tt)) = vB V pk tt + 1 from tU_s _ _ _ _)) ?_
  refine nicmp_ne (tgt := 846) hx hb dL_step_839 (by decide) (by omega) (by omega) (fun c_839 => ?_) (fun c_839 => ?_)
  · exact absurd rfl c_839
  · refine lv_iconst (v := nI 1) hx hb dL_step_842 (by decide) ?_
    refine lv_goto (tgt := 847) hx hb dL_step_843 (by decide) ?_
    refine W.widen (k := 23) (n := 68) (Nat.le_of_ble_eq_true rfl) (Nat.le_of_ble_eq_true rfl) ?_
    exact F _ _ _ u _ _ _ dL_step_847 Jn ⟨_, _, _, _, _, _, _, hR9⟩ hP hT hD hS
set_option maxHeartbeats 4000000 in
set_option maxRecDepth 100000 in
theorem sp_mend {p : Program} {l : Launch} {e : Env} {s : State} {m : MethodId} {below : List Frame} {meth : Method} {c : Code} {D : va_G} {ca : Nat → ClassId} {sa : Nat → Nat} {L : List Nat} {f : Nat → va_E} {h0 ta pa : Nat} {aT aP aS : Nat → Nat} {aH : Nat → Nat → Nat} {n K : Nat} {V : zV} {aa : Nat → Nat} {T : zT} {A : Nat → Prop} {Q : State → Prop} {w9 a b : Nat} {ls : Array Slot} (hR : zRep L f ca h0 ta pa aT aP aS aH n K V) (J : Jv V T) (hK : K < 512) (hw9 : w9 < 2147483648) (ha9 : a < 2147483648) (hb9 : b < 2147483648) (C : sp_C p s m meth c ([.ref h0, .ref (aa 0), .ref (aa 1), .ref (aa 2), .int (nI w9), .int (nI a), .int (nI b)] : List Value).toArray D ca sa) (S : sp_S s D ca L f aa T A) (F : sp_F p l e (headSpec wsL_step ({ frames := 10, cells := 23, slots := 68, locals := 480 })).room s m ([.ref h0, .ref (aa 0), .ref (aa 1), .ref (aa 2), .int (nI w9), .int (nI a), .int (nI b)] : List Value).toArray below meth c D ca aa A h0 K Q) {pk tt : Nat} (q9 : pk < vNp V) (t9 : tt < vNt V) (hl : lv_has ls 22 [(11, .int (nI (4 * pk + tt))), (10, .int (nI tt)), (9, .int (nI pk)), (8, .int (nI (vNt V))), (7, .int (nI (vNp V))), (0, .ref h0), (1, .ref (aa 0)), (2, .ref (aa 1)), (3, .ref (aa 2)), (4, .int (nI w9)), (5, .int (nI a)), (6, .int (nI b))]) : W p l e (headSpec wsL_step ({ frames := 10, cells := 23, slots := 68, locals := 480 })).room s m ([.ref h0, .ref (aa 0), .ref (aa 1), .ref (aa 2), .int (nI w9), .int (nI a), .int (nI b)] : List Value).toArray below meth c s.heap [] 0 0 Q (F0 m 848 ls []) := by
  have C0 := C
  have S0 := S
  obtain ⟨⟨hx, hb, hml, hown, hts⟩, hE⟩ := C
  obtain ⟨hP, hT, hD, hA⟩ := S
  have hS : va_S A s.heap s.heap [] := va_S.rf
  have h4 := hR.1.1
  have hBd := Bd_of hR
  have htd9 := hBd.1.1
  have hnp9 := J.1.2.1
  have hnt9 := J.1.2.2.2.1
  have t20 : tt < 20 := by omega
  have tt4 : tt < 4 := by omega
  have hS9 := (J.2.2.1 pk q9).2.1.2.2
  have hT9 := ((J.2.2.1 pk q9).2.2 tt tt4).2.1
  have hon := stOk_on ((J.2.2.1 pk q9).2.2 tt tt4).1
  have hwl := stOk_lt ((J.2.2.1 pk q9).2.2 tt tt4).1
  have hbr := ((J.2.2.1 pk q9).2.2 tt tt4).2.2.1
  have hbl := ((hBd.2.2 pk q9).2 tt (by omega)).2
  have hb20 := bN_le (sOn (vL V pk 20))
  refine lv_aload_n hx hb dL_step_848 rfl (lv_at hl 8 rfl) ?_
  refine lv_iload hx hb dL_step_849 (lv_at hl 0 rfl) ?_
  refine zti hx hb hE hT 2 (by decide) (i := (4 * pk + tt)) (by show (4 * pk + tt) < 24; omega) dL_step_851 ?_
  refine zasi (congrArg nI (show (T 2 (4 * pk + tt)) = vB V pk tt from hbr)) ?_
  refine lv_istore (lv' := [(21, .int (nI (vB V pk tt))), (11, .int (nI (4 * pk + tt))), (10, .int (nI tt)), (9, .int (nI pk)), (8, .int (nI (vNt V))), (7, .int (nI (vNp V))), (0, .ref h0), (1, .ref (aa 0)), (2, .ref (aa 1)), (3, .ref (aa 2)), (4, .int (nI w9)), (5, .int (nI a)), (6, .int (nI b))]) hx hb dL_step_852 hl (by decide) rfl (fun ls hl => ?_)
  refine lv_aload_n hx hb dL_step_854 rfl (lv_at hl 9 rfl) ?_
  refine lv_iload hx hb dL_step_855 (lv_at hl 1 rfl) ?_
  refine lv_iconst (v := nI 0) hx hb dL_step_857 (by decide) ?_
  refine ztst hx hb hE hP hT hD hS 2 (by decide) (i := (4 * pk + tt)) (v := 0) (by show (4 * pk + tt) < 24; omega) dL_step_858 (fun H locs hP hT hD hS => ?_)
  refine lv_aload_n hx hb dL_step_859 rfl (lv_at hl 6 rfl) ?_
  refine lv_iload hx hb dL_step_860 (lv_at hl 3 rfl) ?_
  refine lv_iload hx hb dL_step_862 (lv_at hl 2 rfl) ?_
  refine ztw (va_runV (As := [.int (nI pk), .int (nI tt)]) (rest := []) ⟨hx, hb, hml, hown, hts⟩ (w_mend l D ca sa L f h0 ta pa aT aP aS aH n K V hR pk q9 tt t9 hK _) (cwV 2 hts gL_step_X4_mend rfl rfl rfl (by decide +kernel) ⟨Nat.le_of_ble_eq_true rfl, Nat.le_of_ble_eq_true rfl⟩) (zmVp hP (w2_l hD) hE rfl h4) rfl rfl hl.1 rfl (lv_room (Nat.le_of_ble_eq_true rfl)) dL_step_864 ⟨Nat.le_of_ble_eq_true rfl, Nat.le_of_ble_eq_true rfl⟩) hT hD hS hA (fun r u H locs hu hP hT hD hS => ?_)
  obtain ⟨rfl, hu⟩ := hu
  obtain ⟨_, _, _, _, _, _, _, hR9⟩ := hu
  have h4 := hR9.1.1
  have Jn := j_brk J q9 t9 0
  refine lv_iload hx hb dL_step_867 (lv_at hl 0 rfl) ?_
  refine nicmp_ne (tgt := 893) hx hb dL_step_869 (by decide) (by omega) (by omega) (fun c_869 => ?_) (fun c_869 => ?_)
  · exact absurd rfl c_869
  · refine lv_aload_n hx hb dL_step_872 rfl (lv_at hl 6 rfl) ?_
    refine lv_aload_n hx hb dL_step_873 rfl (lv_at hl 7 rfl) ?_
    refine lv_iload hx hb dL_step_874 (lv_at hl 2 rfl) ?_
    refine lv_iconst (v := nI 1) hx hb dL_step_876 (by decide) ?_
    refine lv_iload hx hb dL_step_877 (lv_at hl 12 rfl) ?_
    refine lv_bipush (v := nI 60) hx hb dL_step_879 (by decide) ?_
    refine nrem hx hb (by omega) (by omega) (by omega) dL_step_881 ?_
    refine nadd hx hb dL_step_882 ?_
    refine zci (va_runS (As := [.ref h0, .ref (aa 0), .int (nI tt), .int (nI (1 + (b % 60)))]) (rest := []) ⟨hx, hb, hml, hown, hts⟩ (k_volumes l D ca sa u.1 u.2 h0 _ _ _ _ _ _ _ _ _ hR9 aa _ Jn tt t9 (1 + b % 60) (by omega) (by omega)) (va_cwS 4 hts gL_step_L_volumes rfl rfl rfl (by decide +kernel) ⟨Nat.le_of_ble_eq_true rfl, Nat.le_of_ble_eq_true rfl⟩) (zpS (hP.app hT) hE) rfl rfl hl.1 rfl (lv_room (Nat.le_of_ble_eq_true rfl)) dL_step_883 ⟨Nat.le_of_ble_eq_true rfl, Nat.le_of_ble_eq_true rfl⟩) ?_
    refine nif_eq (tgt := 893) hx hb dL_step_886 (by decide) (by decide) (fun c_886 => ?_) (fun c_886 => ?_)
    · exact absurd c_886 (by decide)
    · refine lv_iconst (v := nI 1) hx hb dL_step_889 (by decide) ?_
      refine lv_goto (tgt := 894) hx hb dL_step_890 (by decide) ?_
      refine W.widen (k := 23) (n := 68) (Nat.le_of_ble_eq_true rfl) (Nat.le_of_ble_eq_true rfl) ?_
      exact F _ _ _ u _ _ _ dL_step_894 Jn ⟨_, _, _, _, _, _, _, hR9⟩ hP hT hD hS
set_option maxHeartbeats 4000000 in
set_option maxRecDepth 100000 in
theorem sp_sw {p : Program} {l : Launch} {e : Env} {s : State} {m : MethodId} {below : List Frame} {meth : Method} {c : Code} {D : va_G} {ca : Nat → ClassId} {sa : Nat → Nat} {L : List Nat} {f : Nat → va_E} {h0 ta pa : Nat} {aT aP aS : Nat → Nat} {aH : Nat → Nat → Nat} {n K : Nat} {V : zV} {aa : Nat → Nat} {T : zT} {A : Nat → Prop} {Q : State → Prop} {w9 a b : Nat} {ls : Array Slot} (hR : zRep L f ca h0 ta pa aT aP aS aH n K V) (J : Jv V T) (hK : K < 512) (hw9 : w9 < 2147483648) (ha9 : a < 2147483648) (hb9 : b < 2147483648) (C : sp_C p s m meth c ([.ref h0, .ref (aa 0), .ref (aa 1), .ref (aa 2), .int (nI w9), .int (nI a), .int (nI b)] : List Value).toArray D ca sa) (S : sp_S s D ca L f aa T A) (F : sp_F p l e (headSpec wsL_step ({ frames := 10, cells := 23, slots := 68, locals := 480 })).room s m ([.ref h0, .ref (aa 0), .ref (aa 1), .ref (aa 2), .int (nI w9), .int (nI a), .int (nI b)] : List Value).toArray below meth c D ca aa A h0 K Q) (hp : 0 < vNp V) (hq : 0 < vNt V) (hl : lv_has ls 22 [(8, .int (nI (vNt V))), (7, .int (nI (vNp V))), (0, .ref h0), (1, .ref (aa 0)), (2, .ref (aa 1)), (3, .ref (aa 2)), (4, .int (nI w9)), (5, .int (nI a)), (6, .int (nI b))]) : W p l e (headSpec wsL_step ({ frames := 10, cells := 23, slots := 68, locals := 480 })).room s m ([.ref h0, .ref (aa 0), .ref (aa 1), .ref (aa 2), .int (nI w9), .int (nI a), .int (nI b)] : List Value).toArray below meth c s.heap [] 0 0 Q (F0 m 291 ls []) := by
  have C0 := C
  have S0 := S
  obtain ⟨⟨hx, hb, hml, hown, hts⟩, hE⟩ := C
  obtain ⟨hP, hT, hD, hA⟩ := S
  have hS : va_S A s.heap s.heap [] := va_S.rf
  have h4 := hR.1.1
  have hBd := Bd_of hR
  have htd9 := hBd.1.1
  have hnp9 := J.1.2.1
  have hnt9 := J.1.2.2.2.1
  refine lv_iload hx hb dL_step_291 (lv_at hl 7 rfl) ?_
  refine lv_iload hx hb dL_step_293 (lv_at hl 1 rfl) ?_
  refine nrem hx hb (by omega) (by omega) (by omega) dL_step_295 ?_
  have q9 : (a % (vNp V)) < vNp V := Nat.mod_lt _ hp
  generalize (a % (vNp V)) = pk at q9 ⊢
  refine lv_istore (lv' := [(9, .int (nI pk)), (8, .int (nI (vNt V))), (7, .int (nI (vNp V))), (0, .ref h0), (1, .ref (aa 0)), (2, .ref (aa 1)), (3, .ref (aa 2)), (4, .int (nI w9)), (5, .int (nI a)), (6, .int (nI b))]) hx hb dL_step_296 hl (by decide) rfl (fun ls hl => ?_)
  refine lv_iload hx hb dL_step_298 (lv_at hl 9 rfl) ?_
  refine lv_iload hx hb dL_step_300 (lv_at hl 1 rfl) ?_
  refine nrem hx hb (by omega) (by omega) (by omega) dL_step_302 ?_
  have t9 : (b % (vNt V)) < vNt V := Nat.mod_lt _ hq
  generalize (b % (vNt V)) = tt at t9 ⊢
  refine lv_istore (lv' := [(10, .int (nI tt)), (9, .int (nI pk)), (8, .int (nI (vNt V))), (7, .int (nI (vNp V))), (0, .ref h0), (1, .ref (aa 0)), (2, .ref (aa 1)), (3, .ref (aa 2)), (4, .int (nI w9)), (5, .int (nI a)), (6, .int (nI b))]) hx hb dL_step_303 hl (by decide) rfl (fun ls hl => ?_)
  refine lv_iconst (v := nI 4) hx hb dL_step_305 (by decide) ?_
  refine lv_iload hx hb dL_step_306 (lv_at hl 1 rfl) ?_
  refine nmul hx hb dL_step_308 ?_
  refine lv_iload hx hb dL_step_309 (lv_at hl 0 rfl) ?_
  refine nadd hx hb dL_step_311 ?_
  refine lv_istore (lv' := [(11, .int (nI ((4 * pk) + tt))), (10, .int (nI tt)), (9, .int (nI pk)), (8, .int (nI (vNt V))), (7, .int (nI (vNp V))), (0, .ref h0), (1, .ref (aa 0)), (2, .ref (aa 1)), (3, .ref (aa 2)), (4, .int (nI w9)), (5, .int (nI a)), (6, .int (nI b))]) hx hb dL_step_312 hl (by decide) rfl (fun ls hl => ?_)
  refine lv_iload hx hb dL_step_314 (lv_at hl 9 rfl) ?_
  refine lv_bipush (v := nI 12) hx hb dL_step_316 (by decide) ?_
  refine nrem hx hb (by omega) (by omega) (by omega) dL_step_318 ?_
  have w12 : w9 % 12 < 12 := by omega
  generalize w9 % 12 = r at w12 ⊢
  have hl : lv_has ls 22 [(11, .int (nI (4 * pk + tt))), (10, .int (nI tt)), (9, .int (nI pk)), (8, .int (nI (vNt V))), (7, .int (nI (vNp V))), (0, .ref h0), (1, .ref (aa 0)), (2, .ref (aa 1)), (3, .ref (aa 2)), (4, .int (nI w9)), (5, .int (nI a)), (6, .int (nI b))] := lv_sub hl [0, 1, 2, 3, 4, 5, 6, 7, 8, 9, 10, 11] rfl
  rcases (show r = 2 ∨ r = 3 ∨ r = 4 ∨ r = 5 ∨ r = 6 ∨ r = 7 ∨ r = 8 ∨ r = 9 ∨ r = 10 ∨ r = 0 ∨ r = 1 ∨ r = 11 by omega) with rfl | rfl | rfl | rfl | rfl | rfl | rfl | rfl | rfl | rfl | rfl | rfl
  · exact lv_tableIn (off := 49) (tgt := 368) hx hb dL_step_319 (by decide +kernel) (by decide +kernel) rfl (by decide) (sp_sub hR J hK hw9 ha9 hb9 C0 S0 F q9 t9 hl)
  · exact lv_tableIn (off := 49) (tgt := 368) hx hb dL_step_319 (by decide +kernel) (by decide +kernel) rfl (by decide) (sp_sub hR J hK hw9 ha9 hb9 C0 S0 F q9 t9 hl)
  · exact lv_tableIn (off := 140) (tgt := 459) hx hb dL_step_319 (by decide +kernel) (by decide +kernel) rfl (by decide) (sp_come hR J hK hw9 ha9 hb9 C0 S0 F q9 t9 hl)
  · exact lv_tableIn (off := 140) (tgt := 459) hx hb dL_step_319 (by decide +kernel) (by decide +kernel) rfl (by decide) (sp_come hR J hK hw9 ha9 hb9 C0 S0 F q9 t9 hl)
  · exact lv_tableIn (off := 140) (tgt := 459) hx hb dL_step_319 (by decide +kernel) (by decide +kernel) rfl (by decide) (sp_come hR J hK hw9 ha9 hb9 C0 S0 F q9 t9 hl)
  · exact lv_tableIn (off := 275) (tgt := 594) hx hb dL_step_319 (by decide +kernel) (by decide +kernel) rfl (by decide) (sp_go hR J hK hw9 ha9 hb9 C0 S0 F q9 t9 hl)
  · exact lv_tableIn (off := 342) (tgt := 661) hx hb dL_step_319 (by decide +kernel) (by decide +kernel) rfl (by decide) (sp_pass hR J hK hw9 ha9 hb9 C0 S0 F q9 t9 hl)
  · exact lv_tableIn (off := 342) (tgt := 661) hx hb dL_step_319 (by decide +kernel) (by decide +kernel) rfl (by decide) (sp_pass hR J hK hw9 ha9 hb9 C0 S0 F q9 t9 hl)
  · exact lv_tableIn (off := 500) (tgt := 819) hx hb dL_step_319 (by decide +kernel) (by decide +kernel) rfl (by decide) (sp_rep hR J hK hw9 ha9 hb9 C0 S0 F q9 t9 hl)
  · exact lv_tableOut (tgt := 848) hx hb dL_step_319 (Or.inl (by decide +kernel)) (by decide) (sp_mend hR J hK hw9 ha9 hb9 C0 S0 F q9 t9 hl)
  · exact lv_tableOut (tgt := 848) hx hb dL_step_319 (Or.inl (by decide +kernel)) (by decide) (sp_mend hR J hK hw9 ha9 hb9 C0 S0 F q9 t9 hl)
  · exact lv_tableOut (tgt := 848) hx hb dL_step_319 (Or.inr (by decide +kernel)) (by decide) (sp_mend hR J hK hw9 ha9 hb9 C0 S0 F q9 t9 hl)
set_option maxHeartbeats 4000000 in
set_option maxRecDepth 100000 in
theorem sp_rest {p : Program} {l : Launch} {e : Env} {s : State} {m : MethodId} {below : List Frame} {meth : Method} {c : Code} {D : va_G} {ca : Nat → ClassId} {sa : Nat → Nat} {L : List Nat} {f : Nat → va_E} {h0 ta pa : Nat} {aT aP aS : Nat → Nat} {aH : Nat → Nat → Nat} {n K : Nat} {V : zV} {aa : Nat → Nat} {T : zT} {A : Nat → Prop} {Q : State → Prop} {w9 a b : Nat} {ls : Array Slot} (hR : zRep L f ca h0 ta pa aT aP aS aH n K V) (J : Jv V T) (hK : K < 512) (hw9 : w9 < 2147483648) (ha9 : a < 2147483648) (hb9 : b < 2147483648) (C : sp_C p s m meth c ([.ref h0, .ref (aa 0), .ref (aa 1), .ref (aa 2), .int (nI w9), .int (nI a), .int (nI b)] : List Value).toArray D ca sa) (S : sp_S s D ca L f aa T A) (F : sp_F p l e (headSpec wsL_step ({ frames := 10, cells := 23, slots := 68, locals := 480 })).room s m ([.ref h0, .ref (aa 0), .ref (aa 1), .ref (aa 2), .int (nI w9), .int (nI a), .int (nI b)] : List Value).toArray below meth c D ca aa A h0 K Q) (hp : 0 < vNp V) (hl : lv_has ls 22 [(8, .int (nI (vNt V))), (7, .int (nI (vNp V))), (0, .ref h0), (1, .ref (aa 0)), (2, .ref (aa 1)), (3, .ref (aa 2)), (4, .int (nI w9)), (5, .int (nI a)), (6, .int (nI b))]) : W p l e (headSpec wsL_step ({ frames := 10, cells := 23, slots := 68, locals := 480 })).room s m ([.ref h0, .ref (aa 0), .ref (aa 1), .ref (aa 2), .int (nI w9), .int (nI a), .int (nI b)] : List Value).toArray below meth c s.heap [] 0 0 Q (F0 m 150 ls []) := by
  have C0 := C
  have S0 := S
  obtain ⟨⟨hx, hb, hml, hown, hts⟩, hE⟩ := C
  obtain ⟨hP, hT, hD, hA⟩ := S
  have hS : va_S A s.heap s.heap [] := va_S.rf
  have h4 := hR.1.1
  have hBd := Bd_of hR
  have htd9 := hBd.1.1
  have hnp9 := J.1.2.1
  have hnt9 := J.1.2.2.2.1
  refine lv_iload hx hb dL_step_150 (lv_at hl 0 rfl) ?_
  refine nif_eq (tgt := 170) hx hb dL_step_152 (by decide) (by omega) (fun c_152 => ?_) (fun c_152 => ?_)
  · exact sp_title hR J hK hw9 ha9 hb9 C0 S0 F hp (by omega) (lv_sub hl [0, 1, 2, 3, 4, 5, 6, 7, 8] rfl)
  · refine lv_iload hx hb dL_step_155 (lv_at hl 6 rfl) ?_
    refine lv_bipush (v := nI 12) hx hb dL_step_157 (by decide) ?_
    refine nrem hx hb (by omega) (by omega) (by omega) dL_step_159 ?_
    refine lv_iconst (v := nI 1) hx hb dL_step_160 (by decide) ?_
    refine nicmp_ne (tgt := 291) hx hb dL_step_161 (by decide) (by omega) (by omega) (fun c_161 => ?_) (fun c_161 => ?_)
    · exact sp_sw hR J hK hw9 ha9 hb9 C0 S0 F hp (by omega) (lv_sub hl [0, 1, 2, 3, 4, 5, 6, 7, 8] rfl)
    · refine lv_iload hx hb dL_step_164 (lv_at hl 0 rfl) ?_
      refine lv_iconst (v := nI 4) hx hb dL_step_166 (by decide) ?_
      refine nicmp_ge (tgt := 291) hx hb dL_step_167 (by decide) (by omega) (by omega) (fun c_167 => ?_) (fun c_167 => ?_)
      · exact sp_sw hR J hK hw9 ha9 hb9 C0 S0 F hp (by omega) (lv_sub hl [0, 1, 2, 3, 4, 5, 6, 7, 8] rfl)
      · exact sp_title hR J hK hw9 ha9 hb9 C0 S0 F hp (by omega) (lv_sub hl [0, 1, 2, 3, 4, 5, 6, 7, 8] rfl)
set_option maxHeartbeats 4000000 in
set_option maxRecDepth 100000 in
theorem sp_all {p : Program} {l : Launch} {e : Env} {s : State} {m : MethodId} {below : List Frame} {meth : Method} {c : Code} {D : va_G} {ca : Nat → ClassId} {sa : Nat → Nat} {L : List Nat} {f : Nat → va_E} {h0 ta pa : Nat} {aT aP aS : Nat → Nat} {aH : Nat → Nat → Nat} {n K : Nat} {V : zV} {aa : Nat → Nat} {T : zT} {A : Nat → Prop} {Q : State → Prop} {w9 a b : Nat} {ls : Array Slot} (hR : zRep L f ca h0 ta pa aT aP aS aH n K V) (J : Jv V T) (hK : K < 512) (hw9 : w9 < 2147483648) (ha9 : a < 2147483648) (hb9 : b < 2147483648) (C : sp_C p s m meth c ([.ref h0, .ref (aa 0), .ref (aa 1), .ref (aa 2), .int (nI w9), .int (nI a), .int (nI b)] : List Value).toArray D ca sa) (S : sp_S s D ca L f aa T A) (F : sp_F p l e (headSpec wsL_step ({ frames := 10, cells := 23, slots := 68, locals := 480 })).room s m ([.ref h0, .ref (aa 0), .ref (aa 1), .ref (aa 2), .int (nI w9), .int (nI a), .int (nI b)] : List Value).toArray below meth c D ca aa A h0 K Q)  (hl : lv_has ls 22 [(0, .ref h0), (1, .ref (aa 0)), (2, .ref (aa 1)), (3, .ref (aa 2)), (4, .int (nI w9)), (5, .int (nI a)), (6, .int (nI b))]) : W p l e (headSpec wsL_step ({ frames := 10, cells := 23, slots := 68, locals := 480 })).room s m ([.ref h0, .ref (aa 0), .ref (aa 1), .ref (aa 2), .int (nI w9), .int (nI a), .int (nI b)] : List Value).toArray below meth c s.heap [] 0 0 Q (F0 m 0 ls []) := by
  have C0 := C
  have S0 := S
  obtain ⟨⟨hx, hb, hml, hown, hts⟩, hE⟩ := C
  obtain ⟨hP, hT, hD, hA⟩ := S
  have hS : va_S A s.heap s.heap [] := va_S.rf
  have h4 := hR.1.1
  have hBd := Bd_of hR
  have htd9 := hBd.1.1
  have hnp9 := J.1.2.1
  have hnt9 := J.1.2.2.2.1
  refine lv_aload_n hx hb dL_step_0 rfl (lv_at hl 1 rfl) ?_
  refine lv_bipush (v := nI 38) hx hb dL_step_1 (by decide) ?_
  refine zti hx hb hE hT 0 (by decide) (i := 38) (by show 38 < 41; omega) dL_step_3 ?_
  refine zasi (congrArg nI (show (T 0 38) = vNp V from J.1.1)) ?_
  refine lv_istore (lv' := [(7, .int (nI (vNp V))), (0, .ref h0), (1, .ref (aa 0)), (2, .ref (aa 1)), (3, .ref (aa 2)), (4, .int (nI w9)), (5, .int (nI a)), (6, .int (nI b))]) hx hb dL_step_4 hl (by decide) rfl (fun ls hl => ?_)
  refine lv_aload_n hx hb dL_step_6 rfl (lv_at hl 2 rfl) ?_
  refine lv_bipush (v := nI 39) hx hb dL_step_7 (by decide) ?_
  refine zti hx hb hE hT 0 (by decide) (i := 39) (by show 39 < 41; omega) dL_step_9 ?_
  refine zasi (congrArg nI (show (T 0 39) = vNt V from J.1.2.2.1)) ?_
  refine lv_istore (lv' := [(8, .int (nI (vNt V))), (7, .int (nI (vNp V))), (0, .ref h0), (1, .ref (aa 0)), (2, .ref (aa 1)), (3, .ref (aa 2)), (4, .int (nI w9)), (5, .int (nI a)), (6, .int (nI b))]) hx hb dL_step_10 hl (by decide) rfl (fun ls hl => ?_)
  refine lv_iload hx hb dL_step_12 (lv_at hl 1 rfl) ?_
  refine nif_eq (tgt := 32) hx hb dL_step_14 (by decide) (by omega) (fun c_14 => ?_) (fun c_14 => ?_)
  · exact sp_pack hR J hK hw9 ha9 hb9 C0 S0 F (by omega) (lv_sub hl [0, 1, 2, 3, 4, 5, 6, 7, 8] rfl)
  · refine lv_iload hx hb dL_step_17 (lv_at hl 6 rfl) ?_
    refine lv_bipush (v := nI 12) hx hb dL_step_19 (by decide) ?_
    refine nrem hx hb (by omega) (by omega) (by omega) dL_step_21 ?_
    refine nif_ne (tgt := 150) hx hb dL_step_22 (by decide) (by omega) (fun c_22 => ?_) (fun c_22 => ?_)
    · exact sp_rest hR J hK hw9 ha9 hb9 C0 S0 F (by omega) (lv_sub hl [0, 1, 2, 3, 4, 5, 6, 7, 8] rfl)
    · refine lv_iload hx hb dL_step_25 (lv_at hl 1 rfl) ?_
      refine lv_bipush (v := nI 6) hx hb dL_step_27 (by decide) ?_
      refine nicmp_ge (tgt := 150) hx hb dL_step_29 (by decide) (by omega) (by omega) (fun c_29 => ?_) (fun c_29 => ?_)
      · exact sp_rest hR J hK hw9 ha9 hb9 C0 S0 F (by omega) (lv_sub hl [0, 1, 2, 3, 4, 5, 6, 7, 8] rfl)
      · exact sp_pack hR J hK hw9 ha9 hb9 C0 S0 F (by omega) (lv_sub hl [0, 1, 2, 3, 4, 5, 6, 7, 8] rfl)
set_option maxHeartbeats 4000000 in
set_option maxRecDepth 100000 in
theorem k_step (l : Launch) (D : va_G) (ca : Nat → ClassId) (sa : Nat → Nat) (L : List Nat) (f : Nat → va_E) (h0 ta pa : Nat) (aT aP aS : Nat → Nat) (aH : Nat → Nat → Nat) (n K : Nat) (V : zV) (hR : zRep L f ca h0 ta pa aT aP aS aH n K V) (aa : Nat → Nat) (T : zT) (J : Jv V T) (hK : K < 512) (w9 a b : Nat) (hw9 : w9 < 2147483648) (ha9 : a < 2147483648) (hb9 : b < 2147483648) (sz : Nat) : Met l yL_step wsL_step ({ frames := 10, cells := 23, slots := 68, locals := 480 }) (va_Pc [.ref h0, .ref (aa 0), .ref (aa 1), .ref (aa 2), .int (nI w9), .int (nI a), .int (nI b)] (zMp D (va_pl L f ++ tW ca aa T) ca sa sz)) (va_Qi (fun (r : Int32) (u : zU × zT) => r = nI 1 ∧ ∃ V1 : zV, Jv V1 u.2 ∧ zR u.1.1 u.1.2 ca h0 (K + 1) V1) (fun u t => va_P D vwCl (va_pl u.1.1 u.1.2 ++ tW ca aa u.2) t.heap ∧ va_D (va_A (va_pl L f ++ tW ca aa T) sz) (va_pl u.1.1 u.1.2 ++ tW ca aa u.2)) (va_A (va_pl L f ++ tW ca aa T) sz)) 23 68 (va_A (va_pl L f ++ tW ca aa T) sz) := by
  refine Met.ofW (cc := cL_step) (maxL := 22) (ret := (some .boolean)) (by decide) rfl ?_
  intro p e s m args below meth c s₁ B hml hv
  obtain ⟨rfl, hsz, hPT, hD0, hE⟩ := hv
  have hx := B.exec
  have hb := B.bytes
  have hr := B.returns
  have hts := atoms_spec (ws := wsL_step) B.pre
  have hown : s.vm.findClass RL = some m.cls := findClass_of_methodNamed B.named
  have hlocks := B.notSynchronized
  have hl := lv_entry ([.ref h0, .ref (aa 0), .ref (aa 1), .ref (aa 2), .int (nI w9), .int (nI a), .int (nI b)]) (n := 22) (Nat.le_of_ble_eq_true rfl)
  rw [lg_entry_eq]
  generalize (lg_sl ([.ref h0, .ref (aa 0), .ref (aa 1), .ref (aa 2), .int (nI w9), .int (nI a), .int (nI b)]) ++ List.replicate (22 - (lg_sl ([.ref h0, .ref (aa 0), .ref (aa 1), .ref (aa 2), .int (nI w9), .int (nI a), .int (nI b)])).length) Slot.unset).toArray = ls at hl ⊢
  have hl : lv_has ls 22 [(0, .ref h0), (1, .ref (aa 0)), (2, .ref (aa 1)), (3, .ref (aa 2)), (4, .int (nI w9)), (5, .int (nI a)), (6, .int (nI b))] := hl
  subst hsz
  have hD := hD0.self (sz := s.heap.size)
  generalize hAe : va_A (va_pl L f ++ tW ca aa T) s.heap.size = A at hD ⊢
  have hA : ∀ q : Nat, s.heap.size ≤ q → A q := fun q h => by rw [← hAe]; exact Or.inr h
  refine sp_all hR J hK hw9 ha9 hb9 ⟨⟨hx, hb, hml, hown, hts⟩, hE⟩ ⟨p2_l hPT, p2_r hPT, hD, hA⟩ (fun pc1 V1 T1 u H1 locs1 ls1 hd1 J1 hR1 hP1 hT1 hD1 hS1 => ?_) hl
  exact W.zret hx hb hr rfl (fun t ht _ => ⟨⟨nI 1, (u, T1), rfl, ⟨rfl, V1, J1, hR1⟩, by show va_P D vwCl (va_pl u.1 u.2 ++ tW ca aa T1) t.heap; rw [ht]; exact hP1.app hT1, hD1⟩, hS1.F ht⟩) hS1.2.2 hd1 hlocks
