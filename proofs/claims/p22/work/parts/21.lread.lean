/-! what the law's own methods that only read answer -/
theorem vol_1 {a b v : Nat} (hb : 1 ≤ b) (h : a + (v - 1) / b ≤ 55) : v ≤ (56 - a) * b := by
  have h1 : (v - 1) / b < 56 - a := by omega
  have h2 := (Nat.div_lt_iff_lt_mul (show 0 < b by omega)).mp h1
  omega
theorem vol_2 {a b v : Nat} (hv : 1 ≤ v) : (a + (v - 1) / b - a) * b + 1 ≤ v := by
  have h := Nat.div_mul_le_self (v - 1) b
  rw [Nat.add_sub_cancel_left]
  omega
theorem vol_3 {a b v : Nat} (hb : 1 ≤ b) : v < (a + (v - 1) / b - a) * b + 1 + b := by
  have h1 := Nat.div_add_mod (v - 1) b
  have h2 := Nat.mod_lt (v - 1) (show 0 < b by omega)
  rw [Nat.add_sub_cancel_left, Nat.mul_comm]
  omega
/-- a package's place among all, as the law makes it -/
def oneK (V : zV) (t q : Nat) : Nat := (if 1 < vB V q t then 1000000 else 0) + 100 * (vP V q).1 + 10 * (vP V q).2.1 + q
theorem oneK_lt {V : zV} (hB : Bd V) {q q2 t : Nat} (hq : q < vNp V) (hq2 : q2 < vNp V) (hn : vNp V ≤ 6) : oneK V t q < oneK V t q2 ↔ wkey V t q < wkey V t q2 := by
  obtain ⟨⟨l1, l2, -⟩, -⟩ := hB.2.2 q hq
  obtain ⟨⟨l3, l4, -⟩, -⟩ := hB.2.2 q2 hq2
  unfold oneK wkey
  by_cases z1 : 1 < vB V q t <;> by_cases z2 : 1 < vB V q2 t
  · rw [if_pos z1, if_pos z2, if_pos (show 2 ≤ vB V q t from z1), if_pos (show 2 ≤ vB V q2 t from z2)]; omega
  · rw [if_pos z1, if_neg z2, if_pos (show 2 ≤ vB V q t from z1), if_neg (show ¬ 2 ≤ vB V q2 t from z2)]; omega
  · rw [if_neg z1, if_pos z2, if_neg (show ¬ 2 ≤ vB V q t from z1), if_pos (show 2 ≤ vB V q2 t from z2)]; omega
  · rw [if_neg z1, if_neg z2, if_neg (show ¬ 2 ≤ vB V q t from z1), if_neg (show ¬ 2 ≤ vB V q2 t from z2)]; omega
theorem wc_bN (p : Nat → Bool) (n : Nat) : wc p (n + 1) = wc p n + bN (p n) := by
  show (if p n = true then wc p n + 1 else wc p n) = _
  cases p n <;> rfl
theorem pGf_s (p : Nat → Nat) (fy n : Nat) (fd : Int32) : pGf p fy (n + 1) fd = if fy ≤ n then pGf p fy n (if p n = 0 then nI n else fd) else fd := rfl
theorem pDb_s (p : Nat → Nat) (fy n a : Nat) : pDb p fy (n + 1) a = if fy ≤ n then pDb p fy n (a + if 1 < p n then 1 else 0) else a := rfl
theorem nI_nar1 : narrow .boolean (.int (nI 1)) = .int (nI 1) := rfl
set_option maxHeartbeats 4000000 in
set_option maxRecDepth 100000 in
theorem k_volumes (l : Launch) (D : va_G) (ca : Nat → ClassId) (sa : Nat → Nat) (L : List Nat) (f : Nat → va_E) (h0 ta pa : Nat) (aT aP aS : Nat → Nat) (aH : Nat → Nat → Nat) (n K : Nat) (V : zV) (hR : zRep L f ca h0 ta pa aT aP aS aH n K V) (aa : Nat → Nat) (T : zT) (J : Jv V T) (t : Nat) (ht : t < vNt V) (v : Nat) (hv1 : 1 ≤ v) (hv2 : v ≤ 60) : Met l yL_volumes wsL_volumes ({ frames := 9, cells := 0, slots := 0, locals := 400 }) (va_Pc [.ref h0, .ref (aa 0), .int (nI t), .int (nI v)] (zPw D (va_pl L f ++ tW ca aa T) ca sa)) (vp_Si (fun r => r = nI 1)) 0 0 (fun _ => False) := by
  refine Met.ofW (cc := cL_volumes) (maxL := 5) (ret := (some .boolean)) (by decide) rfl ?_
  intro p e s m args below meth c s₁ B hml hv
  obtain ⟨rfl, hPT, hE⟩ := hv
  have hx := B.exec
  have hb := B.bytes
  have hr := B.returns
  have hts := atoms_spec (ws := wsL_volumes) B.pre
  have hown : s.vm.findClass RL = some m.cls := findClass_of_methodNamed B.named
  have hlocks := B.notSynchronized
  have hl := lv_entry ([.ref h0, .ref (aa 0), .int (nI t), .int (nI v)]) (n := 5) (Nat.le_of_ble_eq_true rfl)
  rw [lg_entry_eq]
  generalize (lg_sl ([.ref h0, .ref (aa 0), .int (nI t), .int (nI v)]) ++ List.replicate (5 - (lg_sl ([.ref h0, .ref (aa 0), .int (nI t), .int (nI v)])).length) Slot.unset).toArray = ls at hl ⊢
  have hl : lv_has ls 5 [(0, .ref h0), (1, .ref (aa 0)), (2, .int (nI t)), (3, .int (nI v))] := hl
  have hP := p2_l hPT
  have hT := p2_r hPT
  have h4 := hR.1.1
  have hBd := Bd_of hR
  have htd9 := hBd.1.1
  have hnp9 := J.1.2.1
  have hnt9 := J.1.2.2.2.1
  obtain ⟨fy5, vo1, vo4⟩ := hBd.2.1 t ht
  refine lv_aload_n hx hb dL_volumes_0 rfl (lv_at hl 1 rfl) ?_
  refine lv_bipush (v := nI 30) hx hb dL_volumes_1 (by decide) ?_
  refine lv_iload_n hx hb dL_volumes_3 rfl (lv_at hl 2 rfl) ?_
  refine nadd hx hb dL_volumes_4 ?_
  refine zti hx hb hE hT 0 (by decide) (i := (30 + t)) (by show (30 + t) < 41; omega) dL_volumes_5 ?_
  refine zasi (congrArg nI (show (T 0 (30 + t)) = (vT V t).1 from (J.2.1 t ht).1)) ?_
  refine lv_iload_n hx hb dL_volumes_6 rfl (lv_at hl 3 rfl) ?_
  refine lv_iconst (v := nI 1) hx hb dL_volumes_7 (by decide) ?_
  refine nsub hx hb (by omega) dL_volumes_8 ?_
  refine lv_aload_n hx hb dL_volumes_9 rfl (lv_at hl 1 rfl) ?_
  refine lv_bipush (v := nI 34) hx hb dL_volumes_10 (by decide) ?_
  refine lv_iload_n hx hb dL_volumes_12 rfl (lv_at hl 2 rfl) ?_
  refine nadd hx hb dL_volumes_13 ?_
  refine zti hx hb hE hT 0 (by decide) (i := (34 + t)) (by show (34 + t) < 41; omega) dL_volumes_14 ?_
  refine zasi (congrArg nI (show (T 0 (34 + t)) = (vT V t).2 from (J.2.1 t ht).2)) ?_
  refine ndiv hx hb (by omega) (by omega) (by omega) dL_volumes_15 ?_
  refine nadd hx hb dL_volumes_16 ?_
  refine lv_istore (lv' := [(4, .int (nI (((vT V t).1) + ((v - 1) / ((vT V t).2))))), (0, .ref h0), (1, .ref (aa 0)), (2, .int (nI t)), (3, .int (nI v))]) hx hb dL_volumes_17 hl (by decide) rfl (fun ls hl => ?_)
  refine lv_iload hx hb dL_volumes_19 (lv_at hl 0 rfl) ?_
  refine lv_bipush (v := nI 55) hx hb dL_volumes_21 (by decide) ?_
  refine nicmp_gt (tgt := 66) hx hb dL_volumes_23 (by decide) (by have := Nat.div_le_self (v - 1) (vT V t).2; omega) (by omega) (fun c_23 => ?_) (fun c_23 => ?_)
  · refine lv_iconst (v := nI 1) hx hb dL_volumes_66 (by decide) ?_
    refine lv_goto (tgt := 71) hx hb dL_volumes_67 (by decide) ?_
    exact zrz hx hb hr hlocks dL_volumes_71 nI_nar1 rfl
  · refine lv_aload_n hx hb dL_volumes_26 rfl (lv_at hl 1 rfl) ?_
    refine lv_iload_n hx hb dL_volumes_27 rfl (lv_at hl 3 rfl) ?_
    refine lv_iload_n hx hb dL_volumes_28 rfl (lv_at hl 4 rfl) ?_
    refine zci (va_runV (As := [.int (nI t), .int (nI v)]) (rest := []) ⟨hx, hb, hml, hown, hts⟩ (c_yearOf l D ca sa L f h0 ta pa aT aP aS aH n K V hR t ht v hv1 (vol_1 vo1 c_23)) (cwV 2 hts gL_volumes_X4_yearOf rfl rfl rfl (by decide +kernel) ⟨Nat.le_of_ble_eq_true rfl, Nat.le_of_ble_eq_true rfl⟩) (zpVp hP hE rfl h4) rfl rfl hl.1 rfl (lv_room (Nat.le_of_ble_eq_true rfl)) dL_volumes_29 ⟨Nat.le_of_ble_eq_true rfl, Nat.le_of_ble_eq_true rfl⟩) ?_
    refine lv_iload hx hb dL_volumes_32 (lv_at hl 0 rfl) ?_
    refine nicmp_ne (tgt := 70) hx hb dL_volumes_34 (by decide) (by omega) (by omega) (fun c_34 => ?_) (fun c_34 => ?_)
    · exact absurd rfl c_34
    · refine lv_aload_n hx hb dL_volumes_37 rfl (lv_at hl 1 rfl) ?_
      refine lv_iload_n hx hb dL_volumes_38 rfl (lv_at hl 3 rfl) ?_
      refine lv_iload hx hb dL_volumes_39 (lv_at hl 0 rfl) ?_
      refine zci (va_runV (As := [.int (nI t), .int (nI (((vT V t).1) + ((v - 1) / ((vT V t).2))))]) (rest := []) ⟨hx, hb, hml, hown, hts⟩ (c_volumeOf l D ca sa L f h0 ta pa aT aP aS aH n K V hR t ht (((vT V t).1) + ((v - 1) / ((vT V t).2))) (Nat.le_add_right _ _) c_23) (cwV 2 hts gL_volumes_X4_volumeOf rfl rfl rfl (by decide +kernel) ⟨Nat.le_of_ble_eq_true rfl, Nat.le_of_ble_eq_true rfl⟩) (zpVp hP hE rfl h4) rfl rfl hl.1 rfl (lv_room (Nat.le_of_ble_eq_true rfl)) dL_volumes_41 ⟨Nat.le_of_ble_eq_true rfl, Nat.le_of_ble_eq_true rfl⟩) ?_
      refine lv_iload_n hx hb dL_volumes_44 rfl (lv_at hl 4 rfl) ?_
      have v_2 := vol_2 (a := (vT V t).1) (b := (vT V t).2) hv1
      refine nicmp_gt (tgt := 70) hx hb dL_volumes_45 (by decide) (by omega) (by omega) (fun c_45 => ?_) (fun c_45 => ?_)
      · exact absurd c_45 (Nat.not_lt.mpr v_2)
      · refine lv_iload_n hx hb dL_volumes_48 rfl (lv_at hl 4 rfl) ?_
        refine lv_aload_n hx hb dL_volumes_49 rfl (lv_at hl 1 rfl) ?_
        refine lv_iload_n hx hb dL_volumes_50 rfl (lv_at hl 3 rfl) ?_
        refine lv_iload hx hb dL_volumes_51 (lv_at hl 0 rfl) ?_
        refine zci (va_runV (As := [.int (nI t), .int (nI (((vT V t).1) + ((v - 1) / ((vT V t).2))))]) (rest := [.int (nI v)]) ⟨hx, hb, hml, hown, hts⟩ (c_volumeOf l D ca sa L f h0 ta pa aT aP aS aH n K V hR t ht (((vT V t).1) + ((v - 1) / ((vT V t).2))) (Nat.le_add_right _ _) c_23) (cwV 2 hts gL_volumes_X4_volumeOf rfl rfl rfl (by decide +kernel) ⟨Nat.le_of_ble_eq_true rfl, Nat.le_of_ble_eq_true rfl⟩) (zpVp hP hE rfl h4) rfl rfl hl.1 rfl (lv_room (Nat.le_of_ble_eq_true rfl)) dL_volumes_53 ⟨Nat.le_of_ble_eq_true rfl, Nat.le_of_ble_eq_true rfl⟩) ?_
        refine lv_aload_n hx hb dL_volumes_56 rfl (lv_at hl 2 rfl) ?_
        refine lv_bipush (v := nI 34) hx hb dL_volumes_57 (by decide) ?_
        refine lv_iload_n hx hb dL_volumes_59 rfl (lv_at hl 3 rfl) ?_
        refine nadd hx hb dL_volumes_60 ?_
        refine zti hx hb hE hT 0 (by decide) (i := (34 + t)) (by show (34 + t) < 41; omega) dL_volumes_61 ?_
        refine zasi (congrArg nI (show (T 0 (34 + t)) = (vT V t).2 from (J.2.1 t ht).2)) ?_
        refine nadd hx hb dL_volumes_62 ?_
        refine nicmp_ge (tgt := 70) hx hb dL_volumes_63 (by decide) (by omega) (by omega) (fun c_63 => ?_) (fun c_63 => ?_)
        · exact absurd c_63 (Nat.not_le.mpr (vol_3 vo1))
        · refine lv_iconst (v := nI 1) hx hb dL_volumes_66 (by decide) ?_
          refine lv_goto (tgt := 71) hx hb dL_volumes_67 (by decide) ?_
          exact zrz hx hb hr hlocks dL_volumes_71 nI_nar1 rfl
set_option maxHeartbeats 4000000 in
set_option maxRecDepth 100000 in
theorem k_ahead (l : Launch) (D : va_G) (ca : Nat → ClassId) (sa : Nat → Nat) (L : List Nat) (f : Nat → va_E) (h0 ta pa : Nat) (aT aP aS : Nat → Nat) (aH : Nat → Nat → Nat) (n K : Nat) (V : zV) (hR : zRep L f ca h0 ta pa aT aP aS aH n K V) (aa : Nat → Nat) (T : zT) (J : Jv V T) (q q2 t : Nat) (hq : q < vNp V) (hq2 : q2 < vNp V) (ht : t < vNt V) : Met l yL_isAhead wsL_isAhead ({ frames := 1, cells := 0, slots := 0, locals := 40 }) (va_Pc [.ref (aa 0), .ref (aa 2), .int (nI q), .int (nI q2), .int (nI t)] (zPw D (va_pl L f ++ tW ca aa T) ca sa)) (vp_Si (fun r => r = bI (decide (wkey V t q < wkey V t q2)))) 0 0 (fun _ => False) := by
  refine Met.ofW (cc := cL_isAhead) (maxL := 7) (ret := (some .boolean)) (by decide) rfl ?_
  intro p e s m args below meth c s₁ B hml hv
  obtain ⟨rfl, hPT, hE⟩ := hv
  have hx := B.exec
  have hb := B.bytes
  have hr := B.returns
  have hts := atoms_spec (ws := wsL_isAhead) B.pre
  have hown : s.vm.findClass RL = some m.cls := findClass_of_methodNamed B.named
  have hlocks := B.notSynchronized
  have hl := lv_entry ([.ref (aa 0), .ref (aa 2), .int (nI q), .int (nI q2), .int (nI t)]) (n := 7) (Nat.le_of_ble_eq_true rfl)
  rw [lg_entry_eq]
  generalize (lg_sl ([.ref (aa 0), .ref (aa 2), .int (nI q), .int (nI q2), .int (nI t)]) ++ List.replicate (7 - (lg_sl ([.ref (aa 0), .ref (aa 2), .int (nI q), .int (nI q2), .int (nI t)])).length) Slot.unset).toArray = ls at hl ⊢
  have hl : lv_has ls 7 [(0, .ref (aa 0)), (1, .ref (aa 2)), (2, .int (nI q)), (3, .int (nI q2)), (4, .int (nI t))] := hl
  have hP := p2_l hPT
  have hT := p2_r hPT
  have h4 := hR.1.1
  have hBd := Bd_of hR
  have htd9 := hBd.1.1
  have hnp9 := J.1.2.1
  have hnt9 := J.1.2.2.2.1
  have ht4 : t < 4 := by omega
  obtain ⟨⟨l1, l2, -⟩, b1⟩ := hBd.2.2 q hq
  obtain ⟨⟨l3, l4, -⟩, b2⟩ := hBd.2.2 q2 hq2
  have b3 := (b1 t (by omega)).2
  have b4 := (b2 t (by omega)).2
  refine lv_aload_n hx hb dL_isAhead_0 rfl (lv_at hl 1 rfl) ?_
  refine lv_iconst (v := nI 4) hx hb dL_isAhead_1 (by decide) ?_
  refine lv_iload_n hx hb dL_isAhead_2 rfl (lv_at hl 2 rfl) ?_
  refine nmul hx hb dL_isAhead_3 ?_
  refine lv_iload hx hb dL_isAhead_4 (lv_at hl 4 rfl) ?_
  refine nadd hx hb dL_isAhead_6 ?_
  refine zti hx hb hE hT 2 (by decide) (i := ((4 * q) + t)) (by show ((4 * q) + t) < 24; omega) dL_isAhead_7 ?_
  refine zasi (congrArg nI (show (T 2 ((4 * q) + t)) = vB V q t from ((J.2.2.1 q hq).2.2 t ht4).2.2.1)) ?_
  refine lv_iconst (v := nI 1) hx hb dL_isAhead_8 (by decide) ?_
  refine tern (M := 18) (rest := []) (P := fun v9 : Nat => v9 = if 1 < vB V q t then 1000000 else 0) (fun K9 => ?_) (fun o1 ho1 => ?_)
  · refine nicmp_le (tgt := 17) hx hb dL_isAhead_9 (by decide) (by omega) (by omega) (fun c_9 => ?_) (fun c_9 => ?_)
    · refine lv_iconst (v := nI 0) hx hb dL_isAhead_17 (by decide) ?_
      exact K9 0 (by show _ = _; first | (rw [if_pos (by omega)]) | (rw [if_neg (by omega)]))
    · refine lv_ldc hx hb hown (hts (.constant RL 69 1000000) (by decide +kernel)) dL_isAhead_12 ?_
      refine zasi (show (1000000 : Int32) = nI 1000000 from by decide) ?_
      refine lv_goto (tgt := 18) hx hb dL_isAhead_14 (by decide) ?_
      exact K9 1000000 (by show _ = _; first | (rw [if_pos (by omega)]) | (rw [if_neg (by omega)]))
  refine lv_bipush (v := nI 100) hx hb dL_isAhead_18 (by decide) ?_
  refine lv_aload_n hx hb dL_isAhead_20 rfl (lv_at hl 0 rfl) ?_
  refine lv_iload_n hx hb dL_isAhead_21 rfl (lv_at hl 2 rfl) ?_
  refine zti hx hb hE hT 0 (by decide) (i := q) (by show q < 41; omega) dL_isAhead_22 ?_
  refine zasi (congrArg nI (show (T 0 q) = (vP V q).1 from (J.2.2.1 q hq).1.1)) ?_
  refine nmul hx hb dL_isAhead_23 ?_
  refine nadd hx hb dL_isAhead_24 ?_
  refine lv_bipush (v := nI 10) hx hb dL_isAhead_25 (by decide) ?_
  refine lv_aload_n hx hb dL_isAhead_27 rfl (lv_at hl 0 rfl) ?_
  refine lv_bipush (v := nI 6) hx hb dL_isAhead_28 (by decide) ?_
  refine lv_iload_n hx hb dL_isAhead_30 rfl (lv_at hl 2 rfl) ?_
  refine nadd hx hb dL_isAhead_31 ?_
  refine zti hx hb hE hT 0 (by decide) (i := (6 + q)) (by show (6 + q) < 41; omega) dL_isAhead_32 ?_
  refine zasi (congrArg nI (show (T 0 (6 + q)) = (vP V q).2.1 from (J.2.2.1 q hq).1.2.1)) ?_
  refine nmul hx hb dL_isAhead_33 ?_
  refine nadd hx hb dL_isAhead_34 ?_
  refine lv_iload_n hx hb dL_isAhead_35 rfl (lv_at hl 2 rfl) ?_
  refine nadd hx hb dL_isAhead_36 ?_
  refine zasi (congrArg nI (show (((o1 + (100 * ((vP V q).1))) + (10 * ((vP V q).2.1))) + q) = oneK V t q from by rw [ho1]; rfl)) ?_
  refine lv_istore (lv' := [(5, .int (nI (oneK V t q))), (0, .ref (aa 0)), (1, .ref (aa 2)), (2, .int (nI q)), (3, .int (nI q2)), (4, .int (nI t))]) hx hb dL_isAhead_37 hl (by decide) rfl (fun ls hl => ?_)
  refine lv_aload_n hx hb dL_isAhead_39 rfl (lv_at hl 2 rfl) ?_
  refine lv_iconst (v := nI 4) hx hb dL_isAhead_40 (by decide) ?_
  refine lv_iload_n hx hb dL_isAhead_41 rfl (lv_at hl 4 rfl) ?_
  refine nmul hx hb dL_isAhead_42 ?_
  refine lv_iload hx hb dL_isAhead_43 (lv_at hl 5 rfl) ?_
  refine nadd hx hb dL_isAhead_45 ?_
  refine zti hx hb hE hT 2 (by decide) (i := ((4 * q2) + t)) (by show ((4 * q2) + t) < 24; omega) dL_isAhead_46 ?_
  refine zasi (congrArg nI (show (T 2 ((4 * q2) + t)) = vB V q2 t from ((J.2.2.1 q2 hq2).2.2 t ht4).2.2.1)) ?_
  refine lv_iconst (v := nI 1) hx hb dL_isAhead_47 (by decide) ?_
  refine tern (M := 57) (rest := []) (P := fun v9 : Nat => v9 = if 1 < vB V q2 t then 1000000 else 0) (fun K9 => ?_) (fun o2 ho2 => ?_)
  · refine nicmp_le (tgt := 56) hx hb dL_isAhead_48 (by decide) (by omega) (by omega) (fun c_48 => ?_) (fun c_48 => ?_)
    · refine lv_iconst (v := nI 0) hx hb dL_isAhead_56 (by decide) ?_
      exact K9 0 (by show _ = _; first | (rw [if_pos (by omega)]) | (rw [if_neg (by omega)]))
    · refine lv_ldc hx hb hown (hts (.constant RL 69 1000000) (by decide +kernel)) dL_isAhead_51 ?_
      refine zasi (show (1000000 : Int32) = nI 1000000 from by decide) ?_
      refine lv_goto (tgt := 57) hx hb dL_isAhead_53 (by decide) ?_
      exact K9 1000000 (by show _ = _; first | (rw [if_pos (by omega)]) | (rw [if_neg (by omega)]))
  refine lv_bipush (v := nI 100) hx hb dL_isAhead_57 (by decide) ?_
  refine lv_aload_n hx hb dL_isAhead_59 rfl (lv_at hl 1 rfl) ?_
  refine lv_iload_n hx hb dL_isAhead_60 rfl (lv_at hl 4 rfl) ?_
  refine zti hx hb hE hT 0 (by decide) (i := q2) (by show q2 < 41; omega) dL_isAhead_61 ?_
  refine zasi (congrArg nI (show (T 0 q2) = (vP V q2).1 from (J.2.2.1 q2 hq2).1.1)) ?_
  refine nmul hx hb dL_isAhead_62 ?_
  refine nadd hx hb dL_isAhead_63 ?_
  refine lv_bipush (v := nI 10) hx hb dL_isAhead_64 (by decide) ?_
  refine lv_aload_n hx hb dL_isAhead_66 rfl (lv_at hl 1 rfl) ?_
  refine lv_bipush (v := nI 6) hx hb dL_isAhead_67 (by decide) ?_
  refine lv_iload_n hx hb dL_isAhead_69 rfl (lv_at hl 4 rfl) ?_
  refine nadd hx hb dL_isAhead_70 ?_
  refine zti hx hb hE hT 0 (by decide) (i := (6 + q2)) (by show (6 + q2) < 41; omega) dL_isAhead_71 ?_
  refine zasi (congrArg nI (show (T 0 (6 + q2)) = (vP V q2).2.1 from (J.2.2.1 q2 hq2).1.2.1)) ?_
  refine nmul hx hb dL_isAhead_72 ?_
  refine nadd hx hb dL_isAhead_73 ?_
  refine lv_iload_n hx hb dL_isAhead_74 rfl (lv_at hl 4 rfl) ?_
  refine nadd hx hb dL_isAhead_75 ?_
  refine zasi (congrArg nI (show (((o2 + (100 * ((vP V q2).1))) + (10 * ((vP V q2).2.1))) + q2) = oneK V t q2 from by rw [ho2]; rfl)) ?_
  refine lv_istore (lv' := [(6, .int (nI (oneK V t q2))), (5, .int (nI (oneK V t q))), (0, .ref (aa 0)), (1, .ref (aa 2)), (2, .int (nI q)), (3, .int (nI q2)), (4, .int (nI t))]) hx hb dL_isAhead_76 hl (by decide) rfl (fun ls hl => ?_)
  refine lv_iload hx hb dL_isAhead_78 (lv_at hl 1 rfl) ?_
  refine lv_iload hx hb dL_isAhead_80 (lv_at hl 0 rfl) ?_
  refine nicmp_ge (tgt := 89) hx hb dL_isAhead_82 (by decide) (by unfold oneK; split <;> omega) (by unfold oneK; split <;> omega) (fun c_82 => ?_) (fun c_82 => ?_)
  · refine lv_iconst (v := nI 0) hx hb dL_isAhead_89 (by decide) ?_
    exact zrz hx hb hr hlocks dL_isAhead_90 rfl (bI_f (fun z => Nat.not_lt.mpr c_82 ((oneK_lt hBd hq hq2 hnp9).mpr z)))
  · refine lv_iconst (v := nI 1) hx hb dL_isAhead_85 (by decide) ?_
    refine lv_goto (tgt := 90) hx hb dL_isAhead_86 (by decide) ?_
    exact zrz hx hb hr hlocks dL_isAhead_90 rfl (bI_t ((oneK_lt hBd hq hq2 hnp9).mp c_82))
set_option maxHeartbeats 4000000 in
set_option maxRecDepth 100000 in
theorem k_covers (l : Launch) (D : va_G) (ca : Nat → ClassId) (sa : Nat → Nat) (L : List Nat) (f : Nat → va_E) (h0 ta pa : Nat) (aT aP aS : Nat → Nat) (aH : Nat → Nat → Nat) (n K : Nat) (V : zV) (hR : zRep L f ca h0 ta pa aT aP aS aH n K V) (aa : Nat → Nat) (T : zT) (J : Jv V T) (q t y g : Nat) (hq : q < vNp V) (ht : t < vNt V) (hy : y ≤ 55) (hg : g ≤ 3) : Met l yL_covers wsL_covers ({ frames := 9, cells := 0, slots := 0, locals := 400 }) (va_Pc [.ref h0, .ref (aa 0), .ref (aa 1), .int (nI q), .int (nI t), .int (nI y), .int (nI g)] (zPw D (va_pl L f ++ tW ca aa T) ca sa)) (vp_Si (fun r => r = nI 1)) 0 0 (fun _ => False) := by
  refine Met.ofW (cc := cL_covers) (maxL := 12) (ret := (some .boolean)) (by decide) rfl ?_
  intro p e s m args below meth c s₁ B hml hv
  obtain ⟨rfl, hPT, hE⟩ := hv
  have hx := B.exec
  have hb := B.bytes
  have hr := B.returns
  have hts := atoms_spec (ws := wsL_covers) B.pre
  have hown : s.vm.findClass RL = some m.cls := findClass_of_methodNamed B.named
  have hlocks := B.notSynchronized
  have hl := lv_entry ([.ref h0, .ref (aa 0), .ref (aa 1), .int (nI q), .int (nI t), .int (nI y), .int (nI g)]) (n := 12) (Nat.le_of_ble_eq_true rfl)
  rw [lg_entry_eq]
  generalize (lg_sl ([.ref h0, .ref (aa 0), .ref (aa 1), .int (nI q), .int (nI t), .int (nI y), .int (nI g)]) ++ List.replicate (12 - (lg_sl ([.ref h0, .ref (aa 0), .ref (aa 1), .int (nI q), .int (nI t), .int (nI y), .int (nI g)])).length) Slot.unset).toArray = ls at hl ⊢
  have hl : lv_has ls 12 [(0, .ref h0), (1, .ref (aa 0)), (2, .ref (aa 1)), (3, .int (nI q)), (4, .int (nI t)), (5, .int (nI y)), (6, .int (nI g))] := hl
  have hP := p2_l hPT
  have hT := p2_r hPT
  have h4 := hR.1.1
  have hBd := Bd_of hR
  have htd9 := hBd.1.1
  have hnp9 := J.1.2.1
  have hnt9 := J.1.2.2.2.1
  have ht4 : t < 4 := by omega
  obtain ⟨⟨-, -, lG, lK⟩, -⟩ := hBd.2.2 q hq
  refine lv_aload_n hx hb dL_covers_0 rfl (lv_at hl 2 rfl) ?_
  refine lv_iconst (v := nI 4) hx hb dL_covers_1 (by decide) ?_
  refine lv_iload_n hx hb dL_covers_2 rfl (lv_at hl 3 rfl) ?_
  refine nmul hx hb dL_covers_3 ?_
  refine lv_iload hx hb dL_covers_4 (lv_at hl 4 rfl) ?_
  refine nadd hx hb dL_covers_6 ?_
  refine zti hx hb hE hT 1 (by decide) (i := ((4 * q) + t)) (by show ((4 * q) + t) < 24; omega) dL_covers_7 ?_
  have hw9 := stOk_lt ((J.2.2.1 q hq).2.2 t ht4).1
  refine lv_istore (lv' := [(7, .int (nI (T 1 ((4 * q) + t)))), (0, .ref h0), (1, .ref (aa 0)), (2, .ref (aa 1)), (3, .int (nI q)), (4, .int (nI t)), (5, .int (nI y)), (6, .int (nI g))]) hx hb dL_covers_8 hl (by decide) rfl (fun ls hl => ?_)
  refine lv_aload_n hx hb dL_covers_10 rfl (lv_at hl 2 rfl) ?_
  refine lv_bipush (v := nI 24) hx hb dL_covers_11 (by decide) ?_
  refine lv_iload_n hx hb dL_covers_13 rfl (lv_at hl 4 rfl) ?_
  refine nadd hx hb dL_covers_14 ?_
  refine zti hx hb hE hT 0 (by decide) (i := (24 + q)) (by show (24 + q) < 41; omega) dL_covers_15 ?_
  have ht9 : T 0 (24 + q) = bN (sOn (vL V q 20)) := (J.2.2.1 q hq).2.1.1
  have hb9 := bN_le (sOn (vL V q 20))
  refine lv_iconst (v := nI 1) hx hb dL_covers_16 (by decide) ?_
  refine tern (M := 79) (rest := []) (P := fun v9 : Nat => v9 = bN (hasB T q t y (vTd V))) (fun K9 => ?_) (fun x8 hx8 => ?_)
  · refine nicmp_ne (tgt := 78) hx hb dL_covers_17 (by decide) (by omega) (by omega) (fun c_17 => ?_) (fun c_17 => ?_)
    · refine lv_iconst (v := nI 0) hx hb dL_covers_78 (by decide) ?_
      exact K9 0 (by show _ = _; unfold hasB; first | (rw [decide_eq_true (by omega)]; rfl) | (rw [decide_eq_false (by omega)]; rfl))
    · refine lv_iload hx hb dL_covers_20 (lv_at hl 0 rfl) ?_
      refine lv_iconst (v := nI 2) hx hb dL_covers_22 (by decide) ?_
      refine nrem hx hb (by omega) (by omega) (by omega) dL_covers_23 ?_
      refine lv_iconst (v := nI 1) hx hb dL_covers_24 (by decide) ?_
      refine nicmp_ne (tgt := 78) hx hb dL_covers_25 (by decide) (by omega) (by omega) (fun c_25 => ?_) (fun c_25 => ?_)
      · refine lv_iconst (v := nI 0) hx hb dL_covers_78 (by decide) ?_
        exact K9 0 (by show _ = _; unfold hasB; first | (rw [decide_eq_true (by omega)]; rfl) | (rw [decide_eq_false (by omega)]; rfl))
      · refine lv_iload hx hb dL_covers_28 (lv_at hl 6 rfl) ?_
        refine lv_iload hx hb dL_covers_30 (lv_at hl 0 rfl) ?_
        refine lv_iconst (v := nI 2) hx hb dL_covers_32 (by decide) ?_
        refine ndiv hx hb (by omega) (by omega) (by omega) dL_covers_33 ?_
        refine lv_bipush (v := nI 64) hx hb dL_covers_34 (by decide) ?_
        refine nrem hx hb (by omega) (by omega) (by omega) dL_covers_36 ?_
        refine nicmp_lt (tgt := 78) hx hb dL_covers_37 (by decide) (by omega) (by omega) (fun c_37 => ?_) (fun c_37 => ?_)
        · refine lv_iconst (v := nI 0) hx hb dL_covers_78 (by decide) ?_
          exact K9 0 (by show _ = _; unfold hasB; first | (rw [decide_eq_true (by omega)]; rfl) | (rw [decide_eq_false (by omega)]; rfl))
        · refine lv_iload hx hb dL_covers_40 (lv_at hl 6 rfl) ?_
          refine lv_iload hx hb dL_covers_42 (lv_at hl 0 rfl) ?_
          refine lv_sipush (v := nI 128) hx hb dL_covers_44 (by decide) ?_
          refine ndiv hx hb (by omega) (by omega) (by omega) dL_covers_47 ?_
          refine lv_bipush (v := nI 64) hx hb dL_covers_48 (by decide) ?_
          refine nrem hx hb (by omega) (by omega) (by omega) dL_covers_50 ?_
          refine nicmp_gt (tgt := 78) hx hb dL_covers_51 (by decide) (by omega) (by omega) (fun c_51 => ?_) (fun c_51 => ?_)
          · refine lv_iconst (v := nI 0) hx hb dL_covers_78 (by decide) ?_
            exact K9 0 (by show _ = _; unfold hasB; first | (rw [decide_eq_true (by omega)]; rfl) | (rw [decide_eq_false (by omega)]; rfl))
          · refine lv_iload hx hb dL_covers_54 (lv_at hl 6 rfl) ?_
            refine lv_aload_n hx hb dL_covers_56 rfl (lv_at hl 2 rfl) ?_
            refine lv_bipush (v := nI 40) hx hb dL_covers_57 (by decide) ?_
            refine zti hx hb hE hT 0 (by decide) (i := 40) (by show 40 < 41; omega) dL_covers_59 ?_
            refine zasi (congrArg nI (show (T 0 40) = vTd V from J.1.2.2.2.2)) ?_
            refine lv_sipush (v := nI 360) hx hb dL_covers_60 (by decide) ?_
            refine ndiv hx hb (by omega) (by omega) (by omega) dL_covers_63 ?_
            refine lv_iload hx hb dL_covers_64 (lv_at hl 0 rfl) ?_
            refine lv_sipush (v := nI 8192) hx hb dL_covers_66 (by decide) ?_
            refine ndiv hx hb (by omega) (by omega) (by omega) dL_covers_69 ?_
            refine lv_isub hx hb dL_covers_70 ?_
            refine lv_icmp_gt (tgt := 78) hx hb dL_covers_71 (by decide) (fun c9 => ?_) (fun c9 => ?_)
            · have e9 : nI y ≤ nI (vTd V / 360) - nI (T 1 (4 * q + t) / 8192) ↔ y + T 1 (4 * q + t) / 8192 ≤ vTd V / 360 := le_sub (by omega) (by omega) (by omega)
              have c_71 : ¬ y + T 1 (4 * q + t) / 8192 ≤ vTd V / 360 := fun z => by
                have h7 := e9.mpr z
                rw [Int32.le_iff_toInt_le] at h7
                rw [Int32.lt_iff_toInt_lt] at c9
                omega
              refine lv_iconst (v := nI 0) hx hb dL_covers_78 (by decide) ?_
              exact K9 0 (by show _ = _; unfold hasB; first | (rw [decide_eq_true (by omega)]; rfl) | (rw [decide_eq_false (by omega)]; rfl))
            · have e9 : nI y ≤ nI (vTd V / 360) - nI (T 1 (4 * q + t) / 8192) ↔ y + T 1 (4 * q + t) / 8192 ≤ vTd V / 360 := le_sub (by omega) (by omega) (by omega)
              have c_71 : y + T 1 (4 * q + t) / 8192 ≤ vTd V / 360 := e9.mp (by
                rw [Int32.le_iff_toInt_le]
                rw [Int32.lt_iff_toInt_lt] at c9
                omega)
              refine lv_iconst (v := nI 1) hx hb dL_covers_74 (by decide) ?_
              refine lv_goto (tgt := 79) hx hb dL_covers_75 (by decide) ?_
              exact K9 1 (by show _ = _; unfold hasB; first | (rw [decide_eq_true (by omega)]; rfl) | (rw [decide_eq_false (by omega)]; rfl))
  refine lv_istore (lv' := [(8, .int (nI x8)), (7, .int (nI (T 1 ((4 * q) + t)))), (0, .ref h0), (1, .ref (aa 0)), (2, .ref (aa 1)), (3, .int (nI q)), (4, .int (nI t)), (5, .int (nI y)), (6, .int (nI g))]) hx hb dL_covers_79 hl (by decide) rfl (fun ls hl => ?_)
  refine lv_aload_n hx hb dL_covers_81 rfl (lv_at hl 3 rfl) ?_
  refine lv_bipush (v := nI 12) hx hb dL_covers_82 (by decide) ?_
  refine lv_iload_n hx hb dL_covers_84 rfl (lv_at hl 5 rfl) ?_
  refine nadd hx hb dL_covers_85 ?_
  refine zti hx hb hE hT 0 (by decide) (i := (12 + q)) (by show (12 + q) < 41; omega) dL_covers_86 ?_
  refine zasi (congrArg nI (show (T 0 (12 + q)) = (vP V q).2.2.1 from (J.2.2.1 q hq).1.2.2.1)) ?_
  refine lv_iload hx hb dL_covers_87 (lv_at hl 8 rfl) ?_
  refine lv_ishr hx hb dL_covers_89 ?_
  refine lv_iconst (v := nI 1) hx hb dL_covers_90 (by decide) ?_
  refine lv_iand hx hb dL_covers_91 ?_
  refine lv_iconst (v := nI 1) hx hb dL_covers_92 (by decide) ?_
  refine tern (M := 101) (rest := []) (P := fun v9 : Nat => v9 = bN (zlb (vP V q).2.2.1 g)) (fun K9 => ?_) (fun x9 hx9 => ?_)
  · refine lv_icmp_ne (tgt := 100) hx hb dL_covers_93 (by decide) (fun c9 => ?_) (fun c9 => ?_)
    · have c_93 := (bN_0 (b := zlb (vP V q).2.2.1 g) (by cases z : zlb (vP V q).2.2.1 g with | false => rfl | true => exact absurd ((zlb_if (by omega) (by omega)).mpr z) c9)).symm
      refine lv_iconst (v := nI 0) hx hb dL_covers_100 (by decide) ?_
      exact K9 0 (c_93)
    · have c_93 := (bN_1 ((zlb_if (G := (vP V q).2.2.1) (k := g) (by omega) (by omega)).mp c9)).symm
      refine lv_iconst (v := nI 1) hx hb dL_covers_96 (by decide) ?_
      refine lv_goto (tgt := 101) hx hb dL_covers_97 (by decide) ?_
      exact K9 1 (c_93)
  refine lv_istore (lv' := [(9, .int (nI x9)), (8, .int (nI x8)), (7, .int (nI (T 1 ((4 * q) + t)))), (0, .ref h0), (1, .ref (aa 0)), (2, .ref (aa 1)), (3, .int (nI q)), (4, .int (nI t)), (5, .int (nI y)), (6, .int (nI g))]) hx hb dL_covers_101 hl (by decide) rfl (fun ls hl => ?_)
  refine lv_aload_n hx hb dL_covers_103 rfl (lv_at hl 3 rfl) ?_
  refine lv_iload_n hx hb dL_covers_104 rfl (lv_at hl 6 rfl) ?_
  refine lv_iload hx hb dL_covers_105 (lv_at hl 7 rfl) ?_
  refine lv_iload hx hb dL_covers_107 (lv_at hl 8 rfl) ?_
  refine lv_iload hx hb dL_covers_109 (lv_at hl 9 rfl) ?_
  refine lv_aload_n hx hb dL_covers_111 rfl (lv_at hl 4 rfl) ?_
  refine lv_bipush (v := nI 40) hx hb dL_covers_112 (by decide) ?_
  refine zti hx hb hE hT 0 (by decide) (i := 40) (by show 40 < 41; omega) dL_covers_114 ?_
  refine zasi (congrArg nI (show (T 0 40) = vTd V from J.1.2.2.2.2)) ?_
  refine zci (va_runV (As := [.int (nI q), .int (nI t), .int (nI y), .int (nI g), .int (nI (vTd V))]) (rest := []) ⟨hx, hb, hml, hown, hts⟩ (c_covers l D ca sa L f h0 ta pa aT aP aS aH n K V hR q hq t ht y g (vTd V) hy hg (Nat.le_refl _)) (cwV 5 hts gL_covers_X4_covers rfl rfl rfl (by decide +kernel) ⟨Nat.le_of_ble_eq_true rfl, Nat.le_of_ble_eq_true rfl⟩) (zpVp hP hE rfl h4) rfl rfl hl.1 rfl (lv_room (Nat.le_of_ble_eq_true rfl)) dL_covers_115 ⟨Nat.le_of_ble_eq_true rfl, Nat.le_of_ble_eq_true rfl⟩) ?_
  refine zasi (bI_bN _) ?_
  refine lv_istore (lv' := [(10, .int (nI (bN (cWy V q t y g (vTd V))))), (9, .int (nI x9)), (8, .int (nI x8)), (7, .int (nI (T 1 ((4 * q) + t)))), (0, .ref h0), (1, .ref (aa 0)), (2, .ref (aa 1)), (3, .int (nI q)), (4, .int (nI t)), (5, .int (nI y)), (6, .int (nI g))]) hx hb dL_covers_118 hl (by decide) rfl (fun ls hl => ?_)
  refine lv_sipush (v := nI 360) hx hb dL_covers_120 (by decide) ?_
  refine lv_iload hx hb dL_covers_123 (lv_at hl 9 rfl) ?_
  refine nmul hx hb dL_covers_125 ?_
  refine lv_sipush (v := nI 359) hx hb dL_covers_126 (by decide) ?_
  refine nadd hx hb dL_covers_129 ?_
  have b9 := bN_le (cWy V q t y g (vTd V))
  have hcv := v_cov J hBd (g := g) hq ht4 hy
  obtain ⟨-, zT⟩ := hBd.2.2 q hq
  have G1 : ¬ bN (cWy V q t y g (vTd V)) = 0 → (x8 = 0 ∨ x9 = 0) → (¬ x9 = 0 ∧ (vP V q).2.2.2 = 1 ∧ 360 * y + 359 < vTd V ∧ bN (zOn (360 * y + 359) (vL V q 20)) = 1 ∧ bN (zOn (360 * y + 359) (vL V q t)) = 1) := fun h1 h2 => by
    have h1 := bN_t h1
    rw [hcv, Bool.and_eq_true, Bool.or_eq_true] at h1
    obtain ⟨h3, h5⟩ := h1
    have h6 : ¬ x9 = 0 := by rw [hx9, bN_1 h3]; decide
    rcases h5 with h5 | h5
    · have h7 : ¬ x8 = 0 := by rw [hx8, bN_1 h5]; decide
      omega
    · obtain ⟨k1, k2, k3, k4⟩ := v_kept htd9 hy (zT t (by omega)).1 (zT 20 (by omega)).1 h5
      exact ⟨h6, by omega, k2, bN_1 k4, bN_1 k3⟩
  have G2 : ¬ x8 = 0 → ¬ x9 = 0 → ¬ bN (cWy V q t y g (vTd V)) = 0 := fun h1 h2 => by
    rw [hx8] at h1
    rw [hx9] at h2
    rw [bN_1 (by rw [hcv, bN_t h1, bN_t h2]; rfl)]
    decide
  refine lv_istore (lv' := [(11, .int (nI ((360 * y) + 359))), (10, .int (nI (bN (cWy V q t y g (vTd V))))), (9, .int (nI x9)), (8, .int (nI x8)), (7, .int (nI (T 1 ((4 * q) + t)))), (0, .ref h0), (1, .ref (aa 0)), (2, .ref (aa 1)), (3, .int (nI q)), (4, .int (nI t)), (5, .int (nI y)), (6, .int (nI g))]) hx hb dL_covers_130 hl (by decide) rfl (fun ls hl => ?_)
  refine lv_iload hx hb dL_covers_132 (lv_at hl 1 rfl) ?_
  refine nif_eq (tgt := 199) hx hb dL_covers_134 (by decide) (Nat.lt_trans (bN_le _) (by decide)) (fun c_134 => ?_) (fun c_134 => ?_)
  · refine lv_iload hx hb dL_covers_199 (lv_at hl 3 rfl) ?_
    refine nif_eq (tgt := 214) hx hb dL_covers_201 (by decide) (by rw [hx8]; exact Nat.lt_trans (bN_le _) (by decide)) (fun c_201 => ?_) (fun c_201 => ?_)
    · refine lv_iconst (v := nI 1) hx hb dL_covers_214 (by decide) ?_
      refine lv_goto (tgt := 219) hx hb dL_covers_215 (by decide) ?_
      exact zrz hx hb hr hlocks dL_covers_219 nI_nar1 rfl
    · refine lv_iload hx hb dL_covers_204 (lv_at hl 2 rfl) ?_
      refine nif_eq (tgt := 214) hx hb dL_covers_206 (by decide) (by rw [hx9]; exact Nat.lt_trans (bN_le _) (by decide)) (fun c_206 => ?_) (fun c_206 => ?_)
      · refine lv_iconst (v := nI 1) hx hb dL_covers_214 (by decide) ?_
        refine lv_goto (tgt := 219) hx hb dL_covers_215 (by decide) ?_
        exact zrz hx hb hr hlocks dL_covers_219 nI_nar1 rfl
      · refine lv_iload hx hb dL_covers_209 (lv_at hl 1 rfl) ?_
        refine nif_eq (tgt := 218) hx hb dL_covers_211 (by decide) (Nat.lt_trans (bN_le _) (by decide)) (fun c_211 => ?_) (fun c_211 => ?_)
        · exfalso; first | (have := G1 (by omega) (by omega); omega) | (have := G2 (by omega) (by omega); omega)
        · refine lv_iconst (v := nI 1) hx hb dL_covers_214 (by decide) ?_
          refine lv_goto (tgt := 219) hx hb dL_covers_215 (by decide) ?_
          exact zrz hx hb hr hlocks dL_covers_219 nI_nar1 rfl
  · refine lv_iload hx hb dL_covers_137 (lv_at hl 3 rfl) ?_
    refine nif_eq (tgt := 147) hx hb dL_covers_139 (by decide) (by rw [hx8]; exact Nat.lt_trans (bN_le _) (by decide)) (fun c_139 => ?_) (fun c_139 => ?_)
    · refine lv_iload hx hb dL_covers_147 (lv_at hl 2 rfl) ?_
      refine nif_eq (tgt := 197) hx hb dL_covers_149 (by decide) (by rw [hx9]; exact Nat.lt_trans (bN_le _) (by decide)) (fun c_149 => ?_) (fun c_149 => ?_)
      · exfalso; first | (have := G1 (by omega) (by omega); omega) | (have := G2 (by omega) (by omega); omega)
      · refine lv_aload_n hx hb dL_covers_152 rfl (lv_at hl 6 rfl) ?_
        refine lv_bipush (v := nI 18) hx hb dL_covers_153 (by decide) ?_
        refine lv_iload_n hx hb dL_covers_155 rfl (lv_at hl 8 rfl) ?_
        refine nadd hx hb dL_covers_156 ?_
        refine zti hx hb hE hT 0 (by decide) (i := (18 + q)) (by show (18 + q) < 41; omega) dL_covers_157 ?_
        refine zasi (congrArg nI (show (T 0 (18 + q)) = (vP V q).2.2.2 from (J.2.2.1 q hq).1.2.2.2)) ?_
        refine lv_iconst (v := nI 1) hx hb dL_covers_158 (by decide) ?_
        refine nicmp_ne (tgt := 197) hx hb dL_covers_159 (by decide) (by omega) (by omega) (fun c_159 => ?_) (fun c_159 => ?_)
        · exfalso; first | (have := G1 (by omega) (by omega); omega) | (have := G2 (by omega) (by omega); omega)
        · refine lv_iload hx hb dL_covers_162 (lv_at hl 0 rfl) ?_
          refine lv_aload_n hx hb dL_covers_164 rfl (lv_at hl 6 rfl) ?_
          refine lv_bipush (v := nI 40) hx hb dL_covers_165 (by decide) ?_
          refine zti hx hb hE hT 0 (by decide) (i := 40) (by show 40 < 41; omega) dL_covers_167 ?_
          refine zasi (congrArg nI (show (T 0 40) = vTd V from J.1.2.2.2.2)) ?_
          refine nicmp_ge (tgt := 197) hx hb dL_covers_168 (by decide) (by omega) (by omega) (fun c_168 => ?_) (fun c_168 => ?_)
          · exfalso; first | (have := G1 (by omega) (by omega); omega) | (have := G2 (by omega) (by omega); omega)
          · refine lv_aload_n hx hb dL_covers_171 rfl (lv_at hl 5 rfl) ?_
            refine lv_iload_n hx hb dL_covers_172 rfl (lv_at hl 8 rfl) ?_
            refine lv_iload hx hb dL_covers_173 (lv_at hl 0 rfl) ?_
            refine zci (va_runV (As := [.int (nI q), .int (nI ((360 * y) + 359))]) (rest := []) ⟨hx, hb, hml, hown, hts⟩ (c_isSub l D ca sa L f h0 ta pa aT aP aS aH n K V hR q hq (360 * y + 359) (Nat.le_of_lt c_168)) (cwV 2 hts gL_covers_X4_isSubscribed rfl rfl rfl (by decide +kernel) ⟨Nat.le_of_ble_eq_true rfl, Nat.le_of_ble_eq_true rfl⟩) (zpVp hP hE rfl h4) rfl rfl hl.1 rfl (lv_room (Nat.le_of_ble_eq_true rfl)) dL_covers_175 ⟨Nat.le_of_ble_eq_true rfl, Nat.le_of_ble_eq_true rfl⟩) ?_
            refine zasi (bI_bN _) ?_
            refine nif_eq (tgt := 197) hx hb dL_covers_178 (by decide) (Nat.lt_trans (bN_le _) (by decide)) (fun c_178 => ?_) (fun c_178 => ?_)
            · exfalso; first | (have := G1 (by omega) (by omega); omega) | (have := G2 (by omega) (by omega); omega)
            · refine lv_aload_n hx hb dL_covers_181 rfl (lv_at hl 5 rfl) ?_
              refine lv_iload_n hx hb dL_covers_182 rfl (lv_at hl 8 rfl) ?_
              refine lv_iload hx hb dL_covers_183 (lv_at hl 9 rfl) ?_
              refine lv_iload hx hb dL_covers_185 (lv_at hl 0 rfl) ?_
              refine zci (va_runV (As := [.int (nI q), .int (nI t), .int (nI ((360 * y) + 359))]) (rest := []) ⟨hx, hb, hml, hown, hts⟩ (c_isIn l D ca sa L f h0 ta pa aT aP aS aH n K V hR q hq t ht (360 * y + 359) (Nat.le_of_lt c_168)) (cwV 3 hts gL_covers_X4_isIn rfl rfl rfl (by decide +kernel) ⟨Nat.le_of_ble_eq_true rfl, Nat.le_of_ble_eq_true rfl⟩) (zpVp hP hE rfl h4) rfl rfl hl.1 rfl (lv_room (Nat.le_of_ble_eq_true rfl)) dL_covers_187 ⟨Nat.le_of_ble_eq_true rfl, Nat.le_of_ble_eq_true rfl⟩) ?_
              refine zasi (bI_bN _) ?_
              refine nif_eq (tgt := 197) hx hb dL_covers_190 (by decide) (Nat.lt_trans (bN_le _) (by decide)) (fun c_190 => ?_) (fun c_190 => ?_)
              · exfalso; first | (have := G1 (by omega) (by omega); omega) | (have := G2 (by omega) (by omega); omega)
              · refine lv_iconst (v := nI 1) hx hb dL_covers_193 (by decide) ?_
                refine lv_goto (tgt := 198) hx hb dL_covers_194 (by decide) ?_
                exact zrz hx hb hr hlocks dL_covers_198 nI_nar1 rfl
    · refine lv_iload hx hb dL_covers_142 (lv_at hl 2 rfl) ?_
      refine nif_ne (tgt := 199) hx hb dL_covers_144 (by decide) (by rw [hx9]; exact Nat.lt_trans (bN_le _) (by decide)) (fun c_144 => ?_) (fun c_144 => ?_)
      · refine lv_iload hx hb dL_covers_199 (lv_at hl 3 rfl) ?_
        refine nif_eq (tgt := 214) hx hb dL_covers_201 (by decide) (by rw [hx8]; exact Nat.lt_trans (bN_le _) (by decide)) (fun c_201 => ?_) (fun c_201 => ?_)
        · refine lv_iconst (v := nI 1) hx hb dL_covers_214 (by decide) ?_
          refine lv_goto (tgt := 219) hx hb dL_covers_215 (by decide) ?_
          exact zrz hx hb hr hlocks dL_covers_219 nI_nar1 rfl
        · refine lv_iload hx hb dL_covers_204 (lv_at hl 2 rfl) ?_
          refine nif_eq (tgt := 214) hx hb dL_covers_206 (by decide) (by rw [hx9]; exact Nat.lt_trans (bN_le _) (by decide)) (fun c_206 => ?_) (fun c_206 => ?_)
          · refine lv_iconst (v := nI 1) hx hb dL_covers_214 (by decide) ?_
            refine lv_goto (tgt := 219) hx hb dL_covers_215 (by decide) ?_
            exact zrz hx hb hr hlocks dL_covers_219 nI_nar1 rfl
          · refine lv_iload hx hb dL_covers_209 (lv_at hl 1 rfl) ?_
            refine nif_eq (tgt := 218) hx hb dL_covers_211 (by decide) (Nat.lt_trans (bN_le _) (by decide)) (fun c_211 => ?_) (fun c_211 => ?_)
            · exfalso; first | (have := G1 (by omega) (by omega); omega) | (have := G2 (by omega) (by omega); omega)
            · refine lv_iconst (v := nI 1) hx hb dL_covers_214 (by decide) ?_
              refine lv_goto (tgt := 219) hx hb dL_covers_215 (by decide) ?_
              exact zrz hx hb hr hlocks dL_covers_219 nI_nar1 rfl
      · refine lv_iload hx hb dL_covers_147 (lv_at hl 2 rfl) ?_
        refine nif_eq (tgt := 197) hx hb dL_covers_149 (by decide) (by rw [hx9]; exact Nat.lt_trans (bN_le _) (by decide)) (fun c_149 => ?_) (fun c_149 => ?_)
        · exfalso; first | (have := G1 (by omega) (by omega); omega) | (have := G2 (by omega) (by omega); omega)
        · refine lv_aload_n hx hb dL_covers_152 rfl (lv_at hl 6 rfl) ?_
          refine lv_bipush (v := nI 18) hx hb dL_covers_153 (by decide) ?_
          refine lv_iload_n hx hb dL_covers_155 rfl (lv_at hl 8 rfl) ?_
          refine nadd hx hb dL_covers_156 ?_
          refine zti hx hb hE hT 0 (by decide) (i := (18 + q)) (by show (18 + q) < 41; omega) dL_covers_157 ?_
          refine zasi (congrArg nI (show (T 0 (18 + q)) = (vP V q).2.2.2 from (J.2.2.1 q hq).1.2.2.2)) ?_
          refine lv_iconst (v := nI 1) hx hb dL_covers_158 (by decide) ?_
          refine nicmp_ne (tgt := 197) hx hb dL_covers_159 (by decide) (by omega) (by omega) (fun c_159 => ?_) (fun c_159 => ?_)
          · exfalso; first | (have := G1 (by omega) (by omega); omega) | (have := G2 (by omega) (by omega); omega)
          · refine lv_iload hx hb dL_covers_162 (lv_at hl 0 rfl) ?_
            refine lv_aload_n hx hb dL_covers_164 rfl (lv_at hl 6 rfl) ?_
            refine lv_bipush (v := nI 40) hx hb dL_covers_165 (by decide) ?_
            refine zti hx hb hE hT 0 (by decide) (i := 40) (by show 40 < 41; omega) dL_covers_167 ?_
            refine zasi (congrArg nI (show (T 0 40) = vTd V from J.1.2.2.2.2)) ?_
            refine nicmp_ge (tgt := 197) hx hb dL_covers_168 (by decide) (by omega) (by omega) (fun c_168 => ?_) (fun c_168 => ?_)
            · exfalso; first | (have := G1 (by omega) (by omega); omega) | (have := G2 (by omega) (by omega); omega)
            · refine lv_aload_n hx hb dL_covers_171 rfl (lv_at hl 5 rfl) ?_
              refine lv_iload_n hx hb dL_covers_172 rfl (lv_at hl 8 rfl) ?_
              refine lv_iload hx hb dL_covers_173 (lv_at hl 0 rfl) ?_
              refine zci (va_runV (As := [.int (nI q), .int (nI ((360 * y) + 359))]) (rest := []) ⟨hx, hb, hml, hown, hts⟩ (c_isSub l D ca sa L f h0 ta pa aT aP aS aH n K V hR q hq (360 * y + 359) (Nat.le_of_lt c_168)) (cwV 2 hts gL_covers_X4_isSubscribed rfl rfl rfl (by decide +kernel) ⟨Nat.le_of_ble_eq_true rfl, Nat.le_of_ble_eq_true rfl⟩) (zpVp hP hE rfl h4) rfl rfl hl.1 rfl (lv_room (Nat.le_of_ble_eq_true rfl)) dL_covers_175 ⟨Nat.le_of_ble_eq_true rfl, Nat.le_of_ble_eq_true rfl⟩) ?_
              refine zasi (bI_bN _) ?_
              refine nif_eq (tgt := 197) hx hb dL_covers_178 (by decide) (Nat.lt_trans (bN_le _) (by decide)) (fun c_178 => ?_) (fun c_178 => ?_)
              · exfalso; first | (have := G1 (by omega) (by omega); omega) | (have := G2 (by omega) (by omega); omega)
              · refine lv_aload_n hx hb dL_covers_181 rfl (lv_at hl 5 rfl) ?_
                refine lv_iload_n hx hb dL_covers_182 rfl (lv_at hl 8 rfl) ?_
                refine lv_iload hx hb dL_covers_183 (lv_at hl 9 rfl) ?_
                refine lv_iload hx hb dL_covers_185 (lv_at hl 0 rfl) ?_
                refine zci (va_runV (As := [.int (nI q), .int (nI t), .int (nI ((360 * y) + 359))]) (rest := []) ⟨hx, hb, hml, hown, hts⟩ (c_isIn l D ca sa L f h0 ta pa aT aP aS aH n K V hR q hq t ht (360 * y + 359) (Nat.le_of_lt c_168)) (cwV 3 hts gL_covers_X4_isIn rfl rfl rfl (by decide +kernel) ⟨Nat.le_of_ble_eq_true rfl, Nat.le_of_ble_eq_true rfl⟩) (zpVp hP hE rfl h4) rfl rfl hl.1 rfl (lv_room (Nat.le_of_ble_eq_true rfl)) dL_covers_187 ⟨Nat.le_of_ble_eq_true rfl, Nat.le_of_ble_eq_true rfl⟩) ?_
                refine zasi (bI_bN _) ?_
                refine nif_eq (tgt := 197) hx hb dL_covers_190 (by decide) (Nat.lt_trans (bN_le _) (by decide)) (fun c_190 => ?_) (fun c_190 => ?_)
                · exfalso; first | (have := G1 (by omega) (by omega); omega) | (have := G2 (by omega) (by omega); omega)
                · refine lv_iconst (v := nI 1) hx hb dL_covers_193 (by decide) ?_
                  refine lv_goto (tgt := 198) hx hb dL_covers_194 (by decide) ?_
                  exact zrz hx hb hr hlocks dL_covers_198 nI_nar1 rfl
set_option maxHeartbeats 4000000 in
set_option maxRecDepth 100000 in
theorem k_ways (l : Launch) (D : va_G) (ca : Nat → ClassId) (sa : Nat → Nat) (L : List Nat) (f : Nat → va_E) (h0 ta pa : Nat) (aT aP aS : Nat → Nat) (aH : Nat → Nat → Nat) (n K : Nat) (V : zV) (hR : zRep L f ca h0 ta pa aT aP aS aH n K V) (aa : Nat → Nat) (T : zT) (J : Jv V T) (t y g d : Nat) (ht : t < vNt V) (hy : y ≤ 55) (hg : g ≤ 3) (hd : d ≤ vTd V) : Met l yL_areWays wsL_areWays ({ frames := 10, cells := 0, slots := 0, locals := 470 }) (va_Pc [.ref h0, .ref (aa 0), .ref (aa 1), .ref (aa 2), .int (nI t), .int (nI y), .int (nI g), .int (nI d)] (zPw D (va_pl L f ++ tW ca aa T) ca sa)) (vp_Si (fun r => r = nI 1)) 0 0 (fun _ => False) := by
  refine Met.ofW (cc := cL_areWays) (maxL := 12) (ret := (some .boolean)) (by decide) rfl ?_
  intro p e s m args below meth c s₁ B hml hv
  obtain ⟨rfl, hPT, hE⟩ := hv
  have hx := B.exec
  have hb := B.bytes
  have hr := B.returns
  have hts := atoms_spec (ws := wsL_areWays) B.pre
  have hown : s.vm.findClass RL = some m.cls := findClass_of_methodNamed B.named
  have hlocks := B.notSynchronized
  have hl := lv_entry ([.ref h0, .ref (aa 0), .ref (aa 1), .ref (aa 2), .int (nI t), .int (nI y), .int (nI g), .int (nI d)]) (n := 12) (Nat.le_of_ble_eq_true rfl)
  rw [lg_entry_eq]
  generalize (lg_sl ([.ref h0, .ref (aa 0), .ref (aa 1), .ref (aa 2), .int (nI t), .int (nI y), .int (nI g), .int (nI d)]) ++ List.replicate (12 - (lg_sl ([.ref h0, .ref (aa 0), .ref (aa 1), .ref (aa 2), .int (nI t), .int (nI y), .int (nI g), .int (nI d)])).length) Slot.unset).toArray = ls at hl ⊢
  have hl : lv_has ls 12 [(0, .ref h0), (1, .ref (aa 0)), (2, .ref (aa 1)), (3, .ref (aa 2)), (4, .int (nI t)), (5, .int (nI y)), (6, .int (nI g)), (7, .int (nI d))] := hl
  have hP := p2_l hPT
  have hT := p2_r hPT
  have h4 := hR.1.1
  have hBd := Bd_of hR
  have htd9 := hBd.1.1
  have hnp9 := J.1.2.1
  have hnt9 := J.1.2.2.2.1
  have ht4 : t < 4 := by omega
  have loop2 : ∀ (n9 pl : Nat) (ls : Array Slot), pl + n9 = nW V t y g d → lv_has ls 12 [(10, .int (nI pl)), (9, .int (nI 1)), (8, .int (nI (nW V t y g d))), (0, .ref h0), (1, .ref (aa 0)), (2, .ref (aa 1)), (3, .ref (aa 2)), (4, .int (nI t)), (5, .int (nI y)), (6, .int (nI g)), (7, .int (nI d))] → W p l e (headSpec wsL_areWays ({ frames := 10, cells := 0, slots := 0, locals := 470 })).room s m ([.ref h0, .ref (aa 0), .ref (aa 1), .ref (aa 2), .int (nI t), .int (nI y), .int (nI g), .int (nI d)] : List Value).toArray below meth c s.heap [] 0 0 (MQ below (vp_Si (fun r => r = nI 1)) ([.ref h0, .ref (aa 0), .ref (aa 1), .ref (aa 2), .int (nI t), .int (nI y), .int (nI g), .int (nI d)] : List Value).toArray s 0 0 (fun _ => False)) (F0 m 121 ls []) := by
    have hW9 := nW_le hBd t y g d
    intro n9
    induction n9 with
    | zero =>
      intro pl ls hk9 hl
      refine lv_iload hx hb dL_areWays_121 (lv_at hl 0 rfl) ?_
      refine lv_iload hx hb dL_areWays_123 (lv_at hl 2 rfl) ?_
      refine nicmp_ge (tgt := 212) hx hb dL_areWays_125 (by decide) (by omega) (by omega) (fun c_125 => ?_) (fun c_125 => ?_)
      · refine lv_iload hx hb dL_areWays_212 (lv_at hl 1 rfl) ?_
        exact zrz hx hb hr hlocks dL_areWays_214 nI_nar1 rfl
      · exact absurd c_125 (by omega)
    | succ n9 ih =>
      intro pl ls hk9 hl
      refine lv_iload hx hb dL_areWays_121 (lv_at hl 0 rfl) ?_
      refine lv_iload hx hb dL_areWays_123 (lv_at hl 2 rfl) ?_
      refine nicmp_ge (tgt := 212) hx hb dL_areWays_125 (by decide) (by omega) (by omega) (fun c_125 => ?_) (fun c_125 => ?_)
      · exact absurd c_125 (by omega)
      · refine lv_iload hx hb dL_areWays_128 (lv_at hl 1 rfl) ?_
        refine nif_eq (tgt := 212) hx hb dL_areWays_130 (by decide) (by decide) (fun c_130 => ?_) (fun c_130 => ?_)
        · exact absurd c_130 (by decide)
        · obtain ⟨q2, q2_1, q2_2, q2_3, q2_4, q2_5, q2_6⟩ := v_at hBd (t := t) (y := y) (g := g) (d := d) (pl := pl) c_125
          refine lv_aload_n hx hb dL_areWays_133 rfl (lv_at hl 3 rfl) ?_
          refine lv_iload hx hb dL_areWays_134 (lv_at hl 0 rfl) ?_
          refine lv_iload hx hb dL_areWays_136 (lv_at hl 7 rfl) ?_
          refine lv_iload hx hb dL_areWays_138 (lv_at hl 8 rfl) ?_
          refine lv_iload hx hb dL_areWays_140 (lv_at hl 9 rfl) ?_
          refine lv_iload hx hb dL_areWays_142 (lv_at hl 10 rfl) ?_
          refine zci (va_runV (As := [.int (nI pl), .int (nI t), .int (nI y), .int (nI g), .int (nI d)]) (rest := []) ⟨hx, hb, hml, hown, hts⟩ (c_wayAt l D ca sa L f h0 ta pa aT aP aS aH n K V hR (nI pl) t ht y g d hy hg hd q2 q2_1 q2_4 q2_5 q2_6) (cwV 5 hts gL_areWays_X4_wayAt rfl rfl rfl (by decide +kernel) ⟨Nat.le_of_ble_eq_true rfl, Nat.le_of_ble_eq_true rfl⟩) (zpVp hP hE rfl h4) rfl rfl hl.1 rfl (lv_room (Nat.le_of_ble_eq_true rfl)) dL_areWays_144 ⟨Nat.le_of_ble_eq_true rfl, Nat.le_of_ble_eq_true rfl⟩) ?_
          refine lv_istore (lv' := [(11, .int (nI q2)), (10, .int (nI pl)), (9, .int (nI 1)), (8, .int (nI (nW V t y g d))), (0, .ref h0), (1, .ref (aa 0)), (2, .ref (aa 1)), (3, .ref (aa 2)), (4, .int (nI t)), (5, .int (nI y)), (6, .int (nI g)), (7, .int (nI d))]) hx hb dL_areWays_147 hl (by decide) rfl (fun ls hl => ?_)
          refine lv_aload_n hx hb dL_areWays_149 rfl (lv_at hl 4 rfl) ?_
          refine lv_iload hx hb dL_areWays_150 (lv_at hl 0 rfl) ?_
          refine lv_iload hx hb dL_areWays_152 (lv_at hl 8 rfl) ?_
          refine lv_iload hx hb dL_areWays_154 (lv_at hl 9 rfl) ?_
          refine lv_iload hx hb dL_areWays_156 (lv_at hl 10 rfl) ?_
          refine lv_iload hx hb dL_areWays_158 (lv_at hl 11 rfl) ?_
          refine zci (va_runV (As := [.int (nI q2), .int (nI t), .int (nI y), .int (nI g), .int (nI d)]) (rest := []) ⟨hx, hb, hml, hown, hts⟩ (c_covers l D ca sa L f h0 ta pa aT aP aS aH n K V hR q2 q2_1 t ht y g d hy hg hd) (cwV 5 hts gL_areWays_X4_covers rfl rfl rfl (by decide +kernel) ⟨Nat.le_of_ble_eq_true rfl, Nat.le_of_ble_eq_true rfl⟩) (zpVp hP hE rfl h4) rfl rfl hl.1 rfl (lv_room (Nat.le_of_ble_eq_true rfl)) dL_areWays_160 ⟨Nat.le_of_ble_eq_true rfl, Nat.le_of_ble_eq_true rfl⟩) ?_
          refine zasi (bI_bN _) ?_
          refine zasi (show nI (bN (cWy V q2 t y g d)) = nI 1 from by rw [q2_2]; rfl) ?_
          refine nif_eq (tgt := 203) hx hb dL_areWays_163 (by decide) (by decide) (fun c_163 => ?_) (fun c_163 => ?_)
          · exact absurd c_163 (by decide)
          · refine lv_iload hx hb dL_areWays_166 (lv_at hl 1 rfl) ?_
            refine tern (M := 204) (rest := []) (P := fun v9 : Nat => v9 = 1) (fun K9 => ?_) (fun x9 hx9 => ?_)
            · refine nif_eq (tgt := 199) hx hb dL_areWays_168 (by decide) (by omega) (fun c_168 => ?_) (fun c_168 => ?_)
              · refine lv_iconst (v := nI 1) hx hb dL_areWays_199 (by decide) ?_
                refine lv_goto (tgt := 204) hx hb dL_areWays_200 (by decide) ?_
                exact K9 1 (rfl)
              · obtain ⟨q1, q1_1, q1_2, q1_3, q1_4, q1_5, q1_6⟩ := v_at hBd (t := t) (y := y) (g := g) (d := d) (pl := pl - 1) (by omega)
                refine lv_aload_n hx hb dL_areWays_171 rfl (lv_at hl 5 rfl) ?_
                refine lv_aload_n hx hb dL_areWays_172 rfl (lv_at hl 7 rfl) ?_
                refine lv_aload_n hx hb dL_areWays_173 rfl (lv_at hl 4 rfl) ?_
                refine lv_iload hx hb dL_areWays_174 (lv_at hl 1 rfl) ?_
                refine lv_iconst (v := nI 1) hx hb dL_areWays_176 (by decide) ?_
                refine nsub hx hb (by omega) dL_areWays_177 ?_
                refine lv_iload hx hb dL_areWays_178 (lv_at hl 8 rfl) ?_
                refine lv_iload hx hb dL_areWays_180 (lv_at hl 9 rfl) ?_
                refine lv_iload hx hb dL_areWays_182 (lv_at hl 10 rfl) ?_
                refine lv_iload hx hb dL_areWays_184 (lv_at hl 11 rfl) ?_
                refine zci (va_runV (As := [.int (nI (pl - 1)), .int (nI t), .int (nI y), .int (nI g), .int (nI d)]) (rest := [.ref (aa 2), .ref (aa 0)]) ⟨hx, hb, hml, hown, hts⟩ (c_wayAt l D ca sa L f h0 ta pa aT aP aS aH n K V hR (nI (pl - 1)) t ht y g d hy hg hd q1 q1_1 q1_4 q1_5 q1_6) (cwV 5 hts gL_areWays_X4_wayAt rfl rfl rfl (by decide +kernel) ⟨Nat.le_of_ble_eq_true rfl, Nat.le_of_ble_eq_true rfl⟩) (zpVp hP hE rfl h4) rfl rfl hl.1 rfl (lv_room (Nat.le_of_ble_eq_true rfl)) dL_areWays_186 ⟨Nat.le_of_ble_eq_true rfl, Nat.le_of_ble_eq_true rfl⟩) ?_
                refine lv_iload hx hb dL_areWays_189 (lv_at hl 0 rfl) ?_
                refine lv_iload hx hb dL_areWays_191 (lv_at hl 8 rfl) ?_
                refine zci (va_runS (As := [.ref (aa 0), .ref (aa 2), .int (nI q1), .int (nI q2), .int (nI t)]) (rest := []) ⟨hx, hb, hml, hown, hts⟩ (k_ahead l D ca sa L f h0 ta pa aT aP aS aH n K V hR aa T J q1 q2 t q1_1 q2_1 ht) (va_cwS 5 hts gL_areWays_L_isAhead rfl rfl rfl (by decide +kernel) ⟨Nat.le_of_ble_eq_true rfl, Nat.le_of_ble_eq_true rfl⟩) (zpS (hP.app hT) hE) rfl rfl hl.1 rfl (lv_room (Nat.le_of_ble_eq_true rfl)) dL_areWays_193 ⟨Nat.le_of_ble_eq_true rfl, Nat.le_of_ble_eq_true rfl⟩) ?_
                refine zasi (bI_bN _) ?_
                refine zasi (show nI (bN (decide (wkey V t q1 < wkey V t q2))) = nI 1 from by rw [decide_eq_true (v_order (t := t) (y := y) (g := g) (d := d) (by rw [q1_3, q2_3]; omega))]; rfl) ?_
                refine nif_eq (tgt := 203) hx hb dL_areWays_196 (by decide) (by decide) (fun c_196 => ?_) (fun c_196 => ?_)
                · exact absurd c_196 (by decide)
                · refine lv_iconst (v := nI 1) hx hb dL_areWays_199 (by decide) ?_
                  refine lv_goto (tgt := 204) hx hb dL_areWays_200 (by decide) ?_
                  exact K9 1 (rfl)
            subst hx9
            refine lv_istore (lv' := [(9, .int (nI 1)), (11, .int (nI q2)), (10, .int (nI pl)), (8, .int (nI (nW V t y g d))), (0, .ref h0), (1, .ref (aa 0)), (2, .ref (aa 1)), (3, .ref (aa 2)), (4, .int (nI t)), (5, .int (nI y)), (6, .int (nI g)), (7, .int (nI d))]) hx hb dL_areWays_204 hl (by decide) rfl (fun ls hl => ?_)
            refine lv_iinc (v := (nI (pl + 1))) (lv' := [(10, .int (nI (pl + 1))), (9, .int (nI 1)), (11, .int (nI q2)), (8, .int (nI (nW V t y g d))), (0, .ref h0), (1, .ref (aa 0)), (2, .ref (aa 1)), (3, .ref (aa 2)), (4, .int (nI t)), (5, .int (nI y)), (6, .int (nI g)), (7, .int (nI d))]) hx hb dL_areWays_206 hl (k := 2) rfl (zinc1 _) (by decide) rfl (fun ls hl => ?_)
            refine lv_goto (tgt := 121) hx hb dL_areWays_209 (by decide) ?_
            exact ih (pl + 1) ls (by omega) (lv_sub hl [0, 1, 3, 4, 5, 6, 7, 8, 9, 10, 11] rfl)
  have mid : ∀ (ls : Array Slot), lv_has ls 12 [(9, .int (nI 1)), (8, .int (nI (nW V t y g d))), (0, .ref h0), (1, .ref (aa 0)), (2, .ref (aa 1)), (3, .ref (aa 2)), (4, .int (nI t)), (5, .int (nI y)), (6, .int (nI g)), (7, .int (nI d))] → W p l e (headSpec wsL_areWays ({ frames := 10, cells := 0, slots := 0, locals := 470 })).room s m ([.ref h0, .ref (aa 0), .ref (aa 1), .ref (aa 2), .int (nI t), .int (nI y), .int (nI g), .int (nI d)] : List Value).toArray below meth c s.heap [] 0 0 (MQ below (vp_Si (fun r => r = nI 1)) ([.ref h0, .ref (aa 0), .ref (aa 1), .ref (aa 2), .int (nI t), .int (nI y), .int (nI g), .int (nI d)] : List Value).toArray s 0 0 (fun _ => False)) (F0 m 89 ls []) := by
    have hW9 := nW_le hBd t y g d
    intro ls hl
    refine lv_iload hx hb dL_areWays_89 (lv_at hl 0 rfl) ?_
    refine nif_eq (tgt := 115) hx hb dL_areWays_91 (by decide) (by decide) (fun c_91 => ?_) (fun c_91 => ?_)
    · exact absurd c_91 (by decide)
    · refine lv_aload_n hx hb dL_areWays_94 rfl (lv_at hl 2 rfl) ?_
      refine lv_iload hx hb dL_areWays_95 (lv_at hl 6 rfl) ?_
      refine lv_iload hx hb dL_areWays_97 (lv_at hl 7 rfl) ?_
      refine lv_iload hx hb dL_areWays_99 (lv_at hl 8 rfl) ?_
      refine lv_iload hx hb dL_areWays_101 (lv_at hl 9 rfl) ?_
      refine zci (va_runV (As := [.int (nI t), .int (nI y), .int (nI g), .int (nI d)]) (rest := []) ⟨hx, hb, hml, hown, hts⟩ (c_ways l D ca sa L f h0 ta pa aT aP aS aH n K V hR t ht y g d hy hg hd) (cwV 4 hts gL_areWays_X4_ways rfl rfl rfl (by decide +kernel) ⟨Nat.le_of_ble_eq_true rfl, Nat.le_of_ble_eq_true rfl⟩) (zpVp hP hE rfl h4) rfl rfl hl.1 rfl (lv_room (Nat.le_of_ble_eq_true rfl)) dL_areWays_103 ⟨Nat.le_of_ble_eq_true rfl, Nat.le_of_ble_eq_true rfl⟩) ?_
      refine zasi (show swI (wTo V t y g d (vNp V)) = nI (nW V t y g d) from v_ways hBd t y g d) ?_
      refine lv_iload hx hb dL_areWays_106 (lv_at hl 1 rfl) ?_
      refine nicmp_ne (tgt := 115) hx hb dL_areWays_108 (by decide) (by omega) (by omega) (fun c_108 => ?_) (fun c_108 => ?_)
      · exact absurd rfl c_108
      · refine lv_iconst (v := nI 1) hx hb dL_areWays_111 (by decide) ?_
        refine lv_goto (tgt := 116) hx hb dL_areWays_112 (by decide) ?_
        refine lv_istore (lv' := [(9, .int (nI 1)), (8, .int (nI (nW V t y g d))), (0, .ref h0), (1, .ref (aa 0)), (2, .ref (aa 1)), (3, .ref (aa 2)), (4, .int (nI t)), (5, .int (nI y)), (6, .int (nI g)), (7, .int (nI d))]) hx hb dL_areWays_116 hl (by decide) rfl (fun ls hl => ?_)
        refine lv_iconst (v := nI 0) hx hb dL_areWays_118 (by decide) ?_
        refine lv_istore (lv' := [(10, .int (nI 0)), (9, .int (nI 1)), (8, .int (nI (nW V t y g d))), (0, .ref h0), (1, .ref (aa 0)), (2, .ref (aa 1)), (3, .ref (aa 2)), (4, .int (nI t)), (5, .int (nI y)), (6, .int (nI g)), (7, .int (nI d))]) hx hb dL_areWays_119 hl (by decide) rfl (fun ls hl => ?_)
        exact loop2 (nW V t y g d) 0 ls (Nat.zero_add _) (lv_sub hl [0, 1, 2, 3, 4, 5, 6, 7, 8, 9, 10] rfl)
  have loop1 : ∀ (n9 k9 mn : Nat) (ls : Array Slot), k9 + n9 = vNp V → mn = wc (fun k => cWy V k t y g d) k9 → mn ≤ k9 → lv_has ls 12 [(10, .int (nI k9)), (9, .int (nI 1)), (8, .int (nI mn)), (0, .ref h0), (1, .ref (aa 0)), (2, .ref (aa 1)), (3, .ref (aa 2)), (4, .int (nI t)), (5, .int (nI y)), (6, .int (nI g)), (7, .int (nI d))] → W p l e (headSpec wsL_areWays ({ frames := 10, cells := 0, slots := 0, locals := 470 })).room s m ([.ref h0, .ref (aa 0), .ref (aa 1), .ref (aa 2), .int (nI t), .int (nI y), .int (nI g), .int (nI d)] : List Value).toArray below meth c s.heap [] 0 0 (MQ below (vp_Si (fun r => r = nI 1)) ([.ref h0, .ref (aa 0), .ref (aa 1), .ref (aa 2), .int (nI t), .int (nI y), .int (nI g), .int (nI d)] : List Value).toArray s 0 0 (fun _ => False)) (F0 m 9 ls []) := by
    intro n9
    induction n9 with
    | zero =>
      intro k9 mn ls hk9 hm9 hmk hl
      refine lv_iload hx hb dL_areWays_9 (lv_at hl 0 rfl) ?_
      refine lv_aload_n hx hb dL_areWays_11 rfl (lv_at hl 4 rfl) ?_
      refine lv_bipush (v := nI 38) hx hb dL_areWays_12 (by decide) ?_
      refine zti hx hb hE hT 0 (by decide) (i := 38) (by show 38 < 41; omega) dL_areWays_14 ?_
      refine zasi (congrArg nI (show (T 0 38) = vNp V from J.1.1)) ?_
      refine nicmp_ge (tgt := 89) hx hb dL_areWays_15 (by decide) (by omega) (by omega) (fun c_15 => ?_) (fun c_15 => ?_)
      · refine mid ls ?_
        rw [show nW V t y g d = mn from by rw [hm9, show k9 = vNp V by omega]; rfl]
        exact lv_sub hl [1, 2, 3, 4, 5, 6, 7, 8, 9, 10] rfl
      · exact absurd c_15 (by omega)
    | succ n9 ih =>
      intro k9 mn ls hk9 hm9 hmk hl
      refine lv_iload hx hb dL_areWays_9 (lv_at hl 0 rfl) ?_
      refine lv_aload_n hx hb dL_areWays_11 rfl (lv_at hl 4 rfl) ?_
      refine lv_bipush (v := nI 38) hx hb dL_areWays_12 (by decide) ?_
      refine zti hx hb hE hT 0 (by decide) (i := 38) (by show 38 < 41; omega) dL_areWays_14 ?_
      refine zasi (congrArg nI (show (T 0 38) = vNp V from J.1.1)) ?_
      refine nicmp_ge (tgt := 89) hx hb dL_areWays_15 (by decide) (by omega) (by omega) (fun c_15 => ?_) (fun c_15 => ?_)
      · exact absurd c_15 (by omega)
      · refine lv_iload hx hb dL_areWays_18 (lv_at hl 2 rfl) ?_
        refine lv_aload_n hx hb dL_areWays_20 rfl (lv_at hl 3 rfl) ?_
        refine lv_iload hx hb dL_areWays_21 (lv_at hl 0 rfl) ?_
        refine lv_iload hx hb dL_areWays_23 (lv_at hl 7 rfl) ?_
        refine lv_iload hx hb dL_areWays_25 (lv_at hl 8 rfl) ?_
        refine lv_iload hx hb dL_areWays_27 (lv_at hl 9 rfl) ?_
        refine lv_iload hx hb dL_areWays_29 (lv_at hl 10 rfl) ?_
        refine zci (va_runV (As := [.int (nI k9), .int (nI t), .int (nI y), .int (nI g), .int (nI d)]) (rest := [.int (nI mn)]) ⟨hx, hb, hml, hown, hts⟩ (c_covers l D ca sa L f h0 ta pa aT aP aS aH n K V hR k9 c_15 t ht y g d hy hg hd) (cwV 5 hts gL_areWays_X4_covers rfl rfl rfl (by decide +kernel) ⟨Nat.le_of_ble_eq_true rfl, Nat.le_of_ble_eq_true rfl⟩) (zpVp hP hE rfl h4) rfl rfl hl.1 rfl (lv_room (Nat.le_of_ble_eq_true rfl)) dL_areWays_31 ⟨Nat.le_of_ble_eq_true rfl, Nat.le_of_ble_eq_true rfl⟩) ?_
        refine zasi (bI_bN _) ?_
        refine tern (M := 42) (rest := [.int (nI mn)]) (P := fun v9 : Nat => v9 = bN (cWy V k9 t y g d)) (fun K9 => ?_) (fun x9 hx9 => ?_)
        · refine nif_eq (tgt := 41) hx hb dL_areWays_34 (by decide) (Nat.lt_trans (bN_le _) (by decide)) (fun c_34 => ?_) (fun c_34 => ?_)
          · refine lv_iconst (v := nI 0) hx hb dL_areWays_41 (by decide) ?_
            exact K9 0 (by show _ = _; have := bN_le (cWy V k9 t y g d); omega)
          · refine lv_iconst (v := nI 1) hx hb dL_areWays_37 (by decide) ?_
            refine lv_goto (tgt := 42) hx hb dL_areWays_38 (by decide) ?_
            exact K9 1 (by show _ = _; have := bN_le (cWy V k9 t y g d); omega)
        refine nadd hx hb dL_areWays_42 ?_
        refine lv_istore (lv' := [(8, .int (nI (mn + x9))), (10, .int (nI k9)), (9, .int (nI 1)), (0, .ref h0), (1, .ref (aa 0)), (2, .ref (aa 1)), (3, .ref (aa 2)), (4, .int (nI t)), (5, .int (nI y)), (6, .int (nI g)), (7, .int (nI d))]) hx hb dL_areWays_43 hl (by decide) rfl (fun ls hl => ?_)
        refine lv_iload hx hb dL_areWays_45 (lv_at hl 2 rfl) ?_
        refine nif_eq (tgt := 80) hx hb dL_areWays_47 (by decide) (by decide) (fun c_47 => ?_) (fun c_47 => ?_)
        · exact absurd c_47 (by decide)
        · refine lv_iload hx hb dL_areWays_50 (lv_at hl 10 rfl) ?_
          refine lv_aload_n hx hb dL_areWays_52 rfl (lv_at hl 4 rfl) ?_
          refine lv_bipush (v := nI 40) hx hb dL_areWays_53 (by decide) ?_
          refine zti hx hb hE hT 0 (by decide) (i := 40) (by show 40 < 41; omega) dL_areWays_55 ?_
          refine zasi (congrArg nI (show (T 0 40) = vTd V from J.1.2.2.2.2)) ?_
          refine tern (M := 81) (rest := []) (P := fun v9 : Nat => v9 = 1) (fun K9 => ?_) (fun z9 hz9 => ?_)
          · refine nicmp_lt (tgt := 76) hx hb dL_areWays_56 (by decide) (by omega) (by omega) (fun c_56 => ?_) (fun c_56 => ?_)
            · refine lv_iconst (v := nI 1) hx hb dL_areWays_76 (by decide) ?_
              refine lv_goto (tgt := 81) hx hb dL_areWays_77 (by decide) ?_
              exact K9 1 (rfl)
            · refine lv_aload_n hx hb dL_areWays_59 rfl (lv_at hl 3 rfl) ?_
              refine lv_aload_n hx hb dL_areWays_60 rfl (lv_at hl 4 rfl) ?_
              refine lv_aload_n hx hb dL_areWays_61 rfl (lv_at hl 5 rfl) ?_
              refine lv_iload hx hb dL_areWays_62 (lv_at hl 1 rfl) ?_
              refine lv_iload hx hb dL_areWays_64 (lv_at hl 7 rfl) ?_
              refine lv_iload hx hb dL_areWays_66 (lv_at hl 8 rfl) ?_
              refine lv_iload hx hb dL_areWays_68 (lv_at hl 9 rfl) ?_
              refine zci (va_runS (As := [.ref h0, .ref (aa 0), .ref (aa 1), .int (nI k9), .int (nI t), .int (nI y), .int (nI g)]) (rest := []) ⟨hx, hb, hml, hown, hts⟩ (k_covers l D ca sa L f h0 ta pa aT aP aS aH n K V hR aa T J k9 t y g c_15 ht hy hg) (va_cwS 7 hts gL_areWays_L_covers rfl rfl rfl (by decide +kernel) ⟨Nat.le_of_ble_eq_true rfl, Nat.le_of_ble_eq_true rfl⟩) (zpS (hP.app hT) hE) rfl rfl hl.1 rfl (lv_room (Nat.le_of_ble_eq_true rfl)) dL_areWays_70 ⟨Nat.le_of_ble_eq_true rfl, Nat.le_of_ble_eq_true rfl⟩) ?_
              refine nif_eq (tgt := 80) hx hb dL_areWays_73 (by decide) (by decide) (fun c_73 => ?_) (fun c_73 => ?_)
              · exact absurd c_73 (by decide)
              · refine lv_iconst (v := nI 1) hx hb dL_areWays_76 (by decide) ?_
                refine lv_goto (tgt := 81) hx hb dL_areWays_77 (by decide) ?_
                exact K9 1 (rfl)
          subst hz9
          refine lv_istore (lv' := [(9, .int (nI 1)), (8, .int (nI (mn + x9))), (10, .int (nI k9)), (0, .ref h0), (1, .ref (aa 0)), (2, .ref (aa 1)), (3, .ref (aa 2)), (4, .int (nI t)), (5, .int (nI y)), (6, .int (nI g)), (7, .int (nI d))]) hx hb dL_areWays_81 hl (by decide) rfl (fun ls hl => ?_)
          refine lv_iinc (v := (nI (k9 + 1))) (lv' := [(10, .int (nI (k9 + 1))), (9, .int (nI 1)), (8, .int (nI (mn + x9))), (0, .ref h0), (1, .ref (aa 0)), (2, .ref (aa 1)), (3, .ref (aa 2)), (4, .int (nI t)), (5, .int (nI y)), (6, .int (nI g)), (7, .int (nI d))]) hx hb dL_areWays_83 hl (k := 2) rfl (zinc1 _) (by decide) rfl (fun ls hl => ?_)
          refine lv_goto (tgt := 9) hx hb dL_areWays_86 (by decide) ?_
          exact ih (k9 + 1) (mn + x9) ls (by omega) (by rw [wc_bN, ← hm9, hx9]) (by have := bN_le (cWy V k9 t y g d); omega) (lv_sub hl [0, 1, 2, 3, 4, 5, 6, 7, 8, 9, 10] rfl)
  refine lv_iconst (v := nI 0) hx hb dL_areWays_0 (by decide) ?_
  refine lv_istore (lv' := [(8, .int (nI 0)), (0, .ref h0), (1, .ref (aa 0)), (2, .ref (aa 1)), (3, .ref (aa 2)), (4, .int (nI t)), (5, .int (nI y)), (6, .int (nI g)), (7, .int (nI d))]) hx hb dL_areWays_1 hl (by decide) rfl (fun ls hl => ?_)
  refine lv_iconst (v := nI 1) hx hb dL_areWays_3 (by decide) ?_
  refine lv_istore (lv' := [(9, .int (nI 1)), (8, .int (nI 0)), (0, .ref h0), (1, .ref (aa 0)), (2, .ref (aa 1)), (3, .ref (aa 2)), (4, .int (nI t)), (5, .int (nI y)), (6, .int (nI g)), (7, .int (nI d))]) hx hb dL_areWays_4 hl (by decide) rfl (fun ls hl => ?_)
  refine lv_iconst (v := nI 0) hx hb dL_areWays_6 (by decide) ?_
  refine lv_istore (lv' := [(10, .int (nI 0)), (9, .int (nI 1)), (8, .int (nI 0)), (0, .ref h0), (1, .ref (aa 0)), (2, .ref (aa 1)), (3, .ref (aa 2)), (4, .int (nI t)), (5, .int (nI y)), (6, .int (nI g)), (7, .int (nI d))]) hx hb dL_areWays_7 hl (by decide) rfl (fun ls hl => ?_)
  exact loop1 (vNp V) 0 0 ls (Nat.zero_add _) rfl (Nat.le_refl _) (lv_sub hl [0, 1, 2, 3, 4, 5, 6, 7, 8, 9, 10] rfl)
set_option maxHeartbeats 4000000 in
set_option maxRecDepth 100000 in
theorem k_gaps (l : Launch) (D : va_G) (ca : Nat → ClassId) (sa : Nat → Nat) (L : List Nat) (f : Nat → va_E) (h0 ta pa : Nat) (aT aP aS : Nat → Nat) (aH : Nat → Nat → Nat) (n K : Nat) (V : zV) (hR : zRep L f ca h0 ta pa aT aP aS aH n K V) (aa : Nat → Nat) (T : zT) (J : Jv V T) (t g : Nat) (ht : t < vNt V) (hg : g ≤ 3) : Met l yL_areGaps wsL_areGaps ({ frames := 9, cells := 0, slots := 0, locals := 420 }) (va_Pc [.ref h0, .ref (aa 0), .int (nI t), .int (nI g)] (zPw D (va_pl L f ++ tW ca aa T) ca sa)) (vp_Si (fun r => r = nI 1)) 0 0 (fun _ => False) := by
  refine Met.ofW (cc := cL_areGaps) (maxL := 8) (ret := (some .boolean)) (by decide) rfl ?_
  intro p e s m args below meth c s₁ B hml hv
  obtain ⟨rfl, hPT, hE⟩ := hv
  have hx := B.exec
  have hb := B.bytes
  have hr := B.returns
  have hts := atoms_spec (ws := wsL_areGaps) B.pre
  have hown : s.vm.findClass RL = some m.cls := findClass_of_methodNamed B.named
  have hlocks := B.notSynchronized
  have hl := lv_entry ([.ref h0, .ref (aa 0), .int (nI t), .int (nI g)]) (n := 8) (Nat.le_of_ble_eq_true rfl)
  rw [lg_entry_eq]
  generalize (lg_sl ([.ref h0, .ref (aa 0), .int (nI t), .int (nI g)]) ++ List.replicate (8 - (lg_sl ([.ref h0, .ref (aa 0), .int (nI t), .int (nI g)])).length) Slot.unset).toArray = ls at hl ⊢
  have hl : lv_has ls 8 [(0, .ref h0), (1, .ref (aa 0)), (2, .int (nI t)), (3, .int (nI g))] := hl
  have hP := p2_l hPT
  have hT := p2_r hPT
  have h4 := hR.1.1
  have hBd := Bd_of hR
  have htd9 := hBd.1.1
  have hnp9 := J.1.2.1
  have hnt9 := J.1.2.2.2.1
  have ht4 : t < 4 := by omega
  obtain ⟨fy5, -, -⟩ := hBd.2.1 t ht
  have hdb : pDb (fun y => nW V t y g (vTd V)) (vT V t).1 (vTd V / 360 + 1) 0 = pDn (fun y => nW V t y g (vTd V)) (vT V t).1 (vTd V / 360 + 1 - (vT V t).1) := by rw [pDb_is, Nat.zero_add]
  have hdl : pDb (fun y => nW V t y g (vTd V)) (vT V t).1 (vTd V / 360 + 1) 0 ≤ 60 := by have := pDn_le (fun y => nW V t y g (vTd V)) (vT V t).1 (vTd V / 360 + 1 - (vT V t).1); omega
  have fin : ∀ (ls : Array Slot), lv_has ls 8 [(5, .int (nI (pDb (fun y => nW V t y g (vTd V)) (vT V t).1 (vTd V / 360 + 1) 0))), (4, .int (pGf (fun y => nW V t y g (vTd V)) (vT V t).1 (vTd V / 360 + 1) (-1))), (0, .ref h0), (1, .ref (aa 0)), (2, .int (nI t)), (3, .int (nI g))] → W p l e (headSpec wsL_areGaps ({ frames := 9, cells := 0, slots := 0, locals := 420 })).room s m ([.ref h0, .ref (aa 0), .int (nI t), .int (nI g)] : List Value).toArray below meth c s.heap [] 0 0 (MQ below (vp_Si (fun r => r = nI 1)) ([.ref h0, .ref (aa 0), .int (nI t), .int (nI g)] : List Value).toArray s 0 0 (fun _ => False)) (F0 m 77 ls []) := by
    intro ls hl
    refine lv_aload_n hx hb dL_areGaps_77 rfl (lv_at hl 2 rfl) ?_
    refine lv_iload_n hx hb dL_areGaps_78 rfl (lv_at hl 4 rfl) ?_
    refine lv_iload_n hx hb dL_areGaps_79 rfl (lv_at hl 5 rfl) ?_
    refine zci (va_runV (As := [.int (nI t), .int (nI g)]) (rest := []) ⟨hx, hb, hml, hown, hts⟩ (c_gap l D ca sa L f h0 ta pa aT aP aS aH n K V hR t ht g hg) (cwV 2 hts gL_areGaps_X4_gap rfl rfl rfl (by decide +kernel) ⟨Nat.le_of_ble_eq_true rfl, Nat.le_of_ble_eq_true rfl⟩) (zpVp hP hE rfl h4) rfl rfl hl.1 rfl (lv_room (Nat.le_of_ble_eq_true rfl)) dL_areGaps_80 ⟨Nat.le_of_ble_eq_true rfl, Nat.le_of_ble_eq_true rfl⟩) ?_
    refine lv_iload hx hb dL_areGaps_83 (lv_at hl 1 rfl) ?_
    refine lv_icmp_ne (tgt := 103) hx hb dL_areGaps_85 (by decide) (fun c9 => ?_) (fun c9 => ?_)
    · exact absurd (v_gap hBd ht) c9
    · refine lv_aload_n hx hb dL_areGaps_88 rfl (lv_at hl 2 rfl) ?_
      refine lv_iload_n hx hb dL_areGaps_89 rfl (lv_at hl 4 rfl) ?_
      refine lv_iload_n hx hb dL_areGaps_90 rfl (lv_at hl 5 rfl) ?_
      refine zci (va_runV (As := [.int (nI t), .int (nI g)]) (rest := []) ⟨hx, hb, hml, hown, hts⟩ (c_doubles l D ca sa L f h0 ta pa aT aP aS aH n K V hR t ht g hg) (cwV 2 hts gL_areGaps_X4_doubles rfl rfl rfl (by decide +kernel) ⟨Nat.le_of_ble_eq_true rfl, Nat.le_of_ble_eq_true rfl⟩) (zpVp hP hE rfl h4) rfl rfl hl.1 rfl (lv_room (Nat.le_of_ble_eq_true rfl)) dL_areGaps_91 ⟨Nat.le_of_ble_eq_true rfl, Nat.le_of_ble_eq_true rfl⟩) ?_
      refine zasi (show swL ((cDb V t g (vNp V)).2 &&& zYs V t) = nI (pDb (fun y => nW V t y g (vTd V)) (vT V t).1 (vTd V / 360 + 1) 0) from (v_dbl hBd ht).trans (congrArg nI hdb.symm)) ?_
      refine lv_iload hx hb dL_areGaps_94 (lv_at hl 0 rfl) ?_
      refine nicmp_ne (tgt := 103) hx hb dL_areGaps_96 (by decide) (by omega) (by omega) (fun c_96 => ?_) (fun c_96 => ?_)
      · exact absurd rfl c_96
      · refine lv_iconst (v := nI 1) hx hb dL_areGaps_99 (by decide) ?_
        refine lv_goto (tgt := 104) hx hb dL_areGaps_100 (by decide) ?_
        exact zrz hx hb hr hlocks dL_areGaps_104 nI_nar1 rfl
  have loop : ∀ (n9 : Nat) (db : Nat) (gp : Int32) (ls : Array Slot), n9 ≤ vTd V / 360 + 1 → db + n9 ≤ vTd V / 360 + 1 → pGf (fun y => nW V t y g (vTd V)) (vT V t).1 n9 gp = pGf (fun y => nW V t y g (vTd V)) (vT V t).1 (vTd V / 360 + 1) (-1) → pDb (fun y => nW V t y g (vTd V)) (vT V t).1 n9 db = pDb (fun y => nW V t y g (vTd V)) (vT V t).1 (vTd V / 360 + 1) 0 → lv_has ls 8 [(6, .int (mI n9)), (5, .int (nI db)), (4, .int gp), (0, .ref h0), (1, .ref (aa 0)), (2, .int (nI t)), (3, .int (nI g))] → W p l e (headSpec wsL_areGaps ({ frames := 9, cells := 0, slots := 0, locals := 420 })).room s m ([.ref h0, .ref (aa 0), .int (nI t), .int (nI g)] : List Value).toArray below meth c s.heap [] 0 0 (MQ below (vp_Si (fun r => r = nI 1)) ([.ref h0, .ref (aa 0), .int (nI t), .int (nI g)] : List Value).toArray s 0 0 (fun _ => False)) (F0 m 16 ls []) := by
    intro n9
    induction n9 with
    | zero =>
      intro db gp ls h1 h2 e1 e2 hl
      have hl : lv_has ls 8 [(6, .int (-1)), (5, .int (nI db)), (4, .int gp), (0, .ref h0), (1, .ref (aa 0)), (2, .int (nI t)), (3, .int (nI g))] := hl
      refine lv_iload hx hb dL_areGaps_16 (lv_at hl 0 rfl) ?_
      refine lv_aload_n hx hb dL_areGaps_18 rfl (lv_at hl 4 rfl) ?_
      refine lv_bipush (v := nI 30) hx hb dL_areGaps_19 (by decide) ?_
      refine lv_iload_n hx hb dL_areGaps_21 rfl (lv_at hl 5 rfl) ?_
      refine nadd hx hb dL_areGaps_22 ?_
      refine zti hx hb hE hT 0 (by decide) (i := (30 + t)) (by show (30 + t) < 41; omega) dL_areGaps_23 ?_
      refine zasi (congrArg nI (show (T 0 (30 + t)) = (vT V t).1 from (J.2.1 t ht).1)) ?_
      refine lv_icmp_lt (tgt := 77) hx hb dL_areGaps_24 (by decide) (fun c9 => ?_) (fun c9 => ?_)
      · refine fin ls ?_
        rw [← e1, ← e2]
        exact lv_sub hl [1, 2, 3, 4, 5, 6] rfl
      · refine absurd ?_ c9
        rw [Int32.lt_iff_toInt_lt, nI_toInt (by omega)]
        show (-1 : Int) < _
        omega
    | succ n9 ih =>
      intro db gp ls h1 h2 e1 e2 hl
      have hl : lv_has ls 8 [(6, .int (nI n9)), (5, .int (nI db)), (4, .int gp), (0, .ref h0), (1, .ref (aa 0)), (2, .int (nI t)), (3, .int (nI g))] := hl
      refine lv_iload hx hb dL_areGaps_16 (lv_at hl 0 rfl) ?_
      refine lv_aload_n hx hb dL_areGaps_18 rfl (lv_at hl 4 rfl) ?_
      refine lv_bipush (v := nI 30) hx hb dL_areGaps_19 (by decide) ?_
      refine lv_iload_n hx hb dL_areGaps_21 rfl (lv_at hl 5 rfl) ?_
      refine nadd hx hb dL_areGaps_22 ?_
      refine zti hx hb hE hT 0 (by decide) (i := (30 + t)) (by show (30 + t) < 41; omega) dL_areGaps_23 ?_
      refine zasi (congrArg nI (show (T 0 (30 + t)) = (vT V t).1 from (J.2.1 t ht).1)) ?_
      refine nicmp_lt (tgt := 77) hx hb dL_areGaps_24 (by decide) (by omega) (by omega) (fun c_24 => ?_) (fun c_24 => ?_)
      · rw [pGf_s _ _ n9 gp, if_neg (by omega)] at e1
        rw [pDb_s _ _ n9 db, if_neg (by omega)] at e2
        refine fin ls ?_
        rw [← e1, ← e2]
        exact lv_sub hl [1, 2, 3, 4, 5, 6] rfl
      · rw [pGf_s _ _ n9 gp, if_pos c_24] at e1
        rw [pDb_s _ _ n9 db, if_pos c_24] at e2
        refine lv_aload_n hx hb dL_areGaps_27 rfl (lv_at hl 3 rfl) ?_
        refine lv_iload_n hx hb dL_areGaps_28 rfl (lv_at hl 5 rfl) ?_
        refine lv_iload hx hb dL_areGaps_29 (lv_at hl 0 rfl) ?_
        refine lv_iload_n hx hb dL_areGaps_31 rfl (lv_at hl 6 rfl) ?_
        refine lv_aload_n hx hb dL_areGaps_32 rfl (lv_at hl 4 rfl) ?_
        refine lv_bipush (v := nI 40) hx hb dL_areGaps_33 (by decide) ?_
        refine zti hx hb hE hT 0 (by decide) (i := 40) (by show 40 < 41; omega) dL_areGaps_35 ?_
        refine zasi (congrArg nI (show (T 0 40) = vTd V from J.1.2.2.2.2)) ?_
        refine zci (va_runV (As := [.int (nI t), .int (nI n9), .int (nI g), .int (nI (vTd V))]) (rest := []) ⟨hx, hb, hml, hown, hts⟩ (c_ways l D ca sa L f h0 ta pa aT aP aS aH n K V hR t ht n9 g (vTd V) (by omega) hg (Nat.le_refl _)) (cwV 4 hts gL_areGaps_X4_ways rfl rfl rfl (by decide +kernel) ⟨Nat.le_of_ble_eq_true rfl, Nat.le_of_ble_eq_true rfl⟩) (zpVp hP hE rfl h4) rfl rfl hl.1 rfl (lv_room (Nat.le_of_ble_eq_true rfl)) dL_areGaps_36 ⟨Nat.le_of_ble_eq_true rfl, Nat.le_of_ble_eq_true rfl⟩) ?_
        refine zasi (show swI (wTo V t n9 g (vTd V) (vNp V)) = nI (nW V t n9 g (vTd V)) from v_ways hBd t n9 g (vTd V)) ?_
        have hW9 := nW_le hBd t n9 g (vTd V)
        refine lv_istore (lv' := [(7, .int (nI (nW V t n9 g (vTd V)))), (6, .int (nI n9)), (5, .int (nI db)), (4, .int gp), (0, .ref h0), (1, .ref (aa 0)), (2, .int (nI t)), (3, .int (nI g))]) hx hb dL_areGaps_39 hl (by decide) rfl (fun ls hl => ?_)
        refine lv_iload hx hb dL_areGaps_41 (lv_at hl 0 rfl) ?_
        refine ternI (M := 53) (rest := []) (P := fun v9 : Int32 => v9 = if nW V t n9 g (vTd V) = 0 then nI n9 else gp) (fun K9 => ?_) (fun g9 hg9 => ?_)
        · refine nif_ne (tgt := 51) hx hb dL_areGaps_43 (by decide) (by omega) (fun c_43 => ?_) (fun c_43 => ?_)
          · refine lv_iload hx hb dL_areGaps_51 (lv_at hl 3 rfl) ?_
            exact K9 (gp) (by show _ = _; first | exact (if_pos c_43).symm | exact (if_neg c_43).symm)
          · refine lv_iload hx hb dL_areGaps_46 (lv_at hl 1 rfl) ?_
            refine lv_goto (tgt := 53) hx hb dL_areGaps_48 (by decide) ?_
            exact K9 ((nI n9)) (by show _ = _; first | exact (if_pos c_43).symm | exact (if_neg c_43).symm)
        refine lv_istore (lv' := [(4, .int g9), (7, .int (nI (nW V t n9 g (vTd V)))), (6, .int (nI n9)), (5, .int (nI db)), (0, .ref h0), (1, .ref (aa 0)), (2, .int (nI t)), (3, .int (nI g))]) hx hb dL_areGaps_53 hl (by decide) rfl (fun ls hl => ?_)
        refine lv_iload hx hb dL_areGaps_55 (lv_at hl 3 rfl) ?_
        refine lv_iload hx hb dL_areGaps_57 (lv_at hl 1 rfl) ?_
        refine lv_iconst (v := nI 1) hx hb dL_areGaps_59 (by decide) ?_
        refine tern (M := 68) (rest := [.int (nI db)]) (P := fun v9 : Nat => v9 = if 1 < nW V t n9 g (vTd V) then 1 else 0) (fun K9 => ?_) (fun x9 hx9 => ?_)
        · refine nicmp_le (tgt := 67) hx hb dL_areGaps_60 (by decide) (by omega) (by omega) (fun c_60 => ?_) (fun c_60 => ?_)
          · refine lv_iconst (v := nI 0) hx hb dL_areGaps_67 (by decide) ?_
            exact K9 0 (by show _ = _; first | (rw [if_pos (by omega)]) | (rw [if_neg (by omega)]))
          · refine lv_iconst (v := nI 1) hx hb dL_areGaps_63 (by decide) ?_
            refine lv_goto (tgt := 68) hx hb dL_areGaps_64 (by decide) ?_
            exact K9 1 (by show _ = _; first | (rw [if_pos (by omega)]) | (rw [if_neg (by omega)]))
        refine nadd hx hb dL_areGaps_68 ?_
        refine lv_istore (lv' := [(5, .int (nI (db + x9))), (4, .int g9), (7, .int (nI (nW V t n9 g (vTd V)))), (6, .int (nI n9)), (0, .ref h0), (1, .ref (aa 0)), (2, .int (nI t)), (3, .int (nI g))]) hx hb dL_areGaps_69 hl (by decide) rfl (fun ls hl => ?_)
        refine lv_iinc (v := (mI n9)) (lv' := [(6, .int (mI n9)), (5, .int (nI (db + x9))), (4, .int g9), (7, .int (nI (nW V t n9 g (vTd V)))), (0, .ref h0), (1, .ref (aa 0)), (2, .int (nI t)), (3, .int (nI g))]) hx hb dL_areGaps_71 hl (k := 3) rfl (zm1 _) (by decide) rfl (fun ls hl => ?_)
        refine lv_goto (tgt := 16) hx hb dL_areGaps_74 (by decide) ?_
        exact ih (db + x9) g9 ls (by omega) (by rw [hx9]; split <;> omega) (by rw [hg9]; exact e1) (by rw [hx9]; exact e2) (lv_sub hl [0, 1, 2, 4, 5, 6, 7] rfl)
  refine lv_iconst (v := (-1)) hx hb dL_areGaps_0 (by decide) ?_
  refine lv_istore (lv' := [(4, .int (-1)), (0, .ref h0), (1, .ref (aa 0)), (2, .int (nI t)), (3, .int (nI g))]) hx hb dL_areGaps_1 hl (by decide) rfl (fun ls hl => ?_)
  refine lv_iconst (v := nI 0) hx hb dL_areGaps_3 (by decide) ?_
  refine lv_istore (lv' := [(5, .int (nI 0)), (4, .int (-1)), (0, .ref h0), (1, .ref (aa 0)), (2, .int (nI t)), (3, .int (nI g))]) hx hb dL_areGaps_4 hl (by decide) rfl (fun ls hl => ?_)
  refine lv_aload_n hx hb dL_areGaps_6 rfl (lv_at hl 3 rfl) ?_
  refine lv_bipush (v := nI 40) hx hb dL_areGaps_7 (by decide) ?_
  refine zti hx hb hE hT 0 (by decide) (i := 40) (by show 40 < 41; omega) dL_areGaps_9 ?_
  refine zasi (congrArg nI (show (T 0 40) = vTd V from J.1.2.2.2.2)) ?_
  refine lv_sipush (v := nI 360) hx hb dL_areGaps_10 (by decide) ?_
  refine ndiv hx hb (by omega) (by omega) (by omega) dL_areGaps_13 ?_
  refine lv_istore (lv' := [(6, .int (nI ((vTd V) / 360))), (5, .int (nI 0)), (4, .int (-1)), (0, .ref h0), (1, .ref (aa 0)), (2, .int (nI t)), (3, .int (nI g))]) hx hb dL_areGaps_14 hl (by decide) rfl (fun ls hl => ?_)
  exact loop (vTd V / 360 + 1) 0 (-1) ls (Nat.le_refl _) (by omega) rfl rfl (lv_sub hl [0, 1, 2, 3, 4, 5, 6] rfl)
