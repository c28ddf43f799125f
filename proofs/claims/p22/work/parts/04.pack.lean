/-! packages: their fields, the row of their titles' stays, and what they cover -/
def zlb (G k : Nat) : Bool := G.testBit k
theorem zlb_iff : ∀ G : Fin 16, ∀ k : Fin 4, ((nI G.val >>> (nI k.val &&& 31)) &&& nI 1 = nI 1) ↔ zlb G.val k.val = true := by decide +kernel
theorem zlb_if {G k : Nat} (hG : G ≤ 15) (hk : k ≤ 3) : ((nI G >>> (nI k &&& 31)) &&& nI 1 = nI 1) ↔ zlb G k = true := zlb_iff ⟨G, by omega⟩ ⟨k, by omega⟩
theorem bI_is {b : Bool} (h : b = true) : nI 1 = bI b := by rw [h]; rfl
theorem bI_no {b : Bool} (h : ¬ b = true) : nI 0 = bI b := by cases b with | false => rfl | true => exact absurd rfl h
def zPack (L : List Nat) (f : Nat → va_E) (ca : Nat → ClassId) (q : Nat) (P : Nat × Nat × Nat × Nat) (hs sA : Nat) (hA : Nat → Nat) : Prop := (zat L f q (.inr (2, [.int (nI P.1), .int (nI P.2.1), .int (nI P.2.2.1), .int (nI P.2.2.2), .ref hs, .ref sA])) ∧ P.1 ≤ 1000 ∧ P.2.1 ≤ 2 ∧ P.2.2.1 ≤ 15 ∧ P.2.2.2 ≤ 1) ∧ ∃ g : Nat → Option Nat, zat L f sA (.inl (ca 2, 20, .inr (.inr (.inr (.inr g))))) ∧ ∀ t, t < 20 → g t = some (hA t)
def zPK (k d : Nat) (lT lS : zLs) : Int64 := if k = 0 then 0 else zKe d d 0 lT &&& zKe d d 0 lS
def zPC (k d : Nat) (lT lS : zLs) : Int64 := (zOp d lT &&& zOp d lS) ||| zPK k d lT lS
def zWy (P : Nat × Nat × Nat × Nat) (d g y : Nat) (lT lS : zLs) : Bool := zlb P.2.2.1 g && hY (zPC P.2.2.2 d lT lS) (nI y)

set_option maxHeartbeats 4000000 in
set_option maxRecDepth 100000 in
theorem c_stayOf (l : Launch) (D : va_G) (ca : Nat → ClassId) (sa : Nat → Nat) (L : List Nat) (f : Nat → va_E) (q : Nat) (P : Nat × Nat × Nat × Nat) (hs sA : Nat) (hA : Nat → Nat) (hp : zPack L f ca q P hs sA hA) (t : Nat) (ht : t < 20) : Met l yX2_stayOf wsX2_stayOf ({ frames := 1, cells := 0, slots := 0, locals := 40 }) (va_Pc [.ref q, .int (nI t)] (zPw D (va_pl L f) ca sa)) (va_Sq (fun r => r = some (hA t))) 0 0 (fun _ => False) := by
  refine Met.ofW (cc := cX2_stayOf) (maxL := 2) (ret := (some (.object "LinkResolver$History"))) (by decide) rfl ?_
  intro p e s m args below meth c s₁ B hml hv
  obtain ⟨rfl, hP, hE⟩ := hv
  have hx := B.exec
  have hb := B.bytes
  have hr := B.returns
  have hts := atoms_spec (ws := wsX2_stayOf) B.pre
  have hown : s.vm.findClass RX2 = some m.cls := findClass_of_methodNamed B.named
  have hlocks := B.notSynchronized
  have hl := lv_entry ([.ref q, .int (nI t)]) (n := 2) (Nat.le_of_ble_eq_true rfl)
  rw [lg_entry_eq]
  generalize (lg_sl ([.ref q, .int (nI t)]) ++ List.replicate (2 - (lg_sl ([.ref q, .int (nI t)])).length) Slot.unset).toArray = ls at hl ⊢
  have hl : lv_has ls 2 [(0, .ref q), (1, .int (nI t))] := hl
  obtain ⟨⟨hq, hP1, hP2, hP3, hP4⟩, g0, hg, hgt⟩ := id hp
  refine lv_iload_n hx hb dX2_stayOf_0 rfl (lv_at hl 1 rfl) ?_
  refine lv_if_lt (tgt := 22) hx hb dX2_stayOf_1 (by decide) (fun c_1 => ?_) (fun c_1 => ?_)
  · exact absurd c_1 (nI_pos (by omega))
  · refine lv_iload_n hx hb dX2_stayOf_4 rfl (lv_at hl 1 rfl) ?_
    refine lv_aload_n hx hb dX2_stayOf_5 rfl (lv_at hl 0 rfl) ?_
    refine zget (own := RX2) (ci := 2) (C := RX2) (T := TX2) (N := 6) hx hb hts (by decide +kernel) hown hE hP hq rfl 5 (by decide) (hts (.fieldLink RX2 32 "LinkResolver$Pack" "stays" "[LLinkResolver$History;") (by decide +kernel)) rfl dX2_stayOf_6 ?_
    refine zalen hx hb hE hP 2 hg rfl (n := 20) rfl dX2_stayOf_9 ?_
    refine lv_icmp_ge (tgt := 22) hx hb dX2_stayOf_10 (by decide) (fun c_10 => ?_) (fun c_10 => ?_)
    · exact absurd ((nI_leI (by omega) (by omega)).mp c_10) (by omega)
    · refine lv_aload_n hx hb dX2_stayOf_13 rfl (lv_at hl 0 rfl) ?_
      refine zget (own := RX2) (ci := 2) (C := RX2) (T := TX2) (N := 6) hx hb hts (by decide +kernel) hown hE hP hq rfl 5 (by decide) (hts (.fieldLink RX2 32 "LinkResolver$Pack" "stays" "[LLinkResolver$History;") (by decide +kernel)) rfl dX2_stayOf_14 ?_
      refine lv_iload_n hx hb dX2_stayOf_17 rfl (lv_at hl 1 rfl) ?_
      refine zaldq hx hb hE hP 2 hg rfl ht (by decide) dX2_stayOf_18 ?_
      refine zasv (show va_rf (g0 t) = .ref (hA t) from by rw [hgt t ht]; rfl) ?_
      refine lv_ifnonnull (tgt := 32) hx hb dX2_stayOf_19 (by decide) ?_
      refine lv_aload_n hx hb dX2_stayOf_32 rfl (lv_at hl 0 rfl) ?_
      refine zget (own := RX2) (ci := 2) (C := RX2) (T := TX2) (N := 6) hx hb hts (by decide +kernel) hown hE hP hq rfl 5 (by decide) (hts (.fieldLink RX2 32 "LinkResolver$Pack" "stays" "[LLinkResolver$History;") (by decide +kernel)) rfl dX2_stayOf_33 ?_
      refine lv_iload_n hx hb dX2_stayOf_36 rfl (lv_at hl 1 rfl) ?_
      refine zaldq hx hb hE hP 2 hg rfl ht (by decide) dX2_stayOf_37 ?_
      refine zasv (show va_rf (g0 t) = .ref (hA t) from by rw [hgt t ht]; rfl) ?_
      exact zrq (v := some (hA t)) hx hb hr hlocks dX2_stayOf_38 (rfl)

set_option maxHeartbeats 4000000 in
set_option maxRecDepth 100000 in
theorem c_letsIn (l : Launch) (D : va_G) (ca : Nat → ClassId) (sa : Nat → Nat) (L : List Nat) (f : Nat → va_E) (q : Nat) (P : Nat × Nat × Nat × Nat) (hs sA : Nat) (hA : Nat → Nat) (hp : zPack L f ca q P hs sA hA) (g : Nat) (hg4 : g ≤ 3) : Met l yX2_letsIn wsX2_letsIn ({ frames := 1, cells := 0, slots := 0, locals := 40 }) (va_Pc [.ref q, .int (nI g)] (zPw D (va_pl L f) ca sa)) (vp_Si (fun r => r = bI (zlb P.2.2.1 g))) 0 0 (fun _ => False) := by
  refine Met.ofW (cc := cX2_letsIn) (maxL := 2) (ret := (some .boolean)) (by decide) rfl ?_
  intro p e s m args below meth c s₁ B hml hv
  obtain ⟨rfl, hP, hE⟩ := hv
  have hx := B.exec
  have hb := B.bytes
  have hr := B.returns
  have hts := atoms_spec (ws := wsX2_letsIn) B.pre
  have hown : s.vm.findClass RX2 = some m.cls := findClass_of_methodNamed B.named
  have hlocks := B.notSynchronized
  have hl := lv_entry ([.ref q, .int (nI g)]) (n := 2) (Nat.le_of_ble_eq_true rfl)
  rw [lg_entry_eq]
  generalize (lg_sl ([.ref q, .int (nI g)]) ++ List.replicate (2 - (lg_sl ([.ref q, .int (nI g)])).length) Slot.unset).toArray = ls at hl ⊢
  have hl : lv_has ls 2 [(0, .ref q), (1, .int (nI g))] := hl
  obtain ⟨⟨hq, hP1, hP2, hP3, hP4⟩, g0, hg, hgt⟩ := id hp
  refine lv_aload_n hx hb dX2_letsIn_0 rfl (lv_at hl 0 rfl) ?_
  refine zget (own := RX2) (ci := 2) (C := RX2) (T := TX2) (N := 6) hx hb hts (by decide +kernel) hown hE hP hq rfl 2 (by decide) (hts (.fieldLink RX2 18 "LinkResolver$Pack" "groups" "I") (by decide +kernel)) rfl dX2_letsIn_1 ?_
  refine lv_iload_n hx hb dX2_letsIn_4 rfl (lv_at hl 1 rfl) ?_
  refine lv_ishr hx hb dX2_letsIn_5 ?_
  refine lv_iconst (v := nI 1) hx hb dX2_letsIn_6 (by decide) ?_
  refine lv_iand hx hb dX2_letsIn_7 ?_
  refine lv_iconst (v := nI 1) hx hb dX2_letsIn_8 (by decide) ?_
  refine lv_icmp_ne (tgt := 16) hx hb dX2_letsIn_9 (by decide) (fun c_9 => ?_) (fun c_9 => ?_)
  · refine lv_iconst (v := nI 0) hx hb dX2_letsIn_16 (by decide) ?_
    exact zrz hx hb hr hlocks dX2_letsIn_17 rfl (bI_no (fun q9 => c_9 ((zlb_if hP3 hg4).mpr q9)))
  · refine lv_iconst (v := nI 1) hx hb dX2_letsIn_12 (by decide) ?_
    refine lv_goto (tgt := 17) hx hb dX2_letsIn_13 (by decide) ?_
    exact zrz hx hb hr hlocks dX2_letsIn_17 rfl (bI_is ((zlb_if hP3 hg4).mp c_9))

set_option maxHeartbeats 4000000 in
set_option maxRecDepth 100000 in
theorem c_isBroken (l : Launch) (D : va_G) (ca : Nat → ClassId) (sa : Nat → Nat) (L : List Nat) (f : Nat → va_E) (q : Nat) (P : Nat × Nat × Nat × Nat) (hs sA : Nat) (hA : Nat → Nat) (hp : zPack L f ca q P hs sA hA) (t b : Nat) (ht : t < 20) (lT : zLs) (hT : zHist L f (hA t) b lT) (hb9 : b ≤ 1000) : Met l yX2_isBroken wsX2_isBroken ({ frames := 2, cells := 0, slots := 0, locals := 80 }) (va_Pc [.ref q, .int (nI t)] (zPw D (va_pl L f) ca sa)) (vp_Si (fun r => r = bI (decide (2 ≤ b)))) 0 0 (fun _ => False) := by
  refine Met.ofW (cc := cX2_isBroken) (maxL := 2) (ret := (some .boolean)) (by decide) rfl ?_
  intro p e s m args below meth c s₁ B hml hv
  obtain ⟨rfl, hP, hE⟩ := hv
  have hx := B.exec
  have hb := B.bytes
  have hr := B.returns
  have hts := atoms_spec (ws := wsX2_isBroken) B.pre
  have hown : s.vm.findClass RX2 = some m.cls := findClass_of_methodNamed B.named
  have hlocks := B.notSynchronized
  have hl := lv_entry ([.ref q, .int (nI t)]) (n := 2) (Nat.le_of_ble_eq_true rfl)
  rw [lg_entry_eq]
  generalize (lg_sl ([.ref q, .int (nI t)]) ++ List.replicate (2 - (lg_sl ([.ref q, .int (nI t)])).length) Slot.unset).toArray = ls at hl ⊢
  have hl : lv_has ls 2 [(0, .ref q), (1, .int (nI t))] := hl
  obtain ⟨⟨hq, hP1, hP2, hP3, hP4⟩, g0, hg, hgt⟩ := id hp
  obtain ⟨nx0, hat0, hch0⟩ := hT.1
  refine lv_aload_n hx hb dX2_isBroken_0 rfl (lv_at hl 0 rfl) ?_
  refine lv_iload_n hx hb dX2_isBroken_1 rfl (lv_at hl 1 rfl) ?_
  refine zcq (va_runV (As := [.int (nI t)]) (rest := []) ⟨hx, hb, hml, hown, hts⟩ (c_stayOf l D ca sa L f q P hs sA hA hp t ht) (cwV 1 hts gX2_isBroken_X2_stayOf rfl rfl rfl (by decide +kernel) ⟨Nat.le_of_ble_eq_true rfl, Nat.le_of_ble_eq_true rfl⟩) (zpVp hP hE (ci := 2) rfl hq) rfl rfl hl.1 rfl (lv_room (Nat.le_of_ble_eq_true rfl)) dX2_isBroken_2 ⟨Nat.le_of_ble_eq_true rfl, Nat.le_of_ble_eq_true rfl⟩) ?_
  refine W.eq (g2 := F0 m 5 ls [.ref (hA t)]) rfl ?_
  refine zget (own := RX2) (ci := 1) (C := RX1) (T := TX1) (N := 2) hx hb hts (by decide +kernel) hown hE hP hat0 rfl 1 (by decide) (hts (.fieldLink RX2 47 "LinkResolver$History" "breaks" "I") (by decide +kernel)) rfl dX2_isBroken_5 ?_
  refine lv_iconst (v := nI 2) hx hb dX2_isBroken_8 (by decide) ?_
  refine lv_icmp_lt (tgt := 16) hx hb dX2_isBroken_9 (by decide) (fun c_9 => ?_) (fun c_9 => ?_)
  · refine lv_iconst (v := nI 0) hx hb dX2_isBroken_16 (by decide) ?_
    exact zrz hx hb hr hlocks dX2_isBroken_17 rfl (bI_f (fun q9 => absurd ((nI_ltI (by omega) (by omega)).mp c_9) (by omega)))
  · refine lv_iconst (v := nI 1) hx hb dX2_isBroken_12 (by decide) ?_
    refine lv_goto (tgt := 17) hx hb dX2_isBroken_13 (by decide) ?_
    exact zrz hx hb hr hlocks dX2_isBroken_17 rfl (bI_t (Nat.le_of_not_lt (fun q9 => c_9 ((nI_ltI (by omega) (by omega)).mpr q9))))

set_option maxHeartbeats 4000000 in
set_option maxRecDepth 100000 in
theorem c_pOpen (l : Launch) (D : va_G) (ca : Nat → ClassId) (sa : Nat → Nat) (L : List Nat) (f : Nat → va_E) (q : Nat) (P : Nat × Nat × Nat × Nat) (hs sA : Nat) (hA : Nat → Nat) (hp : zPack L f ca q P hs sA hA) (t b : Nat) (ht : t < 20) (lT : zLs) (hT : zHist L f (hA t) b lT) (bs : Nat) (lS : zLs) (hSb : zHist L f hs bs lS) (d : Nat) (hd : d ≤ 20000) : Met l yX2_yearsOpen wsX2_yearsOpen ({ frames := 3, cells := 0, slots := 0, locals := 120 }) (va_Pc [.ref q, .int (nI t), .int (nI d)] (zPw D (va_pl L f) ca sa)) (vp_Sl (fun r => r = zOp d lT &&& zOp d lS)) 0 0 (fun _ => False) := by
  refine Met.ofW (cc := cX2_yearsOpen) (maxL := 3) (ret := (some .long)) (by decide) rfl ?_
  intro p e s m args below meth c s₁ B hml hv
  obtain ⟨rfl, hP, hE⟩ := hv
  have hx := B.exec
  have hb := B.bytes
  have hr := B.returns
  have hts := atoms_spec (ws := wsX2_yearsOpen) B.pre
  have hown : s.vm.findClass RX2 = some m.cls := findClass_of_methodNamed B.named
  have hlocks := B.notSynchronized
  have hl := lv_entry ([.ref q, .int (nI t), .int (nI d)]) (n := 3) (Nat.le_of_ble_eq_true rfl)
  rw [lg_entry_eq]
  generalize (lg_sl ([.ref q, .int (nI t), .int (nI d)]) ++ List.replicate (3 - (lg_sl ([.ref q, .int (nI t), .int (nI d)])).length) Slot.unset).toArray = ls at hl ⊢
  have hl : lv_has ls 3 [(0, .ref q), (1, .int (nI t)), (2, .int (nI d))] := hl
  obtain ⟨⟨hq, hP1, hP2, hP3, hP4⟩, g0, hg, hgt⟩ := id hp
  obtain ⟨nx0, hat0, hch0⟩ := hT.1
  obtain ⟨nx1, hat1, hch1⟩ := hSb.1
  refine lv_aload_n hx hb dX2_yearsOpen_0 rfl (lv_at hl 0 rfl) ?_
  refine lv_iload_n hx hb dX2_yearsOpen_1 rfl (lv_at hl 1 rfl) ?_
  refine zcq (va_runV (As := [.int (nI t)]) (rest := []) ⟨hx, hb, hml, hown, hts⟩ (c_stayOf l D ca sa L f q P hs sA hA hp t ht) (cwV 1 hts gX2_yearsOpen_X2_stayOf rfl rfl rfl (by decide +kernel) ⟨Nat.le_of_ble_eq_true rfl, Nat.le_of_ble_eq_true rfl⟩) (zpVp hP hE (ci := 2) rfl hq) rfl rfl hl.1 rfl (lv_room (Nat.le_of_ble_eq_true rfl)) dX2_yearsOpen_2 ⟨Nat.le_of_ble_eq_true rfl, Nat.le_of_ble_eq_true rfl⟩) ?_
  refine W.eq (g2 := F0 m 5 ls [.ref (hA t)]) rfl ?_
  refine lv_iload_n hx hb dX2_yearsOpen_5 rfl (lv_at hl 2 rfl) ?_
  refine zcl (va_runV (As := [.int (nI d)]) (rest := []) ⟨hx, hb, hml, hown, hts⟩ (c_hOpen l D ca sa L f (hA t) d b lT hd hT) (cwV 1 hts gX2_yearsOpen_X1_yearsOpen rfl rfl rfl (by decide +kernel) ⟨Nat.le_of_ble_eq_true rfl, Nat.le_of_ble_eq_true rfl⟩) (zpVp hP hE (ci := 1) rfl hat0) rfl rfl hl.1 rfl (lv_room (Nat.le_of_ble_eq_true rfl)) dX2_yearsOpen_6 ⟨Nat.le_of_ble_eq_true rfl, Nat.le_of_ble_eq_true rfl⟩) ?_
  refine lv_aload_n hx hb dX2_yearsOpen_9 rfl (lv_at hl 0 rfl) ?_
  refine zget (own := RX2) (ci := 2) (C := RX2) (T := TX2) (N := 6) hx hb hts (by decide +kernel) hown hE hP hq rfl 4 (by decide) (hts (.fieldLink RX2 28 "LinkResolver$Pack" "subscription" "LLinkResolver$History;") (by decide +kernel)) rfl dX2_yearsOpen_10 ?_
  refine lv_iload_n hx hb dX2_yearsOpen_13 rfl (lv_at hl 2 rfl) ?_
  refine zcl (va_runV (As := [.int (nI d)]) (rest := [.long (zOp d lT)]) ⟨hx, hb, hml, hown, hts⟩ (c_hOpen l D ca sa L f hs d bs lS hd hSb) (cwV 1 hts gX2_yearsOpen_X1_yearsOpen rfl rfl rfl (by decide +kernel) ⟨Nat.le_of_ble_eq_true rfl, Nat.le_of_ble_eq_true rfl⟩) (zpVp hP hE (ci := 1) rfl hat1) rfl rfl hl.1 rfl (lv_room (Nat.le_of_ble_eq_true rfl)) dX2_yearsOpen_14 ⟨Nat.le_of_ble_eq_true rfl, Nat.le_of_ble_eq_true rfl⟩) ?_
  refine lv_land hx hb dX2_yearsOpen_17 ?_
  exact zrl hx hb hr hlocks dX2_yearsOpen_18 (rfl)

set_option maxHeartbeats 4000000 in
set_option maxRecDepth 100000 in
theorem c_pKept (l : Launch) (D : va_G) (ca : Nat → ClassId) (sa : Nat → Nat) (L : List Nat) (f : Nat → va_E) (q : Nat) (P : Nat × Nat × Nat × Nat) (hs sA : Nat) (hA : Nat → Nat) (hp : zPack L f ca q P hs sA hA) (t b : Nat) (ht : t < 20) (lT : zLs) (hT : zHist L f (hA t) b lT) (bs : Nat) (lS : zLs) (hSb : zHist L f hs bs lS) (d : Nat) (hd : d ≤ 20000) : Met l yX2_yearsKept wsX2_yearsKept ({ frames := 3, cells := 0, slots := 0, locals := 120 }) (va_Pc [.ref q, .int (nI t), .int (nI d)] (zPw D (va_pl L f) ca sa)) (vp_Sl (fun r => r = zPK P.2.2.2 d lT lS)) 0 0 (fun _ => False) := by
  refine Met.ofW (cc := cX2_yearsKept) (maxL := 5) (ret := (some .long)) (by decide) rfl ?_
  intro p e s m args below meth c s₁ B hml hv
  obtain ⟨rfl, hP, hE⟩ := hv
  have hx := B.exec
  have hb := B.bytes
  have hr := B.returns
  have hts := atoms_spec (ws := wsX2_yearsKept) B.pre
  have hown : s.vm.findClass RX2 = some m.cls := findClass_of_methodNamed B.named
  have hlocks := B.notSynchronized
  have hl := lv_entry ([.ref q, .int (nI t), .int (nI d)]) (n := 5) (Nat.le_of_ble_eq_true rfl)
  rw [lg_entry_eq]
  generalize (lg_sl ([.ref q, .int (nI t), .int (nI d)]) ++ List.replicate (5 - (lg_sl ([.ref q, .int (nI t), .int (nI d)])).length) Slot.unset).toArray = ls at hl ⊢
  have hl : lv_has ls 5 [(0, .ref q), (1, .int (nI t)), (2, .int (nI d))] := hl
  obtain ⟨⟨hq, hP1, hP2, hP3, hP4⟩, g0, hg, hgt⟩ := id hp
  obtain ⟨nx0, hat0, hch0⟩ := hT.1
  obtain ⟨nx1, hat1, hch1⟩ := hSb.1
  refine lv_aload_n hx hb dX2_yearsKept_0 rfl (lv_at hl 0 rfl) ?_
  refine zget (own := RX2) (ci := 2) (C := RX2) (T := TX2) (N := 6) hx hb hts (by decide +kernel) hown hE hP hq rfl 3 (by decide) (hts (.fieldLink RX2 21 "LinkResolver$Pack" "isKeeping" "Z") (by decide +kernel)) rfl dX2_yearsKept_1 ?_
  refine lv_if_ne (tgt := 9) hx hb dX2_yearsKept_4 (by decide) (fun c_4 => ?_) (fun c_4 => ?_)
  · have hk9 : ¬ P.2.2.2 = 0 := fun q9 => c_4 (by rw [q9]; rfl)
    refine lv_aload_n hx hb dX2_yearsKept_9 rfl (lv_at hl 0 rfl) ?_
    refine lv_iload_n hx hb dX2_yearsKept_10 rfl (lv_at hl 1 rfl) ?_
    refine zcq (va_runV (As := [.int (nI t)]) (rest := []) ⟨hx, hb, hml, hown, hts⟩ (c_stayOf l D ca sa L f q P hs sA hA hp t ht) (cwV 1 hts gX2_yearsKept_X2_stayOf rfl rfl rfl (by decide +kernel) ⟨Nat.le_of_ble_eq_true rfl, Nat.le_of_ble_eq_true rfl⟩) (zpVp hP hE (ci := 2) rfl hq) rfl rfl hl.1 rfl (lv_room (Nat.le_of_ble_eq_true rfl)) dX2_yearsKept_11 ⟨Nat.le_of_ble_eq_true rfl, Nat.le_of_ble_eq_true rfl⟩) ?_
    refine W.eq (g2 := F0 m 14 ls [.ref (hA t)]) rfl ?_
    refine lv_iload_n hx hb dX2_yearsKept_14 rfl (lv_at hl 2 rfl) ?_
    refine zcl (va_runV (As := [.int (nI d)]) (rest := []) ⟨hx, hb, hml, hown, hts⟩ (c_hKept l D ca sa L f (hA t) d b lT hd hT) (cwV 1 hts gX2_yearsKept_X1_yearsKept rfl rfl rfl (by decide +kernel) ⟨Nat.le_of_ble_eq_true rfl, Nat.le_of_ble_eq_true rfl⟩) (zpVp hP hE (ci := 1) rfl hat0) rfl rfl hl.1 rfl (lv_room (Nat.le_of_ble_eq_true rfl)) dX2_yearsKept_15 ⟨Nat.le_of_ble_eq_true rfl, Nat.le_of_ble_eq_true rfl⟩) ?_
    refine lv_lstore_n (lv' := [(3, .long (zKe d d 0 lT)), (0, .ref q), (1, .int (nI t)), (2, .int (nI d))]) hx hb dX2_yearsKept_18 rfl hl (by decide) rfl (fun ls hl => ?_)
    refine lv_lload_n hx hb dX2_yearsKept_19 rfl (lv_at hl 0 rfl) ?_
    refine lv_lconst (v := 0) hx hb dX2_yearsKept_20 (by decide) ?_
    refine W.lcmp hx hb dX2_yearsKept_21 ?_
    refine lv_if_ne (tgt := 29) hx hb dX2_yearsKept_22 (by decide) (fun c_22 => ?_) (fun c_22 => ?_)
    · refine lv_lload_n hx hb dX2_yearsKept_29 rfl (lv_at hl 0 rfl) ?_
      refine lv_aload_n hx hb dX2_yearsKept_30 rfl (lv_at hl 1 rfl) ?_
      refine zget (own := RX2) (ci := 2) (C := RX2) (T := TX2) (N := 6) hx hb hts (by decide +kernel) hown hE hP hq rfl 4 (by decide) (hts (.fieldLink RX2 28 "LinkResolver$Pack" "subscription" "LLinkResolver$History;") (by decide +kernel)) rfl dX2_yearsKept_31 ?_
      refine lv_iload_n hx hb dX2_yearsKept_34 rfl (lv_at hl 3 rfl) ?_
      refine zcl (va_runV (As := [.int (nI d)]) (rest := [.long (zKe d d 0 lT)]) ⟨hx, hb, hml, hown, hts⟩ (c_hKept l D ca sa L f hs d bs lS hd hSb) (cwV 1 hts gX2_yearsKept_X1_yearsKept rfl rfl rfl (by decide +kernel) ⟨Nat.le_of_ble_eq_true rfl, Nat.le_of_ble_eq_true rfl⟩) (zpVp hP hE (ci := 1) rfl hat1) rfl rfl hl.1 rfl (lv_room (Nat.le_of_ble_eq_true rfl)) dX2_yearsKept_35 ⟨Nat.le_of_ble_eq_true rfl, Nat.le_of_ble_eq_true rfl⟩) ?_
      refine lv_land hx hb dX2_yearsKept_38 ?_
      exact zrl hx hb hr hlocks dX2_yearsKept_39 ((if_neg hk9).symm)
    · refine lv_lconst (v := 0) hx hb dX2_yearsKept_25 (by decide) ?_
      refine lv_goto (tgt := 39) hx hb dX2_yearsKept_26 (by decide) ?_
      exact zrl hx hb hr hlocks dX2_yearsKept_39 (by rw [zPK, if_neg hk9, (lg_cmp_eq _ _).mp c_22]; exact (Int64.zero_and).symm)
  · have hk9 : P.2.2.2 = 0 := by
      rcases Nat.eq_zero_or_pos P.2.2.2 with q9 | q9
      · exact q9
      · exact absurd c_4 (nI_ne0 q9 (by omega))
    refine lv_lconst (v := 0) hx hb dX2_yearsKept_7 (by decide) ?_
    exact zrl hx hb hr hlocks dX2_yearsKept_8 ((if_pos hk9).symm)

set_option maxHeartbeats 4000000 in
set_option maxRecDepth 100000 in
theorem c_pCov (l : Launch) (D : va_G) (ca : Nat → ClassId) (sa : Nat → Nat) (L : List Nat) (f : Nat → va_E) (q : Nat) (P : Nat × Nat × Nat × Nat) (hs sA : Nat) (hA : Nat → Nat) (hp : zPack L f ca q P hs sA hA) (t b : Nat) (ht : t < 20) (lT : zLs) (hT : zHist L f (hA t) b lT) (bs : Nat) (lS : zLs) (hSb : zHist L f hs bs lS) (d : Nat) (hd : d ≤ 20000) : Met l yX2_yearsCovered wsX2_yearsCovered ({ frames := 4, cells := 0, slots := 0, locals := 160 }) (va_Pc [.ref q, .int (nI t), .int (nI d)] (zPw D (va_pl L f) ca sa)) (vp_Sl (fun r => r = zPC P.2.2.2 d lT lS)) 0 0 (fun _ => False) := by
  refine Met.ofW (cc := cX2_yearsCovered) (maxL := 3) (ret := (some .long)) (by decide) rfl ?_
  intro p e s m args below meth c s₁ B hml hv
  obtain ⟨rfl, hP, hE⟩ := hv
  have hx := B.exec
  have hb := B.bytes
  have hr := B.returns
  have hts := atoms_spec (ws := wsX2_yearsCovered) B.pre
  have hown : s.vm.findClass RX2 = some m.cls := findClass_of_methodNamed B.named
  have hlocks := B.notSynchronized
  have hl := lv_entry ([.ref q, .int (nI t), .int (nI d)]) (n := 3) (Nat.le_of_ble_eq_true rfl)
  rw [lg_entry_eq]
  generalize (lg_sl ([.ref q, .int (nI t), .int (nI d)]) ++ List.replicate (3 - (lg_sl ([.ref q, .int (nI t), .int (nI d)])).length) Slot.unset).toArray = ls at hl ⊢
  have hl : lv_has ls 3 [(0, .ref q), (1, .int (nI t)), (2, .int (nI d))] := hl
  obtain ⟨⟨hq, hP1, hP2, hP3, hP4⟩, g0, hg, hgt⟩ := id hp
  obtain ⟨nx0, hat0, hch0⟩ := hT.1
  obtain ⟨nx1, hat1, hch1⟩ := hSb.1
  refine lv_aload_n hx hb dX2_yearsCovered_0 rfl (lv_at hl 0 rfl) ?_
  refine lv_iload_n hx hb dX2_yearsCovered_1 rfl (lv_at hl 1 rfl) ?_
  refine lv_iload_n hx hb dX2_yearsCovered_2 rfl (lv_at hl 2 rfl) ?_
  refine zcl (va_runV (As := [.int (nI t), .int (nI d)]) (rest := []) ⟨hx, hb, hml, hown, hts⟩ (c_pOpen l D ca sa L f q P hs sA hA hp t b ht lT hT bs lS hSb d hd) (cwV 2 hts gX2_yearsCovered_X2_yearsOpen rfl rfl rfl (by decide +kernel) ⟨Nat.le_of_ble_eq_true rfl, Nat.le_of_ble_eq_true rfl⟩) (zpVp hP hE (ci := 2) rfl hq) rfl rfl hl.1 rfl (lv_room (Nat.le_of_ble_eq_true rfl)) dX2_yearsCovered_3 ⟨Nat.le_of_ble_eq_true rfl, Nat.le_of_ble_eq_true rfl⟩) ?_
  refine lv_aload_n hx hb dX2_yearsCovered_6 rfl (lv_at hl 0 rfl) ?_
  refine lv_iload_n hx hb dX2_yearsCovered_7 rfl (lv_at hl 1 rfl) ?_
  refine lv_iload_n hx hb dX2_yearsCovered_8 rfl (lv_at hl 2 rfl) ?_
  refine zcl (va_runV (As := [.int (nI t), .int (nI d)]) (rest := [.long (zOp d lT &&& zOp d lS)]) ⟨hx, hb, hml, hown, hts⟩ (c_pKept l D ca sa L f q P hs sA hA hp t b ht lT hT bs lS hSb d hd) (cwV 2 hts gX2_yearsCovered_X2_yearsKept rfl rfl rfl (by decide +kernel) ⟨Nat.le_of_ble_eq_true rfl, Nat.le_of_ble_eq_true rfl⟩) (zpVp hP hE (ci := 2) rfl hq) rfl rfl hl.1 rfl (lv_room (Nat.le_of_ble_eq_true rfl)) dX2_yearsCovered_9 ⟨Nat.le_of_ble_eq_true rfl, Nat.le_of_ble_eq_true rfl⟩) ?_
  refine lv_lor hx hb dX2_yearsCovered_12 ?_
  exact zrl hx hb hr hlocks dX2_yearsCovered_13 (rfl)

set_option maxHeartbeats 4000000 in
set_option maxRecDepth 100000 in
theorem c_isWay (l : Launch) (D : va_G) (ca : Nat → ClassId) (sa : Nat → Nat) (L : List Nat) (f : Nat → va_E) (q : Nat) (P : Nat × Nat × Nat × Nat) (hs sA : Nat) (hA : Nat → Nat) (hp : zPack L f ca q P hs sA hA) (t b : Nat) (ht : t < 20) (lT : zLs) (hT : zHist L f (hA t) b lT) (bs : Nat) (lS : zLs) (hSb : zHist L f hs bs lS) (d : Nat) (hd : d ≤ 20000) (y g : Nat) (hy : y ≤ 55) (hg4 : g ≤ 3) : Met l yX4_isWay wsX4_isWay ({ frames := 5, cells := 0, slots := 0, locals := 200 }) (va_Pc [.ref q, .int (nI t), .int (nI y), .int (nI g), .int (nI d)] (zPw D (va_pl L f) ca sa)) (vp_Si (fun r => r = bI (zWy P d g y lT lS))) 0 0 (fun _ => False) := by
  refine Met.ofW (cc := cX4_isWay) (maxL := 5) (ret := (some .boolean)) (by decide) rfl ?_
  intro p e s m args below meth c s₁ B hml hv
  obtain ⟨rfl, hP, hE⟩ := hv
  have hx := B.exec
  have hb := B.bytes
  have hr := B.returns
  have hts := atoms_spec (ws := wsX4_isWay) B.pre
  have hown : s.vm.findClass RX4 = some m.cls := findClass_of_methodNamed B.named
  have hlocks := B.notSynchronized
  have hl := lv_entry ([.ref q, .int (nI t), .int (nI y), .int (nI g), .int (nI d)]) (n := 5) (Nat.le_of_ble_eq_true rfl)
  rw [lg_entry_eq]
  generalize (lg_sl ([.ref q, .int (nI t), .int (nI y), .int (nI g), .int (nI d)]) ++ List.replicate (5 - (lg_sl ([.ref q, .int (nI t), .int (nI y), .int (nI g), .int (nI d)])).length) Slot.unset).toArray = ls at hl ⊢
  have hl : lv_has ls 5 [(0, .ref q), (1, .int (nI t)), (2, .int (nI y)), (3, .int (nI g)), (4, .int (nI d))] := hl
  obtain ⟨⟨hq, hP1, hP2, hP3, hP4⟩, g0, hg, hgt⟩ := id hp
  obtain ⟨nx0, hat0, hch0⟩ := hT.1
  obtain ⟨nx1, hat1, hch1⟩ := hSb.1
  refine lv_aload_n hx hb dX4_isWay_0 rfl (lv_at hl 0 rfl) ?_
  refine lv_iload_n hx hb dX4_isWay_1 rfl (lv_at hl 3 rfl) ?_
  refine zci (va_runV (As := [.int (nI g)]) (rest := []) ⟨hx, hb, hml, hown, hts⟩ (c_letsIn l D ca sa L f q P hs sA hA hp g hg4) (cwV 1 hts gX4_isWay_X2_letsIn rfl rfl rfl (by decide +kernel) ⟨Nat.le_of_ble_eq_true rfl, Nat.le_of_ble_eq_true rfl⟩) (zpVp hP hE (ci := 2) rfl hq) rfl rfl hl.1 rfl (lv_room (Nat.le_of_ble_eq_true rfl)) dX4_isWay_2 ⟨Nat.le_of_ble_eq_true rfl, Nat.le_of_ble_eq_true rfl⟩) ?_
  refine lv_if_eq (tgt := 26) hx hb dX4_isWay_5 (by decide) (fun c_5 => ?_) (fun c_5 => ?_)
  · refine lv_iconst (v := nI 0) hx hb dX4_isWay_26 (by decide) ?_
    exact zrz hx hb hr hlocks dX4_isWay_27 rfl (by rw [zWy, bI_eq0 c_5]; rfl)
  · refine lv_aload_n hx hb dX4_isWay_8 rfl (lv_at hl 0 rfl) ?_
    refine lv_iload_n hx hb dX4_isWay_9 rfl (lv_at hl 1 rfl) ?_
    refine lv_iload hx hb dX4_isWay_10 (lv_at hl 4 rfl) ?_
    refine zcl (va_runV (As := [.int (nI t), .int (nI d)]) (rest := []) ⟨hx, hb, hml, hown, hts⟩ (c_pCov l D ca sa L f q P hs sA hA hp t b ht lT hT bs lS hSb d hd) (cwV 2 hts gX4_isWay_X2_yearsCovered rfl rfl rfl (by decide +kernel) ⟨Nat.le_of_ble_eq_true rfl, Nat.le_of_ble_eq_true rfl⟩) (zpVp hP hE (ci := 2) rfl hq) rfl rfl hl.1 rfl (lv_room (Nat.le_of_ble_eq_true rfl)) dX4_isWay_12 ⟨Nat.le_of_ble_eq_true rfl, Nat.le_of_ble_eq_true rfl⟩) ?_
    refine lv_iload_n hx hb dX4_isWay_15 rfl (lv_at hl 2 rfl) ?_
    refine zci (va_runS (As := [.long (zPC P.2.2.2 d lT lS), .int (nI y)]) (rest := []) ⟨hx, hb, hml, hown, hts⟩ (c_hasYear l D ca sa _ _ _) (va_cwS 2 hts gX4_isWay_X4_hasYear rfl rfl rfl (by decide +kernel) ⟨Nat.le_of_ble_eq_true rfl, Nat.le_of_ble_eq_true rfl⟩) (zpS hP hE) rfl rfl hl.1 rfl (lv_room (Nat.le_of_ble_eq_true rfl)) dX4_isWay_16 ⟨Nat.le_of_ble_eq_true rfl, Nat.le_of_ble_eq_true rfl⟩) ?_
    refine lv_if_eq (tgt := 26) hx hb dX4_isWay_19 (by decide) (fun c_19 => ?_) (fun c_19 => ?_)
    · refine lv_iconst (v := nI 0) hx hb dX4_isWay_26 (by decide) ?_
      exact zrz hx hb hr hlocks dX4_isWay_27 rfl (by rw [zWy, bI_ne0 c_5, bI_eq0 c_19]; rfl)
    · refine lv_iconst (v := nI 1) hx hb dX4_isWay_22 (by decide) ?_
      refine lv_goto (tgt := 27) hx hb dX4_isWay_23 (by decide) ?_
      exact zrz hx hb hr hlocks dX4_isWay_27 rfl (by rw [zWy, bI_ne0 c_5, bI_ne0 c_19]; rfl)
