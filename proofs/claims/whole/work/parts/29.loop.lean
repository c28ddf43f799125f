/-! today(); the law's loop -/
set_option maxHeartbeats 4000000 in
set_option maxRecDepth 100000 in
theorem op_today {p : Program} {l : Launch} {e : Env} {s : State} {m : MethodId} {below : List Frame} {meth : Method} {c : Code} {b Ln : Nat} {xs : Nat → Int32} {D : va_G} {ca : Nat → ClassId} {sa : Nat → Nat} (C : lw_C p l s m meth c b Ln xs D ca sa) {h0 hm ob : Nat} {ad : Nat → Nat} {k : Nat} {H : Heap} {locs : List Loc} {ls : Array Slot} {V : zV} {nc : Nat} {M : Nat → Nat → Int32} {th : Int32} {L : List Nat} {f : Nat → va_E} {g : Nat → Int64} (S : lw_S D ca s h0 hm ob b ad k (6 * k) H locs ls V nc M th L f g) (hk : k < 512) (hi : 6 * k + 6 ≤ Ln) {cells slots : Nat} {Q : State → Prop} (hroom : cells + 24 ≤ 601024 ∧ slots + 100 ≤ 7293034) (kk : ∀ (V' : zV) (nc' : Nat) (M' : Nat → Nat → Int32) (th' : Int32) (L' : List Nat) (f' : Nat → va_E) (g' : Nat → Int64) (H1 : Heap) (locs1 : List Loc) (ls1 : Array Slot), lw_S D ca s h0 hm ob b ad (k + 1) (6 * k) H1 locs1 ls1 V' nc' M' th' L' f' g' → W p l e room_1 s m #[Value.ref b] below meth c H1 locs1 (cells + 24) (slots + 100) Q (F0 m 1551 ls1 [])) : W p l e room_1 s m #[Value.ref b] below meth c H locs cells slots Q (F0 m 734 ls []) := by
  have S0 := S
  obtain ⟨I, ⟨ta, pa, aT, aP, aS, aH, n9, hR⟩, -⟩ := S0
  have hl0 := C.2.2.2.2.2.2.2
  have hup : zR L f ca h0 (k + 1) V := ⟨ta, pa, aT, aP, aS, aH, n9, zRep_up hR (Nat.le_succ k) (by omega)⟩
  have hIu := i_up I hk
  obtain ⟨hn1, -, htd, hnt, hnp⟩ := I.1
  have hnc : nc ≤ 600 := by omega
  obtain ⟨⟨hx, hb, hml, hown, hts⟩, hX, hbl, hL3, hE, hN, hZ0, -⟩ := C
  obtain ⟨-, -, hP, hY, hD, hS, hl⟩ := S
  have h4 := hR.1.1
  have hA : ∀ q : Nat, s.heap.size ≤ q → (fun q => s.heap.size ≤ q) q := fun _ h => h
  refine lv_aload_n hx hb dL_law_734 rfl (lv_at hl 1 rfl) ?_
  refine zci (va_runV (As := []) (rest := []) ⟨hx, hb, hml, hown, hts⟩ (c_today l D ca sa L f h0 ta pa aT aP aS aH n9 k V hR) (cwV 0 hts gL_law_X4_today rfl rfl rfl (by decide +kernel) ⟨Nat.le_of_ble_eq_true rfl, Nat.le_of_ble_eq_true rfl⟩) (zpVp (o_P hP) hE rfl h4) rfl rfl hl.1 rfl (lv_room (Nat.le_of_ble_eq_true rfl)) dL_law_735 (by show _ ≤ 601024 ∧ _ ≤ 7293034; omega)) ?_
  refine lv_aload_n hx hb dL_law_738 rfl (lv_at hl 2 rfl) ?_
  refine zgm (Y' := mW hm ad ca (nI 0) (vTd V) (vNt V) (vNp V) nc M) (P := fun r => r = nI (vTd V)) (va_runV (As := []) (rest := [.int (nI (vTd V))]) ⟨hx, hb, hml, hown, hts⟩ (m_today l D ca sa hm ad _ _ _ _ _ _ H.size) (cwV 0 hts gL_law_X5_today rfl rfl rfl (by decide +kernel) ⟨Nat.le_of_ble_eq_true rfl, Nat.le_of_ble_eq_true rfl⟩) (zmV (q0 := 0) (ci := 5) hY (w2_r hD) hE rfl rfl) rfl rfl hl.1 rfl (lv_room (Nat.le_of_ble_eq_true rfl)) dL_law_739 (by show _ ≤ 601024 ∧ _ ≤ 7293034; omega)) hP hD hS hA rfl (fun r H locs hr9b hP hY hD hS => ?_)
  rw [show r = nI (vTd V) from hr9b]
  refine lv_icmp_eq (tgt := 1551) hx hb dL_law_742 (by decide) (fun c9 => ?_) (fun c9 => ?_)
  · refine W.widen (k := cells + 24) (n := slots + 100) (by omega) (by omega) ?_
    exact kk V nc M _ _ _ _ H locs ls ⟨hIu, hup, hP, hY, hD, hS, hl⟩
  · exact absurd rfl c9

theorem and31 (x : Int32) : ∃ r, r < 32 ∧ x &&& nI 31 = nI r := by
  refine ⟨(x &&& nI 31).toBitVec.toNat, ?_, Int32.toBitVec_inj.mp (by show _ = BitVec.ofNat 32 _; simp)⟩
  rw [Int32.toBitVec_and, BitVec.toNat_and]
  exact Nat.lt_of_le_of_lt Nat.and_le_right (by decide)
set_option maxHeartbeats 4000000 in
set_option maxRecDepth 100000 in
theorem lw_loop {p : Program} {l : Launch} {e : Env} {s : State} {m : MethodId} {below : List Frame} {meth : Method} {c : Code} {b Ln : Nat} {xs : Nat → Int32} {D : va_G} {ca : Nat → ClassId} {sa : Nat → Nat} (C : lw_C p l s m meth c b Ln xs D ca sa) {h0 hm ob : Nat} {ad : Nat → Nat} {Q : State → Prop}
    (fin : ∀ (H : Heap) (locs : List Loc) (ls : Array Slot) (cells slots : Nat), cells ≤ 601024 → slots ≤ 7293034 → va_S (fun q => s.heap.size ≤ q) s.heap H locs → W p l e room_1 s m #[Value.ref b] below meth c H locs cells slots Q (F0 m 1557 ls [])) :
    ∀ (n k : Nat) (H : Heap) (locs : List Loc) (ls : Array Slot) (V : zV) (nc : Nat) (M : Nat → Nat → Int32) (th : Int32) (L : List Nat) (f : Nat → va_E) (g : Nat → Int64) (cells slots : Nat), k + n = 512 → cells + 24 * n ≤ 601024 → slots + 100 * n ≤ 7293034 → lw_S D ca s h0 hm ob b ad k (6 * k) H locs ls V nc M th L f g →
      W p l e room_1 s m #[Value.ref b] below meth c H locs cells slots Q (F0 m 23 ls []) := by
  intro n
  induction n with
  | zero =>
    intro k H locs ls V nc M th L f g cells slots hk hc hs S
    obtain ⟨⟨hx, hb, hml, hown, hts⟩, hX, hbl, hL3, -⟩ := C
    obtain ⟨-, -, -, -, -, hS, hl⟩ := S
    refine lv_iload hx hb dL_law_23 (lv_at hl 4 rfl) ?_
    refine lv_aload_n hx hb dL_law_25 rfl (lv_at hl 0 rfl) ?_
    refine va_slen hx hb hX hbl (Nat.not_le.mpr hbl) hS dL_law_26 ?_
    refine lv_bipush (v := nI 6) hx hb dL_law_27 (by decide) ?_
    refine lv_isub hx hb dL_law_29 ?_
    refine lv_icmp_gt (tgt := 1557) hx hb dL_law_30 (by decide) (fun c1 => ?_) (fun c1 => ?_)
    · exact fin H locs ls cells slots (by omega) (by omega) hS
    · refine absurd ?_ c1
      rw [Int32.lt_iff_toInt_lt, show Int32.ofNat Ln = nI Ln from rfl, pk_sub_toInt (by omega) (by omega), nI_toInt (by omega)]
      omega
  | succ n ih =>
    intro k H locs ls V nc M th L f g cells slots hk hc hs S
    have C0 := C
    have S0 := S
    obtain ⟨⟨hx, hb, hml, hown, hts⟩, hX, hbl, hL3, -⟩ := C
    obtain ⟨-, -, -, -, -, hS, hl⟩ := S
    have next : ∀ (V' : zV) (nc' : Nat) (M' : Nat → Nat → Int32) (th' : Int32) (L' : List Nat) (f' : Nat → va_E) (g' : Nat → Int64) (H1 : Heap) (locs1 : List Loc) (ls1 : Array Slot), lw_S D ca s h0 hm ob b ad (k + 1) (6 * k) H1 locs1 ls1 V' nc' M' th' L' f' g' → W p l e room_1 s m #[Value.ref b] below meth c H1 locs1 (cells + 24) (slots + 100) Q (F0 m 1551 ls1 []) := by
      intro V' nc' M' th' L' f' g' H1 locs1 ls1 S1
      obtain ⟨z1, z2, z3, z4, z5, z6, hl⟩ := S1
      refine lv_iinc (v := nI (6 * (k + 1))) (lv' := [(4, .int (nI (6 * (k + 1)))), (0, .ref b), (1, .ref h0), (2, .ref hm), (3, .ref ob)]) hx hb dL_law_1551 hl (k := 4) rfl (nI_add (6 * k) 6) (by decide) rfl (fun ls hl => ?_)
      refine lv_goto (tgt := 23) hx hb dL_law_1554 (by decide) ?_
      exact ih (k + 1) H1 locs1 ls V' nc' M' th' L' f' g' (cells + 24) (slots + 100) (by omega) (by omega) (by omega) ⟨z1, z2, z3, z4, z5, z6, lv_sub hl [1, 2, 3, 4, 0] rfl⟩
    refine lv_iload hx hb dL_law_23 (lv_at hl 4 rfl) ?_
    refine lv_aload_n hx hb dL_law_25 rfl (lv_at hl 0 rfl) ?_
    refine va_slen hx hb hX hbl (Nat.not_le.mpr hbl) hS dL_law_26 ?_
    refine lv_bipush (v := nI 6) hx hb dL_law_27 (by decide) ?_
    refine lv_isub hx hb dL_law_29 ?_
    refine lv_icmp_gt (tgt := 1557) hx hb dL_law_30 (by decide) (fun c1 => ?_) (fun c1 => ?_)
    · exact fin H locs ls cells slots (by omega) (by omega) hS
    · have hi : 6 * k + 6 ≤ Ln := by
        rw [Int32.lt_iff_toInt_lt, show Int32.ofNat Ln = nI Ln from rfl, pk_sub_toInt (by omega) (by omega), nI_toInt (by omega)] at c1
        omega
      have hk5 : k < 512 := by omega
      have hroom : cells + 24 ≤ 601024 ∧ slots + 100 ≤ 7293034 := ⟨by omega, by omega⟩
      refine lv_aload_n hx hb dL_law_33 rfl (lv_at hl 0 rfl) ?_
      refine lv_iload hx hb dL_law_34 (lv_at hl 4 rfl) ?_
      refine zsl hx hb hX hbl hL3 hS (show 6 * k < Ln by omega) rfl dL_law_36 ?_
      refine lv_bipush (v := nI 31) hx hb dL_law_37 (by decide) ?_
      refine lv_iand hx hb dL_law_39 ?_
      obtain ⟨r, hr, er⟩ := and31 (xs (6 * k))
      rw [er]
      by_cases r0 : r = 0
      · subst r0
        exact lv_tableIn (off := 92) (tgt := 132) hx hb dL_law_40 (by decide +kernel) (by decide +kernel) rfl (by decide) (op_addTitle C0 S0 hk5 hi hroom next)
      by_cases r1 : r = 1
      · subst r1
        exact lv_tableIn (off := 160) (tgt := 200) hx hb dL_law_40 (by decide +kernel) (by decide +kernel) rfl (by decide) (op_yearOf C0 S0 hk5 hi hroom next)
      by_cases r2 : r = 2
      · subst r2
        exact lv_tableIn (off := 228) (tgt := 268) hx hb dL_law_40 (by decide +kernel) (by decide +kernel) rfl (by decide) (op_volumeOf C0 S0 hk5 hi hroom next)
      by_cases r3 : r = 3
      · subst r3
        exact lv_tableIn (off := 296) (tgt := 336) hx hb dL_law_40 (by decide +kernel) (by decide +kernel) rfl (by decide) (op_addPackage C0 S0 hk5 hi hroom next)
      by_cases r4 : r = 4
      · subst r4
        exact lv_tableIn (off := 388) (tgt := 428) hx hb dL_law_40 (by decide +kernel) (by decide +kernel) rfl (by decide) (op_subscribe C0 S0 hk5 hi hroom next)
      by_cases r5 : r = 5
      · subst r5
        exact lv_tableIn (off := 479) (tgt := 519) hx hb dL_law_40 (by decide +kernel) (by decide +kernel) rfl (by decide) (op_come C0 S0 hk5 hi hroom next)
      by_cases r6 : r = 6
      · subst r6
        exact lv_tableIn (off := 590) (tgt := 630) hx hb dL_law_40 (by decide +kernel) (by decide +kernel) rfl (by decide) (op_go C0 S0 hk5 hi hroom next)
      by_cases r7 : r = 7
      · subst r7
        exact lv_tableIn (off := 638) (tgt := 678) hx hb dL_law_40 (by decide +kernel) (by decide +kernel) rfl (by decide) (op_pass C0 S0 hk5 hi hroom next)
      by_cases r8 : r = 8
      · subst r8
        exact lv_tableIn (off := 694) (tgt := 734) hx hb dL_law_40 (by decide +kernel) (by decide +kernel) rfl (by decide) (op_today C0 S0 hk5 hi hroom next)
      by_cases r9 : r = 9
      · subst r9
        exact lv_tableIn (off := 707) (tgt := 747) hx hb dL_law_40 (by decide +kernel) (by decide +kernel) rfl (by decide) (op_isSubscribed C0 S0 hk5 hi hroom next)
      by_cases r10 : r = 10
      · subst r10
        exact lv_tableIn (off := 782) (tgt := 822) hx hb dL_law_40 (by decide +kernel) (by decide +kernel) rfl (by decide) (op_isIn C0 S0 hk5 hi hroom next)
      by_cases r11 : r = 11
      · subst r11
        exact lv_tableIn (off := 869) (tgt := 909) hx hb dL_law_40 (by decide +kernel) (by decide +kernel) rfl (by decide) (op_report C0 S0 hk5 hi hroom next)
      by_cases r12 : r = 12
      · subst r12
        exact lv_tableIn (off := 937) (tgt := 977) hx hb dL_law_40 (by decide +kernel) (by decide +kernel) rfl (by decide) (op_mend C0 S0 hk5 hi hroom next)
      by_cases r13 : r = 13
      · subst r13
        exact lv_tableIn (off := 1005) (tgt := 1045) hx hb dL_law_40 (by decide +kernel) (by decide +kernel) rfl (by decide) (op_covers C0 S0 hk5 hi hroom next)
      by_cases r14 : r = 14
      · subst r14
        exact lv_tableIn (off := 1116) (tgt := 1156) hx hb dL_law_40 (by decide +kernel) (by decide +kernel) rfl (by decide) (op_ways C0 S0 hk5 hi hroom next)
      by_cases r15 : r = 15
      · subst r15
        exact lv_tableIn (off := 1208) (tgt := 1248) hx hb dL_law_40 (by decide +kernel) (by decide +kernel) rfl (by decide) (op_wayAt C0 S0 hk5 hi hroom next)
      by_cases r16 : r = 16
      · subst r16
        exact lv_tableIn (off := 1312) (tgt := 1352) hx hb dL_law_40 (by decide +kernel) (by decide +kernel) rfl (by decide) (op_gap C0 S0 hk5 hi hroom next)
      by_cases r17 : r = 17
      · subst r17
        exact lv_tableIn (off := 1380) (tgt := 1420) hx hb dL_law_40 (by decide +kernel) (by decide +kernel) rfl (by decide) (op_doubles C0 S0 hk5 hi hroom next)
      by_cases r18 : r = 18
      · subst r18
        exact lv_tableIn (off := 1448) (tgt := 1488) hx hb dL_law_40 (by decide +kernel) (by decide +kernel) rfl (by decide) (op_isNeedless C0 S0 hk5 hi hroom next)
      refine lv_tableOut (tgt := 1551) hx hb dL_law_40 (Or.inr (by rw [nI_toInt (by omega)]; omega)) (by decide) ?_
      obtain ⟨I, ⟨ta, pa, aT, aP, aS, aH, n9, hR⟩, z3, z4, z5, z6, z7⟩ := S0
      refine W.widen (k := cells + 24) (n := slots + 100) (by omega) (by omega) ?_
      exact next V nc M th L f g H locs ls ⟨i_up I hk5, ⟨ta, pa, aT, aP, aS, aH, n9, zRep_up hR (Nat.le_succ k) (by omega)⟩, z3, z4, z5, z6, z7⟩
