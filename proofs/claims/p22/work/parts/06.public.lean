/-! the two counts of bits of the JDK, and the public methods that only read, where nothing is thrown -/
def us (x k : Int32) : Int32 := (x.toUInt32 >>> (k.toUInt32 &&& Int32.toUInt32 31)).toInt32
def ul (x : Int64) (k : Int32) : Int64 := (x.toUInt64 >>> (k.toInt64.toUInt64 &&& Int64.toUInt64 63)).toInt64
def si1 (x : Int32) : Int32 := x - (us x (nI 1) &&& 1431655765)
def si2 (x : Int32) : Int32 := (x &&& 858993459) + (us x (nI 2) &&& 858993459)
def si3 (x : Int32) : Int32 := (x + us x (nI 4)) &&& 252645135
def si4 (x : Int32) : Int32 := x + us x (nI 8)
def si5 (x : Int32) : Int32 := x + us x (nI 16)
def swI (x : Int32) : Int32 := si5 (si4 (si3 (si2 (si1 x)))) &&& nI 63
def sl1 (x : Int64) : Int64 := x - (ul x (nI 1) &&& 6148914691236517205)
def sl2 (x : Int64) : Int64 := (x &&& 3689348814741910323) + (ul x (nI 2) &&& 3689348814741910323)
def sl3 (x : Int64) : Int64 := (x + ul x (nI 4)) &&& 1085102592571150095
def sl4 (x : Int64) : Int64 := x + ul x (nI 8)
def sl5 (x : Int64) : Int64 := x + ul x (nI 16)
def sl6 (x : Int64) : Int64 := x + ul x (nI 32)
def swL (x : Int64) : Int32 := (sl6 (sl5 (sl4 (sl3 (sl2 (sl1 x)))))).toInt32 &&& nI 127
def cGap (V : zV) (t g : Nat) : Int32 := gF (zYs V t &&& (cYC V (-1) t g (vNp V) ^^^ (-1))) (56 - (vT V t).1) (vT V t).1

set_option maxHeartbeats 4000000 in
set_option maxRecDepth 100000 in
theorem c_bitI (l : Launch) (D : va_G) (ca : Nat → ClassId) (sa : Nat → Nat) (ws : va_W) (x : Int32) : Met l yJ6_bitCount_0f7a4 wsJ6_bitCount_0f7a4 ({ frames := 1, cells := 0, slots := 0, locals := 40 }) (va_Pc [.int x] (zPw D ws ca sa)) (vp_Si (fun r => r = swI x)) 0 0 (fun _ => False) := by
  refine Met.ofW (cc := cJ6_bitCount_0f7a4) (maxL := 1) (ret := (some .int)) (by decide) rfl ?_
  intro p e s m args below meth c s₁ B hml hv
  obtain ⟨rfl, hP, hE⟩ := hv
  have hx := B.exec
  have hb := B.bytes
  have hr := B.returns
  have hts := atoms_spec (ws := wsJ6_bitCount_0f7a4) B.pre
  have hown : s.vm.findClass RJ6 = some m.cls := findClass_of_methodNamed B.named
  have hlocks := B.notSynchronized
  have hl := lv_entry ([.int x]) (n := 1) (Nat.le_of_ble_eq_true rfl)
  rw [lg_entry_eq]
  generalize (lg_sl ([.int x]) ++ List.replicate (1 - (lg_sl ([.int x])).length) Slot.unset).toArray = ls at hl ⊢
  have hl : lv_has ls 1 [(0, .int x)] := hl
  refine lv_iload_n hx hb dJ6_bitCount_0f7a4_0 rfl (lv_at hl 0 rfl) ?_
  refine lv_iload_n hx hb dJ6_bitCount_0f7a4_1 rfl (lv_at hl 0 rfl) ?_
  refine lv_iconst (v := nI 1) hx hb dJ6_bitCount_0f7a4_2 (by decide) ?_
  refine lv_iushr hx hb dJ6_bitCount_0f7a4_3 rfl ?_
  refine lv_ldcw hx hb hown (hts (.constant RJ6 265 (1431655765)) (by decide +kernel)) dJ6_bitCount_0f7a4_4 ?_
  refine lv_iand hx hb dJ6_bitCount_0f7a4_7 ?_
  refine lv_isub hx hb dJ6_bitCount_0f7a4_8 ?_
  refine zasi (show (x - (((x).toUInt32 >>> (((nI 1)).toUInt32 &&& Int32.toUInt32 31)).toInt32 &&& (1431655765))) = si1 x from rfl) ?_
  refine lv_istore_n (lv' := [(0, .int (si1 x))]) hx hb dJ6_bitCount_0f7a4_9 rfl hl (by decide) rfl (fun ls hl => ?_)
  refine lv_iload_n hx hb dJ6_bitCount_0f7a4_10 rfl (lv_at hl 0 rfl) ?_
  refine lv_ldcw hx hb hown (hts (.constant RJ6 266 (858993459)) (by decide +kernel)) dJ6_bitCount_0f7a4_11 ?_
  refine lv_iand hx hb dJ6_bitCount_0f7a4_14 ?_
  refine lv_iload_n hx hb dJ6_bitCount_0f7a4_15 rfl (lv_at hl 0 rfl) ?_
  refine lv_iconst (v := nI 2) hx hb dJ6_bitCount_0f7a4_16 (by decide) ?_
  refine lv_iushr hx hb dJ6_bitCount_0f7a4_17 rfl ?_
  refine lv_ldcw hx hb hown (hts (.constant RJ6 266 (858993459)) (by decide +kernel)) dJ6_bitCount_0f7a4_18 ?_
  refine lv_iand hx hb dJ6_bitCount_0f7a4_21 ?_
  refine lv_iadd hx hb dJ6_bitCount_0f7a4_22 ?_
  refine zasi (show (((si1 x) &&& (858993459)) + ((((si1 x)).toUInt32 >>> (((nI 2)).toUInt32 &&& Int32.toUInt32 31)).toInt32 &&& (858993459))) = si2 (si1 x) from rfl) ?_
  refine lv_istore_n (lv' := [(0, .int (si2 (si1 x)))]) hx hb dJ6_bitCount_0f7a4_23 rfl hl (by decide) rfl (fun ls hl => ?_)
  refine lv_iload_n hx hb dJ6_bitCount_0f7a4_24 rfl (lv_at hl 0 rfl) ?_
  refine lv_iload_n hx hb dJ6_bitCount_0f7a4_25 rfl (lv_at hl 0 rfl) ?_
  refine lv_iconst (v := nI 4) hx hb dJ6_bitCount_0f7a4_26 (by decide) ?_
  refine lv_iushr hx hb dJ6_bitCount_0f7a4_27 rfl ?_
  refine lv_iadd hx hb dJ6_bitCount_0f7a4_28 ?_
  refine lv_ldcw hx hb hown (hts (.constant RJ6 267 (252645135)) (by decide +kernel)) dJ6_bitCount_0f7a4_29 ?_
  refine lv_iand hx hb dJ6_bitCount_0f7a4_32 ?_
  refine zasi (show (((si2 (si1 x)) + (((si2 (si1 x))).toUInt32 >>> (((nI 4)).toUInt32 &&& Int32.toUInt32 31)).toInt32) &&& (252645135)) = si3 (si2 (si1 x)) from rfl) ?_
  refine lv_istore_n (lv' := [(0, .int (si3 (si2 (si1 x))))]) hx hb dJ6_bitCount_0f7a4_33 rfl hl (by decide) rfl (fun ls hl => ?_)
  refine lv_iload_n hx hb dJ6_bitCount_0f7a4_34 rfl (lv_at hl 0 rfl) ?_
  refine lv_iload_n hx hb dJ6_bitCount_0f7a4_35 rfl (lv_at hl 0 rfl) ?_
  refine lv_bipush (v := nI 8) hx hb dJ6_bitCount_0f7a4_36 (by decide) ?_
  refine lv_iushr hx hb dJ6_bitCount_0f7a4_38 rfl ?_
  refine lv_iadd hx hb dJ6_bitCount_0f7a4_39 ?_
  refine zasi (show ((si3 (si2 (si1 x))) + (((si3 (si2 (si1 x)))).toUInt32 >>> (((nI 8)).toUInt32 &&& Int32.toUInt32 31)).toInt32) = si4 (si3 (si2 (si1 x))) from rfl) ?_
  refine lv_istore_n (lv' := [(0, .int (si4 (si3 (si2 (si1 x)))))]) hx hb dJ6_bitCount_0f7a4_40 rfl hl (by decide) rfl (fun ls hl => ?_)
  refine lv_iload_n hx hb dJ6_bitCount_0f7a4_41 rfl (lv_at hl 0 rfl) ?_
  refine lv_iload_n hx hb dJ6_bitCount_0f7a4_42 rfl (lv_at hl 0 rfl) ?_
  refine lv_bipush (v := nI 16) hx hb dJ6_bitCount_0f7a4_43 (by decide) ?_
  refine lv_iushr hx hb dJ6_bitCount_0f7a4_45 rfl ?_
  refine lv_iadd hx hb dJ6_bitCount_0f7a4_46 ?_
  refine zasi (show ((si4 (si3 (si2 (si1 x)))) + (((si4 (si3 (si2 (si1 x))))).toUInt32 >>> (((nI 16)).toUInt32 &&& Int32.toUInt32 31)).toInt32) = si5 (si4 (si3 (si2 (si1 x)))) from rfl) ?_
  refine lv_istore_n (lv' := [(0, .int (si5 (si4 (si3 (si2 (si1 x))))))]) hx hb dJ6_bitCount_0f7a4_47 rfl hl (by decide) rfl (fun ls hl => ?_)
  refine lv_iload_n hx hb dJ6_bitCount_0f7a4_48 rfl (lv_at hl 0 rfl) ?_
  refine lv_bipush (v := nI 63) hx hb dJ6_bitCount_0f7a4_49 (by decide) ?_
  refine lv_iand hx hb dJ6_bitCount_0f7a4_51 ?_
  exact zri hx hb hr hlocks dJ6_bitCount_0f7a4_52 (rfl)

set_option maxHeartbeats 4000000 in
set_option maxRecDepth 100000 in
theorem c_bitL (l : Launch) (D : va_G) (ca : Nat → ClassId) (sa : Nat → Nat) (ws : va_W) (x : Int64) : Met l yJ13_bitCount_95d88 wsJ13_bitCount_95d88 ({ frames := 1, cells := 0, slots := 0, locals := 40 }) (va_Pc [.long x] (zPw D ws ca sa)) (vp_Si (fun r => r = swL x)) 0 0 (fun _ => False) := by
  refine Met.ofW (cc := cJ13_bitCount_95d88) (maxL := 2) (ret := (some .int)) (by decide) rfl ?_
  intro p e s m args below meth c s₁ B hml hv
  obtain ⟨rfl, hP, hE⟩ := hv
  have hx := B.exec
  have hb := B.bytes
  have hr := B.returns
  have hts := atoms_spec (ws := wsJ13_bitCount_95d88) B.pre
  have hown : s.vm.findClass RJ13 = some m.cls := findClass_of_methodNamed B.named
  have hlocks := B.notSynchronized
  have hl := lv_entry ([.long x]) (n := 2) (Nat.le_of_ble_eq_true rfl)
  rw [lg_entry_eq]
  generalize (lg_sl ([.long x]) ++ List.replicate (2 - (lg_sl ([.long x])).length) Slot.unset).toArray = ls at hl ⊢
  have hl : lv_has ls 2 [(0, .long x)] := hl
  refine lv_lload_n hx hb dJ13_bitCount_95d88_0 rfl (lv_at hl 0 rfl) ?_
  refine lv_lload_n hx hb dJ13_bitCount_95d88_1 rfl (lv_at hl 0 rfl) ?_
  refine lv_iconst (v := nI 1) hx hb dJ13_bitCount_95d88_2 (by decide) ?_
  refine lv_lushr hx hb dJ13_bitCount_95d88_3 rfl ?_
  refine lv_ldc2 hx hb hown (hts (.constantLong RJ13 314 (6148914691236517205)) (by decide +kernel)) dJ13_bitCount_95d88_4 ?_
  refine lv_land hx hb dJ13_bitCount_95d88_7 ?_
  refine lv_lsub hx hb dJ13_bitCount_95d88_8 ?_
  refine zasl (show (x - (((x).toUInt64 >>> (((nI 1)).toInt64.toUInt64 &&& Int64.toUInt64 63)).toInt64 &&& (6148914691236517205))) = sl1 x from rfl) ?_
  refine lv_lstore_n (lv' := [(0, .long (sl1 x))]) hx hb dJ13_bitCount_95d88_9 rfl hl (by decide) rfl (fun ls hl => ?_)
  refine lv_lload_n hx hb dJ13_bitCount_95d88_10 rfl (lv_at hl 0 rfl) ?_
  refine lv_ldc2 hx hb hown (hts (.constantLong RJ13 316 (3689348814741910323)) (by decide +kernel)) dJ13_bitCount_95d88_11 ?_
  refine lv_land hx hb dJ13_bitCount_95d88_14 ?_
  refine lv_lload_n hx hb dJ13_bitCount_95d88_15 rfl (lv_at hl 0 rfl) ?_
  refine lv_iconst (v := nI 2) hx hb dJ13_bitCount_95d88_16 (by decide) ?_
  refine lv_lushr hx hb dJ13_bitCount_95d88_17 rfl ?_
  refine lv_ldc2 hx hb hown (hts (.constantLong RJ13 316 (3689348814741910323)) (by decide +kernel)) dJ13_bitCount_95d88_18 ?_
  refine lv_land hx hb dJ13_bitCount_95d88_21 ?_
  refine lv_ladd hx hb dJ13_bitCount_95d88_22 ?_
  refine zasl (show (((sl1 x) &&& (3689348814741910323)) + ((((sl1 x)).toUInt64 >>> (((nI 2)).toInt64.toUInt64 &&& Int64.toUInt64 63)).toInt64 &&& (3689348814741910323))) = sl2 (sl1 x) from rfl) ?_
  refine lv_lstore_n (lv' := [(0, .long (sl2 (sl1 x)))]) hx hb dJ13_bitCount_95d88_23 rfl hl (by decide) rfl (fun ls hl => ?_)
  refine lv_lload_n hx hb dJ13_bitCount_95d88_24 rfl (lv_at hl 0 rfl) ?_
  refine lv_lload_n hx hb dJ13_bitCount_95d88_25 rfl (lv_at hl 0 rfl) ?_
  refine lv_iconst (v := nI 4) hx hb dJ13_bitCount_95d88_26 (by decide) ?_
  refine lv_lushr hx hb dJ13_bitCount_95d88_27 rfl ?_
  refine lv_ladd hx hb dJ13_bitCount_95d88_28 ?_
  refine lv_ldc2 hx hb hown (hts (.constantLong RJ13 318 (1085102592571150095)) (by decide +kernel)) dJ13_bitCount_95d88_29 ?_
  refine lv_land hx hb dJ13_bitCount_95d88_32 ?_
  refine zasl (show (((sl2 (sl1 x)) + (((sl2 (sl1 x))).toUInt64 >>> (((nI 4)).toInt64.toUInt64 &&& Int64.toUInt64 63)).toInt64) &&& (1085102592571150095)) = sl3 (sl2 (sl1 x)) from rfl) ?_
  refine lv_lstore_n (lv' := [(0, .long (sl3 (sl2 (sl1 x))))]) hx hb dJ13_bitCount_95d88_33 rfl hl (by decide) rfl (fun ls hl => ?_)
  refine lv_lload_n hx hb dJ13_bitCount_95d88_34 rfl (lv_at hl 0 rfl) ?_
  refine lv_lload_n hx hb dJ13_bitCount_95d88_35 rfl (lv_at hl 0 rfl) ?_
  refine lv_bipush (v := nI 8) hx hb dJ13_bitCount_95d88_36 (by decide) ?_
  refine lv_lushr hx hb dJ13_bitCount_95d88_38 rfl ?_
  refine lv_ladd hx hb dJ13_bitCount_95d88_39 ?_
  refine zasl (show ((sl3 (sl2 (sl1 x))) + (((sl3 (sl2 (sl1 x)))).toUInt64 >>> (((nI 8)).toInt64.toUInt64 &&& Int64.toUInt64 63)).toInt64) = sl4 (sl3 (sl2 (sl1 x))) from rfl) ?_
  refine lv_lstore_n (lv' := [(0, .long (sl4 (sl3 (sl2 (sl1 x)))))]) hx hb dJ13_bitCount_95d88_40 rfl hl (by decide) rfl (fun ls hl => ?_)
  refine lv_lload_n hx hb dJ13_bitCount_95d88_41 rfl (lv_at hl 0 rfl) ?_
  refine lv_lload_n hx hb dJ13_bitCount_95d88_42 rfl (lv_at hl 0 rfl) ?_
  refine lv_bipush (v := nI 16) hx hb dJ13_bitCount_95d88_43 (by decide) ?_
  refine lv_lushr hx hb dJ13_bitCount_95d88_45 rfl ?_
  refine lv_ladd hx hb dJ13_bitCount_95d88_46 ?_
  refine zasl (show ((sl4 (sl3 (sl2 (sl1 x)))) + (((sl4 (sl3 (sl2 (sl1 x))))).toUInt64 >>> (((nI 16)).toInt64.toUInt64 &&& Int64.toUInt64 63)).toInt64) = sl5 (sl4 (sl3 (sl2 (sl1 x)))) from rfl) ?_
  refine lv_lstore_n (lv' := [(0, .long (sl5 (sl4 (sl3 (sl2 (sl1 x))))))]) hx hb dJ13_bitCount_95d88_47 rfl hl (by decide) rfl (fun ls hl => ?_)
  refine lv_lload_n hx hb dJ13_bitCount_95d88_48 rfl (lv_at hl 0 rfl) ?_
  refine lv_lload_n hx hb dJ13_bitCount_95d88_49 rfl (lv_at hl 0 rfl) ?_
  refine lv_bipush (v := nI 32) hx hb dJ13_bitCount_95d88_50 (by decide) ?_
  refine lv_lushr hx hb dJ13_bitCount_95d88_52 rfl ?_
  refine lv_ladd hx hb dJ13_bitCount_95d88_53 ?_
  refine zasl (show ((sl5 (sl4 (sl3 (sl2 (sl1 x))))) + (((sl5 (sl4 (sl3 (sl2 (sl1 x)))))).toUInt64 >>> (((nI 32)).toInt64.toUInt64 &&& Int64.toUInt64 63)).toInt64) = sl6 (sl5 (sl4 (sl3 (sl2 (sl1 x))))) from rfl) ?_
  refine lv_lstore_n (lv' := [(0, .long (sl6 (sl5 (sl4 (sl3 (sl2 (sl1 x)))))))]) hx hb dJ13_bitCount_95d88_54 rfl hl (by decide) rfl (fun ls hl => ?_)
  refine lv_lload_n hx hb dJ13_bitCount_95d88_55 rfl (lv_at hl 0 rfl) ?_
  refine lv_l2i hx hb dJ13_bitCount_95d88_56 rfl ?_
  refine lv_bipush (v := nI 127) hx hb dJ13_bitCount_95d88_57 (by decide) ?_
  refine lv_iand hx hb dJ13_bitCount_95d88_59 ?_
  exact zri hx hb hr hlocks dJ13_bitCount_95d88_60 (rfl)

set_option maxHeartbeats 4000000 in
set_option maxRecDepth 100000 in
theorem c_ckRange (l : Launch) (D : va_G) (ca : Nat → ClassId) (sa : Nat → Nat) (ws : va_W) (v a b : Nat) (h1 : a ≤ v) (h2 : v ≤ b) (h3 : b < 2147483648) : Met l yX4_checkRange wsX4_checkRange ({ frames := 6, cells := 0, slots := 0, locals := 240 }) (va_Pc [.int (nI v), .int (nI a), .int (nI b)] (zPw D ws ca sa)) (va_Sv (fun _ => True)) 0 0 (fun _ => False) := by
  refine Met.ofW (cc := cX4_checkRange) (maxL := 3) (ret := none) (by decide) rfl ?_
  intro p e s m args below meth c s₁ B hml hv
  obtain ⟨rfl, hP, hE⟩ := hv
  have hx := B.exec
  have hb := B.bytes
  have hr := B.returns
  have hts := atoms_spec (ws := wsX4_checkRange) B.pre
  have hown : s.vm.findClass RX4 = some m.cls := findClass_of_methodNamed B.named
  have hlocks := B.notSynchronized
  have hl := lv_entry ([.int (nI v), .int (nI a), .int (nI b)]) (n := 3) (Nat.le_of_ble_eq_true rfl)
  rw [lg_entry_eq]
  generalize (lg_sl ([.int (nI v), .int (nI a), .int (nI b)]) ++ List.replicate (3 - (lg_sl ([.int (nI v), .int (nI a), .int (nI b)])).length) Slot.unset).toArray = ls at hl ⊢
  have hl : lv_has ls 3 [(0, .int (nI v)), (1, .int (nI a)), (2, .int (nI b))] := hl
  refine lv_iload_n hx hb dX4_checkRange_0 rfl (lv_at hl 0 rfl) ?_
  refine lv_iload_n hx hb dX4_checkRange_1 rfl (lv_at hl 1 rfl) ?_
  refine lv_icmp_lt (tgt := 10) hx hb dX4_checkRange_2 (by decide) (fun c_2 => ?_) (fun c_2 => ?_)
  · exact absurd ((nI_ltI (by omega) (by omega)).mp c_2) (by omega)
  · refine lv_iload_n hx hb dX4_checkRange_5 rfl (lv_at hl 0 rfl) ?_
    refine lv_iload_n hx hb dX4_checkRange_6 rfl (lv_at hl 2 rfl) ?_
    refine lv_icmp_le (tgt := 20) hx hb dX4_checkRange_7 (by decide) (fun c_7 => ?_) (fun c_7 => ?_)
    · exact zrv hx hb hr hlocks dX4_checkRange_20
    · exact absurd ((nI_leI (by omega) (by omega)).mpr h2) c_7

set_option maxHeartbeats 4000000 in
set_option maxRecDepth 100000 in
theorem c_ckArt (l : Launch) (D : va_G) (ca : Nat → ClassId) (sa : Nat → Nat) (L : List Nat) (f : Nat → va_E) (h0 ta pa : Nat) (aT aP aS : Nat → Nat) (aH : Nat → Nat → Nat) (n K : Nat) (V : zV) (hR : zRep L f ca h0 ta pa aT aP aS aH n K V) (y g d : Nat) (hy : y ≤ 55) (hg : g ≤ 3) (hd : d ≤ vTd V) : Met l yX4_checkArticle wsX4_checkArticle ({ frames := 7, cells := 0, slots := 0, locals := 280 }) (va_Pc [.ref h0, .int (nI y), .int (nI g), .int (nI d)] (zPw D (va_pl L f) ca sa)) (va_Sv (fun _ => True)) 0 0 (fun _ => False) := by
  refine Met.ofW (cc := cX4_checkArticle) (maxL := 4) (ret := none) (by decide) rfl ?_
  intro p e s m args below meth c s₁ B hml hv
  obtain ⟨rfl, hP, hE⟩ := hv
  have hx := B.exec
  have hb := B.bytes
  have hr := B.returns
  have hts := atoms_spec (ws := wsX4_checkArticle) B.pre
  have hown : s.vm.findClass RX4 = some m.cls := findClass_of_methodNamed B.named
  have hlocks := B.notSynchronized
  have hl := lv_entry ([.ref h0, .int (nI y), .int (nI g), .int (nI d)]) (n := 4) (Nat.le_of_ble_eq_true rfl)
  rw [lg_entry_eq]
  generalize (lg_sl ([.ref h0, .int (nI y), .int (nI g), .int (nI d)]) ++ List.replicate (4 - (lg_sl ([.ref h0, .int (nI y), .int (nI g), .int (nI d)])).length) Slot.unset).toArray = ls at hl ⊢
  have hl : lv_has ls 4 [(0, .ref h0), (1, .int (nI y)), (2, .int (nI g)), (3, .int (nI d))] := hl
  obtain ⟨⟨h4, hTd, hNt, hNp, hnK, hK5⟩, ⟨gt, htA, hTi⟩, ⟨gp, hpA, hPk⟩, hinj⟩ := id hR
  have hpk : ∀ q, q < vNp V → zPack L f ca (aP q) (vP V q) (aH q 20) (aS q) (aH q) := fun q h => (hPk q h).2.1
  have hhi : ∀ q, q < vNp V → ∀ w, w ≤ 20 → zHist L f (aH q w) (vB V q w) (vL V q w) := fun q h w hw => ((hPk q h).2.2 w hw).1
  refine lv_iload_n hx hb dX4_checkArticle_0 rfl (lv_at hl 1 rfl) ?_
  refine lv_iconst (v := nI 0) hx hb dX4_checkArticle_1 (by decide) ?_
  refine lv_bipush (v := nI 55) hx hb dX4_checkArticle_2 (by decide) ?_
  refine zcv (va_runS (As := [.int (nI y), .int (nI 0), .int (nI 55)]) (rest := []) ⟨hx, hb, hml, hown, hts⟩ (c_ckRange l D ca sa _ (y) (0) (55) (Nat.zero_le _) (hy) (by omega)) (va_cwS 3 hts gX4_checkArticle_X4_checkRange rfl rfl rfl (by decide +kernel) ⟨Nat.le_of_ble_eq_true rfl, Nat.le_of_ble_eq_true rfl⟩) (zpS hP hE) rfl rfl hl.1 rfl (lv_room (Nat.le_of_ble_eq_true rfl)) dX4_checkArticle_4 ⟨Nat.le_of_ble_eq_true rfl, Nat.le_of_ble_eq_true rfl⟩) ?_
  refine lv_iload_n hx hb dX4_checkArticle_7 rfl (lv_at hl 2 rfl) ?_
  refine lv_iconst (v := nI 0) hx hb dX4_checkArticle_8 (by decide) ?_
  refine lv_iconst (v := nI 3) hx hb dX4_checkArticle_9 (by decide) ?_
  refine zcv (va_runS (As := [.int (nI g), .int (nI 0), .int (nI 3)]) (rest := []) ⟨hx, hb, hml, hown, hts⟩ (c_ckRange l D ca sa _ (g) (0) (3) (Nat.zero_le _) (hg) (by omega)) (va_cwS 3 hts gX4_checkArticle_X4_checkRange rfl rfl rfl (by decide +kernel) ⟨Nat.le_of_ble_eq_true rfl, Nat.le_of_ble_eq_true rfl⟩) (zpS hP hE) rfl rfl hl.1 rfl (lv_room (Nat.le_of_ble_eq_true rfl)) dX4_checkArticle_10 ⟨Nat.le_of_ble_eq_true rfl, Nat.le_of_ble_eq_true rfl⟩) ?_
  refine lv_iload_n hx hb dX4_checkArticle_13 rfl (lv_at hl 3 rfl) ?_
  refine lv_iconst (v := nI 0) hx hb dX4_checkArticle_14 (by decide) ?_
  refine lv_aload_n hx hb dX4_checkArticle_15 rfl (lv_at hl 0 rfl) ?_
  refine zget (own := RX4) (ci := 4) (C := RX4) (T := TX4) (N := 6) hx hb hts (by decide +kernel) hown hE hP h4 rfl 5 (by decide) (hts (.fieldLink RX4 31 "LinkResolver" "currentDay" "I") (by decide +kernel)) rfl dX4_checkArticle_16 ?_
  refine zcv (va_runS (As := [.int (nI d), .int (nI 0), .int (nI (vTd V))]) (rest := []) ⟨hx, hb, hml, hown, hts⟩ (c_ckRange l D ca sa _ (d) (0) (vTd V) (Nat.zero_le _) (hd) (by omega)) (va_cwS 3 hts gX4_checkArticle_X4_checkRange rfl rfl rfl (by decide +kernel) ⟨Nat.le_of_ble_eq_true rfl, Nat.le_of_ble_eq_true rfl⟩) (zpS hP hE) rfl rfl hl.1 rfl (lv_room (Nat.le_of_ble_eq_true rfl)) dX4_checkArticle_19 ⟨Nat.le_of_ble_eq_true rfl, Nat.le_of_ble_eq_true rfl⟩) ?_
  exact zrv hx hb hr hlocks dX4_checkArticle_22

set_option maxHeartbeats 4000000 in
set_option maxRecDepth 100000 in
theorem c_today (l : Launch) (D : va_G) (ca : Nat → ClassId) (sa : Nat → Nat) (L : List Nat) (f : Nat → va_E) (h0 ta pa : Nat) (aT aP aS : Nat → Nat) (aH : Nat → Nat → Nat) (n K : Nat) (V : zV) (hR : zRep L f ca h0 ta pa aT aP aS aH n K V)  : Met l yX4_today wsX4_today ({ frames := 8, cells := 0, slots := 0, locals := 320 }) (va_Pc [.ref h0] (zPw D (va_pl L f) ca sa)) (vp_Si (fun r => r = nI (vTd V))) 0 0 (fun _ => False) := by
  refine Met.ofW (cc := cX4_today) (maxL := 1) (ret := (some .int)) (by decide) rfl ?_
  intro p e s m args below meth c s₁ B hml hv
  obtain ⟨rfl, hP, hE⟩ := hv
  have hx := B.exec
  have hb := B.bytes
  have hr := B.returns
  have hts := atoms_spec (ws := wsX4_today) B.pre
  have hown : s.vm.findClass RX4 = some m.cls := findClass_of_methodNamed B.named
  have hlocks := B.notSynchronized
  have hl := lv_entry ([.ref h0]) (n := 1) (Nat.le_of_ble_eq_true rfl)
  rw [lg_entry_eq]
  generalize (lg_sl ([.ref h0]) ++ List.replicate (1 - (lg_sl ([.ref h0])).length) Slot.unset).toArray = ls at hl ⊢
  have hl : lv_has ls 1 [(0, .ref h0)] := hl
  obtain ⟨⟨h4, hTd, hNt, hNp, hnK, hK5⟩, ⟨gt, htA, hTi⟩, ⟨gp, hpA, hPk⟩, hinj⟩ := id hR
  have hpk : ∀ q, q < vNp V → zPack L f ca (aP q) (vP V q) (aH q 20) (aS q) (aH q) := fun q h => (hPk q h).2.1
  have hhi : ∀ q, q < vNp V → ∀ w, w ≤ 20 → zHist L f (aH q w) (vB V q w) (vL V q w) := fun q h w hw => ((hPk q h).2.2 w hw).1
  refine lv_aload_n hx hb dX4_today_0 rfl (lv_at hl 0 rfl) ?_
  refine zget (own := RX4) (ci := 4) (C := RX4) (T := TX4) (N := 6) hx hb hts (by decide +kernel) hown hE hP h4 rfl 5 (by decide) (hts (.fieldLink RX4 31 "LinkResolver" "currentDay" "I") (by decide +kernel)) rfl dX4_today_1 ?_
  exact zri hx hb hr hlocks dX4_today_4 (rfl)

set_option maxHeartbeats 4000000 in
set_option maxRecDepth 100000 in
theorem c_volumeOf (l : Launch) (D : va_G) (ca : Nat → ClassId) (sa : Nat → Nat) (L : List Nat) (f : Nat → va_E) (h0 ta pa : Nat) (aT aP aS : Nat → Nat) (aH : Nat → Nat → Nat) (n K : Nat) (V : zV) (hR : zRep L f ca h0 ta pa aT aP aS aH n K V) (t : Nat) (ht : t < vNt V) (y : Nat) (hy : (vT V t).1 ≤ y) (hy2 : y ≤ 55) : Met l yX4_volumeOf wsX4_volumeOf ({ frames := 8, cells := 0, slots := 0, locals := 320 }) (va_Pc [.ref h0, .int (nI t), .int (nI y)] (zPw D (va_pl L f) ca sa)) (vp_Si (fun r => r = nI ((y - (vT V t).1) * (vT V t).2 + 1))) 0 0 (fun _ => False) := by
  refine Met.ofW (cc := cX4_volumeOf) (maxL := 4) (ret := (some .int)) (by decide) rfl ?_
  intro p e s m args below meth c s₁ B hml hv
  obtain ⟨rfl, hP, hE⟩ := hv
  have hx := B.exec
  have hb := B.bytes
  have hr := B.returns
  have hts := atoms_spec (ws := wsX4_volumeOf) B.pre
  have hown : s.vm.findClass RX4 = some m.cls := findClass_of_methodNamed B.named
  have hlocks := B.notSynchronized
  have hl := lv_entry ([.ref h0, .int (nI t), .int (nI y)]) (n := 4) (Nat.le_of_ble_eq_true rfl)
  rw [lg_entry_eq]
  generalize (lg_sl ([.ref h0, .int (nI t), .int (nI y)]) ++ List.replicate (4 - (lg_sl ([.ref h0, .int (nI t), .int (nI y)])).length) Slot.unset).toArray = ls at hl ⊢
  have hl : lv_has ls 4 [(0, .ref h0), (1, .int (nI t)), (2, .int (nI y))] := hl
  obtain ⟨⟨h4, hTd, hNt, hNp, hnK, hK5⟩, ⟨gt, htA, hTi⟩, ⟨gp, hpA, hPk⟩, hinj⟩ := id hR
  have hpk : ∀ q, q < vNp V → zPack L f ca (aP q) (vP V q) (aH q 20) (aS q) (aH q) := fun q h => (hPk q h).2.1
  have hhi : ∀ q, q < vNp V → ∀ w, w ≤ 20 → zHist L f (aH q w) (vB V q w) (vL V q w) := fun q h w hw => ((hPk q h).2.2 w hw).1
  refine lv_aload_n hx hb dX4_volumeOf_0 rfl (lv_at hl 0 rfl) ?_
  refine lv_iload_n hx hb dX4_volumeOf_1 rfl (lv_at hl 1 rfl) ?_
  refine zcq (va_runV (As := [.int (nI t)]) (rest := []) ⟨hx, hb, hml, hown, hts⟩ (c_exTitle l D ca sa L f h0 ta pa aT aP aS aH n K V hR t ht) (cwV 1 hts gX4_volumeOf_X4_existingTitle rfl rfl rfl (by decide +kernel) ⟨Nat.le_of_ble_eq_true rfl, Nat.le_of_ble_eq_true rfl⟩) (zpVp hP hE (ci := 4) rfl h4) rfl rfl hl.1 rfl (lv_room (Nat.le_of_ble_eq_true rfl)) dX4_volumeOf_2 ⟨Nat.le_of_ble_eq_true rfl, Nat.le_of_ble_eq_true rfl⟩) ?_
  refine W.eq (g2 := F0 m 5 ls [.ref (aT t)]) rfl ?_
  refine lv_astore_n (lv' := [(3, .ref (aT t)), (0, .ref h0), (1, .int (nI t)), (2, .int (nI y))]) hx hb dX4_volumeOf_5 rfl hl (by decide) rfl (fun ls hl => ?_)
  refine lv_iload_n hx hb dX4_volumeOf_6 rfl (lv_at hl 3 rfl) ?_
  refine lv_aload_n hx hb dX4_volumeOf_7 rfl (lv_at hl 0 rfl) ?_
  refine zget (own := RX4) (ci := 3) (C := RX3) (T := TX3) (N := 2) hx hb hts (by decide +kernel) hown hE hP (hTi t ht).2.1 rfl 0 (by decide) (hts (.fieldLink RX4 56 "LinkResolver$Title" "firstYear" "I") (by decide +kernel)) rfl dX4_volumeOf_8 ?_
  refine lv_bipush (v := nI 55) hx hb dX4_volumeOf_11 (by decide) ?_
  refine zcv (va_runS (As := [.int (nI y), .int (nI (vT V t).1), .int (nI 55)]) (rest := []) ⟨hx, hb, hml, hown, hts⟩ (c_ckRange l D ca sa _ (y) ((vT V t).1) (55) (hy) (hy2) (by omega)) (va_cwS 3 hts gX4_volumeOf_X4_checkRange rfl rfl rfl (by decide +kernel) ⟨Nat.le_of_ble_eq_true rfl, Nat.le_of_ble_eq_true rfl⟩) (zpS hP hE) rfl rfl hl.1 rfl (lv_room (Nat.le_of_ble_eq_true rfl)) dX4_volumeOf_13 ⟨Nat.le_of_ble_eq_true rfl, Nat.le_of_ble_eq_true rfl⟩) ?_
  refine lv_aload_n hx hb dX4_volumeOf_16 rfl (lv_at hl 0 rfl) ?_
  refine lv_iload_n hx hb dX4_volumeOf_17 rfl (lv_at hl 3 rfl) ?_
  refine zci (va_runV (As := [.int (nI y)]) (rest := []) ⟨hx, hb, hml, hown, hts⟩ (c_firstVolume l D ca sa L f (aT t) _ _ (y) (hTi t ht).2.1 (hy) (by omega)) (cwV 1 hts gX4_volumeOf_X3_firstVolume rfl rfl rfl (by decide +kernel) ⟨Nat.le_of_ble_eq_true rfl, Nat.le_of_ble_eq_true rfl⟩) (zpVp hP hE (ci := 3) rfl (hTi t ht).2.1) rfl rfl hl.1 rfl (lv_room (Nat.le_of_ble_eq_true rfl)) dX4_volumeOf_18 ⟨Nat.le_of_ble_eq_true rfl, Nat.le_of_ble_eq_true rfl⟩) ?_
  exact zri hx hb hr hlocks dX4_volumeOf_21 (rfl)

theorem zvolb (a b k : Nat) (hk : k ≤ 56) (hb : b ≤ 4) : (k - a) * b ≤ 224 := by
  have h1 : k - a ≤ 56 := by omega
  exact Nat.le_trans (Nat.mul_le_mul h1 hb) (by decide)
theorem zdivq (a b v k : Nat) (hk : a ≤ k) (h1 : (k - a) * b + 1 ≤ v) (h2 : v ≤ (k + 1 - a) * b) : nI k = nI (a + (v - 1) / b) := by
  have e1 : (k + 1 - a) * b = (k - a) * b + b := by rw [show k + 1 - a = (k - a) + 1 by omega, Nat.succ_mul]
  have hb : 0 < b := by
    rcases Nat.eq_zero_or_pos b with z | z
    · rw [z, Nat.mul_zero] at h2; omega
    · exact z
  have e2 : (v - 1) / b = k - a := Nat.div_eq_of_lt_le (by omega) (by rw [Nat.succ_mul]; omega)
  rw [e2, show a + (k - a) = k by omega]

set_option maxHeartbeats 4000000 in
set_option maxRecDepth 100000 in
theorem c_yearOf (l : Launch) (D : va_G) (ca : Nat → ClassId) (sa : Nat → Nat) (L : List Nat) (f : Nat → va_E) (h0 ta pa : Nat) (aT aP aS : Nat → Nat) (aH : Nat → Nat → Nat) (n K : Nat) (V : zV) (hR : zRep L f ca h0 ta pa aT aP aS aH n K V) (t : Nat) (ht : t < vNt V) (v : Nat) (hv1 : 1 ≤ v) (hv2 : v ≤ (56 - (vT V t).1) * (vT V t).2) : Met l yX4_yearOf wsX4_yearOf ({ frames := 8, cells := 0, slots := 0, locals := 320 }) (va_Pc [.ref h0, .int (nI t), .int (nI v)] (zPw D (va_pl L f) ca sa)) (vp_Si (fun r => r = nI ((vT V t).1 + (v - 1) / (vT V t).2))) 0 0 (fun _ => False) := by
  refine Met.ofW (cc := cX4_yearOf) (maxL := 5) (ret := (some .int)) (by decide) rfl ?_
  intro p e s m args below meth c s₁ B hml hv
  obtain ⟨rfl, hP, hE⟩ := hv
  have hx := B.exec
  have hb := B.bytes
  have hr := B.returns
  have hts := atoms_spec (ws := wsX4_yearOf) B.pre
  have hown : s.vm.findClass RX4 = some m.cls := findClass_of_methodNamed B.named
  have hlocks := B.notSynchronized
  have hl := lv_entry ([.ref h0, .int (nI t), .int (nI v)]) (n := 5) (Nat.le_of_ble_eq_true rfl)
  rw [lg_entry_eq]
  generalize (lg_sl ([.ref h0, .int (nI t), .int (nI v)]) ++ List.replicate (5 - (lg_sl ([.ref h0, .int (nI t), .int (nI v)])).length) Slot.unset).toArray = ls at hl ⊢
  have hl : lv_has ls 5 [(0, .ref h0), (1, .int (nI t)), (2, .int (nI v))] := hl
  obtain ⟨⟨h4, hTd, hNt, hNp, hnK, hK5⟩, ⟨gt, htA, hTi⟩, ⟨gp, hpA, hPk⟩, hinj⟩ := id hR
  have hpk : ∀ q, q < vNp V → zPack L f ca (aP q) (vP V q) (aH q 20) (aS q) (aH q) := fun q h => (hPk q h).2.1
  have hhi : ∀ q, q < vNp V → ∀ w, w ≤ 20 → zHist L f (aH q w) (vB V q w) (vL V q w) := fun q h w hw => ((hPk q h).2.2 w hw).1
  have hti := (hTi t ht).2.2
  have hb0 := zvolb (vT V t).1 (vT V t).2 56 (by omega) (by omega)
  have hv3 : v ≤ (55 + 1 - (vT V t).1) * (vT V t).2 := hv2
  have loop : ∀ (n9 : Nat) (k : Nat) (ls : Array Slot), (vT V t).1 ≤ k → k ≤ 55 → 56 < k + n9 → (k - (vT V t).1) * (vT V t).2 + 1 ≤ v → lv_has ls 5 [(4, .int (nI k)), (3, .ref (aT t)), (0, .ref h0), (1, .int (nI t)), (2, .int (nI v))] → W p l e (headSpec wsX4_yearOf ({ frames := 8, cells := 0, slots := 0, locals := 320 })).room s m ([.ref h0, .int (nI t), .int (nI v)] : List Value).toArray below meth c s.heap [] 0 0 (MQ below (vp_Si (fun r => r = nI ((vT V t).1 + (v - 1) / (vT V t).2))) ([.ref h0, .int (nI t), .int (nI v)] : List Value).toArray s 0 0 (fun _ => False)) (F0 m 25 ls []) := by
    intro n9
    induction n9 with
    | zero =>
      intro k ls hk hk55 hfu hlo hl
      exact absurd hfu (by omega)
    | succ n9 ih =>
      intro k ls hk hk55 hfu hlo hl
      refine lv_iload hx hb dX4_yearOf_25 (lv_at hl 0 rfl) ?_
      refine lv_bipush (v := nI 55) hx hb dX4_yearOf_27 (by decide) ?_
      refine lv_icmp_ge (tgt := 50) hx hb dX4_yearOf_29 (by decide) (fun c_29 => ?_) (fun c_29 => ?_)
      · have e9 : k = 55 := by have := (nI_leI (by omega) (by omega)).mp c_29; omega
        refine lv_iload hx hb dX4_yearOf_50 (lv_at hl 0 rfl) ?_
        exact zri hx hb hr hlocks dX4_yearOf_52 (by rw [zdivq (vT V t).1 (vT V t).2 v k hk hlo (by rw [e9]; exact hv3)])
      · have hk2 : k < 55 := Nat.lt_of_not_le (fun q9 => c_29 ((nI_leI (by omega) (by omega)).mpr q9))
        have hb1 := zvolb (vT V t).1 (vT V t).2 (k + 1) (by omega) (by omega)
        refine lv_aload_n hx hb dX4_yearOf_32 rfl (lv_at hl 1 rfl) ?_
        refine lv_iload hx hb dX4_yearOf_33 (lv_at hl 0 rfl) ?_
        refine lv_iconst (v := nI 1) hx hb dX4_yearOf_35 (by decide) ?_
        refine lv_iadd hx hb dX4_yearOf_36 ?_
        refine zasi (show ((nI k) + (nI 1)) = nI (k + 1) from zinc _) ?_
        refine zci (va_runV (As := [.int (nI (k + 1))]) (rest := []) ⟨hx, hb, hml, hown, hts⟩ (c_firstVolume l D ca sa L f (aT t) _ _ (k + 1) (hTi t ht).2.1 (by omega) (by omega)) (cwV 1 hts gX4_yearOf_X3_firstVolume rfl rfl rfl (by decide +kernel) ⟨Nat.le_of_ble_eq_true rfl, Nat.le_of_ble_eq_true rfl⟩) (zpVp hP hE (ci := 3) rfl (hTi t ht).2.1) rfl rfl hl.1 rfl (lv_room (Nat.le_of_ble_eq_true rfl)) dX4_yearOf_37 ⟨Nat.le_of_ble_eq_true rfl, Nat.le_of_ble_eq_true rfl⟩) ?_
        refine lv_iload_n hx hb dX4_yearOf_40 rfl (lv_at hl 4 rfl) ?_
        refine lv_icmp_gt (tgt := 50) hx hb dX4_yearOf_41 (by decide) (fun c_41 => ?_) (fun c_41 => ?_)
        · refine lv_iload hx hb dX4_yearOf_50 (lv_at hl 0 rfl) ?_
          exact zri hx hb hr hlocks dX4_yearOf_52 (by rw [zdivq (vT V t).1 (vT V t).2 v k hk hlo (by have := (nI_ltI (by omega) (by omega)).mp c_41; omega)])
        · refine lv_iinc (v := nI (k + 1)) (lv' := [(4, .int (nI (k + 1))), (3, .ref (aT t)), (0, .ref h0), (1, .int (nI t)), (2, .int (nI v))]) hx hb dX4_yearOf_44 hl (k := 0) rfl (zinc1 _) (by decide) rfl (fun ls hl => ?_)
          refine lv_goto (tgt := 25) hx hb dX4_yearOf_47 (by decide) ?_
          exact ih (k + 1) ls (by omega) (by omega) (by omega) (Nat.le_of_not_lt (fun q9 => c_41 ((nI_ltI (by omega) (by omega)).mpr q9))) (lv_sub hl [0, 1, 2, 3, 4] rfl)
  refine lv_aload_n hx hb dX4_yearOf_0 rfl (lv_at hl 0 rfl) ?_
  refine lv_iload_n hx hb dX4_yearOf_1 rfl (lv_at hl 1 rfl) ?_
  refine zcq (va_runV (As := [.int (nI t)]) (rest := []) ⟨hx, hb, hml, hown, hts⟩ (c_exTitle l D ca sa L f h0 ta pa aT aP aS aH n K V hR t ht) (cwV 1 hts gX4_yearOf_X4_existingTitle rfl rfl rfl (by decide +kernel) ⟨Nat.le_of_ble_eq_true rfl, Nat.le_of_ble_eq_true rfl⟩) (zpVp hP hE (ci := 4) rfl h4) rfl rfl hl.1 rfl (lv_room (Nat.le_of_ble_eq_true rfl)) dX4_yearOf_2 ⟨Nat.le_of_ble_eq_true rfl, Nat.le_of_ble_eq_true rfl⟩) ?_
  refine W.eq (g2 := F0 m 5 ls [.ref (aT t)]) rfl ?_
  refine lv_astore_n (lv' := [(3, .ref (aT t)), (0, .ref h0), (1, .int (nI t)), (2, .int (nI v))]) hx hb dX4_yearOf_5 rfl hl (by decide) rfl (fun ls hl => ?_)
  refine lv_iload_n hx hb dX4_yearOf_6 rfl (lv_at hl 3 rfl) ?_
  refine lv_iconst (v := nI 1) hx hb dX4_yearOf_7 (by decide) ?_
  refine lv_aload_n hx hb dX4_yearOf_8 rfl (lv_at hl 0 rfl) ?_
  refine lv_bipush (v := nI 56) hx hb dX4_yearOf_9 (by decide) ?_
  refine zci (va_runV (As := [.int (nI 56)]) (rest := [.int (nI 1), .int (nI v)]) ⟨hx, hb, hml, hown, hts⟩ (c_firstVolume l D ca sa L f (aT t) _ _ (56) (hTi t ht).2.1 (by omega) (by omega)) (cwV 1 hts gX4_yearOf_X3_firstVolume rfl rfl rfl (by decide +kernel) ⟨Nat.le_of_ble_eq_true rfl, Nat.le_of_ble_eq_true rfl⟩) (zpVp hP hE (ci := 3) rfl (hTi t ht).2.1) rfl rfl hl.1 rfl (lv_room (Nat.le_of_ble_eq_true rfl)) dX4_yearOf_11 ⟨Nat.le_of_ble_eq_true rfl, Nat.le_of_ble_eq_true rfl⟩) ?_
  refine lv_iconst (v := nI 1) hx hb dX4_yearOf_14 (by decide) ?_
  refine lv_isub hx hb dX4_yearOf_15 ?_
  refine zasi (show ((nI ((56 - (vT V t).1) * (vT V t).2 + 1)) - (nI 1)) = nI ((56 - (vT V t).1) * (vT V t).2) from pk_sub (Nat.le_add_left _ _)) ?_
  refine zcv (va_runS (As := [.int (nI v), .int (nI 1), .int (nI ((56 - (vT V t).1) * (vT V t).2))]) (rest := []) ⟨hx, hb, hml, hown, hts⟩ (c_ckRange l D ca sa _ (v) (1) ((56 - (vT V t).1) * (vT V t).2) (hv1) (hv2) (by omega)) (va_cwS 3 hts gX4_yearOf_X4_checkRange rfl rfl rfl (by decide +kernel) ⟨Nat.le_of_ble_eq_true rfl, Nat.le_of_ble_eq_true rfl⟩) (zpS hP hE) rfl rfl hl.1 rfl (lv_room (Nat.le_of_ble_eq_true rfl)) dX4_yearOf_16 ⟨Nat.le_of_ble_eq_true rfl, Nat.le_of_ble_eq_true rfl⟩) ?_
  refine lv_aload_n hx hb dX4_yearOf_19 rfl (lv_at hl 0 rfl) ?_
  refine zget (own := RX4) (ci := 3) (C := RX3) (T := TX3) (N := 2) hx hb hts (by decide +kernel) hown hE hP (hTi t ht).2.1 rfl 0 (by decide) (hts (.fieldLink RX4 56 "LinkResolver$Title" "firstYear" "I") (by decide +kernel)) rfl dX4_yearOf_20 ?_
  refine lv_istore (lv' := [(4, .int (nI (vT V t).1)), (3, .ref (aT t)), (0, .ref h0), (1, .int (nI t)), (2, .int (nI v))]) hx hb dX4_yearOf_23 hl (by decide) rfl (fun ls hl => ?_)
  exact loop 57 (vT V t).1 ls (Nat.le_refl _) (by omega) (by omega) (by rw [Nat.sub_self, Nat.zero_mul]; omega) (lv_sub hl [0, 1, 2, 3, 4] rfl)

set_option maxHeartbeats 4000000 in
set_option maxRecDepth 100000 in
theorem c_isSub (l : Launch) (D : va_G) (ca : Nat → ClassId) (sa : Nat → Nat) (L : List Nat) (f : Nat → va_E) (h0 ta pa : Nat) (aT aP aS : Nat → Nat) (aH : Nat → Nat → Nat) (n K : Nat) (V : zV) (hR : zRep L f ca h0 ta pa aT aP aS aH n K V) (q : Nat) (hq : q < vNp V) (d : Nat) (hd : d ≤ vTd V) : Met l yX4_isSubscribed wsX4_isSubscribed ({ frames := 8, cells := 0, slots := 0, locals := 320 }) (va_Pc [.ref h0, .int (nI q), .int (nI d)] (zPw D (va_pl L f) ca sa)) (vp_Si (fun r => r = bI (zOn d (vL V q 20)))) 0 0 (fun _ => False) := by
  refine Met.ofW (cc := cX4_isSubscribed) (maxL := 4) (ret := (some .boolean)) (by decide) rfl ?_
  intro p e s m args below meth c s₁ B hml hv
  obtain ⟨rfl, hP, hE⟩ := hv
  have hx := B.exec
  have hb := B.bytes
  have hr := B.returns
  have hts := atoms_spec (ws := wsX4_isSubscribed) B.pre
  have hown : s.vm.findClass RX4 = some m.cls := findClass_of_methodNamed B.named
  have hlocks := B.notSynchronized
  have hl := lv_entry ([.ref h0, .int (nI q), .int (nI d)]) (n := 4) (Nat.le_of_ble_eq_true rfl)
  rw [lg_entry_eq]
  generalize (lg_sl ([.ref h0, .int (nI q), .int (nI d)]) ++ List.replicate (4 - (lg_sl ([.ref h0, .int (nI q), .int (nI d)])).length) Slot.unset).toArray = ls at hl ⊢
  have hl : lv_has ls 4 [(0, .ref h0), (1, .int (nI q)), (2, .int (nI d))] := hl
  obtain ⟨⟨h4, hTd, hNt, hNp, hnK, hK5⟩, ⟨gt, htA, hTi⟩, ⟨gp, hpA, hPk⟩, hinj⟩ := id hR
  have hpk : ∀ q, q < vNp V → zPack L f ca (aP q) (vP V q) (aH q 20) (aS q) (aH q) := fun q h => (hPk q h).2.1
  have hhi : ∀ q, q < vNp V → ∀ w, w ≤ 20 → zHist L f (aH q w) (vB V q w) (vL V q w) := fun q h w hw => ((hPk q h).2.2 w hw).1
  obtain ⟨nx1, hx1, -⟩ := (hhi q hq 20 (by omega)).1
  refine lv_aload_n hx hb dX4_isSubscribed_0 rfl (lv_at hl 0 rfl) ?_
  refine lv_iload_n hx hb dX4_isSubscribed_1 rfl (lv_at hl 1 rfl) ?_
  refine zcq (va_runV (As := [.int (nI q)]) (rest := []) ⟨hx, hb, hml, hown, hts⟩ (c_exPack l D ca sa L f h0 ta pa aT aP aS aH n K V hR q hq) (cwV 1 hts gX4_isSubscribed_X4_existingPack rfl rfl rfl (by decide +kernel) ⟨Nat.le_of_ble_eq_true rfl, Nat.le_of_ble_eq_true rfl⟩) (zpVp hP hE (ci := 4) rfl h4) rfl rfl hl.1 rfl (lv_room (Nat.le_of_ble_eq_true rfl)) dX4_isSubscribed_2 ⟨Nat.le_of_ble_eq_true rfl, Nat.le_of_ble_eq_true rfl⟩) ?_
  refine W.eq (g2 := F0 m 5 ls [.ref (aP q)]) rfl ?_
  refine zget (own := RX4) (ci := 2) (C := RX2) (T := TX2) (N := 6) hx hb hts (by decide +kernel) hown hE hP (hpk q hq).1.1 rfl 4 (by decide) (hts (.fieldLink RX4 68 "LinkResolver$Pack" "subscription" "LLinkResolver$History;") (by decide +kernel)) rfl dX4_isSubscribed_5 ?_
  refine lv_astore_n (lv' := [(3, .ref (aH q 20)), (0, .ref h0), (1, .int (nI q)), (2, .int (nI d))]) hx hb dX4_isSubscribed_8 rfl hl (by decide) rfl (fun ls hl => ?_)
  refine lv_iload_n hx hb dX4_isSubscribed_9 rfl (lv_at hl 3 rfl) ?_
  refine lv_iconst (v := nI 0) hx hb dX4_isSubscribed_10 (by decide) ?_
  refine lv_aload_n hx hb dX4_isSubscribed_11 rfl (lv_at hl 1 rfl) ?_
  refine zget (own := RX4) (ci := 4) (C := RX4) (T := TX4) (N := 6) hx hb hts (by decide +kernel) hown hE hP h4 rfl 5 (by decide) (hts (.fieldLink RX4 31 "LinkResolver" "currentDay" "I") (by decide +kernel)) rfl dX4_isSubscribed_12 ?_
  refine zcv (va_runS (As := [.int (nI d), .int (nI 0), .int (nI (vTd V))]) (rest := []) ⟨hx, hb, hml, hown, hts⟩ (c_ckRange l D ca sa _ (d) (0) (vTd V) (Nat.zero_le _) (hd) (by omega)) (va_cwS 3 hts gX4_isSubscribed_X4_checkRange rfl rfl rfl (by decide +kernel) ⟨Nat.le_of_ble_eq_true rfl, Nat.le_of_ble_eq_true rfl⟩) (zpS hP hE) rfl rfl hl.1 rfl (lv_room (Nat.le_of_ble_eq_true rfl)) dX4_isSubscribed_15 ⟨Nat.le_of_ble_eq_true rfl, Nat.le_of_ble_eq_true rfl⟩) ?_
  refine lv_aload_n hx hb dX4_isSubscribed_18 rfl (lv_at hl 0 rfl) ?_
  refine lv_iload_n hx hb dX4_isSubscribed_19 rfl (lv_at hl 3 rfl) ?_
  refine zci (va_runV (As := [.int (nI d)]) (rest := []) ⟨hx, hb, hml, hown, hts⟩ (c_isOnAt l D ca sa L f (aH q 20) d _ (vL V q 20) (by omega) (hhi q hq 20 (by omega))) (cwV 1 hts gX4_isSubscribed_X1_isOnAt rfl rfl rfl (by decide +kernel) ⟨Nat.le_of_ble_eq_true rfl, Nat.le_of_ble_eq_true rfl⟩) (zpVp hP hE (ci := 1) rfl hx1) rfl rfl hl.1 rfl (lv_room (Nat.le_of_ble_eq_true rfl)) dX4_isSubscribed_20 ⟨Nat.le_of_ble_eq_true rfl, Nat.le_of_ble_eq_true rfl⟩) ?_
  exact zrz hx hb hr hlocks dX4_isSubscribed_23 (bI_nar _) (rfl)

set_option maxHeartbeats 4000000 in
set_option maxRecDepth 100000 in
theorem c_isIn (l : Launch) (D : va_G) (ca : Nat → ClassId) (sa : Nat → Nat) (L : List Nat) (f : Nat → va_E) (h0 ta pa : Nat) (aT aP aS : Nat → Nat) (aH : Nat → Nat → Nat) (n K : Nat) (V : zV) (hR : zRep L f ca h0 ta pa aT aP aS aH n K V) (q : Nat) (hq : q < vNp V) (t : Nat) (ht : t < vNt V) (d : Nat) (hd : d ≤ vTd V) : Met l yX4_isIn wsX4_isIn ({ frames := 8, cells := 0, slots := 0, locals := 320 }) (va_Pc [.ref h0, .int (nI q), .int (nI t), .int (nI d)] (zPw D (va_pl L f) ca sa)) (vp_Si (fun r => r = bI (zOn d (vL V q t)))) 0 0 (fun _ => False) := by
  refine Met.ofW (cc := cX4_isIn) (maxL := 5) (ret := (some .boolean)) (by decide) rfl ?_
  intro p e s m args below meth c s₁ B hml hv
  obtain ⟨rfl, hP, hE⟩ := hv
  have hx := B.exec
  have hb := B.bytes
  have hr := B.returns
  have hts := atoms_spec (ws := wsX4_isIn) B.pre
  have hown : s.vm.findClass RX4 = some m.cls := findClass_of_methodNamed B.named
  have hlocks := B.notSynchronized
  have hl := lv_entry ([.ref h0, .int (nI q), .int (nI t), .int (nI d)]) (n := 5) (Nat.le_of_ble_eq_true rfl)
  rw [lg_entry_eq]
  generalize (lg_sl ([.ref h0, .int (nI q), .int (nI t), .int (nI d)]) ++ List.replicate (5 - (lg_sl ([.ref h0, .int (nI q), .int (nI t), .int (nI d)])).length) Slot.unset).toArray = ls at hl ⊢
  have hl : lv_has ls 5 [(0, .ref h0), (1, .int (nI q)), (2, .int (nI t)), (3, .int (nI d))] := hl
  obtain ⟨⟨h4, hTd, hNt, hNp, hnK, hK5⟩, ⟨gt, htA, hTi⟩, ⟨gp, hpA, hPk⟩, hinj⟩ := id hR
  have hpk : ∀ q, q < vNp V → zPack L f ca (aP q) (vP V q) (aH q 20) (aS q) (aH q) := fun q h => (hPk q h).2.1
  have hhi : ∀ q, q < vNp V → ∀ w, w ≤ 20 → zHist L f (aH q w) (vB V q w) (vL V q w) := fun q h w hw => ((hPk q h).2.2 w hw).1
  obtain ⟨nx1, hx1, -⟩ := (hhi q hq t (by omega)).1
  refine lv_aload_n hx hb dX4_isIn_0 rfl (lv_at hl 0 rfl) ?_
  refine lv_iload_n hx hb dX4_isIn_1 rfl (lv_at hl 1 rfl) ?_
  refine lv_iload_n hx hb dX4_isIn_2 rfl (lv_at hl 2 rfl) ?_
  refine zcq (va_runV (As := [.int (nI q), .int (nI t)]) (rest := []) ⟨hx, hb, hml, hown, hts⟩ (c_exStay l D ca sa L f h0 ta pa aT aP aS aH n K V hR q hq t ht) (cwV 2 hts gX4_isIn_X4_existingStay rfl rfl rfl (by decide +kernel) ⟨Nat.le_of_ble_eq_true rfl, Nat.le_of_ble_eq_true rfl⟩) (zpVp hP hE (ci := 4) rfl h4) rfl rfl hl.1 rfl (lv_room (Nat.le_of_ble_eq_true rfl)) dX4_isIn_3 ⟨Nat.le_of_ble_eq_true rfl, Nat.le_of_ble_eq_true rfl⟩) ?_
  refine W.eq (g2 := F0 m 6 ls [.ref (aH q t)]) rfl ?_
  refine lv_astore (lv' := [(4, .ref (aH q t)), (0, .ref h0), (1, .int (nI q)), (2, .int (nI t)), (3, .int (nI d))]) hx hb dX4_isIn_6 hl (by decide) rfl (fun ls hl => ?_)
  refine lv_iload_n hx hb dX4_isIn_8 rfl (lv_at hl 4 rfl) ?_
  refine lv_iconst (v := nI 0) hx hb dX4_isIn_9 (by decide) ?_
  refine lv_aload_n hx hb dX4_isIn_10 rfl (lv_at hl 1 rfl) ?_
  refine zget (own := RX4) (ci := 4) (C := RX4) (T := TX4) (N := 6) hx hb hts (by decide +kernel) hown hE hP h4 rfl 5 (by decide) (hts (.fieldLink RX4 31 "LinkResolver" "currentDay" "I") (by decide +kernel)) rfl dX4_isIn_11 ?_
  refine zcv (va_runS (As := [.int (nI d), .int (nI 0), .int (nI (vTd V))]) (rest := []) ⟨hx, hb, hml, hown, hts⟩ (c_ckRange l D ca sa _ (d) (0) (vTd V) (Nat.zero_le _) (hd) (by omega)) (va_cwS 3 hts gX4_isIn_X4_checkRange rfl rfl rfl (by decide +kernel) ⟨Nat.le_of_ble_eq_true rfl, Nat.le_of_ble_eq_true rfl⟩) (zpS hP hE) rfl rfl hl.1 rfl (lv_room (Nat.le_of_ble_eq_true rfl)) dX4_isIn_14 ⟨Nat.le_of_ble_eq_true rfl, Nat.le_of_ble_eq_true rfl⟩) ?_
  refine lv_aload hx hb dX4_isIn_17 (lv_at hl 0 rfl) ?_
  refine lv_iload_n hx hb dX4_isIn_19 rfl (lv_at hl 4 rfl) ?_
  refine zci (va_runV (As := [.int (nI d)]) (rest := []) ⟨hx, hb, hml, hown, hts⟩ (c_isOnAt l D ca sa L f (aH q t) d _ (vL V q t) (by omega) (hhi q hq t (by omega))) (cwV 1 hts gX4_isIn_X1_isOnAt rfl rfl rfl (by decide +kernel) ⟨Nat.le_of_ble_eq_true rfl, Nat.le_of_ble_eq_true rfl⟩) (zpVp hP hE (ci := 1) rfl hx1) rfl rfl hl.1 rfl (lv_room (Nat.le_of_ble_eq_true rfl)) dX4_isIn_20 ⟨Nat.le_of_ble_eq_true rfl, Nat.le_of_ble_eq_true rfl⟩) ?_
  exact zrz hx hb hr hlocks dX4_isIn_23 (bI_nar _) (rfl)

set_option maxHeartbeats 4000000 in
set_option maxRecDepth 100000 in
theorem c_covers (l : Launch) (D : va_G) (ca : Nat → ClassId) (sa : Nat → Nat) (L : List Nat) (f : Nat → va_E) (h0 ta pa : Nat) (aT aP aS : Nat → Nat) (aH : Nat → Nat → Nat) (n K : Nat) (V : zV) (hR : zRep L f ca h0 ta pa aT aP aS aH n K V) (q : Nat) (hq : q < vNp V) (t : Nat) (ht : t < vNt V) (y g d : Nat) (hy : y ≤ 55) (hg : g ≤ 3) (hd : d ≤ vTd V) : Met l yX4_covers wsX4_covers ({ frames := 8, cells := 0, slots := 0, locals := 320 }) (va_Pc [.ref h0, .int (nI q), .int (nI t), .int (nI y), .int (nI g), .int (nI d)] (zPw D (va_pl L f) ca sa)) (vp_Si (fun r => r = bI (cWy V q t y g d))) 0 0 (fun _ => False) := by
  refine Met.ofW (cc := cX4_covers) (maxL := 7) (ret := (some .boolean)) (by decide) rfl ?_
  intro p e s m args below meth c s₁ B hml hv
  obtain ⟨rfl, hP, hE⟩ := hv
  have hx := B.exec
  have hb := B.bytes
  have hr := B.returns
  have hts := atoms_spec (ws := wsX4_covers) B.pre
  have hown : s.vm.findClass RX4 = some m.cls := findClass_of_methodNamed B.named
  have hlocks := B.notSynchronized
  have hl := lv_entry ([.ref h0, .int (nI q), .int (nI t), .int (nI y), .int (nI g), .int (nI d)]) (n := 7) (Nat.le_of_ble_eq_true rfl)
  rw [lg_entry_eq]
  generalize (lg_sl ([.ref h0, .int (nI q), .int (nI t), .int (nI y), .int (nI g), .int (nI d)]) ++ List.replicate (7 - (lg_sl ([.ref h0, .int (nI q), .int (nI t), .int (nI y), .int (nI g), .int (nI d)])).length) Slot.unset).toArray = ls at hl ⊢
  have hl : lv_has ls 7 [(0, .ref h0), (1, .int (nI q)), (2, .int (nI t)), (3, .int (nI y)), (4, .int (nI g)), (5, .int (nI d))] := hl
  obtain ⟨⟨h4, hTd, hNt, hNp, hnK, hK5⟩, ⟨gt, htA, hTi⟩, ⟨gp, hpA, hPk⟩, hinj⟩ := id hR
  have hpk : ∀ q, q < vNp V → zPack L f ca (aP q) (vP V q) (aH q 20) (aS q) (aH q) := fun q h => (hPk q h).2.1
  have hhi : ∀ q, q < vNp V → ∀ w, w ≤ 20 → zHist L f (aH q w) (vB V q w) (vL V q w) := fun q h w hw => ((hPk q h).2.2 w hw).1
  refine lv_aload_n hx hb dX4_covers_0 rfl (lv_at hl 0 rfl) ?_
  refine lv_iload_n hx hb dX4_covers_1 rfl (lv_at hl 1 rfl) ?_
  refine zcq (va_runV (As := [.int (nI q)]) (rest := []) ⟨hx, hb, hml, hown, hts⟩ (c_exPack l D ca sa L f h0 ta pa aT aP aS aH n K V hR q hq) (cwV 1 hts gX4_covers_X4_existingPack rfl rfl rfl (by decide +kernel) ⟨Nat.le_of_ble_eq_true rfl, Nat.le_of_ble_eq_true rfl⟩) (zpVp hP hE (ci := 4) rfl h4) rfl rfl hl.1 rfl (lv_room (Nat.le_of_ble_eq_true rfl)) dX4_covers_2 ⟨Nat.le_of_ble_eq_true rfl, Nat.le_of_ble_eq_true rfl⟩) ?_
  refine W.eq (g2 := F0 m 5 ls [.ref (aP q)]) rfl ?_
  refine lv_astore (lv' := [(6, .ref (aP q)), (0, .ref h0), (1, .int (nI q)), (2, .int (nI t)), (3, .int (nI y)), (4, .int (nI g)), (5, .int (nI d))]) hx hb dX4_covers_5 hl (by decide) rfl (fun ls hl => ?_)
  refine lv_aload_n hx hb dX4_covers_7 rfl (lv_at hl 1 rfl) ?_
  refine lv_iload_n hx hb dX4_covers_8 rfl (lv_at hl 3 rfl) ?_
  refine zcq (va_runV (As := [.int (nI t)]) (rest := []) ⟨hx, hb, hml, hown, hts⟩ (c_exTitle l D ca sa L f h0 ta pa aT aP aS aH n K V hR t ht) (cwV 1 hts gX4_covers_X4_existingTitle rfl rfl rfl (by decide +kernel) ⟨Nat.le_of_ble_eq_true rfl, Nat.le_of_ble_eq_true rfl⟩) (zpVp hP hE (ci := 4) rfl h4) rfl rfl hl.1 rfl (lv_room (Nat.le_of_ble_eq_true rfl)) dX4_covers_9 ⟨Nat.le_of_ble_eq_true rfl, Nat.le_of_ble_eq_true rfl⟩) ?_
  refine W.eq (g2 := F0 m 12 ls [.ref (aT t)]) rfl ?_
  refine lv_pop hx hb dX4_covers_12 rfl ?_
  refine lv_aload_n hx hb dX4_covers_13 rfl (lv_at hl 1 rfl) ?_
  refine lv_iload_n hx hb dX4_covers_14 rfl (lv_at hl 4 rfl) ?_
  refine lv_iload hx hb dX4_covers_15 (lv_at hl 5 rfl) ?_
  refine lv_iload hx hb dX4_covers_17 (lv_at hl 6 rfl) ?_
  refine zcv (va_runV (As := [.int (nI y), .int (nI g), .int (nI d)]) (rest := []) ⟨hx, hb, hml, hown, hts⟩ (c_ckArt l D ca sa L f h0 ta pa aT aP aS aH n K V hR y g d hy hg hd) (cwV 3 hts gX4_covers_X4_checkArticle rfl rfl rfl (by decide +kernel) ⟨Nat.le_of_ble_eq_true rfl, Nat.le_of_ble_eq_true rfl⟩) (zpVp hP hE (ci := 4) rfl h4) rfl rfl hl.1 rfl (lv_room (Nat.le_of_ble_eq_true rfl)) dX4_covers_19 ⟨Nat.le_of_ble_eq_true rfl, Nat.le_of_ble_eq_true rfl⟩) ?_
  refine lv_aload hx hb dX4_covers_22 (lv_at hl 0 rfl) ?_
  refine lv_iload_n hx hb dX4_covers_24 rfl (lv_at hl 3 rfl) ?_
  refine lv_iload_n hx hb dX4_covers_25 rfl (lv_at hl 4 rfl) ?_
  refine lv_iload hx hb dX4_covers_26 (lv_at hl 5 rfl) ?_
  refine lv_iload hx hb dX4_covers_28 (lv_at hl 6 rfl) ?_
  refine zci (va_runS (As := [.ref (aP q), .int (nI t), .int (nI y), .int (nI g), .int (nI d)]) (rest := []) ⟨hx, hb, hml, hown, hts⟩ (c_isWay l D ca sa L f (aP q) (vP V q) (aH q 20) (aS q) (aH q) (hpk q hq) t (vB V q t) (by omega) (vL V q t) (hhi q hq t (by omega)) (vB V q 20) (vL V q 20) (hhi q hq 20 (by omega)) d (by omega) y g hy hg) (va_cwS 5 hts gX4_covers_X4_isWay rfl rfl rfl (by decide +kernel) ⟨Nat.le_of_ble_eq_true rfl, Nat.le_of_ble_eq_true rfl⟩) (zpS hP hE) rfl rfl hl.1 rfl (lv_room (Nat.le_of_ble_eq_true rfl)) dX4_covers_30 ⟨Nat.le_of_ble_eq_true rfl, Nat.le_of_ble_eq_true rfl⟩) ?_
  exact zrz hx hb hr hlocks dX4_covers_33 (bI_nar _) (rfl)

set_option maxHeartbeats 4000000 in
set_option maxRecDepth 100000 in
theorem c_ways (l : Launch) (D : va_G) (ca : Nat → ClassId) (sa : Nat → Nat) (L : List Nat) (f : Nat → va_E) (h0 ta pa : Nat) (aT aP aS : Nat → Nat) (aH : Nat → Nat → Nat) (n K : Nat) (V : zV) (hR : zRep L f ca h0 ta pa aT aP aS aH n K V) (t : Nat) (ht : t < vNt V) (y g d : Nat) (hy : y ≤ 55) (hg : g ≤ 3) (hd : d ≤ vTd V) : Met l yX4_ways wsX4_ways ({ frames := 8, cells := 0, slots := 0, locals := 320 }) (va_Pc [.ref h0, .int (nI t), .int (nI y), .int (nI g), .int (nI d)] (zPw D (va_pl L f) ca sa)) (vp_Si (fun r => r = swI (wTo V t y g d (vNp V)))) 0 0 (fun _ => False) := by
  refine Met.ofW (cc := cX4_ways) (maxL := 5) (ret := (some .int)) (by decide) rfl ?_
  intro p e s m args below meth c s₁ B hml hv
  obtain ⟨rfl, hP, hE⟩ := hv
  have hx := B.exec
  have hb := B.bytes
  have hr := B.returns
  have hts := atoms_spec (ws := wsX4_ways) B.pre
  have hown : s.vm.findClass RX4 = some m.cls := findClass_of_methodNamed B.named
  have hlocks := B.notSynchronized
  have hl := lv_entry ([.ref h0, .int (nI t), .int (nI y), .int (nI g), .int (nI d)]) (n := 5) (Nat.le_of_ble_eq_true rfl)
  rw [lg_entry_eq]
  generalize (lg_sl ([.ref h0, .int (nI t), .int (nI y), .int (nI g), .int (nI d)]) ++ List.replicate (5 - (lg_sl ([.ref h0, .int (nI t), .int (nI y), .int (nI g), .int (nI d)])).length) Slot.unset).toArray = ls at hl ⊢
  have hl : lv_has ls 5 [(0, .ref h0), (1, .int (nI t)), (2, .int (nI y)), (3, .int (nI g)), (4, .int (nI d))] := hl
  obtain ⟨⟨h4, hTd, hNt, hNp, hnK, hK5⟩, ⟨gt, htA, hTi⟩, ⟨gp, hpA, hPk⟩, hinj⟩ := id hR
  have hpk : ∀ q, q < vNp V → zPack L f ca (aP q) (vP V q) (aH q 20) (aS q) (aH q) := fun q h => (hPk q h).2.1
  have hhi : ∀ q, q < vNp V → ∀ w, w ≤ 20 → zHist L f (aH q w) (vB V q w) (vL V q w) := fun q h w hw => ((hPk q h).2.2 w hw).1
  refine lv_aload_n hx hb dX4_ways_0 rfl (lv_at hl 0 rfl) ?_
  refine lv_iload_n hx hb dX4_ways_1 rfl (lv_at hl 1 rfl) ?_
  refine zcq (va_runV (As := [.int (nI t)]) (rest := []) ⟨hx, hb, hml, hown, hts⟩ (c_exTitle l D ca sa L f h0 ta pa aT aP aS aH n K V hR t ht) (cwV 1 hts gX4_ways_X4_existingTitle rfl rfl rfl (by decide +kernel) ⟨Nat.le_of_ble_eq_true rfl, Nat.le_of_ble_eq_true rfl⟩) (zpVp hP hE (ci := 4) rfl h4) rfl rfl hl.1 rfl (lv_room (Nat.le_of_ble_eq_true rfl)) dX4_ways_2 ⟨Nat.le_of_ble_eq_true rfl, Nat.le_of_ble_eq_true rfl⟩) ?_
  refine W.eq (g2 := F0 m 5 ls [.ref (aT t)]) rfl ?_
  refine lv_pop hx hb dX4_ways_5 rfl ?_
  refine lv_aload_n hx hb dX4_ways_6 rfl (lv_at hl 0 rfl) ?_
  refine lv_iload_n hx hb dX4_ways_7 rfl (lv_at hl 2 rfl) ?_
  refine lv_iload_n hx hb dX4_ways_8 rfl (lv_at hl 3 rfl) ?_
  refine lv_iload hx hb dX4_ways_9 (lv_at hl 4 rfl) ?_
  refine zcv (va_runV (As := [.int (nI y), .int (nI g), .int (nI d)]) (rest := []) ⟨hx, hb, hml, hown, hts⟩ (c_ckArt l D ca sa L f h0 ta pa aT aP aS aH n K V hR y g d hy hg hd) (cwV 3 hts gX4_ways_X4_checkArticle rfl rfl rfl (by decide +kernel) ⟨Nat.le_of_ble_eq_true rfl, Nat.le_of_ble_eq_true rfl⟩) (zpVp hP hE (ci := 4) rfl h4) rfl rfl hl.1 rfl (lv_room (Nat.le_of_ble_eq_true rfl)) dX4_ways_11 ⟨Nat.le_of_ble_eq_true rfl, Nat.le_of_ble_eq_true rfl⟩) ?_
  refine lv_aload_n hx hb dX4_ways_14 rfl (lv_at hl 0 rfl) ?_
  refine lv_iload_n hx hb dX4_ways_15 rfl (lv_at hl 1 rfl) ?_
  refine lv_iload_n hx hb dX4_ways_16 rfl (lv_at hl 2 rfl) ?_
  refine lv_iload_n hx hb dX4_ways_17 rfl (lv_at hl 3 rfl) ?_
  refine lv_iload hx hb dX4_ways_18 (lv_at hl 4 rfl) ?_
  refine zci (va_runV (As := [.int (nI t), .int (nI y), .int (nI g), .int (nI d)]) (rest := []) ⟨hx, hb, hml, hown, hts⟩ (c_waysTo l D ca sa L f h0 ta pa aT aP aS aH n K V hR t ht y g d hy hg (by omega)) (cwV 4 hts gX4_ways_X4_waysTo rfl rfl rfl (by decide +kernel) ⟨Nat.le_of_ble_eq_true rfl, Nat.le_of_ble_eq_true rfl⟩) (zpVp hP hE (ci := 4) rfl h4) rfl rfl hl.1 rfl (lv_room (Nat.le_of_ble_eq_true rfl)) dX4_ways_20 ⟨Nat.le_of_ble_eq_true rfl, Nat.le_of_ble_eq_true rfl⟩) ?_
  refine zci (va_runS (As := [.int (wTo V t y g d (vNp V))]) (rest := []) ⟨hx, hb, hml, hown, hts⟩ (c_bitI l D ca sa _ _) (va_cwS 1 hts gX4_ways_J6_bitCount_0f7a4 rfl rfl rfl (by decide +kernel) ⟨Nat.le_of_ble_eq_true rfl, Nat.le_of_ble_eq_true rfl⟩) (zpS hP hE) rfl rfl hl.1 rfl (lv_room (Nat.le_of_ble_eq_true rfl)) dX4_ways_23 ⟨Nat.le_of_ble_eq_true rfl, Nat.le_of_ble_eq_true rfl⟩) ?_
  exact zri hx hb hr hlocks dX4_ways_26 (rfl)

set_option maxHeartbeats 4000000 in
set_option maxRecDepth 100000 in
theorem c_wayAt (l : Launch) (D : va_G) (ca : Nat → ClassId) (sa : Nat → Nat) (L : List Nat) (f : Nat → va_E) (h0 ta pa : Nat) (aT aP aS : Nat → Nat) (aH : Nat → Nat → Nat) (n K : Nat) (V : zV) (hR : zRep L f ca h0 ta pa aT aP aS aH n K V) (pl : Int32) (t : Nat) (ht : t < vNt V) (y g d : Nat) (hy : y ≤ 55) (hg : g ≤ 3) (hd : d ≤ vTd V) (q : Nat) (hq : q < vNp V) (hq1 : aM (wTo V t y g d (vNp V)) q = true) (hq2 : nI (cPla V (wTo V t y g d (vNp V)) q t (vNp V)) = pl) (hqn : ∀ k, k < q → aM (wTo V t y g d (vNp V)) k = true → ¬ nI (cPla V (wTo V t y g d (vNp V)) k t (vNp V)) = pl) : Met l yX4_wayAt wsX4_wayAt ({ frames := 8, cells := 0, slots := 0, locals := 320 }) (va_Pc [.ref h0, .int pl, .int (nI t), .int (nI y), .int (nI g), .int (nI d)] (zPw D (va_pl L f) ca sa)) (vp_Si (fun r => r = nI q)) 0 0 (fun _ => False) := by
  refine Met.ofW (cc := cX4_wayAt) (maxL := 8) (ret := (some .int)) (by decide) rfl ?_
  intro p e s m args below meth c s₁ B hml hv
  obtain ⟨rfl, hP, hE⟩ := hv
  have hx := B.exec
  have hb := B.bytes
  have hr := B.returns
  have hts := atoms_spec (ws := wsX4_wayAt) B.pre
  have hown : s.vm.findClass RX4 = some m.cls := findClass_of_methodNamed B.named
  have hlocks := B.notSynchronized
  have hl := lv_entry ([.ref h0, .int pl, .int (nI t), .int (nI y), .int (nI g), .int (nI d)]) (n := 8) (Nat.le_of_ble_eq_true rfl)
  rw [lg_entry_eq]
  generalize (lg_sl ([.ref h0, .int pl, .int (nI t), .int (nI y), .int (nI g), .int (nI d)]) ++ List.replicate (8 - (lg_sl ([.ref h0, .int pl, .int (nI t), .int (nI y), .int (nI g), .int (nI d)])).length) Slot.unset).toArray = ls at hl ⊢
  have hl : lv_has ls 8 [(0, .ref h0), (1, .int pl), (2, .int (nI t)), (3, .int (nI y)), (4, .int (nI g)), (5, .int (nI d))] := hl
  obtain ⟨⟨h4, hTd, hNt, hNp, hnK, hK5⟩, ⟨gt, htA, hTi⟩, ⟨gp, hpA, hPk⟩, hinj⟩ := id hR
  have hpk : ∀ q, q < vNp V → zPack L f ca (aP q) (vP V q) (aH q 20) (aS q) (aH q) := fun q h => (hPk q h).2.1
  have hhi : ∀ q, q < vNp V → ∀ w, w ≤ 20 → zHist L f (aH q w) (vB V q w) (vL V q w) := fun q h w hw => ((hPk q h).2.2 w hw).1
  have loop : ∀ (n9 : Nat) (k : Nat) (ls : Array Slot), k ≤ q → q < k + n9 → lv_has ls 8 [(7, .int (nI k)), (6, .int (wTo V t y g d (vNp V))), (0, .ref h0), (1, .int pl), (2, .int (nI t)), (3, .int (nI y)), (4, .int (nI g)), (5, .int (nI d))] → W p l e (headSpec wsX4_wayAt ({ frames := 8, cells := 0, slots := 0, locals := 320 })).room s m ([.ref h0, .int pl, .int (nI t), .int (nI y), .int (nI g), .int (nI d)] : List Value).toArray below meth c s.heap [] 0 0 (MQ below (vp_Si (fun r => r = nI q)) ([.ref h0, .int pl, .int (nI t), .int (nI y), .int (nI g), .int (nI d)] : List Value).toArray s 0 0 (fun _ => False)) (F0 m 30 ls []) := by
    intro n9
    induction n9 with
    | zero =>
      intro k ls hk hfu hl
      exact absurd hfu (by omega)
    | succ n9 ih =>
      intro k ls hk hfu hl
      refine lv_iload hx hb dX4_wayAt_30 (lv_at hl 0 rfl) ?_
      refine lv_aload_n hx hb dX4_wayAt_32 rfl (lv_at hl 2 rfl) ?_
      refine zget (own := RX4) (ci := 4) (C := RX4) (T := TX4) (N := 6) hx hb hts (by decide +kernel) hown hE hP h4 rfl 3 (by decide) (hts (.fieldLink RX4 25 "LinkResolver" "packCount" "I") (by decide +kernel)) rfl dX4_wayAt_33 ?_
      refine lv_icmp_ge (tgt := 71) hx hb dX4_wayAt_36 (by decide) (fun c_36 => ?_) (fun c_36 => ?_)
      · exact absurd ((nI_leI (by omega) (by omega)).mp c_36) (by omega)
      · refine lv_iload hx hb dX4_wayAt_39 (lv_at hl 1 rfl) ?_
        refine lv_iload hx hb dX4_wayAt_41 (lv_at hl 0 rfl) ?_
        refine zci (va_runS (As := [.int (wTo V t y g d (vNp V)), .int (nI k)]) (rest := []) ⟨hx, hb, hml, hown, hts⟩ (c_isAmong l D ca sa _ (wTo V t y g d (vNp V)) k) (va_cwS 2 hts gX4_wayAt_X4_isAmong rfl rfl rfl (by decide +kernel) ⟨Nat.le_of_ble_eq_true rfl, Nat.le_of_ble_eq_true rfl⟩) (zpS hP hE) rfl rfl hl.1 rfl (lv_room (Nat.le_of_ble_eq_true rfl)) dX4_wayAt_43 ⟨Nat.le_of_ble_eq_true rfl, Nat.le_of_ble_eq_true rfl⟩) ?_
        refine lv_if_eq (tgt := 65) hx hb dX4_wayAt_46 (by decide) (fun c_46 => ?_) (fun c_46 => ?_)
        · refine lv_iinc (v := nI (k + 1)) (lv' := [(7, .int (nI (k + 1))), (6, .int (wTo V t y g d (vNp V))), (0, .ref h0), (1, .int pl), (2, .int (nI t)), (3, .int (nI y)), (4, .int (nI g)), (5, .int (nI d))]) hx hb dX4_wayAt_65 hl (k := 0) rfl (zinc1 _) (by decide) rfl (fun ls hl => ?_)
          refine lv_goto (tgt := 30) hx hb dX4_wayAt_68 (by decide) ?_
          refine ih (k + 1) ls ?_ (by omega) (lv_sub hl [0, 1, 2, 3, 4, 5, 6, 7] rfl)
          rcases Nat.lt_or_ge k q with z | z
          · exact z
          · obtain rfl : k = q := by omega
            exact absurd hq1 (by rw [bI_eq0 c_46]; exact Bool.false_ne_true)
        · refine lv_aload_n hx hb dX4_wayAt_49 rfl (lv_at hl 2 rfl) ?_
          refine lv_iload hx hb dX4_wayAt_50 (lv_at hl 1 rfl) ?_
          refine lv_iload hx hb dX4_wayAt_52 (lv_at hl 0 rfl) ?_
          refine lv_iload_n hx hb dX4_wayAt_54 rfl (lv_at hl 4 rfl) ?_
          refine zci (va_runV (As := [.int (wTo V t y g d (vNp V)), .int (nI k), .int (nI t)]) (rest := []) ⟨hx, hb, hml, hown, hts⟩ (c_placeAmong l D ca sa L f h0 ta pa aT aP aS aH n K V hR (wTo V t y g d (vNp V)) k (by omega) t ht) (cwV 3 hts gX4_wayAt_X4_placeAmong rfl rfl rfl (by decide +kernel) ⟨Nat.le_of_ble_eq_true rfl, Nat.le_of_ble_eq_true rfl⟩) (zpVp hP hE (ci := 4) rfl h4) rfl rfl hl.1 rfl (lv_room (Nat.le_of_ble_eq_true rfl)) dX4_wayAt_55 ⟨Nat.le_of_ble_eq_true rfl, Nat.le_of_ble_eq_true rfl⟩) ?_
          refine lv_iload_n hx hb dX4_wayAt_58 rfl (lv_at hl 3 rfl) ?_
          refine lv_icmp_ne (tgt := 65) hx hb dX4_wayAt_59 (by decide) (fun c_59 => ?_) (fun c_59 => ?_)
          · refine lv_iinc (v := nI (k + 1)) (lv' := [(7, .int (nI (k + 1))), (6, .int (wTo V t y g d (vNp V))), (0, .ref h0), (1, .int pl), (2, .int (nI t)), (3, .int (nI y)), (4, .int (nI g)), (5, .int (nI d))]) hx hb dX4_wayAt_65 hl (k := 0) rfl (zinc1 _) (by decide) rfl (fun ls hl => ?_)
            refine lv_goto (tgt := 30) hx hb dX4_wayAt_68 (by decide) ?_
            refine ih (k + 1) ls ?_ (by omega) (lv_sub hl [0, 1, 2, 3, 4, 5, 6, 7] rfl)
            rcases Nat.lt_or_ge k q with z | z
            · exact z
            · obtain rfl : k = q := by omega
              exact absurd hq2 c_59
          · refine lv_iload hx hb dX4_wayAt_62 (lv_at hl 0 rfl) ?_
            exact zri hx hb hr hlocks dX4_wayAt_64 (by
    rcases Nat.lt_or_ge k q with z | z
    · exact absurd c_59 (hqn k z (bI_ne0 c_46))
    · rw [show k = q by omega])
  refine lv_aload_n hx hb dX4_wayAt_0 rfl (lv_at hl 0 rfl) ?_
  refine lv_iload_n hx hb dX4_wayAt_1 rfl (lv_at hl 3 rfl) ?_
  refine lv_iload hx hb dX4_wayAt_2 (lv_at hl 4 rfl) ?_
  refine lv_iload hx hb dX4_wayAt_4 (lv_at hl 5 rfl) ?_
  refine zcv (va_runV (As := [.int (nI y), .int (nI g), .int (nI d)]) (rest := []) ⟨hx, hb, hml, hown, hts⟩ (c_ckArt l D ca sa L f h0 ta pa aT aP aS aH n K V hR y g d hy hg hd) (cwV 3 hts gX4_wayAt_X4_checkArticle rfl rfl rfl (by decide +kernel) ⟨Nat.le_of_ble_eq_true rfl, Nat.le_of_ble_eq_true rfl⟩) (zpVp hP hE (ci := 4) rfl h4) rfl rfl hl.1 rfl (lv_room (Nat.le_of_ble_eq_true rfl)) dX4_wayAt_6 ⟨Nat.le_of_ble_eq_true rfl, Nat.le_of_ble_eq_true rfl⟩) ?_
  refine lv_aload_n hx hb dX4_wayAt_9 rfl (lv_at hl 0 rfl) ?_
  refine lv_iload_n hx hb dX4_wayAt_10 rfl (lv_at hl 2 rfl) ?_
  refine zcq (va_runV (As := [.int (nI t)]) (rest := []) ⟨hx, hb, hml, hown, hts⟩ (c_exTitle l D ca sa L f h0 ta pa aT aP aS aH n K V hR t ht) (cwV 1 hts gX4_wayAt_X4_existingTitle rfl rfl rfl (by decide +kernel) ⟨Nat.le_of_ble_eq_true rfl, Nat.le_of_ble_eq_true rfl⟩) (zpVp hP hE (ci := 4) rfl h4) rfl rfl hl.1 rfl (lv_room (Nat.le_of_ble_eq_true rfl)) dX4_wayAt_11 ⟨Nat.le_of_ble_eq_true rfl, Nat.le_of_ble_eq_true rfl⟩) ?_
  refine W.eq (g2 := F0 m 14 ls [.ref (aT t)]) rfl ?_
  refine lv_pop hx hb dX4_wayAt_14 rfl ?_
  refine lv_aload_n hx hb dX4_wayAt_15 rfl (lv_at hl 0 rfl) ?_
  refine lv_iload_n hx hb dX4_wayAt_16 rfl (lv_at hl 2 rfl) ?_
  refine lv_iload_n hx hb dX4_wayAt_17 rfl (lv_at hl 3 rfl) ?_
  refine lv_iload hx hb dX4_wayAt_18 (lv_at hl 4 rfl) ?_
  refine lv_iload hx hb dX4_wayAt_20 (lv_at hl 5 rfl) ?_
  refine zci (va_runV (As := [.int (nI t), .int (nI y), .int (nI g), .int (nI d)]) (rest := []) ⟨hx, hb, hml, hown, hts⟩ (c_waysTo l D ca sa L f h0 ta pa aT aP aS aH n K V hR t ht y g d hy hg (by omega)) (cwV 4 hts gX4_wayAt_X4_waysTo rfl rfl rfl (by decide +kernel) ⟨Nat.le_of_ble_eq_true rfl, Nat.le_of_ble_eq_true rfl⟩) (zpVp hP hE (ci := 4) rfl h4) rfl rfl hl.1 rfl (lv_room (Nat.le_of_ble_eq_true rfl)) dX4_wayAt_22 ⟨Nat.le_of_ble_eq_true rfl, Nat.le_of_ble_eq_true rfl⟩) ?_
  refine lv_istore (lv' := [(6, .int (wTo V t y g d (vNp V))), (0, .ref h0), (1, .int pl), (2, .int (nI t)), (3, .int (nI y)), (4, .int (nI g)), (5, .int (nI d))]) hx hb dX4_wayAt_25 hl (by decide) rfl (fun ls hl => ?_)
  refine lv_iconst (v := nI 0) hx hb dX4_wayAt_27 (by decide) ?_
  refine lv_istore (lv' := [(7, .int (nI 0)), (6, .int (wTo V t y g d (vNp V))), (0, .ref h0), (1, .int pl), (2, .int (nI t)), (3, .int (nI y)), (4, .int (nI g)), (5, .int (nI d))]) hx hb dX4_wayAt_28 hl (by decide) rfl (fun ls hl => ?_)
  exact loop (q + 1) 0 ls (Nat.zero_le _) (by omega) (lv_sub hl [0, 1, 2, 3, 4, 5, 6, 7] rfl)

set_option maxHeartbeats 4000000 in
set_option maxRecDepth 100000 in
theorem c_gap (l : Launch) (D : va_G) (ca : Nat → ClassId) (sa : Nat → Nat) (L : List Nat) (f : Nat → va_E) (h0 ta pa : Nat) (aT aP aS : Nat → Nat) (aH : Nat → Nat → Nat) (n K : Nat) (V : zV) (hR : zRep L f ca h0 ta pa aT aP aS aH n K V) (t : Nat) (ht : t < vNt V) (g : Nat) (hg : g ≤ 3) : Met l yX4_gap wsX4_gap ({ frames := 8, cells := 0, slots := 0, locals := 320 }) (va_Pc [.ref h0, .int (nI t), .int (nI g)] (zPw D (va_pl L f) ca sa)) (vp_Si (fun r => r = cGap V t g)) 0 0 (fun _ => False) := by
  refine Met.ofW (cc := cX4_gap) (maxL := 7) (ret := (some .int)) (by decide) rfl ?_
  intro p e s m args below meth c s₁ B hml hv
  obtain ⟨rfl, hP, hE⟩ := hv
  have hx := B.exec
  have hb := B.bytes
  have hr := B.returns
  have hts := atoms_spec (ws := wsX4_gap) B.pre
  have hown : s.vm.findClass RX4 = some m.cls := findClass_of_methodNamed B.named
  have hlocks := B.notSynchronized
  have hl := lv_entry ([.ref h0, .int (nI t), .int (nI g)]) (n := 7) (Nat.le_of_ble_eq_true rfl)
  rw [lg_entry_eq]
  generalize (lg_sl ([.ref h0, .int (nI t), .int (nI g)]) ++ List.replicate (7 - (lg_sl ([.ref h0, .int (nI t), .int (nI g)])).length) Slot.unset).toArray = ls at hl ⊢
  have hl : lv_has ls 7 [(0, .ref h0), (1, .int (nI t)), (2, .int (nI g))] := hl
  obtain ⟨⟨h4, hTd, hNt, hNp, hnK, hK5⟩, ⟨gt, htA, hTi⟩, ⟨gp, hpA, hPk⟩, hinj⟩ := id hR
  have hpk : ∀ q, q < vNp V → zPack L f ca (aP q) (vP V q) (aH q 20) (aS q) (aH q) := fun q h => (hPk q h).2.1
  have hhi : ∀ q, q < vNp V → ∀ w, w ≤ 20 → zHist L f (aH q w) (vB V q w) (vL V q w) := fun q h w hw => ((hPk q h).2.2 w hw).1
  have hti := (hTi t ht).2.2
  have loop : ∀ (n9 : Nat) (y : Nat) (ls : Array Slot), y ≤ 56 → 56 < y + n9 → gF (zYs V t &&& (cYC V (-1) t g (vNp V) ^^^ (-1))) (56 - y) y = gF (zYs V t &&& (cYC V (-1) t g (vNp V) ^^^ (-1))) (56 - (vT V t).1) (vT V t).1 → lv_has ls 7 [(6, .int (nI y)), (4, .long (zYs V t &&& (cYC V (-1) t g (vNp V) ^^^ (-1)))), (3, .ref (aT t)), (0, .ref h0), (1, .int (nI t)), (2, .int (nI g))] → W p l e (headSpec wsX4_gap ({ frames := 8, cells := 0, slots := 0, locals := 320 })).room s m ([.ref h0, .int (nI t), .int (nI g)] : List Value).toArray below meth c s.heap [] 0 0 (MQ below (vp_Si (fun r => r = cGap V t g)) ([.ref h0, .int (nI t), .int (nI g)] : List Value).toArray s 0 0 (fun _ => False)) (F0 m 37 ls []) := by
    intro n9
    induction n9 with
    | zero =>
      intro y ls hk hfu hcl hl
      exact absurd hfu (by omega)
    | succ n9 ih =>
      intro y ls hk hfu hcl hl
      refine lv_iload hx hb dX4_gap_37 (lv_at hl 0 rfl) ?_
      refine lv_bipush (v := nI 55) hx hb dX4_gap_39 (by decide) ?_
      refine lv_icmp_gt (tgt := 63) hx hb dX4_gap_41 (by decide) (fun c_41 => ?_) (fun c_41 => ?_)
      · have e9 : y = 56 := by have := (nI_ltI (by omega) (by omega)).mp c_41; omega
        refine lv_iconst (v := (-1)) hx hb dX4_gap_63 (by decide) ?_
        exact zri hx hb hr hlocks dX4_gap_64 (by rw [cGap, ← hcl, e9]; rfl)
      · have hy : y ≤ 55 := Nat.le_of_not_lt (fun q9 => c_41 ((nI_ltI (by omega) (by omega)).mpr q9))
        refine lv_lload hx hb dX4_gap_44 (lv_at hl 1 rfl) ?_
        refine lv_iload hx hb dX4_gap_46 (lv_at hl 0 rfl) ?_
        refine zci (va_runS (As := [.long (zYs V t &&& (cYC V (-1) t g (vNp V) ^^^ (-1))), .int (nI y)]) (rest := []) ⟨hx, hb, hml, hown, hts⟩ (c_hasYear l D ca sa _ _ _) (va_cwS 2 hts gX4_gap_X4_hasYear rfl rfl rfl (by decide +kernel) ⟨Nat.le_of_ble_eq_true rfl, Nat.le_of_ble_eq_true rfl⟩) (zpS hP hE) rfl rfl hl.1 rfl (lv_room (Nat.le_of_ble_eq_true rfl)) dX4_gap_48 ⟨Nat.le_of_ble_eq_true rfl, Nat.le_of_ble_eq_true rfl⟩) ?_
        refine lv_if_eq (tgt := 57) hx hb dX4_gap_51 (by decide) (fun c_51 => ?_) (fun c_51 => ?_)
        · refine lv_iinc (v := nI (y + 1)) (lv' := [(6, .int (nI (y + 1))), (4, .long (zYs V t &&& (cYC V (-1) t g (vNp V) ^^^ (-1)))), (3, .ref (aT t)), (0, .ref h0), (1, .int (nI t)), (2, .int (nI g))]) hx hb dX4_gap_57 hl (k := 0) rfl (zinc1 _) (by decide) rfl (fun ls hl => ?_)
          refine lv_goto (tgt := 37) hx hb dX4_gap_60 (by decide) ?_
          exact ih (y + 1) ls (by omega) (by omega) (by rw [← hcl, show 56 - y = (56 - (y + 1)) + 1 by omega, gF, if_neg (by rw [bI_eq0 c_51]; exact Bool.false_ne_true)]) (lv_sub hl [0, 1, 2, 3, 4, 5] rfl)
        · refine lv_iload hx hb dX4_gap_54 (lv_at hl 0 rfl) ?_
          exact zri hx hb hr hlocks dX4_gap_56 (by rw [cGap, ← hcl, show 56 - y = (56 - (y + 1)) + 1 by omega, gF, if_pos (bI_ne0 c_51)])
  refine lv_aload_n hx hb dX4_gap_0 rfl (lv_at hl 0 rfl) ?_
  refine lv_iload_n hx hb dX4_gap_1 rfl (lv_at hl 1 rfl) ?_
  refine zcq (va_runV (As := [.int (nI t)]) (rest := []) ⟨hx, hb, hml, hown, hts⟩ (c_exTitle l D ca sa L f h0 ta pa aT aP aS aH n K V hR t ht) (cwV 1 hts gX4_gap_X4_existingTitle rfl rfl rfl (by decide +kernel) ⟨Nat.le_of_ble_eq_true rfl, Nat.le_of_ble_eq_true rfl⟩) (zpVp hP hE (ci := 4) rfl h4) rfl rfl hl.1 rfl (lv_room (Nat.le_of_ble_eq_true rfl)) dX4_gap_2 ⟨Nat.le_of_ble_eq_true rfl, Nat.le_of_ble_eq_true rfl⟩) ?_
  refine W.eq (g2 := F0 m 5 ls [.ref (aT t)]) rfl ?_
  refine lv_astore_n (lv' := [(3, .ref (aT t)), (0, .ref h0), (1, .int (nI t)), (2, .int (nI g))]) hx hb dX4_gap_5 rfl hl (by decide) rfl (fun ls hl => ?_)
  refine lv_iload_n hx hb dX4_gap_6 rfl (lv_at hl 3 rfl) ?_
  refine lv_iconst (v := nI 0) hx hb dX4_gap_7 (by decide) ?_
  refine lv_iconst (v := nI 3) hx hb dX4_gap_8 (by decide) ?_
  refine zcv (va_runS (As := [.int (nI g), .int (nI 0), .int (nI 3)]) (rest := []) ⟨hx, hb, hml, hown, hts⟩ (c_ckRange l D ca sa _ (g) (0) (3) (Nat.zero_le _) (hg) (by omega)) (va_cwS 3 hts gX4_gap_X4_checkRange rfl rfl rfl (by decide +kernel) ⟨Nat.le_of_ble_eq_true rfl, Nat.le_of_ble_eq_true rfl⟩) (zpS hP hE) rfl rfl hl.1 rfl (lv_room (Nat.le_of_ble_eq_true rfl)) dX4_gap_9 ⟨Nat.le_of_ble_eq_true rfl, Nat.le_of_ble_eq_true rfl⟩) ?_
  refine lv_aload_n hx hb dX4_gap_12 rfl (lv_at hl 1 rfl) ?_
  refine lv_aload_n hx hb dX4_gap_13 rfl (lv_at hl 0 rfl) ?_
  refine zcl (va_runV (As := [.ref (aT t)]) (rest := []) ⟨hx, hb, hml, hown, hts⟩ (c_ysf l D ca sa L f h0 ta pa aT aP aS aH n K V hR t ht) (cwV 1 hts gX4_gap_X4_yearsSoFar rfl rfl rfl (by decide +kernel) ⟨Nat.le_of_ble_eq_true rfl, Nat.le_of_ble_eq_true rfl⟩) (zpVp hP hE (ci := 4) rfl h4) rfl rfl hl.1 rfl (lv_room (Nat.le_of_ble_eq_true rfl)) dX4_gap_14 ⟨Nat.le_of_ble_eq_true rfl, Nat.le_of_ble_eq_true rfl⟩) ?_
  refine lv_aload_n hx hb dX4_gap_17 rfl (lv_at hl 1 rfl) ?_
  refine lv_iconst (v := (-1)) hx hb dX4_gap_18 (by decide) ?_
  refine lv_iload_n hx hb dX4_gap_19 rfl (lv_at hl 2 rfl) ?_
  refine lv_iload_n hx hb dX4_gap_20 rfl (lv_at hl 3 rfl) ?_
  refine zcl (va_runV (As := [.int ((-1)), .int (nI t), .int (nI g)]) (rest := [.long (zYs V t)]) ⟨hx, hb, hml, hown, hts⟩ (c_ycb l D ca sa L f h0 ta pa aT aP aS aH n K V hR (-1) t ht g hg) (cwV 3 hts gX4_gap_X4_yearsCoveredButBy rfl rfl rfl (by decide +kernel) ⟨Nat.le_of_ble_eq_true rfl, Nat.le_of_ble_eq_true rfl⟩) (zpVp hP hE (ci := 4) rfl h4) rfl rfl hl.1 rfl (lv_room (Nat.le_of_ble_eq_true rfl)) dX4_gap_21 ⟨Nat.le_of_ble_eq_true rfl, Nat.le_of_ble_eq_true rfl⟩) ?_
  refine lv_ldc2 hx hb hown (hts (.constantLong RX4 136 (-1)) (by decide +kernel)) dX4_gap_24 ?_
  refine lv_lxor hx hb dX4_gap_27 ?_
  refine lv_land hx hb dX4_gap_28 ?_
  refine lv_lstore (lv' := [(4, .long ((zYs V t) &&& ((cYC V (-1) t g (vNp V)) ^^^ (-1)))), (3, .ref (aT t)), (0, .ref h0), (1, .int (nI t)), (2, .int (nI g))]) hx hb dX4_gap_29 hl (by decide) rfl (fun ls hl => ?_)
  refine lv_aload_n hx hb dX4_gap_31 rfl (lv_at hl 1 rfl) ?_
  refine zget (own := RX4) (ci := 3) (C := RX3) (T := TX3) (N := 2) hx hb hts (by decide +kernel) hown hE hP (hTi t ht).2.1 rfl 0 (by decide) (hts (.fieldLink RX4 56 "LinkResolver$Title" "firstYear" "I") (by decide +kernel)) rfl dX4_gap_32 ?_
  refine lv_istore (lv' := [(6, .int (nI (vT V t).1)), (4, .long ((zYs V t) &&& ((cYC V (-1) t g (vNp V)) ^^^ (-1)))), (3, .ref (aT t)), (0, .ref h0), (1, .int (nI t)), (2, .int (nI g))]) hx hb dX4_gap_35 hl (by decide) rfl (fun ls hl => ?_)
  exact loop 57 (vT V t).1 ls (by omega) (by omega) rfl (lv_sub hl [0, 1, 2, 3, 4, 5] rfl)

set_option maxHeartbeats 4000000 in
set_option maxRecDepth 100000 in
theorem c_doubles (l : Launch) (D : va_G) (ca : Nat → ClassId) (sa : Nat → Nat) (L : List Nat) (f : Nat → va_E) (h0 ta pa : Nat) (aT aP aS : Nat → Nat) (aH : Nat → Nat → Nat) (n K : Nat) (V : zV) (hR : zRep L f ca h0 ta pa aT aP aS aH n K V) (t : Nat) (ht : t < vNt V) (g : Nat) (hg : g ≤ 3) : Met l yX4_doubles wsX4_doubles ({ frames := 8, cells := 0, slots := 0, locals := 320 }) (va_Pc [.ref h0, .int (nI t), .int (nI g)] (zPw D (va_pl L f) ca sa)) (vp_Si (fun r => r = swL ((cDb V t g (vNp V)).2 &&& zYs V t))) 0 0 (fun _ => False) := by
  refine Met.ofW (cc := cX4_doubles) (maxL := 12) (ret := (some .int)) (by decide) rfl ?_
  intro p e s m args below meth c s₁ B hml hv
  obtain ⟨rfl, hP, hE⟩ := hv
  have hx := B.exec
  have hb := B.bytes
  have hr := B.returns
  have hts := atoms_spec (ws := wsX4_doubles) B.pre
  have hown : s.vm.findClass RX4 = some m.cls := findClass_of_methodNamed B.named
  have hlocks := B.notSynchronized
  have hl := lv_entry ([.ref h0, .int (nI t), .int (nI g)]) (n := 12) (Nat.le_of_ble_eq_true rfl)
  rw [lg_entry_eq]
  generalize (lg_sl ([.ref h0, .int (nI t), .int (nI g)]) ++ List.replicate (12 - (lg_sl ([.ref h0, .int (nI t), .int (nI g)])).length) Slot.unset).toArray = ls at hl ⊢
  have hl : lv_has ls 12 [(0, .ref h0), (1, .int (nI t)), (2, .int (nI g))] := hl
  obtain ⟨⟨h4, hTd, hNt, hNp, hnK, hK5⟩, ⟨gt, htA, hTi⟩, ⟨gp, hpA, hPk⟩, hinj⟩ := id hR
  have hpk : ∀ q, q < vNp V → zPack L f ca (aP q) (vP V q) (aH q 20) (aS q) (aH q) := fun q h => (hPk q h).2.1
  have hhi : ∀ q, q < vNp V → ∀ w, w ≤ 20 → zHist L f (aH q w) (vB V q w) (vL V q w) := fun q h w hw => ((hPk q h).2.2 w hw).1
  have loop : ∀ (n9 : Nat) (k : Nat) (ls : Array Slot), k ≤ vNp V → vNp V < k + n9 → lv_has ls 12 [(8, .int (nI k)), (6, .long (cDb V t g k).2), (4, .long (cDb V t g k).1), (3, .ref (aT t)), (0, .ref h0), (1, .int (nI t)), (2, .int (nI g))] → W p l e (headSpec wsX4_doubles ({ frames := 8, cells := 0, slots := 0, locals := 320 })).room s m ([.ref h0, .int (nI t), .int (nI g)] : List Value).toArray below meth c s.heap [] 0 0 (MQ below (vp_Si (fun r => r = swL ((cDb V t g (vNp V)).2 &&& zYs V t))) ([.ref h0, .int (nI t), .int (nI g)] : List Value).toArray s 0 0 (fun _ => False)) (F0 m 21 ls []) := by
    intro n9
    induction n9 with
    | zero =>
      intro k ls hk hfu hl
      exact absurd hfu (by omega)
    | succ n9 ih =>
      intro k ls hk hfu hl
      refine lv_iload hx hb dX4_doubles_21 (lv_at hl 0 rfl) ?_
      refine lv_aload_n hx hb dX4_doubles_23 rfl (lv_at hl 4 rfl) ?_
      refine zget (own := RX4) (ci := 4) (C := RX4) (T := TX4) (N := 6) hx hb hts (by decide +kernel) hown hE hP h4 rfl 3 (by decide) (hts (.fieldLink RX4 25 "LinkResolver" "packCount" "I") (by decide +kernel)) rfl dX4_doubles_24 ?_
      refine lv_icmp_ge (tgt := 82) hx hb dX4_doubles_27 (by decide) (fun c_27 => ?_) (fun c_27 => ?_)
      · have e9 : k = vNp V := by have := (nI_leI (by omega) (by omega)).mp c_27; omega
        refine lv_lload hx hb dX4_doubles_82 (lv_at hl 1 rfl) ?_
        refine lv_aload_n hx hb dX4_doubles_84 rfl (lv_at hl 4 rfl) ?_
        refine lv_aload_n hx hb dX4_doubles_85 rfl (lv_at hl 3 rfl) ?_
        refine zcl (va_runV (As := [.ref (aT t)]) (rest := [.long (cDb V t g k).2]) ⟨hx, hb, hml, hown, hts⟩ (c_ysf l D ca sa L f h0 ta pa aT aP aS aH n K V hR t ht) (cwV 1 hts gX4_doubles_X4_yearsSoFar rfl rfl rfl (by decide +kernel) ⟨Nat.le_of_ble_eq_true rfl, Nat.le_of_ble_eq_true rfl⟩) (zpVp hP hE (ci := 4) rfl h4) rfl rfl hl.1 rfl (lv_room (Nat.le_of_ble_eq_true rfl)) dX4_doubles_86 ⟨Nat.le_of_ble_eq_true rfl, Nat.le_of_ble_eq_true rfl⟩) ?_
        refine lv_land hx hb dX4_doubles_89 ?_
        refine zci (va_runS (As := [.long ((cDb V t g k).2 &&& (zYs V t))]) (rest := []) ⟨hx, hb, hml, hown, hts⟩ (c_bitL l D ca sa _ _) (va_cwS 1 hts gX4_doubles_J13_bitCount_95d88 rfl rfl rfl (by decide +kernel) ⟨Nat.le_of_ble_eq_true rfl, Nat.le_of_ble_eq_true rfl⟩) (zpS hP hE) rfl rfl hl.1 rfl (lv_room (Nat.le_of_ble_eq_true rfl)) dX4_doubles_90 ⟨Nat.le_of_ble_eq_true rfl, Nat.le_of_ble_eq_true rfl⟩) ?_
        exact zri hx hb hr hlocks dX4_doubles_93 (by rw [e9])
      · have hk2 : k < vNp V := Nat.lt_of_not_le (fun q9 => c_27 ((nI_leI (by omega) (by omega)).mpr q9))
        refine lv_aload_n hx hb dX4_doubles_30 rfl (lv_at hl 4 rfl) ?_
        refine lv_iload hx hb dX4_doubles_31 (lv_at hl 0 rfl) ?_
        refine zcq (va_runV (As := [.int (nI k)]) (rest := []) ⟨hx, hb, hml, hown, hts⟩ (c_exPack l D ca sa L f h0 ta pa aT aP aS aH n K V hR k hk2) (cwV 1 hts gX4_doubles_X4_existingPack rfl rfl rfl (by decide +kernel) ⟨Nat.le_of_ble_eq_true rfl, Nat.le_of_ble_eq_true rfl⟩) (zpVp hP hE (ci := 4) rfl h4) rfl rfl hl.1 rfl (lv_room (Nat.le_of_ble_eq_true rfl)) dX4_doubles_33 ⟨Nat.le_of_ble_eq_true rfl, Nat.le_of_ble_eq_true rfl⟩) ?_
        refine W.eq (g2 := F0 m 36 ls [.ref (aP k)]) rfl ?_
        refine lv_astore (lv' := [(9, .ref (aP k)), (8, .int (nI k)), (6, .long (cDb V t g k).2), (4, .long (cDb V t g k).1), (3, .ref (aT t)), (0, .ref h0), (1, .int (nI t)), (2, .int (nI g))]) hx hb dX4_doubles_36 hl (by decide) rfl (fun ls hl => ?_)
        refine lv_aload hx hb dX4_doubles_38 (lv_at hl 0 rfl) ?_
        refine lv_iload_n hx hb dX4_doubles_40 rfl (lv_at hl 7 rfl) ?_
        refine zci (va_runV (As := [.int (nI g)]) (rest := []) ⟨hx, hb, hml, hown, hts⟩ (c_letsIn l D ca sa L f (aP k) (vP V k) (aH k 20) (aS k) (aH k) (hpk k hk2) g hg) (cwV 1 hts gX4_doubles_X2_letsIn rfl rfl rfl (by decide +kernel) ⟨Nat.le_of_ble_eq_true rfl, Nat.le_of_ble_eq_true rfl⟩) (zpVp hP hE (ci := 2) rfl (hpk k hk2).1.1) rfl rfl hl.1 rfl (lv_room (Nat.le_of_ble_eq_true rfl)) dX4_doubles_41 ⟨Nat.le_of_ble_eq_true rfl, Nat.le_of_ble_eq_true rfl⟩) ?_
        refine lv_if_eq (tgt := 76) hx hb dX4_doubles_44 (by decide) (fun c_44 => ?_) (fun c_44 => ?_)
        · refine lv_iinc (v := nI (k + 1)) (lv' := [(8, .int (nI (k + 1))), (9, .ref (aP k)), (6, .long (cDb V t g k).2), (4, .long (cDb V t g k).1), (3, .ref (aT t)), (0, .ref h0), (1, .int (nI t)), (2, .int (nI g))]) hx hb dX4_doubles_76 hl (k := 1) rfl (zinc1 _) (by decide) rfl (fun ls hl => ?_)
          refine lv_goto (tgt := 21) hx hb dX4_doubles_79 (by decide) ?_
          exact ih (k + 1) ls (by omega) (by omega) (by rw [cDb, if_neg (by rw [bI_eq0 c_44]; exact Bool.false_ne_true)]; exact lv_sub hl [0, 2, 3, 4, 5, 6, 7] rfl)
        · refine lv_aload hx hb dX4_doubles_47 (lv_at hl 0 rfl) ?_
          refine lv_iload_n hx hb dX4_doubles_49 rfl (lv_at hl 6 rfl) ?_
          refine lv_aload_n hx hb dX4_doubles_50 rfl (lv_at hl 5 rfl) ?_
          refine zget (own := RX4) (ci := 4) (C := RX4) (T := TX4) (N := 6) hx hb hts (by decide +kernel) hown hE hP h4 rfl 5 (by decide) (hts (.fieldLink RX4 31 "LinkResolver" "currentDay" "I") (by decide +kernel)) rfl dX4_doubles_51 ?_
          refine zcl (va_runV (As := [.int (nI t), .int (nI (vTd V))]) (rest := []) ⟨hx, hb, hml, hown, hts⟩ (c_pCov l D ca sa L f (aP k) (vP V k) (aH k 20) (aS k) (aH k) (hpk k hk2) t (vB V k t) (by omega) (vL V k t) (hhi k hk2 t (by omega)) (vB V k 20) (vL V k 20) (hhi k hk2 20 (by omega)) (vTd V) hTd) (cwV 2 hts gX4_doubles_X2_yearsCovered rfl rfl rfl (by decide +kernel) ⟨Nat.le_of_ble_eq_true rfl, Nat.le_of_ble_eq_true rfl⟩) (zpVp hP hE (ci := 2) rfl (hpk k hk2).1.1) rfl rfl hl.1 rfl (lv_room (Nat.le_of_ble_eq_true rfl)) dX4_doubles_54 ⟨Nat.le_of_ble_eq_true rfl, Nat.le_of_ble_eq_true rfl⟩) ?_
          refine lv_lstore (lv' := [(10, .long (cPC V k t (vTd V))), (9, .ref (aP k)), (8, .int (nI k)), (6, .long (cDb V t g k).2), (4, .long (cDb V t g k).1), (3, .ref (aT t)), (0, .ref h0), (1, .int (nI t)), (2, .int (nI g))]) hx hb dX4_doubles_57 hl (by decide) rfl (fun ls hl => ?_)
          refine lv_lload hx hb dX4_doubles_59 (lv_at hl 3 rfl) ?_
          refine lv_lload hx hb dX4_doubles_61 (lv_at hl 4 rfl) ?_
          refine lv_lload hx hb dX4_doubles_63 (lv_at hl 0 rfl) ?_
          refine lv_land hx hb dX4_doubles_65 ?_
          refine lv_lor hx hb dX4_doubles_66 ?_
          refine lv_lstore (lv' := [(6, .long ((cDb V t g k).2 ||| ((cDb V t g k).1 &&& (cPC V k t (vTd V))))), (10, .long (cPC V k t (vTd V))), (9, .ref (aP k)), (8, .int (nI k)), (4, .long (cDb V t g k).1), (3, .ref (aT t)), (0, .ref h0), (1, .int (nI t)), (2, .int (nI g))]) hx hb dX4_doubles_67 hl (by decide) rfl (fun ls hl => ?_)
          refine lv_lload hx hb dX4_doubles_69 (lv_at hl 4 rfl) ?_
          refine lv_lload hx hb dX4_doubles_71 (lv_at hl 1 rfl) ?_
          refine lv_lor hx hb dX4_doubles_73 ?_
          refine lv_lstore (lv' := [(4, .long ((cDb V t g k).1 ||| (cPC V k t (vTd V)))), (6, .long ((cDb V t g k).2 ||| ((cDb V t g k).1 &&& (cPC V k t (vTd V))))), (10, .long (cPC V k t (vTd V))), (9, .ref (aP k)), (8, .int (nI k)), (3, .ref (aT t)), (0, .ref h0), (1, .int (nI t)), (2, .int (nI g))]) hx hb dX4_doubles_74 hl (by decide) rfl (fun ls hl => ?_)
          refine lv_iinc (v := nI (k + 1)) (lv' := [(8, .int (nI (k + 1))), (4, .long ((cDb V t g k).1 ||| (cPC V k t (vTd V)))), (6, .long ((cDb V t g k).2 ||| ((cDb V t g k).1 &&& (cPC V k t (vTd V))))), (10, .long (cPC V k t (vTd V))), (9, .ref (aP k)), (3, .ref (aT t)), (0, .ref h0), (1, .int (nI t)), (2, .int (nI g))]) hx hb dX4_doubles_76 hl (k := 4) rfl (zinc1 _) (by decide) rfl (fun ls hl => ?_)
          refine lv_goto (tgt := 21) hx hb dX4_doubles_79 (by decide) ?_
          exact ih (k + 1) ls (by omega) (by omega) (by rw [cDb, if_pos (bI_ne0 c_44)]; exact lv_sub hl [0, 2, 1, 5, 6, 7, 8] rfl)
  refine lv_aload_n hx hb dX4_doubles_0 rfl (lv_at hl 0 rfl) ?_
  refine lv_iload_n hx hb dX4_doubles_1 rfl (lv_at hl 1 rfl) ?_
  refine zcq (va_runV (As := [.int (nI t)]) (rest := []) ⟨hx, hb, hml, hown, hts⟩ (c_exTitle l D ca sa L f h0 ta pa aT aP aS aH n K V hR t ht) (cwV 1 hts gX4_doubles_X4_existingTitle rfl rfl rfl (by decide +kernel) ⟨Nat.le_of_ble_eq_true rfl, Nat.le_of_ble_eq_true rfl⟩) (zpVp hP hE (ci := 4) rfl h4) rfl rfl hl.1 rfl (lv_room (Nat.le_of_ble_eq_true rfl)) dX4_doubles_2 ⟨Nat.le_of_ble_eq_true rfl, Nat.le_of_ble_eq_true rfl⟩) ?_
  refine W.eq (g2 := F0 m 5 ls [.ref (aT t)]) rfl ?_
  refine lv_astore_n (lv' := [(3, .ref (aT t)), (0, .ref h0), (1, .int (nI t)), (2, .int (nI g))]) hx hb dX4_doubles_5 rfl hl (by decide) rfl (fun ls hl => ?_)
  refine lv_iload_n hx hb dX4_doubles_6 rfl (lv_at hl 3 rfl) ?_
  refine lv_iconst (v := nI 0) hx hb dX4_doubles_7 (by decide) ?_
  refine lv_iconst (v := nI 3) hx hb dX4_doubles_8 (by decide) ?_
  refine zcv (va_runS (As := [.int (nI g), .int (nI 0), .int (nI 3)]) (rest := []) ⟨hx, hb, hml, hown, hts⟩ (c_ckRange l D ca sa _ (g) (0) (3) (Nat.zero_le _) (hg) (by omega)) (va_cwS 3 hts gX4_doubles_X4_checkRange rfl rfl rfl (by decide +kernel) ⟨Nat.le_of_ble_eq_true rfl, Nat.le_of_ble_eq_true rfl⟩) (zpS hP hE) rfl rfl hl.1 rfl (lv_room (Nat.le_of_ble_eq_true rfl)) dX4_doubles_9 ⟨Nat.le_of_ble_eq_true rfl, Nat.le_of_ble_eq_true rfl⟩) ?_
  refine lv_lconst (v := 0) hx hb dX4_doubles_12 (by decide) ?_
  refine lv_lstore (lv' := [(4, .long 0), (3, .ref (aT t)), (0, .ref h0), (1, .int (nI t)), (2, .int (nI g))]) hx hb dX4_doubles_13 hl (by decide) rfl (fun ls hl => ?_)
  refine lv_lconst (v := 0) hx hb dX4_doubles_15 (by decide) ?_
  refine lv_lstore (lv' := [(6, .long 0), (4, .long 0), (3, .ref (aT t)), (0, .ref h0), (1, .int (nI t)), (2, .int (nI g))]) hx hb dX4_doubles_16 hl (by decide) rfl (fun ls hl => ?_)
  refine lv_iconst (v := nI 0) hx hb dX4_doubles_18 (by decide) ?_
  refine lv_istore (lv' := [(8, .int (nI 0)), (6, .long 0), (4, .long 0), (3, .ref (aT t)), (0, .ref h0), (1, .int (nI t)), (2, .int (nI g))]) hx hb dX4_doubles_19 hl (by decide) rfl (fun ls hl => ?_)
  exact loop (vNp V + 1) 0 ls (Nat.zero_le _) (by omega) (lv_sub hl [0, 1, 2, 3, 4, 5, 6] rfl)
