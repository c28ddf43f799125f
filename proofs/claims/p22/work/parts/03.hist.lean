/-! years as bits, and the chain of changes: what the leaves of the class answer, word for word as the code has it -/
def bI (b : Bool) : Int32 := if b then 1 else 0
theorem bI_nar (b : Bool) : narrow .boolean (.int (bI b)) = .int (bI b) := by cases b <;> rfl
theorem bI_t {c : Prop} [Decidable c] (h : c) : nI 1 = bI (decide c) := by rw [decide_eq_true h]; rfl
theorem bI_f {c : Prop} [Decidable c] (h : ¬ c) : nI 0 = bI (decide c) := by rw [decide_eq_false h]; rfl
theorem bI_eq0 {b : Bool} (h : bI b = 0) : b = false := by cases b with | false => rfl | true => exact absurd h (by decide)
theorem bI_ne0 {b : Bool} (h : ¬ bI b = 0) : b = true := by cases b with | true => rfl | false => exact absurd rfl h
theorem zinc1 (a : Nat) : nI a + Int32.ofInt 1 = nI (a + 1) := nI_1 a
theorem zmin {a b : Nat} (ha : a < 2 ^ 31) (hb : b < 2 ^ 31) : (if nI b < nI a then nI b else nI a) = nI (min a b) := by
  by_cases h : b < a
  · rw [if_pos ((nI_ltI hb ha).mpr h), Nat.min_eq_right (Nat.le_of_lt h)]
  · rw [if_neg (fun q => h ((nI_ltI hb ha).mp q)), Nat.min_eq_left (Nat.le_of_not_lt h)]
theorem zdiv {a : Nat} (ha : a ≤ 20000) : nI a / nI 360 = nI (a / 360) := pk_div (by omega) (by decide) (by decide)
theorem z360 : ¬ nI 360 = 0 := by decide
def yB (a b : Int32) : Int64 := if a ≤ b then (((1 : Int64) <<< ((b - a + nI 1).toInt64 &&& 63)) - 1) <<< (a.toInt64 &&& 63) else 0
def hY (x : Int64) (k : Int32) : Bool := decide ((x >>> (k.toInt64 &&& 63)) &&& 1 = 1)
abbrev zLs : Type := List (Nat × Int64 × Nat)
/-- the changes from a reference on, newest first -/
def zCh (L : List Nat) (f : Nat → va_E) : Option Nat → zLs → Prop
  | nx, [] => nx = none
  | nx, c :: r => ∃ (a : Nat) (nx' : Option Nat), nx = some a ∧ zat L f a (.inr (0, [.int (nI c.1), .long c.2.1, .int (nI c.2.2), va_rf nx'])) ∧ zCh L f nx' r
def zOk (l : zLs) : Prop := ∀ c ∈ l, c.1 ≤ 20000 ∧ c.2.2 ≤ 20
def zDr (d : Nat) (l : zLs) : zLs := l.dropWhile (fun c => decide (d < c.1))
def zOn (d : Nat) (l : zLs) : Bool := match zDr d l with
  | [] => false
  | c :: _ => decide (¬ c.2.1 = 0)
def zOp (d : Nat) (l : zLs) : Int64 := match zDr d l with
  | [] => 0
  | c :: _ => c.2.1 &&& yB (nI 0) (nI (d / 360) - nI c.2.2)
def zKe (day : Nat) : Nat → Int64 → zLs → Int64
  | _, acc, [] => acc
  | u, acc, c :: r => zKe day (min u c.1) (acc ||| (c.2.1 &&& yB (nI (c.1 / 360)) (if nI (day / 360) - nI c.2.2 < nI (u / 360) - nI 1 then nI (day / 360) - nI c.2.2 else nI (u / 360) - nI 1))) r
def zHist (L : List Nat) (f : Nat → va_E) (h b : Nat) (l : zLs) : Prop := (∃ nx : Option Nat, zat L f h (.inr (1, [va_rf nx, .int (nI b)])) ∧ zCh L f nx l) ∧ zOk l
theorem zOk_dr {l : zLs} (h : zOk l) (d : Nat) : zOk (zDr d l) := fun c hc => h c ((List.dropWhile_sublist _).subset hc)

set_option maxHeartbeats 4000000 in
set_option maxRecDepth 100000 in
theorem c_yearsBetween (l : Launch) (D : va_G) (ca : Nat → ClassId) (sa : Nat → Nat) (ws : va_W) (a b : Int32) : Met l yX4_yearsBetween wsX4_yearsBetween ({ frames := 1, cells := 0, slots := 0, locals := 40 }) (va_Pc [.int a, .int b] (zPw D ws ca sa)) (vp_Sl (fun r => r = yB a b)) 0 0 (fun _ => False) := by
  refine Met.ofW (cc := cX4_yearsBetween) (maxL := 2) (ret := (some .long)) (by decide) rfl ?_
  intro p e s m args below meth c s₁ B hml hv
  obtain ⟨rfl, hP, hE⟩ := hv
  have hx := B.exec
  have hb := B.bytes
  have hr := B.returns
  have hts := atoms_spec (ws := wsX4_yearsBetween) B.pre
  have hown : s.vm.findClass RX4 = some m.cls := findClass_of_methodNamed B.named
  have hlocks := B.notSynchronized
  have hl := lv_entry ([.int a, .int b]) (n := 2) (Nat.le_of_ble_eq_true rfl)
  rw [lg_entry_eq]
  generalize (lg_sl ([.int a, .int b]) ++ List.replicate (2 - (lg_sl ([.int a, .int b])).length) Slot.unset).toArray = ls at hl ⊢
  have hl : lv_has ls 2 [(0, .int a), (1, .int b)] := hl
  refine lv_iload_n hx hb dX4_yearsBetween_0 rfl (lv_at hl 0 rfl) ?_
  refine lv_iload_n hx hb dX4_yearsBetween_1 rfl (lv_at hl 1 rfl) ?_
  refine lv_icmp_le (tgt := 9) hx hb dX4_yearsBetween_2 (by decide) (fun c_2 => ?_) (fun c_2 => ?_)
  · refine lv_lconst (v := 1) hx hb dX4_yearsBetween_9 (by decide) ?_
    refine lv_iload_n hx hb dX4_yearsBetween_10 rfl (lv_at hl 1 rfl) ?_
    refine lv_iload_n hx hb dX4_yearsBetween_11 rfl (lv_at hl 0 rfl) ?_
    refine lv_isub hx hb dX4_yearsBetween_12 ?_
    refine lv_iconst (v := nI 1) hx hb dX4_yearsBetween_13 (by decide) ?_
    refine lv_iadd hx hb dX4_yearsBetween_14 ?_
    refine lv_lshl hx hb dX4_yearsBetween_15 rfl ?_
    refine lv_lconst (v := 1) hx hb dX4_yearsBetween_16 (by decide) ?_
    refine lv_lsub hx hb dX4_yearsBetween_17 ?_
    refine lv_iload_n hx hb dX4_yearsBetween_18 rfl (lv_at hl 0 rfl) ?_
    refine lv_lshl hx hb dX4_yearsBetween_19 rfl ?_
    exact zrl hx hb hr hlocks dX4_yearsBetween_20 ((if_pos c_2).symm)
  · refine lv_lconst (v := 0) hx hb dX4_yearsBetween_5 (by decide) ?_
    refine lv_goto (tgt := 20) hx hb dX4_yearsBetween_6 (by decide) ?_
    exact zrl hx hb hr hlocks dX4_yearsBetween_20 ((if_neg c_2).symm)

set_option maxHeartbeats 4000000 in
set_option maxRecDepth 100000 in
theorem c_hasYear (l : Launch) (D : va_G) (ca : Nat → ClassId) (sa : Nat → Nat) (ws : va_W) (x : Int64) (k : Int32) : Met l yX4_hasYear wsX4_hasYear ({ frames := 1, cells := 0, slots := 0, locals := 40 }) (va_Pc [.long x, .int k] (zPw D ws ca sa)) (vp_Si (fun r => r = bI (hY x k))) 0 0 (fun _ => False) := by
  refine Met.ofW (cc := cX4_hasYear) (maxL := 3) (ret := (some .boolean)) (by decide) rfl ?_
  intro p e s m args below meth c s₁ B hml hv
  obtain ⟨rfl, hP, hE⟩ := hv
  have hx := B.exec
  have hb := B.bytes
  have hr := B.returns
  have hts := atoms_spec (ws := wsX4_hasYear) B.pre
  have hown : s.vm.findClass RX4 = some m.cls := findClass_of_methodNamed B.named
  have hlocks := B.notSynchronized
  have hl := lv_entry ([.long x, .int k]) (n := 3) (Nat.le_of_ble_eq_true rfl)
  rw [lg_entry_eq]
  generalize (lg_sl ([.long x, .int k]) ++ List.replicate (3 - (lg_sl ([.long x, .int k])).length) Slot.unset).toArray = ls at hl ⊢
  have hl : lv_has ls 3 [(0, .long x), (2, .int k)] := hl
  refine lv_lload_n hx hb dX4_hasYear_0 rfl (lv_at hl 0 rfl) ?_
  refine lv_iload_n hx hb dX4_hasYear_1 rfl (lv_at hl 1 rfl) ?_
  refine lv_lshr hx hb dX4_hasYear_2 rfl ?_
  refine lv_lconst (v := 1) hx hb dX4_hasYear_3 (by decide) ?_
  refine lv_land hx hb dX4_hasYear_4 ?_
  refine lv_lconst (v := 1) hx hb dX4_hasYear_5 (by decide) ?_
  refine W.lcmp hx hb dX4_hasYear_6 ?_
  refine lv_if_ne (tgt := 14) hx hb dX4_hasYear_7 (by decide) (fun c_7 => ?_) (fun c_7 => ?_)
  · refine lv_iconst (v := nI 0) hx hb dX4_hasYear_14 (by decide) ?_
    exact zrz hx hb hr hlocks dX4_hasYear_15 rfl (bI_f (fun e9 => c_7 ((lg_cmp_eq _ _).mpr e9)))
  · refine lv_iconst (v := nI 1) hx hb dX4_hasYear_10 (by decide) ?_
    refine lv_goto (tgt := 15) hx hb dX4_hasYear_11 (by decide) ?_
    exact zrz hx hb hr hlocks dX4_hasYear_15 rfl (bI_t ((lg_cmp_eq _ _).mp c_7))

set_option maxHeartbeats 4000000 in
set_option maxRecDepth 100000 in
theorem c_changeAt (l : Launch) (D : va_G) (ca : Nat → ClassId) (sa : Nat → Nat) (L : List Nat) (f : Nat → va_E) (h d b : Nat) (l0 : zLs) (hd : d ≤ 20000) (hh : zHist L f h b l0) : Met l yX1_changeAt wsX1_changeAt ({ frames := 1, cells := 0, slots := 0, locals := 40 }) (va_Pc [.ref h, .int (nI d)] (zPw D (va_pl L f) ca sa)) (va_Sq (fun r => zCh L f r (zDr d l0))) 0 0 (fun _ => False) := by
  refine Met.ofW (cc := cX1_changeAt) (maxL := 3) (ret := (some (.object "LinkResolver$Change"))) (by decide) rfl ?_
  intro p e s m args below meth c s₁ B hml hv
  obtain ⟨rfl, hP, hE⟩ := hv
  have hx := B.exec
  have hb := B.bytes
  have hr := B.returns
  have hts := atoms_spec (ws := wsX1_changeAt) B.pre
  have hown : s.vm.findClass RX1 = some m.cls := findClass_of_methodNamed B.named
  have hlocks := B.notSynchronized
  have hl := lv_entry ([.ref h, .int (nI d)]) (n := 3) (Nat.le_of_ble_eq_true rfl)
  rw [lg_entry_eq]
  generalize (lg_sl ([.ref h, .int (nI d)]) ++ List.replicate (3 - (lg_sl ([.ref h, .int (nI d)])).length) Slot.unset).toArray = ls at hl ⊢
  have hl : lv_has ls 3 [(0, .ref h), (1, .int (nI d))] := hl
  obtain ⟨nx0, hat0, hch0⟩ := hh.1
  have loop : ∀ (l1 : zLs) (nx : Option Nat) (ls : Array Slot), zOk l1 → zCh L f nx l1 → zDr d l1 = zDr d l0 → lv_has ls 3 [(2, va_rf nx), (0, .ref h), (1, .int (nI d))] → W p l e (headSpec wsX1_changeAt ({ frames := 1, cells := 0, slots := 0, locals := 40 })).room s m ([.ref h, .int (nI d)] : List Value).toArray below meth c s.heap [] 0 0 (MQ below (va_Sq (fun r => zCh L f r (zDr d l0))) ([.ref h, .int (nI d)] : List Value).toArray s 0 0 (fun _ => False)) (F0 m 5 ls []) := by
    intro l1
    induction l1 with
    | nil =>
      intro nx ls hok hch hdr hl
      obtain rfl : nx = none := hch
      have hl : lv_has ls 3 [(2, .null), (0, .ref h), (1, .int (nI d))] := hl
      refine lv_aload_nN hx hb dX1_changeAt_5 rfl (lv_at hl 0 rfl) ?_
      refine lv_ifnullN (tgt := 25) hx hb dX1_changeAt_6 (by decide) ?_
      refine lv_aload_nN hx hb dX1_changeAt_25 rfl (lv_at hl 0 rfl) ?_
      exact zrq (v := none) hx hb hr hlocks dX1_changeAt_26 (by rw [← hdr]; rfl)
    | cons c9 r ih =>
      intro nx ls hok hch hdr hl
      obtain ⟨a, nx2, rfl, hat, hch2⟩ := hch
      have hk := hok c9 List.mem_cons_self
      have hl : lv_has ls 3 [(2, .ref a), (0, .ref h), (1, .int (nI d))] := hl
      refine lv_aload_n hx hb dX1_changeAt_5 rfl (lv_at hl 0 rfl) ?_
      refine lv_ifnull hx hb dX1_changeAt_6 ?_
      refine lv_aload_n hx hb dX1_changeAt_9 rfl (lv_at hl 0 rfl) ?_
      refine zget (own := RX1) (ci := 0) (C := RX0) (T := TX0) (N := 4) hx hb hts (by decide +kernel) hown hE hP hat rfl 0 (by decide) (hts (.fieldLink RX1 24 "LinkResolver$Change" "day" "I") (by decide +kernel)) rfl dX1_changeAt_10 ?_
      refine lv_iload_n hx hb dX1_changeAt_13 rfl (lv_at hl 2 rfl) ?_
      refine lv_icmp_le (tgt := 25) hx hb dX1_changeAt_14 (by decide) (fun c_14 => ?_) (fun c_14 => ?_)
      · refine lv_aload_n hx hb dX1_changeAt_25 rfl (lv_at hl 0 rfl) ?_
        exact zrq (v := some a) hx hb hr hlocks dX1_changeAt_26 (by rw [← hdr, zDr, List.dropWhile_cons_of_neg (by rw [decide_eq_true_eq]; exact Nat.not_lt.mpr ((nI_leI (by omega) (by omega)).mp c_14))]; exact ⟨a, nx2, rfl, hat, hch2⟩)
      · refine lv_aload_n hx hb dX1_changeAt_17 rfl (lv_at hl 0 rfl) ?_
        refine zget (own := RX1) (ci := 0) (C := RX0) (T := TX0) (N := 4) hx hb hts (by decide +kernel) hown hE hP hat rfl 3 (by decide) (hts (.fieldLink RX1 27 "LinkResolver$Change" "before" "LLinkResolver$Change;") (by decide +kernel)) rfl dX1_changeAt_18 ?_
        refine zastore_n (lv' := [(2, va_rf nx2), (0, .ref h), (1, .int (nI d))]) hx hb dX1_changeAt_21 rfl hl (by decide) rfl (fun ls hl => ?_)
        refine lv_goto (tgt := 5) hx hb dX1_changeAt_22 (by decide) ?_
        refine ih nx2 ls (fun c hc => hok c (List.mem_cons_of_mem _ hc)) hch2 ?_ hl
        rw [← hdr, zDr, zDr, List.dropWhile_cons_of_pos (by rw [decide_eq_true_eq]; exact Nat.lt_of_not_le (fun q => c_14 ((nI_leI (by omega) (by omega)).mpr q)))]
  refine lv_aload_n hx hb dX1_changeAt_0 rfl (lv_at hl 0 rfl) ?_
  refine zget (own := RX1) (ci := 1) (C := RX1) (T := TX1) (N := 2) hx hb hts (by decide +kernel) hown hE hP hat0 rfl 0 (by decide) (hts (.fieldLink RX1 9 "LinkResolver$History" "newest" "LLinkResolver$Change;") (by decide +kernel)) rfl dX1_changeAt_1 ?_
  refine zastore_n (lv' := [(2, va_rf nx0), (0, .ref h), (1, .int (nI d))]) hx hb dX1_changeAt_4 rfl hl (by decide) rfl (fun ls hl => ?_)
  exact loop l0 nx0 ls hh.2 hch0 rfl hl

set_option maxHeartbeats 4000000 in
set_option maxRecDepth 100000 in
theorem c_isOnAt (l : Launch) (D : va_G) (ca : Nat → ClassId) (sa : Nat → Nat) (L : List Nat) (f : Nat → va_E) (h d b : Nat) (l0 : zLs) (hd : d ≤ 20000) (hh : zHist L f h b l0) : Met l yX1_isOnAt wsX1_isOnAt ({ frames := 2, cells := 0, slots := 0, locals := 80 }) (va_Pc [.ref h, .int (nI d)] (zPw D (va_pl L f) ca sa)) (vp_Si (fun r => r = bI (zOn d l0))) 0 0 (fun _ => False) := by
  refine Met.ofW (cc := cX1_isOnAt) (maxL := 3) (ret := (some .boolean)) (by decide) rfl ?_
  intro p e s m args below meth c s₁ B hml hv
  obtain ⟨rfl, hP, hE⟩ := hv
  have hx := B.exec
  have hb := B.bytes
  have hr := B.returns
  have hts := atoms_spec (ws := wsX1_isOnAt) B.pre
  have hown : s.vm.findClass RX1 = some m.cls := findClass_of_methodNamed B.named
  have hlocks := B.notSynchronized
  have hl := lv_entry ([.ref h, .int (nI d)]) (n := 3) (Nat.le_of_ble_eq_true rfl)
  rw [lg_entry_eq]
  generalize (lg_sl ([.ref h, .int (nI d)]) ++ List.replicate (3 - (lg_sl ([.ref h, .int (nI d)])).length) Slot.unset).toArray = ls at hl ⊢
  have hl : lv_has ls 3 [(0, .ref h), (1, .int (nI d))] := hl
  obtain ⟨nx0, hat0, hch0⟩ := hh.1
  refine lv_aload_n hx hb dX1_isOnAt_0 rfl (lv_at hl 0 rfl) ?_
  refine lv_iload_n hx hb dX1_isOnAt_1 rfl (lv_at hl 1 rfl) ?_
  refine zcqp (va_runV (As := [.int (nI d)]) (rest := []) ⟨hx, hb, hml, hown, hts⟩ (c_changeAt l D ca sa L f h d b l0 hd hh) (cwV 1 hts gX1_isOnAt_X1_changeAt rfl rfl rfl (by decide +kernel) ⟨Nat.le_of_ble_eq_true rfl, Nat.le_of_ble_eq_true rfl⟩) (zpVp hP hE (ci := 1) rfl hat0) rfl rfl hl.1 rfl (lv_room (Nat.le_of_ble_eq_true rfl)) dX1_isOnAt_2 ⟨Nat.le_of_ble_eq_true rfl, Nat.le_of_ble_eq_true rfl⟩) (fun r9 hr9 => ?_)
  cases e9 : zDr d l0 with
  | nil =>
    rw [e9] at hr9
    obtain rfl : r9 = none := hr9
    refine W.eq (g2 := F0 m 5 ls [.null]) rfl ?_
    refine lv_astore_nN (lv' := [(2, .null), (0, .ref h), (1, .int (nI d))]) hx hb dX1_isOnAt_5 rfl hl (by decide) rfl (fun ls hl => ?_)
    refine lv_aload_nN hx hb dX1_isOnAt_6 rfl (lv_at hl 0 rfl) ?_
    refine lv_ifnullN (tgt := 23) hx hb dX1_isOnAt_7 (by decide) ?_
    refine lv_iconst (v := nI 0) hx hb dX1_isOnAt_23 (by decide) ?_
    exact zrz hx hb hr hlocks dX1_isOnAt_24 rfl (by unfold zOn; rw [e9]; rfl)
  | cons c9 r =>
    rw [e9] at hr9
    obtain ⟨a, nx2, rfl, hat, hch2⟩ := hr9
    refine W.eq (g2 := F0 m 5 ls [.ref a]) rfl ?_
    refine lv_astore_n (lv' := [(2, .ref a), (0, .ref h), (1, .int (nI d))]) hx hb dX1_isOnAt_5 rfl hl (by decide) rfl (fun ls hl => ?_)
    refine lv_aload_n hx hb dX1_isOnAt_6 rfl (lv_at hl 0 rfl) ?_
    refine lv_ifnull hx hb dX1_isOnAt_7 ?_
    refine lv_aload_n hx hb dX1_isOnAt_10 rfl (lv_at hl 0 rfl) ?_
    refine zget (own := RX1) (ci := 0) (C := RX0) (T := TX0) (N := 4) hx hb hts (by decide +kernel) hown hE hP hat rfl 1 (by decide) (hts (.fieldLink RX1 34 "LinkResolver$Change" "years" "J") (by decide +kernel)) rfl dX1_isOnAt_11 ?_
    refine lv_lconst (v := 0) hx hb dX1_isOnAt_14 (by decide) ?_
    refine W.lcmp hx hb dX1_isOnAt_15 ?_
    refine lv_if_eq (tgt := 23) hx hb dX1_isOnAt_16 (by decide) (fun c_16 => ?_) (fun c_16 => ?_)
    · refine lv_iconst (v := nI 0) hx hb dX1_isOnAt_23 (by decide) ?_
      exact zrz hx hb hr hlocks dX1_isOnAt_24 rfl (by unfold zOn; rw [e9]; exact bI_f (fun q => q ((lg_cmp_eq _ _).mp c_16)))
    · refine lv_iconst (v := nI 1) hx hb dX1_isOnAt_19 (by decide) ?_
      refine lv_goto (tgt := 24) hx hb dX1_isOnAt_20 (by decide) ?_
      exact zrz hx hb hr hlocks dX1_isOnAt_24 rfl (by unfold zOn; rw [e9]; exact bI_t (fun q => c_16 ((lg_cmp_eq _ _).mpr q)))

set_option maxHeartbeats 4000000 in
set_option maxRecDepth 100000 in
theorem c_hOpen (l : Launch) (D : va_G) (ca : Nat → ClassId) (sa : Nat → Nat) (L : List Nat) (f : Nat → va_E) (h d b : Nat) (l0 : zLs) (hd : d ≤ 20000) (hh : zHist L f h b l0) : Met l yX1_yearsOpen wsX1_yearsOpen ({ frames := 2, cells := 0, slots := 0, locals := 80 }) (va_Pc [.ref h, .int (nI d)] (zPw D (va_pl L f) ca sa)) (vp_Sl (fun r => r = zOp d l0)) 0 0 (fun _ => False) := by
  refine Met.ofW (cc := cX1_yearsOpen) (maxL := 3) (ret := (some .long)) (by decide) rfl ?_
  intro p e s m args below meth c s₁ B hml hv
  obtain ⟨rfl, hP, hE⟩ := hv
  have hx := B.exec
  have hb := B.bytes
  have hr := B.returns
  have hts := atoms_spec (ws := wsX1_yearsOpen) B.pre
  have hown : s.vm.findClass RX1 = some m.cls := findClass_of_methodNamed B.named
  have hlocks := B.notSynchronized
  have hl := lv_entry ([.ref h, .int (nI d)]) (n := 3) (Nat.le_of_ble_eq_true rfl)
  rw [lg_entry_eq]
  generalize (lg_sl ([.ref h, .int (nI d)]) ++ List.replicate (3 - (lg_sl ([.ref h, .int (nI d)])).length) Slot.unset).toArray = ls at hl ⊢
  have hl : lv_has ls 3 [(0, .ref h), (1, .int (nI d))] := hl
  obtain ⟨nx0, hat0, hch0⟩ := hh.1
  refine lv_aload_n hx hb dX1_yearsOpen_0 rfl (lv_at hl 0 rfl) ?_
  refine lv_iload_n hx hb dX1_yearsOpen_1 rfl (lv_at hl 1 rfl) ?_
  refine zcqp (va_runV (As := [.int (nI d)]) (rest := []) ⟨hx, hb, hml, hown, hts⟩ (c_changeAt l D ca sa L f h d b l0 hd hh) (cwV 1 hts gX1_yearsOpen_X1_changeAt rfl rfl rfl (by decide +kernel) ⟨Nat.le_of_ble_eq_true rfl, Nat.le_of_ble_eq_true rfl⟩) (zpVp hP hE (ci := 1) rfl hat0) rfl rfl hl.1 rfl (lv_room (Nat.le_of_ble_eq_true rfl)) dX1_yearsOpen_2 ⟨Nat.le_of_ble_eq_true rfl, Nat.le_of_ble_eq_true rfl⟩) (fun r9 hr9 => ?_)
  cases e9 : zDr d l0 with
  | nil =>
    rw [e9] at hr9
    obtain rfl : r9 = none := hr9
    refine W.eq (g2 := F0 m 5 ls [.null]) rfl ?_
    refine lv_astore_nN (lv' := [(2, .null), (0, .ref h), (1, .int (nI d))]) hx hb dX1_yearsOpen_5 rfl hl (by decide) rfl (fun ls hl => ?_)
    refine lv_aload_nN hx hb dX1_yearsOpen_6 rfl (lv_at hl 0 rfl) ?_
    refine lv_ifnonnullN hx hb dX1_yearsOpen_7 ?_
    refine lv_lconst (v := 0) hx hb dX1_yearsOpen_10 (by decide) ?_
    refine lv_goto (tgt := 33) hx hb dX1_yearsOpen_11 (by decide) ?_
    exact zrl hx hb hr hlocks dX1_yearsOpen_33 (by unfold zOp; rw [e9])
  | cons c9 r =>
    rw [e9] at hr9
    obtain ⟨a, nx2, rfl, hat, hch2⟩ := hr9
    refine W.eq (g2 := F0 m 5 ls [.ref a]) rfl ?_
    refine lv_astore_n (lv' := [(2, .ref a), (0, .ref h), (1, .int (nI d))]) hx hb dX1_yearsOpen_5 rfl hl (by decide) rfl (fun ls hl => ?_)
    refine lv_aload_n hx hb dX1_yearsOpen_6 rfl (lv_at hl 0 rfl) ?_
    refine lv_ifnonnull (tgt := 14) hx hb dX1_yearsOpen_7 (by decide) ?_
    refine lv_aload_n hx hb dX1_yearsOpen_14 rfl (lv_at hl 0 rfl) ?_
    refine zget (own := RX1) (ci := 0) (C := RX0) (T := TX0) (N := 4) hx hb hts (by decide +kernel) hown hE hP hat rfl 1 (by decide) (hts (.fieldLink RX1 34 "LinkResolver$Change" "years" "J") (by decide +kernel)) rfl dX1_yearsOpen_15 ?_
    refine lv_iconst (v := nI 0) hx hb dX1_yearsOpen_18 (by decide) ?_
    refine lv_iload_n hx hb dX1_yearsOpen_19 rfl (lv_at hl 2 rfl) ?_
    refine lv_sipush (v := nI 360) hx hb dX1_yearsOpen_20 (by decide) ?_
    refine lv_idiv hx hb dX1_yearsOpen_23 z360 ?_
    refine zasi (show ((nI d) / (nI 360)) = nI (d / 360) from zdiv hd) ?_
    refine lv_aload_n hx hb dX1_yearsOpen_24 rfl (lv_at hl 0 rfl) ?_
    refine zget (own := RX1) (ci := 0) (C := RX0) (T := TX0) (N := 4) hx hb hts (by decide +kernel) hown hE hP hat rfl 2 (by decide) (hts (.fieldLink RX1 38 "LinkResolver$Change" "wall" "I") (by decide +kernel)) rfl dX1_yearsOpen_25 ?_
    refine lv_isub hx hb dX1_yearsOpen_28 ?_
    refine zcl (va_runSN (host := "LinkResolver") (As := [.int (nI 0), .int ((nI (d / 360)) - (nI c9.2.2))]) (rest := [.long c9.2.1]) ⟨hx, hb, hml, hown, hts⟩ (c_yearsBetween l D ca sa _ ((nI 0)) (((nI (d / 360)) - (nI c9.2.2)))) ⟨va_cnB 2 hts gX1_yearsOpen_X4_yearsBetween_n41 rfl rfl rfl hE.2.1.1 (hts (.initialized RX4) (by decide +kernel)) (by decide +kernel) ⟨Nat.le_of_ble_eq_true rfl, Nat.le_of_ble_eq_true rfl⟩, hts (.static yX4_yearsBetween) (by decide +kernel), trivial⟩ (zpS hP hE) rfl rfl hl.1 rfl (lv_room (Nat.le_of_ble_eq_true rfl)) dX1_yearsOpen_29 ⟨Nat.le_of_ble_eq_true rfl, Nat.le_of_ble_eq_true rfl⟩) ?_
    refine lv_land hx hb dX1_yearsOpen_32 ?_
    exact zrl hx hb hr hlocks dX1_yearsOpen_33 (by unfold zOp; rw [e9])

set_option maxHeartbeats 4000000 in
set_option maxRecDepth 100000 in
theorem c_hKept (l : Launch) (D : va_G) (ca : Nat → ClassId) (sa : Nat → Nat) (L : List Nat) (f : Nat → va_E) (h d b : Nat) (l0 : zLs) (hd : d ≤ 20000) (hh : zHist L f h b l0) : Met l yX1_yearsKept wsX1_yearsKept ({ frames := 2, cells := 0, slots := 0, locals := 80 }) (va_Pc [.ref h, .int (nI d)] (zPw D (va_pl L f) ca sa)) (vp_Sl (fun r => r = zKe d d 0 l0)) 0 0 (fun _ => False) := by
  refine Met.ofW (cc := cX1_yearsKept) (maxL := 10) (ret := (some .long)) (by decide) rfl ?_
  intro p e s m args below meth c s₁ B hml hv
  obtain ⟨rfl, hP, hE⟩ := hv
  have hx := B.exec
  have hb := B.bytes
  have hr := B.returns
  have hts := atoms_spec (ws := wsX1_yearsKept) B.pre
  have hown : s.vm.findClass RX1 = some m.cls := findClass_of_methodNamed B.named
  have hlocks := B.notSynchronized
  have hl := lv_entry ([.ref h, .int (nI d)]) (n := 10) (Nat.le_of_ble_eq_true rfl)
  rw [lg_entry_eq]
  generalize (lg_sl ([.ref h, .int (nI d)]) ++ List.replicate (10 - (lg_sl ([.ref h, .int (nI d)])).length) Slot.unset).toArray = ls at hl ⊢
  have hl : lv_has ls 10 [(0, .ref h), (1, .int (nI d))] := hl
  obtain ⟨nx0, hat0, hch0⟩ := hh.1
  have loop : ∀ (l1 : zLs) (nx : Option Nat) (u : Nat) (acc : Int64) (ls : Array Slot), u ≤ 20000 → zOk l1 → zCh L f nx l1 → zKe d u acc l1 = zKe d d 0 l0 → lv_has ls 10 [(6, va_rf nx), (4, .long acc), (3, .int (nI u)), (2, .int (nI (d / 360))), (0, .ref h), (1, .int (nI d))] → W p l e (headSpec wsX1_yearsKept ({ frames := 2, cells := 0, slots := 0, locals := 80 })).room s m ([.ref h, .int (nI d)] : List Value).toArray below meth c s.heap [] 0 0 (MQ below (vp_Sl (fun r => r = zKe d d 0 l0)) ([.ref h, .int (nI d)] : List Value).toArray s 0 0 (fun _ => False)) (F0 m 17 ls []) := by
    intro l1
    induction l1 with
    | nil =>
      intro nx u acc ls hu hok hch hdr hl
      obtain rfl : nx = none := hch
      have hl : lv_has ls 10 [(6, .null), (4, .long acc), (3, .int (nI u)), (2, .int (nI (d / 360))), (0, .ref h), (1, .int (nI d))] := hl
      refine lv_aloadN hx hb dX1_yearsKept_17 (lv_at hl 0 rfl) ?_
      refine lv_ifnullN (tgt := 94) hx hb dX1_yearsKept_19 (by decide) ?_
      refine lv_lload hx hb dX1_yearsKept_94 (lv_at hl 1 rfl) ?_
      exact zrl hx hb hr hlocks dX1_yearsKept_96 (hdr)
    | cons c9 r ih =>
      intro nx u acc ls hu hok hch hdr hl
      obtain ⟨a, nx2, rfl, hat, hch2⟩ := hch
      have hk := hok c9 List.mem_cons_self
      have hl : lv_has ls 10 [(6, .ref a), (4, .long acc), (3, .int (nI u)), (2, .int (nI (d / 360))), (0, .ref h), (1, .int (nI d))] := hl
      refine lv_aload hx hb dX1_yearsKept_17 (lv_at hl 0 rfl) ?_
      refine lv_ifnull hx hb dX1_yearsKept_19 ?_
      refine lv_aload hx hb dX1_yearsKept_22 (lv_at hl 0 rfl) ?_
      refine zget (own := RX1) (ci := 0) (C := RX0) (T := TX0) (N := 4) hx hb hts (by decide +kernel) hown hE hP hat rfl 0 (by decide) (hts (.fieldLink RX1 24 "LinkResolver$Change" "day" "I") (by decide +kernel)) rfl dX1_yearsKept_24 ?_
      refine lv_sipush (v := nI 360) hx hb dX1_yearsKept_27 (by decide) ?_
      refine lv_idiv hx hb dX1_yearsKept_30 z360 ?_
      refine zasi (show ((nI c9.1) / (nI 360)) = nI (c9.1 / 360) from zdiv hk.1) ?_
      refine lv_istore (lv' := [(7, .int (nI (c9.1 / 360))), (6, .ref a), (4, .long acc), (3, .int (nI u)), (2, .int (nI (d / 360))), (0, .ref h), (1, .int (nI d))]) hx hb dX1_yearsKept_31 hl (by decide) rfl (fun ls hl => ?_)
      refine lv_iload_n hx hb dX1_yearsKept_33 rfl (lv_at hl 3 rfl) ?_
      refine lv_sipush (v := nI 360) hx hb dX1_yearsKept_34 (by decide) ?_
      refine lv_idiv hx hb dX1_yearsKept_37 z360 ?_
      refine zasi (show ((nI u) / (nI 360)) = nI (u / 360) from zdiv hu) ?_
      refine lv_iconst (v := nI 1) hx hb dX1_yearsKept_38 (by decide) ?_
      refine lv_isub hx hb dX1_yearsKept_39 ?_
      refine lv_istore (lv' := [(8, .int ((nI (u / 360)) - (nI 1))), (7, .int (nI (c9.1 / 360))), (6, .ref a), (4, .long acc), (3, .int (nI u)), (2, .int (nI (d / 360))), (0, .ref h), (1, .int (nI d))]) hx hb dX1_yearsKept_40 hl (by decide) rfl (fun ls hl => ?_)
      refine lv_iload_n hx hb dX1_yearsKept_42 rfl (lv_at hl 5 rfl) ?_
      refine lv_aload hx hb dX1_yearsKept_43 (lv_at hl 2 rfl) ?_
      refine zget (own := RX1) (ci := 0) (C := RX0) (T := TX0) (N := 4) hx hb hts (by decide +kernel) hown hE hP hat rfl 2 (by decide) (hts (.fieldLink RX1 38 "LinkResolver$Change" "wall" "I") (by decide +kernel)) rfl dX1_yearsKept_45 ?_
      refine lv_isub hx hb dX1_yearsKept_48 ?_
      refine lv_istore (lv' := [(9, .int ((nI (d / 360)) - (nI c9.2.2))), (8, .int ((nI (u / 360)) - (nI 1))), (7, .int (nI (c9.1 / 360))), (6, .ref a), (4, .long acc), (3, .int (nI u)), (2, .int (nI (d / 360))), (0, .ref h), (1, .int (nI d))]) hx hb dX1_yearsKept_49 hl (by decide) rfl (fun ls hl => ?_)
      refine lv_lload hx hb dX1_yearsKept_51 (lv_at hl 4 rfl) ?_
      refine lv_aload hx hb dX1_yearsKept_53 (lv_at hl 3 rfl) ?_
      refine zget (own := RX1) (ci := 0) (C := RX0) (T := TX0) (N := 4) hx hb hts (by decide +kernel) hown hE hP hat rfl 1 (by decide) (hts (.fieldLink RX1 34 "LinkResolver$Change" "years" "J") (by decide +kernel)) rfl dX1_yearsKept_55 ?_
      refine lv_iload hx hb dX1_yearsKept_58 (lv_at hl 2 rfl) ?_
      refine lv_iload hx hb dX1_yearsKept_60 (lv_at hl 1 rfl) ?_
      refine lv_iload hx hb dX1_yearsKept_62 (lv_at hl 0 rfl) ?_
      refine va_mmin hx hb (hml.trans hl.1.symm) hown (hts (.methodLink RX1 45 yJ9_min_7cf53) (by decide +kernel)) (hts (.static yJ9_min_7cf53) (by decide +kernel)) (hts (.initialized "java/lang/Math") (by decide +kernel)) (hts (.code yJ9_min_7cf53 cJ9_min_7cf53 2 (some .int)) (by decide +kernel)) (Nat.le_of_ble_eq_true rfl) (Nat.le_of_ble_eq_true rfl) (Nat.le_of_ble_eq_true rfl) (Nat.le_of_ble_eq_true rfl) dX1_yearsKept_64 ?_
      refine zcl (va_runSN (host := "LinkResolver") (As := [.int (nI (c9.1 / 360)), .int (if ((nI (d / 360)) - (nI c9.2.2)) < ((nI (u / 360)) - (nI 1)) then ((nI (d / 360)) - (nI c9.2.2)) else ((nI (u / 360)) - (nI 1)))]) (rest := [.long c9.2.1, .long acc]) ⟨hx, hb, hml, hown, hts⟩ (c_yearsBetween l D ca sa _ ((nI (c9.1 / 360))) ((if ((nI (d / 360)) - (nI c9.2.2)) < ((nI (u / 360)) - (nI 1)) then ((nI (d / 360)) - (nI c9.2.2)) else ((nI (u / 360)) - (nI 1))))) ⟨va_cnB 2 hts gX1_yearsKept_X4_yearsBetween_n41 rfl rfl rfl hE.2.1.1 (hts (.initialized RX4) (by decide +kernel)) (by decide +kernel) ⟨Nat.le_of_ble_eq_true rfl, Nat.le_of_ble_eq_true rfl⟩, hts (.static yX4_yearsBetween) (by decide +kernel), trivial⟩ (zpS hP hE) rfl rfl hl.1 rfl (lv_room (Nat.le_of_ble_eq_true rfl)) dX1_yearsKept_67 ⟨Nat.le_of_ble_eq_true rfl, Nat.le_of_ble_eq_true rfl⟩) ?_
      refine lv_land hx hb dX1_yearsKept_70 ?_
      refine lv_lor hx hb dX1_yearsKept_71 ?_
      refine lv_lstore (lv' := [(4, .long (acc ||| (c9.2.1 &&& (yB ((nI (c9.1 / 360))) ((if ((nI (d / 360)) - (nI c9.2.2)) < ((nI (u / 360)) - (nI 1)) then ((nI (d / 360)) - (nI c9.2.2)) else ((nI (u / 360)) - (nI 1)))))))), (9, .int ((nI (d / 360)) - (nI c9.2.2))), (8, .int ((nI (u / 360)) - (nI 1))), (7, .int (nI (c9.1 / 360))), (6, .ref a), (3, .int (nI u)), (2, .int (nI (d / 360))), (0, .ref h), (1, .int (nI d))]) hx hb dX1_yearsKept_72 hl (by decide) rfl (fun ls hl => ?_)
      refine lv_iload_n hx hb dX1_yearsKept_74 rfl (lv_at hl 5 rfl) ?_
      refine lv_aload hx hb dX1_yearsKept_75 (lv_at hl 4 rfl) ?_
      refine zget (own := RX1) (ci := 0) (C := RX0) (T := TX0) (N := 4) hx hb hts (by decide +kernel) hown hE hP hat rfl 0 (by decide) (hts (.fieldLink RX1 24 "LinkResolver$Change" "day" "I") (by decide +kernel)) rfl dX1_yearsKept_77 ?_
      refine va_mmin hx hb (hml.trans hl.1.symm) hown (hts (.methodLink RX1 45 yJ9_min_7cf53) (by decide +kernel)) (hts (.static yJ9_min_7cf53) (by decide +kernel)) (hts (.initialized "java/lang/Math") (by decide +kernel)) (hts (.code yJ9_min_7cf53 cJ9_min_7cf53 2 (some .int)) (by decide +kernel)) (Nat.le_of_ble_eq_true rfl) (Nat.le_of_ble_eq_true rfl) (Nat.le_of_ble_eq_true rfl) (Nat.le_of_ble_eq_true rfl) dX1_yearsKept_80 ?_
      refine zasi (show (if (nI c9.1) < (nI u) then (nI c9.1) else (nI u)) = nI (min u c9.1) from zmin (by omega) (by omega)) ?_
      refine lv_istore_n (lv' := [(3, .int (nI (min u c9.1))), (4, .long (acc ||| (c9.2.1 &&& (yB ((nI (c9.1 / 360))) ((if ((nI (d / 360)) - (nI c9.2.2)) < ((nI (u / 360)) - (nI 1)) then ((nI (d / 360)) - (nI c9.2.2)) else ((nI (u / 360)) - (nI 1)))))))), (9, .int ((nI (d / 360)) - (nI c9.2.2))), (8, .int ((nI (u / 360)) - (nI 1))), (7, .int (nI (c9.1 / 360))), (6, .ref a), (2, .int (nI (d / 360))), (0, .ref h), (1, .int (nI d))]) hx hb dX1_yearsKept_83 rfl hl (by decide) rfl (fun ls hl => ?_)
      refine lv_aload hx hb dX1_yearsKept_84 (lv_at hl 5 rfl) ?_
      refine zget (own := RX1) (ci := 0) (C := RX0) (T := TX0) (N := 4) hx hb hts (by decide +kernel) hown hE hP hat rfl 3 (by decide) (hts (.fieldLink RX1 27 "LinkResolver$Change" "before" "LLinkResolver$Change;") (by decide +kernel)) rfl dX1_yearsKept_86 ?_
      refine zastore (lv' := [(6, va_rf nx2), (3, .int (nI (min u c9.1))), (4, .long (acc ||| (c9.2.1 &&& (yB ((nI (c9.1 / 360))) ((if ((nI (d / 360)) - (nI c9.2.2)) < ((nI (u / 360)) - (nI 1)) then ((nI (d / 360)) - (nI c9.2.2)) else ((nI (u / 360)) - (nI 1)))))))), (9, .int ((nI (d / 360)) - (nI c9.2.2))), (8, .int ((nI (u / 360)) - (nI 1))), (7, .int (nI (c9.1 / 360))), (2, .int (nI (d / 360))), (0, .ref h), (1, .int (nI d))]) hx hb dX1_yearsKept_89 hl (by decide) rfl (fun ls hl => ?_)
      refine lv_goto (tgt := 17) hx hb dX1_yearsKept_91 (by decide) ?_
      exact ih nx2 (min u c9.1) _ ls (by omega) (fun c hc => hok c (List.mem_cons_of_mem _ hc)) hch2 hdr (lv_sub hl [0, 2, 1, 6, 7, 8] rfl)
  refine lv_iload_n hx hb dX1_yearsKept_0 rfl (lv_at hl 1 rfl) ?_
  refine lv_sipush (v := nI 360) hx hb dX1_yearsKept_1 (by decide) ?_
  refine lv_idiv hx hb dX1_yearsKept_4 z360 ?_
  refine zasi (show ((nI d) / (nI 360)) = nI (d / 360) from zdiv hd) ?_
  refine lv_istore_n (lv' := [(2, .int (nI (d / 360))), (0, .ref h), (1, .int (nI d))]) hx hb dX1_yearsKept_5 rfl hl (by decide) rfl (fun ls hl => ?_)
  refine lv_iload_n hx hb dX1_yearsKept_6 rfl (lv_at hl 2 rfl) ?_
  refine lv_istore_n (lv' := [(3, .int (nI d)), (2, .int (nI (d / 360))), (0, .ref h), (1, .int (nI d))]) hx hb dX1_yearsKept_7 rfl hl (by decide) rfl (fun ls hl => ?_)
  refine lv_lconst (v := 0) hx hb dX1_yearsKept_8 (by decide) ?_
  refine lv_lstore (lv' := [(4, .long 0), (3, .int (nI d)), (2, .int (nI (d / 360))), (0, .ref h), (1, .int (nI d))]) hx hb dX1_yearsKept_9 hl (by decide) rfl (fun ls hl => ?_)
  refine lv_aload_n hx hb dX1_yearsKept_11 rfl (lv_at hl 3 rfl) ?_
  refine zget (own := RX1) (ci := 1) (C := RX1) (T := TX1) (N := 2) hx hb hts (by decide +kernel) hown hE hP hat0 rfl 0 (by decide) (hts (.fieldLink RX1 9 "LinkResolver$History" "newest" "LLinkResolver$Change;") (by decide +kernel)) rfl dX1_yearsKept_12 ?_
  refine zastore (lv' := [(6, va_rf nx0), (4, .long 0), (3, .int (nI d)), (2, .int (nI (d / 360))), (0, .ref h), (1, .int (nI d))]) hx hb dX1_yearsKept_15 hl (by decide) rfl (fun ls hl => ?_)
  exact loop l0 nx0 d 0 ls hd hh.2 hch0 rfl (lv_sub hl [0, 1, 2, 3, 4, 5] rfl)
