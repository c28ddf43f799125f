/-! the class itself: how its object lies in the pool, and what its own methods that only read answer -/
abbrev zV : Type := Nat × Nat × Nat × (Nat → Nat × Nat) × (Nat → Nat × Nat × Nat × Nat) × (Nat → Nat → Nat) × (Nat → Nat → zLs)
abbrev vTd (V : zV) : Nat := V.1
abbrev vNt (V : zV) : Nat := V.2.1
abbrev vNp (V : zV) : Nat := V.2.2.1
abbrev vT (V : zV) : Nat → Nat × Nat := V.2.2.2.1
abbrev vP (V : zV) : Nat → Nat × Nat × Nat × Nat := V.2.2.2.2.1
abbrev vB (V : zV) : Nat → Nat → Nat := V.2.2.2.2.2.1
abbrev vL (V : zV) : Nat → Nat → zLs := V.2.2.2.2.2.2
/-- the pool holds an object of the class: ta, pa its two rows; aT, aP its titles and packages; aS, aH each package's row of stays and its histories (20: the subscription); n changes; K bounds what grows by one a call -/
def zRep (L : List Nat) (f : Nat → va_E) (ca : Nat → ClassId) (h0 ta pa : Nat) (aT aP aS : Nat → Nat) (aH : Nat → Nat → Nat) (n K : Nat) (V : zV) : Prop :=
  (zat L f h0 (.inr (4, [.ref ta, .ref pa, .int (nI (vNt V)), .int (nI (vNp V)), .int (nI n), .int (nI (vTd V))])) ∧ vTd V ≤ 20000 ∧ vNt V ≤ 20 ∧ vNp V ≤ 10 ∧ n ≤ K ∧ K ≤ 512) ∧
  (∃ g : Nat → Option Nat, zat L f ta (.inl (ca 0, 20, .inr (.inr (.inr (.inr g))))) ∧ ∀ t, t < vNt V → g t = some (aT t) ∧ zat L f (aT t) (.inr (3, [.int (nI (vT V t).1), .int (nI (vT V t).2)])) ∧ (vT V t).1 ≤ 55 ∧ 1 ≤ (vT V t).2 ∧ (vT V t).2 ≤ 4) ∧
  (∃ g : Nat → Option Nat, zat L f pa (.inl (ca 1, 10, .inr (.inr (.inr (.inr g))))) ∧ ∀ q, q < vNp V → g q = some (aP q) ∧ zPack L f ca (aP q) (vP V q) (aH q 20) (aS q) (aH q) ∧ ∀ w, w ≤ 20 → zHist L f (aH q w) (vB V q w) (vL V q w) ∧ vB V q w ≤ K) ∧
  (∀ q q2 w w2, q < vNp V → q2 < vNp V → w ≤ 20 → w2 ≤ 20 → aH q w = aH q2 w2 → q = q2 ∧ w = w2) ∧ ta ≠ pa ∧ ∀ q, q < vNp V → aS q ≠ ta ∧ aS q ≠ pa
def zYs (V : zV) (t : Nat) : Int64 := yB (nI (vT V t).1) (nI (vTd V / 360))
def cWy (V : zV) (q t y g d : Nat) : Bool := zWy (vP V q) d g y (vL V q t) (vL V q 20)
def cPC (V : zV) (q t d : Nat) : Int64 := zPC (vP V q).2.2.2 d (vL V q t) (vL V q 20)
def wTo (V : zV) (t y g d : Nat) : Nat → Int32
  | 0 => nI 0
  | k + 1 => if cWy V k t y g d = true then wTo V t y g d k ||| (nI 1 <<< (nI k &&& 31)) else wTo V t y g d k
def aM (x : Int32) (k : Nat) : Bool := decide ((x >>> (nI k &&& 31)) &&& nI 1 = nI 1)
def cAhead (V : zV) (q q2 t : Nat) : Bool := if decide (2 ≤ vB V q t) = decide (2 ≤ vB V q2 t) then (if (vP V q).1 = (vP V q2).1 then (if (vP V q).2.1 = (vP V q2).2.1 then decide (q < q2) else decide ((vP V q).2.1 < (vP V q2).2.1)) else decide ((vP V q).1 < (vP V q2).1)) else !decide (2 ≤ vB V q t)
def cPla (V : zV) (x : Int32) (q t : Nat) : Nat → Nat
  | 0 => 0
  | k + 1 => if k ≠ q ∧ aM x k = true ∧ cAhead V k q t = true then cPla V x q t k + 1 else cPla V x q t k
def cYC (V : zV) (lf : Int32) (t g : Nat) : Nat → Int64
  | 0 => 0
  | k + 1 => if nI k = lf then cYC V lf t g k else if zlb (vP V k).2.2.1 g = true then cYC V lf t g k ||| cPC V k t (vTd V) else cYC V lf t g k
def cAS (V : zV) (q t : Nat) : Int64 := ((zOp (vTd V) (vL V q t) &&& zOp (vTd V) (vL V q 20)) &&& (zPK (vP V q).2.2.2 (vTd V) (vL V q t) (vL V q 20) ^^^ (-1))) &&& zYs V t
def cLo (V : zV) (q t : Nat) : Nat → Nat → Bool
  | 0, _ => false
  | k + 1, g => if zlb (vP V q).2.2.1 g = true ∧ ¬ cAS V q t &&& (cYC V (nI q) t g (vNp V) ^^^ (-1)) = 0 then true else cLo V q t k (g + 1)
def cLost (V : zV) (q t : Nat) : Bool := if cAS V q t = 0 then false else cLo V q t 4 0
def cNd (V : zV) (q : Nat) : Nat → Nat → Bool
  | 0, _ => true
  | k + 1, t => if cLost V q t = true then false else cNd V q k (t + 1)
def cDb (V : zV) (t g : Nat) : Nat → Int64 × Int64
  | 0 => (0, 0)
  | k + 1 => if zlb (vP V k).2.2.1 g = true then ((cDb V t g k).1 ||| cPC V k t (vTd V), (cDb V t g k).2 ||| ((cDb V t g k).1 &&& cPC V k t (vTd V))) else cDb V t g k
def gF (x : Int64) : Nat → Nat → Int32
  | 0, _ => (-1)
  | k + 1, y => if hY x (nI y) = true then nI y else gF x k (y + 1)
theorem bI_inj {a b : Bool} (h : bI a = bI b) : a = b := by cases a <;> cases b <;> first | rfl | exact absurd h (by decide)
theorem zinc : ∀ a : Nat, nI a + nI 1 = nI (a + 1) := fun a => nI_1 a

set_option maxHeartbeats 4000000 in
set_option maxRecDepth 100000 in
theorem c_firstVolume (l : Launch) (D : va_G) (ca : Nat → ClassId) (sa : Nat → Nat) (L : List Nat) (f : Nat → va_E) (q a b y : Nat) (hq : zat L f q (.inr (3, [.int (nI a), .int (nI b)]))) (hy : a ≤ y) (hy2 : y ≤ 56) : Met l yX3_firstVolume wsX3_firstVolume ({ frames := 1, cells := 0, slots := 0, locals := 40 }) (va_Pc [.ref q, .int (nI y)] (zPw D (va_pl L f) ca sa)) (vp_Si (fun r => r = nI ((y - a) * b + 1))) 0 0 (fun _ => False) := by
  refine Met.ofW (cc := cX3_firstVolume) (maxL := 2) (ret := (some .int)) (by decide) rfl ?_
  intro p e s m args below meth c s₁ B hml hv
  obtain ⟨rfl, hP, hE⟩ := hv
  have hx := B.exec
  have hb := B.bytes
  have hr := B.returns
  have hts := atoms_spec (ws := wsX3_firstVolume) B.pre
  have hown : s.vm.findClass RX3 = some m.cls := findClass_of_methodNamed B.named
  have hlocks := B.notSynchronized
  have hl := lv_entry ([.ref q, .int (nI y)]) (n := 2) (Nat.le_of_ble_eq_true rfl)
  rw [lg_entry_eq]
  generalize (lg_sl ([.ref q, .int (nI y)]) ++ List.replicate (2 - (lg_sl ([.ref q, .int (nI y)])).length) Slot.unset).toArray = ls at hl ⊢
  have hl : lv_has ls 2 [(0, .ref q), (1, .int (nI y))] := hl
  refine lv_iload_n hx hb dX3_firstVolume_0 rfl (lv_at hl 1 rfl) ?_
  refine lv_aload_n hx hb dX3_firstVolume_1 rfl (lv_at hl 0 rfl) ?_
  refine zget (own := RX3) (ci := 3) (C := RX3) (T := TX3) (N := 2) hx hb hts (by decide +kernel) hown hE hP hq rfl 0 (by decide) (hts (.fieldLink RX3 7 "LinkResolver$Title" "firstYear" "I") (by decide +kernel)) rfl dX3_firstVolume_2 ?_
  refine lv_isub hx hb dX3_firstVolume_5 ?_
  refine zasi (show ((nI y) - (nI a)) = nI (y - a) from pk_sub hy) ?_
  refine lv_aload_n hx hb dX3_firstVolume_6 rfl (lv_at hl 0 rfl) ?_
  refine zget (own := RX3) (ci := 3) (C := RX3) (T := TX3) (N := 2) hx hb hts (by decide +kernel) hown hE hP hq rfl 1 (by decide) (hts (.fieldLink RX3 13 "LinkResolver$Title" "volumes" "I") (by decide +kernel)) rfl dX3_firstVolume_7 ?_
  refine lv_imul hx hb dX3_firstVolume_10 ?_
  refine zasi (show ((nI (y - a)) * (nI b)) = nI ((y - a) * b) from pk_mul _ _) ?_
  refine lv_iconst (v := nI 1) hx hb dX3_firstVolume_11 (by decide) ?_
  refine lv_iadd hx hb dX3_firstVolume_12 ?_
  refine zasi (show ((nI ((y - a) * b)) + (nI 1)) = nI ((y - a) * b + 1) from zinc _) ?_
  exact zri hx hb hr hlocks dX3_firstVolume_13 (rfl)

set_option maxHeartbeats 4000000 in
set_option maxRecDepth 100000 in
theorem c_exTitle (l : Launch) (D : va_G) (ca : Nat → ClassId) (sa : Nat → Nat) (L : List Nat) (f : Nat → va_E) (h0 ta pa : Nat) (aT aP aS : Nat → Nat) (aH : Nat → Nat → Nat) (n K : Nat) (V : zV) (hR : zRep L f ca h0 ta pa aT aP aS aH n K V) (t : Nat) (ht : t < vNt V) : Met l yX4_existingTitle wsX4_existingTitle ({ frames := 1, cells := 0, slots := 0, locals := 40 }) (va_Pc [.ref h0, .int (nI t)] (zPw D (va_pl L f) ca sa)) (va_Sq (fun r => r = some (aT t))) 0 0 (fun _ => False) := by
  refine Met.ofW (cc := cX4_existingTitle) (maxL := 2) (ret := (some (.object "LinkResolver$Title"))) (by decide) rfl ?_
  intro p e s m args below meth c s₁ B hml hv
  obtain ⟨rfl, hP, hE⟩ := hv
  have hx := B.exec
  have hb := B.bytes
  have hr := B.returns
  have hts := atoms_spec (ws := wsX4_existingTitle) B.pre
  have hown : s.vm.findClass RX4 = some m.cls := findClass_of_methodNamed B.named
  have hlocks := B.notSynchronized
  have hl := lv_entry ([.ref h0, .int (nI t)]) (n := 2) (Nat.le_of_ble_eq_true rfl)
  rw [lg_entry_eq]
  generalize (lg_sl ([.ref h0, .int (nI t)]) ++ List.replicate (2 - (lg_sl ([.ref h0, .int (nI t)])).length) Slot.unset).toArray = ls at hl ⊢
  have hl : lv_has ls 2 [(0, .ref h0), (1, .int (nI t))] := hl
  obtain ⟨⟨h4, hTd, hNt, hNp, hnK, hK5⟩, ⟨gt, htA, hTi⟩, ⟨gp, hpA, hPk⟩, hinj⟩ := id hR
  have hpk : ∀ q, q < vNp V → zPack L f ca (aP q) (vP V q) (aH q 20) (aS q) (aH q) := fun q h => (hPk q h).2.1
  have hhi : ∀ q, q < vNp V → ∀ w, w ≤ 20 → zHist L f (aH q w) (vB V q w) (vL V q w) := fun q h w hw => ((hPk q h).2.2 w hw).1
  refine lv_iload_n hx hb dX4_existingTitle_0 rfl (lv_at hl 1 rfl) ?_
  refine lv_if_lt (tgt := 21) hx hb dX4_existingTitle_1 (by decide) (fun c_1 => ?_) (fun c_1 => ?_)
  · exact absurd c_1 (nI_pos (by omega))
  · refine lv_iload_n hx hb dX4_existingTitle_4 rfl (lv_at hl 1 rfl) ?_
    refine lv_aload_n hx hb dX4_existingTitle_5 rfl (lv_at hl 0 rfl) ?_
    refine zget (own := RX4) (ci := 4) (C := RX4) (T := TX4) (N := 6) hx hb hts (by decide +kernel) hown hE hP h4 rfl 2 (by decide) (hts (.fieldLink RX4 21 "LinkResolver" "titleCount" "I") (by decide +kernel)) rfl dX4_existingTitle_6 ?_
    refine lv_icmp_ge (tgt := 21) hx hb dX4_existingTitle_9 (by decide) (fun c_9 => ?_) (fun c_9 => ?_)
    · exact absurd ((nI_leI (by omega) (by omega)).mp c_9) (by omega)
    · refine lv_aload_n hx hb dX4_existingTitle_12 rfl (lv_at hl 0 rfl) ?_
      refine zget (own := RX4) (ci := 4) (C := RX4) (T := TX4) (N := 6) hx hb hts (by decide +kernel) hown hE hP h4 rfl 0 (by decide) (hts (.fieldLink RX4 11 "LinkResolver" "titles" "[LLinkResolver$Title;") (by decide +kernel)) rfl dX4_existingTitle_13 ?_
      refine lv_iload_n hx hb dX4_existingTitle_16 rfl (lv_at hl 1 rfl) ?_
      refine zaldq hx hb hE hP 0 htA rfl (show _ < _ by omega) (by decide) dX4_existingTitle_17 ?_
      refine zasv (show va_rf (gt t) = .ref (aT t) from by rw [(hTi t ht).1]; rfl) ?_
      refine lv_ifnonnull (tgt := 31) hx hb dX4_existingTitle_18 (by decide) ?_
      refine lv_aload_n hx hb dX4_existingTitle_31 rfl (lv_at hl 0 rfl) ?_
      refine zget (own := RX4) (ci := 4) (C := RX4) (T := TX4) (N := 6) hx hb hts (by decide +kernel) hown hE hP h4 rfl 0 (by decide) (hts (.fieldLink RX4 11 "LinkResolver" "titles" "[LLinkResolver$Title;") (by decide +kernel)) rfl dX4_existingTitle_32 ?_
      refine lv_iload_n hx hb dX4_existingTitle_35 rfl (lv_at hl 1 rfl) ?_
      refine zaldq hx hb hE hP 0 htA rfl (show _ < _ by omega) (by decide) dX4_existingTitle_36 ?_
      refine zasv (show va_rf (gt t) = .ref (aT t) from by rw [(hTi t ht).1]; rfl) ?_
      exact zrq (v := some (aT t)) hx hb hr hlocks dX4_existingTitle_37 (rfl)

set_option maxHeartbeats 4000000 in
set_option maxRecDepth 100000 in
theorem c_exPack (l : Launch) (D : va_G) (ca : Nat → ClassId) (sa : Nat → Nat) (L : List Nat) (f : Nat → va_E) (h0 ta pa : Nat) (aT aP aS : Nat → Nat) (aH : Nat → Nat → Nat) (n K : Nat) (V : zV) (hR : zRep L f ca h0 ta pa aT aP aS aH n K V) (q : Nat) (hq : q < vNp V) : Met l yX4_existingPack wsX4_existingPack ({ frames := 1, cells := 0, slots := 0, locals := 40 }) (va_Pc [.ref h0, .int (nI q)] (zPw D (va_pl L f) ca sa)) (va_Sq (fun r => r = some (aP q))) 0 0 (fun _ => False) := by
  refine Met.ofW (cc := cX4_existingPack) (maxL := 2) (ret := (some (.object "LinkResolver$Pack"))) (by decide) rfl ?_
  intro p e s m args below meth c s₁ B hml hv
  obtain ⟨rfl, hP, hE⟩ := hv
  have hx := B.exec
  have hb := B.bytes
  have hr := B.returns
  have hts := atoms_spec (ws := wsX4_existingPack) B.pre
  have hown : s.vm.findClass RX4 = some m.cls := findClass_of_methodNamed B.named
  have hlocks := B.notSynchronized
  have hl := lv_entry ([.ref h0, .int (nI q)]) (n := 2) (Nat.le_of_ble_eq_true rfl)
  rw [lg_entry_eq]
  generalize (lg_sl ([.ref h0, .int (nI q)]) ++ List.replicate (2 - (lg_sl ([.ref h0, .int (nI q)])).length) Slot.unset).toArray = ls at hl ⊢
  have hl : lv_has ls 2 [(0, .ref h0), (1, .int (nI q))] := hl
  obtain ⟨⟨h4, hTd, hNt, hNp, hnK, hK5⟩, ⟨gt, htA, hTi⟩, ⟨gp, hpA, hPk⟩, hinj⟩ := id hR
  have hpk : ∀ q, q < vNp V → zPack L f ca (aP q) (vP V q) (aH q 20) (aS q) (aH q) := fun q h => (hPk q h).2.1
  have hhi : ∀ q, q < vNp V → ∀ w, w ≤ 20 → zHist L f (aH q w) (vB V q w) (vL V q w) := fun q h w hw => ((hPk q h).2.2 w hw).1
  refine lv_iload_n hx hb dX4_existingPack_0 rfl (lv_at hl 1 rfl) ?_
  refine lv_if_lt (tgt := 21) hx hb dX4_existingPack_1 (by decide) (fun c_1 => ?_) (fun c_1 => ?_)
  · exact absurd c_1 (nI_pos (by omega))
  · refine lv_iload_n hx hb dX4_existingPack_4 rfl (lv_at hl 1 rfl) ?_
    refine lv_aload_n hx hb dX4_existingPack_5 rfl (lv_at hl 0 rfl) ?_
    refine zget (own := RX4) (ci := 4) (C := RX4) (T := TX4) (N := 6) hx hb hts (by decide +kernel) hown hE hP h4 rfl 3 (by decide) (hts (.fieldLink RX4 25 "LinkResolver" "packCount" "I") (by decide +kernel)) rfl dX4_existingPack_6 ?_
    refine lv_icmp_ge (tgt := 21) hx hb dX4_existingPack_9 (by decide) (fun c_9 => ?_) (fun c_9 => ?_)
    · exact absurd ((nI_leI (by omega) (by omega)).mp c_9) (by omega)
    · refine lv_aload_n hx hb dX4_existingPack_12 rfl (lv_at hl 0 rfl) ?_
      refine zget (own := RX4) (ci := 4) (C := RX4) (T := TX4) (N := 6) hx hb hts (by decide +kernel) hown hE hP h4 rfl 1 (by decide) (hts (.fieldLink RX4 17 "LinkResolver" "packs" "[LLinkResolver$Pack;") (by decide +kernel)) rfl dX4_existingPack_13 ?_
      refine lv_iload_n hx hb dX4_existingPack_16 rfl (lv_at hl 1 rfl) ?_
      refine zaldq hx hb hE hP 1 hpA rfl (show _ < _ by omega) (by decide) dX4_existingPack_17 ?_
      refine zasv (show va_rf (gp q) = .ref (aP q) from by rw [(hPk q hq).1]; rfl) ?_
      refine lv_ifnonnull (tgt := 31) hx hb dX4_existingPack_18 (by decide) ?_
      refine lv_aload_n hx hb dX4_existingPack_31 rfl (lv_at hl 0 rfl) ?_
      refine zget (own := RX4) (ci := 4) (C := RX4) (T := TX4) (N := 6) hx hb hts (by decide +kernel) hown hE hP h4 rfl 1 (by decide) (hts (.fieldLink RX4 17 "LinkResolver" "packs" "[LLinkResolver$Pack;") (by decide +kernel)) rfl dX4_existingPack_32 ?_
      refine lv_iload_n hx hb dX4_existingPack_35 rfl (lv_at hl 1 rfl) ?_
      refine zaldq hx hb hE hP 1 hpA rfl (show _ < _ by omega) (by decide) dX4_existingPack_36 ?_
      refine zasv (show va_rf (gp q) = .ref (aP q) from by rw [(hPk q hq).1]; rfl) ?_
      exact zrq (v := some (aP q)) hx hb hr hlocks dX4_existingPack_37 (rfl)

set_option maxHeartbeats 4000000 in
set_option maxRecDepth 100000 in
theorem c_exStay (l : Launch) (D : va_G) (ca : Nat → ClassId) (sa : Nat → Nat) (L : List Nat) (f : Nat → va_E) (h0 ta pa : Nat) (aT aP aS : Nat → Nat) (aH : Nat → Nat → Nat) (n K : Nat) (V : zV) (hR : zRep L f ca h0 ta pa aT aP aS aH n K V) (q : Nat) (hq : q < vNp V) (t : Nat) (ht : t < vNt V) : Met l yX4_existingStay wsX4_existingStay ({ frames := 2, cells := 0, slots := 0, locals := 80 }) (va_Pc [.ref h0, .int (nI q), .int (nI t)] (zPw D (va_pl L f) ca sa)) (va_Sq (fun r => r = some (aH q t))) 0 0 (fun _ => False) := by
  refine Met.ofW (cc := cX4_existingStay) (maxL := 4) (ret := (some (.object "LinkResolver$History"))) (by decide) rfl ?_
  intro p e s m args below meth c s₁ B hml hv
  obtain ⟨rfl, hP, hE⟩ := hv
  have hx := B.exec
  have hb := B.bytes
  have hr := B.returns
  have hts := atoms_spec (ws := wsX4_existingStay) B.pre
  have hown : s.vm.findClass RX4 = some m.cls := findClass_of_methodNamed B.named
  have hlocks := B.notSynchronized
  have hl := lv_entry ([.ref h0, .int (nI q), .int (nI t)]) (n := 4) (Nat.le_of_ble_eq_true rfl)
  rw [lg_entry_eq]
  generalize (lg_sl ([.ref h0, .int (nI q), .int (nI t)]) ++ List.replicate (4 - (lg_sl ([.ref h0, .int (nI q), .int (nI t)])).length) Slot.unset).toArray = ls at hl ⊢
  have hl : lv_has ls 4 [(0, .ref h0), (1, .int (nI q)), (2, .int (nI t))] := hl
  obtain ⟨⟨h4, hTd, hNt, hNp, hnK, hK5⟩, ⟨gt, htA, hTi⟩, ⟨gp, hpA, hPk⟩, hinj⟩ := id hR
  have hpk : ∀ q, q < vNp V → zPack L f ca (aP q) (vP V q) (aH q 20) (aS q) (aH q) := fun q h => (hPk q h).2.1
  have hhi : ∀ q, q < vNp V → ∀ w, w ≤ 20 → zHist L f (aH q w) (vB V q w) (vL V q w) := fun q h w hw => ((hPk q h).2.2 w hw).1
  refine lv_aload_n hx hb dX4_existingStay_0 rfl (lv_at hl 0 rfl) ?_
  refine lv_iload_n hx hb dX4_existingStay_1 rfl (lv_at hl 1 rfl) ?_
  refine zcq (va_runV (As := [.int (nI q)]) (rest := []) ⟨hx, hb, hml, hown, hts⟩ (c_exPack l D ca sa L f h0 ta pa aT aP aS aH n K V hR q hq) (cwV 1 hts gX4_existingStay_X4_existingPack rfl rfl rfl (by decide +kernel) ⟨Nat.le_of_ble_eq_true rfl, Nat.le_of_ble_eq_true rfl⟩) (zpVp hP hE (ci := 4) rfl h4) rfl rfl hl.1 rfl (lv_room (Nat.le_of_ble_eq_true rfl)) dX4_existingStay_2 ⟨Nat.le_of_ble_eq_true rfl, Nat.le_of_ble_eq_true rfl⟩) ?_
  refine W.eq (g2 := F0 m 5 ls [.ref (aP q)]) rfl ?_
  refine lv_astore_n (lv' := [(3, .ref (aP q)), (0, .ref h0), (1, .int (nI q)), (2, .int (nI t))]) hx hb dX4_existingStay_5 rfl hl (by decide) rfl (fun ls hl => ?_)
  refine lv_aload_n hx hb dX4_existingStay_6 rfl (lv_at hl 1 rfl) ?_
  refine lv_iload_n hx hb dX4_existingStay_7 rfl (lv_at hl 3 rfl) ?_
  refine zcq (va_runV (As := [.int (nI t)]) (rest := []) ⟨hx, hb, hml, hown, hts⟩ (c_exTitle l D ca sa L f h0 ta pa aT aP aS aH n K V hR t ht) (cwV 1 hts gX4_existingStay_X4_existingTitle rfl rfl rfl (by decide +kernel) ⟨Nat.le_of_ble_eq_true rfl, Nat.le_of_ble_eq_true rfl⟩) (zpVp hP hE (ci := 4) rfl h4) rfl rfl hl.1 rfl (lv_room (Nat.le_of_ble_eq_true rfl)) dX4_existingStay_8 ⟨Nat.le_of_ble_eq_true rfl, Nat.le_of_ble_eq_true rfl⟩) ?_
  refine W.eq (g2 := F0 m 11 ls [.ref (aT t)]) rfl ?_
  refine lv_pop hx hb dX4_existingStay_11 rfl ?_
  refine lv_aload_n hx hb dX4_existingStay_12 rfl (lv_at hl 0 rfl) ?_
  refine lv_iload_n hx hb dX4_existingStay_13 rfl (lv_at hl 3 rfl) ?_
  refine zcq (va_runV (As := [.int (nI t)]) (rest := []) ⟨hx, hb, hml, hown, hts⟩ (c_stayOf l D ca sa L f (aP q) (vP V q) (aH q 20) (aS q) (aH q) (hpk q hq) t (by omega)) (cwV 1 hts gX4_existingStay_X2_stayOf rfl rfl rfl (by decide +kernel) ⟨Nat.le_of_ble_eq_true rfl, Nat.le_of_ble_eq_true rfl⟩) (zpVp hP hE (ci := 2) rfl (hpk q hq).1.1) rfl rfl hl.1 rfl (lv_room (Nat.le_of_ble_eq_true rfl)) dX4_existingStay_14 ⟨Nat.le_of_ble_eq_true rfl, Nat.le_of_ble_eq_true rfl⟩) ?_
  exact zrq (v := some (aH q t)) hx hb hr hlocks dX4_existingStay_17 (rfl)

set_option maxHeartbeats 4000000 in
set_option maxRecDepth 100000 in
theorem c_ysf (l : Launch) (D : va_G) (ca : Nat → ClassId) (sa : Nat → Nat) (L : List Nat) (f : Nat → va_E) (h0 ta pa : Nat) (aT aP aS : Nat → Nat) (aH : Nat → Nat → Nat) (n K : Nat) (V : zV) (hR : zRep L f ca h0 ta pa aT aP aS aH n K V) (t : Nat) (ht : t < vNt V) : Met l yX4_yearsSoFar wsX4_yearsSoFar ({ frames := 2, cells := 0, slots := 0, locals := 80 }) (va_Pc [.ref h0, .ref (aT t)] (zPw D (va_pl L f) ca sa)) (vp_Sl (fun r => r = zYs V t)) 0 0 (fun _ => False) := by
  refine Met.ofW (cc := cX4_yearsSoFar) (maxL := 2) (ret := (some .long)) (by decide) rfl ?_
  intro p e s m args below meth c s₁ B hml hv
  obtain ⟨rfl, hP, hE⟩ := hv
  have hx := B.exec
  have hb := B.bytes
  have hr := B.returns
  have hts := atoms_spec (ws := wsX4_yearsSoFar) B.pre
  have hown : s.vm.findClass RX4 = some m.cls := findClass_of_methodNamed B.named
  have hlocks := B.notSynchronized
  have hl := lv_entry ([.ref h0, .ref (aT t)]) (n := 2) (Nat.le_of_ble_eq_true rfl)
  rw [lg_entry_eq]
  generalize (lg_sl ([.ref h0, .ref (aT t)]) ++ List.replicate (2 - (lg_sl ([.ref h0, .ref (aT t)])).length) Slot.unset).toArray = ls at hl ⊢
  have hl : lv_has ls 2 [(0, .ref h0), (1, .ref (aT t))] := hl
  obtain ⟨⟨h4, hTd, hNt, hNp, hnK, hK5⟩, ⟨gt, htA, hTi⟩, ⟨gp, hpA, hPk⟩, hinj⟩ := id hR
  have hpk : ∀ q, q < vNp V → zPack L f ca (aP q) (vP V q) (aH q 20) (aS q) (aH q) := fun q h => (hPk q h).2.1
  have hhi : ∀ q, q < vNp V → ∀ w, w ≤ 20 → zHist L f (aH q w) (vB V q w) (vL V q w) := fun q h w hw => ((hPk q h).2.2 w hw).1
  refine lv_aload_n hx hb dX4_yearsSoFar_0 rfl (lv_at hl 1 rfl) ?_
  refine zget (own := RX4) (ci := 3) (C := RX3) (T := TX3) (N := 2) hx hb hts (by decide +kernel) hown hE hP (hTi t ht).2.1 rfl 0 (by decide) (hts (.fieldLink RX4 56 "LinkResolver$Title" "firstYear" "I") (by decide +kernel)) rfl dX4_yearsSoFar_1 ?_
  refine lv_aload_n hx hb dX4_yearsSoFar_4 rfl (lv_at hl 0 rfl) ?_
  refine zget (own := RX4) (ci := 4) (C := RX4) (T := TX4) (N := 6) hx hb hts (by decide +kernel) hown hE hP h4 rfl 5 (by decide) (hts (.fieldLink RX4 31 "LinkResolver" "currentDay" "I") (by decide +kernel)) rfl dX4_yearsSoFar_5 ?_
  refine lv_sipush (v := nI 360) hx hb dX4_yearsSoFar_8 (by decide) ?_
  refine lv_idiv hx hb dX4_yearsSoFar_11 z360 ?_
  refine zasi (show ((nI (vTd V)) / (nI 360)) = nI (vTd V / 360) from zdiv hTd) ?_
  refine zcl (va_runS (As := [.int (nI (vT V t).1), .int (nI (vTd V / 360))]) (rest := []) ⟨hx, hb, hml, hown, hts⟩ (c_yearsBetween l D ca sa _ _ _) (va_cwS 2 hts gX4_yearsSoFar_X4_yearsBetween rfl rfl rfl (by decide +kernel) ⟨Nat.le_of_ble_eq_true rfl, Nat.le_of_ble_eq_true rfl⟩) (zpS hP hE) rfl rfl hl.1 rfl (lv_room (Nat.le_of_ble_eq_true rfl)) dX4_yearsSoFar_12 ⟨Nat.le_of_ble_eq_true rfl, Nat.le_of_ble_eq_true rfl⟩) ?_
  exact zrl hx hb hr hlocks dX4_yearsSoFar_15 (rfl)

set_option maxHeartbeats 4000000 in
set_option maxRecDepth 100000 in
theorem c_waysTo (l : Launch) (D : va_G) (ca : Nat → ClassId) (sa : Nat → Nat) (L : List Nat) (f : Nat → va_E) (h0 ta pa : Nat) (aT aP aS : Nat → Nat) (aH : Nat → Nat → Nat) (n K : Nat) (V : zV) (hR : zRep L f ca h0 ta pa aT aP aS aH n K V) (t : Nat) (ht : t < vNt V) (y g d : Nat) (hy : y ≤ 55) (hg : g ≤ 3) (hd : d ≤ 20000) : Met l yX4_waysTo wsX4_waysTo ({ frames := 6, cells := 0, slots := 0, locals := 240 }) (va_Pc [.ref h0, .int (nI t), .int (nI y), .int (nI g), .int (nI d)] (zPw D (va_pl L f) ca sa)) (vp_Si (fun r => r = wTo V t y g d (vNp V))) 0 0 (fun _ => False) := by
  refine Met.ofW (cc := cX4_waysTo) (maxL := 7) (ret := (some .int)) (by decide) rfl ?_
  intro p e s m args below meth c s₁ B hml hv
  obtain ⟨rfl, hP, hE⟩ := hv
  have hx := B.exec
  have hb := B.bytes
  have hr := B.returns
  have hts := atoms_spec (ws := wsX4_waysTo) B.pre
  have hown : s.vm.findClass RX4 = some m.cls := findClass_of_methodNamed B.named
  have hlocks := B.notSynchronized
  have hl := lv_entry ([.ref h0, .int (nI t), .int (nI y), .int (nI g), .int (nI d)]) (n := 7) (Nat.le_of_ble_eq_true rfl)
  rw [lg_entry_eq]
  generalize (lg_sl ([.ref h0, .int (nI t), .int (nI y), .int (nI g), .int (nI d)]) ++ List.replicate (7 - (lg_sl ([.ref h0, .int (nI t), .int (nI y), .int (nI g), .int (nI d)])).length) Slot.unset).toArray = ls at hl ⊢
  have hl : lv_has ls 7 [(0, .ref h0), (1, .int (nI t)), (2, .int (nI y)), (3, .int (nI g)), (4, .int (nI d))] := hl
  obtain ⟨⟨h4, hTd, hNt, hNp, hnK, hK5⟩, ⟨gt, htA, hTi⟩, ⟨gp, hpA, hPk⟩, hinj⟩ := id hR
  have hpk : ∀ q, q < vNp V → zPack L f ca (aP q) (vP V q) (aH q 20) (aS q) (aH q) := fun q h => (hPk q h).2.1
  have hhi : ∀ q, q < vNp V → ∀ w, w ≤ 20 → zHist L f (aH q w) (vB V q w) (vL V q w) := fun q h w hw => ((hPk q h).2.2 w hw).1
  have loop : ∀ (n9 : Nat) (k : Nat) (ls : Array Slot), k ≤ vNp V → vNp V < k + n9 → lv_has ls 7 [(6, .int (nI k)), (5, .int (wTo V t y g d k)), (0, .ref h0), (1, .int (nI t)), (2, .int (nI y)), (3, .int (nI g)), (4, .int (nI d))] → W p l e (headSpec wsX4_waysTo ({ frames := 6, cells := 0, slots := 0, locals := 240 })).room s m ([.ref h0, .int (nI t), .int (nI y), .int (nI g), .int (nI d)] : List Value).toArray below meth c s.heap [] 0 0 (MQ below (vp_Si (fun r => r = wTo V t y g d (vNp V))) ([.ref h0, .int (nI t), .int (nI y), .int (nI g), .int (nI d)] : List Value).toArray s 0 0 (fun _ => False)) (F0 m 6 ls []) := by
    intro n9
    induction n9 with
    | zero =>
      intro k ls hk hfu hl
      exact absurd hfu (by omega)
    | succ n9 ih =>
      intro k ls hk hfu hl
      refine lv_iload hx hb dX4_waysTo_6 (lv_at hl 0 rfl) ?_
      refine lv_aload_n hx hb dX4_waysTo_8 rfl (lv_at hl 2 rfl) ?_
      refine zget (own := RX4) (ci := 4) (C := RX4) (T := TX4) (N := 6) hx hb hts (by decide +kernel) hown hE hP h4 rfl 3 (by decide) (hts (.fieldLink RX4 25 "LinkResolver" "packCount" "I") (by decide +kernel)) rfl dX4_waysTo_9 ?_
      refine lv_icmp_ge (tgt := 47) hx hb dX4_waysTo_12 (by decide) (fun c_12 => ?_) (fun c_12 => ?_)
      · have e9 : k = vNp V := by have := (nI_leI (by omega) (by omega)).mp c_12; omega
        refine lv_iload hx hb dX4_waysTo_47 (lv_at hl 1 rfl) ?_
        exact zri hx hb hr hlocks dX4_waysTo_49 (by rw [e9])
      · have hk2 : k < vNp V := Nat.lt_of_not_le (fun q9 => c_12 ((nI_leI (by omega) (by omega)).mpr q9))
        refine lv_aload_n hx hb dX4_waysTo_15 rfl (lv_at hl 2 rfl) ?_
        refine lv_iload hx hb dX4_waysTo_16 (lv_at hl 0 rfl) ?_
        refine zcq (va_runV (As := [.int (nI k)]) (rest := []) ⟨hx, hb, hml, hown, hts⟩ (c_exPack l D ca sa L f h0 ta pa aT aP aS aH n K V hR k hk2) (cwV 1 hts gX4_waysTo_X4_existingPack rfl rfl rfl (by decide +kernel) ⟨Nat.le_of_ble_eq_true rfl, Nat.le_of_ble_eq_true rfl⟩) (zpVp hP hE (ci := 4) rfl h4) rfl rfl hl.1 rfl (lv_room (Nat.le_of_ble_eq_true rfl)) dX4_waysTo_18 ⟨Nat.le_of_ble_eq_true rfl, Nat.le_of_ble_eq_true rfl⟩) ?_
        refine W.eq (g2 := F0 m 21 ls [.ref (aP k)]) rfl ?_
        refine lv_iload_n hx hb dX4_waysTo_21 rfl (lv_at hl 3 rfl) ?_
        refine lv_iload_n hx hb dX4_waysTo_22 rfl (lv_at hl 4 rfl) ?_
        refine lv_iload_n hx hb dX4_waysTo_23 rfl (lv_at hl 5 rfl) ?_
        refine lv_iload hx hb dX4_waysTo_24 (lv_at hl 6 rfl) ?_
        refine zci (va_runS (As := [.ref (aP k), .int (nI t), .int (nI y), .int (nI g), .int (nI d)]) (rest := []) ⟨hx, hb, hml, hown, hts⟩ (c_isWay l D ca sa L f (aP k) (vP V k) (aH k 20) (aS k) (aH k) (hpk k hk2) t (vB V k t) (by omega) (vL V k t) (hhi k hk2 t (by omega)) (vB V k 20) (vL V k 20) (hhi k hk2 20 (by omega)) d hd y g hy hg) (va_cwS 5 hts gX4_waysTo_X4_isWay rfl rfl rfl (by decide +kernel) ⟨Nat.le_of_ble_eq_true rfl, Nat.le_of_ble_eq_true rfl⟩) (zpS hP hE) rfl rfl hl.1 rfl (lv_room (Nat.le_of_ble_eq_true rfl)) dX4_waysTo_26 ⟨Nat.le_of_ble_eq_true rfl, Nat.le_of_ble_eq_true rfl⟩) ?_
        refine lv_if_eq (tgt := 41) hx hb dX4_waysTo_29 (by decide) (fun c_29 => ?_) (fun c_29 => ?_)
        · have c_29 : bI (cWy V k t y g d) = 0 := c_29
          refine lv_iinc (v := nI (k + 1)) (lv' := [(6, .int (nI (k + 1))), (5, .int (wTo V t y g d k)), (0, .ref h0), (1, .int (nI t)), (2, .int (nI y)), (3, .int (nI g)), (4, .int (nI d))]) hx hb dX4_waysTo_41 hl (k := 0) rfl (zinc1 _) (by decide) rfl (fun ls hl => ?_)
          refine lv_goto (tgt := 6) hx hb dX4_waysTo_44 (by decide) ?_
          exact ih (k + 1) ls (by omega) (by omega) (by rw [wTo, if_neg (by rw [bI_eq0 c_29]; exact Bool.false_ne_true)]; exact lv_sub hl [0, 1, 2, 3, 4, 5, 6] rfl)
        · have c_29 : ¬ bI (cWy V k t y g d) = 0 := c_29
          refine lv_iload hx hb dX4_waysTo_32 (lv_at hl 1 rfl) ?_
          refine lv_iconst (v := nI 1) hx hb dX4_waysTo_34 (by decide) ?_
          refine lv_iload hx hb dX4_waysTo_35 (lv_at hl 0 rfl) ?_
          refine lv_ishl hx hb dX4_waysTo_37 ?_
          refine lv_ior hx hb dX4_waysTo_38 ?_
          refine lv_istore (lv' := [(5, .int ((wTo V t y g d k) ||| ((nI 1) <<< ((nI k) &&& 31)))), (6, .int (nI k)), (0, .ref h0), (1, .int (nI t)), (2, .int (nI y)), (3, .int (nI g)), (4, .int (nI d))]) hx hb dX4_waysTo_39 hl (by decide) rfl (fun ls hl => ?_)
          refine lv_iinc (v := nI (k + 1)) (lv' := [(6, .int (nI (k + 1))), (5, .int ((wTo V t y g d k) ||| ((nI 1) <<< ((nI k) &&& 31)))), (0, .ref h0), (1, .int (nI t)), (2, .int (nI y)), (3, .int (nI g)), (4, .int (nI d))]) hx hb dX4_waysTo_41 hl (k := 1) rfl (zinc1 _) (by decide) rfl (fun ls hl => ?_)
          refine lv_goto (tgt := 6) hx hb dX4_waysTo_44 (by decide) ?_
          exact ih (k + 1) ls (by omega) (by omega) (by rw [wTo, if_pos (bI_ne0 c_29)]; exact lv_sub hl [0, 1, 2, 3, 4, 5, 6] rfl)
  refine lv_iconst (v := nI 0) hx hb dX4_waysTo_0 (by decide) ?_
  refine lv_istore (lv' := [(5, .int (nI 0)), (0, .ref h0), (1, .int (nI t)), (2, .int (nI y)), (3, .int (nI g)), (4, .int (nI d))]) hx hb dX4_waysTo_1 hl (by decide) rfl (fun ls hl => ?_)
  refine lv_iconst (v := nI 0) hx hb dX4_waysTo_3 (by decide) ?_
  refine lv_istore (lv' := [(6, .int (nI 0)), (5, .int (nI 0)), (0, .ref h0), (1, .int (nI t)), (2, .int (nI y)), (3, .int (nI g)), (4, .int (nI d))]) hx hb dX4_waysTo_4 hl (by decide) rfl (fun ls hl => ?_)
  exact loop (vNp V + 1) 0 ls (Nat.zero_le _) (by omega) (lv_sub hl [0, 1, 2, 3, 4, 5, 6] rfl)

set_option maxHeartbeats 4000000 in
set_option maxRecDepth 100000 in
theorem c_isAmong (l : Launch) (D : va_G) (ca : Nat → ClassId) (sa : Nat → Nat) (ws : va_W) (x : Int32) (k : Nat) : Met l yX4_isAmong wsX4_isAmong ({ frames := 1, cells := 0, slots := 0, locals := 40 }) (va_Pc [.int x, .int (nI k)] (zPw D ws ca sa)) (vp_Si (fun r => r = bI (aM x k))) 0 0 (fun _ => False) := by
  refine Met.ofW (cc := cX4_isAmong) (maxL := 2) (ret := (some .boolean)) (by decide) rfl ?_
  intro p e s m args below meth c s₁ B hml hv
  obtain ⟨rfl, hP, hE⟩ := hv
  have hx := B.exec
  have hb := B.bytes
  have hr := B.returns
  have hts := atoms_spec (ws := wsX4_isAmong) B.pre
  have hown : s.vm.findClass RX4 = some m.cls := findClass_of_methodNamed B.named
  have hlocks := B.notSynchronized
  have hl := lv_entry ([.int x, .int (nI k)]) (n := 2) (Nat.le_of_ble_eq_true rfl)
  rw [lg_entry_eq]
  generalize (lg_sl ([.int x, .int (nI k)]) ++ List.replicate (2 - (lg_sl ([.int x, .int (nI k)])).length) Slot.unset).toArray = ls at hl ⊢
  have hl : lv_has ls 2 [(0, .int x), (1, .int (nI k))] := hl
  refine lv_iload_n hx hb dX4_isAmong_0 rfl (lv_at hl 0 rfl) ?_
  refine lv_iload_n hx hb dX4_isAmong_1 rfl (lv_at hl 1 rfl) ?_
  refine lv_ishr hx hb dX4_isAmong_2 ?_
  refine lv_iconst (v := nI 1) hx hb dX4_isAmong_3 (by decide) ?_
  refine lv_iand hx hb dX4_isAmong_4 ?_
  refine lv_iconst (v := nI 1) hx hb dX4_isAmong_5 (by decide) ?_
  refine lv_icmp_ne (tgt := 13) hx hb dX4_isAmong_6 (by decide) (fun c_6 => ?_) (fun c_6 => ?_)
  · refine lv_iconst (v := nI 0) hx hb dX4_isAmong_13 (by decide) ?_
    exact zrz hx hb hr hlocks dX4_isAmong_14 rfl (bI_f c_6)
  · refine lv_iconst (v := nI 1) hx hb dX4_isAmong_9 (by decide) ?_
    refine lv_goto (tgt := 14) hx hb dX4_isAmong_10 (by decide) ?_
    exact zrz hx hb hr hlocks dX4_isAmong_14 rfl (bI_t c_6)

set_option maxHeartbeats 4000000 in
set_option maxRecDepth 100000 in
theorem c_isAhead (l : Launch) (D : va_G) (ca : Nat → ClassId) (sa : Nat → Nat) (L : List Nat) (f : Nat → va_E) (h0 ta pa : Nat) (aT aP aS : Nat → Nat) (aH : Nat → Nat → Nat) (n K : Nat) (V : zV) (hR : zRep L f ca h0 ta pa aT aP aS aH n K V) (q q2 t : Nat) (hq : q < vNp V) (hq2 : q2 < vNp V) (ht : t < vNt V) : Met l yX4_isAhead wsX4_isAhead ({ frames := 3, cells := 0, slots := 0, locals := 120 }) (va_Pc [.ref h0, .int (nI q), .int (nI q2), .int (nI t)] (zPw D (va_pl L f) ca sa)) (vp_Si (fun r => r = bI (cAhead V q q2 t))) 0 0 (fun _ => False) := by
  refine Met.ofW (cc := cX4_isAhead) (maxL := 7) (ret := (some .boolean)) (by decide) rfl ?_
  intro p e s m args below meth c s₁ B hml hv
  obtain ⟨rfl, hP, hE⟩ := hv
  have hx := B.exec
  have hb := B.bytes
  have hr := B.returns
  have hts := atoms_spec (ws := wsX4_isAhead) B.pre
  have hown : s.vm.findClass RX4 = some m.cls := findClass_of_methodNamed B.named
  have hlocks := B.notSynchronized
  have hl := lv_entry ([.ref h0, .int (nI q), .int (nI q2), .int (nI t)]) (n := 7) (Nat.le_of_ble_eq_true rfl)
  rw [lg_entry_eq]
  generalize (lg_sl ([.ref h0, .int (nI q), .int (nI q2), .int (nI t)]) ++ List.replicate (7 - (lg_sl ([.ref h0, .int (nI q), .int (nI q2), .int (nI t)])).length) Slot.unset).toArray = ls at hl ⊢
  have hl : lv_has ls 7 [(0, .ref h0), (1, .int (nI q)), (2, .int (nI q2)), (3, .int (nI t))] := hl
  obtain ⟨⟨h4, hTd, hNt, hNp, hnK, hK5⟩, ⟨gt, htA, hTi⟩, ⟨gp, hpA, hPk⟩, hinj⟩ := id hR
  have hpk : ∀ q, q < vNp V → zPack L f ca (aP q) (vP V q) (aH q 20) (aS q) (aH q) := fun q h => (hPk q h).2.1
  have hhi : ∀ q, q < vNp V → ∀ w, w ≤ 20 → zHist L f (aH q w) (vB V q w) (vL V q w) := fun q h w hw => ((hPk q h).2.2 w hw).1
  have b1 := (hpk q hq).1.2
  have b2 := (hpk q2 hq2).1.2
  refine lv_aload_n hx hb dX4_isAhead_0 rfl (lv_at hl 0 rfl) ?_
  refine lv_iload_n hx hb dX4_isAhead_1 rfl (lv_at hl 1 rfl) ?_
  refine zcq (va_runV (As := [.int (nI q)]) (rest := []) ⟨hx, hb, hml, hown, hts⟩ (c_exPack l D ca sa L f h0 ta pa aT aP aS aH n K V hR q hq) (cwV 1 hts gX4_isAhead_X4_existingPack rfl rfl rfl (by decide +kernel) ⟨Nat.le_of_ble_eq_true rfl, Nat.le_of_ble_eq_true rfl⟩) (zpVp hP hE (ci := 4) rfl h4) rfl rfl hl.1 rfl (lv_room (Nat.le_of_ble_eq_true rfl)) dX4_isAhead_2 ⟨Nat.le_of_ble_eq_true rfl, Nat.le_of_ble_eq_true rfl⟩) ?_
  refine W.eq (g2 := F0 m 5 ls [.ref (aP q)]) rfl ?_
  refine lv_astore (lv' := [(4, .ref (aP q)), (0, .ref h0), (1, .int (nI q)), (2, .int (nI q2)), (3, .int (nI t))]) hx hb dX4_isAhead_5 hl (by decide) rfl (fun ls hl => ?_)
  refine lv_aload_n hx hb dX4_isAhead_7 rfl (lv_at hl 1 rfl) ?_
  refine lv_iload_n hx hb dX4_isAhead_8 rfl (lv_at hl 3 rfl) ?_
  refine zcq (va_runV (As := [.int (nI q2)]) (rest := []) ⟨hx, hb, hml, hown, hts⟩ (c_exPack l D ca sa L f h0 ta pa aT aP aS aH n K V hR q2 hq2) (cwV 1 hts gX4_isAhead_X4_existingPack rfl rfl rfl (by decide +kernel) ⟨Nat.le_of_ble_eq_true rfl, Nat.le_of_ble_eq_true rfl⟩) (zpVp hP hE (ci := 4) rfl h4) rfl rfl hl.1 rfl (lv_room (Nat.le_of_ble_eq_true rfl)) dX4_isAhead_9 ⟨Nat.le_of_ble_eq_true rfl, Nat.le_of_ble_eq_true rfl⟩) ?_
  refine W.eq (g2 := F0 m 12 ls [.ref (aP q2)]) rfl ?_
  refine lv_astore (lv' := [(5, .ref (aP q2)), (4, .ref (aP q)), (0, .ref h0), (1, .int (nI q)), (2, .int (nI q2)), (3, .int (nI t))]) hx hb dX4_isAhead_12 hl (by decide) rfl (fun ls hl => ?_)
  refine lv_aload hx hb dX4_isAhead_14 (lv_at hl 1 rfl) ?_
  refine lv_iload_n hx hb dX4_isAhead_16 rfl (lv_at hl 5 rfl) ?_
  refine zci (va_runV (As := [.int (nI t)]) (rest := []) ⟨hx, hb, hml, hown, hts⟩ (c_isBroken l D ca sa L f (aP q) (vP V q) (aH q 20) (aS q) (aH q) (hpk q hq) t (vB V q t) (by omega) (vL V q t) (hhi q hq t (by omega)) (by have := ((hPk q hq).2.2 t (by omega)).2; omega)) (cwV 1 hts gX4_isAhead_X2_isBroken rfl rfl rfl (by decide +kernel) ⟨Nat.le_of_ble_eq_true rfl, Nat.le_of_ble_eq_true rfl⟩) (zpVp hP hE (ci := 2) rfl (hpk q hq).1.1) rfl rfl hl.1 rfl (lv_room (Nat.le_of_ble_eq_true rfl)) dX4_isAhead_17 ⟨Nat.le_of_ble_eq_true rfl, Nat.le_of_ble_eq_true rfl⟩) ?_
  refine lv_istore (lv' := [(6, .int (bI (decide (2 ≤ vB V q t)))), (5, .ref (aP q2)), (4, .ref (aP q)), (0, .ref h0), (1, .int (nI q)), (2, .int (nI q2)), (3, .int (nI t))]) hx hb dX4_isAhead_20 hl (by decide) rfl (fun ls hl => ?_)
  refine lv_iload hx hb dX4_isAhead_22 (lv_at hl 0 rfl) ?_
  refine lv_aload hx hb dX4_isAhead_24 (lv_at hl 1 rfl) ?_
  refine lv_iload_n hx hb dX4_isAhead_26 rfl (lv_at hl 6 rfl) ?_
  refine zci (va_runV (As := [.int (nI t)]) (rest := [.int (bI (decide (2 ≤ vB V q t)))]) ⟨hx, hb, hml, hown, hts⟩ (c_isBroken l D ca sa L f (aP q2) (vP V q2) (aH q2 20) (aS q2) (aH q2) (hpk q2 hq2) t (vB V q2 t) (by omega) (vL V q2 t) (hhi q2 hq2 t (by omega)) (by have := ((hPk q2 hq2).2.2 t (by omega)).2; omega)) (cwV 1 hts gX4_isAhead_X2_isBroken rfl rfl rfl (by decide +kernel) ⟨Nat.le_of_ble_eq_true rfl, Nat.le_of_ble_eq_true rfl⟩) (zpVp hP hE (ci := 2) rfl (hpk q2 hq2).1.1) rfl rfl hl.1 rfl (lv_room (Nat.le_of_ble_eq_true rfl)) dX4_isAhead_27 ⟨Nat.le_of_ble_eq_true rfl, Nat.le_of_ble_eq_true rfl⟩) ?_
  refine lv_icmp_eq (tgt := 44) hx hb dX4_isAhead_30 (by decide) (fun c_30 => ?_) (fun c_30 => ?_)
  · have e9 := bI_inj c_30
    refine lv_aload hx hb dX4_isAhead_44 (lv_at hl 2 rfl) ?_
    refine zget (own := RX4) (ci := 2) (C := RX2) (T := TX2) (N := 6) hx hb hts (by decide +kernel) hown hE hP (hpk q hq).1.1 rfl 0 (by decide) (hts (.fieldLink RX4 180 "LinkResolver$Pack" "cost" "I") (by decide +kernel)) rfl dX4_isAhead_46 ?_
    refine lv_aload hx hb dX4_isAhead_49 (lv_at hl 1 rfl) ?_
    refine zget (own := RX4) (ci := 2) (C := RX2) (T := TX2) (N := 6) hx hb hts (by decide +kernel) hown hE hP (hpk q2 hq2).1.1 rfl 0 (by decide) (hts (.fieldLink RX4 180 "LinkResolver$Pack" "cost" "I") (by decide +kernel)) rfl dX4_isAhead_51 ?_
    refine lv_icmp_eq (tgt := 76) hx hb dX4_isAhead_54 (by decide) (fun c_54 => ?_) (fun c_54 => ?_)
    · have e8 := (nI_eq (by omega) (by omega)).mp c_54
      refine lv_aload hx hb dX4_isAhead_76 (lv_at hl 2 rfl) ?_
      refine zget (own := RX4) (ci := 2) (C := RX2) (T := TX2) (N := 6) hx hb hts (by decide +kernel) hown hE hP (hpk q hq).1.1 rfl 1 (by decide) (hts (.fieldLink RX4 183 "LinkResolver$Pack" "version" "I") (by decide +kernel)) rfl dX4_isAhead_78 ?_
      refine lv_aload hx hb dX4_isAhead_81 (lv_at hl 1 rfl) ?_
      refine zget (own := RX4) (ci := 2) (C := RX2) (T := TX2) (N := 6) hx hb hts (by decide +kernel) hown hE hP (hpk q2 hq2).1.1 rfl 1 (by decide) (hts (.fieldLink RX4 183 "LinkResolver$Pack" "version" "I") (by decide +kernel)) rfl dX4_isAhead_83 ?_
      refine lv_icmp_eq (tgt := 108) hx hb dX4_isAhead_86 (by decide) (fun c_86 => ?_) (fun c_86 => ?_)
      · have e7 := (nI_eq (by omega) (by omega)).mp c_86
        refine lv_iload_n hx hb dX4_isAhead_108 rfl (lv_at hl 4 rfl) ?_
        refine lv_iload_n hx hb dX4_isAhead_109 rfl (lv_at hl 5 rfl) ?_
        refine lv_icmp_ge (tgt := 117) hx hb dX4_isAhead_110 (by decide) (fun c_110 => ?_) (fun c_110 => ?_)
        · refine lv_iconst (v := nI 0) hx hb dX4_isAhead_117 (by decide) ?_
          exact zrz hx hb hr hlocks dX4_isAhead_118 rfl (by rw [cAhead, if_pos e9, if_pos e8, if_pos e7]; exact bI_f (fun q9 => absurd ((nI_leI (by omega) (by omega)).mp c_110) (by omega)))
        · refine lv_iconst (v := nI 1) hx hb dX4_isAhead_113 (by decide) ?_
          refine lv_goto (tgt := 118) hx hb dX4_isAhead_114 (by decide) ?_
          exact zrz hx hb hr hlocks dX4_isAhead_118 rfl (by rw [cAhead, if_pos e9, if_pos e8, if_pos e7]; exact bI_t (Nat.lt_of_not_le (fun q9 => c_110 ((nI_leI (by omega) (by omega)).mpr q9))))
      · have e7 : ¬ (vP V q).2.1 = (vP V q2).2.1 := fun q9 => c_86 (by rw [q9])
        refine lv_aload hx hb dX4_isAhead_89 (lv_at hl 2 rfl) ?_
        refine zget (own := RX4) (ci := 2) (C := RX2) (T := TX2) (N := 6) hx hb hts (by decide +kernel) hown hE hP (hpk q hq).1.1 rfl 1 (by decide) (hts (.fieldLink RX4 183 "LinkResolver$Pack" "version" "I") (by decide +kernel)) rfl dX4_isAhead_91 ?_
        refine lv_aload hx hb dX4_isAhead_94 (lv_at hl 1 rfl) ?_
        refine zget (own := RX4) (ci := 2) (C := RX2) (T := TX2) (N := 6) hx hb hts (by decide +kernel) hown hE hP (hpk q2 hq2).1.1 rfl 1 (by decide) (hts (.fieldLink RX4 183 "LinkResolver$Pack" "version" "I") (by decide +kernel)) rfl dX4_isAhead_96 ?_
        refine lv_icmp_ge (tgt := 106) hx hb dX4_isAhead_99 (by decide) (fun c_99 => ?_) (fun c_99 => ?_)
        · refine lv_iconst (v := nI 0) hx hb dX4_isAhead_106 (by decide) ?_
          exact zrz hx hb hr hlocks dX4_isAhead_107 rfl (by rw [cAhead, if_pos e9, if_pos e8, if_neg e7]; exact bI_f (fun q9 => absurd ((nI_leI (by omega) (by omega)).mp c_99) (by omega)))
        · refine lv_iconst (v := nI 1) hx hb dX4_isAhead_102 (by decide) ?_
          refine lv_goto (tgt := 107) hx hb dX4_isAhead_103 (by decide) ?_
          exact zrz hx hb hr hlocks dX4_isAhead_107 rfl (by rw [cAhead, if_pos e9, if_pos e8, if_neg e7]; exact bI_t (Nat.lt_of_not_le (fun q9 => c_99 ((nI_leI (by omega) (by omega)).mpr q9))))
    · have e8 : ¬ (vP V q).1 = (vP V q2).1 := fun q9 => c_54 (by rw [q9])
      refine lv_aload hx hb dX4_isAhead_57 (lv_at hl 2 rfl) ?_
      refine zget (own := RX4) (ci := 2) (C := RX2) (T := TX2) (N := 6) hx hb hts (by decide +kernel) hown hE hP (hpk q hq).1.1 rfl 0 (by decide) (hts (.fieldLink RX4 180 "LinkResolver$Pack" "cost" "I") (by decide +kernel)) rfl dX4_isAhead_59 ?_
      refine lv_aload hx hb dX4_isAhead_62 (lv_at hl 1 rfl) ?_
      refine zget (own := RX4) (ci := 2) (C := RX2) (T := TX2) (N := 6) hx hb hts (by decide +kernel) hown hE hP (hpk q2 hq2).1.1 rfl 0 (by decide) (hts (.fieldLink RX4 180 "LinkResolver$Pack" "cost" "I") (by decide +kernel)) rfl dX4_isAhead_64 ?_
      refine lv_icmp_ge (tgt := 74) hx hb dX4_isAhead_67 (by decide) (fun c_67 => ?_) (fun c_67 => ?_)
      · refine lv_iconst (v := nI 0) hx hb dX4_isAhead_74 (by decide) ?_
        exact zrz hx hb hr hlocks dX4_isAhead_75 rfl (by rw [cAhead, if_pos e9, if_neg e8]; exact bI_f (fun q9 => absurd ((nI_leI (by omega) (by omega)).mp c_67) (by omega)))
      · refine lv_iconst (v := nI 1) hx hb dX4_isAhead_70 (by decide) ?_
        refine lv_goto (tgt := 75) hx hb dX4_isAhead_71 (by decide) ?_
        exact zrz hx hb hr hlocks dX4_isAhead_75 rfl (by rw [cAhead, if_pos e9, if_neg e8]; exact bI_t (Nat.lt_of_not_le (fun q9 => c_67 ((nI_leI (by omega) (by omega)).mpr q9))))
  · have e9 : ¬ decide (2 ≤ vB V q t) = decide (2 ≤ vB V q2 t) := fun q9 => c_30 (by rw [q9])
    refine lv_iload hx hb dX4_isAhead_33 (lv_at hl 0 rfl) ?_
    refine lv_if_ne (tgt := 42) hx hb dX4_isAhead_35 (by decide) (fun c_35 => ?_) (fun c_35 => ?_)
    · refine lv_iconst (v := nI 0) hx hb dX4_isAhead_42 (by decide) ?_
      exact zrz hx hb hr hlocks dX4_isAhead_43 rfl (by rw [cAhead, if_neg e9, bI_ne0 c_35]; rfl)
    · refine lv_iconst (v := nI 1) hx hb dX4_isAhead_38 (by decide) ?_
      refine lv_goto (tgt := 43) hx hb dX4_isAhead_39 (by decide) ?_
      exact zrz hx hb hr hlocks dX4_isAhead_43 rfl (by rw [cAhead, if_neg e9, bI_eq0 c_35]; rfl)

set_option maxHeartbeats 4000000 in
set_option maxRecDepth 100000 in
theorem c_placeAmong (l : Launch) (D : va_G) (ca : Nat → ClassId) (sa : Nat → Nat) (L : List Nat) (f : Nat → va_E) (h0 ta pa : Nat) (aT aP aS : Nat → Nat) (aH : Nat → Nat → Nat) (n K : Nat) (V : zV) (hR : zRep L f ca h0 ta pa aT aP aS aH n K V) (x : Int32) (q : Nat) (hq : q < vNp V) (t : Nat) (ht : t < vNt V) : Met l yX4_placeAmong wsX4_placeAmong ({ frames := 4, cells := 0, slots := 0, locals := 160 }) (va_Pc [.ref h0, .int x, .int (nI q), .int (nI t)] (zPw D (va_pl L f) ca sa)) (vp_Si (fun r => r = nI (cPla V x q t (vNp V)))) 0 0 (fun _ => False) := by
  refine Met.ofW (cc := cX4_placeAmong) (maxL := 6) (ret := (some .int)) (by decide) rfl ?_
  intro p e s m args below meth c s₁ B hml hv
  obtain ⟨rfl, hP, hE⟩ := hv
  have hx := B.exec
  have hb := B.bytes
  have hr := B.returns
  have hts := atoms_spec (ws := wsX4_placeAmong) B.pre
  have hown : s.vm.findClass RX4 = some m.cls := findClass_of_methodNamed B.named
  have hlocks := B.notSynchronized
  have hl := lv_entry ([.ref h0, .int x, .int (nI q), .int (nI t)]) (n := 6) (Nat.le_of_ble_eq_true rfl)
  rw [lg_entry_eq]
  generalize (lg_sl ([.ref h0, .int x, .int (nI q), .int (nI t)]) ++ List.replicate (6 - (lg_sl ([.ref h0, .int x, .int (nI q), .int (nI t)])).length) Slot.unset).toArray = ls at hl ⊢
  have hl : lv_has ls 6 [(0, .ref h0), (1, .int x), (2, .int (nI q)), (3, .int (nI t))] := hl
  obtain ⟨⟨h4, hTd, hNt, hNp, hnK, hK5⟩, ⟨gt, htA, hTi⟩, ⟨gp, hpA, hPk⟩, hinj⟩ := id hR
  have hpk : ∀ q, q < vNp V → zPack L f ca (aP q) (vP V q) (aH q 20) (aS q) (aH q) := fun q h => (hPk q h).2.1
  have hhi : ∀ q, q < vNp V → ∀ w, w ≤ 20 → zHist L f (aH q w) (vB V q w) (vL V q w) := fun q h w hw => ((hPk q h).2.2 w hw).1
  have loop : ∀ (n9 : Nat) (k : Nat) (ls : Array Slot), k ≤ vNp V → vNp V < k + n9 → lv_has ls 6 [(5, .int (nI k)), (4, .int (nI (cPla V x q t k))), (0, .ref h0), (1, .int x), (2, .int (nI q)), (3, .int (nI t))] → W p l e (headSpec wsX4_placeAmong ({ frames := 4, cells := 0, slots := 0, locals := 160 })).room s m ([.ref h0, .int x, .int (nI q), .int (nI t)] : List Value).toArray below meth c s.heap [] 0 0 (MQ below (vp_Si (fun r => r = nI (cPla V x q t (vNp V)))) ([.ref h0, .int x, .int (nI q), .int (nI t)] : List Value).toArray s 0 0 (fun _ => False)) (F0 m 6 ls []) := by
    intro n9
    induction n9 with
    | zero =>
      intro k ls hk hfu hl
      exact absurd hfu (by omega)
    | succ n9 ih =>
      intro k ls hk hfu hl
      refine lv_iload hx hb dX4_placeAmong_6 (lv_at hl 0 rfl) ?_
      refine lv_aload_n hx hb dX4_placeAmong_8 rfl (lv_at hl 2 rfl) ?_
      refine zget (own := RX4) (ci := 4) (C := RX4) (T := TX4) (N := 6) hx hb hts (by decide +kernel) hown hE hP h4 rfl 3 (by decide) (hts (.fieldLink RX4 25 "LinkResolver" "packCount" "I") (by decide +kernel)) rfl dX4_placeAmong_9 ?_
      refine lv_icmp_ge (tgt := 50) hx hb dX4_placeAmong_12 (by decide) (fun c_12 => ?_) (fun c_12 => ?_)
      · have e9 : k = vNp V := by have := (nI_leI (by omega) (by omega)).mp c_12; omega
        refine lv_iload hx hb dX4_placeAmong_50 (lv_at hl 1 rfl) ?_
        exact zri hx hb hr hlocks dX4_placeAmong_52 (by rw [e9])
      · have hk2 : k < vNp V := Nat.lt_of_not_le (fun q9 => c_12 ((nI_leI (by omega) (by omega)).mpr q9))
        refine lv_iload hx hb dX4_placeAmong_15 (lv_at hl 0 rfl) ?_
        refine lv_iload_n hx hb dX4_placeAmong_17 rfl (lv_at hl 4 rfl) ?_
        refine lv_icmp_eq (tgt := 44) hx hb dX4_placeAmong_18 (by decide) (fun c_18 => ?_) (fun c_18 => ?_)
        · refine lv_iinc (v := nI (k + 1)) (lv' := [(5, .int (nI (k + 1))), (4, .int (nI (cPla V x q t k))), (0, .ref h0), (1, .int x), (2, .int (nI q)), (3, .int (nI t))]) hx hb dX4_placeAmong_44 hl (k := 0) rfl (zinc1 _) (by decide) rfl (fun ls hl => ?_)
          refine lv_goto (tgt := 6) hx hb dX4_placeAmong_47 (by decide) ?_
          exact ih (k + 1) ls (by omega) (by omega) (by rw [cPla, if_neg (fun q9 => q9.1 ((nI_eq (by omega) (by omega)).mp c_18))]; exact lv_sub hl [0, 1, 2, 3, 4, 5] rfl)
        · refine lv_iload_n hx hb dX4_placeAmong_21 rfl (lv_at hl 3 rfl) ?_
          refine lv_iload hx hb dX4_placeAmong_22 (lv_at hl 0 rfl) ?_
          refine zci (va_runS (As := [.int x, .int (nI k)]) (rest := []) ⟨hx, hb, hml, hown, hts⟩ (c_isAmong l D ca sa _ x k) (va_cwS 2 hts gX4_placeAmong_X4_isAmong rfl rfl rfl (by decide +kernel) ⟨Nat.le_of_ble_eq_true rfl, Nat.le_of_ble_eq_true rfl⟩) (zpS hP hE) rfl rfl hl.1 rfl (lv_room (Nat.le_of_ble_eq_true rfl)) dX4_placeAmong_24 ⟨Nat.le_of_ble_eq_true rfl, Nat.le_of_ble_eq_true rfl⟩) ?_
          refine lv_if_eq (tgt := 44) hx hb dX4_placeAmong_27 (by decide) (fun c_27 => ?_) (fun c_27 => ?_)
          · refine lv_iinc (v := nI (k + 1)) (lv' := [(5, .int (nI (k + 1))), (4, .int (nI (cPla V x q t k))), (0, .ref h0), (1, .int x), (2, .int (nI q)), (3, .int (nI t))]) hx hb dX4_placeAmong_44 hl (k := 0) rfl (zinc1 _) (by decide) rfl (fun ls hl => ?_)
            refine lv_goto (tgt := 6) hx hb dX4_placeAmong_47 (by decide) ?_
            exact ih (k + 1) ls (by omega) (by omega) (by rw [cPla, if_neg (fun q9 => absurd q9.2.1 (by rw [bI_eq0 c_27]; exact Bool.false_ne_true))]; exact lv_sub hl [0, 1, 2, 3, 4, 5] rfl)
          · refine lv_aload_n hx hb dX4_placeAmong_30 rfl (lv_at hl 2 rfl) ?_
            refine lv_iload hx hb dX4_placeAmong_31 (lv_at hl 0 rfl) ?_
            refine lv_iload_n hx hb dX4_placeAmong_33 rfl (lv_at hl 4 rfl) ?_
            refine lv_iload_n hx hb dX4_placeAmong_34 rfl (lv_at hl 5 rfl) ?_
            refine zci (va_runV (As := [.int (nI k), .int (nI q), .int (nI t)]) (rest := []) ⟨hx, hb, hml, hown, hts⟩ (c_isAhead l D ca sa L f h0 ta pa aT aP aS aH n K V hR k q t hk2 hq ht) (cwV 3 hts gX4_placeAmong_X4_isAhead rfl rfl rfl (by decide +kernel) ⟨Nat.le_of_ble_eq_true rfl, Nat.le_of_ble_eq_true rfl⟩) (zpVp hP hE (ci := 4) rfl h4) rfl rfl hl.1 rfl (lv_room (Nat.le_of_ble_eq_true rfl)) dX4_placeAmong_35 ⟨Nat.le_of_ble_eq_true rfl, Nat.le_of_ble_eq_true rfl⟩) ?_
            refine lv_if_eq (tgt := 44) hx hb dX4_placeAmong_38 (by decide) (fun c_38 => ?_) (fun c_38 => ?_)
            · refine lv_iinc (v := nI (k + 1)) (lv' := [(5, .int (nI (k + 1))), (4, .int (nI (cPla V x q t k))), (0, .ref h0), (1, .int x), (2, .int (nI q)), (3, .int (nI t))]) hx hb dX4_placeAmong_44 hl (k := 0) rfl (zinc1 _) (by decide) rfl (fun ls hl => ?_)
              refine lv_goto (tgt := 6) hx hb dX4_placeAmong_47 (by decide) ?_
              exact ih (k + 1) ls (by omega) (by omega) (by rw [cPla, if_neg (fun q9 => absurd q9.2.2 (by rw [bI_eq0 c_38]; exact Bool.false_ne_true))]; exact lv_sub hl [0, 1, 2, 3, 4, 5] rfl)
            · refine lv_iinc (v := nI (cPla V x q t k + 1)) (lv' := [(4, .int (nI (cPla V x q t k + 1))), (5, .int (nI k)), (0, .ref h0), (1, .int x), (2, .int (nI q)), (3, .int (nI t))]) hx hb dX4_placeAmong_41 hl (k := 1) rfl (zinc1 _) (by decide) rfl (fun ls hl => ?_)
              refine lv_iinc (v := nI (k + 1)) (lv' := [(5, .int (nI (k + 1))), (4, .int (nI (cPla V x q t k + 1))), (0, .ref h0), (1, .int x), (2, .int (nI q)), (3, .int (nI t))]) hx hb dX4_placeAmong_44 hl (k := 1) rfl (zinc1 _) (by decide) rfl (fun ls hl => ?_)
              refine lv_goto (tgt := 6) hx hb dX4_placeAmong_47 (by decide) ?_
              exact ih (k + 1) ls (by omega) (by omega) (by rw [cPla, if_pos ⟨fun q9 => c_18 (by rw [q9]), bI_ne0 c_27, bI_ne0 c_38⟩]; exact lv_sub hl [0, 1, 2, 3, 4, 5] rfl)
  refine lv_iconst (v := nI 0) hx hb dX4_placeAmong_0 (by decide) ?_
  refine lv_istore (lv' := [(4, .int (nI 0)), (0, .ref h0), (1, .int x), (2, .int (nI q)), (3, .int (nI t))]) hx hb dX4_placeAmong_1 hl (by decide) rfl (fun ls hl => ?_)
  refine lv_iconst (v := nI 0) hx hb dX4_placeAmong_3 (by decide) ?_
  refine lv_istore (lv' := [(5, .int (nI 0)), (4, .int (nI 0)), (0, .ref h0), (1, .int x), (2, .int (nI q)), (3, .int (nI t))]) hx hb dX4_placeAmong_4 hl (by decide) rfl (fun ls hl => ?_)
  exact loop (vNp V + 1) 0 ls (Nat.zero_le _) (by omega) (lv_sub hl [0, 1, 2, 3, 4, 5] rfl)

set_option maxHeartbeats 4000000 in
set_option maxRecDepth 100000 in
theorem c_ycb (l : Launch) (D : va_G) (ca : Nat → ClassId) (sa : Nat → Nat) (L : List Nat) (f : Nat → va_E) (h0 ta pa : Nat) (aT aP aS : Nat → Nat) (aH : Nat → Nat → Nat) (n K : Nat) (V : zV) (hR : zRep L f ca h0 ta pa aT aP aS aH n K V) (lf : Int32) (t : Nat) (ht : t < vNt V) (g : Nat) (hg : g ≤ 3) : Met l yX4_yearsCoveredButBy wsX4_yearsCoveredButBy ({ frames := 5, cells := 0, slots := 0, locals := 200 }) (va_Pc [.ref h0, .int lf, .int (nI t), .int (nI g)] (zPw D (va_pl L f) ca sa)) (vp_Sl (fun r => r = cYC V lf t g (vNp V))) 0 0 (fun _ => False) := by
  refine Met.ofW (cc := cX4_yearsCoveredButBy) (maxL := 8) (ret := (some .long)) (by decide) rfl ?_
  intro p e s m args below meth c s₁ B hml hv
  obtain ⟨rfl, hP, hE⟩ := hv
  have hx := B.exec
  have hb := B.bytes
  have hr := B.returns
  have hts := atoms_spec (ws := wsX4_yearsCoveredButBy) B.pre
  have hown : s.vm.findClass RX4 = some m.cls := findClass_of_methodNamed B.named
  have hlocks := B.notSynchronized
  have hl := lv_entry ([.ref h0, .int lf, .int (nI t), .int (nI g)]) (n := 8) (Nat.le_of_ble_eq_true rfl)
  rw [lg_entry_eq]
  generalize (lg_sl ([.ref h0, .int lf, .int (nI t), .int (nI g)]) ++ List.replicate (8 - (lg_sl ([.ref h0, .int lf, .int (nI t), .int (nI g)])).length) Slot.unset).toArray = ls at hl ⊢
  have hl : lv_has ls 8 [(0, .ref h0), (1, .int lf), (2, .int (nI t)), (3, .int (nI g))] := hl
  obtain ⟨⟨h4, hTd, hNt, hNp, hnK, hK5⟩, ⟨gt, htA, hTi⟩, ⟨gp, hpA, hPk⟩, hinj⟩ := id hR
  have hpk : ∀ q, q < vNp V → zPack L f ca (aP q) (vP V q) (aH q 20) (aS q) (aH q) := fun q h => (hPk q h).2.1
  have hhi : ∀ q, q < vNp V → ∀ w, w ≤ 20 → zHist L f (aH q w) (vB V q w) (vL V q w) := fun q h w hw => ((hPk q h).2.2 w hw).1
  have loop : ∀ (n9 : Nat) (k : Nat) (ls : Array Slot), k ≤ vNp V → vNp V < k + n9 → lv_has ls 8 [(6, .int (nI k)), (4, .long (cYC V lf t g k)), (0, .ref h0), (1, .int lf), (2, .int (nI t)), (3, .int (nI g))] → W p l e (headSpec wsX4_yearsCoveredButBy ({ frames := 5, cells := 0, slots := 0, locals := 200 })).room s m ([.ref h0, .int lf, .int (nI t), .int (nI g)] : List Value).toArray below meth c s.heap [] 0 0 (MQ below (vp_Sl (fun r => r = cYC V lf t g (vNp V))) ([.ref h0, .int lf, .int (nI t), .int (nI g)] : List Value).toArray s 0 0 (fun _ => False)) (F0 m 6 ls []) := by
    intro n9
    induction n9 with
    | zero =>
      intro k ls hk hfu hl
      exact absurd hfu (by omega)
    | succ n9 ih =>
      intro k ls hk hfu hl
      refine lv_iload hx hb dX4_yearsCoveredButBy_6 (lv_at hl 0 rfl) ?_
      refine lv_aload_n hx hb dX4_yearsCoveredButBy_8 rfl (lv_at hl 2 rfl) ?_
      refine zget (own := RX4) (ci := 4) (C := RX4) (T := TX4) (N := 6) hx hb hts (by decide +kernel) hown hE hP h4 rfl 3 (by decide) (hts (.fieldLink RX4 25 "LinkResolver" "packCount" "I") (by decide +kernel)) rfl dX4_yearsCoveredButBy_9 ?_
      refine lv_icmp_ge (tgt := 59) hx hb dX4_yearsCoveredButBy_12 (by decide) (fun c_12 => ?_) (fun c_12 => ?_)
      · have e9 : k = vNp V := by have := (nI_leI (by omega) (by omega)).mp c_12; omega
        refine lv_lload hx hb dX4_yearsCoveredButBy_59 (lv_at hl 1 rfl) ?_
        exact zrl hx hb hr hlocks dX4_yearsCoveredButBy_61 (by rw [e9])
      · have hk2 : k < vNp V := Nat.lt_of_not_le (fun q9 => c_12 ((nI_leI (by omega) (by omega)).mpr q9))
        refine lv_aload_n hx hb dX4_yearsCoveredButBy_15 rfl (lv_at hl 2 rfl) ?_
        refine lv_iload hx hb dX4_yearsCoveredButBy_16 (lv_at hl 0 rfl) ?_
        refine zcq (va_runV (As := [.int (nI k)]) (rest := []) ⟨hx, hb, hml, hown, hts⟩ (c_exPack l D ca sa L f h0 ta pa aT aP aS aH n K V hR k hk2) (cwV 1 hts gX4_yearsCoveredButBy_X4_existingPack rfl rfl rfl (by decide +kernel) ⟨Nat.le_of_ble_eq_true rfl, Nat.le_of_ble_eq_true rfl⟩) (zpVp hP hE (ci := 4) rfl h4) rfl rfl hl.1 rfl (lv_room (Nat.le_of_ble_eq_true rfl)) dX4_yearsCoveredButBy_18 ⟨Nat.le_of_ble_eq_true rfl, Nat.le_of_ble_eq_true rfl⟩) ?_
        refine W.eq (g2 := F0 m 21 ls [.ref (aP k)]) rfl ?_
        refine lv_astore (lv' := [(7, .ref (aP k)), (6, .int (nI k)), (4, .long (cYC V lf t g k)), (0, .ref h0), (1, .int lf), (2, .int (nI t)), (3, .int (nI g))]) hx hb dX4_yearsCoveredButBy_21 hl (by decide) rfl (fun ls hl => ?_)
        refine lv_iload hx hb dX4_yearsCoveredButBy_23 (lv_at hl 1 rfl) ?_
        refine lv_iload_n hx hb dX4_yearsCoveredButBy_25 rfl (lv_at hl 4 rfl) ?_
        refine lv_icmp_eq (tgt := 53) hx hb dX4_yearsCoveredButBy_26 (by decide) (fun c_26 => ?_) (fun c_26 => ?_)
        · refine lv_iinc (v := nI (k + 1)) (lv' := [(6, .int (nI (k + 1))), (7, .ref (aP k)), (4, .long (cYC V lf t g k)), (0, .ref h0), (1, .int lf), (2, .int (nI t)), (3, .int (nI g))]) hx hb dX4_yearsCoveredButBy_53 hl (k := 1) rfl (zinc1 _) (by decide) rfl (fun ls hl => ?_)
          refine lv_goto (tgt := 6) hx hb dX4_yearsCoveredButBy_56 (by decide) ?_
          exact ih (k + 1) ls (by omega) (by omega) (by rw [cYC, if_pos c_26]; exact lv_sub hl [0, 2, 3, 4, 5, 6] rfl)
        · refine lv_aload hx hb dX4_yearsCoveredButBy_29 (lv_at hl 0 rfl) ?_
          refine lv_iload_n hx hb dX4_yearsCoveredButBy_31 rfl (lv_at hl 6 rfl) ?_
          refine zci (va_runV (As := [.int (nI g)]) (rest := []) ⟨hx, hb, hml, hown, hts⟩ (c_letsIn l D ca sa L f (aP k) (vP V k) (aH k 20) (aS k) (aH k) (hpk k hk2) g hg) (cwV 1 hts gX4_yearsCoveredButBy_X2_letsIn rfl rfl rfl (by decide +kernel) ⟨Nat.le_of_ble_eq_true rfl, Nat.le_of_ble_eq_true rfl⟩) (zpVp hP hE (ci := 2) rfl (hpk k hk2).1.1) rfl rfl hl.1 rfl (lv_room (Nat.le_of_ble_eq_true rfl)) dX4_yearsCoveredButBy_32 ⟨Nat.le_of_ble_eq_true rfl, Nat.le_of_ble_eq_true rfl⟩) ?_
          refine lv_if_eq (tgt := 53) hx hb dX4_yearsCoveredButBy_35 (by decide) (fun c_35 => ?_) (fun c_35 => ?_)
          · refine lv_iinc (v := nI (k + 1)) (lv' := [(6, .int (nI (k + 1))), (7, .ref (aP k)), (4, .long (cYC V lf t g k)), (0, .ref h0), (1, .int lf), (2, .int (nI t)), (3, .int (nI g))]) hx hb dX4_yearsCoveredButBy_53 hl (k := 1) rfl (zinc1 _) (by decide) rfl (fun ls hl => ?_)
            refine lv_goto (tgt := 6) hx hb dX4_yearsCoveredButBy_56 (by decide) ?_
            exact ih (k + 1) ls (by omega) (by omega) (by rw [cYC, if_neg c_26, if_neg (by rw [bI_eq0 c_35]; exact Bool.false_ne_true)]; exact lv_sub hl [0, 2, 3, 4, 5, 6] rfl)
          · refine lv_lload hx hb dX4_yearsCoveredButBy_38 (lv_at hl 2 rfl) ?_
            refine lv_aload hx hb dX4_yearsCoveredButBy_40 (lv_at hl 0 rfl) ?_
            refine lv_iload_n hx hb dX4_yearsCoveredButBy_42 rfl (lv_at hl 5 rfl) ?_
            refine lv_aload_n hx hb dX4_yearsCoveredButBy_43 rfl (lv_at hl 3 rfl) ?_
            refine zget (own := RX4) (ci := 4) (C := RX4) (T := TX4) (N := 6) hx hb hts (by decide +kernel) hown hE hP h4 rfl 5 (by decide) (hts (.fieldLink RX4 31 "LinkResolver" "currentDay" "I") (by decide +kernel)) rfl dX4_yearsCoveredButBy_44 ?_
            refine zcl (va_runV (As := [.int (nI t), .int (nI (vTd V))]) (rest := [.long (cYC V lf t g k)]) ⟨hx, hb, hml, hown, hts⟩ (c_pCov l D ca sa L f (aP k) (vP V k) (aH k 20) (aS k) (aH k) (hpk k hk2) t (vB V k t) (by omega) (vL V k t) (hhi k hk2 t (by omega)) (vB V k 20) (vL V k 20) (hhi k hk2 20 (by omega)) (vTd V) hTd) (cwV 2 hts gX4_yearsCoveredButBy_X2_yearsCovered rfl rfl rfl (by decide +kernel) ⟨Nat.le_of_ble_eq_true rfl, Nat.le_of_ble_eq_true rfl⟩) (zpVp hP hE (ci := 2) rfl (hpk k hk2).1.1) rfl rfl hl.1 rfl (lv_room (Nat.le_of_ble_eq_true rfl)) dX4_yearsCoveredButBy_47 ⟨Nat.le_of_ble_eq_true rfl, Nat.le_of_ble_eq_true rfl⟩) ?_
            refine lv_lor hx hb dX4_yearsCoveredButBy_50 ?_
            refine lv_lstore (lv' := [(4, .long ((cYC V lf t g k) ||| (cPC V k t (vTd V)))), (7, .ref (aP k)), (6, .int (nI k)), (0, .ref h0), (1, .int lf), (2, .int (nI t)), (3, .int (nI g))]) hx hb dX4_yearsCoveredButBy_51 hl (by decide) rfl (fun ls hl => ?_)
            refine lv_iinc (v := nI (k + 1)) (lv' := [(6, .int (nI (k + 1))), (4, .long ((cYC V lf t g k) ||| (cPC V k t (vTd V)))), (7, .ref (aP k)), (0, .ref h0), (1, .int lf), (2, .int (nI t)), (3, .int (nI g))]) hx hb dX4_yearsCoveredButBy_53 hl (k := 2) rfl (zinc1 _) (by decide) rfl (fun ls hl => ?_)
            refine lv_goto (tgt := 6) hx hb dX4_yearsCoveredButBy_56 (by decide) ?_
            exact ih (k + 1) ls (by omega) (by omega) (by rw [cYC, if_neg c_26, if_pos (bI_ne0 c_35)]; exact lv_sub hl [0, 1, 3, 4, 5, 6] rfl)
  refine lv_lconst (v := 0) hx hb dX4_yearsCoveredButBy_0 (by decide) ?_
  refine lv_lstore (lv' := [(4, .long 0), (0, .ref h0), (1, .int lf), (2, .int (nI t)), (3, .int (nI g))]) hx hb dX4_yearsCoveredButBy_1 hl (by decide) rfl (fun ls hl => ?_)
  refine lv_iconst (v := nI 0) hx hb dX4_yearsCoveredButBy_3 (by decide) ?_
  refine lv_istore (lv' := [(6, .int (nI 0)), (4, .long 0), (0, .ref h0), (1, .int lf), (2, .int (nI t)), (3, .int (nI g))]) hx hb dX4_yearsCoveredButBy_4 hl (by decide) rfl (fun ls hl => ?_)
  exact loop (vNp V + 1) 0 ls (Nat.zero_le _) (by omega) (lv_sub hl [0, 1, 2, 3, 4, 5] rfl)

set_option maxHeartbeats 4000000 in
set_option maxRecDepth 100000 in
theorem c_isLost (l : Launch) (D : va_G) (ca : Nat → ClassId) (sa : Nat → Nat) (L : List Nat) (f : Nat → va_E) (h0 ta pa : Nat) (aT aP aS : Nat → Nat) (aH : Nat → Nat → Nat) (n K : Nat) (V : zV) (hR : zRep L f ca h0 ta pa aT aP aS aH n K V) (q : Nat) (hq : q < vNp V) (t : Nat) (ht : t < vNt V) : Met l yX4_isLostWithout wsX4_isLostWithout ({ frames := 6, cells := 0, slots := 0, locals := 240 }) (va_Pc [.ref h0, .int (nI q), .int (nI t)] (zPw D (va_pl L f) ca sa)) (vp_Si (fun r => r = bI (cLost V q t))) 0 0 (fun _ => False) := by
  refine Met.ofW (cc := cX4_isLostWithout) (maxL := 7) (ret := (some .boolean)) (by decide) rfl ?_
  intro p e s m args below meth c s₁ B hml hv
  obtain ⟨rfl, hP, hE⟩ := hv
  have hx := B.exec
  have hb := B.bytes
  have hr := B.returns
  have hts := atoms_spec (ws := wsX4_isLostWithout) B.pre
  have hown : s.vm.findClass RX4 = some m.cls := findClass_of_methodNamed B.named
  have hlocks := B.notSynchronized
  have hl := lv_entry ([.ref h0, .int (nI q), .int (nI t)]) (n := 7) (Nat.le_of_ble_eq_true rfl)
  rw [lg_entry_eq]
  generalize (lg_sl ([.ref h0, .int (nI q), .int (nI t)]) ++ List.replicate (7 - (lg_sl ([.ref h0, .int (nI q), .int (nI t)])).length) Slot.unset).toArray = ls at hl ⊢
  have hl : lv_has ls 7 [(0, .ref h0), (1, .int (nI q)), (2, .int (nI t))] := hl
  obtain ⟨⟨h4, hTd, hNt, hNp, hnK, hK5⟩, ⟨gt, htA, hTi⟩, ⟨gp, hpA, hPk⟩, hinj⟩ := id hR
  have hpk : ∀ q, q < vNp V → zPack L f ca (aP q) (vP V q) (aH q 20) (aS q) (aH q) := fun q h => (hPk q h).2.1
  have hhi : ∀ q, q < vNp V → ∀ w, w ≤ 20 → zHist L f (aH q w) (vB V q w) (vL V q w) := fun q h w hw => ((hPk q h).2.2 w hw).1
  have loop : ¬ cAS V q t = 0 → ∀ (n9 : Nat) (g : Nat) (ls : Array Slot), g ≤ 4 → 4 < g + n9 → cLo V q t (4 - g) g = cLo V q t 4 0 → lv_has ls 7 [(6, .int (nI g)), (4, .long (cAS V q t)), (3, .ref (aP q)), (0, .ref h0), (1, .int (nI q)), (2, .int (nI t))] → W p l e (headSpec wsX4_isLostWithout ({ frames := 6, cells := 0, slots := 0, locals := 240 })).room s m ([.ref h0, .int (nI q), .int (nI t)] : List Value).toArray below meth c s.heap [] 0 0 (MQ below (vp_Si (fun r => r = bI (cLost V q t))) ([.ref h0, .int (nI q), .int (nI t)] : List Value).toArray s 0 0 (fun _ => False)) (F0 m 53 ls []) := by
    intro has n9
    induction n9 with
    | zero =>
      intro g ls hk hfu hcl hl
      exact absurd hfu (by omega)
    | succ n9 ih =>
      intro g ls hk hfu hcl hl
      refine lv_iload hx hb dX4_isLostWithout_53 (lv_at hl 0 rfl) ?_
      refine lv_iconst (v := nI 3) hx hb dX4_isLostWithout_55 (by decide) ?_
      refine lv_icmp_gt (tgt := 96) hx hb dX4_isLostWithout_56 (by decide) (fun c_56 => ?_) (fun c_56 => ?_)
      · have e9 : g = 4 := by have := (nI_ltI (by omega) (by omega)).mp c_56; omega
        refine lv_iconst (v := nI 0) hx hb dX4_isLostWithout_96 (by decide) ?_
        exact zrz hx hb hr hlocks dX4_isLostWithout_97 rfl (by rw [cLost, if_neg has, ← hcl, e9]; rfl)
      · have hg : g ≤ 3 := Nat.le_of_not_lt (fun q9 => c_56 ((nI_ltI (by omega) (by omega)).mpr q9))
        refine lv_aload_n hx hb dX4_isLostWithout_59 rfl (lv_at hl 2 rfl) ?_
        refine lv_iload hx hb dX4_isLostWithout_60 (lv_at hl 0 rfl) ?_
        refine zci (va_runV (As := [.int (nI g)]) (rest := []) ⟨hx, hb, hml, hown, hts⟩ (c_letsIn l D ca sa L f (aP q) (vP V q) (aH q 20) (aS q) (aH q) (hpk q hq) g hg) (cwV 1 hts gX4_isLostWithout_X2_letsIn rfl rfl rfl (by decide +kernel) ⟨Nat.le_of_ble_eq_true rfl, Nat.le_of_ble_eq_true rfl⟩) (zpVp hP hE (ci := 2) rfl (hpk q hq).1.1) rfl rfl hl.1 rfl (lv_room (Nat.le_of_ble_eq_true rfl)) dX4_isLostWithout_62 ⟨Nat.le_of_ble_eq_true rfl, Nat.le_of_ble_eq_true rfl⟩) ?_
        refine lv_if_eq (tgt := 90) hx hb dX4_isLostWithout_65 (by decide) (fun c_65 => ?_) (fun c_65 => ?_)
        · refine lv_iinc (v := nI (g + 1)) (lv' := [(6, .int (nI (g + 1))), (4, .long (cAS V q t)), (3, .ref (aP q)), (0, .ref h0), (1, .int (nI q)), (2, .int (nI t))]) hx hb dX4_isLostWithout_90 hl (k := 0) rfl (zinc1 _) (by decide) rfl (fun ls hl => ?_)
          refine lv_goto (tgt := 53) hx hb dX4_isLostWithout_93 (by decide) ?_
          exact ih (g + 1) ls (by omega) (by omega) (by rw [← hcl, show 4 - g = (4 - (g + 1)) + 1 by omega, cLo, if_neg (fun q9 => absurd q9.1 (by rw [bI_eq0 c_65]; exact Bool.false_ne_true))]) (lv_sub hl [0, 1, 2, 3, 4, 5] rfl)
        · refine lv_lload hx hb dX4_isLostWithout_68 (lv_at hl 1 rfl) ?_
          refine lv_aload_n hx hb dX4_isLostWithout_70 rfl (lv_at hl 3 rfl) ?_
          refine lv_iload_n hx hb dX4_isLostWithout_71 rfl (lv_at hl 4 rfl) ?_
          refine lv_iload_n hx hb dX4_isLostWithout_72 rfl (lv_at hl 5 rfl) ?_
          refine lv_iload hx hb dX4_isLostWithout_73 (lv_at hl 0 rfl) ?_
          refine zcl (va_runV (As := [.int (nI q), .int (nI t), .int (nI g)]) (rest := [.long (cAS V q t)]) ⟨hx, hb, hml, hown, hts⟩ (c_ycb l D ca sa L f h0 ta pa aT aP aS aH n K V hR (nI q) t ht g hg) (cwV 3 hts gX4_isLostWithout_X4_yearsCoveredButBy rfl rfl rfl (by decide +kernel) ⟨Nat.le_of_ble_eq_true rfl, Nat.le_of_ble_eq_true rfl⟩) (zpVp hP hE (ci := 4) rfl h4) rfl rfl hl.1 rfl (lv_room (Nat.le_of_ble_eq_true rfl)) dX4_isLostWithout_75 ⟨Nat.le_of_ble_eq_true rfl, Nat.le_of_ble_eq_true rfl⟩) ?_
          refine lv_ldc2 hx hb hown (hts (.constantLong RX4 136 (-1)) (by decide +kernel)) dX4_isLostWithout_78 ?_
          refine lv_lxor hx hb dX4_isLostWithout_81 ?_
          refine lv_land hx hb dX4_isLostWithout_82 ?_
          refine lv_lconst (v := 0) hx hb dX4_isLostWithout_83 (by decide) ?_
          refine W.lcmp hx hb dX4_isLostWithout_84 ?_
          refine lv_if_eq (tgt := 90) hx hb dX4_isLostWithout_85 (by decide) (fun c_85 => ?_) (fun c_85 => ?_)
          · refine lv_iinc (v := nI (g + 1)) (lv' := [(6, .int (nI (g + 1))), (4, .long (cAS V q t)), (3, .ref (aP q)), (0, .ref h0), (1, .int (nI q)), (2, .int (nI t))]) hx hb dX4_isLostWithout_90 hl (k := 0) rfl (zinc1 _) (by decide) rfl (fun ls hl => ?_)
            refine lv_goto (tgt := 53) hx hb dX4_isLostWithout_93 (by decide) ?_
            exact ih (g + 1) ls (by omega) (by omega) (by rw [← hcl, show 4 - g = (4 - (g + 1)) + 1 by omega, cLo, if_neg (fun q9 => q9.2 ((lg_cmp_eq _ _).mp c_85))]) (lv_sub hl [0, 1, 2, 3, 4, 5] rfl)
          · refine lv_iconst (v := nI 1) hx hb dX4_isLostWithout_88 (by decide) ?_
            exact zrz hx hb hr hlocks dX4_isLostWithout_89 rfl (by rw [cLost, if_neg has, ← hcl, show 4 - g = (4 - (g + 1)) + 1 by omega, cLo, if_pos ⟨bI_ne0 c_65, fun q9 => c_85 ((lg_cmp_eq _ _).mpr q9)⟩]; rfl)
  refine lv_aload_n hx hb dX4_isLostWithout_0 rfl (lv_at hl 0 rfl) ?_
  refine lv_iload_n hx hb dX4_isLostWithout_1 rfl (lv_at hl 1 rfl) ?_
  refine zcq (va_runV (As := [.int (nI q)]) (rest := []) ⟨hx, hb, hml, hown, hts⟩ (c_exPack l D ca sa L f h0 ta pa aT aP aS aH n K V hR q hq) (cwV 1 hts gX4_isLostWithout_X4_existingPack rfl rfl rfl (by decide +kernel) ⟨Nat.le_of_ble_eq_true rfl, Nat.le_of_ble_eq_true rfl⟩) (zpVp hP hE (ci := 4) rfl h4) rfl rfl hl.1 rfl (lv_room (Nat.le_of_ble_eq_true rfl)) dX4_isLostWithout_2 ⟨Nat.le_of_ble_eq_true rfl, Nat.le_of_ble_eq_true rfl⟩) ?_
  refine W.eq (g2 := F0 m 5 ls [.ref (aP q)]) rfl ?_
  refine lv_astore_n (lv' := [(3, .ref (aP q)), (0, .ref h0), (1, .int (nI q)), (2, .int (nI t))]) hx hb dX4_isLostWithout_5 rfl hl (by decide) rfl (fun ls hl => ?_)
  refine lv_aload_n hx hb dX4_isLostWithout_6 rfl (lv_at hl 0 rfl) ?_
  refine lv_iload_n hx hb dX4_isLostWithout_7 rfl (lv_at hl 3 rfl) ?_
  refine lv_aload_n hx hb dX4_isLostWithout_8 rfl (lv_at hl 1 rfl) ?_
  refine zget (own := RX4) (ci := 4) (C := RX4) (T := TX4) (N := 6) hx hb hts (by decide +kernel) hown hE hP h4 rfl 5 (by decide) (hts (.fieldLink RX4 31 "LinkResolver" "currentDay" "I") (by decide +kernel)) rfl dX4_isLostWithout_9 ?_
  refine zcl (va_runV (As := [.int (nI t), .int (nI (vTd V))]) (rest := []) ⟨hx, hb, hml, hown, hts⟩ (c_pOpen l D ca sa L f (aP q) (vP V q) (aH q 20) (aS q) (aH q) (hpk q hq) t (vB V q t) (by omega) (vL V q t) (hhi q hq t (by omega)) (vB V q 20) (vL V q 20) (hhi q hq 20 (by omega)) (vTd V) hTd) (cwV 2 hts gX4_isLostWithout_X2_yearsOpen rfl rfl rfl (by decide +kernel) ⟨Nat.le_of_ble_eq_true rfl, Nat.le_of_ble_eq_true rfl⟩) (zpVp hP hE (ci := 2) rfl (hpk q hq).1.1) rfl rfl hl.1 rfl (lv_room (Nat.le_of_ble_eq_true rfl)) dX4_isLostWithout_12 ⟨Nat.le_of_ble_eq_true rfl, Nat.le_of_ble_eq_true rfl⟩) ?_
  refine lv_aload_n hx hb dX4_isLostWithout_15 rfl (lv_at hl 0 rfl) ?_
  refine lv_iload_n hx hb dX4_isLostWithout_16 rfl (lv_at hl 3 rfl) ?_
  refine lv_aload_n hx hb dX4_isLostWithout_17 rfl (lv_at hl 1 rfl) ?_
  refine zget (own := RX4) (ci := 4) (C := RX4) (T := TX4) (N := 6) hx hb hts (by decide +kernel) hown hE hP h4 rfl 5 (by decide) (hts (.fieldLink RX4 31 "LinkResolver" "currentDay" "I") (by decide +kernel)) rfl dX4_isLostWithout_18 ?_
  refine zcl (va_runV (As := [.int (nI t), .int (nI (vTd V))]) (rest := [.long (zOp (vTd V) (vL V q t) &&& zOp (vTd V) (vL V q 20))]) ⟨hx, hb, hml, hown, hts⟩ (c_pKept l D ca sa L f (aP q) (vP V q) (aH q 20) (aS q) (aH q) (hpk q hq) t (vB V q t) (by omega) (vL V q t) (hhi q hq t (by omega)) (vB V q 20) (vL V q 20) (hhi q hq 20 (by omega)) (vTd V) hTd) (cwV 2 hts gX4_isLostWithout_X2_yearsKept rfl rfl rfl (by decide +kernel) ⟨Nat.le_of_ble_eq_true rfl, Nat.le_of_ble_eq_true rfl⟩) (zpVp hP hE (ci := 2) rfl (hpk q hq).1.1) rfl rfl hl.1 rfl (lv_room (Nat.le_of_ble_eq_true rfl)) dX4_isLostWithout_21 ⟨Nat.le_of_ble_eq_true rfl, Nat.le_of_ble_eq_true rfl⟩) ?_
  refine lv_ldc2 hx hb hown (hts (.constantLong RX4 136 (-1)) (by decide +kernel)) dX4_isLostWithout_24 ?_
  refine lv_lxor hx hb dX4_isLostWithout_27 ?_
  refine lv_land hx hb dX4_isLostWithout_28 ?_
  refine lv_aload_n hx hb dX4_isLostWithout_29 rfl (lv_at hl 1 rfl) ?_
  refine lv_aload_n hx hb dX4_isLostWithout_30 rfl (lv_at hl 1 rfl) ?_
  refine lv_iload_n hx hb dX4_isLostWithout_31 rfl (lv_at hl 3 rfl) ?_
  refine zcq (va_runV (As := [.int (nI t)]) (rest := [.ref h0, .long ((zOp (vTd V) (vL V q t) &&& zOp (vTd V) (vL V q 20)) &&& ((zPK (vP V q).2.2.2 (vTd V) (vL V q t) (vL V q 20)) ^^^ (-1)))]) ⟨hx, hb, hml, hown, hts⟩ (c_exTitle l D ca sa L f h0 ta pa aT aP aS aH n K V hR t ht) (cwV 1 hts gX4_isLostWithout_X4_existingTitle rfl rfl rfl (by decide +kernel) ⟨Nat.le_of_ble_eq_true rfl, Nat.le_of_ble_eq_true rfl⟩) (zpVp hP hE (ci := 4) rfl h4) rfl rfl hl.1 rfl (lv_room (Nat.le_of_ble_eq_true rfl)) dX4_isLostWithout_32 ⟨Nat.le_of_ble_eq_true rfl, Nat.le_of_ble_eq_true rfl⟩) ?_
  refine W.eq (g2 := F0 m 35 ls [.ref (aT t), .ref h0, .long ((zOp (vTd V) (vL V q t) &&& zOp (vTd V) (vL V q 20)) &&& ((zPK (vP V q).2.2.2 (vTd V) (vL V q t) (vL V q 20)) ^^^ (-1)))]) rfl ?_
  refine zcl (va_runV (As := [.ref (aT t)]) (rest := [.long ((zOp (vTd V) (vL V q t) &&& zOp (vTd V) (vL V q 20)) &&& ((zPK (vP V q).2.2.2 (vTd V) (vL V q t) (vL V q 20)) ^^^ (-1)))]) ⟨hx, hb, hml, hown, hts⟩ (c_ysf l D ca sa L f h0 ta pa aT aP aS aH n K V hR t ht) (cwV 1 hts gX4_isLostWithout_X4_yearsSoFar rfl rfl rfl (by decide +kernel) ⟨Nat.le_of_ble_eq_true rfl, Nat.le_of_ble_eq_true rfl⟩) (zpVp hP hE (ci := 4) rfl h4) rfl rfl hl.1 rfl (lv_room (Nat.le_of_ble_eq_true rfl)) dX4_isLostWithout_35 ⟨Nat.le_of_ble_eq_true rfl, Nat.le_of_ble_eq_true rfl⟩) ?_
  refine lv_land hx hb dX4_isLostWithout_38 ?_
  refine zasl (show (((zOp (vTd V) (vL V q t) &&& zOp (vTd V) (vL V q 20)) &&& ((zPK (vP V q).2.2.2 (vTd V) (vL V q t) (vL V q 20)) ^^^ (-1))) &&& (zYs V t)) = cAS V q t from rfl) ?_
  refine lv_lstore (lv' := [(4, .long (cAS V q t)), (3, .ref (aP q)), (0, .ref h0), (1, .int (nI q)), (2, .int (nI t))]) hx hb dX4_isLostWithout_39 hl (by decide) rfl (fun ls hl => ?_)
  refine lv_lload hx hb dX4_isLostWithout_41 (lv_at hl 0 rfl) ?_
  refine lv_lconst (v := 0) hx hb dX4_isLostWithout_43 (by decide) ?_
  refine W.lcmp hx hb dX4_isLostWithout_44 ?_
  refine lv_if_ne (tgt := 50) hx hb dX4_isLostWithout_45 (by decide) (fun c_45 => ?_) (fun c_45 => ?_)
  · have has : ¬ cAS V q t = 0 := fun q9 => c_45 ((lg_cmp_eq _ _).mpr q9)
    refine lv_iconst (v := nI 0) hx hb dX4_isLostWithout_50 (by decide) ?_
    refine lv_istore (lv' := [(6, .int (nI 0)), (4, .long (cAS V q t)), (3, .ref (aP q)), (0, .ref h0), (1, .int (nI q)), (2, .int (nI t))]) hx hb dX4_isLostWithout_51 hl (by decide) rfl (fun ls hl => ?_)
    exact loop has 5 0 ls (by omega) (by omega) rfl (lv_sub hl [0, 1, 2, 3, 4, 5] rfl)
  · refine lv_iconst (v := nI 0) hx hb dX4_isLostWithout_48 (by decide) ?_
    exact zrz hx hb hr hlocks dX4_isLostWithout_49 rfl (by rw [cLost, if_pos ((lg_cmp_eq _ _).mp c_45)]; rfl)

set_option maxHeartbeats 4000000 in
set_option maxRecDepth 100000 in
theorem c_isNeedless (l : Launch) (D : va_G) (ca : Nat → ClassId) (sa : Nat → Nat) (L : List Nat) (f : Nat → va_E) (h0 ta pa : Nat) (aT aP aS : Nat → Nat) (aH : Nat → Nat → Nat) (n K : Nat) (V : zV) (hR : zRep L f ca h0 ta pa aT aP aS aH n K V) (q : Nat) (hq : q < vNp V) : Met l yX4_isNeedless wsX4_isNeedless ({ frames := 7, cells := 0, slots := 0, locals := 280 }) (va_Pc [.ref h0, .int (nI q)] (zPw D (va_pl L f) ca sa)) (vp_Si (fun r => r = bI (cNd V q (vNt V) 0))) 0 0 (fun _ => False) := by
  refine Met.ofW (cc := cX4_isNeedless) (maxL := 3) (ret := (some .boolean)) (by decide) rfl ?_
  intro p e s m args below meth c s₁ B hml hv
  obtain ⟨rfl, hP, hE⟩ := hv
  have hx := B.exec
  have hb := B.bytes
  have hr := B.returns
  have hts := atoms_spec (ws := wsX4_isNeedless) B.pre
  have hown : s.vm.findClass RX4 = some m.cls := findClass_of_methodNamed B.named
  have hlocks := B.notSynchronized
  have hl := lv_entry ([.ref h0, .int (nI q)]) (n := 3) (Nat.le_of_ble_eq_true rfl)
  rw [lg_entry_eq]
  generalize (lg_sl ([.ref h0, .int (nI q)]) ++ List.replicate (3 - (lg_sl ([.ref h0, .int (nI q)])).length) Slot.unset).toArray = ls at hl ⊢
  have hl : lv_has ls 3 [(0, .ref h0), (1, .int (nI q))] := hl
  obtain ⟨⟨h4, hTd, hNt, hNp, hnK, hK5⟩, ⟨gt, htA, hTi⟩, ⟨gp, hpA, hPk⟩, hinj⟩ := id hR
  have hpk : ∀ q, q < vNp V → zPack L f ca (aP q) (vP V q) (aH q 20) (aS q) (aH q) := fun q h => (hPk q h).2.1
  have hhi : ∀ q, q < vNp V → ∀ w, w ≤ 20 → zHist L f (aH q w) (vB V q w) (vL V q w) := fun q h w hw => ((hPk q h).2.2 w hw).1
  have loop : ∀ (n9 : Nat) (t : Nat) (ls : Array Slot), t ≤ vNt V → vNt V < t + n9 → cNd V q (vNt V - t) t = cNd V q (vNt V) 0 → lv_has ls 3 [(2, .int (nI t)), (0, .ref h0), (1, .int (nI q))] → W p l e (headSpec wsX4_isNeedless ({ frames := 7, cells := 0, slots := 0, locals := 280 })).room s m ([.ref h0, .int (nI q)] : List Value).toArray below meth c s.heap [] 0 0 (MQ below (vp_Si (fun r => r = bI (cNd V q (vNt V) 0))) ([.ref h0, .int (nI q)] : List Value).toArray s 0 0 (fun _ => False)) (F0 m 8 ls []) := by
    intro n9
    induction n9 with
    | zero =>
      intro t ls hk hfu hcl hl
      exact absurd hfu (by omega)
    | succ n9 ih =>
      intro t ls hk hfu hcl hl
      refine lv_iload_n hx hb dX4_isNeedless_8 rfl (lv_at hl 0 rfl) ?_
      refine lv_aload_n hx hb dX4_isNeedless_9 rfl (lv_at hl 1 rfl) ?_
      refine zget (own := RX4) (ci := 4) (C := RX4) (T := TX4) (N := 6) hx hb hts (by decide +kernel) hown hE hP h4 rfl 2 (by decide) (hts (.fieldLink RX4 21 "LinkResolver" "titleCount" "I") (by decide +kernel)) rfl dX4_isNeedless_10 ?_
      refine lv_icmp_ge (tgt := 33) hx hb dX4_isNeedless_13 (by decide) (fun c_13 => ?_) (fun c_13 => ?_)
      · have e9 : t = vNt V := by have := (nI_leI (by omega) (by omega)).mp c_13; omega
        refine lv_iconst (v := nI 1) hx hb dX4_isNeedless_33 (by decide) ?_
        exact zrz hx hb hr hlocks dX4_isNeedless_34 rfl (by rw [← hcl, e9, Nat.sub_self]; rfl)
      · have ht : t < vNt V := Nat.lt_of_not_le (fun q9 => c_13 ((nI_leI (by omega) (by omega)).mpr q9))
        refine lv_aload_n hx hb dX4_isNeedless_16 rfl (lv_at hl 1 rfl) ?_
        refine lv_iload_n hx hb dX4_isNeedless_17 rfl (lv_at hl 2 rfl) ?_
        refine lv_iload_n hx hb dX4_isNeedless_18 rfl (lv_at hl 0 rfl) ?_
        refine zci (va_runV (As := [.int (nI q), .int (nI t)]) (rest := []) ⟨hx, hb, hml, hown, hts⟩ (c_isLost l D ca sa L f h0 ta pa aT aP aS aH n K V hR q hq t ht) (cwV 2 hts gX4_isNeedless_X4_isLostWithout rfl rfl rfl (by decide +kernel) ⟨Nat.le_of_ble_eq_true rfl, Nat.le_of_ble_eq_true rfl⟩) (zpVp hP hE (ci := 4) rfl h4) rfl rfl hl.1 rfl (lv_room (Nat.le_of_ble_eq_true rfl)) dX4_isNeedless_19 ⟨Nat.le_of_ble_eq_true rfl, Nat.le_of_ble_eq_true rfl⟩) ?_
        refine lv_if_eq (tgt := 27) hx hb dX4_isNeedless_22 (by decide) (fun c_22 => ?_) (fun c_22 => ?_)
        · refine lv_iinc (v := nI (t + 1)) (lv' := [(2, .int (nI (t + 1))), (0, .ref h0), (1, .int (nI q))]) hx hb dX4_isNeedless_27 hl (k := 0) rfl (zinc1 _) (by decide) rfl (fun ls hl => ?_)
          refine lv_goto (tgt := 8) hx hb dX4_isNeedless_30 (by decide) ?_
          exact ih (t + 1) ls (by omega) (by omega) (by rw [← hcl, show vNt V - t = (vNt V - (t + 1)) + 1 by omega, cNd, if_neg (by rw [bI_eq0 c_22]; exact Bool.false_ne_true)]) (lv_sub hl [0, 1, 2] rfl)
        · refine lv_iconst (v := nI 0) hx hb dX4_isNeedless_25 (by decide) ?_
          exact zrz hx hb hr hlocks dX4_isNeedless_26 rfl (by rw [← hcl, show vNt V - t = (vNt V - (t + 1)) + 1 by omega, cNd, if_pos (bI_ne0 c_22)]; rfl)
  refine lv_aload_n hx hb dX4_isNeedless_0 rfl (lv_at hl 0 rfl) ?_
  refine lv_iload_n hx hb dX4_isNeedless_1 rfl (lv_at hl 1 rfl) ?_
  refine zcq (va_runV (As := [.int (nI q)]) (rest := []) ⟨hx, hb, hml, hown, hts⟩ (c_exPack l D ca sa L f h0 ta pa aT aP aS aH n K V hR q hq) (cwV 1 hts gX4_isNeedless_X4_existingPack rfl rfl rfl (by decide +kernel) ⟨Nat.le_of_ble_eq_true rfl, Nat.le_of_ble_eq_true rfl⟩) (zpVp hP hE (ci := 4) rfl h4) rfl rfl hl.1 rfl (lv_room (Nat.le_of_ble_eq_true rfl)) dX4_isNeedless_2 ⟨Nat.le_of_ble_eq_true rfl, Nat.le_of_ble_eq_true rfl⟩) ?_
  refine W.eq (g2 := F0 m 5 ls [.ref (aP q)]) rfl ?_
  refine lv_pop hx hb dX4_isNeedless_5 rfl ?_
  refine lv_iconst (v := nI 0) hx hb dX4_isNeedless_6 (by decide) ?_
  refine lv_istore_n (lv' := [(2, .int (nI 0)), (0, .ref h0), (1, .int (nI q))]) hx hb dX4_isNeedless_7 rfl hl (by decide) rfl (fun ls hl => ?_)
  exact loop (vNt V + 1) 0 ls (Nat.zero_le _) (by omega) rfl (lv_sub hl [0, 1, 2] rfl)
