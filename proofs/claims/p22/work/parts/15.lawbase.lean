/-! the law's rows of ints beside the class's pool -/
def mI : Nat → Int32
  | 0 => (-1)
  | k + 1 => nI k
theorem zm1 (k : Nat) : nI k + Int32.ofInt (-1) = mI k := by
  cases k with
  | zero => rfl
  | succ k => exact pk_m1 k
theorem mI_s (k : Nat) : nI k - nI 1 = mI k := by
  cases k with
  | zero => rfl
  | succ k => exact pk_sub (Nat.le_add_left _ _)
theorem oI_n (k : Nat) (h : k < 5000) : ¬ nI k = (-1) := fun q => absurd (congrArg Int32.toInt q) (by rw [nI_toInt (by omega)]; show ¬ (k : Int) = -1; omega)
theorem va_D_fst {A : Nat → Prop} {ws ws' : va_W} (he : ws'.map Prod.fst = ws.map Prod.fst) (h : va_D A ws) : va_D A ws' := by
  have key : ∀ (k : Nat) (q : Nat × va_E), ws'[k]? = some q → ∃ q0, ws[k]? = some q0 ∧ q0.1 = q.1 := by
    intro k q hk
    have h1 : (ws'.map Prod.fst)[k]? = some q.1 := by rw [List.getElem?_map, hk]; rfl
    rw [he, List.getElem?_map] at h1
    cases h2 : ws[k]? with
    | none => rw [h2] at h1; cases h1
    | some q0 => rw [h2] at h1; exact ⟨q0, rfl, Option.some.inj h1⟩
  refine ⟨fun i j x y hi hj e => ?_, fun k q hk => ?_⟩
  · obtain ⟨x0, a1, a2⟩ := key i x hi
    obtain ⟨y0, b1, b2⟩ := key j y hj
    exact h.1 i j x0 y0 a1 b1 (by rw [a2, b2, e])
  · obtain ⟨q0, a1, a2⟩ := key k q hk
    rw [← a2]; exact h.2 k q0 a1
theorem w2_l {A : Nat → Prop} {X Y : va_W} (h : va_D A (X ++ Y)) : va_D A X := h.by (fun k => k) (fun k q hk => by rw [List.getElem?_append_left (List.getElem?_eq_some_iff.mp hk).1]; exact hk) (fun i j _ _ e => e)
theorem w2_r {A : Nat → Prop} {X Y : va_W} (h : va_D A (X ++ Y)) : va_D A Y := h.by (fun k => X.length + k) (fun k q hk => by rw [List.getElem?_append_right (Nat.le_add_right _ _), Nat.add_sub_cancel_left]; exact hk) (fun i j _ _ e => Nat.add_left_cancel e)
theorem w2_ne {A : Nat → Prop} {X Y : va_W} (h : va_D A (X ++ Y)) {i j : Nat} {x y : Nat × va_E} (hi : X[i]? = some x) (hj : Y[j]? = some y) : x.1 ≠ y.1 := fun e => by
  have hl := (List.getElem?_eq_some_iff.mp hi).1
  have h1 : (X ++ Y)[i]? = some x := by rw [List.getElem?_append_left hl]; exact hi
  have h2 : (X ++ Y)[X.length + j]? = some y := by rw [List.getElem?_append_right (Nat.le_add_right _ _), Nat.add_sub_cancel_left]; exact hj
  have := h.1 _ _ _ _ h1 h2 e
  omega
theorem w2_X {D : va_G} {A : Nat → Prop} {X X' Y : va_W} {H H1 : Heap} (hY : va_P D vwCl Y H) (hD : va_D A (X ++ Y)) (hA : ∀ q : Nat, H.size ≤ q → A q) (k2 : ∀ q : Nat, q < H.size → ¬ va_A X H.size q → H1[q]? = H[q]?) (hX' : va_D (va_A X H.size) X') : va_P D vwCl Y H1 ∧ va_D A (X' ++ Y) := by
  have hno : ∀ (k : Nat) (y : Nat × va_E), Y[k]? = some y → ¬ va_A X H.size y.1 := fun k y hk => by
    rintro (⟨i, e, h⟩ | h)
    · exact w2_ne hD h hk rfl
    · exact absurd (hY k y hk).lt (Nat.not_lt.mpr h)
  refine ⟨hY.kept (fun k y hk => k2 _ (hY k y hk).lt (hno k y hk)), va_D.app (hX'.weaken (fun k q hk h => ?_)) (w2_r hD) (fun i j x y hi hj e => ?_)⟩
  · rcases h with ⟨i, e, h⟩ | h
    · exact (w2_l hD).2 i (q.1, e) h
    · exact hA _ h
  · have h1 := hX'.2 i x hi
    rw [e] at h1
    exact hno j y hj h1
theorem w2_Y {D : va_G} {A : Nat → Prop} {X Y Y' : va_W} {H H1 : Heap} (hX : va_P D vwCl X H) (hD : va_D A (X ++ Y)) (k2 : ∀ q : Nat, q < H.size → ¬ va_A Y H.size q → H1[q]? = H[q]?) (he : Y'.map Prod.fst = Y.map Prod.fst) : va_P D vwCl X H1 ∧ va_D A (X ++ Y') := by
  refine ⟨hX.kept (fun k x hk => k2 _ (hX k x hk).lt ?_), va_D_fst (by rw [List.map_append, List.map_append, he]) hD⟩
  rintro (⟨i, e, h⟩ | h)
  · exact w2_ne hD hk h rfl
  · exact absurd (hX k x hk).lt (Nat.not_lt.mpr h)
theorem p2_l {D : va_G} {cl : List vw_C} {X Y : va_W} {H : Heap} (h : va_P D cl (X ++ Y) H) : va_P D cl X H := h.by (fun k => k) (fun k q hk => by rw [List.getElem?_append_left (List.getElem?_eq_some_iff.mp hk).1]; exact hk)
theorem p2_r {D : va_G} {cl : List vw_C} {X Y : va_W} {H : Heap} (h : va_P D cl (X ++ Y) H) : va_P D cl Y H := h.by (fun k => X.length + k) (fun k q hk => by rw [List.getElem?_append_right (Nat.le_add_right _ _), Nat.add_sub_cancel_left]; exact hk)
/-- the law's three rows: 0 what it knows, 1 the stays, 2 the breaks -/
abbrev zT : Type := Nat → Nat → Nat
def tz : Nat → Nat
  | 0 => 41
  | _ => 24
def tR (T : zT) (j : Nat) : Nat → Int32 := fun k => nI (T j k)
def tW (ca : Nat → ClassId) (aa : Nat → Nat) (T : zT) : va_W := [(aa 0, .inl (ca 3, tz 0, .inl (tR T 0))), (aa 1, .inl (ca 3, tz 1, .inl (tR T 1))), (aa 2, .inl (ca 3, tz 2, .inl (tR T 2)))]
def tU (T : zT) (j i v : Nat) : zT := fun j9 k => if j9 = j ∧ k = i then v else T j9 k
theorem tU_s (T : zT) (j i v : Nat) : tU T j i v j i = v := if_pos ⟨rfl, rfl⟩
theorem tU_n {T : zT} {j i v j9 k : Nat} (h : ¬ (j9 = j ∧ k = i)) : tU T j i v j9 k = T j9 k := if_neg h
theorem tU_R (T : zT) (j i v : Nat) : tR (tU T j i v) j = upd (tR T j) i (nI v) := funext fun k => by
  show nI (if j = j ∧ k = i then v else T j k) = if k = i then nI v else nI (T j k)
  by_cases c : k = i
  · rw [if_pos ⟨rfl, c⟩, if_pos c]
  · rw [if_neg (fun z => c z.2), if_neg c]
theorem tU_Q {T : zT} {j i v j9 : Nat} (h : j9 ≠ j) : tR (tU T j i v) j9 = tR T j9 := funext fun k => by
  show nI (if j9 = j ∧ k = i then v else T j9 k) = nI (T j9 k)
  rw [if_neg (fun z => h z.1)]
theorem tW_at (ca : Nat → ClassId) (aa : Nat → Nat) (T : zT) {j : Nat} (hj : j < 3) : (tW ca aa T)[j]? = some (aa j, .inl (ca 3, tz j, .inl (tR T j))) := by
  rcases (show j = 0 ∨ j = 1 ∨ j = 2 by omega) with rfl | rfl | rfl <;> rfl
theorem tW_set (ca : Nat → ClassId) (aa : Nat → Nat) (T : zT) {j : Nat} (hj : j < 3) (i v : Nat) : (tW ca aa T).set j (aa j, .inl (ca 3, tz j, .inl (upd (tR T j) i (nI v)))) = tW ca aa (tU T j i v) := by
  rcases (show j = 0 ∨ j = 1 ∨ j = 2 by omega) with rfl | rfl | rfl
  · show [_, _, _] = [_, _, _]
    rw [← tU_R, tU_Q (j9 := 1) (by decide), tU_Q (j9 := 2) (by decide)]
  · show [_, _, _] = [_, _, _]
    rw [← tU_R, tU_Q (j9 := 0) (by decide), tU_Q (j9 := 2) (by decide)]
  · show [_, _, _] = [_, _, _]
    rw [← tU_R, tU_Q (j9 := 0) (by decide), tU_Q (j9 := 1) (by decide)]
def bN (b : Bool) : Nat := if b then 1 else 0
theorem bI_bN (b : Bool) : bI b = nI (bN b) := by cases b <;> rfl
theorem bN_le (b : Bool) : bN b < 2 := by cases b <;> decide
theorem bN_1 {b : Bool} (h : b = true) : bN b = 1 := by rw [h]; rfl
theorem bN_0 {b : Bool} (h : b = false) : bN b = 0 := by rw [h]; rfl
theorem bN_t {b : Bool} (h : ¬ bN b = 0) : b = true := by cases b with | true => rfl | false => exact absurd rfl h
theorem bN_f {b : Bool} (h : bN b = 0) : b = false := by cases b with | false => rfl | true => exact absurd h (by decide)
section ZN
variable {p : Program} {l : Launch} {e : Env} {R : Room} {s : State} {m : MethodId} {args : Array Value} {below : List Frame} {meth : Method} {c : Code} {H : Heap} {locs : List Loc} {cells slots : Nat} {Q : State → Prop}
variable {cc : ByteArray} {pc : Nat} {ls : Array Slot} {rest st0 : List Value} {A : Nat → Prop} {H0 : Heap} {D : va_G} {ca : Nat → ClassId} {sa : Nat → Nat} {ar : Array Value} {mc ms : Nat} {ws ws' : va_W} {L : List Nat} {f : Nat → va_E} {aa : Nat → Nat} {T : zT}
theorem zmist (hexec : p.tables.exec = Jvm.exec) (hb : c.code = cc) (hE : zE D ca sa s) (hP : va_P D vwCl ws H) (hD : va_D A ws) (hS : va_S A H0 H locs) (q0 : Nat) {a n : Nat} {f : Nat → Int32} (ha : ws[q0]? = some (a, .inl (ca 3, n, .inl f))) {i : Nat} {x : Int32} (hi : i < n) (hn : n < 2 ^ 31) (hdg : decode cc pc = .ok (.iastore, 1))
    (kk : ∀ (H1 : Heap) (locs1 : List Loc), va_P D vwCl (ws.set q0 (a, .inl (ca 3, n, .inl (upd f i x)))) H1 → va_D A (ws.set q0 (a, .inl (ca 3, n, .inl (upd f i x)))) → va_S A H0 H1 locs1 → W p l e R s m args below meth c H1 locs1 cells slots Q (F0 m (pc + 1) ls rest)) : W p l e R s m args below meth c H locs cells slots Q (F0 m pc ls (.int x :: .int (nI i) :: .ref a :: rest)) := by
  refine va_iast hexec hb hE.1 hP hD hS q0 3 ha rfl (vp_in_nI hi hn) hdg (fun H1 locs1 h1 h2 h3 => ?_)
  rw [nI_clamp (by omega)] at h1 h2
  exact kk H1 locs1 h1 h2 h3
theorem zmi (hexec : p.tables.exec = Jvm.exec) (hb : c.code = cc) (hE : zE D ca sa s) {ws : va_W} (hP : va_P D vwCl ws H) (q0 : Nat) {a n : Nat} {f : Nat → Int32} (ha : ws[q0]? = some (a, .inl (ca 3, n, .inl f))) {i : Nat} (hi : i < n) (hn : n < 2 ^ 31) (hdg : decode cc pc = .ok (.iaload, 1))
    (kk : W p l e R s m args below meth c H locs cells slots Q (F0 m (pc + 1) ls (.int (f i) :: rest))) : W p l e R s m args below meth c H locs cells slots Q (F0 m pc ls (.int (nI i) :: .ref a :: rest)) := by
  refine va_iald hexec hb hE.1 hP q0 3 ha rfl (vp_in_nI hi hn) hdg ?_
  rw [nI_clamp (by omega)]
  exact kk
/-- a place of one of the law's rows is read -/
theorem zti (hexec : p.tables.exec = Jvm.exec) (hb : c.code = cc) (hE : zE D ca sa s) (hT : va_P D vwCl (tW ca aa T) H) (j : Nat) (hj : j < 3) {i : Nat} (hi : i < tz j) (hdg : decode cc pc = .ok (.iaload, 1)) (kk : W p l e R s m args below meth c H locs cells slots Q (F0 m (pc + 1) ls (.int (nI (T j i)) :: rest))) : W p l e R s m args below meth c H locs cells slots Q (F0 m pc ls (.int (nI i) :: .ref (aa j) :: rest)) :=
  zmi hexec hb hE hT j (tW_at ca aa T hj) hi (by unfold tz; split <;> decide) hdg kk
/-- a place of one of the law's rows is written -/
theorem ztst (hexec : p.tables.exec = Jvm.exec) (hb : c.code = cc) (hE : zE D ca sa s) (hP : va_P D vwCl (va_pl L f) H) (hT : va_P D vwCl (tW ca aa T) H) (hD : va_D A (va_pl L f ++ tW ca aa T)) (hS : va_S A H0 H locs) (j : Nat) (hj : j < 3) {i v : Nat} (hi : i < tz j) (hdg : decode cc pc = .ok (.iastore, 1)) (kk : ∀ (H1 : Heap) (locs1 : List Loc), va_P D vwCl (va_pl L f) H1 → va_P D vwCl (tW ca aa (tU T j i v)) H1 → va_D A (va_pl L f ++ tW ca aa (tU T j i v)) → va_S A H0 H1 locs1 → W p l e R s m args below meth c H1 locs1 cells slots Q (F0 m (pc + 1) ls rest)) : W p l e R s m args below meth c H locs cells slots Q (F0 m pc ls (.int (nI v) :: .int (nI i) :: .ref (aa j) :: rest)) := by
  refine zmist hexec hb hE (hP.app hT) hD hS ((va_pl L f).length + j) (a := aa j) (n := tz j) (f := tR T j) (by rw [List.getElem?_append_right (Nat.le_add_right _ _), Nat.add_sub_cancel_left]; exact tW_at ca aa T hj) hi (by unfold tz; split <;> decide) hdg (fun H1 locs1 h1 h2 h3 => ?_)
  rw [List.set_append_right _ _ (Nat.le_add_right _ _), Nat.add_sub_cancel_left, tW_set ca aa T hj] at h1 h2
  exact kk H1 locs1 (p2_l h1) (p2_r h1) h2 h3
/-- ints that are not below zero: sums, quotients, comparisons -/
theorem nadd (hexec : p.tables.exec = Jvm.exec) (hb : c.code = cc) {x y : Nat} (hdg : decode cc pc = .ok (.iadd, 1)) (kk : W p l e R s m args below meth c H locs cells slots Q (F0 m (pc + 1) ls (.int (nI (x + y)) :: rest))) : W p l e R s m args below meth c H locs cells slots Q (F0 m pc ls (.int (nI y) :: .int (nI x) :: rest)) := by
  refine lv_iadd hexec hb hdg ?_
  rw [nI_add x y]
  exact kk
theorem nmul (hexec : p.tables.exec = Jvm.exec) (hb : c.code = cc) {x y : Nat} (hdg : decode cc pc = .ok (.imul, 1)) (kk : W p l e R s m args below meth c H locs cells slots Q (F0 m (pc + 1) ls (.int (nI (x * y)) :: rest))) : W p l e R s m args below meth c H locs cells slots Q (F0 m pc ls (.int (nI y) :: .int (nI x) :: rest)) := by
  refine lv_imul hexec hb hdg ?_
  rw [pk_mul x y]
  exact kk
theorem nsub (hexec : p.tables.exec = Jvm.exec) (hb : c.code = cc) {x y : Nat} (h9 : y ≤ x) (hdg : decode cc pc = .ok (.isub, 1)) (kk : W p l e R s m args below meth c H locs cells slots Q (F0 m (pc + 1) ls (.int (nI (x - y)) :: rest))) : W p l e R s m args below meth c H locs cells slots Q (F0 m pc ls (.int (nI y) :: .int (nI x) :: rest)) := by
  refine lv_isub hexec hb hdg ?_
  rw [pk_sub h9]
  exact kk
theorem ndiv (hexec : p.tables.exec = Jvm.exec) (hb : c.code = cc) {x y : Nat} (hx9 : x < 2147483648) (h0 : 0 < y) (hy9 : y < 2147483648) (hdg : decode cc pc = .ok (.idiv, 1)) (kk : W p l e R s m args below meth c H locs cells slots Q (F0 m (pc + 1) ls (.int (nI (x / y)) :: rest))) : W p l e R s m args below meth c H locs cells slots Q (F0 m pc ls (.int (nI y) :: .int (nI x) :: rest)) := by
  refine lv_idiv hexec hb hdg (fun z => absurd ((nI_eq (a := y) (b := 0) hy9 (by decide)).mp z) (by omega)) ?_
  rw [pk_div hx9 h0 hy9]
  exact kk
theorem nrem (hexec : p.tables.exec = Jvm.exec) (hb : c.code = cc) {x y : Nat} (hx9 : x < 2147483648) (h0 : 0 < y) (hy9 : y < 2147483648) (hdg : decode cc pc = .ok (.irem, 1)) (kk : W p l e R s m args below meth c H locs cells slots Q (F0 m (pc + 1) ls (.int (nI (x % y)) :: rest))) : W p l e R s m args below meth c H locs cells slots Q (F0 m pc ls (.int (nI y) :: .int (nI x) :: rest)) := by
  refine lv_irem hexec hb hdg (fun z => absurd ((nI_eq (a := y) (b := 0) hy9 (by decide)).mp z) (by omega)) ?_
  rw [pk_rem hx9 h0 hy9]
  exact kk
theorem nicmp_eq (hexec : p.tables.exec = Jvm.exec) (hb : c.code = cc) {x y : Nat} {off : Int} {tgt : Nat} (hdg : decode cc pc = .ok (.if_icmp .eq off, 3)) (ht : (pc : Int) + off = (tgt : Int)) (hx9 : x < 2147483648) (hy9 : y < 2147483648) (kt : x = y → W p l e R s m args below meth c H locs cells slots Q (F0 m tgt ls rest)) (kf : ¬ x = y → W p l e R s m args below meth c H locs cells slots Q (F0 m (pc + 3) ls rest)) : W p l e R s m args below meth c H locs cells slots Q (F0 m pc ls (.int (nI y) :: .int (nI x) :: rest)) :=
  lv_icmp_eq hexec hb hdg ht (fun z => kt ((nI_eq hx9 hy9).mp z)) (fun z => kf (fun q => z ((nI_eq hx9 hy9).mpr q)))
theorem nicmp_ne (hexec : p.tables.exec = Jvm.exec) (hb : c.code = cc) {x y : Nat} {off : Int} {tgt : Nat} (hdg : decode cc pc = .ok (.if_icmp .ne off, 3)) (ht : (pc : Int) + off = (tgt : Int)) (hx9 : x < 2147483648) (hy9 : y < 2147483648) (kt : ¬ x = y → W p l e R s m args below meth c H locs cells slots Q (F0 m tgt ls rest)) (kf : x = y → W p l e R s m args below meth c H locs cells slots Q (F0 m (pc + 3) ls rest)) : W p l e R s m args below meth c H locs cells slots Q (F0 m pc ls (.int (nI y) :: .int (nI x) :: rest)) :=
  lv_icmp_ne hexec hb hdg ht (fun z => kt (fun q => z (by rw [q]))) (fun z => kf ((nI_eq hx9 hy9).mp z))
theorem nicmp_lt (hexec : p.tables.exec = Jvm.exec) (hb : c.code = cc) {x y : Nat} {off : Int} {tgt : Nat} (hdg : decode cc pc = .ok (.if_icmp .lt off, 3)) (ht : (pc : Int) + off = (tgt : Int)) (hx9 : x < 2147483648) (hy9 : y < 2147483648) (kt : x < y → W p l e R s m args below meth c H locs cells slots Q (F0 m tgt ls rest)) (kf : y ≤ x → W p l e R s m args below meth c H locs cells slots Q (F0 m (pc + 3) ls rest)) : W p l e R s m args below meth c H locs cells slots Q (F0 m pc ls (.int (nI y) :: .int (nI x) :: rest)) :=
  lv_icmp_lt hexec hb hdg ht (fun z => kt ((nI_ltI hx9 hy9).mp z)) (fun z => kf (Nat.not_lt.mp (fun h9 => z ((nI_ltI hx9 hy9).mpr h9))))
theorem nicmp_ge (hexec : p.tables.exec = Jvm.exec) (hb : c.code = cc) {x y : Nat} {off : Int} {tgt : Nat} (hdg : decode cc pc = .ok (.if_icmp .ge off, 3)) (ht : (pc : Int) + off = (tgt : Int)) (hx9 : x < 2147483648) (hy9 : y < 2147483648) (kt : y ≤ x → W p l e R s m args below meth c H locs cells slots Q (F0 m tgt ls rest)) (kf : x < y → W p l e R s m args below meth c H locs cells slots Q (F0 m (pc + 3) ls rest)) : W p l e R s m args below meth c H locs cells slots Q (F0 m pc ls (.int (nI y) :: .int (nI x) :: rest)) :=
  lv_icmp_ge hexec hb hdg ht (fun z => kt ((nI_leI hy9 hx9).mp z)) (fun z => kf (Nat.not_le.mp (fun h9 => z ((nI_leI hy9 hx9).mpr h9))))
theorem nicmp_gt (hexec : p.tables.exec = Jvm.exec) (hb : c.code = cc) {x y : Nat} {off : Int} {tgt : Nat} (hdg : decode cc pc = .ok (.if_icmp .gt off, 3)) (ht : (pc : Int) + off = (tgt : Int)) (hx9 : x < 2147483648) (hy9 : y < 2147483648) (kt : y < x → W p l e R s m args below meth c H locs cells slots Q (F0 m tgt ls rest)) (kf : x ≤ y → W p l e R s m args below meth c H locs cells slots Q (F0 m (pc + 3) ls rest)) : W p l e R s m args below meth c H locs cells slots Q (F0 m pc ls (.int (nI y) :: .int (nI x) :: rest)) :=
  lv_icmp_gt hexec hb hdg ht (fun z => kt ((nI_ltI hy9 hx9).mp z)) (fun z => kf (Nat.not_lt.mp (fun h9 => z ((nI_ltI hy9 hx9).mpr h9))))
theorem nicmp_le (hexec : p.tables.exec = Jvm.exec) (hb : c.code = cc) {x y : Nat} {off : Int} {tgt : Nat} (hdg : decode cc pc = .ok (.if_icmp .le off, 3)) (ht : (pc : Int) + off = (tgt : Int)) (hx9 : x < 2147483648) (hy9 : y < 2147483648) (kt : x ≤ y → W p l e R s m args below meth c H locs cells slots Q (F0 m tgt ls rest)) (kf : y < x → W p l e R s m args below meth c H locs cells slots Q (F0 m (pc + 3) ls rest)) : W p l e R s m args below meth c H locs cells slots Q (F0 m pc ls (.int (nI y) :: .int (nI x) :: rest)) :=
  lv_icmp_le hexec hb hdg ht (fun z => kt ((nI_leI hx9 hy9).mp z)) (fun z => kf (Nat.not_le.mp (fun h9 => z ((nI_leI hx9 hy9).mpr h9))))
theorem nif_eq (hexec : p.tables.exec = Jvm.exec) (hb : c.code = cc) {x : Nat} {off : Int} {tgt : Nat} (hdg : decode cc pc = .ok (.ifCond .eq off, 3)) (ht : (pc : Int) + off = (tgt : Int)) (hx9 : x < 2147483648) (kt : x = 0 → W p l e R s m args below meth c H locs cells slots Q (F0 m tgt ls rest)) (kf : ¬ x = 0 → W p l e R s m args below meth c H locs cells slots Q (F0 m (pc + 3) ls rest)) : W p l e R s m args below meth c H locs cells slots Q (F0 m pc ls (.int (nI x) :: rest)) :=
  lv_if_eq hexec hb hdg ht (fun z => kt ((nI_eq hx9 (show 0 < 2147483648 by decide)).mp z)) (fun z => kf (fun q => z (by rw [q]; rfl)))
theorem nif_ne (hexec : p.tables.exec = Jvm.exec) (hb : c.code = cc) {x : Nat} {off : Int} {tgt : Nat} (hdg : decode cc pc = .ok (.ifCond .ne off, 3)) (ht : (pc : Int) + off = (tgt : Int)) (hx9 : x < 2147483648) (kt : ¬ x = 0 → W p l e R s m args below meth c H locs cells slots Q (F0 m tgt ls rest)) (kf : x = 0 → W p l e R s m args below meth c H locs cells slots Q (F0 m (pc + 3) ls rest)) : W p l e R s m args below meth c H locs cells slots Q (F0 m pc ls (.int (nI x) :: rest)) :=
  lv_if_ne hexec hb hdg ht (fun z => kt (fun q => z (by rw [q]; rfl))) (fun z => kf ((nI_eq hx9 (show 0 < 2147483648 by decide)).mp z))
theorem nif_gt (hexec : p.tables.exec = Jvm.exec) (hb : c.code = cc) {x : Nat} {off : Int} {tgt : Nat} (hdg : decode cc pc = .ok (.ifCond .gt off, 3)) (ht : (pc : Int) + off = (tgt : Int)) (hx9 : x < 2147483648) (kt : 0 < x → W p l e R s m args below meth c H locs cells slots Q (F0 m tgt ls rest)) (kf : x = 0 → W p l e R s m args below meth c H locs cells slots Q (F0 m (pc + 3) ls rest)) : W p l e R s m args below meth c H locs cells slots Q (F0 m pc ls (.int (nI x) :: rest)) :=
  lv_if_gt hexec hb hdg ht (fun z => kt ((nI_ltI (show 0 < 2147483648 by decide) hx9).mp z)) (fun z => kf (Nat.eq_zero_of_not_pos (fun q => z ((nI_ltI (show 0 < 2147483648 by decide) hx9).mpr q))))
theorem nif_le (hexec : p.tables.exec = Jvm.exec) (hb : c.code = cc) {x : Nat} {off : Int} {tgt : Nat} (hdg : decode cc pc = .ok (.ifCond .le off, 3)) (ht : (pc : Int) + off = (tgt : Int)) (hx9 : x < 2147483648) (kt : x = 0 → W p l e R s m args below meth c H locs cells slots Q (F0 m tgt ls rest)) (kf : 0 < x → W p l e R s m args below meth c H locs cells slots Q (F0 m (pc + 3) ls rest)) : W p l e R s m args below meth c H locs cells slots Q (F0 m pc ls (.int (nI x) :: rest)) :=
  lv_if_le hexec hb hdg ht (fun z => kt (Nat.le_zero.mp ((nI_leI hx9 (show 0 < 2147483648 by decide)).mp z))) (fun z => kf (Nat.pos_of_ne_zero (fun q => z (by rw [q]; decide))))
/-- two ways that meet with a number on the stack -/
theorem tern {P : Nat → Prop} {M : Nat} (k2 : (∀ v : Nat, P v → W p l e R s m args below meth c H locs cells slots Q (F0 m M ls (.int (nI v) :: rest))) → W p l e R s m args below meth c H locs cells slots Q (F0 m pc ls st0)) (k1 : ∀ v : Nat, P v → W p l e R s m args below meth c H locs cells slots Q (F0 m M ls (.int (nI v) :: rest))) : W p l e R s m args below meth c H locs cells slots Q (F0 m pc ls st0) := k2 k1
theorem ternI {P : Int32 → Prop} {M : Nat} (k2 : (∀ v : Int32, P v → W p l e R s m args below meth c H locs cells slots Q (F0 m M ls (.int v :: rest))) → W p l e R s m args below meth c H locs cells slots Q (F0 m pc ls st0)) (k1 : ∀ v : Int32, P v → W p l e R s m args below meth c H locs cells slots Q (F0 m M ls (.int v :: rest))) : W p l e R s m args below meth c H locs cells slots Q (F0 m pc ls st0) := k2 k1
/-- behind a method of the class that writes in its pool -/
theorem ztw {P : Int32 → zU → Prop} (hr : va_Run p l e R s m args below meth c H locs cells slots mc ms (F0 m pc ls st0) rest (va_Qi P (zPost D (va_A (va_pl L f) H.size)) (va_A (va_pl L f) H.size) ar) (va_A (va_pl L f) H.size)) (hT : va_P D vwCl (tW ca aa T) H) (hD : va_D A (va_pl L f ++ tW ca aa T)) (hS : va_S A H0 H locs) (hA : ∀ q : Nat, H0.size ≤ q → A q)
    (kk : ∀ (r : Int32) (u : zU) (H1 : Heap) (locs1 : List Loc), P r u → va_P D vwCl (va_pl u.1 u.2) H1 → va_P D vwCl (tW ca aa T) H1 → va_D A (va_pl u.1 u.2 ++ tW ca aa T) → va_S A H0 H1 locs1 → W p l e R s m args below meth c H1 locs1 (cells + mc) (slots + ms) Q (F0 m (pc + 3) ls (.int r :: rest))) : W p l e R s m args below meth c H locs cells slots Q (F0 m pc ls st0) := by
  have hA' : ∀ q : Nat, H.size ≤ q → A q := fun q h => hA q (Nat.le_trans hS.1 h)
  have hF : ∀ q, va_A (va_pl L f) H.size q → A q := fun q h => h.elim (fun ⟨k, e, h1⟩ => (w2_l hD).2 k (q, e) h1) (hA' q)
  refine va_calli hr hS (fun q _ h => hF q h) hF (fun r u t H1 locs1 ht _ hp hb _ k2 hS1 => ?_)
  obtain ⟨hb1, hb2⟩ := hb
  rw [ht] at hb1
  obtain ⟨g1, g2⟩ := w2_X hT hD hA' k2 hb2
  exact kk r u H1 locs1 hp hb1 g1 g2 hS1
theorem ztwv {P : zU → Prop} (hr : va_Run p l e R s m args below meth c H locs cells slots mc ms (F0 m pc ls st0) rest (va_Qv P (zPost D (va_A (va_pl L f) H.size)) (va_A (va_pl L f) H.size) ar) (va_A (va_pl L f) H.size)) (hT : va_P D vwCl (tW ca aa T) H) (hD : va_D A (va_pl L f ++ tW ca aa T)) (hS : va_S A H0 H locs) (hA : ∀ q : Nat, H0.size ≤ q → A q)
    (kk : ∀ (u : zU) (H1 : Heap) (locs1 : List Loc), P u → va_P D vwCl (va_pl u.1 u.2) H1 → va_P D vwCl (tW ca aa T) H1 → va_D A (va_pl u.1 u.2 ++ tW ca aa T) → va_S A H0 H1 locs1 → W p l e R s m args below meth c H1 locs1 (cells + mc) (slots + ms) Q (F0 m (pc + 3) ls rest)) : W p l e R s m args below meth c H locs cells slots Q (F0 m pc ls st0) := by
  have hA' : ∀ q : Nat, H.size ≤ q → A q := fun q h => hA q (Nat.le_trans hS.1 h)
  have hF : ∀ q, va_A (va_pl L f) H.size q → A q := fun q h => h.elim (fun ⟨k, e, h1⟩ => (w2_l hD).2 k (q, e) h1) (hA' q)
  refine va_callv hr hS (fun q _ h => hF q h) hF (fun u t H1 locs1 ht _ hp hb _ k2 hS1 => ?_)
  obtain ⟨hb1, hb2⟩ := hb
  rw [ht] at hb1
  obtain ⟨g1, g2⟩ := w2_X hT hD hA' k2 hb2
  exact kk u H1 locs1 hp hb1 g1 g2 hS1
end ZN
