/-! the law: out and the pool beside the reference's world -/
theorem va_D_fst {A : Nat → Prop} {ws ws' : va_W} (he : ws'.map Prod.fst = ws.map Prod.fst) (h : va_D A ws) : va_D A ws' := by
  have key : ∀ (k : Nat) (q : Nat × va_E), ws'[k]? = some q → ∃ q0, ws[k]? = some q0 ∧ q0.1 = q.1 := by
    intro k q hk
    have h1 : (ws'.map Prod.fst)[k]? = some q.1 := by rw [List.getElem?_map, hk]; rfl
    rw [he, List.getElem?_map] at h1
    cases h2 : ws[k]? with
    | none => rw [h2] at h1; cases h1
    | some q0 => rw [h2] at h1; exact ⟨q0, rfl, Option.some.inj h1⟩
  refine ⟨fun i j x y hi hj e => ?_, fun k q hk => ?_⟩
  · obtain ⟨x0, a1, a2⟩ := key i x hi
    obtain ⟨y0, b1, b2⟩ := key j y hj
    exact h.1 i j x0 y0 a1 b1 (by rw [a2, b2, e])
  · obtain ⟨q0, a1, a2⟩ := key k q hk
    rw [← a2]; exact h.2 k q0 a1
theorem w2_l {A : Nat → Prop} {X Y : va_W} (h : va_D A (X ++ Y)) : va_D A X := h.by (fun k => k) (fun k q hk => by rw [List.getElem?_append_left (List.getElem?_eq_some_iff.mp hk).1]; exact hk) (fun i j _ _ e => e)
theorem w2_r {A : Nat → Prop} {X Y : va_W} (h : va_D A (X ++ Y)) : va_D A Y := h.by (fun k => X.length + k) (fun k q hk => by rw [List.getElem?_append_right (Nat.le_add_right _ _), Nat.add_sub_cancel_left]; exact hk) (fun i j _ _ e => Nat.add_left_cancel e)
theorem w2_ne {A : Nat → Prop} {X Y : va_W} (h : va_D A (X ++ Y)) {i j : Nat} {x y : Nat × va_E} (hi : X[i]? = some x) (hj : Y[j]? = some y) : x.1 ≠ y.1 := fun e => by
  have hl := (List.getElem?_eq_some_iff.mp hi).1
  have h1 : (X ++ Y)[i]? = some x := by rw [List.getElem?_append_left hl]; exact hi
  have h2 : (X ++ Y)[X.length + j]? = some y := by rw [List.getElem?_append_right (Nat.le_add_right _ _), Nat.add_sub_cancel_left]; exact hj
  have := h.1 _ _ _ _ h1 h2 e
  omega
theorem w2_X {D : va_G} {A : Nat → Prop} {X X' Y : va_W} {H H1 : Heap} (hY : va_P D vwCl Y H) (hD : va_D A (X ++ Y)) (hA : ∀ q : Nat, H.size ≤ q → A q) (k2 : ∀ q : Nat, q < H.size → ¬ va_A X H.size q → H1[q]? = H[q]?) (hX' : va_D (va_A X H.size) X') : va_P D vwCl Y H1 ∧ va_D A (X' ++ Y) := by
  have hno : ∀ (k : Nat) (y : Nat × va_E), Y[k]? = some y → ¬ va_A X H.size y.1 := fun k y hk => by
    rintro (⟨i, e, h⟩ | h)
    · exact w2_ne hD h hk rfl
    · exact absurd (hY k y hk).lt (Nat.not_lt.mpr h)
  refine ⟨hY.kept (fun k y hk => k2 _ (hY k y hk).lt (hno k y hk)), va_D.app (hX'.weaken (fun k q hk h => ?_)) (w2_r hD) (fun i j x y hi hj e => ?_)⟩
  · rcases h with ⟨i, e, h⟩ | h
    · exact (w2_l hD).2 i (q.1, e) h
    · exact hA _ h
  · have h1 := hX'.2 i x hi
    rw [e] at h1
    exact hno j y hj h1
theorem w2_Y {D : va_G} {A : Nat → Prop} {X Y Y' : va_W} {H H1 : Heap} (hX : va_P D vwCl X H) (hD : va_D A (X ++ Y)) (k2 : ∀ q : Nat, q < H.size → ¬ va_A Y H.size q → H1[q]? = H[q]?) (he : Y'.map Prod.fst = Y.map Prod.fst) : va_P D vwCl X H1 ∧ va_D A (X ++ Y') := by
  refine ⟨hX.kept (fun k x hk => k2 _ (hX k x hk).lt ?_), va_D_fst (by rw [List.map_append, List.map_append, he]) hD⟩
  rintro (⟨i, e, h⟩ | h)
  · exact w2_ne hD hk h rfl
  · exact absurd (hX k x hk).lt (Nat.not_lt.mpr h)
section ZG
variable {p : Program} {l : Launch} {e : Env} {R : Room} {s : State} {m : MethodId} {args : Array Value} {below : List Frame} {meth : Method} {c : Code} {H : Heap} {locs : List Loc} {cells slots : Nat} {Q : State → Prop}
variable {cc : ByteArray} {pc : Nat} {ls : Array Slot} {rest st0 : List Value} {A : Nat → Prop} {H0 : Heap} {D : va_G} {L : List Nat} {f : Nat → va_E} {ca : Nat → ClassId} {sa : Nat → Nat} {ob : Nat} {g : Nat → Int64} {mc ms : Nat} {ar : Array Value} {Y Y' : va_W}
/-- behind a caller that came to its answer -/
theorem zgo {P : Int64 → zU → Prop} (hr : vx_Run p l e R s m args below meth c H locs cells slots mc ms (F0 m pc ls st0) rest (va_Qi (fun (r : Int32) (u : zU × (Nat → Int64)) => r = nI 0 ∧ P (u.2 0) u.1) (fun u t => va_P D vwCl (oW ca ob u.2 ++ va_pl u.1.1 u.1.2) t.heap ∧ va_D (va_A (oW ca ob g ++ va_pl L f) H.size) (oW ca ob u.2 ++ va_pl u.1.1 u.1.2)) (va_A (oW ca ob g ++ va_pl L f) H.size) ar) zX0 (va_A (oW ca ob g ++ va_pl L f) H.size)) (hY : va_P D vwCl Y H) (hD : va_D A ((oW ca ob g ++ va_pl L f) ++ Y)) (hS : va_S A H0 H locs) (hA : ∀ q : Nat, H0.size ≤ q → A q)
    (kk : ∀ (u : zU) (g1 : Nat → Int64) (H1 : Heap) (locs1 : List Loc), P (g1 0) u → va_P D vwCl (oW ca ob g1 ++ va_pl u.1 u.2) H1 → va_P D vwCl Y H1 → va_D A ((oW ca ob g1 ++ va_pl u.1 u.2) ++ Y) → va_S A H0 H1 locs1 → W p l e R s m args below meth c H1 locs1 (cells + mc) (slots + ms) Q (F0 m (pc + 3) ls (.int (nI 0) :: rest))) : W p l e R s m args below meth c H locs cells slots Q (F0 m pc ls st0) := by
  have hA' : ∀ q : Nat, H.size ≤ q → A q := fun q h => hA q (Nat.le_trans hS.1 h)
  have hF : ∀ q, va_A (oW ca ob g ++ va_pl L f) H.size q → A q := fun q h => h.elim (fun ⟨k, e, h1⟩ => (w2_l hD).2 k (q, e) h1) (hA' q)
  refine vx_calli (AX := fun _ => False) hr hS (fun q _ h => hF q h) hF (fun _ _ h => h.elim) (fun E ce q9 u t H1 locs1 _ _ _ hb _ _ _ _ _ _ => hb.elim) (fun r u t H1 locs1 ht _ hp hb _ k2 hS1 => ?_)
  obtain ⟨rfl, hp⟩ := hp
  obtain ⟨hb1, hb2⟩ := hb
  rw [ht] at hb1
  obtain ⟨g1, g2⟩ := w2_X hY hD hA' k2 hb2
  exact kk u.1 u.2 H1 locs1 hp hb1 g1 g2 hS1
/-- behind a caller that caught -/
theorem zgx {v : Int32} (hr : vx_Run p l e R s m args below meth c H locs cells slots mc ms (F0 m pc ls st0) rest (va_Qi (fun (r : Int32) (_ : Unit) => r = v) (fun _ _ => True) (fun q => H.size ≤ q) ar) zX0 (fun q => H.size ≤ q)) (hP : va_P D vwCl (oW ca ob g ++ va_pl L f) H) (hY : va_P D vwCl Y H) (hS : va_S A H0 H locs) (hA : ∀ q : Nat, H0.size ≤ q → A q)
    (kk : ∀ (H1 : Heap) (locs1 : List Loc), va_P D vwCl (oW ca ob g ++ va_pl L f) H1 → va_P D vwCl Y H1 → va_S A H0 H1 locs1 → W p l e R s m args below meth c H1 locs1 (cells + mc) (slots + ms) Q (F0 m (pc + 3) ls (.int v :: rest))) : W p l e R s m args below meth c H locs cells slots Q (F0 m pc ls st0) := by
  have hA' : ∀ q : Nat, H.size ≤ q → A q := fun q h => hA q (Nat.le_trans hS.1 h)
  refine vx_calli (AX := fun _ => False) hr hS (fun q h1 h2 => absurd h1 (Nat.not_lt.mpr h2)) hA' (fun _ _ h => h.elim) (fun E ce q9 u t H1 locs1 _ _ _ hb _ _ _ _ _ _ => hb.elim) (fun r u t H1 locs1 _ _ hp _ _ k2 hS1 => ?_)
  have hp : r = v := hp
  subst hp
  have k3 : ∀ q : Nat, q < H.size → H1[q]? = H[q]? := fun q hq => k2 q hq (Nat.not_le.mpr hq)
  exact kk H1 locs1 (hP.kept (fun k x hk => k3 _ (hP k x hk).lt)) (hY.kept (fun k x hk => k3 _ (hY k x hk).lt)) hS1
/-- behind the reference's method -/
theorem zgm {P : Int32 → Prop} (hr : va_Run p l e R s m args below meth c H locs cells slots mc ms (F0 m pc ls st0) rest (va_Qi (fun (r : Int32) (_ : Unit) => P r) (fun _ t => va_P D vwCl Y' t.heap) (va_A Y H.size) ar) (va_A Y H.size)) (hP : va_P D vwCl (oW ca ob g ++ va_pl L f) H) (hD : va_D A ((oW ca ob g ++ va_pl L f) ++ Y)) (hS : va_S A H0 H locs) (hA : ∀ q : Nat, H0.size ≤ q → A q) (he : Y'.map Prod.fst = Y.map Prod.fst)
    (kk : ∀ (r : Int32) (H1 : Heap) (locs1 : List Loc), P r → va_P D vwCl (oW ca ob g ++ va_pl L f) H1 → va_P D vwCl Y' H1 → va_D A ((oW ca ob g ++ va_pl L f) ++ Y') → va_S A H0 H1 locs1 → W p l e R s m args below meth c H1 locs1 (cells + mc) (slots + ms) Q (F0 m (pc + 3) ls (.int r :: rest))) : W p l e R s m args below meth c H locs cells slots Q (F0 m pc ls st0) := by
  have hF : ∀ q, va_A Y H.size q → A q := fun q h => h.elim (fun ⟨k, e, h1⟩ => (w2_r hD).2 k (q, e) h1) (fun h => hA q (Nat.le_trans hS.1 h))
  refine va_calli hr hS (fun q _ h => hF q h) hF (fun r u t H1 locs1 ht _ hp hb _ k2 hS1 => ?_)
  rw [ht] at hb
  obtain ⟨g1, g2⟩ := w2_Y hP hD k2 he
  exact kk r H1 locs1 hp g1 hb g2 hS1
theorem zgmv (hr : va_Run p l e R s m args below meth c H locs cells slots mc ms (F0 m pc ls st0) rest (va_Qv (fun (_ : Unit) => True) (fun _ t => va_P D vwCl Y' t.heap) (va_A Y H.size) ar) (va_A Y H.size)) (hP : va_P D vwCl (oW ca ob g ++ va_pl L f) H) (hD : va_D A ((oW ca ob g ++ va_pl L f) ++ Y)) (hS : va_S A H0 H locs) (hA : ∀ q : Nat, H0.size ≤ q → A q) (he : Y'.map Prod.fst = Y.map Prod.fst)
    (kk : ∀ (H1 : Heap) (locs1 : List Loc), va_P D vwCl (oW ca ob g ++ va_pl L f) H1 → va_P D vwCl Y' H1 → va_D A ((oW ca ob g ++ va_pl L f) ++ Y') → va_S A H0 H1 locs1 → W p l e R s m args below meth c H1 locs1 (cells + mc) (slots + ms) Q (F0 m (pc + 3) ls rest)) : W p l e R s m args below meth c H locs cells slots Q (F0 m pc ls st0) := by
  have hF : ∀ q, va_A Y H.size q → A q := fun q h => h.elim (fun ⟨k, e, h1⟩ => (w2_r hD).2 k (q, e) h1) (fun h => hA q (Nat.le_trans hS.1 h))
  refine va_callv hr hS (fun q _ h => hF q h) hF (fun u t H1 locs1 ht _ hp hb _ k2 hS1 => ?_)
  rw [ht] at hb
  obtain ⟨g1, g2⟩ := w2_Y hP hD k2 he
  exact kk H1 locs1 g1 hb g2 hS1
end ZG
