/-! the class's public methods that write, where nothing is thrown: the object stands as before, with what changed -/
def zU2 {α : Type} (g : Nat → Nat → α) (a b : Nat) (x : α) : Nat → Nat → α := fun q w => if q = a ∧ w = b then x else g q w
theorem zU2_s {α : Type} (g : Nat → Nat → α) (a b : Nat) (x : α) : zU2 g a b x a b = x := if_pos ⟨rfl, rfl⟩
theorem zU2_n {α : Type} {g : Nat → Nat → α} {a b q w : Nat} {x : α} (h : ¬ (q = a ∧ w = b)) : zU2 g a b x q w = g q w := if_neg h
theorem zCh_sub {L L' : List Nat} {f f' : Nat → va_E} {X : Nat} (hs : ∀ a e, zat L f a e → a ≠ X → zat L' f' a e) {e0 : va_E} (hX : zat L f X e0) (hk : zkd e0 ≠ 0) : ∀ (l : zLs) (nx : Option Nat), zCh L f nx l → zCh L' f' nx l := by
  intro l
  induction l with
  | nil => intro nx h; exact h
  | cons c r ih =>
    intro nx h
    obtain ⟨a, nx', h1, h2, h3⟩ := h
    exact ⟨a, nx', h1, hs a _ h2 (zat_ne h2 hX (fun z => hk z.symm)), ih nx' h3⟩
theorem zCh_all {L L' : List Nat} {f f' : Nat → va_E} (hs : ∀ a e, zat L f a e → zat L' f' a e) : ∀ (l : zLs) (nx : Option Nat), zCh L f nx l → zCh L' f' nx l := by
  intro l
  induction l with
  | nil => intro nx h; exact h
  | cons c r ih =>
    intro nx h
    obtain ⟨a, nx', h1, h2, h3⟩ := h
    exact ⟨a, nx', h1, hs a _ h2, ih nx' h3⟩
def zR (L : List Nat) (f : Nat → va_E) (ca : Nat → ClassId) (h0 K : Nat) (V : zV) : Prop := ∃ (ta pa : Nat) (aT aP aS : Nat → Nat) (aH : Nat → Nat → Nat) (n : Nat), zRep L f ca h0 ta pa aT aP aS aH n K V
section ZRL
variable {L L' : List Nat} {f f' : Nat → va_E} {ca : Nat → ClassId} {h0 ta pa : Nat} {aT aP aS : Nat → Nat} {aH : Nat → Nat → Nat} {n K : Nat} {V : zV}
/-- the object's own numbers change -/
theorem zRep_obj (hR : zRep L f ca h0 ta pa aT aP aS aH n K V) (hs : ∀ a e, zat L f a e → a ≠ h0 → zat L' f' a e) {td' n' K' : Nat} (h' : zat L' f' h0 (.inr (4, [.ref ta, .ref pa, .int (nI (vNt V)), .int (nI (vNp V)), .int (nI n'), .int (nI td')]))) (htd : td' ≤ 20000) (hn : n' ≤ K') (hK : K ≤ K') (hK5 : K' ≤ 512) : zRep L' f' ca h0 ta pa aT aP aS aH n' K' (td', vNt V, vNp V, vT V, vP V, vB V, vL V) := by
  obtain ⟨⟨h4, hTd, hNt, hNp, hnK, hK6⟩, ⟨gt, htA, hTi⟩, ⟨gp, hpA, hPk⟩, hinj⟩ := hR
  refine ⟨⟨h', htd, hNt, hNp, hn, hK5⟩, ⟨gt, hs _ _ htA (zat_ne htA h4 (show (100 : Nat) ≠ 4 by decide)), fun t ht => ?_⟩, ⟨gp, hs _ _ hpA (zat_ne hpA h4 (show (100 : Nat) ≠ 4 by decide)), fun q hq => ?_⟩, hinj⟩
  · obtain ⟨a1, a2, a3⟩ := hTi t ht
    exact ⟨a1, hs _ _ a2 (zat_ne a2 h4 (show (3 : Nat) ≠ 4 by decide)), a3⟩
  · obtain ⟨a1, ⟨⟨b1, b2⟩, g0, b3, b4⟩, a3⟩ := hPk q hq
    refine ⟨a1, ⟨⟨hs _ _ b1 (zat_ne b1 h4 (show (2 : Nat) ≠ 4 by decide)), b2⟩, g0, hs _ _ b3 (zat_ne b3 h4 (show (100 : Nat) ≠ 4 by decide)), b4⟩, fun w hw => ?_⟩
    obtain ⟨⟨⟨nx, c1, c2⟩, c3⟩, c4⟩ := a3 w hw
    exact ⟨⟨⟨nx, hs _ _ c1 (zat_ne c1 h4 (show (1 : Nat) ≠ 4 by decide)), zCh_sub hs h4 (show (4 : Nat) ≠ 0 by decide) _ _ c2⟩, c3⟩, Nat.le_trans c4 hK⟩
/-- one history changes -/
theorem zRep_hist (hR : zRep L f ca h0 ta pa aT aP aS aH n K V) {q0 w0 : Nat} (hq0 : q0 < vNp V) (hw0 : w0 ≤ 20) (hs : ∀ a e, zat L f a e → a ≠ aH q0 w0 → zat L' f' a e) {b' K' : Nat} {nx' : Option Nat} {l' : zLs} (h' : zat L' f' (aH q0 w0) (.inr (1, [va_rf nx', .int (nI b')]))) (hc : zCh L' f' nx' l') (hok : zOk l') (hb : b' ≤ K') (hK : K ≤ K') (hK5 : K' ≤ 512) : zRep L' f' ca h0 ta pa aT aP aS aH n K' (vTd V, vNt V, vNp V, vT V, vP V, zU2 (vB V) q0 w0 b', zU2 (vL V) q0 w0 l') := by
  obtain ⟨⟨h4, hTd, hNt, hNp, hnK, hK6⟩, ⟨gt, htA, hTi⟩, ⟨gp, hpA, hPk⟩, hinj⟩ := hR
  obtain ⟨⟨⟨nx0, e1, e2⟩, -⟩, -⟩ := (hPk q0 hq0).2.2 w0 hw0
  refine ⟨⟨hs _ _ h4 (zat_ne h4 e1 (show (4 : Nat) ≠ 1 by decide)), hTd, hNt, hNp, Nat.le_trans hnK hK, hK5⟩, ⟨gt, hs _ _ htA (zat_ne htA e1 (show (100 : Nat) ≠ 1 by decide)), fun t ht => ?_⟩, ⟨gp, hs _ _ hpA (zat_ne hpA e1 (show (100 : Nat) ≠ 1 by decide)), fun q hq => ?_⟩, hinj⟩
  · obtain ⟨a1, a2, a3⟩ := hTi t ht
    exact ⟨a1, hs _ _ a2 (zat_ne a2 e1 (show (3 : Nat) ≠ 1 by decide)), a3⟩
  · obtain ⟨a1, ⟨⟨b1, b2⟩, g0, b3, b4⟩, a3⟩ := hPk q hq
    refine ⟨a1, ⟨⟨hs _ _ b1 (zat_ne b1 e1 (show (2 : Nat) ≠ 1 by decide)), b2⟩, g0, hs _ _ b3 (zat_ne b3 e1 (show (100 : Nat) ≠ 1 by decide)), b4⟩, fun w hw => ?_⟩
    obtain ⟨⟨⟨nx, c1, c2⟩, c3⟩, c4⟩ := a3 w hw
    by_cases hx : q = q0 ∧ w = w0
    · obtain ⟨rfl, rfl⟩ := hx
      show zHist L' f' (aH q w) (zU2 (vB V) q w b' q w) (zU2 (vL V) q w l' q w) ∧ zU2 (vB V) q w b' q w ≤ K'
      rw [zU2_s, zU2_s]
      exact ⟨⟨⟨nx', h', hc⟩, hok⟩, hb⟩
    · show zHist L' f' (aH q w) (zU2 (vB V) q0 w0 b' q w) (zU2 (vL V) q0 w0 l' q w) ∧ zU2 (vB V) q0 w0 b' q w ≤ K'
      rw [zU2_n hx, zU2_n hx]
      exact ⟨⟨⟨nx, hs _ _ c1 (fun z => hx (hinj.1 q q0 w w0 hq hq0 hw hw0 z)), zCh_sub hs e1 (show (1 : Nat) ≠ 0 by decide) _ _ c2⟩, c3⟩, Nat.le_trans c4 hK⟩
theorem zRep_up (hR : zRep L f ca h0 ta pa aT aP aS aH n K V) {K' : Nat} (hK : K ≤ K') (hK5 : K' ≤ 512) : zRep L f ca h0 ta pa aT aP aS aH n K' V := by
  obtain ⟨⟨h4, hTd, hNt, hNp, hnK, hK6⟩, hT, ⟨gp, hpA, hPk⟩, hinj⟩ := hR
  exact ⟨⟨h4, hTd, hNt, hNp, Nat.le_trans hnK hK, hK5⟩, hT, ⟨gp, hpA, fun q hq => ⟨(hPk q hq).1, (hPk q hq).2.1, fun w hw => ⟨((hPk q hq).2.2 w hw).1, Nat.le_trans ((hPk q hq).2.2 w hw).2 hK⟩⟩⟩, hinj⟩
/-- a new title -/
theorem zRep_title (hR : zRep L f ca h0 ta pa aT aP aS aH n K V) {gt gt' : Nat → Option Nat} (htA : zat L f ta (.inl (ca 0, 20, .inr (.inr (.inr (.inr gt)))))) (hs : ∀ a e, zat L f a e → a ≠ h0 → a ≠ ta → zat L' f' a e) {q a b K' : Nat} (hnt : vNt V < 20) (h' : zat L' f' h0 (.inr (4, [.ref ta, .ref pa, .int (nI (vNt V + 1)), .int (nI (vNp V)), .int (nI n), .int (nI (vTd V))]))) (hta' : zat L' f' ta (.inl (ca 0, 20, .inr (.inr (.inr (.inr gt')))))) (hg1 : gt' (vNt V) = some q) (hg2 : ∀ t, t < vNt V → gt' t = gt t) (hq : zat L' f' q (.inr (3, [.int (nI a), .int (nI b)]))) (ha : a ≤ 55) (hb1 : 1 ≤ b) (hb4 : b ≤ 4) (hK : K ≤ K') (hK5 : K' ≤ 512) : zRep L' f' ca h0 ta pa (va_up aT (vNt V) q) aP aS aH n K' (vTd V, vNt V + 1, vNp V, va_up (vT V) (vNt V) (a, b), vP V, vB V, vL V) := by
  obtain ⟨⟨h4, hTd, hNt, hNp, hnK, hK6⟩, ⟨gt0, htA0, hTi⟩, ⟨gp, hpA, hPk⟩, hinj⟩ := hR
  have eg : gt0 = gt := by
    have := zat_inj htA0 htA
    injection this with h1
    injection h1 with h2 h3
    injection h3 with h4 h5
    injection h5 with h6
    injection h6 with h7
    injection h7 with h8
    injection h8
  subst eg
  have no : ∀ {x : Nat} {e : va_E}, zat L f x e → zkd e ≠ 4 → zkd e ≠ 100 → zat L' f' x e := fun h k1 k2 => hs _ _ h (zat_ne h h4 k1) (zat_ne h htA k2)
  have hch : ∀ (l : zLs) (nx : Option Nat), zCh L f nx l → zCh L' f' nx l := by
    intro l
    induction l with
    | nil => intro nx h; exact h
    | cons c r ih =>
      intro nx h
      obtain ⟨a, nx', h1, h2, h3⟩ := h
      exact ⟨a, nx', h1, no h2 (show (0 : Nat) ≠ 4 by decide) (show (0 : Nat) ≠ 100 by decide), ih nx' h3⟩
  refine ⟨⟨h', hTd, by show vNt V + 1 ≤ 20; omega, hNp, Nat.le_trans hnK hK, hK5⟩, ⟨gt', hta', fun t ht => ?_⟩, ⟨gp, hs _ _ hpA (zat_ne hpA h4 (show (100 : Nat) ≠ 4 by decide)) (fun z => hinj.2.1 z.symm), fun r hr => ?_⟩, hinj⟩
  · have ht : t < vNt V + 1 := ht
    by_cases e : t = vNt V
    · subst e
      show gt' (vNt V) = some (va_up aT (vNt V) q (vNt V)) ∧ zat L' f' (va_up aT (vNt V) q (vNt V)) (.inr (3, [.int (nI (va_up (vT V) (vNt V) (a, b) (vNt V)).1), .int (nI (va_up (vT V) (vNt V) (a, b) (vNt V)).2)])) ∧ (va_up (vT V) (vNt V) (a, b) (vNt V)).1 ≤ 55 ∧ 1 ≤ (va_up (vT V) (vNt V) (a, b) (vNt V)).2 ∧ (va_up (vT V) (vNt V) (a, b) (vNt V)).2 ≤ 4
      rw [va_up_self, va_up_self]
      exact ⟨hg1, hq, ha, hb1, hb4⟩
    · have ht2 : t < vNt V := by omega
      obtain ⟨a1, a2, a3⟩ := hTi t ht2
      show gt' t = some (va_up aT (vNt V) q t) ∧ zat L' f' (va_up aT (vNt V) q t) (.inr (3, [.int (nI (va_up (vT V) (vNt V) (a, b) t).1), .int (nI (va_up (vT V) (vNt V) (a, b) t).2)])) ∧ (va_up (vT V) (vNt V) (a, b) t).1 ≤ 55 ∧ 1 ≤ (va_up (vT V) (vNt V) (a, b) t).2 ∧ (va_up (vT V) (vNt V) (a, b) t).2 ≤ 4
      rw [va_up_ne _ _ e, va_up_ne _ _ e]
      exact ⟨(hg2 t ht2).trans a1, no a2 (show (3 : Nat) ≠ 4 by decide) (show (3 : Nat) ≠ 100 by decide), a3⟩
  · obtain ⟨a1, ⟨⟨b1, b2⟩, g0, b3, b4⟩, a3⟩ := hPk r hr
    refine ⟨a1, ⟨⟨no b1 (show (2 : Nat) ≠ 4 by decide) (show (2 : Nat) ≠ 100 by decide), b2⟩, g0, hs _ _ b3 (zat_ne b3 h4 (show (100 : Nat) ≠ 4 by decide)) (hinj.2.2 r hr).1, b4⟩, fun w hw => ?_⟩
    obtain ⟨⟨⟨nx, c1, c2⟩, c3⟩, c4⟩ := a3 w hw
    exact ⟨⟨⟨nx, no c1 (show (1 : Nat) ≠ 4 by decide) (show (1 : Nat) ≠ 100 by decide), hch _ _ c2⟩, c3⟩, Nat.le_trans c4 hK⟩
end ZRL
def zAll (b : Bool) : Int64 := if b then 72057594037927935 else 0

set_option maxHeartbeats 4000000 in
set_option maxRecDepth 100000 in
theorem w_change (l : Launch) (D : va_G) (ca : Nat → ClassId) (sa : Nat → Nat) (L : List Nat) (f : Nat → va_E) (h0 ta pa : Nat) (aT aP aS : Nat → Nat) (aH : Nat → Nat → Nat) (n K : Nat) (V : zV) (hR : zRep L f ca h0 ta pa aT aP aS aH n K V) (q0 w0 w : Nat) (y : Int64) (hq : q0 < vNp V) (hw0 : w0 ≤ 20) (hw : w ≤ 20) (hK : K < 512) (sz : Nat) : Met l yX4_change wsX4_change ({ frames := 4, cells := 1, slots := 4, locals := 160 }) (va_Pc [.ref h0, .ref (aH q0 w0), .long y, .int (nI w)] (zMp D (va_pl L f) ca sa sz)) (va_Qv (fun (u : zU) => zR u.1 u.2 ca h0 (K + 1) (vTd V, vNt V, vNp V, vT V, vP V, vB V, zU2 (vL V) q0 w0 ((vTd V, y, w) :: vL V q0 w0))) (zPost D (va_A (va_pl L f) sz)) (va_A (va_pl L f) sz)) 1 4 (va_A (va_pl L f) sz) := by
  refine Met.ofW (cc := cX4_change) (maxL := 5) (ret := none) (by decide) rfl ?_
  intro p e s m args below meth c s₁ B hml hv
  obtain ⟨rfl, hsz, hP, hD0, hE⟩ := hv
  have hx := B.exec
  have hb := B.bytes
  have hr := B.returns
  have hts := atoms_spec (ws := wsX4_change) B.pre
  have hown : s.vm.findClass RX4 = some m.cls := findClass_of_methodNamed B.named
  have hlocks := B.notSynchronized
  have hl := lv_entry ([.ref h0, .ref (aH q0 w0), .long y, .int (nI w)]) (n := 5) (Nat.le_of_ble_eq_true rfl)
  rw [lg_entry_eq]
  generalize (lg_sl ([.ref h0, .ref (aH q0 w0), .long y, .int (nI w)]) ++ List.replicate (5 - (lg_sl ([.ref h0, .ref (aH q0 w0), .long y, .int (nI w)])).length) Slot.unset).toArray = ls at hl ⊢
  have hl : lv_has ls 5 [(0, .ref h0), (1, .ref (aH q0 w0)), (2, .long y), (4, .int (nI w))] := hl
  subst hsz
  have hD := hD0.self (sz := s.heap.size)
  generalize hAe : va_A (va_pl L f) s.heap.size = A at hD ⊢
  have hA : ∀ q : Nat, s.heap.size ≤ q → A q := fun q h => by rw [← hAe]; exact Or.inr h
  have hS : va_S A s.heap s.heap [] := va_S.rf
  obtain ⟨⟨h4, hTd, hNt, hNp, hnK, hK5⟩, ⟨gt, htA, hTi⟩, ⟨gp, hpA, hPk⟩, hinj⟩ := id hR
  have hpk : ∀ q, q < vNp V → zPack L f ca (aP q) (vP V q) (aH q 20) (aS q) (aH q) := fun q h => (hPk q h).2.1
  have hhi : ∀ q, q < vNp V → ∀ w, w ≤ 20 → zHist L f (aH q w) (vB V q w) (vL V q w) := fun q h w hw => ((hPk q h).2.2 w hw).1
  obtain ⟨⟨nx1, hx1, hc1⟩, hok1⟩ := hhi q0 hq w0 hw0
  refine lv_aload_n hx hb dX4_change_0 rfl (lv_at hl 0 rfl) ?_
  refine zget (own := RX4) (ci := 4) (C := RX4) (T := TX4) (N := 6) hx hb hts (by decide +kernel) hown hE hP h4 rfl 4 (by decide) (hts (.fieldLink RX4 28 "LinkResolver" "changeCount" "I") (by decide +kernel)) rfl dX4_change_1 ?_
  refine lv_sipush (v := nI 512) hx hb dX4_change_4 (by decide) ?_
  refine lv_icmp_ge (tgt := 31) hx hb dX4_change_7 (by decide) (fun c_7 => ?_) (fun c_7 => ?_)
  · exact absurd ((nI_leI (by omega) (by omega)).mp c_7) (by omega)
  · refine lv_aload_n hx hb dX4_change_10 rfl (lv_at hl 0 rfl) ?_
    refine lv_dup hx hb dX4_change_11 rfl ?_
    refine zget (own := RX4) (ci := 4) (C := RX4) (T := TX4) (N := 6) hx hb hts (by decide +kernel) hown hE hP h4 rfl 4 (by decide) (hts (.fieldLink RX4 28 "LinkResolver" "changeCount" "I") (by decide +kernel)) rfl dX4_change_12 ?_
    refine lv_iconst (v := nI 1) hx hb dX4_change_15 (by decide) ?_
    refine lv_iadd hx hb dX4_change_16 ?_
    refine zasi (show ((nI n) + (nI 1)) = nI (n + 1) from nI_1 _) ?_
    refine zput (own := RX4) (ci := 4) (v := .int (nI (n + 1))) (ty := .int) (C := RX4) (T := TX4) (N := 6) hx hb hts (by decide +kernel) tyX4 tyX4_ok nmX4 hown hE hP hD hS h4 rfl 4 (by decide) (hts (.fieldLink RX4 28 "LinkResolver" "changeCount" "I") (by decide +kernel)) rfl (by decide +kernel) rfl rfl (Nat.le_of_ble_eq_true rfl) dX4_change_17 (fun H locs hP hD hS => ?_)
    have hP : va_P D vwCl (va_pl L (va_up f h0 (.inr (4, [.ref ta, .ref pa, .int (nI (vNt V)), .int (nI (vNp V)), .int (nI (n + 1)), .int (nI (vTd V))])))) H := hP
    have hD : va_D A (va_pl L (va_up f h0 (.inr (4, [.ref ta, .ref pa, .int (nI (vNt V)), .int (nI (vNp V)), .int (nI (n + 1)), .int (nI (vTd V))])))) := hD
    have hx1 := zat_up (b := h0) (e' := (.inr (4, [.ref ta, .ref pa, .int (nI (vNt V)), .int (nI (vNp V)), .int (nI (n + 1)), .int (nI (vTd V))]))) hx1 (zat_ne hx1 h4 (show (1 : Nat) ≠ 4 by decide))
    have h4 : zat L (va_up f h0 (.inr (4, [.ref ta, .ref pa, .int (nI (vNt V)), .int (nI (vNp V)), .int (nI (n + 1)), .int (nI (vTd V))]))) h0 (.inr (4, [.ref ta, .ref pa, .int (nI (vNt V)), .int (nI (vNp V)), .int (nI (n + 1)), .int (nI (vTd V))])) := zat_self h4.1
    refine lv_aload_n hx hb dX4_change_20 rfl (lv_at hl 1 rfl) ?_
    refine lv_aload_n hx hb dX4_change_21 rfl (lv_at hl 0 rfl) ?_
    refine zget (own := RX4) (ci := 4) (C := RX4) (T := TX4) (N := 6) hx hb hts (by decide +kernel) hown hE hP h4 rfl 5 (by decide) (hts (.fieldLink RX4 31 "LinkResolver" "currentDay" "I") (by decide +kernel)) rfl dX4_change_22 ?_
    refine lv_lload_n hx hb dX4_change_25 rfl (lv_at hl 2 rfl) ?_
    refine lv_iload hx hb dX4_change_26 (lv_at hl 3 rfl) ?_
    refine zwcv (va_runV (As := [.int (nI (vTd V)), .long y, .int (nI w)]) (rest := []) ⟨hx, hb, hml, hown, hts⟩ (w_add l D ca sa L (va_up f h0 (.inr (4, [.ref ta, .ref pa, .int (nI (vNt V)), .int (nI (vNp V)), .int (nI (n + 1)), .int (nI (vTd V))]))) (aH q0 w0) (vTd V) w (vB V q0 w0) y nx1 hx1 _) (cwV 3 hts gX4_change_X1_add rfl rfl rfl (by decide +kernel) ⟨Nat.le_of_ble_eq_true rfl, Nat.le_of_ble_eq_true rfl⟩) (zmVp hP hD hE (ci := 1) rfl hx1) rfl rfl hl.1 rfl (lv_room (Nat.le_of_ble_eq_true rfl)) dX4_change_28 ⟨Nat.le_of_ble_eq_true rfl, Nat.le_of_ble_eq_true rfl⟩) hD hS hA (fun u H locs hu hP hD hS => ?_)
    obtain ⟨q1, hq1, rfl⟩ := hu
    have hR1 := zRep_obj hR (L' := L) (f' := va_up f h0 (.inr (4, [.ref ta, .ref pa, .int (nI (vNt V)), .int (nI (vNp V)), .int (nI (n + 1)), .int (nI (vTd V))]))) (K' := K + 1) (fun a e h hn => zat_up h hn) h4 hTd (by omega) (Nat.le_succ K) hK
    have hsx : ∀ a e, zat L (va_up f h0 (.inr (4, [.ref ta, .ref pa, .int (nI (vNt V)), .int (nI (vNp V)), .int (nI (n + 1)), .int (nI (vTd V))]))) a e → zat (L ++ [q1]) (va_up (va_up f h0 (.inr (4, [.ref ta, .ref pa, .int (nI (vNt V)), .int (nI (vNp V)), .int (nI (n + 1)), .int (nI (vTd V))]))) q1 (.inr (0, [.int (nI (vTd V)), .long y, .int (nI w), va_rf nx1]))) a e := fun a e h => zat_push h hq1
    obtain ⟨⟨⟨nx2, d1, d2⟩, d3⟩, d4⟩ := (hR1.2.2.1.choose_spec.2 q0 hq).2.2 w0 hw0
    have enx : nx2 = nx1 := by
      have := zat_inj d1 hx1
      injection this with t1
      injection t1 with t2 t3
      injection t3 with t4
      cases nx1 <;> cases nx2 <;> first | rfl | (injection t4 with t5; rw [t5]) | cases t4
    subst enx
    have hq1n : zat (L ++ [q1]) (va_up (va_up f h0 (.inr (4, [.ref ta, .ref pa, .int (nI (vNt V)), .int (nI (vNp V)), .int (nI (n + 1)), .int (nI (vTd V))]))) q1 (.inr (0, [.int (nI (vTd V)), .long y, .int (nI w), va_rf nx2]))) q1 (.inr (0, [.int (nI (vTd V)), .long y, .int (nI w), va_rf nx2])) := zat_new
    have hne := zat_nL d1 hq1
    refine zwrv (_, _) hx hb hr hlocks dX4_change_31 hP hD hS ?_
    have hR2 := zRep_hist hR1 hq hw0 (L' := L ++ [q1]) (f' := va_up (va_up (va_up f h0 (.inr (4, [.ref ta, .ref pa, .int (nI (vNt V)), .int (nI (vNp V)), .int (nI (n + 1)), .int (nI (vTd V))]))) q1 (.inr (0, [.int (nI (vTd V)), .long y, .int (nI w), va_rf nx2]))) (aH q0 w0) (.inr (1, [.ref q1, .int (nI (vB V q0 w0))]))) (nx' := some q1) (b' := vB V q0 w0) (l' := (vTd V, y, w) :: vL V q0 w0) (K' := K + 1) (fun a e h hn => zat_up (hsx a e h) hn) (zat_self (hsx _ _ d1).1) ⟨q1, nx2, rfl, zat_up hq1n (Ne.symm hne), ?_⟩ ?_ d4 (Nat.le_refl _) hK
    · refine ⟨ta, pa, aT, aP, aS, aH, n + 1, ?_⟩
      have eB : zU2 (vB V) q0 w0 (vB V q0 w0) = vB V := by
        funext q w
        by_cases z : q = q0 ∧ w = w0
        · obtain ⟨rfl, rfl⟩ := z; exact zU2_s _ _ _ _
        · exact zU2_n z
      have hR3 := hR2
      rw [show zU2 (vB (vTd V, vNt V, vNp V, vT V, vP V, vB V, vL V)) q0 w0 (vB V q0 w0) = vB V from eB] at hR3
      exact hR3
    · refine zCh_sub (X := aH q0 w0) (fun a e h hn => zat_up (hsx a e h) hn) d1 (show (1 : Nat) ≠ 0 by decide) _ _ d2
    · intro c hc
      rcases List.mem_cons.mp hc with rfl | hc
      · exact ⟨hTd, hw⟩
      · exact d3 c hc

set_option maxHeartbeats 4000000 in
set_option maxRecDepth 100000 in
theorem w_subscribe (l : Launch) (D : va_G) (ca : Nat → ClassId) (sa : Nat → Nat) (L : List Nat) (f : Nat → va_E) (h0 ta pa : Nat) (aT aP aS : Nat → Nat) (aH : Nat → Nat → Nat) (n K : Nat) (V : zV) (hR : zRep L f ca h0 ta pa aT aP aS aH n K V) (q : Nat) (b : Bool) (hq : q < vNp V) (hK : K < 512) (sz : Nat) : Met l yX4_subscribe wsX4_subscribe ({ frames := 8, cells := 1, slots := 4, locals := 320 }) (va_Pc [.ref h0, .int (nI q), .int (bI b)] (zMp D (va_pl L f) ca sa sz)) (va_Qi (fun (r : Int32) (u : zU) => r = bI (zOn (vTd V) (vL V q 20)) ∧ zR u.1 u.2 ca h0 (K + 1) (vTd V, vNt V, vNp V, vT V, vP V, vB V, zU2 (vL V) q 20 ((vTd V, zAll b, 0) :: vL V q 20))) (zPost D (va_A (va_pl L f) sz)) (va_A (va_pl L f) sz)) 1 4 (va_A (va_pl L f) sz) := by
  refine Met.ofW (cc := cX4_subscribe) (maxL := 5) (ret := (some .boolean)) (by decide) rfl ?_
  intro p e s m args below meth c s₁ B hml hv
  obtain ⟨rfl, hsz, hP, hD0, hE⟩ := hv
  have hx := B.exec
  have hb := B.bytes
  have hr := B.returns
  have hts := atoms_spec (ws := wsX4_subscribe) B.pre
  have hown : s.vm.findClass RX4 = some m.cls := findClass_of_methodNamed B.named
  have hlocks := B.notSynchronized
  have hl := lv_entry ([.ref h0, .int (nI q), .int (bI b)]) (n := 5) (Nat.le_of_ble_eq_true rfl)
  rw [lg_entry_eq]
  generalize (lg_sl ([.ref h0, .int (nI q), .int (bI b)]) ++ List.replicate (5 - (lg_sl ([.ref h0, .int (nI q), .int (bI b)])).length) Slot.unset).toArray = ls at hl ⊢
  have hl : lv_has ls 5 [(0, .ref h0), (1, .int (nI q)), (2, .int (bI b))] := hl
  subst hsz
  have hD := hD0.self (sz := s.heap.size)
  generalize hAe : va_A (va_pl L f) s.heap.size = A at hD ⊢
  have hA : ∀ q : Nat, s.heap.size ≤ q → A q := fun q h => by rw [← hAe]; exact Or.inr h
  have hS : va_S A s.heap s.heap [] := va_S.rf
  obtain ⟨⟨h4, hTd, hNt, hNp, hnK, hK5⟩, ⟨gt, htA, hTi⟩, ⟨gp, hpA, hPk⟩, hinj⟩ := id hR
  have hpk : ∀ q, q < vNp V → zPack L f ca (aP q) (vP V q) (aH q 20) (aS q) (aH q) := fun q h => (hPk q h).2.1
  have hhi : ∀ q, q < vNp V → ∀ w, w ≤ 20 → zHist L f (aH q w) (vB V q w) (vL V q w) := fun q h w hw => ((hPk q h).2.2 w hw).1
  obtain ⟨⟨nx1, hx1, hc1⟩, hok1⟩ := hhi q hq 20 (by omega)
  refine lv_aload_n hx hb dX4_subscribe_0 rfl (lv_at hl 0 rfl) ?_
  refine lv_iload_n hx hb dX4_subscribe_1 rfl (lv_at hl 1 rfl) ?_
  refine zcq (va_runV (As := [.int (nI q)]) (rest := []) ⟨hx, hb, hml, hown, hts⟩ (c_exPack l D ca sa L f h0 ta pa aT aP aS aH n K V hR q hq) (cwV 1 hts gX4_subscribe_X4_existingPack rfl rfl rfl (by decide +kernel) ⟨Nat.le_of_ble_eq_true rfl, Nat.le_of_ble_eq_true rfl⟩) (zpVp hP hE (ci := 4) rfl h4) rfl rfl hl.1 rfl (lv_room (Nat.le_of_ble_eq_true rfl)) dX4_subscribe_2 ⟨Nat.le_of_ble_eq_true rfl, Nat.le_of_ble_eq_true rfl⟩) ?_
  refine W.eq (g2 := F0 m 5 ls [.ref (aP q)]) rfl ?_
  refine zget (own := RX4) (ci := 2) (C := RX2) (T := TX2) (N := 6) hx hb hts (by decide +kernel) hown hE hP (hpk q hq).1.1 rfl 4 (by decide) (hts (.fieldLink RX4 68 "LinkResolver$Pack" "subscription" "LLinkResolver$History;") (by decide +kernel)) rfl dX4_subscribe_5 ?_
  refine lv_astore_n (lv' := [(3, .ref (aH q 20)), (0, .ref h0), (1, .int (nI q)), (2, .int (bI b))]) hx hb dX4_subscribe_8 rfl hl (by decide) rfl (fun ls hl => ?_)
  refine lv_aload_n hx hb dX4_subscribe_9 rfl (lv_at hl 0 rfl) ?_
  refine lv_aload_n hx hb dX4_subscribe_10 rfl (lv_at hl 1 rfl) ?_
  refine zget (own := RX4) (ci := 4) (C := RX4) (T := TX4) (N := 6) hx hb hts (by decide +kernel) hown hE hP h4 rfl 5 (by decide) (hts (.fieldLink RX4 31 "LinkResolver" "currentDay" "I") (by decide +kernel)) rfl dX4_subscribe_11 ?_
  refine zci (va_runV (As := [.int (nI (vTd V))]) (rest := []) ⟨hx, hb, hml, hown, hts⟩ (c_isOnAt l D ca sa L f (aH q 20) (vTd V) _ (vL V q 20) (by omega) (hhi q hq 20 (by omega))) (cwV 1 hts gX4_subscribe_X1_isOnAt rfl rfl rfl (by decide +kernel) ⟨Nat.le_of_ble_eq_true rfl, Nat.le_of_ble_eq_true rfl⟩) (zpVp hP hE (ci := 1) rfl hx1) rfl rfl hl.1 rfl (lv_room (Nat.le_of_ble_eq_true rfl)) dX4_subscribe_14 ⟨Nat.le_of_ble_eq_true rfl, Nat.le_of_ble_eq_true rfl⟩) ?_
  refine lv_istore (lv' := [(4, .int (bI (zOn (vTd V) (vL V q 20)))), (3, .ref (aH q 20)), (0, .ref h0), (1, .int (nI q)), (2, .int (bI b))]) hx hb dX4_subscribe_17 hl (by decide) rfl (fun ls hl => ?_)
  refine lv_aload_n hx hb dX4_subscribe_19 rfl (lv_at hl 2 rfl) ?_
  refine lv_aload_n hx hb dX4_subscribe_20 rfl (lv_at hl 1 rfl) ?_
  refine lv_iload_n hx hb dX4_subscribe_21 rfl (lv_at hl 4 rfl) ?_
  refine lv_if_eq (tgt := 31) hx hb dX4_subscribe_22 (by decide) (fun c_22 => ?_) (fun c_22 => ?_)
  · obtain rfl : b = false := bI_eq0 c_22
    refine lv_lconst (v := 0) hx hb dX4_subscribe_31 (by decide) ?_
    refine lv_iconst (v := nI 0) hx hb dX4_subscribe_32 (by decide) ?_
    refine zwcv (va_runV (As := [.ref (aH q 20), .long 0, .int (nI 0)]) (rest := []) ⟨hx, hb, hml, hown, hts⟩ (w_change l D ca sa L f h0 ta pa aT aP aS aH n K V hR q 20 0 (0) hq (by omega) (by omega) hK _) (cwV 3 hts gX4_subscribe_X4_change rfl rfl rfl (by decide +kernel) ⟨Nat.le_of_ble_eq_true rfl, Nat.le_of_ble_eq_true rfl⟩) (zmVp hP hD hE (ci := 4) rfl h4) rfl rfl hl.1 rfl (lv_room (Nat.le_of_ble_eq_true rfl)) dX4_subscribe_33 ⟨Nat.le_of_ble_eq_true rfl, Nat.le_of_ble_eq_true rfl⟩) hD hS hA (fun u H locs hu hP hD hS => ?_)
    obtain ⟨L1, f1⟩ := u
    refine lv_iload hx hb dX4_subscribe_36 (lv_at hl 0 rfl) ?_
    exact zwrz (L1, f1) hx hb hr hlocks dX4_subscribe_38 (bI_nar _) hP hD hS ⟨rfl, hu⟩
  · obtain rfl : b = true := bI_ne0 c_22
    refine lv_ldc2 hx hb hown (hts (.constantLong RX4 78 72057594037927935) (by decide +kernel)) dX4_subscribe_25 ?_
    refine lv_goto (tgt := 32) hx hb dX4_subscribe_28 (by decide) ?_
    refine lv_iconst (v := nI 0) hx hb dX4_subscribe_32 (by decide) ?_
    refine zwcv (va_runV (As := [.ref (aH q 20), .long 72057594037927935, .int (nI 0)]) (rest := []) ⟨hx, hb, hml, hown, hts⟩ (w_change l D ca sa L f h0 ta pa aT aP aS aH n K V hR q 20 0 (72057594037927935) hq (by omega) (by omega) hK _) (cwV 3 hts gX4_subscribe_X4_change rfl rfl rfl (by decide +kernel) ⟨Nat.le_of_ble_eq_true rfl, Nat.le_of_ble_eq_true rfl⟩) (zmVp hP hD hE (ci := 4) rfl h4) rfl rfl hl.1 rfl (lv_room (Nat.le_of_ble_eq_true rfl)) dX4_subscribe_33 ⟨Nat.le_of_ble_eq_true rfl, Nat.le_of_ble_eq_true rfl⟩) hD hS hA (fun u H locs hu hP hD hS => ?_)
    obtain ⟨L1, f1⟩ := u
    refine lv_iload hx hb dX4_subscribe_36 (lv_at hl 0 rfl) ?_
    exact zwrz (L1, f1) hx hb hr hlocks dX4_subscribe_38 (bI_nar _) hP hD hS ⟨rfl, hu⟩

set_option maxHeartbeats 4000000 in
set_option maxRecDepth 100000 in
theorem w_come (l : Launch) (D : va_G) (ca : Nat → ClassId) (sa : Nat → Nat) (L : List Nat) (f : Nat → va_E) (h0 ta pa : Nat) (aT aP aS : Nat → Nat) (aH : Nat → Nat → Nat) (n K : Nat) (V : zV) (hR : zRep L f ca h0 ta pa aT aP aS aH n K V) (q : Nat) (hq : q < vNp V) (t : Nat) (ht : t < vNt V) (a b w : Nat) (ha : a ≤ b) (hb5 : b ≤ 55) (hw : w ≤ 20) (hK : K < 512) (sz : Nat) : Met l yX4_come wsX4_come ({ frames := 8, cells := 1, slots := 4, locals := 320 }) (va_Pc [.ref h0, .int (nI q), .int (nI t), .int (nI a), .int (nI b), .int (nI w)] (zMp D (va_pl L f) ca sa sz)) (va_Qi (fun (r : Int32) (u : zU) => r = bI (zOn (vTd V) (vL V q t)) ∧ zR u.1 u.2 ca h0 (K + 1) (vTd V, vNt V, vNp V, vT V, vP V, vB V, zU2 (vL V) q t ((vTd V, yB (nI a) (nI b), w) :: vL V q t))) (zPost D (va_A (va_pl L f) sz)) (va_A (va_pl L f) sz)) 1 4 (va_A (va_pl L f) sz) := by
  refine Met.ofW (cc := cX4_come) (maxL := 8) (ret := (some .boolean)) (by decide) rfl ?_
  intro p e s m args below meth c s₁ B hml hv
  obtain ⟨rfl, hsz, hP, hD0, hE⟩ := hv
  have hx := B.exec
  have hb := B.bytes
  have hr := B.returns
  have hts := atoms_spec (ws := wsX4_come) B.pre
  have hown : s.vm.findClass RX4 = some m.cls := findClass_of_methodNamed B.named
  have hlocks := B.notSynchronized
  have hl := lv_entry ([.ref h0, .int (nI q), .int (nI t), .int (nI a), .int (nI b), .int (nI w)]) (n := 8) (Nat.le_of_ble_eq_true rfl)
  rw [lg_entry_eq]
  generalize (lg_sl ([.ref h0, .int (nI q), .int (nI t), .int (nI a), .int (nI b), .int (nI w)]) ++ List.replicate (8 - (lg_sl ([.ref h0, .int (nI q), .int (nI t), .int (nI a), .int (nI b), .int (nI w)])).length) Slot.unset).toArray = ls at hl ⊢
  have hl : lv_has ls 8 [(0, .ref h0), (1, .int (nI q)), (2, .int (nI t)), (3, .int (nI a)), (4, .int (nI b)), (5, .int (nI w))] := hl
  subst hsz
  have hD := hD0.self (sz := s.heap.size)
  generalize hAe : va_A (va_pl L f) s.heap.size = A at hD ⊢
  have hA : ∀ q : Nat, s.heap.size ≤ q → A q := fun q h => by rw [← hAe]; exact Or.inr h
  have hS : va_S A s.heap s.heap [] := va_S.rf
  obtain ⟨⟨h4, hTd, hNt, hNp, hnK, hK5⟩, ⟨gt, htA, hTi⟩, ⟨gp, hpA, hPk⟩, hinj⟩ := id hR
  have hpk : ∀ q, q < vNp V → zPack L f ca (aP q) (vP V q) (aH q 20) (aS q) (aH q) := fun q h => (hPk q h).2.1
  have hhi : ∀ q, q < vNp V → ∀ w, w ≤ 20 → zHist L f (aH q w) (vB V q w) (vL V q w) := fun q h w hw => ((hPk q h).2.2 w hw).1
  obtain ⟨⟨nx1, hx1, hc1⟩, hok1⟩ := hhi q hq t (by omega)
  refine lv_aload_n hx hb dX4_come_0 rfl (lv_at hl 0 rfl) ?_
  refine lv_iload_n hx hb dX4_come_1 rfl (lv_at hl 1 rfl) ?_
  refine lv_iload_n hx hb dX4_come_2 rfl (lv_at hl 2 rfl) ?_
  refine zcq (va_runV (As := [.int (nI q), .int (nI t)]) (rest := []) ⟨hx, hb, hml, hown, hts⟩ (c_exStay l D ca sa L f h0 ta pa aT aP aS aH n K V hR q hq t ht) (cwV 2 hts gX4_come_X4_existingStay rfl rfl rfl (by decide +kernel) ⟨Nat.le_of_ble_eq_true rfl, Nat.le_of_ble_eq_true rfl⟩) (zpVp hP hE (ci := 4) rfl h4) rfl rfl hl.1 rfl (lv_room (Nat.le_of_ble_eq_true rfl)) dX4_come_3 ⟨Nat.le_of_ble_eq_true rfl, Nat.le_of_ble_eq_true rfl⟩) ?_
  refine W.eq (g2 := F0 m 6 ls [.ref (aH q t)]) rfl ?_
  refine lv_astore (lv' := [(6, .ref (aH q t)), (0, .ref h0), (1, .int (nI q)), (2, .int (nI t)), (3, .int (nI a)), (4, .int (nI b)), (5, .int (nI w))]) hx hb dX4_come_6 hl (by decide) rfl (fun ls hl => ?_)
  refine lv_iload_n hx hb dX4_come_8 rfl (lv_at hl 4 rfl) ?_
  refine lv_iconst (v := nI 0) hx hb dX4_come_9 (by decide) ?_
  refine lv_bipush (v := nI 55) hx hb dX4_come_10 (by decide) ?_
  refine zcv (va_runS (As := [.int (nI a), .int (nI 0), .int (nI 55)]) (rest := []) ⟨hx, hb, hml, hown, hts⟩ (c_ckRange l D ca sa _ (a) (0) (55) (Nat.zero_le _) (Nat.le_trans ha hb5) (by omega)) (va_cwS 3 hts gX4_come_X4_checkRange rfl rfl rfl (by decide +kernel) ⟨Nat.le_of_ble_eq_true rfl, Nat.le_of_ble_eq_true rfl⟩) (zpS hP hE) rfl rfl hl.1 rfl (lv_room (Nat.le_of_ble_eq_true rfl)) dX4_come_12 ⟨Nat.le_of_ble_eq_true rfl, Nat.le_of_ble_eq_true rfl⟩) ?_
  refine lv_iload hx hb dX4_come_15 (lv_at hl 5 rfl) ?_
  refine lv_iload_n hx hb dX4_come_17 rfl (lv_at hl 4 rfl) ?_
  refine lv_bipush (v := nI 55) hx hb dX4_come_18 (by decide) ?_
  refine zcv (va_runS (As := [.int (nI b), .int (nI a), .int (nI 55)]) (rest := []) ⟨hx, hb, hml, hown, hts⟩ (c_ckRange l D ca sa _ (b) (a) (55) (ha) (hb5) (by omega)) (va_cwS 3 hts gX4_come_X4_checkRange rfl rfl rfl (by decide +kernel) ⟨Nat.le_of_ble_eq_true rfl, Nat.le_of_ble_eq_true rfl⟩) (zpS hP hE) rfl rfl hl.1 rfl (lv_room (Nat.le_of_ble_eq_true rfl)) dX4_come_20 ⟨Nat.le_of_ble_eq_true rfl, Nat.le_of_ble_eq_true rfl⟩) ?_
  refine lv_iload hx hb dX4_come_23 (lv_at hl 6 rfl) ?_
  refine lv_iconst (v := nI 0) hx hb dX4_come_25 (by decide) ?_
  refine lv_bipush (v := nI 20) hx hb dX4_come_26 (by decide) ?_
  refine zcv (va_runS (As := [.int (nI w), .int (nI 0), .int (nI 20)]) (rest := []) ⟨hx, hb, hml, hown, hts⟩ (c_ckRange l D ca sa _ (w) (0) (20) (Nat.zero_le _) (hw) (by omega)) (va_cwS 3 hts gX4_come_X4_checkRange rfl rfl rfl (by decide +kernel) ⟨Nat.le_of_ble_eq_true rfl, Nat.le_of_ble_eq_true rfl⟩) (zpS hP hE) rfl rfl hl.1 rfl (lv_room (Nat.le_of_ble_eq_true rfl)) dX4_come_28 ⟨Nat.le_of_ble_eq_true rfl, Nat.le_of_ble_eq_true rfl⟩) ?_
  refine lv_aload hx hb dX4_come_31 (lv_at hl 0 rfl) ?_
  refine lv_aload_n hx hb dX4_come_33 rfl (lv_at hl 1 rfl) ?_
  refine zget (own := RX4) (ci := 4) (C := RX4) (T := TX4) (N := 6) hx hb hts (by decide +kernel) hown hE hP h4 rfl 5 (by decide) (hts (.fieldLink RX4 31 "LinkResolver" "currentDay" "I") (by decide +kernel)) rfl dX4_come_34 ?_
  refine zci (va_runV (As := [.int (nI (vTd V))]) (rest := []) ⟨hx, hb, hml, hown, hts⟩ (c_isOnAt l D ca sa L f (aH q t) (vTd V) _ (vL V q t) (by omega) (hhi q hq t (by omega))) (cwV 1 hts gX4_come_X1_isOnAt rfl rfl rfl (by decide +kernel) ⟨Nat.le_of_ble_eq_true rfl, Nat.le_of_ble_eq_true rfl⟩) (zpVp hP hE (ci := 1) rfl hx1) rfl rfl hl.1 rfl (lv_room (Nat.le_of_ble_eq_true rfl)) dX4_come_37 ⟨Nat.le_of_ble_eq_true rfl, Nat.le_of_ble_eq_true rfl⟩) ?_
  refine lv_istore (lv' := [(7, .int (bI (zOn (vTd V) (vL V q t)))), (6, .ref (aH q t)), (0, .ref h0), (1, .int (nI q)), (2, .int (nI t)), (3, .int (nI a)), (4, .int (nI b)), (5, .int (nI w))]) hx hb dX4_come_40 hl (by decide) rfl (fun ls hl => ?_)
  refine lv_aload_n hx hb dX4_come_42 rfl (lv_at hl 2 rfl) ?_
  refine lv_aload hx hb dX4_come_43 (lv_at hl 1 rfl) ?_
  refine lv_iload_n hx hb dX4_come_45 rfl (lv_at hl 5 rfl) ?_
  refine lv_iload hx hb dX4_come_46 (lv_at hl 6 rfl) ?_
  refine zcl (va_runS (As := [.int (nI a), .int (nI b)]) (rest := [.ref (aH q t), .ref h0]) ⟨hx, hb, hml, hown, hts⟩ (c_yearsBetween l D ca sa _ _ _) (va_cwS 2 hts gX4_come_X4_yearsBetween rfl rfl rfl (by decide +kernel) ⟨Nat.le_of_ble_eq_true rfl, Nat.le_of_ble_eq_true rfl⟩) (zpS hP hE) rfl rfl hl.1 rfl (lv_room (Nat.le_of_ble_eq_true rfl)) dX4_come_48 ⟨Nat.le_of_ble_eq_true rfl, Nat.le_of_ble_eq_true rfl⟩) ?_
  refine lv_iload hx hb dX4_come_51 (lv_at hl 7 rfl) ?_
  refine zwcv (va_runV (As := [.ref (aH q t), .long (yB (nI a) (nI b)), .int (nI w)]) (rest := []) ⟨hx, hb, hml, hown, hts⟩ (w_change l D ca sa L f h0 ta pa aT aP aS aH n K V hR q t w ((yB (nI a) (nI b))) hq (by omega) hw hK _) (cwV 3 hts gX4_come_X4_change rfl rfl rfl (by decide +kernel) ⟨Nat.le_of_ble_eq_true rfl, Nat.le_of_ble_eq_true rfl⟩) (zmVp hP hD hE (ci := 4) rfl h4) rfl rfl hl.1 rfl (lv_room (Nat.le_of_ble_eq_true rfl)) dX4_come_53 ⟨Nat.le_of_ble_eq_true rfl, Nat.le_of_ble_eq_true rfl⟩) hD hS hA (fun u H locs hu hP hD hS => ?_)
  obtain ⟨L1, f1⟩ := u
  refine lv_iload hx hb dX4_come_56 (lv_at hl 0 rfl) ?_
  exact zwrz (L1, f1) hx hb hr hlocks dX4_come_58 (bI_nar _) hP hD hS ⟨rfl, hu⟩

set_option maxHeartbeats 4000000 in
set_option maxRecDepth 100000 in
theorem w_go (l : Launch) (D : va_G) (ca : Nat → ClassId) (sa : Nat → Nat) (L : List Nat) (f : Nat → va_E) (h0 ta pa : Nat) (aT aP aS : Nat → Nat) (aH : Nat → Nat → Nat) (n K : Nat) (V : zV) (hR : zRep L f ca h0 ta pa aT aP aS aH n K V) (q : Nat) (hq : q < vNp V) (t : Nat) (ht : t < vNt V) (hon : zOn (vTd V) (vL V q t) = true) (hK : K < 512) (sz : Nat) : Met l yX4_go wsX4_go ({ frames := 8, cells := 1, slots := 4, locals := 320 }) (va_Pc [.ref h0, .int (nI q), .int (nI t)] (zMp D (va_pl L f) ca sa sz)) (va_Qv (fun (u : zU) => zR u.1 u.2 ca h0 (K + 1) (vTd V, vNt V, vNp V, vT V, vP V, vB V, zU2 (vL V) q t ((vTd V, 0, 0) :: vL V q t))) (zPost D (va_A (va_pl L f) sz)) (va_A (va_pl L f) sz)) 1 4 (va_A (va_pl L f) sz) := by
  refine Met.ofW (cc := cX4_go) (maxL := 4) (ret := none) (by decide) rfl ?_
  intro p e s m args below meth c s₁ B hml hv
  obtain ⟨rfl, hsz, hP, hD0, hE⟩ := hv
  have hx := B.exec
  have hb := B.bytes
  have hr := B.returns
  have hts := atoms_spec (ws := wsX4_go) B.pre
  have hown : s.vm.findClass RX4 = some m.cls := findClass_of_methodNamed B.named
  have hlocks := B.notSynchronized
  have hl := lv_entry ([.ref h0, .int (nI q), .int (nI t)]) (n := 4) (Nat.le_of_ble_eq_true rfl)
  rw [lg_entry_eq]
  generalize (lg_sl ([.ref h0, .int (nI q), .int (nI t)]) ++ List.replicate (4 - (lg_sl ([.ref h0, .int (nI q), .int (nI t)])).length) Slot.unset).toArray = ls at hl ⊢
  have hl : lv_has ls 4 [(0, .ref h0), (1, .int (nI q)), (2, .int (nI t))] := hl
  subst hsz
  have hD := hD0.self (sz := s.heap.size)
  generalize hAe : va_A (va_pl L f) s.heap.size = A at hD ⊢
  have hA : ∀ q : Nat, s.heap.size ≤ q → A q := fun q h => by rw [← hAe]; exact Or.inr h
  have hS : va_S A s.heap s.heap [] := va_S.rf
  obtain ⟨⟨h4, hTd, hNt, hNp, hnK, hK5⟩, ⟨gt, htA, hTi⟩, ⟨gp, hpA, hPk⟩, hinj⟩ := id hR
  have hpk : ∀ q, q < vNp V → zPack L f ca (aP q) (vP V q) (aH q 20) (aS q) (aH q) := fun q h => (hPk q h).2.1
  have hhi : ∀ q, q < vNp V → ∀ w, w ≤ 20 → zHist L f (aH q w) (vB V q w) (vL V q w) := fun q h w hw => ((hPk q h).2.2 w hw).1
  obtain ⟨⟨nx1, hx1, hc1⟩, hok1⟩ := hhi q hq t (by omega)
  refine lv_aload_n hx hb dX4_go_0 rfl (lv_at hl 0 rfl) ?_
  refine lv_iload_n hx hb dX4_go_1 rfl (lv_at hl 1 rfl) ?_
  refine lv_iload_n hx hb dX4_go_2 rfl (lv_at hl 2 rfl) ?_
  refine zcq (va_runV (As := [.int (nI q), .int (nI t)]) (rest := []) ⟨hx, hb, hml, hown, hts⟩ (c_exStay l D ca sa L f h0 ta pa aT aP aS aH n K V hR q hq t ht) (cwV 2 hts gX4_go_X4_existingStay rfl rfl rfl (by decide +kernel) ⟨Nat.le_of_ble_eq_true rfl, Nat.le_of_ble_eq_true rfl⟩) (zpVp hP hE (ci := 4) rfl h4) rfl rfl hl.1 rfl (lv_room (Nat.le_of_ble_eq_true rfl)) dX4_go_3 ⟨Nat.le_of_ble_eq_true rfl, Nat.le_of_ble_eq_true rfl⟩) ?_
  refine W.eq (g2 := F0 m 6 ls [.ref (aH q t)]) rfl ?_
  refine lv_astore_n (lv' := [(3, .ref (aH q t)), (0, .ref h0), (1, .int (nI q)), (2, .int (nI t))]) hx hb dX4_go_6 rfl hl (by decide) rfl (fun ls hl => ?_)
  refine lv_aload_n hx hb dX4_go_7 rfl (lv_at hl 0 rfl) ?_
  refine lv_aload_n hx hb dX4_go_8 rfl (lv_at hl 1 rfl) ?_
  refine zget (own := RX4) (ci := 4) (C := RX4) (T := TX4) (N := 6) hx hb hts (by decide +kernel) hown hE hP h4 rfl 5 (by decide) (hts (.fieldLink RX4 31 "LinkResolver" "currentDay" "I") (by decide +kernel)) rfl dX4_go_9 ?_
  refine zci (va_runV (As := [.int (nI (vTd V))]) (rest := []) ⟨hx, hb, hml, hown, hts⟩ (c_isOnAt l D ca sa L f (aH q t) (vTd V) _ (vL V q t) (by omega) (hhi q hq t (by omega))) (cwV 1 hts gX4_go_X1_isOnAt rfl rfl rfl (by decide +kernel) ⟨Nat.le_of_ble_eq_true rfl, Nat.le_of_ble_eq_true rfl⟩) (zpVp hP hE (ci := 1) rfl hx1) rfl rfl hl.1 rfl (lv_room (Nat.le_of_ble_eq_true rfl)) dX4_go_12 ⟨Nat.le_of_ble_eq_true rfl, Nat.le_of_ble_eq_true rfl⟩) ?_
  refine zasi (show (bI (zOn (vTd V) (vL V q t))) = nI 1 from by rw [hon]; rfl) ?_
  refine lv_if_ne (tgt := 28) hx hb dX4_go_15 (by decide) (fun c_15 => ?_) (fun c_15 => ?_)
  · refine lv_aload_n hx hb dX4_go_28 rfl (lv_at hl 1 rfl) ?_
    refine lv_aload_n hx hb dX4_go_29 rfl (lv_at hl 0 rfl) ?_
    refine lv_lconst (v := 0) hx hb dX4_go_30 (by decide) ?_
    refine lv_iconst (v := nI 0) hx hb dX4_go_31 (by decide) ?_
    refine zwcv (va_runV (As := [.ref (aH q t), .long 0, .int (nI 0)]) (rest := []) ⟨hx, hb, hml, hown, hts⟩ (w_change l D ca sa L f h0 ta pa aT aP aS aH n K V hR q t 0 (0) hq (by omega) (by omega) hK _) (cwV 3 hts gX4_go_X4_change rfl rfl rfl (by decide +kernel) ⟨Nat.le_of_ble_eq_true rfl, Nat.le_of_ble_eq_true rfl⟩) (zmVp hP hD hE (ci := 4) rfl h4) rfl rfl hl.1 rfl (lv_room (Nat.le_of_ble_eq_true rfl)) dX4_go_32 ⟨Nat.le_of_ble_eq_true rfl, Nat.le_of_ble_eq_true rfl⟩) hD hS hA (fun u H locs hu hP hD hS => ?_)
    obtain ⟨L1, f1⟩ := u
    exact zwrv (L1, f1) hx hb hr hlocks dX4_go_35 hP hD hS hu
  · exact absurd c_15 (by decide)

set_option maxHeartbeats 4000000 in
set_option maxRecDepth 100000 in
theorem w_pass (l : Launch) (D : va_G) (ca : Nat → ClassId) (sa : Nat → Nat) (L : List Nat) (f : Nat → va_E) (h0 ta pa : Nat) (aT aP aS : Nat → Nat) (aH : Nat → Nat → Nat) (n K : Nat) (V : zV) (hR : zRep L f ca h0 ta pa aT aP aS aH n K V) (d : Nat) (h1 : 1 ≤ d) (h2 : d ≤ 20000) (hd : vTd V + d ≤ 20000) (hK : K < 512) (sz : Nat) : Met l yX4_pass wsX4_pass ({ frames := 8, cells := 0, slots := 0, locals := 320 }) (va_Pc [.ref h0, .int (nI d)] (zMp D (va_pl L f) ca sa sz)) (va_Qi (fun (r : Int32) (u : zU) => r = nI (vTd V + d) ∧ zR u.1 u.2 ca h0 (K + 1) (vTd V + d, vNt V, vNp V, vT V, vP V, vB V, vL V)) (zPost D (va_A (va_pl L f) sz)) (va_A (va_pl L f) sz)) 0 0 (va_A (va_pl L f) sz) := by
  refine Met.ofW (cc := cX4_pass) (maxL := 2) (ret := (some .int)) (by decide) rfl ?_
  intro p e s m args below meth c s₁ B hml hv
  obtain ⟨rfl, hsz, hP, hD0, hE⟩ := hv
  have hx := B.exec
  have hb := B.bytes
  have hr := B.returns
  have hts := atoms_spec (ws := wsX4_pass) B.pre
  have hown : s.vm.findClass RX4 = some m.cls := findClass_of_methodNamed B.named
  have hlocks := B.notSynchronized
  have hl := lv_entry ([.ref h0, .int (nI d)]) (n := 2) (Nat.le_of_ble_eq_true rfl)
  rw [lg_entry_eq]
  generalize (lg_sl ([.ref h0, .int (nI d)]) ++ List.replicate (2 - (lg_sl ([.ref h0, .int (nI d)])).length) Slot.unset).toArray = ls at hl ⊢
  have hl : lv_has ls 2 [(0, .ref h0), (1, .int (nI d))] := hl
  subst hsz
  have hD := hD0.self (sz := s.heap.size)
  generalize hAe : va_A (va_pl L f) s.heap.size = A at hD ⊢
  have hA : ∀ q : Nat, s.heap.size ≤ q → A q := fun q h => by rw [← hAe]; exact Or.inr h
  have hS : va_S A s.heap s.heap [] := va_S.rf
  obtain ⟨⟨h4, hTd, hNt, hNp, hnK, hK5⟩, ⟨gt, htA, hTi⟩, ⟨gp, hpA, hPk⟩, hinj⟩ := id hR
  have hpk : ∀ q, q < vNp V → zPack L f ca (aP q) (vP V q) (aH q 20) (aS q) (aH q) := fun q h => (hPk q h).2.1
  have hhi : ∀ q, q < vNp V → ∀ w, w ≤ 20 → zHist L f (aH q w) (vB V q w) (vL V q w) := fun q h w hw => ((hPk q h).2.2 w hw).1
  refine lv_iload_n hx hb dX4_pass_0 rfl (lv_at hl 1 rfl) ?_
  refine lv_iconst (v := nI 1) hx hb dX4_pass_1 (by decide) ?_
  refine lv_sipush (v := nI 20000) hx hb dX4_pass_2 (by decide) ?_
  refine zcv (va_runS (As := [.int (nI d), .int (nI 1), .int (nI 20000)]) (rest := []) ⟨hx, hb, hml, hown, hts⟩ (c_ckRange l D ca sa _ (d) (1) (20000) (h1) (h2) (by omega)) (va_cwS 3 hts gX4_pass_X4_checkRange rfl rfl rfl (by decide +kernel) ⟨Nat.le_of_ble_eq_true rfl, Nat.le_of_ble_eq_true rfl⟩) (zpS hP hE) rfl rfl hl.1 rfl (lv_room (Nat.le_of_ble_eq_true rfl)) dX4_pass_5 ⟨Nat.le_of_ble_eq_true rfl, Nat.le_of_ble_eq_true rfl⟩) ?_
  refine lv_iload_n hx hb dX4_pass_8 rfl (lv_at hl 1 rfl) ?_
  refine lv_sipush (v := nI 20000) hx hb dX4_pass_9 (by decide) ?_
  refine lv_aload_n hx hb dX4_pass_12 rfl (lv_at hl 0 rfl) ?_
  refine zget (own := RX4) (ci := 4) (C := RX4) (T := TX4) (N := 6) hx hb hts (by decide +kernel) hown hE hP h4 rfl 5 (by decide) (hts (.fieldLink RX4 31 "LinkResolver" "currentDay" "I") (by decide +kernel)) rfl dX4_pass_13 ?_
  refine lv_isub hx hb dX4_pass_16 ?_
  refine zasi (show ((nI 20000) - (nI (vTd V))) = nI (20000 - vTd V) from pk_sub hTd) ?_
  refine lv_icmp_le (tgt := 30) hx hb dX4_pass_17 (by decide) (fun c_17 => ?_) (fun c_17 => ?_)
  · refine lv_aload_n hx hb dX4_pass_30 rfl (lv_at hl 0 rfl) ?_
    refine lv_dup hx hb dX4_pass_31 rfl ?_
    refine zget (own := RX4) (ci := 4) (C := RX4) (T := TX4) (N := 6) hx hb hts (by decide +kernel) hown hE hP h4 rfl 5 (by decide) (hts (.fieldLink RX4 31 "LinkResolver" "currentDay" "I") (by decide +kernel)) rfl dX4_pass_32 ?_
    refine lv_iload_n hx hb dX4_pass_35 rfl (lv_at hl 1 rfl) ?_
    refine lv_iadd hx hb dX4_pass_36 ?_
    refine zasi (show ((nI (vTd V)) + (nI d)) = nI (vTd V + d) from nI_add _ _) ?_
    refine zput (own := RX4) (ci := 4) (v := .int (nI (vTd V + d))) (ty := .int) (C := RX4) (T := TX4) (N := 6) hx hb hts (by decide +kernel) tyX4 tyX4_ok nmX4 hown hE hP hD hS h4 rfl 5 (by decide) (hts (.fieldLink RX4 31 "LinkResolver" "currentDay" "I") (by decide +kernel)) rfl (by decide +kernel) rfl rfl (Nat.le_of_ble_eq_true rfl) dX4_pass_37 (fun H locs hP hD hS => ?_)
    have hP : va_P D vwCl (va_pl L (va_up f h0 (.inr (4, [.ref ta, .ref pa, .int (nI (vNt V)), .int (nI (vNp V)), .int (nI n), .int (nI (vTd V + d))])))) H := hP
    have hD : va_D A (va_pl L (va_up f h0 (.inr (4, [.ref ta, .ref pa, .int (nI (vNt V)), .int (nI (vNp V)), .int (nI n), .int (nI (vTd V + d))])))) := hD
    have h4 : zat L (va_up f h0 (.inr (4, [.ref ta, .ref pa, .int (nI (vNt V)), .int (nI (vNp V)), .int (nI n), .int (nI (vTd V + d))]))) h0 (.inr (4, [.ref ta, .ref pa, .int (nI (vNt V)), .int (nI (vNp V)), .int (nI n), .int (nI (vTd V + d))])) := zat_self h4.1
    refine lv_aload_n hx hb dX4_pass_40 rfl (lv_at hl 0 rfl) ?_
    refine zget (own := RX4) (ci := 4) (C := RX4) (T := TX4) (N := 6) hx hb hts (by decide +kernel) hown hE hP h4 rfl 5 (by decide) (hts (.fieldLink RX4 31 "LinkResolver" "currentDay" "I") (by decide +kernel)) rfl dX4_pass_41 ?_
    exact zwri (L, (va_up f h0 (.inr (4, [.ref ta, .ref pa, .int (nI (vNt V)), .int (nI (vNp V)), .int (nI n), .int (nI (vTd V + d))])))) hx hb hr hlocks dX4_pass_44 hP hD hS ⟨rfl, ta, pa, aT, aP, aS, aH, n, zRep_obj hR (K' := K + 1) (fun a e h hn => zat_up h hn) h4 hd (by omega) (Nat.le_succ K) hK⟩
  · exact absurd ((nI_leI (by omega) (by omega)).mpr (show d ≤ 20000 - vTd V by omega)) c_17

set_option maxHeartbeats 4000000 in
set_option maxRecDepth 100000 in
theorem w_report (l : Launch) (D : va_G) (ca : Nat → ClassId) (sa : Nat → Nat) (L : List Nat) (f : Nat → va_E) (h0 ta pa : Nat) (aT aP aS : Nat → Nat) (aH : Nat → Nat → Nat) (n K : Nat) (V : zV) (hR : zRep L f ca h0 ta pa aT aP aS aH n K V) (q : Nat) (hq : q < vNp V) (t : Nat) (ht : t < vNt V) (hK : K < 512) (sz : Nat) : Met l yX4_report wsX4_report ({ frames := 8, cells := 0, slots := 0, locals := 320 }) (va_Pc [.ref h0, .int (nI q), .int (nI t)] (zMp D (va_pl L f) ca sa sz)) (va_Qi (fun (r : Int32) (u : zU) => r = nI (vB V q t + 1) ∧ zR u.1 u.2 ca h0 (K + 1) (vTd V, vNt V, vNp V, vT V, vP V, zU2 (vB V) q t (vB V q t + 1), vL V)) (zPost D (va_A (va_pl L f) sz)) (va_A (va_pl L f) sz)) 0 0 (va_A (va_pl L f) sz) := by
  refine Met.ofW (cc := cX4_report) (maxL := 4) (ret := (some .int)) (by decide) rfl ?_
  intro p e s m args below meth c s₁ B hml hv
  obtain ⟨rfl, hsz, hP, hD0, hE⟩ := hv
  have hx := B.exec
  have hb := B.bytes
  have hr := B.returns
  have hts := atoms_spec (ws := wsX4_report) B.pre
  have hown : s.vm.findClass RX4 = some m.cls := findClass_of_methodNamed B.named
  have hlocks := B.notSynchronized
  have hl := lv_entry ([.ref h0, .int (nI q), .int (nI t)]) (n := 4) (Nat.le_of_ble_eq_true rfl)
  rw [lg_entry_eq]
  generalize (lg_sl ([.ref h0, .int (nI q), .int (nI t)]) ++ List.replicate (4 - (lg_sl ([.ref h0, .int (nI q), .int (nI t)])).length) Slot.unset).toArray = ls at hl ⊢
  have hl : lv_has ls 4 [(0, .ref h0), (1, .int (nI q)), (2, .int (nI t))] := hl
  subst hsz
  have hD := hD0.self (sz := s.heap.size)
  generalize hAe : va_A (va_pl L f) s.heap.size = A at hD ⊢
  have hA : ∀ q : Nat, s.heap.size ≤ q → A q := fun q h => by rw [← hAe]; exact Or.inr h
  have hS : va_S A s.heap s.heap [] := va_S.rf
  obtain ⟨⟨h4, hTd, hNt, hNp, hnK, hK5⟩, ⟨gt, htA, hTi⟩, ⟨gp, hpA, hPk⟩, hinj⟩ := id hR
  have hpk : ∀ q, q < vNp V → zPack L f ca (aP q) (vP V q) (aH q 20) (aS q) (aH q) := fun q h => (hPk q h).2.1
  have hhi : ∀ q, q < vNp V → ∀ w, w ≤ 20 → zHist L f (aH q w) (vB V q w) (vL V q w) := fun q h w hw => ((hPk q h).2.2 w hw).1
  obtain ⟨⟨nx1, hx1, hc1⟩, hok1⟩ := hhi q hq t (by omega)
  have hx0 := hx1
  refine lv_aload_n hx hb dX4_report_0 rfl (lv_at hl 0 rfl) ?_
  refine lv_iload_n hx hb dX4_report_1 rfl (lv_at hl 1 rfl) ?_
  refine lv_iload_n hx hb dX4_report_2 rfl (lv_at hl 2 rfl) ?_
  refine zcq (va_runV (As := [.int (nI q), .int (nI t)]) (rest := []) ⟨hx, hb, hml, hown, hts⟩ (c_exStay l D ca sa L f h0 ta pa aT aP aS aH n K V hR q hq t ht) (cwV 2 hts gX4_report_X4_existingStay rfl rfl rfl (by decide +kernel) ⟨Nat.le_of_ble_eq_true rfl, Nat.le_of_ble_eq_true rfl⟩) (zpVp hP hE (ci := 4) rfl h4) rfl rfl hl.1 rfl (lv_room (Nat.le_of_ble_eq_true rfl)) dX4_report_3 ⟨Nat.le_of_ble_eq_true rfl, Nat.le_of_ble_eq_true rfl⟩) ?_
  refine W.eq (g2 := F0 m 6 ls [.ref (aH q t)]) rfl ?_
  refine lv_astore_n (lv' := [(3, .ref (aH q t)), (0, .ref h0), (1, .int (nI q)), (2, .int (nI t))]) hx hb dX4_report_6 rfl hl (by decide) rfl (fun ls hl => ?_)
  refine lv_aload_n hx hb dX4_report_7 rfl (lv_at hl 0 rfl) ?_
  refine lv_dup hx hb dX4_report_8 rfl ?_
  refine zget (own := RX4) (ci := 1) (C := RX1) (T := TX1) (N := 2) hx hb hts (by decide +kernel) hown hE hP hx1 rfl 1 (by decide) (hts (.fieldLink RX4 96 "LinkResolver$History" "breaks" "I") (by decide +kernel)) rfl dX4_report_9 ?_
  refine lv_iconst (v := nI 1) hx hb dX4_report_12 (by decide) ?_
  refine lv_iadd hx hb dX4_report_13 ?_
  refine zasi (show ((nI (vB V q t)) + (nI 1)) = nI (vB V q t + 1) from nI_1 _) ?_
  refine zput (own := RX4) (ci := 1) (v := .int (nI (vB V q t + 1))) (ty := .int) (C := RX1) (T := TX1) (N := 2) hx hb hts (by decide +kernel) tyX1 tyX1_ok nmX1 hown hE hP hD hS hx1 rfl 1 (by decide) (hts (.fieldLink RX4 96 "LinkResolver$History" "breaks" "I") (by decide +kernel)) rfl (by decide +kernel) rfl rfl (Nat.le_of_ble_eq_true rfl) dX4_report_14 (fun H locs hP hD hS => ?_)
  have hP : va_P D vwCl (va_pl L (va_up f (aH q t) (.inr (1, [va_rf nx1, .int (nI (vB V q t + 1))])))) H := hP
  have hD : va_D A (va_pl L (va_up f (aH q t) (.inr (1, [va_rf nx1, .int (nI (vB V q t + 1))])))) := hD
  have h4 := zat_up (b := (aH q t)) (e' := (.inr (1, [va_rf nx1, .int (nI (vB V q t + 1))]))) h4 (zat_ne h4 hx1 (show (4 : Nat) ≠ 1 by decide))
  have hx1 : zat L (va_up f (aH q t) (.inr (1, [va_rf nx1, .int (nI (vB V q t + 1))]))) (aH q t) (.inr (1, [va_rf nx1, .int (nI (vB V q t + 1))])) := zat_self hx1.1
  refine lv_aload_n hx hb dX4_report_17 rfl (lv_at hl 0 rfl) ?_
  refine zget (own := RX4) (ci := 1) (C := RX1) (T := TX1) (N := 2) hx hb hts (by decide +kernel) hown hE hP hx1 rfl 1 (by decide) (hts (.fieldLink RX4 96 "LinkResolver$History" "breaks" "I") (by decide +kernel)) rfl dX4_report_18 ?_
  refine zwri (L, (va_up f (aH q t) (.inr (1, [va_rf nx1, .int (nI (vB V q t + 1))])))) hx hb hr hlocks dX4_report_21 hP hD hS ⟨rfl, ta, pa, aT, aP, aS, aH, n, ?_⟩
  have hR2 := zRep_hist hR hq (w0 := t) (by omega) (L' := L) (f' := (va_up f (aH q t) (.inr (1, [va_rf nx1, .int (nI (vB V q t + 1))])))) (nx' := nx1) (b' := vB V q t + 1) (l' := vL V q t) (K' := K + 1) (fun a e h hn => zat_up h hn) hx1 (zCh_sub (X := aH q t) (fun a e h hn => zat_up h hn) hx0 (show (1 : Nat) ≠ 0 by decide) _ _ hc1) hok1 (by have := ((hPk q hq).2.2 t (by omega)).2; omega) (Nat.le_succ K) hK
  have eL : zU2 (vL V) q t (vL V q t) = vL V := by
    funext a w
    by_cases z : a = q ∧ w = t
    · obtain ⟨rfl, rfl⟩ := z; exact zU2_s _ _ _ _
    · exact zU2_n z
  rw [eL] at hR2
  exact hR2

set_option maxHeartbeats 4000000 in
set_option maxRecDepth 100000 in
theorem w_mend (l : Launch) (D : va_G) (ca : Nat → ClassId) (sa : Nat → Nat) (L : List Nat) (f : Nat → va_E) (h0 ta pa : Nat) (aT aP aS : Nat → Nat) (aH : Nat → Nat → Nat) (n K : Nat) (V : zV) (hR : zRep L f ca h0 ta pa aT aP aS aH n K V) (q : Nat) (hq : q < vNp V) (t : Nat) (ht : t < vNt V) (hK : K < 512) (sz : Nat) : Met l yX4_mend wsX4_mend ({ frames := 8, cells := 0, slots := 0, locals := 320 }) (va_Pc [.ref h0, .int (nI q), .int (nI t)] (zMp D (va_pl L f) ca sa sz)) (va_Qi (fun (r : Int32) (u : zU) => r = nI (vB V q t) ∧ zR u.1 u.2 ca h0 (K + 1) (vTd V, vNt V, vNp V, vT V, vP V, zU2 (vB V) q t (0), vL V)) (zPost D (va_A (va_pl L f) sz)) (va_A (va_pl L f) sz)) 0 0 (va_A (va_pl L f) sz) := by
  refine Met.ofW (cc := cX4_mend) (maxL := 5) (ret := (some .int)) (by decide) rfl ?_
  intro p e s m args below meth c s₁ B hml hv
  obtain ⟨rfl, hsz, hP, hD0, hE⟩ := hv
  have hx := B.exec
  have hb := B.bytes
  have hr := B.returns
  have hts := atoms_spec (ws := wsX4_mend) B.pre
  have hown : s.vm.findClass RX4 = some m.cls := findClass_of_methodNamed B.named
  have hlocks := B.notSynchronized
  have hl := lv_entry ([.ref h0, .int (nI q), .int (nI t)]) (n := 5) (Nat.le_of_ble_eq_true rfl)
  rw [lg_entry_eq]
  generalize (lg_sl ([.ref h0, .int (nI q), .int (nI t)]) ++ List.replicate (5 - (lg_sl ([.ref h0, .int (nI q), .int (nI t)])).length) Slot.unset).toArray = ls at hl ⊢
  have hl : lv_has ls 5 [(0, .ref h0), (1, .int (nI q)), (2, .int (nI t))] := hl
  subst hsz
  have hD := hD0.self (sz := s.heap.size)
  generalize hAe : va_A (va_pl L f) s.heap.size = A at hD ⊢
  have hA : ∀ q : Nat, s.heap.size ≤ q → A q := fun q h => by rw [← hAe]; exact Or.inr h
  have hS : va_S A s.heap s.heap [] := va_S.rf
  obtain ⟨⟨h4, hTd, hNt, hNp, hnK, hK5⟩, ⟨gt, htA, hTi⟩, ⟨gp, hpA, hPk⟩, hinj⟩ := id hR
  have hpk : ∀ q, q < vNp V → zPack L f ca (aP q) (vP V q) (aH q 20) (aS q) (aH q) := fun q h => (hPk q h).2.1
  have hhi : ∀ q, q < vNp V → ∀ w, w ≤ 20 → zHist L f (aH q w) (vB V q w) (vL V q w) := fun q h w hw => ((hPk q h).2.2 w hw).1
  obtain ⟨⟨nx1, hx1, hc1⟩, hok1⟩ := hhi q hq t (by omega)
  have hx0 := hx1
  refine lv_aload_n hx hb dX4_mend_0 rfl (lv_at hl 0 rfl) ?_
  refine lv_iload_n hx hb dX4_mend_1 rfl (lv_at hl 1 rfl) ?_
  refine lv_iload_n hx hb dX4_mend_2 rfl (lv_at hl 2 rfl) ?_
  refine zcq (va_runV (As := [.int (nI q), .int (nI t)]) (rest := []) ⟨hx, hb, hml, hown, hts⟩ (c_exStay l D ca sa L f h0 ta pa aT aP aS aH n K V hR q hq t ht) (cwV 2 hts gX4_mend_X4_existingStay rfl rfl rfl (by decide +kernel) ⟨Nat.le_of_ble_eq_true rfl, Nat.le_of_ble_eq_true rfl⟩) (zpVp hP hE (ci := 4) rfl h4) rfl rfl hl.1 rfl (lv_room (Nat.le_of_ble_eq_true rfl)) dX4_mend_3 ⟨Nat.le_of_ble_eq_true rfl, Nat.le_of_ble_eq_true rfl⟩) ?_
  refine W.eq (g2 := F0 m 6 ls [.ref (aH q t)]) rfl ?_
  refine lv_astore_n (lv' := [(3, .ref (aH q t)), (0, .ref h0), (1, .int (nI q)), (2, .int (nI t))]) hx hb dX4_mend_6 rfl hl (by decide) rfl (fun ls hl => ?_)
  refine lv_aload_n hx hb dX4_mend_7 rfl (lv_at hl 0 rfl) ?_
  refine zget (own := RX4) (ci := 1) (C := RX1) (T := TX1) (N := 2) hx hb hts (by decide +kernel) hown hE hP hx1 rfl 1 (by decide) (hts (.fieldLink RX4 96 "LinkResolver$History" "breaks" "I") (by decide +kernel)) rfl dX4_mend_8 ?_
  refine lv_istore (lv' := [(4, .int (nI (vB V q t))), (3, .ref (aH q t)), (0, .ref h0), (1, .int (nI q)), (2, .int (nI t))]) hx hb dX4_mend_11 hl (by decide) rfl (fun ls hl => ?_)
  refine lv_aload_n hx hb dX4_mend_13 rfl (lv_at hl 1 rfl) ?_
  refine lv_iconst (v := nI 0) hx hb dX4_mend_14 (by decide) ?_
  refine zput (own := RX4) (ci := 1) (v := .int (nI 0)) (ty := .int) (C := RX1) (T := TX1) (N := 2) hx hb hts (by decide +kernel) tyX1 tyX1_ok nmX1 hown hE hP hD hS hx1 rfl 1 (by decide) (hts (.fieldLink RX4 96 "LinkResolver$History" "breaks" "I") (by decide +kernel)) rfl (by decide +kernel) rfl rfl (Nat.le_of_ble_eq_true rfl) dX4_mend_15 (fun H locs hP hD hS => ?_)
  have hP : va_P D vwCl (va_pl L (va_up f (aH q t) (.inr (1, [va_rf nx1, .int (nI 0)])))) H := hP
  have hD : va_D A (va_pl L (va_up f (aH q t) (.inr (1, [va_rf nx1, .int (nI 0)])))) := hD
  have h4 := zat_up (b := (aH q t)) (e' := (.inr (1, [va_rf nx1, .int (nI 0)]))) h4 (zat_ne h4 hx1 (show (4 : Nat) ≠ 1 by decide))
  have hx1 : zat L (va_up f (aH q t) (.inr (1, [va_rf nx1, .int (nI 0)]))) (aH q t) (.inr (1, [va_rf nx1, .int (nI 0)])) := zat_self hx1.1
  refine lv_iload hx hb dX4_mend_18 (lv_at hl 0 rfl) ?_
  refine zwri (L, (va_up f (aH q t) (.inr (1, [va_rf nx1, .int (nI 0)])))) hx hb hr hlocks dX4_mend_20 hP hD hS ⟨rfl, ta, pa, aT, aP, aS, aH, n, ?_⟩
  have hR2 := zRep_hist hR hq (w0 := t) (by omega) (L' := L) (f' := (va_up f (aH q t) (.inr (1, [va_rf nx1, .int (nI 0)])))) (nx' := nx1) (b' := 0) (l' := vL V q t) (K' := K + 1) (fun a e h hn => zat_up h hn) hx1 (zCh_sub (X := aH q t) (fun a e h hn => zat_up h hn) hx0 (show (1 : Nat) ≠ 0 by decide) _ _ hc1) hok1 (by have := ((hPk q hq).2.2 t (by omega)).2; omega) (Nat.le_succ K) hK
  have eL : zU2 (vL V) q t (vL V q t) = vL V := by
    funext a w
    by_cases z : a = q ∧ w = t
    · obtain ⟨rfl, rfl⟩ := z; exact zU2_s _ _ _ _
    · exact zU2_n z
  rw [eL] at hR2
  exact hR2
