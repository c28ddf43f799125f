/-! the class's adders and its constructors -/
theorem zRep_pack {L L' : List Nat} {f f' : Nat → va_E} {ca : Nat → ClassId} {h0 ta pa : Nat} {aT aP aS : Nat → Nat} {aH : Nat → Nat → Nat} {n K : Nat} {V : zV} (hR : zRep L f ca h0 ta pa aT aP aS aH n K V) {gp gp' : Nat → Option Nat} (hpA : zat L f pa (.inl (ca 1, 10, .inr (.inr (.inr (.inr gp)))))) (hs : ∀ a e, zat L f a e → a ≠ h0 → a ≠ pa → zat L' f' a e) {q sA K' : Nat} {hA : Nat → Nat} {P : Nat × Nat × Nat × Nat} (hnp : vNp V < 10) (h' : zat L' f' h0 (.inr (4, [.ref ta, .ref pa, .int (nI (vNt V)), .int (nI (vNp V + 1)), .int (nI n), .int (nI (vTd V))]))) (hpa' : zat L' f' pa (.inl (ca 1, 10, .inr (.inr (.inr (.inr gp')))))) (hg1 : gp' (vNp V) = some q) (hg2 : ∀ t, t < vNp V → gp' t = gp t) (hpk : zPack L' f' ca q P (hA 20) sA hA) (hhi : ∀ w, w ≤ 20 → zat L' f' (hA w) (.inr (1, [.null, .int (nI 0)])) ∧ hA w ∉ L) (hinj0 : ∀ w w2, w ≤ 20 → w2 ≤ 20 → hA w = hA w2 → w = w2) (hsA : sA ∉ L) (hK : K ≤ K') (hK5 : K' ≤ 512) : zRep L' f' ca h0 ta pa aT (va_up aP (vNp V) q) (va_up aS (vNp V) sA) (va_up aH (vNp V) hA) n K' (vTd V, vNt V, vNp V + 1, vT V, va_up (vP V) (vNp V) P, va_up (vB V) (vNp V) (fun _ => 0), va_up (vL V) (vNp V) (fun _ => [])) := by
  obtain ⟨⟨h4, hTd, hNt, hNp, hnK, hK6⟩, ⟨gt, htA, hTi⟩, ⟨gp0, hpA0, hPk⟩, hinj⟩ := hR
  have eg : gp0 = gp := by
    have := zat_inj hpA0 hpA
    injection this with h1
    injection h1 with h2 h3
    injection h3 with h4 h5
    injection h5 with h6
    injection h6 with h7
    injection h7 with h8
    injection h8
  subst eg
  have no : ∀ {x : Nat} {e : va_E}, zat L f x e → zkd e ≠ 4 → zkd e ≠ 100 → zat L' f' x e := fun h k1 k2 => hs _ _ h (zat_ne h h4 k1) (zat_ne h hpA k2)
  have hch : ∀ (l : zLs) (nx : Option Nat), zCh L f nx l → zCh L' f' nx l := by
    intro l
    induction l with
    | nil => intro nx h; exact h
    | cons c r ih =>
      intro nx h
      obtain ⟨a, nx', h1, h2, h3⟩ := h
      exact ⟨a, nx', h1, no h2 (show (0 : Nat) ≠ 4 by decide) (show (0 : Nat) ≠ 100 by decide), ih nx' h3⟩
  refine ⟨⟨h', hTd, hNt, by show vNp V + 1 ≤ 10; omega, Nat.le_trans hnK hK, hK5⟩, ⟨gt, hs _ _ htA (zat_ne htA h4 (show (100 : Nat) ≠ 4 by decide)) hinj.2.1, fun t ht => ?_⟩, ⟨gp', hpa', fun r hr => ?_⟩, ?_, hinj.2.1, ?_⟩
  · obtain ⟨a1, a2, a3⟩ := hTi t ht
    exact ⟨a1, no a2 (show (3 : Nat) ≠ 4 by decide) (show (3 : Nat) ≠ 100 by decide), a3⟩
  · have hr : r < vNp V + 1 := hr
    by_cases e : r = vNp V
    · subst e
      show gp' (vNp V) = some (va_up aP (vNp V) q (vNp V)) ∧ zPack L' f' ca (va_up aP (vNp V) q (vNp V)) (va_up (vP V) (vNp V) P (vNp V)) (va_up aH (vNp V) hA (vNp V) 20) (va_up aS (vNp V) sA (vNp V)) (va_up aH (vNp V) hA (vNp V)) ∧ ∀ w, w ≤ 20 → zHist L' f' (va_up aH (vNp V) hA (vNp V) w) (va_up (vB V) (vNp V) (fun _ => 0) (vNp V) w) (va_up (vL V) (vNp V) (fun _ => []) (vNp V) w) ∧ va_up (vB V) (vNp V) (fun _ => 0) (vNp V) w ≤ K'
      rw [va_up_self, va_up_self, va_up_self, va_up_self, va_up_self, va_up_self]
      exact ⟨hg1, hpk, fun w hw => ⟨⟨⟨none, (hhi w hw).1, rfl⟩, fun c hc => by cases hc⟩, Nat.zero_le _⟩⟩
    · have hr2 : r < vNp V := by omega
      obtain ⟨a1, ⟨⟨b1, b2⟩, g0, b3, b4⟩, a3⟩ := hPk r hr2
      show gp' r = some (va_up aP (vNp V) q r) ∧ zPack L' f' ca (va_up aP (vNp V) q r) (va_up (vP V) (vNp V) P r) (va_up aH (vNp V) hA r 20) (va_up aS (vNp V) sA r) (va_up aH (vNp V) hA r) ∧ ∀ w, w ≤ 20 → zHist L' f' (va_up aH (vNp V) hA r w) (va_up (vB V) (vNp V) (fun _ => 0) r w) (va_up (vL V) (vNp V) (fun _ => []) r w) ∧ va_up (vB V) (vNp V) (fun _ => 0) r w ≤ K'
      rw [va_up_ne _ _ e, va_up_ne _ _ e, va_up_ne _ _ e, va_up_ne _ _ e, va_up_ne _ _ e, va_up_ne _ _ e]
      refine ⟨(hg2 r hr2).trans a1, ⟨⟨no b1 (show (2 : Nat) ≠ 4 by decide) (show (2 : Nat) ≠ 100 by decide), b2⟩, g0, hs _ _ b3 (zat_ne b3 h4 (show (100 : Nat) ≠ 4 by decide)) (hinj.2.2 r hr2).2, b4⟩, fun w hw => ?_⟩
      obtain ⟨⟨⟨nx, c1, c2⟩, c3⟩, c4⟩ := a3 w hw
      exact ⟨⟨⟨nx, no c1 (show (1 : Nat) ≠ 4 by decide) (show (1 : Nat) ≠ 100 by decide), hch _ _ c2⟩, c3⟩, Nat.le_trans c4 hK⟩
  · intro r r2 w w2 hr hr2 hw hw2
    have hr : r < vNp V + 1 := hr
    have hr2 : r2 < vNp V + 1 := hr2
    have old : ∀ r, r < vNp V → aH r w ∈ L ∧ aH r w2 ∈ L := fun r h => by
      obtain ⟨⟨⟨x1, y1, -⟩, -⟩, -⟩ := (hPk r h).2.2 w hw
      obtain ⟨⟨⟨x2, y2, -⟩, -⟩, -⟩ := (hPk r h).2.2 w2 hw2
      exact ⟨y1.1, y2.1⟩
    by_cases e : r = vNp V
    · by_cases e2 : r2 = vNp V
      · subst e; subst e2
        rw [va_up_self]
        exact fun z => ⟨rfl, hinj0 w w2 hw hw2 z⟩
      · subst e
        rw [va_up_self, va_up_ne _ _ e2]
        exact fun z => absurd (by rw [z]; exact (old r2 (by omega)).2) (hhi w hw).2
    · by_cases e2 : r2 = vNp V
      · subst e2
        rw [va_up_self, va_up_ne _ _ e]
        exact fun z => absurd (by rw [← z]; exact (old r (by omega)).1) (hhi w2 hw2).2
      · rw [va_up_ne _ _ e, va_up_ne _ _ e2]
        exact hinj.1 r r2 w w2 (by omega) (by omega) hw hw2
  · intro r hr
    have hr : r < vNp V + 1 := hr
    by_cases e : r = vNp V
    · subst e
      rw [va_up_self]
      exact ⟨fun z => hsA (by rw [z]; exact htA.1), fun z => hsA (by rw [z]; exact hpA.1)⟩
    · rw [va_up_ne _ _ e]
      exact hinj.2.2 r (by omega)

set_option maxHeartbeats 4000000 in
set_option maxRecDepth 100000 in
theorem w_addTitle (l : Launch) (D : va_G) (ca : Nat → ClassId) (sa : Nat → Nat) (L : List Nat) (f : Nat → va_E) (h0 ta pa : Nat) (aT aP aS : Nat → Nat) (aH : Nat → Nat → Nat) (n K : Nat) (V : zV) (hR : zRep L f ca h0 ta pa aT aP aS aH n K V) (a b : Nat) (ha : a ≤ 55) (hb1 : 1 ≤ b) (hb4 : b ≤ 4) (hnt : vNt V < 20) (hK : K < 512) (sz : Nat) : Met l yX4_addTitle wsX4_addTitle ({ frames := 8, cells := 1, slots := 2, locals := 320 }) (va_Pc [.ref h0, .int (nI a), .int (nI b)] (zMp D (va_pl L f) ca sa sz)) (va_Qi (fun (r : Int32) (u : zU) => r = nI (vNt V) ∧ zR u.1 u.2 ca h0 (K + 1) (vTd V, vNt V + 1, vNp V, va_up (vT V) (vNt V) (a, b), vP V, vB V, vL V)) (zPost D (va_A (va_pl L f) sz)) (va_A (va_pl L f) sz)) 1 2 (va_A (va_pl L f) sz) := by
  refine Met.ofW (cc := cX4_addTitle) (maxL := 4) (ret := (some .int)) (by decide) rfl ?_
  intro p e s m args below meth c s₁ B hml hv
  obtain ⟨rfl, hsz, hP, hD0, hE⟩ := hv
  have hx := B.exec
  have hb := B.bytes
  have hr := B.returns
  have hts := atoms_spec (ws := wsX4_addTitle) B.pre
  have hown : s.vm.findClass RX4 = some m.cls := findClass_of_methodNamed B.named
  have hlocks := B.notSynchronized
  have hl := lv_entry ([.ref h0, .int (nI a), .int (nI b)]) (n := 4) (Nat.le_of_ble_eq_true rfl)
  rw [lg_entry_eq]
  generalize (lg_sl ([.ref h0, .int (nI a), .int (nI b)]) ++ List.replicate (4 - (lg_sl ([.ref h0, .int (nI a), .int (nI b)])).length) Slot.unset).toArray = ls at hl ⊢
  have hl : lv_has ls 4 [(0, .ref h0), (1, .int (nI a)), (2, .int (nI b))] := hl
  subst hsz
  have hD := hD0.self (sz := s.heap.size)
  generalize hAe : va_A (va_pl L f) s.heap.size = A at hD ⊢
  have hA : ∀ q : Nat, s.heap.size ≤ q → A q := fun q h => by rw [← hAe]; exact Or.inr h
  have hS : va_S A s.heap s.heap [] := va_S.rf
  obtain ⟨⟨h4, hTd, hNt, hNp, hnK, hK5⟩, ⟨gt, htA, hTi⟩, ⟨gp, hpA, hPk⟩, hinj⟩ := id hR
  have hpk : ∀ q, q < vNp V → zPack L f ca (aP q) (vP V q) (aH q 20) (aS q) (aH q) := fun q h => (hPk q h).2.1
  have hhi : ∀ q, q < vNp V → ∀ w, w ≤ 20 → zHist L f (aH q w) (vB V q w) (vL V q w) := fun q h w hw => ((hPk q h).2.2 w hw).1
  have htA0 := htA
  refine lv_iload_n hx hb dX4_addTitle_0 rfl (lv_at hl 1 rfl) ?_
  refine lv_iconst (v := nI 0) hx hb dX4_addTitle_1 (by decide) ?_
  refine lv_bipush (v := nI 55) hx hb dX4_addTitle_2 (by decide) ?_
  refine zcv (va_runS (As := [.int (nI a), .int (nI 0), .int (nI 55)]) (rest := []) ⟨hx, hb, hml, hown, hts⟩ (c_ckRange l D ca sa _ (a) (0) (55) (Nat.zero_le _) (ha) (by omega)) (va_cwS 3 hts gX4_addTitle_X4_checkRange rfl rfl rfl (by decide +kernel) ⟨Nat.le_of_ble_eq_true rfl, Nat.le_of_ble_eq_true rfl⟩) (zpS hP hE) rfl rfl hl.1 rfl (lv_room (Nat.le_of_ble_eq_true rfl)) dX4_addTitle_4 ⟨Nat.le_of_ble_eq_true rfl, Nat.le_of_ble_eq_true rfl⟩) ?_
  refine lv_iload_n hx hb dX4_addTitle_7 rfl (lv_at hl 2 rfl) ?_
  refine lv_iconst (v := nI 1) hx hb dX4_addTitle_8 (by decide) ?_
  refine lv_iconst (v := nI 4) hx hb dX4_addTitle_9 (by decide) ?_
  refine zcv (va_runS (As := [.int (nI b), .int (nI 1), .int (nI 4)]) (rest := []) ⟨hx, hb, hml, hown, hts⟩ (c_ckRange l D ca sa _ (b) (1) (4) (hb1) (hb4) (by omega)) (va_cwS 3 hts gX4_addTitle_X4_checkRange rfl rfl rfl (by decide +kernel) ⟨Nat.le_of_ble_eq_true rfl, Nat.le_of_ble_eq_true rfl⟩) (zpS hP hE) rfl rfl hl.1 rfl (lv_room (Nat.le_of_ble_eq_true rfl)) dX4_addTitle_10 ⟨Nat.le_of_ble_eq_true rfl, Nat.le_of_ble_eq_true rfl⟩) ?_
  refine lv_aload_n hx hb dX4_addTitle_13 rfl (lv_at hl 0 rfl) ?_
  refine zget (own := RX4) (ci := 4) (C := RX4) (T := TX4) (N := 6) hx hb hts (by decide +kernel) hown hE hP h4 rfl 2 (by decide) (hts (.fieldLink RX4 21 "LinkResolver" "titleCount" "I") (by decide +kernel)) rfl dX4_addTitle_14 ?_
  refine lv_istore_n (lv' := [(3, .int (nI (vNt V))), (0, .ref h0), (1, .int (nI a)), (2, .int (nI b))]) hx hb dX4_addTitle_17 rfl hl (by decide) rfl (fun ls hl => ?_)
  refine lv_iload_n hx hb dX4_addTitle_18 rfl (lv_at hl 0 rfl) ?_
  refine lv_bipush (v := nI 20) hx hb dX4_addTitle_19 (by decide) ?_
  refine lv_icmp_lt (tgt := 34) hx hb dX4_addTitle_21 (by decide) (fun c_21 => ?_) (fun c_21 => ?_)
  · refine lv_aload_n hx hb dX4_addTitle_34 rfl (lv_at hl 1 rfl) ?_
    refine zget (own := RX4) (ci := 4) (C := RX4) (T := TX4) (N := 6) hx hb hts (by decide +kernel) hown hE hP h4 rfl 0 (by decide) (hts (.fieldLink RX4 11 "LinkResolver" "titles" "[LLinkResolver$Title;") (by decide +kernel)) rfl dX4_addTitle_35 ?_
    refine lv_iload_n hx hb dX4_addTitle_38 rfl (lv_at hl 0 rfl) ?_
    refine znew (own := RX4) (ci := 3) (fs := [.int 0, .int 0]) (C := RX3) (T := TX3) (N := 2) hx hb hts (by decide +kernel) tyX3 tyX3_ok hown (hts (.classLink RX4 9 RX3) (by decide +kernel)) (hts (.instantiable RX3 2) (by decide +kernel)) (hts (.initialized RX3) (by decide +kernel)) hE hP hD hS hA rfl (fun j hj => by rcases (show j = 0 ∨ j = 1 by omega) with rfl | rfl <;> rfl) (Nat.le_of_ble_eq_true rfl) (Nat.le_of_ble_eq_true rfl) dX4_addTitle_39 (fun q1 H hn_q1 hP hD hS => ?_)
    have h4 := zat_push (e' := (.inr (3, [.int 0, .int 0]))) h4 hn_q1
    have htA := zat_push (e' := (.inr (3, [.int 0, .int 0]))) htA hn_q1
    have hq1 : zat (L ++ [q1]) (va_up f q1 (.inr (3, [.int 0, .int 0]))) q1 (.inr (3, [.int 0, .int 0])) := zat_new
    refine lv_dup hx hb dX4_addTitle_42 rfl ?_
    refine lv_iload_n hx hb dX4_addTitle_43 rfl (lv_at hl 2 rfl) ?_
    refine lv_iload_n hx hb dX4_addTitle_44 rfl (lv_at hl 3 rfl) ?_
    refine zwcv (va_runI (As := [.int (nI a), .int (nI b)]) (rest := [.ref q1, .int (nI (vNt V)), .ref ta]) ⟨hx, hb, hml, hown, hts⟩ (w_Title l D ca sa (L ++ [q1]) (va_up f q1 (.inr (3, [.int 0, .int 0]))) q1 (nI a) (nI b) hq1 _) (cwI 2 hts gX4_addTitle_X3_init rfl rfl rfl (hts (.initialized RX3) (by decide +kernel)) (hts (.methodLink RX4 45 yX3_init) (by decide +kernel)) (hts (.instanceMethod yX3_init) (by decide +kernel)) rfl (by decide +kernel) ⟨Nat.le_of_ble_eq_true rfl, Nat.le_of_ble_eq_true rfl⟩) (zmSi hP hD hE) rfl rfl hl.1 rfl (lv_room (Nat.le_of_ble_eq_true rfl)) dX4_addTitle_45 ⟨Nat.le_of_ble_eq_true rfl, Nat.le_of_ble_eq_true rfl⟩) hD hS hA (fun u H locs hu hP hD hS => ?_)
    subst hu
    have hP : va_P D vwCl (va_pl (L ++ [q1]) (va_up f q1 (.inr (3, [.int (nI a), .int (nI b)])))) H := by rw [← bx_uu f q1]; exact hP
    have hD : va_D A (va_pl (L ++ [q1]) (va_up f q1 (.inr (3, [.int (nI a), .int (nI b)])))) := by rw [← bx_uu f q1]; exact hD
    have h4 := zat_up (b := q1) (e' := (.inr (3, [.int (nI a), .int (nI b)]))) h4 (zat_ne h4 hq1 (show (4 : Nat) ≠ 3 by decide))
    rw [bx_uu] at h4
    have htA := zat_up (b := q1) (e' := (.inr (3, [.int (nI a), .int (nI b)]))) htA (zat_ne htA hq1 (show (100 : Nat) ≠ 3 by decide))
    rw [bx_uu] at htA
    have hq1 : zat (L ++ [q1]) (va_up f q1 (.inr (3, [.int (nI a), .int (nI b)]))) q1 (.inr (3, [.int (nI a), .int (nI b)])) := zat_self hq1.1
    refine zast hx hb hE hP hD hS 0 3 htA rfl hq1 rfl hnt (by decide) dX4_addTitle_48 (fun H locs hP hD hS => ?_)
    have h4 := zat_up (b := ta) (e' := (.inl (ca 0, 20, .inr (.inr (.inr (.inr (va_up gt (vNt V) (some q1)))))))) h4 (zat_ne h4 htA (show (4 : Nat) ≠ 100 by decide))
    have hq1 := zat_up (b := ta) (e' := (.inl (ca 0, 20, .inr (.inr (.inr (.inr (va_up gt (vNt V) (some q1)))))))) hq1 (zat_ne hq1 htA (show (3 : Nat) ≠ 100 by decide))
    have htA : zat (L ++ [q1]) (va_up (va_up f q1 (.inr (3, [.int (nI a), .int (nI b)]))) ta (.inl (ca 0, 20, .inr (.inr (.inr (.inr (va_up gt (vNt V) (some q1)))))))) ta (.inl (ca 0, 20, .inr (.inr (.inr (.inr (va_up gt (vNt V) (some q1))))))) := zat_self htA.1
    refine lv_aload_n hx hb dX4_addTitle_49 rfl (lv_at hl 1 rfl) ?_
    refine lv_iload_n hx hb dX4_addTitle_50 rfl (lv_at hl 0 rfl) ?_
    refine lv_iconst (v := nI 1) hx hb dX4_addTitle_51 (by decide) ?_
    refine lv_iadd hx hb dX4_addTitle_52 ?_
    refine zasi (show ((nI (vNt V)) + (nI 1)) = nI (vNt V + 1) from nI_1 _) ?_
    refine zput (own := RX4) (ci := 4) (v := .int (nI (vNt V + 1))) (ty := .int) (C := RX4) (T := TX4) (N := 6) hx hb hts (by decide +kernel) tyX4 tyX4_ok nmX4 hown hE hP hD hS h4 rfl 2 (by decide) (hts (.fieldLink RX4 21 "LinkResolver" "titleCount" "I") (by decide +kernel)) rfl (by decide +kernel) rfl rfl (Nat.le_of_ble_eq_true rfl) dX4_addTitle_53 (fun H locs hP hD hS => ?_)
    have hP : va_P D vwCl (va_pl (L ++ [q1]) (va_up (va_up (va_up f q1 (.inr (3, [.int (nI a), .int (nI b)]))) ta (.inl (ca 0, 20, .inr (.inr (.inr (.inr (va_up gt (vNt V) (some q1)))))))) h0 (.inr (4, [.ref ta, .ref pa, .int (nI (vNt V + 1)), .int (nI (vNp V)), .int (nI n), .int (nI (vTd V))])))) H := hP
    have hD : va_D A (va_pl (L ++ [q1]) (va_up (va_up (va_up f q1 (.inr (3, [.int (nI a), .int (nI b)]))) ta (.inl (ca 0, 20, .inr (.inr (.inr (.inr (va_up gt (vNt V) (some q1)))))))) h0 (.inr (4, [.ref ta, .ref pa, .int (nI (vNt V + 1)), .int (nI (vNp V)), .int (nI n), .int (nI (vTd V))])))) := hD
    have htA := zat_up (b := h0) (e' := (.inr (4, [.ref ta, .ref pa, .int (nI (vNt V + 1)), .int (nI (vNp V)), .int (nI n), .int (nI (vTd V))]))) htA (zat_ne htA h4 (show (100 : Nat) ≠ 4 by decide))
    have hq1 := zat_up (b := h0) (e' := (.inr (4, [.ref ta, .ref pa, .int (nI (vNt V + 1)), .int (nI (vNp V)), .int (nI n), .int (nI (vTd V))]))) hq1 (zat_ne hq1 h4 (show (3 : Nat) ≠ 4 by decide))
    have h4 : zat (L ++ [q1]) (va_up (va_up (va_up f q1 (.inr (3, [.int (nI a), .int (nI b)]))) ta (.inl (ca 0, 20, .inr (.inr (.inr (.inr (va_up gt (vNt V) (some q1)))))))) h0 (.inr (4, [.ref ta, .ref pa, .int (nI (vNt V + 1)), .int (nI (vNp V)), .int (nI n), .int (nI (vTd V))]))) h0 (.inr (4, [.ref ta, .ref pa, .int (nI (vNt V + 1)), .int (nI (vNp V)), .int (nI n), .int (nI (vTd V))])) := zat_self h4.1
    refine lv_iload_n hx hb dX4_addTitle_56 rfl (lv_at hl 0 rfl) ?_
    refine zwri ((L ++ [q1]), (va_up (va_up (va_up f q1 (.inr (3, [.int (nI a), .int (nI b)]))) ta (.inl (ca 0, 20, .inr (.inr (.inr (.inr (va_up gt (vNt V) (some q1)))))))) h0 (.inr (4, [.ref ta, .ref pa, .int (nI (vNt V + 1)), .int (nI (vNp V)), .int (nI n), .int (nI (vTd V))])))) hx hb hr hlocks dX4_addTitle_57 hP hD hS ⟨rfl, ta, pa, va_up aT (vNt V) q1, aP, aS, aH, n, ?_⟩
    exact zRep_title hR htA0 (K' := K + 1) (fun a e h n1 n2 => zat_up (zat_up (zat_push h hn_q1) n2) n1) hnt h4 htA (va_up_self _ _ _) (fun t ht => va_up_ne _ _ (Nat.ne_of_lt ht)) hq1 ha hb1 hb4 (Nat.le_succ K) hK
  · exact absurd ((nI_ltI (by omega) (by omega)).mpr hnt) c_21

set_option maxHeartbeats 4000000 in
set_option maxRecDepth 100000 in
theorem w_Pack (l : Launch) (D : va_G) (ca : Nat → ClassId) (sa : Nat → Nat) (L : List Nat) (f : Nat → va_E) (h : Nat) (a b g k : Nat) (hk : k ≤ 1) (h0 : zat L f h (.inr (2, [.int 0, .int 0, .int 0, .int 0, .null, .null]))) (sz : Nat) : Met l yX2_init wsX2_init ({ frames := 3, cells := 22, slots := 62, locals := 120 }) (va_Pc [.ref h, .int (nI a), .int (nI b), .int (nI g), .int (nI k)] (zMp D (va_pl L f) ca sa sz)) (va_Qv (fun (u : zU) => ∃ (sA : Nat) (hA : Nat → Nat) (g9 : Nat → Option Nat), zat u.1 u.2 h (.inr (2, [.int (nI a), .int (nI b), .int (nI g), .int (nI k), .ref (hA 20), .ref sA])) ∧ zat u.1 u.2 sA (.inl (ca 2, 20, .inr (.inr (.inr (.inr g9))))) ∧ (∀ t, t < 20 → g9 t = some (hA t)) ∧ (∀ w, w ≤ 20 → zat u.1 u.2 (hA w) (.inr (1, [.null, .int (nI 0)])) ∧ hA w ∉ L) ∧ (∀ w w2, w ≤ 20 → w2 ≤ 20 → hA w = hA w2 → w = w2) ∧ sA ∉ L ∧ ∀ x e, zat L f x e → x ≠ h → zat u.1 u.2 x e) (zPost D (va_A (va_pl L f) sz)) (va_A (va_pl L f) sz)) 22 62 (va_A (va_pl L f) sz) := by
  refine Met.ofW (cc := cX2_init) (maxL := 6) (ret := none) (by decide) rfl ?_
  intro p e s m args below meth c s₁ B hml hv
  obtain ⟨rfl, hsz, hP, hD0, hE⟩ := hv
  have hx := B.exec
  have hb := B.bytes
  have hr := B.returns
  have hts := atoms_spec (ws := wsX2_init) B.pre
  have hown : s.vm.findClass RX2 = some m.cls := findClass_of_methodNamed B.named
  have hlocks := B.notSynchronized
  have hl := lv_entry ([.ref h, .int (nI a), .int (nI b), .int (nI g), .int (nI k)]) (n := 6) (Nat.le_of_ble_eq_true rfl)
  rw [lg_entry_eq]
  generalize (lg_sl ([.ref h, .int (nI a), .int (nI b), .int (nI g), .int (nI k)]) ++ List.replicate (6 - (lg_sl ([.ref h, .int (nI a), .int (nI b), .int (nI g), .int (nI k)])).length) Slot.unset).toArray = ls at hl ⊢
  have hl : lv_has ls 6 [(0, .ref h), (1, .int (nI a)), (2, .int (nI b)), (3, .int (nI g)), (4, .int (nI k))] := hl
  have hin : meth.name = "<init>" := (name_of_methodNamed B.named B.method).1
  subst hsz
  have hD := hD0.self (sz := s.heap.size)
  generalize hAe : va_A (va_pl L f) s.heap.size = A at hD ⊢
  have hA : ∀ q : Nat, s.heap.size ≤ q → A q := fun q h => by rw [← hAe]; exact Or.inr h
  have hS : va_S A s.heap s.heap [] := va_S.rf
  refine lv_aload_n hx hb dX2_init_0 rfl (lv_at hl 0 rfl) ?_
  refine W.objInit hx hb hown (hts (.methodLink RX2 3 objectInit) (by decide +kernel)) (hts (.instanceMethod objectInit) (by decide +kernel)) (hts (.code objectInit ⟨#[0xb1]⟩ 1 none) (by decide +kernel)) rfl (by rw [hml]; exact hl.1) rfl dX2_init_1 (Nat.le_of_ble_eq_true rfl) (Nat.le_of_ble_eq_true rfl) ?_
  refine W.eq (g2 := F0 m 4 ls []) rfl ?_
  refine lv_aload_n hx hb dX2_init_4 rfl (lv_at hl 0 rfl) ?_
  refine lv_iload_n hx hb dX2_init_5 rfl (lv_at hl 1 rfl) ?_
  refine zputF (own := RX2) (ci := 2) (v := .int (nI a)) (ty := .int) (C := RX2) (T := TX2) (N := 6) hx hb hts (by decide +kernel) tyX2 tyX2_ok nmX2 hown hE hP hD hS h0 rfl 0 (by decide) (hts (.fieldLink RX2 9 "LinkResolver$Pack" "cost" "I") (by decide +kernel)) rfl hin rfl (by decide +kernel) rfl rfl (Nat.le_of_ble_eq_true rfl) dX2_init_6 (fun H locs hP hD hS => ?_)
  have hP : va_P D vwCl (va_pl L (va_up f h (.inr (2, [.int (nI a), .int 0, .int 0, .int 0, .null, .null])))) H := hP
  have hD : va_D A (va_pl L (va_up f h (.inr (2, [.int (nI a), .int 0, .int 0, .int 0, .null, .null])))) := hD
  have h0 : zat L (va_up f h (.inr (2, [.int (nI a), .int 0, .int 0, .int 0, .null, .null]))) h (.inr (2, [.int (nI a), .int 0, .int 0, .int 0, .null, .null])) := zat_self h0.1
  refine lv_aload_n hx hb dX2_init_9 rfl (lv_at hl 0 rfl) ?_
  refine lv_iload_n hx hb dX2_init_10 rfl (lv_at hl 2 rfl) ?_
  refine zputF (own := RX2) (ci := 2) (v := .int (nI b)) (ty := .int) (C := RX2) (T := TX2) (N := 6) hx hb hts (by decide +kernel) tyX2 tyX2_ok nmX2 hown hE hP hD hS h0 rfl 1 (by decide) (hts (.fieldLink RX2 15 "LinkResolver$Pack" "version" "I") (by decide +kernel)) rfl hin rfl (by decide +kernel) rfl rfl (Nat.le_of_ble_eq_true rfl) dX2_init_11 (fun H locs hP hD hS => ?_)
  rw [bx_uu] at hP hD
  have hP : va_P D vwCl (va_pl L (va_up f h (.inr (2, [.int (nI a), .int (nI b), .int 0, .int 0, .null, .null])))) H := hP
  have hD : va_D A (va_pl L (va_up f h (.inr (2, [.int (nI a), .int (nI b), .int 0, .int 0, .null, .null])))) := hD
  have h0 : zat L (va_up f h (.inr (2, [.int (nI a), .int (nI b), .int 0, .int 0, .null, .null]))) h (.inr (2, [.int (nI a), .int (nI b), .int 0, .int 0, .null, .null])) := zat_self h0.1
  refine lv_aload_n hx hb dX2_init_14 rfl (lv_at hl 0 rfl) ?_
  refine lv_iload_n hx hb dX2_init_15 rfl (lv_at hl 3 rfl) ?_
  refine zputF (own := RX2) (ci := 2) (v := .int (nI g)) (ty := .int) (C := RX2) (T := TX2) (N := 6) hx hb hts (by decide +kernel) tyX2 tyX2_ok nmX2 hown hE hP hD hS h0 rfl 2 (by decide) (hts (.fieldLink RX2 18 "LinkResolver$Pack" "groups" "I") (by decide +kernel)) rfl hin rfl (by decide +kernel) rfl rfl (Nat.le_of_ble_eq_true rfl) dX2_init_16 (fun H locs hP hD hS => ?_)
  rw [bx_uu] at hP hD
  have hP : va_P D vwCl (va_pl L (va_up f h (.inr (2, [.int (nI a), .int (nI b), .int (nI g), .int 0, .null, .null])))) H := hP
  have hD : va_D A (va_pl L (va_up f h (.inr (2, [.int (nI a), .int (nI b), .int (nI g), .int 0, .null, .null])))) := hD
  have h0 : zat L (va_up f h (.inr (2, [.int (nI a), .int (nI b), .int (nI g), .int 0, .null, .null]))) h (.inr (2, [.int (nI a), .int (nI b), .int (nI g), .int 0, .null, .null])) := zat_self h0.1
  refine lv_aload_n hx hb dX2_init_19 rfl (lv_at hl 0 rfl) ?_
  refine lv_iload hx hb dX2_init_20 (lv_at hl 4 rfl) ?_
  refine zputF (own := RX2) (ci := 2) (v := .int (nI k)) (ty := .boolean) (C := RX2) (T := TX2) (N := 6) hx hb hts (by decide +kernel) tyX2 tyX2_ok nmX2 hown hE hP hD hS h0 rfl 3 (by decide) (hts (.fieldLink RX2 21 "LinkResolver$Pack" "isKeeping" "Z") (by decide +kernel)) rfl hin rfl (by decide +kernel) (by rcases (show k = 0 ∨ k = 1 by omega) with rfl | rfl <;> rfl) (by rcases (show k = 0 ∨ k = 1 by omega) with rfl | rfl <;> rfl) (Nat.le_of_ble_eq_true rfl) dX2_init_22 (fun H locs hP hD hS => ?_)
  rw [bx_uu] at hP hD
  have hP : va_P D vwCl (va_pl L (va_up f h (.inr (2, [.int (nI a), .int (nI b), .int (nI g), .int (nI k), .null, .null])))) H := hP
  have hD : va_D A (va_pl L (va_up f h (.inr (2, [.int (nI a), .int (nI b), .int (nI g), .int (nI k), .null, .null])))) := hD
  have h0 : zat L (va_up f h (.inr (2, [.int (nI a), .int (nI b), .int (nI g), .int (nI k), .null, .null]))) h (.inr (2, [.int (nI a), .int (nI b), .int (nI g), .int (nI k), .null, .null])) := zat_self h0.1
  refine lv_aload_n hx hb dX2_init_25 rfl (lv_at hl 0 rfl) ?_
  refine znew (own := RX2) (ci := 1) (fs := [.null, .int 0]) (C := RX1) (T := TX1) (N := 2) hx hb hts (by decide +kernel) tyX1 tyX1_ok hown (hts (.classLink RX2 25 RX1) (by decide +kernel)) (hts (.instantiable RX1 2) (by decide +kernel)) (hts (.initialized RX1) (by decide +kernel)) hE hP hD hS hA rfl (fun j hj => by rcases (show j = 0 ∨ j = 1 by omega) with rfl | rfl <;> rfl) (Nat.le_of_ble_eq_true rfl) (Nat.le_of_ble_eq_true rfl) dX2_init_26 (fun q1 H hn_q1 hP hD hS => ?_)
  have h0 := zat_push (e' := (.inr (1, [.null, .int 0]))) h0 hn_q1
  have hq1 : zat (L ++ [q1]) (va_up (va_up f h (.inr (2, [.int (nI a), .int (nI b), .int (nI g), .int (nI k), .null, .null]))) q1 (.inr (1, [.null, .int 0]))) q1 (.inr (1, [.null, .int 0])) := zat_new
  refine lv_dup hx hb dX2_init_29 rfl ?_
  refine zwcv (va_runI (As := []) (rest := [.ref q1, .ref h]) ⟨hx, hb, hml, hown, hts⟩ (w_Hist l D ca sa (L ++ [q1]) (va_up (va_up f h (.inr (2, [.int (nI a), .int (nI b), .int (nI g), .int (nI k), .null, .null]))) q1 (.inr (1, [.null, .int 0]))) q1 hq1 _) (cwI 0 hts gX2_init_X1_init rfl rfl rfl (hts (.initialized RX1) (by decide +kernel)) (hts (.methodLink RX2 27 yX1_init) (by decide +kernel)) (hts (.instanceMethod yX1_init) (by decide +kernel)) rfl (by decide +kernel) ⟨Nat.le_of_ble_eq_true rfl, Nat.le_of_ble_eq_true rfl⟩) (zmSi hP hD hE) rfl rfl hl.1 rfl (lv_room (Nat.le_of_ble_eq_true rfl)) dX2_init_30 ⟨Nat.le_of_ble_eq_true rfl, Nat.le_of_ble_eq_true rfl⟩) hD hS hA (fun u H locs hu hP hD hS => ?_)
  subst hu
  have hP : va_P D vwCl (va_pl (L ++ [q1]) (va_up (va_up f h (.inr (2, [.int (nI a), .int (nI b), .int (nI g), .int (nI k), .null, .null]))) q1 (.inr (1, [.null, .int (nI 0)])))) H := by rw [← bx_uu (va_up f h (.inr (2, [.int (nI a), .int (nI b), .int (nI g), .int (nI k), .null, .null]))) q1]; exact hP
  have hD : va_D A (va_pl (L ++ [q1]) (va_up (va_up f h (.inr (2, [.int (nI a), .int (nI b), .int (nI g), .int (nI k), .null, .null]))) q1 (.inr (1, [.null, .int (nI 0)])))) := by rw [← bx_uu (va_up f h (.inr (2, [.int (nI a), .int (nI b), .int (nI g), .int (nI k), .null, .null]))) q1]; exact hD
  have h0 := zat_up (b := q1) (e' := (.inr (1, [.null, .int (nI 0)]))) h0 (zat_ne h0 hq1 (show (2 : Nat) ≠ 1 by decide))
  rw [bx_uu] at h0
  have hq1 : zat (L ++ [q1]) (va_up (va_up f h (.inr (2, [.int (nI a), .int (nI b), .int (nI g), .int (nI k), .null, .null]))) q1 (.inr (1, [.null, .int (nI 0)]))) q1 (.inr (1, [.null, .int (nI 0)])) := zat_self hq1.1
  refine zputF (own := RX2) (ci := 2) (v := .ref q1) (ty := (.object "LinkResolver$History")) (C := RX2) (T := TX2) (N := 6) hx hb hts (by decide +kernel) tyX2 tyX2_ok nmX2 hown hE hP hD hS h0 rfl 4 (by decide) (hts (.fieldLink RX2 28 "LinkResolver$Pack" "subscription" "LLinkResolver$History;") (by decide +kernel)) rfl hin rfl (by decide +kernel) rfl rfl (Nat.le_of_ble_eq_true rfl) dX2_init_33 (fun H locs hP hD hS => ?_)
  have hP : va_P D vwCl (va_pl (L ++ [q1]) (va_up (va_up (va_up f h (.inr (2, [.int (nI a), .int (nI b), .int (nI g), .int (nI k), .null, .null]))) q1 (.inr (1, [.null, .int (nI 0)]))) h (.inr (2, [.int (nI a), .int (nI b), .int (nI g), .int (nI k), .ref q1, .null])))) H := hP
  have hD : va_D A (va_pl (L ++ [q1]) (va_up (va_up (va_up f h (.inr (2, [.int (nI a), .int (nI b), .int (nI g), .int (nI k), .null, .null]))) q1 (.inr (1, [.null, .int (nI 0)]))) h (.inr (2, [.int (nI a), .int (nI b), .int (nI g), .int (nI k), .ref q1, .null])))) := hD
  have hq1 := zat_up (b := h) (e' := (.inr (2, [.int (nI a), .int (nI b), .int (nI g), .int (nI k), .ref q1, .null]))) hq1 (zat_ne hq1 h0 (show (1 : Nat) ≠ 2 by decide))
  have h0 : zat (L ++ [q1]) (va_up (va_up (va_up f h (.inr (2, [.int (nI a), .int (nI b), .int (nI g), .int (nI k), .null, .null]))) q1 (.inr (1, [.null, .int (nI 0)]))) h (.inr (2, [.int (nI a), .int (nI b), .int (nI g), .int (nI k), .ref q1, .null]))) h (.inr (2, [.int (nI a), .int (nI b), .int (nI g), .int (nI k), .ref q1, .null])) := zat_self h0.1
  refine lv_aload_n hx hb dX2_init_36 rfl (lv_at hl 0 rfl) ?_
  refine lv_bipush (v := nI 20) hx hb dX2_init_37 (by decide) ?_
  refine znewq hx hb hown (hts (.classLink RX2 25 RX1) (by decide +kernel)) hE.2.1.2.2.2 hE 2 rfl hP hD hS hA (n := 20) (by decide) (Nat.le_of_ble_eq_true rfl) (Nat.le_of_ble_eq_true rfl) dX2_init_39 (fun q2 H hn_q2 hP hD hS => ?_)
  have h0 := zat_push (e' := (.inl (ca 2, 20, .inr (.inr (.inr (.inr (fun _ => none))))))) h0 hn_q2
  have hq1 := zat_push (e' := (.inl (ca 2, 20, .inr (.inr (.inr (.inr (fun _ => none))))))) hq1 hn_q2
  have hq2 : zat ((L ++ [q1]) ++ [q2]) (va_up (va_up (va_up (va_up f h (.inr (2, [.int (nI a), .int (nI b), .int (nI g), .int (nI k), .null, .null]))) q1 (.inr (1, [.null, .int (nI 0)]))) h (.inr (2, [.int (nI a), .int (nI b), .int (nI g), .int (nI k), .ref q1, .null]))) q2 (.inl (ca 2, 20, .inr (.inr (.inr (.inr (fun _ => none))))))) q2 (.inl (ca 2, 20, .inr (.inr (.inr (.inr (fun _ => none)))))) := zat_new
  refine zputF (own := RX2) (ci := 2) (v := .ref q2) (ty := (.array (.object "LinkResolver$History"))) (C := RX2) (T := TX2) (N := 6) hx hb hts (by decide +kernel) tyX2 tyX2_ok nmX2 hown hE hP hD hS h0 rfl 5 (by decide) (hts (.fieldLink RX2 32 "LinkResolver$Pack" "stays" "[LLinkResolver$History;") (by decide +kernel)) rfl hin rfl (by decide +kernel) rfl rfl (Nat.le_of_ble_eq_true rfl) dX2_init_42 (fun H locs hP hD hS => ?_)
  have hP : va_P D vwCl (va_pl ((L ++ [q1]) ++ [q2]) (va_up (va_up (va_up (va_up (va_up f h (.inr (2, [.int (nI a), .int (nI b), .int (nI g), .int (nI k), .null, .null]))) q1 (.inr (1, [.null, .int (nI 0)]))) h (.inr (2, [.int (nI a), .int (nI b), .int (nI g), .int (nI k), .ref q1, .null]))) q2 (.inl (ca 2, 20, .inr (.inr (.inr (.inr (fun _ => none))))))) h (.inr (2, [.int (nI a), .int (nI b), .int (nI g), .int (nI k), .ref q1, .ref q2])))) H := hP
  have hD : va_D A (va_pl ((L ++ [q1]) ++ [q2]) (va_up (va_up (va_up (va_up (va_up f h (.inr (2, [.int (nI a), .int (nI b), .int (nI g), .int (nI k), .null, .null]))) q1 (.inr (1, [.null, .int (nI 0)]))) h (.inr (2, [.int (nI a), .int (nI b), .int (nI g), .int (nI k), .ref q1, .null]))) q2 (.inl (ca 2, 20, .inr (.inr (.inr (.inr (fun _ => none))))))) h (.inr (2, [.int (nI a), .int (nI b), .int (nI g), .int (nI k), .ref q1, .ref q2])))) := hD
  have hq1 := zat_up (b := h) (e' := (.inr (2, [.int (nI a), .int (nI b), .int (nI g), .int (nI k), .ref q1, .ref q2]))) hq1 (zat_ne hq1 h0 (show (1 : Nat) ≠ 2 by decide))
  have hq2 := zat_up (b := h) (e' := (.inr (2, [.int (nI a), .int (nI b), .int (nI g), .int (nI k), .ref q1, .ref q2]))) hq2 (zat_ne hq2 h0 (show (100 : Nat) ≠ 2 by decide))
  have h0 : zat ((L ++ [q1]) ++ [q2]) (va_up (va_up (va_up (va_up (va_up f h (.inr (2, [.int (nI a), .int (nI b), .int (nI g), .int (nI k), .null, .null]))) q1 (.inr (1, [.null, .int (nI 0)]))) h (.inr (2, [.int (nI a), .int (nI b), .int (nI g), .int (nI k), .ref q1, .null]))) q2 (.inl (ca 2, 20, .inr (.inr (.inr (.inr (fun _ => none))))))) h (.inr (2, [.int (nI a), .int (nI b), .int (nI g), .int (nI k), .ref q1, .ref q2]))) h (.inr (2, [.int (nI a), .int (nI b), .int (nI g), .int (nI k), .ref q1, .ref q2])) := zat_self h0.1
  refine lv_iconst (v := nI 0) hx hb dX2_init_45 (by decide) ?_
  refine lv_istore (lv' := [(5, .int (nI 0)), (0, .ref h), (1, .int (nI a)), (2, .int (nI b)), (3, .int (nI g)), (4, .int (nI k))]) hx hb dX2_init_46 hl (by decide) rfl (fun ls hl => ?_)
  have hhsL : q1 ∉ L := hn_q1
  have hsAL : q2 ∉ L := fun z => hn_q2 (List.mem_append_left _ z)
  have loop : ∀ (n9 : Nat) (j : Nat) (L1 : List Nat) (f1 : Nat → va_E) (g9 : Nat → Option Nat) (xA : Nat → Nat) (H : Heap) (locs : List Loc) (ls : Array Slot), j ≤ 20 → 20 < j + n9 → zat L1 f1 h (.inr (2, [.int (nI a), .int (nI b), .int (nI g), .int (nI k), .ref q1, .ref q2])) → zat L1 f1 q1 (.inr (1, [.null, .int (nI 0)])) → zat L1 f1 q2 (.inl (ca 2, 20, .inr (.inr (.inr (.inr g9))))) → (∀ i, i < j → g9 i = some (xA i) ∧ zat L1 f1 (xA i) (.inr (1, [.null, .int (nI 0)])) ∧ xA i ∉ L ∧ xA i ≠ q1) → (∀ i i2, i < j → i2 < j → xA i = xA i2 → i = i2) → (∀ x e, zat L f x e → x ≠ h → zat L1 f1 x e) → (∀ x, x ∈ L → x ∈ L1) → va_P D vwCl (va_pl L1 f1) H → va_D A (va_pl L1 f1) → va_S A s.heap H locs → lv_has ls 6 [(5, .int (nI j)), (0, .ref h)] → W p l e (headSpec wsX2_init ({ frames := 3, cells := 22, slots := 62, locals := 120 })).room s m ([.ref h, .int (nI a), .int (nI b), .int (nI g), .int (nI k)] : List Value).toArray below meth c H locs (2 + j) (22 + 2 * j) (MQ below (va_Qv (fun (u : zU) => ∃ (sA : Nat) (hA : Nat → Nat) (g9 : Nat → Option Nat), zat u.1 u.2 h (.inr (2, [.int (nI a), .int (nI b), .int (nI g), .int (nI k), .ref (hA 20), .ref sA])) ∧ zat u.1 u.2 sA (.inl (ca 2, 20, .inr (.inr (.inr (.inr g9))))) ∧ (∀ t, t < 20 → g9 t = some (hA t)) ∧ (∀ w, w ≤ 20 → zat u.1 u.2 (hA w) (.inr (1, [.null, .int (nI 0)])) ∧ hA w ∉ L) ∧ (∀ w w2, w ≤ 20 → w2 ≤ 20 → hA w = hA w2 → w = w2) ∧ sA ∉ L ∧ ∀ x e, zat L f x e → x ≠ h → zat u.1 u.2 x e) (zPost D A) A) ([.ref h, .int (nI a), .int (nI b), .int (nI g), .int (nI k)] : List Value).toArray s 22 62 A) (F0 m 48 ls []) := by
    intro n9
    induction n9 with
    | zero =>
      intro j L1 f1 g9 xA H locs ls hj hfu hh hhs hsA hgs hij hfr hsub hP hD hS hl
      exact absurd hfu (by omega)
    | succ n9 ih =>
      intro j L1 f1 g9 xA H locs ls hj hfu hh hhs hsA hgs hij hfr hsub hP hD hS hl
      refine lv_iload hx hb dX2_init_48 (lv_at hl 0 rfl) ?_
      refine lv_bipush (v := nI 20) hx hb dX2_init_50 (by decide) ?_
      refine lv_icmp_ge (tgt := 75) hx hb dX2_init_52 (by decide) (fun c_52 => ?_) (fun c_52 => ?_)
      · have e9 : j = 20 := by have := (nI_leI (by omega) (by omega)).mp c_52; omega
        subst e9
        refine zwrv (L1, f1) hx hb hr hlocks dX2_init_75 hP hD hS ⟨q2, fun w => if w = 20 then q1 else xA w, g9, ?_, hsA, fun t ht => ?_, fun w hw => ?_, fun w w2 hw hw2 => ?_, hsAL, hfr⟩
        · exact hh
        · show g9 t = some (if t = 20 then q1 else xA t)
          rw [if_neg (by omega)]; exact (hgs t ht).1
        · show zat L1 f1 (if w = 20 then q1 else xA w) _ ∧ (if w = 20 then q1 else xA w) ∉ L
          by_cases z : w = 20
          · rw [if_pos z]; exact ⟨hhs, hhsL⟩
          · rw [if_neg z]; exact ⟨(hgs w (by omega)).2.1, (hgs w (by omega)).2.2.1⟩
        · show (if w = 20 then q1 else xA w) = (if w2 = 20 then q1 else xA w2) → w = w2
          by_cases z : w = 20 <;> by_cases z2 : w2 = 20
          · intro _; omega
          · rw [if_pos z, if_neg z2]; exact fun q => absurd q.symm (hgs w2 (by omega)).2.2.2
          · rw [if_neg z, if_pos z2]; exact fun q => absurd q (hgs w (by omega)).2.2.2
          · rw [if_neg z, if_neg z2]; exact hij w w2 (by omega) (by omega)
      · have hj2 : j < 20 := Nat.lt_of_not_le (fun q9 => c_52 ((nI_leI (by omega) (by omega)).mpr q9))
        have hhs0 := hhs.1
        have hsA0 := hsA
        refine lv_aload_n hx hb dX2_init_55 rfl (lv_at hl 1 rfl) ?_
        refine zget (own := RX2) (ci := 2) (C := RX2) (T := TX2) (N := 6) hx hb hts (by decide +kernel) hown hE hP hh rfl 5 (by decide) (hts (.fieldLink RX2 32 "LinkResolver$Pack" "stays" "[LLinkResolver$History;") (by decide +kernel)) rfl dX2_init_56 ?_
        refine lv_iload hx hb dX2_init_59 (lv_at hl 0 rfl) ?_
        refine znew (own := RX2) (ci := 1) (fs := [.null, .int 0]) (C := RX1) (T := TX1) (N := 2) hx hb hts (by decide +kernel) tyX1 tyX1_ok hown (hts (.classLink RX2 25 RX1) (by decide +kernel)) (hts (.instantiable RX1 2) (by decide +kernel)) (hts (.initialized RX1) (by decide +kernel)) hE hP hD hS hA rfl (fun i9 hj9 => by rcases (show i9 = 0 ∨ i9 = 1 by omega) with rfl | rfl <;> rfl) (show 2 + j + 1 ≤ 22 by omega) (show 22 + 2 * j + 2 ≤ 62 by omega) dX2_init_61 (fun q3 H hn_q3 hP hD hS => ?_)
        have hh := zat_push (e' := (.inr (1, [.null, .int 0]))) hh hn_q3
        have hhs := zat_push (e' := (.inr (1, [.null, .int 0]))) hhs hn_q3
        have hsA := zat_push (e' := (.inr (1, [.null, .int 0]))) hsA hn_q3
        have hq3 : zat (L1 ++ [q3]) (va_up f1 q3 (.inr (1, [.null, .int 0]))) q3 (.inr (1, [.null, .int 0])) := zat_new
        refine lv_dup hx hb dX2_init_64 rfl ?_
        refine zwcv (va_runI (As := []) (rest := [.ref q3, .int (nI j), .ref q2]) ⟨hx, hb, hml, hown, hts⟩ (w_Hist l D ca sa (L1 ++ [q3]) (va_up f1 q3 (.inr (1, [.null, .int 0]))) q3 hq3 _) (cwI 0 hts gX2_init_X1_init rfl rfl rfl (hts (.initialized RX1) (by decide +kernel)) (hts (.methodLink RX2 27 yX1_init) (by decide +kernel)) (hts (.instanceMethod yX1_init) (by decide +kernel)) rfl (by decide +kernel) ⟨Nat.le_of_ble_eq_true rfl, Nat.le_of_ble_eq_true rfl⟩) (zmSi hP hD hE) rfl rfl hl.1 rfl (lv_room (Nat.le_of_ble_eq_true rfl)) dX2_init_65 ⟨show 2 + j + 1 + 0 ≤ 22 by omega, show 22 + 2 * j + 2 + 0 ≤ 62 by omega⟩) hD hS hA (fun u H locs hu hP hD hS => ?_)
        subst hu
        have hP : va_P D vwCl (va_pl (L1 ++ [q3]) (va_up f1 q3 (.inr (1, [.null, .int (nI 0)])))) H := by rw [← bx_uu f1 q3]; exact hP
        have hD : va_D A (va_pl (L1 ++ [q3]) (va_up f1 q3 (.inr (1, [.null, .int (nI 0)])))) := by rw [← bx_uu f1 q3]; exact hD
        have hh := zat_up (b := q3) (e' := (.inr (1, [.null, .int (nI 0)]))) hh (zat_ne hh hq3 (show (2 : Nat) ≠ 1 by decide))
        rw [bx_uu] at hh
        have hhs := zat_up (b := q3) (e' := (.inr (1, [.null, .int (nI 0)]))) hhs (fun z => hn_q3 (by rw [← z]; exact hhs0))
        rw [bx_uu] at hhs
        have hsA := zat_up (b := q3) (e' := (.inr (1, [.null, .int (nI 0)]))) hsA (zat_ne hsA hq3 (show (100 : Nat) ≠ 1 by decide))
        rw [bx_uu] at hsA
        have hq3 : zat (L1 ++ [q3]) (va_up f1 q3 (.inr (1, [.null, .int (nI 0)]))) q3 (.inr (1, [.null, .int (nI 0)])) := zat_self hq3.1
        refine zast hx hb hE hP hD hS 2 1 hsA rfl hq3 rfl hj2 (by decide) dX2_init_68 (fun H locs hP hD hS => ?_)
        have hh := zat_up (b := q2) (e' := (.inl (ca 2, 20, .inr (.inr (.inr (.inr (va_up g9 j (some q3)))))))) hh (zat_ne hh hsA (show (2 : Nat) ≠ 100 by decide))
        have hhs := zat_up (b := q2) (e' := (.inl (ca 2, 20, .inr (.inr (.inr (.inr (va_up g9 j (some q3)))))))) hhs (zat_ne hhs hsA (show (1 : Nat) ≠ 100 by decide))
        have hq3 := zat_up (b := q2) (e' := (.inl (ca 2, 20, .inr (.inr (.inr (.inr (va_up g9 j (some q3)))))))) hq3 (zat_ne hq3 hsA (show (1 : Nat) ≠ 100 by decide))
        have hsA : zat (L1 ++ [q3]) (va_up (va_up f1 q3 (.inr (1, [.null, .int (nI 0)]))) q2 (.inl (ca 2, 20, .inr (.inr (.inr (.inr (va_up g9 j (some q3)))))))) q2 (.inl (ca 2, 20, .inr (.inr (.inr (.inr (va_up g9 j (some q3))))))) := zat_self hsA.1
        refine lv_iinc (v := nI (j + 1)) (lv' := [(5, .int (nI (j + 1))), (0, .ref h)]) hx hb dX2_init_69 hl (k := 0) rfl (zinc1 _) (by decide) rfl (fun ls hl => ?_)
        refine lv_goto (tgt := 48) hx hb dX2_init_72 (by decide) ?_
        refine W.widen (k := 2 + (j + 1)) (n := 22 + 2 * (j + 1)) (by omega) (by omega) ?_
        refine ih (j + 1) (L1 ++ [q3]) (va_up (va_up f1 q3 (.inr (1, [.null, .int (nI 0)]))) q2 (.inl (ca 2, 20, .inr (.inr (.inr (.inr (va_up g9 j (some q3)))))))) (va_up g9 j (some q3)) (va_up xA j q3) H locs ls (by omega) (by omega) hh hhs hsA (fun i hi => ?_) (fun i i2 hi hi2 => ?_) (fun x e h n1 => ?_) (fun x h => List.mem_append_left _ (hsub x h)) hP hD hS (lv_sub hl [0, 1] rfl)
        · by_cases z : i = j
          · subst z
            rw [va_up_self, va_up_self]
            exact ⟨rfl, hq3, fun q => hn_q3 (hsub _ q), fun q => hn_q3 (by rw [q]; exact hhs0)⟩
          · rw [va_up_ne _ _ z, va_up_ne _ _ z]
            obtain ⟨y1, y2, y3, y4⟩ := hgs i (by omega)
            exact ⟨y1, zat_up (zat_push y2 hn_q3) (zat_ne y2 hsA0 (show (1 : Nat) ≠ 100 by decide)), y3, y4⟩
        · by_cases z : i = j <;> by_cases z2 : i2 = j
          · intro _; omega
          · subst z
            rw [va_up_self, va_up_ne _ _ z2]
            exact fun q => absurd (by rw [q]; exact (hgs i2 (by omega)).2.1.1) hn_q3
          · subst z2
            rw [va_up_self, va_up_ne _ _ z]
            exact fun q => absurd (by rw [← q]; exact (hgs i (by omega)).2.1.1) hn_q3
          · rw [va_up_ne _ _ z, va_up_ne _ _ z2]; exact hij i i2 (by omega) (by omega)
        · exact zat_up (zat_push (hfr x e h n1) hn_q3) (fun q => hsAL (by rw [← q]; exact h.1))
  refine loop 21 0 ((L ++ [q1]) ++ [q2]) (va_up (va_up (va_up (va_up (va_up f h (.inr (2, [.int (nI a), .int (nI b), .int (nI g), .int (nI k), .null, .null]))) q1 (.inr (1, [.null, .int (nI 0)]))) h (.inr (2, [.int (nI a), .int (nI b), .int (nI g), .int (nI k), .ref q1, .null]))) q2 (.inl (ca 2, 20, .inr (.inr (.inr (.inr (fun _ => none))))))) h (.inr (2, [.int (nI a), .int (nI b), .int (nI g), .int (nI k), .ref q1, .ref q2]))) (fun _ => none) (fun _ => 0) H locs ls (Nat.zero_le _) (by omega) h0 hq1 hq2 (fun i hi => absurd hi (Nat.not_lt_zero _)) (fun i i2 hi => absurd hi (Nat.not_lt_zero _)) (fun x e hz n1 => zat_up (zat_push (zat_up (zat_push (zat_up hz n1) hn_q1) n1) hn_q2) n1) (fun x h => List.mem_append_left _ (List.mem_append_left _ h)) hP hD hS (lv_sub hl [0, 1] rfl)

set_option maxHeartbeats 4000000 in
set_option maxRecDepth 100000 in
theorem w_addPackage (l : Launch) (D : va_G) (ca : Nat → ClassId) (sa : Nat → Nat) (L : List Nat) (f : Nat → va_E) (h0 ta pa : Nat) (aT aP aS : Nat → Nat) (aH : Nat → Nat → Nat) (n K : Nat) (V : zV) (hR : zRep L f ca h0 ta pa aT aP aS aH n K V) (a b g k : Nat) (ha : a ≤ 1000) (hb2 : b ≤ 2) (hg : g ≤ 15) (hk : k ≤ 1) (hnp : vNp V < 10) (hK : K < 512) (sz : Nat) : Met l yX4_addPackage wsX4_addPackage ({ frames := 8, cells := 23, slots := 68, locals := 320 }) (va_Pc [.ref h0, .int (nI a), .int (nI b), .int (nI g), .int (nI k)] (zMp D (va_pl L f) ca sa sz)) (va_Qi (fun (r : Int32) (u : zU) => r = nI (vNp V) ∧ zR u.1 u.2 ca h0 (K + 1) (vTd V, vNt V, vNp V + 1, vT V, va_up (vP V) (vNp V) (a, b, g, k), va_up (vB V) (vNp V) (fun _ => 0), va_up (vL V) (vNp V) (fun _ => []))) (zPost D (va_A (va_pl L f) sz)) (va_A (va_pl L f) sz)) 23 68 (va_A (va_pl L f) sz) := by
  refine Met.ofW (cc := cX4_addPackage) (maxL := 6) (ret := (some .int)) (by decide) rfl ?_
  intro p e s m args below meth c s₁ B hml hv
  obtain ⟨rfl, hsz, hP, hD0, hE⟩ := hv
  have hx := B.exec
  have hb := B.bytes
  have hr := B.returns
  have hts := atoms_spec (ws := wsX4_addPackage) B.pre
  have hown : s.vm.findClass RX4 = some m.cls := findClass_of_methodNamed B.named
  have hlocks := B.notSynchronized
  have hl := lv_entry ([.ref h0, .int (nI a), .int (nI b), .int (nI g), .int (nI k)]) (n := 6) (Nat.le_of_ble_eq_true rfl)
  rw [lg_entry_eq]
  generalize (lg_sl ([.ref h0, .int (nI a), .int (nI b), .int (nI g), .int (nI k)]) ++ List.replicate (6 - (lg_sl ([.ref h0, .int (nI a), .int (nI b), .int (nI g), .int (nI k)])).length) Slot.unset).toArray = ls at hl ⊢
  have hl : lv_has ls 6 [(0, .ref h0), (1, .int (nI a)), (2, .int (nI b)), (3, .int (nI g)), (4, .int (nI k))] := hl
  subst hsz
  have hD := hD0.self (sz := s.heap.size)
  generalize hAe : va_A (va_pl L f) s.heap.size = A at hD ⊢
  have hA : ∀ q : Nat, s.heap.size ≤ q → A q := fun q h => by rw [← hAe]; exact Or.inr h
  have hS : va_S A s.heap s.heap [] := va_S.rf
  obtain ⟨⟨h4, hTd, hNt, hNp, hnK, hK5⟩, ⟨gt, htA, hTi⟩, ⟨gp, hpA, hPk⟩, hinj⟩ := id hR
  have hpk : ∀ q, q < vNp V → zPack L f ca (aP q) (vP V q) (aH q 20) (aS q) (aH q) := fun q h => (hPk q h).2.1
  have hhi : ∀ q, q < vNp V → ∀ w, w ≤ 20 → zHist L f (aH q w) (vB V q w) (vL V q w) := fun q h w hw => ((hPk q h).2.2 w hw).1
  have hpA0 := hpA
  refine lv_iload_n hx hb dX4_addPackage_0 rfl (lv_at hl 1 rfl) ?_
  refine lv_iconst (v := nI 0) hx hb dX4_addPackage_1 (by decide) ?_
  refine lv_sipush (v := nI 1000) hx hb dX4_addPackage_2 (by decide) ?_
  refine zcv (va_runS (As := [.int (nI a), .int (nI 0), .int (nI 1000)]) (rest := []) ⟨hx, hb, hml, hown, hts⟩ (c_ckRange l D ca sa _ (a) (0) (1000) (Nat.zero_le _) (ha) (by omega)) (va_cwS 3 hts gX4_addPackage_X4_checkRange rfl rfl rfl (by decide +kernel) ⟨Nat.le_of_ble_eq_true rfl, Nat.le_of_ble_eq_true rfl⟩) (zpS hP hE) rfl rfl hl.1 rfl (lv_room (Nat.le_of_ble_eq_true rfl)) dX4_addPackage_5 ⟨Nat.le_of_ble_eq_true rfl, Nat.le_of_ble_eq_true rfl⟩) ?_
  refine lv_iload_n hx hb dX4_addPackage_8 rfl (lv_at hl 2 rfl) ?_
  refine lv_iconst (v := nI 0) hx hb dX4_addPackage_9 (by decide) ?_
  refine lv_iconst (v := nI 2) hx hb dX4_addPackage_10 (by decide) ?_
  refine zcv (va_runS (As := [.int (nI b), .int (nI 0), .int (nI 2)]) (rest := []) ⟨hx, hb, hml, hown, hts⟩ (c_ckRange l D ca sa _ (b) (0) (2) (Nat.zero_le _) (hb2) (by omega)) (va_cwS 3 hts gX4_addPackage_X4_checkRange rfl rfl rfl (by decide +kernel) ⟨Nat.le_of_ble_eq_true rfl, Nat.le_of_ble_eq_true rfl⟩) (zpS hP hE) rfl rfl hl.1 rfl (lv_room (Nat.le_of_ble_eq_true rfl)) dX4_addPackage_11 ⟨Nat.le_of_ble_eq_true rfl, Nat.le_of_ble_eq_true rfl⟩) ?_
  refine lv_iload_n hx hb dX4_addPackage_14 rfl (lv_at hl 3 rfl) ?_
  refine lv_iconst (v := nI 0) hx hb dX4_addPackage_15 (by decide) ?_
  refine lv_bipush (v := nI 15) hx hb dX4_addPackage_16 (by decide) ?_
  refine zcv (va_runS (As := [.int (nI g), .int (nI 0), .int (nI 15)]) (rest := []) ⟨hx, hb, hml, hown, hts⟩ (c_ckRange l D ca sa _ (g) (0) (15) (Nat.zero_le _) (hg) (by omega)) (va_cwS 3 hts gX4_addPackage_X4_checkRange rfl rfl rfl (by decide +kernel) ⟨Nat.le_of_ble_eq_true rfl, Nat.le_of_ble_eq_true rfl⟩) (zpS hP hE) rfl rfl hl.1 rfl (lv_room (Nat.le_of_ble_eq_true rfl)) dX4_addPackage_18 ⟨Nat.le_of_ble_eq_true rfl, Nat.le_of_ble_eq_true rfl⟩) ?_
  refine lv_iload hx hb dX4_addPackage_21 (lv_at hl 4 rfl) ?_
  refine lv_iconst (v := nI 0) hx hb dX4_addPackage_23 (by decide) ?_
  refine lv_iconst (v := nI 1) hx hb dX4_addPackage_24 (by decide) ?_
  refine zcv (va_runS (As := [.int (nI k), .int (nI 0), .int (nI 1)]) (rest := []) ⟨hx, hb, hml, hown, hts⟩ (c_ckRange l D ca sa _ (k) (0) (1) (Nat.zero_le _) (hk) (by omega)) (va_cwS 3 hts gX4_addPackage_X4_checkRange rfl rfl rfl (by decide +kernel) ⟨Nat.le_of_ble_eq_true rfl, Nat.le_of_ble_eq_true rfl⟩) (zpS hP hE) rfl rfl hl.1 rfl (lv_room (Nat.le_of_ble_eq_true rfl)) dX4_addPackage_25 ⟨Nat.le_of_ble_eq_true rfl, Nat.le_of_ble_eq_true rfl⟩) ?_
  refine lv_aload_n hx hb dX4_addPackage_28 rfl (lv_at hl 0 rfl) ?_
  refine zget (own := RX4) (ci := 4) (C := RX4) (T := TX4) (N := 6) hx hb hts (by decide +kernel) hown hE hP h4 rfl 3 (by decide) (hts (.fieldLink RX4 25 "LinkResolver" "packCount" "I") (by decide +kernel)) rfl dX4_addPackage_29 ?_
  refine lv_istore (lv' := [(5, .int (nI (vNp V))), (0, .ref h0), (1, .int (nI a)), (2, .int (nI b)), (3, .int (nI g)), (4, .int (nI k))]) hx hb dX4_addPackage_32 hl (by decide) rfl (fun ls hl => ?_)
  refine lv_iload hx hb dX4_addPackage_34 (lv_at hl 0 rfl) ?_
  refine lv_bipush (v := nI 10) hx hb dX4_addPackage_36 (by decide) ?_
  refine lv_icmp_lt (tgt := 51) hx hb dX4_addPackage_38 (by decide) (fun c_38 => ?_) (fun c_38 => ?_)
  · refine lv_aload_n hx hb dX4_addPackage_51 rfl (lv_at hl 1 rfl) ?_
    refine zget (own := RX4) (ci := 4) (C := RX4) (T := TX4) (N := 6) hx hb hts (by decide +kernel) hown hE hP h4 rfl 1 (by decide) (hts (.fieldLink RX4 17 "LinkResolver" "packs" "[LLinkResolver$Pack;") (by decide +kernel)) rfl dX4_addPackage_52 ?_
    refine lv_iload hx hb dX4_addPackage_55 (lv_at hl 0 rfl) ?_
    refine znew (own := RX4) (ci := 2) (fs := [.int 0, .int 0, .int 0, .int 0, .null, .null]) (C := RX2) (T := TX2) (N := 6) hx hb hts (by decide +kernel) tyX2 tyX2_ok hown (hts (.classLink RX4 15 RX2) (by decide +kernel)) (hts (.instantiable RX2 6) (by decide +kernel)) (hts (.initialized RX2) (by decide +kernel)) hE hP hD hS hA rfl (fun j hj => by rcases (show j = 0 ∨ j = 1 ∨ j = 2 ∨ j = 3 ∨ j = 4 ∨ j = 5 by omega) with rfl | rfl | rfl | rfl | rfl | rfl <;> rfl) (Nat.le_of_ble_eq_true rfl) (Nat.le_of_ble_eq_true rfl) dX4_addPackage_57 (fun q1 H hn_q1 hP hD hS => ?_)
    have h4 := zat_push (e' := (.inr (2, [.int 0, .int 0, .int 0, .int 0, .null, .null]))) h4 hn_q1
    have hpA := zat_push (e' := (.inr (2, [.int 0, .int 0, .int 0, .int 0, .null, .null]))) hpA hn_q1
    have hq1 : zat (L ++ [q1]) (va_up f q1 (.inr (2, [.int 0, .int 0, .int 0, .int 0, .null, .null]))) q1 (.inr (2, [.int 0, .int 0, .int 0, .int 0, .null, .null])) := zat_new
    refine lv_dup hx hb dX4_addPackage_60 rfl ?_
    refine lv_iload_n hx hb dX4_addPackage_61 rfl (lv_at hl 2 rfl) ?_
    refine lv_iload_n hx hb dX4_addPackage_62 rfl (lv_at hl 3 rfl) ?_
    refine lv_iload_n hx hb dX4_addPackage_63 rfl (lv_at hl 4 rfl) ?_
    refine lv_iload hx hb dX4_addPackage_64 (lv_at hl 5 rfl) ?_
    refine lv_iconst (v := nI 1) hx hb dX4_addPackage_66 (by decide) ?_
    refine lv_icmp_ne (tgt := 74) hx hb dX4_addPackage_67 (by decide) (fun c_67 => ?_) (fun c_67 => ?_)
    · refine lv_iconst (v := nI 0) hx hb dX4_addPackage_74 (by decide) ?_
      refine zasi (show (nI 0) = nI k from by rw [show k = 0 by rcases (show k = 0 ∨ k = 1 by omega) with z | z; exact z; exact absurd (by rw [z]) c_67]) ?_
      refine zwcv (va_runI (As := [.int (nI a), .int (nI b), .int (nI g), .int (nI k)]) (rest := [.ref q1, .int (nI (vNp V)), .ref pa]) ⟨hx, hb, hml, hown, hts⟩ (w_Pack l D ca sa (L ++ [q1]) (va_up f q1 (.inr (2, [.int 0, .int 0, .int 0, .int 0, .null, .null]))) q1 a b g k hk hq1 _) (cwI 4 hts gX4_addPackage_X2_init rfl rfl rfl (hts (.initialized RX2) (by decide +kernel)) (hts (.methodLink RX4 61 yX2_init) (by decide +kernel)) (hts (.instanceMethod yX2_init) (by decide +kernel)) rfl (by decide +kernel) ⟨Nat.le_of_ble_eq_true rfl, Nat.le_of_ble_eq_true rfl⟩) (zmSi hP hD hE) rfl rfl hl.1 rfl (lv_room (Nat.le_of_ble_eq_true rfl)) dX4_addPackage_75 ⟨Nat.le_of_ble_eq_true rfl, Nat.le_of_ble_eq_true rfl⟩) hD hS hA (fun u H locs hu hP hD hS => ?_)
      obtain ⟨L1, f1⟩ := u
      obtain ⟨sA, hA9, g9, u1, u2, u3, u4, u5, u6, u7⟩ := hu
      have hfr : ∀ x e, zat L f x e → zat L1 f1 x e := fun x e h => u7 x e (zat_push h hn_q1) (zat_nL h hn_q1)
      have h4 := hfr _ _ hR.1.1
      have hpA := hfr _ _ hpA0
      have hq1 : zat L1 f1 q1 (.inr (2, [.int (nI a), .int (nI b), .int (nI g), .int (nI k), .ref (hA9 20), .ref sA])) := u1
      have h4f := h4
      have hpAf := hpA
      refine zast hx hb hE hP hD hS 1 2 hpA rfl hq1 rfl hnp (by decide) dX4_addPackage_78 (fun H locs hP hD hS => ?_)
      have h4 := zat_up (b := pa) (e' := (.inl (ca 1, 10, .inr (.inr (.inr (.inr (va_up gp (vNp V) (some q1)))))))) h4 (zat_ne h4 hpA (show (4 : Nat) ≠ 100 by decide))
      have hq1 := zat_up (b := pa) (e' := (.inl (ca 1, 10, .inr (.inr (.inr (.inr (va_up gp (vNp V) (some q1)))))))) hq1 (zat_ne hq1 hpA (show (2 : Nat) ≠ 100 by decide))
      have hpA : zat L1 (va_up f1 pa (.inl (ca 1, 10, .inr (.inr (.inr (.inr (va_up gp (vNp V) (some q1)))))))) pa (.inl (ca 1, 10, .inr (.inr (.inr (.inr (va_up gp (vNp V) (some q1))))))) := zat_self hpA.1
      refine lv_aload_n hx hb dX4_addPackage_79 rfl (lv_at hl 1 rfl) ?_
      refine lv_iload hx hb dX4_addPackage_80 (lv_at hl 0 rfl) ?_
      refine lv_iconst (v := nI 1) hx hb dX4_addPackage_82 (by decide) ?_
      refine lv_iadd hx hb dX4_addPackage_83 ?_
      refine zasi (show ((nI (vNp V)) + (nI 1)) = nI (vNp V + 1) from nI_1 _) ?_
      refine zput (own := RX4) (ci := 4) (v := .int (nI (vNp V + 1))) (ty := .int) (C := RX4) (T := TX4) (N := 6) hx hb hts (by decide +kernel) tyX4 tyX4_ok nmX4 hown hE hP hD hS h4 rfl 3 (by decide) (hts (.fieldLink RX4 25 "LinkResolver" "packCount" "I") (by decide +kernel)) rfl (by decide +kernel) rfl rfl (Nat.le_of_ble_eq_true rfl) dX4_addPackage_84 (fun H locs hP hD hS => ?_)
      have hP : va_P D vwCl (va_pl L1 (va_up (va_up f1 pa (.inl (ca 1, 10, .inr (.inr (.inr (.inr (va_up gp (vNp V) (some q1)))))))) h0 (.inr (4, [.ref ta, .ref pa, .int (nI (vNt V)), .int (nI (vNp V + 1)), .int (nI n), .int (nI (vTd V))])))) H := hP
      have hD : va_D A (va_pl L1 (va_up (va_up f1 pa (.inl (ca 1, 10, .inr (.inr (.inr (.inr (va_up gp (vNp V) (some q1)))))))) h0 (.inr (4, [.ref ta, .ref pa, .int (nI (vNt V)), .int (nI (vNp V + 1)), .int (nI n), .int (nI (vTd V))])))) := hD
      have hpA := zat_up (b := h0) (e' := (.inr (4, [.ref ta, .ref pa, .int (nI (vNt V)), .int (nI (vNp V + 1)), .int (nI n), .int (nI (vTd V))]))) hpA (zat_ne hpA h4 (show (100 : Nat) ≠ 4 by decide))
      have hq1 := zat_up (b := h0) (e' := (.inr (4, [.ref ta, .ref pa, .int (nI (vNt V)), .int (nI (vNp V + 1)), .int (nI n), .int (nI (vTd V))]))) hq1 (zat_ne hq1 h4 (show (2 : Nat) ≠ 4 by decide))
      have h4 : zat L1 (va_up (va_up f1 pa (.inl (ca 1, 10, .inr (.inr (.inr (.inr (va_up gp (vNp V) (some q1)))))))) h0 (.inr (4, [.ref ta, .ref pa, .int (nI (vNt V)), .int (nI (vNp V + 1)), .int (nI n), .int (nI (vTd V))]))) h0 (.inr (4, [.ref ta, .ref pa, .int (nI (vNt V)), .int (nI (vNp V + 1)), .int (nI n), .int (nI (vTd V))])) := zat_self h4.1
      refine lv_iload hx hb dX4_addPackage_87 (lv_at hl 0 rfl) ?_
      refine zwri (L1, (va_up (va_up f1 pa (.inl (ca 1, 10, .inr (.inr (.inr (.inr (va_up gp (vNp V) (some q1)))))))) h0 (.inr (4, [.ref ta, .ref pa, .int (nI (vNt V)), .int (nI (vNp V + 1)), .int (nI n), .int (nI (vTd V))])))) hx hb hr hlocks dX4_addPackage_89 hP hD hS ⟨rfl, ta, pa, aT, va_up aP (vNp V) q1, va_up aS (vNp V) sA, va_up aH (vNp V) hA9, n, ?_⟩
      have hpa1 : sA ≠ pa := fun z => u6 (List.mem_append_left _ (by rw [z]; exact hpA0.1))
      exact zRep_pack hR hpA0 (K' := K + 1) (P := (a, b, g, k)) (fun x e h n1 n2 => zat_up (zat_up (hfr x e h) n2) n1) hnp h4 hpA (va_up_self _ _ _) (fun t ht => va_up_ne _ _ (Nat.ne_of_lt ht)) ⟨⟨hq1, ha, hb2, hg, hk⟩, g9, zat_up (zat_up u2 hpa1) (zat_ne u2 h4f (show (100 : Nat) ≠ 4 by decide)), u3⟩ (fun w hw => ⟨zat_up (zat_up (u4 w hw).1 (zat_ne (u4 w hw).1 hpAf (show (1 : Nat) ≠ 100 by decide))) (zat_ne (u4 w hw).1 h4f (show (1 : Nat) ≠ 4 by decide)), fun z => (u4 w hw).2 (List.mem_append_left _ z)⟩) u5 (fun z => u6 (List.mem_append_left _ z)) (Nat.le_succ K) hK
    · refine lv_iconst (v := nI 1) hx hb dX4_addPackage_70 (by decide) ?_
      refine zasi (show (nI 1) = nI k from c_67.symm) ?_
      refine lv_goto (tgt := 75) hx hb dX4_addPackage_71 (by decide) ?_
      refine zwcv (va_runI (As := [.int (nI a), .int (nI b), .int (nI g), .int (nI k)]) (rest := [.ref q1, .int (nI (vNp V)), .ref pa]) ⟨hx, hb, hml, hown, hts⟩ (w_Pack l D ca sa (L ++ [q1]) (va_up f q1 (.inr (2, [.int 0, .int 0, .int 0, .int 0, .null, .null]))) q1 a b g k hk hq1 _) (cwI 4 hts gX4_addPackage_X2_init rfl rfl rfl (hts (.initialized RX2) (by decide +kernel)) (hts (.methodLink RX4 61 yX2_init) (by decide +kernel)) (hts (.instanceMethod yX2_init) (by decide +kernel)) rfl (by decide +kernel) ⟨Nat.le_of_ble_eq_true rfl, Nat.le_of_ble_eq_true rfl⟩) (zmSi hP hD hE) rfl rfl hl.1 rfl (lv_room (Nat.le_of_ble_eq_true rfl)) dX4_addPackage_75 ⟨Nat.le_of_ble_eq_true rfl, Nat.le_of_ble_eq_true rfl⟩) hD hS hA (fun u H locs hu hP hD hS => ?_)
      obtain ⟨L1, f1⟩ := u
      obtain ⟨sA, hA9, g9, u1, u2, u3, u4, u5, u6, u7⟩ := hu
      have hfr : ∀ x e, zat L f x e → zat L1 f1 x e := fun x e h => u7 x e (zat_push h hn_q1) (zat_nL h hn_q1)
      have h4 := hfr _ _ hR.1.1
      have hpA := hfr _ _ hpA0
      have hq1 : zat L1 f1 q1 (.inr (2, [.int (nI a), .int (nI b), .int (nI g), .int (nI k), .ref (hA9 20), .ref sA])) := u1
      have h4f := h4
      have hpAf := hpA
      refine zast hx hb hE hP hD hS 1 2 hpA rfl hq1 rfl hnp (by decide) dX4_addPackage_78 (fun H locs hP hD hS => ?_)
      have h4 := zat_up (b := pa) (e' := (.inl (ca 1, 10, .inr (.inr (.inr (.inr (va_up gp (vNp V) (some q1)))))))) h4 (zat_ne h4 hpA (show (4 : Nat) ≠ 100 by decide))
      have hq1 := zat_up (b := pa) (e' := (.inl (ca 1, 10, .inr (.inr (.inr (.inr (va_up gp (vNp V) (some q1)))))))) hq1 (zat_ne hq1 hpA (show (2 : Nat) ≠ 100 by decide))
      have hpA : zat L1 (va_up f1 pa (.inl (ca 1, 10, .inr (.inr (.inr (.inr (va_up gp (vNp V) (some q1)))))))) pa (.inl (ca 1, 10, .inr (.inr (.inr (.inr (va_up gp (vNp V) (some q1))))))) := zat_self hpA.1
      refine lv_aload_n hx hb dX4_addPackage_79 rfl (lv_at hl 1 rfl) ?_
      refine lv_iload hx hb dX4_addPackage_80 (lv_at hl 0 rfl) ?_
      refine lv_iconst (v := nI 1) hx hb dX4_addPackage_82 (by decide) ?_
      refine lv_iadd hx hb dX4_addPackage_83 ?_
      refine zasi (show ((nI (vNp V)) + (nI 1)) = nI (vNp V + 1) from nI_1 _) ?_
      refine zput (own := RX4) (ci := 4) (v := .int (nI (vNp V + 1))) (ty := .int) (C := RX4) (T := TX4) (N := 6) hx hb hts (by decide +kernel) tyX4 tyX4_ok nmX4 hown hE hP hD hS h4 rfl 3 (by decide) (hts (.fieldLink RX4 25 "LinkResolver" "packCount" "I") (by decide +kernel)) rfl (by decide +kernel) rfl rfl (Nat.le_of_ble_eq_true rfl) dX4_addPackage_84 (fun H locs hP hD hS => ?_)
      have hP : va_P D vwCl (va_pl L1 (va_up (va_up f1 pa (.inl (ca 1, 10, .inr (.inr (.inr (.inr (va_up gp (vNp V) (some q1)))))))) h0 (.inr (4, [.ref ta, .ref pa, .int (nI (vNt V)), .int (nI (vNp V + 1)), .int (nI n), .int (nI (vTd V))])))) H := hP
      have hD : va_D A (va_pl L1 (va_up (va_up f1 pa (.inl (ca 1, 10, .inr (.inr (.inr (.inr (va_up gp (vNp V) (some q1)))))))) h0 (.inr (4, [.ref ta, .ref pa, .int (nI (vNt V)), .int (nI (vNp V + 1)), .int (nI n), .int (nI (vTd V))])))) := hD
      have hpA := zat_up (b := h0) (e' := (.inr (4, [.ref ta, .ref pa, .int (nI (vNt V)), .int (nI (vNp V + 1)), .int (nI n), .int (nI (vTd V))]))) hpA (zat_ne hpA h4 (show (100 : Nat) ≠ 4 by decide))
      have hq1 := zat_up (b := h0) (e' := (.inr (4, [.ref ta, .ref pa, .int (nI (vNt V)), .int (nI (vNp V + 1)), .int (nI n), .int (nI (vTd V))]))) hq1 (zat_ne hq1 h4 (show (2 : Nat) ≠ 4 by decide))
      have h4 : zat L1 (va_up (va_up f1 pa (.inl (ca 1, 10, .inr (.inr (.inr (.inr (va_up gp (vNp V) (some q1)))))))) h0 (.inr (4, [.ref ta, .ref pa, .int (nI (vNt V)), .int (nI (vNp V + 1)), .int (nI n), .int (nI (vTd V))]))) h0 (.inr (4, [.ref ta, .ref pa, .int (nI (vNt V)), .int (nI (vNp V + 1)), .int (nI n), .int (nI (vTd V))])) := zat_self h4.1
      refine lv_iload hx hb dX4_addPackage_87 (lv_at hl 0 rfl) ?_
      refine zwri (L1, (va_up (va_up f1 pa (.inl (ca 1, 10, .inr (.inr (.inr (.inr (va_up gp (vNp V) (some q1)))))))) h0 (.inr (4, [.ref ta, .ref pa, .int (nI (vNt V)), .int (nI (vNp V + 1)), .int (nI n), .int (nI (vTd V))])))) hx hb hr hlocks dX4_addPackage_89 hP hD hS ⟨rfl, ta, pa, aT, va_up aP (vNp V) q1, va_up aS (vNp V) sA, va_up aH (vNp V) hA9, n, ?_⟩
      have hpa1 : sA ≠ pa := fun z => u6 (List.mem_append_left _ (by rw [z]; exact hpA0.1))
      exact zRep_pack hR hpA0 (K' := K + 1) (P := (a, b, g, k)) (fun x e h n1 n2 => zat_up (zat_up (hfr x e h) n2) n1) hnp h4 hpA (va_up_self _ _ _) (fun t ht => va_up_ne _ _ (Nat.ne_of_lt ht)) ⟨⟨hq1, ha, hb2, hg, hk⟩, g9, zat_up (zat_up u2 hpa1) (zat_ne u2 h4f (show (100 : Nat) ≠ 4 by decide)), u3⟩ (fun w hw => ⟨zat_up (zat_up (u4 w hw).1 (zat_ne (u4 w hw).1 hpAf (show (1 : Nat) ≠ 100 by decide))) (zat_ne (u4 w hw).1 h4f (show (1 : Nat) ≠ 4 by decide)), fun z => (u4 w hw).2 (List.mem_append_left _ z)⟩) u5 (fun z => u6 (List.mem_append_left _ z)) (Nat.le_succ K) hK
  · exact absurd ((nI_ltI (by omega) (by omega)).mpr hnp) c_38

set_option maxHeartbeats 4000000 in
set_option maxRecDepth 100000 in
theorem w_LR (l : Launch) (D : va_G) (ca : Nat → ClassId) (sa : Nat → Nat) (L : List Nat) (f : Nat → va_E) (h : Nat) (h0 : zat L f h (.inr (4, [.null, .null, .int 0, .int 0, .int 0, .int 0]))) (sz : Nat) : Met l yX4_init wsX4_init ({ frames := 8, cells := 2, slots := 30, locals := 320 }) (va_Pc [.ref h] (zMp D (va_pl L f) ca sa sz)) (va_Qv (fun (u : zU) => zR u.1 u.2 ca h 0 (0, 0, 0, (fun _ => (0, 0)), (fun _ => (0, 0, 0, 0)), (fun _ _ => 0), (fun _ _ => []))) (zPost D (va_A (va_pl L f) sz)) (va_A (va_pl L f) sz)) 2 30 (va_A (va_pl L f) sz) := by
  refine Met.ofW (cc := cX4_init) (maxL := 1) (ret := none) (by decide) rfl ?_
  intro p e s m args below meth c s₁ B hml hv
  obtain ⟨rfl, hsz, hP, hD0, hE⟩ := hv
  have hx := B.exec
  have hb := B.bytes
  have hr := B.returns
  have hts := atoms_spec (ws := wsX4_init) B.pre
  have hown : s.vm.findClass RX4 = some m.cls := findClass_of_methodNamed B.named
  have hlocks := B.notSynchronized
  have hl := lv_entry ([.ref h]) (n := 1) (Nat.le_of_ble_eq_true rfl)
  rw [lg_entry_eq]
  generalize (lg_sl ([.ref h]) ++ List.replicate (1 - (lg_sl ([.ref h])).length) Slot.unset).toArray = ls at hl ⊢
  have hl : lv_has ls 1 [(0, .ref h)] := hl
  have hin : meth.name = "<init>" := (name_of_methodNamed B.named B.method).1
  subst hsz
  have hD := hD0.self (sz := s.heap.size)
  generalize hAe : va_A (va_pl L f) s.heap.size = A at hD ⊢
  have hA : ∀ q : Nat, s.heap.size ≤ q → A q := fun q h => by rw [← hAe]; exact Or.inr h
  have hS : va_S A s.heap s.heap [] := va_S.rf
  refine lv_aload_n hx hb dX4_init_0 rfl (lv_at hl 0 rfl) ?_
  refine W.objInit hx hb hown (hts (.methodLink RX4 3 objectInit) (by decide +kernel)) (hts (.instanceMethod objectInit) (by decide +kernel)) (hts (.code objectInit ⟨#[0xb1]⟩ 1 none) (by decide +kernel)) rfl (by rw [hml]; exact hl.1) rfl dX4_init_1 (Nat.le_of_ble_eq_true rfl) (Nat.le_of_ble_eq_true rfl) ?_
  refine W.eq (g2 := F0 m 4 ls []) rfl ?_
  refine lv_aload_n hx hb dX4_init_4 rfl (lv_at hl 0 rfl) ?_
  refine lv_bipush (v := nI 20) hx hb dX4_init_5 (by decide) ?_
  refine znewq hx hb hown (hts (.classLink RX4 9 RX3) (by decide +kernel)) hE.2.1.2.1 hE 0 rfl hP hD hS hA (n := 20) (by decide) (Nat.le_of_ble_eq_true rfl) (Nat.le_of_ble_eq_true rfl) dX4_init_7 (fun q1 H hn_q1 hP hD hS => ?_)
  have h0 := zat_push (e' := (.inl (ca 0, 20, .inr (.inr (.inr (.inr (fun _ => none))))))) h0 hn_q1
  have hq1 : zat (L ++ [q1]) (va_up f q1 (.inl (ca 0, 20, .inr (.inr (.inr (.inr (fun _ => none))))))) q1 (.inl (ca 0, 20, .inr (.inr (.inr (.inr (fun _ => none)))))) := zat_new
  refine zputF (own := RX4) (ci := 4) (v := .ref q1) (ty := (.array (.object "LinkResolver$Title"))) (C := RX4) (T := TX4) (N := 6) hx hb hts (by decide +kernel) tyX4 tyX4_ok nmX4 hown hE hP hD hS h0 rfl 0 (by decide) (hts (.fieldLink RX4 11 "LinkResolver" "titles" "[LLinkResolver$Title;") (by decide +kernel)) rfl hin rfl (by decide +kernel) rfl rfl (Nat.le_of_ble_eq_true rfl) dX4_init_10 (fun H locs hP hD hS => ?_)
  have hP : va_P D vwCl (va_pl (L ++ [q1]) (va_up (va_up f q1 (.inl (ca 0, 20, .inr (.inr (.inr (.inr (fun _ => none))))))) h (.inr (4, [.ref q1, .null, .int 0, .int 0, .int 0, .int 0])))) H := hP
  have hD : va_D A (va_pl (L ++ [q1]) (va_up (va_up f q1 (.inl (ca 0, 20, .inr (.inr (.inr (.inr (fun _ => none))))))) h (.inr (4, [.ref q1, .null, .int 0, .int 0, .int 0, .int 0])))) := hD
  have hq1 := zat_up (b := h) (e' := (.inr (4, [.ref q1, .null, .int 0, .int 0, .int 0, .int 0]))) hq1 (zat_ne hq1 h0 (show (100 : Nat) ≠ 4 by decide))
  have h0 : zat (L ++ [q1]) (va_up (va_up f q1 (.inl (ca 0, 20, .inr (.inr (.inr (.inr (fun _ => none))))))) h (.inr (4, [.ref q1, .null, .int 0, .int 0, .int 0, .int 0]))) h (.inr (4, [.ref q1, .null, .int 0, .int 0, .int 0, .int 0])) := zat_self h0.1
  refine lv_aload_n hx hb dX4_init_13 rfl (lv_at hl 0 rfl) ?_
  refine lv_bipush (v := nI 10) hx hb dX4_init_14 (by decide) ?_
  refine znewq hx hb hown (hts (.classLink RX4 15 RX2) (by decide +kernel)) hE.2.1.2.2.1 hE 1 rfl hP hD hS hA (n := 10) (by decide) (Nat.le_of_ble_eq_true rfl) (Nat.le_of_ble_eq_true rfl) dX4_init_16 (fun q2 H hn_q2 hP hD hS => ?_)
  have h0 := zat_push (e' := (.inl (ca 1, 10, .inr (.inr (.inr (.inr (fun _ => none))))))) h0 hn_q2
  have hq1 := zat_push (e' := (.inl (ca 1, 10, .inr (.inr (.inr (.inr (fun _ => none))))))) hq1 hn_q2
  have hq2 : zat ((L ++ [q1]) ++ [q2]) (va_up (va_up (va_up f q1 (.inl (ca 0, 20, .inr (.inr (.inr (.inr (fun _ => none))))))) h (.inr (4, [.ref q1, .null, .int 0, .int 0, .int 0, .int 0]))) q2 (.inl (ca 1, 10, .inr (.inr (.inr (.inr (fun _ => none))))))) q2 (.inl (ca 1, 10, .inr (.inr (.inr (.inr (fun _ => none)))))) := zat_new
  refine zputF (own := RX4) (ci := 4) (v := .ref q2) (ty := (.array (.object "LinkResolver$Pack"))) (C := RX4) (T := TX4) (N := 6) hx hb hts (by decide +kernel) tyX4 tyX4_ok nmX4 hown hE hP hD hS h0 rfl 1 (by decide) (hts (.fieldLink RX4 17 "LinkResolver" "packs" "[LLinkResolver$Pack;") (by decide +kernel)) rfl hin rfl (by decide +kernel) rfl rfl (Nat.le_of_ble_eq_true rfl) dX4_init_19 (fun H locs hP hD hS => ?_)
  have hP : va_P D vwCl (va_pl ((L ++ [q1]) ++ [q2]) (va_up (va_up (va_up (va_up f q1 (.inl (ca 0, 20, .inr (.inr (.inr (.inr (fun _ => none))))))) h (.inr (4, [.ref q1, .null, .int 0, .int 0, .int 0, .int 0]))) q2 (.inl (ca 1, 10, .inr (.inr (.inr (.inr (fun _ => none))))))) h (.inr (4, [.ref q1, .ref q2, .int 0, .int 0, .int 0, .int 0])))) H := hP
  have hD : va_D A (va_pl ((L ++ [q1]) ++ [q2]) (va_up (va_up (va_up (va_up f q1 (.inl (ca 0, 20, .inr (.inr (.inr (.inr (fun _ => none))))))) h (.inr (4, [.ref q1, .null, .int 0, .int 0, .int 0, .int 0]))) q2 (.inl (ca 1, 10, .inr (.inr (.inr (.inr (fun _ => none))))))) h (.inr (4, [.ref q1, .ref q2, .int 0, .int 0, .int 0, .int 0])))) := hD
  have hq1 := zat_up (b := h) (e' := (.inr (4, [.ref q1, .ref q2, .int 0, .int 0, .int 0, .int 0]))) hq1 (zat_ne hq1 h0 (show (100 : Nat) ≠ 4 by decide))
  have hq2 := zat_up (b := h) (e' := (.inr (4, [.ref q1, .ref q2, .int 0, .int 0, .int 0, .int 0]))) hq2 (zat_ne hq2 h0 (show (100 : Nat) ≠ 4 by decide))
  have h0 : zat ((L ++ [q1]) ++ [q2]) (va_up (va_up (va_up (va_up f q1 (.inl (ca 0, 20, .inr (.inr (.inr (.inr (fun _ => none))))))) h (.inr (4, [.ref q1, .null, .int 0, .int 0, .int 0, .int 0]))) q2 (.inl (ca 1, 10, .inr (.inr (.inr (.inr (fun _ => none))))))) h (.inr (4, [.ref q1, .ref q2, .int 0, .int 0, .int 0, .int 0]))) h (.inr (4, [.ref q1, .ref q2, .int 0, .int 0, .int 0, .int 0])) := zat_self h0.1
  refine lv_aload_n hx hb dX4_init_22 rfl (lv_at hl 0 rfl) ?_
  refine lv_iconst (v := nI 0) hx hb dX4_init_23 (by decide) ?_
  refine zput (own := RX4) (ci := 4) (v := .int (nI 0)) (ty := .int) (C := RX4) (T := TX4) (N := 6) hx hb hts (by decide +kernel) tyX4 tyX4_ok nmX4 hown hE hP hD hS h0 rfl 2 (by decide) (hts (.fieldLink RX4 21 "LinkResolver" "titleCount" "I") (by decide +kernel)) rfl (by decide +kernel) rfl rfl (Nat.le_of_ble_eq_true rfl) dX4_init_24 (fun H locs hP hD hS => ?_)
  have hP : va_P D vwCl (va_pl ((L ++ [q1]) ++ [q2]) (va_up (va_up (va_up (va_up (va_up f q1 (.inl (ca 0, 20, .inr (.inr (.inr (.inr (fun _ => none))))))) h (.inr (4, [.ref q1, .null, .int 0, .int 0, .int 0, .int 0]))) q2 (.inl (ca 1, 10, .inr (.inr (.inr (.inr (fun _ => none))))))) h (.inr (4, [.ref q1, .ref q2, .int 0, .int 0, .int 0, .int 0]))) h (.inr (4, [.ref q1, .ref q2, .int (nI 0), .int 0, .int 0, .int 0])))) H := hP
  have hD : va_D A (va_pl ((L ++ [q1]) ++ [q2]) (va_up (va_up (va_up (va_up (va_up f q1 (.inl (ca 0, 20, .inr (.inr (.inr (.inr (fun _ => none))))))) h (.inr (4, [.ref q1, .null, .int 0, .int 0, .int 0, .int 0]))) q2 (.inl (ca 1, 10, .inr (.inr (.inr (.inr (fun _ => none))))))) h (.inr (4, [.ref q1, .ref q2, .int 0, .int 0, .int 0, .int 0]))) h (.inr (4, [.ref q1, .ref q2, .int (nI 0), .int 0, .int 0, .int 0])))) := hD
  have hq1 := zat_up (b := h) (e' := (.inr (4, [.ref q1, .ref q2, .int (nI 0), .int 0, .int 0, .int 0]))) hq1 (zat_ne hq1 h0 (show (100 : Nat) ≠ 4 by decide))
  have hq2 := zat_up (b := h) (e' := (.inr (4, [.ref q1, .ref q2, .int (nI 0), .int 0, .int 0, .int 0]))) hq2 (zat_ne hq2 h0 (show (100 : Nat) ≠ 4 by decide))
  have h0 : zat ((L ++ [q1]) ++ [q2]) (va_up (va_up (va_up (va_up (va_up f q1 (.inl (ca 0, 20, .inr (.inr (.inr (.inr (fun _ => none))))))) h (.inr (4, [.ref q1, .null, .int 0, .int 0, .int 0, .int 0]))) q2 (.inl (ca 1, 10, .inr (.inr (.inr (.inr (fun _ => none))))))) h (.inr (4, [.ref q1, .ref q2, .int 0, .int 0, .int 0, .int 0]))) h (.inr (4, [.ref q1, .ref q2, .int (nI 0), .int 0, .int 0, .int 0]))) h (.inr (4, [.ref q1, .ref q2, .int (nI 0), .int 0, .int 0, .int 0])) := zat_self h0.1
  refine lv_aload_n hx hb dX4_init_27 rfl (lv_at hl 0 rfl) ?_
  refine lv_iconst (v := nI 0) hx hb dX4_init_28 (by decide) ?_
  refine zput (own := RX4) (ci := 4) (v := .int (nI 0)) (ty := .int) (C := RX4) (T := TX4) (N := 6) hx hb hts (by decide +kernel) tyX4 tyX4_ok nmX4 hown hE hP hD hS h0 rfl 3 (by decide) (hts (.fieldLink RX4 25 "LinkResolver" "packCount" "I") (by decide +kernel)) rfl (by decide +kernel) rfl rfl (Nat.le_of_ble_eq_true rfl) dX4_init_29 (fun H locs hP hD hS => ?_)
  have hP : va_P D vwCl (va_pl ((L ++ [q1]) ++ [q2]) (va_up (va_up (va_up (va_up (va_up (va_up f q1 (.inl (ca 0, 20, .inr (.inr (.inr (.inr (fun _ => none))))))) h (.inr (4, [.ref q1, .null, .int 0, .int 0, .int 0, .int 0]))) q2 (.inl (ca 1, 10, .inr (.inr (.inr (.inr (fun _ => none))))))) h (.inr (4, [.ref q1, .ref q2, .int 0, .int 0, .int 0, .int 0]))) h (.inr (4, [.ref q1, .ref q2, .int (nI 0), .int 0, .int 0, .int 0]))) h (.inr (4, [.ref q1, .ref q2, .int (nI 0), .int (nI 0), .int 0, .int 0])))) H := hP
  have hD : va_D A (va_pl ((L ++ [q1]) ++ [q2]) (va_up (va_up (va_up (va_up (va_up (va_up f q1 (.inl (ca 0, 20, .inr (.inr (.inr (.inr (fun _ => none))))))) h (.inr (4, [.ref q1, .null, .int 0, .int 0, .int 0, .int 0]))) q2 (.inl (ca 1, 10, .inr (.inr (.inr (.inr (fun _ => none))))))) h (.inr (4, [.ref q1, .ref q2, .int 0, .int 0, .int 0, .int 0]))) h (.inr (4, [.ref q1, .ref q2, .int (nI 0), .int 0, .int 0, .int 0]))) h (.inr (4, [.ref q1, .ref q2, .int (nI 0), .int (nI 0), .int 0, .int 0])))) := hD
  have hq1 := zat_up (b := h) (e' := (.inr (4, [.ref q1, .ref q2, .int (nI 0), .int (nI 0), .int 0, .int 0]))) hq1 (zat_ne hq1 h0 (show (100 : Nat) ≠ 4 by decide))
  have hq2 := zat_up (b := h) (e' := (.inr (4, [.ref q1, .ref q2, .int (nI 0), .int (nI 0), .int 0, .int 0]))) hq2 (zat_ne hq2 h0 (show (100 : Nat) ≠ 4 by decide))
  have h0 : zat ((L ++ [q1]) ++ [q2]) (va_up (va_up (va_up (va_up (va_up (va_up f q1 (.inl (ca 0, 20, .inr (.inr (.inr (.inr (fun _ => none))))))) h (.inr (4, [.ref q1, .null, .int 0, .int 0, .int 0, .int 0]))) q2 (.inl (ca 1, 10, .inr (.inr (.inr (.inr (fun _ => none))))))) h (.inr (4, [.ref q1, .ref q2, .int 0, .int 0, .int 0, .int 0]))) h (.inr (4, [.ref q1, .ref q2, .int (nI 0), .int 0, .int 0, .int 0]))) h (.inr (4, [.ref q1, .ref q2, .int (nI 0), .int (nI 0), .int 0, .int 0]))) h (.inr (4, [.ref q1, .ref q2, .int (nI 0), .int (nI 0), .int 0, .int 0])) := zat_self h0.1
  refine lv_aload_n hx hb dX4_init_32 rfl (lv_at hl 0 rfl) ?_
  refine lv_iconst (v := nI 0) hx hb dX4_init_33 (by decide) ?_
  refine zput (own := RX4) (ci := 4) (v := .int (nI 0)) (ty := .int) (C := RX4) (T := TX4) (N := 6) hx hb hts (by decide +kernel) tyX4 tyX4_ok nmX4 hown hE hP hD hS h0 rfl 4 (by decide) (hts (.fieldLink RX4 28 "LinkResolver" "changeCount" "I") (by decide +kernel)) rfl (by decide +kernel) rfl rfl (Nat.le_of_ble_eq_true rfl) dX4_init_34 (fun H locs hP hD hS => ?_)
  have hP : va_P D vwCl (va_pl ((L ++ [q1]) ++ [q2]) (va_up (va_up (va_up (va_up (va_up (va_up (va_up f q1 (.inl (ca 0, 20, .inr (.inr (.inr (.inr (fun _ => none))))))) h (.inr (4, [.ref q1, .null, .int 0, .int 0, .int 0, .int 0]))) q2 (.inl (ca 1, 10, .inr (.inr (.inr (.inr (fun _ => none))))))) h (.inr (4, [.ref q1, .ref q2, .int 0, .int 0, .int 0, .int 0]))) h (.inr (4, [.ref q1, .ref q2, .int (nI 0), .int 0, .int 0, .int 0]))) h (.inr (4, [.ref q1, .ref q2, .int (nI 0), .int (nI 0), .int 0, .int 0]))) h (.inr (4, [.ref q1, .ref q2, .int (nI 0), .int (nI 0), .int (nI 0), .int 0])))) H := hP
  have hD : va_D A (va_pl ((L ++ [q1]) ++ [q2]) (va_up (va_up (va_up (va_up (va_up (va_up (va_up f q1 (.inl (ca 0, 20, .inr (.inr (.inr (.inr (fun _ => none))))))) h (.inr (4, [.ref q1, .null, .int 0, .int 0, .int 0, .int 0]))) q2 (.inl (ca 1, 10, .inr (.inr (.inr (.inr (fun _ => none))))))) h (.inr (4, [.ref q1, .ref q2, .int 0, .int 0, .int 0, .int 0]))) h (.inr (4, [.ref q1, .ref q2, .int (nI 0), .int 0, .int 0, .int 0]))) h (.inr (4, [.ref q1, .ref q2, .int (nI 0), .int (nI 0), .int 0, .int 0]))) h (.inr (4, [.ref q1, .ref q2, .int (nI 0), .int (nI 0), .int (nI 0), .int 0])))) := hD
  have hq1 := zat_up (b := h) (e' := (.inr (4, [.ref q1, .ref q2, .int (nI 0), .int (nI 0), .int (nI 0), .int 0]))) hq1 (zat_ne hq1 h0 (show (100 : Nat) ≠ 4 by decide))
  have hq2 := zat_up (b := h) (e' := (.inr (4, [.ref q1, .ref q2, .int (nI 0), .int (nI 0), .int (nI 0), .int 0]))) hq2 (zat_ne hq2 h0 (show (100 : Nat) ≠ 4 by decide))
  have h0 : zat ((L ++ [q1]) ++ [q2]) (va_up (va_up (va_up (va_up (va_up (va_up (va_up f q1 (.inl (ca 0, 20, .inr (.inr (.inr (.inr (fun _ => none))))))) h (.inr (4, [.ref q1, .null, .int 0, .int 0, .int 0, .int 0]))) q2 (.inl (ca 1, 10, .inr (.inr (.inr (.inr (fun _ => none))))))) h (.inr (4, [.ref q1, .ref q2, .int 0, .int 0, .int 0, .int 0]))) h (.inr (4, [.ref q1, .ref q2, .int (nI 0), .int 0, .int 0, .int 0]))) h (.inr (4, [.ref q1, .ref q2, .int (nI 0), .int (nI 0), .int 0, .int 0]))) h (.inr (4, [.ref q1, .ref q2, .int (nI 0), .int (nI 0), .int (nI 0), .int 0]))) h (.inr (4, [.ref q1, .ref q2, .int (nI 0), .int (nI 0), .int (nI 0), .int 0])) := zat_self h0.1
  refine lv_aload_n hx hb dX4_init_37 rfl (lv_at hl 0 rfl) ?_
  refine lv_iconst (v := nI 0) hx hb dX4_init_38 (by decide) ?_
  refine zput (own := RX4) (ci := 4) (v := .int (nI 0)) (ty := .int) (C := RX4) (T := TX4) (N := 6) hx hb hts (by decide +kernel) tyX4 tyX4_ok nmX4 hown hE hP hD hS h0 rfl 5 (by decide) (hts (.fieldLink RX4 31 "LinkResolver" "currentDay" "I") (by decide +kernel)) rfl (by decide +kernel) rfl rfl (Nat.le_of_ble_eq_true rfl) dX4_init_39 (fun H locs hP hD hS => ?_)
  have hP : va_P D vwCl (va_pl ((L ++ [q1]) ++ [q2]) (va_up (va_up (va_up (va_up (va_up (va_up (va_up (va_up f q1 (.inl (ca 0, 20, .inr (.inr (.inr (.inr (fun _ => none))))))) h (.inr (4, [.ref q1, .null, .int 0, .int 0, .int 0, .int 0]))) q2 (.inl (ca 1, 10, .inr (.inr (.inr (.inr (fun _ => none))))))) h (.inr (4, [.ref q1, .ref q2, .int 0, .int 0, .int 0, .int 0]))) h (.inr (4, [.ref q1, .ref q2, .int (nI 0), .int 0, .int 0, .int 0]))) h (.inr (4, [.ref q1, .ref q2, .int (nI 0), .int (nI 0), .int 0, .int 0]))) h (.inr (4, [.ref q1, .ref q2, .int (nI 0), .int (nI 0), .int (nI 0), .int 0]))) h (.inr (4, [.ref q1, .ref q2, .int (nI 0), .int (nI 0), .int (nI 0), .int (nI 0)])))) H := hP
  have hD : va_D A (va_pl ((L ++ [q1]) ++ [q2]) (va_up (va_up (va_up (va_up (va_up (va_up (va_up (va_up f q1 (.inl (ca 0, 20, .inr (.inr (.inr (.inr (fun _ => none))))))) h (.inr (4, [.ref q1, .null, .int 0, .int 0, .int 0, .int 0]))) q2 (.inl (ca 1, 10, .inr (.inr (.inr (.inr (fun _ => none))))))) h (.inr (4, [.ref q1, .ref q2, .int 0, .int 0, .int 0, .int 0]))) h (.inr (4, [.ref q1, .ref q2, .int (nI 0), .int 0, .int 0, .int 0]))) h (.inr (4, [.ref q1, .ref q2, .int (nI 0), .int (nI 0), .int 0, .int 0]))) h (.inr (4, [.ref q1, .ref q2, .int (nI 0), .int (nI 0), .int (nI 0), .int 0]))) h (.inr (4, [.ref q1, .ref q2, .int (nI 0), .int (nI 0), .int (nI 0), .int (nI 0)])))) := hD
  have hq1 := zat_up (b := h) (e' := (.inr (4, [.ref q1, .ref q2, .int (nI 0), .int (nI 0), .int (nI 0), .int (nI 0)]))) hq1 (zat_ne hq1 h0 (show (100 : Nat) ≠ 4 by decide))
  have hq2 := zat_up (b := h) (e' := (.inr (4, [.ref q1, .ref q2, .int (nI 0), .int (nI 0), .int (nI 0), .int (nI 0)]))) hq2 (zat_ne hq2 h0 (show (100 : Nat) ≠ 4 by decide))
  have h0 : zat ((L ++ [q1]) ++ [q2]) (va_up (va_up (va_up (va_up (va_up (va_up (va_up (va_up f q1 (.inl (ca 0, 20, .inr (.inr (.inr (.inr (fun _ => none))))))) h (.inr (4, [.ref q1, .null, .int 0, .int 0, .int 0, .int 0]))) q2 (.inl (ca 1, 10, .inr (.inr (.inr (.inr (fun _ => none))))))) h (.inr (4, [.ref q1, .ref q2, .int 0, .int 0, .int 0, .int 0]))) h (.inr (4, [.ref q1, .ref q2, .int (nI 0), .int 0, .int 0, .int 0]))) h (.inr (4, [.ref q1, .ref q2, .int (nI 0), .int (nI 0), .int 0, .int 0]))) h (.inr (4, [.ref q1, .ref q2, .int (nI 0), .int (nI 0), .int (nI 0), .int 0]))) h (.inr (4, [.ref q1, .ref q2, .int (nI 0), .int (nI 0), .int (nI 0), .int (nI 0)]))) h (.inr (4, [.ref q1, .ref q2, .int (nI 0), .int (nI 0), .int (nI 0), .int (nI 0)])) := zat_self h0.1
  refine zwrv (((L ++ [q1]) ++ [q2]), (va_up (va_up (va_up (va_up (va_up (va_up (va_up (va_up f q1 (.inl (ca 0, 20, .inr (.inr (.inr (.inr (fun _ => none))))))) h (.inr (4, [.ref q1, .null, .int 0, .int 0, .int 0, .int 0]))) q2 (.inl (ca 1, 10, .inr (.inr (.inr (.inr (fun _ => none))))))) h (.inr (4, [.ref q1, .ref q2, .int 0, .int 0, .int 0, .int 0]))) h (.inr (4, [.ref q1, .ref q2, .int (nI 0), .int 0, .int 0, .int 0]))) h (.inr (4, [.ref q1, .ref q2, .int (nI 0), .int (nI 0), .int 0, .int 0]))) h (.inr (4, [.ref q1, .ref q2, .int (nI 0), .int (nI 0), .int (nI 0), .int 0]))) h (.inr (4, [.ref q1, .ref q2, .int (nI 0), .int (nI 0), .int (nI 0), .int (nI 0)])))) hx hb hr hlocks dX4_init_42 hP hD hS ⟨q1, q2, fun _ => 0, fun _ => 0, fun _ => 0, fun _ _ => 0, 0, ?_⟩
  refine ⟨⟨h0, by decide, by decide, by decide, by decide, by decide⟩, ⟨_, hq1, fun t ht => absurd ht (Nat.not_lt_zero _)⟩, ⟨_, hq2, fun t ht => absurd ht (Nat.not_lt_zero _)⟩, fun q q2 w w2 hq => absurd hq (Nat.not_lt_zero _), fun z => ?_, fun q hq => absurd hq (Nat.not_lt_zero _)⟩
  exact hn_q2 (by rw [← z]; exact List.mem_append_right _ List.mem_cons_self)
