/-! the law: each call, both sides -/
theorem iB_of {v : Int32} {lo hi : Nat} (hhi : hi < 2 ^ 31) (hlo : lo ≤ hi) (h : iB v (nI lo) (nI hi) = true) : ∃ a, lo ≤ a ∧ a ≤ hi ∧ v = nI a := by
  unfold iB at h
  rw [Bool.and_eq_true, decide_eq_true_iff, decide_eq_true_iff] at h
  obtain ⟨h1, h2⟩ := h
  obtain ⟨a, ha, rfl⟩ := nI_of (x := v) (fun z => h1 (by rw [Int32.lt_iff_toInt_lt] at z ⊢; rw [nI_toInt (by omega)]; rw [Int32.toInt_zero] at z; omega))
  exact ⟨a, Nat.not_lt.mp (fun z => h1 ((nI_ltI ha (by omega)).mpr z)), Nat.not_lt.mp (fun z => h2 ((nI_ltI hhi ha).mpr z)), rfl⟩
theorem iT_of {n : Nat} {t : Int32} (hn : n ≤ 20) (h : iT n t = true) : ∃ a, a < n ∧ t = nI a := by
  unfold iT at h
  rw [Bool.and_eq_true, decide_eq_true_iff, decide_eq_true_iff] at h
  obtain ⟨a, ha, rfl⟩ := nI_of h.1
  exact ⟨a, Nat.not_le.mp (fun z => h.2 ((nI_leI (by omega) ha).mpr z)), rfl⟩

set_option maxHeartbeats 4000000 in
set_option maxRecDepth 100000 in
theorem op_addTitle {p : Program} {l : Launch} {e : Env} {s : State} {m : MethodId} {below : List Frame} {meth : Method} {c : Code} {b Ln : Nat} {xs : Nat → Int32} {D : va_G} {ca : Nat → ClassId} {sa : Nat → Nat} (C : lw_C p l s m meth c b Ln xs D ca sa) {h0 hm ob : Nat} {ad : Nat → Nat} {k : Nat} {H : Heap} {locs : List Loc} {ls : Array Slot} {V : zV} {nc : Nat} {M : Nat → Nat → Int32} {th : Int32} {L : List Nat} {f : Nat → va_E} {g : Nat → Int64} (S : lw_S D ca s h0 hm ob b ad k (6 * k) H locs ls V nc M th L f g) (hk : k < 512) (hi : 6 * k + 6 ≤ Ln) {cells slots : Nat} {Q : State → Prop} (hroom : cells + 24 ≤ 601024 ∧ slots + 100 ≤ 7293034) (kk : ∀ (V' : zV) (nc' : Nat) (M' : Nat → Nat → Int32) (th' : Int32) (L' : List Nat) (f' : Nat → va_E) (g' : Nat → Int64) (H1 : Heap) (locs1 : List Loc) (ls1 : Array Slot), lw_S D ca s h0 hm ob b ad (k + 1) (6 * k) H1 locs1 ls1 V' nc' M' th' L' f' g' → W p l e room_1 s m #[Value.ref b] below meth c H1 locs1 (cells + 24) (slots + 100) Q (F0 m 1551 ls1 [])) : W p l e room_1 s m #[Value.ref b] below meth c H locs cells slots Q (F0 m 132 ls []) := by
  have S0 := S
  obtain ⟨I, ⟨ta, pa, aT, aP, aS, aH, n9, hR⟩, -⟩ := S0
  have hl0 := C.2.2.2.2.2.2.2
  have hup : zR L f ca h0 (k + 1) V := ⟨ta, pa, aT, aP, aS, aH, n9, zRep_up hR (Nat.le_succ k) (by omega)⟩
  have hIu := i_up I hk
  obtain ⟨hn1, -, htd, hnt, hnp⟩ := I.1
  have hnc : nc ≤ 600 := by omega
  generalize e1 : xs (6 * k + 1) = v1
  generalize e2 : xs (6 * k + 2) = v2
  cases h : (iB v1 (nI 0) (nI 55) && iB v2 (nI 1) (nI 4)) with
  | false =>
    exact st_addTitle_x C S hk hi hroom e1 e2 (r9 := nI 1) (by decide) (by decide) (Or.inl rfl) (fun sz => L_addTitle_1 l hl0 D ca sa L f h0 ta pa aT aP aS aH n9 k V hR v1 v2 h ob g sz) (fun sz => m_addTitle_1 l D ca sa hm ad _ _ _ _ _ _ v1 v2 h sz) kk
  | true =>
    have hh := h
    rw [Bool.and_eq_true] at hh
    by_cases hf : vNt V = 20
    · exact st_addTitle_x C S hk hi hroom e1 e2 (r9 := nI 2) (by decide) (by decide) (Or.inr rfl) (fun sz => L_addTitle_2 l hl0 D ca sa L f h0 ta pa aT aP aS aH n9 k V hR v1 v2 hh.1 hh.2 hf ob g sz) (fun sz => m_addTitle_2 l D ca sa hm ad _ _ _ _ _ _ v1 v2 hh.1 hh.2 hf sz) kk
    · obtain ⟨a, -, ha, ea⟩ := iB_of (by decide) (by decide) hh.1
      obtain ⟨b9, hb1, hb4, eb⟩ := iB_of (by decide) (by decide) hh.2
      subst ea; subst eb
      exact st_addTitle_ok C S hk hi hroom e1 e2 (by decide) (by decide) (fun x u h => h) (i_title I hk ha hb1 hb4 (by omega)) (fun sz => L_addTitle_ok l D ca sa L f h0 ta pa aT aP aS aH n9 k V hR a b9 ha hb1 hb4 (by omega) hk ob g sz) (fun sz => m_addTitle l D ca sa hm ad _ _ _ _ _ _ a b9 ha hb1 hb4 (by omega) sz) kk

set_option maxHeartbeats 4000000 in
set_option maxRecDepth 100000 in
theorem op_yearOf {p : Program} {l : Launch} {e : Env} {s : State} {m : MethodId} {below : List Frame} {meth : Method} {c : Code} {b Ln : Nat} {xs : Nat → Int32} {D : va_G} {ca : Nat → ClassId} {sa : Nat → Nat} (C : lw_C p l s m meth c b Ln xs D ca sa) {h0 hm ob : Nat} {ad : Nat → Nat} {k : Nat} {H : Heap} {locs : List Loc} {ls : Array Slot} {V : zV} {nc : Nat} {M : Nat → Nat → Int32} {th : Int32} {L : List Nat} {f : Nat → va_E} {g : Nat → Int64} (S : lw_S D ca s h0 hm ob b ad k (6 * k) H locs ls V nc M th L f g) (hk : k < 512) (hi : 6 * k + 6 ≤ Ln) {cells slots : Nat} {Q : State → Prop} (hroom : cells + 24 ≤ 601024 ∧ slots + 100 ≤ 7293034) (kk : ∀ (V' : zV) (nc' : Nat) (M' : Nat → Nat → Int32) (th' : Int32) (L' : List Nat) (f' : Nat → va_E) (g' : Nat → Int64) (H1 : Heap) (locs1 : List Loc) (ls1 : Array Slot), lw_S D ca s h0 hm ob b ad (k + 1) (6 * k) H1 locs1 ls1 V' nc' M' th' L' f' g' → W p l e room_1 s m #[Value.ref b] below meth c H1 locs1 (cells + 24) (slots + 100) Q (F0 m 1551 ls1 [])) : W p l e room_1 s m #[Value.ref b] below meth c H locs cells slots Q (F0 m 200 ls []) := by
  have S0 := S
  obtain ⟨I, ⟨ta, pa, aT, aP, aS, aH, n9, hR⟩, -⟩ := S0
  have hl0 := C.2.2.2.2.2.2.2
  have hup : zR L f ca h0 (k + 1) V := ⟨ta, pa, aT, aP, aS, aH, n9, zRep_up hR (Nat.le_succ k) (by omega)⟩
  have hIu := i_up I hk
  obtain ⟨hn1, -, htd, hnt, hnp⟩ := I.1
  have hnc : nc ≤ 600 := by omega
  generalize e1 : xs (6 * k + 1) = v1
  generalize e2 : xs (6 * k + 2) = v2
  cases h : (iT (vNt V) v1) with
  | false =>
    exact st_yearOf_x C S hk hi hroom e1 e2 (r9 := nI 1) (by decide) (by decide) (Or.inl rfl) (fun sz => L_yearOf_1 l hl0 D ca sa L f h0 ta pa aT aP aS aH n9 k V hR v1 v2 h ob g sz) (fun sz => m_yearOf_1 l D ca sa hm ad _ _ _ _ _ _ v1 v2 h sz) kk
  | true =>
    obtain ⟨t, ht, et⟩ := iT_of hnt h
    subst et
    obtain ⟨f0, f1, f2, f3, f4⟩ := I.2.1 t ht
    cases h2 : (iB v2 (nI 1) (nI ((56 - (vT V t).1) * (vT V t).2))) with
    | false =>
      exact st_yearOf_x C S hk hi hroom e1 e2 (r9 := nI 2) (by decide) (by decide) (Or.inr rfl) (fun sz => L_yearOf_2 l hl0 D ca sa L f h0 ta pa aT aP aS aH n9 k V hR t ht v2 h2 ob g sz) (fun sz => m_yearOf_2 l D ca sa hm ad _ _ _ _ _ _ t _ _ ht hnt f0 f1 f2 f3 f4 v2 h2 sz) kk
    | true =>
      have hbd := zvolb (vT V t).1 (vT V t).2 56 (Nat.le_refl _) f4
      obtain ⟨v, hv1, hv2, ev⟩ := iB_of (by omega) (by
        have : 1 ≤ 56 - (vT V t).1 := by omega
        exact Nat.le_trans f3 (Nat.le_mul_of_pos_left _ this)) h2
      subst ev
      exact st_yearOf_ok C S hk hi hroom e1 e2 (by decide) (by decide) (P := fun x9 u => x9 = _ ∧ u = (L, f)) (fun x u h => ⟨h.1, by rw [h.2]; exact hup⟩) (hIu) (fun sz => L_yearOf_ok l D ca sa L f h0 ta pa aT aP aS aH n9 k V hR t ht v hv1 hv2 ob g sz) (fun sz => m_yearOf l D ca sa hm ad _ _ _ _ _ _ t _ _ ht hnt f0 f1 f2 f3 f4 v hv1 hv2 sz) kk

set_option maxHeartbeats 4000000 in
set_option maxRecDepth 100000 in
theorem op_volumeOf {p : Program} {l : Launch} {e : Env} {s : State} {m : MethodId} {below : List Frame} {meth : Method} {c : Code} {b Ln : Nat} {xs : Nat → Int32} {D : va_G} {ca : Nat → ClassId} {sa : Nat → Nat} (C : lw_C p l s m meth c b Ln xs D ca sa) {h0 hm ob : Nat} {ad : Nat → Nat} {k : Nat} {H : Heap} {locs : List Loc} {ls : Array Slot} {V : zV} {nc : Nat} {M : Nat → Nat → Int32} {th : Int32} {L : List Nat} {f : Nat → va_E} {g : Nat → Int64} (S : lw_S D ca s h0 hm ob b ad k (6 * k) H locs ls V nc M th L f g) (hk : k < 512) (hi : 6 * k + 6 ≤ Ln) {cells slots : Nat} {Q : State → Prop} (hroom : cells + 24 ≤ 601024 ∧ slots + 100 ≤ 7293034) (kk : ∀ (V' : zV) (nc' : Nat) (M' : Nat → Nat → Int32) (th' : Int32) (L' : List Nat) (f' : Nat → va_E) (g' : Nat → Int64) (H1 : Heap) (locs1 : List Loc) (ls1 : Array Slot), lw_S D ca s h0 hm ob b ad (k + 1) (6 * k) H1 locs1 ls1 V' nc' M' th' L' f' g' → W p l e room_1 s m #[Value.ref b] below meth c H1 locs1 (cells + 24) (slots + 100) Q (F0 m 1551 ls1 [])) : W p l e room_1 s m #[Value.ref b] below meth c H locs cells slots Q (F0 m 268 ls []) := by
  have S0 := S
  obtain ⟨I, ⟨ta, pa, aT, aP, aS, aH, n9, hR⟩, -⟩ := S0
  have hl0 := C.2.2.2.2.2.2.2
  have hup : zR L f ca h0 (k + 1) V := ⟨ta, pa, aT, aP, aS, aH, n9, zRep_up hR (Nat.le_succ k) (by omega)⟩
  have hIu := i_up I hk
  obtain ⟨hn1, -, htd, hnt, hnp⟩ := I.1
  have hnc : nc ≤ 600 := by omega
  generalize e1 : xs (6 * k + 1) = v1
  generalize e2 : xs (6 * k + 2) = v2
  cases h : (iT (vNt V) v1) with
  | false =>
    exact st_volumeOf_x C S hk hi hroom e1 e2 (r9 := nI 1) (by decide) (by decide) (Or.inl rfl) (fun sz => L_volumeOf_1 l hl0 D ca sa L f h0 ta pa aT aP aS aH n9 k V hR v1 v2 h ob g sz) (fun sz => m_volumeOf_1 l D ca sa hm ad _ _ _ _ _ _ v1 v2 h sz) kk
  | true =>
    obtain ⟨t, ht, et⟩ := iT_of hnt h
    subst et
    obtain ⟨f0, f1, f2, f3, f4⟩ := I.2.1 t ht
    cases h2 : (iB v2 (nI (vT V t).1) (nI 55)) with
    | false =>
      exact st_volumeOf_x C S hk hi hroom e1 e2 (r9 := nI 2) (by decide) (by decide) (Or.inr rfl) (fun sz => L_volumeOf_2 l hl0 D ca sa L f h0 ta pa aT aP aS aH n9 k V hR t ht v2 h2 ob g sz) (fun sz => m_volumeOf_2 l D ca sa hm ad _ _ _ _ _ _ t _ ht hnt f0 v2 h2 sz) kk
    | true =>
      obtain ⟨y, hy1, hy2, ey⟩ := iB_of (by decide) f2 h2
      subst ey
      exact st_volumeOf_ok C S hk hi hroom e1 e2 (by decide) (by decide) (P := fun x9 u => x9 = _ ∧ u = (L, f)) (fun x u h => ⟨h.1, by rw [h.2]; exact hup⟩) (hIu) (fun sz => L_volumeOf_ok l D ca sa L f h0 ta pa aT aP aS aH n9 k V hR t ht y hy1 hy2 ob g sz) (fun sz => m_volumeOf l D ca sa hm ad _ _ _ _ _ _ t _ _ ht hnt f0 f1 f2 f3 f4 y hy1 hy2 sz) kk

set_option maxHeartbeats 4000000 in
set_option maxRecDepth 100000 in
theorem op_addPackage {p : Program} {l : Launch} {e : Env} {s : State} {m : MethodId} {below : List Frame} {meth : Method} {c : Code} {b Ln : Nat} {xs : Nat → Int32} {D : va_G} {ca : Nat → ClassId} {sa : Nat → Nat} (C : lw_C p l s m meth c b Ln xs D ca sa) {h0 hm ob : Nat} {ad : Nat → Nat} {k : Nat} {H : Heap} {locs : List Loc} {ls : Array Slot} {V : zV} {nc : Nat} {M : Nat → Nat → Int32} {th : Int32} {L : List Nat} {f : Nat → va_E} {g : Nat → Int64} (S : lw_S D ca s h0 hm ob b ad k (6 * k) H locs ls V nc M th L f g) (hk : k < 512) (hi : 6 * k + 6 ≤ Ln) {cells slots : Nat} {Q : State → Prop} (hroom : cells + 24 ≤ 601024 ∧ slots + 100 ≤ 7293034) (kk : ∀ (V' : zV) (nc' : Nat) (M' : Nat → Nat → Int32) (th' : Int32) (L' : List Nat) (f' : Nat → va_E) (g' : Nat → Int64) (H1 : Heap) (locs1 : List Loc) (ls1 : Array Slot), lw_S D ca s h0 hm ob b ad (k + 1) (6 * k) H1 locs1 ls1 V' nc' M' th' L' f' g' → W p l e room_1 s m #[Value.ref b] below meth c H1 locs1 (cells + 24) (slots + 100) Q (F0 m 1551 ls1 [])) : W p l e room_1 s m #[Value.ref b] below meth c H locs cells slots Q (F0 m 336 ls []) := by
  have S0 := S
  obtain ⟨I, ⟨ta, pa, aT, aP, aS, aH, n9, hR⟩, -⟩ := S0
  have hl0 := C.2.2.2.2.2.2.2
  have hup : zR L f ca h0 (k + 1) V := ⟨ta, pa, aT, aP, aS, aH, n9, zRep_up hR (Nat.le_succ k) (by omega)⟩
  have hIu := i_up I hk
  obtain ⟨hn1, -, htd, hnt, hnp⟩ := I.1
  have hnc : nc ≤ 600 := by omega
  generalize e1 : xs (6 * k + 1) = v1
  generalize e2 : xs (6 * k + 2) = v2
  generalize e3 : xs (6 * k + 3) = v3
  generalize e4 : xs (6 * k + 4) = v4
  cases h : (iB v1 (nI 0) (nI 1000) && (iB v2 (nI 0) (nI 2) && (iB v3 (nI 0) (nI 15) && iB v4 (nI 0) (nI 1)))) with
  | false =>
    exact st_addPackage_x C S hk hi hroom e1 e2 e3 e4 (r9 := nI 1) (by decide) (by decide) (Or.inl rfl) (fun sz => L_addPackage_1 l hl0 D ca sa L f h0 ta pa aT aP aS aH n9 k V hR v1 v2 v3 v4 h ob g sz) (fun sz => m_addPackage_1 l D ca sa hm ad _ _ _ _ _ _ v1 v2 v3 v4 h sz) kk
  | true =>
    have hh := h
    rw [Bool.and_eq_true, Bool.and_eq_true, Bool.and_eq_true] at hh
    by_cases hf : vNp V = 10
    · exact st_addPackage_x C S hk hi hroom e1 e2 e3 e4 (r9 := nI 2) (by decide) (by decide) (Or.inr rfl) (fun sz => L_addPackage_2 l hl0 D ca sa L f h0 ta pa aT aP aS aH n9 k V hR v1 v2 v3 v4 h hf ob g sz) (fun sz => m_addPackage_2 l D ca sa hm ad _ _ _ _ _ _ v1 v2 v3 v4 h hf sz) kk
    · obtain ⟨a, -, ha, ea⟩ := iB_of (by decide) (by decide) hh.1
      obtain ⟨b9, -, hb, eb⟩ := iB_of (by decide) (by decide) hh.2.1
      obtain ⟨g9, -, hg, eg⟩ := iB_of (by decide) (by decide) hh.2.2.1
      obtain ⟨k9, -, hk9, ek⟩ := iB_of (by decide) (by decide) hh.2.2.2
      subst ea; subst eb; subst eg; subst ek
      exact st_addPackage_ok C S hk hi hroom e1 e2 e3 e4 (by decide) (by decide) (fun x u h => h) (i_pack I hk ha hb hg hk9 (by omega)) (fun sz => L_addPackage_ok l D ca sa L f h0 ta pa aT aP aS aH n9 k V hR a b9 g9 k9 ha hb hg hk9 (by omega) hk ob g sz) (fun sz => m_addPackage l D ca sa hm ad _ _ _ _ _ _ a b9 g9 k9 ha hb hg hk9 (by omega) sz) kk

set_option maxHeartbeats 4000000 in
set_option maxRecDepth 100000 in
theorem op_subscribe {p : Program} {l : Launch} {e : Env} {s : State} {m : MethodId} {below : List Frame} {meth : Method} {c : Code} {b Ln : Nat} {xs : Nat → Int32} {D : va_G} {ca : Nat → ClassId} {sa : Nat → Nat} (C : lw_C p l s m meth c b Ln xs D ca sa) {h0 hm ob : Nat} {ad : Nat → Nat} {k : Nat} {H : Heap} {locs : List Loc} {ls : Array Slot} {V : zV} {nc : Nat} {M : Nat → Nat → Int32} {th : Int32} {L : List Nat} {f : Nat → va_E} {g : Nat → Int64} (S : lw_S D ca s h0 hm ob b ad k (6 * k) H locs ls V nc M th L f g) (hk : k < 512) (hi : 6 * k + 6 ≤ Ln) {cells slots : Nat} {Q : State → Prop} (hroom : cells + 24 ≤ 601024 ∧ slots + 100 ≤ 7293034) (kk : ∀ (V' : zV) (nc' : Nat) (M' : Nat → Nat → Int32) (th' : Int32) (L' : List Nat) (f' : Nat → va_E) (g' : Nat → Int64) (H1 : Heap) (locs1 : List Loc) (ls1 : Array Slot), lw_S D ca s h0 hm ob b ad (k + 1) (6 * k) H1 locs1 ls1 V' nc' M' th' L' f' g' → W p l e room_1 s m #[Value.ref b] below meth c H1 locs1 (cells + 24) (slots + 100) Q (F0 m 1551 ls1 [])) : W p l e room_1 s m #[Value.ref b] below meth c H locs cells slots Q (F0 m 428 ls []) := by
  have S0 := S
  obtain ⟨I, ⟨ta, pa, aT, aP, aS, aH, n9, hR⟩, -⟩ := S0
  have hl0 := C.2.2.2.2.2.2.2
  have hup : zR L f ca h0 (k + 1) V := ⟨ta, pa, aT, aP, aS, aH, n9, zRep_up hR (Nat.le_succ k) (by omega)⟩
  have hIu := i_up I hk
  obtain ⟨hn1, -, htd, hnt, hnp⟩ := I.1
  have hnc : nc ≤ 600 := by omega
  generalize e1 : xs (6 * k + 1) = v1
  generalize e2 : xs (6 * k + 2) = v2
  cases h : (iT (vNp V) v1) with
  | false =>
    exact st_subscribe_x C S hk hi hroom e1 e2 (rfl : decide (¬ v2 = 0) = decide (¬ v2 = 0)) (r9 := nI 1) (by decide) (by decide) (Or.inl rfl) (fun sz => L_subscribe_1 l hl0 D ca sa L f h0 ta pa aT aP aS aH n9 k V hR v1 _ h ob g sz) (fun sz => m_subscribe_1 l D ca sa hm ad _ _ _ _ _ _ v1 _ h sz) kk
  | true =>
    obtain ⟨q, hq, eq⟩ := iT_of (by omega) h
    subst eq
    exact st_subscribe_ok C S hk hi hroom e1 e2 (rfl : decide (¬ v2 = 0) = decide (¬ v2 = 0)) (by decide) (by decide) (fun x u h => h) (i_subs I hk hq _) (fun sz => L_subscribe_ok l D ca sa L f h0 ta pa aT aP aS aH n9 k V hR q _ hq hk ob g sz) (fun sz => by
          have h := m_subscribe l D ca sa hm ad th (vTd V) (vNt V) (vNp V) nc M q (decide (¬ v2 = 0)) hq hnp hnc sz
          rw [← show _ = _ from congrArg bI (i_sub I hq (show vTd V ≤ 30000 by omega))] at h
          exact h) kk

set_option maxHeartbeats 4000000 in
set_option maxRecDepth 100000 in
theorem op_come {p : Program} {l : Launch} {e : Env} {s : State} {m : MethodId} {below : List Frame} {meth : Method} {c : Code} {b Ln : Nat} {xs : Nat → Int32} {D : va_G} {ca : Nat → ClassId} {sa : Nat → Nat} (C : lw_C p l s m meth c b Ln xs D ca sa) {h0 hm ob : Nat} {ad : Nat → Nat} {k : Nat} {H : Heap} {locs : List Loc} {ls : Array Slot} {V : zV} {nc : Nat} {M : Nat → Nat → Int32} {th : Int32} {L : List Nat} {f : Nat → va_E} {g : Nat → Int64} (S : lw_S D ca s h0 hm ob b ad k (6 * k) H locs ls V nc M th L f g) (hk : k < 512) (hi : 6 * k + 6 ≤ Ln) {cells slots : Nat} {Q : State → Prop} (hroom : cells + 24 ≤ 601024 ∧ slots + 100 ≤ 7293034) (kk : ∀ (V' : zV) (nc' : Nat) (M' : Nat → Nat → Int32) (th' : Int32) (L' : List Nat) (f' : Nat → va_E) (g' : Nat → Int64) (H1 : Heap) (locs1 : List Loc) (ls1 : Array Slot), lw_S D ca s h0 hm ob b ad (k + 1) (6 * k) H1 locs1 ls1 V' nc' M' th' L' f' g' → W p l e room_1 s m #[Value.ref b] below meth c H1 locs1 (cells + 24) (slots + 100) Q (F0 m 1551 ls1 [])) : W p l e room_1 s m #[Value.ref b] below meth c H locs cells slots Q (F0 m 519 ls []) := by
  have S0 := S
  obtain ⟨I, ⟨ta, pa, aT, aP, aS, aH, n9, hR⟩, -⟩ := S0
  have hl0 := C.2.2.2.2.2.2.2
  have hup : zR L f ca h0 (k + 1) V := ⟨ta, pa, aT, aP, aS, aH, n9, zRep_up hR (Nat.le_succ k) (by omega)⟩
  have hIu := i_up I hk
  obtain ⟨hn1, -, htd, hnt, hnp⟩ := I.1
  have hnc : nc ≤ 600 := by omega
  generalize e1 : xs (6 * k + 1) = v1
  generalize e2 : xs (6 * k + 2) = v2
  generalize e3 : xs (6 * k + 3) = v3
  generalize e4 : xs (6 * k + 4) = v4
  generalize e5 : xs (6 * k + 5) = v5
  cases h : (iT (vNp V) v1 && iT (vNt V) v2) with
  | false =>
    exact st_come_x C S hk hi hroom e1 e2 e3 e4 e5 (r9 := nI 1) (by decide) (by decide) (Or.inl rfl) (fun sz => L_come_1 l hl0 D ca sa L f h0 ta pa aT aP aS aH n9 k V hR v1 v2 v3 v4 v5 h ob g sz) (fun sz => m_come_1 l D ca sa hm ad _ _ _ _ _ _ v1 v2 v3 v4 v5 h sz) kk
  | true =>
    have hh := h
    rw [Bool.and_eq_true] at hh
    obtain ⟨q, hq, eq⟩ := iT_of (by omega) hh.1
    obtain ⟨t, ht, et⟩ := iT_of hnt hh.2
    subst eq; subst et
    cases h2 : (iB v3 (nI 0) (nI 55) && (iB v4 v3 (nI 55) && iB v5 (nI 0) (nI 20))) with
    | false =>
      exact st_come_x C S hk hi hroom e1 e2 e3 e4 e5 (r9 := nI 2) (by decide) (by decide) (Or.inr rfl) (fun sz => L_come_2 l hl0 D ca sa L f h0 ta pa aT aP aS aH n9 k V hR q t hq ht v3 v4 v5 h2 ob g sz) (fun sz => m_come_2 l D ca sa hm ad _ _ _ _ _ _ _ _ v3 v4 v5 h h2 sz) kk
    | true =>
      rw [Bool.and_eq_true, Bool.and_eq_true] at h2
      obtain ⟨a, -, ha, ea⟩ := iB_of (by decide) (by decide) h2.1
      subst ea
      obtain ⟨b9, hb1, hb, eb⟩ := iB_of (by decide) ha h2.2.1
      obtain ⟨w, -, hw, ew⟩ := iB_of (by decide) (by decide) h2.2.2
      subst eb; subst ew
      exact st_come_ok C S hk hi hroom e1 e2 e3 e4 e5 (by decide) (by decide) (fun x u h => h) (i_come I hk hq (by omega) hb1 hb hw) (fun sz => L_come_ok l D ca sa L f h0 ta pa aT aP aS aH n9 k V hR q hq t ht a b9 w hb1 hb hw hk ob g sz) (fun sz => by
            have h := m_come l D ca sa hm ad th (vTd V) (vNt V) (vNp V) nc M q t a b9 w hq ht hnp hnt hnc hb1 hb hw sz
            rw [← show _ = _ from congrArg bI (i_in I hq (show t < 20 by omega) (show vTd V ≤ 30000 by omega))] at h
            exact h) kk

set_option maxHeartbeats 4000000 in
set_option maxRecDepth 100000 in
theorem op_go {p : Program} {l : Launch} {e : Env} {s : State} {m : MethodId} {below : List Frame} {meth : Method} {c : Code} {b Ln : Nat} {xs : Nat → Int32} {D : va_G} {ca : Nat → ClassId} {sa : Nat → Nat} (C : lw_C p l s m meth c b Ln xs D ca sa) {h0 hm ob : Nat} {ad : Nat → Nat} {k : Nat} {H : Heap} {locs : List Loc} {ls : Array Slot} {V : zV} {nc : Nat} {M : Nat → Nat → Int32} {th : Int32} {L : List Nat} {f : Nat → va_E} {g : Nat → Int64} (S : lw_S D ca s h0 hm ob b ad k (6 * k) H locs ls V nc M th L f g) (hk : k < 512) (hi : 6 * k + 6 ≤ Ln) {cells slots : Nat} {Q : State → Prop} (hroom : cells + 24 ≤ 601024 ∧ slots + 100 ≤ 7293034) (kk : ∀ (V' : zV) (nc' : Nat) (M' : Nat → Nat → Int32) (th' : Int32) (L' : List Nat) (f' : Nat → va_E) (g' : Nat → Int64) (H1 : Heap) (locs1 : List Loc) (ls1 : Array Slot), lw_S D ca s h0 hm ob b ad (k + 1) (6 * k) H1 locs1 ls1 V' nc' M' th' L' f' g' → W p l e room_1 s m #[Value.ref b] below meth c H1 locs1 (cells + 24) (slots + 100) Q (F0 m 1551 ls1 [])) : W p l e room_1 s m #[Value.ref b] below meth c H locs cells slots Q (F0 m 630 ls []) := by
  have S0 := S
  obtain ⟨I, ⟨ta, pa, aT, aP, aS, aH, n9, hR⟩, -⟩ := S0
  have hl0 := C.2.2.2.2.2.2.2
  have hup : zR L f ca h0 (k + 1) V := ⟨ta, pa, aT, aP, aS, aH, n9, zRep_up hR (Nat.le_succ k) (by omega)⟩
  have hIu := i_up I hk
  obtain ⟨hn1, -, htd, hnt, hnp⟩ := I.1
  have hnc : nc ≤ 600 := by omega
  generalize e1 : xs (6 * k + 1) = v1
  generalize e2 : xs (6 * k + 2) = v2
  cases h : (iT (vNp V) v1 && iT (vNt V) v2) with
  | false =>
    exact st_go_x C S hk hi hroom e1 e2 (r9 := nI 1) (by decide) (by decide) (Or.inl rfl) (fun sz => L_go_1 l hl0 D ca sa L f h0 ta pa aT aP aS aH n9 k V hR v1 v2 h ob g sz) (fun sz => m_go_1 l D ca sa hm ad _ _ _ _ _ _ v1 v2 h sz) kk
  | true =>
    have hh := h
    rw [Bool.and_eq_true] at hh
    obtain ⟨q, hq, eq⟩ := iT_of (by omega) hh.1
    obtain ⟨t, ht, et⟩ := iT_of hnt hh.2
    subst eq; subst et
    cases h2 : (zOn (vTd V) (vL V q t)) with
    | false =>
      exact st_go_x C S hk hi hroom e1 e2 (r9 := nI 2) (by decide) (by decide) (Or.inr rfl) (fun sz => L_go_2 l hl0 D ca sa L f h0 ta pa aT aP aS aH n9 k V hR q t hq ht h2 ob g sz) (fun sz => m_go_2 l D ca sa hm ad _ _ _ _ _ _ q t hq ht hnp hnt hnc ((i_in I hq (show t < 20 by omega) (by omega)).symm.trans h2) sz) kk
    | true =>
      exact st_go_ok C S hk hi hroom e1 e2 (by decide) (by decide) (fun x u h => h) (i_go I hk hq (by omega)) (fun sz => L_go_ok l D ca sa L f h0 ta pa aT aP aS aH n9 k V hR q hq t ht h2 hk ob g sz) (fun sz => m_go l D ca sa hm ad _ _ _ _ _ _ q t hq ht hnp hnt hnc ((i_in I hq (show t < 20 by omega) (by omega)).symm.trans h2) sz) kk

set_option maxHeartbeats 4000000 in
set_option maxRecDepth 100000 in
theorem op_pass {p : Program} {l : Launch} {e : Env} {s : State} {m : MethodId} {below : List Frame} {meth : Method} {c : Code} {b Ln : Nat} {xs : Nat → Int32} {D : va_G} {ca : Nat → ClassId} {sa : Nat → Nat} (C : lw_C p l s m meth c b Ln xs D ca sa) {h0 hm ob : Nat} {ad : Nat → Nat} {k : Nat} {H : Heap} {locs : List Loc} {ls : Array Slot} {V : zV} {nc : Nat} {M : Nat → Nat → Int32} {th : Int32} {L : List Nat} {f : Nat → va_E} {g : Nat → Int64} (S : lw_S D ca s h0 hm ob b ad k (6 * k) H locs ls V nc M th L f g) (hk : k < 512) (hi : 6 * k + 6 ≤ Ln) {cells slots : Nat} {Q : State → Prop} (hroom : cells + 24 ≤ 601024 ∧ slots + 100 ≤ 7293034) (kk : ∀ (V' : zV) (nc' : Nat) (M' : Nat → Nat → Int32) (th' : Int32) (L' : List Nat) (f' : Nat → va_E) (g' : Nat → Int64) (H1 : Heap) (locs1 : List Loc) (ls1 : Array Slot), lw_S D ca s h0 hm ob b ad (k + 1) (6 * k) H1 locs1 ls1 V' nc' M' th' L' f' g' → W p l e room_1 s m #[Value.ref b] below meth c H1 locs1 (cells + 24) (slots + 100) Q (F0 m 1551 ls1 [])) : W p l e room_1 s m #[Value.ref b] below meth c H locs cells slots Q (F0 m 678 ls []) := by
  have S0 := S
  obtain ⟨I, ⟨ta, pa, aT, aP, aS, aH, n9, hR⟩, -⟩ := S0
  have hl0 := C.2.2.2.2.2.2.2
  have hup : zR L f ca h0 (k + 1) V := ⟨ta, pa, aT, aP, aS, aH, n9, zRep_up hR (Nat.le_succ k) (by omega)⟩
  have hIu := i_up I hk
  obtain ⟨hn1, -, htd, hnt, hnp⟩ := I.1
  have hnc : nc ≤ 600 := by omega
  generalize e1 : xs (6 * k + 1) = v1
  cases h : (iB v1 (nI 1) (nI 20000)) with
  | false =>
    exact st_pass_x C S hk hi hroom e1 (r9 := nI 1) (by decide) (by decide) (Or.inl rfl) (fun sz => L_pass_1 l hl0 D ca sa L f h0 ta pa aT aP aS aH n9 k V hR v1 h ob g sz) (fun sz => m_pass_1 l D ca sa hm ad _ _ _ _ _ _ v1 h sz) kk
  | true =>
    obtain ⟨d, hd1, hd2, ed⟩ := iB_of (by decide) (by decide) h
    subst ed
    by_cases hf : vTd V + d ≤ 20000
    · exact st_pass_ok C S hk hi hroom e1 (by decide) (by decide) (fun x u h => h) (i_pass I hk hf) (fun sz => L_pass_ok l D ca sa L f h0 ta pa aT aP aS aH n9 k V hR d hd1 hd2 hf hk ob g sz) (fun sz => m_pass l D ca sa hm ad _ _ _ _ _ _ d hd1 hd2 hf sz) kk
    · exact st_pass_x C S hk hi hroom e1 (r9 := nI 2) (by decide) (by decide) (Or.inr rfl) (fun sz => L_pass_2 l hl0 D ca sa L f h0 ta pa aT aP aS aH n9 k V hR d hd1 hd2 (by omega) ob g sz) (fun sz => m_pass_2 l D ca sa hm ad _ _ _ _ _ _ d hd1 hd2 htd (by omega) sz) kk

set_option maxHeartbeats 4000000 in
set_option maxRecDepth 100000 in
theorem op_isSubscribed {p : Program} {l : Launch} {e : Env} {s : State} {m : MethodId} {below : List Frame} {meth : Method} {c : Code} {b Ln : Nat} {xs : Nat → Int32} {D : va_G} {ca : Nat → ClassId} {sa : Nat → Nat} (C : lw_C p l s m meth c b Ln xs D ca sa) {h0 hm ob : Nat} {ad : Nat → Nat} {k : Nat} {H : Heap} {locs : List Loc} {ls : Array Slot} {V : zV} {nc : Nat} {M : Nat → Nat → Int32} {th : Int32} {L : List Nat} {f : Nat → va_E} {g : Nat → Int64} (S : lw_S D ca s h0 hm ob b ad k (6 * k) H locs ls V nc M th L f g) (hk : k < 512) (hi : 6 * k + 6 ≤ Ln) {cells slots : Nat} {Q : State → Prop} (hroom : cells + 24 ≤ 601024 ∧ slots + 100 ≤ 7293034) (kk : ∀ (V' : zV) (nc' : Nat) (M' : Nat → Nat → Int32) (th' : Int32) (L' : List Nat) (f' : Nat → va_E) (g' : Nat → Int64) (H1 : Heap) (locs1 : List Loc) (ls1 : Array Slot), lw_S D ca s h0 hm ob b ad (k + 1) (6 * k) H1 locs1 ls1 V' nc' M' th' L' f' g' → W p l e room_1 s m #[Value.ref b] below meth c H1 locs1 (cells + 24) (slots + 100) Q (F0 m 1551 ls1 [])) : W p l e room_1 s m #[Value.ref b] below meth c H locs cells slots Q (F0 m 747 ls []) := by
  have S0 := S
  obtain ⟨I, ⟨ta, pa, aT, aP, aS, aH, n9, hR⟩, -⟩ := S0
  have hl0 := C.2.2.2.2.2.2.2
  have hup : zR L f ca h0 (k + 1) V := ⟨ta, pa, aT, aP, aS, aH, n9, zRep_up hR (Nat.le_succ k) (by omega)⟩
  have hIu := i_up I hk
  obtain ⟨hn1, -, htd, hnt, hnp⟩ := I.1
  have hnc : nc ≤ 600 := by omega
  generalize e1 : xs (6 * k + 1) = v1
  generalize e2 : xs (6 * k + 2) = v2
  cases h : (iT (vNp V) v1) with
  | false =>
    exact st_isSubscribed_x C S hk hi hroom e1 e2 (r9 := nI 1) (by decide) (by decide) (Or.inl rfl) (fun sz => L_isSubscribed_1 l hl0 D ca sa L f h0 ta pa aT aP aS aH n9 k V hR v1 v2 h ob g sz) (fun sz => m_isSub_1 l D ca sa hm ad _ _ _ _ _ _ v1 v2 h sz) kk
  | true =>
    cases h2 : (iB v2 (nI 0) (nI (vTd V))) with
    | false =>
      exact st_isSubscribed_x C S hk hi hroom e1 e2 (r9 := nI 2) (by decide) (by decide) (Or.inr rfl) (fun sz => L_isSubscribed_2 l hl0 D ca sa L f h0 ta pa aT aP aS aH n9 k V hR v1 v2 h h2 ob g sz) (fun sz => m_isSub_2 l D ca sa hm ad _ _ _ _ _ _ v1 v2 h h2 sz) kk
    | true =>
      obtain ⟨q, hq, eq⟩ := iT_of (by omega) h
      subst eq
      obtain ⟨d, -, hd, ed⟩ := iB_of (by omega) (Nat.zero_le _) h2
      subst ed
      exact st_isSubscribed_ok C S hk hi hroom e1 e2 (by decide) (by decide) (P := fun x9 u => x9 = _ ∧ u = (L, f)) (fun x u h => ⟨h.1, by rw [h.2]; exact hup⟩) (hIu) (fun sz => L_isSubscribed_ok l D ca sa L f h0 ta pa aT aP aS aH n9 k V hR q hq d hd ob g sz) (fun sz => by
            have h := m_isSub l D ca sa hm ad th (vTd V) (vNt V) (vNp V) nc M q d hq hnp hnc hd htd sz
            rw [← show _ = _ from congrArg bI (i_sub I hq (show d ≤ 30000 by omega))] at h
            exact h) kk

set_option maxHeartbeats 4000000 in
set_option maxRecDepth 100000 in
theorem op_isIn {p : Program} {l : Launch} {e : Env} {s : State} {m : MethodId} {below : List Frame} {meth : Method} {c : Code} {b Ln : Nat} {xs : Nat → Int32} {D : va_G} {ca : Nat → ClassId} {sa : Nat → Nat} (C : lw_C p l s m meth c b Ln xs D ca sa) {h0 hm ob : Nat} {ad : Nat → Nat} {k : Nat} {H : Heap} {locs : List Loc} {ls : Array Slot} {V : zV} {nc : Nat} {M : Nat → Nat → Int32} {th : Int32} {L : List Nat} {f : Nat → va_E} {g : Nat → Int64} (S : lw_S D ca s h0 hm ob b ad k (6 * k) H locs ls V nc M th L f g) (hk : k < 512) (hi : 6 * k + 6 ≤ Ln) {cells slots : Nat} {Q : State → Prop} (hroom : cells + 24 ≤ 601024 ∧ slots + 100 ≤ 7293034) (kk : ∀ (V' : zV) (nc' : Nat) (M' : Nat → Nat → Int32) (th' : Int32) (L' : List Nat) (f' : Nat → va_E) (g' : Nat → Int64) (H1 : Heap) (locs1 : List Loc) (ls1 : Array Slot), lw_S D ca s h0 hm ob b ad (k + 1) (6 * k) H1 locs1 ls1 V' nc' M' th' L' f' g' → W p l e room_1 s m #[Value.ref b] below meth c H1 locs1 (cells + 24) (slots + 100) Q (F0 m 1551 ls1 [])) : W p l e room_1 s m #[Value.ref b] below meth c H locs cells slots Q (F0 m 822 ls []) := by
  have S0 := S
  obtain ⟨I, ⟨ta, pa, aT, aP, aS, aH, n9, hR⟩, -⟩ := S0
  have hl0 := C.2.2.2.2.2.2.2
  have hup : zR L f ca h0 (k + 1) V := ⟨ta, pa, aT, aP, aS, aH, n9, zRep_up hR (Nat.le_succ k) (by omega)⟩
  have hIu := i_up I hk
  obtain ⟨hn1, -, htd, hnt, hnp⟩ := I.1
  have hnc : nc ≤ 600 := by omega
  generalize e1 : xs (6 * k + 1) = v1
  generalize e2 : xs (6 * k + 2) = v2
  generalize e3 : xs (6 * k + 3) = v3
  cases h : (iT (vNp V) v1 && iT (vNt V) v2) with
  | false =>
    exact st_isIn_x C S hk hi hroom e1 e2 e3 (r9 := nI 1) (by decide) (by decide) (Or.inl rfl) (fun sz => L_isIn_1 l hl0 D ca sa L f h0 ta pa aT aP aS aH n9 k V hR v1 v2 v3 h ob g sz) (fun sz => m_isIn_1 l D ca sa hm ad _ _ _ _ _ _ v1 v2 v3 h sz) kk
  | true =>
    have hh := h
    rw [Bool.and_eq_true] at hh
    obtain ⟨q, hq, eq⟩ := iT_of (by omega) hh.1
    obtain ⟨t, ht, et⟩ := iT_of hnt hh.2
    subst eq; subst et
    cases h2 : (iB v3 (nI 0) (nI (vTd V))) with
    | false =>
      exact st_isIn_x C S hk hi hroom e1 e2 e3 (r9 := nI 2) (by decide) (by decide) (Or.inr rfl) (fun sz => L_isIn_2 l hl0 D ca sa L f h0 ta pa aT aP aS aH n9 k V hR q t hq ht v3 h2 ob g sz) (fun sz => m_isIn_2 l D ca sa hm ad _ _ _ _ _ _ _ _ v3 h h2 sz) kk
    | true =>
      obtain ⟨d, -, hd, ed⟩ := iB_of (by omega) (Nat.zero_le _) h2
      subst ed
      exact st_isIn_ok C S hk hi hroom e1 e2 e3 (by decide) (by decide) (P := fun x9 u => x9 = _ ∧ u = (L, f)) (fun x u h => ⟨h.1, by rw [h.2]; exact hup⟩) (hIu) (fun sz => L_isIn_ok l D ca sa L f h0 ta pa aT aP aS aH n9 k V hR q hq t ht d hd ob g sz) (fun sz => by
            have h := m_isIn l D ca sa hm ad th (vTd V) (vNt V) (vNp V) nc M q t d hq ht hnp hnt hnc hd htd sz
            rw [← show _ = _ from congrArg bI (i_in I hq (show t < 20 by omega) (show d ≤ 30000 by omega))] at h
            exact h) kk

set_option maxHeartbeats 4000000 in
set_option maxRecDepth 100000 in
theorem op_report {p : Program} {l : Launch} {e : Env} {s : State} {m : MethodId} {below : List Frame} {meth : Method} {c : Code} {b Ln : Nat} {xs : Nat → Int32} {D : va_G} {ca : Nat → ClassId} {sa : Nat → Nat} (C : lw_C p l s m meth c b Ln xs D ca sa) {h0 hm ob : Nat} {ad : Nat → Nat} {k : Nat} {H : Heap} {locs : List Loc} {ls : Array Slot} {V : zV} {nc : Nat} {M : Nat → Nat → Int32} {th : Int32} {L : List Nat} {f : Nat → va_E} {g : Nat → Int64} (S : lw_S D ca s h0 hm ob b ad k (6 * k) H locs ls V nc M th L f g) (hk : k < 512) (hi : 6 * k + 6 ≤ Ln) {cells slots : Nat} {Q : State → Prop} (hroom : cells + 24 ≤ 601024 ∧ slots + 100 ≤ 7293034) (kk : ∀ (V' : zV) (nc' : Nat) (M' : Nat → Nat → Int32) (th' : Int32) (L' : List Nat) (f' : Nat → va_E) (g' : Nat → Int64) (H1 : Heap) (locs1 : List Loc) (ls1 : Array Slot), lw_S D ca s h0 hm ob b ad (k + 1) (6 * k) H1 locs1 ls1 V' nc' M' th' L' f' g' → W p l e room_1 s m #[Value.ref b] below meth c H1 locs1 (cells + 24) (slots + 100) Q (F0 m 1551 ls1 [])) : W p l e room_1 s m #[Value.ref b] below meth c H locs cells slots Q (F0 m 909 ls []) := by
  have S0 := S
  obtain ⟨I, ⟨ta, pa, aT, aP, aS, aH, n9, hR⟩, -⟩ := S0
  have hl0 := C.2.2.2.2.2.2.2
  have hup : zR L f ca h0 (k + 1) V := ⟨ta, pa, aT, aP, aS, aH, n9, zRep_up hR (Nat.le_succ k) (by omega)⟩
  have hIu := i_up I hk
  obtain ⟨hn1, -, htd, hnt, hnp⟩ := I.1
  have hnc : nc ≤ 600 := by omega
  generalize e1 : xs (6 * k + 1) = v1
  generalize e2 : xs (6 * k + 2) = v2
  cases h : (iT (vNp V) v1 && iT (vNt V) v2) with
  | false =>
    exact st_report_x C S hk hi hroom e1 e2 (r9 := nI 1) (by decide) (by decide) (Or.inl rfl) (fun sz => L_report_1 l hl0 D ca sa L f h0 ta pa aT aP aS aH n9 k V hR v1 v2 h ob g sz) (fun sz => m_report_1 l D ca sa hm ad _ _ _ _ _ _ v1 v2 h sz) kk
  | true =>
    have hh := h
    rw [Bool.and_eq_true] at hh
    obtain ⟨q, hq, eq⟩ := iT_of (by omega) hh.1
    obtain ⟨t, ht, et⟩ := iT_of hnt hh.2
    subst eq; subst et
    obtain ⟨hbk, hbK⟩ := (I.2.2.2.1 q t (by omega) (by omega)).1 hq
    exact st_report_ok C S hk hi hroom e1 e2 (by decide) (by decide) (fun x u h => h) (i_break I hk hq (by omega) (by omega)) (fun sz => L_report_ok l D ca sa L f h0 ta pa aT aP aS aH n9 k V hR q hq t ht hk ob g sz) (fun sz => m_report l D ca sa hm ad _ _ _ _ _ _ q t hq ht hnp hnt _ hbk sz) kk

set_option maxHeartbeats 4000000 in
set_option maxRecDepth 100000 in
theorem op_mend {p : Program} {l : Launch} {e : Env} {s : State} {m : MethodId} {below : List Frame} {meth : Method} {c : Code} {b Ln : Nat} {xs : Nat → Int32} {D : va_G} {ca : Nat → ClassId} {sa : Nat → Nat} (C : lw_C p l s m meth c b Ln xs D ca sa) {h0 hm ob : Nat} {ad : Nat → Nat} {k : Nat} {H : Heap} {locs : List Loc} {ls : Array Slot} {V : zV} {nc : Nat} {M : Nat → Nat → Int32} {th : Int32} {L : List Nat} {f : Nat → va_E} {g : Nat → Int64} (S : lw_S D ca s h0 hm ob b ad k (6 * k) H locs ls V nc M th L f g) (hk : k < 512) (hi : 6 * k + 6 ≤ Ln) {cells slots : Nat} {Q : State → Prop} (hroom : cells + 24 ≤ 601024 ∧ slots + 100 ≤ 7293034) (kk : ∀ (V' : zV) (nc' : Nat) (M' : Nat → Nat → Int32) (th' : Int32) (L' : List Nat) (f' : Nat → va_E) (g' : Nat → Int64) (H1 : Heap) (locs1 : List Loc) (ls1 : Array Slot), lw_S D ca s h0 hm ob b ad (k + 1) (6 * k) H1 locs1 ls1 V' nc' M' th' L' f' g' → W p l e room_1 s m #[Value.ref b] below meth c H1 locs1 (cells + 24) (slots + 100) Q (F0 m 1551 ls1 [])) : W p l e room_1 s m #[Value.ref b] below meth c H locs cells slots Q (F0 m 977 ls []) := by
  have S0 := S
  obtain ⟨I, ⟨ta, pa, aT, aP, aS, aH, n9, hR⟩, -⟩ := S0
  have hl0 := C.2.2.2.2.2.2.2
  have hup : zR L f ca h0 (k + 1) V := ⟨ta, pa, aT, aP, aS, aH, n9, zRep_up hR (Nat.le_succ k) (by omega)⟩
  have hIu := i_up I hk
  obtain ⟨hn1, -, htd, hnt, hnp⟩ := I.1
  have hnc : nc ≤ 600 := by omega
  generalize e1 : xs (6 * k + 1) = v1
  generalize e2 : xs (6 * k + 2) = v2
  cases h : (iT (vNp V) v1 && iT (vNt V) v2) with
  | false =>
    exact st_mend_x C S hk hi hroom e1 e2 (r9 := nI 1) (by decide) (by decide) (Or.inl rfl) (fun sz => L_mend_1 l hl0 D ca sa L f h0 ta pa aT aP aS aH n9 k V hR v1 v2 h ob g sz) (fun sz => m_mend_1 l D ca sa hm ad _ _ _ _ _ _ v1 v2 h sz) kk
  | true =>
    have hh := h
    rw [Bool.and_eq_true] at hh
    obtain ⟨q, hq, eq⟩ := iT_of (by omega) hh.1
    obtain ⟨t, ht, et⟩ := iT_of hnt hh.2
    subst eq; subst et
    obtain ⟨hbk, hbK⟩ := (I.2.2.2.1 q t (by omega) (by omega)).1 hq
    exact st_mend_ok C S hk hi hroom e1 e2 (by decide) (by decide) (fun x u h => h) (i_break I hk hq (by omega) (Nat.zero_le _)) (fun sz => L_mend_ok l D ca sa L f h0 ta pa aT aP aS aH n9 k V hR q hq t ht hk ob g sz) (fun sz => m_mend l D ca sa hm ad _ _ _ _ _ _ q t hq ht hnp hnt _ hbk sz) kk

set_option maxHeartbeats 4000000 in
set_option maxRecDepth 100000 in
theorem op_covers {p : Program} {l : Launch} {e : Env} {s : State} {m : MethodId} {below : List Frame} {meth : Method} {c : Code} {b Ln : Nat} {xs : Nat → Int32} {D : va_G} {ca : Nat → ClassId} {sa : Nat → Nat} (C : lw_C p l s m meth c b Ln xs D ca sa) {h0 hm ob : Nat} {ad : Nat → Nat} {k : Nat} {H : Heap} {locs : List Loc} {ls : Array Slot} {V : zV} {nc : Nat} {M : Nat → Nat → Int32} {th : Int32} {L : List Nat} {f : Nat → va_E} {g : Nat → Int64} (S : lw_S D ca s h0 hm ob b ad k (6 * k) H locs ls V nc M th L f g) (hk : k < 512) (hi : 6 * k + 6 ≤ Ln) {cells slots : Nat} {Q : State → Prop} (hroom : cells + 24 ≤ 601024 ∧ slots + 100 ≤ 7293034) (kk : ∀ (V' : zV) (nc' : Nat) (M' : Nat → Nat → Int32) (th' : Int32) (L' : List Nat) (f' : Nat → va_E) (g' : Nat → Int64) (H1 : Heap) (locs1 : List Loc) (ls1 : Array Slot), lw_S D ca s h0 hm ob b ad (k + 1) (6 * k) H1 locs1 ls1 V' nc' M' th' L' f' g' → W p l e room_1 s m #[Value.ref b] below meth c H1 locs1 (cells + 24) (slots + 100) Q (F0 m 1551 ls1 [])) : W p l e room_1 s m #[Value.ref b] below meth c H locs cells slots Q (F0 m 1045 ls []) := by
  have S0 := S
  obtain ⟨I, ⟨ta, pa, aT, aP, aS, aH, n9, hR⟩, -⟩ := S0
  have hl0 := C.2.2.2.2.2.2.2
  have hup : zR L f ca h0 (k + 1) V := ⟨ta, pa, aT, aP, aS, aH, n9, zRep_up hR (Nat.le_succ k) (by omega)⟩
  have hIu := i_up I hk
  obtain ⟨hn1, -, htd, hnt, hnp⟩ := I.1
  have hnc : nc ≤ 600 := by omega
  generalize e1 : xs (6 * k + 1) = v1
  generalize e2 : xs (6 * k + 2) = v2
  generalize e3 : xs (6 * k + 3) = v3
  generalize e4 : xs (6 * k + 4) = v4
  generalize e5 : xs (6 * k + 5) = v5
  cases h : (iT (vNp V) v1 && iT (vNt V) v2) with
  | false =>
    exact st_covers_x C S hk hi hroom e1 e2 e3 e4 e5 (r9 := nI 1) (by decide) (by decide) (Or.inl rfl) (fun sz => L_covers_1 l hl0 D ca sa L f h0 ta pa aT aP aS aH n9 k V hR v1 v2 v3 v4 v5 h ob g sz) (fun sz => m_covers_1 l D ca sa hm ad _ _ _ _ _ _ v1 v2 v3 v4 v5 h sz) kk
  | true =>
    cases h2 : (iB v3 (nI 0) (nI 55) && (iB v4 (nI 0) (nI 3) && iB v5 (nI 0) (nI (vTd V)))) with
    | false =>
      exact st_covers_x C S hk hi hroom e1 e2 e3 e4 e5 (r9 := nI 2) (by decide) (by decide) (Or.inr rfl) (fun sz => L_covers_2 l hl0 D ca sa L f h0 ta pa aT aP aS aH n9 k V hR v1 v2 v3 v4 v5 h h2 ob g sz) (fun sz => m_covers_2 l D ca sa hm ad _ _ _ _ _ _ v1 v2 v3 v4 v5 h h2 sz) kk
    | true =>
      have hh := h
      rw [Bool.and_eq_true] at hh
      obtain ⟨q, hq, eq⟩ := iT_of (by omega) hh.1
      obtain ⟨t, ht, et⟩ := iT_of hnt hh.2
      subst eq; subst et
      rw [Bool.and_eq_true, Bool.and_eq_true] at h2
      obtain ⟨y, -, hy, ey⟩ := iB_of (by decide) (by decide) h2.1
      obtain ⟨g9, -, hg, eg⟩ := iB_of (by decide) (by decide) h2.2.1
      obtain ⟨d, -, hd, ed⟩ := iB_of (by omega) (Nat.zero_le _) h2.2.2
      subst ey; subst eg; subst ed
      exact st_covers_ok C S hk hi hroom e1 e2 e3 e4 e5 (by decide) (by decide) (P := fun x9 u => x9 = _ ∧ u = (L, f)) (fun x u h => ⟨h.1, by rw [h.2]; exact hup⟩) (hIu) (fun sz => L_covers_ok l D ca sa L f h0 ta pa aT aP aS aH n9 k V hR q hq t ht y g9 d hy hg hd ob g sz) (fun sz => by
            have h := m_covers l D ca sa hm ad th (vTd V) (vNt V) (vNp V) nc M q t hq ht hnp hnt hnc y g9 d hy hg hd htd sz
            rw [← show _ = _ from congrArg bI (i_way I hq (show t < 20 by omega) hy hg (show d ≤ 20000 by omega))] at h
            exact h) kk

set_option maxHeartbeats 4000000 in
set_option maxRecDepth 100000 in
theorem op_ways {p : Program} {l : Launch} {e : Env} {s : State} {m : MethodId} {below : List Frame} {meth : Method} {c : Code} {b Ln : Nat} {xs : Nat → Int32} {D : va_G} {ca : Nat → ClassId} {sa : Nat → Nat} (C : lw_C p l s m meth c b Ln xs D ca sa) {h0 hm ob : Nat} {ad : Nat → Nat} {k : Nat} {H : Heap} {locs : List Loc} {ls : Array Slot} {V : zV} {nc : Nat} {M : Nat → Nat → Int32} {th : Int32} {L : List Nat} {f : Nat → va_E} {g : Nat → Int64} (S : lw_S D ca s h0 hm ob b ad k (6 * k) H locs ls V nc M th L f g) (hk : k < 512) (hi : 6 * k + 6 ≤ Ln) {cells slots : Nat} {Q : State → Prop} (hroom : cells + 24 ≤ 601024 ∧ slots + 100 ≤ 7293034) (kk : ∀ (V' : zV) (nc' : Nat) (M' : Nat → Nat → Int32) (th' : Int32) (L' : List Nat) (f' : Nat → va_E) (g' : Nat → Int64) (H1 : Heap) (locs1 : List Loc) (ls1 : Array Slot), lw_S D ca s h0 hm ob b ad (k + 1) (6 * k) H1 locs1 ls1 V' nc' M' th' L' f' g' → W p l e room_1 s m #[Value.ref b] below meth c H1 locs1 (cells + 24) (slots + 100) Q (F0 m 1551 ls1 [])) : W p l e room_1 s m #[Value.ref b] below meth c H locs cells slots Q (F0 m 1156 ls []) := by
  have S0 := S
  obtain ⟨I, ⟨ta, pa, aT, aP, aS, aH, n9, hR⟩, -⟩ := S0
  have hl0 := C.2.2.2.2.2.2.2
  have hup : zR L f ca h0 (k + 1) V := ⟨ta, pa, aT, aP, aS, aH, n9, zRep_up hR (Nat.le_succ k) (by omega)⟩
  have hIu := i_up I hk
  obtain ⟨hn1, -, htd, hnt, hnp⟩ := I.1
  have hnc : nc ≤ 600 := by omega
  generalize e1 : xs (6 * k + 1) = v1
  generalize e2 : xs (6 * k + 2) = v2
  generalize e3 : xs (6 * k + 3) = v3
  generalize e4 : xs (6 * k + 4) = v4
  cases h : (iT (vNt V) v1) with
  | false =>
    exact st_ways_x C S hk hi hroom e1 e2 e3 e4 (r9 := nI 1) (by decide) (by decide) (Or.inl rfl) (fun sz => L_ways_1 l hl0 D ca sa L f h0 ta pa aT aP aS aH n9 k V hR v1 v2 v3 v4 h ob g sz) (fun sz => m_ways_1 l D ca sa hm ad _ _ _ _ _ _ v1 v2 v3 v4 h sz) kk
  | true =>
    cases h2 : (iB v2 (nI 0) (nI 55) && (iB v3 (nI 0) (nI 3) && iB v4 (nI 0) (nI (vTd V)))) with
    | false =>
      exact st_ways_x C S hk hi hroom e1 e2 e3 e4 (r9 := nI 2) (by decide) (by decide) (Or.inr rfl) (fun sz => L_ways_2 l hl0 D ca sa L f h0 ta pa aT aP aS aH n9 k V hR v1 v2 v3 v4 h h2 ob g sz) (fun sz => m_ways_2 l D ca sa hm ad _ _ _ _ _ _ v1 v2 v3 v4 h h2 sz) kk
    | true =>
      obtain ⟨t, ht, et⟩ := iT_of hnt h
      subst et
      rw [Bool.and_eq_true, Bool.and_eq_true] at h2
      obtain ⟨y, -, hy, ey⟩ := iB_of (by decide) (by decide) h2.1
      obtain ⟨g9, -, hg, eg⟩ := iB_of (by decide) (by decide) h2.2.1
      obtain ⟨d, -, hd, ed⟩ := iB_of (by omega) (Nat.zero_le _) h2.2.2
      subst ey; subst eg; subst ed
      exact st_ways_ok C S hk hi hroom e1 e2 e3 e4 (by decide) (by decide) (P := fun x9 u => x9 = _ ∧ u = (L, f)) (fun x u h => ⟨h.1, by rw [h.2]; exact hup⟩) (hIu) (fun sz => L_ways_ok l D ca sa L f h0 ta pa aT aP aS aH n9 k V hR t ht y g9 d hy hg hd ob g sz) (fun sz => by
            have h := m_ways l D ca sa hm ad th (vTd V) (vNt V) (vNp V) nc M t ht hnp hnt hnc y g9 d hy hg hd htd sz
            rw [← show _ = _ from i_ways I (show t < 20 by omega) hy hg (show d ≤ 20000 by omega)] at h
            exact h) kk

set_option maxHeartbeats 4000000 in
set_option maxRecDepth 100000 in
theorem op_wayAt {p : Program} {l : Launch} {e : Env} {s : State} {m : MethodId} {below : List Frame} {meth : Method} {c : Code} {b Ln : Nat} {xs : Nat → Int32} {D : va_G} {ca : Nat → ClassId} {sa : Nat → Nat} (C : lw_C p l s m meth c b Ln xs D ca sa) {h0 hm ob : Nat} {ad : Nat → Nat} {k : Nat} {H : Heap} {locs : List Loc} {ls : Array Slot} {V : zV} {nc : Nat} {M : Nat → Nat → Int32} {th : Int32} {L : List Nat} {f : Nat → va_E} {g : Nat → Int64} (S : lw_S D ca s h0 hm ob b ad k (6 * k) H locs ls V nc M th L f g) (hk : k < 512) (hi : 6 * k + 6 ≤ Ln) {cells slots : Nat} {Q : State → Prop} (hroom : cells + 24 ≤ 601024 ∧ slots + 100 ≤ 7293034) (kk : ∀ (V' : zV) (nc' : Nat) (M' : Nat → Nat → Int32) (th' : Int32) (L' : List Nat) (f' : Nat → va_E) (g' : Nat → Int64) (H1 : Heap) (locs1 : List Loc) (ls1 : Array Slot), lw_S D ca s h0 hm ob b ad (k + 1) (6 * k) H1 locs1 ls1 V' nc' M' th' L' f' g' → W p l e room_1 s m #[Value.ref b] below meth c H1 locs1 (cells + 24) (slots + 100) Q (F0 m 1551 ls1 [])) : W p l e room_1 s m #[Value.ref b] below meth c H locs cells slots Q (F0 m 1248 ls []) := by
  have S0 := S
  obtain ⟨I, ⟨ta, pa, aT, aP, aS, aH, n9, hR⟩, -⟩ := S0
  have hl0 := C.2.2.2.2.2.2.2
  have hup : zR L f ca h0 (k + 1) V := ⟨ta, pa, aT, aP, aS, aH, n9, zRep_up hR (Nat.le_succ k) (by omega)⟩
  have hIu := i_up I hk
  obtain ⟨hn1, -, htd, hnt, hnp⟩ := I.1
  have hnc : nc ≤ 600 := by omega
  generalize e1 : xs (6 * k + 1) = v1
  generalize e2 : xs (6 * k + 2) = v2
  generalize e3 : xs (6 * k + 3) = v3
  generalize e4 : xs (6 * k + 4) = v4
  generalize e5 : xs (6 * k + 5) = v5
  cases h2 : (iB v3 (nI 0) (nI 55) && (iB v4 (nI 0) (nI 3) && iB v5 (nI 0) (nI (vTd V)))) with
  | false =>
    exact st_wayAt_x C S hk hi hroom e1 e2 e3 e4 e5 (r9 := nI 1) (by decide) (by decide) (Or.inl rfl) (fun sz => L_wayAt_1 l hl0 D ca sa L f h0 ta pa aT aP aS aH n9 k V hR v1 v2 v3 v4 v5 h2 ob g sz) (fun sz => m_wayAt_1 l D ca sa hm ad _ _ _ _ _ _ v1 v2 v3 v4 v5 h2 sz) kk
  | true =>
    cases h : (iT (vNt V) v2) with
    | false =>
      exact st_wayAt_x C S hk hi hroom e1 e2 e3 e4 e5 (r9 := nI 2) (by decide) (by decide) (Or.inr rfl) (fun sz => L_wayAt_2 l hl0 D ca sa L f h0 ta pa aT aP aS aH n9 k V hR v1 v2 v3 v4 v5 h2 h ob g sz) (fun sz => m_wayAt_2 l D ca sa hm ad _ _ _ _ _ _ v1 v2 v3 v4 v5 h2 h sz) kk
    | true =>
      obtain ⟨t, ht, et⟩ := iT_of hnt h
      subst et
      rw [Bool.and_eq_true, Bool.and_eq_true] at h2
      obtain ⟨y, -, hy, ey⟩ := iB_of (by decide) (by decide) h2.1
      obtain ⟨g9, -, hg, eg⟩ := iB_of (by decide) (by decide) h2.2.1
      obtain ⟨d, -, hd, ed⟩ := iB_of (by omega) (Nat.zero_le _) h2.2.2
      subst ey; subst eg; subst ed
      cases h3 : (iT (mWays M nc t y g9 d (vNp V)) v1) with
      | false =>
        exact st_wayAt_x C S hk hi hroom e1 e2 e3 e4 e5 (r9 := nI 2) (by decide) (by decide) (Or.inr rfl) (fun sz => L_wayAt_3 l hl0 D ca sa L f h0 ta pa aT aP aS aH n9 k V hR v1 t ht y g9 d hy hg hd (i_no I (by omega) hy hg (by omega) h3) ob g sz) (fun sz => m_wayAt_3 l D ca sa hm ad _ _ _ _ _ _ v1 t ht hnp hnt hnc y g9 d hy hg hd htd h3 sz) kk
      | true =>
        obtain ⟨pl, hpl, epl⟩ := iT_of (by
          have := wc_le (fun k => mLets M k g9 && mCov M nc k t y d) (vNp V)
          rw [← mWays_wc] at this
          omega) h3
        subst epl
        obtain ⟨q, hq, w1, w2, w3, w4⟩ := i_at I (show t < 20 by omega) hy hg (show d ≤ 20000 by omega) hpl
        exact st_wayAt_ok C S hk hi hroom e1 e2 e3 e4 e5 (by decide) (by decide) (P := fun x9 u => x9 = _ ∧ u = (L, f)) (fun x u h => ⟨h.1, by rw [h.2]; exact hup⟩) (hIu) (fun sz => L_wayAt_ok l D ca sa L f h0 ta pa aT aP aS aH n9 k V hR _ t ht y g9 d hy hg hd q hq w1 w2 w3 ob g sz) (fun sz => by
              have h := m_wayAt l D ca sa hm ad th (vTd V) (vNt V) (vNp V) nc M pl t ht hnp hnt hnc y g9 d hy hg hd htd hpl sz
              rw [← show _ = _ from w4.symm] at h
              exact h) kk

set_option maxHeartbeats 4000000 in
set_option maxRecDepth 100000 in
theorem op_gap {p : Program} {l : Launch} {e : Env} {s : State} {m : MethodId} {below : List Frame} {meth : Method} {c : Code} {b Ln : Nat} {xs : Nat → Int32} {D : va_G} {ca : Nat → ClassId} {sa : Nat → Nat} (C : lw_C p l s m meth c b Ln xs D ca sa) {h0 hm ob : Nat} {ad : Nat → Nat} {k : Nat} {H : Heap} {locs : List Loc} {ls : Array Slot} {V : zV} {nc : Nat} {M : Nat → Nat → Int32} {th : Int32} {L : List Nat} {f : Nat → va_E} {g : Nat → Int64} (S : lw_S D ca s h0 hm ob b ad k (6 * k) H locs ls V nc M th L f g) (hk : k < 512) (hi : 6 * k + 6 ≤ Ln) {cells slots : Nat} {Q : State → Prop} (hroom : cells + 24 ≤ 601024 ∧ slots + 100 ≤ 7293034) (kk : ∀ (V' : zV) (nc' : Nat) (M' : Nat → Nat → Int32) (th' : Int32) (L' : List Nat) (f' : Nat → va_E) (g' : Nat → Int64) (H1 : Heap) (locs1 : List Loc) (ls1 : Array Slot), lw_S D ca s h0 hm ob b ad (k + 1) (6 * k) H1 locs1 ls1 V' nc' M' th' L' f' g' → W p l e room_1 s m #[Value.ref b] below meth c H1 locs1 (cells + 24) (slots + 100) Q (F0 m 1551 ls1 [])) : W p l e room_1 s m #[Value.ref b] below meth c H locs cells slots Q (F0 m 1352 ls []) := by
  have S0 := S
  obtain ⟨I, ⟨ta, pa, aT, aP, aS, aH, n9, hR⟩, -⟩ := S0
  have hl0 := C.2.2.2.2.2.2.2
  have hup : zR L f ca h0 (k + 1) V := ⟨ta, pa, aT, aP, aS, aH, n9, zRep_up hR (Nat.le_succ k) (by omega)⟩
  have hIu := i_up I hk
  obtain ⟨hn1, -, htd, hnt, hnp⟩ := I.1
  have hnc : nc ≤ 600 := by omega
  generalize e1 : xs (6 * k + 1) = v1
  generalize e2 : xs (6 * k + 2) = v2
  cases h : (iT (vNt V) v1) with
  | false =>
    exact st_gap_x C S hk hi hroom e1 e2 (r9 := nI 1) (by decide) (by decide) (Or.inl rfl) (fun sz => L_gap_1 l hl0 D ca sa L f h0 ta pa aT aP aS aH n9 k V hR v1 v2 h ob g sz) (fun sz => m_gap_1 l D ca sa hm ad _ _ _ _ _ _ v1 v2 h sz) kk
  | true =>
    cases h2 : (iB v2 (nI 0) (nI 3)) with
    | false =>
      exact st_gap_x C S hk hi hroom e1 e2 (r9 := nI 2) (by decide) (by decide) (Or.inr rfl) (fun sz => L_gap_2 l hl0 D ca sa L f h0 ta pa aT aP aS aH n9 k V hR v1 v2 h h2 ob g sz) (fun sz => m_gap_2 l D ca sa hm ad _ _ _ _ _ _ v1 v2 h h2 sz) kk
    | true =>
      obtain ⟨t, ht, et⟩ := iT_of hnt h
      subst et
      obtain ⟨g9, -, hg, eg⟩ := iB_of (by decide) (by decide) h2
      subst eg
      obtain ⟨f0, -, f2, -⟩ := I.2.1 t ht
      exact st_gap_ok C S hk hi hroom e1 e2 (by decide) (by decide) (P := fun x9 u => x9 = _ ∧ u = (L, f)) (fun x u h => ⟨h.1, by rw [h.2]; exact hup⟩) (hIu) (fun sz => L_gap_ok l D ca sa L f h0 ta pa aT aP aS aH n9 k V hR t ht g9 hg ob g sz) (fun sz => by
            have h := m_gap l D ca sa hm ad th (vTd V) (vNt V) (vNp V) nc M t g9 _ ht hnp hnt hnc hg htd f0 f2 sz
            rw [← show _ = _ from i_gap I ht hg] at h
            exact h) kk

set_option maxHeartbeats 4000000 in
set_option maxRecDepth 100000 in
theorem op_doubles {p : Program} {l : Launch} {e : Env} {s : State} {m : MethodId} {below : List Frame} {meth : Method} {c : Code} {b Ln : Nat} {xs : Nat → Int32} {D : va_G} {ca : Nat → ClassId} {sa : Nat → Nat} (C : lw_C p l s m meth c b Ln xs D ca sa) {h0 hm ob : Nat} {ad : Nat → Nat} {k : Nat} {H : Heap} {locs : List Loc} {ls : Array Slot} {V : zV} {nc : Nat} {M : Nat → Nat → Int32} {th : Int32} {L : List Nat} {f : Nat → va_E} {g : Nat → Int64} (S : lw_S D ca s h0 hm ob b ad k (6 * k) H locs ls V nc M th L f g) (hk : k < 512) (hi : 6 * k + 6 ≤ Ln) {cells slots : Nat} {Q : State → Prop} (hroom : cells + 24 ≤ 601024 ∧ slots + 100 ≤ 7293034) (kk : ∀ (V' : zV) (nc' : Nat) (M' : Nat → Nat → Int32) (th' : Int32) (L' : List Nat) (f' : Nat → va_E) (g' : Nat → Int64) (H1 : Heap) (locs1 : List Loc) (ls1 : Array Slot), lw_S D ca s h0 hm ob b ad (k + 1) (6 * k) H1 locs1 ls1 V' nc' M' th' L' f' g' → W p l e room_1 s m #[Value.ref b] below meth c H1 locs1 (cells + 24) (slots + 100) Q (F0 m 1551 ls1 [])) : W p l e room_1 s m #[Value.ref b] below meth c H locs cells slots Q (F0 m 1420 ls []) := by
  have S0 := S
  obtain ⟨I, ⟨ta, pa, aT, aP, aS, aH, n9, hR⟩, -⟩ := S0
  have hl0 := C.2.2.2.2.2.2.2
  have hup : zR L f ca h0 (k + 1) V := ⟨ta, pa, aT, aP, aS, aH, n9, zRep_up hR (Nat.le_succ k) (by omega)⟩
  have hIu := i_up I hk
  obtain ⟨hn1, -, htd, hnt, hnp⟩ := I.1
  have hnc : nc ≤ 600 := by omega
  generalize e1 : xs (6 * k + 1) = v1
  generalize e2 : xs (6 * k + 2) = v2
  cases h : (iT (vNt V) v1) with
  | false =>
    exact st_doubles_x C S hk hi hroom e1 e2 (r9 := nI 1) (by decide) (by decide) (Or.inl rfl) (fun sz => L_doubles_1 l hl0 D ca sa L f h0 ta pa aT aP aS aH n9 k V hR v1 v2 h ob g sz) (fun sz => m_doubles_1 l D ca sa hm ad _ _ _ _ _ _ v1 v2 h sz) kk
  | true =>
    cases h2 : (iB v2 (nI 0) (nI 3)) with
    | false =>
      exact st_doubles_x C S hk hi hroom e1 e2 (r9 := nI 2) (by decide) (by decide) (Or.inr rfl) (fun sz => L_doubles_2 l hl0 D ca sa L f h0 ta pa aT aP aS aH n9 k V hR v1 v2 h h2 ob g sz) (fun sz => m_doubles_2 l D ca sa hm ad _ _ _ _ _ _ v1 v2 h h2 sz) kk
    | true =>
      obtain ⟨t, ht, et⟩ := iT_of hnt h
      subst et
      obtain ⟨g9, -, hg, eg⟩ := iB_of (by decide) (by decide) h2
      subst eg
      obtain ⟨f0, -, f2, -⟩ := I.2.1 t ht
      exact st_doubles_ok C S hk hi hroom e1 e2 (by decide) (by decide) (P := fun x9 u => x9 = _ ∧ u = (L, f)) (fun x u h => ⟨h.1, by rw [h.2]; exact hup⟩) (hIu) (fun sz => L_doubles_ok l D ca sa L f h0 ta pa aT aP aS aH n9 k V hR t ht g9 hg ob g sz) (fun sz => by
            have h := m_doubles l D ca sa hm ad th (vTd V) (vNt V) (vNp V) nc M t g9 _ ht hnp hnt hnc hg htd f0 f2 sz
            rw [← show _ = _ from i_dbl I ht hg] at h
            exact h) kk

set_option maxHeartbeats 4000000 in
set_option maxRecDepth 100000 in
theorem op_isNeedless {p : Program} {l : Launch} {e : Env} {s : State} {m : MethodId} {below : List Frame} {meth : Method} {c : Code} {b Ln : Nat} {xs : Nat → Int32} {D : va_G} {ca : Nat → ClassId} {sa : Nat → Nat} (C : lw_C p l s m meth c b Ln xs D ca sa) {h0 hm ob : Nat} {ad : Nat → Nat} {k : Nat} {H : Heap} {locs : List Loc} {ls : Array Slot} {V : zV} {nc : Nat} {M : Nat → Nat → Int32} {th : Int32} {L : List Nat} {f : Nat → va_E} {g : Nat → Int64} (S : lw_S D ca s h0 hm ob b ad k (6 * k) H locs ls V nc M th L f g) (hk : k < 512) (hi : 6 * k + 6 ≤ Ln) {cells slots : Nat} {Q : State → Prop} (hroom : cells + 24 ≤ 601024 ∧ slots + 100 ≤ 7293034) (kk : ∀ (V' : zV) (nc' : Nat) (M' : Nat → Nat → Int32) (th' : Int32) (L' : List Nat) (f' : Nat → va_E) (g' : Nat → Int64) (H1 : Heap) (locs1 : List Loc) (ls1 : Array Slot), lw_S D ca s h0 hm ob b ad (k + 1) (6 * k) H1 locs1 ls1 V' nc' M' th' L' f' g' → W p l e room_1 s m #[Value.ref b] below meth c H1 locs1 (cells + 24) (slots + 100) Q (F0 m 1551 ls1 [])) : W p l e room_1 s m #[Value.ref b] below meth c H locs cells slots Q (F0 m 1488 ls []) := by
  have S0 := S
  obtain ⟨I, ⟨ta, pa, aT, aP, aS, aH, n9, hR⟩, -⟩ := S0
  have hl0 := C.2.2.2.2.2.2.2
  have hup : zR L f ca h0 (k + 1) V := ⟨ta, pa, aT, aP, aS, aH, n9, zRep_up hR (Nat.le_succ k) (by omega)⟩
  have hIu := i_up I hk
  obtain ⟨hn1, -, htd, hnt, hnp⟩ := I.1
  have hnc : nc ≤ 600 := by omega
  generalize e1 : xs (6 * k + 1) = v1
  cases h : (iT (vNp V) v1) with
  | false =>
    exact st_isNeedless_x C S hk hi hroom e1 (r9 := nI 1) (by decide) (by decide) (Or.inl rfl) (fun sz => L_isNeedless_1 l hl0 D ca sa L f h0 ta pa aT aP aS aH n9 k V hR v1 h ob g sz) (fun sz => m_isNeedless_1 l D ca sa hm ad _ _ _ _ _ _ v1 h sz) kk
  | true =>
    obtain ⟨q, hq, eq⟩ := iT_of (by omega) h
    subst eq
    exact st_isNeedless_ok C S hk hi hroom e1 (by decide) (by decide) (P := fun x9 u => x9 = _ ∧ u = (L, f)) (fun x u h => ⟨h.1, by rw [h.2]; exact hup⟩) (hIu) (fun sz => L_isNeedless_ok l D ca sa L f h0 ta pa aT aP aS aH n9 k V hR q hq ob g sz) (fun sz => by
          have h := m_isNeedless l D ca sa hm ad th (vTd V) (vNt V) (vNp V) nc M q (fun t => (vT V t).1) hq hnp hnt hnc htd (fun t ht => ⟨(I.2.1 t ht).1, (I.2.1 t ht).2.2.1⟩) sz
          rw [← show _ = _ from congrArg bI (i_need I hq)] at h
          exact h) kk
