/-! the law's isNeedless: true, and all is as it was -/
theorem tU_back {T : zT} {j i v v1 : Nat} (h : T j i = v) : tU (tU T j i v1) j i v = T := funext fun j9 => funext fun k => by
  show (if j9 = j ∧ k = i then v else if j9 = j ∧ k = i then v1 else T j9 k) = T j9 k
  by_cases c : j9 = j ∧ k = i
  · rw [if_pos c, c.1, c.2, h]
  · rw [if_neg c, if_neg c]
set_option maxHeartbeats 4000000 in
set_option maxRecDepth 100000 in
theorem k_need (l : Launch) (D : va_G) (ca : Nat → ClassId) (sa : Nat → Nat) (L : List Nat) (f : Nat → va_E) (h0 ta pa : Nat) (aT aP aS : Nat → Nat) (aH : Nat → Nat → Nat) (n K : Nat) (V : zV) (hR : zRep L f ca h0 ta pa aT aP aS aH n K V) (aa : Nat → Nat) (T : zT) (J : Jv V T) (hK : K + 2 ≤ 512) (q t g : Nat) (hq : q < vNp V) (ht : t < vNt V) (hg : g ≤ 3) (sz : Nat) : Met l yL_isNeedless wsL_isNeedless ({ frames := 9, cells := 2, slots := 8, locals := 420 }) (va_Pc [.ref h0, .ref (aa 0), .int (nI q), .int (nI t), .int (nI g)] (zMp D (va_pl L f ++ tW ca aa T) ca sa sz)) (va_Qi (fun (r : Int32) (u : zU × zT) => r = nI 1 ∧ ∃ V1 : zV, Jv V1 u.2 ∧ zR u.1.1 u.1.2 ca h0 (K + 2) V1) (fun u t => va_P D vwCl (va_pl u.1.1 u.1.2 ++ tW ca aa u.2) t.heap ∧ va_D (va_A (va_pl L f ++ tW ca aa T) sz) (va_pl u.1.1 u.1.2 ++ tW ca aa u.2)) (va_A (va_pl L f ++ tW ca aa T) sz)) 2 8 (va_A (va_pl L f ++ tW ca aa T) sz) := by
  refine Met.ofW (cc := cL_isNeedless) (maxL := 10) (ret := (some .boolean)) (by decide) rfl ?_
  intro p e s m args below meth c s₁ B hml hv
  obtain ⟨rfl, hsz, hPT, hD0, hE⟩ := hv
  have hx := B.exec
  have hb := B.bytes
  have hr := B.returns
  have hts := atoms_spec (ws := wsL_isNeedless) B.pre
  have hown : s.vm.findClass RL = some m.cls := findClass_of_methodNamed B.named
  have hlocks := B.notSynchronized
  have hl := lv_entry ([.ref h0, .ref (aa 0), .int (nI q), .int (nI t), .int (nI g)]) (n := 10) (Nat.le_of_ble_eq_true rfl)
  rw [lg_entry_eq]
  generalize (lg_sl ([.ref h0, .ref (aa 0), .int (nI q), .int (nI t), .int (nI g)]) ++ List.replicate (10 - (lg_sl ([.ref h0, .ref (aa 0), .int (nI q), .int (nI t), .int (nI g)])).length) Slot.unset).toArray = ls at hl ⊢
  have hl : lv_has ls 10 [(0, .ref h0), (1, .ref (aa 0)), (2, .int (nI q)), (3, .int (nI t)), (4, .int (nI g))] := hl
  subst hsz
  have hD := hD0.self (sz := s.heap.size)
  generalize hAe : va_A (va_pl L f ++ tW ca aa T) s.heap.size = A at hD ⊢
  have hA : ∀ q : Nat, s.heap.size ≤ q → A q := fun q h => by rw [← hAe]; exact Or.inr h
  have hP := p2_l hPT
  have hT := p2_r hPT
  have hS : va_S A s.heap s.heap [] := va_S.rf
  have h4 := hR.1.1
  have hBd := Bd_of hR
  have htd9 := hBd.1.1
  have hnp9 := J.1.2.1
  have hnt9 := J.1.2.2.2.1
  have hS9 := (J.2.2.1 q hq).2.1.2.2
  have hs9 : T 0 (24 + q) = bN (sOn (vL V q 20)) := (J.2.2.1 q hq).2.1.1
  have hb1 := bN_le (sOn (vL V q 20))
  have hb2 := bN_le (cNd V q (vNt V) 0)
  have hoff : bN (sOn (vL V q 20)) = 0 → bN (cNd V q (vNt V) 0) = 1 := fun h => by
    refine bN_1 (v_off ?_ _)
    have h7 := bN_f h
    unfold zOp
    rw [zDr_all hS9]
    cases e9 : vL V q 20 with
    | nil => rfl
    | cons c r =>
      rw [e9] at h7
      have h7 : decide (¬ c.2.1 = 0) = false := h7
      show c.2.1 &&& _ = 0
      rw [Classical.byContradiction (of_decide_eq_false h7), Int64.zero_and]
  obtain ⟨fy5, -, -⟩ := hBd.2.1 t ht
  have hRA := pAl_le (fun y => nW V t y g (vTd V)) (vTd V / 360 + 1 - (vT V t).1) (vT V t).1 0
  have finR : ∀ (pc1 : Nat) (V1 : zV) (u : zU) (H1 : Heap) (locs1 : List Loc) (ls1 : Array Slot), decode cL_isNeedless pc1 = .ok (.ireturn, 1) → Jv V1 T → zR u.1 u.2 ca h0 (K + 2) V1 → va_P D vwCl (va_pl u.1 u.2) H1 → va_P D vwCl (tW ca aa T) H1 → va_D A (va_pl u.1 u.2 ++ tW ca aa T) → va_S A s.heap H1 locs1 → W p l e (headSpec wsL_isNeedless ({ frames := 9, cells := 2, slots := 8, locals := 420 })).room s m ([.ref h0, .ref (aa 0), .int (nI q), .int (nI t), .int (nI g)] : List Value).toArray below meth c H1 locs1 2 8 (MQ below (va_Qi (fun (r : Int32) (u : zU × zT) => r = nI 1 ∧ ∃ V1 : zV, Jv V1 u.2 ∧ zR u.1.1 u.1.2 ca h0 (K + 2) V1) (fun u t => va_P D vwCl (va_pl u.1.1 u.1.2 ++ tW ca aa u.2) t.heap ∧ va_D A (va_pl u.1.1 u.1.2 ++ tW ca aa u.2)) A) ([.ref h0, .ref (aa 0), .int (nI q), .int (nI t), .int (nI g)] : List Value).toArray s 2 8 A) (F0 m pc1 ls1 [.int (nI 1)]) := by
    intro pc1 V1 u H1 locs1 ls1 hd1 J1 hR1 hP1 hT1 hD1 hS1
    exact W.zret hx hb hr rfl (fun t9 ht9 _ => ⟨⟨nI 1, (u, T), rfl, ⟨rfl, V1, J1, hR1⟩, by show va_P D vwCl (va_pl u.1 u.2 ++ tW ca aa T) t9.heap; rw [ht9]; exact hP1.app hT1, hD1⟩, hS1.F ht9⟩) hS1.2.2 hd1 hlocks
  have mid : ∀ (ls : Array Slot), sOn (vL V q 20) = true → cNd V q (vNt V) 0 = true → lv_has ls 10 [(7, .int (nI 0)), (6, .int (nI (pAl (fun y => nW V t y g (vTd V)) (vTd V / 360 + 1 - (vT V t).1) (vT V t).1 0))), (5, .int (nI (bN (cNd V q (vNt V) 0)))), (0, .ref h0), (1, .ref (aa 0)), (2, .int (nI q)), (3, .int (nI t)), (4, .int (nI g))] → W p l e (headSpec wsL_isNeedless ({ frames := 9, cells := 2, slots := 8, locals := 420 })).room s m ([.ref h0, .ref (aa 0), .int (nI q), .int (nI t), .int (nI g)] : List Value).toArray below meth c s.heap [] 0 0 (MQ below (va_Qi (fun (r : Int32) (u : zU × zT) => r = nI 1 ∧ ∃ V1 : zV, Jv V1 u.2 ∧ zR u.1.1 u.1.2 ca h0 (K + 2) V1) (fun u t => va_P D vwCl (va_pl u.1.1 u.1.2 ++ tW ca aa u.2) t.heap ∧ va_D A (va_pl u.1.1 u.1.2 ++ tW ca aa u.2)) A) ([.ref h0, .ref (aa 0), .int (nI q), .int (nI t), .int (nI g)] : List Value).toArray s 2 8 A) (F0 m 101 ls []) := by
    intro ls hs1 hn1 hl
    refine lv_aload_n hx hb dL_isNeedless_101 rfl (lv_at hl 3 rfl) ?_
    refine lv_iload_n hx hb dL_isNeedless_102 rfl (lv_at hl 5 rfl) ?_
    refine lv_iconst (v := nI 0) hx hb dL_isNeedless_103 (by decide) ?_
    refine zasi (show nI 0 = bI false from rfl) ?_
    refine ztw (va_runV (As := [.int (nI q), .int (bI false)]) (rest := []) ⟨hx, hb, hml, hown, hts⟩ (w_subscribe l D ca sa L f h0 ta pa aT aP aS aH n K V hR q false hq (by omega) _) (cwV 2 hts gL_isNeedless_X4_subscribe rfl rfl rfl (by decide +kernel) ⟨Nat.le_of_ble_eq_true rfl, Nat.le_of_ble_eq_true rfl⟩) (zmVp hP (w2_l hD) hE rfl h4) rfl rfl hl.1 rfl (lv_room (Nat.le_of_ble_eq_true rfl)) dL_isNeedless_104 ⟨Nat.le_of_ble_eq_true rfl, Nat.le_of_ble_eq_true rfl⟩) hT hD hS hA (fun r u H locs hu hP hT hD hS => ?_)
    obtain ⟨rfl, hu⟩ := hu
    refine zasi (bI_bN _) ?_
    refine zasi (show nI (bN (zOn (vTd V) (vL V q 20))) = nI 1 from by rw [zOn_all hS9, hs1]; rfl) ?_
    obtain ⟨ta9, pa9, aT9, aP9, aS9, aH9, n9, hR9⟩ := hu
    have hR9 : zRep u.1 u.2 ca h0 ta9 pa9 aT9 aP9 aS9 aH9 n9 (K + 1) (vOff V q) := hR9
    have h4 := hR9.1.1
    have hB9 := Bd_of hR9
    refine lv_istore (lv' := [(8, .int (nI 1)), (7, .int (nI 0)), (6, .int (nI (pAl (fun y => nW V t y g (vTd V)) (vTd V / 360 + 1 - (vT V t).1) (vT V t).1 0))), (5, .int (nI (bN (cNd V q (vNt V) 0)))), (0, .ref h0), (1, .ref (aa 0)), (2, .int (nI q)), (3, .int (nI t)), (4, .int (nI g))]) hx hb dL_isNeedless_107 hl (by decide) rfl (fun ls hl => ?_)
    refine lv_aload_n hx hb dL_isNeedless_109 rfl (lv_at hl 5 rfl) ?_
    refine lv_bipush (v := nI 30) hx hb dL_isNeedless_110 (by decide) ?_
    refine lv_iload_n hx hb dL_isNeedless_112 rfl (lv_at hl 7 rfl) ?_
    refine nadd hx hb dL_isNeedless_113 ?_
    refine zti hx hb hE hT 0 (by decide) (i := (30 + t)) (by show (30 + t) < 41; omega) dL_isNeedless_114 ?_
    refine zasi (congrArg nI (show (T 0 (30 + t)) = (vT V t).1 from (J.2.1 t ht).1)) ?_
    refine lv_istore (lv' := [(9, .int (nI ((vT V t).1))), (8, .int (nI 1)), (7, .int (nI 0)), (6, .int (nI (pAl (fun y => nW V t y g (vTd V)) (vTd V / 360 + 1 - (vT V t).1) (vT V t).1 0))), (5, .int (nI (bN (cNd V q (vNt V) 0)))), (0, .ref h0), (1, .ref (aa 0)), (2, .int (nI q)), (3, .int (nI t)), (4, .int (nI g))]) hx hb dL_isNeedless_115 hl (by decide) rfl (fun ls hl => ?_)
    have finB : ∀ (ls : Array Slot), lv_has ls 10 [(8, .int (nI 1)), (7, .int (nI (pAl (fun y => nW (vOff V q) t y g (vTd V)) (vTd V / 360 + 1 - (vT V t).1) (vT V t).1 0))), (6, .int (nI (pAl (fun y => nW V t y g (vTd V)) (vTd V / 360 + 1 - (vT V t).1) (vT V t).1 0))), (5, .int (nI (bN (cNd V q (vNt V) 0)))), (0, .ref h0), (1, .ref (aa 0)), (2, .int (nI q)), (3, .int (nI t)), (4, .int (nI g))] → W p l e (headSpec wsL_isNeedless ({ frames := 9, cells := 2, slots := 8, locals := 420 })).room s m ([.ref h0, .ref (aa 0), .int (nI q), .int (nI t), .int (nI g)] : List Value).toArray below meth c H locs (0 + 1) (0 + 4) (MQ below (va_Qi (fun (r : Int32) (u : zU × zT) => r = nI 1 ∧ ∃ V1 : zV, Jv V1 u.2 ∧ zR u.1.1 u.1.2 ca h0 (K + 2) V1) (fun u t => va_P D vwCl (va_pl u.1.1 u.1.2 ++ tW ca aa u.2) t.heap ∧ va_D A (va_pl u.1.1 u.1.2 ++ tW ca aa u.2)) A) ([.ref h0, .ref (aa 0), .int (nI q), .int (nI t), .int (nI g)] : List Value).toArray s 2 8 A) (F0 m 162 ls []) := by
      intro ls hl
      refine lv_iload hx hb dL_isNeedless_162 (lv_at hl 0 rfl) ?_
      refine nif_eq (tgt := 187) hx hb dL_isNeedless_164 (by decide) (by decide) (fun c_164 => ?_) (fun c_164 => ?_)
      · exact absurd c_164 (by decide)
      · refine lv_iload hx hb dL_isNeedless_167 (lv_at hl 2 rfl) ?_
        refine lv_iload hx hb dL_isNeedless_169 (lv_at hl 1 rfl) ?_
        refine zasi (congrArg nI (show (pAl (fun y => nW (vOff V q) t y g (vTd V)) (vTd V / 360 + 1 - (vT V t).1) (vT V t).1 0) = pAl (fun y => nW V t y g (vTd V)) (vTd V / 360 + 1 - (vT V t).1) (vT V t).1 0 from (pAl_cong _ _ _ (fun j j1 j2 => off_W J hBd hq ht hg hn1 j1 (by omega))))) ?_
        refine nicmp_ne (tgt := 187) hx hb dL_isNeedless_171 (by decide) (by omega) (by omega) (fun c_171 => ?_) (fun c_171 => ?_)
        · exact absurd rfl c_171
        · refine lv_aload_n hx hb dL_isNeedless_174 rfl (lv_at hl 4 rfl) ?_
          refine lv_iload_n hx hb dL_isNeedless_175 rfl (lv_at hl 6 rfl) ?_
          refine lv_iconst (v := nI 1) hx hb dL_isNeedless_176 (by decide) ?_
          refine zasi (show nI 1 = bI true from rfl) ?_
          refine ztw (va_runV (As := [.int (nI q), .int (bI true)]) (rest := []) ⟨hx, hb, hml, hown, hts⟩ (w_subscribe l D ca sa u.1 u.2 h0 _ _ _ _ _ _ _ _ (vOff V q) hR9 q true hq (by omega) _) (cwV 2 hts gL_isNeedless_X4_subscribe rfl rfl rfl (by decide +kernel) ⟨Nat.le_of_ble_eq_true rfl, Nat.le_of_ble_eq_true rfl⟩) (zmVp hP (w2_l hD) hE rfl h4) rfl rfl hl.1 rfl (lv_room (Nat.le_of_ble_eq_true rfl)) dL_isNeedless_177 ⟨Nat.le_of_ble_eq_true rfl, Nat.le_of_ble_eq_true rfl⟩) hT hD hS hA (fun r u H locs hu hP hT hD hS => ?_)
          obtain ⟨rfl, hu⟩ := hu
          refine zasi (bI_bN _) ?_
          refine zasi (show nI (bN (zOn (vTd V) (vL (vOff V q) q 20))) = nI 0 from by show nI (bN (zOn (vTd V) (zU2 (vL V) q 20 ((vTd V, zAll false, 0) :: vL V q 20) q 20))) = nI 0; rw [zU2_s, zOn_all (hT_c hS9 _ _)]; exact congrArg (fun z => nI (bN z)) (zAll_0 false)) ?_
          obtain ⟨_, _, _, _, _, _, _, hR8⟩ := hu
          have Jn := j_sub (j_sub J hq false) (q0 := q) hq true
          rw [tU_back (show T 0 (24 + q) = bN true by rw [hs9, hs1])] at Jn
          refine nif_ne (tgt := 187) hx hb dL_isNeedless_180 (by decide) (by omega) (fun c_180 => ?_) (fun c_180 => ?_)
          · exact absurd rfl c_180
          · refine lv_iconst (v := nI 1) hx hb dL_isNeedless_183 (by decide) ?_
            refine lv_goto (tgt := 188) hx hb dL_isNeedless_184 (by decide) ?_
            refine W.widen (k := 2) (n := 8) (Nat.le_of_ble_eq_true rfl) (Nat.le_of_ble_eq_true rfl) ?_
            exact finR _ _ u _ _ _ dL_isNeedless_188 Jn ⟨_, _, _, _, _, _, _, hR8⟩ hP hT hD hS
    have loopB : ∀ (k9 y acc : Nat) (ls : Array Slot), k9 = vTd V / 360 + 1 - y → acc + k9 ≤ 60 → y ≤ 60 → pAl (fun y => nW (vOff V q) t y g (vTd V)) k9 y acc = pAl (fun y => nW (vOff V q) t y g (vTd V)) (vTd V / 360 + 1 - (vT V t).1) (vT V t).1 0 → lv_has ls 10 [(9, .int (nI y)), (8, .int (nI 1)), (7, .int (nI acc)), (6, .int (nI (pAl (fun y => nW V t y g (vTd V)) (vTd V / 360 + 1 - (vT V t).1) (vT V t).1 0))), (5, .int (nI (bN (cNd V q (vNt V) 0)))), (0, .ref h0), (1, .ref (aa 0)), (2, .int (nI q)), (3, .int (nI t)), (4, .int (nI g))] → W p l e (headSpec wsL_isNeedless ({ frames := 9, cells := 2, slots := 8, locals := 420 })).room s m ([.ref h0, .ref (aa 0), .int (nI q), .int (nI t), .int (nI g)] : List Value).toArray below meth c H locs (0 + 1) (0 + 4) (MQ below (va_Qi (fun (r : Int32) (u : zU × zT) => r = nI 1 ∧ ∃ V1 : zV, Jv V1 u.2 ∧ zR u.1.1 u.1.2 ca h0 (K + 2) V1) (fun u t => va_P D vwCl (va_pl u.1.1 u.1.2 ++ tW ca aa u.2) t.heap ∧ va_D A (va_pl u.1.1 u.1.2 ++ tW ca aa u.2)) A) ([.ref h0, .ref (aa 0), .int (nI q), .int (nI t), .int (nI g)] : List Value).toArray s 2 8 A) (F0 m 117 ls []) := by
      intro k9
      induction k9 with
      | zero =>
        intro y acc ls hk9 ha9 hy9 e1 hl
        refine lv_iload hx hb dL_isNeedless_117 (lv_at hl 0 rfl) ?_
        refine lv_aload_n hx hb dL_isNeedless_119 rfl (lv_at hl 6 rfl) ?_
        refine lv_bipush (v := nI 40) hx hb dL_isNeedless_120 (by decide) ?_
        refine zti hx hb hE hT 0 (by decide) (i := 40) (by show 40 < 41; omega) dL_isNeedless_122 ?_
        refine zasi (congrArg nI (show (T 0 40) = vTd V from J.1.2.2.2.2)) ?_
        refine lv_sipush (v := nI 360) hx hb dL_isNeedless_123 (by decide) ?_
        refine ndiv hx hb (by omega) (by omega) (by omega) dL_isNeedless_126 ?_
        refine nicmp_gt (tgt := 162) hx hb dL_isNeedless_127 (by decide) (by omega) (by omega) (fun c_127 => ?_) (fun c_127 => ?_)
        · refine finB ls ?_
          rw [← e1]
          exact lv_sub hl [1, 2, 3, 4, 5, 6, 7, 8, 9] rfl
        · exact absurd c_127 (by omega)
      | succ k9 ih =>
        intro y acc ls hk9 ha9 hy9 e1 hl
        refine lv_iload hx hb dL_isNeedless_117 (lv_at hl 0 rfl) ?_
        refine lv_aload_n hx hb dL_isNeedless_119 rfl (lv_at hl 6 rfl) ?_
        refine lv_bipush (v := nI 40) hx hb dL_isNeedless_120 (by decide) ?_
        refine zti hx hb hE hT 0 (by decide) (i := 40) (by show 40 < 41; omega) dL_isNeedless_122 ?_
        refine zasi (congrArg nI (show (T 0 40) = vTd V from J.1.2.2.2.2)) ?_
        refine lv_sipush (v := nI 360) hx hb dL_isNeedless_123 (by decide) ?_
        refine ndiv hx hb (by omega) (by omega) (by omega) dL_isNeedless_126 ?_
        refine nicmp_gt (tgt := 162) hx hb dL_isNeedless_127 (by decide) (by omega) (by omega) (fun c_127 => ?_) (fun c_127 => ?_)
        · exact absurd c_127 (by omega)
        · refine lv_iload hx hb dL_isNeedless_130 (lv_at hl 2 rfl) ?_
          refine lv_aload_n hx hb dL_isNeedless_132 rfl (lv_at hl 5 rfl) ?_
          refine lv_iload_n hx hb dL_isNeedless_133 rfl (lv_at hl 8 rfl) ?_
          refine lv_iload hx hb dL_isNeedless_134 (lv_at hl 0 rfl) ?_
          refine lv_iload hx hb dL_isNeedless_136 (lv_at hl 9 rfl) ?_
          refine lv_aload_n hx hb dL_isNeedless_138 rfl (lv_at hl 6 rfl) ?_
          refine lv_bipush (v := nI 40) hx hb dL_isNeedless_139 (by decide) ?_
          refine zti hx hb hE hT 0 (by decide) (i := 40) (by show 40 < 41; omega) dL_isNeedless_141 ?_
          refine zasi (congrArg nI (show (T 0 40) = vTd V from J.1.2.2.2.2)) ?_
          refine zci (va_runV (As := [.int (nI t), .int (nI y), .int (nI g), .int (nI (vTd V))]) (rest := [.int (nI acc)]) ⟨hx, hb, hml, hown, hts⟩ (c_ways l D ca sa u.1 u.2 h0 _ _ _ _ _ _ _ _ (vOff V q) hR9 t ht y g (vTd V) (by omega) hg (Nat.le_refl _)) (cwV 4 hts gL_isNeedless_X4_ways rfl rfl rfl (by decide +kernel) ⟨Nat.le_of_ble_eq_true rfl, Nat.le_of_ble_eq_true rfl⟩) (zpVp hP hE rfl h4) rfl rfl hl.1 rfl (lv_room (Nat.le_of_ble_eq_true rfl)) dL_isNeedless_142 ⟨Nat.le_of_ble_eq_true rfl, Nat.le_of_ble_eq_true rfl⟩) ?_
          refine zasi (show swI (wTo (vOff V q) t y g (vTd V) (vNp V)) = nI (nW (vOff V q) t y g (vTd V)) from v_ways hB9 t y g (vTd V)) ?_
          have hW9 := nW_le hB9 t y g (vTd V)
          refine tern (M := 153) (rest := [.int (nI acc)]) (P := fun v9 : Nat => v9 = if 0 < nW (vOff V q) t y g (vTd V) then 1 else 0) (fun K9 => ?_) (fun x9 hx9 => ?_)
          · refine nif_le (tgt := 152) hx hb dL_isNeedless_145 (by decide) (by omega) (fun c_145 => ?_) (fun c_145 => ?_)
            · refine lv_iconst (v := nI 0) hx hb dL_isNeedless_152 (by decide) ?_
              exact K9 0 (by show _ = _; first | (rw [if_pos (by omega)]) | (rw [if_neg (by omega)]))
            · refine lv_iconst (v := nI 1) hx hb dL_isNeedless_148 (by decide) ?_
              refine lv_goto (tgt := 153) hx hb dL_isNeedless_149 (by decide) ?_
              exact K9 1 (by show _ = _; first | (rw [if_pos (by omega)]) | (rw [if_neg (by omega)]))
          refine nadd hx hb dL_isNeedless_153 ?_
          refine lv_istore (lv' := [(7, .int (nI (acc + x9))), (9, .int (nI y)), (8, .int (nI 1)), (6, .int (nI (pAl (fun y => nW V t y g (vTd V)) (vTd V / 360 + 1 - (vT V t).1) (vT V t).1 0))), (5, .int (nI (bN (cNd V q (vNt V) 0)))), (0, .ref h0), (1, .ref (aa 0)), (2, .int (nI q)), (3, .int (nI t)), (4, .int (nI g))]) hx hb dL_isNeedless_154 hl (by decide) rfl (fun ls hl => ?_)
          refine lv_iinc (v := (nI (y + 1))) (lv' := [(9, .int (nI (y + 1))), (7, .int (nI (acc + x9))), (8, .int (nI 1)), (6, .int (nI (pAl (fun y => nW V t y g (vTd V)) (vTd V / 360 + 1 - (vT V t).1) (vT V t).1 0))), (5, .int (nI (bN (cNd V q (vNt V) 0)))), (0, .ref h0), (1, .ref (aa 0)), (2, .int (nI q)), (3, .int (nI t)), (4, .int (nI g))]) hx hb dL_isNeedless_156 hl (k := 1) rfl (zinc1 _) (by decide) rfl (fun ls hl => ?_)
          refine lv_goto (tgt := 117) hx hb dL_isNeedless_159 (by decide) ?_
          exact ih (y + 1) (acc + x9) ls (by omega) (by rw [hx9]; split <;> omega) (by omega) (by rw [hx9]; exact e1) (lv_sub hl [0, 2, 1, 3, 4, 5, 6, 7, 8, 9] rfl)
    exact loopB _ (vT V t).1 0 ls rfl (by omega) (by omega) rfl (lv_sub hl [0, 1, 2, 3, 4, 5, 6, 7, 8, 9] rfl)
  have loopA : sOn (vL V q 20) = true → cNd V q (vNt V) 0 = true → ∀ (k9 y acc : Nat) (ls : Array Slot), k9 = vTd V / 360 + 1 - y → acc + k9 ≤ 60 → y ≤ 60 → pAl (fun y => nW V t y g (vTd V)) k9 y acc = pAl (fun y => nW V t y g (vTd V)) (vTd V / 360 + 1 - (vT V t).1) (vT V t).1 0 → lv_has ls 10 [(8, .int (nI y)), (7, .int (nI 0)), (6, .int (nI acc)), (5, .int (nI (bN (cNd V q (vNt V) 0)))), (0, .ref h0), (1, .ref (aa 0)), (2, .int (nI q)), (3, .int (nI t)), (4, .int (nI g))] → W p l e (headSpec wsL_isNeedless ({ frames := 9, cells := 2, slots := 8, locals := 420 })).room s m ([.ref h0, .ref (aa 0), .int (nI q), .int (nI t), .int (nI g)] : List Value).toArray below meth c s.heap [] 0 0 (MQ below (va_Qi (fun (r : Int32) (u : zU × zT) => r = nI 1 ∧ ∃ V1 : zV, Jv V1 u.2 ∧ zR u.1.1 u.1.2 ca h0 (K + 2) V1) (fun u t => va_P D vwCl (va_pl u.1.1 u.1.2 ++ tW ca aa u.2) t.heap ∧ va_D A (va_pl u.1.1 u.1.2 ++ tW ca aa u.2)) A) ([.ref h0, .ref (aa 0), .int (nI q), .int (nI t), .int (nI g)] : List Value).toArray s 2 8 A) (F0 m 56 ls []) := by
    intro hs1 hn1 k9
    induction k9 with
    | zero =>
      intro y acc ls hk9 ha9 hy9 e1 hl
      refine lv_iload hx hb dL_isNeedless_56 (lv_at hl 0 rfl) ?_
      refine lv_aload_n hx hb dL_isNeedless_58 rfl (lv_at hl 5 rfl) ?_
      refine lv_bipush (v := nI 40) hx hb dL_isNeedless_59 (by decide) ?_
      refine zti hx hb hE hT 0 (by decide) (i := 40) (by show 40 < 41; omega) dL_isNeedless_61 ?_
      refine zasi (congrArg nI (show (T 0 40) = vTd V from J.1.2.2.2.2)) ?_
      refine lv_sipush (v := nI 360) hx hb dL_isNeedless_62 (by decide) ?_
      refine ndiv hx hb (by omega) (by omega) (by omega) dL_isNeedless_65 ?_
      refine nicmp_gt (tgt := 101) hx hb dL_isNeedless_66 (by decide) (by omega) (by omega) (fun c_66 => ?_) (fun c_66 => ?_)
      · refine mid ls hs1 hn1 ?_
        rw [← e1]
        exact lv_sub hl [1, 2, 3, 4, 5, 6, 7, 8] rfl
      · exact absurd c_66 (by omega)
    | succ k9 ih =>
      intro y acc ls hk9 ha9 hy9 e1 hl
      refine lv_iload hx hb dL_isNeedless_56 (lv_at hl 0 rfl) ?_
      refine lv_aload_n hx hb dL_isNeedless_58 rfl (lv_at hl 5 rfl) ?_
      refine lv_bipush (v := nI 40) hx hb dL_isNeedless_59 (by decide) ?_
      refine zti hx hb hE hT 0 (by decide) (i := 40) (by show 40 < 41; omega) dL_isNeedless_61 ?_
      refine zasi (congrArg nI (show (T 0 40) = vTd V from J.1.2.2.2.2)) ?_
      refine lv_sipush (v := nI 360) hx hb dL_isNeedless_62 (by decide) ?_
      refine ndiv hx hb (by omega) (by omega) (by omega) dL_isNeedless_65 ?_
      refine nicmp_gt (tgt := 101) hx hb dL_isNeedless_66 (by decide) (by omega) (by omega) (fun c_66 => ?_) (fun c_66 => ?_)
      · exact absurd c_66 (by omega)
      · refine lv_iload hx hb dL_isNeedless_69 (lv_at hl 2 rfl) ?_
        refine lv_aload_n hx hb dL_isNeedless_71 rfl (lv_at hl 4 rfl) ?_
        refine lv_iload_n hx hb dL_isNeedless_72 rfl (lv_at hl 7 rfl) ?_
        refine lv_iload hx hb dL_isNeedless_73 (lv_at hl 0 rfl) ?_
        refine lv_iload hx hb dL_isNeedless_75 (lv_at hl 8 rfl) ?_
        refine lv_aload_n hx hb dL_isNeedless_77 rfl (lv_at hl 5 rfl) ?_
        refine lv_bipush (v := nI 40) hx hb dL_isNeedless_78 (by decide) ?_
        refine zti hx hb hE hT 0 (by decide) (i := 40) (by show 40 < 41; omega) dL_isNeedless_80 ?_
        refine zasi (congrArg nI (show (T 0 40) = vTd V from J.1.2.2.2.2)) ?_
        refine zci (va_runV (As := [.int (nI t), .int (nI y), .int (nI g), .int (nI (vTd V))]) (rest := [.int (nI acc)]) ⟨hx, hb, hml, hown, hts⟩ (c_ways l D ca sa L f h0 ta pa aT aP aS aH n K V hR t ht y g (vTd V) (by omega) hg (Nat.le_refl _)) (cwV 4 hts gL_isNeedless_X4_ways rfl rfl rfl (by decide +kernel) ⟨Nat.le_of_ble_eq_true rfl, Nat.le_of_ble_eq_true rfl⟩) (zpVp hP hE rfl h4) rfl rfl hl.1 rfl (lv_room (Nat.le_of_ble_eq_true rfl)) dL_isNeedless_81 ⟨Nat.le_of_ble_eq_true rfl, Nat.le_of_ble_eq_true rfl⟩) ?_
        refine zasi (show swI (wTo V t y g (vTd V) (vNp V)) = nI (nW V t y g (vTd V)) from v_ways hBd t y g (vTd V)) ?_
        have hW9 := nW_le hBd t y g (vTd V)
        refine tern (M := 92) (rest := [.int (nI acc)]) (P := fun v9 : Nat => v9 = if 0 < nW V t y g (vTd V) then 1 else 0) (fun K9 => ?_) (fun x9 hx9 => ?_)
        · refine nif_le (tgt := 91) hx hb dL_isNeedless_84 (by decide) (by omega) (fun c_84 => ?_) (fun c_84 => ?_)
          · refine lv_iconst (v := nI 0) hx hb dL_isNeedless_91 (by decide) ?_
            exact K9 0 (by show _ = _; first | (rw [if_pos (by omega)]) | (rw [if_neg (by omega)]))
          · refine lv_iconst (v := nI 1) hx hb dL_isNeedless_87 (by decide) ?_
            refine lv_goto (tgt := 92) hx hb dL_isNeedless_88 (by decide) ?_
            exact K9 1 (by show _ = _; first | (rw [if_pos (by omega)]) | (rw [if_neg (by omega)]))
        refine nadd hx hb dL_isNeedless_92 ?_
        refine lv_istore (lv' := [(6, .int (nI (acc + x9))), (8, .int (nI y)), (7, .int (nI 0)), (5, .int (nI (bN (cNd V q (vNt V) 0)))), (0, .ref h0), (1, .ref (aa 0)), (2, .int (nI q)), (3, .int (nI t)), (4, .int (nI g))]) hx hb dL_isNeedless_93 hl (by decide) rfl (fun ls hl => ?_)
        refine lv_iinc (v := (nI (y + 1))) (lv' := [(8, .int (nI (y + 1))), (6, .int (nI (acc + x9))), (7, .int (nI 0)), (5, .int (nI (bN (cNd V q (vNt V) 0)))), (0, .ref h0), (1, .ref (aa 0)), (2, .int (nI q)), (3, .int (nI t)), (4, .int (nI g))]) hx hb dL_isNeedless_95 hl (k := 1) rfl (zinc1 _) (by decide) rfl (fun ls hl => ?_)
        refine lv_goto (tgt := 56) hx hb dL_isNeedless_98 (by decide) ?_
        exact ih (y + 1) (acc + x9) ls (by omega) (by rw [hx9]; split <;> omega) (by omega) (by rw [hx9]; exact e1) (lv_sub hl [0, 2, 1, 3, 4, 5, 6, 7, 8] rfl)
  refine lv_aload_n hx hb dL_isNeedless_0 rfl (lv_at hl 0 rfl) ?_
  refine lv_iload_n hx hb dL_isNeedless_1 rfl (lv_at hl 2 rfl) ?_
  refine zci (va_runV (As := [.int (nI q)]) (rest := []) ⟨hx, hb, hml, hown, hts⟩ (c_isNeedless l D ca sa L f h0 ta pa aT aP aS aH n K V hR q hq) (cwV 1 hts gL_isNeedless_X4_isNeedless rfl rfl rfl (by decide +kernel) ⟨Nat.le_of_ble_eq_true rfl, Nat.le_of_ble_eq_true rfl⟩) (zpVp hP hE rfl h4) rfl rfl hl.1 rfl (lv_room (Nat.le_of_ble_eq_true rfl)) dL_isNeedless_2 ⟨Nat.le_of_ble_eq_true rfl, Nat.le_of_ble_eq_true rfl⟩) ?_
  refine zasi (bI_bN _) ?_
  refine lv_istore (lv' := [(5, .int (nI (bN (cNd V q (vNt V) 0)))), (0, .ref h0), (1, .ref (aa 0)), (2, .int (nI q)), (3, .int (nI t)), (4, .int (nI g))]) hx hb dL_isNeedless_5 hl (by decide) rfl (fun ls hl => ?_)
  refine lv_aload_n hx hb dL_isNeedless_7 rfl (lv_at hl 2 rfl) ?_
  refine lv_bipush (v := nI 24) hx hb dL_isNeedless_8 (by decide) ?_
  refine lv_iload_n hx hb dL_isNeedless_10 rfl (lv_at hl 3 rfl) ?_
  refine nadd hx hb dL_isNeedless_11 ?_
  refine zti hx hb hE hT 0 (by decide) (i := (24 + q)) (by show (24 + q) < 41; omega) dL_isNeedless_12 ?_
  refine zasi (congrArg nI (show (T 0 (24 + q)) = bN (sOn (vL V q 20)) from hs9)) ?_
  refine nif_eq (tgt := 21) hx hb dL_isNeedless_13 (by decide) (by omega) (fun c_13 => ?_) (fun c_13 => ?_)
  · refine lv_iload hx hb dL_isNeedless_21 (lv_at hl 0 rfl) ?_
    refine nif_ne (tgt := 36) hx hb dL_isNeedless_23 (by decide) (by omega) (fun c_23 => ?_) (fun c_23 => ?_)
    · refine lv_iconst (v := nI 1) hx hb dL_isNeedless_36 (by decide) ?_
      refine lv_goto (tgt := 41) hx hb dL_isNeedless_37 (by decide) ?_
      refine W.widen (k := 2) (n := 8) (Nat.le_of_ble_eq_true rfl) (Nat.le_of_ble_eq_true rfl) ?_
      exact finR _ V (L, f) _ _ _ dL_isNeedless_41 J ⟨_, _, _, _, _, _, _, zRep_up hR (by omega) hK⟩ hP hT hD hS
    · refine lv_aload_n hx hb dL_isNeedless_26 rfl (lv_at hl 2 rfl) ?_
      refine lv_bipush (v := nI 24) hx hb dL_isNeedless_27 (by decide) ?_
      refine lv_iload_n hx hb dL_isNeedless_29 rfl (lv_at hl 3 rfl) ?_
      refine nadd hx hb dL_isNeedless_30 ?_
      refine zti hx hb hE hT 0 (by decide) (i := (24 + q)) (by show (24 + q) < 41; omega) dL_isNeedless_31 ?_
      refine zasi (congrArg nI (show (T 0 (24 + q)) = bN (sOn (vL V q 20)) from hs9)) ?_
      refine lv_iconst (v := nI 1) hx hb dL_isNeedless_32 (by decide) ?_
      refine nicmp_ne (tgt := 40) hx hb dL_isNeedless_33 (by decide) (by omega) (by omega) (fun c_33 => ?_) (fun c_33 => ?_)
      · exfalso
        omega
      · refine lv_iconst (v := nI 1) hx hb dL_isNeedless_36 (by decide) ?_
        refine lv_goto (tgt := 41) hx hb dL_isNeedless_37 (by decide) ?_
        refine W.widen (k := 2) (n := 8) (Nat.le_of_ble_eq_true rfl) (Nat.le_of_ble_eq_true rfl) ?_
        exact finR _ V (L, f) _ _ _ dL_isNeedless_41 J ⟨_, _, _, _, _, _, _, zRep_up hR (by omega) hK⟩ hP hT hD hS
  · refine lv_iload hx hb dL_isNeedless_16 (lv_at hl 0 rfl) ?_
    refine nif_ne (tgt := 42) hx hb dL_isNeedless_18 (by decide) (by omega) (fun c_18 => ?_) (fun c_18 => ?_)
    · refine lv_iconst (v := nI 0) hx hb dL_isNeedless_42 (by decide) ?_
      refine lv_istore (lv' := [(6, .int (nI 0)), (5, .int (nI (bN (cNd V q (vNt V) 0)))), (0, .ref h0), (1, .ref (aa 0)), (2, .int (nI q)), (3, .int (nI t)), (4, .int (nI g))]) hx hb dL_isNeedless_43 hl (by decide) rfl (fun ls hl => ?_)
      refine lv_iconst (v := nI 0) hx hb dL_isNeedless_45 (by decide) ?_
      refine lv_istore (lv' := [(7, .int (nI 0)), (6, .int (nI 0)), (5, .int (nI (bN (cNd V q (vNt V) 0)))), (0, .ref h0), (1, .ref (aa 0)), (2, .int (nI q)), (3, .int (nI t)), (4, .int (nI g))]) hx hb dL_isNeedless_46 hl (by decide) rfl (fun ls hl => ?_)
      refine lv_aload_n hx hb dL_isNeedless_48 rfl (lv_at hl 4 rfl) ?_
      refine lv_bipush (v := nI 30) hx hb dL_isNeedless_49 (by decide) ?_
      refine lv_iload_n hx hb dL_isNeedless_51 rfl (lv_at hl 6 rfl) ?_
      refine nadd hx hb dL_isNeedless_52 ?_
      refine zti hx hb hE hT 0 (by decide) (i := (30 + t)) (by show (30 + t) < 41; omega) dL_isNeedless_53 ?_
      refine zasi (congrArg nI (show (T 0 (30 + t)) = (vT V t).1 from (J.2.1 t ht).1)) ?_
      refine lv_istore (lv' := [(8, .int (nI ((vT V t).1))), (7, .int (nI 0)), (6, .int (nI 0)), (5, .int (nI (bN (cNd V q (vNt V) 0)))), (0, .ref h0), (1, .ref (aa 0)), (2, .int (nI q)), (3, .int (nI t)), (4, .int (nI g))]) hx hb dL_isNeedless_54 hl (by decide) rfl (fun ls hl => ?_)
      exact loopA (bN_t c_13) (bN_t c_18) _ (vT V t).1 0 ls rfl (by omega) (by omega) rfl (lv_sub hl [0, 1, 2, 3, 4, 5, 6, 7, 8] rfl)
    · refine lv_iload hx hb dL_isNeedless_21 (lv_at hl 0 rfl) ?_
      refine nif_ne (tgt := 36) hx hb dL_isNeedless_23 (by decide) (by omega) (fun c_23 => ?_) (fun c_23 => ?_)
      · refine lv_iconst (v := nI 1) hx hb dL_isNeedless_36 (by decide) ?_
        refine lv_goto (tgt := 41) hx hb dL_isNeedless_37 (by decide) ?_
        refine W.widen (k := 2) (n := 8) (Nat.le_of_ble_eq_true rfl) (Nat.le_of_ble_eq_true rfl) ?_
        exact finR _ V (L, f) _ _ _ dL_isNeedless_41 J ⟨_, _, _, _, _, _, _, zRep_up hR (by omega) hK⟩ hP hT hD hS
      · refine lv_aload_n hx hb dL_isNeedless_26 rfl (lv_at hl 2 rfl) ?_
        refine lv_bipush (v := nI 24) hx hb dL_isNeedless_27 (by decide) ?_
        refine lv_iload_n hx hb dL_isNeedless_29 rfl (lv_at hl 3 rfl) ?_
        refine nadd hx hb dL_isNeedless_30 ?_
        refine zti hx hb hE hT 0 (by decide) (i := (24 + q)) (by show (24 + q) < 41; omega) dL_isNeedless_31 ?_
        refine zasi (congrArg nI (show (T 0 (24 + q)) = bN (sOn (vL V q 20)) from hs9)) ?_
        refine lv_iconst (v := nI 1) hx hb dL_isNeedless_32 (by decide) ?_
        refine nicmp_ne (tgt := 40) hx hb dL_isNeedless_33 (by decide) (by omega) (by omega) (fun c_33 => ?_) (fun c_33 => ?_)
        · exfalso
          omega
        · refine lv_iconst (v := nI 1) hx hb dL_isNeedless_36 (by decide) ?_
          refine lv_goto (tgt := 41) hx hb dL_isNeedless_37 (by decide) ?_
          refine W.widen (k := 2) (n := 8) (Nat.le_of_ble_eq_true rfl) (Nat.le_of_ble_eq_true rfl) ?_
          exact finR _ V (L, f) _ _ _ dL_isNeedless_41 J ⟨_, _, _, _, _, _, _, zRep_up hR (by omega) hK⟩ hP hT hD hS
