/-! the reference: wayAt, isNeedless -/
theorem mRk_le (M : Nat → Nat → Int32) (nc q t y g d : Nat) : ∀ n, mRk M nc q t y g d n ≤ n
  | 0 => Nat.le_refl _
  | n + 1 => by
    have h := mRk_le M nc q t y g d n
    rw [mRk]
    by_cases c : n ≠ q ∧ mAhead M n q t = true ∧ mLets M n g = true ∧ mCov M nc n t y d = true
    · rw [if_pos c]; omega
    · rw [if_neg c]; omega

set_option maxHeartbeats 4000000 in
set_option maxRecDepth 100000 in
theorem m_wayAt (l : Launch) (D : va_G) (ca : Nat → ClassId) (sa : Nat → Nat) (hm : Nat) (ad : Nat → Nat) (th : Int32) (td nt np nc : Nat) (M : Nat → Nat → Int32) (pl t : Nat) (ht : t < nt) (hnp : np ≤ 10) (hnt : nt ≤ 20) (hnc : nc ≤ 600) (y g d : Nat) (hy : y ≤ 55) (hg : g ≤ 3) (hd : d ≤ td) (htd : td ≤ 20000) (hpl : pl < mWays M nc t y g d np) (sz : Nat) : Met l yX5_wayAt wsX5_wayAt ({ frames := 9, cells := 0, slots := 0, locals := 360 }) (va_Pc [.ref hm, .int (nI pl), .int (nI t), .int (nI y), .int (nI g), .int (nI d)] (zMp D (mW hm ad ca th td nt np nc M) ca sa sz)) (va_Qi (fun (r : Int32) (_ : Unit) => r = mFd M nc np pl t y g d np) (fun _ t9 => va_P D vwCl (mW hm ad ca (nI 0) td nt np nc M) t9.heap) (va_A (mW hm ad ca th td nt np nc M) sz)) 0 0 (va_A (mW hm ad ca th td nt np nc M) sz) := by
  refine Met.ofW (cc := cX5_wayAt) (maxL := 12) (ret := (some .int)) (by decide) rfl ?_
  intro p e s m args below meth c s₁ B hml hv
  obtain ⟨rfl, hsz, hP, hD0, hE⟩ := hv
  have hx := B.exec
  have hb := B.bytes
  have hr := B.returns
  have hts := atoms_spec (ws := wsX5_wayAt) B.pre
  have hown : s.vm.findClass RX5 = some m.cls := findClass_of_methodNamed B.named
  have hlocks := B.notSynchronized
  have hl := lv_entry ([.ref hm, .int (nI pl), .int (nI t), .int (nI y), .int (nI g), .int (nI d)]) (n := 12) (Nat.le_of_ble_eq_true rfl)
  rw [lg_entry_eq]
  generalize (lg_sl ([.ref hm, .int (nI pl), .int (nI t), .int (nI y), .int (nI g), .int (nI d)]) ++ List.replicate (12 - (lg_sl ([.ref hm, .int (nI pl), .int (nI t), .int (nI y), .int (nI g), .int (nI d)])).length) Slot.unset).toArray = ls at hl ⊢
  have hl : lv_has ls 12 [(0, .ref hm), (1, .int (nI pl)), (2, .int (nI t)), (3, .int (nI y)), (4, .int (nI g)), (5, .int (nI d))] := hl
  subst hsz
  have hD := hD0.self (sz := s.heap.size)
  generalize hAe : va_A (mW hm ad ca th td nt np nc M) s.heap.size = A at hD ⊢
  have hA : ∀ q : Nat, s.heap.size ≤ q → A q := fun q h => by rw [← hAe]; exact Or.inr h
  have hS : va_S A s.heap s.heap [] := va_S.rf
  have hwl := mWays_le M nc t y g d np
  refine lv_aload_n hx hb dX5_wayAt_0 rfl (lv_at hl 0 rfl) ?_
  refine lv_iload_n hx hb dX5_wayAt_1 rfl (lv_at hl 3 rfl) ?_
  refine lv_iload hx hb dX5_wayAt_2 (lv_at hl 4 rfl) ?_
  refine lv_iload hx hb dX5_wayAt_4 (lv_at hl 5 rfl) ?_
  refine zci (va_runV (As := [.int (nI y), .int (nI g), .int (nI d)]) (rest := []) ⟨hx, hb, hml, hown, hts⟩ (m_asked l D ca sa hm ad th td nt np nc M ((nI y)) ((nI g)) ((nI d))) (cwV 3 hts gX5_wayAt_X5_isAsked rfl rfl rfl (by decide +kernel) ⟨Nat.le_of_ble_eq_true rfl, Nat.le_of_ble_eq_true rfl⟩) (zpV hP hE (ci := 5) rfl (q0 := 0) rfl) rfl rfl hl.1 rfl (lv_room (Nat.le_of_ble_eq_true rfl)) dX5_wayAt_6 ⟨Nat.le_of_ble_eq_true rfl, Nat.le_of_ble_eq_true rfl⟩) ?_
  refine zasi (show (bI (iB ((nI y)) (nI 0) (nI 55) && (iB ((nI g)) (nI 0) (nI 3) && iB ((nI d)) (nI 0) (nI td)))) = nI 1 from by rw [iB_t (Nat.zero_le _) hy (by decide), iB_t (Nat.zero_le _) hg (by decide), iB_t (Nat.zero_le _) hd (by omega)]; rfl) ?_
  refine lv_istore (lv' := [(6, .int (nI 1)), (0, .ref hm), (1, .int (nI pl)), (2, .int (nI t)), (3, .int (nI y)), (4, .int (nI g)), (5, .int (nI d))]) hx hb dX5_wayAt_9 hl (by decide) rfl (fun ls hl => ?_)
  refine lv_iload hx hb dX5_wayAt_11 (lv_at hl 0 rfl) ?_
  refine lv_if_eq (tgt := 46) hx hb dX5_wayAt_13 (by decide) (fun c_13 => ?_) (fun c_13 => ?_)
  · exact absurd c_13 (by decide)
  · refine lv_aload_n hx hb dX5_wayAt_16 rfl (lv_at hl 1 rfl) ?_
    refine lv_iload_n hx hb dX5_wayAt_17 rfl (lv_at hl 3 rfl) ?_
    refine zci (va_runV (As := [.int (nI t)]) (rest := []) ⟨hx, hb, hml, hown, hts⟩ (m_isT l D ca sa hm ad th td nt np nc M ((nI t))) (cwV 1 hts gX5_wayAt_X5_isTitle rfl rfl rfl (by decide +kernel) ⟨Nat.le_of_ble_eq_true rfl, Nat.le_of_ble_eq_true rfl⟩) (zpV hP hE (ci := 5) rfl (q0 := 0) rfl) rfl rfl hl.1 rfl (lv_room (Nat.le_of_ble_eq_true rfl)) dX5_wayAt_18 ⟨Nat.le_of_ble_eq_true rfl, Nat.le_of_ble_eq_true rfl⟩) ?_
    refine zasi (show (bI (iT nt ((nI t)))) = nI 1 from by rw [iT_t ht (by omega)]; rfl) ?_
    refine lv_if_eq (tgt := 46) hx hb dX5_wayAt_21 (by decide) (fun c_21 => ?_) (fun c_21 => ?_)
    · exact absurd c_21 (by decide)
    · refine lv_iload_n hx hb dX5_wayAt_24 rfl (lv_at hl 2 rfl) ?_
      refine lv_if_lt (tgt := 46) hx hb dX5_wayAt_25 (by decide) (fun c_25 => ?_) (fun c_25 => ?_)
      · exact absurd c_25 (nI_pos (by omega))
      · refine lv_iload_n hx hb dX5_wayAt_28 rfl (lv_at hl 2 rfl) ?_
        refine lv_aload_n hx hb dX5_wayAt_29 rfl (lv_at hl 1 rfl) ?_
        refine lv_iload_n hx hb dX5_wayAt_30 rfl (lv_at hl 3 rfl) ?_
        refine lv_iload_n hx hb dX5_wayAt_31 rfl (lv_at hl 4 rfl) ?_
        refine lv_iload hx hb dX5_wayAt_32 (lv_at hl 5 rfl) ?_
        refine lv_iload hx hb dX5_wayAt_34 (lv_at hl 6 rfl) ?_
        refine zci (va_runV (As := [.int (nI t), .int (nI y), .int (nI g), .int (nI d)]) (rest := [.int (nI pl)]) ⟨hx, hb, hml, hown, hts⟩ (m_waysTo l D ca sa hm ad th td nt np nc M t y g d hnc hnp (by omega) hy (by omega)) (cwV 4 hts gX5_wayAt_X5_waysTo rfl rfl rfl (by decide +kernel) ⟨Nat.le_of_ble_eq_true rfl, Nat.le_of_ble_eq_true rfl⟩) (zpV hP hE (ci := 5) rfl (q0 := 0) rfl) rfl rfl hl.1 rfl (lv_room (Nat.le_of_ble_eq_true rfl)) dX5_wayAt_36 ⟨Nat.le_of_ble_eq_true rfl, Nat.le_of_ble_eq_true rfl⟩) ?_
        refine lv_icmp_ge (tgt := 46) hx hb dX5_wayAt_39 (by decide) (fun c_39 => ?_) (fun c_39 => ?_)
        · exact absurd ((nI_leI (by omega) (by omega)).mp c_39) (by omega)
        · refine lv_iconst (v := nI 1) hx hb dX5_wayAt_42 (by decide) ?_
          refine lv_goto (tgt := 47) hx hb dX5_wayAt_43 (by decide) ?_
          refine lv_istore (lv' := [(7, .int (nI 1)), (6, .int (nI 1)), (0, .ref hm), (1, .int (nI pl)), (2, .int (nI t)), (3, .int (nI y)), (4, .int (nI g)), (5, .int (nI d))]) hx hb dX5_wayAt_47 hl (by decide) rfl (fun ls hl => ?_)
          refine lv_aload_n hx hb dX5_wayAt_49 rfl (lv_at hl 2 rfl) ?_
          refine lv_iload hx hb dX5_wayAt_50 (lv_at hl 1 rfl) ?_
          refine lv_if_ne (tgt := 59) hx hb dX5_wayAt_52 (by decide) (fun c_52 => ?_) (fun c_52 => ?_)
          · refine lv_iload hx hb dX5_wayAt_59 (lv_at hl 0 rfl) ?_
            refine lv_if_eq (tgt := 68) hx hb dX5_wayAt_61 (by decide) (fun c_61 => ?_) (fun c_61 => ?_)
            · exact absurd c_61 (by decide)
            · refine lv_iconst (v := nI 0) hx hb dX5_wayAt_64 (by decide) ?_
              refine lv_goto (tgt := 69) hx hb dX5_wayAt_65 (by decide) ?_
              refine zmci (va_runV (As := [.int (nI 0)]) (rest := []) ⟨hx, hb, hml, hown, hts⟩ (m_holds l D ca sa hm ad th td nt np nc M 0 (by decide) _) (cwV 1 hts gX5_wayAt_X5_holds rfl rfl rfl (by decide +kernel) ⟨Nat.le_of_ble_eq_true rfl, Nat.le_of_ble_eq_true rfl⟩) (zmV hP hD hE (ci := 5) rfl (q0 := 0) rfl) rfl rfl hl.1 rfl (lv_room (Nat.le_of_ble_eq_true rfl)) dX5_wayAt_69 ⟨Nat.le_of_ble_eq_true rfl, Nat.le_of_ble_eq_true rfl⟩) hD rfl hS hA (fun r9 H locs er hP hD hS => ?_)
              subst er
              refine zasi (show bI (decide (0 = 0)) = nI 1 from rfl) ?_
              refine lv_if_ne (tgt := 77) hx hb dX5_wayAt_72 (by decide) (fun c_72 => ?_) (fun c_72 => ?_)
              · refine lv_iconst (v := (-1)) hx hb dX5_wayAt_77 (by decide) ?_
                refine lv_istore (lv' := [(8, .int ((-1))), (7, .int (nI 1)), (6, .int (nI 1)), (0, .ref hm), (1, .int (nI pl)), (2, .int (nI t)), (3, .int (nI y)), (4, .int (nI g)), (5, .int (nI d))]) hx hb dX5_wayAt_78 hl (by decide) rfl (fun ls hl => ?_)
                refine lv_iconst (v := nI 0) hx hb dX5_wayAt_80 (by decide) ?_
                refine lv_istore (lv' := [(9, .int (nI 0)), (8, .int ((-1))), (7, .int (nI 1)), (6, .int (nI 1)), (0, .ref hm), (1, .int (nI pl)), (2, .int (nI t)), (3, .int (nI y)), (4, .int (nI g)), (5, .int (nI d))]) hx hb dX5_wayAt_81 hl (by decide) rfl (fun ls hl => ?_)
                have loop : ∀ (n9 : Nat) (q : Nat) (ls : Array Slot), q ≤ np → np < q + n9 → lv_has ls 12 [(9, .int (nI q)), (8, .int (mFd M nc np pl t y g d q)), (0, .ref hm), (1, .int (nI pl)), (2, .int (nI t)), (3, .int (nI y)), (4, .int (nI g)), (5, .int (nI d))] → W p l e (headSpec wsX5_wayAt ({ frames := 9, cells := 0, slots := 0, locals := 360 })).room s m ([.ref hm, .int (nI pl), .int (nI t), .int (nI y), .int (nI g), .int (nI d)] : List Value).toArray below meth c H locs 0 0 (MQ below (va_Qi (fun (r : Int32) (_ : Unit) => r = mFd M nc np pl t y g d np) (fun _ t9 => va_P D vwCl (mW hm ad ca (nI 0) td nt np nc M) t9.heap) A) ([.ref hm, .int (nI pl), .int (nI t), .int (nI y), .int (nI g), .int (nI d)] : List Value).toArray s 0 0 A) (F0 m 83 ls []) := by
                  intro n9
                  induction n9 with
                  | zero =>
                    intro q ls hk hfu hl
                    exact absurd hfu (by omega)
                  | succ n9 ih =>
                    intro q ls hk hfu hl
                    refine lv_iload hx hb dX5_wayAt_83 (lv_at hl 0 rfl) ?_
                    refine lv_aload_n hx hb dX5_wayAt_85 rfl (lv_at hl 2 rfl) ?_
                    refine zmget (own := RX5) (ci := 5) (C := RX5) (T := TX5) (N := 18) hx hb hts (by decide +kernel) hown hE hP 0 rfl rfl 3 (by decide) (hts (.fieldLink RX5 57 "LinkResolverModel" "packages" "I") (by decide +kernel)) rfl dX5_wayAt_86 ?_
                    refine lv_icmp_ge (tgt := 211) hx hb dX5_wayAt_89 (by decide) (fun c_89 => ?_) (fun c_89 => ?_)
                    · have e9 : q = np := by have := (nI_leI (by omega) (by omega)).mp c_89; omega
                      refine lv_iload hx hb dX5_wayAt_211 (lv_at hl 1 rfl) ?_
                      exact zmri hx hb hr hlocks dX5_wayAt_213 hP hS (by rw [e9])
                    · have hq2 : q < np := Nat.lt_of_not_le (fun q9 => c_89 ((nI_leI (by omega) (by omega)).mpr q9))
                      refine lv_iconst (v := nI 0) hx hb dX5_wayAt_92 (by decide) ?_
                      refine lv_istore (lv' := [(10, .int (nI 0)), (9, .int (nI q)), (8, .int (mFd M nc np pl t y g d q)), (0, .ref hm), (1, .int (nI pl)), (2, .int (nI t)), (3, .int (nI y)), (4, .int (nI g)), (5, .int (nI d))]) hx hb dX5_wayAt_93 hl (by decide) rfl (fun ls hl => ?_)
                      refine lv_iconst (v := nI 0) hx hb dX5_wayAt_95 (by decide) ?_
                      refine lv_istore (lv' := [(11, .int (nI 0)), (10, .int (nI 0)), (9, .int (nI q)), (8, .int (mFd M nc np pl t y g d q)), (0, .ref hm), (1, .int (nI pl)), (2, .int (nI t)), (3, .int (nI y)), (4, .int (nI g)), (5, .int (nI d))]) hx hb dX5_wayAt_96 hl (by decide) rfl (fun ls hl => ?_)
                      have inner : ∀ (n8 : Nat) (k : Nat) (ls : Array Slot), k ≤ np → np < k + n8 → lv_has ls 12 [(11, .int (nI k)), (10, .int (nI (mRk M nc q t y g d k))), (9, .int (nI q)), (8, .int (mFd M nc np pl t y g d q)), (0, .ref hm), (1, .int (nI pl)), (2, .int (nI t)), (3, .int (nI y)), (4, .int (nI g)), (5, .int (nI d))] → W p l e (headSpec wsX5_wayAt ({ frames := 9, cells := 0, slots := 0, locals := 360 })).room s m ([.ref hm, .int (nI pl), .int (nI t), .int (nI y), .int (nI g), .int (nI d)] : List Value).toArray below meth c H locs 0 0 (MQ below (va_Qi (fun (r : Int32) (_ : Unit) => r = mFd M nc np pl t y g d np) (fun _ t9 => va_P D vwCl (mW hm ad ca (nI 0) td nt np nc M) t9.heap) A) ([.ref hm, .int (nI pl), .int (nI t), .int (nI y), .int (nI g), .int (nI d)] : List Value).toArray s 0 0 A) (F0 m 98 ls []) := by
                        intro n8
                        induction n8 with
                        | zero =>
                          intro k ls hk hfu hl
                          exact absurd hfu (by omega)
                        | succ n8 ihi =>
                          intro k ls hk hfu hl
                          refine lv_iload hx hb dX5_wayAt_98 (lv_at hl 0 rfl) ?_
                          refine lv_aload_n hx hb dX5_wayAt_100 rfl (lv_at hl 4 rfl) ?_
                          refine zmget (own := RX5) (ci := 5) (C := RX5) (T := TX5) (N := 18) hx hb hts (by decide +kernel) hown hE hP 0 rfl rfl 3 (by decide) (hts (.fieldLink RX5 57 "LinkResolverModel" "packages" "I") (by decide +kernel)) rfl dX5_wayAt_101 ?_
                          refine lv_icmp_ge (tgt := 166) hx hb dX5_wayAt_104 (by decide) (fun c_104 => ?_) (fun c_104 => ?_)
                          · have e8 : k = np := by have := (nI_leI (by omega) (by omega)).mp c_104; omega
                            rw [e8] at hl
                            have hrl := mRk_le M nc q t y g d np
                            refine lv_iload hx hb dX5_wayAt_166 (lv_at hl 1 rfl) ?_
                            refine lv_iload_n hx hb dX5_wayAt_168 rfl (lv_at hl 5 rfl) ?_
                            refine lv_icmp_ne (tgt := 201) hx hb dX5_wayAt_169 (by decide) (fun c_169 => ?_) (fun c_169 => ?_)
                            · refine lv_iload hx hb dX5_wayAt_201 (lv_at hl 3 rfl) ?_
                              refine lv_istore (lv' := [(8, .int (mFd M nc np pl t y g d q)), (11, .int (nI np)), (10, .int (nI (mRk M nc q t y g d np))), (9, .int (nI q)), (0, .ref hm), (1, .int (nI pl)), (2, .int (nI t)), (3, .int (nI y)), (4, .int (nI g)), (5, .int (nI d))]) hx hb dX5_wayAt_203 hl (by decide) rfl (fun ls hl => ?_)
                              refine lv_iinc (v := nI (q + 1)) (lv' := [(9, .int (nI (q + 1))), (8, .int (mFd M nc np pl t y g d q)), (11, .int (nI np)), (10, .int (nI (mRk M nc q t y g d np))), (0, .ref hm), (1, .int (nI pl)), (2, .int (nI t)), (3, .int (nI y)), (4, .int (nI g)), (5, .int (nI d))]) hx hb dX5_wayAt_205 hl (k := 3) rfl (zinc1 _) (by decide) rfl (fun ls hl => ?_)
                              refine lv_goto (tgt := 83) hx hb dX5_wayAt_208 (by decide) ?_
                              exact ih (q + 1) ls (by omega) (by omega) (by rw [mFd, if_neg (fun q9 => c_169 (by rw [q9.1]))]; exact lv_sub hl [0, 1, 4, 5, 6, 7, 8, 9] rfl)
                            · have e7 : mRk M nc q t y g d np = pl := (nI_eq (by omega) (by omega)).mp c_169
                              refine lv_aload_n hx hb dX5_wayAt_172 rfl (lv_at hl 4 rfl) ?_
                              refine lv_iload hx hb dX5_wayAt_173 (lv_at hl 2 rfl) ?_
                              refine lv_iload hx hb dX5_wayAt_175 (lv_at hl 8 rfl) ?_
                              refine zci (va_runV (As := [.int (nI q), .int (nI g)]) (rest := []) ⟨hx, hb, hml, hown, hts⟩ (m_lets l D ca sa hm ad (nI 0) td nt np nc M q g (by omega)) (cwV 2 hts gX5_wayAt_X5_lets rfl rfl rfl (by decide +kernel) ⟨Nat.le_of_ble_eq_true rfl, Nat.le_of_ble_eq_true rfl⟩) (zpV hP hE (ci := 5) rfl (q0 := 0) rfl) rfl rfl hl.1 rfl (lv_room (Nat.le_of_ble_eq_true rfl)) dX5_wayAt_177 ⟨Nat.le_of_ble_eq_true rfl, Nat.le_of_ble_eq_true rfl⟩) ?_
                              refine lv_if_eq (tgt := 201) hx hb dX5_wayAt_180 (by decide) (fun c_180 => ?_) (fun c_180 => ?_)
                              · have e_180 := bI_eq0 c_180
                                refine lv_iload hx hb dX5_wayAt_201 (lv_at hl 3 rfl) ?_
                                refine lv_istore (lv' := [(8, .int (mFd M nc np pl t y g d q)), (11, .int (nI np)), (10, .int (nI (mRk M nc q t y g d np))), (9, .int (nI q)), (0, .ref hm), (1, .int (nI pl)), (2, .int (nI t)), (3, .int (nI y)), (4, .int (nI g)), (5, .int (nI d))]) hx hb dX5_wayAt_203 hl (by decide) rfl (fun ls hl => ?_)
                                refine lv_iinc (v := nI (q + 1)) (lv' := [(9, .int (nI (q + 1))), (8, .int (mFd M nc np pl t y g d q)), (11, .int (nI np)), (10, .int (nI (mRk M nc q t y g d np))), (0, .ref hm), (1, .int (nI pl)), (2, .int (nI t)), (3, .int (nI y)), (4, .int (nI g)), (5, .int (nI d))]) hx hb dX5_wayAt_205 hl (k := 3) rfl (zinc1 _) (by decide) rfl (fun ls hl => ?_)
                                refine lv_goto (tgt := 83) hx hb dX5_wayAt_208 (by decide) ?_
                                exact ih (q + 1) ls (by omega) (by omega) (by rw [mFd, if_neg (fun q9 => absurd q9.2.1 (by rw [e_180]; exact Bool.false_ne_true))]; exact lv_sub hl [0, 1, 4, 5, 6, 7, 8, 9] rfl)
                              · have e_180 := bI_ne0 c_180
                                refine lv_aload_n hx hb dX5_wayAt_183 rfl (lv_at hl 4 rfl) ?_
                                refine lv_iload hx hb dX5_wayAt_184 (lv_at hl 2 rfl) ?_
                                refine lv_iload_n hx hb dX5_wayAt_186 rfl (lv_at hl 6 rfl) ?_
                                refine lv_iload_n hx hb dX5_wayAt_187 rfl (lv_at hl 7 rfl) ?_
                                refine lv_iload hx hb dX5_wayAt_188 (lv_at hl 9 rfl) ?_
                                refine zci (va_runV (As := [.int (nI q), .int (nI t), .int (nI y), .int (nI d)]) (rest := []) ⟨hx, hb, hml, hown, hts⟩ (m_cov l D ca sa hm ad (nI 0) td nt np nc M q t y d hnc (by omega) (by omega) (by omega) hy) (cwV 4 hts gX5_wayAt_X5_isCovered rfl rfl rfl (by decide +kernel) ⟨Nat.le_of_ble_eq_true rfl, Nat.le_of_ble_eq_true rfl⟩) (zpV hP hE (ci := 5) rfl (q0 := 0) rfl) rfl rfl hl.1 rfl (lv_room (Nat.le_of_ble_eq_true rfl)) dX5_wayAt_190 ⟨Nat.le_of_ble_eq_true rfl, Nat.le_of_ble_eq_true rfl⟩) ?_
                                refine lv_if_eq (tgt := 201) hx hb dX5_wayAt_193 (by decide) (fun c_193 => ?_) (fun c_193 => ?_)
                                · have e_193 := bI_eq0 c_193
                                  refine lv_iload hx hb dX5_wayAt_201 (lv_at hl 3 rfl) ?_
                                  refine lv_istore (lv' := [(8, .int (mFd M nc np pl t y g d q)), (11, .int (nI np)), (10, .int (nI (mRk M nc q t y g d np))), (9, .int (nI q)), (0, .ref hm), (1, .int (nI pl)), (2, .int (nI t)), (3, .int (nI y)), (4, .int (nI g)), (5, .int (nI d))]) hx hb dX5_wayAt_203 hl (by decide) rfl (fun ls hl => ?_)
                                  refine lv_iinc (v := nI (q + 1)) (lv' := [(9, .int (nI (q + 1))), (8, .int (mFd M nc np pl t y g d q)), (11, .int (nI np)), (10, .int (nI (mRk M nc q t y g d np))), (0, .ref hm), (1, .int (nI pl)), (2, .int (nI t)), (3, .int (nI y)), (4, .int (nI g)), (5, .int (nI d))]) hx hb dX5_wayAt_205 hl (k := 3) rfl (zinc1 _) (by decide) rfl (fun ls hl => ?_)
                                  refine lv_goto (tgt := 83) hx hb dX5_wayAt_208 (by decide) ?_
                                  exact ih (q + 1) ls (by omega) (by omega) (by rw [mFd, if_neg (fun q9 => absurd q9.2.2 (by rw [e_193]; exact Bool.false_ne_true))]; exact lv_sub hl [0, 1, 4, 5, 6, 7, 8, 9] rfl)
                                · have e_193 := bI_ne0 c_193
                                  refine lv_iload hx hb dX5_wayAt_196 (lv_at hl 2 rfl) ?_
                                  refine lv_goto (tgt := 203) hx hb dX5_wayAt_198 (by decide) ?_
                                  refine lv_istore (lv' := [(8, .int (nI q)), (11, .int (nI np)), (10, .int (nI (mRk M nc q t y g d np))), (9, .int (nI q)), (0, .ref hm), (1, .int (nI pl)), (2, .int (nI t)), (3, .int (nI y)), (4, .int (nI g)), (5, .int (nI d))]) hx hb dX5_wayAt_203 hl (by decide) rfl (fun ls hl => ?_)
                                  refine lv_iinc (v := nI (q + 1)) (lv' := [(9, .int (nI (q + 1))), (8, .int (nI q)), (11, .int (nI np)), (10, .int (nI (mRk M nc q t y g d np))), (0, .ref hm), (1, .int (nI pl)), (2, .int (nI t)), (3, .int (nI y)), (4, .int (nI g)), (5, .int (nI d))]) hx hb dX5_wayAt_205 hl (k := 3) rfl (zinc1 _) (by decide) rfl (fun ls hl => ?_)
                                  refine lv_goto (tgt := 83) hx hb dX5_wayAt_208 (by decide) ?_
                                  exact ih (q + 1) ls (by omega) (by omega) (by rw [mFd, if_pos ⟨e7, e_180, e_193⟩]; exact lv_sub hl [0, 1, 4, 5, 6, 7, 8, 9] rfl)
                          · have hk2 : k < np := Nat.lt_of_not_le (fun q9 => c_104 ((nI_leI (by omega) (by omega)).mpr q9))
                            refine lv_iload hx hb dX5_wayAt_107 (lv_at hl 1 rfl) ?_
                            refine lv_iload hx hb dX5_wayAt_109 (lv_at hl 0 rfl) ?_
                            refine lv_iload hx hb dX5_wayAt_111 (lv_at hl 2 rfl) ?_
                            refine lv_icmp_eq (tgt := 156) hx hb dX5_wayAt_113 (by decide) (fun c_113 => ?_) (fun c_113 => ?_)
                            · refine lv_iconst (v := nI 0) hx hb dX5_wayAt_156 (by decide) ?_
                              refine lv_iadd hx hb dX5_wayAt_157 ?_
                              refine zasi (show ((nI (mRk M nc q t y g d k)) + (nI 0)) = nI (mRk M nc q t y g d k + 0) from nI_add _ _) ?_
                              refine lv_istore (lv' := [(10, .int (nI (mRk M nc q t y g d k + 0))), (11, .int (nI k)), (9, .int (nI q)), (8, .int (mFd M nc np pl t y g d q)), (0, .ref hm), (1, .int (nI pl)), (2, .int (nI t)), (3, .int (nI y)), (4, .int (nI g)), (5, .int (nI d))]) hx hb dX5_wayAt_158 hl (by decide) rfl (fun ls hl => ?_)
                              refine lv_iinc (v := nI (k + 1)) (lv' := [(11, .int (nI (k + 1))), (10, .int (nI (mRk M nc q t y g d k + 0))), (9, .int (nI q)), (8, .int (mFd M nc np pl t y g d q)), (0, .ref hm), (1, .int (nI pl)), (2, .int (nI t)), (3, .int (nI y)), (4, .int (nI g)), (5, .int (nI d))]) hx hb dX5_wayAt_160 hl (k := 1) rfl (zinc1 _) (by decide) rfl (fun ls hl => ?_)
                              refine lv_goto (tgt := 98) hx hb dX5_wayAt_163 (by decide) ?_
                              exact ihi (k + 1) ls (by omega) (by omega) (by rw [mRk, if_neg (fun q9 => q9.1 ((nI_eq (by omega) (by omega)).mp c_113))]; exact lv_sub hl [0, 1, 2, 3, 4, 5, 6, 7, 8, 9] rfl)
                            · refine lv_aload_n hx hb dX5_wayAt_116 rfl (lv_at hl 4 rfl) ?_
                              refine lv_iload hx hb dX5_wayAt_117 (lv_at hl 0 rfl) ?_
                              refine lv_iload hx hb dX5_wayAt_119 (lv_at hl 2 rfl) ?_
                              refine lv_iload_n hx hb dX5_wayAt_121 rfl (lv_at hl 6 rfl) ?_
                              refine zci (va_runV (As := [.int (nI k), .int (nI q), .int (nI t)]) (rest := [.int (nI (mRk M nc q t y g d k))]) ⟨hx, hb, hml, hown, hts⟩ (m_ahead l D ca sa hm ad (nI 0) td nt np nc M k q t (by omega) (by omega) (by omega)) (cwV 3 hts gX5_wayAt_X5_isAhead rfl rfl rfl (by decide +kernel) ⟨Nat.le_of_ble_eq_true rfl, Nat.le_of_ble_eq_true rfl⟩) (zpV hP hE (ci := 5) rfl (q0 := 0) rfl) rfl rfl hl.1 rfl (lv_room (Nat.le_of_ble_eq_true rfl)) dX5_wayAt_122 ⟨Nat.le_of_ble_eq_true rfl, Nat.le_of_ble_eq_true rfl⟩) ?_
                              refine lv_if_eq (tgt := 156) hx hb dX5_wayAt_125 (by decide) (fun c_125 => ?_) (fun c_125 => ?_)
                              · have e_125 := bI_eq0 c_125
                                refine lv_iconst (v := nI 0) hx hb dX5_wayAt_156 (by decide) ?_
                                refine lv_iadd hx hb dX5_wayAt_157 ?_
                                refine zasi (show ((nI (mRk M nc q t y g d k)) + (nI 0)) = nI (mRk M nc q t y g d k + 0) from nI_add _ _) ?_
                                refine lv_istore (lv' := [(10, .int (nI (mRk M nc q t y g d k + 0))), (11, .int (nI k)), (9, .int (nI q)), (8, .int (mFd M nc np pl t y g d q)), (0, .ref hm), (1, .int (nI pl)), (2, .int (nI t)), (3, .int (nI y)), (4, .int (nI g)), (5, .int (nI d))]) hx hb dX5_wayAt_158 hl (by decide) rfl (fun ls hl => ?_)
                                refine lv_iinc (v := nI (k + 1)) (lv' := [(11, .int (nI (k + 1))), (10, .int (nI (mRk M nc q t y g d k + 0))), (9, .int (nI q)), (8, .int (mFd M nc np pl t y g d q)), (0, .ref hm), (1, .int (nI pl)), (2, .int (nI t)), (3, .int (nI y)), (4, .int (nI g)), (5, .int (nI d))]) hx hb dX5_wayAt_160 hl (k := 1) rfl (zinc1 _) (by decide) rfl (fun ls hl => ?_)
                                refine lv_goto (tgt := 98) hx hb dX5_wayAt_163 (by decide) ?_
                                exact ihi (k + 1) ls (by omega) (by omega) (by rw [mRk, if_neg (fun q9 => absurd q9.2.1 (by rw [e_125]; exact Bool.false_ne_true))]; exact lv_sub hl [0, 1, 2, 3, 4, 5, 6, 7, 8, 9] rfl)
                              · have e_125 := bI_ne0 c_125
                                refine lv_aload_n hx hb dX5_wayAt_128 rfl (lv_at hl 4 rfl) ?_
                                refine lv_iload hx hb dX5_wayAt_129 (lv_at hl 0 rfl) ?_
                                refine lv_iload hx hb dX5_wayAt_131 (lv_at hl 8 rfl) ?_
                                refine zci (va_runV (As := [.int (nI k), .int (nI g)]) (rest := [.int (nI (mRk M nc q t y g d k))]) ⟨hx, hb, hml, hown, hts⟩ (m_lets l D ca sa hm ad (nI 0) td nt np nc M k g (by omega)) (cwV 2 hts gX5_wayAt_X5_lets rfl rfl rfl (by decide +kernel) ⟨Nat.le_of_ble_eq_true rfl, Nat.le_of_ble_eq_true rfl⟩) (zpV hP hE (ci := 5) rfl (q0 := 0) rfl) rfl rfl hl.1 rfl (lv_room (Nat.le_of_ble_eq_true rfl)) dX5_wayAt_133 ⟨Nat.le_of_ble_eq_true rfl, Nat.le_of_ble_eq_true rfl⟩) ?_
                                refine lv_if_eq (tgt := 156) hx hb dX5_wayAt_136 (by decide) (fun c_136 => ?_) (fun c_136 => ?_)
                                · have e_136 := bI_eq0 c_136
                                  refine lv_iconst (v := nI 0) hx hb dX5_wayAt_156 (by decide) ?_
                                  refine lv_iadd hx hb dX5_wayAt_157 ?_
                                  refine zasi (show ((nI (mRk M nc q t y g d k)) + (nI 0)) = nI (mRk M nc q t y g d k + 0) from nI_add _ _) ?_
                                  refine lv_istore (lv' := [(10, .int (nI (mRk M nc q t y g d k + 0))), (11, .int (nI k)), (9, .int (nI q)), (8, .int (mFd M nc np pl t y g d q)), (0, .ref hm), (1, .int (nI pl)), (2, .int (nI t)), (3, .int (nI y)), (4, .int (nI g)), (5, .int (nI d))]) hx hb dX5_wayAt_158 hl (by decide) rfl (fun ls hl => ?_)
                                  refine lv_iinc (v := nI (k + 1)) (lv' := [(11, .int (nI (k + 1))), (10, .int (nI (mRk M nc q t y g d k + 0))), (9, .int (nI q)), (8, .int (mFd M nc np pl t y g d q)), (0, .ref hm), (1, .int (nI pl)), (2, .int (nI t)), (3, .int (nI y)), (4, .int (nI g)), (5, .int (nI d))]) hx hb dX5_wayAt_160 hl (k := 1) rfl (zinc1 _) (by decide) rfl (fun ls hl => ?_)
                                  refine lv_goto (tgt := 98) hx hb dX5_wayAt_163 (by decide) ?_
                                  exact ihi (k + 1) ls (by omega) (by omega) (by rw [mRk, if_neg (fun q9 => absurd q9.2.2.1 (by rw [e_136]; exact Bool.false_ne_true))]; exact lv_sub hl [0, 1, 2, 3, 4, 5, 6, 7, 8, 9] rfl)
                                · have e_136 := bI_ne0 c_136
                                  refine lv_aload_n hx hb dX5_wayAt_139 rfl (lv_at hl 4 rfl) ?_
                                  refine lv_iload hx hb dX5_wayAt_140 (lv_at hl 0 rfl) ?_
                                  refine lv_iload_n hx hb dX5_wayAt_142 rfl (lv_at hl 6 rfl) ?_
                                  refine lv_iload_n hx hb dX5_wayAt_143 rfl (lv_at hl 7 rfl) ?_
                                  refine lv_iload hx hb dX5_wayAt_144 (lv_at hl 9 rfl) ?_
                                  refine zci (va_runV (As := [.int (nI k), .int (nI t), .int (nI y), .int (nI d)]) (rest := [.int (nI (mRk M nc q t y g d k))]) ⟨hx, hb, hml, hown, hts⟩ (m_cov l D ca sa hm ad (nI 0) td nt np nc M k t y d hnc (by omega) (by omega) (by omega) hy) (cwV 4 hts gX5_wayAt_X5_isCovered rfl rfl rfl (by decide +kernel) ⟨Nat.le_of_ble_eq_true rfl, Nat.le_of_ble_eq_true rfl⟩) (zpV hP hE (ci := 5) rfl (q0 := 0) rfl) rfl rfl hl.1 rfl (lv_room (Nat.le_of_ble_eq_true rfl)) dX5_wayAt_146 ⟨Nat.le_of_ble_eq_true rfl, Nat.le_of_ble_eq_true rfl⟩) ?_
                                  refine lv_if_eq (tgt := 156) hx hb dX5_wayAt_149 (by decide) (fun c_149 => ?_) (fun c_149 => ?_)
                                  · have e_149 := bI_eq0 c_149
                                    refine lv_iconst (v := nI 0) hx hb dX5_wayAt_156 (by decide) ?_
                                    refine lv_iadd hx hb dX5_wayAt_157 ?_
                                    refine zasi (show ((nI (mRk M nc q t y g d k)) + (nI 0)) = nI (mRk M nc q t y g d k + 0) from nI_add _ _) ?_
                                    refine lv_istore (lv' := [(10, .int (nI (mRk M nc q t y g d k + 0))), (11, .int (nI k)), (9, .int (nI q)), (8, .int (mFd M nc np pl t y g d q)), (0, .ref hm), (1, .int (nI pl)), (2, .int (nI t)), (3, .int (nI y)), (4, .int (nI g)), (5, .int (nI d))]) hx hb dX5_wayAt_158 hl (by decide) rfl (fun ls hl => ?_)
                                    refine lv_iinc (v := nI (k + 1)) (lv' := [(11, .int (nI (k + 1))), (10, .int (nI (mRk M nc q t y g d k + 0))), (9, .int (nI q)), (8, .int (mFd M nc np pl t y g d q)), (0, .ref hm), (1, .int (nI pl)), (2, .int (nI t)), (3, .int (nI y)), (4, .int (nI g)), (5, .int (nI d))]) hx hb dX5_wayAt_160 hl (k := 1) rfl (zinc1 _) (by decide) rfl (fun ls hl => ?_)
                                    refine lv_goto (tgt := 98) hx hb dX5_wayAt_163 (by decide) ?_
                                    exact ihi (k + 1) ls (by omega) (by omega) (by rw [mRk, if_neg (fun q9 => absurd q9.2.2.2 (by rw [e_149]; exact Bool.false_ne_true))]; exact lv_sub hl [0, 1, 2, 3, 4, 5, 6, 7, 8, 9] rfl)
                                  · have e_149 := bI_ne0 c_149
                                    refine lv_iconst (v := nI 1) hx hb dX5_wayAt_152 (by decide) ?_
                                    refine lv_goto (tgt := 157) hx hb dX5_wayAt_153 (by decide) ?_
                                    refine lv_iadd hx hb dX5_wayAt_157 ?_
                                    refine zasi (show ((nI (mRk M nc q t y g d k)) + (nI 1)) = nI (mRk M nc q t y g d k + 1) from nI_add _ _) ?_
                                    refine lv_istore (lv' := [(10, .int (nI (mRk M nc q t y g d k + 1))), (11, .int (nI k)), (9, .int (nI q)), (8, .int (mFd M nc np pl t y g d q)), (0, .ref hm), (1, .int (nI pl)), (2, .int (nI t)), (3, .int (nI y)), (4, .int (nI g)), (5, .int (nI d))]) hx hb dX5_wayAt_158 hl (by decide) rfl (fun ls hl => ?_)
                                    refine lv_iinc (v := nI (k + 1)) (lv' := [(11, .int (nI (k + 1))), (10, .int (nI (mRk M nc q t y g d k + 1))), (9, .int (nI q)), (8, .int (mFd M nc np pl t y g d q)), (0, .ref hm), (1, .int (nI pl)), (2, .int (nI t)), (3, .int (nI y)), (4, .int (nI g)), (5, .int (nI d))]) hx hb dX5_wayAt_160 hl (k := 1) rfl (zinc1 _) (by decide) rfl (fun ls hl => ?_)
                                    refine lv_goto (tgt := 98) hx hb dX5_wayAt_163 (by decide) ?_
                                    exact ihi (k + 1) ls (by omega) (by omega) (by rw [mRk, if_pos ⟨fun q9 => c_113 (by rw [q9]), e_125, e_136, e_149⟩]; exact lv_sub hl [0, 1, 2, 3, 4, 5, 6, 7, 8, 9] rfl)
                      exact inner (np + 1) 0 ls (Nat.zero_le _) (by omega) (lv_sub hl [0, 1, 2, 3, 4, 5, 6, 7, 8, 9] rfl)
                exact loop (np + 1) 0 ls (Nat.zero_le _) (by omega) (lv_sub hl [0, 1, 4, 5, 6, 7, 8, 9] rfl)
              · exact absurd c_72 (by decide)
          · exact absurd c_52 (by decide)

set_option maxHeartbeats 4000000 in
set_option maxRecDepth 100000 in
theorem m_wayAt_1 (l : Launch) (D : va_G) (ca : Nat → ClassId) (sa : Nat → Nat) (hm : Nat) (ad : Nat → Nat) (th : Int32) (td nt np nc : Nat) (M : Nat → Nat → Int32) (pl t y g d : Int32) (hbad : (iB y (nI 0) (nI 55) && (iB g (nI 0) (nI 3) && iB d (nI 0) (nI td))) = false) (sz : Nat) : Met l yX5_wayAt wsX5_wayAt ({ frames := 9, cells := 0, slots := 0, locals := 360 }) (va_Pc [.ref hm, .int pl, .int t, .int y, .int g, .int d] (zMp D (mW hm ad ca th td nt np nc M) ca sa sz)) (va_Qi (fun (r : Int32) (_ : Unit) => True) (fun _ t9 => va_P D vwCl (mW hm ad ca (nI 1) td nt np nc M) t9.heap) (va_A (mW hm ad ca th td nt np nc M) sz)) 0 0 (va_A (mW hm ad ca th td nt np nc M) sz) := by
  refine Met.ofW (cc := cX5_wayAt) (maxL := 12) (ret := (some .int)) (by decide) rfl ?_
  intro p e s m args below meth c s₁ B hml hv
  obtain ⟨rfl, hsz, hP, hD0, hE⟩ := hv
  have hx := B.exec
  have hb := B.bytes
  have hr := B.returns
  have hts := atoms_spec (ws := wsX5_wayAt) B.pre
  have hown : s.vm.findClass RX5 = some m.cls := findClass_of_methodNamed B.named
  have hlocks := B.notSynchronized
  have hl := lv_entry ([.ref hm, .int pl, .int t, .int y, .int g, .int d]) (n := 12) (Nat.le_of_ble_eq_true rfl)
  rw [lg_entry_eq]
  generalize (lg_sl ([.ref hm, .int pl, .int t, .int y, .int g, .int d]) ++ List.replicate (12 - (lg_sl ([.ref hm, .int pl, .int t, .int y, .int g, .int d])).length) Slot.unset).toArray = ls at hl ⊢
  have hl : lv_has ls 12 [(0, .ref hm), (1, .int pl), (2, .int t), (3, .int y), (4, .int g), (5, .int d)] := hl
  subst hsz
  have hD := hD0.self (sz := s.heap.size)
  generalize hAe : va_A (mW hm ad ca th td nt np nc M) s.heap.size = A at hD ⊢
  have hA : ∀ q : Nat, s.heap.size ≤ q → A q := fun q h => by rw [← hAe]; exact Or.inr h
  have hS : va_S A s.heap s.heap [] := va_S.rf
  refine lv_aload_n hx hb dX5_wayAt_0 rfl (lv_at hl 0 rfl) ?_
  refine lv_iload_n hx hb dX5_wayAt_1 rfl (lv_at hl 3 rfl) ?_
  refine lv_iload hx hb dX5_wayAt_2 (lv_at hl 4 rfl) ?_
  refine lv_iload hx hb dX5_wayAt_4 (lv_at hl 5 rfl) ?_
  refine zci (va_runV (As := [.int y, .int g, .int d]) (rest := []) ⟨hx, hb, hml, hown, hts⟩ (m_asked l D ca sa hm ad th td nt np nc M (y) (g) (d)) (cwV 3 hts gX5_wayAt_X5_isAsked rfl rfl rfl (by decide +kernel) ⟨Nat.le_of_ble_eq_true rfl, Nat.le_of_ble_eq_true rfl⟩) (zpV hP hE (ci := 5) rfl (q0 := 0) rfl) rfl rfl hl.1 rfl (lv_room (Nat.le_of_ble_eq_true rfl)) dX5_wayAt_6 ⟨Nat.le_of_ble_eq_true rfl, Nat.le_of_ble_eq_true rfl⟩) ?_
  refine zasi (show (bI (iB (y) (nI 0) (nI 55) && (iB (g) (nI 0) (nI 3) && iB (d) (nI 0) (nI td)))) = nI 0 from by rw [hbad]; rfl) ?_
  refine lv_istore (lv' := [(6, .int (nI 0)), (0, .ref hm), (1, .int pl), (2, .int t), (3, .int y), (4, .int g), (5, .int d)]) hx hb dX5_wayAt_9 hl (by decide) rfl (fun ls hl => ?_)
  refine lv_iload hx hb dX5_wayAt_11 (lv_at hl 0 rfl) ?_
  refine lv_if_eq (tgt := 46) hx hb dX5_wayAt_13 (by decide) (fun c_13 => ?_) (fun c_13 => ?_)
  · refine lv_iconst (v := nI 0) hx hb dX5_wayAt_46 (by decide) ?_
    refine lv_istore (lv' := [(7, .int (nI 0)), (6, .int (nI 0)), (0, .ref hm), (1, .int pl), (2, .int t), (3, .int y), (4, .int g), (5, .int d)]) hx hb dX5_wayAt_47 hl (by decide) rfl (fun ls hl => ?_)
    refine lv_aload_n hx hb dX5_wayAt_49 rfl (lv_at hl 2 rfl) ?_
    refine lv_iload hx hb dX5_wayAt_50 (lv_at hl 1 rfl) ?_
    refine lv_if_ne (tgt := 59) hx hb dX5_wayAt_52 (by decide) (fun c_52 => ?_) (fun c_52 => ?_)
    · exact absurd c_52 (by decide)
    · refine lv_iconst (v := nI 1) hx hb dX5_wayAt_55 (by decide) ?_
      refine lv_goto (tgt := 69) hx hb dX5_wayAt_56 (by decide) ?_
      refine zmci (va_runV (As := [.int (nI 1)]) (rest := []) ⟨hx, hb, hml, hown, hts⟩ (m_holds l D ca sa hm ad th td nt np nc M 1 (by decide) _) (cwV 1 hts gX5_wayAt_X5_holds rfl rfl rfl (by decide +kernel) ⟨Nat.le_of_ble_eq_true rfl, Nat.le_of_ble_eq_true rfl⟩) (zmV hP hD hE (ci := 5) rfl (q0 := 0) rfl) rfl rfl hl.1 rfl (lv_room (Nat.le_of_ble_eq_true rfl)) dX5_wayAt_69 ⟨Nat.le_of_ble_eq_true rfl, Nat.le_of_ble_eq_true rfl⟩) hD rfl hS hA (fun r9 H locs er hP hD hS => ?_)
      subst er
      refine zasi (show bI (decide (1 = 0)) = nI 0 from rfl) ?_
      refine lv_if_ne (tgt := 77) hx hb dX5_wayAt_72 (by decide) (fun c_72 => ?_) (fun c_72 => ?_)
      · exact absurd c_72 (by decide)
      · refine lv_iconst (v := nI 0) hx hb dX5_wayAt_75 (by decide) ?_
        exact zmri hx hb hr hlocks dX5_wayAt_76 hP hS (trivial)
  · exact absurd c_13 (by decide)

set_option maxHeartbeats 4000000 in
set_option maxRecDepth 100000 in
theorem m_wayAt_2 (l : Launch) (D : va_G) (ca : Nat → ClassId) (sa : Nat → Nat) (hm : Nat) (ad : Nat → Nat) (th : Int32) (td nt np nc : Nat) (M : Nat → Nat → Int32) (pl t y g d : Int32) (hok : (iB y (nI 0) (nI 55) && (iB g (nI 0) (nI 3) && iB d (nI 0) (nI td))) = true) (hbad : iT nt t = false) (sz : Nat) : Met l yX5_wayAt wsX5_wayAt ({ frames := 9, cells := 0, slots := 0, locals := 360 }) (va_Pc [.ref hm, .int pl, .int t, .int y, .int g, .int d] (zMp D (mW hm ad ca th td nt np nc M) ca sa sz)) (va_Qi (fun (r : Int32) (_ : Unit) => True) (fun _ t9 => va_P D vwCl (mW hm ad ca (nI 2) td nt np nc M) t9.heap) (va_A (mW hm ad ca th td nt np nc M) sz)) 0 0 (va_A (mW hm ad ca th td nt np nc M) sz) := by
  refine Met.ofW (cc := cX5_wayAt) (maxL := 12) (ret := (some .int)) (by decide) rfl ?_
  intro p e s m args below meth c s₁ B hml hv
  obtain ⟨rfl, hsz, hP, hD0, hE⟩ := hv
  have hx := B.exec
  have hb := B.bytes
  have hr := B.returns
  have hts := atoms_spec (ws := wsX5_wayAt) B.pre
  have hown : s.vm.findClass RX5 = some m.cls := findClass_of_methodNamed B.named
  have hlocks := B.notSynchronized
  have hl := lv_entry ([.ref hm, .int pl, .int t, .int y, .int g, .int d]) (n := 12) (Nat.le_of_ble_eq_true rfl)
  rw [lg_entry_eq]
  generalize (lg_sl ([.ref hm, .int pl, .int t, .int y, .int g, .int d]) ++ List.replicate (12 - (lg_sl ([.ref hm, .int pl, .int t, .int y, .int g, .int d])).length) Slot.unset).toArray = ls at hl ⊢
  have hl : lv_has ls 12 [(0, .ref hm), (1, .int pl), (2, .int t), (3, .int y), (4, .int g), (5, .int d)] := hl
  subst hsz
  have hD := hD0.self (sz := s.heap.size)
  generalize hAe : va_A (mW hm ad ca th td nt np nc M) s.heap.size = A at hD ⊢
  have hA : ∀ q : Nat, s.heap.size ≤ q → A q := fun q h => by rw [← hAe]; exact Or.inr h
  have hS : va_S A s.heap s.heap [] := va_S.rf
  refine lv_aload_n hx hb dX5_wayAt_0 rfl (lv_at hl 0 rfl) ?_
  refine lv_iload_n hx hb dX5_wayAt_1 rfl (lv_at hl 3 rfl) ?_
  refine lv_iload hx hb dX5_wayAt_2 (lv_at hl 4 rfl) ?_
  refine lv_iload hx hb dX5_wayAt_4 (lv_at hl 5 rfl) ?_
  refine zci (va_runV (As := [.int y, .int g, .int d]) (rest := []) ⟨hx, hb, hml, hown, hts⟩ (m_asked l D ca sa hm ad th td nt np nc M (y) (g) (d)) (cwV 3 hts gX5_wayAt_X5_isAsked rfl rfl rfl (by decide +kernel) ⟨Nat.le_of_ble_eq_true rfl, Nat.le_of_ble_eq_true rfl⟩) (zpV hP hE (ci := 5) rfl (q0 := 0) rfl) rfl rfl hl.1 rfl (lv_room (Nat.le_of_ble_eq_true rfl)) dX5_wayAt_6 ⟨Nat.le_of_ble_eq_true rfl, Nat.le_of_ble_eq_true rfl⟩) ?_
  refine zasi (show (bI (iB (y) (nI 0) (nI 55) && (iB (g) (nI 0) (nI 3) && iB (d) (nI 0) (nI td)))) = nI 1 from by rw [hok]; rfl) ?_
  refine lv_istore (lv' := [(6, .int (nI 1)), (0, .ref hm), (1, .int pl), (2, .int t), (3, .int y), (4, .int g), (5, .int d)]) hx hb dX5_wayAt_9 hl (by decide) rfl (fun ls hl => ?_)
  refine lv_iload hx hb dX5_wayAt_11 (lv_at hl 0 rfl) ?_
  refine lv_if_eq (tgt := 46) hx hb dX5_wayAt_13 (by decide) (fun c_13 => ?_) (fun c_13 => ?_)
  · exact absurd c_13 (by decide)
  · refine lv_aload_n hx hb dX5_wayAt_16 rfl (lv_at hl 1 rfl) ?_
    refine lv_iload_n hx hb dX5_wayAt_17 rfl (lv_at hl 3 rfl) ?_
    refine zci (va_runV (As := [.int t]) (rest := []) ⟨hx, hb, hml, hown, hts⟩ (m_isT l D ca sa hm ad th td nt np nc M (t)) (cwV 1 hts gX5_wayAt_X5_isTitle rfl rfl rfl (by decide +kernel) ⟨Nat.le_of_ble_eq_true rfl, Nat.le_of_ble_eq_true rfl⟩) (zpV hP hE (ci := 5) rfl (q0 := 0) rfl) rfl rfl hl.1 rfl (lv_room (Nat.le_of_ble_eq_true rfl)) dX5_wayAt_18 ⟨Nat.le_of_ble_eq_true rfl, Nat.le_of_ble_eq_true rfl⟩) ?_
    refine zasi (show (bI (iT nt (t))) = nI 0 from by rw [hbad]; rfl) ?_
    refine lv_if_eq (tgt := 46) hx hb dX5_wayAt_21 (by decide) (fun c_21 => ?_) (fun c_21 => ?_)
    · refine lv_iconst (v := nI 0) hx hb dX5_wayAt_46 (by decide) ?_
      refine lv_istore (lv' := [(7, .int (nI 0)), (6, .int (nI 1)), (0, .ref hm), (1, .int pl), (2, .int t), (3, .int y), (4, .int g), (5, .int d)]) hx hb dX5_wayAt_47 hl (by decide) rfl (fun ls hl => ?_)
      refine lv_aload_n hx hb dX5_wayAt_49 rfl (lv_at hl 2 rfl) ?_
      refine lv_iload hx hb dX5_wayAt_50 (lv_at hl 1 rfl) ?_
      refine lv_if_ne (tgt := 59) hx hb dX5_wayAt_52 (by decide) (fun c_52 => ?_) (fun c_52 => ?_)
      · refine lv_iload hx hb dX5_wayAt_59 (lv_at hl 0 rfl) ?_
        refine lv_if_eq (tgt := 68) hx hb dX5_wayAt_61 (by decide) (fun c_61 => ?_) (fun c_61 => ?_)
        · refine lv_iconst (v := nI 2) hx hb dX5_wayAt_68 (by decide) ?_
          refine zmci (va_runV (As := [.int (nI 2)]) (rest := []) ⟨hx, hb, hml, hown, hts⟩ (m_holds l D ca sa hm ad th td nt np nc M 2 (by decide) _) (cwV 1 hts gX5_wayAt_X5_holds rfl rfl rfl (by decide +kernel) ⟨Nat.le_of_ble_eq_true rfl, Nat.le_of_ble_eq_true rfl⟩) (zmV hP hD hE (ci := 5) rfl (q0 := 0) rfl) rfl rfl hl.1 rfl (lv_room (Nat.le_of_ble_eq_true rfl)) dX5_wayAt_69 ⟨Nat.le_of_ble_eq_true rfl, Nat.le_of_ble_eq_true rfl⟩) hD rfl hS hA (fun r9 H locs er hP hD hS => ?_)
          subst er
          refine zasi (show bI (decide (2 = 0)) = nI 0 from rfl) ?_
          refine lv_if_ne (tgt := 77) hx hb dX5_wayAt_72 (by decide) (fun c_72 => ?_) (fun c_72 => ?_)
          · exact absurd c_72 (by decide)
          · refine lv_iconst (v := nI 0) hx hb dX5_wayAt_75 (by decide) ?_
            exact zmri hx hb hr hlocks dX5_wayAt_76 hP hS (trivial)
        · exact absurd c_61 (by decide)
      · exact absurd c_52 (by decide)
    · exact absurd c_21 (by decide)

set_option maxHeartbeats 4000000 in
set_option maxRecDepth 100000 in
theorem m_wayAt_3 (l : Launch) (D : va_G) (ca : Nat → ClassId) (sa : Nat → Nat) (hm : Nat) (ad : Nat → Nat) (th : Int32) (td nt np nc : Nat) (M : Nat → Nat → Int32) (pl : Int32) (t : Nat) (ht : t < nt) (hnp : np ≤ 10) (hnt : nt ≤ 20) (hnc : nc ≤ 600) (y g d : Nat) (hy : y ≤ 55) (hg : g ≤ 3) (hd : d ≤ td) (htd : td ≤ 20000) (hbad : iT (mWays M nc t y g d np) pl = false) (sz : Nat) : Met l yX5_wayAt wsX5_wayAt ({ frames := 9, cells := 0, slots := 0, locals := 360 }) (va_Pc [.ref hm, .int pl, .int (nI t), .int (nI y), .int (nI g), .int (nI d)] (zMp D (mW hm ad ca th td nt np nc M) ca sa sz)) (va_Qi (fun (r : Int32) (_ : Unit) => True) (fun _ t9 => va_P D vwCl (mW hm ad ca (nI 2) td nt np nc M) t9.heap) (va_A (mW hm ad ca th td nt np nc M) sz)) 0 0 (va_A (mW hm ad ca th td nt np nc M) sz) := by
  refine Met.ofW (cc := cX5_wayAt) (maxL := 12) (ret := (some .int)) (by decide) rfl ?_
  intro p e s m args below meth c s₁ B hml hv
  obtain ⟨rfl, hsz, hP, hD0, hE⟩ := hv
  have hx := B.exec
  have hb := B.bytes
  have hr := B.returns
  have hts := atoms_spec (ws := wsX5_wayAt) B.pre
  have hown : s.vm.findClass RX5 = some m.cls := findClass_of_methodNamed B.named
  have hlocks := B.notSynchronized
  have hl := lv_entry ([.ref hm, .int pl, .int (nI t), .int (nI y), .int (nI g), .int (nI d)]) (n := 12) (Nat.le_of_ble_eq_true rfl)
  rw [lg_entry_eq]
  generalize (lg_sl ([.ref hm, .int pl, .int (nI t), .int (nI y), .int (nI g), .int (nI d)]) ++ List.replicate (12 - (lg_sl ([.ref hm, .int pl, .int (nI t), .int (nI y), .int (nI g), .int (nI d)])).length) Slot.unset).toArray = ls at hl ⊢
  have hl : lv_has ls 12 [(0, .ref hm), (1, .int pl), (2, .int (nI t)), (3, .int (nI y)), (4, .int (nI g)), (5, .int (nI d))] := hl
  subst hsz
  have hD := hD0.self (sz := s.heap.size)
  generalize hAe : va_A (mW hm ad ca th td nt np nc M) s.heap.size = A at hD ⊢
  have hA : ∀ q : Nat, s.heap.size ≤ q → A q := fun q h => by rw [← hAe]; exact Or.inr h
  have hS : va_S A s.heap s.heap [] := va_S.rf
  refine lv_aload_n hx hb dX5_wayAt_0 rfl (lv_at hl 0 rfl) ?_
  refine lv_iload_n hx hb dX5_wayAt_1 rfl (lv_at hl 3 rfl) ?_
  refine lv_iload hx hb dX5_wayAt_2 (lv_at hl 4 rfl) ?_
  refine lv_iload hx hb dX5_wayAt_4 (lv_at hl 5 rfl) ?_
  refine zci (va_runV (As := [.int (nI y), .int (nI g), .int (nI d)]) (rest := []) ⟨hx, hb, hml, hown, hts⟩ (m_asked l D ca sa hm ad th td nt np nc M ((nI y)) ((nI g)) ((nI d))) (cwV 3 hts gX5_wayAt_X5_isAsked rfl rfl rfl (by decide +kernel) ⟨Nat.le_of_ble_eq_true rfl, Nat.le_of_ble_eq_true rfl⟩) (zpV hP hE (ci := 5) rfl (q0 := 0) rfl) rfl rfl hl.1 rfl (lv_room (Nat.le_of_ble_eq_true rfl)) dX5_wayAt_6 ⟨Nat.le_of_ble_eq_true rfl, Nat.le_of_ble_eq_true rfl⟩) ?_
  refine zasi (show (bI (iB ((nI y)) (nI 0) (nI 55) && (iB ((nI g)) (nI 0) (nI 3) && iB ((nI d)) (nI 0) (nI td)))) = nI 1 from by rw [iB_t (Nat.zero_le _) hy (by decide), iB_t (Nat.zero_le _) hg (by decide), iB_t (Nat.zero_le _) hd (by omega)]; rfl) ?_
  refine lv_istore (lv' := [(6, .int (nI 1)), (0, .ref hm), (1, .int pl), (2, .int (nI t)), (3, .int (nI y)), (4, .int (nI g)), (5, .int (nI d))]) hx hb dX5_wayAt_9 hl (by decide) rfl (fun ls hl => ?_)
  refine lv_iload hx hb dX5_wayAt_11 (lv_at hl 0 rfl) ?_
  refine lv_if_eq (tgt := 46) hx hb dX5_wayAt_13 (by decide) (fun c_13 => ?_) (fun c_13 => ?_)
  · exact absurd c_13 (by decide)
  · refine lv_aload_n hx hb dX5_wayAt_16 rfl (lv_at hl 1 rfl) ?_
    refine lv_iload_n hx hb dX5_wayAt_17 rfl (lv_at hl 3 rfl) ?_
    refine zci (va_runV (As := [.int (nI t)]) (rest := []) ⟨hx, hb, hml, hown, hts⟩ (m_isT l D ca sa hm ad th td nt np nc M ((nI t))) (cwV 1 hts gX5_wayAt_X5_isTitle rfl rfl rfl (by decide +kernel) ⟨Nat.le_of_ble_eq_true rfl, Nat.le_of_ble_eq_true rfl⟩) (zpV hP hE (ci := 5) rfl (q0 := 0) rfl) rfl rfl hl.1 rfl (lv_room (Nat.le_of_ble_eq_true rfl)) dX5_wayAt_18 ⟨Nat.le_of_ble_eq_true rfl, Nat.le_of_ble_eq_true rfl⟩) ?_
    refine zasi (show (bI (iT nt ((nI t)))) = nI 1 from by rw [iT_t ht (by omega)]; rfl) ?_
    refine lv_if_eq (tgt := 46) hx hb dX5_wayAt_21 (by decide) (fun c_21 => ?_) (fun c_21 => ?_)
    · exact absurd c_21 (by decide)
    · refine lv_iload_n hx hb dX5_wayAt_24 rfl (lv_at hl 2 rfl) ?_
      refine lv_if_lt (tgt := 46) hx hb dX5_wayAt_25 (by decide) (fun c_25 => ?_) (fun c_25 => ?_)
      · refine lv_iconst (v := nI 0) hx hb dX5_wayAt_46 (by decide) ?_
        refine lv_istore (lv' := [(7, .int (nI 0)), (6, .int (nI 1)), (0, .ref hm), (1, .int pl), (2, .int (nI t)), (3, .int (nI y)), (4, .int (nI g)), (5, .int (nI d))]) hx hb dX5_wayAt_47 hl (by decide) rfl (fun ls hl => ?_)
        refine lv_aload_n hx hb dX5_wayAt_49 rfl (lv_at hl 2 rfl) ?_
        refine lv_iload hx hb dX5_wayAt_50 (lv_at hl 1 rfl) ?_
        refine lv_if_ne (tgt := 59) hx hb dX5_wayAt_52 (by decide) (fun c_52 => ?_) (fun c_52 => ?_)
        · refine lv_iload hx hb dX5_wayAt_59 (lv_at hl 0 rfl) ?_
          refine lv_if_eq (tgt := 68) hx hb dX5_wayAt_61 (by decide) (fun c_61 => ?_) (fun c_61 => ?_)
          · refine lv_iconst (v := nI 2) hx hb dX5_wayAt_68 (by decide) ?_
            refine zmci (va_runV (As := [.int (nI 2)]) (rest := []) ⟨hx, hb, hml, hown, hts⟩ (m_holds l D ca sa hm ad th td nt np nc M 2 (by decide) _) (cwV 1 hts gX5_wayAt_X5_holds rfl rfl rfl (by decide +kernel) ⟨Nat.le_of_ble_eq_true rfl, Nat.le_of_ble_eq_true rfl⟩) (zmV hP hD hE (ci := 5) rfl (q0 := 0) rfl) rfl rfl hl.1 rfl (lv_room (Nat.le_of_ble_eq_true rfl)) dX5_wayAt_69 ⟨Nat.le_of_ble_eq_true rfl, Nat.le_of_ble_eq_true rfl⟩) hD rfl hS hA (fun r9 H locs er hP hD hS => ?_)
            subst er
            refine zasi (show bI (decide (2 = 0)) = nI 0 from rfl) ?_
            refine lv_if_ne (tgt := 77) hx hb dX5_wayAt_72 (by decide) (fun c_72 => ?_) (fun c_72 => ?_)
            · exact absurd c_72 (by decide)
            · refine lv_iconst (v := nI 0) hx hb dX5_wayAt_75 (by decide) ?_
              exact zmri hx hb hr hlocks dX5_wayAt_76 hP hS (trivial)
          · exact absurd c_61 (by decide)
        · exact absurd c_52 (by decide)
      · refine lv_iload_n hx hb dX5_wayAt_28 rfl (lv_at hl 2 rfl) ?_
        refine lv_aload_n hx hb dX5_wayAt_29 rfl (lv_at hl 1 rfl) ?_
        refine lv_iload_n hx hb dX5_wayAt_30 rfl (lv_at hl 3 rfl) ?_
        refine lv_iload_n hx hb dX5_wayAt_31 rfl (lv_at hl 4 rfl) ?_
        refine lv_iload hx hb dX5_wayAt_32 (lv_at hl 5 rfl) ?_
        refine lv_iload hx hb dX5_wayAt_34 (lv_at hl 6 rfl) ?_
        refine zci (va_runV (As := [.int (nI t), .int (nI y), .int (nI g), .int (nI d)]) (rest := [.int pl]) ⟨hx, hb, hml, hown, hts⟩ (m_waysTo l D ca sa hm ad th td nt np nc M t y g d hnc hnp (by omega) hy (by omega)) (cwV 4 hts gX5_wayAt_X5_waysTo rfl rfl rfl (by decide +kernel) ⟨Nat.le_of_ble_eq_true rfl, Nat.le_of_ble_eq_true rfl⟩) (zpV hP hE (ci := 5) rfl (q0 := 0) rfl) rfl rfl hl.1 rfl (lv_room (Nat.le_of_ble_eq_true rfl)) dX5_wayAt_36 ⟨Nat.le_of_ble_eq_true rfl, Nat.le_of_ble_eq_true rfl⟩) ?_
        refine lv_icmp_ge (tgt := 46) hx hb dX5_wayAt_39 (by decide) (fun c_39 => ?_) (fun c_39 => ?_)
        · refine lv_iconst (v := nI 0) hx hb dX5_wayAt_46 (by decide) ?_
          refine lv_istore (lv' := [(7, .int (nI 0)), (6, .int (nI 1)), (0, .ref hm), (1, .int pl), (2, .int (nI t)), (3, .int (nI y)), (4, .int (nI g)), (5, .int (nI d))]) hx hb dX5_wayAt_47 hl (by decide) rfl (fun ls hl => ?_)
          refine lv_aload_n hx hb dX5_wayAt_49 rfl (lv_at hl 2 rfl) ?_
          refine lv_iload hx hb dX5_wayAt_50 (lv_at hl 1 rfl) ?_
          refine lv_if_ne (tgt := 59) hx hb dX5_wayAt_52 (by decide) (fun c_52 => ?_) (fun c_52 => ?_)
          · refine lv_iload hx hb dX5_wayAt_59 (lv_at hl 0 rfl) ?_
            refine lv_if_eq (tgt := 68) hx hb dX5_wayAt_61 (by decide) (fun c_61 => ?_) (fun c_61 => ?_)
            · refine lv_iconst (v := nI 2) hx hb dX5_wayAt_68 (by decide) ?_
              refine zmci (va_runV (As := [.int (nI 2)]) (rest := []) ⟨hx, hb, hml, hown, hts⟩ (m_holds l D ca sa hm ad th td nt np nc M 2 (by decide) _) (cwV 1 hts gX5_wayAt_X5_holds rfl rfl rfl (by decide +kernel) ⟨Nat.le_of_ble_eq_true rfl, Nat.le_of_ble_eq_true rfl⟩) (zmV hP hD hE (ci := 5) rfl (q0 := 0) rfl) rfl rfl hl.1 rfl (lv_room (Nat.le_of_ble_eq_true rfl)) dX5_wayAt_69 ⟨Nat.le_of_ble_eq_true rfl, Nat.le_of_ble_eq_true rfl⟩) hD rfl hS hA (fun r9 H locs er hP hD hS => ?_)
              subst er
              refine zasi (show bI (decide (2 = 0)) = nI 0 from rfl) ?_
              refine lv_if_ne (tgt := 77) hx hb dX5_wayAt_72 (by decide) (fun c_72 => ?_) (fun c_72 => ?_)
              · exact absurd c_72 (by decide)
              · refine lv_iconst (v := nI 0) hx hb dX5_wayAt_75 (by decide) ?_
                exact zmri hx hb hr hlocks dX5_wayAt_76 hP hS (trivial)
            · exact absurd c_61 (by decide)
          · exact absurd c_52 (by decide)
        · exact absurd hbad (by rw [iT, decide_eq_true (p := ¬ pl < 0) c_25, decide_eq_true (p := ¬ nI (mWays M nc t y g d np) ≤ pl) c_39]; decide)

set_option maxHeartbeats 4000000 in
set_option maxRecDepth 100000 in
theorem m_isNeedless (l : Launch) (D : va_G) (ca : Nat → ClassId) (sa : Nat → Nat) (hm : Nat) (ad : Nat → Nat) (th : Int32) (td nt np nc : Nat) (M : Nat → Nat → Int32) (q : Nat) (fy : Nat → Nat) (hq : q < np) (hnp : np ≤ 10) (hnt : nt ≤ 20) (hnc : nc ≤ 600) (htd : td ≤ 20000) (hfy : ∀ t, t < nt → M 0 t = nI (fy t) ∧ fy t ≤ 55) (sz : Nat) : Met l yX5_isNeedless wsX5_isNeedless ({ frames := 9, cells := 0, slots := 0, locals := 360 }) (va_Pc [.ref hm, .int (nI q)] (zMp D (mW hm ad ca th td nt np nc M) ca sa sz)) (va_Qi (fun (r : Int32) (_ : Unit) => r = bI (mNt M nc np q td fy nt 0 true)) (fun _ t9 => va_P D vwCl (mW hm ad ca (nI 0) td nt np nc M) t9.heap) (va_A (mW hm ad ca th td nt np nc M) sz)) 0 0 (va_A (mW hm ad ca th td nt np nc M) sz) := by
  refine Met.ofW (cc := cX5_isNeedless) (maxL := 6) (ret := (some .boolean)) (by decide) rfl ?_
  intro p e s m args below meth c s₁ B hml hv
  obtain ⟨rfl, hsz, hP, hD0, hE⟩ := hv
  have hx := B.exec
  have hb := B.bytes
  have hr := B.returns
  have hts := atoms_spec (ws := wsX5_isNeedless) B.pre
  have hown : s.vm.findClass RX5 = some m.cls := findClass_of_methodNamed B.named
  have hlocks := B.notSynchronized
  have hl := lv_entry ([.ref hm, .int (nI q)]) (n := 6) (Nat.le_of_ble_eq_true rfl)
  rw [lg_entry_eq]
  generalize (lg_sl ([.ref hm, .int (nI q)]) ++ List.replicate (6 - (lg_sl ([.ref hm, .int (nI q)])).length) Slot.unset).toArray = ls at hl ⊢
  have hl : lv_has ls 6 [(0, .ref hm), (1, .int (nI q))] := hl
  subst hsz
  have hD := hD0.self (sz := s.heap.size)
  generalize hAe : va_A (mW hm ad ca th td nt np nc M) s.heap.size = A at hD ⊢
  have hA : ∀ q : Nat, s.heap.size ≤ q → A q := fun q h => by rw [← hAe]; exact Or.inr h
  have hS : va_S A s.heap s.heap [] := va_S.rf
  refine lv_aload_n hx hb dX5_isNeedless_0 rfl (lv_at hl 0 rfl) ?_
  refine lv_aload_n hx hb dX5_isNeedless_1 rfl (lv_at hl 0 rfl) ?_
  refine lv_iload_n hx hb dX5_isNeedless_2 rfl (lv_at hl 1 rfl) ?_
  refine zci (va_runV (As := [.int (nI q)]) (rest := [.ref hm]) ⟨hx, hb, hml, hown, hts⟩ (m_isP l D ca sa hm ad th td nt np nc M ((nI q))) (cwV 1 hts gX5_isNeedless_X5_isPackage rfl rfl rfl (by decide +kernel) ⟨Nat.le_of_ble_eq_true rfl, Nat.le_of_ble_eq_true rfl⟩) (zpV hP hE (ci := 5) rfl (q0 := 0) rfl) rfl rfl hl.1 rfl (lv_room (Nat.le_of_ble_eq_true rfl)) dX5_isNeedless_3 ⟨Nat.le_of_ble_eq_true rfl, Nat.le_of_ble_eq_true rfl⟩) ?_
  refine zasi (show (bI (iT np ((nI q)))) = nI 1 from by rw [iT_t hq (by omega)]; rfl) ?_
  refine lv_if_eq (tgt := 13) hx hb dX5_isNeedless_6 (by decide) (fun c_6 => ?_) (fun c_6 => ?_)
  · exact absurd c_6 (by decide)
  · refine lv_iconst (v := nI 0) hx hb dX5_isNeedless_9 (by decide) ?_
    refine lv_goto (tgt := 14) hx hb dX5_isNeedless_10 (by decide) ?_
    refine zmci (va_runV (As := [.int (nI 0)]) (rest := []) ⟨hx, hb, hml, hown, hts⟩ (m_holds l D ca sa hm ad th td nt np nc M 0 (by decide) _) (cwV 1 hts gX5_isNeedless_X5_holds rfl rfl rfl (by decide +kernel) ⟨Nat.le_of_ble_eq_true rfl, Nat.le_of_ble_eq_true rfl⟩) (zmV hP hD hE (ci := 5) rfl (q0 := 0) rfl) rfl rfl hl.1 rfl (lv_room (Nat.le_of_ble_eq_true rfl)) dX5_isNeedless_14 ⟨Nat.le_of_ble_eq_true rfl, Nat.le_of_ble_eq_true rfl⟩) hD rfl hS hA (fun r9 H locs er hP hD hS => ?_)
    subst er
    refine zasi (show bI (decide (0 = 0)) = nI 1 from rfl) ?_
    refine lv_if_ne (tgt := 22) hx hb dX5_isNeedless_17 (by decide) (fun c_17 => ?_) (fun c_17 => ?_)
    · refine lv_iconst (v := nI 1) hx hb dX5_isNeedless_22 (by decide) ?_
      refine zasi (show (nI 1) = bI true from rfl) ?_
      refine lv_istore_n (lv' := [(2, .int (bI true)), (0, .ref hm), (1, .int (nI q))]) hx hb dX5_isNeedless_23 rfl hl (by decide) rfl (fun ls hl => ?_)
      refine lv_iconst (v := nI 0) hx hb dX5_isNeedless_24 (by decide) ?_
      refine lv_istore_n (lv' := [(3, .int (nI 0)), (2, .int (bI true)), (0, .ref hm), (1, .int (nI q))]) hx hb dX5_isNeedless_25 rfl hl (by decide) rfl (fun ls hl => ?_)
      have loop : ∀ (n9 : Nat) (t : Nat) (b : Bool) (ls : Array Slot), t ≤ nt → nt < t + n9 → mNt M nc np q td fy (nt - t) t b = mNt M nc np q td fy nt 0 true → lv_has ls 6 [(3, .int (nI t)), (2, .int (bI b)), (0, .ref hm), (1, .int (nI q))] → W p l e (headSpec wsX5_isNeedless ({ frames := 9, cells := 0, slots := 0, locals := 360 })).room s m ([.ref hm, .int (nI q)] : List Value).toArray below meth c H locs 0 0 (MQ below (va_Qi (fun (r : Int32) (_ : Unit) => r = bI (mNt M nc np q td fy nt 0 true)) (fun _ t9 => va_P D vwCl (mW hm ad ca (nI 0) td nt np nc M) t9.heap) A) ([.ref hm, .int (nI q)] : List Value).toArray s 0 0 A) (F0 m 26 ls []) := by
        intro n9
        induction n9 with
        | zero =>
          intro t b ls hk hfu hcl hl
          exact absurd hfu (by omega)
        | succ n9 ih =>
          intro t b ls hk hfu hcl hl
          refine lv_iload_n hx hb dX5_isNeedless_26 rfl (lv_at hl 0 rfl) ?_
          refine lv_aload_n hx hb dX5_isNeedless_27 rfl (lv_at hl 2 rfl) ?_
          refine zmget (own := RX5) (ci := 5) (C := RX5) (T := TX5) (N := 18) hx hb hts (by decide +kernel) hown hE hP 0 rfl rfl 2 (by decide) (hts (.fieldLink RX5 54 "LinkResolverModel" "titles" "I") (by decide +kernel)) rfl dX5_isNeedless_28 ?_
          refine lv_icmp_ge (tgt := 147) hx hb dX5_isNeedless_31 (by decide) (fun c_31 => ?_) (fun c_31 => ?_)
          · have e9 : nt - t = 0 := by have := (nI_leI (by omega) (by omega)).mp c_31; omega
            refine lv_iload_n hx hb dX5_isNeedless_147 rfl (lv_at hl 1 rfl) ?_
            exact zmrz hx hb hr hlocks dX5_isNeedless_148 (bI_nar _) hP hS (by rw [← hcl, e9]; rfl)
          · have ht : t < nt := Nat.lt_of_not_le (fun q9 => c_31 ((nI_leI (by omega) (by omega)).mpr q9))
            refine lv_iload_n hx hb dX5_isNeedless_34 rfl (lv_at hl 1 rfl) ?_
            refine lv_if_eq (tgt := 147) hx hb dX5_isNeedless_35 (by decide) (fun c_35 => ?_) (fun c_35 => ?_)
            · have e_35 := bI_eq0 c_35
              refine lv_iload_n hx hb dX5_isNeedless_147 rfl (lv_at hl 1 rfl) ?_
              exact zmrz hx hb hr hlocks dX5_isNeedless_148 (bI_nar _) hP hS (by rw [← hcl, e_35, mNt_f])
            · have e_35 := bI_ne0 c_35
              refine lv_aload_n hx hb dX5_isNeedless_38 rfl (lv_at hl 2 rfl) ?_
              refine zmget (own := RX5) (ci := 5) (C := RX5) (T := TX5) (N := 18) hx hb hts (by decide +kernel) hown hE hP 0 rfl rfl 4 (by decide) (hts (.fieldLink RX5 7 "LinkResolverModel" "firstYears" "[I") (by decide +kernel)) rfl dX5_isNeedless_39 ?_
              refine lv_iload_n hx hb dX5_isNeedless_42 rfl (lv_at hl 0 rfl) ?_
              refine zmi hx hb hE hP 1 rfl (i := t) (show _ < _ from by omega) (by decide) dX5_isNeedless_43 ?_
              refine zasi (show (M 0 t) = nI (fy t) from (hfy t ht).1) ?_
              refine lv_istore (lv' := [(4, .int (nI (fy t))), (3, .int (nI t)), (2, .int (bI b)), (0, .ref hm), (1, .int (nI q))]) hx hb dX5_isNeedless_44 hl (by decide) rfl (fun ls hl => ?_)
              have hfy5 := (hfy t ht).2
              obtain ⟨b1, hb1⟩ : ∃ z : Bool, z = b := ⟨_, rfl⟩
              have inner : ∀ (n8 : Nat) (y : Nat) (b : Bool) (ls : Array Slot), y ≤ 56 → 56 < y + n8 → mNy M nc np q t td (td / 360 + 1 - y) y b = mNy M nc np q t td (td / 360 + 1 - fy t) (fy t) b1 → lv_has ls 6 [(4, .int (nI y)), (3, .int (nI t)), (2, .int (bI b)), (0, .ref hm), (1, .int (nI q))] → W p l e (headSpec wsX5_isNeedless ({ frames := 9, cells := 0, slots := 0, locals := 360 })).room s m ([.ref hm, .int (nI q)] : List Value).toArray below meth c H locs 0 0 (MQ below (va_Qi (fun (r : Int32) (_ : Unit) => r = bI (mNt M nc np q td fy nt 0 true)) (fun _ t9 => va_P D vwCl (mW hm ad ca (nI 0) td nt np nc M) t9.heap) A) ([.ref hm, .int (nI q)] : List Value).toArray s 0 0 A) (F0 m 46 ls []) := by
                intro n8
                induction n8 with
                | zero =>
                  intro y b ls hk hfu hci hl
                  exact absurd hfu (by omega)
                | succ n8 ihi =>
                  intro y b ls hk hfu hci hl
                  refine lv_iload hx hb dX5_isNeedless_46 (lv_at hl 0 rfl) ?_
                  refine lv_aload_n hx hb dX5_isNeedless_48 rfl (lv_at hl 3 rfl) ?_
                  refine zmget (own := RX5) (ci := 5) (C := RX5) (T := TX5) (N := 18) hx hb hts (by decide +kernel) hown hE hP 0 rfl rfl 1 (by decide) (hts (.fieldLink RX5 78 "LinkResolverModel" "today" "I") (by decide +kernel)) rfl dX5_isNeedless_49 ?_
                  refine lv_sipush (v := nI 360) hx hb dX5_isNeedless_52 (by decide) ?_
                  refine lv_idiv hx hb dX5_isNeedless_55 z360 ?_
                  refine zasi (show ((nI td) / (nI 360)) = nI (td / 360) from zdiv htd) ?_
                  refine lv_icmp_gt (tgt := 141) hx hb dX5_isNeedless_56 (by decide) (fun c_56 => ?_) (fun c_56 => ?_)
                  · have hb9 : mNy M nc np q t td (td / 360 + 1 - y) y b = b := by rw [show td / 360 + 1 - y = 0 by have := (nI_ltI (by omega) (by omega)).mp c_56; omega]; rfl
                    refine lv_iinc (v := nI (t + 1)) (lv' := [(3, .int (nI (t + 1))), (4, .int (nI y)), (2, .int (bI b)), (0, .ref hm), (1, .int (nI q))]) hx hb dX5_isNeedless_141 hl (k := 1) rfl (zinc1 _) (by decide) rfl (fun ls hl => ?_)
                    refine lv_goto (tgt := 26) hx hb dX5_isNeedless_144 (by decide) ?_
                    refine ih (t + 1) b ls (by omega) (by omega) ?_ (lv_sub hl [0, 2, 3, 4] rfl)
                    rw [← hcl, show nt - t = (nt - (t + 1)) + 1 by omega, mNt, if_pos e_35, ← hb1, ← hci, hb9]
                  · have hy : y ≤ td / 360 := Nat.le_of_not_lt (fun q9 => c_56 ((nI_ltI (by omega) (by omega)).mpr q9))
                    refine lv_iload_n hx hb dX5_isNeedless_59 rfl (lv_at hl 2 rfl) ?_
                    refine lv_if_eq (tgt := 141) hx hb dX5_isNeedless_60 (by decide) (fun c_60 => ?_) (fun c_60 => ?_)
                    · have e_60 := bI_eq0 c_60
                      have hb9 : mNy M nc np q t td (td / 360 + 1 - y) y b = b := by rw [e_60]; exact mNy_f _ _ _ _ _ _ _ _
                      refine lv_iinc (v := nI (t + 1)) (lv' := [(3, .int (nI (t + 1))), (4, .int (nI y)), (2, .int (bI b)), (0, .ref hm), (1, .int (nI q))]) hx hb dX5_isNeedless_141 hl (k := 1) rfl (zinc1 _) (by decide) rfl (fun ls hl => ?_)
                      refine lv_goto (tgt := 26) hx hb dX5_isNeedless_144 (by decide) ?_
                      refine ih (t + 1) b ls (by omega) (by omega) ?_ (lv_sub hl [0, 2, 3, 4] rfl)
                      rw [← hcl, show nt - t = (nt - (t + 1)) + 1 by omega, mNt, if_pos e_35, ← hb1, ← hci, hb9]
                    · have e_60 := bI_ne0 c_60
                      refine lv_aload_n hx hb dX5_isNeedless_63 rfl (lv_at hl 3 rfl) ?_
                      refine lv_iload_n hx hb dX5_isNeedless_64 rfl (lv_at hl 4 rfl) ?_
                      refine lv_iload_n hx hb dX5_isNeedless_65 rfl (lv_at hl 1 rfl) ?_
                      refine lv_iload hx hb dX5_isNeedless_66 (lv_at hl 0 rfl) ?_
                      refine lv_aload_n hx hb dX5_isNeedless_68 rfl (lv_at hl 3 rfl) ?_
                      refine zmget (own := RX5) (ci := 5) (C := RX5) (T := TX5) (N := 18) hx hb hts (by decide +kernel) hown hE hP 0 rfl rfl 1 (by decide) (hts (.fieldLink RX5 78 "LinkResolverModel" "today" "I") (by decide +kernel)) rfl dX5_isNeedless_69 ?_
                      refine lv_aload_n hx hb dX5_isNeedless_72 rfl (lv_at hl 3 rfl) ?_
                      refine zmget (own := RX5) (ci := 5) (C := RX5) (T := TX5) (N := 18) hx hb hts (by decide +kernel) hown hE hP 0 rfl rfl 1 (by decide) (hts (.fieldLink RX5 78 "LinkResolverModel" "today" "I") (by decide +kernel)) rfl dX5_isNeedless_73 ?_
                      refine zci (va_runV (As := [.int (nI q), .int (nI t), .int (nI y), .int (nI td), .int (nI td)]) (rest := []) ⟨hx, hb, hml, hown, hts⟩ (m_has l D ca sa hm ad (nI 0) td nt np nc M q t y td td hnc (by omega) (by omega) htd) (cwV 5 hts gX5_isNeedless_X5_has rfl rfl rfl (by decide +kernel) ⟨Nat.le_of_ble_eq_true rfl, Nat.le_of_ble_eq_true rfl⟩) (zpV hP hE (ci := 5) rfl (q0 := 0) rfl) rfl rfl hl.1 rfl (lv_room (Nat.le_of_ble_eq_true rfl)) dX5_isNeedless_76 ⟨Nat.le_of_ble_eq_true rfl, Nat.le_of_ble_eq_true rfl⟩) ?_
                      refine lv_if_eq (tgt := 101) hx hb dX5_isNeedless_79 (by decide) (fun c_79 => ?_) (fun c_79 => ?_)
                      · have e_79 := bI_eq0 c_79
                        refine lv_iconst (v := nI 0) hx hb dX5_isNeedless_101 (by decide) ?_
                        refine lv_istore (lv' := [(5, .int (nI 0)), (4, .int (nI y)), (3, .int (nI t)), (2, .int (bI b)), (0, .ref hm), (1, .int (nI q))]) hx hb dX5_isNeedless_102 hl (by decide) rfl (fun ls hl => ?_)
                        refine lv_iload hx hb dX5_isNeedless_104 (lv_at hl 0 rfl) ?_
                        refine lv_if_eq (tgt := 129) hx hb dX5_isNeedless_106 (by decide) (fun c_106 => ?_) (fun c_106 => ?_)
                        · refine lv_iconst (v := nI 1) hx hb dX5_isNeedless_129 (by decide) ?_
                          refine zasi (show (nI 1) = bI (mNs M nc np q t y td) from by rw [mNs, if_neg (fun q9 => absurd q9.1 (by rw [e_79]; exact Bool.false_ne_true))]; rfl) ?_
                          refine lv_goto (tgt := 134) hx hb dX5_isNeedless_130 (by decide) ?_
                          refine lv_istore_n (lv' := [(2, .int (bI (mNs M nc np q t y td))), (5, .int (nI 0)), (4, .int (nI y)), (3, .int (nI t)), (0, .ref hm), (1, .int (nI q))]) hx hb dX5_isNeedless_134 rfl hl (by decide) rfl (fun ls hl => ?_)
                          refine lv_iinc (v := nI (y + 1)) (lv' := [(4, .int (nI (y + 1))), (2, .int (bI (mNs M nc np q t y td))), (5, .int (nI 0)), (3, .int (nI t)), (0, .ref hm), (1, .int (nI q))]) hx hb dX5_isNeedless_135 hl (k := 2) rfl (zinc1 _) (by decide) rfl (fun ls hl => ?_)
                          refine lv_goto (tgt := 46) hx hb dX5_isNeedless_138 (by decide) ?_
                          exact ihi (y + 1) _ ls (by omega) (by omega) (by rw [← hci, show td / 360 + 1 - y = (td / 360 + 1 - (y + 1)) + 1 by omega, mNy, if_pos e_60]) (lv_sub hl [0, 3, 1, 4, 5] rfl)
                        · exact absurd c_106 (by decide)
                      · have e_79 := bI_ne0 c_79
                        refine lv_aload_n hx hb dX5_isNeedless_82 rfl (lv_at hl 3 rfl) ?_
                        refine lv_iload_n hx hb dX5_isNeedless_83 rfl (lv_at hl 4 rfl) ?_
                        refine lv_iload_n hx hb dX5_isNeedless_84 rfl (lv_at hl 1 rfl) ?_
                        refine lv_iload hx hb dX5_isNeedless_85 (lv_at hl 0 rfl) ?_
                        refine lv_aload_n hx hb dX5_isNeedless_87 rfl (lv_at hl 3 rfl) ?_
                        refine zmget (own := RX5) (ci := 5) (C := RX5) (T := TX5) (N := 18) hx hb hts (by decide +kernel) hown hE hP 0 rfl rfl 1 (by decide) (hts (.fieldLink RX5 78 "LinkResolverModel" "today" "I") (by decide +kernel)) rfl dX5_isNeedless_88 ?_
                        refine zci (va_runV (As := [.int (nI q), .int (nI t), .int (nI y), .int (nI td)]) (rest := []) ⟨hx, hb, hml, hown, hts⟩ (m_kept l D ca sa hm ad (nI 0) td nt np nc M q t y td hnc (by omega) (by omega) htd (by omega)) (cwV 4 hts gX5_isNeedless_X5_isKept rfl rfl rfl (by decide +kernel) ⟨Nat.le_of_ble_eq_true rfl, Nat.le_of_ble_eq_true rfl⟩) (zpV hP hE (ci := 5) rfl (q0 := 0) rfl) rfl rfl hl.1 rfl (lv_room (Nat.le_of_ble_eq_true rfl)) dX5_isNeedless_91 ⟨Nat.le_of_ble_eq_true rfl, Nat.le_of_ble_eq_true rfl⟩) ?_
                        refine lv_if_ne (tgt := 101) hx hb dX5_isNeedless_94 (by decide) (fun c_94 => ?_) (fun c_94 => ?_)
                        · have e_94 := bI_ne0 c_94
                          refine lv_iconst (v := nI 0) hx hb dX5_isNeedless_101 (by decide) ?_
                          refine lv_istore (lv' := [(5, .int (nI 0)), (4, .int (nI y)), (3, .int (nI t)), (2, .int (bI b)), (0, .ref hm), (1, .int (nI q))]) hx hb dX5_isNeedless_102 hl (by decide) rfl (fun ls hl => ?_)
                          refine lv_iload hx hb dX5_isNeedless_104 (lv_at hl 0 rfl) ?_
                          refine lv_if_eq (tgt := 129) hx hb dX5_isNeedless_106 (by decide) (fun c_106 => ?_) (fun c_106 => ?_)
                          · refine lv_iconst (v := nI 1) hx hb dX5_isNeedless_129 (by decide) ?_
                            refine zasi (show (nI 1) = bI (mNs M nc np q t y td) from by rw [mNs, if_neg (fun q9 => absurd q9.2 (by rw [e_94]; decide))]; rfl) ?_
                            refine lv_goto (tgt := 134) hx hb dX5_isNeedless_130 (by decide) ?_
                            refine lv_istore_n (lv' := [(2, .int (bI (mNs M nc np q t y td))), (5, .int (nI 0)), (4, .int (nI y)), (3, .int (nI t)), (0, .ref hm), (1, .int (nI q))]) hx hb dX5_isNeedless_134 rfl hl (by decide) rfl (fun ls hl => ?_)
                            refine lv_iinc (v := nI (y + 1)) (lv' := [(4, .int (nI (y + 1))), (2, .int (bI (mNs M nc np q t y td))), (5, .int (nI 0)), (3, .int (nI t)), (0, .ref hm), (1, .int (nI q))]) hx hb dX5_isNeedless_135 hl (k := 2) rfl (zinc1 _) (by decide) rfl (fun ls hl => ?_)
                            refine lv_goto (tgt := 46) hx hb dX5_isNeedless_138 (by decide) ?_
                            exact ihi (y + 1) _ ls (by omega) (by omega) (by rw [← hci, show td / 360 + 1 - y = (td / 360 + 1 - (y + 1)) + 1 by omega, mNy, if_pos e_60]) (lv_sub hl [0, 3, 1, 4, 5] rfl)
                          · exact absurd c_106 (by decide)
                        · have e_94 := bI_eq0 c_94
                          refine lv_iconst (v := nI 1) hx hb dX5_isNeedless_97 (by decide) ?_
                          refine lv_goto (tgt := 102) hx hb dX5_isNeedless_98 (by decide) ?_
                          refine lv_istore (lv' := [(5, .int (nI 1)), (4, .int (nI y)), (3, .int (nI t)), (2, .int (bI b)), (0, .ref hm), (1, .int (nI q))]) hx hb dX5_isNeedless_102 hl (by decide) rfl (fun ls hl => ?_)
                          refine lv_iload hx hb dX5_isNeedless_104 (lv_at hl 0 rfl) ?_
                          refine lv_if_eq (tgt := 129) hx hb dX5_isNeedless_106 (by decide) (fun c_106 => ?_) (fun c_106 => ?_)
                          · exact absurd c_106 (by decide)
                          · refine lv_aload_n hx hb dX5_isNeedless_109 rfl (lv_at hl 4 rfl) ?_
                            refine zmget (own := RX5) (ci := 5) (C := RX5) (T := TX5) (N := 18) hx hb hts (by decide +kernel) hown hE hP 0 rfl rfl 8 (by decide) (hts (.fieldLink RX5 22 "LinkResolverModel" "groups" "[I") (by decide +kernel)) rfl dX5_isNeedless_110 ?_
                            refine lv_iload_n hx hb dX5_isNeedless_113 rfl (lv_at hl 5 rfl) ?_
                            refine zmi hx hb hE hP 5 rfl (i := q) (show _ < _ from by omega) (by decide) dX5_isNeedless_114 ?_
                            refine lv_aload_n hx hb dX5_isNeedless_115 rfl (lv_at hl 4 rfl) ?_
                            refine lv_iload_n hx hb dX5_isNeedless_116 rfl (lv_at hl 5 rfl) ?_
                            refine lv_iload_n hx hb dX5_isNeedless_117 rfl (lv_at hl 2 rfl) ?_
                            refine lv_iload hx hb dX5_isNeedless_118 (lv_at hl 1 rfl) ?_
                            refine zci (va_runV (As := [.int (nI q), .int (nI t), .int (nI y)]) (rest := [.int (M 4 q)]) ⟨hx, hb, hml, hown, hts⟩ (m_oth l D ca sa hm ad (nI 0) td nt np nc M q t y hnc hnp (by omega) (by omega) (by omega) htd) (cwV 3 hts gX5_isNeedless_X5_othersFor rfl rfl rfl (by decide +kernel) ⟨Nat.le_of_ble_eq_true rfl, Nat.le_of_ble_eq_true rfl⟩) (zpV hP hE (ci := 5) rfl (q0 := 0) rfl) rfl rfl hl.1 rfl (lv_room (Nat.le_of_ble_eq_true rfl)) dX5_isNeedless_120 ⟨Nat.le_of_ble_eq_true rfl, Nat.le_of_ble_eq_true rfl⟩) ?_
                            refine lv_iconst (v := (-1)) hx hb dX5_isNeedless_123 (by decide) ?_
                            refine lv_ixor hx hb dX5_isNeedless_124 ?_
                            refine lv_iand hx hb dX5_isNeedless_125 ?_
                            refine lv_if_ne (tgt := 133) hx hb dX5_isNeedless_126 (by decide) (fun c_126 => ?_) (fun c_126 => ?_)
                            · refine lv_iconst (v := nI 0) hx hb dX5_isNeedless_133 (by decide) ?_
                              refine zasi (show (nI 0) = bI (mNs M nc np q t y td) from by rw [mNs, if_pos ⟨e_79, e_94⟩]; exact bI_f c_126) ?_
                              refine lv_istore_n (lv' := [(2, .int (bI (mNs M nc np q t y td))), (5, .int (nI 1)), (4, .int (nI y)), (3, .int (nI t)), (0, .ref hm), (1, .int (nI q))]) hx hb dX5_isNeedless_134 rfl hl (by decide) rfl (fun ls hl => ?_)
                              refine lv_iinc (v := nI (y + 1)) (lv' := [(4, .int (nI (y + 1))), (2, .int (bI (mNs M nc np q t y td))), (5, .int (nI 1)), (3, .int (nI t)), (0, .ref hm), (1, .int (nI q))]) hx hb dX5_isNeedless_135 hl (k := 2) rfl (zinc1 _) (by decide) rfl (fun ls hl => ?_)
                              refine lv_goto (tgt := 46) hx hb dX5_isNeedless_138 (by decide) ?_
                              exact ihi (y + 1) _ ls (by omega) (by omega) (by rw [← hci, show td / 360 + 1 - y = (td / 360 + 1 - (y + 1)) + 1 by omega, mNy, if_pos e_60]) (lv_sub hl [0, 3, 1, 4, 5] rfl)
                            · refine lv_iconst (v := nI 1) hx hb dX5_isNeedless_129 (by decide) ?_
                              refine zasi (show (nI 1) = bI (mNs M nc np q t y td) from by rw [mNs, if_pos ⟨e_79, e_94⟩]; exact bI_t c_126) ?_
                              refine lv_goto (tgt := 134) hx hb dX5_isNeedless_130 (by decide) ?_
                              refine lv_istore_n (lv' := [(2, .int (bI (mNs M nc np q t y td))), (5, .int (nI 1)), (4, .int (nI y)), (3, .int (nI t)), (0, .ref hm), (1, .int (nI q))]) hx hb dX5_isNeedless_134 rfl hl (by decide) rfl (fun ls hl => ?_)
                              refine lv_iinc (v := nI (y + 1)) (lv' := [(4, .int (nI (y + 1))), (2, .int (bI (mNs M nc np q t y td))), (5, .int (nI 1)), (3, .int (nI t)), (0, .ref hm), (1, .int (nI q))]) hx hb dX5_isNeedless_135 hl (k := 2) rfl (zinc1 _) (by decide) rfl (fun ls hl => ?_)
                              refine lv_goto (tgt := 46) hx hb dX5_isNeedless_138 (by decide) ?_
                              exact ihi (y + 1) _ ls (by omega) (by omega) (by rw [← hci, show td / 360 + 1 - y = (td / 360 + 1 - (y + 1)) + 1 by omega, mNy, if_pos e_60]) (lv_sub hl [0, 3, 1, 4, 5] rfl)
              exact inner 57 (fy t) b ls (by omega) (by omega) (by rw [hb1]) (lv_sub hl [0, 1, 2, 3, 4] rfl)
      exact loop (nt + 1) 0 true ls (Nat.zero_le _) (by omega) rfl (lv_sub hl [0, 1, 2, 3] rfl)
    · exact absurd c_17 (by decide)

set_option maxHeartbeats 4000000 in
set_option maxRecDepth 100000 in
theorem m_isNeedless_1 (l : Launch) (D : va_G) (ca : Nat → ClassId) (sa : Nat → Nat) (hm : Nat) (ad : Nat → Nat) (th : Int32) (td nt np nc : Nat) (M : Nat → Nat → Int32) (q : Int32) (hbad : iT np q = false) (sz : Nat) : Met l yX5_isNeedless wsX5_isNeedless ({ frames := 9, cells := 0, slots := 0, locals := 360 }) (va_Pc [.ref hm, .int q] (zMp D (mW hm ad ca th td nt np nc M) ca sa sz)) (va_Qi (fun (r : Int32) (_ : Unit) => True) (fun _ t9 => va_P D vwCl (mW hm ad ca (nI 1) td nt np nc M) t9.heap) (va_A (mW hm ad ca th td nt np nc M) sz)) 0 0 (va_A (mW hm ad ca th td nt np nc M) sz) := by
  refine Met.ofW (cc := cX5_isNeedless) (maxL := 6) (ret := (some .boolean)) (by decide) rfl ?_
  intro p e s m args below meth c s₁ B hml hv
  obtain ⟨rfl, hsz, hP, hD0, hE⟩ := hv
  have hx := B.exec
  have hb := B.bytes
  have hr := B.returns
  have hts := atoms_spec (ws := wsX5_isNeedless) B.pre
  have hown : s.vm.findClass RX5 = some m.cls := findClass_of_methodNamed B.named
  have hlocks := B.notSynchronized
  have hl := lv_entry ([.ref hm, .int q]) (n := 6) (Nat.le_of_ble_eq_true rfl)
  rw [lg_entry_eq]
  generalize (lg_sl ([.ref hm, .int q]) ++ List.replicate (6 - (lg_sl ([.ref hm, .int q])).length) Slot.unset).toArray = ls at hl ⊢
  have hl : lv_has ls 6 [(0, .ref hm), (1, .int q)] := hl
  subst hsz
  have hD := hD0.self (sz := s.heap.size)
  generalize hAe : va_A (mW hm ad ca th td nt np nc M) s.heap.size = A at hD ⊢
  have hA : ∀ q : Nat, s.heap.size ≤ q → A q := fun q h => by rw [← hAe]; exact Or.inr h
  have hS : va_S A s.heap s.heap [] := va_S.rf
  refine lv_aload_n hx hb dX5_isNeedless_0 rfl (lv_at hl 0 rfl) ?_
  refine lv_aload_n hx hb dX5_isNeedless_1 rfl (lv_at hl 0 rfl) ?_
  refine lv_iload_n hx hb dX5_isNeedless_2 rfl (lv_at hl 1 rfl) ?_
  refine zci (va_runV (As := [.int q]) (rest := [.ref hm]) ⟨hx, hb, hml, hown, hts⟩ (m_isP l D ca sa hm ad th td nt np nc M (q)) (cwV 1 hts gX5_isNeedless_X5_isPackage rfl rfl rfl (by decide +kernel) ⟨Nat.le_of_ble_eq_true rfl, Nat.le_of_ble_eq_true rfl⟩) (zpV hP hE (ci := 5) rfl (q0 := 0) rfl) rfl rfl hl.1 rfl (lv_room (Nat.le_of_ble_eq_true rfl)) dX5_isNeedless_3 ⟨Nat.le_of_ble_eq_true rfl, Nat.le_of_ble_eq_true rfl⟩) ?_
  refine zasi (show (bI (iT np (q))) = nI 0 from by rw [hbad]; rfl) ?_
  refine lv_if_eq (tgt := 13) hx hb dX5_isNeedless_6 (by decide) (fun c_6 => ?_) (fun c_6 => ?_)
  · refine lv_iconst (v := nI 1) hx hb dX5_isNeedless_13 (by decide) ?_
    refine zmci (va_runV (As := [.int (nI 1)]) (rest := []) ⟨hx, hb, hml, hown, hts⟩ (m_holds l D ca sa hm ad th td nt np nc M 1 (by decide) _) (cwV 1 hts gX5_isNeedless_X5_holds rfl rfl rfl (by decide +kernel) ⟨Nat.le_of_ble_eq_true rfl, Nat.le_of_ble_eq_true rfl⟩) (zmV hP hD hE (ci := 5) rfl (q0 := 0) rfl) rfl rfl hl.1 rfl (lv_room (Nat.le_of_ble_eq_true rfl)) dX5_isNeedless_14 ⟨Nat.le_of_ble_eq_true rfl, Nat.le_of_ble_eq_true rfl⟩) hD rfl hS hA (fun r9 H locs er hP hD hS => ?_)
    subst er
    refine zasi (show bI (decide (1 = 0)) = nI 0 from rfl) ?_
    refine lv_if_ne (tgt := 22) hx hb dX5_isNeedless_17 (by decide) (fun c_17 => ?_) (fun c_17 => ?_)
    · exact absurd c_17 (by decide)
    · refine lv_iconst (v := nI 0) hx hb dX5_isNeedless_20 (by decide) ?_
      exact zmrz hx hb hr hlocks dX5_isNeedless_21 (rfl) hP hS (trivial)
  · exact absurd c_6 (by decide)
