/-! the law's loop -/
def lw_C (p : Program) (s : State) (m : MethodId) (c : Code) (b Ln : Nat) (xs : Nat → Int32) (D : va_G) (ca : Nat → ClassId) (sa : Nat → Nat) : Prop :=
  (p.tables.exec = Jvm.exec ∧ c.code = code ∧ c.maxLocals = 12 ∧ s.vm.findClass RL = some m.cls ∧ ∀ w ∈ wsL_law, w.before #[Value.ref b] s = true) ∧ va_X b Ln xs s s.heap ∧ b < s.heap.size ∧ Ln ≤ 260 ∧ zE D ca sa s
def lw_S (D : va_G) (ca : Nat → ClassId) (s : State) (h0 b : Nat) (aa : Nat → Nat) (k st : Nat) (H : Heap) (locs : List Loc) (ls : Array Slot) (V : zV) (T : zT) (L : List Nat) (f : Nat → va_E) : Prop :=
  Jv V T ∧ zR L f ca h0 (3 * k) V ∧ va_P D vwCl (va_pl L f) H ∧ va_P D vwCl (tW ca aa T) H ∧ va_D (fun q => s.heap.size ≤ q) (va_pl L f ++ tW ca aa T) ∧ va_S (fun q => s.heap.size ≤ q) s.heap H locs ∧ lv_has ls 12 [(7, .int (nI k)), (6, .int (nI st)), (5, .int (nI 1)), (0, .ref b), (1, .ref h0), (2, .ref (aa 0)), (3, .ref (aa 1)), (4, .ref (aa 2))]
set_option maxHeartbeats 4000000 in
set_option maxRecDepth 100000 in
theorem lw_loop {p : Program} {l : Launch} {e : Env} {s : State} {m : MethodId} {below : List Frame} {meth : Method} {c : Code} {b Ln : Nat} {xs : Nat → Int32} {D : va_G} {ca : Nat → ClassId} {sa : Nat → Nat} (C : lw_C p s m c b Ln xs D ca sa) {h0 st : Nat} {aa : Nat → Nat} (hst : st ≤ 70) (hsl : 3 * st ≤ Ln) {Q : State → Prop}
    (fin : ∀ (H : Heap) (locs : List Loc) (ls : Array Slot) (cells slots : Nat), cells ≤ 869745 → slots ≤ 6492463 → va_S (fun q => s.heap.size ≤ q) s.heap H locs → lv_has ls 12 [(5, .int (nI 1))] → W p l e room_1 s m #[Value.ref b] below meth c H locs cells slots Q (F0 m 285 ls [])) :
    ∀ (n k : Nat) (H : Heap) (locs : List Loc) (ls : Array Slot) (V : zV) (T : zT) (L : List Nat) (f : Nat → va_E) (cells slots : Nat), k + n = st → cells + 25 * n ≤ 869745 → slots + 76 * n ≤ 6492463 → lw_S D ca s h0 b aa k st H locs ls V T L f → W p l e room_1 s m #[Value.ref b] below meth c H locs cells slots Q (F0 m 61 ls []) := by
  intro n
  induction n with
  | zero =>
    intro k H locs ls V T L f cells slots hk hc hs S
    obtain ⟨⟨hx, hb, hml, hown, hts⟩, hX, hbl, hL3, hE⟩ := C
    obtain ⟨J, hRz, hP, hT, hD, hS, hl⟩ := S
    refine lv_iload hx hb dL_law_61 (lv_at hl 0 rfl) ?_
    refine lv_iload hx hb dL_law_63 (lv_at hl 1 rfl) ?_
    refine nicmp_ge (tgt := 285) hx hb dL_law_65 (by decide) (by omega) (by omega) (fun c_65 => ?_) (fun c_65 => ?_)
    · exact fin H locs ls cells slots (by omega) (by omega) hS (lv_sub hl [2] rfl)
    · exact absurd c_65 (by omega)
  | succ n ih =>
    intro k H locs ls V T L f cells slots hk hc hs S
    obtain ⟨⟨hx, hb, hml, hown, hts⟩, hX, hbl, hL3, hE⟩ := C
    obtain ⟨J, hRz, hP, hT, hD, hS, hl⟩ := S
    have hA : ∀ q : Nat, s.heap.size ≤ q → (fun q => s.heap.size ≤ q) q := fun _ h => h
    have next : ∀ (V1 : zV) (T1 : zT) (L1 : List Nat) (f1 : Nat → va_E) (H1 : Heap) (locs1 : List Loc) (ls1 : Array Slot) (c1 s1 : Nat), c1 ≤ cells + 25 → s1 ≤ slots + 76 → Jv V1 T1 → zR L1 f1 ca h0 (3 * (k + 1)) V1 → va_P D vwCl (va_pl L1 f1) H1 → va_P D vwCl (tW ca aa T1) H1 → va_D (fun q => s.heap.size ≤ q) (va_pl L1 f1 ++ tW ca aa T1) → va_S (fun q => s.heap.size ≤ q) s.heap H1 locs1 → lv_has ls1 12 [(7, .int (nI k)), (6, .int (nI st)), (5, .int (nI 1)), (0, .ref b), (1, .ref h0), (2, .ref (aa 0)), (3, .ref (aa 1)), (4, .ref (aa 2))] → W p l e room_1 s m #[Value.ref b] below meth c H1 locs1 c1 s1 Q (F0 m 279 ls1 []) := by
      intro V1 T1 L1 f1 H1 locs1 ls c1 s1 hc1 hs1 z1 z2 z3 z4 z5 z6 hl
      refine lv_iinc (v := (nI (k + 1))) (lv' := [(7, .int (nI (k + 1))), (6, .int (nI st)), (5, .int (nI 1)), (0, .ref b), (1, .ref h0), (2, .ref (aa 0)), (3, .ref (aa 1)), (4, .ref (aa 2))]) hx hb dL_law_279 hl (k := 0) rfl (zinc1 _) (by decide) rfl (fun ls hl => ?_)
      refine lv_goto (tgt := 61) hx hb dL_law_282 (by decide) ?_
      exact ih (k + 1) H1 locs1 ls V1 T1 L1 f1 c1 s1 (by omega) (by omega) (by omega) ⟨z1, z2, z3, z4, z5, z6, lv_sub hl [0, 1, 2, 3, 4, 5, 6, 7] rfl⟩
    have hbA : ¬ (fun q => s.heap.size ≤ q) b := Nat.not_le.mpr hbl
    have hRc := hRz
    obtain ⟨ta, pa, aT, aP, aS, aH, n8, hR⟩ := hRc
    refine lv_iload hx hb dL_law_61 (lv_at hl 0 rfl) ?_
    refine lv_iload hx hb dL_law_63 (lv_at hl 1 rfl) ?_
    refine nicmp_ge (tgt := 285) hx hb dL_law_65 (by decide) (by omega) (by omega) (fun c_65 => ?_) (fun c_65 => ?_)
    · exact absurd c_65 (by omega)
    · refine lv_iload hx hb dL_law_68 (lv_at hl 2 rfl) ?_
      refine nif_eq (tgt := 285) hx hb dL_law_70 (by decide) (by decide) (fun c_70 => ?_) (fun c_70 => ?_)
      · exact absurd c_70 (by decide)
      · refine lv_aload_n hx hb dL_law_73 rfl (lv_at hl 3 rfl) ?_
        refine lv_iconst (v := nI 3) hx hb dL_law_74 (by decide) ?_
        refine lv_iload hx hb dL_law_75 (lv_at hl 0 rfl) ?_
        refine nmul hx hb dL_law_77 ?_
        refine lv_iconst (v := nI 1) hx hb dL_law_78 (by decide) ?_
        refine nadd hx hb dL_law_79 ?_
        refine zci (va_runS (As := [.ref b, .int (nI ((3 * k) + 1))]) (rest := []) ⟨hx, hb, hml, hown, hts⟩ (k_draw l b Ln xs hL3 (3 * k + 1) (by omega)) (va_cwS 2 hts gL_law_L_draw rfl rfl rfl (by decide +kernel) ⟨Nat.le_of_ble_eq_true rfl, Nat.le_of_ble_eq_true rfl⟩) (dS hX hbl hbA hS) rfl rfl hl.1 rfl (lv_room (Nat.le_of_ble_eq_true rfl)) dL_law_80 (by show _ ≤ 869745 ∧ _ ≤ 6492463; omega)) ?_
        have hav := dr_lt (xs (3 * k + 1))
        generalize (dr (xs (3 * k + 1))) = av at hav ⊢
        refine lv_istore (lv' := [(8, .int (nI av)), (7, .int (nI k)), (6, .int (nI st)), (5, .int (nI 1)), (0, .ref b), (1, .ref h0), (2, .ref (aa 0)), (3, .ref (aa 1)), (4, .ref (aa 2))]) hx hb dL_law_83 hl (by decide) rfl (fun ls hl => ?_)
        refine lv_aload_n hx hb dL_law_85 rfl (lv_at hl 4 rfl) ?_
        refine lv_iconst (v := nI 3) hx hb dL_law_86 (by decide) ?_
        refine lv_iload hx hb dL_law_87 (lv_at hl 1 rfl) ?_
        refine nmul hx hb dL_law_89 ?_
        refine lv_iconst (v := nI 2) hx hb dL_law_90 (by decide) ?_
        refine nadd hx hb dL_law_91 ?_
        refine zci (va_runS (As := [.ref b, .int (nI ((3 * k) + 2))]) (rest := []) ⟨hx, hb, hml, hown, hts⟩ (k_draw l b Ln xs hL3 (3 * k + 2) (by omega)) (va_cwS 2 hts gL_law_L_draw rfl rfl rfl (by decide +kernel) ⟨Nat.le_of_ble_eq_true rfl, Nat.le_of_ble_eq_true rfl⟩) (dS hX hbl hbA hS) rfl rfl hl.1 rfl (lv_room (Nat.le_of_ble_eq_true rfl)) dL_law_92 (by show _ ≤ 869745 ∧ _ ≤ 6492463; omega)) ?_
        have hbv := dr_lt (xs (3 * k + 2))
        generalize (dr (xs (3 * k + 2))) = bv at hbv ⊢
        refine lv_istore (lv' := [(9, .int (nI bv)), (8, .int (nI av)), (7, .int (nI k)), (6, .int (nI st)), (5, .int (nI 1)), (0, .ref b), (1, .ref h0), (2, .ref (aa 0)), (3, .ref (aa 1)), (4, .ref (aa 2))]) hx hb dL_law_95 hl (by decide) rfl (fun ls hl => ?_)
        refine lv_aload_n hx hb dL_law_97 rfl (lv_at hl 6 rfl) ?_
        refine lv_aload_n hx hb dL_law_98 rfl (lv_at hl 7 rfl) ?_
        refine lv_aload_n hx hb dL_law_99 rfl (lv_at hl 8 rfl) ?_
        refine lv_aload hx hb dL_law_100 (lv_at hl 9 rfl) ?_
        refine lv_aload_n hx hb dL_law_102 rfl (lv_at hl 5 rfl) ?_
        refine lv_iconst (v := nI 3) hx hb dL_law_103 (by decide) ?_
        refine lv_iload hx hb dL_law_104 (lv_at hl 2 rfl) ?_
        refine nmul hx hb dL_law_106 ?_
        refine zci (va_runS (As := [.ref b, .int (nI (3 * k))]) (rest := [.ref (aa 2), .ref (aa 1), .ref (aa 0), .ref h0]) ⟨hx, hb, hml, hown, hts⟩ (k_draw l b Ln xs hL3 (3 * k) (by omega)) (va_cwS 2 hts gL_law_L_draw rfl rfl rfl (by decide +kernel) ⟨Nat.le_of_ble_eq_true rfl, Nat.le_of_ble_eq_true rfl⟩) (dS hX hbl hbA hS) rfl rfl hl.1 rfl (lv_room (Nat.le_of_ble_eq_true rfl)) dL_law_107 (by show _ ≤ 869745 ∧ _ ≤ 6492463; omega)) ?_
        have hwv := dr_lt (xs (3 * k))
        generalize (dr (xs (3 * k))) = wv at hwv ⊢
        refine lv_iload hx hb dL_law_110 (lv_at hl 1 rfl) ?_
        refine lv_iload hx hb dL_law_112 (lv_at hl 0 rfl) ?_
        refine zls (va_runS (As := [.ref h0, .ref (aa 0), .ref (aa 1), .ref (aa 2), .int (nI wv), .int (nI av), .int (nI bv)]) (rest := []) ⟨hx, hb, hml, hown, hts⟩ (k_step l D ca sa L f h0 _ _ _ _ _ _ _ (3 * k) V hR aa T J (by omega) wv av bv hwv hav hbv _) (va_cwS 7 hts gL_law_L_step rfl rfl rfl (by decide +kernel) ⟨Nat.le_of_ble_eq_true rfl, Nat.le_of_ble_eq_true rfl⟩) (zmS (hP.app hT) hD hE) rfl rfl hl.1 rfl (lv_room (Nat.le_of_ble_eq_true rfl)) dL_law_114 (by show _ ≤ 869745 ∧ _ ≤ 6492463; omega)) hD hS hA (fun r u H locs hu hP hT hD hS => ?_)
        obtain ⟨rfl, V1, J1, hR1⟩ := hu
        have hR1c := hR1
        obtain ⟨_, _, _, _, _, _, _, hR9⟩ := hR1c
        have hBd9 := Bd_of hR9
        have htd9 := hBd9.1.1
        have hnp9 := J1.1.2.1
        have hnt9 := J1.1.2.2.2.1
        refine lv_istore (lv' := [(5, .int (nI 1)), (9, .int (nI bv)), (8, .int (nI av)), (7, .int (nI k)), (6, .int (nI st)), (0, .ref b), (1, .ref h0), (2, .ref (aa 0)), (3, .ref (aa 1)), (4, .ref (aa 2))]) hx hb dL_law_117 hl (by decide) rfl (fun ls hl => ?_)
        refine lv_iload hx hb dL_law_119 (lv_at hl 0 rfl) ?_
        refine nif_eq (tgt := 279) hx hb dL_law_121 (by decide) (by decide) (fun c_121 => ?_) (fun c_121 => ?_)
        · exact absurd c_121 (by decide)
        · refine lv_iload hx hb dL_law_124 (lv_at hl 3 rfl) ?_
          refine lv_iconst (v := nI 4) hx hb dL_law_126 (by decide) ?_
          refine nrem hx hb (by omega) (by omega) (by omega) dL_law_127 ?_
          refine lv_iconst (v := nI 3) hx hb dL_law_128 (by decide) ?_
          refine nicmp_ne (tgt := 279) hx hb dL_law_129 (by decide) (by omega) (by omega) (fun c_129 => ?_) (fun c_129 => ?_)
          · exact next V1 u.2 u.1.1 u.1.2 H locs ls (cells + 23) (slots + 68) (by omega) (by omega) J1 (zR_up hR1 (by omega) (by omega)) hP hT hD hS (lv_sub hl [3, 4, 0, 5, 6, 7, 8, 9] rfl)
          · refine lv_aload_n hx hb dL_law_132 rfl (lv_at hl 7 rfl) ?_
            refine lv_bipush (v := nI 38) hx hb dL_law_133 (by decide) ?_
            refine zti hx hb hE hT 0 (by decide) (i := 38) (by show 38 < 41; omega) dL_law_135 ?_
            refine zasi (congrArg nI (show (u.2 0 38) = vNp V1 from J1.1.1)) ?_
            refine nif_le (tgt := 279) hx hb dL_law_136 (by decide) (by omega) (fun c_136 => ?_) (fun c_136 => ?_)
            · exact next V1 u.2 u.1.1 u.1.2 H locs ls (cells + 23) (slots + 68) (by omega) (by omega) J1 (zR_up hR1 (by omega) (by omega)) hP hT hD hS (lv_sub hl [3, 4, 0, 5, 6, 7, 8, 9] rfl)
            · refine lv_aload_n hx hb dL_law_139 rfl (lv_at hl 7 rfl) ?_
              refine lv_bipush (v := nI 39) hx hb dL_law_140 (by decide) ?_
              refine zti hx hb hE hT 0 (by decide) (i := 39) (by show 39 < 41; omega) dL_law_142 ?_
              refine zasi (congrArg nI (show (u.2 0 39) = vNt V1 from J1.1.2.2.1)) ?_
              refine nif_le (tgt := 279) hx hb dL_law_143 (by decide) (by omega) (fun c_143 => ?_) (fun c_143 => ?_)
              · exact next V1 u.2 u.1.1 u.1.2 H locs ls (cells + 23) (slots + 68) (by omega) (by omega) J1 (zR_up hR1 (by omega) (by omega)) hP hT hD hS (lv_sub hl [3, 4, 0, 5, 6, 7, 8, 9] rfl)
              · refine lv_iload hx hb dL_law_146 (lv_at hl 1 rfl) ?_
                refine lv_aload_n hx hb dL_law_148 rfl (lv_at hl 7 rfl) ?_
                refine lv_bipush (v := nI 39) hx hb dL_law_149 (by decide) ?_
                refine zti hx hb hE hT 0 (by decide) (i := 39) (by show 39 < 41; omega) dL_law_151 ?_
                refine zasi (congrArg nI (show (u.2 0 39) = vNt V1 from J1.1.2.2.1)) ?_
                refine nrem hx hb (by omega) (by omega) (by omega) dL_law_152 ?_
                have t9 : (bv % (vNt V1)) < vNt V1 := Nat.mod_lt _ c_143
                generalize (bv % (vNt V1)) = tt at t9 ⊢
                refine lv_istore (lv' := [(10, .int (nI tt)), (5, .int (nI 1)), (9, .int (nI bv)), (8, .int (nI av)), (7, .int (nI k)), (6, .int (nI st)), (0, .ref b), (1, .ref h0), (2, .ref (aa 0)), (3, .ref (aa 1)), (4, .ref (aa 2))]) hx hb dL_law_153 hl (by decide) rfl (fun ls hl => ?_)
                refine lv_iload hx hb dL_law_155 (lv_at hl 3 rfl) ?_
                refine lv_iload hx hb dL_law_157 (lv_at hl 2 rfl) ?_
                refine lv_iconst (v := nI 3) hx hb dL_law_159 (by decide) ?_
                refine nrem hx hb (by omega) (by omega) (by omega) dL_law_160 ?_
                refine tern (M := 179) (rest := [.int (nI av)]) (P := fun v9 : Nat => 0 < v9 ∧ v9 ≤ 56) (fun K9 => ?_) (fun m9 hm9 => ?_)
                · refine nif_ne (tgt := 169) hx hb dL_law_161 (by decide) (by omega) (fun c_161 => ?_) (fun c_161 => ?_)
                  · refine lv_iconst (v := nI 1) hx hb dL_law_169 (by decide) ?_
                    refine lv_aload_n hx hb dL_law_170 rfl (lv_at hl 8 rfl) ?_
                    refine lv_bipush (v := nI 40) hx hb dL_law_171 (by decide) ?_
                    refine zti hx hb hE hT 0 (by decide) (i := 40) (by show 40 < 41; omega) dL_law_173 ?_
                    refine zasi (congrArg nI (show (u.2 0 40) = vTd V1 from J1.1.2.2.2.2)) ?_
                    refine lv_sipush (v := nI 360) hx hb dL_law_174 (by decide) ?_
                    refine ndiv hx hb (by omega) (by omega) (by omega) dL_law_177 ?_
                    refine nadd hx hb dL_law_178 ?_
                    exact K9 (1 + ((vTd V1) / 360)) (by omega)
                  · refine lv_bipush (v := nI 56) hx hb dL_law_164 (by decide) ?_
                    refine lv_goto (tgt := 179) hx hb dL_law_166 (by decide) ?_
                    exact K9 56 (by omega)
                refine nrem hx hb (by omega) (by omega) (by omega) dL_law_179 ?_
                have hyy : (av % m9) ≤ 55 := by
                  have h7 := Nat.mod_lt av hm9.1
                  omega
                generalize (av % m9) = yy at hyy ⊢
                refine lv_istore (lv' := [(11, .int (nI yy)), (10, .int (nI tt)), (5, .int (nI 1)), (9, .int (nI bv)), (8, .int (nI av)), (7, .int (nI k)), (6, .int (nI st)), (0, .ref b), (1, .ref h0), (2, .ref (aa 0)), (3, .ref (aa 1)), (4, .ref (aa 2))]) hx hb dL_law_180 hl (by decide) rfl (fun ls hl => ?_)
                refine lv_aload_n hx hb dL_law_182 rfl (lv_at hl 8 rfl) ?_
                refine lv_aload_n hx hb dL_law_183 rfl (lv_at hl 9 rfl) ?_
                refine lv_aload_n hx hb dL_law_184 rfl (lv_at hl 10 rfl) ?_
                refine lv_aload hx hb dL_law_185 (lv_at hl 11 rfl) ?_
                refine lv_iload hx hb dL_law_187 (lv_at hl 1 rfl) ?_
                refine lv_iload hx hb dL_law_189 (lv_at hl 0 rfl) ?_
                refine lv_iload hx hb dL_law_191 (lv_at hl 3 rfl) ?_
                refine lv_iconst (v := nI 3) hx hb dL_law_193 (by decide) ?_
                refine ndiv hx hb (by omega) (by omega) (by omega) dL_law_194 ?_
                refine lv_iconst (v := nI 4) hx hb dL_law_195 (by decide) ?_
                refine nrem hx hb (by omega) (by omega) (by omega) dL_law_196 ?_
                refine lv_aload_n hx hb dL_law_197 rfl (lv_at hl 9 rfl) ?_
                refine lv_bipush (v := nI 40) hx hb dL_law_198 (by decide) ?_
                refine zti hx hb hE hT 0 (by decide) (i := 40) (by show 40 < 41; omega) dL_law_200 ?_
                refine zasi (congrArg nI (show (u.2 0 40) = vTd V1 from J1.1.2.2.2.2)) ?_
                refine zci (va_runS (As := [.ref h0, .ref (aa 0), .ref (aa 1), .ref (aa 2), .int (nI tt), .int (nI yy), .int (nI ((bv / 3) % 4)), .int (nI (vTd V1))]) (rest := []) ⟨hx, hb, hml, hown, hts⟩ (k_ways l D ca sa u.1.1 u.1.2 h0 _ _ _ _ _ _ _ _ V1 hR9 aa u.2 J1 tt yy (bv / 3 % 4) (vTd V1) t9 hyy (by omega) (Nat.le_refl _)) (va_cwS 8 hts gL_law_L_areWays rfl rfl rfl (by decide +kernel) ⟨Nat.le_of_ble_eq_true rfl, Nat.le_of_ble_eq_true rfl⟩) (zpS (hP.app hT) hE) rfl rfl hl.1 rfl (lv_room (Nat.le_of_ble_eq_true rfl)) dL_law_201 (by show _ ≤ 869745 ∧ _ ≤ 6492463; omega)) ?_
                refine nif_eq (tgt := 276) hx hb dL_law_204 (by decide) (by decide) (fun c_204 => ?_) (fun c_204 => ?_)
                · exact absurd c_204 (by decide)
                · refine lv_aload_n hx hb dL_law_207 rfl (lv_at hl 8 rfl) ?_
                  refine lv_aload_n hx hb dL_law_208 rfl (lv_at hl 9 rfl) ?_
                  refine lv_aload_n hx hb dL_law_209 rfl (lv_at hl 10 rfl) ?_
                  refine lv_aload hx hb dL_law_210 (lv_at hl 11 rfl) ?_
                  refine lv_iload hx hb dL_law_212 (lv_at hl 1 rfl) ?_
                  refine lv_iload hx hb dL_law_214 (lv_at hl 0 rfl) ?_
                  refine lv_iload hx hb dL_law_216 (lv_at hl 3 rfl) ?_
                  refine lv_iconst (v := nI 3) hx hb dL_law_218 (by decide) ?_
                  refine ndiv hx hb (by omega) (by omega) (by omega) dL_law_219 ?_
                  refine lv_iconst (v := nI 4) hx hb dL_law_220 (by decide) ?_
                  refine nrem hx hb (by omega) (by omega) (by omega) dL_law_221 ?_
                  refine lv_iload hx hb dL_law_222 (lv_at hl 4 rfl) ?_
                  refine lv_aload_n hx hb dL_law_224 rfl (lv_at hl 9 rfl) ?_
                  refine lv_bipush (v := nI 40) hx hb dL_law_225 (by decide) ?_
                  refine zti hx hb hE hT 0 (by decide) (i := 40) (by show 40 < 41; omega) dL_law_227 ?_
                  refine zasi (congrArg nI (show (u.2 0 40) = vTd V1 from J1.1.2.2.2.2)) ?_
                  refine lv_iconst (v := nI 1) hx hb dL_law_228 (by decide) ?_
                  refine nadd hx hb dL_law_229 ?_
                  refine nrem hx hb (by omega) (by omega) (by omega) dL_law_230 ?_
                  have hdd : (av % ((vTd V1) + 1)) ≤ vTd V1 := Nat.le_of_lt_succ (Nat.mod_lt av (Nat.succ_pos _))
                  generalize (av % ((vTd V1) + 1)) = dd at hdd ⊢
                  refine zci (va_runS (As := [.ref h0, .ref (aa 0), .ref (aa 1), .ref (aa 2), .int (nI tt), .int (nI yy), .int (nI ((bv / 3) % 4)), .int (nI dd)]) (rest := []) ⟨hx, hb, hml, hown, hts⟩ (k_ways l D ca sa u.1.1 u.1.2 h0 _ _ _ _ _ _ _ _ V1 hR9 aa u.2 J1 tt yy (bv / 3 % 4) dd t9 hyy (by omega) hdd) (va_cwS 8 hts gL_law_L_areWays rfl rfl rfl (by decide +kernel) ⟨Nat.le_of_ble_eq_true rfl, Nat.le_of_ble_eq_true rfl⟩) (zpS (hP.app hT) hE) rfl rfl hl.1 rfl (lv_room (Nat.le_of_ble_eq_true rfl)) dL_law_231 (by show _ ≤ 869745 ∧ _ ≤ 6492463; omega)) ?_
                  refine nif_eq (tgt := 276) hx hb dL_law_234 (by decide) (by decide) (fun c_234 => ?_) (fun c_234 => ?_)
                  · exact absurd c_234 (by decide)
                  · refine lv_aload_n hx hb dL_law_237 rfl (lv_at hl 8 rfl) ?_
                    refine lv_aload_n hx hb dL_law_238 rfl (lv_at hl 9 rfl) ?_
                    refine lv_iload hx hb dL_law_239 (lv_at hl 1 rfl) ?_
                    refine lv_iload hx hb dL_law_241 (lv_at hl 4 rfl) ?_
                    refine lv_iconst (v := nI 4) hx hb dL_law_243 (by decide) ?_
                    refine nrem hx hb (by omega) (by omega) (by omega) dL_law_244 ?_
                    refine zci (va_runS (As := [.ref h0, .ref (aa 0), .int (nI tt), .int (nI (av % 4))]) (rest := []) ⟨hx, hb, hml, hown, hts⟩ (k_gaps l D ca sa u.1.1 u.1.2 h0 _ _ _ _ _ _ _ _ V1 hR9 aa u.2 J1 tt (av % 4) t9 (by omega)) (va_cwS 4 hts gL_law_L_areGaps rfl rfl rfl (by decide +kernel) ⟨Nat.le_of_ble_eq_true rfl, Nat.le_of_ble_eq_true rfl⟩) (zpS (hP.app hT) hE) rfl rfl hl.1 rfl (lv_room (Nat.le_of_ble_eq_true rfl)) dL_law_245 (by show _ ≤ 869745 ∧ _ ≤ 6492463; omega)) ?_
                    refine nif_eq (tgt := 276) hx hb dL_law_248 (by decide) (by decide) (fun c_248 => ?_) (fun c_248 => ?_)
                    · exact absurd c_248 (by decide)
                    · refine lv_aload_n hx hb dL_law_251 rfl (lv_at hl 8 rfl) ?_
                      refine lv_aload_n hx hb dL_law_252 rfl (lv_at hl 9 rfl) ?_
                      refine lv_iload hx hb dL_law_253 (lv_at hl 4 rfl) ?_
                      refine lv_aload_n hx hb dL_law_255 rfl (lv_at hl 9 rfl) ?_
                      refine lv_bipush (v := nI 38) hx hb dL_law_256 (by decide) ?_
                      refine zti hx hb hE hT 0 (by decide) (i := 38) (by show 38 < 41; omega) dL_law_258 ?_
                      refine zasi (congrArg nI (show (u.2 0 38) = vNp V1 from J1.1.1)) ?_
                      refine nrem hx hb (by omega) (by omega) (by omega) dL_law_259 ?_
                      have hpq : (av % (vNp V1)) < vNp V1 := Nat.mod_lt _ c_136
                      generalize (av % (vNp V1)) = pq at hpq ⊢
                      refine lv_iload hx hb dL_law_260 (lv_at hl 1 rfl) ?_
                      refine lv_iload hx hb dL_law_262 (lv_at hl 3 rfl) ?_
                      refine lv_iconst (v := nI 4) hx hb dL_law_264 (by decide) ?_
                      refine nrem hx hb (by omega) (by omega) (by omega) dL_law_265 ?_
                      refine zls (va_runS (As := [.ref h0, .ref (aa 0), .int (nI pq), .int (nI tt), .int (nI (bv % 4))]) (rest := []) ⟨hx, hb, hml, hown, hts⟩ (k_need l D ca sa u.1.1 u.1.2 h0 _ _ _ _ _ _ _ (3 * k + 1) V1 hR9 aa u.2 J1 (by omega) pq tt (bv % 4) hpq t9 (by omega) _) (va_cwS 5 hts gL_law_L_isNeedless rfl rfl rfl (by decide +kernel) ⟨Nat.le_of_ble_eq_true rfl, Nat.le_of_ble_eq_true rfl⟩) (zmS (hP.app hT) hD hE) rfl rfl hl.1 rfl (lv_room (Nat.le_of_ble_eq_true rfl)) dL_law_266 (by show _ ≤ 869745 ∧ _ ≤ 6492463; omega)) hD hS hA (fun r u2 H locs hu hP hT hD hS => ?_)
                      obtain ⟨rfl, V2, J2, hR2⟩ := hu
                      refine nif_eq (tgt := 276) hx hb dL_law_269 (by decide) (by decide) (fun c_269 => ?_) (fun c_269 => ?_)
                      · exact absurd c_269 (by decide)
                      · refine lv_iconst (v := nI 1) hx hb dL_law_272 (by decide) ?_
                        refine lv_goto (tgt := 277) hx hb dL_law_273 (by decide) ?_
                        refine lv_istore (lv' := [(5, .int (nI 1)), (11, .int (nI yy)), (10, .int (nI tt)), (9, .int (nI bv)), (8, .int (nI av)), (7, .int (nI k)), (6, .int (nI st)), (0, .ref b), (1, .ref h0), (2, .ref (aa 0)), (3, .ref (aa 1)), (4, .ref (aa 2))]) hx hb dL_law_277 hl (by decide) rfl (fun ls hl => ?_)
                        exact next V2 u2.2 u2.1.1 u2.1.2 H locs ls (cells + 23 + 2) (slots + 68 + 8) (by omega) (by omega) J2 (zR_up hR2 (by omega) (by omega)) hP hT hD hS (lv_sub hl [5, 6, 0, 7, 8, 9, 10, 11] rfl)
