/-! the law: one call of the script, from its case to the next -/
def lw_C (p : Program) (l : Launch) (s : State) (m : MethodId) (meth : Method) (c : Code) (b Ln : Nat) (xs : Nat → Int32) (D : va_G) (ca : Nat → ClassId) (sa : Nat → Nat) : Prop :=
  (p.tables.exec = Jvm.exec ∧ c.code = cL_law ∧ c.maxLocals = 7 ∧ s.vm.findClass RL = some m.cls ∧ ∀ w ∈ wsL_law, w.before #[Value.ref b] s = true) ∧ va_X b Ln xs s s.heap ∧ b < s.heap.size ∧ Ln ≤ 3072 ∧ zE D ca sa s ∧ zN s ∧ zZ (fun q => s.heap.size ≤ q) s s.heap ∧ l.stackTraces = false
def lw_S (D : va_G) (ca : Nat → ClassId) (s : State) (h0 hm ob b : Nat) (ad : Nat → Nat) (k i : Nat) (H : Heap) (locs : List Loc) (ls : Array Slot) (V : zV) (nc : Nat) (M : Nat → Nat → Int32) (th : Int32) (L : List Nat) (f : Nat → va_E) (g : Nat → Int64) : Prop :=
  Inv V nc M k ∧ zR L f ca h0 k V ∧ va_P D vwCl (oW ca ob g ++ va_pl L f) H ∧ va_P D vwCl (mW hm ad ca th (vTd V) (vNt V) (vNp V) nc M) H ∧ va_D (fun q => s.heap.size ≤ q) ((oW ca ob g ++ va_pl L f) ++ mW hm ad ca th (vTd V) (vNt V) (vNp V) nc M) ∧ va_S (fun q => s.heap.size ≤ q) s.heap H locs ∧ lv_has ls 7 [(0, .ref b), (1, .ref h0), (2, .ref hm), (3, .ref ob), (4, .int (nI i))]
theorem zcmp (x : Int64) : lg_cmp x x = nI 0 := by
  unfold lg_cmp
  simp
  rfl
theorem lwZ {s : State} {H : Heap} {locs : List Loc} (hZ : zZ (fun q => s.heap.size ≤ q) s s.heap) (hS : va_S (fun q => s.heap.size ≤ q) s.heap H locs) : zZ (fun q => s.heap.size ≤ q) s H := zZ.to (Vm.Alike.refl s.vm) (fun a h1 h2 => hS.2.1 a h1 h2) (fun _ h => h) hZ
section ZH
variable {p : Program} {l : Launch} {e : Env} {R : Room} {s : State} {m : MethodId} {args : Array Value} {below : List Frame} {meth : Method} {c : Code} {H : Heap} {locs : List Loc} {cells slots : Nat} {Q : State → Prop}
variable {cc : ByteArray} {pc : Nat} {ls : Array Slot} {rest : List Value} {D : va_G} {L : List Nat} {f : Nat → va_E} {ca : Nat → ClassId} {sa : Nat → Nat} {ob b Ln : Nat} {xs : Nat → Int32} {g : Nat → Int64}
theorem zsl (hexec : p.tables.exec = Jvm.exec) (hb : c.code = cc) (hX : va_X b Ln xs s s.heap) (hbl : b < s.heap.size) (hL : Ln ≤ 3072) (hS : va_S (fun q => s.heap.size ≤ q) s.heap H locs) {j : Nat} (hj : j < Ln) {v : Int32} (hv : xs j = v) (hdg : decode cc pc = .ok (.iaload, 1)) (kk : W p l e R s m args below meth c H locs cells slots Q (F0 m (pc + 1) ls (.int v :: rest))) : W p l e R s m args below meth c H locs cells slots Q (F0 m pc ls (.int (nI j) :: .ref b :: rest)) := by
  refine va_sld hexec hb hX hbl (Nat.not_le.mpr hbl) hS (vp_in_nI hj (by omega)) hdg ?_
  rw [nI_clamp (by omega), hv]
  exact kk
theorem zol (hexec : p.tables.exec = Jvm.exec) (hb : c.code = cc) (hE : zE D ca sa s) (hP : va_P D vwCl (oW ca ob g ++ va_pl L f) H) {v : Int64} (hv : g 0 = v) (hdg : decode cc pc = .ok (.laload, 1)) (kk : W p l e R s m args below meth c H locs cells slots Q (F0 m (pc + 1) ls (.long v :: rest))) : W p l e R s m args below meth c H locs cells slots Q (F0 m pc ls (.int (nI 0) :: .ref ob :: rest)) := by
  refine va_lald hexec hb hE.1 hP 0 5 rfl rfl (vp_in_nI (by decide) (by decide)) hdg ?_
  rw [nI_clamp (by omega), hv]
  exact kk
end ZH

set_option maxHeartbeats 4000000 in
set_option maxRecDepth 100000 in
theorem st_addTitle_ok {p : Program} {l : Launch} {e : Env} {s : State} {m : MethodId} {below : List Frame} {meth : Method} {c : Code} {b Ln : Nat} {xs : Nat → Int32} {D : va_G} {ca : Nat → ClassId} {sa : Nat → Nat} (C : lw_C p l s m meth c b Ln xs D ca sa) {h0 hm ob : Nat} {ad : Nat → Nat} {k : Nat} {H : Heap} {locs : List Loc} {ls : Array Slot} {V : zV} {nc : Nat} {M : Nat → Nat → Int32} {th : Int32} {L : List Nat} {f : Nat → va_E} {g : Nat → Int64} (S : lw_S D ca s h0 hm ob b ad k (6 * k) H locs ls V nc M th L f g) (hk : k < 512) (hi : 6 * k + 6 ≤ Ln) {cells slots : Nat} {Q : State → Prop} (hroom : cells + 24 ≤ 601024 ∧ slots + 100 ≤ 7293034) {v1 v2 : Int32} (e1 : xs (6 * k + 1) = v1) (e2 : xs (6 * k + 2) = v2) {mc ms : Nat} (hmc : mc ≤ 24) (hms : ms ≤ 100) {V' : zV} {nc' : Nat} {M' : Nat → Nat → Int32} {P : Int64 → zU → Prop} {val : Int32} (hP9 : ∀ x u, P x u → x = val.toInt64 ∧ zR u.1 u.2 ca h0 (k + 1) V') (hI : Inv V' nc' M' (k + 1)) (hC : ∀ sz, vx_Met l yL_addTitle wsL_addTitle ({ frames := 10, cells := mc, slots := ms, locals := 450 }) (va_Pc [.ref h0, .int v1, .int v2, .ref ob] (zLp D L f ob g ca sa sz)) (va_Qi (fun (r : Int32) (u : zU × (Nat → Int64)) => r = nI 0 ∧ P (u.2 0) u.1) (fun u t => va_P D vwCl (oW ca ob u.2 ++ va_pl u.1.1 u.1.2) t.heap ∧ va_D (va_A (oW ca ob g ++ va_pl L f) sz) (oW ca ob u.2 ++ va_pl u.1.1 u.1.2)) (va_A (oW ca ob g ++ va_pl L f) sz)) zX0 mc ms (va_A (oW ca ob g ++ va_pl L f) sz)) (hM : ∀ sz, Met l yX5_addTitle wsX5_addTitle ({ frames := 9, cells := 0, slots := 0, locals := 360 }) (va_Pc [.ref hm, .int v1, .int v2] (zMp D (mW hm ad ca th (vTd V) (vNt V) (vNp V) nc M) ca sa sz)) (va_Qi (fun (r : Int32) (_ : Unit) => r = val) (fun _ t9 => va_P D vwCl (mW hm ad ca (nI 0) (vTd V') (vNt V') (vNp V') nc' M') t9.heap) (va_A (mW hm ad ca th (vTd V) (vNt V) (vNp V) nc M) sz)) 0 0 (va_A (mW hm ad ca th (vTd V) (vNt V) (vNp V) nc M) sz)) (kk : ∀ (V' : zV) (nc' : Nat) (M' : Nat → Nat → Int32) (th' : Int32) (L' : List Nat) (f' : Nat → va_E) (g' : Nat → Int64) (H1 : Heap) (locs1 : List Loc) (ls1 : Array Slot), lw_S D ca s h0 hm ob b ad (k + 1) (6 * k) H1 locs1 ls1 V' nc' M' th' L' f' g' → W p l e room_1 s m #[Value.ref b] below meth c H1 locs1 (cells + 24) (slots + 100) Q (F0 m 1551 ls1 [])) : W p l e room_1 s m #[Value.ref b] below meth c H locs cells slots Q (F0 m 132 ls []) := by
  obtain ⟨⟨hx, hb, hml, hown, hts⟩, hX, hbl, hL3, hE, hN, hZ0, hl0⟩ := C
  obtain ⟨hI0, ⟨ta, pa, aT, aP, aS, aH, n9, hR⟩, hP, hY, hD, hS, hl⟩ := S
  have h4 := hR.1.1
  have hA : ∀ q : Nat, s.heap.size ≤ q → (fun q => s.heap.size ≤ q) q := fun _ h => h
  refine lv_aload_n hx hb dL_law_132 rfl (lv_at hl 1 rfl) ?_
  refine lv_aload_n hx hb dL_law_133 rfl (lv_at hl 0 rfl) ?_
  refine lv_iload hx hb dL_law_134 (lv_at hl 4 rfl) ?_
  refine lv_iconst (v := nI 1) hx hb dL_law_136 (by decide) ?_
  refine lv_iadd hx hb dL_law_137 ?_
  refine zasi (show ((nI (6 * k)) + (nI 1)) = nI (6 * k + 1) from nI_add _ _) ?_
  refine zsl hx hb hX hbl hL3 hS (show 6 * k + 1 < Ln by omega) e1 dL_law_138 ?_
  refine lv_aload_n hx hb dL_law_139 rfl (lv_at hl 0 rfl) ?_
  refine lv_iload hx hb dL_law_140 (lv_at hl 4 rfl) ?_
  refine lv_iconst (v := nI 2) hx hb dL_law_142 (by decide) ?_
  refine lv_iadd hx hb dL_law_143 ?_
  refine zasi (show ((nI (6 * k)) + (nI 2)) = nI (6 * k + 2) from nI_add _ _) ?_
  refine zsl hx hb hX hbl hL3 hS (show 6 * k + 2 < Ln by omega) e2 dL_law_144 ?_
  refine lv_aload_n hx hb dL_law_145 rfl (lv_at hl 3 rfl) ?_
  refine zgo (vx_runSX (As := [.ref h0, .int v1, .int v2, .ref ob]) (rest := []) ⟨hx, hb, hml, hown, hts⟩ (hC H.size) (vx_cwSW (bytes := cL_addTitle) (maxL := 5) (ret := some .int) (hh := [(0, 10, 13, 13), (0, 10, 17, 15)]) 4 hts gL_law_L_addTitle rfl rfl rfl (by decide +kernel) ⟨Nat.le_of_ble_eq_true rfl, Nat.le_of_ble_eq_true rfl⟩) (zLS hP (w2_l hD) hE hN (lwZ hZ0 hS) (fun q h => Nat.le_trans hS.1 h)) rfl rfl hl.1 rfl (lv_room (Nat.le_of_ble_eq_true rfl)) dL_law_146 (by show _ ≤ 601024 ∧ _ ≤ 7293034; omega)) hY hD hS hA (fun u g1 H locs hu hP hY hD hS => ?_)
  obtain ⟨hv9, hR9⟩ := hP9 _ _ hu
  refine lv_istore (lv' := [(5, .int (nI 0)), (0, .ref b), (1, .ref h0), (2, .ref hm), (3, .ref ob), (4, .int (nI (6 * k)))]) hx hb dL_law_149 hl (by decide) rfl (fun ls hl => ?_)
  refine lv_aload_n hx hb dL_law_151 rfl (lv_at hl 3 rfl) ?_
  refine lv_aload_n hx hb dL_law_152 rfl (lv_at hl 1 rfl) ?_
  refine lv_iload hx hb dL_law_153 (lv_at hl 5 rfl) ?_
  refine lv_iconst (v := nI 1) hx hb dL_law_155 (by decide) ?_
  refine lv_iadd hx hb dL_law_156 ?_
  refine zasi (show ((nI (6 * k)) + (nI 1)) = nI (6 * k + 1) from nI_add _ _) ?_
  refine zsl hx hb hX hbl hL3 hS (show 6 * k + 1 < Ln by omega) e1 dL_law_157 ?_
  refine lv_aload_n hx hb dL_law_158 rfl (lv_at hl 1 rfl) ?_
  refine lv_iload hx hb dL_law_159 (lv_at hl 5 rfl) ?_
  refine lv_iconst (v := nI 2) hx hb dL_law_161 (by decide) ?_
  refine lv_iadd hx hb dL_law_162 ?_
  refine zasi (show ((nI (6 * k)) + (nI 2)) = nI (6 * k + 2) from nI_add _ _) ?_
  refine zsl hx hb hX hbl hL3 hS (show 6 * k + 2 < Ln by omega) e2 dL_law_163 ?_
  refine zgm (va_runV (As := [.int v1, .int v2]) (rest := []) ⟨hx, hb, hml, hown, hts⟩ (hM H.size) (cwV 2 hts gL_law_X5_addTitle rfl rfl rfl (by decide +kernel) ⟨Nat.le_of_ble_eq_true rfl, Nat.le_of_ble_eq_true rfl⟩) (zmV (q0 := 0) (ci := 5) hY (w2_r hD) hE rfl rfl) rfl rfl hl.1 rfl (lv_room (Nat.le_of_ble_eq_true rfl)) dL_law_164 (by show _ ≤ 601024 ∧ _ ≤ 7293034; omega)) hP hD hS hA rfl (fun r H locs hr9b hP hY hD hS => ?_)
  subst hr9b
  refine lv_istore (lv' := [(6, .int val), (5, .int (nI 0)), (0, .ref b), (1, .ref h0), (2, .ref hm), (3, .ref ob), (4, .int (nI (6 * k)))]) hx hb dL_law_167 hl (by decide) rfl (fun ls hl => ?_)
  refine lv_aload_n hx hb dL_law_169 rfl (lv_at hl 4 rfl) ?_
  refine zci (va_runV (As := []) (rest := []) ⟨hx, hb, hml, hown, hts⟩ (m_thrown l D ca sa hm ad _ _ _ _ _ _) (cwV 0 hts gL_law_X5_thrown rfl rfl rfl (by decide +kernel) ⟨Nat.le_of_ble_eq_true rfl, Nat.le_of_ble_eq_true rfl⟩) (zpV (q0 := 0) (ci := 5) hY hE rfl rfl) rfl rfl hl.1 rfl (lv_room (Nat.le_of_ble_eq_true rfl)) dL_law_170 (by show _ ≤ 601024 ∧ _ ≤ 7293034; omega)) ?_
  refine lv_iload hx hb dL_law_173 (lv_at hl 1 rfl) ?_
  refine lv_icmp_eq (tgt := 180) hx hb dL_law_175 (by decide) (fun c_175 => ?_) (fun c_175 => ?_)
  · refine lv_iload hx hb dL_law_180 (lv_at hl 1 rfl) ?_
    refine lv_if_ne (tgt := 197) hx hb dL_law_182 (by decide) (fun c_182 => ?_) (fun c_182 => ?_)
    · exact absurd c_182 (by decide)
    · refine lv_aload_n hx hb dL_law_185 rfl (lv_at hl 5 rfl) ?_
      refine lv_iconst (v := nI 0) hx hb dL_law_186 (by decide) ?_
      refine zol hx hb hE hP hv9 dL_law_187 ?_
      refine lv_iload hx hb dL_law_188 (lv_at hl 0 rfl) ?_
      refine lv_i2l hx hb dL_law_190 rfl ?_
      refine W.lcmp hx hb dL_law_191 ?_
      refine zasi (show (lg_cmp (val.toInt64) (val.toInt64)) = nI 0 from zcmp _) ?_
      refine lv_if_eq (tgt := 197) hx hb dL_law_192 (by decide) (fun c_192 => ?_) (fun c_192 => ?_)
      · refine lv_goto (tgt := 1551) hx hb dL_law_197 (by decide) ?_
        refine W.widen (k := cells + 24) (n := slots + 100) (by omega) (by omega) ?_
        exact kk V' nc' M' _ _ _ _ H locs ls ⟨hI, hR9, hP, hY, hD, hS, lv_sub hl [2, 3, 4, 5, 6] rfl⟩
      · exact absurd c_192 (by decide)
  · exact absurd c_175 (by decide)

set_option maxHeartbeats 4000000 in
set_option maxRecDepth 100000 in
theorem st_addTitle_x {p : Program} {l : Launch} {e : Env} {s : State} {m : MethodId} {below : List Frame} {meth : Method} {c : Code} {b Ln : Nat} {xs : Nat → Int32} {D : va_G} {ca : Nat → ClassId} {sa : Nat → Nat} (C : lw_C p l s m meth c b Ln xs D ca sa) {h0 hm ob : Nat} {ad : Nat → Nat} {k : Nat} {H : Heap} {locs : List Loc} {ls : Array Slot} {V : zV} {nc : Nat} {M : Nat → Nat → Int32} {th : Int32} {L : List Nat} {f : Nat → va_E} {g : Nat → Int64} (S : lw_S D ca s h0 hm ob b ad k (6 * k) H locs ls V nc M th L f g) (hk : k < 512) (hi : 6 * k + 6 ≤ Ln) {cells slots : Nat} {Q : State → Prop} (hroom : cells + 24 ≤ 601024 ∧ slots + 100 ≤ 7293034) {v1 v2 : Int32} (e1 : xs (6 * k + 1) = v1) (e2 : xs (6 * k + 2) = v2) {mc ms : Nat} (hmc : mc ≤ 24) (hms : ms ≤ 100) {r9 : Int32} (hr9 : r9 = nI 1 ∨ r9 = nI 2) (hC : ∀ sz, vx_Met l yL_addTitle wsL_addTitle ({ frames := 10, cells := mc, slots := ms, locals := 450 }) (va_Pc [.ref h0, .int v1, .int v2, .ref ob] (zLp D L f ob g ca sa sz)) (va_Qi (fun (r : Int32) (_ : Unit) => r = r9) (fun _ _ => True) (fun q => sz ≤ q)) zX0 mc ms (fun q => sz ≤ q)) (hM : ∀ sz, Met l yX5_addTitle wsX5_addTitle ({ frames := 9, cells := 0, slots := 0, locals := 360 }) (va_Pc [.ref hm, .int v1, .int v2] (zMp D (mW hm ad ca th (vTd V) (vNt V) (vNp V) nc M) ca sa sz)) (va_Qi (fun (r : Int32) (_ : Unit) => True) (fun _ t9 => va_P D vwCl (mW hm ad ca r9 (vTd V) (vNt V) (vNp V) nc M) t9.heap) (va_A (mW hm ad ca th (vTd V) (vNt V) (vNp V) nc M) sz)) 0 0 (va_A (mW hm ad ca th (vTd V) (vNt V) (vNp V) nc M) sz)) (kk : ∀ (V' : zV) (nc' : Nat) (M' : Nat → Nat → Int32) (th' : Int32) (L' : List Nat) (f' : Nat → va_E) (g' : Nat → Int64) (H1 : Heap) (locs1 : List Loc) (ls1 : Array Slot), lw_S D ca s h0 hm ob b ad (k + 1) (6 * k) H1 locs1 ls1 V' nc' M' th' L' f' g' → W p l e room_1 s m #[Value.ref b] below meth c H1 locs1 (cells + 24) (slots + 100) Q (F0 m 1551 ls1 [])) : W p l e room_1 s m #[Value.ref b] below meth c H locs cells slots Q (F0 m 132 ls []) := by
  obtain ⟨⟨hx, hb, hml, hown, hts⟩, hX, hbl, hL3, hE, hN, hZ0, hl0⟩ := C
  obtain ⟨hI0, ⟨ta, pa, aT, aP, aS, aH, n9, hR⟩, hP, hY, hD, hS, hl⟩ := S
  have h4 := hR.1.1
  have hA : ∀ q : Nat, s.heap.size ≤ q → (fun q => s.heap.size ≤ q) q := fun _ h => h
  refine lv_aload_n hx hb dL_law_132 rfl (lv_at hl 1 rfl) ?_
  refine lv_aload_n hx hb dL_law_133 rfl (lv_at hl 0 rfl) ?_
  refine lv_iload hx hb dL_law_134 (lv_at hl 4 rfl) ?_
  refine lv_iconst (v := nI 1) hx hb dL_law_136 (by decide) ?_
  refine lv_iadd hx hb dL_law_137 ?_
  refine zasi (show ((nI (6 * k)) + (nI 1)) = nI (6 * k + 1) from nI_add _ _) ?_
  refine zsl hx hb hX hbl hL3 hS (show 6 * k + 1 < Ln by omega) e1 dL_law_138 ?_
  refine lv_aload_n hx hb dL_law_139 rfl (lv_at hl 0 rfl) ?_
  refine lv_iload hx hb dL_law_140 (lv_at hl 4 rfl) ?_
  refine lv_iconst (v := nI 2) hx hb dL_law_142 (by decide) ?_
  refine lv_iadd hx hb dL_law_143 ?_
  refine zasi (show ((nI (6 * k)) + (nI 2)) = nI (6 * k + 2) from nI_add _ _) ?_
  refine zsl hx hb hX hbl hL3 hS (show 6 * k + 2 < Ln by omega) e2 dL_law_144 ?_
  refine lv_aload_n hx hb dL_law_145 rfl (lv_at hl 3 rfl) ?_
  refine zgx (vx_runSX (As := [.ref h0, .int v1, .int v2, .ref ob]) (rest := []) ⟨hx, hb, hml, hown, hts⟩ (hC H.size) (vx_cwSW (bytes := cL_addTitle) (maxL := 5) (ret := some .int) (hh := [(0, 10, 13, 13), (0, 10, 17, 15)]) 4 hts gL_law_L_addTitle rfl rfl rfl (by decide +kernel) ⟨Nat.le_of_ble_eq_true rfl, Nat.le_of_ble_eq_true rfl⟩) (zLS hP (w2_l hD) hE hN (lwZ hZ0 hS) (fun q h => Nat.le_trans hS.1 h)) rfl rfl hl.1 rfl (lv_room (Nat.le_of_ble_eq_true rfl)) dL_law_146 (by show _ ≤ 601024 ∧ _ ≤ 7293034; omega)) hP hY hS hA (fun H locs hP hY hS => ?_)
  refine lv_istore (lv' := [(5, .int r9), (0, .ref b), (1, .ref h0), (2, .ref hm), (3, .ref ob), (4, .int (nI (6 * k)))]) hx hb dL_law_149 hl (by decide) rfl (fun ls hl => ?_)
  refine lv_aload_n hx hb dL_law_151 rfl (lv_at hl 3 rfl) ?_
  refine lv_aload_n hx hb dL_law_152 rfl (lv_at hl 1 rfl) ?_
  refine lv_iload hx hb dL_law_153 (lv_at hl 5 rfl) ?_
  refine lv_iconst (v := nI 1) hx hb dL_law_155 (by decide) ?_
  refine lv_iadd hx hb dL_law_156 ?_
  refine zasi (show ((nI (6 * k)) + (nI 1)) = nI (6 * k + 1) from nI_add _ _) ?_
  refine zsl hx hb hX hbl hL3 hS (show 6 * k + 1 < Ln by omega) e1 dL_law_157 ?_
  refine lv_aload_n hx hb dL_law_158 rfl (lv_at hl 1 rfl) ?_
  refine lv_iload hx hb dL_law_159 (lv_at hl 5 rfl) ?_
  refine lv_iconst (v := nI 2) hx hb dL_law_161 (by decide) ?_
  refine lv_iadd hx hb dL_law_162 ?_
  refine zasi (show ((nI (6 * k)) + (nI 2)) = nI (6 * k + 2) from nI_add _ _) ?_
  refine zsl hx hb hX hbl hL3 hS (show 6 * k + 2 < Ln by omega) e2 dL_law_163 ?_
  refine zgm (va_runV (As := [.int v1, .int v2]) (rest := []) ⟨hx, hb, hml, hown, hts⟩ (hM H.size) (cwV 2 hts gL_law_X5_addTitle rfl rfl rfl (by decide +kernel) ⟨Nat.le_of_ble_eq_true rfl, Nat.le_of_ble_eq_true rfl⟩) (zmV (q0 := 0) (ci := 5) hY (w2_r hD) hE rfl rfl) rfl rfl hl.1 rfl (lv_room (Nat.le_of_ble_eq_true rfl)) dL_law_164 (by show _ ≤ 601024 ∧ _ ≤ 7293034; omega)) hP hD hS hA rfl (fun r H locs hr9b hP hY hD hS => ?_)
  refine lv_istore (lv' := [(6, .int r), (5, .int r9), (0, .ref b), (1, .ref h0), (2, .ref hm), (3, .ref ob), (4, .int (nI (6 * k)))]) hx hb dL_law_167 hl (by decide) rfl (fun ls hl => ?_)
  refine lv_aload_n hx hb dL_law_169 rfl (lv_at hl 4 rfl) ?_
  refine zci (va_runV (As := []) (rest := []) ⟨hx, hb, hml, hown, hts⟩ (m_thrown l D ca sa hm ad _ _ _ _ _ _) (cwV 0 hts gL_law_X5_thrown rfl rfl rfl (by decide +kernel) ⟨Nat.le_of_ble_eq_true rfl, Nat.le_of_ble_eq_true rfl⟩) (zpV (q0 := 0) (ci := 5) hY hE rfl rfl) rfl rfl hl.1 rfl (lv_room (Nat.le_of_ble_eq_true rfl)) dL_law_170 (by show _ ≤ 601024 ∧ _ ≤ 7293034; omega)) ?_
  refine lv_iload hx hb dL_law_173 (lv_at hl 1 rfl) ?_
  refine lv_icmp_eq (tgt := 180) hx hb dL_law_175 (by decide) (fun c_175 => ?_) (fun c_175 => ?_)
  · refine lv_iload hx hb dL_law_180 (lv_at hl 1 rfl) ?_
    refine lv_if_ne (tgt := 197) hx hb dL_law_182 (by decide) (fun c_182 => ?_) (fun c_182 => ?_)
    · refine lv_goto (tgt := 1551) hx hb dL_law_197 (by decide) ?_
      refine W.widen (k := cells + 24) (n := slots + 100) (by omega) (by omega) ?_
      exact kk V nc M _ _ _ _ H locs ls ⟨i_up hI0 hk, ⟨ta, pa, aT, aP, aS, aH, n9, zRep_up hR (Nat.le_succ k) (by omega)⟩, hP, hY, hD, hS, lv_sub hl [2, 3, 4, 5, 6] rfl⟩
    · exact absurd c_182 (by rcases hr9 with rfl | rfl <;> decide)
  · exact absurd rfl c_175

set_option maxHeartbeats 4000000 in
set_option maxRecDepth 100000 in
theorem st_subscribe_ok {p : Program} {l : Launch} {e : Env} {s : State} {m : MethodId} {below : List Frame} {meth : Method} {c : Code} {b Ln : Nat} {xs : Nat → Int32} {D : va_G} {ca : Nat → ClassId} {sa : Nat → Nat} (C : lw_C p l s m meth c b Ln xs D ca sa) {h0 hm ob : Nat} {ad : Nat → Nat} {k : Nat} {H : Heap} {locs : List Loc} {ls : Array Slot} {V : zV} {nc : Nat} {M : Nat → Nat → Int32} {th : Int32} {L : List Nat} {f : Nat → va_E} {g : Nat → Int64} (S : lw_S D ca s h0 hm ob b ad k (6 * k) H locs ls V nc M th L f g) (hk : k < 512) (hi : 6 * k + 6 ≤ Ln) {cells slots : Nat} {Q : State → Prop} (hroom : cells + 24 ≤ 601024 ∧ slots + 100 ≤ 7293034) {v1 v2 : Int32} (e1 : xs (6 * k + 1) = v1) (e2 : xs (6 * k + 2) = v2) {bv : Bool} (hbv : bv = decide (¬ v2 = 0)) {mc ms : Nat} (hmc : mc ≤ 24) (hms : ms ≤ 100) {V' : zV} {nc' : Nat} {M' : Nat → Nat → Int32} {P : Int64 → zU → Prop} {bt : Bool} (hP9 : ∀ x u, P x u → x = bL bt ∧ zR u.1 u.2 ca h0 (k + 1) V') (hI : Inv V' nc' M' (k + 1)) (hC : ∀ sz, vx_Met l yL_subscribe wsL_subscribe ({ frames := 10, cells := mc, slots := ms, locals := 450 }) (va_Pc [.ref h0, .int v1, .int (bI bv), .ref ob] (zLp D L f ob g ca sa sz)) (va_Qi (fun (r : Int32) (u : zU × (Nat → Int64)) => r = nI 0 ∧ P (u.2 0) u.1) (fun u t => va_P D vwCl (oW ca ob u.2 ++ va_pl u.1.1 u.1.2) t.heap ∧ va_D (va_A (oW ca ob g ++ va_pl L f) sz) (oW ca ob u.2 ++ va_pl u.1.1 u.1.2)) (va_A (oW ca ob g ++ va_pl L f) sz)) zX0 mc ms (va_A (oW ca ob g ++ va_pl L f) sz)) (hM : ∀ sz, Met l yX5_subscribe wsX5_subscribe ({ frames := 9, cells := 0, slots := 0, locals := 360 }) (va_Pc [.ref hm, .int v1, .int (bI bv)] (zMp D (mW hm ad ca th (vTd V) (vNt V) (vNp V) nc M) ca sa sz)) (va_Qi (fun (r : Int32) (_ : Unit) => r = bI bt) (fun _ t9 => va_P D vwCl (mW hm ad ca (nI 0) (vTd V') (vNt V') (vNp V') nc' M') t9.heap) (va_A (mW hm ad ca th (vTd V) (vNt V) (vNp V) nc M) sz)) 0 0 (va_A (mW hm ad ca th (vTd V) (vNt V) (vNp V) nc M) sz)) (kk : ∀ (V' : zV) (nc' : Nat) (M' : Nat → Nat → Int32) (th' : Int32) (L' : List Nat) (f' : Nat → va_E) (g' : Nat → Int64) (H1 : Heap) (locs1 : List Loc) (ls1 : Array Slot), lw_S D ca s h0 hm ob b ad (k + 1) (6 * k) H1 locs1 ls1 V' nc' M' th' L' f' g' → W p l e room_1 s m #[Value.ref b] below meth c H1 locs1 (cells + 24) (slots + 100) Q (F0 m 1551 ls1 [])) : W p l e room_1 s m #[Value.ref b] below meth c H locs cells slots Q (F0 m 428 ls []) := by
  obtain ⟨⟨hx, hb, hml, hown, hts⟩, hX, hbl, hL3, hE, hN, hZ0, hl0⟩ := C
  obtain ⟨hI0, ⟨ta, pa, aT, aP, aS, aH, n9, hR⟩, hP, hY, hD, hS, hl⟩ := S
  have h4 := hR.1.1
  have hA : ∀ q : Nat, s.heap.size ≤ q → (fun q => s.heap.size ≤ q) q := fun _ h => h
  refine lv_aload_n hx hb dL_law_428 rfl (lv_at hl 1 rfl) ?_
  refine lv_aload_n hx hb dL_law_429 rfl (lv_at hl 0 rfl) ?_
  refine lv_iload hx hb dL_law_430 (lv_at hl 4 rfl) ?_
  refine lv_iconst (v := nI 1) hx hb dL_law_432 (by decide) ?_
  refine lv_iadd hx hb dL_law_433 ?_
  refine zasi (show ((nI (6 * k)) + (nI 1)) = nI (6 * k + 1) from nI_add _ _) ?_
  refine zsl hx hb hX hbl hL3 hS (show 6 * k + 1 < Ln by omega) e1 dL_law_434 ?_
  refine lv_aload_n hx hb dL_law_435 rfl (lv_at hl 0 rfl) ?_
  refine lv_iload hx hb dL_law_436 (lv_at hl 4 rfl) ?_
  refine lv_iconst (v := nI 2) hx hb dL_law_438 (by decide) ?_
  refine lv_iadd hx hb dL_law_439 ?_
  refine zasi (show ((nI (6 * k)) + (nI 2)) = nI (6 * k + 2) from nI_add _ _) ?_
  refine zsl hx hb hX hbl hL3 hS (show 6 * k + 2 < Ln by omega) e2 dL_law_440 ?_
  refine lv_if_eq (tgt := 448) hx hb dL_law_441 (by decide) (fun c_441 => ?_) (fun c_441 => ?_)
  · refine lv_iconst (v := nI 0) hx hb dL_law_448 (by decide) ?_
    refine zasi (show (nI 0) = bI bv from by rw [hbv, decide_eq_false (fun z => z c_441)]; rfl) ?_
    refine lv_aload_n hx hb dL_law_449 rfl (lv_at hl 3 rfl) ?_
    refine zgo (vx_runSX (As := [.ref h0, .int v1, .int (bI bv), .ref ob]) (rest := []) ⟨hx, hb, hml, hown, hts⟩ (hC H.size) (vx_cwSW (bytes := cL_subscribe) (maxL := 5) (ret := some .int) (hh := [(0, 17, 20, 20)]) 4 hts gL_law_L_subscribe rfl rfl rfl (by decide +kernel) ⟨Nat.le_of_ble_eq_true rfl, Nat.le_of_ble_eq_true rfl⟩) (zLS hP (w2_l hD) hE hN (lwZ hZ0 hS) (fun q h => Nat.le_trans hS.1 h)) rfl rfl hl.1 rfl (lv_room (Nat.le_of_ble_eq_true rfl)) dL_law_450 (by show _ ≤ 601024 ∧ _ ≤ 7293034; omega)) hY hD hS hA (fun u g1 H locs hu hP hY hD hS => ?_)
    obtain ⟨hv9, hR9⟩ := hP9 _ _ hu
    refine lv_istore (lv' := [(5, .int (nI 0)), (0, .ref b), (1, .ref h0), (2, .ref hm), (3, .ref ob), (4, .int (nI (6 * k)))]) hx hb dL_law_453 hl (by decide) rfl (fun ls hl => ?_)
    refine lv_aload_n hx hb dL_law_455 rfl (lv_at hl 3 rfl) ?_
    refine lv_aload_n hx hb dL_law_456 rfl (lv_at hl 1 rfl) ?_
    refine lv_iload hx hb dL_law_457 (lv_at hl 5 rfl) ?_
    refine lv_iconst (v := nI 1) hx hb dL_law_459 (by decide) ?_
    refine lv_iadd hx hb dL_law_460 ?_
    refine zasi (show ((nI (6 * k)) + (nI 1)) = nI (6 * k + 1) from nI_add _ _) ?_
    refine zsl hx hb hX hbl hL3 hS (show 6 * k + 1 < Ln by omega) e1 dL_law_461 ?_
    refine lv_aload_n hx hb dL_law_462 rfl (lv_at hl 1 rfl) ?_
    refine lv_iload hx hb dL_law_463 (lv_at hl 5 rfl) ?_
    refine lv_iconst (v := nI 2) hx hb dL_law_465 (by decide) ?_
    refine lv_iadd hx hb dL_law_466 ?_
    refine zasi (show ((nI (6 * k)) + (nI 2)) = nI (6 * k + 2) from nI_add _ _) ?_
    refine zsl hx hb hX hbl hL3 hS (show 6 * k + 2 < Ln by omega) e2 dL_law_467 ?_
    refine lv_if_eq (tgt := 475) hx hb dL_law_468 (by decide) (fun c_468 => ?_) (fun c_468 => ?_)
    · refine lv_iconst (v := nI 0) hx hb dL_law_475 (by decide) ?_
      refine zasi (show (nI 0) = bI bv from by rw [hbv, decide_eq_false (fun z => z c_468)]; rfl) ?_
      refine zgm (va_runV (As := [.int v1, .int (bI bv)]) (rest := []) ⟨hx, hb, hml, hown, hts⟩ (hM H.size) (cwV 2 hts gL_law_X5_subscribe rfl rfl rfl (by decide +kernel) ⟨Nat.le_of_ble_eq_true rfl, Nat.le_of_ble_eq_true rfl⟩) (zmV (q0 := 0) (ci := 5) hY (w2_r hD) hE rfl rfl) rfl rfl hl.1 rfl (lv_room (Nat.le_of_ble_eq_true rfl)) dL_law_476 (by show _ ≤ 601024 ∧ _ ≤ 7293034; omega)) hP hD hS hA rfl (fun r H locs hr9b hP hY hD hS => ?_)
      subst hr9b
      refine lv_istore (lv' := [(6, .int (bI bt)), (5, .int (nI 0)), (0, .ref b), (1, .ref h0), (2, .ref hm), (3, .ref ob), (4, .int (nI (6 * k)))]) hx hb dL_law_479 hl (by decide) rfl (fun ls hl => ?_)
      refine lv_aload_n hx hb dL_law_481 rfl (lv_at hl 4 rfl) ?_
      refine zci (va_runV (As := []) (rest := []) ⟨hx, hb, hml, hown, hts⟩ (m_thrown l D ca sa hm ad _ _ _ _ _ _) (cwV 0 hts gL_law_X5_thrown rfl rfl rfl (by decide +kernel) ⟨Nat.le_of_ble_eq_true rfl, Nat.le_of_ble_eq_true rfl⟩) (zpV (q0 := 0) (ci := 5) hY hE rfl rfl) rfl rfl hl.1 rfl (lv_room (Nat.le_of_ble_eq_true rfl)) dL_law_482 (by show _ ≤ 601024 ∧ _ ≤ 7293034; omega)) ?_
      refine lv_iload hx hb dL_law_485 (lv_at hl 1 rfl) ?_
      refine lv_icmp_eq (tgt := 492) hx hb dL_law_487 (by decide) (fun c_487 => ?_) (fun c_487 => ?_)
      · refine lv_iload hx hb dL_law_492 (lv_at hl 1 rfl) ?_
        refine lv_if_ne (tgt := 516) hx hb dL_law_494 (by decide) (fun c_494 => ?_) (fun c_494 => ?_)
        · exact absurd c_494 (by decide)
        · refine lv_aload_n hx hb dL_law_497 rfl (lv_at hl 5 rfl) ?_
          refine lv_iconst (v := nI 0) hx hb dL_law_498 (by decide) ?_
          refine zol hx hb hE hP hv9 dL_law_499 ?_
          refine lv_iload hx hb dL_law_500 (lv_at hl 0 rfl) ?_
          refine lv_if_eq (tgt := 509) hx hb dL_law_502 (by decide) (fun c_502 => ?_) (fun c_502 => ?_)
          · refine lv_lconst (v := 0) hx hb dL_law_509 (by decide) ?_
            refine W.lcmp hx hb dL_law_510 ?_
            refine zasi (show (lg_cmp ((bL bt)) 0) = nI 0 from by rw [bI_eq0 c_502]; exact zcmp _) ?_
            refine lv_if_eq (tgt := 516) hx hb dL_law_511 (by decide) (fun c_511 => ?_) (fun c_511 => ?_)
            · refine lv_goto (tgt := 1551) hx hb dL_law_516 (by decide) ?_
              refine W.widen (k := cells + 24) (n := slots + 100) (by omega) (by omega) ?_
              exact kk V' nc' M' _ _ _ _ H locs ls ⟨hI, hR9, hP, hY, hD, hS, lv_sub hl [2, 3, 4, 5, 6] rfl⟩
            · exact absurd c_511 (by decide)
          · refine lv_lconst (v := 1) hx hb dL_law_505 (by decide) ?_
            refine lv_goto (tgt := 510) hx hb dL_law_506 (by decide) ?_
            refine W.lcmp hx hb dL_law_510 ?_
            refine zasi (show (lg_cmp ((bL bt)) 1) = nI 0 from by rw [bI_ne0 c_502]; exact zcmp _) ?_
            refine lv_if_eq (tgt := 516) hx hb dL_law_511 (by decide) (fun c_511 => ?_) (fun c_511 => ?_)
            · refine lv_goto (tgt := 1551) hx hb dL_law_516 (by decide) ?_
              refine W.widen (k := cells + 24) (n := slots + 100) (by omega) (by omega) ?_
              exact kk V' nc' M' _ _ _ _ H locs ls ⟨hI, hR9, hP, hY, hD, hS, lv_sub hl [2, 3, 4, 5, 6] rfl⟩
            · exact absurd c_511 (by decide)
      · exact absurd c_487 (by decide)
    · refine lv_iconst (v := nI 1) hx hb dL_law_471 (by decide) ?_
      refine zasi (show (nI 1) = bI bv from by rw [hbv, decide_eq_true c_468]; rfl) ?_
      refine lv_goto (tgt := 476) hx hb dL_law_472 (by decide) ?_
      refine zgm (va_runV (As := [.int v1, .int (bI bv)]) (rest := []) ⟨hx, hb, hml, hown, hts⟩ (hM H.size) (cwV 2 hts gL_law_X5_subscribe rfl rfl rfl (by decide +kernel) ⟨Nat.le_of_ble_eq_true rfl, Nat.le_of_ble_eq_true rfl⟩) (zmV (q0 := 0) (ci := 5) hY (w2_r hD) hE rfl rfl) rfl rfl hl.1 rfl (lv_room (Nat.le_of_ble_eq_true rfl)) dL_law_476 (by show _ ≤ 601024 ∧ _ ≤ 7293034; omega)) hP hD hS hA rfl (fun r H locs hr9b hP hY hD hS => ?_)
      subst hr9b
      refine lv_istore (lv' := [(6, .int (bI bt)), (5, .int (nI 0)), (0, .ref b), (1, .ref h0), (2, .ref hm), (3, .ref ob), (4, .int (nI (6 * k)))]) hx hb dL_law_479 hl (by decide) rfl (fun ls hl => ?_)
      refine lv_aload_n hx hb dL_law_481 rfl (lv_at hl 4 rfl) ?_
      refine zci (va_runV (As := []) (rest := []) ⟨hx, hb, hml, hown, hts⟩ (m_thrown l D ca sa hm ad _ _ _ _ _ _) (cwV 0 hts gL_law_X5_thrown rfl rfl rfl (by decide +kernel) ⟨Nat.le_of_ble_eq_true rfl, Nat.le_of_ble_eq_true rfl⟩) (zpV (q0 := 0) (ci := 5) hY hE rfl rfl) rfl rfl hl.1 rfl (lv_room (Nat.le_of_ble_eq_true rfl)) dL_law_482 (by show _ ≤ 601024 ∧ _ ≤ 7293034; omega)) ?_
      refine lv_iload hx hb dL_law_485 (lv_at hl 1 rfl) ?_
      refine lv_icmp_eq (tgt := 492) hx hb dL_law_487 (by decide) (fun c_487 => ?_) (fun c_487 => ?_)
      · refine lv_iload hx hb dL_law_492 (lv_at hl 1 rfl) ?_
        refine lv_if_ne (tgt := 516) hx hb dL_law_494 (by decide) (fun c_494 => ?_) (fun c_494 => ?_)
        · exact absurd c_494 (by decide)
        · refine lv_aload_n hx hb dL_law_497 rfl (lv_at hl 5 rfl) ?_
          refine lv_iconst (v := nI 0) hx hb dL_law_498 (by decide) ?_
          refine zol hx hb hE hP hv9 dL_law_499 ?_
          refine lv_iload hx hb dL_law_500 (lv_at hl 0 rfl) ?_
          refine lv_if_eq (tgt := 509) hx hb dL_law_502 (by decide) (fun c_502 => ?_) (fun c_502 => ?_)
          · refine lv_lconst (v := 0) hx hb dL_law_509 (by decide) ?_
            refine W.lcmp hx hb dL_law_510 ?_
            refine zasi (show (lg_cmp ((bL bt)) 0) = nI 0 from by rw [bI_eq0 c_502]; exact zcmp _) ?_
            refine lv_if_eq (tgt := 516) hx hb dL_law_511 (by decide) (fun c_511 => ?_) (fun c_511 => ?_)
            · refine lv_goto (tgt := 1551) hx hb dL_law_516 (by decide) ?_
              refine W.widen (k := cells + 24) (n := slots + 100) (by omega) (by omega) ?_
              exact kk V' nc' M' _ _ _ _ H locs ls ⟨hI, hR9, hP, hY, hD, hS, lv_sub hl [2, 3, 4, 5, 6] rfl⟩
            · exact absurd c_511 (by decide)
          · refine lv_lconst (v := 1) hx hb dL_law_505 (by decide) ?_
            refine lv_goto (tgt := 510) hx hb dL_law_506 (by decide) ?_
            refine W.lcmp hx hb dL_law_510 ?_
            refine zasi (show (lg_cmp ((bL bt)) 1) = nI 0 from by rw [bI_ne0 c_502]; exact zcmp _) ?_
            refine lv_if_eq (tgt := 516) hx hb dL_law_511 (by decide) (fun c_511 => ?_) (fun c_511 => ?_)
            · refine lv_goto (tgt := 1551) hx hb dL_law_516 (by decide) ?_
              refine W.widen (k := cells + 24) (n := slots + 100) (by omega) (by omega) ?_
              exact kk V' nc' M' _ _ _ _ H locs ls ⟨hI, hR9, hP, hY, hD, hS, lv_sub hl [2, 3, 4, 5, 6] rfl⟩
            · exact absurd c_511 (by decide)
      · exact absurd c_487 (by decide)
  · refine lv_iconst (v := nI 1) hx hb dL_law_444 (by decide) ?_
    refine zasi (show (nI 1) = bI bv from by rw [hbv, decide_eq_true c_441]; rfl) ?_
    refine lv_goto (tgt := 449) hx hb dL_law_445 (by decide) ?_
    refine lv_aload_n hx hb dL_law_449 rfl (lv_at hl 3 rfl) ?_
    refine zgo (vx_runSX (As := [.ref h0, .int v1, .int (bI bv), .ref ob]) (rest := []) ⟨hx, hb, hml, hown, hts⟩ (hC H.size) (vx_cwSW (bytes := cL_subscribe) (maxL := 5) (ret := some .int) (hh := [(0, 17, 20, 20)]) 4 hts gL_law_L_subscribe rfl rfl rfl (by decide +kernel) ⟨Nat.le_of_ble_eq_true rfl, Nat.le_of_ble_eq_true rfl⟩) (zLS hP (w2_l hD) hE hN (lwZ hZ0 hS) (fun q h => Nat.le_trans hS.1 h)) rfl rfl hl.1 rfl (lv_room (Nat.le_of_ble_eq_true rfl)) dL_law_450 (by show _ ≤ 601024 ∧ _ ≤ 7293034; omega)) hY hD hS hA (fun u g1 H locs hu hP hY hD hS => ?_)
    obtain ⟨hv9, hR9⟩ := hP9 _ _ hu
    refine lv_istore (lv' := [(5, .int (nI 0)), (0, .ref b), (1, .ref h0), (2, .ref hm), (3, .ref ob), (4, .int (nI (6 * k)))]) hx hb dL_law_453 hl (by decide) rfl (fun ls hl => ?_)
    refine lv_aload_n hx hb dL_law_455 rfl (lv_at hl 3 rfl) ?_
    refine lv_aload_n hx hb dL_law_456 rfl (lv_at hl 1 rfl) ?_
    refine lv_iload hx hb dL_law_457 (lv_at hl 5 rfl) ?_
    refine lv_iconst (v := nI 1) hx hb dL_law_459 (by decide) ?_
    refine lv_iadd hx hb dL_law_460 ?_
    refine zasi (show ((nI (6 * k)) + (nI 1)) = nI (6 * k + 1) from nI_add _ _) ?_
    refine zsl hx hb hX hbl hL3 hS (show 6 * k + 1 < Ln by omega) e1 dL_law_461 ?_
    refine lv_aload_n hx hb dL_law_462 rfl (lv_at hl 1 rfl) ?_
    refine lv_iload hx hb dL_law_463 (lv_at hl 5 rfl) ?_
    refine lv_iconst (v := nI 2) hx hb dL_law_465 (by decide) ?_
    refine lv_iadd hx hb dL_law_466 ?_
    refine zasi (show ((nI (6 * k)) + (nI 2)) = nI (6 * k + 2) from nI_add _ _) ?_
    refine zsl hx hb hX hbl hL3 hS (show 6 * k + 2 < Ln by omega) e2 dL_law_467 ?_
    refine lv_if_eq (tgt := 475) hx hb dL_law_468 (by decide) (fun c_468 => ?_) (fun c_468 => ?_)
    · refine lv_iconst (v := nI 0) hx hb dL_law_475 (by decide) ?_
      refine zasi (show (nI 0) = bI bv from by rw [hbv, decide_eq_false (fun z => z c_468)]; rfl) ?_
      refine zgm (va_runV (As := [.int v1, .int (bI bv)]) (rest := []) ⟨hx, hb, hml, hown, hts⟩ (hM H.size) (cwV 2 hts gL_law_X5_subscribe rfl rfl rfl (by decide +kernel) ⟨Nat.le_of_ble_eq_true rfl, Nat.le_of_ble_eq_true rfl⟩) (zmV (q0 := 0) (ci := 5) hY (w2_r hD) hE rfl rfl) rfl rfl hl.1 rfl (lv_room (Nat.le_of_ble_eq_true rfl)) dL_law_476 (by show _ ≤ 601024 ∧ _ ≤ 7293034; omega)) hP hD hS hA rfl (fun r H locs hr9b hP hY hD hS => ?_)
      subst hr9b
      refine lv_istore (lv' := [(6, .int (bI bt)), (5, .int (nI 0)), (0, .ref b), (1, .ref h0), (2, .ref hm), (3, .ref ob), (4, .int (nI (6 * k)))]) hx hb dL_law_479 hl (by decide) rfl (fun ls hl => ?_)
      refine lv_aload_n hx hb dL_law_481 rfl (lv_at hl 4 rfl) ?_
      refine zci (va_runV (As := []) (rest := []) ⟨hx, hb, hml, hown, hts⟩ (m_thrown l D ca sa hm ad _ _ _ _ _ _) (cwV 0 hts gL_law_X5_thrown rfl rfl rfl (by decide +kernel) ⟨Nat.le_of_ble_eq_true rfl, Nat.le_of_ble_eq_true rfl⟩) (zpV (q0 := 0) (ci := 5) hY hE rfl rfl) rfl rfl hl.1 rfl (lv_room (Nat.le_of_ble_eq_true rfl)) dL_law_482 (by show _ ≤ 601024 ∧ _ ≤ 7293034; omega)) ?_
      refine lv_iload hx hb dL_law_485 (lv_at hl 1 rfl) ?_
      refine lv_icmp_eq (tgt := 492) hx hb dL_law_487 (by decide) (fun c_487 => ?_) (fun c_487 => ?_)
      · refine lv_iload hx hb dL_law_492 (lv_at hl 1 rfl) ?_
        refine lv_if_ne (tgt := 516) hx hb dL_law_494 (by decide) (fun c_494 => ?_) (fun c_494 => ?_)
        · exact absurd c_494 (by decide)
        · refine lv_aload_n hx hb dL_law_497 rfl (lv_at hl 5 rfl) ?_
          refine lv_iconst (v := nI 0) hx hb dL_law_498 (by decide) ?_
          refine zol hx hb hE hP hv9 dL_law_499 ?_
          refine lv_iload hx hb dL_law_500 (lv_at hl 0 rfl) ?_
          refine lv_if_eq (tgt := 509) hx hb dL_law_502 (by decide) (fun c_502 => ?_) (fun c_502 => ?_)
          · refine lv_lconst (v := 0) hx hb dL_law_509 (by decide) ?_
            refine W.lcmp hx hb dL_law_510 ?_
            refine zasi (show (lg_cmp ((bL bt)) 0) = nI 0 from by rw [bI_eq0 c_502]; exact zcmp _) ?_
            refine lv_if_eq (tgt := 516) hx hb dL_law_511 (by decide) (fun c_511 => ?_) (fun c_511 => ?_)
            · refine lv_goto (tgt := 1551) hx hb dL_law_516 (by decide) ?_
              refine W.widen (k := cells + 24) (n := slots + 100) (by omega) (by omega) ?_
              exact kk V' nc' M' _ _ _ _ H locs ls ⟨hI, hR9, hP, hY, hD, hS, lv_sub hl [2, 3, 4, 5, 6] rfl⟩
            · exact absurd c_511 (by decide)
          · refine lv_lconst (v := 1) hx hb dL_law_505 (by decide) ?_
            refine lv_goto (tgt := 510) hx hb dL_law_506 (by decide) ?_
            refine W.lcmp hx hb dL_law_510 ?_
            refine zasi (show (lg_cmp ((bL bt)) 1) = nI 0 from by rw [bI_ne0 c_502]; exact zcmp _) ?_
            refine lv_if_eq (tgt := 516) hx hb dL_law_511 (by decide) (fun c_511 => ?_) (fun c_511 => ?_)
            · refine lv_goto (tgt := 1551) hx hb dL_law_516 (by decide) ?_
              refine W.widen (k := cells + 24) (n := slots + 100) (by omega) (by omega) ?_
              exact kk V' nc' M' _ _ _ _ H locs ls ⟨hI, hR9, hP, hY, hD, hS, lv_sub hl [2, 3, 4, 5, 6] rfl⟩
            · exact absurd c_511 (by decide)
      · exact absurd c_487 (by decide)
    · refine lv_iconst (v := nI 1) hx hb dL_law_471 (by decide) ?_
      refine zasi (show (nI 1) = bI bv from by rw [hbv, decide_eq_true c_468]; rfl) ?_
      refine lv_goto (tgt := 476) hx hb dL_law_472 (by decide) ?_
      refine zgm (va_runV (As := [.int v1, .int (bI bv)]) (rest := []) ⟨hx, hb, hml, hown, hts⟩ (hM H.size) (cwV 2 hts gL_law_X5_subscribe rfl rfl rfl (by decide +kernel) ⟨Nat.le_of_ble_eq_true rfl, Nat.le_of_ble_eq_true rfl⟩) (zmV (q0 := 0) (ci := 5) hY (w2_r hD) hE rfl rfl) rfl rfl hl.1 rfl (lv_room (Nat.le_of_ble_eq_true rfl)) dL_law_476 (by show _ ≤ 601024 ∧ _ ≤ 7293034; omega)) hP hD hS hA rfl (fun r H locs hr9b hP hY hD hS => ?_)
      subst hr9b
      refine lv_istore (lv' := [(6, .int (bI bt)), (5, .int (nI 0)), (0, .ref b), (1, .ref h0), (2, .ref hm), (3, .ref ob), (4, .int (nI (6 * k)))]) hx hb dL_law_479 hl (by decide) rfl (fun ls hl => ?_)
      refine lv_aload_n hx hb dL_law_481 rfl (lv_at hl 4 rfl) ?_
      refine zci (va_runV (As := []) (rest := []) ⟨hx, hb, hml, hown, hts⟩ (m_thrown l D ca sa hm ad _ _ _ _ _ _) (cwV 0 hts gL_law_X5_thrown rfl rfl rfl (by decide +kernel) ⟨Nat.le_of_ble_eq_true rfl, Nat.le_of_ble_eq_true rfl⟩) (zpV (q0 := 0) (ci := 5) hY hE rfl rfl) rfl rfl hl.1 rfl (lv_room (Nat.le_of_ble_eq_true rfl)) dL_law_482 (by show _ ≤ 601024 ∧ _ ≤ 7293034; omega)) ?_
      refine lv_iload hx hb dL_law_485 (lv_at hl 1 rfl) ?_
      refine lv_icmp_eq (tgt := 492) hx hb dL_law_487 (by decide) (fun c_487 => ?_) (fun c_487 => ?_)
      · refine lv_iload hx hb dL_law_492 (lv_at hl 1 rfl) ?_
        refine lv_if_ne (tgt := 516) hx hb dL_law_494 (by decide) (fun c_494 => ?_) (fun c_494 => ?_)
        · exact absurd c_494 (by decide)
        · refine lv_aload_n hx hb dL_law_497 rfl (lv_at hl 5 rfl) ?_
          refine lv_iconst (v := nI 0) hx hb dL_law_498 (by decide) ?_
          refine zol hx hb hE hP hv9 dL_law_499 ?_
          refine lv_iload hx hb dL_law_500 (lv_at hl 0 rfl) ?_
          refine lv_if_eq (tgt := 509) hx hb dL_law_502 (by decide) (fun c_502 => ?_) (fun c_502 => ?_)
          · refine lv_lconst (v := 0) hx hb dL_law_509 (by decide) ?_
            refine W.lcmp hx hb dL_law_510 ?_
            refine zasi (show (lg_cmp ((bL bt)) 0) = nI 0 from by rw [bI_eq0 c_502]; exact zcmp _) ?_
            refine lv_if_eq (tgt := 516) hx hb dL_law_511 (by decide) (fun c_511 => ?_) (fun c_511 => ?_)
            · refine lv_goto (tgt := 1551) hx hb dL_law_516 (by decide) ?_
              refine W.widen (k := cells + 24) (n := slots + 100) (by omega) (by omega) ?_
              exact kk V' nc' M' _ _ _ _ H locs ls ⟨hI, hR9, hP, hY, hD, hS, lv_sub hl [2, 3, 4, 5, 6] rfl⟩
            · exact absurd c_511 (by decide)
          · refine lv_lconst (v := 1) hx hb dL_law_505 (by decide) ?_
            refine lv_goto (tgt := 510) hx hb dL_law_506 (by decide) ?_
            refine W.lcmp hx hb dL_law_510 ?_
            refine zasi (show (lg_cmp ((bL bt)) 1) = nI 0 from by rw [bI_ne0 c_502]; exact zcmp _) ?_
            refine lv_if_eq (tgt := 516) hx hb dL_law_511 (by decide) (fun c_511 => ?_) (fun c_511 => ?_)
            · refine lv_goto (tgt := 1551) hx hb dL_law_516 (by decide) ?_
              refine W.widen (k := cells + 24) (n := slots + 100) (by omega) (by omega) ?_
              exact kk V' nc' M' _ _ _ _ H locs ls ⟨hI, hR9, hP, hY, hD, hS, lv_sub hl [2, 3, 4, 5, 6] rfl⟩
            · exact absurd c_511 (by decide)
      · exact absurd c_487 (by decide)

set_option maxHeartbeats 4000000 in
set_option maxRecDepth 100000 in
theorem st_subscribe_x {p : Program} {l : Launch} {e : Env} {s : State} {m : MethodId} {below : List Frame} {meth : Method} {c : Code} {b Ln : Nat} {xs : Nat → Int32} {D : va_G} {ca : Nat → ClassId} {sa : Nat → Nat} (C : lw_C p l s m meth c b Ln xs D ca sa) {h0 hm ob : Nat} {ad : Nat → Nat} {k : Nat} {H : Heap} {locs : List Loc} {ls : Array Slot} {V : zV} {nc : Nat} {M : Nat → Nat → Int32} {th : Int32} {L : List Nat} {f : Nat → va_E} {g : Nat → Int64} (S : lw_S D ca s h0 hm ob b ad k (6 * k) H locs ls V nc M th L f g) (hk : k < 512) (hi : 6 * k + 6 ≤ Ln) {cells slots : Nat} {Q : State → Prop} (hroom : cells + 24 ≤ 601024 ∧ slots + 100 ≤ 7293034) {v1 v2 : Int32} (e1 : xs (6 * k + 1) = v1) (e2 : xs (6 * k + 2) = v2) {bv : Bool} (hbv : bv = decide (¬ v2 = 0)) {mc ms : Nat} (hmc : mc ≤ 24) (hms : ms ≤ 100) {r9 : Int32} (hr9 : r9 = nI 1 ∨ r9 = nI 2) (hC : ∀ sz, vx_Met l yL_subscribe wsL_subscribe ({ frames := 10, cells := mc, slots := ms, locals := 450 }) (va_Pc [.ref h0, .int v1, .int (bI bv), .ref ob] (zLp D L f ob g ca sa sz)) (va_Qi (fun (r : Int32) (_ : Unit) => r = r9) (fun _ _ => True) (fun q => sz ≤ q)) zX0 mc ms (fun q => sz ≤ q)) (hM : ∀ sz, Met l yX5_subscribe wsX5_subscribe ({ frames := 9, cells := 0, slots := 0, locals := 360 }) (va_Pc [.ref hm, .int v1, .int (bI bv)] (zMp D (mW hm ad ca th (vTd V) (vNt V) (vNp V) nc M) ca sa sz)) (va_Qi (fun (r : Int32) (_ : Unit) => True) (fun _ t9 => va_P D vwCl (mW hm ad ca r9 (vTd V) (vNt V) (vNp V) nc M) t9.heap) (va_A (mW hm ad ca th (vTd V) (vNt V) (vNp V) nc M) sz)) 0 0 (va_A (mW hm ad ca th (vTd V) (vNt V) (vNp V) nc M) sz)) (kk : ∀ (V' : zV) (nc' : Nat) (M' : Nat → Nat → Int32) (th' : Int32) (L' : List Nat) (f' : Nat → va_E) (g' : Nat → Int64) (H1 : Heap) (locs1 : List Loc) (ls1 : Array Slot), lw_S D ca s h0 hm ob b ad (k + 1) (6 * k) H1 locs1 ls1 V' nc' M' th' L' f' g' → W p l e room_1 s m #[Value.ref b] below meth c H1 locs1 (cells + 24) (slots + 100) Q (F0 m 1551 ls1 [])) : W p l e room_1 s m #[Value.ref b] below meth c H locs cells slots Q (F0 m 428 ls []) := by
  obtain ⟨⟨hx, hb, hml, hown, hts⟩, hX, hbl, hL3, hE, hN, hZ0, hl0⟩ := C
  obtain ⟨hI0, ⟨ta, pa, aT, aP, aS, aH, n9, hR⟩, hP, hY, hD, hS, hl⟩ := S
  have h4 := hR.1.1
  have hA : ∀ q : Nat, s.heap.size ≤ q → (fun q => s.heap.size ≤ q) q := fun _ h => h
  refine lv_aload_n hx hb dL_law_428 rfl (lv_at hl 1 rfl) ?_
  refine lv_aload_n hx hb dL_law_429 rfl (lv_at hl 0 rfl) ?_
  refine lv_iload hx hb dL_law_430 (lv_at hl 4 rfl) ?_
  refine lv_iconst (v := nI 1) hx hb dL_law_432 (by decide) ?_
  refine lv_iadd hx hb dL_law_433 ?_
  refine zasi (show ((nI (6 * k)) + (nI 1)) = nI (6 * k + 1) from nI_add _ _) ?_
  refine zsl hx hb hX hbl hL3 hS (show 6 * k + 1 < Ln by omega) e1 dL_law_434 ?_
  refine lv_aload_n hx hb dL_law_435 rfl (lv_at hl 0 rfl) ?_
  refine lv_iload hx hb dL_law_436 (lv_at hl 4 rfl) ?_
  refine lv_iconst (v := nI 2) hx hb dL_law_438 (by decide) ?_
  refine lv_iadd hx hb dL_law_439 ?_
  refine zasi (show ((nI (6 * k)) + (nI 2)) = nI (6 * k + 2) from nI_add _ _) ?_
  refine zsl hx hb hX hbl hL3 hS (show 6 * k + 2 < Ln by omega) e2 dL_law_440 ?_
  refine lv_if_eq (tgt := 448) hx hb dL_law_441 (by decide) (fun c_441 => ?_) (fun c_441 => ?_)
  · refine lv_iconst (v := nI 0) hx hb dL_law_448 (by decide) ?_
    refine zasi (show (nI 0) = bI bv from by rw [hbv, decide_eq_false (fun z => z c_441)]; rfl) ?_
    refine lv_aload_n hx hb dL_law_449 rfl (lv_at hl 3 rfl) ?_
    refine zgx (vx_runSX (As := [.ref h0, .int v1, .int (bI bv), .ref ob]) (rest := []) ⟨hx, hb, hml, hown, hts⟩ (hC H.size) (vx_cwSW (bytes := cL_subscribe) (maxL := 5) (ret := some .int) (hh := [(0, 17, 20, 20)]) 4 hts gL_law_L_subscribe rfl rfl rfl (by decide +kernel) ⟨Nat.le_of_ble_eq_true rfl, Nat.le_of_ble_eq_true rfl⟩) (zLS hP (w2_l hD) hE hN (lwZ hZ0 hS) (fun q h => Nat.le_trans hS.1 h)) rfl rfl hl.1 rfl (lv_room (Nat.le_of_ble_eq_true rfl)) dL_law_450 (by show _ ≤ 601024 ∧ _ ≤ 7293034; omega)) hP hY hS hA (fun H locs hP hY hS => ?_)
    refine lv_istore (lv' := [(5, .int r9), (0, .ref b), (1, .ref h0), (2, .ref hm), (3, .ref ob), (4, .int (nI (6 * k)))]) hx hb dL_law_453 hl (by decide) rfl (fun ls hl => ?_)
    refine lv_aload_n hx hb dL_law_455 rfl (lv_at hl 3 rfl) ?_
    refine lv_aload_n hx hb dL_law_456 rfl (lv_at hl 1 rfl) ?_
    refine lv_iload hx hb dL_law_457 (lv_at hl 5 rfl) ?_
    refine lv_iconst (v := nI 1) hx hb dL_law_459 (by decide) ?_
    refine lv_iadd hx hb dL_law_460 ?_
    refine zasi (show ((nI (6 * k)) + (nI 1)) = nI (6 * k + 1) from nI_add _ _) ?_
    refine zsl hx hb hX hbl hL3 hS (show 6 * k + 1 < Ln by omega) e1 dL_law_461 ?_
    refine lv_aload_n hx hb dL_law_462 rfl (lv_at hl 1 rfl) ?_
    refine lv_iload hx hb dL_law_463 (lv_at hl 5 rfl) ?_
    refine lv_iconst (v := nI 2) hx hb dL_law_465 (by decide) ?_
    refine lv_iadd hx hb dL_law_466 ?_
    refine zasi (show ((nI (6 * k)) + (nI 2)) = nI (6 * k + 2) from nI_add _ _) ?_
    refine zsl hx hb hX hbl hL3 hS (show 6 * k + 2 < Ln by omega) e2 dL_law_467 ?_
    refine lv_if_eq (tgt := 475) hx hb dL_law_468 (by decide) (fun c_468 => ?_) (fun c_468 => ?_)
    · refine lv_iconst (v := nI 0) hx hb dL_law_475 (by decide) ?_
      refine zasi (show (nI 0) = bI bv from by rw [hbv, decide_eq_false (fun z => z c_468)]; rfl) ?_
      refine zgm (va_runV (As := [.int v1, .int (bI bv)]) (rest := []) ⟨hx, hb, hml, hown, hts⟩ (hM H.size) (cwV 2 hts gL_law_X5_subscribe rfl rfl rfl (by decide +kernel) ⟨Nat.le_of_ble_eq_true rfl, Nat.le_of_ble_eq_true rfl⟩) (zmV (q0 := 0) (ci := 5) hY (w2_r hD) hE rfl rfl) rfl rfl hl.1 rfl (lv_room (Nat.le_of_ble_eq_true rfl)) dL_law_476 (by show _ ≤ 601024 ∧ _ ≤ 7293034; omega)) hP hD hS hA rfl (fun r H locs hr9b hP hY hD hS => ?_)
      refine lv_istore (lv' := [(6, .int r), (5, .int r9), (0, .ref b), (1, .ref h0), (2, .ref hm), (3, .ref ob), (4, .int (nI (6 * k)))]) hx hb dL_law_479 hl (by decide) rfl (fun ls hl => ?_)
      refine lv_aload_n hx hb dL_law_481 rfl (lv_at hl 4 rfl) ?_
      refine zci (va_runV (As := []) (rest := []) ⟨hx, hb, hml, hown, hts⟩ (m_thrown l D ca sa hm ad _ _ _ _ _ _) (cwV 0 hts gL_law_X5_thrown rfl rfl rfl (by decide +kernel) ⟨Nat.le_of_ble_eq_true rfl, Nat.le_of_ble_eq_true rfl⟩) (zpV (q0 := 0) (ci := 5) hY hE rfl rfl) rfl rfl hl.1 rfl (lv_room (Nat.le_of_ble_eq_true rfl)) dL_law_482 (by show _ ≤ 601024 ∧ _ ≤ 7293034; omega)) ?_
      refine lv_iload hx hb dL_law_485 (lv_at hl 1 rfl) ?_
      refine lv_icmp_eq (tgt := 492) hx hb dL_law_487 (by decide) (fun c_487 => ?_) (fun c_487 => ?_)
      · refine lv_iload hx hb dL_law_492 (lv_at hl 1 rfl) ?_
        refine lv_if_ne (tgt := 516) hx hb dL_law_494 (by decide) (fun c_494 => ?_) (fun c_494 => ?_)
        · refine lv_goto (tgt := 1551) hx hb dL_law_516 (by decide) ?_
          refine W.widen (k := cells + 24) (n := slots + 100) (by omega) (by omega) ?_
          exact kk V nc M _ _ _ _ H locs ls ⟨i_up hI0 hk, ⟨ta, pa, aT, aP, aS, aH, n9, zRep_up hR (Nat.le_succ k) (by omega)⟩, hP, hY, hD, hS, lv_sub hl [2, 3, 4, 5, 6] rfl⟩
        · exact absurd c_494 (by rcases hr9 with rfl | rfl <;> decide)
      · exact absurd rfl c_487
    · refine lv_iconst (v := nI 1) hx hb dL_law_471 (by decide) ?_
      refine zasi (show (nI 1) = bI bv from by rw [hbv, decide_eq_true c_468]; rfl) ?_
      refine lv_goto (tgt := 476) hx hb dL_law_472 (by decide) ?_
      refine zgm (va_runV (As := [.int v1, .int (bI bv)]) (rest := []) ⟨hx, hb, hml, hown, hts⟩ (hM H.size) (cwV 2 hts gL_law_X5_subscribe rfl rfl rfl (by decide +kernel) ⟨Nat.le_of_ble_eq_true rfl, Nat.le_of_ble_eq_true rfl⟩) (zmV (q0 := 0) (ci := 5) hY (w2_r hD) hE rfl rfl) rfl rfl hl.1 rfl (lv_room (Nat.le_of_ble_eq_true rfl)) dL_law_476 (by show _ ≤ 601024 ∧ _ ≤ 7293034; omega)) hP hD hS hA rfl (fun r H locs hr9b hP hY hD hS => ?_)
      refine lv_istore (lv' := [(6, .int r), (5, .int r9), (0, .ref b), (1, .ref h0), (2, .ref hm), (3, .ref ob), (4, .int (nI (6 * k)))]) hx hb dL_law_479 hl (by decide) rfl (fun ls hl => ?_)
      refine lv_aload_n hx hb dL_law_481 rfl (lv_at hl 4 rfl) ?_
      refine zci (va_runV (As := []) (rest := []) ⟨hx, hb, hml, hown, hts⟩ (m_thrown l D ca sa hm ad _ _ _ _ _ _) (cwV 0 hts gL_law_X5_thrown rfl rfl rfl (by decide +kernel) ⟨Nat.le_of_ble_eq_true rfl, Nat.le_of_ble_eq_true rfl⟩) (zpV (q0 := 0) (ci := 5) hY hE rfl rfl) rfl rfl hl.1 rfl (lv_room (Nat.le_of_ble_eq_true rfl)) dL_law_482 (by show _ ≤ 601024 ∧ _ ≤ 7293034; omega)) ?_
      refine lv_iload hx hb dL_law_485 (lv_at hl 1 rfl) ?_
      refine lv_icmp_eq (tgt := 492) hx hb dL_law_487 (by decide) (fun c_487 => ?_) (fun c_487 => ?_)
      · refine lv_iload hx hb dL_law_492 (lv_at hl 1 rfl) ?_
        refine lv_if_ne (tgt := 516) hx hb dL_law_494 (by decide) (fun c_494 => ?_) (fun c_494 => ?_)
        · refine lv_goto (tgt := 1551) hx hb dL_law_516 (by decide) ?_
          refine W.widen (k := cells + 24) (n := slots + 100) (by omega) (by omega) ?_
          exact kk V nc M _ _ _ _ H locs ls ⟨i_up hI0 hk, ⟨ta, pa, aT, aP, aS, aH, n9, zRep_up hR (Nat.le_succ k) (by omega)⟩, hP, hY, hD, hS, lv_sub hl [2, 3, 4, 5, 6] rfl⟩
        · exact absurd c_494 (by rcases hr9 with rfl | rfl <;> decide)
      · exact absurd rfl c_487
  · refine lv_iconst (v := nI 1) hx hb dL_law_444 (by decide) ?_
    refine zasi (show (nI 1) = bI bv from by rw [hbv, decide_eq_true c_441]; rfl) ?_
    refine lv_goto (tgt := 449) hx hb dL_law_445 (by decide) ?_
    refine lv_aload_n hx hb dL_law_449 rfl (lv_at hl 3 rfl) ?_
    refine zgx (vx_runSX (As := [.ref h0, .int v1, .int (bI bv), .ref ob]) (rest := []) ⟨hx, hb, hml, hown, hts⟩ (hC H.size) (vx_cwSW (bytes := cL_subscribe) (maxL := 5) (ret := some .int) (hh := [(0, 17, 20, 20)]) 4 hts gL_law_L_subscribe rfl rfl rfl (by decide +kernel) ⟨Nat.le_of_ble_eq_true rfl, Nat.le_of_ble_eq_true rfl⟩) (zLS hP (w2_l hD) hE hN (lwZ hZ0 hS) (fun q h => Nat.le_trans hS.1 h)) rfl rfl hl.1 rfl (lv_room (Nat.le_of_ble_eq_true rfl)) dL_law_450 (by show _ ≤ 601024 ∧ _ ≤ 7293034; omega)) hP hY hS hA (fun H locs hP hY hS => ?_)
    refine lv_istore (lv' := [(5, .int r9), (0, .ref b), (1, .ref h0), (2, .ref hm), (3, .ref ob), (4, .int (nI (6 * k)))]) hx hb dL_law_453 hl (by decide) rfl (fun ls hl => ?_)
    refine lv_aload_n hx hb dL_law_455 rfl (lv_at hl 3 rfl) ?_
    refine lv_aload_n hx hb dL_law_456 rfl (lv_at hl 1 rfl) ?_
    refine lv_iload hx hb dL_law_457 (lv_at hl 5 rfl) ?_
    refine lv_iconst (v := nI 1) hx hb dL_law_459 (by decide) ?_
    refine lv_iadd hx hb dL_law_460 ?_
    refine zasi (show ((nI (6 * k)) + (nI 1)) = nI (6 * k + 1) from nI_add _ _) ?_
    refine zsl hx hb hX hbl hL3 hS (show 6 * k + 1 < Ln by omega) e1 dL_law_461 ?_
    refine lv_aload_n hx hb dL_law_462 rfl (lv_at hl 1 rfl) ?_
    refine lv_iload hx hb dL_law_463 (lv_at hl 5 rfl) ?_
    refine lv_iconst (v := nI 2) hx hb dL_law_465 (by decide) ?_
    refine lv_iadd hx hb dL_law_466 ?_
    refine zasi (show ((nI (6 * k)) + (nI 2)) = nI (6 * k + 2) from nI_add _ _) ?_
    refine zsl hx hb hX hbl hL3 hS (show 6 * k + 2 < Ln by omega) e2 dL_law_467 ?_
    refine lv_if_eq (tgt := 475) hx hb dL_law_468 (by decide) (fun c_468 => ?_) (fun c_468 => ?_)
    · refine lv_iconst (v := nI 0) hx hb dL_law_475 (by decide) ?_
      refine zasi (show (nI 0) = bI bv from by rw [hbv, decide_eq_false (fun z => z c_468)]; rfl) ?_
      refine zgm (va_runV (As := [.int v1, .int (bI bv)]) (rest := []) ⟨hx, hb, hml, hown, hts⟩ (hM H.size) (cwV 2 hts gL_law_X5_subscribe rfl rfl rfl (by decide +kernel) ⟨Nat.le_of_ble_eq_true rfl, Nat.le_of_ble_eq_true rfl⟩) (zmV (q0 := 0) (ci := 5) hY (w2_r hD) hE rfl rfl) rfl rfl hl.1 rfl (lv_room (Nat.le_of_ble_eq_true rfl)) dL_law_476 (by show _ ≤ 601024 ∧ _ ≤ 7293034; omega)) hP hD hS hA rfl (fun r H locs hr9b hP hY hD hS => ?_)
      refine lv_istore (lv' := [(6, .int r), (5, .int r9), (0, .ref b), (1, .ref h0), (2, .ref hm), (3, .ref ob), (4, .int (nI (6 * k)))]) hx hb dL_law_479 hl (by decide) rfl (fun ls hl => ?_)
      refine lv_aload_n hx hb dL_law_481 rfl (lv_at hl 4 rfl) ?_
      refine zci (va_runV (As := []) (rest := []) ⟨hx, hb, hml, hown, hts⟩ (m_thrown l D ca sa hm ad _ _ _ _ _ _) (cwV 0 hts gL_law_X5_thrown rfl rfl rfl (by decide +kernel) ⟨Nat.le_of_ble_eq_true rfl, Nat.le_of_ble_eq_true rfl⟩) (zpV (q0 := 0) (ci := 5) hY hE rfl rfl) rfl rfl hl.1 rfl (lv_room (Nat.le_of_ble_eq_true rfl)) dL_law_482 (by show _ ≤ 601024 ∧ _ ≤ 7293034; omega)) ?_
      refine lv_iload hx hb dL_law_485 (lv_at hl 1 rfl) ?_
      refine lv_icmp_eq (tgt := 492) hx hb dL_law_487 (by decide) (fun c_487 => ?_) (fun c_487 => ?_)
      · refine lv_iload hx hb dL_law_492 (lv_at hl 1 rfl) ?_
        refine lv_if_ne (tgt := 516) hx hb dL_law_494 (by decide) (fun c_494 => ?_) (fun c_494 => ?_)
        · refine lv_goto (tgt := 1551) hx hb dL_law_516 (by decide) ?_
          refine W.widen (k := cells + 24) (n := slots + 100) (by omega) (by omega) ?_
          exact kk V nc M _ _ _ _ H locs ls ⟨i_up hI0 hk, ⟨ta, pa, aT, aP, aS, aH, n9, zRep_up hR (Nat.le_succ k) (by omega)⟩, hP, hY, hD, hS, lv_sub hl [2, 3, 4, 5, 6] rfl⟩
        · exact absurd c_494 (by rcases hr9 with rfl | rfl <;> decide)
      · exact absurd rfl c_487
    · refine lv_iconst (v := nI 1) hx hb dL_law_471 (by decide) ?_
      refine zasi (show (nI 1) = bI bv from by rw [hbv, decide_eq_true c_468]; rfl) ?_
      refine lv_goto (tgt := 476) hx hb dL_law_472 (by decide) ?_
      refine zgm (va_runV (As := [.int v1, .int (bI bv)]) (rest := []) ⟨hx, hb, hml, hown, hts⟩ (hM H.size) (cwV 2 hts gL_law_X5_subscribe rfl rfl rfl (by decide +kernel) ⟨Nat.le_of_ble_eq_true rfl, Nat.le_of_ble_eq_true rfl⟩) (zmV (q0 := 0) (ci := 5) hY (w2_r hD) hE rfl rfl) rfl rfl hl.1 rfl (lv_room (Nat.le_of_ble_eq_true rfl)) dL_law_476 (by show _ ≤ 601024 ∧ _ ≤ 7293034; omega)) hP hD hS hA rfl (fun r H locs hr9b hP hY hD hS => ?_)
      refine lv_istore (lv' := [(6, .int r), (5, .int r9), (0, .ref b), (1, .ref h0), (2, .ref hm), (3, .ref ob), (4, .int (nI (6 * k)))]) hx hb dL_law_479 hl (by decide) rfl (fun ls hl => ?_)
      refine lv_aload_n hx hb dL_law_481 rfl (lv_at hl 4 rfl) ?_
      refine zci (va_runV (As := []) (rest := []) ⟨hx, hb, hml, hown, hts⟩ (m_thrown l D ca sa hm ad _ _ _ _ _ _) (cwV 0 hts gL_law_X5_thrown rfl rfl rfl (by decide +kernel) ⟨Nat.le_of_ble_eq_true rfl, Nat.le_of_ble_eq_true rfl⟩) (zpV (q0 := 0) (ci := 5) hY hE rfl rfl) rfl rfl hl.1 rfl (lv_room (Nat.le_of_ble_eq_true rfl)) dL_law_482 (by show _ ≤ 601024 ∧ _ ≤ 7293034; omega)) ?_
      refine lv_iload hx hb dL_law_485 (lv_at hl 1 rfl) ?_
      refine lv_icmp_eq (tgt := 492) hx hb dL_law_487 (by decide) (fun c_487 => ?_) (fun c_487 => ?_)
      · refine lv_iload hx hb dL_law_492 (lv_at hl 1 rfl) ?_
        refine lv_if_ne (tgt := 516) hx hb dL_law_494 (by decide) (fun c_494 => ?_) (fun c_494 => ?_)
        · refine lv_goto (tgt := 1551) hx hb dL_law_516 (by decide) ?_
          refine W.widen (k := cells + 24) (n := slots + 100) (by omega) (by omega) ?_
          exact kk V nc M _ _ _ _ H locs ls ⟨i_up hI0 hk, ⟨ta, pa, aT, aP, aS, aH, n9, zRep_up hR (Nat.le_succ k) (by omega)⟩, hP, hY, hD, hS, lv_sub hl [2, 3, 4, 5, 6] rfl⟩
        · exact absurd c_494 (by rcases hr9 with rfl | rfl <;> decide)
      · exact absurd rfl c_487

set_option maxHeartbeats 4000000 in
set_option maxRecDepth 100000 in
theorem st_go_ok {p : Program} {l : Launch} {e : Env} {s : State} {m : MethodId} {below : List Frame} {meth : Method} {c : Code} {b Ln : Nat} {xs : Nat → Int32} {D : va_G} {ca : Nat → ClassId} {sa : Nat → Nat} (C : lw_C p l s m meth c b Ln xs D ca sa) {h0 hm ob : Nat} {ad : Nat → Nat} {k : Nat} {H : Heap} {locs : List Loc} {ls : Array Slot} {V : zV} {nc : Nat} {M : Nat → Nat → Int32} {th : Int32} {L : List Nat} {f : Nat → va_E} {g : Nat → Int64} (S : lw_S D ca s h0 hm ob b ad k (6 * k) H locs ls V nc M th L f g) (hk : k < 512) (hi : 6 * k + 6 ≤ Ln) {cells slots : Nat} {Q : State → Prop} (hroom : cells + 24 ≤ 601024 ∧ slots + 100 ≤ 7293034) {v1 v2 : Int32} (e1 : xs (6 * k + 1) = v1) (e2 : xs (6 * k + 2) = v2) {mc ms : Nat} (hmc : mc ≤ 24) (hms : ms ≤ 100) {V' : zV} {nc' : Nat} {M' : Nat → Nat → Int32} {P : Int64 → zU → Prop} (hP9 : ∀ x u, P x u → zR u.1 u.2 ca h0 (k + 1) V') (hI : Inv V' nc' M' (k + 1)) (hC : ∀ sz, vx_Met l yL_go wsL_go ({ frames := 10, cells := mc, slots := ms, locals := 450 }) (va_Pc [.ref h0, .int v1, .int v2] (zLp D L f ob g ca sa sz)) (va_Qi (fun (r : Int32) (u : zU × (Nat → Int64)) => r = nI 0 ∧ P (u.2 0) u.1) (fun u t => va_P D vwCl (oW ca ob u.2 ++ va_pl u.1.1 u.1.2) t.heap ∧ va_D (va_A (oW ca ob g ++ va_pl L f) sz) (oW ca ob u.2 ++ va_pl u.1.1 u.1.2)) (va_A (oW ca ob g ++ va_pl L f) sz)) zX0 mc ms (va_A (oW ca ob g ++ va_pl L f) sz)) (hM : ∀ sz, Met l yX5_go wsX5_go ({ frames := 9, cells := 0, slots := 0, locals := 360 }) (va_Pc [.ref hm, .int v1, .int v2] (zMp D (mW hm ad ca th (vTd V) (vNt V) (vNp V) nc M) ca sa sz)) (va_Qv (fun _ : Unit => True) (fun _ t9 => va_P D vwCl (mW hm ad ca (nI 0) (vTd V') (vNt V') (vNp V') nc' M') t9.heap) (va_A (mW hm ad ca th (vTd V) (vNt V) (vNp V) nc M) sz)) 0 0 (va_A (mW hm ad ca th (vTd V) (vNt V) (vNp V) nc M) sz)) (kk : ∀ (V' : zV) (nc' : Nat) (M' : Nat → Nat → Int32) (th' : Int32) (L' : List Nat) (f' : Nat → va_E) (g' : Nat → Int64) (H1 : Heap) (locs1 : List Loc) (ls1 : Array Slot), lw_S D ca s h0 hm ob b ad (k + 1) (6 * k) H1 locs1 ls1 V' nc' M' th' L' f' g' → W p l e room_1 s m #[Value.ref b] below meth c H1 locs1 (cells + 24) (slots + 100) Q (F0 m 1551 ls1 [])) : W p l e room_1 s m #[Value.ref b] below meth c H locs cells slots Q (F0 m 630 ls []) := by
  obtain ⟨⟨hx, hb, hml, hown, hts⟩, hX, hbl, hL3, hE, hN, hZ0, hl0⟩ := C
  obtain ⟨hI0, ⟨ta, pa, aT, aP, aS, aH, n9, hR⟩, hP, hY, hD, hS, hl⟩ := S
  have h4 := hR.1.1
  have hA : ∀ q : Nat, s.heap.size ≤ q → (fun q => s.heap.size ≤ q) q := fun _ h => h
  refine lv_aload_n hx hb dL_law_630 rfl (lv_at hl 1 rfl) ?_
  refine lv_aload_n hx hb dL_law_631 rfl (lv_at hl 0 rfl) ?_
  refine lv_iload hx hb dL_law_632 (lv_at hl 4 rfl) ?_
  refine lv_iconst (v := nI 1) hx hb dL_law_634 (by decide) ?_
  refine lv_iadd hx hb dL_law_635 ?_
  refine zasi (show ((nI (6 * k)) + (nI 1)) = nI (6 * k + 1) from nI_add _ _) ?_
  refine zsl hx hb hX hbl hL3 hS (show 6 * k + 1 < Ln by omega) e1 dL_law_636 ?_
  refine lv_aload_n hx hb dL_law_637 rfl (lv_at hl 0 rfl) ?_
  refine lv_iload hx hb dL_law_638 (lv_at hl 4 rfl) ?_
  refine lv_iconst (v := nI 2) hx hb dL_law_640 (by decide) ?_
  refine lv_iadd hx hb dL_law_641 ?_
  refine zasi (show ((nI (6 * k)) + (nI 2)) = nI (6 * k + 2) from nI_add _ _) ?_
  refine zsl hx hb hX hbl hL3 hS (show 6 * k + 2 < Ln by omega) e2 dL_law_642 ?_
  refine zgo (vx_runSX (As := [.ref h0, .int v1, .int v2]) (rest := []) ⟨hx, hb, hml, hown, hts⟩ (hC H.size) (vx_cwSW (bytes := cL_go) (maxL := 4) (ret := some .int) (hh := [(0, 6, 9, 20), (0, 6, 12, 15)]) 3 hts gL_law_L_go rfl rfl rfl (by decide +kernel) ⟨Nat.le_of_ble_eq_true rfl, Nat.le_of_ble_eq_true rfl⟩) (zLS hP (w2_l hD) hE hN (lwZ hZ0 hS) (fun q h => Nat.le_trans hS.1 h)) rfl rfl hl.1 rfl (lv_room (Nat.le_of_ble_eq_true rfl)) dL_law_643 (by show _ ≤ 601024 ∧ _ ≤ 7293034; omega)) hY hD hS hA (fun u g1 H locs hu hP hY hD hS => ?_)
  have hR9 := hP9 _ _ hu
  refine lv_istore (lv' := [(5, .int (nI 0)), (0, .ref b), (1, .ref h0), (2, .ref hm), (3, .ref ob), (4, .int (nI (6 * k)))]) hx hb dL_law_646 hl (by decide) rfl (fun ls hl => ?_)
  refine lv_aload_n hx hb dL_law_648 rfl (lv_at hl 3 rfl) ?_
  refine lv_aload_n hx hb dL_law_649 rfl (lv_at hl 1 rfl) ?_
  refine lv_iload hx hb dL_law_650 (lv_at hl 5 rfl) ?_
  refine lv_iconst (v := nI 1) hx hb dL_law_652 (by decide) ?_
  refine lv_iadd hx hb dL_law_653 ?_
  refine zasi (show ((nI (6 * k)) + (nI 1)) = nI (6 * k + 1) from nI_add _ _) ?_
  refine zsl hx hb hX hbl hL3 hS (show 6 * k + 1 < Ln by omega) e1 dL_law_654 ?_
  refine lv_aload_n hx hb dL_law_655 rfl (lv_at hl 1 rfl) ?_
  refine lv_iload hx hb dL_law_656 (lv_at hl 5 rfl) ?_
  refine lv_iconst (v := nI 2) hx hb dL_law_658 (by decide) ?_
  refine lv_iadd hx hb dL_law_659 ?_
  refine zasi (show ((nI (6 * k)) + (nI 2)) = nI (6 * k + 2) from nI_add _ _) ?_
  refine zsl hx hb hX hbl hL3 hS (show 6 * k + 2 < Ln by omega) e2 dL_law_660 ?_
  refine zgmv (va_runV (As := [.int v1, .int v2]) (rest := []) ⟨hx, hb, hml, hown, hts⟩ (hM H.size) (cwV 2 hts gL_law_X5_go rfl rfl rfl (by decide +kernel) ⟨Nat.le_of_ble_eq_true rfl, Nat.le_of_ble_eq_true rfl⟩) (zmV (q0 := 0) (ci := 5) hY (w2_r hD) hE rfl rfl) rfl rfl hl.1 rfl (lv_room (Nat.le_of_ble_eq_true rfl)) dL_law_661 (by show _ ≤ 601024 ∧ _ ≤ 7293034; omega)) hP hD hS hA rfl (fun H locs hP hY hD hS => ?_)
  refine lv_aload_n hx hb dL_law_664 rfl (lv_at hl 3 rfl) ?_
  refine zci (va_runV (As := []) (rest := []) ⟨hx, hb, hml, hown, hts⟩ (m_thrown l D ca sa hm ad _ _ _ _ _ _) (cwV 0 hts gL_law_X5_thrown rfl rfl rfl (by decide +kernel) ⟨Nat.le_of_ble_eq_true rfl, Nat.le_of_ble_eq_true rfl⟩) (zpV (q0 := 0) (ci := 5) hY hE rfl rfl) rfl rfl hl.1 rfl (lv_room (Nat.le_of_ble_eq_true rfl)) dL_law_665 (by show _ ≤ 601024 ∧ _ ≤ 7293034; omega)) ?_
  refine lv_iload hx hb dL_law_668 (lv_at hl 0 rfl) ?_
  refine lv_icmp_eq (tgt := 675) hx hb dL_law_670 (by decide) (fun c_670 => ?_) (fun c_670 => ?_)
  · refine lv_goto (tgt := 1551) hx hb dL_law_675 (by decide) ?_
    refine W.widen (k := cells + 24) (n := slots + 100) (by omega) (by omega) ?_
    exact kk V' nc' M' _ _ _ _ H locs ls ⟨hI, hR9, hP, hY, hD, hS, lv_sub hl [1, 2, 3, 4, 5] rfl⟩
  · exact absurd c_670 (by decide)

set_option maxHeartbeats 4000000 in
set_option maxRecDepth 100000 in
theorem st_go_x {p : Program} {l : Launch} {e : Env} {s : State} {m : MethodId} {below : List Frame} {meth : Method} {c : Code} {b Ln : Nat} {xs : Nat → Int32} {D : va_G} {ca : Nat → ClassId} {sa : Nat → Nat} (C : lw_C p l s m meth c b Ln xs D ca sa) {h0 hm ob : Nat} {ad : Nat → Nat} {k : Nat} {H : Heap} {locs : List Loc} {ls : Array Slot} {V : zV} {nc : Nat} {M : Nat → Nat → Int32} {th : Int32} {L : List Nat} {f : Nat → va_E} {g : Nat → Int64} (S : lw_S D ca s h0 hm ob b ad k (6 * k) H locs ls V nc M th L f g) (hk : k < 512) (hi : 6 * k + 6 ≤ Ln) {cells slots : Nat} {Q : State → Prop} (hroom : cells + 24 ≤ 601024 ∧ slots + 100 ≤ 7293034) {v1 v2 : Int32} (e1 : xs (6 * k + 1) = v1) (e2 : xs (6 * k + 2) = v2) {mc ms : Nat} (hmc : mc ≤ 24) (hms : ms ≤ 100) {r9 : Int32} (hr9 : r9 = nI 1 ∨ r9 = nI 2) (hC : ∀ sz, vx_Met l yL_go wsL_go ({ frames := 10, cells := mc, slots := ms, locals := 450 }) (va_Pc [.ref h0, .int v1, .int v2] (zLp D L f ob g ca sa sz)) (va_Qi (fun (r : Int32) (_ : Unit) => r = r9) (fun _ _ => True) (fun q => sz ≤ q)) zX0 mc ms (fun q => sz ≤ q)) (hM : ∀ sz, Met l yX5_go wsX5_go ({ frames := 9, cells := 0, slots := 0, locals := 360 }) (va_Pc [.ref hm, .int v1, .int v2] (zMp D (mW hm ad ca th (vTd V) (vNt V) (vNp V) nc M) ca sa sz)) (va_Qv (fun _ : Unit => True) (fun _ t9 => va_P D vwCl (mW hm ad ca r9 (vTd V) (vNt V) (vNp V) nc M) t9.heap) (va_A (mW hm ad ca th (vTd V) (vNt V) (vNp V) nc M) sz)) 0 0 (va_A (mW hm ad ca th (vTd V) (vNt V) (vNp V) nc M) sz)) (kk : ∀ (V' : zV) (nc' : Nat) (M' : Nat → Nat → Int32) (th' : Int32) (L' : List Nat) (f' : Nat → va_E) (g' : Nat → Int64) (H1 : Heap) (locs1 : List Loc) (ls1 : Array Slot), lw_S D ca s h0 hm ob b ad (k + 1) (6 * k) H1 locs1 ls1 V' nc' M' th' L' f' g' → W p l e room_1 s m #[Value.ref b] below meth c H1 locs1 (cells + 24) (slots + 100) Q (F0 m 1551 ls1 [])) : W p l e room_1 s m #[Value.ref b] below meth c H locs cells slots Q (F0 m 630 ls []) := by
  obtain ⟨⟨hx, hb, hml, hown, hts⟩, hX, hbl, hL3, hE, hN, hZ0, hl0⟩ := C
  obtain ⟨hI0, ⟨ta, pa, aT, aP, aS, aH, n9, hR⟩, hP, hY, hD, hS, hl⟩ := S
  have h4 := hR.1.1
  have hA : ∀ q : Nat, s.heap.size ≤ q → (fun q => s.heap.size ≤ q) q := fun _ h => h
  refine lv_aload_n hx hb dL_law_630 rfl (lv_at hl 1 rfl) ?_
  refine lv_aload_n hx hb dL_law_631 rfl (lv_at hl 0 rfl) ?_
  refine lv_iload hx hb dL_law_632 (lv_at hl 4 rfl) ?_
  refine lv_iconst (v := nI 1) hx hb dL_law_634 (by decide) ?_
  refine lv_iadd hx hb dL_law_635 ?_
  refine zasi (show ((nI (6 * k)) + (nI 1)) = nI (6 * k + 1) from nI_add _ _) ?_
  refine zsl hx hb hX hbl hL3 hS (show 6 * k + 1 < Ln by omega) e1 dL_law_636 ?_
  refine lv_aload_n hx hb dL_law_637 rfl (lv_at hl 0 rfl) ?_
  refine lv_iload hx hb dL_law_638 (lv_at hl 4 rfl) ?_
  refine lv_iconst (v := nI 2) hx hb dL_law_640 (by decide) ?_
  refine lv_iadd hx hb dL_law_641 ?_
  refine zasi (show ((nI (6 * k)) + (nI 2)) = nI (6 * k + 2) from nI_add _ _) ?_
  refine zsl hx hb hX hbl hL3 hS (show 6 * k + 2 < Ln by omega) e2 dL_law_642 ?_
  refine zgx (vx_runSX (As := [.ref h0, .int v1, .int v2]) (rest := []) ⟨hx, hb, hml, hown, hts⟩ (hC H.size) (vx_cwSW (bytes := cL_go) (maxL := 4) (ret := some .int) (hh := [(0, 6, 9, 20), (0, 6, 12, 15)]) 3 hts gL_law_L_go rfl rfl rfl (by decide +kernel) ⟨Nat.le_of_ble_eq_true rfl, Nat.le_of_ble_eq_true rfl⟩) (zLS hP (w2_l hD) hE hN (lwZ hZ0 hS) (fun q h => Nat.le_trans hS.1 h)) rfl rfl hl.1 rfl (lv_room (Nat.le_of_ble_eq_true rfl)) dL_law_643 (by show _ ≤ 601024 ∧ _ ≤ 7293034; omega)) hP hY hS hA (fun H locs hP hY hS => ?_)
  refine lv_istore (lv' := [(5, .int r9), (0, .ref b), (1, .ref h0), (2, .ref hm), (3, .ref ob), (4, .int (nI (6 * k)))]) hx hb dL_law_646 hl (by decide) rfl (fun ls hl => ?_)
  refine lv_aload_n hx hb dL_law_648 rfl (lv_at hl 3 rfl) ?_
  refine lv_aload_n hx hb dL_law_649 rfl (lv_at hl 1 rfl) ?_
  refine lv_iload hx hb dL_law_650 (lv_at hl 5 rfl) ?_
  refine lv_iconst (v := nI 1) hx hb dL_law_652 (by decide) ?_
  refine lv_iadd hx hb dL_law_653 ?_
  refine zasi (show ((nI (6 * k)) + (nI 1)) = nI (6 * k + 1) from nI_add _ _) ?_
  refine zsl hx hb hX hbl hL3 hS (show 6 * k + 1 < Ln by omega) e1 dL_law_654 ?_
  refine lv_aload_n hx hb dL_law_655 rfl (lv_at hl 1 rfl) ?_
  refine lv_iload hx hb dL_law_656 (lv_at hl 5 rfl) ?_
  refine lv_iconst (v := nI 2) hx hb dL_law_658 (by decide) ?_
  refine lv_iadd hx hb dL_law_659 ?_
  refine zasi (show ((nI (6 * k)) + (nI 2)) = nI (6 * k + 2) from nI_add _ _) ?_
  refine zsl hx hb hX hbl hL3 hS (show 6 * k + 2 < Ln by omega) e2 dL_law_660 ?_
  refine zgmv (va_runV (As := [.int v1, .int v2]) (rest := []) ⟨hx, hb, hml, hown, hts⟩ (hM H.size) (cwV 2 hts gL_law_X5_go rfl rfl rfl (by decide +kernel) ⟨Nat.le_of_ble_eq_true rfl, Nat.le_of_ble_eq_true rfl⟩) (zmV (q0 := 0) (ci := 5) hY (w2_r hD) hE rfl rfl) rfl rfl hl.1 rfl (lv_room (Nat.le_of_ble_eq_true rfl)) dL_law_661 (by show _ ≤ 601024 ∧ _ ≤ 7293034; omega)) hP hD hS hA rfl (fun H locs hP hY hD hS => ?_)
  refine lv_aload_n hx hb dL_law_664 rfl (lv_at hl 3 rfl) ?_
  refine zci (va_runV (As := []) (rest := []) ⟨hx, hb, hml, hown, hts⟩ (m_thrown l D ca sa hm ad _ _ _ _ _ _) (cwV 0 hts gL_law_X5_thrown rfl rfl rfl (by decide +kernel) ⟨Nat.le_of_ble_eq_true rfl, Nat.le_of_ble_eq_true rfl⟩) (zpV (q0 := 0) (ci := 5) hY hE rfl rfl) rfl rfl hl.1 rfl (lv_room (Nat.le_of_ble_eq_true rfl)) dL_law_665 (by show _ ≤ 601024 ∧ _ ≤ 7293034; omega)) ?_
  refine lv_iload hx hb dL_law_668 (lv_at hl 0 rfl) ?_
  refine lv_icmp_eq (tgt := 675) hx hb dL_law_670 (by decide) (fun c_670 => ?_) (fun c_670 => ?_)
  · refine lv_goto (tgt := 1551) hx hb dL_law_675 (by decide) ?_
    refine W.widen (k := cells + 24) (n := slots + 100) (by omega) (by omega) ?_
    exact kk V nc M _ _ _ _ H locs ls ⟨i_up hI0 hk, ⟨ta, pa, aT, aP, aS, aH, n9, zRep_up hR (Nat.le_succ k) (by omega)⟩, hP, hY, hD, hS, lv_sub hl [1, 2, 3, 4, 5] rfl⟩
  · exact absurd rfl c_670
