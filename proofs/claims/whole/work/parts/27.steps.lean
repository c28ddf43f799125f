/-! the law: one call of the script, from its case to the next -/
def lw_C (p : Program) (l : Launch) (s : State) (m : MethodId) (meth : Method) (c : Code) (b Ln : Nat) (xs : Nat → Int32) (D : va_G) (ca : Nat → ClassId) (sa : Nat → Nat) : Prop :=
  (p.tables.exec = Jvm.exec ∧ c.code = cL_law ∧ c.maxLocals = 7 ∧ s.vm.findClass RL = some m.cls ∧ ∀ w ∈ wsL_law, w.before #[Value.ref b] s = true) ∧ va_X b Ln xs s s.heap ∧ b < s.heap.size ∧ Ln ≤ 3072 ∧ zE D ca sa s ∧ zN s ∧ zZ (fun q => s.heap.size ≤ q) s s.heap ∧ l.stackTraces = false
def lw_S (D : va_G) (ca : Nat → ClassId) (s : State) (h0 hm ob b : Nat) (ad : Nat → Nat) (k i : Nat) (H : Heap) (locs : List Loc) (ls : Array Slot) (V : zV) (nc : Nat) (M : Nat → Nat → Int32) (th : Int32) (L : List Nat) (f : Nat → va_E) (g : Nat → Int64) : Prop :=
  Inv V nc M k ∧ zR L f ca h0 k V ∧ va_P D vwCl (oW ca ob g ++ va_pl L f) H ∧ va_P D vwCl (mW hm ad ca th (vTd V) (vNt V) (vNp V) nc M) H ∧ va_D (fun q => s.heap.size ≤ q) ((oW ca ob g ++ va_pl L f) ++ mW hm ad ca th (vTd V) (vNt V) (vNp V) nc M) ∧ va_S (fun q => s.heap.size ≤ q) s.heap H locs ∧ lv_has ls 7 [(0, .ref b), (1, .ref h0), (2, .ref hm), (3, .ref ob), (4, .int (nI i))]
theorem zcmp (x : Int64) : lg_cmp x x = nI 0 := by
  unfold lg_cmp
  simp
  rfl
theorem lwZ {s : State} {H : Heap} {locs : List Loc} (hZ : zZ (fun q => s.heap.size ≤ q) s s.heap) (hS : va_S (fun q => s.heap.size ≤ q) s.heap H locs) : zZ (fun q => s.heap.size ≤ q) s H := zZ.to (Vm.Alike.refl s.vm) (fun a h1 h2 => hS.2.1 a h1 h2) (fun _ h => h) hZ
section ZH
variable {p : Program} {l : Launch} {e : Env} {R : Room} {s : State} {m : MethodId} {args : Array Value} {below : List Frame} {meth : Method} {c : Code} {H : Heap} {locs : List Loc} {cells slots : Nat} {Q : State → Prop}
variable {cc : ByteArray} {pc : Nat} {ls : Array Slot} {rest : List Value} {D : va_G} {L : List Nat} {f : Nat → va_E} {ca : Nat → ClassId} {sa : Nat → Nat} {ob b Ln : Nat} {xs : Nat → Int32} {g : Nat → Int64}
theorem zsl (hexec : p.tables.exec = Jvm.exec) (hb : c.code = cc) (hX : va_X b Ln xs s s.heap) (hbl : b < s.heap.size) (hL : Ln ≤ 3072) (hS : va_S (fun q => s.heap.size ≤ q) s.heap H locs) {j : Nat} (hj : j < Ln) {v : Int32} (hv : xs j = v) (hdg : decode cc pc = .ok (.iaload, 1)) (kk : W p l e R s m args below meth c H locs cells slots Q (F0 m (pc + 1) ls (.int v :: rest))) : W p l e R s m args below meth c H locs cells slots Q (F0 m pc ls (.int (nI j) :: .ref b :: rest)) := by
  refine va_sld hexec hb hX hbl (Nat.not_le.mpr hbl) hS (vp_in_nI hj (by omega)) hdg ?_
  rw [nI_clamp (by omega), hv]
  exact kk
theorem zol (hexec : p.tables.exec = Jvm.exec) (hb : c.code = cc) (hE : zE D ca sa s) (hP : va_P D vwCl (oW ca ob g ++ va_pl L f) H) {v : Int64} (hv : g 0 = v) (hdg : decode cc pc = .ok (.laload, 1)) (kk : W p l e R s m args below meth c H locs cells slots Q (F0 m (pc + 1) ls (.long v :: rest))) : W p l e R s m args below meth c H locs cells slots Q (F0 m pc ls (.int (nI 0) :: .ref ob :: rest)) := by
  refine va_lald hexec hb hE.1 hP 0 5 rfl rfl (vp_in_nI (by decide) (by decide)) hdg ?_
  rw [nI_clamp (by omega), hv]
  exact kk
end ZH

set_option maxHeartbeats 4000000 in
set_option maxRecDepth 100000 in
theorem st_addTitle_ok {p : Program} {l : Launch} {e : Env} {s : State} {m : MethodId} {below : List Frame} {meth : Method} {c : Code} {b Ln : Nat} {xs : Nat → Int32} {D : va_G} {ca : Nat → ClassId} {sa : Nat → Nat} (C : lw_C p l s m meth c b Ln xs D ca sa) {h0 hm ob : Nat} {ad : Nat → Nat} {k : Nat} {H : Heap} {locs : List Loc} {ls : Array Slot} {V : zV} {nc : Nat} {M : Nat → Nat → Int32} {th : Int32} {L : List Nat} {f : Nat → va_E} {g : Nat → Int64} (S : lw_S D ca s h0 hm ob b ad k (6 * k) H locs ls V nc M th L f g) (hk : k < 512) (hi : 6 * k + 6 ≤ Ln) {cells slots : Nat} {Q : State → Prop} (hroom : cells + 24 ≤ 601024 ∧ slots + 100 ≤ 7293034) {v1 v2 : Int32} (e1 : xs (6 * k + 1) = v1) (e2 : xs (6 * k + 2) = v2) {mc ms : Nat} (hmc : mc ≤ 24) (hms : ms ≤ 100) {V' : zV} {nc' : Nat} {M' : Nat → Nat → Int32} {P : Int64 → zU → Prop} {val : Int32} (hP9 : ∀ x u, P x u → x = val.toInt64 ∧ zR u.1 u.2 ca h0 (k + 1) V') (hI : Inv V' nc' M' (k + 1)) (hC : ∀ sz, vx_Met l yL_addTitle wsL_addTitle ({ frames := 10, cells := mc, slots := ms, locals := 450 }) (va_Pc [.ref h0, .int v1, .int v2, .ref ob] (zLp D L f ob g ca sa sz)) (va_Qi (fun (r : Int32) (u : zU × (Nat → Int64)) => r = nI 0 ∧ P (u.2 0) u.1) (fun u t => va_P D vwCl (oW ca ob u.2 ++ va_pl u.1.1 u.1.2) t.heap ∧ va_D (va_A (oW ca ob g ++ va_pl L f) sz) (oW ca ob u.2 ++ va_pl u.1.1 u.1.2)) (va_A (oW ca ob g ++ va_pl L f) sz)) zX0 mc ms (va_A (oW ca ob g ++ va_pl L f) sz)) (hM : ∀ sz, Met l yX5_addTitle wsX5_addTitle ({ frames := 9, cells := 0, slots := 0, locals := 360 }) (va_Pc [.ref hm, .int v1, .int v2] (zMp D (mW hm ad ca th (vTd V) (vNt V) (vNp V) nc M) ca sa sz)) (va_Qi (fun (r : Int32) (_ : Unit) => r = val) (fun _ t9 => va_P D vwCl (mW hm ad ca (nI 0) (vTd V') (vNt V') (vNp V') nc' M') t9.heap) (va_A (mW hm ad ca th (vTd V) (vNt V) (vNp V) nc M) sz)) 0 0 (va_A (mW hm ad ca th (vTd V) (vNt V) (vNp V) nc M) sz)) (kk : ∀ (V' : zV) (nc' : Nat) (M' : Nat → Nat → Int32) (th' : Int32) (L' : List Nat) (f' : Nat → va_E) (g' : Nat → Int64) (H1 : Heap) (locs1 : List Loc) (ls1 : Array Slot), lw_S D ca s h0 hm ob b ad (k + 1) (6 * k) H1 locs1 ls1 V' nc' M' th' L' f' g' → W p l e room_1 s m #[Value.ref b] below meth c H1 locs1 (cells + 24) (slots + 100) Q (F0 m 1551 ls1 [])) : W p l e room_1 s m #[Value.ref b] below meth c H locs cells slots Q (F0 m 132 ls []) := by
  obtain ⟨⟨hx, hb, hml, hown, hts⟩, hX, hbl, hL3, hE, hN, hZ0, hl0⟩ := C
  obtain ⟨hI0, ⟨ta, pa, aT, aP, aS, aH, n9, hR⟩, hP, hY, hD, hS, hl⟩ := S
  have h4 := hR.1.1
  have hA : ∀ q : Nat, s.heap.size ≤ q → (fun q => s.heap.size ≤ q) q := fun _ h => h
  refine lv_aload_n hx hb dL_law_132 rfl (lv_at hl 1 rfl) ?_
  refine lv_aload_n hx hb dL_law_133 rfl (lv_at hl 0 rfl) ?_
  refine lv_iload hx hb dL_law_134 (lv_at hl 4 rfl) ?_
  refine lv_iconst (v := nI 1) hx hb dL_law_136 (by decide) ?_
  refine lv_iadd hx hb dL_law_137 ?_
  refine zasi (show ((nI (6 * k)) + (nI 1)) = nI (6 * k + 1) from nI_add _ _) ?_
  refine zsl hx hb hX hbl hL3 hS (show 6 * k + 1 < Ln by omega) e1 dL_law_138 ?_
  refine lv_aload_n hx hb dL_law_139 rfl (lv_at hl 0 rfl) ?_
  refine lv_iload hx hb dL_law_140 (lv_at hl 4 rfl) ?_
  refine lv_iconst (v := nI 2) hx hb dL_law_142 (by decide) ?_
  refine lv_iadd hx hb dL_law_143 ?_
  refine zasi (show ((nI (6 * k)) + (nI 2)) = nI (6 * k + 2) from nI_add _ _) ?_
  refine zsl hx hb hX hbl hL3 hS (show 6 * k + 2 < Ln by omega) e2 dL_law_144 ?_
  refine lv_aload_n hx hb dL_law_145 rfl (lv_at hl 3 rfl) ?_
  refine zgo (vx_runSX (As := [.ref h0, .int v1, .int v2, .ref ob]) (rest := []) ⟨hx, hb, hml, hown, hts⟩ (hC H.size) (vx_cwSW (bytes := cL_addTitle) (maxL := 5) (ret := some .int) (hh := [(0, 10, 13, 13), (0, 10, 17, 15)]) 4 hts gL_law_L_addTitle rfl rfl rfl (by decide +kernel) ⟨Nat.le_of_ble_eq_true rfl, Nat.le_of_ble_eq_true rfl⟩) (zLS hP (w2_l hD) hE hN (lwZ hZ0 hS) (fun q h => Nat.le_trans hS.1 h)) rfl rfl hl.1 rfl (lv_room (Nat.le_of_ble_eq_true rfl)) dL_law_146 (by show _ ≤ 601024 ∧ _ ≤ 7293034; omega)) hY hD hS hA (fun u g1 H locs hu hP hY hD hS => ?_)
  obtain ⟨hv9, hR9⟩ := hP9 _ _ hu
  refine lv_istore (lv' := [(5, .int (nI 0)), (0, .ref b), (1, .ref h0), (2, .ref hm), (3, .ref ob), (4, .int (nI (6 * k)))]) hx hb dL_law_149 hl (by decide) rfl (fun ls hl => ?_)
  refine lv_aload_n hx hb dL_law_151 rfl (lv_at hl 3 rfl) ?_
  refine lv_aload_n hx hb dL_law_152 rfl (lv_at hl 1 rfl) ?_
  refine lv_iload hx hb dL_law_153 (lv_at hl 5 rfl) ?_
  refine lv_iconst (v := nI 1) hx hb dL_law_155 (by decide) ?_
  refine lv_iadd hx hb dL_law_156 ?_
  refine zasi (show ((nI (6 * k)) + (nI 1)) = nI (6 * k + 1) from nI_add _ _) ?_
  refine zsl hx hb hX hbl hL3 hS (show 6 * k + 1 < Ln by omega) e1 dL_law_157 ?_
  refine lv_aload_n hx hb dL_law_158 rfl (lv_at hl 1 rfl) ?_
  refine lv_iload hx hb dL_law_159 (lv_at hl 5 rfl) ?_
  refine lv_iconst (v := nI 2) hx hb dL_law_161 (by decide) ?_
  refine lv_iadd hx hb dL_law_162 ?_
  refine zasi (show ((nI (6 * k)) + (nI 2)) = nI (6 * k + 2) from nI_add _ _) ?_
  refine zsl hx hb hX hbl hL3 hS (show 6 * k + 2 < Ln by omega) e2 dL_law_163 ?_
  refine zgm (va_runV (As := [.int v1, .int v2]) (rest := []) ⟨hx, hb, hml, hown, hts⟩ (hM H.size) (cwV 2 hts gL_law_X5_addTitle rfl rfl rfl (by decide +kernel) ⟨Nat.le_of_ble_eq_true rfl, Nat.le_of_ble_eq_true rfl⟩) (zmV (q0 := 0) (ci := 5) hY (w2_r hD) hE rfl rfl) rfl rfl hl.1 rfl (lv_room (Nat.le_of_ble_eq_true rfl)) dL_law_164 (by show _ ≤ 601024 ∧ _ ≤ 7293034; omega)) hP hD hS hA rfl (fun r H locs hr9b hP hY hD hS => ?_)
  rw [show r = val from hr9b]
  refine lv_istore (lv' := [(6, .int val), (5, .int (nI 0)), (0, .ref b), (1, .ref h0), (2, .ref hm), (3, .ref ob), (4, .int (nI (6 * k)))]) hx hb dL_law_167 hl (by decide) rfl (fun ls hl => ?_)
  refine lv_aload_n hx hb dL_law_169 rfl (lv_at hl 4 rfl) ?_
  refine zci (va_runV (As := []) (rest := []) ⟨hx, hb, hml, hown, hts⟩ (m_thrown l D ca sa hm ad _ _ _ _ _ _) (cwV 0 hts gL_law_X5_thrown rfl rfl rfl (by decide +kernel) ⟨Nat.le_of_ble_eq_true rfl, Nat.le_of_ble_eq_true rfl⟩) (zpV (q0 := 0) (ci := 5) hY hE rfl rfl) rfl rfl hl.1 rfl (lv_room (Nat.le_of_ble_eq_true rfl)) dL_law_170 (by show _ ≤ 601024 ∧ _ ≤ 7293034; omega)) ?_
  refine lv_iload hx hb dL_law_173 (lv_at hl 1 rfl) ?_
  refine lv_icmp_eq (tgt := 180) hx hb dL_law_175 (by decide) (fun c_175 => ?_) (fun c_175 => ?_)
  · refine lv_iload hx hb dL_law_180 (lv_at hl 1 rfl) ?_
    refine lv_if_ne (tgt := 197) hx hb dL_law_182 (by decide) (fun c_182 => ?_) (fun c_182 => ?_)
    · exact absurd c_182 (by decide)
    · refine lv_aload_n hx hb dL_law_185 rfl (lv_at hl 5 rfl) ?_
      refine lv_iconst (v := nI 0) hx hb dL_law_186 (by decide) ?_
      refine zol hx hb hE hP hv9 dL_law_187 ?_
      refine lv_iload hx hb dL_law_188 (lv_at hl 0 rfl) ?_
      refine lv_i2l hx hb dL_law_190 rfl ?_
      refine W.lcmp hx hb dL_law_191 ?_
      refine zasi (show (lg_cmp (val.toInt64) (val.toInt64)) = nI 0 from zcmp _) ?_
      refine lv_if_eq (tgt := 197) hx hb dL_law_192 (by decide) (fun c_192 => ?_) (fun c_192 => ?_)
      · refine lv_goto (tgt := 1551) hx hb dL_law_197 (by decide) ?_
        refine W.widen (k := cells + 24) (n := slots + 100) (by omega) (by omega) ?_
        exact kk V' nc' M' _ _ _ _ H locs ls ⟨hI, hR9, hP, hY, hD, hS, lv_sub hl [2, 3, 4, 5, 6] rfl⟩
      · exact absurd c_192 (by decide)
  · exact absurd c_175 (by decide)

set_option maxHeartbeats 4000000 in
set_option maxRecDepth 100000 in
theorem st_addTitle_x {p : Program} {l : Launch} {e : Env} {s : State} {m : MethodId} {below : List Frame} {meth : Method} {c : Code} {b Ln : Nat} {xs : Nat → Int32} {D : va_G} {ca : Nat → ClassId} {sa : Nat → Nat} (C : lw_C p l s m meth c b Ln xs D ca sa) {h0 hm ob : Nat} {ad : Nat → Nat} {k : Nat} {H : Heap} {locs : List Loc} {ls : Array Slot} {V : zV} {nc : Nat} {M : Nat → Nat → Int32} {th : Int32} {L : List Nat} {f : Nat → va_E} {g : Nat → Int64} (S : lw_S D ca s h0 hm ob b ad k (6 * k) H locs ls V nc M th L f g) (hk : k < 512) (hi : 6 * k + 6 ≤ Ln) {cells slots : Nat} {Q : State → Prop} (hroom : cells + 24 ≤ 601024 ∧ slots + 100 ≤ 7293034) {v1 v2 : Int32} (e1 : xs (6 * k + 1) = v1) (e2 : xs (6 * k + 2) = v2) {mc ms : Nat} (hmc : mc ≤ 24) (hms : ms ≤ 100) {r9 : Int32} (hr9 : r9 = nI 1 ∨ r9 = nI 2) (hC : ∀ sz, vx_Met l yL_addTitle wsL_addTitle ({ frames := 10, cells := mc, slots := ms, locals := 450 }) (va_Pc [.ref h0, .int v1, .int v2, .ref ob] (zLp D L f ob g ca sa sz)) (va_Qi (fun (r : Int32) (_ : Unit) => r = r9) (fun _ _ => True) (fun q => sz ≤ q)) zX0 mc ms (fun q => sz ≤ q)) (hM : ∀ sz, Met l yX5_addTitle wsX5_addTitle ({ frames := 9, cells := 0, slots := 0, locals := 360 }) (va_Pc [.ref hm, .int v1, .int v2] (zMp D (mW hm ad ca th (vTd V) (vNt V) (vNp V) nc M) ca sa sz)) (va_Qi (fun (r : Int32) (_ : Unit) => True) (fun _ t9 => va_P D vwCl (mW hm ad ca r9 (vTd V) (vNt V) (vNp V) nc M) t9.heap) (va_A (mW hm ad ca th (vTd V) (vNt V) (vNp V) nc M) sz)) 0 0 (va_A (mW hm ad ca th (vTd V) (vNt V) (vNp V) nc M) sz)) (kk : ∀ (V' : zV) (nc' : Nat) (M' : Nat → Nat → Int32) (th' : Int32) (L' : List Nat) (f' : Nat → va_E) (g' : Nat → Int64) (H1 : Heap) (locs1 : List Loc) (ls1 : Array Slot), lw_S D ca s h0 hm ob b ad (k + 1) (6 * k) H1 locs1 ls1 V' nc' M' th' L' f' g' → W p l e room_1 s m #[Value.ref b] below meth c H1 locs1 (cells + 24) (slots + 100) Q (F0 m 1551 ls1 [])) : W p l e room_1 s m #[Value.ref b] below meth c H locs cells slots Q (F0 m 132 ls []) := by
  obtain ⟨⟨hx, hb, hml, hown, hts⟩, hX, hbl, hL3, hE, hN, hZ0, hl0⟩ := C
  obtain ⟨hI0, ⟨ta, pa, aT, aP, aS, aH, n9, hR⟩, hP, hY, hD, hS, hl⟩ := S
  have h4 := hR.1.1
  have hA : ∀ q : Nat, s.heap.size ≤ q → (fun q => s.heap.size ≤ q) q := fun _ h => h
  refine lv_aload_n hx hb dL_law_132 rfl (lv_at hl 1 rfl) ?_
  refine lv_aload_n hx hb dL_law_133 rfl (lv_at hl 0 rfl) ?_
  refine lv_iload hx hb dL_law_134 (lv_at hl 4 rfl) ?_
  refine lv_iconst (v := nI 1) hx hb dL_law_136 (by decide) ?_
  refine lv_iadd hx hb dL_law_137 ?_
  refine zasi (show ((nI (6 * k)) + (nI 1)) = nI (6 * k + 1) from nI_add _ _) ?_
  refine zsl hx hb hX hbl hL3 hS (show 6 * k + 1 < Ln by omega) e1 dL_law_138 ?_
  refine lv_aload_n hx hb dL_law_139 rfl (lv_at hl 0 rfl) ?_
  refine lv_iload hx hb dL_law_140 (lv_at hl 4 rfl) ?_
  refine lv_iconst (v := nI 2) hx hb dL_law_142 (by decide) ?_
  refine lv_iadd hx hb dL_law_143 ?_
  refine zasi (show ((nI (6 * k)) + (nI 2)) = nI (6 * k + 2) from nI_add _ _) ?_
  refine zsl hx hb hX hbl hL3 hS (show 6 * k + 2 < Ln by omega) e2 dL_law_144 ?_
  refine lv_aload_n hx hb dL_law_145 rfl (lv_at hl 3 rfl) ?_
  refine zgx (vx_runSX (As := [.ref h0, .int v1, .int v2, .ref ob]) (rest := []) ⟨hx, hb, hml, hown, hts⟩ (hC H.size) (vx_cwSW (bytes := cL_addTitle) (maxL := 5) (ret := some .int) (hh := [(0, 10, 13, 13), (0, 10, 17, 15)]) 4 hts gL_law_L_addTitle rfl rfl rfl (by decide +kernel) ⟨Nat.le_of_ble_eq_true rfl, Nat.le_of_ble_eq_true rfl⟩) (zLS hP (w2_l hD) hE hN (lwZ hZ0 hS) (fun q h => Nat.le_trans hS.1 h)) rfl rfl hl.1 rfl (lv_room (Nat.le_of_ble_eq_true rfl)) dL_law_146 (by show _ ≤ 601024 ∧ _ ≤ 7293034; omega)) hP hY hS hA (fun H locs hP hY hS => ?_)
  refine lv_istore (lv' := [(5, .int r9), (0, .ref b), (1, .ref h0), (2, .ref hm), (3, .ref ob), (4, .int (nI (6 * k)))]) hx hb dL_law_149 hl (by decide) rfl (fun ls hl => ?_)
  refine lv_aload_n hx hb dL_law_151 rfl (lv_at hl 3 rfl) ?_
  refine lv_aload_n hx hb dL_law_152 rfl (lv_at hl 1 rfl) ?_
  refine lv_iload hx hb dL_law_153 (lv_at hl 5 rfl) ?_
  refine lv_iconst (v := nI 1) hx hb dL_law_155 (by decide) ?_
  refine lv_iadd hx hb dL_law_156 ?_
  refine zasi (show ((nI (6 * k)) + (nI 1)) = nI (6 * k + 1) from nI_add _ _) ?_
  refine zsl hx hb hX hbl hL3 hS (show 6 * k + 1 < Ln by omega) e1 dL_law_157 ?_
  refine lv_aload_n hx hb dL_law_158 rfl (lv_at hl 1 rfl) ?_
  refine lv_iload hx hb dL_law_159 (lv_at hl 5 rfl) ?_
  refine lv_iconst (v := nI 2) hx hb dL_law_161 (by decide) ?_
  refine lv_iadd hx hb dL_law_162 ?_
  refine zasi (show ((nI (6 * k)) + (nI 2)) = nI (6 * k + 2) from nI_add _ _) ?_
  refine zsl hx hb hX hbl hL3 hS (show 6 * k + 2 < Ln by omega) e2 dL_law_163 ?_
  refine zgm (va_runV (As := [.int v1, .int v2]) (rest := []) ⟨hx, hb, hml, hown, hts⟩ (hM H.size) (cwV 2 hts gL_law_X5_addTitle rfl rfl rfl (by decide +kernel) ⟨Nat.le_of_ble_eq_true rfl, Nat.le_of_ble_eq_true rfl⟩) (zmV (q0 := 0) (ci := 5) hY (w2_r hD) hE rfl rfl) rfl rfl hl.1 rfl (lv_room (Nat.le_of_ble_eq_true rfl)) dL_law_164 (by show _ ≤ 601024 ∧ _ ≤ 7293034; omega)) hP hD hS hA rfl (fun r H locs hr9b hP hY hD hS => ?_)
  refine lv_istore (lv' := [(6, .int r), (5, .int r9), (0, .ref b), (1, .ref h0), (2, .ref hm), (3, .ref ob), (4, .int (nI (6 * k)))]) hx hb dL_law_167 hl (by decide) rfl (fun ls hl => ?_)
  refine lv_aload_n hx hb dL_law_169 rfl (lv_at hl 4 rfl) ?_
  refine zci (va_runV (As := []) (rest := []) ⟨hx, hb, hml, hown, hts⟩ (m_thrown l D ca sa hm ad _ _ _ _ _ _) (cwV 0 hts gL_law_X5_thrown rfl rfl rfl (by decide +kernel) ⟨Nat.le_of_ble_eq_true rfl, Nat.le_of_ble_eq_true rfl⟩) (zpV (q0 := 0) (ci := 5) hY hE rfl rfl) rfl rfl hl.1 rfl (lv_room (Nat.le_of_ble_eq_true rfl)) dL_law_170 (by show _ ≤ 601024 ∧ _ ≤ 7293034; omega)) ?_
  refine lv_iload hx hb dL_law_173 (lv_at hl 1 rfl) ?_
  refine lv_icmp_eq (tgt := 180) hx hb dL_law_175 (by decide) (fun c_175 => ?_) (fun c_175 => ?_)
  · refine lv_iload hx hb dL_law_180 (lv_at hl 1 rfl) ?_
    refine lv_if_ne (tgt := 197) hx hb dL_law_182 (by decide) (fun c_182 => ?_) (fun c_182 => ?_)
    · refine lv_goto (tgt := 1551) hx hb dL_law_197 (by decide) ?_
      refine W.widen (k := cells + 24) (n := slots + 100) (by omega) (by omega) ?_
      exact kk V nc M _ _ _ _ H locs ls ⟨i_up hI0 hk, ⟨ta, pa, aT, aP, aS, aH, n9, zRep_up hR (Nat.le_succ k) (by omega)⟩, hP, hY, hD, hS, lv_sub hl [2, 3, 4, 5, 6] rfl⟩
    · exact absurd c_182 (by rcases hr9 with rfl | rfl <;> decide)
  · exact absurd rfl c_175

set_option maxHeartbeats 4000000 in
set_option maxRecDepth 100000 in
theorem st_yearOf_ok {p : Program} {l : Launch} {e : Env} {s : State} {m : MethodId} {below : List Frame} {meth : Method} {c : Code} {b Ln : Nat} {xs : Nat → Int32} {D : va_G} {ca : Nat → ClassId} {sa : Nat → Nat} (C : lw_C p l s m meth c b Ln xs D ca sa) {h0 hm ob : Nat} {ad : Nat → Nat} {k : Nat} {H : Heap} {locs : List Loc} {ls : Array Slot} {V : zV} {nc : Nat} {M : Nat → Nat → Int32} {th : Int32} {L : List Nat} {f : Nat → va_E} {g : Nat → Int64} (S : lw_S D ca s h0 hm ob b ad k (6 * k) H locs ls V nc M th L f g) (hk : k < 512) (hi : 6 * k + 6 ≤ Ln) {cells slots : Nat} {Q : State → Prop} (hroom : cells + 24 ≤ 601024 ∧ slots + 100 ≤ 7293034) {v1 v2 : Int32} (e1 : xs (6 * k + 1) = v1) (e2 : xs (6 * k + 2) = v2) {mc ms : Nat} (hmc : mc ≤ 24) (hms : ms ≤ 100) {V' : zV} {nc' : Nat} {M' : Nat → Nat → Int32} {P : Int64 → zU → Prop} {val : Int32} (hP9 : ∀ x u, P x u → x = val.toInt64 ∧ zR u.1 u.2 ca h0 (k + 1) V') (hI : Inv V' nc' M' (k + 1)) (hC : ∀ sz, vx_Met l yL_yearOf wsL_yearOf ({ frames := 10, cells := mc, slots := ms, locals := 450 }) (va_Pc [.ref h0, .int v1, .int v2, .ref ob] (zLp D L f ob g ca sa sz)) (va_Qi (fun (r : Int32) (u : zU × (Nat → Int64)) => r = nI 0 ∧ P (u.2 0) u.1) (fun u t => va_P D vwCl (oW ca ob u.2 ++ va_pl u.1.1 u.1.2) t.heap ∧ va_D (va_A (oW ca ob g ++ va_pl L f) sz) (oW ca ob u.2 ++ va_pl u.1.1 u.1.2)) (va_A (oW ca ob g ++ va_pl L f) sz)) zX0 mc ms (va_A (oW ca ob g ++ va_pl L f) sz)) (hM : ∀ sz, Met l yX5_yearOf wsX5_yearOf ({ frames := 9, cells := 0, slots := 0, locals := 360 }) (va_Pc [.ref hm, .int v1, .int v2] (zMp D (mW hm ad ca th (vTd V) (vNt V) (vNp V) nc M) ca sa sz)) (va_Qi (fun (r : Int32) (_ : Unit) => r = val) (fun _ t9 => va_P D vwCl (mW hm ad ca (nI 0) (vTd V') (vNt V') (vNp V') nc' M') t9.heap) (va_A (mW hm ad ca th (vTd V) (vNt V) (vNp V) nc M) sz)) 0 0 (va_A (mW hm ad ca th (vTd V) (vNt V) (vNp V) nc M) sz)) (kk : ∀ (V' : zV) (nc' : Nat) (M' : Nat → Nat → Int32) (th' : Int32) (L' : List Nat) (f' : Nat → va_E) (g' : Nat → Int64) (H1 : Heap) (locs1 : List Loc) (ls1 : Array Slot), lw_S D ca s h0 hm ob b ad (k + 1) (6 * k) H1 locs1 ls1 V' nc' M' th' L' f' g' → W p l e room_1 s m #[Value.ref b] below meth c H1 locs1 (cells + 24) (slots + 100) Q (F0 m 1551 ls1 [])) : W p l e room_1 s m #[Value.ref b] below meth c H locs cells slots Q (F0 m 200 ls []) := by
  obtain ⟨⟨hx, hb, hml, hown, hts⟩, hX, hbl, hL3, hE, hN, hZ0, hl0⟩ := C
  obtain ⟨hI0, ⟨ta, pa, aT, aP, aS, aH, n9, hR⟩, hP, hY, hD, hS, hl⟩ := S
  have h4 := hR.1.1
  have hA : ∀ q : Nat, s.heap.size ≤ q → (fun q => s.heap.size ≤ q) q := fun _ h => h
  refine lv_aload_n hx hb dL_law_200 rfl (lv_at hl 1 rfl) ?_
  refine lv_aload_n hx hb dL_law_201 rfl (lv_at hl 0 rfl) ?_
  refine lv_iload hx hb dL_law_202 (lv_at hl 4 rfl) ?_
  refine lv_iconst (v := nI 1) hx hb dL_law_204 (by decide) ?_
  refine lv_iadd hx hb dL_law_205 ?_
  refine zasi (show ((nI (6 * k)) + (nI 1)) = nI (6 * k + 1) from nI_add _ _) ?_
  refine zsl hx hb hX hbl hL3 hS (show 6 * k + 1 < Ln by omega) e1 dL_law_206 ?_
  refine lv_aload_n hx hb dL_law_207 rfl (lv_at hl 0 rfl) ?_
  refine lv_iload hx hb dL_law_208 (lv_at hl 4 rfl) ?_
  refine lv_iconst (v := nI 2) hx hb dL_law_210 (by decide) ?_
  refine lv_iadd hx hb dL_law_211 ?_
  refine zasi (show ((nI (6 * k)) + (nI 2)) = nI (6 * k + 2) from nI_add _ _) ?_
  refine zsl hx hb hX hbl hL3 hS (show 6 * k + 2 < Ln by omega) e2 dL_law_212 ?_
  refine lv_aload_n hx hb dL_law_213 rfl (lv_at hl 3 rfl) ?_
  refine zgo (vx_runSX (As := [.ref h0, .int v1, .int v2, .ref ob]) (rest := []) ⟨hx, hb, hml, hown, hts⟩ (hC H.size) (vx_cwSW (bytes := cL_yearOf) (maxL := 5) (ret := some .int) (hh := [(0, 10, 13, 20), (0, 10, 17, 13)]) 4 hts gL_law_L_yearOf rfl rfl rfl (by decide +kernel) ⟨Nat.le_of_ble_eq_true rfl, Nat.le_of_ble_eq_true rfl⟩) (zLS hP (w2_l hD) hE hN (lwZ hZ0 hS) (fun q h => Nat.le_trans hS.1 h)) rfl rfl hl.1 rfl (lv_room (Nat.le_of_ble_eq_true rfl)) dL_law_214 (by show _ ≤ 601024 ∧ _ ≤ 7293034; omega)) hY hD hS hA (fun u g1 H locs hu hP hY hD hS => ?_)
  obtain ⟨hv9, hR9⟩ := hP9 _ _ hu
  refine lv_istore (lv' := [(5, .int (nI 0)), (0, .ref b), (1, .ref h0), (2, .ref hm), (3, .ref ob), (4, .int (nI (6 * k)))]) hx hb dL_law_217 hl (by decide) rfl (fun ls hl => ?_)
  refine lv_aload_n hx hb dL_law_219 rfl (lv_at hl 3 rfl) ?_
  refine lv_aload_n hx hb dL_law_220 rfl (lv_at hl 1 rfl) ?_
  refine lv_iload hx hb dL_law_221 (lv_at hl 5 rfl) ?_
  refine lv_iconst (v := nI 1) hx hb dL_law_223 (by decide) ?_
  refine lv_iadd hx hb dL_law_224 ?_
  refine zasi (show ((nI (6 * k)) + (nI 1)) = nI (6 * k + 1) from nI_add _ _) ?_
  refine zsl hx hb hX hbl hL3 hS (show 6 * k + 1 < Ln by omega) e1 dL_law_225 ?_
  refine lv_aload_n hx hb dL_law_226 rfl (lv_at hl 1 rfl) ?_
  refine lv_iload hx hb dL_law_227 (lv_at hl 5 rfl) ?_
  refine lv_iconst (v := nI 2) hx hb dL_law_229 (by decide) ?_
  refine lv_iadd hx hb dL_law_230 ?_
  refine zasi (show ((nI (6 * k)) + (nI 2)) = nI (6 * k + 2) from nI_add _ _) ?_
  refine zsl hx hb hX hbl hL3 hS (show 6 * k + 2 < Ln by omega) e2 dL_law_231 ?_
  refine zgm (va_runV (As := [.int v1, .int v2]) (rest := []) ⟨hx, hb, hml, hown, hts⟩ (hM H.size) (cwV 2 hts gL_law_X5_yearOf rfl rfl rfl (by decide +kernel) ⟨Nat.le_of_ble_eq_true rfl, Nat.le_of_ble_eq_true rfl⟩) (zmV (q0 := 0) (ci := 5) hY (w2_r hD) hE rfl rfl) rfl rfl hl.1 rfl (lv_room (Nat.le_of_ble_eq_true rfl)) dL_law_232 (by show _ ≤ 601024 ∧ _ ≤ 7293034; omega)) hP hD hS hA rfl (fun r H locs hr9b hP hY hD hS => ?_)
  rw [show r = val from hr9b]
  refine lv_istore (lv' := [(6, .int val), (5, .int (nI 0)), (0, .ref b), (1, .ref h0), (2, .ref hm), (3, .ref ob), (4, .int (nI (6 * k)))]) hx hb dL_law_235 hl (by decide) rfl (fun ls hl => ?_)
  refine lv_aload_n hx hb dL_law_237 rfl (lv_at hl 4 rfl) ?_
  refine zci (va_runV (As := []) (rest := []) ⟨hx, hb, hml, hown, hts⟩ (m_thrown l D ca sa hm ad _ _ _ _ _ _) (cwV 0 hts gL_law_X5_thrown rfl rfl rfl (by decide +kernel) ⟨Nat.le_of_ble_eq_true rfl, Nat.le_of_ble_eq_true rfl⟩) (zpV (q0 := 0) (ci := 5) hY hE rfl rfl) rfl rfl hl.1 rfl (lv_room (Nat.le_of_ble_eq_true rfl)) dL_law_238 (by show _ ≤ 601024 ∧ _ ≤ 7293034; omega)) ?_
  refine lv_iload hx hb dL_law_241 (lv_at hl 1 rfl) ?_
  refine lv_icmp_eq (tgt := 248) hx hb dL_law_243 (by decide) (fun c_243 => ?_) (fun c_243 => ?_)
  · refine lv_iload hx hb dL_law_248 (lv_at hl 1 rfl) ?_
    refine lv_if_ne (tgt := 265) hx hb dL_law_250 (by decide) (fun c_250 => ?_) (fun c_250 => ?_)
    · exact absurd c_250 (by decide)
    · refine lv_aload_n hx hb dL_law_253 rfl (lv_at hl 5 rfl) ?_
      refine lv_iconst (v := nI 0) hx hb dL_law_254 (by decide) ?_
      refine zol hx hb hE hP hv9 dL_law_255 ?_
      refine lv_iload hx hb dL_law_256 (lv_at hl 0 rfl) ?_
      refine lv_i2l hx hb dL_law_258 rfl ?_
      refine W.lcmp hx hb dL_law_259 ?_
      refine zasi (show (lg_cmp (val.toInt64) (val.toInt64)) = nI 0 from zcmp _) ?_
      refine lv_if_eq (tgt := 265) hx hb dL_law_260 (by decide) (fun c_260 => ?_) (fun c_260 => ?_)
      · refine lv_goto (tgt := 1551) hx hb dL_law_265 (by decide) ?_
        refine W.widen (k := cells + 24) (n := slots + 100) (by omega) (by omega) ?_
        exact kk V' nc' M' _ _ _ _ H locs ls ⟨hI, hR9, hP, hY, hD, hS, lv_sub hl [2, 3, 4, 5, 6] rfl⟩
      · exact absurd c_260 (by decide)
  · exact absurd c_243 (by decide)

set_option maxHeartbeats 4000000 in
set_option maxRecDepth 100000 in
theorem st_yearOf_x {p : Program} {l : Launch} {e : Env} {s : State} {m : MethodId} {below : List Frame} {meth : Method} {c : Code} {b Ln : Nat} {xs : Nat → Int32} {D : va_G} {ca : Nat → ClassId} {sa : Nat → Nat} (C : lw_C p l s m meth c b Ln xs D ca sa) {h0 hm ob : Nat} {ad : Nat → Nat} {k : Nat} {H : Heap} {locs : List Loc} {ls : Array Slot} {V : zV} {nc : Nat} {M : Nat → Nat → Int32} {th : Int32} {L : List Nat} {f : Nat → va_E} {g : Nat → Int64} (S : lw_S D ca s h0 hm ob b ad k (6 * k) H locs ls V nc M th L f g) (hk : k < 512) (hi : 6 * k + 6 ≤ Ln) {cells slots : Nat} {Q : State → Prop} (hroom : cells + 24 ≤ 601024 ∧ slots + 100 ≤ 7293034) {v1 v2 : Int32} (e1 : xs (6 * k + 1) = v1) (e2 : xs (6 * k + 2) = v2) {mc ms : Nat} (hmc : mc ≤ 24) (hms : ms ≤ 100) {r9 : Int32} (hr9 : r9 = nI 1 ∨ r9 = nI 2) (hC : ∀ sz, vx_Met l yL_yearOf wsL_yearOf ({ frames := 10, cells := mc, slots := ms, locals := 450 }) (va_Pc [.ref h0, .int v1, .int v2, .ref ob] (zLp D L f ob g ca sa sz)) (va_Qi (fun (r : Int32) (_ : Unit) => r = r9) (fun _ _ => True) (fun q => sz ≤ q)) zX0 mc ms (fun q => sz ≤ q)) (hM : ∀ sz, Met l yX5_yearOf wsX5_yearOf ({ frames := 9, cells := 0, slots := 0, locals := 360 }) (va_Pc [.ref hm, .int v1, .int v2] (zMp D (mW hm ad ca th (vTd V) (vNt V) (vNp V) nc M) ca sa sz)) (va_Qi (fun (r : Int32) (_ : Unit) => True) (fun _ t9 => va_P D vwCl (mW hm ad ca r9 (vTd V) (vNt V) (vNp V) nc M) t9.heap) (va_A (mW hm ad ca th (vTd V) (vNt V) (vNp V) nc M) sz)) 0 0 (va_A (mW hm ad ca th (vTd V) (vNt V) (vNp V) nc M) sz)) (kk : ∀ (V' : zV) (nc' : Nat) (M' : Nat → Nat → Int32) (th' : Int32) (L' : List Nat) (f' : Nat → va_E) (g' : Nat → Int64) (H1 : Heap) (locs1 : List Loc) (ls1 : Array Slot), lw_S D ca s h0 hm ob b ad (k + 1) (6 * k) H1 locs1 ls1 V' nc' M' th' L' f' g' → W p l e room_1 s m #[Value.ref b] below meth c H1 locs1 (cells + 24) (slots + 100) Q (F0 m 1551 ls1 [])) : W p l e room_1 s m #[Value.ref b] below meth c H locs cells slots Q (F0 m 200 ls []) := by
  obtain ⟨⟨hx, hb, hml, hown, hts⟩, hX, hbl, hL3, hE, hN, hZ0, hl0⟩ := C
  obtain ⟨hI0, ⟨ta, pa, aT, aP, aS, aH, n9, hR⟩, hP, hY, hD, hS, hl⟩ := S
  have h4 := hR.1.1
  have hA : ∀ q : Nat, s.heap.size ≤ q → (fun q => s.heap.size ≤ q) q := fun _ h => h
  refine lv_aload_n hx hb dL_law_200 rfl (lv_at hl 1 rfl) ?_
  refine lv_aload_n hx hb dL_law_201 rfl (lv_at hl 0 rfl) ?_
  refine lv_iload hx hb dL_law_202 (lv_at hl 4 rfl) ?_
  refine lv_iconst (v := nI 1) hx hb dL_law_204 (by decide) ?_
  refine lv_iadd hx hb dL_law_205 ?_
  refine zasi (show ((nI (6 * k)) + (nI 1)) = nI (6 * k + 1) from nI_add _ _) ?_
  refine zsl hx hb hX hbl hL3 hS (show 6 * k + 1 < Ln by omega) e1 dL_law_206 ?_
  refine lv_aload_n hx hb dL_law_207 rfl (lv_at hl 0 rfl) ?_
  refine lv_iload hx hb dL_law_208 (lv_at hl 4 rfl) ?_
  refine lv_iconst (v := nI 2) hx hb dL_law_210 (by decide) ?_
  refine lv_iadd hx hb dL_law_211 ?_
  refine zasi (show ((nI (6 * k)) + (nI 2)) = nI (6 * k + 2) from nI_add _ _) ?_
  refine zsl hx hb hX hbl hL3 hS (show 6 * k + 2 < Ln by omega) e2 dL_law_212 ?_
  refine lv_aload_n hx hb dL_law_213 rfl (lv_at hl 3 rfl) ?_
  refine zgx (vx_runSX (As := [.ref h0, .int v1, .int v2, .ref ob]) (rest := []) ⟨hx, hb, hml, hown, hts⟩ (hC H.size) (vx_cwSW (bytes := cL_yearOf) (maxL := 5) (ret := some .int) (hh := [(0, 10, 13, 20), (0, 10, 17, 13)]) 4 hts gL_law_L_yearOf rfl rfl rfl (by decide +kernel) ⟨Nat.le_of_ble_eq_true rfl, Nat.le_of_ble_eq_true rfl⟩) (zLS hP (w2_l hD) hE hN (lwZ hZ0 hS) (fun q h => Nat.le_trans hS.1 h)) rfl rfl hl.1 rfl (lv_room (Nat.le_of_ble_eq_true rfl)) dL_law_214 (by show _ ≤ 601024 ∧ _ ≤ 7293034; omega)) hP hY hS hA (fun H locs hP hY hS => ?_)
  refine lv_istore (lv' := [(5, .int r9), (0, .ref b), (1, .ref h0), (2, .ref hm), (3, .ref ob), (4, .int (nI (6 * k)))]) hx hb dL_law_217 hl (by decide) rfl (fun ls hl => ?_)
  refine lv_aload_n hx hb dL_law_219 rfl (lv_at hl 3 rfl) ?_
  refine lv_aload_n hx hb dL_law_220 rfl (lv_at hl 1 rfl) ?_
  refine lv_iload hx hb dL_law_221 (lv_at hl 5 rfl) ?_
  refine lv_iconst (v := nI 1) hx hb dL_law_223 (by decide) ?_
  refine lv_iadd hx hb dL_law_224 ?_
  refine zasi (show ((nI (6 * k)) + (nI 1)) = nI (6 * k + 1) from nI_add _ _) ?_
  refine zsl hx hb hX hbl hL3 hS (show 6 * k + 1 < Ln by omega) e1 dL_law_225 ?_
  refine lv_aload_n hx hb dL_law_226 rfl (lv_at hl 1 rfl) ?_
  refine lv_iload hx hb dL_law_227 (lv_at hl 5 rfl) ?_
  refine lv_iconst (v := nI 2) hx hb dL_law_229 (by decide) ?_
  refine lv_iadd hx hb dL_law_230 ?_
  refine zasi (show ((nI (6 * k)) + (nI 2)) = nI (6 * k + 2) from nI_add _ _) ?_
  refine zsl hx hb hX hbl hL3 hS (show 6 * k + 2 < Ln by omega) e2 dL_law_231 ?_
  refine zgm (va_runV (As := [.int v1, .int v2]) (rest := []) ⟨hx, hb, hml, hown, hts⟩ (hM H.size) (cwV 2 hts gL_law_X5_yearOf rfl rfl rfl (by decide +kernel) ⟨Nat.le_of_ble_eq_true rfl, Nat.le_of_ble_eq_true rfl⟩) (zmV (q0 := 0) (ci := 5) hY (w2_r hD) hE rfl rfl) rfl rfl hl.1 rfl (lv_room (Nat.le_of_ble_eq_true rfl)) dL_law_232 (by show _ ≤ 601024 ∧ _ ≤ 7293034; omega)) hP hD hS hA rfl (fun r H locs hr9b hP hY hD hS => ?_)
  refine lv_istore (lv' := [(6, .int r), (5, .int r9), (0, .ref b), (1, .ref h0), (2, .ref hm), (3, .ref ob), (4, .int (nI (6 * k)))]) hx hb dL_law_235 hl (by decide) rfl (fun ls hl => ?_)
  refine lv_aload_n hx hb dL_law_237 rfl (lv_at hl 4 rfl) ?_
  refine zci (va_runV (As := []) (rest := []) ⟨hx, hb, hml, hown, hts⟩ (m_thrown l D ca sa hm ad _ _ _ _ _ _) (cwV 0 hts gL_law_X5_thrown rfl rfl rfl (by decide +kernel) ⟨Nat.le_of_ble_eq_true rfl, Nat.le_of_ble_eq_true rfl⟩) (zpV (q0 := 0) (ci := 5) hY hE rfl rfl) rfl rfl hl.1 rfl (lv_room (Nat.le_of_ble_eq_true rfl)) dL_law_238 (by show _ ≤ 601024 ∧ _ ≤ 7293034; omega)) ?_
  refine lv_iload hx hb dL_law_241 (lv_at hl 1 rfl) ?_
  refine lv_icmp_eq (tgt := 248) hx hb dL_law_243 (by decide) (fun c_243 => ?_) (fun c_243 => ?_)
  · refine lv_iload hx hb dL_law_248 (lv_at hl 1 rfl) ?_
    refine lv_if_ne (tgt := 265) hx hb dL_law_250 (by decide) (fun c_250 => ?_) (fun c_250 => ?_)
    · refine lv_goto (tgt := 1551) hx hb dL_law_265 (by decide) ?_
      refine W.widen (k := cells + 24) (n := slots + 100) (by omega) (by omega) ?_
      exact kk V nc M _ _ _ _ H locs ls ⟨i_up hI0 hk, ⟨ta, pa, aT, aP, aS, aH, n9, zRep_up hR (Nat.le_succ k) (by omega)⟩, hP, hY, hD, hS, lv_sub hl [2, 3, 4, 5, 6] rfl⟩
    · exact absurd c_250 (by rcases hr9 with rfl | rfl <;> decide)
  · exact absurd rfl c_243

set_option maxHeartbeats 4000000 in
set_option maxRecDepth 100000 in
theorem st_volumeOf_ok {p : Program} {l : Launch} {e : Env} {s : State} {m : MethodId} {below : List Frame} {meth : Method} {c : Code} {b Ln : Nat} {xs : Nat → Int32} {D : va_G} {ca : Nat → ClassId} {sa : Nat → Nat} (C : lw_C p l s m meth c b Ln xs D ca sa) {h0 hm ob : Nat} {ad : Nat → Nat} {k : Nat} {H : Heap} {locs : List Loc} {ls : Array Slot} {V : zV} {nc : Nat} {M : Nat → Nat → Int32} {th : Int32} {L : List Nat} {f : Nat → va_E} {g : Nat → Int64} (S : lw_S D ca s h0 hm ob b ad k (6 * k) H locs ls V nc M th L f g) (hk : k < 512) (hi : 6 * k + 6 ≤ Ln) {cells slots : Nat} {Q : State → Prop} (hroom : cells + 24 ≤ 601024 ∧ slots + 100 ≤ 7293034) {v1 v2 : Int32} (e1 : xs (6 * k + 1) = v1) (e2 : xs (6 * k + 2) = v2) {mc ms : Nat} (hmc : mc ≤ 24) (hms : ms ≤ 100) {V' : zV} {nc' : Nat} {M' : Nat → Nat → Int32} {P : Int64 → zU → Prop} {val : Int32} (hP9 : ∀ x u, P x u → x = val.toInt64 ∧ zR u.1 u.2 ca h0 (k + 1) V') (hI : Inv V' nc' M' (k + 1)) (hC : ∀ sz, vx_Met l yL_volumeOf wsL_volumeOf ({ frames := 10, cells := mc, slots := ms, locals := 450 }) (va_Pc [.ref h0, .int v1, .int v2, .ref ob] (zLp D L f ob g ca sa sz)) (va_Qi (fun (r : Int32) (u : zU × (Nat → Int64)) => r = nI 0 ∧ P (u.2 0) u.1) (fun u t => va_P D vwCl (oW ca ob u.2 ++ va_pl u.1.1 u.1.2) t.heap ∧ va_D (va_A (oW ca ob g ++ va_pl L f) sz) (oW ca ob u.2 ++ va_pl u.1.1 u.1.2)) (va_A (oW ca ob g ++ va_pl L f) sz)) zX0 mc ms (va_A (oW ca ob g ++ va_pl L f) sz)) (hM : ∀ sz, Met l yX5_volumeOf wsX5_volumeOf ({ frames := 9, cells := 0, slots := 0, locals := 360 }) (va_Pc [.ref hm, .int v1, .int v2] (zMp D (mW hm ad ca th (vTd V) (vNt V) (vNp V) nc M) ca sa sz)) (va_Qi (fun (r : Int32) (_ : Unit) => r = val) (fun _ t9 => va_P D vwCl (mW hm ad ca (nI 0) (vTd V') (vNt V') (vNp V') nc' M') t9.heap) (va_A (mW hm ad ca th (vTd V) (vNt V) (vNp V) nc M) sz)) 0 0 (va_A (mW hm ad ca th (vTd V) (vNt V) (vNp V) nc M) sz)) (kk : ∀ (V' : zV) (nc' : Nat) (M' : Nat → Nat → Int32) (th' : Int32) (L' : List Nat) (f' : Nat → va_E) (g' : Nat → Int64) (H1 : Heap) (locs1 : List Loc) (ls1 : Array Slot), lw_S D ca s h0 hm ob b ad (k + 1) (6 * k) H1 locs1 ls1 V' nc' M' th' L' f' g' → W p l e room_1 s m #[Value.ref b] below meth c H1 locs1 (cells + 24) (slots + 100) Q (F0 m 1551 ls1 [])) : W p l e room_1 s m #[Value.ref b] below meth c H locs cells slots Q (F0 m 268 ls []) := by
  obtain ⟨⟨hx, hb, hml, hown, hts⟩, hX, hbl, hL3, hE, hN, hZ0, hl0⟩ := C
  obtain ⟨hI0, ⟨ta, pa, aT, aP, aS, aH, n9, hR⟩, hP, hY, hD, hS, hl⟩ := S
  have h4 := hR.1.1
  have hA : ∀ q : Nat, s.heap.size ≤ q → (fun q => s.heap.size ≤ q) q := fun _ h => h
  refine lv_aload_n hx hb dL_law_268 rfl (lv_at hl 1 rfl) ?_
  refine lv_aload_n hx hb dL_law_269 rfl (lv_at hl 0 rfl) ?_
  refine lv_iload hx hb dL_law_270 (lv_at hl 4 rfl) ?_
  refine lv_iconst (v := nI 1) hx hb dL_law_272 (by decide) ?_
  refine lv_iadd hx hb dL_law_273 ?_
  refine zasi (show ((nI (6 * k)) + (nI 1)) = nI (6 * k + 1) from nI_add _ _) ?_
  refine zsl hx hb hX hbl hL3 hS (show 6 * k + 1 < Ln by omega) e1 dL_law_274 ?_
  refine lv_aload_n hx hb dL_law_275 rfl (lv_at hl 0 rfl) ?_
  refine lv_iload hx hb dL_law_276 (lv_at hl 4 rfl) ?_
  refine lv_iconst (v := nI 2) hx hb dL_law_278 (by decide) ?_
  refine lv_iadd hx hb dL_law_279 ?_
  refine zasi (show ((nI (6 * k)) + (nI 2)) = nI (6 * k + 2) from nI_add _ _) ?_
  refine zsl hx hb hX hbl hL3 hS (show 6 * k + 2 < Ln by omega) e2 dL_law_280 ?_
  refine lv_aload_n hx hb dL_law_281 rfl (lv_at hl 3 rfl) ?_
  refine zgo (vx_runSX (As := [.ref h0, .int v1, .int v2, .ref ob]) (rest := []) ⟨hx, hb, hml, hown, hts⟩ (hC H.size) (vx_cwSW (bytes := cL_volumeOf) (maxL := 5) (ret := some .int) (hh := [(0, 10, 13, 20), (0, 10, 17, 13)]) 4 hts gL_law_L_volumeOf rfl rfl rfl (by decide +kernel) ⟨Nat.le_of_ble_eq_true rfl, Nat.le_of_ble_eq_true rfl⟩) (zLS hP (w2_l hD) hE hN (lwZ hZ0 hS) (fun q h => Nat.le_trans hS.1 h)) rfl rfl hl.1 rfl (lv_room (Nat.le_of_ble_eq_true rfl)) dL_law_282 (by show _ ≤ 601024 ∧ _ ≤ 7293034; omega)) hY hD hS hA (fun u g1 H locs hu hP hY hD hS => ?_)
  obtain ⟨hv9, hR9⟩ := hP9 _ _ hu
  refine lv_istore (lv' := [(5, .int (nI 0)), (0, .ref b), (1, .ref h0), (2, .ref hm), (3, .ref ob), (4, .int (nI (6 * k)))]) hx hb dL_law_285 hl (by decide) rfl (fun ls hl => ?_)
  refine lv_aload_n hx hb dL_law_287 rfl (lv_at hl 3 rfl) ?_
  refine lv_aload_n hx hb dL_law_288 rfl (lv_at hl 1 rfl) ?_
  refine lv_iload hx hb dL_law_289 (lv_at hl 5 rfl) ?_
  refine lv_iconst (v := nI 1) hx hb dL_law_291 (by decide) ?_
  refine lv_iadd hx hb dL_law_292 ?_
  refine zasi (show ((nI (6 * k)) + (nI 1)) = nI (6 * k + 1) from nI_add _ _) ?_
  refine zsl hx hb hX hbl hL3 hS (show 6 * k + 1 < Ln by omega) e1 dL_law_293 ?_
  refine lv_aload_n hx hb dL_law_294 rfl (lv_at hl 1 rfl) ?_
  refine lv_iload hx hb dL_law_295 (lv_at hl 5 rfl) ?_
  refine lv_iconst (v := nI 2) hx hb dL_law_297 (by decide) ?_
  refine lv_iadd hx hb dL_law_298 ?_
  refine zasi (show ((nI (6 * k)) + (nI 2)) = nI (6 * k + 2) from nI_add _ _) ?_
  refine zsl hx hb hX hbl hL3 hS (show 6 * k + 2 < Ln by omega) e2 dL_law_299 ?_
  refine zgm (va_runV (As := [.int v1, .int v2]) (rest := []) ⟨hx, hb, hml, hown, hts⟩ (hM H.size) (cwV 2 hts gL_law_X5_volumeOf rfl rfl rfl (by decide +kernel) ⟨Nat.le_of_ble_eq_true rfl, Nat.le_of_ble_eq_true rfl⟩) (zmV (q0 := 0) (ci := 5) hY (w2_r hD) hE rfl rfl) rfl rfl hl.1 rfl (lv_room (Nat.le_of_ble_eq_true rfl)) dL_law_300 (by show _ ≤ 601024 ∧ _ ≤ 7293034; omega)) hP hD hS hA rfl (fun r H locs hr9b hP hY hD hS => ?_)
  rw [show r = val from hr9b]
  refine lv_istore (lv' := [(6, .int val), (5, .int (nI 0)), (0, .ref b), (1, .ref h0), (2, .ref hm), (3, .ref ob), (4, .int (nI (6 * k)))]) hx hb dL_law_303 hl (by decide) rfl (fun ls hl => ?_)
  refine lv_aload_n hx hb dL_law_305 rfl (lv_at hl 4 rfl) ?_
  refine zci (va_runV (As := []) (rest := []) ⟨hx, hb, hml, hown, hts⟩ (m_thrown l D ca sa hm ad _ _ _ _ _ _) (cwV 0 hts gL_law_X5_thrown rfl rfl rfl (by decide +kernel) ⟨Nat.le_of_ble_eq_true rfl, Nat.le_of_ble_eq_true rfl⟩) (zpV (q0 := 0) (ci := 5) hY hE rfl rfl) rfl rfl hl.1 rfl (lv_room (Nat.le_of_ble_eq_true rfl)) dL_law_306 (by show _ ≤ 601024 ∧ _ ≤ 7293034; omega)) ?_
  refine lv_iload hx hb dL_law_309 (lv_at hl 1 rfl) ?_
  refine lv_icmp_eq (tgt := 316) hx hb dL_law_311 (by decide) (fun c_311 => ?_) (fun c_311 => ?_)
  · refine lv_iload hx hb dL_law_316 (lv_at hl 1 rfl) ?_
    refine lv_if_ne (tgt := 333) hx hb dL_law_318 (by decide) (fun c_318 => ?_) (fun c_318 => ?_)
    · exact absurd c_318 (by decide)
    · refine lv_aload_n hx hb dL_law_321 rfl (lv_at hl 5 rfl) ?_
      refine lv_iconst (v := nI 0) hx hb dL_law_322 (by decide) ?_
      refine zol hx hb hE hP hv9 dL_law_323 ?_
      refine lv_iload hx hb dL_law_324 (lv_at hl 0 rfl) ?_
      refine lv_i2l hx hb dL_law_326 rfl ?_
      refine W.lcmp hx hb dL_law_327 ?_
      refine zasi (show (lg_cmp (val.toInt64) (val.toInt64)) = nI 0 from zcmp _) ?_
      refine lv_if_eq (tgt := 333) hx hb dL_law_328 (by decide) (fun c_328 => ?_) (fun c_328 => ?_)
      · refine lv_goto (tgt := 1551) hx hb dL_law_333 (by decide) ?_
        refine W.widen (k := cells + 24) (n := slots + 100) (by omega) (by omega) ?_
        exact kk V' nc' M' _ _ _ _ H locs ls ⟨hI, hR9, hP, hY, hD, hS, lv_sub hl [2, 3, 4, 5, 6] rfl⟩
      · exact absurd c_328 (by decide)
  · exact absurd c_311 (by decide)

set_option maxHeartbeats 4000000 in
set_option maxRecDepth 100000 in
theorem st_volumeOf_x {p : Program} {l : Launch} {e : Env} {s : State} {m : MethodId} {below : List Frame} {meth : Method} {c : Code} {b Ln : Nat} {xs : Nat → Int32} {D : va_G} {ca : Nat → ClassId} {sa : Nat → Nat} (C : lw_C p l s m meth c b Ln xs D ca sa) {h0 hm ob : Nat} {ad : Nat → Nat} {k : Nat} {H : Heap} {locs : List Loc} {ls : Array Slot} {V : zV} {nc : Nat} {M : Nat → Nat → Int32} {th : Int32} {L : List Nat} {f : Nat → va_E} {g : Nat → Int64} (S : lw_S D ca s h0 hm ob b ad k (6 * k) H locs ls V nc M th L f g) (hk : k < 512) (hi : 6 * k + 6 ≤ Ln) {cells slots : Nat} {Q : State → Prop} (hroom : cells + 24 ≤ 601024 ∧ slots + 100 ≤ 7293034) {v1 v2 : Int32} (e1 : xs (6 * k + 1) = v1) (e2 : xs (6 * k + 2) = v2) {mc ms : Nat} (hmc : mc ≤ 24) (hms : ms ≤ 100) {r9 : Int32} (hr9 : r9 = nI 1 ∨ r9 = nI 2) (hC : ∀ sz, vx_Met l yL_volumeOf wsL_volumeOf ({ frames := 10, cells := mc, slots := ms, locals := 450 }) (va_Pc [.ref h0, .int v1, .int v2, .ref ob] (zLp D L f ob g ca sa sz)) (va_Qi (fun (r : Int32) (_ : Unit) => r = r9) (fun _ _ => True) (fun q => sz ≤ q)) zX0 mc ms (fun q => sz ≤ q)) (hM : ∀ sz, Met l yX5_volumeOf wsX5_volumeOf ({ frames := 9, cells := 0, slots := 0, locals := 360 }) (va_Pc [.ref hm, .int v1, .int v2] (zMp D (mW hm ad ca th (vTd V) (vNt V) (vNp V) nc M) ca sa sz)) (va_Qi (fun (r : Int32) (_ : Unit) => True) (fun _ t9 => va_P D vwCl (mW hm ad ca r9 (vTd V) (vNt V) (vNp V) nc M) t9.heap) (va_A (mW hm ad ca th (vTd V) (vNt V) (vNp V) nc M) sz)) 0 0 (va_A (mW hm ad ca th (vTd V) (vNt V) (vNp V) nc M) sz)) (kk : ∀ (V' : zV) (nc' : Nat) (M' : Nat → Nat → Int32) (th' : Int32) (L' : List Nat) (f' : Nat → va_E) (g' : Nat → Int64) (H1 : Heap) (locs1 : List Loc) (ls1 : Array Slot), lw_S D ca s h0 hm ob b ad (k + 1) (6 * k) H1 locs1 ls1 V' nc' M' th' L' f' g' → W p l e room_1 s m #[Value.ref b] below meth c H1 locs1 (cells + 24) (slots + 100) Q (F0 m 1551 ls1 [])) : W p l e room_1 s m #[Value.ref b] below meth c H locs cells slots Q (F0 m 268 ls []) := by
  obtain ⟨⟨hx, hb, hml, hown, hts⟩, hX, hbl, hL3, hE, hN, hZ0, hl0⟩ := C
  obtain ⟨hI0, ⟨ta, pa, aT, aP, aS, aH, n9, hR⟩, hP, hY, hD, hS, hl⟩ := S
  have h4 := hR.1.1
  have hA : ∀ q : Nat, s.heap.size ≤ q → (fun q => s.heap.size ≤ q) q := fun _ h => h
  refine lv_aload_n hx hb dL_law_268 rfl (lv_at hl 1 rfl) ?_
  refine lv_aload_n hx hb dL_law_269 rfl (lv_at hl 0 rfl) ?_
  refine lv_iload hx hb dL_law_270 (lv_at hl 4 rfl) ?_
  refine lv_iconst (v := nI 1) hx hb dL_law_272 (by decide) ?_
  refine lv_iadd hx hb dL_law_273 ?_
  refine zasi (show ((nI (6 * k)) + (nI 1)) = nI (6 * k + 1) from nI_add _ _) ?_
  refine zsl hx hb hX hbl hL3 hS (show 6 * k + 1 < Ln by omega) e1 dL_law_274 ?_
  refine lv_aload_n hx hb dL_law_275 rfl (lv_at hl 0 rfl) ?_
  refine lv_iload hx hb dL_law_276 (lv_at hl 4 rfl) ?_
  refine lv_iconst (v := nI 2) hx hb dL_law_278 (by decide) ?_
  refine lv_iadd hx hb dL_law_279 ?_
  refine zasi (show ((nI (6 * k)) + (nI 2)) = nI (6 * k + 2) from nI_add _ _) ?_
  refine zsl hx hb hX hbl hL3 hS (show 6 * k + 2 < Ln by omega) e2 dL_law_280 ?_
  refine lv_aload_n hx hb dL_law_281 rfl (lv_at hl 3 rfl) ?_
  refine zgx (vx_runSX (As := [.ref h0, .int v1, .int v2, .ref ob]) (rest := []) ⟨hx, hb, hml, hown, hts⟩ (hC H.size) (vx_cwSW (bytes := cL_volumeOf) (maxL := 5) (ret := some .int) (hh := [(0, 10, 13, 20), (0, 10, 17, 13)]) 4 hts gL_law_L_volumeOf rfl rfl rfl (by decide +kernel) ⟨Nat.le_of_ble_eq_true rfl, Nat.le_of_ble_eq_true rfl⟩) (zLS hP (w2_l hD) hE hN (lwZ hZ0 hS) (fun q h => Nat.le_trans hS.1 h)) rfl rfl hl.1 rfl (lv_room (Nat.le_of_ble_eq_true rfl)) dL_law_282 (by show _ ≤ 601024 ∧ _ ≤ 7293034; omega)) hP hY hS hA (fun H locs hP hY hS => ?_)
  refine lv_istore (lv' := [(5, .int r9), (0, .ref b), (1, .ref h0), (2, .ref hm), (3, .ref ob), (4, .int (nI (6 * k)))]) hx hb dL_law_285 hl (by decide) rfl (fun ls hl => ?_)
  refine lv_aload_n hx hb dL_law_287 rfl (lv_at hl 3 rfl) ?_
  refine lv_aload_n hx hb dL_law_288 rfl (lv_at hl 1 rfl) ?_
  refine lv_iload hx hb dL_law_289 (lv_at hl 5 rfl) ?_
  refine lv_iconst (v := nI 1) hx hb dL_law_291 (by decide) ?_
  refine lv_iadd hx hb dL_law_292 ?_
  refine zasi (show ((nI (6 * k)) + (nI 1)) = nI (6 * k + 1) from nI_add _ _) ?_
  refine zsl hx hb hX hbl hL3 hS (show 6 * k + 1 < Ln by omega) e1 dL_law_293 ?_
  refine lv_aload_n hx hb dL_law_294 rfl (lv_at hl 1 rfl) ?_
  refine lv_iload hx hb dL_law_295 (lv_at hl 5 rfl) ?_
  refine lv_iconst (v := nI 2) hx hb dL_law_297 (by decide) ?_
  refine lv_iadd hx hb dL_law_298 ?_
  refine zasi (show ((nI (6 * k)) + (nI 2)) = nI (6 * k + 2) from nI_add _ _) ?_
  refine zsl hx hb hX hbl hL3 hS (show 6 * k + 2 < Ln by omega) e2 dL_law_299 ?_
  refine zgm (va_runV (As := [.int v1, .int v2]) (rest := []) ⟨hx, hb, hml, hown, hts⟩ (hM H.size) (cwV 2 hts gL_law_X5_volumeOf rfl rfl rfl (by decide +kernel) ⟨Nat.le_of_ble_eq_true rfl, Nat.le_of_ble_eq_true rfl⟩) (zmV (q0 := 0) (ci := 5) hY (w2_r hD) hE rfl rfl) rfl rfl hl.1 rfl (lv_room (Nat.le_of_ble_eq_true rfl)) dL_law_300 (by show _ ≤ 601024 ∧ _ ≤ 7293034; omega)) hP hD hS hA rfl (fun r H locs hr9b hP hY hD hS => ?_)
  refine lv_istore (lv' := [(6, .int r), (5, .int r9), (0, .ref b), (1, .ref h0), (2, .ref hm), (3, .ref ob), (4, .int (nI (6 * k)))]) hx hb dL_law_303 hl (by decide) rfl (fun ls hl => ?_)
  refine lv_aload_n hx hb dL_law_305 rfl (lv_at hl 4 rfl) ?_
  refine zci (va_runV (As := []) (rest := []) ⟨hx, hb, hml, hown, hts⟩ (m_thrown l D ca sa hm ad _ _ _ _ _ _) (cwV 0 hts gL_law_X5_thrown rfl rfl rfl (by decide +kernel) ⟨Nat.le_of_ble_eq_true rfl, Nat.le_of_ble_eq_true rfl⟩) (zpV (q0 := 0) (ci := 5) hY hE rfl rfl) rfl rfl hl.1 rfl (lv_room (Nat.le_of_ble_eq_true rfl)) dL_law_306 (by show _ ≤ 601024 ∧ _ ≤ 7293034; omega)) ?_
  refine lv_iload hx hb dL_law_309 (lv_at hl 1 rfl) ?_
  refine lv_icmp_eq (tgt := 316) hx hb dL_law_311 (by decide) (fun c_311 => ?_) (fun c_311 => ?_)
  · refine lv_iload hx hb dL_law_316 (lv_at hl 1 rfl) ?_
    refine lv_if_ne (tgt := 333) hx hb dL_law_318 (by decide) (fun c_318 => ?_) (fun c_318 => ?_)
    · refine lv_goto (tgt := 1551) hx hb dL_law_333 (by decide) ?_
      refine W.widen (k := cells + 24) (n := slots + 100) (by omega) (by omega) ?_
      exact kk V nc M _ _ _ _ H locs ls ⟨i_up hI0 hk, ⟨ta, pa, aT, aP, aS, aH, n9, zRep_up hR (Nat.le_succ k) (by omega)⟩, hP, hY, hD, hS, lv_sub hl [2, 3, 4, 5, 6] rfl⟩
    · exact absurd c_318 (by rcases hr9 with rfl | rfl <;> decide)
  · exact absurd rfl c_311

set_option maxHeartbeats 4000000 in
set_option maxRecDepth 100000 in
theorem st_addPackage_ok {p : Program} {l : Launch} {e : Env} {s : State} {m : MethodId} {below : List Frame} {meth : Method} {c : Code} {b Ln : Nat} {xs : Nat → Int32} {D : va_G} {ca : Nat → ClassId} {sa : Nat → Nat} (C : lw_C p l s m meth c b Ln xs D ca sa) {h0 hm ob : Nat} {ad : Nat → Nat} {k : Nat} {H : Heap} {locs : List Loc} {ls : Array Slot} {V : zV} {nc : Nat} {M : Nat → Nat → Int32} {th : Int32} {L : List Nat} {f : Nat → va_E} {g : Nat → Int64} (S : lw_S D ca s h0 hm ob b ad k (6 * k) H locs ls V nc M th L f g) (hk : k < 512) (hi : 6 * k + 6 ≤ Ln) {cells slots : Nat} {Q : State → Prop} (hroom : cells + 24 ≤ 601024 ∧ slots + 100 ≤ 7293034) {v1 v2 v3 v4 : Int32} (e1 : xs (6 * k + 1) = v1) (e2 : xs (6 * k + 2) = v2) (e3 : xs (6 * k + 3) = v3) (e4 : xs (6 * k + 4) = v4) {mc ms : Nat} (hmc : mc ≤ 24) (hms : ms ≤ 100) {V' : zV} {nc' : Nat} {M' : Nat → Nat → Int32} {P : Int64 → zU → Prop} {val : Int32} (hP9 : ∀ x u, P x u → x = val.toInt64 ∧ zR u.1 u.2 ca h0 (k + 1) V') (hI : Inv V' nc' M' (k + 1)) (hC : ∀ sz, vx_Met l yL_addPackage wsL_addPackage ({ frames := 10, cells := mc, slots := ms, locals := 450 }) (va_Pc [.ref h0, .int v1, .int v2, .int v3, .int v4, .ref ob] (zLp D L f ob g ca sa sz)) (va_Qi (fun (r : Int32) (u : zU × (Nat → Int64)) => r = nI 0 ∧ P (u.2 0) u.1) (fun u t => va_P D vwCl (oW ca ob u.2 ++ va_pl u.1.1 u.1.2) t.heap ∧ va_D (va_A (oW ca ob g ++ va_pl L f) sz) (oW ca ob u.2 ++ va_pl u.1.1 u.1.2)) (va_A (oW ca ob g ++ va_pl L f) sz)) zX0 mc ms (va_A (oW ca ob g ++ va_pl L f) sz)) (hM : ∀ sz, Met l yX5_addPackage wsX5_addPackage ({ frames := 9, cells := 0, slots := 0, locals := 360 }) (va_Pc [.ref hm, .int v1, .int v2, .int v3, .int v4] (zMp D (mW hm ad ca th (vTd V) (vNt V) (vNp V) nc M) ca sa sz)) (va_Qi (fun (r : Int32) (_ : Unit) => r = val) (fun _ t9 => va_P D vwCl (mW hm ad ca (nI 0) (vTd V') (vNt V') (vNp V') nc' M') t9.heap) (va_A (mW hm ad ca th (vTd V) (vNt V) (vNp V) nc M) sz)) 0 0 (va_A (mW hm ad ca th (vTd V) (vNt V) (vNp V) nc M) sz)) (kk : ∀ (V' : zV) (nc' : Nat) (M' : Nat → Nat → Int32) (th' : Int32) (L' : List Nat) (f' : Nat → va_E) (g' : Nat → Int64) (H1 : Heap) (locs1 : List Loc) (ls1 : Array Slot), lw_S D ca s h0 hm ob b ad (k + 1) (6 * k) H1 locs1 ls1 V' nc' M' th' L' f' g' → W p l e room_1 s m #[Value.ref b] below meth c H1 locs1 (cells + 24) (slots + 100) Q (F0 m 1551 ls1 [])) : W p l e room_1 s m #[Value.ref b] below meth c H locs cells slots Q (F0 m 336 ls []) := by
  obtain ⟨⟨hx, hb, hml, hown, hts⟩, hX, hbl, hL3, hE, hN, hZ0, hl0⟩ := C
  obtain ⟨hI0, ⟨ta, pa, aT, aP, aS, aH, n9, hR⟩, hP, hY, hD, hS, hl⟩ := S
  have h4 := hR.1.1
  have hA : ∀ q : Nat, s.heap.size ≤ q → (fun q => s.heap.size ≤ q) q := fun _ h => h
  refine lv_aload_n hx hb dL_law_336 rfl (lv_at hl 1 rfl) ?_
  refine lv_aload_n hx hb dL_law_337 rfl (lv_at hl 0 rfl) ?_
  refine lv_iload hx hb dL_law_338 (lv_at hl 4 rfl) ?_
  refine lv_iconst (v := nI 1) hx hb dL_law_340 (by decide) ?_
  refine lv_iadd hx hb dL_law_341 ?_
  refine zasi (show ((nI (6 * k)) + (nI 1)) = nI (6 * k + 1) from nI_add _ _) ?_
  refine zsl hx hb hX hbl hL3 hS (show 6 * k + 1 < Ln by omega) e1 dL_law_342 ?_
  refine lv_aload_n hx hb dL_law_343 rfl (lv_at hl 0 rfl) ?_
  refine lv_iload hx hb dL_law_344 (lv_at hl 4 rfl) ?_
  refine lv_iconst (v := nI 2) hx hb dL_law_346 (by decide) ?_
  refine lv_iadd hx hb dL_law_347 ?_
  refine zasi (show ((nI (6 * k)) + (nI 2)) = nI (6 * k + 2) from nI_add _ _) ?_
  refine zsl hx hb hX hbl hL3 hS (show 6 * k + 2 < Ln by omega) e2 dL_law_348 ?_
  refine lv_aload_n hx hb dL_law_349 rfl (lv_at hl 0 rfl) ?_
  refine lv_iload hx hb dL_law_350 (lv_at hl 4 rfl) ?_
  refine lv_iconst (v := nI 3) hx hb dL_law_352 (by decide) ?_
  refine lv_iadd hx hb dL_law_353 ?_
  refine zasi (show ((nI (6 * k)) + (nI 3)) = nI (6 * k + 3) from nI_add _ _) ?_
  refine zsl hx hb hX hbl hL3 hS (show 6 * k + 3 < Ln by omega) e3 dL_law_354 ?_
  refine lv_aload_n hx hb dL_law_355 rfl (lv_at hl 0 rfl) ?_
  refine lv_iload hx hb dL_law_356 (lv_at hl 4 rfl) ?_
  refine lv_iconst (v := nI 4) hx hb dL_law_358 (by decide) ?_
  refine lv_iadd hx hb dL_law_359 ?_
  refine zasi (show ((nI (6 * k)) + (nI 4)) = nI (6 * k + 4) from nI_add _ _) ?_
  refine zsl hx hb hX hbl hL3 hS (show 6 * k + 4 < Ln by omega) e4 dL_law_360 ?_
  refine lv_aload_n hx hb dL_law_361 rfl (lv_at hl 3 rfl) ?_
  refine zgo (vx_runSX (As := [.ref h0, .int v1, .int v2, .int v3, .int v4, .ref ob]) (rest := []) ⟨hx, hb, hml, hown, hts⟩ (hC H.size) (vx_cwSW (bytes := cL_addPackage) (maxL := 7) (ret := some .int) (hh := [(0, 14, 17, 13), (0, 14, 21, 15)]) 6 hts gL_law_L_addPackage rfl rfl rfl (by decide +kernel) ⟨Nat.le_of_ble_eq_true rfl, Nat.le_of_ble_eq_true rfl⟩) (zLS hP (w2_l hD) hE hN (lwZ hZ0 hS) (fun q h => Nat.le_trans hS.1 h)) rfl rfl hl.1 rfl (lv_room (Nat.le_of_ble_eq_true rfl)) dL_law_362 (by show _ ≤ 601024 ∧ _ ≤ 7293034; omega)) hY hD hS hA (fun u g1 H locs hu hP hY hD hS => ?_)
  obtain ⟨hv9, hR9⟩ := hP9 _ _ hu
  refine lv_istore (lv' := [(5, .int (nI 0)), (0, .ref b), (1, .ref h0), (2, .ref hm), (3, .ref ob), (4, .int (nI (6 * k)))]) hx hb dL_law_365 hl (by decide) rfl (fun ls hl => ?_)
  refine lv_aload_n hx hb dL_law_367 rfl (lv_at hl 3 rfl) ?_
  refine lv_aload_n hx hb dL_law_368 rfl (lv_at hl 1 rfl) ?_
  refine lv_iload hx hb dL_law_369 (lv_at hl 5 rfl) ?_
  refine lv_iconst (v := nI 1) hx hb dL_law_371 (by decide) ?_
  refine lv_iadd hx hb dL_law_372 ?_
  refine zasi (show ((nI (6 * k)) + (nI 1)) = nI (6 * k + 1) from nI_add _ _) ?_
  refine zsl hx hb hX hbl hL3 hS (show 6 * k + 1 < Ln by omega) e1 dL_law_373 ?_
  refine lv_aload_n hx hb dL_law_374 rfl (lv_at hl 1 rfl) ?_
  refine lv_iload hx hb dL_law_375 (lv_at hl 5 rfl) ?_
  refine lv_iconst (v := nI 2) hx hb dL_law_377 (by decide) ?_
  refine lv_iadd hx hb dL_law_378 ?_
  refine zasi (show ((nI (6 * k)) + (nI 2)) = nI (6 * k + 2) from nI_add _ _) ?_
  refine zsl hx hb hX hbl hL3 hS (show 6 * k + 2 < Ln by omega) e2 dL_law_379 ?_
  refine lv_aload_n hx hb dL_law_380 rfl (lv_at hl 1 rfl) ?_
  refine lv_iload hx hb dL_law_381 (lv_at hl 5 rfl) ?_
  refine lv_iconst (v := nI 3) hx hb dL_law_383 (by decide) ?_
  refine lv_iadd hx hb dL_law_384 ?_
  refine zasi (show ((nI (6 * k)) + (nI 3)) = nI (6 * k + 3) from nI_add _ _) ?_
  refine zsl hx hb hX hbl hL3 hS (show 6 * k + 3 < Ln by omega) e3 dL_law_385 ?_
  refine lv_aload_n hx hb dL_law_386 rfl (lv_at hl 1 rfl) ?_
  refine lv_iload hx hb dL_law_387 (lv_at hl 5 rfl) ?_
  refine lv_iconst (v := nI 4) hx hb dL_law_389 (by decide) ?_
  refine lv_iadd hx hb dL_law_390 ?_
  refine zasi (show ((nI (6 * k)) + (nI 4)) = nI (6 * k + 4) from nI_add _ _) ?_
  refine zsl hx hb hX hbl hL3 hS (show 6 * k + 4 < Ln by omega) e4 dL_law_391 ?_
  refine zgm (va_runV (As := [.int v1, .int v2, .int v3, .int v4]) (rest := []) ⟨hx, hb, hml, hown, hts⟩ (hM H.size) (cwV 4 hts gL_law_X5_addPackage rfl rfl rfl (by decide +kernel) ⟨Nat.le_of_ble_eq_true rfl, Nat.le_of_ble_eq_true rfl⟩) (zmV (q0 := 0) (ci := 5) hY (w2_r hD) hE rfl rfl) rfl rfl hl.1 rfl (lv_room (Nat.le_of_ble_eq_true rfl)) dL_law_392 (by show _ ≤ 601024 ∧ _ ≤ 7293034; omega)) hP hD hS hA rfl (fun r H locs hr9b hP hY hD hS => ?_)
  rw [show r = val from hr9b]
  refine lv_istore (lv' := [(6, .int val), (5, .int (nI 0)), (0, .ref b), (1, .ref h0), (2, .ref hm), (3, .ref ob), (4, .int (nI (6 * k)))]) hx hb dL_law_395 hl (by decide) rfl (fun ls hl => ?_)
  refine lv_aload_n hx hb dL_law_397 rfl (lv_at hl 4 rfl) ?_
  refine zci (va_runV (As := []) (rest := []) ⟨hx, hb, hml, hown, hts⟩ (m_thrown l D ca sa hm ad _ _ _ _ _ _) (cwV 0 hts gL_law_X5_thrown rfl rfl rfl (by decide +kernel) ⟨Nat.le_of_ble_eq_true rfl, Nat.le_of_ble_eq_true rfl⟩) (zpV (q0 := 0) (ci := 5) hY hE rfl rfl) rfl rfl hl.1 rfl (lv_room (Nat.le_of_ble_eq_true rfl)) dL_law_398 (by show _ ≤ 601024 ∧ _ ≤ 7293034; omega)) ?_
  refine lv_iload hx hb dL_law_401 (lv_at hl 1 rfl) ?_
  refine lv_icmp_eq (tgt := 408) hx hb dL_law_403 (by decide) (fun c_403 => ?_) (fun c_403 => ?_)
  · refine lv_iload hx hb dL_law_408 (lv_at hl 1 rfl) ?_
    refine lv_if_ne (tgt := 425) hx hb dL_law_410 (by decide) (fun c_410 => ?_) (fun c_410 => ?_)
    · exact absurd c_410 (by decide)
    · refine lv_aload_n hx hb dL_law_413 rfl (lv_at hl 5 rfl) ?_
      refine lv_iconst (v := nI 0) hx hb dL_law_414 (by decide) ?_
      refine zol hx hb hE hP hv9 dL_law_415 ?_
      refine lv_iload hx hb dL_law_416 (lv_at hl 0 rfl) ?_
      refine lv_i2l hx hb dL_law_418 rfl ?_
      refine W.lcmp hx hb dL_law_419 ?_
      refine zasi (show (lg_cmp (val.toInt64) (val.toInt64)) = nI 0 from zcmp _) ?_
      refine lv_if_eq (tgt := 425) hx hb dL_law_420 (by decide) (fun c_420 => ?_) (fun c_420 => ?_)
      · refine lv_goto (tgt := 1551) hx hb dL_law_425 (by decide) ?_
        refine W.widen (k := cells + 24) (n := slots + 100) (by omega) (by omega) ?_
        exact kk V' nc' M' _ _ _ _ H locs ls ⟨hI, hR9, hP, hY, hD, hS, lv_sub hl [2, 3, 4, 5, 6] rfl⟩
      · exact absurd c_420 (by decide)
  · exact absurd c_403 (by decide)

set_option maxHeartbeats 4000000 in
set_option maxRecDepth 100000 in
theorem st_addPackage_x {p : Program} {l : Launch} {e : Env} {s : State} {m : MethodId} {below : List Frame} {meth : Method} {c : Code} {b Ln : Nat} {xs : Nat → Int32} {D : va_G} {ca : Nat → ClassId} {sa : Nat → Nat} (C : lw_C p l s m meth c b Ln xs D ca sa) {h0 hm ob : Nat} {ad : Nat → Nat} {k : Nat} {H : Heap} {locs : List Loc} {ls : Array Slot} {V : zV} {nc : Nat} {M : Nat → Nat → Int32} {th : Int32} {L : List Nat} {f : Nat → va_E} {g : Nat → Int64} (S : lw_S D ca s h0 hm ob b ad k (6 * k) H locs ls V nc M th L f g) (hk : k < 512) (hi : 6 * k + 6 ≤ Ln) {cells slots : Nat} {Q : State → Prop} (hroom : cells + 24 ≤ 601024 ∧ slots + 100 ≤ 7293034) {v1 v2 v3 v4 : Int32} (e1 : xs (6 * k + 1) = v1) (e2 : xs (6 * k + 2) = v2) (e3 : xs (6 * k + 3) = v3) (e4 : xs (6 * k + 4) = v4) {mc ms : Nat} (hmc : mc ≤ 24) (hms : ms ≤ 100) {r9 : Int32} (hr9 : r9 = nI 1 ∨ r9 = nI 2) (hC : ∀ sz, vx_Met l yL_addPackage wsL_addPackage ({ frames := 10, cells := mc, slots := ms, locals := 450 }) (va_Pc [.ref h0, .int v1, .int v2, .int v3, .int v4, .ref ob] (zLp D L f ob g ca sa sz)) (va_Qi (fun (r : Int32) (_ : Unit) => r = r9) (fun _ _ => True) (fun q => sz ≤ q)) zX0 mc ms (fun q => sz ≤ q)) (hM : ∀ sz, Met l yX5_addPackage wsX5_addPackage ({ frames := 9, cells := 0, slots := 0, locals := 360 }) (va_Pc [.ref hm, .int v1, .int v2, .int v3, .int v4] (zMp D (mW hm ad ca th (vTd V) (vNt V) (vNp V) nc M) ca sa sz)) (va_Qi (fun (r : Int32) (_ : Unit) => True) (fun _ t9 => va_P D vwCl (mW hm ad ca r9 (vTd V) (vNt V) (vNp V) nc M) t9.heap) (va_A (mW hm ad ca th (vTd V) (vNt V) (vNp V) nc M) sz)) 0 0 (va_A (mW hm ad ca th (vTd V) (vNt V) (vNp V) nc M) sz)) (kk : ∀ (V' : zV) (nc' : Nat) (M' : Nat → Nat → Int32) (th' : Int32) (L' : List Nat) (f' : Nat → va_E) (g' : Nat → Int64) (H1 : Heap) (locs1 : List Loc) (ls1 : Array Slot), lw_S D ca s h0 hm ob b ad (k + 1) (6 * k) H1 locs1 ls1 V' nc' M' th' L' f' g' → W p l e room_1 s m #[Value.ref b] below meth c H1 locs1 (cells + 24) (slots + 100) Q (F0 m 1551 ls1 [])) : W p l e room_1 s m #[Value.ref b] below meth c H locs cells slots Q (F0 m 336 ls []) := by
  obtain ⟨⟨hx, hb, hml, hown, hts⟩, hX, hbl, hL3, hE, hN, hZ0, hl0⟩ := C
  obtain ⟨hI0, ⟨ta, pa, aT, aP, aS, aH, n9, hR⟩, hP, hY, hD, hS, hl⟩ := S
  have h4 := hR.1.1
  have hA : ∀ q : Nat, s.heap.size ≤ q → (fun q => s.heap.size ≤ q) q := fun _ h => h
  refine lv_aload_n hx hb dL_law_336 rfl (lv_at hl 1 rfl) ?_
  refine lv_aload_n hx hb dL_law_337 rfl (lv_at hl 0 rfl) ?_
  refine lv_iload hx hb dL_law_338 (lv_at hl 4 rfl) ?_
  refine lv_iconst (v := nI 1) hx hb dL_law_340 (by decide) ?_
  refine lv_iadd hx hb dL_law_341 ?_
  refine zasi (show ((nI (6 * k)) + (nI 1)) = nI (6 * k + 1) from nI_add _ _) ?_
  refine zsl hx hb hX hbl hL3 hS (show 6 * k + 1 < Ln by omega) e1 dL_law_342 ?_
  refine lv_aload_n hx hb dL_law_343 rfl (lv_at hl 0 rfl) ?_
  refine lv_iload hx hb dL_law_344 (lv_at hl 4 rfl) ?_
  refine lv_iconst (v := nI 2) hx hb dL_law_346 (by decide) ?_
  refine lv_iadd hx hb dL_law_347 ?_
  refine zasi (show ((nI (6 * k)) + (nI 2)) = nI (6 * k + 2) from nI_add _ _) ?_
  refine zsl hx hb hX hbl hL3 hS (show 6 * k + 2 < Ln by omega) e2 dL_law_348 ?_
  refine lv_aload_n hx hb dL_law_349 rfl (lv_at hl 0 rfl) ?_
  refine lv_iload hx hb dL_law_350 (lv_at hl 4 rfl) ?_
  refine lv_iconst (v := nI 3) hx hb dL_law_352 (by decide) ?_
  refine lv_iadd hx hb dL_law_353 ?_
  refine zasi (show ((nI (6 * k)) + (nI 3)) = nI (6 * k + 3) from nI_add _ _) ?_
  refine zsl hx hb hX hbl hL3 hS (show 6 * k + 3 < Ln by omega) e3 dL_law_354 ?_
  refine lv_aload_n hx hb dL_law_355 rfl (lv_at hl 0 rfl) ?_
  refine lv_iload hx hb dL_law_356 (lv_at hl 4 rfl) ?_
  refine lv_iconst (v := nI 4) hx hb dL_law_358 (by decide) ?_
  refine lv_iadd hx hb dL_law_359 ?_
  refine zasi (show ((nI (6 * k)) + (nI 4)) = nI (6 * k + 4) from nI_add _ _) ?_
  refine zsl hx hb hX hbl hL3 hS (show 6 * k + 4 < Ln by omega) e4 dL_law_360 ?_
  refine lv_aload_n hx hb dL_law_361 rfl (lv_at hl 3 rfl) ?_
  refine zgx (vx_runSX (As := [.ref h0, .int v1, .int v2, .int v3, .int v4, .ref ob]) (rest := []) ⟨hx, hb, hml, hown, hts⟩ (hC H.size) (vx_cwSW (bytes := cL_addPackage) (maxL := 7) (ret := some .int) (hh := [(0, 14, 17, 13), (0, 14, 21, 15)]) 6 hts gL_law_L_addPackage rfl rfl rfl (by decide +kernel) ⟨Nat.le_of_ble_eq_true rfl, Nat.le_of_ble_eq_true rfl⟩) (zLS hP (w2_l hD) hE hN (lwZ hZ0 hS) (fun q h => Nat.le_trans hS.1 h)) rfl rfl hl.1 rfl (lv_room (Nat.le_of_ble_eq_true rfl)) dL_law_362 (by show _ ≤ 601024 ∧ _ ≤ 7293034; omega)) hP hY hS hA (fun H locs hP hY hS => ?_)
  refine lv_istore (lv' := [(5, .int r9), (0, .ref b), (1, .ref h0), (2, .ref hm), (3, .ref ob), (4, .int (nI (6 * k)))]) hx hb dL_law_365 hl (by decide) rfl (fun ls hl => ?_)
  refine lv_aload_n hx hb dL_law_367 rfl (lv_at hl 3 rfl) ?_
  refine lv_aload_n hx hb dL_law_368 rfl (lv_at hl 1 rfl) ?_
  refine lv_iload hx hb dL_law_369 (lv_at hl 5 rfl) ?_
  refine lv_iconst (v := nI 1) hx hb dL_law_371 (by decide) ?_
  refine lv_iadd hx hb dL_law_372 ?_
  refine zasi (show ((nI (6 * k)) + (nI 1)) = nI (6 * k + 1) from nI_add _ _) ?_
  refine zsl hx hb hX hbl hL3 hS (show 6 * k + 1 < Ln by omega) e1 dL_law_373 ?_
  refine lv_aload_n hx hb dL_law_374 rfl (lv_at hl 1 rfl) ?_
  refine lv_iload hx hb dL_law_375 (lv_at hl 5 rfl) ?_
  refine lv_iconst (v := nI 2) hx hb dL_law_377 (by decide) ?_
  refine lv_iadd hx hb dL_law_378 ?_
  refine zasi (show ((nI (6 * k)) + (nI 2)) = nI (6 * k + 2) from nI_add _ _) ?_
  refine zsl hx hb hX hbl hL3 hS (show 6 * k + 2 < Ln by omega) e2 dL_law_379 ?_
  refine lv_aload_n hx hb dL_law_380 rfl (lv_at hl 1 rfl) ?_
  refine lv_iload hx hb dL_law_381 (lv_at hl 5 rfl) ?_
  refine lv_iconst (v := nI 3) hx hb dL_law_383 (by decide) ?_
  refine lv_iadd hx hb dL_law_384 ?_
  refine zasi (show ((nI (6 * k)) + (nI 3)) = nI (6 * k + 3) from nI_add _ _) ?_
  refine zsl hx hb hX hbl hL3 hS (show 6 * k + 3 < Ln by omega) e3 dL_law_385 ?_
  refine lv_aload_n hx hb dL_law_386 rfl (lv_at hl 1 rfl) ?_
  refine lv_iload hx hb dL_law_387 (lv_at hl 5 rfl) ?_
  refine lv_iconst (v := nI 4) hx hb dL_law_389 (by decide) ?_
  refine lv_iadd hx hb dL_law_390 ?_
  refine zasi (show ((nI (6 * k)) + (nI 4)) = nI (6 * k + 4) from nI_add _ _) ?_
  refine zsl hx hb hX hbl hL3 hS (show 6 * k + 4 < Ln by omega) e4 dL_law_391 ?_
  refine zgm (va_runV (As := [.int v1, .int v2, .int v3, .int v4]) (rest := []) ⟨hx, hb, hml, hown, hts⟩ (hM H.size) (cwV 4 hts gL_law_X5_addPackage rfl rfl rfl (by decide +kernel) ⟨Nat.le_of_ble_eq_true rfl, Nat.le_of_ble_eq_true rfl⟩) (zmV (q0 := 0) (ci := 5) hY (w2_r hD) hE rfl rfl) rfl rfl hl.1 rfl (lv_room (Nat.le_of_ble_eq_true rfl)) dL_law_392 (by show _ ≤ 601024 ∧ _ ≤ 7293034; omega)) hP hD hS hA rfl (fun r H locs hr9b hP hY hD hS => ?_)
  refine lv_istore (lv' := [(6, .int r), (5, .int r9), (0, .ref b), (1, .ref h0), (2, .ref hm), (3, .ref ob), (4, .int (nI (6 * k)))]) hx hb dL_law_395 hl (by decide) rfl (fun ls hl => ?_)
  refine lv_aload_n hx hb dL_law_397 rfl (lv_at hl 4 rfl) ?_
  refine zci (va_runV (As := []) (rest := []) ⟨hx, hb, hml, hown, hts⟩ (m_thrown l D ca sa hm ad _ _ _ _ _ _) (cwV 0 hts gL_law_X5_thrown rfl rfl rfl (by decide +kernel) ⟨Nat.le_of_ble_eq_true rfl, Nat.le_of_ble_eq_true rfl⟩) (zpV (q0 := 0) (ci := 5) hY hE rfl rfl) rfl rfl hl.1 rfl (lv_room (Nat.le_of_ble_eq_true rfl)) dL_law_398 (by show _ ≤ 601024 ∧ _ ≤ 7293034; omega)) ?_
  refine lv_iload hx hb dL_law_401 (lv_at hl 1 rfl) ?_
  refine lv_icmp_eq (tgt := 408) hx hb dL_law_403 (by decide) (fun c_403 => ?_) (fun c_403 => ?_)
  · refine lv_iload hx hb dL_law_408 (lv_at hl 1 rfl) ?_
    refine lv_if_ne (tgt := 425) hx hb dL_law_410 (by decide) (fun c_410 => ?_) (fun c_410 => ?_)
    · refine lv_goto (tgt := 1551) hx hb dL_law_425 (by decide) ?_
      refine W.widen (k := cells + 24) (n := slots + 100) (by omega) (by omega) ?_
      exact kk V nc M _ _ _ _ H locs ls ⟨i_up hI0 hk, ⟨ta, pa, aT, aP, aS, aH, n9, zRep_up hR (Nat.le_succ k) (by omega)⟩, hP, hY, hD, hS, lv_sub hl [2, 3, 4, 5, 6] rfl⟩
    · exact absurd c_410 (by rcases hr9 with rfl | rfl <;> decide)
  · exact absurd rfl c_403

set_option maxHeartbeats 4000000 in
set_option maxRecDepth 100000 in
theorem st_subscribe_ok {p : Program} {l : Launch} {e : Env} {s : State} {m : MethodId} {below : List Frame} {meth : Method} {c : Code} {b Ln : Nat} {xs : Nat → Int32} {D : va_G} {ca : Nat → ClassId} {sa : Nat → Nat} (C : lw_C p l s m meth c b Ln xs D ca sa) {h0 hm ob : Nat} {ad : Nat → Nat} {k : Nat} {H : Heap} {locs : List Loc} {ls : Array Slot} {V : zV} {nc : Nat} {M : Nat → Nat → Int32} {th : Int32} {L : List Nat} {f : Nat → va_E} {g : Nat → Int64} (S : lw_S D ca s h0 hm ob b ad k (6 * k) H locs ls V nc M th L f g) (hk : k < 512) (hi : 6 * k + 6 ≤ Ln) {cells slots : Nat} {Q : State → Prop} (hroom : cells + 24 ≤ 601024 ∧ slots + 100 ≤ 7293034) {v1 v2 : Int32} (e1 : xs (6 * k + 1) = v1) (e2 : xs (6 * k + 2) = v2) {bv : Bool} (hbv : bv = decide (¬ v2 = 0)) {mc ms : Nat} (hmc : mc ≤ 24) (hms : ms ≤ 100) {V' : zV} {nc' : Nat} {M' : Nat → Nat → Int32} {P : Int64 → zU → Prop} {bt : Bool} (hP9 : ∀ x u, P x u → x = bL bt ∧ zR u.1 u.2 ca h0 (k + 1) V') (hI : Inv V' nc' M' (k + 1)) (hC : ∀ sz, vx_Met l yL_subscribe wsL_subscribe ({ frames := 10, cells := mc, slots := ms, locals := 450 }) (va_Pc [.ref h0, .int v1, .int (bI bv), .ref ob] (zLp D L f ob g ca sa sz)) (va_Qi (fun (r : Int32) (u : zU × (Nat → Int64)) => r = nI 0 ∧ P (u.2 0) u.1) (fun u t => va_P D vwCl (oW ca ob u.2 ++ va_pl u.1.1 u.1.2) t.heap ∧ va_D (va_A (oW ca ob g ++ va_pl L f) sz) (oW ca ob u.2 ++ va_pl u.1.1 u.1.2)) (va_A (oW ca ob g ++ va_pl L f) sz)) zX0 mc ms (va_A (oW ca ob g ++ va_pl L f) sz)) (hM : ∀ sz, Met l yX5_subscribe wsX5_subscribe ({ frames := 9, cells := 0, slots := 0, locals := 360 }) (va_Pc [.ref hm, .int v1, .int (bI bv)] (zMp D (mW hm ad ca th (vTd V) (vNt V) (vNp V) nc M) ca sa sz)) (va_Qi (fun (r : Int32) (_ : Unit) => r = bI bt) (fun _ t9 => va_P D vwCl (mW hm ad ca (nI 0) (vTd V') (vNt V') (vNp V') nc' M') t9.heap) (va_A (mW hm ad ca th (vTd V) (vNt V) (vNp V) nc M) sz)) 0 0 (va_A (mW hm ad ca th (vTd V) (vNt V) (vNp V) nc M) sz)) (kk : ∀ (V' : zV) (nc' : Nat) (M' : Nat → Nat → Int32) (th' : Int32) (L' : List Nat) (f' : Nat → va_E) (g' : Nat → Int64) (H1 : Heap) (locs1 : List Loc) (ls1 : Array Slot), lw_S D ca s h0 hm ob b ad (k + 1) (6 * k) H1 locs1 ls1 V' nc' M' th' L' f' g' → W p l e room_1 s m #[Value.ref b] below meth c H1 locs1 (cells + 24) (slots + 100) Q (F0 m 1551 ls1 [])) : W p l e room_1 s m #[Value.ref b] below meth c H locs cells slots Q (F0 m 428 ls []) := by
  obtain ⟨⟨hx, hb, hml, hown, hts⟩, hX, hbl, hL3, hE, hN, hZ0, hl0⟩ := C
  obtain ⟨hI0, ⟨ta, pa, aT, aP, aS, aH, n9, hR⟩, hP, hY, hD, hS, hl⟩ := S
  have h4 := hR.1.1
  have hA : ∀ q : Nat, s.heap.size ≤ q → (fun q => s.heap.size ≤ q) q := fun _ h => h
  refine lv_aload_n hx hb dL_law_428 rfl (lv_at hl 1 rfl) ?_
  refine lv_aload_n hx hb dL_law_429 rfl (lv_at hl 0 rfl) ?_
  refine lv_iload hx hb dL_law_430 (lv_at hl 4 rfl) ?_
  refine lv_iconst (v := nI 1) hx hb dL_law_432 (by decide) ?_
  refine lv_iadd hx hb dL_law_433 ?_
  refine zasi (show ((nI (6 * k)) + (nI 1)) = nI (6 * k + 1) from nI_add _ _) ?_
  refine zsl hx hb hX hbl hL3 hS (show 6 * k + 1 < Ln by omega) e1 dL_law_434 ?_
  refine lv_aload_n hx hb dL_law_435 rfl (lv_at hl 0 rfl) ?_
  refine lv_iload hx hb dL_law_436 (lv_at hl 4 rfl) ?_
  refine lv_iconst (v := nI 2) hx hb dL_law_438 (by decide) ?_
  refine lv_iadd hx hb dL_law_439 ?_
  refine zasi (show ((nI (6 * k)) + (nI 2)) = nI (6 * k + 2) from nI_add _ _) ?_
  refine zsl hx hb hX hbl hL3 hS (show 6 * k + 2 < Ln by omega) e2 dL_law_440 ?_
  refine lv_if_eq (tgt := 448) hx hb dL_law_441 (by decide) (fun c_441 => ?_) (fun c_441 => ?_)
  · refine lv_iconst (v := nI 0) hx hb dL_law_448 (by decide) ?_
    refine zasi (show (nI 0) = bI bv from by rw [hbv, decide_eq_false (fun z => z c_441)]; rfl) ?_
    refine lv_aload_n hx hb dL_law_449 rfl (lv_at hl 3 rfl) ?_
    refine zgo (vx_runSX (As := [.ref h0, .int v1, .int (bI bv), .ref ob]) (rest := []) ⟨hx, hb, hml, hown, hts⟩ (hC H.size) (vx_cwSW (bytes := cL_subscribe) (maxL := 5) (ret := some .int) (hh := [(0, 17, 20, 20)]) 4 hts gL_law_L_subscribe rfl rfl rfl (by decide +kernel) ⟨Nat.le_of_ble_eq_true rfl, Nat.le_of_ble_eq_true rfl⟩) (zLS hP (w2_l hD) hE hN (lwZ hZ0 hS) (fun q h => Nat.le_trans hS.1 h)) rfl rfl hl.1 rfl (lv_room (Nat.le_of_ble_eq_true rfl)) dL_law_450 (by show _ ≤ 601024 ∧ _ ≤ 7293034; omega)) hY hD hS hA (fun u g1 H locs hu hP hY hD hS => ?_)
    obtain ⟨hv9, hR9⟩ := hP9 _ _ hu
    refine lv_istore (lv' := [(5, .int (nI 0)), (0, .ref b), (1, .ref h0), (2, .ref hm), (3, .ref ob), (4, .int (nI (6 * k)))]) hx hb dL_law_453 hl (by decide) rfl (fun ls hl => ?_)
    refine lv_aload_n hx hb dL_law_455 rfl (lv_at hl 3 rfl) ?_
    refine lv_aload_n hx hb dL_law_456 rfl (lv_at hl 1 rfl) ?_
    refine lv_iload hx hb dL_law_457 (lv_at hl 5 rfl) ?_
    refine lv_iconst (v := nI 1) hx hb dL_law_459 (by decide) ?_
    refine lv_iadd hx hb dL_law_460 ?_
    refine zasi (show ((nI (6 * k)) + (nI 1)) = nI (6 * k + 1) from nI_add _ _) ?_
    refine zsl hx hb hX hbl hL3 hS (show 6 * k + 1 < Ln by omega) e1 dL_law_461 ?_
    refine lv_aload_n hx hb dL_law_462 rfl (lv_at hl 1 rfl) ?_
    refine lv_iload hx hb dL_law_463 (lv_at hl 5 rfl) ?_
    refine lv_iconst (v := nI 2) hx hb dL_law_465 (by decide) ?_
    refine lv_iadd hx hb dL_law_466 ?_
    refine zasi (show ((nI (6 * k)) + (nI 2)) = nI (6 * k + 2) from nI_add _ _) ?_
    refine zsl hx hb hX hbl hL3 hS (show 6 * k + 2 < Ln by omega) e2 dL_law_467 ?_
    refine lv_if_eq (tgt := 475) hx hb dL_law_468 (by decide) (fun c_468 => ?_) (fun c_468 => ?_)
    · refine lv_iconst (v := nI 0) hx hb dL_law_475 (by decide) ?_
      refine zasi (show (nI 0) = bI bv from by rw [hbv, decide_eq_false (fun z => z c_468)]; rfl) ?_
      refine zgm (va_runV (As := [.int v1, .int (bI bv)]) (rest := []) ⟨hx, hb, hml, hown, hts⟩ (hM H.size) (cwV 2 hts gL_law_X5_subscribe rfl rfl rfl (by decide +kernel) ⟨Nat.le_of_ble_eq_true rfl, Nat.le_of_ble_eq_true rfl⟩) (zmV (q0 := 0) (ci := 5) hY (w2_r hD) hE rfl rfl) rfl rfl hl.1 rfl (lv_room (Nat.le_of_ble_eq_true rfl)) dL_law_476 (by show _ ≤ 601024 ∧ _ ≤ 7293034; omega)) hP hD hS hA rfl (fun r H locs hr9b hP hY hD hS => ?_)
      subst hr9b
      refine lv_istore (lv' := [(6, .int (bI bt)), (5, .int (nI 0)), (0, .ref b), (1, .ref h0), (2, .ref hm), (3, .ref ob), (4, .int (nI (6 * k)))]) hx hb dL_law_479 hl (by decide) rfl (fun ls hl => ?_)
      refine lv_aload_n hx hb dL_law_481 rfl (lv_at hl 4 rfl) ?_
      refine zci (va_runV (As := []) (rest := []) ⟨hx, hb, hml, hown, hts⟩ (m_thrown l D ca sa hm ad _ _ _ _ _ _) (cwV 0 hts gL_law_X5_thrown rfl rfl rfl (by decide +kernel) ⟨Nat.le_of_ble_eq_true rfl, Nat.le_of_ble_eq_true rfl⟩) (zpV (q0 := 0) (ci := 5) hY hE rfl rfl) rfl rfl hl.1 rfl (lv_room (Nat.le_of_ble_eq_true rfl)) dL_law_482 (by show _ ≤ 601024 ∧ _ ≤ 7293034; omega)) ?_
      refine lv_iload hx hb dL_law_485 (lv_at hl 1 rfl) ?_
      refine lv_icmp_eq (tgt := 492) hx hb dL_law_487 (by decide) (fun c_487 => ?_) (fun c_487 => ?_)
      · refine lv_iload hx hb dL_law_492 (lv_at hl 1 rfl) ?_
        refine lv_if_ne (tgt := 516) hx hb dL_law_494 (by decide) (fun c_494 => ?_) (fun c_494 => ?_)
        · exact absurd c_494 (by decide)
        · refine lv_aload_n hx hb dL_law_497 rfl (lv_at hl 5 rfl) ?_
          refine lv_iconst (v := nI 0) hx hb dL_law_498 (by decide) ?_
          refine zol hx hb hE hP hv9 dL_law_499 ?_
          refine lv_iload hx hb dL_law_500 (lv_at hl 0 rfl) ?_
          refine lv_if_eq (tgt := 509) hx hb dL_law_502 (by decide) (fun c_502 => ?_) (fun c_502 => ?_)
          · refine lv_lconst (v := 0) hx hb dL_law_509 (by decide) ?_
            refine W.lcmp hx hb dL_law_510 ?_
            refine zasi (show (lg_cmp ((bL bt)) 0) = nI 0 from by rw [bI_eq0 c_502]; exact zcmp _) ?_
            refine lv_if_eq (tgt := 516) hx hb dL_law_511 (by decide) (fun c_511 => ?_) (fun c_511 => ?_)
            · refine lv_goto (tgt := 1551) hx hb dL_law_516 (by decide) ?_
              refine W.widen (k := cells + 24) (n := slots + 100) (by omega) (by omega) ?_
              exact kk V' nc' M' _ _ _ _ H locs ls ⟨hI, hR9, hP, hY, hD, hS, lv_sub hl [2, 3, 4, 5, 6] rfl⟩
            · exact absurd c_511 (by decide)
          · refine lv_lconst (v := 1) hx hb dL_law_505 (by decide) ?_
            refine lv_goto (tgt := 510) hx hb dL_law_506 (by decide) ?_
            refine W.lcmp hx hb dL_law_510 ?_
            refine zasi (show (lg_cmp ((bL bt)) 1) = nI 0 from by rw [bI_ne0 c_502]; exact zcmp _) ?_
            refine lv_if_eq (tgt := 516) hx hb dL_law_511 (by decide) (fun c_511 => ?_) (fun c_511 => ?_)
            · refine lv_goto (tgt := 1551) hx hb dL_law_516 (by decide) ?_
              refine W.widen (k := cells + 24) (n := slots + 100) (by omega) (by omega) ?_
              exact kk V' nc' M' _ _ _ _ H locs ls ⟨hI, hR9, hP, hY, hD, hS, lv_sub hl [2, 3, 4, 5, 6] rfl⟩
            · exact absurd c_511 (by decide)
      · exact absurd c_487 (by decide)
    · refine lv_iconst (v := nI 1) hx hb dL_law_471 (by decide) ?_
      refine zasi (show (nI 1) = bI bv from by rw [hbv, decide_eq_true c_468]; rfl) ?_
      refine lv_goto (tgt := 476) hx hb dL_law_472 (by decide) ?_
      refine zgm (va_runV (As := [.int v1, .int (bI bv)]) (rest := []) ⟨hx, hb, hml, hown, hts⟩ (hM H.size) (cwV 2 hts gL_law_X5_subscribe rfl rfl rfl (by decide +kernel) ⟨Nat.le_of_ble_eq_true rfl, Nat.le_of_ble_eq_true rfl⟩) (zmV (q0 := 0) (ci := 5) hY (w2_r hD) hE rfl rfl) rfl rfl hl.1 rfl (lv_room (Nat.le_of_ble_eq_true rfl)) dL_law_476 (by show _ ≤ 601024 ∧ _ ≤ 7293034; omega)) hP hD hS hA rfl (fun r H locs hr9b hP hY hD hS => ?_)
      subst hr9b
      refine lv_istore (lv' := [(6, .int (bI bt)), (5, .int (nI 0)), (0, .ref b), (1, .ref h0), (2, .ref hm), (3, .ref ob), (4, .int (nI (6 * k)))]) hx hb dL_law_479 hl (by decide) rfl (fun ls hl => ?_)
      refine lv_aload_n hx hb dL_law_481 rfl (lv_at hl 4 rfl) ?_
      refine zci (va_runV (As := []) (rest := []) ⟨hx, hb, hml, hown, hts⟩ (m_thrown l D ca sa hm ad _ _ _ _ _ _) (cwV 0 hts gL_law_X5_thrown rfl rfl rfl (by decide +kernel) ⟨Nat.le_of_ble_eq_true rfl, Nat.le_of_ble_eq_true rfl⟩) (zpV (q0 := 0) (ci := 5) hY hE rfl rfl) rfl rfl hl.1 rfl (lv_room (Nat.le_of_ble_eq_true rfl)) dL_law_482 (by show _ ≤ 601024 ∧ _ ≤ 7293034; omega)) ?_
      refine lv_iload hx hb dL_law_485 (lv_at hl 1 rfl) ?_
      refine lv_icmp_eq (tgt := 492) hx hb dL_law_487 (by decide) (fun c_487 => ?_) (fun c_487 => ?_)
      · refine lv_iload hx hb dL_law_492 (lv_at hl 1 rfl) ?_
        refine lv_if_ne (tgt := 516) hx hb dL_law_494 (by decide) (fun c_494 => ?_) (fun c_494 => ?_)
        · exact absurd c_494 (by decide)
        · refine lv_aload_n hx hb dL_law_497 rfl (lv_at hl 5 rfl) ?_
          refine lv_iconst (v := nI 0) hx hb dL_law_498 (by decide) ?_
          refine zol hx hb hE hP hv9 dL_law_499 ?_
          refine lv_iload hx hb dL_law_500 (lv_at hl 0 rfl) ?_
          refine lv_if_eq (tgt := 509) hx hb dL_law_502 (by decide) (fun c_502 => ?_) (fun c_502 => ?_)
          · refine lv_lconst (v := 0) hx hb dL_law_509 (by decide) ?_
            refine W.lcmp hx hb dL_law_510 ?_
            refine zasi (show (lg_cmp ((bL bt)) 0) = nI 0 from by rw [bI_eq0 c_502]; exact zcmp _) ?_
            refine lv_if_eq (tgt := 516) hx hb dL_law_511 (by decide) (fun c_511 => ?_) (fun c_511 => ?_)
            · refine lv_goto (tgt := 1551) hx hb dL_law_516 (by decide) ?_
              refine W.widen (k := cells + 24) (n := slots + 100) (by omega) (by omega) ?_
              exact kk V' nc' M' _ _ _ _ H locs ls ⟨hI, hR9, hP, hY, hD, hS, lv_sub hl [2, 3, 4, 5, 6] rfl⟩
            · exact absurd c_511 (by decide)
          · refine lv_lconst (v := 1) hx hb dL_law_505 (by decide) ?_
            refine lv_goto (tgt := 510) hx hb dL_law_506 (by decide) ?_
            refine W.lcmp hx hb dL_law_510 ?_
            refine zasi (show (lg_cmp ((bL bt)) 1) = nI 0 from by rw [bI_ne0 c_502]; exact zcmp _) ?_
            refine lv_if_eq (tgt := 516) hx hb dL_law_511 (by decide) (fun c_511 => ?_) (fun c_511 => ?_)
            · refine lv_goto (tgt := 1551) hx hb dL_law_516 (by decide) ?_
              refine W.widen (k := cells + 24) (n := slots + 100) (by omega) (by omega) ?_
              exact kk V' nc' M' _ _ _ _ H locs ls ⟨hI, hR9, hP, hY, hD, hS, lv_sub hl [2, 3, 4, 5, 6] rfl⟩
            · exact absurd c_511 (by decide)
      · exact absurd c_487 (by decide)
  · refine lv_iconst (v := nI 1) hx hb dL_law_444 (by decide) ?_
    refine zasi (show (nI 1) = bI bv from by rw [hbv, decide_eq_true c_441]; rfl) ?_
    refine lv_goto (tgt := 449) hx hb dL_law_445 (by decide) ?_
    refine lv_aload_n hx hb dL_law_449 rfl (lv_at hl 3 rfl) ?_
    refine zgo (vx_runSX (As := [.ref h0, .int v1, .int (bI bv), .ref ob]) (rest := []) ⟨hx, hb, hml, hown, hts⟩ (hC H.size) (vx_cwSW (bytes := cL_subscribe) (maxL := 5) (ret := some .int) (hh := [(0, 17, 20, 20)]) 4 hts gL_law_L_subscribe rfl rfl rfl (by decide +kernel) ⟨Nat.le_of_ble_eq_true rfl, Nat.le_of_ble_eq_true rfl⟩) (zLS hP (w2_l hD) hE hN (lwZ hZ0 hS) (fun q h => Nat.le_trans hS.1 h)) rfl rfl hl.1 rfl (lv_room (Nat.le_of_ble_eq_true rfl)) dL_law_450 (by show _ ≤ 601024 ∧ _ ≤ 7293034; omega)) hY hD hS hA (fun u g1 H locs hu hP hY hD hS => ?_)
    obtain ⟨hv9, hR9⟩ := hP9 _ _ hu
    refine lv_istore (lv' := [(5, .int (nI 0)), (0, .ref b), (1, .ref h0), (2, .ref hm), (3, .ref ob), (4, .int (nI (6 * k)))]) hx hb dL_law_453 hl (by decide) rfl (fun ls hl => ?_)
    refine lv_aload_n hx hb dL_law_455 rfl (lv_at hl 3 rfl) ?_
    refine lv_aload_n hx hb dL_law_456 rfl (lv_at hl 1 rfl) ?_
    refine lv_iload hx hb dL_law_457 (lv_at hl 5 rfl) ?_
    refine lv_iconst (v := nI 1) hx hb dL_law_459 (by decide) ?_
    refine lv_iadd hx hb dL_law_460 ?_
    refine zasi (show ((nI (6 * k)) + (nI 1)) = nI (6 * k + 1) from nI_add _ _) ?_
    refine zsl hx hb hX hbl hL3 hS (show 6 * k + 1 < Ln by omega) e1 dL_law_461 ?_
    refine lv_aload_n hx hb dL_law_462 rfl (lv_at hl 1 rfl) ?_
    refine lv_iload hx hb dL_law_463 (lv_at hl 5 rfl) ?_
    refine lv_iconst (v := nI 2) hx hb dL_law_465 (by decide) ?_
    refine lv_iadd hx hb dL_law_466 ?_
    refine zasi (show ((nI (6 * k)) + (nI 2)) = nI (6 * k + 2) from nI_add _ _) ?_
    refine zsl hx hb hX hbl hL3 hS (show 6 * k + 2 < Ln by omega) e2 dL_law_467 ?_
    refine lv_if_eq (tgt := 475) hx hb dL_law_468 (by decide) (fun c_468 => ?_) (fun c_468 => ?_)
    · refine lv_iconst (v := nI 0) hx hb dL_law_475 (by decide) ?_
      refine zasi (show (nI 0) = bI bv from by rw [hbv, decide_eq_false (fun z => z c_468)]; rfl) ?_
      refine zgm (va_runV (As := [.int v1, .int (bI bv)]) (rest := []) ⟨hx, hb, hml, hown, hts⟩ (hM H.size) (cwV 2 hts gL_law_X5_subscribe rfl rfl rfl (by decide +kernel) ⟨Nat.le_of_ble_eq_true rfl, Nat.le_of_ble_eq_true rfl⟩) (zmV (q0 := 0) (ci := 5) hY (w2_r hD) hE rfl rfl) rfl rfl hl.1 rfl (lv_room (Nat.le_of_ble_eq_true rfl)) dL_law_476 (by show _ ≤ 601024 ∧ _ ≤ 7293034; omega)) hP hD hS hA rfl (fun r H locs hr9b hP hY hD hS => ?_)
      subst hr9b
      refine lv_istore (lv' := [(6, .int (bI bt)), (5, .int (nI 0)), (0, .ref b), (1, .ref h0), (2, .ref hm), (3, .ref ob), (4, .int (nI (6 * k)))]) hx hb dL_law_479 hl (by decide) rfl (fun ls hl => ?_)
      refine lv_aload_n hx hb dL_law_481 rfl (lv_at hl 4 rfl) ?_
      refine zci (va_runV (As := []) (rest := []) ⟨hx, hb, hml, hown, hts⟩ (m_thrown l D ca sa hm ad _ _ _ _ _ _) (cwV 0 hts gL_law_X5_thrown rfl rfl rfl (by decide +kernel) ⟨Nat.le_of_ble_eq_true rfl, Nat.le_of_ble_eq_true rfl⟩) (zpV (q0 := 0) (ci := 5) hY hE rfl rfl) rfl rfl hl.1 rfl (lv_room (Nat.le_of_ble_eq_true rfl)) dL_law_482 (by show _ ≤ 601024 ∧ _ ≤ 7293034; omega)) ?_
      refine lv_iload hx hb dL_law_485 (lv_at hl 1 rfl) ?_
      refine lv_icmp_eq (tgt := 492) hx hb dL_law_487 (by decide) (fun c_487 => ?_) (fun c_487 => ?_)
      · refine lv_iload hx hb dL_law_492 (lv_at hl 1 rfl) ?_
        refine lv_if_ne (tgt := 516) hx hb dL_law_494 (by decide) (fun c_494 => ?_) (fun c_494 => ?_)
        · exact absurd c_494 (by decide)
        · refine lv_aload_n hx hb dL_law_497 rfl (lv_at hl 5 rfl) ?_
          refine lv_iconst (v := nI 0) hx hb dL_law_498 (by decide) ?_
          refine zol hx hb hE hP hv9 dL_law_499 ?_
          refine lv_iload hx hb dL_law_500 (lv_at hl 0 rfl) ?_
          refine lv_if_eq (tgt := 509) hx hb dL_law_502 (by decide) (fun c_502 => ?_) (fun c_502 => ?_)
          · refine lv_lconst (v := 0) hx hb dL_law_509 (by decide) ?_
            refine W.lcmp hx hb dL_law_510 ?_
            refine zasi (show (lg_cmp ((bL bt)) 0) = nI 0 from by rw [bI_eq0 c_502]; exact zcmp _) ?_
            refine lv_if_eq (tgt := 516) hx hb dL_law_511 (by decide) (fun c_511 => ?_) (fun c_511 => ?_)
            · refine lv_goto (tgt := 1551) hx hb dL_law_516 (by decide) ?_
              refine W.widen (k := cells + 24) (n := slots + 100) (by omega) (by omega) ?_
              exact kk V' nc' M' _ _ _ _ H locs ls ⟨hI, hR9, hP, hY, hD, hS, lv_sub hl [2, 3, 4, 5, 6] rfl⟩
            · exact absurd c_511 (by decide)
          · refine lv_lconst (v := 1) hx hb dL_law_505 (by decide) ?_
            refine lv_goto (tgt := 510) hx hb dL_law_506 (by decide) ?_
            refine W.lcmp hx hb dL_law_510 ?_
            refine zasi (show (lg_cmp ((bL bt)) 1) = nI 0 from by rw [bI_ne0 c_502]; exact zcmp _) ?_
            refine lv_if_eq (tgt := 516) hx hb dL_law_511 (by decide) (fun c_511 => ?_) (fun c_511 => ?_)
            · refine lv_goto (tgt := 1551) hx hb dL_law_516 (by decide) ?_
              refine W.widen (k := cells + 24) (n := slots + 100) (by omega) (by omega) ?_
              exact kk V' nc' M' _ _ _ _ H locs ls ⟨hI, hR9, hP, hY, hD, hS, lv_sub hl [2, 3, 4, 5, 6] rfl⟩
            · exact absurd c_511 (by decide)
      · exact absurd c_487 (by decide)
    · refine lv_iconst (v := nI 1) hx hb dL_law_471 (by decide) ?_
      refine zasi (show (nI 1) = bI bv from by rw [hbv, decide_eq_true c_468]; rfl) ?_
      refine lv_goto (tgt := 476) hx hb dL_law_472 (by decide) ?_
      refine zgm (va_runV (As := [.int v1, .int (bI bv)]) (rest := []) ⟨hx, hb, hml, hown, hts⟩ (hM H.size) (cwV 2 hts gL_law_X5_subscribe rfl rfl rfl (by decide +kernel) ⟨Nat.le_of_ble_eq_true rfl, Nat.le_of_ble_eq_true rfl⟩) (zmV (q0 := 0) (ci := 5) hY (w2_r hD) hE rfl rfl) rfl rfl hl.1 rfl (lv_room (Nat.le_of_ble_eq_true rfl)) dL_law_476 (by show _ ≤ 601024 ∧ _ ≤ 7293034; omega)) hP hD hS hA rfl (fun r H locs hr9b hP hY hD hS => ?_)
      subst hr9b
      refine lv_istore (lv' := [(6, .int (bI bt)), (5, .int (nI 0)), (0, .ref b), (1, .ref h0), (2, .ref hm), (3, .ref ob), (4, .int (nI (6 * k)))]) hx hb dL_law_479 hl (by decide) rfl (fun ls hl => ?_)
      refine lv_aload_n hx hb dL_law_481 rfl (lv_at hl 4 rfl) ?_
      refine zci (va_runV (As := []) (rest := []) ⟨hx, hb, hml, hown, hts⟩ (m_thrown l D ca sa hm ad _ _ _ _ _ _) (cwV 0 hts gL_law_X5_thrown rfl rfl rfl (by decide +kernel) ⟨Nat.le_of_ble_eq_true rfl, Nat.le_of_ble_eq_true rfl⟩) (zpV (q0 := 0) (ci := 5) hY hE rfl rfl) rfl rfl hl.1 rfl (lv_room (Nat.le_of_ble_eq_true rfl)) dL_law_482 (by show _ ≤ 601024 ∧ _ ≤ 7293034; omega)) ?_
      refine lv_iload hx hb dL_law_485 (lv_at hl 1 rfl) ?_
      refine lv_icmp_eq (tgt := 492) hx hb dL_law_487 (by decide) (fun c_487 => ?_) (fun c_487 => ?_)
      · refine lv_iload hx hb dL_law_492 (lv_at hl 1 rfl) ?_
        refine lv_if_ne (tgt := 516) hx hb dL_law_494 (by decide) (fun c_494 => ?_) (fun c_494 => ?_)
        · exact absurd c_494 (by decide)
        · refine lv_aload_n hx hb dL_law_497 rfl (lv_at hl 5 rfl) ?_
          refine lv_iconst (v := nI 0) hx hb dL_law_498 (by decide) ?_
          refine zol hx hb hE hP hv9 dL_law_499 ?_
          refine lv_iload hx hb dL_law_500 (lv_at hl 0 rfl) ?_
          refine lv_if_eq (tgt := 509) hx hb dL_law_502 (by decide) (fun c_502 => ?_) (fun c_502 => ?_)
          · refine lv_lconst (v := 0) hx hb dL_law_509 (by decide) ?_
            refine W.lcmp hx hb dL_law_510 ?_
            refine zasi (show (lg_cmp ((bL bt)) 0) = nI 0 from by rw [bI_eq0 c_502]; exact zcmp _) ?_
            refine lv_if_eq (tgt := 516) hx hb dL_law_511 (by decide) (fun c_511 => ?_) (fun c_511 => ?_)
            · refine lv_goto (tgt := 1551) hx hb dL_law_516 (by decide) ?_
              refine W.widen (k := cells + 24) (n := slots + 100) (by omega) (by omega) ?_
              exact kk V' nc' M' _ _ _ _ H locs ls ⟨hI, hR9, hP, hY, hD, hS, lv_sub hl [2, 3, 4, 5, 6] rfl⟩
            · exact absurd c_511 (by decide)
          · refine lv_lconst (v := 1) hx hb dL_law_505 (by decide) ?_
            refine lv_goto (tgt := 510) hx hb dL_law_506 (by decide) ?_
            refine W.lcmp hx hb dL_law_510 ?_
            refine zasi (show (lg_cmp ((bL bt)) 1) = nI 0 from by rw [bI_ne0 c_502]; exact zcmp _) ?_
            refine lv_if_eq (tgt := 516) hx hb dL_law_511 (by decide) (fun c_511 => ?_) (fun c_511 => ?_)
            · refine lv_goto (tgt := 1551) hx hb dL_law_516 (by decide) ?_
              refine W.widen (k := cells + 24) (n := slots + 100) (by omega) (by omega) ?_
              exact kk V' nc' M' _ _ _ _ H locs ls ⟨hI, hR9, hP, hY, hD, hS, lv_sub hl [2, 3, 4, 5, 6] rfl⟩
            · exact absurd c_511 (by decide)
      · exact absurd c_487 (by decide)

set_option maxHeartbeats 4000000 in
set_option maxRecDepth 100000 in
theorem st_subscribe_x {p : Program} {l : Launch} {e : Env} {s : State} {m : MethodId} {below : List Frame} {meth : Method} {c : Code} {b Ln : Nat} {xs : Nat → Int32} {D : va_G} {ca : Nat → ClassId} {sa : Nat → Nat} (C : lw_C p l s m meth c b Ln xs D ca sa) {h0 hm ob : Nat} {ad : Nat → Nat} {k : Nat} {H : Heap} {locs : List Loc} {ls : Array Slot} {V : zV} {nc : Nat} {M : Nat → Nat → Int32} {th : Int32} {L : List Nat} {f : Nat → va_E} {g : Nat → Int64} (S : lw_S D ca s h0 hm ob b ad k (6 * k) H locs ls V nc M th L f g) (hk : k < 512) (hi : 6 * k + 6 ≤ Ln) {cells slots : Nat} {Q : State → Prop} (hroom : cells + 24 ≤ 601024 ∧ slots + 100 ≤ 7293034) {v1 v2 : Int32} (e1 : xs (6 * k + 1) = v1) (e2 : xs (6 * k + 2) = v2) {bv : Bool} (hbv : bv = decide (¬ v2 = 0)) {mc ms : Nat} (hmc : mc ≤ 24) (hms : ms ≤ 100) {r9 : Int32} (hr9 : r9 = nI 1 ∨ r9 = nI 2) (hC : ∀ sz, vx_Met l yL_subscribe wsL_subscribe ({ frames := 10, cells := mc, slots := ms, locals := 450 }) (va_Pc [.ref h0, .int v1, .int (bI bv), .ref ob] (zLp D L f ob g ca sa sz)) (va_Qi (fun (r : Int32) (_ : Unit) => r = r9) (fun _ _ => True) (fun q => sz ≤ q)) zX0 mc ms (fun q => sz ≤ q)) (hM : ∀ sz, Met l yX5_subscribe wsX5_subscribe ({ frames := 9, cells := 0, slots := 0, locals := 360 }) (va_Pc [.ref hm, .int v1, .int (bI bv)] (zMp D (mW hm ad ca th (vTd V) (vNt V) (vNp V) nc M) ca sa sz)) (va_Qi (fun (r : Int32) (_ : Unit) => True) (fun _ t9 => va_P D vwCl (mW hm ad ca r9 (vTd V) (vNt V) (vNp V) nc M) t9.heap) (va_A (mW hm ad ca th (vTd V) (vNt V) (vNp V) nc M) sz)) 0 0 (va_A (mW hm ad ca th (vTd V) (vNt V) (vNp V) nc M) sz)) (kk : ∀ (V' : zV) (nc' : Nat) (M' : Nat → Nat → Int32) (th' : Int32) (L' : List Nat) (f' : Nat → va_E) (g' : Nat → Int64) (H1 : Heap) (locs1 : List Loc) (ls1 : Array Slot), lw_S D ca s h0 hm ob b ad (k + 1) (6 * k) H1 locs1 ls1 V' nc' M' th' L' f' g' → W p l e room_1 s m #[Value.ref b] below meth c H1 locs1 (cells + 24) (slots + 100) Q (F0 m 1551 ls1 [])) : W p l e room_1 s m #[Value.ref b] below meth c H locs cells slots Q (F0 m 428 ls []) := by
  obtain ⟨⟨hx, hb, hml, hown, hts⟩, hX, hbl, hL3, hE, hN, hZ0, hl0⟩ := C
  obtain ⟨hI0, ⟨ta, pa, aT, aP, aS, aH, n9, hR⟩, hP, hY, hD, hS, hl⟩ := S
  have h4 := hR.1.1
  have hA : ∀ q : Nat, s.heap.size ≤ q → (fun q => s.heap.size ≤ q) q := fun _ h => h
  refine lv_aload_n hx hb dL_law_428 rfl (lv_at hl 1 rfl) ?_
  refine lv_aload_n hx hb dL_law_429 rfl (lv_at hl 0 rfl) ?_
  refine lv_iload hx hb dL_law_430 (lv_at hl 4 rfl) ?_
  refine lv_iconst (v := nI 1) hx hb dL_law_432 (by decide) ?_
  refine lv_iadd hx hb dL_law_433 ?_
  refine zasi (show ((nI (6 * k)) + (nI 1)) = nI (6 * k + 1) from nI_add _ _) ?_
  refine zsl hx hb hX hbl hL3 hS (show 6 * k + 1 < Ln by omega) e1 dL_law_434 ?_
  refine lv_aload_n hx hb dL_law_435 rfl (lv_at hl 0 rfl) ?_
  refine lv_iload hx hb dL_law_436 (lv_at hl 4 rfl) ?_
  refine lv_iconst (v := nI 2) hx hb dL_law_438 (by decide) ?_
  refine lv_iadd hx hb dL_law_439 ?_
  refine zasi (show ((nI (6 * k)) + (nI 2)) = nI (6 * k + 2) from nI_add _ _) ?_
  refine zsl hx hb hX hbl hL3 hS (show 6 * k + 2 < Ln by omega) e2 dL_law_440 ?_
  refine lv_if_eq (tgt := 448) hx hb dL_law_441 (by decide) (fun c_441 => ?_) (fun c_441 => ?_)
  · refine lv_iconst (v := nI 0) hx hb dL_law_448 (by decide) ?_
    refine zasi (show (nI 0) = bI bv from by rw [hbv, decide_eq_false (fun z => z c_441)]; rfl) ?_
    refine lv_aload_n hx hb dL_law_449 rfl (lv_at hl 3 rfl) ?_
    refine zgx (vx_runSX (As := [.ref h0, .int v1, .int (bI bv), .ref ob]) (rest := []) ⟨hx, hb, hml, hown, hts⟩ (hC H.size) (vx_cwSW (bytes := cL_subscribe) (maxL := 5) (ret := some .int) (hh := [(0, 17, 20, 20)]) 4 hts gL_law_L_subscribe rfl rfl rfl (by decide +kernel) ⟨Nat.le_of_ble_eq_true rfl, Nat.le_of_ble_eq_true rfl⟩) (zLS hP (w2_l hD) hE hN (lwZ hZ0 hS) (fun q h => Nat.le_trans hS.1 h)) rfl rfl hl.1 rfl (lv_room (Nat.le_of_ble_eq_true rfl)) dL_law_450 (by show _ ≤ 601024 ∧ _ ≤ 7293034; omega)) hP hY hS hA (fun H locs hP hY hS => ?_)
    refine lv_istore (lv' := [(5, .int r9), (0, .ref b), (1, .ref h0), (2, .ref hm), (3, .ref ob), (4, .int (nI (6 * k)))]) hx hb dL_law_453 hl (by decide) rfl (fun ls hl => ?_)
    refine lv_aload_n hx hb dL_law_455 rfl (lv_at hl 3 rfl) ?_
    refine lv_aload_n hx hb dL_law_456 rfl (lv_at hl 1 rfl) ?_
    refine lv_iload hx hb dL_law_457 (lv_at hl 5 rfl) ?_
    refine lv_iconst (v := nI 1) hx hb dL_law_459 (by decide) ?_
    refine lv_iadd hx hb dL_law_460 ?_
    refine zasi (show ((nI (6 * k)) + (nI 1)) = nI (6 * k + 1) from nI_add _ _) ?_
    refine zsl hx hb hX hbl hL3 hS (show 6 * k + 1 < Ln by omega) e1 dL_law_461 ?_
    refine lv_aload_n hx hb dL_law_462 rfl (lv_at hl 1 rfl) ?_
    refine lv_iload hx hb dL_law_463 (lv_at hl 5 rfl) ?_
    refine lv_iconst (v := nI 2) hx hb dL_law_465 (by decide) ?_
    refine lv_iadd hx hb dL_law_466 ?_
    refine zasi (show ((nI (6 * k)) + (nI 2)) = nI (6 * k + 2) from nI_add _ _) ?_
    refine zsl hx hb hX hbl hL3 hS (show 6 * k + 2 < Ln by omega) e2 dL_law_467 ?_
    refine lv_if_eq (tgt := 475) hx hb dL_law_468 (by decide) (fun c_468 => ?_) (fun c_468 => ?_)
    · refine lv_iconst (v := nI 0) hx hb dL_law_475 (by decide) ?_
      refine zasi (show (nI 0) = bI bv from by rw [hbv, decide_eq_false (fun z => z c_468)]; rfl) ?_
      refine zgm (va_runV (As := [.int v1, .int (bI bv)]) (rest := []) ⟨hx, hb, hml, hown, hts⟩ (hM H.size) (cwV 2 hts gL_law_X5_subscribe rfl rfl rfl (by decide +kernel) ⟨Nat.le_of_ble_eq_true rfl, Nat.le_of_ble_eq_true rfl⟩) (zmV (q0 := 0) (ci := 5) hY (w2_r hD) hE rfl rfl) rfl rfl hl.1 rfl (lv_room (Nat.le_of_ble_eq_true rfl)) dL_law_476 (by show _ ≤ 601024 ∧ _ ≤ 7293034; omega)) hP hD hS hA rfl (fun r H locs hr9b hP hY hD hS => ?_)
      refine lv_istore (lv' := [(6, .int r), (5, .int r9), (0, .ref b), (1, .ref h0), (2, .ref hm), (3, .ref ob), (4, .int (nI (6 * k)))]) hx hb dL_law_479 hl (by decide) rfl (fun ls hl => ?_)
      refine lv_aload_n hx hb dL_law_481 rfl (lv_at hl 4 rfl) ?_
      refine zci (va_runV (As := []) (rest := []) ⟨hx, hb, hml, hown, hts⟩ (m_thrown l D ca sa hm ad _ _ _ _ _ _) (cwV 0 hts gL_law_X5_thrown rfl rfl rfl (by decide +kernel) ⟨Nat.le_of_ble_eq_true rfl, Nat.le_of_ble_eq_true rfl⟩) (zpV (q0 := 0) (ci := 5) hY hE rfl rfl) rfl rfl hl.1 rfl (lv_room (Nat.le_of_ble_eq_true rfl)) dL_law_482 (by show _ ≤ 601024 ∧ _ ≤ 7293034; omega)) ?_
      refine lv_iload hx hb dL_law_485 (lv_at hl 1 rfl) ?_
      refine lv_icmp_eq (tgt := 492) hx hb dL_law_487 (by decide) (fun c_487 => ?_) (fun c_487 => ?_)
      · refine lv_iload hx hb dL_law_492 (lv_at hl 1 rfl) ?_
        refine lv_if_ne (tgt := 516) hx hb dL_law_494 (by decide) (fun c_494 => ?_) (fun c_494 => ?_)
        · refine lv_goto (tgt := 1551) hx hb dL_law_516 (by decide) ?_
          refine W.widen (k := cells + 24) (n := slots + 100) (by omega) (by omega) ?_
          exact kk V nc M _ _ _ _ H locs ls ⟨i_up hI0 hk, ⟨ta, pa, aT, aP, aS, aH, n9, zRep_up hR (Nat.le_succ k) (by omega)⟩, hP, hY, hD, hS, lv_sub hl [2, 3, 4, 5, 6] rfl⟩
        · exact absurd c_494 (by rcases hr9 with rfl | rfl <;> decide)
      · exact absurd rfl c_487
    · refine lv_iconst (v := nI 1) hx hb dL_law_471 (by decide) ?_
      refine zasi (show (nI 1) = bI bv from by rw [hbv, decide_eq_true c_468]; rfl) ?_
      refine lv_goto (tgt := 476) hx hb dL_law_472 (by decide) ?_
      refine zgm (va_runV (As := [.int v1, .int (bI bv)]) (rest := []) ⟨hx, hb, hml, hown, hts⟩ (hM H.size) (cwV 2 hts gL_law_X5_subscribe rfl rfl rfl (by decide +kernel) ⟨Nat.le_of_ble_eq_true rfl, Nat.le_of_ble_eq_true rfl⟩) (zmV (q0 := 0) (ci := 5) hY (w2_r hD) hE rfl rfl) rfl rfl hl.1 rfl (lv_room (Nat.le_of_ble_eq_true rfl)) dL_law_476 (by show _ ≤ 601024 ∧ _ ≤ 7293034; omega)) hP hD hS hA rfl (fun r H locs hr9b hP hY hD hS => ?_)
      refine lv_istore (lv' := [(6, .int r), (5, .int r9), (0, .ref b), (1, .ref h0), (2, .ref hm), (3, .ref ob), (4, .int (nI (6 * k)))]) hx hb dL_law_479 hl (by decide) rfl (fun ls hl => ?_)
      refine lv_aload_n hx hb dL_law_481 rfl (lv_at hl 4 rfl) ?_
      refine zci (va_runV (As := []) (rest := []) ⟨hx, hb, hml, hown, hts⟩ (m_thrown l D ca sa hm ad _ _ _ _ _ _) (cwV 0 hts gL_law_X5_thrown rfl rfl rfl (by decide +kernel) ⟨Nat.le_of_ble_eq_true rfl, Nat.le_of_ble_eq_true rfl⟩) (zpV (q0 := 0) (ci := 5) hY hE rfl rfl) rfl rfl hl.1 rfl (lv_room (Nat.le_of_ble_eq_true rfl)) dL_law_482 (by show _ ≤ 601024 ∧ _ ≤ 7293034; omega)) ?_
      refine lv_iload hx hb dL_law_485 (lv_at hl 1 rfl) ?_
      refine lv_icmp_eq (tgt := 492) hx hb dL_law_487 (by decide) (fun c_487 => ?_) (fun c_487 => ?_)
      · refine lv_iload hx hb dL_law_492 (lv_at hl 1 rfl) ?_
        refine lv_if_ne (tgt := 516) hx hb dL_law_494 (by decide) (fun c_494 => ?_) (fun c_494 => ?_)
        · refine lv_goto (tgt := 1551) hx hb dL_law_516 (by decide) ?_
          refine W.widen (k := cells + 24) (n := slots + 100) (by omega) (by omega) ?_
          exact kk V nc M _ _ _ _ H locs ls ⟨i_up hI0 hk, ⟨ta, pa, aT, aP, aS, aH, n9, zRep_up hR (Nat.le_succ k) (by omega)⟩, hP, hY, hD, hS, lv_sub hl [2, 3, 4, 5, 6] rfl⟩
        · exact absurd c_494 (by rcases hr9 with rfl | rfl <;> decide)
      · exact absurd rfl c_487
  · refine lv_iconst (v := nI 1) hx hb dL_law_444 (by decide) ?_
    refine zasi (show (nI 1) = bI bv from by rw [hbv, decide_eq_true c_441]; rfl) ?_
    refine lv_goto (tgt := 449) hx hb dL_law_445 (by decide) ?_
    refine lv_aload_n hx hb dL_law_449 rfl (lv_at hl 3 rfl) ?_
    refine zgx (vx_runSX (As := [.ref h0, .int v1, .int (bI bv), .ref ob]) (rest := []) ⟨hx, hb, hml, hown, hts⟩ (hC H.size) (vx_cwSW (bytes := cL_subscribe) (maxL := 5) (ret := some .int) (hh := [(0, 17, 20, 20)]) 4 hts gL_law_L_subscribe rfl rfl rfl (by decide +kernel) ⟨Nat.le_of_ble_eq_true rfl, Nat.le_of_ble_eq_true rfl⟩) (zLS hP (w2_l hD) hE hN (lwZ hZ0 hS) (fun q h => Nat.le_trans hS.1 h)) rfl rfl hl.1 rfl (lv_room (Nat.le_of_ble_eq_true rfl)) dL_law_450 (by show _ ≤ 601024 ∧ _ ≤ 7293034; omega)) hP hY hS hA (fun H locs hP hY hS => ?_)
    refine lv_istore (lv' := [(5, .int r9), (0, .ref b), (1, .ref h0), (2, .ref hm), (3, .ref ob), (4, .int (nI (6 * k)))]) hx hb dL_law_453 hl (by decide) rfl (fun ls hl => ?_)
    refine lv_aload_n hx hb dL_law_455 rfl (lv_at hl 3 rfl) ?_
    refine lv_aload_n hx hb dL_law_456 rfl (lv_at hl 1 rfl) ?_
    refine lv_iload hx hb dL_law_457 (lv_at hl 5 rfl) ?_
    refine lv_iconst (v := nI 1) hx hb dL_law_459 (by decide) ?_
    refine lv_iadd hx hb dL_law_460 ?_
    refine zasi (show ((nI (6 * k)) + (nI 1)) = nI (6 * k + 1) from nI_add _ _) ?_
    refine zsl hx hb hX hbl hL3 hS (show 6 * k + 1 < Ln by omega) e1 dL_law_461 ?_
    refine lv_aload_n hx hb dL_law_462 rfl (lv_at hl 1 rfl) ?_
    refine lv_iload hx hb dL_law_463 (lv_at hl 5 rfl) ?_
    refine lv_iconst (v := nI 2) hx hb dL_law_465 (by decide) ?_
    refine lv_iadd hx hb dL_law_466 ?_
    refine zasi (show ((nI (6 * k)) + (nI 2)) = nI (6 * k + 2) from nI_add _ _) ?_
    refine zsl hx hb hX hbl hL3 hS (show 6 * k + 2 < Ln by omega) e2 dL_law_467 ?_
    refine lv_if_eq (tgt := 475) hx hb dL_law_468 (by decide) (fun c_468 => ?_) (fun c_468 => ?_)
    · refine lv_iconst (v := nI 0) hx hb dL_law_475 (by decide) ?_
      refine zasi (show (nI 0) = bI bv from by rw [hbv, decide_eq_false (fun z => z c_468)]; rfl) ?_
      refine zgm (va_runV (As := [.int v1, .int (bI bv)]) (rest := []) ⟨hx, hb, hml, hown, hts⟩ (hM H.size) (cwV 2 hts gL_law_X5_subscribe rfl rfl rfl (by decide +kernel) ⟨Nat.le_of_ble_eq_true rfl, Nat.le_of_ble_eq_true rfl⟩) (zmV (q0 := 0) (ci := 5) hY (w2_r hD) hE rfl rfl) rfl rfl hl.1 rfl (lv_room (Nat.le_of_ble_eq_true rfl)) dL_law_476 (by show _ ≤ 601024 ∧ _ ≤ 7293034; omega)) hP hD hS hA rfl (fun r H locs hr9b hP hY hD hS => ?_)
      refine lv_istore (lv' := [(6, .int r), (5, .int r9), (0, .ref b), (1, .ref h0), (2, .ref hm), (3, .ref ob), (4, .int (nI (6 * k)))]) hx hb dL_law_479 hl (by decide) rfl (fun ls hl => ?_)
      refine lv_aload_n hx hb dL_law_481 rfl (lv_at hl 4 rfl) ?_
      refine zci (va_runV (As := []) (rest := []) ⟨hx, hb, hml, hown, hts⟩ (m_thrown l D ca sa hm ad _ _ _ _ _ _) (cwV 0 hts gL_law_X5_thrown rfl rfl rfl (by decide +kernel) ⟨Nat.le_of_ble_eq_true rfl, Nat.le_of_ble_eq_true rfl⟩) (zpV (q0 := 0) (ci := 5) hY hE rfl rfl) rfl rfl hl.1 rfl (lv_room (Nat.le_of_ble_eq_true rfl)) dL_law_482 (by show _ ≤ 601024 ∧ _ ≤ 7293034; omega)) ?_
      refine lv_iload hx hb dL_law_485 (lv_at hl 1 rfl) ?_
      refine lv_icmp_eq (tgt := 492) hx hb dL_law_487 (by decide) (fun c_487 => ?_) (fun c_487 => ?_)
      · refine lv_iload hx hb dL_law_492 (lv_at hl 1 rfl) ?_
        refine lv_if_ne (tgt := 516) hx hb dL_law_494 (by decide) (fun c_494 => ?_) (fun c_494 => ?_)
        · refine lv_goto (tgt := 1551) hx hb dL_law_516 (by decide) ?_
          refine W.widen (k := cells + 24) (n := slots + 100) (by omega) (by omega) ?_
          exact kk V nc M _ _ _ _ H locs ls ⟨i_up hI0 hk, ⟨ta, pa, aT, aP, aS, aH, n9, zRep_up hR (Nat.le_succ k) (by omega)⟩, hP, hY, hD, hS, lv_sub hl [2, 3, 4, 5, 6] rfl⟩
        · exact absurd c_494 (by rcases hr9 with rfl | rfl <;> decide)
      · exact absurd rfl c_487
    · refine lv_iconst (v := nI 1) hx hb dL_law_471 (by decide) ?_
      refine zasi (show (nI 1) = bI bv from by rw [hbv, decide_eq_true c_468]; rfl) ?_
      refine lv_goto (tgt := 476) hx hb dL_law_472 (by decide) ?_
      refine zgm (va_runV (As := [.int v1, .int (bI bv)]) (rest := []) ⟨hx, hb, hml, hown, hts⟩ (hM H.size) (cwV 2 hts gL_law_X5_subscribe rfl rfl rfl (by decide +kernel) ⟨Nat.le_of_ble_eq_true rfl, Nat.le_of_ble_eq_true rfl⟩) (zmV (q0 := 0) (ci := 5) hY (w2_r hD) hE rfl rfl) rfl rfl hl.1 rfl (lv_room (Nat.le_of_ble_eq_true rfl)) dL_law_476 (by show _ ≤ 601024 ∧ _ ≤ 7293034; omega)) hP hD hS hA rfl (fun r H locs hr9b hP hY hD hS => ?_)
      refine lv_istore (lv' := [(6, .int r), (5, .int r9), (0, .ref b), (1, .ref h0), (2, .ref hm), (3, .ref ob), (4, .int (nI (6 * k)))]) hx hb dL_law_479 hl (by decide) rfl (fun ls hl => ?_)
      refine lv_aload_n hx hb dL_law_481 rfl (lv_at hl 4 rfl) ?_
      refine zci (va_runV (As := []) (rest := []) ⟨hx, hb, hml, hown, hts⟩ (m_thrown l D ca sa hm ad _ _ _ _ _ _) (cwV 0 hts gL_law_X5_thrown rfl rfl rfl (by decide +kernel) ⟨Nat.le_of_ble_eq_true rfl, Nat.le_of_ble_eq_true rfl⟩) (zpV (q0 := 0) (ci := 5) hY hE rfl rfl) rfl rfl hl.1 rfl (lv_room (Nat.le_of_ble_eq_true rfl)) dL_law_482 (by show _ ≤ 601024 ∧ _ ≤ 7293034; omega)) ?_
      refine lv_iload hx hb dL_law_485 (lv_at hl 1 rfl) ?_
      refine lv_icmp_eq (tgt := 492) hx hb dL_law_487 (by decide) (fun c_487 => ?_) (fun c_487 => ?_)
      · refine lv_iload hx hb dL_law_492 (lv_at hl 1 rfl) ?_
        refine lv_if_ne (tgt := 516) hx hb dL_law_494 (by decide) (fun c_494 => ?_) (fun c_494 => ?_)
        · refine lv_goto (tgt := 1551) hx hb dL_law_516 (by decide) ?_
          refine W.widen (k := cells + 24) (n := slots + 100) (by omega) (by omega) ?_
          exact kk V nc M _ _ _ _ H locs ls ⟨i_up hI0 hk, ⟨ta, pa, aT, aP, aS, aH, n9, zRep_up hR (Nat.le_succ k) (by omega)⟩, hP, hY, hD, hS, lv_sub hl [2, 3, 4, 5, 6] rfl⟩
        · exact absurd c_494 (by rcases hr9 with rfl | rfl <;> decide)
      · exact absurd rfl c_487

set_option maxHeartbeats 4000000 in
set_option maxRecDepth 100000 in
theorem st_come_ok {p : Program} {l : Launch} {e : Env} {s : State} {m : MethodId} {below : List Frame} {meth : Method} {c : Code} {b Ln : Nat} {xs : Nat → Int32} {D : va_G} {ca : Nat → ClassId} {sa : Nat → Nat} (C : lw_C p l s m meth c b Ln xs D ca sa) {h0 hm ob : Nat} {ad : Nat → Nat} {k : Nat} {H : Heap} {locs : List Loc} {ls : Array Slot} {V : zV} {nc : Nat} {M : Nat → Nat → Int32} {th : Int32} {L : List Nat} {f : Nat → va_E} {g : Nat → Int64} (S : lw_S D ca s h0 hm ob b ad k (6 * k) H locs ls V nc M th L f g) (hk : k < 512) (hi : 6 * k + 6 ≤ Ln) {cells slots : Nat} {Q : State → Prop} (hroom : cells + 24 ≤ 601024 ∧ slots + 100 ≤ 7293034) {v1 v2 v3 v4 v5 : Int32} (e1 : xs (6 * k + 1) = v1) (e2 : xs (6 * k + 2) = v2) (e3 : xs (6 * k + 3) = v3) (e4 : xs (6 * k + 4) = v4) (e5 : xs (6 * k + 5) = v5) {mc ms : Nat} (hmc : mc ≤ 24) (hms : ms ≤ 100) {V' : zV} {nc' : Nat} {M' : Nat → Nat → Int32} {P : Int64 → zU → Prop} {bt : Bool} (hP9 : ∀ x u, P x u → x = bL bt ∧ zR u.1 u.2 ca h0 (k + 1) V') (hI : Inv V' nc' M' (k + 1)) (hC : ∀ sz, vx_Met l yL_come wsL_come ({ frames := 10, cells := mc, slots := ms, locals := 450 }) (va_Pc [.ref h0, .int v1, .int v2, .int v3, .int v4, .int v5, .ref ob] (zLp D L f ob g ca sa sz)) (va_Qi (fun (r : Int32) (u : zU × (Nat → Int64)) => r = nI 0 ∧ P (u.2 0) u.1) (fun u t => va_P D vwCl (oW ca ob u.2 ++ va_pl u.1.1 u.1.2) t.heap ∧ va_D (va_A (oW ca ob g ++ va_pl L f) sz) (oW ca ob u.2 ++ va_pl u.1.1 u.1.2)) (va_A (oW ca ob g ++ va_pl L f) sz)) zX0 mc ms (va_A (oW ca ob g ++ va_pl L f) sz)) (hM : ∀ sz, Met l yX5_come wsX5_come ({ frames := 9, cells := 0, slots := 0, locals := 360 }) (va_Pc [.ref hm, .int v1, .int v2, .int v3, .int v4, .int v5] (zMp D (mW hm ad ca th (vTd V) (vNt V) (vNp V) nc M) ca sa sz)) (va_Qi (fun (r : Int32) (_ : Unit) => r = bI bt) (fun _ t9 => va_P D vwCl (mW hm ad ca (nI 0) (vTd V') (vNt V') (vNp V') nc' M') t9.heap) (va_A (mW hm ad ca th (vTd V) (vNt V) (vNp V) nc M) sz)) 0 0 (va_A (mW hm ad ca th (vTd V) (vNt V) (vNp V) nc M) sz)) (kk : ∀ (V' : zV) (nc' : Nat) (M' : Nat → Nat → Int32) (th' : Int32) (L' : List Nat) (f' : Nat → va_E) (g' : Nat → Int64) (H1 : Heap) (locs1 : List Loc) (ls1 : Array Slot), lw_S D ca s h0 hm ob b ad (k + 1) (6 * k) H1 locs1 ls1 V' nc' M' th' L' f' g' → W p l e room_1 s m #[Value.ref b] below meth c H1 locs1 (cells + 24) (slots + 100) Q (F0 m 1551 ls1 [])) : W p l e room_1 s m #[Value.ref b] below meth c H locs cells slots Q (F0 m 519 ls []) := by
  obtain ⟨⟨hx, hb, hml, hown, hts⟩, hX, hbl, hL3, hE, hN, hZ0, hl0⟩ := C
  obtain ⟨hI0, ⟨ta, pa, aT, aP, aS, aH, n9, hR⟩, hP, hY, hD, hS, hl⟩ := S
  have h4 := hR.1.1
  have hA : ∀ q : Nat, s.heap.size ≤ q → (fun q => s.heap.size ≤ q) q := fun _ h => h
  refine lv_aload_n hx hb dL_law_519 rfl (lv_at hl 1 rfl) ?_
  refine lv_aload_n hx hb dL_law_520 rfl (lv_at hl 0 rfl) ?_
  refine lv_iload hx hb dL_law_521 (lv_at hl 4 rfl) ?_
  refine lv_iconst (v := nI 1) hx hb dL_law_523 (by decide) ?_
  refine lv_iadd hx hb dL_law_524 ?_
  refine zasi (show ((nI (6 * k)) + (nI 1)) = nI (6 * k + 1) from nI_add _ _) ?_
  refine zsl hx hb hX hbl hL3 hS (show 6 * k + 1 < Ln by omega) e1 dL_law_525 ?_
  refine lv_aload_n hx hb dL_law_526 rfl (lv_at hl 0 rfl) ?_
  refine lv_iload hx hb dL_law_527 (lv_at hl 4 rfl) ?_
  refine lv_iconst (v := nI 2) hx hb dL_law_529 (by decide) ?_
  refine lv_iadd hx hb dL_law_530 ?_
  refine zasi (show ((nI (6 * k)) + (nI 2)) = nI (6 * k + 2) from nI_add _ _) ?_
  refine zsl hx hb hX hbl hL3 hS (show 6 * k + 2 < Ln by omega) e2 dL_law_531 ?_
  refine lv_aload_n hx hb dL_law_532 rfl (lv_at hl 0 rfl) ?_
  refine lv_iload hx hb dL_law_533 (lv_at hl 4 rfl) ?_
  refine lv_iconst (v := nI 3) hx hb dL_law_535 (by decide) ?_
  refine lv_iadd hx hb dL_law_536 ?_
  refine zasi (show ((nI (6 * k)) + (nI 3)) = nI (6 * k + 3) from nI_add _ _) ?_
  refine zsl hx hb hX hbl hL3 hS (show 6 * k + 3 < Ln by omega) e3 dL_law_537 ?_
  refine lv_aload_n hx hb dL_law_538 rfl (lv_at hl 0 rfl) ?_
  refine lv_iload hx hb dL_law_539 (lv_at hl 4 rfl) ?_
  refine lv_iconst (v := nI 4) hx hb dL_law_541 (by decide) ?_
  refine lv_iadd hx hb dL_law_542 ?_
  refine zasi (show ((nI (6 * k)) + (nI 4)) = nI (6 * k + 4) from nI_add _ _) ?_
  refine zsl hx hb hX hbl hL3 hS (show 6 * k + 4 < Ln by omega) e4 dL_law_543 ?_
  refine lv_aload_n hx hb dL_law_544 rfl (lv_at hl 0 rfl) ?_
  refine lv_iload hx hb dL_law_545 (lv_at hl 4 rfl) ?_
  refine lv_iconst (v := nI 5) hx hb dL_law_547 (by decide) ?_
  refine lv_iadd hx hb dL_law_548 ?_
  refine zasi (show ((nI (6 * k)) + (nI 5)) = nI (6 * k + 5) from nI_add _ _) ?_
  refine zsl hx hb hX hbl hL3 hS (show 6 * k + 5 < Ln by omega) e5 dL_law_549 ?_
  refine lv_aload_n hx hb dL_law_550 rfl (lv_at hl 3 rfl) ?_
  refine zgo (vx_runSX (As := [.ref h0, .int v1, .int v2, .int v3, .int v4, .int v5, .ref ob]) (rest := []) ⟨hx, hb, hml, hown, hts⟩ (hC H.size) (vx_cwSW (bytes := cL_come) (maxL := 8) (ret := some .int) (hh := [(0, 23, 26, 20), (0, 23, 30, 13)]) 7 hts gL_law_L_come rfl rfl rfl (by decide +kernel) ⟨Nat.le_of_ble_eq_true rfl, Nat.le_of_ble_eq_true rfl⟩) (zLS hP (w2_l hD) hE hN (lwZ hZ0 hS) (fun q h => Nat.le_trans hS.1 h)) rfl rfl hl.1 rfl (lv_room (Nat.le_of_ble_eq_true rfl)) dL_law_551 (by show _ ≤ 601024 ∧ _ ≤ 7293034; omega)) hY hD hS hA (fun u g1 H locs hu hP hY hD hS => ?_)
  obtain ⟨hv9, hR9⟩ := hP9 _ _ hu
  refine lv_istore (lv' := [(5, .int (nI 0)), (0, .ref b), (1, .ref h0), (2, .ref hm), (3, .ref ob), (4, .int (nI (6 * k)))]) hx hb dL_law_554 hl (by decide) rfl (fun ls hl => ?_)
  refine lv_aload_n hx hb dL_law_556 rfl (lv_at hl 3 rfl) ?_
  refine lv_aload_n hx hb dL_law_557 rfl (lv_at hl 1 rfl) ?_
  refine lv_iload hx hb dL_law_558 (lv_at hl 5 rfl) ?_
  refine lv_iconst (v := nI 1) hx hb dL_law_560 (by decide) ?_
  refine lv_iadd hx hb dL_law_561 ?_
  refine zasi (show ((nI (6 * k)) + (nI 1)) = nI (6 * k + 1) from nI_add _ _) ?_
  refine zsl hx hb hX hbl hL3 hS (show 6 * k + 1 < Ln by omega) e1 dL_law_562 ?_
  refine lv_aload_n hx hb dL_law_563 rfl (lv_at hl 1 rfl) ?_
  refine lv_iload hx hb dL_law_564 (lv_at hl 5 rfl) ?_
  refine lv_iconst (v := nI 2) hx hb dL_law_566 (by decide) ?_
  refine lv_iadd hx hb dL_law_567 ?_
  refine zasi (show ((nI (6 * k)) + (nI 2)) = nI (6 * k + 2) from nI_add _ _) ?_
  refine zsl hx hb hX hbl hL3 hS (show 6 * k + 2 < Ln by omega) e2 dL_law_568 ?_
  refine lv_aload_n hx hb dL_law_569 rfl (lv_at hl 1 rfl) ?_
  refine lv_iload hx hb dL_law_570 (lv_at hl 5 rfl) ?_
  refine lv_iconst (v := nI 3) hx hb dL_law_572 (by decide) ?_
  refine lv_iadd hx hb dL_law_573 ?_
  refine zasi (show ((nI (6 * k)) + (nI 3)) = nI (6 * k + 3) from nI_add _ _) ?_
  refine zsl hx hb hX hbl hL3 hS (show 6 * k + 3 < Ln by omega) e3 dL_law_574 ?_
  refine lv_aload_n hx hb dL_law_575 rfl (lv_at hl 1 rfl) ?_
  refine lv_iload hx hb dL_law_576 (lv_at hl 5 rfl) ?_
  refine lv_iconst (v := nI 4) hx hb dL_law_578 (by decide) ?_
  refine lv_iadd hx hb dL_law_579 ?_
  refine zasi (show ((nI (6 * k)) + (nI 4)) = nI (6 * k + 4) from nI_add _ _) ?_
  refine zsl hx hb hX hbl hL3 hS (show 6 * k + 4 < Ln by omega) e4 dL_law_580 ?_
  refine lv_aload_n hx hb dL_law_581 rfl (lv_at hl 1 rfl) ?_
  refine lv_iload hx hb dL_law_582 (lv_at hl 5 rfl) ?_
  refine lv_iconst (v := nI 5) hx hb dL_law_584 (by decide) ?_
  refine lv_iadd hx hb dL_law_585 ?_
  refine zasi (show ((nI (6 * k)) + (nI 5)) = nI (6 * k + 5) from nI_add _ _) ?_
  refine zsl hx hb hX hbl hL3 hS (show 6 * k + 5 < Ln by omega) e5 dL_law_586 ?_
  refine zgm (va_runV (As := [.int v1, .int v2, .int v3, .int v4, .int v5]) (rest := []) ⟨hx, hb, hml, hown, hts⟩ (hM H.size) (cwV 5 hts gL_law_X5_come rfl rfl rfl (by decide +kernel) ⟨Nat.le_of_ble_eq_true rfl, Nat.le_of_ble_eq_true rfl⟩) (zmV (q0 := 0) (ci := 5) hY (w2_r hD) hE rfl rfl) rfl rfl hl.1 rfl (lv_room (Nat.le_of_ble_eq_true rfl)) dL_law_587 (by show _ ≤ 601024 ∧ _ ≤ 7293034; omega)) hP hD hS hA rfl (fun r H locs hr9b hP hY hD hS => ?_)
  subst hr9b
  refine lv_istore (lv' := [(6, .int (bI bt)), (5, .int (nI 0)), (0, .ref b), (1, .ref h0), (2, .ref hm), (3, .ref ob), (4, .int (nI (6 * k)))]) hx hb dL_law_590 hl (by decide) rfl (fun ls hl => ?_)
  refine lv_aload_n hx hb dL_law_592 rfl (lv_at hl 4 rfl) ?_
  refine zci (va_runV (As := []) (rest := []) ⟨hx, hb, hml, hown, hts⟩ (m_thrown l D ca sa hm ad _ _ _ _ _ _) (cwV 0 hts gL_law_X5_thrown rfl rfl rfl (by decide +kernel) ⟨Nat.le_of_ble_eq_true rfl, Nat.le_of_ble_eq_true rfl⟩) (zpV (q0 := 0) (ci := 5) hY hE rfl rfl) rfl rfl hl.1 rfl (lv_room (Nat.le_of_ble_eq_true rfl)) dL_law_593 (by show _ ≤ 601024 ∧ _ ≤ 7293034; omega)) ?_
  refine lv_iload hx hb dL_law_596 (lv_at hl 1 rfl) ?_
  refine lv_icmp_eq (tgt := 603) hx hb dL_law_598 (by decide) (fun c_598 => ?_) (fun c_598 => ?_)
  · refine lv_iload hx hb dL_law_603 (lv_at hl 1 rfl) ?_
    refine lv_if_ne (tgt := 627) hx hb dL_law_605 (by decide) (fun c_605 => ?_) (fun c_605 => ?_)
    · exact absurd c_605 (by decide)
    · refine lv_aload_n hx hb dL_law_608 rfl (lv_at hl 5 rfl) ?_
      refine lv_iconst (v := nI 0) hx hb dL_law_609 (by decide) ?_
      refine zol hx hb hE hP hv9 dL_law_610 ?_
      refine lv_iload hx hb dL_law_611 (lv_at hl 0 rfl) ?_
      refine lv_if_eq (tgt := 620) hx hb dL_law_613 (by decide) (fun c_613 => ?_) (fun c_613 => ?_)
      · refine lv_lconst (v := 0) hx hb dL_law_620 (by decide) ?_
        refine W.lcmp hx hb dL_law_621 ?_
        refine zasi (show (lg_cmp ((bL bt)) 0) = nI 0 from by rw [bI_eq0 c_613]; exact zcmp _) ?_
        refine lv_if_eq (tgt := 627) hx hb dL_law_622 (by decide) (fun c_622 => ?_) (fun c_622 => ?_)
        · refine lv_goto (tgt := 1551) hx hb dL_law_627 (by decide) ?_
          refine W.widen (k := cells + 24) (n := slots + 100) (by omega) (by omega) ?_
          exact kk V' nc' M' _ _ _ _ H locs ls ⟨hI, hR9, hP, hY, hD, hS, lv_sub hl [2, 3, 4, 5, 6] rfl⟩
        · exact absurd c_622 (by decide)
      · refine lv_lconst (v := 1) hx hb dL_law_616 (by decide) ?_
        refine lv_goto (tgt := 621) hx hb dL_law_617 (by decide) ?_
        refine W.lcmp hx hb dL_law_621 ?_
        refine zasi (show (lg_cmp ((bL bt)) 1) = nI 0 from by rw [bI_ne0 c_613]; exact zcmp _) ?_
        refine lv_if_eq (tgt := 627) hx hb dL_law_622 (by decide) (fun c_622 => ?_) (fun c_622 => ?_)
        · refine lv_goto (tgt := 1551) hx hb dL_law_627 (by decide) ?_
          refine W.widen (k := cells + 24) (n := slots + 100) (by omega) (by omega) ?_
          exact kk V' nc' M' _ _ _ _ H locs ls ⟨hI, hR9, hP, hY, hD, hS, lv_sub hl [2, 3, 4, 5, 6] rfl⟩
        · exact absurd c_622 (by decide)
  · exact absurd c_598 (by decide)

set_option maxHeartbeats 4000000 in
set_option maxRecDepth 100000 in
theorem st_come_x {p : Program} {l : Launch} {e : Env} {s : State} {m : MethodId} {below : List Frame} {meth : Method} {c : Code} {b Ln : Nat} {xs : Nat → Int32} {D : va_G} {ca : Nat → ClassId} {sa : Nat → Nat} (C : lw_C p l s m meth c b Ln xs D ca sa) {h0 hm ob : Nat} {ad : Nat → Nat} {k : Nat} {H : Heap} {locs : List Loc} {ls : Array Slot} {V : zV} {nc : Nat} {M : Nat → Nat → Int32} {th : Int32} {L : List Nat} {f : Nat → va_E} {g : Nat → Int64} (S : lw_S D ca s h0 hm ob b ad k (6 * k) H locs ls V nc M th L f g) (hk : k < 512) (hi : 6 * k + 6 ≤ Ln) {cells slots : Nat} {Q : State → Prop} (hroom : cells + 24 ≤ 601024 ∧ slots + 100 ≤ 7293034) {v1 v2 v3 v4 v5 : Int32} (e1 : xs (6 * k + 1) = v1) (e2 : xs (6 * k + 2) = v2) (e3 : xs (6 * k + 3) = v3) (e4 : xs (6 * k + 4) = v4) (e5 : xs (6 * k + 5) = v5) {mc ms : Nat} (hmc : mc ≤ 24) (hms : ms ≤ 100) {r9 : Int32} (hr9 : r9 = nI 1 ∨ r9 = nI 2) (hC : ∀ sz, vx_Met l yL_come wsL_come ({ frames := 10, cells := mc, slots := ms, locals := 450 }) (va_Pc [.ref h0, .int v1, .int v2, .int v3, .int v4, .int v5, .ref ob] (zLp D L f ob g ca sa sz)) (va_Qi (fun (r : Int32) (_ : Unit) => r = r9) (fun _ _ => True) (fun q => sz ≤ q)) zX0 mc ms (fun q => sz ≤ q)) (hM : ∀ sz, Met l yX5_come wsX5_come ({ frames := 9, cells := 0, slots := 0, locals := 360 }) (va_Pc [.ref hm, .int v1, .int v2, .int v3, .int v4, .int v5] (zMp D (mW hm ad ca th (vTd V) (vNt V) (vNp V) nc M) ca sa sz)) (va_Qi (fun (r : Int32) (_ : Unit) => True) (fun _ t9 => va_P D vwCl (mW hm ad ca r9 (vTd V) (vNt V) (vNp V) nc M) t9.heap) (va_A (mW hm ad ca th (vTd V) (vNt V) (vNp V) nc M) sz)) 0 0 (va_A (mW hm ad ca th (vTd V) (vNt V) (vNp V) nc M) sz)) (kk : ∀ (V' : zV) (nc' : Nat) (M' : Nat → Nat → Int32) (th' : Int32) (L' : List Nat) (f' : Nat → va_E) (g' : Nat → Int64) (H1 : Heap) (locs1 : List Loc) (ls1 : Array Slot), lw_S D ca s h0 hm ob b ad (k + 1) (6 * k) H1 locs1 ls1 V' nc' M' th' L' f' g' → W p l e room_1 s m #[Value.ref b] below meth c H1 locs1 (cells + 24) (slots + 100) Q (F0 m 1551 ls1 [])) : W p l e room_1 s m #[Value.ref b] below meth c H locs cells slots Q (F0 m 519 ls []) := by
  obtain ⟨⟨hx, hb, hml, hown, hts⟩, hX, hbl, hL3, hE, hN, hZ0, hl0⟩ := C
  obtain ⟨hI0, ⟨ta, pa, aT, aP, aS, aH, n9, hR⟩, hP, hY, hD, hS, hl⟩ := S
  have h4 := hR.1.1
  have hA : ∀ q : Nat, s.heap.size ≤ q → (fun q => s.heap.size ≤ q) q := fun _ h => h
  refine lv_aload_n hx hb dL_law_519 rfl (lv_at hl 1 rfl) ?_
  refine lv_aload_n hx hb dL_law_520 rfl (lv_at hl 0 rfl) ?_
  refine lv_iload hx hb dL_law_521 (lv_at hl 4 rfl) ?_
  refine lv_iconst (v := nI 1) hx hb dL_law_523 (by decide) ?_
  refine lv_iadd hx hb dL_law_524 ?_
  refine zasi (show ((nI (6 * k)) + (nI 1)) = nI (6 * k + 1) from nI_add _ _) ?_
  refine zsl hx hb hX hbl hL3 hS (show 6 * k + 1 < Ln by omega) e1 dL_law_525 ?_
  refine lv_aload_n hx hb dL_law_526 rfl (lv_at hl 0 rfl) ?_
  refine lv_iload hx hb dL_law_527 (lv_at hl 4 rfl) ?_
  refine lv_iconst (v := nI 2) hx hb dL_law_529 (by decide) ?_
  refine lv_iadd hx hb dL_law_530 ?_
  refine zasi (show ((nI (6 * k)) + (nI 2)) = nI (6 * k + 2) from nI_add _ _) ?_
  refine zsl hx hb hX hbl hL3 hS (show 6 * k + 2 < Ln by omega) e2 dL_law_531 ?_
  refine lv_aload_n hx hb dL_law_532 rfl (lv_at hl 0 rfl) ?_
  refine lv_iload hx hb dL_law_533 (lv_at hl 4 rfl) ?_
  refine lv_iconst (v := nI 3) hx hb dL_law_535 (by decide) ?_
  refine lv_iadd hx hb dL_law_536 ?_
  refine zasi (show ((nI (6 * k)) + (nI 3)) = nI (6 * k + 3) from nI_add _ _) ?_
  refine zsl hx hb hX hbl hL3 hS (show 6 * k + 3 < Ln by omega) e3 dL_law_537 ?_
  refine lv_aload_n hx hb dL_law_538 rfl (lv_at hl 0 rfl) ?_
  refine lv_iload hx hb dL_law_539 (lv_at hl 4 rfl) ?_
  refine lv_iconst (v := nI 4) hx hb dL_law_541 (by decide) ?_
  refine lv_iadd hx hb dL_law_542 ?_
  refine zasi (show ((nI (6 * k)) + (nI 4)) = nI (6 * k + 4) from nI_add _ _) ?_
  refine zsl hx hb hX hbl hL3 hS (show 6 * k + 4 < Ln by omega) e4 dL_law_543 ?_
  refine lv_aload_n hx hb dL_law_544 rfl (lv_at hl 0 rfl) ?_
  refine lv_iload hx hb dL_law_545 (lv_at hl 4 rfl) ?_
  refine lv_iconst (v := nI 5) hx hb dL_law_547 (by decide) ?_
  refine lv_iadd hx hb dL_law_548 ?_
  refine zasi (show ((nI (6 * k)) + (nI 5)) = nI (6 * k + 5) from nI_add _ _) ?_
  refine zsl hx hb hX hbl hL3 hS (show 6 * k + 5 < Ln by omega) e5 dL_law_549 ?_
  refine lv_aload_n hx hb dL_law_550 rfl (lv_at hl 3 rfl) ?_
  refine zgx (vx_runSX (As := [.ref h0, .int v1, .int v2, .int v3, .int v4, .int v5, .ref ob]) (rest := []) ⟨hx, hb, hml, hown, hts⟩ (hC H.size) (vx_cwSW (bytes := cL_come) (maxL := 8) (ret := some .int) (hh := [(0, 23, 26, 20), (0, 23, 30, 13)]) 7 hts gL_law_L_come rfl rfl rfl (by decide +kernel) ⟨Nat.le_of_ble_eq_true rfl, Nat.le_of_ble_eq_true rfl⟩) (zLS hP (w2_l hD) hE hN (lwZ hZ0 hS) (fun q h => Nat.le_trans hS.1 h)) rfl rfl hl.1 rfl (lv_room (Nat.le_of_ble_eq_true rfl)) dL_law_551 (by show _ ≤ 601024 ∧ _ ≤ 7293034; omega)) hP hY hS hA (fun H locs hP hY hS => ?_)
  refine lv_istore (lv' := [(5, .int r9), (0, .ref b), (1, .ref h0), (2, .ref hm), (3, .ref ob), (4, .int (nI (6 * k)))]) hx hb dL_law_554 hl (by decide) rfl (fun ls hl => ?_)
  refine lv_aload_n hx hb dL_law_556 rfl (lv_at hl 3 rfl) ?_
  refine lv_aload_n hx hb dL_law_557 rfl (lv_at hl 1 rfl) ?_
  refine lv_iload hx hb dL_law_558 (lv_at hl 5 rfl) ?_
  refine lv_iconst (v := nI 1) hx hb dL_law_560 (by decide) ?_
  refine lv_iadd hx hb dL_law_561 ?_
  refine zasi (show ((nI (6 * k)) + (nI 1)) = nI (6 * k + 1) from nI_add _ _) ?_
  refine zsl hx hb hX hbl hL3 hS (show 6 * k + 1 < Ln by omega) e1 dL_law_562 ?_
  refine lv_aload_n hx hb dL_law_563 rfl (lv_at hl 1 rfl) ?_
  refine lv_iload hx hb dL_law_564 (lv_at hl 5 rfl) ?_
  refine lv_iconst (v := nI 2) hx hb dL_law_566 (by decide) ?_
  refine lv_iadd hx hb dL_law_567 ?_
  refine zasi (show ((nI (6 * k)) + (nI 2)) = nI (6 * k + 2) from nI_add _ _) ?_
  refine zsl hx hb hX hbl hL3 hS (show 6 * k + 2 < Ln by omega) e2 dL_law_568 ?_
  refine lv_aload_n hx hb dL_law_569 rfl (lv_at hl 1 rfl) ?_
  refine lv_iload hx hb dL_law_570 (lv_at hl 5 rfl) ?_
  refine lv_iconst (v := nI 3) hx hb dL_law_572 (by decide) ?_
  refine lv_iadd hx hb dL_law_573 ?_
  refine zasi (show ((nI (6 * k)) + (nI 3)) = nI (6 * k + 3) from nI_add _ _) ?_
  refine zsl hx hb hX hbl hL3 hS (show 6 * k + 3 < Ln by omega) e3 dL_law_574 ?_
  refine lv_aload_n hx hb dL_law_575 rfl (lv_at hl 1 rfl) ?_
  refine lv_iload hx hb dL_law_576 (lv_at hl 5 rfl) ?_
  refine lv_iconst (v := nI 4) hx hb dL_law_578 (by decide) ?_
  refine lv_iadd hx hb dL_law_579 ?_
  refine zasi (show ((nI (6 * k)) + (nI 4)) = nI (6 * k + 4) from nI_add _ _) ?_
  refine zsl hx hb hX hbl hL3 hS (show 6 * k + 4 < Ln by omega) e4 dL_law_580 ?_
  refine lv_aload_n hx hb dL_law_581 rfl (lv_at hl 1 rfl) ?_
  refine lv_iload hx hb dL_law_582 (lv_at hl 5 rfl) ?_
  refine lv_iconst (v := nI 5) hx hb dL_law_584 (by decide) ?_
  refine lv_iadd hx hb dL_law_585 ?_
  refine zasi (show ((nI (6 * k)) + (nI 5)) = nI (6 * k + 5) from nI_add _ _) ?_
  refine zsl hx hb hX hbl hL3 hS (show 6 * k + 5 < Ln by omega) e5 dL_law_586 ?_
  refine zgm (va_runV (As := [.int v1, .int v2, .int v3, .int v4, .int v5]) (rest := []) ⟨hx, hb, hml, hown, hts⟩ (hM H.size) (cwV 5 hts gL_law_X5_come rfl rfl rfl (by decide +kernel) ⟨Nat.le_of_ble_eq_true rfl, Nat.le_of_ble_eq_true rfl⟩) (zmV (q0 := 0) (ci := 5) hY (w2_r hD) hE rfl rfl) rfl rfl hl.1 rfl (lv_room (Nat.le_of_ble_eq_true rfl)) dL_law_587 (by show _ ≤ 601024 ∧ _ ≤ 7293034; omega)) hP hD hS hA rfl (fun r H locs hr9b hP hY hD hS => ?_)
  refine lv_istore (lv' := [(6, .int r), (5, .int r9), (0, .ref b), (1, .ref h0), (2, .ref hm), (3, .ref ob), (4, .int (nI (6 * k)))]) hx hb dL_law_590 hl (by decide) rfl (fun ls hl => ?_)
  refine lv_aload_n hx hb dL_law_592 rfl (lv_at hl 4 rfl) ?_
  refine zci (va_runV (As := []) (rest := []) ⟨hx, hb, hml, hown, hts⟩ (m_thrown l D ca sa hm ad _ _ _ _ _ _) (cwV 0 hts gL_law_X5_thrown rfl rfl rfl (by decide +kernel) ⟨Nat.le_of_ble_eq_true rfl, Nat.le_of_ble_eq_true rfl⟩) (zpV (q0 := 0) (ci := 5) hY hE rfl rfl) rfl rfl hl.1 rfl (lv_room (Nat.le_of_ble_eq_true rfl)) dL_law_593 (by show _ ≤ 601024 ∧ _ ≤ 7293034; omega)) ?_
  refine lv_iload hx hb dL_law_596 (lv_at hl 1 rfl) ?_
  refine lv_icmp_eq (tgt := 603) hx hb dL_law_598 (by decide) (fun c_598 => ?_) (fun c_598 => ?_)
  · refine lv_iload hx hb dL_law_603 (lv_at hl 1 rfl) ?_
    refine lv_if_ne (tgt := 627) hx hb dL_law_605 (by decide) (fun c_605 => ?_) (fun c_605 => ?_)
    · refine lv_goto (tgt := 1551) hx hb dL_law_627 (by decide) ?_
      refine W.widen (k := cells + 24) (n := slots + 100) (by omega) (by omega) ?_
      exact kk V nc M _ _ _ _ H locs ls ⟨i_up hI0 hk, ⟨ta, pa, aT, aP, aS, aH, n9, zRep_up hR (Nat.le_succ k) (by omega)⟩, hP, hY, hD, hS, lv_sub hl [2, 3, 4, 5, 6] rfl⟩
    · exact absurd c_605 (by rcases hr9 with rfl | rfl <;> decide)
  · exact absurd rfl c_598

set_option maxHeartbeats 4000000 in
set_option maxRecDepth 100000 in
theorem st_go_ok {p : Program} {l : Launch} {e : Env} {s : State} {m : MethodId} {below : List Frame} {meth : Method} {c : Code} {b Ln : Nat} {xs : Nat → Int32} {D : va_G} {ca : Nat → ClassId} {sa : Nat → Nat} (C : lw_C p l s m meth c b Ln xs D ca sa) {h0 hm ob : Nat} {ad : Nat → Nat} {k : Nat} {H : Heap} {locs : List Loc} {ls : Array Slot} {V : zV} {nc : Nat} {M : Nat → Nat → Int32} {th : Int32} {L : List Nat} {f : Nat → va_E} {g : Nat → Int64} (S : lw_S D ca s h0 hm ob b ad k (6 * k) H locs ls V nc M th L f g) (hk : k < 512) (hi : 6 * k + 6 ≤ Ln) {cells slots : Nat} {Q : State → Prop} (hroom : cells + 24 ≤ 601024 ∧ slots + 100 ≤ 7293034) {v1 v2 : Int32} (e1 : xs (6 * k + 1) = v1) (e2 : xs (6 * k + 2) = v2) {mc ms : Nat} (hmc : mc ≤ 24) (hms : ms ≤ 100) {V' : zV} {nc' : Nat} {M' : Nat → Nat → Int32} {P : Int64 → zU → Prop} (hP9 : ∀ x u, P x u → zR u.1 u.2 ca h0 (k + 1) V') (hI : Inv V' nc' M' (k + 1)) (hC : ∀ sz, vx_Met l yL_go wsL_go ({ frames := 10, cells := mc, slots := ms, locals := 450 }) (va_Pc [.ref h0, .int v1, .int v2] (zLp D L f ob g ca sa sz)) (va_Qi (fun (r : Int32) (u : zU × (Nat → Int64)) => r = nI 0 ∧ P (u.2 0) u.1) (fun u t => va_P D vwCl (oW ca ob u.2 ++ va_pl u.1.1 u.1.2) t.heap ∧ va_D (va_A (oW ca ob g ++ va_pl L f) sz) (oW ca ob u.2 ++ va_pl u.1.1 u.1.2)) (va_A (oW ca ob g ++ va_pl L f) sz)) zX0 mc ms (va_A (oW ca ob g ++ va_pl L f) sz)) (hM : ∀ sz, Met l yX5_go wsX5_go ({ frames := 9, cells := 0, slots := 0, locals := 360 }) (va_Pc [.ref hm, .int v1, .int v2] (zMp D (mW hm ad ca th (vTd V) (vNt V) (vNp V) nc M) ca sa sz)) (va_Qv (fun _ : Unit => True) (fun _ t9 => va_P D vwCl (mW hm ad ca (nI 0) (vTd V') (vNt V') (vNp V') nc' M') t9.heap) (va_A (mW hm ad ca th (vTd V) (vNt V) (vNp V) nc M) sz)) 0 0 (va_A (mW hm ad ca th (vTd V) (vNt V) (vNp V) nc M) sz)) (kk : ∀ (V' : zV) (nc' : Nat) (M' : Nat → Nat → Int32) (th' : Int32) (L' : List Nat) (f' : Nat → va_E) (g' : Nat → Int64) (H1 : Heap) (locs1 : List Loc) (ls1 : Array Slot), lw_S D ca s h0 hm ob b ad (k + 1) (6 * k) H1 locs1 ls1 V' nc' M' th' L' f' g' → W p l e room_1 s m #[Value.ref b] below meth c H1 locs1 (cells + 24) (slots + 100) Q (F0 m 1551 ls1 [])) : W p l e room_1 s m #[Value.ref b] below meth c H locs cells slots Q (F0 m 630 ls []) := by
  obtain ⟨⟨hx, hb, hml, hown, hts⟩, hX, hbl, hL3, hE, hN, hZ0, hl0⟩ := C
  obtain ⟨hI0, ⟨ta, pa, aT, aP, aS, aH, n9, hR⟩, hP, hY, hD, hS, hl⟩ := S
  have h4 := hR.1.1
  have hA : ∀ q : Nat, s.heap.size ≤ q → (fun q => s.heap.size ≤ q) q := fun _ h => h
  refine lv_aload_n hx hb dL_law_630 rfl (lv_at hl 1 rfl) ?_
  refine lv_aload_n hx hb dL_law_631 rfl (lv_at hl 0 rfl) ?_
  refine lv_iload hx hb dL_law_632 (lv_at hl 4 rfl) ?_
  refine lv_iconst (v := nI 1) hx hb dL_law_634 (by decide) ?_
  refine lv_iadd hx hb dL_law_635 ?_
  refine zasi (show ((nI (6 * k)) + (nI 1)) = nI (6 * k + 1) from nI_add _ _) ?_
  refine zsl hx hb hX hbl hL3 hS (show 6 * k + 1 < Ln by omega) e1 dL_law_636 ?_
  refine lv_aload_n hx hb dL_law_637 rfl (lv_at hl 0 rfl) ?_
  refine lv_iload hx hb dL_law_638 (lv_at hl 4 rfl) ?_
  refine lv_iconst (v := nI 2) hx hb dL_law_640 (by decide) ?_
  refine lv_iadd hx hb dL_law_641 ?_
  refine zasi (show ((nI (6 * k)) + (nI 2)) = nI (6 * k + 2) from nI_add _ _) ?_
  refine zsl hx hb hX hbl hL3 hS (show 6 * k + 2 < Ln by omega) e2 dL_law_642 ?_
  refine zgo (vx_runSX (As := [.ref h0, .int v1, .int v2]) (rest := []) ⟨hx, hb, hml, hown, hts⟩ (hC H.size) (vx_cwSW (bytes := cL_go) (maxL := 4) (ret := some .int) (hh := [(0, 6, 9, 20), (0, 6, 12, 15)]) 3 hts gL_law_L_go rfl rfl rfl (by decide +kernel) ⟨Nat.le_of_ble_eq_true rfl, Nat.le_of_ble_eq_true rfl⟩) (zLS hP (w2_l hD) hE hN (lwZ hZ0 hS) (fun q h => Nat.le_trans hS.1 h)) rfl rfl hl.1 rfl (lv_room (Nat.le_of_ble_eq_true rfl)) dL_law_643 (by show _ ≤ 601024 ∧ _ ≤ 7293034; omega)) hY hD hS hA (fun u g1 H locs hu hP hY hD hS => ?_)
  have hR9 := hP9 _ _ hu
  refine lv_istore (lv' := [(5, .int (nI 0)), (0, .ref b), (1, .ref h0), (2, .ref hm), (3, .ref ob), (4, .int (nI (6 * k)))]) hx hb dL_law_646 hl (by decide) rfl (fun ls hl => ?_)
  refine lv_aload_n hx hb dL_law_648 rfl (lv_at hl 3 rfl) ?_
  refine lv_aload_n hx hb dL_law_649 rfl (lv_at hl 1 rfl) ?_
  refine lv_iload hx hb dL_law_650 (lv_at hl 5 rfl) ?_
  refine lv_iconst (v := nI 1) hx hb dL_law_652 (by decide) ?_
  refine lv_iadd hx hb dL_law_653 ?_
  refine zasi (show ((nI (6 * k)) + (nI 1)) = nI (6 * k + 1) from nI_add _ _) ?_
  refine zsl hx hb hX hbl hL3 hS (show 6 * k + 1 < Ln by omega) e1 dL_law_654 ?_
  refine lv_aload_n hx hb dL_law_655 rfl (lv_at hl 1 rfl) ?_
  refine lv_iload hx hb dL_law_656 (lv_at hl 5 rfl) ?_
  refine lv_iconst (v := nI 2) hx hb dL_law_658 (by decide) ?_
  refine lv_iadd hx hb dL_law_659 ?_
  refine zasi (show ((nI (6 * k)) + (nI 2)) = nI (6 * k + 2) from nI_add _ _) ?_
  refine zsl hx hb hX hbl hL3 hS (show 6 * k + 2 < Ln by omega) e2 dL_law_660 ?_
  refine zgmv (va_runV (As := [.int v1, .int v2]) (rest := []) ⟨hx, hb, hml, hown, hts⟩ (hM H.size) (cwV 2 hts gL_law_X5_go rfl rfl rfl (by decide +kernel) ⟨Nat.le_of_ble_eq_true rfl, Nat.le_of_ble_eq_true rfl⟩) (zmV (q0 := 0) (ci := 5) hY (w2_r hD) hE rfl rfl) rfl rfl hl.1 rfl (lv_room (Nat.le_of_ble_eq_true rfl)) dL_law_661 (by show _ ≤ 601024 ∧ _ ≤ 7293034; omega)) hP hD hS hA rfl (fun H locs hP hY hD hS => ?_)
  refine lv_aload_n hx hb dL_law_664 rfl (lv_at hl 3 rfl) ?_
  refine zci (va_runV (As := []) (rest := []) ⟨hx, hb, hml, hown, hts⟩ (m_thrown l D ca sa hm ad _ _ _ _ _ _) (cwV 0 hts gL_law_X5_thrown rfl rfl rfl (by decide +kernel) ⟨Nat.le_of_ble_eq_true rfl, Nat.le_of_ble_eq_true rfl⟩) (zpV (q0 := 0) (ci := 5) hY hE rfl rfl) rfl rfl hl.1 rfl (lv_room (Nat.le_of_ble_eq_true rfl)) dL_law_665 (by show _ ≤ 601024 ∧ _ ≤ 7293034; omega)) ?_
  refine lv_iload hx hb dL_law_668 (lv_at hl 0 rfl) ?_
  refine lv_icmp_eq (tgt := 675) hx hb dL_law_670 (by decide) (fun c_670 => ?_) (fun c_670 => ?_)
  · refine lv_goto (tgt := 1551) hx hb dL_law_675 (by decide) ?_
    refine W.widen (k := cells + 24) (n := slots + 100) (by omega) (by omega) ?_
    exact kk V' nc' M' _ _ _ _ H locs ls ⟨hI, hR9, hP, hY, hD, hS, lv_sub hl [1, 2, 3, 4, 5] rfl⟩
  · exact absurd c_670 (by decide)

set_option maxHeartbeats 4000000 in
set_option maxRecDepth 100000 in
theorem st_go_x {p : Program} {l : Launch} {e : Env} {s : State} {m : MethodId} {below : List Frame} {meth : Method} {c : Code} {b Ln : Nat} {xs : Nat → Int32} {D : va_G} {ca : Nat → ClassId} {sa : Nat → Nat} (C : lw_C p l s m meth c b Ln xs D ca sa) {h0 hm ob : Nat} {ad : Nat → Nat} {k : Nat} {H : Heap} {locs : List Loc} {ls : Array Slot} {V : zV} {nc : Nat} {M : Nat → Nat → Int32} {th : Int32} {L : List Nat} {f : Nat → va_E} {g : Nat → Int64} (S : lw_S D ca s h0 hm ob b ad k (6 * k) H locs ls V nc M th L f g) (hk : k < 512) (hi : 6 * k + 6 ≤ Ln) {cells slots : Nat} {Q : State → Prop} (hroom : cells + 24 ≤ 601024 ∧ slots + 100 ≤ 7293034) {v1 v2 : Int32} (e1 : xs (6 * k + 1) = v1) (e2 : xs (6 * k + 2) = v2) {mc ms : Nat} (hmc : mc ≤ 24) (hms : ms ≤ 100) {r9 : Int32} (hr9 : r9 = nI 1 ∨ r9 = nI 2) (hC : ∀ sz, vx_Met l yL_go wsL_go ({ frames := 10, cells := mc, slots := ms, locals := 450 }) (va_Pc [.ref h0, .int v1, .int v2] (zLp D L f ob g ca sa sz)) (va_Qi (fun (r : Int32) (_ : Unit) => r = r9) (fun _ _ => True) (fun q => sz ≤ q)) zX0 mc ms (fun q => sz ≤ q)) (hM : ∀ sz, Met l yX5_go wsX5_go ({ frames := 9, cells := 0, slots := 0, locals := 360 }) (va_Pc [.ref hm, .int v1, .int v2] (zMp D (mW hm ad ca th (vTd V) (vNt V) (vNp V) nc M) ca sa sz)) (va_Qv (fun _ : Unit => True) (fun _ t9 => va_P D vwCl (mW hm ad ca r9 (vTd V) (vNt V) (vNp V) nc M) t9.heap) (va_A (mW hm ad ca th (vTd V) (vNt V) (vNp V) nc M) sz)) 0 0 (va_A (mW hm ad ca th (vTd V) (vNt V) (vNp V) nc M) sz)) (kk : ∀ (V' : zV) (nc' : Nat) (M' : Nat → Nat → Int32) (th' : Int32) (L' : List Nat) (f' : Nat → va_E) (g' : Nat → Int64) (H1 : Heap) (locs1 : List Loc) (ls1 : Array Slot), lw_S D ca s h0 hm ob b ad (k + 1) (6 * k) H1 locs1 ls1 V' nc' M' th' L' f' g' → W p l e room_1 s m #[Value.ref b] below meth c H1 locs1 (cells + 24) (slots + 100) Q (F0 m 1551 ls1 [])) : W p l e room_1 s m #[Value.ref b] below meth c H locs cells slots Q (F0 m 630 ls []) := by
  obtain ⟨⟨hx, hb, hml, hown, hts⟩, hX, hbl, hL3, hE, hN, hZ0, hl0⟩ := C
  obtain ⟨hI0, ⟨ta, pa, aT, aP, aS, aH, n9, hR⟩, hP, hY, hD, hS, hl⟩ := S
  have h4 := hR.1.1
  have hA : ∀ q : Nat, s.heap.size ≤ q → (fun q => s.heap.size ≤ q) q := fun _ h => h
  refine lv_aload_n hx hb dL_law_630 rfl (lv_at hl 1 rfl) ?_
  refine lv_aload_n hx hb dL_law_631 rfl (lv_at hl 0 rfl) ?_
  refine lv_iload hx hb dL_law_632 (lv_at hl 4 rfl) ?_
  refine lv_iconst (v := nI 1) hx hb dL_law_634 (by decide) ?_
  refine lv_iadd hx hb dL_law_635 ?_
  refine zasi (show ((nI (6 * k)) + (nI 1)) = nI (6 * k + 1) from nI_add _ _) ?_
  refine zsl hx hb hX hbl hL3 hS (show 6 * k + 1 < Ln by omega) e1 dL_law_636 ?_
  refine lv_aload_n hx hb dL_law_637 rfl (lv_at hl 0 rfl) ?_
  refine lv_iload hx hb dL_law_638 (lv_at hl 4 rfl) ?_
  refine lv_iconst (v := nI 2) hx hb dL_law_640 (by decide) ?_
  refine lv_iadd hx hb dL_law_641 ?_
  refine zasi (show ((nI (6 * k)) + (nI 2)) = nI (6 * k + 2) from nI_add _ _) ?_
  refine zsl hx hb hX hbl hL3 hS (show 6 * k + 2 < Ln by omega) e2 dL_law_642 ?_
  refine zgx (vx_runSX (As := [.ref h0, .int v1, .int v2]) (rest := []) ⟨hx, hb, hml, hown, hts⟩ (hC H.size) (vx_cwSW (bytes := cL_go) (maxL := 4) (ret := some .int) (hh := [(0, 6, 9, 20), (0, 6, 12, 15)]) 3 hts gL_law_L_go rfl rfl rfl (by decide +kernel) ⟨Nat.le_of_ble_eq_true rfl, Nat.le_of_ble_eq_true rfl⟩) (zLS hP (w2_l hD) hE hN (lwZ hZ0 hS) (fun q h => Nat.le_trans hS.1 h)) rfl rfl hl.1 rfl (lv_room (Nat.le_of_ble_eq_true rfl)) dL_law_643 (by show _ ≤ 601024 ∧ _ ≤ 7293034; omega)) hP hY hS hA (fun H locs hP hY hS => ?_)
  refine lv_istore (lv' := [(5, .int r9), (0, .ref b), (1, .ref h0), (2, .ref hm), (3, .ref ob), (4, .int (nI (6 * k)))]) hx hb dL_law_646 hl (by decide) rfl (fun ls hl => ?_)
  refine lv_aload_n hx hb dL_law_648 rfl (lv_at hl 3 rfl) ?_
  refine lv_aload_n hx hb dL_law_649 rfl (lv_at hl 1 rfl) ?_
  refine lv_iload hx hb dL_law_650 (lv_at hl 5 rfl) ?_
  refine lv_iconst (v := nI 1) hx hb dL_law_652 (by decide) ?_
  refine lv_iadd hx hb dL_law_653 ?_
  refine zasi (show ((nI (6 * k)) + (nI 1)) = nI (6 * k + 1) from nI_add _ _) ?_
  refine zsl hx hb hX hbl hL3 hS (show 6 * k + 1 < Ln by omega) e1 dL_law_654 ?_
  refine lv_aload_n hx hb dL_law_655 rfl (lv_at hl 1 rfl) ?_
  refine lv_iload hx hb dL_law_656 (lv_at hl 5 rfl) ?_
  refine lv_iconst (v := nI 2) hx hb dL_law_658 (by decide) ?_
  refine lv_iadd hx hb dL_law_659 ?_
  refine zasi (show ((nI (6 * k)) + (nI 2)) = nI (6 * k + 2) from nI_add _ _) ?_
  refine zsl hx hb hX hbl hL3 hS (show 6 * k + 2 < Ln by omega) e2 dL_law_660 ?_
  refine zgmv (va_runV (As := [.int v1, .int v2]) (rest := []) ⟨hx, hb, hml, hown, hts⟩ (hM H.size) (cwV 2 hts gL_law_X5_go rfl rfl rfl (by decide +kernel) ⟨Nat.le_of_ble_eq_true rfl, Nat.le_of_ble_eq_true rfl⟩) (zmV (q0 := 0) (ci := 5) hY (w2_r hD) hE rfl rfl) rfl rfl hl.1 rfl (lv_room (Nat.le_of_ble_eq_true rfl)) dL_law_661 (by show _ ≤ 601024 ∧ _ ≤ 7293034; omega)) hP hD hS hA rfl (fun H locs hP hY hD hS => ?_)
  refine lv_aload_n hx hb dL_law_664 rfl (lv_at hl 3 rfl) ?_
  refine zci (va_runV (As := []) (rest := []) ⟨hx, hb, hml, hown, hts⟩ (m_thrown l D ca sa hm ad _ _ _ _ _ _) (cwV 0 hts gL_law_X5_thrown rfl rfl rfl (by decide +kernel) ⟨Nat.le_of_ble_eq_true rfl, Nat.le_of_ble_eq_true rfl⟩) (zpV (q0 := 0) (ci := 5) hY hE rfl rfl) rfl rfl hl.1 rfl (lv_room (Nat.le_of_ble_eq_true rfl)) dL_law_665 (by show _ ≤ 601024 ∧ _ ≤ 7293034; omega)) ?_
  refine lv_iload hx hb dL_law_668 (lv_at hl 0 rfl) ?_
  refine lv_icmp_eq (tgt := 675) hx hb dL_law_670 (by decide) (fun c_670 => ?_) (fun c_670 => ?_)
  · refine lv_goto (tgt := 1551) hx hb dL_law_675 (by decide) ?_
    refine W.widen (k := cells + 24) (n := slots + 100) (by omega) (by omega) ?_
    exact kk V nc M _ _ _ _ H locs ls ⟨i_up hI0 hk, ⟨ta, pa, aT, aP, aS, aH, n9, zRep_up hR (Nat.le_succ k) (by omega)⟩, hP, hY, hD, hS, lv_sub hl [1, 2, 3, 4, 5] rfl⟩
  · exact absurd rfl c_670

set_option maxHeartbeats 4000000 in
set_option maxRecDepth 100000 in
theorem st_pass_ok {p : Program} {l : Launch} {e : Env} {s : State} {m : MethodId} {below : List Frame} {meth : Method} {c : Code} {b Ln : Nat} {xs : Nat → Int32} {D : va_G} {ca : Nat → ClassId} {sa : Nat → Nat} (C : lw_C p l s m meth c b Ln xs D ca sa) {h0 hm ob : Nat} {ad : Nat → Nat} {k : Nat} {H : Heap} {locs : List Loc} {ls : Array Slot} {V : zV} {nc : Nat} {M : Nat → Nat → Int32} {th : Int32} {L : List Nat} {f : Nat → va_E} {g : Nat → Int64} (S : lw_S D ca s h0 hm ob b ad k (6 * k) H locs ls V nc M th L f g) (hk : k < 512) (hi : 6 * k + 6 ≤ Ln) {cells slots : Nat} {Q : State → Prop} (hroom : cells + 24 ≤ 601024 ∧ slots + 100 ≤ 7293034) {v1 : Int32} (e1 : xs (6 * k + 1) = v1) {mc ms : Nat} (hmc : mc ≤ 24) (hms : ms ≤ 100) {V' : zV} {nc' : Nat} {M' : Nat → Nat → Int32} {P : Int64 → zU → Prop} {val : Int32} (hP9 : ∀ x u, P x u → x = val.toInt64 ∧ zR u.1 u.2 ca h0 (k + 1) V') (hI : Inv V' nc' M' (k + 1)) (hC : ∀ sz, vx_Met l yL_pass wsL_pass ({ frames := 10, cells := mc, slots := ms, locals := 450 }) (va_Pc [.ref h0, .int v1, .ref ob] (zLp D L f ob g ca sa sz)) (va_Qi (fun (r : Int32) (u : zU × (Nat → Int64)) => r = nI 0 ∧ P (u.2 0) u.1) (fun u t => va_P D vwCl (oW ca ob u.2 ++ va_pl u.1.1 u.1.2) t.heap ∧ va_D (va_A (oW ca ob g ++ va_pl L f) sz) (oW ca ob u.2 ++ va_pl u.1.1 u.1.2)) (va_A (oW ca ob g ++ va_pl L f) sz)) zX0 mc ms (va_A (oW ca ob g ++ va_pl L f) sz)) (hM : ∀ sz, Met l yX5_pass wsX5_pass ({ frames := 9, cells := 0, slots := 0, locals := 360 }) (va_Pc [.ref hm, .int v1] (zMp D (mW hm ad ca th (vTd V) (vNt V) (vNp V) nc M) ca sa sz)) (va_Qi (fun (r : Int32) (_ : Unit) => r = val) (fun _ t9 => va_P D vwCl (mW hm ad ca (nI 0) (vTd V') (vNt V') (vNp V') nc' M') t9.heap) (va_A (mW hm ad ca th (vTd V) (vNt V) (vNp V) nc M) sz)) 0 0 (va_A (mW hm ad ca th (vTd V) (vNt V) (vNp V) nc M) sz)) (kk : ∀ (V' : zV) (nc' : Nat) (M' : Nat → Nat → Int32) (th' : Int32) (L' : List Nat) (f' : Nat → va_E) (g' : Nat → Int64) (H1 : Heap) (locs1 : List Loc) (ls1 : Array Slot), lw_S D ca s h0 hm ob b ad (k + 1) (6 * k) H1 locs1 ls1 V' nc' M' th' L' f' g' → W p l e room_1 s m #[Value.ref b] below meth c H1 locs1 (cells + 24) (slots + 100) Q (F0 m 1551 ls1 [])) : W p l e room_1 s m #[Value.ref b] below meth c H locs cells slots Q (F0 m 678 ls []) := by
  obtain ⟨⟨hx, hb, hml, hown, hts⟩, hX, hbl, hL3, hE, hN, hZ0, hl0⟩ := C
  obtain ⟨hI0, ⟨ta, pa, aT, aP, aS, aH, n9, hR⟩, hP, hY, hD, hS, hl⟩ := S
  have h4 := hR.1.1
  have hA : ∀ q : Nat, s.heap.size ≤ q → (fun q => s.heap.size ≤ q) q := fun _ h => h
  refine lv_aload_n hx hb dL_law_678 rfl (lv_at hl 1 rfl) ?_
  refine lv_aload_n hx hb dL_law_679 rfl (lv_at hl 0 rfl) ?_
  refine lv_iload hx hb dL_law_680 (lv_at hl 4 rfl) ?_
  refine lv_iconst (v := nI 1) hx hb dL_law_682 (by decide) ?_
  refine lv_iadd hx hb dL_law_683 ?_
  refine zasi (show ((nI (6 * k)) + (nI 1)) = nI (6 * k + 1) from nI_add _ _) ?_
  refine zsl hx hb hX hbl hL3 hS (show 6 * k + 1 < Ln by omega) e1 dL_law_684 ?_
  refine lv_aload_n hx hb dL_law_685 rfl (lv_at hl 3 rfl) ?_
  refine zgo (vx_runSX (As := [.ref h0, .int v1, .ref ob]) (rest := []) ⟨hx, hb, hml, hown, hts⟩ (hC H.size) (vx_cwSW (bytes := cL_pass) (maxL := 4) (ret := some .int) (hh := [(0, 9, 12, 13), (0, 9, 15, 15)]) 3 hts gL_law_L_pass rfl rfl rfl (by decide +kernel) ⟨Nat.le_of_ble_eq_true rfl, Nat.le_of_ble_eq_true rfl⟩) (zLS hP (w2_l hD) hE hN (lwZ hZ0 hS) (fun q h => Nat.le_trans hS.1 h)) rfl rfl hl.1 rfl (lv_room (Nat.le_of_ble_eq_true rfl)) dL_law_686 (by show _ ≤ 601024 ∧ _ ≤ 7293034; omega)) hY hD hS hA (fun u g1 H locs hu hP hY hD hS => ?_)
  obtain ⟨hv9, hR9⟩ := hP9 _ _ hu
  refine lv_istore (lv' := [(5, .int (nI 0)), (0, .ref b), (1, .ref h0), (2, .ref hm), (3, .ref ob), (4, .int (nI (6 * k)))]) hx hb dL_law_689 hl (by decide) rfl (fun ls hl => ?_)
  refine lv_aload_n hx hb dL_law_691 rfl (lv_at hl 3 rfl) ?_
  refine lv_aload_n hx hb dL_law_692 rfl (lv_at hl 1 rfl) ?_
  refine lv_iload hx hb dL_law_693 (lv_at hl 5 rfl) ?_
  refine lv_iconst (v := nI 1) hx hb dL_law_695 (by decide) ?_
  refine lv_iadd hx hb dL_law_696 ?_
  refine zasi (show ((nI (6 * k)) + (nI 1)) = nI (6 * k + 1) from nI_add _ _) ?_
  refine zsl hx hb hX hbl hL3 hS (show 6 * k + 1 < Ln by omega) e1 dL_law_697 ?_
  refine zgm (va_runV (As := [.int v1]) (rest := []) ⟨hx, hb, hml, hown, hts⟩ (hM H.size) (cwV 1 hts gL_law_X5_pass rfl rfl rfl (by decide +kernel) ⟨Nat.le_of_ble_eq_true rfl, Nat.le_of_ble_eq_true rfl⟩) (zmV (q0 := 0) (ci := 5) hY (w2_r hD) hE rfl rfl) rfl rfl hl.1 rfl (lv_room (Nat.le_of_ble_eq_true rfl)) dL_law_698 (by show _ ≤ 601024 ∧ _ ≤ 7293034; omega)) hP hD hS hA rfl (fun r H locs hr9b hP hY hD hS => ?_)
  rw [show r = val from hr9b]
  refine lv_istore (lv' := [(6, .int val), (5, .int (nI 0)), (0, .ref b), (1, .ref h0), (2, .ref hm), (3, .ref ob), (4, .int (nI (6 * k)))]) hx hb dL_law_701 hl (by decide) rfl (fun ls hl => ?_)
  refine lv_aload_n hx hb dL_law_703 rfl (lv_at hl 4 rfl) ?_
  refine zci (va_runV (As := []) (rest := []) ⟨hx, hb, hml, hown, hts⟩ (m_thrown l D ca sa hm ad _ _ _ _ _ _) (cwV 0 hts gL_law_X5_thrown rfl rfl rfl (by decide +kernel) ⟨Nat.le_of_ble_eq_true rfl, Nat.le_of_ble_eq_true rfl⟩) (zpV (q0 := 0) (ci := 5) hY hE rfl rfl) rfl rfl hl.1 rfl (lv_room (Nat.le_of_ble_eq_true rfl)) dL_law_704 (by show _ ≤ 601024 ∧ _ ≤ 7293034; omega)) ?_
  refine lv_iload hx hb dL_law_707 (lv_at hl 1 rfl) ?_
  refine lv_icmp_eq (tgt := 714) hx hb dL_law_709 (by decide) (fun c_709 => ?_) (fun c_709 => ?_)
  · refine lv_iload hx hb dL_law_714 (lv_at hl 1 rfl) ?_
    refine lv_if_ne (tgt := 731) hx hb dL_law_716 (by decide) (fun c_716 => ?_) (fun c_716 => ?_)
    · exact absurd c_716 (by decide)
    · refine lv_aload_n hx hb dL_law_719 rfl (lv_at hl 5 rfl) ?_
      refine lv_iconst (v := nI 0) hx hb dL_law_720 (by decide) ?_
      refine zol hx hb hE hP hv9 dL_law_721 ?_
      refine lv_iload hx hb dL_law_722 (lv_at hl 0 rfl) ?_
      refine lv_i2l hx hb dL_law_724 rfl ?_
      refine W.lcmp hx hb dL_law_725 ?_
      refine zasi (show (lg_cmp (val.toInt64) (val.toInt64)) = nI 0 from zcmp _) ?_
      refine lv_if_eq (tgt := 731) hx hb dL_law_726 (by decide) (fun c_726 => ?_) (fun c_726 => ?_)
      · refine lv_goto (tgt := 1551) hx hb dL_law_731 (by decide) ?_
        refine W.widen (k := cells + 24) (n := slots + 100) (by omega) (by omega) ?_
        exact kk V' nc' M' _ _ _ _ H locs ls ⟨hI, hR9, hP, hY, hD, hS, lv_sub hl [2, 3, 4, 5, 6] rfl⟩
      · exact absurd c_726 (by decide)
  · exact absurd c_709 (by decide)

set_option maxHeartbeats 4000000 in
set_option maxRecDepth 100000 in
theorem st_pass_x {p : Program} {l : Launch} {e : Env} {s : State} {m : MethodId} {below : List Frame} {meth : Method} {c : Code} {b Ln : Nat} {xs : Nat → Int32} {D : va_G} {ca : Nat → ClassId} {sa : Nat → Nat} (C : lw_C p l s m meth c b Ln xs D ca sa) {h0 hm ob : Nat} {ad : Nat → Nat} {k : Nat} {H : Heap} {locs : List Loc} {ls : Array Slot} {V : zV} {nc : Nat} {M : Nat → Nat → Int32} {th : Int32} {L : List Nat} {f : Nat → va_E} {g : Nat → Int64} (S : lw_S D ca s h0 hm ob b ad k (6 * k) H locs ls V nc M th L f g) (hk : k < 512) (hi : 6 * k + 6 ≤ Ln) {cells slots : Nat} {Q : State → Prop} (hroom : cells + 24 ≤ 601024 ∧ slots + 100 ≤ 7293034) {v1 : Int32} (e1 : xs (6 * k + 1) = v1) {mc ms : Nat} (hmc : mc ≤ 24) (hms : ms ≤ 100) {r9 : Int32} (hr9 : r9 = nI 1 ∨ r9 = nI 2) (hC : ∀ sz, vx_Met l yL_pass wsL_pass ({ frames := 10, cells := mc, slots := ms, locals := 450 }) (va_Pc [.ref h0, .int v1, .ref ob] (zLp D L f ob g ca sa sz)) (va_Qi (fun (r : Int32) (_ : Unit) => r = r9) (fun _ _ => True) (fun q => sz ≤ q)) zX0 mc ms (fun q => sz ≤ q)) (hM : ∀ sz, Met l yX5_pass wsX5_pass ({ frames := 9, cells := 0, slots := 0, locals := 360 }) (va_Pc [.ref hm, .int v1] (zMp D (mW hm ad ca th (vTd V) (vNt V) (vNp V) nc M) ca sa sz)) (va_Qi (fun (r : Int32) (_ : Unit) => True) (fun _ t9 => va_P D vwCl (mW hm ad ca r9 (vTd V) (vNt V) (vNp V) nc M) t9.heap) (va_A (mW hm ad ca th (vTd V) (vNt V) (vNp V) nc M) sz)) 0 0 (va_A (mW hm ad ca th (vTd V) (vNt V) (vNp V) nc M) sz)) (kk : ∀ (V' : zV) (nc' : Nat) (M' : Nat → Nat → Int32) (th' : Int32) (L' : List Nat) (f' : Nat → va_E) (g' : Nat → Int64) (H1 : Heap) (locs1 : List Loc) (ls1 : Array Slot), lw_S D ca s h0 hm ob b ad (k + 1) (6 * k) H1 locs1 ls1 V' nc' M' th' L' f' g' → W p l e room_1 s m #[Value.ref b] below meth c H1 locs1 (cells + 24) (slots + 100) Q (F0 m 1551 ls1 [])) : W p l e room_1 s m #[Value.ref b] below meth c H locs cells slots Q (F0 m 678 ls []) := by
  obtain ⟨⟨hx, hb, hml, hown, hts⟩, hX, hbl, hL3, hE, hN, hZ0, hl0⟩ := C
  obtain ⟨hI0, ⟨ta, pa, aT, aP, aS, aH, n9, hR⟩, hP, hY, hD, hS, hl⟩ := S
  have h4 := hR.1.1
  have hA : ∀ q : Nat, s.heap.size ≤ q → (fun q => s.heap.size ≤ q) q := fun _ h => h
  refine lv_aload_n hx hb dL_law_678 rfl (lv_at hl 1 rfl) ?_
  refine lv_aload_n hx hb dL_law_679 rfl (lv_at hl 0 rfl) ?_
  refine lv_iload hx hb dL_law_680 (lv_at hl 4 rfl) ?_
  refine lv_iconst (v := nI 1) hx hb dL_law_682 (by decide) ?_
  refine lv_iadd hx hb dL_law_683 ?_
  refine zasi (show ((nI (6 * k)) + (nI 1)) = nI (6 * k + 1) from nI_add _ _) ?_
  refine zsl hx hb hX hbl hL3 hS (show 6 * k + 1 < Ln by omega) e1 dL_law_684 ?_
  refine lv_aload_n hx hb dL_law_685 rfl (lv_at hl 3 rfl) ?_
  refine zgx (vx_runSX (As := [.ref h0, .int v1, .ref ob]) (rest := []) ⟨hx, hb, hml, hown, hts⟩ (hC H.size) (vx_cwSW (bytes := cL_pass) (maxL := 4) (ret := some .int) (hh := [(0, 9, 12, 13), (0, 9, 15, 15)]) 3 hts gL_law_L_pass rfl rfl rfl (by decide +kernel) ⟨Nat.le_of_ble_eq_true rfl, Nat.le_of_ble_eq_true rfl⟩) (zLS hP (w2_l hD) hE hN (lwZ hZ0 hS) (fun q h => Nat.le_trans hS.1 h)) rfl rfl hl.1 rfl (lv_room (Nat.le_of_ble_eq_true rfl)) dL_law_686 (by show _ ≤ 601024 ∧ _ ≤ 7293034; omega)) hP hY hS hA (fun H locs hP hY hS => ?_)
  refine lv_istore (lv' := [(5, .int r9), (0, .ref b), (1, .ref h0), (2, .ref hm), (3, .ref ob), (4, .int (nI (6 * k)))]) hx hb dL_law_689 hl (by decide) rfl (fun ls hl => ?_)
  refine lv_aload_n hx hb dL_law_691 rfl (lv_at hl 3 rfl) ?_
  refine lv_aload_n hx hb dL_law_692 rfl (lv_at hl 1 rfl) ?_
  refine lv_iload hx hb dL_law_693 (lv_at hl 5 rfl) ?_
  refine lv_iconst (v := nI 1) hx hb dL_law_695 (by decide) ?_
  refine lv_iadd hx hb dL_law_696 ?_
  refine zasi (show ((nI (6 * k)) + (nI 1)) = nI (6 * k + 1) from nI_add _ _) ?_
  refine zsl hx hb hX hbl hL3 hS (show 6 * k + 1 < Ln by omega) e1 dL_law_697 ?_
  refine zgm (va_runV (As := [.int v1]) (rest := []) ⟨hx, hb, hml, hown, hts⟩ (hM H.size) (cwV 1 hts gL_law_X5_pass rfl rfl rfl (by decide +kernel) ⟨Nat.le_of_ble_eq_true rfl, Nat.le_of_ble_eq_true rfl⟩) (zmV (q0 := 0) (ci := 5) hY (w2_r hD) hE rfl rfl) rfl rfl hl.1 rfl (lv_room (Nat.le_of_ble_eq_true rfl)) dL_law_698 (by show _ ≤ 601024 ∧ _ ≤ 7293034; omega)) hP hD hS hA rfl (fun r H locs hr9b hP hY hD hS => ?_)
  refine lv_istore (lv' := [(6, .int r), (5, .int r9), (0, .ref b), (1, .ref h0), (2, .ref hm), (3, .ref ob), (4, .int (nI (6 * k)))]) hx hb dL_law_701 hl (by decide) rfl (fun ls hl => ?_)
  refine lv_aload_n hx hb dL_law_703 rfl (lv_at hl 4 rfl) ?_
  refine zci (va_runV (As := []) (rest := []) ⟨hx, hb, hml, hown, hts⟩ (m_thrown l D ca sa hm ad _ _ _ _ _ _) (cwV 0 hts gL_law_X5_thrown rfl rfl rfl (by decide +kernel) ⟨Nat.le_of_ble_eq_true rfl, Nat.le_of_ble_eq_true rfl⟩) (zpV (q0 := 0) (ci := 5) hY hE rfl rfl) rfl rfl hl.1 rfl (lv_room (Nat.le_of_ble_eq_true rfl)) dL_law_704 (by show _ ≤ 601024 ∧ _ ≤ 7293034; omega)) ?_
  refine lv_iload hx hb dL_law_707 (lv_at hl 1 rfl) ?_
  refine lv_icmp_eq (tgt := 714) hx hb dL_law_709 (by decide) (fun c_709 => ?_) (fun c_709 => ?_)
  · refine lv_iload hx hb dL_law_714 (lv_at hl 1 rfl) ?_
    refine lv_if_ne (tgt := 731) hx hb dL_law_716 (by decide) (fun c_716 => ?_) (fun c_716 => ?_)
    · refine lv_goto (tgt := 1551) hx hb dL_law_731 (by decide) ?_
      refine W.widen (k := cells + 24) (n := slots + 100) (by omega) (by omega) ?_
      exact kk V nc M _ _ _ _ H locs ls ⟨i_up hI0 hk, ⟨ta, pa, aT, aP, aS, aH, n9, zRep_up hR (Nat.le_succ k) (by omega)⟩, hP, hY, hD, hS, lv_sub hl [2, 3, 4, 5, 6] rfl⟩
    · exact absurd c_716 (by rcases hr9 with rfl | rfl <;> decide)
  · exact absurd rfl c_709

set_option maxHeartbeats 4000000 in
set_option maxRecDepth 100000 in
theorem st_isSubscribed_ok {p : Program} {l : Launch} {e : Env} {s : State} {m : MethodId} {below : List Frame} {meth : Method} {c : Code} {b Ln : Nat} {xs : Nat → Int32} {D : va_G} {ca : Nat → ClassId} {sa : Nat → Nat} (C : lw_C p l s m meth c b Ln xs D ca sa) {h0 hm ob : Nat} {ad : Nat → Nat} {k : Nat} {H : Heap} {locs : List Loc} {ls : Array Slot} {V : zV} {nc : Nat} {M : Nat → Nat → Int32} {th : Int32} {L : List Nat} {f : Nat → va_E} {g : Nat → Int64} (S : lw_S D ca s h0 hm ob b ad k (6 * k) H locs ls V nc M th L f g) (hk : k < 512) (hi : 6 * k + 6 ≤ Ln) {cells slots : Nat} {Q : State → Prop} (hroom : cells + 24 ≤ 601024 ∧ slots + 100 ≤ 7293034) {v1 v2 : Int32} (e1 : xs (6 * k + 1) = v1) (e2 : xs (6 * k + 2) = v2) {mc ms : Nat} (hmc : mc ≤ 24) (hms : ms ≤ 100) {V' : zV} {nc' : Nat} {M' : Nat → Nat → Int32} {P : Int64 → zU → Prop} {bt : Bool} (hP9 : ∀ x u, P x u → x = bL bt ∧ zR u.1 u.2 ca h0 (k + 1) V') (hI : Inv V' nc' M' (k + 1)) (hC : ∀ sz, vx_Met l yL_isSubscribed wsL_isSubscribed ({ frames := 10, cells := mc, slots := ms, locals := 450 }) (va_Pc [.ref h0, .int v1, .int v2, .ref ob] (zLp D L f ob g ca sa sz)) (va_Qi (fun (r : Int32) (u : zU × (Nat → Int64)) => r = nI 0 ∧ P (u.2 0) u.1) (fun u t => va_P D vwCl (oW ca ob u.2 ++ va_pl u.1.1 u.1.2) t.heap ∧ va_D (va_A (oW ca ob g ++ va_pl L f) sz) (oW ca ob u.2 ++ va_pl u.1.1 u.1.2)) (va_A (oW ca ob g ++ va_pl L f) sz)) zX0 mc ms (va_A (oW ca ob g ++ va_pl L f) sz)) (hM : ∀ sz, Met l yX5_isSubscribed wsX5_isSubscribed ({ frames := 9, cells := 0, slots := 0, locals := 360 }) (va_Pc [.ref hm, .int v1, .int v2] (zMp D (mW hm ad ca th (vTd V) (vNt V) (vNp V) nc M) ca sa sz)) (va_Qi (fun (r : Int32) (_ : Unit) => r = bI bt) (fun _ t9 => va_P D vwCl (mW hm ad ca (nI 0) (vTd V') (vNt V') (vNp V') nc' M') t9.heap) (va_A (mW hm ad ca th (vTd V) (vNt V) (vNp V) nc M) sz)) 0 0 (va_A (mW hm ad ca th (vTd V) (vNt V) (vNp V) nc M) sz)) (kk : ∀ (V' : zV) (nc' : Nat) (M' : Nat → Nat → Int32) (th' : Int32) (L' : List Nat) (f' : Nat → va_E) (g' : Nat → Int64) (H1 : Heap) (locs1 : List Loc) (ls1 : Array Slot), lw_S D ca s h0 hm ob b ad (k + 1) (6 * k) H1 locs1 ls1 V' nc' M' th' L' f' g' → W p l e room_1 s m #[Value.ref b] below meth c H1 locs1 (cells + 24) (slots + 100) Q (F0 m 1551 ls1 [])) : W p l e room_1 s m #[Value.ref b] below meth c H locs cells slots Q (F0 m 747 ls []) := by
  obtain ⟨⟨hx, hb, hml, hown, hts⟩, hX, hbl, hL3, hE, hN, hZ0, hl0⟩ := C
  obtain ⟨hI0, ⟨ta, pa, aT, aP, aS, aH, n9, hR⟩, hP, hY, hD, hS, hl⟩ := S
  have h4 := hR.1.1
  have hA : ∀ q : Nat, s.heap.size ≤ q → (fun q => s.heap.size ≤ q) q := fun _ h => h
  refine lv_aload_n hx hb dL_law_747 rfl (lv_at hl 1 rfl) ?_
  refine lv_aload_n hx hb dL_law_748 rfl (lv_at hl 0 rfl) ?_
  refine lv_iload hx hb dL_law_749 (lv_at hl 4 rfl) ?_
  refine lv_iconst (v := nI 1) hx hb dL_law_751 (by decide) ?_
  refine lv_iadd hx hb dL_law_752 ?_
  refine zasi (show ((nI (6 * k)) + (nI 1)) = nI (6 * k + 1) from nI_add _ _) ?_
  refine zsl hx hb hX hbl hL3 hS (show 6 * k + 1 < Ln by omega) e1 dL_law_753 ?_
  refine lv_aload_n hx hb dL_law_754 rfl (lv_at hl 0 rfl) ?_
  refine lv_iload hx hb dL_law_755 (lv_at hl 4 rfl) ?_
  refine lv_iconst (v := nI 2) hx hb dL_law_757 (by decide) ?_
  refine lv_iadd hx hb dL_law_758 ?_
  refine zasi (show ((nI (6 * k)) + (nI 2)) = nI (6 * k + 2) from nI_add _ _) ?_
  refine zsl hx hb hX hbl hL3 hS (show 6 * k + 2 < Ln by omega) e2 dL_law_759 ?_
  refine lv_aload_n hx hb dL_law_760 rfl (lv_at hl 3 rfl) ?_
  refine zgo (vx_runSX (As := [.ref h0, .int v1, .int v2, .ref ob]) (rest := []) ⟨hx, hb, hml, hown, hts⟩ (hC H.size) (vx_cwSW (bytes := cL_isSubscribed) (maxL := 5) (ret := some .int) (hh := [(0, 17, 20, 20), (0, 17, 24, 13)]) 4 hts gL_law_L_isSubscribed rfl rfl rfl (by decide +kernel) ⟨Nat.le_of_ble_eq_true rfl, Nat.le_of_ble_eq_true rfl⟩) (zLS hP (w2_l hD) hE hN (lwZ hZ0 hS) (fun q h => Nat.le_trans hS.1 h)) rfl rfl hl.1 rfl (lv_room (Nat.le_of_ble_eq_true rfl)) dL_law_761 (by show _ ≤ 601024 ∧ _ ≤ 7293034; omega)) hY hD hS hA (fun u g1 H locs hu hP hY hD hS => ?_)
  obtain ⟨hv9, hR9⟩ := hP9 _ _ hu
  refine lv_istore (lv' := [(5, .int (nI 0)), (0, .ref b), (1, .ref h0), (2, .ref hm), (3, .ref ob), (4, .int (nI (6 * k)))]) hx hb dL_law_764 hl (by decide) rfl (fun ls hl => ?_)
  refine lv_aload_n hx hb dL_law_766 rfl (lv_at hl 3 rfl) ?_
  refine lv_aload_n hx hb dL_law_767 rfl (lv_at hl 1 rfl) ?_
  refine lv_iload hx hb dL_law_768 (lv_at hl 5 rfl) ?_
  refine lv_iconst (v := nI 1) hx hb dL_law_770 (by decide) ?_
  refine lv_iadd hx hb dL_law_771 ?_
  refine zasi (show ((nI (6 * k)) + (nI 1)) = nI (6 * k + 1) from nI_add _ _) ?_
  refine zsl hx hb hX hbl hL3 hS (show 6 * k + 1 < Ln by omega) e1 dL_law_772 ?_
  refine lv_aload_n hx hb dL_law_773 rfl (lv_at hl 1 rfl) ?_
  refine lv_iload hx hb dL_law_774 (lv_at hl 5 rfl) ?_
  refine lv_iconst (v := nI 2) hx hb dL_law_776 (by decide) ?_
  refine lv_iadd hx hb dL_law_777 ?_
  refine zasi (show ((nI (6 * k)) + (nI 2)) = nI (6 * k + 2) from nI_add _ _) ?_
  refine zsl hx hb hX hbl hL3 hS (show 6 * k + 2 < Ln by omega) e2 dL_law_778 ?_
  refine zgm (va_runV (As := [.int v1, .int v2]) (rest := []) ⟨hx, hb, hml, hown, hts⟩ (hM H.size) (cwV 2 hts gL_law_X5_isSubscribed rfl rfl rfl (by decide +kernel) ⟨Nat.le_of_ble_eq_true rfl, Nat.le_of_ble_eq_true rfl⟩) (zmV (q0 := 0) (ci := 5) hY (w2_r hD) hE rfl rfl) rfl rfl hl.1 rfl (lv_room (Nat.le_of_ble_eq_true rfl)) dL_law_779 (by show _ ≤ 601024 ∧ _ ≤ 7293034; omega)) hP hD hS hA rfl (fun r H locs hr9b hP hY hD hS => ?_)
  subst hr9b
  refine lv_istore (lv' := [(6, .int (bI bt)), (5, .int (nI 0)), (0, .ref b), (1, .ref h0), (2, .ref hm), (3, .ref ob), (4, .int (nI (6 * k)))]) hx hb dL_law_782 hl (by decide) rfl (fun ls hl => ?_)
  refine lv_aload_n hx hb dL_law_784 rfl (lv_at hl 4 rfl) ?_
  refine zci (va_runV (As := []) (rest := []) ⟨hx, hb, hml, hown, hts⟩ (m_thrown l D ca sa hm ad _ _ _ _ _ _) (cwV 0 hts gL_law_X5_thrown rfl rfl rfl (by decide +kernel) ⟨Nat.le_of_ble_eq_true rfl, Nat.le_of_ble_eq_true rfl⟩) (zpV (q0 := 0) (ci := 5) hY hE rfl rfl) rfl rfl hl.1 rfl (lv_room (Nat.le_of_ble_eq_true rfl)) dL_law_785 (by show _ ≤ 601024 ∧ _ ≤ 7293034; omega)) ?_
  refine lv_iload hx hb dL_law_788 (lv_at hl 1 rfl) ?_
  refine lv_icmp_eq (tgt := 795) hx hb dL_law_790 (by decide) (fun c_790 => ?_) (fun c_790 => ?_)
  · refine lv_iload hx hb dL_law_795 (lv_at hl 1 rfl) ?_
    refine lv_if_ne (tgt := 819) hx hb dL_law_797 (by decide) (fun c_797 => ?_) (fun c_797 => ?_)
    · exact absurd c_797 (by decide)
    · refine lv_aload_n hx hb dL_law_800 rfl (lv_at hl 5 rfl) ?_
      refine lv_iconst (v := nI 0) hx hb dL_law_801 (by decide) ?_
      refine zol hx hb hE hP hv9 dL_law_802 ?_
      refine lv_iload hx hb dL_law_803 (lv_at hl 0 rfl) ?_
      refine lv_if_eq (tgt := 812) hx hb dL_law_805 (by decide) (fun c_805 => ?_) (fun c_805 => ?_)
      · refine lv_lconst (v := 0) hx hb dL_law_812 (by decide) ?_
        refine W.lcmp hx hb dL_law_813 ?_
        refine zasi (show (lg_cmp ((bL bt)) 0) = nI 0 from by rw [bI_eq0 c_805]; exact zcmp _) ?_
        refine lv_if_eq (tgt := 819) hx hb dL_law_814 (by decide) (fun c_814 => ?_) (fun c_814 => ?_)
        · refine lv_goto (tgt := 1551) hx hb dL_law_819 (by decide) ?_
          refine W.widen (k := cells + 24) (n := slots + 100) (by omega) (by omega) ?_
          exact kk V' nc' M' _ _ _ _ H locs ls ⟨hI, hR9, hP, hY, hD, hS, lv_sub hl [2, 3, 4, 5, 6] rfl⟩
        · exact absurd c_814 (by decide)
      · refine lv_lconst (v := 1) hx hb dL_law_808 (by decide) ?_
        refine lv_goto (tgt := 813) hx hb dL_law_809 (by decide) ?_
        refine W.lcmp hx hb dL_law_813 ?_
        refine zasi (show (lg_cmp ((bL bt)) 1) = nI 0 from by rw [bI_ne0 c_805]; exact zcmp _) ?_
        refine lv_if_eq (tgt := 819) hx hb dL_law_814 (by decide) (fun c_814 => ?_) (fun c_814 => ?_)
        · refine lv_goto (tgt := 1551) hx hb dL_law_819 (by decide) ?_
          refine W.widen (k := cells + 24) (n := slots + 100) (by omega) (by omega) ?_
          exact kk V' nc' M' _ _ _ _ H locs ls ⟨hI, hR9, hP, hY, hD, hS, lv_sub hl [2, 3, 4, 5, 6] rfl⟩
        · exact absurd c_814 (by decide)
  · exact absurd c_790 (by decide)

set_option maxHeartbeats 4000000 in
set_option maxRecDepth 100000 in
theorem st_isSubscribed_x {p : Program} {l : Launch} {e : Env} {s : State} {m : MethodId} {below : List Frame} {meth : Method} {c : Code} {b Ln : Nat} {xs : Nat → Int32} {D : va_G} {ca : Nat → ClassId} {sa : Nat → Nat} (C : lw_C p l s m meth c b Ln xs D ca sa) {h0 hm ob : Nat} {ad : Nat → Nat} {k : Nat} {H : Heap} {locs : List Loc} {ls : Array Slot} {V : zV} {nc : Nat} {M : Nat → Nat → Int32} {th : Int32} {L : List Nat} {f : Nat → va_E} {g : Nat → Int64} (S : lw_S D ca s h0 hm ob b ad k (6 * k) H locs ls V nc M th L f g) (hk : k < 512) (hi : 6 * k + 6 ≤ Ln) {cells slots : Nat} {Q : State → Prop} (hroom : cells + 24 ≤ 601024 ∧ slots + 100 ≤ 7293034) {v1 v2 : Int32} (e1 : xs (6 * k + 1) = v1) (e2 : xs (6 * k + 2) = v2) {mc ms : Nat} (hmc : mc ≤ 24) (hms : ms ≤ 100) {r9 : Int32} (hr9 : r9 = nI 1 ∨ r9 = nI 2) (hC : ∀ sz, vx_Met l yL_isSubscribed wsL_isSubscribed ({ frames := 10, cells := mc, slots := ms, locals := 450 }) (va_Pc [.ref h0, .int v1, .int v2, .ref ob] (zLp D L f ob g ca sa sz)) (va_Qi (fun (r : Int32) (_ : Unit) => r = r9) (fun _ _ => True) (fun q => sz ≤ q)) zX0 mc ms (fun q => sz ≤ q)) (hM : ∀ sz, Met l yX5_isSubscribed wsX5_isSubscribed ({ frames := 9, cells := 0, slots := 0, locals := 360 }) (va_Pc [.ref hm, .int v1, .int v2] (zMp D (mW hm ad ca th (vTd V) (vNt V) (vNp V) nc M) ca sa sz)) (va_Qi (fun (r : Int32) (_ : Unit) => True) (fun _ t9 => va_P D vwCl (mW hm ad ca r9 (vTd V) (vNt V) (vNp V) nc M) t9.heap) (va_A (mW hm ad ca th (vTd V) (vNt V) (vNp V) nc M) sz)) 0 0 (va_A (mW hm ad ca th (vTd V) (vNt V) (vNp V) nc M) sz)) (kk : ∀ (V' : zV) (nc' : Nat) (M' : Nat → Nat → Int32) (th' : Int32) (L' : List Nat) (f' : Nat → va_E) (g' : Nat → Int64) (H1 : Heap) (locs1 : List Loc) (ls1 : Array Slot), lw_S D ca s h0 hm ob b ad (k + 1) (6 * k) H1 locs1 ls1 V' nc' M' th' L' f' g' → W p l e room_1 s m #[Value.ref b] below meth c H1 locs1 (cells + 24) (slots + 100) Q (F0 m 1551 ls1 [])) : W p l e room_1 s m #[Value.ref b] below meth c H locs cells slots Q (F0 m 747 ls []) := by
  obtain ⟨⟨hx, hb, hml, hown, hts⟩, hX, hbl, hL3, hE, hN, hZ0, hl0⟩ := C
  obtain ⟨hI0, ⟨ta, pa, aT, aP, aS, aH, n9, hR⟩, hP, hY, hD, hS, hl⟩ := S
  have h4 := hR.1.1
  have hA : ∀ q : Nat, s.heap.size ≤ q → (fun q => s.heap.size ≤ q) q := fun _ h => h
  refine lv_aload_n hx hb dL_law_747 rfl (lv_at hl 1 rfl) ?_
  refine lv_aload_n hx hb dL_law_748 rfl (lv_at hl 0 rfl) ?_
  refine lv_iload hx hb dL_law_749 (lv_at hl 4 rfl) ?_
  refine lv_iconst (v := nI 1) hx hb dL_law_751 (by decide) ?_
  refine lv_iadd hx hb dL_law_752 ?_
  refine zasi (show ((nI (6 * k)) + (nI 1)) = nI (6 * k + 1) from nI_add _ _) ?_
  refine zsl hx hb hX hbl hL3 hS (show 6 * k + 1 < Ln by omega) e1 dL_law_753 ?_
  refine lv_aload_n hx hb dL_law_754 rfl (lv_at hl 0 rfl) ?_
  refine lv_iload hx hb dL_law_755 (lv_at hl 4 rfl) ?_
  refine lv_iconst (v := nI 2) hx hb dL_law_757 (by decide) ?_
  refine lv_iadd hx hb dL_law_758 ?_
  refine zasi (show ((nI (6 * k)) + (nI 2)) = nI (6 * k + 2) from nI_add _ _) ?_
  refine zsl hx hb hX hbl hL3 hS (show 6 * k + 2 < Ln by omega) e2 dL_law_759 ?_
  refine lv_aload_n hx hb dL_law_760 rfl (lv_at hl 3 rfl) ?_
  refine zgx (vx_runSX (As := [.ref h0, .int v1, .int v2, .ref ob]) (rest := []) ⟨hx, hb, hml, hown, hts⟩ (hC H.size) (vx_cwSW (bytes := cL_isSubscribed) (maxL := 5) (ret := some .int) (hh := [(0, 17, 20, 20), (0, 17, 24, 13)]) 4 hts gL_law_L_isSubscribed rfl rfl rfl (by decide +kernel) ⟨Nat.le_of_ble_eq_true rfl, Nat.le_of_ble_eq_true rfl⟩) (zLS hP (w2_l hD) hE hN (lwZ hZ0 hS) (fun q h => Nat.le_trans hS.1 h)) rfl rfl hl.1 rfl (lv_room (Nat.le_of_ble_eq_true rfl)) dL_law_761 (by show _ ≤ 601024 ∧ _ ≤ 7293034; omega)) hP hY hS hA (fun H locs hP hY hS => ?_)
  refine lv_istore (lv' := [(5, .int r9), (0, .ref b), (1, .ref h0), (2, .ref hm), (3, .ref ob), (4, .int (nI (6 * k)))]) hx hb dL_law_764 hl (by decide) rfl (fun ls hl => ?_)
  refine lv_aload_n hx hb dL_law_766 rfl (lv_at hl 3 rfl) ?_
  refine lv_aload_n hx hb dL_law_767 rfl (lv_at hl 1 rfl) ?_
  refine lv_iload hx hb dL_law_768 (lv_at hl 5 rfl) ?_
  refine lv_iconst (v := nI 1) hx hb dL_law_770 (by decide) ?_
  refine lv_iadd hx hb dL_law_771 ?_
  refine zasi (show ((nI (6 * k)) + (nI 1)) = nI (6 * k + 1) from nI_add _ _) ?_
  refine zsl hx hb hX hbl hL3 hS (show 6 * k + 1 < Ln by omega) e1 dL_law_772 ?_
  refine lv_aload_n hx hb dL_law_773 rfl (lv_at hl 1 rfl) ?_
  refine lv_iload hx hb dL_law_774 (lv_at hl 5 rfl) ?_
  refine lv_iconst (v := nI 2) hx hb dL_law_776 (by decide) ?_
  refine lv_iadd hx hb dL_law_777 ?_
  refine zasi (show ((nI (6 * k)) + (nI 2)) = nI (6 * k + 2) from nI_add _ _) ?_
  refine zsl hx hb hX hbl hL3 hS (show 6 * k + 2 < Ln by omega) e2 dL_law_778 ?_
  refine zgm (va_runV (As := [.int v1, .int v2]) (rest := []) ⟨hx, hb, hml, hown, hts⟩ (hM H.size) (cwV 2 hts gL_law_X5_isSubscribed rfl rfl rfl (by decide +kernel) ⟨Nat.le_of_ble_eq_true rfl, Nat.le_of_ble_eq_true rfl⟩) (zmV (q0 := 0) (ci := 5) hY (w2_r hD) hE rfl rfl) rfl rfl hl.1 rfl (lv_room (Nat.le_of_ble_eq_true rfl)) dL_law_779 (by show _ ≤ 601024 ∧ _ ≤ 7293034; omega)) hP hD hS hA rfl (fun r H locs hr9b hP hY hD hS => ?_)
  refine lv_istore (lv' := [(6, .int r), (5, .int r9), (0, .ref b), (1, .ref h0), (2, .ref hm), (3, .ref ob), (4, .int (nI (6 * k)))]) hx hb dL_law_782 hl (by decide) rfl (fun ls hl => ?_)
  refine lv_aload_n hx hb dL_law_784 rfl (lv_at hl 4 rfl) ?_
  refine zci (va_runV (As := []) (rest := []) ⟨hx, hb, hml, hown, hts⟩ (m_thrown l D ca sa hm ad _ _ _ _ _ _) (cwV 0 hts gL_law_X5_thrown rfl rfl rfl (by decide +kernel) ⟨Nat.le_of_ble_eq_true rfl, Nat.le_of_ble_eq_true rfl⟩) (zpV (q0 := 0) (ci := 5) hY hE rfl rfl) rfl rfl hl.1 rfl (lv_room (Nat.le_of_ble_eq_true rfl)) dL_law_785 (by show _ ≤ 601024 ∧ _ ≤ 7293034; omega)) ?_
  refine lv_iload hx hb dL_law_788 (lv_at hl 1 rfl) ?_
  refine lv_icmp_eq (tgt := 795) hx hb dL_law_790 (by decide) (fun c_790 => ?_) (fun c_790 => ?_)
  · refine lv_iload hx hb dL_law_795 (lv_at hl 1 rfl) ?_
    refine lv_if_ne (tgt := 819) hx hb dL_law_797 (by decide) (fun c_797 => ?_) (fun c_797 => ?_)
    · refine lv_goto (tgt := 1551) hx hb dL_law_819 (by decide) ?_
      refine W.widen (k := cells + 24) (n := slots + 100) (by omega) (by omega) ?_
      exact kk V nc M _ _ _ _ H locs ls ⟨i_up hI0 hk, ⟨ta, pa, aT, aP, aS, aH, n9, zRep_up hR (Nat.le_succ k) (by omega)⟩, hP, hY, hD, hS, lv_sub hl [2, 3, 4, 5, 6] rfl⟩
    · exact absurd c_797 (by rcases hr9 with rfl | rfl <;> decide)
  · exact absurd rfl c_790

set_option maxHeartbeats 4000000 in
set_option maxRecDepth 100000 in
theorem st_isIn_ok {p : Program} {l : Launch} {e : Env} {s : State} {m : MethodId} {below : List Frame} {meth : Method} {c : Code} {b Ln : Nat} {xs : Nat → Int32} {D : va_G} {ca : Nat → ClassId} {sa : Nat → Nat} (C : lw_C p l s m meth c b Ln xs D ca sa) {h0 hm ob : Nat} {ad : Nat → Nat} {k : Nat} {H : Heap} {locs : List Loc} {ls : Array Slot} {V : zV} {nc : Nat} {M : Nat → Nat → Int32} {th : Int32} {L : List Nat} {f : Nat → va_E} {g : Nat → Int64} (S : lw_S D ca s h0 hm ob b ad k (6 * k) H locs ls V nc M th L f g) (hk : k < 512) (hi : 6 * k + 6 ≤ Ln) {cells slots : Nat} {Q : State → Prop} (hroom : cells + 24 ≤ 601024 ∧ slots + 100 ≤ 7293034) {v1 v2 v3 : Int32} (e1 : xs (6 * k + 1) = v1) (e2 : xs (6 * k + 2) = v2) (e3 : xs (6 * k + 3) = v3) {mc ms : Nat} (hmc : mc ≤ 24) (hms : ms ≤ 100) {V' : zV} {nc' : Nat} {M' : Nat → Nat → Int32} {P : Int64 → zU → Prop} {bt : Bool} (hP9 : ∀ x u, P x u → x = bL bt ∧ zR u.1 u.2 ca h0 (k + 1) V') (hI : Inv V' nc' M' (k + 1)) (hC : ∀ sz, vx_Met l yL_isIn wsL_isIn ({ frames := 10, cells := mc, slots := ms, locals := 450 }) (va_Pc [.ref h0, .int v1, .int v2, .int v3, .ref ob] (zLp D L f ob g ca sa sz)) (va_Qi (fun (r : Int32) (u : zU × (Nat → Int64)) => r = nI 0 ∧ P (u.2 0) u.1) (fun u t => va_P D vwCl (oW ca ob u.2 ++ va_pl u.1.1 u.1.2) t.heap ∧ va_D (va_A (oW ca ob g ++ va_pl L f) sz) (oW ca ob u.2 ++ va_pl u.1.1 u.1.2)) (va_A (oW ca ob g ++ va_pl L f) sz)) zX0 mc ms (va_A (oW ca ob g ++ va_pl L f) sz)) (hM : ∀ sz, Met l yX5_isIn wsX5_isIn ({ frames := 9, cells := 0, slots := 0, locals := 360 }) (va_Pc [.ref hm, .int v1, .int v2, .int v3] (zMp D (mW hm ad ca th (vTd V) (vNt V) (vNp V) nc M) ca sa sz)) (va_Qi (fun (r : Int32) (_ : Unit) => r = bI bt) (fun _ t9 => va_P D vwCl (mW hm ad ca (nI 0) (vTd V') (vNt V') (vNp V') nc' M') t9.heap) (va_A (mW hm ad ca th (vTd V) (vNt V) (vNp V) nc M) sz)) 0 0 (va_A (mW hm ad ca th (vTd V) (vNt V) (vNp V) nc M) sz)) (kk : ∀ (V' : zV) (nc' : Nat) (M' : Nat → Nat → Int32) (th' : Int32) (L' : List Nat) (f' : Nat → va_E) (g' : Nat → Int64) (H1 : Heap) (locs1 : List Loc) (ls1 : Array Slot), lw_S D ca s h0 hm ob b ad (k + 1) (6 * k) H1 locs1 ls1 V' nc' M' th' L' f' g' → W p l e room_1 s m #[Value.ref b] below meth c H1 locs1 (cells + 24) (slots + 100) Q (F0 m 1551 ls1 [])) : W p l e room_1 s m #[Value.ref b] below meth c H locs cells slots Q (F0 m 822 ls []) := by
  obtain ⟨⟨hx, hb, hml, hown, hts⟩, hX, hbl, hL3, hE, hN, hZ0, hl0⟩ := C
  obtain ⟨hI0, ⟨ta, pa, aT, aP, aS, aH, n9, hR⟩, hP, hY, hD, hS, hl⟩ := S
  have h4 := hR.1.1
  have hA : ∀ q : Nat, s.heap.size ≤ q → (fun q => s.heap.size ≤ q) q := fun _ h => h
  refine lv_aload_n hx hb dL_law_822 rfl (lv_at hl 1 rfl) ?_
  refine lv_aload_n hx hb dL_law_823 rfl (lv_at hl 0 rfl) ?_
  refine lv_iload hx hb dL_law_824 (lv_at hl 4 rfl) ?_
  refine lv_iconst (v := nI 1) hx hb dL_law_826 (by decide) ?_
  refine lv_iadd hx hb dL_law_827 ?_
  refine zasi (show ((nI (6 * k)) + (nI 1)) = nI (6 * k + 1) from nI_add _ _) ?_
  refine zsl hx hb hX hbl hL3 hS (show 6 * k + 1 < Ln by omega) e1 dL_law_828 ?_
  refine lv_aload_n hx hb dL_law_829 rfl (lv_at hl 0 rfl) ?_
  refine lv_iload hx hb dL_law_830 (lv_at hl 4 rfl) ?_
  refine lv_iconst (v := nI 2) hx hb dL_law_832 (by decide) ?_
  refine lv_iadd hx hb dL_law_833 ?_
  refine zasi (show ((nI (6 * k)) + (nI 2)) = nI (6 * k + 2) from nI_add _ _) ?_
  refine zsl hx hb hX hbl hL3 hS (show 6 * k + 2 < Ln by omega) e2 dL_law_834 ?_
  refine lv_aload_n hx hb dL_law_835 rfl (lv_at hl 0 rfl) ?_
  refine lv_iload hx hb dL_law_836 (lv_at hl 4 rfl) ?_
  refine lv_iconst (v := nI 3) hx hb dL_law_838 (by decide) ?_
  refine lv_iadd hx hb dL_law_839 ?_
  refine zasi (show ((nI (6 * k)) + (nI 3)) = nI (6 * k + 3) from nI_add _ _) ?_
  refine zsl hx hb hX hbl hL3 hS (show 6 * k + 3 < Ln by omega) e3 dL_law_840 ?_
  refine lv_aload_n hx hb dL_law_841 rfl (lv_at hl 3 rfl) ?_
  refine zgo (vx_runSX (As := [.ref h0, .int v1, .int v2, .int v3, .ref ob]) (rest := []) ⟨hx, hb, hml, hown, hts⟩ (hC H.size) (vx_cwSW (bytes := cL_isIn) (maxL := 6) (ret := some .int) (hh := [(0, 19, 22, 20), (0, 19, 26, 13)]) 5 hts gL_law_L_isIn rfl rfl rfl (by decide +kernel) ⟨Nat.le_of_ble_eq_true rfl, Nat.le_of_ble_eq_true rfl⟩) (zLS hP (w2_l hD) hE hN (lwZ hZ0 hS) (fun q h => Nat.le_trans hS.1 h)) rfl rfl hl.1 rfl (lv_room (Nat.le_of_ble_eq_true rfl)) dL_law_842 (by show _ ≤ 601024 ∧ _ ≤ 7293034; omega)) hY hD hS hA (fun u g1 H locs hu hP hY hD hS => ?_)
  obtain ⟨hv9, hR9⟩ := hP9 _ _ hu
  refine lv_istore (lv' := [(5, .int (nI 0)), (0, .ref b), (1, .ref h0), (2, .ref hm), (3, .ref ob), (4, .int (nI (6 * k)))]) hx hb dL_law_845 hl (by decide) rfl (fun ls hl => ?_)
  refine lv_aload_n hx hb dL_law_847 rfl (lv_at hl 3 rfl) ?_
  refine lv_aload_n hx hb dL_law_848 rfl (lv_at hl 1 rfl) ?_
  refine lv_iload hx hb dL_law_849 (lv_at hl 5 rfl) ?_
  refine lv_iconst (v := nI 1) hx hb dL_law_851 (by decide) ?_
  refine lv_iadd hx hb dL_law_852 ?_
  refine zasi (show ((nI (6 * k)) + (nI 1)) = nI (6 * k + 1) from nI_add _ _) ?_
  refine zsl hx hb hX hbl hL3 hS (show 6 * k + 1 < Ln by omega) e1 dL_law_853 ?_
  refine lv_aload_n hx hb dL_law_854 rfl (lv_at hl 1 rfl) ?_
  refine lv_iload hx hb dL_law_855 (lv_at hl 5 rfl) ?_
  refine lv_iconst (v := nI 2) hx hb dL_law_857 (by decide) ?_
  refine lv_iadd hx hb dL_law_858 ?_
  refine zasi (show ((nI (6 * k)) + (nI 2)) = nI (6 * k + 2) from nI_add _ _) ?_
  refine zsl hx hb hX hbl hL3 hS (show 6 * k + 2 < Ln by omega) e2 dL_law_859 ?_
  refine lv_aload_n hx hb dL_law_860 rfl (lv_at hl 1 rfl) ?_
  refine lv_iload hx hb dL_law_861 (lv_at hl 5 rfl) ?_
  refine lv_iconst (v := nI 3) hx hb dL_law_863 (by decide) ?_
  refine lv_iadd hx hb dL_law_864 ?_
  refine zasi (show ((nI (6 * k)) + (nI 3)) = nI (6 * k + 3) from nI_add _ _) ?_
  refine zsl hx hb hX hbl hL3 hS (show 6 * k + 3 < Ln by omega) e3 dL_law_865 ?_
  refine zgm (va_runV (As := [.int v1, .int v2, .int v3]) (rest := []) ⟨hx, hb, hml, hown, hts⟩ (hM H.size) (cwV 3 hts gL_law_X5_isIn rfl rfl rfl (by decide +kernel) ⟨Nat.le_of_ble_eq_true rfl, Nat.le_of_ble_eq_true rfl⟩) (zmV (q0 := 0) (ci := 5) hY (w2_r hD) hE rfl rfl) rfl rfl hl.1 rfl (lv_room (Nat.le_of_ble_eq_true rfl)) dL_law_866 (by show _ ≤ 601024 ∧ _ ≤ 7293034; omega)) hP hD hS hA rfl (fun r H locs hr9b hP hY hD hS => ?_)
  subst hr9b
  refine lv_istore (lv' := [(6, .int (bI bt)), (5, .int (nI 0)), (0, .ref b), (1, .ref h0), (2, .ref hm), (3, .ref ob), (4, .int (nI (6 * k)))]) hx hb dL_law_869 hl (by decide) rfl (fun ls hl => ?_)
  refine lv_aload_n hx hb dL_law_871 rfl (lv_at hl 4 rfl) ?_
  refine zci (va_runV (As := []) (rest := []) ⟨hx, hb, hml, hown, hts⟩ (m_thrown l D ca sa hm ad _ _ _ _ _ _) (cwV 0 hts gL_law_X5_thrown rfl rfl rfl (by decide +kernel) ⟨Nat.le_of_ble_eq_true rfl, Nat.le_of_ble_eq_true rfl⟩) (zpV (q0 := 0) (ci := 5) hY hE rfl rfl) rfl rfl hl.1 rfl (lv_room (Nat.le_of_ble_eq_true rfl)) dL_law_872 (by show _ ≤ 601024 ∧ _ ≤ 7293034; omega)) ?_
  refine lv_iload hx hb dL_law_875 (lv_at hl 1 rfl) ?_
  refine lv_icmp_eq (tgt := 882) hx hb dL_law_877 (by decide) (fun c_877 => ?_) (fun c_877 => ?_)
  · refine lv_iload hx hb dL_law_882 (lv_at hl 1 rfl) ?_
    refine lv_if_ne (tgt := 906) hx hb dL_law_884 (by decide) (fun c_884 => ?_) (fun c_884 => ?_)
    · exact absurd c_884 (by decide)
    · refine lv_aload_n hx hb dL_law_887 rfl (lv_at hl 5 rfl) ?_
      refine lv_iconst (v := nI 0) hx hb dL_law_888 (by decide) ?_
      refine zol hx hb hE hP hv9 dL_law_889 ?_
      refine lv_iload hx hb dL_law_890 (lv_at hl 0 rfl) ?_
      refine lv_if_eq (tgt := 899) hx hb dL_law_892 (by decide) (fun c_892 => ?_) (fun c_892 => ?_)
      · refine lv_lconst (v := 0) hx hb dL_law_899 (by decide) ?_
        refine W.lcmp hx hb dL_law_900 ?_
        refine zasi (show (lg_cmp ((bL bt)) 0) = nI 0 from by rw [bI_eq0 c_892]; exact zcmp _) ?_
        refine lv_if_eq (tgt := 906) hx hb dL_law_901 (by decide) (fun c_901 => ?_) (fun c_901 => ?_)
        · refine lv_goto (tgt := 1551) hx hb dL_law_906 (by decide) ?_
          refine W.widen (k := cells + 24) (n := slots + 100) (by omega) (by omega) ?_
          exact kk V' nc' M' _ _ _ _ H locs ls ⟨hI, hR9, hP, hY, hD, hS, lv_sub hl [2, 3, 4, 5, 6] rfl⟩
        · exact absurd c_901 (by decide)
      · refine lv_lconst (v := 1) hx hb dL_law_895 (by decide) ?_
        refine lv_goto (tgt := 900) hx hb dL_law_896 (by decide) ?_
        refine W.lcmp hx hb dL_law_900 ?_
        refine zasi (show (lg_cmp ((bL bt)) 1) = nI 0 from by rw [bI_ne0 c_892]; exact zcmp _) ?_
        refine lv_if_eq (tgt := 906) hx hb dL_law_901 (by decide) (fun c_901 => ?_) (fun c_901 => ?_)
        · refine lv_goto (tgt := 1551) hx hb dL_law_906 (by decide) ?_
          refine W.widen (k := cells + 24) (n := slots + 100) (by omega) (by omega) ?_
          exact kk V' nc' M' _ _ _ _ H locs ls ⟨hI, hR9, hP, hY, hD, hS, lv_sub hl [2, 3, 4, 5, 6] rfl⟩
        · exact absurd c_901 (by decide)
  · exact absurd c_877 (by decide)

set_option maxHeartbeats 4000000 in
set_option maxRecDepth 100000 in
theorem st_isIn_x {p : Program} {l : Launch} {e : Env} {s : State} {m : MethodId} {below : List Frame} {meth : Method} {c : Code} {b Ln : Nat} {xs : Nat → Int32} {D : va_G} {ca : Nat → ClassId} {sa : Nat → Nat} (C : lw_C p l s m meth c b Ln xs D ca sa) {h0 hm ob : Nat} {ad : Nat → Nat} {k : Nat} {H : Heap} {locs : List Loc} {ls : Array Slot} {V : zV} {nc : Nat} {M : Nat → Nat → Int32} {th : Int32} {L : List Nat} {f : Nat → va_E} {g : Nat → Int64} (S : lw_S D ca s h0 hm ob b ad k (6 * k) H locs ls V nc M th L f g) (hk : k < 512) (hi : 6 * k + 6 ≤ Ln) {cells slots : Nat} {Q : State → Prop} (hroom : cells + 24 ≤ 601024 ∧ slots + 100 ≤ 7293034) {v1 v2 v3 : Int32} (e1 : xs (6 * k + 1) = v1) (e2 : xs (6 * k + 2) = v2) (e3 : xs (6 * k + 3) = v3) {mc ms : Nat} (hmc : mc ≤ 24) (hms : ms ≤ 100) {r9 : Int32} (hr9 : r9 = nI 1 ∨ r9 = nI 2) (hC : ∀ sz, vx_Met l yL_isIn wsL_isIn ({ frames := 10, cells := mc, slots := ms, locals := 450 }) (va_Pc [.ref h0, .int v1, .int v2, .int v3, .ref ob] (zLp D L f ob g ca sa sz)) (va_Qi (fun (r : Int32) (_ : Unit) => r = r9) (fun _ _ => True) (fun q => sz ≤ q)) zX0 mc ms (fun q => sz ≤ q)) (hM : ∀ sz, Met l yX5_isIn wsX5_isIn ({ frames := 9, cells := 0, slots := 0, locals := 360 }) (va_Pc [.ref hm, .int v1, .int v2, .int v3] (zMp D (mW hm ad ca th (vTd V) (vNt V) (vNp V) nc M) ca sa sz)) (va_Qi (fun (r : Int32) (_ : Unit) => True) (fun _ t9 => va_P D vwCl (mW hm ad ca r9 (vTd V) (vNt V) (vNp V) nc M) t9.heap) (va_A (mW hm ad ca th (vTd V) (vNt V) (vNp V) nc M) sz)) 0 0 (va_A (mW hm ad ca th (vTd V) (vNt V) (vNp V) nc M) sz)) (kk : ∀ (V' : zV) (nc' : Nat) (M' : Nat → Nat → Int32) (th' : Int32) (L' : List Nat) (f' : Nat → va_E) (g' : Nat → Int64) (H1 : Heap) (locs1 : List Loc) (ls1 : Array Slot), lw_S D ca s h0 hm ob b ad (k + 1) (6 * k) H1 locs1 ls1 V' nc' M' th' L' f' g' → W p l e room_1 s m #[Value.ref b] below meth c H1 locs1 (cells + 24) (slots + 100) Q (F0 m 1551 ls1 [])) : W p l e room_1 s m #[Value.ref b] below meth c H locs cells slots Q (F0 m 822 ls []) := by
  obtain ⟨⟨hx, hb, hml, hown, hts⟩, hX, hbl, hL3, hE, hN, hZ0, hl0⟩ := C
  obtain ⟨hI0, ⟨ta, pa, aT, aP, aS, aH, n9, hR⟩, hP, hY, hD, hS, hl⟩ := S
  have h4 := hR.1.1
  have hA : ∀ q : Nat, s.heap.size ≤ q → (fun q => s.heap.size ≤ q) q := fun _ h => h
  refine lv_aload_n hx hb dL_law_822 rfl (lv_at hl 1 rfl) ?_
  refine lv_aload_n hx hb dL_law_823 rfl (lv_at hl 0 rfl) ?_
  refine lv_iload hx hb dL_law_824 (lv_at hl 4 rfl) ?_
  refine lv_iconst (v := nI 1) hx hb dL_law_826 (by decide) ?_
  refine lv_iadd hx hb dL_law_827 ?_
  refine zasi (show ((nI (6 * k)) + (nI 1)) = nI (6 * k + 1) from nI_add _ _) ?_
  refine zsl hx hb hX hbl hL3 hS (show 6 * k + 1 < Ln by omega) e1 dL_law_828 ?_
  refine lv_aload_n hx hb dL_law_829 rfl (lv_at hl 0 rfl) ?_
  refine lv_iload hx hb dL_law_830 (lv_at hl 4 rfl) ?_
  refine lv_iconst (v := nI 2) hx hb dL_law_832 (by decide) ?_
  refine lv_iadd hx hb dL_law_833 ?_
  refine zasi (show ((nI (6 * k)) + (nI 2)) = nI (6 * k + 2) from nI_add _ _) ?_
  refine zsl hx hb hX hbl hL3 hS (show 6 * k + 2 < Ln by omega) e2 dL_law_834 ?_
  refine lv_aload_n hx hb dL_law_835 rfl (lv_at hl 0 rfl) ?_
  refine lv_iload hx hb dL_law_836 (lv_at hl 4 rfl) ?_
  refine lv_iconst (v := nI 3) hx hb dL_law_838 (by decide) ?_
  refine lv_iadd hx hb dL_law_839 ?_
  refine zasi (show ((nI (6 * k)) + (nI 3)) = nI (6 * k + 3) from nI_add _ _) ?_
  refine zsl hx hb hX hbl hL3 hS (show 6 * k + 3 < Ln by omega) e3 dL_law_840 ?_
  refine lv_aload_n hx hb dL_law_841 rfl (lv_at hl 3 rfl) ?_
  refine zgx (vx_runSX (As := [.ref h0, .int v1, .int v2, .int v3, .ref ob]) (rest := []) ⟨hx, hb, hml, hown, hts⟩ (hC H.size) (vx_cwSW (bytes := cL_isIn) (maxL := 6) (ret := some .int) (hh := [(0, 19, 22, 20), (0, 19, 26, 13)]) 5 hts gL_law_L_isIn rfl rfl rfl (by decide +kernel) ⟨Nat.le_of_ble_eq_true rfl, Nat.le_of_ble_eq_true rfl⟩) (zLS hP (w2_l hD) hE hN (lwZ hZ0 hS) (fun q h => Nat.le_trans hS.1 h)) rfl rfl hl.1 rfl (lv_room (Nat.le_of_ble_eq_true rfl)) dL_law_842 (by show _ ≤ 601024 ∧ _ ≤ 7293034; omega)) hP hY hS hA (fun H locs hP hY hS => ?_)
  refine lv_istore (lv' := [(5, .int r9), (0, .ref b), (1, .ref h0), (2, .ref hm), (3, .ref ob), (4, .int (nI (6 * k)))]) hx hb dL_law_845 hl (by decide) rfl (fun ls hl => ?_)
  refine lv_aload_n hx hb dL_law_847 rfl (lv_at hl 3 rfl) ?_
  refine lv_aload_n hx hb dL_law_848 rfl (lv_at hl 1 rfl) ?_
  refine lv_iload hx hb dL_law_849 (lv_at hl 5 rfl) ?_
  refine lv_iconst (v := nI 1) hx hb dL_law_851 (by decide) ?_
  refine lv_iadd hx hb dL_law_852 ?_
  refine zasi (show ((nI (6 * k)) + (nI 1)) = nI (6 * k + 1) from nI_add _ _) ?_
  refine zsl hx hb hX hbl hL3 hS (show 6 * k + 1 < Ln by omega) e1 dL_law_853 ?_
  refine lv_aload_n hx hb dL_law_854 rfl (lv_at hl 1 rfl) ?_
  refine lv_iload hx hb dL_law_855 (lv_at hl 5 rfl) ?_
  refine lv_iconst (v := nI 2) hx hb dL_law_857 (by decide) ?_
  refine lv_iadd hx hb dL_law_858 ?_
  refine zasi (show ((nI (6 * k)) + (nI 2)) = nI (6 * k + 2) from nI_add _ _) ?_
  refine zsl hx hb hX hbl hL3 hS (show 6 * k + 2 < Ln by omega) e2 dL_law_859 ?_
  refine lv_aload_n hx hb dL_law_860 rfl (lv_at hl 1 rfl) ?_
  refine lv_iload hx hb dL_law_861 (lv_at hl 5 rfl) ?_
  refine lv_iconst (v := nI 3) hx hb dL_law_863 (by decide) ?_
  refine lv_iadd hx hb dL_law_864 ?_
  refine zasi (show ((nI (6 * k)) + (nI 3)) = nI (6 * k + 3) from nI_add _ _) ?_
  refine zsl hx hb hX hbl hL3 hS (show 6 * k + 3 < Ln by omega) e3 dL_law_865 ?_
  refine zgm (va_runV (As := [.int v1, .int v2, .int v3]) (rest := []) ⟨hx, hb, hml, hown, hts⟩ (hM H.size) (cwV 3 hts gL_law_X5_isIn rfl rfl rfl (by decide +kernel) ⟨Nat.le_of_ble_eq_true rfl, Nat.le_of_ble_eq_true rfl⟩) (zmV (q0 := 0) (ci := 5) hY (w2_r hD) hE rfl rfl) rfl rfl hl.1 rfl (lv_room (Nat.le_of_ble_eq_true rfl)) dL_law_866 (by show _ ≤ 601024 ∧ _ ≤ 7293034; omega)) hP hD hS hA rfl (fun r H locs hr9b hP hY hD hS => ?_)
  refine lv_istore (lv' := [(6, .int r), (5, .int r9), (0, .ref b), (1, .ref h0), (2, .ref hm), (3, .ref ob), (4, .int (nI (6 * k)))]) hx hb dL_law_869 hl (by decide) rfl (fun ls hl => ?_)
  refine lv_aload_n hx hb dL_law_871 rfl (lv_at hl 4 rfl) ?_
  refine zci (va_runV (As := []) (rest := []) ⟨hx, hb, hml, hown, hts⟩ (m_thrown l D ca sa hm ad _ _ _ _ _ _) (cwV 0 hts gL_law_X5_thrown rfl rfl rfl (by decide +kernel) ⟨Nat.le_of_ble_eq_true rfl, Nat.le_of_ble_eq_true rfl⟩) (zpV (q0 := 0) (ci := 5) hY hE rfl rfl) rfl rfl hl.1 rfl (lv_room (Nat.le_of_ble_eq_true rfl)) dL_law_872 (by show _ ≤ 601024 ∧ _ ≤ 7293034; omega)) ?_
  refine lv_iload hx hb dL_law_875 (lv_at hl 1 rfl) ?_
  refine lv_icmp_eq (tgt := 882) hx hb dL_law_877 (by decide) (fun c_877 => ?_) (fun c_877 => ?_)
  · refine lv_iload hx hb dL_law_882 (lv_at hl 1 rfl) ?_
    refine lv_if_ne (tgt := 906) hx hb dL_law_884 (by decide) (fun c_884 => ?_) (fun c_884 => ?_)
    · refine lv_goto (tgt := 1551) hx hb dL_law_906 (by decide) ?_
      refine W.widen (k := cells + 24) (n := slots + 100) (by omega) (by omega) ?_
      exact kk V nc M _ _ _ _ H locs ls ⟨i_up hI0 hk, ⟨ta, pa, aT, aP, aS, aH, n9, zRep_up hR (Nat.le_succ k) (by omega)⟩, hP, hY, hD, hS, lv_sub hl [2, 3, 4, 5, 6] rfl⟩
    · exact absurd c_884 (by rcases hr9 with rfl | rfl <;> decide)
  · exact absurd rfl c_877

set_option maxHeartbeats 4000000 in
set_option maxRecDepth 100000 in
theorem st_report_ok {p : Program} {l : Launch} {e : Env} {s : State} {m : MethodId} {below : List Frame} {meth : Method} {c : Code} {b Ln : Nat} {xs : Nat → Int32} {D : va_G} {ca : Nat → ClassId} {sa : Nat → Nat} (C : lw_C p l s m meth c b Ln xs D ca sa) {h0 hm ob : Nat} {ad : Nat → Nat} {k : Nat} {H : Heap} {locs : List Loc} {ls : Array Slot} {V : zV} {nc : Nat} {M : Nat → Nat → Int32} {th : Int32} {L : List Nat} {f : Nat → va_E} {g : Nat → Int64} (S : lw_S D ca s h0 hm ob b ad k (6 * k) H locs ls V nc M th L f g) (hk : k < 512) (hi : 6 * k + 6 ≤ Ln) {cells slots : Nat} {Q : State → Prop} (hroom : cells + 24 ≤ 601024 ∧ slots + 100 ≤ 7293034) {v1 v2 : Int32} (e1 : xs (6 * k + 1) = v1) (e2 : xs (6 * k + 2) = v2) {mc ms : Nat} (hmc : mc ≤ 24) (hms : ms ≤ 100) {V' : zV} {nc' : Nat} {M' : Nat → Nat → Int32} {P : Int64 → zU → Prop} {val : Int32} (hP9 : ∀ x u, P x u → x = val.toInt64 ∧ zR u.1 u.2 ca h0 (k + 1) V') (hI : Inv V' nc' M' (k + 1)) (hC : ∀ sz, vx_Met l yL_report wsL_report ({ frames := 10, cells := mc, slots := ms, locals := 450 }) (va_Pc [.ref h0, .int v1, .int v2, .ref ob] (zLp D L f ob g ca sa sz)) (va_Qi (fun (r : Int32) (u : zU × (Nat → Int64)) => r = nI 0 ∧ P (u.2 0) u.1) (fun u t => va_P D vwCl (oW ca ob u.2 ++ va_pl u.1.1 u.1.2) t.heap ∧ va_D (va_A (oW ca ob g ++ va_pl L f) sz) (oW ca ob u.2 ++ va_pl u.1.1 u.1.2)) (va_A (oW ca ob g ++ va_pl L f) sz)) zX0 mc ms (va_A (oW ca ob g ++ va_pl L f) sz)) (hM : ∀ sz, Met l yX5_report wsX5_report ({ frames := 9, cells := 0, slots := 0, locals := 360 }) (va_Pc [.ref hm, .int v1, .int v2] (zMp D (mW hm ad ca th (vTd V) (vNt V) (vNp V) nc M) ca sa sz)) (va_Qi (fun (r : Int32) (_ : Unit) => r = val) (fun _ t9 => va_P D vwCl (mW hm ad ca (nI 0) (vTd V') (vNt V') (vNp V') nc' M') t9.heap) (va_A (mW hm ad ca th (vTd V) (vNt V) (vNp V) nc M) sz)) 0 0 (va_A (mW hm ad ca th (vTd V) (vNt V) (vNp V) nc M) sz)) (kk : ∀ (V' : zV) (nc' : Nat) (M' : Nat → Nat → Int32) (th' : Int32) (L' : List Nat) (f' : Nat → va_E) (g' : Nat → Int64) (H1 : Heap) (locs1 : List Loc) (ls1 : Array Slot), lw_S D ca s h0 hm ob b ad (k + 1) (6 * k) H1 locs1 ls1 V' nc' M' th' L' f' g' → W p l e room_1 s m #[Value.ref b] below meth c H1 locs1 (cells + 24) (slots + 100) Q (F0 m 1551 ls1 [])) : W p l e room_1 s m #[Value.ref b] below meth c H locs cells slots Q (F0 m 909 ls []) := by
  obtain ⟨⟨hx, hb, hml, hown, hts⟩, hX, hbl, hL3, hE, hN, hZ0, hl0⟩ := C
  obtain ⟨hI0, ⟨ta, pa, aT, aP, aS, aH, n9, hR⟩, hP, hY, hD, hS, hl⟩ := S
  have h4 := hR.1.1
  have hA : ∀ q : Nat, s.heap.size ≤ q → (fun q => s.heap.size ≤ q) q := fun _ h => h
  refine lv_aload_n hx hb dL_law_909 rfl (lv_at hl 1 rfl) ?_
  refine lv_aload_n hx hb dL_law_910 rfl (lv_at hl 0 rfl) ?_
  refine lv_iload hx hb dL_law_911 (lv_at hl 4 rfl) ?_
  refine lv_iconst (v := nI 1) hx hb dL_law_913 (by decide) ?_
  refine lv_iadd hx hb dL_law_914 ?_
  refine zasi (show ((nI (6 * k)) + (nI 1)) = nI (6 * k + 1) from nI_add _ _) ?_
  refine zsl hx hb hX hbl hL3 hS (show 6 * k + 1 < Ln by omega) e1 dL_law_915 ?_
  refine lv_aload_n hx hb dL_law_916 rfl (lv_at hl 0 rfl) ?_
  refine lv_iload hx hb dL_law_917 (lv_at hl 4 rfl) ?_
  refine lv_iconst (v := nI 2) hx hb dL_law_919 (by decide) ?_
  refine lv_iadd hx hb dL_law_920 ?_
  refine zasi (show ((nI (6 * k)) + (nI 2)) = nI (6 * k + 2) from nI_add _ _) ?_
  refine zsl hx hb hX hbl hL3 hS (show 6 * k + 2 < Ln by omega) e2 dL_law_921 ?_
  refine lv_aload_n hx hb dL_law_922 rfl (lv_at hl 3 rfl) ?_
  refine zgo (vx_runSX (As := [.ref h0, .int v1, .int v2, .ref ob]) (rest := []) ⟨hx, hb, hml, hown, hts⟩ (hC H.size) (vx_cwSW (bytes := cL_report) (maxL := 5) (ret := some .int) (hh := [(0, 10, 13, 20)]) 4 hts gL_law_L_report rfl rfl rfl (by decide +kernel) ⟨Nat.le_of_ble_eq_true rfl, Nat.le_of_ble_eq_true rfl⟩) (zLS hP (w2_l hD) hE hN (lwZ hZ0 hS) (fun q h => Nat.le_trans hS.1 h)) rfl rfl hl.1 rfl (lv_room (Nat.le_of_ble_eq_true rfl)) dL_law_923 (by show _ ≤ 601024 ∧ _ ≤ 7293034; omega)) hY hD hS hA (fun u g1 H locs hu hP hY hD hS => ?_)
  obtain ⟨hv9, hR9⟩ := hP9 _ _ hu
  refine lv_istore (lv' := [(5, .int (nI 0)), (0, .ref b), (1, .ref h0), (2, .ref hm), (3, .ref ob), (4, .int (nI (6 * k)))]) hx hb dL_law_926 hl (by decide) rfl (fun ls hl => ?_)
  refine lv_aload_n hx hb dL_law_928 rfl (lv_at hl 3 rfl) ?_
  refine lv_aload_n hx hb dL_law_929 rfl (lv_at hl 1 rfl) ?_
  refine lv_iload hx hb dL_law_930 (lv_at hl 5 rfl) ?_
  refine lv_iconst (v := nI 1) hx hb dL_law_932 (by decide) ?_
  refine lv_iadd hx hb dL_law_933 ?_
  refine zasi (show ((nI (6 * k)) + (nI 1)) = nI (6 * k + 1) from nI_add _ _) ?_
  refine zsl hx hb hX hbl hL3 hS (show 6 * k + 1 < Ln by omega) e1 dL_law_934 ?_
  refine lv_aload_n hx hb dL_law_935 rfl (lv_at hl 1 rfl) ?_
  refine lv_iload hx hb dL_law_936 (lv_at hl 5 rfl) ?_
  refine lv_iconst (v := nI 2) hx hb dL_law_938 (by decide) ?_
  refine lv_iadd hx hb dL_law_939 ?_
  refine zasi (show ((nI (6 * k)) + (nI 2)) = nI (6 * k + 2) from nI_add _ _) ?_
  refine zsl hx hb hX hbl hL3 hS (show 6 * k + 2 < Ln by omega) e2 dL_law_940 ?_
  refine zgm (va_runV (As := [.int v1, .int v2]) (rest := []) ⟨hx, hb, hml, hown, hts⟩ (hM H.size) (cwV 2 hts gL_law_X5_report rfl rfl rfl (by decide +kernel) ⟨Nat.le_of_ble_eq_true rfl, Nat.le_of_ble_eq_true rfl⟩) (zmV (q0 := 0) (ci := 5) hY (w2_r hD) hE rfl rfl) rfl rfl hl.1 rfl (lv_room (Nat.le_of_ble_eq_true rfl)) dL_law_941 (by show _ ≤ 601024 ∧ _ ≤ 7293034; omega)) hP hD hS hA rfl (fun r H locs hr9b hP hY hD hS => ?_)
  rw [show r = val from hr9b]
  refine lv_istore (lv' := [(6, .int val), (5, .int (nI 0)), (0, .ref b), (1, .ref h0), (2, .ref hm), (3, .ref ob), (4, .int (nI (6 * k)))]) hx hb dL_law_944 hl (by decide) rfl (fun ls hl => ?_)
  refine lv_aload_n hx hb dL_law_946 rfl (lv_at hl 4 rfl) ?_
  refine zci (va_runV (As := []) (rest := []) ⟨hx, hb, hml, hown, hts⟩ (m_thrown l D ca sa hm ad _ _ _ _ _ _) (cwV 0 hts gL_law_X5_thrown rfl rfl rfl (by decide +kernel) ⟨Nat.le_of_ble_eq_true rfl, Nat.le_of_ble_eq_true rfl⟩) (zpV (q0 := 0) (ci := 5) hY hE rfl rfl) rfl rfl hl.1 rfl (lv_room (Nat.le_of_ble_eq_true rfl)) dL_law_947 (by show _ ≤ 601024 ∧ _ ≤ 7293034; omega)) ?_
  refine lv_iload hx hb dL_law_950 (lv_at hl 1 rfl) ?_
  refine lv_icmp_eq (tgt := 957) hx hb dL_law_952 (by decide) (fun c_952 => ?_) (fun c_952 => ?_)
  · refine lv_iload hx hb dL_law_957 (lv_at hl 1 rfl) ?_
    refine lv_if_ne (tgt := 974) hx hb dL_law_959 (by decide) (fun c_959 => ?_) (fun c_959 => ?_)
    · exact absurd c_959 (by decide)
    · refine lv_aload_n hx hb dL_law_962 rfl (lv_at hl 5 rfl) ?_
      refine lv_iconst (v := nI 0) hx hb dL_law_963 (by decide) ?_
      refine zol hx hb hE hP hv9 dL_law_964 ?_
      refine lv_iload hx hb dL_law_965 (lv_at hl 0 rfl) ?_
      refine lv_i2l hx hb dL_law_967 rfl ?_
      refine W.lcmp hx hb dL_law_968 ?_
      refine zasi (show (lg_cmp (val.toInt64) (val.toInt64)) = nI 0 from zcmp _) ?_
      refine lv_if_eq (tgt := 974) hx hb dL_law_969 (by decide) (fun c_969 => ?_) (fun c_969 => ?_)
      · refine lv_goto (tgt := 1551) hx hb dL_law_974 (by decide) ?_
        refine W.widen (k := cells + 24) (n := slots + 100) (by omega) (by omega) ?_
        exact kk V' nc' M' _ _ _ _ H locs ls ⟨hI, hR9, hP, hY, hD, hS, lv_sub hl [2, 3, 4, 5, 6] rfl⟩
      · exact absurd c_969 (by decide)
  · exact absurd c_952 (by decide)

set_option maxHeartbeats 4000000 in
set_option maxRecDepth 100000 in
theorem st_report_x {p : Program} {l : Launch} {e : Env} {s : State} {m : MethodId} {below : List Frame} {meth : Method} {c : Code} {b Ln : Nat} {xs : Nat → Int32} {D : va_G} {ca : Nat → ClassId} {sa : Nat → Nat} (C : lw_C p l s m meth c b Ln xs D ca sa) {h0 hm ob : Nat} {ad : Nat → Nat} {k : Nat} {H : Heap} {locs : List Loc} {ls : Array Slot} {V : zV} {nc : Nat} {M : Nat → Nat → Int32} {th : Int32} {L : List Nat} {f : Nat → va_E} {g : Nat → Int64} (S : lw_S D ca s h0 hm ob b ad k (6 * k) H locs ls V nc M th L f g) (hk : k < 512) (hi : 6 * k + 6 ≤ Ln) {cells slots : Nat} {Q : State → Prop} (hroom : cells + 24 ≤ 601024 ∧ slots + 100 ≤ 7293034) {v1 v2 : Int32} (e1 : xs (6 * k + 1) = v1) (e2 : xs (6 * k + 2) = v2) {mc ms : Nat} (hmc : mc ≤ 24) (hms : ms ≤ 100) {r9 : Int32} (hr9 : r9 = nI 1 ∨ r9 = nI 2) (hC : ∀ sz, vx_Met l yL_report wsL_report ({ frames := 10, cells := mc, slots := ms, locals := 450 }) (va_Pc [.ref h0, .int v1, .int v2, .ref ob] (zLp D L f ob g ca sa sz)) (va_Qi (fun (r : Int32) (_ : Unit) => r = r9) (fun _ _ => True) (fun q => sz ≤ q)) zX0 mc ms (fun q => sz ≤ q)) (hM : ∀ sz, Met l yX5_report wsX5_report ({ frames := 9, cells := 0, slots := 0, locals := 360 }) (va_Pc [.ref hm, .int v1, .int v2] (zMp D (mW hm ad ca th (vTd V) (vNt V) (vNp V) nc M) ca sa sz)) (va_Qi (fun (r : Int32) (_ : Unit) => True) (fun _ t9 => va_P D vwCl (mW hm ad ca r9 (vTd V) (vNt V) (vNp V) nc M) t9.heap) (va_A (mW hm ad ca th (vTd V) (vNt V) (vNp V) nc M) sz)) 0 0 (va_A (mW hm ad ca th (vTd V) (vNt V) (vNp V) nc M) sz)) (kk : ∀ (V' : zV) (nc' : Nat) (M' : Nat → Nat → Int32) (th' : Int32) (L' : List Nat) (f' : Nat → va_E) (g' : Nat → Int64) (H1 : Heap) (locs1 : List Loc) (ls1 : Array Slot), lw_S D ca s h0 hm ob b ad (k + 1) (6 * k) H1 locs1 ls1 V' nc' M' th' L' f' g' → W p l e room_1 s m #[Value.ref b] below meth c H1 locs1 (cells + 24) (slots + 100) Q (F0 m 1551 ls1 [])) : W p l e room_1 s m #[Value.ref b] below meth c H locs cells slots Q (F0 m 909 ls []) := by
  obtain ⟨⟨hx, hb, hml, hown, hts⟩, hX, hbl, hL3, hE, hN, hZ0, hl0⟩ := C
  obtain ⟨hI0, ⟨ta, pa, aT, aP, aS, aH, n9, hR⟩, hP, hY, hD, hS, hl⟩ := S
  have h4 := hR.1.1
  have hA : ∀ q : Nat, s.heap.size ≤ q → (fun q => s.heap.size ≤ q) q := fun _ h => h
  refine lv_aload_n hx hb dL_law_909 rfl (lv_at hl 1 rfl) ?_
  refine lv_aload_n hx hb dL_law_910 rfl (lv_at hl 0 rfl) ?_
  refine lv_iload hx hb dL_law_911 (lv_at hl 4 rfl) ?_
  refine lv_iconst (v := nI 1) hx hb dL_law_913 (by decide) ?_
  refine lv_iadd hx hb dL_law_914 ?_
  refine zasi (show ((nI (6 * k)) + (nI 1)) = nI (6 * k + 1) from nI_add _ _) ?_
  refine zsl hx hb hX hbl hL3 hS (show 6 * k + 1 < Ln by omega) e1 dL_law_915 ?_
  refine lv_aload_n hx hb dL_law_916 rfl (lv_at hl 0 rfl) ?_
  refine lv_iload hx hb dL_law_917 (lv_at hl 4 rfl) ?_
  refine lv_iconst (v := nI 2) hx hb dL_law_919 (by decide) ?_
  refine lv_iadd hx hb dL_law_920 ?_
  refine zasi (show ((nI (6 * k)) + (nI 2)) = nI (6 * k + 2) from nI_add _ _) ?_
  refine zsl hx hb hX hbl hL3 hS (show 6 * k + 2 < Ln by omega) e2 dL_law_921 ?_
  refine lv_aload_n hx hb dL_law_922 rfl (lv_at hl 3 rfl) ?_
  refine zgx (vx_runSX (As := [.ref h0, .int v1, .int v2, .ref ob]) (rest := []) ⟨hx, hb, hml, hown, hts⟩ (hC H.size) (vx_cwSW (bytes := cL_report) (maxL := 5) (ret := some .int) (hh := [(0, 10, 13, 20)]) 4 hts gL_law_L_report rfl rfl rfl (by decide +kernel) ⟨Nat.le_of_ble_eq_true rfl, Nat.le_of_ble_eq_true rfl⟩) (zLS hP (w2_l hD) hE hN (lwZ hZ0 hS) (fun q h => Nat.le_trans hS.1 h)) rfl rfl hl.1 rfl (lv_room (Nat.le_of_ble_eq_true rfl)) dL_law_923 (by show _ ≤ 601024 ∧ _ ≤ 7293034; omega)) hP hY hS hA (fun H locs hP hY hS => ?_)
  refine lv_istore (lv' := [(5, .int r9), (0, .ref b), (1, .ref h0), (2, .ref hm), (3, .ref ob), (4, .int (nI (6 * k)))]) hx hb dL_law_926 hl (by decide) rfl (fun ls hl => ?_)
  refine lv_aload_n hx hb dL_law_928 rfl (lv_at hl 3 rfl) ?_
  refine lv_aload_n hx hb dL_law_929 rfl (lv_at hl 1 rfl) ?_
  refine lv_iload hx hb dL_law_930 (lv_at hl 5 rfl) ?_
  refine lv_iconst (v := nI 1) hx hb dL_law_932 (by decide) ?_
  refine lv_iadd hx hb dL_law_933 ?_
  refine zasi (show ((nI (6 * k)) + (nI 1)) = nI (6 * k + 1) from nI_add _ _) ?_
  refine zsl hx hb hX hbl hL3 hS (show 6 * k + 1 < Ln by omega) e1 dL_law_934 ?_
  refine lv_aload_n hx hb dL_law_935 rfl (lv_at hl 1 rfl) ?_
  refine lv_iload hx hb dL_law_936 (lv_at hl 5 rfl) ?_
  refine lv_iconst (v := nI 2) hx hb dL_law_938 (by decide) ?_
  refine lv_iadd hx hb dL_law_939 ?_
  refine zasi (show ((nI (6 * k)) + (nI 2)) = nI (6 * k + 2) from nI_add _ _) ?_
  refine zsl hx hb hX hbl hL3 hS (show 6 * k + 2 < Ln by omega) e2 dL_law_940 ?_
  refine zgm (va_runV (As := [.int v1, .int v2]) (rest := []) ⟨hx, hb, hml, hown, hts⟩ (hM H.size) (cwV 2 hts gL_law_X5_report rfl rfl rfl (by decide +kernel) ⟨Nat.le_of_ble_eq_true rfl, Nat.le_of_ble_eq_true rfl⟩) (zmV (q0 := 0) (ci := 5) hY (w2_r hD) hE rfl rfl) rfl rfl hl.1 rfl (lv_room (Nat.le_of_ble_eq_true rfl)) dL_law_941 (by show _ ≤ 601024 ∧ _ ≤ 7293034; omega)) hP hD hS hA rfl (fun r H locs hr9b hP hY hD hS => ?_)
  refine lv_istore (lv' := [(6, .int r), (5, .int r9), (0, .ref b), (1, .ref h0), (2, .ref hm), (3, .ref ob), (4, .int (nI (6 * k)))]) hx hb dL_law_944 hl (by decide) rfl (fun ls hl => ?_)
  refine lv_aload_n hx hb dL_law_946 rfl (lv_at hl 4 rfl) ?_
  refine zci (va_runV (As := []) (rest := []) ⟨hx, hb, hml, hown, hts⟩ (m_thrown l D ca sa hm ad _ _ _ _ _ _) (cwV 0 hts gL_law_X5_thrown rfl rfl rfl (by decide +kernel) ⟨Nat.le_of_ble_eq_true rfl, Nat.le_of_ble_eq_true rfl⟩) (zpV (q0 := 0) (ci := 5) hY hE rfl rfl) rfl rfl hl.1 rfl (lv_room (Nat.le_of_ble_eq_true rfl)) dL_law_947 (by show _ ≤ 601024 ∧ _ ≤ 7293034; omega)) ?_
  refine lv_iload hx hb dL_law_950 (lv_at hl 1 rfl) ?_
  refine lv_icmp_eq (tgt := 957) hx hb dL_law_952 (by decide) (fun c_952 => ?_) (fun c_952 => ?_)
  · refine lv_iload hx hb dL_law_957 (lv_at hl 1 rfl) ?_
    refine lv_if_ne (tgt := 974) hx hb dL_law_959 (by decide) (fun c_959 => ?_) (fun c_959 => ?_)
    · refine lv_goto (tgt := 1551) hx hb dL_law_974 (by decide) ?_
      refine W.widen (k := cells + 24) (n := slots + 100) (by omega) (by omega) ?_
      exact kk V nc M _ _ _ _ H locs ls ⟨i_up hI0 hk, ⟨ta, pa, aT, aP, aS, aH, n9, zRep_up hR (Nat.le_succ k) (by omega)⟩, hP, hY, hD, hS, lv_sub hl [2, 3, 4, 5, 6] rfl⟩
    · exact absurd c_959 (by rcases hr9 with rfl | rfl <;> decide)
  · exact absurd rfl c_952

set_option maxHeartbeats 4000000 in
set_option maxRecDepth 100000 in
theorem st_mend_ok {p : Program} {l : Launch} {e : Env} {s : State} {m : MethodId} {below : List Frame} {meth : Method} {c : Code} {b Ln : Nat} {xs : Nat → Int32} {D : va_G} {ca : Nat → ClassId} {sa : Nat → Nat} (C : lw_C p l s m meth c b Ln xs D ca sa) {h0 hm ob : Nat} {ad : Nat → Nat} {k : Nat} {H : Heap} {locs : List Loc} {ls : Array Slot} {V : zV} {nc : Nat} {M : Nat → Nat → Int32} {th : Int32} {L : List Nat} {f : Nat → va_E} {g : Nat → Int64} (S : lw_S D ca s h0 hm ob b ad k (6 * k) H locs ls V nc M th L f g) (hk : k < 512) (hi : 6 * k + 6 ≤ Ln) {cells slots : Nat} {Q : State → Prop} (hroom : cells + 24 ≤ 601024 ∧ slots + 100 ≤ 7293034) {v1 v2 : Int32} (e1 : xs (6 * k + 1) = v1) (e2 : xs (6 * k + 2) = v2) {mc ms : Nat} (hmc : mc ≤ 24) (hms : ms ≤ 100) {V' : zV} {nc' : Nat} {M' : Nat → Nat → Int32} {P : Int64 → zU → Prop} {val : Int32} (hP9 : ∀ x u, P x u → x = val.toInt64 ∧ zR u.1 u.2 ca h0 (k + 1) V') (hI : Inv V' nc' M' (k + 1)) (hC : ∀ sz, vx_Met l yL_mend wsL_mend ({ frames := 10, cells := mc, slots := ms, locals := 450 }) (va_Pc [.ref h0, .int v1, .int v2, .ref ob] (zLp D L f ob g ca sa sz)) (va_Qi (fun (r : Int32) (u : zU × (Nat → Int64)) => r = nI 0 ∧ P (u.2 0) u.1) (fun u t => va_P D vwCl (oW ca ob u.2 ++ va_pl u.1.1 u.1.2) t.heap ∧ va_D (va_A (oW ca ob g ++ va_pl L f) sz) (oW ca ob u.2 ++ va_pl u.1.1 u.1.2)) (va_A (oW ca ob g ++ va_pl L f) sz)) zX0 mc ms (va_A (oW ca ob g ++ va_pl L f) sz)) (hM : ∀ sz, Met l yX5_mend wsX5_mend ({ frames := 9, cells := 0, slots := 0, locals := 360 }) (va_Pc [.ref hm, .int v1, .int v2] (zMp D (mW hm ad ca th (vTd V) (vNt V) (vNp V) nc M) ca sa sz)) (va_Qi (fun (r : Int32) (_ : Unit) => r = val) (fun _ t9 => va_P D vwCl (mW hm ad ca (nI 0) (vTd V') (vNt V') (vNp V') nc' M') t9.heap) (va_A (mW hm ad ca th (vTd V) (vNt V) (vNp V) nc M) sz)) 0 0 (va_A (mW hm ad ca th (vTd V) (vNt V) (vNp V) nc M) sz)) (kk : ∀ (V' : zV) (nc' : Nat) (M' : Nat → Nat → Int32) (th' : Int32) (L' : List Nat) (f' : Nat → va_E) (g' : Nat → Int64) (H1 : Heap) (locs1 : List Loc) (ls1 : Array Slot), lw_S D ca s h0 hm ob b ad (k + 1) (6 * k) H1 locs1 ls1 V' nc' M' th' L' f' g' → W p l e room_1 s m #[Value.ref b] below meth c H1 locs1 (cells + 24) (slots + 100) Q (F0 m 1551 ls1 [])) : W p l e room_1 s m #[Value.ref b] below meth c H locs cells slots Q (F0 m 977 ls []) := by
  obtain ⟨⟨hx, hb, hml, hown, hts⟩, hX, hbl, hL3, hE, hN, hZ0, hl0⟩ := C
  obtain ⟨hI0, ⟨ta, pa, aT, aP, aS, aH, n9, hR⟩, hP, hY, hD, hS, hl⟩ := S
  have h4 := hR.1.1
  have hA : ∀ q : Nat, s.heap.size ≤ q → (fun q => s.heap.size ≤ q) q := fun _ h => h
  refine lv_aload_n hx hb dL_law_977 rfl (lv_at hl 1 rfl) ?_
  refine lv_aload_n hx hb dL_law_978 rfl (lv_at hl 0 rfl) ?_
  refine lv_iload hx hb dL_law_979 (lv_at hl 4 rfl) ?_
  refine lv_iconst (v := nI 1) hx hb dL_law_981 (by decide) ?_
  refine lv_iadd hx hb dL_law_982 ?_
  refine zasi (show ((nI (6 * k)) + (nI 1)) = nI (6 * k + 1) from nI_add _ _) ?_
  refine zsl hx hb hX hbl hL3 hS (show 6 * k + 1 < Ln by omega) e1 dL_law_983 ?_
  refine lv_aload_n hx hb dL_law_984 rfl (lv_at hl 0 rfl) ?_
  refine lv_iload hx hb dL_law_985 (lv_at hl 4 rfl) ?_
  refine lv_iconst (v := nI 2) hx hb dL_law_987 (by decide) ?_
  refine lv_iadd hx hb dL_law_988 ?_
  refine zasi (show ((nI (6 * k)) + (nI 2)) = nI (6 * k + 2) from nI_add _ _) ?_
  refine zsl hx hb hX hbl hL3 hS (show 6 * k + 2 < Ln by omega) e2 dL_law_989 ?_
  refine lv_aload_n hx hb dL_law_990 rfl (lv_at hl 3 rfl) ?_
  refine zgo (vx_runSX (As := [.ref h0, .int v1, .int v2, .ref ob]) (rest := []) ⟨hx, hb, hml, hown, hts⟩ (hC H.size) (vx_cwSW (bytes := cL_mend) (maxL := 5) (ret := some .int) (hh := [(0, 10, 13, 20)]) 4 hts gL_law_L_mend rfl rfl rfl (by decide +kernel) ⟨Nat.le_of_ble_eq_true rfl, Nat.le_of_ble_eq_true rfl⟩) (zLS hP (w2_l hD) hE hN (lwZ hZ0 hS) (fun q h => Nat.le_trans hS.1 h)) rfl rfl hl.1 rfl (lv_room (Nat.le_of_ble_eq_true rfl)) dL_law_991 (by show _ ≤ 601024 ∧ _ ≤ 7293034; omega)) hY hD hS hA (fun u g1 H locs hu hP hY hD hS => ?_)
  obtain ⟨hv9, hR9⟩ := hP9 _ _ hu
  refine lv_istore (lv' := [(5, .int (nI 0)), (0, .ref b), (1, .ref h0), (2, .ref hm), (3, .ref ob), (4, .int (nI (6 * k)))]) hx hb dL_law_994 hl (by decide) rfl (fun ls hl => ?_)
  refine lv_aload_n hx hb dL_law_996 rfl (lv_at hl 3 rfl) ?_
  refine lv_aload_n hx hb dL_law_997 rfl (lv_at hl 1 rfl) ?_
  refine lv_iload hx hb dL_law_998 (lv_at hl 5 rfl) ?_
  refine lv_iconst (v := nI 1) hx hb dL_law_1000 (by decide) ?_
  refine lv_iadd hx hb dL_law_1001 ?_
  refine zasi (show ((nI (6 * k)) + (nI 1)) = nI (6 * k + 1) from nI_add _ _) ?_
  refine zsl hx hb hX hbl hL3 hS (show 6 * k + 1 < Ln by omega) e1 dL_law_1002 ?_
  refine lv_aload_n hx hb dL_law_1003 rfl (lv_at hl 1 rfl) ?_
  refine lv_iload hx hb dL_law_1004 (lv_at hl 5 rfl) ?_
  refine lv_iconst (v := nI 2) hx hb dL_law_1006 (by decide) ?_
  refine lv_iadd hx hb dL_law_1007 ?_
  refine zasi (show ((nI (6 * k)) + (nI 2)) = nI (6 * k + 2) from nI_add _ _) ?_
  refine zsl hx hb hX hbl hL3 hS (show 6 * k + 2 < Ln by omega) e2 dL_law_1008 ?_
  refine zgm (va_runV (As := [.int v1, .int v2]) (rest := []) ⟨hx, hb, hml, hown, hts⟩ (hM H.size) (cwV 2 hts gL_law_X5_mend rfl rfl rfl (by decide +kernel) ⟨Nat.le_of_ble_eq_true rfl, Nat.le_of_ble_eq_true rfl⟩) (zmV (q0 := 0) (ci := 5) hY (w2_r hD) hE rfl rfl) rfl rfl hl.1 rfl (lv_room (Nat.le_of_ble_eq_true rfl)) dL_law_1009 (by show _ ≤ 601024 ∧ _ ≤ 7293034; omega)) hP hD hS hA rfl (fun r H locs hr9b hP hY hD hS => ?_)
  rw [show r = val from hr9b]
  refine lv_istore (lv' := [(6, .int val), (5, .int (nI 0)), (0, .ref b), (1, .ref h0), (2, .ref hm), (3, .ref ob), (4, .int (nI (6 * k)))]) hx hb dL_law_1012 hl (by decide) rfl (fun ls hl => ?_)
  refine lv_aload_n hx hb dL_law_1014 rfl (lv_at hl 4 rfl) ?_
  refine zci (va_runV (As := []) (rest := []) ⟨hx, hb, hml, hown, hts⟩ (m_thrown l D ca sa hm ad _ _ _ _ _ _) (cwV 0 hts gL_law_X5_thrown rfl rfl rfl (by decide +kernel) ⟨Nat.le_of_ble_eq_true rfl, Nat.le_of_ble_eq_true rfl⟩) (zpV (q0 := 0) (ci := 5) hY hE rfl rfl) rfl rfl hl.1 rfl (lv_room (Nat.le_of_ble_eq_true rfl)) dL_law_1015 (by show _ ≤ 601024 ∧ _ ≤ 7293034; omega)) ?_
  refine lv_iload hx hb dL_law_1018 (lv_at hl 1 rfl) ?_
  refine lv_icmp_eq (tgt := 1025) hx hb dL_law_1020 (by decide) (fun c_1020 => ?_) (fun c_1020 => ?_)
  · refine lv_iload hx hb dL_law_1025 (lv_at hl 1 rfl) ?_
    refine lv_if_ne (tgt := 1042) hx hb dL_law_1027 (by decide) (fun c_1027 => ?_) (fun c_1027 => ?_)
    · exact absurd c_1027 (by decide)
    · refine lv_aload_n hx hb dL_law_1030 rfl (lv_at hl 5 rfl) ?_
      refine lv_iconst (v := nI 0) hx hb dL_law_1031 (by decide) ?_
      refine zol hx hb hE hP hv9 dL_law_1032 ?_
      refine lv_iload hx hb dL_law_1033 (lv_at hl 0 rfl) ?_
      refine lv_i2l hx hb dL_law_1035 rfl ?_
      refine W.lcmp hx hb dL_law_1036 ?_
      refine zasi (show (lg_cmp (val.toInt64) (val.toInt64)) = nI 0 from zcmp _) ?_
      refine lv_if_eq (tgt := 1042) hx hb dL_law_1037 (by decide) (fun c_1037 => ?_) (fun c_1037 => ?_)
      · refine lv_goto (tgt := 1551) hx hb dL_law_1042 (by decide) ?_
        refine W.widen (k := cells + 24) (n := slots + 100) (by omega) (by omega) ?_
        exact kk V' nc' M' _ _ _ _ H locs ls ⟨hI, hR9, hP, hY, hD, hS, lv_sub hl [2, 3, 4, 5, 6] rfl⟩
      · exact absurd c_1037 (by decide)
  · exact absurd c_1020 (by decide)

set_option maxHeartbeats 4000000 in
set_option maxRecDepth 100000 in
theorem st_mend_x {p : Program} {l : Launch} {e : Env} {s : State} {m : MethodId} {below : List Frame} {meth : Method} {c : Code} {b Ln : Nat} {xs : Nat → Int32} {D : va_G} {ca : Nat → ClassId} {sa : Nat → Nat} (C : lw_C p l s m meth c b Ln xs D ca sa) {h0 hm ob : Nat} {ad : Nat → Nat} {k : Nat} {H : Heap} {locs : List Loc} {ls : Array Slot} {V : zV} {nc : Nat} {M : Nat → Nat → Int32} {th : Int32} {L : List Nat} {f : Nat → va_E} {g : Nat → Int64} (S : lw_S D ca s h0 hm ob b ad k (6 * k) H locs ls V nc M th L f g) (hk : k < 512) (hi : 6 * k + 6 ≤ Ln) {cells slots : Nat} {Q : State → Prop} (hroom : cells + 24 ≤ 601024 ∧ slots + 100 ≤ 7293034) {v1 v2 : Int32} (e1 : xs (6 * k + 1) = v1) (e2 : xs (6 * k + 2) = v2) {mc ms : Nat} (hmc : mc ≤ 24) (hms : ms ≤ 100) {r9 : Int32} (hr9 : r9 = nI 1 ∨ r9 = nI 2) (hC : ∀ sz, vx_Met l yL_mend wsL_mend ({ frames := 10, cells := mc, slots := ms, locals := 450 }) (va_Pc [.ref h0, .int v1, .int v2, .ref ob] (zLp D L f ob g ca sa sz)) (va_Qi (fun (r : Int32) (_ : Unit) => r = r9) (fun _ _ => True) (fun q => sz ≤ q)) zX0 mc ms (fun q => sz ≤ q)) (hM : ∀ sz, Met l yX5_mend wsX5_mend ({ frames := 9, cells := 0, slots := 0, locals := 360 }) (va_Pc [.ref hm, .int v1, .int v2] (zMp D (mW hm ad ca th (vTd V) (vNt V) (vNp V) nc M) ca sa sz)) (va_Qi (fun (r : Int32) (_ : Unit) => True) (fun _ t9 => va_P D vwCl (mW hm ad ca r9 (vTd V) (vNt V) (vNp V) nc M) t9.heap) (va_A (mW hm ad ca th (vTd V) (vNt V) (vNp V) nc M) sz)) 0 0 (va_A (mW hm ad ca th (vTd V) (vNt V) (vNp V) nc M) sz)) (kk : ∀ (V' : zV) (nc' : Nat) (M' : Nat → Nat → Int32) (th' : Int32) (L' : List Nat) (f' : Nat → va_E) (g' : Nat → Int64) (H1 : Heap) (locs1 : List Loc) (ls1 : Array Slot), lw_S D ca s h0 hm ob b ad (k + 1) (6 * k) H1 locs1 ls1 V' nc' M' th' L' f' g' → W p l e room_1 s m #[Value.ref b] below meth c H1 locs1 (cells + 24) (slots + 100) Q (F0 m 1551 ls1 [])) : W p l e room_1 s m #[Value.ref b] below meth c H locs cells slots Q (F0 m 977 ls []) := by
  obtain ⟨⟨hx, hb, hml, hown, hts⟩, hX, hbl, hL3, hE, hN, hZ0, hl0⟩ := C
  obtain ⟨hI0, ⟨ta, pa, aT, aP, aS, aH, n9, hR⟩, hP, hY, hD, hS, hl⟩ := S
  have h4 := hR.1.1
  have hA : ∀ q : Nat, s.heap.size ≤ q → (fun q => s.heap.size ≤ q) q := fun _ h => h
  refine lv_aload_n hx hb dL_law_977 rfl (lv_at hl 1 rfl) ?_
  refine lv_aload_n hx hb dL_law_978 rfl (lv_at hl 0 rfl) ?_
  refine lv_iload hx hb dL_law_979 (lv_at hl 4 rfl) ?_
  refine lv_iconst (v := nI 1) hx hb dL_law_981 (by decide) ?_
  refine lv_iadd hx hb dL_law_982 ?_
  refine zasi (show ((nI (6 * k)) + (nI 1)) = nI (6 * k + 1) from nI_add _ _) ?_
  refine zsl hx hb hX hbl hL3 hS (show 6 * k + 1 < Ln by omega) e1 dL_law_983 ?_
  refine lv_aload_n hx hb dL_law_984 rfl (lv_at hl 0 rfl) ?_
  refine lv_iload hx hb dL_law_985 (lv_at hl 4 rfl) ?_
  refine lv_iconst (v := nI 2) hx hb dL_law_987 (by decide) ?_
  refine lv_iadd hx hb dL_law_988 ?_
  refine zasi (show ((nI (6 * k)) + (nI 2)) = nI (6 * k + 2) from nI_add _ _) ?_
  refine zsl hx hb hX hbl hL3 hS (show 6 * k + 2 < Ln by omega) e2 dL_law_989 ?_
  refine lv_aload_n hx hb dL_law_990 rfl (lv_at hl 3 rfl) ?_
  refine zgx (vx_runSX (As := [.ref h0, .int v1, .int v2, .ref ob]) (rest := []) ⟨hx, hb, hml, hown, hts⟩ (hC H.size) (vx_cwSW (bytes := cL_mend) (maxL := 5) (ret := some .int) (hh := [(0, 10, 13, 20)]) 4 hts gL_law_L_mend rfl rfl rfl (by decide +kernel) ⟨Nat.le_of_ble_eq_true rfl, Nat.le_of_ble_eq_true rfl⟩) (zLS hP (w2_l hD) hE hN (lwZ hZ0 hS) (fun q h => Nat.le_trans hS.1 h)) rfl rfl hl.1 rfl (lv_room (Nat.le_of_ble_eq_true rfl)) dL_law_991 (by show _ ≤ 601024 ∧ _ ≤ 7293034; omega)) hP hY hS hA (fun H locs hP hY hS => ?_)
  refine lv_istore (lv' := [(5, .int r9), (0, .ref b), (1, .ref h0), (2, .ref hm), (3, .ref ob), (4, .int (nI (6 * k)))]) hx hb dL_law_994 hl (by decide) rfl (fun ls hl => ?_)
  refine lv_aload_n hx hb dL_law_996 rfl (lv_at hl 3 rfl) ?_
  refine lv_aload_n hx hb dL_law_997 rfl (lv_at hl 1 rfl) ?_
  refine lv_iload hx hb dL_law_998 (lv_at hl 5 rfl) ?_
  refine lv_iconst (v := nI 1) hx hb dL_law_1000 (by decide) ?_
  refine lv_iadd hx hb dL_law_1001 ?_
  refine zasi (show ((nI (6 * k)) + (nI 1)) = nI (6 * k + 1) from nI_add _ _) ?_
  refine zsl hx hb hX hbl hL3 hS (show 6 * k + 1 < Ln by omega) e1 dL_law_1002 ?_
  refine lv_aload_n hx hb dL_law_1003 rfl (lv_at hl 1 rfl) ?_
  refine lv_iload hx hb dL_law_1004 (lv_at hl 5 rfl) ?_
  refine lv_iconst (v := nI 2) hx hb dL_law_1006 (by decide) ?_
  refine lv_iadd hx hb dL_law_1007 ?_
  refine zasi (show ((nI (6 * k)) + (nI 2)) = nI (6 * k + 2) from nI_add _ _) ?_
  refine zsl hx hb hX hbl hL3 hS (show 6 * k + 2 < Ln by omega) e2 dL_law_1008 ?_
  refine zgm (va_runV (As := [.int v1, .int v2]) (rest := []) ⟨hx, hb, hml, hown, hts⟩ (hM H.size) (cwV 2 hts gL_law_X5_mend rfl rfl rfl (by decide +kernel) ⟨Nat.le_of_ble_eq_true rfl, Nat.le_of_ble_eq_true rfl⟩) (zmV (q0 := 0) (ci := 5) hY (w2_r hD) hE rfl rfl) rfl rfl hl.1 rfl (lv_room (Nat.le_of_ble_eq_true rfl)) dL_law_1009 (by show _ ≤ 601024 ∧ _ ≤ 7293034; omega)) hP hD hS hA rfl (fun r H locs hr9b hP hY hD hS => ?_)
  refine lv_istore (lv' := [(6, .int r), (5, .int r9), (0, .ref b), (1, .ref h0), (2, .ref hm), (3, .ref ob), (4, .int (nI (6 * k)))]) hx hb dL_law_1012 hl (by decide) rfl (fun ls hl => ?_)
  refine lv_aload_n hx hb dL_law_1014 rfl (lv_at hl 4 rfl) ?_
  refine zci (va_runV (As := []) (rest := []) ⟨hx, hb, hml, hown, hts⟩ (m_thrown l D ca sa hm ad _ _ _ _ _ _) (cwV 0 hts gL_law_X5_thrown rfl rfl rfl (by decide +kernel) ⟨Nat.le_of_ble_eq_true rfl, Nat.le_of_ble_eq_true rfl⟩) (zpV (q0 := 0) (ci := 5) hY hE rfl rfl) rfl rfl hl.1 rfl (lv_room (Nat.le_of_ble_eq_true rfl)) dL_law_1015 (by show _ ≤ 601024 ∧ _ ≤ 7293034; omega)) ?_
  refine lv_iload hx hb dL_law_1018 (lv_at hl 1 rfl) ?_
  refine lv_icmp_eq (tgt := 1025) hx hb dL_law_1020 (by decide) (fun c_1020 => ?_) (fun c_1020 => ?_)
  · refine lv_iload hx hb dL_law_1025 (lv_at hl 1 rfl) ?_
    refine lv_if_ne (tgt := 1042) hx hb dL_law_1027 (by decide) (fun c_1027 => ?_) (fun c_1027 => ?_)
    · refine lv_goto (tgt := 1551) hx hb dL_law_1042 (by decide) ?_
      refine W.widen (k := cells + 24) (n := slots + 100) (by omega) (by omega) ?_
      exact kk V nc M _ _ _ _ H locs ls ⟨i_up hI0 hk, ⟨ta, pa, aT, aP, aS, aH, n9, zRep_up hR (Nat.le_succ k) (by omega)⟩, hP, hY, hD, hS, lv_sub hl [2, 3, 4, 5, 6] rfl⟩
    · exact absurd c_1027 (by rcases hr9 with rfl | rfl <;> decide)
  · exact absurd rfl c_1020

set_option maxHeartbeats 4000000 in
set_option maxRecDepth 100000 in
theorem st_covers_ok {p : Program} {l : Launch} {e : Env} {s : State} {m : MethodId} {below : List Frame} {meth : Method} {c : Code} {b Ln : Nat} {xs : Nat → Int32} {D : va_G} {ca : Nat → ClassId} {sa : Nat → Nat} (C : lw_C p l s m meth c b Ln xs D ca sa) {h0 hm ob : Nat} {ad : Nat → Nat} {k : Nat} {H : Heap} {locs : List Loc} {ls : Array Slot} {V : zV} {nc : Nat} {M : Nat → Nat → Int32} {th : Int32} {L : List Nat} {f : Nat → va_E} {g : Nat → Int64} (S : lw_S D ca s h0 hm ob b ad k (6 * k) H locs ls V nc M th L f g) (hk : k < 512) (hi : 6 * k + 6 ≤ Ln) {cells slots : Nat} {Q : State → Prop} (hroom : cells + 24 ≤ 601024 ∧ slots + 100 ≤ 7293034) {v1 v2 v3 v4 v5 : Int32} (e1 : xs (6 * k + 1) = v1) (e2 : xs (6 * k + 2) = v2) (e3 : xs (6 * k + 3) = v3) (e4 : xs (6 * k + 4) = v4) (e5 : xs (6 * k + 5) = v5) {mc ms : Nat} (hmc : mc ≤ 24) (hms : ms ≤ 100) {V' : zV} {nc' : Nat} {M' : Nat → Nat → Int32} {P : Int64 → zU → Prop} {bt : Bool} (hP9 : ∀ x u, P x u → x = bL bt ∧ zR u.1 u.2 ca h0 (k + 1) V') (hI : Inv V' nc' M' (k + 1)) (hC : ∀ sz, vx_Met l yL_covers wsL_covers ({ frames := 10, cells := mc, slots := ms, locals := 450 }) (va_Pc [.ref h0, .int v1, .int v2, .int v3, .int v4, .int v5, .ref ob] (zLp D L f ob g ca sa sz)) (va_Qi (fun (r : Int32) (u : zU × (Nat → Int64)) => r = nI 0 ∧ P (u.2 0) u.1) (fun u t => va_P D vwCl (oW ca ob u.2 ++ va_pl u.1.1 u.1.2) t.heap ∧ va_D (va_A (oW ca ob g ++ va_pl L f) sz) (oW ca ob u.2 ++ va_pl u.1.1 u.1.2)) (va_A (oW ca ob g ++ va_pl L f) sz)) zX0 mc ms (va_A (oW ca ob g ++ va_pl L f) sz)) (hM : ∀ sz, Met l yX5_covers wsX5_covers ({ frames := 9, cells := 0, slots := 0, locals := 360 }) (va_Pc [.ref hm, .int v1, .int v2, .int v3, .int v4, .int v5] (zMp D (mW hm ad ca th (vTd V) (vNt V) (vNp V) nc M) ca sa sz)) (va_Qi (fun (r : Int32) (_ : Unit) => r = bI bt) (fun _ t9 => va_P D vwCl (mW hm ad ca (nI 0) (vTd V') (vNt V') (vNp V') nc' M') t9.heap) (va_A (mW hm ad ca th (vTd V) (vNt V) (vNp V) nc M) sz)) 0 0 (va_A (mW hm ad ca th (vTd V) (vNt V) (vNp V) nc M) sz)) (kk : ∀ (V' : zV) (nc' : Nat) (M' : Nat → Nat → Int32) (th' : Int32) (L' : List Nat) (f' : Nat → va_E) (g' : Nat → Int64) (H1 : Heap) (locs1 : List Loc) (ls1 : Array Slot), lw_S D ca s h0 hm ob b ad (k + 1) (6 * k) H1 locs1 ls1 V' nc' M' th' L' f' g' → W p l e room_1 s m #[Value.ref b] below meth c H1 locs1 (cells + 24) (slots + 100) Q (F0 m 1551 ls1 [])) : W p l e room_1 s m #[Value.ref b] below meth c H locs cells slots Q (F0 m 1045 ls []) := by
  obtain ⟨⟨hx, hb, hml, hown, hts⟩, hX, hbl, hL3, hE, hN, hZ0, hl0⟩ := C
  obtain ⟨hI0, ⟨ta, pa, aT, aP, aS, aH, n9, hR⟩, hP, hY, hD, hS, hl⟩ := S
  have h4 := hR.1.1
  have hA : ∀ q : Nat, s.heap.size ≤ q → (fun q => s.heap.size ≤ q) q := fun _ h => h
  refine lv_aload_n hx hb dL_law_1045 rfl (lv_at hl 1 rfl) ?_
  refine lv_aload_n hx hb dL_law_1046 rfl (lv_at hl 0 rfl) ?_
  refine lv_iload hx hb dL_law_1047 (lv_at hl 4 rfl) ?_
  refine lv_iconst (v := nI 1) hx hb dL_law_1049 (by decide) ?_
  refine lv_iadd hx hb dL_law_1050 ?_
  refine zasi (show ((nI (6 * k)) + (nI 1)) = nI (6 * k + 1) from nI_add _ _) ?_
  refine zsl hx hb hX hbl hL3 hS (show 6 * k + 1 < Ln by omega) e1 dL_law_1051 ?_
  refine lv_aload_n hx hb dL_law_1052 rfl (lv_at hl 0 rfl) ?_
  refine lv_iload hx hb dL_law_1053 (lv_at hl 4 rfl) ?_
  refine lv_iconst (v := nI 2) hx hb dL_law_1055 (by decide) ?_
  refine lv_iadd hx hb dL_law_1056 ?_
  refine zasi (show ((nI (6 * k)) + (nI 2)) = nI (6 * k + 2) from nI_add _ _) ?_
  refine zsl hx hb hX hbl hL3 hS (show 6 * k + 2 < Ln by omega) e2 dL_law_1057 ?_
  refine lv_aload_n hx hb dL_law_1058 rfl (lv_at hl 0 rfl) ?_
  refine lv_iload hx hb dL_law_1059 (lv_at hl 4 rfl) ?_
  refine lv_iconst (v := nI 3) hx hb dL_law_1061 (by decide) ?_
  refine lv_iadd hx hb dL_law_1062 ?_
  refine zasi (show ((nI (6 * k)) + (nI 3)) = nI (6 * k + 3) from nI_add _ _) ?_
  refine zsl hx hb hX hbl hL3 hS (show 6 * k + 3 < Ln by omega) e3 dL_law_1063 ?_
  refine lv_aload_n hx hb dL_law_1064 rfl (lv_at hl 0 rfl) ?_
  refine lv_iload hx hb dL_law_1065 (lv_at hl 4 rfl) ?_
  refine lv_iconst (v := nI 4) hx hb dL_law_1067 (by decide) ?_
  refine lv_iadd hx hb dL_law_1068 ?_
  refine zasi (show ((nI (6 * k)) + (nI 4)) = nI (6 * k + 4) from nI_add _ _) ?_
  refine zsl hx hb hX hbl hL3 hS (show 6 * k + 4 < Ln by omega) e4 dL_law_1069 ?_
  refine lv_aload_n hx hb dL_law_1070 rfl (lv_at hl 0 rfl) ?_
  refine lv_iload hx hb dL_law_1071 (lv_at hl 4 rfl) ?_
  refine lv_iconst (v := nI 5) hx hb dL_law_1073 (by decide) ?_
  refine lv_iadd hx hb dL_law_1074 ?_
  refine zasi (show ((nI (6 * k)) + (nI 5)) = nI (6 * k + 5) from nI_add _ _) ?_
  refine zsl hx hb hX hbl hL3 hS (show 6 * k + 5 < Ln by omega) e5 dL_law_1075 ?_
  refine lv_aload_n hx hb dL_law_1076 rfl (lv_at hl 3 rfl) ?_
  refine zgo (vx_runSX (As := [.ref h0, .int v1, .int v2, .int v3, .int v4, .int v5, .ref ob]) (rest := []) ⟨hx, hb, hml, hown, hts⟩ (hC H.size) (vx_cwSW (bytes := cL_covers) (maxL := 8) (ret := some .int) (hh := [(0, 23, 26, 20), (0, 23, 30, 13)]) 7 hts gL_law_L_covers rfl rfl rfl (by decide +kernel) ⟨Nat.le_of_ble_eq_true rfl, Nat.le_of_ble_eq_true rfl⟩) (zLS hP (w2_l hD) hE hN (lwZ hZ0 hS) (fun q h => Nat.le_trans hS.1 h)) rfl rfl hl.1 rfl (lv_room (Nat.le_of_ble_eq_true rfl)) dL_law_1077 (by show _ ≤ 601024 ∧ _ ≤ 7293034; omega)) hY hD hS hA (fun u g1 H locs hu hP hY hD hS => ?_)
  obtain ⟨hv9, hR9⟩ := hP9 _ _ hu
  refine lv_istore (lv' := [(5, .int (nI 0)), (0, .ref b), (1, .ref h0), (2, .ref hm), (3, .ref ob), (4, .int (nI (6 * k)))]) hx hb dL_law_1080 hl (by decide) rfl (fun ls hl => ?_)
  refine lv_aload_n hx hb dL_law_1082 rfl (lv_at hl 3 rfl) ?_
  refine lv_aload_n hx hb dL_law_1083 rfl (lv_at hl 1 rfl) ?_
  refine lv_iload hx hb dL_law_1084 (lv_at hl 5 rfl) ?_
  refine lv_iconst (v := nI 1) hx hb dL_law_1086 (by decide) ?_
  refine lv_iadd hx hb dL_law_1087 ?_
  refine zasi (show ((nI (6 * k)) + (nI 1)) = nI (6 * k + 1) from nI_add _ _) ?_
  refine zsl hx hb hX hbl hL3 hS (show 6 * k + 1 < Ln by omega) e1 dL_law_1088 ?_
  refine lv_aload_n hx hb dL_law_1089 rfl (lv_at hl 1 rfl) ?_
  refine lv_iload hx hb dL_law_1090 (lv_at hl 5 rfl) ?_
  refine lv_iconst (v := nI 2) hx hb dL_law_1092 (by decide) ?_
  refine lv_iadd hx hb dL_law_1093 ?_
  refine zasi (show ((nI (6 * k)) + (nI 2)) = nI (6 * k + 2) from nI_add _ _) ?_
  refine zsl hx hb hX hbl hL3 hS (show 6 * k + 2 < Ln by omega) e2 dL_law_1094 ?_
  refine lv_aload_n hx hb dL_law_1095 rfl (lv_at hl 1 rfl) ?_
  refine lv_iload hx hb dL_law_1096 (lv_at hl 5 rfl) ?_
  refine lv_iconst (v := nI 3) hx hb dL_law_1098 (by decide) ?_
  refine lv_iadd hx hb dL_law_1099 ?_
  refine zasi (show ((nI (6 * k)) + (nI 3)) = nI (6 * k + 3) from nI_add _ _) ?_
  refine zsl hx hb hX hbl hL3 hS (show 6 * k + 3 < Ln by omega) e3 dL_law_1100 ?_
  refine lv_aload_n hx hb dL_law_1101 rfl (lv_at hl 1 rfl) ?_
  refine lv_iload hx hb dL_law_1102 (lv_at hl 5 rfl) ?_
  refine lv_iconst (v := nI 4) hx hb dL_law_1104 (by decide) ?_
  refine lv_iadd hx hb dL_law_1105 ?_
  refine zasi (show ((nI (6 * k)) + (nI 4)) = nI (6 * k + 4) from nI_add _ _) ?_
  refine zsl hx hb hX hbl hL3 hS (show 6 * k + 4 < Ln by omega) e4 dL_law_1106 ?_
  refine lv_aload_n hx hb dL_law_1107 rfl (lv_at hl 1 rfl) ?_
  refine lv_iload hx hb dL_law_1108 (lv_at hl 5 rfl) ?_
  refine lv_iconst (v := nI 5) hx hb dL_law_1110 (by decide) ?_
  refine lv_iadd hx hb dL_law_1111 ?_
  refine zasi (show ((nI (6 * k)) + (nI 5)) = nI (6 * k + 5) from nI_add _ _) ?_
  refine zsl hx hb hX hbl hL3 hS (show 6 * k + 5 < Ln by omega) e5 dL_law_1112 ?_
  refine zgm (va_runV (As := [.int v1, .int v2, .int v3, .int v4, .int v5]) (rest := []) ⟨hx, hb, hml, hown, hts⟩ (hM H.size) (cwV 5 hts gL_law_X5_covers rfl rfl rfl (by decide +kernel) ⟨Nat.le_of_ble_eq_true rfl, Nat.le_of_ble_eq_true rfl⟩) (zmV (q0 := 0) (ci := 5) hY (w2_r hD) hE rfl rfl) rfl rfl hl.1 rfl (lv_room (Nat.le_of_ble_eq_true rfl)) dL_law_1113 (by show _ ≤ 601024 ∧ _ ≤ 7293034; omega)) hP hD hS hA rfl (fun r H locs hr9b hP hY hD hS => ?_)
  subst hr9b
  refine lv_istore (lv' := [(6, .int (bI bt)), (5, .int (nI 0)), (0, .ref b), (1, .ref h0), (2, .ref hm), (3, .ref ob), (4, .int (nI (6 * k)))]) hx hb dL_law_1116 hl (by decide) rfl (fun ls hl => ?_)
  refine lv_aload_n hx hb dL_law_1118 rfl (lv_at hl 4 rfl) ?_
  refine zci (va_runV (As := []) (rest := []) ⟨hx, hb, hml, hown, hts⟩ (m_thrown l D ca sa hm ad _ _ _ _ _ _) (cwV 0 hts gL_law_X5_thrown rfl rfl rfl (by decide +kernel) ⟨Nat.le_of_ble_eq_true rfl, Nat.le_of_ble_eq_true rfl⟩) (zpV (q0 := 0) (ci := 5) hY hE rfl rfl) rfl rfl hl.1 rfl (lv_room (Nat.le_of_ble_eq_true rfl)) dL_law_1119 (by show _ ≤ 601024 ∧ _ ≤ 7293034; omega)) ?_
  refine lv_iload hx hb dL_law_1122 (lv_at hl 1 rfl) ?_
  refine lv_icmp_eq (tgt := 1129) hx hb dL_law_1124 (by decide) (fun c_1124 => ?_) (fun c_1124 => ?_)
  · refine lv_iload hx hb dL_law_1129 (lv_at hl 1 rfl) ?_
    refine lv_if_ne (tgt := 1153) hx hb dL_law_1131 (by decide) (fun c_1131 => ?_) (fun c_1131 => ?_)
    · exact absurd c_1131 (by decide)
    · refine lv_aload_n hx hb dL_law_1134 rfl (lv_at hl 5 rfl) ?_
      refine lv_iconst (v := nI 0) hx hb dL_law_1135 (by decide) ?_
      refine zol hx hb hE hP hv9 dL_law_1136 ?_
      refine lv_iload hx hb dL_law_1137 (lv_at hl 0 rfl) ?_
      refine lv_if_eq (tgt := 1146) hx hb dL_law_1139 (by decide) (fun c_1139 => ?_) (fun c_1139 => ?_)
      · refine lv_lconst (v := 0) hx hb dL_law_1146 (by decide) ?_
        refine W.lcmp hx hb dL_law_1147 ?_
        refine zasi (show (lg_cmp ((bL bt)) 0) = nI 0 from by rw [bI_eq0 c_1139]; exact zcmp _) ?_
        refine lv_if_eq (tgt := 1153) hx hb dL_law_1148 (by decide) (fun c_1148 => ?_) (fun c_1148 => ?_)
        · refine lv_goto (tgt := 1551) hx hb dL_law_1153 (by decide) ?_
          refine W.widen (k := cells + 24) (n := slots + 100) (by omega) (by omega) ?_
          exact kk V' nc' M' _ _ _ _ H locs ls ⟨hI, hR9, hP, hY, hD, hS, lv_sub hl [2, 3, 4, 5, 6] rfl⟩
        · exact absurd c_1148 (by decide)
      · refine lv_lconst (v := 1) hx hb dL_law_1142 (by decide) ?_
        refine lv_goto (tgt := 1147) hx hb dL_law_1143 (by decide) ?_
        refine W.lcmp hx hb dL_law_1147 ?_
        refine zasi (show (lg_cmp ((bL bt)) 1) = nI 0 from by rw [bI_ne0 c_1139]; exact zcmp _) ?_
        refine lv_if_eq (tgt := 1153) hx hb dL_law_1148 (by decide) (fun c_1148 => ?_) (fun c_1148 => ?_)
        · refine lv_goto (tgt := 1551) hx hb dL_law_1153 (by decide) ?_
          refine W.widen (k := cells + 24) (n := slots + 100) (by omega) (by omega) ?_
          exact kk V' nc' M' _ _ _ _ H locs ls ⟨hI, hR9, hP, hY, hD, hS, lv_sub hl [2, 3, 4, 5, 6] rfl⟩
        · exact absurd c_1148 (by decide)
  · exact absurd c_1124 (by decide)

set_option maxHeartbeats 4000000 in
set_option maxRecDepth 100000 in
theorem st_covers_x {p : Program} {l : Launch} {e : Env} {s : State} {m : MethodId} {below : List Frame} {meth : Method} {c : Code} {b Ln : Nat} {xs : Nat → Int32} {D : va_G} {ca : Nat → ClassId} {sa : Nat → Nat} (C : lw_C p l s m meth c b Ln xs D ca sa) {h0 hm ob : Nat} {ad : Nat → Nat} {k : Nat} {H : Heap} {locs : List Loc} {ls : Array Slot} {V : zV} {nc : Nat} {M : Nat → Nat → Int32} {th : Int32} {L : List Nat} {f : Nat → va_E} {g : Nat → Int64} (S : lw_S D ca s h0 hm ob b ad k (6 * k) H locs ls V nc M th L f g) (hk : k < 512) (hi : 6 * k + 6 ≤ Ln) {cells slots : Nat} {Q : State → Prop} (hroom : cells + 24 ≤ 601024 ∧ slots + 100 ≤ 7293034) {v1 v2 v3 v4 v5 : Int32} (e1 : xs (6 * k + 1) = v1) (e2 : xs (6 * k + 2) = v2) (e3 : xs (6 * k + 3) = v3) (e4 : xs (6 * k + 4) = v4) (e5 : xs (6 * k + 5) = v5) {mc ms : Nat} (hmc : mc ≤ 24) (hms : ms ≤ 100) {r9 : Int32} (hr9 : r9 = nI 1 ∨ r9 = nI 2) (hC : ∀ sz, vx_Met l yL_covers wsL_covers ({ frames := 10, cells := mc, slots := ms, locals := 450 }) (va_Pc [.ref h0, .int v1, .int v2, .int v3, .int v4, .int v5, .ref ob] (zLp D L f ob g ca sa sz)) (va_Qi (fun (r : Int32) (_ : Unit) => r = r9) (fun _ _ => True) (fun q => sz ≤ q)) zX0 mc ms (fun q => sz ≤ q)) (hM : ∀ sz, Met l yX5_covers wsX5_covers ({ frames := 9, cells := 0, slots := 0, locals := 360 }) (va_Pc [.ref hm, .int v1, .int v2, .int v3, .int v4, .int v5] (zMp D (mW hm ad ca th (vTd V) (vNt V) (vNp V) nc M) ca sa sz)) (va_Qi (fun (r : Int32) (_ : Unit) => True) (fun _ t9 => va_P D vwCl (mW hm ad ca r9 (vTd V) (vNt V) (vNp V) nc M) t9.heap) (va_A (mW hm ad ca th (vTd V) (vNt V) (vNp V) nc M) sz)) 0 0 (va_A (mW hm ad ca th (vTd V) (vNt V) (vNp V) nc M) sz)) (kk : ∀ (V' : zV) (nc' : Nat) (M' : Nat → Nat → Int32) (th' : Int32) (L' : List Nat) (f' : Nat → va_E) (g' : Nat → Int64) (H1 : Heap) (locs1 : List Loc) (ls1 : Array Slot), lw_S D ca s h0 hm ob b ad (k + 1) (6 * k) H1 locs1 ls1 V' nc' M' th' L' f' g' → W p l e room_1 s m #[Value.ref b] below meth c H1 locs1 (cells + 24) (slots + 100) Q (F0 m 1551 ls1 [])) : W p l e room_1 s m #[Value.ref b] below meth c H locs cells slots Q (F0 m 1045 ls []) := by
  obtain ⟨⟨hx, hb, hml, hown, hts⟩, hX, hbl, hL3, hE, hN, hZ0, hl0⟩ := C
  obtain ⟨hI0, ⟨ta, pa, aT, aP, aS, aH, n9, hR⟩, hP, hY, hD, hS, hl⟩ := S
  have h4 := hR.1.1
  have hA : ∀ q : Nat, s.heap.size ≤ q → (fun q => s.heap.size ≤ q) q := fun _ h => h
  refine lv_aload_n hx hb dL_law_1045 rfl (lv_at hl 1 rfl) ?_
  refine lv_aload_n hx hb dL_law_1046 rfl (lv_at hl 0 rfl) ?_
  refine lv_iload hx hb dL_law_1047 (lv_at hl 4 rfl) ?_
  refine lv_iconst (v := nI 1) hx hb dL_law_1049 (by decide) ?_
  refine lv_iadd hx hb dL_law_1050 ?_
  refine zasi (show ((nI (6 * k)) + (nI 1)) = nI (6 * k + 1) from nI_add _ _) ?_
  refine zsl hx hb hX hbl hL3 hS (show 6 * k + 1 < Ln by omega) e1 dL_law_1051 ?_
  refine lv_aload_n hx hb dL_law_1052 rfl (lv_at hl 0 rfl) ?_
  refine lv_iload hx hb dL_law_1053 (lv_at hl 4 rfl) ?_
  refine lv_iconst (v := nI 2) hx hb dL_law_1055 (by decide) ?_
  refine lv_iadd hx hb dL_law_1056 ?_
  refine zasi (show ((nI (6 * k)) + (nI 2)) = nI (6 * k + 2) from nI_add _ _) ?_
  refine zsl hx hb hX hbl hL3 hS (show 6 * k + 2 < Ln by omega) e2 dL_law_1057 ?_
  refine lv_aload_n hx hb dL_law_1058 rfl (lv_at hl 0 rfl) ?_
  refine lv_iload hx hb dL_law_1059 (lv_at hl 4 rfl) ?_
  refine lv_iconst (v := nI 3) hx hb dL_law_1061 (by decide) ?_
  refine lv_iadd hx hb dL_law_1062 ?_
  refine zasi (show ((nI (6 * k)) + (nI 3)) = nI (6 * k + 3) from nI_add _ _) ?_
  refine zsl hx hb hX hbl hL3 hS (show 6 * k + 3 < Ln by omega) e3 dL_law_1063 ?_
  refine lv_aload_n hx hb dL_law_1064 rfl (lv_at hl 0 rfl) ?_
  refine lv_iload hx hb dL_law_1065 (lv_at hl 4 rfl) ?_
  refine lv_iconst (v := nI 4) hx hb dL_law_1067 (by decide) ?_
  refine lv_iadd hx hb dL_law_1068 ?_
  refine zasi (show ((nI (6 * k)) + (nI 4)) = nI (6 * k + 4) from nI_add _ _) ?_
  refine zsl hx hb hX hbl hL3 hS (show 6 * k + 4 < Ln by omega) e4 dL_law_1069 ?_
  refine lv_aload_n hx hb dL_law_1070 rfl (lv_at hl 0 rfl) ?_
  refine lv_iload hx hb dL_law_1071 (lv_at hl 4 rfl) ?_
  refine lv_iconst (v := nI 5) hx hb dL_law_1073 (by decide) ?_
  refine lv_iadd hx hb dL_law_1074 ?_
  refine zasi (show ((nI (6 * k)) + (nI 5)) = nI (6 * k + 5) from nI_add _ _) ?_
  refine zsl hx hb hX hbl hL3 hS (show 6 * k + 5 < Ln by omega) e5 dL_law_1075 ?_
  refine lv_aload_n hx hb dL_law_1076 rfl (lv_at hl 3 rfl) ?_
  refine zgx (vx_runSX (As := [.ref h0, .int v1, .int v2, .int v3, .int v4, .int v5, .ref ob]) (rest := []) ⟨hx, hb, hml, hown, hts⟩ (hC H.size) (vx_cwSW (bytes := cL_covers) (maxL := 8) (ret := some .int) (hh := [(0, 23, 26, 20), (0, 23, 30, 13)]) 7 hts gL_law_L_covers rfl rfl rfl (by decide +kernel) ⟨Nat.le_of_ble_eq_true rfl, Nat.le_of_ble_eq_true rfl⟩) (zLS hP (w2_l hD) hE hN (lwZ hZ0 hS) (fun q h => Nat.le_trans hS.1 h)) rfl rfl hl.1 rfl (lv_room (Nat.le_of_ble_eq_true rfl)) dL_law_1077 (by show _ ≤ 601024 ∧ _ ≤ 7293034; omega)) hP hY hS hA (fun H locs hP hY hS => ?_)
  refine lv_istore (lv' := [(5, .int r9), (0, .ref b), (1, .ref h0), (2, .ref hm), (3, .ref ob), (4, .int (nI (6 * k)))]) hx hb dL_law_1080 hl (by decide) rfl (fun ls hl => ?_)
  refine lv_aload_n hx hb dL_law_1082 rfl (lv_at hl 3 rfl) ?_
  refine lv_aload_n hx hb dL_law_1083 rfl (lv_at hl 1 rfl) ?_
  refine lv_iload hx hb dL_law_1084 (lv_at hl 5 rfl) ?_
  refine lv_iconst (v := nI 1) hx hb dL_law_1086 (by decide) ?_
  refine lv_iadd hx hb dL_law_1087 ?_
  refine zasi (show ((nI (6 * k)) + (nI 1)) = nI (6 * k + 1) from nI_add _ _) ?_
  refine zsl hx hb hX hbl hL3 hS (show 6 * k + 1 < Ln by omega) e1 dL_law_1088 ?_
  refine lv_aload_n hx hb dL_law_1089 rfl (lv_at hl 1 rfl) ?_
  refine lv_iload hx hb dL_law_1090 (lv_at hl 5 rfl) ?_
  refine lv_iconst (v := nI 2) hx hb dL_law_1092 (by decide) ?_
  refine lv_iadd hx hb dL_law_1093 ?_
  refine zasi (show ((nI (6 * k)) + (nI 2)) = nI (6 * k + 2) from nI_add _ _) ?_
  refine zsl hx hb hX hbl hL3 hS (show 6 * k + 2 < Ln by omega) e2 dL_law_1094 ?_
  refine lv_aload_n hx hb dL_law_1095 rfl (lv_at hl 1 rfl) ?_
  refine lv_iload hx hb dL_law_1096 (lv_at hl 5 rfl) ?_
  refine lv_iconst (v := nI 3) hx hb dL_law_1098 (by decide) ?_
  refine lv_iadd hx hb dL_law_1099 ?_
  refine zasi (show ((nI (6 * k)) + (nI 3)) = nI (6 * k + 3) from nI_add _ _) ?_
  refine zsl hx hb hX hbl hL3 hS (show 6 * k + 3 < Ln by omega) e3 dL_law_1100 ?_
  refine lv_aload_n hx hb dL_law_1101 rfl (lv_at hl 1 rfl) ?_
  refine lv_iload hx hb dL_law_1102 (lv_at hl 5 rfl) ?_
  refine lv_iconst (v := nI 4) hx hb dL_law_1104 (by decide) ?_
  refine lv_iadd hx hb dL_law_1105 ?_
  refine zasi (show ((nI (6 * k)) + (nI 4)) = nI (6 * k + 4) from nI_add _ _) ?_
  refine zsl hx hb hX hbl hL3 hS (show 6 * k + 4 < Ln by omega) e4 dL_law_1106 ?_
  refine lv_aload_n hx hb dL_law_1107 rfl (lv_at hl 1 rfl) ?_
  refine lv_iload hx hb dL_law_1108 (lv_at hl 5 rfl) ?_
  refine lv_iconst (v := nI 5) hx hb dL_law_1110 (by decide) ?_
  refine lv_iadd hx hb dL_law_1111 ?_
  refine zasi (show ((nI (6 * k)) + (nI 5)) = nI (6 * k + 5) from nI_add _ _) ?_
  refine zsl hx hb hX hbl hL3 hS (show 6 * k + 5 < Ln by omega) e5 dL_law_1112 ?_
  refine zgm (va_runV (As := [.int v1, .int v2, .int v3, .int v4, .int v5]) (rest := []) ⟨hx, hb, hml, hown, hts⟩ (hM H.size) (cwV 5 hts gL_law_X5_covers rfl rfl rfl (by decide +kernel) ⟨Nat.le_of_ble_eq_true rfl, Nat.le_of_ble_eq_true rfl⟩) (zmV (q0 := 0) (ci := 5) hY (w2_r hD) hE rfl rfl) rfl rfl hl.1 rfl (lv_room (Nat.le_of_ble_eq_true rfl)) dL_law_1113 (by show _ ≤ 601024 ∧ _ ≤ 7293034; omega)) hP hD hS hA rfl (fun r H locs hr9b hP hY hD hS => ?_)
  refine lv_istore (lv' := [(6, .int r), (5, .int r9), (0, .ref b), (1, .ref h0), (2, .ref hm), (3, .ref ob), (4, .int (nI (6 * k)))]) hx hb dL_law_1116 hl (by decide) rfl (fun ls hl => ?_)
  refine lv_aload_n hx hb dL_law_1118 rfl (lv_at hl 4 rfl) ?_
  refine zci (va_runV (As := []) (rest := []) ⟨hx, hb, hml, hown, hts⟩ (m_thrown l D ca sa hm ad _ _ _ _ _ _) (cwV 0 hts gL_law_X5_thrown rfl rfl rfl (by decide +kernel) ⟨Nat.le_of_ble_eq_true rfl, Nat.le_of_ble_eq_true rfl⟩) (zpV (q0 := 0) (ci := 5) hY hE rfl rfl) rfl rfl hl.1 rfl (lv_room (Nat.le_of_ble_eq_true rfl)) dL_law_1119 (by show _ ≤ 601024 ∧ _ ≤ 7293034; omega)) ?_
  refine lv_iload hx hb dL_law_1122 (lv_at hl 1 rfl) ?_
  refine lv_icmp_eq (tgt := 1129) hx hb dL_law_1124 (by decide) (fun c_1124 => ?_) (fun c_1124 => ?_)
  · refine lv_iload hx hb dL_law_1129 (lv_at hl 1 rfl) ?_
    refine lv_if_ne (tgt := 1153) hx hb dL_law_1131 (by decide) (fun c_1131 => ?_) (fun c_1131 => ?_)
    · refine lv_goto (tgt := 1551) hx hb dL_law_1153 (by decide) ?_
      refine W.widen (k := cells + 24) (n := slots + 100) (by omega) (by omega) ?_
      exact kk V nc M _ _ _ _ H locs ls ⟨i_up hI0 hk, ⟨ta, pa, aT, aP, aS, aH, n9, zRep_up hR (Nat.le_succ k) (by omega)⟩, hP, hY, hD, hS, lv_sub hl [2, 3, 4, 5, 6] rfl⟩
    · exact absurd c_1131 (by rcases hr9 with rfl | rfl <;> decide)
  · exact absurd rfl c_1124

set_option maxHeartbeats 4000000 in
set_option maxRecDepth 100000 in
theorem st_ways_ok {p : Program} {l : Launch} {e : Env} {s : State} {m : MethodId} {below : List Frame} {meth : Method} {c : Code} {b Ln : Nat} {xs : Nat → Int32} {D : va_G} {ca : Nat → ClassId} {sa : Nat → Nat} (C : lw_C p l s m meth c b Ln xs D ca sa) {h0 hm ob : Nat} {ad : Nat → Nat} {k : Nat} {H : Heap} {locs : List Loc} {ls : Array Slot} {V : zV} {nc : Nat} {M : Nat → Nat → Int32} {th : Int32} {L : List Nat} {f : Nat → va_E} {g : Nat → Int64} (S : lw_S D ca s h0 hm ob b ad k (6 * k) H locs ls V nc M th L f g) (hk : k < 512) (hi : 6 * k + 6 ≤ Ln) {cells slots : Nat} {Q : State → Prop} (hroom : cells + 24 ≤ 601024 ∧ slots + 100 ≤ 7293034) {v1 v2 v3 v4 : Int32} (e1 : xs (6 * k + 1) = v1) (e2 : xs (6 * k + 2) = v2) (e3 : xs (6 * k + 3) = v3) (e4 : xs (6 * k + 4) = v4) {mc ms : Nat} (hmc : mc ≤ 24) (hms : ms ≤ 100) {V' : zV} {nc' : Nat} {M' : Nat → Nat → Int32} {P : Int64 → zU → Prop} {val : Int32} (hP9 : ∀ x u, P x u → x = val.toInt64 ∧ zR u.1 u.2 ca h0 (k + 1) V') (hI : Inv V' nc' M' (k + 1)) (hC : ∀ sz, vx_Met l yL_ways wsL_ways ({ frames := 10, cells := mc, slots := ms, locals := 450 }) (va_Pc [.ref h0, .int v1, .int v2, .int v3, .int v4, .ref ob] (zLp D L f ob g ca sa sz)) (va_Qi (fun (r : Int32) (u : zU × (Nat → Int64)) => r = nI 0 ∧ P (u.2 0) u.1) (fun u t => va_P D vwCl (oW ca ob u.2 ++ va_pl u.1.1 u.1.2) t.heap ∧ va_D (va_A (oW ca ob g ++ va_pl L f) sz) (oW ca ob u.2 ++ va_pl u.1.1 u.1.2)) (va_A (oW ca ob g ++ va_pl L f) sz)) zX0 mc ms (va_A (oW ca ob g ++ va_pl L f) sz)) (hM : ∀ sz, Met l yX5_ways wsX5_ways ({ frames := 9, cells := 0, slots := 0, locals := 360 }) (va_Pc [.ref hm, .int v1, .int v2, .int v3, .int v4] (zMp D (mW hm ad ca th (vTd V) (vNt V) (vNp V) nc M) ca sa sz)) (va_Qi (fun (r : Int32) (_ : Unit) => r = val) (fun _ t9 => va_P D vwCl (mW hm ad ca (nI 0) (vTd V') (vNt V') (vNp V') nc' M') t9.heap) (va_A (mW hm ad ca th (vTd V) (vNt V) (vNp V) nc M) sz)) 0 0 (va_A (mW hm ad ca th (vTd V) (vNt V) (vNp V) nc M) sz)) (kk : ∀ (V' : zV) (nc' : Nat) (M' : Nat → Nat → Int32) (th' : Int32) (L' : List Nat) (f' : Nat → va_E) (g' : Nat → Int64) (H1 : Heap) (locs1 : List Loc) (ls1 : Array Slot), lw_S D ca s h0 hm ob b ad (k + 1) (6 * k) H1 locs1 ls1 V' nc' M' th' L' f' g' → W p l e room_1 s m #[Value.ref b] below meth c H1 locs1 (cells + 24) (slots + 100) Q (F0 m 1551 ls1 [])) : W p l e room_1 s m #[Value.ref b] below meth c H locs cells slots Q (F0 m 1156 ls []) := by
  obtain ⟨⟨hx, hb, hml, hown, hts⟩, hX, hbl, hL3, hE, hN, hZ0, hl0⟩ := C
  obtain ⟨hI0, ⟨ta, pa, aT, aP, aS, aH, n9, hR⟩, hP, hY, hD, hS, hl⟩ := S
  have h4 := hR.1.1
  have hA : ∀ q : Nat, s.heap.size ≤ q → (fun q => s.heap.size ≤ q) q := fun _ h => h
  refine lv_aload_n hx hb dL_law_1156 rfl (lv_at hl 1 rfl) ?_
  refine lv_aload_n hx hb dL_law_1157 rfl (lv_at hl 0 rfl) ?_
  refine lv_iload hx hb dL_law_1158 (lv_at hl 4 rfl) ?_
  refine lv_iconst (v := nI 1) hx hb dL_law_1160 (by decide) ?_
  refine lv_iadd hx hb dL_law_1161 ?_
  refine zasi (show ((nI (6 * k)) + (nI 1)) = nI (6 * k + 1) from nI_add _ _) ?_
  refine zsl hx hb hX hbl hL3 hS (show 6 * k + 1 < Ln by omega) e1 dL_law_1162 ?_
  refine lv_aload_n hx hb dL_law_1163 rfl (lv_at hl 0 rfl) ?_
  refine lv_iload hx hb dL_law_1164 (lv_at hl 4 rfl) ?_
  refine lv_iconst (v := nI 2) hx hb dL_law_1166 (by decide) ?_
  refine lv_iadd hx hb dL_law_1167 ?_
  refine zasi (show ((nI (6 * k)) + (nI 2)) = nI (6 * k + 2) from nI_add _ _) ?_
  refine zsl hx hb hX hbl hL3 hS (show 6 * k + 2 < Ln by omega) e2 dL_law_1168 ?_
  refine lv_aload_n hx hb dL_law_1169 rfl (lv_at hl 0 rfl) ?_
  refine lv_iload hx hb dL_law_1170 (lv_at hl 4 rfl) ?_
  refine lv_iconst (v := nI 3) hx hb dL_law_1172 (by decide) ?_
  refine lv_iadd hx hb dL_law_1173 ?_
  refine zasi (show ((nI (6 * k)) + (nI 3)) = nI (6 * k + 3) from nI_add _ _) ?_
  refine zsl hx hb hX hbl hL3 hS (show 6 * k + 3 < Ln by omega) e3 dL_law_1174 ?_
  refine lv_aload_n hx hb dL_law_1175 rfl (lv_at hl 0 rfl) ?_
  refine lv_iload hx hb dL_law_1176 (lv_at hl 4 rfl) ?_
  refine lv_iconst (v := nI 4) hx hb dL_law_1178 (by decide) ?_
  refine lv_iadd hx hb dL_law_1179 ?_
  refine zasi (show ((nI (6 * k)) + (nI 4)) = nI (6 * k + 4) from nI_add _ _) ?_
  refine zsl hx hb hX hbl hL3 hS (show 6 * k + 4 < Ln by omega) e4 dL_law_1180 ?_
  refine lv_aload_n hx hb dL_law_1181 rfl (lv_at hl 3 rfl) ?_
  refine zgo (vx_runSX (As := [.ref h0, .int v1, .int v2, .int v3, .int v4, .ref ob]) (rest := []) ⟨hx, hb, hml, hown, hts⟩ (hC H.size) (vx_cwSW (bytes := cL_ways) (maxL := 7) (ret := some .int) (hh := [(0, 14, 17, 20), (0, 14, 21, 13)]) 6 hts gL_law_L_ways rfl rfl rfl (by decide +kernel) ⟨Nat.le_of_ble_eq_true rfl, Nat.le_of_ble_eq_true rfl⟩) (zLS hP (w2_l hD) hE hN (lwZ hZ0 hS) (fun q h => Nat.le_trans hS.1 h)) rfl rfl hl.1 rfl (lv_room (Nat.le_of_ble_eq_true rfl)) dL_law_1182 (by show _ ≤ 601024 ∧ _ ≤ 7293034; omega)) hY hD hS hA (fun u g1 H locs hu hP hY hD hS => ?_)
  obtain ⟨hv9, hR9⟩ := hP9 _ _ hu
  refine lv_istore (lv' := [(5, .int (nI 0)), (0, .ref b), (1, .ref h0), (2, .ref hm), (3, .ref ob), (4, .int (nI (6 * k)))]) hx hb dL_law_1185 hl (by decide) rfl (fun ls hl => ?_)
  refine lv_aload_n hx hb dL_law_1187 rfl (lv_at hl 3 rfl) ?_
  refine lv_aload_n hx hb dL_law_1188 rfl (lv_at hl 1 rfl) ?_
  refine lv_iload hx hb dL_law_1189 (lv_at hl 5 rfl) ?_
  refine lv_iconst (v := nI 1) hx hb dL_law_1191 (by decide) ?_
  refine lv_iadd hx hb dL_law_1192 ?_
  refine zasi (show ((nI (6 * k)) + (nI 1)) = nI (6 * k + 1) from nI_add _ _) ?_
  refine zsl hx hb hX hbl hL3 hS (show 6 * k + 1 < Ln by omega) e1 dL_law_1193 ?_
  refine lv_aload_n hx hb dL_law_1194 rfl (lv_at hl 1 rfl) ?_
  refine lv_iload hx hb dL_law_1195 (lv_at hl 5 rfl) ?_
  refine lv_iconst (v := nI 2) hx hb dL_law_1197 (by decide) ?_
  refine lv_iadd hx hb dL_law_1198 ?_
  refine zasi (show ((nI (6 * k)) + (nI 2)) = nI (6 * k + 2) from nI_add _ _) ?_
  refine zsl hx hb hX hbl hL3 hS (show 6 * k + 2 < Ln by omega) e2 dL_law_1199 ?_
  refine lv_aload_n hx hb dL_law_1200 rfl (lv_at hl 1 rfl) ?_
  refine lv_iload hx hb dL_law_1201 (lv_at hl 5 rfl) ?_
  refine lv_iconst (v := nI 3) hx hb dL_law_1203 (by decide) ?_
  refine lv_iadd hx hb dL_law_1204 ?_
  refine zasi (show ((nI (6 * k)) + (nI 3)) = nI (6 * k + 3) from nI_add _ _) ?_
  refine zsl hx hb hX hbl hL3 hS (show 6 * k + 3 < Ln by omega) e3 dL_law_1205 ?_
  refine lv_aload_n hx hb dL_law_1206 rfl (lv_at hl 1 rfl) ?_
  refine lv_iload hx hb dL_law_1207 (lv_at hl 5 rfl) ?_
  refine lv_iconst (v := nI 4) hx hb dL_law_1209 (by decide) ?_
  refine lv_iadd hx hb dL_law_1210 ?_
  refine zasi (show ((nI (6 * k)) + (nI 4)) = nI (6 * k + 4) from nI_add _ _) ?_
  refine zsl hx hb hX hbl hL3 hS (show 6 * k + 4 < Ln by omega) e4 dL_law_1211 ?_
  refine zgm (va_runV (As := [.int v1, .int v2, .int v3, .int v4]) (rest := []) ⟨hx, hb, hml, hown, hts⟩ (hM H.size) (cwV 4 hts gL_law_X5_ways rfl rfl rfl (by decide +kernel) ⟨Nat.le_of_ble_eq_true rfl, Nat.le_of_ble_eq_true rfl⟩) (zmV (q0 := 0) (ci := 5) hY (w2_r hD) hE rfl rfl) rfl rfl hl.1 rfl (lv_room (Nat.le_of_ble_eq_true rfl)) dL_law_1212 (by show _ ≤ 601024 ∧ _ ≤ 7293034; omega)) hP hD hS hA rfl (fun r H locs hr9b hP hY hD hS => ?_)
  rw [show r = val from hr9b]
  refine lv_istore (lv' := [(6, .int val), (5, .int (nI 0)), (0, .ref b), (1, .ref h0), (2, .ref hm), (3, .ref ob), (4, .int (nI (6 * k)))]) hx hb dL_law_1215 hl (by decide) rfl (fun ls hl => ?_)
  refine lv_aload_n hx hb dL_law_1217 rfl (lv_at hl 4 rfl) ?_
  refine zci (va_runV (As := []) (rest := []) ⟨hx, hb, hml, hown, hts⟩ (m_thrown l D ca sa hm ad _ _ _ _ _ _) (cwV 0 hts gL_law_X5_thrown rfl rfl rfl (by decide +kernel) ⟨Nat.le_of_ble_eq_true rfl, Nat.le_of_ble_eq_true rfl⟩) (zpV (q0 := 0) (ci := 5) hY hE rfl rfl) rfl rfl hl.1 rfl (lv_room (Nat.le_of_ble_eq_true rfl)) dL_law_1218 (by show _ ≤ 601024 ∧ _ ≤ 7293034; omega)) ?_
  refine lv_iload hx hb dL_law_1221 (lv_at hl 1 rfl) ?_
  refine lv_icmp_eq (tgt := 1228) hx hb dL_law_1223 (by decide) (fun c_1223 => ?_) (fun c_1223 => ?_)
  · refine lv_iload hx hb dL_law_1228 (lv_at hl 1 rfl) ?_
    refine lv_if_ne (tgt := 1245) hx hb dL_law_1230 (by decide) (fun c_1230 => ?_) (fun c_1230 => ?_)
    · exact absurd c_1230 (by decide)
    · refine lv_aload_n hx hb dL_law_1233 rfl (lv_at hl 5 rfl) ?_
      refine lv_iconst (v := nI 0) hx hb dL_law_1234 (by decide) ?_
      refine zol hx hb hE hP hv9 dL_law_1235 ?_
      refine lv_iload hx hb dL_law_1236 (lv_at hl 0 rfl) ?_
      refine lv_i2l hx hb dL_law_1238 rfl ?_
      refine W.lcmp hx hb dL_law_1239 ?_
      refine zasi (show (lg_cmp (val.toInt64) (val.toInt64)) = nI 0 from zcmp _) ?_
      refine lv_if_eq (tgt := 1245) hx hb dL_law_1240 (by decide) (fun c_1240 => ?_) (fun c_1240 => ?_)
      · refine lv_goto (tgt := 1551) hx hb dL_law_1245 (by decide) ?_
        refine W.widen (k := cells + 24) (n := slots + 100) (by omega) (by omega) ?_
        exact kk V' nc' M' _ _ _ _ H locs ls ⟨hI, hR9, hP, hY, hD, hS, lv_sub hl [2, 3, 4, 5, 6] rfl⟩
      · exact absurd c_1240 (by decide)
  · exact absurd c_1223 (by decide)

set_option maxHeartbeats 4000000 in
set_option maxRecDepth 100000 in
theorem st_ways_x {p : Program} {l : Launch} {e : Env} {s : State} {m : MethodId} {below : List Frame} {meth : Method} {c : Code} {b Ln : Nat} {xs : Nat → Int32} {D : va_G} {ca : Nat → ClassId} {sa : Nat → Nat} (C : lw_C p l s m meth c b Ln xs D ca sa) {h0 hm ob : Nat} {ad : Nat → Nat} {k : Nat} {H : Heap} {locs : List Loc} {ls : Array Slot} {V : zV} {nc : Nat} {M : Nat → Nat → Int32} {th : Int32} {L : List Nat} {f : Nat → va_E} {g : Nat → Int64} (S : lw_S D ca s h0 hm ob b ad k (6 * k) H locs ls V nc M th L f g) (hk : k < 512) (hi : 6 * k + 6 ≤ Ln) {cells slots : Nat} {Q : State → Prop} (hroom : cells + 24 ≤ 601024 ∧ slots + 100 ≤ 7293034) {v1 v2 v3 v4 : Int32} (e1 : xs (6 * k + 1) = v1) (e2 : xs (6 * k + 2) = v2) (e3 : xs (6 * k + 3) = v3) (e4 : xs (6 * k + 4) = v4) {mc ms : Nat} (hmc : mc ≤ 24) (hms : ms ≤ 100) {r9 : Int32} (hr9 : r9 = nI 1 ∨ r9 = nI 2) (hC : ∀ sz, vx_Met l yL_ways wsL_ways ({ frames := 10, cells := mc, slots := ms, locals := 450 }) (va_Pc [.ref h0, .int v1, .int v2, .int v3, .int v4, .ref ob] (zLp D L f ob g ca sa sz)) (va_Qi (fun (r : Int32) (_ : Unit) => r = r9) (fun _ _ => True) (fun q => sz ≤ q)) zX0 mc ms (fun q => sz ≤ q)) (hM : ∀ sz, Met l yX5_ways wsX5_ways ({ frames := 9, cells := 0, slots := 0, locals := 360 }) (va_Pc [.ref hm, .int v1, .int v2, .int v3, .int v4] (zMp D (mW hm ad ca th (vTd V) (vNt V) (vNp V) nc M) ca sa sz)) (va_Qi (fun (r : Int32) (_ : Unit) => True) (fun _ t9 => va_P D vwCl (mW hm ad ca r9 (vTd V) (vNt V) (vNp V) nc M) t9.heap) (va_A (mW hm ad ca th (vTd V) (vNt V) (vNp V) nc M) sz)) 0 0 (va_A (mW hm ad ca th (vTd V) (vNt V) (vNp V) nc M) sz)) (kk : ∀ (V' : zV) (nc' : Nat) (M' : Nat → Nat → Int32) (th' : Int32) (L' : List Nat) (f' : Nat → va_E) (g' : Nat → Int64) (H1 : Heap) (locs1 : List Loc) (ls1 : Array Slot), lw_S D ca s h0 hm ob b ad (k + 1) (6 * k) H1 locs1 ls1 V' nc' M' th' L' f' g' → W p l e room_1 s m #[Value.ref b] below meth c H1 locs1 (cells + 24) (slots + 100) Q (F0 m 1551 ls1 [])) : W p l e room_1 s m #[Value.ref b] below meth c H locs cells slots Q (F0 m 1156 ls []) := by
  obtain ⟨⟨hx, hb, hml, hown, hts⟩, hX, hbl, hL3, hE, hN, hZ0, hl0⟩ := C
  obtain ⟨hI0, ⟨ta, pa, aT, aP, aS, aH, n9, hR⟩, hP, hY, hD, hS, hl⟩ := S
  have h4 := hR.1.1
  have hA : ∀ q : Nat, s.heap.size ≤ q → (fun q => s.heap.size ≤ q) q := fun _ h => h
  refine lv_aload_n hx hb dL_law_1156 rfl (lv_at hl 1 rfl) ?_
  refine lv_aload_n hx hb dL_law_1157 rfl (lv_at hl 0 rfl) ?_
  refine lv_iload hx hb dL_law_1158 (lv_at hl 4 rfl) ?_
  refine lv_iconst (v := nI 1) hx hb dL_law_1160 (by decide) ?_
  refine lv_iadd hx hb dL_law_1161 ?_
  refine zasi (show ((nI (6 * k)) + (nI 1)) = nI (6 * k + 1) from nI_add _ _) ?_
  refine zsl hx hb hX hbl hL3 hS (show 6 * k + 1 < Ln by omega) e1 dL_law_1162 ?_
  refine lv_aload_n hx hb dL_law_1163 rfl (lv_at hl 0 rfl) ?_
  refine lv_iload hx hb dL_law_1164 (lv_at hl 4 rfl) ?_
  refine lv_iconst (v := nI 2) hx hb dL_law_1166 (by decide) ?_
  refine lv_iadd hx hb dL_law_1167 ?_
  refine zasi (show ((nI (6 * k)) + (nI 2)) = nI (6 * k + 2) from nI_add _ _) ?_
  refine zsl hx hb hX hbl hL3 hS (show 6 * k + 2 < Ln by omega) e2 dL_law_1168 ?_
  refine lv_aload_n hx hb dL_law_1169 rfl (lv_at hl 0 rfl) ?_
  refine lv_iload hx hb dL_law_1170 (lv_at hl 4 rfl) ?_
  refine lv_iconst (v := nI 3) hx hb dL_law_1172 (by decide) ?_
  refine lv_iadd hx hb dL_law_1173 ?_
  refine zasi (show ((nI (6 * k)) + (nI 3)) = nI (6 * k + 3) from nI_add _ _) ?_
  refine zsl hx hb hX hbl hL3 hS (show 6 * k + 3 < Ln by omega) e3 dL_law_1174 ?_
  refine lv_aload_n hx hb dL_law_1175 rfl (lv_at hl 0 rfl) ?_
  refine lv_iload hx hb dL_law_1176 (lv_at hl 4 rfl) ?_
  refine lv_iconst (v := nI 4) hx hb dL_law_1178 (by decide) ?_
  refine lv_iadd hx hb dL_law_1179 ?_
  refine zasi (show ((nI (6 * k)) + (nI 4)) = nI (6 * k + 4) from nI_add _ _) ?_
  refine zsl hx hb hX hbl hL3 hS (show 6 * k + 4 < Ln by omega) e4 dL_law_1180 ?_
  refine lv_aload_n hx hb dL_law_1181 rfl (lv_at hl 3 rfl) ?_
  refine zgx (vx_runSX (As := [.ref h0, .int v1, .int v2, .int v3, .int v4, .ref ob]) (rest := []) ⟨hx, hb, hml, hown, hts⟩ (hC H.size) (vx_cwSW (bytes := cL_ways) (maxL := 7) (ret := some .int) (hh := [(0, 14, 17, 20), (0, 14, 21, 13)]) 6 hts gL_law_L_ways rfl rfl rfl (by decide +kernel) ⟨Nat.le_of_ble_eq_true rfl, Nat.le_of_ble_eq_true rfl⟩) (zLS hP (w2_l hD) hE hN (lwZ hZ0 hS) (fun q h => Nat.le_trans hS.1 h)) rfl rfl hl.1 rfl (lv_room (Nat.le_of_ble_eq_true rfl)) dL_law_1182 (by show _ ≤ 601024 ∧ _ ≤ 7293034; omega)) hP hY hS hA (fun H locs hP hY hS => ?_)
  refine lv_istore (lv' := [(5, .int r9), (0, .ref b), (1, .ref h0), (2, .ref hm), (3, .ref ob), (4, .int (nI (6 * k)))]) hx hb dL_law_1185 hl (by decide) rfl (fun ls hl => ?_)
  refine lv_aload_n hx hb dL_law_1187 rfl (lv_at hl 3 rfl) ?_
  refine lv_aload_n hx hb dL_law_1188 rfl (lv_at hl 1 rfl) ?_
  refine lv_iload hx hb dL_law_1189 (lv_at hl 5 rfl) ?_
  refine lv_iconst (v := nI 1) hx hb dL_law_1191 (by decide) ?_
  refine lv_iadd hx hb dL_law_1192 ?_
  refine zasi (show ((nI (6 * k)) + (nI 1)) = nI (6 * k + 1) from nI_add _ _) ?_
  refine zsl hx hb hX hbl hL3 hS (show 6 * k + 1 < Ln by omega) e1 dL_law_1193 ?_
  refine lv_aload_n hx hb dL_law_1194 rfl (lv_at hl 1 rfl) ?_
  refine lv_iload hx hb dL_law_1195 (lv_at hl 5 rfl) ?_
  refine lv_iconst (v := nI 2) hx hb dL_law_1197 (by decide) ?_
  refine lv_iadd hx hb dL_law_1198 ?_
  refine zasi (show ((nI (6 * k)) + (nI 2)) = nI (6 * k + 2) from nI_add _ _) ?_
  refine zsl hx hb hX hbl hL3 hS (show 6 * k + 2 < Ln by omega) e2 dL_law_1199 ?_
  refine lv_aload_n hx hb dL_law_1200 rfl (lv_at hl 1 rfl) ?_
  refine lv_iload hx hb dL_law_1201 (lv_at hl 5 rfl) ?_
  refine lv_iconst (v := nI 3) hx hb dL_law_1203 (by decide) ?_
  refine lv_iadd hx hb dL_law_1204 ?_
  refine zasi (show ((nI (6 * k)) + (nI 3)) = nI (6 * k + 3) from nI_add _ _) ?_
  refine zsl hx hb hX hbl hL3 hS (show 6 * k + 3 < Ln by omega) e3 dL_law_1205 ?_
  refine lv_aload_n hx hb dL_law_1206 rfl (lv_at hl 1 rfl) ?_
  refine lv_iload hx hb dL_law_1207 (lv_at hl 5 rfl) ?_
  refine lv_iconst (v := nI 4) hx hb dL_law_1209 (by decide) ?_
  refine lv_iadd hx hb dL_law_1210 ?_
  refine zasi (show ((nI (6 * k)) + (nI 4)) = nI (6 * k + 4) from nI_add _ _) ?_
  refine zsl hx hb hX hbl hL3 hS (show 6 * k + 4 < Ln by omega) e4 dL_law_1211 ?_
  refine zgm (va_runV (As := [.int v1, .int v2, .int v3, .int v4]) (rest := []) ⟨hx, hb, hml, hown, hts⟩ (hM H.size) (cwV 4 hts gL_law_X5_ways rfl rfl rfl (by decide +kernel) ⟨Nat.le_of_ble_eq_true rfl, Nat.le_of_ble_eq_true rfl⟩) (zmV (q0 := 0) (ci := 5) hY (w2_r hD) hE rfl rfl) rfl rfl hl.1 rfl (lv_room (Nat.le_of_ble_eq_true rfl)) dL_law_1212 (by show _ ≤ 601024 ∧ _ ≤ 7293034; omega)) hP hD hS hA rfl (fun r H locs hr9b hP hY hD hS => ?_)
  refine lv_istore (lv' := [(6, .int r), (5, .int r9), (0, .ref b), (1, .ref h0), (2, .ref hm), (3, .ref ob), (4, .int (nI (6 * k)))]) hx hb dL_law_1215 hl (by decide) rfl (fun ls hl => ?_)
  refine lv_aload_n hx hb dL_law_1217 rfl (lv_at hl 4 rfl) ?_
  refine zci (va_runV (As := []) (rest := []) ⟨hx, hb, hml, hown, hts⟩ (m_thrown l D ca sa hm ad _ _ _ _ _ _) (cwV 0 hts gL_law_X5_thrown rfl rfl rfl (by decide +kernel) ⟨Nat.le_of_ble_eq_true rfl, Nat.le_of_ble_eq_true rfl⟩) (zpV (q0 := 0) (ci := 5) hY hE rfl rfl) rfl rfl hl.1 rfl (lv_room (Nat.le_of_ble_eq_true rfl)) dL_law_1218 (by show _ ≤ 601024 ∧ _ ≤ 7293034; omega)) ?_
  refine lv_iload hx hb dL_law_1221 (lv_at hl 1 rfl) ?_
  refine lv_icmp_eq (tgt := 1228) hx hb dL_law_1223 (by decide) (fun c_1223 => ?_) (fun c_1223 => ?_)
  · refine lv_iload hx hb dL_law_1228 (lv_at hl 1 rfl) ?_
    refine lv_if_ne (tgt := 1245) hx hb dL_law_1230 (by decide) (fun c_1230 => ?_) (fun c_1230 => ?_)
    · refine lv_goto (tgt := 1551) hx hb dL_law_1245 (by decide) ?_
      refine W.widen (k := cells + 24) (n := slots + 100) (by omega) (by omega) ?_
      exact kk V nc M _ _ _ _ H locs ls ⟨i_up hI0 hk, ⟨ta, pa, aT, aP, aS, aH, n9, zRep_up hR (Nat.le_succ k) (by omega)⟩, hP, hY, hD, hS, lv_sub hl [2, 3, 4, 5, 6] rfl⟩
    · exact absurd c_1230 (by rcases hr9 with rfl | rfl <;> decide)
  · exact absurd rfl c_1223

set_option maxHeartbeats 4000000 in
set_option maxRecDepth 100000 in
theorem st_wayAt_ok {p : Program} {l : Launch} {e : Env} {s : State} {m : MethodId} {below : List Frame} {meth : Method} {c : Code} {b Ln : Nat} {xs : Nat → Int32} {D : va_G} {ca : Nat → ClassId} {sa : Nat → Nat} (C : lw_C p l s m meth c b Ln xs D ca sa) {h0 hm ob : Nat} {ad : Nat → Nat} {k : Nat} {H : Heap} {locs : List Loc} {ls : Array Slot} {V : zV} {nc : Nat} {M : Nat → Nat → Int32} {th : Int32} {L : List Nat} {f : Nat → va_E} {g : Nat → Int64} (S : lw_S D ca s h0 hm ob b ad k (6 * k) H locs ls V nc M th L f g) (hk : k < 512) (hi : 6 * k + 6 ≤ Ln) {cells slots : Nat} {Q : State → Prop} (hroom : cells + 24 ≤ 601024 ∧ slots + 100 ≤ 7293034) {v1 v2 v3 v4 v5 : Int32} (e1 : xs (6 * k + 1) = v1) (e2 : xs (6 * k + 2) = v2) (e3 : xs (6 * k + 3) = v3) (e4 : xs (6 * k + 4) = v4) (e5 : xs (6 * k + 5) = v5) {mc ms : Nat} (hmc : mc ≤ 24) (hms : ms ≤ 100) {V' : zV} {nc' : Nat} {M' : Nat → Nat → Int32} {P : Int64 → zU → Prop} {val : Int32} (hP9 : ∀ x u, P x u → x = val.toInt64 ∧ zR u.1 u.2 ca h0 (k + 1) V') (hI : Inv V' nc' M' (k + 1)) (hC : ∀ sz, vx_Met l yL_wayAt wsL_wayAt ({ frames := 10, cells := mc, slots := ms, locals := 450 }) (va_Pc [.ref h0, .int v1, .int v2, .int v3, .int v4, .int v5, .ref ob] (zLp D L f ob g ca sa sz)) (va_Qi (fun (r : Int32) (u : zU × (Nat → Int64)) => r = nI 0 ∧ P (u.2 0) u.1) (fun u t => va_P D vwCl (oW ca ob u.2 ++ va_pl u.1.1 u.1.2) t.heap ∧ va_D (va_A (oW ca ob g ++ va_pl L f) sz) (oW ca ob u.2 ++ va_pl u.1.1 u.1.2)) (va_A (oW ca ob g ++ va_pl L f) sz)) zX0 mc ms (va_A (oW ca ob g ++ va_pl L f) sz)) (hM : ∀ sz, Met l yX5_wayAt wsX5_wayAt ({ frames := 9, cells := 0, slots := 0, locals := 360 }) (va_Pc [.ref hm, .int v1, .int v2, .int v3, .int v4, .int v5] (zMp D (mW hm ad ca th (vTd V) (vNt V) (vNp V) nc M) ca sa sz)) (va_Qi (fun (r : Int32) (_ : Unit) => r = val) (fun _ t9 => va_P D vwCl (mW hm ad ca (nI 0) (vTd V') (vNt V') (vNp V') nc' M') t9.heap) (va_A (mW hm ad ca th (vTd V) (vNt V) (vNp V) nc M) sz)) 0 0 (va_A (mW hm ad ca th (vTd V) (vNt V) (vNp V) nc M) sz)) (kk : ∀ (V' : zV) (nc' : Nat) (M' : Nat → Nat → Int32) (th' : Int32) (L' : List Nat) (f' : Nat → va_E) (g' : Nat → Int64) (H1 : Heap) (locs1 : List Loc) (ls1 : Array Slot), lw_S D ca s h0 hm ob b ad (k + 1) (6 * k) H1 locs1 ls1 V' nc' M' th' L' f' g' → W p l e room_1 s m #[Value.ref b] below meth c H1 locs1 (cells + 24) (slots + 100) Q (F0 m 1551 ls1 [])) : W p l e room_1 s m #[Value.ref b] below meth c H locs cells slots Q (F0 m 1248 ls []) := by
  obtain ⟨⟨hx, hb, hml, hown, hts⟩, hX, hbl, hL3, hE, hN, hZ0, hl0⟩ := C
  obtain ⟨hI0, ⟨ta, pa, aT, aP, aS, aH, n9, hR⟩, hP, hY, hD, hS, hl⟩ := S
  have h4 := hR.1.1
  have hA : ∀ q : Nat, s.heap.size ≤ q → (fun q => s.heap.size ≤ q) q := fun _ h => h
  refine lv_aload_n hx hb dL_law_1248 rfl (lv_at hl 1 rfl) ?_
  refine lv_aload_n hx hb dL_law_1249 rfl (lv_at hl 0 rfl) ?_
  refine lv_iload hx hb dL_law_1250 (lv_at hl 4 rfl) ?_
  refine lv_iconst (v := nI 1) hx hb dL_law_1252 (by decide) ?_
  refine lv_iadd hx hb dL_law_1253 ?_
  refine zasi (show ((nI (6 * k)) + (nI 1)) = nI (6 * k + 1) from nI_add _ _) ?_
  refine zsl hx hb hX hbl hL3 hS (show 6 * k + 1 < Ln by omega) e1 dL_law_1254 ?_
  refine lv_aload_n hx hb dL_law_1255 rfl (lv_at hl 0 rfl) ?_
  refine lv_iload hx hb dL_law_1256 (lv_at hl 4 rfl) ?_
  refine lv_iconst (v := nI 2) hx hb dL_law_1258 (by decide) ?_
  refine lv_iadd hx hb dL_law_1259 ?_
  refine zasi (show ((nI (6 * k)) + (nI 2)) = nI (6 * k + 2) from nI_add _ _) ?_
  refine zsl hx hb hX hbl hL3 hS (show 6 * k + 2 < Ln by omega) e2 dL_law_1260 ?_
  refine lv_aload_n hx hb dL_law_1261 rfl (lv_at hl 0 rfl) ?_
  refine lv_iload hx hb dL_law_1262 (lv_at hl 4 rfl) ?_
  refine lv_iconst (v := nI 3) hx hb dL_law_1264 (by decide) ?_
  refine lv_iadd hx hb dL_law_1265 ?_
  refine zasi (show ((nI (6 * k)) + (nI 3)) = nI (6 * k + 3) from nI_add _ _) ?_
  refine zsl hx hb hX hbl hL3 hS (show 6 * k + 3 < Ln by omega) e3 dL_law_1266 ?_
  refine lv_aload_n hx hb dL_law_1267 rfl (lv_at hl 0 rfl) ?_
  refine lv_iload hx hb dL_law_1268 (lv_at hl 4 rfl) ?_
  refine lv_iconst (v := nI 4) hx hb dL_law_1270 (by decide) ?_
  refine lv_iadd hx hb dL_law_1271 ?_
  refine zasi (show ((nI (6 * k)) + (nI 4)) = nI (6 * k + 4) from nI_add _ _) ?_
  refine zsl hx hb hX hbl hL3 hS (show 6 * k + 4 < Ln by omega) e4 dL_law_1272 ?_
  refine lv_aload_n hx hb dL_law_1273 rfl (lv_at hl 0 rfl) ?_
  refine lv_iload hx hb dL_law_1274 (lv_at hl 4 rfl) ?_
  refine lv_iconst (v := nI 5) hx hb dL_law_1276 (by decide) ?_
  refine lv_iadd hx hb dL_law_1277 ?_
  refine zasi (show ((nI (6 * k)) + (nI 5)) = nI (6 * k + 5) from nI_add _ _) ?_
  refine zsl hx hb hX hbl hL3 hS (show 6 * k + 5 < Ln by omega) e5 dL_law_1278 ?_
  refine lv_aload_n hx hb dL_law_1279 rfl (lv_at hl 3 rfl) ?_
  refine zgo (vx_runSX (As := [.ref h0, .int v1, .int v2, .int v3, .int v4, .int v5, .ref ob]) (rest := []) ⟨hx, hb, hml, hown, hts⟩ (hC H.size) (vx_cwSW (bytes := cL_wayAt) (maxL := 8) (ret := some .int) (hh := [(0, 16, 19, 13), (0, 16, 23, 20)]) 7 hts gL_law_L_wayAt rfl rfl rfl (by decide +kernel) ⟨Nat.le_of_ble_eq_true rfl, Nat.le_of_ble_eq_true rfl⟩) (zLS hP (w2_l hD) hE hN (lwZ hZ0 hS) (fun q h => Nat.le_trans hS.1 h)) rfl rfl hl.1 rfl (lv_room (Nat.le_of_ble_eq_true rfl)) dL_law_1280 (by show _ ≤ 601024 ∧ _ ≤ 7293034; omega)) hY hD hS hA (fun u g1 H locs hu hP hY hD hS => ?_)
  obtain ⟨hv9, hR9⟩ := hP9 _ _ hu
  refine lv_istore (lv' := [(5, .int (nI 0)), (0, .ref b), (1, .ref h0), (2, .ref hm), (3, .ref ob), (4, .int (nI (6 * k)))]) hx hb dL_law_1283 hl (by decide) rfl (fun ls hl => ?_)
  refine lv_aload_n hx hb dL_law_1285 rfl (lv_at hl 3 rfl) ?_
  refine lv_aload_n hx hb dL_law_1286 rfl (lv_at hl 1 rfl) ?_
  refine lv_iload hx hb dL_law_1287 (lv_at hl 5 rfl) ?_
  refine lv_iconst (v := nI 1) hx hb dL_law_1289 (by decide) ?_
  refine lv_iadd hx hb dL_law_1290 ?_
  refine zasi (show ((nI (6 * k)) + (nI 1)) = nI (6 * k + 1) from nI_add _ _) ?_
  refine zsl hx hb hX hbl hL3 hS (show 6 * k + 1 < Ln by omega) e1 dL_law_1291 ?_
  refine lv_aload_n hx hb dL_law_1292 rfl (lv_at hl 1 rfl) ?_
  refine lv_iload hx hb dL_law_1293 (lv_at hl 5 rfl) ?_
  refine lv_iconst (v := nI 2) hx hb dL_law_1295 (by decide) ?_
  refine lv_iadd hx hb dL_law_1296 ?_
  refine zasi (show ((nI (6 * k)) + (nI 2)) = nI (6 * k + 2) from nI_add _ _) ?_
  refine zsl hx hb hX hbl hL3 hS (show 6 * k + 2 < Ln by omega) e2 dL_law_1297 ?_
  refine lv_aload_n hx hb dL_law_1298 rfl (lv_at hl 1 rfl) ?_
  refine lv_iload hx hb dL_law_1299 (lv_at hl 5 rfl) ?_
  refine lv_iconst (v := nI 3) hx hb dL_law_1301 (by decide) ?_
  refine lv_iadd hx hb dL_law_1302 ?_
  refine zasi (show ((nI (6 * k)) + (nI 3)) = nI (6 * k + 3) from nI_add _ _) ?_
  refine zsl hx hb hX hbl hL3 hS (show 6 * k + 3 < Ln by omega) e3 dL_law_1303 ?_
  refine lv_aload_n hx hb dL_law_1304 rfl (lv_at hl 1 rfl) ?_
  refine lv_iload hx hb dL_law_1305 (lv_at hl 5 rfl) ?_
  refine lv_iconst (v := nI 4) hx hb dL_law_1307 (by decide) ?_
  refine lv_iadd hx hb dL_law_1308 ?_
  refine zasi (show ((nI (6 * k)) + (nI 4)) = nI (6 * k + 4) from nI_add _ _) ?_
  refine zsl hx hb hX hbl hL3 hS (show 6 * k + 4 < Ln by omega) e4 dL_law_1309 ?_
  refine lv_aload_n hx hb dL_law_1310 rfl (lv_at hl 1 rfl) ?_
  refine lv_iload hx hb dL_law_1311 (lv_at hl 5 rfl) ?_
  refine lv_iconst (v := nI 5) hx hb dL_law_1313 (by decide) ?_
  refine lv_iadd hx hb dL_law_1314 ?_
  refine zasi (show ((nI (6 * k)) + (nI 5)) = nI (6 * k + 5) from nI_add _ _) ?_
  refine zsl hx hb hX hbl hL3 hS (show 6 * k + 5 < Ln by omega) e5 dL_law_1315 ?_
  refine zgm (va_runV (As := [.int v1, .int v2, .int v3, .int v4, .int v5]) (rest := []) ⟨hx, hb, hml, hown, hts⟩ (hM H.size) (cwV 5 hts gL_law_X5_wayAt rfl rfl rfl (by decide +kernel) ⟨Nat.le_of_ble_eq_true rfl, Nat.le_of_ble_eq_true rfl⟩) (zmV (q0 := 0) (ci := 5) hY (w2_r hD) hE rfl rfl) rfl rfl hl.1 rfl (lv_room (Nat.le_of_ble_eq_true rfl)) dL_law_1316 (by show _ ≤ 601024 ∧ _ ≤ 7293034; omega)) hP hD hS hA rfl (fun r H locs hr9b hP hY hD hS => ?_)
  rw [show r = val from hr9b]
  refine lv_istore (lv' := [(6, .int val), (5, .int (nI 0)), (0, .ref b), (1, .ref h0), (2, .ref hm), (3, .ref ob), (4, .int (nI (6 * k)))]) hx hb dL_law_1319 hl (by decide) rfl (fun ls hl => ?_)
  refine lv_aload_n hx hb dL_law_1321 rfl (lv_at hl 4 rfl) ?_
  refine zci (va_runV (As := []) (rest := []) ⟨hx, hb, hml, hown, hts⟩ (m_thrown l D ca sa hm ad _ _ _ _ _ _) (cwV 0 hts gL_law_X5_thrown rfl rfl rfl (by decide +kernel) ⟨Nat.le_of_ble_eq_true rfl, Nat.le_of_ble_eq_true rfl⟩) (zpV (q0 := 0) (ci := 5) hY hE rfl rfl) rfl rfl hl.1 rfl (lv_room (Nat.le_of_ble_eq_true rfl)) dL_law_1322 (by show _ ≤ 601024 ∧ _ ≤ 7293034; omega)) ?_
  refine lv_iload hx hb dL_law_1325 (lv_at hl 1 rfl) ?_
  refine lv_icmp_eq (tgt := 1332) hx hb dL_law_1327 (by decide) (fun c_1327 => ?_) (fun c_1327 => ?_)
  · refine lv_iload hx hb dL_law_1332 (lv_at hl 1 rfl) ?_
    refine lv_if_ne (tgt := 1349) hx hb dL_law_1334 (by decide) (fun c_1334 => ?_) (fun c_1334 => ?_)
    · exact absurd c_1334 (by decide)
    · refine lv_aload_n hx hb dL_law_1337 rfl (lv_at hl 5 rfl) ?_
      refine lv_iconst (v := nI 0) hx hb dL_law_1338 (by decide) ?_
      refine zol hx hb hE hP hv9 dL_law_1339 ?_
      refine lv_iload hx hb dL_law_1340 (lv_at hl 0 rfl) ?_
      refine lv_i2l hx hb dL_law_1342 rfl ?_
      refine W.lcmp hx hb dL_law_1343 ?_
      refine zasi (show (lg_cmp (val.toInt64) (val.toInt64)) = nI 0 from zcmp _) ?_
      refine lv_if_eq (tgt := 1349) hx hb dL_law_1344 (by decide) (fun c_1344 => ?_) (fun c_1344 => ?_)
      · refine lv_goto (tgt := 1551) hx hb dL_law_1349 (by decide) ?_
        refine W.widen (k := cells + 24) (n := slots + 100) (by omega) (by omega) ?_
        exact kk V' nc' M' _ _ _ _ H locs ls ⟨hI, hR9, hP, hY, hD, hS, lv_sub hl [2, 3, 4, 5, 6] rfl⟩
      · exact absurd c_1344 (by decide)
  · exact absurd c_1327 (by decide)

set_option maxHeartbeats 4000000 in
set_option maxRecDepth 100000 in
theorem st_wayAt_x {p : Program} {l : Launch} {e : Env} {s : State} {m : MethodId} {below : List Frame} {meth : Method} {c : Code} {b Ln : Nat} {xs : Nat → Int32} {D : va_G} {ca : Nat → ClassId} {sa : Nat → Nat} (C : lw_C p l s m meth c b Ln xs D ca sa) {h0 hm ob : Nat} {ad : Nat → Nat} {k : Nat} {H : Heap} {locs : List Loc} {ls : Array Slot} {V : zV} {nc : Nat} {M : Nat → Nat → Int32} {th : Int32} {L : List Nat} {f : Nat → va_E} {g : Nat → Int64} (S : lw_S D ca s h0 hm ob b ad k (6 * k) H locs ls V nc M th L f g) (hk : k < 512) (hi : 6 * k + 6 ≤ Ln) {cells slots : Nat} {Q : State → Prop} (hroom : cells + 24 ≤ 601024 ∧ slots + 100 ≤ 7293034) {v1 v2 v3 v4 v5 : Int32} (e1 : xs (6 * k + 1) = v1) (e2 : xs (6 * k + 2) = v2) (e3 : xs (6 * k + 3) = v3) (e4 : xs (6 * k + 4) = v4) (e5 : xs (6 * k + 5) = v5) {mc ms : Nat} (hmc : mc ≤ 24) (hms : ms ≤ 100) {r9 : Int32} (hr9 : r9 = nI 1 ∨ r9 = nI 2) (hC : ∀ sz, vx_Met l yL_wayAt wsL_wayAt ({ frames := 10, cells := mc, slots := ms, locals := 450 }) (va_Pc [.ref h0, .int v1, .int v2, .int v3, .int v4, .int v5, .ref ob] (zLp D L f ob g ca sa sz)) (va_Qi (fun (r : Int32) (_ : Unit) => r = r9) (fun _ _ => True) (fun q => sz ≤ q)) zX0 mc ms (fun q => sz ≤ q)) (hM : ∀ sz, Met l yX5_wayAt wsX5_wayAt ({ frames := 9, cells := 0, slots := 0, locals := 360 }) (va_Pc [.ref hm, .int v1, .int v2, .int v3, .int v4, .int v5] (zMp D (mW hm ad ca th (vTd V) (vNt V) (vNp V) nc M) ca sa sz)) (va_Qi (fun (r : Int32) (_ : Unit) => True) (fun _ t9 => va_P D vwCl (mW hm ad ca r9 (vTd V) (vNt V) (vNp V) nc M) t9.heap) (va_A (mW hm ad ca th (vTd V) (vNt V) (vNp V) nc M) sz)) 0 0 (va_A (mW hm ad ca th (vTd V) (vNt V) (vNp V) nc M) sz)) (kk : ∀ (V' : zV) (nc' : Nat) (M' : Nat → Nat → Int32) (th' : Int32) (L' : List Nat) (f' : Nat → va_E) (g' : Nat → Int64) (H1 : Heap) (locs1 : List Loc) (ls1 : Array Slot), lw_S D ca s h0 hm ob b ad (k + 1) (6 * k) H1 locs1 ls1 V' nc' M' th' L' f' g' → W p l e room_1 s m #[Value.ref b] below meth c H1 locs1 (cells + 24) (slots + 100) Q (F0 m 1551 ls1 [])) : W p l e room_1 s m #[Value.ref b] below meth c H locs cells slots Q (F0 m 1248 ls []) := by
  obtain ⟨⟨hx, hb, hml, hown, hts⟩, hX, hbl, hL3, hE, hN, hZ0, hl0⟩ := C
  obtain ⟨hI0, ⟨ta, pa, aT, aP, aS, aH, n9, hR⟩, hP, hY, hD, hS, hl⟩ := S
  have h4 := hR.1.1
  have hA : ∀ q : Nat, s.heap.size ≤ q → (fun q => s.heap.size ≤ q) q := fun _ h => h
  refine lv_aload_n hx hb dL_law_1248 rfl (lv_at hl 1 rfl) ?_
  refine lv_aload_n hx hb dL_law_1249 rfl (lv_at hl 0 rfl) ?_
  refine lv_iload hx hb dL_law_1250 (lv_at hl 4 rfl) ?_
  refine lv_iconst (v := nI 1) hx hb dL_law_1252 (by decide) ?_
  refine lv_iadd hx hb dL_law_1253 ?_
  refine zasi (show ((nI (6 * k)) + (nI 1)) = nI (6 * k + 1) from nI_add _ _) ?_
  refine zsl hx hb hX hbl hL3 hS (show 6 * k + 1 < Ln by omega) e1 dL_law_1254 ?_
  refine lv_aload_n hx hb dL_law_1255 rfl (lv_at hl 0 rfl) ?_
  refine lv_iload hx hb dL_law_1256 (lv_at hl 4 rfl) ?_
  refine lv_iconst (v := nI 2) hx hb dL_law_1258 (by decide) ?_
  refine lv_iadd hx hb dL_law_1259 ?_
  refine zasi (show ((nI (6 * k)) + (nI 2)) = nI (6 * k + 2) from nI_add _ _) ?_
  refine zsl hx hb hX hbl hL3 hS (show 6 * k + 2 < Ln by omega) e2 dL_law_1260 ?_
  refine lv_aload_n hx hb dL_law_1261 rfl (lv_at hl 0 rfl) ?_
  refine lv_iload hx hb dL_law_1262 (lv_at hl 4 rfl) ?_
  refine lv_iconst (v := nI 3) hx hb dL_law_1264 (by decide) ?_
  refine lv_iadd hx hb dL_law_1265 ?_
  refine zasi (show ((nI (6 * k)) + (nI 3)) = nI (6 * k + 3) from nI_add _ _) ?_
  refine zsl hx hb hX hbl hL3 hS (show 6 * k + 3 < Ln by omega) e3 dL_law_1266 ?_
  refine lv_aload_n hx hb dL_law_1267 rfl (lv_at hl 0 rfl) ?_
  refine lv_iload hx hb dL_law_1268 (lv_at hl 4 rfl) ?_
  refine lv_iconst (v := nI 4) hx hb dL_law_1270 (by decide) ?_
  refine lv_iadd hx hb dL_law_1271 ?_
  refine zasi (show ((nI (6 * k)) + (nI 4)) = nI (6 * k + 4) from nI_add _ _) ?_
  refine zsl hx hb hX hbl hL3 hS (show 6 * k + 4 < Ln by omega) e4 dL_law_1272 ?_
  refine lv_aload_n hx hb dL_law_1273 rfl (lv_at hl 0 rfl) ?_
  refine lv_iload hx hb dL_law_1274 (lv_at hl 4 rfl) ?_
  refine lv_iconst (v := nI 5) hx hb dL_law_1276 (by decide) ?_
  refine lv_iadd hx hb dL_law_1277 ?_
  refine zasi (show ((nI (6 * k)) + (nI 5)) = nI (6 * k + 5) from nI_add _ _) ?_
  refine zsl hx hb hX hbl hL3 hS (show 6 * k + 5 < Ln by omega) e5 dL_law_1278 ?_
  refine lv_aload_n hx hb dL_law_1279 rfl (lv_at hl 3 rfl) ?_
  refine zgx (vx_runSX (As := [.ref h0, .int v1, .int v2, .int v3, .int v4, .int v5, .ref ob]) (rest := []) ⟨hx, hb, hml, hown, hts⟩ (hC H.size) (vx_cwSW (bytes := cL_wayAt) (maxL := 8) (ret := some .int) (hh := [(0, 16, 19, 13), (0, 16, 23, 20)]) 7 hts gL_law_L_wayAt rfl rfl rfl (by decide +kernel) ⟨Nat.le_of_ble_eq_true rfl, Nat.le_of_ble_eq_true rfl⟩) (zLS hP (w2_l hD) hE hN (lwZ hZ0 hS) (fun q h => Nat.le_trans hS.1 h)) rfl rfl hl.1 rfl (lv_room (Nat.le_of_ble_eq_true rfl)) dL_law_1280 (by show _ ≤ 601024 ∧ _ ≤ 7293034; omega)) hP hY hS hA (fun H locs hP hY hS => ?_)
  refine lv_istore (lv' := [(5, .int r9), (0, .ref b), (1, .ref h0), (2, .ref hm), (3, .ref ob), (4, .int (nI (6 * k)))]) hx hb dL_law_1283 hl (by decide) rfl (fun ls hl => ?_)
  refine lv_aload_n hx hb dL_law_1285 rfl (lv_at hl 3 rfl) ?_
  refine lv_aload_n hx hb dL_law_1286 rfl (lv_at hl 1 rfl) ?_
  refine lv_iload hx hb dL_law_1287 (lv_at hl 5 rfl) ?_
  refine lv_iconst (v := nI 1) hx hb dL_law_1289 (by decide) ?_
  refine lv_iadd hx hb dL_law_1290 ?_
  refine zasi (show ((nI (6 * k)) + (nI 1)) = nI (6 * k + 1) from nI_add _ _) ?_
  refine zsl hx hb hX hbl hL3 hS (show 6 * k + 1 < Ln by omega) e1 dL_law_1291 ?_
  refine lv_aload_n hx hb dL_law_1292 rfl (lv_at hl 1 rfl) ?_
  refine lv_iload hx hb dL_law_1293 (lv_at hl 5 rfl) ?_
  refine lv_iconst (v := nI 2) hx hb dL_law_1295 (by decide) ?_
  refine lv_iadd hx hb dL_law_1296 ?_
  refine zasi (show ((nI (6 * k)) + (nI 2)) = nI (6 * k + 2) from nI_add _ _) ?_
  refine zsl hx hb hX hbl hL3 hS (show 6 * k + 2 < Ln by omega) e2 dL_law_1297 ?_
  refine lv_aload_n hx hb dL_law_1298 rfl (lv_at hl 1 rfl) ?_
  refine lv_iload hx hb dL_law_1299 (lv_at hl 5 rfl) ?_
  refine lv_iconst (v := nI 3) hx hb dL_law_1301 (by decide) ?_
  refine lv_iadd hx hb dL_law_1302 ?_
  refine zasi (show ((nI (6 * k)) + (nI 3)) = nI (6 * k + 3) from nI_add _ _) ?_
  refine zsl hx hb hX hbl hL3 hS (show 6 * k + 3 < Ln by omega) e3 dL_law_1303 ?_
  refine lv_aload_n hx hb dL_law_1304 rfl (lv_at hl 1 rfl) ?_
  refine lv_iload hx hb dL_law_1305 (lv_at hl 5 rfl) ?_
  refine lv_iconst (v := nI 4) hx hb dL_law_1307 (by decide) ?_
  refine lv_iadd hx hb dL_law_1308 ?_
  refine zasi (show ((nI (6 * k)) + (nI 4)) = nI (6 * k + 4) from nI_add _ _) ?_
  refine zsl hx hb hX hbl hL3 hS (show 6 * k + 4 < Ln by omega) e4 dL_law_1309 ?_
  refine lv_aload_n hx hb dL_law_1310 rfl (lv_at hl 1 rfl) ?_
  refine lv_iload hx hb dL_law_1311 (lv_at hl 5 rfl) ?_
  refine lv_iconst (v := nI 5) hx hb dL_law_1313 (by decide) ?_
  refine lv_iadd hx hb dL_law_1314 ?_
  refine zasi (show ((nI (6 * k)) + (nI 5)) = nI (6 * k + 5) from nI_add _ _) ?_
  refine zsl hx hb hX hbl hL3 hS (show 6 * k + 5 < Ln by omega) e5 dL_law_1315 ?_
  refine zgm (va_runV (As := [.int v1, .int v2, .int v3, .int v4, .int v5]) (rest := []) ⟨hx, hb, hml, hown, hts⟩ (hM H.size) (cwV 5 hts gL_law_X5_wayAt rfl rfl rfl (by decide +kernel) ⟨Nat.le_of_ble_eq_true rfl, Nat.le_of_ble_eq_true rfl⟩) (zmV (q0 := 0) (ci := 5) hY (w2_r hD) hE rfl rfl) rfl rfl hl.1 rfl (lv_room (Nat.le_of_ble_eq_true rfl)) dL_law_1316 (by show _ ≤ 601024 ∧ _ ≤ 7293034; omega)) hP hD hS hA rfl (fun r H locs hr9b hP hY hD hS => ?_)
  refine lv_istore (lv' := [(6, .int r), (5, .int r9), (0, .ref b), (1, .ref h0), (2, .ref hm), (3, .ref ob), (4, .int (nI (6 * k)))]) hx hb dL_law_1319 hl (by decide) rfl (fun ls hl => ?_)
  refine lv_aload_n hx hb dL_law_1321 rfl (lv_at hl 4 rfl) ?_
  refine zci (va_runV (As := []) (rest := []) ⟨hx, hb, hml, hown, hts⟩ (m_thrown l D ca sa hm ad _ _ _ _ _ _) (cwV 0 hts gL_law_X5_thrown rfl rfl rfl (by decide +kernel) ⟨Nat.le_of_ble_eq_true rfl, Nat.le_of_ble_eq_true rfl⟩) (zpV (q0 := 0) (ci := 5) hY hE rfl rfl) rfl rfl hl.1 rfl (lv_room (Nat.le_of_ble_eq_true rfl)) dL_law_1322 (by show _ ≤ 601024 ∧ _ ≤ 7293034; omega)) ?_
  refine lv_iload hx hb dL_law_1325 (lv_at hl 1 rfl) ?_
  refine lv_icmp_eq (tgt := 1332) hx hb dL_law_1327 (by decide) (fun c_1327 => ?_) (fun c_1327 => ?_)
  · refine lv_iload hx hb dL_law_1332 (lv_at hl 1 rfl) ?_
    refine lv_if_ne (tgt := 1349) hx hb dL_law_1334 (by decide) (fun c_1334 => ?_) (fun c_1334 => ?_)
    · refine lv_goto (tgt := 1551) hx hb dL_law_1349 (by decide) ?_
      refine W.widen (k := cells + 24) (n := slots + 100) (by omega) (by omega) ?_
      exact kk V nc M _ _ _ _ H locs ls ⟨i_up hI0 hk, ⟨ta, pa, aT, aP, aS, aH, n9, zRep_up hR (Nat.le_succ k) (by omega)⟩, hP, hY, hD, hS, lv_sub hl [2, 3, 4, 5, 6] rfl⟩
    · exact absurd c_1334 (by rcases hr9 with rfl | rfl <;> decide)
  · exact absurd rfl c_1327

set_option maxHeartbeats 4000000 in
set_option maxRecDepth 100000 in
theorem st_gap_ok {p : Program} {l : Launch} {e : Env} {s : State} {m : MethodId} {below : List Frame} {meth : Method} {c : Code} {b Ln : Nat} {xs : Nat → Int32} {D : va_G} {ca : Nat → ClassId} {sa : Nat → Nat} (C : lw_C p l s m meth c b Ln xs D ca sa) {h0 hm ob : Nat} {ad : Nat → Nat} {k : Nat} {H : Heap} {locs : List Loc} {ls : Array Slot} {V : zV} {nc : Nat} {M : Nat → Nat → Int32} {th : Int32} {L : List Nat} {f : Nat → va_E} {g : Nat → Int64} (S : lw_S D ca s h0 hm ob b ad k (6 * k) H locs ls V nc M th L f g) (hk : k < 512) (hi : 6 * k + 6 ≤ Ln) {cells slots : Nat} {Q : State → Prop} (hroom : cells + 24 ≤ 601024 ∧ slots + 100 ≤ 7293034) {v1 v2 : Int32} (e1 : xs (6 * k + 1) = v1) (e2 : xs (6 * k + 2) = v2) {mc ms : Nat} (hmc : mc ≤ 24) (hms : ms ≤ 100) {V' : zV} {nc' : Nat} {M' : Nat → Nat → Int32} {P : Int64 → zU → Prop} {val : Int32} (hP9 : ∀ x u, P x u → x = val.toInt64 ∧ zR u.1 u.2 ca h0 (k + 1) V') (hI : Inv V' nc' M' (k + 1)) (hC : ∀ sz, vx_Met l yL_gap wsL_gap ({ frames := 10, cells := mc, slots := ms, locals := 450 }) (va_Pc [.ref h0, .int v1, .int v2, .ref ob] (zLp D L f ob g ca sa sz)) (va_Qi (fun (r : Int32) (u : zU × (Nat → Int64)) => r = nI 0 ∧ P (u.2 0) u.1) (fun u t => va_P D vwCl (oW ca ob u.2 ++ va_pl u.1.1 u.1.2) t.heap ∧ va_D (va_A (oW ca ob g ++ va_pl L f) sz) (oW ca ob u.2 ++ va_pl u.1.1 u.1.2)) (va_A (oW ca ob g ++ va_pl L f) sz)) zX0 mc ms (va_A (oW ca ob g ++ va_pl L f) sz)) (hM : ∀ sz, Met l yX5_gap wsX5_gap ({ frames := 9, cells := 0, slots := 0, locals := 360 }) (va_Pc [.ref hm, .int v1, .int v2] (zMp D (mW hm ad ca th (vTd V) (vNt V) (vNp V) nc M) ca sa sz)) (va_Qi (fun (r : Int32) (_ : Unit) => r = val) (fun _ t9 => va_P D vwCl (mW hm ad ca (nI 0) (vTd V') (vNt V') (vNp V') nc' M') t9.heap) (va_A (mW hm ad ca th (vTd V) (vNt V) (vNp V) nc M) sz)) 0 0 (va_A (mW hm ad ca th (vTd V) (vNt V) (vNp V) nc M) sz)) (kk : ∀ (V' : zV) (nc' : Nat) (M' : Nat → Nat → Int32) (th' : Int32) (L' : List Nat) (f' : Nat → va_E) (g' : Nat → Int64) (H1 : Heap) (locs1 : List Loc) (ls1 : Array Slot), lw_S D ca s h0 hm ob b ad (k + 1) (6 * k) H1 locs1 ls1 V' nc' M' th' L' f' g' → W p l e room_1 s m #[Value.ref b] below meth c H1 locs1 (cells + 24) (slots + 100) Q (F0 m 1551 ls1 [])) : W p l e room_1 s m #[Value.ref b] below meth c H locs cells slots Q (F0 m 1352 ls []) := by
  obtain ⟨⟨hx, hb, hml, hown, hts⟩, hX, hbl, hL3, hE, hN, hZ0, hl0⟩ := C
  obtain ⟨hI0, ⟨ta, pa, aT, aP, aS, aH, n9, hR⟩, hP, hY, hD, hS, hl⟩ := S
  have h4 := hR.1.1
  have hA : ∀ q : Nat, s.heap.size ≤ q → (fun q => s.heap.size ≤ q) q := fun _ h => h
  refine lv_aload_n hx hb dL_law_1352 rfl (lv_at hl 1 rfl) ?_
  refine lv_aload_n hx hb dL_law_1353 rfl (lv_at hl 0 rfl) ?_
  refine lv_iload hx hb dL_law_1354 (lv_at hl 4 rfl) ?_
  refine lv_iconst (v := nI 1) hx hb dL_law_1356 (by decide) ?_
  refine lv_iadd hx hb dL_law_1357 ?_
  refine zasi (show ((nI (6 * k)) + (nI 1)) = nI (6 * k + 1) from nI_add _ _) ?_
  refine zsl hx hb hX hbl hL3 hS (show 6 * k + 1 < Ln by omega) e1 dL_law_1358 ?_
  refine lv_aload_n hx hb dL_law_1359 rfl (lv_at hl 0 rfl) ?_
  refine lv_iload hx hb dL_law_1360 (lv_at hl 4 rfl) ?_
  refine lv_iconst (v := nI 2) hx hb dL_law_1362 (by decide) ?_
  refine lv_iadd hx hb dL_law_1363 ?_
  refine zasi (show ((nI (6 * k)) + (nI 2)) = nI (6 * k + 2) from nI_add _ _) ?_
  refine zsl hx hb hX hbl hL3 hS (show 6 * k + 2 < Ln by omega) e2 dL_law_1364 ?_
  refine lv_aload_n hx hb dL_law_1365 rfl (lv_at hl 3 rfl) ?_
  refine zgo (vx_runSX (As := [.ref h0, .int v1, .int v2, .ref ob]) (rest := []) ⟨hx, hb, hml, hown, hts⟩ (hC H.size) (vx_cwSW (bytes := cL_gap) (maxL := 5) (ret := some .int) (hh := [(0, 10, 13, 20), (0, 10, 17, 13)]) 4 hts gL_law_L_gap rfl rfl rfl (by decide +kernel) ⟨Nat.le_of_ble_eq_true rfl, Nat.le_of_ble_eq_true rfl⟩) (zLS hP (w2_l hD) hE hN (lwZ hZ0 hS) (fun q h => Nat.le_trans hS.1 h)) rfl rfl hl.1 rfl (lv_room (Nat.le_of_ble_eq_true rfl)) dL_law_1366 (by show _ ≤ 601024 ∧ _ ≤ 7293034; omega)) hY hD hS hA (fun u g1 H locs hu hP hY hD hS => ?_)
  obtain ⟨hv9, hR9⟩ := hP9 _ _ hu
  refine lv_istore (lv' := [(5, .int (nI 0)), (0, .ref b), (1, .ref h0), (2, .ref hm), (3, .ref ob), (4, .int (nI (6 * k)))]) hx hb dL_law_1369 hl (by decide) rfl (fun ls hl => ?_)
  refine lv_aload_n hx hb dL_law_1371 rfl (lv_at hl 3 rfl) ?_
  refine lv_aload_n hx hb dL_law_1372 rfl (lv_at hl 1 rfl) ?_
  refine lv_iload hx hb dL_law_1373 (lv_at hl 5 rfl) ?_
  refine lv_iconst (v := nI 1) hx hb dL_law_1375 (by decide) ?_
  refine lv_iadd hx hb dL_law_1376 ?_
  refine zasi (show ((nI (6 * k)) + (nI 1)) = nI (6 * k + 1) from nI_add _ _) ?_
  refine zsl hx hb hX hbl hL3 hS (show 6 * k + 1 < Ln by omega) e1 dL_law_1377 ?_
  refine lv_aload_n hx hb dL_law_1378 rfl (lv_at hl 1 rfl) ?_
  refine lv_iload hx hb dL_law_1379 (lv_at hl 5 rfl) ?_
  refine lv_iconst (v := nI 2) hx hb dL_law_1381 (by decide) ?_
  refine lv_iadd hx hb dL_law_1382 ?_
  refine zasi (show ((nI (6 * k)) + (nI 2)) = nI (6 * k + 2) from nI_add _ _) ?_
  refine zsl hx hb hX hbl hL3 hS (show 6 * k + 2 < Ln by omega) e2 dL_law_1383 ?_
  refine zgm (va_runV (As := [.int v1, .int v2]) (rest := []) ⟨hx, hb, hml, hown, hts⟩ (hM H.size) (cwV 2 hts gL_law_X5_gap rfl rfl rfl (by decide +kernel) ⟨Nat.le_of_ble_eq_true rfl, Nat.le_of_ble_eq_true rfl⟩) (zmV (q0 := 0) (ci := 5) hY (w2_r hD) hE rfl rfl) rfl rfl hl.1 rfl (lv_room (Nat.le_of_ble_eq_true rfl)) dL_law_1384 (by show _ ≤ 601024 ∧ _ ≤ 7293034; omega)) hP hD hS hA rfl (fun r H locs hr9b hP hY hD hS => ?_)
  rw [show r = val from hr9b]
  refine lv_istore (lv' := [(6, .int val), (5, .int (nI 0)), (0, .ref b), (1, .ref h0), (2, .ref hm), (3, .ref ob), (4, .int (nI (6 * k)))]) hx hb dL_law_1387 hl (by decide) rfl (fun ls hl => ?_)
  refine lv_aload_n hx hb dL_law_1389 rfl (lv_at hl 4 rfl) ?_
  refine zci (va_runV (As := []) (rest := []) ⟨hx, hb, hml, hown, hts⟩ (m_thrown l D ca sa hm ad _ _ _ _ _ _) (cwV 0 hts gL_law_X5_thrown rfl rfl rfl (by decide +kernel) ⟨Nat.le_of_ble_eq_true rfl, Nat.le_of_ble_eq_true rfl⟩) (zpV (q0 := 0) (ci := 5) hY hE rfl rfl) rfl rfl hl.1 rfl (lv_room (Nat.le_of_ble_eq_true rfl)) dL_law_1390 (by show _ ≤ 601024 ∧ _ ≤ 7293034; omega)) ?_
  refine lv_iload hx hb dL_law_1393 (lv_at hl 1 rfl) ?_
  refine lv_icmp_eq (tgt := 1400) hx hb dL_law_1395 (by decide) (fun c_1395 => ?_) (fun c_1395 => ?_)
  · refine lv_iload hx hb dL_law_1400 (lv_at hl 1 rfl) ?_
    refine lv_if_ne (tgt := 1417) hx hb dL_law_1402 (by decide) (fun c_1402 => ?_) (fun c_1402 => ?_)
    · exact absurd c_1402 (by decide)
    · refine lv_aload_n hx hb dL_law_1405 rfl (lv_at hl 5 rfl) ?_
      refine lv_iconst (v := nI 0) hx hb dL_law_1406 (by decide) ?_
      refine zol hx hb hE hP hv9 dL_law_1407 ?_
      refine lv_iload hx hb dL_law_1408 (lv_at hl 0 rfl) ?_
      refine lv_i2l hx hb dL_law_1410 rfl ?_
      refine W.lcmp hx hb dL_law_1411 ?_
      refine zasi (show (lg_cmp (val.toInt64) (val.toInt64)) = nI 0 from zcmp _) ?_
      refine lv_if_eq (tgt := 1417) hx hb dL_law_1412 (by decide) (fun c_1412 => ?_) (fun c_1412 => ?_)
      · refine lv_goto (tgt := 1551) hx hb dL_law_1417 (by decide) ?_
        refine W.widen (k := cells + 24) (n := slots + 100) (by omega) (by omega) ?_
        exact kk V' nc' M' _ _ _ _ H locs ls ⟨hI, hR9, hP, hY, hD, hS, lv_sub hl [2, 3, 4, 5, 6] rfl⟩
      · exact absurd c_1412 (by decide)
  · exact absurd c_1395 (by decide)

set_option maxHeartbeats 4000000 in
set_option maxRecDepth 100000 in
theorem st_gap_x {p : Program} {l : Launch} {e : Env} {s : State} {m : MethodId} {below : List Frame} {meth : Method} {c : Code} {b Ln : Nat} {xs : Nat → Int32} {D : va_G} {ca : Nat → ClassId} {sa : Nat → Nat} (C : lw_C p l s m meth c b Ln xs D ca sa) {h0 hm ob : Nat} {ad : Nat → Nat} {k : Nat} {H : Heap} {locs : List Loc} {ls : Array Slot} {V : zV} {nc : Nat} {M : Nat → Nat → Int32} {th : Int32} {L : List Nat} {f : Nat → va_E} {g : Nat → Int64} (S : lw_S D ca s h0 hm ob b ad k (6 * k) H locs ls V nc M th L f g) (hk : k < 512) (hi : 6 * k + 6 ≤ Ln) {cells slots : Nat} {Q : State → Prop} (hroom : cells + 24 ≤ 601024 ∧ slots + 100 ≤ 7293034) {v1 v2 : Int32} (e1 : xs (6 * k + 1) = v1) (e2 : xs (6 * k + 2) = v2) {mc ms : Nat} (hmc : mc ≤ 24) (hms : ms ≤ 100) {r9 : Int32} (hr9 : r9 = nI 1 ∨ r9 = nI 2) (hC : ∀ sz, vx_Met l yL_gap wsL_gap ({ frames := 10, cells := mc, slots := ms, locals := 450 }) (va_Pc [.ref h0, .int v1, .int v2, .ref ob] (zLp D L f ob g ca sa sz)) (va_Qi (fun (r : Int32) (_ : Unit) => r = r9) (fun _ _ => True) (fun q => sz ≤ q)) zX0 mc ms (fun q => sz ≤ q)) (hM : ∀ sz, Met l yX5_gap wsX5_gap ({ frames := 9, cells := 0, slots := 0, locals := 360 }) (va_Pc [.ref hm, .int v1, .int v2] (zMp D (mW hm ad ca th (vTd V) (vNt V) (vNp V) nc M) ca sa sz)) (va_Qi (fun (r : Int32) (_ : Unit) => True) (fun _ t9 => va_P D vwCl (mW hm ad ca r9 (vTd V) (vNt V) (vNp V) nc M) t9.heap) (va_A (mW hm ad ca th (vTd V) (vNt V) (vNp V) nc M) sz)) 0 0 (va_A (mW hm ad ca th (vTd V) (vNt V) (vNp V) nc M) sz)) (kk : ∀ (V' : zV) (nc' : Nat) (M' : Nat → Nat → Int32) (th' : Int32) (L' : List Nat) (f' : Nat → va_E) (g' : Nat → Int64) (H1 : Heap) (locs1 : List Loc) (ls1 : Array Slot), lw_S D ca s h0 hm ob b ad (k + 1) (6 * k) H1 locs1 ls1 V' nc' M' th' L' f' g' → W p l e room_1 s m #[Value.ref b] below meth c H1 locs1 (cells + 24) (slots + 100) Q (F0 m 1551 ls1 [])) : W p l e room_1 s m #[Value.ref b] below meth c H locs cells slots Q (F0 m 1352 ls []) := by
  obtain ⟨⟨hx, hb, hml, hown, hts⟩, hX, hbl, hL3, hE, hN, hZ0, hl0⟩ := C
  obtain ⟨hI0, ⟨ta, pa, aT, aP, aS, aH, n9, hR⟩, hP, hY, hD, hS, hl⟩ := S
  have h4 := hR.1.1
  have hA : ∀ q : Nat, s.heap.size ≤ q → (fun q => s.heap.size ≤ q) q := fun _ h => h
  refine lv_aload_n hx hb dL_law_1352 rfl (lv_at hl 1 rfl) ?_
  refine lv_aload_n hx hb dL_law_1353 rfl (lv_at hl 0 rfl) ?_
  refine lv_iload hx hb dL_law_1354 (lv_at hl 4 rfl) ?_
  refine lv_iconst (v := nI 1) hx hb dL_law_1356 (by decide) ?_
  refine lv_iadd hx hb dL_law_1357 ?_
  refine zasi (show ((nI (6 * k)) + (nI 1)) = nI (6 * k + 1) from nI_add _ _) ?_
  refine zsl hx hb hX hbl hL3 hS (show 6 * k + 1 < Ln by omega) e1 dL_law_1358 ?_
  refine lv_aload_n hx hb dL_law_1359 rfl (lv_at hl 0 rfl) ?_
  refine lv_iload hx hb dL_law_1360 (lv_at hl 4 rfl) ?_
  refine lv_iconst (v := nI 2) hx hb dL_law_1362 (by decide) ?_
  refine lv_iadd hx hb dL_law_1363 ?_
  refine zasi (show ((nI (6 * k)) + (nI 2)) = nI (6 * k + 2) from nI_add _ _) ?_
  refine zsl hx hb hX hbl hL3 hS (show 6 * k + 2 < Ln by omega) e2 dL_law_1364 ?_
  refine lv_aload_n hx hb dL_law_1365 rfl (lv_at hl 3 rfl) ?_
  refine zgx (vx_runSX (As := [.ref h0, .int v1, .int v2, .ref ob]) (rest := []) ⟨hx, hb, hml, hown, hts⟩ (hC H.size) (vx_cwSW (bytes := cL_gap) (maxL := 5) (ret := some .int) (hh := [(0, 10, 13, 20), (0, 10, 17, 13)]) 4 hts gL_law_L_gap rfl rfl rfl (by decide +kernel) ⟨Nat.le_of_ble_eq_true rfl, Nat.le_of_ble_eq_true rfl⟩) (zLS hP (w2_l hD) hE hN (lwZ hZ0 hS) (fun q h => Nat.le_trans hS.1 h)) rfl rfl hl.1 rfl (lv_room (Nat.le_of_ble_eq_true rfl)) dL_law_1366 (by show _ ≤ 601024 ∧ _ ≤ 7293034; omega)) hP hY hS hA (fun H locs hP hY hS => ?_)
  refine lv_istore (lv' := [(5, .int r9), (0, .ref b), (1, .ref h0), (2, .ref hm), (3, .ref ob), (4, .int (nI (6 * k)))]) hx hb dL_law_1369 hl (by decide) rfl (fun ls hl => ?_)
  refine lv_aload_n hx hb dL_law_1371 rfl (lv_at hl 3 rfl) ?_
  refine lv_aload_n hx hb dL_law_1372 rfl (lv_at hl 1 rfl) ?_
  refine lv_iload hx hb dL_law_1373 (lv_at hl 5 rfl) ?_
  refine lv_iconst (v := nI 1) hx hb dL_law_1375 (by decide) ?_
  refine lv_iadd hx hb dL_law_1376 ?_
  refine zasi (show ((nI (6 * k)) + (nI 1)) = nI (6 * k + 1) from nI_add _ _) ?_
  refine zsl hx hb hX hbl hL3 hS (show 6 * k + 1 < Ln by omega) e1 dL_law_1377 ?_
  refine lv_aload_n hx hb dL_law_1378 rfl (lv_at hl 1 rfl) ?_
  refine lv_iload hx hb dL_law_1379 (lv_at hl 5 rfl) ?_
  refine lv_iconst (v := nI 2) hx hb dL_law_1381 (by decide) ?_
  refine lv_iadd hx hb dL_law_1382 ?_
  refine zasi (show ((nI (6 * k)) + (nI 2)) = nI (6 * k + 2) from nI_add _ _) ?_
  refine zsl hx hb hX hbl hL3 hS (show 6 * k + 2 < Ln by omega) e2 dL_law_1383 ?_
  refine zgm (va_runV (As := [.int v1, .int v2]) (rest := []) ⟨hx, hb, hml, hown, hts⟩ (hM H.size) (cwV 2 hts gL_law_X5_gap rfl rfl rfl (by decide +kernel) ⟨Nat.le_of_ble_eq_true rfl, Nat.le_of_ble_eq_true rfl⟩) (zmV (q0 := 0) (ci := 5) hY (w2_r hD) hE rfl rfl) rfl rfl hl.1 rfl (lv_room (Nat.le_of_ble_eq_true rfl)) dL_law_1384 (by show _ ≤ 601024 ∧ _ ≤ 7293034; omega)) hP hD hS hA rfl (fun r H locs hr9b hP hY hD hS => ?_)
  refine lv_istore (lv' := [(6, .int r), (5, .int r9), (0, .ref b), (1, .ref h0), (2, .ref hm), (3, .ref ob), (4, .int (nI (6 * k)))]) hx hb dL_law_1387 hl (by decide) rfl (fun ls hl => ?_)
  refine lv_aload_n hx hb dL_law_1389 rfl (lv_at hl 4 rfl) ?_
  refine zci (va_runV (As := []) (rest := []) ⟨hx, hb, hml, hown, hts⟩ (m_thrown l D ca sa hm ad _ _ _ _ _ _) (cwV 0 hts gL_law_X5_thrown rfl rfl rfl (by decide +kernel) ⟨Nat.le_of_ble_eq_true rfl, Nat.le_of_ble_eq_true rfl⟩) (zpV (q0 := 0) (ci := 5) hY hE rfl rfl) rfl rfl hl.1 rfl (lv_room (Nat.le_of_ble_eq_true rfl)) dL_law_1390 (by show _ ≤ 601024 ∧ _ ≤ 7293034; omega)) ?_
  refine lv_iload hx hb dL_law_1393 (lv_at hl 1 rfl) ?_
  refine lv_icmp_eq (tgt := 1400) hx hb dL_law_1395 (by decide) (fun c_1395 => ?_) (fun c_1395 => ?_)
  · refine lv_iload hx hb dL_law_1400 (lv_at hl 1 rfl) ?_
    refine lv_if_ne (tgt := 1417) hx hb dL_law_1402 (by decide) (fun c_1402 => ?_) (fun c_1402 => ?_)
    · refine lv_goto (tgt := 1551) hx hb dL_law_1417 (by decide) ?_
      refine W.widen (k := cells + 24) (n := slots + 100) (by omega) (by omega) ?_
      exact kk V nc M _ _ _ _ H locs ls ⟨i_up hI0 hk, ⟨ta, pa, aT, aP, aS, aH, n9, zRep_up hR (Nat.le_succ k) (by omega)⟩, hP, hY, hD, hS, lv_sub hl [2, 3, 4, 5, 6] rfl⟩
    · exact absurd c_1402 (by rcases hr9 with rfl | rfl <;> decide)
  · exact absurd rfl c_1395

set_option maxHeartbeats 4000000 in
set_option maxRecDepth 100000 in
theorem st_doubles_ok {p : Program} {l : Launch} {e : Env} {s : State} {m : MethodId} {below : List Frame} {meth : Method} {c : Code} {b Ln : Nat} {xs : Nat → Int32} {D : va_G} {ca : Nat → ClassId} {sa : Nat → Nat} (C : lw_C p l s m meth c b Ln xs D ca sa) {h0 hm ob : Nat} {ad : Nat → Nat} {k : Nat} {H : Heap} {locs : List Loc} {ls : Array Slot} {V : zV} {nc : Nat} {M : Nat → Nat → Int32} {th : Int32} {L : List Nat} {f : Nat → va_E} {g : Nat → Int64} (S : lw_S D ca s h0 hm ob b ad k (6 * k) H locs ls V nc M th L f g) (hk : k < 512) (hi : 6 * k + 6 ≤ Ln) {cells slots : Nat} {Q : State → Prop} (hroom : cells + 24 ≤ 601024 ∧ slots + 100 ≤ 7293034) {v1 v2 : Int32} (e1 : xs (6 * k + 1) = v1) (e2 : xs (6 * k + 2) = v2) {mc ms : Nat} (hmc : mc ≤ 24) (hms : ms ≤ 100) {V' : zV} {nc' : Nat} {M' : Nat → Nat → Int32} {P : Int64 → zU → Prop} {val : Int32} (hP9 : ∀ x u, P x u → x = val.toInt64 ∧ zR u.1 u.2 ca h0 (k + 1) V') (hI : Inv V' nc' M' (k + 1)) (hC : ∀ sz, vx_Met l yL_doubles wsL_doubles ({ frames := 10, cells := mc, slots := ms, locals := 450 }) (va_Pc [.ref h0, .int v1, .int v2, .ref ob] (zLp D L f ob g ca sa sz)) (va_Qi (fun (r : Int32) (u : zU × (Nat → Int64)) => r = nI 0 ∧ P (u.2 0) u.1) (fun u t => va_P D vwCl (oW ca ob u.2 ++ va_pl u.1.1 u.1.2) t.heap ∧ va_D (va_A (oW ca ob g ++ va_pl L f) sz) (oW ca ob u.2 ++ va_pl u.1.1 u.1.2)) (va_A (oW ca ob g ++ va_pl L f) sz)) zX0 mc ms (va_A (oW ca ob g ++ va_pl L f) sz)) (hM : ∀ sz, Met l yX5_doubles wsX5_doubles ({ frames := 9, cells := 0, slots := 0, locals := 360 }) (va_Pc [.ref hm, .int v1, .int v2] (zMp D (mW hm ad ca th (vTd V) (vNt V) (vNp V) nc M) ca sa sz)) (va_Qi (fun (r : Int32) (_ : Unit) => r = val) (fun _ t9 => va_P D vwCl (mW hm ad ca (nI 0) (vTd V') (vNt V') (vNp V') nc' M') t9.heap) (va_A (mW hm ad ca th (vTd V) (vNt V) (vNp V) nc M) sz)) 0 0 (va_A (mW hm ad ca th (vTd V) (vNt V) (vNp V) nc M) sz)) (kk : ∀ (V' : zV) (nc' : Nat) (M' : Nat → Nat → Int32) (th' : Int32) (L' : List Nat) (f' : Nat → va_E) (g' : Nat → Int64) (H1 : Heap) (locs1 : List Loc) (ls1 : Array Slot), lw_S D ca s h0 hm ob b ad (k + 1) (6 * k) H1 locs1 ls1 V' nc' M' th' L' f' g' → W p l e room_1 s m #[Value.ref b] below meth c H1 locs1 (cells + 24) (slots + 100) Q (F0 m 1551 ls1 [])) : W p l e room_1 s m #[Value.ref b] below meth c H locs cells slots Q (F0 m 1420 ls []) := by
  obtain ⟨⟨hx, hb, hml, hown, hts⟩, hX, hbl, hL3, hE, hN, hZ0, hl0⟩ := C
  obtain ⟨hI0, ⟨ta, pa, aT, aP, aS, aH, n9, hR⟩, hP, hY, hD, hS, hl⟩ := S
  have h4 := hR.1.1
  have hA : ∀ q : Nat, s.heap.size ≤ q → (fun q => s.heap.size ≤ q) q := fun _ h => h
  refine lv_aload_n hx hb dL_law_1420 rfl (lv_at hl 1 rfl) ?_
  refine lv_aload_n hx hb dL_law_1421 rfl (lv_at hl 0 rfl) ?_
  refine lv_iload hx hb dL_law_1422 (lv_at hl 4 rfl) ?_
  refine lv_iconst (v := nI 1) hx hb dL_law_1424 (by decide) ?_
  refine lv_iadd hx hb dL_law_1425 ?_
  refine zasi (show ((nI (6 * k)) + (nI 1)) = nI (6 * k + 1) from nI_add _ _) ?_
  refine zsl hx hb hX hbl hL3 hS (show 6 * k + 1 < Ln by omega) e1 dL_law_1426 ?_
  refine lv_aload_n hx hb dL_law_1427 rfl (lv_at hl 0 rfl) ?_
  refine lv_iload hx hb dL_law_1428 (lv_at hl 4 rfl) ?_
  refine lv_iconst (v := nI 2) hx hb dL_law_1430 (by decide) ?_
  refine lv_iadd hx hb dL_law_1431 ?_
  refine zasi (show ((nI (6 * k)) + (nI 2)) = nI (6 * k + 2) from nI_add _ _) ?_
  refine zsl hx hb hX hbl hL3 hS (show 6 * k + 2 < Ln by omega) e2 dL_law_1432 ?_
  refine lv_aload_n hx hb dL_law_1433 rfl (lv_at hl 3 rfl) ?_
  refine zgo (vx_runSX (As := [.ref h0, .int v1, .int v2, .ref ob]) (rest := []) ⟨hx, hb, hml, hown, hts⟩ (hC H.size) (vx_cwSW (bytes := cL_doubles) (maxL := 5) (ret := some .int) (hh := [(0, 10, 13, 20), (0, 10, 17, 13)]) 4 hts gL_law_L_doubles rfl rfl rfl (by decide +kernel) ⟨Nat.le_of_ble_eq_true rfl, Nat.le_of_ble_eq_true rfl⟩) (zLS hP (w2_l hD) hE hN (lwZ hZ0 hS) (fun q h => Nat.le_trans hS.1 h)) rfl rfl hl.1 rfl (lv_room (Nat.le_of_ble_eq_true rfl)) dL_law_1434 (by show _ ≤ 601024 ∧ _ ≤ 7293034; omega)) hY hD hS hA (fun u g1 H locs hu hP hY hD hS => ?_)
  obtain ⟨hv9, hR9⟩ := hP9 _ _ hu
  refine lv_istore (lv' := [(5, .int (nI 0)), (0, .ref b), (1, .ref h0), (2, .ref hm), (3, .ref ob), (4, .int (nI (6 * k)))]) hx hb dL_law_1437 hl (by decide) rfl (fun ls hl => ?_)
  refine lv_aload_n hx hb dL_law_1439 rfl (lv_at hl 3 rfl) ?_
  refine lv_aload_n hx hb dL_law_1440 rfl (lv_at hl 1 rfl) ?_
  refine lv_iload hx hb dL_law_1441 (lv_at hl 5 rfl) ?_
  refine lv_iconst (v := nI 1) hx hb dL_law_1443 (by decide) ?_
  refine lv_iadd hx hb dL_law_1444 ?_
  refine zasi (show ((nI (6 * k)) + (nI 1)) = nI (6 * k + 1) from nI_add _ _) ?_
  refine zsl hx hb hX hbl hL3 hS (show 6 * k + 1 < Ln by omega) e1 dL_law_1445 ?_
  refine lv_aload_n hx hb dL_law_1446 rfl (lv_at hl 1 rfl) ?_
  refine lv_iload hx hb dL_law_1447 (lv_at hl 5 rfl) ?_
  refine lv_iconst (v := nI 2) hx hb dL_law_1449 (by decide) ?_
  refine lv_iadd hx hb dL_law_1450 ?_
  refine zasi (show ((nI (6 * k)) + (nI 2)) = nI (6 * k + 2) from nI_add _ _) ?_
  refine zsl hx hb hX hbl hL3 hS (show 6 * k + 2 < Ln by omega) e2 dL_law_1451 ?_
  refine zgm (va_runV (As := [.int v1, .int v2]) (rest := []) ⟨hx, hb, hml, hown, hts⟩ (hM H.size) (cwV 2 hts gL_law_X5_doubles rfl rfl rfl (by decide +kernel) ⟨Nat.le_of_ble_eq_true rfl, Nat.le_of_ble_eq_true rfl⟩) (zmV (q0 := 0) (ci := 5) hY (w2_r hD) hE rfl rfl) rfl rfl hl.1 rfl (lv_room (Nat.le_of_ble_eq_true rfl)) dL_law_1452 (by show _ ≤ 601024 ∧ _ ≤ 7293034; omega)) hP hD hS hA rfl (fun r H locs hr9b hP hY hD hS => ?_)
  rw [show r = val from hr9b]
  refine lv_istore (lv' := [(6, .int val), (5, .int (nI 0)), (0, .ref b), (1, .ref h0), (2, .ref hm), (3, .ref ob), (4, .int (nI (6 * k)))]) hx hb dL_law_1455 hl (by decide) rfl (fun ls hl => ?_)
  refine lv_aload_n hx hb dL_law_1457 rfl (lv_at hl 4 rfl) ?_
  refine zci (va_runV (As := []) (rest := []) ⟨hx, hb, hml, hown, hts⟩ (m_thrown l D ca sa hm ad _ _ _ _ _ _) (cwV 0 hts gL_law_X5_thrown rfl rfl rfl (by decide +kernel) ⟨Nat.le_of_ble_eq_true rfl, Nat.le_of_ble_eq_true rfl⟩) (zpV (q0 := 0) (ci := 5) hY hE rfl rfl) rfl rfl hl.1 rfl (lv_room (Nat.le_of_ble_eq_true rfl)) dL_law_1458 (by show _ ≤ 601024 ∧ _ ≤ 7293034; omega)) ?_
  refine lv_iload hx hb dL_law_1461 (lv_at hl 1 rfl) ?_
  refine lv_icmp_eq (tgt := 1468) hx hb dL_law_1463 (by decide) (fun c_1463 => ?_) (fun c_1463 => ?_)
  · refine lv_iload hx hb dL_law_1468 (lv_at hl 1 rfl) ?_
    refine lv_if_ne (tgt := 1485) hx hb dL_law_1470 (by decide) (fun c_1470 => ?_) (fun c_1470 => ?_)
    · exact absurd c_1470 (by decide)
    · refine lv_aload_n hx hb dL_law_1473 rfl (lv_at hl 5 rfl) ?_
      refine lv_iconst (v := nI 0) hx hb dL_law_1474 (by decide) ?_
      refine zol hx hb hE hP hv9 dL_law_1475 ?_
      refine lv_iload hx hb dL_law_1476 (lv_at hl 0 rfl) ?_
      refine lv_i2l hx hb dL_law_1478 rfl ?_
      refine W.lcmp hx hb dL_law_1479 ?_
      refine zasi (show (lg_cmp (val.toInt64) (val.toInt64)) = nI 0 from zcmp _) ?_
      refine lv_if_eq (tgt := 1485) hx hb dL_law_1480 (by decide) (fun c_1480 => ?_) (fun c_1480 => ?_)
      · refine lv_goto (tgt := 1551) hx hb dL_law_1485 (by decide) ?_
        refine W.widen (k := cells + 24) (n := slots + 100) (by omega) (by omega) ?_
        exact kk V' nc' M' _ _ _ _ H locs ls ⟨hI, hR9, hP, hY, hD, hS, lv_sub hl [2, 3, 4, 5, 6] rfl⟩
      · exact absurd c_1480 (by decide)
  · exact absurd c_1463 (by decide)

set_option maxHeartbeats 4000000 in
set_option maxRecDepth 100000 in
theorem st_doubles_x {p : Program} {l : Launch} {e : Env} {s : State} {m : MethodId} {below : List Frame} {meth : Method} {c : Code} {b Ln : Nat} {xs : Nat → Int32} {D : va_G} {ca : Nat → ClassId} {sa : Nat → Nat} (C : lw_C p l s m meth c b Ln xs D ca sa) {h0 hm ob : Nat} {ad : Nat → Nat} {k : Nat} {H : Heap} {locs : List Loc} {ls : Array Slot} {V : zV} {nc : Nat} {M : Nat → Nat → Int32} {th : Int32} {L : List Nat} {f : Nat → va_E} {g : Nat → Int64} (S : lw_S D ca s h0 hm ob b ad k (6 * k) H locs ls V nc M th L f g) (hk : k < 512) (hi : 6 * k + 6 ≤ Ln) {cells slots : Nat} {Q : State → Prop} (hroom : cells + 24 ≤ 601024 ∧ slots + 100 ≤ 7293034) {v1 v2 : Int32} (e1 : xs (6 * k + 1) = v1) (e2 : xs (6 * k + 2) = v2) {mc ms : Nat} (hmc : mc ≤ 24) (hms : ms ≤ 100) {r9 : Int32} (hr9 : r9 = nI 1 ∨ r9 = nI 2) (hC : ∀ sz, vx_Met l yL_doubles wsL_doubles ({ frames := 10, cells := mc, slots := ms, locals := 450 }) (va_Pc [.ref h0, .int v1, .int v2, .ref ob] (zLp D L f ob g ca sa sz)) (va_Qi (fun (r : Int32) (_ : Unit) => r = r9) (fun _ _ => True) (fun q => sz ≤ q)) zX0 mc ms (fun q => sz ≤ q)) (hM : ∀ sz, Met l yX5_doubles wsX5_doubles ({ frames := 9, cells := 0, slots := 0, locals := 360 }) (va_Pc [.ref hm, .int v1, .int v2] (zMp D (mW hm ad ca th (vTd V) (vNt V) (vNp V) nc M) ca sa sz)) (va_Qi (fun (r : Int32) (_ : Unit) => True) (fun _ t9 => va_P D vwCl (mW hm ad ca r9 (vTd V) (vNt V) (vNp V) nc M) t9.heap) (va_A (mW hm ad ca th (vTd V) (vNt V) (vNp V) nc M) sz)) 0 0 (va_A (mW hm ad ca th (vTd V) (vNt V) (vNp V) nc M) sz)) (kk : ∀ (V' : zV) (nc' : Nat) (M' : Nat → Nat → Int32) (th' : Int32) (L' : List Nat) (f' : Nat → va_E) (g' : Nat → Int64) (H1 : Heap) (locs1 : List Loc) (ls1 : Array Slot), lw_S D ca s h0 hm ob b ad (k + 1) (6 * k) H1 locs1 ls1 V' nc' M' th' L' f' g' → W p l e room_1 s m #[Value.ref b] below meth c H1 locs1 (cells + 24) (slots + 100) Q (F0 m 1551 ls1 [])) : W p l e room_1 s m #[Value.ref b] below meth c H locs cells slots Q (F0 m 1420 ls []) := by
  obtain ⟨⟨hx, hb, hml, hown, hts⟩, hX, hbl, hL3, hE, hN, hZ0, hl0⟩ := C
  obtain ⟨hI0, ⟨ta, pa, aT, aP, aS, aH, n9, hR⟩, hP, hY, hD, hS, hl⟩ := S
  have h4 := hR.1.1
  have hA : ∀ q : Nat, s.heap.size ≤ q → (fun q => s.heap.size ≤ q) q := fun _ h => h
  refine lv_aload_n hx hb dL_law_1420 rfl (lv_at hl 1 rfl) ?_
  refine lv_aload_n hx hb dL_law_1421 rfl (lv_at hl 0 rfl) ?_
  refine lv_iload hx hb dL_law_1422 (lv_at hl 4 rfl) ?_
  refine lv_iconst (v := nI 1) hx hb dL_law_1424 (by decide) ?_
  refine lv_iadd hx hb dL_law_1425 ?_
  refine zasi (show ((nI (6 * k)) + (nI 1)) = nI (6 * k + 1) from nI_add _ _) ?_
  refine zsl hx hb hX hbl hL3 hS (show 6 * k + 1 < Ln by omega) e1 dL_law_1426 ?_
  refine lv_aload_n hx hb dL_law_1427 rfl (lv_at hl 0 rfl) ?_
  refine lv_iload hx hb dL_law_1428 (lv_at hl 4 rfl) ?_
  refine lv_iconst (v := nI 2) hx hb dL_law_1430 (by decide) ?_
  refine lv_iadd hx hb dL_law_1431 ?_
  refine zasi (show ((nI (6 * k)) + (nI 2)) = nI (6 * k + 2) from nI_add _ _) ?_
  refine zsl hx hb hX hbl hL3 hS (show 6 * k + 2 < Ln by omega) e2 dL_law_1432 ?_
  refine lv_aload_n hx hb dL_law_1433 rfl (lv_at hl 3 rfl) ?_
  refine zgx (vx_runSX (As := [.ref h0, .int v1, .int v2, .ref ob]) (rest := []) ⟨hx, hb, hml, hown, hts⟩ (hC H.size) (vx_cwSW (bytes := cL_doubles) (maxL := 5) (ret := some .int) (hh := [(0, 10, 13, 20), (0, 10, 17, 13)]) 4 hts gL_law_L_doubles rfl rfl rfl (by decide +kernel) ⟨Nat.le_of_ble_eq_true rfl, Nat.le_of_ble_eq_true rfl⟩) (zLS hP (w2_l hD) hE hN (lwZ hZ0 hS) (fun q h => Nat.le_trans hS.1 h)) rfl rfl hl.1 rfl (lv_room (Nat.le_of_ble_eq_true rfl)) dL_law_1434 (by show _ ≤ 601024 ∧ _ ≤ 7293034; omega)) hP hY hS hA (fun H locs hP hY hS => ?_)
  refine lv_istore (lv' := [(5, .int r9), (0, .ref b), (1, .ref h0), (2, .ref hm), (3, .ref ob), (4, .int (nI (6 * k)))]) hx hb dL_law_1437 hl (by decide) rfl (fun ls hl => ?_)
  refine lv_aload_n hx hb dL_law_1439 rfl (lv_at hl 3 rfl) ?_
  refine lv_aload_n hx hb dL_law_1440 rfl (lv_at hl 1 rfl) ?_
  refine lv_iload hx hb dL_law_1441 (lv_at hl 5 rfl) ?_
  refine lv_iconst (v := nI 1) hx hb dL_law_1443 (by decide) ?_
  refine lv_iadd hx hb dL_law_1444 ?_
  refine zasi (show ((nI (6 * k)) + (nI 1)) = nI (6 * k + 1) from nI_add _ _) ?_
  refine zsl hx hb hX hbl hL3 hS (show 6 * k + 1 < Ln by omega) e1 dL_law_1445 ?_
  refine lv_aload_n hx hb dL_law_1446 rfl (lv_at hl 1 rfl) ?_
  refine lv_iload hx hb dL_law_1447 (lv_at hl 5 rfl) ?_
  refine lv_iconst (v := nI 2) hx hb dL_law_1449 (by decide) ?_
  refine lv_iadd hx hb dL_law_1450 ?_
  refine zasi (show ((nI (6 * k)) + (nI 2)) = nI (6 * k + 2) from nI_add _ _) ?_
  refine zsl hx hb hX hbl hL3 hS (show 6 * k + 2 < Ln by omega) e2 dL_law_1451 ?_
  refine zgm (va_runV (As := [.int v1, .int v2]) (rest := []) ⟨hx, hb, hml, hown, hts⟩ (hM H.size) (cwV 2 hts gL_law_X5_doubles rfl rfl rfl (by decide +kernel) ⟨Nat.le_of_ble_eq_true rfl, Nat.le_of_ble_eq_true rfl⟩) (zmV (q0 := 0) (ci := 5) hY (w2_r hD) hE rfl rfl) rfl rfl hl.1 rfl (lv_room (Nat.le_of_ble_eq_true rfl)) dL_law_1452 (by show _ ≤ 601024 ∧ _ ≤ 7293034; omega)) hP hD hS hA rfl (fun r H locs hr9b hP hY hD hS => ?_)
  refine lv_istore (lv' := [(6, .int r), (5, .int r9), (0, .ref b), (1, .ref h0), (2, .ref hm), (3, .ref ob), (4, .int (nI (6 * k)))]) hx hb dL_law_1455 hl (by decide) rfl (fun ls hl => ?_)
  refine lv_aload_n hx hb dL_law_1457 rfl (lv_at hl 4 rfl) ?_
  refine zci (va_runV (As := []) (rest := []) ⟨hx, hb, hml, hown, hts⟩ (m_thrown l D ca sa hm ad _ _ _ _ _ _) (cwV 0 hts gL_law_X5_thrown rfl rfl rfl (by decide +kernel) ⟨Nat.le_of_ble_eq_true rfl, Nat.le_of_ble_eq_true rfl⟩) (zpV (q0 := 0) (ci := 5) hY hE rfl rfl) rfl rfl hl.1 rfl (lv_room (Nat.le_of_ble_eq_true rfl)) dL_law_1458 (by show _ ≤ 601024 ∧ _ ≤ 7293034; omega)) ?_
  refine lv_iload hx hb dL_law_1461 (lv_at hl 1 rfl) ?_
  refine lv_icmp_eq (tgt := 1468) hx hb dL_law_1463 (by decide) (fun c_1463 => ?_) (fun c_1463 => ?_)
  · refine lv_iload hx hb dL_law_1468 (lv_at hl 1 rfl) ?_
    refine lv_if_ne (tgt := 1485) hx hb dL_law_1470 (by decide) (fun c_1470 => ?_) (fun c_1470 => ?_)
    · refine lv_goto (tgt := 1551) hx hb dL_law_1485 (by decide) ?_
      refine W.widen (k := cells + 24) (n := slots + 100) (by omega) (by omega) ?_
      exact kk V nc M _ _ _ _ H locs ls ⟨i_up hI0 hk, ⟨ta, pa, aT, aP, aS, aH, n9, zRep_up hR (Nat.le_succ k) (by omega)⟩, hP, hY, hD, hS, lv_sub hl [2, 3, 4, 5, 6] rfl⟩
    · exact absurd c_1470 (by rcases hr9 with rfl | rfl <;> decide)
  · exact absurd rfl c_1463

set_option maxHeartbeats 4000000 in
set_option maxRecDepth 100000 in
theorem st_isNeedless_ok {p : Program} {l : Launch} {e : Env} {s : State} {m : MethodId} {below : List Frame} {meth : Method} {c : Code} {b Ln : Nat} {xs : Nat → Int32} {D : va_G} {ca : Nat → ClassId} {sa : Nat → Nat} (C : lw_C p l s m meth c b Ln xs D ca sa) {h0 hm ob : Nat} {ad : Nat → Nat} {k : Nat} {H : Heap} {locs : List Loc} {ls : Array Slot} {V : zV} {nc : Nat} {M : Nat → Nat → Int32} {th : Int32} {L : List Nat} {f : Nat → va_E} {g : Nat → Int64} (S : lw_S D ca s h0 hm ob b ad k (6 * k) H locs ls V nc M th L f g) (hk : k < 512) (hi : 6 * k + 6 ≤ Ln) {cells slots : Nat} {Q : State → Prop} (hroom : cells + 24 ≤ 601024 ∧ slots + 100 ≤ 7293034) {v1 : Int32} (e1 : xs (6 * k + 1) = v1) {mc ms : Nat} (hmc : mc ≤ 24) (hms : ms ≤ 100) {V' : zV} {nc' : Nat} {M' : Nat → Nat → Int32} {P : Int64 → zU → Prop} {bt : Bool} (hP9 : ∀ x u, P x u → x = bL bt ∧ zR u.1 u.2 ca h0 (k + 1) V') (hI : Inv V' nc' M' (k + 1)) (hC : ∀ sz, vx_Met l yL_isNeedless wsL_isNeedless ({ frames := 10, cells := mc, slots := ms, locals := 450 }) (va_Pc [.ref h0, .int v1, .ref ob] (zLp D L f ob g ca sa sz)) (va_Qi (fun (r : Int32) (u : zU × (Nat → Int64)) => r = nI 0 ∧ P (u.2 0) u.1) (fun u t => va_P D vwCl (oW ca ob u.2 ++ va_pl u.1.1 u.1.2) t.heap ∧ va_D (va_A (oW ca ob g ++ va_pl L f) sz) (oW ca ob u.2 ++ va_pl u.1.1 u.1.2)) (va_A (oW ca ob g ++ va_pl L f) sz)) zX0 mc ms (va_A (oW ca ob g ++ va_pl L f) sz)) (hM : ∀ sz, Met l yX5_isNeedless wsX5_isNeedless ({ frames := 9, cells := 0, slots := 0, locals := 360 }) (va_Pc [.ref hm, .int v1] (zMp D (mW hm ad ca th (vTd V) (vNt V) (vNp V) nc M) ca sa sz)) (va_Qi (fun (r : Int32) (_ : Unit) => r = bI bt) (fun _ t9 => va_P D vwCl (mW hm ad ca (nI 0) (vTd V') (vNt V') (vNp V') nc' M') t9.heap) (va_A (mW hm ad ca th (vTd V) (vNt V) (vNp V) nc M) sz)) 0 0 (va_A (mW hm ad ca th (vTd V) (vNt V) (vNp V) nc M) sz)) (kk : ∀ (V' : zV) (nc' : Nat) (M' : Nat → Nat → Int32) (th' : Int32) (L' : List Nat) (f' : Nat → va_E) (g' : Nat → Int64) (H1 : Heap) (locs1 : List Loc) (ls1 : Array Slot), lw_S D ca s h0 hm ob b ad (k + 1) (6 * k) H1 locs1 ls1 V' nc' M' th' L' f' g' → W p l e room_1 s m #[Value.ref b] below meth c H1 locs1 (cells + 24) (slots + 100) Q (F0 m 1551 ls1 [])) : W p l e room_1 s m #[Value.ref b] below meth c H locs cells slots Q (F0 m 1488 ls []) := by
  obtain ⟨⟨hx, hb, hml, hown, hts⟩, hX, hbl, hL3, hE, hN, hZ0, hl0⟩ := C
  obtain ⟨hI0, ⟨ta, pa, aT, aP, aS, aH, n9, hR⟩, hP, hY, hD, hS, hl⟩ := S
  have h4 := hR.1.1
  have hA : ∀ q : Nat, s.heap.size ≤ q → (fun q => s.heap.size ≤ q) q := fun _ h => h
  refine lv_aload_n hx hb dL_law_1488 rfl (lv_at hl 1 rfl) ?_
  refine lv_aload_n hx hb dL_law_1489 rfl (lv_at hl 0 rfl) ?_
  refine lv_iload hx hb dL_law_1490 (lv_at hl 4 rfl) ?_
  refine lv_iconst (v := nI 1) hx hb dL_law_1492 (by decide) ?_
  refine lv_iadd hx hb dL_law_1493 ?_
  refine zasi (show ((nI (6 * k)) + (nI 1)) = nI (6 * k + 1) from nI_add _ _) ?_
  refine zsl hx hb hX hbl hL3 hS (show 6 * k + 1 < Ln by omega) e1 dL_law_1494 ?_
  refine lv_aload_n hx hb dL_law_1495 rfl (lv_at hl 3 rfl) ?_
  refine zgo (vx_runSX (As := [.ref h0, .int v1, .ref ob]) (rest := []) ⟨hx, hb, hml, hown, hts⟩ (hC H.size) (vx_cwSW (bytes := cL_isNeedless) (maxL := 4) (ret := some .int) (hh := [(0, 16, 19, 20)]) 3 hts gL_law_L_isNeedless rfl rfl rfl (by decide +kernel) ⟨Nat.le_of_ble_eq_true rfl, Nat.le_of_ble_eq_true rfl⟩) (zLS hP (w2_l hD) hE hN (lwZ hZ0 hS) (fun q h => Nat.le_trans hS.1 h)) rfl rfl hl.1 rfl (lv_room (Nat.le_of_ble_eq_true rfl)) dL_law_1496 (by show _ ≤ 601024 ∧ _ ≤ 7293034; omega)) hY hD hS hA (fun u g1 H locs hu hP hY hD hS => ?_)
  obtain ⟨hv9, hR9⟩ := hP9 _ _ hu
  refine lv_istore (lv' := [(5, .int (nI 0)), (0, .ref b), (1, .ref h0), (2, .ref hm), (3, .ref ob), (4, .int (nI (6 * k)))]) hx hb dL_law_1499 hl (by decide) rfl (fun ls hl => ?_)
  refine lv_aload_n hx hb dL_law_1501 rfl (lv_at hl 3 rfl) ?_
  refine lv_aload_n hx hb dL_law_1502 rfl (lv_at hl 1 rfl) ?_
  refine lv_iload hx hb dL_law_1503 (lv_at hl 5 rfl) ?_
  refine lv_iconst (v := nI 1) hx hb dL_law_1505 (by decide) ?_
  refine lv_iadd hx hb dL_law_1506 ?_
  refine zasi (show ((nI (6 * k)) + (nI 1)) = nI (6 * k + 1) from nI_add _ _) ?_
  refine zsl hx hb hX hbl hL3 hS (show 6 * k + 1 < Ln by omega) e1 dL_law_1507 ?_
  refine zgm (va_runV (As := [.int v1]) (rest := []) ⟨hx, hb, hml, hown, hts⟩ (hM H.size) (cwV 1 hts gL_law_X5_isNeedless rfl rfl rfl (by decide +kernel) ⟨Nat.le_of_ble_eq_true rfl, Nat.le_of_ble_eq_true rfl⟩) (zmV (q0 := 0) (ci := 5) hY (w2_r hD) hE rfl rfl) rfl rfl hl.1 rfl (lv_room (Nat.le_of_ble_eq_true rfl)) dL_law_1508 (by show _ ≤ 601024 ∧ _ ≤ 7293034; omega)) hP hD hS hA rfl (fun r H locs hr9b hP hY hD hS => ?_)
  subst hr9b
  refine lv_istore (lv' := [(6, .int (bI bt)), (5, .int (nI 0)), (0, .ref b), (1, .ref h0), (2, .ref hm), (3, .ref ob), (4, .int (nI (6 * k)))]) hx hb dL_law_1511 hl (by decide) rfl (fun ls hl => ?_)
  refine lv_aload_n hx hb dL_law_1513 rfl (lv_at hl 4 rfl) ?_
  refine zci (va_runV (As := []) (rest := []) ⟨hx, hb, hml, hown, hts⟩ (m_thrown l D ca sa hm ad _ _ _ _ _ _) (cwV 0 hts gL_law_X5_thrown rfl rfl rfl (by decide +kernel) ⟨Nat.le_of_ble_eq_true rfl, Nat.le_of_ble_eq_true rfl⟩) (zpV (q0 := 0) (ci := 5) hY hE rfl rfl) rfl rfl hl.1 rfl (lv_room (Nat.le_of_ble_eq_true rfl)) dL_law_1514 (by show _ ≤ 601024 ∧ _ ≤ 7293034; omega)) ?_
  refine lv_iload hx hb dL_law_1517 (lv_at hl 1 rfl) ?_
  refine lv_icmp_eq (tgt := 1524) hx hb dL_law_1519 (by decide) (fun c_1519 => ?_) (fun c_1519 => ?_)
  · refine lv_iload hx hb dL_law_1524 (lv_at hl 1 rfl) ?_
    refine lv_if_ne (tgt := 1548) hx hb dL_law_1526 (by decide) (fun c_1526 => ?_) (fun c_1526 => ?_)
    · exact absurd c_1526 (by decide)
    · refine lv_aload_n hx hb dL_law_1529 rfl (lv_at hl 5 rfl) ?_
      refine lv_iconst (v := nI 0) hx hb dL_law_1530 (by decide) ?_
      refine zol hx hb hE hP hv9 dL_law_1531 ?_
      refine lv_iload hx hb dL_law_1532 (lv_at hl 0 rfl) ?_
      refine lv_if_eq (tgt := 1541) hx hb dL_law_1534 (by decide) (fun c_1534 => ?_) (fun c_1534 => ?_)
      · refine lv_lconst (v := 0) hx hb dL_law_1541 (by decide) ?_
        refine W.lcmp hx hb dL_law_1542 ?_
        refine zasi (show (lg_cmp ((bL bt)) 0) = nI 0 from by rw [bI_eq0 c_1534]; exact zcmp _) ?_
        refine lv_if_eq (tgt := 1548) hx hb dL_law_1543 (by decide) (fun c_1543 => ?_) (fun c_1543 => ?_)
        · refine lv_goto (tgt := 1551) hx hb dL_law_1548 (by decide) ?_
          refine W.widen (k := cells + 24) (n := slots + 100) (by omega) (by omega) ?_
          exact kk V' nc' M' _ _ _ _ H locs ls ⟨hI, hR9, hP, hY, hD, hS, lv_sub hl [2, 3, 4, 5, 6] rfl⟩
        · exact absurd c_1543 (by decide)
      · refine lv_lconst (v := 1) hx hb dL_law_1537 (by decide) ?_
        refine lv_goto (tgt := 1542) hx hb dL_law_1538 (by decide) ?_
        refine W.lcmp hx hb dL_law_1542 ?_
        refine zasi (show (lg_cmp ((bL bt)) 1) = nI 0 from by rw [bI_ne0 c_1534]; exact zcmp _) ?_
        refine lv_if_eq (tgt := 1548) hx hb dL_law_1543 (by decide) (fun c_1543 => ?_) (fun c_1543 => ?_)
        · refine lv_goto (tgt := 1551) hx hb dL_law_1548 (by decide) ?_
          refine W.widen (k := cells + 24) (n := slots + 100) (by omega) (by omega) ?_
          exact kk V' nc' M' _ _ _ _ H locs ls ⟨hI, hR9, hP, hY, hD, hS, lv_sub hl [2, 3, 4, 5, 6] rfl⟩
        · exact absurd c_1543 (by decide)
  · exact absurd c_1519 (by decide)

set_option maxHeartbeats 4000000 in
set_option maxRecDepth 100000 in
theorem st_isNeedless_x {p : Program} {l : Launch} {e : Env} {s : State} {m : MethodId} {below : List Frame} {meth : Method} {c : Code} {b Ln : Nat} {xs : Nat → Int32} {D : va_G} {ca : Nat → ClassId} {sa : Nat → Nat} (C : lw_C p l s m meth c b Ln xs D ca sa) {h0 hm ob : Nat} {ad : Nat → Nat} {k : Nat} {H : Heap} {locs : List Loc} {ls : Array Slot} {V : zV} {nc : Nat} {M : Nat → Nat → Int32} {th : Int32} {L : List Nat} {f : Nat → va_E} {g : Nat → Int64} (S : lw_S D ca s h0 hm ob b ad k (6 * k) H locs ls V nc M th L f g) (hk : k < 512) (hi : 6 * k + 6 ≤ Ln) {cells slots : Nat} {Q : State → Prop} (hroom : cells + 24 ≤ 601024 ∧ slots + 100 ≤ 7293034) {v1 : Int32} (e1 : xs (6 * k + 1) = v1) {mc ms : Nat} (hmc : mc ≤ 24) (hms : ms ≤ 100) {r9 : Int32} (hr9 : r9 = nI 1 ∨ r9 = nI 2) (hC : ∀ sz, vx_Met l yL_isNeedless wsL_isNeedless ({ frames := 10, cells := mc, slots := ms, locals := 450 }) (va_Pc [.ref h0, .int v1, .ref ob] (zLp D L f ob g ca sa sz)) (va_Qi (fun (r : Int32) (_ : Unit) => r = r9) (fun _ _ => True) (fun q => sz ≤ q)) zX0 mc ms (fun q => sz ≤ q)) (hM : ∀ sz, Met l yX5_isNeedless wsX5_isNeedless ({ frames := 9, cells := 0, slots := 0, locals := 360 }) (va_Pc [.ref hm, .int v1] (zMp D (mW hm ad ca th (vTd V) (vNt V) (vNp V) nc M) ca sa sz)) (va_Qi (fun (r : Int32) (_ : Unit) => True) (fun _ t9 => va_P D vwCl (mW hm ad ca r9 (vTd V) (vNt V) (vNp V) nc M) t9.heap) (va_A (mW hm ad ca th (vTd V) (vNt V) (vNp V) nc M) sz)) 0 0 (va_A (mW hm ad ca th (vTd V) (vNt V) (vNp V) nc M) sz)) (kk : ∀ (V' : zV) (nc' : Nat) (M' : Nat → Nat → Int32) (th' : Int32) (L' : List Nat) (f' : Nat → va_E) (g' : Nat → Int64) (H1 : Heap) (locs1 : List Loc) (ls1 : Array Slot), lw_S D ca s h0 hm ob b ad (k + 1) (6 * k) H1 locs1 ls1 V' nc' M' th' L' f' g' → W p l e room_1 s m #[Value.ref b] below meth c H1 locs1 (cells + 24) (slots + 100) Q (F0 m 1551 ls1 [])) : W p l e room_1 s m #[Value.ref b] below meth c H locs cells slots Q (F0 m 1488 ls []) := by
  obtain ⟨⟨hx, hb, hml, hown, hts⟩, hX, hbl, hL3, hE, hN, hZ0, hl0⟩ := C
  obtain ⟨hI0, ⟨ta, pa, aT, aP, aS, aH, n9, hR⟩, hP, hY, hD, hS, hl⟩ := S
  have h4 := hR.1.1
  have hA : ∀ q : Nat, s.heap.size ≤ q → (fun q => s.heap.size ≤ q) q := fun _ h => h
  refine lv_aload_n hx hb dL_law_1488 rfl (lv_at hl 1 rfl) ?_
  refine lv_aload_n hx hb dL_law_1489 rfl (lv_at hl 0 rfl) ?_
  refine lv_iload hx hb dL_law_1490 (lv_at hl 4 rfl) ?_
  refine lv_iconst (v := nI 1) hx hb dL_law_1492 (by decide) ?_
  refine lv_iadd hx hb dL_law_1493 ?_
  refine zasi (show ((nI (6 * k)) + (nI 1)) = nI (6 * k + 1) from nI_add _ _) ?_
  refine zsl hx hb hX hbl hL3 hS (show 6 * k + 1 < Ln by omega) e1 dL_law_1494 ?_
  refine lv_aload_n hx hb dL_law_1495 rfl (lv_at hl 3 rfl) ?_
  refine zgx (vx_runSX (As := [.ref h0, .int v1, .ref ob]) (rest := []) ⟨hx, hb, hml, hown, hts⟩ (hC H.size) (vx_cwSW (bytes := cL_isNeedless) (maxL := 4) (ret := some .int) (hh := [(0, 16, 19, 20)]) 3 hts gL_law_L_isNeedless rfl rfl rfl (by decide +kernel) ⟨Nat.le_of_ble_eq_true rfl, Nat.le_of_ble_eq_true rfl⟩) (zLS hP (w2_l hD) hE hN (lwZ hZ0 hS) (fun q h => Nat.le_trans hS.1 h)) rfl rfl hl.1 rfl (lv_room (Nat.le_of_ble_eq_true rfl)) dL_law_1496 (by show _ ≤ 601024 ∧ _ ≤ 7293034; omega)) hP hY hS hA (fun H locs hP hY hS => ?_)
  refine lv_istore (lv' := [(5, .int r9), (0, .ref b), (1, .ref h0), (2, .ref hm), (3, .ref ob), (4, .int (nI (6 * k)))]) hx hb dL_law_1499 hl (by decide) rfl (fun ls hl => ?_)
  refine lv_aload_n hx hb dL_law_1501 rfl (lv_at hl 3 rfl) ?_
  refine lv_aload_n hx hb dL_law_1502 rfl (lv_at hl 1 rfl) ?_
  refine lv_iload hx hb dL_law_1503 (lv_at hl 5 rfl) ?_
  refine lv_iconst (v := nI 1) hx hb dL_law_1505 (by decide) ?_
  refine lv_iadd hx hb dL_law_1506 ?_
  refine zasi (show ((nI (6 * k)) + (nI 1)) = nI (6 * k + 1) from nI_add _ _) ?_
  refine zsl hx hb hX hbl hL3 hS (show 6 * k + 1 < Ln by omega) e1 dL_law_1507 ?_
  refine zgm (va_runV (As := [.int v1]) (rest := []) ⟨hx, hb, hml, hown, hts⟩ (hM H.size) (cwV 1 hts gL_law_X5_isNeedless rfl rfl rfl (by decide +kernel) ⟨Nat.le_of_ble_eq_true rfl, Nat.le_of_ble_eq_true rfl⟩) (zmV (q0 := 0) (ci := 5) hY (w2_r hD) hE rfl rfl) rfl rfl hl.1 rfl (lv_room (Nat.le_of_ble_eq_true rfl)) dL_law_1508 (by show _ ≤ 601024 ∧ _ ≤ 7293034; omega)) hP hD hS hA rfl (fun r H locs hr9b hP hY hD hS => ?_)
  refine lv_istore (lv' := [(6, .int r), (5, .int r9), (0, .ref b), (1, .ref h0), (2, .ref hm), (3, .ref ob), (4, .int (nI (6 * k)))]) hx hb dL_law_1511 hl (by decide) rfl (fun ls hl => ?_)
  refine lv_aload_n hx hb dL_law_1513 rfl (lv_at hl 4 rfl) ?_
  refine zci (va_runV (As := []) (rest := []) ⟨hx, hb, hml, hown, hts⟩ (m_thrown l D ca sa hm ad _ _ _ _ _ _) (cwV 0 hts gL_law_X5_thrown rfl rfl rfl (by decide +kernel) ⟨Nat.le_of_ble_eq_true rfl, Nat.le_of_ble_eq_true rfl⟩) (zpV (q0 := 0) (ci := 5) hY hE rfl rfl) rfl rfl hl.1 rfl (lv_room (Nat.le_of_ble_eq_true rfl)) dL_law_1514 (by show _ ≤ 601024 ∧ _ ≤ 7293034; omega)) ?_
  refine lv_iload hx hb dL_law_1517 (lv_at hl 1 rfl) ?_
  refine lv_icmp_eq (tgt := 1524) hx hb dL_law_1519 (by decide) (fun c_1519 => ?_) (fun c_1519 => ?_)
  · refine lv_iload hx hb dL_law_1524 (lv_at hl 1 rfl) ?_
    refine lv_if_ne (tgt := 1548) hx hb dL_law_1526 (by decide) (fun c_1526 => ?_) (fun c_1526 => ?_)
    · refine lv_goto (tgt := 1551) hx hb dL_law_1548 (by decide) ?_
      refine W.widen (k := cells + 24) (n := slots + 100) (by omega) (by omega) ?_
      exact kk V nc M _ _ _ _ H locs ls ⟨i_up hI0 hk, ⟨ta, pa, aT, aP, aS, aH, n9, zRep_up hR (Nat.le_succ k) (by omega)⟩, hP, hY, hD, hS, lv_sub hl [2, 3, 4, 5, 6] rfl⟩
    · exact absurd c_1526 (by rcases hr9 with rfl | rfl <;> decide)
  · exact absurd rfl c_1519
