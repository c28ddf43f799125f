/-! one step of the law: it is true, and the rows keep in step with the class -/
def sp_C (p : Program) (s : State) (m : MethodId) (meth : Method) (c : Code) (args : Array Value) (D : va_G) (ca : Nat → ClassId) (sa : Nat → Nat) : Prop :=
  (p.tables.exec = Jvm.exec ∧ c.code = cL_step ∧ c.maxLocals = 22 ∧ s.vm.findClass RL = some m.cls ∧ ∀ w ∈ wsL_step, w.before args s = true) ∧ zE D ca sa s
def sp_S (s : State) (D : va_G) (ca : Nat → ClassId) (L : List Nat) (f : Nat → va_E) (aa : Nat → Nat) (T : zT) (A : Nat → Prop) : Prop :=
  va_P D vwCl (va_pl L f) s.heap ∧ va_P D vwCl (tW ca aa T) s.heap ∧ va_D A (va_pl L f ++ tW ca aa T) ∧ (∀ q : Nat, s.heap.size ≤ q → A q)
def sp_F (p : Program) (l : Launch) (e : Env) (R : Room) (s : State) (m : MethodId) (args : Array Value) (below : List Frame) (meth : Method) (c : Code) (D : va_G) (ca : Nat → ClassId) (aa : Nat → Nat) (A : Nat → Prop) (h0 K : Nat) (Q : State → Prop) : Prop :=
  ∀ (pc1 : Nat) (V1 : zV) (T1 : zT) (u : zU) (H1 : Heap) (locs1 : List Loc) (ls1 : Array Slot), decode cL_step pc1 = .ok (.ireturn, 1) → Jv V1 T1 → zR u.1 u.2 ca h0 (K + 1) V1 → va_P D vwCl (va_pl u.1 u.2) H1 → va_P D vwCl (tW ca aa T1) H1 → va_D A (va_pl u.1 u.2 ++ tW ca aa T1) → va_S A s.heap H1 locs1 → W p l e R s m args below meth c H1 locs1 23 68 Q (F0 m pc1 ls1 [.int (nI 1)])
set_option maxHeartbeats 4000000 in
set_option maxRecDepth 100000 in
theorem sp_pack {p : Program} {l : Launch} {e : Env} {s : State} {m : MethodId} {below : List Frame} {meth : Method} {c : Code} {D : va_G} {ca : Nat → ClassId} {sa : Nat → Nat} {L : List Nat} {f : Nat → va_E} {h0 ta pa : Nat} {aT aP aS : Nat → Nat} {aH : Nat → Nat → Nat} {n K : Nat} {V : zV} {aa : Nat → Nat} {T : zT} {A : Nat → Prop} {Q : State → Prop} {w9 a b : Nat} {ls : Array Slot} (hR : zRep L f ca h0 ta pa aT aP aS aH n K V) (J : Jv V T) (hK : K < 512) (hw9 : w9 < 2147483648) (ha9 : a < 2147483648) (hb9 : b < 2147483648) (C : sp_C p s m meth c ([.ref h0, .ref (aa 0), .ref (aa 1), .ref (aa 2), .int (nI w9), .int (nI a), .int (nI b)] : List Value).toArray D ca sa) (S : sp_S s D ca L f aa T A) (F : sp_F p l e (headSpec wsL_step ({ frames := 10, cells := 23, slots := 68, locals := 480 })).room s m ([.ref h0, .ref (aa 0), .ref (aa 1), .ref (aa 2), .int (nI w9), .int (nI a), .int (nI b)] : List Value).toArray below meth c D ca aa A h0 K Q) (hn : vNp V < 6) (hl : lv_has ls 22 [(8, .int (nI (vNt V))), (7, .int (nI (vNp V))), (0, .ref h0), (1, .ref (aa 0)), (2, .ref (aa 1)), (3, .ref (aa 2)), (4, .int (nI w9)), (5, .int (nI a)), (6, .int (nI b))]) : W p l e (headSpec wsL_step ({ frames := 10, cells := 23, slots := 68, locals := 480 })).room s m ([.ref h0, .ref (aa 0), .ref (aa 1), .ref (aa 2), .int (nI w9), .int (nI a), .int (nI b)] : List Value).toArray below meth c s.heap [] 0 0 Q (F0 m 32 ls []) := by
  have C0 := C
  have S0 := S
  obtain ⟨⟨hx, hb, hml, hown, hts⟩, hE⟩ := C
  obtain ⟨hP, hT, hD, hA⟩ := S
  have hS : va_S A s.heap s.heap [] := va_S.rf
  have h4 := hR.1.1
  have hBd := Bd_of hR
  have htd9 := hBd.1.1
  have hnp9 := J.1.2.1
  have hnt9 := J.1.2.2.2.1
  refine lv_aload_n hx hb dL_step_32 rfl (lv_at hl 3 rfl) ?_
  refine lv_iload hx hb dL_step_33 (lv_at hl 1 rfl) ?_
  refine lv_iload hx hb dL_step_35 (lv_at hl 7 rfl) ?_
  refine lv_iload hx hb dL_step_37 (lv_at hl 8 rfl) ?_
  refine lv_iconst (v := nI 2) hx hb dL_step_39 (by decide) ?_
  refine nrem hx hb (by omega) (by omega) (by omega) dL_step_40 ?_
  refine tern (M := 51) (rest := [.int (nI a), .int (nI (vNp V)), .ref (aa 0)]) (P := fun v9 : Nat => v9 = 1001 ∨ v9 = 3) (fun K9 => ?_) (fun m9 hm9 => ?_)
  · refine nif_ne (tgt := 50) hx hb dL_step_41 (by decide) (by omega) (fun c_41 => ?_) (fun c_41 => ?_)
    · refine lv_iconst (v := nI 3) hx hb dL_step_50 (by decide) ?_
      exact K9 3 (by first | exact Or.inl rfl | exact Or.inr rfl)
    · refine lv_sipush (v := nI 1001) hx hb dL_step_44 (by decide) ?_
      refine lv_goto (tgt := 51) hx hb dL_step_47 (by decide) ?_
      exact K9 1001 (by first | exact Or.inl rfl | exact Or.inr rfl)
  refine nrem hx hb (by omega) (by omega) (by omega) dL_step_51 ?_
  have hcs : (a % m9) ≤ 1000 := by
    have h7 := Nat.mod_lt a (show 0 < m9 by omega)
    omega
  generalize (a % m9) = cs at hcs ⊢
  refine ztst hx hb hE hP hT hD hS 0 (by decide) (i := (vNp V)) (v := cs) (by show (vNp V) < 41; omega) dL_step_52 (fun H locs hP hT hD hS => ?_)
  refine lv_aload_n hx hb dL_step_53 rfl (lv_at hl 3 rfl) ?_
  refine lv_bipush (v := nI 6) hx hb dL_step_54 (by decide) ?_
  refine lv_iload hx hb dL_step_56 (lv_at hl 1 rfl) ?_
  refine nadd hx hb dL_step_58 ?_
  refine lv_iload hx hb dL_step_59 (lv_at hl 8 rfl) ?_
  refine lv_iconst (v := nI 3) hx hb dL_step_61 (by decide) ?_
  refine nrem hx hb (by omega) (by omega) (by omega) dL_step_62 ?_
  refine ztst hx hb hE hP hT hD hS 0 (by decide) (i := (6 + (vNp V))) (v := (b % 3)) (by show (6 + (vNp V)) < 41; omega) dL_step_63 (fun H locs hP hT hD hS => ?_)
  refine lv_aload_n hx hb dL_step_64 rfl (lv_at hl 3 rfl) ?_
  refine lv_bipush (v := nI 12) hx hb dL_step_65 (by decide) ?_
  refine lv_iload hx hb dL_step_67 (lv_at hl 1 rfl) ?_
  refine nadd hx hb dL_step_69 ?_
  refine lv_iload hx hb dL_step_70 (lv_at hl 8 rfl) ?_
  refine lv_iconst (v := nI 3) hx hb dL_step_72 (by decide) ?_
  refine ndiv hx hb (by omega) (by omega) (by omega) dL_step_73 ?_
  refine lv_bipush (v := nI 16) hx hb dL_step_74 (by decide) ?_
  refine nrem hx hb (by omega) (by omega) (by omega) dL_step_76 ?_
  refine ztst hx hb hE hP hT hD hS 0 (by decide) (i := (12 + (vNp V))) (v := ((b / 3) % 16)) (by show (12 + (vNp V)) < 41; omega) dL_step_77 (fun H locs hP hT hD hS => ?_)
  refine lv_aload_n hx hb dL_step_78 rfl (lv_at hl 3 rfl) ?_
  refine lv_bipush (v := nI 18) hx hb dL_step_79 (by decide) ?_
  refine lv_iload hx hb dL_step_81 (lv_at hl 1 rfl) ?_
  refine nadd hx hb dL_step_83 ?_
  refine lv_iload hx hb dL_step_84 (lv_at hl 8 rfl) ?_
  refine lv_bipush (v := nI 48) hx hb dL_step_86 (by decide) ?_
  refine ndiv hx hb (by omega) (by omega) (by omega) dL_step_88 ?_
  refine lv_iconst (v := nI 2) hx hb dL_step_89 (by decide) ?_
  refine nrem hx hb (by omega) (by omega) (by omega) dL_step_90 ?_
  refine ztst hx hb hE hP hT hD hS 0 (by decide) (i := (18 + (vNp V))) (v := ((b / 48) % 2)) (by show (18 + (vNp V)) < 41; omega) dL_step_91 (fun H locs hP hT hD hS => ?_)
  refine lv_aload_n hx hb dL_step_92 rfl (lv_at hl 3 rfl) ?_
  refine lv_bipush (v := nI 38) hx hb dL_step_93 (by decide) ?_
  refine lv_dup2_11 hx hb dL_step_95 rfl rfl ?_
  refine zti hx hb hE hT 0 (by decide) (i := 38) (by show 38 < 41; omega) dL_step_96 ?_
  refine zasi (congrArg nI (show ((tU (tU (tU (tU T 0 (vNp V) cs) 0 (6 + (vNp V)) (b % 3)) 0 (12 + (vNp V)) ((b / 3) % 16)) 0 (18 + (vNp V)) ((b / 48) % 2)) 0 38) = vNp V from by rw [tU_n (by omega), tU_n (by omega), tU_n (by omega), tU_n (by omega)]; exact J.1.1)) ?_
  refine lv_iconst (v := nI 1) hx hb dL_step_97 (by decide) ?_
  refine nadd hx hb dL_step_98 ?_
  refine ztst hx hb hE hP hT hD hS 0 (by decide) (i := 38) (v := ((vNp V) + 1)) (by show 38 < 41; omega) dL_step_99 (fun H locs hP hT hD hS => ?_)
  refine lv_aload_n hx hb dL_step_100 rfl (lv_at hl 2 rfl) ?_
  refine lv_aload_n hx hb dL_step_101 rfl (lv_at hl 3 rfl) ?_
  refine lv_iload hx hb dL_step_102 (lv_at hl 1 rfl) ?_
  refine zti hx hb hE hT 0 (by decide) (i := (vNp V)) (by show (vNp V) < 41; omega) dL_step_104 ?_
  refine zasi (congrArg nI (show ((tU (tU (tU (tU (tU T 0 (vNp V) cs) 0 (6 + (vNp V)) (b % 3)) 0 (12 + (vNp V)) ((b / 3) % 16)) 0 (18 + (vNp V)) ((b / 48) % 2)) 0 38 ((vNp V) + 1)) 0 (vNp V)) = cs from by rw [tU_n (by omega), tU_n (by omega), tU_n (by omega), tU_n (by omega), tU_s])) ?_
  refine lv_iload hx hb dL_step_105 (lv_at hl 8 rfl) ?_
  refine lv_iconst (v := nI 3) hx hb dL_step_107 (by decide) ?_
  refine nrem hx hb (by omega) (by omega) (by omega) dL_step_108 ?_
  refine lv_iload hx hb dL_step_109 (lv_at hl 8 rfl) ?_
  refine lv_iconst (v := nI 3) hx hb dL_step_111 (by decide) ?_
  refine ndiv hx hb (by omega) (by omega) (by omega) dL_step_112 ?_
  refine lv_bipush (v := nI 16) hx hb dL_step_113 (by decide) ?_
  refine nrem hx hb (by omega) (by omega) (by omega) dL_step_115 ?_
  refine lv_iload hx hb dL_step_116 (lv_at hl 8 rfl) ?_
  refine lv_bipush (v := nI 48) hx hb dL_step_118 (by decide) ?_
  refine ndiv hx hb (by omega) (by omega) (by omega) dL_step_120 ?_
  refine lv_iconst (v := nI 2) hx hb dL_step_121 (by decide) ?_
  refine nrem hx hb (by omega) (by omega) (by omega) dL_step_122 ?_
  refine ztw (va_runV (As := [.int (nI cs), .int (nI (b % 3)), .int (nI ((b / 3) % 16)), .int (nI ((b / 48) % 2))]) (rest := []) ⟨hx, hb, hml, hown, hts⟩ (w_addPackage l D ca sa L f h0 ta pa aT aP aS aH n K V hR cs (b % 3) (b / 3 % 16) (b / 48 % 2) hcs (by omega) (by omega) (by omega) (by omega) hK _) (cwV 4 hts gL_step_X4_addPackage rfl rfl rfl (by decide +kernel) ⟨Nat.le_of_ble_eq_true rfl, Nat.le_of_ble_eq_true rfl⟩) (zmVp hP (w2_l hD) hE rfl h4) rfl rfl hl.1 rfl (lv_room (Nat.le_of_ble_eq_true rfl)) dL_step_123 ⟨Nat.le_of_ble_eq_true rfl, Nat.le_of_ble_eq_true rfl⟩) hT hD hS hA (fun r u H locs hu hP hT hD hS => ?_)
  obtain ⟨rfl, hu⟩ := hu
  obtain ⟨_, _, _, _, _, _, _, hR9⟩ := hu
  have h4 := hR9.1.1
  have Jn := j_pack J hn cs (b % 3) (b / 3 % 16) (b / 48 % 2)
  refine lv_iload hx hb dL_step_126 (lv_at hl 1 rfl) ?_
  refine nicmp_ne (tgt := 148) hx hb dL_step_128 (by decide) (by omega) (by omega) (fun c_128 => ?_) (fun c_128 => ?_)
  · exact absurd rfl c_128
  · refine lv_aload_n hx hb dL_step_131 rfl (lv_at hl 2 rfl) ?_
    refine lv_iload hx hb dL_step_132 (lv_at hl 1 rfl) ?_
    refine lv_aload_n hx hb dL_step_134 rfl (lv_at hl 3 rfl) ?_
    refine lv_bipush (v := nI 40) hx hb dL_step_135 (by decide) ?_
    refine zti hx hb hE hT 0 (by decide) (i := 40) (by show 40 < 41; omega) dL_step_137 ?_
    refine zasi (congrArg nI (show ((tU (tU (tU (tU (tU T 0 (vNp V) cs) 0 (6 + (vNp V)) (b % 3)) 0 (12 + (vNp V)) ((b / 3) % 16)) 0 (18 + (vNp V)) ((b / 48) % 2)) 0 38 ((vNp V) + 1)) 0 40) = vTd V from Jn.1.2.2.2.2)) ?_
    refine zci (va_runV (As := [.int (nI (vNp V)), .int (nI (vTd V))]) (rest := []) ⟨hx, hb, hml, hown, hts⟩ (c_isSub l D ca sa u.1 u.2 h0 _ _ _ _ _ _ _ _ _ hR9 (vNp V) (Nat.lt_succ_self _) (vTd V) (Nat.le_refl _)) (cwV 2 hts gL_step_X4_isSubscribed rfl rfl rfl (by decide +kernel) ⟨Nat.le_of_ble_eq_true rfl, Nat.le_of_ble_eq_true rfl⟩) (zpVp hP hE rfl h4) rfl rfl hl.1 rfl (lv_room (Nat.le_of_ble_eq_true rfl)) dL_step_138 ⟨Nat.le_of_ble_eq_true rfl, Nat.le_of_ble_eq_true rfl⟩) ?_
    refine zasi (bI_bN _) ?_
    refine zasi (show nI (bN (zOn (vTd V) (va_up (vL V) (vNp V) (fun _ => []) (vNp V) 20))) = nI 0 from by rw [va_up_self]; rfl) ?_
    refine nif_ne (tgt := 148) hx hb dL_step_141 (by decide) (by omega) (fun c_141 => ?_) (fun c_141 => ?_)
    · exact absurd rfl c_141
    · refine lv_iconst (v := nI 1) hx hb dL_step_144 (by decide) ?_
      refine lv_goto (tgt := 149) hx hb dL_step_145 (by decide) ?_
      refine W.widen (k := 23) (n := 68) (Nat.le_of_ble_eq_true rfl) (Nat.le_of_ble_eq_true rfl) ?_
      exact F _ _ _ u _ _ _ dL_step_149 Jn ⟨_, _, _, _, _, _, _, hR9⟩ hP hT hD hS
set_option maxHeartbeats 4000000 in
set_option maxRecDepth 100000 in
theorem sp_title {p : Program} {l : Launch} {e : Env} {s : State} {m : MethodId} {below : List Frame} {meth : Method} {c : Code} {D : va_G} {ca : Nat → ClassId} {sa : Nat → Nat} {L : List Nat} {f : Nat → va_E} {h0 ta pa : Nat} {aT aP aS : Nat → Nat} {aH : Nat → Nat → Nat} {n K : Nat} {V : zV} {aa : Nat → Nat} {T : zT} {A : Nat → Prop} {Q : State → Prop} {w9 a b : Nat} {ls : Array Slot} (hR : zRep L f ca h0 ta pa aT aP aS aH n K V) (J : Jv V T) (hK : K < 512) (hw9 : w9 < 2147483648) (ha9 : a < 2147483648) (hb9 : b < 2147483648) (C : sp_C p s m meth c ([.ref h0, .ref (aa 0), .ref (aa 1), .ref (aa 2), .int (nI w9), .int (nI a), .int (nI b)] : List Value).toArray D ca sa) (S : sp_S s D ca L f aa T A) (F : sp_F p l e (headSpec wsL_step ({ frames := 10, cells := 23, slots := 68, locals := 480 })).room s m ([.ref h0, .ref (aa 0), .ref (aa 1), .ref (aa 2), .int (nI w9), .int (nI a), .int (nI b)] : List Value).toArray below meth c D ca aa A h0 K Q) (hp : 0 < vNp V) (hn : vNt V < 4) (hl : lv_has ls 22 [(8, .int (nI (vNt V))), (7, .int (nI (vNp V))), (0, .ref h0), (1, .ref (aa 0)), (2, .ref (aa 1)), (3, .ref (aa 2)), (4, .int (nI w9)), (5, .int (nI a)), (6, .int (nI b))]) : W p l e (headSpec wsL_step ({ frames := 10, cells := 23, slots := 68, locals := 480 })).room s m ([.ref h0, .ref (aa 0), .ref (aa 1), .ref (aa 2), .int (nI w9), .int (nI a), .int (nI b)] : List Value).toArray below meth c s.heap [] 0 0 Q (F0 m 170 ls []) := by
  have C0 := C
  have S0 := S
  obtain ⟨⟨hx, hb, hml, hown, hts⟩, hE⟩ := C
  obtain ⟨hP, hT, hD, hA⟩ := S
  have hS : va_S A s.heap s.heap [] := va_S.rf
  have h4 := hR.1.1
  have hBd := Bd_of hR
  have htd9 := hBd.1.1
  have hnp9 := J.1.2.1
  have hnt9 := J.1.2.2.2.1
  refine lv_aload_n hx hb dL_step_170 rfl (lv_at hl 3 rfl) ?_
  refine lv_bipush (v := nI 30) hx hb dL_step_171 (by decide) ?_
  refine lv_iload hx hb dL_step_173 (lv_at hl 0 rfl) ?_
  refine nadd hx hb dL_step_175 ?_
  refine lv_iload hx hb dL_step_176 (lv_at hl 7 rfl) ?_
  refine lv_iload hx hb dL_step_178 (lv_at hl 8 rfl) ?_
  refine lv_iconst (v := nI 4) hx hb dL_step_180 (by decide) ?_
  refine nrem hx hb (by omega) (by omega) (by omega) dL_step_181 ?_
  refine tern (M := 192) (rest := [.int (nI a), .int (nI (30 + (vNt V))), .ref (aa 0)]) (P := fun v9 : Nat => v9 = 56 ∨ v9 = 6) (fun K9 => ?_) (fun m9 hm9 => ?_)
  · refine nif_ne (tgt := 190) hx hb dL_step_182 (by decide) (by omega) (fun c_182 => ?_) (fun c_182 => ?_)
    · refine lv_bipush (v := nI 6) hx hb dL_step_190 (by decide) ?_
      exact K9 6 (by first | exact Or.inl rfl | exact Or.inr rfl)
    · refine lv_bipush (v := nI 56) hx hb dL_step_185 (by decide) ?_
      refine lv_goto (tgt := 192) hx hb dL_step_187 (by decide) ?_
      exact K9 56 (by first | exact Or.inl rfl | exact Or.inr rfl)
  refine nrem hx hb (by omega) (by omega) (by omega) dL_step_192 ?_
  have hcs : (a % m9) ≤ 55 := by
    have h7 := Nat.mod_lt a (show 0 < m9 by omega)
    omega
  generalize (a % m9) = cs at hcs ⊢
  refine ztst hx hb hE hP hT hD hS 0 (by decide) (i := (30 + (vNt V))) (v := cs) (by show (30 + (vNt V)) < 41; omega) dL_step_193 (fun H locs hP hT hD hS => ?_)
  refine lv_aload_n hx hb dL_step_194 rfl (lv_at hl 3 rfl) ?_
  refine lv_bipush (v := nI 34) hx hb dL_step_195 (by decide) ?_
  refine lv_iload hx hb dL_step_197 (lv_at hl 0 rfl) ?_
  refine nadd hx hb dL_step_199 ?_
  refine lv_iconst (v := nI 1) hx hb dL_step_200 (by decide) ?_
  refine lv_iload hx hb dL_step_201 (lv_at hl 8 rfl) ?_
  refine lv_iconst (v := nI 4) hx hb dL_step_203 (by decide) ?_
  refine nrem hx hb (by omega) (by omega) (by omega) dL_step_204 ?_
  refine nadd hx hb dL_step_205 ?_
  refine ztst hx hb hE hP hT hD hS 0 (by decide) (i := (34 + (vNt V))) (v := (1 + (b % 4))) (by show (34 + (vNt V)) < 41; omega) dL_step_206 (fun H locs hP hT hD hS => ?_)
  refine lv_aload_n hx hb dL_step_207 rfl (lv_at hl 3 rfl) ?_
  refine lv_bipush (v := nI 39) hx hb dL_step_208 (by decide) ?_
  refine lv_dup2_11 hx hb dL_step_210 rfl rfl ?_
  refine zti hx hb hE hT 0 (by decide) (i := 39) (by show 39 < 41; omega) dL_step_211 ?_
  refine zasi (congrArg nI (show ((tU (tU T 0 (30 + (vNt V)) cs) 0 (34 + (vNt V)) (1 + (b % 4))) 0 39) = vNt V from by rw [tU_n (by omega), tU_n (by omega)]; exact J.1.2.2.1)) ?_
  refine lv_iconst (v := nI 1) hx hb dL_step_212 (by decide) ?_
  refine nadd hx hb dL_step_213 ?_
  refine ztst hx hb hE hP hT hD hS 0 (by decide) (i := 39) (v := ((vNt V) + 1)) (by show 39 < 41; omega) dL_step_214 (fun H locs hP hT hD hS => ?_)
  refine lv_aload_n hx hb dL_step_215 rfl (lv_at hl 2 rfl) ?_
  refine lv_aload_n hx hb dL_step_216 rfl (lv_at hl 3 rfl) ?_
  refine lv_bipush (v := nI 30) hx hb dL_step_217 (by decide) ?_
  refine lv_iload hx hb dL_step_219 (lv_at hl 0 rfl) ?_
  refine nadd hx hb dL_step_221 ?_
  refine zti hx hb hE hT 0 (by decide) (i := (30 + (vNt V))) (by show (30 + (vNt V)) < 41; omega) dL_step_222 ?_
  refine zasi (congrArg nI (show ((tU (tU (tU T 0 (30 + (vNt V)) cs) 0 (34 + (vNt V)) (1 + (b % 4))) 0 39 ((vNt V) + 1)) 0 (30 + (vNt V))) = cs from by rw [tU_n (by omega), tU_n (by omega), tU_s])) ?_
  refine lv_iconst (v := nI 1) hx hb dL_step_223 (by decide) ?_
  refine lv_iload hx hb dL_step_224 (lv_at hl 8 rfl) ?_
  refine lv_iconst (v := nI 4) hx hb dL_step_226 (by decide) ?_
  refine nrem hx hb (by omega) (by omega) (by omega) dL_step_227 ?_
  refine nadd hx hb dL_step_228 ?_
  refine ztw (va_runV (As := [.int (nI cs), .int (nI (1 + (b % 4)))]) (rest := []) ⟨hx, hb, hml, hown, hts⟩ (w_addTitle l D ca sa L f h0 ta pa aT aP aS aH n K V hR cs (1 + b % 4) hcs (by omega) (by omega) (by omega) hK _) (cwV 2 hts gL_step_X4_addTitle rfl rfl rfl (by decide +kernel) ⟨Nat.le_of_ble_eq_true rfl, Nat.le_of_ble_eq_true rfl⟩) (zmVp hP (w2_l hD) hE rfl h4) rfl rfl hl.1 rfl (lv_room (Nat.le_of_ble_eq_true rfl)) dL_step_229 ⟨Nat.le_of_ble_eq_true rfl, Nat.le_of_ble_eq_true rfl⟩) hT hD hS hA (fun r u H locs hu hP hT hD hS => ?_)
  obtain ⟨rfl, hu⟩ := hu
  obtain ⟨_, _, _, _, _, _, _, hR9⟩ := hu
  have h4 := hR9.1.1
  have Jn := j_title J hn cs (1 + b % 4)
  have eT : va_up (vT V) (vNt V) (cs, 1 + b % 4) (vNt V) = (cs, 1 + b % 4) := va_up_self _ _ _
  have eL : vL V 0 (vNt V) = [] := ((J.2.2.1 0 hp).2.2 (vNt V) hn).2.2.2 (Nat.le_refl _)
  refine lv_iload hx hb dL_step_232 (lv_at hl 0 rfl) ?_
  refine nicmp_ne (tgt := 289) hx hb dL_step_234 (by decide) (by omega) (by omega) (fun c_234 => ?_) (fun c_234 => ?_)
  · exact absurd rfl c_234
  · refine lv_aload_n hx hb dL_step_237 rfl (lv_at hl 2 rfl) ?_
    refine lv_iload hx hb dL_step_238 (lv_at hl 0 rfl) ?_
    refine lv_aload_n hx hb dL_step_240 rfl (lv_at hl 3 rfl) ?_
    refine lv_bipush (v := nI 30) hx hb dL_step_241 (by decide) ?_
    refine lv_iload hx hb dL_step_243 (lv_at hl 0 rfl) ?_
    refine nadd hx hb dL_step_245 ?_
    refine zti hx hb hE hT 0 (by decide) (i := (30 + (vNt V))) (by show (30 + (vNt V)) < 41; omega) dL_step_246 ?_
    refine zasi (congrArg nI (show ((tU (tU (tU T 0 (30 + (vNt V)) cs) 0 (34 + (vNt V)) (1 + (b % 4))) 0 39 ((vNt V) + 1)) 0 (30 + (vNt V))) = cs from by rw [tU_n (by omega), tU_n (by omega), tU_s])) ?_
    refine zci (va_runV (As := [.int (nI (vNt V)), .int (nI cs)]) (rest := []) ⟨hx, hb, hml, hown, hts⟩ (c_volumeOf l D ca sa u.1 u.2 h0 _ _ _ _ _ _ _ _ _ hR9 (vNt V) (Nat.lt_succ_self _) cs (by show (va_up (vT V) (vNt V) (cs, 1 + b % 4) (vNt V)).1 ≤ cs; rw [eT]; exact Nat.le_refl _) hcs) (cwV 2 hts gL_step_X4_volumeOf rfl rfl rfl (by decide +kernel) ⟨Nat.le_of_ble_eq_true rfl, Nat.le_of_ble_eq_true rfl⟩) (zpVp hP hE rfl h4) rfl rfl hl.1 rfl (lv_room (Nat.le_of_ble_eq_true rfl)) dL_step_247 ⟨Nat.le_of_ble_eq_true rfl, Nat.le_of_ble_eq_true rfl⟩) ?_
    refine zasi (show nI ((cs - (va_up (vT V) (vNt V) (cs, 1 + b % 4) (vNt V)).1) * (va_up (vT V) (vNt V) (cs, 1 + b % 4) (vNt V)).2 + 1) = nI 1 from by rw [eT]; show nI ((cs - cs) * (1 + b % 4) + 1) = nI 1; rw [Nat.sub_self, Nat.zero_mul]) ?_
    refine lv_iconst (v := nI 1) hx hb dL_step_250 (by decide) ?_
    refine nicmp_ne (tgt := 289) hx hb dL_step_251 (by decide) (by omega) (by omega) (fun c_251 => ?_) (fun c_251 => ?_)
    · exact absurd rfl c_251
    · refine lv_aload_n hx hb dL_step_254 rfl (lv_at hl 2 rfl) ?_
      refine lv_iload hx hb dL_step_255 (lv_at hl 0 rfl) ?_
      refine lv_iconst (v := nI 1) hx hb dL_step_257 (by decide) ?_
      refine zci (va_runV (As := [.int (nI (vNt V)), .int (nI 1)]) (rest := []) ⟨hx, hb, hml, hown, hts⟩ (c_yearOf l D ca sa u.1 u.2 h0 _ _ _ _ _ _ _ _ _ hR9 (vNt V) (Nat.lt_succ_self _) 1 (Nat.le_refl _) (by show 1 ≤ (56 - (va_up (vT V) (vNt V) (cs, 1 + b % 4) (vNt V)).1) * (va_up (vT V) (vNt V) (cs, 1 + b % 4) (vNt V)).2; rw [eT]; exact Nat.mul_pos (show 0 < 56 - cs by omega) (show 0 < 1 + b % 4 by omega))) (cwV 2 hts gL_step_X4_yearOf rfl rfl rfl (by decide +kernel) ⟨Nat.le_of_ble_eq_true rfl, Nat.le_of_ble_eq_true rfl⟩) (zpVp hP hE rfl h4) rfl rfl hl.1 rfl (lv_room (Nat.le_of_ble_eq_true rfl)) dL_step_258 ⟨Nat.le_of_ble_eq_true rfl, Nat.le_of_ble_eq_true rfl⟩) ?_
      refine zasi (show nI ((va_up (vT V) (vNt V) (cs, 1 + b % 4) (vNt V)).1 + (1 - 1) / (va_up (vT V) (vNt V) (cs, 1 + b % 4) (vNt V)).2) = nI cs from by rw [eT]; show nI (cs + 0 / (1 + b % 4)) = nI cs; rw [Nat.zero_div, Nat.add_zero]) ?_
      refine lv_aload_n hx hb dL_step_261 rfl (lv_at hl 3 rfl) ?_
      refine lv_bipush (v := nI 30) hx hb dL_step_262 (by decide) ?_
      refine lv_iload hx hb dL_step_264 (lv_at hl 0 rfl) ?_
      refine nadd hx hb dL_step_266 ?_
      refine zti hx hb hE hT 0 (by decide) (i := (30 + (vNt V))) (by show (30 + (vNt V)) < 41; omega) dL_step_267 ?_
      refine zasi (congrArg nI (show ((tU (tU (tU T 0 (30 + (vNt V)) cs) 0 (34 + (vNt V)) (1 + (b % 4))) 0 39 ((vNt V) + 1)) 0 (30 + (vNt V))) = cs from by rw [tU_n (by omega), tU_n (by omega), tU_s])) ?_
      refine nicmp_ne (tgt := 289) hx hb dL_step_268 (by decide) (by omega) (by omega) (fun c_268 => ?_) (fun c_268 => ?_)
      · exact absurd rfl c_268
      · refine lv_aload_n hx hb dL_step_271 rfl (lv_at hl 2 rfl) ?_
        refine lv_iconst (v := nI 0) hx hb dL_step_272 (by decide) ?_
        refine lv_iload hx hb dL_step_273 (lv_at hl 0 rfl) ?_
        refine lv_aload_n hx hb dL_step_275 rfl (lv_at hl 3 rfl) ?_
        refine lv_bipush (v := nI 40) hx hb dL_step_276 (by decide) ?_
        refine zti hx hb hE hT 0 (by decide) (i := 40) (by show 40 < 41; omega) dL_step_278 ?_
        refine zasi (congrArg nI (show ((tU (tU (tU T 0 (30 + (vNt V)) cs) 0 (34 + (vNt V)) (1 + (b % 4))) 0 39 ((vNt V) + 1)) 0 40) = vTd V from Jn.1.2.2.2.2)) ?_
        refine zci (va_runV (As := [.int (nI 0), .int (nI (vNt V)), .int (nI (vTd V))]) (rest := []) ⟨hx, hb, hml, hown, hts⟩ (c_isIn l D ca sa u.1 u.2 h0 _ _ _ _ _ _ _ _ _ hR9 0 hp (vNt V) (Nat.lt_succ_self _) (vTd V) (Nat.le_refl _)) (cwV 3 hts gL_step_X4_isIn rfl rfl rfl (by decide +kernel) ⟨Nat.le_of_ble_eq_true rfl, Nat.le_of_ble_eq_true rfl⟩) (zpVp hP hE rfl h4) rfl rfl hl.1 rfl (lv_room (Nat.le_of_ble_eq_true rfl)) dL_step_279 ⟨Nat.le_of_ble_eq_true rfl, Nat.le_of_ble_eq_true rfl⟩) ?_
        refine zasi (bI_bN _) ?_
        refine zasi (show nI (bN (zOn (vTd V) (vL V 0 (vNt V)))) = nI 0 from by rw [eL]; rfl) ?_
        refine nif_ne (tgt := 289) hx hb dL_step_282 (by decide) (by omega) (fun c_282 => ?_) (fun c_282 => ?_)
        · exact absurd rfl c_282
        · refine lv_iconst (v := nI 1) hx hb dL_step_285 (by decide) ?_
          refine lv_goto (tgt := 290) hx hb dL_step_286 (by decide) ?_
          refine W.widen (k := 23) (n := 68) (Nat.le_of_ble_eq_true rfl) (Nat.le_of_ble_eq_true rfl) ?_
          exact F _ _ _ u _ _ _ dL_step_290 Jn ⟨_, _, _, _, _, _, _, hR9⟩ hP hT hD hS
set_option maxHeartbeats 4000000 in
set_option maxRecDepth 100000 in
theorem sp_sub {p : Program} {l : Launch} {e : Env} {s : State} {m : MethodId} {below : List Frame} {meth : Method} {c : Code} {D : va_G} {ca : Nat → ClassId} {sa : Nat → Nat} {L : List Nat} {f : Nat → va_E} {h0 ta pa : Nat} {aT aP aS : Nat → Nat} {aH : Nat → Nat → Nat} {n K : Nat} {V : zV} {aa : Nat → Nat} {T : zT} {A : Nat → Prop} {Q : State → Prop} {w9 a b : Nat} {ls : Array Slot} (hR : zRep L f ca h0 ta pa aT aP aS aH n K V) (J : Jv V T) (hK : K < 512) (hw9 : w9 < 2147483648) (ha9 : a < 2147483648) (hb9 : b < 2147483648) (C : sp_C p s m meth c ([.ref h0, .ref (aa 0), .ref (aa 1), .ref (aa 2), .int (nI w9), .int (nI a), .int (nI b)] : List Value).toArray D ca sa) (S : sp_S s D ca L f aa T A) (F : sp_F p l e (headSpec wsL_step ({ frames := 10, cells := 23, slots := 68, locals := 480 })).room s m ([.ref h0, .ref (aa 0), .ref (aa 1), .ref (aa 2), .int (nI w9), .int (nI a), .int (nI b)] : List Value).toArray below meth c D ca aa A h0 K Q) {pk tt : Nat} (q9 : pk < vNp V) (t9 : tt < vNt V) (hl : lv_has ls 22 [(11, .int (nI (4 * pk + tt))), (10, .int (nI tt)), (9, .int (nI pk)), (8, .int (nI (vNt V))), (7, .int (nI (vNp V))), (0, .ref h0), (1, .ref (aa 0)), (2, .ref (aa 1)), (3, .ref (aa 2)), (4, .int (nI w9)), (5, .int (nI a)), (6, .int (nI b))]) : W p l e (headSpec wsL_step ({ frames := 10, cells := 23, slots := 68, locals := 480 })).room s m ([.ref h0, .ref (aa 0), .ref (aa 1), .ref (aa 2), .int (nI w9), .int (nI a), .int (nI b)] : List Value).toArray below meth c s.heap [] 0 0 Q (F0 m 368 ls []) := by
  have C0 := C
  have S0 := S
  obtain ⟨⟨hx, hb, hml, hown, hts⟩, hE⟩ := C
  obtain ⟨hP, hT, hD, hA⟩ := S
  have hS : va_S A s.heap s.heap [] := va_S.rf
  have h4 := hR.1.1
  have hBd := Bd_of hR
  have htd9 := hBd.1.1
  have hnp9 := J.1.2.1
  have hnt9 := J.1.2.2.2.1
  have t20 : tt < 20 := by omega
  have tt4 : tt < 4 := by omega
  have hS9 := (J.2.2.1 pk q9).2.1.2.2
  have hT9 := ((J.2.2.1 pk q9).2.2 tt tt4).2.1
  have hon := stOk_on ((J.2.2.1 pk q9).2.2 tt tt4).1
  have hwl := stOk_lt ((J.2.2.1 pk q9).2.2 tt tt4).1
  have hbr := ((J.2.2.1 pk q9).2.2 tt tt4).2.2.1
  have hbl := ((hBd.2.2 pk q9).2 tt (by omega)).2
  have hb20 := bN_le (sOn (vL V pk 20))
  refine lv_aload_n hx hb dL_step_368 rfl (lv_at hl 6 rfl) ?_
  refine lv_bipush (v := nI 24) hx hb dL_step_369 (by decide) ?_
  refine lv_iload hx hb dL_step_371 (lv_at hl 2 rfl) ?_
  refine nadd hx hb dL_step_373 ?_
  refine zti hx hb hE hT 0 (by decide) (i := (24 + pk)) (by show (24 + pk) < 41; omega) dL_step_374 ?_
  refine zasi (congrArg nI (show (T 0 (24 + pk)) = bN (sOn (vL V pk 20)) from (J.2.2.1 pk q9).2.1.1)) ?_
  refine lv_iconst (v := nI 1) hx hb dL_step_375 (by decide) ?_
  refine tern (M := 384) (rest := []) (P := fun v9 : Nat => v9 = bN (sOn (vL V pk 20))) (fun K9 => ?_) (fun x1 hx1 => ?_)
  · refine nicmp_ne (tgt := 383) hx hb dL_step_376 (by decide) (by omega) (by omega) (fun c_376 => ?_) (fun c_376 => ?_)
    · refine lv_iconst (v := nI 0) hx hb dL_step_383 (by decide) ?_
      exact K9 0 (by show _ = _; omega)
    · refine lv_iconst (v := nI 1) hx hb dL_step_379 (by decide) ?_
      refine lv_goto (tgt := 384) hx hb dL_step_380 (by decide) ?_
      exact K9 1 (by show _ = _; omega)
  refine lv_istore (lv' := [(12, .int (nI x1)), (11, .int (nI (4 * pk + tt))), (10, .int (nI tt)), (9, .int (nI pk)), (8, .int (nI (vNt V))), (7, .int (nI (vNp V))), (0, .ref h0), (1, .ref (aa 0)), (2, .ref (aa 1)), (3, .ref (aa 2)), (4, .int (nI w9)), (5, .int (nI a)), (6, .int (nI b))]) hx hb dL_step_384 hl (by decide) rfl (fun ls hl => ?_)
  refine lv_aload_n hx hb dL_step_386 rfl (lv_at hl 7 rfl) ?_
  refine lv_bipush (v := nI 24) hx hb dL_step_387 (by decide) ?_
  refine lv_iload hx hb dL_step_389 (lv_at hl 3 rfl) ?_
  refine nadd hx hb dL_step_391 ?_
  refine lv_iload hx hb dL_step_392 (lv_at hl 12 rfl) ?_
  refine lv_iconst (v := nI 3) hx hb dL_step_394 (by decide) ?_
  refine nrem hx hb (by omega) (by omega) (by omega) dL_step_395 ?_
  refine tern (M := 404) (rest := [.int (nI (24 + pk)), .ref (aa 0)]) (P := fun v9 : Nat => v9 = bN (decide (0 < b % 3))) (fun K9 => ?_) (fun x2 hx2 => ?_)
  · refine nif_le (tgt := 403) hx hb dL_step_396 (by decide) (by omega) (fun c_396 => ?_) (fun c_396 => ?_)
    · refine lv_iconst (v := nI 0) hx hb dL_step_403 (by decide) ?_
      exact K9 0 (by show _ = _; first | exact (bN_1 (decide_eq_true (by omega))).symm | exact (bN_0 (decide_eq_false (by omega))).symm)
    · refine lv_iconst (v := nI 1) hx hb dL_step_399 (by decide) ?_
      refine lv_goto (tgt := 404) hx hb dL_step_400 (by decide) ?_
      exact K9 1 (by show _ = _; first | exact (bN_1 (decide_eq_true (by omega))).symm | exact (bN_0 (decide_eq_false (by omega))).symm)
  subst hx2
  refine ztst hx hb hE hP hT hD hS 0 (by decide) (i := (24 + pk)) (v := (bN (decide (0 < b % 3)))) (by show (24 + pk) < 41; omega) dL_step_404 (fun H locs hP hT hD hS => ?_)
  refine lv_aload_n hx hb dL_step_405 rfl (lv_at hl 6 rfl) ?_
  refine lv_iload hx hb dL_step_406 (lv_at hl 3 rfl) ?_
  refine lv_iload hx hb dL_step_408 (lv_at hl 12 rfl) ?_
  refine lv_iconst (v := nI 3) hx hb dL_step_410 (by decide) ?_
  refine nrem hx hb (by omega) (by omega) (by omega) dL_step_411 ?_
  refine tern (M := 420) (rest := [.int (nI pk), .ref h0]) (P := fun v9 : Nat => v9 = bN (decide (0 < b % 3))) (fun K9 => ?_) (fun x3 hx3 => ?_)
  · refine nif_le (tgt := 419) hx hb dL_step_412 (by decide) (by omega) (fun c_412 => ?_) (fun c_412 => ?_)
    · refine lv_iconst (v := nI 0) hx hb dL_step_419 (by decide) ?_
      exact K9 0 (by show _ = _; first | exact (bN_1 (decide_eq_true (by omega))).symm | exact (bN_0 (decide_eq_false (by omega))).symm)
    · refine lv_iconst (v := nI 1) hx hb dL_step_415 (by decide) ?_
      refine lv_goto (tgt := 420) hx hb dL_step_416 (by decide) ?_
      exact K9 1 (by show _ = _; first | exact (bN_1 (decide_eq_true (by omega))).symm | exact (bN_0 (decide_eq_false (by omega))).symm)
  subst hx3
  refine zasi (bI_bN (decide (0 < b % 3))).symm ?_
  refine ztw (va_runV (As := [.int (nI pk), .int (bI (decide (0 < b % 3)))]) (rest := []) ⟨hx, hb, hml, hown, hts⟩ (w_subscribe l D ca sa L f h0 ta pa aT aP aS aH n K V hR pk (decide (0 < b % 3)) q9 hK _) (cwV 2 hts gL_step_X4_subscribe rfl rfl rfl (by decide +kernel) ⟨Nat.le_of_ble_eq_true rfl, Nat.le_of_ble_eq_true rfl⟩) (zmVp hP (w2_l hD) hE rfl h4) rfl rfl hl.1 rfl (lv_room (Nat.le_of_ble_eq_true rfl)) dL_step_420 ⟨Nat.le_of_ble_eq_true rfl, Nat.le_of_ble_eq_true rfl⟩) hT hD hS hA (fun r u H locs hu hP hT hD hS => ?_)
  obtain ⟨rfl, hu⟩ := hu
  refine zasi (bI_bN _) ?_
  refine zasi (show nI (bN (zOn (vTd V) (vL V pk 20))) = nI x1 from by rw [zOn_all hS9, hx1]) ?_
  obtain ⟨_, _, _, _, _, _, _, hR9⟩ := hu
  have h4 := hR9.1.1
  have Jn := j_sub J q9 (decide (0 < b % 3))
  refine lv_iload hx hb dL_step_423 (lv_at hl 0 rfl) ?_
  refine nicmp_ne (tgt := 457) hx hb dL_step_425 (by decide) (by omega) (by omega) (fun c_425 => ?_) (fun c_425 => ?_)
  · exact absurd rfl c_425
  · refine lv_aload_n hx hb dL_step_428 rfl (lv_at hl 6 rfl) ?_
    refine lv_iload hx hb dL_step_429 (lv_at hl 3 rfl) ?_
    refine lv_aload_n hx hb dL_step_431 rfl (lv_at hl 7 rfl) ?_
    refine lv_bipush (v := nI 40) hx hb dL_step_432 (by decide) ?_
    refine zti hx hb hE hT 0 (by decide) (i := 40) (by show 40 < 41; omega) dL_step_434 ?_
    refine zasi (congrArg nI (show ((tU T 0 (24 + pk) (bN (decide (0 < b % 3)))) 0 40) = vTd V from Jn.1.2.2.2.2)) ?_
    refine zci (va_runV (As := [.int (nI pk), .int (nI (vTd V))]) (rest := []) ⟨hx, hb, hml, hown, hts⟩ (c_isSub l D ca sa u.1 u.2 h0 _ _ _ _ _ _ _ _ _ hR9 pk q9 (vTd V) (Nat.le_refl _)) (cwV 2 hts gL_step_X4_isSubscribed rfl rfl rfl (by decide +kernel) ⟨Nat.le_of_ble_eq_true rfl, Nat.le_of_ble_eq_true rfl⟩) (zpVp hP hE rfl h4) rfl rfl hl.1 rfl (lv_room (Nat.le_of_ble_eq_true rfl)) dL_step_435 ⟨Nat.le_of_ble_eq_true rfl, Nat.le_of_ble_eq_true rfl⟩) ?_
    refine zasi (bI_bN _) ?_
    refine zasi (show nI (bN (zOn (vTd V) (zU2 (vL V) pk 20 ((vTd V, zAll (decide (0 < b % 3)), 0) :: vL V pk 20) pk 20))) = nI (bN (decide (0 < b % 3))) from by rw [zU2_s, zOn_all (hT_c hS9 _ _)]; exact congrArg (fun z => nI (bN z)) (zAll_0 _)) ?_
    refine lv_iload hx hb dL_step_438 (lv_at hl 12 rfl) ?_
    refine lv_iconst (v := nI 3) hx hb dL_step_440 (by decide) ?_
    refine nrem hx hb (by omega) (by omega) (by omega) dL_step_441 ?_
    refine tern (M := 450) (rest := [.int (nI (bN (decide (0 < b % 3))))]) (P := fun v9 : Nat => v9 = bN (decide (0 < b % 3))) (fun K9 => ?_) (fun x4 hx4 => ?_)
    · refine nif_le (tgt := 449) hx hb dL_step_442 (by decide) (by omega) (fun c_442 => ?_) (fun c_442 => ?_)
      · refine lv_iconst (v := nI 0) hx hb dL_step_449 (by decide) ?_
        exact K9 0 (by show _ = _; first | exact (bN_1 (decide_eq_true (by omega))).symm | exact (bN_0 (decide_eq_false (by omega))).symm)
      · refine lv_iconst (v := nI 1) hx hb dL_step_445 (by decide) ?_
        refine lv_goto (tgt := 450) hx hb dL_step_446 (by decide) ?_
        exact K9 1 (by show _ = _; first | exact (bN_1 (decide_eq_true (by omega))).symm | exact (bN_0 (decide_eq_false (by omega))).symm)
    subst hx4
    refine nicmp_ne (tgt := 457) hx hb dL_step_450 (by decide) (Nat.lt_trans (bN_le _) (by decide)) (Nat.lt_trans (bN_le _) (by decide)) (fun c_450 => ?_) (fun c_450 => ?_)
    · exact absurd rfl c_450
    · refine lv_iconst (v := nI 1) hx hb dL_step_453 (by decide) ?_
      refine lv_goto (tgt := 458) hx hb dL_step_454 (by decide) ?_
      refine W.widen (k := 23) (n := 68) (Nat.le_of_ble_eq_true rfl) (Nat.le_of_ble_eq_true rfl) ?_
      exact F _ _ _ u _ _ _ dL_step_458 Jn ⟨_, _, _, _, _, _, _, hR9⟩ hP hT hD hS
set_option maxHeartbeats 4000000 in
set_option maxRecDepth 100000 in
theorem sp_come {p : Program} {l : Launch} {e : Env} {s : State} {m : MethodId} {below : List Frame} {meth : Method} {c : Code} {D : va_G} {ca : Nat → ClassId} {sa : Nat → Nat} {L : List Nat} {f : Nat → va_E} {h0 ta pa : Nat} {aT aP aS : Nat → Nat} {aH : Nat → Nat → Nat} {n K : Nat} {V : zV} {aa : Nat → Nat} {T : zT} {A : Nat → Prop} {Q : State → Prop} {w9 a b : Nat} {ls : Array Slot} (hR : zRep L f ca h0 ta pa aT aP aS aH n K V) (J : Jv V T) (hK : K < 512) (hw9 : w9 < 2147483648) (ha9 : a < 2147483648) (hb9 : b < 2147483648) (C : sp_C p s m meth c ([.ref h0, .ref (aa 0), .ref (aa 1), .ref (aa 2), .int (nI w9), .int (nI a), .int (nI b)] : List Value).toArray D ca sa) (S : sp_S s D ca L f aa T A) (F : sp_F p l e (headSpec wsL_step ({ frames := 10, cells := 23, slots := 68, locals := 480 })).room s m ([.ref h0, .ref (aa 0), .ref (aa 1), .ref (aa 2), .int (nI w9), .int (nI a), .int (nI b)] : List Value).toArray below meth c D ca aa A h0 K Q) {pk tt : Nat} (q9 : pk < vNp V) (t9 : tt < vNt V) (hl : lv_has ls 22 [(11, .int (nI (4 * pk + tt))), (10, .int (nI tt)), (9, .int (nI pk)), (8, .int (nI (vNt V))), (7, .int (nI (vNp V))), (0, .ref h0), (1, .ref (aa 0)), (2, .ref (aa 1)), (3, .ref (aa 2)), (4, .int (nI w9)), (5, .int (nI a)), (6, .int (nI b))]) : W p l e (headSpec wsL_step ({ frames := 10, cells := 23, slots := 68, locals := 480 })).room s m ([.ref h0, .ref (aa 0), .ref (aa 1), .ref (aa 2), .int (nI w9), .int (nI a), .int (nI b)] : List Value).toArray below meth c s.heap [] 0 0 Q (F0 m 459 ls []) := by
  have C0 := C
  have S0 := S
  obtain ⟨⟨hx, hb, hml, hown, hts⟩, hE⟩ := C
  obtain ⟨hP, hT, hD, hA⟩ := S
  have hS : va_S A s.heap s.heap [] := va_S.rf
  have h4 := hR.1.1
  have hBd := Bd_of hR
  have htd9 := hBd.1.1
  have hnp9 := J.1.2.1
  have hnt9 := J.1.2.2.2.1
  have t20 : tt < 20 := by omega
  have tt4 : tt < 4 := by omega
  have hS9 := (J.2.2.1 pk q9).2.1.2.2
  have hT9 := ((J.2.2.1 pk q9).2.2 tt tt4).2.1
  have hon := stOk_on ((J.2.2.1 pk q9).2.2 tt tt4).1
  have hwl := stOk_lt ((J.2.2.1 pk q9).2.2 tt tt4).1
  have hbr := ((J.2.2.1 pk q9).2.2 tt tt4).2.2.1
  have hbl := ((hBd.2.2 pk q9).2 tt (by omega)).2
  have hb20 := bN_le (sOn (vL V pk 20))
  refine lv_aload_n hx hb dL_step_459 rfl (lv_at hl 7 rfl) ?_
  refine lv_iload hx hb dL_step_460 (lv_at hl 0 rfl) ?_
  refine zti hx hb hE hT 1 (by decide) (i := (4 * pk + tt)) (by show (4 * pk + tt) < 24; omega) dL_step_462 ?_
  refine lv_iconst (v := nI 2) hx hb dL_step_463 (by decide) ?_
  refine nrem hx hb (by omega) (by omega) (by omega) dL_step_464 ?_
  refine lv_iconst (v := nI 1) hx hb dL_step_465 (by decide) ?_
  refine tern (M := 474) (rest := []) (P := fun v9 : Nat => v9 = bN (sOn (vL V pk tt))) (fun K9 => ?_) (fun x1 hx1 => ?_)
  · refine nicmp_ne (tgt := 473) hx hb dL_step_466 (by decide) (by omega) (by omega) (fun c_466 => ?_) (fun c_466 => ?_)
    · refine lv_iconst (v := nI 0) hx hb dL_step_473 (by decide) ?_
      exact K9 0 (by show _ = _; rw [hon]; first | exact (bN_1 (decide_eq_true (by omega))).symm | exact (bN_0 (decide_eq_false (by omega))).symm)
    · refine lv_iconst (v := nI 1) hx hb dL_step_469 (by decide) ?_
      refine lv_goto (tgt := 474) hx hb dL_step_470 (by decide) ?_
      exact K9 1 (by show _ = _; rw [hon]; first | exact (bN_1 (decide_eq_true (by omega))).symm | exact (bN_0 (decide_eq_false (by omega))).symm)
  refine lv_istore (lv' := [(13, .int (nI x1)), (11, .int (nI (4 * pk + tt))), (10, .int (nI tt)), (9, .int (nI pk)), (8, .int (nI (vNt V))), (7, .int (nI (vNp V))), (0, .ref h0), (1, .ref (aa 0)), (2, .ref (aa 1)), (3, .ref (aa 2)), (4, .int (nI w9)), (5, .int (nI a)), (6, .int (nI b))]) hx hb dL_step_474 hl (by decide) rfl (fun ls hl => ?_)
  refine lv_iload hx hb dL_step_476 (lv_at hl 12 rfl) ?_
  refine lv_iconst (v := nI 4) hx hb dL_step_478 (by decide) ?_
  refine ndiv hx hb (by omega) (by omega) (by omega) dL_step_479 ?_
  refine lv_bipush (v := nI 8) hx hb dL_step_480 (by decide) ?_
  refine nrem hx hb (by omega) (by omega) (by omega) dL_step_482 ?_
  have hfs : ((b / 4) % 8) ≤ 7 := by omega
  generalize ((b / 4) % 8) = fs at hfs ⊢
  refine lv_istore (lv' := [(14, .int (nI fs)), (13, .int (nI x1)), (11, .int (nI (4 * pk + tt))), (10, .int (nI tt)), (9, .int (nI pk)), (8, .int (nI (vNt V))), (7, .int (nI (vNp V))), (0, .ref h0), (1, .ref (aa 0)), (2, .ref (aa 1)), (3, .ref (aa 2)), (4, .int (nI w9)), (5, .int (nI a)), (6, .int (nI b))]) hx hb dL_step_483 hl (by decide) rfl (fun ls hl => ?_)
  refine lv_iload hx hb dL_step_485 (lv_at hl 0 rfl) ?_
  refine lv_iload hx hb dL_step_487 (lv_at hl 13 rfl) ?_
  refine lv_bipush (v := nI 32) hx hb dL_step_489 (by decide) ?_
  refine ndiv hx hb (by omega) (by omega) (by omega) dL_step_491 ?_
  refine lv_iload hx hb dL_step_492 (lv_at hl 13 rfl) ?_
  refine lv_iconst (v := nI 2) hx hb dL_step_494 (by decide) ?_
  refine nrem hx hb (by omega) (by omega) (by omega) dL_step_495 ?_
  refine tern (M := 505) (rest := [.int (nI (b / 32)), .int (nI fs)]) (P := fun v9 : Nat => v9 = 48 ∨ v9 = 5) (fun K9 => ?_) (fun m1 hm1 => ?_)
  · refine nif_ne (tgt := 504) hx hb dL_step_496 (by decide) (by omega) (fun c_496 => ?_) (fun c_496 => ?_)
    · refine lv_iconst (v := nI 5) hx hb dL_step_504 (by decide) ?_
      exact K9 5 (by first | exact Or.inl rfl | exact Or.inr rfl)
    · refine lv_bipush (v := nI 48) hx hb dL_step_499 (by decide) ?_
      refine lv_goto (tgt := 505) hx hb dL_step_501 (by decide) ?_
      exact K9 48 (by first | exact Or.inl rfl | exact Or.inr rfl)
  refine nrem hx hb (by omega) (by omega) (by omega) dL_step_505 ?_
  have hln : ((b / 32) % m1) ≤ 47 := by
    have h7 := Nat.mod_lt (b / 32) (show 0 < m1 by omega)
    omega
  generalize ((b / 32) % m1) = ln at hln ⊢
  refine nadd hx hb dL_step_506 ?_
  refine lv_istore (lv' := [(15, .int (nI (fs + ln))), (14, .int (nI fs)), (13, .int (nI x1)), (11, .int (nI (4 * pk + tt))), (10, .int (nI tt)), (9, .int (nI pk)), (8, .int (nI (vNt V))), (7, .int (nI (vNp V))), (0, .ref h0), (1, .ref (aa 0)), (2, .ref (aa 1)), (3, .ref (aa 2)), (4, .int (nI w9)), (5, .int (nI a)), (6, .int (nI b))]) hx hb dL_step_507 hl (by decide) rfl (fun ls hl => ?_)
  refine lv_iload hx hb dL_step_509 (lv_at hl 14 rfl) ?_
  refine lv_bipush (v := nI 64) hx hb dL_step_511 (by decide) ?_
  refine ndiv hx hb (by omega) (by omega) (by omega) dL_step_513 ?_
  refine lv_iload hx hb dL_step_514 (lv_at hl 13 rfl) ?_
  refine lv_iconst (v := nI 2) hx hb dL_step_516 (by decide) ?_
  refine nrem hx hb (by omega) (by omega) (by omega) dL_step_517 ?_
  refine tern (M := 527) (rest := [.int (nI (b / 64))]) (P := fun v9 : Nat => v9 = 3 ∨ v9 = 21) (fun K9 => ?_) (fun m2 hm2 => ?_)
  · refine nif_ne (tgt := 525) hx hb dL_step_518 (by decide) (by omega) (fun c_518 => ?_) (fun c_518 => ?_)
    · refine lv_bipush (v := nI 21) hx hb dL_step_525 (by decide) ?_
      exact K9 21 (by first | exact Or.inl rfl | exact Or.inr rfl)
    · refine lv_iconst (v := nI 3) hx hb dL_step_521 (by decide) ?_
      refine lv_goto (tgt := 527) hx hb dL_step_522 (by decide) ?_
      exact K9 3 (by first | exact Or.inl rfl | exact Or.inr rfl)
  refine nrem hx hb (by omega) (by omega) (by omega) dL_step_527 ?_
  have hwl9 : ((b / 64) % m2) ≤ 20 := by
    have h7 := Nat.mod_lt (b / 64) (show 0 < m2 by omega)
    omega
  generalize ((b / 64) % m2) = wl at hwl9 ⊢
  refine lv_istore (lv' := [(16, .int (nI wl)), (15, .int (nI (fs + ln))), (14, .int (nI fs)), (13, .int (nI x1)), (11, .int (nI (4 * pk + tt))), (10, .int (nI tt)), (9, .int (nI pk)), (8, .int (nI (vNt V))), (7, .int (nI (vNp V))), (0, .ref h0), (1, .ref (aa 0)), (2, .ref (aa 1)), (3, .ref (aa 2)), (4, .int (nI w9)), (5, .int (nI a)), (6, .int (nI b))]) hx hb dL_step_528 hl (by decide) rfl (fun ls hl => ?_)
  refine lv_aload_n hx hb dL_step_530 rfl (lv_at hl 11 rfl) ?_
  refine lv_iload hx hb dL_step_531 (lv_at hl 4 rfl) ?_
  refine lv_iconst (v := nI 1) hx hb dL_step_533 (by decide) ?_
  refine lv_iconst (v := nI 2) hx hb dL_step_534 (by decide) ?_
  refine lv_iload hx hb dL_step_535 (lv_at hl 2 rfl) ?_
  refine nmul hx hb dL_step_537 ?_
  refine nadd hx hb dL_step_538 ?_
  refine lv_sipush (v := nI 128) hx hb dL_step_539 (by decide) ?_
  refine lv_iload hx hb dL_step_542 (lv_at hl 1 rfl) ?_
  refine nmul hx hb dL_step_544 ?_
  refine nadd hx hb dL_step_545 ?_
  refine lv_sipush (v := nI 8192) hx hb dL_step_546 (by decide) ?_
  refine lv_iload hx hb dL_step_549 (lv_at hl 0 rfl) ?_
  refine nmul hx hb dL_step_551 ?_
  refine nadd hx hb dL_step_552 ?_
  refine ztst hx hb hE hP hT hD hS 1 (by decide) (i := (4 * pk + tt)) (v := (((1 + (2 * fs)) + (128 * (fs + ln))) + (8192 * wl))) (by show (4 * pk + tt) < 24; omega) dL_step_553 (fun H locs hP hT hD hS => ?_)
  refine lv_aload_n hx hb dL_step_554 rfl (lv_at hl 9 rfl) ?_
  refine lv_iload hx hb dL_step_555 (lv_at hl 6 rfl) ?_
  refine lv_iload hx hb dL_step_557 (lv_at hl 5 rfl) ?_
  refine lv_iload hx hb dL_step_559 (lv_at hl 2 rfl) ?_
  refine lv_iload hx hb dL_step_561 (lv_at hl 1 rfl) ?_
  refine lv_iload hx hb dL_step_563 (lv_at hl 0 rfl) ?_
  refine ztw (va_runV (As := [.int (nI pk), .int (nI tt), .int (nI fs), .int (nI (fs + ln)), .int (nI wl)]) (rest := []) ⟨hx, hb, hml, hown, hts⟩ (w_come l D ca sa L f h0 ta pa aT aP aS aH n K V hR pk q9 tt t9 fs (fs + ln) wl (Nat.le_add_right _ _) (by omega) (by omega) hK _) (cwV 5 hts gL_step_X4_come rfl rfl rfl (by decide +kernel) ⟨Nat.le_of_ble_eq_true rfl, Nat.le_of_ble_eq_true rfl⟩) (zmVp hP (w2_l hD) hE rfl h4) rfl rfl hl.1 rfl (lv_room (Nat.le_of_ble_eq_true rfl)) dL_step_565 ⟨Nat.le_of_ble_eq_true rfl, Nat.le_of_ble_eq_true rfl⟩) hT hD hS hA (fun r u H locs hu hP hT hD hS => ?_)
  obtain ⟨rfl, hu⟩ := hu
  refine zasi (bI_bN _) ?_
  refine zasi (show nI (bN (zOn (vTd V) (vL V pk tt))) = nI x1 from by rw [zOn_all hT9, hx1]) ?_
  obtain ⟨_, _, _, _, _, _, _, hR9⟩ := hu
  have h4 := hR9.1.1
  have Jn := j_stay J q9 t9 (yB (nI fs) (nI (fs + ln))) wl _ (Or.inr ⟨fs, fs + ln, wl, _, _, Nat.le_add_right _ _, by omega, hwl9, rfl, rfl⟩)
  refine lv_iload hx hb dL_step_568 (lv_at hl 3 rfl) ?_
  refine nicmp_ne (tgt := 592) hx hb dL_step_570 (by decide) (by rw [hx1]; exact Nat.lt_trans (bN_le _) (by decide)) (by rw [hx1]; exact Nat.lt_trans (bN_le _) (by decide)) (fun c_570 => ?_) (fun c_570 => ?_)
  · exact absurd rfl c_570
  · refine lv_aload_n hx hb dL_step_573 rfl (lv_at hl 9 rfl) ?_
    refine lv_iload hx hb dL_step_574 (lv_at hl 6 rfl) ?_
    refine lv_iload hx hb dL_step_576 (lv_at hl 5 rfl) ?_
    refine lv_aload_n hx hb dL_step_578 rfl (lv_at hl 10 rfl) ?_
    refine lv_bipush (v := nI 40) hx hb dL_step_579 (by decide) ?_
    refine zti hx hb hE hT 0 (by decide) (i := 40) (by show 40 < 41; omega) dL_step_581 ?_
    refine zasi (congrArg nI (show ((tU T 1 (4 * pk + tt) (((1 + (2 * fs)) + (128 * (fs + ln))) + (8192 * wl))) 0 40) = vTd V from Jn.1.2.2.2.2)) ?_
    refine zci (va_runV (As := [.int (nI pk), .int (nI tt), .int (nI (vTd V))]) (rest := []) ⟨hx, hb, hml, hown, hts⟩ (c_isIn l D ca sa u.1 u.2 h0 _ _ _ _ _ _ _ _ _ hR9 pk q9 tt t9 (vTd V) (Nat.le_refl _)) (cwV 3 hts gL_step_X4_isIn rfl rfl rfl (by decide +kernel) ⟨Nat.le_of_ble_eq_true rfl, Nat.le_of_ble_eq_true rfl⟩) (zpVp hP hE rfl h4) rfl rfl hl.1 rfl (lv_room (Nat.le_of_ble_eq_true rfl)) dL_step_582 ⟨Nat.le_of_ble_eq_true rfl, Nat.le_of_ble_eq_true rfl⟩) ?_
    refine zasi (bI_bN _) ?_
    refine zasi (show nI (bN (zOn (vTd V) (zU2 (vL V) pk tt ((vTd V, yB (nI fs) (nI (fs + ln)), wl) :: vL V pk tt) pk tt))) = nI 1 from by rw [zU2_s, zOn_all (hT_c hT9 _ _)]; exact congrArg (fun z => nI (bN z)) (decide_eq_true (yB_n0 (Nat.le_add_right _ _) (by omega)))) ?_
    refine nif_eq (tgt := 592) hx hb dL_step_585 (by decide) (by decide) (fun c_585 => ?_) (fun c_585 => ?_)
    · exact absurd c_585 (by decide)
    · refine lv_iconst (v := nI 1) hx hb dL_step_588 (by decide) ?_
      refine lv_goto (tgt := 593) hx hb dL_step_589 (by decide) ?_
      refine W.widen (k := 23) (n := 68) (Nat.le_of_ble_eq_true rfl) (Nat.le_of_ble_eq_true rfl) ?_
      exact F _ _ _ u _ _ _ dL_step_593 Jn ⟨_, _, _, _, _, _, _, hR9⟩ hP hT hD hS
