/-! the law's draw; behind a method of the law that writes -/
def dr (x : Int32) : Nat := (x &&& 2147483647).toBitVec.toNat
theorem dr_lt (x : Int32) : dr x < 2147483648 := by
  unfold dr
  rw [Int32.toBitVec_and, BitVec.toNat_and]
  exact Nat.lt_of_le_of_lt Nat.and_le_right (by decide)
theorem dr_is (x : Int32) : x &&& 2147483647 = nI (dr x) := Int32.toBitVec_inj.mp (by show _ = BitVec.ofNat 32 _; unfold dr; simp)
def dP (b Ln : Nat) (xs : Nat → Int32) (U : State) : Prop := va_X b Ln xs U U.heap ∧ b < U.heap.size
theorem dblind {b Ln : Nat} {xs : Nat → Int32} {av : List Value} : FrameBlind (va_Pc av (dP b Ln xs)) := fun a U g mk q => ⟨q.1, va_X.moved (U := U.calling g mk a) (Vm.Alike.refl U.vm) q.2.1, q.2.2⟩
theorem dS {b Ln : Nat} {xs : Nat → Int32} {s : State} {H : Heap} {locs : List Loc} {A : Nat → Prop} {As : List Value} (hX : va_X b Ln xs s s.heap) (hbl : b < s.heap.size) (hbA : ¬ A b) (hS : va_S A s.heap H locs) : PreS s H (va_Pc As (dP b Ln xs)) As := ⟨dblind, fun U hU hW => ⟨rfl, by rw [hU]; exact (hX.kept (hS.2.1 b hbl hbA)).moved hW.alike, by rw [hU]; exact Nat.lt_of_lt_of_le hbl hS.1⟩⟩
set_option maxHeartbeats 4000000 in
set_option maxRecDepth 100000 in
theorem k_draw (l : Launch) (b Ln : Nat) (xs : Nat → Int32) (hL : Ln ≤ 260) (k : Nat) (hk : k < Ln) : Met l yL_draw wsL_draw ({ frames := 1, cells := 0, slots := 0, locals := 40 }) (va_Pc [.ref b, .int (nI k)] (dP b Ln xs)) (vp_Si (fun r => r = nI (dr (xs k)))) 0 0 (fun _ => False) := by
  refine Met.ofW (cc := cL_draw) (maxL := 2) (ret := (some .int)) (by decide) rfl ?_
  intro p e s m args below meth c s₁ B hml hv
  obtain ⟨rfl, hX, hbl⟩ := hv
  have hx := B.exec
  have hb := B.bytes
  have hr := B.returns
  have hts := atoms_spec (ws := wsL_draw) B.pre
  have hown : s.vm.findClass RL = some m.cls := findClass_of_methodNamed B.named
  have hlocks := B.notSynchronized
  have hl := lv_entry ([.ref b, .int (nI k)]) (n := 2) (Nat.le_of_ble_eq_true rfl)
  rw [lg_entry_eq]
  generalize (lg_sl ([.ref b, .int (nI k)]) ++ List.replicate (2 - (lg_sl ([.ref b, .int (nI k)])).length) Slot.unset).toArray = ls at hl ⊢
  have hl : lv_has ls 2 [(0, .ref b), (1, .int (nI k))] := hl
  have hS : va_S (fun _ => False) s.heap s.heap [] := va_S.rf
  refine lv_iload_n hx hb dL_draw_0 rfl (lv_at hl 1 rfl) ?_
  refine lv_aload_n hx hb dL_draw_1 rfl (lv_at hl 0 rfl) ?_
  refine va_slen hx hb hX hbl (fun z => z) hS dL_draw_2 ?_
  refine zasi (show Int32.ofNat Ln = nI Ln from rfl) ?_
  refine nicmp_ge (tgt := 15) hx hb dL_draw_3 (by decide) (by omega) (by omega) (fun c_3 => ?_) (fun c_3 => ?_)
  · exact absurd c_3 (by omega)
  · refine lv_aload_n hx hb dL_draw_6 rfl (lv_at hl 0 rfl) ?_
    refine lv_iload_n hx hb dL_draw_7 rfl (lv_at hl 1 rfl) ?_
    refine va_sld hx hb hX hbl (fun z => z) hS (vp_in_nI hk (by omega)) dL_draw_8 ?_
    rw [nI_clamp (by omega)]
    refine lv_ldc hx hb hown (hts (.constant RL 7 2147483647) (by decide +kernel)) dL_draw_9 ?_
    refine lv_iand hx hb dL_draw_11 ?_
    refine zasi (dr_is _) ?_
    refine lv_goto (tgt := 24) hx hb dL_draw_12 (by decide) ?_
    exact zri hx hb hr hlocks dL_draw_24 rfl
theorem zR_up {L : List Nat} {f : Nat → va_E} {ca : Nat → ClassId} {h0 K K' : Nat} {V : zV} (h : zR L f ca h0 K V) (hK : K ≤ K') (hK5 : K' ≤ 512) : zR L f ca h0 K' V := by
  obtain ⟨ta, pa, aT, aP, aS, aH, n, hR⟩ := h
  exact ⟨ta, pa, aT, aP, aS, aH, n, zRep_up hR hK hK5⟩
section ZL
variable {p : Program} {l : Launch} {e : Env} {R : Room} {s : State} {m : MethodId} {args : Array Value} {below : List Frame} {meth : Method} {c : Code} {H : Heap} {locs : List Loc} {cells slots : Nat} {Q : State → Prop}
variable {pc : Nat} {ls : Array Slot} {rest st0 : List Value} {A : Nat → Prop} {H0 : Heap} {D : va_G} {ca : Nat → ClassId} {ar : Array Value} {mc ms : Nat} {L : List Nat} {f : Nat → va_E} {aa : Nat → Nat} {T : zT}
/-- behind a method of the law that writes -/
theorem zls {P : Int32 → zU × zT → Prop} (hr : va_Run p l e R s m args below meth c H locs cells slots mc ms (F0 m pc ls st0) rest (va_Qi P (fun u t => va_P D vwCl (va_pl u.1.1 u.1.2 ++ tW ca aa u.2) t.heap ∧ va_D (va_A (va_pl L f ++ tW ca aa T) H.size) (va_pl u.1.1 u.1.2 ++ tW ca aa u.2)) (va_A (va_pl L f ++ tW ca aa T) H.size) ar) (va_A (va_pl L f ++ tW ca aa T) H.size)) (hD : va_D A (va_pl L f ++ tW ca aa T)) (hS : va_S A H0 H locs) (hA : ∀ q : Nat, H0.size ≤ q → A q)
    (kk : ∀ (r : Int32) (u : zU × zT) (H1 : Heap) (locs1 : List Loc), P r u → va_P D vwCl (va_pl u.1.1 u.1.2) H1 → va_P D vwCl (tW ca aa u.2) H1 → va_D A (va_pl u.1.1 u.1.2 ++ tW ca aa u.2) → va_S A H0 H1 locs1 → W p l e R s m args below meth c H1 locs1 (cells + mc) (slots + ms) Q (F0 m (pc + 3) ls (.int r :: rest))) : W p l e R s m args below meth c H locs cells slots Q (F0 m pc ls st0) := by
  have hF : ∀ q, va_A (va_pl L f ++ tW ca aa T) H.size q → A q := fun q h => h.elim (fun ⟨k, e, h1⟩ => hD.2 k (q, e) h1) (fun h => hA q (Nat.le_trans hS.1 h))
  refine va_calli hr hS (fun q _ h => hF q h) hF (fun r u t H1 locs1 ht _ hp hb _ _ hS1 => ?_)
  obtain ⟨hb1, hb2⟩ := hb
  rw [ht] at hb1
  exact kk r u H1 locs1 hp (p2_l hb1) (p2_r hb1) (hb2.weaken (fun k q _ h => hF q.1 h)) hS1
end ZL
