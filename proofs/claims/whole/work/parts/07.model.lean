/-! the reference: its object and its thirteen rows, and what its private methods that only read answer -/
def mW (hm : Nat) (ad : Nat → Nat) (ca : Nat → ClassId) (th : Int32) (td nt np nc : Nat) (M : Nat → Nat → Int32) : va_W :=
  [(hm, .inr (5, [.int th, .int (nI td), .int (nI nt), .int (nI np), .ref (ad 0), .ref (ad 1), .ref (ad 2), .ref (ad 3), .ref (ad 4), .ref (ad 5), .ref (ad 6), .int (nI nc), .ref (ad 7), .ref (ad 8), .ref (ad 9), .ref (ad 10), .ref (ad 11), .ref (ad 12)])),
  (ad 0, .inl (ca 3, 20, .inl (M 0))), (ad 1, .inl (ca 3, 20, .inl (M 1))), (ad 2, .inl (ca 3, 10, .inl (M 2))), (ad 3, .inl (ca 3, 10, .inl (M 3))), (ad 4, .inl (ca 3, 10, .inl (M 4))), (ad 5, .inl (ca 4, 10, .inl (M 5))), (ad 6, .inl (ca 3, 200, .inl (M 6))), (ad 7, .inl (ca 3, 4096, .inl (M 7))), (ad 8, .inl (ca 3, 4096, .inl (M 8))), (ad 9, .inl (ca 4, 4096, .inl (M 9))), (ad 10, .inl (ca 3, 4096, .inl (M 10))), (ad 11, .inl (ca 3, 4096, .inl (M 11))), (ad 12, .inl (ca 3, 4096, .inl (M 12)))]
def iB (v a b : Int32) : Bool := decide (¬ v < a) && decide (¬ b < v)
def iT (n : Nat) (t : Int32) : Bool := decide (¬ t < 0) && decide (¬ nI n ≤ t)
def mI : Nat → Int32
  | 0 => (-1)
  | k + 1 => nI k
def oI : Option Nat → Int32
  | none => (-1)
  | some k => nI k
theorem zm1 (k : Nat) : nI k + Int32.ofInt (-1) = mI k := by
  cases k with
  | zero => rfl
  | succ k => exact pk_m1 k
theorem mI_s (k : Nat) : nI k - nI 1 = mI k := by
  cases k with
  | zero => rfl
  | succ k => exact pk_sub (Nat.le_add_left _ _)
theorem oI_n (k : Nat) (h : k < 5000) : ¬ nI k = (-1) := fun q => absurd (congrArg Int32.toInt q) (by rw [nI_toInt (by omega)]; show ¬ (k : Int) = -1; omega)
def mOn (M : Nat → Nat → Int32) (w d : Nat) : Nat → Option Nat
  | 0 => none
  | k + 1 => if M 7 k = nI w ∧ M 8 k ≤ nI d then some k else mOn M w d k
theorem mOn_lt {M : Nat → Nat → Int32} {w d : Nat} : ∀ {n k : Nat}, mOn M w d n = some k → k < n
  | 0, k, h => by cases h
  | n + 1, k, h => by
    rw [mOn] at h
    by_cases c : M 7 n = nI w ∧ M 8 n ≤ nI d
    · rw [if_pos c] at h; cases h; exact Nat.lt_succ_self _
    · rw [if_neg c] at h; exact Nat.lt_succ_of_lt (mOn_lt h)
def mSo (M : Nat → Nat → Int32) (nc w d : Nat) : Bool := match mOn M w d nc with
  | none => false
  | some k => decide (¬ M 9 k = 0)
def mHas (M : Nat → Nat → Int32) (nc q t y st d : Nat) : Bool := match mOn M (21 * q + t) st nc with
  | none => false
  | some k => decide (¬ M 9 k = 0) && (iB (nI y) (M 10 k) (M 11 k) && (decide (nI y ≤ nI (d / 360) - M 12 k) && mSo M nc (21 * q + 20) st))
def mKept (M : Nat → Nat → Int32) (nc q t y d : Nat) : Bool := decide (¬ M 5 q = 0) && (decide (360 * y + 359 < d) && mHas M nc q t y (360 * y + 359) d)
def mCov (M : Nat → Nat → Int32) (nc q t y d : Nat) : Bool := mHas M nc q t y d d || mKept M nc q t y d
def mLets (M : Nat → Nat → Int32) (q g : Nat) : Bool := decide ((M 4 q >>> (nI g &&& 31)) &&& nI 1 = nI 1)
def mWays (M : Nat → Nat → Int32) (nc t y g d : Nat) : Nat → Nat
  | 0 => 0
  | k + 1 => if (mLets M k g && mCov M nc k t y d) = true then mWays M nc t y g d k + 1 else mWays M nc t y g d k
def mBrk (M : Nat → Nat → Int32) (q t : Nat) : Bool := decide (¬ M 6 (20 * q + t) ≤ nI 1)
def mAhead (M : Nat → Nat → Int32) (q q2 t : Nat) : Bool := if mBrk M q t = mBrk M q2 t then (if M 2 q = M 2 q2 then (decide (M 3 q < M 3 q2) || (decide (M 3 q = M 3 q2) && decide (q < q2))) else decide (M 2 q < M 2 q2)) else mBrk M q2 t
def mOth (M : Nat → Nat → Int32) (nc q t y td : Nat) : Nat → Int32
  | 0 => nI 0
  | k + 1 => mOth M nc q t y td k ||| (if k ≠ q ∧ mCov M nc k t y td = true then M 4 k else nI 0)
section ZM
variable {p : Program} {l : Launch} {e : Env} {R : Room} {s : State} {m : MethodId} {args : Array Value} {below : List Frame} {meth : Method} {c : Code} {H : Heap} {locs : List Loc} {cells slots : Nat} {Q : State → Prop}
variable {cc : ByteArray} {pc : Nat} {ls : Array Slot} {rest st0 : List Value} {A : Nat → Prop} {H0 : Heap} {D : va_G} {ca : Nat → ClassId} {sa : Nat → Nat} {hm : Nat} {ad : Nat → Nat} {th : Int32} {td nt np nc : Nat} {M : Nat → Nat → Int32}
theorem zmget (hexec : p.tables.exec = Jvm.exec) (hb : c.code = cc) {own C : String} {T : u_T} {N ci index : Nat} {Ts : List Cond} (hts : ∀ w ∈ Ts, w.before args s = true) (hin : ∀ w ∈ u_ws C T N, w ∈ Ts) (hown : s.vm.findClass own = some m.cls) (hE : zE D ca sa s) {ws : va_W} (hP : va_P D vwCl ws H) (q0 : Nat) {a : Nat} {fs : List Value} (he : ws[q0]? = some (a, .inr (ci, fs))) (hc : vwCl[ci]? = some (C, T, N)) (k : Nat) (hk : k < N) (hlink : (Cond.fieldLink own index (T k).1 (T k).2.1 (T k).2.2.1).before args s = true) {v : Value} (hv : fs[k]? = some v) (hdg : decode cc pc = .ok (.getfield index, 3))
    (kk : W p l e R s m args below meth c H locs cells slots Q (F0 m (pc + 3) ls (v :: rest))) : W p l e R s m args below meth c H locs cells slots Q (F0 m pc ls (.ref a :: rest)) :=
  va_get hexec hb hts hin hown hE.1 hP q0 he hc k hk hlink (fun _ h => h) hv hdg kk
theorem zmi (hexec : p.tables.exec = Jvm.exec) (hb : c.code = cc) (hE : zE D ca sa s) {ws : va_W} (hP : va_P D vwCl ws H) (q0 : Nat) {a n : Nat} {f : Nat → Int32} (ha : ws[q0]? = some (a, .inl (ca 3, n, .inl f))) {i : Nat} (hi : i < n) (hn : n < 2 ^ 31) (hdg : decode cc pc = .ok (.iaload, 1))
    (kk : W p l e R s m args below meth c H locs cells slots Q (F0 m (pc + 1) ls (.int (f i) :: rest))) : W p l e R s m args below meth c H locs cells slots Q (F0 m pc ls (.int (nI i) :: .ref a :: rest)) := by
  refine va_iald hexec hb hE.1 hP q0 3 ha rfl (vp_in_nI hi hn) hdg ?_
  rw [nI_clamp (by omega)]
  exact kk
theorem zmz (hexec : p.tables.exec = Jvm.exec) (hb : c.code = cc) (hE : zE D ca sa s) {ws : va_W} (hP : va_P D vwCl ws H) (q0 : Nat) {a n : Nat} {f : Nat → Int32} (ha : ws[q0]? = some (a, .inl (ca 4, n, .inl f))) {i : Nat} (hi : i < n) (hn : n < 2 ^ 31) (hdg : decode cc pc = .ok (.baload, 1))
    (kk : W p l e R s m args below meth c H locs cells slots Q (F0 m (pc + 1) ls (.int (f i) :: rest))) : W p l e R s m args below meth c H locs cells slots Q (F0 m pc ls (.int (nI i) :: .ref a :: rest)) := by
  refine va_zald hexec hb hE.1 hP q0 4 ha rfl (vp_in_nI hi hn) hdg ?_
  rw [nI_clamp (by omega)]
  exact kk
end ZM

set_option maxHeartbeats 4000000 in
set_option maxRecDepth 100000 in
theorem m_isB (l : Launch) (D : va_G) (ca : Nat → ClassId) (sa : Nat → Nat) (ws : va_W) (v a b : Int32) : Met l yX5_isBetween wsX5_isBetween ({ frames := 1, cells := 0, slots := 0, locals := 40 }) (va_Pc [.int v, .int a, .int b] (zPw D ws ca sa)) (vp_Si (fun r => r = bI (iB v a b))) 0 0 (fun _ => False) := by
  refine Met.ofW (cc := cX5_isBetween) (maxL := 3) (ret := (some .boolean)) (by decide) rfl ?_
  intro p e s m args below meth c s₁ B hml hv
  obtain ⟨rfl, hP, hE⟩ := hv
  have hx := B.exec
  have hb := B.bytes
  have hr := B.returns
  have hts := atoms_spec (ws := wsX5_isBetween) B.pre
  have hown : s.vm.findClass RX5 = some m.cls := findClass_of_methodNamed B.named
  have hlocks := B.notSynchronized
  have hl := lv_entry ([.int v, .int a, .int b]) (n := 3) (Nat.le_of_ble_eq_true rfl)
  rw [lg_entry_eq]
  generalize (lg_sl ([.int v, .int a, .int b]) ++ List.replicate (3 - (lg_sl ([.int v, .int a, .int b])).length) Slot.unset).toArray = ls at hl ⊢
  have hl : lv_has ls 3 [(0, .int v), (1, .int a), (2, .int b)] := hl
  refine lv_iload_n hx hb dX5_isBetween_0 rfl (lv_at hl 0 rfl) ?_
  refine lv_iload_n hx hb dX5_isBetween_1 rfl (lv_at hl 1 rfl) ?_
  refine lv_icmp_lt (tgt := 14) hx hb dX5_isBetween_2 (by decide) (fun c_2 => ?_) (fun c_2 => ?_)
  · refine lv_iconst (v := nI 0) hx hb dX5_isBetween_14 (by decide) ?_
    exact zrz hx hb hr hlocks dX5_isBetween_15 rfl (by rw [iB, decide_eq_false (fun q => q c_2)]; rfl)
  · refine lv_iload_n hx hb dX5_isBetween_5 rfl (lv_at hl 0 rfl) ?_
    refine lv_iload_n hx hb dX5_isBetween_6 rfl (lv_at hl 2 rfl) ?_
    refine lv_icmp_gt (tgt := 14) hx hb dX5_isBetween_7 (by decide) (fun c_7 => ?_) (fun c_7 => ?_)
    · refine lv_iconst (v := nI 0) hx hb dX5_isBetween_14 (by decide) ?_
      exact zrz hx hb hr hlocks dX5_isBetween_15 rfl (by rw [iB, decide_eq_false (p := ¬ b < v) (fun q => q c_7), Bool.and_false]; rfl)
    · refine lv_iconst (v := nI 1) hx hb dX5_isBetween_10 (by decide) ?_
      refine lv_goto (tgt := 15) hx hb dX5_isBetween_11 (by decide) ?_
      exact zrz hx hb hr hlocks dX5_isBetween_15 rfl (by rw [iB, decide_eq_true c_2, decide_eq_true c_7]; rfl)

set_option maxHeartbeats 4000000 in
set_option maxRecDepth 100000 in
theorem m_isT (l : Launch) (D : va_G) (ca : Nat → ClassId) (sa : Nat → Nat) (hm : Nat) (ad : Nat → Nat) (th : Int32) (td nt np nc : Nat) (M : Nat → Nat → Int32) (x : Int32) : Met l yX5_isTitle wsX5_isTitle ({ frames := 1, cells := 0, slots := 0, locals := 40 }) (va_Pc [.ref hm, .int x] (zPw D (mW hm ad ca th td nt np nc M) ca sa)) (vp_Si (fun r => r = bI (iT nt x))) 0 0 (fun _ => False) := by
  refine Met.ofW (cc := cX5_isTitle) (maxL := 2) (ret := (some .boolean)) (by decide) rfl ?_
  intro p e s m args below meth c s₁ B hml hv
  obtain ⟨rfl, hP, hE⟩ := hv
  have hx := B.exec
  have hb := B.bytes
  have hr := B.returns
  have hts := atoms_spec (ws := wsX5_isTitle) B.pre
  have hown : s.vm.findClass RX5 = some m.cls := findClass_of_methodNamed B.named
  have hlocks := B.notSynchronized
  have hl := lv_entry ([.ref hm, .int x]) (n := 2) (Nat.le_of_ble_eq_true rfl)
  rw [lg_entry_eq]
  generalize (lg_sl ([.ref hm, .int x]) ++ List.replicate (2 - (lg_sl ([.ref hm, .int x])).length) Slot.unset).toArray = ls at hl ⊢
  have hl : lv_has ls 2 [(0, .ref hm), (1, .int x)] := hl
  refine lv_iload_n hx hb dX5_isTitle_0 rfl (lv_at hl 1 rfl) ?_
  refine lv_if_lt (tgt := 16) hx hb dX5_isTitle_1 (by decide) (fun c_1 => ?_) (fun c_1 => ?_)
  · refine lv_iconst (v := nI 0) hx hb dX5_isTitle_16 (by decide) ?_
    exact zrz hx hb hr hlocks dX5_isTitle_17 rfl (by rw [iT, decide_eq_false (fun q => q c_1)]; rfl)
  · refine lv_iload_n hx hb dX5_isTitle_4 rfl (lv_at hl 1 rfl) ?_
    refine lv_aload_n hx hb dX5_isTitle_5 rfl (lv_at hl 0 rfl) ?_
    refine zmget (own := RX5) (ci := 5) (C := RX5) (T := TX5) (N := 18) hx hb hts (by decide +kernel) hown hE hP 0 rfl rfl 2 (by decide) (hts (.fieldLink RX5 54 "LinkResolverModel" "titles" "I") (by decide +kernel)) rfl dX5_isTitle_6 ?_
    refine lv_icmp_ge (tgt := 16) hx hb dX5_isTitle_9 (by decide) (fun c_9 => ?_) (fun c_9 => ?_)
    · refine lv_iconst (v := nI 0) hx hb dX5_isTitle_16 (by decide) ?_
      exact zrz hx hb hr hlocks dX5_isTitle_17 rfl (by rw [iT, decide_eq_false (p := ¬ nI nt ≤ x) (fun q => q c_9), Bool.and_false]; rfl)
    · refine lv_iconst (v := nI 1) hx hb dX5_isTitle_12 (by decide) ?_
      refine lv_goto (tgt := 17) hx hb dX5_isTitle_13 (by decide) ?_
      exact zrz hx hb hr hlocks dX5_isTitle_17 rfl (by rw [iT, decide_eq_true c_1, decide_eq_true c_9]; rfl)

set_option maxHeartbeats 4000000 in
set_option maxRecDepth 100000 in
theorem m_isP (l : Launch) (D : va_G) (ca : Nat → ClassId) (sa : Nat → Nat) (hm : Nat) (ad : Nat → Nat) (th : Int32) (td nt np nc : Nat) (M : Nat → Nat → Int32) (x : Int32) : Met l yX5_isPackage wsX5_isPackage ({ frames := 1, cells := 0, slots := 0, locals := 40 }) (va_Pc [.ref hm, .int x] (zPw D (mW hm ad ca th td nt np nc M) ca sa)) (vp_Si (fun r => r = bI (iT np x))) 0 0 (fun _ => False) := by
  refine Met.ofW (cc := cX5_isPackage) (maxL := 2) (ret := (some .boolean)) (by decide) rfl ?_
  intro p e s m args below meth c s₁ B hml hv
  obtain ⟨rfl, hP, hE⟩ := hv
  have hx := B.exec
  have hb := B.bytes
  have hr := B.returns
  have hts := atoms_spec (ws := wsX5_isPackage) B.pre
  have hown : s.vm.findClass RX5 = some m.cls := findClass_of_methodNamed B.named
  have hlocks := B.notSynchronized
  have hl := lv_entry ([.ref hm, .int x]) (n := 2) (Nat.le_of_ble_eq_true rfl)
  rw [lg_entry_eq]
  generalize (lg_sl ([.ref hm, .int x]) ++ List.replicate (2 - (lg_sl ([.ref hm, .int x])).length) Slot.unset).toArray = ls at hl ⊢
  have hl : lv_has ls 2 [(0, .ref hm), (1, .int x)] := hl
  refine lv_iload_n hx hb dX5_isPackage_0 rfl (lv_at hl 1 rfl) ?_
  refine lv_if_lt (tgt := 16) hx hb dX5_isPackage_1 (by decide) (fun c_1 => ?_) (fun c_1 => ?_)
  · refine lv_iconst (v := nI 0) hx hb dX5_isPackage_16 (by decide) ?_
    exact zrz hx hb hr hlocks dX5_isPackage_17 rfl (by rw [iT, decide_eq_false (fun q => q c_1)]; rfl)
  · refine lv_iload_n hx hb dX5_isPackage_4 rfl (lv_at hl 1 rfl) ?_
    refine lv_aload_n hx hb dX5_isPackage_5 rfl (lv_at hl 0 rfl) ?_
    refine zmget (own := RX5) (ci := 5) (C := RX5) (T := TX5) (N := 18) hx hb hts (by decide +kernel) hown hE hP 0 rfl rfl 3 (by decide) (hts (.fieldLink RX5 57 "LinkResolverModel" "packages" "I") (by decide +kernel)) rfl dX5_isPackage_6 ?_
    refine lv_icmp_ge (tgt := 16) hx hb dX5_isPackage_9 (by decide) (fun c_9 => ?_) (fun c_9 => ?_)
    · refine lv_iconst (v := nI 0) hx hb dX5_isPackage_16 (by decide) ?_
      exact zrz hx hb hr hlocks dX5_isPackage_17 rfl (by rw [iT, decide_eq_false (p := ¬ nI np ≤ x) (fun q => q c_9), Bool.and_false]; rfl)
    · refine lv_iconst (v := nI 1) hx hb dX5_isPackage_12 (by decide) ?_
      refine lv_goto (tgt := 17) hx hb dX5_isPackage_13 (by decide) ?_
      exact zrz hx hb hr hlocks dX5_isPackage_17 rfl (by rw [iT, decide_eq_true c_1, decide_eq_true c_9]; rfl)

set_option maxHeartbeats 4000000 in
set_option maxRecDepth 100000 in
theorem m_chOn (l : Launch) (D : va_G) (ca : Nat → ClassId) (sa : Nat → Nat) (hm : Nat) (ad : Nat → Nat) (th : Int32) (td nt np nc : Nat) (M : Nat → Nat → Int32) (w d : Nat) (hnc : nc ≤ 600) : Met l yX5_changeOn wsX5_changeOn ({ frames := 1, cells := 0, slots := 0, locals := 40 }) (va_Pc [.ref hm, .int (nI w), .int (nI d)] (zPw D (mW hm ad ca th td nt np nc M) ca sa)) (vp_Si (fun r => r = oI (mOn M w d nc))) 0 0 (fun _ => False) := by
  refine Met.ofW (cc := cX5_changeOn) (maxL := 4) (ret := (some .int)) (by decide) rfl ?_
  intro p e s m args below meth c s₁ B hml hv
  obtain ⟨rfl, hP, hE⟩ := hv
  have hx := B.exec
  have hb := B.bytes
  have hr := B.returns
  have hts := atoms_spec (ws := wsX5_changeOn) B.pre
  have hown : s.vm.findClass RX5 = some m.cls := findClass_of_methodNamed B.named
  have hlocks := B.notSynchronized
  have hl := lv_entry ([.ref hm, .int (nI w), .int (nI d)]) (n := 4) (Nat.le_of_ble_eq_true rfl)
  rw [lg_entry_eq]
  generalize (lg_sl ([.ref hm, .int (nI w), .int (nI d)]) ++ List.replicate (4 - (lg_sl ([.ref hm, .int (nI w), .int (nI d)])).length) Slot.unset).toArray = ls at hl ⊢
  have hl : lv_has ls 4 [(0, .ref hm), (1, .int (nI w)), (2, .int (nI d))] := hl
  have loop : ∀ (k : Nat) (ls : Array Slot), k ≤ nc → mOn M w d k = mOn M w d nc → lv_has ls 4 [(3, .int (mI k)), (0, .ref hm), (1, .int (nI w)), (2, .int (nI d))] → W p l e (headSpec wsX5_changeOn ({ frames := 1, cells := 0, slots := 0, locals := 40 })).room s m ([.ref hm, .int (nI w), .int (nI d)] : List Value).toArray below meth c s.heap [] 0 0 (MQ below (vp_Si (fun r => r = oI (mOn M w d nc))) ([.ref hm, .int (nI w), .int (nI d)] : List Value).toArray s 0 0 (fun _ => False)) (F0 m 7 ls []) := by
    intro k
    induction k with
    | zero =>
      intro ls hk hcl hl
      have hl : lv_has ls 4 [(3, .int (-1)), (0, .ref hm), (1, .int (nI w)), (2, .int (nI d))] := hl
      refine lv_iload_n hx hb dX5_changeOn_7 rfl (lv_at hl 0 rfl) ?_
      refine lv_if_lt (tgt := 37) hx hb dX5_changeOn_8 (by decide) (fun c_8 => ?_) (fun c_8 => ?_)
      · refine lv_iload_n hx hb dX5_changeOn_37 rfl (lv_at hl 0 rfl) ?_
        exact zri hx hb hr hlocks dX5_changeOn_38 (by rw [← hcl]; rfl)
      · exact absurd (show (-1 : Int32) < 0 by decide) c_8
    | succ k ih =>
      intro ls hk hcl hl
      have hl : lv_has ls 4 [(3, .int (nI k)), (0, .ref hm), (1, .int (nI w)), (2, .int (nI d))] := hl
      refine lv_iload_n hx hb dX5_changeOn_7 rfl (lv_at hl 0 rfl) ?_
      refine lv_if_lt (tgt := 37) hx hb dX5_changeOn_8 (by decide) (fun c_8 => ?_) (fun c_8 => ?_)
      · exact absurd c_8 (nI_pos (by omega))
      · refine lv_aload_n hx hb dX5_changeOn_11 rfl (lv_at hl 1 rfl) ?_
        refine zmget (own := RX5) (ci := 5) (C := RX5) (T := TX5) (N := 18) hx hb hts (by decide +kernel) hown hE hP 0 rfl rfl 12 (by decide) (hts (.fieldLink RX5 32 "LinkResolverModel" "ofWhat" "[I") (by decide +kernel)) rfl dX5_changeOn_12 ?_
        refine lv_iload_n hx hb dX5_changeOn_15 rfl (lv_at hl 0 rfl) ?_
        refine zmi hx hb hE hP 8 rfl (i := k) (show _ < _ from by omega) (by decide) dX5_changeOn_16 ?_
        refine lv_iload_n hx hb dX5_changeOn_17 rfl (lv_at hl 2 rfl) ?_
        refine lv_icmp_ne (tgt := 31) hx hb dX5_changeOn_18 (by decide) (fun c_18 => ?_) (fun c_18 => ?_)
        · refine lv_iinc (v := mI k) (lv' := [(3, .int (mI k)), (0, .ref hm), (1, .int (nI w)), (2, .int (nI d))]) hx hb dX5_changeOn_31 hl (k := 0) rfl (zm1 k) (by decide) rfl (fun ls hl => ?_)
          refine lv_goto (tgt := 7) hx hb dX5_changeOn_34 (by decide) ?_
          exact ih ls (by omega) (by rw [← hcl, mOn, if_neg (fun q => c_18 q.1)]) hl
        · refine lv_aload_n hx hb dX5_changeOn_21 rfl (lv_at hl 1 rfl) ?_
          refine zmget (own := RX5) (ci := 5) (C := RX5) (T := TX5) (N := 18) hx hb hts (by decide +kernel) hown hE hP 0 rfl rfl 13 (by decide) (hts (.fieldLink RX5 35 "LinkResolverModel" "days" "[I") (by decide +kernel)) rfl dX5_changeOn_22 ?_
          refine lv_iload_n hx hb dX5_changeOn_25 rfl (lv_at hl 0 rfl) ?_
          refine zmi hx hb hE hP 9 rfl (i := k) (show _ < _ from by omega) (by decide) dX5_changeOn_26 ?_
          refine lv_iload_n hx hb dX5_changeOn_27 rfl (lv_at hl 3 rfl) ?_
          refine lv_icmp_le (tgt := 37) hx hb dX5_changeOn_28 (by decide) (fun c_28 => ?_) (fun c_28 => ?_)
          · refine lv_iload_n hx hb dX5_changeOn_37 rfl (lv_at hl 0 rfl) ?_
            exact zri hx hb hr hlocks dX5_changeOn_38 (by rw [← hcl, mOn, if_pos ⟨c_18, c_28⟩]; rfl)
          · refine lv_iinc (v := mI k) (lv' := [(3, .int (mI k)), (0, .ref hm), (1, .int (nI w)), (2, .int (nI d))]) hx hb dX5_changeOn_31 hl (k := 0) rfl (zm1 k) (by decide) rfl (fun ls hl => ?_)
            refine lv_goto (tgt := 7) hx hb dX5_changeOn_34 (by decide) ?_
            exact ih ls (by omega) (by rw [← hcl, mOn, if_neg (fun q => c_28 q.2)]) hl
  refine lv_aload_n hx hb dX5_changeOn_0 rfl (lv_at hl 0 rfl) ?_
  refine zmget (own := RX5) (ci := 5) (C := RX5) (T := TX5) (N := 18) hx hb hts (by decide +kernel) hown hE hP 0 rfl rfl 11 (by decide) (hts (.fieldLink RX5 71 "LinkResolverModel" "changes" "I") (by decide +kernel)) rfl dX5_changeOn_1 ?_
  refine lv_iconst (v := nI 1) hx hb dX5_changeOn_4 (by decide) ?_
  refine lv_isub hx hb dX5_changeOn_5 ?_
  refine zasi (show ((nI nc) - (nI 1)) = mI nc from mI_s nc) ?_
  refine lv_istore_n (lv' := [(3, .int (mI nc)), (0, .ref hm), (1, .int (nI w)), (2, .int (nI d))]) hx hb dX5_changeOn_6 rfl hl (by decide) rfl (fun ls hl => ?_)
  exact loop nc ls (Nat.le_refl _) rfl hl

set_option maxHeartbeats 4000000 in
set_option maxRecDepth 100000 in
theorem m_isSo (l : Launch) (D : va_G) (ca : Nat → ClassId) (sa : Nat → Nat) (hm : Nat) (ad : Nat → Nat) (th : Int32) (td nt np nc : Nat) (M : Nat → Nat → Int32) (w d : Nat) (hnc : nc ≤ 600) : Met l yX5_isSo wsX5_isSo ({ frames := 2, cells := 0, slots := 0, locals := 80 }) (va_Pc [.ref hm, .int (nI w), .int (nI d)] (zPw D (mW hm ad ca th td nt np nc M) ca sa)) (vp_Si (fun r => r = bI (mSo M nc w d))) 0 0 (fun _ => False) := by
  refine Met.ofW (cc := cX5_isSo) (maxL := 4) (ret := (some .boolean)) (by decide) rfl ?_
  intro p e s m args below meth c s₁ B hml hv
  obtain ⟨rfl, hP, hE⟩ := hv
  have hx := B.exec
  have hb := B.bytes
  have hr := B.returns
  have hts := atoms_spec (ws := wsX5_isSo) B.pre
  have hown : s.vm.findClass RX5 = some m.cls := findClass_of_methodNamed B.named
  have hlocks := B.notSynchronized
  have hl := lv_entry ([.ref hm, .int (nI w), .int (nI d)]) (n := 4) (Nat.le_of_ble_eq_true rfl)
  rw [lg_entry_eq]
  generalize (lg_sl ([.ref hm, .int (nI w), .int (nI d)]) ++ List.replicate (4 - (lg_sl ([.ref hm, .int (nI w), .int (nI d)])).length) Slot.unset).toArray = ls at hl ⊢
  have hl : lv_has ls 4 [(0, .ref hm), (1, .int (nI w)), (2, .int (nI d))] := hl
  refine lv_aload_n hx hb dX5_isSo_0 rfl (lv_at hl 0 rfl) ?_
  refine lv_iload_n hx hb dX5_isSo_1 rfl (lv_at hl 1 rfl) ?_
  refine lv_iload_n hx hb dX5_isSo_2 rfl (lv_at hl 2 rfl) ?_
  refine zci (va_runV (As := [.int (nI w), .int (nI d)]) (rest := []) ⟨hx, hb, hml, hown, hts⟩ (m_chOn l D ca sa hm ad th td nt np nc M (w) (d) hnc) (cwV 2 hts gX5_isSo_X5_changeOn rfl rfl rfl (by decide +kernel) ⟨Nat.le_of_ble_eq_true rfl, Nat.le_of_ble_eq_true rfl⟩) (zpV hP hE (ci := 5) rfl (q0 := 0) rfl) rfl rfl hl.1 rfl (lv_room (Nat.le_of_ble_eq_true rfl)) dX5_isSo_3 ⟨Nat.le_of_ble_eq_true rfl, Nat.le_of_ble_eq_true rfl⟩) ?_
  cases e9 : mOn M (w) (d) nc with
  | none =>
    refine W.eq (g2 := F0 m 6 ls [.int (-1)]) rfl ?_
    refine lv_istore_n (lv' := [(3, .int (-1)), (0, .ref hm), (1, .int (nI w)), (2, .int (nI d))]) hx hb dX5_isSo_6 rfl hl (by decide) rfl (fun ls hl => ?_)
    refine lv_iload_n hx hb dX5_isSo_7 rfl (lv_at hl 0 rfl) ?_
    refine lv_iconst (v := (-1)) hx hb dX5_isSo_8 (by decide) ?_
    refine lv_icmp_eq (tgt := 25) hx hb dX5_isSo_9 (by decide) (fun c_9 => ?_) (fun c_9 => ?_)
    · refine lv_iconst (v := nI 0) hx hb dX5_isSo_25 (by decide) ?_
      exact zrz hx hb hr hlocks dX5_isSo_26 rfl (by rw [mSo, e9]; rfl)
    · exact absurd rfl c_9
  | some k9 =>
    have hk9 := mOn_lt e9
    refine W.eq (g2 := F0 m 6 ls [.int (nI k9)]) rfl ?_
    refine lv_istore_n (lv' := [(3, .int (nI k9)), (0, .ref hm), (1, .int (nI w)), (2, .int (nI d))]) hx hb dX5_isSo_6 rfl hl (by decide) rfl (fun ls hl => ?_)
    refine lv_iload_n hx hb dX5_isSo_7 rfl (lv_at hl 0 rfl) ?_
    refine lv_iconst (v := (-1)) hx hb dX5_isSo_8 (by decide) ?_
    refine lv_icmp_eq (tgt := 25) hx hb dX5_isSo_9 (by decide) (fun c_9 => ?_) (fun c_9 => ?_)
    · exact absurd c_9 (oI_n _ (by omega))
    · refine lv_aload_n hx hb dX5_isSo_12 rfl (lv_at hl 1 rfl) ?_
      refine zmget (own := RX5) (ci := 5) (C := RX5) (T := TX5) (N := 18) hx hb hts (by decide +kernel) hown hE hP 0 rfl rfl 14 (by decide) (hts (.fieldLink RX5 38 "LinkResolverModel" "isOn" "[Z") (by decide +kernel)) rfl dX5_isSo_13 ?_
      refine lv_iload_n hx hb dX5_isSo_16 rfl (lv_at hl 0 rfl) ?_
      refine zmz hx hb hE hP 10 rfl (i := k9) (show _ < _ from by omega) (by decide) dX5_isSo_17 ?_
      refine lv_if_eq (tgt := 25) hx hb dX5_isSo_18 (by decide) (fun c_18 => ?_) (fun c_18 => ?_)
      · refine lv_iconst (v := nI 0) hx hb dX5_isSo_25 (by decide) ?_
        exact zrz hx hb hr hlocks dX5_isSo_26 rfl (by rw [mSo, e9]; exact bI_f (fun q => q c_18))
      · refine lv_iconst (v := nI 1) hx hb dX5_isSo_21 (by decide) ?_
        refine lv_goto (tgt := 26) hx hb dX5_isSo_22 (by decide) ?_
        exact zrz hx hb hr hlocks dX5_isSo_26 rfl (by rw [mSo, e9]; exact bI_t c_18)

set_option maxHeartbeats 4000000 in
set_option maxRecDepth 100000 in
theorem m_sub (l : Launch) (D : va_G) (ca : Nat → ClassId) (sa : Nat → Nat) (ws : va_W) (q : Nat) : Met l yX5_subscription wsX5_subscription ({ frames := 1, cells := 0, slots := 0, locals := 40 }) (va_Pc [.int (nI q)] (zPw D ws ca sa)) (vp_Si (fun r => r = nI (21 * q + 20))) 0 0 (fun _ => False) := by
  refine Met.ofW (cc := cX5_subscription) (maxL := 1) (ret := (some .int)) (by decide) rfl ?_
  intro p e s m args below meth c s₁ B hml hv
  obtain ⟨rfl, hP, hE⟩ := hv
  have hx := B.exec
  have hb := B.bytes
  have hr := B.returns
  have hts := atoms_spec (ws := wsX5_subscription) B.pre
  have hown : s.vm.findClass RX5 = some m.cls := findClass_of_methodNamed B.named
  have hlocks := B.notSynchronized
  have hl := lv_entry ([.int (nI q)]) (n := 1) (Nat.le_of_ble_eq_true rfl)
  rw [lg_entry_eq]
  generalize (lg_sl ([.int (nI q)]) ++ List.replicate (1 - (lg_sl ([.int (nI q)])).length) Slot.unset).toArray = ls at hl ⊢
  have hl : lv_has ls 1 [(0, .int (nI q))] := hl
  refine lv_bipush (v := nI 21) hx hb dX5_subscription_0 (by decide) ?_
  refine lv_iload_n hx hb dX5_subscription_2 rfl (lv_at hl 0 rfl) ?_
  refine lv_imul hx hb dX5_subscription_3 ?_
  refine zasi (show ((nI 21) * (nI q)) = nI (21 * q) from pk_mul _ _) ?_
  refine lv_bipush (v := nI 20) hx hb dX5_subscription_4 (by decide) ?_
  refine lv_iadd hx hb dX5_subscription_6 ?_
  refine zasi (show ((nI (21 * q)) + (nI 20)) = nI (21 * q + 20) from nI_add _ _) ?_
  exact zri hx hb hr hlocks dX5_subscription_7 (rfl)

set_option maxHeartbeats 4000000 in
set_option maxRecDepth 100000 in
theorem m_has (l : Launch) (D : va_G) (ca : Nat → ClassId) (sa : Nat → Nat) (hm : Nat) (ad : Nat → Nat) (th : Int32) (td nt np nc : Nat) (M : Nat → Nat → Int32) (q t y st d : Nat) (hnc : nc ≤ 600) (hq : q < 10) (ht : t < 20) (hd : d ≤ 20000) : Met l yX5_has wsX5_has ({ frames := 3, cells := 0, slots := 0, locals := 120 }) (va_Pc [.ref hm, .int (nI q), .int (nI t), .int (nI y), .int (nI st), .int (nI d)] (zPw D (mW hm ad ca th td nt np nc M) ca sa)) (vp_Si (fun r => r = bI (mHas M nc q t y st d))) 0 0 (fun _ => False) := by
  refine Met.ofW (cc := cX5_has) (maxL := 8) (ret := (some .boolean)) (by decide) rfl ?_
  intro p e s m args below meth c s₁ B hml hv
  obtain ⟨rfl, hP, hE⟩ := hv
  have hx := B.exec
  have hb := B.bytes
  have hr := B.returns
  have hts := atoms_spec (ws := wsX5_has) B.pre
  have hown : s.vm.findClass RX5 = some m.cls := findClass_of_methodNamed B.named
  have hlocks := B.notSynchronized
  have hl := lv_entry ([.ref hm, .int (nI q), .int (nI t), .int (nI y), .int (nI st), .int (nI d)]) (n := 8) (Nat.le_of_ble_eq_true rfl)
  rw [lg_entry_eq]
  generalize (lg_sl ([.ref hm, .int (nI q), .int (nI t), .int (nI y), .int (nI st), .int (nI d)]) ++ List.replicate (8 - (lg_sl ([.ref hm, .int (nI q), .int (nI t), .int (nI y), .int (nI st), .int (nI d)])).length) Slot.unset).toArray = ls at hl ⊢
  have hl : lv_has ls 8 [(0, .ref hm), (1, .int (nI q)), (2, .int (nI t)), (3, .int (nI y)), (4, .int (nI st)), (5, .int (nI d))] := hl
  refine lv_aload_n hx hb dX5_has_0 rfl (lv_at hl 0 rfl) ?_
  refine lv_bipush (v := nI 21) hx hb dX5_has_1 (by decide) ?_
  refine lv_iload_n hx hb dX5_has_3 rfl (lv_at hl 1 rfl) ?_
  refine lv_imul hx hb dX5_has_4 ?_
  refine zasi (show ((nI 21) * (nI q)) = nI (21 * q) from pk_mul _ _) ?_
  refine lv_iload_n hx hb dX5_has_5 rfl (lv_at hl 2 rfl) ?_
  refine lv_iadd hx hb dX5_has_6 ?_
  refine zasi (show ((nI (21 * q)) + (nI t)) = nI (21 * q + t) from nI_add _ _) ?_
  refine lv_iload hx hb dX5_has_7 (lv_at hl 4 rfl) ?_
  refine zci (va_runV (As := [.int (nI (21 * q + t)), .int (nI st)]) (rest := []) ⟨hx, hb, hml, hown, hts⟩ (m_chOn l D ca sa hm ad th td nt np nc M (21 * q + t) (st) hnc) (cwV 2 hts gX5_has_X5_changeOn rfl rfl rfl (by decide +kernel) ⟨Nat.le_of_ble_eq_true rfl, Nat.le_of_ble_eq_true rfl⟩) (zpV hP hE (ci := 5) rfl (q0 := 0) rfl) rfl rfl hl.1 rfl (lv_room (Nat.le_of_ble_eq_true rfl)) dX5_has_9 ⟨Nat.le_of_ble_eq_true rfl, Nat.le_of_ble_eq_true rfl⟩) ?_
  cases e9 : mOn M (21 * q + t) (st) nc with
  | none =>
    refine W.eq (g2 := F0 m 12 ls [.int (-1)]) rfl ?_
    refine lv_istore (lv' := [(6, .int (-1)), (0, .ref hm), (1, .int (nI q)), (2, .int (nI t)), (3, .int (nI y)), (4, .int (nI st)), (5, .int (nI d))]) hx hb dX5_has_12 hl (by decide) rfl (fun ls hl => ?_)
    refine lv_iload hx hb dX5_has_14 (lv_at hl 0 rfl) ?_
    refine lv_iconst (v := (-1)) hx hb dX5_has_16 (by decide) ?_
    refine lv_icmp_eq (tgt := 73) hx hb dX5_has_17 (by decide) (fun c_17 => ?_) (fun c_17 => ?_)
    · refine lv_iconst (v := nI 0) hx hb dX5_has_73 (by decide) ?_
      refine lv_istore (lv' := [(7, .int (nI 0)), (6, .int (-1)), (0, .ref hm), (1, .int (nI q)), (2, .int (nI t)), (3, .int (nI y)), (4, .int (nI st)), (5, .int (nI d))]) hx hb dX5_has_74 hl (by decide) rfl (fun ls hl => ?_)
      refine lv_iload hx hb dX5_has_76 (lv_at hl 0 rfl) ?_
      refine lv_if_eq (tgt := 98) hx hb dX5_has_78 (by decide) (fun c_78 => ?_) (fun c_78 => ?_)
      · refine lv_iconst (v := nI 0) hx hb dX5_has_98 (by decide) ?_
        exact zrz hx hb hr hlocks dX5_has_99 rfl (by rw [mHas, e9]; rfl)
      · exact absurd rfl c_78
    · exact absurd rfl c_17
  | some k9 =>
    have hk9 := mOn_lt e9
    refine W.eq (g2 := F0 m 12 ls [.int (nI k9)]) rfl ?_
    refine lv_istore (lv' := [(6, .int (nI k9)), (0, .ref hm), (1, .int (nI q)), (2, .int (nI t)), (3, .int (nI y)), (4, .int (nI st)), (5, .int (nI d))]) hx hb dX5_has_12 hl (by decide) rfl (fun ls hl => ?_)
    refine lv_iload hx hb dX5_has_14 (lv_at hl 0 rfl) ?_
    refine lv_iconst (v := (-1)) hx hb dX5_has_16 (by decide) ?_
    refine lv_icmp_eq (tgt := 73) hx hb dX5_has_17 (by decide) (fun c_17 => ?_) (fun c_17 => ?_)
    · exact absurd c_17 (oI_n _ (by omega))
    · refine lv_aload_n hx hb dX5_has_20 rfl (lv_at hl 1 rfl) ?_
      refine zmget (own := RX5) (ci := 5) (C := RX5) (T := TX5) (N := 18) hx hb hts (by decide +kernel) hown hE hP 0 rfl rfl 14 (by decide) (hts (.fieldLink RX5 38 "LinkResolverModel" "isOn" "[Z") (by decide +kernel)) rfl dX5_has_21 ?_
      refine lv_iload hx hb dX5_has_24 (lv_at hl 0 rfl) ?_
      refine zmz hx hb hE hP 10 rfl (i := k9) (show _ < _ from by omega) (by decide) dX5_has_26 ?_
      refine lv_if_eq (tgt := 73) hx hb dX5_has_27 (by decide) (fun c_27 => ?_) (fun c_27 => ?_)
      · refine lv_iconst (v := nI 0) hx hb dX5_has_73 (by decide) ?_
        refine lv_istore (lv' := [(7, .int (nI 0)), (6, .int (nI k9)), (0, .ref hm), (1, .int (nI q)), (2, .int (nI t)), (3, .int (nI y)), (4, .int (nI st)), (5, .int (nI d))]) hx hb dX5_has_74 hl (by decide) rfl (fun ls hl => ?_)
        refine lv_iload hx hb dX5_has_76 (lv_at hl 0 rfl) ?_
        refine lv_if_eq (tgt := 98) hx hb dX5_has_78 (by decide) (fun c_78 => ?_) (fun c_78 => ?_)
        · refine lv_iconst (v := nI 0) hx hb dX5_has_98 (by decide) ?_
          exact zrz hx hb hr hlocks dX5_has_99 rfl (by rw [mHas, e9]; simp only [decide_eq_false (p := ¬ M 9 k9 = 0) (fun q9 => q9 c_27), Bool.false_and]; rfl)
        · exact absurd rfl c_78
      · refine lv_iload_n hx hb dX5_has_30 rfl (lv_at hl 4 rfl) ?_
        refine lv_aload_n hx hb dX5_has_31 rfl (lv_at hl 1 rfl) ?_
        refine zmget (own := RX5) (ci := 5) (C := RX5) (T := TX5) (N := 18) hx hb hts (by decide +kernel) hown hE hP 0 rfl rfl 15 (by decide) (hts (.fieldLink RX5 41 "LinkResolverModel" "firsts" "[I") (by decide +kernel)) rfl dX5_has_32 ?_
        refine lv_iload hx hb dX5_has_35 (lv_at hl 0 rfl) ?_
        refine zmi hx hb hE hP 11 rfl (i := k9) (show _ < _ from by omega) (by decide) dX5_has_37 ?_
        refine lv_aload_n hx hb dX5_has_38 rfl (lv_at hl 1 rfl) ?_
        refine zmget (own := RX5) (ci := 5) (C := RX5) (T := TX5) (N := 18) hx hb hts (by decide +kernel) hown hE hP 0 rfl rfl 16 (by decide) (hts (.fieldLink RX5 44 "LinkResolverModel" "lasts" "[I") (by decide +kernel)) rfl dX5_has_39 ?_
        refine lv_iload hx hb dX5_has_42 (lv_at hl 0 rfl) ?_
        refine zmi hx hb hE hP 12 rfl (i := k9) (show _ < _ from by omega) (by decide) dX5_has_44 ?_
        refine zci (va_runS (As := [.int (nI y), .int (M 10 k9), .int (M 11 k9)]) (rest := []) ⟨hx, hb, hml, hown, hts⟩ (m_isB l D ca sa _ _ _ _) (va_cwS 3 hts gX5_has_X5_isBetween rfl rfl rfl (by decide +kernel) ⟨Nat.le_of_ble_eq_true rfl, Nat.le_of_ble_eq_true rfl⟩) (zpS hP hE) rfl rfl hl.1 rfl (lv_room (Nat.le_of_ble_eq_true rfl)) dX5_has_45 ⟨Nat.le_of_ble_eq_true rfl, Nat.le_of_ble_eq_true rfl⟩) ?_
        refine lv_if_eq (tgt := 73) hx hb dX5_has_48 (by decide) (fun c_48 => ?_) (fun c_48 => ?_)
        · refine lv_iconst (v := nI 0) hx hb dX5_has_73 (by decide) ?_
          refine lv_istore (lv' := [(7, .int (nI 0)), (6, .int (nI k9)), (0, .ref hm), (1, .int (nI q)), (2, .int (nI t)), (3, .int (nI y)), (4, .int (nI st)), (5, .int (nI d))]) hx hb dX5_has_74 hl (by decide) rfl (fun ls hl => ?_)
          refine lv_iload hx hb dX5_has_76 (lv_at hl 0 rfl) ?_
          refine lv_if_eq (tgt := 98) hx hb dX5_has_78 (by decide) (fun c_78 => ?_) (fun c_78 => ?_)
          · refine lv_iconst (v := nI 0) hx hb dX5_has_98 (by decide) ?_
            exact zrz hx hb hr hlocks dX5_has_99 rfl (by rw [mHas, e9]; simp only [bI_eq0 c_48, Bool.false_and, Bool.and_false]; rfl)
          · exact absurd rfl c_78
        · refine lv_iload_n hx hb dX5_has_51 rfl (lv_at hl 4 rfl) ?_
          refine lv_iload hx hb dX5_has_52 (lv_at hl 6 rfl) ?_
          refine lv_sipush (v := nI 360) hx hb dX5_has_54 (by decide) ?_
          refine lv_idiv hx hb dX5_has_57 z360 ?_
          refine zasi (show ((nI d) / (nI 360)) = nI (d / 360) from zdiv hd) ?_
          refine lv_aload_n hx hb dX5_has_58 rfl (lv_at hl 1 rfl) ?_
          refine zmget (own := RX5) (ci := 5) (C := RX5) (T := TX5) (N := 18) hx hb hts (by decide +kernel) hown hE hP 0 rfl rfl 17 (by decide) (hts (.fieldLink RX5 47 "LinkResolverModel" "walls" "[I") (by decide +kernel)) rfl dX5_has_59 ?_
          refine lv_iload hx hb dX5_has_62 (lv_at hl 0 rfl) ?_
          refine zmi hx hb hE hP 13 rfl (i := k9) (show _ < _ from by omega) (by decide) dX5_has_64 ?_
          refine lv_isub hx hb dX5_has_65 ?_
          refine lv_icmp_gt (tgt := 73) hx hb dX5_has_66 (by decide) (fun c_66 => ?_) (fun c_66 => ?_)
          · refine lv_iconst (v := nI 0) hx hb dX5_has_73 (by decide) ?_
            refine lv_istore (lv' := [(7, .int (nI 0)), (6, .int (nI k9)), (0, .ref hm), (1, .int (nI q)), (2, .int (nI t)), (3, .int (nI y)), (4, .int (nI st)), (5, .int (nI d))]) hx hb dX5_has_74 hl (by decide) rfl (fun ls hl => ?_)
            refine lv_iload hx hb dX5_has_76 (lv_at hl 0 rfl) ?_
            refine lv_if_eq (tgt := 98) hx hb dX5_has_78 (by decide) (fun c_78 => ?_) (fun c_78 => ?_)
            · refine lv_iconst (v := nI 0) hx hb dX5_has_98 (by decide) ?_
              exact zrz hx hb hr hlocks dX5_has_99 rfl (by rw [mHas, e9]; simp only [decide_eq_false (p := nI y ≤ nI (d / 360) - M 12 k9) (Int32.not_le.mpr c_66), Bool.false_and, Bool.and_false]; rfl)
            · exact absurd rfl c_78
          · refine lv_iconst (v := nI 1) hx hb dX5_has_69 (by decide) ?_
            refine lv_goto (tgt := 74) hx hb dX5_has_70 (by decide) ?_
            refine lv_istore (lv' := [(7, .int (nI 1)), (6, .int (nI k9)), (0, .ref hm), (1, .int (nI q)), (2, .int (nI t)), (3, .int (nI y)), (4, .int (nI st)), (5, .int (nI d))]) hx hb dX5_has_74 hl (by decide) rfl (fun ls hl => ?_)
            refine lv_iload hx hb dX5_has_76 (lv_at hl 0 rfl) ?_
            refine lv_if_eq (tgt := 98) hx hb dX5_has_78 (by decide) (fun c_78 => ?_) (fun c_78 => ?_)
            · exact absurd c_78 (by decide)
            · refine lv_aload_n hx hb dX5_has_81 rfl (lv_at hl 2 rfl) ?_
              refine lv_iload_n hx hb dX5_has_82 rfl (lv_at hl 3 rfl) ?_
              refine zci (va_runS (As := [.int (nI q)]) (rest := [.ref hm]) ⟨hx, hb, hml, hown, hts⟩ (m_sub l D ca sa _ q) (va_cwS 1 hts gX5_has_X5_subscription rfl rfl rfl (by decide +kernel) ⟨Nat.le_of_ble_eq_true rfl, Nat.le_of_ble_eq_true rfl⟩) (zpS hP hE) rfl rfl hl.1 rfl (lv_room (Nat.le_of_ble_eq_true rfl)) dX5_has_83 ⟨Nat.le_of_ble_eq_true rfl, Nat.le_of_ble_eq_true rfl⟩) ?_
              refine lv_iload hx hb dX5_has_86 (lv_at hl 6 rfl) ?_
              refine zci (va_runV (As := [.int (nI (21 * q + 20)), .int (nI st)]) (rest := []) ⟨hx, hb, hml, hown, hts⟩ (m_isSo l D ca sa hm ad th td nt np nc M (21 * q + 20) (st) hnc) (cwV 2 hts gX5_has_X5_isSo rfl rfl rfl (by decide +kernel) ⟨Nat.le_of_ble_eq_true rfl, Nat.le_of_ble_eq_true rfl⟩) (zpV hP hE (ci := 5) rfl (q0 := 0) rfl) rfl rfl hl.1 rfl (lv_room (Nat.le_of_ble_eq_true rfl)) dX5_has_88 ⟨Nat.le_of_ble_eq_true rfl, Nat.le_of_ble_eq_true rfl⟩) ?_
              refine lv_if_eq (tgt := 98) hx hb dX5_has_91 (by decide) (fun c_91 => ?_) (fun c_91 => ?_)
              · refine lv_iconst (v := nI 0) hx hb dX5_has_98 (by decide) ?_
                exact zrz hx hb hr hlocks dX5_has_99 rfl (by rw [mHas, e9]; simp only [bI_eq0 c_91, Bool.and_false]; rfl)
              · refine lv_iconst (v := nI 1) hx hb dX5_has_94 (by decide) ?_
                refine lv_goto (tgt := 99) hx hb dX5_has_95 (by decide) ?_
                exact zrz hx hb hr hlocks dX5_has_99 rfl (by rw [mHas, e9]; simp only [decide_eq_true (p := ¬ M 9 k9 = 0) c_27, bI_ne0 c_48, decide_eq_true (p := nI y ≤ nI (d / 360) - M 12 k9) (Int32.not_lt.mp c_66), bI_ne0 c_91]; rfl)

set_option maxHeartbeats 4000000 in
set_option maxRecDepth 100000 in
theorem m_kept (l : Launch) (D : va_G) (ca : Nat → ClassId) (sa : Nat → Nat) (hm : Nat) (ad : Nat → Nat) (th : Int32) (td nt np nc : Nat) (M : Nat → Nat → Int32) (q t y d : Nat) (hnc : nc ≤ 600) (hq : q < 10) (ht : t < 20) (hd : d ≤ 20000) (hy : y ≤ 55) : Met l yX5_isKept wsX5_isKept ({ frames := 4, cells := 0, slots := 0, locals := 160 }) (va_Pc [.ref hm, .int (nI q), .int (nI t), .int (nI y), .int (nI d)] (zPw D (mW hm ad ca th td nt np nc M) ca sa)) (vp_Si (fun r => r = bI (mKept M nc q t y d))) 0 0 (fun _ => False) := by
  refine Met.ofW (cc := cX5_isKept) (maxL := 6) (ret := (some .boolean)) (by decide) rfl ?_
  intro p e s m args below meth c s₁ B hml hv
  obtain ⟨rfl, hP, hE⟩ := hv
  have hx := B.exec
  have hb := B.bytes
  have hr := B.returns
  have hts := atoms_spec (ws := wsX5_isKept) B.pre
  have hown : s.vm.findClass RX5 = some m.cls := findClass_of_methodNamed B.named
  have hlocks := B.notSynchronized
  have hl := lv_entry ([.ref hm, .int (nI q), .int (nI t), .int (nI y), .int (nI d)]) (n := 6) (Nat.le_of_ble_eq_true rfl)
  rw [lg_entry_eq]
  generalize (lg_sl ([.ref hm, .int (nI q), .int (nI t), .int (nI y), .int (nI d)]) ++ List.replicate (6 - (lg_sl ([.ref hm, .int (nI q), .int (nI t), .int (nI y), .int (nI d)])).length) Slot.unset).toArray = ls at hl ⊢
  have hl : lv_has ls 6 [(0, .ref hm), (1, .int (nI q)), (2, .int (nI t)), (3, .int (nI y)), (4, .int (nI d))] := hl
  refine lv_sipush (v := nI 360) hx hb dX5_isKept_0 (by decide) ?_
  refine lv_iload_n hx hb dX5_isKept_3 rfl (lv_at hl 3 rfl) ?_
  refine lv_imul hx hb dX5_isKept_4 ?_
  refine zasi (show ((nI 360) * (nI y)) = nI (360 * y) from pk_mul _ _) ?_
  refine lv_sipush (v := nI 360) hx hb dX5_isKept_5 (by decide) ?_
  refine lv_iadd hx hb dX5_isKept_8 ?_
  refine zasi (show ((nI (360 * y)) + (nI 360)) = nI (360 * y + 360) from nI_add _ _) ?_
  refine lv_iconst (v := nI 1) hx hb dX5_isKept_9 (by decide) ?_
  refine lv_isub hx hb dX5_isKept_10 ?_
  refine zasi (show ((nI (360 * y + 360)) - (nI 1)) = nI (360 * y + 359) from pk_sub (by omega)) ?_
  refine lv_istore (lv' := [(5, .int (nI (360 * y + 359))), (0, .ref hm), (1, .int (nI q)), (2, .int (nI t)), (3, .int (nI y)), (4, .int (nI d))]) hx hb dX5_isKept_11 hl (by decide) rfl (fun ls hl => ?_)
  refine lv_aload_n hx hb dX5_isKept_13 rfl (lv_at hl 1 rfl) ?_
  refine zmget (own := RX5) (ci := 5) (C := RX5) (T := TX5) (N := 18) hx hb hts (by decide +kernel) hown hE hP 0 rfl rfl 9 (by decide) (hts (.fieldLink RX5 25 "LinkResolverModel" "keeps" "[Z") (by decide +kernel)) rfl dX5_isKept_14 ?_
  refine lv_iload_n hx hb dX5_isKept_17 rfl (lv_at hl 2 rfl) ?_
  refine zmz hx hb hE hP 6 rfl (i := q) (show _ < _ from by omega) (by decide) dX5_isKept_18 ?_
  refine lv_if_eq (tgt := 47) hx hb dX5_isKept_19 (by decide) (fun c_19 => ?_) (fun c_19 => ?_)
  · refine lv_iconst (v := nI 0) hx hb dX5_isKept_47 (by decide) ?_
    exact zrz hx hb hr hlocks dX5_isKept_48 rfl (by rw [mKept, decide_eq_false (p := ¬ M 5 q = 0) (fun q9 => q9 c_19)]; rfl)
  · refine lv_iload hx hb dX5_isKept_22 (lv_at hl 0 rfl) ?_
    refine lv_iload hx hb dX5_isKept_24 (lv_at hl 5 rfl) ?_
    refine lv_icmp_ge (tgt := 47) hx hb dX5_isKept_26 (by decide) (fun c_26 => ?_) (fun c_26 => ?_)
    · refine lv_iconst (v := nI 0) hx hb dX5_isKept_47 (by decide) ?_
      exact zrz hx hb hr hlocks dX5_isKept_48 rfl (by rw [mKept, decide_eq_false (p := 360 * y + 359 < d) (fun q9 => absurd ((nI_leI (by omega) (by omega)).mp c_26) (by omega)), Bool.false_and, Bool.and_false]; rfl)
    · have e8 : 360 * y + 359 < d := Nat.lt_of_not_le (fun q9 => c_26 ((nI_leI (by omega) (by omega)).mpr q9))
      refine lv_aload_n hx hb dX5_isKept_29 rfl (lv_at hl 1 rfl) ?_
      refine lv_iload_n hx hb dX5_isKept_30 rfl (lv_at hl 2 rfl) ?_
      refine lv_iload_n hx hb dX5_isKept_31 rfl (lv_at hl 3 rfl) ?_
      refine lv_iload_n hx hb dX5_isKept_32 rfl (lv_at hl 4 rfl) ?_
      refine lv_iload hx hb dX5_isKept_33 (lv_at hl 0 rfl) ?_
      refine lv_iload hx hb dX5_isKept_35 (lv_at hl 5 rfl) ?_
      refine zci (va_runV (As := [.int (nI q), .int (nI t), .int (nI y), .int (nI (360 * y + 359)), .int (nI d)]) (rest := []) ⟨hx, hb, hml, hown, hts⟩ (m_has l D ca sa hm ad th td nt np nc M q t (y) (360 * y + 359) (d) hnc hq ht hd) (cwV 5 hts gX5_isKept_X5_has rfl rfl rfl (by decide +kernel) ⟨Nat.le_of_ble_eq_true rfl, Nat.le_of_ble_eq_true rfl⟩) (zpV hP hE (ci := 5) rfl (q0 := 0) rfl) rfl rfl hl.1 rfl (lv_room (Nat.le_of_ble_eq_true rfl)) dX5_isKept_37 ⟨Nat.le_of_ble_eq_true rfl, Nat.le_of_ble_eq_true rfl⟩) ?_
      refine lv_if_eq (tgt := 47) hx hb dX5_isKept_40 (by decide) (fun c_40 => ?_) (fun c_40 => ?_)
      · refine lv_iconst (v := nI 0) hx hb dX5_isKept_47 (by decide) ?_
        exact zrz hx hb hr hlocks dX5_isKept_48 rfl (by rw [mKept, bI_eq0 c_40, Bool.and_false, Bool.and_false]; rfl)
      · refine lv_iconst (v := nI 1) hx hb dX5_isKept_43 (by decide) ?_
        refine lv_goto (tgt := 48) hx hb dX5_isKept_44 (by decide) ?_
        exact zrz hx hb hr hlocks dX5_isKept_48 rfl (by rw [mKept, decide_eq_true (p := ¬ M 5 q = 0) c_19, decide_eq_true e8, bI_ne0 c_40]; rfl)

set_option maxHeartbeats 4000000 in
set_option maxRecDepth 100000 in
theorem m_cov (l : Launch) (D : va_G) (ca : Nat → ClassId) (sa : Nat → Nat) (hm : Nat) (ad : Nat → Nat) (th : Int32) (td nt np nc : Nat) (M : Nat → Nat → Int32) (q t y d : Nat) (hnc : nc ≤ 600) (hq : q < 10) (ht : t < 20) (hd : d ≤ 20000) (hy : y ≤ 55) : Met l yX5_isCovered wsX5_isCovered ({ frames := 5, cells := 0, slots := 0, locals := 200 }) (va_Pc [.ref hm, .int (nI q), .int (nI t), .int (nI y), .int (nI d)] (zPw D (mW hm ad ca th td nt np nc M) ca sa)) (vp_Si (fun r => r = bI (mCov M nc q t y d))) 0 0 (fun _ => False) := by
  refine Met.ofW (cc := cX5_isCovered) (maxL := 5) (ret := (some .boolean)) (by decide) rfl ?_
  intro p e s m args below meth c s₁ B hml hv
  obtain ⟨rfl, hP, hE⟩ := hv
  have hx := B.exec
  have hb := B.bytes
  have hr := B.returns
  have hts := atoms_spec (ws := wsX5_isCovered) B.pre
  have hown : s.vm.findClass RX5 = some m.cls := findClass_of_methodNamed B.named
  have hlocks := B.notSynchronized
  have hl := lv_entry ([.ref hm, .int (nI q), .int (nI t), .int (nI y), .int (nI d)]) (n := 5) (Nat.le_of_ble_eq_true rfl)
  rw [lg_entry_eq]
  generalize (lg_sl ([.ref hm, .int (nI q), .int (nI t), .int (nI y), .int (nI d)]) ++ List.replicate (5 - (lg_sl ([.ref hm, .int (nI q), .int (nI t), .int (nI y), .int (nI d)])).length) Slot.unset).toArray = ls at hl ⊢
  have hl : lv_has ls 5 [(0, .ref hm), (1, .int (nI q)), (2, .int (nI t)), (3, .int (nI y)), (4, .int (nI d))] := hl
  refine lv_aload_n hx hb dX5_isCovered_0 rfl (lv_at hl 0 rfl) ?_
  refine lv_iload_n hx hb dX5_isCovered_1 rfl (lv_at hl 1 rfl) ?_
  refine lv_iload_n hx hb dX5_isCovered_2 rfl (lv_at hl 2 rfl) ?_
  refine lv_iload_n hx hb dX5_isCovered_3 rfl (lv_at hl 3 rfl) ?_
  refine lv_iload hx hb dX5_isCovered_4 (lv_at hl 4 rfl) ?_
  refine lv_iload hx hb dX5_isCovered_6 (lv_at hl 4 rfl) ?_
  refine zci (va_runV (As := [.int (nI q), .int (nI t), .int (nI y), .int (nI d), .int (nI d)]) (rest := []) ⟨hx, hb, hml, hown, hts⟩ (m_has l D ca sa hm ad th td nt np nc M q t (y) (d) (d) hnc hq ht hd) (cwV 5 hts gX5_isCovered_X5_has rfl rfl rfl (by decide +kernel) ⟨Nat.le_of_ble_eq_true rfl, Nat.le_of_ble_eq_true rfl⟩) (zpV hP hE (ci := 5) rfl (q0 := 0) rfl) rfl rfl hl.1 rfl (lv_room (Nat.le_of_ble_eq_true rfl)) dX5_isCovered_8 ⟨Nat.le_of_ble_eq_true rfl, Nat.le_of_ble_eq_true rfl⟩) ?_
  refine lv_if_ne (tgt := 26) hx hb dX5_isCovered_11 (by decide) (fun c_11 => ?_) (fun c_11 => ?_)
  · refine lv_iconst (v := nI 1) hx hb dX5_isCovered_26 (by decide) ?_
    refine lv_goto (tgt := 31) hx hb dX5_isCovered_27 (by decide) ?_
    exact zrz hx hb hr hlocks dX5_isCovered_31 rfl (by rw [mCov, bI_ne0 c_11]; rfl)
  · refine lv_aload_n hx hb dX5_isCovered_14 rfl (lv_at hl 0 rfl) ?_
    refine lv_iload_n hx hb dX5_isCovered_15 rfl (lv_at hl 1 rfl) ?_
    refine lv_iload_n hx hb dX5_isCovered_16 rfl (lv_at hl 2 rfl) ?_
    refine lv_iload_n hx hb dX5_isCovered_17 rfl (lv_at hl 3 rfl) ?_
    refine lv_iload hx hb dX5_isCovered_18 (lv_at hl 4 rfl) ?_
    refine zci (va_runV (As := [.int (nI q), .int (nI t), .int (nI y), .int (nI d)]) (rest := []) ⟨hx, hb, hml, hown, hts⟩ (m_kept l D ca sa hm ad th td nt np nc M q t y d hnc hq ht hd hy) (cwV 4 hts gX5_isCovered_X5_isKept rfl rfl rfl (by decide +kernel) ⟨Nat.le_of_ble_eq_true rfl, Nat.le_of_ble_eq_true rfl⟩) (zpV hP hE (ci := 5) rfl (q0 := 0) rfl) rfl rfl hl.1 rfl (lv_room (Nat.le_of_ble_eq_true rfl)) dX5_isCovered_20 ⟨Nat.le_of_ble_eq_true rfl, Nat.le_of_ble_eq_true rfl⟩) ?_
    refine lv_if_eq (tgt := 30) hx hb dX5_isCovered_23 (by decide) (fun c_23 => ?_) (fun c_23 => ?_)
    · refine lv_iconst (v := nI 0) hx hb dX5_isCovered_30 (by decide) ?_
      exact zrz hx hb hr hlocks dX5_isCovered_31 rfl (by rw [mCov, bI_eq0 c_11, bI_eq0 c_23]; rfl)
    · refine lv_iconst (v := nI 1) hx hb dX5_isCovered_26 (by decide) ?_
      refine lv_goto (tgt := 31) hx hb dX5_isCovered_27 (by decide) ?_
      exact zrz hx hb hr hlocks dX5_isCovered_31 rfl (by rw [mCov, bI_eq0 c_11, bI_ne0 c_23]; rfl)

set_option maxHeartbeats 4000000 in
set_option maxRecDepth 100000 in
theorem m_lets (l : Launch) (D : va_G) (ca : Nat → ClassId) (sa : Nat → Nat) (hm : Nat) (ad : Nat → Nat) (th : Int32) (td nt np nc : Nat) (M : Nat → Nat → Int32) (q g : Nat) (hq : q < 10) : Met l yX5_lets wsX5_lets ({ frames := 1, cells := 0, slots := 0, locals := 40 }) (va_Pc [.ref hm, .int (nI q), .int (nI g)] (zPw D (mW hm ad ca th td nt np nc M) ca sa)) (vp_Si (fun r => r = bI (mLets M q g))) 0 0 (fun _ => False) := by
  refine Met.ofW (cc := cX5_lets) (maxL := 3) (ret := (some .boolean)) (by decide) rfl ?_
  intro p e s m args below meth c s₁ B hml hv
  obtain ⟨rfl, hP, hE⟩ := hv
  have hx := B.exec
  have hb := B.bytes
  have hr := B.returns
  have hts := atoms_spec (ws := wsX5_lets) B.pre
  have hown : s.vm.findClass RX5 = some m.cls := findClass_of_methodNamed B.named
  have hlocks := B.notSynchronized
  have hl := lv_entry ([.ref hm, .int (nI q), .int (nI g)]) (n := 3) (Nat.le_of_ble_eq_true rfl)
  rw [lg_entry_eq]
  generalize (lg_sl ([.ref hm, .int (nI q), .int (nI g)]) ++ List.replicate (3 - (lg_sl ([.ref hm, .int (nI q), .int (nI g)])).length) Slot.unset).toArray = ls at hl ⊢
  have hl : lv_has ls 3 [(0, .ref hm), (1, .int (nI q)), (2, .int (nI g))] := hl
  refine lv_aload_n hx hb dX5_lets_0 rfl (lv_at hl 0 rfl) ?_
  refine zmget (own := RX5) (ci := 5) (C := RX5) (T := TX5) (N := 18) hx hb hts (by decide +kernel) hown hE hP 0 rfl rfl 8 (by decide) (hts (.fieldLink RX5 22 "LinkResolverModel" "groups" "[I") (by decide +kernel)) rfl dX5_lets_1 ?_
  refine lv_iload_n hx hb dX5_lets_4 rfl (lv_at hl 1 rfl) ?_
  refine zmi hx hb hE hP 5 rfl (i := q) (show _ < _ from by omega) (by decide) dX5_lets_5 ?_
  refine lv_iload_n hx hb dX5_lets_6 rfl (lv_at hl 2 rfl) ?_
  refine lv_ishr hx hb dX5_lets_7 ?_
  refine lv_iconst (v := nI 1) hx hb dX5_lets_8 (by decide) ?_
  refine lv_iand hx hb dX5_lets_9 ?_
  refine lv_iconst (v := nI 1) hx hb dX5_lets_10 (by decide) ?_
  refine lv_icmp_ne (tgt := 18) hx hb dX5_lets_11 (by decide) (fun c_11 => ?_) (fun c_11 => ?_)
  · refine lv_iconst (v := nI 0) hx hb dX5_lets_18 (by decide) ?_
    exact zrz hx hb hr hlocks dX5_lets_19 rfl (bI_f c_11)
  · refine lv_iconst (v := nI 1) hx hb dX5_lets_14 (by decide) ?_
    refine lv_goto (tgt := 19) hx hb dX5_lets_15 (by decide) ?_
    exact zrz hx hb hr hlocks dX5_lets_19 rfl (bI_t c_11)

set_option maxHeartbeats 4000000 in
set_option maxRecDepth 100000 in
theorem m_asked (l : Launch) (D : va_G) (ca : Nat → ClassId) (sa : Nat → Nat) (hm : Nat) (ad : Nat → Nat) (th : Int32) (td nt np nc : Nat) (M : Nat → Nat → Int32) (y g d : Int32) : Met l yX5_isAsked wsX5_isAsked ({ frames := 2, cells := 0, slots := 0, locals := 80 }) (va_Pc [.ref hm, .int y, .int g, .int d] (zPw D (mW hm ad ca th td nt np nc M) ca sa)) (vp_Si (fun r => r = bI (iB y (nI 0) (nI 55) && (iB g (nI 0) (nI 3) && iB d (nI 0) (nI td))))) 0 0 (fun _ => False) := by
  refine Met.ofW (cc := cX5_isAsked) (maxL := 4) (ret := (some .boolean)) (by decide) rfl ?_
  intro p e s m args below meth c s₁ B hml hv
  obtain ⟨rfl, hP, hE⟩ := hv
  have hx := B.exec
  have hb := B.bytes
  have hr := B.returns
  have hts := atoms_spec (ws := wsX5_isAsked) B.pre
  have hown : s.vm.findClass RX5 = some m.cls := findClass_of_methodNamed B.named
  have hlocks := B.notSynchronized
  have hl := lv_entry ([.ref hm, .int y, .int g, .int d]) (n := 4) (Nat.le_of_ble_eq_true rfl)
  rw [lg_entry_eq]
  generalize (lg_sl ([.ref hm, .int y, .int g, .int d]) ++ List.replicate (4 - (lg_sl ([.ref hm, .int y, .int g, .int d])).length) Slot.unset).toArray = ls at hl ⊢
  have hl : lv_has ls 4 [(0, .ref hm), (1, .int y), (2, .int g), (3, .int d)] := hl
  refine lv_iload_n hx hb dX5_isAsked_0 rfl (lv_at hl 1 rfl) ?_
  refine lv_iconst (v := nI 0) hx hb dX5_isAsked_1 (by decide) ?_
  refine lv_bipush (v := nI 55) hx hb dX5_isAsked_2 (by decide) ?_
  refine zci (va_runS (As := [.int y, .int (nI 0), .int (nI 55)]) (rest := []) ⟨hx, hb, hml, hown, hts⟩ (m_isB l D ca sa _ _ _ _) (va_cwS 3 hts gX5_isAsked_X5_isBetween rfl rfl rfl (by decide +kernel) ⟨Nat.le_of_ble_eq_true rfl, Nat.le_of_ble_eq_true rfl⟩) (zpS hP hE) rfl rfl hl.1 rfl (lv_room (Nat.le_of_ble_eq_true rfl)) dX5_isAsked_4 ⟨Nat.le_of_ble_eq_true rfl, Nat.le_of_ble_eq_true rfl⟩) ?_
  refine lv_if_eq (tgt := 35) hx hb dX5_isAsked_7 (by decide) (fun c_7 => ?_) (fun c_7 => ?_)
  · refine lv_iconst (v := nI 0) hx hb dX5_isAsked_35 (by decide) ?_
    exact zrz hx hb hr hlocks dX5_isAsked_36 rfl (by rw [bI_eq0 c_7]; rfl)
  · refine lv_iload_n hx hb dX5_isAsked_10 rfl (lv_at hl 2 rfl) ?_
    refine lv_iconst (v := nI 0) hx hb dX5_isAsked_11 (by decide) ?_
    refine lv_iconst (v := nI 3) hx hb dX5_isAsked_12 (by decide) ?_
    refine zci (va_runS (As := [.int g, .int (nI 0), .int (nI 3)]) (rest := []) ⟨hx, hb, hml, hown, hts⟩ (m_isB l D ca sa _ _ _ _) (va_cwS 3 hts gX5_isAsked_X5_isBetween rfl rfl rfl (by decide +kernel) ⟨Nat.le_of_ble_eq_true rfl, Nat.le_of_ble_eq_true rfl⟩) (zpS hP hE) rfl rfl hl.1 rfl (lv_room (Nat.le_of_ble_eq_true rfl)) dX5_isAsked_13 ⟨Nat.le_of_ble_eq_true rfl, Nat.le_of_ble_eq_true rfl⟩) ?_
    refine lv_if_eq (tgt := 35) hx hb dX5_isAsked_16 (by decide) (fun c_16 => ?_) (fun c_16 => ?_)
    · refine lv_iconst (v := nI 0) hx hb dX5_isAsked_35 (by decide) ?_
      exact zrz hx hb hr hlocks dX5_isAsked_36 rfl (by rw [bI_eq0 c_16, Bool.false_and, Bool.and_false]; rfl)
    · refine lv_iload_n hx hb dX5_isAsked_19 rfl (lv_at hl 3 rfl) ?_
      refine lv_iconst (v := nI 0) hx hb dX5_isAsked_20 (by decide) ?_
      refine lv_aload_n hx hb dX5_isAsked_21 rfl (lv_at hl 0 rfl) ?_
      refine zmget (own := RX5) (ci := 5) (C := RX5) (T := TX5) (N := 18) hx hb hts (by decide +kernel) hown hE hP 0 rfl rfl 1 (by decide) (hts (.fieldLink RX5 78 "LinkResolverModel" "today" "I") (by decide +kernel)) rfl dX5_isAsked_22 ?_
      refine zci (va_runS (As := [.int d, .int (nI 0), .int (nI td)]) (rest := []) ⟨hx, hb, hml, hown, hts⟩ (m_isB l D ca sa _ _ _ _) (va_cwS 3 hts gX5_isAsked_X5_isBetween rfl rfl rfl (by decide +kernel) ⟨Nat.le_of_ble_eq_true rfl, Nat.le_of_ble_eq_true rfl⟩) (zpS hP hE) rfl rfl hl.1 rfl (lv_room (Nat.le_of_ble_eq_true rfl)) dX5_isAsked_25 ⟨Nat.le_of_ble_eq_true rfl, Nat.le_of_ble_eq_true rfl⟩) ?_
      refine lv_if_eq (tgt := 35) hx hb dX5_isAsked_28 (by decide) (fun c_28 => ?_) (fun c_28 => ?_)
      · refine lv_iconst (v := nI 0) hx hb dX5_isAsked_35 (by decide) ?_
        exact zrz hx hb hr hlocks dX5_isAsked_36 rfl (by rw [bI_eq0 c_28, Bool.and_false, Bool.and_false]; rfl)
      · refine lv_iconst (v := nI 1) hx hb dX5_isAsked_31 (by decide) ?_
        refine lv_goto (tgt := 36) hx hb dX5_isAsked_32 (by decide) ?_
        exact zrz hx hb hr hlocks dX5_isAsked_36 rfl (by rw [bI_ne0 c_7, bI_ne0 c_16, bI_ne0 c_28]; rfl)

set_option maxHeartbeats 4000000 in
set_option maxRecDepth 100000 in
theorem m_waysTo (l : Launch) (D : va_G) (ca : Nat → ClassId) (sa : Nat → Nat) (hm : Nat) (ad : Nat → Nat) (th : Int32) (td nt np nc : Nat) (M : Nat → Nat → Int32) (t y g d : Nat) (hnc : nc ≤ 600) (hnp : np ≤ 10) (ht : t < 20) (hy : y ≤ 55) (hd : d ≤ 20000) : Met l yX5_waysTo wsX5_waysTo ({ frames := 6, cells := 0, slots := 0, locals := 240 }) (va_Pc [.ref hm, .int (nI t), .int (nI y), .int (nI g), .int (nI d)] (zPw D (mW hm ad ca th td nt np nc M) ca sa)) (vp_Si (fun r => r = nI (mWays M nc t y g d np))) 0 0 (fun _ => False) := by
  refine Met.ofW (cc := cX5_waysTo) (maxL := 7) (ret := (some .int)) (by decide) rfl ?_
  intro p e s m args below meth c s₁ B hml hv
  obtain ⟨rfl, hP, hE⟩ := hv
  have hx := B.exec
  have hb := B.bytes
  have hr := B.returns
  have hts := atoms_spec (ws := wsX5_waysTo) B.pre
  have hown : s.vm.findClass RX5 = some m.cls := findClass_of_methodNamed B.named
  have hlocks := B.notSynchronized
  have hl := lv_entry ([.ref hm, .int (nI t), .int (nI y), .int (nI g), .int (nI d)]) (n := 7) (Nat.le_of_ble_eq_true rfl)
  rw [lg_entry_eq]
  generalize (lg_sl ([.ref hm, .int (nI t), .int (nI y), .int (nI g), .int (nI d)]) ++ List.replicate (7 - (lg_sl ([.ref hm, .int (nI t), .int (nI y), .int (nI g), .int (nI d)])).length) Slot.unset).toArray = ls at hl ⊢
  have hl : lv_has ls 7 [(0, .ref hm), (1, .int (nI t)), (2, .int (nI y)), (3, .int (nI g)), (4, .int (nI d))] := hl
  have loop : ∀ (n9 : Nat) (k : Nat) (ls : Array Slot), k ≤ np → np < k + n9 → lv_has ls 7 [(6, .int (nI k)), (5, .int (nI (mWays M nc t y g d k))), (0, .ref hm), (1, .int (nI t)), (2, .int (nI y)), (3, .int (nI g)), (4, .int (nI d))] → W p l e (headSpec wsX5_waysTo ({ frames := 6, cells := 0, slots := 0, locals := 240 })).room s m ([.ref hm, .int (nI t), .int (nI y), .int (nI g), .int (nI d)] : List Value).toArray below meth c s.heap [] 0 0 (MQ below (vp_Si (fun r => r = nI (mWays M nc t y g d np))) ([.ref hm, .int (nI t), .int (nI y), .int (nI g), .int (nI d)] : List Value).toArray s 0 0 (fun _ => False)) (F0 m 6 ls []) := by
    intro n9
    induction n9 with
    | zero =>
      intro k ls hk hfu hl
      exact absurd hfu (by omega)
    | succ n9 ih =>
      intro k ls hk hfu hl
      refine lv_iload hx hb dX5_waysTo_6 (lv_at hl 0 rfl) ?_
      refine lv_aload_n hx hb dX5_waysTo_8 rfl (lv_at hl 2 rfl) ?_
      refine zmget (own := RX5) (ci := 5) (C := RX5) (T := TX5) (N := 18) hx hb hts (by decide +kernel) hown hE hP 0 rfl rfl 3 (by decide) (hts (.fieldLink RX5 57 "LinkResolverModel" "packages" "I") (by decide +kernel)) rfl dX5_waysTo_9 ?_
      refine lv_icmp_ge (tgt := 54) hx hb dX5_waysTo_12 (by decide) (fun c_12 => ?_) (fun c_12 => ?_)
      · have e9 : k = np := by have := (nI_leI (by omega) (by omega)).mp c_12; omega
        refine lv_iload hx hb dX5_waysTo_54 (lv_at hl 1 rfl) ?_
        exact zri hx hb hr hlocks dX5_waysTo_56 (by rw [e9])
      · have hk2 : k < np := Nat.lt_of_not_le (fun q9 => c_12 ((nI_leI (by omega) (by omega)).mpr q9))
        refine lv_iload hx hb dX5_waysTo_15 (lv_at hl 1 rfl) ?_
        refine lv_aload_n hx hb dX5_waysTo_17 rfl (lv_at hl 2 rfl) ?_
        refine lv_iload hx hb dX5_waysTo_18 (lv_at hl 0 rfl) ?_
        refine lv_iload_n hx hb dX5_waysTo_20 rfl (lv_at hl 5 rfl) ?_
        refine zci (va_runV (As := [.int (nI k), .int (nI g)]) (rest := [.int (nI (mWays M nc t y g d k))]) ⟨hx, hb, hml, hown, hts⟩ (m_lets l D ca sa hm ad th td nt np nc M k g (by omega)) (cwV 2 hts gX5_waysTo_X5_lets rfl rfl rfl (by decide +kernel) ⟨Nat.le_of_ble_eq_true rfl, Nat.le_of_ble_eq_true rfl⟩) (zpV hP hE (ci := 5) rfl (q0 := 0) rfl) rfl rfl hl.1 rfl (lv_room (Nat.le_of_ble_eq_true rfl)) dX5_waysTo_21 ⟨Nat.le_of_ble_eq_true rfl, Nat.le_of_ble_eq_true rfl⟩) ?_
        refine lv_if_eq (tgt := 44) hx hb dX5_waysTo_24 (by decide) (fun c_24 => ?_) (fun c_24 => ?_)
        · refine lv_iconst (v := nI 0) hx hb dX5_waysTo_44 (by decide) ?_
          refine lv_iadd hx hb dX5_waysTo_45 ?_
          refine zasi (show ((nI (mWays M nc t y g d k)) + (nI 0)) = nI (mWays M nc t y g d k + 0) from nI_add _ _) ?_
          refine lv_istore (lv' := [(5, .int (nI (mWays M nc t y g d k + 0))), (6, .int (nI k)), (0, .ref hm), (1, .int (nI t)), (2, .int (nI y)), (3, .int (nI g)), (4, .int (nI d))]) hx hb dX5_waysTo_46 hl (by decide) rfl (fun ls hl => ?_)
          refine lv_iinc (v := nI (k + 1)) (lv' := [(6, .int (nI (k + 1))), (5, .int (nI (mWays M nc t y g d k + 0))), (0, .ref hm), (1, .int (nI t)), (2, .int (nI y)), (3, .int (nI g)), (4, .int (nI d))]) hx hb dX5_waysTo_48 hl (k := 1) rfl (zinc1 _) (by decide) rfl (fun ls hl => ?_)
          refine lv_goto (tgt := 6) hx hb dX5_waysTo_51 (by decide) ?_
          exact ih (k + 1) ls (by omega) (by omega) (by rw [mWays, if_neg (by rw [bI_eq0 c_24]; exact Bool.false_ne_true)]; exact lv_sub hl [0, 1, 2, 3, 4, 5, 6] rfl)
        · refine lv_aload_n hx hb dX5_waysTo_27 rfl (lv_at hl 2 rfl) ?_
          refine lv_iload hx hb dX5_waysTo_28 (lv_at hl 0 rfl) ?_
          refine lv_iload_n hx hb dX5_waysTo_30 rfl (lv_at hl 3 rfl) ?_
          refine lv_iload_n hx hb dX5_waysTo_31 rfl (lv_at hl 4 rfl) ?_
          refine lv_iload hx hb dX5_waysTo_32 (lv_at hl 6 rfl) ?_
          refine zci (va_runV (As := [.int (nI k), .int (nI t), .int (nI y), .int (nI d)]) (rest := [.int (nI (mWays M nc t y g d k))]) ⟨hx, hb, hml, hown, hts⟩ (m_cov l D ca sa hm ad th td nt np nc M k t (y) d hnc (by omega) ht hd hy) (cwV 4 hts gX5_waysTo_X5_isCovered rfl rfl rfl (by decide +kernel) ⟨Nat.le_of_ble_eq_true rfl, Nat.le_of_ble_eq_true rfl⟩) (zpV hP hE (ci := 5) rfl (q0 := 0) rfl) rfl rfl hl.1 rfl (lv_room (Nat.le_of_ble_eq_true rfl)) dX5_waysTo_34 ⟨Nat.le_of_ble_eq_true rfl, Nat.le_of_ble_eq_true rfl⟩) ?_
          refine lv_if_eq (tgt := 44) hx hb dX5_waysTo_37 (by decide) (fun c_37 => ?_) (fun c_37 => ?_)
          · refine lv_iconst (v := nI 0) hx hb dX5_waysTo_44 (by decide) ?_
            refine lv_iadd hx hb dX5_waysTo_45 ?_
            refine zasi (show ((nI (mWays M nc t y g d k)) + (nI 0)) = nI (mWays M nc t y g d k + 0) from nI_add _ _) ?_
            refine lv_istore (lv' := [(5, .int (nI (mWays M nc t y g d k + 0))), (6, .int (nI k)), (0, .ref hm), (1, .int (nI t)), (2, .int (nI y)), (3, .int (nI g)), (4, .int (nI d))]) hx hb dX5_waysTo_46 hl (by decide) rfl (fun ls hl => ?_)
            refine lv_iinc (v := nI (k + 1)) (lv' := [(6, .int (nI (k + 1))), (5, .int (nI (mWays M nc t y g d k + 0))), (0, .ref hm), (1, .int (nI t)), (2, .int (nI y)), (3, .int (nI g)), (4, .int (nI d))]) hx hb dX5_waysTo_48 hl (k := 1) rfl (zinc1 _) (by decide) rfl (fun ls hl => ?_)
            refine lv_goto (tgt := 6) hx hb dX5_waysTo_51 (by decide) ?_
            exact ih (k + 1) ls (by omega) (by omega) (by rw [mWays, if_neg (by rw [bI_eq0 c_37, Bool.and_false]; exact Bool.false_ne_true)]; exact lv_sub hl [0, 1, 2, 3, 4, 5, 6] rfl)
          · refine lv_iconst (v := nI 1) hx hb dX5_waysTo_40 (by decide) ?_
            refine lv_goto (tgt := 45) hx hb dX5_waysTo_41 (by decide) ?_
            refine lv_iadd hx hb dX5_waysTo_45 ?_
            refine zasi (show ((nI (mWays M nc t y g d k)) + (nI 1)) = nI (mWays M nc t y g d k + 1) from nI_add _ _) ?_
            refine lv_istore (lv' := [(5, .int (nI (mWays M nc t y g d k + 1))), (6, .int (nI k)), (0, .ref hm), (1, .int (nI t)), (2, .int (nI y)), (3, .int (nI g)), (4, .int (nI d))]) hx hb dX5_waysTo_46 hl (by decide) rfl (fun ls hl => ?_)
            refine lv_iinc (v := nI (k + 1)) (lv' := [(6, .int (nI (k + 1))), (5, .int (nI (mWays M nc t y g d k + 1))), (0, .ref hm), (1, .int (nI t)), (2, .int (nI y)), (3, .int (nI g)), (4, .int (nI d))]) hx hb dX5_waysTo_48 hl (k := 1) rfl (zinc1 _) (by decide) rfl (fun ls hl => ?_)
            refine lv_goto (tgt := 6) hx hb dX5_waysTo_51 (by decide) ?_
            exact ih (k + 1) ls (by omega) (by omega) (by rw [mWays, if_pos (by rw [bI_ne0 c_24, bI_ne0 c_37]; rfl)]; exact lv_sub hl [0, 1, 2, 3, 4, 5, 6] rfl)
  refine lv_iconst (v := nI 0) hx hb dX5_waysTo_0 (by decide) ?_
  refine lv_istore (lv' := [(5, .int (nI 0)), (0, .ref hm), (1, .int (nI t)), (2, .int (nI y)), (3, .int (nI g)), (4, .int (nI d))]) hx hb dX5_waysTo_1 hl (by decide) rfl (fun ls hl => ?_)
  refine lv_iconst (v := nI 0) hx hb dX5_waysTo_3 (by decide) ?_
  refine lv_istore (lv' := [(6, .int (nI 0)), (5, .int (nI 0)), (0, .ref hm), (1, .int (nI t)), (2, .int (nI y)), (3, .int (nI g)), (4, .int (nI d))]) hx hb dX5_waysTo_4 hl (by decide) rfl (fun ls hl => ?_)
  exact loop (np + 1) 0 ls (Nat.zero_le _) (by omega) (lv_sub hl [0, 1, 2, 3, 4, 5, 6] rfl)

set_option maxHeartbeats 4000000 in
set_option maxRecDepth 100000 in
theorem m_ahead (l : Launch) (D : va_G) (ca : Nat → ClassId) (sa : Nat → Nat) (hm : Nat) (ad : Nat → Nat) (th : Int32) (td nt np nc : Nat) (M : Nat → Nat → Int32) (q q2 t : Nat) (hq : q < 10) (hq2 : q2 < 10) (ht : t < 20) : Met l yX5_isAhead wsX5_isAhead ({ frames := 1, cells := 0, slots := 0, locals := 40 }) (va_Pc [.ref hm, .int (nI q), .int (nI q2), .int (nI t)] (zPw D (mW hm ad ca th td nt np nc M) ca sa)) (vp_Si (fun r => r = bI (mAhead M q q2 t))) 0 0 (fun _ => False) := by
  refine Met.ofW (cc := cX5_isAhead) (maxL := 6) (ret := (some .boolean)) (by decide) rfl ?_
  intro p e s m args below meth c s₁ B hml hv
  obtain ⟨rfl, hP, hE⟩ := hv
  have hx := B.exec
  have hb := B.bytes
  have hr := B.returns
  have hts := atoms_spec (ws := wsX5_isAhead) B.pre
  have hown : s.vm.findClass RX5 = some m.cls := findClass_of_methodNamed B.named
  have hlocks := B.notSynchronized
  have hl := lv_entry ([.ref hm, .int (nI q), .int (nI q2), .int (nI t)]) (n := 6) (Nat.le_of_ble_eq_true rfl)
  rw [lg_entry_eq]
  generalize (lg_sl ([.ref hm, .int (nI q), .int (nI q2), .int (nI t)]) ++ List.replicate (6 - (lg_sl ([.ref hm, .int (nI q), .int (nI q2), .int (nI t)])).length) Slot.unset).toArray = ls at hl ⊢
  have hl : lv_has ls 6 [(0, .ref hm), (1, .int (nI q)), (2, .int (nI q2)), (3, .int (nI t))] := hl
  refine lv_aload_n hx hb dX5_isAhead_0 rfl (lv_at hl 0 rfl) ?_
  refine zmget (own := RX5) (ci := 5) (C := RX5) (T := TX5) (N := 18) hx hb hts (by decide +kernel) hown hE hP 0 rfl rfl 10 (by decide) (hts (.fieldLink RX5 29 "LinkResolverModel" "breaks" "[I") (by decide +kernel)) rfl dX5_isAhead_1 ?_
  refine lv_bipush (v := nI 20) hx hb dX5_isAhead_4 (by decide) ?_
  refine lv_iload_n hx hb dX5_isAhead_6 rfl (lv_at hl 1 rfl) ?_
  refine lv_imul hx hb dX5_isAhead_7 ?_
  refine zasi (show ((nI 20) * (nI q)) = nI (20 * q) from pk_mul _ _) ?_
  refine lv_iload_n hx hb dX5_isAhead_8 rfl (lv_at hl 3 rfl) ?_
  refine lv_iadd hx hb dX5_isAhead_9 ?_
  refine zasi (show ((nI (20 * q)) + (nI t)) = nI (20 * q + t) from nI_add _ _) ?_
  refine zmi hx hb hE hP 7 rfl (i := (20 * q + t)) (show _ < _ from by omega) (by decide) dX5_isAhead_10 ?_
  refine lv_iconst (v := nI 1) hx hb dX5_isAhead_11 (by decide) ?_
  refine lv_icmp_le (tgt := 19) hx hb dX5_isAhead_12 (by decide) (fun c_12 => ?_) (fun c_12 => ?_)
  · have e1 : mBrk M q t = false := decide_eq_false (fun q9 => q9 c_12)
    refine lv_iconst (v := nI 0) hx hb dX5_isAhead_19 (by decide) ?_
    refine lv_istore (lv' := [(4, .int (nI 0)), (0, .ref hm), (1, .int (nI q)), (2, .int (nI q2)), (3, .int (nI t))]) hx hb dX5_isAhead_20 hl (by decide) rfl (fun ls hl => ?_)
    refine lv_aload_n hx hb dX5_isAhead_22 rfl (lv_at hl 1 rfl) ?_
    refine zmget (own := RX5) (ci := 5) (C := RX5) (T := TX5) (N := 18) hx hb hts (by decide +kernel) hown hE hP 0 rfl rfl 10 (by decide) (hts (.fieldLink RX5 29 "LinkResolverModel" "breaks" "[I") (by decide +kernel)) rfl dX5_isAhead_23 ?_
    refine lv_bipush (v := nI 20) hx hb dX5_isAhead_26 (by decide) ?_
    refine lv_iload_n hx hb dX5_isAhead_28 rfl (lv_at hl 3 rfl) ?_
    refine lv_imul hx hb dX5_isAhead_29 ?_
    refine zasi (show ((nI 20) * (nI q2)) = nI (20 * q2) from pk_mul _ _) ?_
    refine lv_iload_n hx hb dX5_isAhead_30 rfl (lv_at hl 4 rfl) ?_
    refine lv_iadd hx hb dX5_isAhead_31 ?_
    refine zasi (show ((nI (20 * q2)) + (nI t)) = nI (20 * q2 + t) from nI_add _ _) ?_
    refine zmi hx hb hE hP 7 rfl (i := (20 * q2 + t)) (show _ < _ from by omega) (by decide) dX5_isAhead_32 ?_
    refine lv_iconst (v := nI 1) hx hb dX5_isAhead_33 (by decide) ?_
    refine lv_icmp_le (tgt := 41) hx hb dX5_isAhead_34 (by decide) (fun c_34 => ?_) (fun c_34 => ?_)
    · have e2 : mBrk M q2 t = false := decide_eq_false (fun q9 => q9 c_34)
      refine lv_iconst (v := nI 0) hx hb dX5_isAhead_41 (by decide) ?_
      refine lv_istore (lv' := [(5, .int (nI 0)), (4, .int (nI 0)), (0, .ref hm), (1, .int (nI q)), (2, .int (nI q2)), (3, .int (nI t))]) hx hb dX5_isAhead_42 hl (by decide) rfl (fun ls hl => ?_)
      refine lv_iload hx hb dX5_isAhead_44 (lv_at hl 1 rfl) ?_
      refine lv_iload hx hb dX5_isAhead_46 (lv_at hl 0 rfl) ?_
      refine lv_icmp_eq (tgt := 54) hx hb dX5_isAhead_48 (by decide) (fun c_48 => ?_) (fun c_48 => ?_)
      · have e12 : mBrk M q t = mBrk M q2 t := e1.trans e2.symm
        refine lv_aload_n hx hb dX5_isAhead_54 rfl (lv_at hl 2 rfl) ?_
        refine zmget (own := RX5) (ci := 5) (C := RX5) (T := TX5) (N := 18) hx hb hts (by decide +kernel) hown hE hP 0 rfl rfl 6 (by decide) (hts (.fieldLink RX5 16 "LinkResolverModel" "costs" "[I") (by decide +kernel)) rfl dX5_isAhead_55 ?_
        refine lv_iload_n hx hb dX5_isAhead_58 rfl (lv_at hl 3 rfl) ?_
        refine zmi hx hb hE hP 3 rfl (i := q) (show _ < _ from by omega) (by decide) dX5_isAhead_59 ?_
        refine lv_aload_n hx hb dX5_isAhead_60 rfl (lv_at hl 2 rfl) ?_
        refine zmget (own := RX5) (ci := 5) (C := RX5) (T := TX5) (N := 18) hx hb hts (by decide +kernel) hown hE hP 0 rfl rfl 6 (by decide) (hts (.fieldLink RX5 16 "LinkResolverModel" "costs" "[I") (by decide +kernel)) rfl dX5_isAhead_61 ?_
        refine lv_iload_n hx hb dX5_isAhead_64 rfl (lv_at hl 4 rfl) ?_
        refine zmi hx hb hE hP 3 rfl (i := q2) (show _ < _ from by omega) (by decide) dX5_isAhead_65 ?_
        refine lv_icmp_eq (tgt := 90) hx hb dX5_isAhead_66 (by decide) (fun c_66 => ?_) (fun c_66 => ?_)
        · have e8 := c_66
          refine lv_aload_n hx hb dX5_isAhead_90 rfl (lv_at hl 2 rfl) ?_
          refine zmget (own := RX5) (ci := 5) (C := RX5) (T := TX5) (N := 18) hx hb hts (by decide +kernel) hown hE hP 0 rfl rfl 7 (by decide) (hts (.fieldLink RX5 19 "LinkResolverModel" "versions" "[I") (by decide +kernel)) rfl dX5_isAhead_91 ?_
          refine lv_iload_n hx hb dX5_isAhead_94 rfl (lv_at hl 3 rfl) ?_
          refine zmi hx hb hE hP 4 rfl (i := q) (show _ < _ from by omega) (by decide) dX5_isAhead_95 ?_
          refine lv_aload_n hx hb dX5_isAhead_96 rfl (lv_at hl 2 rfl) ?_
          refine zmget (own := RX5) (ci := 5) (C := RX5) (T := TX5) (N := 18) hx hb hts (by decide +kernel) hown hE hP 0 rfl rfl 7 (by decide) (hts (.fieldLink RX5 19 "LinkResolverModel" "versions" "[I") (by decide +kernel)) rfl dX5_isAhead_97 ?_
          refine lv_iload_n hx hb dX5_isAhead_100 rfl (lv_at hl 4 rfl) ?_
          refine zmi hx hb hE hP 4 rfl (i := q2) (show _ < _ from by omega) (by decide) dX5_isAhead_101 ?_
          refine lv_icmp_lt (tgt := 125) hx hb dX5_isAhead_102 (by decide) (fun c_102 => ?_) (fun c_102 => ?_)
          · refine lv_iconst (v := nI 1) hx hb dX5_isAhead_125 (by decide) ?_
            refine lv_goto (tgt := 130) hx hb dX5_isAhead_126 (by decide) ?_
            exact zrz hx hb hr hlocks dX5_isAhead_130 rfl (by rw [mAhead, if_pos e12, if_pos e8, decide_eq_true c_102]; rfl)
          · refine lv_aload_n hx hb dX5_isAhead_105 rfl (lv_at hl 2 rfl) ?_
            refine zmget (own := RX5) (ci := 5) (C := RX5) (T := TX5) (N := 18) hx hb hts (by decide +kernel) hown hE hP 0 rfl rfl 7 (by decide) (hts (.fieldLink RX5 19 "LinkResolverModel" "versions" "[I") (by decide +kernel)) rfl dX5_isAhead_106 ?_
            refine lv_iload_n hx hb dX5_isAhead_109 rfl (lv_at hl 3 rfl) ?_
            refine zmi hx hb hE hP 4 rfl (i := q) (show _ < _ from by omega) (by decide) dX5_isAhead_110 ?_
            refine lv_aload_n hx hb dX5_isAhead_111 rfl (lv_at hl 2 rfl) ?_
            refine zmget (own := RX5) (ci := 5) (C := RX5) (T := TX5) (N := 18) hx hb hts (by decide +kernel) hown hE hP 0 rfl rfl 7 (by decide) (hts (.fieldLink RX5 19 "LinkResolverModel" "versions" "[I") (by decide +kernel)) rfl dX5_isAhead_112 ?_
            refine lv_iload_n hx hb dX5_isAhead_115 rfl (lv_at hl 4 rfl) ?_
            refine zmi hx hb hE hP 4 rfl (i := q2) (show _ < _ from by omega) (by decide) dX5_isAhead_116 ?_
            refine lv_icmp_ne (tgt := 129) hx hb dX5_isAhead_117 (by decide) (fun c_117 => ?_) (fun c_117 => ?_)
            · refine lv_iconst (v := nI 0) hx hb dX5_isAhead_129 (by decide) ?_
              exact zrz hx hb hr hlocks dX5_isAhead_130 rfl (by rw [mAhead, if_pos e12, if_pos e8, decide_eq_false c_102, decide_eq_false c_117]; rfl)
            · refine lv_iload_n hx hb dX5_isAhead_120 rfl (lv_at hl 3 rfl) ?_
              refine lv_iload_n hx hb dX5_isAhead_121 rfl (lv_at hl 4 rfl) ?_
              refine lv_icmp_ge (tgt := 129) hx hb dX5_isAhead_122 (by decide) (fun c_122 => ?_) (fun c_122 => ?_)
              · refine lv_iconst (v := nI 0) hx hb dX5_isAhead_129 (by decide) ?_
                exact zrz hx hb hr hlocks dX5_isAhead_130 rfl (by rw [mAhead, if_pos e12, if_pos e8, decide_eq_false c_102, decide_eq_true c_117, decide_eq_false (p := q < q2) (fun q9 => absurd ((nI_leI (by omega) (by omega)).mp c_122) (by omega))]; rfl)
              · refine lv_iconst (v := nI 1) hx hb dX5_isAhead_125 (by decide) ?_
                refine lv_goto (tgt := 130) hx hb dX5_isAhead_126 (by decide) ?_
                exact zrz hx hb hr hlocks dX5_isAhead_130 rfl (by rw [mAhead, if_pos e12, if_pos e8, decide_eq_false c_102, decide_eq_true c_117, decide_eq_true (p := q < q2) (Nat.lt_of_not_le (fun q9 => c_122 ((nI_leI (by omega) (by omega)).mpr q9)))]; rfl)
        · refine lv_aload_n hx hb dX5_isAhead_69 rfl (lv_at hl 2 rfl) ?_
          refine zmget (own := RX5) (ci := 5) (C := RX5) (T := TX5) (N := 18) hx hb hts (by decide +kernel) hown hE hP 0 rfl rfl 6 (by decide) (hts (.fieldLink RX5 16 "LinkResolverModel" "costs" "[I") (by decide +kernel)) rfl dX5_isAhead_70 ?_
          refine lv_iload_n hx hb dX5_isAhead_73 rfl (lv_at hl 3 rfl) ?_
          refine zmi hx hb hE hP 3 rfl (i := q) (show _ < _ from by omega) (by decide) dX5_isAhead_74 ?_
          refine lv_aload_n hx hb dX5_isAhead_75 rfl (lv_at hl 2 rfl) ?_
          refine zmget (own := RX5) (ci := 5) (C := RX5) (T := TX5) (N := 18) hx hb hts (by decide +kernel) hown hE hP 0 rfl rfl 6 (by decide) (hts (.fieldLink RX5 16 "LinkResolverModel" "costs" "[I") (by decide +kernel)) rfl dX5_isAhead_76 ?_
          refine lv_iload_n hx hb dX5_isAhead_79 rfl (lv_at hl 4 rfl) ?_
          refine zmi hx hb hE hP 3 rfl (i := q2) (show _ < _ from by omega) (by decide) dX5_isAhead_80 ?_
          refine lv_icmp_ge (tgt := 88) hx hb dX5_isAhead_81 (by decide) (fun c_81 => ?_) (fun c_81 => ?_)
          · refine lv_iconst (v := nI 0) hx hb dX5_isAhead_88 (by decide) ?_
            exact zrz hx hb hr hlocks dX5_isAhead_89 rfl (by rw [mAhead, if_pos e12, if_neg c_66]; exact bI_f (Int32.not_lt.mpr c_81))
          · refine lv_iconst (v := nI 1) hx hb dX5_isAhead_84 (by decide) ?_
            refine lv_goto (tgt := 89) hx hb dX5_isAhead_85 (by decide) ?_
            exact zrz hx hb hr hlocks dX5_isAhead_89 rfl (by rw [mAhead, if_pos e12, if_neg c_66]; exact bI_t (Int32.not_le.mp c_81))
      · exact absurd rfl c_48
    · have e2 : mBrk M q2 t = true := decide_eq_true c_34
      refine lv_iconst (v := nI 1) hx hb dX5_isAhead_37 (by decide) ?_
      refine lv_goto (tgt := 42) hx hb dX5_isAhead_38 (by decide) ?_
      refine lv_istore (lv' := [(5, .int (nI 1)), (4, .int (nI 0)), (0, .ref hm), (1, .int (nI q)), (2, .int (nI q2)), (3, .int (nI t))]) hx hb dX5_isAhead_42 hl (by decide) rfl (fun ls hl => ?_)
      refine lv_iload hx hb dX5_isAhead_44 (lv_at hl 1 rfl) ?_
      refine lv_iload hx hb dX5_isAhead_46 (lv_at hl 0 rfl) ?_
      refine lv_icmp_eq (tgt := 54) hx hb dX5_isAhead_48 (by decide) (fun c_48 => ?_) (fun c_48 => ?_)
      · exact absurd c_48 (by decide)
      · refine lv_iload hx hb dX5_isAhead_51 (lv_at hl 0 rfl) ?_
        exact zrz hx hb hr hlocks dX5_isAhead_53 rfl (by rw [mAhead, if_neg (by rw [e1, e2]; decide), e2]; rfl)
  · have e1 : mBrk M q t = true := decide_eq_true c_12
    refine lv_iconst (v := nI 1) hx hb dX5_isAhead_15 (by decide) ?_
    refine lv_goto (tgt := 20) hx hb dX5_isAhead_16 (by decide) ?_
    refine lv_istore (lv' := [(4, .int (nI 1)), (0, .ref hm), (1, .int (nI q)), (2, .int (nI q2)), (3, .int (nI t))]) hx hb dX5_isAhead_20 hl (by decide) rfl (fun ls hl => ?_)
    refine lv_aload_n hx hb dX5_isAhead_22 rfl (lv_at hl 1 rfl) ?_
    refine zmget (own := RX5) (ci := 5) (C := RX5) (T := TX5) (N := 18) hx hb hts (by decide +kernel) hown hE hP 0 rfl rfl 10 (by decide) (hts (.fieldLink RX5 29 "LinkResolverModel" "breaks" "[I") (by decide +kernel)) rfl dX5_isAhead_23 ?_
    refine lv_bipush (v := nI 20) hx hb dX5_isAhead_26 (by decide) ?_
    refine lv_iload_n hx hb dX5_isAhead_28 rfl (lv_at hl 3 rfl) ?_
    refine lv_imul hx hb dX5_isAhead_29 ?_
    refine zasi (show ((nI 20) * (nI q2)) = nI (20 * q2) from pk_mul _ _) ?_
    refine lv_iload_n hx hb dX5_isAhead_30 rfl (lv_at hl 4 rfl) ?_
    refine lv_iadd hx hb dX5_isAhead_31 ?_
    refine zasi (show ((nI (20 * q2)) + (nI t)) = nI (20 * q2 + t) from nI_add _ _) ?_
    refine zmi hx hb hE hP 7 rfl (i := (20 * q2 + t)) (show _ < _ from by omega) (by decide) dX5_isAhead_32 ?_
    refine lv_iconst (v := nI 1) hx hb dX5_isAhead_33 (by decide) ?_
    refine lv_icmp_le (tgt := 41) hx hb dX5_isAhead_34 (by decide) (fun c_34 => ?_) (fun c_34 => ?_)
    · have e2 : mBrk M q2 t = false := decide_eq_false (fun q9 => q9 c_34)
      refine lv_iconst (v := nI 0) hx hb dX5_isAhead_41 (by decide) ?_
      refine lv_istore (lv' := [(5, .int (nI 0)), (4, .int (nI 1)), (0, .ref hm), (1, .int (nI q)), (2, .int (nI q2)), (3, .int (nI t))]) hx hb dX5_isAhead_42 hl (by decide) rfl (fun ls hl => ?_)
      refine lv_iload hx hb dX5_isAhead_44 (lv_at hl 1 rfl) ?_
      refine lv_iload hx hb dX5_isAhead_46 (lv_at hl 0 rfl) ?_
      refine lv_icmp_eq (tgt := 54) hx hb dX5_isAhead_48 (by decide) (fun c_48 => ?_) (fun c_48 => ?_)
      · exact absurd c_48 (by decide)
      · refine lv_iload hx hb dX5_isAhead_51 (lv_at hl 0 rfl) ?_
        exact zrz hx hb hr hlocks dX5_isAhead_53 rfl (by rw [mAhead, if_neg (by rw [e1, e2]; decide), e2]; rfl)
    · have e2 : mBrk M q2 t = true := decide_eq_true c_34
      refine lv_iconst (v := nI 1) hx hb dX5_isAhead_37 (by decide) ?_
      refine lv_goto (tgt := 42) hx hb dX5_isAhead_38 (by decide) ?_
      refine lv_istore (lv' := [(5, .int (nI 1)), (4, .int (nI 1)), (0, .ref hm), (1, .int (nI q)), (2, .int (nI q2)), (3, .int (nI t))]) hx hb dX5_isAhead_42 hl (by decide) rfl (fun ls hl => ?_)
      refine lv_iload hx hb dX5_isAhead_44 (lv_at hl 1 rfl) ?_
      refine lv_iload hx hb dX5_isAhead_46 (lv_at hl 0 rfl) ?_
      refine lv_icmp_eq (tgt := 54) hx hb dX5_isAhead_48 (by decide) (fun c_48 => ?_) (fun c_48 => ?_)
      · have e12 : mBrk M q t = mBrk M q2 t := e1.trans e2.symm
        refine lv_aload_n hx hb dX5_isAhead_54 rfl (lv_at hl 2 rfl) ?_
        refine zmget (own := RX5) (ci := 5) (C := RX5) (T := TX5) (N := 18) hx hb hts (by decide +kernel) hown hE hP 0 rfl rfl 6 (by decide) (hts (.fieldLink RX5 16 "LinkResolverModel" "costs" "[I") (by decide +kernel)) rfl dX5_isAhead_55 ?_
        refine lv_iload_n hx hb dX5_isAhead_58 rfl (lv_at hl 3 rfl) ?_
        refine zmi hx hb hE hP 3 rfl (i := q) (show _ < _ from by omega) (by decide) dX5_isAhead_59 ?_
        refine lv_aload_n hx hb dX5_isAhead_60 rfl (lv_at hl 2 rfl) ?_
        refine zmget (own := RX5) (ci := 5) (C := RX5) (T := TX5) (N := 18) hx hb hts (by decide +kernel) hown hE hP 0 rfl rfl 6 (by decide) (hts (.fieldLink RX5 16 "LinkResolverModel" "costs" "[I") (by decide +kernel)) rfl dX5_isAhead_61 ?_
        refine lv_iload_n hx hb dX5_isAhead_64 rfl (lv_at hl 4 rfl) ?_
        refine zmi hx hb hE hP 3 rfl (i := q2) (show _ < _ from by omega) (by decide) dX5_isAhead_65 ?_
        refine lv_icmp_eq (tgt := 90) hx hb dX5_isAhead_66 (by decide) (fun c_66 => ?_) (fun c_66 => ?_)
        · have e8 := c_66
          refine lv_aload_n hx hb dX5_isAhead_90 rfl (lv_at hl 2 rfl) ?_
          refine zmget (own := RX5) (ci := 5) (C := RX5) (T := TX5) (N := 18) hx hb hts (by decide +kernel) hown hE hP 0 rfl rfl 7 (by decide) (hts (.fieldLink RX5 19 "LinkResolverModel" "versions" "[I") (by decide +kernel)) rfl dX5_isAhead_91 ?_
          refine lv_iload_n hx hb dX5_isAhead_94 rfl (lv_at hl 3 rfl) ?_
          refine zmi hx hb hE hP 4 rfl (i := q) (show _ < _ from by omega) (by decide) dX5_isAhead_95 ?_
          refine lv_aload_n hx hb dX5_isAhead_96 rfl (lv_at hl 2 rfl) ?_
          refine zmget (own := RX5) (ci := 5) (C := RX5) (T := TX5) (N := 18) hx hb hts (by decide +kernel) hown hE hP 0 rfl rfl 7 (by decide) (hts (.fieldLink RX5 19 "LinkResolverModel" "versions" "[I") (by decide +kernel)) rfl dX5_isAhead_97 ?_
          refine lv_iload_n hx hb dX5_isAhead_100 rfl (lv_at hl 4 rfl) ?_
          refine zmi hx hb hE hP 4 rfl (i := q2) (show _ < _ from by omega) (by decide) dX5_isAhead_101 ?_
          refine lv_icmp_lt (tgt := 125) hx hb dX5_isAhead_102 (by decide) (fun c_102 => ?_) (fun c_102 => ?_)
          · refine lv_iconst (v := nI 1) hx hb dX5_isAhead_125 (by decide) ?_
            refine lv_goto (tgt := 130) hx hb dX5_isAhead_126 (by decide) ?_
            exact zrz hx hb hr hlocks dX5_isAhead_130 rfl (by rw [mAhead, if_pos e12, if_pos e8, decide_eq_true c_102]; rfl)
          · refine lv_aload_n hx hb dX5_isAhead_105 rfl (lv_at hl 2 rfl) ?_
            refine zmget (own := RX5) (ci := 5) (C := RX5) (T := TX5) (N := 18) hx hb hts (by decide +kernel) hown hE hP 0 rfl rfl 7 (by decide) (hts (.fieldLink RX5 19 "LinkResolverModel" "versions" "[I") (by decide +kernel)) rfl dX5_isAhead_106 ?_
            refine lv_iload_n hx hb dX5_isAhead_109 rfl (lv_at hl 3 rfl) ?_
            refine zmi hx hb hE hP 4 rfl (i := q) (show _ < _ from by omega) (by decide) dX5_isAhead_110 ?_
            refine lv_aload_n hx hb dX5_isAhead_111 rfl (lv_at hl 2 rfl) ?_
            refine zmget (own := RX5) (ci := 5) (C := RX5) (T := TX5) (N := 18) hx hb hts (by decide +kernel) hown hE hP 0 rfl rfl 7 (by decide) (hts (.fieldLink RX5 19 "LinkResolverModel" "versions" "[I") (by decide +kernel)) rfl dX5_isAhead_112 ?_
            refine lv_iload_n hx hb dX5_isAhead_115 rfl (lv_at hl 4 rfl) ?_
            refine zmi hx hb hE hP 4 rfl (i := q2) (show _ < _ from by omega) (by decide) dX5_isAhead_116 ?_
            refine lv_icmp_ne (tgt := 129) hx hb dX5_isAhead_117 (by decide) (fun c_117 => ?_) (fun c_117 => ?_)
            · refine lv_iconst (v := nI 0) hx hb dX5_isAhead_129 (by decide) ?_
              exact zrz hx hb hr hlocks dX5_isAhead_130 rfl (by rw [mAhead, if_pos e12, if_pos e8, decide_eq_false c_102, decide_eq_false c_117]; rfl)
            · refine lv_iload_n hx hb dX5_isAhead_120 rfl (lv_at hl 3 rfl) ?_
              refine lv_iload_n hx hb dX5_isAhead_121 rfl (lv_at hl 4 rfl) ?_
              refine lv_icmp_ge (tgt := 129) hx hb dX5_isAhead_122 (by decide) (fun c_122 => ?_) (fun c_122 => ?_)
              · refine lv_iconst (v := nI 0) hx hb dX5_isAhead_129 (by decide) ?_
                exact zrz hx hb hr hlocks dX5_isAhead_130 rfl (by rw [mAhead, if_pos e12, if_pos e8, decide_eq_false c_102, decide_eq_true c_117, decide_eq_false (p := q < q2) (fun q9 => absurd ((nI_leI (by omega) (by omega)).mp c_122) (by omega))]; rfl)
              · refine lv_iconst (v := nI 1) hx hb dX5_isAhead_125 (by decide) ?_
                refine lv_goto (tgt := 130) hx hb dX5_isAhead_126 (by decide) ?_
                exact zrz hx hb hr hlocks dX5_isAhead_130 rfl (by rw [mAhead, if_pos e12, if_pos e8, decide_eq_false c_102, decide_eq_true c_117, decide_eq_true (p := q < q2) (Nat.lt_of_not_le (fun q9 => c_122 ((nI_leI (by omega) (by omega)).mpr q9)))]; rfl)
        · refine lv_aload_n hx hb dX5_isAhead_69 rfl (lv_at hl 2 rfl) ?_
          refine zmget (own := RX5) (ci := 5) (C := RX5) (T := TX5) (N := 18) hx hb hts (by decide +kernel) hown hE hP 0 rfl rfl 6 (by decide) (hts (.fieldLink RX5 16 "LinkResolverModel" "costs" "[I") (by decide +kernel)) rfl dX5_isAhead_70 ?_
          refine lv_iload_n hx hb dX5_isAhead_73 rfl (lv_at hl 3 rfl) ?_
          refine zmi hx hb hE hP 3 rfl (i := q) (show _ < _ from by omega) (by decide) dX5_isAhead_74 ?_
          refine lv_aload_n hx hb dX5_isAhead_75 rfl (lv_at hl 2 rfl) ?_
          refine zmget (own := RX5) (ci := 5) (C := RX5) (T := TX5) (N := 18) hx hb hts (by decide +kernel) hown hE hP 0 rfl rfl 6 (by decide) (hts (.fieldLink RX5 16 "LinkResolverModel" "costs" "[I") (by decide +kernel)) rfl dX5_isAhead_76 ?_
          refine lv_iload_n hx hb dX5_isAhead_79 rfl (lv_at hl 4 rfl) ?_
          refine zmi hx hb hE hP 3 rfl (i := q2) (show _ < _ from by omega) (by decide) dX5_isAhead_80 ?_
          refine lv_icmp_ge (tgt := 88) hx hb dX5_isAhead_81 (by decide) (fun c_81 => ?_) (fun c_81 => ?_)
          · refine lv_iconst (v := nI 0) hx hb dX5_isAhead_88 (by decide) ?_
            exact zrz hx hb hr hlocks dX5_isAhead_89 rfl (by rw [mAhead, if_pos e12, if_neg c_66]; exact bI_f (Int32.not_lt.mpr c_81))
          · refine lv_iconst (v := nI 1) hx hb dX5_isAhead_84 (by decide) ?_
            refine lv_goto (tgt := 89) hx hb dX5_isAhead_85 (by decide) ?_
            exact zrz hx hb hr hlocks dX5_isAhead_89 rfl (by rw [mAhead, if_pos e12, if_neg c_66]; exact bI_t (Int32.not_le.mp c_81))
      · exact absurd rfl c_48

set_option maxHeartbeats 4000000 in
set_option maxRecDepth 100000 in
theorem m_oth (l : Launch) (D : va_G) (ca : Nat → ClassId) (sa : Nat → Nat) (hm : Nat) (ad : Nat → Nat) (th : Int32) (td nt np nc : Nat) (M : Nat → Nat → Int32) (q t y : Nat) (hnc : nc ≤ 600) (hnp : np ≤ 10) (hq : q < 10) (ht : t < 20) (hy : y ≤ 55) (hd : td ≤ 20000) : Met l yX5_othersFor wsX5_othersFor ({ frames := 6, cells := 0, slots := 0, locals := 240 }) (va_Pc [.ref hm, .int (nI q), .int (nI t), .int (nI y)] (zPw D (mW hm ad ca th td nt np nc M) ca sa)) (vp_Si (fun r => r = mOth M nc q t y td np)) 0 0 (fun _ => False) := by
  refine Met.ofW (cc := cX5_othersFor) (maxL := 6) (ret := (some .int)) (by decide) rfl ?_
  intro p e s m args below meth c s₁ B hml hv
  obtain ⟨rfl, hP, hE⟩ := hv
  have hx := B.exec
  have hb := B.bytes
  have hr := B.returns
  have hts := atoms_spec (ws := wsX5_othersFor) B.pre
  have hown : s.vm.findClass RX5 = some m.cls := findClass_of_methodNamed B.named
  have hlocks := B.notSynchronized
  have hl := lv_entry ([.ref hm, .int (nI q), .int (nI t), .int (nI y)]) (n := 6) (Nat.le_of_ble_eq_true rfl)
  rw [lg_entry_eq]
  generalize (lg_sl ([.ref hm, .int (nI q), .int (nI t), .int (nI y)]) ++ List.replicate (6 - (lg_sl ([.ref hm, .int (nI q), .int (nI t), .int (nI y)])).length) Slot.unset).toArray = ls at hl ⊢
  have hl : lv_has ls 6 [(0, .ref hm), (1, .int (nI q)), (2, .int (nI t)), (3, .int (nI y))] := hl
  have loop : ∀ (n9 : Nat) (k : Nat) (ls : Array Slot), k ≤ np → np < k + n9 → lv_has ls 6 [(5, .int (nI k)), (4, .int (mOth M nc q t y td k)), (0, .ref hm), (1, .int (nI q)), (2, .int (nI t)), (3, .int (nI y))] → W p l e (headSpec wsX5_othersFor ({ frames := 6, cells := 0, slots := 0, locals := 240 })).room s m ([.ref hm, .int (nI q), .int (nI t), .int (nI y)] : List Value).toArray below meth c s.heap [] 0 0 (MQ below (vp_Si (fun r => r = mOth M nc q t y td np)) ([.ref hm, .int (nI q), .int (nI t), .int (nI y)] : List Value).toArray s 0 0 (fun _ => False)) (F0 m 6 ls []) := by
    intro n9
    induction n9 with
    | zero =>
      intro k ls hk hfu hl
      exact absurd hfu (by omega)
    | succ n9 ih =>
      intro k ls hk hfu hl
      refine lv_iload hx hb dX5_othersFor_6 (lv_at hl 0 rfl) ?_
      refine lv_aload_n hx hb dX5_othersFor_8 rfl (lv_at hl 2 rfl) ?_
      refine zmget (own := RX5) (ci := 5) (C := RX5) (T := TX5) (N := 18) hx hb hts (by decide +kernel) hown hE hP 0 rfl rfl 3 (by decide) (hts (.fieldLink RX5 57 "LinkResolverModel" "packages" "I") (by decide +kernel)) rfl dX5_othersFor_9 ?_
      refine lv_icmp_ge (tgt := 58) hx hb dX5_othersFor_12 (by decide) (fun c_12 => ?_) (fun c_12 => ?_)
      · have e9 : k = np := by have := (nI_leI (by omega) (by omega)).mp c_12; omega
        refine lv_iload hx hb dX5_othersFor_58 (lv_at hl 1 rfl) ?_
        exact zri hx hb hr hlocks dX5_othersFor_60 (by rw [e9])
      · have hk2 : k < np := Nat.lt_of_not_le (fun q9 => c_12 ((nI_leI (by omega) (by omega)).mpr q9))
        refine lv_iload hx hb dX5_othersFor_15 (lv_at hl 1 rfl) ?_
        refine lv_iload hx hb dX5_othersFor_17 (lv_at hl 0 rfl) ?_
        refine lv_iload_n hx hb dX5_othersFor_19 rfl (lv_at hl 3 rfl) ?_
        refine lv_icmp_eq (tgt := 48) hx hb dX5_othersFor_20 (by decide) (fun c_20 => ?_) (fun c_20 => ?_)
        · refine lv_iconst (v := nI 0) hx hb dX5_othersFor_48 (by decide) ?_
          refine lv_ior hx hb dX5_othersFor_49 ?_
          refine lv_istore (lv' := [(4, .int ((mOth M nc q t y td k) ||| (nI 0))), (5, .int (nI k)), (0, .ref hm), (1, .int (nI q)), (2, .int (nI t)), (3, .int (nI y))]) hx hb dX5_othersFor_50 hl (by decide) rfl (fun ls hl => ?_)
          refine lv_iinc (v := nI (k + 1)) (lv' := [(5, .int (nI (k + 1))), (4, .int ((mOth M nc q t y td k) ||| (nI 0))), (0, .ref hm), (1, .int (nI q)), (2, .int (nI t)), (3, .int (nI y))]) hx hb dX5_othersFor_52 hl (k := 1) rfl (zinc1 _) (by decide) rfl (fun ls hl => ?_)
          refine lv_goto (tgt := 6) hx hb dX5_othersFor_55 (by decide) ?_
          exact ih (k + 1) ls (by omega) (by omega) (by rw [mOth, if_neg (fun q9 => q9.1 ((nI_eq (by omega) (by omega)).mp c_20))]; exact lv_sub hl [0, 1, 2, 3, 4, 5] rfl)
        · refine lv_aload_n hx hb dX5_othersFor_23 rfl (lv_at hl 2 rfl) ?_
          refine lv_iload hx hb dX5_othersFor_24 (lv_at hl 0 rfl) ?_
          refine lv_iload_n hx hb dX5_othersFor_26 rfl (lv_at hl 4 rfl) ?_
          refine lv_iload_n hx hb dX5_othersFor_27 rfl (lv_at hl 5 rfl) ?_
          refine lv_aload_n hx hb dX5_othersFor_28 rfl (lv_at hl 2 rfl) ?_
          refine zmget (own := RX5) (ci := 5) (C := RX5) (T := TX5) (N := 18) hx hb hts (by decide +kernel) hown hE hP 0 rfl rfl 1 (by decide) (hts (.fieldLink RX5 78 "LinkResolverModel" "today" "I") (by decide +kernel)) rfl dX5_othersFor_29 ?_
          refine zci (va_runV (As := [.int (nI k), .int (nI t), .int (nI y), .int (nI td)]) (rest := [.int (mOth M nc q t y td k)]) ⟨hx, hb, hml, hown, hts⟩ (m_cov l D ca sa hm ad th td nt np nc M k t (y) td hnc (by omega) ht hd hy) (cwV 4 hts gX5_othersFor_X5_isCovered rfl rfl rfl (by decide +kernel) ⟨Nat.le_of_ble_eq_true rfl, Nat.le_of_ble_eq_true rfl⟩) (zpV hP hE (ci := 5) rfl (q0 := 0) rfl) rfl rfl hl.1 rfl (lv_room (Nat.le_of_ble_eq_true rfl)) dX5_othersFor_32 ⟨Nat.le_of_ble_eq_true rfl, Nat.le_of_ble_eq_true rfl⟩) ?_
          refine lv_if_eq (tgt := 48) hx hb dX5_othersFor_35 (by decide) (fun c_35 => ?_) (fun c_35 => ?_)
          · refine lv_iconst (v := nI 0) hx hb dX5_othersFor_48 (by decide) ?_
            refine lv_ior hx hb dX5_othersFor_49 ?_
            refine lv_istore (lv' := [(4, .int ((mOth M nc q t y td k) ||| (nI 0))), (5, .int (nI k)), (0, .ref hm), (1, .int (nI q)), (2, .int (nI t)), (3, .int (nI y))]) hx hb dX5_othersFor_50 hl (by decide) rfl (fun ls hl => ?_)
            refine lv_iinc (v := nI (k + 1)) (lv' := [(5, .int (nI (k + 1))), (4, .int ((mOth M nc q t y td k) ||| (nI 0))), (0, .ref hm), (1, .int (nI q)), (2, .int (nI t)), (3, .int (nI y))]) hx hb dX5_othersFor_52 hl (k := 1) rfl (zinc1 _) (by decide) rfl (fun ls hl => ?_)
            refine lv_goto (tgt := 6) hx hb dX5_othersFor_55 (by decide) ?_
            exact ih (k + 1) ls (by omega) (by omega) (by rw [mOth, if_neg (fun q9 => absurd q9.2 (by rw [bI_eq0 c_35]; exact Bool.false_ne_true))]; exact lv_sub hl [0, 1, 2, 3, 4, 5] rfl)
          · refine lv_aload_n hx hb dX5_othersFor_38 rfl (lv_at hl 2 rfl) ?_
            refine zmget (own := RX5) (ci := 5) (C := RX5) (T := TX5) (N := 18) hx hb hts (by decide +kernel) hown hE hP 0 rfl rfl 8 (by decide) (hts (.fieldLink RX5 22 "LinkResolverModel" "groups" "[I") (by decide +kernel)) rfl dX5_othersFor_39 ?_
            refine lv_iload hx hb dX5_othersFor_42 (lv_at hl 0 rfl) ?_
            refine zmi hx hb hE hP 5 rfl (i := k) (show _ < _ from by omega) (by decide) dX5_othersFor_44 ?_
            refine lv_goto (tgt := 49) hx hb dX5_othersFor_45 (by decide) ?_
            refine lv_ior hx hb dX5_othersFor_49 ?_
            refine lv_istore (lv' := [(4, .int ((mOth M nc q t y td k) ||| (M 4 k))), (5, .int (nI k)), (0, .ref hm), (1, .int (nI q)), (2, .int (nI t)), (3, .int (nI y))]) hx hb dX5_othersFor_50 hl (by decide) rfl (fun ls hl => ?_)
            refine lv_iinc (v := nI (k + 1)) (lv' := [(5, .int (nI (k + 1))), (4, .int ((mOth M nc q t y td k) ||| (M 4 k))), (0, .ref hm), (1, .int (nI q)), (2, .int (nI t)), (3, .int (nI y))]) hx hb dX5_othersFor_52 hl (k := 1) rfl (zinc1 _) (by decide) rfl (fun ls hl => ?_)
            refine lv_goto (tgt := 6) hx hb dX5_othersFor_55 (by decide) ?_
            exact ih (k + 1) ls (by omega) (by omega) (by rw [mOth, if_pos ⟨fun q9 => c_20 (by rw [q9]), bI_ne0 c_35⟩]; exact lv_sub hl [0, 1, 2, 3, 4, 5] rfl)
  refine lv_iconst (v := nI 0) hx hb dX5_othersFor_0 (by decide) ?_
  refine lv_istore (lv' := [(4, .int (nI 0)), (0, .ref hm), (1, .int (nI q)), (2, .int (nI t)), (3, .int (nI y))]) hx hb dX5_othersFor_1 hl (by decide) rfl (fun ls hl => ?_)
  refine lv_iconst (v := nI 0) hx hb dX5_othersFor_3 (by decide) ?_
  refine lv_istore (lv' := [(5, .int (nI 0)), (4, .int (nI 0)), (0, .ref hm), (1, .int (nI q)), (2, .int (nI t)), (3, .int (nI y))]) hx hb dX5_othersFor_4 hl (by decide) rfl (fun ls hl => ?_)
  exact loop (np + 1) 0 ls (Nat.zero_le _) (by omega) (lv_sub hl [0, 1, 2, 3, 4, 5] rfl)
