/-! what the law keeps in its rows, beside the class's state -/
def sOn (l : zLs) : Bool := match l with
  | [] => false
  | c :: _ => decide (¬ c.2.1 = 0)
def hT (td : Nat) (l : zLs) : Prop := ∀ c ∈ l, c.1 ≤ td
theorem zDr_all {td : Nat} {l : zLs} (h : hT td l) : zDr td l = l := by
  cases l with
  | nil => rfl
  | cons c r =>
    have := h c List.mem_cons_self
    unfold zDr
    rw [List.dropWhile_cons, if_neg (by simp; omega)]
theorem zOn_all {td : Nat} {l : zLs} (h : hT td l) : zOn td l = sOn l := by
  unfold zOn
  rw [zDr_all h]
  cases l <;> rfl
theorem hT_up {td : Nat} {l : zLs} (h : hT td l) (k : Nat) : hT (td + k) l := fun c hc => Nat.le_trans (h c hc) (Nat.le_add_right _ _)
theorem hT_c {td : Nat} {l : zLs} (h : hT td l) (y : Int64) (w : Nat) : hT td ((td, y, w) :: l) := fun c hc => (List.mem_cons.mp hc).elim (fun e => by rw [e]; exact Nat.le_refl _) (h c)
theorem hT_n {td : Nat} : hT td [] := fun c hc => by cases hc
def stOk (w : Nat) (l : zLs) : Prop := (w % 2 = 0 ∧ w < 200000 ∧ sOn l = false) ∨ ∃ (a b wl d : Nat) (r : zLs), a ≤ b ∧ b ≤ 54 ∧ wl ≤ 20 ∧ w = 1 + 2 * a + 128 * b + 8192 * wl ∧ l = (d, yB (nI a) (nI b), wl) :: r
def sbOk (l : zLs) : Prop := l = [] ∨ ∃ (d : Nat) (b : Bool) (r : zLs), l = (d, zAll b, 0) :: r
theorem yB_n0 {a b : Nat} (h : a ≤ b) (hb : b ≤ 54) : ¬ yB (nI a) (nI b) = 0 := fun z => by
  have := yB_k h (by omega) (show a < 64 by omega)
  rw [z, hY_0 (by omega), decide_eq_true (Nat.le_refl a), decide_eq_true h] at this
  cases this
theorem stOk_lt {w : Nat} {l : zLs} (h : stOk w l) : w < 200000 := by
  rcases h with ⟨-, h, -⟩ | ⟨a, b, wl, d, r, h1, h2, h3, rfl, -⟩ <;> omega
theorem stOk_on {w : Nat} {l : zLs} (h : stOk w l) : sOn l = decide (w % 2 = 1) := by
  rcases h with ⟨h1, -, h2⟩ | ⟨a, b, wl, d, r, h1, h2, h3, rfl, rfl⟩
  · rw [h2, decide_eq_false (by omega)]
  · show decide (¬ yB (nI a) (nI b) = 0) = _
    rw [decide_eq_true (yB_n0 h1 h2), decide_eq_true (by omega)]
theorem zAll_0 (b : Bool) : decide (¬ zAll b = 0) = b := by cases b <;> decide +kernel
theorem zAll_t : ∀ y, y < 56 → hY 72057594037927935 (nI y) = true := by decide +kernel
theorem zAll_k {y : Nat} (hy : y ≤ 55) (b : Bool) : hY (zAll b) (nI y) = b := by
  cases b with
  | false => exact hY_0 (by omega)
  | true => exact zAll_t y (by omega)
def hasB (T : zT) (q t y td : Nat) : Bool := decide (T 0 (24 + q) = 1 ∧ T 1 (4 * q + t) % 2 = 1 ∧ T 1 (4 * q + t) / 2 % 64 ≤ y ∧ y ≤ T 1 (4 * q + t) / 128 % 64 ∧ y + T 1 (4 * q + t) / 8192 ≤ td / 360)
def Jv (V : zV) (T : zT) : Prop :=
  (T 0 38 = vNp V ∧ vNp V ≤ 6 ∧ T 0 39 = vNt V ∧ vNt V ≤ 4 ∧ T 0 40 = vTd V) ∧
  (∀ t, t < vNt V → T 0 (30 + t) = (vT V t).1 ∧ T 0 (34 + t) = (vT V t).2) ∧
  (∀ q, q < vNp V → (T 0 q = (vP V q).1 ∧ T 0 (6 + q) = (vP V q).2.1 ∧ T 0 (12 + q) = (vP V q).2.2.1 ∧ T 0 (18 + q) = (vP V q).2.2.2) ∧
    (T 0 (24 + q) = bN (sOn (vL V q 20)) ∧ sbOk (vL V q 20) ∧ hT (vTd V) (vL V q 20)) ∧
    ∀ t, t < 4 → stOk (T 1 (4 * q + t)) (vL V q t) ∧ hT (vTd V) (vL V q t) ∧ T 2 (4 * q + t) = vB V q t ∧ (vNt V ≤ t → vL V q t = [])) ∧
  (∀ q, vNp V ≤ q → q < 6 → T 0 (24 + q) = 0 ∧ ∀ t, t < 4 → T 1 (4 * q + t) = 0 ∧ T 2 (4 * q + t) = 0)
section JV
variable {V : zV} {T : zT}
theorem zOp_st {w td y : Nat} {l : zLs} (k1 : stOk w l) (htd : td ≤ 20000) (hy : y ≤ 55) (ho : zOk l) (hh : hT td l) : hY (zOp td l) (nI y) = decide (w % 2 = 1 ∧ w / 2 % 64 ≤ y ∧ y ≤ w / 128 % 64 ∧ y + w / 8192 ≤ td / 360) := by
  rw [zY_op htd hy (fun c hc => (ho c hc).2), zDr_all hh]
  rcases k1 with ⟨h1, -, h2⟩ | ⟨a, b, wl, d, r, h1, h2, h3, e4, e5⟩
  · refine Eq.trans ?_ (decide_eq_false (fun z => by omega)).symm
    cases l with
    | nil => rfl
    | cons c r =>
      have h2 : decide (¬ c.2.1 = 0) = false := h2
      have h7 : c.2.1 = 0 := Classical.byContradiction (of_decide_eq_false h2)
      show (hY c.2.1 (nI y) && _) = false
      rw [h7, hY_0 (by omega)]
      rfl
  · subst e5
    have w1 : nI y ≤ nI (td / 360) - nI wl ↔ y + wl ≤ td / 360 := le_sub (by omega) (by omega) (by omega)
    show (hY (yB (nI a) (nI b)) (nI y) && decide (nI y ≤ nI (td / 360) - nI wl)) = _
    rw [yB_k h1 (by omega) (by omega), show decide (nI y ≤ nI (td / 360) - nI wl) = decide (y + wl ≤ td / 360) from decide_eq_decide.mpr w1]
    have q0 : w % 2 = 1 := by omega
    have q1 : w / 2 % 64 = a := by
      rw [show w / 2 = a + 64 * (b + 64 * wl) by omega]; omega
    have q2 : w / 128 % 64 = b := by
      rw [show w / 128 = b + 64 * wl by omega]; omega
    have q3 : w / 8192 = wl := by omega
    rw [q0, q1, q2, q3]
    apply Bool.eq_iff_iff.mpr
    simp only [Bool.and_eq_true, decide_eq_true_eq]
    exact ⟨fun z => ⟨trivial, z.1.1, z.1.2, z.2⟩, fun z => ⟨⟨z.2.1, z.2.2.1⟩, z.2.2.2⟩⟩
theorem zOp_sb {td y : Nat} {l : zLs} (j2 : sbOk l) (htd : td ≤ 20000) (hy : y ≤ 55) (ho : zOk l) (hh : hT td l) : hY (zOp td l) (nI y) = (sOn l && decide (y ≤ td / 360)) := by
  rw [zY_op htd hy (fun c hc => (ho c hc).2), zDr_all hh]
  rcases j2 with e | ⟨d2, b2, r2, e⟩
  · subst e
    rfl
  · subst e
    have w0 : nI y ≤ nI (td / 360) - nI 0 ↔ y + 0 ≤ td / 360 := le_sub (by omega) (by omega) (by omega)
    have e3 : sOn ((d2, zAll b2, 0) :: r2) = b2 := zAll_0 b2
    rw [e3]
    show (hY (zAll b2) (nI y) && decide (nI y ≤ nI (td / 360) - nI 0)) = _
    rw [zAll_k hy, show decide (nI y ≤ nI (td / 360) - nI 0) = decide (y ≤ td / 360) from decide_eq_decide.mpr w0]
theorem v_has (J : Jv V T) (hB : Bd V) {q t y : Nat} (hq : q < vNp V) (ht : t < 4) (hy : y ≤ 55) : hY (zOp (vTd V) (vL V q t) &&& zOp (vTd V) (vL V q 20)) (nI y) = hasB T q t y (vTd V) := by
  have htd := hB.1.1
  obtain ⟨-, ⟨j1, j2, j3⟩, j4⟩ := J.2.2.1 q hq
  obtain ⟨k1, k2, -, -⟩ := j4 t ht
  have z1 := ((hB.2.2 q hq).2 t (by omega)).1
  have z2 := ((hB.2.2 q hq).2 20 (by omega)).1
  rw [hY_and _ _ (by omega), zOp_st k1 htd hy z1 k2, zOp_sb j2 htd hy z2 j3]
  unfold hasB
  rw [j1]
  apply Bool.eq_iff_iff.mpr
  cases sOn (vL V q 20) with
  | true => simp only [Bool.and_eq_true, decide_eq_true_eq, Bool.true_and]; show _ ↔ 1 = 1 ∧ _; omega
  | false => simp only [Bool.and_eq_true, decide_eq_true_eq, Bool.false_and, Bool.and_false]; exact ⟨fun z => (by cases z), fun z => absurd z.1 (by decide)⟩
theorem zhb_on {day y E : Nat} {l : zLs} (hy : y < 64) (h : zhb day y E l = true) : zOn E l = true := by
  unfold zhb at h
  unfold zOn
  cases e : zDr E l with
  | nil => rw [e] at h; cases h
  | cons c r =>
    rw [e] at h
    have h : (hY c.2.1 (nI y) && decide (nI y ≤ nI (day / 360) - nI c.2.2)) = true := h
    rw [Bool.and_eq_true] at h
    show decide (¬ c.2.1 = 0) = true
    refine decide_eq_true (fun z => ?_)
    rw [z, hY_0 hy] at h
    exact absurd h.1 (by decide)
theorem zKe_k {td y : Nat} {l : zLs} (htd : td ≤ 20000) (hy : y ≤ 55) (hl : zOk l) : hY (zKe td td 0 l) (nI y) = (decide (360 * y + 359 < td) && zhb td y (360 * y + 359) l) := by
  rw [zY_ke htd hy l td 0 (fun c hc => ⟨(hl c hc).2, (hl c hc).1⟩) (Nat.le_refl _), hY_0 (by omega), Bool.false_or]
theorem v_kept {k td y : Nat} {lT lS : zLs} (htd : td ≤ 20000) (hy : y ≤ 55) (h1 : zOk lT) (h2 : zOk lS) (h : hY (zPK k td lT lS) (nI y) = true) : ¬ k = 0 ∧ 360 * y + 359 < td ∧ zOn (360 * y + 359) lT = true ∧ zOn (360 * y + 359) lS = true := by
  unfold zPK at h
  by_cases c : k = 0
  · rw [if_pos c, hY_0 (by omega)] at h
    cases h
  · rw [if_neg c, hY_and _ _ (by omega), zKe_k htd hy h1, zKe_k htd hy h2, Bool.and_eq_true, Bool.and_eq_true, Bool.and_eq_true, decide_eq_true_eq] at h
    exact ⟨c, h.1.1, zhb_on (by omega) h.1.2, zhb_on (by omega) h.2.2⟩
/-- what covers today -/
theorem v_cov (J : Jv V T) (hB : Bd V) {q t y g : Nat} (hq : q < vNp V) (ht : t < 4) (hy : y ≤ 55) : cWy V q t y g (vTd V) = (zlb (vP V q).2.2.1 g && (hasB T q t y (vTd V) || hY (zPK (vP V q).2.2.2 (vTd V) (vL V q t) (vL V q 20)) (nI y))) := by
  rw [← v_has J hB hq ht hy]
  unfold cWy zWy zPC
  rw [hY_or _ _ (by omega)]
/-! a package cancelled today -/
def vOff (V : zV) (q : Nat) : zV := (vTd V, vNt V, vNp V, vT V, vP V, vB V, zU2 (vL V) q 20 ((vTd V, zAll false, 0) :: vL V q 20))
theorem off_n {q k : Nat} (h : k ≠ q) (t y g d : Nat) (ht : t < 20) : cWy (vOff V q) k t y g d = cWy V k t y g d := by
  show zWy (vP V k) d g y (zU2 (vL V) q 20 _ k t) (zU2 (vL V) q 20 _ k 20) = _
  rw [zU2_n (fun z => h z.1), zU2_n (fun z => h z.1)]
  rfl
theorem zKe_off {td y : Nat} {l : zLs} (htd : td ≤ 20000) (hy : y ≤ 55) (hl : zOk l) : hY (zKe td td 0 ((td, zAll false, 0) :: l)) (nI y) = hY (zKe td td 0 l) (nI y) := by
  have hl2 : zOk ((td, zAll false, 0) :: l) := fun c hc => (List.mem_cons.mp hc).elim (fun e => by rw [e]; exact ⟨htd, Nat.zero_le _⟩) (hl c)
  rw [zKe_k htd hy hl, zKe_k htd hy hl2]
  by_cases c : 360 * y + 359 < td
  · rw [decide_eq_true c]
    have e : zDr (360 * y + 359) ((td, zAll false, 0) :: l) = zDr (360 * y + 359) l := by
      unfold zDr
      rw [List.dropWhile_cons, if_pos (by simp; omega)]
    unfold zhb
    rw [e]
  · rw [decide_eq_false c]
    rfl
theorem off_q (hB : Bd V) {q t y g : Nat} (hq : q < vNp V) (ht : t < 4) (hy : y ≤ 55) : cWy (vOff V q) q t y g (vTd V) = (zlb (vP V q).2.2.1 g && hY (zPK (vP V q).2.2.2 (vTd V) (vL V q t) (vL V q 20)) (nI y)) := by
  have htd := hB.1.1
  have z2 := (hB.2.2 q hq).2 20 (by omega)
  show zWy (vP V q) (vTd V) g y (zU2 (vL V) q 20 _ q t) (zU2 (vL V) q 20 _ q 20) = _
  rw [zU2_n (fun z => by omega), zU2_s]
  unfold zWy zPC
  congr 1
  have e1 : zOp (vTd V) ((vTd V, zAll false, 0) :: vL V q 20) = 0 := by
    unfold zOp zDr
    rw [List.dropWhile_cons, if_neg (by simp)]
    exact Int64.zero_and
  rw [e1, Int64.and_zero, hY_or _ _ (by omega), hY_0 (by omega), Bool.false_or]
  unfold zPK
  by_cases c : (vP V q).2.2.2 = 0
  · rw [if_pos c, if_pos c]
  · rw [if_neg c, if_neg c, hY_and _ _ (by omega), hY_and _ _ (by omega), zKe_off htd hy z2.1]
theorem off_W (J : Jv V T) (hB : Bd V) {q t y g : Nat} (hq : q < vNp V) (ht : t < vNt V) (hg : g ≤ 3) (hn : cNd V q (vNt V) 0 = true) (y1 : (vT V t).1 ≤ y) (y2 : y ≤ vTd V / 360) : 0 < nW (vOff V q) t y g (vTd V) ↔ 0 < nW V t y g (vTd V) := by
  have htd := hB.1.1
  have hnt := J.1.2.2.2.1
  have hy : y ≤ 55 := by omega
  have key : nW (vOff V q) t y g (vTd V) = 0 ↔ nW V t y g (vTd V) = 0 := by
    have e1 : nW (vOff V q) t y g (vTd V) = 0 ↔ ∀ k, k < vNp V → cWy (vOff V q) k t y g (vTd V) = false := wc_0
    have e2 : nW V t y g (vTd V) = 0 ↔ ∀ k, k < vNp V → cWy V k t y g (vTd V) = false := wc_0
    rw [e1, e2]
    constructor
    · intro h k hk
      by_cases e : k = q
      · subst e
        cases z : cWy V k t y g (vTd V) with
        | false => rfl
        | true =>
          have h9 := h k hk
          rw [off_q hB hk (by omega) hy] at h9
          rw [v_cov J hB hk (by omega) hy, Bool.and_eq_true, Bool.or_eq_true] at z
          obtain ⟨z1, z2⟩ := z
          rw [z1, Bool.true_and] at h9
          rcases z2 with z2 | z2
          · rw [← v_has J hB hk (by omega) hy] at z2
            obtain ⟨k2, a1, a2, a3⟩ := v_lost hB hk ht hg ((cNd_is _ _).mp hn t (Nat.zero_le _) (by omega)) y1 y2 z1 z2 h9
            have := h k2 a1
            rw [off_n a2 t y g _ (by omega), a3] at this
            cases this
          · rw [z2] at h9
            cases h9
      · have := h k hk
        rw [off_n e t y g _ (by omega)] at this
        exact this
    · intro h k hk
      by_cases e : k = q
      · subst e
        have h9 := h k hk
        rw [v_cov J hB hk (by omega) hy] at h9
        rw [off_q hB hk (by omega) hy]
        cases z1 : zlb (vP V k).2.2.1 g with
        | false => rfl
        | true =>
          rw [z1, Bool.true_and] at h9
          rw [Bool.true_and]
          cases z2 : hY (zPK (vP V k).2.2.2 (vTd V) (vL V k t) (vL V k 20)) (nI y) with
          | false => rfl
          | true => rw [z2, Bool.or_true] at h9; cases h9
      · rw [off_n e t y g _ (by omega)]
        exact h k hk
  omega
def pAl (p : Nat → Nat) : Nat → Nat → Nat → Nat
  | 0, _, a => a
  | k + 1, y, a => pAl p k (y + 1) (a + if 0 < p y then 1 else 0)
theorem pAl_cong {p p' : Nat → Nat} : ∀ k y a, (∀ j, y ≤ j → j < y + k → (0 < p j ↔ 0 < p' j)) → pAl p k y a = pAl p' k y a
  | 0, _, _, _ => rfl
  | k + 1, y, a, h => by
    have e : (if 0 < p y then 1 else 0) = (if 0 < p' y then 1 else 0) := by
      have := h y (Nat.le_refl _) (by omega)
      by_cases c : 0 < p y
      · rw [if_pos c, if_pos (this.mp c)]
      · rw [if_neg c, if_neg (fun z => c (this.mpr z))]
    unfold pAl
    rw [e]
    exact pAl_cong k (y + 1) _ (fun j j1 j2 => h j (by omega) (by omega))
theorem pAl_le (p : Nat → Nat) : ∀ k y a, pAl p k y a ≤ a + k
  | 0, _, _ => Nat.le_refl _
  | k + 1, y, a => by
    have := pAl_le p k (y + 1) (a + if 0 < p y then 1 else 0)
    unfold pAl
    split at this <;> rename_i c
    · rw [if_pos c]; omega
    · rw [if_neg c]; omega
/-! the rows keep in step -/
theorem j_new : Jv (0, 0, 0, (fun _ => (0, 0)), (fun _ => (0, 0, 0, 0)), (fun _ _ => 0), (fun _ _ => [])) (fun _ _ => 0) :=
  ⟨⟨rfl, Nat.zero_le _, rfl, Nat.zero_le _, rfl⟩, fun t ht => absurd ht (Nat.not_lt_zero _), fun q hq => absurd hq (Nat.not_lt_zero _), fun q _ _ => ⟨rfl, fun t _ => ⟨rfl, rfl⟩⟩⟩
theorem j_pack (J : Jv V T) (hn : vNp V < 6) (a b g k : Nat) : Jv (vTd V, vNt V, vNp V + 1, vT V, va_up (vP V) (vNp V) (a, b, g, k), va_up (vB V) (vNp V) (fun _ => 0), va_up (vL V) (vNp V) (fun _ => [])) (tU (tU (tU (tU (tU T 0 (vNp V) a) 0 (6 + vNp V) b) 0 (12 + vNp V) g) 0 (18 + vNp V) k) 0 38 (vNp V + 1)) := by
  obtain ⟨⟨a1, a2, a3, a4, a5⟩, h2, h3, h4⟩ := J
  obtain ⟨z1, z2⟩ := h4 (vNp V) (Nat.le_refl _) hn
  refine ⟨⟨tU_s _ _ _ _, hn, ?_, a4, ?_⟩, fun t ht => ?_, fun q hq => ?_, fun q hq1 hq2 => ?_⟩
  · rw [tU_n (by omega), tU_n (by omega), tU_n (by omega), tU_n (by omega), tU_n (by omega)]; exact a3
  · rw [tU_n (by omega), tU_n (by omega), tU_n (by omega), tU_n (by omega), tU_n (by omega)]; exact a5
  · have ht : t < vNt V := ht
    rw [tU_n (by omega), tU_n (by omega), tU_n (by omega), tU_n (by omega), tU_n (by omega), tU_n (by omega), tU_n (by omega), tU_n (by omega), tU_n (by omega), tU_n (by omega)]
    exact h2 t ht
  · have hq : q < vNp V + 1 := hq
    by_cases e : q = vNp V
    · subst e
      show (_ = (va_up (vP V) (vNp V) (a, b, g, k) (vNp V)).1 ∧ _ = (va_up (vP V) (vNp V) (a, b, g, k) (vNp V)).2.1 ∧ _ = (va_up (vP V) (vNp V) (a, b, g, k) (vNp V)).2.2.1 ∧ _ = (va_up (vP V) (vNp V) (a, b, g, k) (vNp V)).2.2.2) ∧ (_ = bN (sOn (va_up (vL V) (vNp V) (fun _ => []) (vNp V) 20)) ∧ sbOk (va_up (vL V) (vNp V) (fun _ => []) (vNp V) 20) ∧ hT (vTd V) (va_up (vL V) (vNp V) (fun _ => []) (vNp V) 20)) ∧ ∀ t, t < 4 → stOk _ (va_up (vL V) (vNp V) (fun _ => []) (vNp V) t) ∧ hT (vTd V) (va_up (vL V) (vNp V) (fun _ => []) (vNp V) t) ∧ _ = va_up (vB V) (vNp V) (fun _ => 0) (vNp V) t ∧ (vNt V ≤ t → va_up (vL V) (vNp V) (fun _ => []) (vNp V) t = [])
      rw [va_up_self, va_up_self, va_up_self]
      refine ⟨⟨?_, ?_, ?_, ?_⟩, ⟨?_, Or.inl rfl, hT_n⟩, fun t ht => ⟨Or.inl ?_, hT_n, ?_, fun _ => rfl⟩⟩
      · rw [tU_n (by omega), tU_n (by omega), tU_n (by omega), tU_n (by omega), tU_s]
      · rw [tU_n (by omega), tU_n (by omega), tU_n (by omega), tU_s]
      · rw [tU_n (by omega), tU_n (by omega), tU_s]
      · rw [tU_n (by omega), tU_s]
      · rw [tU_n (by omega), tU_n (by omega), tU_n (by omega), tU_n (by omega), tU_n (by omega)]; exact z1
      · rw [tU_n (by omega), tU_n (by omega), tU_n (by omega), tU_n (by omega), tU_n (by omega), (z2 t ht).1]; exact ⟨rfl, by decide, rfl⟩
      · rw [tU_n (by omega), tU_n (by omega), tU_n (by omega), tU_n (by omega), tU_n (by omega)]; exact (z2 t ht).2
    · have hq : q < vNp V := by omega
      show (_ = (va_up (vP V) (vNp V) (a, b, g, k) q).1 ∧ _ = (va_up (vP V) (vNp V) (a, b, g, k) q).2.1 ∧ _ = (va_up (vP V) (vNp V) (a, b, g, k) q).2.2.1 ∧ _ = (va_up (vP V) (vNp V) (a, b, g, k) q).2.2.2) ∧ (_ = bN (sOn (va_up (vL V) (vNp V) (fun _ => []) q 20)) ∧ sbOk (va_up (vL V) (vNp V) (fun _ => []) q 20) ∧ hT (vTd V) (va_up (vL V) (vNp V) (fun _ => []) q 20)) ∧ ∀ t, t < 4 → stOk _ (va_up (vL V) (vNp V) (fun _ => []) q t) ∧ hT (vTd V) (va_up (vL V) (vNp V) (fun _ => []) q t) ∧ _ = va_up (vB V) (vNp V) (fun _ => 0) q t ∧ (vNt V ≤ t → va_up (vL V) (vNp V) (fun _ => []) q t = [])
      rw [va_up_ne _ _ e, va_up_ne _ _ e, va_up_ne _ _ e]
      obtain ⟨⟨b1, b2, b3, b4⟩, ⟨c1, c2, c3⟩, d1⟩ := h3 q hq
      refine ⟨⟨?_, ?_, ?_, ?_⟩, ⟨?_, c2, c3⟩, fun t ht => ?_⟩
      · rw [tU_n (by omega), tU_n (by omega), tU_n (by omega), tU_n (by omega), tU_n (by omega)]; exact b1
      · rw [tU_n (by omega), tU_n (by omega), tU_n (by omega), tU_n (by omega), tU_n (by omega)]; exact b2
      · rw [tU_n (by omega), tU_n (by omega), tU_n (by omega), tU_n (by omega), tU_n (by omega)]; exact b3
      · rw [tU_n (by omega), tU_n (by omega), tU_n (by omega), tU_n (by omega), tU_n (by omega)]; exact b4
      · rw [tU_n (by omega), tU_n (by omega), tU_n (by omega), tU_n (by omega), tU_n (by omega)]; exact c1
      · rw [tU_n (by omega), tU_n (by omega), tU_n (by omega), tU_n (by omega), tU_n (by omega), tU_n (by omega), tU_n (by omega), tU_n (by omega), tU_n (by omega), tU_n (by omega)]
        exact d1 t ht
  · have hq1 : vNp V + 1 ≤ q := hq1
    obtain ⟨y1, y2⟩ := h4 q (by omega) hq2
    refine ⟨?_, fun t ht => ?_⟩
    · rw [tU_n (by omega), tU_n (by omega), tU_n (by omega), tU_n (by omega), tU_n (by omega)]; exact y1
    · rw [tU_n (by omega), tU_n (by omega), tU_n (by omega), tU_n (by omega), tU_n (by omega), tU_n (by omega), tU_n (by omega), tU_n (by omega), tU_n (by omega), tU_n (by omega)]
      exact y2 t ht
theorem j_title (J : Jv V T) (hn : vNt V < 4) (a b : Nat) : Jv (vTd V, vNt V + 1, vNp V, va_up (vT V) (vNt V) (a, b), vP V, vB V, vL V) (tU (tU (tU T 0 (30 + vNt V) a) 0 (34 + vNt V) b) 0 39 (vNt V + 1)) := by
  obtain ⟨⟨a1, a2, a3, a4, a5⟩, h2, h3, h4⟩ := J
  refine ⟨⟨?_, a2, tU_s _ _ _ _, hn, ?_⟩, fun t ht => ?_, fun q hq => ?_, fun q hq1 hq2 => ?_⟩
  · rw [tU_n (by omega), tU_n (by omega), tU_n (by omega)]; exact a1
  · rw [tU_n (by omega), tU_n (by omega), tU_n (by omega)]; exact a5
  · have ht : t < vNt V + 1 := ht
    show _ = (va_up (vT V) (vNt V) (a, b) t).1 ∧ _ = (va_up (vT V) (vNt V) (a, b) t).2
    by_cases e : t = vNt V
    · subst e
      rw [va_up_self]
      constructor
      · rw [tU_n (by omega), tU_n (by omega), tU_s]
      · rw [tU_n (by omega), tU_s]
    · rw [va_up_ne _ _ e, tU_n (by omega), tU_n (by omega), tU_n (by omega), tU_n (by omega), tU_n (by omega), tU_n (by omega)]
      exact h2 t (by omega)
  · have hq : q < vNp V := hq
    obtain ⟨⟨b1, b2, b3, b4⟩, ⟨c1, c2, c3⟩, d1⟩ := h3 q hq
    refine ⟨⟨?_, ?_, ?_, ?_⟩, ⟨?_, c2, c3⟩, fun t ht => ?_⟩
    · rw [tU_n (by omega), tU_n (by omega), tU_n (by omega)]; exact b1
    · rw [tU_n (by omega), tU_n (by omega), tU_n (by omega)]; exact b2
    · rw [tU_n (by omega), tU_n (by omega), tU_n (by omega)]; exact b3
    · rw [tU_n (by omega), tU_n (by omega), tU_n (by omega)]; exact b4
    · rw [tU_n (by omega), tU_n (by omega), tU_n (by omega)]; exact c1
    · rw [tU_n (by omega), tU_n (by omega), tU_n (by omega), tU_n (by omega), tU_n (by omega), tU_n (by omega)]
      obtain ⟨e1, e2, e3, e4⟩ := d1 t ht
      exact ⟨e1, e2, e3, fun z => e4 (Nat.le_of_succ_le z)⟩
  · obtain ⟨y1, y2⟩ := h4 q hq1 hq2
    refine ⟨?_, fun t ht => ?_⟩
    · rw [tU_n (by omega), tU_n (by omega), tU_n (by omega)]; exact y1
    · rw [tU_n (by omega), tU_n (by omega), tU_n (by omega), tU_n (by omega), tU_n (by omega), tU_n (by omega)]
      exact y2 t ht
/-- a subscription set, or set to what it is -/
theorem j_sub (J : Jv V T) {q0 : Nat} (hq0 : q0 < vNp V) (b : Bool) : Jv (vTd V, vNt V, vNp V, vT V, vP V, vB V, zU2 (vL V) q0 20 ((vTd V, zAll b, 0) :: vL V q0 20)) (tU T 0 (24 + q0) (bN b)) := by
  obtain ⟨⟨a1, a2, a3, a4, a5⟩, h2, h3, h4⟩ := J
  refine ⟨⟨?_, a2, ?_, a4, ?_⟩, fun t ht => ?_, fun q hq => ?_, fun q hq1 hq2 => ?_⟩
  · rw [tU_n (by omega)]; exact a1
  · rw [tU_n (by omega)]; exact a3
  · rw [tU_n (by omega)]; exact a5
  · have ht : t < vNt V := ht
    rw [tU_n (by omega), tU_n (by omega)]; exact h2 t ht
  · have hq : q < vNp V := hq
    obtain ⟨⟨b1, b2, b3, b4⟩, ⟨c1, c2, c3⟩, d1⟩ := h3 q hq
    show (_ ∧ _ ∧ _ ∧ _) ∧ (_ = bN (sOn (zU2 (vL V) q0 20 _ q 20)) ∧ sbOk (zU2 (vL V) q0 20 _ q 20) ∧ hT (vTd V) (zU2 (vL V) q0 20 _ q 20)) ∧ ∀ t, t < 4 → stOk _ (zU2 (vL V) q0 20 _ q t) ∧ hT (vTd V) (zU2 (vL V) q0 20 _ q t) ∧ _ ∧ (vNt V ≤ t → zU2 (vL V) q0 20 _ q t = [])
    refine ⟨⟨?_, ?_, ?_, ?_⟩, ?_, fun t ht => ?_⟩
    · rw [tU_n (by omega)]; exact b1
    · rw [tU_n (by omega)]; exact b2
    · rw [tU_n (by omega)]; exact b3
    · rw [tU_n (by omega)]; exact b4
    · by_cases e : q = q0
      · subst e
        rw [zU2_s, tU_s]
        exact ⟨congrArg bN (zAll_0 b).symm, Or.inr ⟨_, _, _, rfl⟩, hT_c c3 _ _⟩
      · rw [zU2_n (fun z => e z.1), tU_n (by omega)]
        exact ⟨c1, c2, c3⟩
    · rw [zU2_n (fun z => by omega), tU_n (by omega), tU_n (by omega)]
      exact d1 t ht
  · have hq1 : vNp V ≤ q := hq1
    obtain ⟨y1, y2⟩ := h4 q hq1 hq2
    refine ⟨?_, fun t ht => ?_⟩
    · rw [tU_n (by omega)]; exact y1
    · rw [tU_n (by omega), tU_n (by omega)]; exact y2 t ht
/-- a title's stay changed -/
theorem j_stay (J : Jv V T) {q0 t0 : Nat} (hq0 : q0 < vNp V) (ht0 : t0 < vNt V) (y : Int64) (wl w : Nat) (hw : stOk w ((vTd V, y, wl) :: vL V q0 t0)) : Jv (vTd V, vNt V, vNp V, vT V, vP V, vB V, zU2 (vL V) q0 t0 ((vTd V, y, wl) :: vL V q0 t0)) (tU T 1 (4 * q0 + t0) w) := by
  obtain ⟨⟨a1, a2, a3, a4, a5⟩, h2, h3, h4⟩ := J
  refine ⟨⟨?_, a2, ?_, a4, ?_⟩, fun t ht => ?_, fun q hq => ?_, fun q hq1 hq2 => ?_⟩
  · rw [tU_n (by omega)]; exact a1
  · rw [tU_n (by omega)]; exact a3
  · rw [tU_n (by omega)]; exact a5
  · have ht : t < vNt V := ht
    rw [tU_n (by omega), tU_n (by omega)]; exact h2 t ht
  · have hq : q < vNp V := hq
    obtain ⟨⟨b1, b2, b3, b4⟩, ⟨c1, c2, c3⟩, d1⟩ := h3 q hq
    show (_ ∧ _ ∧ _ ∧ _) ∧ (_ = bN (sOn (zU2 (vL V) q0 t0 _ q 20)) ∧ sbOk (zU2 (vL V) q0 t0 _ q 20) ∧ hT (vTd V) (zU2 (vL V) q0 t0 _ q 20)) ∧ ∀ t, t < 4 → stOk _ (zU2 (vL V) q0 t0 _ q t) ∧ hT (vTd V) (zU2 (vL V) q0 t0 _ q t) ∧ _ ∧ (vNt V ≤ t → zU2 (vL V) q0 t0 _ q t = [])
    refine ⟨⟨?_, ?_, ?_, ?_⟩, ?_, fun t ht => ?_⟩
    · rw [tU_n (by omega)]; exact b1
    · rw [tU_n (by omega)]; exact b2
    · rw [tU_n (by omega)]; exact b3
    · rw [tU_n (by omega)]; exact b4
    · rw [zU2_n (fun z => by omega), tU_n (by omega)]
      exact ⟨c1, c2, c3⟩
    · obtain ⟨e1, e2, e3, e4⟩ := d1 t ht
      by_cases e : q = q0 ∧ t = t0
      · obtain ⟨rfl, rfl⟩ := e
        rw [zU2_s, tU_s, tU_n (by omega)]
        exact ⟨hw, hT_c e2 _ _, e3, fun z => absurd ht0 (Nat.not_lt.mpr z)⟩
      · rw [zU2_n e, tU_n (by omega), tU_n (by omega)]
        exact ⟨e1, e2, e3, e4⟩
  · have hq1 : vNp V ≤ q := hq1
    obtain ⟨y1, y2⟩ := h4 q hq1 hq2
    refine ⟨?_, fun t ht => ?_⟩
    · rw [tU_n (by omega)]; exact y1
    · rw [tU_n (by omega), tU_n (by omega)]; exact y2 t ht
/-- days go by -/
theorem j_pass (J : Jv V T) (d : Nat) : Jv (vTd V + d, vNt V, vNp V, vT V, vP V, vB V, vL V) (tU T 0 40 (vTd V + d)) := by
  obtain ⟨⟨a1, a2, a3, a4, a5⟩, h2, h3, h4⟩ := J
  refine ⟨⟨?_, a2, ?_, a4, tU_s _ _ _ _⟩, fun t ht => ?_, fun q hq => ?_, fun q hq1 hq2 => ?_⟩
  · rw [tU_n (by omega)]; exact a1
  · rw [tU_n (by omega)]; exact a3
  · have ht : t < vNt V := ht
    rw [tU_n (by omega), tU_n (by omega)]; exact h2 t ht
  · have hq : q < vNp V := hq
    obtain ⟨⟨b1, b2, b3, b4⟩, ⟨c1, c2, c3⟩, d1⟩ := h3 q hq
    refine ⟨⟨?_, ?_, ?_, ?_⟩, ⟨?_, c2, hT_up c3 d⟩, fun t ht => ?_⟩
    · rw [tU_n (by omega)]; exact b1
    · rw [tU_n (by omega)]; exact b2
    · rw [tU_n (by omega)]; exact b3
    · rw [tU_n (by omega)]; exact b4
    · rw [tU_n (by omega)]; exact c1
    · obtain ⟨e1, e2, e3, e4⟩ := d1 t ht
      rw [tU_n (by omega), tU_n (by omega)]
      exact ⟨e1, hT_up e2 d, e3, e4⟩
  · have hq1 : vNp V ≤ q := hq1
    obtain ⟨y1, y2⟩ := h4 q hq1 hq2
    refine ⟨?_, fun t ht => ?_⟩
    · rw [tU_n (by omega)]; exact y1
    · rw [tU_n (by omega), tU_n (by omega)]; exact y2 t ht
/-- breaks -/
theorem j_brk (J : Jv V T) {q0 t0 : Nat} (hq0 : q0 < vNp V) (ht0 : t0 < vNt V) (x : Nat) : Jv (vTd V, vNt V, vNp V, vT V, vP V, zU2 (vB V) q0 t0 x, vL V) (tU T 2 (4 * q0 + t0) x) := by
  obtain ⟨⟨a1, a2, a3, a4, a5⟩, h2, h3, h4⟩ := J
  refine ⟨⟨?_, a2, ?_, a4, ?_⟩, fun t ht => ?_, fun q hq => ?_, fun q hq1 hq2 => ?_⟩
  · rw [tU_n (by omega)]; exact a1
  · rw [tU_n (by omega)]; exact a3
  · rw [tU_n (by omega)]; exact a5
  · have ht : t < vNt V := ht
    rw [tU_n (by omega), tU_n (by omega)]; exact h2 t ht
  · have hq : q < vNp V := hq
    obtain ⟨⟨b1, b2, b3, b4⟩, ⟨c1, c2, c3⟩, d1⟩ := h3 q hq
    refine ⟨⟨?_, ?_, ?_, ?_⟩, ⟨?_, c2, c3⟩, fun t ht => ?_⟩
    · rw [tU_n (by omega)]; exact b1
    · rw [tU_n (by omega)]; exact b2
    · rw [tU_n (by omega)]; exact b3
    · rw [tU_n (by omega)]; exact b4
    · rw [tU_n (by omega)]; exact c1
    · obtain ⟨e1, e2, e3, e4⟩ := d1 t ht
      rw [tU_n (by omega)]
      refine ⟨e1, e2, ?_, e4⟩
      show _ = zU2 (vB V) q0 t0 x q t
      by_cases e : q = q0 ∧ t = t0
      · obtain ⟨rfl, rfl⟩ := e
        rw [zU2_s, tU_s]
      · rw [zU2_n e, tU_n (by omega)]
        exact e3
  · have hq1 : vNp V ≤ q := hq1
    obtain ⟨y1, y2⟩ := h4 q hq1 hq2
    refine ⟨?_, fun t ht => ?_⟩
    · rw [tU_n (by omega)]; exact y1
    · rw [tU_n (by omega), tU_n (by omega)]; exact y2 t ht
end JV
