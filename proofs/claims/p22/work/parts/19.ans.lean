/-! what the class answers, by the packages that cover -/
def Bd (V : zV) : Prop := (vTd V ≤ 20000 ∧ vNt V ≤ 20 ∧ vNp V ≤ 10) ∧ (∀ t, t < vNt V → (vT V t).1 ≤ 55 ∧ 1 ≤ (vT V t).2 ∧ (vT V t).2 ≤ 4) ∧ ∀ q, q < vNp V → ((vP V q).1 ≤ 1000 ∧ (vP V q).2.1 ≤ 2 ∧ (vP V q).2.2.1 ≤ 15 ∧ (vP V q).2.2.2 ≤ 1) ∧ ∀ w, w ≤ 20 → zOk (vL V q w) ∧ vB V q w ≤ 512
theorem Bd_of {L : List Nat} {f : Nat → va_E} {ca : Nat → ClassId} {h0 ta pa : Nat} {aT aP aS : Nat → Nat} {aH : Nat → Nat → Nat} {n K : Nat} {V : zV} (hR : zRep L f ca h0 ta pa aT aP aS aH n K V) : Bd V := by
  obtain ⟨⟨-, h1, h2, h3, -, hK⟩, ⟨g, -, h4⟩, ⟨g2, -, h5⟩, -⟩ := hR
  refine ⟨⟨h1, h2, h3⟩, fun t ht => ?_, fun q hq => ?_⟩
  · obtain ⟨-, -, a, b, c⟩ := h4 t ht
    exact ⟨a, b, c⟩
  · obtain ⟨-, hp, hw⟩ := h5 q hq
    exact ⟨hp.1.2, fun w hw9 => ⟨(hw w hw9).1.2, Nat.le_trans (hw w hw9).2 hK⟩⟩
/-- how many ways -/
def nW (V : zV) (t y g d : Nat) : Nat := wc (fun k => cWy V k t y g d) (vNp V)
section AN
variable {V : zV}
theorem nW_le (hB : Bd V) (t y g d : Nat) : nW V t y g d ≤ 10 := Nat.le_trans (wc_le _ _) hB.1.2.2
theorem v_ways (hB : Bd V) (t y g d : Nat) : swI (wTo V t y g d (vNp V)) = nI (nW V t y g d) := by
  have hn : vNp V ≤ 10 := hB.1.2.2
  rw [wTo_wm V t y g d _ hn, sw_pc _ (wm_lt10 _ hn), pc_wm _ _ hn]
  rfl
theorem v_am (hB : Bd V) {t y g d k : Nat} (hk : k < vNp V) : aM (wTo V t y g d (vNp V)) k = cWy V k t y g d := by
  have hn : vNp V ≤ 10 := hB.1.2.2
  rw [wTo_wm V t y g d _ hn, am_wm _ (by omega) _ hn, decide_eq_true hk, Bool.true_and]
theorem v_ahead (hB : Bd V) {q q2 : Nat} (hq : q < vNp V) (hq2 : q2 < vNp V) (t : Nat) : cAhead V q q2 t = decide (wkey V t q < wkey V t q2) := by
  have hn : vNp V ≤ 10 := hB.1.2.2
  obtain ⟨⟨l1, l2, -, -⟩, -⟩ := hB.2.2 q hq
  obtain ⟨⟨l3, l4, -, -⟩, -⟩ := hB.2.2 q2 hq2
  unfold cAhead wkey
  generalize (vP V q).1 = a1 at *
  generalize (vP V q2).1 = a2 at *
  generalize (vP V q).2.1 = b1 at *
  generalize (vP V q2).2.1 = b2 at *
  generalize vB V q t = x1
  generalize vB V q2 t = x2
  by_cases z1 : 2 ≤ x1 <;> by_cases z2 : 2 ≤ x2 <;> simp only [z1, z2, if_true, if_false, decide_true, decide_false, Bool.not_true, Bool.not_false, reduceCtorEq]
  · by_cases e1 : a1 = a2
    · by_cases e2 : b1 = b2
      · rw [if_pos e1, if_pos e2]; exact decide_eq_decide.mpr (by omega)
      · rw [if_pos e1, if_neg e2]; exact decide_eq_decide.mpr (by omega)
    · rw [if_neg e1]; exact decide_eq_decide.mpr (by omega)
  · exact (decide_eq_false (by omega)).symm
  · exact (decide_eq_true (by omega)).symm
  · by_cases e1 : a1 = a2
    · by_cases e2 : b1 = b2
      · rw [if_pos e1, if_pos e2]; exact decide_eq_decide.mpr (by omega)
      · rw [if_pos e1, if_neg e2]; exact decide_eq_decide.mpr (by omega)
    · rw [if_neg e1]; exact decide_eq_decide.mpr (by omega)
theorem wkey_inj (hB : Bd V) (t : Nat) : ∀ a b, a < vNp V → b < vNp V → wkey V t a = wkey V t b → a = b := by
  intro a b ha hb h
  have hn : vNp V ≤ 10 := hB.1.2.2
  unfold wkey at h
  omega
theorem v_pla (hB : Bd V) {q t y g d : Nat} (hq : q < vNp V) : ∀ n, n ≤ vNp V → cPla V (wTo V t y g d (vNp V)) q t n = rk (fun k => cWy V k t y g d) (wkey V t) (wkey V t q) n
  | 0, _ => rfl
  | n + 1, h => by
    have i1 := v_pla hB (t := t) (y := y) (g := g) (d := d) hq n (by omega)
    have a1 := v_ahead hB (show n < vNp V by omega) hq t
    unfold cPla rk
    rw [i1, a1, v_am hB (by omega)]
    have hk : wkey V t n < wkey V t q → n ≠ q := fun z e => by subst e; omega
    by_cases c : cWy V n t y g d = true ∧ wkey V t n < wkey V t q
    · rw [if_pos c, if_pos ⟨hk c.2, c.1, decide_eq_true c.2⟩]
    · rw [if_neg c, if_neg (fun z => c ⟨z.2.1, of_decide_eq_true z.2.2⟩)]
/-- a place that there is: the package at it -/
theorem v_at (hB : Bd V) {pl t y g d : Nat} (hpl : pl < nW V t y g d) : ∃ q, q < vNp V ∧ cWy V q t y g d = true ∧ rk (fun k => cWy V k t y g d) (wkey V t) (wkey V t q) (vNp V) = pl ∧ aM (wTo V t y g d (vNp V)) q = true ∧ nI (cPla V (wTo V t y g d (vNp V)) q t (vNp V)) = nI pl ∧ (∀ k, k < q → aM (wTo V t y g d (vNp V)) k = true → ¬ nI (cPla V (wTo V t y g d (vNp V)) k t (vNp V)) = nI pl) := by
  have hn : vNp V ≤ 10 := hB.1.2.2
  have hi := wkey_inj hB t
  have hv : ∀ k, k < vNp V → wkey V t k < 100000 := fun k hk => by
    obtain ⟨⟨l1, l2, -⟩, -⟩ := hB.2.2 k hk
    unfold wkey
    split <;> omega
  unfold nW at hpl
  rw [← rk_all (v := 100000) (key := wkey V t) _ hv] at hpl
  obtain ⟨q, h1, h2, h3⟩ := rk_ex hi _ hpl
  have hwc : ∀ k, k < vNp V → cWy V k t y g d = true → rk (fun k => cWy V k t y g d) (wkey V t) (wkey V t k) (vNp V) < 2 ^ 31 := fun k hk hka => by
    have z1 := rk_lt hi hk (p := fun k => cWy V k t y g d) hka
    have := wc_le (fun k => cWy V k t y g d) (vNp V)
    omega
  refine ⟨q, h1, h2, h3, (v_am hB h1).trans h2, by rw [v_pla hB h1 _ (Nat.le_refl _), h3], fun k hk hka z => ?_⟩
  have hk2 : k < vNp V := by omega
  rw [v_pla hB hk2 _ (Nat.le_refl _)] at z
  rw [v_am hB hk2] at hka
  have z3 := hwc k hk2 hka
  have hplb : pl < 2 ^ 31 := by
    have := hwc q h1 h2
    omega
  have z4 := (nI_eq z3 hplb).mp z
  have := rk_uniq hi hk2 hka h1 h2 (z4.trans h3.symm)
  omega
theorem v_order {t y g d q q2 : Nat} (h : rk (fun k => cWy V k t y g d) (wkey V t) (wkey V t q) (vNp V) < rk (fun k => cWy V k t y g d) (wkey V t) (wkey V t q2) (vNp V)) : wkey V t q < wkey V t q2 := by
  apply Classical.byContradiction
  intro z
  have := rk_mono (p := fun k => cWy V k t y g d) (key := wkey V t) (show wkey V t q2 ≤ wkey V t q by omega) (vNp V)
  omega
/-! gaps and doubles, as the law counts them -/
def pGf (p : Nat → Nat) (fy : Nat) : Nat → Int32 → Int32
  | 0, fd => fd
  | n + 1, fd => if fy ≤ n then pGf p fy n (if p n = 0 then nI n else fd) else fd
def pDb (p : Nat → Nat) (fy : Nat) : Nat → Nat → Nat
  | 0, a => a
  | n + 1, a => if fy ≤ n then pDb p fy n (a + if 1 < p n then 1 else 0) else a
def pDn (p : Nat → Nat) (fy : Nat) : Nat → Nat
  | 0 => 0
  | k + 1 => if 1 < p (fy + k) then pDn p fy k + 1 else pDn p fy k
theorem pDn_le (p : Nat → Nat) (fy : Nat) : ∀ k, pDn p fy k ≤ k
  | 0 => Nat.le_refl _
  | k + 1 => by have := pDn_le p fy k; unfold pDn; split <;> omega
theorem pDb_is (p : Nat → Nat) (fy : Nat) : ∀ n a, pDb p fy n a = a + pDn p fy (n - fy)
  | 0, a => by rw [Nat.zero_sub]; rfl
  | n + 1, a => by
    unfold pDb
    by_cases c : fy ≤ n
    · rw [if_pos c, pDb_is p fy n, show n + 1 - fy = (n - fy) + 1 by omega]
      conv => rhs; unfold pDn
      rw [show fy + (n - fy) = n by omega]
      split <;> omega
    · rw [if_neg c, show n + 1 - fy = 0 by omega]
      rfl
theorem pGf_no {p : Nat → Nat} {fy : Nat} : ∀ (n : Nat) (fd : Int32), (∀ j, fy ≤ j → j < n → ¬ p j = 0) → pGf p fy n fd = fd
  | 0, _, _ => rfl
  | n + 1, fd, h => by
    unfold pGf
    by_cases c : fy ≤ n
    · rw [if_pos c, if_neg (h n c (Nat.lt_succ_self n))]
      exact pGf_no n fd (fun j h1 h2 => h j h1 (by omega))
    · rw [if_neg c]
theorem pGf_at {p : Nat → Nat} {fy r : Nat} (hr : fy ≤ r) (h0 : p r = 0) (hl : ∀ j, fy ≤ j → j < r → ¬ p j = 0) : ∀ (n : Nat) (fd : Int32), r < n → pGf p fy n fd = nI r
  | 0, _, h => absurd h (Nat.not_lt_zero _)
  | n + 1, fd, h => by
    unfold pGf
    rw [if_pos (show fy ≤ n by omega)]
    by_cases e : n = r
    · subst e
      rw [if_pos h0]
      exact pGf_no n _ (fun j h1 h2 => hl j h1 h2)
    · exact pGf_at hr h0 hl n _ (by omega)
theorem zYs_k (hB : Bd V) {t y : Nat} (ht : t < vNt V) (hy : y < 64) : hY (zYs V t) (nI y) = (decide ((vT V t).1 ≤ y) && decide (y ≤ vTd V / 360)) := by
  obtain ⟨h1, -⟩ := hB.2.1 t ht
  have h2 := hB.1.1
  unfold zYs
  rw [hY_yB ((nI_leI (by omega) (by omega)).mpr (by omega)) (by omega) hy]
  congr 1
  exact decide_eq_decide.mpr (nI_leI (by omega) (by omega))
/-- one of the first n but the one left out lets the group read the year -/
theorem cYC_k {lf : Int32} {t g y : Nat} (hy : y ≤ 55) : ∀ n, (hY (cYC V lf t g n) (nI y) = true ↔ ∃ k, k < n ∧ ¬ nI k = lf ∧ cWy V k t y g (vTd V) = true)
  | 0 => by
    rw [show cYC V lf t g 0 = 0 from rfl, hY_0 (by omega)]
    exact ⟨fun h => (by cases h), fun ⟨k, hk, _⟩ => absurd hk (Nat.not_lt_zero _)⟩
  | n + 1 => by
    have ih := cYC_k (lf := lf) (t := t) (g := g) hy n
    have e9 : cWy V n t y g (vTd V) = (zlb (vP V n).2.2.1 g && hY (cPC V n t (vTd V)) (nI y)) := rfl
    unfold cYC
    have up : (∃ k, k < n ∧ ¬ nI k = lf ∧ cWy V k t y g (vTd V) = true) → ∃ k, k < n + 1 ∧ ¬ nI k = lf ∧ cWy V k t y g (vTd V) = true := fun ⟨k, a, b⟩ => ⟨k, by omega, b⟩
    have dn : ¬ (¬ nI n = lf ∧ cWy V n t y g (vTd V) = true) → (∃ k, k < n + 1 ∧ ¬ nI k = lf ∧ cWy V k t y g (vTd V) = true) → ∃ k, k < n ∧ ¬ nI k = lf ∧ cWy V k t y g (vTd V) = true := fun hn ⟨k, a, b⟩ => ⟨k, by
      by_cases e : k = n
      · subst e; exact absurd b hn
      · omega, b⟩
    by_cases c : nI n = lf
    · rw [if_pos c, ih]
      exact ⟨up, dn (fun z => z.1 c)⟩
    · rw [if_neg c]
      by_cases c2 : zlb (vP V n).2.2.1 g = true
      · rw [if_pos c2, hY_or _ _ (by omega), Bool.or_eq_true, ih]
        constructor
        · rintro (z | z)
          · exact up z
          · exact ⟨n, Nat.lt_succ_self n, c, by rw [e9, c2, z]; rfl⟩
        · rintro ⟨k, a, b1, b2⟩
          by_cases e : k = n
          · subst e
            rw [e9, Bool.and_eq_true] at b2
            exact Or.inr b2.2
          · exact Or.inl ⟨k, by omega, b1, b2⟩
      · rw [if_neg c2, ih]
        refine ⟨up, dn (fun z => c2 ?_)⟩
        have := z.2
        rw [e9, Bool.and_eq_true] at this
        exact this.1
theorem v_gap (hB : Bd V) {t g : Nat} (ht : t < vNt V) : cGap V t g = pGf (fun y => nW V t y g (vTd V)) (vT V t).1 (vTd V / 360 + 1) (-1) := by
  have htd := hB.1.1
  have hnp := hB.1.2.2
  obtain ⟨hfy, -⟩ := hB.2.1 t ht
  have hbit : ∀ y, y ≤ 55 → (hY (zYs V t &&& (cYC V (-1) t g (vNp V) ^^^ (-1))) (nI y) = true ↔ (vT V t).1 ≤ y ∧ y ≤ vTd V / 360 ∧ nW V t y g (vTd V) = 0) := fun y hy => by
    have h1 := cYC_k (V := V) (lf := -1) (t := t) (g := g) hy (vNp V)
    unfold nW
    rw [hY_and _ _ (by omega), hY_not _ (by omega), zYs_k hB ht (by omega), wc_0, Bool.and_eq_true, Bool.and_eq_true, decide_eq_true_iff, decide_eq_true_iff, and_assoc]
    refine and_congr_right (fun _ => and_congr_right (fun _ => ?_))
    constructor
    · intro z k hk
      cases h : cWy V k t y g (vTd V) with
      | false => rfl
      | true =>
        have := h1.mpr ⟨k, hk, oI_n k (by omega), h⟩
        rw [this] at z
        cases z
    · intro z
      cases h : hY (cYC V (-1) t g (vNp V)) (nI y) with
      | false => rfl
      | true =>
        obtain ⟨k, a, -, b⟩ := h1.mp h
        rw [z k a] at b
        cases b
  unfold cGap
  rcases gF_at (zYs V t &&& (cYC V (-1) t g (vNp V) ^^^ (-1))) (56 - (vT V t).1) (vT V t).1 with ⟨r, h1, h2, h3, h4, h5⟩ | ⟨h1, h2⟩
  · obtain ⟨a1, a2, a3⟩ := (hbit r (by omega)).mp h3
    rw [h5, pGf_at a1 a3 (fun j j1 j2 z => ?_) _ _ (by omega)]
    have := h4 j j1 j2
    rw [(hbit j (by omega)).mpr ⟨j1, by omega, z⟩] at this
    cases this
  · rw [h2, pGf_no _ _ (fun j j1 j2 z => ?_)]
    have := h1 j j1 (by omega)
    rw [(hbit j (by omega)).mpr ⟨j1, by omega, z⟩] at this
    cases this
theorem cDb_k {t g y : Nat} (hy : y ≤ 55) : ∀ n, hY (cDb V t g n).1 (nI y) = decide (1 ≤ wc (fun k => cWy V k t y g (vTd V)) n) ∧ hY (cDb V t g n).2 (nI y) = decide (2 ≤ wc (fun k => cWy V k t y g (vTd V)) n)
  | 0 => ⟨hY_0 (by omega), hY_0 (by omega)⟩
  | n + 1 => by
    obtain ⟨i1, i2⟩ := cDb_k (t := t) (g := g) hy n
    have e9 : cWy V n t y g (vTd V) = (zlb (vP V n).2.2.1 g && hY (cPC V n t (vTd V)) (nI y)) := rfl
    unfold cDb wc
    by_cases c : zlb (vP V n).2.2.1 g = true
    · rw [if_pos c, hY_or _ _ (by omega), hY_or _ _ (by omega), hY_and _ _ (by omega), i1, i2, e9, c, Bool.true_and]
      generalize wc (fun k => cWy V k t y g (vTd V)) n = a
      cases hY (cPC V n t (vTd V)) (nI y) with
      | true =>
        rw [if_pos rfl, Bool.or_true, Bool.and_true]
        refine ⟨(decide_eq_true (by omega)).symm, ?_⟩
        by_cases z : 1 ≤ a
        · rw [decide_eq_true z, Bool.or_true]; exact (decide_eq_true (by omega)).symm
        · rw [decide_eq_false z, Bool.or_false]; exact decide_eq_decide.mpr (by omega)
      | false =>
        rw [if_neg (by decide), Bool.or_false, Bool.and_false, Bool.or_false]
        exact ⟨rfl, rfl⟩
    · rw [if_neg c, if_neg (fun z => c (by rw [e9, Bool.and_eq_true] at z; exact z.1))]
      exact ⟨i1, i2⟩
theorem v_dbl (hB : Bd V) {t g : Nat} (ht : t < vNt V) : swL ((cDb V t g (vNp V)).2 &&& zYs V t) = nI (pDn (fun y => nW V t y g (vTd V)) (vT V t).1 (vTd V / 360 + 1 - (vT V t).1)) := by
  have htd := hB.1.1
  rw [swL_wc]
  congr 1
  have main : ∀ n, n ≤ 64 → wc (fun k => hY ((cDb V t g (vNp V)).2 &&& zYs V t) (nI k)) n = pDn (fun y => nW V t y g (vTd V)) (vT V t).1 (min n (vTd V / 360 + 1) - (vT V t).1) := by
    intro n
    induction n with
    | zero => intro _; rw [show min 0 (vTd V / 360 + 1) - (vT V t).1 = 0 by omega]; rfl
    | succ n ih =>
      intro hn
      unfold wc
      rw [ih (by omega), hY_and _ _ (by omega), zYs_k hB ht (by omega)]
      by_cases c : (vT V t).1 ≤ n ∧ n ≤ vTd V / 360
      · rw [(cDb_k (show n ≤ 55 by omega) (vNp V)).2, decide_eq_true c.1, decide_eq_true c.2, Bool.and_self, Bool.and_true, show min (n + 1) (vTd V / 360 + 1) - (vT V t).1 = (n - (vT V t).1) + 1 by omega, show min n (vTd V / 360 + 1) - (vT V t).1 = n - (vT V t).1 by omega]
        conv => rhs; unfold pDn
        rw [show (vT V t).1 + (n - (vT V t).1) = n by omega]
        by_cases z : 2 ≤ wc (fun k => cWy V k t n g (vTd V)) (vNp V)
        · rw [if_pos (decide_eq_true z), if_pos (show 1 < nW V t n g (vTd V) from z)]
        · rw [if_neg (fun y => z (of_decide_eq_true y)), if_neg (show ¬ 1 < nW V t n g (vTd V) from z)]
      · have e : (decide ((vT V t).1 ≤ n) && decide (n ≤ vTd V / 360)) = false := by
          cases h : (decide ((vT V t).1 ≤ n) && decide (n ≤ vTd V / 360)) with
          | false => rfl
          | true =>
            rw [Bool.and_eq_true, decide_eq_true_iff, decide_eq_true_iff] at h
            exact absurd h c
        rw [e, Bool.and_false, if_neg (by decide), show min (n + 1) (vTd V / 360 + 1) - (vT V t).1 = min n (vTd V / 360 + 1) - (vT V t).1 by omega]
  rw [main 64 (Nat.le_refl _), show min 64 (vTd V / 360 + 1) - (vT V t).1 = vTd V / 360 + 1 - (vT V t).1 by omega]
/-! needless -/
theorem cLo_is {q t : Nat} : ∀ k g, (cLo V q t k g = true ↔ ∃ j, g ≤ j ∧ j < g + k ∧ zlb (vP V q).2.2.1 j = true ∧ ¬ cAS V q t &&& (cYC V (nI q) t j (vNp V) ^^^ (-1)) = 0)
  | 0, g => ⟨fun h => (by cases h), fun ⟨j, h1, h2, _⟩ => absurd h1 (by omega)⟩
  | k + 1, g => by
    unfold cLo
    by_cases c : zlb (vP V q).2.2.1 g = true ∧ ¬ cAS V q t &&& (cYC V (nI q) t g (vNp V) ^^^ (-1)) = 0
    · rw [if_pos c]
      exact ⟨fun _ => ⟨g, Nat.le_refl _, by omega, c⟩, fun _ => rfl⟩
    · rw [if_neg c, cLo_is k (g + 1)]
      exact ⟨fun ⟨j, h1, h2, h3⟩ => ⟨j, by omega, by omega, h3⟩, fun ⟨j, h1, h2, h3⟩ => ⟨j, by
        by_cases e : j = g
        · subst e; exact absurd h3 c
        · omega, by omega, h3⟩⟩
theorem cNd_is {q : Nat} : ∀ k t, (cNd V q k t = true ↔ ∀ j, t ≤ j → j < t + k → cLost V q j = false)
  | 0, t => ⟨fun _ j h1 h2 => absurd h1 (by omega), fun _ => rfl⟩
  | k + 1, t => by
    unfold cNd
    by_cases c : cLost V q t = true
    · rw [if_pos c]
      exact ⟨fun h => (by cases h), fun h => by have := h t (Nat.le_refl _) (by omega); rw [c] at this; cases this⟩
    · have c' : cLost V q t = false := by cases h : cLost V q t with | false => rfl | true => exact absurd h c
      rw [if_neg c, cNd_is k (t + 1)]
      exact ⟨fun h j j1 j2 => by
        by_cases e : j = t
        · subst e; exact c'
        · exact h j (by omega) (by omega), fun h j j1 j2 => h j (by omega) (by omega)⟩
/-- a package that isn't lost: where it alone stands open, another one covers -/
theorem v_lost (hB : Bd V) {q t g y : Nat} (hq : q < vNp V) (ht : t < vNt V) (hg : g ≤ 3) (h : cLost V q t = false) (y1 : (vT V t).1 ≤ y) (y2 : y ≤ vTd V / 360) (hl : zlb (vP V q).2.2.1 g = true) (ho : hY (zOp (vTd V) (vL V q t) &&& zOp (vTd V) (vL V q 20)) (nI y) = true) (hk : hY (zPK (vP V q).2.2.2 (vTd V) (vL V q t) (vL V q 20)) (nI y) = false) : ∃ k, k < vNp V ∧ k ≠ q ∧ cWy V k t y g (vTd V) = true := by
  have htd := hB.1.1
  have hnp := hB.1.2.2
  have hb : hY (cAS V q t) (nI y) = true := by
    unfold cAS
    rw [hY_and _ _ (by omega), zYs_k hB ht (by omega), decide_eq_true y1, decide_eq_true y2, hY_and _ _ (by omega), hY_not _ (by omega), ho, hk]
    rfl
  have h9 : cAS V q t &&& (cYC V (nI q) t g (vNp V) ^^^ (-1)) = 0 := by
    unfold cLost at h
    by_cases c : cAS V q t = 0
    · rw [c]; exact Int64.zero_and
    · rw [if_neg c] at h
      apply Classical.byContradiction
      intro z
      have := (cLo_is (V := V) (q := q) (t := t) 4 0).mpr ⟨g, Nat.zero_le _, by omega, hl, z⟩
      rw [this] at h
      cases h
  have h8 : hY (cAS V q t &&& (cYC V (nI q) t g (vNp V) ^^^ (-1))) (nI y) = hY 0 (nI y) := by rw [h9]
  rw [hY_and _ _ (by omega), hY_not _ (by omega), hb, hY_0 (by omega), Bool.true_and] at h8
  have h7 : hY (cYC V (nI q) t g (vNp V)) (nI y) = true := by
    cases z : hY (cYC V (nI q) t g (vNp V)) (nI y) with
    | true => rfl
    | false => rw [z] at h8; cases h8
  obtain ⟨k, k1, k2, k3⟩ := (cYC_k (by omega) _).mp h7
  exact ⟨k, k1, fun z => k2 (by rw [z]), k3⟩
theorem v_off {q : Nat} (h : zOp (vTd V) (vL V q 20) = 0) (n : Nat) : cNd V q n 0 = true := by
  refine (cNd_is n 0).mpr (fun j _ _ => ?_)
  unfold cLost
  rw [if_pos]
  unfold cAS
  rw [h, Int64.and_zero, Int64.zero_and, Int64.zero_and]
end AN
