/-! gap, needless -/
theorem gF_at (x : Int64) : ∀ (k y : Nat), (∃ r, y ≤ r ∧ r < y + k ∧ hY x (nI r) = true ∧ (∀ j, y ≤ j → j < r → hY x (nI j) = false) ∧ gF x k y = nI r) ∨ ((∀ j, y ≤ j → j < y + k → hY x (nI j) = false) ∧ gF x k y = (-1))
  | 0, y => Or.inr ⟨fun j h1 h2 => absurd h2 (by omega), rfl⟩
  | k + 1, y => by
    unfold gF
    by_cases c : hY x (nI y) = true
    · exact Or.inl ⟨y, Nat.le_refl _, by omega, c, fun j h1 h2 => absurd h1 (by omega), by rw [if_pos c]⟩
    · have c' : hY x (nI y) = false := by cases h : hY x (nI y) with | false => rfl | true => exact absurd h c
      rw [if_neg c]
      rcases gF_at x k (y + 1) with ⟨r, h1, h2, h3, h4, h5⟩ | ⟨h1, h2⟩
      · exact Or.inl ⟨r, by omega, by omega, h3, fun j j1 j2 => by
          by_cases e : j = y
          · subst e; exact c'
          · exact h4 j (by omega) j2, h5⟩
      · exact Or.inr ⟨fun j j1 j2 => by
          by_cases e : j = y
          · subst e; exact c'
          · exact h1 j (by omega) (by omega), h2⟩
theorem mGf_no {M : Nat → Nat → Int32} {nc np t g td fy : Nat} : ∀ (n : Nat) (fd : Int32), (∀ j, fy ≤ j → j < n → ¬ mWays M nc t j g td np = 0) → mGf M nc np t g td fy n fd = fd
  | 0, _, _ => rfl
  | n + 1, fd, h => by
    unfold mGf
    by_cases c : fy ≤ n
    · rw [if_pos c, if_neg (h n c (Nat.lt_succ_self n))]
      exact mGf_no n fd (fun j h1 h2 => h j h1 (by omega))
    · rw [if_neg c]
theorem mGf_at {M : Nat → Nat → Int32} {nc np t g td fy r : Nat} (hr : fy ≤ r) (h0 : mWays M nc t r g td np = 0) (hl : ∀ j, fy ≤ j → j < r → ¬ mWays M nc t j g td np = 0) : ∀ (n : Nat) (fd : Int32), r < n → mGf M nc np t g td fy n fd = nI r
  | 0, _, h => absurd h (Nat.not_lt_zero _)
  | n + 1, fd, h => by
    unfold mGf
    rw [if_pos (show fy ≤ n by omega)]
    by_cases e : n = r
    · subst e
      rw [if_pos h0]
      exact mGf_no n _ (fun j h1 h2 => hl j h1 h2)
    · exact mGf_at hr h0 hl n _ (by omega)
theorem wc_0 {p : Nat → Bool} : ∀ {n : Nat}, wc p n = 0 ↔ ∀ k, k < n → p k = false
  | 0 => ⟨fun _ k hk => absurd hk (Nat.not_lt_zero _), fun _ => rfl⟩
  | n + 1 => by
    unfold wc
    by_cases c : p n = true
    · rw [if_pos c]
      exact ⟨fun h => absurd h (by omega), fun h => by have := h n (Nat.lt_succ_self n); rw [c] at this; cases this⟩
    · have c' : p n = false := by cases h : p n with | false => rfl | true => exact absurd h c
      rw [if_neg c, wc_0 (n := n)]
      exact ⟨fun h k hk => by
        by_cases e : k = n
        · subst e; exact c'
        · exact h k (by omega), fun h k hk => h k (by omega)⟩
section IG
variable {V : zV} {nc K : Nat} {M : Nat → Nat → Int32}
theorem zYs_k {t y : Nat} (I : Inv V nc M K) (ht : t < vNt V) (hy : y < 64) : hY (zYs V t) (nI y) = (decide ((vT V t).1 ≤ y) && decide (y ≤ vTd V / 360)) := by
  obtain ⟨-, -, h1, -⟩ := I.2.1 t ht
  have h2 := I.1.2.2.1
  unfold zYs
  rw [hY_yB ((nI_leI (by omega) (by omega)).mpr (by omega)) (by omega) hy]
  congr 1
  exact decide_eq_decide.mpr (nI_leI (by omega) (by omega))
/-- one of the first n but the one left out lets the group read the year -/
theorem cYC_k (I : Inv V nc M K) {lf : Int32} {t g y : Nat} (ht : t < 20) (hy : y ≤ 55) (hg : g ≤ 3) : ∀ n, n ≤ vNp V → (hY (cYC V lf t g n) (nI y) = true ↔ ∃ k, k < n ∧ ¬ nI k = lf ∧ (mLets M k g && mCov M nc k t y (vTd V)) = true)
  | 0, _ => by
    rw [show cYC V lf t g 0 = 0 from rfl, hY_0 (by omega)]
    exact ⟨fun h => (by cases h), fun ⟨k, hk, _⟩ => absurd hk (Nat.not_lt_zero _)⟩
  | n + 1, h => by
    have ih := cYC_k I (lf := lf) ht hy hg n (by omega)
    have e1 := i_let I (q := n) (by omega) hg
    have e2 := i_PC I (q := n) (by omega) ht hy I.1.2.2.1
    unfold cYC
    have up : (∃ k, k < n ∧ ¬ nI k = lf ∧ (mLets M k g && mCov M nc k t y (vTd V)) = true) → ∃ k, k < n + 1 ∧ ¬ nI k = lf ∧ (mLets M k g && mCov M nc k t y (vTd V)) = true := fun ⟨k, a, b⟩ => ⟨k, by omega, b⟩
    have dn : ¬ (¬ nI n = lf ∧ (mLets M n g && mCov M nc n t y (vTd V)) = true) → (∃ k, k < n + 1 ∧ ¬ nI k = lf ∧ (mLets M k g && mCov M nc k t y (vTd V)) = true) → ∃ k, k < n ∧ ¬ nI k = lf ∧ (mLets M k g && mCov M nc k t y (vTd V)) = true := fun hn ⟨k, a, b⟩ => ⟨k, by
      by_cases e : k = n
      · subst e; exact absurd b hn
      · omega, b⟩
    by_cases c : nI n = lf
    · rw [if_pos c, ih]
      exact ⟨up, dn (fun z => z.1 c)⟩
    · rw [if_neg c]
      by_cases c2 : zlb (vP V n).2.2.1 g = true
      · rw [if_pos c2, hY_or _ _ (by omega), Bool.or_eq_true, ih, e2]
        constructor
        · rintro (z | z)
          · exact up z
          · exact ⟨n, Nat.lt_succ_self n, c, by rw [e1, c2, z]; rfl⟩
        · rintro ⟨k, a, b1, b2⟩
          by_cases e : k = n
          · subst e
            rw [Bool.and_eq_true] at b2
            exact Or.inr b2.2
          · exact Or.inl ⟨k, by omega, b1, b2⟩
      · rw [if_neg c2, ih]
        refine ⟨up, dn (fun z => c2 ?_)⟩
        have := z.2
        rw [Bool.and_eq_true, e1] at this
        exact this.1
theorem i_gap (I : Inv V nc M K) {t g : Nat} (ht : t < vNt V) (hg : g ≤ 3) : cGap V t g = mGf M nc (vNp V) t g (vTd V) (vT V t).1 (vTd V / 360 + 1) (-1) := by
  have h20 := I.1.2.2.2.1
  have htd := I.1.2.2.1
  obtain ⟨-, -, hfy, -⟩ := I.2.1 t ht
  have hbit : ∀ y, y ≤ 55 → (hY (zYs V t &&& (cYC V (-1) t g (vNp V) ^^^ (-1))) (nI y) = true ↔ (vT V t).1 ≤ y ∧ y ≤ vTd V / 360 ∧ mWays M nc t y g (vTd V) (vNp V) = 0) := fun y hy => by
    have h1 := cYC_k I (lf := -1) (t := t) (by omega) hy hg (vNp V) (Nat.le_refl _)
    rw [hY_and _ _ (by omega), hY_not _ (by omega), zYs_k I ht (by omega), mWays_wc, wc_0, Bool.and_eq_true, Bool.and_eq_true, decide_eq_true_iff, decide_eq_true_iff, and_assoc]
    refine and_congr_right (fun _ => and_congr_right (fun _ => ?_))
    constructor
    · intro z k hk
      cases h : (mLets M k g && mCov M nc k t y (vTd V)) with
      | false => rfl
      | true =>
        have := h1.mpr ⟨k, hk, oI_n k (by have := I.1.2.2.2.2; omega), h⟩
        rw [this] at z
        cases z
    · intro z
      cases h : hY (cYC V (-1) t g (vNp V)) (nI y) with
      | false => rfl
      | true =>
        obtain ⟨k, a, -, b⟩ := h1.mp h
        rw [z k a] at b
        cases b
  unfold cGap
  rcases gF_at (zYs V t &&& (cYC V (-1) t g (vNp V) ^^^ (-1))) (56 - (vT V t).1) (vT V t).1 with ⟨r, h1, h2, h3, h4, h5⟩ | ⟨h1, h2⟩
  · obtain ⟨a1, a2, a3⟩ := (hbit r (by omega)).mp h3
    rw [h5, mGf_at a1 a3 (fun j j1 j2 z => ?_) _ _ (by omega)]
    have := h4 j j1 j2
    rw [(hbit j (by omega)).mpr ⟨j1, by omega, z⟩] at this
    cases this
  · rw [h2, mGf_no _ _ (fun j j1 j2 z => ?_)]
    have := h1 j j1 (by omega)
    rw [(hbit j (by omega)).mpr ⟨j1, by omega, z⟩] at this
    cases this
/-! needless -/
theorem grp_all : ∀ G, G < 16 → ∀ O, O < 16 → (nI G &&& (nI O ^^^ (-1)) = 0 ↔ ∀ g, g < 4 → zlb G g = true → zlb O g = true) := by decide +kernel
theorem grp_or : ∀ G, G < 16 → ∀ O, O < 16 → (nI O ||| nI G = nI (O ||| G)) ∧ O ||| G < 16 := by decide +kernel
theorem mOth_is (I : Inv V nc M K) {q t y : Nat} : ∀ n, n ≤ vNp V → ∃ O, O < 16 ∧ mOth M nc q t y (vTd V) n = nI O ∧ ∀ g, zlb O g = true ↔ ∃ k, k < n ∧ k ≠ q ∧ mCov M nc k t y (vTd V) = true ∧ zlb (vP V k).2.2.1 g = true
  | 0, _ => ⟨0, by decide, rfl, fun g => ⟨fun h => (by unfold zlb at h; rw [Nat.zero_testBit] at h; cases h), fun ⟨k, hk, _⟩ => absurd hk (Nat.not_lt_zero _)⟩⟩
  | n + 1, h => by
    obtain ⟨O, h1, h2, h3⟩ := mOth_is I (q := q) (t := t) (y := y) n (by omega)
    obtain ⟨⟨-, -, hG, -⟩, -, -, hG5, -⟩ := I.2.2.1 n (by omega)
    unfold mOth
    rw [h2]
    by_cases c : n ≠ q ∧ mCov M nc n t y (vTd V) = true
    · rw [if_pos c, hG]
      obtain ⟨a1, a2⟩ := grp_or (vP V n).2.2.1 (by omega) O h1
      refine ⟨O ||| (vP V n).2.2.1, a2, a1, fun g => ?_⟩
      have e : zlb (O ||| (vP V n).2.2.1) g = (zlb O g || zlb (vP V n).2.2.1 g) := Nat.testBit_or _ _ _
      rw [e, Bool.or_eq_true, h3 g]
      constructor
      · rintro (⟨k, b1, b2⟩ | z)
        · exact ⟨k, by omega, b2⟩
        · exact ⟨n, Nat.lt_succ_self n, c.1, c.2, z⟩
      · rintro ⟨k, b1, b2, b3, b4⟩
        by_cases e : k = n
        · subst e; exact Or.inr b4
        · exact Or.inl ⟨k, by omega, b2, b3, b4⟩
    · rw [if_neg c]
      refine ⟨O, h1, ?_, fun g => ?_⟩
      · exact (grp_or 0 (by decide) O h1).1.trans (by rw [Nat.or_zero])
      · rw [h3 g]
        exact ⟨fun ⟨k, b1, b2⟩ => ⟨k, by omega, b2⟩, fun ⟨k, b1, b2, b3, b4⟩ => ⟨k, by
          by_cases e : k = n
          · subst e; exact absurd ⟨b2, b3⟩ c
          · omega, b2, b3, b4⟩⟩
theorem cLo_is {q t : Nat} : ∀ k g, (cLo V q t k g = true ↔ ∃ j, g ≤ j ∧ j < g + k ∧ zlb (vP V q).2.2.1 j = true ∧ ¬ cAS V q t &&& (cYC V (nI q) t j (vNp V) ^^^ (-1)) = 0)
  | 0, g => ⟨fun h => (by cases h), fun ⟨j, h1, h2, _⟩ => absurd h1 (by omega)⟩
  | k + 1, g => by
    unfold cLo
    by_cases c : zlb (vP V q).2.2.1 g = true ∧ ¬ cAS V q t &&& (cYC V (nI q) t g (vNp V) ^^^ (-1)) = 0
    · rw [if_pos c]
      exact ⟨fun _ => ⟨g, Nat.le_refl _, by omega, c⟩, fun _ => rfl⟩
    · rw [if_neg c, cLo_is k (g + 1)]
      exact ⟨fun ⟨j, h1, h2, h3⟩ => ⟨j, by omega, by omega, h3⟩, fun ⟨j, h1, h2, h3⟩ => ⟨j, by
        by_cases e : j = g
        · subst e; exact absurd h3 c
        · omega, by omega, h3⟩⟩
/-- what the package alone could show, a year -/
theorem cAS_k (I : Inv V nc M K) {q t y : Nat} (hq : q < vNp V) (ht : t < vNt V) (hy : y < 64) : hY (cAS V q t) (nI y) = true ↔ ((vT V t).1 ≤ y ∧ y ≤ vTd V / 360) ∧ mHas M nc q t y (vTd V) (vTd V) = true ∧ mKept M nc q t y (vTd V) = false := by
  have h20 := I.1.2.2.2.1
  have htd := I.1.2.2.1
  unfold cAS
  rw [hY_and _ _ hy, zYs_k I ht hy, Bool.and_eq_true, Bool.and_eq_true, decide_eq_true_iff, decide_eq_true_iff]
  constructor
  · rintro ⟨z, b1, b2⟩
    rw [hY_and _ _ hy, hY_not _ hy, i_op I hq (by omega) (by omega) htd, i_ke I hq (by omega) (by omega) htd, Bool.and_eq_true] at z
    exact ⟨⟨b1, b2⟩, z.1, by have := z.2; cases h : mKept M nc q t y (vTd V) with | false => rfl | true => rw [h] at this; cases this⟩
  · rintro ⟨⟨b1, b2⟩, z1, z2⟩
    refine ⟨?_, b1, b2⟩
    rw [hY_and _ _ hy, hY_not _ hy, i_op I hq (by omega) (by omega) htd, i_ke I hq (by omega) (by omega) htd, z1, z2]
    rfl
theorem i_lost (I : Inv V nc M K) {q t : Nat} (hq : q < vNp V) (ht : t < vNt V) : cLost V q t = false ↔ ∀ y, (vT V t).1 ≤ y → y ≤ vTd V / 360 → mNs M nc (vNp V) q t y (vTd V) = true := by
  have h20 := I.1.2.2.2.1
  have hn := I.1.2.2.2.2
  have htd := I.1.2.2.1
  obtain ⟨⟨-, -, hG, -⟩, -, -, hG5, -⟩ := I.2.2.1 q hq
  -- a year: no group loses it
  have year : ∀ y, y ≤ 55 → (decide (M 4 q &&& (mOth M nc q t y (vTd V) (vNp V) ^^^ (-1)) = 0) = true ↔ ∀ g, g < 4 → zlb (vP V q).2.2.1 g = true → hY (cYC V (nI q) t g (vNp V)) (nI y) = true) := fun y hy => by
    obtain ⟨O, h1, h2, h3⟩ := mOth_is I (q := q) (t := t) (y := y) (vNp V) (Nat.le_refl _)
    rw [h2, hG, decide_eq_true_iff, grp_all _ (by omega) O h1]
    have e : ∀ g, g < 4 → (zlb O g = true ↔ hY (cYC V (nI q) t g (vNp V)) (nI y) = true) := fun g hg => by
      rw [h3 g, cYC_k I (lf := nI q) (by omega) hy (by omega) (vNp V) (Nat.le_refl _)]
      constructor
      · rintro ⟨k, b1, b2, b3, b4⟩
        exact ⟨k, b1, fun z => b2 ((nI_eq (by omega) (by omega)).mp z), by rw [i_let I b1 (by omega), b4, b3]; rfl⟩
      · rintro ⟨k, b1, b2, b3⟩
        rw [i_let I b1 (by omega), Bool.and_eq_true] at b3
        exact ⟨k, b1, fun z => b2 (by rw [z]), b3.2, b3.1⟩
    exact ⟨fun h g hg hz => (e g hg).mp (h g hg hz), fun h g hg hz => (e g hg).mpr (h g hg hz)⟩
  -- a group: it loses no year
  have grp : ∀ g, (cAS V q t &&& (cYC V (nI q) t g (vNp V) ^^^ (-1)) = 0 ↔ ∀ y, y < 64 → hY (cAS V q t) (nI y) = true → hY (cYC V (nI q) t g (vNp V)) (nI y) = true) := fun g => by
    constructor
    · intro h y hy ha
      have := congrArg (fun x => hY x (nI y)) h
      have this : hY (cAS V q t &&& (cYC V (nI q) t g (vNp V) ^^^ (-1))) (nI y) = hY 0 (nI y) := this
      rw [hY_and _ _ hy, hY_not _ hy, ha, hY_0 hy, Bool.true_and] at this
      cases z : hY (cYC V (nI q) t g (vNp V)) (nI y) with
      | true => rfl
      | false => rw [z] at this; cases this
    · intro h
      apply hY_ext
      intro y hy
      rw [hY_and _ _ hy, hY_not _ hy, hY_0 hy]
      cases z : hY (cAS V q t) (nI y) with
      | false => rfl
      | true => rw [h y hy z]; rfl
  have main : cLost V q t = false ↔ ∀ g, g < 4 → zlb (vP V q).2.2.1 g = true → cAS V q t &&& (cYC V (nI q) t g (vNp V) ^^^ (-1)) = 0 := by
    unfold cLost
    by_cases c : cAS V q t = 0
    · rw [if_pos c]
      exact ⟨fun _ g hg hz => by rw [c]; exact Int64.zero_and, fun _ => rfl⟩
    · rw [if_neg c]
      constructor
      · intro h g hg hz
        apply Classical.byContradiction
        intro y
        have := (cLo_is (V := V) (q := q) (t := t) 4 0).mpr ⟨g, Nat.zero_le _, by omega, hz, y⟩
        rw [this] at h
        cases h
      · intro h
        cases z : cLo V q t 4 0 with
        | false => rfl
        | true =>
          obtain ⟨j, b1, b2, b3, b4⟩ := (cLo_is 4 0).mp z
          exact absurd (h j (by omega) b3) b4
  rw [main]
  constructor
  · intro h y y1 y2
    unfold mNs
    by_cases c : mHas M nc q t y (vTd V) (vTd V) = true ∧ mKept M nc q t y (vTd V) = false
    · rw [if_pos c]
      refine (year y (by omega)).mpr (fun g hg hz => ?_)
      exact (grp g).mp (h g hg hz) y (by omega) ((cAS_k I hq ht (by omega)).mpr ⟨⟨y1, y2⟩, c⟩)
    · rw [if_neg c]
  · intro h g hg hz
    refine (grp g).mpr (fun y hy ha => ?_)
    obtain ⟨⟨y1, y2⟩, c⟩ := (cAS_k I hq ht hy).mp ha
    have := h y y1 y2
    unfold mNs at this
    rw [if_pos c] at this
    exact (year y (by omega)).mp this g hg hz
theorem mNy_is {M : Nat → Nat → Int32} {nc np q t td : Nat} : ∀ k y b, (mNy M nc np q t td k y b = true ↔ b = true ∧ ∀ j, y ≤ j → j < y + k → mNs M nc np q t j td = true)
  | 0, y, b => ⟨fun h => ⟨h, fun j h1 h2 => absurd h1 (by omega)⟩, fun h => h.1⟩
  | k + 1, y, b => by
    unfold mNy
    by_cases c : b = true
    · rw [if_pos c, mNy_is k (y + 1)]
      refine ⟨fun ⟨h1, h2⟩ => ⟨c, fun j j1 j2 => ?_⟩, fun ⟨_, h⟩ => ⟨h y (Nat.le_refl _) (by omega), fun j j1 j2 => h j (by omega) (by omega)⟩⟩
      by_cases e : j = y
      · subst e
        by_cases c9 : k = 0
        · exact h1
        · exact h1
      · exact h2 j (by omega) (by omega)
    · rw [if_neg c]
      exact ⟨fun h => absurd h c, fun h => absurd h.1 c⟩
theorem mNt_is {M : Nat → Nat → Int32} {nc np q td : Nat} {fy : Nat → Nat} : ∀ k t b, (mNt M nc np q td fy k t b = true ↔ b = true ∧ ∀ j, t ≤ j → j < t + k → ∀ y, fy j ≤ y → y < fy j + (td / 360 + 1 - fy j) → mNs M nc np q j y td = true)
  | 0, t, b => ⟨fun h => ⟨h, fun j h1 h2 => absurd h1 (by omega)⟩, fun h => h.1⟩
  | k + 1, t, b => by
    unfold mNt
    by_cases c : b = true
    · rw [if_pos c, mNt_is k (t + 1), mNy_is]
      refine ⟨fun ⟨h1, h2⟩ => ⟨c, fun j j1 j2 => ?_⟩, fun ⟨_, h⟩ => ⟨⟨c, h t (Nat.le_refl _) (by omega)⟩, fun j j1 j2 => h j (by omega) (by omega)⟩⟩
      by_cases e : j = t
      · subst e; exact h1.2
      · exact h2 j (by omega) (by omega)
    · rw [if_neg c]
      exact ⟨fun h => absurd h c, fun h => absurd h.1 c⟩
theorem cNd_is {q : Nat} : ∀ k t, (cNd V q k t = true ↔ ∀ j, t ≤ j → j < t + k → cLost V q j = false)
  | 0, t => ⟨fun _ j h1 h2 => absurd h1 (by omega), fun _ => rfl⟩
  | k + 1, t => by
    unfold cNd
    by_cases c : cLost V q t = true
    · rw [if_pos c]
      exact ⟨fun h => (by cases h), fun h => by have := h t (Nat.le_refl _) (by omega); rw [c] at this; cases this⟩
    · have c' : cLost V q t = false := by cases h : cLost V q t with | false => rfl | true => exact absurd h c
      rw [if_neg c, cNd_is k (t + 1)]
      exact ⟨fun h j j1 j2 => by
        by_cases e : j = t
        · subst e; exact c'
        · exact h j (by omega) (by omega), fun h j j1 j2 => h j (by omega) (by omega)⟩
theorem i_need (I : Inv V nc M K) {q : Nat} (hq : q < vNp V) : cNd V q (vNt V) 0 = mNt M nc (vNp V) q (vTd V) (fun t => (vT V t).1) (vNt V) 0 true := by
  have e : cNd V q (vNt V) 0 = true ↔ mNt M nc (vNp V) q (vTd V) (fun t => (vT V t).1) (vNt V) 0 true = true := by
    rw [cNd_is, mNt_is]
    constructor
    · intro h
      exact ⟨rfl, fun j j1 j2 y y1 y2 => (i_lost I hq (by omega)).mp (h j j1 j2) y y1 (by omega)⟩
    · rintro ⟨-, h⟩ j j1 j2
      exact (i_lost I hq (by omega)).mpr (fun y y1 y2 => h j j1 j2 y y1 (by omega))
  cases h1 : cNd V q (vNt V) 0 <;> cases h2 : mNt M nc (vNp V) q (vTd V) (fun t => (vT V t).1) (vNt V) 0 true
  · rfl
  · rw [h1, h2] at e; exact absurd (e.mpr rfl) (by decide)
  · rw [h1, h2] at e; exact absurd (e.mp rfl) (by decide)
  · rfl
end IG
