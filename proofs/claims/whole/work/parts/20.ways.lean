/-! how many ways, and which comes where -/
def wm (p : Nat → Bool) : Nat → Nat
  | 0 => 0
  | k + 1 => if p k = true then wm p k + 2 ^ k else wm p k
def wc (p : Nat → Bool) : Nat → Nat
  | 0 => 0
  | k + 1 => if p k = true then wc p k + 1 else wc p k
theorem wm_lt (p : Nat → Bool) : ∀ n, wm p n < 2 ^ n
  | 0 => Nat.zero_lt_one
  | n + 1 => by
    have h := wm_lt p n
    have e : 2 ^ (n + 1) = 2 ^ n + 2 ^ n := by rw [Nat.pow_succ]; omega
    unfold wm
    split <;> omega
theorem wm_lt10 (p : Nat → Bool) {n : Nat} (hn : n ≤ 10) : wm p n < 1024 := Nat.lt_of_lt_of_le (wm_lt p n) (show 2 ^ n ≤ 2 ^ 10 from Nat.pow_le_pow_right (by decide) hn)
def pc10 (m : Nat) : Nat := m % 2 + m / 2 % 2 + m / 4 % 2 + m / 8 % 2 + m / 16 % 2 + m / 32 % 2 + m / 64 % 2 + m / 128 % 2 + m / 256 % 2 + m / 512 % 2
theorem or_step : ∀ k, k < 10 → ∀ m, m < 2 ^ k → nI m ||| (nI 1 <<< (nI k &&& 31)) = nI (m + 2 ^ k) := by decide +kernel
theorem pc_step : ∀ k, k < 10 → ∀ m, m < 2 ^ k → pc10 (m + 2 ^ k) = pc10 m + 1 := by decide +kernel
theorem sw_pc : ∀ m, m < 1024 → swI (nI m) = nI (pc10 m) := by decide +kernel
theorem am_step : ∀ k, k < 10 → ∀ m, m < 2 ^ k → ∀ j, j < 10 → aM (nI (m + 2 ^ k)) j = (aM (nI m) j || decide (j = k)) := by decide +kernel
theorem am_0 : ∀ j, j < 10 → aM (nI 0) j = false := by decide +kernel
theorem wc_cong {p p' : Nat → Bool} : ∀ n, (∀ k, k < n → p k = p' k) → wc p n = wc p' n
  | 0, _ => rfl
  | n + 1, h => by
    unfold wc
    rw [h n (Nat.lt_succ_self n), wc_cong n (fun k hk => h k (Nat.lt_succ_of_lt hk))]
theorem pc_wm (p : Nat → Bool) : ∀ n, n ≤ 10 → pc10 (wm p n) = wc p n
  | 0, _ => by show pc10 0 = 0; decide
  | n + 1, h => by
    have ih := pc_wm p n (by omega)
    unfold wm wc
    by_cases c : p n = true
    · rw [if_pos c, if_pos c, pc_step n (by omega) _ (wm_lt p n), ih]
    · rw [if_neg c, if_neg c, ih]
theorem am_wm (p : Nat → Bool) {j : Nat} (hj : j < 10) : ∀ n, n ≤ 10 → aM (nI (wm p n)) j = (decide (j < n) && p j)
  | 0, _ => by rw [show wm p 0 = 0 from rfl, am_0 j hj, decide_eq_false (Nat.not_lt_zero j), Bool.false_and]
  | n + 1, h => by
    have ih := am_wm p hj n (by omega)
    unfold wm
    by_cases c : p n = true
    · rw [if_pos c, am_step n (by omega) _ (wm_lt p n) j hj, ih]
      by_cases e : j = n
      · subst e; rw [decide_eq_true (rfl : j = j), Bool.or_true, decide_eq_true (Nat.lt_succ_self j), c]; rfl
      · rw [decide_eq_false e, Bool.or_false, decide_eq_decide.mpr (show j < n ↔ j < n + 1 by omega)]
    · rw [if_neg c, ih]
      by_cases e : j = n
      · subst e
        have : p j = false := by cases q : p j with | false => rfl | true => exact absurd q c
        rw [this, Bool.and_false, Bool.and_false]
      · rw [decide_eq_decide.mpr (show j < n ↔ j < n + 1 by omega)]
theorem wTo_wm (V : zV) (t y g d : Nat) : ∀ n, n ≤ 10 → wTo V t y g d n = nI (wm (fun k => cWy V k t y g d) n)
  | 0, _ => rfl
  | n + 1, h => by
    have ih := wTo_wm V t y g d n (by omega)
    unfold wTo wm
    by_cases c : cWy V n t y g d = true
    · rw [if_pos c, if_pos c, ih, or_step n (by omega) _ (wm_lt _ n)]
    · rw [if_neg c, if_neg c, ih]
theorem mWays_wc (M : Nat → Nat → Int32) (nc t y g d : Nat) : ∀ n, mWays M nc t y g d n = wc (fun k => mLets M k g && mCov M nc k t y d) n
  | 0 => rfl
  | n + 1 => by unfold mWays wc; rw [mWays_wc M nc t y g d n]
/-! ranks by a key that tells all apart -/
def rk (p : Nat → Bool) (key : Nat → Nat) (v : Nat) : Nat → Nat
  | 0 => 0
  | k + 1 => if p k = true ∧ key k < v then rk p key v k + 1 else rk p key v k
section RK
variable {p : Nat → Bool} {key : Nat → Nat}
theorem rk_0 : ∀ n, rk p key 0 n = 0
  | 0 => rfl
  | n + 1 => by unfold rk; rw [if_neg (by omega), rk_0 n]
theorem rk_le (v : Nat) : ∀ n, rk p key v n ≤ wc p n
  | 0 => Nat.le_refl _
  | n + 1 => by
    have := rk_le v n
    unfold rk wc
    by_cases c : p n = true
    · rw [if_pos c]; split <;> omega
    · rw [if_neg c, if_neg (fun z => c z.1)]; exact this
theorem rk_all {v : Nat} : ∀ n, (∀ k, k < n → key k < v) → rk p key v n = wc p n
  | 0, _ => rfl
  | n + 1, h => by
    have := rk_all n (fun k hk => h k (Nat.lt_succ_of_lt hk))
    unfold rk wc
    rw [this]
    have := h n (Nat.lt_succ_self n)
    by_cases c : p n = true
    · rw [if_pos c, if_pos ⟨c, this⟩]
    · rw [if_neg c, if_neg (fun z => c z.1)]
theorem rk_mono {v v' : Nat} (hv : v ≤ v') : ∀ n, rk p key v n ≤ rk p key v' n
  | 0 => Nat.le_refl _
  | n + 1 => by
    have := rk_mono hv n
    unfold rk
    by_cases c : p n = true ∧ key n < v
    · rw [if_pos c, if_pos ⟨c.1, by omega⟩]; omega
    · rw [if_neg c]; split <;> omega
theorem rk_step {v : Nat} : ∀ n, (∀ a b, a < n → b < n → key a = key b → a = b) → (∃ q, q < n ∧ p q = true ∧ key q = v ∧ rk p key (v + 1) n = rk p key v n + 1) ∨ (rk p key (v + 1) n = rk p key v n ∧ ∀ q, q < n → p q = true → key q ≠ v)
  | 0, _ => Or.inr ⟨rfl, fun q hq => absurd hq (Nat.not_lt_zero _)⟩
  | n + 1, h => by
    have ih := rk_step (v := v) n (fun a b ha hb => h a b (by omega) (by omega))
    unfold rk
    by_cases c : p n = true
    · by_cases e : key n = v
      · rcases ih with ⟨q, h1, h2, h3, h4⟩ | ⟨h1, h2⟩
        · exact absurd (h q n (by omega) (by omega) (h3.trans e.symm)) (by omega)
        · refine Or.inl ⟨n, Nat.lt_succ_self n, c, e, ?_⟩
          rw [if_pos ⟨c, by omega⟩, if_neg (by omega), h1]
      · by_cases e2 : key n < v
        · rw [if_pos ⟨c, by omega⟩, if_pos ⟨c, e2⟩]
          rcases ih with ⟨q, h1, h2, h3, h4⟩ | ⟨h1, h2⟩
          · exact Or.inl ⟨q, by omega, h2, h3, by omega⟩
          · exact Or.inr ⟨by omega, fun q hq hp => by
              by_cases z : q = n
              · subst z; exact e
              · exact h2 q (by omega) hp⟩
        · rw [if_neg (by omega), if_neg (by omega)]
          rcases ih with ⟨q, h1, h2, h3, h4⟩ | ⟨h1, h2⟩
          · exact Or.inl ⟨q, by omega, h2, h3, h4⟩
          · exact Or.inr ⟨h1, fun q hq hp => by
              by_cases z : q = n
              · subst z; exact e
              · exact h2 q (by omega) hp⟩
    · rw [if_neg (fun z => c z.1), if_neg (fun z => c z.1)]
      rcases ih with ⟨q, h1, h2, h3, h4⟩ | ⟨h1, h2⟩
      · exact Or.inl ⟨q, by omega, h2, h3, h4⟩
      · exact Or.inr ⟨h1, fun q hq hp => by
          by_cases z : q = n
          · subst z; exact absurd hp c
          · exact h2 q (by omega) hp⟩
theorem rk_own {n : Nat} (h : ∀ a b, a < n → b < n → key a = key b → a = b) {q : Nat} (hq : q < n) (hp : p q = true) : rk p key (key q + 1) n = rk p key (key q) n + 1 := by
  rcases rk_step (p := p) (v := key q) n h with ⟨q2, h1, h2, h3, h4⟩ | ⟨h1, h2⟩
  · exact h4
  · exact absurd rfl (h2 q hq hp)
theorem rk_uniq {n : Nat} (h : ∀ a b, a < n → b < n → key a = key b → a = b) {q r : Nat} (hq : q < n) (hp : p q = true) (hr : r < n) (hpr : p r = true) (e : rk p key (key q) n = rk p key (key r) n) : q = r := by
  rcases Nat.lt_trichotomy (key q) (key r) with z | z | z
  · have h1 := rk_own h hq hp
    have h2 := rk_mono (p := p) (key := key) (show key q + 1 ≤ key r by omega) n
    omega
  · exact h q r hq hr z
  · have h1 := rk_own h hr hpr
    have h2 := rk_mono (p := p) (key := key) (show key r + 1 ≤ key q by omega) n
    omega
theorem rk_lt {n : Nat} (h : ∀ a b, a < n → b < n → key a = key b → a = b) {q : Nat} (hq : q < n) (hp : p q = true) : rk p key (key q) n < wc p n := by
  have h1 := rk_own h hq hp
  have h2 := rk_le (p := p) (key := key) (key q + 1) n
  omega
theorem rk_ex {n : Nat} (h : ∀ a b, a < n → b < n → key a = key b → a = b) {pl : Nat} : ∀ v, pl < rk p key v n → ∃ q, q < n ∧ p q = true ∧ rk p key (key q) n = pl
  | 0, hv => by rw [rk_0] at hv; exact absurd hv (Nat.not_lt_zero _)
  | v + 1, hv => by
    by_cases c : pl < rk p key v n
    · exact rk_ex h v c
    · rcases rk_step (p := p) (v := v) n h with ⟨q, h1, h2, h3, h4⟩ | ⟨h1, h2⟩
      · exact ⟨q, h1, h2, by rw [h3]; omega⟩
      · omega
end RK
section IW
variable {V : zV} {nc K : Nat} {M : Nat → Nat → Int32}
theorem i_ways (I : Inv V nc M K) {t y g d : Nat} (ht : t < 20) (hy : y ≤ 55) (hg : g ≤ 3) (hd : d ≤ 20000) : swI (wTo V t y g d (vNp V)) = nI (mWays M nc t y g d (vNp V)) := by
  have hn : vNp V ≤ 10 := I.1.2.2.2.2
  rw [wTo_wm V t y g d _ hn, sw_pc _ (wm_lt10 _ hn), pc_wm _ _ hn, mWays_wc]
  exact congrArg nI (wc_cong _ (fun k hk => i_way I hk ht hy hg hd))
theorem i_am (I : Inv V nc M K) {t y g d k : Nat} (ht : t < 20) (hy : y ≤ 55) (hg : g ≤ 3) (hd : d ≤ 20000) (hk : k < vNp V) : aM (wTo V t y g d (vNp V)) k = (mLets M k g && mCov M nc k t y d) := by
  have hn : vNp V ≤ 10 := I.1.2.2.2.2
  rw [wTo_wm V t y g d _ hn, am_wm _ (by omega) _ hn, decide_eq_true hk, Bool.true_and]
  exact i_way I hk ht hy hg hd
theorem i_brk (I : Inv V nc M K) {q t : Nat} (hq : q < vNp V) (ht : t < 20) : mBrk M q t = decide (2 ≤ vB V q t) := by
  obtain ⟨h1, h2⟩ := (I.2.2.2.1 q t (by have := I.1.2.2.2.2; omega) ht).1 hq
  have hK := I.1.2.1
  unfold mBrk
  rw [h1]
  have := @nI_leI (vB V q t) 1 (by omega) (by omega)
  by_cases c : 2 ≤ vB V q t
  · rw [decide_eq_true c, decide_eq_true (show ¬ nI (vB V q t) ≤ nI 1 from fun z => by have := this.mp z; omega)]
  · rw [decide_eq_false c, decide_eq_false (fun z => z (this.mpr (by omega)))]
def wkey (V : zV) (t q : Nat) : Nat := (((if 2 ≤ vB V q t then 1001 else 0) + (vP V q).1) * 3 + (vP V q).2.1) * 10 + q
theorem i_ahead (I : Inv V nc M K) {q q2 t : Nat} (hq : q < vNp V) (hq2 : q2 < vNp V) (ht : t < 20) : (cAhead V q q2 t = decide (wkey V t q < wkey V t q2)) ∧ mAhead M q q2 t = decide (wkey V t q < wkey V t q2) := by
  have hn : vNp V ≤ 10 := I.1.2.2.2.2
  obtain ⟨⟨c1, v1, -, -⟩, l1, l2, -, -⟩ := I.2.2.1 q hq
  obtain ⟨⟨c2, v2, -, -⟩, l3, l4, -, -⟩ := I.2.2.1 q2 hq2
  have eC := @nI_eq (vP V q).1 (vP V q2).1 (by omega) (by omega)
  have eV := @nI_eq (vP V q).2.1 (vP V q2).2.1 (by omega) (by omega)
  have lC := @nI_ltI (vP V q).1 (vP V q2).1 (by omega) (by omega)
  have lV := @nI_ltI (vP V q).2.1 (vP V q2).2.1 (by omega) (by omega)
  unfold cAhead mAhead wkey
  rw [i_brk I hq ht, i_brk I hq2 ht, c1, c2, v1, v2]
  generalize (vP V q).1 = a1 at *
  generalize (vP V q2).1 = a2 at *
  generalize (vP V q).2.1 = b1 at *
  generalize (vP V q2).2.1 = b2 at *
  generalize vB V q t = x1
  generalize vB V q2 t = x2
  have main : (if decide (2 ≤ x1) = decide (2 ≤ x2) then (if a1 = a2 then (if b1 = b2 then decide (q < q2) else decide (b1 < b2)) else decide (a1 < a2)) else !decide (2 ≤ x1)) = decide ((((if 2 ≤ x1 then 1001 else 0) + a1) * 3 + b1) * 10 + q < (((if 2 ≤ x2 then 1001 else 0) + a2) * 3 + b2) * 10 + q2) := by
    by_cases z1 : 2 ≤ x1 <;> by_cases z2 : 2 ≤ x2 <;> simp only [z1, z2, if_true, if_false, decide_true, decide_false, Bool.not_true, Bool.not_false, reduceCtorEq]
    · by_cases e1 : a1 = a2
      · by_cases e2 : b1 = b2
        · rw [if_pos e1, if_pos e2]; exact decide_eq_decide.mpr (by omega)
        · rw [if_pos e1, if_neg e2]; exact decide_eq_decide.mpr (by omega)
      · rw [if_neg e1]; exact decide_eq_decide.mpr (by omega)
    · exact (decide_eq_false (by omega)).symm
    · exact (decide_eq_true (by omega)).symm
    · by_cases e1 : a1 = a2
      · by_cases e2 : b1 = b2
        · rw [if_pos e1, if_pos e2]; exact decide_eq_decide.mpr (by omega)
        · rw [if_pos e1, if_neg e2]; exact decide_eq_decide.mpr (by omega)
      · rw [if_neg e1]; exact decide_eq_decide.mpr (by omega)
  refine ⟨main, ?_⟩
  rw [← main]
  by_cases z : decide (2 ≤ x1) = decide (2 ≤ x2)
  · rw [if_pos z, if_pos z]
    by_cases e1 : a1 = a2
    · rw [if_pos e1, if_pos (eC.mpr e1)]
      by_cases e2 : b1 = b2
      · rw [if_pos e2, decide_eq_true (eV.mpr e2), decide_eq_false (fun y => by have := lV.mp y; omega), Bool.false_or, Bool.true_and]
      · rw [if_neg e2, decide_eq_false (fun y => e2 (eV.mp y)), Bool.false_and, Bool.or_false]
        exact decide_eq_decide.mpr lV
    · rw [if_neg e1, if_neg (fun y => e1 (eC.mp y))]
      exact decide_eq_decide.mpr lC
  · rw [if_neg z, if_neg z]
    cases h1 : decide (2 ≤ x1) <;> cases h2 : decide (2 ≤ x2) <;> first | rfl | exact absurd (by rw [h1, h2]) z
theorem wkey_inj (I : Inv V nc M K) (t : Nat) : ∀ a b, a < vNp V → b < vNp V → wkey V t a = wkey V t b → a = b := by
  intro a b ha hb h
  have hn : vNp V ≤ 10 := I.1.2.2.2.2
  unfold wkey at h
  omega
theorem i_pla (I : Inv V nc M K) {q t y g d : Nat} (hq : q < vNp V) (ht : t < 20) (hy : y ≤ 55) (hg : g ≤ 3) (hd : d ≤ 20000) : ∀ n, n ≤ vNp V → cPla V (wTo V t y g d (vNp V)) q t n = rk (fun k => mLets M k g && mCov M nc k t y d) (wkey V t) (wkey V t q) n ∧ mRk M nc q t y g d n = rk (fun k => mLets M k g && mCov M nc k t y d) (wkey V t) (wkey V t q) n
  | 0, _ => ⟨rfl, rfl⟩
  | n + 1, h => by
    obtain ⟨i1, i2⟩ := i_pla I hq ht hy hg hd n (by omega)
    obtain ⟨a1, a2⟩ := i_ahead I (show n < vNp V by omega) hq ht
    unfold cPla mRk rk
    rw [i1, i2, a1, a2, i_am I ht hy hg hd (by omega)]
    have hk : wkey V t n < wkey V t q → n ≠ q := fun z e => by subst e; omega
    constructor
    · by_cases c : (mLets M n g && mCov M nc n t y d) = true ∧ wkey V t n < wkey V t q
      · rw [if_pos c, if_pos ⟨hk c.2, c.1, decide_eq_true c.2⟩]
      · rw [if_neg c, if_neg (fun z => c ⟨z.2.1, of_decide_eq_true z.2.2⟩)]
    · by_cases c : (mLets M n g && mCov M nc n t y d) = true ∧ wkey V t n < wkey V t q
      · have c1 := c.1
        rw [Bool.and_eq_true] at c1
        rw [if_pos c, if_pos ⟨hk c.2, decide_eq_true c.2, c1.1, c1.2⟩]
      · rw [if_neg c, if_neg (fun z => c ⟨by rw [Bool.and_eq_true]; exact z.2.2, of_decide_eq_true z.2.1⟩)]
theorem mFd_is {M : Nat → Nat → Int32} {nc np pl t y g d q : Nat} (h1 : mRk M nc q t y g d np = pl ∧ mLets M q g = true ∧ mCov M nc q t y d = true) : ∀ n, q < n → (∀ k, k < n → (mRk M nc k t y g d np = pl ∧ mLets M k g = true ∧ mCov M nc k t y d = true) → k = q) → mFd M nc np pl t y g d n = nI q
  | 0, h, _ => absurd h (Nat.not_lt_zero _)
  | n + 1, h, hu => by
    unfold mFd
    by_cases e : n = q
    · subst e; rw [if_pos h1]
    · rw [if_neg (fun z => e (hu n (Nat.lt_succ_self n) z))]
      exact mFd_is h1 n (by omega) (fun k hk => hu k (Nat.lt_succ_of_lt hk))
/-- a place that there is: the package at it, by both -/
theorem i_at (I : Inv V nc M K) {pl t y g d : Nat} (ht : t < 20) (hy : y ≤ 55) (hg : g ≤ 3) (hd : d ≤ 20000) (hpl : pl < mWays M nc t y g d (vNp V)) : ∃ q, q < vNp V ∧ aM (wTo V t y g d (vNp V)) q = true ∧ nI (cPla V (wTo V t y g d (vNp V)) q t (vNp V)) = nI pl ∧ (∀ k, k < q → aM (wTo V t y g d (vNp V)) k = true → ¬ nI (cPla V (wTo V t y g d (vNp V)) k t (vNp V)) = nI pl) ∧ mFd M nc (vNp V) pl t y g d (vNp V) = nI q := by
  have hn : vNp V ≤ 10 := I.1.2.2.2.2
  have hi := wkey_inj I t
  have hv : ∀ k, k < vNp V → wkey V t k < 100000 := fun k hk => by
    obtain ⟨-, l1, l2, -⟩ := I.2.2.1 k hk
    unfold wkey
    split <;> omega
  rw [mWays_wc, ← rk_all (v := 100000) (key := wkey V t) _ hv] at hpl
  obtain ⟨q, h1, h2, h3⟩ := rk_ex hi _ hpl
  have hwc : ∀ k, k < vNp V → aM (wTo V t y g d (vNp V)) k = true → rk (fun k => mLets M k g && mCov M nc k t y d) (wkey V t) (wkey V t k) (vNp V) < 2 ^ 31 := fun k hk hka => by
    rw [i_am I ht hy hg hd hk] at hka
    have z1 := rk_lt hi hk (p := fun k => mLets M k g && mCov M nc k t y d) hka
    have z2 : ∀ (p : Nat → Bool) n, wc p n ≤ n := fun p n => by
      induction n with
      | zero => exact Nat.le_refl _
      | succ n ih => unfold wc; split <;> omega
    have := z2 (fun k => mLets M k g && mCov M nc k t y d) (vNp V)
    omega
  have hu : ∀ k, k < vNp V → (mLets M k g && mCov M nc k t y d) = true → rk (fun k => mLets M k g && mCov M nc k t y d) (wkey V t) (wkey V t k) (vNp V) = pl → k = q := fun k hk hp e => rk_uniq hi hk hp h1 h2 (e.trans h3.symm)
  refine ⟨q, h1, (i_am I ht hy hg hd h1).trans h2, by rw [(i_pla I h1 ht hy hg hd _ (Nat.le_refl _)).1, h3], fun k hk hka z => ?_, mFd_is ⟨(i_pla I h1 ht hy hg hd _ (Nat.le_refl _)).2.trans h3, ?_⟩ _ h1 (fun k hk z => hu k hk (by rw [Bool.and_eq_true]; exact z.2) ((i_pla I hk ht hy hg hd _ (Nat.le_refl _)).2.symm.trans z.1))⟩
  · have hk2 : k < vNp V := by omega
    rw [(i_pla I hk2 ht hy hg hd _ (Nat.le_refl _)).1] at z
    have z3 := hwc k hk2 hka
    have hplb : pl < 2 ^ 31 := by
      have := hwc q h1 ((i_am I ht hy hg hd h1).trans h2)
      omega
    have z4 := (nI_eq z3 hplb).mp z
    rw [i_am I ht hy hg hd hk2] at hka
    have := hu k hk2 hka z4
    omega
  · have h2 : (mLets M q g && mCov M nc q t y d) = true := h2
    rw [Bool.and_eq_true] at h2
    exact h2
theorem wc_le (p : Nat → Bool) : ∀ n, wc p n ≤ n
  | 0 => Nat.le_refl _
  | n + 1 => by have := wc_le p n; unfold wc; split <;> omega
/-- a place that there isn't -/
theorem i_no (I : Inv V nc M K) {t y g d : Nat} {pl : Int32} (ht : t < 20) (hy : y ≤ 55) (hg : g ≤ 3) (hd : d ≤ 20000) (hpl : iT (mWays M nc t y g d (vNp V)) pl = false) : ∀ k, k < vNp V → aM (wTo V t y g d (vNp V)) k = true → ¬ nI (cPla V (wTo V t y g d (vNp V)) k t (vNp V)) = pl := by
  intro k hk hka z
  have hn : vNp V ≤ 10 := I.1.2.2.2.2
  rw [(i_pla I hk ht hy hg hd _ (Nat.le_refl _)).1] at z
  rw [i_am I ht hy hg hd hk] at hka
  have z1 := rk_lt (wkey_inj I t) hk (p := fun k => mLets M k g && mCov M nc k t y d) hka
  have z2 := wc_le (fun k => mLets M k g && mCov M nc k t y d) (vNp V)
  rw [← mWays_wc] at z1 z2
  rw [← z] at hpl
  unfold iT at hpl
  rw [decide_eq_true (nI_pos (by omega)), Bool.true_and, decide_eq_true (show ¬ nI (mWays M nc t y g d (vNp V)) ≤ nI (rk (fun k => mLets M k g && mCov M nc k t y d) (wkey V t) (wkey V t k) (vNp V)) from fun q => by have := (nI_leI (by omega) (by omega)).mp q; omega)] at hpl
  cases hpl
end IW
