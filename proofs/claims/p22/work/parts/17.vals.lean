/-! the class's lists as sets of years; ways counted, ranks; bits counted -/
theorem zY_op {d y : Nat} {l : zLs} (hd : d ≤ 20000) (hy : y ≤ 55) (hl : ∀ c ∈ l, c.2.2 ≤ 20) : hY (zOp d l) (nI y) = (match zDr d l with
  | [] => false
  | c :: _ => hY c.2.1 (nI y) && decide (nI y ≤ nI (d / 360) - nI c.2.2)) := by
  unfold zOp
  cases h : zDr d l with
  | nil => exact hY_0 (by omega)
  | cons c r =>
    have hc : c.2.2 ≤ 20 := hl c ((List.dropWhile_sublist _).subset (by show c ∈ zDr d l; rw [h]; exact List.mem_cons_self))
    show hY (c.2.1 &&& yB (nI 0) (nI (d / 360) - nI c.2.2)) (nI y) = _
    rw [hY_and _ _ (by omega), hY_yB (sub_le (by omega) (by omega) (by omega)) (by omega) (by omega), decide_eq_true (Nat.zero_le y), Bool.true_and]
def zhb (day y E : Nat) (l : zLs) : Bool := match zDr E l with
  | [] => false
  | c :: _ => hY c.2.1 (nI y) && decide (nI y ≤ nI (day / 360) - nI c.2.2)
theorem zY_ke {day y : Nat} (hd : day ≤ 20000) (hy : y ≤ 55) : ∀ (l : zLs) (u : Nat) (acc : Int64), (∀ c ∈ l, c.2.2 ≤ 20 ∧ c.1 ≤ 20000) → u ≤ day → hY (zKe day u acc l) (nI y) = (hY acc (nI y) || (decide (360 * y + 359 < u) && zhb day y (360 * y + 359) l)) := by
  intro l
  induction l with
  | nil =>
    intro u acc _ _
    show hY acc (nI y) = (hY acc (nI y) || (_ && false))
    rw [Bool.and_false, Bool.or_false]
  | cons c r ih =>
    intro u acc hl hu
    obtain ⟨hw, hc⟩ := hl c List.mem_cons_self
    show hY (zKe day (min u c.1) (acc ||| (c.2.1 &&& yB (nI (c.1 / 360)) (if nI (day / 360) - nI c.2.2 < nI (u / 360) - nI 1 then nI (day / 360) - nI c.2.2 else nI (u / 360) - nI 1))) r) (nI y) = _
    rw [ih _ _ (fun x hx => hl x (List.mem_cons_of_mem _ hx)) (by omega), hY_or _ _ (by omega), hY_and _ _ (by omega), hY_yB (a := c.1 / 360) (by split <;> exact sub_le (by omega) (by omega) (by omega)) (by omega) (by omega)]
    have e1 : decide (nI y ≤ (if nI (day / 360) - nI c.2.2 < nI (u / 360) - nI 1 then nI (day / 360) - nI c.2.2 else nI (u / 360) - nI 1)) = (decide (nI y ≤ nI (day / 360) - nI c.2.2) && decide (360 * y + 359 < u)) := by
      have h1 : nI y ≤ nI (day / 360) - nI c.2.2 ↔ y + c.2.2 ≤ day / 360 := le_sub (by omega) (by omega) (by omega)
      have h2 : nI y ≤ nI (u / 360) - nI 1 ↔ y + 1 ≤ u / 360 := le_sub (by omega) (by omega) (by omega)
      have h3 : nI (day / 360) - nI c.2.2 < nI (u / 360) - nI 1 ↔ ((day / 360 : Nat) : Int) - c.2.2 < ((u / 360 : Nat) : Int) - 1 := by
        rw [Int32.lt_iff_toInt_lt, pk_sub_toInt (by omega) (by omega), pk_sub_toInt (by omega) (by omega)]; rfl
      by_cases k : nI (day / 360) - nI c.2.2 < nI (u / 360) - nI 1
      · rw [if_pos k]
        have k' := h3.mp k
        by_cases z : y + c.2.2 ≤ day / 360
        · rw [decide_eq_true (h1.mpr z), decide_eq_true (show 360 * y + 359 < u by omega)]; rfl
        · rw [decide_eq_false (fun q => z (h1.mp q))]; rfl
      · rw [if_neg k]
        have k' : ¬ ((day / 360 : Nat) : Int) - c.2.2 < ((u / 360 : Nat) : Int) - 1 := fun q => k (h3.mpr q)
        by_cases z : y + 1 ≤ u / 360
        · rw [decide_eq_true (h2.mpr z), decide_eq_true (h1.mpr (by omega)), decide_eq_true (show 360 * y + 359 < u by omega)]; rfl
        · rw [decide_eq_false (fun q => z (h2.mp q)), decide_eq_false (show ¬ 360 * y + 359 < u by omega), Bool.and_false]
    rw [e1]
    by_cases k : c.1 ≤ 360 * y + 359
    · have e2 : zhb day y (360 * y + 359) (c :: r) = (hY c.2.1 (nI y) && decide (nI y ≤ nI (day / 360) - nI c.2.2)) := by
        unfold zhb zDr
        rw [List.dropWhile_cons, if_neg (by simp; omega)]
      rw [e2, decide_eq_true (show c.1 / 360 ≤ y by omega), decide_eq_false (show ¬ 360 * y + 359 < min u c.1 by omega)]
      cases hY acc (nI y) <;> cases hY c.2.1 (nI y) <;> cases decide (nI y ≤ nI (day / 360) - nI c.2.2) <;> cases decide (360 * y + 359 < u) <;> rfl
    · have e2 : zhb day y (360 * y + 359) (c :: r) = zhb day y (360 * y + 359) r := by
        unfold zhb zDr
        rw [List.dropWhile_cons, if_pos (by simp; omega)]
      rw [e2, decide_eq_false (show ¬ c.1 / 360 ≤ y by omega), decide_eq_decide.mpr (show (360 * y + 359 < min u c.1) ↔ 360 * y + 359 < u by omega)]
      cases hY acc (nI y) <;> cases hY c.2.1 (nI y) <;> rfl
def wm (p : Nat → Bool) : Nat → Nat
  | 0 => 0
  | k + 1 => if p k = true then wm p k + 2 ^ k else wm p k
def wc (p : Nat → Bool) : Nat → Nat
  | 0 => 0
  | k + 1 => if p k = true then wc p k + 1 else wc p k
theorem wm_lt (p : Nat → Bool) : ∀ n, wm p n < 2 ^ n
  | 0 => Nat.zero_lt_one
  | n + 1 => by
    have h := wm_lt p n
    have e : 2 ^ (n + 1) = 2 ^ n + 2 ^ n := by rw [Nat.pow_succ]; omega
    unfold wm
    split <;> omega
theorem wm_lt10 (p : Nat → Bool) {n : Nat} (hn : n ≤ 10) : wm p n < 1024 := Nat.lt_of_lt_of_le (wm_lt p n) (show 2 ^ n ≤ 2 ^ 10 from Nat.pow_le_pow_right (by decide) hn)
def pc10 (m : Nat) : Nat := m % 2 + m / 2 % 2 + m / 4 % 2 + m / 8 % 2 + m / 16 % 2 + m / 32 % 2 + m / 64 % 2 + m / 128 % 2 + m / 256 % 2 + m / 512 % 2
theorem or_step : ∀ k, k < 10 → ∀ m, m < 2 ^ k → nI m ||| (nI 1 <<< (nI k &&& 31)) = nI (m + 2 ^ k) := by decide +kernel
theorem pc_step : ∀ k, k < 10 → ∀ m, m < 2 ^ k → pc10 (m + 2 ^ k) = pc10 m + 1 := by decide +kernel
theorem sw_pc : ∀ m, m < 1024 → swI (nI m) = nI (pc10 m) := by decide +kernel
theorem am_step : ∀ k, k < 10 → ∀ m, m < 2 ^ k → ∀ j, j < 10 → aM (nI (m + 2 ^ k)) j = (aM (nI m) j || decide (j = k)) := by decide +kernel
theorem am_0 : ∀ j, j < 10 → aM (nI 0) j = false := by decide +kernel
theorem wc_cong {p p' : Nat → Bool} : ∀ n, (∀ k, k < n → p k = p' k) → wc p n = wc p' n
  | 0, _ => rfl
  | n + 1, h => by
    unfold wc
    rw [h n (Nat.lt_succ_self n), wc_cong n (fun k hk => h k (Nat.lt_succ_of_lt hk))]
theorem pc_wm (p : Nat → Bool) : ∀ n, n ≤ 10 → pc10 (wm p n) = wc p n
  | 0, _ => by show pc10 0 = 0; decide
  | n + 1, h => by
    have ih := pc_wm p n (by omega)
    unfold wm wc
    by_cases c : p n = true
    · rw [if_pos c, if_pos c, pc_step n (by omega) _ (wm_lt p n), ih]
    · rw [if_neg c, if_neg c, ih]
theorem am_wm (p : Nat → Bool) {j : Nat} (hj : j < 10) : ∀ n, n ≤ 10 → aM (nI (wm p n)) j = (decide (j < n) && p j)
  | 0, _ => by rw [show wm p 0 = 0 from rfl, am_0 j hj, decide_eq_false (Nat.not_lt_zero j), Bool.false_and]
  | n + 1, h => by
    have ih := am_wm p hj n (by omega)
    unfold wm
    by_cases c : p n = true
    · rw [if_pos c, am_step n (by omega) _ (wm_lt p n) j hj, ih]
      by_cases e : j = n
      · subst e; rw [decide_eq_true (rfl : j = j), Bool.or_true, decide_eq_true (Nat.lt_succ_self j), c]; rfl
      · rw [decide_eq_false e, Bool.or_false, decide_eq_decide.mpr (show j < n ↔ j < n + 1 by omega)]
    · rw [if_neg c, ih]
      by_cases e : j = n
      · subst e
        have : p j = false := by cases q : p j with | false => rfl | true => exact absurd q c
        rw [this, Bool.and_false, Bool.and_false]
      · rw [decide_eq_decide.mpr (show j < n ↔ j < n + 1 by omega)]
theorem wTo_wm (V : zV) (t y g d : Nat) : ∀ n, n ≤ 10 → wTo V t y g d n = nI (wm (fun k => cWy V k t y g d) n)
  | 0, _ => rfl
  | n + 1, h => by
    have ih := wTo_wm V t y g d n (by omega)
    unfold wTo wm
    by_cases c : cWy V n t y g d = true
    · rw [if_pos c, if_pos c, ih, or_step n (by omega) _ (wm_lt _ n)]
    · rw [if_neg c, if_neg c, ih]
def rk (p : Nat → Bool) (key : Nat → Nat) (v : Nat) : Nat → Nat
  | 0 => 0
  | k + 1 => if p k = true ∧ key k < v then rk p key v k + 1 else rk p key v k
section RK
variable {p : Nat → Bool} {key : Nat → Nat}
theorem rk_0 : ∀ n, rk p key 0 n = 0
  | 0 => rfl
  | n + 1 => by unfold rk; rw [if_neg (by omega), rk_0 n]
theorem rk_le (v : Nat) : ∀ n, rk p key v n ≤ wc p n
  | 0 => Nat.le_refl _
  | n + 1 => by
    have := rk_le v n
    unfold rk wc
    by_cases c : p n = true
    · rw [if_pos c]; split <;> omega
    · rw [if_neg c, if_neg (fun z => c z.1)]; exact this
theorem rk_all {v : Nat} : ∀ n, (∀ k, k < n → key k < v) → rk p key v n = wc p n
  | 0, _ => rfl
  | n + 1, h => by
    have := rk_all n (fun k hk => h k (Nat.lt_succ_of_lt hk))
    unfold rk wc
    rw [this]
    have := h n (Nat.lt_succ_self n)
    by_cases c : p n = true
    · rw [if_pos c, if_pos ⟨c, this⟩]
    · rw [if_neg c, if_neg (fun z => c z.1)]
theorem rk_mono {v v' : Nat} (hv : v ≤ v') : ∀ n, rk p key v n ≤ rk p key v' n
  | 0 => Nat.le_refl _
  | n + 1 => by
    have := rk_mono hv n
    unfold rk
    by_cases c : p n = true ∧ key n < v
    · rw [if_pos c, if_pos ⟨c.1, by omega⟩]; omega
    · rw [if_neg c]; split <;> omega
theorem rk_step {v : Nat} : ∀ n, (∀ a b, a < n → b < n → key a = key b → a = b) → (∃ q, q < n ∧ p q = true ∧ key q = v ∧ rk p key (v + 1) n = rk p key v n + 1) ∨ (rk p key (v + 1) n = rk p key v n ∧ ∀ q, q < n → p q = true → key q ≠ v)
  | 0, _ => Or.inr ⟨rfl, fun q hq => absurd hq (Nat.not_lt_zero _)⟩
  | n + 1, h => by
    have ih := rk_step (v := v) n (fun a b ha hb => h a b (by omega) (by omega))
    unfold rk
    by_cases c : p n = true
    · by_cases e : key n = v
      · rcases ih with ⟨q, h1, h2, h3, h4⟩ | ⟨h1, h2⟩
        · exact absurd (h q n (by omega) (by omega) (h3.trans e.symm)) (by omega)
        · refine Or.inl ⟨n, Nat.lt_succ_self n, c, e, ?_⟩
          rw [if_pos ⟨c, by omega⟩, if_neg (by omega), h1]
      · by_cases e2 : key n < v
        · rw [if_pos ⟨c, by omega⟩, if_pos ⟨c, e2⟩]
          rcases ih with ⟨q, h1, h2, h3, h4⟩ | ⟨h1, h2⟩
          · exact Or.inl ⟨q, by omega, h2, h3, by omega⟩
          · exact Or.inr ⟨by omega, fun q hq hp => by
              by_cases z : q = n
              · subst z; exact e
              · exact h2 q (by omega) hp⟩
        · rw [if_neg (by omega), if_neg (by omega)]
          rcases ih with ⟨q, h1, h2, h3, h4⟩ | ⟨h1, h2⟩
          · exact Or.inl ⟨q, by omega, h2, h3, h4⟩
          · exact Or.inr ⟨h1, fun q hq hp => by
              by_cases z : q = n
              · subst z; exact e
              · exact h2 q (by omega) hp⟩
    · rw [if_neg (fun z => c z.1), if_neg (fun z => c z.1)]
      rcases ih with ⟨q, h1, h2, h3, h4⟩ | ⟨h1, h2⟩
      · exact Or.inl ⟨q, by omega, h2, h3, h4⟩
      · exact Or.inr ⟨h1, fun q hq hp => by
          by_cases z : q = n
          · subst z; exact absurd hp c
          · exact h2 q (by omega) hp⟩
theorem rk_own {n : Nat} (h : ∀ a b, a < n → b < n → key a = key b → a = b) {q : Nat} (hq : q < n) (hp : p q = true) : rk p key (key q + 1) n = rk p key (key q) n + 1 := by
  rcases rk_step (p := p) (v := key q) n h with ⟨q2, h1, h2, h3, h4⟩ | ⟨h1, h2⟩
  · exact h4
  · exact absurd rfl (h2 q hq hp)
theorem rk_uniq {n : Nat} (h : ∀ a b, a < n → b < n → key a = key b → a = b) {q r : Nat} (hq : q < n) (hp : p q = true) (hr : r < n) (hpr : p r = true) (e : rk p key (key q) n = rk p key (key r) n) : q = r := by
  rcases Nat.lt_trichotomy (key q) (key r) with z | z | z
  · have h1 := rk_own h hq hp
    have h2 := rk_mono (p := p) (key := key) (show key q + 1 ≤ key r by omega) n
    omega
  · exact h q r hq hr z
  · have h1 := rk_own h hr hpr
    have h2 := rk_mono (p := p) (key := key) (show key r + 1 ≤ key q by omega) n
    omega
theorem rk_lt {n : Nat} (h : ∀ a b, a < n → b < n → key a = key b → a = b) {q : Nat} (hq : q < n) (hp : p q = true) : rk p key (key q) n < wc p n := by
  have h1 := rk_own h hq hp
  have h2 := rk_le (p := p) (key := key) (key q + 1) n
  omega
theorem rk_ex {n : Nat} (h : ∀ a b, a < n → b < n → key a = key b → a = b) {pl : Nat} : ∀ v, pl < rk p key v n → ∃ q, q < n ∧ p q = true ∧ rk p key (key q) n = pl
  | 0, hv => by rw [rk_0] at hv; exact absurd hv (Nat.not_lt_zero _)
  | v + 1, hv => by
    by_cases c : pl < rk p key v n
    · exact rk_ex h v c
    · rcases rk_step (p := p) (v := v) n h with ⟨q, h1, h2, h3, h4⟩ | ⟨h1, h2⟩
      · exact ⟨q, h1, h2, by rw [h3]; omega⟩
      · omega
end RK
def wkey (V : zV) (t q : Nat) : Nat := (((if 2 ≤ vB V q t then 1001 else 0) + (vP V q).1) * 3 + (vP V q).2.1) * 10 + q
theorem wc_le (p : Nat → Bool) : ∀ n, wc p n ≤ n
  | 0 => Nat.le_refl _
  | n + 1 => by have := wc_le p n; unfold wc; split <;> omega
theorem gF_at (x : Int64) : ∀ (k y : Nat), (∃ r, y ≤ r ∧ r < y + k ∧ hY x (nI r) = true ∧ (∀ j, y ≤ j → j < r → hY x (nI j) = false) ∧ gF x k y = nI r) ∨ ((∀ j, y ≤ j → j < y + k → hY x (nI j) = false) ∧ gF x k y = (-1))
  | 0, y => Or.inr ⟨fun j h1 h2 => absurd h2 (by omega), rfl⟩
  | k + 1, y => by
    unfold gF
    by_cases c : hY x (nI y) = true
    · exact Or.inl ⟨y, Nat.le_refl _, by omega, c, fun j h1 h2 => absurd h1 (by omega), by rw [if_pos c]⟩
    · have c' : hY x (nI y) = false := by cases h : hY x (nI y) with | false => rfl | true => exact absurd h c
      rw [if_neg c]
      rcases gF_at x k (y + 1) with ⟨r, h1, h2, h3, h4, h5⟩ | ⟨h1, h2⟩
      · exact Or.inl ⟨r, by omega, by omega, h3, fun j j1 j2 => by
          by_cases e : j = y
          · subst e; exact c'
          · exact h4 j (by omega) j2, h5⟩
      · exact Or.inr ⟨fun j j1 j2 => by
          by_cases e : j = y
          · subst e; exact c'
          · exact h1 j (by omega) (by omega), h2⟩
theorem wc_0 {p : Nat → Bool} : ∀ {n : Nat}, wc p n = 0 ↔ ∀ k, k < n → p k = false
  | 0 => ⟨fun _ k hk => absurd hk (Nat.not_lt_zero _), fun _ => rfl⟩
  | n + 1 => by
    unfold wc
    by_cases c : p n = true
    · rw [if_pos c]
      exact ⟨fun h => absurd h (by omega), fun h => by have := h n (Nat.lt_succ_self n); rw [c] at this; cases this⟩
    · have c' : p n = false := by cases h : p n with | false => rfl | true => exact absurd h c
      rw [if_neg c, wc_0 (n := n)]
      exact ⟨fun h k hk => by
        by_cases e : k = n
        · subst e; exact c'
        · exact h k (by omega), fun h k hk => h k (by omega)⟩
