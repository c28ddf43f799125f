/-! the class's lists and the reference's log -/
theorem zY_op {d y : Nat} {l : zLs} (hd : d ≤ 20000) (hy : y ≤ 55) (hl : ∀ c ∈ l, c.2.2 ≤ 20) : hY (zOp d l) (nI y) = (match zDr d l with
  | [] => false
  | c :: _ => hY c.2.1 (nI y) && decide (nI y ≤ nI (d / 360) - nI c.2.2)) := by
  unfold zOp
  cases h : zDr d l with
  | nil => exact hY_0 (by omega)
  | cons c r =>
    have hc : c.2.2 ≤ 20 := hl c ((List.dropWhile_sublist _).subset (by show c ∈ zDr d l; rw [h]; exact List.mem_cons_self))
    show hY (c.2.1 &&& yB (nI 0) (nI (d / 360) - nI c.2.2)) (nI y) = _
    rw [hY_and _ _ (by omega), hY_yB (sub_le (by omega) (by omega) (by omega)) (by omega) (by omega), decide_eq_true (Nat.zero_le y), Bool.true_and]
/-- does the change that holds on day E let the year y stand open until 'day' -/
def zhb (day y E : Nat) (l : zLs) : Bool := match zDr E l with
  | [] => false
  | c :: _ => hY c.2.1 (nI y) && decide (nI y ≤ nI (day / 360) - nI c.2.2)
theorem zY_ke {day y : Nat} (hd : day ≤ 20000) (hy : y ≤ 55) : ∀ (l : zLs) (u : Nat) (acc : Int64), (∀ c ∈ l, c.2.2 ≤ 20 ∧ c.1 ≤ 20000) → u ≤ day → hY (zKe day u acc l) (nI y) = (hY acc (nI y) || (decide (360 * y + 359 < u) && zhb day y (360 * y + 359) l)) := by
  intro l
  induction l with
  | nil =>
    intro u acc _ _
    show hY acc (nI y) = (hY acc (nI y) || (_ && false))
    rw [Bool.and_false, Bool.or_false]
  | cons c r ih =>
    intro u acc hl hu
    obtain ⟨hw, hc⟩ := hl c List.mem_cons_self
    show hY (zKe day (min u c.1) (acc ||| (c.2.1 &&& yB (nI (c.1 / 360)) (if nI (day / 360) - nI c.2.2 < nI (u / 360) - nI 1 then nI (day / 360) - nI c.2.2 else nI (u / 360) - nI 1))) r) (nI y) = _
    rw [ih _ _ (fun x hx => hl x (List.mem_cons_of_mem _ hx)) (by omega), hY_or _ _ (by omega), hY_and _ _ (by omega), hY_yB (a := c.1 / 360) (by split <;> exact sub_le (by omega) (by omega) (by omega)) (by omega) (by omega)]
    have e1 : decide (nI y ≤ (if nI (day / 360) - nI c.2.2 < nI (u / 360) - nI 1 then nI (day / 360) - nI c.2.2 else nI (u / 360) - nI 1)) = (decide (nI y ≤ nI (day / 360) - nI c.2.2) && decide (360 * y + 359 < u)) := by
      have h1 : nI y ≤ nI (day / 360) - nI c.2.2 ↔ y + c.2.2 ≤ day / 360 := le_sub (by omega) (by omega) (by omega)
      have h2 : nI y ≤ nI (u / 360) - nI 1 ↔ y + 1 ≤ u / 360 := le_sub (by omega) (by omega) (by omega)
      have h3 : nI (day / 360) - nI c.2.2 < nI (u / 360) - nI 1 ↔ ((day / 360 : Nat) : Int) - c.2.2 < ((u / 360 : Nat) : Int) - 1 := by
        rw [Int32.lt_iff_toInt_lt, pk_sub_toInt (by omega) (by omega), pk_sub_toInt (by omega) (by omega)]; rfl
      by_cases k : nI (day / 360) - nI c.2.2 < nI (u / 360) - nI 1
      · rw [if_pos k]
        have k' := h3.mp k
        by_cases z : y + c.2.2 ≤ day / 360
        · rw [decide_eq_true (h1.mpr z), decide_eq_true (show 360 * y + 359 < u by omega)]; rfl
        · rw [decide_eq_false (fun q => z (h1.mp q))]; rfl
      · rw [if_neg k]
        have k' : ¬ ((day / 360 : Nat) : Int) - c.2.2 < ((u / 360 : Nat) : Int) - 1 := fun q => k (h3.mpr q)
        by_cases z : y + 1 ≤ u / 360
        · rw [decide_eq_true (h2.mpr z), decide_eq_true (h1.mpr (by omega)), decide_eq_true (show 360 * y + 359 < u by omega)]; rfl
        · rw [decide_eq_false (fun q => z (h2.mp q)), decide_eq_false (show ¬ 360 * y + 359 < u by omega), Bool.and_false]
    rw [e1]
    by_cases k : c.1 ≤ 360 * y + 359
    · have e2 : zhb day y (360 * y + 359) (c :: r) = (hY c.2.1 (nI y) && decide (nI y ≤ nI (day / 360) - nI c.2.2)) := by
        unfold zhb zDr
        rw [List.dropWhile_cons, if_neg (by simp; omega)]
      rw [e2, decide_eq_true (show c.1 / 360 ≤ y by omega), decide_eq_false (show ¬ 360 * y + 359 < min u c.1 by omega)]
      cases hY acc (nI y) <;> cases hY c.2.1 (nI y) <;> cases decide (nI y ≤ nI (day / 360) - nI c.2.2) <;> cases decide (360 * y + 359 < u) <;> rfl
    · have e2 : zhb day y (360 * y + 359) (c :: r) = zhb day y (360 * y + 359) r := by
        unfold zhb zDr
        rw [List.dropWhile_cons, if_pos (by simp; omega)]
      rw [e2, decide_eq_false (show ¬ c.1 / 360 ≤ y by omega), decide_eq_decide.mpr (show (360 * y + 359 < min u c.1) ↔ 360 * y + 359 < u by omega)]
      cases hY acc (nI y) <;> cases hY c.2.1 (nI y) <;> rfl
/-- a change of the class and a row of the reference's log that say the same: on a title; on a subscription -/
def sT (M : Nat → Nat → Int32) (c : Nat × Int64 × Nat) (k : Nat) : Prop := decide (¬ c.2.1 = 0) = decide (¬ M 9 k = 0) ∧ (∀ y, y ≤ 55 → hY c.2.1 (nI y) = (decide (¬ M 9 k = 0) && iB (nI y) (M 10 k) (M 11 k))) ∧ M 12 k = nI c.2.2
def sS (M : Nat → Nat → Int32) (c : Nat × Int64 × Nat) (k : Nat) : Prop := decide (¬ c.2.1 = 0) = decide (¬ M 9 k = 0) ∧ (∀ y, y ≤ 55 → hY c.2.1 (nI y) = decide (¬ M 9 k = 0)) ∧ c.2.2 = 0
def sR (S : (Nat × Int64 × Nat) → Nat → Prop) : zLs → Option Nat → Prop
  | [], none => True
  | c :: _, some k => S c k
  | _, _ => False
def sL (M : Nat → Nat → Int32) (nc : Nat) (S : (Nat × Int64 × Nat) → Nat → Prop) (w : Nat) (l : zLs) : Prop := (∀ d, d ≤ 30000 → sR S (zDr d l) (mOn M w d nc)) ∧ ∀ c ∈ l, c.2.2 ≤ 20 ∧ c.1 ≤ 20000
def Inv (V : zV) (nc : Nat) (M : Nat → Nat → Int32) (K : Nat) : Prop :=
  (nc ≤ K ∧ K ≤ 512 ∧ vTd V ≤ 20000 ∧ vNt V ≤ 20 ∧ vNp V ≤ 10) ∧
  (∀ t, t < vNt V → M 0 t = nI (vT V t).1 ∧ M 1 t = nI (vT V t).2 ∧ (vT V t).1 ≤ 55 ∧ 1 ≤ (vT V t).2 ∧ (vT V t).2 ≤ 4) ∧
  (∀ q, q < vNp V → (M 2 q = nI (vP V q).1 ∧ M 3 q = nI (vP V q).2.1 ∧ M 4 q = nI (vP V q).2.2.1 ∧ M 5 q = vp_nar .boolean (bI (decide ((vP V q).2.2.2 = 1)))) ∧ (vP V q).1 ≤ 1000 ∧ (vP V q).2.1 ≤ 2 ∧ (vP V q).2.2.1 ≤ 15 ∧ (vP V q).2.2.2 ≤ 1) ∧
  (∀ q t, q < 10 → t < 20 → (q < vNp V → M 6 (20 * q + t) = nI (vB V q t) ∧ vB V q t ≤ K) ∧ (vNp V ≤ q → M 6 (20 * q + t) = nI 0)) ∧
  (∀ k, k < nc → ∃ w d, M 7 k = nI w ∧ w < 21 * vNp V ∧ M 8 k = nI d ∧ d ≤ vTd V) ∧
  (∀ q, q < vNp V → (∀ w, w < 20 → sL M nc (sT M) (21 * q + w) (vL V q w)) ∧ sL M nc (sS M) (21 * q + 20) (vL V q 20))
section IN
variable {V : zV} {nc K : Nat} {M : Nat → Nat → Int32}
theorem sL_on {S : (Nat × Int64 × Nat) → Nat → Prop} (hS : ∀ c k, S c k → decide (¬ c.2.1 = 0) = decide (¬ M 9 k = 0)) {w d : Nat} {l : zLs} (h : sL M nc S w l) (hd : d ≤ 30000) : zOn d l = mSo M nc w d := by
  have h1 := h.1 d hd
  unfold zOn mSo
  cases e1 : zDr d l with
  | nil =>
    cases e2 : mOn M w d nc with
    | none => rfl
    | some k => rw [e1, e2] at h1; exact absurd h1 id
  | cons c r =>
    cases e2 : mOn M w d nc with
    | none => rw [e1, e2] at h1; exact absurd h1 id
    | some k => rw [e1, e2] at h1; exact hS c k h1
theorem i_in (I : Inv V nc M K) {q t : Nat} (hq : q < vNp V) (ht : t < 20) {d : Nat} (hd : d ≤ 30000) : zOn d (vL V q t) = mSo M nc (21 * q + t) d := sL_on (fun _ _ h => h.1) ((I.2.2.2.2.2 q hq).1 t ht) hd
theorem i_sub (I : Inv V nc M K) {q : Nat} (hq : q < vNp V) {d : Nat} (hd : d ≤ 30000) : zOn d (vL V q 20) = mSo M nc (21 * q + 20) d := sL_on (fun _ _ h => h.1) (I.2.2.2.2.2 q hq).2 hd
/-- what the two heads on day st say of the year y, seen from day d -/
theorem i_hd {lT lS : zLs} {q t y st d : Nat} (hT : sL M nc (sT M) (21 * q + t) lT) (hS : sL M nc (sS M) (21 * q + 20) lS) (hd : d ≤ 20000) (hy : y ≤ 55) (hst : st ≤ 30000) : (zhb d y st lT && zhb d y st lS) = mHas M nc q t y st d := by
  have h1 := hT.1 st hst
  have h2 := hS.1 st hst
  unfold zhb mHas mSo
  cases e1 : zDr st lT with
  | nil =>
    cases e2 : mOn M (21 * q + t) st nc with
    | none => rfl
    | some k => rw [e1, e2] at h1; exact absurd h1 id
  | cons c r =>
    cases e2 : mOn M (21 * q + t) st nc with
    | none => rw [e1, e2] at h1; exact absurd h1 id
    | some k =>
      rw [e1, e2] at h1
      obtain ⟨-, a2, a3⟩ := h1
      have hc : c.2.2 ≤ 20 := (hT.2 c ((List.dropWhile_sublist _).subset (by show c ∈ zDr st lT; rw [e1]; exact List.mem_cons_self))).1
      have hw := @le_sub (d / 360) c.2.2 y (by omega) (by omega) (by omega)
      have hw0 := @le_sub (d / 360) 0 y (by omega) (by omega) (by omega)
      cases e3 : zDr st lS with
      | nil =>
        cases e4 : mOn M (21 * q + 20) st nc with
        | none => simp
        | some k2 => rw [e3, e4] at h2; exact absurd h2 id
      | cons c2 r2 =>
        cases e4 : mOn M (21 * q + 20) st nc with
        | none => rw [e3, e4] at h2; exact absurd h2 id
        | some k2 =>
          rw [e3, e4] at h2
          obtain ⟨-, b2, b3⟩ := h2
          show ((hY c.2.1 (nI y) && decide (nI y ≤ nI (d / 360) - nI c.2.2)) && (hY c2.2.1 (nI y) && decide (nI y ≤ nI (d / 360) - nI c2.2.2))) = (decide (¬ M 9 k = 0) && (iB (nI y) (M 10 k) (M 11 k) && (decide (nI y ≤ nI (d / 360) - M 12 k) && decide (¬ M 9 k2 = 0))))
          rw [a2 y hy, b2 y hy, a3, b3]
          by_cases z : y + c.2.2 ≤ d / 360
          · rw [decide_eq_true (hw.mpr z), decide_eq_true (hw0.mpr (by omega))]
            cases decide (¬ M 9 k = 0) <;> cases iB (nI y) (M 10 k) (M 11 k) <;> cases decide (¬ M 9 k2 = 0) <;> rfl
          · rw [decide_eq_false (fun q => z (hw.mp q))]
            cases decide (¬ M 9 k = 0) <;> cases iB (nI y) (M 10 k) (M 11 k) <;> rfl
theorem i_op (I : Inv V nc M K) {q t y d : Nat} (hq : q < vNp V) (ht : t < 20) (hy : y ≤ 55) (hd : d ≤ 20000) : hY (zOp d (vL V q t) &&& zOp d (vL V q 20)) (nI y) = mHas M nc q t y d d := by
  have hT := (I.2.2.2.2.2 q hq).1 t ht
  have hS := (I.2.2.2.2.2 q hq).2
  rw [hY_and _ _ (by omega), zY_op hd hy (fun c hc => (hT.2 c hc).1), zY_op hd hy (fun c hc => (hS.2 c hc).1)]
  exact i_hd hT hS hd hy (by omega)
theorem i_k5 (I : Inv V nc M K) {q : Nat} (hq : q < vNp V) : decide (¬ M 5 q = 0) = decide (¬ (vP V q).2.2.2 = 0) := by
  obtain ⟨⟨-, -, -, h⟩, -, -, -, hk⟩ := I.2.2.1 q hq
  rw [h]
  rcases (show (vP V q).2.2.2 = 0 ∨ (vP V q).2.2.2 = 1 by omega) with z | z <;> rw [z] <;> decide +kernel
theorem i_ke (I : Inv V nc M K) {q t y d : Nat} (hq : q < vNp V) (ht : t < 20) (hy : y ≤ 55) (hd : d ≤ 20000) : hY (zPK (vP V q).2.2.2 d (vL V q t) (vL V q 20)) (nI y) = mKept M nc q t y d := by
  have hT := (I.2.2.2.2.2 q hq).1 t ht
  have hS := (I.2.2.2.2.2 q hq).2
  unfold zPK mKept
  rw [i_k5 I hq]
  by_cases k : (vP V q).2.2.2 = 0
  · rw [if_pos k, hY_0 (by omega), decide_eq_false (fun z => z k), Bool.false_and]
  · rw [if_neg k, decide_eq_true k, Bool.true_and, hY_and _ _ (by omega), zY_ke hd hy _ _ _ hT.2 (Nat.le_refl _), zY_ke hd hy _ _ _ hS.2 (Nat.le_refl _), hY_0 (by omega), Bool.false_or, Bool.false_or, ← i_hd hT hS hd hy (by omega)]
    cases decide (360 * y + 359 < d) <;> simp
theorem i_PC (I : Inv V nc M K) {q t y d : Nat} (hq : q < vNp V) (ht : t < 20) (hy : y ≤ 55) (hd : d ≤ 20000) : hY (cPC V q t d) (nI y) = mCov M nc q t y d := by
  unfold cPC zPC mCov
  rw [hY_or _ _ (by omega), i_op I hq ht hy hd, i_ke I hq ht hy hd]
theorem i_let (I : Inv V nc M K) {q g : Nat} (hq : q < vNp V) (hg : g ≤ 3) : mLets M q g = zlb (vP V q).2.2.1 g := by
  obtain ⟨⟨-, -, h, -⟩, -, -, hk, -⟩ := I.2.2.1 q hq
  unfold mLets
  rw [h]
  cases e : zlb (vP V q).2.2.1 g with
  | true => exact decide_eq_true ((zlb_if hk hg).mpr e)
  | false => exact decide_eq_false (fun z => by have := (zlb_if hk hg).mp z; rw [e] at this; cases this)
theorem i_way (I : Inv V nc M K) {q t y g d : Nat} (hq : q < vNp V) (ht : t < 20) (hy : y ≤ 55) (hg : g ≤ 3) (hd : d ≤ 20000) : cWy V q t y g d = (mLets M q g && mCov M nc q t y d) := by
  rw [i_let I hq hg, ← i_PC I hq ht hy hd]
  rfl
end IN
