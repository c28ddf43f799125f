/-! bits of the years, and what the reference's log has to do with the class's lists -/
theorem q_1b : ∀ i, i < 64 → (1 : Int64).toBitVec.getLsbD i = decide (i = 0) := by decide +kernel
theorem q_m1 : ∀ i, i < 64 → (-1 : Int64).toBitVec.getLsbD i = true := by decide +kernel
theorem q_one (z : Int64) : (z &&& 1 = 1) ↔ z.toBitVec.getLsbD 0 = true := by
  constructor
  · intro h
    have h2 := congrArg (fun w : Int64 => w.toBitVec.getLsbD 0) h
    simp only [Int64.toBitVec_and, BitVec.getLsbD_and, q_1b 0 (by decide), decide_true, Bool.and_true] at h2
    exact h2
  · intro h
    apply Int64.toBitVec_inj.mp
    apply BitVec.eq_of_getLsbD_eq
    intro i hi
    rw [Int64.toBitVec_and, BitVec.getLsbD_and, q_1b i hi]
    by_cases e : i = 0
    · subst e; rw [h]; rfl
    · rw [decide_eq_false e, Bool.and_false]
theorem q_c : ∀ k, k < 64 → (((nI k).toInt64 &&& 63).toBitVec.smod 64).toNat = k := by decide +kernel
theorem hY_b (x : Int64) {k : Nat} (hk : k < 64) : hY x (nI k) = x.toBitVec.getLsbD k := by
  have e : (x >>> ((nI k).toInt64 &&& 63)).toBitVec.getLsbD 0 = x.toBitVec.getLsbD k := by
    rw [Int64.toBitVec_shiftRight, BitVec.sshiftRight_eq', q_c k hk, BitVec.getLsbD_sshiftRight]
    simp [hk]
  unfold hY
  rw [← e]
  by_cases c : (x >>> ((nI k).toInt64 &&& 63)) &&& 1 = 1
  · rw [decide_eq_true c, (q_one _).mp c]
  · rw [decide_eq_false c]
    cases h : (x >>> ((nI k).toInt64 &&& 63)).toBitVec.getLsbD 0 with
    | false => rfl
    | true => exact absurd ((q_one _).mpr h) c
theorem hY_and (x y : Int64) {k : Nat} (hk : k < 64) : hY (x &&& y) (nI k) = (hY x (nI k) && hY y (nI k)) := by rw [hY_b _ hk, hY_b _ hk, hY_b _ hk, Int64.toBitVec_and, BitVec.getLsbD_and]
theorem hY_or (x y : Int64) {k : Nat} (hk : k < 64) : hY (x ||| y) (nI k) = (hY x (nI k) || hY y (nI k)) := by rw [hY_b _ hk, hY_b _ hk, hY_b _ hk, Int64.toBitVec_or, BitVec.getLsbD_or]
theorem hY_not (x : Int64) {k : Nat} (hk : k < 64) : hY (x ^^^ (-1)) (nI k) = !hY x (nI k) := by rw [hY_b _ hk, hY_b _ hk, Int64.toBitVec_xor, BitVec.getLsbD_xor, q_m1 k hk, Bool.xor_true]
theorem hY_0 {k : Nat} (hk : k < 64) : hY 0 (nI k) = false := by rw [hY_b _ hk]; exact BitVec.getLsbD_zero
theorem hY_ext {x y : Int64} (h : ∀ k, k < 64 → hY x (nI k) = hY y (nI k)) : x = y := by
  apply Int64.toBitVec_inj.mp
  apply BitVec.eq_of_getLsbD_eq
  intro i hi
  rw [← hY_b _ hi, ← hY_b _ hi]
  exact h i hi
theorem yB_m : ∀ n, n ≤ 58 → ((1 : Int64) <<< ((nI n).toInt64 &&& 63)) - 1 = Int64.ofNat (2 ^ n - 1) := by decide +kernel
theorem yB_k {a b k : Nat} (h : a ≤ b) (hb : b ≤ 57) (hk : k < 64) : hY (yB (nI a) (nI b)) (nI k) = (decide (a ≤ k) && decide (k ≤ b)) := by
  unfold yB
  rw [if_pos ((nI_leI (by omega) (by omega)).mpr h), pk_sub h, show nI (b - a) + nI 1 = nI (b - a + 1) from nI_1 _, yB_m _ (by omega), hY_b _ hk, Int64.toBitVec_shiftLeft, BitVec.shiftLeft_eq', q_c a (by omega), BitVec.getLsbD_shiftLeft]
  have e : (Int64.ofNat (2 ^ (b - a + 1) - 1)).toBitVec.getLsbD (k - a) = decide (k - a < b - a + 1) := by
    show (BitVec.ofNat 64 (2 ^ (b - a + 1) - 1)).getLsbD (k - a) = _
    rw [BitVec.getLsbD_ofNat, Nat.testBit_two_pow_sub_one]
    simp
    omega
  rw [e]
  by_cases c1 : a ≤ k
  · by_cases c2 : k ≤ b
    · simp [c1, c2, hk, show ¬ k < a by omega, show k - a < b - a + 1 by omega]
    · simp [c1, c2, hk, show ¬ k < a by omega, show ¬ k - a < b - a + 1 by omega]
  · simp [c1, show k < a by omega]
theorem hY_yB {a k : Nat} {b : Int32} (hb : b ≤ nI 57) (ha : a ≤ 57) (hk : k < 64) : hY (yB (nI a) b) (nI k) = (decide (a ≤ k) && decide (nI k ≤ b)) := by
  by_cases h : nI a ≤ b
  · obtain ⟨b', hb', rfl⟩ := nI_of (x := b) (fun z => by rw [Int32.le_iff_toInt_le, nI_toInt (by omega)] at h; rw [Int32.lt_iff_toInt_lt, Int32.toInt_zero] at z; omega)
    have h1 := (nI_leI (by omega) (by omega)).mp h
    have h2 := (nI_leI (by omega) (by omega)).mp hb
    rw [yB_k h1 h2 hk]
    congr 1
    exact decide_eq_decide.mpr (nI_leI (by omega) (by omega)).symm
  · have e : yB (nI a) b = 0 := if_neg h
    rw [e, hY_0 hk]
    by_cases c : a ≤ k
    · have : ¬ nI k ≤ b := fun z => h (by
        rw [Int32.le_iff_toInt_le] at z ⊢
        rw [nI_toInt (by omega)] at z ⊢
        omega)
      rw [decide_eq_false this, Bool.and_false]
    · rw [decide_eq_false c, Bool.false_and]
theorem le_sub {a b y : Nat} (ha : a ≤ 30000) (hb : b ≤ 30000) (hy : y ≤ 30000) : nI y ≤ nI a - nI b ↔ y + b ≤ a := by
  rw [Int32.le_iff_toInt_le, pk_sub_toInt (by omega) (by omega), nI_toInt (by omega)]
  omega
theorem sub_le {a b c : Nat} (ha : a ≤ c) (hb : b ≤ 30000) (hc : c ≤ 30000) : nI a - nI b ≤ nI c := by
  rw [Int32.le_iff_toInt_le, pk_sub_toInt (by omega) (by omega), nI_toInt (by omega)]
  omega
