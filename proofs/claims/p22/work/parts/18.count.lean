/-! how many bits a long has -/
theorem wb_tb (n : Nat) : (lN n).toBitVec = BitVec.ofNat 64 n := rfl
theorem wb_inj {a b : Int64} (h : a.toBitVec = b.toBitVec) : a = b := Int64.toBitVec_inj.mp h
theorem wb_tn {n : Nat} (h : n < 2 ^ 64) : (lN n).toBitVec.toNat = n := by rw [wb_tb, BitVec.toNat_ofNat, Nat.mod_eq_of_lt h]
theorem wb_of (x : Int64) : ∃ n, n < 2 ^ 64 ∧ x = lN n := ⟨x.toBitVec.toNat, x.toBitVec.isLt, wb_inj (by rw [wb_tb]; simp)⟩
theorem wb_cu : ∀ k, k < 64 → ((nI k).toInt64.toUInt64 &&& Int64.toUInt64 63) = UInt64.ofNat k := by decide +kernel
theorem wb_shr {n k : Nat} (hn : n < 2 ^ 64) (hk : k < 64) : ((lN n).toUInt64 >>> ((nI k).toInt64.toUInt64 &&& Int64.toUInt64 63)).toInt64 = lN (n / 2 ^ k) := by
  rw [wb_cu k hk]
  apply wb_inj
  apply BitVec.eq_of_toNat_eq
  show ((lN n).toUInt64 >>> UInt64.ofNat k).toNat = (BitVec.ofNat 64 _).toNat
  have h1 : (UInt64.ofNat k).toNat = k := by
    show (BitVec.ofNat 64 k).toNat = k
    rw [BitVec.toNat_ofNat, Nat.mod_eq_of_lt (by omega)]
  have h2 : (lN n).toUInt64.toNat = n := wb_tn hn
  rw [UInt64.toNat_shiftRight, h1, h2, Nat.mod_eq_of_lt hk, Nat.shiftRight_eq_div_pow, BitVec.toNat_ofNat, Nat.mod_eq_of_lt (Nat.lt_of_le_of_lt (Nat.div_le_self _ _) hn)]
theorem wb_and {a b : Nat} (ha : a < 2 ^ 64) (hb : b < 2 ^ 64) : lN a &&& lN b = lN (a &&& b) := by
  apply wb_inj
  rw [Int64.toBitVec_and, wb_tb, wb_tb, wb_tb]
  apply BitVec.eq_of_toNat_eq
  rw [BitVec.toNat_and, BitVec.toNat_ofNat, BitVec.toNat_ofNat, BitVec.toNat_ofNat, Nat.mod_eq_of_lt ha, Nat.mod_eq_of_lt hb, Nat.mod_eq_of_lt (Nat.and_lt_two_pow _ hb)]
theorem wl_add (a b : Nat) : lN a + lN b = lN (a + b) := (Int64.ofNat_add a b).symm
theorem wl_sub {a b : Nat} (h : b ≤ a) : lN a - lN b = lN (a - b) := by
  obtain ⟨c, rfl⟩ : ∃ c, a = c + b := ⟨a - b, by omega⟩
  rw [← wl_add, Int64.add_sub_cancel, Nat.add_sub_cancel]
theorem wl_ul {n k : Nat} (hn : n < 2 ^ 64) (hk : k < 64) : ul (lN n) (nI k) = lN (n / 2 ^ k) := wb_shr hn hk
theorem wl_127 {n : Nat} : (lN n).toInt32 &&& nI 127 = nI (n % 128) := by
  apply Int32.toBitVec_inj.mp
  apply BitVec.eq_of_getLsbD_eq
  intro i hi
  rw [Int32.toBitVec_and, BitVec.getLsbD_and]
  show (((lN n).toBitVec.signExtend 32).getLsbD i && (BitVec.ofNat 32 (2 ^ 7 - 1)).getLsbD i) = (BitVec.ofNat 32 (n % 2 ^ 7)).getLsbD i
  rw [BitVec.getLsbD_signExtend, wb_tb, BitVec.getLsbD_ofNat, BitVec.getLsbD_ofNat, BitVec.getLsbD_ofNat, Nat.testBit_two_pow_sub_one, Nat.testBit_mod_two_pow]
  simp [hi, show i < 64 by omega, Bool.and_comm]
/-! bytes -/
def rp (c : Nat) : Nat → Nat
  | 0 => 0
  | n + 1 => c + 256 * rp c n
def dg (f : Nat → Nat) : Nat → Nat → Nat
  | 0, _ => 0
  | n + 1, x => f (x % 256) + 256 * dg f n (x / 256)
theorem and_sp (X Y : Nat) : X &&& Y = (X % 256 &&& Y % 256) + 256 * (X / 256 &&& Y / 256) := by
  have h1 : (X &&& Y) % 2 ^ 8 = X % 2 ^ 8 &&& Y % 2 ^ 8 := Nat.and_mod_two_pow
  have h2 : (X &&& Y) / 2 ^ 8 = X / 2 ^ 8 &&& Y / 2 ^ 8 := Nat.and_div_two_pow
  have h3 := Nat.div_add_mod (X &&& Y) 256
  rw [show (256 : Nat) = 2 ^ 8 from rfl] at h3 ⊢
  rw [h1, h2] at h3
  omega
theorem and_rp {c : Nat} (hc : c < 256) (X n : Nat) : X &&& rp c (n + 1) = (X % 256 &&& c) + 256 * (X / 256 &&& rp c n) := by
  rw [and_sp X (rp c (n + 1)), show rp c (n + 1) = c + 256 * rp c n from rfl, show (c + 256 * rp c n) % 256 = c by omega, show (c + 256 * rp c n) / 256 = rp c n by omega]
theorem k85 : ∀ a, a < 128 → ∀ e, e < 2 → (a + 128 * e) &&& 85 = a &&& 85 := by decide +kernel
theorem k51 : ∀ a, a < 64 → ∀ e, e < 4 → (a + 64 * e) &&& 51 = a &&& 51 := by decide +kernel
def s1 (a : Nat) : Nat := a - (a / 2 &&& 85)
def s2 (a : Nat) : Nat := (a &&& 51) + (a / 4 &&& 51)
def s3 (a : Nat) : Nat := (a + a / 16) % 16
theorem d1 : ∀ n x, x < 256 ^ n → (x / 2 &&& rp 85 n) ≤ x ∧ x - (x / 2 &&& rp 85 n) = dg s1 n x
  | 0, x, h => by
    have : x = 0 := by simpa using h
    subst this
    exact ⟨by decide, rfl⟩
  | n + 1, x, h => by
    have hx : x / 256 < 256 ^ n := by rw [Nat.pow_succ] at h; exact (Nat.div_lt_iff_lt_mul (by decide)).mpr h
    obtain ⟨h1, h2⟩ := d1 n (x / 256) hx
    have e := and_rp (c := 85) (by decide) (x / 2) n
    rw [show x / 2 % 256 = x % 256 / 2 + 128 * (x / 256 % 2) by omega, show x / 2 / 256 = x / 256 / 2 by omega, k85 _ (by omega) _ (by omega)] at e
    have h3 : (x % 256 / 2 &&& 85) ≤ x % 256 / 2 := Nat.and_le_left
    rw [e]
    rw [show dg s1 (n + 1) x = s1 (x % 256) + 256 * dg s1 n (x / 256) from rfl, ← h2]
    unfold s1
    generalize (x % 256 / 2 &&& 85) = A at *
    generalize (x / 256 / 2 &&& rp 85 n) = B at *
    omega
theorem d2 : ∀ n x, (x &&& rp 51 n) + (x / 4 &&& rp 51 n) = dg s2 n x
  | 0, x => by show (x &&& 0) + (x / 4 &&& 0) = 0; rw [Nat.and_zero, Nat.and_zero]
  | n + 1, x => by
    have h2 := d2 n (x / 256)
    have e := and_rp (c := 51) (by decide) (x / 4) n
    rw [show x / 4 % 256 = x % 256 / 4 + 64 * (x / 256 % 4) by omega, show x / 4 / 256 = x / 256 / 4 by omega, k51 _ (by omega) _ (by omega)] at e
    rw [e, and_rp (by decide) x n]
    rw [show dg s2 (n + 1) x = s2 (x % 256) + 256 * dg s2 n (x / 256) from rfl, ← h2]
    unfold s2
    generalize (x % 256 / 4 &&& 51) = A at *
    generalize (x / 256 / 4 &&& rp 51 n) = B at *
    omega
def okn : Nat → Nat → Prop
  | 0, x => x = 0
  | n + 1, x => x % 256 % 16 ≤ 4 ∧ x % 256 / 16 ≤ 4 ∧ okn n (x / 256)
theorem okn_lo : ∀ n x, okn n x → x % 16 ≤ 4
  | 0, x, h => by have : x = 0 := h; omega
  | n + 1, x, h => by have := h.1; omega
theorem d3 : ∀ n x, okn n x → (x + x / 16) &&& rp 15 n = dg s3 n x
  | 0, x, _ => by show _ &&& 0 = 0; rw [Nat.and_zero]
  | n + 1, x, h => by
    obtain ⟨h1, h2, h3⟩ := h
    have h4 := okn_lo n _ h3
    have ih := d3 n (x / 256) h3
    have a15 : ∀ X : Nat, X &&& 15 = X % 16 := fun X => Nat.and_two_pow_sub_one_eq_mod X 4
    rw [and_rp (by decide) _ n, a15]
    rw [show dg s3 (n + 1) x = s3 (x % 256) + 256 * dg s3 n (x / 256) from rfl, ← ih, show (x + x / 16) / 256 = x / 256 + x / 256 / 16 by omega]
    unfold s3
    generalize (x / 256 + x / 256 / 16 &&& rp 15 n) = B
    omega
theorem dg_dg {f g : Nat → Nat} (hg : ∀ b, b < 256 → g b < 256) : ∀ n x, dg f n (dg g n x) = dg (fun b => f (g b)) n x
  | 0, _ => rfl
  | n + 1, x => by
    have h := hg (x % 256) (Nat.mod_lt _ (by decide))
    show f (dg g (n + 1) x % 256) + 256 * dg f n (dg g (n + 1) x / 256) = f (g (x % 256)) + 256 * dg (fun b => f (g b)) n (x / 256)
    rw [← dg_dg hg n (x / 256), show dg g (n + 1) x = g (x % 256) + 256 * dg g n (x / 256) from rfl, show (g (x % 256) + 256 * dg g n (x / 256)) % 256 = g (x % 256) by omega, show (g (x % 256) + 256 * dg g n (x / 256)) / 256 = dg g n (x / 256) by omega]
theorem okn_dg {g : Nat → Nat} (hg : ∀ b, b < 256 → g b < 256 ∧ g b % 16 ≤ 4 ∧ g b / 16 ≤ 4) : ∀ n x, okn n (dg g n x)
  | 0, _ => rfl
  | n + 1, x => by
    obtain ⟨h1, h2, h3⟩ := hg (x % 256) (Nat.mod_lt _ (by decide))
    have e1 : (g (x % 256) + 256 * dg g n (x / 256)) % 256 = g (x % 256) := by omega
    have e2 : (g (x % 256) + 256 * dg g n (x / 256)) / 256 = dg g n (x / 256) := by omega
    show (g (x % 256) + 256 * dg g n (x / 256)) % 256 % 16 ≤ 4 ∧ (g (x % 256) + 256 * dg g n (x / 256)) % 256 / 16 ≤ 4 ∧ okn n ((g (x % 256) + 256 * dg g n (x / 256)) / 256)
    rw [e1, e2]
    exact ⟨h2, h3, okn_dg hg n _⟩
theorem dg_cong {f g : Nat → Nat} (h : ∀ b, b < 256 → f b = g b) : ∀ n x, dg f n x = dg g n x
  | 0, _ => rfl
  | n + 1, x => by unfold dg; rw [h _ (Nat.mod_lt _ (by decide)), dg_cong h n]
theorem dg_lt {f : Nat → Nat} (h : ∀ b, b < 256 → f b < 256) : ∀ n x, dg f n x < 256 ^ n
  | 0, _ => Nat.zero_lt_one
  | n + 1, x => by
    have h1 := dg_lt h n (x / 256)
    have h2 := h (x % 256) (Nat.mod_lt _ (by decide))
    unfold dg
    rw [Nat.pow_succ]
    omega
def pc8 (b : Nat) : Nat := b % 2 + (b / 2 % 2 + (b / 4 % 2 + (b / 8 % 2 + (b / 16 % 2 + (b / 32 % 2 + (b / 64 % 2 + b / 128 % 2))))))
theorem byte_1 : ∀ b, b < 256 → s1 b < 256 := by decide +kernel
theorem byte_2 : ∀ b, b < 256 → s2 (s1 b) < 256 ∧ s2 (s1 b) % 16 ≤ 4 ∧ s2 (s1 b) / 16 ≤ 4 := by decide +kernel
theorem byte_3 : ∀ b, b < 256 → s3 (s2 (s1 b)) = pc8 b := by decide +kernel
theorem byte_4 (b : Nat) : pc8 b ≤ 8 := by unfold pc8; omega
def bcn : Nat → Nat → Nat
  | 0, _ => 0
  | n + 1, N => N % 2 + bcn n (N / 2)
theorem bcn_8 (n N : Nat) : bcn (n + 8) N = pc8 (N % 256) + bcn n (N / 256) := by
  show N % 2 + (N / 2 % 2 + (N / 2 / 2 % 2 + (N / 2 / 2 / 2 % 2 + (N / 2 / 2 / 2 / 2 % 2 + (N / 2 / 2 / 2 / 2 / 2 % 2 + (N / 2 / 2 / 2 / 2 / 2 / 2 % 2 + (N / 2 / 2 / 2 / 2 / 2 / 2 / 2 % 2 + bcn n (N / 2 / 2 / 2 / 2 / 2 / 2 / 2 / 2)))))))) = _
  unfold pc8
  rw [show N / 2 / 2 / 2 / 2 / 2 / 2 / 2 / 2 = N / 256 by omega]
  omega
theorem wc_sh (p : Nat → Bool) : ∀ n, wc p (n + 1) = (if p 0 = true then 1 else 0) + wc (fun k => p (k + 1)) n
  | 0 => by show (if p 0 = true then 0 + 1 else 0) = _; split <;> rfl
  | n + 1 => by
    have ih := wc_sh p n
    show (if p (n + 1) = true then wc p (n + 1) + 1 else wc p (n + 1)) = _ + (if p (n + 1) = true then wc (fun k => p (k + 1)) n + 1 else wc (fun k => p (k + 1)) n)
    rw [ih]
    split <;> split <;> omega
theorem bcn_wc : ∀ n N, bcn n N = wc (fun k => N.testBit k) n
  | 0, _ => rfl
  | n + 1, N => by
    rw [wc_sh]
    show N % 2 + bcn n (N / 2) = (if N.testBit 0 = true then 1 else 0) + wc (fun k => N.testBit (k + 1)) n
    rw [bcn_wc n (N / 2), wc_cong n (fun k _ => (Nat.testBit_succ N k).symm), Nat.testBit_zero]
    congr 1
    by_cases c : N % 2 = 1
    · rw [c]; rfl
    · rw [show N % 2 = 0 by omega]; rfl
theorem dv_m {d m q : Nat} (h : d < m) : (d + m * q) / m = q := by
  rw [Nat.add_mul_div_left _ _ (by omega), Nat.div_eq_of_lt h, Nat.zero_add]
theorem pop_z {c0 c1 c2 c3 c4 c5 c6 c7 y : Nat} (h0 : c0 ≤ 8) (hy : y = c0 + 256 * (c1 + 256 * (c2 + 256 * (c3 + 256 * (c4 + 256 * (c5 + 256 * (c6 + 256 * (c7 + 256 * 0)))))))) : y + y / 256 = ((c0 + c1) + 256 * (c1 + c2)) + 65536 * ((c2 + c3) + 256 * ((c3 + c4) + 256 * ((c4 + c5) + 256 * ((c5 + c6) + 256 * ((c6 + c7) + 256 * c7))))) := by
  have e : y / 256 = c1 + 256 * (c2 + 256 * (c3 + 256 * (c4 + 256 * (c5 + 256 * (c6 + 256 * (c7 + 256 * 0)))))) := by rw [hy]; exact dv_m (by omega)
  rw [e, hy]
  clear e hy h0
  omega
theorem pop_w {c0 c1 c2 c3 c4 c5 c6 c7 z : Nat} (h0 : c0 ≤ 8) (h1 : c1 ≤ 8) (h2 : c2 ≤ 8) (hz : z = ((c0 + c1) + 256 * (c1 + c2)) + 65536 * ((c2 + c3) + 256 * ((c3 + c4) + 256 * ((c4 + c5) + 256 * ((c5 + c6) + 256 * ((c6 + c7) + 256 * c7)))))) : z + z / 65536 = ((c0 + c1 + c2 + c3) + 256 * (c1 + c2 + c3 + c4) + 65536 * (c2 + c3 + c4 + c5) + 16777216 * (c3 + c4 + c5 + c6)) + 4294967296 * ((c4 + c5 + c6 + c7) + 256 * ((c5 + c6 + c7) + 256 * ((c6 + c7) + 256 * c7))) := by
  have e : z / 65536 = (c2 + c3) + 256 * ((c3 + c4) + 256 * ((c4 + c5) + 256 * ((c5 + c6) + 256 * ((c6 + c7) + 256 * c7)))) := by rw [hz]; exact dv_m (by omega)
  rw [e, hz]
  clear e hz h0 h1 h2
  omega
theorem pop_v {c0 c1 c2 c3 c4 c5 c6 c7 w : Nat} (h0 : c0 ≤ 8) (h1 : c1 ≤ 8) (h2 : c2 ≤ 8) (h3 : c3 ≤ 8) (h4 : c4 ≤ 8) (h5 : c5 ≤ 8) (h6 : c6 ≤ 8) (h7 : c7 ≤ 8) (hw : w = ((c0 + c1 + c2 + c3) + 256 * (c1 + c2 + c3 + c4) + 65536 * (c2 + c3 + c4 + c5) + 16777216 * (c3 + c4 + c5 + c6)) + 4294967296 * ((c4 + c5 + c6 + c7) + 256 * ((c5 + c6 + c7) + 256 * ((c6 + c7) + 256 * c7)))) : (w + w / 4294967296) % 128 = c0 + (c1 + (c2 + (c3 + (c4 + (c5 + (c6 + (c7 + 0))))))) := by
  have e : w / 4294967296 = (c4 + c5 + c6 + c7) + 256 * ((c5 + c6 + c7) + 256 * ((c6 + c7) + 256 * c7)) := by rw [hw]; exact dv_m (by omega)
  have e2 : w + w / 4294967296 = (c0 + c1 + c2 + c3 + (c4 + c5 + c6 + c7)) + 128 * (2 * ((c1 + c2 + c3 + c4) + 256 * (c2 + c3 + c4 + c5) + 65536 * (c3 + c4 + c5 + c6) + 16777216 * ((c4 + c5 + c6 + c7) + 256 * ((c5 + c6 + c7) + 256 * ((c6 + c7) + 256 * c7))) + ((c5 + c6 + c7) + 256 * ((c6 + c7) + 256 * c7)))) := by
    rw [e, hw]
    clear e hw h0 h1 h2 h3 h4 h5 h6 h7
    omega
  clear e hw
  rw [e2, Nat.add_mul_mod_self_left]
  clear e2
  rw [Nat.mod_eq_of_lt (by omega)]
  omega
theorem dg_85 {f : Nat → Nat} (h : ∀ b, b < 256 → f b ≤ 85) : ∀ n x, 3 * dg f n x + 1 ≤ 256 ^ n
  | 0, _ => Nat.le_refl _
  | n + 1, x => by
    have h1 := dg_85 h n (x / 256)
    have h2 := h (x % 256) (Nat.mod_lt _ (by decide))
    rw [show dg f (n + 1) x = f (x % 256) + 256 * dg f n (x / 256) from rfl, Nat.pow_succ]
    omega
theorem byte_5 : ∀ b, b < 256 → s2 (s1 b) ≤ 85 := by decide +kernel
theorem swL_wc (x : Int64) : swL x = nI (wc (fun k => hY x (nI k)) 64) := by
  obtain ⟨N, hN, rfl⟩ := wb_of x
  have e0 : wc (fun k => hY (lN N) (nI k)) 64 = bcn 64 N := by
    rw [bcn_wc]
    refine wc_cong 64 (fun k hk => ?_)
    rw [hY_b _ hk, wb_tb, BitVec.getLsbD_ofNat, decide_eq_true hk, Bool.true_and]
  have hN8 : N < 256 ^ 8 := hN
  obtain ⟨l1, v1⟩ := d1 8 N hN8
  have b1 : sl1 (lN N) = lN (dg s1 8 N) := by
    unfold sl1
    rw [wl_ul hN (by decide), show (6148914691236517205 : Int64) = lN (rp 85 8) by decide +kernel, wb_and (Nat.lt_of_le_of_lt (Nat.div_le_self _ _) hN) (by decide +kernel), show N / 2 ^ 1 = N / 2 from rfl, wl_sub l1, v1]
  have t1 : dg s1 8 N < 2 ^ 64 := dg_lt byte_1 8 N
  have b2 : sl2 (lN (dg s1 8 N)) = lN (dg (fun b => s2 (s1 b)) 8 N) := by
    unfold sl2
    rw [wl_ul t1 (by decide), show (3689348814741910323 : Int64) = lN (rp 51 8) by decide +kernel, wb_and t1 (by decide +kernel), wb_and (Nat.lt_of_le_of_lt (Nat.div_le_self _ _) t1) (by decide +kernel), wl_add, show dg s1 8 N / 2 ^ 2 = dg s1 8 N / 4 from rfl, d2, dg_dg byte_1]
  have t2 : dg (fun b => s2 (s1 b)) 8 N < 2 ^ 64 := dg_lt (fun b hb => (byte_2 b hb).1) 8 N
  have t2b : dg (fun b => s2 (s1 b)) 8 N + dg (fun b => s2 (s1 b)) 8 N / 16 < 2 ^ 64 := by
    have h := dg_85 byte_5 8 N
    have h256 : (256 : Nat) ^ 8 = 18446744073709551616 := by decide
    rw [h256] at h
    show _ < 18446744073709551616
    omega
  have b3 : sl3 (lN (dg (fun b => s2 (s1 b)) 8 N)) = lN (dg pc8 8 N) := by
    unfold sl3
    rw [wl_ul t2 (by decide), wl_add, show (1085102592571150095 : Int64) = lN (rp 15 8) by decide +kernel, show dg (fun b => s2 (s1 b)) 8 N / 2 ^ 4 = dg (fun b => s2 (s1 b)) 8 N / 16 from rfl, wb_and t2b (by decide +kernel), d3 8 _ (okn_dg byte_2 8 N), dg_dg (fun b hb => (byte_2 b hb).1), dg_cong byte_3]
  have e9 : bcn 64 N = pc8 (N % 256) + (pc8 (N / 256 % 256) + (pc8 (N / 256 / 256 % 256) + (pc8 (N / 256 / 256 / 256 % 256) + (pc8 (N / 256 / 256 / 256 / 256 % 256) + (pc8 (N / 256 / 256 / 256 / 256 / 256 % 256) + (pc8 (N / 256 / 256 / 256 / 256 / 256 / 256 % 256) + (pc8 (N / 256 / 256 / 256 / 256 / 256 / 256 / 256 % 256) + 0))))))) := by
    rw [bcn_8 56, bcn_8 48, bcn_8 40, bcn_8 32, bcn_8 24, bcn_8 16, bcn_8 8, bcn_8 0]
    rfl
  have c0 := byte_4 (N % 256)
  have c1 := byte_4 (N / 256 % 256)
  have c2 := byte_4 (N / 256 / 256 % 256)
  have c3 := byte_4 (N / 256 / 256 / 256 % 256)
  have c4 := byte_4 (N / 256 / 256 / 256 / 256 % 256)
  have c5 := byte_4 (N / 256 / 256 / 256 / 256 / 256 % 256)
  have c6 := byte_4 (N / 256 / 256 / 256 / 256 / 256 / 256 % 256)
  have c7 := byte_4 (N / 256 / 256 / 256 / 256 / 256 / 256 / 256 % 256)
  have hy : dg pc8 8 N = pc8 (N % 256) + 256 * (pc8 (N / 256 % 256) + 256 * (pc8 (N / 256 / 256 % 256) + 256 * (pc8 (N / 256 / 256 / 256 % 256) + 256 * (pc8 (N / 256 / 256 / 256 / 256 % 256) + 256 * (pc8 (N / 256 / 256 / 256 / 256 / 256 % 256) + 256 * (pc8 (N / 256 / 256 / 256 / 256 / 256 / 256 % 256) + 256 * (pc8 (N / 256 / 256 / 256 / 256 / 256 / 256 / 256 % 256) + 256 * 0))))))) := rfl
  unfold swL
  rw [b1, b2, b3, e0, e9]
  clear b1 b2 b3 e0 e9 t1 t2 t2b l1 v1
  generalize dg pc8 8 N = y at *
  generalize pc8 (N % 256) = a0 at *
  generalize pc8 (N / 256 % 256) = a1 at *
  generalize pc8 (N / 256 / 256 % 256) = a2 at *
  generalize pc8 (N / 256 / 256 / 256 % 256) = a3 at *
  generalize pc8 (N / 256 / 256 / 256 / 256 % 256) = a4 at *
  generalize pc8 (N / 256 / 256 / 256 / 256 / 256 % 256) = a5 at *
  generalize pc8 (N / 256 / 256 / 256 / 256 / 256 / 256 % 256) = a6 at *
  generalize pc8 (N / 256 / 256 / 256 / 256 / 256 / 256 / 256 % 256) = a7 at *
  have y1 : y < 2 ^ 64 := by
    rw [hy]
    clear hy hN hN8
    show _ < 18446744073709551616
    omega
  have z1 := pop_z c0 hy
  have z2 : y + y / 256 < 2 ^ 64 := by rw [z1]; clear z1 y1 hy hN hN8; show _ < 18446744073709551616; omega
  unfold sl4
  rw [wl_ul y1 (by decide), wl_add, show y / 2 ^ 8 = y / 256 from rfl]
  generalize y + y / 256 = z at *
  have w1 := pop_w c0 c1 c2 z1
  have w2 : z + z / 65536 < 2 ^ 64 := by rw [w1]; clear w1 z1 z2 y1 hy hN hN8; show _ < 18446744073709551616; omega
  unfold sl5
  rw [wl_ul z2 (by decide), wl_add, show z / 2 ^ 16 = z / 65536 from rfl]
  generalize z + z / 65536 = w at *
  unfold sl6
  rw [wl_ul w2 (by decide), wl_add, show w / 2 ^ 32 = w / 4294967296 from rfl, wl_127, pop_v c0 c1 c2 c3 c4 c5 c6 c7 w1]
