/-! a long's bits counted; doubles -/
theorem swL_wc (x : Int64) : swL x = nI (wc (fun k => hY x (nI k)) 64) := by
  obtain ⟨N, hN, rfl⟩ := wb_of x
  have e0 : wc (fun k => hY (lN N) (nI k)) 64 = bcn 64 N := by
    rw [bcn_wc]
    refine wc_cong 64 (fun k hk => ?_)
    rw [hY_b _ hk, wb_tb, BitVec.getLsbD_ofNat, decide_eq_true hk, Bool.true_and]
  have hN8 : N < 256 ^ 8 := hN
  obtain ⟨l1, v1⟩ := d1 8 N hN8
  have b1 : sl1 (lN N) = lN (dg s1 8 N) := by
    unfold sl1
    rw [wl_ul hN (by decide), show (6148914691236517205 : Int64) = lN (rp 85 8) by decide +kernel, wb_and (Nat.lt_of_le_of_lt (Nat.div_le_self _ _) hN) (by decide +kernel), show N / 2 ^ 1 = N / 2 from rfl, wl_sub l1, v1]
  have t1 : dg s1 8 N < 2 ^ 64 := dg_lt byte_1 8 N
  have b2 : sl2 (lN (dg s1 8 N)) = lN (dg (fun b => s2 (s1 b)) 8 N) := by
    unfold sl2
    rw [wl_ul t1 (by decide), show (3689348814741910323 : Int64) = lN (rp 51 8) by decide +kernel, wb_and t1 (by decide +kernel), wb_and (Nat.lt_of_le_of_lt (Nat.div_le_self _ _) t1) (by decide +kernel), wl_add, show dg s1 8 N / 2 ^ 2 = dg s1 8 N / 4 from rfl, d2, dg_dg byte_1]
  have t2 : dg (fun b => s2 (s1 b)) 8 N < 2 ^ 64 := dg_lt (fun b hb => (byte_2 b hb).1) 8 N
  have t2b : dg (fun b => s2 (s1 b)) 8 N + dg (fun b => s2 (s1 b)) 8 N / 16 < 2 ^ 64 := by
    have h := dg_85 byte_5 8 N
    have h256 : (256 : Nat) ^ 8 = 18446744073709551616 := by decide
    rw [h256] at h
    show _ < 18446744073709551616
    omega
  have b3 : sl3 (lN (dg (fun b => s2 (s1 b)) 8 N)) = lN (dg pc8 8 N) := by
    unfold sl3
    rw [wl_ul t2 (by decide), wl_add, show (1085102592571150095 : Int64) = lN (rp 15 8) by decide +kernel, show dg (fun b => s2 (s1 b)) 8 N / 2 ^ 4 = dg (fun b => s2 (s1 b)) 8 N / 16 from rfl, wb_and t2b (by decide +kernel), d3 8 _ (okn_dg byte_2 8 N), dg_dg (fun b hb => (byte_2 b hb).1), dg_cong byte_3]
  have e9 : bcn 64 N = pc8 (N % 256) + (pc8 (N / 256 % 256) + (pc8 (N / 256 / 256 % 256) + (pc8 (N / 256 / 256 / 256 % 256) + (pc8 (N / 256 / 256 / 256 / 256 % 256) + (pc8 (N / 256 / 256 / 256 / 256 / 256 % 256) + (pc8 (N / 256 / 256 / 256 / 256 / 256 / 256 % 256) + (pc8 (N / 256 / 256 / 256 / 256 / 256 / 256 / 256 % 256) + 0))))))) := by
    rw [bcn_8 56, bcn_8 48, bcn_8 40, bcn_8 32, bcn_8 24, bcn_8 16, bcn_8 8, bcn_8 0]
    rfl
  have c0 := byte_4 (N % 256)
  have c1 := byte_4 (N / 256 % 256)
  have c2 := byte_4 (N / 256 / 256 % 256)
  have c3 := byte_4 (N / 256 / 256 / 256 % 256)
  have c4 := byte_4 (N / 256 / 256 / 256 / 256 % 256)
  have c5 := byte_4 (N / 256 / 256 / 256 / 256 / 256 % 256)
  have c6 := byte_4 (N / 256 / 256 / 256 / 256 / 256 / 256 % 256)
  have c7 := byte_4 (N / 256 / 256 / 256 / 256 / 256 / 256 / 256 % 256)
  have hy : dg pc8 8 N = pc8 (N % 256) + 256 * (pc8 (N / 256 % 256) + 256 * (pc8 (N / 256 / 256 % 256) + 256 * (pc8 (N / 256 / 256 / 256 % 256) + 256 * (pc8 (N / 256 / 256 / 256 / 256 % 256) + 256 * (pc8 (N / 256 / 256 / 256 / 256 / 256 % 256) + 256 * (pc8 (N / 256 / 256 / 256 / 256 / 256 / 256 % 256) + 256 * (pc8 (N / 256 / 256 / 256 / 256 / 256 / 256 / 256 % 256) + 256 * 0))))))) := rfl
  unfold swL
  rw [b1, b2, b3, e0, e9]
  clear b1 b2 b3 e0 e9 t1 t2 t2b l1 v1
  generalize dg pc8 8 N = y at *
  generalize pc8 (N % 256) = a0 at *
  generalize pc8 (N / 256 % 256) = a1 at *
  generalize pc8 (N / 256 / 256 % 256) = a2 at *
  generalize pc8 (N / 256 / 256 / 256 % 256) = a3 at *
  generalize pc8 (N / 256 / 256 / 256 / 256 % 256) = a4 at *
  generalize pc8 (N / 256 / 256 / 256 / 256 / 256 % 256) = a5 at *
  generalize pc8 (N / 256 / 256 / 256 / 256 / 256 / 256 % 256) = a6 at *
  generalize pc8 (N / 256 / 256 / 256 / 256 / 256 / 256 / 256 % 256) = a7 at *
  have y1 : y < 2 ^ 64 := by
    rw [hy]
    clear hy hN hN8
    show _ < 18446744073709551616
    omega
  have z1 := pop_z c0 hy
  have z2 : y + y / 256 < 2 ^ 64 := by rw [z1]; clear z1 y1 hy hN hN8; show _ < 18446744073709551616; omega
  unfold sl4
  rw [wl_ul y1 (by decide), wl_add, show y / 2 ^ 8 = y / 256 from rfl]
  generalize y + y / 256 = z at *
  have w1 := pop_w c0 c1 c2 z1
  have w2 : z + z / 65536 < 2 ^ 64 := by rw [w1]; clear w1 z1 z2 y1 hy hN hN8; show _ < 18446744073709551616; omega
  unfold sl5
  rw [wl_ul z2 (by decide), wl_add, show z / 2 ^ 16 = z / 65536 from rfl]
  generalize z + z / 65536 = w at *
  unfold sl6
  rw [wl_ul w2 (by decide), wl_add, show w / 2 ^ 32 = w / 4294967296 from rfl, wl_127, pop_v c0 c1 c2 c3 c4 c5 c6 c7 w1]
section ID
variable {V : zV} {nc K : Nat} {M : Nat → Nat → Int32}
theorem cDb_k (I : Inv V nc M K) {t g y : Nat} (ht : t < 20) (hy : y ≤ 55) (hg : g ≤ 3) : ∀ n, n ≤ vNp V → hY (cDb V t g n).1 (nI y) = decide (1 ≤ wc (fun k => mLets M k g && mCov M nc k t y (vTd V)) n) ∧ hY (cDb V t g n).2 (nI y) = decide (2 ≤ wc (fun k => mLets M k g && mCov M nc k t y (vTd V)) n)
  | 0, _ => ⟨hY_0 (by omega), hY_0 (by omega)⟩
  | n + 1, h => by
    obtain ⟨i1, i2⟩ := cDb_k I (y := y) ht hy hg n (by omega)
    have e1 := i_let I (q := n) (by omega) hg
    have e2 := i_PC I (q := n) (by omega) ht hy I.1.2.2.1
    unfold cDb wc
    by_cases c : zlb (vP V n).2.2.1 g = true
    · rw [if_pos c, hY_or _ _ (by omega), hY_or _ _ (by omega), hY_and _ _ (by omega), i1, i2, e2, e1, c, Bool.true_and]
      generalize wc (fun k => mLets M k g && mCov M nc k t y (vTd V)) n = a
      cases mCov M nc n t y (vTd V) with
      | true =>
        rw [if_pos rfl, Bool.or_true, Bool.and_true]
        refine ⟨(decide_eq_true (by omega)).symm, ?_⟩
        by_cases z : 1 ≤ a
        · rw [decide_eq_true z, Bool.or_true]; exact (decide_eq_true (by omega)).symm
        · rw [decide_eq_false z, Bool.or_false]; exact decide_eq_decide.mpr (by omega)
      | false =>
        rw [if_neg (by decide), Bool.or_false, Bool.and_false, Bool.or_false]
        exact ⟨rfl, rfl⟩
    · rw [if_neg c, if_neg (fun z => c (by rw [Bool.and_eq_true, e1] at z; exact z.1))]
      exact ⟨i1, i2⟩
theorem i_dbl (I : Inv V nc M K) {t g : Nat} (ht : t < vNt V) (hg : g ≤ 3) : swL ((cDb V t g (vNp V)).2 &&& zYs V t) = nI (mDb M nc (vNp V) t g (vTd V) (vT V t).1 (vTd V / 360 + 1 - (vT V t).1)) := by
  have h20 := I.1.2.2.2.1
  have htd := I.1.2.2.1
  rw [swL_wc]
  congr 1
  have main : ∀ n, n ≤ 64 → wc (fun k => hY ((cDb V t g (vNp V)).2 &&& zYs V t) (nI k)) n = mDb M nc (vNp V) t g (vTd V) (vT V t).1 (min n (vTd V / 360 + 1) - (vT V t).1) := by
    intro n
    induction n with
    | zero => intro _; rw [show min 0 (vTd V / 360 + 1) - (vT V t).1 = 0 by omega]; rfl
    | succ n ih =>
      intro hn
      unfold wc
      rw [ih (by omega), hY_and _ _ (by omega), zYs_k I ht (by omega)]
      by_cases c : (vT V t).1 ≤ n ∧ n ≤ vTd V / 360
      · rw [(cDb_k I (by omega) (by omega) hg (vNp V) (Nat.le_refl _)).2, decide_eq_true c.1, decide_eq_true c.2, Bool.and_self, Bool.and_true, show min (n + 1) (vTd V / 360 + 1) - (vT V t).1 = (n - (vT V t).1) + 1 by omega, show min n (vTd V / 360 + 1) - (vT V t).1 = n - (vT V t).1 by omega]
        conv => rhs; unfold mDb
        rw [show (vT V t).1 + (n - (vT V t).1) = n by omega, mWays_wc]
        by_cases z : 2 ≤ wc (fun k => mLets M k g && mCov M nc k t n (vTd V)) (vNp V)
        · rw [if_pos (decide_eq_true z), if_pos (show 1 < wc (fun k => mLets M k g && mCov M nc k t n (vTd V)) (vNp V) from z)]
        · rw [if_neg (fun y => z (of_decide_eq_true y)), if_neg (show ¬ 1 < wc (fun k => mLets M k g && mCov M nc k t n (vTd V)) (vNp V) from z)]
      · have e : (decide ((vT V t).1 ≤ n) && decide (n ≤ vTd V / 360)) = false := by
          cases h : (decide ((vT V t).1 ≤ n) && decide (n ≤ vTd V / 360)) with
          | false => rfl
          | true =>
            rw [Bool.and_eq_true, decide_eq_true_iff, decide_eq_true_iff] at h
            exact absurd h c
        rw [e, Bool.and_false, if_neg (by decide), show min (n + 1) (vTd V / 360 + 1) - (vT V t).1 = min n (vTd V / 360 + 1) - (vT V t).1 by omega]
  rw [main 64 (Nat.le_refl _), show min 64 (vTd V / 360 + 1) - (vT V t).1 = vTd V / 360 + 1 - (vT V t).1 by omega]
end ID
