/-! every call keeps the invariant -/
theorem nar_b (b : Bool) : vp_nar .boolean (bI b) = bI b := by cases b <;> decide +kernel
theorem nar_n (b : Bool) : decide (¬ vp_nar .boolean (bI b) = 0) = b := by cases b <;> decide +kernel
theorem mOn_cong {M M' : Nat → Nat → Int32} {w d d' : Nat} : ∀ (n : Nat), (∀ k, k < n → ((M' 7 k = nI w ∧ M' 8 k ≤ nI d) ↔ (M 7 k = nI w ∧ M 8 k ≤ nI d'))) → mOn M' w d n = mOn M w d' n
  | 0, _ => rfl
  | n + 1, h => by
    rw [mOn, mOn, mOn_cong n (fun k hk => h k (Nat.lt_succ_of_lt hk))]
    by_cases c : M 7 n = nI w ∧ M 8 n ≤ nI d'
    · rw [if_pos c, if_pos ((h n (Nat.lt_succ_self n)).mpr c)]
    · rw [if_neg c, if_neg (fun z => c ((h n (Nat.lt_succ_self n)).mp z))]
theorem mOn_is {M : Nat → Nat → Int32} {w d : Nat} : ∀ {n k : Nat}, mOn M w d n = some k → M 7 k = nI w ∧ M 8 k ≤ nI d
  | 0, k, h => by cases h
  | n + 1, k, h => by
    rw [mOn] at h
    by_cases c : M 7 n = nI w ∧ M 8 n ≤ nI d
    · rw [if_pos c] at h; cases h; exact c
    · rw [if_neg c] at h; exact mOn_is h
theorem mOn_none {M : Nat → Nat → Int32} {w d : Nat} : ∀ {n : Nat}, (∀ k, k < n → ¬ M 7 k = nI w) → mOn M w d n = none
  | 0, _ => rfl
  | n + 1, h => by
    rw [mOn, if_neg (fun z => h n (Nat.lt_succ_self n) z.1)]
    exact mOn_none (fun k hk => h k (Nat.lt_succ_of_lt hk))
theorem sR_mono {S S' : (Nat × Int64 × Nat) → Nat → Prop} {l : zLs} {o : Option Nat} (h : ∀ c k, o = some k → S c k → S' c k) (hr : sR S l o) : sR S' l o := by
  cases l with
  | nil => cases o with
    | none => trivial
    | some k => exact absurd hr id
  | cons c r => cases o with
    | none => exact absurd hr id
    | some k => exact h c k rfl hr
theorem sT_at {M M' : Nat → Nat → Int32} {c : Nat × Int64 × Nat} {k : Nat} (h9 : M' 9 k = M 9 k) (h10 : M' 10 k = M 10 k) (h11 : M' 11 k = M 11 k) (h12 : M' 12 k = M 12 k) (h : sT M c k) : sT M' c k := by
  unfold sT at h ⊢
  rw [h9, h10, h11, h12]
  exact h
theorem sS_at {M M' : Nat → Nat → Int32} {c : Nat × Int64 × Nat} {k : Nat} (h9 : M' 9 k = M 9 k) (h : sS M c k) : sS M' c k := by
  unfold sS at h ⊢
  rw [h9]
  exact h
/-- rows 7 to 12 alike: the same lists -/
theorem sL_row {M M' : Nat → Nat → Int32} (h : ∀ j, 7 ≤ j → M' j = M j) {nc w : Nat} {l : zLs} : (sL M nc (sT M) w l → sL M' nc (sT M') w l) ∧ (sL M nc (sS M) w l → sL M' nc (sS M') w l) := by
  have e : ∀ d, mOn M' w d nc = mOn M w d nc := fun d => mOn_cong nc (fun k _ => by rw [h 7 (by decide), h 8 (by decide)])
  constructor
  · intro z
    refine ⟨fun d hd => ?_, z.2⟩
    rw [e d]
    exact sR_mono (fun c k _ y => sT_at (by rw [h 9 (by decide)]) (by rw [h 10 (by decide)]) (by rw [h 11 (by decide)]) (by rw [h 12 (by decide)]) y) (z.1 d hd)
  · intro z
    refine ⟨fun d hd => ?_, z.2⟩
    rw [e d]
    exact sR_mono (fun c k _ y => sS_at (by rw [h 9 (by decide)]) y) (z.1 d hd)
section IK
variable {V : zV} {nc K : Nat} {M : Nat → Nat → Int32}
theorem i_new : Inv (0, 0, 0, (fun _ => (0, 0)), (fun _ => (0, 0, 0, 0)), (fun _ _ => 0), (fun _ _ => [])) 0 (fun _ _ => 0) 0 := by
  refine ⟨⟨Nat.le_refl _, by decide, by decide, by decide, by decide⟩, fun t ht => absurd ht (Nat.not_lt_zero _), fun q hq => absurd hq (Nat.not_lt_zero _), fun q t _ _ => ⟨fun hq => absurd hq (Nat.not_lt_zero _), fun _ => rfl⟩, fun k hk => absurd hk (Nat.not_lt_zero _), fun q hq => absurd hq (Nat.not_lt_zero _)⟩
theorem i_up (I : Inv V nc M K) (hK : K < 512) : Inv V nc M (K + 1) := by
  obtain ⟨⟨a1, a2, a3⟩, b, c, d, e⟩ := I
  exact ⟨⟨by omega, by omega, a3⟩, b, c, fun q t hq ht => ⟨fun h => ⟨((d q t hq ht).1 h).1, by have := ((d q t hq ht).1 h).2; omega⟩, (d q t hq ht).2⟩, e⟩
theorem i_title (I : Inv V nc M K) (hK : K < 512) {a b : Nat} (ha : a ≤ 55) (hb1 : 1 ≤ b) (hb4 : b ≤ 4) (hnt : vNt V < 20) : Inv (vTd V, vNt V + 1, vNp V, va_up (vT V) (vNt V) (a, b), vP V, vB V, vL V) nc (mP (mP M 0 (vNt V) (nI a)) 1 (vNt V) (nI b)) (K + 1) := by
  obtain ⟨⟨a1, a2, a3, a4, a5⟩, b0, c, d, e, f⟩ := i_up I hK
  have hr : ∀ j, 2 ≤ j → mP (mP M 0 (vNt V) (nI a)) 1 (vNt V) (nI b) j = M j := fun j hj => (mP_n (by omega)).trans (mP_n (by omega))
  refine ⟨⟨a1, a2, a3, by show vNt V + 1 ≤ 20; omega, a5⟩, fun t ht => ?_, fun q hq => ?_, fun q t hq ht => ?_, fun k hk => ?_, fun q hq => ?_⟩
  · have ht : t < vNt V + 1 := ht
    show mP (mP M 0 (vNt V) (nI a)) 1 (vNt V) (nI b) 0 t = nI (va_up (vT V) (vNt V) (a, b) t).1 ∧ mP (mP M 0 (vNt V) (nI a)) 1 (vNt V) (nI b) 1 t = nI (va_up (vT V) (vNt V) (a, b) t).2 ∧ (va_up (vT V) (vNt V) (a, b) t).1 ≤ 55 ∧ 1 ≤ (va_up (vT V) (vNt V) (a, b) t).2 ∧ (va_up (vT V) (vNt V) (a, b) t).2 ≤ 4
    rw [mP_n (show (0 : Nat) ≠ 1 by decide)]
    by_cases z : t = vNt V
    · subst z
      rw [va_up_self, mP_s, mP_s]
      exact ⟨rfl, rfl, ha, hb1, hb4⟩
    · rw [va_up_ne _ _ z, mP_k z, mP_k z, mP_n (show (1 : Nat) ≠ 0 by decide)]
      exact b0 t (by omega)
  · have := c q hq
    rw [hr 2 (by decide), hr 3 (by decide), hr 4 (by decide), hr 5 (by decide)]
    exact this
  · rw [hr 6 (by decide)]; exact d q t hq ht
  · rw [hr 7 (by decide), hr 8 (by decide)]; exact e k hk
  · exact ⟨fun w hw => (sL_row (fun j hj => hr j (by omega))).1 ((f q hq).1 w hw), (sL_row (fun j hj => hr j (by omega))).2 (f q hq).2⟩
theorem i_pack (I : Inv V nc M K) (hK : K < 512) {a b g k : Nat} (ha : a ≤ 1000) (hb2 : b ≤ 2) (hg : g ≤ 15) (hk : k ≤ 1) (hnp : vNp V < 10) : Inv (vTd V, vNt V, vNp V + 1, vT V, va_up (vP V) (vNp V) (a, b, g, k), va_up (vB V) (vNp V) (fun _ => 0), va_up (vL V) (vNp V) (fun _ => [])) nc (mP (mP (mP (mP M 2 (vNp V) (nI a)) 3 (vNp V) (nI b)) 4 (vNp V) (nI g)) 5 (vNp V) (vp_nar .boolean (bI (decide (k = 1))))) (K + 1) := by
  obtain ⟨⟨a1, a2, a3, a4, a5⟩, b0, c, d, e, f⟩ := i_up I hK
  generalize hM' : mP (mP (mP (mP M 2 (vNp V) (nI a)) 3 (vNp V) (nI b)) 4 (vNp V) (nI g)) 5 (vNp V) (vp_nar .boolean (bI (decide (k = 1)))) = M'
  have hr : ∀ j, (j < 2 ∨ 6 ≤ j) → M' j = M j := fun j hj => by
    rw [← hM']
    exact (mP_n (by omega)).trans ((mP_n (by omega)).trans ((mP_n (by omega)).trans (mP_n (by omega))))
  have ho : ∀ j i, i ≠ vNp V → M' j i = M j i := fun j i hi => by
    rw [← hM']
    by_cases z5 : j = 5
    · subst z5; rw [mP_k hi, mP_n (by decide), mP_n (by decide), mP_n (by decide)]
    · rw [mP_n z5]
      by_cases z4 : j = 4
      · subst z4; rw [mP_k hi, mP_n (by decide), mP_n (by decide)]
      · rw [mP_n z4]
        by_cases z3 : j = 3
        · subst z3; rw [mP_k hi, mP_n (by decide)]
        · rw [mP_n z3]
          by_cases z2 : j = 2
          · subst z2; rw [mP_k hi]
          · rw [mP_n z2]
  have hs : M' 2 (vNp V) = nI a ∧ M' 3 (vNp V) = nI b ∧ M' 4 (vNp V) = nI g ∧ M' 5 (vNp V) = vp_nar .boolean (bI (decide (k = 1))) := by
    rw [← hM']
    refine ⟨?_, ?_, ?_, mP_s _ _ _ _⟩
    · rw [mP_n (by decide), mP_n (by decide), mP_n (by decide), mP_s]
    · rw [mP_n (by decide), mP_n (by decide), mP_s]
    · rw [mP_n (by decide), mP_s]
  refine ⟨⟨a1, a2, a3, a4, by show vNp V + 1 ≤ 10; omega⟩, fun t ht => ?_, fun q hq => ?_, fun q t hq ht => ?_, fun i hi => ?_, fun q hq => ?_⟩
  · have := b0 t ht
    rw [hr 0 (by decide), hr 1 (by decide)]
    exact this
  · have hq : q < vNp V + 1 := hq
    show (M' 2 q = nI (va_up (vP V) (vNp V) (a, b, g, k) q).1 ∧ M' 3 q = nI (va_up (vP V) (vNp V) (a, b, g, k) q).2.1 ∧ M' 4 q = nI (va_up (vP V) (vNp V) (a, b, g, k) q).2.2.1 ∧ M' 5 q = vp_nar .boolean (bI (decide ((va_up (vP V) (vNp V) (a, b, g, k) q).2.2.2 = 1)))) ∧ (va_up (vP V) (vNp V) (a, b, g, k) q).1 ≤ 1000 ∧ (va_up (vP V) (vNp V) (a, b, g, k) q).2.1 ≤ 2 ∧ (va_up (vP V) (vNp V) (a, b, g, k) q).2.2.1 ≤ 15 ∧ (va_up (vP V) (vNp V) (a, b, g, k) q).2.2.2 ≤ 1
    by_cases z : q = vNp V
    · subst z
      rw [va_up_self]
      exact ⟨hs, ha, hb2, hg, hk⟩
    · rw [va_up_ne _ _ z, ho 2 q z, ho 3 q z, ho 4 q z, ho 5 q z]
      exact c q (by omega)
  · rw [hr 6 (by decide)]
    show (q < vNp V + 1 → M 6 (20 * q + t) = nI (va_up (vB V) (vNp V) (fun _ => 0) q t) ∧ va_up (vB V) (vNp V) (fun _ => 0) q t ≤ K + 1) ∧ (vNp V + 1 ≤ q → M 6 (20 * q + t) = nI 0)
    refine ⟨fun h => ?_, fun h => (d q t hq ht).2 (by omega)⟩
    by_cases z : q = vNp V
    · subst z
      rw [va_up_self]
      exact ⟨(d _ t hq ht).2 (Nat.le_refl _), Nat.zero_le _⟩
    · rw [va_up_ne _ _ z]
      exact (d q t hq ht).1 (by omega)
  · rw [hr 7 (by decide), hr 8 (by decide)]
    obtain ⟨w, d9, h1, h2, h3⟩ := e i hi
    exact ⟨w, d9, h1, by show w < 21 * (vNp V + 1); omega, h3⟩
  · have hq : q < vNp V + 1 := hq
    show (∀ w, w < 20 → sL M' nc (sT M') (21 * q + w) (va_up (vL V) (vNp V) (fun _ => []) q w)) ∧ sL M' nc (sS M') (21 * q + 20) (va_up (vL V) (vNp V) (fun _ => []) q 20)
    by_cases z : q = vNp V
    · subst z
      rw [va_up_self]
      have none9 : ∀ w, w ≤ 20 → ∀ d, mOn M' (21 * vNp V + w) d nc = none := fun w hw d => mOn_none (fun k hk z => by
        rw [hr 7 (by decide)] at z
        obtain ⟨w9, d9, h1, h2, h3⟩ := e k hk
        rw [h1] at z
        have := (nI_eq (by omega) (by omega)).mp z
        omega)
      refine ⟨fun w hw => ⟨fun d _ => ?_, fun c hc => by cases hc⟩, ⟨fun d _ => ?_, fun c hc => by cases hc⟩⟩
      · rw [none9 w (by omega) d]; trivial
      · rw [none9 20 (by omega) d]; trivial
    · rw [va_up_ne _ _ z]
      have := f q (by omega)
      exact ⟨fun w hw => (sL_row (fun j hj => hr j (by omega))).1 (this.1 w hw), (sL_row (fun j hj => hr j (by omega))).2 this.2⟩
theorem i_pass (I : Inv V nc M K) (hK : K < 512) {n : Nat} (h : vTd V + n ≤ 20000) : Inv (vTd V + n, vNt V, vNp V, vT V, vP V, vB V, vL V) nc M (K + 1) := by
  obtain ⟨⟨a1, a2, a3, a4, a5⟩, b0, c, d, e, f⟩ := i_up I hK
  refine ⟨⟨a1, a2, h, a4, a5⟩, b0, c, d, fun k hk => ?_, f⟩
  obtain ⟨w, d9, h1, h2, h3, h4⟩ := e k hk
  exact ⟨w, d9, h1, h2, h3, by show d9 ≤ vTd V + n; omega⟩
theorem i_break (I : Inv V nc M K) (hK : K < 512) {q0 t0 v : Nat} (hq0 : q0 < vNp V) (ht0 : t0 < 20) (hv : v ≤ K + 1) : Inv (vTd V, vNt V, vNp V, vT V, vP V, zU2 (vB V) q0 t0 v, vL V) nc (mP M 6 (20 * q0 + t0) (nI v)) (K + 1) := by
  obtain ⟨⟨a1, a2, a3, a4, a5⟩, b0, c, d, e, f⟩ := i_up I hK
  have hr : ∀ j, j ≠ 6 → mP M 6 (20 * q0 + t0) (nI v) j = M j := fun j hj => mP_n hj
  refine ⟨⟨a1, a2, a3, a4, a5⟩, fun t ht => ?_, fun q hq => ?_, fun q t hq ht => ?_, fun k hk => ?_, fun q hq => ?_⟩
  · rw [hr 0 (by decide), hr 1 (by decide)]; exact b0 t ht
  · rw [hr 2 (by decide), hr 3 (by decide), hr 4 (by decide), hr 5 (by decide)]; exact c q hq
  · show (q < vNp V → mP M 6 (20 * q0 + t0) (nI v) 6 (20 * q + t) = nI (zU2 (vB V) q0 t0 v q t) ∧ zU2 (vB V) q0 t0 v q t ≤ K + 1) ∧ (vNp V ≤ q → mP M 6 (20 * q0 + t0) (nI v) 6 (20 * q + t) = nI 0)
    by_cases z : q = q0 ∧ t = t0
    · obtain ⟨rfl, rfl⟩ := z
      rw [mP_s]
      have e9 : zU2 (vB V) q t v q t = v := if_pos ⟨rfl, rfl⟩
      rw [e9]
      exact ⟨fun _ => ⟨rfl, hv⟩, fun h => absurd hq0 (by omega)⟩
    · rw [mP_k (by omega)]
      have e9 : zU2 (vB V) q0 t0 v q t = vB V q t := if_neg z
      rw [e9]
      exact d q t hq ht
  · rw [hr 7 (by decide), hr 8 (by decide)]; exact e k hk
  · exact ⟨fun w hw => (sL_row (fun j hj => hr j (by omega))).1 ((f q hq).1 w hw), (sL_row (fun j hj => hr j (by omega))).2 (f q hq).2⟩
end IK
