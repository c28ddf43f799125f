/-! a change of a title or a subscription keeps the invariant -/
section IQ
variable {V : zV} {nc K : Nat} {M : Nat → Nat → Int32}
theorem mNM_at (M : Nat → Nat → Int32) (td nc w : Nat) (b : Bool) (fi la wa : Int32) : mNM M td nc w b fi la wa 7 (mN M td nc w) = nI w ∧ mNM M td nc w b fi la wa 8 (mN M td nc w) = nI td ∧ mNM M td nc w b fi la wa 9 (mN M td nc w) = vp_nar .boolean (bI b) ∧ mNM M td nc w b fi la wa 10 (mN M td nc w) = fi ∧ mNM M td nc w b fi la wa 11 (mN M td nc w) = la ∧ mNM M td nc w b fi la wa 12 (mN M td nc w) = wa := by
  unfold mNM
  generalize mN M td nc w = n
  refine ⟨?_, ?_, ?_, ?_, ?_, mP_s _ _ _ _⟩
  · rw [mP_n (by decide), mP_n (by decide), mP_n (by decide), mP_n (by decide), mP_n (by decide), mP_s]
  · rw [mP_n (by decide), mP_n (by decide), mP_n (by decide), mP_n (by decide), mP_s]
  · rw [mP_n (by decide), mP_n (by decide), mP_n (by decide), mP_s]
  · rw [mP_n (by decide), mP_n (by decide), mP_s]
  · rw [mP_n (by decide), mP_s]
theorem mP_o {M : Nat → Nat → Int32} {j k i : Nat} {v : Int32} (j' : Nat) (h : i ≠ k) : mP M j k v j' i = M j' i := by
  by_cases z : j' = j
  · subst z; exact mP_k h
  · rw [mP_n z]
theorem mNM_o (M : Nat → Nat → Int32) (td nc w : Nat) (b : Bool) (fi la wa : Int32) (j k : Nat) (hk : k ≠ mN M td nc w) : mNM M td nc w b fi la wa j k = M j k := by
  unfold mNM
  rw [mP_o _ hk, mP_o _ hk, mP_o _ hk, mP_o _ hk, mP_o _ hk, mP_o _ hk]
theorem mNM_lo (M : Nat → Nat → Int32) (td nc w : Nat) (b : Bool) (fi la wa : Int32) (j : Nat) (hj : j < 7) : mNM M td nc w b fi la wa j = M j := by
  unfold mNM
  exact (mP_n (by omega)).trans ((mP_n (by omega)).trans ((mP_n (by omega)).trans ((mP_n (by omega)).trans ((mP_n (by omega)).trans (mP_n (by omega))))))
/-- where the note goes: behind the log, or over today's row of the same thing, which is its newest -/
theorem mN_is (M : Nat → Nat → Int32) (td nc w : Nat) : (mN M td nc w = nc ∧ mNc M td nc w = nc + 1) ∨ (mN M td nc w < nc ∧ mNc M td nc w = nc ∧ mOn M w td nc = some (mN M td nc w) ∧ M 7 (mN M td nc w) = nI w ∧ M 8 (mN M td nc w) = nI td) := by
  unfold mNc
  cases h : mOn M w td nc with
  | none =>
    have e : mN M td nc w = nc := by unfold mN; rw [h]
    exact Or.inl ⟨e, by rw [if_pos e]⟩
  | some k =>
    by_cases c : M 8 k = nI td
    · have e : mN M td nc w = k := by unfold mN; rw [h]; exact if_pos c
      have hk := mOn_lt h
      rw [e]
      exact Or.inr ⟨hk, by rw [if_neg (by omega)], rfl, (mOn_is h).1, c⟩
    · have e : mN M td nc w = nc := by unfold mN; rw [h]; exact if_neg c
      exact Or.inl ⟨e, by rw [if_pos e]⟩
/-- the log behind the note: of another thing, or of an earlier day, the row is the old one; else the new one -/
theorem i_on {td w : Nat} (hlog : ∀ k, k < nc → ∃ w9 d9, M 7 k = nI w9 ∧ w9 < 210 ∧ M 8 k = nI d9 ∧ d9 ≤ td) (htd : td ≤ 20000) (hw : w < 210) (b : Bool) (fi la wa : Int32) (id d : Nat) (hid : id < 210) (hd : d ≤ 30000) : (¬ (id = w ∧ td ≤ d) → mOn (mNM M td nc w b fi la wa) id d (mNc M td nc w) = mOn M id d nc ∧ ∀ k, mOn M id d nc = some k → k ≠ mN M td nc w) ∧ (id = w → td ≤ d → mOn (mNM M td nc w b fi la wa) id d (mNc M td nc w) = some (mN M td nc w)) := by
  obtain ⟨m7, m8, -⟩ := mNM_at M td nc w b fi la wa
  have mo := mNM_o M td nc w b fi la wa
  generalize mNM M td nc w b fi la wa = M' at m7 m8 mo ⊢
  rcases mN_is M td nc w with ⟨e1, e2⟩ | ⟨e1, e2, e3, e4, e5⟩
  · rw [e2]
    rw [e1] at m7 m8 mo ⊢
    have hc : mOn M' id d nc = mOn M id d nc := mOn_cong nc (fun k hk => by rw [mo 7 k (by omega), mo 8 k (by omega)])
    refine ⟨fun hn => ⟨?_, fun k hk => by have := mOn_lt hk; omega⟩, fun h1 h2 => ?_⟩
    · rw [mOn, if_neg, hc]
      rintro ⟨z1, z2⟩
      rw [m7] at z1
      rw [m8] at z2
      exact hn ⟨((nI_eq (by omega) (by omega)).mp z1).symm, (nI_leI (by omega) (by omega)).mp z2⟩
    · rw [mOn, if_pos]
      rw [m7, m8, h1]
      exact ⟨rfl, (nI_leI (by omega) (by omega)).mpr h2⟩
  · rw [e2]
    generalize mN M td nc w = n at *
    have hc : ∀ d, mOn M' id d nc = mOn M id d nc := fun d => mOn_cong nc (fun k hk => by
      by_cases z : k = n
      · subst z; rw [m7, m8, e4, e5]
      · rw [mo 7 k z, mo 8 k z])
    refine ⟨fun hn => ⟨hc d, fun k hk z => ?_⟩, fun h1 h2 => ?_⟩
    · subst z
      obtain ⟨z1, z2⟩ := mOn_is hk
      rw [e4] at z1
      rw [e5] at z2
      exact hn ⟨((nI_eq (by omega) (by omega)).mp z1).symm, (nI_leI (by omega) (by omega)).mp z2⟩
    · rw [hc d, h1, ← e3]
      refine mOn_cong nc (fun k hk => ?_)
      obtain ⟨w9, d9, -, -, h3, h4⟩ := hlog k hk
      rw [h3]
      exact and_congr_right (fun _ => ⟨fun _ => (nI_leI (by omega) (by omega)).mpr h4, fun _ => (nI_leI (by omega) (by omega)).mpr (by omega)⟩)
theorem zDr_c {d td : Nat} {x : Int64} {wa : Nat} {l : zLs} : zDr d ((td, x, wa) :: l) = if d < td then zDr d l else (td, x, wa) :: l := by
  unfold zDr
  rw [List.dropWhile_cons]
  by_cases c : d < td <;> simp [c]
theorem i_note (I : Inv V nc M K) (hK : K < 512) {q0 w0 : Nat} (hq : q0 < vNp V) (hw : w0 ≤ 20) {x : Int64} {wa : Nat} {b : Bool} {fi la : Int32} (hwa : wa ≤ 20) (hx : decide (¬ x = 0) = b) (hT : w0 < 20 → ∀ y, y ≤ 55 → hY x (nI y) = (b && iB (nI y) fi la)) (hS : w0 = 20 → (∀ y, y ≤ 55 → hY x (nI y) = b) ∧ wa = 0) : Inv (vTd V, vNt V, vNp V, vT V, vP V, vB V, zU2 (vL V) q0 w0 ((vTd V, x, wa) :: vL V q0 w0)) (mNc M (vTd V) nc (21 * q0 + w0)) (mNM M (vTd V) nc (21 * q0 + w0) b fi la (nI wa)) (K + 1) := by
  obtain ⟨⟨a0, a1, a2, a3, a4⟩, b0, c, d, e, f⟩ := I
  have hlog : ∀ k, k < nc → ∃ w9 d9, M 7 k = nI w9 ∧ w9 < 210 ∧ M 8 k = nI d9 ∧ d9 ≤ vTd V := fun k hk => by
    obtain ⟨w9, d9, h1, h2, h3⟩ := e k hk
    exact ⟨w9, d9, h1, by omega, h3⟩
  have hon := i_on hlog a2 (show 21 * q0 + w0 < 210 by omega) b fi la (nI wa)
  obtain ⟨m7, m8, m9, m10, m11, m12⟩ := mNM_at M (vTd V) nc (21 * q0 + w0) b fi la (nI wa)
  have mo := mNM_o M (vTd V) nc (21 * q0 + w0) b fi la (nI wa)
  have ml := mNM_lo M (vTd V) nc (21 * q0 + w0) b fi la (nI wa)
  have mi := mN_is M (vTd V) nc (21 * q0 + w0)
  generalize mNM M (vTd V) nc (21 * q0 + w0) b fi la (nI wa) = M' at *
  generalize mN M (vTd V) nc (21 * q0 + w0) = n at *
  generalize mNc M (vTd V) nc (21 * q0 + w0) = nc' at *
  have oT : ∀ c k, k ≠ n → sT M c k → sT M' c k := fun c k hk h => sT_at (mo 9 k hk) (mo 10 k hk) (mo 11 k hk) (mo 12 k hk) h
  have oS : ∀ c k, k ≠ n → sS M c k → sS M' c k := fun c k hk h => sS_at (mo 9 k hk) h
  refine ⟨⟨by rcases mi with ⟨-, z⟩ | ⟨-, z, -⟩ <;> omega, by omega, a2, a3, a4⟩, fun t ht => ?_, fun q hq => ?_, fun q t hq ht => ?_, fun k hk => ?_, fun q hq2 => ?_⟩
  · rw [ml 0 (by decide), ml 1 (by decide)]; exact b0 t ht
  · rw [ml 2 (by decide), ml 3 (by decide), ml 4 (by decide), ml 5 (by decide)]; exact c q hq
  · rw [ml 6 (by decide)]
    exact ⟨fun h => ⟨((d q t hq ht).1 h).1, Nat.le_trans ((d q t hq ht).1 h).2 (Nat.le_succ K)⟩, (d q t hq ht).2⟩
  · by_cases z : k = n
    · subst z
      exact ⟨21 * q0 + w0, vTd V, m7, by show 21 * q0 + w0 < 21 * vNp V; omega, m8, Nat.le_refl _⟩
    · rw [mo 7 k z, mo 8 k z]
      exact e k (by rcases mi with ⟨z1, z2⟩ | ⟨z1, z2, -⟩ <;> omega)
  · have hq2 : q < vNp V := hq2
    have hl := f q hq2
    show (∀ w, w < 20 → sL M' nc' (sT M') (21 * q + w) (zU2 (vL V) q0 w0 ((vTd V, x, wa) :: vL V q0 w0) q w)) ∧ sL M' nc' (sS M') (21 * q + 20) (zU2 (vL V) q0 w0 ((vTd V, x, wa) :: vL V q0 w0) q 20)
    have old : ∀ w, w ≤ 20 → ¬ (q = q0 ∧ w = w0) → ∀ (S S' : (Nat × Int64 × Nat) → Nat → Prop), (∀ c k, k ≠ n → S c k → S' c k) → sL M nc S (21 * q + w) (vL V q w) → sL M' nc' S' (21 * q + w) (zU2 (vL V) q0 w0 ((vTd V, x, wa) :: vL V q0 w0) q w) := fun w hw z S S' hSS h => by
      have e9 : zU2 (vL V) q0 w0 ((vTd V, x, wa) :: vL V q0 w0) q w = vL V q w := if_neg z
      rw [e9]
      refine ⟨fun d hd => ?_, h.2⟩
      obtain ⟨k1, k2⟩ := (hon (21 * q + w) d (by omega) hd).1 (fun y => z (by omega))
      rw [k1]
      exact sR_mono (fun c k e1 e2 => hSS c k (k2 k e1) e2) (h.1 d hd)
    have new : ∀ w, w ≤ 20 → (q = q0 ∧ w = w0) → ∀ (S S' : (Nat × Int64 × Nat) → Nat → Prop), (∀ c k, k ≠ n → S c k → S' c k) → S' (vTd V, x, wa) n → sL M nc S (21 * q + w) (vL V q w) → sL M' nc' S' (21 * q + w) (zU2 (vL V) q0 w0 ((vTd V, x, wa) :: vL V q0 w0) q w) := fun w hw z S S' hSS hN h => by
      obtain ⟨rfl, rfl⟩ := z
      have e9 : zU2 (vL V) q w ((vTd V, x, wa) :: vL V q w) q w = (vTd V, x, wa) :: vL V q w := if_pos ⟨rfl, rfl⟩
      rw [e9]
      refine ⟨fun d hd => ?_, fun c hc => ?_⟩
      · rw [zDr_c]
        by_cases y : d < vTd V
        · rw [if_pos y]
          obtain ⟨k1, k2⟩ := (hon (21 * q + w) d (by omega) hd).1 (fun y2 => by omega)
          rw [k1]
          exact sR_mono (fun c k e1 e2 => hSS c k (k2 k e1) e2) (h.1 d hd)
        · rw [if_neg y, (hon (21 * q + w) d (by omega) hd).2 rfl (by omega)]
          exact hN
      · rcases List.mem_cons.mp hc with rfl | hc
        · exact ⟨hwa, a2⟩
        · exact h.2 c hc
    refine ⟨fun w hw9 => ?_, ?_⟩
    · by_cases z : q = q0 ∧ w = w0
      · refine new w (by omega) z _ _ oT ⟨?_, fun y hy => ?_, m12⟩ (hl.1 w hw9)
        · show decide (¬ x = 0) = decide (¬ M' 9 n = 0)
          rw [m9, nar_n]; exact hx
        · show hY x (nI y) = _
          rw [m9, m10, m11, nar_n]; exact hT (by omega) y hy
      · exact old w (by omega) z _ _ oT (hl.1 w hw9)
    · by_cases z : q = q0 ∧ 20 = w0
      · refine new 20 (by omega) z _ _ oS ⟨?_, fun y hy => ?_, (hS z.2.symm).2⟩ hl.2
        · show decide (¬ x = 0) = decide (¬ M' 9 n = 0)
          rw [m9, nar_n]; exact hx
        · show hY x (nI y) = _
          rw [m9, nar_n]; exact (hS z.2.symm).1 y hy
      · exact old 20 (by omega) z _ _ oS hl.2
theorem zAll_k (b : Bool) : ∀ y, y ≤ 55 → hY (zAll b) (nI y) = b := by cases b <;> decide +kernel
theorem i_subs (I : Inv V nc M K) (hK : K < 512) {q : Nat} (hq : q < vNp V) (b : Bool) : Inv (vTd V, vNt V, vNp V, vT V, vP V, vB V, zU2 (vL V) q 20 ((vTd V, zAll b, 0) :: vL V q 20)) (mNc M (vTd V) nc (21 * q + 20)) (mNM M (vTd V) nc (21 * q + 20) b (nI 0) (nI 0) (nI 0)) (K + 1) :=
  i_note I hK hq (Nat.le_refl _) (Nat.zero_le _) (by cases b <;> decide +kernel) (fun h => absurd h (by decide)) (fun _ => ⟨zAll_k b, rfl⟩)
theorem i_go (I : Inv V nc M K) (hK : K < 512) {q t : Nat} (hq : q < vNp V) (ht : t < 20) : Inv (vTd V, vNt V, vNp V, vT V, vP V, vB V, zU2 (vL V) q t ((vTd V, 0, 0) :: vL V q t)) (mNc M (vTd V) nc (21 * q + t)) (mNM M (vTd V) nc (21 * q + t) false (nI 0) (nI 0) (nI 0)) (K + 1) :=
  i_note I hK hq (by omega) (Nat.zero_le _) rfl (fun _ y hy => by rw [hY_0 (by omega), Bool.false_and]) (fun h => absurd h (by omega))
theorem iB_k {y a b : Nat} (hy : y < 2 ^ 31) (ha : a < 2 ^ 31) (hb : b < 2 ^ 31) : iB (nI y) (nI a) (nI b) = (decide (a ≤ y) && decide (y ≤ b)) := by
  unfold iB
  have h1 := @nI_ltI y a hy ha
  have h2 := @nI_ltI b y hb hy
  by_cases c1 : a ≤ y
  · by_cases c2 : y ≤ b
    · rw [decide_eq_true c1, decide_eq_true c2, decide_eq_true (show ¬ nI y < nI a from fun z => by have := h1.mp z; omega), decide_eq_true (show ¬ nI b < nI y from fun z => by have := h2.mp z; omega)]
    · rw [decide_eq_true c1, decide_eq_false c2, decide_eq_true (show ¬ nI y < nI a from fun z => by have := h1.mp z; omega), decide_eq_false (fun z => z (h2.mpr (by omega)))]
  · rw [decide_eq_false c1, decide_eq_false (fun z => z (h1.mpr (by omega))), Bool.false_and, Bool.false_and]
theorem i_come (I : Inv V nc M K) (hK : K < 512) {q t a b w : Nat} (hq : q < vNp V) (ht : t < 20) (hab : a ≤ b) (hb : b ≤ 55) (hw : w ≤ 20) : Inv (vTd V, vNt V, vNp V, vT V, vP V, vB V, zU2 (vL V) q t ((vTd V, yB (nI a) (nI b), w) :: vL V q t)) (mNc M (vTd V) nc (21 * q + t)) (mNM M (vTd V) nc (21 * q + t) true (nI a) (nI b) (nI w)) (K + 1) := by
  have hk : ∀ y, y ≤ 55 → hY (yB (nI a) (nI b)) (nI y) = (true && iB (nI y) (nI a) (nI b)) := fun y hy => by
    rw [yB_k hab (by omega) (by omega), iB_k (by omega) (by omega) (by omega), Bool.true_and]
  refine i_note I hK hq (by omega) hw (decide_eq_true (fun z => ?_)) (fun _ => hk) (fun h => absurd h (by omega))
  have := hk a (by omega)
  rw [z, hY_0 (by omega), iB_k (by omega) (by omega) (by omega), decide_eq_true (Nat.le_refl a), decide_eq_true hab] at this
  cases this
end IQ
