/-! the law's start: its context -/
theorem s_C {p : Program} {s : State} {m : MethodId} {meth : Method} {c : Code} (l : Launch) (hflags : l.flags = flags0) {b L : Nat} {xs : Nat → Int32} (hL : L ≤ 3072) (C0 : lw_At p s m meth c b L xs) : ∃ (D : va_G) (ca : Nat → ClassId) (sa : Nat → Nat), lw_C p l s m meth c b L xs D ca sa := by
  obtain ⟨hx, hb, -, hml, hown, hl, hX, hbl, -, hn⟩ := C0
  obtain ⟨D, ca, sa, hE, hN⟩ := s_env hl hn
  have hs := flat_of_before _ hn
  have hts : ∀ w ∈ wsL_law, w.before #[Value.ref b] s = true := fun w h => hl w (wsL_law_in w h)
  have hA : ∀ a : Nat, a < s.heap.size → ¬ (fun q => s.heap.size ≤ q) a := fun a h1 h2 => absurd h1 (Nat.not_lt.mpr h2)
  refine ⟨D, ca, sa, ⟨hx, hb, hml, hown, hts⟩, hX, hbl, hL, hE, hN, ⟨vx_Zqof (hl (.laysStatic Bundle.tN "UNASSIGNED_STACK" Bundle.steD) (by decide +kernel)) (hl (.initialized Bundle.tN) (by decide +kernel)) (hs (.isRef (.static Bundle.tN "UNASSIGNED_STACK" Bundle.steD)) (by decide +kernel)) hA, vx_Zqof (hl (.laysStatic Bundle.tN "SUPPRESSED_SENTINEL" Bundle.listD) (by decide +kernel)) (hl (.initialized Bundle.tN) (by decide +kernel)) (hs (.isRef (.static Bundle.tN "SUPPRESSED_SENTINEL" Bundle.listD)) (by decide +kernel)) hA⟩, ?_⟩
  unfold Launch.stackTraces
  rw [hflags]
  decide +kernel
