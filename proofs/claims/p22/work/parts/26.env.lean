/-! the law's start: what the tables' words say of classes, arrays, strings -/
theorem s_arr {ty : FieldType} {args : Array Value} {s : State} (h : (Cond.arrayClass ty).before args s = true) : ∃ cA : ClassId, ArrOfT s cA ty ∧ s.vm.findClass ("[" ++ ty.toString) = some cA := by
  obtain ⟨cA, kA, comp, h1, h2, h3⟩ := Cond.arrayClass_spec h
  exact ⟨cA, fun n z => ⟨fun k h => (by cases h), kA, h2, comp, h3⟩, h1⟩
theorem s_arrO {C : String} {s : State} (h : va_AO C s) : ∃ cA : ClassId, ArrOfT s cA (.object C) ∧ va_RA s cA (.object C) := by
  obtain ⟨comp, cA, kA, h1, h2, h3, h4, h5⟩ := Cond.arrayOver_spec h
  exact ⟨cA, fun n z => ⟨fun k h => (by cases h), kA, h3, comp, h4⟩, kA, comp, h3, h4, h1, h5⟩
theorem s_str {own tx : String} {k : Nat} {args : Array Value} {s : State} {cur : Nat} (hcur : s.vm.findClass own = some cur) (h : (Cond.stringRef own k tx).before args s = true) : ∃ a : Nat, vk_R own k tx a s := by
  obtain ⟨_, _, _, a, -, -, -, -, -, h7⟩ := Cond.stringRef_spec hcur h
  exact ⟨a, vk_R.of h h7⟩
/-! the law's start: the system's words as one -/
set_option maxHeartbeats 4000000 in
set_option maxRecDepth 100000 in
theorem s_env {args : Array Value} {s : State} (hl : ∀ w ∈ lw_tbl, w.before args s = true) (hn : (Jvm.Cond.and given_1 narrow_1).before args s = true) : ∃ (D : va_G) (ca : Nat → ClassId) (sa : Nat → Nat), zE D ca sa s := by
  have hts : ∀ w ∈ wsL_law, w.before args s = true := fun w h => hl w (wsL_law_in w h)
  have hs := flat_of_before _ hn
  obtain ⟨d0, i0, k0⟩ := u_known (C := RX0) (T := TX0) (N := 4) (n := 4) hts (by decide +kernel) (hts (.instantiable RX0 4) (by decide +kernel))
  obtain ⟨d1, i1, k1⟩ := u_known (C := RX1) (T := TX1) (N := 2) (n := 2) hts (by decide +kernel) (hts (.instantiable RX1 2) (by decide +kernel))
  obtain ⟨d2, i2, k2⟩ := u_known (C := RX2) (T := TX2) (N := 6) (n := 6) hts (by decide +kernel) (hts (.instantiable RX2 6) (by decide +kernel))
  obtain ⟨d3, i3, k3⟩ := u_known (C := RX3) (T := TX3) (N := 2) (n := 2) hts (by decide +kernel) (hts (.instantiable RX3 2) (by decide +kernel))
  obtain ⟨d4, i4, k4⟩ := u_known (C := RX4) (T := TX4) (N := 6) (n := 6) hts (by decide +kernel) (hts (.instantiable RX4 6) (by decide +kernel))
  obtain ⟨a0, b0, c0⟩ := s_arrO (va_AO.of (hl (.arrayOver (.object RX3)) (by decide +kernel)))
  obtain ⟨a1, b1, c1⟩ := s_arrO (va_AO.of (hl (.arrayOver (.object RX2)) (by decide +kernel)))
  obtain ⟨a2, b2, c2⟩ := s_arrO (va_AO.of (hl (.arrayOver (.object RX1)) (by decide +kernel)))
  obtain ⟨a3, b3, c3⟩ := s_arr (hts (.arrayClass .int) (by decide +kernel))
  obtain ⟨t0, u0⟩ := s_str k4.2.1 (hl (.stringRef RX4 125 "no such place") (by decide +kernel))
  obtain ⟨t1, u1⟩ := s_str k4.2.1 (hl (.stringRef RX4 158 "an argument is out of range") (by decide +kernel))
  obtain ⟨t2, u2⟩ := s_str k4.2.1 (hl (.stringRef RX4 161 "no such title") (by decide +kernel))
  obtain ⟨t3, u3⟩ := s_str k4.2.1 (hl (.stringRef RX4 163 "no such package") (by decide +kernel))
  obtain ⟨t4, u4⟩ := s_str k4.2.1 (hl (.stringRef RX4 40 "there are 20 titles") (by decide +kernel))
  obtain ⟨t5, u5⟩ := s_str k4.2.1 (hl (.stringRef RX4 59 "there are 10 packages") (by decide +kernel))
  obtain ⟨t6, u6⟩ := s_str k4.2.1 (hl (.stringRef RX4 92 "the title is not in the package") (by decide +kernel))
  obtain ⟨t7, u7⟩ := s_str k4.2.1 (hl (.stringRef RX4 94 "today would be above 20000") (by decide +kernel))
  obtain ⟨t8, u8⟩ := s_str k2.2.1 (hl (.stringRef RX2 38 "no such title") (by decide +kernel))
  refine ⟨(fun c => [d0, d1, d2, d3, d4].getD c 0, fun c => [i0, i1, i2, i3, i4].getD c i0), fun k => [a0, a1, a2, a3].getD k 0, fun k => [t0, t1, t2, t3, t4, t5, t6, t7, t8].getD k 0, ⟨⟨fun c q hq => ?_, fun k q hk => ?_⟩, ?_, ?_, u0, u1, u2, u3, u4, u5, u6, u7, u8⟩⟩
  · rcases c with _ | _ | _ | _ | _ | c
    · cases hq; exact k0
    · cases hq; exact k1
    · cases hq; exact k2
    · cases hq; exact k3
    · cases hq; exact k4
    · cases hq
  · rcases k with _ | _ | _ | _ | k
    · cases hk; exact ⟨b0, c0⟩
    · cases hk; exact ⟨b1, c1⟩
    · cases hk; exact ⟨b2, c2⟩
    · cases hk; exact ⟨b3, c3⟩
    · cases hk
  · exact ⟨va_Nw.of rfl (hl (.methodLinkNest RX1 41 yX4_yearsBetween "LinkResolver") (by decide +kernel)), va_AO.of (hl (.arrayOver (.object RX3)) (by decide +kernel)), va_AO.of (hl (.arrayOver (.object RX2)) (by decide +kernel)), va_AO.of (hl (.arrayOver (.object RX1)) (by decide +kernel))⟩
  · exact ⟨⟨va_Nw.of rfl (hl (.castable "java/lang/IllegalArgumentException" "java/lang/IllegalArgumentException") (by decide +kernel)), va_Nw.of rfl (hl (.castable "java/lang/IllegalStateException" "java/lang/IllegalStateException") (by decide +kernel)), va_Nw.of rfl (hl (.castable "java/lang/IndexOutOfBoundsException" "java/lang/IndexOutOfBoundsException") (by decide +kernel))⟩, va_Nw.of rfl (hl (.declares (Bundle.initS "java/lang/RuntimeException")) (by decide +kernel)), va_Nw.of rfl (hl (.declares (Bundle.initS "java/lang/Exception")) (by decide +kernel)), va_Nw.of rfl (hl (.declares (Bundle.initS Bundle.tN)) (by decide +kernel))⟩
