/-! the reference's other methods that write: the row of changes, and the answers behind 'holds' -/
def mN (M : Nat → Nat → Int32) (td nc w : Nat) : Nat := match mOn M w td nc with
  | none => nc
  | some k => if M 8 k = nI td then k else nc
def mNc (M : Nat → Nat → Int32) (td nc w : Nat) : Nat := if mN M td nc w = nc then nc + 1 else nc
def mNM (M : Nat → Nat → Int32) (td nc w : Nat) (b : Bool) (fi la wa : Int32) : Nat → Nat → Int32 := mP (mP (mP (mP (mP (mP M 7 (mN M td nc w) (nI w)) 8 (mN M td nc w) (nI td)) 9 (mN M td nc w) (vp_nar .boolean (bI b))) 10 (mN M td nc w) fi) 11 (mN M td nc w) la) 12 (mN M td nc w) wa
def mRk (M : Nat → Nat → Int32) (nc q t y g d : Nat) : Nat → Nat
  | 0 => 0
  | k + 1 => if k ≠ q ∧ mAhead M k q t = true ∧ mLets M k g = true ∧ mCov M nc k t y d = true then mRk M nc q t y g d k + 1 else mRk M nc q t y g d k
def mFd (M : Nat → Nat → Int32) (nc np pl t y g d : Nat) : Nat → Int32
  | 0 => (-1)
  | k + 1 => if mRk M nc k t y g d np = pl ∧ mLets M k g = true ∧ mCov M nc k t y d = true then nI k else mFd M nc np pl t y g d k
def mGf (M : Nat → Nat → Int32) (nc np t g td fy : Nat) : Nat → Int32 → Int32
  | 0, fd => fd
  | k + 1, fd => if fy ≤ k then mGf M nc np t g td fy k (if mWays M nc t k g td np = 0 then nI k else fd) else fd
def mDb (M : Nat → Nat → Int32) (nc np t g td fy : Nat) : Nat → Nat
  | 0 => 0
  | k + 1 => if 1 < mWays M nc t (fy + k) g td np then mDb M nc np t g td fy k + 1 else mDb M nc np t g td fy k
def mNs (M : Nat → Nat → Int32) (nc np q t y td : Nat) : Bool := if mHas M nc q t y td td = true ∧ mKept M nc q t y td = false then decide (M 4 q &&& (mOth M nc q t y td np ^^^ (-1)) = 0) else true
def mNy (M : Nat → Nat → Int32) (nc np q t td : Nat) : Nat → Nat → Bool → Bool
  | 0, _, b => b
  | k + 1, y, b => if b = true then mNy M nc np q t td k (y + 1) (mNs M nc np q t y td) else b
def mNt (M : Nat → Nat → Int32) (nc np q td : Nat) (fy : Nat → Nat) : Nat → Nat → Bool → Bool
  | 0, _, b => b
  | k + 1, t, b => if b = true then mNt M nc np q td fy k (t + 1) (mNy M nc np q t td (td / 360 + 1 - fy t) (fy t) b) else b
theorem mNy_f (M : Nat → Nat → Int32) (nc np q t td k y : Nat) : mNy M nc np q t td k y false = false := by cases k <;> rfl
theorem mNt_f (M : Nat → Nat → Int32) (nc np q td : Nat) (fy : Nat → Nat) (k t : Nat) : mNt M nc np q td fy k t false = false := by cases k <;> rfl
theorem bI_not0 {b : Bool} (h : bI b = 0) : nI 0 = bI b := h.symm
theorem bI_not1 {b : Bool} (h : ¬ bI b = 0) : nI 1 = bI b := by rw [bI_ne0 h]; rfl

set_option maxHeartbeats 4000000 in
set_option maxRecDepth 100000 in
theorem m_notes (l : Launch) (D : va_G) (ca : Nat → ClassId) (sa : Nat → Nat) (hm : Nat) (ad : Nat → Nat) (th : Int32) (td nt np nc : Nat) (M : Nat → Nat → Int32) (w : Nat) (b : Bool) (fi la wa : Int32) (hnc : nc ≤ 600) (sz : Nat) : Met l yX5_notes wsX5_notes ({ frames := 2, cells := 0, slots := 0, locals := 80 }) (va_Pc [.ref hm, .int (nI w), .int (bI b), .int fi, .int la, .int wa] (zMp D (mW hm ad ca th td nt np nc M) ca sa sz)) (va_Qi (fun (r : Int32) (_ : Unit) => r = bI (mSo M nc w td)) (fun _ t9 => va_P D vwCl (mW hm ad ca th td nt np (mNc M td nc w) (mNM M td nc w b fi la wa)) t9.heap) (va_A (mW hm ad ca th td nt np nc M) sz)) 0 0 (va_A (mW hm ad ca th td nt np nc M) sz) := by
  refine Met.ofW (cc := cX5_notes) (maxL := 9) (ret := (some .boolean)) (by decide) rfl ?_
  intro p e s m args below meth c s₁ B hml hv
  obtain ⟨rfl, hsz, hP, hD0, hE⟩ := hv
  have hx := B.exec
  have hb := B.bytes
  have hr := B.returns
  have hts := atoms_spec (ws := wsX5_notes) B.pre
  have hown : s.vm.findClass RX5 = some m.cls := findClass_of_methodNamed B.named
  have hlocks := B.notSynchronized
  have hl := lv_entry ([.ref hm, .int (nI w), .int (bI b), .int fi, .int la, .int wa]) (n := 9) (Nat.le_of_ble_eq_true rfl)
  rw [lg_entry_eq]
  generalize (lg_sl ([.ref hm, .int (nI w), .int (bI b), .int fi, .int la, .int wa]) ++ List.replicate (9 - (lg_sl ([.ref hm, .int (nI w), .int (bI b), .int fi, .int la, .int wa])).length) Slot.unset).toArray = ls at hl ⊢
  have hl : lv_has ls 9 [(0, .ref hm), (1, .int (nI w)), (2, .int (bI b)), (3, .int fi), (4, .int la), (5, .int wa)] := hl
  subst hsz
  have hD := hD0.self (sz := s.heap.size)
  generalize hAe : va_A (mW hm ad ca th td nt np nc M) s.heap.size = A at hD ⊢
  have hA : ∀ q : Nat, s.heap.size ≤ q → A q := fun q h => by rw [← hAe]; exact Or.inr h
  have hS : va_S A s.heap s.heap [] := va_S.rf
  refine lv_aload_n hx hb dX5_notes_0 rfl (lv_at hl 0 rfl) ?_
  refine lv_iload_n hx hb dX5_notes_1 rfl (lv_at hl 1 rfl) ?_
  refine lv_aload_n hx hb dX5_notes_2 rfl (lv_at hl 0 rfl) ?_
  refine zmget (own := RX5) (ci := 5) (C := RX5) (T := TX5) (N := 18) hx hb hts (by decide +kernel) hown hE hP 0 rfl rfl 1 (by decide) (hts (.fieldLink RX5 78 "LinkResolverModel" "today" "I") (by decide +kernel)) rfl dX5_notes_3 ?_
  refine zci (va_runV (As := [.int (nI w), .int (nI td)]) (rest := []) ⟨hx, hb, hml, hown, hts⟩ (m_chOn l D ca sa hm ad th td nt np nc M (w) (td) hnc) (cwV 2 hts gX5_notes_X5_changeOn rfl rfl rfl (by decide +kernel) ⟨Nat.le_of_ble_eq_true rfl, Nat.le_of_ble_eq_true rfl⟩) (zpV hP hE (ci := 5) rfl (q0 := 0) rfl) rfl rfl hl.1 rfl (lv_room (Nat.le_of_ble_eq_true rfl)) dX5_notes_6 ⟨Nat.le_of_ble_eq_true rfl, Nat.le_of_ble_eq_true rfl⟩) ?_
  cases e9 : mOn M w td nc with
  | none =>
    refine W.eq (g2 := F0 m 9 ls [.int (-1)]) rfl ?_
    refine lv_istore (lv' := [(6, .int (-1)), (0, .ref hm), (1, .int (nI w)), (2, .int (bI b)), (3, .int fi), (4, .int la), (5, .int wa)]) hx hb dX5_notes_9 hl (by decide) rfl (fun ls hl => ?_)
    refine lv_iload hx hb dX5_notes_11 (lv_at hl 0 rfl) ?_
    refine lv_iconst (v := (-1)) hx hb dX5_notes_13 (by decide) ?_
    refine lv_icmp_eq (tgt := 31) hx hb dX5_notes_14 (by decide) (fun c_14 => ?_) (fun c_14 => ?_)
    · refine lv_iconst (v := nI 0) hx hb dX5_notes_31 (by decide) ?_
      refine lv_istore (lv' := [(7, .int (nI 0)), (6, .int (-1)), (0, .ref hm), (1, .int (nI w)), (2, .int (bI b)), (3, .int fi), (4, .int la), (5, .int wa)]) hx hb dX5_notes_32 hl (by decide) rfl (fun ls hl => ?_)
      refine lv_iload hx hb dX5_notes_34 (lv_at hl 1 rfl) ?_
      refine lv_iconst (v := (-1)) hx hb dX5_notes_36 (by decide) ?_
      refine lv_icmp_eq (tgt := 59) hx hb dX5_notes_37 (by decide) (fun c_37 => ?_) (fun c_37 => ?_)
      · refine lv_aload_n hx hb dX5_notes_59 rfl (lv_at hl 2 rfl) ?_
        refine zmget (own := RX5) (ci := 5) (C := RX5) (T := TX5) (N := 18) hx hb hts (by decide +kernel) hown hE hP 0 rfl rfl 11 (by decide) (hts (.fieldLink RX5 71 "LinkResolverModel" "changes" "I") (by decide +kernel)) rfl dX5_notes_60 ?_
        refine lv_istore (lv' := [(8, .int (nI nc)), (7, .int (nI 0)), (6, .int (-1)), (0, .ref hm), (1, .int (nI w)), (2, .int (bI b)), (3, .int fi), (4, .int la), (5, .int wa)]) hx hb dX5_notes_63 hl (by decide) rfl (fun ls hl => ?_)
        refine lv_aload_n hx hb dX5_notes_65 rfl (lv_at hl 3 rfl) ?_
        refine lv_dup hx hb dX5_notes_66 rfl ?_
        refine zmget (own := RX5) (ci := 5) (C := RX5) (T := TX5) (N := 18) hx hb hts (by decide +kernel) hown hE hP 0 rfl rfl 11 (by decide) (hts (.fieldLink RX5 71 "LinkResolverModel" "changes" "I") (by decide +kernel)) rfl dX5_notes_67 ?_
        refine lv_iload hx hb dX5_notes_70 (lv_at hl 0 rfl) ?_
        refine lv_aload_n hx hb dX5_notes_72 rfl (lv_at hl 3 rfl) ?_
        refine zmget (own := RX5) (ci := 5) (C := RX5) (T := TX5) (N := 18) hx hb hts (by decide +kernel) hown hE hP 0 rfl rfl 11 (by decide) (hts (.fieldLink RX5 71 "LinkResolverModel" "changes" "I") (by decide +kernel)) rfl dX5_notes_73 ?_
        refine lv_icmp_ne (tgt := 83) hx hb dX5_notes_76 (by decide) (fun c_76 => ?_) (fun c_76 => ?_)
        · exact absurd rfl c_76
        · refine lv_iconst (v := nI 1) hx hb dX5_notes_79 (by decide) ?_
          refine lv_goto (tgt := 84) hx hb dX5_notes_80 (by decide) ?_
          refine lv_iadd hx hb dX5_notes_84 ?_
          refine zasi (show ((nI nc) + (nI 1)) = nI (nc + 1) from nI_add _ _) ?_
          refine va_put (own := RX5) (ci := 5) (v := .int (nI (nc + 1))) (ty := .int) (C := RX5) (T := TX5) (N := 18) hx hb hts (by decide +kernel) tyX5 tyX5_ok nmX5 hown hE.1 hP hD hS 0 rfl rfl 11 (by decide) (hts (.fieldLink RX5 71 "LinkResolverModel" "changes" "I") (by decide +kernel)) (fun _ h9 => h9) rfl (by decide +kernel) rfl rfl (Nat.le_of_ble_eq_true rfl) dX5_notes_85 (fun H locs hP hD hS => ?_)
          have hP : va_P D vwCl (mW hm ad ca th td nt np (nc + 1) M) H := hP
          have hD : va_D A (mW hm ad ca th td nt np (nc + 1) M) := hD
          refine lv_aload_n hx hb dX5_notes_88 rfl (lv_at hl 3 rfl) ?_
          refine zmget (own := RX5) (ci := 5) (C := RX5) (T := TX5) (N := 18) hx hb hts (by decide +kernel) hown hE hP 0 rfl rfl 12 (by decide) (hts (.fieldLink RX5 32 "LinkResolverModel" "ofWhat" "[I") (by decide +kernel)) rfl dX5_notes_89 ?_
          refine lv_iload hx hb dX5_notes_92 (lv_at hl 0 rfl) ?_
          refine lv_iload_n hx hb dX5_notes_94 rfl (lv_at hl 4 rfl) ?_
          refine zmist hx hb hE hP hD hS 8 rfl (i := nc) (show _ < _ from by omega) (by decide) dX5_notes_95 (fun H locs hP hD hS => ?_)
          have hP : va_P D vwCl (mW hm ad ca th td nt np (nc + 1) (mP M 7 nc (nI w))) H := hP
          have hD : va_D A (mW hm ad ca th td nt np (nc + 1) (mP M 7 nc (nI w))) := hD
          refine lv_aload_n hx hb dX5_notes_96 rfl (lv_at hl 3 rfl) ?_
          refine zmget (own := RX5) (ci := 5) (C := RX5) (T := TX5) (N := 18) hx hb hts (by decide +kernel) hown hE hP 0 rfl rfl 13 (by decide) (hts (.fieldLink RX5 35 "LinkResolverModel" "days" "[I") (by decide +kernel)) rfl dX5_notes_97 ?_
          refine lv_iload hx hb dX5_notes_100 (lv_at hl 0 rfl) ?_
          refine lv_aload_n hx hb dX5_notes_102 rfl (lv_at hl 3 rfl) ?_
          refine zmget (own := RX5) (ci := 5) (C := RX5) (T := TX5) (N := 18) hx hb hts (by decide +kernel) hown hE hP 0 rfl rfl 1 (by decide) (hts (.fieldLink RX5 78 "LinkResolverModel" "today" "I") (by decide +kernel)) rfl dX5_notes_103 ?_
          refine zmist hx hb hE hP hD hS 9 rfl (i := nc) (show _ < _ from by omega) (by decide) dX5_notes_106 (fun H locs hP hD hS => ?_)
          have hP : va_P D vwCl (mW hm ad ca th td nt np (nc + 1) (mP (mP M 7 nc (nI w)) 8 nc (nI td))) H := hP
          have hD : va_D A (mW hm ad ca th td nt np (nc + 1) (mP (mP M 7 nc (nI w)) 8 nc (nI td))) := hD
          refine lv_aload_n hx hb dX5_notes_107 rfl (lv_at hl 3 rfl) ?_
          refine zmget (own := RX5) (ci := 5) (C := RX5) (T := TX5) (N := 18) hx hb hts (by decide +kernel) hown hE hP 0 rfl rfl 14 (by decide) (hts (.fieldLink RX5 38 "LinkResolverModel" "isOn" "[Z") (by decide +kernel)) rfl dX5_notes_108 ?_
          refine lv_iload hx hb dX5_notes_111 (lv_at hl 0 rfl) ?_
          refine lv_iload_n hx hb dX5_notes_113 rfl (lv_at hl 5 rfl) ?_
          refine zmzst hx hb hE hP hD hS 10 rfl (i := nc) (show _ < _ from by omega) (by decide) dX5_notes_114 (fun H locs hP hD hS => ?_)
          have hP : va_P D vwCl (mW hm ad ca th td nt np (nc + 1) (mP (mP (mP M 7 nc (nI w)) 8 nc (nI td)) 9 nc (vp_nar .boolean (bI b)))) H := hP
          have hD : va_D A (mW hm ad ca th td nt np (nc + 1) (mP (mP (mP M 7 nc (nI w)) 8 nc (nI td)) 9 nc (vp_nar .boolean (bI b)))) := hD
          refine lv_aload_n hx hb dX5_notes_115 rfl (lv_at hl 3 rfl) ?_
          refine zmget (own := RX5) (ci := 5) (C := RX5) (T := TX5) (N := 18) hx hb hts (by decide +kernel) hown hE hP 0 rfl rfl 15 (by decide) (hts (.fieldLink RX5 41 "LinkResolverModel" "firsts" "[I") (by decide +kernel)) rfl dX5_notes_116 ?_
          refine lv_iload hx hb dX5_notes_119 (lv_at hl 0 rfl) ?_
          refine lv_iload_n hx hb dX5_notes_121 rfl (lv_at hl 6 rfl) ?_
          refine zmist hx hb hE hP hD hS 11 rfl (i := nc) (show _ < _ from by omega) (by decide) dX5_notes_122 (fun H locs hP hD hS => ?_)
          have hP : va_P D vwCl (mW hm ad ca th td nt np (nc + 1) (mP (mP (mP (mP M 7 nc (nI w)) 8 nc (nI td)) 9 nc (vp_nar .boolean (bI b))) 10 nc fi)) H := hP
          have hD : va_D A (mW hm ad ca th td nt np (nc + 1) (mP (mP (mP (mP M 7 nc (nI w)) 8 nc (nI td)) 9 nc (vp_nar .boolean (bI b))) 10 nc fi)) := hD
          refine lv_aload_n hx hb dX5_notes_123 rfl (lv_at hl 3 rfl) ?_
          refine zmget (own := RX5) (ci := 5) (C := RX5) (T := TX5) (N := 18) hx hb hts (by decide +kernel) hown hE hP 0 rfl rfl 16 (by decide) (hts (.fieldLink RX5 44 "LinkResolverModel" "lasts" "[I") (by decide +kernel)) rfl dX5_notes_124 ?_
          refine lv_iload hx hb dX5_notes_127 (lv_at hl 0 rfl) ?_
          refine lv_iload hx hb dX5_notes_129 (lv_at hl 7 rfl) ?_
          refine zmist hx hb hE hP hD hS 12 rfl (i := nc) (show _ < _ from by omega) (by decide) dX5_notes_131 (fun H locs hP hD hS => ?_)
          have hP : va_P D vwCl (mW hm ad ca th td nt np (nc + 1) (mP (mP (mP (mP (mP M 7 nc (nI w)) 8 nc (nI td)) 9 nc (vp_nar .boolean (bI b))) 10 nc fi) 11 nc la)) H := hP
          have hD : va_D A (mW hm ad ca th td nt np (nc + 1) (mP (mP (mP (mP (mP M 7 nc (nI w)) 8 nc (nI td)) 9 nc (vp_nar .boolean (bI b))) 10 nc fi) 11 nc la)) := hD
          refine lv_aload_n hx hb dX5_notes_132 rfl (lv_at hl 3 rfl) ?_
          refine zmget (own := RX5) (ci := 5) (C := RX5) (T := TX5) (N := 18) hx hb hts (by decide +kernel) hown hE hP 0 rfl rfl 17 (by decide) (hts (.fieldLink RX5 47 "LinkResolverModel" "walls" "[I") (by decide +kernel)) rfl dX5_notes_133 ?_
          refine lv_iload hx hb dX5_notes_136 (lv_at hl 0 rfl) ?_
          refine lv_iload hx hb dX5_notes_138 (lv_at hl 8 rfl) ?_
          refine zmist hx hb hE hP hD hS 13 rfl (i := nc) (show _ < _ from by omega) (by decide) dX5_notes_140 (fun H locs hP hD hS => ?_)
          have hP : va_P D vwCl (mW hm ad ca th td nt np (nc + 1) (mP (mP (mP (mP (mP (mP M 7 nc (nI w)) 8 nc (nI td)) 9 nc (vp_nar .boolean (bI b))) 10 nc fi) 11 nc la) 12 nc wa)) H := hP
          have hD : va_D A (mW hm ad ca th td nt np (nc + 1) (mP (mP (mP (mP (mP (mP M 7 nc (nI w)) 8 nc (nI td)) 9 nc (vp_nar .boolean (bI b))) 10 nc fi) 11 nc la) 12 nc wa)) := hD
          refine lv_iload hx hb dX5_notes_141 (lv_at hl 1 rfl) ?_
          have e8 : mN M td nc w = nc := by rw [mN, e9]
          have hP : va_P D vwCl (mW hm ad ca th td nt np (mNc M td nc w) (mNM M td nc w b fi la wa)) H := by
            rw [mNc, mNM, e8, if_pos rfl]; exact hP
          exact zmrz hx hb hr hlocks dX5_notes_143 (by first | rfl | exact bI_nar _) hP hS (by rw [mSo, e9]; rfl)
      · exact absurd rfl c_37
    · exact absurd rfl c_14
  | some k9 =>
    have hk9 := mOn_lt e9
    refine W.eq (g2 := F0 m 9 ls [.int (nI k9)]) rfl ?_
    refine lv_istore (lv' := [(6, .int (nI k9)), (0, .ref hm), (1, .int (nI w)), (2, .int (bI b)), (3, .int fi), (4, .int la), (5, .int wa)]) hx hb dX5_notes_9 hl (by decide) rfl (fun ls hl => ?_)
    refine lv_iload hx hb dX5_notes_11 (lv_at hl 0 rfl) ?_
    refine lv_iconst (v := (-1)) hx hb dX5_notes_13 (by decide) ?_
    refine lv_icmp_eq (tgt := 31) hx hb dX5_notes_14 (by decide) (fun c_14 => ?_) (fun c_14 => ?_)
    · exact absurd c_14 (oI_n _ (by omega))
    · refine lv_aload_n hx hb dX5_notes_17 rfl (lv_at hl 1 rfl) ?_
      refine zmget (own := RX5) (ci := 5) (C := RX5) (T := TX5) (N := 18) hx hb hts (by decide +kernel) hown hE hP 0 rfl rfl 14 (by decide) (hts (.fieldLink RX5 38 "LinkResolverModel" "isOn" "[Z") (by decide +kernel)) rfl dX5_notes_18 ?_
      refine lv_iload hx hb dX5_notes_21 (lv_at hl 0 rfl) ?_
      refine zmz hx hb hE hP 10 rfl (i := k9) (show _ < _ from by omega) (by decide) dX5_notes_23 ?_
      refine lv_if_eq (tgt := 31) hx hb dX5_notes_24 (by decide) (fun c_24 => ?_) (fun c_24 => ?_)
      · refine lv_iconst (v := nI 0) hx hb dX5_notes_31 (by decide) ?_
        refine lv_istore (lv' := [(7, .int (nI 0)), (6, .int (nI k9)), (0, .ref hm), (1, .int (nI w)), (2, .int (bI b)), (3, .int fi), (4, .int la), (5, .int wa)]) hx hb dX5_notes_32 hl (by decide) rfl (fun ls hl => ?_)
        refine lv_iload hx hb dX5_notes_34 (lv_at hl 1 rfl) ?_
        refine lv_iconst (v := (-1)) hx hb dX5_notes_36 (by decide) ?_
        refine lv_icmp_eq (tgt := 59) hx hb dX5_notes_37 (by decide) (fun c_37 => ?_) (fun c_37 => ?_)
        · exact absurd c_37 (oI_n _ (by omega))
        · refine lv_aload_n hx hb dX5_notes_40 rfl (lv_at hl 2 rfl) ?_
          refine zmget (own := RX5) (ci := 5) (C := RX5) (T := TX5) (N := 18) hx hb hts (by decide +kernel) hown hE hP 0 rfl rfl 13 (by decide) (hts (.fieldLink RX5 35 "LinkResolverModel" "days" "[I") (by decide +kernel)) rfl dX5_notes_41 ?_
          refine lv_iload hx hb dX5_notes_44 (lv_at hl 1 rfl) ?_
          refine zmi hx hb hE hP 9 rfl (i := k9) (show _ < _ from by omega) (by decide) dX5_notes_46 ?_
          refine lv_aload_n hx hb dX5_notes_47 rfl (lv_at hl 2 rfl) ?_
          refine zmget (own := RX5) (ci := 5) (C := RX5) (T := TX5) (N := 18) hx hb hts (by decide +kernel) hown hE hP 0 rfl rfl 1 (by decide) (hts (.fieldLink RX5 78 "LinkResolverModel" "today" "I") (by decide +kernel)) rfl dX5_notes_48 ?_
          refine lv_icmp_ne (tgt := 59) hx hb dX5_notes_51 (by decide) (fun c_51 => ?_) (fun c_51 => ?_)
          · refine lv_aload_n hx hb dX5_notes_59 rfl (lv_at hl 2 rfl) ?_
            refine zmget (own := RX5) (ci := 5) (C := RX5) (T := TX5) (N := 18) hx hb hts (by decide +kernel) hown hE hP 0 rfl rfl 11 (by decide) (hts (.fieldLink RX5 71 "LinkResolverModel" "changes" "I") (by decide +kernel)) rfl dX5_notes_60 ?_
            refine lv_istore (lv' := [(8, .int (nI nc)), (7, .int (nI 0)), (6, .int (nI k9)), (0, .ref hm), (1, .int (nI w)), (2, .int (bI b)), (3, .int fi), (4, .int la), (5, .int wa)]) hx hb dX5_notes_63 hl (by decide) rfl (fun ls hl => ?_)
            refine lv_aload_n hx hb dX5_notes_65 rfl (lv_at hl 3 rfl) ?_
            refine lv_dup hx hb dX5_notes_66 rfl ?_
            refine zmget (own := RX5) (ci := 5) (C := RX5) (T := TX5) (N := 18) hx hb hts (by decide +kernel) hown hE hP 0 rfl rfl 11 (by decide) (hts (.fieldLink RX5 71 "LinkResolverModel" "changes" "I") (by decide +kernel)) rfl dX5_notes_67 ?_
            refine lv_iload hx hb dX5_notes_70 (lv_at hl 0 rfl) ?_
            refine lv_aload_n hx hb dX5_notes_72 rfl (lv_at hl 3 rfl) ?_
            refine zmget (own := RX5) (ci := 5) (C := RX5) (T := TX5) (N := 18) hx hb hts (by decide +kernel) hown hE hP 0 rfl rfl 11 (by decide) (hts (.fieldLink RX5 71 "LinkResolverModel" "changes" "I") (by decide +kernel)) rfl dX5_notes_73 ?_
            refine lv_icmp_ne (tgt := 83) hx hb dX5_notes_76 (by decide) (fun c_76 => ?_) (fun c_76 => ?_)
            · exact absurd rfl c_76
            · refine lv_iconst (v := nI 1) hx hb dX5_notes_79 (by decide) ?_
              refine lv_goto (tgt := 84) hx hb dX5_notes_80 (by decide) ?_
              refine lv_iadd hx hb dX5_notes_84 ?_
              refine zasi (show ((nI nc) + (nI 1)) = nI (nc + 1) from nI_add _ _) ?_
              refine va_put (own := RX5) (ci := 5) (v := .int (nI (nc + 1))) (ty := .int) (C := RX5) (T := TX5) (N := 18) hx hb hts (by decide +kernel) tyX5 tyX5_ok nmX5 hown hE.1 hP hD hS 0 rfl rfl 11 (by decide) (hts (.fieldLink RX5 71 "LinkResolverModel" "changes" "I") (by decide +kernel)) (fun _ h9 => h9) rfl (by decide +kernel) rfl rfl (Nat.le_of_ble_eq_true rfl) dX5_notes_85 (fun H locs hP hD hS => ?_)
              have hP : va_P D vwCl (mW hm ad ca th td nt np (nc + 1) M) H := hP
              have hD : va_D A (mW hm ad ca th td nt np (nc + 1) M) := hD
              refine lv_aload_n hx hb dX5_notes_88 rfl (lv_at hl 3 rfl) ?_
              refine zmget (own := RX5) (ci := 5) (C := RX5) (T := TX5) (N := 18) hx hb hts (by decide +kernel) hown hE hP 0 rfl rfl 12 (by decide) (hts (.fieldLink RX5 32 "LinkResolverModel" "ofWhat" "[I") (by decide +kernel)) rfl dX5_notes_89 ?_
              refine lv_iload hx hb dX5_notes_92 (lv_at hl 0 rfl) ?_
              refine lv_iload_n hx hb dX5_notes_94 rfl (lv_at hl 4 rfl) ?_
              refine zmist hx hb hE hP hD hS 8 rfl (i := nc) (show _ < _ from by omega) (by decide) dX5_notes_95 (fun H locs hP hD hS => ?_)
              have hP : va_P D vwCl (mW hm ad ca th td nt np (nc + 1) (mP M 7 nc (nI w))) H := hP
              have hD : va_D A (mW hm ad ca th td nt np (nc + 1) (mP M 7 nc (nI w))) := hD
              refine lv_aload_n hx hb dX5_notes_96 rfl (lv_at hl 3 rfl) ?_
              refine zmget (own := RX5) (ci := 5) (C := RX5) (T := TX5) (N := 18) hx hb hts (by decide +kernel) hown hE hP 0 rfl rfl 13 (by decide) (hts (.fieldLink RX5 35 "LinkResolverModel" "days" "[I") (by decide +kernel)) rfl dX5_notes_97 ?_
              refine lv_iload hx hb dX5_notes_100 (lv_at hl 0 rfl) ?_
              refine lv_aload_n hx hb dX5_notes_102 rfl (lv_at hl 3 rfl) ?_
              refine zmget (own := RX5) (ci := 5) (C := RX5) (T := TX5) (N := 18) hx hb hts (by decide +kernel) hown hE hP 0 rfl rfl 1 (by decide) (hts (.fieldLink RX5 78 "LinkResolverModel" "today" "I") (by decide +kernel)) rfl dX5_notes_103 ?_
              refine zmist hx hb hE hP hD hS 9 rfl (i := nc) (show _ < _ from by omega) (by decide) dX5_notes_106 (fun H locs hP hD hS => ?_)
              have hP : va_P D vwCl (mW hm ad ca th td nt np (nc + 1) (mP (mP M 7 nc (nI w)) 8 nc (nI td))) H := hP
              have hD : va_D A (mW hm ad ca th td nt np (nc + 1) (mP (mP M 7 nc (nI w)) 8 nc (nI td))) := hD
              refine lv_aload_n hx hb dX5_notes_107 rfl (lv_at hl 3 rfl) ?_
              refine zmget (own := RX5) (ci := 5) (C := RX5) (T := TX5) (N := 18) hx hb hts (by decide +kernel) hown hE hP 0 rfl rfl 14 (by decide) (hts (.fieldLink RX5 38 "LinkResolverModel" "isOn" "[Z") (by decide +kernel)) rfl dX5_notes_108 ?_
              refine lv_iload hx hb dX5_notes_111 (lv_at hl 0 rfl) ?_
              refine lv_iload_n hx hb dX5_notes_113 rfl (lv_at hl 5 rfl) ?_
              refine zmzst hx hb hE hP hD hS 10 rfl (i := nc) (show _ < _ from by omega) (by decide) dX5_notes_114 (fun H locs hP hD hS => ?_)
              have hP : va_P D vwCl (mW hm ad ca th td nt np (nc + 1) (mP (mP (mP M 7 nc (nI w)) 8 nc (nI td)) 9 nc (vp_nar .boolean (bI b)))) H := hP
              have hD : va_D A (mW hm ad ca th td nt np (nc + 1) (mP (mP (mP M 7 nc (nI w)) 8 nc (nI td)) 9 nc (vp_nar .boolean (bI b)))) := hD
              refine lv_aload_n hx hb dX5_notes_115 rfl (lv_at hl 3 rfl) ?_
              refine zmget (own := RX5) (ci := 5) (C := RX5) (T := TX5) (N := 18) hx hb hts (by decide +kernel) hown hE hP 0 rfl rfl 15 (by decide) (hts (.fieldLink RX5 41 "LinkResolverModel" "firsts" "[I") (by decide +kernel)) rfl dX5_notes_116 ?_
              refine lv_iload hx hb dX5_notes_119 (lv_at hl 0 rfl) ?_
              refine lv_iload_n hx hb dX5_notes_121 rfl (lv_at hl 6 rfl) ?_
              refine zmist hx hb hE hP hD hS 11 rfl (i := nc) (show _ < _ from by omega) (by decide) dX5_notes_122 (fun H locs hP hD hS => ?_)
              have hP : va_P D vwCl (mW hm ad ca th td nt np (nc + 1) (mP (mP (mP (mP M 7 nc (nI w)) 8 nc (nI td)) 9 nc (vp_nar .boolean (bI b))) 10 nc fi)) H := hP
              have hD : va_D A (mW hm ad ca th td nt np (nc + 1) (mP (mP (mP (mP M 7 nc (nI w)) 8 nc (nI td)) 9 nc (vp_nar .boolean (bI b))) 10 nc fi)) := hD
              refine lv_aload_n hx hb dX5_notes_123 rfl (lv_at hl 3 rfl) ?_
              refine zmget (own := RX5) (ci := 5) (C := RX5) (T := TX5) (N := 18) hx hb hts (by decide +kernel) hown hE hP 0 rfl rfl 16 (by decide) (hts (.fieldLink RX5 44 "LinkResolverModel" "lasts" "[I") (by decide +kernel)) rfl dX5_notes_124 ?_
              refine lv_iload hx hb dX5_notes_127 (lv_at hl 0 rfl) ?_
              refine lv_iload hx hb dX5_notes_129 (lv_at hl 7 rfl) ?_
              refine zmist hx hb hE hP hD hS 12 rfl (i := nc) (show _ < _ from by omega) (by decide) dX5_notes_131 (fun H locs hP hD hS => ?_)
              have hP : va_P D vwCl (mW hm ad ca th td nt np (nc + 1) (mP (mP (mP (mP (mP M 7 nc (nI w)) 8 nc (nI td)) 9 nc (vp_nar .boolean (bI b))) 10 nc fi) 11 nc la)) H := hP
              have hD : va_D A (mW hm ad ca th td nt np (nc + 1) (mP (mP (mP (mP (mP M 7 nc (nI w)) 8 nc (nI td)) 9 nc (vp_nar .boolean (bI b))) 10 nc fi) 11 nc la)) := hD
              refine lv_aload_n hx hb dX5_notes_132 rfl (lv_at hl 3 rfl) ?_
              refine zmget (own := RX5) (ci := 5) (C := RX5) (T := TX5) (N := 18) hx hb hts (by decide +kernel) hown hE hP 0 rfl rfl 17 (by decide) (hts (.fieldLink RX5 47 "LinkResolverModel" "walls" "[I") (by decide +kernel)) rfl dX5_notes_133 ?_
              refine lv_iload hx hb dX5_notes_136 (lv_at hl 0 rfl) ?_
              refine lv_iload hx hb dX5_notes_138 (lv_at hl 8 rfl) ?_
              refine zmist hx hb hE hP hD hS 13 rfl (i := nc) (show _ < _ from by omega) (by decide) dX5_notes_140 (fun H locs hP hD hS => ?_)
              have hP : va_P D vwCl (mW hm ad ca th td nt np (nc + 1) (mP (mP (mP (mP (mP (mP M 7 nc (nI w)) 8 nc (nI td)) 9 nc (vp_nar .boolean (bI b))) 10 nc fi) 11 nc la) 12 nc wa)) H := hP
              have hD : va_D A (mW hm ad ca th td nt np (nc + 1) (mP (mP (mP (mP (mP (mP M 7 nc (nI w)) 8 nc (nI td)) 9 nc (vp_nar .boolean (bI b))) 10 nc fi) 11 nc la) 12 nc wa)) := hD
              refine lv_iload hx hb dX5_notes_141 (lv_at hl 1 rfl) ?_
              have e8 : mN M td nc w = nc := by rw [mN, e9]; exact if_neg c_51
              have hP : va_P D vwCl (mW hm ad ca th td nt np (mNc M td nc w) (mNM M td nc w b fi la wa)) H := by
                rw [mNc, mNM, e8, if_pos rfl]; exact hP
              exact zmrz hx hb hr hlocks dX5_notes_143 (by first | rfl | exact bI_nar _) hP hS (by rw [mSo, e9]; exact bI_f (fun q => q c_24))
          · refine lv_iload hx hb dX5_notes_54 (lv_at hl 1 rfl) ?_
            refine lv_goto (tgt := 63) hx hb dX5_notes_56 (by decide) ?_
            refine lv_istore (lv' := [(8, .int (nI k9)), (7, .int (nI 0)), (6, .int (nI k9)), (0, .ref hm), (1, .int (nI w)), (2, .int (bI b)), (3, .int fi), (4, .int la), (5, .int wa)]) hx hb dX5_notes_63 hl (by decide) rfl (fun ls hl => ?_)
            refine lv_aload_n hx hb dX5_notes_65 rfl (lv_at hl 3 rfl) ?_
            refine lv_dup hx hb dX5_notes_66 rfl ?_
            refine zmget (own := RX5) (ci := 5) (C := RX5) (T := TX5) (N := 18) hx hb hts (by decide +kernel) hown hE hP 0 rfl rfl 11 (by decide) (hts (.fieldLink RX5 71 "LinkResolverModel" "changes" "I") (by decide +kernel)) rfl dX5_notes_67 ?_
            refine lv_iload hx hb dX5_notes_70 (lv_at hl 0 rfl) ?_
            refine lv_aload_n hx hb dX5_notes_72 rfl (lv_at hl 3 rfl) ?_
            refine zmget (own := RX5) (ci := 5) (C := RX5) (T := TX5) (N := 18) hx hb hts (by decide +kernel) hown hE hP 0 rfl rfl 11 (by decide) (hts (.fieldLink RX5 71 "LinkResolverModel" "changes" "I") (by decide +kernel)) rfl dX5_notes_73 ?_
            refine lv_icmp_ne (tgt := 83) hx hb dX5_notes_76 (by decide) (fun c_76 => ?_) (fun c_76 => ?_)
            · refine lv_iconst (v := nI 0) hx hb dX5_notes_83 (by decide) ?_
              refine lv_iadd hx hb dX5_notes_84 ?_
              refine zasi (show ((nI nc) + (nI 0)) = nI (nc + 0) from nI_add _ _) ?_
              refine va_put (own := RX5) (ci := 5) (v := .int (nI (nc + 0))) (ty := .int) (C := RX5) (T := TX5) (N := 18) hx hb hts (by decide +kernel) tyX5 tyX5_ok nmX5 hown hE.1 hP hD hS 0 rfl rfl 11 (by decide) (hts (.fieldLink RX5 71 "LinkResolverModel" "changes" "I") (by decide +kernel)) (fun _ h9 => h9) rfl (by decide +kernel) rfl rfl (Nat.le_of_ble_eq_true rfl) dX5_notes_85 (fun H locs hP hD hS => ?_)
              have hP : va_P D vwCl (mW hm ad ca th td nt np (nc + 0) M) H := hP
              have hD : va_D A (mW hm ad ca th td nt np (nc + 0) M) := hD
              refine lv_aload_n hx hb dX5_notes_88 rfl (lv_at hl 3 rfl) ?_
              refine zmget (own := RX5) (ci := 5) (C := RX5) (T := TX5) (N := 18) hx hb hts (by decide +kernel) hown hE hP 0 rfl rfl 12 (by decide) (hts (.fieldLink RX5 32 "LinkResolverModel" "ofWhat" "[I") (by decide +kernel)) rfl dX5_notes_89 ?_
              refine lv_iload hx hb dX5_notes_92 (lv_at hl 0 rfl) ?_
              refine lv_iload_n hx hb dX5_notes_94 rfl (lv_at hl 4 rfl) ?_
              refine zmist hx hb hE hP hD hS 8 rfl (i := k9) (show _ < _ from by omega) (by decide) dX5_notes_95 (fun H locs hP hD hS => ?_)
              have hP : va_P D vwCl (mW hm ad ca th td nt np (nc + 0) (mP M 7 k9 (nI w))) H := hP
              have hD : va_D A (mW hm ad ca th td nt np (nc + 0) (mP M 7 k9 (nI w))) := hD
              refine lv_aload_n hx hb dX5_notes_96 rfl (lv_at hl 3 rfl) ?_
              refine zmget (own := RX5) (ci := 5) (C := RX5) (T := TX5) (N := 18) hx hb hts (by decide +kernel) hown hE hP 0 rfl rfl 13 (by decide) (hts (.fieldLink RX5 35 "LinkResolverModel" "days" "[I") (by decide +kernel)) rfl dX5_notes_97 ?_
              refine lv_iload hx hb dX5_notes_100 (lv_at hl 0 rfl) ?_
              refine lv_aload_n hx hb dX5_notes_102 rfl (lv_at hl 3 rfl) ?_
              refine zmget (own := RX5) (ci := 5) (C := RX5) (T := TX5) (N := 18) hx hb hts (by decide +kernel) hown hE hP 0 rfl rfl 1 (by decide) (hts (.fieldLink RX5 78 "LinkResolverModel" "today" "I") (by decide +kernel)) rfl dX5_notes_103 ?_
              refine zmist hx hb hE hP hD hS 9 rfl (i := k9) (show _ < _ from by omega) (by decide) dX5_notes_106 (fun H locs hP hD hS => ?_)
              have hP : va_P D vwCl (mW hm ad ca th td nt np (nc + 0) (mP (mP M 7 k9 (nI w)) 8 k9 (nI td))) H := hP
              have hD : va_D A (mW hm ad ca th td nt np (nc + 0) (mP (mP M 7 k9 (nI w)) 8 k9 (nI td))) := hD
              refine lv_aload_n hx hb dX5_notes_107 rfl (lv_at hl 3 rfl) ?_
              refine zmget (own := RX5) (ci := 5) (C := RX5) (T := TX5) (N := 18) hx hb hts (by decide +kernel) hown hE hP 0 rfl rfl 14 (by decide) (hts (.fieldLink RX5 38 "LinkResolverModel" "isOn" "[Z") (by decide +kernel)) rfl dX5_notes_108 ?_
              refine lv_iload hx hb dX5_notes_111 (lv_at hl 0 rfl) ?_
              refine lv_iload_n hx hb dX5_notes_113 rfl (lv_at hl 5 rfl) ?_
              refine zmzst hx hb hE hP hD hS 10 rfl (i := k9) (show _ < _ from by omega) (by decide) dX5_notes_114 (fun H locs hP hD hS => ?_)
              have hP : va_P D vwCl (mW hm ad ca th td nt np (nc + 0) (mP (mP (mP M 7 k9 (nI w)) 8 k9 (nI td)) 9 k9 (vp_nar .boolean (bI b)))) H := hP
              have hD : va_D A (mW hm ad ca th td nt np (nc + 0) (mP (mP (mP M 7 k9 (nI w)) 8 k9 (nI td)) 9 k9 (vp_nar .boolean (bI b)))) := hD
              refine lv_aload_n hx hb dX5_notes_115 rfl (lv_at hl 3 rfl) ?_
              refine zmget (own := RX5) (ci := 5) (C := RX5) (T := TX5) (N := 18) hx hb hts (by decide +kernel) hown hE hP 0 rfl rfl 15 (by decide) (hts (.fieldLink RX5 41 "LinkResolverModel" "firsts" "[I") (by decide +kernel)) rfl dX5_notes_116 ?_
              refine lv_iload hx hb dX5_notes_119 (lv_at hl 0 rfl) ?_
              refine lv_iload_n hx hb dX5_notes_121 rfl (lv_at hl 6 rfl) ?_
              refine zmist hx hb hE hP hD hS 11 rfl (i := k9) (show _ < _ from by omega) (by decide) dX5_notes_122 (fun H locs hP hD hS => ?_)
              have hP : va_P D vwCl (mW hm ad ca th td nt np (nc + 0) (mP (mP (mP (mP M 7 k9 (nI w)) 8 k9 (nI td)) 9 k9 (vp_nar .boolean (bI b))) 10 k9 fi)) H := hP
              have hD : va_D A (mW hm ad ca th td nt np (nc + 0) (mP (mP (mP (mP M 7 k9 (nI w)) 8 k9 (nI td)) 9 k9 (vp_nar .boolean (bI b))) 10 k9 fi)) := hD
              refine lv_aload_n hx hb dX5_notes_123 rfl (lv_at hl 3 rfl) ?_
              refine zmget (own := RX5) (ci := 5) (C := RX5) (T := TX5) (N := 18) hx hb hts (by decide +kernel) hown hE hP 0 rfl rfl 16 (by decide) (hts (.fieldLink RX5 44 "LinkResolverModel" "lasts" "[I") (by decide +kernel)) rfl dX5_notes_124 ?_
              refine lv_iload hx hb dX5_notes_127 (lv_at hl 0 rfl) ?_
              refine lv_iload hx hb dX5_notes_129 (lv_at hl 7 rfl) ?_
              refine zmist hx hb hE hP hD hS 12 rfl (i := k9) (show _ < _ from by omega) (by decide) dX5_notes_131 (fun H locs hP hD hS => ?_)
              have hP : va_P D vwCl (mW hm ad ca th td nt np (nc + 0) (mP (mP (mP (mP (mP M 7 k9 (nI w)) 8 k9 (nI td)) 9 k9 (vp_nar .boolean (bI b))) 10 k9 fi) 11 k9 la)) H := hP
              have hD : va_D A (mW hm ad ca th td nt np (nc + 0) (mP (mP (mP (mP (mP M 7 k9 (nI w)) 8 k9 (nI td)) 9 k9 (vp_nar .boolean (bI b))) 10 k9 fi) 11 k9 la)) := hD
              refine lv_aload_n hx hb dX5_notes_132 rfl (lv_at hl 3 rfl) ?_
              refine zmget (own := RX5) (ci := 5) (C := RX5) (T := TX5) (N := 18) hx hb hts (by decide +kernel) hown hE hP 0 rfl rfl 17 (by decide) (hts (.fieldLink RX5 47 "LinkResolverModel" "walls" "[I") (by decide +kernel)) rfl dX5_notes_133 ?_
              refine lv_iload hx hb dX5_notes_136 (lv_at hl 0 rfl) ?_
              refine lv_iload hx hb dX5_notes_138 (lv_at hl 8 rfl) ?_
              refine zmist hx hb hE hP hD hS 13 rfl (i := k9) (show _ < _ from by omega) (by decide) dX5_notes_140 (fun H locs hP hD hS => ?_)
              have hP : va_P D vwCl (mW hm ad ca th td nt np (nc + 0) (mP (mP (mP (mP (mP (mP M 7 k9 (nI w)) 8 k9 (nI td)) 9 k9 (vp_nar .boolean (bI b))) 10 k9 fi) 11 k9 la) 12 k9 wa)) H := hP
              have hD : va_D A (mW hm ad ca th td nt np (nc + 0) (mP (mP (mP (mP (mP (mP M 7 k9 (nI w)) 8 k9 (nI td)) 9 k9 (vp_nar .boolean (bI b))) 10 k9 fi) 11 k9 la) 12 k9 wa)) := hD
              refine lv_iload hx hb dX5_notes_141 (lv_at hl 1 rfl) ?_
              have e8 : mN M td nc w = k9 := by rw [mN, e9]; exact if_pos c_51
              have hP : va_P D vwCl (mW hm ad ca th td nt np (mNc M td nc w) (mNM M td nc w b fi la wa)) H := by
                rw [mNc, mNM, e8, if_neg (by omega)]; exact hP
              exact zmrz hx hb hr hlocks dX5_notes_143 (by first | rfl | exact bI_nar _) hP hS (by rw [mSo, e9]; exact bI_f (fun q => q c_24))
            · exact absurd ((nI_eq (by omega) (by omega)).mp c_76) (by omega)
      · refine lv_iconst (v := nI 1) hx hb dX5_notes_27 (by decide) ?_
        refine lv_goto (tgt := 32) hx hb dX5_notes_28 (by decide) ?_
        refine lv_istore (lv' := [(7, .int (nI 1)), (6, .int (nI k9)), (0, .ref hm), (1, .int (nI w)), (2, .int (bI b)), (3, .int fi), (4, .int la), (5, .int wa)]) hx hb dX5_notes_32 hl (by decide) rfl (fun ls hl => ?_)
        refine lv_iload hx hb dX5_notes_34 (lv_at hl 1 rfl) ?_
        refine lv_iconst (v := (-1)) hx hb dX5_notes_36 (by decide) ?_
        refine lv_icmp_eq (tgt := 59) hx hb dX5_notes_37 (by decide) (fun c_37 => ?_) (fun c_37 => ?_)
        · exact absurd c_37 (oI_n _ (by omega))
        · refine lv_aload_n hx hb dX5_notes_40 rfl (lv_at hl 2 rfl) ?_
          refine zmget (own := RX5) (ci := 5) (C := RX5) (T := TX5) (N := 18) hx hb hts (by decide +kernel) hown hE hP 0 rfl rfl 13 (by decide) (hts (.fieldLink RX5 35 "LinkResolverModel" "days" "[I") (by decide +kernel)) rfl dX5_notes_41 ?_
          refine lv_iload hx hb dX5_notes_44 (lv_at hl 1 rfl) ?_
          refine zmi hx hb hE hP 9 rfl (i := k9) (show _ < _ from by omega) (by decide) dX5_notes_46 ?_
          refine lv_aload_n hx hb dX5_notes_47 rfl (lv_at hl 2 rfl) ?_
          refine zmget (own := RX5) (ci := 5) (C := RX5) (T := TX5) (N := 18) hx hb hts (by decide +kernel) hown hE hP 0 rfl rfl 1 (by decide) (hts (.fieldLink RX5 78 "LinkResolverModel" "today" "I") (by decide +kernel)) rfl dX5_notes_48 ?_
          refine lv_icmp_ne (tgt := 59) hx hb dX5_notes_51 (by decide) (fun c_51 => ?_) (fun c_51 => ?_)
          · refine lv_aload_n hx hb dX5_notes_59 rfl (lv_at hl 2 rfl) ?_
            refine zmget (own := RX5) (ci := 5) (C := RX5) (T := TX5) (N := 18) hx hb hts (by decide +kernel) hown hE hP 0 rfl rfl 11 (by decide) (hts (.fieldLink RX5 71 "LinkResolverModel" "changes" "I") (by decide +kernel)) rfl dX5_notes_60 ?_
            refine lv_istore (lv' := [(8, .int (nI nc)), (7, .int (nI 1)), (6, .int (nI k9)), (0, .ref hm), (1, .int (nI w)), (2, .int (bI b)), (3, .int fi), (4, .int la), (5, .int wa)]) hx hb dX5_notes_63 hl (by decide) rfl (fun ls hl => ?_)
            refine lv_aload_n hx hb dX5_notes_65 rfl (lv_at hl 3 rfl) ?_
            refine lv_dup hx hb dX5_notes_66 rfl ?_
            refine zmget (own := RX5) (ci := 5) (C := RX5) (T := TX5) (N := 18) hx hb hts (by decide +kernel) hown hE hP 0 rfl rfl 11 (by decide) (hts (.fieldLink RX5 71 "LinkResolverModel" "changes" "I") (by decide +kernel)) rfl dX5_notes_67 ?_
            refine lv_iload hx hb dX5_notes_70 (lv_at hl 0 rfl) ?_
            refine lv_aload_n hx hb dX5_notes_72 rfl (lv_at hl 3 rfl) ?_
            refine zmget (own := RX5) (ci := 5) (C := RX5) (T := TX5) (N := 18) hx hb hts (by decide +kernel) hown hE hP 0 rfl rfl 11 (by decide) (hts (.fieldLink RX5 71 "LinkResolverModel" "changes" "I") (by decide +kernel)) rfl dX5_notes_73 ?_
            refine lv_icmp_ne (tgt := 83) hx hb dX5_notes_76 (by decide) (fun c_76 => ?_) (fun c_76 => ?_)
            · exact absurd rfl c_76
            · refine lv_iconst (v := nI 1) hx hb dX5_notes_79 (by decide) ?_
              refine lv_goto (tgt := 84) hx hb dX5_notes_80 (by decide) ?_
              refine lv_iadd hx hb dX5_notes_84 ?_
              refine zasi (show ((nI nc) + (nI 1)) = nI (nc + 1) from nI_add _ _) ?_
              refine va_put (own := RX5) (ci := 5) (v := .int (nI (nc + 1))) (ty := .int) (C := RX5) (T := TX5) (N := 18) hx hb hts (by decide +kernel) tyX5 tyX5_ok nmX5 hown hE.1 hP hD hS 0 rfl rfl 11 (by decide) (hts (.fieldLink RX5 71 "LinkResolverModel" "changes" "I") (by decide +kernel)) (fun _ h9 => h9) rfl (by decide +kernel) rfl rfl (Nat.le_of_ble_eq_true rfl) dX5_notes_85 (fun H locs hP hD hS => ?_)
              have hP : va_P D vwCl (mW hm ad ca th td nt np (nc + 1) M) H := hP
              have hD : va_D A (mW hm ad ca th td nt np (nc + 1) M) := hD
              refine lv_aload_n hx hb dX5_notes_88 rfl (lv_at hl 3 rfl) ?_
              refine zmget (own := RX5) (ci := 5) (C := RX5) (T := TX5) (N := 18) hx hb hts (by decide +kernel) hown hE hP 0 rfl rfl 12 (by decide) (hts (.fieldLink RX5 32 "LinkResolverModel" "ofWhat" "[I") (by decide +kernel)) rfl dX5_notes_89 ?_
              refine lv_iload hx hb dX5_notes_92 (lv_at hl 0 rfl) ?_
              refine lv_iload_n hx hb dX5_notes_94 rfl (lv_at hl 4 rfl) ?_
              refine zmist hx hb hE hP hD hS 8 rfl (i := nc) (show _ < _ from by omega) (by decide) dX5_notes_95 (fun H locs hP hD hS => ?_)
              have hP : va_P D vwCl (mW hm ad ca th td nt np (nc + 1) (mP M 7 nc (nI w))) H := hP
              have hD : va_D A (mW hm ad ca th td nt np (nc + 1) (mP M 7 nc (nI w))) := hD
              refine lv_aload_n hx hb dX5_notes_96 rfl (lv_at hl 3 rfl) ?_
              refine zmget (own := RX5) (ci := 5) (C := RX5) (T := TX5) (N := 18) hx hb hts (by decide +kernel) hown hE hP 0 rfl rfl 13 (by decide) (hts (.fieldLink RX5 35 "LinkResolverModel" "days" "[I") (by decide +kernel)) rfl dX5_notes_97 ?_
              refine lv_iload hx hb dX5_notes_100 (lv_at hl 0 rfl) ?_
              refine lv_aload_n hx hb dX5_notes_102 rfl (lv_at hl 3 rfl) ?_
              refine zmget (own := RX5) (ci := 5) (C := RX5) (T := TX5) (N := 18) hx hb hts (by decide +kernel) hown hE hP 0 rfl rfl 1 (by decide) (hts (.fieldLink RX5 78 "LinkResolverModel" "today" "I") (by decide +kernel)) rfl dX5_notes_103 ?_
              refine zmist hx hb hE hP hD hS 9 rfl (i := nc) (show _ < _ from by omega) (by decide) dX5_notes_106 (fun H locs hP hD hS => ?_)
              have hP : va_P D vwCl (mW hm ad ca th td nt np (nc + 1) (mP (mP M 7 nc (nI w)) 8 nc (nI td))) H := hP
              have hD : va_D A (mW hm ad ca th td nt np (nc + 1) (mP (mP M 7 nc (nI w)) 8 nc (nI td))) := hD
              refine lv_aload_n hx hb dX5_notes_107 rfl (lv_at hl 3 rfl) ?_
              refine zmget (own := RX5) (ci := 5) (C := RX5) (T := TX5) (N := 18) hx hb hts (by decide +kernel) hown hE hP 0 rfl rfl 14 (by decide) (hts (.fieldLink RX5 38 "LinkResolverModel" "isOn" "[Z") (by decide +kernel)) rfl dX5_notes_108 ?_
              refine lv_iload hx hb dX5_notes_111 (lv_at hl 0 rfl) ?_
              refine lv_iload_n hx hb dX5_notes_113 rfl (lv_at hl 5 rfl) ?_
              refine zmzst hx hb hE hP hD hS 10 rfl (i := nc) (show _ < _ from by omega) (by decide) dX5_notes_114 (fun H locs hP hD hS => ?_)
              have hP : va_P D vwCl (mW hm ad ca th td nt np (nc + 1) (mP (mP (mP M 7 nc (nI w)) 8 nc (nI td)) 9 nc (vp_nar .boolean (bI b)))) H := hP
              have hD : va_D A (mW hm ad ca th td nt np (nc + 1) (mP (mP (mP M 7 nc (nI w)) 8 nc (nI td)) 9 nc (vp_nar .boolean (bI b)))) := hD
              refine lv_aload_n hx hb dX5_notes_115 rfl (lv_at hl 3 rfl) ?_
              refine zmget (own := RX5) (ci := 5) (C := RX5) (T := TX5) (N := 18) hx hb hts (by decide +kernel) hown hE hP 0 rfl rfl 15 (by decide) (hts (.fieldLink RX5 41 "LinkResolverModel" "firsts" "[I") (by decide +kernel)) rfl dX5_notes_116 ?_
              refine lv_iload hx hb dX5_notes_119 (lv_at hl 0 rfl) ?_
              refine lv_iload_n hx hb dX5_notes_121 rfl (lv_at hl 6 rfl) ?_
              refine zmist hx hb hE hP hD hS 11 rfl (i := nc) (show _ < _ from by omega) (by decide) dX5_notes_122 (fun H locs hP hD hS => ?_)
              have hP : va_P D vwCl (mW hm ad ca th td nt np (nc + 1) (mP (mP (mP (mP M 7 nc (nI w)) 8 nc (nI td)) 9 nc (vp_nar .boolean (bI b))) 10 nc fi)) H := hP
              have hD : va_D A (mW hm ad ca th td nt np (nc + 1) (mP (mP (mP (mP M 7 nc (nI w)) 8 nc (nI td)) 9 nc (vp_nar .boolean (bI b))) 10 nc fi)) := hD
              refine lv_aload_n hx hb dX5_notes_123 rfl (lv_at hl 3 rfl) ?_
              refine zmget (own := RX5) (ci := 5) (C := RX5) (T := TX5) (N := 18) hx hb hts (by decide +kernel) hown hE hP 0 rfl rfl 16 (by decide) (hts (.fieldLink RX5 44 "LinkResolverModel" "lasts" "[I") (by decide +kernel)) rfl dX5_notes_124 ?_
              refine lv_iload hx hb dX5_notes_127 (lv_at hl 0 rfl) ?_
              refine lv_iload hx hb dX5_notes_129 (lv_at hl 7 rfl) ?_
              refine zmist hx hb hE hP hD hS 12 rfl (i := nc) (show _ < _ from by omega) (by decide) dX5_notes_131 (fun H locs hP hD hS => ?_)
              have hP : va_P D vwCl (mW hm ad ca th td nt np (nc + 1) (mP (mP (mP (mP (mP M 7 nc (nI w)) 8 nc (nI td)) 9 nc (vp_nar .boolean (bI b))) 10 nc fi) 11 nc la)) H := hP
              have hD : va_D A (mW hm ad ca th td nt np (nc + 1) (mP (mP (mP (mP (mP M 7 nc (nI w)) 8 nc (nI td)) 9 nc (vp_nar .boolean (bI b))) 10 nc fi) 11 nc la)) := hD
              refine lv_aload_n hx hb dX5_notes_132 rfl (lv_at hl 3 rfl) ?_
              refine zmget (own := RX5) (ci := 5) (C := RX5) (T := TX5) (N := 18) hx hb hts (by decide +kernel) hown hE hP 0 rfl rfl 17 (by decide) (hts (.fieldLink RX5 47 "LinkResolverModel" "walls" "[I") (by decide +kernel)) rfl dX5_notes_133 ?_
              refine lv_iload hx hb dX5_notes_136 (lv_at hl 0 rfl) ?_
              refine lv_iload hx hb dX5_notes_138 (lv_at hl 8 rfl) ?_
              refine zmist hx hb hE hP hD hS 13 rfl (i := nc) (show _ < _ from by omega) (by decide) dX5_notes_140 (fun H locs hP hD hS => ?_)
              have hP : va_P D vwCl (mW hm ad ca th td nt np (nc + 1) (mP (mP (mP (mP (mP (mP M 7 nc (nI w)) 8 nc (nI td)) 9 nc (vp_nar .boolean (bI b))) 10 nc fi) 11 nc la) 12 nc wa)) H := hP
              have hD : va_D A (mW hm ad ca th td nt np (nc + 1) (mP (mP (mP (mP (mP (mP M 7 nc (nI w)) 8 nc (nI td)) 9 nc (vp_nar .boolean (bI b))) 10 nc fi) 11 nc la) 12 nc wa)) := hD
              refine lv_iload hx hb dX5_notes_141 (lv_at hl 1 rfl) ?_
              have e8 : mN M td nc w = nc := by rw [mN, e9]; exact if_neg c_51
              have hP : va_P D vwCl (mW hm ad ca th td nt np (mNc M td nc w) (mNM M td nc w b fi la wa)) H := by
                rw [mNc, mNM, e8, if_pos rfl]; exact hP
              exact zmrz hx hb hr hlocks dX5_notes_143 (by first | rfl | exact bI_nar _) hP hS (by rw [mSo, e9]; exact bI_t c_24)
          · refine lv_iload hx hb dX5_notes_54 (lv_at hl 1 rfl) ?_
            refine lv_goto (tgt := 63) hx hb dX5_notes_56 (by decide) ?_
            refine lv_istore (lv' := [(8, .int (nI k9)), (7, .int (nI 1)), (6, .int (nI k9)), (0, .ref hm), (1, .int (nI w)), (2, .int (bI b)), (3, .int fi), (4, .int la), (5, .int wa)]) hx hb dX5_notes_63 hl (by decide) rfl (fun ls hl => ?_)
            refine lv_aload_n hx hb dX5_notes_65 rfl (lv_at hl 3 rfl) ?_
            refine lv_dup hx hb dX5_notes_66 rfl ?_
            refine zmget (own := RX5) (ci := 5) (C := RX5) (T := TX5) (N := 18) hx hb hts (by decide +kernel) hown hE hP 0 rfl rfl 11 (by decide) (hts (.fieldLink RX5 71 "LinkResolverModel" "changes" "I") (by decide +kernel)) rfl dX5_notes_67 ?_
            refine lv_iload hx hb dX5_notes_70 (lv_at hl 0 rfl) ?_
            refine lv_aload_n hx hb dX5_notes_72 rfl (lv_at hl 3 rfl) ?_
            refine zmget (own := RX5) (ci := 5) (C := RX5) (T := TX5) (N := 18) hx hb hts (by decide +kernel) hown hE hP 0 rfl rfl 11 (by decide) (hts (.fieldLink RX5 71 "LinkResolverModel" "changes" "I") (by decide +kernel)) rfl dX5_notes_73 ?_
            refine lv_icmp_ne (tgt := 83) hx hb dX5_notes_76 (by decide) (fun c_76 => ?_) (fun c_76 => ?_)
            · refine lv_iconst (v := nI 0) hx hb dX5_notes_83 (by decide) ?_
              refine lv_iadd hx hb dX5_notes_84 ?_
              refine zasi (show ((nI nc) + (nI 0)) = nI (nc + 0) from nI_add _ _) ?_
              refine va_put (own := RX5) (ci := 5) (v := .int (nI (nc + 0))) (ty := .int) (C := RX5) (T := TX5) (N := 18) hx hb hts (by decide +kernel) tyX5 tyX5_ok nmX5 hown hE.1 hP hD hS 0 rfl rfl 11 (by decide) (hts (.fieldLink RX5 71 "LinkResolverModel" "changes" "I") (by decide +kernel)) (fun _ h9 => h9) rfl (by decide +kernel) rfl rfl (Nat.le_of_ble_eq_true rfl) dX5_notes_85 (fun H locs hP hD hS => ?_)
              have hP : va_P D vwCl (mW hm ad ca th td nt np (nc + 0) M) H := hP
              have hD : va_D A (mW hm ad ca th td nt np (nc + 0) M) := hD
              refine lv_aload_n hx hb dX5_notes_88 rfl (lv_at hl 3 rfl) ?_
              refine zmget (own := RX5) (ci := 5) (C := RX5) (T := TX5) (N := 18) hx hb hts (by decide +kernel) hown hE hP 0 rfl rfl 12 (by decide) (hts (.fieldLink RX5 32 "LinkResolverModel" "ofWhat" "[I") (by decide +kernel)) rfl dX5_notes_89 ?_
              refine lv_iload hx hb dX5_notes_92 (lv_at hl 0 rfl) ?_
              refine lv_iload_n hx hb dX5_notes_94 rfl (lv_at hl 4 rfl) ?_
              refine zmist hx hb hE hP hD hS 8 rfl (i := k9) (show _ < _ from by omega) (by decide) dX5_notes_95 (fun H locs hP hD hS => ?_)
              have hP : va_P D vwCl (mW hm ad ca th td nt np (nc + 0) (mP M 7 k9 (nI w))) H := hP
              have hD : va_D A (mW hm ad ca th td nt np (nc + 0) (mP M 7 k9 (nI w))) := hD
              refine lv_aload_n hx hb dX5_notes_96 rfl (lv_at hl 3 rfl) ?_
              refine zmget (own := RX5) (ci := 5) (C := RX5) (T := TX5) (N := 18) hx hb hts (by decide +kernel) hown hE hP 0 rfl rfl 13 (by decide) (hts (.fieldLink RX5 35 "LinkResolverModel" "days" "[I") (by decide +kernel)) rfl dX5_notes_97 ?_
              refine lv_iload hx hb dX5_notes_100 (lv_at hl 0 rfl) ?_
              refine lv_aload_n hx hb dX5_notes_102 rfl (lv_at hl 3 rfl) ?_
              refine zmget (own := RX5) (ci := 5) (C := RX5) (T := TX5) (N := 18) hx hb hts (by decide +kernel) hown hE hP 0 rfl rfl 1 (by decide) (hts (.fieldLink RX5 78 "LinkResolverModel" "today" "I") (by decide +kernel)) rfl dX5_notes_103 ?_
              refine zmist hx hb hE hP hD hS 9 rfl (i := k9) (show _ < _ from by omega) (by decide) dX5_notes_106 (fun H locs hP hD hS => ?_)
              have hP : va_P D vwCl (mW hm ad ca th td nt np (nc + 0) (mP (mP M 7 k9 (nI w)) 8 k9 (nI td))) H := hP
              have hD : va_D A (mW hm ad ca th td nt np (nc + 0) (mP (mP M 7 k9 (nI w)) 8 k9 (nI td))) := hD
              refine lv_aload_n hx hb dX5_notes_107 rfl (lv_at hl 3 rfl) ?_
              refine zmget (own := RX5) (ci := 5) (C := RX5) (T := TX5) (N := 18) hx hb hts (by decide +kernel) hown hE hP 0 rfl rfl 14 (by decide) (hts (.fieldLink RX5 38 "LinkResolverModel" "isOn" "[Z") (by decide +kernel)) rfl dX5_notes_108 ?_
              refine lv_iload hx hb dX5_notes_111 (lv_at hl 0 rfl) ?_
              refine lv_iload_n hx hb dX5_notes_113 rfl (lv_at hl 5 rfl) ?_
              refine zmzst hx hb hE hP hD hS 10 rfl (i := k9) (show _ < _ from by omega) (by decide) dX5_notes_114 (fun H locs hP hD hS => ?_)
              have hP : va_P D vwCl (mW hm ad ca th td nt np (nc + 0) (mP (mP (mP M 7 k9 (nI w)) 8 k9 (nI td)) 9 k9 (vp_nar .boolean (bI b)))) H := hP
              have hD : va_D A (mW hm ad ca th td nt np (nc + 0) (mP (mP (mP M 7 k9 (nI w)) 8 k9 (nI td)) 9 k9 (vp_nar .boolean (bI b)))) := hD
              refine lv_aload_n hx hb dX5_notes_115 rfl (lv_at hl 3 rfl) ?_
              refine zmget (own := RX5) (ci := 5) (C := RX5) (T := TX5) (N := 18) hx hb hts (by decide +kernel) hown hE hP 0 rfl rfl 15 (by decide) (hts (.fieldLink RX5 41 "LinkResolverModel" "firsts" "[I") (by decide +kernel)) rfl dX5_notes_116 ?_
              refine lv_iload hx hb dX5_notes_119 (lv_at hl 0 rfl) ?_
              refine lv_iload_n hx hb dX5_notes_121 rfl (lv_at hl 6 rfl) ?_
              refine zmist hx hb hE hP hD hS 11 rfl (i := k9) (show _ < _ from by omega) (by decide) dX5_notes_122 (fun H locs hP hD hS => ?_)
              have hP : va_P D vwCl (mW hm ad ca th td nt np (nc + 0) (mP (mP (mP (mP M 7 k9 (nI w)) 8 k9 (nI td)) 9 k9 (vp_nar .boolean (bI b))) 10 k9 fi)) H := hP
              have hD : va_D A (mW hm ad ca th td nt np (nc + 0) (mP (mP (mP (mP M 7 k9 (nI w)) 8 k9 (nI td)) 9 k9 (vp_nar .boolean (bI b))) 10 k9 fi)) := hD
              refine lv_aload_n hx hb dX5_notes_123 rfl (lv_at hl 3 rfl) ?_
              refine zmget (own := RX5) (ci := 5) (C := RX5) (T := TX5) (N := 18) hx hb hts (by decide +kernel) hown hE hP 0 rfl rfl 16 (by decide) (hts (.fieldLink RX5 44 "LinkResolverModel" "lasts" "[I") (by decide +kernel)) rfl dX5_notes_124 ?_
              refine lv_iload hx hb dX5_notes_127 (lv_at hl 0 rfl) ?_
              refine lv_iload hx hb dX5_notes_129 (lv_at hl 7 rfl) ?_
              refine zmist hx hb hE hP hD hS 12 rfl (i := k9) (show _ < _ from by omega) (by decide) dX5_notes_131 (fun H locs hP hD hS => ?_)
              have hP : va_P D vwCl (mW hm ad ca th td nt np (nc + 0) (mP (mP (mP (mP (mP M 7 k9 (nI w)) 8 k9 (nI td)) 9 k9 (vp_nar .boolean (bI b))) 10 k9 fi) 11 k9 la)) H := hP
              have hD : va_D A (mW hm ad ca th td nt np (nc + 0) (mP (mP (mP (mP (mP M 7 k9 (nI w)) 8 k9 (nI td)) 9 k9 (vp_nar .boolean (bI b))) 10 k9 fi) 11 k9 la)) := hD
              refine lv_aload_n hx hb dX5_notes_132 rfl (lv_at hl 3 rfl) ?_
              refine zmget (own := RX5) (ci := 5) (C := RX5) (T := TX5) (N := 18) hx hb hts (by decide +kernel) hown hE hP 0 rfl rfl 17 (by decide) (hts (.fieldLink RX5 47 "LinkResolverModel" "walls" "[I") (by decide +kernel)) rfl dX5_notes_133 ?_
              refine lv_iload hx hb dX5_notes_136 (lv_at hl 0 rfl) ?_
              refine lv_iload hx hb dX5_notes_138 (lv_at hl 8 rfl) ?_
              refine zmist hx hb hE hP hD hS 13 rfl (i := k9) (show _ < _ from by omega) (by decide) dX5_notes_140 (fun H locs hP hD hS => ?_)
              have hP : va_P D vwCl (mW hm ad ca th td nt np (nc + 0) (mP (mP (mP (mP (mP (mP M 7 k9 (nI w)) 8 k9 (nI td)) 9 k9 (vp_nar .boolean (bI b))) 10 k9 fi) 11 k9 la) 12 k9 wa)) H := hP
              have hD : va_D A (mW hm ad ca th td nt np (nc + 0) (mP (mP (mP (mP (mP (mP M 7 k9 (nI w)) 8 k9 (nI td)) 9 k9 (vp_nar .boolean (bI b))) 10 k9 fi) 11 k9 la) 12 k9 wa)) := hD
              refine lv_iload hx hb dX5_notes_141 (lv_at hl 1 rfl) ?_
              have e8 : mN M td nc w = k9 := by rw [mN, e9]; exact if_pos c_51
              have hP : va_P D vwCl (mW hm ad ca th td nt np (mNc M td nc w) (mNM M td nc w b fi la wa)) H := by
                rw [mNc, mNM, e8, if_neg (by omega)]; exact hP
              exact zmrz hx hb hr hlocks dX5_notes_143 (by first | rfl | exact bI_nar _) hP hS (by rw [mSo, e9]; exact bI_t c_24)
            · exact absurd ((nI_eq (by omega) (by omega)).mp c_76) (by omega)

set_option maxHeartbeats 4000000 in
set_option maxRecDepth 100000 in
theorem m_subscribe (l : Launch) (D : va_G) (ca : Nat → ClassId) (sa : Nat → Nat) (hm : Nat) (ad : Nat → Nat) (th : Int32) (td nt np nc : Nat) (M : Nat → Nat → Int32) (q : Nat) (b : Bool) (hq : q < np) (hnp : np ≤ 10) (hnc : nc ≤ 600) (sz : Nat) : Met l yX5_subscribe wsX5_subscribe ({ frames := 9, cells := 0, slots := 0, locals := 360 }) (va_Pc [.ref hm, .int (nI q), .int (bI b)] (zMp D (mW hm ad ca th td nt np nc M) ca sa sz)) (va_Qi (fun (r : Int32) (_ : Unit) => r = bI (mSo M nc (21 * q + 20) td)) (fun _ t9 => va_P D vwCl (mW hm ad ca (nI 0) td nt np (mNc M td nc (21 * q + 20)) (mNM M td nc (21 * q + 20) b (nI 0) (nI 0) (nI 0))) t9.heap) (va_A (mW hm ad ca th td nt np nc M) sz)) 0 0 (va_A (mW hm ad ca th td nt np nc M) sz) := by
  refine Met.ofW (cc := cX5_subscribe) (maxL := 3) (ret := (some .boolean)) (by decide) rfl ?_
  intro p e s m args below meth c s₁ B hml hv
  obtain ⟨rfl, hsz, hP, hD0, hE⟩ := hv
  have hx := B.exec
  have hb := B.bytes
  have hr := B.returns
  have hts := atoms_spec (ws := wsX5_subscribe) B.pre
  have hown : s.vm.findClass RX5 = some m.cls := findClass_of_methodNamed B.named
  have hlocks := B.notSynchronized
  have hl := lv_entry ([.ref hm, .int (nI q), .int (bI b)]) (n := 3) (Nat.le_of_ble_eq_true rfl)
  rw [lg_entry_eq]
  generalize (lg_sl ([.ref hm, .int (nI q), .int (bI b)]) ++ List.replicate (3 - (lg_sl ([.ref hm, .int (nI q), .int (bI b)])).length) Slot.unset).toArray = ls at hl ⊢
  have hl : lv_has ls 3 [(0, .ref hm), (1, .int (nI q)), (2, .int (bI b))] := hl
  subst hsz
  have hD := hD0.self (sz := s.heap.size)
  generalize hAe : va_A (mW hm ad ca th td nt np nc M) s.heap.size = A at hD ⊢
  have hA : ∀ q : Nat, s.heap.size ≤ q → A q := fun q h => by rw [← hAe]; exact Or.inr h
  have hS : va_S A s.heap s.heap [] := va_S.rf
  refine lv_aload_n hx hb dX5_subscribe_0 rfl (lv_at hl 0 rfl) ?_
  refine lv_aload_n hx hb dX5_subscribe_1 rfl (lv_at hl 0 rfl) ?_
  refine lv_iload_n hx hb dX5_subscribe_2 rfl (lv_at hl 1 rfl) ?_
  refine zci (va_runV (As := [.int (nI q)]) (rest := [.ref hm]) ⟨hx, hb, hml, hown, hts⟩ (m_isP l D ca sa hm ad th td nt np nc M ((nI q))) (cwV 1 hts gX5_subscribe_X5_isPackage rfl rfl rfl (by decide +kernel) ⟨Nat.le_of_ble_eq_true rfl, Nat.le_of_ble_eq_true rfl⟩) (zpV hP hE (ci := 5) rfl (q0 := 0) rfl) rfl rfl hl.1 rfl (lv_room (Nat.le_of_ble_eq_true rfl)) dX5_subscribe_3 ⟨Nat.le_of_ble_eq_true rfl, Nat.le_of_ble_eq_true rfl⟩) ?_
  refine zasi (show (bI (iT np ((nI q)))) = nI 1 from by rw [iT_t hq (by omega)]; rfl) ?_
  refine lv_if_eq (tgt := 13) hx hb dX5_subscribe_6 (by decide) (fun c_6 => ?_) (fun c_6 => ?_)
  · exact absurd c_6 (by decide)
  · refine lv_iconst (v := nI 0) hx hb dX5_subscribe_9 (by decide) ?_
    refine lv_goto (tgt := 14) hx hb dX5_subscribe_10 (by decide) ?_
    refine zmci (va_runV (As := [.int (nI 0)]) (rest := []) ⟨hx, hb, hml, hown, hts⟩ (m_holds l D ca sa hm ad th td nt np nc M 0 (by decide) _) (cwV 1 hts gX5_subscribe_X5_holds rfl rfl rfl (by decide +kernel) ⟨Nat.le_of_ble_eq_true rfl, Nat.le_of_ble_eq_true rfl⟩) (zmV hP hD hE (ci := 5) rfl (q0 := 0) rfl) rfl rfl hl.1 rfl (lv_room (Nat.le_of_ble_eq_true rfl)) dX5_subscribe_14 ⟨Nat.le_of_ble_eq_true rfl, Nat.le_of_ble_eq_true rfl⟩) hD rfl hS hA (fun r9 H locs er hP hD hS => ?_)
    subst er
    refine zasi (show bI (decide (0 = 0)) = nI 1 from rfl) ?_
    refine lv_if_eq (tgt := 39) hx hb dX5_subscribe_17 (by decide) (fun c_17 => ?_) (fun c_17 => ?_)
    · exact absurd c_17 (by decide)
    · refine lv_aload_n hx hb dX5_subscribe_20 rfl (lv_at hl 0 rfl) ?_
      refine lv_iload_n hx hb dX5_subscribe_21 rfl (lv_at hl 1 rfl) ?_
      refine zci (va_runS (As := [.int (nI q)]) (rest := [.ref hm]) ⟨hx, hb, hml, hown, hts⟩ (m_sub l D ca sa _ q) (va_cwS 1 hts gX5_subscribe_X5_subscription rfl rfl rfl (by decide +kernel) ⟨Nat.le_of_ble_eq_true rfl, Nat.le_of_ble_eq_true rfl⟩) (zpS hP hE) rfl rfl hl.1 rfl (lv_room (Nat.le_of_ble_eq_true rfl)) dX5_subscribe_22 ⟨Nat.le_of_ble_eq_true rfl, Nat.le_of_ble_eq_true rfl⟩) ?_
      refine lv_iload_n hx hb dX5_subscribe_25 rfl (lv_at hl 2 rfl) ?_
      refine lv_iconst (v := nI 0) hx hb dX5_subscribe_26 (by decide) ?_
      refine lv_iconst (v := nI 0) hx hb dX5_subscribe_27 (by decide) ?_
      refine lv_iconst (v := nI 0) hx hb dX5_subscribe_28 (by decide) ?_
      refine zmci (va_runV (As := [.int (nI (21 * q + 20)), .int (bI b), .int (nI 0), .int (nI 0), .int (nI 0)]) (rest := []) ⟨hx, hb, hml, hown, hts⟩ (m_notes l D ca sa hm ad (nI 0) td nt np nc M (21 * q + 20) b (nI 0) (nI 0) (nI 0) hnc _) (cwV 5 hts gX5_subscribe_X5_notes rfl rfl rfl (by decide +kernel) ⟨Nat.le_of_ble_eq_true rfl, Nat.le_of_ble_eq_true rfl⟩) (zmV hP hD hE (ci := 5) rfl (q0 := 0) rfl) rfl rfl hl.1 rfl (lv_room (Nat.le_of_ble_eq_true rfl)) dX5_subscribe_29 ⟨Nat.le_of_ble_eq_true rfl, Nat.le_of_ble_eq_true rfl⟩) hD rfl hS hA (fun r9 H locs er hP hD hS => ?_)
      subst er
      refine lv_if_eq (tgt := 39) hx hb dX5_subscribe_32 (by decide) (fun c_32 => ?_) (fun c_32 => ?_)
      · have e_32 := bI_eq0 c_32
        refine lv_iconst (v := nI 0) hx hb dX5_subscribe_39 (by decide) ?_
        exact zmrz hx hb hr hlocks dX5_subscribe_40 (rfl) hP hS (bI_not0 c_32)
      · have e_32 := bI_ne0 c_32
        refine lv_iconst (v := nI 1) hx hb dX5_subscribe_35 (by decide) ?_
        refine lv_goto (tgt := 40) hx hb dX5_subscribe_36 (by decide) ?_
        exact zmrz hx hb hr hlocks dX5_subscribe_40 (rfl) hP hS (bI_not1 c_32)

set_option maxHeartbeats 4000000 in
set_option maxRecDepth 100000 in
theorem m_subscribe_1 (l : Launch) (D : va_G) (ca : Nat → ClassId) (sa : Nat → Nat) (hm : Nat) (ad : Nat → Nat) (th : Int32) (td nt np nc : Nat) (M : Nat → Nat → Int32) (q : Int32) (b : Bool) (hbad : iT np q = false) (sz : Nat) : Met l yX5_subscribe wsX5_subscribe ({ frames := 9, cells := 0, slots := 0, locals := 360 }) (va_Pc [.ref hm, .int q, .int (bI b)] (zMp D (mW hm ad ca th td nt np nc M) ca sa sz)) (va_Qi (fun (r : Int32) (_ : Unit) => True) (fun _ t9 => va_P D vwCl (mW hm ad ca (nI 1) td nt np nc M) t9.heap) (va_A (mW hm ad ca th td nt np nc M) sz)) 0 0 (va_A (mW hm ad ca th td nt np nc M) sz) := by
  refine Met.ofW (cc := cX5_subscribe) (maxL := 3) (ret := (some .boolean)) (by decide) rfl ?_
  intro p e s m args below meth c s₁ B hml hv
  obtain ⟨rfl, hsz, hP, hD0, hE⟩ := hv
  have hx := B.exec
  have hb := B.bytes
  have hr := B.returns
  have hts := atoms_spec (ws := wsX5_subscribe) B.pre
  have hown : s.vm.findClass RX5 = some m.cls := findClass_of_methodNamed B.named
  have hlocks := B.notSynchronized
  have hl := lv_entry ([.ref hm, .int q, .int (bI b)]) (n := 3) (Nat.le_of_ble_eq_true rfl)
  rw [lg_entry_eq]
  generalize (lg_sl ([.ref hm, .int q, .int (bI b)]) ++ List.replicate (3 - (lg_sl ([.ref hm, .int q, .int (bI b)])).length) Slot.unset).toArray = ls at hl ⊢
  have hl : lv_has ls 3 [(0, .ref hm), (1, .int q), (2, .int (bI b))] := hl
  subst hsz
  have hD := hD0.self (sz := s.heap.size)
  generalize hAe : va_A (mW hm ad ca th td nt np nc M) s.heap.size = A at hD ⊢
  have hA : ∀ q : Nat, s.heap.size ≤ q → A q := fun q h => by rw [← hAe]; exact Or.inr h
  have hS : va_S A s.heap s.heap [] := va_S.rf
  refine lv_aload_n hx hb dX5_subscribe_0 rfl (lv_at hl 0 rfl) ?_
  refine lv_aload_n hx hb dX5_subscribe_1 rfl (lv_at hl 0 rfl) ?_
  refine lv_iload_n hx hb dX5_subscribe_2 rfl (lv_at hl 1 rfl) ?_
  refine zci (va_runV (As := [.int q]) (rest := [.ref hm]) ⟨hx, hb, hml, hown, hts⟩ (m_isP l D ca sa hm ad th td nt np nc M (q)) (cwV 1 hts gX5_subscribe_X5_isPackage rfl rfl rfl (by decide +kernel) ⟨Nat.le_of_ble_eq_true rfl, Nat.le_of_ble_eq_true rfl⟩) (zpV hP hE (ci := 5) rfl (q0 := 0) rfl) rfl rfl hl.1 rfl (lv_room (Nat.le_of_ble_eq_true rfl)) dX5_subscribe_3 ⟨Nat.le_of_ble_eq_true rfl, Nat.le_of_ble_eq_true rfl⟩) ?_
  refine zasi (show (bI (iT np (q))) = nI 0 from by rw [hbad]; rfl) ?_
  refine lv_if_eq (tgt := 13) hx hb dX5_subscribe_6 (by decide) (fun c_6 => ?_) (fun c_6 => ?_)
  · refine lv_iconst (v := nI 1) hx hb dX5_subscribe_13 (by decide) ?_
    refine zmci (va_runV (As := [.int (nI 1)]) (rest := []) ⟨hx, hb, hml, hown, hts⟩ (m_holds l D ca sa hm ad th td nt np nc M 1 (by decide) _) (cwV 1 hts gX5_subscribe_X5_holds rfl rfl rfl (by decide +kernel) ⟨Nat.le_of_ble_eq_true rfl, Nat.le_of_ble_eq_true rfl⟩) (zmV hP hD hE (ci := 5) rfl (q0 := 0) rfl) rfl rfl hl.1 rfl (lv_room (Nat.le_of_ble_eq_true rfl)) dX5_subscribe_14 ⟨Nat.le_of_ble_eq_true rfl, Nat.le_of_ble_eq_true rfl⟩) hD rfl hS hA (fun r9 H locs er hP hD hS => ?_)
    subst er
    refine zasi (show bI (decide (1 = 0)) = nI 0 from rfl) ?_
    refine lv_if_eq (tgt := 39) hx hb dX5_subscribe_17 (by decide) (fun c_17 => ?_) (fun c_17 => ?_)
    · refine lv_iconst (v := nI 0) hx hb dX5_subscribe_39 (by decide) ?_
      exact zmrz hx hb hr hlocks dX5_subscribe_40 (rfl) hP hS (trivial)
    · exact absurd c_17 (by decide)
  · exact absurd c_6 (by decide)

set_option maxHeartbeats 4000000 in
set_option maxRecDepth 100000 in
theorem m_come (l : Launch) (D : va_G) (ca : Nat → ClassId) (sa : Nat → Nat) (hm : Nat) (ad : Nat → Nat) (th : Int32) (td nt np nc : Nat) (M : Nat → Nat → Int32) (q t a b w : Nat) (hq : q < np) (ht : t < nt) (hnp : np ≤ 10) (hnt : nt ≤ 20) (hnc : nc ≤ 600) (ha : a ≤ b) (hb5 : b ≤ 55) (hw : w ≤ 20) (sz : Nat) : Met l yX5_come wsX5_come ({ frames := 9, cells := 0, slots := 0, locals := 360 }) (va_Pc [.ref hm, .int (nI q), .int (nI t), .int (nI a), .int (nI b), .int (nI w)] (zMp D (mW hm ad ca th td nt np nc M) ca sa sz)) (va_Qi (fun (r : Int32) (_ : Unit) => r = bI (mSo M nc (21 * q + t) td)) (fun _ t9 => va_P D vwCl (mW hm ad ca (nI 0) td nt np (mNc M td nc (21 * q + t)) (mNM M td nc (21 * q + t) true (nI a) (nI b) (nI w))) t9.heap) (va_A (mW hm ad ca th td nt np nc M) sz)) 0 0 (va_A (mW hm ad ca th td nt np nc M) sz) := by
  refine Met.ofW (cc := cX5_come) (maxL := 8) (ret := (some .boolean)) (by decide) rfl ?_
  intro p e s m args below meth c s₁ B hml hv
  obtain ⟨rfl, hsz, hP, hD0, hE⟩ := hv
  have hx := B.exec
  have hb := B.bytes
  have hr := B.returns
  have hts := atoms_spec (ws := wsX5_come) B.pre
  have hown : s.vm.findClass RX5 = some m.cls := findClass_of_methodNamed B.named
  have hlocks := B.notSynchronized
  have hl := lv_entry ([.ref hm, .int (nI q), .int (nI t), .int (nI a), .int (nI b), .int (nI w)]) (n := 8) (Nat.le_of_ble_eq_true rfl)
  rw [lg_entry_eq]
  generalize (lg_sl ([.ref hm, .int (nI q), .int (nI t), .int (nI a), .int (nI b), .int (nI w)]) ++ List.replicate (8 - (lg_sl ([.ref hm, .int (nI q), .int (nI t), .int (nI a), .int (nI b), .int (nI w)])).length) Slot.unset).toArray = ls at hl ⊢
  have hl : lv_has ls 8 [(0, .ref hm), (1, .int (nI q)), (2, .int (nI t)), (3, .int (nI a)), (4, .int (nI b)), (5, .int (nI w))] := hl
  subst hsz
  have hD := hD0.self (sz := s.heap.size)
  generalize hAe : va_A (mW hm ad ca th td nt np nc M) s.heap.size = A at hD ⊢
  have hA : ∀ q : Nat, s.heap.size ≤ q → A q := fun q h => by rw [← hAe]; exact Or.inr h
  have hS : va_S A s.heap s.heap [] := va_S.rf
  refine lv_aload_n hx hb dX5_come_0 rfl (lv_at hl 0 rfl) ?_
  refine lv_iload_n hx hb dX5_come_1 rfl (lv_at hl 1 rfl) ?_
  refine zci (va_runV (As := [.int (nI q)]) (rest := []) ⟨hx, hb, hml, hown, hts⟩ (m_isP l D ca sa hm ad th td nt np nc M ((nI q))) (cwV 1 hts gX5_come_X5_isPackage rfl rfl rfl (by decide +kernel) ⟨Nat.le_of_ble_eq_true rfl, Nat.le_of_ble_eq_true rfl⟩) (zpV hP hE (ci := 5) rfl (q0 := 0) rfl) rfl rfl hl.1 rfl (lv_room (Nat.le_of_ble_eq_true rfl)) dX5_come_2 ⟨Nat.le_of_ble_eq_true rfl, Nat.le_of_ble_eq_true rfl⟩) ?_
  refine zasi (show (bI (iT np ((nI q)))) = nI 1 from by rw [iT_t hq (by omega)]; rfl) ?_
  refine lv_if_eq (tgt := 20) hx hb dX5_come_5 (by decide) (fun c_5 => ?_) (fun c_5 => ?_)
  · exact absurd c_5 (by decide)
  · refine lv_aload_n hx hb dX5_come_8 rfl (lv_at hl 0 rfl) ?_
    refine lv_iload_n hx hb dX5_come_9 rfl (lv_at hl 2 rfl) ?_
    refine zci (va_runV (As := [.int (nI t)]) (rest := []) ⟨hx, hb, hml, hown, hts⟩ (m_isT l D ca sa hm ad th td nt np nc M ((nI t))) (cwV 1 hts gX5_come_X5_isTitle rfl rfl rfl (by decide +kernel) ⟨Nat.le_of_ble_eq_true rfl, Nat.le_of_ble_eq_true rfl⟩) (zpV hP hE (ci := 5) rfl (q0 := 0) rfl) rfl rfl hl.1 rfl (lv_room (Nat.le_of_ble_eq_true rfl)) dX5_come_10 ⟨Nat.le_of_ble_eq_true rfl, Nat.le_of_ble_eq_true rfl⟩) ?_
    refine zasi (show (bI (iT nt ((nI t)))) = nI 1 from by rw [iT_t ht (by omega)]; rfl) ?_
    refine lv_if_eq (tgt := 20) hx hb dX5_come_13 (by decide) (fun c_13 => ?_) (fun c_13 => ?_)
    · exact absurd c_13 (by decide)
    · refine lv_iconst (v := nI 1) hx hb dX5_come_16 (by decide) ?_
      refine lv_goto (tgt := 21) hx hb dX5_come_17 (by decide) ?_
      refine lv_istore (lv' := [(6, .int (nI 1)), (0, .ref hm), (1, .int (nI q)), (2, .int (nI t)), (3, .int (nI a)), (4, .int (nI b)), (5, .int (nI w))]) hx hb dX5_come_21 hl (by decide) rfl (fun ls hl => ?_)
      refine lv_iload_n hx hb dX5_come_23 rfl (lv_at hl 4 rfl) ?_
      refine lv_iconst (v := nI 0) hx hb dX5_come_24 (by decide) ?_
      refine lv_bipush (v := nI 55) hx hb dX5_come_25 (by decide) ?_
      refine zci (va_runS (As := [.int (nI a), .int (nI 0), .int (nI 55)]) (rest := []) ⟨hx, hb, hml, hown, hts⟩ (m_isB l D ca sa _ _ _ _) (va_cwS 3 hts gX5_come_X5_isBetween rfl rfl rfl (by decide +kernel) ⟨Nat.le_of_ble_eq_true rfl, Nat.le_of_ble_eq_true rfl⟩) (zpS hP hE) rfl rfl hl.1 rfl (lv_room (Nat.le_of_ble_eq_true rfl)) dX5_come_27 ⟨Nat.le_of_ble_eq_true rfl, Nat.le_of_ble_eq_true rfl⟩) ?_
      refine zasi (show (bI (iB ((nI a)) ((nI 0)) ((nI 55)))) = nI 1 from by rw [iB_t (Nat.zero_le _) (Nat.le_trans ha hb5) (by decide)]; rfl) ?_
      refine lv_if_eq (tgt := 59) hx hb dX5_come_30 (by decide) (fun c_30 => ?_) (fun c_30 => ?_)
      · exact absurd c_30 (by decide)
      · refine lv_iload hx hb dX5_come_33 (lv_at hl 5 rfl) ?_
        refine lv_iload_n hx hb dX5_come_35 rfl (lv_at hl 4 rfl) ?_
        refine lv_bipush (v := nI 55) hx hb dX5_come_36 (by decide) ?_
        refine zci (va_runS (As := [.int (nI b), .int (nI a), .int (nI 55)]) (rest := []) ⟨hx, hb, hml, hown, hts⟩ (m_isB l D ca sa _ _ _ _) (va_cwS 3 hts gX5_come_X5_isBetween rfl rfl rfl (by decide +kernel) ⟨Nat.le_of_ble_eq_true rfl, Nat.le_of_ble_eq_true rfl⟩) (zpS hP hE) rfl rfl hl.1 rfl (lv_room (Nat.le_of_ble_eq_true rfl)) dX5_come_38 ⟨Nat.le_of_ble_eq_true rfl, Nat.le_of_ble_eq_true rfl⟩) ?_
        refine zasi (show (bI (iB ((nI b)) ((nI a)) ((nI 55)))) = nI 1 from by rw [iB_t ha hb5 (by decide)]; rfl) ?_
        refine lv_if_eq (tgt := 59) hx hb dX5_come_41 (by decide) (fun c_41 => ?_) (fun c_41 => ?_)
        · exact absurd c_41 (by decide)
        · refine lv_iload hx hb dX5_come_44 (lv_at hl 6 rfl) ?_
          refine lv_iconst (v := nI 0) hx hb dX5_come_46 (by decide) ?_
          refine lv_bipush (v := nI 20) hx hb dX5_come_47 (by decide) ?_
          refine zci (va_runS (As := [.int (nI w), .int (nI 0), .int (nI 20)]) (rest := []) ⟨hx, hb, hml, hown, hts⟩ (m_isB l D ca sa _ _ _ _) (va_cwS 3 hts gX5_come_X5_isBetween rfl rfl rfl (by decide +kernel) ⟨Nat.le_of_ble_eq_true rfl, Nat.le_of_ble_eq_true rfl⟩) (zpS hP hE) rfl rfl hl.1 rfl (lv_room (Nat.le_of_ble_eq_true rfl)) dX5_come_49 ⟨Nat.le_of_ble_eq_true rfl, Nat.le_of_ble_eq_true rfl⟩) ?_
          refine zasi (show (bI (iB ((nI w)) ((nI 0)) ((nI 20)))) = nI 1 from by rw [iB_t (Nat.zero_le _) hw (by decide)]; rfl) ?_
          refine lv_if_eq (tgt := 59) hx hb dX5_come_52 (by decide) (fun c_52 => ?_) (fun c_52 => ?_)
          · exact absurd c_52 (by decide)
          · refine lv_iconst (v := nI 1) hx hb dX5_come_55 (by decide) ?_
            refine lv_goto (tgt := 60) hx hb dX5_come_56 (by decide) ?_
            refine lv_istore (lv' := [(7, .int (nI 1)), (6, .int (nI 1)), (0, .ref hm), (1, .int (nI q)), (2, .int (nI t)), (3, .int (nI a)), (4, .int (nI b)), (5, .int (nI w))]) hx hb dX5_come_60 hl (by decide) rfl (fun ls hl => ?_)
            refine lv_aload_n hx hb dX5_come_62 rfl (lv_at hl 2 rfl) ?_
            refine lv_iload hx hb dX5_come_63 (lv_at hl 1 rfl) ?_
            refine lv_if_ne (tgt := 72) hx hb dX5_come_65 (by decide) (fun c_65 => ?_) (fun c_65 => ?_)
            · refine lv_iload hx hb dX5_come_72 (lv_at hl 0 rfl) ?_
              refine lv_if_eq (tgt := 81) hx hb dX5_come_74 (by decide) (fun c_74 => ?_) (fun c_74 => ?_)
              · exact absurd c_74 (by decide)
              · refine lv_iconst (v := nI 0) hx hb dX5_come_77 (by decide) ?_
                refine lv_goto (tgt := 82) hx hb dX5_come_78 (by decide) ?_
                refine zmci (va_runV (As := [.int (nI 0)]) (rest := []) ⟨hx, hb, hml, hown, hts⟩ (m_holds l D ca sa hm ad th td nt np nc M 0 (by decide) _) (cwV 1 hts gX5_come_X5_holds rfl rfl rfl (by decide +kernel) ⟨Nat.le_of_ble_eq_true rfl, Nat.le_of_ble_eq_true rfl⟩) (zmV hP hD hE (ci := 5) rfl (q0 := 0) rfl) rfl rfl hl.1 rfl (lv_room (Nat.le_of_ble_eq_true rfl)) dX5_come_82 ⟨Nat.le_of_ble_eq_true rfl, Nat.le_of_ble_eq_true rfl⟩) hD rfl hS hA (fun r9 H locs er hP hD hS => ?_)
                subst er
                refine zasi (show bI (decide (0 = 0)) = nI 1 from rfl) ?_
                refine lv_if_eq (tgt := 111) hx hb dX5_come_85 (by decide) (fun c_85 => ?_) (fun c_85 => ?_)
                · exact absurd c_85 (by decide)
                · refine lv_aload_n hx hb dX5_come_88 rfl (lv_at hl 2 rfl) ?_
                  refine lv_bipush (v := nI 21) hx hb dX5_come_89 (by decide) ?_
                  refine lv_iload_n hx hb dX5_come_91 rfl (lv_at hl 3 rfl) ?_
                  refine lv_imul hx hb dX5_come_92 ?_
                  refine zasi (show ((nI 21) * (nI q)) = nI (21 * q) from pk_mul _ _) ?_
                  refine lv_iload_n hx hb dX5_come_93 rfl (lv_at hl 4 rfl) ?_
                  refine lv_iadd hx hb dX5_come_94 ?_
                  refine zasi (show ((nI (21 * q)) + (nI t)) = nI (21 * q + t) from nI_add _ _) ?_
                  refine lv_iconst (v := nI 1) hx hb dX5_come_95 (by decide) ?_
                  refine zasi (show (nI 1) = bI true from rfl) ?_
                  refine lv_iload_n hx hb dX5_come_96 rfl (lv_at hl 5 rfl) ?_
                  refine lv_iload hx hb dX5_come_97 (lv_at hl 6 rfl) ?_
                  refine lv_iload hx hb dX5_come_99 (lv_at hl 7 rfl) ?_
                  refine zmci (va_runV (As := [.int (nI (21 * q + t)), .int (bI true), .int (nI a), .int (nI b), .int (nI w)]) (rest := []) ⟨hx, hb, hml, hown, hts⟩ (m_notes l D ca sa hm ad (nI 0) td nt np nc M (21 * q + t) true (nI a) (nI b) (nI w) hnc _) (cwV 5 hts gX5_come_X5_notes rfl rfl rfl (by decide +kernel) ⟨Nat.le_of_ble_eq_true rfl, Nat.le_of_ble_eq_true rfl⟩) (zmV hP hD hE (ci := 5) rfl (q0 := 0) rfl) rfl rfl hl.1 rfl (lv_room (Nat.le_of_ble_eq_true rfl)) dX5_come_101 ⟨Nat.le_of_ble_eq_true rfl, Nat.le_of_ble_eq_true rfl⟩) hD rfl hS hA (fun r9 H locs er hP hD hS => ?_)
                  subst er
                  refine lv_if_eq (tgt := 111) hx hb dX5_come_104 (by decide) (fun c_104 => ?_) (fun c_104 => ?_)
                  · have e_104 := bI_eq0 c_104
                    refine lv_iconst (v := nI 0) hx hb dX5_come_111 (by decide) ?_
                    exact zmrz hx hb hr hlocks dX5_come_112 (rfl) hP hS (bI_not0 c_104)
                  · have e_104 := bI_ne0 c_104
                    refine lv_iconst (v := nI 1) hx hb dX5_come_107 (by decide) ?_
                    refine lv_goto (tgt := 112) hx hb dX5_come_108 (by decide) ?_
                    exact zmrz hx hb hr hlocks dX5_come_112 (rfl) hP hS (bI_not1 c_104)
            · exact absurd c_65 (by decide)

set_option maxHeartbeats 4000000 in
set_option maxRecDepth 100000 in
theorem m_come_1 (l : Launch) (D : va_G) (ca : Nat → ClassId) (sa : Nat → Nat) (hm : Nat) (ad : Nat → Nat) (th : Int32) (td nt np nc : Nat) (M : Nat → Nat → Int32) (q t a b w : Int32) (hbad : (iT np q && iT nt t) = false) (sz : Nat) : Met l yX5_come wsX5_come ({ frames := 9, cells := 0, slots := 0, locals := 360 }) (va_Pc [.ref hm, .int q, .int t, .int a, .int b, .int w] (zMp D (mW hm ad ca th td nt np nc M) ca sa sz)) (va_Qi (fun (r : Int32) (_ : Unit) => True) (fun _ t9 => va_P D vwCl (mW hm ad ca (nI 1) td nt np nc M) t9.heap) (va_A (mW hm ad ca th td nt np nc M) sz)) 0 0 (va_A (mW hm ad ca th td nt np nc M) sz) := by
  refine Met.ofW (cc := cX5_come) (maxL := 8) (ret := (some .boolean)) (by decide) rfl ?_
  intro p e s m args below meth c s₁ B hml hv
  obtain ⟨rfl, hsz, hP, hD0, hE⟩ := hv
  have hx := B.exec
  have hb := B.bytes
  have hr := B.returns
  have hts := atoms_spec (ws := wsX5_come) B.pre
  have hown : s.vm.findClass RX5 = some m.cls := findClass_of_methodNamed B.named
  have hlocks := B.notSynchronized
  have hl := lv_entry ([.ref hm, .int q, .int t, .int a, .int b, .int w]) (n := 8) (Nat.le_of_ble_eq_true rfl)
  rw [lg_entry_eq]
  generalize (lg_sl ([.ref hm, .int q, .int t, .int a, .int b, .int w]) ++ List.replicate (8 - (lg_sl ([.ref hm, .int q, .int t, .int a, .int b, .int w])).length) Slot.unset).toArray = ls at hl ⊢
  have hl : lv_has ls 8 [(0, .ref hm), (1, .int q), (2, .int t), (3, .int a), (4, .int b), (5, .int w)] := hl
  subst hsz
  have hD := hD0.self (sz := s.heap.size)
  generalize hAe : va_A (mW hm ad ca th td nt np nc M) s.heap.size = A at hD ⊢
  have hA : ∀ q : Nat, s.heap.size ≤ q → A q := fun q h => by rw [← hAe]; exact Or.inr h
  have hS : va_S A s.heap s.heap [] := va_S.rf
  refine lv_aload_n hx hb dX5_come_0 rfl (lv_at hl 0 rfl) ?_
  refine lv_iload_n hx hb dX5_come_1 rfl (lv_at hl 1 rfl) ?_
  refine zci (va_runV (As := [.int q]) (rest := []) ⟨hx, hb, hml, hown, hts⟩ (m_isP l D ca sa hm ad th td nt np nc M (q)) (cwV 1 hts gX5_come_X5_isPackage rfl rfl rfl (by decide +kernel) ⟨Nat.le_of_ble_eq_true rfl, Nat.le_of_ble_eq_true rfl⟩) (zpV hP hE (ci := 5) rfl (q0 := 0) rfl) rfl rfl hl.1 rfl (lv_room (Nat.le_of_ble_eq_true rfl)) dX5_come_2 ⟨Nat.le_of_ble_eq_true rfl, Nat.le_of_ble_eq_true rfl⟩) ?_
  refine lv_if_eq (tgt := 20) hx hb dX5_come_5 (by decide) (fun c_5 => ?_) (fun c_5 => ?_)
  · have e_5 := bI_eq0 c_5
    refine lv_iconst (v := nI 0) hx hb dX5_come_20 (by decide) ?_
    refine lv_istore (lv' := [(6, .int (nI 0)), (0, .ref hm), (1, .int q), (2, .int t), (3, .int a), (4, .int b), (5, .int w)]) hx hb dX5_come_21 hl (by decide) rfl (fun ls hl => ?_)
    refine lv_iload_n hx hb dX5_come_23 rfl (lv_at hl 4 rfl) ?_
    refine lv_iconst (v := nI 0) hx hb dX5_come_24 (by decide) ?_
    refine lv_bipush (v := nI 55) hx hb dX5_come_25 (by decide) ?_
    refine zci (va_runS (As := [.int a, .int (nI 0), .int (nI 55)]) (rest := []) ⟨hx, hb, hml, hown, hts⟩ (m_isB l D ca sa _ _ _ _) (va_cwS 3 hts gX5_come_X5_isBetween rfl rfl rfl (by decide +kernel) ⟨Nat.le_of_ble_eq_true rfl, Nat.le_of_ble_eq_true rfl⟩) (zpS hP hE) rfl rfl hl.1 rfl (lv_room (Nat.le_of_ble_eq_true rfl)) dX5_come_27 ⟨Nat.le_of_ble_eq_true rfl, Nat.le_of_ble_eq_true rfl⟩) ?_
    refine lv_if_eq (tgt := 59) hx hb dX5_come_30 (by decide) (fun c_30 => ?_) (fun c_30 => ?_)
    · have e_30 := bI_eq0 c_30
      refine lv_iconst (v := nI 0) hx hb dX5_come_59 (by decide) ?_
      refine lv_istore (lv' := [(7, .int (nI 0)), (6, .int (nI 0)), (0, .ref hm), (1, .int q), (2, .int t), (3, .int a), (4, .int b), (5, .int w)]) hx hb dX5_come_60 hl (by decide) rfl (fun ls hl => ?_)
      refine lv_aload_n hx hb dX5_come_62 rfl (lv_at hl 2 rfl) ?_
      refine lv_iload hx hb dX5_come_63 (lv_at hl 1 rfl) ?_
      refine lv_if_ne (tgt := 72) hx hb dX5_come_65 (by decide) (fun c_65 => ?_) (fun c_65 => ?_)
      · exact absurd c_65 (by decide)
      · refine lv_iconst (v := nI 1) hx hb dX5_come_68 (by decide) ?_
        refine lv_goto (tgt := 82) hx hb dX5_come_69 (by decide) ?_
        refine zmci (va_runV (As := [.int (nI 1)]) (rest := []) ⟨hx, hb, hml, hown, hts⟩ (m_holds l D ca sa hm ad th td nt np nc M 1 (by decide) _) (cwV 1 hts gX5_come_X5_holds rfl rfl rfl (by decide +kernel) ⟨Nat.le_of_ble_eq_true rfl, Nat.le_of_ble_eq_true rfl⟩) (zmV hP hD hE (ci := 5) rfl (q0 := 0) rfl) rfl rfl hl.1 rfl (lv_room (Nat.le_of_ble_eq_true rfl)) dX5_come_82 ⟨Nat.le_of_ble_eq_true rfl, Nat.le_of_ble_eq_true rfl⟩) hD rfl hS hA (fun r9 H locs er hP hD hS => ?_)
        subst er
        refine zasi (show bI (decide (1 = 0)) = nI 0 from rfl) ?_
        refine lv_if_eq (tgt := 111) hx hb dX5_come_85 (by decide) (fun c_85 => ?_) (fun c_85 => ?_)
        · refine lv_iconst (v := nI 0) hx hb dX5_come_111 (by decide) ?_
          exact zmrz hx hb hr hlocks dX5_come_112 (rfl) hP hS (trivial)
        · exact absurd c_85 (by decide)
    · have e_30 := bI_ne0 c_30
      refine lv_iload hx hb dX5_come_33 (lv_at hl 5 rfl) ?_
      refine lv_iload_n hx hb dX5_come_35 rfl (lv_at hl 4 rfl) ?_
      refine lv_bipush (v := nI 55) hx hb dX5_come_36 (by decide) ?_
      refine zci (va_runS (As := [.int b, .int a, .int (nI 55)]) (rest := []) ⟨hx, hb, hml, hown, hts⟩ (m_isB l D ca sa _ _ _ _) (va_cwS 3 hts gX5_come_X5_isBetween rfl rfl rfl (by decide +kernel) ⟨Nat.le_of_ble_eq_true rfl, Nat.le_of_ble_eq_true rfl⟩) (zpS hP hE) rfl rfl hl.1 rfl (lv_room (Nat.le_of_ble_eq_true rfl)) dX5_come_38 ⟨Nat.le_of_ble_eq_true rfl, Nat.le_of_ble_eq_true rfl⟩) ?_
      refine lv_if_eq (tgt := 59) hx hb dX5_come_41 (by decide) (fun c_41 => ?_) (fun c_41 => ?_)
      · have e_41 := bI_eq0 c_41
        refine lv_iconst (v := nI 0) hx hb dX5_come_59 (by decide) ?_
        refine lv_istore (lv' := [(7, .int (nI 0)), (6, .int (nI 0)), (0, .ref hm), (1, .int q), (2, .int t), (3, .int a), (4, .int b), (5, .int w)]) hx hb dX5_come_60 hl (by decide) rfl (fun ls hl => ?_)
        refine lv_aload_n hx hb dX5_come_62 rfl (lv_at hl 2 rfl) ?_
        refine lv_iload hx hb dX5_come_63 (lv_at hl 1 rfl) ?_
        refine lv_if_ne (tgt := 72) hx hb dX5_come_65 (by decide) (fun c_65 => ?_) (fun c_65 => ?_)
        · exact absurd c_65 (by decide)
        · refine lv_iconst (v := nI 1) hx hb dX5_come_68 (by decide) ?_
          refine lv_goto (tgt := 82) hx hb dX5_come_69 (by decide) ?_
          refine zmci (va_runV (As := [.int (nI 1)]) (rest := []) ⟨hx, hb, hml, hown, hts⟩ (m_holds l D ca sa hm ad th td nt np nc M 1 (by decide) _) (cwV 1 hts gX5_come_X5_holds rfl rfl rfl (by decide +kernel) ⟨Nat.le_of_ble_eq_true rfl, Nat.le_of_ble_eq_true rfl⟩) (zmV hP hD hE (ci := 5) rfl (q0 := 0) rfl) rfl rfl hl.1 rfl (lv_room (Nat.le_of_ble_eq_true rfl)) dX5_come_82 ⟨Nat.le_of_ble_eq_true rfl, Nat.le_of_ble_eq_true rfl⟩) hD rfl hS hA (fun r9 H locs er hP hD hS => ?_)
          subst er
          refine zasi (show bI (decide (1 = 0)) = nI 0 from rfl) ?_
          refine lv_if_eq (tgt := 111) hx hb dX5_come_85 (by decide) (fun c_85 => ?_) (fun c_85 => ?_)
          · refine lv_iconst (v := nI 0) hx hb dX5_come_111 (by decide) ?_
            exact zmrz hx hb hr hlocks dX5_come_112 (rfl) hP hS (trivial)
          · exact absurd c_85 (by decide)
      · have e_41 := bI_ne0 c_41
        refine lv_iload hx hb dX5_come_44 (lv_at hl 6 rfl) ?_
        refine lv_iconst (v := nI 0) hx hb dX5_come_46 (by decide) ?_
        refine lv_bipush (v := nI 20) hx hb dX5_come_47 (by decide) ?_
        refine zci (va_runS (As := [.int w, .int (nI 0), .int (nI 20)]) (rest := []) ⟨hx, hb, hml, hown, hts⟩ (m_isB l D ca sa _ _ _ _) (va_cwS 3 hts gX5_come_X5_isBetween rfl rfl rfl (by decide +kernel) ⟨Nat.le_of_ble_eq_true rfl, Nat.le_of_ble_eq_true rfl⟩) (zpS hP hE) rfl rfl hl.1 rfl (lv_room (Nat.le_of_ble_eq_true rfl)) dX5_come_49 ⟨Nat.le_of_ble_eq_true rfl, Nat.le_of_ble_eq_true rfl⟩) ?_
        refine lv_if_eq (tgt := 59) hx hb dX5_come_52 (by decide) (fun c_52 => ?_) (fun c_52 => ?_)
        · have e_52 := bI_eq0 c_52
          refine lv_iconst (v := nI 0) hx hb dX5_come_59 (by decide) ?_
          refine lv_istore (lv' := [(7, .int (nI 0)), (6, .int (nI 0)), (0, .ref hm), (1, .int q), (2, .int t), (3, .int a), (4, .int b), (5, .int w)]) hx hb dX5_come_60 hl (by decide) rfl (fun ls hl => ?_)
          refine lv_aload_n hx hb dX5_come_62 rfl (lv_at hl 2 rfl) ?_
          refine lv_iload hx hb dX5_come_63 (lv_at hl 1 rfl) ?_
          refine lv_if_ne (tgt := 72) hx hb dX5_come_65 (by decide) (fun c_65 => ?_) (fun c_65 => ?_)
          · exact absurd c_65 (by decide)
          · refine lv_iconst (v := nI 1) hx hb dX5_come_68 (by decide) ?_
            refine lv_goto (tgt := 82) hx hb dX5_come_69 (by decide) ?_
            refine zmci (va_runV (As := [.int (nI 1)]) (rest := []) ⟨hx, hb, hml, hown, hts⟩ (m_holds l D ca sa hm ad th td nt np nc M 1 (by decide) _) (cwV 1 hts gX5_come_X5_holds rfl rfl rfl (by decide +kernel) ⟨Nat.le_of_ble_eq_true rfl, Nat.le_of_ble_eq_true rfl⟩) (zmV hP hD hE (ci := 5) rfl (q0 := 0) rfl) rfl rfl hl.1 rfl (lv_room (Nat.le_of_ble_eq_true rfl)) dX5_come_82 ⟨Nat.le_of_ble_eq_true rfl, Nat.le_of_ble_eq_true rfl⟩) hD rfl hS hA (fun r9 H locs er hP hD hS => ?_)
            subst er
            refine zasi (show bI (decide (1 = 0)) = nI 0 from rfl) ?_
            refine lv_if_eq (tgt := 111) hx hb dX5_come_85 (by decide) (fun c_85 => ?_) (fun c_85 => ?_)
            · refine lv_iconst (v := nI 0) hx hb dX5_come_111 (by decide) ?_
              exact zmrz hx hb hr hlocks dX5_come_112 (rfl) hP hS (trivial)
            · exact absurd c_85 (by decide)
        · have e_52 := bI_ne0 c_52
          refine lv_iconst (v := nI 1) hx hb dX5_come_55 (by decide) ?_
          refine lv_goto (tgt := 60) hx hb dX5_come_56 (by decide) ?_
          refine lv_istore (lv' := [(7, .int (nI 1)), (6, .int (nI 0)), (0, .ref hm), (1, .int q), (2, .int t), (3, .int a), (4, .int b), (5, .int w)]) hx hb dX5_come_60 hl (by decide) rfl (fun ls hl => ?_)
          refine lv_aload_n hx hb dX5_come_62 rfl (lv_at hl 2 rfl) ?_
          refine lv_iload hx hb dX5_come_63 (lv_at hl 1 rfl) ?_
          refine lv_if_ne (tgt := 72) hx hb dX5_come_65 (by decide) (fun c_65 => ?_) (fun c_65 => ?_)
          · exact absurd c_65 (by decide)
          · refine lv_iconst (v := nI 1) hx hb dX5_come_68 (by decide) ?_
            refine lv_goto (tgt := 82) hx hb dX5_come_69 (by decide) ?_
            refine zmci (va_runV (As := [.int (nI 1)]) (rest := []) ⟨hx, hb, hml, hown, hts⟩ (m_holds l D ca sa hm ad th td nt np nc M 1 (by decide) _) (cwV 1 hts gX5_come_X5_holds rfl rfl rfl (by decide +kernel) ⟨Nat.le_of_ble_eq_true rfl, Nat.le_of_ble_eq_true rfl⟩) (zmV hP hD hE (ci := 5) rfl (q0 := 0) rfl) rfl rfl hl.1 rfl (lv_room (Nat.le_of_ble_eq_true rfl)) dX5_come_82 ⟨Nat.le_of_ble_eq_true rfl, Nat.le_of_ble_eq_true rfl⟩) hD rfl hS hA (fun r9 H locs er hP hD hS => ?_)
            subst er
            refine zasi (show bI (decide (1 = 0)) = nI 0 from rfl) ?_
            refine lv_if_eq (tgt := 111) hx hb dX5_come_85 (by decide) (fun c_85 => ?_) (fun c_85 => ?_)
            · refine lv_iconst (v := nI 0) hx hb dX5_come_111 (by decide) ?_
              exact zmrz hx hb hr hlocks dX5_come_112 (rfl) hP hS (trivial)
            · exact absurd c_85 (by decide)
  · have e_5 := bI_ne0 c_5
    refine lv_aload_n hx hb dX5_come_8 rfl (lv_at hl 0 rfl) ?_
    refine lv_iload_n hx hb dX5_come_9 rfl (lv_at hl 2 rfl) ?_
    refine zci (va_runV (As := [.int t]) (rest := []) ⟨hx, hb, hml, hown, hts⟩ (m_isT l D ca sa hm ad th td nt np nc M (t)) (cwV 1 hts gX5_come_X5_isTitle rfl rfl rfl (by decide +kernel) ⟨Nat.le_of_ble_eq_true rfl, Nat.le_of_ble_eq_true rfl⟩) (zpV hP hE (ci := 5) rfl (q0 := 0) rfl) rfl rfl hl.1 rfl (lv_room (Nat.le_of_ble_eq_true rfl)) dX5_come_10 ⟨Nat.le_of_ble_eq_true rfl, Nat.le_of_ble_eq_true rfl⟩) ?_
    refine lv_if_eq (tgt := 20) hx hb dX5_come_13 (by decide) (fun c_13 => ?_) (fun c_13 => ?_)
    · have e_13 := bI_eq0 c_13
      refine lv_iconst (v := nI 0) hx hb dX5_come_20 (by decide) ?_
      refine lv_istore (lv' := [(6, .int (nI 0)), (0, .ref hm), (1, .int q), (2, .int t), (3, .int a), (4, .int b), (5, .int w)]) hx hb dX5_come_21 hl (by decide) rfl (fun ls hl => ?_)
      refine lv_iload_n hx hb dX5_come_23 rfl (lv_at hl 4 rfl) ?_
      refine lv_iconst (v := nI 0) hx hb dX5_come_24 (by decide) ?_
      refine lv_bipush (v := nI 55) hx hb dX5_come_25 (by decide) ?_
      refine zci (va_runS (As := [.int a, .int (nI 0), .int (nI 55)]) (rest := []) ⟨hx, hb, hml, hown, hts⟩ (m_isB l D ca sa _ _ _ _) (va_cwS 3 hts gX5_come_X5_isBetween rfl rfl rfl (by decide +kernel) ⟨Nat.le_of_ble_eq_true rfl, Nat.le_of_ble_eq_true rfl⟩) (zpS hP hE) rfl rfl hl.1 rfl (lv_room (Nat.le_of_ble_eq_true rfl)) dX5_come_27 ⟨Nat.le_of_ble_eq_true rfl, Nat.le_of_ble_eq_true rfl⟩) ?_
      refine lv_if_eq (tgt := 59) hx hb dX5_come_30 (by decide) (fun c_30 => ?_) (fun c_30 => ?_)
      · have e_30 := bI_eq0 c_30
        refine lv_iconst (v := nI 0) hx hb dX5_come_59 (by decide) ?_
        refine lv_istore (lv' := [(7, .int (nI 0)), (6, .int (nI 0)), (0, .ref hm), (1, .int q), (2, .int t), (3, .int a), (4, .int b), (5, .int w)]) hx hb dX5_come_60 hl (by decide) rfl (fun ls hl => ?_)
        refine lv_aload_n hx hb dX5_come_62 rfl (lv_at hl 2 rfl) ?_
        refine lv_iload hx hb dX5_come_63 (lv_at hl 1 rfl) ?_
        refine lv_if_ne (tgt := 72) hx hb dX5_come_65 (by decide) (fun c_65 => ?_) (fun c_65 => ?_)
        · exact absurd c_65 (by decide)
        · refine lv_iconst (v := nI 1) hx hb dX5_come_68 (by decide) ?_
          refine lv_goto (tgt := 82) hx hb dX5_come_69 (by decide) ?_
          refine zmci (va_runV (As := [.int (nI 1)]) (rest := []) ⟨hx, hb, hml, hown, hts⟩ (m_holds l D ca sa hm ad th td nt np nc M 1 (by decide) _) (cwV 1 hts gX5_come_X5_holds rfl rfl rfl (by decide +kernel) ⟨Nat.le_of_ble_eq_true rfl, Nat.le_of_ble_eq_true rfl⟩) (zmV hP hD hE (ci := 5) rfl (q0 := 0) rfl) rfl rfl hl.1 rfl (lv_room (Nat.le_of_ble_eq_true rfl)) dX5_come_82 ⟨Nat.le_of_ble_eq_true rfl, Nat.le_of_ble_eq_true rfl⟩) hD rfl hS hA (fun r9 H locs er hP hD hS => ?_)
          subst er
          refine zasi (show bI (decide (1 = 0)) = nI 0 from rfl) ?_
          refine lv_if_eq (tgt := 111) hx hb dX5_come_85 (by decide) (fun c_85 => ?_) (fun c_85 => ?_)
          · refine lv_iconst (v := nI 0) hx hb dX5_come_111 (by decide) ?_
            exact zmrz hx hb hr hlocks dX5_come_112 (rfl) hP hS (trivial)
          · exact absurd c_85 (by decide)
      · have e_30 := bI_ne0 c_30
        refine lv_iload hx hb dX5_come_33 (lv_at hl 5 rfl) ?_
        refine lv_iload_n hx hb dX5_come_35 rfl (lv_at hl 4 rfl) ?_
        refine lv_bipush (v := nI 55) hx hb dX5_come_36 (by decide) ?_
        refine zci (va_runS (As := [.int b, .int a, .int (nI 55)]) (rest := []) ⟨hx, hb, hml, hown, hts⟩ (m_isB l D ca sa _ _ _ _) (va_cwS 3 hts gX5_come_X5_isBetween rfl rfl rfl (by decide +kernel) ⟨Nat.le_of_ble_eq_true rfl, Nat.le_of_ble_eq_true rfl⟩) (zpS hP hE) rfl rfl hl.1 rfl (lv_room (Nat.le_of_ble_eq_true rfl)) dX5_come_38 ⟨Nat.le_of_ble_eq_true rfl, Nat.le_of_ble_eq_true rfl⟩) ?_
        refine lv_if_eq (tgt := 59) hx hb dX5_come_41 (by decide) (fun c_41 => ?_) (fun c_41 => ?_)
        · have e_41 := bI_eq0 c_41
          refine lv_iconst (v := nI 0) hx hb dX5_come_59 (by decide) ?_
          refine lv_istore (lv' := [(7, .int (nI 0)), (6, .int (nI 0)), (0, .ref hm), (1, .int q), (2, .int t), (3, .int a), (4, .int b), (5, .int w)]) hx hb dX5_come_60 hl (by decide) rfl (fun ls hl => ?_)
          refine lv_aload_n hx hb dX5_come_62 rfl (lv_at hl 2 rfl) ?_
          refine lv_iload hx hb dX5_come_63 (lv_at hl 1 rfl) ?_
          refine lv_if_ne (tgt := 72) hx hb dX5_come_65 (by decide) (fun c_65 => ?_) (fun c_65 => ?_)
          · exact absurd c_65 (by decide)
          · refine lv_iconst (v := nI 1) hx hb dX5_come_68 (by decide) ?_
            refine lv_goto (tgt := 82) hx hb dX5_come_69 (by decide) ?_
            refine zmci (va_runV (As := [.int (nI 1)]) (rest := []) ⟨hx, hb, hml, hown, hts⟩ (m_holds l D ca sa hm ad th td nt np nc M 1 (by decide) _) (cwV 1 hts gX5_come_X5_holds rfl rfl rfl (by decide +kernel) ⟨Nat.le_of_ble_eq_true rfl, Nat.le_of_ble_eq_true rfl⟩) (zmV hP hD hE (ci := 5) rfl (q0 := 0) rfl) rfl rfl hl.1 rfl (lv_room (Nat.le_of_ble_eq_true rfl)) dX5_come_82 ⟨Nat.le_of_ble_eq_true rfl, Nat.le_of_ble_eq_true rfl⟩) hD rfl hS hA (fun r9 H locs er hP hD hS => ?_)
            subst er
            refine zasi (show bI (decide (1 = 0)) = nI 0 from rfl) ?_
            refine lv_if_eq (tgt := 111) hx hb dX5_come_85 (by decide) (fun c_85 => ?_) (fun c_85 => ?_)
            · refine lv_iconst (v := nI 0) hx hb dX5_come_111 (by decide) ?_
              exact zmrz hx hb hr hlocks dX5_come_112 (rfl) hP hS (trivial)
            · exact absurd c_85 (by decide)
        · have e_41 := bI_ne0 c_41
          refine lv_iload hx hb dX5_come_44 (lv_at hl 6 rfl) ?_
          refine lv_iconst (v := nI 0) hx hb dX5_come_46 (by decide) ?_
          refine lv_bipush (v := nI 20) hx hb dX5_come_47 (by decide) ?_
          refine zci (va_runS (As := [.int w, .int (nI 0), .int (nI 20)]) (rest := []) ⟨hx, hb, hml, hown, hts⟩ (m_isB l D ca sa _ _ _ _) (va_cwS 3 hts gX5_come_X5_isBetween rfl rfl rfl (by decide +kernel) ⟨Nat.le_of_ble_eq_true rfl, Nat.le_of_ble_eq_true rfl⟩) (zpS hP hE) rfl rfl hl.1 rfl (lv_room (Nat.le_of_ble_eq_true rfl)) dX5_come_49 ⟨Nat.le_of_ble_eq_true rfl, Nat.le_of_ble_eq_true rfl⟩) ?_
          refine lv_if_eq (tgt := 59) hx hb dX5_come_52 (by decide) (fun c_52 => ?_) (fun c_52 => ?_)
          · have e_52 := bI_eq0 c_52
            refine lv_iconst (v := nI 0) hx hb dX5_come_59 (by decide) ?_
            refine lv_istore (lv' := [(7, .int (nI 0)), (6, .int (nI 0)), (0, .ref hm), (1, .int q), (2, .int t), (3, .int a), (4, .int b), (5, .int w)]) hx hb dX5_come_60 hl (by decide) rfl (fun ls hl => ?_)
            refine lv_aload_n hx hb dX5_come_62 rfl (lv_at hl 2 rfl) ?_
            refine lv_iload hx hb dX5_come_63 (lv_at hl 1 rfl) ?_
            refine lv_if_ne (tgt := 72) hx hb dX5_come_65 (by decide) (fun c_65 => ?_) (fun c_65 => ?_)
            · exact absurd c_65 (by decide)
            · refine lv_iconst (v := nI 1) hx hb dX5_come_68 (by decide) ?_
              refine lv_goto (tgt := 82) hx hb dX5_come_69 (by decide) ?_
              refine zmci (va_runV (As := [.int (nI 1)]) (rest := []) ⟨hx, hb, hml, hown, hts⟩ (m_holds l D ca sa hm ad th td nt np nc M 1 (by decide) _) (cwV 1 hts gX5_come_X5_holds rfl rfl rfl (by decide +kernel) ⟨Nat.le_of_ble_eq_true rfl, Nat.le_of_ble_eq_true rfl⟩) (zmV hP hD hE (ci := 5) rfl (q0 := 0) rfl) rfl rfl hl.1 rfl (lv_room (Nat.le_of_ble_eq_true rfl)) dX5_come_82 ⟨Nat.le_of_ble_eq_true rfl, Nat.le_of_ble_eq_true rfl⟩) hD rfl hS hA (fun r9 H locs er hP hD hS => ?_)
              subst er
              refine zasi (show bI (decide (1 = 0)) = nI 0 from rfl) ?_
              refine lv_if_eq (tgt := 111) hx hb dX5_come_85 (by decide) (fun c_85 => ?_) (fun c_85 => ?_)
              · refine lv_iconst (v := nI 0) hx hb dX5_come_111 (by decide) ?_
                exact zmrz hx hb hr hlocks dX5_come_112 (rfl) hP hS (trivial)
              · exact absurd c_85 (by decide)
          · have e_52 := bI_ne0 c_52
            refine lv_iconst (v := nI 1) hx hb dX5_come_55 (by decide) ?_
            refine lv_goto (tgt := 60) hx hb dX5_come_56 (by decide) ?_
            refine lv_istore (lv' := [(7, .int (nI 1)), (6, .int (nI 0)), (0, .ref hm), (1, .int q), (2, .int t), (3, .int a), (4, .int b), (5, .int w)]) hx hb dX5_come_60 hl (by decide) rfl (fun ls hl => ?_)
            refine lv_aload_n hx hb dX5_come_62 rfl (lv_at hl 2 rfl) ?_
            refine lv_iload hx hb dX5_come_63 (lv_at hl 1 rfl) ?_
            refine lv_if_ne (tgt := 72) hx hb dX5_come_65 (by decide) (fun c_65 => ?_) (fun c_65 => ?_)
            · exact absurd c_65 (by decide)
            · refine lv_iconst (v := nI 1) hx hb dX5_come_68 (by decide) ?_
              refine lv_goto (tgt := 82) hx hb dX5_come_69 (by decide) ?_
              refine zmci (va_runV (As := [.int (nI 1)]) (rest := []) ⟨hx, hb, hml, hown, hts⟩ (m_holds l D ca sa hm ad th td nt np nc M 1 (by decide) _) (cwV 1 hts gX5_come_X5_holds rfl rfl rfl (by decide +kernel) ⟨Nat.le_of_ble_eq_true rfl, Nat.le_of_ble_eq_true rfl⟩) (zmV hP hD hE (ci := 5) rfl (q0 := 0) rfl) rfl rfl hl.1 rfl (lv_room (Nat.le_of_ble_eq_true rfl)) dX5_come_82 ⟨Nat.le_of_ble_eq_true rfl, Nat.le_of_ble_eq_true rfl⟩) hD rfl hS hA (fun r9 H locs er hP hD hS => ?_)
              subst er
              refine zasi (show bI (decide (1 = 0)) = nI 0 from rfl) ?_
              refine lv_if_eq (tgt := 111) hx hb dX5_come_85 (by decide) (fun c_85 => ?_) (fun c_85 => ?_)
              · refine lv_iconst (v := nI 0) hx hb dX5_come_111 (by decide) ?_
                exact zmrz hx hb hr hlocks dX5_come_112 (rfl) hP hS (trivial)
              · exact absurd c_85 (by decide)
    · have e_13 := bI_ne0 c_13
      refine lv_iconst (v := nI 1) hx hb dX5_come_16 (by decide) ?_
      refine lv_goto (tgt := 21) hx hb dX5_come_17 (by decide) ?_
      refine lv_istore (lv' := [(6, .int (nI 1)), (0, .ref hm), (1, .int q), (2, .int t), (3, .int a), (4, .int b), (5, .int w)]) hx hb dX5_come_21 hl (by decide) rfl (fun ls hl => ?_)
      refine lv_iload_n hx hb dX5_come_23 rfl (lv_at hl 4 rfl) ?_
      refine lv_iconst (v := nI 0) hx hb dX5_come_24 (by decide) ?_
      refine lv_bipush (v := nI 55) hx hb dX5_come_25 (by decide) ?_
      refine zci (va_runS (As := [.int a, .int (nI 0), .int (nI 55)]) (rest := []) ⟨hx, hb, hml, hown, hts⟩ (m_isB l D ca sa _ _ _ _) (va_cwS 3 hts gX5_come_X5_isBetween rfl rfl rfl (by decide +kernel) ⟨Nat.le_of_ble_eq_true rfl, Nat.le_of_ble_eq_true rfl⟩) (zpS hP hE) rfl rfl hl.1 rfl (lv_room (Nat.le_of_ble_eq_true rfl)) dX5_come_27 ⟨Nat.le_of_ble_eq_true rfl, Nat.le_of_ble_eq_true rfl⟩) ?_
      refine lv_if_eq (tgt := 59) hx hb dX5_come_30 (by decide) (fun c_30 => ?_) (fun c_30 => ?_)
      · have e_30 := bI_eq0 c_30
        refine lv_iconst (v := nI 0) hx hb dX5_come_59 (by decide) ?_
        refine lv_istore (lv' := [(7, .int (nI 0)), (6, .int (nI 1)), (0, .ref hm), (1, .int q), (2, .int t), (3, .int a), (4, .int b), (5, .int w)]) hx hb dX5_come_60 hl (by decide) rfl (fun ls hl => ?_)
        refine lv_aload_n hx hb dX5_come_62 rfl (lv_at hl 2 rfl) ?_
        refine lv_iload hx hb dX5_come_63 (lv_at hl 1 rfl) ?_
        refine lv_if_ne (tgt := 72) hx hb dX5_come_65 (by decide) (fun c_65 => ?_) (fun c_65 => ?_)
        · refine lv_iload hx hb dX5_come_72 (lv_at hl 0 rfl) ?_
          refine lv_if_eq (tgt := 81) hx hb dX5_come_74 (by decide) (fun c_74 => ?_) (fun c_74 => ?_)
          · refine lv_iconst (v := nI 2) hx hb dX5_come_81 (by decide) ?_
            exact absurd hbad (by simp [e_5, e_13, e_30])
          · exact absurd c_74 (by decide)
        · exact absurd c_65 (by decide)
      · have e_30 := bI_ne0 c_30
        refine lv_iload hx hb dX5_come_33 (lv_at hl 5 rfl) ?_
        refine lv_iload_n hx hb dX5_come_35 rfl (lv_at hl 4 rfl) ?_
        refine lv_bipush (v := nI 55) hx hb dX5_come_36 (by decide) ?_
        refine zci (va_runS (As := [.int b, .int a, .int (nI 55)]) (rest := []) ⟨hx, hb, hml, hown, hts⟩ (m_isB l D ca sa _ _ _ _) (va_cwS 3 hts gX5_come_X5_isBetween rfl rfl rfl (by decide +kernel) ⟨Nat.le_of_ble_eq_true rfl, Nat.le_of_ble_eq_true rfl⟩) (zpS hP hE) rfl rfl hl.1 rfl (lv_room (Nat.le_of_ble_eq_true rfl)) dX5_come_38 ⟨Nat.le_of_ble_eq_true rfl, Nat.le_of_ble_eq_true rfl⟩) ?_
        refine lv_if_eq (tgt := 59) hx hb dX5_come_41 (by decide) (fun c_41 => ?_) (fun c_41 => ?_)
        · have e_41 := bI_eq0 c_41
          refine lv_iconst (v := nI 0) hx hb dX5_come_59 (by decide) ?_
          refine lv_istore (lv' := [(7, .int (nI 0)), (6, .int (nI 1)), (0, .ref hm), (1, .int q), (2, .int t), (3, .int a), (4, .int b), (5, .int w)]) hx hb dX5_come_60 hl (by decide) rfl (fun ls hl => ?_)
          refine lv_aload_n hx hb dX5_come_62 rfl (lv_at hl 2 rfl) ?_
          refine lv_iload hx hb dX5_come_63 (lv_at hl 1 rfl) ?_
          refine lv_if_ne (tgt := 72) hx hb dX5_come_65 (by decide) (fun c_65 => ?_) (fun c_65 => ?_)
          · refine lv_iload hx hb dX5_come_72 (lv_at hl 0 rfl) ?_
            refine lv_if_eq (tgt := 81) hx hb dX5_come_74 (by decide) (fun c_74 => ?_) (fun c_74 => ?_)
            · refine lv_iconst (v := nI 2) hx hb dX5_come_81 (by decide) ?_
              exact absurd hbad (by simp [e_5, e_13, e_30, e_41])
            · exact absurd c_74 (by decide)
          · exact absurd c_65 (by decide)
        · have e_41 := bI_ne0 c_41
          refine lv_iload hx hb dX5_come_44 (lv_at hl 6 rfl) ?_
          refine lv_iconst (v := nI 0) hx hb dX5_come_46 (by decide) ?_
          refine lv_bipush (v := nI 20) hx hb dX5_come_47 (by decide) ?_
          refine zci (va_runS (As := [.int w, .int (nI 0), .int (nI 20)]) (rest := []) ⟨hx, hb, hml, hown, hts⟩ (m_isB l D ca sa _ _ _ _) (va_cwS 3 hts gX5_come_X5_isBetween rfl rfl rfl (by decide +kernel) ⟨Nat.le_of_ble_eq_true rfl, Nat.le_of_ble_eq_true rfl⟩) (zpS hP hE) rfl rfl hl.1 rfl (lv_room (Nat.le_of_ble_eq_true rfl)) dX5_come_49 ⟨Nat.le_of_ble_eq_true rfl, Nat.le_of_ble_eq_true rfl⟩) ?_
          refine lv_if_eq (tgt := 59) hx hb dX5_come_52 (by decide) (fun c_52 => ?_) (fun c_52 => ?_)
          · have e_52 := bI_eq0 c_52
            refine lv_iconst (v := nI 0) hx hb dX5_come_59 (by decide) ?_
            refine lv_istore (lv' := [(7, .int (nI 0)), (6, .int (nI 1)), (0, .ref hm), (1, .int q), (2, .int t), (3, .int a), (4, .int b), (5, .int w)]) hx hb dX5_come_60 hl (by decide) rfl (fun ls hl => ?_)
            refine lv_aload_n hx hb dX5_come_62 rfl (lv_at hl 2 rfl) ?_
            refine lv_iload hx hb dX5_come_63 (lv_at hl 1 rfl) ?_
            refine lv_if_ne (tgt := 72) hx hb dX5_come_65 (by decide) (fun c_65 => ?_) (fun c_65 => ?_)
            · refine lv_iload hx hb dX5_come_72 (lv_at hl 0 rfl) ?_
              refine lv_if_eq (tgt := 81) hx hb dX5_come_74 (by decide) (fun c_74 => ?_) (fun c_74 => ?_)
              · refine lv_iconst (v := nI 2) hx hb dX5_come_81 (by decide) ?_
                exact absurd hbad (by simp [e_5, e_13, e_30, e_41, e_52])
              · exact absurd c_74 (by decide)
            · exact absurd c_65 (by decide)
          · have e_52 := bI_ne0 c_52
            refine lv_iconst (v := nI 1) hx hb dX5_come_55 (by decide) ?_
            refine lv_goto (tgt := 60) hx hb dX5_come_56 (by decide) ?_
            refine lv_istore (lv' := [(7, .int (nI 1)), (6, .int (nI 1)), (0, .ref hm), (1, .int q), (2, .int t), (3, .int a), (4, .int b), (5, .int w)]) hx hb dX5_come_60 hl (by decide) rfl (fun ls hl => ?_)
            refine lv_aload_n hx hb dX5_come_62 rfl (lv_at hl 2 rfl) ?_
            refine lv_iload hx hb dX5_come_63 (lv_at hl 1 rfl) ?_
            refine lv_if_ne (tgt := 72) hx hb dX5_come_65 (by decide) (fun c_65 => ?_) (fun c_65 => ?_)
            · refine lv_iload hx hb dX5_come_72 (lv_at hl 0 rfl) ?_
              refine lv_if_eq (tgt := 81) hx hb dX5_come_74 (by decide) (fun c_74 => ?_) (fun c_74 => ?_)
              · exact absurd c_74 (by decide)
              · refine lv_iconst (v := nI 0) hx hb dX5_come_77 (by decide) ?_
                refine lv_goto (tgt := 82) hx hb dX5_come_78 (by decide) ?_
                exact absurd hbad (by simp [e_5, e_13, e_30, e_41, e_52])
            · exact absurd c_65 (by decide)

set_option maxHeartbeats 4000000 in
set_option maxRecDepth 100000 in
theorem m_come_2 (l : Launch) (D : va_G) (ca : Nat → ClassId) (sa : Nat → Nat) (hm : Nat) (ad : Nat → Nat) (th : Int32) (td nt np nc : Nat) (M : Nat → Nat → Int32) (q t a b w : Int32) (hok : (iT np q && iT nt t) = true) (hbad : (iB a (nI 0) (nI 55) && (iB b a (nI 55) && iB w (nI 0) (nI 20))) = false) (sz : Nat) : Met l yX5_come wsX5_come ({ frames := 9, cells := 0, slots := 0, locals := 360 }) (va_Pc [.ref hm, .int q, .int t, .int a, .int b, .int w] (zMp D (mW hm ad ca th td nt np nc M) ca sa sz)) (va_Qi (fun (r : Int32) (_ : Unit) => True) (fun _ t9 => va_P D vwCl (mW hm ad ca (nI 2) td nt np nc M) t9.heap) (va_A (mW hm ad ca th td nt np nc M) sz)) 0 0 (va_A (mW hm ad ca th td nt np nc M) sz) := by
  refine Met.ofW (cc := cX5_come) (maxL := 8) (ret := (some .boolean)) (by decide) rfl ?_
  intro p e s m args below meth c s₁ B hml hv
  obtain ⟨rfl, hsz, hP, hD0, hE⟩ := hv
  have hx := B.exec
  have hb := B.bytes
  have hr := B.returns
  have hts := atoms_spec (ws := wsX5_come) B.pre
  have hown : s.vm.findClass RX5 = some m.cls := findClass_of_methodNamed B.named
  have hlocks := B.notSynchronized
  have hl := lv_entry ([.ref hm, .int q, .int t, .int a, .int b, .int w]) (n := 8) (Nat.le_of_ble_eq_true rfl)
  rw [lg_entry_eq]
  generalize (lg_sl ([.ref hm, .int q, .int t, .int a, .int b, .int w]) ++ List.replicate (8 - (lg_sl ([.ref hm, .int q, .int t, .int a, .int b, .int w])).length) Slot.unset).toArray = ls at hl ⊢
  have hl : lv_has ls 8 [(0, .ref hm), (1, .int q), (2, .int t), (3, .int a), (4, .int b), (5, .int w)] := hl
  subst hsz
  have hD := hD0.self (sz := s.heap.size)
  generalize hAe : va_A (mW hm ad ca th td nt np nc M) s.heap.size = A at hD ⊢
  have hA : ∀ q : Nat, s.heap.size ≤ q → A q := fun q h => by rw [← hAe]; exact Or.inr h
  have hS : va_S A s.heap s.heap [] := va_S.rf
  refine lv_aload_n hx hb dX5_come_0 rfl (lv_at hl 0 rfl) ?_
  refine lv_iload_n hx hb dX5_come_1 rfl (lv_at hl 1 rfl) ?_
  refine zci (va_runV (As := [.int q]) (rest := []) ⟨hx, hb, hml, hown, hts⟩ (m_isP l D ca sa hm ad th td nt np nc M (q)) (cwV 1 hts gX5_come_X5_isPackage rfl rfl rfl (by decide +kernel) ⟨Nat.le_of_ble_eq_true rfl, Nat.le_of_ble_eq_true rfl⟩) (zpV hP hE (ci := 5) rfl (q0 := 0) rfl) rfl rfl hl.1 rfl (lv_room (Nat.le_of_ble_eq_true rfl)) dX5_come_2 ⟨Nat.le_of_ble_eq_true rfl, Nat.le_of_ble_eq_true rfl⟩) ?_
  refine lv_if_eq (tgt := 20) hx hb dX5_come_5 (by decide) (fun c_5 => ?_) (fun c_5 => ?_)
  · have e_5 := bI_eq0 c_5
    refine lv_iconst (v := nI 0) hx hb dX5_come_20 (by decide) ?_
    refine lv_istore (lv' := [(6, .int (nI 0)), (0, .ref hm), (1, .int q), (2, .int t), (3, .int a), (4, .int b), (5, .int w)]) hx hb dX5_come_21 hl (by decide) rfl (fun ls hl => ?_)
    refine lv_iload_n hx hb dX5_come_23 rfl (lv_at hl 4 rfl) ?_
    refine lv_iconst (v := nI 0) hx hb dX5_come_24 (by decide) ?_
    refine lv_bipush (v := nI 55) hx hb dX5_come_25 (by decide) ?_
    refine zci (va_runS (As := [.int a, .int (nI 0), .int (nI 55)]) (rest := []) ⟨hx, hb, hml, hown, hts⟩ (m_isB l D ca sa _ _ _ _) (va_cwS 3 hts gX5_come_X5_isBetween rfl rfl rfl (by decide +kernel) ⟨Nat.le_of_ble_eq_true rfl, Nat.le_of_ble_eq_true rfl⟩) (zpS hP hE) rfl rfl hl.1 rfl (lv_room (Nat.le_of_ble_eq_true rfl)) dX5_come_27 ⟨Nat.le_of_ble_eq_true rfl, Nat.le_of_ble_eq_true rfl⟩) ?_
    refine lv_if_eq (tgt := 59) hx hb dX5_come_30 (by decide) (fun c_30 => ?_) (fun c_30 => ?_)
    · have e_30 := bI_eq0 c_30
      refine lv_iconst (v := nI 0) hx hb dX5_come_59 (by decide) ?_
      refine lv_istore (lv' := [(7, .int (nI 0)), (6, .int (nI 0)), (0, .ref hm), (1, .int q), (2, .int t), (3, .int a), (4, .int b), (5, .int w)]) hx hb dX5_come_60 hl (by decide) rfl (fun ls hl => ?_)
      refine lv_aload_n hx hb dX5_come_62 rfl (lv_at hl 2 rfl) ?_
      refine lv_iload hx hb dX5_come_63 (lv_at hl 1 rfl) ?_
      refine lv_if_ne (tgt := 72) hx hb dX5_come_65 (by decide) (fun c_65 => ?_) (fun c_65 => ?_)
      · exact absurd c_65 (by decide)
      · refine lv_iconst (v := nI 1) hx hb dX5_come_68 (by decide) ?_
        refine lv_goto (tgt := 82) hx hb dX5_come_69 (by decide) ?_
        exact absurd hok (by simp [e_5, e_30])
    · have e_30 := bI_ne0 c_30
      refine lv_iload hx hb dX5_come_33 (lv_at hl 5 rfl) ?_
      refine lv_iload_n hx hb dX5_come_35 rfl (lv_at hl 4 rfl) ?_
      refine lv_bipush (v := nI 55) hx hb dX5_come_36 (by decide) ?_
      refine zci (va_runS (As := [.int b, .int a, .int (nI 55)]) (rest := []) ⟨hx, hb, hml, hown, hts⟩ (m_isB l D ca sa _ _ _ _) (va_cwS 3 hts gX5_come_X5_isBetween rfl rfl rfl (by decide +kernel) ⟨Nat.le_of_ble_eq_true rfl, Nat.le_of_ble_eq_true rfl⟩) (zpS hP hE) rfl rfl hl.1 rfl (lv_room (Nat.le_of_ble_eq_true rfl)) dX5_come_38 ⟨Nat.le_of_ble_eq_true rfl, Nat.le_of_ble_eq_true rfl⟩) ?_
      refine lv_if_eq (tgt := 59) hx hb dX5_come_41 (by decide) (fun c_41 => ?_) (fun c_41 => ?_)
      · have e_41 := bI_eq0 c_41
        refine lv_iconst (v := nI 0) hx hb dX5_come_59 (by decide) ?_
        refine lv_istore (lv' := [(7, .int (nI 0)), (6, .int (nI 0)), (0, .ref hm), (1, .int q), (2, .int t), (3, .int a), (4, .int b), (5, .int w)]) hx hb dX5_come_60 hl (by decide) rfl (fun ls hl => ?_)
        refine lv_aload_n hx hb dX5_come_62 rfl (lv_at hl 2 rfl) ?_
        refine lv_iload hx hb dX5_come_63 (lv_at hl 1 rfl) ?_
        refine lv_if_ne (tgt := 72) hx hb dX5_come_65 (by decide) (fun c_65 => ?_) (fun c_65 => ?_)
        · exact absurd c_65 (by decide)
        · refine lv_iconst (v := nI 1) hx hb dX5_come_68 (by decide) ?_
          refine lv_goto (tgt := 82) hx hb dX5_come_69 (by decide) ?_
          exact absurd hok (by simp [e_5, e_30, e_41])
      · have e_41 := bI_ne0 c_41
        refine lv_iload hx hb dX5_come_44 (lv_at hl 6 rfl) ?_
        refine lv_iconst (v := nI 0) hx hb dX5_come_46 (by decide) ?_
        refine lv_bipush (v := nI 20) hx hb dX5_come_47 (by decide) ?_
        refine zci (va_runS (As := [.int w, .int (nI 0), .int (nI 20)]) (rest := []) ⟨hx, hb, hml, hown, hts⟩ (m_isB l D ca sa _ _ _ _) (va_cwS 3 hts gX5_come_X5_isBetween rfl rfl rfl (by decide +kernel) ⟨Nat.le_of_ble_eq_true rfl, Nat.le_of_ble_eq_true rfl⟩) (zpS hP hE) rfl rfl hl.1 rfl (lv_room (Nat.le_of_ble_eq_true rfl)) dX5_come_49 ⟨Nat.le_of_ble_eq_true rfl, Nat.le_of_ble_eq_true rfl⟩) ?_
        refine lv_if_eq (tgt := 59) hx hb dX5_come_52 (by decide) (fun c_52 => ?_) (fun c_52 => ?_)
        · have e_52 := bI_eq0 c_52
          refine lv_iconst (v := nI 0) hx hb dX5_come_59 (by decide) ?_
          refine lv_istore (lv' := [(7, .int (nI 0)), (6, .int (nI 0)), (0, .ref hm), (1, .int q), (2, .int t), (3, .int a), (4, .int b), (5, .int w)]) hx hb dX5_come_60 hl (by decide) rfl (fun ls hl => ?_)
          refine lv_aload_n hx hb dX5_come_62 rfl (lv_at hl 2 rfl) ?_
          refine lv_iload hx hb dX5_come_63 (lv_at hl 1 rfl) ?_
          refine lv_if_ne (tgt := 72) hx hb dX5_come_65 (by decide) (fun c_65 => ?_) (fun c_65 => ?_)
          · exact absurd c_65 (by decide)
          · refine lv_iconst (v := nI 1) hx hb dX5_come_68 (by decide) ?_
            refine lv_goto (tgt := 82) hx hb dX5_come_69 (by decide) ?_
            exact absurd hok (by simp [e_5, e_30, e_41, e_52])
        · have e_52 := bI_ne0 c_52
          refine lv_iconst (v := nI 1) hx hb dX5_come_55 (by decide) ?_
          refine lv_goto (tgt := 60) hx hb dX5_come_56 (by decide) ?_
          refine lv_istore (lv' := [(7, .int (nI 1)), (6, .int (nI 0)), (0, .ref hm), (1, .int q), (2, .int t), (3, .int a), (4, .int b), (5, .int w)]) hx hb dX5_come_60 hl (by decide) rfl (fun ls hl => ?_)
          refine lv_aload_n hx hb dX5_come_62 rfl (lv_at hl 2 rfl) ?_
          refine lv_iload hx hb dX5_come_63 (lv_at hl 1 rfl) ?_
          refine lv_if_ne (tgt := 72) hx hb dX5_come_65 (by decide) (fun c_65 => ?_) (fun c_65 => ?_)
          · exact absurd c_65 (by decide)
          · refine lv_iconst (v := nI 1) hx hb dX5_come_68 (by decide) ?_
            refine lv_goto (tgt := 82) hx hb dX5_come_69 (by decide) ?_
            exact absurd hok (by simp [e_5, e_30, e_41, e_52])
  · have e_5 := bI_ne0 c_5
    refine lv_aload_n hx hb dX5_come_8 rfl (lv_at hl 0 rfl) ?_
    refine lv_iload_n hx hb dX5_come_9 rfl (lv_at hl 2 rfl) ?_
    refine zci (va_runV (As := [.int t]) (rest := []) ⟨hx, hb, hml, hown, hts⟩ (m_isT l D ca sa hm ad th td nt np nc M (t)) (cwV 1 hts gX5_come_X5_isTitle rfl rfl rfl (by decide +kernel) ⟨Nat.le_of_ble_eq_true rfl, Nat.le_of_ble_eq_true rfl⟩) (zpV hP hE (ci := 5) rfl (q0 := 0) rfl) rfl rfl hl.1 rfl (lv_room (Nat.le_of_ble_eq_true rfl)) dX5_come_10 ⟨Nat.le_of_ble_eq_true rfl, Nat.le_of_ble_eq_true rfl⟩) ?_
    refine lv_if_eq (tgt := 20) hx hb dX5_come_13 (by decide) (fun c_13 => ?_) (fun c_13 => ?_)
    · have e_13 := bI_eq0 c_13
      refine lv_iconst (v := nI 0) hx hb dX5_come_20 (by decide) ?_
      refine lv_istore (lv' := [(6, .int (nI 0)), (0, .ref hm), (1, .int q), (2, .int t), (3, .int a), (4, .int b), (5, .int w)]) hx hb dX5_come_21 hl (by decide) rfl (fun ls hl => ?_)
      refine lv_iload_n hx hb dX5_come_23 rfl (lv_at hl 4 rfl) ?_
      refine lv_iconst (v := nI 0) hx hb dX5_come_24 (by decide) ?_
      refine lv_bipush (v := nI 55) hx hb dX5_come_25 (by decide) ?_
      refine zci (va_runS (As := [.int a, .int (nI 0), .int (nI 55)]) (rest := []) ⟨hx, hb, hml, hown, hts⟩ (m_isB l D ca sa _ _ _ _) (va_cwS 3 hts gX5_come_X5_isBetween rfl rfl rfl (by decide +kernel) ⟨Nat.le_of_ble_eq_true rfl, Nat.le_of_ble_eq_true rfl⟩) (zpS hP hE) rfl rfl hl.1 rfl (lv_room (Nat.le_of_ble_eq_true rfl)) dX5_come_27 ⟨Nat.le_of_ble_eq_true rfl, Nat.le_of_ble_eq_true rfl⟩) ?_
      refine lv_if_eq (tgt := 59) hx hb dX5_come_30 (by decide) (fun c_30 => ?_) (fun c_30 => ?_)
      · have e_30 := bI_eq0 c_30
        refine lv_iconst (v := nI 0) hx hb dX5_come_59 (by decide) ?_
        refine lv_istore (lv' := [(7, .int (nI 0)), (6, .int (nI 0)), (0, .ref hm), (1, .int q), (2, .int t), (3, .int a), (4, .int b), (5, .int w)]) hx hb dX5_come_60 hl (by decide) rfl (fun ls hl => ?_)
        refine lv_aload_n hx hb dX5_come_62 rfl (lv_at hl 2 rfl) ?_
        refine lv_iload hx hb dX5_come_63 (lv_at hl 1 rfl) ?_
        refine lv_if_ne (tgt := 72) hx hb dX5_come_65 (by decide) (fun c_65 => ?_) (fun c_65 => ?_)
        · exact absurd c_65 (by decide)
        · refine lv_iconst (v := nI 1) hx hb dX5_come_68 (by decide) ?_
          refine lv_goto (tgt := 82) hx hb dX5_come_69 (by decide) ?_
          exact absurd hok (by simp [e_5, e_13, e_30])
      · have e_30 := bI_ne0 c_30
        refine lv_iload hx hb dX5_come_33 (lv_at hl 5 rfl) ?_
        refine lv_iload_n hx hb dX5_come_35 rfl (lv_at hl 4 rfl) ?_
        refine lv_bipush (v := nI 55) hx hb dX5_come_36 (by decide) ?_
        refine zci (va_runS (As := [.int b, .int a, .int (nI 55)]) (rest := []) ⟨hx, hb, hml, hown, hts⟩ (m_isB l D ca sa _ _ _ _) (va_cwS 3 hts gX5_come_X5_isBetween rfl rfl rfl (by decide +kernel) ⟨Nat.le_of_ble_eq_true rfl, Nat.le_of_ble_eq_true rfl⟩) (zpS hP hE) rfl rfl hl.1 rfl (lv_room (Nat.le_of_ble_eq_true rfl)) dX5_come_38 ⟨Nat.le_of_ble_eq_true rfl, Nat.le_of_ble_eq_true rfl⟩) ?_
        refine lv_if_eq (tgt := 59) hx hb dX5_come_41 (by decide) (fun c_41 => ?_) (fun c_41 => ?_)
        · have e_41 := bI_eq0 c_41
          refine lv_iconst (v := nI 0) hx hb dX5_come_59 (by decide) ?_
          refine lv_istore (lv' := [(7, .int (nI 0)), (6, .int (nI 0)), (0, .ref hm), (1, .int q), (2, .int t), (3, .int a), (4, .int b), (5, .int w)]) hx hb dX5_come_60 hl (by decide) rfl (fun ls hl => ?_)
          refine lv_aload_n hx hb dX5_come_62 rfl (lv_at hl 2 rfl) ?_
          refine lv_iload hx hb dX5_come_63 (lv_at hl 1 rfl) ?_
          refine lv_if_ne (tgt := 72) hx hb dX5_come_65 (by decide) (fun c_65 => ?_) (fun c_65 => ?_)
          · exact absurd c_65 (by decide)
          · refine lv_iconst (v := nI 1) hx hb dX5_come_68 (by decide) ?_
            refine lv_goto (tgt := 82) hx hb dX5_come_69 (by decide) ?_
            exact absurd hok (by simp [e_5, e_13, e_30, e_41])
        · have e_41 := bI_ne0 c_41
          refine lv_iload hx hb dX5_come_44 (lv_at hl 6 rfl) ?_
          refine lv_iconst (v := nI 0) hx hb dX5_come_46 (by decide) ?_
          refine lv_bipush (v := nI 20) hx hb dX5_come_47 (by decide) ?_
          refine zci (va_runS (As := [.int w, .int (nI 0), .int (nI 20)]) (rest := []) ⟨hx, hb, hml, hown, hts⟩ (m_isB l D ca sa _ _ _ _) (va_cwS 3 hts gX5_come_X5_isBetween rfl rfl rfl (by decide +kernel) ⟨Nat.le_of_ble_eq_true rfl, Nat.le_of_ble_eq_true rfl⟩) (zpS hP hE) rfl rfl hl.1 rfl (lv_room (Nat.le_of_ble_eq_true rfl)) dX5_come_49 ⟨Nat.le_of_ble_eq_true rfl, Nat.le_of_ble_eq_true rfl⟩) ?_
          refine lv_if_eq (tgt := 59) hx hb dX5_come_52 (by decide) (fun c_52 => ?_) (fun c_52 => ?_)
          · have e_52 := bI_eq0 c_52
            refine lv_iconst (v := nI 0) hx hb dX5_come_59 (by decide) ?_
            refine lv_istore (lv' := [(7, .int (nI 0)), (6, .int (nI 0)), (0, .ref hm), (1, .int q), (2, .int t), (3, .int a), (4, .int b), (5, .int w)]) hx hb dX5_come_60 hl (by decide) rfl (fun ls hl => ?_)
            refine lv_aload_n hx hb dX5_come_62 rfl (lv_at hl 2 rfl) ?_
            refine lv_iload hx hb dX5_come_63 (lv_at hl 1 rfl) ?_
            refine lv_if_ne (tgt := 72) hx hb dX5_come_65 (by decide) (fun c_65 => ?_) (fun c_65 => ?_)
            · exact absurd c_65 (by decide)
            · refine lv_iconst (v := nI 1) hx hb dX5_come_68 (by decide) ?_
              refine lv_goto (tgt := 82) hx hb dX5_come_69 (by decide) ?_
              exact absurd hok (by simp [e_5, e_13, e_30, e_41, e_52])
          · have e_52 := bI_ne0 c_52
            refine lv_iconst (v := nI 1) hx hb dX5_come_55 (by decide) ?_
            refine lv_goto (tgt := 60) hx hb dX5_come_56 (by decide) ?_
            refine lv_istore (lv' := [(7, .int (nI 1)), (6, .int (nI 0)), (0, .ref hm), (1, .int q), (2, .int t), (3, .int a), (4, .int b), (5, .int w)]) hx hb dX5_come_60 hl (by decide) rfl (fun ls hl => ?_)
            refine lv_aload_n hx hb dX5_come_62 rfl (lv_at hl 2 rfl) ?_
            refine lv_iload hx hb dX5_come_63 (lv_at hl 1 rfl) ?_
            refine lv_if_ne (tgt := 72) hx hb dX5_come_65 (by decide) (fun c_65 => ?_) (fun c_65 => ?_)
            · exact absurd c_65 (by decide)
            · refine lv_iconst (v := nI 1) hx hb dX5_come_68 (by decide) ?_
              refine lv_goto (tgt := 82) hx hb dX5_come_69 (by decide) ?_
              exact absurd hok (by simp [e_5, e_13, e_30, e_41, e_52])
    · have e_13 := bI_ne0 c_13
      refine lv_iconst (v := nI 1) hx hb dX5_come_16 (by decide) ?_
      refine lv_goto (tgt := 21) hx hb dX5_come_17 (by decide) ?_
      refine lv_istore (lv' := [(6, .int (nI 1)), (0, .ref hm), (1, .int q), (2, .int t), (3, .int a), (4, .int b), (5, .int w)]) hx hb dX5_come_21 hl (by decide) rfl (fun ls hl => ?_)
      refine lv_iload_n hx hb dX5_come_23 rfl (lv_at hl 4 rfl) ?_
      refine lv_iconst (v := nI 0) hx hb dX5_come_24 (by decide) ?_
      refine lv_bipush (v := nI 55) hx hb dX5_come_25 (by decide) ?_
      refine zci (va_runS (As := [.int a, .int (nI 0), .int (nI 55)]) (rest := []) ⟨hx, hb, hml, hown, hts⟩ (m_isB l D ca sa _ _ _ _) (va_cwS 3 hts gX5_come_X5_isBetween rfl rfl rfl (by decide +kernel) ⟨Nat.le_of_ble_eq_true rfl, Nat.le_of_ble_eq_true rfl⟩) (zpS hP hE) rfl rfl hl.1 rfl (lv_room (Nat.le_of_ble_eq_true rfl)) dX5_come_27 ⟨Nat.le_of_ble_eq_true rfl, Nat.le_of_ble_eq_true rfl⟩) ?_
      refine lv_if_eq (tgt := 59) hx hb dX5_come_30 (by decide) (fun c_30 => ?_) (fun c_30 => ?_)
      · have e_30 := bI_eq0 c_30
        refine lv_iconst (v := nI 0) hx hb dX5_come_59 (by decide) ?_
        refine lv_istore (lv' := [(7, .int (nI 0)), (6, .int (nI 1)), (0, .ref hm), (1, .int q), (2, .int t), (3, .int a), (4, .int b), (5, .int w)]) hx hb dX5_come_60 hl (by decide) rfl (fun ls hl => ?_)
        refine lv_aload_n hx hb dX5_come_62 rfl (lv_at hl 2 rfl) ?_
        refine lv_iload hx hb dX5_come_63 (lv_at hl 1 rfl) ?_
        refine lv_if_ne (tgt := 72) hx hb dX5_come_65 (by decide) (fun c_65 => ?_) (fun c_65 => ?_)
        · refine lv_iload hx hb dX5_come_72 (lv_at hl 0 rfl) ?_
          refine lv_if_eq (tgt := 81) hx hb dX5_come_74 (by decide) (fun c_74 => ?_) (fun c_74 => ?_)
          · refine lv_iconst (v := nI 2) hx hb dX5_come_81 (by decide) ?_
            refine zmci (va_runV (As := [.int (nI 2)]) (rest := []) ⟨hx, hb, hml, hown, hts⟩ (m_holds l D ca sa hm ad th td nt np nc M 2 (by decide) _) (cwV 1 hts gX5_come_X5_holds rfl rfl rfl (by decide +kernel) ⟨Nat.le_of_ble_eq_true rfl, Nat.le_of_ble_eq_true rfl⟩) (zmV hP hD hE (ci := 5) rfl (q0 := 0) rfl) rfl rfl hl.1 rfl (lv_room (Nat.le_of_ble_eq_true rfl)) dX5_come_82 ⟨Nat.le_of_ble_eq_true rfl, Nat.le_of_ble_eq_true rfl⟩) hD rfl hS hA (fun r9 H locs er hP hD hS => ?_)
            subst er
            refine zasi (show bI (decide (2 = 0)) = nI 0 from rfl) ?_
            refine lv_if_eq (tgt := 111) hx hb dX5_come_85 (by decide) (fun c_85 => ?_) (fun c_85 => ?_)
            · refine lv_iconst (v := nI 0) hx hb dX5_come_111 (by decide) ?_
              exact zmrz hx hb hr hlocks dX5_come_112 (rfl) hP hS (trivial)
            · exact absurd c_85 (by decide)
          · exact absurd c_74 (by decide)
        · exact absurd c_65 (by decide)
      · have e_30 := bI_ne0 c_30
        refine lv_iload hx hb dX5_come_33 (lv_at hl 5 rfl) ?_
        refine lv_iload_n hx hb dX5_come_35 rfl (lv_at hl 4 rfl) ?_
        refine lv_bipush (v := nI 55) hx hb dX5_come_36 (by decide) ?_
        refine zci (va_runS (As := [.int b, .int a, .int (nI 55)]) (rest := []) ⟨hx, hb, hml, hown, hts⟩ (m_isB l D ca sa _ _ _ _) (va_cwS 3 hts gX5_come_X5_isBetween rfl rfl rfl (by decide +kernel) ⟨Nat.le_of_ble_eq_true rfl, Nat.le_of_ble_eq_true rfl⟩) (zpS hP hE) rfl rfl hl.1 rfl (lv_room (Nat.le_of_ble_eq_true rfl)) dX5_come_38 ⟨Nat.le_of_ble_eq_true rfl, Nat.le_of_ble_eq_true rfl⟩) ?_
        refine lv_if_eq (tgt := 59) hx hb dX5_come_41 (by decide) (fun c_41 => ?_) (fun c_41 => ?_)
        · have e_41 := bI_eq0 c_41
          refine lv_iconst (v := nI 0) hx hb dX5_come_59 (by decide) ?_
          refine lv_istore (lv' := [(7, .int (nI 0)), (6, .int (nI 1)), (0, .ref hm), (1, .int q), (2, .int t), (3, .int a), (4, .int b), (5, .int w)]) hx hb dX5_come_60 hl (by decide) rfl (fun ls hl => ?_)
          refine lv_aload_n hx hb dX5_come_62 rfl (lv_at hl 2 rfl) ?_
          refine lv_iload hx hb dX5_come_63 (lv_at hl 1 rfl) ?_
          refine lv_if_ne (tgt := 72) hx hb dX5_come_65 (by decide) (fun c_65 => ?_) (fun c_65 => ?_)
          · refine lv_iload hx hb dX5_come_72 (lv_at hl 0 rfl) ?_
            refine lv_if_eq (tgt := 81) hx hb dX5_come_74 (by decide) (fun c_74 => ?_) (fun c_74 => ?_)
            · refine lv_iconst (v := nI 2) hx hb dX5_come_81 (by decide) ?_
              refine zmci (va_runV (As := [.int (nI 2)]) (rest := []) ⟨hx, hb, hml, hown, hts⟩ (m_holds l D ca sa hm ad th td nt np nc M 2 (by decide) _) (cwV 1 hts gX5_come_X5_holds rfl rfl rfl (by decide +kernel) ⟨Nat.le_of_ble_eq_true rfl, Nat.le_of_ble_eq_true rfl⟩) (zmV hP hD hE (ci := 5) rfl (q0 := 0) rfl) rfl rfl hl.1 rfl (lv_room (Nat.le_of_ble_eq_true rfl)) dX5_come_82 ⟨Nat.le_of_ble_eq_true rfl, Nat.le_of_ble_eq_true rfl⟩) hD rfl hS hA (fun r9 H locs er hP hD hS => ?_)
              subst er
              refine zasi (show bI (decide (2 = 0)) = nI 0 from rfl) ?_
              refine lv_if_eq (tgt := 111) hx hb dX5_come_85 (by decide) (fun c_85 => ?_) (fun c_85 => ?_)
              · refine lv_iconst (v := nI 0) hx hb dX5_come_111 (by decide) ?_
                exact zmrz hx hb hr hlocks dX5_come_112 (rfl) hP hS (trivial)
              · exact absurd c_85 (by decide)
            · exact absurd c_74 (by decide)
          · exact absurd c_65 (by decide)
        · have e_41 := bI_ne0 c_41
          refine lv_iload hx hb dX5_come_44 (lv_at hl 6 rfl) ?_
          refine lv_iconst (v := nI 0) hx hb dX5_come_46 (by decide) ?_
          refine lv_bipush (v := nI 20) hx hb dX5_come_47 (by decide) ?_
          refine zci (va_runS (As := [.int w, .int (nI 0), .int (nI 20)]) (rest := []) ⟨hx, hb, hml, hown, hts⟩ (m_isB l D ca sa _ _ _ _) (va_cwS 3 hts gX5_come_X5_isBetween rfl rfl rfl (by decide +kernel) ⟨Nat.le_of_ble_eq_true rfl, Nat.le_of_ble_eq_true rfl⟩) (zpS hP hE) rfl rfl hl.1 rfl (lv_room (Nat.le_of_ble_eq_true rfl)) dX5_come_49 ⟨Nat.le_of_ble_eq_true rfl, Nat.le_of_ble_eq_true rfl⟩) ?_
          refine lv_if_eq (tgt := 59) hx hb dX5_come_52 (by decide) (fun c_52 => ?_) (fun c_52 => ?_)
          · have e_52 := bI_eq0 c_52
            refine lv_iconst (v := nI 0) hx hb dX5_come_59 (by decide) ?_
            refine lv_istore (lv' := [(7, .int (nI 0)), (6, .int (nI 1)), (0, .ref hm), (1, .int q), (2, .int t), (3, .int a), (4, .int b), (5, .int w)]) hx hb dX5_come_60 hl (by decide) rfl (fun ls hl => ?_)
            refine lv_aload_n hx hb dX5_come_62 rfl (lv_at hl 2 rfl) ?_
            refine lv_iload hx hb dX5_come_63 (lv_at hl 1 rfl) ?_
            refine lv_if_ne (tgt := 72) hx hb dX5_come_65 (by decide) (fun c_65 => ?_) (fun c_65 => ?_)
            · refine lv_iload hx hb dX5_come_72 (lv_at hl 0 rfl) ?_
              refine lv_if_eq (tgt := 81) hx hb dX5_come_74 (by decide) (fun c_74 => ?_) (fun c_74 => ?_)
              · refine lv_iconst (v := nI 2) hx hb dX5_come_81 (by decide) ?_
                refine zmci (va_runV (As := [.int (nI 2)]) (rest := []) ⟨hx, hb, hml, hown, hts⟩ (m_holds l D ca sa hm ad th td nt np nc M 2 (by decide) _) (cwV 1 hts gX5_come_X5_holds rfl rfl rfl (by decide +kernel) ⟨Nat.le_of_ble_eq_true rfl, Nat.le_of_ble_eq_true rfl⟩) (zmV hP hD hE (ci := 5) rfl (q0 := 0) rfl) rfl rfl hl.1 rfl (lv_room (Nat.le_of_ble_eq_true rfl)) dX5_come_82 ⟨Nat.le_of_ble_eq_true rfl, Nat.le_of_ble_eq_true rfl⟩) hD rfl hS hA (fun r9 H locs er hP hD hS => ?_)
                subst er
                refine zasi (show bI (decide (2 = 0)) = nI 0 from rfl) ?_
                refine lv_if_eq (tgt := 111) hx hb dX5_come_85 (by decide) (fun c_85 => ?_) (fun c_85 => ?_)
                · refine lv_iconst (v := nI 0) hx hb dX5_come_111 (by decide) ?_
                  exact zmrz hx hb hr hlocks dX5_come_112 (rfl) hP hS (trivial)
                · exact absurd c_85 (by decide)
              · exact absurd c_74 (by decide)
            · exact absurd c_65 (by decide)
          · have e_52 := bI_ne0 c_52
            refine lv_iconst (v := nI 1) hx hb dX5_come_55 (by decide) ?_
            refine lv_goto (tgt := 60) hx hb dX5_come_56 (by decide) ?_
            refine lv_istore (lv' := [(7, .int (nI 1)), (6, .int (nI 1)), (0, .ref hm), (1, .int q), (2, .int t), (3, .int a), (4, .int b), (5, .int w)]) hx hb dX5_come_60 hl (by decide) rfl (fun ls hl => ?_)
            refine lv_aload_n hx hb dX5_come_62 rfl (lv_at hl 2 rfl) ?_
            refine lv_iload hx hb dX5_come_63 (lv_at hl 1 rfl) ?_
            refine lv_if_ne (tgt := 72) hx hb dX5_come_65 (by decide) (fun c_65 => ?_) (fun c_65 => ?_)
            · refine lv_iload hx hb dX5_come_72 (lv_at hl 0 rfl) ?_
              refine lv_if_eq (tgt := 81) hx hb dX5_come_74 (by decide) (fun c_74 => ?_) (fun c_74 => ?_)
              · exact absurd c_74 (by decide)
              · refine lv_iconst (v := nI 0) hx hb dX5_come_77 (by decide) ?_
                refine lv_goto (tgt := 82) hx hb dX5_come_78 (by decide) ?_
                exact absurd hbad (by simp [e_5, e_13, e_30, e_41, e_52])
            · exact absurd c_65 (by decide)

set_option maxHeartbeats 4000000 in
set_option maxRecDepth 100000 in
theorem m_go (l : Launch) (D : va_G) (ca : Nat → ClassId) (sa : Nat → Nat) (hm : Nat) (ad : Nat → Nat) (th : Int32) (td nt np nc : Nat) (M : Nat → Nat → Int32) (q t : Nat) (hq : q < np) (ht : t < nt) (hnp : np ≤ 10) (hnt : nt ≤ 20) (hnc : nc ≤ 600) (hso : mSo M nc (21 * q + t) td = true) (sz : Nat) : Met l yX5_go wsX5_go ({ frames := 9, cells := 0, slots := 0, locals := 360 }) (va_Pc [.ref hm, .int (nI q), .int (nI t)] (zMp D (mW hm ad ca th td nt np nc M) ca sa sz)) (va_Qv (fun _ : Unit => True) (fun _ t9 => va_P D vwCl (mW hm ad ca (nI 0) td nt np (mNc M td nc (21 * q + t)) (mNM M td nc (21 * q + t) false (nI 0) (nI 0) (nI 0))) t9.heap) (va_A (mW hm ad ca th td nt np nc M) sz)) 0 0 (va_A (mW hm ad ca th td nt np nc M) sz) := by
  refine Met.ofW (cc := cX5_go) (maxL := 5) (ret := none) (by decide) rfl ?_
  intro p e s m args below meth c s₁ B hml hv
  obtain ⟨rfl, hsz, hP, hD0, hE⟩ := hv
  have hx := B.exec
  have hb := B.bytes
  have hr := B.returns
  have hts := atoms_spec (ws := wsX5_go) B.pre
  have hown : s.vm.findClass RX5 = some m.cls := findClass_of_methodNamed B.named
  have hlocks := B.notSynchronized
  have hl := lv_entry ([.ref hm, .int (nI q), .int (nI t)]) (n := 5) (Nat.le_of_ble_eq_true rfl)
  rw [lg_entry_eq]
  generalize (lg_sl ([.ref hm, .int (nI q), .int (nI t)]) ++ List.replicate (5 - (lg_sl ([.ref hm, .int (nI q), .int (nI t)])).length) Slot.unset).toArray = ls at hl ⊢
  have hl : lv_has ls 5 [(0, .ref hm), (1, .int (nI q)), (2, .int (nI t))] := hl
  subst hsz
  have hD := hD0.self (sz := s.heap.size)
  generalize hAe : va_A (mW hm ad ca th td nt np nc M) s.heap.size = A at hD ⊢
  have hA : ∀ q : Nat, s.heap.size ≤ q → A q := fun q h => by rw [← hAe]; exact Or.inr h
  have hS : va_S A s.heap s.heap [] := va_S.rf
  refine lv_aload_n hx hb dX5_go_0 rfl (lv_at hl 0 rfl) ?_
  refine lv_iload_n hx hb dX5_go_1 rfl (lv_at hl 1 rfl) ?_
  refine zci (va_runV (As := [.int (nI q)]) (rest := []) ⟨hx, hb, hml, hown, hts⟩ (m_isP l D ca sa hm ad th td nt np nc M ((nI q))) (cwV 1 hts gX5_go_X5_isPackage rfl rfl rfl (by decide +kernel) ⟨Nat.le_of_ble_eq_true rfl, Nat.le_of_ble_eq_true rfl⟩) (zpV hP hE (ci := 5) rfl (q0 := 0) rfl) rfl rfl hl.1 rfl (lv_room (Nat.le_of_ble_eq_true rfl)) dX5_go_2 ⟨Nat.le_of_ble_eq_true rfl, Nat.le_of_ble_eq_true rfl⟩) ?_
  refine zasi (show (bI (iT np ((nI q)))) = nI 1 from by rw [iT_t hq (by omega)]; rfl) ?_
  refine lv_if_eq (tgt := 20) hx hb dX5_go_5 (by decide) (fun c_5 => ?_) (fun c_5 => ?_)
  · exact absurd c_5 (by decide)
  · refine lv_aload_n hx hb dX5_go_8 rfl (lv_at hl 0 rfl) ?_
    refine lv_iload_n hx hb dX5_go_9 rfl (lv_at hl 2 rfl) ?_
    refine zci (va_runV (As := [.int (nI t)]) (rest := []) ⟨hx, hb, hml, hown, hts⟩ (m_isT l D ca sa hm ad th td nt np nc M ((nI t))) (cwV 1 hts gX5_go_X5_isTitle rfl rfl rfl (by decide +kernel) ⟨Nat.le_of_ble_eq_true rfl, Nat.le_of_ble_eq_true rfl⟩) (zpV hP hE (ci := 5) rfl (q0 := 0) rfl) rfl rfl hl.1 rfl (lv_room (Nat.le_of_ble_eq_true rfl)) dX5_go_10 ⟨Nat.le_of_ble_eq_true rfl, Nat.le_of_ble_eq_true rfl⟩) ?_
    refine zasi (show (bI (iT nt ((nI t)))) = nI 1 from by rw [iT_t ht (by omega)]; rfl) ?_
    refine lv_if_eq (tgt := 20) hx hb dX5_go_13 (by decide) (fun c_13 => ?_) (fun c_13 => ?_)
    · exact absurd c_13 (by decide)
    · refine lv_iconst (v := nI 1) hx hb dX5_go_16 (by decide) ?_
      refine lv_goto (tgt := 21) hx hb dX5_go_17 (by decide) ?_
      refine lv_istore_n (lv' := [(3, .int (nI 1)), (0, .ref hm), (1, .int (nI q)), (2, .int (nI t))]) hx hb dX5_go_21 rfl hl (by decide) rfl (fun ls hl => ?_)
      refine lv_aload_n hx hb dX5_go_22 rfl (lv_at hl 1 rfl) ?_
      refine lv_iload_n hx hb dX5_go_23 rfl (lv_at hl 0 rfl) ?_
      refine lv_if_ne (tgt := 31) hx hb dX5_go_24 (by decide) (fun c_24 => ?_) (fun c_24 => ?_)
      · refine lv_aload_n hx hb dX5_go_31 rfl (lv_at hl 1 rfl) ?_
        refine lv_bipush (v := nI 21) hx hb dX5_go_32 (by decide) ?_
        refine lv_iload_n hx hb dX5_go_34 rfl (lv_at hl 2 rfl) ?_
        refine lv_imul hx hb dX5_go_35 ?_
        refine zasi (show ((nI 21) * (nI q)) = nI (21 * q) from pk_mul _ _) ?_
        refine lv_iload_n hx hb dX5_go_36 rfl (lv_at hl 3 rfl) ?_
        refine lv_iadd hx hb dX5_go_37 ?_
        refine zasi (show ((nI (21 * q)) + (nI t)) = nI (21 * q + t) from nI_add _ _) ?_
        refine lv_aload_n hx hb dX5_go_38 rfl (lv_at hl 1 rfl) ?_
        refine zmget (own := RX5) (ci := 5) (C := RX5) (T := TX5) (N := 18) hx hb hts (by decide +kernel) hown hE hP 0 rfl rfl 1 (by decide) (hts (.fieldLink RX5 78 "LinkResolverModel" "today" "I") (by decide +kernel)) rfl dX5_go_39 ?_
        refine zci (va_runV (As := [.int (nI (21 * q + t)), .int (nI td)]) (rest := [.ref hm]) ⟨hx, hb, hml, hown, hts⟩ (m_isSo l D ca sa hm ad th td nt np nc M (21 * q + t) (td) hnc) (cwV 2 hts gX5_go_X5_isSo rfl rfl rfl (by decide +kernel) ⟨Nat.le_of_ble_eq_true rfl, Nat.le_of_ble_eq_true rfl⟩) (zpV hP hE (ci := 5) rfl (q0 := 0) rfl) rfl rfl hl.1 rfl (lv_room (Nat.le_of_ble_eq_true rfl)) dX5_go_42 ⟨Nat.le_of_ble_eq_true rfl, Nat.le_of_ble_eq_true rfl⟩) ?_
        refine zasi (show (bI (mSo M nc (21 * q + t) (td))) = nI 1 from by rw [hso]; rfl) ?_
        refine lv_if_eq (tgt := 52) hx hb dX5_go_45 (by decide) (fun c_45 => ?_) (fun c_45 => ?_)
        · exact absurd c_45 (by decide)
        · refine lv_iconst (v := nI 0) hx hb dX5_go_48 (by decide) ?_
          refine lv_goto (tgt := 53) hx hb dX5_go_49 (by decide) ?_
          refine zmci (va_runV (As := [.int (nI 0)]) (rest := []) ⟨hx, hb, hml, hown, hts⟩ (m_holds l D ca sa hm ad th td nt np nc M 0 (by decide) _) (cwV 1 hts gX5_go_X5_holds rfl rfl rfl (by decide +kernel) ⟨Nat.le_of_ble_eq_true rfl, Nat.le_of_ble_eq_true rfl⟩) (zmV hP hD hE (ci := 5) rfl (q0 := 0) rfl) rfl rfl hl.1 rfl (lv_room (Nat.le_of_ble_eq_true rfl)) dX5_go_53 ⟨Nat.le_of_ble_eq_true rfl, Nat.le_of_ble_eq_true rfl⟩) hD rfl hS hA (fun r9 H locs er hP hD hS => ?_)
          subst er
          refine zasi (show bI (decide (0 = 0)) = nI 1 from rfl) ?_
          refine lv_if_eq (tgt := 75) hx hb dX5_go_56 (by decide) (fun c_56 => ?_) (fun c_56 => ?_)
          · exact absurd c_56 (by decide)
          · refine lv_aload_n hx hb dX5_go_59 rfl (lv_at hl 1 rfl) ?_
            refine lv_bipush (v := nI 21) hx hb dX5_go_60 (by decide) ?_
            refine lv_iload_n hx hb dX5_go_62 rfl (lv_at hl 2 rfl) ?_
            refine lv_imul hx hb dX5_go_63 ?_
            refine zasi (show ((nI 21) * (nI q)) = nI (21 * q) from pk_mul _ _) ?_
            refine lv_iload_n hx hb dX5_go_64 rfl (lv_at hl 3 rfl) ?_
            refine lv_iadd hx hb dX5_go_65 ?_
            refine zasi (show ((nI (21 * q)) + (nI t)) = nI (21 * q + t) from nI_add _ _) ?_
            refine lv_iconst (v := nI 0) hx hb dX5_go_66 (by decide) ?_
            refine zasi (show (nI 0) = bI false from rfl) ?_
            refine lv_iconst (v := nI 0) hx hb dX5_go_67 (by decide) ?_
            refine lv_iconst (v := nI 0) hx hb dX5_go_68 (by decide) ?_
            refine lv_iconst (v := nI 0) hx hb dX5_go_69 (by decide) ?_
            refine zmci (va_runV (As := [.int (nI (21 * q + t)), .int (bI false), .int (nI 0), .int (nI 0), .int (nI 0)]) (rest := []) ⟨hx, hb, hml, hown, hts⟩ (m_notes l D ca sa hm ad (nI 0) td nt np nc M (21 * q + t) false (nI 0) (nI 0) (nI 0) hnc _) (cwV 5 hts gX5_go_X5_notes rfl rfl rfl (by decide +kernel) ⟨Nat.le_of_ble_eq_true rfl, Nat.le_of_ble_eq_true rfl⟩) (zmV hP hD hE (ci := 5) rfl (q0 := 0) rfl) rfl rfl hl.1 rfl (lv_room (Nat.le_of_ble_eq_true rfl)) dX5_go_70 ⟨Nat.le_of_ble_eq_true rfl, Nat.le_of_ble_eq_true rfl⟩) hD rfl hS hA (fun r9 H locs er hP hD hS => ?_)
            subst er
            refine lv_istore (lv' := [(4, .int (bI (mSo M nc (21 * q + t) td))), (3, .int (nI 1)), (0, .ref hm), (1, .int (nI q)), (2, .int (nI t))]) hx hb dX5_go_73 hl (by decide) rfl (fun ls hl => ?_)
            exact zmrv hx hb hr hlocks dX5_go_75 hP hS
      · exact absurd c_24 (by decide)

set_option maxHeartbeats 4000000 in
set_option maxRecDepth 100000 in
theorem m_go_1 (l : Launch) (D : va_G) (ca : Nat → ClassId) (sa : Nat → Nat) (hm : Nat) (ad : Nat → Nat) (th : Int32) (td nt np nc : Nat) (M : Nat → Nat → Int32) (q t : Int32) (hbad : (iT np q && iT nt t) = false) (sz : Nat) : Met l yX5_go wsX5_go ({ frames := 9, cells := 0, slots := 0, locals := 360 }) (va_Pc [.ref hm, .int q, .int t] (zMp D (mW hm ad ca th td nt np nc M) ca sa sz)) (va_Qv (fun _ : Unit => True) (fun _ t9 => va_P D vwCl (mW hm ad ca (nI 1) td nt np nc M) t9.heap) (va_A (mW hm ad ca th td nt np nc M) sz)) 0 0 (va_A (mW hm ad ca th td nt np nc M) sz) := by
  refine Met.ofW (cc := cX5_go) (maxL := 5) (ret := none) (by decide) rfl ?_
  intro p e s m args below meth c s₁ B hml hv
  obtain ⟨rfl, hsz, hP, hD0, hE⟩ := hv
  have hx := B.exec
  have hb := B.bytes
  have hr := B.returns
  have hts := atoms_spec (ws := wsX5_go) B.pre
  have hown : s.vm.findClass RX5 = some m.cls := findClass_of_methodNamed B.named
  have hlocks := B.notSynchronized
  have hl := lv_entry ([.ref hm, .int q, .int t]) (n := 5) (Nat.le_of_ble_eq_true rfl)
  rw [lg_entry_eq]
  generalize (lg_sl ([.ref hm, .int q, .int t]) ++ List.replicate (5 - (lg_sl ([.ref hm, .int q, .int t])).length) Slot.unset).toArray = ls at hl ⊢
  have hl : lv_has ls 5 [(0, .ref hm), (1, .int q), (2, .int t)] := hl
  subst hsz
  have hD := hD0.self (sz := s.heap.size)
  generalize hAe : va_A (mW hm ad ca th td nt np nc M) s.heap.size = A at hD ⊢
  have hA : ∀ q : Nat, s.heap.size ≤ q → A q := fun q h => by rw [← hAe]; exact Or.inr h
  have hS : va_S A s.heap s.heap [] := va_S.rf
  refine lv_aload_n hx hb dX5_go_0 rfl (lv_at hl 0 rfl) ?_
  refine lv_iload_n hx hb dX5_go_1 rfl (lv_at hl 1 rfl) ?_
  refine zci (va_runV (As := [.int q]) (rest := []) ⟨hx, hb, hml, hown, hts⟩ (m_isP l D ca sa hm ad th td nt np nc M (q)) (cwV 1 hts gX5_go_X5_isPackage rfl rfl rfl (by decide +kernel) ⟨Nat.le_of_ble_eq_true rfl, Nat.le_of_ble_eq_true rfl⟩) (zpV hP hE (ci := 5) rfl (q0 := 0) rfl) rfl rfl hl.1 rfl (lv_room (Nat.le_of_ble_eq_true rfl)) dX5_go_2 ⟨Nat.le_of_ble_eq_true rfl, Nat.le_of_ble_eq_true rfl⟩) ?_
  refine lv_if_eq (tgt := 20) hx hb dX5_go_5 (by decide) (fun c_5 => ?_) (fun c_5 => ?_)
  · have e_5 := bI_eq0 c_5
    refine lv_iconst (v := nI 0) hx hb dX5_go_20 (by decide) ?_
    refine lv_istore_n (lv' := [(3, .int (nI 0)), (0, .ref hm), (1, .int q), (2, .int t)]) hx hb dX5_go_21 rfl hl (by decide) rfl (fun ls hl => ?_)
    refine lv_aload_n hx hb dX5_go_22 rfl (lv_at hl 1 rfl) ?_
    refine lv_iload_n hx hb dX5_go_23 rfl (lv_at hl 0 rfl) ?_
    refine lv_if_ne (tgt := 31) hx hb dX5_go_24 (by decide) (fun c_24 => ?_) (fun c_24 => ?_)
    · exact absurd c_24 (by decide)
    · refine lv_iconst (v := nI 1) hx hb dX5_go_27 (by decide) ?_
      refine lv_goto (tgt := 53) hx hb dX5_go_28 (by decide) ?_
      refine zmci (va_runV (As := [.int (nI 1)]) (rest := []) ⟨hx, hb, hml, hown, hts⟩ (m_holds l D ca sa hm ad th td nt np nc M 1 (by decide) _) (cwV 1 hts gX5_go_X5_holds rfl rfl rfl (by decide +kernel) ⟨Nat.le_of_ble_eq_true rfl, Nat.le_of_ble_eq_true rfl⟩) (zmV hP hD hE (ci := 5) rfl (q0 := 0) rfl) rfl rfl hl.1 rfl (lv_room (Nat.le_of_ble_eq_true rfl)) dX5_go_53 ⟨Nat.le_of_ble_eq_true rfl, Nat.le_of_ble_eq_true rfl⟩) hD rfl hS hA (fun r9 H locs er hP hD hS => ?_)
      subst er
      refine zasi (show bI (decide (1 = 0)) = nI 0 from rfl) ?_
      refine lv_if_eq (tgt := 75) hx hb dX5_go_56 (by decide) (fun c_56 => ?_) (fun c_56 => ?_)
      · exact zmrv hx hb hr hlocks dX5_go_75 hP hS
      · exact absurd c_56 (by decide)
  · have e_5 := bI_ne0 c_5
    refine lv_aload_n hx hb dX5_go_8 rfl (lv_at hl 0 rfl) ?_
    refine lv_iload_n hx hb dX5_go_9 rfl (lv_at hl 2 rfl) ?_
    refine zci (va_runV (As := [.int t]) (rest := []) ⟨hx, hb, hml, hown, hts⟩ (m_isT l D ca sa hm ad th td nt np nc M (t)) (cwV 1 hts gX5_go_X5_isTitle rfl rfl rfl (by decide +kernel) ⟨Nat.le_of_ble_eq_true rfl, Nat.le_of_ble_eq_true rfl⟩) (zpV hP hE (ci := 5) rfl (q0 := 0) rfl) rfl rfl hl.1 rfl (lv_room (Nat.le_of_ble_eq_true rfl)) dX5_go_10 ⟨Nat.le_of_ble_eq_true rfl, Nat.le_of_ble_eq_true rfl⟩) ?_
    refine lv_if_eq (tgt := 20) hx hb dX5_go_13 (by decide) (fun c_13 => ?_) (fun c_13 => ?_)
    · have e_13 := bI_eq0 c_13
      refine lv_iconst (v := nI 0) hx hb dX5_go_20 (by decide) ?_
      refine lv_istore_n (lv' := [(3, .int (nI 0)), (0, .ref hm), (1, .int q), (2, .int t)]) hx hb dX5_go_21 rfl hl (by decide) rfl (fun ls hl => ?_)
      refine lv_aload_n hx hb dX5_go_22 rfl (lv_at hl 1 rfl) ?_
      refine lv_iload_n hx hb dX5_go_23 rfl (lv_at hl 0 rfl) ?_
      refine lv_if_ne (tgt := 31) hx hb dX5_go_24 (by decide) (fun c_24 => ?_) (fun c_24 => ?_)
      · exact absurd c_24 (by decide)
      · refine lv_iconst (v := nI 1) hx hb dX5_go_27 (by decide) ?_
        refine lv_goto (tgt := 53) hx hb dX5_go_28 (by decide) ?_
        refine zmci (va_runV (As := [.int (nI 1)]) (rest := []) ⟨hx, hb, hml, hown, hts⟩ (m_holds l D ca sa hm ad th td nt np nc M 1 (by decide) _) (cwV 1 hts gX5_go_X5_holds rfl rfl rfl (by decide +kernel) ⟨Nat.le_of_ble_eq_true rfl, Nat.le_of_ble_eq_true rfl⟩) (zmV hP hD hE (ci := 5) rfl (q0 := 0) rfl) rfl rfl hl.1 rfl (lv_room (Nat.le_of_ble_eq_true rfl)) dX5_go_53 ⟨Nat.le_of_ble_eq_true rfl, Nat.le_of_ble_eq_true rfl⟩) hD rfl hS hA (fun r9 H locs er hP hD hS => ?_)
        subst er
        refine zasi (show bI (decide (1 = 0)) = nI 0 from rfl) ?_
        refine lv_if_eq (tgt := 75) hx hb dX5_go_56 (by decide) (fun c_56 => ?_) (fun c_56 => ?_)
        · exact zmrv hx hb hr hlocks dX5_go_75 hP hS
        · exact absurd c_56 (by decide)
    · have e_13 := bI_ne0 c_13
      refine lv_iconst (v := nI 1) hx hb dX5_go_16 (by decide) ?_
      refine lv_goto (tgt := 21) hx hb dX5_go_17 (by decide) ?_
      refine lv_istore_n (lv' := [(3, .int (nI 1)), (0, .ref hm), (1, .int q), (2, .int t)]) hx hb dX5_go_21 rfl hl (by decide) rfl (fun ls hl => ?_)
      refine lv_aload_n hx hb dX5_go_22 rfl (lv_at hl 1 rfl) ?_
      refine lv_iload_n hx hb dX5_go_23 rfl (lv_at hl 0 rfl) ?_
      refine lv_if_ne (tgt := 31) hx hb dX5_go_24 (by decide) (fun c_24 => ?_) (fun c_24 => ?_)
      · exact absurd hbad (by simp [e_5, e_13])
      · exact absurd c_24 (by decide)

set_option maxHeartbeats 4000000 in
set_option maxRecDepth 100000 in
theorem m_go_2 (l : Launch) (D : va_G) (ca : Nat → ClassId) (sa : Nat → Nat) (hm : Nat) (ad : Nat → Nat) (th : Int32) (td nt np nc : Nat) (M : Nat → Nat → Int32) (q t : Nat) (hq : q < np) (ht : t < nt) (hnp : np ≤ 10) (hnt : nt ≤ 20) (hnc : nc ≤ 600) (hso : mSo M nc (21 * q + t) td = false) (sz : Nat) : Met l yX5_go wsX5_go ({ frames := 9, cells := 0, slots := 0, locals := 360 }) (va_Pc [.ref hm, .int (nI q), .int (nI t)] (zMp D (mW hm ad ca th td nt np nc M) ca sa sz)) (va_Qv (fun _ : Unit => True) (fun _ t9 => va_P D vwCl (mW hm ad ca (nI 2) td nt np nc M) t9.heap) (va_A (mW hm ad ca th td nt np nc M) sz)) 0 0 (va_A (mW hm ad ca th td nt np nc M) sz) := by
  refine Met.ofW (cc := cX5_go) (maxL := 5) (ret := none) (by decide) rfl ?_
  intro p e s m args below meth c s₁ B hml hv
  obtain ⟨rfl, hsz, hP, hD0, hE⟩ := hv
  have hx := B.exec
  have hb := B.bytes
  have hr := B.returns
  have hts := atoms_spec (ws := wsX5_go) B.pre
  have hown : s.vm.findClass RX5 = some m.cls := findClass_of_methodNamed B.named
  have hlocks := B.notSynchronized
  have hl := lv_entry ([.ref hm, .int (nI q), .int (nI t)]) (n := 5) (Nat.le_of_ble_eq_true rfl)
  rw [lg_entry_eq]
  generalize (lg_sl ([.ref hm, .int (nI q), .int (nI t)]) ++ List.replicate (5 - (lg_sl ([.ref hm, .int (nI q), .int (nI t)])).length) Slot.unset).toArray = ls at hl ⊢
  have hl : lv_has ls 5 [(0, .ref hm), (1, .int (nI q)), (2, .int (nI t))] := hl
  subst hsz
  have hD := hD0.self (sz := s.heap.size)
  generalize hAe : va_A (mW hm ad ca th td nt np nc M) s.heap.size = A at hD ⊢
  have hA : ∀ q : Nat, s.heap.size ≤ q → A q := fun q h => by rw [← hAe]; exact Or.inr h
  have hS : va_S A s.heap s.heap [] := va_S.rf
  refine lv_aload_n hx hb dX5_go_0 rfl (lv_at hl 0 rfl) ?_
  refine lv_iload_n hx hb dX5_go_1 rfl (lv_at hl 1 rfl) ?_
  refine zci (va_runV (As := [.int (nI q)]) (rest := []) ⟨hx, hb, hml, hown, hts⟩ (m_isP l D ca sa hm ad th td nt np nc M ((nI q))) (cwV 1 hts gX5_go_X5_isPackage rfl rfl rfl (by decide +kernel) ⟨Nat.le_of_ble_eq_true rfl, Nat.le_of_ble_eq_true rfl⟩) (zpV hP hE (ci := 5) rfl (q0 := 0) rfl) rfl rfl hl.1 rfl (lv_room (Nat.le_of_ble_eq_true rfl)) dX5_go_2 ⟨Nat.le_of_ble_eq_true rfl, Nat.le_of_ble_eq_true rfl⟩) ?_
  refine zasi (show (bI (iT np ((nI q)))) = nI 1 from by rw [iT_t hq (by omega)]; rfl) ?_
  refine lv_if_eq (tgt := 20) hx hb dX5_go_5 (by decide) (fun c_5 => ?_) (fun c_5 => ?_)
  · exact absurd c_5 (by decide)
  · refine lv_aload_n hx hb dX5_go_8 rfl (lv_at hl 0 rfl) ?_
    refine lv_iload_n hx hb dX5_go_9 rfl (lv_at hl 2 rfl) ?_
    refine zci (va_runV (As := [.int (nI t)]) (rest := []) ⟨hx, hb, hml, hown, hts⟩ (m_isT l D ca sa hm ad th td nt np nc M ((nI t))) (cwV 1 hts gX5_go_X5_isTitle rfl rfl rfl (by decide +kernel) ⟨Nat.le_of_ble_eq_true rfl, Nat.le_of_ble_eq_true rfl⟩) (zpV hP hE (ci := 5) rfl (q0 := 0) rfl) rfl rfl hl.1 rfl (lv_room (Nat.le_of_ble_eq_true rfl)) dX5_go_10 ⟨Nat.le_of_ble_eq_true rfl, Nat.le_of_ble_eq_true rfl⟩) ?_
    refine zasi (show (bI (iT nt ((nI t)))) = nI 1 from by rw [iT_t ht (by omega)]; rfl) ?_
    refine lv_if_eq (tgt := 20) hx hb dX5_go_13 (by decide) (fun c_13 => ?_) (fun c_13 => ?_)
    · exact absurd c_13 (by decide)
    · refine lv_iconst (v := nI 1) hx hb dX5_go_16 (by decide) ?_
      refine lv_goto (tgt := 21) hx hb dX5_go_17 (by decide) ?_
      refine lv_istore_n (lv' := [(3, .int (nI 1)), (0, .ref hm), (1, .int (nI q)), (2, .int (nI t))]) hx hb dX5_go_21 rfl hl (by decide) rfl (fun ls hl => ?_)
      refine lv_aload_n hx hb dX5_go_22 rfl (lv_at hl 1 rfl) ?_
      refine lv_iload_n hx hb dX5_go_23 rfl (lv_at hl 0 rfl) ?_
      refine lv_if_ne (tgt := 31) hx hb dX5_go_24 (by decide) (fun c_24 => ?_) (fun c_24 => ?_)
      · refine lv_aload_n hx hb dX5_go_31 rfl (lv_at hl 1 rfl) ?_
        refine lv_bipush (v := nI 21) hx hb dX5_go_32 (by decide) ?_
        refine lv_iload_n hx hb dX5_go_34 rfl (lv_at hl 2 rfl) ?_
        refine lv_imul hx hb dX5_go_35 ?_
        refine zasi (show ((nI 21) * (nI q)) = nI (21 * q) from pk_mul _ _) ?_
        refine lv_iload_n hx hb dX5_go_36 rfl (lv_at hl 3 rfl) ?_
        refine lv_iadd hx hb dX5_go_37 ?_
        refine zasi (show ((nI (21 * q)) + (nI t)) = nI (21 * q + t) from nI_add _ _) ?_
        refine lv_aload_n hx hb dX5_go_38 rfl (lv_at hl 1 rfl) ?_
        refine zmget (own := RX5) (ci := 5) (C := RX5) (T := TX5) (N := 18) hx hb hts (by decide +kernel) hown hE hP 0 rfl rfl 1 (by decide) (hts (.fieldLink RX5 78 "LinkResolverModel" "today" "I") (by decide +kernel)) rfl dX5_go_39 ?_
        refine zci (va_runV (As := [.int (nI (21 * q + t)), .int (nI td)]) (rest := [.ref hm]) ⟨hx, hb, hml, hown, hts⟩ (m_isSo l D ca sa hm ad th td nt np nc M (21 * q + t) (td) hnc) (cwV 2 hts gX5_go_X5_isSo rfl rfl rfl (by decide +kernel) ⟨Nat.le_of_ble_eq_true rfl, Nat.le_of_ble_eq_true rfl⟩) (zpV hP hE (ci := 5) rfl (q0 := 0) rfl) rfl rfl hl.1 rfl (lv_room (Nat.le_of_ble_eq_true rfl)) dX5_go_42 ⟨Nat.le_of_ble_eq_true rfl, Nat.le_of_ble_eq_true rfl⟩) ?_
        refine zasi (show (bI (mSo M nc (21 * q + t) (td))) = nI 0 from by rw [hso]; rfl) ?_
        refine lv_if_eq (tgt := 52) hx hb dX5_go_45 (by decide) (fun c_45 => ?_) (fun c_45 => ?_)
        · refine lv_iconst (v := nI 2) hx hb dX5_go_52 (by decide) ?_
          refine zmci (va_runV (As := [.int (nI 2)]) (rest := []) ⟨hx, hb, hml, hown, hts⟩ (m_holds l D ca sa hm ad th td nt np nc M 2 (by decide) _) (cwV 1 hts gX5_go_X5_holds rfl rfl rfl (by decide +kernel) ⟨Nat.le_of_ble_eq_true rfl, Nat.le_of_ble_eq_true rfl⟩) (zmV hP hD hE (ci := 5) rfl (q0 := 0) rfl) rfl rfl hl.1 rfl (lv_room (Nat.le_of_ble_eq_true rfl)) dX5_go_53 ⟨Nat.le_of_ble_eq_true rfl, Nat.le_of_ble_eq_true rfl⟩) hD rfl hS hA (fun r9 H locs er hP hD hS => ?_)
          subst er
          refine zasi (show bI (decide (2 = 0)) = nI 0 from rfl) ?_
          refine lv_if_eq (tgt := 75) hx hb dX5_go_56 (by decide) (fun c_56 => ?_) (fun c_56 => ?_)
          · exact zmrv hx hb hr hlocks dX5_go_75 hP hS
          · exact absurd c_56 (by decide)
        · exact absurd c_45 (by decide)
      · exact absurd c_24 (by decide)

set_option maxHeartbeats 4000000 in
set_option maxRecDepth 100000 in
theorem m_isSub (l : Launch) (D : va_G) (ca : Nat → ClassId) (sa : Nat → Nat) (hm : Nat) (ad : Nat → Nat) (th : Int32) (td nt np nc : Nat) (M : Nat → Nat → Int32) (q d : Nat) (hq : q < np) (hnp : np ≤ 10) (hnc : nc ≤ 600) (hd : d ≤ td) (htd : td ≤ 20000) (sz : Nat) : Met l yX5_isSubscribed wsX5_isSubscribed ({ frames := 9, cells := 0, slots := 0, locals := 360 }) (va_Pc [.ref hm, .int (nI q), .int (nI d)] (zMp D (mW hm ad ca th td nt np nc M) ca sa sz)) (va_Qi (fun (r : Int32) (_ : Unit) => r = bI (mSo M nc (21 * q + 20) d)) (fun _ t9 => va_P D vwCl (mW hm ad ca (nI 0) td nt np nc M) t9.heap) (va_A (mW hm ad ca th td nt np nc M) sz)) 0 0 (va_A (mW hm ad ca th td nt np nc M) sz) := by
  refine Met.ofW (cc := cX5_isSubscribed) (maxL := 3) (ret := (some .boolean)) (by decide) rfl ?_
  intro p e s m args below meth c s₁ B hml hv
  obtain ⟨rfl, hsz, hP, hD0, hE⟩ := hv
  have hx := B.exec
  have hb := B.bytes
  have hr := B.returns
  have hts := atoms_spec (ws := wsX5_isSubscribed) B.pre
  have hown : s.vm.findClass RX5 = some m.cls := findClass_of_methodNamed B.named
  have hlocks := B.notSynchronized
  have hl := lv_entry ([.ref hm, .int (nI q), .int (nI d)]) (n := 3) (Nat.le_of_ble_eq_true rfl)
  rw [lg_entry_eq]
  generalize (lg_sl ([.ref hm, .int (nI q), .int (nI d)]) ++ List.replicate (3 - (lg_sl ([.ref hm, .int (nI q), .int (nI d)])).length) Slot.unset).toArray = ls at hl ⊢
  have hl : lv_has ls 3 [(0, .ref hm), (1, .int (nI q)), (2, .int (nI d))] := hl
  subst hsz
  have hD := hD0.self (sz := s.heap.size)
  generalize hAe : va_A (mW hm ad ca th td nt np nc M) s.heap.size = A at hD ⊢
  have hA : ∀ q : Nat, s.heap.size ≤ q → A q := fun q h => by rw [← hAe]; exact Or.inr h
  have hS : va_S A s.heap s.heap [] := va_S.rf
  refine lv_aload_n hx hb dX5_isSubscribed_0 rfl (lv_at hl 0 rfl) ?_
  refine lv_aload_n hx hb dX5_isSubscribed_1 rfl (lv_at hl 0 rfl) ?_
  refine lv_iload_n hx hb dX5_isSubscribed_2 rfl (lv_at hl 1 rfl) ?_
  refine zci (va_runV (As := [.int (nI q)]) (rest := [.ref hm]) ⟨hx, hb, hml, hown, hts⟩ (m_isP l D ca sa hm ad th td nt np nc M ((nI q))) (cwV 1 hts gX5_isSubscribed_X5_isPackage rfl rfl rfl (by decide +kernel) ⟨Nat.le_of_ble_eq_true rfl, Nat.le_of_ble_eq_true rfl⟩) (zpV hP hE (ci := 5) rfl (q0 := 0) rfl) rfl rfl hl.1 rfl (lv_room (Nat.le_of_ble_eq_true rfl)) dX5_isSubscribed_3 ⟨Nat.le_of_ble_eq_true rfl, Nat.le_of_ble_eq_true rfl⟩) ?_
  refine zasi (show (bI (iT np ((nI q)))) = nI 1 from by rw [iT_t hq (by omega)]; rfl) ?_
  refine lv_if_ne (tgt := 13) hx hb dX5_isSubscribed_6 (by decide) (fun c_6 => ?_) (fun c_6 => ?_)
  · refine lv_iload_n hx hb dX5_isSubscribed_13 rfl (lv_at hl 2 rfl) ?_
    refine lv_iconst (v := nI 0) hx hb dX5_isSubscribed_14 (by decide) ?_
    refine lv_aload_n hx hb dX5_isSubscribed_15 rfl (lv_at hl 0 rfl) ?_
    refine zmget (own := RX5) (ci := 5) (C := RX5) (T := TX5) (N := 18) hx hb hts (by decide +kernel) hown hE hP 0 rfl rfl 1 (by decide) (hts (.fieldLink RX5 78 "LinkResolverModel" "today" "I") (by decide +kernel)) rfl dX5_isSubscribed_16 ?_
    refine zci (va_runS (As := [.int (nI d), .int (nI 0), .int (nI td)]) (rest := [.ref hm]) ⟨hx, hb, hml, hown, hts⟩ (m_isB l D ca sa _ _ _ _) (va_cwS 3 hts gX5_isSubscribed_X5_isBetween rfl rfl rfl (by decide +kernel) ⟨Nat.le_of_ble_eq_true rfl, Nat.le_of_ble_eq_true rfl⟩) (zpS hP hE) rfl rfl hl.1 rfl (lv_room (Nat.le_of_ble_eq_true rfl)) dX5_isSubscribed_19 ⟨Nat.le_of_ble_eq_true rfl, Nat.le_of_ble_eq_true rfl⟩) ?_
    refine zasi (show (bI (iB ((nI d)) ((nI 0)) ((nI td)))) = nI 1 from by rw [iB_t (Nat.zero_le _) hd (by omega)]; rfl) ?_
    refine lv_if_eq (tgt := 29) hx hb dX5_isSubscribed_22 (by decide) (fun c_22 => ?_) (fun c_22 => ?_)
    · exact absurd c_22 (by decide)
    · refine lv_iconst (v := nI 0) hx hb dX5_isSubscribed_25 (by decide) ?_
      refine lv_goto (tgt := 30) hx hb dX5_isSubscribed_26 (by decide) ?_
      refine zmci (va_runV (As := [.int (nI 0)]) (rest := []) ⟨hx, hb, hml, hown, hts⟩ (m_holds l D ca sa hm ad th td nt np nc M 0 (by decide) _) (cwV 1 hts gX5_isSubscribed_X5_holds rfl rfl rfl (by decide +kernel) ⟨Nat.le_of_ble_eq_true rfl, Nat.le_of_ble_eq_true rfl⟩) (zmV hP hD hE (ci := 5) rfl (q0 := 0) rfl) rfl rfl hl.1 rfl (lv_room (Nat.le_of_ble_eq_true rfl)) dX5_isSubscribed_30 ⟨Nat.le_of_ble_eq_true rfl, Nat.le_of_ble_eq_true rfl⟩) hD rfl hS hA (fun r9 H locs er hP hD hS => ?_)
      subst er
      refine zasi (show bI (decide (0 = 0)) = nI 1 from rfl) ?_
      refine lv_if_eq (tgt := 52) hx hb dX5_isSubscribed_33 (by decide) (fun c_33 => ?_) (fun c_33 => ?_)
      · exact absurd c_33 (by decide)
      · refine lv_aload_n hx hb dX5_isSubscribed_36 rfl (lv_at hl 0 rfl) ?_
        refine lv_iload_n hx hb dX5_isSubscribed_37 rfl (lv_at hl 1 rfl) ?_
        refine zci (va_runS (As := [.int (nI q)]) (rest := [.ref hm]) ⟨hx, hb, hml, hown, hts⟩ (m_sub l D ca sa _ q) (va_cwS 1 hts gX5_isSubscribed_X5_subscription rfl rfl rfl (by decide +kernel) ⟨Nat.le_of_ble_eq_true rfl, Nat.le_of_ble_eq_true rfl⟩) (zpS hP hE) rfl rfl hl.1 rfl (lv_room (Nat.le_of_ble_eq_true rfl)) dX5_isSubscribed_38 ⟨Nat.le_of_ble_eq_true rfl, Nat.le_of_ble_eq_true rfl⟩) ?_
        refine lv_iload_n hx hb dX5_isSubscribed_41 rfl (lv_at hl 2 rfl) ?_
        refine zci (va_runV (As := [.int (nI (21 * q + 20)), .int (nI d)]) (rest := []) ⟨hx, hb, hml, hown, hts⟩ (m_isSo l D ca sa hm ad (nI 0) td nt np nc M (21 * q + 20) (d) hnc) (cwV 2 hts gX5_isSubscribed_X5_isSo rfl rfl rfl (by decide +kernel) ⟨Nat.le_of_ble_eq_true rfl, Nat.le_of_ble_eq_true rfl⟩) (zpV hP hE (ci := 5) rfl (q0 := 0) rfl) rfl rfl hl.1 rfl (lv_room (Nat.le_of_ble_eq_true rfl)) dX5_isSubscribed_42 ⟨Nat.le_of_ble_eq_true rfl, Nat.le_of_ble_eq_true rfl⟩) ?_
        refine lv_if_eq (tgt := 52) hx hb dX5_isSubscribed_45 (by decide) (fun c_45 => ?_) (fun c_45 => ?_)
        · have e_45 := bI_eq0 c_45
          refine lv_iconst (v := nI 0) hx hb dX5_isSubscribed_52 (by decide) ?_
          exact zmrz hx hb hr hlocks dX5_isSubscribed_53 (rfl) hP hS (bI_not0 c_45)
        · have e_45 := bI_ne0 c_45
          refine lv_iconst (v := nI 1) hx hb dX5_isSubscribed_48 (by decide) ?_
          refine lv_goto (tgt := 53) hx hb dX5_isSubscribed_49 (by decide) ?_
          exact zmrz hx hb hr hlocks dX5_isSubscribed_53 (rfl) hP hS (bI_not1 c_45)
  · exact absurd c_6 (by decide)

set_option maxHeartbeats 4000000 in
set_option maxRecDepth 100000 in
theorem m_isSub_1 (l : Launch) (D : va_G) (ca : Nat → ClassId) (sa : Nat → Nat) (hm : Nat) (ad : Nat → Nat) (th : Int32) (td nt np nc : Nat) (M : Nat → Nat → Int32) (q d : Int32) (hbad : iT np q = false) (sz : Nat) : Met l yX5_isSubscribed wsX5_isSubscribed ({ frames := 9, cells := 0, slots := 0, locals := 360 }) (va_Pc [.ref hm, .int q, .int d] (zMp D (mW hm ad ca th td nt np nc M) ca sa sz)) (va_Qi (fun (r : Int32) (_ : Unit) => True) (fun _ t9 => va_P D vwCl (mW hm ad ca (nI 1) td nt np nc M) t9.heap) (va_A (mW hm ad ca th td nt np nc M) sz)) 0 0 (va_A (mW hm ad ca th td nt np nc M) sz) := by
  refine Met.ofW (cc := cX5_isSubscribed) (maxL := 3) (ret := (some .boolean)) (by decide) rfl ?_
  intro p e s m args below meth c s₁ B hml hv
  obtain ⟨rfl, hsz, hP, hD0, hE⟩ := hv
  have hx := B.exec
  have hb := B.bytes
  have hr := B.returns
  have hts := atoms_spec (ws := wsX5_isSubscribed) B.pre
  have hown : s.vm.findClass RX5 = some m.cls := findClass_of_methodNamed B.named
  have hlocks := B.notSynchronized
  have hl := lv_entry ([.ref hm, .int q, .int d]) (n := 3) (Nat.le_of_ble_eq_true rfl)
  rw [lg_entry_eq]
  generalize (lg_sl ([.ref hm, .int q, .int d]) ++ List.replicate (3 - (lg_sl ([.ref hm, .int q, .int d])).length) Slot.unset).toArray = ls at hl ⊢
  have hl : lv_has ls 3 [(0, .ref hm), (1, .int q), (2, .int d)] := hl
  subst hsz
  have hD := hD0.self (sz := s.heap.size)
  generalize hAe : va_A (mW hm ad ca th td nt np nc M) s.heap.size = A at hD ⊢
  have hA : ∀ q : Nat, s.heap.size ≤ q → A q := fun q h => by rw [← hAe]; exact Or.inr h
  have hS : va_S A s.heap s.heap [] := va_S.rf
  refine lv_aload_n hx hb dX5_isSubscribed_0 rfl (lv_at hl 0 rfl) ?_
  refine lv_aload_n hx hb dX5_isSubscribed_1 rfl (lv_at hl 0 rfl) ?_
  refine lv_iload_n hx hb dX5_isSubscribed_2 rfl (lv_at hl 1 rfl) ?_
  refine zci (va_runV (As := [.int q]) (rest := [.ref hm]) ⟨hx, hb, hml, hown, hts⟩ (m_isP l D ca sa hm ad th td nt np nc M (q)) (cwV 1 hts gX5_isSubscribed_X5_isPackage rfl rfl rfl (by decide +kernel) ⟨Nat.le_of_ble_eq_true rfl, Nat.le_of_ble_eq_true rfl⟩) (zpV hP hE (ci := 5) rfl (q0 := 0) rfl) rfl rfl hl.1 rfl (lv_room (Nat.le_of_ble_eq_true rfl)) dX5_isSubscribed_3 ⟨Nat.le_of_ble_eq_true rfl, Nat.le_of_ble_eq_true rfl⟩) ?_
  refine zasi (show (bI (iT np (q))) = nI 0 from by rw [hbad]; rfl) ?_
  refine lv_if_ne (tgt := 13) hx hb dX5_isSubscribed_6 (by decide) (fun c_6 => ?_) (fun c_6 => ?_)
  · exact absurd c_6 (by decide)
  · refine lv_iconst (v := nI 1) hx hb dX5_isSubscribed_9 (by decide) ?_
    refine lv_goto (tgt := 30) hx hb dX5_isSubscribed_10 (by decide) ?_
    refine zmci (va_runV (As := [.int (nI 1)]) (rest := []) ⟨hx, hb, hml, hown, hts⟩ (m_holds l D ca sa hm ad th td nt np nc M 1 (by decide) _) (cwV 1 hts gX5_isSubscribed_X5_holds rfl rfl rfl (by decide +kernel) ⟨Nat.le_of_ble_eq_true rfl, Nat.le_of_ble_eq_true rfl⟩) (zmV hP hD hE (ci := 5) rfl (q0 := 0) rfl) rfl rfl hl.1 rfl (lv_room (Nat.le_of_ble_eq_true rfl)) dX5_isSubscribed_30 ⟨Nat.le_of_ble_eq_true rfl, Nat.le_of_ble_eq_true rfl⟩) hD rfl hS hA (fun r9 H locs er hP hD hS => ?_)
    subst er
    refine zasi (show bI (decide (1 = 0)) = nI 0 from rfl) ?_
    refine lv_if_eq (tgt := 52) hx hb dX5_isSubscribed_33 (by decide) (fun c_33 => ?_) (fun c_33 => ?_)
    · refine lv_iconst (v := nI 0) hx hb dX5_isSubscribed_52 (by decide) ?_
      exact zmrz hx hb hr hlocks dX5_isSubscribed_53 (rfl) hP hS (trivial)
    · exact absurd c_33 (by decide)

set_option maxHeartbeats 4000000 in
set_option maxRecDepth 100000 in
theorem m_isSub_2 (l : Launch) (D : va_G) (ca : Nat → ClassId) (sa : Nat → Nat) (hm : Nat) (ad : Nat → Nat) (th : Int32) (td nt np nc : Nat) (M : Nat → Nat → Int32) (q d : Int32) (hok : iT np q = true) (hbad : iB d (nI 0) (nI td) = false) (sz : Nat) : Met l yX5_isSubscribed wsX5_isSubscribed ({ frames := 9, cells := 0, slots := 0, locals := 360 }) (va_Pc [.ref hm, .int q, .int d] (zMp D (mW hm ad ca th td nt np nc M) ca sa sz)) (va_Qi (fun (r : Int32) (_ : Unit) => True) (fun _ t9 => va_P D vwCl (mW hm ad ca (nI 2) td nt np nc M) t9.heap) (va_A (mW hm ad ca th td nt np nc M) sz)) 0 0 (va_A (mW hm ad ca th td nt np nc M) sz) := by
  refine Met.ofW (cc := cX5_isSubscribed) (maxL := 3) (ret := (some .boolean)) (by decide) rfl ?_
  intro p e s m args below meth c s₁ B hml hv
  obtain ⟨rfl, hsz, hP, hD0, hE⟩ := hv
  have hx := B.exec
  have hb := B.bytes
  have hr := B.returns
  have hts := atoms_spec (ws := wsX5_isSubscribed) B.pre
  have hown : s.vm.findClass RX5 = some m.cls := findClass_of_methodNamed B.named
  have hlocks := B.notSynchronized
  have hl := lv_entry ([.ref hm, .int q, .int d]) (n := 3) (Nat.le_of_ble_eq_true rfl)
  rw [lg_entry_eq]
  generalize (lg_sl ([.ref hm, .int q, .int d]) ++ List.replicate (3 - (lg_sl ([.ref hm, .int q, .int d])).length) Slot.unset).toArray = ls at hl ⊢
  have hl : lv_has ls 3 [(0, .ref hm), (1, .int q), (2, .int d)] := hl
  subst hsz
  have hD := hD0.self (sz := s.heap.size)
  generalize hAe : va_A (mW hm ad ca th td nt np nc M) s.heap.size = A at hD ⊢
  have hA : ∀ q : Nat, s.heap.size ≤ q → A q := fun q h => by rw [← hAe]; exact Or.inr h
  have hS : va_S A s.heap s.heap [] := va_S.rf
  refine lv_aload_n hx hb dX5_isSubscribed_0 rfl (lv_at hl 0 rfl) ?_
  refine lv_aload_n hx hb dX5_isSubscribed_1 rfl (lv_at hl 0 rfl) ?_
  refine lv_iload_n hx hb dX5_isSubscribed_2 rfl (lv_at hl 1 rfl) ?_
  refine zci (va_runV (As := [.int q]) (rest := [.ref hm]) ⟨hx, hb, hml, hown, hts⟩ (m_isP l D ca sa hm ad th td nt np nc M (q)) (cwV 1 hts gX5_isSubscribed_X5_isPackage rfl rfl rfl (by decide +kernel) ⟨Nat.le_of_ble_eq_true rfl, Nat.le_of_ble_eq_true rfl⟩) (zpV hP hE (ci := 5) rfl (q0 := 0) rfl) rfl rfl hl.1 rfl (lv_room (Nat.le_of_ble_eq_true rfl)) dX5_isSubscribed_3 ⟨Nat.le_of_ble_eq_true rfl, Nat.le_of_ble_eq_true rfl⟩) ?_
  refine zasi (show (bI (iT np (q))) = nI 1 from by rw [hok]; rfl) ?_
  refine lv_if_ne (tgt := 13) hx hb dX5_isSubscribed_6 (by decide) (fun c_6 => ?_) (fun c_6 => ?_)
  · refine lv_iload_n hx hb dX5_isSubscribed_13 rfl (lv_at hl 2 rfl) ?_
    refine lv_iconst (v := nI 0) hx hb dX5_isSubscribed_14 (by decide) ?_
    refine lv_aload_n hx hb dX5_isSubscribed_15 rfl (lv_at hl 0 rfl) ?_
    refine zmget (own := RX5) (ci := 5) (C := RX5) (T := TX5) (N := 18) hx hb hts (by decide +kernel) hown hE hP 0 rfl rfl 1 (by decide) (hts (.fieldLink RX5 78 "LinkResolverModel" "today" "I") (by decide +kernel)) rfl dX5_isSubscribed_16 ?_
    refine zci (va_runS (As := [.int d, .int (nI 0), .int (nI td)]) (rest := [.ref hm]) ⟨hx, hb, hml, hown, hts⟩ (m_isB l D ca sa _ _ _ _) (va_cwS 3 hts gX5_isSubscribed_X5_isBetween rfl rfl rfl (by decide +kernel) ⟨Nat.le_of_ble_eq_true rfl, Nat.le_of_ble_eq_true rfl⟩) (zpS hP hE) rfl rfl hl.1 rfl (lv_room (Nat.le_of_ble_eq_true rfl)) dX5_isSubscribed_19 ⟨Nat.le_of_ble_eq_true rfl, Nat.le_of_ble_eq_true rfl⟩) ?_
    refine zasi (show (bI (iB (d) ((nI 0)) ((nI td)))) = nI 0 from by rw [hbad]; rfl) ?_
    refine lv_if_eq (tgt := 29) hx hb dX5_isSubscribed_22 (by decide) (fun c_22 => ?_) (fun c_22 => ?_)
    · refine lv_iconst (v := nI 2) hx hb dX5_isSubscribed_29 (by decide) ?_
      refine zmci (va_runV (As := [.int (nI 2)]) (rest := []) ⟨hx, hb, hml, hown, hts⟩ (m_holds l D ca sa hm ad th td nt np nc M 2 (by decide) _) (cwV 1 hts gX5_isSubscribed_X5_holds rfl rfl rfl (by decide +kernel) ⟨Nat.le_of_ble_eq_true rfl, Nat.le_of_ble_eq_true rfl⟩) (zmV hP hD hE (ci := 5) rfl (q0 := 0) rfl) rfl rfl hl.1 rfl (lv_room (Nat.le_of_ble_eq_true rfl)) dX5_isSubscribed_30 ⟨Nat.le_of_ble_eq_true rfl, Nat.le_of_ble_eq_true rfl⟩) hD rfl hS hA (fun r9 H locs er hP hD hS => ?_)
      subst er
      refine zasi (show bI (decide (2 = 0)) = nI 0 from rfl) ?_
      refine lv_if_eq (tgt := 52) hx hb dX5_isSubscribed_33 (by decide) (fun c_33 => ?_) (fun c_33 => ?_)
      · refine lv_iconst (v := nI 0) hx hb dX5_isSubscribed_52 (by decide) ?_
        exact zmrz hx hb hr hlocks dX5_isSubscribed_53 (rfl) hP hS (trivial)
      · exact absurd c_33 (by decide)
    · exact absurd c_22 (by decide)
  · exact absurd c_6 (by decide)

set_option maxHeartbeats 4000000 in
set_option maxRecDepth 100000 in
theorem m_isIn (l : Launch) (D : va_G) (ca : Nat → ClassId) (sa : Nat → Nat) (hm : Nat) (ad : Nat → Nat) (th : Int32) (td nt np nc : Nat) (M : Nat → Nat → Int32) (q t d : Nat) (hq : q < np) (ht : t < nt) (hnp : np ≤ 10) (hnt : nt ≤ 20) (hnc : nc ≤ 600) (hd : d ≤ td) (htd : td ≤ 20000) (sz : Nat) : Met l yX5_isIn wsX5_isIn ({ frames := 9, cells := 0, slots := 0, locals := 360 }) (va_Pc [.ref hm, .int (nI q), .int (nI t), .int (nI d)] (zMp D (mW hm ad ca th td nt np nc M) ca sa sz)) (va_Qi (fun (r : Int32) (_ : Unit) => r = bI (mSo M nc (21 * q + t) d)) (fun _ t9 => va_P D vwCl (mW hm ad ca (nI 0) td nt np nc M) t9.heap) (va_A (mW hm ad ca th td nt np nc M) sz)) 0 0 (va_A (mW hm ad ca th td nt np nc M) sz) := by
  refine Met.ofW (cc := cX5_isIn) (maxL := 4) (ret := (some .boolean)) (by decide) rfl ?_
  intro p e s m args below meth c s₁ B hml hv
  obtain ⟨rfl, hsz, hP, hD0, hE⟩ := hv
  have hx := B.exec
  have hb := B.bytes
  have hr := B.returns
  have hts := atoms_spec (ws := wsX5_isIn) B.pre
  have hown : s.vm.findClass RX5 = some m.cls := findClass_of_methodNamed B.named
  have hlocks := B.notSynchronized
  have hl := lv_entry ([.ref hm, .int (nI q), .int (nI t), .int (nI d)]) (n := 4) (Nat.le_of_ble_eq_true rfl)
  rw [lg_entry_eq]
  generalize (lg_sl ([.ref hm, .int (nI q), .int (nI t), .int (nI d)]) ++ List.replicate (4 - (lg_sl ([.ref hm, .int (nI q), .int (nI t), .int (nI d)])).length) Slot.unset).toArray = ls at hl ⊢
  have hl : lv_has ls 4 [(0, .ref hm), (1, .int (nI q)), (2, .int (nI t)), (3, .int (nI d))] := hl
  subst hsz
  have hD := hD0.self (sz := s.heap.size)
  generalize hAe : va_A (mW hm ad ca th td nt np nc M) s.heap.size = A at hD ⊢
  have hA : ∀ q : Nat, s.heap.size ≤ q → A q := fun q h => by rw [← hAe]; exact Or.inr h
  have hS : va_S A s.heap s.heap [] := va_S.rf
  refine lv_aload_n hx hb dX5_isIn_0 rfl (lv_at hl 0 rfl) ?_
  refine lv_aload_n hx hb dX5_isIn_1 rfl (lv_at hl 0 rfl) ?_
  refine lv_iload_n hx hb dX5_isIn_2 rfl (lv_at hl 1 rfl) ?_
  refine zci (va_runV (As := [.int (nI q)]) (rest := [.ref hm]) ⟨hx, hb, hml, hown, hts⟩ (m_isP l D ca sa hm ad th td nt np nc M ((nI q))) (cwV 1 hts gX5_isIn_X5_isPackage rfl rfl rfl (by decide +kernel) ⟨Nat.le_of_ble_eq_true rfl, Nat.le_of_ble_eq_true rfl⟩) (zpV hP hE (ci := 5) rfl (q0 := 0) rfl) rfl rfl hl.1 rfl (lv_room (Nat.le_of_ble_eq_true rfl)) dX5_isIn_3 ⟨Nat.le_of_ble_eq_true rfl, Nat.le_of_ble_eq_true rfl⟩) ?_
  refine zasi (show (bI (iT np ((nI q)))) = nI 1 from by rw [iT_t hq (by omega)]; rfl) ?_
  refine lv_if_eq (tgt := 17) hx hb dX5_isIn_6 (by decide) (fun c_6 => ?_) (fun c_6 => ?_)
  · exact absurd c_6 (by decide)
  · refine lv_aload_n hx hb dX5_isIn_9 rfl (lv_at hl 0 rfl) ?_
    refine lv_iload_n hx hb dX5_isIn_10 rfl (lv_at hl 2 rfl) ?_
    refine zci (va_runV (As := [.int (nI t)]) (rest := [.ref hm]) ⟨hx, hb, hml, hown, hts⟩ (m_isT l D ca sa hm ad th td nt np nc M ((nI t))) (cwV 1 hts gX5_isIn_X5_isTitle rfl rfl rfl (by decide +kernel) ⟨Nat.le_of_ble_eq_true rfl, Nat.le_of_ble_eq_true rfl⟩) (zpV hP hE (ci := 5) rfl (q0 := 0) rfl) rfl rfl hl.1 rfl (lv_room (Nat.le_of_ble_eq_true rfl)) dX5_isIn_11 ⟨Nat.le_of_ble_eq_true rfl, Nat.le_of_ble_eq_true rfl⟩) ?_
    refine zasi (show (bI (iT nt ((nI t)))) = nI 1 from by rw [iT_t ht (by omega)]; rfl) ?_
    refine lv_if_ne (tgt := 21) hx hb dX5_isIn_14 (by decide) (fun c_14 => ?_) (fun c_14 => ?_)
    · refine lv_iload_n hx hb dX5_isIn_21 rfl (lv_at hl 3 rfl) ?_
      refine lv_iconst (v := nI 0) hx hb dX5_isIn_22 (by decide) ?_
      refine lv_aload_n hx hb dX5_isIn_23 rfl (lv_at hl 0 rfl) ?_
      refine zmget (own := RX5) (ci := 5) (C := RX5) (T := TX5) (N := 18) hx hb hts (by decide +kernel) hown hE hP 0 rfl rfl 1 (by decide) (hts (.fieldLink RX5 78 "LinkResolverModel" "today" "I") (by decide +kernel)) rfl dX5_isIn_24 ?_
      refine zci (va_runS (As := [.int (nI d), .int (nI 0), .int (nI td)]) (rest := [.ref hm]) ⟨hx, hb, hml, hown, hts⟩ (m_isB l D ca sa _ _ _ _) (va_cwS 3 hts gX5_isIn_X5_isBetween rfl rfl rfl (by decide +kernel) ⟨Nat.le_of_ble_eq_true rfl, Nat.le_of_ble_eq_true rfl⟩) (zpS hP hE) rfl rfl hl.1 rfl (lv_room (Nat.le_of_ble_eq_true rfl)) dX5_isIn_27 ⟨Nat.le_of_ble_eq_true rfl, Nat.le_of_ble_eq_true rfl⟩) ?_
      refine zasi (show (bI (iB ((nI d)) ((nI 0)) ((nI td)))) = nI 1 from by rw [iB_t (Nat.zero_le _) hd (by omega)]; rfl) ?_
      refine lv_if_eq (tgt := 37) hx hb dX5_isIn_30 (by decide) (fun c_30 => ?_) (fun c_30 => ?_)
      · exact absurd c_30 (by decide)
      · refine lv_iconst (v := nI 0) hx hb dX5_isIn_33 (by decide) ?_
        refine lv_goto (tgt := 38) hx hb dX5_isIn_34 (by decide) ?_
        refine zmci (va_runV (As := [.int (nI 0)]) (rest := []) ⟨hx, hb, hml, hown, hts⟩ (m_holds l D ca sa hm ad th td nt np nc M 0 (by decide) _) (cwV 1 hts gX5_isIn_X5_holds rfl rfl rfl (by decide +kernel) ⟨Nat.le_of_ble_eq_true rfl, Nat.le_of_ble_eq_true rfl⟩) (zmV hP hD hE (ci := 5) rfl (q0 := 0) rfl) rfl rfl hl.1 rfl (lv_room (Nat.le_of_ble_eq_true rfl)) dX5_isIn_38 ⟨Nat.le_of_ble_eq_true rfl, Nat.le_of_ble_eq_true rfl⟩) hD rfl hS hA (fun r9 H locs er hP hD hS => ?_)
        subst er
        refine zasi (show bI (decide (0 = 0)) = nI 1 from rfl) ?_
        refine lv_if_eq (tgt := 62) hx hb dX5_isIn_41 (by decide) (fun c_41 => ?_) (fun c_41 => ?_)
        · exact absurd c_41 (by decide)
        · refine lv_aload_n hx hb dX5_isIn_44 rfl (lv_at hl 0 rfl) ?_
          refine lv_bipush (v := nI 21) hx hb dX5_isIn_45 (by decide) ?_
          refine lv_iload_n hx hb dX5_isIn_47 rfl (lv_at hl 1 rfl) ?_
          refine lv_imul hx hb dX5_isIn_48 ?_
          refine zasi (show ((nI 21) * (nI q)) = nI (21 * q) from pk_mul _ _) ?_
          refine lv_iload_n hx hb dX5_isIn_49 rfl (lv_at hl 2 rfl) ?_
          refine lv_iadd hx hb dX5_isIn_50 ?_
          refine zasi (show ((nI (21 * q)) + (nI t)) = nI (21 * q + t) from nI_add _ _) ?_
          refine lv_iload_n hx hb dX5_isIn_51 rfl (lv_at hl 3 rfl) ?_
          refine zci (va_runV (As := [.int (nI (21 * q + t)), .int (nI d)]) (rest := []) ⟨hx, hb, hml, hown, hts⟩ (m_isSo l D ca sa hm ad (nI 0) td nt np nc M (21 * q + t) (d) hnc) (cwV 2 hts gX5_isIn_X5_isSo rfl rfl rfl (by decide +kernel) ⟨Nat.le_of_ble_eq_true rfl, Nat.le_of_ble_eq_true rfl⟩) (zpV hP hE (ci := 5) rfl (q0 := 0) rfl) rfl rfl hl.1 rfl (lv_room (Nat.le_of_ble_eq_true rfl)) dX5_isIn_52 ⟨Nat.le_of_ble_eq_true rfl, Nat.le_of_ble_eq_true rfl⟩) ?_
          refine lv_if_eq (tgt := 62) hx hb dX5_isIn_55 (by decide) (fun c_55 => ?_) (fun c_55 => ?_)
          · have e_55 := bI_eq0 c_55
            refine lv_iconst (v := nI 0) hx hb dX5_isIn_62 (by decide) ?_
            exact zmrz hx hb hr hlocks dX5_isIn_63 (rfl) hP hS (bI_not0 c_55)
          · have e_55 := bI_ne0 c_55
            refine lv_iconst (v := nI 1) hx hb dX5_isIn_58 (by decide) ?_
            refine lv_goto (tgt := 63) hx hb dX5_isIn_59 (by decide) ?_
            exact zmrz hx hb hr hlocks dX5_isIn_63 (rfl) hP hS (bI_not1 c_55)
    · exact absurd c_14 (by decide)

set_option maxHeartbeats 4000000 in
set_option maxRecDepth 100000 in
theorem m_isIn_1 (l : Launch) (D : va_G) (ca : Nat → ClassId) (sa : Nat → Nat) (hm : Nat) (ad : Nat → Nat) (th : Int32) (td nt np nc : Nat) (M : Nat → Nat → Int32) (q t d : Int32) (hbad : (iT np q && iT nt t) = false) (sz : Nat) : Met l yX5_isIn wsX5_isIn ({ frames := 9, cells := 0, slots := 0, locals := 360 }) (va_Pc [.ref hm, .int q, .int t, .int d] (zMp D (mW hm ad ca th td nt np nc M) ca sa sz)) (va_Qi (fun (r : Int32) (_ : Unit) => True) (fun _ t9 => va_P D vwCl (mW hm ad ca (nI 1) td nt np nc M) t9.heap) (va_A (mW hm ad ca th td nt np nc M) sz)) 0 0 (va_A (mW hm ad ca th td nt np nc M) sz) := by
  refine Met.ofW (cc := cX5_isIn) (maxL := 4) (ret := (some .boolean)) (by decide) rfl ?_
  intro p e s m args below meth c s₁ B hml hv
  obtain ⟨rfl, hsz, hP, hD0, hE⟩ := hv
  have hx := B.exec
  have hb := B.bytes
  have hr := B.returns
  have hts := atoms_spec (ws := wsX5_isIn) B.pre
  have hown : s.vm.findClass RX5 = some m.cls := findClass_of_methodNamed B.named
  have hlocks := B.notSynchronized
  have hl := lv_entry ([.ref hm, .int q, .int t, .int d]) (n := 4) (Nat.le_of_ble_eq_true rfl)
  rw [lg_entry_eq]
  generalize (lg_sl ([.ref hm, .int q, .int t, .int d]) ++ List.replicate (4 - (lg_sl ([.ref hm, .int q, .int t, .int d])).length) Slot.unset).toArray = ls at hl ⊢
  have hl : lv_has ls 4 [(0, .ref hm), (1, .int q), (2, .int t), (3, .int d)] := hl
  subst hsz
  have hD := hD0.self (sz := s.heap.size)
  generalize hAe : va_A (mW hm ad ca th td nt np nc M) s.heap.size = A at hD ⊢
  have hA : ∀ q : Nat, s.heap.size ≤ q → A q := fun q h => by rw [← hAe]; exact Or.inr h
  have hS : va_S A s.heap s.heap [] := va_S.rf
  refine lv_aload_n hx hb dX5_isIn_0 rfl (lv_at hl 0 rfl) ?_
  refine lv_aload_n hx hb dX5_isIn_1 rfl (lv_at hl 0 rfl) ?_
  refine lv_iload_n hx hb dX5_isIn_2 rfl (lv_at hl 1 rfl) ?_
  refine zci (va_runV (As := [.int q]) (rest := [.ref hm]) ⟨hx, hb, hml, hown, hts⟩ (m_isP l D ca sa hm ad th td nt np nc M (q)) (cwV 1 hts gX5_isIn_X5_isPackage rfl rfl rfl (by decide +kernel) ⟨Nat.le_of_ble_eq_true rfl, Nat.le_of_ble_eq_true rfl⟩) (zpV hP hE (ci := 5) rfl (q0 := 0) rfl) rfl rfl hl.1 rfl (lv_room (Nat.le_of_ble_eq_true rfl)) dX5_isIn_3 ⟨Nat.le_of_ble_eq_true rfl, Nat.le_of_ble_eq_true rfl⟩) ?_
  refine lv_if_eq (tgt := 17) hx hb dX5_isIn_6 (by decide) (fun c_6 => ?_) (fun c_6 => ?_)
  · have e_6 := bI_eq0 c_6
    refine lv_iconst (v := nI 1) hx hb dX5_isIn_17 (by decide) ?_
    refine lv_goto (tgt := 38) hx hb dX5_isIn_18 (by decide) ?_
    refine zmci (va_runV (As := [.int (nI 1)]) (rest := []) ⟨hx, hb, hml, hown, hts⟩ (m_holds l D ca sa hm ad th td nt np nc M 1 (by decide) _) (cwV 1 hts gX5_isIn_X5_holds rfl rfl rfl (by decide +kernel) ⟨Nat.le_of_ble_eq_true rfl, Nat.le_of_ble_eq_true rfl⟩) (zmV hP hD hE (ci := 5) rfl (q0 := 0) rfl) rfl rfl hl.1 rfl (lv_room (Nat.le_of_ble_eq_true rfl)) dX5_isIn_38 ⟨Nat.le_of_ble_eq_true rfl, Nat.le_of_ble_eq_true rfl⟩) hD rfl hS hA (fun r9 H locs er hP hD hS => ?_)
    subst er
    refine zasi (show bI (decide (1 = 0)) = nI 0 from rfl) ?_
    refine lv_if_eq (tgt := 62) hx hb dX5_isIn_41 (by decide) (fun c_41 => ?_) (fun c_41 => ?_)
    · refine lv_iconst (v := nI 0) hx hb dX5_isIn_62 (by decide) ?_
      exact zmrz hx hb hr hlocks dX5_isIn_63 (rfl) hP hS (trivial)
    · exact absurd c_41 (by decide)
  · have e_6 := bI_ne0 c_6
    refine lv_aload_n hx hb dX5_isIn_9 rfl (lv_at hl 0 rfl) ?_
    refine lv_iload_n hx hb dX5_isIn_10 rfl (lv_at hl 2 rfl) ?_
    refine zci (va_runV (As := [.int t]) (rest := [.ref hm]) ⟨hx, hb, hml, hown, hts⟩ (m_isT l D ca sa hm ad th td nt np nc M (t)) (cwV 1 hts gX5_isIn_X5_isTitle rfl rfl rfl (by decide +kernel) ⟨Nat.le_of_ble_eq_true rfl, Nat.le_of_ble_eq_true rfl⟩) (zpV hP hE (ci := 5) rfl (q0 := 0) rfl) rfl rfl hl.1 rfl (lv_room (Nat.le_of_ble_eq_true rfl)) dX5_isIn_11 ⟨Nat.le_of_ble_eq_true rfl, Nat.le_of_ble_eq_true rfl⟩) ?_
    refine lv_if_ne (tgt := 21) hx hb dX5_isIn_14 (by decide) (fun c_14 => ?_) (fun c_14 => ?_)
    · have e_14 := bI_ne0 c_14
      exact absurd hbad (by simp [e_6, e_14])
    · have e_14 := bI_eq0 c_14
      refine lv_iconst (v := nI 1) hx hb dX5_isIn_17 (by decide) ?_
      refine lv_goto (tgt := 38) hx hb dX5_isIn_18 (by decide) ?_
      refine zmci (va_runV (As := [.int (nI 1)]) (rest := []) ⟨hx, hb, hml, hown, hts⟩ (m_holds l D ca sa hm ad th td nt np nc M 1 (by decide) _) (cwV 1 hts gX5_isIn_X5_holds rfl rfl rfl (by decide +kernel) ⟨Nat.le_of_ble_eq_true rfl, Nat.le_of_ble_eq_true rfl⟩) (zmV hP hD hE (ci := 5) rfl (q0 := 0) rfl) rfl rfl hl.1 rfl (lv_room (Nat.le_of_ble_eq_true rfl)) dX5_isIn_38 ⟨Nat.le_of_ble_eq_true rfl, Nat.le_of_ble_eq_true rfl⟩) hD rfl hS hA (fun r9 H locs er hP hD hS => ?_)
      subst er
      refine zasi (show bI (decide (1 = 0)) = nI 0 from rfl) ?_
      refine lv_if_eq (tgt := 62) hx hb dX5_isIn_41 (by decide) (fun c_41 => ?_) (fun c_41 => ?_)
      · refine lv_iconst (v := nI 0) hx hb dX5_isIn_62 (by decide) ?_
        exact zmrz hx hb hr hlocks dX5_isIn_63 (rfl) hP hS (trivial)
      · exact absurd c_41 (by decide)

set_option maxHeartbeats 4000000 in
set_option maxRecDepth 100000 in
theorem m_isIn_2 (l : Launch) (D : va_G) (ca : Nat → ClassId) (sa : Nat → Nat) (hm : Nat) (ad : Nat → Nat) (th : Int32) (td nt np nc : Nat) (M : Nat → Nat → Int32) (q t d : Int32) (hok : (iT np q && iT nt t) = true) (hbad : iB d (nI 0) (nI td) = false) (sz : Nat) : Met l yX5_isIn wsX5_isIn ({ frames := 9, cells := 0, slots := 0, locals := 360 }) (va_Pc [.ref hm, .int q, .int t, .int d] (zMp D (mW hm ad ca th td nt np nc M) ca sa sz)) (va_Qi (fun (r : Int32) (_ : Unit) => True) (fun _ t9 => va_P D vwCl (mW hm ad ca (nI 2) td nt np nc M) t9.heap) (va_A (mW hm ad ca th td nt np nc M) sz)) 0 0 (va_A (mW hm ad ca th td nt np nc M) sz) := by
  refine Met.ofW (cc := cX5_isIn) (maxL := 4) (ret := (some .boolean)) (by decide) rfl ?_
  intro p e s m args below meth c s₁ B hml hv
  obtain ⟨rfl, hsz, hP, hD0, hE⟩ := hv
  have hx := B.exec
  have hb := B.bytes
  have hr := B.returns
  have hts := atoms_spec (ws := wsX5_isIn) B.pre
  have hown : s.vm.findClass RX5 = some m.cls := findClass_of_methodNamed B.named
  have hlocks := B.notSynchronized
  have hl := lv_entry ([.ref hm, .int q, .int t, .int d]) (n := 4) (Nat.le_of_ble_eq_true rfl)
  rw [lg_entry_eq]
  generalize (lg_sl ([.ref hm, .int q, .int t, .int d]) ++ List.replicate (4 - (lg_sl ([.ref hm, .int q, .int t, .int d])).length) Slot.unset).toArray = ls at hl ⊢
  have hl : lv_has ls 4 [(0, .ref hm), (1, .int q), (2, .int t), (3, .int d)] := hl
  subst hsz
  have hD := hD0.self (sz := s.heap.size)
  generalize hAe : va_A (mW hm ad ca th td nt np nc M) s.heap.size = A at hD ⊢
  have hA : ∀ q : Nat, s.heap.size ≤ q → A q := fun q h => by rw [← hAe]; exact Or.inr h
  have hS : va_S A s.heap s.heap [] := va_S.rf
  refine lv_aload_n hx hb dX5_isIn_0 rfl (lv_at hl 0 rfl) ?_
  refine lv_aload_n hx hb dX5_isIn_1 rfl (lv_at hl 0 rfl) ?_
  refine lv_iload_n hx hb dX5_isIn_2 rfl (lv_at hl 1 rfl) ?_
  refine zci (va_runV (As := [.int q]) (rest := [.ref hm]) ⟨hx, hb, hml, hown, hts⟩ (m_isP l D ca sa hm ad th td nt np nc M (q)) (cwV 1 hts gX5_isIn_X5_isPackage rfl rfl rfl (by decide +kernel) ⟨Nat.le_of_ble_eq_true rfl, Nat.le_of_ble_eq_true rfl⟩) (zpV hP hE (ci := 5) rfl (q0 := 0) rfl) rfl rfl hl.1 rfl (lv_room (Nat.le_of_ble_eq_true rfl)) dX5_isIn_3 ⟨Nat.le_of_ble_eq_true rfl, Nat.le_of_ble_eq_true rfl⟩) ?_
  refine lv_if_eq (tgt := 17) hx hb dX5_isIn_6 (by decide) (fun c_6 => ?_) (fun c_6 => ?_)
  · have e_6 := bI_eq0 c_6
    refine lv_iconst (v := nI 1) hx hb dX5_isIn_17 (by decide) ?_
    refine lv_goto (tgt := 38) hx hb dX5_isIn_18 (by decide) ?_
    exact absurd hok (by simp [e_6])
  · have e_6 := bI_ne0 c_6
    refine lv_aload_n hx hb dX5_isIn_9 rfl (lv_at hl 0 rfl) ?_
    refine lv_iload_n hx hb dX5_isIn_10 rfl (lv_at hl 2 rfl) ?_
    refine zci (va_runV (As := [.int t]) (rest := [.ref hm]) ⟨hx, hb, hml, hown, hts⟩ (m_isT l D ca sa hm ad th td nt np nc M (t)) (cwV 1 hts gX5_isIn_X5_isTitle rfl rfl rfl (by decide +kernel) ⟨Nat.le_of_ble_eq_true rfl, Nat.le_of_ble_eq_true rfl⟩) (zpV hP hE (ci := 5) rfl (q0 := 0) rfl) rfl rfl hl.1 rfl (lv_room (Nat.le_of_ble_eq_true rfl)) dX5_isIn_11 ⟨Nat.le_of_ble_eq_true rfl, Nat.le_of_ble_eq_true rfl⟩) ?_
    refine lv_if_ne (tgt := 21) hx hb dX5_isIn_14 (by decide) (fun c_14 => ?_) (fun c_14 => ?_)
    · have e_14 := bI_ne0 c_14
      refine lv_iload_n hx hb dX5_isIn_21 rfl (lv_at hl 3 rfl) ?_
      refine lv_iconst (v := nI 0) hx hb dX5_isIn_22 (by decide) ?_
      refine lv_aload_n hx hb dX5_isIn_23 rfl (lv_at hl 0 rfl) ?_
      refine zmget (own := RX5) (ci := 5) (C := RX5) (T := TX5) (N := 18) hx hb hts (by decide +kernel) hown hE hP 0 rfl rfl 1 (by decide) (hts (.fieldLink RX5 78 "LinkResolverModel" "today" "I") (by decide +kernel)) rfl dX5_isIn_24 ?_
      refine zci (va_runS (As := [.int d, .int (nI 0), .int (nI td)]) (rest := [.ref hm]) ⟨hx, hb, hml, hown, hts⟩ (m_isB l D ca sa _ _ _ _) (va_cwS 3 hts gX5_isIn_X5_isBetween rfl rfl rfl (by decide +kernel) ⟨Nat.le_of_ble_eq_true rfl, Nat.le_of_ble_eq_true rfl⟩) (zpS hP hE) rfl rfl hl.1 rfl (lv_room (Nat.le_of_ble_eq_true rfl)) dX5_isIn_27 ⟨Nat.le_of_ble_eq_true rfl, Nat.le_of_ble_eq_true rfl⟩) ?_
      refine zasi (show (bI (iB (d) ((nI 0)) ((nI td)))) = nI 0 from by rw [hbad]; rfl) ?_
      refine lv_if_eq (tgt := 37) hx hb dX5_isIn_30 (by decide) (fun c_30 => ?_) (fun c_30 => ?_)
      · refine lv_iconst (v := nI 2) hx hb dX5_isIn_37 (by decide) ?_
        refine zmci (va_runV (As := [.int (nI 2)]) (rest := []) ⟨hx, hb, hml, hown, hts⟩ (m_holds l D ca sa hm ad th td nt np nc M 2 (by decide) _) (cwV 1 hts gX5_isIn_X5_holds rfl rfl rfl (by decide +kernel) ⟨Nat.le_of_ble_eq_true rfl, Nat.le_of_ble_eq_true rfl⟩) (zmV hP hD hE (ci := 5) rfl (q0 := 0) rfl) rfl rfl hl.1 rfl (lv_room (Nat.le_of_ble_eq_true rfl)) dX5_isIn_38 ⟨Nat.le_of_ble_eq_true rfl, Nat.le_of_ble_eq_true rfl⟩) hD rfl hS hA (fun r9 H locs er hP hD hS => ?_)
        subst er
        refine zasi (show bI (decide (2 = 0)) = nI 0 from rfl) ?_
        refine lv_if_eq (tgt := 62) hx hb dX5_isIn_41 (by decide) (fun c_41 => ?_) (fun c_41 => ?_)
        · refine lv_iconst (v := nI 0) hx hb dX5_isIn_62 (by decide) ?_
          exact zmrz hx hb hr hlocks dX5_isIn_63 (rfl) hP hS (trivial)
        · exact absurd c_41 (by decide)
      · exact absurd c_30 (by decide)
    · have e_14 := bI_eq0 c_14
      refine lv_iconst (v := nI 1) hx hb dX5_isIn_17 (by decide) ?_
      refine lv_goto (tgt := 38) hx hb dX5_isIn_18 (by decide) ?_
      exact absurd hok (by simp [e_6, e_14])

set_option maxHeartbeats 4000000 in
set_option maxRecDepth 100000 in
theorem m_report (l : Launch) (D : va_G) (ca : Nat → ClassId) (sa : Nat → Nat) (hm : Nat) (ad : Nat → Nat) (th : Int32) (td nt np nc : Nat) (M : Nat → Nat → Int32) (q t : Nat) (hq : q < np) (ht : t < nt) (hnp : np ≤ 10) (hnt : nt ≤ 20) (b : Nat) (hbk : M 6 (20 * q + t) = nI b) (sz : Nat) : Met l yX5_report wsX5_report ({ frames := 9, cells := 0, slots := 0, locals := 360 }) (va_Pc [.ref hm, .int (nI q), .int (nI t)] (zMp D (mW hm ad ca th td nt np nc M) ca sa sz)) (va_Qi (fun (r : Int32) (_ : Unit) => r = nI (b + 1)) (fun _ t9 => va_P D vwCl (mW hm ad ca (nI 0) td nt np nc (mP M 6 (20 * q + t) (nI (b + 1)))) t9.heap) (va_A (mW hm ad ca th td nt np nc M) sz)) 0 0 (va_A (mW hm ad ca th td nt np nc M) sz) := by
  refine Met.ofW (cc := cX5_report) (maxL := 3) (ret := (some .int)) (by decide) rfl ?_
  intro p e s m args below meth c s₁ B hml hv
  obtain ⟨rfl, hsz, hP, hD0, hE⟩ := hv
  have hx := B.exec
  have hb := B.bytes
  have hr := B.returns
  have hts := atoms_spec (ws := wsX5_report) B.pre
  have hown : s.vm.findClass RX5 = some m.cls := findClass_of_methodNamed B.named
  have hlocks := B.notSynchronized
  have hl := lv_entry ([.ref hm, .int (nI q), .int (nI t)]) (n := 3) (Nat.le_of_ble_eq_true rfl)
  rw [lg_entry_eq]
  generalize (lg_sl ([.ref hm, .int (nI q), .int (nI t)]) ++ List.replicate (3 - (lg_sl ([.ref hm, .int (nI q), .int (nI t)])).length) Slot.unset).toArray = ls at hl ⊢
  have hl : lv_has ls 3 [(0, .ref hm), (1, .int (nI q)), (2, .int (nI t))] := hl
  subst hsz
  have hD := hD0.self (sz := s.heap.size)
  generalize hAe : va_A (mW hm ad ca th td nt np nc M) s.heap.size = A at hD ⊢
  have hA : ∀ q : Nat, s.heap.size ≤ q → A q := fun q h => by rw [← hAe]; exact Or.inr h
  have hS : va_S A s.heap s.heap [] := va_S.rf
  refine lv_aload_n hx hb dX5_report_0 rfl (lv_at hl 0 rfl) ?_
  refine lv_aload_n hx hb dX5_report_1 rfl (lv_at hl 0 rfl) ?_
  refine lv_iload_n hx hb dX5_report_2 rfl (lv_at hl 1 rfl) ?_
  refine zci (va_runV (As := [.int (nI q)]) (rest := [.ref hm]) ⟨hx, hb, hml, hown, hts⟩ (m_isP l D ca sa hm ad th td nt np nc M ((nI q))) (cwV 1 hts gX5_report_X5_isPackage rfl rfl rfl (by decide +kernel) ⟨Nat.le_of_ble_eq_true rfl, Nat.le_of_ble_eq_true rfl⟩) (zpV hP hE (ci := 5) rfl (q0 := 0) rfl) rfl rfl hl.1 rfl (lv_room (Nat.le_of_ble_eq_true rfl)) dX5_report_3 ⟨Nat.le_of_ble_eq_true rfl, Nat.le_of_ble_eq_true rfl⟩) ?_
  refine zasi (show (bI (iT np ((nI q)))) = nI 1 from by rw [iT_t hq (by omega)]; rfl) ?_
  refine lv_if_eq (tgt := 21) hx hb dX5_report_6 (by decide) (fun c_6 => ?_) (fun c_6 => ?_)
  · exact absurd c_6 (by decide)
  · refine lv_aload_n hx hb dX5_report_9 rfl (lv_at hl 0 rfl) ?_
    refine lv_iload_n hx hb dX5_report_10 rfl (lv_at hl 2 rfl) ?_
    refine zci (va_runV (As := [.int (nI t)]) (rest := [.ref hm]) ⟨hx, hb, hml, hown, hts⟩ (m_isT l D ca sa hm ad th td nt np nc M ((nI t))) (cwV 1 hts gX5_report_X5_isTitle rfl rfl rfl (by decide +kernel) ⟨Nat.le_of_ble_eq_true rfl, Nat.le_of_ble_eq_true rfl⟩) (zpV hP hE (ci := 5) rfl (q0 := 0) rfl) rfl rfl hl.1 rfl (lv_room (Nat.le_of_ble_eq_true rfl)) dX5_report_11 ⟨Nat.le_of_ble_eq_true rfl, Nat.le_of_ble_eq_true rfl⟩) ?_
    refine zasi (show (bI (iT nt ((nI t)))) = nI 1 from by rw [iT_t ht (by omega)]; rfl) ?_
    refine lv_if_eq (tgt := 21) hx hb dX5_report_14 (by decide) (fun c_14 => ?_) (fun c_14 => ?_)
    · exact absurd c_14 (by decide)
    · refine lv_iconst (v := nI 0) hx hb dX5_report_17 (by decide) ?_
      refine lv_goto (tgt := 22) hx hb dX5_report_18 (by decide) ?_
      refine zmci (va_runV (As := [.int (nI 0)]) (rest := []) ⟨hx, hb, hml, hown, hts⟩ (m_holds l D ca sa hm ad th td nt np nc M 0 (by decide) _) (cwV 1 hts gX5_report_X5_holds rfl rfl rfl (by decide +kernel) ⟨Nat.le_of_ble_eq_true rfl, Nat.le_of_ble_eq_true rfl⟩) (zmV hP hD hE (ci := 5) rfl (q0 := 0) rfl) rfl rfl hl.1 rfl (lv_room (Nat.le_of_ble_eq_true rfl)) dX5_report_22 ⟨Nat.le_of_ble_eq_true rfl, Nat.le_of_ble_eq_true rfl⟩) hD rfl hS hA (fun r9 H locs er hP hD hS => ?_)
      subst er
      refine zasi (show bI (decide (0 = 0)) = nI 1 from rfl) ?_
      refine lv_if_ne (tgt := 30) hx hb dX5_report_25 (by decide) (fun c_25 => ?_) (fun c_25 => ?_)
      · refine lv_aload_n hx hb dX5_report_30 rfl (lv_at hl 0 rfl) ?_
        refine zmget (own := RX5) (ci := 5) (C := RX5) (T := TX5) (N := 18) hx hb hts (by decide +kernel) hown hE hP 0 rfl rfl 10 (by decide) (hts (.fieldLink RX5 29 "LinkResolverModel" "breaks" "[I") (by decide +kernel)) rfl dX5_report_31 ?_
        refine lv_bipush (v := nI 20) hx hb dX5_report_34 (by decide) ?_
        refine lv_iload_n hx hb dX5_report_36 rfl (lv_at hl 1 rfl) ?_
        refine lv_imul hx hb dX5_report_37 ?_
        refine zasi (show ((nI 20) * (nI q)) = nI (20 * q) from pk_mul _ _) ?_
        refine lv_iload_n hx hb dX5_report_38 rfl (lv_at hl 2 rfl) ?_
        refine lv_iadd hx hb dX5_report_39 ?_
        refine zasi (show ((nI (20 * q)) + (nI t)) = nI (20 * q + t) from nI_add _ _) ?_
        refine lv_dup2_11 hx hb dX5_report_40 rfl rfl ?_
        refine zmi hx hb hE hP 7 rfl (i := (20 * q + t)) (show _ < _ from by omega) (by decide) dX5_report_41 ?_
        refine zasi (show (M 6 (20 * q + t)) = nI b from hbk) ?_
        refine lv_iconst (v := nI 1) hx hb dX5_report_42 (by decide) ?_
        refine lv_iadd hx hb dX5_report_43 ?_
        refine zasi (show ((nI b) + (nI 1)) = nI (b + 1) from nI_1 _) ?_
        refine zmist hx hb hE hP hD hS 7 rfl (i := (20 * q + t)) (show _ < _ from by omega) (by decide) dX5_report_44 (fun H locs hP hD hS => ?_)
        have hP : va_P D vwCl (mW hm ad ca (nI 0) td nt np nc (mP M 6 (20 * q + t) (nI (b + 1)))) H := hP
        have hD : va_D A (mW hm ad ca (nI 0) td nt np nc (mP M 6 (20 * q + t) (nI (b + 1)))) := hD
        refine lv_aload_n hx hb dX5_report_45 rfl (lv_at hl 0 rfl) ?_
        refine zmget (own := RX5) (ci := 5) (C := RX5) (T := TX5) (N := 18) hx hb hts (by decide +kernel) hown hE hP 0 rfl rfl 10 (by decide) (hts (.fieldLink RX5 29 "LinkResolverModel" "breaks" "[I") (by decide +kernel)) rfl dX5_report_46 ?_
        refine lv_bipush (v := nI 20) hx hb dX5_report_49 (by decide) ?_
        refine lv_iload_n hx hb dX5_report_51 rfl (lv_at hl 1 rfl) ?_
        refine lv_imul hx hb dX5_report_52 ?_
        refine zasi (show ((nI 20) * (nI q)) = nI (20 * q) from pk_mul _ _) ?_
        refine lv_iload_n hx hb dX5_report_53 rfl (lv_at hl 2 rfl) ?_
        refine lv_iadd hx hb dX5_report_54 ?_
        refine zasi (show ((nI (20 * q)) + (nI t)) = nI (20 * q + t) from nI_add _ _) ?_
        refine zmi hx hb hE hP 7 rfl (i := (20 * q + t)) (show _ < _ from by omega) (by decide) dX5_report_55 ?_
        refine zasi (show ((mP M 6 (20 * q + t) (nI (b + 1))) 6 (20 * q + t)) = nI (b + 1) from mP_s _ _ _ _) ?_
        exact zmri hx hb hr hlocks dX5_report_56 hP hS (rfl)
      · exact absurd c_25 (by decide)

set_option maxHeartbeats 4000000 in
set_option maxRecDepth 100000 in
theorem m_report_1 (l : Launch) (D : va_G) (ca : Nat → ClassId) (sa : Nat → Nat) (hm : Nat) (ad : Nat → Nat) (th : Int32) (td nt np nc : Nat) (M : Nat → Nat → Int32) (q t : Int32) (hbad : (iT np q && iT nt t) = false) (sz : Nat) : Met l yX5_report wsX5_report ({ frames := 9, cells := 0, slots := 0, locals := 360 }) (va_Pc [.ref hm, .int q, .int t] (zMp D (mW hm ad ca th td nt np nc M) ca sa sz)) (va_Qi (fun (r : Int32) (_ : Unit) => True) (fun _ t9 => va_P D vwCl (mW hm ad ca (nI 1) td nt np nc M) t9.heap) (va_A (mW hm ad ca th td nt np nc M) sz)) 0 0 (va_A (mW hm ad ca th td nt np nc M) sz) := by
  refine Met.ofW (cc := cX5_report) (maxL := 3) (ret := (some .int)) (by decide) rfl ?_
  intro p e s m args below meth c s₁ B hml hv
  obtain ⟨rfl, hsz, hP, hD0, hE⟩ := hv
  have hx := B.exec
  have hb := B.bytes
  have hr := B.returns
  have hts := atoms_spec (ws := wsX5_report) B.pre
  have hown : s.vm.findClass RX5 = some m.cls := findClass_of_methodNamed B.named
  have hlocks := B.notSynchronized
  have hl := lv_entry ([.ref hm, .int q, .int t]) (n := 3) (Nat.le_of_ble_eq_true rfl)
  rw [lg_entry_eq]
  generalize (lg_sl ([.ref hm, .int q, .int t]) ++ List.replicate (3 - (lg_sl ([.ref hm, .int q, .int t])).length) Slot.unset).toArray = ls at hl ⊢
  have hl : lv_has ls 3 [(0, .ref hm), (1, .int q), (2, .int t)] := hl
  subst hsz
  have hD := hD0.self (sz := s.heap.size)
  generalize hAe : va_A (mW hm ad ca th td nt np nc M) s.heap.size = A at hD ⊢
  have hA : ∀ q : Nat, s.heap.size ≤ q → A q := fun q h => by rw [← hAe]; exact Or.inr h
  have hS : va_S A s.heap s.heap [] := va_S.rf
  refine lv_aload_n hx hb dX5_report_0 rfl (lv_at hl 0 rfl) ?_
  refine lv_aload_n hx hb dX5_report_1 rfl (lv_at hl 0 rfl) ?_
  refine lv_iload_n hx hb dX5_report_2 rfl (lv_at hl 1 rfl) ?_
  refine zci (va_runV (As := [.int q]) (rest := [.ref hm]) ⟨hx, hb, hml, hown, hts⟩ (m_isP l D ca sa hm ad th td nt np nc M (q)) (cwV 1 hts gX5_report_X5_isPackage rfl rfl rfl (by decide +kernel) ⟨Nat.le_of_ble_eq_true rfl, Nat.le_of_ble_eq_true rfl⟩) (zpV hP hE (ci := 5) rfl (q0 := 0) rfl) rfl rfl hl.1 rfl (lv_room (Nat.le_of_ble_eq_true rfl)) dX5_report_3 ⟨Nat.le_of_ble_eq_true rfl, Nat.le_of_ble_eq_true rfl⟩) ?_
  refine lv_if_eq (tgt := 21) hx hb dX5_report_6 (by decide) (fun c_6 => ?_) (fun c_6 => ?_)
  · have e_6 := bI_eq0 c_6
    refine lv_iconst (v := nI 1) hx hb dX5_report_21 (by decide) ?_
    refine zmci (va_runV (As := [.int (nI 1)]) (rest := []) ⟨hx, hb, hml, hown, hts⟩ (m_holds l D ca sa hm ad th td nt np nc M 1 (by decide) _) (cwV 1 hts gX5_report_X5_holds rfl rfl rfl (by decide +kernel) ⟨Nat.le_of_ble_eq_true rfl, Nat.le_of_ble_eq_true rfl⟩) (zmV hP hD hE (ci := 5) rfl (q0 := 0) rfl) rfl rfl hl.1 rfl (lv_room (Nat.le_of_ble_eq_true rfl)) dX5_report_22 ⟨Nat.le_of_ble_eq_true rfl, Nat.le_of_ble_eq_true rfl⟩) hD rfl hS hA (fun r9 H locs er hP hD hS => ?_)
    subst er
    refine zasi (show bI (decide (1 = 0)) = nI 0 from rfl) ?_
    refine lv_if_ne (tgt := 30) hx hb dX5_report_25 (by decide) (fun c_25 => ?_) (fun c_25 => ?_)
    · exact absurd c_25 (by decide)
    · refine lv_iconst (v := nI 0) hx hb dX5_report_28 (by decide) ?_
      exact zmri hx hb hr hlocks dX5_report_29 hP hS (trivial)
  · have e_6 := bI_ne0 c_6
    refine lv_aload_n hx hb dX5_report_9 rfl (lv_at hl 0 rfl) ?_
    refine lv_iload_n hx hb dX5_report_10 rfl (lv_at hl 2 rfl) ?_
    refine zci (va_runV (As := [.int t]) (rest := [.ref hm]) ⟨hx, hb, hml, hown, hts⟩ (m_isT l D ca sa hm ad th td nt np nc M (t)) (cwV 1 hts gX5_report_X5_isTitle rfl rfl rfl (by decide +kernel) ⟨Nat.le_of_ble_eq_true rfl, Nat.le_of_ble_eq_true rfl⟩) (zpV hP hE (ci := 5) rfl (q0 := 0) rfl) rfl rfl hl.1 rfl (lv_room (Nat.le_of_ble_eq_true rfl)) dX5_report_11 ⟨Nat.le_of_ble_eq_true rfl, Nat.le_of_ble_eq_true rfl⟩) ?_
    refine lv_if_eq (tgt := 21) hx hb dX5_report_14 (by decide) (fun c_14 => ?_) (fun c_14 => ?_)
    · have e_14 := bI_eq0 c_14
      refine lv_iconst (v := nI 1) hx hb dX5_report_21 (by decide) ?_
      refine zmci (va_runV (As := [.int (nI 1)]) (rest := []) ⟨hx, hb, hml, hown, hts⟩ (m_holds l D ca sa hm ad th td nt np nc M 1 (by decide) _) (cwV 1 hts gX5_report_X5_holds rfl rfl rfl (by decide +kernel) ⟨Nat.le_of_ble_eq_true rfl, Nat.le_of_ble_eq_true rfl⟩) (zmV hP hD hE (ci := 5) rfl (q0 := 0) rfl) rfl rfl hl.1 rfl (lv_room (Nat.le_of_ble_eq_true rfl)) dX5_report_22 ⟨Nat.le_of_ble_eq_true rfl, Nat.le_of_ble_eq_true rfl⟩) hD rfl hS hA (fun r9 H locs er hP hD hS => ?_)
      subst er
      refine zasi (show bI (decide (1 = 0)) = nI 0 from rfl) ?_
      refine lv_if_ne (tgt := 30) hx hb dX5_report_25 (by decide) (fun c_25 => ?_) (fun c_25 => ?_)
      · exact absurd c_25 (by decide)
      · refine lv_iconst (v := nI 0) hx hb dX5_report_28 (by decide) ?_
        exact zmri hx hb hr hlocks dX5_report_29 hP hS (trivial)
    · have e_14 := bI_ne0 c_14
      refine lv_iconst (v := nI 0) hx hb dX5_report_17 (by decide) ?_
      refine lv_goto (tgt := 22) hx hb dX5_report_18 (by decide) ?_
      exact absurd hbad (by simp [e_6, e_14])

set_option maxHeartbeats 4000000 in
set_option maxRecDepth 100000 in
theorem m_mend (l : Launch) (D : va_G) (ca : Nat → ClassId) (sa : Nat → Nat) (hm : Nat) (ad : Nat → Nat) (th : Int32) (td nt np nc : Nat) (M : Nat → Nat → Int32) (q t : Nat) (hq : q < np) (ht : t < nt) (hnp : np ≤ 10) (hnt : nt ≤ 20) (b : Nat) (hbk : M 6 (20 * q + t) = nI b) (sz : Nat) : Met l yX5_mend wsX5_mend ({ frames := 9, cells := 0, slots := 0, locals := 360 }) (va_Pc [.ref hm, .int (nI q), .int (nI t)] (zMp D (mW hm ad ca th td nt np nc M) ca sa sz)) (va_Qi (fun (r : Int32) (_ : Unit) => r = nI b) (fun _ t9 => va_P D vwCl (mW hm ad ca (nI 0) td nt np nc (mP M 6 (20 * q + t) (nI 0))) t9.heap) (va_A (mW hm ad ca th td nt np nc M) sz)) 0 0 (va_A (mW hm ad ca th td nt np nc M) sz) := by
  refine Met.ofW (cc := cX5_mend) (maxL := 4) (ret := (some .int)) (by decide) rfl ?_
  intro p e s m args below meth c s₁ B hml hv
  obtain ⟨rfl, hsz, hP, hD0, hE⟩ := hv
  have hx := B.exec
  have hb := B.bytes
  have hr := B.returns
  have hts := atoms_spec (ws := wsX5_mend) B.pre
  have hown : s.vm.findClass RX5 = some m.cls := findClass_of_methodNamed B.named
  have hlocks := B.notSynchronized
  have hl := lv_entry ([.ref hm, .int (nI q), .int (nI t)]) (n := 4) (Nat.le_of_ble_eq_true rfl)
  rw [lg_entry_eq]
  generalize (lg_sl ([.ref hm, .int (nI q), .int (nI t)]) ++ List.replicate (4 - (lg_sl ([.ref hm, .int (nI q), .int (nI t)])).length) Slot.unset).toArray = ls at hl ⊢
  have hl : lv_has ls 4 [(0, .ref hm), (1, .int (nI q)), (2, .int (nI t))] := hl
  subst hsz
  have hD := hD0.self (sz := s.heap.size)
  generalize hAe : va_A (mW hm ad ca th td nt np nc M) s.heap.size = A at hD ⊢
  have hA : ∀ q : Nat, s.heap.size ≤ q → A q := fun q h => by rw [← hAe]; exact Or.inr h
  have hS : va_S A s.heap s.heap [] := va_S.rf
  refine lv_aload_n hx hb dX5_mend_0 rfl (lv_at hl 0 rfl) ?_
  refine lv_aload_n hx hb dX5_mend_1 rfl (lv_at hl 0 rfl) ?_
  refine lv_iload_n hx hb dX5_mend_2 rfl (lv_at hl 1 rfl) ?_
  refine zci (va_runV (As := [.int (nI q)]) (rest := [.ref hm]) ⟨hx, hb, hml, hown, hts⟩ (m_isP l D ca sa hm ad th td nt np nc M ((nI q))) (cwV 1 hts gX5_mend_X5_isPackage rfl rfl rfl (by decide +kernel) ⟨Nat.le_of_ble_eq_true rfl, Nat.le_of_ble_eq_true rfl⟩) (zpV hP hE (ci := 5) rfl (q0 := 0) rfl) rfl rfl hl.1 rfl (lv_room (Nat.le_of_ble_eq_true rfl)) dX5_mend_3 ⟨Nat.le_of_ble_eq_true rfl, Nat.le_of_ble_eq_true rfl⟩) ?_
  refine zasi (show (bI (iT np ((nI q)))) = nI 1 from by rw [iT_t hq (by omega)]; rfl) ?_
  refine lv_if_eq (tgt := 21) hx hb dX5_mend_6 (by decide) (fun c_6 => ?_) (fun c_6 => ?_)
  · exact absurd c_6 (by decide)
  · refine lv_aload_n hx hb dX5_mend_9 rfl (lv_at hl 0 rfl) ?_
    refine lv_iload_n hx hb dX5_mend_10 rfl (lv_at hl 2 rfl) ?_
    refine zci (va_runV (As := [.int (nI t)]) (rest := [.ref hm]) ⟨hx, hb, hml, hown, hts⟩ (m_isT l D ca sa hm ad th td nt np nc M ((nI t))) (cwV 1 hts gX5_mend_X5_isTitle rfl rfl rfl (by decide +kernel) ⟨Nat.le_of_ble_eq_true rfl, Nat.le_of_ble_eq_true rfl⟩) (zpV hP hE (ci := 5) rfl (q0 := 0) rfl) rfl rfl hl.1 rfl (lv_room (Nat.le_of_ble_eq_true rfl)) dX5_mend_11 ⟨Nat.le_of_ble_eq_true rfl, Nat.le_of_ble_eq_true rfl⟩) ?_
    refine zasi (show (bI (iT nt ((nI t)))) = nI 1 from by rw [iT_t ht (by omega)]; rfl) ?_
    refine lv_if_eq (tgt := 21) hx hb dX5_mend_14 (by decide) (fun c_14 => ?_) (fun c_14 => ?_)
    · exact absurd c_14 (by decide)
    · refine lv_iconst (v := nI 0) hx hb dX5_mend_17 (by decide) ?_
      refine lv_goto (tgt := 22) hx hb dX5_mend_18 (by decide) ?_
      refine zmci (va_runV (As := [.int (nI 0)]) (rest := []) ⟨hx, hb, hml, hown, hts⟩ (m_holds l D ca sa hm ad th td nt np nc M 0 (by decide) _) (cwV 1 hts gX5_mend_X5_holds rfl rfl rfl (by decide +kernel) ⟨Nat.le_of_ble_eq_true rfl, Nat.le_of_ble_eq_true rfl⟩) (zmV hP hD hE (ci := 5) rfl (q0 := 0) rfl) rfl rfl hl.1 rfl (lv_room (Nat.le_of_ble_eq_true rfl)) dX5_mend_22 ⟨Nat.le_of_ble_eq_true rfl, Nat.le_of_ble_eq_true rfl⟩) hD rfl hS hA (fun r9 H locs er hP hD hS => ?_)
      subst er
      refine zasi (show bI (decide (0 = 0)) = nI 1 from rfl) ?_
      refine lv_if_ne (tgt := 30) hx hb dX5_mend_25 (by decide) (fun c_25 => ?_) (fun c_25 => ?_)
      · refine lv_aload_n hx hb dX5_mend_30 rfl (lv_at hl 0 rfl) ?_
        refine zmget (own := RX5) (ci := 5) (C := RX5) (T := TX5) (N := 18) hx hb hts (by decide +kernel) hown hE hP 0 rfl rfl 10 (by decide) (hts (.fieldLink RX5 29 "LinkResolverModel" "breaks" "[I") (by decide +kernel)) rfl dX5_mend_31 ?_
        refine lv_bipush (v := nI 20) hx hb dX5_mend_34 (by decide) ?_
        refine lv_iload_n hx hb dX5_mend_36 rfl (lv_at hl 1 rfl) ?_
        refine lv_imul hx hb dX5_mend_37 ?_
        refine zasi (show ((nI 20) * (nI q)) = nI (20 * q) from pk_mul _ _) ?_
        refine lv_iload_n hx hb dX5_mend_38 rfl (lv_at hl 2 rfl) ?_
        refine lv_iadd hx hb dX5_mend_39 ?_
        refine zasi (show ((nI (20 * q)) + (nI t)) = nI (20 * q + t) from nI_add _ _) ?_
        refine zmi hx hb hE hP 7 rfl (i := (20 * q + t)) (show _ < _ from by omega) (by decide) dX5_mend_40 ?_
        refine zasi (show (M 6 (20 * q + t)) = nI b from hbk) ?_
        refine lv_istore_n (lv' := [(3, .int (nI b)), (0, .ref hm), (1, .int (nI q)), (2, .int (nI t))]) hx hb dX5_mend_41 rfl hl (by decide) rfl (fun ls hl => ?_)
        refine lv_aload_n hx hb dX5_mend_42 rfl (lv_at hl 1 rfl) ?_
        refine zmget (own := RX5) (ci := 5) (C := RX5) (T := TX5) (N := 18) hx hb hts (by decide +kernel) hown hE hP 0 rfl rfl 10 (by decide) (hts (.fieldLink RX5 29 "LinkResolverModel" "breaks" "[I") (by decide +kernel)) rfl dX5_mend_43 ?_
        refine lv_bipush (v := nI 20) hx hb dX5_mend_46 (by decide) ?_
        refine lv_iload_n hx hb dX5_mend_48 rfl (lv_at hl 2 rfl) ?_
        refine lv_imul hx hb dX5_mend_49 ?_
        refine zasi (show ((nI 20) * (nI q)) = nI (20 * q) from pk_mul _ _) ?_
        refine lv_iload_n hx hb dX5_mend_50 rfl (lv_at hl 3 rfl) ?_
        refine lv_iadd hx hb dX5_mend_51 ?_
        refine zasi (show ((nI (20 * q)) + (nI t)) = nI (20 * q + t) from nI_add _ _) ?_
        refine lv_iconst (v := nI 0) hx hb dX5_mend_52 (by decide) ?_
        refine zmist hx hb hE hP hD hS 7 rfl (i := (20 * q + t)) (show _ < _ from by omega) (by decide) dX5_mend_53 (fun H locs hP hD hS => ?_)
        have hP : va_P D vwCl (mW hm ad ca (nI 0) td nt np nc (mP M 6 (20 * q + t) (nI 0))) H := hP
        have hD : va_D A (mW hm ad ca (nI 0) td nt np nc (mP M 6 (20 * q + t) (nI 0))) := hD
        refine lv_iload_n hx hb dX5_mend_54 rfl (lv_at hl 0 rfl) ?_
        exact zmri hx hb hr hlocks dX5_mend_55 hP hS (rfl)
      · exact absurd c_25 (by decide)

set_option maxHeartbeats 4000000 in
set_option maxRecDepth 100000 in
theorem m_mend_1 (l : Launch) (D : va_G) (ca : Nat → ClassId) (sa : Nat → Nat) (hm : Nat) (ad : Nat → Nat) (th : Int32) (td nt np nc : Nat) (M : Nat → Nat → Int32) (q t : Int32) (hbad : (iT np q && iT nt t) = false) (sz : Nat) : Met l yX5_mend wsX5_mend ({ frames := 9, cells := 0, slots := 0, locals := 360 }) (va_Pc [.ref hm, .int q, .int t] (zMp D (mW hm ad ca th td nt np nc M) ca sa sz)) (va_Qi (fun (r : Int32) (_ : Unit) => True) (fun _ t9 => va_P D vwCl (mW hm ad ca (nI 1) td nt np nc M) t9.heap) (va_A (mW hm ad ca th td nt np nc M) sz)) 0 0 (va_A (mW hm ad ca th td nt np nc M) sz) := by
  refine Met.ofW (cc := cX5_mend) (maxL := 4) (ret := (some .int)) (by decide) rfl ?_
  intro p e s m args below meth c s₁ B hml hv
  obtain ⟨rfl, hsz, hP, hD0, hE⟩ := hv
  have hx := B.exec
  have hb := B.bytes
  have hr := B.returns
  have hts := atoms_spec (ws := wsX5_mend) B.pre
  have hown : s.vm.findClass RX5 = some m.cls := findClass_of_methodNamed B.named
  have hlocks := B.notSynchronized
  have hl := lv_entry ([.ref hm, .int q, .int t]) (n := 4) (Nat.le_of_ble_eq_true rfl)
  rw [lg_entry_eq]
  generalize (lg_sl ([.ref hm, .int q, .int t]) ++ List.replicate (4 - (lg_sl ([.ref hm, .int q, .int t])).length) Slot.unset).toArray = ls at hl ⊢
  have hl : lv_has ls 4 [(0, .ref hm), (1, .int q), (2, .int t)] := hl
  subst hsz
  have hD := hD0.self (sz := s.heap.size)
  generalize hAe : va_A (mW hm ad ca th td nt np nc M) s.heap.size = A at hD ⊢
  have hA : ∀ q : Nat, s.heap.size ≤ q → A q := fun q h => by rw [← hAe]; exact Or.inr h
  have hS : va_S A s.heap s.heap [] := va_S.rf
  refine lv_aload_n hx hb dX5_mend_0 rfl (lv_at hl 0 rfl) ?_
  refine lv_aload_n hx hb dX5_mend_1 rfl (lv_at hl 0 rfl) ?_
  refine lv_iload_n hx hb dX5_mend_2 rfl (lv_at hl 1 rfl) ?_
  refine zci (va_runV (As := [.int q]) (rest := [.ref hm]) ⟨hx, hb, hml, hown, hts⟩ (m_isP l D ca sa hm ad th td nt np nc M (q)) (cwV 1 hts gX5_mend_X5_isPackage rfl rfl rfl (by decide +kernel) ⟨Nat.le_of_ble_eq_true rfl, Nat.le_of_ble_eq_true rfl⟩) (zpV hP hE (ci := 5) rfl (q0 := 0) rfl) rfl rfl hl.1 rfl (lv_room (Nat.le_of_ble_eq_true rfl)) dX5_mend_3 ⟨Nat.le_of_ble_eq_true rfl, Nat.le_of_ble_eq_true rfl⟩) ?_
  refine lv_if_eq (tgt := 21) hx hb dX5_mend_6 (by decide) (fun c_6 => ?_) (fun c_6 => ?_)
  · have e_6 := bI_eq0 c_6
    refine lv_iconst (v := nI 1) hx hb dX5_mend_21 (by decide) ?_
    refine zmci (va_runV (As := [.int (nI 1)]) (rest := []) ⟨hx, hb, hml, hown, hts⟩ (m_holds l D ca sa hm ad th td nt np nc M 1 (by decide) _) (cwV 1 hts gX5_mend_X5_holds rfl rfl rfl (by decide +kernel) ⟨Nat.le_of_ble_eq_true rfl, Nat.le_of_ble_eq_true rfl⟩) (zmV hP hD hE (ci := 5) rfl (q0 := 0) rfl) rfl rfl hl.1 rfl (lv_room (Nat.le_of_ble_eq_true rfl)) dX5_mend_22 ⟨Nat.le_of_ble_eq_true rfl, Nat.le_of_ble_eq_true rfl⟩) hD rfl hS hA (fun r9 H locs er hP hD hS => ?_)
    subst er
    refine zasi (show bI (decide (1 = 0)) = nI 0 from rfl) ?_
    refine lv_if_ne (tgt := 30) hx hb dX5_mend_25 (by decide) (fun c_25 => ?_) (fun c_25 => ?_)
    · exact absurd c_25 (by decide)
    · refine lv_iconst (v := nI 0) hx hb dX5_mend_28 (by decide) ?_
      exact zmri hx hb hr hlocks dX5_mend_29 hP hS (trivial)
  · have e_6 := bI_ne0 c_6
    refine lv_aload_n hx hb dX5_mend_9 rfl (lv_at hl 0 rfl) ?_
    refine lv_iload_n hx hb dX5_mend_10 rfl (lv_at hl 2 rfl) ?_
    refine zci (va_runV (As := [.int t]) (rest := [.ref hm]) ⟨hx, hb, hml, hown, hts⟩ (m_isT l D ca sa hm ad th td nt np nc M (t)) (cwV 1 hts gX5_mend_X5_isTitle rfl rfl rfl (by decide +kernel) ⟨Nat.le_of_ble_eq_true rfl, Nat.le_of_ble_eq_true rfl⟩) (zpV hP hE (ci := 5) rfl (q0 := 0) rfl) rfl rfl hl.1 rfl (lv_room (Nat.le_of_ble_eq_true rfl)) dX5_mend_11 ⟨Nat.le_of_ble_eq_true rfl, Nat.le_of_ble_eq_true rfl⟩) ?_
    refine lv_if_eq (tgt := 21) hx hb dX5_mend_14 (by decide) (fun c_14 => ?_) (fun c_14 => ?_)
    · have e_14 := bI_eq0 c_14
      refine lv_iconst (v := nI 1) hx hb dX5_mend_21 (by decide) ?_
      refine zmci (va_runV (As := [.int (nI 1)]) (rest := []) ⟨hx, hb, hml, hown, hts⟩ (m_holds l D ca sa hm ad th td nt np nc M 1 (by decide) _) (cwV 1 hts gX5_mend_X5_holds rfl rfl rfl (by decide +kernel) ⟨Nat.le_of_ble_eq_true rfl, Nat.le_of_ble_eq_true rfl⟩) (zmV hP hD hE (ci := 5) rfl (q0 := 0) rfl) rfl rfl hl.1 rfl (lv_room (Nat.le_of_ble_eq_true rfl)) dX5_mend_22 ⟨Nat.le_of_ble_eq_true rfl, Nat.le_of_ble_eq_true rfl⟩) hD rfl hS hA (fun r9 H locs er hP hD hS => ?_)
      subst er
      refine zasi (show bI (decide (1 = 0)) = nI 0 from rfl) ?_
      refine lv_if_ne (tgt := 30) hx hb dX5_mend_25 (by decide) (fun c_25 => ?_) (fun c_25 => ?_)
      · exact absurd c_25 (by decide)
      · refine lv_iconst (v := nI 0) hx hb dX5_mend_28 (by decide) ?_
        exact zmri hx hb hr hlocks dX5_mend_29 hP hS (trivial)
    · have e_14 := bI_ne0 c_14
      refine lv_iconst (v := nI 0) hx hb dX5_mend_17 (by decide) ?_
      refine lv_goto (tgt := 22) hx hb dX5_mend_18 (by decide) ?_
      exact absurd hbad (by simp [e_6, e_14])

set_option maxHeartbeats 4000000 in
set_option maxRecDepth 100000 in
theorem m_covers (l : Launch) (D : va_G) (ca : Nat → ClassId) (sa : Nat → Nat) (hm : Nat) (ad : Nat → Nat) (th : Int32) (td nt np nc : Nat) (M : Nat → Nat → Int32) (q t : Nat) (hq : q < np) (ht : t < nt) (hnp : np ≤ 10) (hnt : nt ≤ 20) (hnc : nc ≤ 600) (y g d : Nat) (hy : y ≤ 55) (hg : g ≤ 3) (hd : d ≤ td) (htd : td ≤ 20000) (sz : Nat) : Met l yX5_covers wsX5_covers ({ frames := 9, cells := 0, slots := 0, locals := 360 }) (va_Pc [.ref hm, .int (nI q), .int (nI t), .int (nI y), .int (nI g), .int (nI d)] (zMp D (mW hm ad ca th td nt np nc M) ca sa sz)) (va_Qi (fun (r : Int32) (_ : Unit) => r = bI (mLets M q g && mCov M nc q t y d)) (fun _ t9 => va_P D vwCl (mW hm ad ca (nI 0) td nt np nc M) t9.heap) (va_A (mW hm ad ca th td nt np nc M) sz)) 0 0 (va_A (mW hm ad ca th td nt np nc M) sz) := by
  refine Met.ofW (cc := cX5_covers) (maxL := 7) (ret := (some .boolean)) (by decide) rfl ?_
  intro p e s m args below meth c s₁ B hml hv
  obtain ⟨rfl, hsz, hP, hD0, hE⟩ := hv
  have hx := B.exec
  have hb := B.bytes
  have hr := B.returns
  have hts := atoms_spec (ws := wsX5_covers) B.pre
  have hown : s.vm.findClass RX5 = some m.cls := findClass_of_methodNamed B.named
  have hlocks := B.notSynchronized
  have hl := lv_entry ([.ref hm, .int (nI q), .int (nI t), .int (nI y), .int (nI g), .int (nI d)]) (n := 7) (Nat.le_of_ble_eq_true rfl)
  rw [lg_entry_eq]
  generalize (lg_sl ([.ref hm, .int (nI q), .int (nI t), .int (nI y), .int (nI g), .int (nI d)]) ++ List.replicate (7 - (lg_sl ([.ref hm, .int (nI q), .int (nI t), .int (nI y), .int (nI g), .int (nI d)])).length) Slot.unset).toArray = ls at hl ⊢
  have hl : lv_has ls 7 [(0, .ref hm), (1, .int (nI q)), (2, .int (nI t)), (3, .int (nI y)), (4, .int (nI g)), (5, .int (nI d))] := hl
  subst hsz
  have hD := hD0.self (sz := s.heap.size)
  generalize hAe : va_A (mW hm ad ca th td nt np nc M) s.heap.size = A at hD ⊢
  have hA : ∀ q : Nat, s.heap.size ≤ q → A q := fun q h => by rw [← hAe]; exact Or.inr h
  have hS : va_S A s.heap s.heap [] := va_S.rf
  refine lv_aload_n hx hb dX5_covers_0 rfl (lv_at hl 0 rfl) ?_
  refine lv_iload_n hx hb dX5_covers_1 rfl (lv_at hl 1 rfl) ?_
  refine zci (va_runV (As := [.int (nI q)]) (rest := []) ⟨hx, hb, hml, hown, hts⟩ (m_isP l D ca sa hm ad th td nt np nc M ((nI q))) (cwV 1 hts gX5_covers_X5_isPackage rfl rfl rfl (by decide +kernel) ⟨Nat.le_of_ble_eq_true rfl, Nat.le_of_ble_eq_true rfl⟩) (zpV hP hE (ci := 5) rfl (q0 := 0) rfl) rfl rfl hl.1 rfl (lv_room (Nat.le_of_ble_eq_true rfl)) dX5_covers_2 ⟨Nat.le_of_ble_eq_true rfl, Nat.le_of_ble_eq_true rfl⟩) ?_
  refine zasi (show (bI (iT np ((nI q)))) = nI 1 from by rw [iT_t hq (by omega)]; rfl) ?_
  refine lv_if_eq (tgt := 20) hx hb dX5_covers_5 (by decide) (fun c_5 => ?_) (fun c_5 => ?_)
  · exact absurd c_5 (by decide)
  · refine lv_aload_n hx hb dX5_covers_8 rfl (lv_at hl 0 rfl) ?_
    refine lv_iload_n hx hb dX5_covers_9 rfl (lv_at hl 2 rfl) ?_
    refine zci (va_runV (As := [.int (nI t)]) (rest := []) ⟨hx, hb, hml, hown, hts⟩ (m_isT l D ca sa hm ad th td nt np nc M ((nI t))) (cwV 1 hts gX5_covers_X5_isTitle rfl rfl rfl (by decide +kernel) ⟨Nat.le_of_ble_eq_true rfl, Nat.le_of_ble_eq_true rfl⟩) (zpV hP hE (ci := 5) rfl (q0 := 0) rfl) rfl rfl hl.1 rfl (lv_room (Nat.le_of_ble_eq_true rfl)) dX5_covers_10 ⟨Nat.le_of_ble_eq_true rfl, Nat.le_of_ble_eq_true rfl⟩) ?_
    refine zasi (show (bI (iT nt ((nI t)))) = nI 1 from by rw [iT_t ht (by omega)]; rfl) ?_
    refine lv_if_eq (tgt := 20) hx hb dX5_covers_13 (by decide) (fun c_13 => ?_) (fun c_13 => ?_)
    · exact absurd c_13 (by decide)
    · refine lv_iconst (v := nI 1) hx hb dX5_covers_16 (by decide) ?_
      refine lv_goto (tgt := 21) hx hb dX5_covers_17 (by decide) ?_
      refine lv_istore (lv' := [(6, .int (nI 1)), (0, .ref hm), (1, .int (nI q)), (2, .int (nI t)), (3, .int (nI y)), (4, .int (nI g)), (5, .int (nI d))]) hx hb dX5_covers_21 hl (by decide) rfl (fun ls hl => ?_)
      refine lv_aload_n hx hb dX5_covers_23 rfl (lv_at hl 1 rfl) ?_
      refine lv_iload hx hb dX5_covers_24 (lv_at hl 0 rfl) ?_
      refine lv_if_ne (tgt := 33) hx hb dX5_covers_26 (by decide) (fun c_26 => ?_) (fun c_26 => ?_)
      · refine lv_aload_n hx hb dX5_covers_33 rfl (lv_at hl 1 rfl) ?_
        refine lv_iload_n hx hb dX5_covers_34 rfl (lv_at hl 4 rfl) ?_
        refine lv_iload hx hb dX5_covers_35 (lv_at hl 5 rfl) ?_
        refine lv_iload hx hb dX5_covers_37 (lv_at hl 6 rfl) ?_
        refine zci (va_runV (As := [.int (nI y), .int (nI g), .int (nI d)]) (rest := [.ref hm]) ⟨hx, hb, hml, hown, hts⟩ (m_asked l D ca sa hm ad th td nt np nc M ((nI y)) ((nI g)) ((nI d))) (cwV 3 hts gX5_covers_X5_isAsked rfl rfl rfl (by decide +kernel) ⟨Nat.le_of_ble_eq_true rfl, Nat.le_of_ble_eq_true rfl⟩) (zpV hP hE (ci := 5) rfl (q0 := 0) rfl) rfl rfl hl.1 rfl (lv_room (Nat.le_of_ble_eq_true rfl)) dX5_covers_39 ⟨Nat.le_of_ble_eq_true rfl, Nat.le_of_ble_eq_true rfl⟩) ?_
        refine zasi (show (bI (iB ((nI y)) (nI 0) (nI 55) && (iB ((nI g)) (nI 0) (nI 3) && iB ((nI d)) (nI 0) (nI td)))) = nI 1 from by rw [iB_t (Nat.zero_le _) hy (by decide), iB_t (Nat.zero_le _) hg (by decide), iB_t (Nat.zero_le _) hd (by omega)]; rfl) ?_
        refine lv_if_eq (tgt := 49) hx hb dX5_covers_42 (by decide) (fun c_42 => ?_) (fun c_42 => ?_)
        · exact absurd c_42 (by decide)
        · refine lv_iconst (v := nI 0) hx hb dX5_covers_45 (by decide) ?_
          refine lv_goto (tgt := 50) hx hb dX5_covers_46 (by decide) ?_
          refine zmci (va_runV (As := [.int (nI 0)]) (rest := []) ⟨hx, hb, hml, hown, hts⟩ (m_holds l D ca sa hm ad th td nt np nc M 0 (by decide) _) (cwV 1 hts gX5_covers_X5_holds rfl rfl rfl (by decide +kernel) ⟨Nat.le_of_ble_eq_true rfl, Nat.le_of_ble_eq_true rfl⟩) (zmV hP hD hE (ci := 5) rfl (q0 := 0) rfl) rfl rfl hl.1 rfl (lv_room (Nat.le_of_ble_eq_true rfl)) dX5_covers_50 ⟨Nat.le_of_ble_eq_true rfl, Nat.le_of_ble_eq_true rfl⟩) hD rfl hS hA (fun r9 H locs er hP hD hS => ?_)
          subst er
          refine zasi (show bI (decide (0 = 0)) = nI 1 from rfl) ?_
          refine lv_if_eq (tgt := 82) hx hb dX5_covers_53 (by decide) (fun c_53 => ?_) (fun c_53 => ?_)
          · exact absurd c_53 (by decide)
          · refine lv_aload_n hx hb dX5_covers_56 rfl (lv_at hl 1 rfl) ?_
            refine lv_iload_n hx hb dX5_covers_57 rfl (lv_at hl 2 rfl) ?_
            refine lv_iload hx hb dX5_covers_58 (lv_at hl 5 rfl) ?_
            refine zci (va_runV (As := [.int (nI q), .int (nI g)]) (rest := []) ⟨hx, hb, hml, hown, hts⟩ (m_lets l D ca sa hm ad (nI 0) td nt np nc M q g (by omega)) (cwV 2 hts gX5_covers_X5_lets rfl rfl rfl (by decide +kernel) ⟨Nat.le_of_ble_eq_true rfl, Nat.le_of_ble_eq_true rfl⟩) (zpV hP hE (ci := 5) rfl (q0 := 0) rfl) rfl rfl hl.1 rfl (lv_room (Nat.le_of_ble_eq_true rfl)) dX5_covers_60 ⟨Nat.le_of_ble_eq_true rfl, Nat.le_of_ble_eq_true rfl⟩) ?_
            refine lv_if_eq (tgt := 82) hx hb dX5_covers_63 (by decide) (fun c_63 => ?_) (fun c_63 => ?_)
            · have e_63 := bI_eq0 c_63
              refine lv_iconst (v := nI 0) hx hb dX5_covers_82 (by decide) ?_
              exact zmrz hx hb hr hlocks dX5_covers_83 (rfl) hP hS (by rw [bI_eq0 c_63]; rfl)
            · have e_63 := bI_ne0 c_63
              refine lv_aload_n hx hb dX5_covers_66 rfl (lv_at hl 1 rfl) ?_
              refine lv_iload_n hx hb dX5_covers_67 rfl (lv_at hl 2 rfl) ?_
              refine lv_iload_n hx hb dX5_covers_68 rfl (lv_at hl 3 rfl) ?_
              refine lv_iload_n hx hb dX5_covers_69 rfl (lv_at hl 4 rfl) ?_
              refine lv_iload hx hb dX5_covers_70 (lv_at hl 6 rfl) ?_
              refine zci (va_runV (As := [.int (nI q), .int (nI t), .int (nI y), .int (nI d)]) (rest := []) ⟨hx, hb, hml, hown, hts⟩ (m_cov l D ca sa hm ad (nI 0) td nt np nc M q t y d hnc (by omega) (by omega) (by omega) hy) (cwV 4 hts gX5_covers_X5_isCovered rfl rfl rfl (by decide +kernel) ⟨Nat.le_of_ble_eq_true rfl, Nat.le_of_ble_eq_true rfl⟩) (zpV hP hE (ci := 5) rfl (q0 := 0) rfl) rfl rfl hl.1 rfl (lv_room (Nat.le_of_ble_eq_true rfl)) dX5_covers_72 ⟨Nat.le_of_ble_eq_true rfl, Nat.le_of_ble_eq_true rfl⟩) ?_
              refine lv_if_eq (tgt := 82) hx hb dX5_covers_75 (by decide) (fun c_75 => ?_) (fun c_75 => ?_)
              · have e_75 := bI_eq0 c_75
                refine lv_iconst (v := nI 0) hx hb dX5_covers_82 (by decide) ?_
                exact zmrz hx hb hr hlocks dX5_covers_83 (rfl) hP hS (by rw [bI_eq0 c_75, Bool.and_false]; rfl)
              · have e_75 := bI_ne0 c_75
                refine lv_iconst (v := nI 1) hx hb dX5_covers_78 (by decide) ?_
                refine lv_goto (tgt := 83) hx hb dX5_covers_79 (by decide) ?_
                exact zmrz hx hb hr hlocks dX5_covers_83 (rfl) hP hS (by rw [bI_ne0 c_63, bI_ne0 c_75]; rfl)
      · exact absurd c_26 (by decide)

set_option maxHeartbeats 4000000 in
set_option maxRecDepth 100000 in
theorem m_covers_1 (l : Launch) (D : va_G) (ca : Nat → ClassId) (sa : Nat → Nat) (hm : Nat) (ad : Nat → Nat) (th : Int32) (td nt np nc : Nat) (M : Nat → Nat → Int32) (q t y g d : Int32) (hbad : (iT np q && iT nt t) = false) (sz : Nat) : Met l yX5_covers wsX5_covers ({ frames := 9, cells := 0, slots := 0, locals := 360 }) (va_Pc [.ref hm, .int q, .int t, .int y, .int g, .int d] (zMp D (mW hm ad ca th td nt np nc M) ca sa sz)) (va_Qi (fun (r : Int32) (_ : Unit) => True) (fun _ t9 => va_P D vwCl (mW hm ad ca (nI 1) td nt np nc M) t9.heap) (va_A (mW hm ad ca th td nt np nc M) sz)) 0 0 (va_A (mW hm ad ca th td nt np nc M) sz) := by
  refine Met.ofW (cc := cX5_covers) (maxL := 7) (ret := (some .boolean)) (by decide) rfl ?_
  intro p e s m args below meth c s₁ B hml hv
  obtain ⟨rfl, hsz, hP, hD0, hE⟩ := hv
  have hx := B.exec
  have hb := B.bytes
  have hr := B.returns
  have hts := atoms_spec (ws := wsX5_covers) B.pre
  have hown : s.vm.findClass RX5 = some m.cls := findClass_of_methodNamed B.named
  have hlocks := B.notSynchronized
  have hl := lv_entry ([.ref hm, .int q, .int t, .int y, .int g, .int d]) (n := 7) (Nat.le_of_ble_eq_true rfl)
  rw [lg_entry_eq]
  generalize (lg_sl ([.ref hm, .int q, .int t, .int y, .int g, .int d]) ++ List.replicate (7 - (lg_sl ([.ref hm, .int q, .int t, .int y, .int g, .int d])).length) Slot.unset).toArray = ls at hl ⊢
  have hl : lv_has ls 7 [(0, .ref hm), (1, .int q), (2, .int t), (3, .int y), (4, .int g), (5, .int d)] := hl
  subst hsz
  have hD := hD0.self (sz := s.heap.size)
  generalize hAe : va_A (mW hm ad ca th td nt np nc M) s.heap.size = A at hD ⊢
  have hA : ∀ q : Nat, s.heap.size ≤ q → A q := fun q h => by rw [← hAe]; exact Or.inr h
  have hS : va_S A s.heap s.heap [] := va_S.rf
  refine lv_aload_n hx hb dX5_covers_0 rfl (lv_at hl 0 rfl) ?_
  refine lv_iload_n hx hb dX5_covers_1 rfl (lv_at hl 1 rfl) ?_
  refine zci (va_runV (As := [.int q]) (rest := []) ⟨hx, hb, hml, hown, hts⟩ (m_isP l D ca sa hm ad th td nt np nc M (q)) (cwV 1 hts gX5_covers_X5_isPackage rfl rfl rfl (by decide +kernel) ⟨Nat.le_of_ble_eq_true rfl, Nat.le_of_ble_eq_true rfl⟩) (zpV hP hE (ci := 5) rfl (q0 := 0) rfl) rfl rfl hl.1 rfl (lv_room (Nat.le_of_ble_eq_true rfl)) dX5_covers_2 ⟨Nat.le_of_ble_eq_true rfl, Nat.le_of_ble_eq_true rfl⟩) ?_
  refine lv_if_eq (tgt := 20) hx hb dX5_covers_5 (by decide) (fun c_5 => ?_) (fun c_5 => ?_)
  · have e_5 := bI_eq0 c_5
    refine lv_iconst (v := nI 0) hx hb dX5_covers_20 (by decide) ?_
    refine lv_istore (lv' := [(6, .int (nI 0)), (0, .ref hm), (1, .int q), (2, .int t), (3, .int y), (4, .int g), (5, .int d)]) hx hb dX5_covers_21 hl (by decide) rfl (fun ls hl => ?_)
    refine lv_aload_n hx hb dX5_covers_23 rfl (lv_at hl 1 rfl) ?_
    refine lv_iload hx hb dX5_covers_24 (lv_at hl 0 rfl) ?_
    refine lv_if_ne (tgt := 33) hx hb dX5_covers_26 (by decide) (fun c_26 => ?_) (fun c_26 => ?_)
    · exact absurd c_26 (by decide)
    · refine lv_iconst (v := nI 1) hx hb dX5_covers_29 (by decide) ?_
      refine lv_goto (tgt := 50) hx hb dX5_covers_30 (by decide) ?_
      refine zmci (va_runV (As := [.int (nI 1)]) (rest := []) ⟨hx, hb, hml, hown, hts⟩ (m_holds l D ca sa hm ad th td nt np nc M 1 (by decide) _) (cwV 1 hts gX5_covers_X5_holds rfl rfl rfl (by decide +kernel) ⟨Nat.le_of_ble_eq_true rfl, Nat.le_of_ble_eq_true rfl⟩) (zmV hP hD hE (ci := 5) rfl (q0 := 0) rfl) rfl rfl hl.1 rfl (lv_room (Nat.le_of_ble_eq_true rfl)) dX5_covers_50 ⟨Nat.le_of_ble_eq_true rfl, Nat.le_of_ble_eq_true rfl⟩) hD rfl hS hA (fun r9 H locs er hP hD hS => ?_)
      subst er
      refine zasi (show bI (decide (1 = 0)) = nI 0 from rfl) ?_
      refine lv_if_eq (tgt := 82) hx hb dX5_covers_53 (by decide) (fun c_53 => ?_) (fun c_53 => ?_)
      · refine lv_iconst (v := nI 0) hx hb dX5_covers_82 (by decide) ?_
        exact zmrz hx hb hr hlocks dX5_covers_83 (rfl) hP hS (trivial)
      · exact absurd c_53 (by decide)
  · have e_5 := bI_ne0 c_5
    refine lv_aload_n hx hb dX5_covers_8 rfl (lv_at hl 0 rfl) ?_
    refine lv_iload_n hx hb dX5_covers_9 rfl (lv_at hl 2 rfl) ?_
    refine zci (va_runV (As := [.int t]) (rest := []) ⟨hx, hb, hml, hown, hts⟩ (m_isT l D ca sa hm ad th td nt np nc M (t)) (cwV 1 hts gX5_covers_X5_isTitle rfl rfl rfl (by decide +kernel) ⟨Nat.le_of_ble_eq_true rfl, Nat.le_of_ble_eq_true rfl⟩) (zpV hP hE (ci := 5) rfl (q0 := 0) rfl) rfl rfl hl.1 rfl (lv_room (Nat.le_of_ble_eq_true rfl)) dX5_covers_10 ⟨Nat.le_of_ble_eq_true rfl, Nat.le_of_ble_eq_true rfl⟩) ?_
    refine lv_if_eq (tgt := 20) hx hb dX5_covers_13 (by decide) (fun c_13 => ?_) (fun c_13 => ?_)
    · have e_13 := bI_eq0 c_13
      refine lv_iconst (v := nI 0) hx hb dX5_covers_20 (by decide) ?_
      refine lv_istore (lv' := [(6, .int (nI 0)), (0, .ref hm), (1, .int q), (2, .int t), (3, .int y), (4, .int g), (5, .int d)]) hx hb dX5_covers_21 hl (by decide) rfl (fun ls hl => ?_)
      refine lv_aload_n hx hb dX5_covers_23 rfl (lv_at hl 1 rfl) ?_
      refine lv_iload hx hb dX5_covers_24 (lv_at hl 0 rfl) ?_
      refine lv_if_ne (tgt := 33) hx hb dX5_covers_26 (by decide) (fun c_26 => ?_) (fun c_26 => ?_)
      · exact absurd c_26 (by decide)
      · refine lv_iconst (v := nI 1) hx hb dX5_covers_29 (by decide) ?_
        refine lv_goto (tgt := 50) hx hb dX5_covers_30 (by decide) ?_
        refine zmci (va_runV (As := [.int (nI 1)]) (rest := []) ⟨hx, hb, hml, hown, hts⟩ (m_holds l D ca sa hm ad th td nt np nc M 1 (by decide) _) (cwV 1 hts gX5_covers_X5_holds rfl rfl rfl (by decide +kernel) ⟨Nat.le_of_ble_eq_true rfl, Nat.le_of_ble_eq_true rfl⟩) (zmV hP hD hE (ci := 5) rfl (q0 := 0) rfl) rfl rfl hl.1 rfl (lv_room (Nat.le_of_ble_eq_true rfl)) dX5_covers_50 ⟨Nat.le_of_ble_eq_true rfl, Nat.le_of_ble_eq_true rfl⟩) hD rfl hS hA (fun r9 H locs er hP hD hS => ?_)
        subst er
        refine zasi (show bI (decide (1 = 0)) = nI 0 from rfl) ?_
        refine lv_if_eq (tgt := 82) hx hb dX5_covers_53 (by decide) (fun c_53 => ?_) (fun c_53 => ?_)
        · refine lv_iconst (v := nI 0) hx hb dX5_covers_82 (by decide) ?_
          exact zmrz hx hb hr hlocks dX5_covers_83 (rfl) hP hS (trivial)
        · exact absurd c_53 (by decide)
    · have e_13 := bI_ne0 c_13
      refine lv_iconst (v := nI 1) hx hb dX5_covers_16 (by decide) ?_
      refine lv_goto (tgt := 21) hx hb dX5_covers_17 (by decide) ?_
      refine lv_istore (lv' := [(6, .int (nI 1)), (0, .ref hm), (1, .int q), (2, .int t), (3, .int y), (4, .int g), (5, .int d)]) hx hb dX5_covers_21 hl (by decide) rfl (fun ls hl => ?_)
      refine lv_aload_n hx hb dX5_covers_23 rfl (lv_at hl 1 rfl) ?_
      refine lv_iload hx hb dX5_covers_24 (lv_at hl 0 rfl) ?_
      refine lv_if_ne (tgt := 33) hx hb dX5_covers_26 (by decide) (fun c_26 => ?_) (fun c_26 => ?_)
      · exact absurd hbad (by simp [e_5, e_13])
      · exact absurd c_26 (by decide)

set_option maxHeartbeats 4000000 in
set_option maxRecDepth 100000 in
theorem m_covers_2 (l : Launch) (D : va_G) (ca : Nat → ClassId) (sa : Nat → Nat) (hm : Nat) (ad : Nat → Nat) (th : Int32) (td nt np nc : Nat) (M : Nat → Nat → Int32) (q t y g d : Int32) (hok : (iT np q && iT nt t) = true) (hbad : (iB y (nI 0) (nI 55) && (iB g (nI 0) (nI 3) && iB d (nI 0) (nI td))) = false) (sz : Nat) : Met l yX5_covers wsX5_covers ({ frames := 9, cells := 0, slots := 0, locals := 360 }) (va_Pc [.ref hm, .int q, .int t, .int y, .int g, .int d] (zMp D (mW hm ad ca th td nt np nc M) ca sa sz)) (va_Qi (fun (r : Int32) (_ : Unit) => True) (fun _ t9 => va_P D vwCl (mW hm ad ca (nI 2) td nt np nc M) t9.heap) (va_A (mW hm ad ca th td nt np nc M) sz)) 0 0 (va_A (mW hm ad ca th td nt np nc M) sz) := by
  refine Met.ofW (cc := cX5_covers) (maxL := 7) (ret := (some .boolean)) (by decide) rfl ?_
  intro p e s m args below meth c s₁ B hml hv
  obtain ⟨rfl, hsz, hP, hD0, hE⟩ := hv
  have hx := B.exec
  have hb := B.bytes
  have hr := B.returns
  have hts := atoms_spec (ws := wsX5_covers) B.pre
  have hown : s.vm.findClass RX5 = some m.cls := findClass_of_methodNamed B.named
  have hlocks := B.notSynchronized
  have hl := lv_entry ([.ref hm, .int q, .int t, .int y, .int g, .int d]) (n := 7) (Nat.le_of_ble_eq_true rfl)
  rw [lg_entry_eq]
  generalize (lg_sl ([.ref hm, .int q, .int t, .int y, .int g, .int d]) ++ List.replicate (7 - (lg_sl ([.ref hm, .int q, .int t, .int y, .int g, .int d])).length) Slot.unset).toArray = ls at hl ⊢
  have hl : lv_has ls 7 [(0, .ref hm), (1, .int q), (2, .int t), (3, .int y), (4, .int g), (5, .int d)] := hl
  subst hsz
  have hD := hD0.self (sz := s.heap.size)
  generalize hAe : va_A (mW hm ad ca th td nt np nc M) s.heap.size = A at hD ⊢
  have hA : ∀ q : Nat, s.heap.size ≤ q → A q := fun q h => by rw [← hAe]; exact Or.inr h
  have hS : va_S A s.heap s.heap [] := va_S.rf
  refine lv_aload_n hx hb dX5_covers_0 rfl (lv_at hl 0 rfl) ?_
  refine lv_iload_n hx hb dX5_covers_1 rfl (lv_at hl 1 rfl) ?_
  refine zci (va_runV (As := [.int q]) (rest := []) ⟨hx, hb, hml, hown, hts⟩ (m_isP l D ca sa hm ad th td nt np nc M (q)) (cwV 1 hts gX5_covers_X5_isPackage rfl rfl rfl (by decide +kernel) ⟨Nat.le_of_ble_eq_true rfl, Nat.le_of_ble_eq_true rfl⟩) (zpV hP hE (ci := 5) rfl (q0 := 0) rfl) rfl rfl hl.1 rfl (lv_room (Nat.le_of_ble_eq_true rfl)) dX5_covers_2 ⟨Nat.le_of_ble_eq_true rfl, Nat.le_of_ble_eq_true rfl⟩) ?_
  refine lv_if_eq (tgt := 20) hx hb dX5_covers_5 (by decide) (fun c_5 => ?_) (fun c_5 => ?_)
  · have e_5 := bI_eq0 c_5
    refine lv_iconst (v := nI 0) hx hb dX5_covers_20 (by decide) ?_
    refine lv_istore (lv' := [(6, .int (nI 0)), (0, .ref hm), (1, .int q), (2, .int t), (3, .int y), (4, .int g), (5, .int d)]) hx hb dX5_covers_21 hl (by decide) rfl (fun ls hl => ?_)
    refine lv_aload_n hx hb dX5_covers_23 rfl (lv_at hl 1 rfl) ?_
    refine lv_iload hx hb dX5_covers_24 (lv_at hl 0 rfl) ?_
    refine lv_if_ne (tgt := 33) hx hb dX5_covers_26 (by decide) (fun c_26 => ?_) (fun c_26 => ?_)
    · exact absurd c_26 (by decide)
    · refine lv_iconst (v := nI 1) hx hb dX5_covers_29 (by decide) ?_
      refine lv_goto (tgt := 50) hx hb dX5_covers_30 (by decide) ?_
      exact absurd hok (by simp [e_5])
  · have e_5 := bI_ne0 c_5
    refine lv_aload_n hx hb dX5_covers_8 rfl (lv_at hl 0 rfl) ?_
    refine lv_iload_n hx hb dX5_covers_9 rfl (lv_at hl 2 rfl) ?_
    refine zci (va_runV (As := [.int t]) (rest := []) ⟨hx, hb, hml, hown, hts⟩ (m_isT l D ca sa hm ad th td nt np nc M (t)) (cwV 1 hts gX5_covers_X5_isTitle rfl rfl rfl (by decide +kernel) ⟨Nat.le_of_ble_eq_true rfl, Nat.le_of_ble_eq_true rfl⟩) (zpV hP hE (ci := 5) rfl (q0 := 0) rfl) rfl rfl hl.1 rfl (lv_room (Nat.le_of_ble_eq_true rfl)) dX5_covers_10 ⟨Nat.le_of_ble_eq_true rfl, Nat.le_of_ble_eq_true rfl⟩) ?_
    refine lv_if_eq (tgt := 20) hx hb dX5_covers_13 (by decide) (fun c_13 => ?_) (fun c_13 => ?_)
    · have e_13 := bI_eq0 c_13
      refine lv_iconst (v := nI 0) hx hb dX5_covers_20 (by decide) ?_
      refine lv_istore (lv' := [(6, .int (nI 0)), (0, .ref hm), (1, .int q), (2, .int t), (3, .int y), (4, .int g), (5, .int d)]) hx hb dX5_covers_21 hl (by decide) rfl (fun ls hl => ?_)
      refine lv_aload_n hx hb dX5_covers_23 rfl (lv_at hl 1 rfl) ?_
      refine lv_iload hx hb dX5_covers_24 (lv_at hl 0 rfl) ?_
      refine lv_if_ne (tgt := 33) hx hb dX5_covers_26 (by decide) (fun c_26 => ?_) (fun c_26 => ?_)
      · exact absurd c_26 (by decide)
      · refine lv_iconst (v := nI 1) hx hb dX5_covers_29 (by decide) ?_
        refine lv_goto (tgt := 50) hx hb dX5_covers_30 (by decide) ?_
        exact absurd hok (by simp [e_5, e_13])
    · have e_13 := bI_ne0 c_13
      refine lv_iconst (v := nI 1) hx hb dX5_covers_16 (by decide) ?_
      refine lv_goto (tgt := 21) hx hb dX5_covers_17 (by decide) ?_
      refine lv_istore (lv' := [(6, .int (nI 1)), (0, .ref hm), (1, .int q), (2, .int t), (3, .int y), (4, .int g), (5, .int d)]) hx hb dX5_covers_21 hl (by decide) rfl (fun ls hl => ?_)
      refine lv_aload_n hx hb dX5_covers_23 rfl (lv_at hl 1 rfl) ?_
      refine lv_iload hx hb dX5_covers_24 (lv_at hl 0 rfl) ?_
      refine lv_if_ne (tgt := 33) hx hb dX5_covers_26 (by decide) (fun c_26 => ?_) (fun c_26 => ?_)
      · refine lv_aload_n hx hb dX5_covers_33 rfl (lv_at hl 1 rfl) ?_
        refine lv_iload_n hx hb dX5_covers_34 rfl (lv_at hl 4 rfl) ?_
        refine lv_iload hx hb dX5_covers_35 (lv_at hl 5 rfl) ?_
        refine lv_iload hx hb dX5_covers_37 (lv_at hl 6 rfl) ?_
        refine zci (va_runV (As := [.int y, .int g, .int d]) (rest := [.ref hm]) ⟨hx, hb, hml, hown, hts⟩ (m_asked l D ca sa hm ad th td nt np nc M (y) (g) (d)) (cwV 3 hts gX5_covers_X5_isAsked rfl rfl rfl (by decide +kernel) ⟨Nat.le_of_ble_eq_true rfl, Nat.le_of_ble_eq_true rfl⟩) (zpV hP hE (ci := 5) rfl (q0 := 0) rfl) rfl rfl hl.1 rfl (lv_room (Nat.le_of_ble_eq_true rfl)) dX5_covers_39 ⟨Nat.le_of_ble_eq_true rfl, Nat.le_of_ble_eq_true rfl⟩) ?_
        refine zasi (show (bI (iB (y) (nI 0) (nI 55) && (iB (g) (nI 0) (nI 3) && iB (d) (nI 0) (nI td)))) = nI 0 from by rw [hbad]; rfl) ?_
        refine lv_if_eq (tgt := 49) hx hb dX5_covers_42 (by decide) (fun c_42 => ?_) (fun c_42 => ?_)
        · refine lv_iconst (v := nI 2) hx hb dX5_covers_49 (by decide) ?_
          refine zmci (va_runV (As := [.int (nI 2)]) (rest := []) ⟨hx, hb, hml, hown, hts⟩ (m_holds l D ca sa hm ad th td nt np nc M 2 (by decide) _) (cwV 1 hts gX5_covers_X5_holds rfl rfl rfl (by decide +kernel) ⟨Nat.le_of_ble_eq_true rfl, Nat.le_of_ble_eq_true rfl⟩) (zmV hP hD hE (ci := 5) rfl (q0 := 0) rfl) rfl rfl hl.1 rfl (lv_room (Nat.le_of_ble_eq_true rfl)) dX5_covers_50 ⟨Nat.le_of_ble_eq_true rfl, Nat.le_of_ble_eq_true rfl⟩) hD rfl hS hA (fun r9 H locs er hP hD hS => ?_)
          subst er
          refine zasi (show bI (decide (2 = 0)) = nI 0 from rfl) ?_
          refine lv_if_eq (tgt := 82) hx hb dX5_covers_53 (by decide) (fun c_53 => ?_) (fun c_53 => ?_)
          · refine lv_iconst (v := nI 0) hx hb dX5_covers_82 (by decide) ?_
            exact zmrz hx hb hr hlocks dX5_covers_83 (rfl) hP hS (trivial)
          · exact absurd c_53 (by decide)
        · exact absurd c_42 (by decide)
      · exact absurd c_26 (by decide)

set_option maxHeartbeats 4000000 in
set_option maxRecDepth 100000 in
theorem m_ways (l : Launch) (D : va_G) (ca : Nat → ClassId) (sa : Nat → Nat) (hm : Nat) (ad : Nat → Nat) (th : Int32) (td nt np nc : Nat) (M : Nat → Nat → Int32) (t : Nat) (ht : t < nt) (hnp : np ≤ 10) (hnt : nt ≤ 20) (hnc : nc ≤ 600) (y g d : Nat) (hy : y ≤ 55) (hg : g ≤ 3) (hd : d ≤ td) (htd : td ≤ 20000) (sz : Nat) : Met l yX5_ways wsX5_ways ({ frames := 9, cells := 0, slots := 0, locals := 360 }) (va_Pc [.ref hm, .int (nI t), .int (nI y), .int (nI g), .int (nI d)] (zMp D (mW hm ad ca th td nt np nc M) ca sa sz)) (va_Qi (fun (r : Int32) (_ : Unit) => r = nI (mWays M nc t y g d np)) (fun _ t9 => va_P D vwCl (mW hm ad ca (nI 0) td nt np nc M) t9.heap) (va_A (mW hm ad ca th td nt np nc M) sz)) 0 0 (va_A (mW hm ad ca th td nt np nc M) sz) := by
  refine Met.ofW (cc := cX5_ways) (maxL := 5) (ret := (some .int)) (by decide) rfl ?_
  intro p e s m args below meth c s₁ B hml hv
  obtain ⟨rfl, hsz, hP, hD0, hE⟩ := hv
  have hx := B.exec
  have hb := B.bytes
  have hr := B.returns
  have hts := atoms_spec (ws := wsX5_ways) B.pre
  have hown : s.vm.findClass RX5 = some m.cls := findClass_of_methodNamed B.named
  have hlocks := B.notSynchronized
  have hl := lv_entry ([.ref hm, .int (nI t), .int (nI y), .int (nI g), .int (nI d)]) (n := 5) (Nat.le_of_ble_eq_true rfl)
  rw [lg_entry_eq]
  generalize (lg_sl ([.ref hm, .int (nI t), .int (nI y), .int (nI g), .int (nI d)]) ++ List.replicate (5 - (lg_sl ([.ref hm, .int (nI t), .int (nI y), .int (nI g), .int (nI d)])).length) Slot.unset).toArray = ls at hl ⊢
  have hl : lv_has ls 5 [(0, .ref hm), (1, .int (nI t)), (2, .int (nI y)), (3, .int (nI g)), (4, .int (nI d))] := hl
  subst hsz
  have hD := hD0.self (sz := s.heap.size)
  generalize hAe : va_A (mW hm ad ca th td nt np nc M) s.heap.size = A at hD ⊢
  have hA : ∀ q : Nat, s.heap.size ≤ q → A q := fun q h => by rw [← hAe]; exact Or.inr h
  have hS : va_S A s.heap s.heap [] := va_S.rf
  refine lv_aload_n hx hb dX5_ways_0 rfl (lv_at hl 0 rfl) ?_
  refine lv_aload_n hx hb dX5_ways_1 rfl (lv_at hl 0 rfl) ?_
  refine lv_iload_n hx hb dX5_ways_2 rfl (lv_at hl 1 rfl) ?_
  refine zci (va_runV (As := [.int (nI t)]) (rest := [.ref hm]) ⟨hx, hb, hml, hown, hts⟩ (m_isT l D ca sa hm ad th td nt np nc M ((nI t))) (cwV 1 hts gX5_ways_X5_isTitle rfl rfl rfl (by decide +kernel) ⟨Nat.le_of_ble_eq_true rfl, Nat.le_of_ble_eq_true rfl⟩) (zpV hP hE (ci := 5) rfl (q0 := 0) rfl) rfl rfl hl.1 rfl (lv_room (Nat.le_of_ble_eq_true rfl)) dX5_ways_3 ⟨Nat.le_of_ble_eq_true rfl, Nat.le_of_ble_eq_true rfl⟩) ?_
  refine zasi (show (bI (iT nt ((nI t)))) = nI 1 from by rw [iT_t ht (by omega)]; rfl) ?_
  refine lv_if_ne (tgt := 13) hx hb dX5_ways_6 (by decide) (fun c_6 => ?_) (fun c_6 => ?_)
  · refine lv_aload_n hx hb dX5_ways_13 rfl (lv_at hl 0 rfl) ?_
    refine lv_iload_n hx hb dX5_ways_14 rfl (lv_at hl 2 rfl) ?_
    refine lv_iload_n hx hb dX5_ways_15 rfl (lv_at hl 3 rfl) ?_
    refine lv_iload hx hb dX5_ways_16 (lv_at hl 4 rfl) ?_
    refine zci (va_runV (As := [.int (nI y), .int (nI g), .int (nI d)]) (rest := [.ref hm]) ⟨hx, hb, hml, hown, hts⟩ (m_asked l D ca sa hm ad th td nt np nc M ((nI y)) ((nI g)) ((nI d))) (cwV 3 hts gX5_ways_X5_isAsked rfl rfl rfl (by decide +kernel) ⟨Nat.le_of_ble_eq_true rfl, Nat.le_of_ble_eq_true rfl⟩) (zpV hP hE (ci := 5) rfl (q0 := 0) rfl) rfl rfl hl.1 rfl (lv_room (Nat.le_of_ble_eq_true rfl)) dX5_ways_18 ⟨Nat.le_of_ble_eq_true rfl, Nat.le_of_ble_eq_true rfl⟩) ?_
    refine zasi (show (bI (iB ((nI y)) (nI 0) (nI 55) && (iB ((nI g)) (nI 0) (nI 3) && iB ((nI d)) (nI 0) (nI td)))) = nI 1 from by rw [iB_t (Nat.zero_le _) hy (by decide), iB_t (Nat.zero_le _) hg (by decide), iB_t (Nat.zero_le _) hd (by omega)]; rfl) ?_
    refine lv_if_eq (tgt := 28) hx hb dX5_ways_21 (by decide) (fun c_21 => ?_) (fun c_21 => ?_)
    · exact absurd c_21 (by decide)
    · refine lv_iconst (v := nI 0) hx hb dX5_ways_24 (by decide) ?_
      refine lv_goto (tgt := 29) hx hb dX5_ways_25 (by decide) ?_
      refine zmci (va_runV (As := [.int (nI 0)]) (rest := []) ⟨hx, hb, hml, hown, hts⟩ (m_holds l D ca sa hm ad th td nt np nc M 0 (by decide) _) (cwV 1 hts gX5_ways_X5_holds rfl rfl rfl (by decide +kernel) ⟨Nat.le_of_ble_eq_true rfl, Nat.le_of_ble_eq_true rfl⟩) (zmV hP hD hE (ci := 5) rfl (q0 := 0) rfl) rfl rfl hl.1 rfl (lv_room (Nat.le_of_ble_eq_true rfl)) dX5_ways_29 ⟨Nat.le_of_ble_eq_true rfl, Nat.le_of_ble_eq_true rfl⟩) hD rfl hS hA (fun r9 H locs er hP hD hS => ?_)
      subst er
      refine zasi (show bI (decide (0 = 0)) = nI 1 from rfl) ?_
      refine lv_if_eq (tgt := 47) hx hb dX5_ways_32 (by decide) (fun c_32 => ?_) (fun c_32 => ?_)
      · exact absurd c_32 (by decide)
      · refine lv_aload_n hx hb dX5_ways_35 rfl (lv_at hl 0 rfl) ?_
        refine lv_iload_n hx hb dX5_ways_36 rfl (lv_at hl 1 rfl) ?_
        refine lv_iload_n hx hb dX5_ways_37 rfl (lv_at hl 2 rfl) ?_
        refine lv_iload_n hx hb dX5_ways_38 rfl (lv_at hl 3 rfl) ?_
        refine lv_iload hx hb dX5_ways_39 (lv_at hl 4 rfl) ?_
        refine zci (va_runV (As := [.int (nI t), .int (nI y), .int (nI g), .int (nI d)]) (rest := []) ⟨hx, hb, hml, hown, hts⟩ (m_waysTo l D ca sa hm ad (nI 0) td nt np nc M t y g d hnc hnp (by omega) hy (by omega)) (cwV 4 hts gX5_ways_X5_waysTo rfl rfl rfl (by decide +kernel) ⟨Nat.le_of_ble_eq_true rfl, Nat.le_of_ble_eq_true rfl⟩) (zpV hP hE (ci := 5) rfl (q0 := 0) rfl) rfl rfl hl.1 rfl (lv_room (Nat.le_of_ble_eq_true rfl)) dX5_ways_41 ⟨Nat.le_of_ble_eq_true rfl, Nat.le_of_ble_eq_true rfl⟩) ?_
        refine lv_goto (tgt := 48) hx hb dX5_ways_44 (by decide) ?_
        exact zmri hx hb hr hlocks dX5_ways_48 hP hS (rfl)
  · exact absurd c_6 (by decide)

set_option maxHeartbeats 4000000 in
set_option maxRecDepth 100000 in
theorem m_ways_1 (l : Launch) (D : va_G) (ca : Nat → ClassId) (sa : Nat → Nat) (hm : Nat) (ad : Nat → Nat) (th : Int32) (td nt np nc : Nat) (M : Nat → Nat → Int32) (t y g d : Int32) (hbad : iT nt t = false) (sz : Nat) : Met l yX5_ways wsX5_ways ({ frames := 9, cells := 0, slots := 0, locals := 360 }) (va_Pc [.ref hm, .int t, .int y, .int g, .int d] (zMp D (mW hm ad ca th td nt np nc M) ca sa sz)) (va_Qi (fun (r : Int32) (_ : Unit) => True) (fun _ t9 => va_P D vwCl (mW hm ad ca (nI 1) td nt np nc M) t9.heap) (va_A (mW hm ad ca th td nt np nc M) sz)) 0 0 (va_A (mW hm ad ca th td nt np nc M) sz) := by
  refine Met.ofW (cc := cX5_ways) (maxL := 5) (ret := (some .int)) (by decide) rfl ?_
  intro p e s m args below meth c s₁ B hml hv
  obtain ⟨rfl, hsz, hP, hD0, hE⟩ := hv
  have hx := B.exec
  have hb := B.bytes
  have hr := B.returns
  have hts := atoms_spec (ws := wsX5_ways) B.pre
  have hown : s.vm.findClass RX5 = some m.cls := findClass_of_methodNamed B.named
  have hlocks := B.notSynchronized
  have hl := lv_entry ([.ref hm, .int t, .int y, .int g, .int d]) (n := 5) (Nat.le_of_ble_eq_true rfl)
  rw [lg_entry_eq]
  generalize (lg_sl ([.ref hm, .int t, .int y, .int g, .int d]) ++ List.replicate (5 - (lg_sl ([.ref hm, .int t, .int y, .int g, .int d])).length) Slot.unset).toArray = ls at hl ⊢
  have hl : lv_has ls 5 [(0, .ref hm), (1, .int t), (2, .int y), (3, .int g), (4, .int d)] := hl
  subst hsz
  have hD := hD0.self (sz := s.heap.size)
  generalize hAe : va_A (mW hm ad ca th td nt np nc M) s.heap.size = A at hD ⊢
  have hA : ∀ q : Nat, s.heap.size ≤ q → A q := fun q h => by rw [← hAe]; exact Or.inr h
  have hS : va_S A s.heap s.heap [] := va_S.rf
  refine lv_aload_n hx hb dX5_ways_0 rfl (lv_at hl 0 rfl) ?_
  refine lv_aload_n hx hb dX5_ways_1 rfl (lv_at hl 0 rfl) ?_
  refine lv_iload_n hx hb dX5_ways_2 rfl (lv_at hl 1 rfl) ?_
  refine zci (va_runV (As := [.int t]) (rest := [.ref hm]) ⟨hx, hb, hml, hown, hts⟩ (m_isT l D ca sa hm ad th td nt np nc M (t)) (cwV 1 hts gX5_ways_X5_isTitle rfl rfl rfl (by decide +kernel) ⟨Nat.le_of_ble_eq_true rfl, Nat.le_of_ble_eq_true rfl⟩) (zpV hP hE (ci := 5) rfl (q0 := 0) rfl) rfl rfl hl.1 rfl (lv_room (Nat.le_of_ble_eq_true rfl)) dX5_ways_3 ⟨Nat.le_of_ble_eq_true rfl, Nat.le_of_ble_eq_true rfl⟩) ?_
  refine zasi (show (bI (iT nt (t))) = nI 0 from by rw [hbad]; rfl) ?_
  refine lv_if_ne (tgt := 13) hx hb dX5_ways_6 (by decide) (fun c_6 => ?_) (fun c_6 => ?_)
  · exact absurd c_6 (by decide)
  · refine lv_iconst (v := nI 1) hx hb dX5_ways_9 (by decide) ?_
    refine lv_goto (tgt := 29) hx hb dX5_ways_10 (by decide) ?_
    refine zmci (va_runV (As := [.int (nI 1)]) (rest := []) ⟨hx, hb, hml, hown, hts⟩ (m_holds l D ca sa hm ad th td nt np nc M 1 (by decide) _) (cwV 1 hts gX5_ways_X5_holds rfl rfl rfl (by decide +kernel) ⟨Nat.le_of_ble_eq_true rfl, Nat.le_of_ble_eq_true rfl⟩) (zmV hP hD hE (ci := 5) rfl (q0 := 0) rfl) rfl rfl hl.1 rfl (lv_room (Nat.le_of_ble_eq_true rfl)) dX5_ways_29 ⟨Nat.le_of_ble_eq_true rfl, Nat.le_of_ble_eq_true rfl⟩) hD rfl hS hA (fun r9 H locs er hP hD hS => ?_)
    subst er
    refine zasi (show bI (decide (1 = 0)) = nI 0 from rfl) ?_
    refine lv_if_eq (tgt := 47) hx hb dX5_ways_32 (by decide) (fun c_32 => ?_) (fun c_32 => ?_)
    · refine lv_iconst (v := nI 0) hx hb dX5_ways_47 (by decide) ?_
      exact zmri hx hb hr hlocks dX5_ways_48 hP hS (trivial)
    · exact absurd c_32 (by decide)

set_option maxHeartbeats 4000000 in
set_option maxRecDepth 100000 in
theorem m_ways_2 (l : Launch) (D : va_G) (ca : Nat → ClassId) (sa : Nat → Nat) (hm : Nat) (ad : Nat → Nat) (th : Int32) (td nt np nc : Nat) (M : Nat → Nat → Int32) (t y g d : Int32) (hok : iT nt t = true) (hbad : (iB y (nI 0) (nI 55) && (iB g (nI 0) (nI 3) && iB d (nI 0) (nI td))) = false) (sz : Nat) : Met l yX5_ways wsX5_ways ({ frames := 9, cells := 0, slots := 0, locals := 360 }) (va_Pc [.ref hm, .int t, .int y, .int g, .int d] (zMp D (mW hm ad ca th td nt np nc M) ca sa sz)) (va_Qi (fun (r : Int32) (_ : Unit) => True) (fun _ t9 => va_P D vwCl (mW hm ad ca (nI 2) td nt np nc M) t9.heap) (va_A (mW hm ad ca th td nt np nc M) sz)) 0 0 (va_A (mW hm ad ca th td nt np nc M) sz) := by
  refine Met.ofW (cc := cX5_ways) (maxL := 5) (ret := (some .int)) (by decide) rfl ?_
  intro p e s m args below meth c s₁ B hml hv
  obtain ⟨rfl, hsz, hP, hD0, hE⟩ := hv
  have hx := B.exec
  have hb := B.bytes
  have hr := B.returns
  have hts := atoms_spec (ws := wsX5_ways) B.pre
  have hown : s.vm.findClass RX5 = some m.cls := findClass_of_methodNamed B.named
  have hlocks := B.notSynchronized
  have hl := lv_entry ([.ref hm, .int t, .int y, .int g, .int d]) (n := 5) (Nat.le_of_ble_eq_true rfl)
  rw [lg_entry_eq]
  generalize (lg_sl ([.ref hm, .int t, .int y, .int g, .int d]) ++ List.replicate (5 - (lg_sl ([.ref hm, .int t, .int y, .int g, .int d])).length) Slot.unset).toArray = ls at hl ⊢
  have hl : lv_has ls 5 [(0, .ref hm), (1, .int t), (2, .int y), (3, .int g), (4, .int d)] := hl
  subst hsz
  have hD := hD0.self (sz := s.heap.size)
  generalize hAe : va_A (mW hm ad ca th td nt np nc M) s.heap.size = A at hD ⊢
  have hA : ∀ q : Nat, s.heap.size ≤ q → A q := fun q h => by rw [← hAe]; exact Or.inr h
  have hS : va_S A s.heap s.heap [] := va_S.rf
  refine lv_aload_n hx hb dX5_ways_0 rfl (lv_at hl 0 rfl) ?_
  refine lv_aload_n hx hb dX5_ways_1 rfl (lv_at hl 0 rfl) ?_
  refine lv_iload_n hx hb dX5_ways_2 rfl (lv_at hl 1 rfl) ?_
  refine zci (va_runV (As := [.int t]) (rest := [.ref hm]) ⟨hx, hb, hml, hown, hts⟩ (m_isT l D ca sa hm ad th td nt np nc M (t)) (cwV 1 hts gX5_ways_X5_isTitle rfl rfl rfl (by decide +kernel) ⟨Nat.le_of_ble_eq_true rfl, Nat.le_of_ble_eq_true rfl⟩) (zpV hP hE (ci := 5) rfl (q0 := 0) rfl) rfl rfl hl.1 rfl (lv_room (Nat.le_of_ble_eq_true rfl)) dX5_ways_3 ⟨Nat.le_of_ble_eq_true rfl, Nat.le_of_ble_eq_true rfl⟩) ?_
  refine zasi (show (bI (iT nt (t))) = nI 1 from by rw [hok]; rfl) ?_
  refine lv_if_ne (tgt := 13) hx hb dX5_ways_6 (by decide) (fun c_6 => ?_) (fun c_6 => ?_)
  · refine lv_aload_n hx hb dX5_ways_13 rfl (lv_at hl 0 rfl) ?_
    refine lv_iload_n hx hb dX5_ways_14 rfl (lv_at hl 2 rfl) ?_
    refine lv_iload_n hx hb dX5_ways_15 rfl (lv_at hl 3 rfl) ?_
    refine lv_iload hx hb dX5_ways_16 (lv_at hl 4 rfl) ?_
    refine zci (va_runV (As := [.int y, .int g, .int d]) (rest := [.ref hm]) ⟨hx, hb, hml, hown, hts⟩ (m_asked l D ca sa hm ad th td nt np nc M (y) (g) (d)) (cwV 3 hts gX5_ways_X5_isAsked rfl rfl rfl (by decide +kernel) ⟨Nat.le_of_ble_eq_true rfl, Nat.le_of_ble_eq_true rfl⟩) (zpV hP hE (ci := 5) rfl (q0 := 0) rfl) rfl rfl hl.1 rfl (lv_room (Nat.le_of_ble_eq_true rfl)) dX5_ways_18 ⟨Nat.le_of_ble_eq_true rfl, Nat.le_of_ble_eq_true rfl⟩) ?_
    refine zasi (show (bI (iB (y) (nI 0) (nI 55) && (iB (g) (nI 0) (nI 3) && iB (d) (nI 0) (nI td)))) = nI 0 from by rw [hbad]; rfl) ?_
    refine lv_if_eq (tgt := 28) hx hb dX5_ways_21 (by decide) (fun c_21 => ?_) (fun c_21 => ?_)
    · refine lv_iconst (v := nI 2) hx hb dX5_ways_28 (by decide) ?_
      refine zmci (va_runV (As := [.int (nI 2)]) (rest := []) ⟨hx, hb, hml, hown, hts⟩ (m_holds l D ca sa hm ad th td nt np nc M 2 (by decide) _) (cwV 1 hts gX5_ways_X5_holds rfl rfl rfl (by decide +kernel) ⟨Nat.le_of_ble_eq_true rfl, Nat.le_of_ble_eq_true rfl⟩) (zmV hP hD hE (ci := 5) rfl (q0 := 0) rfl) rfl rfl hl.1 rfl (lv_room (Nat.le_of_ble_eq_true rfl)) dX5_ways_29 ⟨Nat.le_of_ble_eq_true rfl, Nat.le_of_ble_eq_true rfl⟩) hD rfl hS hA (fun r9 H locs er hP hD hS => ?_)
      subst er
      refine zasi (show bI (decide (2 = 0)) = nI 0 from rfl) ?_
      refine lv_if_eq (tgt := 47) hx hb dX5_ways_32 (by decide) (fun c_32 => ?_) (fun c_32 => ?_)
      · refine lv_iconst (v := nI 0) hx hb dX5_ways_47 (by decide) ?_
        exact zmri hx hb hr hlocks dX5_ways_48 hP hS (trivial)
      · exact absurd c_32 (by decide)
    · exact absurd c_21 (by decide)
  · exact absurd c_6 (by decide)

set_option maxHeartbeats 4000000 in
set_option maxRecDepth 100000 in
theorem m_ofT (l : Launch) (D : va_G) (ca : Nat → ClassId) (sa : Nat → Nat) (hm : Nat) (ad : Nat → Nat) (th : Int32) (td nt np nc : Nat) (M : Nat → Nat → Int32) (t g : Nat) (ht : t < nt) (hnt : nt ≤ 20) (hg : g ≤ 3) (sz : Nat) : Met l yX5_isOfTitle wsX5_isOfTitle ({ frames := 2, cells := 0, slots := 0, locals := 80 }) (va_Pc [.ref hm, .int (nI t), .int (nI g)] (zMp D (mW hm ad ca th td nt np nc M) ca sa sz)) (va_Qi (fun (r : Int32) (_ : Unit) => r = nI 1) (fun _ t9 => va_P D vwCl (mW hm ad ca (nI 0) td nt np nc M) t9.heap) (va_A (mW hm ad ca th td nt np nc M) sz)) 0 0 (va_A (mW hm ad ca th td nt np nc M) sz) := by
  refine Met.ofW (cc := cX5_isOfTitle) (maxL := 3) (ret := (some .boolean)) (by decide) rfl ?_
  intro p e s m args below meth c s₁ B hml hv
  obtain ⟨rfl, hsz, hP, hD0, hE⟩ := hv
  have hx := B.exec
  have hb := B.bytes
  have hr := B.returns
  have hts := atoms_spec (ws := wsX5_isOfTitle) B.pre
  have hown : s.vm.findClass RX5 = some m.cls := findClass_of_methodNamed B.named
  have hlocks := B.notSynchronized
  have hl := lv_entry ([.ref hm, .int (nI t), .int (nI g)]) (n := 3) (Nat.le_of_ble_eq_true rfl)
  rw [lg_entry_eq]
  generalize (lg_sl ([.ref hm, .int (nI t), .int (nI g)]) ++ List.replicate (3 - (lg_sl ([.ref hm, .int (nI t), .int (nI g)])).length) Slot.unset).toArray = ls at hl ⊢
  have hl : lv_has ls 3 [(0, .ref hm), (1, .int (nI t)), (2, .int (nI g))] := hl
  subst hsz
  have hD := hD0.self (sz := s.heap.size)
  generalize hAe : va_A (mW hm ad ca th td nt np nc M) s.heap.size = A at hD ⊢
  have hA : ∀ q : Nat, s.heap.size ≤ q → A q := fun q h => by rw [← hAe]; exact Or.inr h
  have hS : va_S A s.heap s.heap [] := va_S.rf
  refine lv_aload_n hx hb dX5_isOfTitle_0 rfl (lv_at hl 0 rfl) ?_
  refine lv_aload_n hx hb dX5_isOfTitle_1 rfl (lv_at hl 0 rfl) ?_
  refine lv_iload_n hx hb dX5_isOfTitle_2 rfl (lv_at hl 1 rfl) ?_
  refine zci (va_runV (As := [.int (nI t)]) (rest := [.ref hm]) ⟨hx, hb, hml, hown, hts⟩ (m_isT l D ca sa hm ad th td nt np nc M ((nI t))) (cwV 1 hts gX5_isOfTitle_X5_isTitle rfl rfl rfl (by decide +kernel) ⟨Nat.le_of_ble_eq_true rfl, Nat.le_of_ble_eq_true rfl⟩) (zpV hP hE (ci := 5) rfl (q0 := 0) rfl) rfl rfl hl.1 rfl (lv_room (Nat.le_of_ble_eq_true rfl)) dX5_isOfTitle_3 ⟨Nat.le_of_ble_eq_true rfl, Nat.le_of_ble_eq_true rfl⟩) ?_
  refine zasi (show (bI (iT nt ((nI t)))) = nI 1 from by rw [iT_t ht (by omega)]; rfl) ?_
  refine lv_if_ne (tgt := 13) hx hb dX5_isOfTitle_6 (by decide) (fun c_6 => ?_) (fun c_6 => ?_)
  · refine lv_iload_n hx hb dX5_isOfTitle_13 rfl (lv_at hl 2 rfl) ?_
    refine lv_iconst (v := nI 0) hx hb dX5_isOfTitle_14 (by decide) ?_
    refine lv_iconst (v := nI 3) hx hb dX5_isOfTitle_15 (by decide) ?_
    refine zci (va_runS (As := [.int (nI g), .int (nI 0), .int (nI 3)]) (rest := [.ref hm]) ⟨hx, hb, hml, hown, hts⟩ (m_isB l D ca sa _ _ _ _) (va_cwS 3 hts gX5_isOfTitle_X5_isBetween rfl rfl rfl (by decide +kernel) ⟨Nat.le_of_ble_eq_true rfl, Nat.le_of_ble_eq_true rfl⟩) (zpS hP hE) rfl rfl hl.1 rfl (lv_room (Nat.le_of_ble_eq_true rfl)) dX5_isOfTitle_16 ⟨Nat.le_of_ble_eq_true rfl, Nat.le_of_ble_eq_true rfl⟩) ?_
    refine zasi (show (bI (iB ((nI g)) ((nI 0)) ((nI 3)))) = nI 1 from by rw [iB_t (Nat.zero_le _) hg (by decide)]; rfl) ?_
    refine lv_if_eq (tgt := 26) hx hb dX5_isOfTitle_19 (by decide) (fun c_19 => ?_) (fun c_19 => ?_)
    · exact absurd c_19 (by decide)
    · refine lv_iconst (v := nI 0) hx hb dX5_isOfTitle_22 (by decide) ?_
      refine lv_goto (tgt := 27) hx hb dX5_isOfTitle_23 (by decide) ?_
      refine zmci (va_runV (As := [.int (nI 0)]) (rest := []) ⟨hx, hb, hml, hown, hts⟩ (m_holds l D ca sa hm ad th td nt np nc M 0 (by decide) _) (cwV 1 hts gX5_isOfTitle_X5_holds rfl rfl rfl (by decide +kernel) ⟨Nat.le_of_ble_eq_true rfl, Nat.le_of_ble_eq_true rfl⟩) (zmV hP hD hE (ci := 5) rfl (q0 := 0) rfl) rfl rfl hl.1 rfl (lv_room (Nat.le_of_ble_eq_true rfl)) dX5_isOfTitle_27 ⟨Nat.le_of_ble_eq_true rfl, Nat.le_of_ble_eq_true rfl⟩) hD rfl hS hA (fun r9 H locs er hP hD hS => ?_)
      subst er
      refine zasi (show bI (decide (0 = 0)) = nI 1 from rfl) ?_
      exact zmrz hx hb hr hlocks dX5_isOfTitle_30 (rfl) hP hS (rfl)
  · exact absurd c_6 (by decide)

set_option maxHeartbeats 4000000 in
set_option maxRecDepth 100000 in
theorem m_ofT_1 (l : Launch) (D : va_G) (ca : Nat → ClassId) (sa : Nat → Nat) (hm : Nat) (ad : Nat → Nat) (th : Int32) (td nt np nc : Nat) (M : Nat → Nat → Int32) (t g : Int32) (hbad : iT nt t = false) (sz : Nat) : Met l yX5_isOfTitle wsX5_isOfTitle ({ frames := 2, cells := 0, slots := 0, locals := 80 }) (va_Pc [.ref hm, .int t, .int g] (zMp D (mW hm ad ca th td nt np nc M) ca sa sz)) (va_Qi (fun (r : Int32) (_ : Unit) => r = nI 0) (fun _ t9 => va_P D vwCl (mW hm ad ca (nI 1) td nt np nc M) t9.heap) (va_A (mW hm ad ca th td nt np nc M) sz)) 0 0 (va_A (mW hm ad ca th td nt np nc M) sz) := by
  refine Met.ofW (cc := cX5_isOfTitle) (maxL := 3) (ret := (some .boolean)) (by decide) rfl ?_
  intro p e s m args below meth c s₁ B hml hv
  obtain ⟨rfl, hsz, hP, hD0, hE⟩ := hv
  have hx := B.exec
  have hb := B.bytes
  have hr := B.returns
  have hts := atoms_spec (ws := wsX5_isOfTitle) B.pre
  have hown : s.vm.findClass RX5 = some m.cls := findClass_of_methodNamed B.named
  have hlocks := B.notSynchronized
  have hl := lv_entry ([.ref hm, .int t, .int g]) (n := 3) (Nat.le_of_ble_eq_true rfl)
  rw [lg_entry_eq]
  generalize (lg_sl ([.ref hm, .int t, .int g]) ++ List.replicate (3 - (lg_sl ([.ref hm, .int t, .int g])).length) Slot.unset).toArray = ls at hl ⊢
  have hl : lv_has ls 3 [(0, .ref hm), (1, .int t), (2, .int g)] := hl
  subst hsz
  have hD := hD0.self (sz := s.heap.size)
  generalize hAe : va_A (mW hm ad ca th td nt np nc M) s.heap.size = A at hD ⊢
  have hA : ∀ q : Nat, s.heap.size ≤ q → A q := fun q h => by rw [← hAe]; exact Or.inr h
  have hS : va_S A s.heap s.heap [] := va_S.rf
  refine lv_aload_n hx hb dX5_isOfTitle_0 rfl (lv_at hl 0 rfl) ?_
  refine lv_aload_n hx hb dX5_isOfTitle_1 rfl (lv_at hl 0 rfl) ?_
  refine lv_iload_n hx hb dX5_isOfTitle_2 rfl (lv_at hl 1 rfl) ?_
  refine zci (va_runV (As := [.int t]) (rest := [.ref hm]) ⟨hx, hb, hml, hown, hts⟩ (m_isT l D ca sa hm ad th td nt np nc M (t)) (cwV 1 hts gX5_isOfTitle_X5_isTitle rfl rfl rfl (by decide +kernel) ⟨Nat.le_of_ble_eq_true rfl, Nat.le_of_ble_eq_true rfl⟩) (zpV hP hE (ci := 5) rfl (q0 := 0) rfl) rfl rfl hl.1 rfl (lv_room (Nat.le_of_ble_eq_true rfl)) dX5_isOfTitle_3 ⟨Nat.le_of_ble_eq_true rfl, Nat.le_of_ble_eq_true rfl⟩) ?_
  refine zasi (show (bI (iT nt (t))) = nI 0 from by rw [hbad]; rfl) ?_
  refine lv_if_ne (tgt := 13) hx hb dX5_isOfTitle_6 (by decide) (fun c_6 => ?_) (fun c_6 => ?_)
  · exact absurd c_6 (by decide)
  · refine lv_iconst (v := nI 1) hx hb dX5_isOfTitle_9 (by decide) ?_
    refine lv_goto (tgt := 27) hx hb dX5_isOfTitle_10 (by decide) ?_
    refine zmci (va_runV (As := [.int (nI 1)]) (rest := []) ⟨hx, hb, hml, hown, hts⟩ (m_holds l D ca sa hm ad th td nt np nc M 1 (by decide) _) (cwV 1 hts gX5_isOfTitle_X5_holds rfl rfl rfl (by decide +kernel) ⟨Nat.le_of_ble_eq_true rfl, Nat.le_of_ble_eq_true rfl⟩) (zmV hP hD hE (ci := 5) rfl (q0 := 0) rfl) rfl rfl hl.1 rfl (lv_room (Nat.le_of_ble_eq_true rfl)) dX5_isOfTitle_27 ⟨Nat.le_of_ble_eq_true rfl, Nat.le_of_ble_eq_true rfl⟩) hD rfl hS hA (fun r9 H locs er hP hD hS => ?_)
    subst er
    refine zasi (show bI (decide (1 = 0)) = nI 0 from rfl) ?_
    exact zmrz hx hb hr hlocks dX5_isOfTitle_30 (rfl) hP hS (rfl)

set_option maxHeartbeats 4000000 in
set_option maxRecDepth 100000 in
theorem m_ofT_2 (l : Launch) (D : va_G) (ca : Nat → ClassId) (sa : Nat → Nat) (hm : Nat) (ad : Nat → Nat) (th : Int32) (td nt np nc : Nat) (M : Nat → Nat → Int32) (t g : Int32) (hok : iT nt t = true) (hbad : iB g (nI 0) (nI 3) = false) (sz : Nat) : Met l yX5_isOfTitle wsX5_isOfTitle ({ frames := 2, cells := 0, slots := 0, locals := 80 }) (va_Pc [.ref hm, .int t, .int g] (zMp D (mW hm ad ca th td nt np nc M) ca sa sz)) (va_Qi (fun (r : Int32) (_ : Unit) => r = nI 0) (fun _ t9 => va_P D vwCl (mW hm ad ca (nI 2) td nt np nc M) t9.heap) (va_A (mW hm ad ca th td nt np nc M) sz)) 0 0 (va_A (mW hm ad ca th td nt np nc M) sz) := by
  refine Met.ofW (cc := cX5_isOfTitle) (maxL := 3) (ret := (some .boolean)) (by decide) rfl ?_
  intro p e s m args below meth c s₁ B hml hv
  obtain ⟨rfl, hsz, hP, hD0, hE⟩ := hv
  have hx := B.exec
  have hb := B.bytes
  have hr := B.returns
  have hts := atoms_spec (ws := wsX5_isOfTitle) B.pre
  have hown : s.vm.findClass RX5 = some m.cls := findClass_of_methodNamed B.named
  have hlocks := B.notSynchronized
  have hl := lv_entry ([.ref hm, .int t, .int g]) (n := 3) (Nat.le_of_ble_eq_true rfl)
  rw [lg_entry_eq]
  generalize (lg_sl ([.ref hm, .int t, .int g]) ++ List.replicate (3 - (lg_sl ([.ref hm, .int t, .int g])).length) Slot.unset).toArray = ls at hl ⊢
  have hl : lv_has ls 3 [(0, .ref hm), (1, .int t), (2, .int g)] := hl
  subst hsz
  have hD := hD0.self (sz := s.heap.size)
  generalize hAe : va_A (mW hm ad ca th td nt np nc M) s.heap.size = A at hD ⊢
  have hA : ∀ q : Nat, s.heap.size ≤ q → A q := fun q h => by rw [← hAe]; exact Or.inr h
  have hS : va_S A s.heap s.heap [] := va_S.rf
  refine lv_aload_n hx hb dX5_isOfTitle_0 rfl (lv_at hl 0 rfl) ?_
  refine lv_aload_n hx hb dX5_isOfTitle_1 rfl (lv_at hl 0 rfl) ?_
  refine lv_iload_n hx hb dX5_isOfTitle_2 rfl (lv_at hl 1 rfl) ?_
  refine zci (va_runV (As := [.int t]) (rest := [.ref hm]) ⟨hx, hb, hml, hown, hts⟩ (m_isT l D ca sa hm ad th td nt np nc M (t)) (cwV 1 hts gX5_isOfTitle_X5_isTitle rfl rfl rfl (by decide +kernel) ⟨Nat.le_of_ble_eq_true rfl, Nat.le_of_ble_eq_true rfl⟩) (zpV hP hE (ci := 5) rfl (q0 := 0) rfl) rfl rfl hl.1 rfl (lv_room (Nat.le_of_ble_eq_true rfl)) dX5_isOfTitle_3 ⟨Nat.le_of_ble_eq_true rfl, Nat.le_of_ble_eq_true rfl⟩) ?_
  refine zasi (show (bI (iT nt (t))) = nI 1 from by rw [hok]; rfl) ?_
  refine lv_if_ne (tgt := 13) hx hb dX5_isOfTitle_6 (by decide) (fun c_6 => ?_) (fun c_6 => ?_)
  · refine lv_iload_n hx hb dX5_isOfTitle_13 rfl (lv_at hl 2 rfl) ?_
    refine lv_iconst (v := nI 0) hx hb dX5_isOfTitle_14 (by decide) ?_
    refine lv_iconst (v := nI 3) hx hb dX5_isOfTitle_15 (by decide) ?_
    refine zci (va_runS (As := [.int g, .int (nI 0), .int (nI 3)]) (rest := [.ref hm]) ⟨hx, hb, hml, hown, hts⟩ (m_isB l D ca sa _ _ _ _) (va_cwS 3 hts gX5_isOfTitle_X5_isBetween rfl rfl rfl (by decide +kernel) ⟨Nat.le_of_ble_eq_true rfl, Nat.le_of_ble_eq_true rfl⟩) (zpS hP hE) rfl rfl hl.1 rfl (lv_room (Nat.le_of_ble_eq_true rfl)) dX5_isOfTitle_16 ⟨Nat.le_of_ble_eq_true rfl, Nat.le_of_ble_eq_true rfl⟩) ?_
    refine zasi (show (bI (iB (g) ((nI 0)) ((nI 3)))) = nI 0 from by rw [hbad]; rfl) ?_
    refine lv_if_eq (tgt := 26) hx hb dX5_isOfTitle_19 (by decide) (fun c_19 => ?_) (fun c_19 => ?_)
    · refine lv_iconst (v := nI 2) hx hb dX5_isOfTitle_26 (by decide) ?_
      refine zmci (va_runV (As := [.int (nI 2)]) (rest := []) ⟨hx, hb, hml, hown, hts⟩ (m_holds l D ca sa hm ad th td nt np nc M 2 (by decide) _) (cwV 1 hts gX5_isOfTitle_X5_holds rfl rfl rfl (by decide +kernel) ⟨Nat.le_of_ble_eq_true rfl, Nat.le_of_ble_eq_true rfl⟩) (zmV hP hD hE (ci := 5) rfl (q0 := 0) rfl) rfl rfl hl.1 rfl (lv_room (Nat.le_of_ble_eq_true rfl)) dX5_isOfTitle_27 ⟨Nat.le_of_ble_eq_true rfl, Nat.le_of_ble_eq_true rfl⟩) hD rfl hS hA (fun r9 H locs er hP hD hS => ?_)
      subst er
      refine zasi (show bI (decide (2 = 0)) = nI 0 from rfl) ?_
      exact zmrz hx hb hr hlocks dX5_isOfTitle_30 (rfl) hP hS (rfl)
    · exact absurd c_19 (by decide)
  · exact absurd c_6 (by decide)

theorem mWays_le (M : Nat → Nat → Int32) (nc t y g d : Nat) : ∀ n, mWays M nc t y g d n ≤ n
  | 0 => Nat.le_refl _
  | n + 1 => by
    have h := mWays_le M nc t y g d n
    rw [mWays]
    by_cases c : (mLets M n g && mCov M nc n t y d) = true
    · rw [if_pos c]; omega
    · rw [if_neg c]; omega

set_option maxHeartbeats 4000000 in
set_option maxRecDepth 100000 in
theorem m_gap (l : Launch) (D : va_G) (ca : Nat → ClassId) (sa : Nat → Nat) (hm : Nat) (ad : Nat → Nat) (th : Int32) (td nt np nc : Nat) (M : Nat → Nat → Int32) (t g fy : Nat) (ht : t < nt) (hnp : np ≤ 10) (hnt : nt ≤ 20) (hnc : nc ≤ 600) (hg : g ≤ 3) (htd : td ≤ 20000) (hfy : M 0 t = nI fy) (hf5 : fy ≤ 55) (sz : Nat) : Met l yX5_gap wsX5_gap ({ frames := 9, cells := 0, slots := 0, locals := 360 }) (va_Pc [.ref hm, .int (nI t), .int (nI g)] (zMp D (mW hm ad ca th td nt np nc M) ca sa sz)) (va_Qi (fun (r : Int32) (_ : Unit) => r = mGf M nc np t g td fy (td / 360 + 1) (-1)) (fun _ t9 => va_P D vwCl (mW hm ad ca (nI 0) td nt np nc M) t9.heap) (va_A (mW hm ad ca th td nt np nc M) sz)) 0 0 (va_A (mW hm ad ca th td nt np nc M) sz) := by
  refine Met.ofW (cc := cX5_gap) (maxL := 5) (ret := (some .int)) (by decide) rfl ?_
  intro p e s m args below meth c s₁ B hml hv
  obtain ⟨rfl, hsz, hP, hD0, hE⟩ := hv
  have hx := B.exec
  have hb := B.bytes
  have hr := B.returns
  have hts := atoms_spec (ws := wsX5_gap) B.pre
  have hown : s.vm.findClass RX5 = some m.cls := findClass_of_methodNamed B.named
  have hlocks := B.notSynchronized
  have hl := lv_entry ([.ref hm, .int (nI t), .int (nI g)]) (n := 5) (Nat.le_of_ble_eq_true rfl)
  rw [lg_entry_eq]
  generalize (lg_sl ([.ref hm, .int (nI t), .int (nI g)]) ++ List.replicate (5 - (lg_sl ([.ref hm, .int (nI t), .int (nI g)])).length) Slot.unset).toArray = ls at hl ⊢
  have hl : lv_has ls 5 [(0, .ref hm), (1, .int (nI t)), (2, .int (nI g))] := hl
  subst hsz
  have hD := hD0.self (sz := s.heap.size)
  generalize hAe : va_A (mW hm ad ca th td nt np nc M) s.heap.size = A at hD ⊢
  have hA : ∀ q : Nat, s.heap.size ≤ q → A q := fun q h => by rw [← hAe]; exact Or.inr h
  have hS : va_S A s.heap s.heap [] := va_S.rf
  refine lv_aload_n hx hb dX5_gap_0 rfl (lv_at hl 0 rfl) ?_
  refine lv_iload_n hx hb dX5_gap_1 rfl (lv_at hl 1 rfl) ?_
  refine lv_iload_n hx hb dX5_gap_2 rfl (lv_at hl 2 rfl) ?_
  refine zmci (va_runV (As := [.int (nI t), .int (nI g)]) (rest := []) ⟨hx, hb, hml, hown, hts⟩ (m_ofT l D ca sa hm ad th td nt np nc M t g ht hnt hg _) (cwV 2 hts gX5_gap_X5_isOfTitle rfl rfl rfl (by decide +kernel) ⟨Nat.le_of_ble_eq_true rfl, Nat.le_of_ble_eq_true rfl⟩) (zmV hP hD hE (ci := 5) rfl (q0 := 0) rfl) rfl rfl hl.1 rfl (lv_room (Nat.le_of_ble_eq_true rfl)) dX5_gap_3 ⟨Nat.le_of_ble_eq_true rfl, Nat.le_of_ble_eq_true rfl⟩) hD rfl hS hA (fun r9 H locs er hP hD hS => ?_)
  subst er
  refine lv_if_ne (tgt := 11) hx hb dX5_gap_6 (by decide) (fun c_6 => ?_) (fun c_6 => ?_)
  · refine lv_iconst (v := (-1)) hx hb dX5_gap_11 (by decide) ?_
    refine lv_istore_n (lv' := [(3, .int ((-1))), (0, .ref hm), (1, .int (nI t)), (2, .int (nI g))]) hx hb dX5_gap_12 rfl hl (by decide) rfl (fun ls hl => ?_)
    refine lv_aload_n hx hb dX5_gap_13 rfl (lv_at hl 1 rfl) ?_
    refine zmget (own := RX5) (ci := 5) (C := RX5) (T := TX5) (N := 18) hx hb hts (by decide +kernel) hown hE hP 0 rfl rfl 1 (by decide) (hts (.fieldLink RX5 78 "LinkResolverModel" "today" "I") (by decide +kernel)) rfl dX5_gap_14 ?_
    refine lv_sipush (v := nI 360) hx hb dX5_gap_17 (by decide) ?_
    refine lv_idiv hx hb dX5_gap_20 z360 ?_
    refine zasi (show ((nI td) / (nI 360)) = nI (td / 360) from zdiv htd) ?_
    refine lv_istore (lv' := [(4, .int (nI (td / 360))), (3, .int ((-1))), (0, .ref hm), (1, .int (nI t)), (2, .int (nI g))]) hx hb dX5_gap_21 hl (by decide) rfl (fun ls hl => ?_)
    have loop : ∀ (k : Nat) (fd : Int32) (ls : Array Slot), k ≤ 56 → mGf M nc np t g td fy k fd = mGf M nc np t g td fy (td / 360 + 1) (-1) → lv_has ls 5 [(4, .int (mI k)), (3, .int fd), (0, .ref hm), (1, .int (nI t)), (2, .int (nI g))] → W p l e (headSpec wsX5_gap ({ frames := 9, cells := 0, slots := 0, locals := 360 })).room s m ([.ref hm, .int (nI t), .int (nI g)] : List Value).toArray below meth c H locs 0 0 (MQ below (va_Qi (fun (r : Int32) (_ : Unit) => r = mGf M nc np t g td fy (td / 360 + 1) (-1)) (fun _ t9 => va_P D vwCl (mW hm ad ca (nI 0) td nt np nc M) t9.heap) A) ([.ref hm, .int (nI t), .int (nI g)] : List Value).toArray s 0 0 A) (F0 m 23 ls []) := by
      intro k
      induction k with
      | zero =>
        intro fd ls hk hcl hl
        have hl : lv_has ls 5 [(4, .int (-1)), (3, .int fd), (0, .ref hm), (1, .int (nI t)), (2, .int (nI g))] := hl
        refine lv_iload hx hb dX5_gap_23 (lv_at hl 0 rfl) ?_
        refine lv_aload_n hx hb dX5_gap_25 rfl (lv_at hl 2 rfl) ?_
        refine zmget (own := RX5) (ci := 5) (C := RX5) (T := TX5) (N := 18) hx hb hts (by decide +kernel) hown hE hP 0 rfl rfl 4 (by decide) (hts (.fieldLink RX5 7 "LinkResolverModel" "firstYears" "[I") (by decide +kernel)) rfl dX5_gap_26 ?_
        refine lv_iload_n hx hb dX5_gap_29 rfl (lv_at hl 3 rfl) ?_
        refine zmi hx hb hE hP 1 rfl (i := t) (show _ < _ from by omega) (by decide) dX5_gap_30 ?_
        refine zasi (show (M 0 t) = nI fy from hfy) ?_
        refine lv_icmp_lt (tgt := 62) hx hb dX5_gap_31 (by decide) (fun c_31 => ?_) (fun c_31 => ?_)
        · refine lv_iload_n hx hb dX5_gap_62 rfl (lv_at hl 1 rfl) ?_
          exact zmri hx hb hr hlocks dX5_gap_63 hP hS (hcl)
        · exact absurd (Int32.lt_of_lt_of_le (show (-1 : Int32) < 0 by decide) (nI_pos' (by omega))) c_31
      | succ k ih =>
        intro fd ls hk hcl hl
        have hl : lv_has ls 5 [(4, .int (nI k)), (3, .int fd), (0, .ref hm), (1, .int (nI t)), (2, .int (nI g))] := hl
        refine lv_iload hx hb dX5_gap_23 (lv_at hl 0 rfl) ?_
        refine lv_aload_n hx hb dX5_gap_25 rfl (lv_at hl 2 rfl) ?_
        refine zmget (own := RX5) (ci := 5) (C := RX5) (T := TX5) (N := 18) hx hb hts (by decide +kernel) hown hE hP 0 rfl rfl 4 (by decide) (hts (.fieldLink RX5 7 "LinkResolverModel" "firstYears" "[I") (by decide +kernel)) rfl dX5_gap_26 ?_
        refine lv_iload_n hx hb dX5_gap_29 rfl (lv_at hl 3 rfl) ?_
        refine zmi hx hb hE hP 1 rfl (i := t) (show _ < _ from by omega) (by decide) dX5_gap_30 ?_
        refine zasi (show (M 0 t) = nI fy from hfy) ?_
        refine lv_icmp_lt (tgt := 62) hx hb dX5_gap_31 (by decide) (fun c_31 => ?_) (fun c_31 => ?_)
        · refine lv_iload_n hx hb dX5_gap_62 rfl (lv_at hl 1 rfl) ?_
          exact zmri hx hb hr hlocks dX5_gap_63 hP hS (by rw [← hcl, mGf, if_neg (fun q => absurd ((nI_ltI (by omega) (by omega)).mp c_31) (by omega))])
        · have e9 : fy ≤ k := Nat.le_of_not_lt (fun q => c_31 ((nI_ltI (by omega) (by omega)).mpr q))
          have hwl := mWays_le M nc t k g td np
          refine lv_aload_n hx hb dX5_gap_34 rfl (lv_at hl 2 rfl) ?_
          refine lv_iload_n hx hb dX5_gap_35 rfl (lv_at hl 3 rfl) ?_
          refine lv_iload hx hb dX5_gap_36 (lv_at hl 0 rfl) ?_
          refine lv_iload_n hx hb dX5_gap_38 rfl (lv_at hl 4 rfl) ?_
          refine lv_aload_n hx hb dX5_gap_39 rfl (lv_at hl 2 rfl) ?_
          refine zmget (own := RX5) (ci := 5) (C := RX5) (T := TX5) (N := 18) hx hb hts (by decide +kernel) hown hE hP 0 rfl rfl 1 (by decide) (hts (.fieldLink RX5 78 "LinkResolverModel" "today" "I") (by decide +kernel)) rfl dX5_gap_40 ?_
          refine zci (va_runV (As := [.int (nI t), .int (nI k), .int (nI g), .int (nI td)]) (rest := []) ⟨hx, hb, hml, hown, hts⟩ (m_waysTo l D ca sa hm ad (nI 0) td nt np nc M t k g td hnc hnp (by omega) (by omega) htd) (cwV 4 hts gX5_gap_X5_waysTo rfl rfl rfl (by decide +kernel) ⟨Nat.le_of_ble_eq_true rfl, Nat.le_of_ble_eq_true rfl⟩) (zpV hP hE (ci := 5) rfl (q0 := 0) rfl) rfl rfl hl.1 rfl (lv_room (Nat.le_of_ble_eq_true rfl)) dX5_gap_43 ⟨Nat.le_of_ble_eq_true rfl, Nat.le_of_ble_eq_true rfl⟩) ?_
          refine lv_if_ne (tgt := 54) hx hb dX5_gap_46 (by decide) (fun c_46 => ?_) (fun c_46 => ?_)
          · refine lv_iload_n hx hb dX5_gap_54 rfl (lv_at hl 1 rfl) ?_
            refine lv_istore_n (lv' := [(3, .int fd), (4, .int (nI k)), (0, .ref hm), (1, .int (nI t)), (2, .int (nI g))]) hx hb dX5_gap_55 rfl hl (by decide) rfl (fun ls hl => ?_)
            refine lv_iinc (v := mI k) (lv' := [(4, .int (mI k)), (3, .int fd), (0, .ref hm), (1, .int (nI t)), (2, .int (nI g))]) hx hb dX5_gap_56 hl (k := 1) rfl (zm1 k) (by decide) rfl (fun ls hl => ?_)
            refine lv_goto (tgt := 23) hx hb dX5_gap_59 (by decide) ?_
            exact ih _ ls (by omega) (by rw [← hcl, mGf, if_pos e9, if_neg (fun q => c_46 (by rw [q]; rfl))]) (lv_sub hl [0, 1, 2, 3, 4] rfl)
          · refine lv_iload hx hb dX5_gap_49 (lv_at hl 0 rfl) ?_
            refine lv_goto (tgt := 55) hx hb dX5_gap_51 (by decide) ?_
            refine lv_istore_n (lv' := [(3, .int (nI k)), (4, .int (nI k)), (0, .ref hm), (1, .int (nI t)), (2, .int (nI g))]) hx hb dX5_gap_55 rfl hl (by decide) rfl (fun ls hl => ?_)
            refine lv_iinc (v := mI k) (lv' := [(4, .int (mI k)), (3, .int (nI k)), (0, .ref hm), (1, .int (nI t)), (2, .int (nI g))]) hx hb dX5_gap_56 hl (k := 1) rfl (zm1 k) (by decide) rfl (fun ls hl => ?_)
            refine lv_goto (tgt := 23) hx hb dX5_gap_59 (by decide) ?_
            exact ih _ ls (by omega) (by rw [← hcl, mGf, if_pos e9, if_pos ((nI_eq (a := mWays M nc t k g td np) (b := 0) (by omega) (by omega)).mp c_46)]) (lv_sub hl [0, 1, 2, 3, 4] rfl)
    have hq9 : td / 360 ≤ 55 := by omega
    exact loop (td / 360 + 1) (-1) ls (by omega) rfl (lv_sub hl [0, 1, 2, 3, 4] rfl)
  · exact absurd c_6 (by decide)

set_option maxHeartbeats 4000000 in
set_option maxRecDepth 100000 in
theorem m_gap_1 (l : Launch) (D : va_G) (ca : Nat → ClassId) (sa : Nat → Nat) (hm : Nat) (ad : Nat → Nat) (th : Int32) (td nt np nc : Nat) (M : Nat → Nat → Int32) (t g : Int32) (hbad : iT nt t = false) (sz : Nat) : Met l yX5_gap wsX5_gap ({ frames := 9, cells := 0, slots := 0, locals := 360 }) (va_Pc [.ref hm, .int t, .int g] (zMp D (mW hm ad ca th td nt np nc M) ca sa sz)) (va_Qi (fun (r : Int32) (_ : Unit) => True) (fun _ t9 => va_P D vwCl (mW hm ad ca (nI 1) td nt np nc M) t9.heap) (va_A (mW hm ad ca th td nt np nc M) sz)) 0 0 (va_A (mW hm ad ca th td nt np nc M) sz) := by
  refine Met.ofW (cc := cX5_gap) (maxL := 5) (ret := (some .int)) (by decide) rfl ?_
  intro p e s m args below meth c s₁ B hml hv
  obtain ⟨rfl, hsz, hP, hD0, hE⟩ := hv
  have hx := B.exec
  have hb := B.bytes
  have hr := B.returns
  have hts := atoms_spec (ws := wsX5_gap) B.pre
  have hown : s.vm.findClass RX5 = some m.cls := findClass_of_methodNamed B.named
  have hlocks := B.notSynchronized
  have hl := lv_entry ([.ref hm, .int t, .int g]) (n := 5) (Nat.le_of_ble_eq_true rfl)
  rw [lg_entry_eq]
  generalize (lg_sl ([.ref hm, .int t, .int g]) ++ List.replicate (5 - (lg_sl ([.ref hm, .int t, .int g])).length) Slot.unset).toArray = ls at hl ⊢
  have hl : lv_has ls 5 [(0, .ref hm), (1, .int t), (2, .int g)] := hl
  subst hsz
  have hD := hD0.self (sz := s.heap.size)
  generalize hAe : va_A (mW hm ad ca th td nt np nc M) s.heap.size = A at hD ⊢
  have hA : ∀ q : Nat, s.heap.size ≤ q → A q := fun q h => by rw [← hAe]; exact Or.inr h
  have hS : va_S A s.heap s.heap [] := va_S.rf
  refine lv_aload_n hx hb dX5_gap_0 rfl (lv_at hl 0 rfl) ?_
  refine lv_iload_n hx hb dX5_gap_1 rfl (lv_at hl 1 rfl) ?_
  refine lv_iload_n hx hb dX5_gap_2 rfl (lv_at hl 2 rfl) ?_
  refine zmci (va_runV (As := [.int t, .int g]) (rest := []) ⟨hx, hb, hml, hown, hts⟩ (m_ofT_1 l D ca sa hm ad th td nt np nc M t g hbad _) (cwV 2 hts gX5_gap_X5_isOfTitle rfl rfl rfl (by decide +kernel) ⟨Nat.le_of_ble_eq_true rfl, Nat.le_of_ble_eq_true rfl⟩) (zmV hP hD hE (ci := 5) rfl (q0 := 0) rfl) rfl rfl hl.1 rfl (lv_room (Nat.le_of_ble_eq_true rfl)) dX5_gap_3 ⟨Nat.le_of_ble_eq_true rfl, Nat.le_of_ble_eq_true rfl⟩) hD rfl hS hA (fun r9 H locs er hP hD hS => ?_)
  subst er
  refine lv_if_ne (tgt := 11) hx hb dX5_gap_6 (by decide) (fun c_6 => ?_) (fun c_6 => ?_)
  · exact absurd c_6 (by decide)
  · refine lv_iconst (v := nI 0) hx hb dX5_gap_9 (by decide) ?_
    exact zmri hx hb hr hlocks dX5_gap_10 hP hS (trivial)

set_option maxHeartbeats 4000000 in
set_option maxRecDepth 100000 in
theorem m_doubles_1 (l : Launch) (D : va_G) (ca : Nat → ClassId) (sa : Nat → Nat) (hm : Nat) (ad : Nat → Nat) (th : Int32) (td nt np nc : Nat) (M : Nat → Nat → Int32) (t g : Int32) (hbad : iT nt t = false) (sz : Nat) : Met l yX5_doubles wsX5_doubles ({ frames := 9, cells := 0, slots := 0, locals := 360 }) (va_Pc [.ref hm, .int t, .int g] (zMp D (mW hm ad ca th td nt np nc M) ca sa sz)) (va_Qi (fun (r : Int32) (_ : Unit) => True) (fun _ t9 => va_P D vwCl (mW hm ad ca (nI 1) td nt np nc M) t9.heap) (va_A (mW hm ad ca th td nt np nc M) sz)) 0 0 (va_A (mW hm ad ca th td nt np nc M) sz) := by
  refine Met.ofW (cc := cX5_doubles) (maxL := 5) (ret := (some .int)) (by decide) rfl ?_
  intro p e s m args below meth c s₁ B hml hv
  obtain ⟨rfl, hsz, hP, hD0, hE⟩ := hv
  have hx := B.exec
  have hb := B.bytes
  have hr := B.returns
  have hts := atoms_spec (ws := wsX5_doubles) B.pre
  have hown : s.vm.findClass RX5 = some m.cls := findClass_of_methodNamed B.named
  have hlocks := B.notSynchronized
  have hl := lv_entry ([.ref hm, .int t, .int g]) (n := 5) (Nat.le_of_ble_eq_true rfl)
  rw [lg_entry_eq]
  generalize (lg_sl ([.ref hm, .int t, .int g]) ++ List.replicate (5 - (lg_sl ([.ref hm, .int t, .int g])).length) Slot.unset).toArray = ls at hl ⊢
  have hl : lv_has ls 5 [(0, .ref hm), (1, .int t), (2, .int g)] := hl
  subst hsz
  have hD := hD0.self (sz := s.heap.size)
  generalize hAe : va_A (mW hm ad ca th td nt np nc M) s.heap.size = A at hD ⊢
  have hA : ∀ q : Nat, s.heap.size ≤ q → A q := fun q h => by rw [← hAe]; exact Or.inr h
  have hS : va_S A s.heap s.heap [] := va_S.rf
  refine lv_aload_n hx hb dX5_doubles_0 rfl (lv_at hl 0 rfl) ?_
  refine lv_iload_n hx hb dX5_doubles_1 rfl (lv_at hl 1 rfl) ?_
  refine lv_iload_n hx hb dX5_doubles_2 rfl (lv_at hl 2 rfl) ?_
  refine zmci (va_runV (As := [.int t, .int g]) (rest := []) ⟨hx, hb, hml, hown, hts⟩ (m_ofT_1 l D ca sa hm ad th td nt np nc M t g hbad _) (cwV 2 hts gX5_doubles_X5_isOfTitle rfl rfl rfl (by decide +kernel) ⟨Nat.le_of_ble_eq_true rfl, Nat.le_of_ble_eq_true rfl⟩) (zmV hP hD hE (ci := 5) rfl (q0 := 0) rfl) rfl rfl hl.1 rfl (lv_room (Nat.le_of_ble_eq_true rfl)) dX5_doubles_3 ⟨Nat.le_of_ble_eq_true rfl, Nat.le_of_ble_eq_true rfl⟩) hD rfl hS hA (fun r9 H locs er hP hD hS => ?_)
  subst er
  refine lv_if_ne (tgt := 11) hx hb dX5_doubles_6 (by decide) (fun c_6 => ?_) (fun c_6 => ?_)
  · exact absurd c_6 (by decide)
  · refine lv_iconst (v := nI 0) hx hb dX5_doubles_9 (by decide) ?_
    exact zmri hx hb hr hlocks dX5_doubles_10 hP hS (trivial)

set_option maxHeartbeats 4000000 in
set_option maxRecDepth 100000 in
theorem m_gap_2 (l : Launch) (D : va_G) (ca : Nat → ClassId) (sa : Nat → Nat) (hm : Nat) (ad : Nat → Nat) (th : Int32) (td nt np nc : Nat) (M : Nat → Nat → Int32) (t g : Int32) (hok : iT nt t = true) (hbad : iB g (nI 0) (nI 3) = false) (sz : Nat) : Met l yX5_gap wsX5_gap ({ frames := 9, cells := 0, slots := 0, locals := 360 }) (va_Pc [.ref hm, .int t, .int g] (zMp D (mW hm ad ca th td nt np nc M) ca sa sz)) (va_Qi (fun (r : Int32) (_ : Unit) => True) (fun _ t9 => va_P D vwCl (mW hm ad ca (nI 2) td nt np nc M) t9.heap) (va_A (mW hm ad ca th td nt np nc M) sz)) 0 0 (va_A (mW hm ad ca th td nt np nc M) sz) := by
  refine Met.ofW (cc := cX5_gap) (maxL := 5) (ret := (some .int)) (by decide) rfl ?_
  intro p e s m args below meth c s₁ B hml hv
  obtain ⟨rfl, hsz, hP, hD0, hE⟩ := hv
  have hx := B.exec
  have hb := B.bytes
  have hr := B.returns
  have hts := atoms_spec (ws := wsX5_gap) B.pre
  have hown : s.vm.findClass RX5 = some m.cls := findClass_of_methodNamed B.named
  have hlocks := B.notSynchronized
  have hl := lv_entry ([.ref hm, .int t, .int g]) (n := 5) (Nat.le_of_ble_eq_true rfl)
  rw [lg_entry_eq]
  generalize (lg_sl ([.ref hm, .int t, .int g]) ++ List.replicate (5 - (lg_sl ([.ref hm, .int t, .int g])).length) Slot.unset).toArray = ls at hl ⊢
  have hl : lv_has ls 5 [(0, .ref hm), (1, .int t), (2, .int g)] := hl
  subst hsz
  have hD := hD0.self (sz := s.heap.size)
  generalize hAe : va_A (mW hm ad ca th td nt np nc M) s.heap.size = A at hD ⊢
  have hA : ∀ q : Nat, s.heap.size ≤ q → A q := fun q h => by rw [← hAe]; exact Or.inr h
  have hS : va_S A s.heap s.heap [] := va_S.rf
  refine lv_aload_n hx hb dX5_gap_0 rfl (lv_at hl 0 rfl) ?_
  refine lv_iload_n hx hb dX5_gap_1 rfl (lv_at hl 1 rfl) ?_
  refine lv_iload_n hx hb dX5_gap_2 rfl (lv_at hl 2 rfl) ?_
  refine zmci (va_runV (As := [.int t, .int g]) (rest := []) ⟨hx, hb, hml, hown, hts⟩ (m_ofT_2 l D ca sa hm ad th td nt np nc M t g hok hbad _) (cwV 2 hts gX5_gap_X5_isOfTitle rfl rfl rfl (by decide +kernel) ⟨Nat.le_of_ble_eq_true rfl, Nat.le_of_ble_eq_true rfl⟩) (zmV hP hD hE (ci := 5) rfl (q0 := 0) rfl) rfl rfl hl.1 rfl (lv_room (Nat.le_of_ble_eq_true rfl)) dX5_gap_3 ⟨Nat.le_of_ble_eq_true rfl, Nat.le_of_ble_eq_true rfl⟩) hD rfl hS hA (fun r9 H locs er hP hD hS => ?_)
  subst er
  refine lv_if_ne (tgt := 11) hx hb dX5_gap_6 (by decide) (fun c_6 => ?_) (fun c_6 => ?_)
  · exact absurd c_6 (by decide)
  · refine lv_iconst (v := nI 0) hx hb dX5_gap_9 (by decide) ?_
    exact zmri hx hb hr hlocks dX5_gap_10 hP hS (trivial)

set_option maxHeartbeats 4000000 in
set_option maxRecDepth 100000 in
theorem m_doubles_2 (l : Launch) (D : va_G) (ca : Nat → ClassId) (sa : Nat → Nat) (hm : Nat) (ad : Nat → Nat) (th : Int32) (td nt np nc : Nat) (M : Nat → Nat → Int32) (t g : Int32) (hok : iT nt t = true) (hbad : iB g (nI 0) (nI 3) = false) (sz : Nat) : Met l yX5_doubles wsX5_doubles ({ frames := 9, cells := 0, slots := 0, locals := 360 }) (va_Pc [.ref hm, .int t, .int g] (zMp D (mW hm ad ca th td nt np nc M) ca sa sz)) (va_Qi (fun (r : Int32) (_ : Unit) => True) (fun _ t9 => va_P D vwCl (mW hm ad ca (nI 2) td nt np nc M) t9.heap) (va_A (mW hm ad ca th td nt np nc M) sz)) 0 0 (va_A (mW hm ad ca th td nt np nc M) sz) := by
  refine Met.ofW (cc := cX5_doubles) (maxL := 5) (ret := (some .int)) (by decide) rfl ?_
  intro p e s m args below meth c s₁ B hml hv
  obtain ⟨rfl, hsz, hP, hD0, hE⟩ := hv
  have hx := B.exec
  have hb := B.bytes
  have hr := B.returns
  have hts := atoms_spec (ws := wsX5_doubles) B.pre
  have hown : s.vm.findClass RX5 = some m.cls := findClass_of_methodNamed B.named
  have hlocks := B.notSynchronized
  have hl := lv_entry ([.ref hm, .int t, .int g]) (n := 5) (Nat.le_of_ble_eq_true rfl)
  rw [lg_entry_eq]
  generalize (lg_sl ([.ref hm, .int t, .int g]) ++ List.replicate (5 - (lg_sl ([.ref hm, .int t, .int g])).length) Slot.unset).toArray = ls at hl ⊢
  have hl : lv_has ls 5 [(0, .ref hm), (1, .int t), (2, .int g)] := hl
  subst hsz
  have hD := hD0.self (sz := s.heap.size)
  generalize hAe : va_A (mW hm ad ca th td nt np nc M) s.heap.size = A at hD ⊢
  have hA : ∀ q : Nat, s.heap.size ≤ q → A q := fun q h => by rw [← hAe]; exact Or.inr h
  have hS : va_S A s.heap s.heap [] := va_S.rf
  refine lv_aload_n hx hb dX5_doubles_0 rfl (lv_at hl 0 rfl) ?_
  refine lv_iload_n hx hb dX5_doubles_1 rfl (lv_at hl 1 rfl) ?_
  refine lv_iload_n hx hb dX5_doubles_2 rfl (lv_at hl 2 rfl) ?_
  refine zmci (va_runV (As := [.int t, .int g]) (rest := []) ⟨hx, hb, hml, hown, hts⟩ (m_ofT_2 l D ca sa hm ad th td nt np nc M t g hok hbad _) (cwV 2 hts gX5_doubles_X5_isOfTitle rfl rfl rfl (by decide +kernel) ⟨Nat.le_of_ble_eq_true rfl, Nat.le_of_ble_eq_true rfl⟩) (zmV hP hD hE (ci := 5) rfl (q0 := 0) rfl) rfl rfl hl.1 rfl (lv_room (Nat.le_of_ble_eq_true rfl)) dX5_doubles_3 ⟨Nat.le_of_ble_eq_true rfl, Nat.le_of_ble_eq_true rfl⟩) hD rfl hS hA (fun r9 H locs er hP hD hS => ?_)
  subst er
  refine lv_if_ne (tgt := 11) hx hb dX5_doubles_6 (by decide) (fun c_6 => ?_) (fun c_6 => ?_)
  · exact absurd c_6 (by decide)
  · refine lv_iconst (v := nI 0) hx hb dX5_doubles_9 (by decide) ?_
    exact zmri hx hb hr hlocks dX5_doubles_10 hP hS (trivial)

set_option maxHeartbeats 4000000 in
set_option maxRecDepth 100000 in
theorem m_doubles (l : Launch) (D : va_G) (ca : Nat → ClassId) (sa : Nat → Nat) (hm : Nat) (ad : Nat → Nat) (th : Int32) (td nt np nc : Nat) (M : Nat → Nat → Int32) (t g fy : Nat) (ht : t < nt) (hnp : np ≤ 10) (hnt : nt ≤ 20) (hnc : nc ≤ 600) (hg : g ≤ 3) (htd : td ≤ 20000) (hfy : M 0 t = nI fy) (hf5 : fy ≤ 55) (sz : Nat) : Met l yX5_doubles wsX5_doubles ({ frames := 9, cells := 0, slots := 0, locals := 360 }) (va_Pc [.ref hm, .int (nI t), .int (nI g)] (zMp D (mW hm ad ca th td nt np nc M) ca sa sz)) (va_Qi (fun (r : Int32) (_ : Unit) => r = nI (mDb M nc np t g td fy (td / 360 + 1 - fy))) (fun _ t9 => va_P D vwCl (mW hm ad ca (nI 0) td nt np nc M) t9.heap) (va_A (mW hm ad ca th td nt np nc M) sz)) 0 0 (va_A (mW hm ad ca th td nt np nc M) sz) := by
  refine Met.ofW (cc := cX5_doubles) (maxL := 5) (ret := (some .int)) (by decide) rfl ?_
  intro p e s m args below meth c s₁ B hml hv
  obtain ⟨rfl, hsz, hP, hD0, hE⟩ := hv
  have hx := B.exec
  have hb := B.bytes
  have hr := B.returns
  have hts := atoms_spec (ws := wsX5_doubles) B.pre
  have hown : s.vm.findClass RX5 = some m.cls := findClass_of_methodNamed B.named
  have hlocks := B.notSynchronized
  have hl := lv_entry ([.ref hm, .int (nI t), .int (nI g)]) (n := 5) (Nat.le_of_ble_eq_true rfl)
  rw [lg_entry_eq]
  generalize (lg_sl ([.ref hm, .int (nI t), .int (nI g)]) ++ List.replicate (5 - (lg_sl ([.ref hm, .int (nI t), .int (nI g)])).length) Slot.unset).toArray = ls at hl ⊢
  have hl : lv_has ls 5 [(0, .ref hm), (1, .int (nI t)), (2, .int (nI g))] := hl
  subst hsz
  have hD := hD0.self (sz := s.heap.size)
  generalize hAe : va_A (mW hm ad ca th td nt np nc M) s.heap.size = A at hD ⊢
  have hA : ∀ q : Nat, s.heap.size ≤ q → A q := fun q h => by rw [← hAe]; exact Or.inr h
  have hS : va_S A s.heap s.heap [] := va_S.rf
  refine lv_aload_n hx hb dX5_doubles_0 rfl (lv_at hl 0 rfl) ?_
  refine lv_iload_n hx hb dX5_doubles_1 rfl (lv_at hl 1 rfl) ?_
  refine lv_iload_n hx hb dX5_doubles_2 rfl (lv_at hl 2 rfl) ?_
  refine zmci (va_runV (As := [.int (nI t), .int (nI g)]) (rest := []) ⟨hx, hb, hml, hown, hts⟩ (m_ofT l D ca sa hm ad th td nt np nc M t g ht hnt hg _) (cwV 2 hts gX5_doubles_X5_isOfTitle rfl rfl rfl (by decide +kernel) ⟨Nat.le_of_ble_eq_true rfl, Nat.le_of_ble_eq_true rfl⟩) (zmV hP hD hE (ci := 5) rfl (q0 := 0) rfl) rfl rfl hl.1 rfl (lv_room (Nat.le_of_ble_eq_true rfl)) dX5_doubles_3 ⟨Nat.le_of_ble_eq_true rfl, Nat.le_of_ble_eq_true rfl⟩) hD rfl hS hA (fun r9 H locs er hP hD hS => ?_)
  subst er
  refine lv_if_ne (tgt := 11) hx hb dX5_doubles_6 (by decide) (fun c_6 => ?_) (fun c_6 => ?_)
  · refine lv_iconst (v := nI 0) hx hb dX5_doubles_11 (by decide) ?_
    refine lv_istore_n (lv' := [(3, .int (nI 0)), (0, .ref hm), (1, .int (nI t)), (2, .int (nI g))]) hx hb dX5_doubles_12 rfl hl (by decide) rfl (fun ls hl => ?_)
    refine lv_aload_n hx hb dX5_doubles_13 rfl (lv_at hl 1 rfl) ?_
    refine zmget (own := RX5) (ci := 5) (C := RX5) (T := TX5) (N := 18) hx hb hts (by decide +kernel) hown hE hP 0 rfl rfl 4 (by decide) (hts (.fieldLink RX5 7 "LinkResolverModel" "firstYears" "[I") (by decide +kernel)) rfl dX5_doubles_14 ?_
    refine lv_iload_n hx hb dX5_doubles_17 rfl (lv_at hl 2 rfl) ?_
    refine zmi hx hb hE hP 1 rfl (i := t) (show _ < _ from by omega) (by decide) dX5_doubles_18 ?_
    refine zasi (show (M 0 t) = nI fy from hfy) ?_
    refine lv_istore (lv' := [(4, .int (nI fy)), (3, .int (nI 0)), (0, .ref hm), (1, .int (nI t)), (2, .int (nI g))]) hx hb dX5_doubles_19 hl (by decide) rfl (fun ls hl => ?_)
    have hq9 : td / 360 ≤ 55 := by omega
    have loop : ∀ (n9 : Nat) (k : Nat) (ls : Array Slot), k ≤ 56 - fy → 56 - fy < k + n9 → k ≤ td / 360 + 1 - fy → lv_has ls 5 [(4, .int (nI (fy + k))), (3, .int (nI (mDb M nc np t g td fy k))), (0, .ref hm), (1, .int (nI t)), (2, .int (nI g))] → W p l e (headSpec wsX5_doubles ({ frames := 9, cells := 0, slots := 0, locals := 360 })).room s m ([.ref hm, .int (nI t), .int (nI g)] : List Value).toArray below meth c H locs 0 0 (MQ below (va_Qi (fun (r : Int32) (_ : Unit) => r = nI (mDb M nc np t g td fy (td / 360 + 1 - fy))) (fun _ t9 => va_P D vwCl (mW hm ad ca (nI 0) td nt np nc M) t9.heap) A) ([.ref hm, .int (nI t), .int (nI g)] : List Value).toArray s 0 0 A) (F0 m 21 ls []) := by
      intro n9
      induction n9 with
      | zero =>
        intro k ls hk hfu hk2 hl
        exact absurd hfu (by omega)
      | succ n9 ih =>
        intro k ls hk hfu hk2 hl
        refine lv_iload hx hb dX5_doubles_21 (lv_at hl 0 rfl) ?_
        refine lv_aload_n hx hb dX5_doubles_23 rfl (lv_at hl 2 rfl) ?_
        refine zmget (own := RX5) (ci := 5) (C := RX5) (T := TX5) (N := 18) hx hb hts (by decide +kernel) hown hE hP 0 rfl rfl 1 (by decide) (hts (.fieldLink RX5 78 "LinkResolverModel" "today" "I") (by decide +kernel)) rfl dX5_doubles_24 ?_
        refine lv_sipush (v := nI 360) hx hb dX5_doubles_27 (by decide) ?_
        refine lv_idiv hx hb dX5_doubles_30 z360 ?_
        refine zasi (show ((nI td) / (nI 360)) = nI (td / 360) from zdiv htd) ?_
        refine lv_icmp_gt (tgt := 64) hx hb dX5_doubles_31 (by decide) (fun c_31 => ?_) (fun c_31 => ?_)
        · have e9 : td / 360 + 1 - fy = k := by have := (nI_ltI (by omega) (by omega)).mp c_31; omega
          refine lv_iload_n hx hb dX5_doubles_64 rfl (lv_at hl 1 rfl) ?_
          exact zmri hx hb hr hlocks dX5_doubles_65 hP hS (by rw [e9])
        · have e9 : fy + k ≤ td / 360 := Nat.le_of_not_lt (fun q => c_31 ((nI_ltI (by omega) (by omega)).mpr q))
          have hwl := mWays_le M nc t (fy + k) g td np
          refine lv_iload_n hx hb dX5_doubles_34 rfl (lv_at hl 1 rfl) ?_
          refine lv_aload_n hx hb dX5_doubles_35 rfl (lv_at hl 2 rfl) ?_
          refine lv_iload_n hx hb dX5_doubles_36 rfl (lv_at hl 3 rfl) ?_
          refine lv_iload hx hb dX5_doubles_37 (lv_at hl 0 rfl) ?_
          refine lv_iload_n hx hb dX5_doubles_39 rfl (lv_at hl 4 rfl) ?_
          refine lv_aload_n hx hb dX5_doubles_40 rfl (lv_at hl 2 rfl) ?_
          refine zmget (own := RX5) (ci := 5) (C := RX5) (T := TX5) (N := 18) hx hb hts (by decide +kernel) hown hE hP 0 rfl rfl 1 (by decide) (hts (.fieldLink RX5 78 "LinkResolverModel" "today" "I") (by decide +kernel)) rfl dX5_doubles_41 ?_
          refine zci (va_runV (As := [.int (nI t), .int (nI (fy + k)), .int (nI g), .int (nI td)]) (rest := [.int (nI (mDb M nc np t g td fy k))]) ⟨hx, hb, hml, hown, hts⟩ (m_waysTo l D ca sa hm ad (nI 0) td nt np nc M t (fy + k) g td hnc hnp (by omega) (by omega) htd) (cwV 4 hts gX5_doubles_X5_waysTo rfl rfl rfl (by decide +kernel) ⟨Nat.le_of_ble_eq_true rfl, Nat.le_of_ble_eq_true rfl⟩) (zpV hP hE (ci := 5) rfl (q0 := 0) rfl) rfl rfl hl.1 rfl (lv_room (Nat.le_of_ble_eq_true rfl)) dX5_doubles_44 ⟨Nat.le_of_ble_eq_true rfl, Nat.le_of_ble_eq_true rfl⟩) ?_
          refine lv_iconst (v := nI 1) hx hb dX5_doubles_47 (by decide) ?_
          refine lv_icmp_le (tgt := 55) hx hb dX5_doubles_48 (by decide) (fun c_48 => ?_) (fun c_48 => ?_)
          · refine lv_iconst (v := nI 0) hx hb dX5_doubles_55 (by decide) ?_
            refine lv_iadd hx hb dX5_doubles_56 ?_
            refine zasi (show ((nI (mDb M nc np t g td fy k)) + (nI 0)) = nI (mDb M nc np t g td fy k + 0) from nI_add _ _) ?_
            refine lv_istore_n (lv' := [(3, .int (nI (mDb M nc np t g td fy k + 0))), (4, .int (nI (fy + k))), (0, .ref hm), (1, .int (nI t)), (2, .int (nI g))]) hx hb dX5_doubles_57 rfl hl (by decide) rfl (fun ls hl => ?_)
            refine lv_iinc (v := nI (fy + (k + 1))) (lv' := [(4, .int (nI (fy + (k + 1)))), (3, .int (nI (mDb M nc np t g td fy k + 0))), (0, .ref hm), (1, .int (nI t)), (2, .int (nI g))]) hx hb dX5_doubles_58 hl (k := 1) rfl (zinc1 _) (by decide) rfl (fun ls hl => ?_)
            refine lv_goto (tgt := 21) hx hb dX5_doubles_61 (by decide) ?_
            exact ih (k + 1) ls (by omega) (by omega) (by omega) (by rw [mDb, if_neg (fun q => absurd ((nI_leI (b := 1) (by omega) (by omega)).mp c_48) (by omega))]; exact lv_sub hl [0, 1, 2, 3, 4] rfl)
          · refine lv_iconst (v := nI 1) hx hb dX5_doubles_51 (by decide) ?_
            refine lv_goto (tgt := 56) hx hb dX5_doubles_52 (by decide) ?_
            refine lv_iadd hx hb dX5_doubles_56 ?_
            refine zasi (show ((nI (mDb M nc np t g td fy k)) + (nI 1)) = nI (mDb M nc np t g td fy k + 1) from nI_add _ _) ?_
            refine lv_istore_n (lv' := [(3, .int (nI (mDb M nc np t g td fy k + 1))), (4, .int (nI (fy + k))), (0, .ref hm), (1, .int (nI t)), (2, .int (nI g))]) hx hb dX5_doubles_57 rfl hl (by decide) rfl (fun ls hl => ?_)
            refine lv_iinc (v := nI (fy + (k + 1))) (lv' := [(4, .int (nI (fy + (k + 1)))), (3, .int (nI (mDb M nc np t g td fy k + 1))), (0, .ref hm), (1, .int (nI t)), (2, .int (nI g))]) hx hb dX5_doubles_58 hl (k := 1) rfl (zinc1 _) (by decide) rfl (fun ls hl => ?_)
            refine lv_goto (tgt := 21) hx hb dX5_doubles_61 (by decide) ?_
            exact ih (k + 1) ls (by omega) (by omega) (by omega) (by rw [mDb, if_pos (Nat.lt_of_not_le (fun q => c_48 ((nI_leI (b := 1) (by omega) (by omega)).mpr q)))]; exact lv_sub hl [0, 1, 2, 3, 4] rfl)
    exact loop (57 - fy) 0 ls (Nat.zero_le _) (by omega) (Nat.zero_le _) (lv_sub hl [0, 1, 2, 3, 4] rfl)
  · exact absurd c_6 (by decide)
