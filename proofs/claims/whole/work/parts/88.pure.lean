theorem d_law_1155 : decode code 1155 = .ok (.iinc 4 8, 3) := by decide +kernel
theorem d_law_1158 : decode code 1158 = .ok (.goto (-1135), 3) := by decide +kernel
theorem d_law_23 : decode code 23 = .ok (.iload 4, 2) := by decide +kernel
theorem d_law_25 : decode code 25 = .ok (.aload_n 0, 1) := by decide +kernel
theorem d_law_26 : decode code 26 = .ok (.arraylength, 1) := by decide +kernel
theorem d_law_27 : decode code 27 = .ok (.bipush 8, 2) := by decide +kernel
theorem d_law_29 : decode code 29 = .ok (.isub, 1) := by decide +kernel
theorem d_law_30 : decode code 30 = .ok (.if_icmp .gt 1131, 3) := by decide +kernel
theorem d_law_1161 : decode code 1161 = .ok (.iconst 1, 1) := by decide +kernel
theorem d_law_1162 : decode code 1162 = .ok (.ireturn, 1) := by decide +kernel
theorem d_law_33 : decode code 33 = .ok (.aload_n 0, 1) := by decide +kernel
theorem d_law_34 : decode code 34 = .ok (.iload 4, 2) := by decide +kernel
theorem d_law_36 : decode code 36 = .ok (.iaload, 1) := by decide +kernel
theorem d_law_37 : decode code 37 = .ok (.bipush 15, 2) := by decide +kernel
theorem d_law_39 : decode code 39 = .ok (.iand, 1) := by decide +kernel
theorem d_law_40 : decode code 40 = .ok (.tableswitch 1115 0 13 #[72, 140, 196, 287, 366, 458, 530, 642, 722, 778, 834, 913, 980, 1048], 72) := by decide +kernel
theorem cmp_end {L i : Nat} (hL : L ≤ 4096) (hi : i ≤ 5000) : (Int32.ofNat L - 8 < i3 i) ↔ L < i + 8 := by
  rw [Int32.lt_iff_toInt_lt, Int32.toInt_sub, i3_int (by omega), show (Int32.ofNat L).toInt = (L : Int) from i3_int (by omega), show (8 : Int32).toInt = 8 by decide, bm32 (by omega) (by omega)]
  omega
set_option maxHeartbeats 8000000 in
set_option maxRecDepth 100000 in
theorem law_loop {p : Program} {l : Launch} {e : Env} {s : State} {m : MethodId} {below : List Frame} {meth : Method} {c : Code} {b L : Nat} {xs : Nat → Int32} {dC : Nat → ClassId} {dI : Nat → Nat → Nat} {o1 h0 ta m0 m1 m2 m3 m4 m5 m6 m7 m8 m9 m10 m11 m12 m13 m14 m15 m16 m17 m18 m19 m20 m21 : Nat} {ko kt kc1 kc2 kc3 kc4 kc5 kc6 kc7 kc8 kc9 kc10 kc11 kc12 kc13 kc14 kc15 kc16 kc17 kc18 kc19 kc20 kc21 : ClassId} (C0 : lw_At p s m meth c b L xs) (hX : LX l s (fun q : Nat => s.heap.size ≤ q)) (hL : L ≤ 4096) (hKm : va_K (dC, dI) classes [(kc1, .int), (kc2, .int), (kc3, .long), (kc4, .long), (kc5, .int), (kc6, .int), (kc7, .int), (kc8, .int), (kc9, .int), (kc10, .int), (kc11, .int), (kc12, .int), (kc13, .int), (kc14, .boolean), (kc15, .int), (kc16, .int), (kc17, .long), (kc18, .long), (kc19, .long), (kc20, .long), (kc21, .int)] s) : ∀ (d j : Nat), j + d = 512 → ∀ (qcode : Int32) (qn : Int32) (qcold : Int32) (qtime : Int32) (qV : Nat → Int32) (qM : Nat → Int32) (qvol : Nat → Int64) (qh : Nat → Int64) (qamb : Nat → Int32) (qab : Nat → Int32) (qbe : Nat → Int32) (qrf : Nat → Int32) (qrt : Nat → Int32) (qrh : Nat → Int32) (qrs : Nat → Int32) (qrl : Nat → Int32) (qru : Nat → Int32) (qon : Nat → Int32) (qdr : Nat → Int32) (qdc : Nat → Int32) (qdn : Nat → Int64) (qdh : Nat → Int64) (qgi : Nat → Int64) (qlo : Nat → Int64) (qom : Nat → Int32) (of : Nat → Int64) (xn xcold xtime : Int32) (xf : Nat → Option Nat) (ts : List (ADt × TKt)) (n T : Nat) (Pf : Nat → Nat) (H : Heap) (locs : List Loc) (ls : Array Slot), lv_has ls 8 [(0, .ref b), (1, .ref h0), (2, .ref m0), (3, .ref o1), (4, .int (i3 (8 * j)))] → INV j n T Pf xn xcold xtime xf ts qn qcold qtime qV qM qvol qh qamb qab qbe qrf qrt qrh qrs qrl qru qon qdr qdc qdn qdh qgi qlo qom → LWd dC dI (fun q : Nat => s.heap.size ≤ q) s H locs (mwd m0 m1 m2 m3 m4 m5 m6 m7 m8 m9 m10 m11 m12 m13 m14 m15 m16 m17 m18 m19 m20 m21 kc1 kc2 kc3 kc4 kc5 kc6 kc7 kc8 kc9 kc10 kc11 kc12 kc13 kc14 kc15 kc16 kc17 kc18 kc19 kc20 kc21 qcode qn qcold qtime qV qM qvol qh qamb qab qbe qrf qrt qrh qrs qrl qru qon qdr qdc qdn qdh qgi qlo qom) o1 ko of h0 ta kt xn xcold xtime xf ts → W p l e room_1 s m #[Value.ref b] below meth c H locs (25 + 10 * j) (6378 + 200 * j) (lw_Z below #[Value.ref b] s) (F0 m 23 ls []) := by
  obtain ⟨hx, hb, hr, hml, hown, hts, hX0, hbl, hlocks, hgv⟩ := id C0
  have hA : ∀ q : Nat, s.heap.size ≤ q → (fun q : Nat => s.heap.size ≤ q) q := fun _ h => h
  have hbA : ¬ (fun q : Nat => s.heap.size ≤ q) b := Nat.not_le.mpr hbl
  intro d
  induction d with
  | zero =>
    intro j hj qcode qn qcold qtime qV qM qvol qh qamb qab qbe qrf qrt qrh qrs qrl qru qon qdr qdc qdn qdh qgi qlo qom of xn xcold xtime xf ts n T Pf H locs ls hl hI hW
    obtain ⟨hP, hD, hK, hS⟩ := hW
    refine lv_iload hx hb d_law_23 (lv_at hl 4 rfl) ?_
    refine lv_aload_n hx hb d_law_25 rfl (lv_at hl 0 rfl) ?_
    refine va_slen hx hb hX0 hbl hbA hS d_law_26 ?_
    refine lv_bipush (v := 8) hx hb d_law_27 (by decide) ?_
    refine lv_isub hx hb d_law_29 ?_
    refine lv_icmp_gt (tgt := 1161) hx hb d_law_30 (by decide) (fun c1 => ?_) (fun c1 => ?_)
    · refine lv_iconst (v := 1) hx hb d_law_1161 (by decide) ?_
      refine va_forget (fun q hq => hS.2.2 q hq) ?_
      refine W.widen (k := 601024) (n := 7293034) (by omega) (by omega) ?_
      exact lw_ret hx hb hr hlocks d_law_1162
    · exact absurd ((cmp_end hL (by omega)).mpr (by omega)) c1
  | succ d ih =>
    intro j hj qcode qn qcold qtime qV qM qvol qh qamb qab qbe qrf qrt qrh qrs qrl qru qon qdr qdc qdn qdh qgi qlo qom of xn xcold xtime xf ts n T Pf H locs ls hl hI hW
    have hS := hW.2.2.2
    refine lv_iload hx hb d_law_23 (lv_at hl 4 rfl) ?_
    refine lv_aload_n hx hb d_law_25 rfl (lv_at hl 0 rfl) ?_
    refine va_slen hx hb hX0 hbl hbA hS d_law_26 ?_
    refine lv_bipush (v := 8) hx hb d_law_27 (by decide) ?_
    refine lv_isub hx hb d_law_29 ?_
    refine lv_icmp_gt (tgt := 1161) hx hb d_law_30 (by decide) (fun c1 => ?_) (fun c1 => ?_)
    · refine lv_iconst (v := 1) hx hb d_law_1161 (by decide) ?_
      refine va_forget (fun q hq => hS.2.2 q hq) ?_
      refine W.widen (k := 601024) (n := 7293034) (by omega) (by omega) ?_
      exact lw_ret hx hb hr hlocks d_law_1162
    · have hi : 8 * j + 8 ≤ L := by
        rcases Nat.lt_or_ge L (8 * j + 8) with q | q
        · exact absurd ((cmp_end hL (by omega)).mpr q) c1
        · exact q
      have hin0 : vp_in (i3 (8 * j)) L := by
        have := vpin (i := 8 * j) (k := 0) (by omega) hL
        rw [i3_add, Nat.add_zero] at this
        exact this
      have tail : ∀ (qcode : Int32) (qn : Int32) (qcold : Int32) (qtime : Int32) (qV : Nat → Int32) (qM : Nat → Int32) (qvol : Nat → Int64) (qh : Nat → Int64) (qamb : Nat → Int32) (qab : Nat → Int32) (qbe : Nat → Int32) (qrf : Nat → Int32) (qrt : Nat → Int32) (qrh : Nat → Int32) (qrs : Nat → Int32) (qrl : Nat → Int32) (qru : Nat → Int32) (qon : Nat → Int32) (qdr : Nat → Int32) (qdc : Nat → Int32) (qdn : Nat → Int64) (qdh : Nat → Int64) (qgi : Nat → Int64) (qlo : Nat → Int64) (qom : Nat → Int32) (of : Nat → Int64) (xn xcold xtime : Int32) (xf : Nat → Option Nat) (ts : List (ADt × TKt)) (n T : Nat) (Pf : Nat → Nat) (H : Heap) (locs : List Loc) (ls : Array Slot), lv_has ls 8 [(0, .ref b), (1, .ref h0), (2, .ref m0), (3, .ref o1), (4, .int (i3 (8 * j)))] → INV (j + 1) n T Pf xn xcold xtime xf ts qn qcold qtime qV qM qvol qh qamb qab qbe qrf qrt qrh qrs qrl qru qon qdr qdc qdn qdh qgi qlo qom → LWd dC dI (fun q : Nat => s.heap.size ≤ q) s H locs (mwd m0 m1 m2 m3 m4 m5 m6 m7 m8 m9 m10 m11 m12 m13 m14 m15 m16 m17 m18 m19 m20 m21 kc1 kc2 kc3 kc4 kc5 kc6 kc7 kc8 kc9 kc10 kc11 kc12 kc13 kc14 kc15 kc16 kc17 kc18 kc19 kc20 kc21 qcode qn qcold qtime qV qM qvol qh qamb qab qbe qrf qrt qrh qrs qrl qru qon qdr qdc qdn qdh qgi qlo qom) o1 ko of h0 ta kt xn xcold xtime xf ts → W p l e room_1 s m #[Value.ref b] below meth c H locs (25 + 10 * j + 10) (6378 + 200 * j + 200) (lw_Z below #[Value.ref b] s) (F0 m 1155 ls []) := by
        intro qcode qn qcold qtime qV qM qvol qh qamb qab qbe qrf qrt qrh qrs qrl qru qon qdr qdc qdn qdh qgi qlo qom of xn xcold xtime xf ts n T Pf H locs ls hl hI hW
        refine lv_iinc (v := i3 (8 * (j + 1))) (lv' := [(4, .int (i3 (8 * (j + 1)))), (0, .ref b), (1, .ref h0), (2, .ref m0), (3, .ref o1)]) hx hb d_law_1155 hl (k := 4) rfl (by rw [show Int32.ofInt 8 = i3 8 by decide, i3_add]; exact congrArg i3 (by omega)) (by decide) rfl (fun ls hl => ?_)
        refine lv_goto (tgt := 23) hx hb d_law_1158 (by decide) ?_
        have := ih (j + 1) (by omega) qcode qn qcold qtime qV qM qvol qh qamb qab qbe qrf qrt qrh qrs qrl qru qon qdr qdc qdn qdh qgi qlo qom of xn xcold xtime xf ts n T Pf H locs ls (lv_sub hl [1, 2, 3, 4, 0] rfl) hI hW
        rw [show 25 + 10 * (j + 1) = 25 + 10 * j + 10 by omega, show 6378 + 200 * (j + 1) = 6378 + 200 * j + 200 by omega] at this
        exact this
      refine lv_aload_n hx hb d_law_33 rfl (lv_at hl 0 rfl) ?_
      refine lv_iload hx hb d_law_34 (lv_at hl 4 rfl) ?_
      refine va_sld hx hb hX0 hbl hbA hS hin0 d_law_36 ?_
      refine lv_bipush (v := 15) hx hb d_law_37 (by decide) ?_
      refine lv_iand hx hb d_law_39 ?_
      generalize xs (i3 (8 * j)).toNatClampNeg &&& 15 = X9
      by_cases e0 : X9 = 0
      · refine lv_tableIn (tgt := 112) (off := 72) hx hb d_law_40 (by rw [e0]; decide) (by rw [e0]; decide) (by rw [e0]; decide) (by decide) ?_
        exact seg_tank (N := 2000) C0 hX (Nat.le_refl _) (by omega) (by omega) (by omega) hi hL hKm hl hI hW tail
      by_cases e1 : X9 = 1
      · refine lv_tableIn (tgt := 180) (off := 140) hx hb d_law_40 (by rw [e1]; decide) (by rw [e1]; decide) (by rw [e1]; decide) (by decide) ?_
        exact seg_cold (N := 2000) C0 hX (Nat.le_refl _) (by omega) (by omega) (by omega) hi hL hKm hl hI hW tail
      by_cases e2 : X9 = 2
      · refine lv_tableIn (tgt := 236) (off := 196) hx hb d_law_40 (by rw [e2]; decide) (by rw [e2]; decide) (by rw [e2]; decide) (by decide) ?_
        exact seg_charge (N := 2000) C0 hX (Nat.le_refl _) (by omega) (by omega) (by omega) hi hL hKm hl hI hW tail
      by_cases e3 : X9 = 3
      · refine lv_tableIn (tgt := 327) (off := 287) hx hb d_law_40 (by rw [e3]; decide) (by rw [e3]; decide) (by rw [e3]; decide) (by decide) ?_
        exact seg_round (N := 2000) C0 hX (Nat.le_refl _) (by omega) (by omega) (by omega) hi hL hKm hl hI hW tail
      by_cases e4 : X9 = 4
      · refine lv_tableIn (tgt := 406) (off := 366) hx hb d_law_40 (by rw [e4]; decide) (by rw [e4]; decide) (by rw [e4]; decide) (by decide) ?_
        exact seg_heat (N := 2000) C0 hX (Nat.le_refl _) (by omega) (by omega) (by omega) hi hL hKm hl hI hW tail
      by_cases e5 : X9 = 5
      · refine lv_tableIn (tgt := 498) (off := 458) hx hb d_law_40 (by rw [e5]; decide) (by rw [e5]; decide) (by rw [e5]; decide) (by decide) ?_
        exact seg_loses (N := 2000) C0 hX (Nat.le_refl _) (by omega) (by omega) (by omega) hi hL hKm hl hI hW tail
      by_cases e6 : X9 = 6
      · refine lv_tableIn (tgt := 570) (off := 530) hx hb d_law_40 (by rw [e6]; decide) (by rw [e6]; decide) (by rw [e6]; decide) (by decide) ?_
        exact seg_rod (N := 2000) C0 hX (Nat.le_refl _) (by omega) (by omega) (by omega) hi hL hKm hl hI hW tail
      by_cases e7 : X9 = 7
      · refine lv_tableIn (tgt := 682) (off := 642) hx hb d_law_40 (by rw [e7]; decide) (by rw [e7]; decide) (by rw [e7]; decide) (by decide) ?_
        exact seg_draws (N := 2000) C0 hX (Nat.le_refl _) (by omega) (by omega) (by omega) hi hL hKm hl hI hW tail
      by_cases e8 : X9 = 8
      · refine lv_tableIn (tgt := 762) (off := 722) hx hb d_law_40 (by rw [e8]; decide) (by rw [e8]; decide) (by rw [e8]; decide) (by decide) ?_
        exact seg_run (N := 2000) C0 hX (Nat.le_refl _) (by omega) (by omega) (by omega) hi hL hKm hl hI hW tail
      by_cases e9 : X9 = 9
      · refine lv_tableIn (tgt := 818) (off := 778) hx hb d_law_40 (by rw [e9]; decide) (by rw [e9]; decide) (by rw [e9]; decide) (by decide) ?_
        exact seg_layers (N := 2000) C0 hX (Nat.le_refl _) (by omega) (by omega) (by omega) hi hL hKm hl hI hW tail
      by_cases e10 : X9 = 10
      · refine lv_tableIn (tgt := 874) (off := 834) hx hb d_law_40 (by rw [e10]; decide) (by rw [e10]; decide) (by rw [e10]; decide) (by decide) ?_
        exact seg_layer (N := 2000) C0 hX (Nat.le_refl _) (by omega) (by omega) (by omega) hi hL hKm hl hI hW tail
      by_cases e11 : X9 = 11
      · refine lv_tableIn (tgt := 953) (off := 913) hx hb d_law_40 (by rw [e11]; decide) (by rw [e11]; decide) (by rw [e11]; decide) (by decide) ?_
        exact seg_sensor (N := 2000) C0 hX (Nat.le_refl _) (by omega) (by omega) (by omega) hi hL hKm hl hI hW tail
      by_cases e12 : X9 = 12
      · refine lv_tableIn (tgt := 1020) (off := 980) hx hb d_law_40 (by rw [e12]; decide) (by rw [e12]; decide) (by rw [e12]; decide) (by decide) ?_
        exact seg_warm (N := 2000) C0 hX (Nat.le_refl _) (by omega) (by omega) (by omega) hi hL hKm hl hI hW tail
      by_cases e13 : X9 = 13
      · refine lv_tableIn (tgt := 1088) (off := 1048) hx hb d_law_40 (by rw [e13]; decide) (by rw [e13]; decide) (by rw [e13]; decide) (by decide) ?_
        exact seg_told (N := 2000) C0 hX (Nat.le_refl _) (by omega) (by omega) (by omega) hi hL hKm hl hI hW tail
      refine lv_tableOut (tgt := 1155) hx hb d_law_40 (by have g0 : X9.toInt ≠ 0 := fun q => e0 (Int32.toInt_inj.mp (q.trans (by decide))); have g1 : X9.toInt ≠ 1 := fun q => e1 (Int32.toInt_inj.mp (q.trans (by decide))); have g2 : X9.toInt ≠ 2 := fun q => e2 (Int32.toInt_inj.mp (q.trans (by decide))); have g3 : X9.toInt ≠ 3 := fun q => e3 (Int32.toInt_inj.mp (q.trans (by decide))); have g4 : X9.toInt ≠ 4 := fun q => e4 (Int32.toInt_inj.mp (q.trans (by decide))); have g5 : X9.toInt ≠ 5 := fun q => e5 (Int32.toInt_inj.mp (q.trans (by decide))); have g6 : X9.toInt ≠ 6 := fun q => e6 (Int32.toInt_inj.mp (q.trans (by decide))); have g7 : X9.toInt ≠ 7 := fun q => e7 (Int32.toInt_inj.mp (q.trans (by decide))); have g8 : X9.toInt ≠ 8 := fun q => e8 (Int32.toInt_inj.mp (q.trans (by decide))); have g9 : X9.toInt ≠ 9 := fun q => e9 (Int32.toInt_inj.mp (q.trans (by decide))); have g10 : X9.toInt ≠ 10 := fun q => e10 (Int32.toInt_inj.mp (q.trans (by decide))); have g11 : X9.toInt ≠ 11 := fun q => e11 (Int32.toInt_inj.mp (q.trans (by decide))); have g12 : X9.toInt ≠ 12 := fun q => e12 (Int32.toInt_inj.mp (q.trans (by decide))); have g13 : X9.toInt ≠ 13 := fun q => e13 (Int32.toInt_inj.mp (q.trans (by decide))); omega) (by decide) ?_
      refine W.widen (k := 25 + 10 * j + 10) (n := 6378 + 200 * j + 200) (by omega) (by omega) ?_
      exact tail qcode qn qcold qtime qV qM qvol qh qamb qab qbe qrf qrt qrh qrs qrl qru qon qdr qdc qdn qdh qgi qlo qom of xn xcold xtime xf ts n T Pf H locs ls hl hI.same hW
