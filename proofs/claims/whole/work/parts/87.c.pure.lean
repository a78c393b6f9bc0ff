theorem mw_686 : (Cond.code y_Mod_loses b_Mod_loses 5 none) ∈ gx_W := List.mem_filter.mpr ⟨List.mem_of_getElem? (i := 686) (by decide +kernel), by decide +kernel⟩
theorem mw_683 : (Cond.methodLink R_law 96 y_Mod_loses) ∈ gx_W := List.mem_filter.mpr ⟨List.mem_of_getElem? (i := 683) (by decide +kernel), by decide +kernel⟩
theorem mw_684 : (Cond.instanceMethod y_Mod_loses) ∈ gx_W := List.mem_filter.mpr ⟨List.mem_of_getElem? (i := 684) (by decide +kernel), by decide +kernel⟩
theorem mw_685 : (Cond.selects R_Mod y_Mod_loses y_Mod_loses) ∈ gx_W := List.mem_filter.mpr ⟨List.mem_of_getElem? (i := 685) (by decide +kernel), by decide +kernel⟩
theorem d_law_498 : decode code 498 = .ok (.aload_n 1, 1) := by decide +kernel
theorem d_law_499 : decode code 499 = .ok (.aload_n 0, 1) := by decide +kernel
theorem d_law_500 : decode code 500 = .ok (.iload 4, 2) := by decide +kernel
theorem d_law_502 : decode code 502 = .ok (.iconst 1, 1) := by decide +kernel
theorem d_law_503 : decode code 503 = .ok (.iadd, 1) := by decide +kernel
theorem d_law_504 : decode code 504 = .ok (.iaload, 1) := by decide +kernel
theorem d_law_505 : decode code 505 = .ok (.aload_n 0, 1) := by decide +kernel
theorem d_law_506 : decode code 506 = .ok (.iload 4, 2) := by decide +kernel
theorem d_law_508 : decode code 508 = .ok (.iconst 2, 1) := by decide +kernel
theorem d_law_509 : decode code 509 = .ok (.iadd, 1) := by decide +kernel
theorem d_law_510 : decode code 510 = .ok (.iaload, 1) := by decide +kernel
theorem d_law_511 : decode code 511 = .ok (.aload_n 0, 1) := by decide +kernel
theorem d_law_512 : decode code 512 = .ok (.iload 4, 2) := by decide +kernel
theorem d_law_514 : decode code 514 = .ok (.iconst 3, 1) := by decide +kernel
theorem d_law_515 : decode code 515 = .ok (.iadd, 1) := by decide +kernel
theorem d_law_516 : decode code 516 = .ok (.iaload, 1) := by decide +kernel
theorem d_law_517 : decode code 517 = .ok (.aload_n 0, 1) := by decide +kernel
theorem d_law_518 : decode code 518 = .ok (.iload 4, 2) := by decide +kernel
theorem d_law_520 : decode code 520 = .ok (.iconst 4, 1) := by decide +kernel
theorem d_law_521 : decode code 521 = .ok (.iadd, 1) := by decide +kernel
theorem d_law_522 : decode code 522 = .ok (.iaload, 1) := by decide +kernel
theorem d_law_526 : decode code 526 = .ok (.istore 5, 2) := by decide +kernel
theorem d_law_528 : decode code 528 = .ok (.aload_n 2, 1) := by decide +kernel
theorem d_law_529 : decode code 529 = .ok (.aload_n 0, 1) := by decide +kernel
theorem d_law_530 : decode code 530 = .ok (.iload 4, 2) := by decide +kernel
theorem d_law_532 : decode code 532 = .ok (.iconst 1, 1) := by decide +kernel
theorem d_law_533 : decode code 533 = .ok (.iadd, 1) := by decide +kernel
theorem d_law_534 : decode code 534 = .ok (.iaload, 1) := by decide +kernel
theorem d_law_535 : decode code 535 = .ok (.aload_n 0, 1) := by decide +kernel
theorem d_law_536 : decode code 536 = .ok (.iload 4, 2) := by decide +kernel
theorem d_law_538 : decode code 538 = .ok (.iconst 2, 1) := by decide +kernel
theorem d_law_539 : decode code 539 = .ok (.iadd, 1) := by decide +kernel
theorem d_law_540 : decode code 540 = .ok (.iaload, 1) := by decide +kernel
theorem d_law_541 : decode code 541 = .ok (.aload_n 0, 1) := by decide +kernel
theorem d_law_542 : decode code 542 = .ok (.iload 4, 2) := by decide +kernel
theorem d_law_544 : decode code 544 = .ok (.iconst 3, 1) := by decide +kernel
theorem d_law_545 : decode code 545 = .ok (.iadd, 1) := by decide +kernel
theorem d_law_546 : decode code 546 = .ok (.iaload, 1) := by decide +kernel
theorem d_law_547 : decode code 547 = .ok (.aload_n 0, 1) := by decide +kernel
theorem d_law_548 : decode code 548 = .ok (.iload 4, 2) := by decide +kernel
theorem d_law_550 : decode code 550 = .ok (.iconst 4, 1) := by decide +kernel
theorem d_law_551 : decode code 551 = .ok (.iadd, 1) := by decide +kernel
theorem d_law_552 : decode code 552 = .ok (.iaload, 1) := by decide +kernel
theorem d_law_553 : decode code 553 = .ok (.invokevirtual 96, 3) := by decide +kernel
theorem d_law_556 : decode code 556 = .ok (.aload_n 2, 1) := by decide +kernel
theorem d_law_557 : decode code 557 = .ok (.invokevirtual 74, 3) := by decide +kernel
theorem d_law_560 : decode code 560 = .ok (.iload 5, 2) := by decide +kernel
theorem d_law_562 : decode code 562 = .ok (.if_icmp .eq 5, 3) := by decide +kernel
theorem d_law_567 : decode code 567 = .ok (.goto 588, 3) := by decide +kernel
section LS
variable {p : Program} {l : Launch} {e : Env} {s : State} {m : MethodId} {below : List Frame} {meth : Method} {c : Code} {b L : Nat} {xs : Nat → Int32} {dC : Nat → ClassId} {dI : Nat → Nat → Nat} {Q : State → Prop} {H : Heap} {locs : List Loc} {cells slots : Nat} {ls : Array Slot} {o1 h0 ta m0 m1 m2 m3 m4 m5 m6 m7 m8 m9 m10 m11 m12 m13 m14 m15 m16 m17 m18 m19 m20 m21 : Nat} {ko kt kc1 kc2 kc3 kc4 kc5 kc6 kc7 kc8 kc9 kc10 kc11 kc12 kc13 kc14 kc15 kc16 kc17 kc18 kc19 kc20 kc21 : ClassId} {of : Nat → Int64} {ts : List (ADt × TKt)} {c0 n T N i : Nat} {Pf : Nat → Nat} {xn xcold xtime : Int32} {xf : Nat → Option Nat} {qcode qn qcold qtime : Int32} {qV qM : Nat → Int32} {qvol qh : Nat → Int64} {qamb qab qbe qrf qrt qrh qrs qrl qru qon qdr qdc : Nat → Int32} {qdn qdh qgi qlo : Nat → Int64} {qom : Nat → Int32}
set_option maxHeartbeats 4000000 in
set_option maxRecDepth 100000 in
theorem seg_loses (C0 : lw_At p s m meth c b L xs) (hX : LX l s (fun q : Nat => s.heap.size ≤ q)) (hN : 2000 ≤ N) (hcc : cells + 10 ≤ 601024) (hss : slots + 200 ≤ 7293034) (hc : c0 < 512) (hi : i + 8 ≤ L) (hL : L ≤ 4096) (hKm : va_K (dC, dI) classes [(kc1, .int), (kc2, .int), (kc3, .long), (kc4, .long), (kc5, .int), (kc6, .int), (kc7, .int), (kc8, .int), (kc9, .int), (kc10, .int), (kc11, .int), (kc12, .int), (kc13, .int), (kc14, .boolean), (kc15, .int), (kc16, .int), (kc17, .long), (kc18, .long), (kc19, .long), (kc20, .long), (kc21, .int)] s) (hl : lv_has ls 8 [(0, .ref b), (1, .ref h0), (2, .ref m0), (3, .ref o1), (4, .int (i3 i))]) (hI : INV c0 n T Pf xn xcold xtime xf ts qn qcold qtime qV qM qvol qh qamb qab qbe qrf qrt qrh qrs qrl qru qon qdr qdc qdn qdh qgi qlo qom) (hW : LWd dC dI (fun q : Nat => s.heap.size ≤ q) s H locs (mwd m0 m1 m2 m3 m4 m5 m6 m7 m8 m9 m10 m11 m12 m13 m14 m15 m16 m17 m18 m19 m20 m21 kc1 kc2 kc3 kc4 kc5 kc6 kc7 kc8 kc9 kc10 kc11 kc12 kc13 kc14 kc15 kc16 kc17 kc18 kc19 kc20 kc21 qcode qn qcold qtime qV qM qvol qh qamb qab qbe qrf qrt qrh qrs qrl qru qon qdr qdc qdn qdh qgi qlo qom) o1 ko of h0 ta kt xn xcold xtime xf ts) (kont : ∀ (qcode' : Int32) (qn' : Int32) (qcold' : Int32) (qtime' : Int32) (qV' : Nat → Int32) (qM' : Nat → Int32) (qvol' : Nat → Int64) (qh' : Nat → Int64) (qamb' : Nat → Int32) (qab' : Nat → Int32) (qbe' : Nat → Int32) (qrf' : Nat → Int32) (qrt' : Nat → Int32) (qrh' : Nat → Int32) (qrs' : Nat → Int32) (qrl' : Nat → Int32) (qru' : Nat → Int32) (qon' : Nat → Int32) (qdr' : Nat → Int32) (qdc' : Nat → Int32) (qdn' : Nat → Int64) (qdh' : Nat → Int64) (qgi' : Nat → Int64) (qlo' : Nat → Int64) (qom' : Nat → Int32) (of' : Nat → Int64) (xn' xcold' xtime' : Int32) (xf' : Nat → Option Nat) (ts' : List (ADt × TKt)) (n' T' : Nat) (Pf' : Nat → Nat) (H1 : Heap) (locs1 : List Loc) (ls1 : Array Slot), lv_has ls1 8 [(0, .ref b), (1, .ref h0), (2, .ref m0), (3, .ref o1), (4, .int (i3 i))] → INV (c0 + 1) n' T' Pf' xn' xcold' xtime' xf' ts' qn' qcold' qtime' qV' qM' qvol' qh' qamb' qab' qbe' qrf' qrt' qrh' qrs' qrl' qru' qon' qdr' qdc' qdn' qdh' qgi' qlo' qom' → LWd dC dI (fun q : Nat => s.heap.size ≤ q) s H1 locs1 (mwd m0 m1 m2 m3 m4 m5 m6 m7 m8 m9 m10 m11 m12 m13 m14 m15 m16 m17 m18 m19 m20 m21 kc1 kc2 kc3 kc4 kc5 kc6 kc7 kc8 kc9 kc10 kc11 kc12 kc13 kc14 kc15 kc16 kc17 kc18 kc19 kc20 kc21 qcode' qn' qcold' qtime' qV' qM' qvol' qh' qamb' qab' qbe' qrf' qrt' qrh' qrs' qrl' qru' qon' qdr' qdc' qdn' qdh' qgi' qlo' qom') o1 ko of' h0 ta kt xn' xcold' xtime' xf' ts' → W p l e room_1 s m #[Value.ref b] below meth c H1 locs1 (cells + 10) (slots + 200) Q (F0 m 1155 ls1 [])) : W p l e room_1 s m #[Value.ref b] below meth c H locs cells slots Q (F0 m 498 ls []) := by
  obtain ⟨hx, hb, hr0, hml, hown, hts, hX0, hbl, hlocks, hgv⟩ := id C0
  have hA : ∀ q : Nat, s.heap.size ≤ q → (fun q : Nat => s.heap.size ≤ q) q := fun _ h => h
  have hbA : ¬ (fun q : Nat => s.heap.size ≤ q) b := Nat.not_le.mpr hbl
  obtain ⟨hP, hD, hK, hS⟩ := hW
  have hin1 : vp_in (i3 i + 1) L := vpin (k := 1) (by omega) hL
  have hin2 : vp_in (i3 i + 2) L := vpin (k := 2) (by omega) hL
  have hin3 : vp_in (i3 i + 3) L := vpin (k := 3) (by omega) hL
  have hin4 : vp_in (i3 i + 4) L := vpin (k := 4) (by omega) hL
  have hin5 : vp_in (i3 i + 5) L := vpin (k := 5) (by omega) hL
  have hin6 : vp_in (i3 i + 6) L := vpin (k := 6) (by omega) hL
  have hin7 : vp_in (i3 i + 7) L := vpin (k := 7) (by omega) hL
  refine lv_aload_n hx hb d_law_498 rfl (lv_at hl 1 rfl) ?_
  refine lv_aload_n hx hb d_law_499 rfl (lv_at hl 0 rfl) ?_
  refine lv_iload hx hb d_law_500 (lv_at hl 4 rfl) ?_
  refine lv_iconst (v := 1) hx hb d_law_502 (by decide) ?_
  refine lv_iadd hx hb d_law_503 ?_
  refine va_sld hx hb hX0 hbl hbA hS hin1 d_law_504 ?_
  refine lv_aload_n hx hb d_law_505 rfl (lv_at hl 0 rfl) ?_
  refine lv_iload hx hb d_law_506 (lv_at hl 4 rfl) ?_
  refine lv_iconst (v := 2) hx hb d_law_508 (by decide) ?_
  refine lv_iadd hx hb d_law_509 ?_
  refine va_sld hx hb hX0 hbl hbA hS hin2 d_law_510 ?_
  refine lv_aload_n hx hb d_law_511 rfl (lv_at hl 0 rfl) ?_
  refine lv_iload hx hb d_law_512 (lv_at hl 4 rfl) ?_
  refine lv_iconst (v := 3) hx hb d_law_514 (by decide) ?_
  refine lv_iadd hx hb d_law_515 ?_
  refine va_sld hx hb hX0 hbl hbA hS hin3 d_law_516 ?_
  refine lv_aload_n hx hb d_law_517 rfl (lv_at hl 0 rfl) ?_
  refine lv_iload hx hb d_law_518 (lv_at hl 4 rfl) ?_
  refine lv_iconst (v := 4) hx hb d_law_520 (by decide) ?_
  refine lv_iadd hx hb d_law_521 ?_
  refine va_sld hx hb hX0 hbl hbA hS hin4 d_law_522 ?_
  refine M_loses (qcode := qcode) C0 hX hN hl.1 hcc hss hc ⟨hP, hD, hK, hS⟩ hI (fun r of xn xcold xtime xf ts n T Pf res H locs hres hr hI hW => ?_)
  obtain ⟨hP, hD, hK, hS⟩ := hW
  refine lv_istore (lv' := [(5, .int r), (0, .ref b), (1, .ref h0), (2, .ref m0), (3, .ref o1), (4, .int (i3 i))]) hx hb d_law_526 hl (by decide) rfl (fun ls hl => ?_)
  refine lv_aload_n hx hb d_law_528 rfl (lv_at hl 3 rfl) ?_
  refine lv_aload_n hx hb d_law_529 rfl (lv_at hl 1 rfl) ?_
  refine lv_iload hx hb d_law_530 (lv_at hl 5 rfl) ?_
  refine lv_iconst (v := 1) hx hb d_law_532 (by decide) ?_
  refine lv_iadd hx hb d_law_533 ?_
  refine va_sld hx hb hX0 hbl hbA hS hin1 d_law_534 ?_
  refine lv_aload_n hx hb d_law_535 rfl (lv_at hl 1 rfl) ?_
  refine lv_iload hx hb d_law_536 (lv_at hl 5 rfl) ?_
  refine lv_iconst (v := 2) hx hb d_law_538 (by decide) ?_
  refine lv_iadd hx hb d_law_539 ?_
  refine va_sld hx hb hX0 hbl hbA hS hin2 d_law_540 ?_
  refine lv_aload_n hx hb d_law_541 rfl (lv_at hl 1 rfl) ?_
  refine lv_iload hx hb d_law_542 (lv_at hl 5 rfl) ?_
  refine lv_iconst (v := 3) hx hb d_law_544 (by decide) ?_
  refine lv_iadd hx hb d_law_545 ?_
  refine va_sld hx hb hX0 hbl hbA hS hin3 d_law_546 ?_
  refine lv_aload_n hx hb d_law_547 rfl (lv_at hl 1 rfl) ?_
  refine lv_iload hx hb d_law_548 (lv_at hl 5 rfl) ?_
  refine lv_iconst (v := 4) hx hb d_law_550 (by decide) ?_
  refine lv_iadd hx hb d_law_551 ?_
  refine va_sld hx hb hX0 hbl hbA hS hin4 d_law_552 ?_
  have hPm := gx_Pp List.perm_append_comm hP
  have hDm := gx_Dp List.perm_append_comm hD
  have hFc := gx_freeW hDm hS hA
  have hPc := gx_Pr hPm
  have hDc := gx_Dr hDm
  refine va_callv (va_runV (As := [.int (xs ((i3 i) + 1).toNatClampNeg), .int (xs ((i3 i) + 2).toNatClampNeg), .int (xs ((i3 i) + 3).toNatClampNeg), .int (xs ((i3 i) + 4).toNatClampNeg)]) (rest := []) ⟨hx, hb, hml, hown, hts⟩ (c_Mod_loses N l dC dI m0 m1 m2 m3 m4 m5 m6 m7 m8 m9 m10 m11 m12 m13 m14 m15 m16 m17 m18 m19 m20 m21 kc1 kc2 kc3 kc4 kc5 kc6 kc7 kc8 kc9 kc10 kc11 kc12 kc13 kc14 kc15 kc16 kc17 kc18 kc19 kc20 kc21 H.size qcode qn qcold qtime qV qM qvol qh qamb qab qbe qrf qrt qrh qrs qrl qru qon qdr qdc qdn qdh qgi qlo qom ((xs ((i3 i) + 1).toNatClampNeg)) ((xs ((i3 i) + 2).toNatClampNeg)) ((xs ((i3 i) + 3).toNatClampNeg)) ((xs ((i3 i) + 4).toNatClampNeg)) res hres) (cwV 4 hts (gx_gVL mw_686 mw_683 mw_684 mw_685 mw_25) rfl rfl rfl (by decide +kernel) ⟨Nat.le_of_ble_eq_true rfl, Nat.le_of_ble_eq_true rfl⟩) ⟨fun a U g mk q => by obtain ⟨q0, q1, qP, qK, qD, qE⟩ := q; exact ⟨q0, q1, qP, va_K.moved (u := U) (U := U.calling g mk a) (Vm.Alike.refl U.vm) qK, qD, qE.calls⟩, va_recv hKm hPc (ci := 6) (q0 := 0) rfl rfl, fun U hU hW => ⟨rfl, by rw [hU], by rw [hU]; exact hPc, va_K.moved hW.alike hKm, hDc.weaken (fun _ _ _ _ => trivial), hX.2.1.warm hW⟩⟩ rfl rfl hl.1 rfl (lv_room (Nat.le_of_ble_eq_true rfl)) d_law_553 ⟨by rw [rc1]; omega, by rw [rs1]; omega⟩) hS (fun q _ h => hFc q h) hFc (fun _ t H locs ht hvm hw hB hz1 hk1 hS => ?_)
  obtain ⟨hP1, hK1, hD1⟩ := hB
  rw [ht] at hP1
  obtain ⟨hP, hD⟩ := gx_keepW hPm hDm hk1 hFc hP1 hD1
  replace hP := gx_Pp List.perm_append_comm hP
  replace hD := gx_Dp List.perm_append_comm hD
  refine lv_aload_n hx hb d_law_556 rfl (lv_at hl 3 rfl) ?_
  have hPm := gx_Pp List.perm_append_comm hP
  have hDm := gx_Dp List.perm_append_comm hD
  have hFc := gx_freeW hDm hS hA
  have hPc := gx_Pr hPm
  have hDc := gx_Dr hDm
  refine va_calli (va_runV (As := []) (rest := []) ⟨hx, hb, hml, hown, hts⟩ (c_Mod_thrown N l dC dI m0 m1 m2 m3 m4 m5 m6 m7 m8 m9 m10 m11 m12 m13 m14 m15 m16 m17 m18 m19 m20 m21 kc1 kc2 kc3 kc4 kc5 kc6 kc7 kc8 kc9 kc10 kc11 kc12 kc13 kc14 kc15 kc16 kc17 kc18 kc19 kc20 kc21 H.size res.1 qn qcold qtime qV qM qvol qh res.2.1 res.2.2.1 res.2.2.2 qrf qrt qrh qrs qrl qru qon qdr qdc qdn qdh qgi qlo qom _ rfl) (cwV 0 hts (gx_gVL mw_609 mw_606 mw_607 mw_608 mw_25) rfl rfl rfl (by decide +kernel) ⟨Nat.le_of_ble_eq_true rfl, Nat.le_of_ble_eq_true rfl⟩) ⟨fun a U g mk q => by obtain ⟨q0, q1, qP, qK, qD, qE⟩ := q; exact ⟨q0, q1, qP, va_K.moved (u := U) (U := U.calling g mk a) (Vm.Alike.refl U.vm) qK, qD, qE.calls⟩, va_recv hKm hPc (ci := 6) (q0 := 0) rfl rfl, fun U hU hW => ⟨rfl, by rw [hU], by rw [hU]; exact hPc, va_K.moved hW.alike hKm, hDc.weaken (fun _ _ _ _ => trivial), hX.2.1.warm hW⟩⟩ rfl rfl hl.1 rfl (lv_room (Nat.le_of_ble_eq_true rfl)) d_law_557 ⟨by rw [rc1]; omega, by rw [rs1]; omega⟩) hS (fun q _ h => hFc q h) hFc (fun r9 _ t H locs ht hvm hw hB hz1 hk1 hS => ?_)
  obtain ⟨hP1, hK1, hD1⟩ := hB
  rw [ht] at hP1
  rw [hw]
  obtain ⟨hP, hD⟩ := gx_keepW hPm hDm hk1 hFc hP1 hD1
  replace hP := gx_Pp List.perm_append_comm hP
  replace hD := gx_Dp List.perm_append_comm hD
  refine lv_iload hx hb d_law_560 (lv_at hl 0 rfl) ?_
  refine lv_icmp_eq (tgt := 567) hx hb d_law_562 (by decide) (fun _ => ?_) (fun c9 => absurd hr.symm c9)
  refine lv_goto (tgt := 1155) hx hb d_law_567 (by decide) ?_
  exact kont res.1 qn qcold qtime qV qM qvol qh res.2.1 res.2.2.1 res.2.2.2 qrf qrt qrh qrs qrl qru qon qdr qdc qdn qdh qgi qlo qom of xn xcold xtime xf ts n T Pf H locs ls (lv_sub hl [1, 2, 3, 4, 5] rfl) hI ⟨hP, hD, hK, hS⟩
end LS
