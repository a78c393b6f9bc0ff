theorem mw_691 : (Cond.code y_Mod_rod b_Mod_rod 9 none) ∈ gx_W := List.mem_filter.mpr ⟨List.mem_of_getElem? (i := 691) (by decide +kernel), by decide +kernel⟩
theorem mw_688 : (Cond.methodLink R_law 100 y_Mod_rod) ∈ gx_W := List.mem_filter.mpr ⟨List.mem_of_getElem? (i := 688) (by decide +kernel), by decide +kernel⟩
theorem mw_689 : (Cond.instanceMethod y_Mod_rod) ∈ gx_W := List.mem_filter.mpr ⟨List.mem_of_getElem? (i := 689) (by decide +kernel), by decide +kernel⟩
theorem mw_690 : (Cond.selects R_Mod y_Mod_rod y_Mod_rod) ∈ gx_W := List.mem_filter.mpr ⟨List.mem_of_getElem? (i := 690) (by decide +kernel), by decide +kernel⟩
theorem d_law_570 : decode code 570 = .ok (.aload_n 1, 1) := by decide +kernel
theorem d_law_571 : decode code 571 = .ok (.aload_n 0, 1) := by decide +kernel
theorem d_law_572 : decode code 572 = .ok (.iload 4, 2) := by decide +kernel
theorem d_law_574 : decode code 574 = .ok (.iconst 1, 1) := by decide +kernel
theorem d_law_575 : decode code 575 = .ok (.iadd, 1) := by decide +kernel
theorem d_law_576 : decode code 576 = .ok (.iaload, 1) := by decide +kernel
theorem d_law_577 : decode code 577 = .ok (.aload_n 0, 1) := by decide +kernel
theorem d_law_578 : decode code 578 = .ok (.iload 4, 2) := by decide +kernel
theorem d_law_580 : decode code 580 = .ok (.iconst 2, 1) := by decide +kernel
theorem d_law_581 : decode code 581 = .ok (.iadd, 1) := by decide +kernel
theorem d_law_582 : decode code 582 = .ok (.iaload, 1) := by decide +kernel
theorem d_law_583 : decode code 583 = .ok (.aload_n 0, 1) := by decide +kernel
theorem d_law_584 : decode code 584 = .ok (.iload 4, 2) := by decide +kernel
theorem d_law_586 : decode code 586 = .ok (.iconst 3, 1) := by decide +kernel
theorem d_law_587 : decode code 587 = .ok (.iadd, 1) := by decide +kernel
theorem d_law_588 : decode code 588 = .ok (.iaload, 1) := by decide +kernel
theorem d_law_589 : decode code 589 = .ok (.aload_n 0, 1) := by decide +kernel
theorem d_law_590 : decode code 590 = .ok (.iload 4, 2) := by decide +kernel
theorem d_law_592 : decode code 592 = .ok (.iconst 4, 1) := by decide +kernel
theorem d_law_593 : decode code 593 = .ok (.iadd, 1) := by decide +kernel
theorem d_law_594 : decode code 594 = .ok (.iaload, 1) := by decide +kernel
theorem d_law_595 : decode code 595 = .ok (.aload_n 0, 1) := by decide +kernel
theorem d_law_596 : decode code 596 = .ok (.iload 4, 2) := by decide +kernel
theorem d_law_598 : decode code 598 = .ok (.iconst 5, 1) := by decide +kernel
theorem d_law_599 : decode code 599 = .ok (.iadd, 1) := by decide +kernel
theorem d_law_600 : decode code 600 = .ok (.iaload, 1) := by decide +kernel
theorem d_law_601 : decode code 601 = .ok (.aload_n 0, 1) := by decide +kernel
theorem d_law_602 : decode code 602 = .ok (.iload 4, 2) := by decide +kernel
theorem d_law_604 : decode code 604 = .ok (.bipush 6, 2) := by decide +kernel
theorem d_law_606 : decode code 606 = .ok (.iadd, 1) := by decide +kernel
theorem d_law_607 : decode code 607 = .ok (.iaload, 1) := by decide +kernel
theorem d_law_608 : decode code 608 = .ok (.aload_n 0, 1) := by decide +kernel
theorem d_law_609 : decode code 609 = .ok (.iload 4, 2) := by decide +kernel
theorem d_law_611 : decode code 611 = .ok (.bipush 7, 2) := by decide +kernel
theorem d_law_613 : decode code 613 = .ok (.iadd, 1) := by decide +kernel
theorem d_law_614 : decode code 614 = .ok (.iaload, 1) := by decide +kernel
theorem d_law_618 : decode code 618 = .ok (.istore 5, 2) := by decide +kernel
theorem d_law_620 : decode code 620 = .ok (.aload_n 2, 1) := by decide +kernel
theorem d_law_621 : decode code 621 = .ok (.aload_n 0, 1) := by decide +kernel
theorem d_law_622 : decode code 622 = .ok (.iload 4, 2) := by decide +kernel
theorem d_law_624 : decode code 624 = .ok (.iconst 1, 1) := by decide +kernel
theorem d_law_625 : decode code 625 = .ok (.iadd, 1) := by decide +kernel
theorem d_law_626 : decode code 626 = .ok (.iaload, 1) := by decide +kernel
theorem d_law_627 : decode code 627 = .ok (.aload_n 0, 1) := by decide +kernel
theorem d_law_628 : decode code 628 = .ok (.iload 4, 2) := by decide +kernel
theorem d_law_630 : decode code 630 = .ok (.iconst 2, 1) := by decide +kernel
theorem d_law_631 : decode code 631 = .ok (.iadd, 1) := by decide +kernel
theorem d_law_632 : decode code 632 = .ok (.iaload, 1) := by decide +kernel
theorem d_law_633 : decode code 633 = .ok (.aload_n 0, 1) := by decide +kernel
theorem d_law_634 : decode code 634 = .ok (.iload 4, 2) := by decide +kernel
theorem d_law_636 : decode code 636 = .ok (.iconst 3, 1) := by decide +kernel
theorem d_law_637 : decode code 637 = .ok (.iadd, 1) := by decide +kernel
theorem d_law_638 : decode code 638 = .ok (.iaload, 1) := by decide +kernel
theorem d_law_639 : decode code 639 = .ok (.aload_n 0, 1) := by decide +kernel
theorem d_law_640 : decode code 640 = .ok (.iload 4, 2) := by decide +kernel
theorem d_law_642 : decode code 642 = .ok (.iconst 4, 1) := by decide +kernel
theorem d_law_643 : decode code 643 = .ok (.iadd, 1) := by decide +kernel
theorem d_law_644 : decode code 644 = .ok (.iaload, 1) := by decide +kernel
theorem d_law_645 : decode code 645 = .ok (.aload_n 0, 1) := by decide +kernel
theorem d_law_646 : decode code 646 = .ok (.iload 4, 2) := by decide +kernel
theorem d_law_648 : decode code 648 = .ok (.iconst 5, 1) := by decide +kernel
theorem d_law_649 : decode code 649 = .ok (.iadd, 1) := by decide +kernel
theorem d_law_650 : decode code 650 = .ok (.iaload, 1) := by decide +kernel
theorem d_law_651 : decode code 651 = .ok (.aload_n 0, 1) := by decide +kernel
theorem d_law_652 : decode code 652 = .ok (.iload 4, 2) := by decide +kernel
theorem d_law_654 : decode code 654 = .ok (.bipush 6, 2) := by decide +kernel
theorem d_law_656 : decode code 656 = .ok (.iadd, 1) := by decide +kernel
theorem d_law_657 : decode code 657 = .ok (.iaload, 1) := by decide +kernel
theorem d_law_658 : decode code 658 = .ok (.aload_n 0, 1) := by decide +kernel
theorem d_law_659 : decode code 659 = .ok (.iload 4, 2) := by decide +kernel
theorem d_law_661 : decode code 661 = .ok (.bipush 7, 2) := by decide +kernel
theorem d_law_663 : decode code 663 = .ok (.iadd, 1) := by decide +kernel
theorem d_law_664 : decode code 664 = .ok (.iaload, 1) := by decide +kernel
theorem d_law_665 : decode code 665 = .ok (.invokevirtual 100, 3) := by decide +kernel
theorem d_law_668 : decode code 668 = .ok (.aload_n 2, 1) := by decide +kernel
theorem d_law_669 : decode code 669 = .ok (.invokevirtual 74, 3) := by decide +kernel
theorem d_law_672 : decode code 672 = .ok (.iload 5, 2) := by decide +kernel
theorem d_law_674 : decode code 674 = .ok (.if_icmp .eq 5, 3) := by decide +kernel
theorem d_law_679 : decode code 679 = .ok (.goto 476, 3) := by decide +kernel
section LS
variable {p : Program} {l : Launch} {e : Env} {s : State} {m : MethodId} {below : List Frame} {meth : Method} {c : Code} {b L : Nat} {xs : Nat → Int32} {dC : Nat → ClassId} {dI : Nat → Nat → Nat} {Q : State → Prop} {H : Heap} {locs : List Loc} {cells slots : Nat} {ls : Array Slot} {o1 h0 ta m0 m1 m2 m3 m4 m5 m6 m7 m8 m9 m10 m11 m12 m13 m14 m15 m16 m17 m18 m19 m20 m21 : Nat} {ko kt kc1 kc2 kc3 kc4 kc5 kc6 kc7 kc8 kc9 kc10 kc11 kc12 kc13 kc14 kc15 kc16 kc17 kc18 kc19 kc20 kc21 : ClassId} {of : Nat → Int64} {ts : List (ADt × TKt)} {c0 n T N i : Nat} {Pf : Nat → Nat} {xn xcold xtime : Int32} {xf : Nat → Option Nat} {qcode qn qcold qtime : Int32} {qV qM : Nat → Int32} {qvol qh : Nat → Int64} {qamb qab qbe qrf qrt qrh qrs qrl qru qon qdr qdc : Nat → Int32} {qdn qdh qgi qlo : Nat → Int64} {qom : Nat → Int32}
set_option maxHeartbeats 4000000 in
set_option maxRecDepth 100000 in
theorem seg_rod (C0 : lw_At p s m meth c b L xs) (hX : LX l s (fun q : Nat => s.heap.size ≤ q)) (hN : 2000 ≤ N) (hcc : cells + 10 ≤ 601024) (hss : slots + 200 ≤ 7293034) (hc : c0 < 512) (hi : i + 8 ≤ L) (hL : L ≤ 4096) (hKm : va_K (dC, dI) classes [(kc1, .int), (kc2, .int), (kc3, .long), (kc4, .long), (kc5, .int), (kc6, .int), (kc7, .int), (kc8, .int), (kc9, .int), (kc10, .int), (kc11, .int), (kc12, .int), (kc13, .int), (kc14, .boolean), (kc15, .int), (kc16, .int), (kc17, .long), (kc18, .long), (kc19, .long), (kc20, .long), (kc21, .int)] s) (hl : lv_has ls 8 [(0, .ref b), (1, .ref h0), (2, .ref m0), (3, .ref o1), (4, .int (i3 i))]) (hI : INV c0 n T Pf xn xcold xtime xf ts qn qcold qtime qV qM qvol qh qamb qab qbe qrf qrt qrh qrs qrl qru qon qdr qdc qdn qdh qgi qlo qom) (hW : LWd dC dI (fun q : Nat => s.heap.size ≤ q) s H locs (mwd m0 m1 m2 m3 m4 m5 m6 m7 m8 m9 m10 m11 m12 m13 m14 m15 m16 m17 m18 m19 m20 m21 kc1 kc2 kc3 kc4 kc5 kc6 kc7 kc8 kc9 kc10 kc11 kc12 kc13 kc14 kc15 kc16 kc17 kc18 kc19 kc20 kc21 qcode qn qcold qtime qV qM qvol qh qamb qab qbe qrf qrt qrh qrs qrl qru qon qdr qdc qdn qdh qgi qlo qom) o1 ko of h0 ta kt xn xcold xtime xf ts) (kont : ∀ (qcode' : Int32) (qn' : Int32) (qcold' : Int32) (qtime' : Int32) (qV' : Nat → Int32) (qM' : Nat → Int32) (qvol' : Nat → Int64) (qh' : Nat → Int64) (qamb' : Nat → Int32) (qab' : Nat → Int32) (qbe' : Nat → Int32) (qrf' : Nat → Int32) (qrt' : Nat → Int32) (qrh' : Nat → Int32) (qrs' : Nat → Int32) (qrl' : Nat → Int32) (qru' : Nat → Int32) (qon' : Nat → Int32) (qdr' : Nat → Int32) (qdc' : Nat → Int32) (qdn' : Nat → Int64) (qdh' : Nat → Int64) (qgi' : Nat → Int64) (qlo' : Nat → Int64) (qom' : Nat → Int32) (of' : Nat → Int64) (xn' xcold' xtime' : Int32) (xf' : Nat → Option Nat) (ts' : List (ADt × TKt)) (n' T' : Nat) (Pf' : Nat → Nat) (H1 : Heap) (locs1 : List Loc) (ls1 : Array Slot), lv_has ls1 8 [(0, .ref b), (1, .ref h0), (2, .ref m0), (3, .ref o1), (4, .int (i3 i))] → INV (c0 + 1) n' T' Pf' xn' xcold' xtime' xf' ts' qn' qcold' qtime' qV' qM' qvol' qh' qamb' qab' qbe' qrf' qrt' qrh' qrs' qrl' qru' qon' qdr' qdc' qdn' qdh' qgi' qlo' qom' → LWd dC dI (fun q : Nat => s.heap.size ≤ q) s H1 locs1 (mwd m0 m1 m2 m3 m4 m5 m6 m7 m8 m9 m10 m11 m12 m13 m14 m15 m16 m17 m18 m19 m20 m21 kc1 kc2 kc3 kc4 kc5 kc6 kc7 kc8 kc9 kc10 kc11 kc12 kc13 kc14 kc15 kc16 kc17 kc18 kc19 kc20 kc21 qcode' qn' qcold' qtime' qV' qM' qvol' qh' qamb' qab' qbe' qrf' qrt' qrh' qrs' qrl' qru' qon' qdr' qdc' qdn' qdh' qgi' qlo' qom') o1 ko of' h0 ta kt xn' xcold' xtime' xf' ts' → W p l e room_1 s m #[Value.ref b] below meth c H1 locs1 (cells + 10) (slots + 200) Q (F0 m 1155 ls1 [])) : W p l e room_1 s m #[Value.ref b] below meth c H locs cells slots Q (F0 m 570 ls []) := by
  obtain ⟨hx, hb, hr0, hml, hown, hts, hX0, hbl, hlocks, hgv⟩ := id C0
  have hA : ∀ q : Nat, s.heap.size ≤ q → (fun q : Nat => s.heap.size ≤ q) q := fun _ h => h
  have hbA : ¬ (fun q : Nat => s.heap.size ≤ q) b := Nat.not_le.mpr hbl
  obtain ⟨hP, hD, hK, hS⟩ := hW
  have hin1 : vp_in (i3 i + 1) L := vpin (k := 1) (by omega) hL
  have hin2 : vp_in (i3 i + 2) L := vpin (k := 2) (by omega) hL
  have hin3 : vp_in (i3 i + 3) L := vpin (k := 3) (by omega) hL
  have hin4 : vp_in (i3 i + 4) L := vpin (k := 4) (by omega) hL
  have hin5 : vp_in (i3 i + 5) L := vpin (k := 5) (by omega) hL
  have hin6 : vp_in (i3 i + 6) L := vpin (k := 6) (by omega) hL
  have hin7 : vp_in (i3 i + 7) L := vpin (k := 7) (by omega) hL
  refine lv_aload_n hx hb d_law_570 rfl (lv_at hl 1 rfl) ?_
  refine lv_aload_n hx hb d_law_571 rfl (lv_at hl 0 rfl) ?_
  refine lv_iload hx hb d_law_572 (lv_at hl 4 rfl) ?_
  refine lv_iconst (v := 1) hx hb d_law_574 (by decide) ?_
  refine lv_iadd hx hb d_law_575 ?_
  refine va_sld hx hb hX0 hbl hbA hS hin1 d_law_576 ?_
  refine lv_aload_n hx hb d_law_577 rfl (lv_at hl 0 rfl) ?_
  refine lv_iload hx hb d_law_578 (lv_at hl 4 rfl) ?_
  refine lv_iconst (v := 2) hx hb d_law_580 (by decide) ?_
  refine lv_iadd hx hb d_law_581 ?_
  refine va_sld hx hb hX0 hbl hbA hS hin2 d_law_582 ?_
  refine lv_aload_n hx hb d_law_583 rfl (lv_at hl 0 rfl) ?_
  refine lv_iload hx hb d_law_584 (lv_at hl 4 rfl) ?_
  refine lv_iconst (v := 3) hx hb d_law_586 (by decide) ?_
  refine lv_iadd hx hb d_law_587 ?_
  refine va_sld hx hb hX0 hbl hbA hS hin3 d_law_588 ?_
  refine lv_aload_n hx hb d_law_589 rfl (lv_at hl 0 rfl) ?_
  refine lv_iload hx hb d_law_590 (lv_at hl 4 rfl) ?_
  refine lv_iconst (v := 4) hx hb d_law_592 (by decide) ?_
  refine lv_iadd hx hb d_law_593 ?_
  refine va_sld hx hb hX0 hbl hbA hS hin4 d_law_594 ?_
  refine lv_aload_n hx hb d_law_595 rfl (lv_at hl 0 rfl) ?_
  refine lv_iload hx hb d_law_596 (lv_at hl 4 rfl) ?_
  refine lv_iconst (v := 5) hx hb d_law_598 (by decide) ?_
  refine lv_iadd hx hb d_law_599 ?_
  refine va_sld hx hb hX0 hbl hbA hS hin5 d_law_600 ?_
  refine lv_aload_n hx hb d_law_601 rfl (lv_at hl 0 rfl) ?_
  refine lv_iload hx hb d_law_602 (lv_at hl 4 rfl) ?_
  refine lv_bipush (v := 6) hx hb d_law_604 (by decide) ?_
  refine lv_iadd hx hb d_law_606 ?_
  refine va_sld hx hb hX0 hbl hbA hS hin6 d_law_607 ?_
  refine lv_aload_n hx hb d_law_608 rfl (lv_at hl 0 rfl) ?_
  refine lv_iload hx hb d_law_609 (lv_at hl 4 rfl) ?_
  refine lv_bipush (v := 7) hx hb d_law_611 (by decide) ?_
  refine lv_iadd hx hb d_law_613 ?_
  refine va_sld hx hb hX0 hbl hbA hS hin7 d_law_614 ?_
  refine M_rod (qcode := qcode) C0 hX hN hl.1 hcc hss hc ⟨hP, hD, hK, hS⟩ hI (fun r of xn xcold xtime xf ts n T Pf res H locs hres hr hI hW => ?_)
  obtain ⟨hP, hD, hK, hS⟩ := hW
  refine lv_istore (lv' := [(5, .int r), (0, .ref b), (1, .ref h0), (2, .ref m0), (3, .ref o1), (4, .int (i3 i))]) hx hb d_law_618 hl (by decide) rfl (fun ls hl => ?_)
  refine lv_aload_n hx hb d_law_620 rfl (lv_at hl 3 rfl) ?_
  refine lv_aload_n hx hb d_law_621 rfl (lv_at hl 1 rfl) ?_
  refine lv_iload hx hb d_law_622 (lv_at hl 5 rfl) ?_
  refine lv_iconst (v := 1) hx hb d_law_624 (by decide) ?_
  refine lv_iadd hx hb d_law_625 ?_
  refine va_sld hx hb hX0 hbl hbA hS hin1 d_law_626 ?_
  refine lv_aload_n hx hb d_law_627 rfl (lv_at hl 1 rfl) ?_
  refine lv_iload hx hb d_law_628 (lv_at hl 5 rfl) ?_
  refine lv_iconst (v := 2) hx hb d_law_630 (by decide) ?_
  refine lv_iadd hx hb d_law_631 ?_
  refine va_sld hx hb hX0 hbl hbA hS hin2 d_law_632 ?_
  refine lv_aload_n hx hb d_law_633 rfl (lv_at hl 1 rfl) ?_
  refine lv_iload hx hb d_law_634 (lv_at hl 5 rfl) ?_
  refine lv_iconst (v := 3) hx hb d_law_636 (by decide) ?_
  refine lv_iadd hx hb d_law_637 ?_
  refine va_sld hx hb hX0 hbl hbA hS hin3 d_law_638 ?_
  refine lv_aload_n hx hb d_law_639 rfl (lv_at hl 1 rfl) ?_
  refine lv_iload hx hb d_law_640 (lv_at hl 5 rfl) ?_
  refine lv_iconst (v := 4) hx hb d_law_642 (by decide) ?_
  refine lv_iadd hx hb d_law_643 ?_
  refine va_sld hx hb hX0 hbl hbA hS hin4 d_law_644 ?_
  refine lv_aload_n hx hb d_law_645 rfl (lv_at hl 1 rfl) ?_
  refine lv_iload hx hb d_law_646 (lv_at hl 5 rfl) ?_
  refine lv_iconst (v := 5) hx hb d_law_648 (by decide) ?_
  refine lv_iadd hx hb d_law_649 ?_
  refine va_sld hx hb hX0 hbl hbA hS hin5 d_law_650 ?_
  refine lv_aload_n hx hb d_law_651 rfl (lv_at hl 1 rfl) ?_
  refine lv_iload hx hb d_law_652 (lv_at hl 5 rfl) ?_
  refine lv_bipush (v := 6) hx hb d_law_654 (by decide) ?_
  refine lv_iadd hx hb d_law_656 ?_
  refine va_sld hx hb hX0 hbl hbA hS hin6 d_law_657 ?_
  refine lv_aload_n hx hb d_law_658 rfl (lv_at hl 1 rfl) ?_
  refine lv_iload hx hb d_law_659 (lv_at hl 5 rfl) ?_
  refine lv_bipush (v := 7) hx hb d_law_661 (by decide) ?_
  refine lv_iadd hx hb d_law_663 ?_
  refine va_sld hx hb hX0 hbl hbA hS hin7 d_law_664 ?_
  have hPm := gx_Pp List.perm_append_comm hP
  have hDm := gx_Dp List.perm_append_comm hD
  have hFc := gx_freeW hDm hS hA
  have hPc := gx_Pr hPm
  have hDc := gx_Dr hDm
  refine va_callv (va_runV (As := [.int (xs ((i3 i) + 1).toNatClampNeg), .int (xs ((i3 i) + 2).toNatClampNeg), .int (xs ((i3 i) + 3).toNatClampNeg), .int (xs ((i3 i) + 4).toNatClampNeg), .int (xs ((i3 i) + 5).toNatClampNeg), .int (xs ((i3 i) + 6).toNatClampNeg), .int (xs ((i3 i) + 7).toNatClampNeg)]) (rest := []) ⟨hx, hb, hml, hown, hts⟩ (c_Mod_rod N l dC dI m0 m1 m2 m3 m4 m5 m6 m7 m8 m9 m10 m11 m12 m13 m14 m15 m16 m17 m18 m19 m20 m21 kc1 kc2 kc3 kc4 kc5 kc6 kc7 kc8 kc9 kc10 kc11 kc12 kc13 kc14 kc15 kc16 kc17 kc18 kc19 kc20 kc21 H.size qcode qn qcold qtime qV qM qvol qh qamb qab qbe qrf qrt qrh qrs qrl qru qon qdr qdc qdn qdh qgi qlo qom ((xs ((i3 i) + 1).toNatClampNeg)) ((xs ((i3 i) + 2).toNatClampNeg)) ((xs ((i3 i) + 3).toNatClampNeg)) ((xs ((i3 i) + 4).toNatClampNeg)) ((xs ((i3 i) + 5).toNatClampNeg)) ((xs ((i3 i) + 6).toNatClampNeg)) ((xs ((i3 i) + 7).toNatClampNeg)) res hres) (cwV 7 hts (gx_gVL mw_691 mw_688 mw_689 mw_690 mw_25) rfl rfl rfl (by decide +kernel) ⟨Nat.le_of_ble_eq_true rfl, Nat.le_of_ble_eq_true rfl⟩) ⟨fun a U g mk q => by obtain ⟨q0, q1, qP, qK, qD, qE⟩ := q; exact ⟨q0, q1, qP, va_K.moved (u := U) (U := U.calling g mk a) (Vm.Alike.refl U.vm) qK, qD, qE.calls⟩, va_recv hKm hPc (ci := 6) (q0 := 0) rfl rfl, fun U hU hW => ⟨rfl, by rw [hU], by rw [hU]; exact hPc, va_K.moved hW.alike hKm, hDc.weaken (fun _ _ _ _ => trivial), hX.2.1.warm hW⟩⟩ rfl rfl hl.1 rfl (lv_room (Nat.le_of_ble_eq_true rfl)) d_law_665 ⟨by rw [rc1]; omega, by rw [rs1]; omega⟩) hS (fun q _ h => hFc q h) hFc (fun _ t H locs ht hvm hw hB hz1 hk1 hS => ?_)
  obtain ⟨hP1, hK1, hD1⟩ := hB
  rw [ht] at hP1
  obtain ⟨hP, hD⟩ := gx_keepW hPm hDm hk1 hFc hP1 hD1
  replace hP := gx_Pp List.perm_append_comm hP
  replace hD := gx_Dp List.perm_append_comm hD
  refine lv_aload_n hx hb d_law_668 rfl (lv_at hl 3 rfl) ?_
  have hPm := gx_Pp List.perm_append_comm hP
  have hDm := gx_Dp List.perm_append_comm hD
  have hFc := gx_freeW hDm hS hA
  have hPc := gx_Pr hPm
  have hDc := gx_Dr hDm
  refine va_calli (va_runV (As := []) (rest := []) ⟨hx, hb, hml, hown, hts⟩ (c_Mod_thrown N l dC dI m0 m1 m2 m3 m4 m5 m6 m7 m8 m9 m10 m11 m12 m13 m14 m15 m16 m17 m18 m19 m20 m21 kc1 kc2 kc3 kc4 kc5 kc6 kc7 kc8 kc9 kc10 kc11 kc12 kc13 kc14 kc15 kc16 kc17 kc18 kc19 kc20 kc21 H.size res.1 qn qcold qtime qV qM qvol qh qamb qab qbe res.2.1 res.2.2.1 res.2.2.2.1 res.2.2.2.2.1 res.2.2.2.2.2.1 res.2.2.2.2.2.2.1 res.2.2.2.2.2.2.2 qdr qdc qdn qdh qgi qlo qom _ rfl) (cwV 0 hts (gx_gVL mw_609 mw_606 mw_607 mw_608 mw_25) rfl rfl rfl (by decide +kernel) ⟨Nat.le_of_ble_eq_true rfl, Nat.le_of_ble_eq_true rfl⟩) ⟨fun a U g mk q => by obtain ⟨q0, q1, qP, qK, qD, qE⟩ := q; exact ⟨q0, q1, qP, va_K.moved (u := U) (U := U.calling g mk a) (Vm.Alike.refl U.vm) qK, qD, qE.calls⟩, va_recv hKm hPc (ci := 6) (q0 := 0) rfl rfl, fun U hU hW => ⟨rfl, by rw [hU], by rw [hU]; exact hPc, va_K.moved hW.alike hKm, hDc.weaken (fun _ _ _ _ => trivial), hX.2.1.warm hW⟩⟩ rfl rfl hl.1 rfl (lv_room (Nat.le_of_ble_eq_true rfl)) d_law_669 ⟨by rw [rc1]; omega, by rw [rs1]; omega⟩) hS (fun q _ h => hFc q h) hFc (fun r9 _ t H locs ht hvm hw hB hz1 hk1 hS => ?_)
  obtain ⟨hP1, hK1, hD1⟩ := hB
  rw [ht] at hP1
  rw [hw]
  obtain ⟨hP, hD⟩ := gx_keepW hPm hDm hk1 hFc hP1 hD1
  replace hP := gx_Pp List.perm_append_comm hP
  replace hD := gx_Dp List.perm_append_comm hD
  refine lv_iload hx hb d_law_672 (lv_at hl 0 rfl) ?_
  refine lv_icmp_eq (tgt := 679) hx hb d_law_674 (by decide) (fun _ => ?_) (fun c9 => absurd hr.symm c9)
  refine lv_goto (tgt := 1155) hx hb d_law_679 (by decide) ?_
  exact kont res.1 qn qcold qtime qV qM qvol qh qamb qab qbe res.2.1 res.2.2.1 res.2.2.2.1 res.2.2.2.2.1 res.2.2.2.2.2.1 res.2.2.2.2.2.2.1 res.2.2.2.2.2.2.2 qdr qdc qdn qdh qgi qlo qom of xn xcold xtime xf ts n T Pf H locs ls (lv_sub hl [1, 2, 3, 4, 5] rfl) hI ⟨hP, hD, hK, hS⟩
end LS
