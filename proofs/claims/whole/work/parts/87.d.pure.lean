theorem mw_696 : (Cond.code y_Mod_draws b_Mod_draws 5 (some .int)) ∈ gx_W := List.mem_filter.mpr ⟨List.mem_of_getElem? (i := 696) (by decide +kernel), by decide +kernel⟩
theorem mw_693 : (Cond.methodLink R_law 103 y_Mod_draws) ∈ gx_W := List.mem_filter.mpr ⟨List.mem_of_getElem? (i := 693) (by decide +kernel), by decide +kernel⟩
theorem mw_694 : (Cond.instanceMethod y_Mod_draws) ∈ gx_W := List.mem_filter.mpr ⟨List.mem_of_getElem? (i := 694) (by decide +kernel), by decide +kernel⟩
theorem mw_695 : (Cond.selects R_Mod y_Mod_draws y_Mod_draws) ∈ gx_W := List.mem_filter.mpr ⟨List.mem_of_getElem? (i := 695) (by decide +kernel), by decide +kernel⟩
theorem d_law_682 : decode code 682 = .ok (.aload_n 1, 1) := by decide +kernel
theorem d_law_683 : decode code 683 = .ok (.aload_n 0, 1) := by decide +kernel
theorem d_law_684 : decode code 684 = .ok (.iload 4, 2) := by decide +kernel
theorem d_law_686 : decode code 686 = .ok (.iconst 1, 1) := by decide +kernel
theorem d_law_687 : decode code 687 = .ok (.iadd, 1) := by decide +kernel
theorem d_law_688 : decode code 688 = .ok (.iaload, 1) := by decide +kernel
theorem d_law_689 : decode code 689 = .ok (.aload_n 0, 1) := by decide +kernel
theorem d_law_690 : decode code 690 = .ok (.iload 4, 2) := by decide +kernel
theorem d_law_692 : decode code 692 = .ok (.iconst 2, 1) := by decide +kernel
theorem d_law_693 : decode code 693 = .ok (.iadd, 1) := by decide +kernel
theorem d_law_694 : decode code 694 = .ok (.iaload, 1) := by decide +kernel
theorem d_law_695 : decode code 695 = .ok (.aload_n 0, 1) := by decide +kernel
theorem d_law_696 : decode code 696 = .ok (.iload 4, 2) := by decide +kernel
theorem d_law_698 : decode code 698 = .ok (.iconst 3, 1) := by decide +kernel
theorem d_law_699 : decode code 699 = .ok (.iadd, 1) := by decide +kernel
theorem d_law_700 : decode code 700 = .ok (.iaload, 1) := by decide +kernel
theorem d_law_701 : decode code 701 = .ok (.aload_n 3, 1) := by decide +kernel
theorem d_law_705 : decode code 705 = .ok (.istore 5, 2) := by decide +kernel
theorem d_law_707 : decode code 707 = .ok (.aload_n 2, 1) := by decide +kernel
theorem d_law_708 : decode code 708 = .ok (.aload_n 0, 1) := by decide +kernel
theorem d_law_709 : decode code 709 = .ok (.iload 4, 2) := by decide +kernel
theorem d_law_711 : decode code 711 = .ok (.iconst 1, 1) := by decide +kernel
theorem d_law_712 : decode code 712 = .ok (.iadd, 1) := by decide +kernel
theorem d_law_713 : decode code 713 = .ok (.iaload, 1) := by decide +kernel
theorem d_law_714 : decode code 714 = .ok (.aload_n 0, 1) := by decide +kernel
theorem d_law_715 : decode code 715 = .ok (.iload 4, 2) := by decide +kernel
theorem d_law_717 : decode code 717 = .ok (.iconst 2, 1) := by decide +kernel
theorem d_law_718 : decode code 718 = .ok (.iadd, 1) := by decide +kernel
theorem d_law_719 : decode code 719 = .ok (.iaload, 1) := by decide +kernel
theorem d_law_720 : decode code 720 = .ok (.aload_n 0, 1) := by decide +kernel
theorem d_law_721 : decode code 721 = .ok (.iload 4, 2) := by decide +kernel
theorem d_law_723 : decode code 723 = .ok (.iconst 3, 1) := by decide +kernel
theorem d_law_724 : decode code 724 = .ok (.iadd, 1) := by decide +kernel
theorem d_law_725 : decode code 725 = .ok (.iaload, 1) := by decide +kernel
theorem d_law_726 : decode code 726 = .ok (.invokevirtual 103, 3) := by decide +kernel
theorem d_law_729 : decode code 729 = .ok (.istore 6, 2) := by decide +kernel
theorem d_law_731 : decode code 731 = .ok (.aload_n 2, 1) := by decide +kernel
theorem d_law_732 : decode code 732 = .ok (.invokevirtual 74, 3) := by decide +kernel
theorem d_law_735 : decode code 735 = .ok (.iload 5, 2) := by decide +kernel
theorem d_law_737 : decode code 737 = .ok (.if_icmp .eq 5, 3) := by decide +kernel
theorem d_law_742 : decode code 742 = .ok (.iload 5, 2) := by decide +kernel
theorem d_law_744 : decode code 744 = .ok (.ifCond .ne 15, 3) := by decide +kernel
theorem d_law_759 : decode code 759 = .ok (.goto 396, 3) := by decide +kernel
theorem d_law_747 : decode code 747 = .ok (.aload_n 3, 1) := by decide +kernel
theorem d_law_748 : decode code 748 = .ok (.iconst 0, 1) := by decide +kernel
theorem d_law_749 : decode code 749 = .ok (.laload, 1) := by decide +kernel
theorem d_law_750 : decode code 750 = .ok (.iload 6, 2) := by decide +kernel
theorem d_law_752 : decode code 752 = .ok (.i2l, 1) := by decide +kernel
theorem d_law_753 : decode code 753 = .ok (.lcmp, 1) := by decide +kernel
theorem d_law_754 : decode code 754 = .ok (.ifCond .eq 5, 3) := by decide +kernel
section LS
variable {p : Program} {l : Launch} {e : Env} {s : State} {m : MethodId} {below : List Frame} {meth : Method} {c : Code} {b L : Nat} {xs : Nat → Int32} {dC : Nat → ClassId} {dI : Nat → Nat → Nat} {Q : State → Prop} {H : Heap} {locs : List Loc} {cells slots : Nat} {ls : Array Slot} {o1 h0 ta m0 m1 m2 m3 m4 m5 m6 m7 m8 m9 m10 m11 m12 m13 m14 m15 m16 m17 m18 m19 m20 m21 : Nat} {ko kt kc1 kc2 kc3 kc4 kc5 kc6 kc7 kc8 kc9 kc10 kc11 kc12 kc13 kc14 kc15 kc16 kc17 kc18 kc19 kc20 kc21 : ClassId} {of : Nat → Int64} {ts : List (ADt × TKt)} {c0 n T N i : Nat} {Pf : Nat → Nat} {xn xcold xtime : Int32} {xf : Nat → Option Nat} {qcode qn qcold qtime : Int32} {qV qM : Nat → Int32} {qvol qh : Nat → Int64} {qamb qab qbe qrf qrt qrh qrs qrl qru qon qdr qdc : Nat → Int32} {qdn qdh qgi qlo : Nat → Int64} {qom : Nat → Int32}
set_option maxHeartbeats 4000000 in
set_option maxRecDepth 100000 in
theorem seg_draws (C0 : lw_At p s m meth c b L xs) (hX : LX l s (fun q : Nat => s.heap.size ≤ q)) (hN : 2000 ≤ N) (hcc : cells + 10 ≤ 601024) (hss : slots + 200 ≤ 7293034) (hc : c0 < 512) (hi : i + 8 ≤ L) (hL : L ≤ 4096) (hKm : va_K (dC, dI) classes [(kc1, .int), (kc2, .int), (kc3, .long), (kc4, .long), (kc5, .int), (kc6, .int), (kc7, .int), (kc8, .int), (kc9, .int), (kc10, .int), (kc11, .int), (kc12, .int), (kc13, .int), (kc14, .boolean), (kc15, .int), (kc16, .int), (kc17, .long), (kc18, .long), (kc19, .long), (kc20, .long), (kc21, .int)] s) (hl : lv_has ls 8 [(0, .ref b), (1, .ref h0), (2, .ref m0), (3, .ref o1), (4, .int (i3 i))]) (hI : INV c0 n T Pf xn xcold xtime xf ts qn qcold qtime qV qM qvol qh qamb qab qbe qrf qrt qrh qrs qrl qru qon qdr qdc qdn qdh qgi qlo qom) (hW : LWd dC dI (fun q : Nat => s.heap.size ≤ q) s H locs (mwd m0 m1 m2 m3 m4 m5 m6 m7 m8 m9 m10 m11 m12 m13 m14 m15 m16 m17 m18 m19 m20 m21 kc1 kc2 kc3 kc4 kc5 kc6 kc7 kc8 kc9 kc10 kc11 kc12 kc13 kc14 kc15 kc16 kc17 kc18 kc19 kc20 kc21 qcode qn qcold qtime qV qM qvol qh qamb qab qbe qrf qrt qrh qrs qrl qru qon qdr qdc qdn qdh qgi qlo qom) o1 ko of h0 ta kt xn xcold xtime xf ts) (kont : ∀ (qcode' : Int32) (qn' : Int32) (qcold' : Int32) (qtime' : Int32) (qV' : Nat → Int32) (qM' : Nat → Int32) (qvol' : Nat → Int64) (qh' : Nat → Int64) (qamb' : Nat → Int32) (qab' : Nat → Int32) (qbe' : Nat → Int32) (qrf' : Nat → Int32) (qrt' : Nat → Int32) (qrh' : Nat → Int32) (qrs' : Nat → Int32) (qrl' : Nat → Int32) (qru' : Nat → Int32) (qon' : Nat → Int32) (qdr' : Nat → Int32) (qdc' : Nat → Int32) (qdn' : Nat → Int64) (qdh' : Nat → Int64) (qgi' : Nat → Int64) (qlo' : Nat → Int64) (qom' : Nat → Int32) (of' : Nat → Int64) (xn' xcold' xtime' : Int32) (xf' : Nat → Option Nat) (ts' : List (ADt × TKt)) (n' T' : Nat) (Pf' : Nat → Nat) (H1 : Heap) (locs1 : List Loc) (ls1 : Array Slot), lv_has ls1 8 [(0, .ref b), (1, .ref h0), (2, .ref m0), (3, .ref o1), (4, .int (i3 i))] → INV (c0 + 1) n' T' Pf' xn' xcold' xtime' xf' ts' qn' qcold' qtime' qV' qM' qvol' qh' qamb' qab' qbe' qrf' qrt' qrh' qrs' qrl' qru' qon' qdr' qdc' qdn' qdh' qgi' qlo' qom' → LWd dC dI (fun q : Nat => s.heap.size ≤ q) s H1 locs1 (mwd m0 m1 m2 m3 m4 m5 m6 m7 m8 m9 m10 m11 m12 m13 m14 m15 m16 m17 m18 m19 m20 m21 kc1 kc2 kc3 kc4 kc5 kc6 kc7 kc8 kc9 kc10 kc11 kc12 kc13 kc14 kc15 kc16 kc17 kc18 kc19 kc20 kc21 qcode' qn' qcold' qtime' qV' qM' qvol' qh' qamb' qab' qbe' qrf' qrt' qrh' qrs' qrl' qru' qon' qdr' qdc' qdn' qdh' qgi' qlo' qom') o1 ko of' h0 ta kt xn' xcold' xtime' xf' ts' → W p l e room_1 s m #[Value.ref b] below meth c H1 locs1 (cells + 10) (slots + 200) Q (F0 m 1155 ls1 [])) : W p l e room_1 s m #[Value.ref b] below meth c H locs cells slots Q (F0 m 682 ls []) := by
  obtain ⟨hx, hb, hr0, hml, hown, hts, hX0, hbl, hlocks, hgv⟩ := id C0
  have hA : ∀ q : Nat, s.heap.size ≤ q → (fun q : Nat => s.heap.size ≤ q) q := fun _ h => h
  have hbA : ¬ (fun q : Nat => s.heap.size ≤ q) b := Nat.not_le.mpr hbl
  obtain ⟨hP, hD, hK, hS⟩ := hW
  have hin1 : vp_in (i3 i + 1) L := vpin (k := 1) (by omega) hL
  have hin2 : vp_in (i3 i + 2) L := vpin (k := 2) (by omega) hL
  have hin3 : vp_in (i3 i + 3) L := vpin (k := 3) (by omega) hL
  have hin4 : vp_in (i3 i + 4) L := vpin (k := 4) (by omega) hL
  have hin5 : vp_in (i3 i + 5) L := vpin (k := 5) (by omega) hL
  have hin6 : vp_in (i3 i + 6) L := vpin (k := 6) (by omega) hL
  have hin7 : vp_in (i3 i + 7) L := vpin (k := 7) (by omega) hL
  refine lv_aload_n hx hb d_law_682 rfl (lv_at hl 1 rfl) ?_
  refine lv_aload_n hx hb d_law_683 rfl (lv_at hl 0 rfl) ?_
  refine lv_iload hx hb d_law_684 (lv_at hl 4 rfl) ?_
  refine lv_iconst (v := 1) hx hb d_law_686 (by decide) ?_
  refine lv_iadd hx hb d_law_687 ?_
  refine va_sld hx hb hX0 hbl hbA hS hin1 d_law_688 ?_
  refine lv_aload_n hx hb d_law_689 rfl (lv_at hl 0 rfl) ?_
  refine lv_iload hx hb d_law_690 (lv_at hl 4 rfl) ?_
  refine lv_iconst (v := 2) hx hb d_law_692 (by decide) ?_
  refine lv_iadd hx hb d_law_693 ?_
  refine va_sld hx hb hX0 hbl hbA hS hin2 d_law_694 ?_
  refine lv_aload_n hx hb d_law_695 rfl (lv_at hl 0 rfl) ?_
  refine lv_iload hx hb d_law_696 (lv_at hl 4 rfl) ?_
  refine lv_iconst (v := 3) hx hb d_law_698 (by decide) ?_
  refine lv_iadd hx hb d_law_699 ?_
  refine va_sld hx hb hX0 hbl hbA hS hin3 d_law_700 ?_
  refine lv_aload_n hx hb d_law_701 rfl (lv_at hl 3 rfl) ?_
  refine M_draws (qcode := qcode) C0 hX hN hl.1 hcc hss hc ⟨hP, hD, hK, hS⟩ hI (fun r of xn xcold xtime xf ts n T Pf res H locs hres hr ha hI hW => ?_)
  obtain ⟨hP, hD, hK, hS⟩ := hW
  refine lv_istore (lv' := [(5, .int r), (0, .ref b), (1, .ref h0), (2, .ref m0), (3, .ref o1), (4, .int (i3 i))]) hx hb d_law_705 hl (by decide) rfl (fun ls hl => ?_)
  refine lv_aload_n hx hb d_law_707 rfl (lv_at hl 3 rfl) ?_
  refine lv_aload_n hx hb d_law_708 rfl (lv_at hl 1 rfl) ?_
  refine lv_iload hx hb d_law_709 (lv_at hl 5 rfl) ?_
  refine lv_iconst (v := 1) hx hb d_law_711 (by decide) ?_
  refine lv_iadd hx hb d_law_712 ?_
  refine va_sld hx hb hX0 hbl hbA hS hin1 d_law_713 ?_
  refine lv_aload_n hx hb d_law_714 rfl (lv_at hl 1 rfl) ?_
  refine lv_iload hx hb d_law_715 (lv_at hl 5 rfl) ?_
  refine lv_iconst (v := 2) hx hb d_law_717 (by decide) ?_
  refine lv_iadd hx hb d_law_718 ?_
  refine va_sld hx hb hX0 hbl hbA hS hin2 d_law_719 ?_
  refine lv_aload_n hx hb d_law_720 rfl (lv_at hl 1 rfl) ?_
  refine lv_iload hx hb d_law_721 (lv_at hl 5 rfl) ?_
  refine lv_iconst (v := 3) hx hb d_law_723 (by decide) ?_
  refine lv_iadd hx hb d_law_724 ?_
  refine va_sld hx hb hX0 hbl hbA hS hin3 d_law_725 ?_
  have hPm := gx_Pp List.perm_append_comm hP
  have hDm := gx_Dp List.perm_append_comm hD
  have hFc := gx_freeW hDm hS hA
  have hPc := gx_Pr hPm
  have hDc := gx_Dr hDm
  refine va_calli (va_runV (As := [.int (xs ((i3 i) + 1).toNatClampNeg), .int (xs ((i3 i) + 2).toNatClampNeg), .int (xs ((i3 i) + 3).toNatClampNeg)]) (rest := []) ⟨hx, hb, hml, hown, hts⟩ (c_Mod_draws N l dC dI m0 m1 m2 m3 m4 m5 m6 m7 m8 m9 m10 m11 m12 m13 m14 m15 m16 m17 m18 m19 m20 m21 kc1 kc2 kc3 kc4 kc5 kc6 kc7 kc8 kc9 kc10 kc11 kc12 kc13 kc14 kc15 kc16 kc17 kc18 kc19 kc20 kc21 H.size qcode qn qcold qtime qV qM qvol qh qamb qab qbe qrf qrt qrh qrs qrl qru qon qdr qdc qdn qdh qgi qlo qom ((xs ((i3 i) + 1).toNatClampNeg)) ((xs ((i3 i) + 2).toNatClampNeg)) ((xs ((i3 i) + 3).toNatClampNeg)) res hres) (cwV 3 hts (gx_gVL mw_696 mw_693 mw_694 mw_695 mw_25) rfl rfl rfl (by decide +kernel) ⟨Nat.le_of_ble_eq_true rfl, Nat.le_of_ble_eq_true rfl⟩) ⟨fun a U g mk q => by obtain ⟨q0, q1, qP, qK, qD, qE⟩ := q; exact ⟨q0, q1, qP, va_K.moved (u := U) (U := U.calling g mk a) (Vm.Alike.refl U.vm) qK, qD, qE.calls⟩, va_recv hKm hPc (ci := 6) (q0 := 0) rfl rfl, fun U hU hW => ⟨rfl, by rw [hU], by rw [hU]; exact hPc, va_K.moved hW.alike hKm, hDc.weaken (fun _ _ _ _ => trivial), hX.2.1.warm hW⟩⟩ rfl rfl hl.1 rfl (lv_room (Nat.le_of_ble_eq_true rfl)) d_law_726 ⟨by rw [rc1]; omega, by rw [rs1]; omega⟩) hS (fun q _ h => hFc q h) hFc (fun r9 _ t H locs ht hvm hw hB hz1 hk1 hS => ?_)
  obtain ⟨hP1, hK1, hD1⟩ := hB
  rw [ht] at hP1
  rw [hw]
  obtain ⟨hP, hD⟩ := gx_keepW hPm hDm hk1 hFc hP1 hD1
  replace hP := gx_Pp List.perm_append_comm hP
  replace hD := gx_Dp List.perm_append_comm hD
  refine lv_istore (lv' := [(6, .int res.1), (5, .int r), (0, .ref b), (1, .ref h0), (2, .ref m0), (3, .ref o1), (4, .int (i3 i))]) hx hb d_law_729 hl (by decide) rfl (fun ls hl => ?_)
  refine lv_aload_n hx hb d_law_731 rfl (lv_at hl 4 rfl) ?_
  have hPm := gx_Pp List.perm_append_comm hP
  have hDm := gx_Dp List.perm_append_comm hD
  have hFc := gx_freeW hDm hS hA
  have hPc := gx_Pr hPm
  have hDc := gx_Dr hDm
  refine va_calli (va_runV (As := []) (rest := []) ⟨hx, hb, hml, hown, hts⟩ (c_Mod_thrown N l dC dI m0 m1 m2 m3 m4 m5 m6 m7 m8 m9 m10 m11 m12 m13 m14 m15 m16 m17 m18 m19 m20 m21 kc1 kc2 kc3 kc4 kc5 kc6 kc7 kc8 kc9 kc10 kc11 kc12 kc13 kc14 kc15 kc16 kc17 kc18 kc19 kc20 kc21 H.size res.2.1 qn qcold qtime qV qM qvol qh qamb qab qbe qrf qrt qrh qrs qrl qru qon res.2.2.1 res.2.2.2 qdn qdh qgi qlo qom _ rfl) (cwV 0 hts (gx_gVL mw_609 mw_606 mw_607 mw_608 mw_25) rfl rfl rfl (by decide +kernel) ⟨Nat.le_of_ble_eq_true rfl, Nat.le_of_ble_eq_true rfl⟩) ⟨fun a U g mk q => by obtain ⟨q0, q1, qP, qK, qD, qE⟩ := q; exact ⟨q0, q1, qP, va_K.moved (u := U) (U := U.calling g mk a) (Vm.Alike.refl U.vm) qK, qD, qE.calls⟩, va_recv hKm hPc (ci := 6) (q0 := 0) rfl rfl, fun U hU hW => ⟨rfl, by rw [hU], by rw [hU]; exact hPc, va_K.moved hW.alike hKm, hDc.weaken (fun _ _ _ _ => trivial), hX.2.1.warm hW⟩⟩ rfl rfl hl.1 rfl (lv_room (Nat.le_of_ble_eq_true rfl)) d_law_732 ⟨by rw [rc1]; omega, by rw [rs1]; omega⟩) hS (fun q _ h => hFc q h) hFc (fun r9 _ t H locs ht hvm hw hB hz1 hk1 hS => ?_)
  obtain ⟨hP1, hK1, hD1⟩ := hB
  rw [ht] at hP1
  rw [hw]
  obtain ⟨hP, hD⟩ := gx_keepW hPm hDm hk1 hFc hP1 hD1
  replace hP := gx_Pp List.perm_append_comm hP
  replace hD := gx_Dp List.perm_append_comm hD
  refine lv_iload hx hb d_law_735 (lv_at hl 1 rfl) ?_
  refine lv_icmp_eq (tgt := 742) hx hb d_law_737 (by decide) (fun _ => ?_) (fun c9 => absurd hr.symm c9)
  refine lv_iload hx hb d_law_742 (lv_at hl 1 rfl) ?_
  refine lv_if_ne (tgt := 759) hx hb d_law_744 (by decide) (fun _ => ?_) (fun c8 => ?_)
  · skip
    refine lv_goto (tgt := 1155) hx hb d_law_759 (by decide) ?_
    exact kont res.2.1 qn qcold qtime qV qM qvol qh qamb qab qbe qrf qrt qrh qrs qrl qru qon res.2.2.1 res.2.2.2 qdn qdh qgi qlo qom of xn xcold xtime xf ts n T Pf H locs ls (lv_sub hl [2, 3, 4, 5, 6] rfl) hI ⟨hP, hD, hK, hS⟩
  · skip
    refine lv_aload_n hx hb d_law_747 rfl (lv_at hl 5 rfl) ?_
    refine lv_iconst (v := 0) hx hb d_law_748 (by decide) ?_
    refine va_lald hx hb hK hP 22 0 rfl rfl vp01 d_law_749 ?_
    refine lv_iload hx hb d_law_750 (lv_at hl 0 rfl) ?_
    refine lv_i2l (v := res.1.toInt64) hx hb d_law_752 rfl ?_
    refine W.lcmp hx hb d_law_753 ?_
    refine lv_if_eq (tgt := 759) hx hb d_law_754 (by decide) (fun _ => ?_) (fun c7 => absurd (by rw [lc_eq]; exact ha c8) c7)
    refine lv_goto (tgt := 1155) hx hb d_law_759 (by decide) ?_
    exact kont res.2.1 qn qcold qtime qV qM qvol qh qamb qab qbe qrf qrt qrh qrs qrl qru qon res.2.2.1 res.2.2.2 qdn qdh qgi qlo qom of xn xcold xtime xf ts n T Pf H locs ls (lv_sub hl [2, 3, 4, 5, 6] rfl) hI ⟨hP, hD, hK, hS⟩
end LS
