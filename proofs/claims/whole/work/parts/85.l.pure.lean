theorem mw_716 : (Cond.code y_Mod_layer b_Mod_layer 4 (some .long)) ∈ gx_W := List.mem_filter.mpr ⟨List.mem_of_getElem? (i := 716) (by decide +kernel), by decide +kernel⟩
theorem mw_713 : (Cond.methodLink R_law 112 y_Mod_layer) ∈ gx_W := List.mem_filter.mpr ⟨List.mem_of_getElem? (i := 713) (by decide +kernel), by decide +kernel⟩
theorem mw_714 : (Cond.instanceMethod y_Mod_layer) ∈ gx_W := List.mem_filter.mpr ⟨List.mem_of_getElem? (i := 714) (by decide +kernel), by decide +kernel⟩
theorem mw_715 : (Cond.selects R_Mod y_Mod_layer y_Mod_layer) ∈ gx_W := List.mem_filter.mpr ⟨List.mem_of_getElem? (i := 715) (by decide +kernel), by decide +kernel⟩
theorem d_law_874 : decode code 874 = .ok (.aload_n 1, 1) := by decide +kernel
theorem d_law_875 : decode code 875 = .ok (.aload_n 0, 1) := by decide +kernel
theorem d_law_876 : decode code 876 = .ok (.iload 4, 2) := by decide +kernel
theorem d_law_878 : decode code 878 = .ok (.iconst 1, 1) := by decide +kernel
theorem d_law_879 : decode code 879 = .ok (.iadd, 1) := by decide +kernel
theorem d_law_880 : decode code 880 = .ok (.iaload, 1) := by decide +kernel
theorem d_law_881 : decode code 881 = .ok (.aload_n 0, 1) := by decide +kernel
theorem d_law_882 : decode code 882 = .ok (.iload 4, 2) := by decide +kernel
theorem d_law_884 : decode code 884 = .ok (.iconst 2, 1) := by decide +kernel
theorem d_law_885 : decode code 885 = .ok (.iadd, 1) := by decide +kernel
theorem d_law_886 : decode code 886 = .ok (.iaload, 1) := by decide +kernel
theorem d_law_887 : decode code 887 = .ok (.aload_n 0, 1) := by decide +kernel
theorem d_law_888 : decode code 888 = .ok (.iload 4, 2) := by decide +kernel
theorem d_law_890 : decode code 890 = .ok (.iconst 3, 1) := by decide +kernel
theorem d_law_891 : decode code 891 = .ok (.iadd, 1) := by decide +kernel
theorem d_law_892 : decode code 892 = .ok (.iaload, 1) := by decide +kernel
theorem d_law_893 : decode code 893 = .ok (.aload_n 3, 1) := by decide +kernel
theorem d_law_897 : decode code 897 = .ok (.istore 5, 2) := by decide +kernel
theorem d_law_899 : decode code 899 = .ok (.aload_n 2, 1) := by decide +kernel
theorem d_law_900 : decode code 900 = .ok (.aload_n 0, 1) := by decide +kernel
theorem d_law_901 : decode code 901 = .ok (.iload 4, 2) := by decide +kernel
theorem d_law_903 : decode code 903 = .ok (.iconst 1, 1) := by decide +kernel
theorem d_law_904 : decode code 904 = .ok (.iadd, 1) := by decide +kernel
theorem d_law_905 : decode code 905 = .ok (.iaload, 1) := by decide +kernel
theorem d_law_906 : decode code 906 = .ok (.aload_n 0, 1) := by decide +kernel
theorem d_law_907 : decode code 907 = .ok (.iload 4, 2) := by decide +kernel
theorem d_law_909 : decode code 909 = .ok (.iconst 2, 1) := by decide +kernel
theorem d_law_910 : decode code 910 = .ok (.iadd, 1) := by decide +kernel
theorem d_law_911 : decode code 911 = .ok (.iaload, 1) := by decide +kernel
theorem d_law_912 : decode code 912 = .ok (.aload_n 0, 1) := by decide +kernel
theorem d_law_913 : decode code 913 = .ok (.iload 4, 2) := by decide +kernel
theorem d_law_915 : decode code 915 = .ok (.iconst 3, 1) := by decide +kernel
theorem d_law_916 : decode code 916 = .ok (.iadd, 1) := by decide +kernel
theorem d_law_917 : decode code 917 = .ok (.iaload, 1) := by decide +kernel
theorem d_law_918 : decode code 918 = .ok (.invokevirtual 112, 3) := by decide +kernel
theorem d_law_921 : decode code 921 = .ok (.lstore 6, 2) := by decide +kernel
theorem d_law_923 : decode code 923 = .ok (.aload_n 2, 1) := by decide +kernel
theorem d_law_924 : decode code 924 = .ok (.invokevirtual 74, 3) := by decide +kernel
theorem d_law_927 : decode code 927 = .ok (.iload 5, 2) := by decide +kernel
theorem d_law_929 : decode code 929 = .ok (.if_icmp .eq 5, 3) := by decide +kernel
theorem d_law_934 : decode code 934 = .ok (.iload 5, 2) := by decide +kernel
theorem d_law_936 : decode code 936 = .ok (.ifCond .ne 14, 3) := by decide +kernel
theorem d_law_950 : decode code 950 = .ok (.goto 205, 3) := by decide +kernel
theorem d_law_939 : decode code 939 = .ok (.aload_n 3, 1) := by decide +kernel
theorem d_law_940 : decode code 940 = .ok (.iconst 0, 1) := by decide +kernel
theorem d_law_941 : decode code 941 = .ok (.laload, 1) := by decide +kernel
theorem d_law_942 : decode code 942 = .ok (.lload 6, 2) := by decide +kernel
theorem d_law_944 : decode code 944 = .ok (.lcmp, 1) := by decide +kernel
theorem d_law_945 : decode code 945 = .ok (.ifCond .eq 5, 3) := by decide +kernel
section LS
variable {p : Program} {l : Launch} {e : Env} {s : State} {m : MethodId} {below : List Frame} {meth : Method} {c : Code} {b L : Nat} {xs : Nat → Int32} {dC : Nat → ClassId} {dI : Nat → Nat → Nat} {Q : State → Prop} {H : Heap} {locs : List Loc} {cells slots : Nat} {ls : Array Slot} {o1 h0 ta m0 m1 m2 m3 m4 m5 m6 m7 m8 m9 m10 m11 m12 m13 m14 m15 m16 m17 m18 m19 m20 m21 : Nat} {ko kt kc1 kc2 kc3 kc4 kc5 kc6 kc7 kc8 kc9 kc10 kc11 kc12 kc13 kc14 kc15 kc16 kc17 kc18 kc19 kc20 kc21 : ClassId} {of : Nat → Int64} {ts : List (ADt × TKt)} {c0 n T N i : Nat} {Pf : Nat → Nat} {xn xcold xtime : Int32} {xf : Nat → Option Nat} {qcode qn qcold qtime : Int32} {qV qM : Nat → Int32} {qvol qh : Nat → Int64} {qamb qab qbe qrf qrt qrh qrs qrl qru qon qdr qdc : Nat → Int32} {qdn qdh qgi qlo : Nat → Int64} {qom : Nat → Int32}
set_option maxHeartbeats 4000000 in
set_option maxRecDepth 100000 in
theorem seg_layer (C0 : lw_At p s m meth c b L xs) (hX : LX l s (fun q : Nat => s.heap.size ≤ q)) (hN : 2000 ≤ N) (hcc : cells + 10 ≤ 601024) (hss : slots + 200 ≤ 7293034) (hc : c0 < 512) (hi : i + 8 ≤ L) (hL : L ≤ 4096) (hKm : va_K (dC, dI) classes [(kc1, .int), (kc2, .int), (kc3, .long), (kc4, .long), (kc5, .int), (kc6, .int), (kc7, .int), (kc8, .int), (kc9, .int), (kc10, .int), (kc11, .int), (kc12, .int), (kc13, .int), (kc14, .boolean), (kc15, .int), (kc16, .int), (kc17, .long), (kc18, .long), (kc19, .long), (kc20, .long), (kc21, .int)] s) (hl : lv_has ls 8 [(0, .ref b), (1, .ref h0), (2, .ref m0), (3, .ref o1), (4, .int (i3 i))]) (hI : INV c0 n T Pf xn xcold xtime xf ts qn qcold qtime qV qM qvol qh qamb qab qbe qrf qrt qrh qrs qrl qru qon qdr qdc qdn qdh qgi qlo qom) (hW : LWd dC dI (fun q : Nat => s.heap.size ≤ q) s H locs (mwd m0 m1 m2 m3 m4 m5 m6 m7 m8 m9 m10 m11 m12 m13 m14 m15 m16 m17 m18 m19 m20 m21 kc1 kc2 kc3 kc4 kc5 kc6 kc7 kc8 kc9 kc10 kc11 kc12 kc13 kc14 kc15 kc16 kc17 kc18 kc19 kc20 kc21 qcode qn qcold qtime qV qM qvol qh qamb qab qbe qrf qrt qrh qrs qrl qru qon qdr qdc qdn qdh qgi qlo qom) o1 ko of h0 ta kt xn xcold xtime xf ts) (kont : ∀ (qcode' : Int32) (qn' : Int32) (qcold' : Int32) (qtime' : Int32) (qV' : Nat → Int32) (qM' : Nat → Int32) (qvol' : Nat → Int64) (qh' : Nat → Int64) (qamb' : Nat → Int32) (qab' : Nat → Int32) (qbe' : Nat → Int32) (qrf' : Nat → Int32) (qrt' : Nat → Int32) (qrh' : Nat → Int32) (qrs' : Nat → Int32) (qrl' : Nat → Int32) (qru' : Nat → Int32) (qon' : Nat → Int32) (qdr' : Nat → Int32) (qdc' : Nat → Int32) (qdn' : Nat → Int64) (qdh' : Nat → Int64) (qgi' : Nat → Int64) (qlo' : Nat → Int64) (qom' : Nat → Int32) (of' : Nat → Int64) (xn' xcold' xtime' : Int32) (xf' : Nat → Option Nat) (ts' : List (ADt × TKt)) (n' T' : Nat) (Pf' : Nat → Nat) (H1 : Heap) (locs1 : List Loc) (ls1 : Array Slot), lv_has ls1 8 [(0, .ref b), (1, .ref h0), (2, .ref m0), (3, .ref o1), (4, .int (i3 i))] → INV (c0 + 1) n' T' Pf' xn' xcold' xtime' xf' ts' qn' qcold' qtime' qV' qM' qvol' qh' qamb' qab' qbe' qrf' qrt' qrh' qrs' qrl' qru' qon' qdr' qdc' qdn' qdh' qgi' qlo' qom' → LWd dC dI (fun q : Nat => s.heap.size ≤ q) s H1 locs1 (mwd m0 m1 m2 m3 m4 m5 m6 m7 m8 m9 m10 m11 m12 m13 m14 m15 m16 m17 m18 m19 m20 m21 kc1 kc2 kc3 kc4 kc5 kc6 kc7 kc8 kc9 kc10 kc11 kc12 kc13 kc14 kc15 kc16 kc17 kc18 kc19 kc20 kc21 qcode' qn' qcold' qtime' qV' qM' qvol' qh' qamb' qab' qbe' qrf' qrt' qrh' qrs' qrl' qru' qon' qdr' qdc' qdn' qdh' qgi' qlo' qom') o1 ko of' h0 ta kt xn' xcold' xtime' xf' ts' → W p l e room_1 s m #[Value.ref b] below meth c H1 locs1 (cells + 10) (slots + 200) Q (F0 m 1155 ls1 [])) : W p l e room_1 s m #[Value.ref b] below meth c H locs cells slots Q (F0 m 874 ls []) := by
  obtain ⟨hx, hb, hr0, hml, hown, hts, hX0, hbl, hlocks, hgv⟩ := id C0
  have hA : ∀ q : Nat, s.heap.size ≤ q → (fun q : Nat => s.heap.size ≤ q) q := fun _ h => h
  have hbA : ¬ (fun q : Nat => s.heap.size ≤ q) b := Nat.not_le.mpr hbl
  obtain ⟨hP, hD, hK, hS⟩ := hW
  have hin1 : vp_in (i3 i + 1) L := vpin (k := 1) (by omega) hL
  have hin2 : vp_in (i3 i + 2) L := vpin (k := 2) (by omega) hL
  have hin3 : vp_in (i3 i + 3) L := vpin (k := 3) (by omega) hL
  have hin4 : vp_in (i3 i + 4) L := vpin (k := 4) (by omega) hL
  have hin5 : vp_in (i3 i + 5) L := vpin (k := 5) (by omega) hL
  have hin6 : vp_in (i3 i + 6) L := vpin (k := 6) (by omega) hL
  have hin7 : vp_in (i3 i + 7) L := vpin (k := 7) (by omega) hL
  refine lv_aload_n hx hb d_law_874 rfl (lv_at hl 1 rfl) ?_
  refine lv_aload_n hx hb d_law_875 rfl (lv_at hl 0 rfl) ?_
  refine lv_iload hx hb d_law_876 (lv_at hl 4 rfl) ?_
  refine lv_iconst (v := 1) hx hb d_law_878 (by decide) ?_
  refine lv_iadd hx hb d_law_879 ?_
  refine va_sld hx hb hX0 hbl hbA hS hin1 d_law_880 ?_
  refine lv_aload_n hx hb d_law_881 rfl (lv_at hl 0 rfl) ?_
  refine lv_iload hx hb d_law_882 (lv_at hl 4 rfl) ?_
  refine lv_iconst (v := 2) hx hb d_law_884 (by decide) ?_
  refine lv_iadd hx hb d_law_885 ?_
  refine va_sld hx hb hX0 hbl hbA hS hin2 d_law_886 ?_
  refine lv_aload_n hx hb d_law_887 rfl (lv_at hl 0 rfl) ?_
  refine lv_iload hx hb d_law_888 (lv_at hl 4 rfl) ?_
  refine lv_iconst (v := 3) hx hb d_law_890 (by decide) ?_
  refine lv_iadd hx hb d_law_891 ?_
  refine va_sld hx hb hX0 hbl hbA hS hin3 d_law_892 ?_
  refine lv_aload_n hx hb d_law_893 rfl (lv_at hl 3 rfl) ?_
  refine M_layer (qcode := qcode) C0 hX hN hl.1 hcc hss hc ⟨hP, hD, hK, hS⟩ hI (fun r of xn xcold xtime xf ts n T Pf res H locs hres hr ha hI hW => ?_)
  obtain ⟨hP, hD, hK, hS⟩ := hW
  refine lv_istore (lv' := [(5, .int r), (0, .ref b), (1, .ref h0), (2, .ref m0), (3, .ref o1), (4, .int (i3 i))]) hx hb d_law_897 hl (by decide) rfl (fun ls hl => ?_)
  refine lv_aload_n hx hb d_law_899 rfl (lv_at hl 3 rfl) ?_
  refine lv_aload_n hx hb d_law_900 rfl (lv_at hl 1 rfl) ?_
  refine lv_iload hx hb d_law_901 (lv_at hl 5 rfl) ?_
  refine lv_iconst (v := 1) hx hb d_law_903 (by decide) ?_
  refine lv_iadd hx hb d_law_904 ?_
  refine va_sld hx hb hX0 hbl hbA hS hin1 d_law_905 ?_
  refine lv_aload_n hx hb d_law_906 rfl (lv_at hl 1 rfl) ?_
  refine lv_iload hx hb d_law_907 (lv_at hl 5 rfl) ?_
  refine lv_iconst (v := 2) hx hb d_law_909 (by decide) ?_
  refine lv_iadd hx hb d_law_910 ?_
  refine va_sld hx hb hX0 hbl hbA hS hin2 d_law_911 ?_
  refine lv_aload_n hx hb d_law_912 rfl (lv_at hl 1 rfl) ?_
  refine lv_iload hx hb d_law_913 (lv_at hl 5 rfl) ?_
  refine lv_iconst (v := 3) hx hb d_law_915 (by decide) ?_
  refine lv_iadd hx hb d_law_916 ?_
  refine va_sld hx hb hX0 hbl hbA hS hin3 d_law_917 ?_
  have hPm := gx_Pp List.perm_append_comm hP
  have hDm := gx_Dp List.perm_append_comm hD
  have hFc := gx_freeW hDm hS hA
  have hPc := gx_Pr hPm
  have hDc := gx_Dr hDm
  refine va_calll (va_runV (As := [.int (xs ((i3 i) + 1).toNatClampNeg), .int (xs ((i3 i) + 2).toNatClampNeg), .int (xs ((i3 i) + 3).toNatClampNeg)]) (rest := []) ⟨hx, hb, hml, hown, hts⟩ (c_Mod_layer N l dC dI m0 m1 m2 m3 m4 m5 m6 m7 m8 m9 m10 m11 m12 m13 m14 m15 m16 m17 m18 m19 m20 m21 kc1 kc2 kc3 kc4 kc5 kc6 kc7 kc8 kc9 kc10 kc11 kc12 kc13 kc14 kc15 kc16 kc17 kc18 kc19 kc20 kc21 H.size qcode qn qcold qtime qV qM qvol qh qamb qab qbe qrf qrt qrh qrs qrl qru qon qdr qdc qdn qdh qgi qlo qom ((xs ((i3 i) + 1).toNatClampNeg)) ((xs ((i3 i) + 2).toNatClampNeg)) ((xs ((i3 i) + 3).toNatClampNeg)) res hres) (cwV 3 hts (gx_gVL mw_716 mw_713 mw_714 mw_715 mw_25) rfl rfl rfl (by decide +kernel) ⟨Nat.le_of_ble_eq_true rfl, Nat.le_of_ble_eq_true rfl⟩) ⟨fun a U g mk q => by obtain ⟨q0, q1, qP, qK, qD, qE⟩ := q; exact ⟨q0, q1, qP, va_K.moved (u := U) (U := U.calling g mk a) (Vm.Alike.refl U.vm) qK, qD, qE.calls⟩, va_recv hKm hPc (ci := 6) (q0 := 0) rfl rfl, fun U hU hW => ⟨rfl, by rw [hU], by rw [hU]; exact hPc, va_K.moved hW.alike hKm, hDc.weaken (fun _ _ _ _ => trivial), hX.2.1.warm hW⟩⟩ rfl rfl hl.1 rfl (lv_room (Nat.le_of_ble_eq_true rfl)) d_law_918 ⟨by rw [rc1]; omega, by rw [rs1]; omega⟩) hS (fun q _ h => hFc q h) hFc (fun r9 _ t H locs ht hvm hw hB hz1 hk1 hS => ?_)
  obtain ⟨hP1, hK1, hD1⟩ := hB
  rw [ht] at hP1
  rw [hw]
  obtain ⟨hP, hD⟩ := gx_keepW hPm hDm hk1 hFc hP1 hD1
  replace hP := gx_Pp List.perm_append_comm hP
  replace hD := gx_Dp List.perm_append_comm hD
  refine lv_lstore (lv' := [(6, .long res.1), (5, .int r), (0, .ref b), (1, .ref h0), (2, .ref m0), (3, .ref o1), (4, .int (i3 i))]) hx hb d_law_921 hl (by decide) rfl (fun ls hl => ?_)
  refine lv_aload_n hx hb d_law_923 rfl (lv_at hl 4 rfl) ?_
  have hPm := gx_Pp List.perm_append_comm hP
  have hDm := gx_Dp List.perm_append_comm hD
  have hFc := gx_freeW hDm hS hA
  have hPc := gx_Pr hPm
  have hDc := gx_Dr hDm
  refine va_calli (va_runV (As := []) (rest := []) ⟨hx, hb, hml, hown, hts⟩ (c_Mod_thrown N l dC dI m0 m1 m2 m3 m4 m5 m6 m7 m8 m9 m10 m11 m12 m13 m14 m15 m16 m17 m18 m19 m20 m21 kc1 kc2 kc3 kc4 kc5 kc6 kc7 kc8 kc9 kc10 kc11 kc12 kc13 kc14 kc15 kc16 kc17 kc18 kc19 kc20 kc21 H.size res.2 qn qcold qtime qV qM qvol qh qamb qab qbe qrf qrt qrh qrs qrl qru qon qdr qdc qdn qdh qgi qlo qom _ rfl) (cwV 0 hts (gx_gVL mw_609 mw_606 mw_607 mw_608 mw_25) rfl rfl rfl (by decide +kernel) ⟨Nat.le_of_ble_eq_true rfl, Nat.le_of_ble_eq_true rfl⟩) ⟨fun a U g mk q => by obtain ⟨q0, q1, qP, qK, qD, qE⟩ := q; exact ⟨q0, q1, qP, va_K.moved (u := U) (U := U.calling g mk a) (Vm.Alike.refl U.vm) qK, qD, qE.calls⟩, va_recv hKm hPc (ci := 6) (q0 := 0) rfl rfl, fun U hU hW => ⟨rfl, by rw [hU], by rw [hU]; exact hPc, va_K.moved hW.alike hKm, hDc.weaken (fun _ _ _ _ => trivial), hX.2.1.warm hW⟩⟩ rfl rfl hl.1 rfl (lv_room (Nat.le_of_ble_eq_true rfl)) d_law_924 ⟨by rw [rc1]; omega, by rw [rs1]; omega⟩) hS (fun q _ h => hFc q h) hFc (fun r9 _ t H locs ht hvm hw hB hz1 hk1 hS => ?_)
  obtain ⟨hP1, hK1, hD1⟩ := hB
  rw [ht] at hP1
  rw [hw]
  obtain ⟨hP, hD⟩ := gx_keepW hPm hDm hk1 hFc hP1 hD1
  replace hP := gx_Pp List.perm_append_comm hP
  replace hD := gx_Dp List.perm_append_comm hD
  refine lv_iload hx hb d_law_927 (lv_at hl 1 rfl) ?_
  refine lv_icmp_eq (tgt := 934) hx hb d_law_929 (by decide) (fun _ => ?_) (fun c9 => absurd hr.symm c9)
  refine lv_iload hx hb d_law_934 (lv_at hl 1 rfl) ?_
  refine lv_if_ne (tgt := 950) hx hb d_law_936 (by decide) (fun _ => ?_) (fun c8 => ?_)
  · skip
    refine lv_goto (tgt := 1155) hx hb d_law_950 (by decide) ?_
    exact kont res.2 qn qcold qtime qV qM qvol qh qamb qab qbe qrf qrt qrh qrs qrl qru qon qdr qdc qdn qdh qgi qlo qom of xn xcold xtime xf ts n T Pf H locs ls (lv_sub hl [2, 3, 4, 5, 6] rfl) hI ⟨hP, hD, hK, hS⟩
  · skip
    refine lv_aload_n hx hb d_law_939 rfl (lv_at hl 5 rfl) ?_
    refine lv_iconst (v := 0) hx hb d_law_940 (by decide) ?_
    refine va_lald hx hb hK hP 22 0 rfl rfl vp01 d_law_941 ?_
    refine lv_lload hx hb d_law_942 (lv_at hl 0 rfl) ?_
    refine W.lcmp hx hb d_law_944 ?_
    refine lv_if_eq (tgt := 950) hx hb d_law_945 (by decide) (fun _ => ?_) (fun c7 => absurd (by rw [lc_eq]; exact ha c8) c7)
    refine lv_goto (tgt := 1155) hx hb d_law_950 (by decide) ?_
    exact kont res.2 qn qcold qtime qV qM qvol qh qamb qab qbe qrf qrt qrh qrs qrl qru qon qdr qdc qdn qdh qgi qlo qom of xn xcold xtime xf ts n T Pf H locs ls (lv_sub hl [2, 3, 4, 5, 6] rfl) hI ⟨hP, hD, hK, hS⟩
end LS
