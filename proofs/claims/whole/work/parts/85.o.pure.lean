theorem mw_728 : (Cond.code y_Mod_told b_Mod_told 6 (some .long)) ∈ gx_W := List.mem_filter.mpr ⟨List.mem_of_getElem? (i := 728) (by decide +kernel), by decide +kernel⟩
theorem mw_725 : (Cond.methodLink R_law 121 y_Mod_told) ∈ gx_W := List.mem_filter.mpr ⟨List.mem_of_getElem? (i := 725) (by decide +kernel), by decide +kernel⟩
theorem mw_726 : (Cond.instanceMethod y_Mod_told) ∈ gx_W := List.mem_filter.mpr ⟨List.mem_of_getElem? (i := 726) (by decide +kernel), by decide +kernel⟩
theorem mw_727 : (Cond.selects R_Mod y_Mod_told y_Mod_told) ∈ gx_W := List.mem_filter.mpr ⟨List.mem_of_getElem? (i := 727) (by decide +kernel), by decide +kernel⟩
theorem d_law_1088 : decode code 1088 = .ok (.aload_n 1, 1) := by decide +kernel
theorem d_law_1089 : decode code 1089 = .ok (.aload_n 0, 1) := by decide +kernel
theorem d_law_1090 : decode code 1090 = .ok (.iload 4, 2) := by decide +kernel
theorem d_law_1092 : decode code 1092 = .ok (.iconst 1, 1) := by decide +kernel
theorem d_law_1093 : decode code 1093 = .ok (.iadd, 1) := by decide +kernel
theorem d_law_1094 : decode code 1094 = .ok (.iaload, 1) := by decide +kernel
theorem d_law_1095 : decode code 1095 = .ok (.aload_n 0, 1) := by decide +kernel
theorem d_law_1096 : decode code 1096 = .ok (.iload 4, 2) := by decide +kernel
theorem d_law_1098 : decode code 1098 = .ok (.iconst 2, 1) := by decide +kernel
theorem d_law_1099 : decode code 1099 = .ok (.iadd, 1) := by decide +kernel
theorem d_law_1100 : decode code 1100 = .ok (.iaload, 1) := by decide +kernel
theorem d_law_1101 : decode code 1101 = .ok (.aload_n 3, 1) := by decide +kernel
theorem d_law_1105 : decode code 1105 = .ok (.istore 5, 2) := by decide +kernel
theorem d_law_1107 : decode code 1107 = .ok (.aload_n 2, 1) := by decide +kernel
theorem d_law_1108 : decode code 1108 = .ok (.aload_n 0, 1) := by decide +kernel
theorem d_law_1109 : decode code 1109 = .ok (.iload 4, 2) := by decide +kernel
theorem d_law_1111 : decode code 1111 = .ok (.iconst 1, 1) := by decide +kernel
theorem d_law_1112 : decode code 1112 = .ok (.iadd, 1) := by decide +kernel
theorem d_law_1113 : decode code 1113 = .ok (.iaload, 1) := by decide +kernel
theorem d_law_1114 : decode code 1114 = .ok (.aload_n 0, 1) := by decide +kernel
theorem d_law_1115 : decode code 1115 = .ok (.iload 4, 2) := by decide +kernel
theorem d_law_1117 : decode code 1117 = .ok (.iconst 2, 1) := by decide +kernel
theorem d_law_1118 : decode code 1118 = .ok (.iadd, 1) := by decide +kernel
theorem d_law_1119 : decode code 1119 = .ok (.iaload, 1) := by decide +kernel
theorem d_law_1120 : decode code 1120 = .ok (.invokevirtual 121, 3) := by decide +kernel
theorem d_law_1123 : decode code 1123 = .ok (.lstore 6, 2) := by decide +kernel
theorem d_law_1125 : decode code 1125 = .ok (.aload_n 2, 1) := by decide +kernel
theorem d_law_1126 : decode code 1126 = .ok (.invokevirtual 74, 3) := by decide +kernel
theorem d_law_1129 : decode code 1129 = .ok (.iload 5, 2) := by decide +kernel
theorem d_law_1131 : decode code 1131 = .ok (.if_icmp .eq 5, 3) := by decide +kernel
theorem d_law_1136 : decode code 1136 = .ok (.iload 5, 2) := by decide +kernel
theorem d_law_1138 : decode code 1138 = .ok (.ifCond .ne 14, 3) := by decide +kernel
theorem d_law_1152 : decode code 1152 = .ok (.goto 3, 3) := by decide +kernel
theorem d_law_1141 : decode code 1141 = .ok (.aload_n 3, 1) := by decide +kernel
theorem d_law_1142 : decode code 1142 = .ok (.iconst 0, 1) := by decide +kernel
theorem d_law_1143 : decode code 1143 = .ok (.laload, 1) := by decide +kernel
theorem d_law_1144 : decode code 1144 = .ok (.lload 6, 2) := by decide +kernel
theorem d_law_1146 : decode code 1146 = .ok (.lcmp, 1) := by decide +kernel
theorem d_law_1147 : decode code 1147 = .ok (.ifCond .eq 5, 3) := by decide +kernel
section LS
variable {p : Program} {l : Launch} {e : Env} {s : State} {m : MethodId} {below : List Frame} {meth : Method} {c : Code} {b L : Nat} {xs : Nat → Int32} {dC : Nat → ClassId} {dI : Nat → Nat → Nat} {Q : State → Prop} {H : Heap} {locs : List Loc} {cells slots : Nat} {ls : Array Slot} {o1 h0 ta m0 m1 m2 m3 m4 m5 m6 m7 m8 m9 m10 m11 m12 m13 m14 m15 m16 m17 m18 m19 m20 m21 : Nat} {ko kt kc1 kc2 kc3 kc4 kc5 kc6 kc7 kc8 kc9 kc10 kc11 kc12 kc13 kc14 kc15 kc16 kc17 kc18 kc19 kc20 kc21 : ClassId} {of : Nat → Int64} {ts : List (ADt × TKt)} {c0 n T N i : Nat} {Pf : Nat → Nat} {xn xcold xtime : Int32} {xf : Nat → Option Nat} {qcode qn qcold qtime : Int32} {qV qM : Nat → Int32} {qvol qh : Nat → Int64} {qamb qab qbe qrf qrt qrh qrs qrl qru qon qdr qdc : Nat → Int32} {qdn qdh qgi qlo : Nat → Int64} {qom : Nat → Int32}
set_option maxHeartbeats 4000000 in
set_option maxRecDepth 100000 in
theorem seg_told (C0 : lw_At p s m meth c b L xs) (hX : LX l s (fun q : Nat => s.heap.size ≤ q)) (hN : 2000 ≤ N) (hcc : cells + 10 ≤ 601024) (hss : slots + 200 ≤ 7293034) (hc : c0 < 512) (hi : i + 8 ≤ L) (hL : L ≤ 4096) (hKm : va_K (dC, dI) classes [(kc1, .int), (kc2, .int), (kc3, .long), (kc4, .long), (kc5, .int), (kc6, .int), (kc7, .int), (kc8, .int), (kc9, .int), (kc10, .int), (kc11, .int), (kc12, .int), (kc13, .int), (kc14, .boolean), (kc15, .int), (kc16, .int), (kc17, .long), (kc18, .long), (kc19, .long), (kc20, .long), (kc21, .int)] s) (hl : lv_has ls 8 [(0, .ref b), (1, .ref h0), (2, .ref m0), (3, .ref o1), (4, .int (i3 i))]) (hI : INV c0 n T Pf xn xcold xtime xf ts qn qcold qtime qV qM qvol qh qamb qab qbe qrf qrt qrh qrs qrl qru qon qdr qdc qdn qdh qgi qlo qom) (hW : LWd dC dI (fun q : Nat => s.heap.size ≤ q) s H locs (mwd m0 m1 m2 m3 m4 m5 m6 m7 m8 m9 m10 m11 m12 m13 m14 m15 m16 m17 m18 m19 m20 m21 kc1 kc2 kc3 kc4 kc5 kc6 kc7 kc8 kc9 kc10 kc11 kc12 kc13 kc14 kc15 kc16 kc17 kc18 kc19 kc20 kc21 qcode qn qcold qtime qV qM qvol qh qamb qab qbe qrf qrt qrh qrs qrl qru qon qdr qdc qdn qdh qgi qlo qom) o1 ko of h0 ta kt xn xcold xtime xf ts) (kont : ∀ (qcode' : Int32) (qn' : Int32) (qcold' : Int32) (qtime' : Int32) (qV' : Nat → Int32) (qM' : Nat → Int32) (qvol' : Nat → Int64) (qh' : Nat → Int64) (qamb' : Nat → Int32) (qab' : Nat → Int32) (qbe' : Nat → Int32) (qrf' : Nat → Int32) (qrt' : Nat → Int32) (qrh' : Nat → Int32) (qrs' : Nat → Int32) (qrl' : Nat → Int32) (qru' : Nat → Int32) (qon' : Nat → Int32) (qdr' : Nat → Int32) (qdc' : Nat → Int32) (qdn' : Nat → Int64) (qdh' : Nat → Int64) (qgi' : Nat → Int64) (qlo' : Nat → Int64) (qom' : Nat → Int32) (of' : Nat → Int64) (xn' xcold' xtime' : Int32) (xf' : Nat → Option Nat) (ts' : List (ADt × TKt)) (n' T' : Nat) (Pf' : Nat → Nat) (H1 : Heap) (locs1 : List Loc) (ls1 : Array Slot), lv_has ls1 8 [(0, .ref b), (1, .ref h0), (2, .ref m0), (3, .ref o1), (4, .int (i3 i))] → INV (c0 + 1) n' T' Pf' xn' xcold' xtime' xf' ts' qn' qcold' qtime' qV' qM' qvol' qh' qamb' qab' qbe' qrf' qrt' qrh' qrs' qrl' qru' qon' qdr' qdc' qdn' qdh' qgi' qlo' qom' → LWd dC dI (fun q : Nat => s.heap.size ≤ q) s H1 locs1 (mwd m0 m1 m2 m3 m4 m5 m6 m7 m8 m9 m10 m11 m12 m13 m14 m15 m16 m17 m18 m19 m20 m21 kc1 kc2 kc3 kc4 kc5 kc6 kc7 kc8 kc9 kc10 kc11 kc12 kc13 kc14 kc15 kc16 kc17 kc18 kc19 kc20 kc21 qcode' qn' qcold' qtime' qV' qM' qvol' qh' qamb' qab' qbe' qrf' qrt' qrh' qrs' qrl' qru' qon' qdr' qdc' qdn' qdh' qgi' qlo' qom') o1 ko of' h0 ta kt xn' xcold' xtime' xf' ts' → W p l e room_1 s m #[Value.ref b] below meth c H1 locs1 (cells + 10) (slots + 200) Q (F0 m 1155 ls1 [])) : W p l e room_1 s m #[Value.ref b] below meth c H locs cells slots Q (F0 m 1088 ls []) := by
  obtain ⟨hx, hb, hr0, hml, hown, hts, hX0, hbl, hlocks, hgv⟩ := id C0
  have hA : ∀ q : Nat, s.heap.size ≤ q → (fun q : Nat => s.heap.size ≤ q) q := fun _ h => h
  have hbA : ¬ (fun q : Nat => s.heap.size ≤ q) b := Nat.not_le.mpr hbl
  obtain ⟨hP, hD, hK, hS⟩ := hW
  have hin1 : vp_in (i3 i + 1) L := vpin (k := 1) (by omega) hL
  have hin2 : vp_in (i3 i + 2) L := vpin (k := 2) (by omega) hL
  have hin3 : vp_in (i3 i + 3) L := vpin (k := 3) (by omega) hL
  have hin4 : vp_in (i3 i + 4) L := vpin (k := 4) (by omega) hL
  have hin5 : vp_in (i3 i + 5) L := vpin (k := 5) (by omega) hL
  have hin6 : vp_in (i3 i + 6) L := vpin (k := 6) (by omega) hL
  have hin7 : vp_in (i3 i + 7) L := vpin (k := 7) (by omega) hL
  refine lv_aload_n hx hb d_law_1088 rfl (lv_at hl 1 rfl) ?_
  refine lv_aload_n hx hb d_law_1089 rfl (lv_at hl 0 rfl) ?_
  refine lv_iload hx hb d_law_1090 (lv_at hl 4 rfl) ?_
  refine lv_iconst (v := 1) hx hb d_law_1092 (by decide) ?_
  refine lv_iadd hx hb d_law_1093 ?_
  refine va_sld hx hb hX0 hbl hbA hS hin1 d_law_1094 ?_
  refine lv_aload_n hx hb d_law_1095 rfl (lv_at hl 0 rfl) ?_
  refine lv_iload hx hb d_law_1096 (lv_at hl 4 rfl) ?_
  refine lv_iconst (v := 2) hx hb d_law_1098 (by decide) ?_
  refine lv_iadd hx hb d_law_1099 ?_
  refine va_sld hx hb hX0 hbl hbA hS hin2 d_law_1100 ?_
  refine lv_aload_n hx hb d_law_1101 rfl (lv_at hl 3 rfl) ?_
  refine M_told (qcode := qcode) C0 hX hN hl.1 hcc hss hc ⟨hP, hD, hK, hS⟩ hI (fun r of xn xcold xtime xf ts n T Pf res H locs hres hr ha hI hW => ?_)
  obtain ⟨hP, hD, hK, hS⟩ := hW
  refine lv_istore (lv' := [(5, .int r), (0, .ref b), (1, .ref h0), (2, .ref m0), (3, .ref o1), (4, .int (i3 i))]) hx hb d_law_1105 hl (by decide) rfl (fun ls hl => ?_)
  refine lv_aload_n hx hb d_law_1107 rfl (lv_at hl 3 rfl) ?_
  refine lv_aload_n hx hb d_law_1108 rfl (lv_at hl 1 rfl) ?_
  refine lv_iload hx hb d_law_1109 (lv_at hl 5 rfl) ?_
  refine lv_iconst (v := 1) hx hb d_law_1111 (by decide) ?_
  refine lv_iadd hx hb d_law_1112 ?_
  refine va_sld hx hb hX0 hbl hbA hS hin1 d_law_1113 ?_
  refine lv_aload_n hx hb d_law_1114 rfl (lv_at hl 1 rfl) ?_
  refine lv_iload hx hb d_law_1115 (lv_at hl 5 rfl) ?_
  refine lv_iconst (v := 2) hx hb d_law_1117 (by decide) ?_
  refine lv_iadd hx hb d_law_1118 ?_
  refine va_sld hx hb hX0 hbl hbA hS hin2 d_law_1119 ?_
  have hPm := gx_Pp List.perm_append_comm hP
  have hDm := gx_Dp List.perm_append_comm hD
  have hFc := gx_freeW hDm hS hA
  have hPc := gx_Pr hPm
  have hDc := gx_Dr hDm
  refine va_calll (va_runV (As := [.int (xs ((i3 i) + 1).toNatClampNeg), .int (xs ((i3 i) + 2).toNatClampNeg)]) (rest := []) ⟨hx, hb, hml, hown, hts⟩ (c_Mod_told N l dC dI m0 m1 m2 m3 m4 m5 m6 m7 m8 m9 m10 m11 m12 m13 m14 m15 m16 m17 m18 m19 m20 m21 kc1 kc2 kc3 kc4 kc5 kc6 kc7 kc8 kc9 kc10 kc11 kc12 kc13 kc14 kc15 kc16 kc17 kc18 kc19 kc20 kc21 H.size qcode qn qcold qtime qV qM qvol qh qamb qab qbe qrf qrt qrh qrs qrl qru qon qdr qdc qdn qdh qgi qlo qom ((xs ((i3 i) + 1).toNatClampNeg)) ((xs ((i3 i) + 2).toNatClampNeg)) res hres) (cwV 2 hts (gx_gVL mw_728 mw_725 mw_726 mw_727 mw_25) rfl rfl rfl (by decide +kernel) ⟨Nat.le_of_ble_eq_true rfl, Nat.le_of_ble_eq_true rfl⟩) ⟨fun a U g mk q => by obtain ⟨q0, q1, qP, qK, qD, qE⟩ := q; exact ⟨q0, q1, qP, va_K.moved (u := U) (U := U.calling g mk a) (Vm.Alike.refl U.vm) qK, qD, qE.calls⟩, va_recv hKm hPc (ci := 6) (q0 := 0) rfl rfl, fun U hU hW => ⟨rfl, by rw [hU], by rw [hU]; exact hPc, va_K.moved hW.alike hKm, hDc.weaken (fun _ _ _ _ => trivial), hX.2.1.warm hW⟩⟩ rfl rfl hl.1 rfl (lv_room (Nat.le_of_ble_eq_true rfl)) d_law_1120 ⟨by rw [rc1]; omega, by rw [rs1]; omega⟩) hS (fun q _ h => hFc q h) hFc (fun r9 _ t H locs ht hvm hw hB hz1 hk1 hS => ?_)
  obtain ⟨hP1, hK1, hD1⟩ := hB
  rw [ht] at hP1
  rw [hw]
  obtain ⟨hP, hD⟩ := gx_keepW hPm hDm hk1 hFc hP1 hD1
  replace hP := gx_Pp List.perm_append_comm hP
  replace hD := gx_Dp List.perm_append_comm hD
  refine lv_lstore (lv' := [(6, .long res.1), (5, .int r), (0, .ref b), (1, .ref h0), (2, .ref m0), (3, .ref o1), (4, .int (i3 i))]) hx hb d_law_1123 hl (by decide) rfl (fun ls hl => ?_)
  refine lv_aload_n hx hb d_law_1125 rfl (lv_at hl 4 rfl) ?_
  have hPm := gx_Pp List.perm_append_comm hP
  have hDm := gx_Dp List.perm_append_comm hD
  have hFc := gx_freeW hDm hS hA
  have hPc := gx_Pr hPm
  have hDc := gx_Dr hDm
  refine va_calli (va_runV (As := []) (rest := []) ⟨hx, hb, hml, hown, hts⟩ (c_Mod_thrown N l dC dI m0 m1 m2 m3 m4 m5 m6 m7 m8 m9 m10 m11 m12 m13 m14 m15 m16 m17 m18 m19 m20 m21 kc1 kc2 kc3 kc4 kc5 kc6 kc7 kc8 kc9 kc10 kc11 kc12 kc13 kc14 kc15 kc16 kc17 kc18 kc19 kc20 kc21 H.size res.2 qn qcold qtime qV qM qvol qh qamb qab qbe qrf qrt qrh qrs qrl qru qon qdr qdc qdn qdh qgi qlo qom _ rfl) (cwV 0 hts (gx_gVL mw_609 mw_606 mw_607 mw_608 mw_25) rfl rfl rfl (by decide +kernel) ⟨Nat.le_of_ble_eq_true rfl, Nat.le_of_ble_eq_true rfl⟩) ⟨fun a U g mk q => by obtain ⟨q0, q1, qP, qK, qD, qE⟩ := q; exact ⟨q0, q1, qP, va_K.moved (u := U) (U := U.calling g mk a) (Vm.Alike.refl U.vm) qK, qD, qE.calls⟩, va_recv hKm hPc (ci := 6) (q0 := 0) rfl rfl, fun U hU hW => ⟨rfl, by rw [hU], by rw [hU]; exact hPc, va_K.moved hW.alike hKm, hDc.weaken (fun _ _ _ _ => trivial), hX.2.1.warm hW⟩⟩ rfl rfl hl.1 rfl (lv_room (Nat.le_of_ble_eq_true rfl)) d_law_1126 ⟨by rw [rc1]; omega, by rw [rs1]; omega⟩) hS (fun q _ h => hFc q h) hFc (fun r9 _ t H locs ht hvm hw hB hz1 hk1 hS => ?_)
  obtain ⟨hP1, hK1, hD1⟩ := hB
  rw [ht] at hP1
  rw [hw]
  obtain ⟨hP, hD⟩ := gx_keepW hPm hDm hk1 hFc hP1 hD1
  replace hP := gx_Pp List.perm_append_comm hP
  replace hD := gx_Dp List.perm_append_comm hD
  refine lv_iload hx hb d_law_1129 (lv_at hl 1 rfl) ?_
  refine lv_icmp_eq (tgt := 1136) hx hb d_law_1131 (by decide) (fun _ => ?_) (fun c9 => absurd hr.symm c9)
  refine lv_iload hx hb d_law_1136 (lv_at hl 1 rfl) ?_
  refine lv_if_ne (tgt := 1152) hx hb d_law_1138 (by decide) (fun _ => ?_) (fun c8 => ?_)
  · skip
    refine lv_goto (tgt := 1155) hx hb d_law_1152 (by decide) ?_
    exact kont res.2 qn qcold qtime qV qM qvol qh qamb qab qbe qrf qrt qrh qrs qrl qru qon qdr qdc qdn qdh qgi qlo qom of xn xcold xtime xf ts n T Pf H locs ls (lv_sub hl [2, 3, 4, 5, 6] rfl) hI ⟨hP, hD, hK, hS⟩
  · skip
    refine lv_aload_n hx hb d_law_1141 rfl (lv_at hl 5 rfl) ?_
    refine lv_iconst (v := 0) hx hb d_law_1142 (by decide) ?_
    refine va_lald hx hb hK hP 22 0 rfl rfl vp01 d_law_1143 ?_
    refine lv_lload hx hb d_law_1144 (lv_at hl 0 rfl) ?_
    refine W.lcmp hx hb d_law_1146 ?_
    refine lv_if_eq (tgt := 1152) hx hb d_law_1147 (by decide) (fun _ => ?_) (fun c7 => absurd (by rw [lc_eq]; exact ha c8) c7)
    refine lv_goto (tgt := 1155) hx hb d_law_1152 (by decide) ?_
    exact kont res.2 qn qcold qtime qV qM qvol qh qamb qab qbe qrf qrt qrh qrs qrl qru qon qdr qdc qdn qdh qgi qlo qom of xn xcold xtime xf ts n T Pf H locs ls (lv_sub hl [2, 3, 4, 5, 6] rfl) hI ⟨hP, hD, hK, hS⟩
end LS
