theorem mw_62 : (Cond.codeWith y_law_tank b_law_tank 5 (some .int) [(0, 10, 13, 13), (0, 10, 17, 15)]) ∈ gx_W := List.mem_filter.mpr ⟨List.mem_of_getElem? (i := 62) (by decide +kernel), by decide +kernel⟩
theorem mw_60 : (Cond.methodLink R_law 68 y_law_tank) ∈ gx_W := List.mem_filter.mpr ⟨List.mem_of_getElem? (i := 60) (by decide +kernel), by decide +kernel⟩
theorem mw_61 : (Cond.static y_law_tank) ∈ gx_W := List.mem_filter.mpr ⟨List.mem_of_getElem? (i := 61) (by decide +kernel), by decide +kernel⟩
theorem d_law_126 : decode code 126 = .ok (.invokestatic 68, 3) := by decide +kernel
section LM
variable {p : Program} {l : Launch} {e : Env} {s : State} {m : MethodId} {below : List Frame} {meth : Method} {c : Code} {b L : Nat} {xs : Nat → Int32} {dC : Nat → ClassId} {dI : Nat → Nat → Nat} {A : Nat → Prop} {Q : State → Prop} {H : Heap} {locs : List Loc} {cells slots : Nat} {ls : Array Slot} {wk : va_W} {o1 h0 ta : Nat} {ko kt : ClassId} {of : Nat → Int64} {ts : List (ADt × TKt)} {c0 n T N : Nat} {Pf : Nat → Nat} {xn xcold xtime : Int32} {xf : Nat → Option Nat} {qcode qn qcold qtime : Int32} {qV qM : Nat → Int32} {qvol qh : Nat → Int64} {qamb qab qbe qrf qrt qrh qrs qrl qru qon qdr qdc : Nat → Int32} {qdn qdh qgi qlo : Nat → Int64} {qom : Nat → Int32}
set_option maxHeartbeats 4000000 in
set_option maxRecDepth 100000 in
theorem M_tank {p1 p2 : Int32} (C0 : lw_At p s m meth c b L xs) (hX : LX l s A) (hN : 2000 ≤ N) (hls : ls.size = 8) (hcc : cells + 10 ≤ 601024) (hss : slots + 200 ≤ 7293034) (hc : c0 < 512) (hW : LWd dC dI A s H locs wk o1 ko of h0 ta kt xn xcold xtime xf ts) (hI : INV c0 n T Pf xn xcold xtime xf ts qn qcold qtime qV qM qvol qh qamb qab qbe qrf qrt qrh qrs qrl qru qon qdr qdc qdn qdh qgi qlo qom) (kk : ∀ (r : Int32) (of' : Nat → Int64) (xn' xcold' xtime' : Int32) (xf' : Nat → Option Nat) (ts' : List (ADt × TKt)) (n' T' : Nat) (Pf' : Nat → Nat) (res : Int32 × Int32 × (Nat → Int32) × (Nat → Int32) × (Nat → Int64) × (Nat → Int64) × (Nat → Int32) × Int32) (H1 : Heap) (locs1 : List Loc), fn_Mod_tank N p1 p2 qcode qn qcold qtime qV qM qvol qh qamb qab qbe qrf qrt qrh qrs qrl qru qon qdr qdc qdn qdh qgi qlo qom = some res → r = res.2.1 → (r = 0 → of' 0 = res.1.toInt64) → INV (c0 + 1) n' T' Pf' xn' xcold' xtime' xf' ts' res.2.2.2.2.2.2.2 qcold qtime res.2.2.1 res.2.2.2.1 res.2.2.2.2.1 res.2.2.2.2.2.1 qamb qab res.2.2.2.2.2.2.1 qrf qrt qrh qrs qrl qru qon qdr qdc qdn qdh qgi qlo qom → LWd dC dI A s H1 locs1 wk o1 ko of' h0 ta kt xn' xcold' xtime' xf' ts' → W p l e room_1 s m #[Value.ref b] below meth c H1 locs1 (cells + 10) (slots + 200) Q (F0 m 129 ls [.int r])) : W p l e room_1 s m #[Value.ref b] below meth c H locs cells slots Q (F0 m 126 ls [.ref o1, .int p2, .int p1, .ref h0]) := by
  obtain ⟨hx, hb, hr, hml, hown, hts, -, -, -, -⟩ := C0
  obtain ⟨hlt, hE, hXx, hNc, hA⟩ := hX
  obtain ⟨hP, hD, hK, hS⟩ := hW
  have hP2 := gx_Pp (cw_front (wk := wk)) hP
  have hD2 := gx_Dp (cw_front (wk := wk)) hD
  have hF := gx_freeW hD2 hS hA
  have hPc := gx_Pr hP2
  have hDc := gx_Dr hD2
  have hKc := gx_Ks hK (k_front (kt := kt) (ko := ko) (ts := ts))
  have h4 := hI.1
  have hxn := hI.2.2.1
  have hqn := hI.2.2.2.1
  rcases s_tank (N := N) (n := n) (p1 := p1) (p2 := p2) (xn := xn) (xcold := xcold) (xtime := xtime) (xf := xf) (qcode := qcode) (qn := qn) (qcold := qcold) (qtime := qtime) (qV := qV) (qM := qM) (qvol := qvol) (qh := qh) (qamb := qamb) (qab := qab) (qbe := qbe) (qrf := qrf) (qrt := qrt) (qrh := qrh) (qrs := qrs) (qrl := qrl) (qru := qru) (qon := qon) (qdr := qdr) (qdc := qdc) (qdn := qdn) (qdh := qdh) (qgi := qgi) (qlo := qlo) (qom := qom) h4 hxn hqn (fun h => hI.2.2.2.2.2.2.2.2.2.2.2.2.1 n (Nat.le_refl n) h) with ⟨hn, V9, H9, Z1, Z2, qV', qM', qvol', qh', qbe', e1, e2, hT', hSm⟩ | ⟨ex, hex, e1, z9, e2⟩
  · have hres : fn_law_tank N p1 p2 xn xcold xtime xf of = some (0, i3 (n + 1), xcold, xtime, 0, 0, p1, 1, V9, H9, 0, 0, 0, 0, 0, 0, 0, 0, 0, 0, 0, 1, 0, 0, Z1, Z2, vp_updL of 0 (i3 n).toInt64) := by
      unfold fn_law_tank
      rw [e1]
      simp only [gx_inr, Option.bind_some, ib0, n00, ↓reduceIte]
    refine va_calli (vx_runSW (As := [.ref h0, .int p1, .int p2, .ref o1]) (rest := []) ⟨hx, hb, hml, hown, hts⟩ (c_law_tank N l dC dI h0 ta o1 kt ko (ts.flatMap twc) H.size xn xcold xtime xf of h0 p1 p2 o1 _ hres) (vx_cwSW 4 hts (gx_gSL mw_62 mw_60 mw_61 mw_23) rfl rfl rfl (by decide +kernel) ⟨Nat.le_of_ble_eq_true rfl, Nat.le_of_ble_eq_true rfl⟩) ⟨fun a U g mk q => by obtain ⟨q0, q1, qP, qK, qD, qE⟩ := q; exact ⟨q0, q1, qP, va_K.moved (u := U) (U := U.calling g mk a) (Vm.Alike.refl U.vm) qK, qD, qE.calls⟩, fun U hU hW => ⟨rfl, by rw [hU], by rw [hU]; exact hPc, va_K.moved hW.alike hKc, hDc.weaken (fun _ _ _ _ => trivial), hE.warm hW⟩⟩ rfl rfl hls rfl (lv_room (Nat.le_of_ble_eq_true rfl)) d_law_126 ⟨by rw [rc1]; omega, by rw [rs1]; omega⟩) hS (fun q _ h => hF q h) hF (fun r u9 t9 H1 locs1 hht hvm hw hB hz1 hk1 hS1 => ?_)
    obtain ⟨tk, w0, a1, a2, r0, l0, t0, b1, b2, k1, k2, k3, k4⟩ := u9
    obtain ⟨hP1, hK1, hD1⟩ := hB
    rw [hht] at hP1
    have hK1 := va_K.moved hvm.symm hK1
    obtain ⟨hP3, hD3⟩ := gx_keepW hP2 hD2 hk1 hF hP1 hD1
    have hxn' : xn.toNatClampNeg = n := by rw [hxn]; exact i3_nat (by omega)
    rw [hxn'] at hP3 hD3
    refine W.widen (k := cells + 10) (n := slots + 200) (by omega) (by omega) ?_
    rw [hw]
    have hsp := cw_split (o := (o1, .inl (ko, 1, .inr (.inl (vp_updL of 0 (i3 n).toInt64))))) (x := (h0, .inr (0, [.ref ta, .int (i3 (n + 1)), .int xcold, .int xtime]))) (ta := (ta, .inl (kt, 4, .inr (.inr (.inr (.inr (va_up xf n (some tk)))))))) (wk := wk) ts [] ((tk, w0, a1, a2, r0, l0, t0, b1, b2, k1, k2, k3, k4), (0, 0, p1, 1, V9, H9, 0, 0, 0, 0, 0, 0, 0, 0, 0, 0, 0, 1, 0, 0, Z1, Z2))
    rw [List.append_nil] at hsp
    refine kk 0 (vp_updL of 0 (i3 n).toInt64) (i3 (n + 1)) xcold xtime (va_up xf n (some tk)) (ts ++ [((tk, w0, a1, a2, r0, l0, t0, b1, b2, k1, k2, k3, k4), (0, 0, p1, 1, V9, H9, 0, 0, 0, 0, 0, 0, 0, 0, 0, 0, 0, 1, 0, 0, Z1, Z2))]) (n + 1) T _ (i3 n, 0, qV', qM', qvol', qh', qbe', i3 (n + 1)) H1 locs1 e2 rfl (fun _ => by simp only [vp_updL, ↓reduceIte]) (hI.push (z := ((tk, w0, a1, a2, r0, l0, t0, b1, b2, k1, k2, k3, k4), (0, 0, p1, 1, V9, H9, 0, 0, 0, 0, 0, 0, 0, 0, 0, 0, 0, 1, 0, 0, Z1, Z2))) hn hT' hSm) ⟨gx_Pp hsp.symm hP3, gx_Dp hsp.symm hD3, gx_Ks (hK.app hK1) ?_, hS1⟩
    intro q hq
    simp only [cty, List.mem_cons, List.flatMap_append, List.flatMap_cons, List.flatMap_nil, List.append_nil, List.mem_append, tty, List.not_mem_nil, or_false] at hq ⊢
    rcases hq with h | h | h | h | h | h | h
    · exact Or.inl (Or.inl h)
    · exact Or.inl (Or.inr (Or.inl h))
    · exact Or.inl (Or.inr (Or.inr h))
    · exact Or.inr (Or.inr (Or.inl h))
    · exact Or.inr (Or.inr (Or.inr (Or.inl h)))
    · exact Or.inr (Or.inr (Or.inr (Or.inr (Or.inl h))))
    · exact Or.inr (Or.inr (Or.inr (Or.inr (Or.inr (Or.inl h)))))
  · rcases hex with rfl | rfl
    · rw [show (i3 1 : Int32) = 1 from rfl] at e2
      have hres : fn_law_tank_t N p1 p2 xn xcold xtime xf of = some 1 := by
        unfold fn_law_tank_t
        rw [e1]
        rfl
      refine va_calli (vx_runSW (As := [.ref h0, .int p1, .int p2, .ref o1]) (rest := []) ⟨hx, hb, hml, hown, hts⟩ (c_law_tank_t N l hlt dC dI h0 ta o1 kt ko (ts.flatMap twc) H.size xn xcold xtime xf of h0 p1 p2 o1 _ hres) (vx_cwSW 4 hts (gx_gSL mw_62 mw_60 mw_61 mw_23) rfl rfl rfl (by decide +kernel) ⟨Nat.le_of_ble_eq_true rfl, Nat.le_of_ble_eq_true rfl⟩) ⟨fun a U g mk q => by obtain ⟨q0, q1, qP, qK, qD, qE, qX, qN⟩ := q; exact ⟨q0, q1, qP, va_K.moved (u := U) (U := U.calling g mk a) (Vm.Alike.refl U.vm) qK, qD, qE.calls, qX.calls, va_Nc.moved (u := U) (U := U.calling g mk a) (Vm.Alike.refl U.vm) qN⟩, fun U hU hW => ⟨rfl, by rw [hU], by rw [hU]; exact hPc, va_K.moved hW.alike hKc, hDc.weaken (fun _ _ _ _ => trivial), hE.warm hW, hXx.pass hS hU hW hF, va_Nc.moved hW.alike hNc⟩⟩ rfl rfl hls rfl (lv_room (Nat.le_of_ble_eq_true rfl)) d_law_126 ⟨by rw [rc1]; omega, by rw [rs1]; omega⟩) hS (fun q _ h => hF q h) hF (fun r u9 t9 H1 locs1 hht hvm hw hB hz1 hk1 hS1 => ?_)
      obtain ⟨hP1, hK1, hD1⟩ := hB
      rw [hht] at hP1
      obtain ⟨hP3, hD3⟩ := gx_keepW hP2 hD2 hk1 hF hP1 hD1
      refine W.widen (k := cells + 10) (n := slots + 200) (by omega) (by omega) ?_
      rw [hw]
      exact kk 1 of xn xcold xtime xf ts n T Pf (z9, 1, qV, qM, qvol, qh, qbe, qn) H1 locs1 e2 rfl (fun h => absurd h (by decide)) hI.same ⟨gx_Pp (cw_front (wk := wk)).symm hP3, gx_Dp (cw_front (wk := wk)).symm hD3, hK, hS1⟩
    · rw [show (i3 2 : Int32) = 2 from rfl] at e2
      have hres : fn_law_tank_t N p1 p2 xn xcold xtime xf of = some 2 := by
        unfold fn_law_tank_t
        rw [e1]
        rfl
      refine va_calli (vx_runSW (As := [.ref h0, .int p1, .int p2, .ref o1]) (rest := []) ⟨hx, hb, hml, hown, hts⟩ (c_law_tank_t N l hlt dC dI h0 ta o1 kt ko (ts.flatMap twc) H.size xn xcold xtime xf of h0 p1 p2 o1 _ hres) (vx_cwSW 4 hts (gx_gSL mw_62 mw_60 mw_61 mw_23) rfl rfl rfl (by decide +kernel) ⟨Nat.le_of_ble_eq_true rfl, Nat.le_of_ble_eq_true rfl⟩) ⟨fun a U g mk q => by obtain ⟨q0, q1, qP, qK, qD, qE, qX, qN⟩ := q; exact ⟨q0, q1, qP, va_K.moved (u := U) (U := U.calling g mk a) (Vm.Alike.refl U.vm) qK, qD, qE.calls, qX.calls, va_Nc.moved (u := U) (U := U.calling g mk a) (Vm.Alike.refl U.vm) qN⟩, fun U hU hW => ⟨rfl, by rw [hU], by rw [hU]; exact hPc, va_K.moved hW.alike hKc, hDc.weaken (fun _ _ _ _ => trivial), hE.warm hW, hXx.pass hS hU hW hF, va_Nc.moved hW.alike hNc⟩⟩ rfl rfl hls rfl (lv_room (Nat.le_of_ble_eq_true rfl)) d_law_126 ⟨by rw [rc1]; omega, by rw [rs1]; omega⟩) hS (fun q _ h => hF q h) hF (fun r u9 t9 H1 locs1 hht hvm hw hB hz1 hk1 hS1 => ?_)
      obtain ⟨hP1, hK1, hD1⟩ := hB
      rw [hht] at hP1
      obtain ⟨hP3, hD3⟩ := gx_keepW hP2 hD2 hk1 hF hP1 hD1
      refine W.widen (k := cells + 10) (n := slots + 200) (by omega) (by omega) ?_
      rw [hw]
      exact kk 2 of xn xcold xtime xf ts n T Pf (z9, 2, qV, qM, qvol, qh, qbe, qn) H1 locs1 e2 rfl (fun h => absurd h (by decide)) hI.same ⟨gx_Pp (cw_front (wk := wk)).symm hP3, gx_Dp (cw_front (wk := wk)).symm hD3, hK, hS1⟩
end LM
