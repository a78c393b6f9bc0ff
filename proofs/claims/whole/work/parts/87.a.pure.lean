theorem mw_393 : (Cond.codeWith y_law_loses b_law_loses 6 (some .int) [(0, 9, 12, 13)]) ∈ gx_W := List.mem_filter.mpr ⟨List.mem_of_getElem? (i := 393) (by decide +kernel), by decide +kernel⟩
theorem mw_391 : (Cond.methodLink R_law 93 y_law_loses) ∈ gx_W := List.mem_filter.mpr ⟨List.mem_of_getElem? (i := 391) (by decide +kernel), by decide +kernel⟩
theorem mw_392 : (Cond.static y_law_loses) ∈ gx_W := List.mem_filter.mpr ⟨List.mem_of_getElem? (i := 392) (by decide +kernel), by decide +kernel⟩
theorem d_law_523 : decode code 523 = .ok (.invokestatic 93, 3) := by decide +kernel
theorem tty_snd (a : ADt) (x y : TKt) : tty (a, x) = tty (a, y) := by
  obtain ⟨a0, a1, a2, a3, a4, a5, a6, a7, a8, a9, a10, a11, a12⟩ := a
  rfl
theorem cw_split2c {o x ta : Nat × va_E} {wk : va_W} (A B : List (ADt × TKt)) (tk w0 a1 a2 r0 l0 t0 b1 b2 : Nat) (k1 k2 k3 k4 : ClassId) (dpar dheat : Int64) (full cnt : Int32) (vf : Nat → Int32) (hf : Nat → Int64) (rfrom rto rheat rsens rlow rhigh ron : Int32) (rgiven : Int64) (rmin lamb labv lbel : Int32) (llost : Int64) (tcnt : Int32) (mf pf : Nat → Int32) : (wk ++ (o :: x :: ta :: (A ++ ((tk, w0, a1, a2, r0, l0, t0, b1, b2, k1, k2, k3, k4), (dpar, dheat, full, cnt, vf, hf, rfrom, rto, rheat, rsens, rlow, rhigh, ron, rgiven, rmin, lamb, labv, lbel, llost, tcnt, mf, pf)) :: B).flatMap twc)).Perm ((wk ++ [o]) ++ (x :: ta :: (tk, .inr (1, [.ref w0, .ref r0, .ref l0, .ref t0, .long dpar, .long dheat])) :: (w0, .inr (2, [.int full, .ref a1, .ref a2, .int cnt])) :: (a1, .inl (k1, 42, .inl vf)) :: (a2, .inl (k2, 42, .inr (.inl hf))) :: (r0, .inr (3, [.int rfrom, .int rto, .int rheat, .int rsens, .int rlow, .int rhigh, .int ron, .long rgiven, .int rmin])) :: (l0, .inr (4, [.int lamb, .int labv, .int lbel, .long llost])) :: (t0, .inr (5, [.ref b1, .ref b2, .int tcnt])) :: (b1, .inl (k3, 40, .inl mf)) :: (b2, .inl (k4, 40, .inl pf)) :: (A ++ B).flatMap twc)) := cw_split2 A B ((tk, w0, a1, a2, r0, l0, t0, b1, b2, k1, k2, k3, k4), (dpar, dheat, full, cnt, vf, hf, rfrom, rto, rheat, rsens, rlow, rhigh, ron, rgiven, rmin, lamb, labv, lbel, llost, tcnt, mf, pf))
section LM
variable {p : Program} {l : Launch} {e : Env} {s : State} {m : MethodId} {below : List Frame} {meth : Method} {c : Code} {b L : Nat} {xs : Nat → Int32} {dC : Nat → ClassId} {dI : Nat → Nat → Nat} {A : Nat → Prop} {Q : State → Prop} {H : Heap} {locs : List Loc} {cells slots : Nat} {ls : Array Slot} {wk : va_W} {o1 h0 ta : Nat} {ko kt : ClassId} {of : Nat → Int64} {ts : List (ADt × TKt)} {c0 n T N : Nat} {Pf : Nat → Nat} {xn xcold xtime : Int32} {xf : Nat → Option Nat} {qcode qn qcold qtime : Int32} {qV qM : Nat → Int32} {qvol qh : Nat → Int64} {qamb qab qbe qrf qrt qrh qrs qrl qru qon qdr qdc : Nat → Int32} {qdn qdh qgi qlo : Nat → Int64} {qom : Nat → Int32}
set_option maxHeartbeats 4000000 in
set_option maxRecDepth 100000 in
theorem M_loses {p1 p2 p3 p4 : Int32} (C0 : lw_At p s m meth c b L xs) (hX : LX l s A) (hN : 2000 ≤ N) (hls : ls.size = 8) (hcc : cells + 10 ≤ 601024) (hss : slots + 200 ≤ 7293034) (hc : c0 < 512) (hW : LWd dC dI A s H locs wk o1 ko of h0 ta kt xn xcold xtime xf ts) (hI : INV c0 n T Pf xn xcold xtime xf ts qn qcold qtime qV qM qvol qh qamb qab qbe qrf qrt qrh qrs qrl qru qon qdr qdc qdn qdh qgi qlo qom) (kk : ∀ (r : Int32) (of' : Nat → Int64) (xn' xcold' xtime' : Int32) (xf' : Nat → Option Nat) (ts' : List (ADt × TKt)) (n' T' : Nat) (Pf' : Nat → Nat) (res : Int32 × (Nat → Int32) × (Nat → Int32) × (Nat → Int32)) (H1 : Heap) (locs1 : List Loc), fn_Mod_loses N p1 p2 p3 p4 qcode qn qcold qtime qV qM qvol qh qamb qab qbe qrf qrt qrh qrs qrl qru qon qdr qdc qdn qdh qgi qlo qom = some res → r = res.1 → INV (c0 + 1) n' T' Pf' xn' xcold' xtime' xf' ts' qn qcold qtime qV qM qvol qh res.2.1 res.2.2.1 res.2.2.2 qrf qrt qrh qrs qrl qru qon qdr qdc qdn qdh qgi qlo qom → LWd dC dI A s H1 locs1 wk o1 ko of' h0 ta kt xn' xcold' xtime' xf' ts' → W p l e room_1 s m #[Value.ref b] below meth c H1 locs1 (cells + 10) (slots + 200) Q (F0 m 526 ls [.int r])) : W p l e room_1 s m #[Value.ref b] below meth c H locs cells slots Q (F0 m 523 ls [.int p4, .int p3, .int p2, .int p1, .ref h0]) := by
  obtain ⟨hx, hb, hr, hml, hown, hts, -, -, -, -⟩ := C0
  obtain ⟨hlt, hE, hXx, hNc, hA⟩ := hX
  obtain ⟨hP, hD, hK, hS⟩ := hW
  by_cases hp : 0 ≤ p1 ∧ p1 < i3 n
  · obtain ⟨t, A1, B1, z, rfl, ht, h4, rfl, hA1, hxf, hT, hPf⟩ := hI.tank hc hp.1 hp.2
    obtain ⟨⟨tk, w0, a1, a2, r0, l0, t0, b1, b2, k1, k2, k3, k4⟩, dpar, dheat, full, cnt, vf, hf, rfrom, rto, rheat, rsens, rlow, rhigh, ron, rgiven, rmin, lamb, labv, lbel, llost, tcnt, mf, pf⟩ := z
    have hqn := hI.2.2.2.1
    have hsel : xf (i3 t).toNatClampNeg = some tk := by rw [i3_nat (by omega)]; exact hxf
    have hP2 := gx_Pp (cw_split2 (wk := wk) A1 B1 ((tk, w0, a1, a2, r0, l0, t0, b1, b2, k1, k2, k3, k4), (dpar, dheat, full, cnt, vf, hf, rfrom, rto, rheat, rsens, rlow, rhigh, ron, rgiven, rmin, lamb, labv, lbel, llost, tcnt, mf, pf))) hP
    have hD2 := gx_Dp (cw_split2 (wk := wk) A1 B1 ((tk, w0, a1, a2, r0, l0, t0, b1, b2, k1, k2, k3, k4), (dpar, dheat, full, cnt, vf, hf, rfrom, rto, rheat, rsens, rlow, rhigh, ron, rgiven, rmin, lamb, labv, lbel, llost, tcnt, mf, pf))) hD
    have hF := gx_freeW hD2 hS hA
    have hPc := gx_Pr hP2
    have hDc := gx_Dr hD2
    have hKc := gx_Ks hK (k_split2 (kt := kt) (ko := ko) A1 B1 ((tk, w0, a1, a2, r0, l0, t0, b1, b2, k1, k2, k3, k4), (dpar, dheat, full, cnt, vf, hf, rfrom, rto, rheat, rsens, rlow, rhigh, ron, rgiven, rmin, lamb, labv, lbel, llost, tcnt, mf, pf)))
    rcases s_loses (N := N) (tk := tk) (xn := xn) (xcold := xcold) (xtime := xtime) (qcode := qcode) (qcold := qcold) (qtime := qtime) (p2 := p2) (p3 := p3) (p4 := p4) h4 ht hqn hxf hT with ⟨e1, e2, hT'⟩ | ⟨e1, e2⟩
    · have hI2 := INV.set (P' := Pf t) (z' := ((tk, w0, a1, a2, r0, l0, t0, b1, b2, k1, k2, k3, k4), (dpar, dheat, full, cnt, vf, hf, rfrom, rto, rheat, rsens, rlow, rhigh, ron, rgiven, rmin, p2, p3, p4, llost, tcnt, mf, pf))) (qV' := qV) (qM' := qM) (qvol' := qvol) (qh' := qh) (qamb' := (upd qamb t p2)) (qab' := (upd qab t p3)) (qbe' := (upd qbe t p4)) (qrf' := qrf) (qrt' := qrt) (qrh' := qrh) (qrs' := qrs) (qrl' := qrl) (qru' := qru) (qon' := qon) (qdr' := qdr) (qdc' := qdc) (qdn' := qdn) (qdh' := qdh) (qgi' := qgi) (qlo' := qlo) (qom' := qom) hI hA1 rfl hT' (Nat.le_add_right _ _) (fun j hj => Sm.ups hj)
      have hres : fn_law_loses N (i3 t) p2 p3 p4 xn xcold xtime xf dpar dheat full cnt vf hf rfrom rto rheat rsens rlow rhigh ron rgiven rmin lamb labv lbel llost tcnt mf pf = some (0, p2, p3, p4) := by
        unfold fn_law_loses
        rw [e1]
        simp only [gx_inr, Option.bind_some, ib0, n00, ↓reduceIte]
      refine va_calli (vx_runSW (As := [.ref h0, .int (i3 t), .int p2, .int p3, .int p4]) (rest := []) ⟨hx, hb, hml, hown, hts⟩ (c_law_loses N l dC dI h0 ta tk w0 a1 a2 r0 l0 t0 b1 b2 kt k1 k2 k3 k4 ((A1 ++ B1).flatMap twc) H.size xn xcold xtime xf dpar dheat full cnt vf hf rfrom rto rheat rsens rlow rhigh ron rgiven rmin lamb labv lbel llost tcnt mf pf h0 (i3 t) p2 p3 p4 hsel _ hres) (vx_cwSW 5 hts (gx_gSL mw_393 mw_391 mw_392 mw_23) rfl rfl rfl (by decide +kernel) ⟨Nat.le_of_ble_eq_true rfl, Nat.le_of_ble_eq_true rfl⟩) ⟨fun a U g mk q => by obtain ⟨q0, q1, qP, qK, qD, qE⟩ := q; exact ⟨q0, q1, qP, va_K.moved (u := U) (U := U.calling g mk a) (Vm.Alike.refl U.vm) qK, qD, qE.calls⟩, fun U hU hW => ⟨rfl, by rw [hU], by rw [hU]; exact hPc, va_K.moved hW.alike hKc, hDc.weaken (fun _ _ _ _ => trivial), hE.warm hW⟩⟩ rfl rfl hls rfl (lv_room (Nat.le_of_ble_eq_true rfl)) d_law_523 ⟨by rw [rc1]; omega, by rw [rs1]; omega⟩) hS (fun q _ h => hF q h) hF (fun r u9 t9 H1 locs1 hht hvm hw hB hz1 hk1 hS1 => ?_)
      obtain ⟨hP1, hK1, hD1⟩ := hB
      rw [hht] at hP1
      dsimp only at hP1 hD1
      obtain ⟨hP3, hD3⟩ := gx_keepW hP2 hD2 hk1 hF hP1 hD1
      refine W.widen (k := cells + 10) (n := slots + 200) (by omega) (by omega) ?_
      rw [hw]
      have hsp := cw_split2c (o := (o1, .inl (ko, 1, .inr (.inl of)))) (x := (h0, .inr (0, [.ref ta, .int xn, .int xcold, .int xtime]))) (ta := (ta, .inl (kt, 4, .inr (.inr (.inr (.inr xf)))))) (wk := wk) A1 B1 tk w0 a1 a2 r0 l0 t0 b1 b2 k1 k2 k3 k4 dpar dheat full cnt vf hf rfrom rto rheat rsens rlow rhigh ron rgiven rmin p2 p3 p4 llost tcnt mf pf
      have hP4 := gx_Pp hsp.symm hP3
      have hD4 := gx_Dp hsp.symm hD3
      exact kk 0 of xn xcold xtime xf (A1 ++ ((tk, w0, a1, a2, r0, l0, t0, b1, b2, k1, k2, k3, k4), (dpar, dheat, full, cnt, vf, hf, rfrom, rto, rheat, rsens, rlow, rhigh, ron, rgiven, rmin, p2, p3, p4, llost, tcnt, mf, pf)) :: B1) n T (fun j => if j = t then Pf t else Pf j) (0, upd qamb t p2, upd qab t p3, upd qbe t p4) H1 locs1 e2 rfl  hI2 ⟨hP4, hD4, by rw [cty_set A1 B1 (z := ((tk, w0, a1, a2, r0, l0, t0, b1, b2, k1, k2, k3, k4), (dpar, dheat, full, cnt, vf, hf, rfrom, rto, rheat, rsens, rlow, rhigh, ron, rgiven, rmin, lamb, labv, lbel, llost, tcnt, mf, pf))) (z' := ((tk, w0, a1, a2, r0, l0, t0, b1, b2, k1, k2, k3, k4), (dpar, dheat, full, cnt, vf, hf, rfrom, rto, rheat, rsens, rlow, rhigh, ron, rgiven, rmin, p2, p3, p4, llost, tcnt, mf, pf))) (tty_snd _ _ _)]; exact hK, hS1⟩
    · have hres : fn_law_loses_t N (i3 t) p2 p3 p4 xn xcold xtime xf dpar dheat full cnt vf hf rfrom rto rheat rsens rlow rhigh ron rgiven rmin lamb labv lbel llost tcnt mf pf = some 1 := by
        unfold fn_law_loses_t
        rw [e1]
        rfl
      refine va_calli (vx_runSW (As := [.ref h0, .int (i3 t), .int p2, .int p3, .int p4]) (rest := []) ⟨hx, hb, hml, hown, hts⟩ (c_law_loses_t N l hlt dC dI h0 ta tk w0 a1 a2 r0 l0 t0 b1 b2 kt k1 k2 k3 k4 ((A1 ++ B1).flatMap twc) H.size xn xcold xtime xf dpar dheat full cnt vf hf rfrom rto rheat rsens rlow rhigh ron rgiven rmin lamb labv lbel llost tcnt mf pf h0 (i3 t) p2 p3 p4 hsel _ hres) (vx_cwSW 5 hts (gx_gSL mw_393 mw_391 mw_392 mw_23) rfl rfl rfl (by decide +kernel) ⟨Nat.le_of_ble_eq_true rfl, Nat.le_of_ble_eq_true rfl⟩) ⟨fun a U g mk q => by obtain ⟨q0, q1, qP, qK, qD, qE, qX, qN⟩ := q; exact ⟨q0, q1, qP, va_K.moved (u := U) (U := U.calling g mk a) (Vm.Alike.refl U.vm) qK, qD, qE.calls, qX.calls, va_Nc.moved (u := U) (U := U.calling g mk a) (Vm.Alike.refl U.vm) qN⟩, fun U hU hW => ⟨rfl, by rw [hU], by rw [hU]; exact hPc, va_K.moved hW.alike hKc, hDc.weaken (fun _ _ _ _ => trivial), hE.warm hW, hXx.pass hS hU hW hF, va_Nc.moved hW.alike hNc⟩⟩ rfl rfl hls rfl (lv_room (Nat.le_of_ble_eq_true rfl)) d_law_523 ⟨by rw [rc1]; omega, by rw [rs1]; omega⟩) hS (fun q _ h => hF q h) hF (fun r u9 t9 H1 locs1 hht hvm hw hB hz1 hk1 hS1 => ?_)
      obtain ⟨hP1, hK1, hD1⟩ := hB
      rw [hht] at hP1
      obtain ⟨hP3, hD3⟩ := gx_keepW hP2 hD2 hk1 hF hP1 hD1
      refine W.widen (k := cells + 10) (n := slots + 200) (by omega) (by omega) ?_
      rw [hw]
      exact kk 1 of xn xcold xtime xf (A1 ++ ((tk, w0, a1, a2, r0, l0, t0, b1, b2, k1, k2, k3, k4), (dpar, dheat, full, cnt, vf, hf, rfrom, rto, rheat, rsens, rlow, rhigh, ron, rgiven, rmin, lamb, labv, lbel, llost, tcnt, mf, pf)) :: B1) n T Pf (1, qamb, qab, qbe) H1 locs1 e2 rfl  hI.same ⟨gx_Pp (cw_split2 (wk := wk) A1 B1 ((tk, w0, a1, a2, r0, l0, t0, b1, b2, k1, k2, k3, k4), (dpar, dheat, full, cnt, vf, hf, rfrom, rto, rheat, rsens, rlow, rhigh, ron, rgiven, rmin, lamb, labv, lbel, llost, tcnt, mf, pf))).symm hP3, gx_Dp (cw_split2 (wk := wk) A1 B1 ((tk, w0, a1, a2, r0, l0, t0, b1, b2, k1, k2, k3, k4), (dpar, dheat, full, cnt, vf, hf, rfrom, rto, rheat, rsens, rlow, rhigh, ron, rgiven, rmin, lamb, labv, lbel, llost, tcnt, mf, pf))).symm hD3, hK, hS1⟩
  · have hqn := hI.2.2.2.1
    have h4 := hI.1
    have hP2 := gx_Pp (cw_front2 (wk := wk)) hP
    have hD2 := gx_Dp (cw_front2 (wk := wk)) hD
    have hF := gx_freeW hD2 hS hA
    have hPc := gx_Pr hP2
    have hDc := gx_Dr hD2
    have hKc := gx_Ks hK (k_front2 (kt := kt) (ko := ko) (ts := ts))
    have hres : fn_law_loses_t_0 N p1 p2 p3 p4 xn xcold xtime xf = some 1 := by
      unfold fn_law_loses_t_0 fn_TL_loses_0
      rw [tn_no hI.none hp h4]
      rfl
    have e2 : fn_Mod_loses N p1 p2 p3 p4 qcode qn qcold qtime qV qM qvol qh qamb qab qbe qrf qrt qrh qrs qrl qru qon qdr qdc qdn qdh qgi qlo qom = some (1, qamb, qab, qbe) := by
      unfold fn_Mod_loses
      rw [isT_no hqn hp h4]
      simp only [Option.bind_some, ↓reduceIte]
    refine va_calli (vx_runSW (As := [.ref h0, .int p1, .int p2, .int p3, .int p4]) (rest := []) ⟨hx, hb, hml, hown, hts⟩ (c_law_loses_t_0 N l hlt dC dI h0 ta kt (ts.flatMap twc) H.size xn xcold xtime xf h0 p1 p2 p3 p4 _ hres) (vx_cwSW 5 hts (gx_gSL mw_393 mw_391 mw_392 mw_23) rfl rfl rfl (by decide +kernel) ⟨Nat.le_of_ble_eq_true rfl, Nat.le_of_ble_eq_true rfl⟩) ⟨fun a U g mk q => by obtain ⟨q0, q1, qP, qK, qD, qE, qX, qN⟩ := q; exact ⟨q0, q1, qP, va_K.moved (u := U) (U := U.calling g mk a) (Vm.Alike.refl U.vm) qK, qD, qE.calls, qX.calls, va_Nc.moved (u := U) (U := U.calling g mk a) (Vm.Alike.refl U.vm) qN⟩, fun U hU hW => ⟨rfl, by rw [hU], by rw [hU]; exact hPc, va_K.moved hW.alike hKc, hDc.weaken (fun _ _ _ _ => trivial), hE.warm hW, hXx.pass hS hU hW hF, va_Nc.moved hW.alike hNc⟩⟩ rfl rfl hls rfl (lv_room (Nat.le_of_ble_eq_true rfl)) d_law_523 ⟨by rw [rc1]; omega, by rw [rs1]; omega⟩) hS (fun q _ h => hF q h) hF (fun r u9 t9 H1 locs1 hht hvm hw hB hz1 hk1 hS1 => ?_)
    obtain ⟨hP1, hK1, hD1⟩ := hB
    rw [hht] at hP1
    obtain ⟨hP3, hD3⟩ := gx_keepW hP2 hD2 hk1 hF hP1 hD1
    refine W.widen (k := cells + 10) (n := slots + 200) (by omega) (by omega) ?_
    rw [hw]
    exact kk 1 of xn xcold xtime xf ts n T Pf (1, qamb, qab, qbe) H1 locs1 e2 rfl  hI.same ⟨gx_Pp (cw_front2 (wk := wk)).symm hP3, gx_Dp (cw_front2 (wk := wk)).symm hD3, hK, hS1⟩
end LM
