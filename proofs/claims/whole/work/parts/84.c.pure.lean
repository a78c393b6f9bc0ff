
section LM
variable {p : Program} {l : Launch} {e : Env} {s : State} {m : MethodId} {below : List Frame} {meth : Method} {c : Code} {b L : Nat} {xs : Nat → Int32} {dC : Nat → ClassId} {dI : Nat → Nat → Nat} {A : Nat → Prop} {Q : State → Prop} {H : Heap} {locs : List Loc} {cells slots : Nat} {ls : Array Slot} {wk : va_W} {o1 h0 ta : Nat} {ko kt : ClassId} {of : Nat → Int64} {ts : List (ADt × TKt)} {c0 n T N : Nat} {Pf : Nat → Nat} {xn xcold xtime : Int32} {xf : Nat → Option Nat} {qcode qn qcold qtime : Int32} {qV qM : Nat → Int32} {qvol qh : Nat → Int64} {qamb qab qbe qrf qrt qrh qrs qrl qru qon qdr qdc : Nat → Int32} {qdn qdh qgi qlo : Nat → Int64} {qom : Nat → Int32}
set_option maxHeartbeats 4000000 in
set_option maxRecDepth 100000 in
theorem M_run_1 {p1 : Int32} {tk0 w00 a10 a20 r00 l00 t00 b10 b20 : Nat} {k10 k20 k30 k40 : ClassId} {dpar0 : Int64} {dheat0 : Int64} {full0 : Int32} {cnt0 : Int32} {vf0 : Nat → Int32} {hf0 : Nat → Int64} {rfrom0 : Int32} {rto0 : Int32} {rheat0 : Int32} {rsens0 : Int32} {rlow0 : Int32} {rhigh0 : Int32} {ron0 : Int32} {rgiven0 : Int64} {rmin0 : Int32} {lamb0 : Int32} {labv0 : Int32} {lbel0 : Int32} {llost0 : Int64} {tcnt0 : Int32} {mf0 : Nat → Int32} {pf0 : Nat → Int32} (C0 : lw_At p s m meth c b L xs) (hX : LX l s A) (hN : 2000 ≤ N) (hls : ls.size = 8) (hcc : cells + 10 ≤ 601024) (hss : slots + 200 ≤ 7293034) (hc : c0 < 512) (hW : LWd dC dI A s H locs wk o1 ko of h0 ta kt xn xcold xtime xf [((tk0, w00, a10, a20, r00, l00, t00, b10, b20, k10, k20, k30, k40), (dpar0, dheat0, full0, cnt0, vf0, hf0, rfrom0, rto0, rheat0, rsens0, rlow0, rhigh0, ron0, rgiven0, rmin0, lamb0, labv0, lbel0, llost0, tcnt0, mf0, pf0))]) (hI : INV c0 n T Pf xn xcold xtime xf [((tk0, w00, a10, a20, r00, l00, t00, b10, b20, k10, k20, k30, k40), (dpar0, dheat0, full0, cnt0, vf0, hf0, rfrom0, rto0, rheat0, rsens0, rlow0, rhigh0, ron0, rgiven0, rmin0, lamb0, labv0, lbel0, llost0, tcnt0, mf0, pf0))] qn qcold qtime qV qM qvol qh qamb qab qbe qrf qrt qrh qrs qrl qru qon qdr qdc qdn qdh qgi qlo qom) (kk : ∀ (r : Int32) (of' : Nat → Int64) (xn' xcold' xtime' : Int32) (xf' : Nat → Option Nat) (ts' : List (ADt × TKt)) (n' T' : Nat) (Pf' : Nat → Nat) (res : Int32 × Int32 × Int32 × (Nat → Int32) × (Nat → Int64) × (Nat → Int64) × (Nat → Int32) × (Nat → Int64) × (Nat → Int64) × (Nat → Int64) × (Nat → Int64) × (Nat → Int32)) (H1 : Heap) (locs1 : List Loc), fn_Mod_run N p1 qcode qn qcold qtime qV qM qvol qh qamb qab qbe qrf qrt qrh qrs qrl qru qon qdr qdc qdn qdh qgi qlo qom = some res → r = res.2.1 → (r = 0 → of' 0 = res.1.toInt64) → INV (c0 + 1) n' T' Pf' xn' xcold' xtime' xf' ts' qn qcold res.2.2.1 qV res.2.2.2.1 res.2.2.2.2.1 res.2.2.2.2.2.1 qamb qab qbe qrf qrt qrh qrs qrl qru res.2.2.2.2.2.2.1 qdr qdc res.2.2.2.2.2.2.2.1 res.2.2.2.2.2.2.2.2.1 res.2.2.2.2.2.2.2.2.2.1 res.2.2.2.2.2.2.2.2.2.2.1 res.2.2.2.2.2.2.2.2.2.2.2 → LWd dC dI A s H1 locs1 wk o1 ko of' h0 ta kt xn' xcold' xtime' xf' ts' → W p l e room_1 s m #[Value.ref b] below meth c H1 locs1 (cells + 10) (slots + 200) Q (F0 m 773 ls [.int r])) : W p l e room_1 s m #[Value.ref b] below meth c H locs cells slots Q (F0 m 770 ls [.ref o1, .int p1, .ref h0]) := by
  obtain ⟨hx, hb, hr, hml, hown, hts, -, -, -, -⟩ := C0
  obtain ⟨hlt, hE, hXx, hNc, hA⟩ := hX
  obtain ⟨hP, hD, hK, hS⟩ := hW
  have h4 := hI.1
  have hn : n = 1 := by have := hI.2.1; simpa using this.symm
  subst hn
  have hI0 := hI
  obtain ⟨i1, i2, i3', i4, i5, i6', i7, i8, i9, i10, i11, i12, i13, i14, i15⟩ := hI0
  have hP2 := gx_Pp (cw_last (wk := wk)) hP
  have hD2 := gx_Dp (cw_last (wk := wk)) hD
  have hF := gx_freeW hD2 hS hA
  have hPc := gx_Pr hP2
  have hDc := gx_Dr hD2
  have hKc := gx_Ks hK (k_all (kt := kt) (ko := ko) (ts := [((tk0, w00, a10, a20, r00, l00, t00, b10, b20, k10, k20, k30, k40), (dpar0, dheat0, full0, cnt0, vf0, hf0, rfrom0, rto0, rheat0, rsens0, rlow0, rhigh0, ron0, rgiven0, rmin0, lamb0, labv0, lbel0, llost0, tcnt0, mf0, pf0))]))
  have hkn0 : xf (0 : Int32).toNatClampNeg = some tk0 := by
    rw [show (0 : Int32).toNatClampNeg = 0 by decide, i11 0 (by omega)]
    rfl
  have hkn1 : xf (1 : Int32).toNatClampNeg = none := by
    rw [show (1 : Int32).toNatClampNeg = 1 by decide, i11 1 (by omega)]
    rfl
  have hkn2 : xf (2 : Int32).toNatClampNeg = none := by
    rw [show (2 : Int32).toNatClampNeg = 2 by decide, i11 2 (by omega)]
    rfl
  have hkn3 : xf (3 : Int32).toNatClampNeg = none := by
    rw [show (3 : Int32).toNatClampNeg = 3 by decide, i11 3 (by omega)]
    rfl
  have t0 : TR 0 (Pf 0) dpar0 dheat0 full0 cnt0 vf0 hf0 rfrom0 rto0 rheat0 rsens0 rlow0 rhigh0 ron0 rgiven0 rmin0 lamb0 labv0 lbel0 llost0 tcnt0 mf0 pf0 qV qM qvol qh qamb qab qbe qrf qrt qrh qrs qrl qru qon qdr qdc qdn qdh qgi qlo qom := i12 0 _ rfl
  have hbud : 20000000000 * 1 + 3000000090 * c0 + 120000360 * T ≤ 2300000000000 := by omega
  rcases s_run_1 (N := N) (p1 := p1) (xn := xn) (xf := xf) (P1 := 0) (P2 := 0) (P3 := 0) (qcode := qcode) hN i5 i4 i8 i9 i10 i6' i7 t0 (by omega) with ⟨d, dpar0', dheat0', cnt0', vf0', hf0', ron0', rgiven0', rmin0', llost0', qM', qvol', qh', qon', qdn', qdh', qgi', qlo', qom', hd, hTd, e1, e2, y0, hSm⟩ | ⟨ex9, hex, e1, z9, e2⟩
  · have hres : fn_law_run_1 N p1 xn xcold xtime xf dpar0 dheat0 full0 cnt0 vf0 hf0 rfrom0 rto0 rheat0 rsens0 rlow0 rhigh0 ron0 rgiven0 rmin0 lamb0 labv0 lbel0 llost0 tcnt0 mf0 pf0 of = some (0, i3 (T + d), dpar0', dheat0', cnt0', vf0', hf0', ron0', rgiven0', rmin0', llost0', vp_updL of 0 (i3 (T + d)).toInt64) := by
      unfold fn_law_run_1
      rw [e1]
      simp only [gx_inr, Option.bind_some, ib0, n00, ↓reduceIte]
    refine va_calli (vx_runSW (As := [.ref h0, .int p1, .ref o1]) (rest := []) ⟨hx, hb, hml, hown, hts⟩ (c_law_run_1 N l dC dI h0 ta tk0 w00 a10 a20 r00 l00 t00 b10 b20 o1 kt k10 k20 k30 k40 ko [] H.size xn xcold xtime xf dpar0 dheat0 full0 cnt0 vf0 hf0 rfrom0 rto0 rheat0 rsens0 rlow0 rhigh0 ron0 rgiven0 rmin0 lamb0 labv0 lbel0 llost0 tcnt0 mf0 pf0 of h0 p1 o1 hkn0 hkn1 hkn2 hkn3 _ hres) (vx_cwSW 3 hts (gx_gSL mw_447 mw_445 mw_446 mw_23) rfl rfl rfl (by decide +kernel) ⟨Nat.le_of_ble_eq_true rfl, Nat.le_of_ble_eq_true rfl⟩) ⟨fun a U g mk q => by obtain ⟨q0, q1, qP, qK, qD, qE⟩ := q; exact ⟨q0, q1, qP, va_K.moved (u := U) (U := U.calling g mk a) (Vm.Alike.refl U.vm) qK, qD, qE.calls⟩, fun U hU hW => ⟨rfl, by rw [hU], by rw [hU]; exact hPc, va_K.moved hW.alike hKc, hDc.weaken (fun _ _ _ _ => trivial), hE.warm hW⟩⟩ rfl rfl hls rfl (lv_room (Nat.le_of_ble_eq_true rfl)) d_law_770 ⟨by rw [rc1]; omega, by rw [rs1]; omega⟩) hS (fun q _ h => hF q h) hF (fun r u9 t9 H1 locs1 hht hvm hw hB hz1 hk1 hS1 => ?_)
    obtain ⟨hP1, hK1, hD1⟩ := hB
    rw [hht] at hP1
    obtain ⟨hP3, hD3⟩ := gx_keepW hP2 hD2 hk1 hF hP1 hD1
    refine W.widen (k := cells + 10) (n := slots + 200) (by omega) (by omega) ?_
    rw [hw]
    refine kk 0 (vp_updL of 0 (i3 (T + d)).toInt64) xn xcold (i3 (T + d)) xf [((tk0, w00, a10, a20, r00, l00, t00, b10, b20, k10, k20, k30, k40), (dpar0', dheat0', full0, cnt0', vf0', hf0', rfrom0, rto0, rheat0, rsens0, rlow0, rhigh0, ron0', rgiven0', rmin0', lamb0, labv0, lbel0, llost0', tcnt0, mf0, pf0))] 1 (T + d) (fun i => if i = 0 then Pf 0 + 30000090 * d else Pf i) (i3 (T + d), 0, i3 (T + d), qM', qvol', qh', qon', qdn', qdh', qgi', qlo', qom') H1 locs1 e2 rfl (fun _ => by simp only [vp_updL, ↓reduceIte]) ⟨i1, rfl, i3', i4, i5, i6', i7, rfl, rfl, hTd, ?_, ?_, fun i h1 h2 => QBl.same (qcode := 0) (qn := 0) (qcold := 0) (qtime := 0) (i13 i h1 h2) (hSm i h1), ?_, ?_⟩ ⟨gx_Pp (cw_last (wk := wk)).symm hP3, gx_Dp (cw_last (wk := wk)).symm hD3, hK, hS1⟩
    · intro i hi
      have hh := i11 i hi
      rcases (show i = 0 ∨ i = 1 ∨ i = 2 ∨ i = 3 by omega) with q | q | q | q <;> subst q <;> exact hh
    · intro i y hj
      match i, y, hj with
      | 0, y, hj =>
        cases hj
        exact y0
      | (i + 1), y, hj => simp at hj
    · intro i hi
      try dsimp only
      rw [if_neg (show ¬ i = 0 by omega)]; exact i14 i hi
    · have w0 := i14 0
      have w1 := i14 1
      have w2 := i14 2
      have w3 := i14 3
      try simp only [↓reduceIte, Nat.reduceEqDiff, Nat.succ_ne_zero, Nat.zero_ne_one, Nat.one_ne_zero]
      try dsimp only
      omega
  · rcases hex with rfl | rfl
    · rw [show (i3 1 : Int32) = 1 from rfl] at e2
      have hres : fn_law_run_t_1 N p1 xn xcold xtime xf dpar0 dheat0 full0 cnt0 vf0 hf0 rfrom0 rto0 rheat0 rsens0 rlow0 rhigh0 ron0 rgiven0 rmin0 lamb0 labv0 lbel0 llost0 tcnt0 mf0 pf0 of = some 1 := by
        unfold fn_law_run_t_1
        rw [e1]
        rfl
      refine va_calli (vx_runSW (As := [.ref h0, .int p1, .ref o1]) (rest := []) ⟨hx, hb, hml, hown, hts⟩ (c_law_run_t_1 N l hlt dC dI h0 ta tk0 w00 a10 a20 r00 l00 t00 b10 b20 o1 kt k10 k20 k30 k40 ko [] H.size xn xcold xtime xf dpar0 dheat0 full0 cnt0 vf0 hf0 rfrom0 rto0 rheat0 rsens0 rlow0 rhigh0 ron0 rgiven0 rmin0 lamb0 labv0 lbel0 llost0 tcnt0 mf0 pf0 of h0 p1 o1 hkn0 hkn1 hkn2 hkn3 _ hres) (vx_cwSW 3 hts (gx_gSL mw_447 mw_445 mw_446 mw_23) rfl rfl rfl (by decide +kernel) ⟨Nat.le_of_ble_eq_true rfl, Nat.le_of_ble_eq_true rfl⟩) ⟨fun a U g mk q => by obtain ⟨q0, q1, qP, qK, qD, qE, qX, qN⟩ := q; exact ⟨q0, q1, qP, va_K.moved (u := U) (U := U.calling g mk a) (Vm.Alike.refl U.vm) qK, qD, qE.calls, qX.calls, va_Nc.moved (u := U) (U := U.calling g mk a) (Vm.Alike.refl U.vm) qN⟩, fun U hU hW => ⟨rfl, by rw [hU], by rw [hU]; exact hPc, va_K.moved hW.alike hKc, hDc.weaken (fun _ _ _ _ => trivial), hE.warm hW, hXx.pass hS hU hW hF, va_Nc.moved hW.alike hNc⟩⟩ rfl rfl hls rfl (lv_room (Nat.le_of_ble_eq_true rfl)) d_law_770 ⟨by rw [rc1]; omega, by rw [rs1]; omega⟩) hS (fun q _ h => hF q h) hF (fun r u9 t9 H1 locs1 hht hvm hw hB hz1 hk1 hS1 => ?_)
      obtain ⟨hP1, hK1, hD1⟩ := hB
      rw [hht] at hP1
      obtain ⟨hP3, hD3⟩ := gx_keepW hP2 hD2 hk1 hF hP1 hD1
      refine W.widen (k := cells + 10) (n := slots + 200) (by omega) (by omega) ?_
      rw [hw]
      exact kk 1 of xn xcold xtime xf [((tk0, w00, a10, a20, r00, l00, t00, b10, b20, k10, k20, k30, k40), (dpar0, dheat0, full0, cnt0, vf0, hf0, rfrom0, rto0, rheat0, rsens0, rlow0, rhigh0, ron0, rgiven0, rmin0, lamb0, labv0, lbel0, llost0, tcnt0, mf0, pf0))] 1 T Pf (z9, 1, i3 T, qM, qvol, qh, qon, qdn, qdh, qgi, qlo, qom) H1 locs1 e2 rfl (fun h => absurd h (by decide)) (by rw [← i9]; exact hI.same) ⟨gx_Pp (cw_last (wk := wk)).symm hP3, gx_Dp (cw_last (wk := wk)).symm hD3, hK, hS1⟩
    · rw [show (i3 2 : Int32) = 2 from rfl] at e2
      have hres : fn_law_run_t_1 N p1 xn xcold xtime xf dpar0 dheat0 full0 cnt0 vf0 hf0 rfrom0 rto0 rheat0 rsens0 rlow0 rhigh0 ron0 rgiven0 rmin0 lamb0 labv0 lbel0 llost0 tcnt0 mf0 pf0 of = some 2 := by
        unfold fn_law_run_t_1
        rw [e1]
        rfl
      refine va_calli (vx_runSW (As := [.ref h0, .int p1, .ref o1]) (rest := []) ⟨hx, hb, hml, hown, hts⟩ (c_law_run_t_1 N l hlt dC dI h0 ta tk0 w00 a10 a20 r00 l00 t00 b10 b20 o1 kt k10 k20 k30 k40 ko [] H.size xn xcold xtime xf dpar0 dheat0 full0 cnt0 vf0 hf0 rfrom0 rto0 rheat0 rsens0 rlow0 rhigh0 ron0 rgiven0 rmin0 lamb0 labv0 lbel0 llost0 tcnt0 mf0 pf0 of h0 p1 o1 hkn0 hkn1 hkn2 hkn3 _ hres) (vx_cwSW 3 hts (gx_gSL mw_447 mw_445 mw_446 mw_23) rfl rfl rfl (by decide +kernel) ⟨Nat.le_of_ble_eq_true rfl, Nat.le_of_ble_eq_true rfl⟩) ⟨fun a U g mk q => by obtain ⟨q0, q1, qP, qK, qD, qE, qX, qN⟩ := q; exact ⟨q0, q1, qP, va_K.moved (u := U) (U := U.calling g mk a) (Vm.Alike.refl U.vm) qK, qD, qE.calls, qX.calls, va_Nc.moved (u := U) (U := U.calling g mk a) (Vm.Alike.refl U.vm) qN⟩, fun U hU hW => ⟨rfl, by rw [hU], by rw [hU]; exact hPc, va_K.moved hW.alike hKc, hDc.weaken (fun _ _ _ _ => trivial), hE.warm hW, hXx.pass hS hU hW hF, va_Nc.moved hW.alike hNc⟩⟩ rfl rfl hls rfl (lv_room (Nat.le_of_ble_eq_true rfl)) d_law_770 ⟨by rw [rc1]; omega, by rw [rs1]; omega⟩) hS (fun q _ h => hF q h) hF (fun r u9 t9 H1 locs1 hht hvm hw hB hz1 hk1 hS1 => ?_)
      obtain ⟨hP1, hK1, hD1⟩ := hB
      rw [hht] at hP1
      obtain ⟨hP3, hD3⟩ := gx_keepW hP2 hD2 hk1 hF hP1 hD1
      refine W.widen (k := cells + 10) (n := slots + 200) (by omega) (by omega) ?_
      rw [hw]
      exact kk 2 of xn xcold xtime xf [((tk0, w00, a10, a20, r00, l00, t00, b10, b20, k10, k20, k30, k40), (dpar0, dheat0, full0, cnt0, vf0, hf0, rfrom0, rto0, rheat0, rsens0, rlow0, rhigh0, ron0, rgiven0, rmin0, lamb0, labv0, lbel0, llost0, tcnt0, mf0, pf0))] 1 T Pf (z9, 2, i3 T, qM, qvol, qh, qon, qdn, qdh, qgi, qlo, qom) H1 locs1 e2 rfl (fun h => absurd h (by decide)) (by rw [← i9]; exact hI.same) ⟨gx_Pp (cw_last (wk := wk)).symm hP3, gx_Dp (cw_last (wk := wk)).symm hD3, hK, hS1⟩
end LM
