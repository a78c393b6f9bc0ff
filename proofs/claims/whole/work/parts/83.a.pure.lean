theorem INV.cold {c n T : Nat} {Pf : Nat → Nat} {xn xcold xtime : Int32} {xf : Nat → Option Nat} {ts : List (ADt × TKt)} {qn qcold qtime p1 : Int32} {qV : Nat → Int32} {qM : Nat → Int32} {qvol : Nat → Int64} {qh : Nat → Int64} {qamb : Nat → Int32} {qab : Nat → Int32} {qbe : Nat → Int32} {qrf : Nat → Int32} {qrt : Nat → Int32} {qrh : Nat → Int32} {qrs : Nat → Int32} {qrl : Nat → Int32} {qru : Nat → Int32} {qon : Nat → Int32} {qdr : Nat → Int32} {qdc : Nat → Int32} {qdn : Nat → Int64} {qdh : Nat → Int64} {qgi : Nat → Int64} {qlo : Nat → Int64} {qom : Nat → Int32} (hI : INV c n T Pf xn xcold xtime xf ts qn qcold qtime qV qM qvol qh qamb qab qbe qrf qrt qrh qrs qrl qru qon qdr qdc qdn qdh qgi qlo qom) (h1 : -1000 ≤ p1.toInt) (h2 : p1.toInt ≤ 200000) : INV (c + 1) n T Pf xn p1 xtime xf ts qn p1 qtime qV qM qvol qh qamb qab qbe qrf qrt qrh qrs qrl qru qon qdr qdc qdn qdh qgi qlo qom := by
  obtain ⟨i1, i2, i3', i4, i5, i6', i7, i8, i9, i10, i11, i12, i13, i14, i15⟩ := hI
  exact ⟨i1, i2, i3', i4, rfl, h1, h2, i8, i9, i10, i11, i12, i13, i14, by omega⟩
theorem INV.push {c n T : Nat} {Pf : Nat → Nat} {xn xcold xtime : Int32} {xf : Nat → Option Nat} {ts : List (ADt × TKt)} {z : ADt × TKt} {qn qcold qtime : Int32} {qV : Nat → Int32} {qM : Nat → Int32} {qvol : Nat → Int64} {qh : Nat → Int64} {qamb : Nat → Int32} {qab : Nat → Int32} {qbe : Nat → Int32} {qrf : Nat → Int32} {qrt : Nat → Int32} {qrh : Nat → Int32} {qrs : Nat → Int32} {qrl : Nat → Int32} {qru : Nat → Int32} {qon : Nat → Int32} {qdr : Nat → Int32} {qdc : Nat → Int32} {qdn : Nat → Int64} {qdh : Nat → Int64} {qgi : Nat → Int64} {qlo : Nat → Int64} {qom : Nat → Int32} {qV' : Nat → Int32} {qM' : Nat → Int32} {qvol' : Nat → Int64} {qh' : Nat → Int64} {qamb' : Nat → Int32} {qab' : Nat → Int32} {qbe' : Nat → Int32} {qrf' : Nat → Int32} {qrt' : Nat → Int32} {qrh' : Nat → Int32} {qrs' : Nat → Int32} {qrl' : Nat → Int32} {qru' : Nat → Int32} {qon' : Nat → Int32} {qdr' : Nat → Int32} {qdc' : Nat → Int32} {qdn' : Nat → Int64} {qdh' : Nat → Int64} {qgi' : Nat → Int64} {qlo' : Nat → Int64} {qom' : Nat → Int32} (hI : INV c n T Pf xn xcold xtime xf ts qn qcold qtime qV qM qvol qh qamb qab qbe qrf qrt qrh qrs qrl qru qon qdr qdc qdn qdh qgi qlo qom) (hn : n < 4) (hT : TRt n 20000000000 z.2 qV' qM' qvol' qh' qamb' qab' qbe' qrf' qrt' qrh' qrs' qrl' qru' qon' qdr' qdc' qdn' qdh' qgi' qlo' qom') (hS : ∀ j, j ≠ n → Sm j qV qM qvol qh qamb qab qbe qrf qrt qrh qrs qrl qru qon qdr qdc qdn qdh qgi qlo qom qV' qM' qvol' qh' qamb' qab' qbe' qrf' qrt' qrh' qrs' qrl' qru' qon' qdr' qdc' qdn' qdh' qgi' qlo' qom') : INV (c + 1) (n + 1) T (fun j => if j = n then 20000000000 else Pf j) (i3 (n + 1)) xcold xtime (va_up xf n (some z.1.1)) (ts ++ [z]) (i3 (n + 1)) qcold qtime qV' qM' qvol' qh' qamb' qab' qbe' qrf' qrt' qrh' qrs' qrl' qru' qon' qdr' qdc' qdn' qdh' qgi' qlo' qom' := by
  obtain ⟨i1, i2, i3', i4, i5, i6', i7, i8, i9, i10, i11, i12, i13, i14, i15⟩ := hI
  refine ⟨by omega, by simp [i2], rfl, rfl, i5, i6', i7, i8, i9, i10, fun j hj => ?_, fun j y hj => ?_, fun j h1 h2 => QBl.same (qcode := 0) (qn := 0) (qcold := 0) (qtime := 0) (i13 j (by omega) h2) (hS j (by omega)), fun j h1 => ?_, ?_⟩
  · unfold va_up
    by_cases e : j = n
    · rw [if_pos e, e, ← i2]
      simp
    · rw [if_neg e, i11 j hj]
      rcases Nat.lt_or_ge j ts.length with h | h
      · rw [List.getElem?_append_left h]
      · rw [List.getElem?_append_right h, List.getElem?_eq_none h, List.getElem?_eq_none (by simp only [List.length_cons, List.length_nil]; omega)]
  · rcases Nat.lt_or_ge j ts.length with h | h
    · rw [List.getElem?_append_left h] at hj
      have := i12 j y hj
      dsimp only
      rw [if_neg (show ¬ j = n by omega)]
      obtain ⟨ya, dpar, dheat, full, cnt, vf, hf, rfrom, rto, rheat, rsens, rlow, rhigh, ron, rgiven, rmin, lamb, labv, lbel, llost, tcnt, mf, pf⟩ := y
      exact TR.same (qcode := 0) (qn := 0) (qcold := 0) (qtime := 0) this (hS j (by omega))
    · rw [List.getElem?_append_right h] at hj
      have e : j = n := by
        rcases Nat.eq_zero_or_pos (j - ts.length) with h' | h'
        · omega
        · rw [List.getElem?_eq_none (by simp only [List.length_cons, List.length_nil]; omega)] at hj
          cases hj
      subst e
      rw [i2, Nat.sub_self] at hj
      simp only [List.getElem?_cons_zero, Option.some.injEq] at hj
      subst hj
      dsimp only
      rw [if_pos rfl]
      exact hT
  · dsimp only
    rw [if_neg (show ¬ j = n by omega)]
    exact i14 j (by omega)
  · have hz := i14 n (Nat.le_refl n)
    rcases (show n = 0 ∨ n = 1 ∨ n = 2 ∨ n = 3 by omega) with e | e | e | e <;> subst e <;> simp only [↓reduceIte, Nat.reduceEqDiff, Nat.succ_ne_zero, Nat.zero_ne_one, Nat.one_ne_zero] <;> omega
theorem mw_293 : (Cond.codeWith y_law_cold b_law_cold 4 (some .int) [(0, 9, 12, 13)]) ∈ gx_W := List.mem_filter.mpr ⟨List.mem_of_getElem? (i := 293) (by decide +kernel), by decide +kernel⟩
theorem mw_291 : (Cond.methodLink R_law 78 y_law_cold) ∈ gx_W := List.mem_filter.mpr ⟨List.mem_of_getElem? (i := 291) (by decide +kernel), by decide +kernel⟩
theorem mw_292 : (Cond.static y_law_cold) ∈ gx_W := List.mem_filter.mpr ⟨List.mem_of_getElem? (i := 292) (by decide +kernel), by decide +kernel⟩
theorem d_law_188 : decode code 188 = .ok (.invokestatic 78, 3) := by decide +kernel
section LM
variable {p : Program} {l : Launch} {e : Env} {s : State} {m : MethodId} {below : List Frame} {meth : Method} {c : Code} {b L : Nat} {xs : Nat → Int32} {dC : Nat → ClassId} {dI : Nat → Nat → Nat} {A : Nat → Prop} {Q : State → Prop} {H : Heap} {locs : List Loc} {cells slots : Nat} {ls : Array Slot} {wk : va_W} {o1 h0 ta : Nat} {ko kt : ClassId} {of : Nat → Int64} {ts : List (ADt × TKt)} {c0 n T N : Nat} {Pf : Nat → Nat} {xn xcold xtime : Int32} {xf : Nat → Option Nat} {qcode qn qcold qtime : Int32} {qV qM : Nat → Int32} {qvol qh : Nat → Int64} {qamb qab qbe qrf qrt qrh qrs qrl qru qon qdr qdc : Nat → Int32} {qdn qdh qgi qlo : Nat → Int64} {qom : Nat → Int32}
set_option maxHeartbeats 4000000 in
set_option maxRecDepth 100000 in
theorem M_cold {p1 : Int32} (C0 : lw_At p s m meth c b L xs) (hX : LX l s A) (hN : 2000 ≤ N) (hls : ls.size = 8) (hcc : cells + 10 ≤ 601024) (hss : slots + 200 ≤ 7293034) (hc : c0 < 512) (hW : LWd dC dI A s H locs wk o1 ko of h0 ta kt xn xcold xtime xf ts) (hI : INV c0 n T Pf xn xcold xtime xf ts qn qcold qtime qV qM qvol qh qamb qab qbe qrf qrt qrh qrs qrl qru qon qdr qdc qdn qdh qgi qlo qom) (kk : ∀ (r : Int32) (of' : Nat → Int64) (xn' xcold' xtime' : Int32) (xf' : Nat → Option Nat) (ts' : List (ADt × TKt)) (n' T' : Nat) (Pf' : Nat → Nat) (res : Int32 × Int32 × Int32) (H1 : Heap) (locs1 : List Loc), fn_Mod_cold N p1 qcode qn qcold qtime qV qM qvol qh qamb qab qbe qrf qrt qrh qrs qrl qru qon qdr qdc qdn qdh qgi qlo qom = some res → r = res.2.1 → (r = 0 → of' 0 = res.1.toInt64) → INV (c0 + 1) n' T' Pf' xn' xcold' xtime' xf' ts' qn res.2.2 qtime qV qM qvol qh qamb qab qbe qrf qrt qrh qrs qrl qru qon qdr qdc qdn qdh qgi qlo qom → LWd dC dI A s H1 locs1 wk o1 ko of' h0 ta kt xn' xcold' xtime' xf' ts' → W p l e room_1 s m #[Value.ref b] below meth c H1 locs1 (cells + 10) (slots + 200) Q (F0 m 191 ls [.int r])) : W p l e room_1 s m #[Value.ref b] below meth c H locs cells slots Q (F0 m 188 ls [.ref o1, .int p1, .ref h0]) := by
  obtain ⟨hx, hb, hr, hml, hown, hts, -, -, -, -⟩ := C0
  obtain ⟨hlt, hE, hXx, hNc, hA⟩ := hX
  obtain ⟨hP, hD, hK, hS⟩ := hW
  have hP2 := gx_Pp (cw_front (wk := wk)) hP
  have hD2 := gx_Dp (cw_front (wk := wk)) hD
  have hF := gx_freeW hD2 hS hA
  have hPc := gx_Pr hP2
  have hDc := gx_Dr hD2
  have hKc := gx_Ks hK (k_front (kt := kt) (ko := ko) (ts := ts))
  rcases s_cold (N := N) (p1 := p1) (xn := xn) (xtime := xtime) (xf := xf) (qcode := qcode) (qn := qn) (qtime := qtime) (qV := qV) (qM := qM) (qvol := qvol) (qh := qh) (qamb := qamb) (qab := qab) (qbe := qbe) (qrf := qrf) (qrt := qrt) (qrh := qrh) (qrs := qrs) (qrl := qrl) (qru := qru) (qon := qon) (qdr := qdr) (qdc := qdc) (qdn := qdn) (qdh := qdh) (qgi := qgi) (qlo := qlo) (qom := qom) (hI.2.2.2.2.1) with ⟨e1, e2, h1, h2⟩ | ⟨e1, z9, e2⟩
  · have hres : fn_law_cold N p1 xn xcold xtime xf of = some (0, p1, vp_updL of 0 qcold.toInt64) := by
      unfold fn_law_cold
      rw [e1]
      simp only [gx_inr, Option.bind_some, ib0, n00, ↓reduceIte]
    refine va_calli (vx_runSW (As := [.ref h0, .int p1, .ref o1]) (rest := []) ⟨hx, hb, hml, hown, hts⟩ (c_law_cold N l dC dI h0 ta o1 kt ko (ts.flatMap twc) H.size xn xcold xtime xf of h0 p1 o1 _ hres) (vx_cwSW 3 hts (gx_gSL mw_293 mw_291 mw_292 mw_23) rfl rfl rfl (by decide +kernel) ⟨Nat.le_of_ble_eq_true rfl, Nat.le_of_ble_eq_true rfl⟩) ⟨fun a U g mk q => by obtain ⟨q0, q1, qP, qK, qD, qE⟩ := q; exact ⟨q0, q1, qP, va_K.moved (u := U) (U := U.calling g mk a) (Vm.Alike.refl U.vm) qK, qD, qE.calls⟩, fun U hU hW => ⟨rfl, by rw [hU], by rw [hU]; exact hPc, va_K.moved hW.alike hKc, hDc.weaken (fun _ _ _ _ => trivial), hE.warm hW⟩⟩ rfl rfl hls rfl (lv_room (Nat.le_of_ble_eq_true rfl)) d_law_188 ⟨by rw [rc1]; omega, by rw [rs1]; omega⟩) hS (fun q _ h => hF q h) hF (fun r u9 t9 H1 locs1 hht hvm hw hB hz1 hk1 hS1 => ?_)
    obtain ⟨hP1, hK1, hD1⟩ := hB
    rw [hht] at hP1
    obtain ⟨hP3, hD3⟩ := gx_keepW hP2 hD2 hk1 hF hP1 hD1
    refine W.widen (k := cells + 10) (n := slots + 200) (by omega) (by omega) ?_
    rw [hw]
    exact kk 0 (vp_updL of 0 qcold.toInt64) xn p1 xtime xf ts n T Pf (qcold, 0, p1) H1 locs1 e2 rfl (fun _ => by simp only [vp_updL, ↓reduceIte]) (hI.cold h1 h2) ⟨gx_Pp (cw_front (wk := wk)).symm hP3, gx_Dp (cw_front (wk := wk)).symm hD3, hK, hS1⟩
  · have hres : fn_law_cold_t N p1 xn xcold xtime xf of = some 1 := by
      unfold fn_law_cold_t
      rw [e1]
      rfl
    refine va_calli (vx_runSW (As := [.ref h0, .int p1, .ref o1]) (rest := []) ⟨hx, hb, hml, hown, hts⟩ (c_law_cold_t N l hlt dC dI h0 ta o1 kt ko (ts.flatMap twc) H.size xn xcold xtime xf of h0 p1 o1 _ hres) (vx_cwSW 3 hts (gx_gSL mw_293 mw_291 mw_292 mw_23) rfl rfl rfl (by decide +kernel) ⟨Nat.le_of_ble_eq_true rfl, Nat.le_of_ble_eq_true rfl⟩) ⟨fun a U g mk q => by obtain ⟨q0, q1, qP, qK, qD, qE, qX, qN⟩ := q; exact ⟨q0, q1, qP, va_K.moved (u := U) (U := U.calling g mk a) (Vm.Alike.refl U.vm) qK, qD, qE.calls, qX.calls, va_Nc.moved (u := U) (U := U.calling g mk a) (Vm.Alike.refl U.vm) qN⟩, fun U hU hW => ⟨rfl, by rw [hU], by rw [hU]; exact hPc, va_K.moved hW.alike hKc, hDc.weaken (fun _ _ _ _ => trivial), hE.warm hW, hXx.pass hS hU hW hF, va_Nc.moved hW.alike hNc⟩⟩ rfl rfl hls rfl (lv_room (Nat.le_of_ble_eq_true rfl)) d_law_188 ⟨by rw [rc1]; omega, by rw [rs1]; omega⟩) hS (fun q _ h => hF q h) hF (fun r u9 t9 H1 locs1 hht hvm hw hB hz1 hk1 hS1 => ?_)
    obtain ⟨hP1, hK1, hD1⟩ := hB
    rw [hht] at hP1
    obtain ⟨hP3, hD3⟩ := gx_keepW hP2 hD2 hk1 hF hP1 hD1
    refine W.widen (k := cells + 10) (n := slots + 200) (by omega) (by omega) ?_
    rw [hw]
    exact kk 1 of xn xcold xtime xf ts n T Pf (z9, 1, qcold) H1 locs1 e2 rfl (fun h => absurd h (by decide)) hI.same ⟨gx_Pp (cw_front (wk := wk)).symm hP3, gx_Dp (cw_front (wk := wk)).symm hD3, hK, hS1⟩
end LM
