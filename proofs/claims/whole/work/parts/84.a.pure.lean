theorem two_le {f : Nat → Nat} {t o : Nat} (ht : t < 4) (ho : o < 4) (h : t ≠ o) : f t + f o ≤ f 0 + f 1 + f 2 + f 3 := by
  rcases (show t = 0 ∨ t = 1 ∨ t = 2 ∨ t = 3 by omega) with e | e | e | e <;> subst e <;> rcases (show o = 0 ∨ o = 1 ∨ o = 2 ∨ o = 3 by omega) with e' | e' | e' | e' <;> subst e' <;> first | exact absurd rfl h | omega
theorem INV.gen {c n T : Nat} {Pf Pf' : Nat → Nat} {xn xcold xtime : Int32} {xf : Nat → Option Nat} {ts ts' : List (ADt × TKt)} {qn qcold qtime : Int32} {qV : Nat → Int32} {qM : Nat → Int32} {qvol : Nat → Int64} {qh : Nat → Int64} {qamb : Nat → Int32} {qab : Nat → Int32} {qbe : Nat → Int32} {qrf : Nat → Int32} {qrt : Nat → Int32} {qrh : Nat → Int32} {qrs : Nat → Int32} {qrl : Nat → Int32} {qru : Nat → Int32} {qon : Nat → Int32} {qdr : Nat → Int32} {qdc : Nat → Int32} {qdn : Nat → Int64} {qdh : Nat → Int64} {qgi : Nat → Int64} {qlo : Nat → Int64} {qom : Nat → Int32} {qV' : Nat → Int32} {qM' : Nat → Int32} {qvol' : Nat → Int64} {qh' : Nat → Int64} {qamb' : Nat → Int32} {qab' : Nat → Int32} {qbe' : Nat → Int32} {qrf' : Nat → Int32} {qrt' : Nat → Int32} {qrh' : Nat → Int32} {qrs' : Nat → Int32} {qrl' : Nat → Int32} {qru' : Nat → Int32} {qon' : Nat → Int32} {qdr' : Nat → Int32} {qdc' : Nat → Int32} {qdn' : Nat → Int64} {qdh' : Nat → Int64} {qgi' : Nat → Int64} {qlo' : Nat → Int64} {qom' : Nat → Int32} (hI : INV c n T Pf xn xcold xtime xf ts qn qcold qtime qV qM qvol qh qamb qab qbe qrf qrt qrh qrs qrl qru qon qdr qdc qdn qdh qgi qlo qom) (hl : ts'.length = ts.length) (ha : ∀ j : Nat, (ts'[j]?).map (fun z => z.1.1) = (ts[j]?).map (fun z => z.1.1)) (hT : ∀ (j : Nat) z, ts'[j]? = some z → TRt j (Pf' j) z.2 qV' qM' qvol' qh' qamb' qab' qbe' qrf' qrt' qrh' qrs' qrl' qru' qon' qdr' qdc' qdn' qdh' qgi' qlo' qom') (hb : ∀ j, n ≤ j → j < 4 → QBl j qV qM qvol qh qamb qab qbe qrf qrt qrh qrs qrl qru qon qdr qdc qdn qdh qgi qlo qom → QBl j qV' qM' qvol' qh' qamb' qab' qbe' qrf' qrt' qrh' qrs' qrl' qru' qon' qdr' qdc' qdn' qdh' qgi' qlo' qom') (hz : ∀ j, n ≤ j → Pf' j = 0) (hs : Pf' 0 + Pf' 1 + Pf' 2 + Pf' 3 ≤ Pf 0 + Pf 1 + Pf 2 + Pf 3 + 3000000090) : INV (c + 1) n T Pf' xn xcold xtime xf ts' qn qcold qtime qV' qM' qvol' qh' qamb' qab' qbe' qrf' qrt' qrh' qrs' qrl' qru' qon' qdr' qdc' qdn' qdh' qgi' qlo' qom' := by
  obtain ⟨i1, i2, i3', i4, i5, i6', i7, i8, i9, i10, i11, i12, i13, i14, i15⟩ := hI
  exact ⟨i1, by omega, i3', i4, i5, i6', i7, i8, i9, i10, fun j hj => (i11 j hj).trans (ha j).symm, hT, fun j h1 h2 => hb j h1 h2 (i13 j h1 h2), hz, by omega⟩
theorem TR.rows {j P : Nat} {dpar dheat rgiven llost : Int64} {full cnt rfrom rto rheat rsens rlow rhigh ron rmin lamb labv lbel tcnt : Int32} {vf mf pf : Nat → Int32} {hf : Nat → Int64} {qV qM : Nat → Int32} {qvol qh : Nat → Int64} {qamb qab qbe qrf qrt qrh qrs qrl qru qon qdr qdc : Nat → Int32} {qdn qdh qgi qlo : Nat → Int64} {qom : Nat → Int32} {qM' : Nat → Int32} {qvol' qh' : Nat → Int64} (hT : TR j P dpar dheat full cnt vf hf rfrom rto rheat rsens rlow rhigh ron rgiven rmin lamb labv lbel llost tcnt mf pf qV qM qvol qh qamb qab qbe qrf qrt qrh qrs qrl qru qon qdr qdc qdn qdh qgi qlo qom) (h : ∀ K : List Lay, K.length ≤ 64 → Mrow j qM qvol qh K → Mrow j qM' qvol' qh' K) : TR j P dpar dheat full cnt vf hf rfrom rto rheat rsens rlow rhigh ron rgiven rmin lamb labv lbel llost tcnt mf pf qV qM' qvol' qh' qamb qab qbe qrf qrt qrh qrs qrl qru qon qdr qdc qdn qdh qgi qlo qom := by
  obtain ⟨F, L, D, rh, f, u, sn, on, hG, hC, hQS, hQD, hM⟩ := hT
  exact ⟨F, L, D, rh, f, u, sn, on, hG, hC, hQS, hQD, h L (by have := hG.2.1.2.2.2.2.1; omega) hM⟩
theorem ix3 {α : Type} (A B C : List α) (x y : α) (j : Nat) : (A ++ x :: (B ++ y :: C))[j]? = if j < A.length then A[j]? else if j = A.length then some x else if j < A.length + 1 + B.length then B[j - A.length - 1]? else if j = A.length + 1 + B.length then some y else C[j - (A.length + 1 + B.length + 1)]? := by
  by_cases h1 : j < A.length
  · rw [if_pos h1, List.getElem?_append_left h1]
  · rw [if_neg h1, List.getElem?_append_right (by omega)]
    by_cases h2 : j = A.length
    · rw [if_pos h2, h2, Nat.sub_self, List.getElem?_cons_zero]
    · rw [if_neg h2, show j - A.length = (j - A.length - 1) + 1 by omega, List.getElem?_cons_succ]
      by_cases h3 : j < A.length + 1 + B.length
      · rw [if_pos h3, List.getElem?_append_left (by omega), show j - A.length - 1 + 1 - 1 = j - A.length - 1 by omega]
      · rw [if_neg h3, List.getElem?_append_right (by omega)]
        by_cases h4 : j = A.length + 1 + B.length
        · rw [if_pos h4, show j - A.length - 1 - B.length = 0 by omega, List.getElem?_cons_zero]
        · rw [if_neg h4, show j - A.length - 1 - B.length = (j - (A.length + 1 + B.length + 1)) + 1 by omega, List.getElem?_cons_succ]
theorem pm3 (A B C : List (ADt × TKt)) (x y : ADt × TKt) : ((A ++ x :: (B ++ y :: C)).flatMap twc).Perm (twc x ++ (twc y ++ (A ++ (B ++ C)).flatMap twc)) := by
  have p1 : (A ++ x :: (B ++ y :: C)).Perm (x :: y :: (A ++ (B ++ C))) := by
    refine List.perm_middle.trans (List.Perm.cons x ?_)
    have e : A ++ (B ++ y :: C) = (A ++ B) ++ y :: C := by simp
    have e2 : A ++ (B ++ C) = (A ++ B) ++ C := by simp
    rw [e, e2]
    exact List.perm_middle
  have p2 := p1.flatMap_right twc
  simp only [List.flatMap_cons] at p2
  exact p2
theorem pm3' (A B C : List (ADt × TKt)) (x y : ADt × TKt) : ((A ++ x :: (B ++ y :: C)).flatMap twc).Perm (twc y ++ (twc x ++ (A ++ (B ++ C)).flatMap twc)) := (pm3 A B C x y).trans (by
  rw [← List.append_assoc, ← List.append_assoc]
  exact List.Perm.append_right _ List.perm_append_comm)
theorem cw_two {o x ta : Nat × va_E} {wk F Z1 Z2 R : va_W} (h : F.Perm (Z1 ++ (Z2 ++ R))) : (wk ++ (o :: x :: ta :: F)).Perm (wk ++ (x :: ta :: (Z1 ++ (Z2 ++ (o :: R))))) := by
  refine List.Perm.append_left wk ?_
  refine ((List.Perm.swap x o _).trans ((List.Perm.swap ta o _).cons x)).trans (List.Perm.cons x (List.Perm.cons ta ?_))
  refine (List.Perm.cons o h).trans ?_
  have e1 : o :: (Z1 ++ (Z2 ++ R)) = o :: ((Z1 ++ Z2) ++ R) := by simp
  have e2 : Z1 ++ (Z2 ++ (o :: R)) = (Z1 ++ Z2) ++ (o :: R) := by simp
  rw [e1, e2]
  exact List.perm_middle.symm
theorem k_two {kt ko : ClassId} {ts : List (ADt × TKt)} {x y : ADt × TKt} (hx : x ∈ ts) (hy : y ∈ ts) : ∀ q ∈ (kt, FieldType.object R_Tank) :: (tty x ++ (tty y ++ [(ko, .long)])), q ∈ (ko, FieldType.long) :: cty kt ts := by
  intro q hq
  simp only [List.mem_cons, List.mem_append, List.not_mem_nil, or_false, cty, List.mem_flatMap] at hq ⊢
  rcases hq with h | h | h | h
  · exact Or.inr (Or.inl h)
  · exact Or.inr (Or.inr ⟨x, hx, h⟩)
  · exact Or.inr (Or.inr ⟨y, hy, h⟩)
  · exact Or.inl h
theorem cw_last {o x ta : Nat × va_E} {wk F : va_W} : (wk ++ (o :: x :: ta :: F)).Perm (wk ++ (x :: ta :: (F ++ [o]))) := by
  refine List.Perm.append_left wk ?_
  refine ((List.Perm.swap x o _).trans ((List.Perm.swap ta o _).cons x)).trans (List.Perm.cons x (List.Perm.cons ta ?_))
  exact (List.perm_append_singleton o F).symm
theorem k_all {kt ko : ClassId} {ts : List (ADt × TKt)} : ∀ q ∈ (kt, FieldType.object R_Tank) :: (ts.flatMap tty ++ [(ko, .long)]), q ∈ (ko, FieldType.long) :: cty kt ts := by
  intro q hq
  simp only [List.mem_cons, List.mem_append, List.not_mem_nil, or_false, cty] at hq ⊢
  rcases hq with h | h | h
  · exact Or.inr (Or.inl h)
  · exact Or.inr (Or.inr h)
  · exact Or.inl h
theorem mw_361 : (Cond.codeWith y_law_round b_law_round 6 (some .int) [(0, 11, 14, 13)]) ∈ gx_W := List.mem_filter.mpr ⟨List.mem_of_getElem? (i := 361) (by decide +kernel), by decide +kernel⟩
theorem mw_359 : (Cond.methodLink R_law 86 y_law_round) ∈ gx_W := List.mem_filter.mpr ⟨List.mem_of_getElem? (i := 359) (by decide +kernel), by decide +kernel⟩
theorem mw_360 : (Cond.static y_law_round) ∈ gx_W := List.mem_filter.mpr ⟨List.mem_of_getElem? (i := 360) (by decide +kernel), by decide +kernel⟩
theorem d_law_347 : decode code 347 = .ok (.invokestatic 86, 3) := by decide +kernel
section LM
variable {p : Program} {l : Launch} {e : Env} {s : State} {m : MethodId} {below : List Frame} {meth : Method} {c : Code} {b L : Nat} {xs : Nat → Int32} {dC : Nat → ClassId} {dI : Nat → Nat → Nat} {A : Nat → Prop} {Q : State → Prop} {H : Heap} {locs : List Loc} {cells slots : Nat} {ls : Array Slot} {wk : va_W} {o1 h0 ta : Nat} {ko kt : ClassId} {of : Nat → Int64} {ts : List (ADt × TKt)} {c0 n T N : Nat} {Pf : Nat → Nat} {xn xcold xtime : Int32} {xf : Nat → Option Nat} {qcode qn qcold qtime : Int32} {qV qM : Nat → Int32} {qvol qh : Nat → Int64} {qamb qab qbe qrf qrt qrh qrs qrl qru qon qdr qdc : Nat → Int32} {qdn qdh qgi qlo : Nat → Int64} {qom : Nat → Int32}
set_option maxHeartbeats 4000000 in
set_option maxRecDepth 100000 in
theorem M_round {p1 p2 p3 : Int32} (C0 : lw_At p s m meth c b L xs) (hX : LX l s A) (hN : 2000 ≤ N) (hls : ls.size = 8) (hcc : cells + 10 ≤ 601024) (hss : slots + 200 ≤ 7293034) (hc : c0 < 512) (hW : LWd dC dI A s H locs wk o1 ko of h0 ta kt xn xcold xtime xf ts) (hI : INV c0 n T Pf xn xcold xtime xf ts qn qcold qtime qV qM qvol qh qamb qab qbe qrf qrt qrh qrs qrl qru qon qdr qdc qdn qdh qgi qlo qom) (kk : ∀ (r : Int32) (of' : Nat → Int64) (xn' xcold' xtime' : Int32) (xf' : Nat → Option Nat) (ts' : List (ADt × TKt)) (n' T' : Nat) (Pf' : Nat → Nat) (res : Int64 × Int32 × (Nat → Int32) × (Nat → Int64) × (Nat → Int64)) (H1 : Heap) (locs1 : List Loc), fn_Mod_round N p1 p2 p3 qcode qn qcold qtime qV qM qvol qh qamb qab qbe qrf qrt qrh qrs qrl qru qon qdr qdc qdn qdh qgi qlo qom = some res → r = res.2.1 → (r = 0 → of' 0 = res.1) → INV (c0 + 1) n' T' Pf' xn' xcold' xtime' xf' ts' qn qcold qtime qV res.2.2.1 res.2.2.2.1 res.2.2.2.2 qamb qab qbe qrf qrt qrh qrs qrl qru qon qdr qdc qdn qdh qgi qlo qom → LWd dC dI A s H1 locs1 wk o1 ko of' h0 ta kt xn' xcold' xtime' xf' ts' → W p l e room_1 s m #[Value.ref b] below meth c H1 locs1 (cells + 10) (slots + 200) Q (F0 m 350 ls [.int r])) : W p l e room_1 s m #[Value.ref b] below meth c H locs cells slots Q (F0 m 347 ls [.ref o1, .int p3, .int p2, .int p1, .ref h0]) := by
  obtain ⟨hx, hb, hr, hml, hown, hts, -, -, -, -⟩ := C0
  obtain ⟨hlt, hE, hXx, hNc, hA⟩ := hX
  obtain ⟨hP, hD, hK, hS⟩ := hW
  have h4 := hI.1
  have hqn := hI.2.2.2.1
  by_cases hp : 0 ≤ p1 ∧ p1 < i3 n
  · by_cases hp2 : 0 ≤ p2 ∧ p2 < i3 n
    · obtain ⟨t, A1, B1, z, rfl, ht, -, hts1, hA1, hxf, hT, hPf⟩ := hI.tank hc hp.1 hp.2
      obtain ⟨o, A2, B2, z2, rfl, ho, -, hts2, hA2, hxf2, hT2, hPf2⟩ := hI.tank hc hp2.1 hp2.2
      by_cases hto : t = o
      · subst hto
        subst hts1
        obtain ⟨⟨tk, w0, a1, a2, r0, l0, t0, b1, b2, k1, k2, k3, k4⟩, dpar, dheat, full, cnt, vf, hf, rfrom, rto, rheat, rsens, rlow, rhigh, ron, rgiven, rmin, lamb, labv, lbel, llost, tcnt, mf, pf⟩ := z
        have hsel : xf (i3 t).toNatClampNeg = some tk := by rw [i3_nat (by omega)]; exact hxf
        have hP2 := gx_Pp (cw_split (wk := wk) A1 B1 ((tk, w0, a1, a2, r0, l0, t0, b1, b2, k1, k2, k3, k4), (dpar, dheat, full, cnt, vf, hf, rfrom, rto, rheat, rsens, rlow, rhigh, ron, rgiven, rmin, lamb, labv, lbel, llost, tcnt, mf, pf))) hP
        have hD2 := gx_Dp (cw_split (wk := wk) A1 B1 ((tk, w0, a1, a2, r0, l0, t0, b1, b2, k1, k2, k3, k4), (dpar, dheat, full, cnt, vf, hf, rfrom, rto, rheat, rsens, rlow, rhigh, ron, rgiven, rmin, lamb, labv, lbel, llost, tcnt, mf, pf))) hD
        have hF := gx_freeW hD2 hS hA
        have hPc := gx_Pr hP2
        have hDc := gx_Dr hD2
        have hKc := gx_Ks hK (k_split (kt := kt) (ko := ko) A1 B1 ((tk, w0, a1, a2, r0, l0, t0, b1, b2, k1, k2, k3, k4), (dpar, dheat, full, cnt, vf, hf, rfrom, rto, rheat, rsens, rlow, rhigh, ron, rgiven, rmin, lamb, labv, lbel, llost, tcnt, mf, pf)))
        have hres : fn_law_round_t_2 N (i3 t) (i3 t) p3 xn xcold xtime xf dpar dheat full cnt vf hf rfrom rto rheat rsens rlow rhigh ron rgiven rmin lamb labv lbel llost tcnt mf pf of = some 1 := by
          unfold fn_law_round_t_2 fn_TL_round_2
          rw [tn_ok (by omega) hxf]
          simp only [gx_then, Option.bind_some, ↓reduceIte, gx_inl]
        have e2 : ∃ z9, fn_Mod_round N (i3 t) (i3 t) p3 qcode qn qcold qtime qV qM qvol qh qamb qab qbe qrf qrt qrh qrs qrl qru qon qdr qdc qdn qdh qgi qlo qom = some (z9, 1, qM, qvol, qh) := by
          unfold fn_Mod_round
          rw [isT_ok hqn ht h4]
          simp only [Option.bind_some, z1, ↓reduceIte]
          exact ⟨_, rfl⟩
        obtain ⟨z9, e2⟩ := e2
        refine va_calli (vx_runSW (As := [.ref h0, .int (i3 t), .int (i3 t), .int p3, .ref o1]) (rest := []) ⟨hx, hb, hml, hown, hts⟩ (c_law_round_t_2 N l hlt dC dI h0 ta tk w0 a1 a2 r0 l0 t0 b1 b2 o1 kt k1 k2 k3 k4 ko ((A1 ++ B1).flatMap twc) H.size xn xcold xtime xf dpar dheat full cnt vf hf rfrom rto rheat rsens rlow rhigh ron rgiven rmin lamb labv lbel llost tcnt mf pf of h0 (i3 t) (i3 t) p3 o1 hsel hsel _ hres) (vx_cwSW 5 hts (gx_gSL mw_361 mw_359 mw_360 mw_23) rfl rfl rfl (by decide +kernel) ⟨Nat.le_of_ble_eq_true rfl, Nat.le_of_ble_eq_true rfl⟩) ⟨fun a U g mk q => by obtain ⟨q0, q1, qP, qK, qD, qE, qX, qN⟩ := q; exact ⟨q0, q1, qP, va_K.moved (u := U) (U := U.calling g mk a) (Vm.Alike.refl U.vm) qK, qD, qE.calls, qX.calls, va_Nc.moved (u := U) (U := U.calling g mk a) (Vm.Alike.refl U.vm) qN⟩, fun U hU hW => ⟨rfl, by rw [hU], by rw [hU]; exact hPc, va_K.moved hW.alike hKc, hDc.weaken (fun _ _ _ _ => trivial), hE.warm hW, hXx.pass hS hU hW hF, va_Nc.moved hW.alike hNc⟩⟩ rfl rfl hls rfl (lv_room (Nat.le_of_ble_eq_true rfl)) d_law_347 ⟨by rw [rc1]; omega, by rw [rs1]; omega⟩) hS (fun q _ h => hF q h) hF (fun r u9 t9 H1 locs1 hht hvm hw hB hz1 hk1 hS1 => ?_)
        obtain ⟨hP1, hK1, hD1⟩ := hB
        rw [hht] at hP1
        obtain ⟨hP3, hD3⟩ := gx_keepW hP2 hD2 hk1 hF hP1 hD1
        refine W.widen (k := cells + 10) (n := slots + 200) (by omega) (by omega) ?_
        rw [hw]
        exact kk 1 of xn xcold xtime xf (A1 ++ ((tk, w0, a1, a2, r0, l0, t0, b1, b2, k1, k2, k3, k4), (dpar, dheat, full, cnt, vf, hf, rfrom, rto, rheat, rsens, rlow, rhigh, ron, rgiven, rmin, lamb, labv, lbel, llost, tcnt, mf, pf)) :: B1) n T Pf (z9, 1, qM, qvol, qh) H1 locs1 e2 rfl (fun h => absurd h (by decide)) hI.same ⟨gx_Pp (cw_split (wk := wk) A1 B1 ((tk, w0, a1, a2, r0, l0, t0, b1, b2, k1, k2, k3, k4), (dpar, dheat, full, cnt, vf, hf, rfrom, rto, rheat, rsens, rlow, rhigh, ron, rgiven, rmin, lamb, labv, lbel, llost, tcnt, mf, pf))).symm hP3, gx_Dp (cw_split (wk := wk) A1 B1 ((tk, w0, a1, a2, r0, l0, t0, b1, b2, k1, k2, k3, k4), (dpar, dheat, full, cnt, vf, hf, rfrom, rto, rheat, rsens, rlow, rhigh, ron, rgiven, rmin, lamb, labv, lbel, llost, tcnt, mf, pf))).symm hD3, hK, hS1⟩
      · have hs3 : ∃ (F R : va_W) (mk : (ADt × TKt) → (ADt × TKt) → List (ADt × TKt)), mk z z2 = ts ∧ (∀ x y, ((mk x y).flatMap twc).Perm (twc x ++ (twc y ++ R))) ∧ (∀ x y, (mk x y).length = ts.length) ∧ (∀ x y, (mk x y)[t]? = some x ∧ (mk x y)[o]? = some y) ∧ (∀ x y x' y' (j : Nat), j ≠ t → j ≠ o → (mk x y)[j]? = (mk x' y')[j]?) ∧ (∀ x y, x ∈ mk x y ∧ y ∈ mk x y) ∧ ∀ x y x' y', tty x' = tty x → tty y' = tty y → cty kt (mk x' y') = cty kt (mk x y) := by
          have hg2 : ts[o]? = some z2 := by rw [hts2, ← hA2, List.getElem?_append_right (Nat.le_refl _), Nat.sub_self, List.getElem?_cons_zero]
          rcases Nat.lt_or_gt_of_ne hto with hlt' | hlt'
          · have hB : B1[o - t - 1]? = some z2 := by
              rw [hts1, List.getElem?_append_right (by omega), show o - A1.length = (o - t - 1) + 1 by omega, List.getElem?_cons_succ] at hg2
              exact hg2
            obtain ⟨B, C, hBC, hBl⟩ := at_split hB
            refine ⟨[], (A1 ++ (B ++ C)).flatMap twc, fun x y => A1 ++ x :: (B ++ y :: C), by rw [hts1, hBC], fun x y => pm3 A1 B C x y, fun x y => by rw [hts1, hBC]; simp, fun x y => ⟨?_, ?_⟩, fun x y x' y' j h1 h2 => ?_, fun x y => by simp, fun x y x' y' h1 h2 => by simp [cty, List.flatMap_append, List.flatMap_cons, h1, h2]⟩
            · rw [ix3, if_neg (by omega), if_pos (by omega)]
            · rw [ix3, if_neg (by omega), if_neg (by omega), if_neg (by omega), if_pos (by omega)]
            · rw [ix3, ix3]
              have d1 : ¬ j = A1.length := by omega
              have d2 : ¬ j = A1.length + 1 + B.length := by omega
              simp only [d1, d2, ↓reduceIte]
          · have hg1 : ts[t]? = some z := by rw [hts1, ← hA1, List.getElem?_append_right (Nat.le_refl _), Nat.sub_self, List.getElem?_cons_zero]
            have hB : B2[t - o - 1]? = some z := by
              rw [hts2, List.getElem?_append_right (by omega), show t - A2.length = (t - o - 1) + 1 by omega, List.getElem?_cons_succ] at hg1
              exact hg1
            obtain ⟨B, C, hBC, hBl⟩ := at_split hB
            refine ⟨[], (A2 ++ (B ++ C)).flatMap twc, fun x y => A2 ++ y :: (B ++ x :: C), by rw [hts2, hBC], fun x y => pm3' A2 B C y x, fun x y => by rw [hts2, hBC]; simp, fun x y => ⟨?_, ?_⟩, fun x y x' y' j h1 h2 => ?_, fun x y => by simp, fun x y x' y' h1 h2 => by simp [cty, List.flatMap_append, List.flatMap_cons, h1, h2]⟩
            · rw [ix3, if_neg (by omega), if_neg (by omega), if_neg (by omega), if_pos (by omega)]
            · rw [ix3, if_neg (by omega), if_pos (by omega)]
            · rw [ix3, ix3]
              have d1 : ¬ j = A2.length := by omega
              have d2 : ¬ j = A2.length + 1 + B.length := by omega
              simp only [d1, d2, ↓reduceIte]
        obtain ⟨-, R9, mk, hmk, hpm, hml9, hix, hoth, hmem, hcty⟩ := hs3
        clear hts1 hts2 hA1 hA2
        subst hmk
        obtain ⟨⟨tk, w0, a1, a2, r0, l0, t0, b1, b2, k1, k2, k3, k4⟩, dpar, dheat, full, cnt, vf, hf, rfrom, rto, rheat, rsens, rlow, rhigh, ron, rgiven, rmin, lamb, labv, lbel, llost, tcnt, mf, pf⟩ := z
        obtain ⟨⟨tk2, w02, a12, a22, r02, l02, t02, b12, b22, k12, k22, k32, k42⟩, dpar2, dheat2, full2, cnt2, vf2, hf2, rfrom2, rto2, rheat2, rsens2, rlow2, rhigh2, ron2, rgiven2, rmin2, lamb2, labv2, lbel2, llost2, tcnt2, mf2, pf2⟩ := z2
        have hsel : xf (i3 t).toNatClampNeg = some tk := by rw [i3_nat (by omega)]; exact hxf
        have hsel2 : xf (i3 o).toNatClampNeg = some tk2 := by rw [i3_nat (by omega)]; exact hxf2
        have hP2 := gx_Pp (cw_two (wk := wk) (hpm ((tk, w0, a1, a2, r0, l0, t0, b1, b2, k1, k2, k3, k4), (dpar, dheat, full, cnt, vf, hf, rfrom, rto, rheat, rsens, rlow, rhigh, ron, rgiven, rmin, lamb, labv, lbel, llost, tcnt, mf, pf)) ((tk2, w02, a12, a22, r02, l02, t02, b12, b22, k12, k22, k32, k42), (dpar2, dheat2, full2, cnt2, vf2, hf2, rfrom2, rto2, rheat2, rsens2, rlow2, rhigh2, ron2, rgiven2, rmin2, lamb2, labv2, lbel2, llost2, tcnt2, mf2, pf2)))) hP
        have hD2 := gx_Dp (cw_two (wk := wk) (hpm ((tk, w0, a1, a2, r0, l0, t0, b1, b2, k1, k2, k3, k4), (dpar, dheat, full, cnt, vf, hf, rfrom, rto, rheat, rsens, rlow, rhigh, ron, rgiven, rmin, lamb, labv, lbel, llost, tcnt, mf, pf)) ((tk2, w02, a12, a22, r02, l02, t02, b12, b22, k12, k22, k32, k42), (dpar2, dheat2, full2, cnt2, vf2, hf2, rfrom2, rto2, rheat2, rsens2, rlow2, rhigh2, ron2, rgiven2, rmin2, lamb2, labv2, lbel2, llost2, tcnt2, mf2, pf2)))) hD
        have hF := gx_freeW hD2 hS hA
        have hPc := gx_Pr hP2
        have hDc := gx_Dr hD2
        have hKc := gx_Ks hK (k_two (kt := kt) (ko := ko) (hmem ((tk, w0, a1, a2, r0, l0, t0, b1, b2, k1, k2, k3, k4), (dpar, dheat, full, cnt, vf, hf, rfrom, rto, rheat, rsens, rlow, rhigh, ron, rgiven, rmin, lamb, labv, lbel, llost, tcnt, mf, pf)) ((tk2, w02, a12, a22, r02, l02, t02, b12, b22, k12, k22, k32, k42), (dpar2, dheat2, full2, cnt2, vf2, hf2, rfrom2, rto2, rheat2, rsens2, rlow2, rhigh2, ron2, rgiven2, rmin2, lamb2, labv2, lbel2, llost2, tcnt2, mf2, pf2))).1 (hmem ((tk, w0, a1, a2, r0, l0, t0, b1, b2, k1, k2, k3, k4), (dpar, dheat, full, cnt, vf, hf, rfrom, rto, rheat, rsens, rlow, rhigh, ron, rgiven, rmin, lamb, labv, lbel, llost, tcnt, mf, pf)) ((tk2, w02, a12, a22, r02, l02, t02, b12, b22, k12, k22, k32, k42), (dpar2, dheat2, full2, cnt2, vf2, hf2, rfrom2, rto2, rheat2, rsens2, rlow2, rhigh2, ron2, rgiven2, rmin2, lamb2, labv2, lbel2, llost2, tcnt2, mf2, pf2))).2)
        have hPP : Pf t + Pf o ≤ 3000000000000 := by
          have h1 := two_le (f := Pf) (show t < 4 by omega) (show o < 4 by omega) hto
          have h2 := hI.2.2.2.2.2.2.2.2.2.2.2.2.2.2
          have h3 := hI.2.2.2.2.2.2.2.2.2.1
          omega
        rcases s_round (N := N) (p3 := p3) (tk := tk) (tk2 := tk2) (xn := xn) (xcold := xcold) (xtime := xtime) (qcode := qcode) (qcold := qcold) (qtime := qtime) (by omega) h4 ht ho hto hqn hxf hxf2 hT hT2 hPP with ⟨a, c1', v1', h1', c2', v2', h2', qM', qvol', qh', P', P2', e1, e2, hPs, hT', hT2', hoR⟩ | ⟨e1, z9, e2⟩
        · have hres : fn_law_round N (i3 t) (i3 o) p3 xn xcold xtime xf dpar dheat full cnt vf hf rfrom rto rheat rsens rlow rhigh ron rgiven rmin lamb labv lbel llost tcnt mf pf dpar2 dheat2 full2 cnt2 vf2 hf2 rfrom2 rto2 rheat2 rsens2 rlow2 rhigh2 ron2 rgiven2 rmin2 lamb2 labv2 lbel2 llost2 tcnt2 mf2 pf2 of = some (0, c1', v1', h1', c2', v2', h2', vp_updL of 0 a) := by
            unfold fn_law_round
            rw [e1]
            simp only [gx_inr, Option.bind_some, ib0, n00, ↓reduceIte]
          refine va_calli (vx_runSW (As := [.ref h0, .int (i3 t), .int (i3 o), .int p3, .ref o1]) (rest := []) ⟨hx, hb, hml, hown, hts⟩ (c_law_round N l dC dI h0 ta tk w0 a1 a2 r0 l0 t0 b1 b2 tk2 w02 a12 a22 r02 l02 t02 b12 b22 o1 kt k1 k2 k3 k4 k12 k22 k32 k42 ko R9 H.size xn xcold xtime xf dpar dheat full cnt vf hf rfrom rto rheat rsens rlow rhigh ron rgiven rmin lamb labv lbel llost tcnt mf pf dpar2 dheat2 full2 cnt2 vf2 hf2 rfrom2 rto2 rheat2 rsens2 rlow2 rhigh2 ron2 rgiven2 rmin2 lamb2 labv2 lbel2 llost2 tcnt2 mf2 pf2 of h0 (i3 t) (i3 o) p3 o1 hsel hsel2 _ hres) (vx_cwSW 5 hts (gx_gSL mw_361 mw_359 mw_360 mw_23) rfl rfl rfl (by decide +kernel) ⟨Nat.le_of_ble_eq_true rfl, Nat.le_of_ble_eq_true rfl⟩) ⟨fun a U g mk q => by obtain ⟨q0, q1, qP, qK, qD, qE⟩ := q; exact ⟨q0, q1, qP, va_K.moved (u := U) (U := U.calling g mk a) (Vm.Alike.refl U.vm) qK, qD, qE.calls⟩, fun U hU hW => ⟨rfl, by rw [hU], by rw [hU]; exact hPc, va_K.moved hW.alike hKc, hDc.weaken (fun _ _ _ _ => trivial), hE.warm hW⟩⟩ rfl rfl hls rfl (lv_room (Nat.le_of_ble_eq_true rfl)) d_law_347 ⟨by rw [rc1]; omega, by rw [rs1]; omega⟩) hS (fun q _ h => hF q h) hF (fun r u9 t9 H1 locs1 hht hvm hw hB hz1 hk1 hS1 => ?_)
          obtain ⟨hP1, hK1, hD1⟩ := hB
          rw [hht] at hP1
          obtain ⟨hP3, hD3⟩ := gx_keepW hP2 hD2 hk1 hF hP1 hD1
          refine W.widen (k := cells + 10) (n := slots + 200) (by omega) (by omega) ?_
          rw [hw]
          refine kk 0 (vp_updL of 0 a) xn xcold xtime xf (mk ((tk, w0, a1, a2, r0, l0, t0, b1, b2, k1, k2, k3, k4), (dpar, dheat, full, c1', v1', h1', rfrom, rto, rheat, rsens, rlow, rhigh, ron, rgiven, rmin, lamb, labv, lbel, llost, tcnt, mf, pf)) ((tk2, w02, a12, a22, r02, l02, t02, b12, b22, k12, k22, k32, k42), (dpar2, dheat2, full2, c2', v2', h2', rfrom2, rto2, rheat2, rsens2, rlow2, rhigh2, ron2, rgiven2, rmin2, lamb2, labv2, lbel2, llost2, tcnt2, mf2, pf2))) n T (fun j => if j = t then P' else if j = o then P2' else Pf j) (a, 0, qM', qvol', qh') H1 locs1 e2 rfl (fun _ => by simp only [vp_updL, ↓reduceIte]) (hI.gen ?_ ?_ ?_ (fun j _ _ h => h) ?_ ?_) ⟨gx_Pp (cw_two (wk := wk) (hpm ((tk, w0, a1, a2, r0, l0, t0, b1, b2, k1, k2, k3, k4), (dpar, dheat, full, c1', v1', h1', rfrom, rto, rheat, rsens, rlow, rhigh, ron, rgiven, rmin, lamb, labv, lbel, llost, tcnt, mf, pf)) ((tk2, w02, a12, a22, r02, l02, t02, b12, b22, k12, k22, k32, k42), (dpar2, dheat2, full2, c2', v2', h2', rfrom2, rto2, rheat2, rsens2, rlow2, rhigh2, ron2, rgiven2, rmin2, lamb2, labv2, lbel2, llost2, tcnt2, mf2, pf2)))).symm hP3, gx_Dp (cw_two (wk := wk) (hpm ((tk, w0, a1, a2, r0, l0, t0, b1, b2, k1, k2, k3, k4), (dpar, dheat, full, c1', v1', h1', rfrom, rto, rheat, rsens, rlow, rhigh, ron, rgiven, rmin, lamb, labv, lbel, llost, tcnt, mf, pf)) ((tk2, w02, a12, a22, r02, l02, t02, b12, b22, k12, k22, k32, k42), (dpar2, dheat2, full2, c2', v2', h2', rfrom2, rto2, rheat2, rsens2, rlow2, rhigh2, ron2, rgiven2, rmin2, lamb2, labv2, lbel2, llost2, tcnt2, mf2, pf2)))).symm hD3, ?_, hS1⟩
          · rw [hml9, hml9]
          · intro j
            by_cases j1 : j = t
            · rw [j1, (hix _ _).1, (hix _ _).1]; rfl
            · by_cases j2 : j = o
              · rw [j2, (hix _ _).2, (hix _ _).2]; rfl
              · rw [hoth _ _ _ _ j j1 j2]
          · intro j y hj
            by_cases j1 : j = t
            · subst j1
              rw [(hix _ _).1] at hj
              cases hj
              try dsimp only
              rw [if_pos rfl]
              exact hT'
            · by_cases j2 : j = o
              · subst j2
                rw [(hix _ _).2] at hj
                cases hj
                try dsimp only
                rw [if_neg j1, if_pos rfl]
                exact hT2'
              · try dsimp only
                rw [if_neg j1, if_neg j2]
                rw [hoth _ _ ((tk, w0, a1, a2, r0, l0, t0, b1, b2, k1, k2, k3, k4), (dpar, dheat, full, cnt, vf, hf, rfrom, rto, rheat, rsens, rlow, rhigh, ron, rgiven, rmin, lamb, labv, lbel, llost, tcnt, mf, pf)) ((tk2, w02, a12, a22, r02, l02, t02, b12, b22, k12, k22, k32, k42), (dpar2, dheat2, full2, cnt2, vf2, hf2, rfrom2, rto2, rheat2, rsens2, rlow2, rhigh2, ron2, rgiven2, rmin2, lamb2, labv2, lbel2, llost2, tcnt2, mf2, pf2)) j j1 j2] at hj
                have := hI.2.2.2.2.2.2.2.2.2.2.2.1 j y hj
                obtain ⟨⟨tk3, w03, a13, a23, r03, l03, t03, b13, b23, k13, k23, k33, k43⟩, dpar3, dheat3, full3, cnt3, vf3, hf3, rfrom3, rto3, rheat3, rsens3, rlow3, rhigh3, ron3, rgiven3, rmin3, lamb3, labv3, lbel3, llost3, tcnt3, mf3, pf3⟩ := y
                exact TR.rows this (fun K hK hR => hoR j K j1 j2 hK hR)
          · intro j hj
            try dsimp only
            rw [if_neg (show ¬ j = t by omega), if_neg (show ¬ j = o by omega)]
            exact hI.2.2.2.2.2.2.2.2.2.2.2.2.2.1 j hj
          · have q1 : t < 4 := by omega
            have q2 : o < 4 := by omega
            rcases (show t = 0 ∨ t = 1 ∨ t = 2 ∨ t = 3 by omega) with e | e | e | e <;> subst e <;> rcases (show o = 0 ∨ o = 1 ∨ o = 2 ∨ o = 3 by omega) with e' | e' | e' | e' <;> subst e' <;> first | exact absurd rfl hto | (simp only [↓reduceIte, Nat.reduceEqDiff, Nat.succ_ne_zero, Nat.zero_ne_one, Nat.one_ne_zero]; omega)
          · rw [hcty ((tk, w0, a1, a2, r0, l0, t0, b1, b2, k1, k2, k3, k4), (dpar, dheat, full, cnt, vf, hf, rfrom, rto, rheat, rsens, rlow, rhigh, ron, rgiven, rmin, lamb, labv, lbel, llost, tcnt, mf, pf)) ((tk2, w02, a12, a22, r02, l02, t02, b12, b22, k12, k22, k32, k42), (dpar2, dheat2, full2, cnt2, vf2, hf2, rfrom2, rto2, rheat2, rsens2, rlow2, rhigh2, ron2, rgiven2, rmin2, lamb2, labv2, lbel2, llost2, tcnt2, mf2, pf2)) ((tk, w0, a1, a2, r0, l0, t0, b1, b2, k1, k2, k3, k4), (dpar, dheat, full, c1', v1', h1', rfrom, rto, rheat, rsens, rlow, rhigh, ron, rgiven, rmin, lamb, labv, lbel, llost, tcnt, mf, pf)) ((tk2, w02, a12, a22, r02, l02, t02, b12, b22, k12, k22, k32, k42), (dpar2, dheat2, full2, c2', v2', h2', rfrom2, rto2, rheat2, rsens2, rlow2, rhigh2, ron2, rgiven2, rmin2, lamb2, labv2, lbel2, llost2, tcnt2, mf2, pf2)) rfl rfl]
            exact hK
        · have hres : fn_law_round_t N (i3 t) (i3 o) p3 xn xcold xtime xf dpar dheat full cnt vf hf rfrom rto rheat rsens rlow rhigh ron rgiven rmin lamb labv lbel llost tcnt mf pf dpar2 dheat2 full2 cnt2 vf2 hf2 rfrom2 rto2 rheat2 rsens2 rlow2 rhigh2 ron2 rgiven2 rmin2 lamb2 labv2 lbel2 llost2 tcnt2 mf2 pf2 of = some 1 := by
            unfold fn_law_round_t
            rw [e1]
            rfl
          refine va_calli (vx_runSW (As := [.ref h0, .int (i3 t), .int (i3 o), .int p3, .ref o1]) (rest := []) ⟨hx, hb, hml, hown, hts⟩ (c_law_round_t N l hlt dC dI h0 ta tk w0 a1 a2 r0 l0 t0 b1 b2 tk2 w02 a12 a22 r02 l02 t02 b12 b22 o1 kt k1 k2 k3 k4 k12 k22 k32 k42 ko R9 H.size xn xcold xtime xf dpar dheat full cnt vf hf rfrom rto rheat rsens rlow rhigh ron rgiven rmin lamb labv lbel llost tcnt mf pf dpar2 dheat2 full2 cnt2 vf2 hf2 rfrom2 rto2 rheat2 rsens2 rlow2 rhigh2 ron2 rgiven2 rmin2 lamb2 labv2 lbel2 llost2 tcnt2 mf2 pf2 of h0 (i3 t) (i3 o) p3 o1 hsel hsel2 _ hres) (vx_cwSW 5 hts (gx_gSL mw_361 mw_359 mw_360 mw_23) rfl rfl rfl (by decide +kernel) ⟨Nat.le_of_ble_eq_true rfl, Nat.le_of_ble_eq_true rfl⟩) ⟨fun a U g mk q => by obtain ⟨q0, q1, qP, qK, qD, qE, qX, qN⟩ := q; exact ⟨q0, q1, qP, va_K.moved (u := U) (U := U.calling g mk a) (Vm.Alike.refl U.vm) qK, qD, qE.calls, qX.calls, va_Nc.moved (u := U) (U := U.calling g mk a) (Vm.Alike.refl U.vm) qN⟩, fun U hU hW => ⟨rfl, by rw [hU], by rw [hU]; exact hPc, va_K.moved hW.alike hKc, hDc.weaken (fun _ _ _ _ => trivial), hE.warm hW, hXx.pass hS hU hW hF, va_Nc.moved hW.alike hNc⟩⟩ rfl rfl hls rfl (lv_room (Nat.le_of_ble_eq_true rfl)) d_law_347 ⟨by rw [rc1]; omega, by rw [rs1]; omega⟩) hS (fun q _ h => hF q h) hF (fun r u9 t9 H1 locs1 hht hvm hw hB hz1 hk1 hS1 => ?_)
          obtain ⟨hP1, hK1, hD1⟩ := hB
          rw [hht] at hP1
          obtain ⟨hP3, hD3⟩ := gx_keepW hP2 hD2 hk1 hF hP1 hD1
          refine W.widen (k := cells + 10) (n := slots + 200) (by omega) (by omega) ?_
          rw [hw]
          exact kk 1 of xn xcold xtime xf (mk ((tk, w0, a1, a2, r0, l0, t0, b1, b2, k1, k2, k3, k4), (dpar, dheat, full, cnt, vf, hf, rfrom, rto, rheat, rsens, rlow, rhigh, ron, rgiven, rmin, lamb, labv, lbel, llost, tcnt, mf, pf)) ((tk2, w02, a12, a22, r02, l02, t02, b12, b22, k12, k22, k32, k42), (dpar2, dheat2, full2, cnt2, vf2, hf2, rfrom2, rto2, rheat2, rsens2, rlow2, rhigh2, ron2, rgiven2, rmin2, lamb2, labv2, lbel2, llost2, tcnt2, mf2, pf2))) n T Pf (z9, 1, qM, qvol, qh) H1 locs1 e2 rfl (fun h => absurd h (by decide)) hI.same ⟨gx_Pp (cw_two (wk := wk) (hpm ((tk, w0, a1, a2, r0, l0, t0, b1, b2, k1, k2, k3, k4), (dpar, dheat, full, cnt, vf, hf, rfrom, rto, rheat, rsens, rlow, rhigh, ron, rgiven, rmin, lamb, labv, lbel, llost, tcnt, mf, pf)) ((tk2, w02, a12, a22, r02, l02, t02, b12, b22, k12, k22, k32, k42), (dpar2, dheat2, full2, cnt2, vf2, hf2, rfrom2, rto2, rheat2, rsens2, rlow2, rhigh2, ron2, rgiven2, rmin2, lamb2, labv2, lbel2, llost2, tcnt2, mf2, pf2)))).symm hP3, gx_Dp (cw_two (wk := wk) (hpm ((tk, w0, a1, a2, r0, l0, t0, b1, b2, k1, k2, k3, k4), (dpar, dheat, full, cnt, vf, hf, rfrom, rto, rheat, rsens, rlow, rhigh, ron, rgiven, rmin, lamb, labv, lbel, llost, tcnt, mf, pf)) ((tk2, w02, a12, a22, r02, l02, t02, b12, b22, k12, k22, k32, k42), (dpar2, dheat2, full2, cnt2, vf2, hf2, rfrom2, rto2, rheat2, rsens2, rlow2, rhigh2, ron2, rgiven2, rmin2, lamb2, labv2, lbel2, llost2, tcnt2, mf2, pf2)))).symm hD3, hK, hS1⟩
    · obtain ⟨t, A1, B1, z, rfl, ht, -, rfl, hA1, hxf, hT, hPf⟩ := hI.tank hc hp.1 hp.2
      obtain ⟨⟨tk, w0, a1, a2, r0, l0, t0, b1, b2, k1, k2, k3, k4⟩, dpar, dheat, full, cnt, vf, hf, rfrom, rto, rheat, rsens, rlow, rhigh, ron, rgiven, rmin, lamb, labv, lbel, llost, tcnt, mf, pf⟩ := z
      have hsel : xf (i3 t).toNatClampNeg = some tk := by rw [i3_nat (by omega)]; exact hxf
      have hP2 := gx_Pp (cw_split (wk := wk) A1 B1 ((tk, w0, a1, a2, r0, l0, t0, b1, b2, k1, k2, k3, k4), (dpar, dheat, full, cnt, vf, hf, rfrom, rto, rheat, rsens, rlow, rhigh, ron, rgiven, rmin, lamb, labv, lbel, llost, tcnt, mf, pf))) hP
      have hD2 := gx_Dp (cw_split (wk := wk) A1 B1 ((tk, w0, a1, a2, r0, l0, t0, b1, b2, k1, k2, k3, k4), (dpar, dheat, full, cnt, vf, hf, rfrom, rto, rheat, rsens, rlow, rhigh, ron, rgiven, rmin, lamb, labv, lbel, llost, tcnt, mf, pf))) hD
      have hF := gx_freeW hD2 hS hA
      have hPc := gx_Pr hP2
      have hDc := gx_Dr hD2
      have hKc := gx_Ks hK (k_split (kt := kt) (ko := ko) A1 B1 ((tk, w0, a1, a2, r0, l0, t0, b1, b2, k1, k2, k3, k4), (dpar, dheat, full, cnt, vf, hf, rfrom, rto, rheat, rsens, rlow, rhigh, ron, rgiven, rmin, lamb, labv, lbel, llost, tcnt, mf, pf)))
      have hres : fn_law_round_t_1 N (i3 t) p2 p3 xn xcold xtime xf dpar dheat full cnt vf hf rfrom rto rheat rsens rlow rhigh ron rgiven rmin lamb labv lbel llost tcnt mf pf of = some 1 := by
        unfold fn_law_round_t_1 fn_TL_round_1
        rw [tn_ok (by omega) hxf, tn_no hI.none hp2 h4]
        rfl
      have e2 : ∃ z9, fn_Mod_round N (i3 t) p2 p3 qcode qn qcold qtime qV qM qvol qh qamb qab qbe qrf qrt qrh qrs qrl qru qon qdr qdc qdn qdh qgi qlo qom = some (z9, 1, qM, qvol, qh) := by
        unfold fn_Mod_round
        rw [isT_ok hqn ht h4, isT_no hqn hp2 h4]
        exact ⟨_, rfl⟩
      obtain ⟨z9, e2⟩ := e2
      refine va_calli (vx_runSW (As := [.ref h0, .int (i3 t), .int p2, .int p3, .ref o1]) (rest := []) ⟨hx, hb, hml, hown, hts⟩ (c_law_round_t_1 N l hlt dC dI h0 ta tk w0 a1 a2 r0 l0 t0 b1 b2 o1 kt k1 k2 k3 k4 ko ((A1 ++ B1).flatMap twc) H.size xn xcold xtime xf dpar dheat full cnt vf hf rfrom rto rheat rsens rlow rhigh ron rgiven rmin lamb labv lbel llost tcnt mf pf of h0 (i3 t) p2 p3 o1 hsel _ hres) (vx_cwSW 5 hts (gx_gSL mw_361 mw_359 mw_360 mw_23) rfl rfl rfl (by decide +kernel) ⟨Nat.le_of_ble_eq_true rfl, Nat.le_of_ble_eq_true rfl⟩) ⟨fun a U g mk q => by obtain ⟨q0, q1, qP, qK, qD, qE, qX, qN⟩ := q; exact ⟨q0, q1, qP, va_K.moved (u := U) (U := U.calling g mk a) (Vm.Alike.refl U.vm) qK, qD, qE.calls, qX.calls, va_Nc.moved (u := U) (U := U.calling g mk a) (Vm.Alike.refl U.vm) qN⟩, fun U hU hW => ⟨rfl, by rw [hU], by rw [hU]; exact hPc, va_K.moved hW.alike hKc, hDc.weaken (fun _ _ _ _ => trivial), hE.warm hW, hXx.pass hS hU hW hF, va_Nc.moved hW.alike hNc⟩⟩ rfl rfl hls rfl (lv_room (Nat.le_of_ble_eq_true rfl)) d_law_347 ⟨by rw [rc1]; omega, by rw [rs1]; omega⟩) hS (fun q _ h => hF q h) hF (fun r u9 t9 H1 locs1 hht hvm hw hB hz1 hk1 hS1 => ?_)
      obtain ⟨hP1, hK1, hD1⟩ := hB
      rw [hht] at hP1
      obtain ⟨hP3, hD3⟩ := gx_keepW hP2 hD2 hk1 hF hP1 hD1
      refine W.widen (k := cells + 10) (n := slots + 200) (by omega) (by omega) ?_
      rw [hw]
      exact kk 1 of xn xcold xtime xf (A1 ++ ((tk, w0, a1, a2, r0, l0, t0, b1, b2, k1, k2, k3, k4), (dpar, dheat, full, cnt, vf, hf, rfrom, rto, rheat, rsens, rlow, rhigh, ron, rgiven, rmin, lamb, labv, lbel, llost, tcnt, mf, pf)) :: B1) n T Pf (z9, 1, qM, qvol, qh) H1 locs1 e2 rfl (fun h => absurd h (by decide)) hI.same ⟨gx_Pp (cw_split (wk := wk) A1 B1 ((tk, w0, a1, a2, r0, l0, t0, b1, b2, k1, k2, k3, k4), (dpar, dheat, full, cnt, vf, hf, rfrom, rto, rheat, rsens, rlow, rhigh, ron, rgiven, rmin, lamb, labv, lbel, llost, tcnt, mf, pf))).symm hP3, gx_Dp (cw_split (wk := wk) A1 B1 ((tk, w0, a1, a2, r0, l0, t0, b1, b2, k1, k2, k3, k4), (dpar, dheat, full, cnt, vf, hf, rfrom, rto, rheat, rsens, rlow, rhigh, ron, rgiven, rmin, lamb, labv, lbel, llost, tcnt, mf, pf))).symm hD3, hK, hS1⟩
  · have hP2 := gx_Pp (cw_front (wk := wk)) hP
    have hD2 := gx_Dp (cw_front (wk := wk)) hD
    have hF := gx_freeW hD2 hS hA
    have hPc := gx_Pr hP2
    have hDc := gx_Dr hD2
    have hKc := gx_Ks hK (k_front (kt := kt) (ko := ko) (ts := ts))
    have hres : fn_law_round_t_0 N p1 p2 p3 xn xcold xtime xf of = some 1 := by
      unfold fn_law_round_t_0 fn_TL_round_0
      rw [tn_no hI.none hp h4]
      rfl
    have e2 : ∃ z9, fn_Mod_round N p1 p2 p3 qcode qn qcold qtime qV qM qvol qh qamb qab qbe qrf qrt qrh qrs qrl qru qon qdr qdc qdn qdh qgi qlo qom = some (z9, 1, qM, qvol, qh) := by
      unfold fn_Mod_round
      rw [isT_no hqn hp h4]
      exact ⟨_, rfl⟩
    obtain ⟨z9, e2⟩ := e2
    refine va_calli (vx_runSW (As := [.ref h0, .int p1, .int p2, .int p3, .ref o1]) (rest := []) ⟨hx, hb, hml, hown, hts⟩ (c_law_round_t_0 N l hlt dC dI h0 ta o1 kt ko (ts.flatMap twc) H.size xn xcold xtime xf of h0 p1 p2 p3 o1 _ hres) (vx_cwSW 5 hts (gx_gSL mw_361 mw_359 mw_360 mw_23) rfl rfl rfl (by decide +kernel) ⟨Nat.le_of_ble_eq_true rfl, Nat.le_of_ble_eq_true rfl⟩) ⟨fun a U g mk q => by obtain ⟨q0, q1, qP, qK, qD, qE, qX, qN⟩ := q; exact ⟨q0, q1, qP, va_K.moved (u := U) (U := U.calling g mk a) (Vm.Alike.refl U.vm) qK, qD, qE.calls, qX.calls, va_Nc.moved (u := U) (U := U.calling g mk a) (Vm.Alike.refl U.vm) qN⟩, fun U hU hW => ⟨rfl, by rw [hU], by rw [hU]; exact hPc, va_K.moved hW.alike hKc, hDc.weaken (fun _ _ _ _ => trivial), hE.warm hW, hXx.pass hS hU hW hF, va_Nc.moved hW.alike hNc⟩⟩ rfl rfl hls rfl (lv_room (Nat.le_of_ble_eq_true rfl)) d_law_347 ⟨by rw [rc1]; omega, by rw [rs1]; omega⟩) hS (fun q _ h => hF q h) hF (fun r u9 t9 H1 locs1 hht hvm hw hB hz1 hk1 hS1 => ?_)
    obtain ⟨hP1, hK1, hD1⟩ := hB
    rw [hht] at hP1
    obtain ⟨hP3, hD3⟩ := gx_keepW hP2 hD2 hk1 hF hP1 hD1
    refine W.widen (k := cells + 10) (n := slots + 200) (by omega) (by omega) ?_
    rw [hw]
    exact kk 1 of xn xcold xtime xf ts n T Pf (z9, 1, qM, qvol, qh) H1 locs1 e2 rfl (fun h => absurd h (by decide)) hI.same ⟨gx_Pp (cw_front (wk := wk)).symm hP3, gx_Dp (cw_front (wk := wk)).symm hD3, hK, hS1⟩
end LM
