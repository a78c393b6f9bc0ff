section PM
variable {N : Nat} {qcode qn qcold qtime : Int32} {qV : Nat → Int32} {qamb qab qbe qrf qrt qrh qrs qrl qru qon qdr qdc : Nat → Int32} {qdn qdh qgi qlo : Nat → Int64} {qom : Nat → Int32}
theorem m_heatLoop {t f u : Nat} {q : Int64} {qM : Nat → Int32} {qvol : Nat → Int64} (ht : t < 4) (hfu : f < u) (hu : u ≤ 100000) : ∀ (C : List Lay) (k n fuel : Nat) (left : Int64) (qh : Nat → Int64), Rg i6 qvol qh (64 * t + k) C → n = k + C.length → n ≤ 60 → C.length < fuel → ∃ m qh', gx_fx (st_Mod_heatLayers N qcode qn qcold qtime qV qamb qab qbe qrf qrt qrh qrs qrl qru qon qdr qdc qdn qdh qgi qlo qom) fuel (i3 t, i3 f, i3 u, q, i3 n, left, i3 k, qM, qvol, qh) = gx_fx (st_Mod_heatLayers N qcode qn qcold qtime qV qamb qab qbe qrf qrt qrh qrs qrl qru qon qdr qdc qdn qdh qgi qlo qom) (m + 1) (i3 t, i3 f, i3 u, q, i3 n, left - hps q (u - f) C, i3 n, qM, qvol, qh') ∧ Rg i6 qvol qh' (64 * t + k) (htd q (u - f) C) ∧ ∀ i, (i < 64 * t + k ∨ 64 * t + n ≤ i) → qh' i = qh i := by
  intro C
  induction C with
  | nil =>
    intro k n fuel left qh hR hn h60 hfl
    obtain ⟨m, rfl⟩ : ∃ m, fuel = m + 1 := ⟨fuel - 1, by omega⟩
    have : n = k := hn
    subst this
    exact ⟨m, qh, by simp only [hps, Int64.sub_zero], trivial, fun _ _ => rfl⟩
  | cons x C ih =>
    intro k n fuel left qh hR hn h60 hfl
    simp only [List.length_cons] at hn hfl
    obtain ⟨m, rfl⟩ : ∃ m, fuel = m + 1 := ⟨fuel - 1, by omega⟩
    obtain ⟨x1, x2, rC⟩ := hR
    obtain ⟨m', qh', e, h1, h2⟩ := ih (k + 1) n m (left - hpt q (u - f) x) (vp_updL qh (64 * t + k) (x.2 + hpt q (u - f) x)) (rC.move fun i hi => ⟨rfl, by simp only [vp_updL]; rw [if_neg (by omega)]; rfl⟩) (by omega) h60 (by omega)
    refine ⟨m', qh', ?_, ⟨x1, ?_, h1⟩, fun i hi => ?_⟩
    · rw [gx_fxS]
      simp only [st_Mod_heatLayers, bk_Mod_heatLayers_26]
      simp (disch := omega) only [lt1, lt64, x1, x2, i3_add, i3_sub, i3_mul, i3_nat, i3_inT, i3_leF, i3_long, ↓reduceIte]
      rw [down_eq (i6_pos (by omega) (by omega))]
      simp only [Option.bind_some]
      simp only [hpt] at e
      rw [e]
      simp only [hps, hpt, Int64.sub_sub]
    · rw [h2 _ (by omega)]
      simp only [vp_updL, ↓reduceIte]
    · rw [h2 i (by omega)]
      simp only [vp_updL]
      rw [if_neg (by omega)]
theorem m_heat {t f u : Nat} {q : Int64} {qM : Nat → Int32} {qvol qh : Nat → Int64} (ht : t < 4) (hN : 1000 ≤ N) (L : List Lay) (hft : f < u) (hu : u ≤ vol L) (hV : vol L ≤ 100000) (hP : Pv L) (hl : L.length ≤ 40) (hR : Mrow t qM qvol qh L) : ∃ qM' qvol' qh', fn_Mod_heatLayers N (i3 t) (i3 f) (i3 u) q qcode qn qcold qtime qV qM qvol qh qamb qab qbe qrf qrt qrh qrs qrl qru qon qdr qdc qdn qdh qgi qlo qom = some (qM', qvol', qh') ∧ Mrow t qM' qvol' qh' (heaL f u q L) ∧ Fr t qM qvol qh qM' qvol' qh' := by
  obtain ⟨a1, b1, c1, e1, r1, k1⟩ := m_cut (N := N) (qcode := qcode) (qn := qn) (qcold := qcold) (qtime := qtime) (qV := qV) (qamb := qamb) (qab := qab) (qbe := qbe) (qrf := qrf) (qrt := qrt) (qrh := qrh) (qrs := qrs) (qrl := qrl) (qru := qru) (qon := qon) (qdr := qdr) (qdc := qdc) (qdn := qdn) (qdh := qdh) (qgi := qgi) (qlo := qlo) (qom := qom) ht hN L f (by omega) hV hP (by omega) hR
  have hl1 := len_cut L f
  have hv1 := vol_cut L f (by omega)
  have hp1 := pv_cut L f hP
  obtain ⟨a2, b2, c2, e2, r2, k2⟩ := m_cut (N := N) (qcode := qcode) (qn := qn) (qcold := qcold) (qtime := qtime) (qV := qV) (qamb := qamb) (qab := qab) (qbe := qbe) (qrf := qrf) (qrt := qrt) (qrh := qrh) (qrs := qrs) (qrl := qrl) (qru := qru) (qon := qon) (qdr := qdr) (qdc := qdc) (qdn := qdn) (qdh := qdh) (qgi := qgi) (qlo := qlo) (qom := qom) ht hN ((cutL f L).1 ++ (cutL f L).2) u (by omega) (by rw [vol_app]; omega) (hp1.1.app hp1.2) (by rw [List.length_append]; omega) r1
  rw [cut_app _ _ u (by omega) hp1.1, hv1.1] at e2 r2
  simp only at e2 r2
  have hl2 := len_cut (cutL f L).2 (u - f)
  have hv2 := vol_cut (cutL f L).2 (u - f) (by omega)
  unfold fn_Mod_heatLayers heaL heaU
  rw [i3_long (by omega), i3_long (by omega), e1]
  simp only [Option.bind_some]
  rw [e2]
  simp only [Option.bind_some]
  generalize hA : (cutL f L).1 = A at *
  generalize hC : (cutL (u - f) (cutL f L).2).1 = C at *
  generalize hD : (cutL (u - f) (cutL f L).2).2 = D at *
  rw [List.length_append]
  have hM := r2.1
  obtain ⟨-, r2⟩ := r2
  rw [List.append_assoc] at r2
  obtain ⟨rA, rCD⟩ := (Rg.app _ _ _).mp r2
  obtain ⟨rC, rD⟩ := (Rg.app _ _ _).mp rCD
  obtain ⟨m, g3, e3, r3, h3⟩ := m_heatLoop (N := N) (qcode := qcode) (qn := qn) (qcold := qcold) (qtime := qtime) (qV := qV) (qamb := qamb) (qab := qab) (qbe := qbe) (qrf := qrf) (qrt := qrt) (qrh := qrh) (qrs := qrs) (qrl := qrl) (qru := qru) (qon := qon) (qdr := qdr) (qdc := qdc) (qdn := qdn) (qdh := qdh) (qgi := qgi) (qlo := qlo) (qom := qom) (q := q) (qM := a2) ht hft (by omega) C A.length (A.length + C.length) N q c2 rC rfl (by omega) (by omega)
  rw [e3, gx_fxS]
  simp only [st_Mod_heatLayers, bk_Mod_heatLayers_26]
  have hCne : C ≠ [] := by intro h; rw [h] at hv2; simp only [vol] at hv2; omega
  obtain ⟨C0, y, hCy⟩ : ∃ C0 y, C = C0 ++ [y] := ⟨C.dropLast, C.getLast hCne, (List.dropLast_concat_getLast hCne).symm⟩
  have hCl : C.length = C0.length + 1 := by rw [hCy]; simp
  have hmap : htd q (u - f) C = htd q (u - f) C0 ++ [(y.1, y.2 + hpt q (u - f) y)] := by rw [hCy]; simp [htd]
  generalize hle : q - hps q (u - f) C = left at *
  have r4 : Rg i6 b2 g3 (64 * t) (A ++ (htd q (u - f) C ++ D)) := by
    refine (Rg.app _ _ _).mpr ⟨rA.move fun i hi => ⟨rfl, h3 _ (by omega)⟩, (Rg.app _ _ _).mpr ⟨r3, ?_⟩⟩
    rw [htd_len]
    exact rD.move fun i hi => ⟨rfl, h3 _ (by omega)⟩
  rw [hmap] at r4
  have hget : g3 (64 * t + (A.length + C.length) - 1) = y.2 + hpt q (u - f) y := by
    rw [← List.append_assoc, ← List.append_assoc, List.append_assoc (A ++ _), List.singleton_append] at r4
    have := ((Rg.app _ _ _).mp r4).2.2.1
    rw [List.length_append, htd_len] at this
    rw [show 64 * t + (A.length + C.length) - 1 = 64 * t + (A.length + C0.length) by omega]
    exact this
  have r5 : Rg i6 b2 (vp_updL g3 (64 * t + (A.length + C.length) - 1) (y.2 + hpt q (u - f) y + left)) (64 * t) (A ++ (adL left (htd q (u - f) C) ++ D)) := by
    rw [hmap, adL_snoc]
    rw [← List.append_assoc, ← List.append_assoc, List.append_assoc (A ++ _), List.singleton_append] at r4 ⊢
    refine Rg.put r4 (p := 64 * t + (A.length + C.length) - 1) ?_ (fun i => ?_) (fun i => rfl)
    · rw [List.length_append, htd_len]; omega
    · by_cases c : i = 64 * t + (A.length + C.length) - 1
      · rw [if_pos c, c]
        have := ((Rg.app _ _ _).mp r4).2.1
        rw [List.length_append, htd_len] at this
        rw [show 64 * t + (A.length + C.length) - 1 = 64 * t + (A.length + C0.length) by omega]
        exact this
      · rw [if_neg c]
  have r6 : Mrow t a2 b2 (vp_updL g3 (64 * t + (A.length + C.length) - 1) (y.2 + hpt q (u - f) y + left)) (A ++ (adL left (htd q (u - f) C) ++ D)) := by
    refine ⟨?_, r5⟩
    rw [hM]
    simp only [List.length_append, adL_len, htd_len, Nat.add_assoc]
  obtain ⟨a6, b6, c6, e6, r7, k7⟩ := m_mix (N := N) (qcode := qcode) (qn := qn) (qcold := qcold) (qtime := qtime) (qV := qV) (qamb := qamb) (qab := qab) (qbe := qbe) (qrf := qrf) (qrt := qrt) (qrh := qrh) (qrs := qrs) (qrl := qrl) (qru := qru) (qon := qon) (qdr := qdr) (qdc := qdc) (qdn := qdn) (qdh := qdh) (qgi := qgi) (qlo := qlo) (qom := qom) ht hN _ (by intro h; have := congrArg List.length h; simp only [List.length_append, adL_len, htd_len, List.length_nil] at this; omega) (by simp only [List.length_append, adL_len, htd_len]; omega) r6
  refine ⟨a6, b6, c6, ?_, r7, ((k1.trans k2).trans ⟨fun _ _ => rfl, fun i hi => ⟨rfl, ?_⟩⟩).trans k7⟩
  · simp (disch := omega) only [lt1, lt64, i3_add, i3_sub, i3_mul, i3_nat, i3_inT, i3_leT, hget, ↓reduceIte]
    rw [e6]
    rfl
  · simp only [vp_updL]
    rw [if_neg (by omega), h3 i (by omega)]
theorem m_tmpLoop {t : Nat} {qM : Nat → Int32} {qvol qh : Nat → Int64} (ht : t < 4) : ∀ (B : List Lay) (k at' h fuel : Nat), Rg i6 qvol qh (64 * t + k) B → k + B.length ≤ 60 → at' ≤ h → h < at' + vol B → h ≤ 100000 → at' + vol B ≤ 100000 → Pv B → B.length < fuel → gx_fx (st_Mod_sensorOf N qcode qn qcold qtime qV qM qvol qh qamb qab qbe qrf qrt qrh qrs qrl qru qon qdr qdc qdn qdh qgi qlo qom) fuel (i3 t, i3 h, i6 at', i3 k) = some (tmp (h - at') B) := by
  intro B
  induction B with
  | nil =>
    intro k at' h fuel hR hl h1 h2 hh hv hP hfu
    simp only [vol] at h2
    omega
  | cons x B ih =>
    intro k at' h fuel hR hl h1 h2 hh hv hP hfu
    simp only [List.length_cons] at hl hfu
    simp only [vol] at h2 hv
    obtain ⟨hx, hPB⟩ := hP.cons
    obtain ⟨m, rfl⟩ : ∃ m, fuel = m + 1 := ⟨fuel - 1, by omega⟩
    obtain ⟨x1, x2, rB⟩ := hR
    rw [gx_fxS]
    simp only [st_Mod_sensorOf, bk_Mod_sensorOf_5, lc_lt]
    by_cases c : at' + x.1 ≤ h
    · have := ih (k + 1) (at' + x.1) h m rB (by omega) c (by omega) hh (by omega) hPB (by omega)
      simp (disch := omega) only [lt1, lt64, x1, x2, i3_add, i3_mul, i3_nat, i3_inT, i3_long, i6_add, i6_ltF, ↓reduceIte]
      rw [this, tmp, if_neg (by omega), Nat.sub_sub]
    · simp (disch := omega) only [lt1, lt64, x1, x2, i3_add, i3_mul, i3_nat, i3_inT, i3_long, i6_add, i6_ltT, ↓reduceIte]
      rw [down_eq (i6_pos hx (by omega)), tmp, if_pos (by omega)]
      rfl
theorem m_tmp {t : Nat} {qM : Nat → Int32} {qvol qh : Nat → Int64} (ht : t < 4) (hN : 1000 ≤ N) (L : List Lay) (h : Nat) (hR : Mrow t qM qvol qh L) (hl : L.length ≤ 60) (hV : vol L ≤ 100000) (hh : h < vol L) (hP : Pv L) : fn_Mod_sensorOf N (i3 t) (i3 h) qcode qn qcold qtime qV qM qvol qh qamb qab qbe qrf qrt qrh qrs qrl qru qon qdr qdc qdn qdh qgi qlo qom = some (tmp h L) := by
  have := m_tmpLoop (N := N) (qcode := qcode) (qn := qn) (qcold := qcold) (qtime := qtime) (qV := qV) (qamb := qamb) (qab := qab) (qbe := qbe) (qrf := qrf) (qrt := qrt) (qrh := qrh) (qrs := qrs) (qrl := qrl) (qru := qru) (qon := qon) (qdr := qdr) (qdc := qdc) (qdn := qdn) (qdh := qdh) (qgi := qgi) (qlo := qlo) (qom := qom) (qM := qM) ht L 0 0 h N hR.2 (by omega) (by omega) (by omega) (by omega) (by omega) hP (by omega)
  unfold fn_Mod_sensorOf
  rw [lt0, lL0, this, Nat.sub_zero]
end PM
section PL
variable {N : Nat} {qcode qn qcold qtime : Int32} {qV : Nat → Int32} {qamb qab qbe qrf qrt qrh qrs qrl qru qdr qdc : Nat → Int32}
theorem m_loseLoop {t : Nat} {qM qon qom : Nat → Int32} {qvol qdn qdh qgi : Nat → Int64} (ht : t < 4) (hbe : 0 < (qbe t).toInt64.toInt) : ∀ (C : List Lay) (k n fuel : Nat) (qh qlo : Nat → Int64), Rg i6 qvol qh (64 * t + k) C → qM t = i3 n → n = k + C.length → n ≤ 60 → C.length < fuel → ∃ qh' qlo', gx_fx (st_Mod_minute N qcode qn qcold qtime qV qamb qab qbe qrf qrt qrh qrs qrl qru qdr qdc) fuel (i3 t, i3 k, qM, qvol, qh, qon, qdn, qdh, qgi, qlo, qom) = (fn_Mod_mix N (i3 t) qcode qn qcold qtime qV qM qvol qh' qamb qab qbe qrf qrt qrh qrs qrl qru qon qdr qdc qdn qdh qgi qlo' qom).bind (fun ur127 => some (ur127.1, ur127.2.1, ur127.2.2, qon, qdn, qdh, qgi, qlo', qom)) ∧ Rg i6 qvol qh' (64 * t + k) (lsd (qamb t).toInt64 (qab t).toInt64 (qbe t).toInt64 C) ∧ (∀ i, (i < 64 * t + k ∨ 64 * t + n ≤ i) → qh' i = qh i) ∧ qlo' t = qlo t + lps (qamb t).toInt64 (qab t).toInt64 (qbe t).toInt64 C ∧ ∀ j, j ≠ t → qlo' j = qlo j := by
  intro C
  induction C with
  | nil =>
    intro k n fuel qh qlo hR hM hn h60 hfl
    obtain ⟨m, rfl⟩ : ∃ m, fuel = m + 1 := ⟨fuel - 1, by omega⟩
    have : n = k := hn
    subst this
    refine ⟨qh, qlo, ?_, trivial, fun _ _ => rfl, by simp only [lps, Int64.add_zero], fun _ _ => rfl⟩
    rw [gx_fxS]
    simp only [st_Mod_minute, bk_Mod_minute_191]
    simp (disch := omega) only [i3_nat, i3_inT, hM, i3_leT, ↓reduceIte]
  | cons x C ih =>
    intro k n fuel qh qlo hR hM hn h60 hfl
    simp only [List.length_cons] at hn hfl
    obtain ⟨m, rfl⟩ : ∃ m, fuel = m + 1 := ⟨fuel - 1, by omega⟩
    obtain ⟨x1, x2, rC⟩ := hR
    obtain ⟨qh', qlo', e, h1, h2, h3, h4⟩ := ih (k + 1) n m (vp_updL qh (64 * t + k) (x.2 - lpt (qamb t).toInt64 (qab t).toInt64 (qbe t).toInt64 x)) (vp_updL qlo t (qlo t + lpt (qamb t).toInt64 (qab t).toInt64 (qbe t).toInt64 x)) (rC.move fun i hi => ⟨rfl, by simp only [vp_updL]; rw [if_neg (by omega)]; rfl⟩) hM (by omega) h60 (by omega)
    refine ⟨qh', qlo', ?_, ⟨x1, ?_, h1⟩, fun i hi => ?_, ?_, fun j hj => ?_⟩
    · rw [gx_fxS]
      simp only [st_Mod_minute, bk_Mod_minute_191]
      simp (disch := omega) only [lt1, lt64, x1, x2, i3_add, i3_mul, i3_nat, i3_inT, hM, i3_leF, ↓reduceIte]
      rw [down_eq hbe]
      simp only [Option.bind_some]
      simp only [lpt] at e
      exact e
    · rw [h2 _ (by omega)]
      simp only [vp_updL, ↓reduceIte]
    · rw [h2 i (by omega)]
      simp only [vp_updL]
      rw [if_neg (by omega)]
    · rw [h3]
      simp only [vp_updL, ↓reduceIte, lps, Int64.add_assoc]
    · rw [h4 j hj]
      simp only [vp_updL, if_neg hj]
theorem m_lose {t : Nat} {qM qon qom : Nat → Int32} {qvol qh qdn qdh qgi qlo : Nat → Int64} (ht : t < 4) (hN : 1000 ≤ N) (hbe : 0 < (qbe t).toInt64.toInt) (L : List Lay) (hL : L ≠ []) (hl : L.length ≤ 40) (hR : Mrow t qM qvol qh L) : ∃ qM' qvol' qh' qlo', gx_fx (st_Mod_minute N qcode qn qcold qtime qV qamb qab qbe qrf qrt qrh qrs qrl qru qdr qdc) N (i3 t, 0, qM, qvol, qh, qon, qdn, qdh, qgi, qlo, qom) = some (qM', qvol', qh', qon, qdn, qdh, qgi, qlo', qom) ∧ Mrow t qM' qvol' qh' (mixL (lsd (qamb t).toInt64 (qab t).toInt64 (qbe t).toInt64 L)) ∧ Fr t qM qvol qh qM' qvol' qh' ∧ qlo' t = qlo t + lps (qamb t).toInt64 (qab t).toInt64 (qbe t).toInt64 L ∧ ∀ j, j ≠ t → qlo' j = qlo j := by
  obtain ⟨h1, lo1, e, r1, k1, k2, k3⟩ := m_loseLoop (N := N) (qcode := qcode) (qn := qn) (qcold := qcold) (qtime := qtime) (qV := qV) (qamb := qamb) (qab := qab) (qbe := qbe) (qrf := qrf) (qrt := qrt) (qrh := qrh) (qrs := qrs) (qrl := qrl) (qru := qru) (qdr := qdr) (qdc := qdc) (qon := qon) (qom := qom) (qdn := qdn) (qdh := qdh) (qgi := qgi) ht hbe L 0 L.length N qh qlo hR.2 hR.1 (by omega) (by omega) (by omega)
  obtain ⟨a, b, c, e2, r2, f2⟩ := m_mix (N := N) (qcode := qcode) (qn := qn) (qcold := qcold) (qtime := qtime) (qV := qV) (qamb := qamb) (qab := qab) (qbe := qbe) (qrf := qrf) (qrt := qrt) (qrh := qrh) (qrs := qrs) (qrl := qrl) (qru := qru) (qdr := qdr) (qdc := qdc) (qon := qon) (qom := qom) (qdn := qdn) (qdh := qdh) (qgi := qgi) (qlo := lo1) (qM := qM) (qvol := qvol) (qh := h1) ht hN (lsd (qamb t).toInt64 (qab t).toInt64 (qbe t).toInt64 L) (by intro h; apply hL; exact List.map_eq_nil_iff.mp h) (by rw [lsd_len]; omega) ⟨by rw [lsd_len]; exact hR.1, r1⟩
  refine ⟨a, b, c, lo1, ?_, r2, Fr.trans ⟨fun _ _ => rfl, fun i hi => ⟨rfl, k1 i (by omega)⟩⟩ f2, k2, k3⟩
  rw [lt0, e, e2]
  rfl
end PL
