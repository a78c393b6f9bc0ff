def hpt (q : Int64) (w : Nat) (x : Lay) : Int64 := dn (q * i6 x.1) (i6 w)
def htd (q : Int64) (w : Nat) (C : List Lay) : List Lay := C.map (fun x => (x.1, x.2 + hpt q w x))
def hps (q : Int64) (w : Nat) : List Lay → Int64
  | [] => 0
  | x :: C => hpt q w x + hps q w C
def adL (l : Int64) : List Lay → List Lay
  | [] => []
  | [x] => [(x.1, x.2 + l)]
  | x :: y :: L => x :: adL l (y :: L)
def heaU (f t : Nat) (q : Int64) (L : List Lay) : List Lay := (cutL f L).1 ++ (adL (q - hps q (t - f) (cutL (t - f) (cutL f L).2).1) (htd q (t - f) (cutL (t - f) (cutL f L).2).1) ++ (cutL (t - f) (cutL f L).2).2)
def heaL (f t : Nat) (q : Int64) (L : List Lay) : List Lay := mixL (heaU f t q L)
def lpt (am ab be : Int64) (x : Lay) : Int64 := dn ((x.2 - i6 x.1 * am) * ab) be
def lsd (am ab be : Int64) (L : List Lay) : List Lay := L.map (fun x => (x.1, x.2 - lpt am ab be x))
def lps (am ab be : Int64) : List Lay → Int64
  | [] => 0
  | x :: C => lpt am ab be x + lps am ab be C
def tmp : Nat → List Lay → Int64
  | _, [] => 0
  | h, x :: L => if h < x.1 then dn x.2 (i6 x.1) else tmp (h - x.1) L
def wrm (T : Int64) : List Lay → Nat
  | [] => 0
  | x :: L => (if x.2 < i6 x.1 * T then 0 else x.1) + wrm T L
theorem cut_app : ∀ (A B : List Lay) (h : Nat), vol A ≤ h → Pv A → cutL h (A ++ B) = (A ++ (cutL (h - vol A) B).1, (cutL (h - vol A) B).2) := by
  intro A
  induction A with
  | nil => intro B h _ _; simp [vol]
  | cons x A ih =>
    intro B h hh hP
    obtain ⟨h1, h2⟩ := hP.cons
    simp only [vol] at hh
    rw [List.cons_append, cutL, if_neg (by omega), if_neg (by omega), ih B (h - x.1) (by omega) h2]
    simp only [vol, List.cons_append, Nat.sub_sub]
theorem adL_snoc (l : Int64) (C : List Lay) (y : Lay) : adL l (C ++ [y]) = C ++ [(y.1, y.2 + l)] := by
  induction C with
  | nil => rfl
  | cons x C ih =>
    cases C with
    | nil => rfl
    | cons z C => simp only [List.cons_append, adL] at ih ⊢; rw [ih]
theorem adL_len (l : Int64) (C : List Lay) : (adL l C).length = C.length := by
  induction C with
  | nil => rfl
  | cons x C ih =>
    cases C with
    | nil => rfl
    | cons z C => simp only [adL, List.length_cons] at ih ⊢; rw [ih]
theorem adL_vol (l : Int64) (C : List Lay) : vol (adL l C) = vol C := by
  induction C with
  | nil => rfl
  | cons x C ih =>
    cases C with
    | nil => rfl
    | cons z C => simp only [adL, vol] at ih ⊢; rw [ih]
theorem htd_len (q : Int64) (w : Nat) (C : List Lay) : (htd q w C).length = C.length := List.length_map _
theorem htd_vol (q : Int64) (w : Nat) (C : List Lay) : vol (htd q w C) = vol C := by
  induction C with
  | nil => rfl
  | cons x C ih => simp only [htd, List.map_cons, vol] at ih ⊢; rw [ih]
theorem lsd_len (am ab be : Int64) (C : List Lay) : (lsd am ab be C).length = C.length := List.length_map _
theorem lsd_vol (am ab be : Int64) (C : List Lay) : vol (lsd am ab be C) = vol C := by
  induction C with
  | nil => rfl
  | cons x C ih => simp only [lsd, List.map_cons, vol] at ih ⊢; rw [ih]
theorem w_heatLoop {N f t : Nat} {full q x4 cnt : Int32} {vf : Nat → Int32} (hft : f < t) (ht : t ≤ 100000) : ∀ (C : List Lay) (k n fuel : Nat) (left : Int64) (hf : Nat → Int64), Rg i3 vf hf k C → n = k + C.length → n ≤ 42 → vol C ≤ 100000 → C.length < fuel → ∃ m hf', gx_fx (st_Water_heatBetween N full) fuel (i3 f, i3 t, q, x4, i3 n, left, i3 k, cnt, vf, hf) = gx_fx (st_Water_heatBetween N full) (m + 1) (i3 f, i3 t, q, x4, i3 n, left - hps q.toInt64 (t - f) C, i3 n, cnt, vf, hf') ∧ Rg i3 vf hf' k (htd q.toInt64 (t - f) C) ∧ ∀ i, (i < k ∨ n ≤ i) → hf' i = hf i := by
  intro C
  induction C with
  | nil =>
    intro k n fuel left hf hR hn h43 hv hfu
    obtain ⟨m, rfl⟩ : ∃ m, fuel = m + 1 := ⟨fuel - 1, by omega⟩
    have : n = k := hn
    subst this
    exact ⟨m, hf, by simp only [hps, Int64.sub_zero], trivial, fun _ _ => rfl⟩
  | cons x C ih =>
    intro k n fuel left hf hR hn h43 hv hfu
    simp only [List.length_cons] at hn hfu
    simp only [vol] at hv
    obtain ⟨m, rfl⟩ : ∃ m, fuel = m + 1 := ⟨fuel - 1, by omega⟩
    obtain ⟨x1, x2, rC⟩ := hR
    obtain ⟨m', hf', e, h1, h2⟩ := ih (k + 1) n m (left - hpt q.toInt64 (t - f) x) (vp_updL hf k (x.2 + hpt q.toInt64 (t - f) x)) (rC.move fun i hi => ⟨rfl, by simp only [vp_updL]; rw [if_neg (by omega)]⟩) (by omega) h43 (by omega) (by omega)
    refine ⟨m', hf', ?_, ⟨x1, ?_, h1⟩, fun i hi => ?_⟩
    · rw [gx_fxS]
      simp only [st_Water_heatBetween, bk_Water_heatBetween_22]
      simp (disch := omega) only [lt1, x1, x2, i3_add, i3_sub, i3_nat, i3_inT, i3_leF, i3_long, ↓reduceIte]
      rw [share_eq (i6_pos (by omega) (by omega))]
      simp only [Option.bind_some]
      simp only [hpt] at e
      rw [e]
      simp only [hps, hpt, Int64.sub_sub]
    · rw [h2 k (by omega)]
      simp only [vp_updL, ↓reduceIte]
    · rw [h2 i (by omega)]
      simp only [vp_updL]
      rw [if_neg (by omega)]
theorem w_heat {N f t : Nat} {full q : Int32} {vf : Nat → Int32} {hf : Nat → Int64} (hN : 1000 ≤ N) (L : List Lay) (hft : f < t) (ht : t ≤ vol L) (hV : vol L ≤ 100000) (hP : Pv L) (hl : L.length ≤ 40) (hR : Rg i3 vf hf 0 L) : ∃ vf' hf', fn_Water_heatBetween N (i3 f) (i3 t) q full (i3 L.length) vf hf = some (i3 (heaL f t q.toInt64 L).length, vf', hf') ∧ Rg i3 vf' hf' 0 (heaL f t q.toInt64 L) := by
  obtain ⟨f1, g1, e1, r1⟩ := w_cut (full := full) hN L f (by omega) hV hP (by omega) hR
  have hl1 := len_cut L f
  have hv1 := vol_cut L f (by omega)
  have hp1 := pv_cut L f hP
  obtain ⟨f2, g2, e2, r2⟩ := w_cut (full := full) hN ((cutL f L).1 ++ (cutL f L).2) t (by omega) (by rw [vol_app]; omega) (hp1.1.app hp1.2) (by rw [List.length_append]; omega) r1
  rw [cut_app _ _ t (by omega) hp1.1, hv1.1] at e2 r2
  simp only at e2 r2
  have hl2 := len_cut (cutL f L).2 (t - f)
  have hv2 := vol_cut (cutL f L).2 (t - f) (by omega)
  unfold fn_Water_heatBetween heaL heaU
  rw [e1]
  simp only [Option.bind_some]
  rw [List.length_append] at e2
  rw [e2]
  simp only [Option.bind_some]
  generalize hA : (cutL f L).1 = A at *
  generalize hC : (cutL (t - f) (cutL f L).2).1 = C at *
  generalize hD : (cutL (t - f) (cutL f L).2).2 = D at *
  rw [List.length_append]
  rw [List.append_assoc] at r2
  obtain ⟨rA, rCD⟩ := (Rg.app _ _ _).mp r2
  obtain ⟨rC, rD⟩ := (Rg.app _ _ _).mp rCD
  rw [Nat.zero_add] at rC rD
  obtain ⟨m, g3, e3, r3, h3⟩ := w_heatLoop (N := N) (full := full) (q := q) (x4 := i3 A.length) (cnt := i3 (A.length + C.length + D.length)) hft (by omega) C A.length (A.length + C.length) N q.toInt64 g2 rC rfl (by omega) (by omega) (by omega)
  rw [e3, gx_fxS]
  simp only [st_Water_heatBetween, bk_Water_heatBetween_22]
  have hCne : C ≠ [] := by intro h; rw [h] at hv2; simp only [vol] at hv2; omega
  obtain ⟨C0, y, hCy⟩ : ∃ C0 y, C = C0 ++ [y] := ⟨C.dropLast, C.getLast hCne, (List.dropLast_concat_getLast hCne).symm⟩
  have hCl : C.length = C0.length + 1 := by rw [hCy]; simp
  have hmap : htd q.toInt64 (t - f) C = htd q.toInt64 (t - f) C0 ++ [(y.1, y.2 + hpt q.toInt64 (t - f) y)] := by rw [hCy]; simp [htd]
  generalize hle : q.toInt64 - hps q.toInt64 (t - f) C = left at *
  have r4 : Rg i3 f2 g3 0 (A ++ (htd q.toInt64 (t - f) C ++ D)) := by
    refine (Rg.app _ _ _).mpr ⟨rA.move fun i hi => ⟨rfl, h3 _ (by omega)⟩, (Rg.app _ _ _).mpr ⟨?_, ?_⟩⟩
    · rw [Nat.zero_add]; exact r3
    · rw [htd_len, Nat.zero_add]
      exact rD.move fun i hi => ⟨rfl, h3 _ (by omega)⟩
  rw [hmap] at r4
  have hget : g3 (A.length + C.length - 1) = y.2 + hpt q.toInt64 (t - f) y := by
    rw [← List.append_assoc, ← List.append_assoc, List.append_assoc (A ++ _), List.singleton_append] at r4
    have := ((Rg.app _ _ _).mp r4).2.2.1
    rw [List.length_append, htd_len, Nat.zero_add] at this
    rw [show A.length + C.length - 1 = A.length + C0.length by omega]
    exact this
  have r5 : Rg i3 f2 (vp_updL g3 (A.length + C.length - 1) (y.2 + hpt q.toInt64 (t - f) y + left)) 0 (A ++ (adL left (htd q.toInt64 (t - f) C) ++ D)) := by
    rw [hmap, adL_snoc]
    rw [← List.append_assoc, ← List.append_assoc, List.append_assoc (A ++ _), List.singleton_append] at r4 ⊢
    refine Rg.put r4 (p := A.length + C.length - 1) ?_ (fun i => ?_) (fun i => rfl)
    · rw [List.length_append, htd_len]; omega
    · by_cases c : i = A.length + C.length - 1
      · rw [if_pos c, c]
        have := ((Rg.app _ _ _).mp r4).2.1
        rw [List.length_append, htd_len, Nat.zero_add] at this
        rw [show A.length + C.length - 1 = A.length + C0.length by omega]
        exact this
      · rw [if_neg c]
  obtain ⟨f6, g6, e6, r6⟩ := w_mix (N := N) (full := full) _ r5 (by simp only [List.length_append, adL_len, htd_len]; omega) (by simp only [vol_app, adL_vol, htd_vol]; omega) hN
  refine ⟨f6, g6, ?_, r6⟩
  simp (disch := omega) only [lt1, i3_add, i3_sub, i3_nat, i3_inT, i3_leT, i3_leF, hget, ↓reduceIte]
  simp only [List.length_append, adL_len, htd_len] at e6
  rw [Nat.add_assoc, e6]
  rfl
theorem w_loseLoop {N : Nat} {full am ab be : Int32} {vf : Nat → Int32} (hbe : 0 < be.toInt64.toInt) : ∀ (C : List Lay) (k n fuel : Nat) (acc : Int64) (hf : Nat → Int64), Rg i3 vf hf k C → n = k + C.length → n ≤ 42 → vol C ≤ 100000 → C.length < fuel → ∃ hf', gx_fx (st_Water_loseHeat N full) fuel (am, ab, be, acc, i3 k, i3 n, vf, hf) = (fn_Water_mix N full (i3 n) vf hf').bind (fun ur2 => some (acc + lps am.toInt64 ab.toInt64 be.toInt64 C, ur2.1, ur2.2.1, ur2.2.2)) ∧ Rg i3 vf hf' k (lsd am.toInt64 ab.toInt64 be.toInt64 C) ∧ ∀ i, (i < k ∨ n ≤ i) → hf' i = hf i := by
  intro C
  induction C with
  | nil =>
    intro k n fuel acc hf hR hn h43 hv hfu
    obtain ⟨m, rfl⟩ : ∃ m, fuel = m + 1 := ⟨fuel - 1, by omega⟩
    have : n = k := hn
    subst this
    refine ⟨hf, ?_, trivial, fun _ _ => rfl⟩
    rw [gx_fxS]
    simp only [st_Water_loseHeat, bk_Water_loseHeat_6, lps, Int64.add_zero]
    simp (disch := omega) only [lt0, lt1, lt2, lt4, lt40, lt42, lt64, i3_add, i3_sub, i3_addn, i3_mul, i3_nat, i3_inT, i3_leT, i3_leF, i3_ltT, i3_ltF, i3_eqF, Option.bind_some, eq_self, ↓reduceIte]
  | cons x C ih =>
    intro k n fuel acc hf hR hn h43 hv hfu
    simp only [List.length_cons] at hn hfu
    simp only [vol] at hv
    obtain ⟨m, rfl⟩ : ∃ m, fuel = m + 1 := ⟨fuel - 1, by omega⟩
    obtain ⟨x1, x2, rC⟩ := hR
    obtain ⟨hf', e, h1, h2⟩ := ih (k + 1) n m (acc + lpt am.toInt64 ab.toInt64 be.toInt64 x) (vp_updL hf k (x.2 - lpt am.toInt64 ab.toInt64 be.toInt64 x)) (rC.move fun i hi => ⟨rfl, by simp only [vp_updL]; rw [if_neg (by omega)]⟩) (by omega) h43 (by omega) (by omega)
    refine ⟨hf', ?_, ⟨x1, ?_, h1⟩, fun i hi => ?_⟩
    · rw [gx_fxS]
      simp only [st_Water_loseHeat, bk_Water_loseHeat_6]
      simp (disch := omega) only [lt1, x1, x2, i3_add, i3_nat, i3_inT, i3_leF, i3_long, ↓reduceIte]
      rw [share_eq hbe]
      simp only [Option.bind_some]
      simp only [lpt] at e
      rw [e]
      simp only [lps, lpt, Int64.add_assoc]
    · rw [h2 k (by omega)]
      simp only [vp_updL, ↓reduceIte]
    · rw [h2 i (by omega)]
      simp only [vp_updL]
      rw [if_neg (by omega)]
theorem w_lose {N : Nat} {full am ab be : Int32} {vf : Nat → Int32} {hf : Nat → Int64} (hN : 1000 ≤ N) (hbe : 0 < be.toInt64.toInt) (L : List Lay) (hV : vol L ≤ 100000) (hl : L.length ≤ 40) (hR : Rg i3 vf hf 0 L) : ∃ vf' hf', fn_Water_loseHeat N am ab be full (i3 L.length) vf hf = some (lps am.toInt64 ab.toInt64 be.toInt64 L, i3 (mixL (lsd am.toInt64 ab.toInt64 be.toInt64 L)).length, vf', hf') ∧ Rg i3 vf' hf' 0 (mixL (lsd am.toInt64 ab.toInt64 be.toInt64 L)) := by
  obtain ⟨g, e, h1, -⟩ := w_loseLoop (N := N) (full := full) (am := am) (ab := ab) hbe L 0 L.length N 0 hf hR (by omega) (by omega) hV (by omega)
  obtain ⟨f2, g2, e2, h2⟩ := w_mix (N := N) (full := full) _ h1 (by rw [lsd_len]; omega) (by rw [lsd_vol]; omega) hN
  refine ⟨f2, g2, ?_, h2⟩
  unfold fn_Water_loseHeat
  rw [lsd_len] at e2
  rw [lt0, e, e2, Int64.zero_add]
  rfl
theorem w_tmpLoop {N : Nat} {full cnt : Int32} {vf : Nat → Int32} {hf : Nat → Int64} : ∀ (B : List Lay) (k n top h fuel : Nat), Rg i3 vf hf k B → n = k + B.length → n ≤ 42 → cnt = i3 n → top + vol B ≤ 100000 → top ≤ h → h ≤ 100000 → Pv B → B.length < fuel → gx_fx (st_Water_temperatureAt N full cnt vf hf) fuel (i3 h, i3 top, i3 k) = some (tmp (h - top) B) := by
  intro B
  induction B with
  | nil =>
    intro k n top h fuel hR hn h43 hc hv hth hh hP hfu
    obtain ⟨m, rfl⟩ : ∃ m, fuel = m + 1 := ⟨fuel - 1, by omega⟩
    simp only [List.length_nil] at hn
    rw [gx_fxS]
    simp only [st_Water_temperatureAt, bk_Water_temperatureAt_4, hc, tmp]
    simp (disch := omega) only [lt0, lt1, lt2, lt4, lt40, lt42, lt64, i3_add, i3_sub, i3_addn, i3_mul, i3_nat, i3_inT, i3_leT, i3_leF, i3_ltT, i3_ltF, i3_eqF, Option.bind_some, eq_self, ↓reduceIte]
  | cons x B ih =>
    intro k n top h fuel hR hn h43 hc hv hth hh hP hfu
    simp only [List.length_cons] at hn hfu
    simp only [vol] at hv
    obtain ⟨hx, hPB⟩ := hP.cons
    obtain ⟨m, rfl⟩ : ∃ m, fuel = m + 1 := ⟨fuel - 1, by omega⟩
    obtain ⟨x1, x2, rB⟩ := hR
    rw [gx_fxS]
    simp only [st_Water_temperatureAt, bk_Water_temperatureAt_4, hc]
    by_cases c : top + x.1 ≤ h
    · have := ih (k + 1) n (top + x.1) h m rB (by omega) h43 hc (by omega) c hh hPB (by omega)
      simp (disch := omega) only [lt1, x1, x2, i3_add, i3_nat, i3_inT, i3_leF, i3_leT, ↓reduceIte]
      rw [← hc, this, tmp, if_neg (by omega), Nat.sub_sub]
    · simp (disch := omega) only [x1, x2, i3_add, i3_nat, i3_inT, i3_leF, i3_long, ↓reduceIte]
      rw [share_eq (i6_pos hx (by omega)), tmp, if_pos (by omega), Int64.mul_one]
      rfl
theorem w_tmp {N : Nat} {full : Int32} {vf : Nat → Int32} {hf : Nat → Int64} (hN : 1000 ≤ N) (L : List Lay) (h : Nat) (hR : Rg i3 vf hf 0 L) (hl : L.length ≤ 42) (hV : vol L ≤ 100000) (hh : h ≤ 100000) (hP : Pv L) : fn_Water_temperatureAt N (i3 h) full (i3 L.length) vf hf = some (tmp h L) := by
  have := w_tmpLoop (N := N) (full := full) L 0 L.length 0 h N hR (by omega) hl rfl (by omega) (by omega) hh hP (by omega)
  unfold fn_Water_temperatureAt
  rw [lt0, this, Nat.sub_zero]
theorem w_wrmLoop {N : Nat} {full cnt T : Int32} {vf : Nat → Int32} {hf : Nat → Int64} : ∀ (B : List Lay) (k n acc fuel : Nat), Rg i3 vf hf k B → n = k + B.length → n ≤ 42 → cnt = i3 n → vol B ≤ 100000 → B.length < fuel → gx_fx (st_Water_partsAsWarmAs N full cnt vf hf) fuel (T, i3 acc, i3 k) = some (i3 (acc + wrm T.toInt64 B)) := by
  intro B
  induction B with
  | nil =>
    intro k n acc fuel hR hn h43 hc hv hfu
    obtain ⟨m, rfl⟩ : ∃ m, fuel = m + 1 := ⟨fuel - 1, by omega⟩
    simp only [List.length_nil] at hn
    rw [gx_fxS]
    simp only [st_Water_partsAsWarmAs, bk_Water_partsAsWarmAs_4, hc, wrm]
    simp (disch := omega) only [lt0, lt1, lt2, lt4, lt40, lt42, lt64, i3_add, i3_sub, i3_addn, i3_mul, i3_nat, i3_inT, i3_leT, i3_leF, i3_ltT, i3_ltF, i3_eqF, Option.bind_some, eq_self, ↓reduceIte]
    rfl
  | cons x B ih =>
    intro k n acc fuel hR hn h43 hc hv hfu
    simp only [List.length_cons] at hn hfu
    simp only [vol] at hv
    obtain ⟨m, rfl⟩ : ∃ m, fuel = m + 1 := ⟨fuel - 1, by omega⟩
    obtain ⟨x1, x2, rB⟩ := hR
    rw [gx_fxS]
    simp only [st_Water_partsAsWarmAs, bk_Water_partsAsWarmAs_4, hc]
    simp (disch := omega) only [lt1, x1, x2, i3_add, i3_nat, i3_inT, i3_leF, i3_long, ↓reduceIte]
    simp only [lc_lt]
    by_cases c : x.2 < i6 x.1 * T.toInt64
    · rw [if_pos c, ← hc, ih (k + 1) n acc m rB (by omega) h43 hc (by omega) (by omega), wrm, if_pos c, Nat.zero_add]
    · rw [if_neg c, ← hc, ih (k + 1) n (acc + x.1) m rB (by omega) h43 hc (by omega) (by omega), wrm, if_neg c, Nat.add_assoc]
theorem w_wrm {N : Nat} {full T : Int32} {vf : Nat → Int32} {hf : Nat → Int64} (hN : 1000 ≤ N) (L : List Lay) (hR : Rg i3 vf hf 0 L) (hl : L.length ≤ 42) (hV : vol L ≤ 100000) : fn_Water_partsAsWarmAs N T full (i3 L.length) vf hf = some (i3 (wrm T.toInt64 L)) := by
  have := w_wrmLoop (N := N) (full := full) (T := T) L 0 L.length 0 N hR (by omega) hl rfl hV (by omega)
  unfold fn_Water_partsAsWarmAs
  rw [lt0, this, Nat.zero_add]
