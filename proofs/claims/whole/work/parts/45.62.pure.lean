theorem w_insLoop {N : Nat} {full cnt v : Int32} {h : Int64} : ∀ (d p n fuel : Nat) (vf : Nat → Int32) (hf : Nat → Int64), n = p + d → n ≤ 41 → d < fuel → ∃ vf' hf', gx_fx (st_Water_insertLayer N full) fuel (i3 p, v, h, i3 n, cnt, vf, hf) = some (cnt + i3 1, upd vf' p v, vp_updL hf' p h) ∧ Up vf vf' p n ∧ Up hf hf' p n := by
  intro d
  induction d with
  | zero =>
    intro p n fuel vf hf hn h42 hfu
    obtain ⟨m, rfl⟩ : ∃ m, fuel = m + 1 := ⟨fuel - 1, by omega⟩
    refine ⟨vf, hf, ?_, fun i => ?_, fun i => ?_⟩
    · rw [gx_fxS]
      simp only [st_Water_insertLayer, bk_Water_insertLayer_31]
      simp (disch := omega) only [lt0, lt1, lt2, lt4, lt40, lt42, lt64, i3_add, i3_sub, i3_addn, i3_mul, i3_nat, i3_inT, i3_leT, i3_leF, i3_ltT, i3_ltF, i3_eqF, Option.bind_some, eq_self, ↓reduceIte]
    · rw [if_neg (by omega)]
    · rw [if_neg (by omega)]
  | succ d ih =>
    intro p n fuel vf hf hn h42 hfu
    obtain ⟨m, rfl⟩ : ∃ m, fuel = m + 1 := ⟨fuel - 1, by omega⟩
    obtain ⟨vf', hf', e, h1, h2⟩ := ih p (n - 1) m (upd vf n (vf (n - 1))) (vp_updL hf n (hf (n - 1))) (by omega) (by omega) (by omega)
    refine ⟨vf', hf', ?_, fun i => ?_, fun i => ?_⟩
    · rw [gx_fxS]
      simp only [st_Water_insertLayer, bk_Water_insertLayer_31]
      simp (disch := omega) only [lt0, lt1, lt2, lt4, lt40, lt42, lt64, i3_add, i3_sub, i3_addn, i3_mul, i3_nat, i3_inT, i3_leT, i3_leF, i3_ltT, i3_ltF, i3_eqF, Option.bind_some, eq_self, ↓reduceIte]
      exact e
    · rw [h1 i]
      simp only [upd]
      (repeat' split) <;> first | rfl | (exfalso; omega) | (congr 1; omega)
    · rw [h2 i]
      simp only [vp_updL]
      (repeat' split) <;> first | rfl | (exfalso; omega) | (congr 1; omega)
theorem w_insert {N : Nat} {full : Int32} {vf : Nat → Int32} {hf : Nat → Int64} (A B : List Lay) (x : Lay) (hR : Rg i3 vf hf 0 (A ++ B)) (hl : A.length + B.length ≤ 41) (hN : 1000 ≤ N) : ∃ vf' hf', fn_Water_insertLayer N (i3 A.length) (i3 x.1) x.2 full (i3 (A.length + B.length)) vf hf = some (i3 (A.length + B.length + 1), vf', hf') ∧ Rg i3 vf' hf' 0 (A ++ x :: B) := by
  obtain ⟨f, g, e, h1, h2⟩ := w_insLoop (N := N) (full := full) (v := i3 x.1) (h := x.2) (cnt := i3 (A.length + B.length)) B.length A.length (A.length + B.length) N vf hf rfl (by omega) (by omega)
  refine ⟨upd f A.length (i3 x.1), vp_updL g A.length x.2, ?_, Rg.ins x hR (by omega) (by omega) h1 h2 (fun i => rfl) (fun i => rfl)⟩
  unfold fn_Water_insertLayer
  simp (disch := omega) only [lt0, lt1, lt2, lt4, lt40, lt42, lt64, i3_add, i3_sub, i3_addn, i3_mul, i3_nat, i3_inT, i3_leT, i3_leF, i3_ltT, i3_ltF, i3_eqF, Option.bind_some, eq_self, ↓reduceIte]
  rw [e, i3_add]
theorem w_dropLoop {N : Nat} {full : Int32} : ∀ (d j n g fuel : Nat) (vf : Nat → Int32) (hf : Nat → Int64), n = j + d → g ≤ j → 1 ≤ g → n ≤ 42 → d < fuel → ∃ vf' hf', gx_fx (st_Water_dropLowest N full) fuel (i3 g, i3 j, i3 n, vf, hf) = some (i3 (n - g), vf', hf') ∧ Dw vf vf' g j n ∧ Dw hf hf' g j n := by
  intro d
  induction d with
  | zero =>
    intro j n g fuel vf hf hn hg h1 h43 hfu
    obtain ⟨m, rfl⟩ : ∃ m, fuel = m + 1 := ⟨fuel - 1, by omega⟩
    refine ⟨vf, hf, ?_, fun i => ?_, fun i => ?_⟩
    · rw [gx_fxS]
      simp only [st_Water_dropLowest, bk_Water_dropLowest_15]
      simp (disch := omega) only [lt0, lt1, lt2, lt4, lt40, lt42, lt64, i3_add, i3_sub, i3_addn, i3_mul, i3_nat, i3_inT, i3_leT, i3_leF, i3_ltT, i3_ltF, i3_eqF, Option.bind_some, eq_self, ↓reduceIte]
    · rw [if_neg (by omega)]
    · rw [if_neg (by omega)]
  | succ d ih =>
    intro j n g fuel vf hf hn hg h1 h43 hfu
    obtain ⟨m, rfl⟩ : ∃ m, fuel = m + 1 := ⟨fuel - 1, by omega⟩
    obtain ⟨vf', hf', e, h2, h3⟩ := ih (j + 1) n g m (upd vf (j - g) (vf j)) (vp_updL hf (j - g) (hf j)) (by omega) (by omega) h1 h43 (by omega)
    refine ⟨vf', hf', ?_, fun i => ?_, fun i => ?_⟩
    · rw [gx_fxS]
      simp only [st_Water_dropLowest, bk_Water_dropLowest_15]
      simp (disch := omega) only [lt0, lt1, lt2, lt4, lt40, lt42, lt64, i3_add, i3_sub, i3_addn, i3_mul, i3_nat, i3_inT, i3_leT, i3_leF, i3_ltT, i3_ltF, i3_eqF, Option.bind_some, eq_self, ↓reduceIte]
      exact e
    · rw [h2 i]
      simp only [upd]
      (repeat' split) <;> first | rfl | (exfalso; omega) | (congr 1; omega)
    · rw [h3 i]
      simp only [vp_updL]
      (repeat' split) <;> first | rfl | (exfalso; omega) | (congr 1; omega)
theorem w_drop {N : Nat} {full : Int32} {vf : Nat → Int32} {hf : Nat → Int64} (A B : List Lay) (hR : Rg i3 vf hf 0 (A ++ B)) (hl : A.length + B.length ≤ 42) (hN : 1000 ≤ N) : ∃ vf' hf', fn_Water_dropLowest N (i3 A.length) full (i3 (A.length + B.length)) vf hf = some (i3 B.length, vf', hf') ∧ Rg i3 vf' hf' 0 B := by
  unfold fn_Water_dropLowest
  by_cases hA : A.length = 0
  · have : A = [] := List.eq_nil_of_length_eq_zero hA
    subst this
    refine ⟨vf, hf, ?_, hR⟩
    simp only [List.length_nil, Nat.zero_add]
    simp (disch := omega) only [lt0, lt1, lt2, lt4, lt40, lt42, lt64, i3_add, i3_sub, i3_addn, i3_mul, i3_nat, i3_inT, i3_leT, i3_leF, i3_ltT, i3_ltF, i3_eqF, Option.bind_some, eq_self, ↓reduceIte]
  · obtain ⟨f, g, e, h1, h2⟩ := w_dropLoop (N := N) (full := full) B.length A.length (A.length + B.length) A.length N vf hf rfl (Nat.le_refl _) (by omega) (by omega) (by omega)
    refine ⟨f, g, ?_, Rg.gone hR rfl (by omega) (by omega) h1 h2⟩
    simp (disch := omega) only [lt0, lt1, lt2, lt4, lt40, lt42, lt64, i3_add, i3_sub, i3_addn, i3_mul, i3_nat, i3_inT, i3_leT, i3_leF, i3_ltT, i3_ltF, i3_eqF, Option.bind_some, eq_self, ↓reduceIte]
    rw [e, show A.length + B.length - A.length = B.length by omega]
theorem w_joinLoop {N : Nat} {full cnt : Int32} : ∀ (R : List Lay) (k e fuel : Nat) (x : Lay) (vf : Nat → Int32) (hf : Nat → Int64), k + R.length = e → e ≤ 41 → Rg i3 vf hf k R → vf e = i3 x.1 → hf e = x.2 → R.length < fuel → ∃ vf' hf', gx_fx (st_Water_joinLowest N full) fuel (i3 e, i3 k, cnt, vf, hf) = (fn_Water_dropLowest N (i3 e) full cnt vf' hf').bind (fun ur4 => some (ur4.1, ur4.2.1, ur4.2.2)) ∧ vf' e = i3 (x.1 + vol R) ∧ hf' e = x.2 + hsm R ∧ ∀ i, i ≠ e → vf' i = vf i ∧ hf' i = hf i := by
  intro R
  induction R with
  | nil =>
    intro k e fuel x vf hf hk h42 hR hv hh hfu
    simp only [List.length_nil] at hk hfu
    obtain ⟨m, rfl⟩ : ∃ m, fuel = m + 1 := ⟨fuel - 1, by omega⟩
    refine ⟨vf, hf, ?_, hv, by simp [hh, hsm], fun i _ => ⟨rfl, rfl⟩⟩
    rw [gx_fxS]
    simp only [st_Water_joinLowest, bk_Water_joinLowest_15]
    simp (disch := omega) only [lt0, lt1, lt2, lt4, lt40, lt42, lt64, i3_add, i3_sub, i3_addn, i3_mul, i3_nat, i3_inT, i3_leT, i3_leF, i3_ltT, i3_ltF, i3_eqF, Option.bind_some, eq_self, ↓reduceIte]
  | cons r R ih =>
    intro k e fuel x vf hf hk h42 hR hv hh hfu
    simp only [List.length_cons] at hk hfu
    obtain ⟨m, rfl⟩ : ∃ m, fuel = m + 1 := ⟨fuel - 1, by omega⟩
    obtain ⟨r1, r2, r3⟩ := hR
    obtain ⟨vf', hf', q, h1, h2, h3⟩ := ih (k + 1) e m (x.1 + r.1, x.2 + r.2) (upd vf e (vf e + vf k)) (vp_updL hf e (hf e + hf k)) (by omega) h42 (r3.move fun i hi => by simp only [upd, vp_updL]; rw [if_neg (by omega), if_neg (by omega)]; exact ⟨rfl, rfl⟩) (by simp only [upd, ↓reduceIte]; rw [hv, r1, i3_add]) (by simp only [vp_updL, ↓reduceIte]; rw [hh, r2]) (by omega)
    refine ⟨vf', hf', ?_, ?_, ?_, fun i hi => ?_⟩
    · rw [gx_fxS]
      simp only [st_Water_joinLowest, bk_Water_joinLowest_15]
      simp (disch := omega) only [lt0, lt1, lt2, lt4, lt40, lt42, lt64, i3_add, i3_sub, i3_addn, i3_mul, i3_nat, i3_inT, i3_leT, i3_leF, i3_ltT, i3_ltF, i3_eqF, Option.bind_some, eq_self, ↓reduceIte]
      exact q
    · rw [h1]; simp only [vol, Nat.add_assoc]
    · rw [h2]; simp only [hsm, Int64.add_assoc]
    · have := h3 i hi
      simp only [upd, vp_updL, if_neg hi] at this
      exact this
theorem w_joinLowest {N : Nat} {full : Int32} {vf : Nat → Int32} {hf : Nat → Int64} (A B : List Lay) (x : Lay) (hR : Rg i3 vf hf 0 (A ++ x :: B)) (hA : 1 ≤ A.length) (hl : A.length + (B.length + 1) ≤ 42) (hN : 1000 ≤ N) : ∃ vf' hf', fn_Water_joinLowest N (i3 A.length) full (i3 (A.length + (B.length + 1))) vf hf = some (i3 (B.length + 1), vf', hf') ∧ Rg i3 vf' hf' 0 (sj (A ++ [x]) :: B) := by
  obtain ⟨rA, rx, ry, rB⟩ := (Rg.app A (x :: B) 0).mp hR
  rw [Nat.zero_add] at rx ry
  obtain ⟨f, g, e, h1, h2, h3⟩ := w_joinLoop (N := N) (full := full) (cnt := i3 (A.length + (B.length + 1))) A 0 A.length N x vf hf (by omega) (by omega) rA rx ry (by omega)
  have hR2 : Rg i3 f g 0 (A ++ sj (A ++ [x]) :: B) := by
    rw [hsm_comm]
    refine Rg.put hR (p := A.length) (by omega) (fun i => ?_) (fun i => ?_)
    · by_cases c : i = A.length
      · rw [if_pos c, c, h1]
      · rw [if_neg c, (h3 i c).1]
    · by_cases c : i = A.length
      · rw [if_pos c, c, h2]
      · rw [if_neg c, (h3 i c).2]
  obtain ⟨f2, g2, e2, h4⟩ := w_drop (N := N) (full := full) A (sj (A ++ [x]) :: B) hR2 (by simp only [List.length_cons]; omega) hN
  refine ⟨f2, g2, ?_, h4⟩
  unfold fn_Water_joinLowest
  simp (disch := omega) only [lt0, lt1, lt2, lt4, lt40, lt42, lt64, i3_add, i3_sub, i3_addn, i3_mul, i3_nat, i3_inT, i3_leT, i3_leF, i3_ltT, i3_ltF, i3_eqF, Option.bind_some, eq_self, ↓reduceIte]
  rw [e]
  simp only [List.length_cons] at e2
  rw [e2]
  rfl
theorem w_warm {N p : Nat} {full cnt : Int32} {vf : Nat → Int32} {hf : Nat → Int64} {x y : Lay} (hp : p + 1 < 42) (h1 : vf p = i3 y.1) (h2 : hf p = y.2) (h3 : vf (p + 1) = i3 x.1) (h4 : hf (p + 1) = x.2) (hx : x.1 ≤ 100000) (hy : y.1 ≤ 100000) : fn_Water_isAsWarmAsNext N (i3 p) full cnt vf hf = some (if wm y x = true then 1 else 0) := by
  unfold fn_Water_isAsWarmAsNext
  simp (disch := omega) only [lt1, i3_add, i3_inT, i3_nat, h1, h2, h3, h4, i3_long, ↓reduceIte]
  simp only [lc_lt]
  unfold wm
  by_cases c : y.2 * i6 x.1 < x.2 * i6 y.1
  · rw [if_pos c, if_neg (by simp [c])]
  · rw [if_neg c, if_pos (by simp [c])]
theorem w_inner {N : Nat} {full : Int32} : ∀ (s : List Lay) (x : Lay) (R : List Lay) (k c fuel : Nat) (vf : Nat → Int32) (hf : Nat → Int64), s.length ≤ k → k + 1 + R.length = c → c ≤ 42 → Rg i3 vf hf 0 (x :: s).reverse → Rg i3 vf hf (k + 1) R → vol s + x.1 ≤ 100000 → s.length + 1 < fuel → ∃ fuel' vf' hf', gx_fx (st_Water_mix N full) fuel (.inr (i3 (s.length + 1), i3 k, i3 c, vf, hf)) = gx_fx (st_Water_mix N full) fuel' (.inl (i3 (psh s x).length, i3 (k + 1), i3 c, vf', hf')) ∧ fuel' + s.length + 2 = fuel + (psh s x).length ∧ Rg i3 vf' hf' 0 (psh s x).reverse ∧ Rg i3 vf' hf' (k + 1) R := by
  intro s
  induction s with
  | nil =>
    intro x R k c fuel vf hf hk hc h43 hR hR2 hv hfu
    simp only [List.length_nil] at hfu
    obtain ⟨m, rfl⟩ : ∃ m, fuel = m + 1 := ⟨fuel - 1, by omega⟩
    refine ⟨m, vf, hf, ?_, by simp [psh], hR, hR2⟩
    rw [gx_fxS]
    simp only [st_Water_mix, bk_Water_mix_39, psh, List.length_nil, List.length_cons, Nat.zero_add]
    simp (disch := omega) only [lt0, lt1, lt2, lt4, lt40, lt42, lt64, i3_add, i3_sub, i3_addn, i3_mul, i3_nat, i3_inT, i3_leT, i3_leF, i3_ltT, i3_ltF, i3_eqF, Option.bind_some, eq_self, ↓reduceIte]
  | cons y s ih =>
    intro x R k c fuel vf hf hk hc h43 hR hR2 hv hfu
    simp only [List.length_cons] at hk hfu
    simp only [vol] at hv
    obtain ⟨m, rfl⟩ : ∃ m, fuel = m + 1 := ⟨fuel - 1, by omega⟩
    simp only [List.reverse_cons, List.append_assoc, List.cons_append, List.nil_append] at hR
    obtain ⟨rs, y1, y2, x1, x2, -⟩ := (Rg.app s.reverse [y, x] 0).mp hR
    rw [Nat.zero_add, List.length_reverse] at y1 y2 x1 x2
    have hw := w_warm (N := N) (full := full) (cnt := i3 c) (p := s.length) (by omega) y1 y2 x1 x2 (by omega) (by omega)
    by_cases hwm : wm y x = true
    · rw [if_pos hwm] at hw
      have hF1 : Rg i3 (upd vf s.length (vf s.length + vf (s.length + 1))) (vp_updL hf s.length (hf s.length + hf (s.length + 1))) 0 (jn y x :: s).reverse := by
        simp only [List.reverse_cons]
        refine (Rg.app _ _ _).mpr ⟨rs.move fun i hi => ?_, ?_, ?_, trivial⟩
        · rw [List.length_reverse] at hi
          simp only [upd, vp_updL]
          rw [if_neg (by omega), if_neg (by omega)]
          exact ⟨rfl, rfl⟩
        · simp only [List.length_reverse, Nat.zero_add, upd, ↓reduceIte, jn]
          rw [y1, x1, i3_add]
        · simp only [List.length_reverse, Nat.zero_add, vp_updL, ↓reduceIte, jn]
          rw [y2, x2]
      have hF2 : Rg i3 (upd vf s.length (vf s.length + vf (s.length + 1))) (vp_updL hf s.length (hf s.length + hf (s.length + 1))) (k + 1) R := hR2.move fun i hi => by
        simp only [upd, vp_updL]
        rw [if_neg (by omega), if_neg (by omega)]
        exact ⟨rfl, rfl⟩
      obtain ⟨fuel', vf', hf', e, he, h1, h2⟩ := ih (jn y x) R k c m _ _ (by omega) hc h43 hF1 hF2 (by simp only [jn]; omega) (by omega)
      refine ⟨fuel', vf', hf', ?_, ?_, ?_, h2⟩
      · rw [gx_fxS]
        simp only [st_Water_mix, bk_Water_mix_39, List.length_cons]
        simp (disch := omega) only [lt2, i3_ltF, i3_sub, ↓reduceIte]
        rw [show s.length + 1 + 1 - 2 = s.length by omega, hw]
        simp (disch := omega) only [lt0, lt1, lt2, lt4, lt40, lt42, lt64, i3_add, i3_sub, i3_addn, i3_mul, i3_nat, i3_inT, i3_leT, i3_leF, i3_ltT, i3_ltF, i3_eqF, Option.bind_some, eq_self, ↓reduceIte]
        simp only [psh, hwm, ↓reduceIte]
        exact e
      · simp only [psh, hwm, ↓reduceIte, List.length_cons]
        omega
      · simp only [psh, hwm, ↓reduceIte]
        exact h1
    · rw [if_neg hwm] at hw
      refine ⟨m, vf, hf, ?_, ?_, ?_, hR2⟩
      · rw [gx_fxS]
        simp only [st_Water_mix, bk_Water_mix_39, List.length_cons]
        simp (disch := omega) only [lt2, i3_ltF, i3_sub, ↓reduceIte]
        rw [show s.length + 1 + 1 - 2 = s.length by omega, hw]
        simp (disch := omega) only [lt0, lt1, lt2, lt4, lt40, lt42, lt64, i3_add, i3_sub, i3_addn, i3_mul, i3_nat, i3_inT, i3_leT, i3_leF, i3_ltT, i3_ltF, i3_eqF, Option.bind_some, eq_self, ↓reduceIte]
        simp only [psh, if_neg hwm, List.length_cons]
      · simp only [psh, if_neg hwm, List.length_cons]
        omega
      · simp only [psh, if_neg hwm, List.reverse_cons, List.append_assoc, List.cons_append, List.nil_append]
        exact hR
theorem w_outer {N : Nat} {full : Int32} : ∀ (R s : List Lay) (k c fuel : Nat) (vf : Nat → Int32) (hf : Nat → Int64), s.length ≤ k → k + R.length = c → c ≤ 42 → Rg i3 vf hf 0 s.reverse → Rg i3 vf hf k R → vol s + vol R ≤ 100000 → 3 * R.length + s.length < fuel → ∃ vf' hf', gx_fx (st_Water_mix N full) fuel (.inl (i3 s.length, i3 k, i3 c, vf, hf)) = (fn_Water_joinLowest N (i3 (R.foldl psh s).length - i3 40) full (i3 (R.foldl psh s).length) vf' hf').bind (fun ur2 => some (ur2.1, ur2.2.1, ur2.2.2)) ∧ Rg i3 vf' hf' 0 (R.foldl psh s).reverse := by
  intro R
  induction R with
  | nil =>
    intro s k c fuel vf hf hk hc h43 hR hR2 hv hfu
    simp only [List.length_nil] at hc
    obtain ⟨m, rfl⟩ : ∃ m, fuel = m + 1 := ⟨fuel - 1, by omega⟩
    refine ⟨vf, hf, ?_, hR⟩
    rw [gx_fxS]
    simp only [st_Water_mix, bk_Water_mix_4, List.foldl_nil]
    simp (disch := omega) only [lt40, i3_leT, ↓reduceIte]
  | cons r R ih =>
    intro s k c fuel vf hf hk hc h43 hR hR2 hv hfu
    simp only [List.length_cons] at hc hfu
    simp only [vol] at hv
    obtain ⟨m, rfl⟩ : ∃ m, fuel = m + 1 := ⟨fuel - 1, by omega⟩
    obtain ⟨r1, r2, r3⟩ := hR2
    have hF1 : Rg i3 (upd vf s.length (vf k)) (vp_updL hf s.length (hf k)) 0 (r :: s).reverse := by
      simp only [List.reverse_cons]
      refine (Rg.app _ _ _).mpr ⟨hR.move fun i hi => ?_, ?_, ?_, trivial⟩
      · rw [List.length_reverse] at hi
        simp only [upd, vp_updL]
        rw [if_neg (by omega), if_neg (by omega)]
        exact ⟨rfl, rfl⟩
      · simp only [List.length_reverse, Nat.zero_add, upd, ↓reduceIte]
        exact r1
      · simp only [List.length_reverse, Nat.zero_add, vp_updL, ↓reduceIte]
        exact r2
    have hF2 : Rg i3 (upd vf s.length (vf k)) (vp_updL hf s.length (hf k)) (k + 1) R := r3.move fun i hi => by
      simp only [upd, vp_updL]
      rw [if_neg (by omega), if_neg (by omega)]
      exact ⟨rfl, rfl⟩
    obtain ⟨fuel', f, g, e, he, h1, h2⟩ := w_inner (N := N) (full := full) s r R k c m _ _ hk (by omega) h43 hF1 hF2 (by omega) (by omega)
    have hl := len_psh s r
    obtain ⟨vf', hf', e2, h3⟩ := ih (psh s r) (k + 1) c fuel' f g (by omega) (by omega) h43 h1 h2 (by rw [vol_psh]; omega) (by omega)
    refine ⟨vf', hf', ?_, h3⟩
    rw [gx_fxS]
    simp only [st_Water_mix, bk_Water_mix_4]
    simp (disch := omega) only [lt0, lt1, lt2, lt4, lt40, lt42, lt64, i3_add, i3_sub, i3_addn, i3_mul, i3_nat, i3_inT, i3_leT, i3_leF, i3_ltT, i3_ltF, i3_eqF, Option.bind_some, eq_self, ↓reduceIte]
    rw [e, e2]
    rfl
theorem w_mix {N : Nat} {full : Int32} {vf : Nat → Int32} {hf : Nat → Int64} (L : List Lay) (hR : Rg i3 vf hf 0 L) (hl : L.length ≤ 42) (hv : vol L ≤ 100000) (hN : 1000 ≤ N) : ∃ vf' hf', fn_Water_mix N full (i3 L.length) vf hf = some (i3 (mixL L).length, vf', hf') ∧ Rg i3 vf' hf' 0 (mixL L) := by
  obtain ⟨f, g, e, h1⟩ := w_outer (N := N) (full := full) L [] 0 L.length N vf hf (Nat.le_refl _) (by omega) hl trivial hR (by simp only [vol]; omega) (by simp only [List.length_nil]; omega)
  have hm := len_fold L []
  simp only [List.length_nil, Nat.zero_add] at hm
  unfold fn_Water_mix mixL
  simp only [List.length_nil] at e
  rw [lt0, e]
  generalize hM : (L.foldl psh []) = M at h1 hm ⊢
  by_cases c : M.length ≤ 40
  · refine ⟨f, g, ?_, ?_⟩
    · unfold fn_Water_joinLowest
      rw [show M.length - 40 = 0 by omega]
      simp (disch := omega) only [lt0, i3_subneg, ↓reduceIte, Option.bind_some, limN, List.length_reverse]
    · rw [show M.length - 40 = 0 by omega]
      exact h1
  · obtain ⟨A, x, B, hA, hAB⟩ : ∃ A x B, A.length = M.length - 40 ∧ M.reverse = A ++ x :: B := by
      have hlt : M.length - 40 < M.reverse.length := by rw [List.length_reverse]; omega
      refine ⟨M.reverse.take (M.length - 40), M.reverse[M.length - 40], M.reverse.drop (M.length - 40 + 1), ?_, ?_⟩
      · rw [List.length_take, List.length_reverse]; omega
      · rw [← List.drop_eq_getElem_cons hlt, List.take_append_drop]
    have hB : A.length + (B.length + 1) = M.length := by
      have := congrArg List.length hAB
      simp only [List.length_reverse, List.length_append, List.length_cons] at this
      omega
    rw [hAB] at h1 ⊢
    obtain ⟨f2, g2, e2, h2⟩ := w_joinLowest (N := N) (full := full) A B x h1 (by omega) (by omega) hN
    refine ⟨f2, g2, ?_, ?_⟩
    · rw [i3_sub (by omega), ← hA, ← hB, e2, limN_sum]
      simp only [Option.bind_some, List.length_cons]
    · rw [← hA, limN_sum]
      exact h2
