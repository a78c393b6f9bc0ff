section PM
variable {N : Nat} {qcode qn qcold qtime : Int32} {qV : Nat → Int32} {qamb qab qbe qrf qrt qrh qrs qrl qru qon qdr qdc : Nat → Int32} {qdn qdh qgi qlo : Nat → Int64} {qom : Nat → Int32}
theorem m_mix1 {t : Nat} (ht : t < 4) (hN : 1000 ≤ N) : ∀ (n : Nat) (s : List Lay) (x : Lay) (R : List Lay) (fuel : Nat) (qM : Nat → Int32) (qvol qh : Nat → Int64), 2 * R.length + s.length ≤ n → s.length + R.length ≤ 50 → n < fuel → Mrow t qM qvol qh ((x :: s).reverse ++ R) → ∃ fuel' qM' qvol' qh', gx_fx (st_Mod_mix N qcode qn qcold qtime qV qamb qab qbe qrf qrt qrh qrs qrl qru qon qdr qdc qdn qdh qgi qlo qom) fuel (.inl (i3 t, i3 s.length, qM, qvol, qh)) = gx_fx (st_Mod_mix N qcode qn qcold qtime qV qamb qab qbe qrf qrt qrh qrs qrl qru qon qdr qdc qdn qdh qgi qlo qom) fuel' (.inr (i3 t, qM', qvol', qh')) ∧ fuel ≤ fuel' + n + 1 ∧ Mrow t qM' qvol' qh' (R.foldl psh (x :: s)).reverse ∧ Fr t qM qvol qh qM' qvol' qh' := by
  intro n
  induction n with
  | zero =>
    intro s x R fuel qM qvol qh hn hl hfu hR
    have hR0 : R = [] := List.eq_nil_of_length_eq_zero (by omega)
    subst hR0
    obtain ⟨m, rfl⟩ : ∃ m, fuel = m + 1 := ⟨fuel - 1, by omega⟩
    have hM := hR.1
    simp only [List.append_nil, List.length_reverse, List.length_cons] at hM
    simp only [List.length_nil] at hl
    refine ⟨m, qM, qvol, qh, ?_, by omega, by simpa using hR, Fr.refl⟩
    rw [gx_fxS]
    simp only [st_Mod_mix, bk_Mod_mix_2]
    simp (disch := omega) only [lt1, i3_add, i3_nat, i3_inT, hM, i3_leT, ↓reduceIte]
  | succ n ih =>
    intro s x R fuel qM qvol qh hn hl hfu hR
    obtain ⟨m, rfl⟩ : ∃ m, fuel = m + 1 := ⟨fuel - 1, by omega⟩
    have hM := hR.1
    simp only [List.length_append, List.length_reverse, List.length_cons] at hM
    cases R with
    | nil =>
      simp only [List.length_nil, Nat.add_zero] at hM hl
      refine ⟨m, qM, qvol, qh, ?_, by omega, by simpa using hR, Fr.refl⟩
      rw [gx_fxS]
      simp only [st_Mod_mix, bk_Mod_mix_2]
      simp (disch := omega) only [lt1, i3_add, i3_nat, i3_inT, hM, i3_leT, ↓reduceIte]
    | cons r R =>
      simp only [List.length_cons] at hM hn hl
      have hR' : Mrow t qM qvol qh (s.reverse ++ x :: r :: R) := by
        simp only [List.reverse_cons, List.append_assoc, List.cons_append, List.nil_append] at hR
        exact hR
      obtain ⟨rA, x1, x2, y1, y2, rB⟩ := (Rg.app s.reverse (x :: r :: R) _).mp hR'.2
      rw [List.length_reverse] at x1 x2 y1 y2
      rw [gx_fxS]
      simp only [st_Mod_mix, bk_Mod_mix_2, lc_lt]
      simp (disch := omega) only [lt1, lt64, i3_add, i3_mul, i3_nat, i3_inT, hM, i3_leF, x1, x2, y1, y2, ↓reduceIte]
      by_cases c : wm x r = true
      · have c' : ¬ (x.2 * i6 r.1 < r.2 * i6 x.1) := by simpa [wm] using c
        rw [if_neg c']
        obtain ⟨a, b, d, e, h1, h2⟩ := m_join (N := N) (qcode := qcode) (qn := qn) (qcold := qcold) (qtime := qtime) (qV := qV) (qamb := qamb) (qab := qab) (qbe := qbe) (qrf := qrf) (qrt := qrt) (qrh := qrh) (qrs := qrs) (qrl := qrl) (qru := qru) (qon := qon) (qdr := qdr) (qdc := qdc) (qdn := qdn) (qdh := qdh) (qgi := qgi) (qlo := qlo) (qom := qom) ht s.reverse R x r hR' (by rw [List.length_reverse]; omega) hN
        rw [List.length_reverse] at e
        rw [e]
        simp only [Option.bind_some]
        cases s with
        | nil =>
          obtain ⟨fuel', a2, b2, d2, e2, h3, h4, h5⟩ := ih [] (jn x r) R m a b d (by simp only [List.length_nil] at hn ⊢; omega) (by simp only [List.length_nil] at hl ⊢; omega) (by omega) h1
          refine ⟨fuel', a2, b2, d2, ?_, by omega, ?_, h2.trans h5⟩
          · simp only [List.length_nil] at e2 ⊢
            simp (disch := omega) only [lt0, i3_leT, ↓reduceIte]
            exact e2
          · simp only [List.foldl_cons, psh, c, ↓reduceIte]
            exact h4
        | cons y s =>
          simp only [List.length_cons] at hn hl hM ⊢
          obtain ⟨fuel', a2, b2, d2, e2, h3, h4, h5⟩ := ih s y (jn x r :: R) m a b d (by simp only [List.length_cons]; omega) (by simp only [List.length_cons]; omega) (by omega) h1
          refine ⟨fuel', a2, b2, d2, ?_, by omega, ?_, h2.trans h5⟩
          · simp (disch := omega) only [lt0, lt1, i3_leF, i3_sub, ↓reduceIte]
            rw [show s.length + 1 - 1 = s.length by omega]
            exact e2
          · have : psh (x :: y :: s) r = psh (y :: s) (jn x r) := by rw [psh, if_pos c]
            simp only [List.foldl_cons] at h4 ⊢
            rw [this]
            exact h4
      · have c' : x.2 * i6 r.1 < r.2 * i6 x.1 := by
          simp only [wm, decide_eq_true_eq, Decidable.not_not] at c
          exact c
        rw [if_pos c']
        obtain ⟨fuel', a2, b2, d2, e2, h3, h4, h5⟩ := ih (x :: s) r R m qM qvol qh (by simp only [List.length_cons]; omega) (by simp only [List.length_cons]; omega) (by omega) (by simpa using hR')
        refine ⟨fuel', a2, b2, d2, e2, by omega, ?_, h5⟩
        have : psh (x :: s) r = r :: x :: s := by rw [psh, if_neg c]
        rw [List.foldl_cons, this]
        exact h4
theorem m_mix2 {t : Nat} (ht : t < 4) (hN : 1000 ≤ N) : ∀ (n : Nat) (L : List Lay) (fuel : Nat) (qM : Nat → Int32) (qvol qh : Nat → Int64), L.length - 40 = n → L.length ≤ 50 → n < fuel → Mrow t qM qvol qh L → ∃ qM' qvol' qh', gx_fx (st_Mod_mix N qcode qn qcold qtime qV qamb qab qbe qrf qrt qrh qrs qrl qru qon qdr qdc qdn qdh qgi qlo qom) fuel (.inr (i3 t, qM, qvol, qh)) = some (qM', qvol', qh') ∧ Mrow t qM' qvol' qh' (limN n L) ∧ Fr t qM qvol qh qM' qvol' qh' := by
  intro n
  induction n with
  | zero =>
    intro L fuel qM qvol qh hn hl hfu hR
    obtain ⟨m, rfl⟩ : ∃ m, fuel = m + 1 := ⟨fuel - 1, by omega⟩
    have hM := hR.1
    refine ⟨qM, qvol, qh, ?_, hR, Fr.refl⟩
    rw [gx_fxS]
    simp only [st_Mod_mix, bk_Mod_mix_82]
    simp (disch := omega) only [lt40, i3_nat, i3_inT, hM, i3_leT, ↓reduceIte]
  | succ n ih =>
    intro L fuel qM qvol qh hn hl hfu hR
    obtain ⟨m, rfl⟩ : ∃ m, fuel = m + 1 := ⟨fuel - 1, by omega⟩
    have hM := hR.1
    match L, hn, hl, hR, hM with
    | [], hn, hl, hR, hM => simp at hn
    | [x], hn, hl, hR, hM => simp at hn
    | x :: y :: L, hn, hl, hR, hM =>
      simp only [List.length_cons] at hn hl hM
      obtain ⟨a, b, d, e, h1, h2⟩ := m_join (N := N) (qcode := qcode) (qn := qn) (qcold := qcold) (qtime := qtime) (qV := qV) (qamb := qamb) (qab := qab) (qbe := qbe) (qrf := qrf) (qrt := qrt) (qrh := qrh) (qrs := qrs) (qrl := qrl) (qru := qru) (qon := qon) (qdr := qdr) (qdc := qdc) (qdn := qdn) (qdh := qdh) (qgi := qgi) (qlo := qlo) (qom := qom) ht [] L x y hR (by simp only [List.length_nil]; omega) hN
      obtain ⟨a2, b2, d2, e2, h3, h4⟩ := ih (jn x y :: L) m a b d (by simp only [List.length_cons]; omega) (by simp only [List.length_cons]; omega) (by omega) h1
      refine ⟨a2, b2, d2, ?_, h3, h2.trans h4⟩
      rw [gx_fxS]
      simp only [st_Mod_mix, bk_Mod_mix_82]
      simp (disch := omega) only [lt0, lt40, i3_nat, i3_inT, hM, i3_leF, ↓reduceIte]
      simp only [List.length_nil] at e
      rw [e]
      exact e2
theorem m_mix {t : Nat} {qM : Nat → Int32} {qvol qh : Nat → Int64} (ht : t < 4) (hN : 1000 ≤ N) (L : List Lay) (hL : L ≠ []) (hl : L.length ≤ 45) (hR : Mrow t qM qvol qh L) : ∃ qM' qvol' qh', fn_Mod_mix N (i3 t) qcode qn qcold qtime qV qM qvol qh qamb qab qbe qrf qrt qrh qrs qrl qru qon qdr qdc qdn qdh qgi qlo qom = some (qM', qvol', qh') ∧ Mrow t qM' qvol' qh' (mixL L) ∧ Fr t qM qvol qh qM' qvol' qh' := by
  cases L with
  | nil => exact absurd rfl hL
  | cons x R =>
    simp only [List.length_cons] at hl
    obtain ⟨fuel', a, b, d, e, h1, h2, h3⟩ := m_mix1 (N := N) (qcode := qcode) (qn := qn) (qcold := qcold) (qtime := qtime) (qV := qV) (qamb := qamb) (qab := qab) (qbe := qbe) (qrf := qrf) (qrt := qrt) (qrh := qrh) (qrs := qrs) (qrl := qrl) (qru := qru) (qon := qon) (qdr := qdr) (qdc := qdc) (qdn := qdn) (qdh := qdh) (qgi := qgi) (qlo := qlo) (qom := qom) ht hN (2 * R.length) [] x R N qM qvol qh (by simp) (by simp only [List.length_nil]; omega) (by omega) hR
    have hlen := len_fold R [x]
    simp only [List.length_cons, List.length_nil] at hlen
    obtain ⟨a2, b2, d2, e2, h4, h5⟩ := m_mix2 (N := N) (qcode := qcode) (qn := qn) (qcold := qcold) (qtime := qtime) (qV := qV) (qamb := qamb) (qab := qab) (qbe := qbe) (qrf := qrf) (qrt := qrt) (qrh := qrh) (qrs := qrs) (qrl := qrl) (qru := qru) (qon := qon) (qdr := qdr) (qdc := qdc) (qdn := qdn) (qdh := qdh) (qgi := qgi) (qlo := qlo) (qom := qom) ht hN _ _ fuel' a b d rfl (by rw [List.length_reverse]; omega) (by rw [List.length_reverse]; omega) h2
    refine ⟨a2, b2, d2, ?_, ?_, h3.trans h5⟩
    · unfold fn_Mod_mix
      simp only [List.length_nil] at e
      rw [lt0, e, e2]
    · rw [List.length_reverse] at h4
      exact h4
theorem m_aboveSum {t v : Nat} {qM : Nat → Int32} {qvol qh : Nat → Int64} (ht : t < 4) : ∀ (B A : List Lay) (fuel : Nat), Mrow t qM qvol qh (A ++ B) → A.length + B.length ≤ 60 → B.length < fuel → ∃ m, gx_fx (st_Mod_takeAbove N qcode qn qcold qtime qV qamb qab qbe qrf qrt qrh qrs qrl qru qon qdr qdc qdn qdh qgi qlo qom) fuel (.inl (i3 t, i6 v, i6 (vol A), i3 A.length, qM, qvol, qh)) = gx_fx (st_Mod_takeAbove N qcode qn qcold qtime qV qamb qab qbe qrf qrt qrh qrs qrl qru qon qdr qdc qdn qdh qgi qlo qom) (m + 1) (.inl (i3 t, i6 v, i6 (vol A + vol B), i3 (A.length + B.length), qM, qvol, qh)) ∧ fuel = m + 1 + B.length := by
  intro B
  induction B with
  | nil =>
    intro A fuel hR hl hfu
    obtain ⟨m, rfl⟩ : ∃ m, fuel = m + 1 := ⟨fuel - 1, by omega⟩
    exact ⟨m, rfl, rfl⟩
  | cons x B ih =>
    intro A fuel hR hl hfu
    simp only [List.length_cons] at hl hfu
    obtain ⟨m, rfl⟩ : ∃ m, fuel = m + 1 := ⟨fuel - 1, by omega⟩
    have hM := hR.1
    simp only [List.length_append, List.length_cons] at hM
    obtain ⟨rA, x1, x2, rB⟩ := (Rg.app A (x :: B) _).mp hR.2
    obtain ⟨m', e, he⟩ := ih (A ++ [x]) m (by rw [List.append_assoc]; exact hR) (by simp only [List.length_append, List.length_cons, List.length_nil]; omega) (by omega)
    refine ⟨m', ?_, by simp only [List.length_cons]; omega⟩
    rw [gx_fxS]
    simp only [st_Mod_takeAbove, bk_Mod_takeAbove_6]
    simp (disch := omega) only [lt1, lt64, i3_add, i3_mul, i3_nat, i3_inT, hM, i3_leF, x1, i6_add, ↓reduceIte]
    simp only [vol_app, vol, Nat.add_zero, List.length_append, List.length_cons, List.length_nil, Nat.zero_add] at e ⊢
    rw [e, Nat.add_assoc, Nat.add_assoc, Nat.add_comm 1]
theorem m_aboveTake {t : Nat} {qvol qh : Nat → Int64} (ht : t < 4) : ∀ (n : Nat) (A B : List Lay) (fuel : Nat) (acc : Int64) (qM : Nat → Int32), B.length = n → Mrow t qM qvol qh (A ++ B) → A.length + B.length ≤ 60 → n < fuel → ∃ qM', gx_fx (st_Mod_takeAbove N qcode qn qcold qtime qV qamb qab qbe qrf qrt qrh qrs qrl qru qon qdr qdc qdn qdh qgi qlo qom) fuel (.inr (i3 t, i3 A.length, acc, qM, qvol, qh)) = some (acc + hsm B, qM', qvol, qh) ∧ Mrow t qM' qvol qh A ∧ Fr t qM qvol qh qM' qvol qh := by
  intro n
  induction n with
  | zero =>
    intro A B fuel acc qM hB hR hl hfu
    have : B = [] := List.eq_nil_of_length_eq_zero hB
    subst this
    obtain ⟨m, rfl⟩ : ∃ m, fuel = m + 1 := ⟨fuel - 1, by omega⟩
    rw [List.append_nil] at hR
    have hM := hR.1
    simp only [List.length_nil] at hl
    refine ⟨qM, ?_, hR, Fr.refl⟩
    rw [gx_fxS]
    simp only [st_Mod_takeAbove, bk_Mod_takeAbove_54, hsm, Int64.add_zero]
    simp (disch := omega) only [i3_nat, i3_inT, hM, i3_leT, ↓reduceIte]
  | succ n ih =>
    intro A B fuel acc qM hB hR hl hfu
    obtain ⟨m, rfl⟩ : ∃ m, fuel = m + 1 := ⟨fuel - 1, by omega⟩
    have hne : B ≠ [] := by intro h; rw [h] at hB; simp at hB
    obtain ⟨B0, y, hBy⟩ : ∃ B0 y, B = B0 ++ [y] := ⟨B.dropLast, B.getLast hne, (List.dropLast_concat_getLast hne).symm⟩
    subst hBy
    simp only [List.length_append, List.length_cons, List.length_nil] at hB hl
    have hM := hR.1
    simp only [List.length_append, List.length_cons, List.length_nil] at hM
    have hR2 := hR.2
    rw [← List.append_assoc] at hR2
    obtain ⟨rA, y1, y2, -⟩ := (Rg.app (A ++ B0) [y] _).mp hR2
    rw [List.length_append] at y1 y2
    obtain ⟨qM', e, h1, h2⟩ := ih A B0 m (acc + y.2) (upd qM t (i3 (A.length + B0.length))) (by omega) ⟨by simp only [upd, ↓reduceIte, List.length_append], rA⟩ (by omega) (by omega)
    refine ⟨qM', ?_, h1, ?_⟩
    · rw [gx_fxS]
      simp only [st_Mod_takeAbove, bk_Mod_takeAbove_54]
      simp (disch := omega) only [lt1, lt64, i3_add, i3_sub, i3_mul, i3_nat, i3_inT, hM, i3_leF, upd, ↓reduceIte]
      rw [show A.length + (B0.length + (0 + 1)) - 1 = A.length + B0.length by omega]
      simp (disch := omega) only [i3_add, i3_nat, i3_inT, y2, ↓reduceIte]
      rw [e, hsm_app, hsm, hsm, Int64.add_zero, Int64.add_assoc, Int64.add_comm y.2]
    · refine ⟨fun j hj => ?_, fun i hi => ⟨rfl, rfl⟩⟩
      rw [h2.1 j hj]
      simp only [upd, if_neg hj]
theorem m_above {t : Nat} {qM : Nat → Int32} {qvol qh : Nat → Int64} (ht : t < 4) (hN : 1000 ≤ N) (L : List Lay) (full v : Nat) (hv : v ≤ full) (hF : full ≤ 100000) (hV : vol L = full) (hP : Pv L) (hl : L.length ≤ 45) (hR : Mrow t qM qvol qh L) : ∃ qM' qvol' qh', fn_Mod_takeAbove N (i3 t) (i6 v) qcode qn qcold qtime qV qM qvol qh qamb qab qbe qrf qrt qrh qrs qrl qru qon qdr qdc qdn qdh qgi qlo qom = some (hsm (cutL (full - v) L).2, qM', qvol', qh') ∧ Mrow t qM' qvol' qh' (cutL (full - v) L).1 ∧ Fr t qM qvol qh qM' qvol' qh' := by
  obtain ⟨m, e, he⟩ := m_aboveSum (N := N) (qcode := qcode) (qn := qn) (qcold := qcold) (qtime := qtime) (qV := qV) (qamb := qamb) (qab := qab) (qbe := qbe) (qrf := qrf) (qrt := qrt) (qrh := qrh) (qrs := qrs) (qrl := qrl) (qru := qru) (qon := qon) (qdr := qdr) (qdc := qdc) (qdn := qdn) (qdh := qdh) (qgi := qgi) (qlo := qlo) (qom := qom) (v := v) ht L [] N hR (by simp only [List.length_nil]; omega) (by omega)
  obtain ⟨a, b, c, e2, h1, h2⟩ := m_cut (N := N) (qcode := qcode) (qn := qn) (qcold := qcold) (qtime := qtime) (qV := qV) (qamb := qamb) (qab := qab) (qbe := qbe) (qrf := qrf) (qrt := qrt) (qrh := qrh) (qrs := qrs) (qrl := qrl) (qru := qru) (qon := qon) (qdr := qdr) (qdc := qdc) (qdn := qdn) (qdh := qdh) (qgi := qgi) (qlo := qlo) (qom := qom) ht hN L (full - v) (by omega) (by omega) hP (by omega) hR
  have hlc := len_cut L (full - v)
  obtain ⟨a3, e3, h3, h4⟩ := m_aboveTake (N := N) (qcode := qcode) (qn := qn) (qcold := qcold) (qtime := qtime) (qV := qV) (qamb := qamb) (qab := qab) (qbe := qbe) (qrf := qrf) (qrt := qrt) (qrh := qrh) (qrs := qrs) (qrl := qrl) (qru := qru) (qon := qon) (qdr := qdr) (qdc := qdc) (qdn := qdn) (qdh := qdh) (qgi := qgi) (qlo := qlo) (qom := qom) ht _ _ _ m 0 a rfl h1 (by omega) (by omega)
  refine ⟨a3, b, c, ?_, h3, h2.trans h4⟩
  have hM := hR.1
  unfold fn_Mod_takeAbove
  simp only [vol, List.length_nil, Nat.zero_add] at e
  rw [lt0, lL0, e, gx_fxS]
  simp only [st_Mod_takeAbove, bk_Mod_takeAbove_6]
  simp (disch := omega) only [i3_nat, i3_inT, hM, i3_leT, hV, i6_sub, ↓reduceIte]
  rw [e2]
  simp only [Option.bind_some]
  rw [e3, Int64.zero_add]
theorem m_belowLoop {t to : Nat} (ht : t < 4) (hN : 1000 ≤ N) : ∀ (C D : List Lay) (j fuel : Nat) (acc : Int64) (qM : Nat → Int32) (qvol qh : Nat → Int64), j + C.length = to → to ≤ 60 → C.length + D.length ≤ 60 → Mrow t qM qvol qh (C ++ D) → C.length < fuel → ∃ qM' qvol' qh', gx_fx (st_Mod_takeBelow N qcode qn qcold qtime qV qamb qab qbe qrf qrt qrh qrs qrl qru qon qdr qdc qdn qdh qgi qlo qom) fuel (i3 t, i3 to, acc, i3 j, qM, qvol, qh) = some (acc + hsm C, qM', qvol', qh') ∧ Mrow t qM' qvol' qh' D ∧ Fr t qM qvol qh qM' qvol' qh' := by
  intro C
  induction C with
  | nil =>
    intro D j fuel acc qM qvol qh hj h60 hl hR hfu
    obtain ⟨m, rfl⟩ : ∃ m, fuel = m + 1 := ⟨fuel - 1, by omega⟩
    simp only [List.length_nil] at hj
    refine ⟨qM, qvol, qh, ?_, hR, Fr.refl⟩
    rw [gx_fxS]
    simp only [st_Mod_takeBelow, bk_Mod_takeBelow_14, hsm, Int64.add_zero]
    simp (disch := omega) only [i3_leT, ↓reduceIte]
  | cons x C ih =>
    intro D j fuel acc qM qvol qh hj h60 hl hR hfu
    simp only [List.length_cons] at hj hl hfu
    obtain ⟨m, rfl⟩ : ∃ m, fuel = m + 1 := ⟨fuel - 1, by omega⟩
    obtain ⟨a, b, c, e, h1, h2⟩ := m_remove (N := N) (qcode := qcode) (qn := qn) (qcold := qcold) (qtime := qtime) (qV := qV) (qamb := qamb) (qab := qab) (qbe := qbe) (qrf := qrf) (qrt := qrt) (qrh := qrh) (qrs := qrs) (qrl := qrl) (qru := qru) (qon := qon) (qdr := qdr) (qdc := qdc) (qdn := qdn) (qdh := qdh) (qgi := qgi) (qlo := qlo) (qom := qom) ht [] (C ++ D) x hR (by simp only [List.length_nil, List.length_append]; omega) hN
    obtain ⟨a2, b2, c2, e2, h3, h4⟩ := ih D (j + 1) m (acc + x.2) a b c (by omega) h60 (by omega) h1 (by omega)
    have hx := hR.2.2.1
    refine ⟨a2, b2, c2, ?_, h3, h2.trans h4⟩
    rw [gx_fxS]
    simp only [st_Mod_takeBelow, bk_Mod_takeBelow_14]
    simp (disch := omega) only [lt0, lt1, lt64, i3_add, i3_mul, i3_nat, i3_inT, i3_leF, hx, ↓reduceIte]
    simp only [List.length_nil] at e
    rw [e]
    simp only [Option.bind_some]
    rw [e2, hsm, Int64.add_assoc]
theorem m_below {t : Nat} {qM : Nat → Int32} {qvol qh : Nat → Int64} (ht : t < 4) (hN : 1000 ≤ N) (L : List Lay) (v : Nat) (hv : v ≤ 100000) (hV : vol L ≤ 100000) (hP : Pv L) (hl : L.length ≤ 45) (hR : Mrow t qM qvol qh L) : ∃ qM' qvol' qh', fn_Mod_takeBelow N (i3 t) (i6 v) qcode qn qcold qtime qV qM qvol qh qamb qab qbe qrf qrt qrh qrs qrl qru qon qdr qdc qdn qdh qgi qlo qom = some (hsm (cutL v L).1, qM', qvol', qh') ∧ Mrow t qM' qvol' qh' (cutL v L).2 ∧ Fr t qM qvol qh qM' qvol' qh' := by
  obtain ⟨a, b, c, e, h1, h2⟩ := m_cut (N := N) (qcode := qcode) (qn := qn) (qcold := qcold) (qtime := qtime) (qV := qV) (qamb := qamb) (qab := qab) (qbe := qbe) (qrf := qrf) (qrt := qrt) (qrh := qrh) (qrs := qrs) (qrl := qrl) (qru := qru) (qon := qon) (qdr := qdr) (qdc := qdc) (qdn := qdn) (qdh := qdh) (qgi := qgi) (qlo := qlo) (qom := qom) ht hN L v hv hV hP (by omega) hR
  have hlc := len_cut L v
  obtain ⟨a2, b2, c2, e2, h3, h4⟩ := m_belowLoop (N := N) (qcode := qcode) (qn := qn) (qcold := qcold) (qtime := qtime) (qV := qV) (qamb := qamb) (qab := qab) (qbe := qbe) (qrf := qrf) (qrt := qrt) (qrh := qrh) (qrs := qrs) (qrl := qrl) (qru := qru) (qon := qon) (qdr := qdr) (qdc := qdc) (qdn := qdn) (qdh := qdh) (qgi := qgi) (qlo := qlo) (qom := qom) ht hN _ _ 0 N 0 a b c (Nat.zero_add _) (by omega) (by omega) h1 (by omega)
  refine ⟨a2, b2, c2, ?_, h3, h2.trans h4⟩
  unfold fn_Mod_takeBelow
  rw [e]
  simp only [Option.bind_some]
  rw [lt0, e2, Int64.zero_add]
theorem m_charge {t : Nat} {qM : Nat → Int32} {qvol qh : Nat → Int64} {T : Int64} (ht : t < 4) (hN : 1000 ≤ N) (L : List Lay) (full h v : Nat) (hfull : qV t = i3 full) (hh : h ≤ 100000) (hv : v ≤ full) (hF : full ≤ 100000) (hV : vol L = full) (hP : Pv L) (hl : L.length ≤ 40) (hR : Mrow t qM qvol qh L) : ∃ qM' qvol' qh', fn_Mod_chargeWith N (i3 t) (i6 h) (i6 v) T qcode qn qcold qtime qV qM qvol qh qamb qab qbe qrf qrt qrh qrs qrl qru qon qdr qdc qdn qdh qgi qlo qom = some ((excL full h v (i6 v * T) L).1, qM', qvol', qh') ∧ Mrow t qM' qvol' qh' (excL full h v (i6 v * T) L).2 ∧ Fr t qM qvol qh qM' qvol' qh' := by
  obtain ⟨a, b, c, e, h1, h2⟩ := m_above (N := N) (qcode := qcode) (qn := qn) (qcold := qcold) (qtime := qtime) (qV := qV) (qamb := qamb) (qab := qab) (qbe := qbe) (qrf := qrf) (qrt := qrt) (qrh := qrh) (qrs := qrs) (qrl := qrl) (qru := qru) (qon := qon) (qdr := qdr) (qdc := qdc) (qdn := qdn) (qdh := qdh) (qgi := qgi) (qlo := qlo) (qom := qom) ht hN L full v hv hF hV hP (by omega) hR
  have hlc := len_cut L (full - v)
  have hpc := pv_cut L (full - v) hP
  have hvc := vol_cut L (full - v) (by omega)
  have hlc2 := len_cut (cutL (full - v) L).1 (min h (full - v))
  obtain ⟨a2, b2, c2, e2, h3, h4⟩ := m_cut (N := N) (qcode := qcode) (qn := qn) (qcold := qcold) (qtime := qtime) (qV := qV) (qamb := qamb) (qab := qab) (qbe := qbe) (qrf := qrf) (qrt := qrt) (qrh := qrh) (qrs := qrs) (qrl := qrl) (qru := qru) (qon := qon) (qdr := qdr) (qdc := qdc) (qdn := qdn) (qdh := qdh) (qgi := qgi) (qlo := qlo) (qom := qom) ht hN _ (min h (full - v)) (by omega) (by omega) hpc.1 (by omega) h1
  obtain ⟨a3, b3, c3, e3, h5, h6⟩ := m_insert (N := N) (qcode := qcode) (qn := qn) (qcold := qcold) (qtime := qtime) (qV := qV) (qamb := qamb) (qab := qab) (qbe := qbe) (qrf := qrf) (qrt := qrt) (qrh := qrh) (qrs := qrs) (qrl := qrl) (qru := qru) (qon := qon) (qdr := qdr) (qdc := qdc) (qdn := qdn) (qdh := qdh) (qgi := qgi) (qlo := qlo) (qom := qom) ht _ _ (v, i6 v * T) h3 (by omega) hN
  obtain ⟨a4, b4, c4, e4, h7, h8⟩ := m_mix (N := N) (qcode := qcode) (qn := qn) (qcold := qcold) (qtime := qtime) (qV := qV) (qamb := qamb) (qab := qab) (qbe := qbe) (qrf := qrf) (qrt := qrt) (qrh := qrh) (qrs := qrs) (qrl := qrl) (qru := qru) (qon := qon) (qdr := qdr) (qdc := qdc) (qdn := qdn) (qdh := qdh) (qgi := qgi) (qlo := qlo) (qom := qom) ht hN _ (by simp) (by simp only [List.length_append, List.length_cons]; omega) h5
  refine ⟨a4, b4, c4, ?_, h7, ((h2.trans h4).trans h6).trans h8⟩
  unfold fn_Mod_chargeWith
  rw [e]
  simp only [Option.bind_some, lc_ge]
  simp (disch := omega) only [i3_nat, i3_inT, hfull, i3_long, i6_sub, ↓reduceIte]
  simp only at e3
  by_cases cc : full - v ≤ h
  · rw [Nat.min_eq_right cc] at e2 e3
    simp (disch := omega) only [i6_leT, ↓reduceIte]
    rw [e2]
    simp only [Option.bind_some]
    rw [e3]
    simp only [Option.bind_some]
    rw [e4]
    rfl
  · rw [Nat.min_eq_left (by omega)] at e2 e3
    simp (disch := omega) only [i6_leF, ↓reduceIte]
    rw [e2]
    simp only [Option.bind_some]
    rw [e3]
    simp only [Option.bind_some]
    rw [e4]
    rfl
end PM
