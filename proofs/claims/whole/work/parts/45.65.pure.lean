def Mrow (t : Nat) (qM : Nat → Int32) (qvol qh : Nat → Int64) (L : List Lay) : Prop := qM t = i3 L.length ∧ Rg i6 qvol qh (64 * t) L
def Fr (t : Nat) (qM : Nat → Int32) (qvol qh : Nat → Int64) (qM' : Nat → Int32) (qvol' qh' : Nat → Int64) : Prop := (∀ j, j ≠ t → qM' j = qM j) ∧ ∀ i, (i < 64 * t ∨ 64 * t + 64 ≤ i) → qvol' i = qvol i ∧ qh' i = qh i
theorem Fr.refl {t : Nat} {qM : Nat → Int32} {qvol qh : Nat → Int64} : Fr t qM qvol qh qM qvol qh := ⟨fun _ _ => rfl, fun _ _ => ⟨rfl, rfl⟩⟩
theorem Fr.trans {t : Nat} {a a' a'' : Nat → Int32} {b b' b'' c c' c'' : Nat → Int64} (h : Fr t a b c a' b' c') (h' : Fr t a' b' c' a'' b'' c'') : Fr t a b c a'' b'' c'' :=
  ⟨fun j hj => (h'.1 j hj).trans (h.1 j hj), fun i hi => ⟨(h'.2 i hi).1.trans (h.2 i hi).1, (h'.2 i hi).2.trans (h.2 i hi).2⟩⟩
theorem Fr.row {t j : Nat} {a a' : Nat → Int32} {b b' c c' : Nat → Int64} {L : List Lay} (h : Fr t a b c a' b' c') (hj : j ≠ t) (hl : L.length ≤ 64) (hr : Mrow j a b c L) : Mrow j a' b' c' L :=
  ⟨(h.1 j hj).trans hr.1, hr.2.move fun i hi => h.2 _ (by omega)⟩
section PM
variable {N : Nat} {qcode qn qcold qtime : Int32} {qV : Nat → Int32} {qamb qab qbe qrf qrt qrh qrs qrl qru qon qdr qdc : Nat → Int32} {qdn qdh qgi qlo : Nat → Int64} {qom : Nat → Int32}
theorem m_insLoop {t : Nat} {v h : Int64} {qM : Nat → Int32} (ht : t < 4) : ∀ (d p n fuel : Nat) (qvol qh : Nat → Int64), n = p + d → n ≤ 62 → d < fuel → ∃ qvol' qh', gx_fx (st_Mod_insert N qcode qn qcold qtime qV qamb qab qbe qrf qrt qrh qrs qrl qru qon qdr qdc qdn qdh qgi qlo qom) fuel (i3 t, i3 p, v, h, i3 n, qM, qvol, qh) = some (upd qM t (qM t + i3 1), vp_updL qvol' (64 * t + p) v, vp_updL qh' (64 * t + p) h) ∧ Up qvol qvol' (64 * t + p) (64 * t + n) ∧ Up qh qh' (64 * t + p) (64 * t + n) := by
  intro d
  induction d with
  | zero =>
    intro p n fuel vf hf hn h42 hfu
    obtain ⟨m, rfl⟩ : ∃ m, fuel = m + 1 := ⟨fuel - 1, by omega⟩
    refine ⟨vf, hf, ?_, fun i => ?_, fun i => ?_⟩
    · rw [gx_fxS]
      simp only [st_Mod_insert, bk_Mod_insert_8]
      simp (disch := omega) only [lt0, lt1, lt2, lt4, lt40, lt42, lt64, i3_add, i3_sub, i3_addn, i3_mul, i3_nat, i3_inT, i3_leT, i3_leF, i3_ltT, i3_ltF, i3_eqF, Option.bind_some, eq_self, ↓reduceIte]
    · rw [if_neg (by omega)]
    · rw [if_neg (by omega)]
  | succ d ih =>
    intro p n fuel vf hf hn h42 hfu
    obtain ⟨m, rfl⟩ : ∃ m, fuel = m + 1 := ⟨fuel - 1, by omega⟩
    obtain ⟨vf', hf', e, h1, h2⟩ := ih p (n - 1) m (vp_updL vf (64 * t + n) (vf (64 * t + n - 1))) (vp_updL hf (64 * t + n) (hf (64 * t + n - 1))) (by omega) (by omega) (by omega)
    refine ⟨vf', hf', ?_, fun i => ?_, fun i => ?_⟩
    · rw [gx_fxS]
      simp only [st_Mod_insert, bk_Mod_insert_8]
      simp (disch := omega) only [lt0, lt1, lt2, lt4, lt40, lt42, lt64, i3_add, i3_sub, i3_addn, i3_mul, i3_nat, i3_inT, i3_leT, i3_leF, i3_ltT, i3_ltF, i3_eqF, Option.bind_some, eq_self, ↓reduceIte]
      exact e
    · rw [h1 i]
      simp only [vp_updL]
      (repeat' split) <;> first | rfl | (exfalso; omega) | (congr 1; omega)
    · rw [h2 i]
      simp only [vp_updL]
      (repeat' split) <;> first | rfl | (exfalso; omega) | (congr 1; omega)
theorem m_insert {t : Nat} {qM : Nat → Int32} {qvol qh : Nat → Int64} (ht : t < 4) (A B : List Lay) (x : Lay) (hR : Mrow t qM qvol qh (A ++ B)) (hl : A.length + B.length ≤ 60) (hN : 1000 ≤ N) : ∃ qM' qvol' qh', fn_Mod_insert N (i3 t) (i3 A.length) (i6 x.1) x.2 qcode qn qcold qtime qV qM qvol qh qamb qab qbe qrf qrt qrh qrs qrl qru qon qdr qdc qdn qdh qgi qlo qom = some (qM', qvol', qh') ∧ Mrow t qM' qvol' qh' (A ++ x :: B) ∧ Fr t qM qvol qh qM' qvol' qh' := by
  obtain ⟨hM, hR⟩ := hR
  rw [List.length_append] at hM
  obtain ⟨f, g, e, h1, h2⟩ := m_insLoop (N := N) (qcode := qcode) (qn := qn) (qcold := qcold) (qtime := qtime) (qV := qV) (qamb := qamb) (qab := qab) (qbe := qbe) (qrf := qrf) (qrt := qrt) (qrh := qrh) (qrs := qrs) (qrl := qrl) (qru := qru) (qon := qon) (qdr := qdr) (qdc := qdc) (qdn := qdn) (qdh := qdh) (qgi := qgi) (qlo := qlo) (qom := qom) (v := i6 x.1) (h := x.2) (qM := qM) ht B.length A.length (A.length + B.length) N qvol qh rfl (by omega) (by omega)
  refine ⟨upd qM t (qM t + i3 1), vp_updL f (64 * t + A.length) (i6 x.1), vp_updL g (64 * t + A.length) x.2, ?_, ⟨?_, Rg.ins x hR rfl (by omega) h1 h2 (fun i => rfl) (fun i => rfl)⟩, ?_, ?_⟩
  · unfold fn_Mod_insert
    simp (disch := omega) only [i3_nat, i3_inT, hM, ↓reduceIte]
    rw [hM] at e
    exact e
  · simp only [upd, ↓reduceIte, hM, i3_add, List.length_append, List.length_cons, Nat.add_assoc]
  · intro j hj
    simp only [upd, if_neg hj]
  · intro i hi
    simp only [vp_updL]
    rw [if_neg (by omega), if_neg (by omega), h1, h2, if_neg (by omega), if_neg (by omega)]
    exact ⟨rfl, rfl⟩
theorem m_remLoop {t n : Nat} {qM : Nat → Int32} (ht : t < 4) (hM : qM t = i3 n) (hn : n ≤ 62) : ∀ (d p fuel : Nat) (qvol qh : Nat → Int64), n = p + d → d < fuel → ∃ qvol' qh', gx_fx (st_Mod_remove N qcode qn qcold qtime qV qamb qab qbe qrf qrt qrh qrs qrl qru qon qdr qdc qdn qdh qgi qlo qom) fuel (i3 t, i3 p, qM, qvol, qh) = some (qM, qvol', qh') ∧ Dw qvol qvol' 1 (64 * t + p + 1) (64 * t + n + 1) ∧ Dw qh qh' 1 (64 * t + p + 1) (64 * t + n + 1) := by
  intro d
  induction d with
  | zero =>
    intro p fuel vf hf hp hfu
    obtain ⟨m, rfl⟩ : ∃ m, fuel = m + 1 := ⟨fuel - 1, by omega⟩
    refine ⟨vf, hf, ?_, fun i => ?_, fun i => ?_⟩
    · rw [gx_fxS]
      simp only [st_Mod_remove, bk_Mod_remove_12]
      simp (disch := omega) only [i3_nat, i3_inT, hM, i3_leT, ↓reduceIte]
    · rw [if_neg (by omega)]
    · rw [if_neg (by omega)]
  | succ d ih =>
    intro p fuel vf hf hp hfu
    obtain ⟨m, rfl⟩ : ∃ m, fuel = m + 1 := ⟨fuel - 1, by omega⟩
    obtain ⟨vf', hf', e, h1, h2⟩ := ih (p + 1) m (vp_updL vf (64 * t + p) (vf (64 * t + p + 1))) (vp_updL hf (64 * t + p) (hf (64 * t + p + 1))) (by omega) (by omega)
    refine ⟨vf', hf', ?_, fun i => ?_, fun i => ?_⟩
    · rw [gx_fxS]
      simp only [st_Mod_remove, bk_Mod_remove_12]
      simp (disch := omega) only [lt1, lt64, i3_add, i3_mul, i3_nat, i3_inT, hM, i3_leF, ↓reduceIte]
      exact e
    · rw [h1 i]
      simp only [vp_updL]
      (repeat' split) <;> first | rfl | (exfalso; omega) | (congr 1; omega)
    · rw [h2 i]
      simp only [vp_updL]
      (repeat' split) <;> first | rfl | (exfalso; omega) | (congr 1; omega)
theorem m_remove {t : Nat} {qM : Nat → Int32} {qvol qh : Nat → Int64} (ht : t < 4) (A B : List Lay) (x : Lay) (hR : Mrow t qM qvol qh (A ++ x :: B)) (hl : A.length + B.length ≤ 60) (hN : 1000 ≤ N) : ∃ qM' qvol' qh', fn_Mod_remove N (i3 t) (i3 A.length) qcode qn qcold qtime qV qM qvol qh qamb qab qbe qrf qrt qrh qrs qrl qru qon qdr qdc qdn qdh qgi qlo qom = some (qM', qvol', qh') ∧ Mrow t qM' qvol' qh' (A ++ B) ∧ Fr t qM qvol qh qM' qvol' qh' := by
  obtain ⟨hM, hR⟩ := hR
  rw [List.length_append, List.length_cons] at hM
  have hM2 : upd qM t (i3 (A.length + B.length)) t = i3 (A.length + B.length) := by simp only [upd, ↓reduceIte]
  obtain ⟨f, g, e, h1, h2⟩ := m_remLoop (N := N) (qcode := qcode) (qn := qn) (qcold := qcold) (qtime := qtime) (qV := qV) (qamb := qamb) (qab := qab) (qbe := qbe) (qrf := qrf) (qrt := qrt) (qrh := qrh) (qrs := qrs) (qrl := qrl) (qru := qru) (qon := qon) (qdr := qdr) (qdc := qdc) (qdn := qdn) (qdh := qdh) (qgi := qgi) (qlo := qlo) (qom := qom) ht hM2 (by omega) B.length A.length N qvol qh rfl (by omega)
  refine ⟨upd qM t (i3 (A.length + B.length)), f, g, ?_, ⟨hM2.trans (by rw [List.length_append]), Rg.rem hR rfl (by omega) h1 h2⟩, ?_, ?_⟩
  · unfold fn_Mod_remove
    simp (disch := omega) only [lt1, i3_nat, i3_inT, hM, i3_sub, ↓reduceIte]
    rw [show A.length + (B.length + 1) - 1 = A.length + B.length by omega]
    exact e
  · intro j hj
    simp only [upd, if_neg hj]
  · intro i hi
    rw [h1, h2, if_neg (by omega), if_neg (by omega)]
    exact ⟨rfl, rfl⟩
theorem m_join {t : Nat} {qM : Nat → Int32} {qvol qh : Nat → Int64} (ht : t < 4) (A B : List Lay) (x y : Lay) (hR : Mrow t qM qvol qh (A ++ x :: y :: B)) (hl : A.length + B.length ≤ 58) (hN : 1000 ≤ N) : ∃ qM' qvol' qh', fn_Mod_join N (i3 t) (i3 A.length) qcode qn qcold qtime qV qM qvol qh qamb qab qbe qrf qrt qrh qrs qrl qru qon qdr qdc qdn qdh qgi qlo qom = some (qM', qvol', qh') ∧ Mrow t qM' qvol' qh' (A ++ jn x y :: B) ∧ Fr t qM qvol qh qM' qvol' qh' := by
  obtain ⟨hM, hR⟩ := hR
  obtain ⟨rA, x1, x2, y1, y2, rB⟩ := (Rg.app A (x :: y :: B) _).mp hR
  have hR2 : Rg i6 (vp_updL qvol (64 * t + A.length) (i6 (x.1 + y.1))) (vp_updL qh (64 * t + A.length) (x.2 + y.2)) (64 * t) (A ++ [jn x y] ++ y :: B) := by
    rw [List.append_assoc]
    exact Rg.put (y := jn x y) hR rfl (fun i => rfl) (fun i => rfl)
  obtain ⟨a, b, c, e, h1, h2⟩ := m_remove (N := N) (qcode := qcode) (qn := qn) (qcold := qcold) (qtime := qtime) (qV := qV) (qamb := qamb) (qab := qab) (qbe := qbe) (qrf := qrf) (qrt := qrt) (qrh := qrh) (qrs := qrs) (qrl := qrl) (qru := qru) (qon := qon) (qdr := qdr) (qdc := qdc) (qdn := qdn) (qdh := qdh) (qgi := qgi) (qlo := qlo) (qom := qom) (qM := qM) ht (A ++ [jn x y]) B y ⟨by rw [hM]; simp only [List.length_append, List.length_cons, List.length_nil]; exact congrArg i3 (by omega), hR2⟩ (by simp only [List.length_append, List.length_cons, List.length_nil]; omega) hN
  refine ⟨a, b, c, ?_, ?_, ?_⟩
  · unfold fn_Mod_join
    simp (disch := omega) only [lt1, lt64, i3_add, i3_mul, i3_nat, i3_inT, x1, x2, y1, y2, i6_add, ↓reduceIte]
    simp only [List.length_append, List.length_cons, List.length_nil, Nat.zero_add] at e
    rw [e]
    rfl
  · rw [List.append_assoc] at h1
    exact h1
  · refine Fr.trans ⟨fun _ _ => rfl, fun i hi => ?_⟩ h2
    simp only [vp_updL]
    rw [if_neg (by omega), if_neg (by omega)]
    exact ⟨rfl, rfl⟩
theorem m_cutLoop {t : Nat} {qM : Nat → Int32} {qvol qh : Nat → Int64} (ht : t < 4) (hN : 1000 ≤ N) : ∀ (B A : List Lay) (h bot fuel : Nat), vol A = bot → bot ≤ h → h ≤ 100000 → vol A + vol B ≤ 100000 → Pv B → A.length + B.length ≤ 50 → Mrow t qM qvol qh (A ++ B) → B.length < fuel → ∃ qM' qvol' qh', gx_fx (st_Mod_cut N qcode qn qcold qtime qV qamb qab qbe qrf qrt qrh qrs qrl qru qon qdr qdc qdn qdh qgi qlo qom) fuel (i3 t, i6 h, i6 bot, i3 A.length, qM, qvol, qh) = some (i3 (A.length + (cutL (h - bot) B).1.length), qM', qvol', qh') ∧ Mrow t qM' qvol' qh' (A ++ ((cutL (h - bot) B).1 ++ (cutL (h - bot) B).2)) ∧ Fr t qM qvol qh qM' qvol' qh' := by
  intro B
  induction B with
  | nil =>
    intro A h bot fuel hA hb hh hv hP hl hR hfu
    obtain ⟨m, rfl⟩ : ∃ m, fuel = m + 1 := ⟨fuel - 1, by omega⟩
    refine ⟨qM, qvol, qh, ?_, hR, Fr.refl⟩
    have hM := hR.1
    simp only [List.append_nil] at hM
    simp only [List.length_nil] at hl
    rw [gx_fxS]
    simp only [st_Mod_cut, bk_Mod_cut_6, List.length_nil, cutL, Nat.add_zero]
    simp (disch := omega) only [i3_nat, i3_inT, hM, i3_leT, ↓reduceIte]
  | cons x B ih =>
    intro A h bot fuel hA hb hh hv hP hl hR hfu
    simp only [List.length_cons] at hl hfu
    simp only [vol] at hv
    obtain ⟨hx, hPB⟩ := hP.cons
    obtain ⟨m, rfl⟩ : ∃ m, fuel = m + 1 := ⟨fuel - 1, by omega⟩
    obtain ⟨rA, x1, x2, rB⟩ := (Rg.app A (x :: B) _).mp hR.2
    have hM := hR.1
    rw [List.length_append, List.length_cons] at hM
    rw [gx_fxS]
    simp only [st_Mod_cut, bk_Mod_cut_6, lc_eq, lc_ge]
    by_cases c0 : h = bot
    · have hc : cutL (h - bot) (x :: B) = ([], x :: B) := by rw [cutL, if_pos (by omega)]
      refine ⟨qM, qvol, qh, ?_, by rw [hc]; exact hR, Fr.refl⟩
      rw [hc]
      simp (disch := omega) only [i3_nat, i3_inT, hM, i3_leF, ↓reduceIte, c0, List.length_nil, Nat.add_zero]
    · by_cases c1 : bot + x.1 ≤ h
      · obtain ⟨a, b, c, e, h1, h2⟩ := ih (A ++ [x]) h (bot + x.1) m (by simp only [vol_app, vol]; omega) c1 hh (by simp only [vol_app, vol]; omega) hPB (by simp only [List.length_append, List.length_cons, List.length_nil]; omega) (by rw [List.append_assoc]; exact hR) (by omega)
        have hc : cutL (h - bot) (x :: B) = (x :: (cutL (h - (bot + x.1)) B).1, (cutL (h - (bot + x.1)) B).2) := by
          rw [cutL, if_neg (by omega), if_neg (by omega), show h - bot - x.1 = h - (bot + x.1) by omega]
        refine ⟨a, b, c, ?_, ?_, h2⟩
        · simp (disch := omega) only [lt1, lt64, i3_add, i3_mul, i3_nat, i3_inT, hM, x1, i3_leF, i6_add, i6_leT, i6_eqF, ↓reduceIte]
          rw [hc]
          simp only [List.length_append, List.length_cons, List.length_nil, Nat.zero_add] at e ⊢
          rw [e]
          simp only [Option.some.injEq, Prod.mk.injEq, and_true]
          exact congrArg i3 (by omega)
        · rw [hc]
          rw [List.append_assoc] at h1
          exact h1
      · have hc : cutL (h - bot) (x :: B) = ([(h - bot, dn (x.2 * i6 (h - bot)) (i6 x.1))], (x.1 - (h - bot), x.2 - dn (x.2 * i6 (h - bot)) (i6 x.1)) :: B) := by
          rw [cutL, if_neg (by omega), if_pos (by omega)]
        obtain ⟨a, b, c, e, h1, h2⟩ := m_insert (N := N) (qcode := qcode) (qn := qn) (qcold := qcold) (qtime := qtime) (qV := qV) (qamb := qamb) (qab := qab) (qbe := qbe) (qrf := qrf) (qrt := qrt) (qrh := qrh) (qrs := qrs) (qrl := qrl) (qru := qru) (qon := qon) (qdr := qdr) (qdc := qdc) (qdn := qdn) (qdh := qdh) (qgi := qgi) (qlo := qlo) (qom := qom) ht A (x :: B) (h - bot, dn (x.2 * i6 (h - bot)) (i6 x.1)) hR (by simp only [List.length_cons]; omega) hN
        have hget := ((Rg.app A _ _).mp h1.2).2.2.2.2.1
        have hR3 : Rg i6 (vp_updL b (64 * t + A.length + 1) (i6 (x.1 - (h - bot)))) (vp_updL c (64 * t + A.length + 1) (x.2 - dn (x.2 * i6 (h - bot)) (i6 x.1))) (64 * t) (A ++ [(h - bot, dn (x.2 * i6 (h - bot)) (i6 x.1))] ++ (x.1 - (h - bot), x.2 - dn (x.2 * i6 (h - bot)) (i6 x.1)) :: B) := by
          have := h1.2
          rw [← List.singleton_append, ← List.append_assoc] at this
          exact Rg.put this (by simp only [List.length_append, List.length_cons, List.length_nil]; omega) (fun i => rfl) (fun i => rfl)
        refine ⟨a, vp_updL b (64 * t + A.length + 1) (i6 (x.1 - (h - bot))), vp_updL c (64 * t + A.length + 1) (x.2 - dn (x.2 * i6 (h - bot)) (i6 x.1)), ?_, ?_, ?_⟩
        · simp (disch := omega) only [lt1, lt64, i3_add, i3_mul, i3_nat, i3_inT, hM, x1, x2, i3_leF, i6_add, i6_sub, i6_leF, i6_eqF, ↓reduceIte]
          rw [down_eq (i6_pos hx (by omega))]
          simp only [Option.bind_some]
          rw [e]
          simp (disch := omega) only [Option.bind_some, i3_inT, i3_nat, hget, i6_sub, ↓reduceIte]
          rw [hc]
          simp only [List.length_cons, List.length_nil, Nat.zero_add]
        · rw [hc]
          refine ⟨?_, ?_⟩
          · rw [h1.1]
            simp only [List.length_append, List.length_cons, List.length_nil]
            exact congrArg i3 (by omega)
          · rw [List.append_assoc] at hR3
            exact hR3
        · refine Fr.trans h2 ⟨fun _ _ => rfl, fun i hi => ?_⟩
          simp only [vp_updL]
          rw [if_neg (by omega), if_neg (by omega)]
          exact ⟨rfl, rfl⟩
theorem m_cut {t : Nat} {qM : Nat → Int32} {qvol qh : Nat → Int64} (ht : t < 4) (hN : 1000 ≤ N) (L : List Lay) (h : Nat) (hh : h ≤ 100000) (hv : vol L ≤ 100000) (hP : Pv L) (hl : L.length ≤ 50) (hR : Mrow t qM qvol qh L) : ∃ qM' qvol' qh', fn_Mod_cut N (i3 t) (i6 h) qcode qn qcold qtime qV qM qvol qh qamb qab qbe qrf qrt qrh qrs qrl qru qon qdr qdc qdn qdh qgi qlo qom = some (i3 (cutL h L).1.length, qM', qvol', qh') ∧ Mrow t qM' qvol' qh' ((cutL h L).1 ++ (cutL h L).2) ∧ Fr t qM qvol qh qM' qvol' qh' := by
  obtain ⟨a, b, c, e, h1, h2⟩ := m_cutLoop (N := N) (qcode := qcode) (qn := qn) (qcold := qcold) (qtime := qtime) (qV := qV) (qamb := qamb) (qab := qab) (qbe := qbe) (qrf := qrf) (qrt := qrt) (qrh := qrh) (qrs := qrs) (qrl := qrl) (qru := qru) (qon := qon) (qdr := qdr) (qdc := qdc) (qdn := qdn) (qdh := qdh) (qgi := qgi) (qlo := qlo) (qom := qom) ht hN L [] h 0 N rfl (Nat.zero_le _) hh (by simp only [vol]; omega) hP (by simp only [List.length_nil]; omega) hR (by omega)
  refine ⟨a, b, c, ?_, h1, h2⟩
  simp only [List.length_nil, Nat.zero_add, Nat.sub_zero] at e
  exact e
end PM
