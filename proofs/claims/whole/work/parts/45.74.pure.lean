theorem s_charge {N n t tk P : Nat} {xn xcold xtime : Int32} {xf : Nat → Option Nat} {dpar dheat rgiven llost : Int64} {full cnt rfrom rto rheat rsens rlow rhigh ron rmin lamb labv lbel tcnt : Int32} {vf mf pf : Nat → Int32} {hf : Nat → Int64} {qcode qn qcold qtime : Int32} {qV qM : Nat → Int32} {qvol qh : Nat → Int64} {qamb qab qbe qrf qrt qrh qrs qrl qru qon qdr qdc : Nat → Int32} {qdn qdh qgi qlo : Nat → Int64} {qom : Nat → Int32} {p2 p3 p4 : Int32} (hN : 1000 ≤ N) (h4 : n ≤ 4) (ht : t < n) (hqn : qn = i3 n) (hx : xf t = some tk) (hT : TR t P dpar dheat full cnt vf hf rfrom rto rheat rsens rlow rhigh ron rgiven rmin lamb labv lbel llost tcnt mf pf qV qM qvol qh qamb qab qbe qrf qrt qrh qrs qrl qru qon qdr qdc qdn qdh qgi qlo qom) (hP : P ≤ 3000000000000) : (∃ a c vf' hf' qM' qvol' qh', fn_TL_charge N (i3 t) p2 p3 p4 xn xcold xtime xf dpar dheat full cnt vf hf rfrom rto rheat rsens rlow rhigh ron rgiven rmin lamb labv lbel llost tcnt mf pf = some (.inr (a, c, vf', hf')) ∧ fn_Mod_charge N (i3 t) p2 p3 p4 qcode qn qcold qtime qV qM qvol qh qamb qab qbe qrf qrt qrh qrs qrl qru qon qdr qdc qdn qdh qgi qlo qom = some (a, 0, qM', qvol', qh') ∧ TR t P dpar dheat full c vf' hf' rfrom rto rheat rsens rlow rhigh ron rgiven rmin lamb labv lbel llost tcnt mf pf qV qM' qvol' qh' qamb qab qbe qrf qrt qrh qrs qrl qru qon qdr qdc qdn qdh qgi qlo qom ∧ Fr t qM qvol qh qM' qvol' qh') ∨ (fn_TL_charge N (i3 t) p2 p3 p4 xn xcold xtime xf dpar dheat full cnt vf hf rfrom rto rheat rsens rlow rhigh ron rgiven rmin lamb labv lbel llost tcnt mf pf = some (.inl 1) ∧ ∃ z, fn_Mod_charge N (i3 t) p2 p3 p4 qcode qn qcold qtime qV qM qvol qh qamb qab qbe qrf qrt qrh qrs qrl qru qon qdr qdc qdn qdh qgi qlo qom = some (z, 1, qM, qvol, qh)) := by
  obtain ⟨F, L, D, rh, f, u, sn, on, ⟨g1, g2, g3, g4, g5, g6⟩, ⟨k1, k2, k3, k4, k5, k6, k7, k8, k9, k10⟩, hQS, hQD, hM⟩ := hT
  have hF := g2.2.2.2.1
  have hV := hQS.1
  unfold fn_TL_charge fn_Mod_charge
  rw [tn_ok (by omega) hx, isT_ok hqn ht h4]
  simp (disch := omega) only [gx_then, Option.bind_some, z1, i3_inT, i3_nat, hV, k1, ↓reduceIte]
  by_cases c1 : 0 ≤ p2 ∧ p2 ≤ i3 F
  · rw [req_ok c1.1 c1.2, in_ok c1.1 c1.2]
    simp only [Option.bind_some, z1, ↓reduceIte]
    by_cases c2 : 1 ≤ p3 ∧ p3 ≤ i3 F
    · rw [req_ok c2.1 c2.2, in_ok c2.1 c2.2]
      simp only [Option.bind_some, z1, ↓reduceIte]
      by_cases c3 : -1000 ≤ p4 ∧ p4 ≤ 200000
      · rw [tempT_ok c3.1 c3.2, tempQ_ok c3.1 c3.2]
        simp only [Option.bind_some, z1, ↓reduceIte]
        obtain ⟨h, hh, rfl⟩ := nat_of (by omega) c1.1 c1.2
        obtain ⟨v, hv, rfl⟩ := nat_of (by omega) (by rw [Int32.le_iff_toInt_le]; have := c2.1; rw [Int32.le_iff_toInt_le] at this; exact Int.le_trans (by decide) this) c2.2
        have hv1 : 1 ≤ v := nat_le (by omega) (by omega) c2.1
        have hc := temp_int c3.1 c3.2
        have hq : (i6 v * p4.toInt64).toInt.natAbs ≤ 200000 * v := by
          have m1 : (v : Int) * p4.toInt ≤ (v : Int) * 200000 := Int.mul_le_mul_of_nonneg_left hc.2 (by omega)
          have m2 : (v : Int) * (-1000) ≤ (v : Int) * p4.toInt := Int.mul_le_mul_of_nonneg_left hc.1 (by omega)
          have e : (i6 v * p4.toInt64).toInt = (v : Int) * p4.toInt := by
            rw [Int64.toInt_mul, i6_int (by omega), Int32.toInt_toInt64]
            apply bm64 <;> omega
          rw [e]
          omega
        obtain ⟨vf', hf', e1, r1⟩ := w_exchange (N := N) hN L F h v (i6 v * p4.toInt64) (by omega) hv1 hv hF g2.2.1 g2.1 g2.2.2.2.2.1 k3
        obtain ⟨a, b, c, e2, r2, f2⟩ := m_charge (N := N) (qcode := 0) (qn := qn) (qcold := qcold) (qtime := qtime) (qamb := qamb) (qab := qab) (qbe := qbe) (qrf := qrf) (qrt := qrt) (qrh := qrh) (qrs := qrs) (qrl := qrl) (qru := qru) (qon := qon) (qdr := qdr) (qdc := qdc) (qdn := qdn) (qdh := qdh) (qgi := qgi) (qlo := qlo) (qom := qom) (T := p4.toInt64) (show t < 4 by omega) hN L F h v hV (by omega) hv hF g2.2.1 g2.1 g2.2.2.2.2.1 hM
        have hrow := row_exc (h := h) g2 (by omega) hv1 hv hq
        refine Or.inl ⟨(excL F h v (i6 v * p4.toInt64) L).1, i3 (excL F h v (i6 v * p4.toInt64) L).2.length, vf', hf', a, b, c, ?_, ?_, ⟨F, (excL F h v (i6 v * p4.toInt64) L).2, D, rh, f, u, sn, on, ⟨g1, hrow.1, g3, g4, g5, by omega⟩, ⟨by first | exact k1 | rfl, rfl, r1, k4, k5, k6, k7, k8, k9, k10⟩, hQS, hQD, r2⟩, f2⟩
        · rw [i3_long (by omega), k2, e1]
          rfl
        · rw [i3_long (by omega), i3_long (by omega), e2]
          rfl
      · rw [tempT_no c3, tempQ_no c3]
        exact Or.inr ⟨rfl, _, rfl⟩
    · rw [req_no c2, in_no c2]
      exact Or.inr ⟨rfl, _, rfl⟩
  · rw [req_no c1, in_no c1]
    exact Or.inr ⟨rfl, _, rfl⟩
theorem s_heat {N n t tk P : Nat} {xn xcold xtime : Int32} {xf : Nat → Option Nat} {dpar dheat rgiven llost : Int64} {full cnt rfrom rto rheat rsens rlow rhigh ron rmin lamb labv lbel tcnt : Int32} {vf mf pf : Nat → Int32} {hf : Nat → Int64} {qcode qn qcold qtime : Int32} {qV qM : Nat → Int32} {qvol qh : Nat → Int64} {qamb qab qbe qrf qrt qrh qrs qrl qru qon qdr qdc : Nat → Int32} {qdn qdh qgi qlo : Nat → Int64} {qom : Nat → Int32} {p2 p3 p4 : Int32} (hN : 1000 ≤ N) (h4 : n ≤ 4) (ht : t < n) (hqn : qn = i3 n) (hx : xf t = some tk) (hT : TR t P dpar dheat full cnt vf hf rfrom rto rheat rsens rlow rhigh ron rgiven rmin lamb labv lbel llost tcnt mf pf qV qM qvol qh qamb qab qbe qrf qrt qrh qrs qrl qru qon qdr qdc qdn qdh qgi qlo qom) (hP : P + 3000000090 ≤ 3000000000000) : (∃ a vf' hf' qM' qvol' qh', fn_TL_heat N (i3 t) p2 p3 p4 xn xcold xtime xf dpar dheat full cnt vf hf rfrom rto rheat rsens rlow rhigh ron rgiven rmin lamb labv lbel llost tcnt mf pf = some (.inr (a, a, vf', hf')) ∧ fn_Mod_heat N (i3 t) p2 p3 p4 qcode qn qcold qtime qV qM qvol qh qamb qab qbe qrf qrt qrh qrs qrl qru qon qdr qdc qdn qdh qgi qlo qom = some (a, 0, qM', qvol', qh') ∧ TR t (P + 3000000090) dpar dheat full a vf' hf' rfrom rto rheat rsens rlow rhigh ron rgiven rmin lamb labv lbel llost tcnt mf pf qV qM' qvol' qh' qamb qab qbe qrf qrt qrh qrs qrl qru qon qdr qdc qdn qdh qgi qlo qom ∧ Fr t qM qvol qh qM' qvol' qh') ∨ (fn_TL_heat N (i3 t) p2 p3 p4 xn xcold xtime xf dpar dheat full cnt vf hf rfrom rto rheat rsens rlow rhigh ron rgiven rmin lamb labv lbel llost tcnt mf pf = some (.inl 1) ∧ ∃ z, fn_Mod_heat N (i3 t) p2 p3 p4 qcode qn qcold qtime qV qM qvol qh qamb qab qbe qrf qrt qrh qrs qrl qru qon qdr qdc qdn qdh qgi qlo qom = some (z, 1, qM, qvol, qh)) := by
  obtain ⟨F, L, D, rh, f, u, sn, on, ⟨g1, g2, g3, g4, g5, g6⟩, ⟨k1, k2, k3, k4, k5, k6, k7, k8, k9, k10⟩, hQS, hQD, hM⟩ := hT
  have hF := g2.2.2.2.1
  have hV := hQS.1
  unfold fn_TL_heat fn_Mod_heat
  rw [tn_ok (by omega) hx, isT_ok hqn ht h4]
  simp (disch := omega) only [gx_then, Option.bind_some, z1, i3_inT, i3_nat, hV, k1, ↓reduceIte]
  by_cases c1 : 0 ≤ p2 ∧ p2 ≤ i3 F
  · rw [in_ok c1.1 c1.2]
    simp only [Option.bind_some, z1, ↓reduceIte]
    by_cases c2 : 0 ≤ p3 ∧ p3 ≤ i3 F
    · rw [in_ok c2.1 c2.2]
      simp only [Option.bind_some, z1, ↓reduceIte]
      by_cases c3 : p2 < p3
      · rw [span_ok c1 c2 c3, if_neg (show ¬ p3 ≤ p2 from Int32.not_le.mpr c3)]
        simp only [Option.bind_some]
        by_cases c5 : -1000000000 ≤ p4 ∧ p4 ≤ 1000000000
        · rw [req_ok c5.1 c5.2, in_ok c5.1 c5.2]
          simp only [Option.bind_some, z1, ↓reduceIte]
          obtain ⟨a, ha, rfl⟩ := nat_of (by omega) c1.1 c1.2
          obtain ⟨b, hb, rfl⟩ := nat_of (by omega) c2.1 c2.2
          have hab : a < b := nat_lt (by omega) (by omega) c3
          have hq : p4.toInt64.toInt.natAbs ≤ 1000000000 := by
            have := c5.1
            have h2 := c5.2
            rw [Int32.le_iff_toInt_le] at this h2
            have e1 : (-1000000000 : Int32).toInt = -1000000000 := by decide
            have e2 : (1000000000 : Int32).toInt = 1000000000 := by decide
            rw [Int32.toInt_toInt64]
            omega
          obtain ⟨vf', hf', e1, r1⟩ := w_heat (N := N) (f := a) (t := b) (full := i3 F) (q := p4) hN L hab (by have := g2.2.1; omega) (by have := g2.2.1; omega) g2.1 g2.2.2.2.2.1 k3
          obtain ⟨a2, b2, c2', e2, r2, f2⟩ := m_heat (N := N) (qcode := 0) (qn := qn) (qcold := qcold) (qtime := qtime) (qV := qV) (qamb := qamb) (qab := qab) (qbe := qbe) (qrf := qrf) (qrt := qrt) (qrh := qrh) (qrs := qrs) (qrl := qrl) (qru := qru) (qon := qon) (qdr := qdr) (qdc := qdc) (qdn := qdn) (qdh := qdh) (qgi := qgi) (qlo := qlo) (qom := qom) (f := a) (u := b) (q := p4.toInt64) (show t < 4 by omega) hN L hab (by have := g2.2.1; omega) (by have := g2.2.1; omega) g2.1 g2.2.2.2.2.1 hM
          have hrow := row_heat (q := p4.toInt64) (f := a) (t := b) g2 hab hb (by omega) hq
          refine Or.inl ⟨i3 (heaL a b p4.toInt64 L).length, vf', hf', a2, b2, c2', ?_, ?_, ⟨F, heaL a b p4.toInt64 L, D, rh, f, u, sn, on, ⟨g1, hrow.1, g3, g4, g5, by omega⟩, ⟨by first | exact k1 | rfl, rfl, r1, k4, k5, k6, k7, k8, k9, k10⟩, hQS, hQD, r2⟩, f2⟩
          · rw [k2, e1]
            rfl
          · rw [e2]
            simp only [Option.bind_some]
            rw [r2.1]
        · rw [req_no c5, in_no c5]
          exact Or.inr ⟨rfl, _, rfl⟩
      · rw [span_no (fun h => c3 h.2.2), if_pos (show p3 ≤ p2 from Int32.not_lt.mp c3)]
        exact Or.inr ⟨rfl, _, rfl⟩
    · rw [span_no (fun h => c2 h.2.1), in_no c2]
      exact Or.inr ⟨rfl, _, rfl⟩
  · rw [span_no (fun h => c1 h.1), in_no c1]
    exact Or.inr ⟨rfl, _, rfl⟩
theorem s_loses {N n t tk P : Nat} {xn xcold xtime : Int32} {xf : Nat → Option Nat} {dpar dheat rgiven llost : Int64} {full cnt rfrom rto rheat rsens rlow rhigh ron rmin lamb labv lbel tcnt : Int32} {vf mf pf : Nat → Int32} {hf : Nat → Int64} {qcode qn qcold qtime : Int32} {qV qM : Nat → Int32} {qvol qh : Nat → Int64} {qamb qab qbe qrf qrt qrh qrs qrl qru qon qdr qdc : Nat → Int32} {qdn qdh qgi qlo : Nat → Int64} {qom : Nat → Int32} {p2 p3 p4 : Int32} (h4 : n ≤ 4) (ht : t < n) (hqn : qn = i3 n) (hx : xf t = some tk) (hT : TR t P dpar dheat full cnt vf hf rfrom rto rheat rsens rlow rhigh ron rgiven rmin lamb labv lbel llost tcnt mf pf qV qM qvol qh qamb qab qbe qrf qrt qrh qrs qrl qru qon qdr qdc qdn qdh qgi qlo qom) : (fn_TL_loses N (i3 t) p2 p3 p4 xn xcold xtime xf dpar dheat full cnt vf hf rfrom rto rheat rsens rlow rhigh ron rgiven rmin lamb labv lbel llost tcnt mf pf = some (.inr (p2, p3, p4)) ∧ fn_Mod_loses N (i3 t) p2 p3 p4 qcode qn qcold qtime qV qM qvol qh qamb qab qbe qrf qrt qrh qrs qrl qru qon qdr qdc qdn qdh qgi qlo qom = some (0, upd qamb t p2, upd qab t p3, upd qbe t p4) ∧ TR t P dpar dheat full cnt vf hf rfrom rto rheat rsens rlow rhigh ron rgiven rmin p2 p3 p4 llost tcnt mf pf qV qM qvol qh (upd qamb t p2) (upd qab t p3) (upd qbe t p4) qrf qrt qrh qrs qrl qru qon qdr qdc qdn qdh qgi qlo qom) ∨ (fn_TL_loses N (i3 t) p2 p3 p4 xn xcold xtime xf dpar dheat full cnt vf hf rfrom rto rheat rsens rlow rhigh ron rgiven rmin lamb labv lbel llost tcnt mf pf = some (.inl 1) ∧ fn_Mod_loses N (i3 t) p2 p3 p4 qcode qn qcold qtime qV qM qvol qh qamb qab qbe qrf qrt qrh qrs qrl qru qon qdr qdc qdn qdh qgi qlo qom = some (1, qamb, qab, qbe)) := by
  obtain ⟨F, L, D, rh, f, u, sn, on, ⟨g1, g2, g3, g4, g5, g6⟩, hC, ⟨q1, q2, q3, q4, qrest⟩, hQD, hM⟩ := hT
  unfold fn_TL_loses fn_Mod_loses
  rw [tn_ok (by omega) hx, isT_ok hqn ht h4]
  simp (disch := omega) only [gx_then, Option.bind_some, z1, i3_inT, i3_nat, ↓reduceIte]
  by_cases c1 : -1000 ≤ p2 ∧ p2 ≤ 200000
  · rw [tempT_ok c1.1 c1.2, tempQ_ok c1.1 c1.2]
    simp only [Option.bind_some, z1, ↓reduceIte]
    by_cases c2 : 1 ≤ p4 ∧ p4 ≤ 1000000
    · rw [req_ok c2.1 c2.2, in_ok c2.1 c2.2]
      simp only [Option.bind_some, z1, ↓reduceIte]
      by_cases c3 : 0 ≤ p3 ∧ p3 ≤ p4
      · rw [req_ok c3.1 c3.2, in_ok c3.1 c3.2]
        simp only [Option.bind_some, z1, ↓reduceIte]
        have hc := temp_int c1.1 c1.2
        have hl : LossOk p2 p3 p4 := by
          obtain ⟨a1, a2⟩ := c2
          obtain ⟨a3, a4⟩ := c3
          rw [Int32.le_iff_toInt_le] at a1 a2 a3 a4
          have e1 : (1 : Int32).toInt = 1 := by decide
          have e2 : (1000000 : Int32).toInt = 1000000 := by decide
          have e3 : (0 : Int32).toInt = 0 := by decide
          exact ⟨hc.1, hc.2, by omega, a4, by omega, by omega⟩
        refine Or.inl ⟨trivial, trivial, F, L, D, rh, f, u, sn, on, ⟨g1, g2, g3, g4, hl, g6⟩, hC, ⟨q1, ?_, ?_, ?_, qrest⟩, hQD, hM⟩ <;> simp only [upd, ↓reduceIte]
      · rw [req_no c3, in_no c3]
        exact Or.inr ⟨rfl, rfl⟩
    · rw [req_no c2, in_no c2]
      exact Or.inr ⟨rfl, rfl⟩
  · rw [tempT_no c1, tempQ_no c1]
    exact Or.inr ⟨rfl, rfl⟩
theorem s_rod {N n t tk P : Nat} {xn xcold xtime : Int32} {xf : Nat → Option Nat} {dpar dheat rgiven llost : Int64} {full cnt rfrom rto rheat rsens rlow rhigh ron rmin lamb labv lbel tcnt : Int32} {vf mf pf : Nat → Int32} {hf : Nat → Int64} {qcode qn qcold qtime : Int32} {qV qM : Nat → Int32} {qvol qh : Nat → Int64} {qamb qab qbe qrf qrt qrh qrs qrl qru qon qdr qdc : Nat → Int32} {qdn qdh qgi qlo : Nat → Int64} {qom : Nat → Int32} {p2 p3 p4 p5 p6 p7 : Int32} (h4 : n ≤ 4) (ht : t < n) (hqn : qn = i3 n) (hx : xf t = some tk) (hT : TR t P dpar dheat full cnt vf hf rfrom rto rheat rsens rlow rhigh ron rgiven rmin lamb labv lbel llost tcnt mf pf qV qM qvol qh qamb qab qbe qrf qrt qrh qrs qrl qru qon qdr qdc qdn qdh qgi qlo qom) : (fn_TL_rod N (i3 t) p2 p3 p4 p5 p6 p7 xn xcold xtime xf dpar dheat full cnt vf hf rfrom rto rheat rsens rlow rhigh ron rgiven rmin lamb labv lbel llost tcnt mf pf = some (.inr (p2, p3, p4, p5, p6, p7, 0)) ∧ fn_Mod_rod N (i3 t) p2 p3 p4 p5 p6 p7 qcode qn qcold qtime qV qM qvol qh qamb qab qbe qrf qrt qrh qrs qrl qru qon qdr qdc qdn qdh qgi qlo qom = some (0, upd qrf t p2, upd qrt t p3, upd qrh t p4, upd qrs t p5, upd qrl t p6, upd qru t p7, upd qon t 0) ∧ TR t P dpar dheat full cnt vf hf p2 p3 p4 p5 p6 p7 0 rgiven rmin lamb labv lbel llost tcnt mf pf qV qM qvol qh qamb qab qbe (upd qrf t p2) (upd qrt t p3) (upd qrh t p4) (upd qrs t p5) (upd qrl t p6) (upd qru t p7) (upd qon t 0) qdr qdc qdn qdh qgi qlo qom) ∨ (fn_TL_rod N (i3 t) p2 p3 p4 p5 p6 p7 xn xcold xtime xf dpar dheat full cnt vf hf rfrom rto rheat rsens rlow rhigh ron rgiven rmin lamb labv lbel llost tcnt mf pf = some (.inl 1) ∧ fn_Mod_rod N (i3 t) p2 p3 p4 p5 p6 p7 qcode qn qcold qtime qV qM qvol qh qamb qab qbe qrf qrt qrh qrs qrl qru qon qdr qdc qdn qdh qgi qlo qom = some (1, qrf, qrt, qrh, qrs, qrl, qru, qon)) := by
  obtain ⟨F, L, D, rh, f, u, sn, on, ⟨g1, g2, g3, g4, g5, g6⟩, ⟨k1, k2, k3, k4, k5, k6, k7, k8, k9, k10⟩, ⟨q1, q2, q3, q4, q5, q6, q7, q8, q9, q10, q11, q12⟩, ⟨d1, dd⟩, hM⟩ := hT
  have hF := g2.2.2.2.1
  unfold fn_TL_rod fn_Mod_rod
  rw [tn_ok (by omega) hx, isT_ok hqn ht h4]
  have n4 : (i3 t).toNatClampNeg = t := i3_nat (by omega)
  have b4 : gx_inb (i3 t) 4 = true := i3_inT (show t < 4 by omega) (by omega)
  simp (maxSteps := 4000000) only [gx_then, Option.bind_some, z1, n4, b4, q1, k1, ↓reduceIte]
  rw [show (i3 F - 1 : Int32) = i3 (F - 1) from i3_sub1 (by omega)]
  by_cases c1 : 0 ≤ p2 ∧ p2 ≤ i3 F
  · rw [in_ok c1.1 c1.2]
    simp only [Option.bind_some, z1, ↓reduceIte]
    by_cases c2 : 0 ≤ p3 ∧ p3 ≤ i3 F
    · rw [in_ok c2.1 c2.2]
      simp only [Option.bind_some, z1, ↓reduceIte]
      by_cases c3 : p2 < p3
      · rw [span_ok c1 c2 c3, if_neg (show ¬ p3 ≤ p2 from Int32.not_le.mpr c3)]
        simp only [Option.bind_some]
        by_cases c5 : 0 ≤ p4 ∧ p4 ≤ 10000000
        · rw [req_ok c5.1 c5.2, in_ok c5.1 c5.2]
          simp only [Option.bind_some, z1, ↓reduceIte]
          by_cases c6 : 0 ≤ p5 ∧ p5 ≤ i3 (F - 1)
          · rw [req_ok c6.1 c6.2, in_ok c6.1 c6.2]
            simp only [Option.bind_some, z1, ↓reduceIte]
            by_cases c7 : -1000 ≤ p6 ∧ p6 ≤ 200000
            · rw [tempT_ok c7.1 c7.2, tempQ_ok c7.1 c7.2]
              simp only [Option.bind_some, z1, ↓reduceIte]
              by_cases c8 : -1000 ≤ p7 ∧ p7 ≤ 200000
              · rw [tempT_ok c8.1 c8.2, tempQ_ok c8.1 c8.2]
                simp only [Option.bind_some, z1, ↓reduceIte]
                by_cases c9 : p6 ≤ p7
                · rw [if_pos c9, if_neg (show ¬ p7 < p6 from Int32.not_lt.mpr c9)]
                  obtain ⟨a, ha, rfl⟩ := nat_of (by omega) c1.1 c1.2
                  obtain ⟨b, hb, rfl⟩ := nat_of (by omega) c2.1 c2.2
                  obtain ⟨h, hh, rfl⟩ := nat_of (F := 10000000) (by omega) c5.1 c5.2
                  obtain ⟨s, hs, rfl⟩ := nat_of (by omega) c6.1 c6.2
                  have hab : a < b := nat_lt (by omega) (by omega) c3
                  have hlo : p6.toInt ≤ p7.toInt := by rw [Int32.le_iff_toInt_le] at c9; exact c9
                  refine Or.inl ⟨by first | rfl | trivial, ?_, F, L, D, h, a, b, s, false, ⟨g1, g2, g3, ⟨hh, by omega, by omega, by omega, hlo, Or.inr ⟨hab, hb, by omega⟩⟩, g5, g6⟩, ⟨by first | exact k1 | rfl, k2, k3, rfl, rfl, rfl, rfl, rfl, k9, k10⟩, ⟨q1, q2, q3, q4, ?_, ?_, ?_, ?_, ?_, ?_, q11, q12⟩, ⟨?_, dd⟩, hM⟩
                  · rw [nar0]
                  all_goals simp only [upd, ↓reduceIte]
                  rfl
                · rw [if_neg c9, if_pos (show p7 < p6 from Int32.not_le.mp c9)]
                  exact Or.inr ⟨rfl, rfl⟩
              · rw [tempT_no c8, tempQ_no c8]
                exact Or.inr ⟨rfl, rfl⟩
            · rw [tempT_no c7, tempQ_no c7]
              exact Or.inr ⟨rfl, rfl⟩
          · rw [req_no c6, in_no c6]
            exact Or.inr ⟨rfl, rfl⟩
        · rw [req_no c5, in_no c5]
          exact Or.inr ⟨rfl, rfl⟩
      · rw [span_no (fun h => c3 h.2.2), if_pos (show p3 ≤ p2 from Int32.not_lt.mp c3)]
        exact Or.inr ⟨rfl, rfl⟩
    · rw [span_no (fun h => c2 h.2.1), in_no c2]
      exact Or.inr ⟨rfl, rfl⟩
  · rw [span_no (fun h => c1 h.1), in_no c1]
    exact Or.inr ⟨rfl, rfl⟩
