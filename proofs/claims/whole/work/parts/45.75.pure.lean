theorem s_draws {N n t tk P : Nat} {xn xcold xtime : Int32} {xf : Nat → Option Nat} {dpar dheat rgiven llost : Int64} {full cnt rfrom rto rheat rsens rlow rhigh ron rmin lamb labv lbel tcnt : Int32} {vf mf pf : Nat → Int32} {hf : Nat → Int64} {qcode qn qcold qtime : Int32} {qV qM : Nat → Int32} {qvol qh : Nat → Int64} {qamb qab qbe qrf qrt qrh qrs qrl qru qon qdr qdc : Nat → Int32} {qdn qdh qgi qlo : Nat → Int64} {qom : Nat → Int32} {p2 p3 : Int32} (hN : 1000 ≤ N) (h4 : n ≤ 4) (ht : t < n) (hqn : qn = i3 n) (hx : xf t = some tk) (hT : TR t P dpar dheat full cnt vf hf rfrom rto rheat rsens rlow rhigh ron rgiven rmin lamb labv lbel llost tcnt mf pf qV qM qvol qh qamb qab qbe qrf qrt qrh qrs qrl qru qon qdr qdc qdn qdh qgi qlo qom) : (∃ a c mf' pf' qdr' qdc', fn_TL_draws N (i3 t) p2 p3 xn xcold xtime xf dpar dheat full cnt vf hf rfrom rto rheat rsens rlow rhigh ron rgiven rmin lamb labv lbel llost tcnt mf pf = some (.inr (a, c, mf', pf')) ∧ fn_Mod_draws N (i3 t) p2 p3 qcode qn qcold qtime qV qM qvol qh qamb qab qbe qrf qrt qrh qrs qrl qru qon qdr qdc qdn qdh qgi qlo qom = some (a, 0, qdr', qdc') ∧ TR t P dpar dheat full cnt vf hf rfrom rto rheat rsens rlow rhigh ron rgiven rmin lamb labv lbel llost c mf' pf' qV qM qvol qh qamb qab qbe qrf qrt qrh qrs qrl qru qon qdr' qdc' qdn qdh qgi qlo qom ∧ (∀ i, (i < 1440 * t ∨ 1440 * t + 1440 ≤ i) → qdr' i = qdr i) ∧ ∀ j, j ≠ t → qdc' j = qdc j) ∨ (∃ e : Nat, (e = 1 ∨ e = 2) ∧ fn_TL_draws N (i3 t) p2 p3 xn xcold xtime xf dpar dheat full cnt vf hf rfrom rto rheat rsens rlow rhigh ron rgiven rmin lamb labv lbel llost tcnt mf pf = some (.inl e) ∧ ∃ z, fn_Mod_draws N (i3 t) p2 p3 qcode qn qcold qtime qV qM qvol qh qamb qab qbe qrf qrt qrh qrs qrl qru qon qdr qdc qdn qdh qgi qlo qom = some (z, i3 e, qdr, qdc)) := by
  obtain ⟨F, L, D, rh, f, u, sn, on, ⟨g1, g2, g3, g4, g5, g6⟩, ⟨k1, k2, k3, k4, k5, k6, k7, k8, k9, k10⟩, ⟨q1, q2, q3, q4, q5, q6, q7, q8, q9, q10, q11, q12⟩, hQD, hM⟩ := hT
  have hF := g2.2.2.2.1
  have hDl := g3.2.1
  unfold fn_TL_draws fn_Mod_draws
  rw [tn_ok (by omega) hx, isT_ok hqn ht h4]
  have n4 : (i3 t).toNatClampNeg = t := i3_nat (by omega)
  have b4 : gx_inb (i3 t) 4 = true := i3_inT (show t < 4 by omega) (by omega)
  simp (maxSteps := 4000000) only [gx_then, Option.bind_some, z1, n4, b4, q1, k1, ↓reduceIte]
  by_cases c1 : 0 ≤ p2 ∧ p2 ≤ 1439
  · rw [req_ok c1.1 c1.2, in_ok c1.1 c1.2]
    simp only [Option.bind_some, z1, ↓reduceIte]
    by_cases c2 : 0 ≤ p3 ∧ p3 ≤ i3 F
    · rw [req_ok c2.1 c2.2, in_ok c2.1 c2.2]
      simp only [Option.bind_some, z1, ↓reduceIte]
      obtain ⟨m, hm, rfl⟩ := nat_of (F := 1439) (by omega) c1.1 c1.2
      obtain ⟨v, hv, rfl⟩ := nat_of (by omega) c2.1 c2.2
      have hq := q11 m (by omega)
      have hw := lk_le (m := m) g3
      rw [k9, t_parts hN (show m < 1440 by omega) D g3 k10]
      have hix : (1440 * i3 t) + i3 m = i3 (1440 * t + m) := by rw [lt1440, i3_mul, i3_add]
      have n5 : (i3 (1440 * t + m)).toNatClampNeg = 1440 * t + m := i3_nat (by omega)
      have b5 : gx_inb (i3 (1440 * t + m)) 5760 = true := i3_inT (by omega) (by omega)
      simp (maxSteps := 4000000) only [Option.bind_some, hix, n5, b5, n4, hq, q12, ↓reduceIte]
      by_cases cf : lk m D = 0 ∧ 0 < v ∧ D.length = 40
      · obtain ⟨e1, e2, e3⟩ := cf
        refine Or.inr ⟨2, Or.inr rfl, ?_, 0, ?_⟩
        · unfold fn_Time_isFull
          rw [e1, e3]
          simp (disch := omega) only [lt0, lt40, i3_leF, i3_ltF, ↓reduceIte, Option.bind_some]
          rfl
        · rw [e1, e3]
          simp (disch := omega) only [lt0, lt40, i3_leF, ↓reduceIte]
          rfl
      · obtain ⟨D', mf', pf', e, hR', hT', hw1, hw2⟩ := t_write hN (show m < 1440 by omega) hF hv D g3 k10 cf
        refine Or.inl ⟨i3 (lk m D), i3 D'.length, mf', pf', upd qdr (1440 * t + m) (i3 v), upd qdc t (i3 D'.length), ?_, ?_, ⟨F, L, D', rh, f, u, sn, on, ⟨g1, g2, hT', g4, g5, g6⟩, ⟨by first | exact k1 | rfl, k2, k3, k4, k5, k6, k7, k8, rfl, hR'⟩, ⟨q1, q2, q3, q4, q5, q6, q7, q8, q9, q10, ?_, ?_⟩, hQD, hM⟩, ?_, ?_⟩
        · rw [e]
          simp only [Option.bind_some]
          by_cases a1 : lk m D = 0
          · have za : (i3 (lk m D) = 0) = True := by rw [a1]; decide
            simp only [za, ↓reduceIte]
            by_cases a2 : v = 0
            · have zb : (i3 v ≤ 0) = True := by rw [a2]; decide
              simp only [zb, ↓reduceIte]
            · have zb : (i3 v ≤ 0) = False := by rw [lt0]; exact i3_leF (by omega) (by omega)
              unfold fn_Time_isFull
              simp (disch := omega) only [zb, lt40, i3_ltT, ↓reduceIte, Option.bind_some]
          · have za : (i3 (lk m D) = 0) = False := by rw [lt0]; exact i3_eqF a1 (by omega) (by omega)
            simp only [za, ↓reduceIte]
        · have d1 : (0 : Int32) - 0 = 0 := by decide
          have d2 : (1 : Int32) - 0 = 1 := by decide
          have d3 : (1 : Int32) - 1 = 0 := by decide
          have d4 : (0 : Int32) - 1 = -1 := by decide
          by_cases a1 : lk m D = 0
          · have za : (i3 (lk m D) = 0) = True := by rw [a1]; decide
            have zc : (i3 (lk m D) ≤ 0) = True := by rw [a1]; decide
            rw [if_neg (show ¬ 0 < lk m D by omega)] at hw2
            by_cases a2 : v = 0
            · have zb : (i3 v ≤ 0) = True := by rw [a2]; decide
              rw [if_neg (show ¬ 0 < v by omega)] at hw2
              simp only [za, zb, zc, d1, Int32.add_zero, ↓reduceIte]
              rw [show D.length = D'.length by omega]
            · have zb : (i3 v ≤ 0) = False := by rw [lt0]; exact i3_leF (by omega) (by omega)
              rw [if_pos (show 0 < v by omega)] at hw2
              have zd : (i3 D.length = 40) = False := by rw [lt40]; exact i3_eqF (by omega) (by omega) (by omega)
              simp only [za, zb, zc, zd, d2, ↓reduceIte]
              rw [lt1, i3_add, show D.length + 1 = D'.length by omega]
          · have za : (i3 (lk m D) = 0) = False := by rw [lt0]; exact i3_eqF a1 (by omega) (by omega)
            have zc : (i3 (lk m D) ≤ 0) = False := by rw [lt0]; exact i3_leF (by omega) (by omega)
            rw [if_pos (show 0 < lk m D by omega)] at hw2
            by_cases a2 : v = 0
            · have zb : (i3 v ≤ 0) = True := by rw [a2]; decide
              rw [if_neg (show ¬ 0 < v by omega)] at hw2
              simp only [za, zb, zc, d4, ↓reduceIte]
              rw [lt1, i3_addn (by omega), show D.length - 1 = D'.length by omega]
            · have zb : (i3 v ≤ 0) = False := by rw [lt0]; exact i3_leF (by omega) (by omega)
              rw [if_pos (show 0 < v by omega)] at hw2
              simp only [za, zb, zc, d3, Int32.add_zero, ↓reduceIte]
              rw [show D.length = D'.length by omega]
        · intro k hk
          rw [hw1 k]
          simp only [upd]
          by_cases a : k = m
          · rw [if_pos (by omega), if_pos a]
          · rw [if_neg (by omega), if_neg a, q11 k hk]
        · simp only [upd, ↓reduceIte]
        · intro i hi
          simp only [upd]
          rw [if_neg (by omega)]
        · intro j hj
          simp only [upd, if_neg hj]
    · rw [req_no c2, in_no c2]
      exact Or.inr ⟨1, Or.inl rfl, rfl, _, rfl⟩
  · rw [req_no c1, in_no c1]
    exact Or.inr ⟨1, Or.inl rfl, rfl, _, rfl⟩
theorem s_layers {N n t tk P : Nat} {xn xcold xtime : Int32} {xf : Nat → Option Nat} {dpar dheat rgiven llost : Int64} {full cnt rfrom rto rheat rsens rlow rhigh ron rmin lamb labv lbel tcnt : Int32} {vf mf pf : Nat → Int32} {hf : Nat → Int64} {qcode qn qcold qtime : Int32} {qV qM : Nat → Int32} {qvol qh : Nat → Int64} {qamb qab qbe qrf qrt qrh qrs qrl qru qon qdr qdc : Nat → Int32} {qdn qdh qgi qlo : Nat → Int64} {qom : Nat → Int32} (h4 : n ≤ 4) (ht : t < n) (hqn : qn = i3 n) (hx : xf t = some tk) (hT : TR t P dpar dheat full cnt vf hf rfrom rto rheat rsens rlow rhigh ron rgiven rmin lamb labv lbel llost tcnt mf pf qV qM qvol qh qamb qab qbe qrf qrt qrh qrs qrl qru qon qdr qdc qdn qdh qgi qlo qom) : fn_TL_layers N (i3 t) xn xcold xtime xf dpar dheat full cnt vf hf rfrom rto rheat rsens rlow rhigh ron rgiven rmin lamb labv lbel llost tcnt mf pf = some (.inr cnt) ∧ fn_Mod_layers N (i3 t) qcode qn qcold qtime qV qM qvol qh qamb qab qbe qrf qrt qrh qrs qrl qru qon qdr qdc qdn qdh qgi qlo qom = some (cnt, 0) := by
  obtain ⟨F, L, D, rh, f, u, sn, on, -, ⟨-, k2, -⟩, -, -, hM⟩ := hT
  unfold fn_TL_layers fn_Mod_layers
  rw [tn_ok (by omega) hx, isT_ok hqn ht h4]
  simp (disch := omega) only [gx_then, Option.bind_some, z1, i3_inT, i3_nat, hM.1, k2, ↓reduceIte, and_self]
theorem s_layer {N n t tk P : Nat} {xn xcold xtime : Int32} {xf : Nat → Option Nat} {dpar dheat rgiven llost : Int64} {full cnt rfrom rto rheat rsens rlow rhigh ron rmin lamb labv lbel tcnt : Int32} {vf mf pf : Nat → Int32} {hf : Nat → Int64} {qcode qn qcold qtime : Int32} {qV qM : Nat → Int32} {qvol qh : Nat → Int64} {qamb qab qbe qrf qrt qrh qrs qrl qru qon qdr qdc : Nat → Int32} {qdn qdh qgi qlo : Nat → Int64} {qom : Nat → Int32} {p2 p3 : Int32} (h4 : n ≤ 4) (ht : t < n) (hqn : qn = i3 n) (hx : xf t = some tk) (hT : TR t P dpar dheat full cnt vf hf rfrom rto rheat rsens rlow rhigh ron rgiven rmin lamb labv lbel llost tcnt mf pf qV qM qvol qh qamb qab qbe qrf qrt qrh qrs qrl qru qon qdr qdc qdn qdh qgi qlo qom) : (∃ a, fn_TL_layer N (i3 t) p2 p3 xn xcold xtime xf dpar dheat full cnt vf hf rfrom rto rheat rsens rlow rhigh ron rgiven rmin lamb labv lbel llost tcnt mf pf = some (.inr a) ∧ fn_Mod_layer N (i3 t) p2 p3 qcode qn qcold qtime qV qM qvol qh qamb qab qbe qrf qrt qrh qrs qrl qru qon qdr qdc qdn qdh qgi qlo qom = some (a, 0)) ∨ (fn_TL_layer N (i3 t) p2 p3 xn xcold xtime xf dpar dheat full cnt vf hf rfrom rto rheat rsens rlow rhigh ron rgiven rmin lamb labv lbel llost tcnt mf pf = some (.inl 1) ∧ ∃ z, fn_Mod_layer N (i3 t) p2 p3 qcode qn qcold qtime qV qM qvol qh qamb qab qbe qrf qrt qrh qrs qrl qru qon qdr qdc qdn qdh qgi qlo qom = some (z, 1)) := by
  obtain ⟨F, L, D, rh, f, u, sn, on, ⟨g1, g2, g3, g4, g5, g6⟩, ⟨k1, k2, k3, -⟩, -, -, hM⟩ := hT
  have hl := g2.2.2.2.2.1
  have hF := g2.2.2.2.1
  have hL1 : 1 ≤ L.length := List.length_pos_iff.mpr (ne_of_vol (by have := g2.2.1; omega))
  unfold fn_TL_layer fn_Mod_layer
  rw [tn_ok (by omega) hx, isT_ok hqn ht h4]
  simp (disch := omega) only [gx_then, Option.bind_some, z1, i3_inT, i3_nat, hM.1, k2, ↓reduceIte]
  rw [show (i3 L.length - 1 : Int32) = i3 (L.length - 1) from i3_sub1 hL1]
  by_cases c1 : 0 ≤ p2 ∧ p2 ≤ i3 (L.length - 1)
  · rw [req_ok c1.1 c1.2, in_ok c1.1 c1.2]
    simp only [Option.bind_some, z1, ↓reduceIte]
    by_cases c2 : 0 ≤ p3 ∧ p3 ≤ 1
    · rw [req_ok c2.1 c2.2, in_ok c2.1 c2.2]
      simp only [Option.bind_some, z1, ↓reduceIte]
      obtain ⟨k, hk, rfl⟩ := nat_of (by omega) c1.1 c1.2
      have hkl : k < L.length := by omega
      have r1 := k3.get (List.getElem?_eq_getElem hkl)
      have r2 := hM.2.get (List.getElem?_eq_getElem hkl)
      rw [Nat.zero_add] at r1
      have hx1 : (L[k]).1 ≤ 100000 := by
        have hm := List.getElem_mem hkl
        obtain ⟨A, B, hAB⟩ := List.append_of_mem hm
        have hv := g2.2.1
        rw [hAB, vol_app, vol] at hv
        omega
      left
      simp (disch := omega) only [lt64, i3_mul, i3_add, i3_inT, i3_nat, r1.1, r1.2, r2.1, r2.2, i3_long, ↓reduceIte]
      by_cases c3 : p3 = 0
      · exact ⟨_, by rw [if_pos c3], by rw [if_pos c3]⟩
      · exact ⟨_, by rw [if_neg c3], by rw [if_neg c3]⟩
    · rw [req_no c2, in_no c2]
      exact Or.inr ⟨rfl, _, rfl⟩
  · rw [req_no c1, in_no c1]
    exact Or.inr ⟨rfl, _, rfl⟩
theorem s_sensor {N n t tk P : Nat} {xn xcold xtime : Int32} {xf : Nat → Option Nat} {dpar dheat rgiven llost : Int64} {full cnt rfrom rto rheat rsens rlow rhigh ron rmin lamb labv lbel tcnt : Int32} {vf mf pf : Nat → Int32} {hf : Nat → Int64} {qcode qn qcold qtime : Int32} {qV qM : Nat → Int32} {qvol qh : Nat → Int64} {qamb qab qbe qrf qrt qrh qrs qrl qru qon qdr qdc : Nat → Int32} {qdn qdh qgi qlo : Nat → Int64} {qom : Nat → Int32} {p2 : Int32} (hN : 1000 ≤ N) (h4 : n ≤ 4) (ht : t < n) (hqn : qn = i3 n) (hx : xf t = some tk) (hT : TR t P dpar dheat full cnt vf hf rfrom rto rheat rsens rlow rhigh ron rgiven rmin lamb labv lbel llost tcnt mf pf qV qM qvol qh qamb qab qbe qrf qrt qrh qrs qrl qru qon qdr qdc qdn qdh qgi qlo qom) : (∃ a, fn_TL_sensor N (i3 t) p2 xn xcold xtime xf dpar dheat full cnt vf hf rfrom rto rheat rsens rlow rhigh ron rgiven rmin lamb labv lbel llost tcnt mf pf = some (.inr a) ∧ fn_Mod_sensor N (i3 t) p2 qcode qn qcold qtime qV qM qvol qh qamb qab qbe qrf qrt qrh qrs qrl qru qon qdr qdc qdn qdh qgi qlo qom = some (a, 0)) ∨ (fn_TL_sensor N (i3 t) p2 xn xcold xtime xf dpar dheat full cnt vf hf rfrom rto rheat rsens rlow rhigh ron rgiven rmin lamb labv lbel llost tcnt mf pf = some (.inl 1) ∧ ∃ z, fn_Mod_sensor N (i3 t) p2 qcode qn qcold qtime qV qM qvol qh qamb qab qbe qrf qrt qrh qrs qrl qru qon qdr qdc qdn qdh qgi qlo qom = some (z, 1)) := by
  obtain ⟨F, L, D, rh, f, u, sn, on, ⟨g1, g2, g3, g4, g5, g6⟩, ⟨k1, k2, k3, -⟩, hQS, -, hM⟩ := hT
  have hl := g2.2.2.2.2.1
  have hF := g2.2.2.2.1
  have hvol := g2.2.1
  have hV := hQS.1
  unfold fn_TL_sensor fn_Mod_sensor
  rw [tn_ok (by omega) hx, isT_ok hqn ht h4]
  simp (disch := omega) only [gx_then, Option.bind_some, z1, i3_inT, i3_nat, hV, k1, k2, ↓reduceIte]
  rw [show (i3 F - 1 : Int32) = i3 (F - 1) from i3_sub1 (by omega)]
  by_cases c1 : 0 ≤ p2 ∧ p2 ≤ i3 (F - 1)
  · rw [req_ok c1.1 c1.2, in_ok c1.1 c1.2]
    simp only [Option.bind_some, z1, ↓reduceIte]
    obtain ⟨h, hh, rfl⟩ := nat_of (by omega) c1.1 c1.2
    rw [w_tmp hN L h k3 (by omega) (by omega) (by omega) g2.1, m_tmp (show t < 4 by omega) hN L h hM (by omega) (by omega) (by omega) g2.1]
    exact Or.inl ⟨_, rfl, rfl⟩
  · rw [req_no c1, in_no c1]
    exact Or.inr ⟨rfl, _, rfl⟩
section PM
variable {N : Nat} {qn qcold qtime : Int32} {qV : Nat → Int32} {qamb qab qbe qrf qrt qrh qrs qrl qru qon qdr qdc : Nat → Int32} {qdn qdh qgi qlo : Nat → Int64} {qom : Nat → Int32}
theorem m_wrmLoop {t : Nat} {T : Int32} {qM : Nat → Int32} {qvol qh : Nat → Int64} (ht : t < 4) : ∀ (B : List Lay) (k n acc fuel : Nat), Rg i6 qvol qh (64 * t + k) B → qM t = i3 n → n = k + B.length → n ≤ 60 → acc + vol B ≤ 100000 → B.length < fuel → gx_fx (st_Mod_warm N qn qcold qtime qV qM qvol qh qamb qab qbe qrf qrt qrh qrs qrl qru qon qdr qdc qdn qdh qgi qlo qom) fuel (i3 t, T, i6 acc, i3 k, 0) = some (i3 (acc + wrm T.toInt64 B), 0) := by
  intro B
  induction B with
  | nil =>
    intro k n acc fuel hR hM hn h60 hv hfu
    obtain ⟨m, rfl⟩ : ∃ m, fuel = m + 1 := ⟨fuel - 1, by omega⟩
    simp only [List.length_nil] at hn
    simp only [vol] at hv
    rw [gx_fxS]
    simp only [st_Mod_warm, bk_Mod_warm_29, wrm]
    simp (disch := omega) only [i3_inT, i3_nat, hM, i3_leT, ↓reduceIte]
    rw [show (i6 acc).toInt32 = i3 acc from Int64.toInt32_ofNat']
    rfl
  | cons x B ih =>
    intro k n acc fuel hR hM hn h60 hv hfu
    simp only [List.length_cons] at hn hfu
    simp only [vol] at hv
    obtain ⟨m, rfl⟩ : ∃ m, fuel = m + 1 := ⟨fuel - 1, by omega⟩
    obtain ⟨x1, x2, rB⟩ := hR
    rw [gx_fxS]
    simp only [st_Mod_warm, bk_Mod_warm_29, lc_lt]
    simp (disch := omega) only [lt1, lt64, i3_mul, i3_add, i3_inT, i3_nat, hM, i3_leF, x1, x2, i6_add, ↓reduceIte]
    by_cases c : x.2 < i6 x.1 * T.toInt64
    · rw [if_pos c, Int64.add_zero, ih (k + 1) n acc m rB hM (by omega) h60 (by omega) (by omega), wrm, if_pos c, Nat.zero_add]
    · rw [if_neg c, ih (k + 1) n (acc + x.1) m rB hM (by omega) h60 (by omega) (by omega), wrm, if_neg c, Nat.add_assoc]
theorem m_toldLoop {t : Nat} {w : Int32} {qM : Nat → Int32} {qvol qh : Nat → Int64} (ht : t < 4) : ∀ (B : List Lay) (k n fuel : Nat) (acc : Int64), Rg i6 qvol qh (64 * t + k) B → qM t = i3 n → n = k + B.length → n ≤ 60 → B.length < fuel → ∃ m, gx_fx (st_Mod_told N qn qcold qtime qV qM qvol qh qamb qab qbe qrf qrt qrh qrs qrl qru qon qdr qdc qdn qdh qgi qlo qom) fuel (i3 t, w, acc, i3 k, 0) = gx_fx (st_Mod_told N qn qcold qtime qV qM qvol qh qamb qab qbe qrf qrt qrh qrs qrl qru qon qdr qdc qdn qdh qgi qlo qom) (m + 1) (i3 t, w, acc + hsm B, i3 n, 0) := by
  intro B
  induction B with
  | nil =>
    intro k n fuel acc hR hM hn h60 hfu
    obtain ⟨m, rfl⟩ : ∃ m, fuel = m + 1 := ⟨fuel - 1, by omega⟩
    have : n = k := hn
    subst this
    exact ⟨m, by simp only [hsm, Int64.add_zero]⟩
  | cons x B ih =>
    intro k n fuel acc hR hM hn h60 hfu
    simp only [List.length_cons] at hn hfu
    obtain ⟨m, rfl⟩ : ∃ m, fuel = m + 1 := ⟨fuel - 1, by omega⟩
    obtain ⟨x1, x2, rB⟩ := hR
    obtain ⟨m', e⟩ := ih (k + 1) n m (acc + x.2) rB hM (by omega) h60 (by omega)
    refine ⟨m', ?_⟩
    rw [gx_fxS]
    simp only [st_Mod_told, bk_Mod_told_41]
    simp (disch := omega) only [lt1, lt64, i3_mul, i3_add, i3_inT, i3_nat, hM, i3_leF, x2, ↓reduceIte]
    rw [e, hsm, Int64.add_assoc]
theorem m_noWarm {t T : Int32} {fuel : Nat} {qM : Nat → Int32} {qvol qh : Nat → Int64} : gx_fx (st_Mod_warm N qn qcold qtime qV qM qvol qh qamb qab qbe qrf qrt qrh qrs qrl qru qon qdr qdc qdn qdh qgi qlo qom) (fuel + 1) (t, T, 0, 0, 1) = some ((0 : Int64).toInt32, 1) := by
  rw [gx_fxS]
  simp only [st_Mod_warm, bk_Mod_warm_29, z1, ↓reduceIte]
end PM
theorem s_warm {N n t tk P : Nat} {xn xcold xtime : Int32} {xf : Nat → Option Nat} {dpar dheat rgiven llost : Int64} {full cnt rfrom rto rheat rsens rlow rhigh ron rmin lamb labv lbel tcnt : Int32} {vf mf pf : Nat → Int32} {hf : Nat → Int64} {qcode qn qcold qtime : Int32} {qV qM : Nat → Int32} {qvol qh : Nat → Int64} {qamb qab qbe qrf qrt qrh qrs qrl qru qon qdr qdc : Nat → Int32} {qdn qdh qgi qlo : Nat → Int64} {qom : Nat → Int32} {p2 : Int32} (hN : 1000 ≤ N) (h4 : n ≤ 4) (ht : t < n) (hqn : qn = i3 n) (hx : xf t = some tk) (hT : TR t P dpar dheat full cnt vf hf rfrom rto rheat rsens rlow rhigh ron rgiven rmin lamb labv lbel llost tcnt mf pf qV qM qvol qh qamb qab qbe qrf qrt qrh qrs qrl qru qon qdr qdc qdn qdh qgi qlo qom) : (∃ a, fn_TL_warm N (i3 t) p2 xn xcold xtime xf dpar dheat full cnt vf hf rfrom rto rheat rsens rlow rhigh ron rgiven rmin lamb labv lbel llost tcnt mf pf = some (.inr a) ∧ fn_Mod_warm N (i3 t) p2 qcode qn qcold qtime qV qM qvol qh qamb qab qbe qrf qrt qrh qrs qrl qru qon qdr qdc qdn qdh qgi qlo qom = some (a, 0)) ∨ (fn_TL_warm N (i3 t) p2 xn xcold xtime xf dpar dheat full cnt vf hf rfrom rto rheat rsens rlow rhigh ron rgiven rmin lamb labv lbel llost tcnt mf pf = some (.inl 1) ∧ ∃ z, fn_Mod_warm N (i3 t) p2 qcode qn qcold qtime qV qM qvol qh qamb qab qbe qrf qrt qrh qrs qrl qru qon qdr qdc qdn qdh qgi qlo qom = some (z, 1)) := by
  obtain ⟨F, L, D, rh, f, u, sn, on, ⟨g1, g2, g3, g4, g5, g6⟩, ⟨k1, k2, k3, -⟩, hQS, -, hM⟩ := hT
  have hl := g2.2.2.2.2.1
  have hF := g2.2.2.2.1
  have hvol := g2.2.1
  obtain ⟨M, rfl⟩ : ∃ M, N = M + 1 := ⟨N - 1, by omega⟩
  unfold fn_TL_warm fn_Mod_warm
  rw [tn_ok (by omega) hx, isT_ok hqn ht h4]
  simp only [gx_then, Option.bind_some, z1, k1, k2, ↓reduceIte]
  by_cases c1 : -1000 ≤ p2 ∧ p2 ≤ 200000
  · rw [tempT_ok c1.1 c1.2, tempQ_ok c1.1 c1.2]
    simp only [Option.bind_some, z1, ↓reduceIte]
    rw [w_wrm hN L k3 (by omega) (by omega)]
    have := m_wrmLoop (N := M + 1) (qn := qn) (qcold := qcold) (qtime := qtime) (qV := qV) (qamb := qamb) (qab := qab) (qbe := qbe) (qrf := qrf) (qrt := qrt) (qrh := qrh) (qrs := qrs) (qrl := qrl) (qru := qru) (qon := qon) (qdr := qdr) (qdc := qdc) (qdn := qdn) (qdh := qdh) (qgi := qgi) (qlo := qlo) (qom := qom) (T := p2) (show t < 4 by omega) L 0 L.length 0 (M + 1) hM.2 hM.1 (by omega) (by omega) (by omega) (by omega)
    refine Or.inl ⟨_, rfl, ?_⟩
    rw [Nat.zero_add] at this
    exact this
  · rw [tempT_no c1, tempQ_no c1]
    simp only [Option.bind_some, ↓reduceIte]
    exact Or.inr ⟨by first | rfl | trivial, _, m_noWarm⟩
theorem s_told {N n t tk P : Nat} {xn xcold xtime : Int32} {xf : Nat → Option Nat} {dpar dheat rgiven llost : Int64} {full cnt rfrom rto rheat rsens rlow rhigh ron rmin lamb labv lbel tcnt : Int32} {vf mf pf : Nat → Int32} {hf : Nat → Int64} {qcode qn qcold qtime : Int32} {qV qM : Nat → Int32} {qvol qh : Nat → Int64} {qamb qab qbe qrf qrt qrh qrs qrl qru qon qdr qdc : Nat → Int32} {qdn qdh qgi qlo : Nat → Int64} {qom : Nat → Int32} {p2 : Int32} (hN : 1000 ≤ N) (h4 : n ≤ 4) (ht : t < n) (hqn : qn = i3 n) (hx : xf t = some tk) (hT : TR t P dpar dheat full cnt vf hf rfrom rto rheat rsens rlow rhigh ron rgiven rmin lamb labv lbel llost tcnt mf pf qV qM qvol qh qamb qab qbe qrf qrt qrh qrs qrl qru qon qdr qdc qdn qdh qgi qlo qom) : (∃ a, fn_TL_told N (i3 t) p2 xn xcold xtime xf dpar dheat full cnt vf hf rfrom rto rheat rsens rlow rhigh ron rgiven rmin lamb labv lbel llost tcnt mf pf = some (.inr a) ∧ fn_Mod_told N (i3 t) p2 qcode qn qcold qtime qV qM qvol qh qamb qab qbe qrf qrt qrh qrs qrl qru qon qdr qdc qdn qdh qgi qlo qom = some (a, 0)) ∨ (fn_TL_told N (i3 t) p2 xn xcold xtime xf dpar dheat full cnt vf hf rfrom rto rheat rsens rlow rhigh ron rgiven rmin lamb labv lbel llost tcnt mf pf = some (.inl 1) ∧ ∃ z, fn_Mod_told N (i3 t) p2 qcode qn qcold qtime qV qM qvol qh qamb qab qbe qrf qrt qrh qrs qrl qru qon qdr qdc qdn qdh qgi qlo qom = some (z, 1)) := by
  obtain ⟨F, L, D, rh, f, u, sn, on, ⟨g1, g2, g3, g4, g5, g6⟩, ⟨k1, k2, k3, k4, k5, k6, k7, k8, k9, k10⟩, hQS, ⟨d1, d2, d3, d4, d5, d6⟩, hM⟩ := hT
  have hl := g2.2.2.2.2.1
  unfold fn_TL_told fn_Mod_told
  rw [tn_ok (by omega) hx, isT_ok hqn ht h4]
  simp only [gx_then, Option.bind_some, z1, k1, k2, k8, ↓reduceIte]
  by_cases c1 : 0 ≤ p2 ∧ p2 ≤ 6
  · rw [req_ok c1.1 c1.2, in_ok c1.1 c1.2]
    simp only [Option.bind_some, z1, ↓reduceIte]
    obtain ⟨m, e⟩ := m_toldLoop (N := N) (qn := qn) (qcold := qcold) (qtime := qtime) (qV := qV) (qamb := qamb) (qab := qab) (qbe := qbe) (qrf := qrf) (qrt := qrt) (qrh := qrh) (qrs := qrs) (qrl := qrl) (qru := qru) (qon := qon) (qdr := qdr) (qdc := qdc) (qdn := qdn) (qdh := qdh) (qgi := qgi) (qlo := qlo) (qom := qom) (w := p2) (show t < 4 by omega) L 0 L.length N 0 hM.2 hM.1 (by omega) (by omega) (by omega)
    rw [show (i3 0 : Int32) = 0 from rfl] at e
    rw [e, gx_fxS]
    simp only [st_Mod_told, bk_Mod_told_41]
    simp (disch := omega) only [i3_inT, i3_nat, hM.1, i3_leT, d1, d2, d3, d4, d5, d6, ↓reduceIte, Int64.zero_add]
    left
    by_cases a0 : p2 = 0
    · unfold fn_Water_heatInAll
      rw [if_pos a0, if_pos a0, w_sum0 hN L k3 (by omega)]
      exact ⟨_, rfl, rfl⟩
    rw [if_neg a0, if_neg a0]
    by_cases a1 : p2 = 1
    · rw [if_pos a1, if_pos a1]; exact ⟨_, rfl, rfl⟩
    rw [if_neg a1, if_neg a1]
    by_cases a2 : p2 = 2
    · rw [if_pos a2, if_pos a2]; exact ⟨_, rfl, rfl⟩
    rw [if_neg a2, if_neg a2]
    by_cases a3 : p2 = 3
    · rw [if_pos a3, if_pos a3]; exact ⟨_, rfl, rfl⟩
    rw [if_neg a3, if_neg a3]
    by_cases a4 : p2 = 4
    · rw [if_pos a4, if_pos a4]; exact ⟨_, rfl, rfl⟩
    rw [if_neg a4, if_neg a4]
    by_cases a5 : p2 = 5
    · rw [if_pos a5, if_pos a5]; exact ⟨_, rfl, rfl⟩
    rw [if_neg a5, if_neg a5]
    by_cases a6 : bI on = 0
    · rw [if_pos a6, if_pos a6]; exact ⟨_, rfl, rfl⟩
    rw [if_neg a6, if_neg a6]
    exact ⟨_, rfl, rfl⟩
  · rw [req_no c1, in_no c1]
    exact Or.inr ⟨rfl, _, rfl⟩
