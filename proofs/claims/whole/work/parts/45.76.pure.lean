theorem cut_zero (L : List Lay) : cutL 0 L = ([], L) := by
  cases L with
  | nil => rfl
  | cons x L => rw [cutL, if_pos rfl]
theorem cut_all : ∀ (L : List Lay), Pv L → cutL (vol L) L = (L, []) := by
  intro L
  induction L with
  | nil => intro _; rfl
  | cons x L ih =>
    intro hP
    obtain ⟨h1, h2⟩ := hP.cons
    rw [cutL, vol, if_neg (by omega), if_neg (by omega), show x.1 + vol L - x.1 = vol L by omega, ih h2]
theorem TR.keep {t j P : Nat} {dpar dheat rgiven llost : Int64} {full cnt rfrom rto rheat rsens rlow rhigh ron rmin lamb labv lbel tcnt : Int32} {vf mf pf : Nat → Int32} {hf : Nat → Int64} {qcode qn qcold qtime : Int32} {qV qM : Nat → Int32} {qvol qh : Nat → Int64} {qamb qab qbe qrf qrt qrh qrs qrl qru qon qdr qdc : Nat → Int32} {qdn qdh qgi qlo : Nat → Int64} {qom : Nat → Int32} {qM' qon' qom' : Nat → Int32} {qvol' qh' qdn' qdh' qgi' qlo' : Nat → Int64} (hj : j ≠ t) (hT : TR j P dpar dheat full cnt vf hf rfrom rto rheat rsens rlow rhigh ron rgiven rmin lamb labv lbel llost tcnt mf pf qV qM qvol qh qamb qab qbe qrf qrt qrh qrs qrl qru qon qdr qdc qdn qdh qgi qlo qom) (hF : Fr t qM qvol qh qM' qvol' qh') (h1 : qon' j = qon j) (h2 : qdn' j = qdn j) (h3 : qdh' j = qdh j) (h4 : qgi' j = qgi j) (h5 : qlo' j = qlo j) (h6 : qom' j = qom j) : TR j P dpar dheat full cnt vf hf rfrom rto rheat rsens rlow rhigh ron rgiven rmin lamb labv lbel llost tcnt mf pf qV qM' qvol' qh' qamb qab qbe qrf qrt qrh qrs qrl qru qon' qdr qdc qdn' qdh' qgi' qlo' qom' := by
  obtain ⟨F, L, D, rh, f, u, sn, on, hG, hC, hQS, ⟨d1, d2, d3, d4, d5, d6⟩, hM⟩ := hT
  refine ⟨F, L, D, rh, f, u, sn, on, hG, hC, hQS, ⟨h1.trans d1, h2.trans d2, h3.trans d3, h4.trans d4, h5.trans d5, h6.trans d6⟩, hF.row hj (by have := hG.2.1.2.2.2.2.1; omega) hM⟩
theorem TR.more {t P P' : Nat} {dpar dheat rgiven llost : Int64} {full cnt rfrom rto rheat rsens rlow rhigh ron rmin lamb labv lbel tcnt : Int32} {vf mf pf : Nat → Int32} {hf : Nat → Int64} {qcode qn qcold qtime : Int32} {qV qM : Nat → Int32} {qvol qh : Nat → Int64} {qamb qab qbe qrf qrt qrh qrs qrl qru qon qdr qdc : Nat → Int32} {qdn qdh qgi qlo : Nat → Int64} {qom : Nat → Int32} (hT : TR t P dpar dheat full cnt vf hf rfrom rto rheat rsens rlow rhigh ron rgiven rmin lamb labv lbel llost tcnt mf pf qV qM qvol qh qamb qab qbe qrf qrt qrh qrs qrl qru qon qdr qdc qdn qdh qgi qlo qom) (h : P ≤ P') : TR t P' dpar dheat full cnt vf hf rfrom rto rheat rsens rlow rhigh ron rgiven rmin lamb labv lbel llost tcnt mf pf qV qM qvol qh qamb qab qbe qrf qrt qrh qrs qrl qru qon qdr qdc qdn qdh qgi qlo qom := by
  obtain ⟨F, L, D, rh, f, u, sn, on, ⟨g1, g2, g3, g4, g5, g6⟩, hR⟩ := hT
  exact ⟨F, L, D, rh, f, u, sn, on, ⟨g1, g2, g3, g4, g5, by omega⟩, hR⟩
theorem s_minute {N t m P : Nat} {dpar dheat rgiven llost : Int64} {full cnt rfrom rto rheat rsens rlow rhigh ron rmin lamb labv lbel tcnt : Int32} {vf mf pf : Nat → Int32} {hf : Nat → Int64} {qcode qn qcold qtime : Int32} {qV qM : Nat → Int32} {qvol qh : Nat → Int64} {qamb qab qbe qrf qrt qrh qrs qrl qru qon qdr qdc : Nat → Int32} {qdn qdh qgi qlo : Nat → Int64} {qom : Nat → Int32} (hN : 1000 ≤ N) (ht : t < 4) (hm : m < 1440) (htm : qtime - qtime / 1440 * 1440 = i3 m) (c1 : -1000 ≤ qcold.toInt) (c2 : qcold.toInt ≤ 200000) (hT : TR t P dpar dheat full cnt vf hf rfrom rto rheat rsens rlow rhigh ron rgiven rmin lamb labv lbel llost tcnt mf pf qV qM qvol qh qamb qab qbe qrf qrt qrh qrs qrl qru qon qdr qdc qdn qdh qgi qlo qom) (hP : P + 30000090 ≤ 3000000000000) : ∃ dpar' dheat' cnt' vf' hf' ron' rgiven' rmin' llost' qM' qvol' qh' qon' qdn' qdh' qgi' qlo' qom', fn_Tank_passMinute N (i3 m) qcold dpar dheat full cnt vf hf rfrom rto rheat rsens rlow rhigh ron rgiven rmin lamb labv lbel llost tcnt mf pf = some (dpar', dheat', cnt', vf', hf', ron', rgiven', rmin', llost') ∧ fn_Mod_minute N (i3 t) qcode qn qcold qtime qV qM qvol qh qamb qab qbe qrf qrt qrh qrs qrl qru qon qdr qdc qdn qdh qgi qlo qom = some (qM', qvol', qh', qon', qdn', qdh', qgi', qlo', qom') ∧ TR t (P + 30000090) dpar' dheat' full cnt' vf' hf' rfrom rto rheat rsens rlow rhigh ron' rgiven' rmin' lamb labv lbel llost' tcnt mf pf qV qM' qvol' qh' qamb qab qbe qrf qrt qrh qrs qrl qru qon' qdr qdc qdn' qdh' qgi' qlo' qom' ∧ Fr t qM qvol qh qM' qvol' qh' ∧ ∀ j, j ≠ t → qon' j = qon j ∧ qdn' j = qdn j ∧ qdh' j = qdh j ∧ qgi' j = qgi j ∧ qlo' j = qlo j ∧ qom' j = qom j := by
  obtain ⟨F, L, D, rh, f, u, sn, on, ⟨g1, g2, g3, g4, g5, g6⟩, ⟨k1, k2, k3, k4, k5, k6, k7, k8, k9, k10⟩, ⟨q1, q2, q3, q4, q5, q6, q7, q8, q9, q10, q11, q12⟩, ⟨d1, d2, d3, d4, d5, d6⟩, hM⟩ := hT
  obtain ⟨vf', hf', e1, r1⟩ := w_minute (N := N) (on := on) (dpar := dpar) (dheat := dheat) (given := rgiven) (llost := llost) (rmin := rmin) hN hm L D g3 k10 g2 k3 (by omega) c1 c2 g4 g5
  obtain ⟨a, b, c, qon', qdn', qdh', qgi', qlo', qom', e2, r2, f2, o1, o2, o3, o4, o5, o6⟩ := m_minute (N := N) (qcode := qcode) (qn := qn) (qcold := qcold) (qtime := qtime) (qV := qV) (qamb := qamb) (qab := qab) (qbe := qbe) (qrf := qrf) (qrt := qrt) (qrh := qrh) (qrs := qrs) (qrl := qrl) (qru := qru) (qon := qon) (qdr := qdr) (qdc := qdc) (qdn := qdn) (qdh := qdh) (qgi := qgi) (qlo := qlo) (qom := qom) (v := lk m D) ht hN hm htm (q11 m hm) (lk_le g3) q1 q5 q6 q7 q8 d1 L g2 hM (by omega) c1 c2 (by rw [q9, q10]; exact g4) (by rw [q2, q3, q4]; exact g5)
  rw [q2, q3, q4, q9, q10] at r2 o1 o2 o3 o4 o5 o6
  have hrow := row_L3 (v := lk m D) (on := on) g2 (by omega) (lk_le g3) c1 c2 g4 g5
  refine ⟨_, _, _, vf', hf', _, _, _, _, a, b, c, qon', qdn', qdh', qgi', qlo', qom', ?_, e2, ⟨F, _, D, rh, f, u, sn, _, ⟨g1, hrow.1, g3, g4, g5, by omega⟩, ⟨k1, rfl, r1, k4, k5, k6, k7, rfl, k9, k10⟩, ⟨q1, q2, q3, q4, q5, q6, q7, q8, q9, q10, q11, q12⟩, ⟨o1.1, ?_, ?_, ?_, ?_, ?_⟩, r2⟩, f2, fun j hj => ⟨o1.2 j hj, o2.2 j hj, o3.2 j hj, o4.2 j hj, o5.2 j hj, o6.2 j hj⟩⟩
  · rw [k1, k2, k4, k5, k6, k7, k8, k9]
    exact e1
  · rw [o2.1, d2]
  · rw [o3.1, d3]
  · rw [o4.1, d4]
  · rw [o5.1, d5]
  · rw [o6.1, d6]
