def Sm (j : Nat) (qV qM : Nat → Int32) (qvol qh : Nat → Int64) (qamb qab qbe qrf qrt qrh qrs qrl qru qon qdr qdc : Nat → Int32) (qdn qdh qgi qlo : Nat → Int64) (qom : Nat → Int32) (qV' qM' : Nat → Int32) (qvol' qh' : Nat → Int64) (qamb' qab' qbe' qrf' qrt' qrh' qrs' qrl' qru' qon' qdr' qdc' : Nat → Int32) (qdn' qdh' qgi' qlo' : Nat → Int64) (qom' : Nat → Int32) : Prop := (∀ i, 64 * j ≤ i → i < 64 * j + 64 → qvol' i = qvol i ∧ qh' i = qh i) ∧ (∀ m, m < 1440 → qdr' (1440 * j + m) = qdr (1440 * j + m)) ∧ qV' j = qV j ∧ qM' j = qM j ∧ qamb' j = qamb j ∧ qab' j = qab j ∧ qbe' j = qbe j ∧ qrf' j = qrf j ∧ qrt' j = qrt j ∧ qrh' j = qrh j ∧ qrs' j = qrs j ∧ qrl' j = qrl j ∧ qru' j = qru j ∧ qon' j = qon j ∧ qdc' j = qdc j ∧ qdn' j = qdn j ∧ qdh' j = qdh j ∧ qgi' j = qgi j ∧ qlo' j = qlo j ∧ qom' j = qom j
theorem TR.same {j P : Nat} {dpar dheat rgiven llost : Int64} {full cnt rfrom rto rheat rsens rlow rhigh ron rmin lamb labv lbel tcnt : Int32} {vf mf pf : Nat → Int32} {hf : Nat → Int64} {qcode qn qcold qtime : Int32} {qV qM : Nat → Int32} {qvol qh : Nat → Int64} {qamb qab qbe qrf qrt qrh qrs qrl qru qon qdr qdc : Nat → Int32} {qdn qdh qgi qlo : Nat → Int64} {qom : Nat → Int32} {qV' qM' qamb' qab' qbe' qrf' qrt' qrh' qrs' qrl' qru' qon' qdr' qdc' qom' : Nat → Int32} {qvol' qh' qdn' qdh' qgi' qlo' : Nat → Int64} (hT : TR j P dpar dheat full cnt vf hf rfrom rto rheat rsens rlow rhigh ron rgiven rmin lamb labv lbel llost tcnt mf pf qV qM qvol qh qamb qab qbe qrf qrt qrh qrs qrl qru qon qdr qdc qdn qdh qgi qlo qom) (h : Sm j qV qM qvol qh qamb qab qbe qrf qrt qrh qrs qrl qru qon qdr qdc qdn qdh qgi qlo qom qV' qM' qvol' qh' qamb' qab' qbe' qrf' qrt' qrh' qrs' qrl' qru' qon' qdr' qdc' qdn' qdh' qgi' qlo' qom') : TR j P dpar dheat full cnt vf hf rfrom rto rheat rsens rlow rhigh ron rgiven rmin lamb labv lbel llost tcnt mf pf qV' qM' qvol' qh' qamb' qab' qbe' qrf' qrt' qrh' qrs' qrl' qru' qon' qdr' qdc' qdn' qdh' qgi' qlo' qom' := by
  obtain ⟨F, L, D, rh, f, u, sn, on, hG, hC, ⟨q1, q2, q3, q4, q5, q6, q7, q8, q9, q10, q11, q12⟩, ⟨d1, d2, d3, d4, d5, d6⟩, hM⟩ := hT
  obtain ⟨s1, s2, e_qV, e_qM, e_qamb, e_qab, e_qbe, e_qrf, e_qrt, e_qrh, e_qrs, e_qrl, e_qru, e_qon, e_qdc, e_qdn, e_qdh, e_qgi, e_qlo, e_qom⟩ := h
  have hl := hG.2.1.2.2.2.2.1
  refine ⟨F, L, D, rh, f, u, sn, on, hG, hC, ⟨e_qV.trans q1, e_qamb.trans q2, e_qab.trans q3, e_qbe.trans q4, e_qrf.trans q5, e_qrt.trans q6, e_qrh.trans q7, e_qrs.trans q8, e_qrl.trans q9, e_qru.trans q10, fun m hm => (s2 m hm).trans (q11 m hm), e_qdc.trans q12⟩, ⟨e_qon.trans d1, e_qdn.trans d2, e_qdh.trans d3, e_qgi.trans d4, e_qlo.trans d5, e_qom.trans d6⟩, e_qM.trans hM.1, hM.2.move fun i hi => s1 _ (by omega) (by omega)⟩
def QBl (j : Nat) (qV qM : Nat → Int32) (qvol qh : Nat → Int64) (qamb qab qbe qrf qrt qrh qrs qrl qru qon qdr qdc : Nat → Int32) (qdn qdh qgi qlo : Nat → Int64) (qom : Nat → Int32) : Prop := (∀ m, m < 1440 → qdr (1440 * j + m) = 0) ∧ qamb j = 0 ∧ qab j = 0 ∧ qrf j = 0 ∧ qrt j = 0 ∧ qrh j = 0 ∧ qrs j = 0 ∧ qrl j = 0 ∧ qru j = 0 ∧ qon j = 0 ∧ qdc j = 0 ∧ qdn j = 0 ∧ qdh j = 0 ∧ qgi j = 0 ∧ qlo j = 0 ∧ qom j = 0
theorem QBl.same {j : Nat} {qcode qn qcold qtime : Int32} {qV qM : Nat → Int32} {qvol qh : Nat → Int64} {qamb qab qbe qrf qrt qrh qrs qrl qru qon qdr qdc : Nat → Int32} {qdn qdh qgi qlo : Nat → Int64} {qom : Nat → Int32} {qV' qM' qamb' qab' qbe' qrf' qrt' qrh' qrs' qrl' qru' qon' qdr' qdc' qom' : Nat → Int32} {qvol' qh' qdn' qdh' qgi' qlo' : Nat → Int64} (hT : QBl j qV qM qvol qh qamb qab qbe qrf qrt qrh qrs qrl qru qon qdr qdc qdn qdh qgi qlo qom) (h : Sm j qV qM qvol qh qamb qab qbe qrf qrt qrh qrs qrl qru qon qdr qdc qdn qdh qgi qlo qom qV' qM' qvol' qh' qamb' qab' qbe' qrf' qrt' qrh' qrs' qrl' qru' qon' qdr' qdc' qdn' qdh' qgi' qlo' qom') : QBl j qV' qM' qvol' qh' qamb' qab' qbe' qrf' qrt' qrh' qrs' qrl' qru' qon' qdr' qdc' qdn' qdh' qgi' qlo' qom' := by
  obtain ⟨s0, b_qamb, b_qab, b_qrf, b_qrt, b_qrh, b_qrs, b_qrl, b_qru, b_qon, b_qdc, b_qdn, b_qdh, b_qgi, b_qlo, b_qom⟩ := hT
  obtain ⟨s1, s2, e_qV, e_qM, e_qamb, e_qab, e_qbe, e_qrf, e_qrt, e_qrh, e_qrs, e_qrl, e_qru, e_qon, e_qdc, e_qdn, e_qdh, e_qgi, e_qlo, e_qom⟩ := h
  exact ⟨fun m hm => (s2 m hm).trans (s0 m hm), e_qamb.trans b_qamb, e_qab.trans b_qab, e_qrf.trans b_qrf, e_qrt.trans b_qrt, e_qrh.trans b_qrh, e_qrs.trans b_qrs, e_qrl.trans b_qrl, e_qru.trans b_qru, e_qon.trans b_qon, e_qdc.trans b_qdc, e_qdn.trans b_qdn, e_qdh.trans b_qdh, e_qgi.trans b_qgi, e_qlo.trans b_qlo, e_qom.trans b_qom⟩
theorem Sm.rows {t j : Nat} {qcode qn qcold qtime : Int32} {qV qM : Nat → Int32} {qvol qh : Nat → Int64} {qamb qab qbe qrf qrt qrh qrs qrl qru qon qdr qdc : Nat → Int32} {qdn qdh qgi qlo : Nat → Int64} {qom : Nat → Int32} {qM' : Nat → Int32} {qvol' qh' : Nat → Int64} (h : Fr t qM qvol qh qM' qvol' qh') (hj : j ≠ t) : Sm j qV qM qvol qh qamb qab qbe qrf qrt qrh qrs qrl qru qon qdr qdc qdn qdh qgi qlo qom qV qM' qvol' qh' qamb qab qbe qrf qrt qrh qrs qrl qru qon qdr qdc qdn qdh qgi qlo qom :=
  ⟨fun i h1 h2 => h.2 i (by omega), fun _ _ => rfl, rfl, h.1 j hj, rfl, rfl, rfl, rfl, rfl, rfl, rfl, rfl, rfl, rfl, rfl, rfl, rfl, rfl, rfl, rfl⟩
set_option maxHeartbeats 1000000 in
theorem s_tank {N n : Nat} {xn xcold xtime : Int32} {xf : Nat → Option Nat} {qcode qn qcold qtime : Int32} {qV qM : Nat → Int32} {qvol qh : Nat → Int64} {qamb qab qbe qrf qrt qrh qrs qrl qru qon qdr qdc : Nat → Int32} {qdn qdh qgi qlo : Nat → Int64} {qom : Nat → Int32} {p1 p2 : Int32} (h4 : n ≤ 4) (hxn : xn = i3 n) (hqn : qn = i3 n) (hBl : n < 4 → QBl n qV qM qvol qh qamb qab qbe qrf qrt qrh qrs qrl qru qon qdr qdc qdn qdh qgi qlo qom) : (n < 4 ∧ ∃ V H Z1 Z2 qV' qM' qvol' qh' qbe', fn_TL_tank N p1 p2 xn xcold xtime xf = some (.inr (i3 n, i3 (n + 1), xcold, xtime, 0, 0, p1, 1, V, H, 0, 0, 0, 0, 0, 0, 0, 0, 0, 0, 0, 1, 0, 0, Z1, Z2)) ∧ fn_Mod_tank N p1 p2 qcode qn qcold qtime qV qM qvol qh qamb qab qbe qrf qrt qrh qrs qrl qru qon qdr qdc qdn qdh qgi qlo qom = some (i3 n, 0, qV', qM', qvol', qh', qbe', i3 (n + 1)) ∧ TR n 20000000000 0 0 p1 1 V H 0 0 0 0 0 0 0 0 0 0 0 1 0 0 Z1 Z2 qV' qM' qvol' qh' qamb qab qbe' qrf qrt qrh qrs qrl qru qon qdr qdc qdn qdh qgi qlo qom ∧ ∀ j, j ≠ n → Sm j qV qM qvol qh qamb qab qbe qrf qrt qrh qrs qrl qru qon qdr qdc qdn qdh qgi qlo qom qV' qM' qvol' qh' qamb qab qbe' qrf qrt qrh qrs qrl qru qon qdr qdc qdn qdh qgi qlo qom) ∨ (∃ e : Nat, (e = 1 ∨ e = 2) ∧ fn_TL_tank N p1 p2 xn xcold xtime xf = some (.inl e) ∧ ∃ z, fn_Mod_tank N p1 p2 qcode qn qcold qtime qV qM qvol qh qamb qab qbe qrf qrt qrh qrs qrl qru qon qdr qdc qdn qdh qgi qlo qom = some (z, i3 e, qV, qM, qvol, qh, qbe, qn)) := by
  unfold fn_TL_tank fn_Mod_tank
  by_cases c1 : 10 ≤ p1 ∧ p1 ≤ 100000
  · rw [req_ok c1.1 c1.2, in_ok c1.1 c1.2]
    simp only [gx_then, Option.bind_some, z1, ↓reduceIte]
    by_cases c2 : -1000 ≤ p2 ∧ p2 ≤ 200000
    · rw [tempT_ok c2.1 c2.2, tempQ_ok c2.1 c2.2]
      simp only [Option.bind_some, z1, ↓reduceIte, hxn, hqn]
      by_cases c3 : n = 4
      · refine Or.inr ⟨2, Or.inr rfl, ?_, ?_⟩
        · subst c3; rfl
        · subst c3; exact ⟨_, rfl⟩
      · have hn : n < 4 := by omega
        obtain ⟨F, hF, rfl⟩ := nat_of (F := 100000) (by omega) (by rw [Int32.le_iff_toInt_le]; have := c1.1; rw [Int32.le_iff_toInt_le] at this; exact Int.le_trans (by decide) this) c1.2
        have hF1 : 10 ≤ F := nat_le (a := 10) (by omega) (by omega) c1.1
        have hc := temp_int c2.1 c2.2
        obtain ⟨s0, b_qamb, b_qab, b_qrf, b_qrt, b_qrh, b_qrs, b_qrl, b_qru, b_qon, b_qdc, b_qdn, b_qdh, b_qgi, b_qlo, b_qom⟩ := hBl hn
        have m1 : (F : Int) * p2.toInt ≤ (F : Int) * 200000 := Int.mul_le_mul_of_nonneg_left hc.2 (by omega)
        have m2 : (F : Int) * (-1000) ≤ (F : Int) * p2.toInt := Int.mul_le_mul_of_nonneg_left hc.1 (by omega)
        have e : (i6 F * p2.toInt64).toInt = (F : Int) * p2.toInt := by
          rw [Int64.toInt_mul, i6_int (by omega), Int32.toInt_toInt64]
          apply bm64 <;> omega
        have hPt : Pt [(F, i6 F * p2.toInt64)] ≤ 20000000000 := by
          simp only [Pt, pl, e]
          omega
        refine Or.inl ⟨hn, upd (fun _ => 0) 0 (i3 F), vp_updL (fun _ => 0) 0 (i6 F * p2.toInt64), (fun _ => 0), (fun _ => 0), upd qV n (i3 F), upd qM n 1, vp_updL qvol (64 * n) (i6 F), vp_updL qh (64 * n) (i6 F * p2.toInt64), upd qbe n 1, ?_, ?_, ⟨F, [(F, i6 F * p2.toInt64)], [], 0, 0, 0, 0, false, ⟨hF1, ⟨Pv.mk (by simp only; omega) (fun _ h => by simp at h), by simp [vol], by omega, hF, by simp, trivial⟩, ⟨by simp, by simp, fun _ h => by simp at h⟩, ⟨by omega, by omega, by omega, by omega, by decide, Or.inl rfl⟩, ⟨by decide, by decide, by decide, by decide, by decide, by decide⟩, hPt⟩, ⟨rfl, rfl, ⟨rfl, rfl, trivial⟩, rfl, rfl, rfl, rfl, rfl, rfl, trivial⟩, ⟨?_, b_qamb, b_qab, ?_, b_qrf, b_qrt, b_qrh, b_qrs, b_qrl, b_qru, s0, b_qdc⟩, ⟨b_qon, b_qdn, b_qdh, b_qgi, b_qlo, b_qom⟩, ?_, ?_, ?_, trivial⟩, fun j hj => ⟨fun i h1 h2 => ?_, fun _ _ => rfl, ?_, ?_, rfl, rfl, ?_, rfl, rfl, rfl, rfl, rfl, rfl, rfl, rfl, rfl, rfl, rfl, rfl, rfl⟩⟩
        · unfold fn_Tank_init fn_Water_init fn_Rod_init fn_Loss_init fn_Time_init
          rw [i3_long (by omega)]
          simp (disch := omega) only [lt0, lt4, i3_ltF, i3_ltT, i3_inT, i3_nat, Option.bind_some, ↓reduceIte]
          rw [lt1, i3_add]
        · have hc4 : (i3 n = 4) = False := by rw [lt4]; exact i3_eqF c3 (by omega) (by omega)
          rw [i3_long (by omega)]
          simp (disch := omega) only [hc4, lt64, i3_mul, i3_inT, i3_nat, ↓reduceIte]
          rw [show (i3 n + 1 : Int32) = i3 (n + 1) from i3_add n 1, show (i3 (n + 1) - 1 : Int32) = i3 (n + 1 - 1) from i3_sub1 (by omega), show n + 1 - 1 = n by omega]
        all_goals first | (simp only [upd, vp_updL, ↓reduceIte]; done) | (simp only [upd, vp_updL, ↓reduceIte]; rfl) | (simp only [upd, if_neg hj]; done) | (simp only [vp_updL]; rw [if_neg (by omega), if_neg (by omega)]; exact ⟨rfl, rfl⟩)
    · rw [tempT_no c2, tempQ_no c2]
      exact Or.inr ⟨1, Or.inl rfl, rfl, _, by rw [hqn]; rfl⟩
  · rw [req_no c1, in_no c1]
    exact Or.inr ⟨1, Or.inl rfl, rfl, _, by rw [hqn]; rfl⟩
theorem s_cold {N : Nat} {xn xcold xtime : Int32} {xf : Nat → Option Nat} {qcode qn qcold qtime : Int32} {qV qM : Nat → Int32} {qvol qh : Nat → Int64} {qamb qab qbe qrf qrt qrh qrs qrl qru qon qdr qdc : Nat → Int32} {qdn qdh qgi qlo : Nat → Int64} {qom : Nat → Int32} {p1 : Int32} (hc : xcold = qcold) : (fn_TL_cold N p1 xn xcold xtime xf = some (.inr (qcold, p1)) ∧ fn_Mod_cold N p1 qcode qn qcold qtime qV qM qvol qh qamb qab qbe qrf qrt qrh qrs qrl qru qon qdr qdc qdn qdh qgi qlo qom = some (qcold, 0, p1) ∧ -1000 ≤ p1.toInt ∧ p1.toInt ≤ 200000) ∨ (fn_TL_cold N p1 xn xcold xtime xf = some (.inl 1) ∧ ∃ z, fn_Mod_cold N p1 qcode qn qcold qtime qV qM qvol qh qamb qab qbe qrf qrt qrh qrs qrl qru qon qdr qdc qdn qdh qgi qlo qom = some (z, 1, qcold)) := by
  unfold fn_TL_cold fn_Mod_cold
  by_cases c2 : -1000 ≤ p1 ∧ p1 ≤ 200000
  · rw [tempT_ok c2.1 c2.2, tempQ_ok c2.1 c2.2]
    simp only [gx_then, Option.bind_some, z1, ↓reduceIte, hc]
    exact Or.inl ⟨by first | rfl | trivial, by first | rfl | trivial, temp_int c2.1 c2.2⟩
  · rw [tempT_no c2, tempQ_no c2]
    exact Or.inr ⟨rfl, _, rfl⟩
theorem xor_nn3 {a b : Int32} (hb : 0 ≤ b.toInt) : 0 ≤ (a ^^^ b).toInt ↔ 0 ≤ a.toInt := by
  have h1 : (a ^^^ b).toBitVec.msb = (a.toBitVec.msb ^^ b.toBitVec.msb) := by rw [Int32.toBitVec_xor, BitVec.msb_xor]
  have h2 : ∀ x : Int32, x.toBitVec.msb = decide (x.toInt < 0) := fun x => BitVec.msb_eq_toInt
  rw [h2, h2, h2] at h1
  have h3 : decide (b.toInt < 0) = false := decide_eq_false (by omega)
  rw [h3, Bool.xor_false] at h1
  have := decide_eq_decide.mp h1
  omega
theorem day_eq {a : Nat} (h : a < 2147483648) : i3 a - i3 a / 1440 * 1440 = i3 (a % 1440) := by
  have e : i3 a / 1440 = i3 (a / 1440) := (Int32.ofNat_div (a := a) (b := 1440) (by omega) (by omega)).symm
  rw [e, lt1440, i3_mul, i3_sub (by omega)]
  exact congrArg i3 (by omega)
theorem fm_eq {N a : Nat} (h : a < 2147483648) : fn_Math_floorMod N (i3 a) 1440 = some (i3 (a % 1440)) := by
  unfold fn_Math_floorMod
  have h0 : (1440 : Int32) ≠ 0 := by decide
  have hx : (0 : Int32) ≤ i3 a ^^^ 1440 := by
    rw [Int32.le_iff_toInt_le]
    have e : (0 : Int32).toInt = 0 := by decide
    rw [e]
    exact (xor_nn3 (by decide)).mpr (by rw [i3_int h]; omega)
  rw [if_neg h0, if_pos hx, day_eq h]
