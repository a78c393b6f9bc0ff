def At1 {α : Type} (t : Nat) (f f' : Nat → α) (x : α) : Prop := f' t = x ∧ ∀ j, j ≠ t → f' j = f j
theorem At1.u3 {t : Nat} {f : Nat → Int32} {x y : Int32} (h : x = y) : At1 t f (upd f t x) y := ⟨by simp only [upd, ↓reduceIte]; exact h, fun j hj => by simp only [upd, if_neg hj]⟩
theorem At1.updL {t : Nat} {f : Nat → Int64} {x y : Int64} (h : x = y) : At1 t f (vp_updL f t x) y := ⟨by simp only [vp_updL, ↓reduceIte]; exact h, fun j hj => by simp only [vp_updL, if_neg hj]⟩
theorem n0 : vp_nar .boolean 0 = 0 := by decide
theorem n1 : vp_nar .boolean 1 = 1 := by decide
theorem b0 : (bI false = 0) = True := by decide
theorem b1 : (bI true = 0) = False := by decide
theorem z0 : ((0 : Int32) = 0) = True := by decide
theorem z1 : ((1 : Int32) = 0) = False := by decide
theorem le_nat3 {a b : Nat} (h : a ≤ b) (hb : b < 2147483648) : i3 a ≤ i3 b := (i3_leT h hb).mpr trivial
theorem lt1440 : (1440 : Int32) = i3 1440 := rfl
section PM
variable {N : Nat} {qcode qn qcold qtime : Int32} {qV : Nat → Int32} {qamb qab qbe qrf qrt qrh qrs qrl qru qon qdr qdc : Nat → Int32} {qdn qdh qgi qlo : Nat → Int64} {qom : Nat → Int32}
set_option maxHeartbeats 4000000 in
theorem m_minute {t full v m rh f u sn : Nat} {on : Bool} {qM : Nat → Int32} {qvol qh : Nat → Int64} (ht : t < 4) (hN : 1000 ≤ N) (hm : m < 1440) (htm : qtime - qtime / 1440 * 1440 = i3 m) (hdr : qdr (1440 * t + m) = i3 v) (hv : v ≤ full) (hV : qV t = i3 full) (hrf : qrf t = i3 f) (hrt : qrt t = i3 u) (hrh : qrh t = i3 rh) (hrs : qrs t = i3 sn) (hon : qon t = bI on) (L : List Lay) (hR : Row full L) (hM : Mrow t qM qvol qh L) (hB : Pt L + 30000090 ≤ 3000000000000) (c1 : -1000 ≤ qcold.toInt) (c2 : qcold.toInt ≤ 200000) (hO : RodOk full rh f u sn (qrl t) (qru t)) (hL : LossOk (qamb t) (qab t) (qbe t)) : ∃ qM' qvol' qh' qon' qdn' qdh' qgi' qlo' qom', fn_Mod_minute N (i3 t) qcode qn qcold qtime qV qM qvol qh qamb qab qbe qrf qrt qrh qrs qrl qru qon qdr qdc qdn qdh qgi qlo qom = some (qM', qvol', qh', qon', qdn', qdh', qgi', qlo', qom') ∧ Mrow t qM' qvol' qh' (mL3 full v rh f u sn qcold.toInt64 (qrl t).toInt64 (qru t).toInt64 (qamb t).toInt64 (qab t).toInt64 (qbe t).toInt64 on L) ∧ Fr t qM qvol qh qM' qvol' qh' ∧ At1 t qon qon' (bI (mOn rh sn (qrl t).toInt64 (qru t).toInt64 on (mL1 full v qcold.toInt64 L))) ∧ At1 t qdn qdn' (qdn t + i6 v) ∧ At1 t qdh qdh' (qdh t + mQ1 full v qcold.toInt64 L) ∧ At1 t qgi qgi' (mGi rh (mOn rh sn (qrl t).toInt64 (qru t).toInt64 on (mL1 full v qcold.toInt64 L)) (qgi t)) ∧ At1 t qlo qlo' (qlo t + lps (qamb t).toInt64 (qab t).toInt64 (qbe t).toInt64 (mL2 rh f u (mOn rh sn (qrl t).toInt64 (qru t).toInt64 on (mL1 full v qcold.toInt64 L)) (mL1 full v qcold.toInt64 L))) ∧ At1 t qom qom' (mMi rh (mOn rh sn (qrl t).toInt64 (qru t).toInt64 on (mL1 full v qcold.toInt64 L)) (qom t)) := by
  have hF := hR.2.2.2.1
  have hF1 := hR.2.2.1
  have hbe : 0 < (qbe t).toInt64.toInt := by rw [Int32.toInt_toInt64]; have := hL.2.2.2.2.1; omega
  have hO' := hO
  obtain ⟨o1, o2, o3, o4, o5, o6⟩ := hO'
  have hlh : (qrl t).toInt64 ≤ (qru t).toInt64 := by rw [Int64.le_iff_toInt_le, Int32.toInt_toInt64, Int32.toInt_toInt64]; exact o5
  have k1 := row_L1 (v := v) hR (by omega) hv c1 c2
  have n4 : (i3 t).toNatClampNeg = t := i3_nat (by omega)
  have b4 : gx_inb (i3 t) 4 = true := i3_inT ht (by omega)
  have hib : gx_inb ((1440 * i3 t) + i3 m) 5760 = true := by rw [lt1440, i3_mul, i3_add]; exact i3_inT (by omega) (by omega)
  have hd : qdr ((1440 * i3 t) + i3 m).toNatClampNeg = i3 v := by rw [lt1440, i3_mul, i3_add, i3_nat (by omega)]; exact hdr
  have l6 : (i3 rh).toInt64 = i6 rh := i3_long (by omega)
  have lv6 : (i3 v).toInt64 = i6 v := i3_long (by omega)
  unfold fn_Mod_minute
  rw [htm, if_pos hib, hd]
  by_cases hv0 : v = 0
  · rw [if_pos (show i3 v ≤ 0 by rw [lt0]; exact le_nat3 (by omega) (by omega))]
    simp (maxSteps := 4000000) only [n4, b4, hrf, hrt, hrh, hrs, l6, ↓reduceIte]
    have hL1 : mL1 full v qcold.toInt64 L = L := by rw [mL1, if_pos hv0]
    have f1 : Fr t qM qvol qh qM qvol qh := Fr.refl
    rw [hL1] at k1 ⊢
    have R1 := k1.1
    have r1 := hM
    have hVol := R1.2.1
    have hB1 := k1.2
    generalize hLe : L = L1 at R1 r1 hL1 hVol hB1 ⊢
    replace hB1 : Pt L1 ≤ Pt L := by rw [hLe]; exact Nat.le_refl _
    by_cases crh : rh = 0
    · have hmo : mOn rh sn (qrl t).toInt64 (qru t).toInt64 on L1 = on := by rw [mOn, if_pos crh]
      have hc : (i3 rh ≤ 0) = True := by rw [lt0]; exact i3_leT (by omega) (by omega)
      simp only [hc, ↓reduceIte]
      obtain ⟨a, b, c, lo1, e6, r6, f6, l6, k6⟩ := m_lose (N := N) (qcode := qcode) (qn := qn) (qcold := qcold) (qtime := qtime) (qV := qV) (qamb := qamb) (qab := qab) (qbe := qbe) (qrf := qrf) (qrt := qrt) (qrh := qrh) (qrs := qrs) (qrl := qrl) (qru := qru) (qdr := qdr) (qdc := qdc) (qon := qon) (qom := qom) (qdn := qdn) (qdh := qdh) (qgi := qgi) (qlo := qlo) ht hN hbe L1 (ne_of_vol (by have := R1.2.1; omega)) R1.2.2.2.2.1 r1
      have hl2 : mL2 rh f u (mOn rh sn (qrl t).toInt64 (qru t).toInt64 on L1) L1 = L1 := by rw [hmo, mL2, if_neg (by simp [crh])]
      refine ⟨a, b, c, qon, qdn, qdh, qgi, lo1, qom, ?_, by unfold mL3; rw [hL1, hl2]; exact r6, f1.trans f6, ⟨by rw [hmo]; exact hon, fun _ _ => rfl⟩, ⟨by rw [hv0, show i6 0 = 0 from rfl, Int64.add_zero], fun _ _ => rfl⟩, ⟨by rw [mQ1, if_pos hv0, Int64.add_zero], fun _ _ => rfl⟩, ⟨by rw [hmo, mGi, if_neg (by simp [crh])], fun _ _ => rfl⟩, ⟨by rw [hl2]; exact l6, k6⟩, ⟨by rw [hmo, mMi, if_neg (by simp [crh])], fun _ _ => rfl⟩⟩
      exact e6
    · have hc : (i3 rh ≤ 0) = False := by rw [lt0]; exact i3_leF (by omega) (by omega)
      simp only [hc, ↓reduceIte]
      rw [m_tmp ht hN L1 sn r1 (by have := R1.2.2.2.2.1; omega) (by omega) (by omega) R1.1]
      simp only [Option.bind_some, lc_ge]
      simp (maxSteps := 4000000) only [hon, n0, n1, upd, ↓reduceIte]
      simp only [z0, z1, ↓reduceIte]
      cases on with
      | false =>
        simp only [b0, ↓reduceIte]
        by_cases d : (qrl t).toInt64 ≤ tmp sn L1
        · have hmo : mOn rh sn (qrl t).toInt64 (qru t).toInt64 false L1 = false := by rw [mOn, if_neg crh, if_neg (Int64.not_lt.mpr d)]; split <;> rfl
          simp only [d, ↓reduceIte]
          obtain ⟨a, b, c, lo1, e6, r6, f6, l6, k6⟩ := m_lose (N := N) (qcode := qcode) (qn := qn) (qcold := qcold) (qtime := qtime) (qV := qV) (qamb := qamb) (qab := qab) (qbe := qbe) (qrf := qrf) (qrt := qrt) (qrh := qrh) (qrs := qrs) (qrl := qrl) (qru := qru) (qdr := qdr) (qdc := qdc) (qon := (upd qon t 0)) (qom := qom) (qdn := qdn) (qdh := qdh) (qgi := qgi) (qlo := qlo) ht hN hbe L1 (ne_of_vol (by have := R1.2.1; omega)) R1.2.2.2.2.1 r1
          have hl2 : mL2 rh f u (mOn rh sn (qrl t).toInt64 (qru t).toInt64 false L1) L1 = L1 := by rw [hmo, mL2, if_neg (by simp)]
          refine ⟨a, b, c, (upd qon t 0), qdn, qdh, qgi, lo1, qom, ?_, by unfold mL3; rw [hL1, hl2]; exact r6, f1.trans f6, At1.u3 (by rw [hmo]; rfl), ⟨by rw [hv0, show i6 0 = 0 from rfl, Int64.add_zero], fun _ _ => rfl⟩, ⟨by rw [mQ1, if_pos hv0, Int64.add_zero], fun _ _ => rfl⟩, ⟨by rw [hmo, mGi, if_neg (by simp)], fun _ _ => rfl⟩, ⟨by rw [hl2]; exact l6, k6⟩, ⟨by rw [hmo, mMi, if_neg (by simp)], fun _ _ => rfl⟩⟩
          exact e6
        · have hmo : mOn rh sn (qrl t).toInt64 (qru t).toInt64 false L1 = true := by rw [mOn, if_neg crh, if_pos (by rw [← Int64.not_le]; exact d)]
          simp only [d, ↓reduceIte]
          obtain ⟨a5, b5, c5, e5, r5, f5⟩ := m_heat (N := N) (qcode := qcode) (qn := qn) (qcold := qcold) (qtime := qtime) (qV := qV) (qamb := qamb) (qab := qab) (qbe := qbe) (qrf := qrf) (qrt := qrt) (qrh := qrh) (qrs := qrs) (qrl := qrl) (qru := qru) (qdr := qdr) (qdc := qdc) (qon := (upd qon t 1)) (qdn := qdn) (qdh := qdh) (qgi := qgi) (qlo := qlo) (qom := qom) (f := f) (u := u) (q := i6 rh) ht hN L1 (by omega) (by omega) (by omega) R1.1 R1.2.2.2.2.1 r1
          have R5 : Row full (heaL f u (i6 rh) L1) := by
            have := (row_L2 (on := true) R1 hO (by omega)).1
            simp only [mL2, ne_eq, crh, not_false_eq_true, and_self, ↓reduceIte] at this
            exact this
          obtain ⟨a, b, c, lo1, e6, r6, f6, l6, k6⟩ := m_lose (N := N) (qcode := qcode) (qn := qn) (qcold := qcold) (qtime := qtime) (qV := qV) (qamb := qamb) (qab := qab) (qbe := qbe) (qrf := qrf) (qrt := qrt) (qrh := qrh) (qrs := qrs) (qrl := qrl) (qru := qru) (qdr := qdr) (qdc := qdc) (qon := (upd qon t 1)) (qom := (upd qom t (qom t + 1))) (qdn := qdn) (qdh := qdh) (qgi := (vp_updL qgi t (qgi t + i6 rh))) (qlo := qlo) ht hN hbe (heaL f u (i6 rh) L1) (ne_of_vol (by have := R5.2.1; omega)) R5.2.2.2.2.1 r5
          have hl2 : mL2 rh f u (mOn rh sn (qrl t).toInt64 (qru t).toInt64 false L1) L1 = (heaL f u (i6 rh) L1) := by rw [hmo, mL2, if_pos ⟨crh, rfl⟩]
          refine ⟨a, b, c, (upd qon t 1), qdn, qdh, (vp_updL qgi t (qgi t + i6 rh)), lo1, (upd qom t (qom t + 1)), ?_, by unfold mL3; rw [hL1, hl2]; exact r6, f1.trans (f5.trans f6), At1.u3 (by rw [hmo]; rfl), ⟨by rw [hv0, show i6 0 = 0 from rfl, Int64.add_zero], fun _ _ => rfl⟩, ⟨by rw [mQ1, if_pos hv0, Int64.add_zero], fun _ _ => rfl⟩, At1.updL (by rw [hmo, mGi, if_pos ⟨crh, rfl⟩]), ⟨by rw [hl2]; exact l6, k6⟩, At1.u3 (by rw [hmo, mMi, if_pos ⟨crh, rfl⟩])⟩
          rw [e5]
          simp only [Option.bind_some]
          try simp only [n4, b4, hrh, l6, ↓reduceIte]
          exact e6
      | true =>
        simp only [b1, ↓reduceIte]
        by_cases d : (qru t).toInt64 ≤ tmp sn L1
        · have hmo : mOn rh sn (qrl t).toInt64 (qru t).toInt64 true L1 = false := by
            rw [mOn, if_neg crh, if_neg (Int64.not_lt.mpr (Int64.le_trans hlh d)), if_neg (Int64.not_lt.mpr d)]
          simp only [d, ↓reduceIte]
          obtain ⟨a, b, c, lo1, e6, r6, f6, l6, k6⟩ := m_lose (N := N) (qcode := qcode) (qn := qn) (qcold := qcold) (qtime := qtime) (qV := qV) (qamb := qamb) (qab := qab) (qbe := qbe) (qrf := qrf) (qrt := qrt) (qrh := qrh) (qrs := qrs) (qrl := qrl) (qru := qru) (qdr := qdr) (qdc := qdc) (qon := (upd qon t 0)) (qom := qom) (qdn := qdn) (qdh := qdh) (qgi := qgi) (qlo := qlo) ht hN hbe L1 (ne_of_vol (by have := R1.2.1; omega)) R1.2.2.2.2.1 r1
          have hl2 : mL2 rh f u (mOn rh sn (qrl t).toInt64 (qru t).toInt64 true L1) L1 = L1 := by rw [hmo, mL2, if_neg (by simp)]
          refine ⟨a, b, c, (upd qon t 0), qdn, qdh, qgi, lo1, qom, ?_, by unfold mL3; rw [hL1, hl2]; exact r6, f1.trans f6, At1.u3 (by rw [hmo]; rfl), ⟨by rw [hv0, show i6 0 = 0 from rfl, Int64.add_zero], fun _ _ => rfl⟩, ⟨by rw [mQ1, if_pos hv0, Int64.add_zero], fun _ _ => rfl⟩, ⟨by rw [hmo, mGi, if_neg (by simp)], fun _ _ => rfl⟩, ⟨by rw [hl2]; exact l6, k6⟩, ⟨by rw [hmo, mMi, if_neg (by simp)], fun _ _ => rfl⟩⟩
          exact e6
        · have hmo : mOn rh sn (qrl t).toInt64 (qru t).toInt64 true L1 = true := by
            rw [mOn, if_neg crh, if_pos (show tmp sn L1 < (qru t).toInt64 by rw [← Int64.not_le]; exact d)]
            split <;> rfl
          simp only [d, ↓reduceIte]
          obtain ⟨a5, b5, c5, e5, r5, f5⟩ := m_heat (N := N) (qcode := qcode) (qn := qn) (qcold := qcold) (qtime := qtime) (qV := qV) (qamb := qamb) (qab := qab) (qbe := qbe) (qrf := qrf) (qrt := qrt) (qrh := qrh) (qrs := qrs) (qrl := qrl) (qru := qru) (qdr := qdr) (qdc := qdc) (qon := (upd qon t 1)) (qdn := qdn) (qdh := qdh) (qgi := qgi) (qlo := qlo) (qom := qom) (f := f) (u := u) (q := i6 rh) ht hN L1 (by omega) (by omega) (by omega) R1.1 R1.2.2.2.2.1 r1
          have R5 : Row full (heaL f u (i6 rh) L1) := by
            have := (row_L2 (on := true) R1 hO (by omega)).1
            simp only [mL2, ne_eq, crh, not_false_eq_true, and_self, ↓reduceIte] at this
            exact this
          obtain ⟨a, b, c, lo1, e6, r6, f6, l6, k6⟩ := m_lose (N := N) (qcode := qcode) (qn := qn) (qcold := qcold) (qtime := qtime) (qV := qV) (qamb := qamb) (qab := qab) (qbe := qbe) (qrf := qrf) (qrt := qrt) (qrh := qrh) (qrs := qrs) (qrl := qrl) (qru := qru) (qdr := qdr) (qdc := qdc) (qon := (upd qon t 1)) (qom := (upd qom t (qom t + 1))) (qdn := qdn) (qdh := qdh) (qgi := (vp_updL qgi t (qgi t + i6 rh))) (qlo := qlo) ht hN hbe (heaL f u (i6 rh) L1) (ne_of_vol (by have := R5.2.1; omega)) R5.2.2.2.2.1 r5
          have hl2 : mL2 rh f u (mOn rh sn (qrl t).toInt64 (qru t).toInt64 true L1) L1 = (heaL f u (i6 rh) L1) := by rw [hmo, mL2, if_pos ⟨crh, rfl⟩]
          refine ⟨a, b, c, (upd qon t 1), qdn, qdh, (vp_updL qgi t (qgi t + i6 rh)), lo1, (upd qom t (qom t + 1)), ?_, by unfold mL3; rw [hL1, hl2]; exact r6, f1.trans (f5.trans f6), At1.u3 (by rw [hmo]; rfl), ⟨by rw [hv0, show i6 0 = 0 from rfl, Int64.add_zero], fun _ _ => rfl⟩, ⟨by rw [mQ1, if_pos hv0, Int64.add_zero], fun _ _ => rfl⟩, At1.updL (by rw [hmo, mGi, if_pos ⟨crh, rfl⟩]), ⟨by rw [hl2]; exact l6, k6⟩, At1.u3 (by rw [hmo, mMi, if_pos ⟨crh, rfl⟩])⟩
          rw [e5]
          simp only [Option.bind_some]
          try simp only [n4, b4, hrh, l6, ↓reduceIte]
          exact e6
  · rw [if_neg (show ¬ i3 v ≤ 0 by rw [lt0, i3_leF (by omega) (by omega)]; exact fun h => h)]
    simp (maxSteps := 4000000) only [n4, b4, hrf, hrt, hrh, hrs, l6, lv6, ↓reduceIte]
    have hL1 : mL1 full v qcold.toInt64 L = (excL full 0 v (i6 v * qcold.toInt64) L).2 := by rw [mL1, if_neg hv0]
    have eQ : mQ1 full v qcold.toInt64 L = (excL full 0 v (i6 v * qcold.toInt64) L).1 := by rw [mQ1, if_neg hv0]
    obtain ⟨a0, b0', c0, e0, r1, f1⟩ := m_charge (N := N) (qcode := qcode) (qn := qn) (qcold := qcold) (qtime := qtime) (qV := qV) (qamb := qamb) (qab := qab) (qbe := qbe) (qrf := qrf) (qrt := qrt) (qrh := qrh) (qrs := qrs) (qrl := qrl) (qru := qru) (qon := qon) (qdr := qdr) (qdc := qdc) (qdh := qdh) (qgi := qgi) (qlo := qlo) (qom := qom) (qdn := vp_updL qdn t (qdn t + i6 v)) (qM := qM) (qvol := qvol) (qh := qh) (T := qcold.toInt64) ht hN L full 0 v hV (by omega) hv hF hR.2.1 hR.1 hR.2.2.2.2.1 hM
    rw [lL0, e0]
    simp only [Option.bind_some]
    have R1 := k1.1
    have hVol := R1.2.1
    have hB1 := k1.2
    rw [← hL1] at r1
    generalize hLe : mL1 full v qcold.toInt64 L = L1 at R1 r1 hL1 hVol hB1 k1 ⊢
    by_cases crh : rh = 0
    · have hmo : mOn rh sn (qrl t).toInt64 (qru t).toInt64 on L1 = on := by rw [mOn, if_pos crh]
      have hc : (i3 rh ≤ 0) = True := by rw [lt0]; exact i3_leT (by omega) (by omega)
      simp only [hc, ↓reduceIte]
      obtain ⟨a, b, c, lo1, e6, r6, f6, l6, k6⟩ := m_lose (N := N) (qcode := qcode) (qn := qn) (qcold := qcold) (qtime := qtime) (qV := qV) (qamb := qamb) (qab := qab) (qbe := qbe) (qrf := qrf) (qrt := qrt) (qrh := qrh) (qrs := qrs) (qrl := qrl) (qru := qru) (qdr := qdr) (qdc := qdc) (qon := qon) (qom := qom) (qdn := (vp_updL qdn t (qdn t + i6 v))) (qdh := (vp_updL qdh t (qdh t + (excL full 0 v (i6 v * qcold.toInt64) L).1))) (qgi := qgi) (qlo := qlo) ht hN hbe L1 (ne_of_vol (by have := R1.2.1; omega)) R1.2.2.2.2.1 r1
      have hl2 : mL2 rh f u (mOn rh sn (qrl t).toInt64 (qru t).toInt64 on L1) L1 = L1 := by rw [hmo, mL2, if_neg (by simp [crh])]
      refine ⟨a, b, c, qon, (vp_updL qdn t (qdn t + i6 v)), (vp_updL qdh t (qdh t + (excL full 0 v (i6 v * qcold.toInt64) L).1)), qgi, lo1, qom, ?_, by unfold mL3; rw [hLe, hl2]; exact r6, f1.trans f6, ⟨by rw [hmo]; exact hon, fun _ _ => rfl⟩, At1.updL rfl, At1.updL (by rw [eQ]), ⟨by rw [hmo, mGi, if_neg (by simp [crh])], fun _ _ => rfl⟩, ⟨by rw [hl2]; exact l6, k6⟩, ⟨by rw [hmo, mMi, if_neg (by simp [crh])], fun _ _ => rfl⟩⟩
      exact e6
    · have hc : (i3 rh ≤ 0) = False := by rw [lt0]; exact i3_leF (by omega) (by omega)
      simp only [hc, ↓reduceIte]
      rw [m_tmp ht hN L1 sn r1 (by have := R1.2.2.2.2.1; omega) (by omega) (by omega) R1.1]
      simp only [Option.bind_some, lc_ge]
      simp (maxSteps := 4000000) only [hon, n0, n1, upd, ↓reduceIte]
      simp only [z0, z1, ↓reduceIte]
      cases on with
      | false =>
        simp only [b0, ↓reduceIte]
        by_cases d : (qrl t).toInt64 ≤ tmp sn L1
        · have hmo : mOn rh sn (qrl t).toInt64 (qru t).toInt64 false L1 = false := by rw [mOn, if_neg crh, if_neg (Int64.not_lt.mpr d)]; split <;> rfl
          simp only [d, ↓reduceIte]
          obtain ⟨a, b, c, lo1, e6, r6, f6, l6, k6⟩ := m_lose (N := N) (qcode := qcode) (qn := qn) (qcold := qcold) (qtime := qtime) (qV := qV) (qamb := qamb) (qab := qab) (qbe := qbe) (qrf := qrf) (qrt := qrt) (qrh := qrh) (qrs := qrs) (qrl := qrl) (qru := qru) (qdr := qdr) (qdc := qdc) (qon := (upd qon t 0)) (qom := qom) (qdn := (vp_updL qdn t (qdn t + i6 v))) (qdh := (vp_updL qdh t (qdh t + (excL full 0 v (i6 v * qcold.toInt64) L).1))) (qgi := qgi) (qlo := qlo) ht hN hbe L1 (ne_of_vol (by have := R1.2.1; omega)) R1.2.2.2.2.1 r1
          have hl2 : mL2 rh f u (mOn rh sn (qrl t).toInt64 (qru t).toInt64 false L1) L1 = L1 := by rw [hmo, mL2, if_neg (by simp)]
          refine ⟨a, b, c, (upd qon t 0), (vp_updL qdn t (qdn t + i6 v)), (vp_updL qdh t (qdh t + (excL full 0 v (i6 v * qcold.toInt64) L).1)), qgi, lo1, qom, ?_, by unfold mL3; rw [hLe, hl2]; exact r6, f1.trans f6, At1.u3 (by rw [hmo]; rfl), At1.updL rfl, At1.updL (by rw [eQ]), ⟨by rw [hmo, mGi, if_neg (by simp)], fun _ _ => rfl⟩, ⟨by rw [hl2]; exact l6, k6⟩, ⟨by rw [hmo, mMi, if_neg (by simp)], fun _ _ => rfl⟩⟩
          exact e6
        · have hmo : mOn rh sn (qrl t).toInt64 (qru t).toInt64 false L1 = true := by rw [mOn, if_neg crh, if_pos (by rw [← Int64.not_le]; exact d)]
          simp only [d, ↓reduceIte]
          obtain ⟨a5, b5, c5, e5, r5, f5⟩ := m_heat (N := N) (qcode := qcode) (qn := qn) (qcold := qcold) (qtime := qtime) (qV := qV) (qamb := qamb) (qab := qab) (qbe := qbe) (qrf := qrf) (qrt := qrt) (qrh := qrh) (qrs := qrs) (qrl := qrl) (qru := qru) (qdr := qdr) (qdc := qdc) (qon := (upd qon t 1)) (qdn := (vp_updL qdn t (qdn t + i6 v))) (qdh := (vp_updL qdh t (qdh t + (excL full 0 v (i6 v * qcold.toInt64) L).1))) (qgi := qgi) (qlo := qlo) (qom := qom) (f := f) (u := u) (q := i6 rh) ht hN L1 (by omega) (by omega) (by omega) R1.1 R1.2.2.2.2.1 r1
          have R5 : Row full (heaL f u (i6 rh) L1) := by
            have := (row_L2 (on := true) R1 hO (by omega)).1
            simp only [mL2, ne_eq, crh, not_false_eq_true, and_self, ↓reduceIte] at this
            exact this
          obtain ⟨a, b, c, lo1, e6, r6, f6, l6, k6⟩ := m_lose (N := N) (qcode := qcode) (qn := qn) (qcold := qcold) (qtime := qtime) (qV := qV) (qamb := qamb) (qab := qab) (qbe := qbe) (qrf := qrf) (qrt := qrt) (qrh := qrh) (qrs := qrs) (qrl := qrl) (qru := qru) (qdr := qdr) (qdc := qdc) (qon := (upd qon t 1)) (qom := (upd qom t (qom t + 1))) (qdn := (vp_updL qdn t (qdn t + i6 v))) (qdh := (vp_updL qdh t (qdh t + (excL full 0 v (i6 v * qcold.toInt64) L).1))) (qgi := (vp_updL qgi t (qgi t + i6 rh))) (qlo := qlo) ht hN hbe (heaL f u (i6 rh) L1) (ne_of_vol (by have := R5.2.1; omega)) R5.2.2.2.2.1 r5
          have hl2 : mL2 rh f u (mOn rh sn (qrl t).toInt64 (qru t).toInt64 false L1) L1 = (heaL f u (i6 rh) L1) := by rw [hmo, mL2, if_pos ⟨crh, rfl⟩]
          refine ⟨a, b, c, (upd qon t 1), (vp_updL qdn t (qdn t + i6 v)), (vp_updL qdh t (qdh t + (excL full 0 v (i6 v * qcold.toInt64) L).1)), (vp_updL qgi t (qgi t + i6 rh)), lo1, (upd qom t (qom t + 1)), ?_, by unfold mL3; rw [hLe, hl2]; exact r6, f1.trans (f5.trans f6), At1.u3 (by rw [hmo]; rfl), At1.updL rfl, At1.updL (by rw [eQ]), At1.updL (by rw [hmo, mGi, if_pos ⟨crh, rfl⟩]), ⟨by rw [hl2]; exact l6, k6⟩, At1.u3 (by rw [hmo, mMi, if_pos ⟨crh, rfl⟩])⟩
          rw [e5]
          simp only [Option.bind_some]
          try simp only [n4, b4, hrh, l6, ↓reduceIte]
          exact e6
      | true =>
        simp only [b1, ↓reduceIte]
        by_cases d : (qru t).toInt64 ≤ tmp sn L1
        · have hmo : mOn rh sn (qrl t).toInt64 (qru t).toInt64 true L1 = false := by
            rw [mOn, if_neg crh, if_neg (Int64.not_lt.mpr (Int64.le_trans hlh d)), if_neg (Int64.not_lt.mpr d)]
          simp only [d, ↓reduceIte]
          obtain ⟨a, b, c, lo1, e6, r6, f6, l6, k6⟩ := m_lose (N := N) (qcode := qcode) (qn := qn) (qcold := qcold) (qtime := qtime) (qV := qV) (qamb := qamb) (qab := qab) (qbe := qbe) (qrf := qrf) (qrt := qrt) (qrh := qrh) (qrs := qrs) (qrl := qrl) (qru := qru) (qdr := qdr) (qdc := qdc) (qon := (upd qon t 0)) (qom := qom) (qdn := (vp_updL qdn t (qdn t + i6 v))) (qdh := (vp_updL qdh t (qdh t + (excL full 0 v (i6 v * qcold.toInt64) L).1))) (qgi := qgi) (qlo := qlo) ht hN hbe L1 (ne_of_vol (by have := R1.2.1; omega)) R1.2.2.2.2.1 r1
          have hl2 : mL2 rh f u (mOn rh sn (qrl t).toInt64 (qru t).toInt64 true L1) L1 = L1 := by rw [hmo, mL2, if_neg (by simp)]
          refine ⟨a, b, c, (upd qon t 0), (vp_updL qdn t (qdn t + i6 v)), (vp_updL qdh t (qdh t + (excL full 0 v (i6 v * qcold.toInt64) L).1)), qgi, lo1, qom, ?_, by unfold mL3; rw [hLe, hl2]; exact r6, f1.trans f6, At1.u3 (by rw [hmo]; rfl), At1.updL rfl, At1.updL (by rw [eQ]), ⟨by rw [hmo, mGi, if_neg (by simp)], fun _ _ => rfl⟩, ⟨by rw [hl2]; exact l6, k6⟩, ⟨by rw [hmo, mMi, if_neg (by simp)], fun _ _ => rfl⟩⟩
          exact e6
        · have hmo : mOn rh sn (qrl t).toInt64 (qru t).toInt64 true L1 = true := by
            rw [mOn, if_neg crh, if_pos (show tmp sn L1 < (qru t).toInt64 by rw [← Int64.not_le]; exact d)]
            split <;> rfl
          simp only [d, ↓reduceIte]
          obtain ⟨a5, b5, c5, e5, r5, f5⟩ := m_heat (N := N) (qcode := qcode) (qn := qn) (qcold := qcold) (qtime := qtime) (qV := qV) (qamb := qamb) (qab := qab) (qbe := qbe) (qrf := qrf) (qrt := qrt) (qrh := qrh) (qrs := qrs) (qrl := qrl) (qru := qru) (qdr := qdr) (qdc := qdc) (qon := (upd qon t 1)) (qdn := (vp_updL qdn t (qdn t + i6 v))) (qdh := (vp_updL qdh t (qdh t + (excL full 0 v (i6 v * qcold.toInt64) L).1))) (qgi := qgi) (qlo := qlo) (qom := qom) (f := f) (u := u) (q := i6 rh) ht hN L1 (by omega) (by omega) (by omega) R1.1 R1.2.2.2.2.1 r1
          have R5 : Row full (heaL f u (i6 rh) L1) := by
            have := (row_L2 (on := true) R1 hO (by omega)).1
            simp only [mL2, ne_eq, crh, not_false_eq_true, and_self, ↓reduceIte] at this
            exact this
          obtain ⟨a, b, c, lo1, e6, r6, f6, l6, k6⟩ := m_lose (N := N) (qcode := qcode) (qn := qn) (qcold := qcold) (qtime := qtime) (qV := qV) (qamb := qamb) (qab := qab) (qbe := qbe) (qrf := qrf) (qrt := qrt) (qrh := qrh) (qrs := qrs) (qrl := qrl) (qru := qru) (qdr := qdr) (qdc := qdc) (qon := (upd qon t 1)) (qom := (upd qom t (qom t + 1))) (qdn := (vp_updL qdn t (qdn t + i6 v))) (qdh := (vp_updL qdh t (qdh t + (excL full 0 v (i6 v * qcold.toInt64) L).1))) (qgi := (vp_updL qgi t (qgi t + i6 rh))) (qlo := qlo) ht hN hbe (heaL f u (i6 rh) L1) (ne_of_vol (by have := R5.2.1; omega)) R5.2.2.2.2.1 r5
          have hl2 : mL2 rh f u (mOn rh sn (qrl t).toInt64 (qru t).toInt64 true L1) L1 = (heaL f u (i6 rh) L1) := by rw [hmo, mL2, if_pos ⟨crh, rfl⟩]
          refine ⟨a, b, c, (upd qon t 1), (vp_updL qdn t (qdn t + i6 v)), (vp_updL qdh t (qdh t + (excL full 0 v (i6 v * qcold.toInt64) L).1)), (vp_updL qgi t (qgi t + i6 rh)), lo1, (upd qom t (qom t + 1)), ?_, by unfold mL3; rw [hLe, hl2]; exact r6, f1.trans (f5.trans f6), At1.u3 (by rw [hmo]; rfl), At1.updL rfl, At1.updL (by rw [eQ]), At1.updL (by rw [hmo, mGi, if_pos ⟨crh, rfl⟩]), ⟨by rw [hl2]; exact l6, k6⟩, At1.u3 (by rw [hmo, mMi, if_pos ⟨crh, rfl⟩])⟩
          rw [e5]
          simp only [Option.bind_some]
          try simp only [n4, b4, hrh, l6, ↓reduceIte]
          exact e6
end PM
