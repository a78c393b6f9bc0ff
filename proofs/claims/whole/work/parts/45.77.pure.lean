set_option maxHeartbeats 1000000 in
theorem s_round {N n t o tk tk2 P P2 : Nat} {xn xcold xtime : Int32} {xf : Nat → Option Nat} {dpar dheat rgiven llost : Int64} {full cnt rfrom rto rheat rsens rlow rhigh ron rmin lamb labv lbel tcnt : Int32} {vf mf pf : Nat → Int32} {hf : Nat → Int64} {dpar2 dheat2 rgiven2 llost2 : Int64} {full2 cnt2 rfrom2 rto2 rheat2 rsens2 rlow2 rhigh2 ron2 rmin2 lamb2 labv2 lbel2 tcnt2 : Int32} {vf2 mf2 pf2 : Nat → Int32} {hf2 : Nat → Int64} {qcode qn qcold qtime : Int32} {qV qM : Nat → Int32} {qvol qh : Nat → Int64} {qamb qab qbe qrf qrt qrh qrs qrl qru qon qdr qdc : Nat → Int32} {qdn qdh qgi qlo : Nat → Int64} {qom : Nat → Int32} {p3 : Int32} (hN : 1000 ≤ N) (h4 : n ≤ 4) (ht : t < n) (ho : o < n) (hto : t ≠ o) (hqn : qn = i3 n) (hx : xf t = some tk) (hx2 : xf o = some tk2) (hT : TR t P dpar dheat full cnt vf hf rfrom rto rheat rsens rlow rhigh ron rgiven rmin lamb labv lbel llost tcnt mf pf qV qM qvol qh qamb qab qbe qrf qrt qrh qrs qrl qru qon qdr qdc qdn qdh qgi qlo qom) (hT2 : TR o P2 dpar2 dheat2 full2 cnt2 vf2 hf2 rfrom2 rto2 rheat2 rsens2 rlow2 rhigh2 ron2 rgiven2 rmin2 lamb2 labv2 lbel2 llost2 tcnt2 mf2 pf2 qV qM qvol qh qamb qab qbe qrf qrt qrh qrs qrl qru qon qdr qdc qdn qdh qgi qlo qom) (hP : P + P2 ≤ 3000000000000) : (∃ a c1 v1 h1 c2 v2 h2 qM' qvol' qh' P' P2', fn_TL_round N (i3 t) (i3 o) p3 xn xcold xtime xf dpar dheat full cnt vf hf rfrom rto rheat rsens rlow rhigh ron rgiven rmin lamb labv lbel llost tcnt mf pf dpar2 dheat2 full2 cnt2 vf2 hf2 rfrom2 rto2 rheat2 rsens2 rlow2 rhigh2 ron2 rgiven2 rmin2 lamb2 labv2 lbel2 llost2 tcnt2 mf2 pf2 = some (.inr (a, c1, v1, h1, c2, v2, h2)) ∧ fn_Mod_round N (i3 t) (i3 o) p3 qcode qn qcold qtime qV qM qvol qh qamb qab qbe qrf qrt qrh qrs qrl qru qon qdr qdc qdn qdh qgi qlo qom = some (a, 0, qM', qvol', qh') ∧ P' + P2' ≤ P + P2 ∧ TR t P' dpar dheat full c1 v1 h1 rfrom rto rheat rsens rlow rhigh ron rgiven rmin lamb labv lbel llost tcnt mf pf qV qM' qvol' qh' qamb qab qbe qrf qrt qrh qrs qrl qru qon qdr qdc qdn qdh qgi qlo qom ∧ TR o P2' dpar2 dheat2 full2 c2 v2 h2 rfrom2 rto2 rheat2 rsens2 rlow2 rhigh2 ron2 rgiven2 rmin2 lamb2 labv2 lbel2 llost2 tcnt2 mf2 pf2 qV qM' qvol' qh' qamb qab qbe qrf qrt qrh qrs qrl qru qon qdr qdc qdn qdh qgi qlo qom ∧ ∀ j L, j ≠ t → j ≠ o → L.length ≤ 64 → Mrow j qM qvol qh L → Mrow j qM' qvol' qh' L) ∨ (fn_TL_round N (i3 t) (i3 o) p3 xn xcold xtime xf dpar dheat full cnt vf hf rfrom rto rheat rsens rlow rhigh ron rgiven rmin lamb labv lbel llost tcnt mf pf dpar2 dheat2 full2 cnt2 vf2 hf2 rfrom2 rto2 rheat2 rsens2 rlow2 rhigh2 ron2 rgiven2 rmin2 lamb2 labv2 lbel2 llost2 tcnt2 mf2 pf2 = some (.inl 1) ∧ ∃ z, fn_Mod_round N (i3 t) (i3 o) p3 qcode qn qcold qtime qV qM qvol qh qamb qab qbe qrf qrt qrh qrs qrl qru qon qdr qdc qdn qdh qgi qlo qom = some (z, 1, qM, qvol, qh)) := by
  obtain ⟨F, L, D, rh, f, u, sn, on, ⟨g1, g2, g3, g4, g5, g6⟩, ⟨k1, k2, k3, kk⟩, hQS, hQD, hM⟩ := hT
  obtain ⟨F2, L2, D2, rh2, f2, u2, sn2, on2, ⟨g1', g2', g3', g4', g5', g6'⟩, ⟨k1', k2', k3', kk'⟩, hQS2, hQD2, hM2⟩ := hT2
  have hF := g2.2.2.2.1
  have hF2 := g2'.2.2.2.1
  have hV := hQS.1
  have hV2 := hQS2.1
  have hvl := g2.2.1
  have hvl2 := g2'.2.1
  have hl := g2.2.2.2.2.1
  have hl2 := g2'.2.2.2.2.1
  unfold fn_TL_round fn_Mod_round
  rw [tn_ok (by omega) hx, tn_ok (by omega) hx2, isT_ok hqn ht h4, isT_ok hqn ho h4]
  have hne : (i3 t = i3 o) = False := i3_eqF hto (by omega) (by omega)
  simp (disch := omega) only [gx_then, Option.bind_some, z1, hne, i3_inT, i3_nat, hV, hV2, k1, k1', ↓reduceIte]
  rw [min_eq hF hF2]
  simp only [Option.bind_some]
  by_cases c : 1 ≤ p3 ∧ p3 ≤ i3 (min F F2)
  · have c0 : 0 ≤ p3 := by rw [Int32.le_iff_toInt_le]; have := c.1; rw [Int32.le_iff_toInt_le] at this; exact Int.le_trans (by decide) this
    obtain ⟨v, hv, rfl⟩ := nat_of (by omega) c0 c.2
    have hv1 : 1 ≤ v := nat_le (by omega) (by omega) c.1
    rw [req_ok c.1 c.2, in_ok c.1 (le_nat (by omega) (by omega))]
    simp only [Option.bind_some, z1, ↓reduceIte]
    rw [in_ok c.1 (le_nat (by omega) (by omega))]
    simp only [Option.bind_some, z1, ↓reduceIte]
    left
    have vc := vol_cut L (F - v) (by omega)
    have lc := len_cut L (F - v)
    have pc := pv_cut L (F - v) g2.1
    have bc := Pt_cut L (F - v) (by omega) (by omega)
    have vd := vol_cut L2 v (by omega)
    have ld := len_cut L2 v
    have pd := pv_cut L2 v g2'.1
    have bd := Pt_cut L2 v (by omega) (by omega)
    have lc2 := len_of_vol (L := (cutL (F - v) L).2) (by omega)
    have ld2 := len_of_vol (L := (cutL v L2).1) (by omega)
    have ho1 := Pt_hsm (cutL (F - v) L).2
    have ho2 := Pt_hsm (cutL v L2).1
    obtain ⟨vA, hA, eA, rA⟩ := w_above (N := N) hN L F v (by omega) hF (by omega) g2.1 (by omega) k3
    obtain ⟨vB, hB, eB, rB⟩ := w_below (N := N) (full := i3 F2) hN L2 v (by omega) (by omega) g2'.1 (by omega) k3'
    obtain ⟨vC, hC, eC, rC⟩ := w_comeIn (N := N) (full := i3 F2) hN (cutL v L2).2 (F2 - v) v (hsm (cutL (F - v) L).2) (by omega) (by omega) pd.2 (by omega) rB
    obtain ⟨vE, hE, eE, rE⟩ := w_comeIn (N := N) (full := i3 F) hN (cutL (F - v) L).1 0 v (hsm (cutL v L2).1) (by omega) (by omega) pc.1 (by omega) rA
    have hall : cutL (F2 - v) (cutL v L2).2 = ((cutL v L2).2, []) := by
      have := cut_all (cutL v L2).2 pd.2
      rw [show vol (cutL v L2).2 = F2 - v by omega] at this
      exact this
    rw [hall] at eC rC
    rw [cut_zero] at eE rE
    simp only [List.nil_append] at eE rE
    obtain ⟨a1, b1, c1, m1, s1, f1⟩ := m_above (N := N) (qcode := 0) (qn := qn) (qcold := qcold) (qtime := qtime) (qV := qV) (qamb := qamb) (qab := qab) (qbe := qbe) (qrf := qrf) (qrt := qrt) (qrh := qrh) (qrs := qrs) (qrl := qrl) (qru := qru) (qon := qon) (qdr := qdr) (qdc := qdc) (qdn := qdn) (qdh := qdh) (qgi := qgi) (qlo := qlo) (qom := qom) (show t < 4 by omega) hN L F v (by omega) hF hvl g2.1 (by omega) hM
    have hM2' := f1.row (fun h => hto h.symm) (by omega) hM2
    obtain ⟨a2, b2, c2, m2, s2, ff2⟩ := m_below (N := N) (qcode := 0) (qn := qn) (qcold := qcold) (qtime := qtime) (qV := qV) (qamb := qamb) (qab := qab) (qbe := qbe) (qrf := qrf) (qrt := qrt) (qrh := qrh) (qrs := qrs) (qrl := qrl) (qru := qru) (qon := qon) (qdr := qdr) (qdc := qdc) (qdn := qdn) (qdh := qdh) (qgi := qgi) (qlo := qlo) (qom := qom) (show o < 4 by omega) hN L2 v (by omega) (by omega) g2'.1 (by omega) hM2'
    have s1' := ff2.row hto (by omega) s1
    obtain ⟨a3, b3, c3, m3, s3, f3⟩ := m_insert (N := N) (qcode := 0) (qn := qn) (qcold := qcold) (qtime := qtime) (qV := qV) (qamb := qamb) (qab := qab) (qbe := qbe) (qrf := qrf) (qrt := qrt) (qrh := qrh) (qrs := qrs) (qrl := qrl) (qru := qru) (qon := qon) (qdr := qdr) (qdc := qdc) (qdn := qdn) (qdh := qdh) (qgi := qgi) (qlo := qlo) (qom := qom) (show o < 4 by omega) (cutL v L2).2 [] (v, hsm (cutL (F - v) L).2) (by rw [List.append_nil]; exact s2) (by simp only [List.length_nil]; omega) hN
    have s1'' := f3.row hto (by omega) s1'
    obtain ⟨a4, b4, c4, m4, s4, f4⟩ := m_insert (N := N) (qcode := 0) (qn := qn) (qcold := qcold) (qtime := qtime) (qV := qV) (qamb := qamb) (qab := qab) (qbe := qbe) (qrf := qrf) (qrt := qrt) (qrh := qrh) (qrs := qrs) (qrl := qrl) (qru := qru) (qon := qon) (qdr := qdr) (qdc := qdc) (qdn := qdn) (qdh := qdh) (qgi := qgi) (qlo := qlo) (qom := qom) (show t < 4 by omega) [] (cutL (F - v) L).1 (v, hsm (cutL v L2).1) s1'' (by simp only [List.length_nil]; omega) hN
    have s3' := f4.row (fun h => hto h.symm) (by simp only [List.length_append, List.length_cons, List.length_nil]; omega) s3
    obtain ⟨a5, b5, c5, m5, s5, f5⟩ := m_mix (N := N) (qcode := 0) (qn := qn) (qcold := qcold) (qtime := qtime) (qV := qV) (qamb := qamb) (qab := qab) (qbe := qbe) (qrf := qrf) (qrt := qrt) (qrh := qrh) (qrs := qrs) (qrl := qrl) (qru := qru) (qon := qon) (qdr := qdr) (qdc := qdc) (qdn := qdn) (qdh := qdh) (qgi := qgi) (qlo := qlo) (qom := qom) (show t < 4 by omega) hN _ (by simp) (by simp only [List.nil_append, List.length_cons]; omega) s4
    have s3'' := f5.row (fun h => hto h.symm) (by simp only [List.length_append, List.length_cons, List.length_nil]; omega) s3'
    obtain ⟨a6, b6, c6, m6, s6, f6⟩ := m_mix (N := N) (qcode := 0) (qn := qn) (qcold := qcold) (qtime := qtime) (qV := qV) (qamb := qamb) (qab := qab) (qbe := qbe) (qrf := qrf) (qrt := qrt) (qrh := qrh) (qrs := qrs) (qrl := qrl) (qru := qru) (qon := qon) (qdr := qdr) (qdc := qdc) (qdn := qdn) (qdh := qdh) (qgi := qgi) (qlo := qlo) (qom := qom) (show o < 4 by omega) hN _ (by simp) (by simp only [List.length_append, List.length_cons, List.length_nil]; omega) s3''
    simp only [List.nil_append] at s5
    have lm5 := len_mix ((v, hsm (cutL v L2).1) :: (cutL (F - v) L).1)
    have s5' := f6.row hto (by omega) s5
    have pt5 := Pt_mix ((v, hsm (cutL v L2).1) :: (cutL (F - v) L).1)
    have pt6 := Pt_mix ((cutL v L2).2 ++ [(v, hsm (cutL (F - v) L).2)])
    simp only [Pt, Pt_app, pl] at pt5 pt6
    refine ⟨hsm (cutL (F - v) L).2 - hsm (cutL v L2).1, i3 (mixL ((v, hsm (cutL v L2).1) :: (cutL (F - v) L).1)).length, vE, hE, i3 (mixL ((cutL v L2).2 ++ [(v, hsm (cutL (F - v) L).2)])).length, vC, hC, a6, b6, c6, Pt (mixL ((v, hsm (cutL v L2).1) :: (cutL (F - v) L).1)), Pt (mixL ((cutL v L2).2 ++ [(v, hsm (cutL (F - v) L).2)])), ?_, ?_, by omega, ⟨F, mixL ((v, hsm (cutL v L2).1) :: (cutL (F - v) L).1), D, rh, f, u, sn, on, ⟨g1, Row.mix (Pv.mk hv1 pc.1) ?_ (by omega) hF ?_, g3, g4, g5, Nat.le_refl _⟩, ⟨by first | exact k1 | rfl, rfl, rE, kk⟩, hQS, hQD, s5'⟩, ⟨F2, mixL ((cutL v L2).2 ++ [(v, hsm (cutL (F - v) L).2)]), D2, rh2, f2, u2, sn2, on2, ⟨g1', Row.mix (pd.2.app (Pv.mk hv1 (fun _ h => by simp at h))) ?_ (by omega) hF2 ?_, g3', g4', g5', Nat.le_refl _⟩, ⟨by first | exact k1' | rfl, rfl, rC, kk'⟩, hQS2, hQD2, s6⟩, ?_⟩
    · rw [k2, eA]
      simp only [Option.bind_some]
      rw [k2', eB]
      simp only [Option.bind_some]
      rw [i3_sub (by omega), eC]
      simp only [Option.bind_some]
      rw [lt0, eE]
      rfl
    · rw [i3_long (by omega), m1]
      simp only [Option.bind_some]
      rw [m2]
      simp only [Option.bind_some]
      rw [s2.1, m3]
      simp only [Option.bind_some]
      simp only [List.length_nil] at m4
      rw [show (i3 0 : Int32) = 0 from rfl] at m4
      rw [m4]
      simp only [Option.bind_some]
      rw [m5]
      simp only [Option.bind_some]
      rw [m6]
      rfl
    · simp only [vol]; omega
    · simp only [Pt, pl]; omega
    · simp only [vol_app, vol]; omega
    · simp only [Pt, Pt_app, pl]; omega
    · intro j K hj1 hj2 hK hR
      exact f6.row hj2 hK (f5.row hj1 hK (f4.row hj1 hK (f3.row hj2 hK (ff2.row hj2 hK (f1.row hj1 hK hR)))))
  · right
    rw [req_no c]
    refine ⟨rfl, ?_⟩
    by_cases d1 : 1 ≤ p3 ∧ p3 ≤ i3 F
    · rw [in_ok d1.1 d1.2]
      simp only [Option.bind_some, z1, ↓reduceIte]
      rw [in_no (fun d2 => c ⟨d1.1, by
        rcases Nat.le_total F F2 with h | h
        · rw [Nat.min_eq_left h]; exact d1.2
        · rw [Nat.min_eq_right h]; exact d2.2⟩)]
      exact ⟨_, rfl⟩
    · rw [in_no d1]
      exact ⟨_, rfl⟩
