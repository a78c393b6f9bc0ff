set_option maxHeartbeats 4000000 in
set_option maxRecDepth 100000 in
theorem s_runLoop_1 {N m : Nat} {xn xcold : Int32} {xf : Nat → Option Nat} {full0 : Int32} {rfrom0 : Int32} {rto0 : Int32} {rheat0 : Int32} {rsens0 : Int32} {rlow0 : Int32} {rhigh0 : Int32} {lamb0 : Int32} {labv0 : Int32} {lbel0 : Int32} {tcnt0 : Int32} {mf0 : Nat → Int32} {pf0 : Nat → Int32} {qn qcold : Int32} {qV qamb qab qbe qrf qrt qrh qrs qrl qru qdr qdc : Nat → Int32} (hN : 1000 ≤ N) (hm : m ≤ 300) (hxc : xcold = qcold) (hqn : qn = i3 1) (c1 : -1000 ≤ qcold.toInt) (c2 : qcold.toInt ≤ 200000) : ∀ (d T k fuel fuel2 : Nat) (P0 : Nat) (dpar0 : Int64) (dheat0 : Int64) (cnt0 : Int32) (vf0 : Nat → Int32) (hf0 : Nat → Int64) (ron0 : Int32) (rgiven0 : Int64) (rmin0 : Int32) (llost0 : Int64) (qM : Nat → Int32) (qvol : Nat → Int64) (qh : Nat → Int64) (qon : Nat → Int32) (qdn : Nat → Int64) (qdh : Nat → Int64) (qgi : Nat → Int64) (qlo : Nat → Int64) (qom : Nat → Int32), k + d = m → T + d ≤ 5000 → d < fuel → 3 * d < fuel2 → TR 0 P0 dpar0 dheat0 full0 cnt0 vf0 hf0 rfrom0 rto0 rheat0 rsens0 rlow0 rhigh0 ron0 rgiven0 rmin0 lamb0 labv0 lbel0 llost0 tcnt0 mf0 pf0 qV qM qvol qh qamb qab qbe qrf qrt qrh qrs qrl qru qon qdr qdc qdn qdh qgi qlo qom → P0 + 30000090 * d ≤ 3000000000000 → ∃ dpar0' dheat0' cnt0' vf0' hf0' ron0' rgiven0' rmin0' llost0' qM' qvol' qh' qon' qdn' qdh' qgi' qlo' qom', gx_fx (st_TL_run_1 N xn xcold xf full0 rfrom0 rto0 rheat0 rsens0 rlow0 rhigh0 lamb0 labv0 lbel0 tcnt0 mf0 pf0) fuel (i3 m, i3 k, i3 T, dpar0, dheat0, cnt0, vf0, hf0, ron0, rgiven0, rmin0, llost0) = some (.inr (i3 (T + d), i3 (T + d), dpar0', dheat0', cnt0', vf0', hf0', ron0', rgiven0', rmin0', llost0')) ∧ gx_fx (st_Mod_run N qn qcold qV qamb qab qbe qrf qrt qrh qrs qrl qru qdr qdc) fuel2 (.inl (i3 m, i3 k, 0, i3 T, qM, qvol, qh, qon, qdn, qdh, qgi, qlo, qom)) = some (i3 (T + d), 0, i3 (T + d), qM', qvol', qh', qon', qdn', qdh', qgi', qlo', qom') ∧ TR 0 (P0 + 30000090 * d) dpar0' dheat0' full0 cnt0' vf0' hf0' rfrom0 rto0 rheat0 rsens0 rlow0 rhigh0 ron0' rgiven0' rmin0' lamb0 labv0 lbel0 llost0' tcnt0 mf0 pf0 qV qM' qvol' qh' qamb qab qbe qrf qrt qrh qrs qrl qru qon' qdr qdc qdn' qdh' qgi' qlo' qom' ∧ ∀ j, 1 ≤ j → Sm j qV qM qvol qh qamb qab qbe qrf qrt qrh qrs qrl qru qon qdr qdc qdn qdh qgi qlo qom qV qM' qvol' qh' qamb qab qbe qrf qrt qrh qrs qrl qru qon' qdr qdc qdn' qdh' qgi' qlo' qom' := by
  intro d
  induction d with
  | zero =>
    intro T k fuel fuel2 P0 dpar0 dheat0 cnt0 vf0 hf0 ron0 rgiven0 rmin0 llost0 qM qvol qh qon qdn qdh qgi qlo qom hk hT5 hfu hfu2 t0 p0
    obtain ⟨g, rfl⟩ : ∃ g, fuel = g + 1 := ⟨fuel - 1, by omega⟩
    obtain ⟨g2, rfl⟩ : ∃ g2, fuel2 = g2 + 1 := ⟨fuel2 - 1, by omega⟩
    refine ⟨_, _, _, _, _, _, _, _, _, _, _, _, _, _, _, _, _, _, ?_, ?_, t0, fun j hj => Sm.refl⟩
    · rw [gx_fxS]
      simp only [st_TL_run_1, bk_TL_run_1_32]
      simp (disch := omega) only [i3_leT, ↓reduceIte]
      rfl
    · rw [gx_fxS]
      simp only [st_Mod_run, bk_Mod_run_38]
      simp (disch := omega) only [lt0, i3_leT, ↓reduceIte]
      rfl
  | succ d ih =>
    intro T k fuel fuel2 P0 dpar0 dheat0 cnt0 vf0 hf0 ron0 rgiven0 rmin0 llost0 qM qvol qh qon qdn qdh qgi qlo qom hk hT5 hfu hfu2 t0 p0
    obtain ⟨g, rfl⟩ : ∃ g, fuel = g + 1 := ⟨fuel - 1, by omega⟩
    obtain ⟨g2, rfl⟩ : ∃ g2, fuel2 = g2 + 3 := ⟨fuel2 - 3, by omega⟩
    have hday : i3 (T + 1) - i3 (T + 1) / 1440 * 1440 = i3 ((T + 1) % 1440) := day_eq (by omega)
    rw [Nat.mul_succ] at p0
    have hm9 : (T + 1) % 1440 < 1440 := Nat.mod_lt _ (by omega)
    obtain ⟨dpar0_0, dheat0_0, cnt0_0, vf0_0, hf0_0, ron0_0, rgiven0_0, rmin0_0, llost0_0, qM_0, qvol_0, qh_0, qon_0, qdn_0, qdh_0, qgi_0, qlo_0, qom_0, a0, b0, w0, f0, k0⟩ := s_minute (N := N) (m := (T + 1) % 1440) (qcode := 0) (qn := qn) (qcold := qcold) (qtime := i3 (T + 1)) (qV := qV) (qamb := qamb) (qab := qab) (qbe := qbe) (qrf := qrf) (qrt := qrt) (qrh := qrh) (qrs := qrs) (qrl := qrl) (qru := qru) (qdr := qdr) (qdc := qdc) hN (show 0 < 4 by omega) hm9 hday c1 c2 t0 (Nat.le_trans (Nat.add_le_add_left (Nat.le_add_left _ _) _) p0)
    obtain ⟨dpar0', dheat0', cnt0', vf0', hf0', ron0', rgiven0', rmin0', llost0', qM', qvol', qh', qon', qdn', qdh', qgi', qlo', qom', eA, eB, z0, hS⟩ := ih (T + 1) (k + 1) g g2 (P0 + 30000090) dpar0_0 dheat0_0 cnt0_0 vf0_0 hf0_0 ron0_0 rgiven0_0 rmin0_0 llost0_0 qM_0 qvol_0 qh_0 qon_0 qdn_0 qdh_0 qgi_0 qlo_0 qom_0 (by omega) (by omega) (by omega) (by omega) w0 (by omega)
    refine ⟨dpar0', dheat0', cnt0', vf0', hf0', ron0', rgiven0', rmin0', llost0', qM', qvol', qh', qon', qdn', qdh', qgi', qlo', qom', ?_, ?_, by rw [show P0 + 30000090 * (d + 1) = P0 + 30000090 + 30000090 * d by omega]; exact z0, fun j hj => Sm.trans (Sm.min f0 (show j ≠ 0 by omega) (k0 j (by omega))) (hS j hj)⟩
    · rw [gx_fxS]
      simp only [st_TL_run_1, bk_TL_run_1_32]
      simp (disch := omega) only [lt0, lt1, i3_leF, i3_add, ↓reduceIte]
      rw [fm_eq (by omega)]
      simp only [Option.bind_some]
      simp (disch := omega) only [lt2, lt3, i3_inT, ↓reduceIte]
      rw [hxc, a0]
      simp only [Option.bind_some]
      rw [show T + (d + 1) = T + 1 + d by omega]
      rw [hxc] at eA
      exact eA
    · rw [gx_fxS]
      simp only [st_Mod_run, bk_Mod_run_38, z0, ↓reduceIte]
      simp (disch := omega) only [lt1, i3_leF, i3_add, ↓reduceIte]
      rw [gx_fxS]
      simp only [st_Mod_run, bk_Mod_run_62]
      skip
      have hq0 : (qn ≤ i3 0) = False := by rw [hqn]; exact i3_leF (by omega) (by omega)
      skip
      skip
      have b0q := b0
      simp only [show (qn ≤ (0 : Int32)) = False from hq0, ↓reduceIte]
      rw [show fn_Mod_minute N (0 : Int32) = fn_Mod_minute N (i3 0) from rfl, b0]
      simp only [Option.bind_some]
      rw [show ((0 : Int32) + 1) = i3 1 from rfl]
      rw [gx_fxS]
      simp only [st_Mod_run, bk_Mod_run_62]
      rw [if_pos (show qn ≤ i3 1 by rw [hqn]; exact le_nat (a := 1) (b := 1) (by omega) (by omega))]
      rw [show (i3 k + 1 : Int32) = i3 (k + 1) from i3_add k 1, show T + (d + 1) = T + 1 + d by omega]
      exact eB
set_option maxHeartbeats 4000000 in
set_option maxRecDepth 100000 in
theorem s_run_1 {N T : Nat} {p1 xn xcold xtime : Int32} {xf : Nat → Option Nat} {full0 : Int32} {rfrom0 : Int32} {rto0 : Int32} {rheat0 : Int32} {rsens0 : Int32} {rlow0 : Int32} {rhigh0 : Int32} {lamb0 : Int32} {labv0 : Int32} {lbel0 : Int32} {tcnt0 : Int32} {mf0 : Nat → Int32} {pf0 : Nat → Int32} {dpar0 : Int64} {dheat0 : Int64} {cnt0 : Int32} {vf0 : Nat → Int32} {hf0 : Nat → Int64} {ron0 : Int32} {rgiven0 : Int64} {rmin0 : Int32} {llost0 : Int64} {P0 P1 P2 P3 : Nat} {qcode qn qcold qtime : Int32} {qV qamb qab qbe qrf qrt qrh qrs qrl qru qdr qdc : Nat → Int32} {qM : Nat → Int32} {qvol : Nat → Int64} {qh : Nat → Int64} {qon : Nat → Int32} {qdn : Nat → Int64} {qdh : Nat → Int64} {qgi : Nat → Int64} {qlo : Nat → Int64} {qom : Nat → Int32} (hN : 2000 ≤ N) (hxc : xcold = qcold) (hqn : qn = i3 1) (hxt : xtime = i3 T) (hqt : qtime = i3 T) (hT5 : T ≤ 5000) (c1 : -1000 ≤ qcold.toInt) (c2 : qcold.toInt ≤ 200000) (t0 : TR 0 P0 dpar0 dheat0 full0 cnt0 vf0 hf0 rfrom0 rto0 rheat0 rsens0 rlow0 rhigh0 ron0 rgiven0 rmin0 lamb0 labv0 lbel0 llost0 tcnt0 mf0 pf0 qV qM qvol qh qamb qab qbe qrf qrt qrh qrs qrl qru qon qdr qdc qdn qdh qgi qlo qom) (pb0 : P0 + 9000027000 ≤ 3000000000000) : (∃ d : Nat, ∃ dpar0' dheat0' cnt0' vf0' hf0' ron0' rgiven0' rmin0' llost0' qM' qvol' qh' qon' qdn' qdh' qgi' qlo' qom', d ≤ 300 ∧ T + d ≤ 5000 ∧ fn_TL_run_1 N p1 xn xcold xtime xf dpar0 dheat0 full0 cnt0 vf0 hf0 rfrom0 rto0 rheat0 rsens0 rlow0 rhigh0 ron0 rgiven0 rmin0 lamb0 labv0 lbel0 llost0 tcnt0 mf0 pf0 = some (.inr (i3 (T + d), i3 (T + d), dpar0', dheat0', cnt0', vf0', hf0', ron0', rgiven0', rmin0', llost0')) ∧ fn_Mod_run N p1 qcode qn qcold qtime qV qM qvol qh qamb qab qbe qrf qrt qrh qrs qrl qru qon qdr qdc qdn qdh qgi qlo qom = some (i3 (T + d), 0, i3 (T + d), qM', qvol', qh', qon', qdn', qdh', qgi', qlo', qom') ∧ TR 0 (P0 + 30000090 * d) dpar0' dheat0' full0 cnt0' vf0' hf0' rfrom0 rto0 rheat0 rsens0 rlow0 rhigh0 ron0' rgiven0' rmin0' lamb0 labv0 lbel0 llost0' tcnt0 mf0 pf0 qV qM' qvol' qh' qamb qab qbe qrf qrt qrh qrs qrl qru qon' qdr qdc qdn' qdh' qgi' qlo' qom' ∧ ∀ j, 1 ≤ j → Sm j qV qM qvol qh qamb qab qbe qrf qrt qrh qrs qrl qru qon qdr qdc qdn qdh qgi qlo qom qV qM' qvol' qh' qamb qab qbe qrf qrt qrh qrs qrl qru qon' qdr qdc qdn' qdh' qgi' qlo' qom') ∨ (∃ e : Nat, (e = 1 ∨ e = 2) ∧ fn_TL_run_1 N p1 xn xcold xtime xf dpar0 dheat0 full0 cnt0 vf0 hf0 rfrom0 rto0 rheat0 rsens0 rlow0 rhigh0 ron0 rgiven0 rmin0 lamb0 labv0 lbel0 llost0 tcnt0 mf0 pf0 = some (.inl e) ∧ ∃ z, fn_Mod_run N p1 qcode qn qcold qtime qV qM qvol qh qamb qab qbe qrf qrt qrh qrs qrl qru qon qdr qdc qdn qdh qgi qlo qom = some (z, i3 e, i3 T, qM, qvol, qh, qon, qdn, qdh, qgi, qlo, qom)) := by
  unfold fn_TL_run_1 fn_Mod_run
  by_cases c : 1 ≤ p1 ∧ p1 ≤ 300
  · rw [req_ok c.1 c.2, in_ok c.1 c.2]
    simp only [gx_then, Option.bind_some, z1, ↓reduceIte, hxt, hqt]
    obtain ⟨m, hm, rfl⟩ := nat_of (F := 300) (by omega) (by rw [Int32.le_iff_toInt_le]; have := c.1; rw [Int32.le_iff_toInt_le] at this; exact Int.le_trans (by decide) this) c.2
    rw [i3_add]
    by_cases c5 : T + m ≤ 5000
    · have h5 : (i3 (T + m) ≤ 5000) = True := i3_leT (b := 5000) c5 (by omega)
      simp only [h5, ↓reduceIte]
      obtain ⟨dpar0', dheat0', cnt0', vf0', hf0', ron0', rgiven0', rmin0', llost0', qM', qvol', qh', qon', qdn', qdh', qgi', qlo', qom', eA, eB, z0, hS⟩ := s_runLoop_1 (N := N) (m := m) (xn := xn) (xcold := xcold) (xf := xf) (full0 := full0) (rfrom0 := rfrom0) (rto0 := rto0) (rheat0 := rheat0) (rsens0 := rsens0) (rlow0 := rlow0) (rhigh0 := rhigh0) (lamb0 := lamb0) (labv0 := labv0) (lbel0 := lbel0) (tcnt0 := tcnt0) (mf0 := mf0) (pf0 := pf0) (qV := qV) (qamb := qamb) (qab := qab) (qbe := qbe) (qrf := qrf) (qrt := qrt) (qrh := qrh) (qrs := qrs) (qrl := qrl) (qru := qru) (qdr := qdr) (qdc := qdc) (by omega) hm hxc hqn c1 c2 m T 0 N N _ _ _ _ _ _ _ _ _ _ qM qvol qh qon qdn qdh qgi qlo qom (by omega) c5 (by omega) (by omega) t0 (by omega)
      exact Or.inl ⟨m, dpar0', dheat0', cnt0', vf0', hf0', ron0', rgiven0', rmin0', llost0', qM', qvol', qh', qon', qdn', qdh', qgi', qlo', qom', hm, c5, eA, eB, z0, hS⟩
    · have h5 : (i3 (T + m) ≤ 5000) = False := i3_leF (b := 5000) (by omega) (by omega)
      simp only [h5, ↓reduceIte]
      refine Or.inr ⟨2, Or.inr rfl, rfl, 0, ?_⟩
      obtain ⟨g, rfl⟩ : ∃ g, N = g + 1 := ⟨N - 1, by omega⟩
      exact m_noRun (by decide) (by decide)
  · rw [req_no c, in_no c]
    refine Or.inr ⟨1, Or.inl rfl, rfl, 0, ?_⟩
    simp only [Option.bind_some, ↓reduceIte, hqt]
    obtain ⟨g, rfl⟩ : ∃ g, N = g + 1 := ⟨N - 1, by omega⟩
    exact m_noRun (by decide) (by decide)
