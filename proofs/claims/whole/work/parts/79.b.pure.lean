set_option maxHeartbeats 4000000 in
set_option maxRecDepth 100000 in
theorem s_runLoop {N m : Nat} {xn xcold : Int32} {xf : Nat → Option Nat}  {qn qcold : Int32} {qV qamb qab qbe qrf qrt qrh qrs qrl qru qdr qdc : Nat → Int32} (hN : 1000 ≤ N) (hm : m ≤ 300) (hxc : xcold = qcold) (hqn : qn = i3 0) (c1 : -1000 ≤ qcold.toInt) (c2 : qcold.toInt ≤ 200000) : ∀ (d T k fuel fuel2 : Nat) (qM : Nat → Int32) (qvol : Nat → Int64) (qh : Nat → Int64) (qon : Nat → Int32) (qdn : Nat → Int64) (qdh : Nat → Int64) (qgi : Nat → Int64) (qlo : Nat → Int64) (qom : Nat → Int32), k + d = m → T + d ≤ 5000 → d < fuel → 2 * d < fuel2 → ∃ qM' qvol' qh' qon' qdn' qdh' qgi' qlo' qom', gx_fx (st_TL_run N xn xcold xf) fuel (i3 m, i3 k, i3 T) = some (.inr (i3 (T + d), i3 (T + d))) ∧ gx_fx (st_Mod_run N qn qcold qV qamb qab qbe qrf qrt qrh qrs qrl qru qdr qdc) fuel2 (.inl (i3 m, i3 k, 0, i3 T, qM, qvol, qh, qon, qdn, qdh, qgi, qlo, qom)) = some (i3 (T + d), 0, i3 (T + d), qM', qvol', qh', qon', qdn', qdh', qgi', qlo', qom') ∧ ∀ j, 0 ≤ j → Sm j qV qM qvol qh qamb qab qbe qrf qrt qrh qrs qrl qru qon qdr qdc qdn qdh qgi qlo qom qV qM' qvol' qh' qamb qab qbe qrf qrt qrh qrs qrl qru qon' qdr qdc qdn' qdh' qgi' qlo' qom' := by
  intro d
  induction d with
  | zero =>
    intro T k fuel fuel2 qM qvol qh qon qdn qdh qgi qlo qom hk hT5 hfu hfu2
    obtain ⟨g, rfl⟩ : ∃ g, fuel = g + 1 := ⟨fuel - 1, by omega⟩
    obtain ⟨g2, rfl⟩ : ∃ g2, fuel2 = g2 + 1 := ⟨fuel2 - 1, by omega⟩
    refine ⟨_, _, _, _, _, _, _, _, _, ?_, ?_, fun j hj => Sm.refl⟩
    · rw [gx_fxS]
      simp only [st_TL_run, bk_TL_run_32]
      simp (disch := omega) only [i3_leT, ↓reduceIte]
      rfl
    · rw [gx_fxS]
      simp only [st_Mod_run, bk_Mod_run_38]
      simp (disch := omega) only [lt0, i3_leT, ↓reduceIte]
      rfl
  | succ d ih =>
    intro T k fuel fuel2 qM qvol qh qon qdn qdh qgi qlo qom hk hT5 hfu hfu2
    obtain ⟨g, rfl⟩ : ∃ g, fuel = g + 1 := ⟨fuel - 1, by omega⟩
    obtain ⟨g2, rfl⟩ : ∃ g2, fuel2 = g2 + 2 := ⟨fuel2 - 2, by omega⟩
    have hday : i3 (T + 1) - i3 (T + 1) / 1440 * 1440 = i3 ((T + 1) % 1440) := day_eq (by omega)
    have hm9 : (T + 1) % 1440 < 1440 := Nat.mod_lt _ (by omega)
    obtain ⟨qM', qvol', qh', qon', qdn', qdh', qgi', qlo', qom', eA, eB, hS⟩ := ih (T + 1) (k + 1) g g2 qM qvol qh qon qdn qdh qgi qlo qom (by omega) (by omega) (by omega) (by omega)
    refine ⟨qM', qvol', qh', qon', qdn', qdh', qgi', qlo', qom', ?_, ?_, hS⟩
    · rw [gx_fxS]
      simp only [st_TL_run, bk_TL_run_32]
      simp (disch := omega) only [lt0, lt1, i3_leF, i3_add, ↓reduceIte]
      rw [fm_eq (by omega)]
      simp only [Option.bind_some]
      simp (disch := omega) only [lt2, lt3, i3_inT, ↓reduceIte]
      rw [show T + (d + 1) = T + 1 + d by omega]
      skip
      exact eA
    · rw [gx_fxS]
      simp only [st_Mod_run, bk_Mod_run_38, z0, ↓reduceIte]
      simp (disch := omega) only [lt1, i3_leF, i3_add, ↓reduceIte]
      rw [gx_fxS]
      simp only [st_Mod_run, bk_Mod_run_62]
      rw [if_pos (show qn ≤ (0 : Int32) by rw [hqn]; exact le_nat (a := 0) (b := 0) (by omega) (by omega))]
      rw [show (i3 k + 1 : Int32) = i3 (k + 1) from i3_add k 1, show T + (d + 1) = T + 1 + d by omega]
      exact eB
set_option maxHeartbeats 4000000 in
set_option maxRecDepth 100000 in
theorem s_run {N T : Nat} {p1 xn xcold xtime : Int32} {xf : Nat → Option Nat}   {P0 P1 P2 P3 : Nat} {qcode qn qcold qtime : Int32} {qV qamb qab qbe qrf qrt qrh qrs qrl qru qdr qdc : Nat → Int32} {qM : Nat → Int32} {qvol : Nat → Int64} {qh : Nat → Int64} {qon : Nat → Int32} {qdn : Nat → Int64} {qdh : Nat → Int64} {qgi : Nat → Int64} {qlo : Nat → Int64} {qom : Nat → Int32} (hN : 2000 ≤ N) (hxc : xcold = qcold) (hqn : qn = i3 0) (hxt : xtime = i3 T) (hqt : qtime = i3 T) (hT5 : T ≤ 5000) (c1 : -1000 ≤ qcold.toInt) (c2 : qcold.toInt ≤ 200000) : (∃ d : Nat, ∃ qM' qvol' qh' qon' qdn' qdh' qgi' qlo' qom', d ≤ 300 ∧ T + d ≤ 5000 ∧ fn_TL_run N p1 xn xcold xtime xf = some (.inr (i3 (T + d), i3 (T + d))) ∧ fn_Mod_run N p1 qcode qn qcold qtime qV qM qvol qh qamb qab qbe qrf qrt qrh qrs qrl qru qon qdr qdc qdn qdh qgi qlo qom = some (i3 (T + d), 0, i3 (T + d), qM', qvol', qh', qon', qdn', qdh', qgi', qlo', qom') ∧ ∀ j, 0 ≤ j → Sm j qV qM qvol qh qamb qab qbe qrf qrt qrh qrs qrl qru qon qdr qdc qdn qdh qgi qlo qom qV qM' qvol' qh' qamb qab qbe qrf qrt qrh qrs qrl qru qon' qdr qdc qdn' qdh' qgi' qlo' qom') ∨ (∃ e : Nat, (e = 1 ∨ e = 2) ∧ fn_TL_run N p1 xn xcold xtime xf = some (.inl e) ∧ ∃ z, fn_Mod_run N p1 qcode qn qcold qtime qV qM qvol qh qamb qab qbe qrf qrt qrh qrs qrl qru qon qdr qdc qdn qdh qgi qlo qom = some (z, i3 e, i3 T, qM, qvol, qh, qon, qdn, qdh, qgi, qlo, qom)) := by
  unfold fn_TL_run fn_Mod_run
  by_cases c : 1 ≤ p1 ∧ p1 ≤ 300
  · rw [req_ok c.1 c.2, in_ok c.1 c.2]
    simp only [gx_then, Option.bind_some, z1, ↓reduceIte, hxt, hqt]
    obtain ⟨m, hm, rfl⟩ := nat_of (F := 300) (by omega) (by rw [Int32.le_iff_toInt_le]; have := c.1; rw [Int32.le_iff_toInt_le] at this; exact Int.le_trans (by decide) this) c.2
    rw [i3_add]
    by_cases c5 : T + m ≤ 5000
    · have h5 : (i3 (T + m) ≤ 5000) = True := i3_leT (b := 5000) c5 (by omega)
      simp only [h5, ↓reduceIte]
      obtain ⟨qM', qvol', qh', qon', qdn', qdh', qgi', qlo', qom', eA, eB, hS⟩ := s_runLoop (N := N) (m := m) (xn := xn) (xcold := xcold) (xf := xf)  (qV := qV) (qamb := qamb) (qab := qab) (qbe := qbe) (qrf := qrf) (qrt := qrt) (qrh := qrh) (qrs := qrs) (qrl := qrl) (qru := qru) (qdr := qdr) (qdc := qdc) (by omega) hm hxc hqn c1 c2 m T 0 N N   qM qvol qh qon qdn qdh qgi qlo qom (by omega) c5 (by omega) (by omega) 
      exact Or.inl ⟨m, qM', qvol', qh', qon', qdn', qdh', qgi', qlo', qom', hm, c5, eA, eB, hS⟩
    · have h5 : (i3 (T + m) ≤ 5000) = False := i3_leF (b := 5000) (by omega) (by omega)
      simp only [h5, ↓reduceIte]
      refine Or.inr ⟨2, Or.inr rfl, rfl, 0, ?_⟩
      obtain ⟨g, rfl⟩ : ∃ g, N = g + 1 := ⟨N - 1, by omega⟩
      exact m_noRun (by decide) (by decide)
  · rw [req_no c, in_no c]
    refine Or.inr ⟨1, Or.inl rfl, rfl, 0, ?_⟩
    simp only [Option.bind_some, ↓reduceIte, hqt]
    obtain ⟨g, rfl⟩ : ∃ g, N = g + 1 := ⟨N - 1, by omega⟩
    exact m_noRun (by decide) (by decide)
