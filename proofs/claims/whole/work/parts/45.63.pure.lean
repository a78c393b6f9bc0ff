theorem vol_cut : ∀ (L : List Lay) (h : Nat), h ≤ vol L → vol (cutL h L).1 = h ∧ vol (cutL h L).1 + vol (cutL h L).2 = vol L := by
  intro L
  induction L with
  | nil => intro h hh; simp only [vol] at hh; simp [cutL, vol]; omega
  | cons x L ih =>
    intro h hh
    simp only [vol] at hh
    unfold cutL
    split
    · rename_i c; simp [vol, c]
    · split
      · simp only [vol]; omega
      · have := ih (h - x.1) (by omega)
        simp only [vol]
        omega
theorem pv_cut : ∀ (L : List Lay) (h : Nat), Pv L → Pv (cutL h L).1 ∧ Pv (cutL h L).2 := by
  intro L
  induction L with
  | nil => intro h hP; exact ⟨hP, hP⟩
  | cons x L ih =>
    intro h hP
    obtain ⟨h1, h2⟩ := hP.cons
    unfold cutL
    split
    · exact ⟨fun _ h => by simp at h, hP⟩
    · split
      · exact ⟨Pv.mk (by simp only; omega) (fun _ h => by simp at h), Pv.mk (by simp only; omega) h2⟩
      · have := ih (h - x.1) h2
        exact ⟨Pv.mk h1 this.1, this.2⟩
theorem len_cut : ∀ (L : List Lay) (h : Nat), (cutL h L).1.length + (cutL h L).2.length ≤ L.length + 1 ∧ L.length ≤ (cutL h L).1.length + (cutL h L).2.length := by
  intro L
  induction L with
  | nil => intro h; simp [cutL]
  | cons x L ih =>
    intro h
    unfold cutL
    split
    · simp
    · split
      · simp only [List.length_cons, List.length_nil]; omega
      · have := ih (h - x.1)
        simp only [List.length_cons]
        omega
theorem w_cutLoop {N : Nat} {full : Int32} (hN : 1000 ≤ N) : ∀ (B A : List Lay) (h bot fuel : Nat) (vf : Nat → Int32) (hf : Nat → Int64), vol A = bot → bot ≤ h → h ≤ 100000 → vol A + vol B ≤ 100000 → Pv B → A.length + B.length ≤ 41 → Rg i3 vf hf 0 (A ++ B) → B.length < fuel → ∃ vf' hf', gx_fx (st_Water_cutAt N full) fuel (i3 h, i3 bot, i3 A.length, i3 (A.length + B.length), vf, hf) = some (i3 (A.length + (cutL (h - bot) B).1.length), i3 (A.length + ((cutL (h - bot) B).1.length + (cutL (h - bot) B).2.length)), vf', hf') ∧ Rg i3 vf' hf' 0 (A ++ ((cutL (h - bot) B).1 ++ (cutL (h - bot) B).2)) := by
  intro B
  induction B with
  | nil =>
    intro A h bot fuel vf hf hA hb hh hv hP hl hR hfu
    obtain ⟨m, rfl⟩ : ∃ m, fuel = m + 1 := ⟨fuel - 1, by omega⟩
    refine ⟨vf, hf, ?_, hR⟩
    rw [gx_fxS]
    simp only [st_Water_cutAt, bk_Water_cutAt_4, List.length_nil, cutL, Nat.add_zero]
    simp (disch := omega) only [lt0, lt1, lt2, lt4, lt40, lt42, lt64, i3_add, i3_sub, i3_addn, i3_mul, i3_nat, i3_inT, i3_leT, i3_leF, i3_ltT, i3_ltF, i3_eqF, Option.bind_some, eq_self, ↓reduceIte]
  | cons x B ih =>
    intro A h bot fuel vf hf hA hb hh hv hP hl hR hfu
    simp only [List.length_cons] at hl hfu
    simp only [vol] at hv
    obtain ⟨hx, hPB⟩ := hP.cons
    obtain ⟨m, rfl⟩ : ∃ m, fuel = m + 1 := ⟨fuel - 1, by omega⟩
    obtain ⟨rA, x1, x2, rB⟩ := (Rg.app A (x :: B) 0).mp hR
    rw [Nat.zero_add] at x1 x2
    rw [gx_fxS]
    simp only [st_Water_cutAt, bk_Water_cutAt_4, List.length_cons]
    by_cases c1 : bot + x.1 ≤ h
    · obtain ⟨vf', hf', e, h1⟩ := ih (A ++ [x]) h (bot + x.1) m vf hf (by simp only [vol_app, vol]; omega) c1 hh (by simp only [vol_app, vol]; omega) hPB (by simp only [List.length_append, List.length_cons, List.length_nil]; omega) (by rw [List.append_assoc]; exact hR) (by omega)
      have hc : cutL (h - bot) (x :: B) = (x :: (cutL (h - (bot + x.1)) B).1, (cutL (h - (bot + x.1)) B).2) := by
        rw [cutL, if_neg (by omega), if_neg (by omega), show h - bot - x.1 = h - (bot + x.1) by omega]
      refine ⟨vf', hf', ?_, ?_⟩
      · simp (disch := omega) only [lt0, lt1, x1, i3_add, i3_nat, i3_inT, i3_leF, i3_ltF, ↓reduceIte]
        rw [hc]
        simp only [List.length_append, List.length_cons, List.length_nil, Nat.zero_add] at e ⊢
        rw [show A.length + (B.length + 1) = A.length + 1 + B.length by omega, e]
        simp only [Option.some.injEq, Prod.mk.injEq, and_true]
        exact ⟨congrArg i3 (by omega), congrArg i3 (by omega)⟩
      · rw [hc]
        rw [List.append_assoc] at h1
        exact h1
    · by_cases c2 : h = bot
      · have hc : cutL (h - bot) (x :: B) = ([], x :: B) := by rw [cutL, if_pos (by omega)]
        refine ⟨vf, hf, ?_, ?_⟩
        · rw [hc]
          simp (disch := omega) only [lt0, lt1, x1, i3_add, i3_sub, i3_nat, i3_inT, i3_leF, i3_ltF, i3_ltT, ↓reduceIte, List.length_nil, List.length_cons, Nat.add_zero, Nat.zero_add]
        · rw [hc]; exact hR
      · have hc : cutL (h - bot) (x :: B) = ([(h - bot, dn (x.2 * i6 (h - bot)) (i6 x.1))], (x.1 - (h - bot), x.2 - dn (x.2 * i6 (h - bot)) (i6 x.1)) :: B) := by
          rw [cutL, if_neg (by omega), if_pos (by omega)]
        have hR2 : Rg i3 (upd vf A.length (i3 (x.1 - (h - bot)))) (vp_updL hf A.length (x.2 - dn (x.2 * i6 (h - bot)) (i6 x.1))) 0 (A ++ (x.1 - (h - bot), x.2 - dn (x.2 * i6 (h - bot)) (i6 x.1)) :: B) := Rg.put hR (p := A.length) (by omega) (fun i => rfl) (fun i => rfl)
        obtain ⟨f, g, e, h1⟩ := w_insert (N := N) (full := full) A ((x.1 - (h - bot), x.2 - dn (x.2 * i6 (h - bot)) (i6 x.1)) :: B) (h - bot, dn (x.2 * i6 (h - bot)) (i6 x.1)) hR2 (by simp only [List.length_cons]; omega) hN
        refine ⟨f, g, ?_, ?_⟩
        · simp (disch := omega) only [lt0, lt1, x1, x2, i3_add, i3_sub, i3_nat, i3_inT, i3_leF, i3_ltF, i3_ltT, i3_long, ↓reduceIte]
          rw [share_eq (i6_pos hx (by omega))]
          simp (disch := omega) only [x1, x2, i3_sub, i3_nat, Option.bind_some]
          simp only [List.length_cons] at e
          rw [e, hc]
          simp only [Option.bind_some, List.length_cons, List.length_nil, Option.some.injEq, Prod.mk.injEq, and_true]
          first | exact ⟨trivial, congrArg i3 (by omega)⟩ | exact ⟨congrArg i3 (by omega), congrArg i3 (by omega)⟩ | exact congrArg i3 (by omega)
        · rw [hc]; exact h1
theorem w_cut {N : Nat} {full : Int32} {vf : Nat → Int32} {hf : Nat → Int64} (hN : 1000 ≤ N) (L : List Lay) (h : Nat) (hh : h ≤ 100000) (hv : vol L ≤ 100000) (hP : Pv L) (hl : L.length ≤ 41) (hR : Rg i3 vf hf 0 L) : ∃ vf' hf', fn_Water_cutAt N (i3 h) full (i3 L.length) vf hf = some (i3 (cutL h L).1.length, i3 ((cutL h L).1.length + (cutL h L).2.length), vf', hf') ∧ Rg i3 vf' hf' 0 ((cutL h L).1 ++ (cutL h L).2) := by
  obtain ⟨f, g, e, h1⟩ := w_cutLoop (full := full) hN L [] h 0 N vf hf rfl (Nat.zero_le _) hh (by simp only [vol]; omega) hP (by simp only [List.length_nil]; omega) hR (by omega)
  refine ⟨f, g, ?_, h1⟩
  simp only [List.length_nil, Nat.zero_add, Nat.sub_zero] at e
  exact e
theorem w_sumLoop {N : Nat} {full cnt : Int32} {vf : Nat → Int32} {hf : Nat → Int64} : ∀ (B : List Lay) (k fuel : Nat) (acc : Int64), Rg i3 vf hf k B → k + B.length ≤ 42 → B.length < fuel → gx_fx (st_Water_heatOfLayers N full cnt vf hf) fuel (i3 (k + B.length), acc, i3 k) = some (acc + hsm B) := by
  intro B
  induction B with
  | nil =>
    intro k fuel acc hR hl hfu
    obtain ⟨m, rfl⟩ : ∃ m, fuel = m + 1 := ⟨fuel - 1, by omega⟩
    rw [gx_fxS]
    simp only [List.length_nil] at hl
    simp only [st_Water_heatOfLayers, bk_Water_heatOfLayers_5, List.length_nil, hsm, Int64.add_zero, Nat.add_zero]
    simp (disch := omega) only [lt0, lt1, lt2, lt4, lt40, lt42, lt64, i3_add, i3_sub, i3_addn, i3_mul, i3_nat, i3_inT, i3_leT, i3_leF, i3_ltT, i3_ltF, i3_eqF, Option.bind_some, eq_self, ↓reduceIte]
  | cons x B ih =>
    intro k fuel acc hR hl hfu
    simp only [List.length_cons] at hl hfu
    obtain ⟨m, rfl⟩ : ∃ m, fuel = m + 1 := ⟨fuel - 1, by omega⟩
    obtain ⟨x1, x2, rB⟩ := hR
    have := ih (k + 1) m (acc + x.2) rB (by omega) (by omega)
    rw [gx_fxS]
    simp only [st_Water_heatOfLayers, bk_Water_heatOfLayers_5, List.length_cons, hsm]
    simp (disch := omega) only [lt1, x2, i3_add, i3_nat, i3_inT, i3_leF, ↓reduceIte]
    rw [show k + (B.length + 1) = k + 1 + B.length by omega, this, Int64.add_assoc]
theorem w_sum {N : Nat} {full cnt : Int32} {vf : Nat → Int32} {hf : Nat → Int64} (hN : 1000 ≤ N) (A B : List Lay) (hR : Rg i3 vf hf 0 (A ++ B)) (hl : A.length + B.length ≤ 42) : fn_Water_heatOfLayers N (i3 A.length) (i3 (A.length + B.length)) full cnt vf hf = some (hsm B) := by
  obtain ⟨rA, rB⟩ := (Rg.app A B 0).mp hR
  rw [Nat.zero_add] at rB
  unfold fn_Water_heatOfLayers
  rw [w_sumLoop B A.length N 0 rB hl (by omega), Int64.zero_add]
theorem w_sum0 {N : Nat} {full cnt : Int32} {vf : Nat → Int32} {hf : Nat → Int64} (hN : 1000 ≤ N) (B : List Lay) (hR : Rg i3 vf hf 0 B) (hl : B.length ≤ 42) : fn_Water_heatOfLayers N 0 (i3 B.length) full cnt vf hf = some (hsm B) := by
  have := w_sum (N := N) (full := full) (cnt := cnt) hN [] B hR (by simp only [List.length_nil]; omega)
  simp only [List.length_nil, Nat.zero_add] at this
  exact this
theorem w_above {N : Nat} {vf : Nat → Int32} {hf : Nat → Int64} (hN : 1000 ≤ N) (L : List Lay) (full v : Nat) (hv : v ≤ full) (hF : full ≤ 100000) (hV : vol L ≤ 100000) (hP : Pv L) (hl : L.length ≤ 41) (hR : Rg i3 vf hf 0 L) : ∃ vf' hf', fn_Water_takeFromAbove N (i3 v) (i3 full) (i3 L.length) vf hf = some (hsm (cutL (full - v) L).2, i3 (cutL (full - v) L).1.length, vf', hf') ∧ Rg i3 vf' hf' 0 (cutL (full - v) L).1 := by
  obtain ⟨f, g, e, h1⟩ := w_cut (full := i3 full) hN L (full - v) (by omega) hV hP hl hR
  have hl2 := len_cut L (full - v)
  refine ⟨f, g, ?_, ((Rg.app _ _ _).mp h1).1⟩
  unfold fn_Water_takeFromAbove
  rw [i3_sub hv, e]
  simp only [Option.bind_some]
  rw [w_sum hN _ _ h1 (by omega)]
  rfl
theorem w_below {N : Nat} {full : Int32} {vf : Nat → Int32} {hf : Nat → Int64} (hN : 1000 ≤ N) (L : List Lay) (v : Nat) (hv : v ≤ 100000) (hV : vol L ≤ 100000) (hP : Pv L) (hl : L.length ≤ 41) (hR : Rg i3 vf hf 0 L) : ∃ vf' hf', fn_Water_takeFromBelow N (i3 v) full (i3 L.length) vf hf = some (hsm (cutL v L).1, i3 (cutL v L).2.length, vf', hf') ∧ Rg i3 vf' hf' 0 (cutL v L).2 := by
  obtain ⟨f, g, e, h1⟩ := w_cut (full := full) hN L v hv hV hP hl hR
  have hl2 := len_cut L v
  obtain ⟨f2, g2, e2, h2⟩ := w_drop (N := N) (full := full) _ _ h1 (by omega) hN
  refine ⟨f2, g2, ?_, h2⟩
  unfold fn_Water_takeFromBelow
  rw [e]
  simp only [Option.bind_some]
  rw [w_sum0 hN _ ((Rg.app _ _ _).mp h1).1 (by omega), e2]
  rfl
theorem len_of_vol {L : List Lay} (h : 1 ≤ vol L) : 1 ≤ L.length := by
  cases L with
  | nil => simp only [vol] at h; omega
  | cons x L => simp only [List.length_cons]; omega
theorem w_comeIn {N : Nat} {full : Int32} {vf : Nat → Int32} {hf : Nat → Int64} (hN : 1000 ≤ N) (L : List Lay) (h v : Nat) (q : Int64) (hh : h ≤ vol L) (hV : vol L + v ≤ 100000) (hP : Pv L) (hl : L.length ≤ 40) (hR : Rg i3 vf hf 0 L) : ∃ vf' hf', fn_Water_comeIn N (i3 h) (i3 v) q full (i3 L.length) vf hf = some (i3 (mixL ((cutL h L).1 ++ (v, q) :: (cutL h L).2)).length, vf', hf') ∧ Rg i3 vf' hf' 0 (mixL ((cutL h L).1 ++ (v, q) :: (cutL h L).2)) := by
  obtain ⟨f, g, e, h1⟩ := w_cut (full := full) hN L h (by omega) (by omega) hP (by omega) hR
  have hl2 := len_cut L h
  have hv2 := vol_cut L h hh
  obtain ⟨f2, g2, e2, h2⟩ := w_insert (N := N) (full := full) _ _ (v, q) h1 (by omega) hN
  obtain ⟨f3, g3, e3, h3⟩ := w_mix (N := N) (full := full) _ h2 (by simp only [List.length_append, List.length_cons]; omega) (by simp only [vol_app, vol]; omega) hN
  refine ⟨f3, g3, ?_, h3⟩
  unfold fn_Water_comeIn
  rw [e]
  simp only [Option.bind_some]
  simp only at e2
  rw [e2]
  simp only [Option.bind_some]
  simp only [List.length_append, List.length_cons] at e3
  rw [← Nat.add_assoc] at e3
  rw [e3]
  rfl
def excL (full h v : Nat) (q : Int64) (L : List Lay) : Int64 × List Lay := (hsm (cutL (full - v) L).2, mixL ((cutL (min h (full - v)) (cutL (full - v) L).1).1 ++ (v, q) :: (cutL (min h (full - v)) (cutL (full - v) L).1).2))
theorem min_eq {N a b : Nat} (ha : a ≤ 100000) (hb : b ≤ 100000) : fn_Math_min N (i3 a) (i3 b) = some (i3 (min a b)) := by
  unfold fn_Math_min
  by_cases c : b < a
  · simp only [i3_ltT c (show a < 2147483648 by omega), ↓reduceIte]
    rw [Nat.min_eq_right (by omega)]
  · simp only [i3_ltF (show a ≤ b by omega) (show b < 2147483648 by omega), ↓reduceIte]
    rw [Nat.min_eq_left (by omega)]
theorem w_exchange {N : Nat} {vf : Nat → Int32} {hf : Nat → Int64} (hN : 1000 ≤ N) (L : List Lay) (full h v : Nat) (q : Int64) (hh : h ≤ 100000) (hv1 : 1 ≤ v) (hv : v ≤ full) (hF : full ≤ 100000) (hV : vol L = full) (hP : Pv L) (hl : L.length ≤ 40) (hR : Rg i3 vf hf 0 L) : ∃ vf' hf', fn_Water_exchange N (i3 h) (i3 v) q (i3 full) (i3 L.length) vf hf = some ((excL full h v q L).1, i3 (excL full h v q L).2.length, vf', hf') ∧ Rg i3 vf' hf' 0 (excL full h v q L).2 := by
  obtain ⟨f, g, e, h1⟩ := w_above hN L full v hv hF (by omega) hP (by omega) hR
  have hv2 := vol_cut L (full - v) (by omega)
  have hl2 := len_cut L (full - v)
  have hl3 := len_of_vol (L := (cutL (full - v) L).2) (by omega)
  obtain ⟨f2, g2, e2, h2⟩ := w_comeIn (full := i3 full) hN _ (min h (full - v)) v q (by omega) (by omega) (pv_cut L (full - v) hP).1 (by omega) h1
  refine ⟨f2, g2, ?_, h2⟩
  unfold fn_Water_exchange
  rw [e]
  simp only [Option.bind_some]
  rw [i3_sub hv, min_eq hh (by omega)]
  simp only [Option.bind_some]
  rw [e2]
  rfl
