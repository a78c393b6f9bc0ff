def bI (b : Bool) : Int32 := if b = true then 1 else 0
def mQ1 (full v : Nat) (cold : Int64) (L : List Lay) : Int64 := if v = 0 then 0 else (excL full 0 v (i6 v * cold) L).1
def mL1 (full v : Nat) (cold : Int64) (L : List Lay) : List Lay := if v = 0 then L else (excL full 0 v (i6 v * cold) L).2
def mOn (rh sn : Nat) (lo hi : Int64) (on : Bool) (L : List Lay) : Bool := if rh = 0 then on else if tmp sn L < lo then true else if tmp sn L < hi then on else false
def mL2 (rh f u : Nat) (on : Bool) (L : List Lay) : List Lay := if rh ≠ 0 ∧ on = true then heaL f u (i6 rh) L else L
def mGi (rh : Nat) (on : Bool) (g : Int64) : Int64 := if rh ≠ 0 ∧ on = true then g + i6 rh else g
def mMi (rh : Nat) (on : Bool) (g : Int32) : Int32 := if rh ≠ 0 ∧ on = true then g + 1 else g
def RodOk (full rh f u sn : Nat) (lo hi : Int32) : Prop := rh ≤ 10000000 ∧ f ≤ 100000 ∧ u ≤ 100000 ∧ sn ≤ 100000 ∧ lo.toInt ≤ hi.toInt ∧ (rh = 0 ∨ (f < u ∧ u ≤ full ∧ sn < full))
def LossOk (am ab be : Int32) : Prop := -1000 ≤ am.toInt ∧ am.toInt ≤ 200000 ∧ 0 ≤ ab.toInt ∧ ab.toInt ≤ be.toInt ∧ 1 ≤ be.toInt ∧ be.toInt ≤ 1000000
theorem i6_abs {n : Nat} (h : n < 9223372036854775808) : (i6 n).toInt.natAbs = n := by rw [i6_int h]; omega
theorem row_L1 {full v : Nat} {cold : Int32} {L : List Lay} (hR : Row full L) (hB : Pt L ≤ 3000000000000) (hv : v ≤ full) (c1 : -1000 ≤ cold.toInt) (c2 : cold.toInt ≤ 200000) : Row full (mL1 full v cold.toInt64 L) ∧ Pt (mL1 full v cold.toInt64 L) ≤ Pt L := by
  unfold mL1
  split
  · exact ⟨hR, Nat.le_refl _⟩
  · have hF := hR.2.2.2.1
    refine row_exc hR hB (by omega) hv ?_
    have m1 : (v : Int) * cold.toInt ≤ (v : Int) * 200000 := Int.mul_le_mul_of_nonneg_left c2 (by omega)
    have m2 : (v : Int) * (-1000) ≤ (v : Int) * cold.toInt := Int.mul_le_mul_of_nonneg_left c1 (by omega)
    have e : (i6 v * cold.toInt64).toInt = (v : Int) * cold.toInt := by
      rw [Int64.toInt_mul, i6_int (by omega), Int32.toInt_toInt64]
      apply bm64 <;> omega
    rw [e]
    omega
theorem row_L2 {full rh f u sn : Nat} {lo hi : Int32} {on : Bool} {L : List Lay} (hR : Row full L) (hO : RodOk full rh f u sn lo hi) (hB : Pt L + 30000090 ≤ 3000000000000) : Row full (mL2 rh f u on L) ∧ Pt (mL2 rh f u on L) ≤ Pt L + 30000090 := by
  unfold mL2
  split
  · rename_i c
    obtain ⟨h1, -, -, -, -, h2⟩ := hO
    have e := i6_abs (n := rh) (by omega)
    have := row_heat (q := i6 rh) (f := f) (t := u) hR (by omega) (by omega) (by omega) (by omega)
    exact ⟨this.1, by omega⟩
  · exact ⟨hR, by omega⟩
theorem w_turn {N full rh f u sn : Nat} {lo hi : Int32} {on : Bool} {given : Int64} {rmin : Int32} {vf : Nat → Int32} {hf : Nat → Int64} (hN : 1000 ≤ N) (L : List Lay) (hO : RodOk full rh f u sn lo hi) (hR : Row full L) (hG : Rg i3 vf hf 0 L) : ∃ vf' hf', fn_Rod_takeTurn N (i3 f) (i3 u) (i3 rh) (i3 sn) lo hi (bI on) given rmin (i3 full) (i3 L.length) vf hf = some (bI (mOn rh sn lo.toInt64 hi.toInt64 on L), mGi rh (mOn rh sn lo.toInt64 hi.toInt64 on L) given, mMi rh (mOn rh sn lo.toInt64 hi.toInt64 on L) rmin, i3 (mL2 rh f u (mOn rh sn lo.toInt64 hi.toInt64 on L) L).length, vf', hf') ∧ Rg i3 vf' hf' 0 (mL2 rh f u (mOn rh sn lo.toInt64 hi.toInt64 on L) L) := by
  obtain ⟨o1, o2, o3, o4, o5, o6⟩ := hO
  obtain ⟨hP, hV, h1, h2, hl, -⟩ := hR
  unfold fn_Rod_takeTurn
  by_cases c : rh = 0
  · refine ⟨vf, hf, ?_, ?_⟩
    · simp only [c, mOn, mGi, mMi, mL2, ne_eq, not_true_eq_false, false_and, ↓reduceIte]
      rw [lt0, if_pos rfl]
    · simp only [c, mL2, ne_eq, not_true_eq_false, false_and, ↓reduceIte]
      exact hG
  · have hc : (i3 rh = 0) = False := by rw [lt0]; exact i3_eqF c (by omega) (by omega)
    simp only [hc, ↓reduceIte]
    rw [w_tmp hN L sn hG (by omega) (by omega) (by omega) hP]
    simp only [Option.bind_some, lc_ge, lc_lt]
    obtain ⟨vf', hf', e, h3⟩ := w_heat (N := N) (f := f) (t := u) (full := i3 full) (q := i3 rh) hN L (by omega) (by omega) (by omega) hP hl hG
    rw [i3_long (by omega)] at e h3
    by_cases d1 : tmp sn L < lo.toInt64
    · have d1' : ¬ (lo.toInt64 ≤ tmp sn L) := by rw [Int64.le_iff_toInt_le]; rw [Int64.lt_iff_toInt_lt] at d1; omega
      refine ⟨vf', hf', ?_, ?_⟩
      · simp only [d1', ↓reduceIte]
        rw [e, i3_long (by omega)]
        simp only [Option.bind_some, mOn, mGi, mMi, mL2, c, d1, ↓reduceIte, ne_eq, not_false_eq_true, and_self, bI]
      · simp only [mOn, mL2, c, d1, ↓reduceIte, ne_eq, not_false_eq_true, and_self]
        exact h3
    · have d1' : lo.toInt64 ≤ tmp sn L := by rw [Int64.le_iff_toInt_le]; rw [Int64.lt_iff_toInt_lt] at d1; omega
      simp only [d1', ↓reduceIte]
      by_cases d2 : tmp sn L < hi.toInt64
      · simp only [d2, ↓reduceIte]
        cases on with
        | false =>
          refine ⟨vf, hf, ?_, ?_⟩
          · simp only [mOn, mGi, mMi, mL2, c, d1, d2, ↓reduceIte, Bool.false_eq_true, and_false, bI]
          · simp only [mOn, mL2, c, d1, d2, ↓reduceIte, Bool.false_eq_true, and_false]
            exact hG
        | true =>
          refine ⟨vf', hf', ?_, ?_⟩
          · have hb : (bI true = 0) = False := by decide
            simp only [hb, ↓reduceIte]
            rw [e, i3_long (by omega)]
            simp only [Option.bind_some, mOn, mGi, mMi, mL2, c, d1, d2, ↓reduceIte, ne_eq, not_false_eq_true, and_self]
          · simp only [mOn, mL2, c, d1, d2, ↓reduceIte, ne_eq, not_false_eq_true, and_self]
            exact h3
      · refine ⟨vf, hf, ?_, ?_⟩
        · simp only [d2, mOn, mGi, mMi, mL2, c, d1, ↓reduceIte, Bool.false_eq_true, and_false, bI]
        · simp only [mOn, mL2, c, d1, d2, ↓reduceIte, Bool.false_eq_true, and_false]
          exact hG
theorem w_cool {N full : Nat} {am ab be : Int32} {llost : Int64} {vf : Nat → Int32} {hf : Nat → Int64} (hN : 1000 ≤ N) (L : List Lay) (hO : LossOk am ab be) (hR : Row full L) (hG : Rg i3 vf hf 0 L) : ∃ vf' hf', fn_Loss_coolDown N am ab be llost (i3 full) (i3 L.length) vf hf = some (llost + lps am.toInt64 ab.toInt64 be.toInt64 L, i3 (mixL (lsd am.toInt64 ab.toInt64 be.toInt64 L)).length, vf', hf') ∧ Rg i3 vf' hf' 0 (mixL (lsd am.toInt64 ab.toInt64 be.toInt64 L)) := by
  obtain ⟨o1, o2, o3, o4, o5, o6⟩ := hO
  have hbe : 0 < be.toInt64.toInt := by rw [Int32.toInt_toInt64]; omega
  unfold fn_Loss_coolDown
  by_cases c : ab ≤ 0
  · have hab : ab = 0 := by
      apply Int32.toInt.inj
      rw [Int32.le_iff_toInt_le] at c
      have : (0 : Int32).toInt = 0 := by decide
      omega
    have h0 : ab.toInt64 = 0 := by rw [hab]; decide
    rw [if_pos c, h0, (lsd_zero hbe L).1, (lsd_zero hbe L).2, Int64.add_zero, mx_same L hR.2.2.2.2.2 hR.2.2.2.2.1]
    exact ⟨vf, hf, rfl, hG⟩
  · rw [if_neg c]
    obtain ⟨vf', hf', e, h⟩ := w_lose (N := N) (full := i3 full) (am := am) (ab := ab) hN hbe L (by have := hR.2.1; have := hR.2.2.2.1; omega) hR.2.2.2.2.1 hG
    refine ⟨vf', hf', ?_, h⟩
    rw [e]
    rfl
def mL3 (full v rh f u sn : Nat) (cold lo hi am ab be : Int64) (on : Bool) (L : List Lay) : List Lay := mixL (lsd am ab be (mL2 rh f u (mOn rh sn lo hi on (mL1 full v cold L)) (mL1 full v cold L)))
theorem row_L3 {full v rh f u sn : Nat} {cold lo hi am ab be : Int32} {on : Bool} {L : List Lay} (hR : Row full L) (hB : Pt L + 30000090 ≤ 3000000000000) (hv : v ≤ full) (c1 : -1000 ≤ cold.toInt) (c2 : cold.toInt ≤ 200000) (hO : RodOk full rh f u sn lo hi) (hL : LossOk am ab be) : Row full (mL3 full v rh f u sn cold.toInt64 lo.toInt64 hi.toInt64 am.toInt64 ab.toInt64 be.toInt64 on L) ∧ Pt (mL3 full v rh f u sn cold.toInt64 lo.toInt64 hi.toInt64 am.toInt64 ab.toInt64 be.toInt64 on L) ≤ Pt L + 30000090 := by
  have h1 := row_L1 hR (by omega) hv c1 c2
  have h2 := row_L2 (on := mOn rh sn lo.toInt64 hi.toInt64 on (mL1 full v cold.toInt64 L)) h1.1 hO (by omega)
  obtain ⟨o1, o2, o3, o4, o5, o6⟩ := hL
  have h3 := row_lose (am := am.toInt64) (ab := ab.toInt64) (be := be.toInt64) h2.1 (by omega) (by rw [Int32.toInt_toInt64]; omega) (by rw [Int32.toInt_toInt64]; omega) (by rw [Int32.toInt_toInt64]; omega) (by rw [Int32.toInt_toInt64, Int32.toInt_toInt64]; omega) (by rw [Int32.toInt_toInt64]; omega) (by rw [Int32.toInt_toInt64]; omega)
  exact ⟨h3.1, by unfold mL3; omega⟩
theorem lk_le {full m : Nat} {D : List (Nat × Nat)} (h : Td full D) : lk m D ≤ full := by
  rcases fd_cases m D 0 with ⟨-, h2, -⟩ | ⟨A, p, B, h1, -, h3, -⟩
  · rw [h2]; omega
  · rw [h3]
    exact (h.2.2 (m, p) (by rw [h1]; exact List.mem_append_right _ List.mem_cons_self)).2.2
theorem w_minute {N full m rh f u sn : Nat} {cold lo hi am ab be : Int32} {on : Bool} {dpar dheat given llost : Int64} {rmin : Int32} {vf mf pf : Nat → Int32} {hf : Nat → Int64} (hN : 1000 ≤ N) (hm : m < 1440) (L : List Lay) (D : List (Nat × Nat)) (hT : Td full D) (hRt : Rt mf pf 0 D) (hR : Row full L) (hG : Rg i3 vf hf 0 L) (hB : Pt L + 30000090 ≤ 3000000000000) (c1 : -1000 ≤ cold.toInt) (c2 : cold.toInt ≤ 200000) (hO : RodOk full rh f u sn lo hi) (hL : LossOk am ab be) : ∃ vf' hf', fn_Tank_passMinute N (i3 m) cold dpar dheat (i3 full) (i3 L.length) vf hf (i3 f) (i3 u) (i3 rh) (i3 sn) lo hi (bI on) given rmin am ab be llost (i3 D.length) mf pf = some (dpar + i6 (lk m D), dheat + mQ1 full (lk m D) cold.toInt64 L, i3 (mL3 full (lk m D) rh f u sn cold.toInt64 lo.toInt64 hi.toInt64 am.toInt64 ab.toInt64 be.toInt64 on L).length, vf', hf', bI (mOn rh sn lo.toInt64 hi.toInt64 on (mL1 full (lk m D) cold.toInt64 L)), mGi rh (mOn rh sn lo.toInt64 hi.toInt64 on (mL1 full (lk m D) cold.toInt64 L)) given, mMi rh (mOn rh sn lo.toInt64 hi.toInt64 on (mL1 full (lk m D) cold.toInt64 L)) rmin, llost + lps am.toInt64 ab.toInt64 be.toInt64 (mL2 rh f u (mOn rh sn lo.toInt64 hi.toInt64 on (mL1 full (lk m D) cold.toInt64 L)) (mL1 full (lk m D) cold.toInt64 L))) ∧ Rg i3 vf' hf' 0 (mL3 full (lk m D) rh f u sn cold.toInt64 lo.toInt64 hi.toInt64 am.toInt64 ab.toInt64 be.toInt64 on L) := by
  have hv := lk_le (m := m) hT
  have hF := hR.2.2.2.1
  unfold fn_Tank_passMinute
  rw [t_parts hN hm D hT hRt]
  simp only [Option.bind_some]
  have k1 := row_L1 (v := lk m D) hR (by omega) hv c1 c2
  have k2 := row_L2 (on := mOn rh sn lo.toInt64 hi.toInt64 on (mL1 full (lk m D) cold.toInt64 L)) k1.1 hO (by omega)
  by_cases c : lk m D = 0
  · have e1 : mL1 full (lk m D) cold.toInt64 L = L := by rw [mL1, if_pos c]
    have e2 : mQ1 full (lk m D) cold.toInt64 L = 0 := by rw [mQ1, if_pos c]
    simp only [mL3, e1, e2, Int64.add_zero] at k1 k2 ⊢
    obtain ⟨vf1, hf1, e3, h3⟩ := w_turn (N := N) (on := on) (given := given) (rmin := rmin) hN L hO hR hG
    obtain ⟨vf2, hf2, e4, h4⟩ := w_cool (N := N) (llost := llost) hN _ hL k2.1 h3
    refine ⟨vf2, hf2, ?_, h4⟩
    rw [c]
    simp (disch := omega) only [lt0, i3_leT, ↓reduceIte]
    rw [e3]
    simp only [Option.bind_some]
    rw [e4]
    simp only [Option.bind_some]
    rw [show i6 0 = 0 from rfl, Int64.add_zero]
  · have e1 : mL1 full (lk m D) cold.toInt64 L = (excL full 0 (lk m D) (i6 (lk m D) * cold.toInt64) L).2 := by rw [mL1, if_neg c]
    have e2 : mQ1 full (lk m D) cold.toInt64 L = (excL full 0 (lk m D) (i6 (lk m D) * cold.toInt64) L).1 := by rw [mQ1, if_neg c]
    obtain ⟨vf0, hf0, e5, h5⟩ := w_exchange (N := N) hN L full 0 (lk m D) (i6 (lk m D) * cold.toInt64) (by omega) (by omega) hv hF hR.2.1 hR.1 hR.2.2.2.2.1 hG
    rw [← e1] at e5 h5
    rw [← e2] at e5
    obtain ⟨vf1, hf1, e3, h3⟩ := w_turn (N := N) (on := on) (given := given) (rmin := rmin) hN _ hO k1.1 h5
    obtain ⟨vf2, hf2, e4, h4⟩ := w_cool (N := N) (llost := llost) hN _ hL k2.1 h3
    refine ⟨vf2, hf2, ?_, h4⟩
    simp (disch := omega) only [lt0, i3_leF, i3_long, ↓reduceIte]
    rw [e5]
    simp only [Option.bind_some]
    rw [e3]
    simp only [Option.bind_some]
    rw [e4]
    rfl
