theorem cut_abs {H : Int} {h s : Nat} (h0 : 0 < h) (s0 : 0 < s) : max (H * (h : Int) / ((h + s : Nat) : Int)).natAbs (200000 * h) + max (H - H * (h : Int) / ((h + s : Nat) : Int)).natAbs (200000 * s) ≤ max H.natAbs (200000 * (h + s)) := by
  have hv : (0 : Int) < ((h + s : Nat) : Int) := by omega
  generalize hq : H * (h : Int) / ((h + s : Nat) : Int) = q
  generalize hw : ((h + s : Nat) : Int) = w at hv hq
  have hws : w = (h : Int) + (s : Int) := by omega
  have up : ∀ c : Int, H * (h : Int) ≤ c * w → q ≤ c := fun c hc => by rw [← hq]; exact Int.ediv_le_of_le_mul hv hc
  have lo : ∀ c : Int, c * w ≤ H * (h : Int) → c ≤ q := fun c hc => by rw [← hq]; exact Int.le_ediv_of_mul_le hv hc
  have eHw : H * w = H * (h : Int) + H * (s : Int) := by rw [hws, Int.mul_add]
  have eTh : ∀ k : Int, 200000 * (k * w) = (200000 * w) * k := fun k => by rw [Int.mul_assoc, Int.mul_comm k]
  have sTh : 200000 * (h : Int) * w = (200000 * w) * (h : Int) := by rw [Int.mul_assoc, Int.mul_assoc, Int.mul_comm w]
  have sTs : 200000 * (s : Int) * w = (200000 * w) * (s : Int) := by rw [Int.mul_assoc, Int.mul_assoc, Int.mul_comm w]
  by_cases c : 0 ≤ H
  · have p1 : 0 ≤ H * (h : Int) := Int.mul_nonneg c (by omega)
    have p2 : 0 ≤ H * (s : Int) := Int.mul_nonneg c (by omega)
    have q0 : 0 ≤ q := lo 0 (by omega)
    have q1 : q ≤ H := up H (by omega)
    by_cases d : H ≤ 200000 * w
    · have m1 := Int.mul_le_mul_of_nonneg_right d (show (0 : Int) ≤ (h : Int) by omega)
      have m2 := Int.mul_le_mul_of_nonneg_right d (show (0 : Int) ≤ (s : Int) by omega)
      have u1 : q ≤ 200000 * (h : Int) := up _ (by omega)
      have u2 : H - 200000 * (s : Int) ≤ q := lo _ (by rw [Int.sub_mul]; omega)
      omega
    · have m1 := Int.mul_le_mul_of_nonneg_right (show 200000 * w ≤ H by omega) (show (0 : Int) ≤ (h : Int) by omega)
      have m2 := Int.mul_le_mul_of_nonneg_right (show 200000 * w ≤ H by omega) (show (0 : Int) ≤ (s : Int) by omega)
      have u1 : 200000 * (h : Int) ≤ q := lo _ (by omega)
      have u2 : q ≤ H - 200000 * (s : Int) := up _ (by rw [Int.sub_mul]; omega)
      omega
  · have p1 : H * (h : Int) ≤ 0 := Int.mul_nonpos_of_nonpos_of_nonneg (by omega) (by omega)
    have p2 : H * (s : Int) ≤ 0 := Int.mul_nonpos_of_nonpos_of_nonneg (by omega) (by omega)
    have q0 : q ≤ 0 := up 0 (by omega)
    have q1 : H ≤ q := lo H (by omega)
    by_cases d : -(200000 * w) ≤ H
    · have m1 := Int.mul_le_mul_of_nonneg_right d (show (0 : Int) ≤ (h : Int) by omega)
      have m2 := Int.mul_le_mul_of_nonneg_right d (show (0 : Int) ≤ (s : Int) by omega)
      rw [Int.neg_mul] at m1 m2
      have u1 : -(200000 * (h : Int)) ≤ q := lo _ (by rw [Int.neg_mul]; omega)
      have u2 : q ≤ H + 200000 * (s : Int) := up _ (by rw [Int.add_mul]; omega)
      omega
    · have m1 := Int.mul_le_mul_of_nonneg_right (show H ≤ -(200000 * w) by omega) (show (0 : Int) ≤ (h : Int) by omega)
      have m2 := Int.mul_le_mul_of_nonneg_right (show H ≤ -(200000 * w) by omega) (show (0 : Int) ≤ (s : Int) by omega)
      rw [Int.neg_mul] at m1 m2
      have u1 : q ≤ -(200000 * (h : Int)) := up _ (by rw [Int.neg_mul]; omega)
      have u2 : H + 200000 * (s : Int) ≤ q := lo _ (by rw [Int.add_mul]; omega)
      omega
theorem dn_nat {a : Int64} {n : Nat} (h1 : 1 ≤ n) (h2 : n < 9223372036854775808) : (dn a (i6 n)).toInt = a.toInt / (n : Int) := by rw [dn_int (i6_pos h1 h2), i6_int h2]
theorem cut_pl {x : Lay} {h : Nat} (h0 : 0 < h) (h1 : h < x.1) (hv : x.1 ≤ 100000) (hB : pl x ≤ 3000000000000) : pl (h, dn (x.2 * i6 h) (i6 x.1)) + pl (x.1 - h, x.2 - dn (x.2 * i6 h) (i6 x.1)) ≤ pl x := by
  obtain ⟨s, hs⟩ : ∃ s, x.1 = h + s := ⟨x.1 - h, by omega⟩
  have hx : x.2.toInt.natAbs ≤ pl x := Nat.le_max_left _ _
  have b1 : x.2.toInt.natAbs * h ≤ 3000000000000 * 100000 := Nat.mul_le_mul (by omega) (by omega)
  have e1 : (dn (x.2 * i6 h) (i6 x.1)).toInt = x.2.toInt * (h : Int) / ((h + s : Nat) : Int) := by
    rw [dn_nat (by omega) (by omega), mul_nat (by omega) (by omega), hs]
  have key := cut_abs (H := x.2.toInt) h0 (show 0 < s by omega)
  have e2 : (x.2 - dn (x.2 * i6 h) (i6 x.1)).toInt = x.2.toInt - x.2.toInt * (h : Int) / ((h + s : Nat) : Int) := by
    rw [Int64.toInt_sub, e1]
    simp only [pl] at hB
    apply bm64 <;> omega
  simp only [pl] at hB ⊢
  rw [e1, e2, show x.1 - h = s by omega]
  rw [← hs] at key ⊢
  exact key
theorem Pt_cut : ∀ (L : List Lay) (h : Nat), vol L ≤ 100000 → Pt L ≤ 3000000000000 → Pt (cutL h L).1 + Pt (cutL h L).2 ≤ Pt L := by
  intro L
  induction L with
  | nil => intro h _ _; simp [cutL, Pt]
  | cons x L ih =>
    intro h hv hB
    simp only [vol] at hv
    simp only [Pt] at hB
    unfold cutL
    split
    · simp [Pt]
    · split
      · have := cut_pl (x := x) (h := h) (by omega) (by omega) (by omega) (by omega)
        simp only [Pt]
        omega
      · have := ih (h - x.1) (by omega) (by omega)
        simp only [Pt]
        omega
theorem part_abs {q : Int} {v w : Nat} (hw : 1 ≤ w) : (q * (v : Int) / (w : Int)).natAbs * w ≤ q.natAbs * v + w := by
  have hw' : (0 : Int) < (w : Int) := by omega
  have h1 := Int.mul_ediv_add_emod (q * (v : Int)) (w : Int)
  have h2 := Int.emod_nonneg (q * (v : Int)) (show (w : Int) ≠ 0 by omega)
  have h3 := Int.emod_lt_of_pos (q * (v : Int)) hw'
  have e1 : (q * (v : Int)).natAbs = q.natAbs * v := by rw [Int.natAbs_mul, Int.natAbs_natCast]
  have e2 : ((w : Int) * (q * (v : Int) / (w : Int))).natAbs = (q * (v : Int) / (w : Int)).natAbs * w := by rw [Int.natAbs_mul, Int.natAbs_natCast, Nat.mul_comm]
  rw [← e1, ← e2]
  generalize (w : Int) * (q * (v : Int) / (w : Int)) = X at *
  omega
def sab (q : Int64) (w : Nat) : List Lay → Nat
  | [] => 0
  | x :: C => (hpt q w x).toInt.natAbs + sab q w C
theorem sab_le {q : Int64} {w : Nat} (hw : 1 ≤ w) (hw2 : w ≤ 100000) (hq : q.toInt.natAbs ≤ 1000000000) : ∀ (C : List Lay), vol C ≤ 100000 → sab q w C * w ≤ q.toInt.natAbs * vol C + C.length * w := by
  intro C
  induction C with
  | nil => intro _; simp [sab]
  | cons x C ih =>
    intro hv
    simp only [vol] at hv
    have h1 := ih (by omega)
    have b1 : q.toInt.natAbs * x.1 ≤ 1000000000 * 100000 := Nat.mul_le_mul hq (by omega)
    have h2 := part_abs (q := q.toInt) (v := x.1) hw
    have e : (hpt q w x).toInt = q.toInt * (x.1 : Int) / (w : Int) := by rw [hpt, dn_nat hw (by omega), mul_nat (by omega) (by omega)]
    simp only [sab, vol, List.length_cons, e, Nat.add_mul, Nat.mul_add, Nat.one_mul]
    omega
theorem hps_abs (q : Int64) (w : Nat) (C : List Lay) : (hps q w C).toInt.natAbs ≤ sab q w C := by
  induction C with
  | nil => simp only [hps, sab]; decide
  | cons x C ih =>
    have := add_abs (hpt q w x) (hps q w C)
    simp only [hps, sab]
    omega
theorem Pt_htd (q : Int64) (w : Nat) (C : List Lay) : Pt (htd q w C) ≤ Pt C + sab q w C := by
  induction C with
  | nil => simp [htd, Pt]
  | cons x C ih =>
    have := add_abs x.2 (hpt q w x)
    simp only [htd, List.map_cons, Pt, pl, sab] at ih ⊢
    omega
theorem Pt_adL (l : Int64) (C : List Lay) : Pt (adL l C) ≤ Pt C + l.toInt.natAbs := by
  induction C with
  | nil => simp [adL, Pt]
  | cons x C ih =>
    cases C with
    | nil =>
      have := add_abs x.2 l
      simp only [adL, Pt, pl]
      omega
    | cons y C =>
      simp only [adL, Pt] at ih ⊢
      omega
theorem Pt_heat {f t : Nat} {q : Int64} {L : List Lay} (hft : f < t) (ht : t ≤ vol L) (hV : vol L ≤ 100000) (hl : L.length ≤ 40) (hB : Pt L ≤ 3000000000000) (hq : q.toInt.natAbs ≤ 1000000000) : Pt (heaU f t q L) ≤ Pt L + 3 * q.toInt.natAbs + 90 := by
  have v1 := vol_cut L f (by omega)
  have l1 := len_cut L f
  have b1 := Pt_cut L f hV hB
  have v2 := vol_cut (cutL f L).2 (t - f) (by omega)
  have l2 := len_cut (cutL f L).2 (t - f)
  have b2 := Pt_cut (cutL f L).2 (t - f) (by omega) (by omega)
  unfold heaU
  generalize (cutL (t - f) (cutL f L).2).1 = C at *
  generalize (cutL (t - f) (cutL f L).2).2 = D at *
  rw [Pt_app, Pt_app]
  have h1 := Pt_adL (q - hps q (t - f) C) (htd q (t - f) C)
  have h2 := Pt_htd q (t - f) C
  have h3 := hps_abs q (t - f) C
  have h4 := sub_abs q (hps q (t - f) C)
  have h5 := sab_le (q := q) (w := t - f) (by omega) (by omega) hq C (by omega)
  rw [v2.1, ← Nat.add_mul] at h5
  have h6 := Nat.le_of_mul_le_mul_right h5 (by omega)
  omega
theorem lose_pl {x : Lay} {am ab be : Int64} (hv : x.1 ≤ 100000) (hB : pl x ≤ 3000000000000) (a1 : -1000 ≤ am.toInt) (a2 : am.toInt ≤ 200000) (b1 : 0 ≤ ab.toInt) (b2 : ab.toInt ≤ be.toInt) (b3 : 1 ≤ be.toInt) (b4 : be.toInt ≤ 1000000) : pl (x.1, x.2 - lpt am ab be x) ≤ pl x := by
  have hx : x.2.toInt.natAbs ≤ pl x := Nat.le_max_left _ _
  have m1 : (x.1 : Int) * am.toInt ≤ (x.1 : Int) * 200000 := Int.mul_le_mul_of_nonneg_left a2 (by omega)
  have m2 : (x.1 : Int) * (-1000) ≤ (x.1 : Int) * am.toInt := Int.mul_le_mul_of_nonneg_left a1 (by omega)
  have e1 : (i6 x.1 * am).toInt = (x.1 : Int) * am.toInt := by
    rw [Int64.toInt_mul, i6_int (by omega)]
    apply bm64 <;> omega
  have e2 : (x.2 - i6 x.1 * am).toInt = x.2.toInt - (x.1 : Int) * am.toInt := by
    rw [Int64.toInt_sub, e1]
    apply bm64 <;> omega
  generalize hd : x.2.toInt - (x.1 : Int) * am.toInt = d at e2
  have hd1 : d.natAbs ≤ 3100000000000 := by omega
  have hab : (d * ab.toInt).natAbs ≤ 3100000000000 * 1000000 := by
    rw [Int.natAbs_mul]
    exact Nat.mul_le_mul hd1 (by omega)
  have e3 : ((x.2 - i6 x.1 * am) * ab).toInt = d * ab.toInt := by
    rw [Int64.toInt_mul, e2]
    apply bm64 <;> omega
  have e4 : (lpt am ab be x).toInt = d * ab.toInt / be.toInt := by
    unfold lpt
    rw [dn_int (by omega), e3]
  have hb : 0 < be.toInt := by omega
  have hr : (0 ≤ d → 0 ≤ d * ab.toInt / be.toInt ∧ d * ab.toInt / be.toInt ≤ d) ∧ (d < 0 → d ≤ d * ab.toInt / be.toInt ∧ d * ab.toInt / be.toInt ≤ 0) := by
    constructor
    · intro c
      have p1 : 0 ≤ d * ab.toInt := Int.mul_nonneg c b1
      have p2 : d * ab.toInt ≤ d * be.toInt := Int.mul_le_mul_of_nonneg_left b2 c
      exact ⟨Int.ediv_nonneg p1 (by omega), Int.ediv_le_of_le_mul hb p2⟩
    · intro c
      have p1 : d * ab.toInt ≤ 0 := Int.mul_nonpos_of_nonpos_of_nonneg (by omega) b1
      have p2 : d * be.toInt ≤ d * ab.toInt := Int.mul_le_mul_of_nonpos_left (by omega) b2
      exact ⟨Int.le_ediv_of_mul_le hb p2, Int.ediv_le_of_le_mul hb (by omega)⟩
  have e5 : (x.2 - lpt am ab be x).toInt = x.2.toInt - d * ab.toInt / be.toInt := by
    rw [Int64.toInt_sub, e4]
    apply bm64 <;> omega
  simp only [pl]
  rw [e5]
  omega
theorem Pt_lose {am ab be : Int64} (a1 : -1000 ≤ am.toInt) (a2 : am.toInt ≤ 200000) (b1 : 0 ≤ ab.toInt) (b2 : ab.toInt ≤ be.toInt) (b3 : 1 ≤ be.toInt) (b4 : be.toInt ≤ 1000000) : ∀ (L : List Lay), vol L ≤ 100000 → Pt L ≤ 3000000000000 → Pt (lsd am ab be L) ≤ Pt L := by
  intro L
  induction L with
  | nil => intro _ _; simp [lsd, Pt]
  | cons x L ih =>
    intro hv hB
    simp only [vol] at hv
    simp only [Pt] at hB
    have h1 := ih (by omega) (by omega)
    have h2 := lose_pl (x := x) (by omega) (by omega) a1 a2 b1 b2 b3 b4
    simp only [lsd, List.map_cons, Pt] at h1 ⊢
    omega
def Row (full : Nat) (L : List Lay) : Prop := Pv L ∧ vol L = full ∧ 1 ≤ full ∧ full ≤ 100000 ∧ L.length ≤ 40 ∧ Mx L
theorem Row.mix {full : Nat} {L : List Lay} (hP : Pv L) (hv : vol L = full) (h1 : 1 ≤ full) (h2 : full ≤ 100000) (hB : Pt L ≤ 3000000000000) : Row full (mixL L) :=
  ⟨pv_mix L hP, (vol_mix L).trans hv, h1, h2, len_mix L, mx_mix L hP (by omega) hB⟩
theorem row_exc {full h v : Nat} {q : Int64} {L : List Lay} (hR : Row full L) (hB : Pt L ≤ 3000000000000) (hv1 : 1 ≤ v) (hv : v ≤ full) (hq : q.toInt.natAbs ≤ 200000 * v) : Row full (excL full h v q L).2 ∧ Pt (excL full h v q L).2 ≤ Pt L := by
  obtain ⟨hP, hV, h1, h2, hl, -⟩ := hR
  have v1 := vol_cut L (full - v) (by omega)
  have p1 := pv_cut L (full - v) hP
  have b1 := Pt_cut L (full - v) (by omega) hB
  have v2 := vol_cut (cutL (full - v) L).1 (min h (full - v)) (by omega)
  have p2 := pv_cut (cutL (full - v) L).1 (min h (full - v)) p1.1
  have b2 := Pt_cut (cutL (full - v) L).1 (min h (full - v)) (by omega) (by omega)
  have b3 := Pt_hsm (cutL (full - v) L).2
  have hb : Pt ((cutL (min h (full - v)) (cutL (full - v) L).1).1 ++ (v, q) :: (cutL (min h (full - v)) (cutL (full - v) L).1).2) ≤ Pt L := by
    rw [Pt_app, Pt]
    simp only [pl]
    omega
  have hm := Pt_mix ((cutL (min h (full - v)) (cutL (full - v) L).1).1 ++ (v, q) :: (cutL (min h (full - v)) (cutL (full - v) L).1).2)
  refine ⟨Row.mix (p2.1.app (Pv.mk hv1 p2.2)) ?_ h1 h2 (by omega), ?_⟩
  · rw [vol_app, vol]; simp only; omega
  · unfold excL; simp only; omega
theorem pv_adL (l : Int64) (C : List Lay) (h : Pv C) : Pv (adL l C) := by
  induction C with
  | nil => exact h
  | cons x C ih =>
    obtain ⟨h1, h2⟩ := h.cons
    cases C with
    | nil => exact Pv.mk h1 h2
    | cons y C => exact Pv.mk h1 (ih h2)
theorem pv_map (g : Lay → Int64) (C : List Lay) (h : Pv C) : Pv (C.map (fun x => (x.1, g x))) := fun y hy => by
  obtain ⟨x, hx, rfl⟩ := List.mem_map.mp hy
  exact h x hx
theorem row_heat {full f t : Nat} {q : Int64} {L : List Lay} (hR : Row full L) (hft : f < t) (ht : t ≤ full) (hB : Pt L + 3 * q.toInt.natAbs + 90 ≤ 3000000000000) (hq : q.toInt.natAbs ≤ 1000000000) : Row full (heaL f t q L) ∧ Pt (heaL f t q L) ≤ Pt L + 3 * q.toInt.natAbs + 90 := by
  obtain ⟨hP, hV, h1, h2, hl, -⟩ := hR
  have b := Pt_heat (q := q) hft (by omega) (by omega) hl (by omega) hq
  have v1 := vol_cut L f (by omega)
  have p1 := pv_cut L f hP
  have v2 := vol_cut (cutL f L).2 (t - f) (by omega)
  have p2 := pv_cut (cutL f L).2 (t - f) p1.2
  have hm := Pt_mix (heaU f t q L)
  refine ⟨Row.mix ?_ ?_ h1 h2 (by omega), ?_⟩
  · exact p1.1.app ((pv_adL _ _ (pv_map _ _ p2.1)).app p2.2)
  · unfold heaU
    rw [vol_app, vol_app, adL_vol, htd_vol]
    omega
  · unfold heaL
    omega
theorem row_lose {full : Nat} {am ab be : Int64} {L : List Lay} (hR : Row full L) (hB : Pt L ≤ 3000000000000) (a1 : -1000 ≤ am.toInt) (a2 : am.toInt ≤ 200000) (b1 : 0 ≤ ab.toInt) (b2 : ab.toInt ≤ be.toInt) (b3 : 1 ≤ be.toInt) (b4 : be.toInt ≤ 1000000) : Row full (mixL (lsd am ab be L)) ∧ Pt (mixL (lsd am ab be L)) ≤ Pt L := by
  obtain ⟨hP, hV, h1, h2, hl, -⟩ := hR
  have b := Pt_lose a1 a2 b1 b2 b3 b4 L (by omega) hB
  have hm := Pt_mix (lsd am ab be L)
  exact ⟨Row.mix (pv_map _ _ hP) ((lsd_vol am ab be L).trans hV) h1 h2 (by omega), by omega⟩
theorem lsd_zero {am be : Int64} (hb : 0 < be.toInt) (L : List Lay) : lsd am 0 be L = L ∧ lps am 0 be L = 0 := by
  have z : ∀ x : Lay, lpt am 0 be x = 0 := fun x => by
    unfold lpt
    rw [Int64.mul_zero]
    apply Int64.toInt.inj
    rw [dn_int hb]
    have : (0 : Int64).toInt = 0 := by decide
    rw [this, Int.zero_ediv]
  induction L with
  | nil => exact ⟨rfl, rfl⟩
  | cons x L ih =>
    simp only [lsd, List.map_cons, lps, z, Int64.sub_zero] at ih ⊢
    rw [ih.1, ih.2]
    exact ⟨rfl, Int64.zero_add _⟩
