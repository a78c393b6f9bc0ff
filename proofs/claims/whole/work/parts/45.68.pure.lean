theorem add_abs (a b : Int64) : (a + b).toInt.natAbs ≤ a.toInt.natAbs + b.toInt.natAbs := by
  by_cases h : -2 ^ 63 ≤ a.toInt + b.toInt ∧ a.toInt + b.toInt < 2 ^ 63
  · rw [Int64.toInt_add, bm64 h.1 h.2]; omega
  · have h1 := (a + b).le_toInt
    have h2 := (a + b).toInt_lt
    omega
theorem sub_abs (a b : Int64) : (a - b).toInt.natAbs ≤ a.toInt.natAbs + b.toInt.natAbs := by
  by_cases h : -2 ^ 63 ≤ a.toInt - b.toInt ∧ a.toInt - b.toInt < 2 ^ 63
  · rw [Int64.toInt_sub, bm64 h.1 h.2]; omega
  · have h1 := (a - b).le_toInt
    have h2 := (a - b).toInt_lt
    omega
theorem mul_nat {a : Int64} {n : Nat} (hn : n < 9223372036854775808) (h : a.toInt.natAbs * n < 9223372036854775808) : (a * i6 n).toInt = a.toInt * (n : Int) := by
  have e : (a.toInt * (n : Int)).natAbs = a.toInt.natAbs * n := by rw [Int.natAbs_mul, Int.natAbs_natCast]
  rw [Int64.toInt_mul, i6_int hn]
  apply bm64 <;> omega
def pl (x : Lay) : Nat := max x.2.toInt.natAbs (200000 * x.1)
def Pt : List Lay → Nat
  | [] => 0
  | x :: L => pl x + Pt L
theorem Pt_app (A B : List Lay) : Pt (A ++ B) = Pt A + Pt B := by
  induction A with
  | nil => simp [Pt]
  | cons x A ih => simp only [List.cons_append, Pt, ih]; omega
theorem Pt_rev (A : List Lay) : Pt A.reverse = Pt A := by
  induction A with
  | nil => rfl
  | cons x A ih => simp only [List.reverse_cons, Pt_app, Pt, ih]; omega
theorem pl_jn (x y : Lay) : pl (jn x y) ≤ pl x + pl y := by
  have := add_abs x.2 y.2
  simp only [pl, jn]
  omega
theorem Pt_psh (s : List Lay) (x : Lay) : Pt (psh s x) ≤ Pt s + pl x := by
  induction s generalizing x with
  | nil => simp [psh, Pt]
  | cons y s ih =>
    unfold psh
    split
    · have h1 := ih (jn y x)
      have h2 := pl_jn y x
      simp only [Pt]
      omega
    · simp only [Pt]; omega
theorem Pt_fold (R s : List Lay) : Pt (R.foldl psh s) ≤ Pt s + Pt R := by
  induction R generalizing s with
  | nil => simp [Pt]
  | cons x R ih =>
    have h1 := ih (psh s x)
    have h2 := Pt_psh s x
    simp only [List.foldl_cons, Pt]
    omega
theorem Pt_lim : ∀ (n : Nat) (L : List Lay), Pt (limN n L) ≤ Pt L
  | 0, L => Nat.le_refl _
  | _ + 1, [] => Nat.le_refl _
  | _ + 1, [x] => Nat.le_refl _
  | n + 1, x :: y :: L => by
    have h1 := Pt_lim n (jn x y :: L)
    have h2 := pl_jn x y
    simp only [limN, Pt] at h1 ⊢
    omega
theorem Pt_mix (L : List Lay) : Pt (mixL L) ≤ Pt L := by
  unfold mixL
  have h1 := Pt_lim ((L.foldl psh []).length - 40) (L.foldl psh []).reverse
  have h2 := Pt_fold L []
  rw [Pt_rev] at h1
  simp only [Pt] at h2
  omega
theorem Pt_hsm (B : List Lay) : max (hsm B).toInt.natAbs (200000 * vol B) ≤ Pt B := by
  induction B with
  | nil => simp only [hsm, vol, Pt]; decide
  | cons x B ih =>
    have := add_abs x.2 (hsm B)
    simp only [hsm, vol, Pt, pl]
    omega
theorem vol_lim : ∀ (n : Nat) (L : List Lay), vol (limN n L) = vol L
  | 0, L => rfl
  | _ + 1, [] => rfl
  | _ + 1, [x] => rfl
  | n + 1, x :: y :: L => by rw [limN, vol_lim n]; simp only [vol, jn]; omega
theorem vol_mix (L : List Lay) : vol (mixL L) = vol L := by
  unfold mixL
  rw [vol_lim, vol_rev, vol_fold]
  simp [vol]
theorem Pv.rev {L : List Lay} (h : Pv L) : Pv L.reverse := fun x hx => h x (List.mem_reverse.mp hx)
theorem pv_psh (s : List Lay) (x : Lay) (hs : Pv s) (hx : 1 ≤ x.1) : Pv (psh s x) := by
  induction s generalizing x with
  | nil => exact Pv.mk hx hs
  | cons y s ih =>
    obtain ⟨h1, h2⟩ := hs.cons
    unfold psh
    split
    · exact ih _ h2 (by simp only [jn]; omega)
    · exact Pv.mk hx hs
theorem pv_fold (R s : List Lay) (hs : Pv s) (hR : Pv R) : Pv (R.foldl psh s) := by
  induction R generalizing s with
  | nil => exact hs
  | cons x R ih =>
    obtain ⟨h1, h2⟩ := hR.cons
    exact ih _ (pv_psh s x hs h1) h2
theorem pv_lim : ∀ (n : Nat) (L : List Lay), Pv L → Pv (limN n L)
  | 0, L, h => h
  | _ + 1, [], h => h
  | _ + 1, [x], h => h
  | n + 1, x :: y :: L, h => by
    obtain ⟨h1, h2⟩ := h.cons
    obtain ⟨h3, h4⟩ := h2.cons
    exact pv_lim n (jn x y :: L) (Pv.mk (by simp only [jn]; omega) h4)
theorem pv_mix (L : List Lay) (h : Pv L) : Pv (mixL L) := pv_lim _ _ (pv_fold L [] (fun _ h => by simp at h) h).rev
theorem len_lim : ∀ (n : Nat) (L : List Lay), n < L.length → (limN n L).length = L.length - n
  | 0, L, h => rfl
  | _ + 1, [], h => by simp at h
  | _ + 1, [x], h => by simp at h
  | n + 1, x :: y :: L, h => by
    have := len_lim n (jn x y :: L) (by simp only [List.length_cons] at h ⊢; omega)
    simp only [limN, List.length_cons] at this ⊢
    omega
theorem len_mix (L : List Lay) : (mixL L).length ≤ 40 := by
  unfold mixL
  by_cases c : (L.foldl psh []).length ≤ 40
  · rw [show (L.foldl psh []).length - 40 = 0 by omega]
    simp only [limN, List.length_reverse]
    omega
  · rw [len_lim _ _ (by rw [List.length_reverse]; omega), List.length_reverse]
    omega
theorem ne_of_vol {L : List Lay} (h : 1 ≤ vol L) : L ≠ [] := by intro e; rw [e] at h; simp [vol] at h
def Mx : List Lay → Prop
  | x :: y :: L => wm x y = false ∧ Mx (y :: L)
  | _ => True
def Ms : List Lay → Prop
  | x :: y :: L => wm y x = false ∧ Ms (y :: L)
  | _ => True
theorem Ms.tail {x : Lay} {s : List Lay} (h : Ms (x :: s)) : Ms s := by
  cases s with
  | nil => trivial
  | cons y s => exact h.2
theorem ms_psh (s : List Lay) (x : Lay) (h : Ms s) : Ms (psh s x) := by
  induction s generalizing x with
  | nil => trivial
  | cons y s ih =>
    unfold psh
    split
    · exact ih _ h.tail
    · rename_i c
      exact ⟨Bool.eq_false_iff.mpr c, h⟩
theorem ms_fold (R s : List Lay) (h : Ms s) : Ms (R.foldl psh s) := by
  induction R generalizing s with
  | nil => exact h
  | cons x R ih => exact ih _ (ms_psh s x h)
theorem mx_app (A : List Lay) (y : Lay) (B : List Lay) : Mx (A ++ y :: B) ↔ Mx (A ++ [y]) ∧ Mx (y :: B) := by
  induction A with
  | nil => simp [Mx]
  | cons x A ih =>
    cases A with
    | nil => simp only [List.cons_append, List.nil_append, Mx, and_true]
    | cons z A => simp only [List.cons_append, Mx, and_assoc] at ih ⊢; rw [ih]
theorem mx_rev (s : List Lay) (h : Ms s) : Mx s.reverse := by
  induction s with
  | nil => trivial
  | cons x s ih =>
    cases s with
    | nil => trivial
    | cons y s =>
      have h1 := ih h.2
      simp only [List.reverse_cons, List.append_assoc, List.cons_append, List.nil_append] at h1 ⊢
      exact (mx_app _ _ _).mpr ⟨h1, h.1, trivial⟩
theorem mx_fold (R : List Lay) : ∀ (s : List Lay), Mx (s.reverse ++ R) → R.foldl psh s = R.reverse ++ s := by
  induction R with
  | nil => intro s _; rfl
  | cons r R ih =>
    intro s h
    cases s with
    | nil =>
      have := ih [r] h
      simp only [List.foldl_cons, psh]
      rw [this]
      simp
    | cons y s =>
      simp only [List.reverse_cons, List.append_assoc, List.cons_append, List.nil_append] at h
      have hw : wm y r = false := ((mx_app _ _ _).mp h).2.1
      have hp : psh (y :: s) r = r :: y :: s := by rw [psh, if_neg (by rw [hw]; exact Bool.false_ne_true)]
      have := ih (r :: y :: s) (by simpa using h)
      rw [List.foldl_cons, hp, this]
      simp
theorem mx_same (L : List Lay) (h : Mx L) (hl : L.length ≤ 40) : mixL L = L := by
  have e := mx_fold L [] h
  rw [List.append_nil] at e
  unfold mixL
  rw [e, List.length_reverse, List.reverse_reverse, show L.length - 40 = 0 by omega]
  rfl
theorem wm_int {x y : Lay} (hx : x.2.toInt.natAbs ≤ 3000000000000) (hy : y.2.toInt.natAbs ≤ 3000000000000) (vx : x.1 ≤ 100000) (vy : y.1 ≤ 100000) : wm x y = false ↔ x.2.toInt * (y.1 : Int) < y.2.toInt * (x.1 : Int) := by
  have b1 : x.2.toInt.natAbs * y.1 ≤ 3000000000000 * 100000 := Nat.mul_le_mul hx vy
  have b2 : y.2.toInt.natAbs * x.1 ≤ 3000000000000 * 100000 := Nat.mul_le_mul hy vx
  unfold wm
  rw [decide_eq_false_iff_not, Decidable.not_not, Int64.lt_iff_toInt_lt, mul_nat (by omega) (by omega), mul_nat (by omega) (by omega)]
theorem lt_mid {a b c u v w : Int} (hu : 0 < u) (hv : 0 < v) (hw : 0 < w) (h1 : a * v < b * u) (h2 : b * w < c * v) : (a + b) * w < c * (u + v) := by
  have k1 : a * v * w < b * u * w := Int.mul_lt_mul_of_pos_right h1 hw
  have k2 : b * w * u < c * v * u := Int.mul_lt_mul_of_pos_right h2 hu
  have e1 : a * v * w = a * w * v := by rw [Int.mul_assoc, Int.mul_comm v, ← Int.mul_assoc]
  have e2 : b * u * w = b * w * u := by rw [Int.mul_assoc, Int.mul_comm u, ← Int.mul_assoc]
  have e3 : c * v * u = c * u * v := by rw [Int.mul_assoc, Int.mul_comm v, ← Int.mul_assoc]
  have k3 : a * w * v < c * u * v := by omega
  have k4 : a * w < c * u := Int.lt_of_mul_lt_mul_right k3 (Int.le_of_lt hv)
  rw [Int.add_mul, Int.mul_add]
  omega
theorem mx_lim : ∀ (n : Nat) (L : List Lay), Mx L → Pv L → vol L ≤ 100000 → Pt L ≤ 3000000000000 → Mx (limN n L)
  | 0, L, h, _, _, _ => h
  | _ + 1, [], h, _, _, _ => h
  | _ + 1, [x], h, _, _, _ => h
  | n + 1, x :: y :: L, h, hP, hv, hB => by
    obtain ⟨p1, hP2⟩ := hP.cons
    obtain ⟨p2, hP3⟩ := hP2.cons
    have hj := pl_jn x y
    refine mx_lim n (jn x y :: L) ?_ (Pv.mk (by simp only [jn]; omega) hP3) (by simp only [vol, jn] at hv ⊢; omega) (by simp only [Pt] at hB ⊢; omega)
    cases L with
    | nil => trivial
    | cons z L =>
      obtain ⟨p3, -⟩ := hP3.cons
      obtain ⟨h1, h2, h3⟩ := h
      simp only [vol] at hv
      simp only [Pt] at hB
      have hx : x.2.toInt.natAbs ≤ pl x := Nat.le_max_left _ _
      have hy : y.2.toInt.natAbs ≤ pl y := Nat.le_max_left _ _
      have hz : z.2.toInt.natAbs ≤ pl z := Nat.le_max_left _ _
      have hjj : (jn x y).2.toInt.natAbs ≤ pl (jn x y) := Nat.le_max_left _ _
      refine ⟨?_, h3⟩
      rw [wm_int (by omega) (by omega) (by omega) (by omega)] at h1 h2
      rw [wm_int (by omega) (by omega) (by simp only [jn]; omega) (by omega)]
      have e : (jn x y).2.toInt = x.2.toInt + y.2.toInt := by
        simp only [jn]
        rw [Int64.toInt_add]
        apply bm64 <;> omega
      rw [e]
      have := lt_mid (a := x.2.toInt) (b := y.2.toInt) (c := z.2.toInt) (u := (x.1 : Int)) (v := (y.1 : Int)) (w := (z.1 : Int)) (by omega) (by omega) (by omega) h1 h2
      simp only [jn, Int.natCast_add]
      exact this
theorem mx_mix (L : List Lay) (hP : Pv L) (hv : vol L ≤ 100000) (hB : Pt L ≤ 3000000000000) : Mx (mixL L) := by
  have h1 := Pt_fold L []
  have h2 := vol_fold L []
  simp only [Pt, vol] at h1 h2
  exact mx_lim _ _ (mx_rev _ (ms_fold L [] trivial)) (pv_fold L [] (fun _ h => by simp at h) hP).rev (by rw [vol_rev]; omega) (by rw [Pt_rev]; omega)
