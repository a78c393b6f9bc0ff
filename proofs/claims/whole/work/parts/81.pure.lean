theorem gx_keepW {A0 : Nat → Prop} {D : va_G} {cl : List vw_C} {wk wc w1 : va_W} {H H1 : Heap} (hP : va_P D cl (wk ++ wc) H) (hD : va_D A0 (wk ++ wc)) (hk : ∀ q : Nat, q < H.size → ¬ va_A wc H.size q → H1[q]? = H[q]?) (hF : ∀ q, va_A wc H.size q → A0 q) (hP1 : va_P D cl w1 H1) (hD1 : va_D (va_A wc H.size) w1) : va_P D cl (wk ++ w1) H1 ∧ va_D A0 (wk ++ w1) := by
  have hP' := gx_P_iff.mp hP
  obtain ⟨n1, a1⟩ := gx_D_iff.mp hD
  rw [List.map_append, List.nodup_append] at n1
  obtain ⟨nk, nc, nd⟩ := n1
  obtain ⟨m1, b1⟩ := gx_D_iff.mp hD1
  have far : ∀ q ∈ wk, q.1 < H.size ∧ ¬ va_A wc H.size q.1 := by
    intro q hq
    have hl := (hP' q (List.mem_append_left _ hq)).lt
    refine ⟨hl, fun h => ?_⟩
    rcases h with ⟨k, e, h⟩ | h
    · exact nd q.1 (List.mem_map.mpr ⟨q, hq, rfl⟩) q.1 (List.mem_map.mpr ⟨(q.1, e), List.mem_of_getElem? h, rfl⟩) rfl
    · omega
  refine ⟨gx_P_iff.mpr fun q hq => ?_, gx_D_iff.mpr ⟨?_, fun q hq => ?_⟩⟩
  · rcases List.mem_append.mp hq with h | h
    · exact (hP' q (List.mem_append_left _ h)).kept (hk q.1 (far q h).1 (far q h).2)
    · exact gx_P_iff.mp hP1 q h
  · rw [List.map_append, List.nodup_append]
    refine ⟨nk, m1, fun a ha b hb he => ?_⟩
    obtain ⟨x, hx, rfl⟩ := List.mem_map.mp ha
    obtain ⟨y, hy, rfl⟩ := List.mem_map.mp hb
    exact (far x hx).2 (by rw [he]; exact b1 y hy)
  · rcases List.mem_append.mp hq with h | h
    · exact a1 q (List.mem_append_left _ h)
    · exact hF q.1 (b1 q h)
theorem gx_freeW {A0 : Nat → Prop} {wk wc : va_W} {H0 H : Heap} {locs : List Loc} (hD : va_D A0 (wk ++ wc)) (hS : va_S A0 H0 H locs) (hA : ∀ q, H0.size ≤ q → A0 q) : ∀ q, va_A wc H.size q → A0 q := by
  intro q h
  rcases h with ⟨k, e, h⟩ | h
  · exact (gx_D_iff.mp hD).2 (q, e) (List.mem_append_right _ (List.mem_of_getElem? h))
  · exact hA q (Nat.le_trans hS.1 h)
theorem gx_Pr {D : va_G} {cl : List vw_C} {wk wc : va_W} {H : Heap} (hP : va_P D cl (wk ++ wc) H) : va_P D cl wc H := gx_P_iff.mpr fun q hq => gx_P_iff.mp hP q (List.mem_append_right _ hq)
theorem gx_Dr {A : Nat → Prop} {wk wc : va_W} (hD : va_D A (wk ++ wc)) : va_D A wc := by
  obtain ⟨h1, h2⟩ := gx_D_iff.mp hD
  rw [List.map_append, List.nodup_append] at h1
  exact gx_D_iff.mpr ⟨h1.2.1, fun q hq => h2 q (List.mem_append_right _ hq)⟩
theorem gx_Ks {D : va_G} {cl : List vw_C} {tys tys' : List (ClassId × FieldType)} {U : State} (h : va_K D cl tys U) (hs : ∀ q ∈ tys', q ∈ tys) : va_K D cl tys' U := by
  refine ⟨h.1, fun k q hk => ?_⟩
  obtain ⟨i, hi⟩ := List.getElem?_of_mem (hs q (List.mem_of_getElem? hk))
  exact h.2 i q hi
theorem cw_split {o x ta : Nat × va_E} {wk : va_W} (A B : List (ADt × TKt)) (z : ADt × TKt) : (wk ++ (o :: x :: ta :: (A ++ z :: B).flatMap twc)).Perm (wk ++ (x :: ta :: (twc z ++ (o :: (A ++ B).flatMap twc)))) := by
  refine List.Perm.append_left wk ?_
  have h1 : (A ++ z :: B).flatMap twc = A.flatMap twc ++ (twc z ++ B.flatMap twc) := by simp [List.flatMap_append, List.flatMap_cons]
  have h2 : (A ++ B).flatMap twc = A.flatMap twc ++ B.flatMap twc := by simp [List.flatMap_append]
  rw [h1, h2]
  have p1 : (A.flatMap twc ++ (twc z ++ B.flatMap twc)).Perm (twc z ++ (A.flatMap twc ++ B.flatMap twc)) := by
    rw [← List.append_assoc, ← List.append_assoc]
    exact List.Perm.append_right _ List.perm_append_comm
  have p2 : (o :: x :: ta :: (A.flatMap twc ++ (twc z ++ B.flatMap twc))).Perm (o :: x :: ta :: (twc z ++ (A.flatMap twc ++ B.flatMap twc))) := ((p1.cons ta).cons x).cons o
  refine p2.trans ?_
  have p3 : (o :: x :: ta :: (twc z ++ (A.flatMap twc ++ B.flatMap twc))).Perm (x :: ta :: (o :: (twc z ++ (A.flatMap twc ++ B.flatMap twc)))) := (List.Perm.swap x o _).trans ((List.Perm.swap ta o _).cons x)
  refine p3.trans (((?_ : (o :: (twc z ++ (A.flatMap twc ++ B.flatMap twc))).Perm (twc z ++ (o :: (A.flatMap twc ++ B.flatMap twc)))).cons ta).cons x)
  exact List.perm_middle.symm
theorem cw_front {o x ta : Nat × va_E} {wk : va_W} {wr : va_W} : (wk ++ (o :: x :: ta :: wr)).Perm (wk ++ (x :: ta :: o :: wr)) := List.Perm.append_left wk ((List.Perm.swap x o _).trans ((List.Perm.swap ta o _).cons x))
theorem k_split {kt ko : ClassId} (A B : List (ADt × TKt)) (z : ADt × TKt) : ∀ q ∈ (kt, FieldType.object R_Tank) :: (tty z ++ [(ko, .long)]), q ∈ (ko, FieldType.long) :: cty kt (A ++ z :: B) := by
  intro q hq
  simp only [List.mem_cons, List.mem_append, List.not_mem_nil, or_false, cty, List.flatMap_append, List.flatMap_cons] at hq ⊢
  rcases hq with h | h | h
  · exact Or.inr (Or.inl h)
  · exact Or.inr (Or.inr (Or.inr (Or.inl h)))
  · exact Or.inl h
theorem k_front {kt ko : ClassId} {ts : List (ADt × TKt)} : ∀ q ∈ [(kt, FieldType.object R_Tank), (ko, .long)], q ∈ (ko, FieldType.long) :: cty kt ts := by
  intro q hq
  simp only [List.mem_cons, List.not_mem_nil, or_false, cty] at hq ⊢
  rcases hq with h | h
  · exact Or.inr (Or.inl h)
  · exact Or.inl h
theorem at_split {ts : List (ADt × TKt)} {t : Nat} {z : ADt × TKt} (h : ts[t]? = some z) : ∃ A B, ts = A ++ z :: B ∧ A.length = t := by
  obtain ⟨hl, he⟩ := List.getElem?_eq_some_iff.mp h
  refine ⟨ts.take t, ts.drop (t + 1), ?_, by rw [List.length_take]; omega⟩
  rw [← he, ← List.drop_eq_getElem_cons hl, List.take_append_drop]
theorem INV.set {c n T t P' : Nat} {Pf : Nat → Nat} {xn xcold xtime : Int32} {xf : Nat → Option Nat} {A B : List (ADt × TKt)} {z z' : ADt × TKt} {qn qcold qtime : Int32} {qV : Nat → Int32} {qM : Nat → Int32} {qvol : Nat → Int64} {qh : Nat → Int64} {qamb : Nat → Int32} {qab : Nat → Int32} {qbe : Nat → Int32} {qrf : Nat → Int32} {qrt : Nat → Int32} {qrh : Nat → Int32} {qrs : Nat → Int32} {qrl : Nat → Int32} {qru : Nat → Int32} {qon : Nat → Int32} {qdr : Nat → Int32} {qdc : Nat → Int32} {qdn : Nat → Int64} {qdh : Nat → Int64} {qgi : Nat → Int64} {qlo : Nat → Int64} {qom : Nat → Int32} {qV' : Nat → Int32} {qM' : Nat → Int32} {qvol' : Nat → Int64} {qh' : Nat → Int64} {qamb' : Nat → Int32} {qab' : Nat → Int32} {qbe' : Nat → Int32} {qrf' : Nat → Int32} {qrt' : Nat → Int32} {qrh' : Nat → Int32} {qrs' : Nat → Int32} {qrl' : Nat → Int32} {qru' : Nat → Int32} {qon' : Nat → Int32} {qdr' : Nat → Int32} {qdc' : Nat → Int32} {qdn' : Nat → Int64} {qdh' : Nat → Int64} {qgi' : Nat → Int64} {qlo' : Nat → Int64} {qom' : Nat → Int32} (hI : INV c n T Pf xn xcold xtime xf (A ++ z :: B) qn qcold qtime qV qM qvol qh qamb qab qbe qrf qrt qrh qrs qrl qru qon qdr qdc qdn qdh qgi qlo qom) (ht : A.length = t) (hz : z'.1.1 = z.1.1) (hT : TRt t P' z'.2 qV' qM' qvol' qh' qamb' qab' qbe' qrf' qrt' qrh' qrs' qrl' qru' qon' qdr' qdc' qdn' qdh' qgi' qlo' qom') (hP : P' ≤ Pf t + 3000000090) (hS : ∀ j, j ≠ t → Sm j qV qM qvol qh qamb qab qbe qrf qrt qrh qrs qrl qru qon qdr qdc qdn qdh qgi qlo qom qV' qM' qvol' qh' qamb' qab' qbe' qrf' qrt' qrh' qrs' qrl' qru' qon' qdr' qdc' qdn' qdh' qgi' qlo' qom') : INV (c + 1) n T (fun j => if j = t then P' else Pf j) xn xcold xtime xf (A ++ z' :: B) qn qcold qtime qV' qM' qvol' qh' qamb' qab' qbe' qrf' qrt' qrh' qrs' qrl' qru' qon' qdr' qdc' qdn' qdh' qgi' qlo' qom' := by
  obtain ⟨i1, i2, i3', i4, i5, i6', i7, i8, i9, i10, i11, i12, i13, i14, i15⟩ := hI
  have hl : t < n := by rw [← i2, ← ht]; simp
  refine ⟨i1, by rw [← i2]; simp, i3', i4, i5, i6', i7, i8, i9, i10, fun j hj => ?_, fun j y hj => ?_, fun j h1 h2 => QBl.same (qcode := 0) (qn := 0) (qcold := 0) (qtime := 0) (i13 j h1 h2) (hS j (by omega)), fun j h1 => ?_, ?_⟩
  · rw [i11 j hj]
    rcases Nat.lt_trichotomy j A.length with h | h | h
    · rw [List.getElem?_append_left h, List.getElem?_append_left h]
    · subst h
      rw [List.getElem?_append_right (Nat.le_refl _), List.getElem?_append_right (Nat.le_refl _)]
      simp [hz]
    · rw [List.getElem?_append_right (by omega), List.getElem?_append_right (by omega)]
      obtain ⟨d, hd⟩ : ∃ d, j - A.length = d + 1 := ⟨j - A.length - 1, by omega⟩
      rw [hd, List.getElem?_cons_succ, List.getElem?_cons_succ]
  · by_cases e : j = t
    · subst e
      rw [← ht, List.getElem?_append_right (Nat.le_refl _)] at hj
      simp only [Nat.sub_self, List.getElem?_cons_zero, Option.some.injEq] at hj
      subst hj
      dsimp only
      rw [if_pos rfl]
      exact hT
    · have hj' : (A ++ z :: B)[j]? = some y := by
        rcases Nat.lt_or_ge j A.length with h | h
        · rw [List.getElem?_append_left h] at hj ⊢
          exact hj
        · rw [List.getElem?_append_right h] at hj ⊢
          obtain ⟨d, hd⟩ : ∃ d, j - A.length = d + 1 := ⟨j - A.length - 1, by omega⟩
          rw [hd, List.getElem?_cons_succ] at hj ⊢
          exact hj
      dsimp only
      rw [if_neg e]
      have := i12 j y hj'
      obtain ⟨ya, dpar, dheat, full, cnt, vf, hf, rfrom, rto, rheat, rsens, rlow, rhigh, ron, rgiven, rmin, lamb, labv, lbel, llost, tcnt, mf, pf⟩ := y
      exact TR.same (qcode := 0) (qn := 0) (qcold := 0) (qtime := 0) this (hS j e)
  · dsimp only
    rw [if_neg (show ¬ j = t by omega)]
    exact i14 j h1
  · have h4 : t < 4 := by omega
    rcases (show t = 0 ∨ t = 1 ∨ t = 2 ∨ t = 3 by omega) with e | e | e | e <;> subst e <;> simp only [↓reduceIte, Nat.reduceEqDiff, Nat.succ_ne_zero, Nat.zero_ne_one, Nat.one_ne_zero] <;> omega
theorem INV.same {c n T : Nat} {Pf : Nat → Nat} {xn xcold xtime : Int32} {xf : Nat → Option Nat} {ts : List (ADt × TKt)} {qn qcold qtime : Int32} {qV : Nat → Int32} {qM : Nat → Int32} {qvol : Nat → Int64} {qh : Nat → Int64} {qamb : Nat → Int32} {qab : Nat → Int32} {qbe : Nat → Int32} {qrf : Nat → Int32} {qrt : Nat → Int32} {qrh : Nat → Int32} {qrs : Nat → Int32} {qrl : Nat → Int32} {qru : Nat → Int32} {qon : Nat → Int32} {qdr : Nat → Int32} {qdc : Nat → Int32} {qdn : Nat → Int64} {qdh : Nat → Int64} {qgi : Nat → Int64} {qlo : Nat → Int64} {qom : Nat → Int32} (hI : INV c n T Pf xn xcold xtime xf ts qn qcold qtime qV qM qvol qh qamb qab qbe qrf qrt qrh qrs qrl qru qon qdr qdc qdn qdh qgi qlo qom) : INV (c + 1) n T Pf xn xcold xtime xf ts qn qcold qtime qV qM qvol qh qamb qab qbe qrf qrt qrh qrs qrl qru qon qdr qdc qdn qdh qgi qlo qom := by
  obtain ⟨i1, i2, i3', i4, i5, i6', i7, i8, i9, i10, i11, i12, i13, i14, i15⟩ := hI
  exact ⟨i1, i2, i3', i4, i5, i6', i7, i8, i9, i10, i11, i12, i13, i14, by omega⟩
theorem INV.tank {c n T : Nat} {Pf : Nat → Nat} {xn xcold xtime : Int32} {xf : Nat → Option Nat} {ts : List (ADt × TKt)} {qn qcold qtime : Int32} {qV : Nat → Int32} {qM : Nat → Int32} {qvol : Nat → Int64} {qh : Nat → Int64} {qamb : Nat → Int32} {qab : Nat → Int32} {qbe : Nat → Int32} {qrf : Nat → Int32} {qrt : Nat → Int32} {qrh : Nat → Int32} {qrs : Nat → Int32} {qrl : Nat → Int32} {qru : Nat → Int32} {qon : Nat → Int32} {qdr : Nat → Int32} {qdc : Nat → Int32} {qdn : Nat → Int64} {qdh : Nat → Int64} {qgi : Nat → Int64} {qlo : Nat → Int64} {qom : Nat → Int32} {p : Int32} (hI : INV c n T Pf xn xcold xtime xf ts qn qcold qtime qV qM qvol qh qamb qab qbe qrf qrt qrh qrs qrl qru qon qdr qdc qdn qdh qgi qlo qom) (hc : c < 512) (h1 : 0 ≤ p) (h2 : p < i3 n) : ∃ (t : Nat) (A B : List (ADt × TKt)) (z : ADt × TKt), p = i3 t ∧ t < n ∧ n ≤ 4 ∧ ts = A ++ z :: B ∧ A.length = t ∧ xf t = some z.1.1 ∧ TRt t (Pf t) z.2 qV qM qvol qh qamb qab qbe qrf qrt qrh qrs qrl qru qon qdr qdc qdn qdh qgi qlo qom ∧ Pf t + 10000000000 ≤ 3000000000000 := by
  obtain ⟨i1, i2, i3', i4, i5, i6', i7, i8, i9, i10, i11, i12, i13, i14, i15⟩ := hI
  obtain ⟨t, ht, rfl⟩ := nat_of (F := 3) (by omega) h1 (by
    rw [Int32.le_iff_toInt_le, i3_int (by omega)]
    rw [Int32.lt_iff_toInt_lt, i3_int (by omega)] at h2
    omega)
  have hn : t < n := nat_lt (by omega) (by omega) h2
  have hg : ts[t]? = some (ts[t]'(by omega)) := List.getElem?_eq_getElem _
  obtain ⟨A, B, hAB, hA⟩ := at_split hg
  refine ⟨t, A, B, _, rfl, hn, i1, hAB, hA, ?_, i12 t _ hg, ?_⟩
  · rw [i11 t (by omega), hg]
    rfl
  · have : 20000000000 * n + 3000000090 * c + 120000360 * T ≤ 2300000000000 := by omega
    rcases (show t = 0 ∨ t = 1 ∨ t = 2 ∨ t = 3 by omega) with e | e | e | e <;> subst e <;> omega
theorem INV.none {c n T : Nat} {Pf : Nat → Nat} {xn xcold xtime : Int32} {xf : Nat → Option Nat} {ts : List (ADt × TKt)} {qn qcold qtime : Int32} {qV : Nat → Int32} {qM : Nat → Int32} {qvol : Nat → Int64} {qh : Nat → Int64} {qamb : Nat → Int32} {qab : Nat → Int32} {qbe : Nat → Int32} {qrf : Nat → Int32} {qrt : Nat → Int32} {qrh : Nat → Int32} {qrs : Nat → Int32} {qrl : Nat → Int32} {qru : Nat → Int32} {qon : Nat → Int32} {qdr : Nat → Int32} {qdc : Nat → Int32} {qdn : Nat → Int64} {qdh : Nat → Int64} {qgi : Nat → Int64} {qlo : Nat → Int64} {qom : Nat → Int32} (hI : INV c n T Pf xn xcold xtime xf ts qn qcold qtime qV qM qvol qh qamb qab qbe qrf qrt qrh qrs qrl qru qon qdr qdc qdn qdh qgi qlo qom) : ∀ t, t < 4 → n ≤ t → xf t = none := by
  obtain ⟨i1, i2, i3', i4, i5, i6', i7, i8, i9, i10, i11, i12, i13, i14, i15⟩ := hI
  intro t h1 h2
  rw [i11 t h1, List.getElem?_eq_none (by omega)]
  rfl
