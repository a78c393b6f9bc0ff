def lk (m : Nat) : List (Nat × Nat) → Nat
  | [] => 0
  | d :: D => if d.1 = m then d.2 else lk m D
def fd (m : Nat) : Nat → List (Nat × Nat) → Option Nat
  | _, [] => none
  | k, d :: D => if d.1 = m then some k else fd m (k + 1) D
def Rt (mf pf : Nat → Int32) : Nat → List (Nat × Nat) → Prop
  | _, [] => True
  | b, d :: D => mf b = i3 d.1 ∧ pf b = i3 d.2 ∧ Rt mf pf (b + 1) D
theorem Rt.app {mf pf : Nat → Int32} (A B : List (Nat × Nat)) (b : Nat) : Rt mf pf b (A ++ B) ↔ Rt mf pf b A ∧ Rt mf pf (b + A.length) B := by
  induction A generalizing b with
  | nil => simp [Rt]
  | cons x A ih =>
    simp only [List.cons_append, Rt, List.length_cons, ih, and_assoc]
    rw [show b + 1 + A.length = b + (A.length + 1) by omega]
theorem Rt.move {mf pf mf' pf' : Nat → Int32} {D : List (Nat × Nat)} {b b' : Nat} (h : Rt mf pf b D) (he : ∀ i, i < D.length → mf' (b' + i) = mf (b + i) ∧ pf' (b' + i) = pf (b + i)) : Rt mf' pf' b' D := by
  induction D generalizing b b' with
  | nil => trivial
  | cons x L ih =>
    obtain ⟨h1, h2, h3⟩ := h
    have e0 := he 0 (by simp)
    refine ⟨e0.1.trans h1, e0.2.trans h2, ih h3 fun i hi => ?_⟩
    have := he (i + 1) (by simp only [List.length_cons]; omega)
    rw [show b' + 1 + i = b' + (i + 1) by omega, show b + 1 + i = b + (i + 1) by omega]
    exact this
theorem fd_cases (m : Nat) : ∀ (D : List (Nat × Nat)) (k : Nat), (fd m k D = none ∧ lk m D = 0 ∧ ∀ d ∈ D, d.1 ≠ m) ∨ ∃ A p B, D = A ++ (m, p) :: B ∧ fd m k D = some (k + A.length) ∧ lk m D = p ∧ ∀ d ∈ A, d.1 ≠ m := by
  intro D
  induction D with
  | nil => intro k; exact Or.inl ⟨rfl, rfl, fun d hd => by simp at hd⟩
  | cons d D ih =>
    intro k
    by_cases c : d.1 = m
    · refine Or.inr ⟨[], d.2, D, ?_, ?_, ?_, fun d hd => by simp at hd⟩
      · rw [← c]; rfl
      · simp only [fd, c, ↓reduceIte, List.length_nil, Nat.add_zero]
      · simp only [lk, c, ↓reduceIte]
    · rcases ih (k + 1) with ⟨h1, h2, h3⟩ | ⟨A, p, B, h1, h2, h3, h4⟩
      · refine Or.inl ⟨by simp only [fd, if_neg c, h1], by simp only [lk, if_neg c, h2], fun e he => ?_⟩
        rcases List.mem_cons.mp he with e1 | e1
        · rw [e1]; exact c
        · exact h3 e e1
      · refine Or.inr ⟨d :: A, p, B, by rw [h1]; rfl, ?_, by simp only [lk, if_neg c, h3], fun e he => ?_⟩
        · simp only [fd, if_neg c, h2, List.length_cons]
          exact congrArg some (by omega)
        · rcases List.mem_cons.mp he with e1 | e1
          · rw [e1]; exact c
          · exact h4 e e1
def pix (o : Option Nat) : Int32 := match o with
  | some j => i3 j
  | none => -1
theorem t_placeLoop {N m : Nat} {tcnt : Int32} {mf pf : Nat → Int32} (hm : m < 1440) : ∀ (D : List (Nat × Nat)) (k n fuel : Nat), Rt mf pf k D → n = k + D.length → n ≤ 40 → tcnt = i3 n → (∀ d ∈ D, d.1 < 1440) → D.length < fuel → gx_fx (st_Time_placeOf N tcnt mf pf) fuel (i3 m, i3 k) = some (pix (fd m k D)) := by
  intro D
  induction D with
  | nil =>
    intro k n fuel hR hn h40 hc hD hfu
    obtain ⟨f, rfl⟩ : ∃ f, fuel = f + 1 := ⟨fuel - 1, by omega⟩
    simp only [List.length_nil] at hn
    rw [gx_fxS]
    simp only [st_Time_placeOf, bk_Time_placeOf_2, hc]
    simp (disch := omega) only [i3_leT, ↓reduceIte]
    rfl
  | cons d D ih =>
    intro k n fuel hR hn h40 hc hD hfu
    simp only [List.length_cons] at hn hfu
    obtain ⟨f, rfl⟩ : ∃ f, fuel = f + 1 := ⟨fuel - 1, by omega⟩
    obtain ⟨d1, d2, rD⟩ := hR
    have hd := hD d List.mem_cons_self
    rw [gx_fxS]
    simp only [st_Time_placeOf, bk_Time_placeOf_2, hc]
    by_cases c : d.1 = m
    · simp (disch := omega) only [i3_nat, i3_inT, i3_leF, d1, c, ↓reduceIte, fd, pix]
    · simp (disch := omega) only [lt1, i3_add, i3_nat, i3_inT, i3_leF, i3_eqF, d1, ↓reduceIte]
      rw [← hc, ih (k + 1) n f rD (by omega) h40 hc (fun e he => hD e (List.mem_cons_of_mem _ he)) (by omega)]
      simp only [fd, if_neg c]
def Td (full : Nat) (D : List (Nat × Nat)) : Prop := (D.map Prod.fst).Nodup ∧ D.length ≤ 40 ∧ ∀ d ∈ D, d.1 < 1440 ∧ 1 ≤ d.2 ∧ d.2 ≤ full
theorem t_place {N m full : Nat} {mf pf : Nat → Int32} (hN : 1000 ≤ N) (hm : m < 1440) (D : List (Nat × Nat)) (hT : Td full D) (hR : Rt mf pf 0 D) : fn_Time_placeOf N (i3 m) (i3 D.length) mf pf = some (pix (fd m 0 D)) := by
  have := t_placeLoop (N := N) (mf := mf) (pf := pf) hm D 0 D.length N hR (by omega) hT.2.1 rfl (fun d hd => (hT.2.2 d hd).1) (by have := hT.2.1; omega)
  unfold fn_Time_placeOf
  rw [lt0, this]
theorem m1_ne {j : Nat} (h : j < 2147483648) : (i3 j = -1) = False := by
  apply eq_false
  intro e
  have := congrArg Int32.toInt e
  rw [i3_int h] at this
  have h2 : (-1 : Int32).toInt = -1 := by decide
  omega
theorem t_parts {N m full : Nat} {mf pf : Nat → Int32} (hN : 1000 ≤ N) (hm : m < 1440) (D : List (Nat × Nat)) (hT : Td full D) (hR : Rt mf pf 0 D) : fn_Time_partsAt N (i3 m) (i3 D.length) mf pf = some (i3 (lk m D)) := by
  unfold fn_Time_partsAt
  rw [t_place hN hm D hT hR]
  simp only [Option.bind_some]
  have hl := hT.2.1
  rcases fd_cases m D 0 with ⟨h1, h2, h3⟩ | ⟨A, p, B, h1, h2, h3, h4⟩
  · rw [h1, h2]
    simp only [pix, ↓reduceIte]
    rfl
  · rw [h2, h3]
    rw [h1] at hl hR
    simp only [List.length_append, List.length_cons] at hl
    have hp := ((Rt.app A _ 0).mp hR).2.2.1
    rw [Nat.zero_add] at hp ⊢
    simp only [pix]
    simp (disch := omega) only [m1_ne, i3_inT, i3_nat, hp, ↓reduceIte]
def wrD (m v : Nat) (D : List (Nat × Nat)) (D' : List (Nat × Nat)) : Prop := (∀ k, lk k D' = if k = m then v else lk k D) ∧ D'.length + (if 0 < lk m D then 1 else 0) = D.length + (if 0 < v then 1 else 0)
theorem lk_none {m : Nat} {D : List (Nat × Nat)} (h : ∀ d ∈ D, d.1 ≠ m) : lk m D = 0 := by
  induction D with
  | nil => rfl
  | cons d D ih => rw [lk, if_neg (h d List.mem_cons_self), ih fun e he => h e (List.mem_cons_of_mem _ he)]
theorem lk_mid {k m p : Nat} (A B : List (Nat × Nat)) (hk : k ≠ m) : lk k (A ++ (m, p) :: B) = lk k (A ++ B) := by
  induction A with
  | nil => simp only [List.nil_append, lk, if_neg (Ne.symm hk)]
  | cons a A ih => simp only [List.cons_append, lk, ih]
theorem lk_here {m p : Nat} (A B : List (Nat × Nat)) (h : ∀ d ∈ A, d.1 ≠ m) : lk m (A ++ (m, p) :: B) = p := by
  induction A with
  | nil => simp only [List.nil_append, lk, ↓reduceIte]
  | cons a A ih =>
    simp only [List.cons_append, lk]
    rw [if_neg (h a List.mem_cons_self), ih fun e he => h e (List.mem_cons_of_mem _ he)]
theorem lk_perm {k : Nat} {D D' : List (Nat × Nat)} (p : D.Perm D') (h : (D.map Prod.fst).Nodup) : lk k D = lk k D' := by
  induction p with
  | nil => rfl
  | cons x _ ih =>
    simp only [lk]
    rw [ih (List.nodup_cons.mp h).2]
  | swap x y l =>
    simp only [List.map_cons, List.nodup_cons, List.mem_cons, not_or] at h
    simp only [lk]
    by_cases c : x.1 = k
    · by_cases d : y.1 = k
      · exact absurd (d.trans c.symm) h.1.1
      · simp only [c, d, ↓reduceIte]
    · simp only [c, ↓reduceIte]
  | trans p1 _ ih1 ih2 => exact (ih1 h).trans (ih2 ((p1.map _).nodup_iff.mp h))
theorem t_write {N m v full : Nat} {mf pf : Nat → Int32} (hN : 1000 ≤ N) (hm : m < 1440) (hF : full ≤ 100000) (hv : v ≤ full) (D : List (Nat × Nat)) (hT : Td full D) (hR : Rt mf pf 0 D) (hfull : ¬ (lk m D = 0 ∧ 0 < v ∧ D.length = 40)) : ∃ D' mf' pf', fn_Time_write N (i3 m) (i3 v) (i3 D.length) mf pf = some (i3 D'.length, mf', pf') ∧ Rt mf' pf' 0 D' ∧ Td full D' ∧ wrD m v D D' := by
  unfold fn_Time_write
  rw [t_place hN hm D hT hR]
  simp only [Option.bind_some]
  obtain ⟨hnd, hl, hall⟩ := hT
  rcases fd_cases m D 0 with ⟨h1, h2, h3⟩ | ⟨A, p, B, h1, h2, h3, h4⟩
  · rw [h1]
    simp only [pix, ↓reduceIte]
    by_cases c : v = 0
    · refine ⟨D, mf, pf, ?_, hR, ⟨hnd, hl, hall⟩, fun k => ?_, ?_⟩
      · rw [c]; rfl
      · by_cases e : k = m
        · rw [if_pos e, e, h2, c]
        · rw [if_neg e]
      · rw [h2, c]
    · refine ⟨D ++ [(m, v)], upd mf D.length (i3 m), upd pf D.length (i3 v), ?_, ?_, ⟨?_, ?_, ?_⟩, fun k => ?_, ?_⟩
      · unfold fn_Time_isFull
        simp (disch := omega) only [lt0, lt1, lt40, i3_leF, i3_ltT, i3_inT, i3_nat, i3_add, Option.bind_some, ↓reduceIte, List.length_append, List.length_cons, List.length_nil, Nat.zero_add]
      · refine (Rt.app _ _ _).mpr ⟨hR.move fun i hi => ?_, ?_, ?_, trivial⟩
        · simp only [upd]; rw [if_neg (by omega), if_neg (by omega)]; exact ⟨rfl, rfl⟩
        · simp only [Nat.zero_add, upd, ↓reduceIte]
        · simp only [Nat.zero_add, upd, ↓reduceIte]
      · rw [List.map_append, List.nodup_append]
        refine ⟨hnd, by simp, fun a ha b hb e => ?_⟩
        obtain ⟨d, hd, rfl⟩ := List.mem_map.mp ha
        simp only [List.map_cons, List.map_nil, List.mem_singleton] at hb
        exact h3 d hd (e.trans hb)
      · simp only [List.length_append, List.length_cons, List.length_nil]; omega
      · intro d hd
        rcases List.mem_append.mp hd with e | e
        · exact hall d e
        · rw [List.mem_singleton.mp e]; exact ⟨hm, by simp only; omega, hv⟩
      · by_cases e : k = m
        · rw [if_pos e, e, lk_here D [] h3]
        · rw [if_neg e, lk_mid D [] e, List.append_nil]
      · rw [h2, if_neg (by omega), if_pos (by omega)]
        simp
  · rw [h2]
    have hp := hall (m, p) (by rw [h1]; exact List.mem_append_right _ List.mem_cons_self)
    have hlA : A.length + (B.length + 1) = D.length := by rw [h1]; simp
    have hR1 := hR
    rw [h1] at hR1
    obtain ⟨rA, rm, rp, rB⟩ := (Rt.app A _ 0).mp hR1
    rw [Nat.zero_add] at rm rp rB ⊢
    have hnd1 := hnd
    rw [h1, List.map_append, List.map_cons, List.nodup_append, List.nodup_cons] at hnd1
    obtain ⟨nA, ⟨nm, nB⟩, nAB⟩ := hnd1
    simp only [pix]
    by_cases c : v = 0
    · have hBm : ∀ d ∈ B, d.1 ≠ m := fun d hd e => nm (List.mem_map.mpr ⟨d, hd, e⟩)
      have hAB : ∀ d ∈ A ++ B, d.1 ≠ m := fun d hd => (List.mem_append.mp hd).elim (h4 d) (hBm d)
      have hlk : ∀ k, lk k (A ++ B) = if k = m then v else lk k D := fun k => by
        by_cases e : k = m
        · rw [if_pos e, e, lk_none hAB, c]
        · rw [if_neg e, h1, lk_mid A B e]
      have hndAB : ((A ++ B).map Prod.fst).Nodup := by
        rw [List.map_append, List.nodup_append]
        exact ⟨nA, nB, fun a ha b hb => nAB a ha b (List.mem_cons_of_mem _ hb)⟩
      have hallAB : ∀ d ∈ A ++ B, d.1 < 1440 ∧ 1 ≤ d.2 ∧ d.2 ≤ full := fun d hd => hall d (by
        rw [h1]
        rcases List.mem_append.mp hd with e | e
        · exact List.mem_append_left _ e
        · exact List.mem_append_right _ (List.mem_cons_of_mem _ e))
      obtain ⟨E, mf', pf', hE, hRE, e⟩ : ∃ E mf' pf', E.Perm (A ++ B) ∧ Rt mf' pf' 0 E ∧ fn_Time_removePlace N (i3 A.length) (i3 D.length) mf pf = some (i3 E.length, mf', pf') := by
        unfold fn_Time_removePlace
        by_cases cB : B = []
        · subst cB
          refine ⟨A, upd mf A.length (mf (D.length - 1)), upd pf A.length (pf (D.length - 1)), by simp, rA.move fun i hi => ?_, ?_⟩
          · simp only [upd]; rw [if_neg (by omega), if_neg (by omega)]; exact ⟨rfl, rfl⟩
          · simp only [List.length_nil] at hlA
            simp (disch := omega) only [lt1, i3_sub, i3_inT, i3_nat, ↓reduceIte]
            rw [show D.length - 1 = A.length by omega]
        · obtain ⟨B0, z, hBz⟩ : ∃ B0 z, B = B0 ++ [z] := ⟨B.dropLast, B.getLast cB, (List.dropLast_concat_getLast cB).symm⟩
          subst hBz
          simp only [List.length_append, List.length_cons, List.length_nil] at hlA
          obtain ⟨rB0, z1, z2, -⟩ := (Rt.app B0 [z] _).mp rB
          rw [show A.length + 1 + B0.length = D.length - 1 by omega] at z1 z2
          refine ⟨A ++ z :: B0, upd mf A.length (mf (D.length - 1)), upd pf A.length (pf (D.length - 1)), ?_, ?_, ?_⟩
          · exact List.Perm.append_left A (List.perm_append_singleton z B0).symm
          · refine (Rt.app _ _ _).mpr ⟨rA.move fun i hi => ?_, ?_, ?_, rB0.move fun i hi => ?_⟩
            · simp only [upd]; rw [if_neg (by omega), if_neg (by omega)]; exact ⟨rfl, rfl⟩
            · simp only [Nat.zero_add, upd, ↓reduceIte]; exact z1
            · simp only [Nat.zero_add, upd, ↓reduceIte]; exact z2
            · simp only [upd]; rw [if_neg (by omega), if_neg (by omega), Nat.zero_add]; exact ⟨rfl, rfl⟩
          · simp (disch := omega) only [lt1, i3_sub, i3_inT, i3_nat, ↓reduceIte]
            rw [show D.length - 1 = (A ++ z :: B0).length by simp only [List.length_append, List.length_cons]; omega]
      refine ⟨E, mf', pf', ?_, hRE, ⟨(hE.map _).nodup_iff.mpr hndAB, ?_, fun d hd => hallAB d (hE.mem_iff.mp hd)⟩, fun k => ?_, ?_⟩
      · simp (disch := omega) only [lt0, m1_ne, i3_leT, ↓reduceIte]
        rw [e]
        rfl
      · rw [hE.length_eq, List.length_append]; omega
      · rw [lk_perm hE ((hE.map _).nodup_iff.mpr hndAB), hlk k]
      · rw [hE.length_eq, List.length_append, h3, if_pos (by omega), if_neg (by omega)]; omega
    · refine ⟨A ++ (m, v) :: B, mf, upd pf A.length (i3 v), ?_, ?_, ⟨?_, ?_, ?_⟩, fun k => ?_, ?_⟩
      · simp (disch := omega) only [lt0, m1_ne, i3_leF, i3_inT, i3_nat, ↓reduceIte, List.length_append, List.length_cons, hlA]
      · refine (Rt.app _ _ _).mpr ⟨rA.move fun i hi => ?_, ?_, ?_, rB.move fun i hi => ?_⟩
        · exact ⟨rfl, by simp only [upd]; rw [if_neg (by omega)]⟩
        · rw [Nat.zero_add]; exact rm
        · simp only [Nat.zero_add, upd, ↓reduceIte]
        · rw [Nat.zero_add]; exact ⟨rfl, by simp only [upd]; rw [if_neg (by omega)]⟩
      · rw [h1] at hnd
        simp only [List.map_append, List.map_cons] at hnd ⊢
        exact hnd
      · simp only [List.length_append, List.length_cons]; omega
      · intro d hd
        rcases List.mem_append.mp hd with e | e
        · exact hall d (by rw [h1]; exact List.mem_append_left _ e)
        · rcases List.mem_cons.mp e with e | e
          · rw [e]; exact ⟨hm, by simp only; omega, hv⟩
          · exact hall d (by rw [h1]; exact List.mem_append_right _ (List.mem_cons_of_mem _ e))
      · by_cases e : k = m
        · rw [if_pos e, e, lk_here A B h4]
        · rw [if_neg e, h1, lk_mid A B e, lk_mid A B e]
      · rw [h3, if_pos (by omega), if_pos (by omega)]
        simp only [List.length_append, List.length_cons]
        omega
