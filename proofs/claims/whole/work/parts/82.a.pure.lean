def LX (l : Launch) (s : State) (A : Nat → Prop) : Prop := l.stackTraces = false ∧ gx_E s ∧ gx_X A s ∧ va_Nc "java/lang/IllegalStateException" "java/lang/IllegalArgumentException" s ∧ ∀ q : Nat, s.heap.size ≤ q → A q
def LWd (dC : Nat → ClassId) (dI : Nat → Nat → Nat) (A : Nat → Prop) (s : State) (H : Heap) (locs : List Loc) (wk : va_W) (o1 : Nat) (ko : ClassId) (of : Nat → Int64) (h0 ta : Nat) (kt : ClassId) (xn xcold xtime : Int32) (xf : Nat → Option Nat) (ts : List (ADt × TKt)) : Prop := va_P (dC, dI) classes (wk ++ ((o1, .inl (ko, 1, .inr (.inl of))) :: cwt h0 ta kt xn xcold xtime xf ts)) H ∧ va_D A (wk ++ ((o1, .inl (ko, 1, .inr (.inl of))) :: cwt h0 ta kt xn xcold xtime xf ts)) ∧ va_K (dC, dI) classes ((ko, .long) :: cty kt ts) s ∧ va_S A s.heap H locs
theorem rc1 : room_1.cells = 601024 := rfl
theorem rs1 : room_1.slots = 7293034 := rfl
theorem ib0 : gx_inb 0 1 = true := by decide
theorem n00 : (0 : Int32).toNatClampNeg = 0 := by decide
theorem gx_gL {c' w : Cond} (h : c' ∈ gx_W) (hw : w ∈ c' :: gx_W) : w ∈ lw_tbl ∧ ((w.onTables && w.keeps) = true ∨ ∃ ty, w = .arrayClass ty) := by
  have key : ∀ w ∈ gx_W, w ∈ lw_tbl ∧ ((w.onTables && w.keeps) = true ∨ ∃ ty, w = .arrayClass ty) := fun w h => ⟨(List.mem_filter.mp h).1, good_of_word (List.mem_filter.mp h).2⟩
  rcases List.mem_cons.mp hw with e | e
  · rw [e]; exact key _ h
  · exact key _ e
theorem gx_gIL {c' : Cond} (h : c' ∈ gx_W) : GoodIn lw_tbl (c' :: gx_W) := fun _ hw => gx_gL h hw
theorem gx_gSL {c' : Cond} {own : String} {idx : Nat} {y : MethodName} (h : c' ∈ gx_W) (h1 : Cond.methodLink own idx y ∈ gx_W) (h2 : Cond.static y ∈ gx_W) (h4 : Cond.initialized y.cls ∈ gx_W) : GoodIn lw_tbl (va_wsS own idx y (c' :: gx_W)) := fun w hw => by
  rcases List.mem_append.mp hw with e | e
  · simp only [List.mem_cons, List.not_mem_nil, or_false] at e
    rcases e with e | e | e <;> rw [e]
    · exact gx_gL h (List.mem_cons_of_mem _ h1)
    · exact gx_gL h (List.mem_cons_of_mem _ h2)
    · exact gx_gL h (List.mem_cons_of_mem _ h4)
  · exact gx_gL h e
theorem gx_gVL {c' : Cond} {own C : String} {idx : Nat} {y : MethodName} (h : c' ∈ gx_W) (h1 : Cond.methodLink own idx y ∈ gx_W) (h2 : Cond.instanceMethod y ∈ gx_W) (h3 : Cond.selects C y y ∈ gx_W) (h4 : Cond.initialized C ∈ gx_W) : GoodIn lw_tbl (wsV own idx C y (c' :: gx_W)) := fun w hw => by
  rcases List.mem_append.mp hw with e | e
  · simp only [List.mem_cons, List.not_mem_nil, or_false] at e
    rcases e with e | e | e | e <;> rw [e]
    · exact gx_gL h (List.mem_cons_of_mem _ h1)
    · exact gx_gL h (List.mem_cons_of_mem _ h2)
    · exact gx_gL h (List.mem_cons_of_mem _ h3)
    · exact gx_gL h (List.mem_cons_of_mem _ h4)
  · exact gx_gL h e
theorem cw_split2 {o x ta : Nat × va_E} {wk : va_W} (A B : List (ADt × TKt)) (z : ADt × TKt) : (wk ++ (o :: x :: ta :: (A ++ z :: B).flatMap twc)).Perm ((wk ++ [o]) ++ (x :: ta :: (twc z ++ (A ++ B).flatMap twc))) := by
  rw [List.append_assoc]
  refine List.Perm.append_left wk (List.Perm.cons o (List.Perm.cons x (List.Perm.cons ta ?_)))
  have h1 : (A ++ z :: B).flatMap twc = A.flatMap twc ++ (twc z ++ B.flatMap twc) := by simp [List.flatMap_append, List.flatMap_cons]
  have h2 : (A ++ B).flatMap twc = A.flatMap twc ++ B.flatMap twc := by simp [List.flatMap_append]
  rw [h1, h2, ← List.append_assoc, ← List.append_assoc]
  exact List.Perm.append_right _ List.perm_append_comm
theorem cw_front2 {o x ta : Nat × va_E} {wk wr : va_W} : (wk ++ (o :: x :: ta :: wr)).Perm ((wk ++ [o]) ++ (x :: ta :: wr)) := by
  rw [List.append_assoc]
  exact List.Perm.refl _
theorem k_split2 {kt ko : ClassId} (A B : List (ADt × TKt)) (z : ADt × TKt) : ∀ q ∈ (kt, FieldType.object R_Tank) :: tty z, q ∈ (ko, FieldType.long) :: cty kt (A ++ z :: B) := by
  intro q hq
  simp only [List.mem_cons, List.mem_append, cty, List.flatMap_append, List.flatMap_cons] at hq ⊢
  rcases hq with h | h
  · exact Or.inr (Or.inl h)
  · exact Or.inr (Or.inr (Or.inr (Or.inl h)))
theorem k_front2 {kt ko : ClassId} {ts : List (ADt × TKt)} : ∀ q ∈ [(kt, FieldType.object R_Tank)], q ∈ (ko, FieldType.long) :: cty kt ts := by
  intro q hq
  simp only [List.mem_cons, List.not_mem_nil, or_false, cty] at hq ⊢
  exact Or.inr (Or.inl hq)
theorem cty_set {kt : ClassId} (A B : List (ADt × TKt)) {z z' : ADt × TKt} (h : tty z' = tty z) : cty kt (A ++ z' :: B) = cty kt (A ++ z :: B) := by
  unfold cty
  simp only [List.flatMap_append, List.flatMap_cons, h]
theorem Sm.ups {t j : Nat} {qV qM : Nat → Int32} {qvol qh : Nat → Int64} {qamb qab qbe qrf qrt qrh qrs qrl qru qon qdr qdc : Nat → Int32} {qdn qdh qgi qlo : Nat → Int64} {qom : Nat → Int32} {a b c : Int32} (hj : j ≠ t) : Sm j qV qM qvol qh qamb qab qbe qrf qrt qrh qrs qrl qru qon qdr qdc qdn qdh qgi qlo qom qV qM qvol qh (upd qamb t a) (upd qab t b) (upd qbe t c) qrf qrt qrh qrs qrl qru qon qdr qdc qdn qdh qgi qlo qom := by
  refine ⟨fun _ _ _ => ⟨rfl, rfl⟩, fun _ _ => rfl, ?_⟩
  simp only [upd, if_neg hj, and_self]
theorem Sm.upr {t j : Nat} {qV qM : Nat → Int32} {qvol qh : Nat → Int64} {qamb qab qbe qrf qrt qrh qrs qrl qru qon qdr qdc : Nat → Int32} {qdn qdh qgi qlo : Nat → Int64} {qom : Nat → Int32} {a b c d e f g : Int32} (hj : j ≠ t) : Sm j qV qM qvol qh qamb qab qbe qrf qrt qrh qrs qrl qru qon qdr qdc qdn qdh qgi qlo qom qV qM qvol qh qamb qab qbe (upd qrf t a) (upd qrt t b) (upd qrh t c) (upd qrs t d) (upd qrl t e) (upd qru t f) (upd qon t g) qdr qdc qdn qdh qgi qlo qom := by
  refine ⟨fun _ _ _ => ⟨rfl, rfl⟩, fun _ _ => rfl, ?_⟩
  simp only [upd, if_neg hj, and_self]
theorem Sm.dr {t j : Nat} {qV qM : Nat → Int32} {qvol qh : Nat → Int64} {qamb qab qbe qrf qrt qrh qrs qrl qru qon qdr qdc : Nat → Int32} {qdn qdh qgi qlo : Nat → Int64} {qom : Nat → Int32} {qdr' qdc' : Nat → Int32} (h1 : ∀ i, (i < 1440 * t ∨ 1440 * t + 1440 ≤ i) → qdr' i = qdr i) (h2 : ∀ j, j ≠ t → qdc' j = qdc j) (hj : j ≠ t) : Sm j qV qM qvol qh qamb qab qbe qrf qrt qrh qrs qrl qru qon qdr qdc qdn qdh qgi qlo qom qV qM qvol qh qamb qab qbe qrf qrt qrh qrs qrl qru qon qdr' qdc' qdn qdh qgi qlo qom := by
  refine ⟨fun _ _ _ => ⟨rfl, rfl⟩, fun m hm => h1 _ (by omega), ?_⟩
  simp only [h2 j hj, and_self]
