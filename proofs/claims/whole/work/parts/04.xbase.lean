/-- a callee that may throw: the number of what it throws, or what it gives -/
def gx_then {α R : Type} (x : Option (Nat ⊕ α)) (f : α → Option (Nat ⊕ R)) : Option (Nat ⊕ R) := x.bind (fun z => match z with
  | .inl n => some (.inl n)
  | .inr u => f u)
theorem gx_thenR {α R : Type} {x : Option (Nat ⊕ α)} {f : α → Option (Nat ⊕ R)} {r : R} (h : gx_then x f = some (.inr r)) : ∃ u, x = some (.inr u) ∧ f u = some (.inr r) := by
  cases x with
  | none => cases h
  | some z =>
    cases z with
    | inl n => cases h
    | inr u => exact ⟨u, rfl, h⟩
theorem gx_thenL {α R : Type} {x : Option (Nat ⊕ α)} {f : α → Option (Nat ⊕ R)} {n : Nat} (h : gx_then x f = some (.inl n)) : x = some (.inl n) ∨ ∃ u, x = some (.inr u) ∧ f u = some (.inl n) := by
  cases x with
  | none => cases h
  | some z =>
    cases z with
    | inl k => cases h; exact Or.inl rfl
    | inr u => exact Or.inr ⟨u, rfl, h⟩
def gx_en (n : Nat) : String := if n = 1 then "java/lang/IllegalArgumentException" else "java/lang/IllegalStateException"
abbrev gx_up : List String := ["java/lang/RuntimeException", "java/lang/Exception"]
def gx_B : List Cond := [.castable "java/lang/IllegalArgumentException" "java/lang/IllegalArgumentException", .castable "java/lang/IllegalStateException" "java/lang/IllegalStateException", .declares ⟨"java/lang/RuntimeException", "<init>", "(Ljava/lang/String;)V"⟩, .declares ⟨"java/lang/Exception", "<init>", "(Ljava/lang/String;)V"⟩, .declares ⟨"java/lang/Throwable", "<init>", "(Ljava/lang/String;)V"⟩]
def gx_txt : List (Nat × String) := [(192, "a number is out of its bounds"), (36, "there are 4 tanks"), (190, "there is no such tank"), (63, "both tanks are one"), (195, "from is not below to"), (111, "low is above high"), (139, "there are 40 minutes with a draw"), (144, "the time would be above 5000")]
/-- what a throw needs of the start -/
def gx_X (A : Nat → Prop) (U : State) : Prop := (∀ w ∈ gx_B, va_Nw w U) ∧ vx_Zq Bundle.tN "UNASSIGNED_STACK" Bundle.steD A U U.heap ∧ vx_Zq Bundle.tN "SUPPRESSED_SENTINEL" Bundle.listD A U U.heap ∧ ∀ q ∈ gx_txt, ∃ sa : Nat, vk_R R_TL q.1 q.2 sa U
theorem gx_Bwarm {s U : State} (hW : s.WarmedH U.vm) (h : ∀ w ∈ gx_B, va_Nw w s) : ∀ w ∈ gx_B, va_Nw w U := by
  intro w hw
  have h1 := h w hw
  simp only [gx_B, List.mem_cons, List.not_mem_nil, or_false] at hw
  rcases hw with e | e | e | e | e <;> subst e
  · exact va_Nw.warmC hW h1
  · exact va_Nw.warmC hW h1
  · exact va_Nw.warmD hW h1
  · exact va_Nw.warmD hW h1
  · exact va_Nw.warmD hW h1
theorem gx_X.pass {A A' : Nat → Prop} {s U : State} {H : Heap} {locs : List Loc} (h : gx_X A s) (hS : va_S A s.heap H locs) (hU : U.heap = H) (hW : s.WarmedH U.vm) (hF : ∀ q, A' q → A q) : gx_X A' U := by
  obtain ⟨h1, h2, h3, h4⟩ := h
  refine ⟨gx_Bwarm hW h1, ?_, ?_, fun q hq => ?_⟩
  · rw [hU]; exact (vx_Zq.moved hW.alike (h2.kept hS.2.1)).narrow hF
  · rw [hU]; exact (vx_Zq.moved hW.alike (h3.kept hS.2.1)).narrow hF
  · obtain ⟨sa, hs⟩ := h4 q hq
    exact ⟨sa, vk_R.warm hW hs⟩
theorem gx_X.calls {A : Nat → Prop} {U : State} {g : JFrame} {mk : MethodId} {a : Array Value} (h : gx_X A U) : gx_X A (U.calling g mk a) := by
  obtain ⟨h1, h2, h3, h4⟩ := h
  refine ⟨fun w hw => ?_, vx_Zq.moved (u := U) (Vm.Alike.refl U.vm) h2, vx_Zq.moved (u := U) (Vm.Alike.refl U.vm) h3, fun q hq => ?_⟩
  · have h5 := h1 w hw
    simp only [gx_B, List.mem_cons, List.not_mem_nil, or_false] at hw
    rcases hw with e | e | e | e | e <;> subst e <;> exact va_Nw.same rfl (u := U) rfl h5
  · obtain ⟨sa, hs⟩ := h4 q hq
    exact ⟨sa, vk_R.same (u := U) rfl hs⟩
theorem gx_thrown {A : Nat → Prop} {D : va_G} {cl : List vw_C} {ws : va_W} {tys : List (ClassId × FieldType)} {s t : State} {H : Heap} {locs : List Loc} (hP : va_P D cl ws H) (hK : va_K D cl tys s) (hD : va_D A ws) (hS : va_S A s.heap H locs) (hvm : s.vm.Alike t.vm) (hz : H.size ≤ t.heap.size) (hk : ∀ q : Nat, q < H.size → t.heap[q]? = H[q]?) : (va_P D cl ws t.heap ∧ va_K D cl tys t ∧ va_D A ws) ∧ va_F A s t :=
  ⟨⟨hP.kept (fun k q hq => hk q.1 (hP k q hq).lt), va_K.moved hvm hK, hD⟩, Nat.le_trans hS.1 hz, fun q h1 h2 => (hk q (Nat.lt_of_lt_of_le h1 hS.1)).trans (hS.2.1 q h1 h2)⟩
/-! worlds as sets of cells -/
theorem gx_P_iff {D : va_G} {cl : List vw_C} {ws : va_W} {H : Heap} : va_P D cl ws H ↔ ∀ q ∈ ws, va_at D cl q H :=
  ⟨fun h q hq => by obtain ⟨k, hk⟩ := List.getElem?_of_mem hq; exact h k q hk, fun h k q hk => h q (List.mem_of_getElem? hk)⟩
theorem gx_D_iff {A : Nat → Prop} {ws : va_W} : va_D A ws ↔ (ws.map Prod.fst).Nodup ∧ ∀ q ∈ ws, A q.1 := by
  constructor
  · intro h
    refine ⟨?_, fun q hq => by obtain ⟨k, hk⟩ := List.getElem?_of_mem hq; exact h.2 k q hk⟩
    rw [List.nodup_iff_pairwise_ne, List.pairwise_iff_getElem]
    intro i j hi hj hij he
    have hi' : i < ws.length := by simpa using hi
    have hj' : j < ws.length := by simpa using hj
    have := h.1 i j ws[i] ws[j] (List.getElem?_eq_getElem hi') (List.getElem?_eq_getElem hj') (by simpa using he)
    omega
  · intro h
    refine ⟨fun i j p q hi hj he => ?_, fun k q hk => h.2 q (List.mem_of_getElem? hk)⟩
    have h1 := h.1
    rw [List.nodup_iff_pairwise_ne, List.pairwise_iff_getElem] at h1
    obtain ⟨li, hi⟩ := List.getElem?_eq_some_iff.mp hi
    obtain ⟨lj, hj⟩ := List.getElem?_eq_some_iff.mp hj
    rcases Nat.lt_trichotomy i j with c | c | c
    · exact (h1 i j (by simpa using li) (by simpa using lj) c (by simp [hi, hj, he])).elim
    · exact c
    · exact (h1 j i (by simpa using lj) (by simpa using li) c (by simp [hi, hj, he])).elim
theorem gx_Pp {D : va_G} {cl : List vw_C} {ws ws' : va_W} {H : Heap} (p : ws.Perm ws') (h : va_P D cl ws H) : va_P D cl ws' H := gx_P_iff.mpr fun q hq => gx_P_iff.mp h q (p.mem_iff.mpr hq)
theorem gx_Dp {A : Nat → Prop} {ws ws' : va_W} (p : ws.Perm ws') (h : va_D A ws) : va_D A ws' := by
  obtain ⟨h1, h2⟩ := gx_D_iff.mp h
  exact gx_D_iff.mpr ⟨((p.map Prod.fst).nodup_iff).mp h1, fun q hq => h2 q (p.mem_iff.mpr hq)⟩
theorem gx_Ap {ws ws' : va_W} {sz : Nat} (p : ws.Perm ws') (q : Nat) : va_A ws sz q ↔ va_A ws' sz q := by
  have key : ∀ {w w' : va_W}, w.Perm w' → va_A w sz q → va_A w' sz q := by
    intro w w' p h
    rcases h with ⟨k, e, h⟩ | h
    · obtain ⟨k', hk'⟩ := List.getElem?_of_mem (p.mem_iff.mp (List.mem_of_getElem? h))
      exact Or.inl ⟨k', e, hk'⟩
    · exact Or.inr h
  exact ⟨key p, key p.symm⟩
theorem gx_sel {wp : va_W} {n : Nat} (hn : wp.length = n) : (List.range n).filterMap (fun i => wp[i]?) = wp := by
  subst hn
  induction wp with
  | nil => rfl
  | cons a l ih =>
    rw [List.length_cons, List.range_succ_eq_map, List.filterMap_cons, List.filterMap_map]
    simp only [List.getElem?_cons_zero]
    congr 1
theorem gx_perm {wp wp' : va_W} (is : List Nat) {n : Nat} (hn : wp.length = n) (hp : is.Perm (List.range n)) (hs : is.filterMap (fun i => wp[i]?) = wp') : wp.Perm wp' := by
  have h := hp.filterMap (fun i => wp[i]?)
  rw [hs, gx_sel hn] at h
  exact h.symm
/-- behind a call: the rest of the near cells, the callee's, and the far ones -/
theorem gx_joinT {A0 : Nat → Prop} {D : va_G} {cl : List vw_C} {wp wr wc wk w1 : va_W} {H H1 : Heap} (hP : va_P D cl (wp ++ wr) H) (hD : va_D A0 (wp ++ wr)) (isC isR : List Nat) {n : Nat} (hn : wp.length = n) (hC : isC.filterMap (fun i => wp[i]?) = wc) (hR : isR.filterMap (fun i => wp[i]?) = wk) (hp : (isC ++ isR).Perm (List.range n))
    (hk : ∀ q : Nat, q < H.size → ¬ va_A wc H.size q → H1[q]? = H[q]?) (hF : ∀ q, va_A wc H.size q → A0 q) (hP1 : va_P D cl w1 H1) (hD1 : va_D (va_A wc H.size) w1) : va_P D cl ((wk ++ w1) ++ wr) H1 ∧ va_D A0 ((wk ++ w1) ++ wr) := by
  have p1 : (wp ++ wr).Perm (wc ++ (wk ++ wr)) := by
    have h := gx_perm (wp := wp) (wp' := wc ++ wk) (isC ++ isR) hn hp (by rw [List.filterMap_append, hC, hR])
    rw [← List.append_assoc]
    exact h.append_right wr
  have hP' := gx_P_iff.mp (gx_Pp p1 hP)
  obtain ⟨n1, a1⟩ := gx_D_iff.mp (gx_Dp p1 hD)
  rw [List.map_append, List.nodup_append] at n1
  obtain ⟨nc, nr, nd⟩ := n1
  obtain ⟨m1, b1⟩ := gx_D_iff.mp hD1
  have far : ∀ q ∈ wk ++ wr, q.1 < H.size ∧ ¬ va_A wc H.size q.1 := by
    intro q hq
    have hl := (hP' q (List.mem_append_right _ hq)).lt
    refine ⟨hl, fun h => ?_⟩
    rcases h with ⟨k, e, h⟩ | h
    · exact nd q.1 (List.mem_map.mpr ⟨(q.1, e), List.mem_of_getElem? h, rfl⟩) q.1 (List.mem_map.mpr ⟨q, hq, rfl⟩) rfl
    · omega
  have p2 : (w1 ++ (wk ++ wr)).Perm ((wk ++ w1) ++ wr) := by
    rw [← List.append_assoc]
    exact List.perm_append_comm.append_right wr
  refine ⟨gx_Pp p2 (gx_P_iff.mpr fun q hq => ?_), gx_Dp p2 (gx_D_iff.mpr ⟨?_, fun q hq => ?_⟩)⟩
  · rcases List.mem_append.mp hq with h | h
    · exact gx_P_iff.mp hP1 q h
    · exact (hP' q (List.mem_append_right _ h)).kept (hk q.1 (far q h).1 (far q h).2)
  · rw [List.map_append, List.nodup_append]
    refine ⟨m1, nr, fun a ha b hb he => ?_⟩
    obtain ⟨x, hx, rfl⟩ := List.mem_map.mp ha
    obtain ⟨y, hy, rfl⟩ := List.mem_map.mp hb
    exact (far y hy).2 (by rw [← he]; exact b1 x hx)
  · rcases List.mem_append.mp hq with h | h
    · exact hF q.1 (b1 q h)
    · exact a1 q (List.mem_append_right _ h)
theorem gx_freeT {A0 : Nat → Prop} {wp wr wc : va_W} {H0 H : Heap} {locs : List Loc} (hD : va_D A0 (wp ++ wr)) (hS : va_S A0 H0 H locs) (hA : ∀ q, H0.size ≤ q → A0 q) (isC : List Nat) (hC : isC.filterMap (fun i => wp[i]?) = wc) : ∀ q, va_A wc H.size q → A0 q := by
  intro q h
  rcases h with ⟨k, e, h⟩ | h
  · have h1 := List.mem_of_getElem? h
    rw [← hC] at h1
    obtain ⟨i, -, hi⟩ := List.mem_filterMap.mp h1
    exact (gx_D_iff.mp hD).2 (q, e) (List.mem_append_left _ (List.mem_of_getElem? hi))
  · exact hA q (Nat.le_trans hS.1 h)
theorem gx_Bt : ∀ w ∈ gx_B, w.onTables = true := by decide +kernel
def gx_opt {α R : Type} (x : Option α) (a : Option R) (f : α → Option R) : Option R := match x with
  | none => a
  | some u => f u
theorem gx_none {α R : Type} {x : Option α} {a : Option R} {f : α → Option R} {r : R} (hx : x = none) (h : gx_opt x a f = some r) : a = some r := by subst hx; exact h
theorem gx_some {α R : Type} {x : Option α} {a : Option R} {f : α → Option R} {r : R} {u : α} (hx : x = some u) (h : gx_opt x a f = some r) : f u = some r := by subst hx; exact h

