abbrev Lay := Nat × Int64
def jn (x y : Lay) : Lay := (x.1 + y.1, x.2 + y.2)
def wm (x y : Lay) : Bool := decide (¬ (x.2 * i6 y.1 < y.2 * i6 x.1))
def vol : List Lay → Nat
  | [] => 0
  | x :: L => x.1 + vol L
def hsm : List Lay → Int64
  | [] => 0
  | x :: L => x.2 + hsm L
def cutL : Nat → List Lay → List Lay × List Lay
  | _, [] => ([], [])
  | h, x :: L => if h = 0 then ([], x :: L) else if h < x.1 then ([(h, dn (x.2 * i6 h) (i6 x.1))], (x.1 - h, x.2 - dn (x.2 * i6 h) (i6 x.1)) :: L) else (x :: (cutL (h - x.1) L).1, (cutL (h - x.1) L).2)
def psh : List Lay → Lay → List Lay
  | [], x => [x]
  | y :: s, x => if wm y x = true then psh s (jn y x) else x :: y :: s
def limN : Nat → List Lay → List Lay
  | 0, L => L
  | _ + 1, [] => []
  | _ + 1, [x] => [x]
  | n + 1, x :: y :: L => limN n (jn x y :: L)
def mixL (L : List Lay) : List Lay := limN ((L.foldl psh []).length - 40) (L.foldl psh []).reverse
def Pv (L : List Lay) : Prop := ∀ x ∈ L, 1 ≤ x.1
theorem vol_app (A B : List Lay) : vol (A ++ B) = vol A + vol B := by
  induction A with
  | nil => simp [vol]
  | cons x A ih => simp only [List.cons_append, vol, ih]; omega
theorem hsm_app (A B : List Lay) : hsm (A ++ B) = hsm A + hsm B := by
  induction A with
  | nil => simp [hsm]
  | cons x A ih => simp only [List.cons_append, hsm, ih, Int64.add_assoc]
theorem vol_rev (A : List Lay) : vol A.reverse = vol A := by
  induction A with
  | nil => rfl
  | cons x A ih => simp only [List.reverse_cons, vol_app, vol, ih]; omega
theorem vol_psh (s : List Lay) (x : Lay) : vol (psh s x) = vol s + x.1 := by
  induction s generalizing x with
  | nil => simp [psh, vol]
  | cons y s ih =>
    unfold psh
    split
    · rw [ih]; simp only [jn, vol]; omega
    · simp only [vol]; omega
theorem vol_fold (R s : List Lay) : vol (R.foldl psh s) = vol s + vol R := by
  induction R generalizing s with
  | nil => simp [vol]
  | cons x R ih => simp only [List.foldl_cons, ih, vol_psh, vol]; omega
theorem len_psh (s : List Lay) (x : Lay) : (psh s x).length ≤ s.length + 1 := by
  induction s generalizing x with
  | nil => simp [psh]
  | cons y s ih =>
    unfold psh
    split
    · have := ih (jn y x); simp only [List.length_cons]; omega
    · simp
theorem len_fold (R s : List Lay) : (R.foldl psh s).length ≤ s.length + R.length := by
  induction R generalizing s with
  | nil => simp
  | cons x R ih =>
    have h1 := ih (psh s x)
    have h2 := len_psh s x
    simp only [List.foldl_cons, List.length_cons]
    omega
theorem Pv.cons {x : Lay} {L : List Lay} (h : Pv (x :: L)) : 1 ≤ x.1 ∧ Pv L := ⟨h x List.mem_cons_self, fun y hy => h y (List.mem_cons_of_mem _ hy)⟩
theorem Pv.mk {x : Lay} {L : List Lay} (h : 1 ≤ x.1) (h' : Pv L) : Pv (x :: L) := fun y hy => by
  rcases List.mem_cons.mp hy with e | e
  · rw [e]; exact h
  · exact h' y e
theorem Pv.app {A B : List Lay} (h : Pv A) (h' : Pv B) : Pv (A ++ B) := fun y hy => (List.mem_append.mp hy).elim (h y) (h' y)
theorem Pv.left {A B : List Lay} (h : Pv (A ++ B)) : Pv A := fun y hy => h y (List.mem_append_left _ hy)
theorem Pv.right {A B : List Lay} (h : Pv (A ++ B)) : Pv B := fun y hy => h y (List.mem_append_right _ hy)
def Rg {V : Type} (c : Nat → V) (f : Nat → V) (g : Nat → Int64) : Nat → List Lay → Prop
  | _, [] => True
  | b, x :: L => f b = c x.1 ∧ g b = x.2 ∧ Rg c f g (b + 1) L
theorem Rg.app {V : Type} {c f : Nat → V} {g : Nat → Int64} (A B : List Lay) (b : Nat) : Rg c f g b (A ++ B) ↔ Rg c f g b A ∧ Rg c f g (b + A.length) B := by
  induction A generalizing b with
  | nil => simp [Rg]
  | cons x A ih =>
    simp only [List.cons_append, Rg, List.length_cons, ih, and_assoc]
    rw [show b + 1 + A.length = b + (A.length + 1) by omega]
theorem Rg.move {V : Type} {c f f' : Nat → V} {g g' : Nat → Int64} {L : List Lay} {b b' : Nat} (h : Rg c f g b L) (he : ∀ i, i < L.length → f' (b' + i) = f (b + i) ∧ g' (b' + i) = g (b + i)) : Rg c f' g' b' L := by
  induction L generalizing b b' with
  | nil => trivial
  | cons x L ih =>
    obtain ⟨h1, h2, h3⟩ := h
    have e0 := he 0 (by simp)
    refine ⟨e0.1.trans h1, e0.2.trans h2, ih h3 fun i hi => ?_⟩
    have := he (i + 1) (by simp only [List.length_cons]; omega)
    rw [show b' + 1 + i = b' + (i + 1) by omega, show b + 1 + i = b + (i + 1) by omega]
    exact this
theorem Rg.get {V : Type} {c f : Nat → V} {g : Nat → Int64} {L : List Lay} {b : Nat} (h : Rg c f g b L) {k : Nat} {x : Lay} (hk : L[k]? = some x) : f (b + k) = c x.1 ∧ g (b + k) = x.2 := by
  induction L generalizing b k with
  | nil => simp at hk
  | cons y L ih =>
    cases k with
    | zero =>
      simp only [List.getElem?_cons_zero, Option.some.injEq] at hk
      subst hk
      exact ⟨h.1, h.2.1⟩
    | succ k =>
      rw [List.getElem?_cons_succ] at hk
      have := ih h.2.2 hk
      rw [show b + 1 + k = b + (k + 1) by omega] at this
      exact this
def Up {α : Type} (f f' : Nat → α) (lo n : Nat) : Prop := ∀ i, f' i = if lo < i ∧ i ≤ n then f (i - 1) else f i
def Dw {α : Type} (f f' : Nat → α) (d lo hi : Nat) : Prop := ∀ i, f' i = if lo ≤ i + d ∧ i + d < hi then f (i + d) else f i
theorem Rg.ins {V : Type} {c f f' F : Nat → V} {g g' G : Nat → Int64} {A B : List Lay} {b lo n : Nat} (x : Lay) (hR : Rg c f g b (A ++ B)) (hlo : lo = b + A.length) (hn : n = b + A.length + B.length) (hf : Up f f' lo n) (hg : Up g g' lo n) (hF : ∀ i, F i = if i = lo then c x.1 else f' i) (hG : ∀ i, G i = if i = lo then x.2 else g' i) : Rg c F G b (A ++ x :: B) := by
  obtain ⟨hA, hB⟩ := (Rg.app A B b).mp hR
  refine (Rg.app A (x :: B) b).mpr ⟨hA.move fun i hi => ?_, ?_, ?_, hB.move fun i hi => ?_⟩
  · rw [hF, hG, if_neg (by omega), if_neg (by omega), hf, hg, if_neg (by omega), if_neg (by omega)]
    exact ⟨rfl, rfl⟩
  · rw [hF, if_pos hlo.symm]
  · rw [hG, if_pos hlo.symm]
  · rw [hF, hG, if_neg (by omega), if_neg (by omega), hf, hg, if_pos (by omega), if_pos (by omega), show b + A.length + 1 + i - 1 = b + A.length + i by omega]
    exact ⟨rfl, rfl⟩
theorem Rg.gone {V : Type} {c f f' : Nat → V} {g g' : Nat → Int64} {A B : List Lay} {b d lo hi : Nat} (hR : Rg c f g b (A ++ B)) (hd : d = A.length) (hlo : lo = b + A.length) (hn : hi = b + A.length + B.length) (hf : Dw f f' d lo hi) (hg : Dw g g' d lo hi) : Rg c f' g' b B := by
  obtain ⟨hA, hB⟩ := (Rg.app A B b).mp hR
  refine hB.move fun i hi => ?_
  rw [hf, hg, if_pos (by omega), if_pos (by omega), show b + i + d = b + A.length + i by omega]
  exact ⟨rfl, rfl⟩
theorem Rg.rem {V : Type} {c f f' : Nat → V} {g g' : Nat → Int64} {A B : List Lay} {x : Lay} {b lo hi : Nat} (hR : Rg c f g b (A ++ x :: B)) (hlo : lo = b + A.length + 1) (hn : hi = b + A.length + 1 + B.length) (hf : Dw f f' 1 lo hi) (hg : Dw g g' 1 lo hi) : Rg c f' g' b (A ++ B) := by
  obtain ⟨hA, h1, h2, hB⟩ := (Rg.app A (x :: B) b).mp hR
  refine (Rg.app A B b).mpr ⟨hA.move fun i hi => ?_, hB.move fun i hi => ?_⟩
  · rw [hf, hg, if_neg (by omega), if_neg (by omega)]
    exact ⟨rfl, rfl⟩
  · rw [hf, hg, if_pos (by omega), if_pos (by omega), show b + A.length + i + 1 = b + A.length + 1 + i by omega]
    exact ⟨rfl, rfl⟩
theorem Rg.put {V : Type} {c f F : Nat → V} {g G : Nat → Int64} {A B : List Lay} {x y : Lay} {b p : Nat} (hR : Rg c f g b (A ++ x :: B)) (hp : p = b + A.length) (hF : ∀ i, F i = if i = p then c y.1 else f i) (hG : ∀ i, G i = if i = p then y.2 else g i) : Rg c F G b (A ++ y :: B) := by
  obtain ⟨hA, h1, h2, hB⟩ := (Rg.app A (x :: B) b).mp hR
  refine (Rg.app A (y :: B) b).mpr ⟨hA.move fun i hi => ?_, ?_, ?_, hB.move fun i hi => ?_⟩
  · rw [hF, hG, if_neg (by omega), if_neg (by omega)]; exact ⟨rfl, rfl⟩
  · rw [hF, if_pos hp.symm]
  · rw [hG, if_pos hp.symm]
  · rw [hF, hG, if_neg (by omega), if_neg (by omega)]; exact ⟨rfl, rfl⟩
def sj (L : List Lay) : Lay := (vol L, hsm L)
theorem limN_sum (A B : List Lay) (x : Lay) : limN A.length (A ++ x :: B) = sj (A ++ [x]) :: B := by
  generalize hn : A.length = n
  induction n generalizing A with
  | zero =>
    have : A = [] := List.eq_nil_of_length_eq_zero hn
    subst this
    simp [limN, sj, vol, hsm]
  | succ n ih =>
    match A, hn with
    | [a], hn =>
      have : n = 0 := by simpa using hn.symm
      subst this
      simp [limN, sj, vol, hsm, jn]
    | a :: a' :: A, hn =>
      have h := ih (jn a a' :: A) (by simp only [List.length_cons] at hn ⊢; omega)
      simp only [List.cons_append, limN] at h ⊢
      rw [h]
      simp only [sj, vol, hsm, jn, Int64.add_assoc, Nat.add_assoc]
theorem hsm_comm (A : List Lay) (x : Lay) : sj (A ++ [x]) = (x.1 + vol A, x.2 + hsm A) := by
  simp only [sj, vol_app, hsm_app, vol, hsm, Nat.add_zero, Int64.add_zero]
  rw [Nat.add_comm, Int64.add_comm]
