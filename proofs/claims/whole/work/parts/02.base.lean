def gx_W : List Cond := lw_tbl.filter goodWord
theorem gx_w {c w : Cond} (h : w ∈ gx_W) : w ∈ c :: gx_W := List.mem_cons_of_mem _ h
theorem gx_in {c : Cond} {X : List Cond} (h : ∀ w ∈ X, w ∈ gx_W) : ∀ w ∈ X, w ∈ c :: gx_W := fun w hw => List.mem_cons_of_mem _ (h w hw)
theorem gx_good {c w : Cond} (h : w ∈ gx_W) : w ∈ c :: gx_W ∧ ((w.onTables && w.keeps) = true ∨ ∃ ty, w = .arrayClass ty) := ⟨gx_w h, good_of_word (List.mem_filter.mp h).2⟩
/-- a callee's words among the caller's -/
theorem gx_gi {c c' : Cond} (h : c' ∈ gx_W) : GoodIn (c :: gx_W) (c' :: gx_W) := fun w hw => by
  rcases List.mem_cons.mp hw with e | e
  · rw [e]; exact gx_good h
  · exact gx_good e
theorem gx_gV {c c' : Cond} {own C : String} {idx : Nat} {y : MethodName} (h : c' ∈ gx_W) (h1 : Cond.methodLink own idx y ∈ gx_W) (h2 : Cond.instanceMethod y ∈ gx_W) (h3 : Cond.selects C y y ∈ gx_W) (h4 : Cond.initialized C ∈ gx_W) : GoodIn (c :: gx_W) (wsV own idx C y (c' :: gx_W)) := fun w hw => by
  rcases List.mem_append.mp hw with e | e
  · simp only [List.mem_cons, List.not_mem_nil, or_false] at e
    rcases e with e | e | e | e <;> rw [e]
    · exact gx_good h1
    · exact gx_good h2
    · exact gx_good h3
    · exact gx_good h4
  · exact gx_gi h w e
theorem gx_gS {c c' : Cond} {own : String} {idx : Nat} {y : MethodName} (h : c' ∈ gx_W) (h1 : Cond.methodLink own idx y ∈ gx_W) (h2 : Cond.static y ∈ gx_W) (h4 : Cond.initialized y.cls ∈ gx_W) : GoodIn (c :: gx_W) (va_wsS own idx y (c' :: gx_W)) := fun w hw => by
  rcases List.mem_append.mp hw with e | e
  · simp only [List.mem_cons, List.not_mem_nil, or_false] at e
    rcases e with e | e | e <;> rw [e]
    · exact gx_good h1
    · exact gx_good h2
    · exact gx_good h4
  · exact gx_gi h w e
/-- the two links across the nest -/
def gx_E (U : State) : Prop := va_Nw (.methodLinkNest R_Water 58 y_TL_shareOf "TankLayers") U ∧ va_Nw (.methodLinkNest R_Tank 20 y_Rod_init "TankLayers") U
theorem gx_E.warm {s U : State} (h : gx_E s) (hW : s.WarmedH U.vm) : gx_E U := ⟨va_Nw.warmM hW h.1, va_Nw.warmM hW h.2⟩
theorem gx_E.calls {U : State} {g : JFrame} {mk : MethodId} {a : Array Value} (h : gx_E U) : gx_E (U.calling g mk a) := ⟨va_Nw.same rfl (u := U) rfl h.1, va_Nw.same rfl (u := U) rfl h.2⟩
/-- loops: the steps by their number -/
def gx_fx {S R : Type} (step : (S → Option R) → S → Option R) : Nat → S → Option R
  | 0, _ => none
  | n + 1, z => step (gx_fx step n) z
theorem gx_fx0 {S R : Type} {step : (S → Option R) → S → Option R} {z : S} {r : R} {P : Prop} (h : gx_fx step 0 z = some r) : P := nomatch (show (none : Option R) = some r from h)
def gx_inb (i : Int32) (n : Nat) : Bool := decide (0 ≤ i.toInt ∧ i.toInt < (n : Int))
theorem gx_inb_of {R : Type} {i : Int32} {n : Nat} {T : Option R} {r : R} (h : (if gx_inb i n = true then T else none) = some r) : vp_in i n ∧ T = some r := by
  by_cases c : gx_inb i n = true
  · rw [if_pos c] at h
    exact ⟨vp_in_iff.mpr (of_decide_eq_true c), h⟩
  · rw [if_neg c] at h; cases h
theorem gx_nz_of {R : Type} {P : Prop} [Decidable P] {T : Option R} {r : R} (h : (if P then none else T) = some r) : ¬ P ∧ T = some r := by
  by_cases c : P
  · rw [if_pos c] at h; cases h
  · rw [if_neg c] at h; exact ⟨c, h⟩
theorem gx_pos {R : Type} {P : Prop} [Decidable P] {a b : Option R} {r : R} (c : P) (h : (if P then a else b) = some r) : a = some r := by rw [if_pos c] at h; exact h
theorem gx_neg {R : Type} {P : Prop} [Decidable P] {a b : Option R} {r : R} (c : ¬ P) (h : (if P then a else b) = some r) : b = some r := by rw [if_neg c] at h; exact h
theorem gx_bind {α R : Type} {x : Option α} {f : α → Option R} {r : R} (h : x.bind f = some r) : ∃ u, x = some u ∧ f u = some r := by
  cases x with
  | none => cases h
  | some u => exact ⟨u, rfl, h⟩
theorem gx_free {A0 : Nat → Prop} {ws : va_W} {H0 H : Heap} {locs : List Loc} (hD : va_D A0 ws) (hS : va_S A0 H0 H locs) (hA : ∀ q, H0.size ≤ q → A0 q) : ∀ q, va_A ws H.size q → A0 q := by
  intro q h
  rcases h with ⟨k, e, h⟩ | h
  · exact hD.2 k (q, e) h
  · exact hA q (Nat.le_trans hS.1 h)
theorem gx_if_of {R : Type} {P : Prop} [Decidable P] {T : Option R} {r : R} (h : (if P then T else none) = some r) : P ∧ T = some r := by
  by_cases c : P
  · rw [if_pos c] at h; exact ⟨c, h⟩
  · rw [if_neg c] at h; cases h
theorem gx_nb {r : Int32} (h : vp_nar .boolean r = r) : narrow .boolean (.int r) = .int r := congrArg Value.int h

theorem i_TL : ∀ w ∈ w_TL, w ∈ gx_W := fun w h => List.mem_filter.mpr ⟨(by decide +kernel : ∀ w ∈ w_TL, w ∈ lw_tbl) w h, (by decide +kernel : ∀ w ∈ w_TL, goodWord w = true) w h⟩
theorem i_Tank : ∀ w ∈ w_Tank, w ∈ gx_W := fun w h => List.mem_filter.mpr ⟨(by decide +kernel : ∀ w ∈ w_Tank, w ∈ lw_tbl) w h, (by decide +kernel : ∀ w ∈ w_Tank, goodWord w = true) w h⟩
theorem i_Water : ∀ w ∈ w_Water, w ∈ gx_W := fun w h => List.mem_filter.mpr ⟨(by decide +kernel : ∀ w ∈ w_Water, w ∈ lw_tbl) w h, (by decide +kernel : ∀ w ∈ w_Water, goodWord w = true) w h⟩
theorem i_Rod : ∀ w ∈ w_Rod, w ∈ gx_W := fun w h => List.mem_filter.mpr ⟨(by decide +kernel : ∀ w ∈ w_Rod, w ∈ lw_tbl) w h, (by decide +kernel : ∀ w ∈ w_Rod, goodWord w = true) w h⟩
theorem i_Loss : ∀ w ∈ w_Loss, w ∈ gx_W := fun w h => List.mem_filter.mpr ⟨(by decide +kernel : ∀ w ∈ w_Loss, w ∈ lw_tbl) w h, (by decide +kernel : ∀ w ∈ w_Loss, goodWord w = true) w h⟩
theorem i_Time : ∀ w ∈ w_Time, w ∈ gx_W := fun w h => List.mem_filter.mpr ⟨(by decide +kernel : ∀ w ∈ w_Time, w ∈ lw_tbl) w h, (by decide +kernel : ∀ w ∈ w_Time, goodWord w = true) w h⟩
theorem i_Mod : ∀ w ∈ w_Mod, w ∈ gx_W := fun w h => List.mem_filter.mpr ⟨(by decide +kernel : ∀ w ∈ w_Mod, w ∈ lw_tbl) w h, (by decide +kernel : ∀ w ∈ w_Mod, goodWord w = true) w h⟩
