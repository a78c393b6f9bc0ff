theorem tn_eq {N : Nat} {p1 xn xcold xtime : Int32} {xf : Nat → Option Nat} {a b : Nat} (h : fn_TL_tankNumbered N p1 xn xcold xtime xf = some (.inr a)) (hs : xf p1.toNatClampNeg = some b) : a = b := by
  unfold fn_TL_tankNumbered at h
  rw [hs] at h
  simp only [gx_opt] at h
  repeat' split at h
  all_goals first | (cases h; rfl) | cases h
