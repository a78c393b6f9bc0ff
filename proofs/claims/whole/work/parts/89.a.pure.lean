def mz : Int32 × Int32 × Int32 × Int32 × (Nat → Int32) × (Nat → Int32) × (Nat → Int64) × (Nat → Int64) × (Nat → Int32) × (Nat → Int32) × (Nat → Int32) × (Nat → Int32) × (Nat → Int32) × (Nat → Int32) × (Nat → Int32) × (Nat → Int32) × (Nat → Int32) × (Nat → Int32) × (Nat → Int32) × (Nat → Int32) × (Nat → Int64) × (Nat → Int64) × (Nat → Int64) × (Nat → Int64) × (Nat → Int32) := (0, 0, 0, 0, fun _ => 0, fun _ => 0, fun _ => 0, fun _ => 0, fun _ => 0, fun _ => 0, fun _ => 0, fun _ => 0, fun _ => 0, fun _ => 0, fun _ => 0, fun _ => 0, fun _ => 0, fun _ => 0, fun _ => 0, fun _ => 0, fun _ => 0, fun _ => 0, fun _ => 0, fun _ => 0, fun _ => 0)
theorem inv0 : INV 0 0 0 (fun _ => 0) 0 0 0 (fun _ => none) [] 0 0 0 (fun _ => 0) (fun _ => 0) (fun _ => 0) (fun _ => 0) (fun _ => 0) (fun _ => 0) (fun _ => 0) (fun _ => 0) (fun _ => 0) (fun _ => 0) (fun _ => 0) (fun _ => 0) (fun _ => 0) (fun _ => 0) (fun _ => 0) (fun _ => 0) (fun _ => 0) (fun _ => 0) (fun _ => 0) (fun _ => 0) (fun _ => 0) := by
  refine ⟨Nat.zero_le _, rfl, ?_, ?_, rfl, by decide, by decide, ?_, ?_, Nat.zero_le _, fun t _ => ?_, fun t z h => ?_, fun t _ _ => ⟨fun _ _ => rfl, rfl, rfl, rfl, rfl, rfl, rfl, rfl, rfl, rfl, rfl, rfl, rfl, rfl, rfl, rfl⟩, fun _ _ => rfl, ?_⟩
  · decide
  · decide
  · decide
  · decide
  · simp
  · simp at h
  · simp
section ST
variable {s : State} {b : Nat}
abbrev lw_any (s : State) (b : Nat) : Prop := ∀ w : Cond, (w ∈ lw_tbl ∨ w ∈ flatC (Jvm.Cond.and given_1 narrow_1)) → w.before #[Value.ref b] s = true
theorem lw_E (h : lw_any s b) : gx_E s := ⟨va_Nw.of rfl (h _ (by decide +kernel)), va_Nw.of rfl (h _ (by decide +kernel))⟩
theorem lw_Bin : ∀ w ∈ gx_B, w ∈ lw_tbl ∨ w ∈ flatC (Jvm.Cond.and given_1 narrow_1) := by decide +kernel
theorem lw_Tin : ∀ q ∈ gx_txt, Cond.stringRef R_TL q.1 q.2 ∈ lw_tbl ∨ Cond.stringRef R_TL q.1 q.2 ∈ flatC (Jvm.Cond.and given_1 narrow_1) := by decide +kernel
theorem lw_XX (h : lw_any s b) {c0 : ClassId} (hc : s.vm.findClass R_TL = some c0) : gx_X (fun q : Nat => s.heap.size ≤ q) s := by
  refine ⟨fun w hw => va_Nw.of (gx_Bt w hw) (h w (lw_Bin w hw)), ?_, ?_, fun q hq => ?_⟩
  · exact vx_Zqof (h _ (by decide +kernel)) (h _ (by decide +kernel)) (h _ (by decide +kernel)) (fun a h9 => Nat.not_le.mpr h9)
  · exact vx_Zqof (h _ (by decide +kernel)) (h _ (by decide +kernel)) (h _ (by decide +kernel)) (fun a h9 => Nat.not_le.mpr h9)
  · have h1 := h _ (lw_Tin q hq)
    obtain ⟨k, cf, i, a, -, -, -, -, -, hev⟩ := Cond.stringRef_spec hc h1
    exact ⟨a, vk_R.of h1 hev⟩
theorem lw_N (h : lw_any s b) : va_Nc "java/lang/IllegalStateException" "java/lang/IllegalArgumentException" s := va_Nc.of (h _ (by decide +kernel))
theorem lw_AO (h : lw_any s b) : va_AO R_Tank s := va_AO.of (h (.arrayOver (.object R_Tank)) (by decide +kernel))
end ST
