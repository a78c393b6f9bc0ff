theorem mw_164 : (Cond.methodLink R_Tank 1 objectInit) ∈ gx_W := List.mem_filter.mpr ⟨List.mem_of_getElem? (i := 164) (by decide +kernel), by decide +kernel⟩
theorem mw_165 : (Cond.classLink R_Tank 7 R_Water) ∈ gx_W := List.mem_filter.mpr ⟨List.mem_of_getElem? (i := 165) (by decide +kernel), by decide +kernel⟩
theorem mw_166 : (Cond.instantiable R_Water 4) ∈ gx_W := List.mem_filter.mpr ⟨List.mem_of_getElem? (i := 166) (by decide +kernel), by decide +kernel⟩
theorem mw_169 : (Cond.code y_Water_init b_Water_init 3 none) ∈ gx_W := List.mem_filter.mpr ⟨List.mem_of_getElem? (i := 169) (by decide +kernel), by decide +kernel⟩
theorem mw_167 : (Cond.methodLink R_Tank 9 y_Water_init) ∈ gx_W := List.mem_filter.mpr ⟨List.mem_of_getElem? (i := 167) (by decide +kernel), by decide +kernel⟩
theorem mw_168 : (Cond.instanceMethod y_Water_init) ∈ gx_W := List.mem_filter.mpr ⟨List.mem_of_getElem? (i := 168) (by decide +kernel), by decide +kernel⟩
theorem mw_190 : (Cond.classLink R_Tank 18 R_Rod) ∈ gx_W := List.mem_filter.mpr ⟨List.mem_of_getElem? (i := 190) (by decide +kernel), by decide +kernel⟩
theorem mw_191 : (Cond.instantiable R_Rod 9) ∈ gx_W := List.mem_filter.mpr ⟨List.mem_of_getElem? (i := 191) (by decide +kernel), by decide +kernel⟩
theorem mw_194 : (Cond.code y_Rod_init b_Rod_init 1 none) ∈ gx_W := List.mem_filter.mpr ⟨List.mem_of_getElem? (i := 194) (by decide +kernel), by decide +kernel⟩
theorem mw_193 : (Cond.instanceMethod y_Rod_init) ∈ gx_W := List.mem_filter.mpr ⟨List.mem_of_getElem? (i := 193) (by decide +kernel), by decide +kernel⟩
theorem mw_227 : (Cond.classLink R_Tank 25 R_Loss) ∈ gx_W := List.mem_filter.mpr ⟨List.mem_of_getElem? (i := 227) (by decide +kernel), by decide +kernel⟩
theorem mw_228 : (Cond.instantiable R_Loss 4) ∈ gx_W := List.mem_filter.mpr ⟨List.mem_of_getElem? (i := 228) (by decide +kernel), by decide +kernel⟩
theorem mw_231 : (Cond.code y_Loss_init b_Loss_init 1 none) ∈ gx_W := List.mem_filter.mpr ⟨List.mem_of_getElem? (i := 231) (by decide +kernel), by decide +kernel⟩
theorem mw_229 : (Cond.methodLink R_Tank 27 y_Loss_init) ∈ gx_W := List.mem_filter.mpr ⟨List.mem_of_getElem? (i := 229) (by decide +kernel), by decide +kernel⟩
theorem mw_230 : (Cond.instanceMethod y_Loss_init) ∈ gx_W := List.mem_filter.mpr ⟨List.mem_of_getElem? (i := 230) (by decide +kernel), by decide +kernel⟩
theorem mw_250 : (Cond.classLink R_Tank 32 R_Time) ∈ gx_W := List.mem_filter.mpr ⟨List.mem_of_getElem? (i := 250) (by decide +kernel), by decide +kernel⟩
theorem mw_251 : (Cond.instantiable R_Time 3) ∈ gx_W := List.mem_filter.mpr ⟨List.mem_of_getElem? (i := 251) (by decide +kernel), by decide +kernel⟩
theorem mw_254 : (Cond.code y_Time_init b_Time_init 1 none) ∈ gx_W := List.mem_filter.mpr ⟨List.mem_of_getElem? (i := 254) (by decide +kernel), by decide +kernel⟩
theorem mw_252 : (Cond.methodLink R_Tank 34 y_Time_init) ∈ gx_W := List.mem_filter.mpr ⟨List.mem_of_getElem? (i := 252) (by decide +kernel), by decide +kernel⟩
theorem mw_253 : (Cond.instanceMethod y_Time_init) ∈ gx_W := List.mem_filter.mpr ⟨List.mem_of_getElem? (i := 253) (by decide +kernel), by decide +kernel⟩
theorem mw_42 : (Cond.methodLink R_TL 3 objectInit) ∈ gx_W := List.mem_filter.mpr ⟨List.mem_of_getElem? (i := 42) (by decide +kernel), by decide +kernel⟩
theorem mw_45 : (Cond.classLink R_TL 9 R_Tank) ∈ gx_W := List.mem_filter.mpr ⟨List.mem_of_getElem? (i := 45) (by decide +kernel), by decide +kernel⟩
theorem mw_48 : (Cond.fieldLink R_TL 15 "TankLayers" "tankCount" "I") ∈ gx_W := List.mem_filter.mpr ⟨List.mem_of_getElem? (i := 48) (by decide +kernel), by decide +kernel⟩
theorem mw_50 : (Cond.fieldLink R_TL 22 "TankLayers" "time" "I") ∈ gx_W := List.mem_filter.mpr ⟨List.mem_of_getElem? (i := 50) (by decide +kernel), by decide +kernel⟩
theorem d_Tank_init_0 : decode b_Tank_init 0 = .ok (.aload_n 0, 1) := by decide +kernel
theorem d_Tank_init_1 : decode b_Tank_init 1 = .ok (.invokespecial 1, 3) := by decide +kernel
theorem d_Tank_init_4 : decode b_Tank_init 4 = .ok (.aload_n 0, 1) := by decide +kernel
theorem d_Tank_init_5 : decode b_Tank_init 5 = .ok (.new 7, 3) := by decide +kernel
theorem d_Tank_init_8 : decode b_Tank_init 8 = .ok (.dup, 1) := by decide +kernel
theorem d_Tank_init_9 : decode b_Tank_init 9 = .ok (.iload_n 1, 1) := by decide +kernel
theorem d_Tank_init_10 : decode b_Tank_init 10 = .ok (.iload_n 2, 1) := by decide +kernel
theorem d_Tank_init_11 : decode b_Tank_init 11 = .ok (.invokespecial 9, 3) := by decide +kernel
theorem d_Tank_init_14 : decode b_Tank_init 14 = .ok (.putfield 12, 3) := by decide +kernel
theorem d_Tank_init_17 : decode b_Tank_init 17 = .ok (.aload_n 0, 1) := by decide +kernel
theorem d_Tank_init_18 : decode b_Tank_init 18 = .ok (.new 18, 3) := by decide +kernel
theorem d_Tank_init_21 : decode b_Tank_init 21 = .ok (.dup, 1) := by decide +kernel
theorem d_Tank_init_22 : decode b_Tank_init 22 = .ok (.invokespecial 20, 3) := by decide +kernel
theorem d_Tank_init_25 : decode b_Tank_init 25 = .ok (.putfield 21, 3) := by decide +kernel
theorem d_Tank_init_28 : decode b_Tank_init 28 = .ok (.aload_n 0, 1) := by decide +kernel
theorem d_Tank_init_29 : decode b_Tank_init 29 = .ok (.new 25, 3) := by decide +kernel
theorem d_Tank_init_32 : decode b_Tank_init 32 = .ok (.dup, 1) := by decide +kernel
theorem d_Tank_init_33 : decode b_Tank_init 33 = .ok (.invokespecial 27, 3) := by decide +kernel
theorem d_Tank_init_36 : decode b_Tank_init 36 = .ok (.putfield 28, 3) := by decide +kernel
theorem d_Tank_init_39 : decode b_Tank_init 39 = .ok (.aload_n 0, 1) := by decide +kernel
theorem d_Tank_init_40 : decode b_Tank_init 40 = .ok (.new 32, 3) := by decide +kernel
theorem d_Tank_init_43 : decode b_Tank_init 43 = .ok (.dup, 1) := by decide +kernel
theorem d_Tank_init_44 : decode b_Tank_init 44 = .ok (.invokespecial 34, 3) := by decide +kernel
theorem d_Tank_init_47 : decode b_Tank_init 47 = .ok (.putfield 35, 3) := by decide +kernel
theorem d_Tank_init_50 : decode b_Tank_init 50 = .ok (.return_, 1) := by decide +kernel
theorem d_TL_init_0 : decode b_TL_init 0 = .ok (.aload_n 0, 1) := by decide +kernel
theorem d_TL_init_1 : decode b_TL_init 1 = .ok (.invokespecial 3, 3) := by decide +kernel
theorem d_TL_init_4 : decode b_TL_init 4 = .ok (.aload_n 0, 1) := by decide +kernel
theorem d_TL_init_5 : decode b_TL_init 5 = .ok (.iconst 4, 1) := by decide +kernel
theorem d_TL_init_6 : decode b_TL_init 6 = .ok (.anewarray 9, 3) := by decide +kernel
theorem d_TL_init_9 : decode b_TL_init 9 = .ok (.putfield 11, 3) := by decide +kernel
theorem d_TL_init_12 : decode b_TL_init 12 = .ok (.aload_n 0, 1) := by decide +kernel
theorem d_TL_init_13 : decode b_TL_init 13 = .ok (.iconst 0, 1) := by decide +kernel
theorem d_TL_init_14 : decode b_TL_init 14 = .ok (.putfield 15, 3) := by decide +kernel
theorem d_TL_init_17 : decode b_TL_init 17 = .ok (.aload_n 0, 1) := by decide +kernel
theorem d_TL_init_18 : decode b_TL_init 18 = .ok (.iconst 0, 1) := by decide +kernel
theorem d_TL_init_19 : decode b_TL_init 19 = .ok (.putfield 19, 3) := by decide +kernel
theorem d_TL_init_22 : decode b_TL_init 22 = .ok (.aload_n 0, 1) := by decide +kernel
theorem d_TL_init_23 : decode b_TL_init 23 = .ok (.iconst 0, 1) := by decide +kernel
theorem d_TL_init_24 : decode b_TL_init 24 = .ok (.putfield 22, 3) := by decide +kernel
theorem d_TL_init_27 : decode b_TL_init 27 = .ok (.return_, 1) := by decide +kernel
def fn_Tank_init (N : Nat) (p1 : Int32) (p2 : Int32) : Option (Int64 × Int64 × Int32 × Int32 × (Nat → Int32) × (Nat → Int64) × Int32 × Int32 × Int32 × Int32 × Int32 × Int32 × Int32 × Int64 × Int32 × Int32 × Int32 × Int32 × Int64 × Int32 × (Nat → Int32) × (Nat → Int32)) :=
  (fn_Water_init N p1 p2).bind (fun ur2 => (fn_Rod_init N 0 0 0 0 0 0 0 0 0).bind (fun ur4 => (fn_Loss_init N 0 0 0 0).bind (fun ur6 => (fn_Time_init N ).bind (fun ur8 => some (0, 0, ur2.1, ur2.2.1, ur2.2.2.1, ur2.2.2.2, ur4.1, ur4.2.1, ur4.2.2.1, ur4.2.2.2.1, ur4.2.2.2.2.1, ur4.2.2.2.2.2.1, ur4.2.2.2.2.2.2.1, ur4.2.2.2.2.2.2.2.1, ur4.2.2.2.2.2.2.2.2, ur6.1, ur6.2.1, ur6.2.2.1, ur6.2.2.2, ur8.1, ur8.2.1, ur8.2.2)))))
def w_Tank_init : List Cond := .code y_Tank_init b_Tank_init 3 none :: gx_W
set_option maxHeartbeats 4000000 in
set_option maxRecDepth 100000 in
theorem c_Tank_init (N : Nat) (l : Launch) (dC : Nat → ClassId) (dI : Nat → Nat → Nat) (h0 : Nat) (sz : Nat) (p1 : Int32) (p2 : Int32) (res : Int64 × Int64 × Int32 × Int32 × (Nat → Int32) × (Nat → Int64) × Int32 × Int32 × Int32 × Int32 × Int32 × Int32 × Int32 × Int64 × Int32 × Int32 × Int32 × Int32 × Int64 × Int32 × (Nat → Int32) × (Nat → Int32)) (h : fn_Tank_init N p1 p2 = some res) : Met l y_Tank_init w_Tank_init ({ frames := 2, cells := 8, slots := 186, locals := 44 } : Room) (va_Pc [.ref h0, .int p1, .int p2] (fun U => U.heap.size = sz ∧ va_P (dC, dI) classes [(h0, .inr (1, [.null, .null, .null, .null, .long 0, .long 0]))] U.heap ∧ va_K (dC, dI) classes [] U ∧ va_D (fun _ => True) [(h0, .inr (1, [.null, .null, .null, .null, .long 0, .long 0]))] ∧ gx_E U)) (va_Qv (fun _ : Nat × Nat × Nat × Nat × Nat × Nat × Nat × Nat × ClassId × ClassId × ClassId × ClassId => True) (fun u t => va_P (dC, dI) classes [(h0, .inr (1, [.ref u.1, .ref u.2.2.2.1, .ref u.2.2.2.2.1, .ref u.2.2.2.2.2.1, .long res.1, .long res.2.1])), (u.1, .inr (2, [.int res.2.2.1, .ref u.2.1, .ref u.2.2.1, .int res.2.2.2.1])), (u.2.1, .inl (u.2.2.2.2.2.2.2.2.1, 42, .inl res.2.2.2.2.1)), (u.2.2.1, .inl (u.2.2.2.2.2.2.2.2.2.1, 42, .inr (.inl res.2.2.2.2.2.1))), (u.2.2.2.1, .inr (3, [.int res.2.2.2.2.2.2.1, .int res.2.2.2.2.2.2.2.1, .int res.2.2.2.2.2.2.2.2.1, .int res.2.2.2.2.2.2.2.2.2.1, .int res.2.2.2.2.2.2.2.2.2.2.1, .int res.2.2.2.2.2.2.2.2.2.2.2.1, .int res.2.2.2.2.2.2.2.2.2.2.2.2.1, .long res.2.2.2.2.2.2.2.2.2.2.2.2.2.1, .int res.2.2.2.2.2.2.2.2.2.2.2.2.2.2.1])), (u.2.2.2.2.1, .inr (4, [.int res.2.2.2.2.2.2.2.2.2.2.2.2.2.2.2.1, .int res.2.2.2.2.2.2.2.2.2.2.2.2.2.2.2.2.1, .int res.2.2.2.2.2.2.2.2.2.2.2.2.2.2.2.2.2.1, .long res.2.2.2.2.2.2.2.2.2.2.2.2.2.2.2.2.2.2.1])), (u.2.2.2.2.2.1, .inr (5, [.ref u.2.2.2.2.2.2.1, .ref u.2.2.2.2.2.2.2.1, .int res.2.2.2.2.2.2.2.2.2.2.2.2.2.2.2.2.2.2.2.1])), (u.2.2.2.2.2.2.1, .inl (u.2.2.2.2.2.2.2.2.2.2.1, 40, .inl res.2.2.2.2.2.2.2.2.2.2.2.2.2.2.2.2.2.2.2.2.1)), (u.2.2.2.2.2.2.2.1, .inl (u.2.2.2.2.2.2.2.2.2.2.2, 40, .inl res.2.2.2.2.2.2.2.2.2.2.2.2.2.2.2.2.2.2.2.2.2))] t.heap ∧ va_K (dC, dI) classes [(u.2.2.2.2.2.2.2.2.1, .int), (u.2.2.2.2.2.2.2.2.2.1, .long), (u.2.2.2.2.2.2.2.2.2.2.1, .int), (u.2.2.2.2.2.2.2.2.2.2.2, .int)] t ∧ va_D (va_A [(h0, .inr (1, [.null, .null, .null, .null, .long 0, .long 0]))] sz) [(h0, .inr (1, [.ref u.1, .ref u.2.2.2.1, .ref u.2.2.2.2.1, .ref u.2.2.2.2.2.1, .long res.1, .long res.2.1])), (u.1, .inr (2, [.int res.2.2.1, .ref u.2.1, .ref u.2.2.1, .int res.2.2.2.1])), (u.2.1, .inl (u.2.2.2.2.2.2.2.2.1, 42, .inl res.2.2.2.2.1)), (u.2.2.1, .inl (u.2.2.2.2.2.2.2.2.2.1, 42, .inr (.inl res.2.2.2.2.2.1))), (u.2.2.2.1, .inr (3, [.int res.2.2.2.2.2.2.1, .int res.2.2.2.2.2.2.2.1, .int res.2.2.2.2.2.2.2.2.1, .int res.2.2.2.2.2.2.2.2.2.1, .int res.2.2.2.2.2.2.2.2.2.2.1, .int res.2.2.2.2.2.2.2.2.2.2.2.1, .int res.2.2.2.2.2.2.2.2.2.2.2.2.1, .long res.2.2.2.2.2.2.2.2.2.2.2.2.2.1, .int res.2.2.2.2.2.2.2.2.2.2.2.2.2.2.1])), (u.2.2.2.2.1, .inr (4, [.int res.2.2.2.2.2.2.2.2.2.2.2.2.2.2.2.1, .int res.2.2.2.2.2.2.2.2.2.2.2.2.2.2.2.2.1, .int res.2.2.2.2.2.2.2.2.2.2.2.2.2.2.2.2.2.1, .long res.2.2.2.2.2.2.2.2.2.2.2.2.2.2.2.2.2.2.1])), (u.2.2.2.2.2.1, .inr (5, [.ref u.2.2.2.2.2.2.1, .ref u.2.2.2.2.2.2.2.1, .int res.2.2.2.2.2.2.2.2.2.2.2.2.2.2.2.2.2.2.2.1])), (u.2.2.2.2.2.2.1, .inl (u.2.2.2.2.2.2.2.2.2.2.1, 40, .inl res.2.2.2.2.2.2.2.2.2.2.2.2.2.2.2.2.2.2.2.2.1)), (u.2.2.2.2.2.2.2.1, .inl (u.2.2.2.2.2.2.2.2.2.2.2, 40, .inl res.2.2.2.2.2.2.2.2.2.2.2.2.2.2.2.2.2.2.2.2.2))]) (va_A [(h0, .inr (1, [.null, .null, .null, .null, .long 0, .long 0]))] sz)) 8 186 (va_A [(h0, .inr (1, [.null, .null, .null, .null, .long 0, .long 0]))] sz) := by
  refine Met.ofW (cc := b_Tank_init) (maxL := 3) (ret := none) (by decide) rfl ?_
  intro p e s m args below meth c s₁ B hml hv
  obtain ⟨rfl, hsz, hP, hK, hD0, hE⟩ := hv
  have hx := B.exec
  have hb := B.bytes
  have hr := B.returns
  have hts := atoms_spec (ws := w_Tank_init) B.pre
  have hown : s.vm.findClass R_Tank = some m.cls := findClass_of_methodNamed B.named
  have hlocks := B.notSynchronized
  have hin : meth.name = "<init>" := (name_of_methodNamed B.named B.method).1
  subst hsz
  have hD := hD0.self (sz := s.heap.size)
  generalize hAe : va_A [(h0, .inr (1, [.null, .null, .null, .null, .long 0, .long 0]))] s.heap.size = A at hD ⊢
  have hA : ∀ q : Nat, s.heap.size ≤ q → A q := fun q h => by rw [← hAe]; exact Or.inr h
  clear hAe hD0
  have key : ∀ (H : Heap) (locs : List Loc), va_P (dC, dI) classes [(h0, .inr (1, [.null, .null, .null, .null, .long 0, .long 0]))] H → va_D A [(h0, .inr (1, [.null, .null, .null, .null, .long 0, .long 0]))] → va_S A s.heap H locs → ∀ (ls : Array Slot), lv_has ls 3 [(0, .ref h0), (1, .int p1), (2, .int p2)] → W p l e ({ frames := 2, cells := 8, slots := 186, locals := 44 } : Room) s m ([.ref h0, .int p1, .int p2] : List Value).toArray below meth c H locs 0 0 (MQ below (va_Qv (fun _ : Nat × Nat × Nat × Nat × Nat × Nat × Nat × Nat × ClassId × ClassId × ClassId × ClassId => True) (fun u t => va_P (dC, dI) classes [(h0, .inr (1, [.ref u.1, .ref u.2.2.2.1, .ref u.2.2.2.2.1, .ref u.2.2.2.2.2.1, .long res.1, .long res.2.1])), (u.1, .inr (2, [.int res.2.2.1, .ref u.2.1, .ref u.2.2.1, .int res.2.2.2.1])), (u.2.1, .inl (u.2.2.2.2.2.2.2.2.1, 42, .inl res.2.2.2.2.1)), (u.2.2.1, .inl (u.2.2.2.2.2.2.2.2.2.1, 42, .inr (.inl res.2.2.2.2.2.1))), (u.2.2.2.1, .inr (3, [.int res.2.2.2.2.2.2.1, .int res.2.2.2.2.2.2.2.1, .int res.2.2.2.2.2.2.2.2.1, .int res.2.2.2.2.2.2.2.2.2.1, .int res.2.2.2.2.2.2.2.2.2.2.1, .int res.2.2.2.2.2.2.2.2.2.2.2.1, .int res.2.2.2.2.2.2.2.2.2.2.2.2.1, .long res.2.2.2.2.2.2.2.2.2.2.2.2.2.1, .int res.2.2.2.2.2.2.2.2.2.2.2.2.2.2.1])), (u.2.2.2.2.1, .inr (4, [.int res.2.2.2.2.2.2.2.2.2.2.2.2.2.2.2.1, .int res.2.2.2.2.2.2.2.2.2.2.2.2.2.2.2.2.1, .int res.2.2.2.2.2.2.2.2.2.2.2.2.2.2.2.2.2.1, .long res.2.2.2.2.2.2.2.2.2.2.2.2.2.2.2.2.2.2.1])), (u.2.2.2.2.2.1, .inr (5, [.ref u.2.2.2.2.2.2.1, .ref u.2.2.2.2.2.2.2.1, .int res.2.2.2.2.2.2.2.2.2.2.2.2.2.2.2.2.2.2.2.1])), (u.2.2.2.2.2.2.1, .inl (u.2.2.2.2.2.2.2.2.2.2.1, 40, .inl res.2.2.2.2.2.2.2.2.2.2.2.2.2.2.2.2.2.2.2.2.1)), (u.2.2.2.2.2.2.2.1, .inl (u.2.2.2.2.2.2.2.2.2.2.2, 40, .inl res.2.2.2.2.2.2.2.2.2.2.2.2.2.2.2.2.2.2.2.2.2))] t.heap ∧ va_K (dC, dI) classes [(u.2.2.2.2.2.2.2.2.1, .int), (u.2.2.2.2.2.2.2.2.2.1, .long), (u.2.2.2.2.2.2.2.2.2.2.1, .int), (u.2.2.2.2.2.2.2.2.2.2.2, .int)] t ∧ va_D A [(h0, .inr (1, [.ref u.1, .ref u.2.2.2.1, .ref u.2.2.2.2.1, .ref u.2.2.2.2.2.1, .long res.1, .long res.2.1])), (u.1, .inr (2, [.int res.2.2.1, .ref u.2.1, .ref u.2.2.1, .int res.2.2.2.1])), (u.2.1, .inl (u.2.2.2.2.2.2.2.2.1, 42, .inl res.2.2.2.2.1)), (u.2.2.1, .inl (u.2.2.2.2.2.2.2.2.2.1, 42, .inr (.inl res.2.2.2.2.2.1))), (u.2.2.2.1, .inr (3, [.int res.2.2.2.2.2.2.1, .int res.2.2.2.2.2.2.2.1, .int res.2.2.2.2.2.2.2.2.1, .int res.2.2.2.2.2.2.2.2.2.1, .int res.2.2.2.2.2.2.2.2.2.2.1, .int res.2.2.2.2.2.2.2.2.2.2.2.1, .int res.2.2.2.2.2.2.2.2.2.2.2.2.1, .long res.2.2.2.2.2.2.2.2.2.2.2.2.2.1, .int res.2.2.2.2.2.2.2.2.2.2.2.2.2.2.1])), (u.2.2.2.2.1, .inr (4, [.int res.2.2.2.2.2.2.2.2.2.2.2.2.2.2.2.1, .int res.2.2.2.2.2.2.2.2.2.2.2.2.2.2.2.2.1, .int res.2.2.2.2.2.2.2.2.2.2.2.2.2.2.2.2.2.1, .long res.2.2.2.2.2.2.2.2.2.2.2.2.2.2.2.2.2.2.1])), (u.2.2.2.2.2.1, .inr (5, [.ref u.2.2.2.2.2.2.1, .ref u.2.2.2.2.2.2.2.1, .int res.2.2.2.2.2.2.2.2.2.2.2.2.2.2.2.2.2.2.2.1])), (u.2.2.2.2.2.2.1, .inl (u.2.2.2.2.2.2.2.2.2.2.1, 40, .inl res.2.2.2.2.2.2.2.2.2.2.2.2.2.2.2.2.2.2.2.2.1)), (u.2.2.2.2.2.2.2.1, .inl (u.2.2.2.2.2.2.2.2.2.2.2, 40, .inl res.2.2.2.2.2.2.2.2.2.2.2.2.2.2.2.2.2.2.2.2.2))]) A) ([.ref h0, .int p1, .int p2] : List Value).toArray s 8 186 A) (F0 m 0 ls []) := by
    intro H locs hP hD hS ls hl
    unfold fn_Tank_init at h
    refine lv_aload_n hx hb d_Tank_init_0 rfl (lv_at hl 0 rfl) ?_
    refine W.objInit hx hb hown (hts _ (gx_w mw_164)) (hts _ (gx_w mw_43)) (hts _ (gx_w mw_44)) rfl (by rw [hml]; exact hl.1) rfl d_Tank_init_1 (Nat.le_of_ble_eq_true rfl) (Nat.le_of_ble_eq_true rfl) ?_
    refine W.eq (g2 := F0 m 4 ls []) rfl ?_
    refine lv_aload_n hx hb d_Tank_init_4 rfl (lv_at hl 0 rfl) ?_
    refine va_new (ci := 2) (fs := [.int 0, .null, .null, .int 0]) (C := R_Water) (T := F_Water) (N := 4) hx hb hts (gx_in i_Water) t_Water t_Water_ok hown (hts _ (gx_w mw_165)) (hts _ (gx_w mw_166)) (hts _ (gx_w mw_32)) hK hP hD hS hA rfl (fun j hj => by rcases (show j = 0 ∨ j = 1 ∨ j = 2 ∨ j = 3 by omega) with rfl | rfl | rfl | rfl <;> rfl) (Nat.le_of_ble_eq_true rfl) (Nat.le_of_ble_eq_true rfl) d_Tank_init_5 (fun q1n H hP hD hS => ?_)
    have hP : va_P (dC, dI) classes [(h0, .inr (1, [.null, .null, .null, .null, .long 0, .long 0])), (q1n, .inr (2, [.int 0, .null, .null, .int 0]))] H := hP
    have hD : va_D A [(h0, .inr (1, [.null, .null, .null, .null, .long 0, .long 0])), (q1n, .inr (2, [.int 0, .null, .null, .int 0]))] := hD
    refine lv_dup hx hb d_Tank_init_8 rfl ?_
    refine lv_iload_n hx hb d_Tank_init_9 rfl (lv_at hl 1 rfl) ?_
    refine lv_iload_n hx hb d_Tank_init_10 rfl (lv_at hl 2 rfl) ?_
    have hPc := hP.sub (ws' := [(q1n, .inr (2, [.int 0, .null, .null, .int 0]))]) [1] rfl
    have hDc := hD.sub (ws' := [(q1n, .inr (2, [.int 0, .null, .null, .int 0]))]) [1] (by decide) rfl
    have hKc := hK.sub (tys' := []) [] rfl
    have hFc := va_free (wc := [(q1n, .inr (2, [.int 0, .null, .null, .int 0]))]) hD hS hA [1] rfl
    obtain ⟨ur2, hc2, h⟩ := gx_bind h
    refine va_callv (va_runI (As := [.int p1, .int p2]) (rest := [.ref q1n, .ref h0]) ⟨hx, hb, hml, hown, hts⟩ (c_Water_init N l dC dI q1n H.size p1 p2 ur2 hc2) (cwI 2 hts (gx_gi mw_169) rfl rfl rfl (hts _ (gx_w mw_32)) (hts _ (gx_w mw_167)) (hts _ (gx_w mw_168)) rfl (by decide +kernel) ⟨Nat.le_of_ble_eq_true rfl, Nat.le_of_ble_eq_true rfl⟩) ⟨fun a U g mk q => by obtain ⟨q0, q1, qP, qK, qD, qE⟩ := q; exact ⟨q0, q1, qP, va_K.moved (u := U) (U := U.calling g mk a) (Vm.Alike.refl U.vm) qK, qD, qE.calls⟩, fun U hU hW => ⟨rfl, by rw [hU], by rw [hU]; exact hPc, va_K.moved hW.alike hKc, hDc.weaken (fun _ _ _ _ => trivial), hE.warm hW⟩⟩ rfl rfl hl.1 rfl (lv_room (Nat.le_of_ble_eq_true rfl)) d_Tank_init_11 ⟨Nat.le_of_ble_eq_true rfl, Nat.le_of_ble_eq_true rfl⟩) hS (fun q _ h => hFc q h) hFc (fun un2 t H locs ht hvm hw hB hz1 hk1 hS => ?_)
    obtain ⟨a1_2, a2_2, k1_2, k2_2⟩ := un2
    obtain ⟨hP1, hK1, hD1⟩ := hB
    rw [ht] at hP1
    have hK1 := va_K.moved hvm.symm hK1
    obtain ⟨hP, hD⟩ := va_join (wr := [(h0, .inr (1, [.null, .null, .null, .null, .long 0, .long 0]))]) (w1 := [(q1n, .inr (2, [.int ur2.1, .ref a1_2, .ref a2_2, .int ur2.2.1])), (a1_2, .inl (k1_2, 42, .inl ur2.2.2.1)), (a2_2, .inl (k2_2, 42, .inr (.inl ur2.2.2.2)))]) hP hD [1] [0] rfl rfl (by decide) (by decide) hk1 hFc hP1 hD1
    have hK := hK.app hK1
    have hK : va_K (dC, dI) classes [(k1_2, .int), (k2_2, .long)] s := hK
    have hP : va_P (dC, dI) classes [(h0, .inr (1, [.null, .null, .null, .null, .long 0, .long 0])), (q1n, .inr (2, [.int ur2.1, .ref a1_2, .ref a2_2, .int ur2.2.1])), (a1_2, .inl (k1_2, 42, .inl ur2.2.2.1)), (a2_2, .inl (k2_2, 42, .inr (.inl ur2.2.2.2)))] H := hP
    have hD : va_D A [(h0, .inr (1, [.null, .null, .null, .null, .long 0, .long 0])), (q1n, .inr (2, [.int ur2.1, .ref a1_2, .ref a2_2, .int ur2.2.1])), (a1_2, .inl (k1_2, 42, .inl ur2.2.2.1)), (a2_2, .inl (k2_2, 42, .inr (.inl ur2.2.2.2)))] := hD
    refine va_putF (D := (dC, dI)) (ci := 1) (v := .ref q1n) (ty := .object "TankLayers$Water") (C := R_Tank) (T := F_Tank) (N := 6) hx hb hts (gx_in i_Tank) t_Tank t_Tank_ok n_Tank hown hK hP hD hS 0 rfl rfl 0 (by decide) (hts _ (gx_w mw_266)) (fun _ h9 => h9) rfl hin rfl (by decide +kernel) rfl rfl (Nat.le_of_ble_eq_true rfl) d_Tank_init_14 (fun H locs hP hD hS => ?_)
    have hP : va_P (dC, dI) classes [(h0, .inr (1, [.ref q1n, .null, .null, .null, .long 0, .long 0])), (q1n, .inr (2, [.int ur2.1, .ref a1_2, .ref a2_2, .int ur2.2.1])), (a1_2, .inl (k1_2, 42, .inl ur2.2.2.1)), (a2_2, .inl (k2_2, 42, .inr (.inl ur2.2.2.2)))] H := hP
    have hD : va_D A [(h0, .inr (1, [.ref q1n, .null, .null, .null, .long 0, .long 0])), (q1n, .inr (2, [.int ur2.1, .ref a1_2, .ref a2_2, .int ur2.2.1])), (a1_2, .inl (k1_2, 42, .inl ur2.2.2.1)), (a2_2, .inl (k2_2, 42, .inr (.inl ur2.2.2.2)))] := hD
    refine lv_aload_n hx hb d_Tank_init_17 rfl (lv_at hl 0 rfl) ?_
    refine va_new (ci := 3) (fs := [.int 0, .int 0, .int 0, .int 0, .int 0, .int 0, .int 0, .long 0, .int 0]) (C := R_Rod) (T := F_Rod) (N := 9) hx hb hts (gx_in i_Rod) t_Rod t_Rod_ok hown (hts _ (gx_w mw_190)) (hts _ (gx_w mw_191)) (hts _ (gx_w mw_33)) hK hP hD hS hA rfl (fun j hj => by rcases (show j = 0 ∨ j = 1 ∨ j = 2 ∨ j = 3 ∨ j = 4 ∨ j = 5 ∨ j = 6 ∨ j = 7 ∨ j = 8 by omega) with rfl | rfl | rfl | rfl | rfl | rfl | rfl | rfl | rfl <;> rfl) (Nat.le_of_ble_eq_true rfl) (Nat.le_of_ble_eq_true rfl) d_Tank_init_18 (fun q3n H hP hD hS => ?_)
    have hP : va_P (dC, dI) classes [(h0, .inr (1, [.ref q1n, .null, .null, .null, .long 0, .long 0])), (q1n, .inr (2, [.int ur2.1, .ref a1_2, .ref a2_2, .int ur2.2.1])), (a1_2, .inl (k1_2, 42, .inl ur2.2.2.1)), (a2_2, .inl (k2_2, 42, .inr (.inl ur2.2.2.2))), (q3n, .inr (3, [.int 0, .int 0, .int 0, .int 0, .int 0, .int 0, .int 0, .long 0, .int 0]))] H := hP
    have hD : va_D A [(h0, .inr (1, [.ref q1n, .null, .null, .null, .long 0, .long 0])), (q1n, .inr (2, [.int ur2.1, .ref a1_2, .ref a2_2, .int ur2.2.1])), (a1_2, .inl (k1_2, 42, .inl ur2.2.2.1)), (a2_2, .inl (k2_2, 42, .inr (.inl ur2.2.2.2))), (q3n, .inr (3, [.int 0, .int 0, .int 0, .int 0, .int 0, .int 0, .int 0, .long 0, .int 0]))] := hD
    refine lv_dup hx hb d_Tank_init_21 rfl ?_
    have hPc := hP.sub (ws' := [(q3n, .inr (3, [.int 0, .int 0, .int 0, .int 0, .int 0, .int 0, .int 0, .long 0, .int 0]))]) [4] rfl
    have hDc := hD.sub (ws' := [(q3n, .inr (3, [.int 0, .int 0, .int 0, .int 0, .int 0, .int 0, .int 0, .long 0, .int 0]))]) [4] (by decide) rfl
    have hKc := hK.sub (tys' := []) [] rfl
    have hFc := va_free (wc := [(q3n, .inr (3, [.int 0, .int 0, .int 0, .int 0, .int 0, .int 0, .int 0, .long 0, .int 0]))]) hD hS hA [4] rfl
    obtain ⟨ur4, hc4, h⟩ := gx_bind h
    refine va_callv (va_runIN (As := []) (rest := [.ref q3n, .ref h0]) ⟨hx, hb, hml, hown, hts⟩ (c_Rod_init N l dC dI q3n H.size 0 0 0 0 0 0 0 0 0 ur4 hc4) ⟨va_cnB 0 hts (gx_gi mw_194) rfl rfl rfl hE.2 (hts _ (gx_w mw_33)) (by decide +kernel) ⟨Nat.le_of_ble_eq_true rfl, Nat.le_of_ble_eq_true rfl⟩, rfl, (hts _ (gx_w mw_193))⟩ ⟨fun a U g mk q => by obtain ⟨q0, q1, qP, qK, qD, qE⟩ := q; exact ⟨q0, q1, qP, va_K.moved (u := U) (U := U.calling g mk a) (Vm.Alike.refl U.vm) qK, qD, qE.calls⟩, fun U hU hW => ⟨rfl, by rw [hU], by rw [hU]; exact hPc, va_K.moved hW.alike hKc, hDc.weaken (fun _ _ _ _ => trivial), hE.warm hW⟩⟩ rfl rfl hl.1 rfl (lv_room (Nat.le_of_ble_eq_true rfl)) d_Tank_init_22 ⟨Nat.le_of_ble_eq_true rfl, Nat.le_of_ble_eq_true rfl⟩) hS (fun q _ h => hFc q h) hFc (fun _ t H locs ht hvm hw hB hz1 hk1 hS => ?_)
    obtain ⟨hP1, hK1, hD1⟩ := hB
    rw [ht] at hP1
    obtain ⟨hP, hD⟩ := va_join (wr := [(h0, .inr (1, [.ref q1n, .null, .null, .null, .long 0, .long 0])), (q1n, .inr (2, [.int ur2.1, .ref a1_2, .ref a2_2, .int ur2.2.1])), (a1_2, .inl (k1_2, 42, .inl ur2.2.2.1)), (a2_2, .inl (k2_2, 42, .inr (.inl ur2.2.2.2)))]) (w1 := [(q3n, .inr (3, [.int ur4.1, .int ur4.2.1, .int ur4.2.2.1, .int ur4.2.2.2.1, .int ur4.2.2.2.2.1, .int ur4.2.2.2.2.2.1, .int ur4.2.2.2.2.2.2.1, .long ur4.2.2.2.2.2.2.2.1, .int ur4.2.2.2.2.2.2.2.2]))]) hP hD [4] [0, 1, 2, 3] rfl rfl (by decide) (by decide) hk1 hFc hP1 hD1
    have hP : va_P (dC, dI) classes [(h0, .inr (1, [.ref q1n, .null, .null, .null, .long 0, .long 0])), (q1n, .inr (2, [.int ur2.1, .ref a1_2, .ref a2_2, .int ur2.2.1])), (a1_2, .inl (k1_2, 42, .inl ur2.2.2.1)), (a2_2, .inl (k2_2, 42, .inr (.inl ur2.2.2.2))), (q3n, .inr (3, [.int ur4.1, .int ur4.2.1, .int ur4.2.2.1, .int ur4.2.2.2.1, .int ur4.2.2.2.2.1, .int ur4.2.2.2.2.2.1, .int ur4.2.2.2.2.2.2.1, .long ur4.2.2.2.2.2.2.2.1, .int ur4.2.2.2.2.2.2.2.2]))] H := hP
    have hD : va_D A [(h0, .inr (1, [.ref q1n, .null, .null, .null, .long 0, .long 0])), (q1n, .inr (2, [.int ur2.1, .ref a1_2, .ref a2_2, .int ur2.2.1])), (a1_2, .inl (k1_2, 42, .inl ur2.2.2.1)), (a2_2, .inl (k2_2, 42, .inr (.inl ur2.2.2.2))), (q3n, .inr (3, [.int ur4.1, .int ur4.2.1, .int ur4.2.2.1, .int ur4.2.2.2.1, .int ur4.2.2.2.2.1, .int ur4.2.2.2.2.2.1, .int ur4.2.2.2.2.2.2.1, .long ur4.2.2.2.2.2.2.2.1, .int ur4.2.2.2.2.2.2.2.2]))] := hD
    refine va_putF (D := (dC, dI)) (ci := 1) (v := .ref q3n) (ty := .object "TankLayers$Rod") (C := R_Tank) (T := F_Tank) (N := 6) hx hb hts (gx_in i_Tank) t_Tank t_Tank_ok n_Tank hown hK hP hD hS 0 rfl rfl 1 (by decide) (hts _ (gx_w mw_268)) (fun _ h9 => h9) rfl hin rfl (by decide +kernel) rfl rfl (Nat.le_of_ble_eq_true rfl) d_Tank_init_25 (fun H locs hP hD hS => ?_)
    have hP : va_P (dC, dI) classes [(h0, .inr (1, [.ref q1n, .ref q3n, .null, .null, .long 0, .long 0])), (q1n, .inr (2, [.int ur2.1, .ref a1_2, .ref a2_2, .int ur2.2.1])), (a1_2, .inl (k1_2, 42, .inl ur2.2.2.1)), (a2_2, .inl (k2_2, 42, .inr (.inl ur2.2.2.2))), (q3n, .inr (3, [.int ur4.1, .int ur4.2.1, .int ur4.2.2.1, .int ur4.2.2.2.1, .int ur4.2.2.2.2.1, .int ur4.2.2.2.2.2.1, .int ur4.2.2.2.2.2.2.1, .long ur4.2.2.2.2.2.2.2.1, .int ur4.2.2.2.2.2.2.2.2]))] H := hP
    have hD : va_D A [(h0, .inr (1, [.ref q1n, .ref q3n, .null, .null, .long 0, .long 0])), (q1n, .inr (2, [.int ur2.1, .ref a1_2, .ref a2_2, .int ur2.2.1])), (a1_2, .inl (k1_2, 42, .inl ur2.2.2.1)), (a2_2, .inl (k2_2, 42, .inr (.inl ur2.2.2.2))), (q3n, .inr (3, [.int ur4.1, .int ur4.2.1, .int ur4.2.2.1, .int ur4.2.2.2.1, .int ur4.2.2.2.2.1, .int ur4.2.2.2.2.2.1, .int ur4.2.2.2.2.2.2.1, .long ur4.2.2.2.2.2.2.2.1, .int ur4.2.2.2.2.2.2.2.2]))] := hD
    refine lv_aload_n hx hb d_Tank_init_28 rfl (lv_at hl 0 rfl) ?_
    refine va_new (ci := 4) (fs := [.int 0, .int 0, .int 0, .long 0]) (C := R_Loss) (T := F_Loss) (N := 4) hx hb hts (gx_in i_Loss) t_Loss t_Loss_ok hown (hts _ (gx_w mw_227)) (hts _ (gx_w mw_228)) (hts _ (gx_w mw_34)) hK hP hD hS hA rfl (fun j hj => by rcases (show j = 0 ∨ j = 1 ∨ j = 2 ∨ j = 3 by omega) with rfl | rfl | rfl | rfl <;> rfl) (Nat.le_of_ble_eq_true rfl) (Nat.le_of_ble_eq_true rfl) d_Tank_init_29 (fun q5n H hP hD hS => ?_)
    have hP : va_P (dC, dI) classes [(h0, .inr (1, [.ref q1n, .ref q3n, .null, .null, .long 0, .long 0])), (q1n, .inr (2, [.int ur2.1, .ref a1_2, .ref a2_2, .int ur2.2.1])), (a1_2, .inl (k1_2, 42, .inl ur2.2.2.1)), (a2_2, .inl (k2_2, 42, .inr (.inl ur2.2.2.2))), (q3n, .inr (3, [.int ur4.1, .int ur4.2.1, .int ur4.2.2.1, .int ur4.2.2.2.1, .int ur4.2.2.2.2.1, .int ur4.2.2.2.2.2.1, .int ur4.2.2.2.2.2.2.1, .long ur4.2.2.2.2.2.2.2.1, .int ur4.2.2.2.2.2.2.2.2])), (q5n, .inr (4, [.int 0, .int 0, .int 0, .long 0]))] H := hP
    have hD : va_D A [(h0, .inr (1, [.ref q1n, .ref q3n, .null, .null, .long 0, .long 0])), (q1n, .inr (2, [.int ur2.1, .ref a1_2, .ref a2_2, .int ur2.2.1])), (a1_2, .inl (k1_2, 42, .inl ur2.2.2.1)), (a2_2, .inl (k2_2, 42, .inr (.inl ur2.2.2.2))), (q3n, .inr (3, [.int ur4.1, .int ur4.2.1, .int ur4.2.2.1, .int ur4.2.2.2.1, .int ur4.2.2.2.2.1, .int ur4.2.2.2.2.2.1, .int ur4.2.2.2.2.2.2.1, .long ur4.2.2.2.2.2.2.2.1, .int ur4.2.2.2.2.2.2.2.2])), (q5n, .inr (4, [.int 0, .int 0, .int 0, .long 0]))] := hD
    refine lv_dup hx hb d_Tank_init_32 rfl ?_
    have hPc := hP.sub (ws' := [(q5n, .inr (4, [.int 0, .int 0, .int 0, .long 0]))]) [5] rfl
    have hDc := hD.sub (ws' := [(q5n, .inr (4, [.int 0, .int 0, .int 0, .long 0]))]) [5] (by decide) rfl
    have hKc := hK.sub (tys' := []) [] rfl
    have hFc := va_free (wc := [(q5n, .inr (4, [.int 0, .int 0, .int 0, .long 0]))]) hD hS hA [5] rfl
    obtain ⟨ur6, hc6, h⟩ := gx_bind h
    refine va_callv (va_runI (As := []) (rest := [.ref q5n, .ref h0]) ⟨hx, hb, hml, hown, hts⟩ (c_Loss_init N l dC dI q5n H.size 0 0 0 0 ur6 hc6) (cwI 0 hts (gx_gi mw_231) rfl rfl rfl (hts _ (gx_w mw_34)) (hts _ (gx_w mw_229)) (hts _ (gx_w mw_230)) rfl (by decide +kernel) ⟨Nat.le_of_ble_eq_true rfl, Nat.le_of_ble_eq_true rfl⟩) ⟨fun a U g mk q => by obtain ⟨q0, q1, qP, qK, qD, qE⟩ := q; exact ⟨q0, q1, qP, va_K.moved (u := U) (U := U.calling g mk a) (Vm.Alike.refl U.vm) qK, qD, qE.calls⟩, fun U hU hW => ⟨rfl, by rw [hU], by rw [hU]; exact hPc, va_K.moved hW.alike hKc, hDc.weaken (fun _ _ _ _ => trivial), hE.warm hW⟩⟩ rfl rfl hl.1 rfl (lv_room (Nat.le_of_ble_eq_true rfl)) d_Tank_init_33 ⟨Nat.le_of_ble_eq_true rfl, Nat.le_of_ble_eq_true rfl⟩) hS (fun q _ h => hFc q h) hFc (fun _ t H locs ht hvm hw hB hz1 hk1 hS => ?_)
    obtain ⟨hP1, hK1, hD1⟩ := hB
    rw [ht] at hP1
    obtain ⟨hP, hD⟩ := va_join (wr := [(h0, .inr (1, [.ref q1n, .ref q3n, .null, .null, .long 0, .long 0])), (q1n, .inr (2, [.int ur2.1, .ref a1_2, .ref a2_2, .int ur2.2.1])), (a1_2, .inl (k1_2, 42, .inl ur2.2.2.1)), (a2_2, .inl (k2_2, 42, .inr (.inl ur2.2.2.2))), (q3n, .inr (3, [.int ur4.1, .int ur4.2.1, .int ur4.2.2.1, .int ur4.2.2.2.1, .int ur4.2.2.2.2.1, .int ur4.2.2.2.2.2.1, .int ur4.2.2.2.2.2.2.1, .long ur4.2.2.2.2.2.2.2.1, .int ur4.2.2.2.2.2.2.2.2]))]) (w1 := [(q5n, .inr (4, [.int ur6.1, .int ur6.2.1, .int ur6.2.2.1, .long ur6.2.2.2]))]) hP hD [5] [0, 1, 2, 3, 4] rfl rfl (by decide) (by decide) hk1 hFc hP1 hD1
    have hP : va_P (dC, dI) classes [(h0, .inr (1, [.ref q1n, .ref q3n, .null, .null, .long 0, .long 0])), (q1n, .inr (2, [.int ur2.1, .ref a1_2, .ref a2_2, .int ur2.2.1])), (a1_2, .inl (k1_2, 42, .inl ur2.2.2.1)), (a2_2, .inl (k2_2, 42, .inr (.inl ur2.2.2.2))), (q3n, .inr (3, [.int ur4.1, .int ur4.2.1, .int ur4.2.2.1, .int ur4.2.2.2.1, .int ur4.2.2.2.2.1, .int ur4.2.2.2.2.2.1, .int ur4.2.2.2.2.2.2.1, .long ur4.2.2.2.2.2.2.2.1, .int ur4.2.2.2.2.2.2.2.2])), (q5n, .inr (4, [.int ur6.1, .int ur6.2.1, .int ur6.2.2.1, .long ur6.2.2.2]))] H := hP
    have hD : va_D A [(h0, .inr (1, [.ref q1n, .ref q3n, .null, .null, .long 0, .long 0])), (q1n, .inr (2, [.int ur2.1, .ref a1_2, .ref a2_2, .int ur2.2.1])), (a1_2, .inl (k1_2, 42, .inl ur2.2.2.1)), (a2_2, .inl (k2_2, 42, .inr (.inl ur2.2.2.2))), (q3n, .inr (3, [.int ur4.1, .int ur4.2.1, .int ur4.2.2.1, .int ur4.2.2.2.1, .int ur4.2.2.2.2.1, .int ur4.2.2.2.2.2.1, .int ur4.2.2.2.2.2.2.1, .long ur4.2.2.2.2.2.2.2.1, .int ur4.2.2.2.2.2.2.2.2])), (q5n, .inr (4, [.int ur6.1, .int ur6.2.1, .int ur6.2.2.1, .long ur6.2.2.2]))] := hD
    refine va_putF (D := (dC, dI)) (ci := 1) (v := .ref q5n) (ty := .object "TankLayers$Loss") (C := R_Tank) (T := F_Tank) (N := 6) hx hb hts (gx_in i_Tank) t_Tank t_Tank_ok n_Tank hown hK hP hD hS 0 rfl rfl 2 (by decide) (hts _ (gx_w mw_270)) (fun _ h9 => h9) rfl hin rfl (by decide +kernel) rfl rfl (Nat.le_of_ble_eq_true rfl) d_Tank_init_36 (fun H locs hP hD hS => ?_)
    have hP : va_P (dC, dI) classes [(h0, .inr (1, [.ref q1n, .ref q3n, .ref q5n, .null, .long 0, .long 0])), (q1n, .inr (2, [.int ur2.1, .ref a1_2, .ref a2_2, .int ur2.2.1])), (a1_2, .inl (k1_2, 42, .inl ur2.2.2.1)), (a2_2, .inl (k2_2, 42, .inr (.inl ur2.2.2.2))), (q3n, .inr (3, [.int ur4.1, .int ur4.2.1, .int ur4.2.2.1, .int ur4.2.2.2.1, .int ur4.2.2.2.2.1, .int ur4.2.2.2.2.2.1, .int ur4.2.2.2.2.2.2.1, .long ur4.2.2.2.2.2.2.2.1, .int ur4.2.2.2.2.2.2.2.2])), (q5n, .inr (4, [.int ur6.1, .int ur6.2.1, .int ur6.2.2.1, .long ur6.2.2.2]))] H := hP
    have hD : va_D A [(h0, .inr (1, [.ref q1n, .ref q3n, .ref q5n, .null, .long 0, .long 0])), (q1n, .inr (2, [.int ur2.1, .ref a1_2, .ref a2_2, .int ur2.2.1])), (a1_2, .inl (k1_2, 42, .inl ur2.2.2.1)), (a2_2, .inl (k2_2, 42, .inr (.inl ur2.2.2.2))), (q3n, .inr (3, [.int ur4.1, .int ur4.2.1, .int ur4.2.2.1, .int ur4.2.2.2.1, .int ur4.2.2.2.2.1, .int ur4.2.2.2.2.2.1, .int ur4.2.2.2.2.2.2.1, .long ur4.2.2.2.2.2.2.2.1, .int ur4.2.2.2.2.2.2.2.2])), (q5n, .inr (4, [.int ur6.1, .int ur6.2.1, .int ur6.2.2.1, .long ur6.2.2.2]))] := hD
    refine lv_aload_n hx hb d_Tank_init_39 rfl (lv_at hl 0 rfl) ?_
    refine va_new (ci := 5) (fs := [.null, .null, .int 0]) (C := R_Time) (T := F_Time) (N := 3) hx hb hts (gx_in i_Time) t_Time t_Time_ok hown (hts _ (gx_w mw_250)) (hts _ (gx_w mw_251)) (hts _ (gx_w mw_35)) hK hP hD hS hA rfl (fun j hj => by rcases (show j = 0 ∨ j = 1 ∨ j = 2 by omega) with rfl | rfl | rfl <;> rfl) (Nat.le_of_ble_eq_true rfl) (Nat.le_of_ble_eq_true rfl) d_Tank_init_40 (fun q7n H hP hD hS => ?_)
    have hP : va_P (dC, dI) classes [(h0, .inr (1, [.ref q1n, .ref q3n, .ref q5n, .null, .long 0, .long 0])), (q1n, .inr (2, [.int ur2.1, .ref a1_2, .ref a2_2, .int ur2.2.1])), (a1_2, .inl (k1_2, 42, .inl ur2.2.2.1)), (a2_2, .inl (k2_2, 42, .inr (.inl ur2.2.2.2))), (q3n, .inr (3, [.int ur4.1, .int ur4.2.1, .int ur4.2.2.1, .int ur4.2.2.2.1, .int ur4.2.2.2.2.1, .int ur4.2.2.2.2.2.1, .int ur4.2.2.2.2.2.2.1, .long ur4.2.2.2.2.2.2.2.1, .int ur4.2.2.2.2.2.2.2.2])), (q5n, .inr (4, [.int ur6.1, .int ur6.2.1, .int ur6.2.2.1, .long ur6.2.2.2])), (q7n, .inr (5, [.null, .null, .int 0]))] H := hP
    have hD : va_D A [(h0, .inr (1, [.ref q1n, .ref q3n, .ref q5n, .null, .long 0, .long 0])), (q1n, .inr (2, [.int ur2.1, .ref a1_2, .ref a2_2, .int ur2.2.1])), (a1_2, .inl (k1_2, 42, .inl ur2.2.2.1)), (a2_2, .inl (k2_2, 42, .inr (.inl ur2.2.2.2))), (q3n, .inr (3, [.int ur4.1, .int ur4.2.1, .int ur4.2.2.1, .int ur4.2.2.2.1, .int ur4.2.2.2.2.1, .int ur4.2.2.2.2.2.1, .int ur4.2.2.2.2.2.2.1, .long ur4.2.2.2.2.2.2.2.1, .int ur4.2.2.2.2.2.2.2.2])), (q5n, .inr (4, [.int ur6.1, .int ur6.2.1, .int ur6.2.2.1, .long ur6.2.2.2])), (q7n, .inr (5, [.null, .null, .int 0]))] := hD
    refine lv_dup hx hb d_Tank_init_43 rfl ?_
    have hPc := hP.sub (ws' := [(q7n, .inr (5, [.null, .null, .int 0]))]) [6] rfl
    have hDc := hD.sub (ws' := [(q7n, .inr (5, [.null, .null, .int 0]))]) [6] (by decide) rfl
    have hKc := hK.sub (tys' := []) [] rfl
    have hFc := va_free (wc := [(q7n, .inr (5, [.null, .null, .int 0]))]) hD hS hA [6] rfl
    obtain ⟨ur8, hc8, h⟩ := gx_bind h
    refine va_callv (va_runI (As := []) (rest := [.ref q7n, .ref h0]) ⟨hx, hb, hml, hown, hts⟩ (c_Time_init N l dC dI q7n H.size  ur8 hc8) (cwI 0 hts (gx_gi mw_254) rfl rfl rfl (hts _ (gx_w mw_35)) (hts _ (gx_w mw_252)) (hts _ (gx_w mw_253)) rfl (by decide +kernel) ⟨Nat.le_of_ble_eq_true rfl, Nat.le_of_ble_eq_true rfl⟩) ⟨fun a U g mk q => by obtain ⟨q0, q1, qP, qK, qD, qE⟩ := q; exact ⟨q0, q1, qP, va_K.moved (u := U) (U := U.calling g mk a) (Vm.Alike.refl U.vm) qK, qD, qE.calls⟩, fun U hU hW => ⟨rfl, by rw [hU], by rw [hU]; exact hPc, va_K.moved hW.alike hKc, hDc.weaken (fun _ _ _ _ => trivial), hE.warm hW⟩⟩ rfl rfl hl.1 rfl (lv_room (Nat.le_of_ble_eq_true rfl)) d_Tank_init_44 ⟨Nat.le_of_ble_eq_true rfl, Nat.le_of_ble_eq_true rfl⟩) hS (fun q _ h => hFc q h) hFc (fun un8 t H locs ht hvm hw hB hz1 hk1 hS => ?_)
    obtain ⟨b1_8, b2_8, k3_8, k4_8⟩ := un8
    obtain ⟨hP1, hK1, hD1⟩ := hB
    rw [ht] at hP1
    have hK1 := va_K.moved hvm.symm hK1
    obtain ⟨hP, hD⟩ := va_join (wr := [(h0, .inr (1, [.ref q1n, .ref q3n, .ref q5n, .null, .long 0, .long 0])), (q1n, .inr (2, [.int ur2.1, .ref a1_2, .ref a2_2, .int ur2.2.1])), (a1_2, .inl (k1_2, 42, .inl ur2.2.2.1)), (a2_2, .inl (k2_2, 42, .inr (.inl ur2.2.2.2))), (q3n, .inr (3, [.int ur4.1, .int ur4.2.1, .int ur4.2.2.1, .int ur4.2.2.2.1, .int ur4.2.2.2.2.1, .int ur4.2.2.2.2.2.1, .int ur4.2.2.2.2.2.2.1, .long ur4.2.2.2.2.2.2.2.1, .int ur4.2.2.2.2.2.2.2.2])), (q5n, .inr (4, [.int ur6.1, .int ur6.2.1, .int ur6.2.2.1, .long ur6.2.2.2]))]) (w1 := [(q7n, .inr (5, [.ref b1_8, .ref b2_8, .int ur8.1])), (b1_8, .inl (k3_8, 40, .inl ur8.2.1)), (b2_8, .inl (k4_8, 40, .inl ur8.2.2))]) hP hD [6] [0, 1, 2, 3, 4, 5] rfl rfl (by decide) (by decide) hk1 hFc hP1 hD1
    have hK := hK.app hK1
    have hK : va_K (dC, dI) classes [(k1_2, .int), (k2_2, .long), (k3_8, .int), (k4_8, .int)] s := hK
    have hP : va_P (dC, dI) classes [(h0, .inr (1, [.ref q1n, .ref q3n, .ref q5n, .null, .long 0, .long 0])), (q1n, .inr (2, [.int ur2.1, .ref a1_2, .ref a2_2, .int ur2.2.1])), (a1_2, .inl (k1_2, 42, .inl ur2.2.2.1)), (a2_2, .inl (k2_2, 42, .inr (.inl ur2.2.2.2))), (q3n, .inr (3, [.int ur4.1, .int ur4.2.1, .int ur4.2.2.1, .int ur4.2.2.2.1, .int ur4.2.2.2.2.1, .int ur4.2.2.2.2.2.1, .int ur4.2.2.2.2.2.2.1, .long ur4.2.2.2.2.2.2.2.1, .int ur4.2.2.2.2.2.2.2.2])), (q5n, .inr (4, [.int ur6.1, .int ur6.2.1, .int ur6.2.2.1, .long ur6.2.2.2])), (q7n, .inr (5, [.ref b1_8, .ref b2_8, .int ur8.1])), (b1_8, .inl (k3_8, 40, .inl ur8.2.1)), (b2_8, .inl (k4_8, 40, .inl ur8.2.2))] H := hP
    have hD : va_D A [(h0, .inr (1, [.ref q1n, .ref q3n, .ref q5n, .null, .long 0, .long 0])), (q1n, .inr (2, [.int ur2.1, .ref a1_2, .ref a2_2, .int ur2.2.1])), (a1_2, .inl (k1_2, 42, .inl ur2.2.2.1)), (a2_2, .inl (k2_2, 42, .inr (.inl ur2.2.2.2))), (q3n, .inr (3, [.int ur4.1, .int ur4.2.1, .int ur4.2.2.1, .int ur4.2.2.2.1, .int ur4.2.2.2.2.1, .int ur4.2.2.2.2.2.1, .int ur4.2.2.2.2.2.2.1, .long ur4.2.2.2.2.2.2.2.1, .int ur4.2.2.2.2.2.2.2.2])), (q5n, .inr (4, [.int ur6.1, .int ur6.2.1, .int ur6.2.2.1, .long ur6.2.2.2])), (q7n, .inr (5, [.ref b1_8, .ref b2_8, .int ur8.1])), (b1_8, .inl (k3_8, 40, .inl ur8.2.1)), (b2_8, .inl (k4_8, 40, .inl ur8.2.2))] := hD
    refine va_putF (D := (dC, dI)) (ci := 1) (v := .ref q7n) (ty := .object "TankLayers$Timetable") (C := R_Tank) (T := F_Tank) (N := 6) hx hb hts (gx_in i_Tank) t_Tank t_Tank_ok n_Tank hown hK hP hD hS 0 rfl rfl 3 (by decide) (hts _ (gx_w mw_272)) (fun _ h9 => h9) rfl hin rfl (by decide +kernel) rfl rfl (Nat.le_of_ble_eq_true rfl) d_Tank_init_47 (fun H locs hP hD hS => ?_)
    have hP : va_P (dC, dI) classes [(h0, .inr (1, [.ref q1n, .ref q3n, .ref q5n, .ref q7n, .long 0, .long 0])), (q1n, .inr (2, [.int ur2.1, .ref a1_2, .ref a2_2, .int ur2.2.1])), (a1_2, .inl (k1_2, 42, .inl ur2.2.2.1)), (a2_2, .inl (k2_2, 42, .inr (.inl ur2.2.2.2))), (q3n, .inr (3, [.int ur4.1, .int ur4.2.1, .int ur4.2.2.1, .int ur4.2.2.2.1, .int ur4.2.2.2.2.1, .int ur4.2.2.2.2.2.1, .int ur4.2.2.2.2.2.2.1, .long ur4.2.2.2.2.2.2.2.1, .int ur4.2.2.2.2.2.2.2.2])), (q5n, .inr (4, [.int ur6.1, .int ur6.2.1, .int ur6.2.2.1, .long ur6.2.2.2])), (q7n, .inr (5, [.ref b1_8, .ref b2_8, .int ur8.1])), (b1_8, .inl (k3_8, 40, .inl ur8.2.1)), (b2_8, .inl (k4_8, 40, .inl ur8.2.2))] H := hP
    have hD : va_D A [(h0, .inr (1, [.ref q1n, .ref q3n, .ref q5n, .ref q7n, .long 0, .long 0])), (q1n, .inr (2, [.int ur2.1, .ref a1_2, .ref a2_2, .int ur2.2.1])), (a1_2, .inl (k1_2, 42, .inl ur2.2.2.1)), (a2_2, .inl (k2_2, 42, .inr (.inl ur2.2.2.2))), (q3n, .inr (3, [.int ur4.1, .int ur4.2.1, .int ur4.2.2.1, .int ur4.2.2.2.1, .int ur4.2.2.2.2.1, .int ur4.2.2.2.2.2.1, .int ur4.2.2.2.2.2.2.1, .long ur4.2.2.2.2.2.2.2.1, .int ur4.2.2.2.2.2.2.2.2])), (q5n, .inr (4, [.int ur6.1, .int ur6.2.1, .int ur6.2.2.1, .long ur6.2.2.2])), (q7n, .inr (5, [.ref b1_8, .ref b2_8, .int ur8.1])), (b1_8, .inl (k3_8, 40, .inl ur8.2.1)), (b2_8, .inl (k4_8, 40, .inl ur8.2.2))] := hD
    rw [← Option.some.inj h]
    have hP9 := hP
    have hD9 := hD
    have hK9 := hK.sub (tys' := [(k1_2, .int), (k2_2, .long), (k3_8, .int), (k4_8, .int)]) [0, 1, 2, 3] rfl
    refine W.widen (k := 8) (n := 186) (Nat.le_of_ble_eq_true rfl) (Nat.le_of_ble_eq_true rfl) ?_
    exact W.vret hx hb hr (fun t ht hW => ⟨⟨(q1n, a1_2, a2_2, q3n, q5n, q7n, b1_8, b2_8, k1_2, k2_2, k3_8, k4_8), rfl, trivial, by rw [ht]; exact hP9, va_K.moved hW.alike hK9, hD9⟩, hS.F ht⟩) hS.2.2 d_Tank_init_50
  have hl := lv_entry ([.ref h0, .int p1, .int p2]) (n := 3) (Nat.le_of_ble_eq_true rfl)
  rw [lg_entry_eq]
  generalize (lg_sl ([.ref h0, .int p1, .int p2]) ++ List.replicate (3 - (lg_sl ([.ref h0, .int p1, .int p2])).length) Slot.unset).toArray = ls at hl ⊢
  exact key _ _ hP hD va_S.rf ls hl
def fn_TL_init (N : Nat) : Option (Int32 × Int32 × Int32 × (Nat → Option Nat)) :=
  some (0, 0, 0, (fun _ => none))
def w_TL_init : List Cond := .code y_TL_init b_TL_init 1 none :: gx_W
set_option maxHeartbeats 4000000 in
set_option maxRecDepth 100000 in
theorem c_TL_init (N : Nat) (l : Launch) (dC : Nat → ClassId) (dI : Nat → Nat → Nat) (h0 : Nat) (sz : Nat) (res : Int32 × Int32 × Int32 × (Nat → Option Nat)) (h : fn_TL_init N = some res) : Met l y_TL_init w_TL_init ({ frames := 1, cells := 1, slots := 4, locals := 22 } : Room) (va_Pc [.ref h0] (fun U => U.heap.size = sz ∧ va_P (dC, dI) classes [(h0, .inr (0, [.null, .int 0, .int 0, .int 0]))] U.heap ∧ va_K (dC, dI) classes [] U ∧ va_D (fun _ => True) [(h0, .inr (0, [.null, .int 0, .int 0, .int 0]))] ∧ gx_E U ∧ va_AO R_Tank U)) (va_Qv (fun _ : Nat × ClassId => True) (fun u t => va_P (dC, dI) classes [(h0, .inr (0, [.ref u.1, .int res.1, .int res.2.1, .int res.2.2.1])), (u.1, .inl (u.2, 4, .inr (.inr (.inr (.inr res.2.2.2)))))] t.heap ∧ va_K (dC, dI) classes [(u.2, .object R_Tank)] t ∧ va_D (va_A [(h0, .inr (0, [.null, .int 0, .int 0, .int 0]))] sz) [(h0, .inr (0, [.ref u.1, .int res.1, .int res.2.1, .int res.2.2.1])), (u.1, .inl (u.2, 4, .inr (.inr (.inr (.inr res.2.2.2)))))]) (va_A [(h0, .inr (0, [.null, .int 0, .int 0, .int 0]))] sz)) 1 4 (va_A [(h0, .inr (0, [.null, .int 0, .int 0, .int 0]))] sz) := by
  refine Met.ofW (cc := b_TL_init) (maxL := 1) (ret := none) (by decide) rfl ?_
  intro p e s m args below meth c s₁ B hml hv
  obtain ⟨rfl, hsz, hP, hK, hD0, hE, hAO⟩ := hv
  have hx := B.exec
  have hb := B.bytes
  have hr := B.returns
  have hts := atoms_spec (ws := w_TL_init) B.pre
  have hown : s.vm.findClass R_TL = some m.cls := findClass_of_methodNamed B.named
  have hlocks := B.notSynchronized
  have hin : meth.name = "<init>" := (name_of_methodNamed B.named B.method).1
  subst hsz
  have hD := hD0.self (sz := s.heap.size)
  generalize hAe : va_A [(h0, .inr (0, [.null, .int 0, .int 0, .int 0]))] s.heap.size = A at hD ⊢
  have hA : ∀ q : Nat, s.heap.size ≤ q → A q := fun q h => by rw [← hAe]; exact Or.inr h
  clear hAe hD0
  have key : ∀ (H : Heap) (locs : List Loc), va_P (dC, dI) classes [(h0, .inr (0, [.null, .int 0, .int 0, .int 0]))] H → va_D A [(h0, .inr (0, [.null, .int 0, .int 0, .int 0]))] → va_S A s.heap H locs → ∀ (ls : Array Slot), lv_has ls 1 [(0, .ref h0)] → W p l e ({ frames := 1, cells := 1, slots := 4, locals := 22 } : Room) s m ([.ref h0] : List Value).toArray below meth c H locs 0 0 (MQ below (va_Qv (fun _ : Nat × ClassId => True) (fun u t => va_P (dC, dI) classes [(h0, .inr (0, [.ref u.1, .int res.1, .int res.2.1, .int res.2.2.1])), (u.1, .inl (u.2, 4, .inr (.inr (.inr (.inr res.2.2.2)))))] t.heap ∧ va_K (dC, dI) classes [(u.2, .object R_Tank)] t ∧ va_D A [(h0, .inr (0, [.ref u.1, .int res.1, .int res.2.1, .int res.2.2.1])), (u.1, .inl (u.2, 4, .inr (.inr (.inr (.inr res.2.2.2)))))]) A) ([.ref h0] : List Value).toArray s 1 4 A) (F0 m 0 ls []) := by
    intro H locs hP hD hS ls hl
    unfold fn_TL_init at h
    refine lv_aload_n hx hb d_TL_init_0 rfl (lv_at hl 0 rfl) ?_
    refine W.objInit hx hb hown (hts _ (gx_w mw_42)) (hts _ (gx_w mw_43)) (hts _ (gx_w mw_44)) rfl (by rw [hml]; exact hl.1) rfl d_TL_init_1 (Nat.le_of_ble_eq_true rfl) (Nat.le_of_ble_eq_true rfl) ?_
    refine W.eq (g2 := F0 m 4 ls []) rfl ?_
    refine lv_aload_n hx hb d_TL_init_4 rfl (lv_at hl 0 rfl) ?_
    refine lv_iconst (v := 4) hx hb d_TL_init_5 (by decide) ?_
    refine va_newq (N' := 4) hx hb hown (hts _ (gx_w mw_45)) hAO hK hP hD hS hA (by decide) (by decide) (Nat.le_of_ble_eq_true rfl) (Nat.le_of_ble_eq_true rfl) (Nat.le_of_ble_eq_true rfl) d_TL_init_6 (fun q1n k1n H hK hP hD hS => ?_)
    have hK : va_K (dC, dI) classes [(k1n, .object R_Tank)] s := hK
    have hP : va_P (dC, dI) classes [(h0, .inr (0, [.null, .int 0, .int 0, .int 0])), (q1n, .inl (k1n, 4, .inr (.inr (.inr (.inr (fun _ => none))))))] H := hP
    have hD : va_D A [(h0, .inr (0, [.null, .int 0, .int 0, .int 0])), (q1n, .inl (k1n, 4, .inr (.inr (.inr (.inr (fun _ => none))))))] := hD
    refine va_putF (D := (dC, dI)) (ci := 0) (v := .ref q1n) (ty := .array (.object "TankLayers$Tank")) (C := R_TL) (T := F_TL) (N := 4) hx hb hts (gx_in i_TL) t_TL t_TL_ok n_TL hown hK hP hD hS 0 rfl rfl 0 (by decide) (hts _ (gx_w mw_47)) (fun _ h9 => h9) rfl hin rfl (by decide +kernel) rfl rfl (Nat.le_of_ble_eq_true rfl) d_TL_init_9 (fun H locs hP hD hS => ?_)
    have hP : va_P (dC, dI) classes [(h0, .inr (0, [.ref q1n, .int 0, .int 0, .int 0])), (q1n, .inl (k1n, 4, .inr (.inr (.inr (.inr (fun _ => none))))))] H := hP
    have hD : va_D A [(h0, .inr (0, [.ref q1n, .int 0, .int 0, .int 0])), (q1n, .inl (k1n, 4, .inr (.inr (.inr (.inr (fun _ => none))))))] := hD
    refine lv_aload_n hx hb d_TL_init_12 rfl (lv_at hl 0 rfl) ?_
    refine lv_iconst (v := 0) hx hb d_TL_init_13 (by decide) ?_
    refine va_put (D := (dC, dI)) (ci := 0) (v := .int 0) (ty := .int) (C := R_TL) (T := F_TL) (N := 4) hx hb hts (gx_in i_TL) t_TL t_TL_ok n_TL hown hK hP hD hS 0 rfl rfl 1 (by decide) (hts _ (gx_w mw_48)) (fun _ h9 => h9) rfl (by decide +kernel) rfl rfl (Nat.le_of_ble_eq_true rfl) d_TL_init_14 (fun H locs hP hD hS => ?_)
    have hP : va_P (dC, dI) classes [(h0, .inr (0, [.ref q1n, .int 0, .int 0, .int 0])), (q1n, .inl (k1n, 4, .inr (.inr (.inr (.inr (fun _ => none))))))] H := hP
    have hD : va_D A [(h0, .inr (0, [.ref q1n, .int 0, .int 0, .int 0])), (q1n, .inl (k1n, 4, .inr (.inr (.inr (.inr (fun _ => none))))))] := hD
    refine lv_aload_n hx hb d_TL_init_17 rfl (lv_at hl 0 rfl) ?_
    refine lv_iconst (v := 0) hx hb d_TL_init_18 (by decide) ?_
    refine va_put (D := (dC, dI)) (ci := 0) (v := .int 0) (ty := .int) (C := R_TL) (T := F_TL) (N := 4) hx hb hts (gx_in i_TL) t_TL t_TL_ok n_TL hown hK hP hD hS 0 rfl rfl 2 (by decide) (hts _ (gx_w mw_49)) (fun _ h9 => h9) rfl (by decide +kernel) rfl rfl (Nat.le_of_ble_eq_true rfl) d_TL_init_19 (fun H locs hP hD hS => ?_)
    have hP : va_P (dC, dI) classes [(h0, .inr (0, [.ref q1n, .int 0, .int 0, .int 0])), (q1n, .inl (k1n, 4, .inr (.inr (.inr (.inr (fun _ => none))))))] H := hP
    have hD : va_D A [(h0, .inr (0, [.ref q1n, .int 0, .int 0, .int 0])), (q1n, .inl (k1n, 4, .inr (.inr (.inr (.inr (fun _ => none))))))] := hD
    refine lv_aload_n hx hb d_TL_init_22 rfl (lv_at hl 0 rfl) ?_
    refine lv_iconst (v := 0) hx hb d_TL_init_23 (by decide) ?_
    refine va_put (D := (dC, dI)) (ci := 0) (v := .int 0) (ty := .int) (C := R_TL) (T := F_TL) (N := 4) hx hb hts (gx_in i_TL) t_TL t_TL_ok n_TL hown hK hP hD hS 0 rfl rfl 3 (by decide) (hts _ (gx_w mw_50)) (fun _ h9 => h9) rfl (by decide +kernel) rfl rfl (Nat.le_of_ble_eq_true rfl) d_TL_init_24 (fun H locs hP hD hS => ?_)
    have hP : va_P (dC, dI) classes [(h0, .inr (0, [.ref q1n, .int 0, .int 0, .int 0])), (q1n, .inl (k1n, 4, .inr (.inr (.inr (.inr (fun _ => none))))))] H := hP
    have hD : va_D A [(h0, .inr (0, [.ref q1n, .int 0, .int 0, .int 0])), (q1n, .inl (k1n, 4, .inr (.inr (.inr (.inr (fun _ => none))))))] := hD
    rw [← Option.some.inj h]
    have hP9 := hP
    have hD9 := hD
    have hK9 := hK.sub (tys' := [(k1n, .object R_Tank)]) [0] rfl
    refine W.widen (k := 1) (n := 4) (Nat.le_of_ble_eq_true rfl) (Nat.le_of_ble_eq_true rfl) ?_
    exact W.vret hx hb hr (fun t ht hW => ⟨⟨(q1n, k1n), rfl, trivial, by rw [ht]; exact hP9, va_K.moved hW.alike hK9, hD9⟩, hS.F ht⟩) hS.2.2 d_TL_init_27
  have hl := lv_entry ([.ref h0]) (n := 1) (Nat.le_of_ble_eq_true rfl)
  rw [lg_entry_eq]
  generalize (lg_sl ([.ref h0]) ++ List.replicate (1 - (lg_sl ([.ref h0])).length) Slot.unset).toArray = ls at hl ⊢
  exact key _ _ hP hD va_S.rf ls hl
