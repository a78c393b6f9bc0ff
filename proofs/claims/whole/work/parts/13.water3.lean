theorem mw_335 : (Cond.code y_Water_heatOfLayers b_Water_heatOfLayers 6 (some .long)) ∈ gx_W := List.mem_filter.mpr ⟨List.mem_of_getElem? (i := 335) (by decide +kernel), by decide +kernel⟩
theorem mw_332 : (Cond.methodLink R_Water 44 y_Water_heatOfLayers) ∈ gx_W := List.mem_filter.mpr ⟨List.mem_of_getElem? (i := 332) (by decide +kernel), by decide +kernel⟩
theorem mw_334 : (Cond.instanceMethod y_Water_heatOfLayers) ∈ gx_W := List.mem_filter.mpr ⟨List.mem_of_getElem? (i := 334) (by decide +kernel), by decide +kernel⟩
theorem mw_4 : (Cond.selects R_Water y_Water_heatOfLayers y_Water_heatOfLayers) ∈ gx_W := List.mem_filter.mpr ⟨List.mem_of_getElem? (i := 4) (by decide +kernel), by decide +kernel⟩
theorem mw_321 : (Cond.code y_Water_cutAt b_Water_cutAt 7 (some .int)) ∈ gx_W := List.mem_filter.mpr ⟨List.mem_of_getElem? (i := 321) (by decide +kernel), by decide +kernel⟩
theorem mw_318 : (Cond.methodLink R_Water 40 y_Water_cutAt) ∈ gx_W := List.mem_filter.mpr ⟨List.mem_of_getElem? (i := 318) (by decide +kernel), by decide +kernel⟩
theorem mw_320 : (Cond.instanceMethod y_Water_cutAt) ∈ gx_W := List.mem_filter.mpr ⟨List.mem_of_getElem? (i := 320) (by decide +kernel), by decide +kernel⟩
theorem mw_2 : (Cond.selects R_Water y_Water_cutAt y_Water_cutAt) ∈ gx_W := List.mem_filter.mpr ⟨List.mem_of_getElem? (i := 2) (by decide +kernel), by decide +kernel⟩
theorem mw_346 : (Cond.code y_Water_mix b_Water_mix 3 none) ∈ gx_W := List.mem_filter.mpr ⟨List.mem_of_getElem? (i := 346) (by decide +kernel), by decide +kernel⟩
theorem mw_343 : (Cond.methodLink R_Water 55 y_Water_mix) ∈ gx_W := List.mem_filter.mpr ⟨List.mem_of_getElem? (i := 343) (by decide +kernel), by decide +kernel⟩
theorem mw_345 : (Cond.instanceMethod y_Water_mix) ∈ gx_W := List.mem_filter.mpr ⟨List.mem_of_getElem? (i := 345) (by decide +kernel), by decide +kernel⟩
theorem mw_5 : (Cond.selects R_Water y_Water_mix y_Water_mix) ∈ gx_W := List.mem_filter.mpr ⟨List.mem_of_getElem? (i := 5) (by decide +kernel), by decide +kernel⟩
theorem mw_171 : (Cond.fieldLink R_Water 9 "TankLayers$Water" "full" "I") ∈ gx_W := List.mem_filter.mpr ⟨List.mem_of_getElem? (i := 171) (by decide +kernel), by decide +kernel⟩
theorem d_Water_heatInAll_0 : decode b_Water_heatInAll 0 = .ok (.aload_n 0, 1) := by decide +kernel
theorem d_Water_heatInAll_1 : decode b_Water_heatInAll 1 = .ok (.iconst 0, 1) := by decide +kernel
theorem d_Water_heatInAll_2 : decode b_Water_heatInAll 2 = .ok (.aload_n 0, 1) := by decide +kernel
theorem d_Water_heatInAll_3 : decode b_Water_heatInAll 3 = .ok (.getfield 23, 3) := by decide +kernel
theorem d_Water_heatInAll_6 : decode b_Water_heatInAll 6 = .ok (.invokevirtual 44, 3) := by decide +kernel
theorem d_Water_heatInAll_9 : decode b_Water_heatInAll 9 = .ok (.lreturn, 1) := by decide +kernel
theorem d_Water_temperatureAt_0 : decode b_Water_temperatureAt 0 = .ok (.iconst 0, 1) := by decide +kernel
theorem d_Water_temperatureAt_1 : decode b_Water_temperatureAt 1 = .ok (.istore_n 2, 1) := by decide +kernel
theorem d_Water_temperatureAt_2 : decode b_Water_temperatureAt 2 = .ok (.iconst 0, 1) := by decide +kernel
theorem d_Water_temperatureAt_3 : decode b_Water_temperatureAt 3 = .ok (.istore_n 3, 1) := by decide +kernel
theorem d_Water_temperatureAt_4 : decode b_Water_temperatureAt 4 = .ok (.iload_n 3, 1) := by decide +kernel
theorem d_Water_temperatureAt_5 : decode b_Water_temperatureAt 5 = .ok (.aload_n 0, 1) := by decide +kernel
theorem d_Water_temperatureAt_6 : decode b_Water_temperatureAt 6 = .ok (.getfield 23, 3) := by decide +kernel
theorem d_Water_temperatureAt_9 : decode b_Water_temperatureAt 9 = .ok (.if_icmp .ge 41, 3) := by decide +kernel
theorem d_Water_temperatureAt_12 : decode b_Water_temperatureAt 12 = .ok (.iload_n 2, 1) := by decide +kernel
theorem d_Water_temperatureAt_13 : decode b_Water_temperatureAt 13 = .ok (.aload_n 0, 1) := by decide +kernel
theorem d_Water_temperatureAt_14 : decode b_Water_temperatureAt 14 = .ok (.getfield 15, 3) := by decide +kernel
theorem d_Water_temperatureAt_17 : decode b_Water_temperatureAt 17 = .ok (.iload_n 3, 1) := by decide +kernel
theorem d_Water_temperatureAt_18 : decode b_Water_temperatureAt 18 = .ok (.iaload, 1) := by decide +kernel
theorem d_Water_temperatureAt_19 : decode b_Water_temperatureAt 19 = .ok (.iadd, 1) := by decide +kernel
theorem d_Water_temperatureAt_20 : decode b_Water_temperatureAt 20 = .ok (.istore_n 2, 1) := by decide +kernel
theorem d_Water_temperatureAt_21 : decode b_Water_temperatureAt 21 = .ok (.iload_n 1, 1) := by decide +kernel
theorem d_Water_temperatureAt_22 : decode b_Water_temperatureAt 22 = .ok (.iload_n 2, 1) := by decide +kernel
theorem d_Water_temperatureAt_23 : decode b_Water_temperatureAt 23 = .ok (.if_icmp .ge 21, 3) := by decide +kernel
theorem d_Water_temperatureAt_26 : decode b_Water_temperatureAt 26 = .ok (.aload_n 0, 1) := by decide +kernel
theorem d_Water_temperatureAt_27 : decode b_Water_temperatureAt 27 = .ok (.getfield 19, 3) := by decide +kernel
theorem d_Water_temperatureAt_30 : decode b_Water_temperatureAt 30 = .ok (.iload_n 3, 1) := by decide +kernel
theorem d_Water_temperatureAt_31 : decode b_Water_temperatureAt 31 = .ok (.laload, 1) := by decide +kernel
theorem d_Water_temperatureAt_32 : decode b_Water_temperatureAt 32 = .ok (.lconst 1, 1) := by decide +kernel
theorem d_Water_temperatureAt_33 : decode b_Water_temperatureAt 33 = .ok (.aload_n 0, 1) := by decide +kernel
theorem d_Water_temperatureAt_34 : decode b_Water_temperatureAt 34 = .ok (.getfield 15, 3) := by decide +kernel
theorem d_Water_temperatureAt_37 : decode b_Water_temperatureAt 37 = .ok (.iload_n 3, 1) := by decide +kernel
theorem d_Water_temperatureAt_38 : decode b_Water_temperatureAt 38 = .ok (.iaload, 1) := by decide +kernel
theorem d_Water_temperatureAt_39 : decode b_Water_temperatureAt 39 = .ok (.i2l, 1) := by decide +kernel
theorem d_Water_temperatureAt_40 : decode b_Water_temperatureAt 40 = .ok (.invokestatic 58, 3) := by decide +kernel
theorem d_Water_temperatureAt_43 : decode b_Water_temperatureAt 43 = .ok (.lreturn, 1) := by decide +kernel
theorem d_Water_temperatureAt_44 : decode b_Water_temperatureAt 44 = .ok (.iinc 3 1, 3) := by decide +kernel
theorem d_Water_temperatureAt_47 : decode b_Water_temperatureAt 47 = .ok (.goto (-43), 3) := by decide +kernel
theorem d_Water_temperatureAt_50 : decode b_Water_temperatureAt 50 = .ok (.lconst 0, 1) := by decide +kernel
theorem d_Water_temperatureAt_51 : decode b_Water_temperatureAt 51 = .ok (.lreturn, 1) := by decide +kernel
theorem d_Water_partsAsWarmAs_0 : decode b_Water_partsAsWarmAs 0 = .ok (.iconst 0, 1) := by decide +kernel
theorem d_Water_partsAsWarmAs_1 : decode b_Water_partsAsWarmAs 1 = .ok (.istore_n 2, 1) := by decide +kernel
theorem d_Water_partsAsWarmAs_2 : decode b_Water_partsAsWarmAs 2 = .ok (.iconst 0, 1) := by decide +kernel
theorem d_Water_partsAsWarmAs_3 : decode b_Water_partsAsWarmAs 3 = .ok (.istore_n 3, 1) := by decide +kernel
theorem d_Water_partsAsWarmAs_4 : decode b_Water_partsAsWarmAs 4 = .ok (.iload_n 3, 1) := by decide +kernel
theorem d_Water_partsAsWarmAs_5 : decode b_Water_partsAsWarmAs 5 = .ok (.aload_n 0, 1) := by decide +kernel
theorem d_Water_partsAsWarmAs_6 : decode b_Water_partsAsWarmAs 6 = .ok (.getfield 23, 3) := by decide +kernel
theorem d_Water_partsAsWarmAs_9 : decode b_Water_partsAsWarmAs 9 = .ok (.if_icmp .ge 38, 3) := by decide +kernel
theorem d_Water_partsAsWarmAs_12 : decode b_Water_partsAsWarmAs 12 = .ok (.aload_n 0, 1) := by decide +kernel
theorem d_Water_partsAsWarmAs_13 : decode b_Water_partsAsWarmAs 13 = .ok (.getfield 19, 3) := by decide +kernel
theorem d_Water_partsAsWarmAs_16 : decode b_Water_partsAsWarmAs 16 = .ok (.iload_n 3, 1) := by decide +kernel
theorem d_Water_partsAsWarmAs_17 : decode b_Water_partsAsWarmAs 17 = .ok (.laload, 1) := by decide +kernel
theorem d_Water_partsAsWarmAs_18 : decode b_Water_partsAsWarmAs 18 = .ok (.aload_n 0, 1) := by decide +kernel
theorem d_Water_partsAsWarmAs_19 : decode b_Water_partsAsWarmAs 19 = .ok (.getfield 15, 3) := by decide +kernel
theorem d_Water_partsAsWarmAs_22 : decode b_Water_partsAsWarmAs 22 = .ok (.iload_n 3, 1) := by decide +kernel
theorem d_Water_partsAsWarmAs_23 : decode b_Water_partsAsWarmAs 23 = .ok (.iaload, 1) := by decide +kernel
theorem d_Water_partsAsWarmAs_24 : decode b_Water_partsAsWarmAs 24 = .ok (.i2l, 1) := by decide +kernel
theorem d_Water_partsAsWarmAs_25 : decode b_Water_partsAsWarmAs 25 = .ok (.iload_n 1, 1) := by decide +kernel
theorem d_Water_partsAsWarmAs_26 : decode b_Water_partsAsWarmAs 26 = .ok (.i2l, 1) := by decide +kernel
theorem d_Water_partsAsWarmAs_27 : decode b_Water_partsAsWarmAs 27 = .ok (.lmul, 1) := by decide +kernel
theorem d_Water_partsAsWarmAs_28 : decode b_Water_partsAsWarmAs 28 = .ok (.lcmp, 1) := by decide +kernel
theorem d_Water_partsAsWarmAs_29 : decode b_Water_partsAsWarmAs 29 = .ok (.ifCond .lt 12, 3) := by decide +kernel
theorem d_Water_partsAsWarmAs_32 : decode b_Water_partsAsWarmAs 32 = .ok (.iload_n 2, 1) := by decide +kernel
theorem d_Water_partsAsWarmAs_33 : decode b_Water_partsAsWarmAs 33 = .ok (.aload_n 0, 1) := by decide +kernel
theorem d_Water_partsAsWarmAs_34 : decode b_Water_partsAsWarmAs 34 = .ok (.getfield 15, 3) := by decide +kernel
theorem d_Water_partsAsWarmAs_37 : decode b_Water_partsAsWarmAs 37 = .ok (.iload_n 3, 1) := by decide +kernel
theorem d_Water_partsAsWarmAs_38 : decode b_Water_partsAsWarmAs 38 = .ok (.iaload, 1) := by decide +kernel
theorem d_Water_partsAsWarmAs_39 : decode b_Water_partsAsWarmAs 39 = .ok (.iadd, 1) := by decide +kernel
theorem d_Water_partsAsWarmAs_40 : decode b_Water_partsAsWarmAs 40 = .ok (.istore_n 2, 1) := by decide +kernel
theorem d_Water_partsAsWarmAs_41 : decode b_Water_partsAsWarmAs 41 = .ok (.iinc 3 1, 3) := by decide +kernel
theorem d_Water_partsAsWarmAs_44 : decode b_Water_partsAsWarmAs 44 = .ok (.goto (-40), 3) := by decide +kernel
theorem d_Water_partsAsWarmAs_47 : decode b_Water_partsAsWarmAs 47 = .ok (.iload_n 2, 1) := by decide +kernel
theorem d_Water_partsAsWarmAs_48 : decode b_Water_partsAsWarmAs 48 = .ok (.ireturn, 1) := by decide +kernel
theorem d_Water_comeIn_0 : decode b_Water_comeIn 0 = .ok (.aload_n 0, 1) := by decide +kernel
theorem d_Water_comeIn_1 : decode b_Water_comeIn 1 = .ok (.aload_n 0, 1) := by decide +kernel
theorem d_Water_comeIn_2 : decode b_Water_comeIn 2 = .ok (.iload_n 1, 1) := by decide +kernel
theorem d_Water_comeIn_3 : decode b_Water_comeIn 3 = .ok (.invokevirtual 40, 3) := by decide +kernel
theorem d_Water_comeIn_6 : decode b_Water_comeIn 6 = .ok (.iload_n 2, 1) := by decide +kernel
theorem d_Water_comeIn_7 : decode b_Water_comeIn 7 = .ok (.lload_n 3, 1) := by decide +kernel
theorem d_Water_comeIn_8 : decode b_Water_comeIn 8 = .ok (.invokevirtual 52, 3) := by decide +kernel
theorem d_Water_comeIn_11 : decode b_Water_comeIn 11 = .ok (.aload_n 0, 1) := by decide +kernel
theorem d_Water_comeIn_12 : decode b_Water_comeIn 12 = .ok (.invokevirtual 55, 3) := by decide +kernel
theorem d_Water_comeIn_15 : decode b_Water_comeIn 15 = .ok (.return_, 1) := by decide +kernel
theorem d_Water_takeFromAbove_0 : decode b_Water_takeFromAbove 0 = .ok (.aload_n 0, 1) := by decide +kernel
theorem d_Water_takeFromAbove_1 : decode b_Water_takeFromAbove 1 = .ok (.aload_n 0, 1) := by decide +kernel
theorem d_Water_takeFromAbove_2 : decode b_Water_takeFromAbove 2 = .ok (.getfield 9, 3) := by decide +kernel
theorem d_Water_takeFromAbove_5 : decode b_Water_takeFromAbove 5 = .ok (.iload_n 1, 1) := by decide +kernel
theorem d_Water_takeFromAbove_6 : decode b_Water_takeFromAbove 6 = .ok (.isub, 1) := by decide +kernel
theorem d_Water_takeFromAbove_7 : decode b_Water_takeFromAbove 7 = .ok (.invokevirtual 40, 3) := by decide +kernel
theorem d_Water_takeFromAbove_10 : decode b_Water_takeFromAbove 10 = .ok (.istore_n 2, 1) := by decide +kernel
theorem d_Water_takeFromAbove_11 : decode b_Water_takeFromAbove 11 = .ok (.aload_n 0, 1) := by decide +kernel
theorem d_Water_takeFromAbove_12 : decode b_Water_takeFromAbove 12 = .ok (.iload_n 2, 1) := by decide +kernel
theorem d_Water_takeFromAbove_13 : decode b_Water_takeFromAbove 13 = .ok (.aload_n 0, 1) := by decide +kernel
theorem d_Water_takeFromAbove_14 : decode b_Water_takeFromAbove 14 = .ok (.getfield 23, 3) := by decide +kernel
theorem d_Water_takeFromAbove_17 : decode b_Water_takeFromAbove 17 = .ok (.invokevirtual 44, 3) := by decide +kernel
theorem d_Water_takeFromAbove_20 : decode b_Water_takeFromAbove 20 = .ok (.lstore_n 3, 1) := by decide +kernel
theorem d_Water_takeFromAbove_21 : decode b_Water_takeFromAbove 21 = .ok (.aload_n 0, 1) := by decide +kernel
theorem d_Water_takeFromAbove_22 : decode b_Water_takeFromAbove 22 = .ok (.iload_n 2, 1) := by decide +kernel
theorem d_Water_takeFromAbove_23 : decode b_Water_takeFromAbove 23 = .ok (.putfield 23, 3) := by decide +kernel
theorem d_Water_takeFromAbove_26 : decode b_Water_takeFromAbove 26 = .ok (.lload_n 3, 1) := by decide +kernel
theorem d_Water_takeFromAbove_27 : decode b_Water_takeFromAbove 27 = .ok (.lreturn, 1) := by decide +kernel
def fn_Water_heatInAll (N : Nat) (full : Int32) (cnt : Int32) (vf : Nat → Int32) (hf : Nat → Int64) : Option (Int64) :=
  (fn_Water_heatOfLayers N 0 cnt full cnt vf hf).bind (fun ur1 => some ur1)
def w_Water_heatInAll : List Cond := .code y_Water_heatInAll b_Water_heatInAll 1 (some .long) :: gx_W
set_option maxHeartbeats 4000000 in
set_option maxRecDepth 100000 in
theorem c_Water_heatInAll (N : Nat) (l : Launch) (dC : Nat → ClassId) (dI : Nat → Nat → Nat) (h0 : Nat) (a1 : Nat) (a2 : Nat) (k1 : ClassId) (k2 : ClassId) (sz : Nat) (full : Int32) (cnt : Int32) (vf : Nat → Int32) (hf : Nat → Int64) (res : Int64) (h : fn_Water_heatInAll N full cnt vf hf = some res) : Met l y_Water_heatInAll w_Water_heatInAll ({ frames := 1, cells := 0, slots := 0, locals := 25 } : Room) (va_Pc [.ref h0] (fun U => U.heap.size = sz ∧ va_P (dC, dI) classes [(h0, .inr (2, [.int full, .ref a1, .ref a2, .int cnt])), (a1, .inl (k1, 42, .inl vf)), (a2, .inl (k2, 42, .inr (.inl hf)))] U.heap ∧ va_K (dC, dI) classes [(k1, .int), (k2, .long)] U ∧ va_D (fun _ => True) [(h0, .inr (2, [.int full, .ref a1, .ref a2, .int cnt])), (a1, .inl (k1, 42, .inl vf)), (a2, .inl (k2, 42, .inr (.inl hf)))] ∧ gx_E U)) (va_Ql (fun (r : Int64) (_ : Unit) => r = res) (fun _ t => va_P (dC, dI) classes [(h0, .inr (2, [.int full, .ref a1, .ref a2, .int cnt])), (a1, .inl (k1, 42, .inl vf)), (a2, .inl (k2, 42, .inr (.inl hf)))] t.heap ∧ va_K (dC, dI) classes [(k1, .int), (k2, .long)] t ∧ va_D (va_A [(h0, .inr (2, [.int full, .ref a1, .ref a2, .int cnt])), (a1, .inl (k1, 42, .inl vf)), (a2, .inl (k2, 42, .inr (.inl hf)))] sz) [(h0, .inr (2, [.int full, .ref a1, .ref a2, .int cnt])), (a1, .inl (k1, 42, .inl vf)), (a2, .inl (k2, 42, .inr (.inl hf)))]) (va_A [(h0, .inr (2, [.int full, .ref a1, .ref a2, .int cnt])), (a1, .inl (k1, 42, .inl vf)), (a2, .inl (k2, 42, .inr (.inl hf)))] sz)) 0 0 (va_A [(h0, .inr (2, [.int full, .ref a1, .ref a2, .int cnt])), (a1, .inl (k1, 42, .inl vf)), (a2, .inl (k2, 42, .inr (.inl hf)))] sz) := by
  refine Met.ofW (cc := b_Water_heatInAll) (maxL := 1) (ret := (some .long)) (by decide) rfl ?_
  intro p e s m args below meth c s₁ B hml hv
  obtain ⟨rfl, hsz, hP, hK, hD0, hE⟩ := hv
  have hx := B.exec
  have hb := B.bytes
  have hr := B.returns
  have hts := atoms_spec (ws := w_Water_heatInAll) B.pre
  have hown : s.vm.findClass R_Water = some m.cls := findClass_of_methodNamed B.named
  have hlocks := B.notSynchronized
  subst hsz
  have hD := hD0.self (sz := s.heap.size)
  generalize hAe : va_A [(h0, .inr (2, [.int full, .ref a1, .ref a2, .int cnt])), (a1, .inl (k1, 42, .inl vf)), (a2, .inl (k2, 42, .inr (.inl hf)))] s.heap.size = A at hD ⊢
  have hA : ∀ q : Nat, s.heap.size ≤ q → A q := fun q h => by rw [← hAe]; exact Or.inr h
  clear hAe hD0
  have key : ∀ (H : Heap) (locs : List Loc), va_P (dC, dI) classes [(h0, .inr (2, [.int full, .ref a1, .ref a2, .int cnt])), (a1, .inl (k1, 42, .inl vf)), (a2, .inl (k2, 42, .inr (.inl hf)))] H → va_D A [(h0, .inr (2, [.int full, .ref a1, .ref a2, .int cnt])), (a1, .inl (k1, 42, .inl vf)), (a2, .inl (k2, 42, .inr (.inl hf)))] → va_S A s.heap H locs → ∀ (ls : Array Slot), lv_has ls 1 [(0, .ref h0)] → W p l e ({ frames := 1, cells := 0, slots := 0, locals := 25 } : Room) s m ([.ref h0] : List Value).toArray below meth c H locs 0 0 (MQ below (va_Ql (fun (r : Int64) (_ : Unit) => r = res) (fun _ t => va_P (dC, dI) classes [(h0, .inr (2, [.int full, .ref a1, .ref a2, .int cnt])), (a1, .inl (k1, 42, .inl vf)), (a2, .inl (k2, 42, .inr (.inl hf)))] t.heap ∧ va_K (dC, dI) classes [(k1, .int), (k2, .long)] t ∧ va_D A [(h0, .inr (2, [.int full, .ref a1, .ref a2, .int cnt])), (a1, .inl (k1, 42, .inl vf)), (a2, .inl (k2, 42, .inr (.inl hf)))]) A) ([.ref h0] : List Value).toArray s 0 0 A) (F0 m 0 ls []) := by
    intro H locs hP hD hS ls hl
    unfold fn_Water_heatInAll at h
    refine lv_aload_n hx hb d_Water_heatInAll_0 rfl (lv_at hl 0 rfl) ?_
    refine lv_iconst (v := 0) hx hb d_Water_heatInAll_1 (by decide) ?_
    refine lv_aload_n hx hb d_Water_heatInAll_2 rfl (lv_at hl 0 rfl) ?_
    refine va_get (D := (dC, dI)) (ci := 2) (v := .int cnt) (C := R_Water) (T := F_Water) (N := 4) hx hb hts (gx_in i_Water) hown hK hP 0 rfl rfl 3 (by decide) (hts _ (gx_w mw_177)) (fun _ h9 => h9) rfl d_Water_heatInAll_3 ?_
    have hPc := hP.sub (ws' := [(h0, .inr (2, [.int full, .ref a1, .ref a2, .int cnt])), (a1, .inl (k1, 42, .inl vf)), (a2, .inl (k2, 42, .inr (.inl hf)))]) [0, 1, 2] rfl
    have hDc := hD.sub (ws' := [(h0, .inr (2, [.int full, .ref a1, .ref a2, .int cnt])), (a1, .inl (k1, 42, .inl vf)), (a2, .inl (k2, 42, .inr (.inl hf)))]) [0, 1, 2] (by decide) rfl
    have hKc := hK.sub (tys' := [(k1, .int), (k2, .long)]) [0, 1] rfl
    have hFc := va_free (wc := [(h0, .inr (2, [.int full, .ref a1, .ref a2, .int cnt])), (a1, .inl (k1, 42, .inl vf)), (a2, .inl (k2, 42, .inr (.inl hf)))]) hD hS hA [0, 1, 2] rfl
    obtain ⟨ur1, hc1, h⟩ := gx_bind h
    refine va_calll (va_runV (As := [.int 0, .int cnt]) (rest := []) ⟨hx, hb, hml, hown, hts⟩ (c_Water_heatOfLayers N l dC dI h0 a1 a2 k1 k2 H.size full cnt vf hf 0 cnt ur1 hc1) (cwV 2 hts (gx_gV mw_335 mw_332 mw_334 mw_4 mw_32) rfl rfl rfl (by decide +kernel) ⟨Nat.le_of_ble_eq_true rfl, Nat.le_of_ble_eq_true rfl⟩) ⟨fun a U g mk q => by obtain ⟨q0, q1, qP, qK, qD, qE⟩ := q; exact ⟨q0, q1, qP, va_K.moved (u := U) (U := U.calling g mk a) (Vm.Alike.refl U.vm) qK, qD, qE.calls⟩, va_recv hKc hPc (ci := 2) (q0 := 0) rfl rfl, fun U hU hW => ⟨rfl, by rw [hU], by rw [hU]; exact hPc, va_K.moved hW.alike hKc, hDc.weaken (fun _ _ _ _ => trivial), hE.warm hW⟩⟩ rfl rfl hl.1 rfl (lv_room (Nat.le_of_ble_eq_true rfl)) d_Water_heatInAll_6 ⟨(Nat.zero_le _), (Nat.zero_le _)⟩) hS (fun q _ h => hFc q h) hFc (fun r1 _ t H locs ht hvm hw hB hz1 hk1 hS => ?_)
    obtain ⟨hP1, hK1, hD1⟩ := hB
    rw [ht] at hP1
    rw [hw]
    obtain ⟨hP, hD⟩ := va_join (wr := []) (w1 := [(h0, .inr (2, [.int full, .ref a1, .ref a2, .int cnt])), (a1, .inl (k1, 42, .inl vf)), (a2, .inl (k2, 42, .inr (.inl hf)))]) hP hD [0, 1, 2] [] rfl rfl (by decide) (by decide) hk1 hFc hP1 hD1
    have hP : va_P (dC, dI) classes [(h0, .inr (2, [.int full, .ref a1, .ref a2, .int cnt])), (a1, .inl (k1, 42, .inl vf)), (a2, .inl (k2, 42, .inr (.inl hf)))] H := hP
    have hD : va_D A [(h0, .inr (2, [.int full, .ref a1, .ref a2, .int cnt])), (a1, .inl (k1, 42, .inl vf)), (a2, .inl (k2, 42, .inr (.inl hf)))] := hD
    rw [← Option.some.inj h]
    have hP9 := hP
    have hD9 := hD
    exact W.lret (v := ur1) hx hb hr (fun t ht hW => ⟨⟨ur1, (), rfl, rfl, ⟨by rw [ht]; exact hP9, va_K.moved hW.alike hK, hD9⟩⟩, hS.F ht⟩) hS.2.2 d_Water_heatInAll_9
  have hl := lv_entry ([.ref h0]) (n := 1) (Nat.le_of_ble_eq_true rfl)
  rw [lg_entry_eq]
  generalize (lg_sl ([.ref h0]) ++ List.replicate (1 - (lg_sl ([.ref h0])).length) Slot.unset).toArray = ls at hl ⊢
  exact key _ _ hP hD va_S.rf ls hl
def bk_Water_temperatureAt_4 (N : Nat) (full : Int32) (cnt : Int32) (vf : Nat → Int32) (hf : Nat → Int64) (K : Int32 × Int32 × Int32 → Option (Int64)) (x1 : Int32) (x2 : Int32) (x3 : Int32) : Option (Int64) :=
  if cnt ≤ x3 then some 0 else if gx_inb x3 42 = true then if (x2 + (vf x3.toNatClampNeg)) ≤ x1 then K (x1, x2 + (vf x3.toNatClampNeg), x3 + 1) else if gx_inb x3 42 = true then if gx_inb x3 42 = true then (fn_TL_shareOf N (hf x3.toNatClampNeg) 1 ((vf x3.toNatClampNeg).toInt64)).bind (fun ur6 => some ur6) else none else none else none
def st_Water_temperatureAt (N : Nat) (full : Int32) (cnt : Int32) (vf : Nat → Int32) (hf : Nat → Int64) (K : Int32 × Int32 × Int32 → Option (Int64)) (z : Int32 × Int32 × Int32) : Option (Int64) := match z with
  | (x1, x2, x3) => bk_Water_temperatureAt_4 N full cnt vf hf K x1 x2 x3
def fn_Water_temperatureAt (N : Nat) (p1 : Int32) (full : Int32) (cnt : Int32) (vf : Nat → Int32) (hf : Nat → Int64) : Option (Int64) :=
  gx_fx (st_Water_temperatureAt N full cnt vf hf) N (p1, 0, 0)
def w_Water_temperatureAt : List Cond := .code y_Water_temperatureAt b_Water_temperatureAt 4 (some .long) :: gx_W
set_option maxHeartbeats 4000000 in
set_option maxRecDepth 100000 in
theorem c_Water_temperatureAt (N : Nat) (l : Launch) (dC : Nat → ClassId) (dI : Nat → Nat → Nat) (h0 : Nat) (a1 : Nat) (a2 : Nat) (k1 : ClassId) (k2 : ClassId) (sz : Nat) (full : Int32) (cnt : Int32) (vf : Nat → Int32) (hf : Nat → Int64) (p1 : Int32) (res : Int64) (h : fn_Water_temperatureAt N p1 full cnt vf hf = some res) : Met l y_Water_temperatureAt w_Water_temperatureAt ({ frames := 2, cells := 0, slots := 0, locals := 50 } : Room) (va_Pc [.ref h0, .int p1] (fun U => U.heap.size = sz ∧ va_P (dC, dI) classes [(h0, .inr (2, [.int full, .ref a1, .ref a2, .int cnt])), (a1, .inl (k1, 42, .inl vf)), (a2, .inl (k2, 42, .inr (.inl hf)))] U.heap ∧ va_K (dC, dI) classes [(k1, .int), (k2, .long)] U ∧ va_D (fun _ => True) [(h0, .inr (2, [.int full, .ref a1, .ref a2, .int cnt])), (a1, .inl (k1, 42, .inl vf)), (a2, .inl (k2, 42, .inr (.inl hf)))] ∧ gx_E U)) (va_Ql (fun (r : Int64) (_ : Unit) => r = res) (fun _ t => va_P (dC, dI) classes [(h0, .inr (2, [.int full, .ref a1, .ref a2, .int cnt])), (a1, .inl (k1, 42, .inl vf)), (a2, .inl (k2, 42, .inr (.inl hf)))] t.heap ∧ va_K (dC, dI) classes [(k1, .int), (k2, .long)] t ∧ va_D (va_A [(h0, .inr (2, [.int full, .ref a1, .ref a2, .int cnt])), (a1, .inl (k1, 42, .inl vf)), (a2, .inl (k2, 42, .inr (.inl hf)))] sz) [(h0, .inr (2, [.int full, .ref a1, .ref a2, .int cnt])), (a1, .inl (k1, 42, .inl vf)), (a2, .inl (k2, 42, .inr (.inl hf)))]) (va_A [(h0, .inr (2, [.int full, .ref a1, .ref a2, .int cnt])), (a1, .inl (k1, 42, .inl vf)), (a2, .inl (k2, 42, .inr (.inl hf)))] sz)) 0 0 (va_A [(h0, .inr (2, [.int full, .ref a1, .ref a2, .int cnt])), (a1, .inl (k1, 42, .inl vf)), (a2, .inl (k2, 42, .inr (.inl hf)))] sz) := by
  refine Met.ofW (cc := b_Water_temperatureAt) (maxL := 4) (ret := (some .long)) (by decide) rfl ?_
  intro p e s m args below meth c s₁ B hml hv
  obtain ⟨rfl, hsz, hP, hK, hD0, hE⟩ := hv
  have hx := B.exec
  have hb := B.bytes
  have hr := B.returns
  have hts := atoms_spec (ws := w_Water_temperatureAt) B.pre
  have hown : s.vm.findClass R_Water = some m.cls := findClass_of_methodNamed B.named
  have hlocks := B.notSynchronized
  subst hsz
  have hD := hD0.self (sz := s.heap.size)
  generalize hAe : va_A [(h0, .inr (2, [.int full, .ref a1, .ref a2, .int cnt])), (a1, .inl (k1, 42, .inl vf)), (a2, .inl (k2, 42, .inr (.inl hf)))] s.heap.size = A at hD ⊢
  have hA : ∀ q : Nat, s.heap.size ≤ q → A q := fun q h => by rw [← hAe]; exact Or.inr h
  clear hAe hD0
  have loop : ∀ n : Nat, (∀ (x1 : Int32) (x2 : Int32) (x3 : Int32), gx_fx (st_Water_temperatureAt N full cnt vf hf) n (x1, x2, x3) = some res → ∀ (H : Heap) (locs : List Loc), va_P (dC, dI) classes [(h0, .inr (2, [.int full, .ref a1, .ref a2, .int cnt])), (a1, .inl (k1, 42, .inl vf)), (a2, .inl (k2, 42, .inr (.inl hf)))] H → va_D A [(h0, .inr (2, [.int full, .ref a1, .ref a2, .int cnt])), (a1, .inl (k1, 42, .inl vf)), (a2, .inl (k2, 42, .inr (.inl hf)))] → va_S A s.heap H locs → ∀ (ls : Array Slot), lv_has ls 4 [(0, .ref h0), (1, .int x1), (2, .int x2), (3, .int x3)] → W p l e ({ frames := 2, cells := 0, slots := 0, locals := 50 } : Room) s m ([.ref h0, .int p1] : List Value).toArray below meth c H locs 0 0 (MQ below (va_Ql (fun (r : Int64) (_ : Unit) => r = res) (fun _ t => va_P (dC, dI) classes [(h0, .inr (2, [.int full, .ref a1, .ref a2, .int cnt])), (a1, .inl (k1, 42, .inl vf)), (a2, .inl (k2, 42, .inr (.inl hf)))] t.heap ∧ va_K (dC, dI) classes [(k1, .int), (k2, .long)] t ∧ va_D A [(h0, .inr (2, [.int full, .ref a1, .ref a2, .int cnt])), (a1, .inl (k1, 42, .inl vf)), (a2, .inl (k2, 42, .inr (.inl hf)))]) A) ([.ref h0, .int p1] : List Value).toArray s 0 0 A) (F0 m 4 ls [])) := by
    intro n
    induction n with
    | zero => exact fun _ _ _ h => gx_fx0 h
    | succ n ih =>
        intro x1 x2 x3 h H locs hP hD hS ls hl
        replace h : bk_Water_temperatureAt_4 N full cnt vf hf (gx_fx (st_Water_temperatureAt N full cnt vf hf) n) x1 x2 x3 = some res := h
        unfold bk_Water_temperatureAt_4 at h
        refine lv_iload_n hx hb d_Water_temperatureAt_4 rfl (lv_at hl 3 rfl) ?_
        refine lv_aload_n hx hb d_Water_temperatureAt_5 rfl (lv_at hl 0 rfl) ?_
        refine va_get (D := (dC, dI)) (ci := 2) (v := .int cnt) (C := R_Water) (T := F_Water) (N := 4) hx hb hts (gx_in i_Water) hown hK hP 0 rfl rfl 3 (by decide) (hts _ (gx_w mw_177)) (fun _ h9 => h9) rfl d_Water_temperatureAt_6 ?_
        refine lv_icmp_ge (tgt := 50) hx hb d_Water_temperatureAt_9 (by decide) (fun c1 => ?_) (fun c1 => ?_)
        · replace h := gx_pos c1 h
          refine lv_lconst (v := 0) hx hb d_Water_temperatureAt_50 (by decide) ?_
          rw [← Option.some.inj h]
          have hP9 := hP
          have hD9 := hD
          exact W.lret (v := 0) hx hb hr (fun t ht hW => ⟨⟨0, (), rfl, rfl, ⟨by rw [ht]; exact hP9, va_K.moved hW.alike hK, hD9⟩⟩, hS.F ht⟩) hS.2.2 d_Water_temperatureAt_51
        · replace h := gx_neg c1 h
          refine lv_iload_n hx hb d_Water_temperatureAt_12 rfl (lv_at hl 2 rfl) ?_
          refine lv_aload_n hx hb d_Water_temperatureAt_13 rfl (lv_at hl 0 rfl) ?_
          refine va_get (D := (dC, dI)) (ci := 2) (v := .ref a1) (C := R_Water) (T := F_Water) (N := 4) hx hb hts (gx_in i_Water) hown hK hP 0 rfl rfl 1 (by decide) (hts _ (gx_w mw_173)) (fun _ h9 => h9) rfl d_Water_temperatureAt_14 ?_
          refine lv_iload_n hx hb d_Water_temperatureAt_17 rfl (lv_at hl 3 rfl) ?_
          obtain ⟨hi2, h⟩ := gx_inb_of h
          refine va_iald hx hb hK hP 1 0 rfl rfl hi2 d_Water_temperatureAt_18 ?_
          refine lv_iadd hx hb d_Water_temperatureAt_19 ?_
          refine lv_istore_n (lv' := [(2, .int (x2 + (vf x3.toNatClampNeg))), (0, .ref h0), (1, .int x1), (3, .int x3)]) hx hb d_Water_temperatureAt_20 rfl hl (by decide) rfl (fun ls hl => ?_)
          refine lv_iload_n hx hb d_Water_temperatureAt_21 rfl (lv_at hl 2 rfl) ?_
          refine lv_iload_n hx hb d_Water_temperatureAt_22 rfl (lv_at hl 0 rfl) ?_
          refine lv_icmp_ge (tgt := 44) hx hb d_Water_temperatureAt_23 (by decide) (fun c3 => ?_) (fun c3 => ?_)
          · replace h := gx_pos c3 h
            refine lv_iinc (v := x3 + 1) (lv' := [(3, .int (x3 + 1)), (2, .int (x2 + (vf x3.toNatClampNeg))), (0, .ref h0), (1, .int x1)]) hx hb d_Water_temperatureAt_44 hl (k := 3) rfl rfl (by decide) rfl (fun ls hl => ?_)
            refine lv_goto (tgt := 4) hx hb d_Water_temperatureAt_47 (by decide) ?_
            exact ih x1 (x2 + (vf x3.toNatClampNeg)) (x3 + 1) h _ _ hP hD hS ls (lv_sub hl [2, 3, 1, 0] rfl)
          · replace h := gx_neg c3 h
            refine lv_aload_n hx hb d_Water_temperatureAt_26 rfl (lv_at hl 1 rfl) ?_
            refine va_get (D := (dC, dI)) (ci := 2) (v := .ref a2) (C := R_Water) (T := F_Water) (N := 4) hx hb hts (gx_in i_Water) hown hK hP 0 rfl rfl 2 (by decide) (hts _ (gx_w mw_175)) (fun _ h9 => h9) rfl d_Water_temperatureAt_27 ?_
            refine lv_iload_n hx hb d_Water_temperatureAt_30 rfl (lv_at hl 3 rfl) ?_
            obtain ⟨hi4, h⟩ := gx_inb_of h
            refine va_lald hx hb hK hP 2 1 rfl rfl hi4 d_Water_temperatureAt_31 ?_
            refine lv_lconst (v := 1) hx hb d_Water_temperatureAt_32 (by decide) ?_
            refine lv_aload_n hx hb d_Water_temperatureAt_33 rfl (lv_at hl 1 rfl) ?_
            refine va_get (D := (dC, dI)) (ci := 2) (v := .ref a1) (C := R_Water) (T := F_Water) (N := 4) hx hb hts (gx_in i_Water) hown hK hP 0 rfl rfl 1 (by decide) (hts _ (gx_w mw_173)) (fun _ h9 => h9) rfl d_Water_temperatureAt_34 ?_
            refine lv_iload_n hx hb d_Water_temperatureAt_37 rfl (lv_at hl 3 rfl) ?_
            obtain ⟨hi5, h⟩ := gx_inb_of h
            refine va_iald hx hb hK hP 1 0 rfl rfl hi5 d_Water_temperatureAt_38 ?_
            refine lv_i2l (v := (vf x3.toNatClampNeg).toInt64) hx hb d_Water_temperatureAt_39 rfl ?_
            have hPc := hP.sub (ws' := []) [] rfl
            have hDc := hD.sub (ws' := []) [] (by decide) rfl
            have hKc := hK.sub (tys' := []) [] rfl
            have hFc := va_free (wc := []) hD hS hA [] rfl
            obtain ⟨ur6, hc6, h⟩ := gx_bind h
            refine va_calll (va_runSN (As := [.long (hf x3.toNatClampNeg), .long 1, .long ((vf x3.toNatClampNeg).toInt64)]) (rest := []) ⟨hx, hb, hml, hown, hts⟩ (c_TL_shareOf N l dC dI H.size (hf x3.toNatClampNeg) 1 ((vf x3.toNatClampNeg).toInt64) ur6 hc6) ⟨va_cnB 3 hts (gx_gi mw_324) rfl rfl rfl hE.1 (hts _ (gx_w mw_24)) (by decide +kernel) ⟨Nat.le_of_ble_eq_true rfl, Nat.le_of_ble_eq_true rfl⟩, (hts _ (gx_w mw_323)), trivial⟩ ⟨fun a U g mk q => by obtain ⟨q0, q1, qP, qK, qD, qE⟩ := q; exact ⟨q0, q1, qP, va_K.moved (u := U) (U := U.calling g mk a) (Vm.Alike.refl U.vm) qK, qD, qE.calls⟩, fun U hU hW => ⟨rfl, by rw [hU], by rw [hU]; exact hPc, va_K.moved hW.alike hKc, hDc.weaken (fun _ _ _ _ => trivial), hE.warm hW⟩⟩ rfl rfl hl.1 rfl (lv_room (Nat.le_of_ble_eq_true rfl)) d_Water_temperatureAt_40 ⟨(Nat.zero_le _), (Nat.zero_le _)⟩) hS (fun q _ h => hFc q h) hFc (fun r6 _ t H locs ht hvm hw hB hz1 hk1 hS => ?_)
            obtain ⟨hP1, hK1, hD1⟩ := hB
            rw [ht] at hP1
            rw [hw]
            replace hP := gx_keep0 hP hk1
            rw [← Option.some.inj h]
            have hP9 := hP
            have hD9 := hD
            exact W.lret (v := ur6) hx hb hr (fun t ht hW => ⟨⟨ur6, (), rfl, rfl, ⟨by rw [ht]; exact hP9, va_K.moved hW.alike hK, hD9⟩⟩, hS.F ht⟩) hS.2.2 d_Water_temperatureAt_43
  have key : ∀ (H : Heap) (locs : List Loc), va_P (dC, dI) classes [(h0, .inr (2, [.int full, .ref a1, .ref a2, .int cnt])), (a1, .inl (k1, 42, .inl vf)), (a2, .inl (k2, 42, .inr (.inl hf)))] H → va_D A [(h0, .inr (2, [.int full, .ref a1, .ref a2, .int cnt])), (a1, .inl (k1, 42, .inl vf)), (a2, .inl (k2, 42, .inr (.inl hf)))] → va_S A s.heap H locs → ∀ (ls : Array Slot), lv_has ls 4 [(0, .ref h0), (1, .int p1)] → W p l e ({ frames := 2, cells := 0, slots := 0, locals := 50 } : Room) s m ([.ref h0, .int p1] : List Value).toArray below meth c H locs 0 0 (MQ below (va_Ql (fun (r : Int64) (_ : Unit) => r = res) (fun _ t => va_P (dC, dI) classes [(h0, .inr (2, [.int full, .ref a1, .ref a2, .int cnt])), (a1, .inl (k1, 42, .inl vf)), (a2, .inl (k2, 42, .inr (.inl hf)))] t.heap ∧ va_K (dC, dI) classes [(k1, .int), (k2, .long)] t ∧ va_D A [(h0, .inr (2, [.int full, .ref a1, .ref a2, .int cnt])), (a1, .inl (k1, 42, .inl vf)), (a2, .inl (k2, 42, .inr (.inl hf)))]) A) ([.ref h0, .int p1] : List Value).toArray s 0 0 A) (F0 m 0 ls []) := by
    intro H locs hP hD hS ls hl
    unfold fn_Water_temperatureAt at h
    refine lv_iconst (v := 0) hx hb d_Water_temperatureAt_0 (by decide) ?_
    refine lv_istore_n (lv' := [(2, .int 0), (0, .ref h0), (1, .int p1)]) hx hb d_Water_temperatureAt_1 rfl hl (by decide) rfl (fun ls hl => ?_)
    refine lv_iconst (v := 0) hx hb d_Water_temperatureAt_2 (by decide) ?_
    refine lv_istore_n (lv' := [(3, .int 0), (2, .int 0), (0, .ref h0), (1, .int p1)]) hx hb d_Water_temperatureAt_3 rfl hl (by decide) rfl (fun ls hl => ?_)
    exact (loop N) p1 0 0 h _ _ hP hD hS ls (lv_sub hl [2, 3, 1, 0] rfl)
  have hl := lv_entry ([.ref h0, .int p1]) (n := 4) (Nat.le_of_ble_eq_true rfl)
  rw [lg_entry_eq]
  generalize (lg_sl ([.ref h0, .int p1]) ++ List.replicate (4 - (lg_sl ([.ref h0, .int p1])).length) Slot.unset).toArray = ls at hl ⊢
  exact key _ _ hP hD va_S.rf ls hl
def bk_Water_partsAsWarmAs_4 (N : Nat) (full : Int32) (cnt : Int32) (vf : Nat → Int32) (hf : Nat → Int64) (K : Int32 × Int32 × Int32 → Option (Int32)) (x1 : Int32) (x2 : Int32) (x3 : Int32) : Option (Int32) :=
  if cnt ≤ x3 then some x2 else if gx_inb x3 42 = true then if gx_inb x3 42 = true then if (lg_cmp (hf x3.toNatClampNeg) (((vf x3.toNatClampNeg).toInt64) * x1.toInt64)) < 0 then K (x1, x2, x3 + 1) else if gx_inb x3 42 = true then K (x1, x2 + (vf x3.toNatClampNeg), x3 + 1) else none else none else none
def st_Water_partsAsWarmAs (N : Nat) (full : Int32) (cnt : Int32) (vf : Nat → Int32) (hf : Nat → Int64) (K : Int32 × Int32 × Int32 → Option (Int32)) (z : Int32 × Int32 × Int32) : Option (Int32) := match z with
  | (x1, x2, x3) => bk_Water_partsAsWarmAs_4 N full cnt vf hf K x1 x2 x3
def fn_Water_partsAsWarmAs (N : Nat) (p1 : Int32) (full : Int32) (cnt : Int32) (vf : Nat → Int32) (hf : Nat → Int64) : Option (Int32) :=
  gx_fx (st_Water_partsAsWarmAs N full cnt vf hf) N (p1, 0, 0)
def w_Water_partsAsWarmAs : List Cond := .code y_Water_partsAsWarmAs b_Water_partsAsWarmAs 4 (some .int) :: gx_W
set_option maxHeartbeats 4000000 in
set_option maxRecDepth 100000 in
theorem c_Water_partsAsWarmAs (N : Nat) (l : Launch) (dC : Nat → ClassId) (dI : Nat → Nat → Nat) (h0 : Nat) (a1 : Nat) (a2 : Nat) (k1 : ClassId) (k2 : ClassId) (sz : Nat) (full : Int32) (cnt : Int32) (vf : Nat → Int32) (hf : Nat → Int64) (p1 : Int32) (res : Int32) (h : fn_Water_partsAsWarmAs N p1 full cnt vf hf = some res) : Met l y_Water_partsAsWarmAs w_Water_partsAsWarmAs ({ frames := 0, cells := 0, slots := 0, locals := 0 } : Room) (va_Pc [.ref h0, .int p1] (fun U => U.heap.size = sz ∧ va_P (dC, dI) classes [(h0, .inr (2, [.int full, .ref a1, .ref a2, .int cnt])), (a1, .inl (k1, 42, .inl vf)), (a2, .inl (k2, 42, .inr (.inl hf)))] U.heap ∧ va_K (dC, dI) classes [(k1, .int), (k2, .long)] U ∧ va_D (fun _ => True) [(h0, .inr (2, [.int full, .ref a1, .ref a2, .int cnt])), (a1, .inl (k1, 42, .inl vf)), (a2, .inl (k2, 42, .inr (.inl hf)))] ∧ gx_E U)) (va_Qi (fun (r : Int32) (_ : Unit) => r = res) (fun _ t => va_P (dC, dI) classes [(h0, .inr (2, [.int full, .ref a1, .ref a2, .int cnt])), (a1, .inl (k1, 42, .inl vf)), (a2, .inl (k2, 42, .inr (.inl hf)))] t.heap ∧ va_K (dC, dI) classes [(k1, .int), (k2, .long)] t ∧ va_D (va_A [(h0, .inr (2, [.int full, .ref a1, .ref a2, .int cnt])), (a1, .inl (k1, 42, .inl vf)), (a2, .inl (k2, 42, .inr (.inl hf)))] sz) [(h0, .inr (2, [.int full, .ref a1, .ref a2, .int cnt])), (a1, .inl (k1, 42, .inl vf)), (a2, .inl (k2, 42, .inr (.inl hf)))]) (va_A [(h0, .inr (2, [.int full, .ref a1, .ref a2, .int cnt])), (a1, .inl (k1, 42, .inl vf)), (a2, .inl (k2, 42, .inr (.inl hf)))] sz)) 0 0 (va_A [(h0, .inr (2, [.int full, .ref a1, .ref a2, .int cnt])), (a1, .inl (k1, 42, .inl vf)), (a2, .inl (k2, 42, .inr (.inl hf)))] sz) := by
  refine Met.ofW (cc := b_Water_partsAsWarmAs) (maxL := 4) (ret := (some .int)) (by decide) rfl ?_
  intro p e s m args below meth c s₁ B hml hv
  obtain ⟨rfl, hsz, hP, hK, hD0, hE⟩ := hv
  have hx := B.exec
  have hb := B.bytes
  have hr := B.returns
  have hts := atoms_spec (ws := w_Water_partsAsWarmAs) B.pre
  have hown : s.vm.findClass R_Water = some m.cls := findClass_of_methodNamed B.named
  have hlocks := B.notSynchronized
  subst hsz
  have hD := hD0.self (sz := s.heap.size)
  generalize hAe : va_A [(h0, .inr (2, [.int full, .ref a1, .ref a2, .int cnt])), (a1, .inl (k1, 42, .inl vf)), (a2, .inl (k2, 42, .inr (.inl hf)))] s.heap.size = A at hD ⊢
  have hA : ∀ q : Nat, s.heap.size ≤ q → A q := fun q h => by rw [← hAe]; exact Or.inr h
  clear hAe hD0
  have loop : ∀ n : Nat, (∀ (x1 : Int32) (x2 : Int32) (x3 : Int32), gx_fx (st_Water_partsAsWarmAs N full cnt vf hf) n (x1, x2, x3) = some res → ∀ (H : Heap) (locs : List Loc), va_P (dC, dI) classes [(h0, .inr (2, [.int full, .ref a1, .ref a2, .int cnt])), (a1, .inl (k1, 42, .inl vf)), (a2, .inl (k2, 42, .inr (.inl hf)))] H → va_D A [(h0, .inr (2, [.int full, .ref a1, .ref a2, .int cnt])), (a1, .inl (k1, 42, .inl vf)), (a2, .inl (k2, 42, .inr (.inl hf)))] → va_S A s.heap H locs → ∀ (ls : Array Slot), lv_has ls 4 [(0, .ref h0), (1, .int x1), (2, .int x2), (3, .int x3)] → W p l e ({ frames := 0, cells := 0, slots := 0, locals := 0 } : Room) s m ([.ref h0, .int p1] : List Value).toArray below meth c H locs 0 0 (MQ below (va_Qi (fun (r : Int32) (_ : Unit) => r = res) (fun _ t => va_P (dC, dI) classes [(h0, .inr (2, [.int full, .ref a1, .ref a2, .int cnt])), (a1, .inl (k1, 42, .inl vf)), (a2, .inl (k2, 42, .inr (.inl hf)))] t.heap ∧ va_K (dC, dI) classes [(k1, .int), (k2, .long)] t ∧ va_D A [(h0, .inr (2, [.int full, .ref a1, .ref a2, .int cnt])), (a1, .inl (k1, 42, .inl vf)), (a2, .inl (k2, 42, .inr (.inl hf)))]) A) ([.ref h0, .int p1] : List Value).toArray s 0 0 A) (F0 m 4 ls [])) := by
    intro n
    induction n with
    | zero => exact fun _ _ _ h => gx_fx0 h
    | succ n ih =>
        intro x1 x2 x3 h H locs hP hD hS ls hl
        replace h : bk_Water_partsAsWarmAs_4 N full cnt vf hf (gx_fx (st_Water_partsAsWarmAs N full cnt vf hf) n) x1 x2 x3 = some res := h
        unfold bk_Water_partsAsWarmAs_4 at h
        refine lv_iload_n hx hb d_Water_partsAsWarmAs_4 rfl (lv_at hl 3 rfl) ?_
        refine lv_aload_n hx hb d_Water_partsAsWarmAs_5 rfl (lv_at hl 0 rfl) ?_
        refine va_get (D := (dC, dI)) (ci := 2) (v := .int cnt) (C := R_Water) (T := F_Water) (N := 4) hx hb hts (gx_in i_Water) hown hK hP 0 rfl rfl 3 (by decide) (hts _ (gx_w mw_177)) (fun _ h9 => h9) rfl d_Water_partsAsWarmAs_6 ?_
        refine lv_icmp_ge (tgt := 47) hx hb d_Water_partsAsWarmAs_9 (by decide) (fun c1 => ?_) (fun c1 => ?_)
        · replace h := gx_pos c1 h
          refine lv_iload_n hx hb d_Water_partsAsWarmAs_47 rfl (lv_at hl 2 rfl) ?_
          rw [← Option.some.inj h]
          have hP9 := hP
          have hD9 := hD
          exact W.iret (v := x2) hx hb hr (fun t ht hW => ⟨⟨x2, (), rfl, rfl, ⟨by rw [ht]; exact hP9, va_K.moved hW.alike hK, hD9⟩⟩, hS.F ht⟩) hS.2.2 d_Water_partsAsWarmAs_48
        · replace h := gx_neg c1 h
          refine lv_aload_n hx hb d_Water_partsAsWarmAs_12 rfl (lv_at hl 0 rfl) ?_
          refine va_get (D := (dC, dI)) (ci := 2) (v := .ref a2) (C := R_Water) (T := F_Water) (N := 4) hx hb hts (gx_in i_Water) hown hK hP 0 rfl rfl 2 (by decide) (hts _ (gx_w mw_175)) (fun _ h9 => h9) rfl d_Water_partsAsWarmAs_13 ?_
          refine lv_iload_n hx hb d_Water_partsAsWarmAs_16 rfl (lv_at hl 3 rfl) ?_
          obtain ⟨hi2, h⟩ := gx_inb_of h
          refine va_lald hx hb hK hP 2 1 rfl rfl hi2 d_Water_partsAsWarmAs_17 ?_
          refine lv_aload_n hx hb d_Water_partsAsWarmAs_18 rfl (lv_at hl 0 rfl) ?_
          refine va_get (D := (dC, dI)) (ci := 2) (v := .ref a1) (C := R_Water) (T := F_Water) (N := 4) hx hb hts (gx_in i_Water) hown hK hP 0 rfl rfl 1 (by decide) (hts _ (gx_w mw_173)) (fun _ h9 => h9) rfl d_Water_partsAsWarmAs_19 ?_
          refine lv_iload_n hx hb d_Water_partsAsWarmAs_22 rfl (lv_at hl 3 rfl) ?_
          obtain ⟨hi3, h⟩ := gx_inb_of h
          refine va_iald hx hb hK hP 1 0 rfl rfl hi3 d_Water_partsAsWarmAs_23 ?_
          refine lv_i2l (v := (vf x3.toNatClampNeg).toInt64) hx hb d_Water_partsAsWarmAs_24 rfl ?_
          refine lv_iload_n hx hb d_Water_partsAsWarmAs_25 rfl (lv_at hl 1 rfl) ?_
          refine lv_i2l (v := x1.toInt64) hx hb d_Water_partsAsWarmAs_26 rfl ?_
          refine lv_lmul hx hb d_Water_partsAsWarmAs_27 ?_
          refine W.lcmp hx hb d_Water_partsAsWarmAs_28 ?_
          refine lv_if_lt (tgt := 41) hx hb d_Water_partsAsWarmAs_29 (by decide) (fun c4 => ?_) (fun c4 => ?_)
          · replace h := gx_pos c4 h
            refine lv_iinc (v := x3 + 1) (lv' := [(3, .int (x3 + 1)), (0, .ref h0), (1, .int x1), (2, .int x2)]) hx hb d_Water_partsAsWarmAs_41 hl (k := 3) rfl rfl (by decide) rfl (fun ls hl => ?_)
            refine lv_goto (tgt := 4) hx hb d_Water_partsAsWarmAs_44 (by decide) ?_
            exact ih x1 x2 (x3 + 1) h _ _ hP hD hS ls (lv_sub hl [1, 2, 3, 0] rfl)
          · replace h := gx_neg c4 h
            refine lv_iload_n hx hb d_Water_partsAsWarmAs_32 rfl (lv_at hl 2 rfl) ?_
            refine lv_aload_n hx hb d_Water_partsAsWarmAs_33 rfl (lv_at hl 0 rfl) ?_
            refine va_get (D := (dC, dI)) (ci := 2) (v := .ref a1) (C := R_Water) (T := F_Water) (N := 4) hx hb hts (gx_in i_Water) hown hK hP 0 rfl rfl 1 (by decide) (hts _ (gx_w mw_173)) (fun _ h9 => h9) rfl d_Water_partsAsWarmAs_34 ?_
            refine lv_iload_n hx hb d_Water_partsAsWarmAs_37 rfl (lv_at hl 3 rfl) ?_
            obtain ⟨hi5, h⟩ := gx_inb_of h
            refine va_iald hx hb hK hP 1 0 rfl rfl hi5 d_Water_partsAsWarmAs_38 ?_
            refine lv_iadd hx hb d_Water_partsAsWarmAs_39 ?_
            refine lv_istore_n (lv' := [(2, .int (x2 + (vf x3.toNatClampNeg))), (0, .ref h0), (1, .int x1), (3, .int x3)]) hx hb d_Water_partsAsWarmAs_40 rfl hl (by decide) rfl (fun ls hl => ?_)
            refine lv_iinc (v := x3 + 1) (lv' := [(3, .int (x3 + 1)), (2, .int (x2 + (vf x3.toNatClampNeg))), (0, .ref h0), (1, .int x1)]) hx hb d_Water_partsAsWarmAs_41 hl (k := 3) rfl rfl (by decide) rfl (fun ls hl => ?_)
            refine lv_goto (tgt := 4) hx hb d_Water_partsAsWarmAs_44 (by decide) ?_
            exact ih x1 (x2 + (vf x3.toNatClampNeg)) (x3 + 1) h _ _ hP hD hS ls (lv_sub hl [2, 3, 1, 0] rfl)
  have key : ∀ (H : Heap) (locs : List Loc), va_P (dC, dI) classes [(h0, .inr (2, [.int full, .ref a1, .ref a2, .int cnt])), (a1, .inl (k1, 42, .inl vf)), (a2, .inl (k2, 42, .inr (.inl hf)))] H → va_D A [(h0, .inr (2, [.int full, .ref a1, .ref a2, .int cnt])), (a1, .inl (k1, 42, .inl vf)), (a2, .inl (k2, 42, .inr (.inl hf)))] → va_S A s.heap H locs → ∀ (ls : Array Slot), lv_has ls 4 [(0, .ref h0), (1, .int p1)] → W p l e ({ frames := 0, cells := 0, slots := 0, locals := 0 } : Room) s m ([.ref h0, .int p1] : List Value).toArray below meth c H locs 0 0 (MQ below (va_Qi (fun (r : Int32) (_ : Unit) => r = res) (fun _ t => va_P (dC, dI) classes [(h0, .inr (2, [.int full, .ref a1, .ref a2, .int cnt])), (a1, .inl (k1, 42, .inl vf)), (a2, .inl (k2, 42, .inr (.inl hf)))] t.heap ∧ va_K (dC, dI) classes [(k1, .int), (k2, .long)] t ∧ va_D A [(h0, .inr (2, [.int full, .ref a1, .ref a2, .int cnt])), (a1, .inl (k1, 42, .inl vf)), (a2, .inl (k2, 42, .inr (.inl hf)))]) A) ([.ref h0, .int p1] : List Value).toArray s 0 0 A) (F0 m 0 ls []) := by
    intro H locs hP hD hS ls hl
    unfold fn_Water_partsAsWarmAs at h
    refine lv_iconst (v := 0) hx hb d_Water_partsAsWarmAs_0 (by decide) ?_
    refine lv_istore_n (lv' := [(2, .int 0), (0, .ref h0), (1, .int p1)]) hx hb d_Water_partsAsWarmAs_1 rfl hl (by decide) rfl (fun ls hl => ?_)
    refine lv_iconst (v := 0) hx hb d_Water_partsAsWarmAs_2 (by decide) ?_
    refine lv_istore_n (lv' := [(3, .int 0), (2, .int 0), (0, .ref h0), (1, .int p1)]) hx hb d_Water_partsAsWarmAs_3 rfl hl (by decide) rfl (fun ls hl => ?_)
    exact (loop N) p1 0 0 h _ _ hP hD hS ls (lv_sub hl [2, 3, 1, 0] rfl)
  have hl := lv_entry ([.ref h0, .int p1]) (n := 4) (Nat.le_of_ble_eq_true rfl)
  rw [lg_entry_eq]
  generalize (lg_sl ([.ref h0, .int p1]) ++ List.replicate (4 - (lg_sl ([.ref h0, .int p1])).length) Slot.unset).toArray = ls at hl ⊢
  exact key _ _ hP hD va_S.rf ls hl
def fn_Water_comeIn (N : Nat) (p1 : Int32) (p2 : Int32) (p3 : Int64) (full : Int32) (cnt : Int32) (vf : Nat → Int32) (hf : Nat → Int64) : Option (Int32 × (Nat → Int32) × (Nat → Int64)) :=
  (fn_Water_cutAt N p1 full cnt vf hf).bind (fun ur1 => (fn_Water_insertLayer N ur1.1 p2 p3 full ur1.2.1 ur1.2.2.1 ur1.2.2.2).bind (fun ur2 => (fn_Water_mix N full ur2.1 ur2.2.1 ur2.2.2).bind (fun ur3 => some (ur3.1, ur3.2.1, ur3.2.2))))
def w_Water_comeIn : List Cond := .code y_Water_comeIn b_Water_comeIn 5 none :: gx_W
set_option maxHeartbeats 4000000 in
set_option maxRecDepth 100000 in
theorem c_Water_comeIn (N : Nat) (l : Launch) (dC : Nat → ClassId) (dI : Nat → Nat → Nat) (h0 : Nat) (a1 : Nat) (a2 : Nat) (k1 : ClassId) (k2 : ClassId) (sz : Nat) (full : Int32) (cnt : Int32) (vf : Nat → Int32) (hf : Nat → Int64) (p1 : Int32) (p2 : Int32) (p3 : Int64) (res : Int32 × (Nat → Int32) × (Nat → Int64)) (h : fn_Water_comeIn N p1 p2 p3 full cnt vf hf = some res) : Met l y_Water_comeIn w_Water_comeIn ({ frames := 3, cells := 0, slots := 0, locals := 76 } : Room) (va_Pc [.ref h0, .int p1, .int p2, .long p3] (fun U => U.heap.size = sz ∧ va_P (dC, dI) classes [(h0, .inr (2, [.int full, .ref a1, .ref a2, .int cnt])), (a1, .inl (k1, 42, .inl vf)), (a2, .inl (k2, 42, .inr (.inl hf)))] U.heap ∧ va_K (dC, dI) classes [(k1, .int), (k2, .long)] U ∧ va_D (fun _ => True) [(h0, .inr (2, [.int full, .ref a1, .ref a2, .int cnt])), (a1, .inl (k1, 42, .inl vf)), (a2, .inl (k2, 42, .inr (.inl hf)))] ∧ gx_E U)) (va_Qv (fun _ : Unit => True) (fun _ t => va_P (dC, dI) classes [(h0, .inr (2, [.int full, .ref a1, .ref a2, .int res.1])), (a1, .inl (k1, 42, .inl res.2.1)), (a2, .inl (k2, 42, .inr (.inl res.2.2)))] t.heap ∧ va_K (dC, dI) classes [(k1, .int), (k2, .long)] t ∧ va_D (va_A [(h0, .inr (2, [.int full, .ref a1, .ref a2, .int cnt])), (a1, .inl (k1, 42, .inl vf)), (a2, .inl (k2, 42, .inr (.inl hf)))] sz) [(h0, .inr (2, [.int full, .ref a1, .ref a2, .int res.1])), (a1, .inl (k1, 42, .inl res.2.1)), (a2, .inl (k2, 42, .inr (.inl res.2.2)))]) (va_A [(h0, .inr (2, [.int full, .ref a1, .ref a2, .int cnt])), (a1, .inl (k1, 42, .inl vf)), (a2, .inl (k2, 42, .inr (.inl hf)))] sz)) 0 0 (va_A [(h0, .inr (2, [.int full, .ref a1, .ref a2, .int cnt])), (a1, .inl (k1, 42, .inl vf)), (a2, .inl (k2, 42, .inr (.inl hf)))] sz) := by
  refine Met.ofW (cc := b_Water_comeIn) (maxL := 5) (ret := none) (by decide) rfl ?_
  intro p e s m args below meth c s₁ B hml hv
  obtain ⟨rfl, hsz, hP, hK, hD0, hE⟩ := hv
  have hx := B.exec
  have hb := B.bytes
  have hr := B.returns
  have hts := atoms_spec (ws := w_Water_comeIn) B.pre
  have hown : s.vm.findClass R_Water = some m.cls := findClass_of_methodNamed B.named
  have hlocks := B.notSynchronized
  subst hsz
  have hD := hD0.self (sz := s.heap.size)
  generalize hAe : va_A [(h0, .inr (2, [.int full, .ref a1, .ref a2, .int cnt])), (a1, .inl (k1, 42, .inl vf)), (a2, .inl (k2, 42, .inr (.inl hf)))] s.heap.size = A at hD ⊢
  have hA : ∀ q : Nat, s.heap.size ≤ q → A q := fun q h => by rw [← hAe]; exact Or.inr h
  clear hAe hD0
  have key : ∀ (H : Heap) (locs : List Loc), va_P (dC, dI) classes [(h0, .inr (2, [.int full, .ref a1, .ref a2, .int cnt])), (a1, .inl (k1, 42, .inl vf)), (a2, .inl (k2, 42, .inr (.inl hf)))] H → va_D A [(h0, .inr (2, [.int full, .ref a1, .ref a2, .int cnt])), (a1, .inl (k1, 42, .inl vf)), (a2, .inl (k2, 42, .inr (.inl hf)))] → va_S A s.heap H locs → ∀ (ls : Array Slot), lv_has ls 5 [(0, .ref h0), (1, .int p1), (2, .int p2), (3, .long p3)] → W p l e ({ frames := 3, cells := 0, slots := 0, locals := 76 } : Room) s m ([.ref h0, .int p1, .int p2, .long p3] : List Value).toArray below meth c H locs 0 0 (MQ below (va_Qv (fun _ : Unit => True) (fun _ t => va_P (dC, dI) classes [(h0, .inr (2, [.int full, .ref a1, .ref a2, .int res.1])), (a1, .inl (k1, 42, .inl res.2.1)), (a2, .inl (k2, 42, .inr (.inl res.2.2)))] t.heap ∧ va_K (dC, dI) classes [(k1, .int), (k2, .long)] t ∧ va_D A [(h0, .inr (2, [.int full, .ref a1, .ref a2, .int res.1])), (a1, .inl (k1, 42, .inl res.2.1)), (a2, .inl (k2, 42, .inr (.inl res.2.2)))]) A) ([.ref h0, .int p1, .int p2, .long p3] : List Value).toArray s 0 0 A) (F0 m 0 ls []) := by
    intro H locs hP hD hS ls hl
    unfold fn_Water_comeIn at h
    refine lv_aload_n hx hb d_Water_comeIn_0 rfl (lv_at hl 0 rfl) ?_
    refine lv_aload_n hx hb d_Water_comeIn_1 rfl (lv_at hl 0 rfl) ?_
    refine lv_iload_n hx hb d_Water_comeIn_2 rfl (lv_at hl 1 rfl) ?_
    have hPc := hP.sub (ws' := [(h0, .inr (2, [.int full, .ref a1, .ref a2, .int cnt])), (a1, .inl (k1, 42, .inl vf)), (a2, .inl (k2, 42, .inr (.inl hf)))]) [0, 1, 2] rfl
    have hDc := hD.sub (ws' := [(h0, .inr (2, [.int full, .ref a1, .ref a2, .int cnt])), (a1, .inl (k1, 42, .inl vf)), (a2, .inl (k2, 42, .inr (.inl hf)))]) [0, 1, 2] (by decide) rfl
    have hKc := hK.sub (tys' := [(k1, .int), (k2, .long)]) [0, 1] rfl
    have hFc := va_free (wc := [(h0, .inr (2, [.int full, .ref a1, .ref a2, .int cnt])), (a1, .inl (k1, 42, .inl vf)), (a2, .inl (k2, 42, .inr (.inl hf)))]) hD hS hA [0, 1, 2] rfl
    obtain ⟨ur1, hc1, h⟩ := gx_bind h
    refine va_calli (va_runV (As := [.int p1]) (rest := [.ref h0]) ⟨hx, hb, hml, hown, hts⟩ (c_Water_cutAt N l dC dI h0 a1 a2 k1 k2 H.size full cnt vf hf p1 ur1 hc1) (cwV 1 hts (gx_gV mw_321 mw_318 mw_320 mw_2 mw_32) rfl rfl rfl (by decide +kernel) ⟨Nat.le_of_ble_eq_true rfl, Nat.le_of_ble_eq_true rfl⟩) ⟨fun a U g mk q => by obtain ⟨q0, q1, qP, qK, qD, qE⟩ := q; exact ⟨q0, q1, qP, va_K.moved (u := U) (U := U.calling g mk a) (Vm.Alike.refl U.vm) qK, qD, qE.calls⟩, va_recv hKc hPc (ci := 2) (q0 := 0) rfl rfl, fun U hU hW => ⟨rfl, by rw [hU], by rw [hU]; exact hPc, va_K.moved hW.alike hKc, hDc.weaken (fun _ _ _ _ => trivial), hE.warm hW⟩⟩ rfl rfl hl.1 rfl (lv_room (Nat.le_of_ble_eq_true rfl)) d_Water_comeIn_3 ⟨(Nat.zero_le _), (Nat.zero_le _)⟩) hS (fun q _ h => hFc q h) hFc (fun r1 _ t H locs ht hvm hw hB hz1 hk1 hS => ?_)
    obtain ⟨hP1, hK1, hD1⟩ := hB
    rw [ht] at hP1
    rw [hw]
    obtain ⟨hP, hD⟩ := va_join (wr := []) (w1 := [(h0, .inr (2, [.int full, .ref a1, .ref a2, .int ur1.2.1])), (a1, .inl (k1, 42, .inl ur1.2.2.1)), (a2, .inl (k2, 42, .inr (.inl ur1.2.2.2)))]) hP hD [0, 1, 2] [] rfl rfl (by decide) (by decide) hk1 hFc hP1 hD1
    have hP : va_P (dC, dI) classes [(h0, .inr (2, [.int full, .ref a1, .ref a2, .int ur1.2.1])), (a1, .inl (k1, 42, .inl ur1.2.2.1)), (a2, .inl (k2, 42, .inr (.inl ur1.2.2.2)))] H := hP
    have hD : va_D A [(h0, .inr (2, [.int full, .ref a1, .ref a2, .int ur1.2.1])), (a1, .inl (k1, 42, .inl ur1.2.2.1)), (a2, .inl (k2, 42, .inr (.inl ur1.2.2.2)))] := hD
    refine lv_iload_n hx hb d_Water_comeIn_6 rfl (lv_at hl 2 rfl) ?_
    refine lv_lload_n hx hb d_Water_comeIn_7 rfl (lv_at hl 3 rfl) ?_
    have hPc := hP.sub (ws' := [(h0, .inr (2, [.int full, .ref a1, .ref a2, .int ur1.2.1])), (a1, .inl (k1, 42, .inl ur1.2.2.1)), (a2, .inl (k2, 42, .inr (.inl ur1.2.2.2)))]) [0, 1, 2] rfl
    have hDc := hD.sub (ws' := [(h0, .inr (2, [.int full, .ref a1, .ref a2, .int ur1.2.1])), (a1, .inl (k1, 42, .inl ur1.2.2.1)), (a2, .inl (k2, 42, .inr (.inl ur1.2.2.2)))]) [0, 1, 2] (by decide) rfl
    have hKc := hK.sub (tys' := [(k1, .int), (k2, .long)]) [0, 1] rfl
    have hFc := va_free (wc := [(h0, .inr (2, [.int full, .ref a1, .ref a2, .int ur1.2.1])), (a1, .inl (k1, 42, .inl ur1.2.2.1)), (a2, .inl (k2, 42, .inr (.inl ur1.2.2.2)))]) hD hS hA [0, 1, 2] rfl
    obtain ⟨ur2, hc2, h⟩ := gx_bind h
    refine va_callv (va_runV (As := [.int ur1.1, .int p2, .long p3]) (rest := []) ⟨hx, hb, hml, hown, hts⟩ (c_Water_insertLayer N l dC dI h0 a1 a2 k1 k2 H.size full ur1.2.1 ur1.2.2.1 ur1.2.2.2 ur1.1 p2 p3 ur2 hc2) (cwV 3 hts (gx_gV mw_331 mw_328 mw_330 mw_3 mw_32) rfl rfl rfl (by decide +kernel) ⟨Nat.le_of_ble_eq_true rfl, Nat.le_of_ble_eq_true rfl⟩) ⟨fun a U g mk q => by obtain ⟨q0, q1, qP, qK, qD, qE⟩ := q; exact ⟨q0, q1, qP, va_K.moved (u := U) (U := U.calling g mk a) (Vm.Alike.refl U.vm) qK, qD, qE.calls⟩, va_recv hKc hPc (ci := 2) (q0 := 0) rfl rfl, fun U hU hW => ⟨rfl, by rw [hU], by rw [hU]; exact hPc, va_K.moved hW.alike hKc, hDc.weaken (fun _ _ _ _ => trivial), hE.warm hW⟩⟩ rfl rfl hl.1 rfl (lv_room (Nat.le_of_ble_eq_true rfl)) d_Water_comeIn_8 ⟨(Nat.zero_le _), (Nat.zero_le _)⟩) hS (fun q _ h => hFc q h) hFc (fun _ t H locs ht hvm hw hB hz1 hk1 hS => ?_)
    obtain ⟨hP1, hK1, hD1⟩ := hB
    rw [ht] at hP1
    obtain ⟨hP, hD⟩ := va_join (wr := []) (w1 := [(h0, .inr (2, [.int full, .ref a1, .ref a2, .int ur2.1])), (a1, .inl (k1, 42, .inl ur2.2.1)), (a2, .inl (k2, 42, .inr (.inl ur2.2.2)))]) hP hD [0, 1, 2] [] rfl rfl (by decide) (by decide) hk1 hFc hP1 hD1
    have hP : va_P (dC, dI) classes [(h0, .inr (2, [.int full, .ref a1, .ref a2, .int ur2.1])), (a1, .inl (k1, 42, .inl ur2.2.1)), (a2, .inl (k2, 42, .inr (.inl ur2.2.2)))] H := hP
    have hD : va_D A [(h0, .inr (2, [.int full, .ref a1, .ref a2, .int ur2.1])), (a1, .inl (k1, 42, .inl ur2.2.1)), (a2, .inl (k2, 42, .inr (.inl ur2.2.2)))] := hD
    refine lv_aload_n hx hb d_Water_comeIn_11 rfl (lv_at hl 0 rfl) ?_
    have hPc := hP.sub (ws' := [(h0, .inr (2, [.int full, .ref a1, .ref a2, .int ur2.1])), (a1, .inl (k1, 42, .inl ur2.2.1)), (a2, .inl (k2, 42, .inr (.inl ur2.2.2)))]) [0, 1, 2] rfl
    have hDc := hD.sub (ws' := [(h0, .inr (2, [.int full, .ref a1, .ref a2, .int ur2.1])), (a1, .inl (k1, 42, .inl ur2.2.1)), (a2, .inl (k2, 42, .inr (.inl ur2.2.2)))]) [0, 1, 2] (by decide) rfl
    have hKc := hK.sub (tys' := [(k1, .int), (k2, .long)]) [0, 1] rfl
    have hFc := va_free (wc := [(h0, .inr (2, [.int full, .ref a1, .ref a2, .int ur2.1])), (a1, .inl (k1, 42, .inl ur2.2.1)), (a2, .inl (k2, 42, .inr (.inl ur2.2.2)))]) hD hS hA [0, 1, 2] rfl
    obtain ⟨ur3, hc3, h⟩ := gx_bind h
    refine va_callv (va_runV (As := []) (rest := []) ⟨hx, hb, hml, hown, hts⟩ (c_Water_mix N l dC dI h0 a1 a2 k1 k2 H.size full ur2.1 ur2.2.1 ur2.2.2 ur3 hc3) (cwV 0 hts (gx_gV mw_346 mw_343 mw_345 mw_5 mw_32) rfl rfl rfl (by decide +kernel) ⟨Nat.le_of_ble_eq_true rfl, Nat.le_of_ble_eq_true rfl⟩) ⟨fun a U g mk q => by obtain ⟨q0, q1, qP, qK, qD, qE⟩ := q; exact ⟨q0, q1, qP, va_K.moved (u := U) (U := U.calling g mk a) (Vm.Alike.refl U.vm) qK, qD, qE.calls⟩, va_recv hKc hPc (ci := 2) (q0 := 0) rfl rfl, fun U hU hW => ⟨rfl, by rw [hU], by rw [hU]; exact hPc, va_K.moved hW.alike hKc, hDc.weaken (fun _ _ _ _ => trivial), hE.warm hW⟩⟩ rfl rfl hl.1 rfl (lv_room (Nat.le_of_ble_eq_true rfl)) d_Water_comeIn_12 ⟨(Nat.zero_le _), (Nat.zero_le _)⟩) hS (fun q _ h => hFc q h) hFc (fun _ t H locs ht hvm hw hB hz1 hk1 hS => ?_)
    obtain ⟨hP1, hK1, hD1⟩ := hB
    rw [ht] at hP1
    obtain ⟨hP, hD⟩ := va_join (wr := []) (w1 := [(h0, .inr (2, [.int full, .ref a1, .ref a2, .int ur3.1])), (a1, .inl (k1, 42, .inl ur3.2.1)), (a2, .inl (k2, 42, .inr (.inl ur3.2.2)))]) hP hD [0, 1, 2] [] rfl rfl (by decide) (by decide) hk1 hFc hP1 hD1
    have hP : va_P (dC, dI) classes [(h0, .inr (2, [.int full, .ref a1, .ref a2, .int ur3.1])), (a1, .inl (k1, 42, .inl ur3.2.1)), (a2, .inl (k2, 42, .inr (.inl ur3.2.2)))] H := hP
    have hD : va_D A [(h0, .inr (2, [.int full, .ref a1, .ref a2, .int ur3.1])), (a1, .inl (k1, 42, .inl ur3.2.1)), (a2, .inl (k2, 42, .inr (.inl ur3.2.2)))] := hD
    rw [← Option.some.inj h]
    have hP9 := hP
    have hD9 := hD
    exact W.vret hx hb hr (fun t ht hW => ⟨⟨(), rfl, trivial, ⟨by rw [ht]; exact hP9, va_K.moved hW.alike hK, hD9⟩⟩, hS.F ht⟩) hS.2.2 d_Water_comeIn_15
  have hl := lv_entry ([.ref h0, .int p1, .int p2, .long p3]) (n := 5) (Nat.le_of_ble_eq_true rfl)
  rw [lg_entry_eq]
  generalize (lg_sl ([.ref h0, .int p1, .int p2, .long p3]) ++ List.replicate (5 - (lg_sl ([.ref h0, .int p1, .int p2, .long p3])).length) Slot.unset).toArray = ls at hl ⊢
  exact key _ _ hP hD va_S.rf ls hl
def fn_Water_takeFromAbove (N : Nat) (p1 : Int32) (full : Int32) (cnt : Int32) (vf : Nat → Int32) (hf : Nat → Int64) : Option (Int64 × Int32 × (Nat → Int32) × (Nat → Int64)) :=
  (fn_Water_cutAt N (full - p1) full cnt vf hf).bind (fun ur1 => (fn_Water_heatOfLayers N ur1.1 ur1.2.1 full ur1.2.1 ur1.2.2.1 ur1.2.2.2).bind (fun ur2 => some (ur2, ur1.1, ur1.2.2.1, ur1.2.2.2)))
def w_Water_takeFromAbove : List Cond := .code y_Water_takeFromAbove b_Water_takeFromAbove 5 (some .long) :: gx_W
set_option maxHeartbeats 4000000 in
set_option maxRecDepth 100000 in
theorem c_Water_takeFromAbove (N : Nat) (l : Launch) (dC : Nat → ClassId) (dI : Nat → Nat → Nat) (h0 : Nat) (a1 : Nat) (a2 : Nat) (k1 : ClassId) (k2 : ClassId) (sz : Nat) (full : Int32) (cnt : Int32) (vf : Nat → Int32) (hf : Nat → Int64) (p1 : Int32) (res : Int64 × Int32 × (Nat → Int32) × (Nat → Int64)) (h : fn_Water_takeFromAbove N p1 full cnt vf hf = some res) : Met l y_Water_takeFromAbove w_Water_takeFromAbove ({ frames := 3, cells := 0, slots := 0, locals := 76 } : Room) (va_Pc [.ref h0, .int p1] (fun U => U.heap.size = sz ∧ va_P (dC, dI) classes [(h0, .inr (2, [.int full, .ref a1, .ref a2, .int cnt])), (a1, .inl (k1, 42, .inl vf)), (a2, .inl (k2, 42, .inr (.inl hf)))] U.heap ∧ va_K (dC, dI) classes [(k1, .int), (k2, .long)] U ∧ va_D (fun _ => True) [(h0, .inr (2, [.int full, .ref a1, .ref a2, .int cnt])), (a1, .inl (k1, 42, .inl vf)), (a2, .inl (k2, 42, .inr (.inl hf)))] ∧ gx_E U)) (va_Ql (fun (r : Int64) (_ : Unit) => r = res.1) (fun _ t => va_P (dC, dI) classes [(h0, .inr (2, [.int full, .ref a1, .ref a2, .int res.2.1])), (a1, .inl (k1, 42, .inl res.2.2.1)), (a2, .inl (k2, 42, .inr (.inl res.2.2.2)))] t.heap ∧ va_K (dC, dI) classes [(k1, .int), (k2, .long)] t ∧ va_D (va_A [(h0, .inr (2, [.int full, .ref a1, .ref a2, .int cnt])), (a1, .inl (k1, 42, .inl vf)), (a2, .inl (k2, 42, .inr (.inl hf)))] sz) [(h0, .inr (2, [.int full, .ref a1, .ref a2, .int res.2.1])), (a1, .inl (k1, 42, .inl res.2.2.1)), (a2, .inl (k2, 42, .inr (.inl res.2.2.2)))]) (va_A [(h0, .inr (2, [.int full, .ref a1, .ref a2, .int cnt])), (a1, .inl (k1, 42, .inl vf)), (a2, .inl (k2, 42, .inr (.inl hf)))] sz)) 0 0 (va_A [(h0, .inr (2, [.int full, .ref a1, .ref a2, .int cnt])), (a1, .inl (k1, 42, .inl vf)), (a2, .inl (k2, 42, .inr (.inl hf)))] sz) := by
  refine Met.ofW (cc := b_Water_takeFromAbove) (maxL := 5) (ret := (some .long)) (by decide) rfl ?_
  intro p e s m args below meth c s₁ B hml hv
  obtain ⟨rfl, hsz, hP, hK, hD0, hE⟩ := hv
  have hx := B.exec
  have hb := B.bytes
  have hr := B.returns
  have hts := atoms_spec (ws := w_Water_takeFromAbove) B.pre
  have hown : s.vm.findClass R_Water = some m.cls := findClass_of_methodNamed B.named
  have hlocks := B.notSynchronized
  subst hsz
  have hD := hD0.self (sz := s.heap.size)
  generalize hAe : va_A [(h0, .inr (2, [.int full, .ref a1, .ref a2, .int cnt])), (a1, .inl (k1, 42, .inl vf)), (a2, .inl (k2, 42, .inr (.inl hf)))] s.heap.size = A at hD ⊢
  have hA : ∀ q : Nat, s.heap.size ≤ q → A q := fun q h => by rw [← hAe]; exact Or.inr h
  clear hAe hD0
  have key : ∀ (H : Heap) (locs : List Loc), va_P (dC, dI) classes [(h0, .inr (2, [.int full, .ref a1, .ref a2, .int cnt])), (a1, .inl (k1, 42, .inl vf)), (a2, .inl (k2, 42, .inr (.inl hf)))] H → va_D A [(h0, .inr (2, [.int full, .ref a1, .ref a2, .int cnt])), (a1, .inl (k1, 42, .inl vf)), (a2, .inl (k2, 42, .inr (.inl hf)))] → va_S A s.heap H locs → ∀ (ls : Array Slot), lv_has ls 5 [(0, .ref h0), (1, .int p1)] → W p l e ({ frames := 3, cells := 0, slots := 0, locals := 76 } : Room) s m ([.ref h0, .int p1] : List Value).toArray below meth c H locs 0 0 (MQ below (va_Ql (fun (r : Int64) (_ : Unit) => r = res.1) (fun _ t => va_P (dC, dI) classes [(h0, .inr (2, [.int full, .ref a1, .ref a2, .int res.2.1])), (a1, .inl (k1, 42, .inl res.2.2.1)), (a2, .inl (k2, 42, .inr (.inl res.2.2.2)))] t.heap ∧ va_K (dC, dI) classes [(k1, .int), (k2, .long)] t ∧ va_D A [(h0, .inr (2, [.int full, .ref a1, .ref a2, .int res.2.1])), (a1, .inl (k1, 42, .inl res.2.2.1)), (a2, .inl (k2, 42, .inr (.inl res.2.2.2)))]) A) ([.ref h0, .int p1] : List Value).toArray s 0 0 A) (F0 m 0 ls []) := by
    intro H locs hP hD hS ls hl
    unfold fn_Water_takeFromAbove at h
    refine lv_aload_n hx hb d_Water_takeFromAbove_0 rfl (lv_at hl 0 rfl) ?_
    refine lv_aload_n hx hb d_Water_takeFromAbove_1 rfl (lv_at hl 0 rfl) ?_
    refine va_get (D := (dC, dI)) (ci := 2) (v := .int full) (C := R_Water) (T := F_Water) (N := 4) hx hb hts (gx_in i_Water) hown hK hP 0 rfl rfl 0 (by decide) (hts _ (gx_w mw_171)) (fun _ h9 => h9) rfl d_Water_takeFromAbove_2 ?_
    refine lv_iload_n hx hb d_Water_takeFromAbove_5 rfl (lv_at hl 1 rfl) ?_
    refine lv_isub hx hb d_Water_takeFromAbove_6 ?_
    have hPc := hP.sub (ws' := [(h0, .inr (2, [.int full, .ref a1, .ref a2, .int cnt])), (a1, .inl (k1, 42, .inl vf)), (a2, .inl (k2, 42, .inr (.inl hf)))]) [0, 1, 2] rfl
    have hDc := hD.sub (ws' := [(h0, .inr (2, [.int full, .ref a1, .ref a2, .int cnt])), (a1, .inl (k1, 42, .inl vf)), (a2, .inl (k2, 42, .inr (.inl hf)))]) [0, 1, 2] (by decide) rfl
    have hKc := hK.sub (tys' := [(k1, .int), (k2, .long)]) [0, 1] rfl
    have hFc := va_free (wc := [(h0, .inr (2, [.int full, .ref a1, .ref a2, .int cnt])), (a1, .inl (k1, 42, .inl vf)), (a2, .inl (k2, 42, .inr (.inl hf)))]) hD hS hA [0, 1, 2] rfl
    obtain ⟨ur1, hc1, h⟩ := gx_bind h
    refine va_calli (va_runV (As := [.int (full - p1)]) (rest := []) ⟨hx, hb, hml, hown, hts⟩ (c_Water_cutAt N l dC dI h0 a1 a2 k1 k2 H.size full cnt vf hf (full - p1) ur1 hc1) (cwV 1 hts (gx_gV mw_321 mw_318 mw_320 mw_2 mw_32) rfl rfl rfl (by decide +kernel) ⟨Nat.le_of_ble_eq_true rfl, Nat.le_of_ble_eq_true rfl⟩) ⟨fun a U g mk q => by obtain ⟨q0, q1, qP, qK, qD, qE⟩ := q; exact ⟨q0, q1, qP, va_K.moved (u := U) (U := U.calling g mk a) (Vm.Alike.refl U.vm) qK, qD, qE.calls⟩, va_recv hKc hPc (ci := 2) (q0 := 0) rfl rfl, fun U hU hW => ⟨rfl, by rw [hU], by rw [hU]; exact hPc, va_K.moved hW.alike hKc, hDc.weaken (fun _ _ _ _ => trivial), hE.warm hW⟩⟩ rfl rfl hl.1 rfl (lv_room (Nat.le_of_ble_eq_true rfl)) d_Water_takeFromAbove_7 ⟨(Nat.zero_le _), (Nat.zero_le _)⟩) hS (fun q _ h => hFc q h) hFc (fun r1 _ t H locs ht hvm hw hB hz1 hk1 hS => ?_)
    obtain ⟨hP1, hK1, hD1⟩ := hB
    rw [ht] at hP1
    rw [hw]
    obtain ⟨hP, hD⟩ := va_join (wr := []) (w1 := [(h0, .inr (2, [.int full, .ref a1, .ref a2, .int ur1.2.1])), (a1, .inl (k1, 42, .inl ur1.2.2.1)), (a2, .inl (k2, 42, .inr (.inl ur1.2.2.2)))]) hP hD [0, 1, 2] [] rfl rfl (by decide) (by decide) hk1 hFc hP1 hD1
    have hP : va_P (dC, dI) classes [(h0, .inr (2, [.int full, .ref a1, .ref a2, .int ur1.2.1])), (a1, .inl (k1, 42, .inl ur1.2.2.1)), (a2, .inl (k2, 42, .inr (.inl ur1.2.2.2)))] H := hP
    have hD : va_D A [(h0, .inr (2, [.int full, .ref a1, .ref a2, .int ur1.2.1])), (a1, .inl (k1, 42, .inl ur1.2.2.1)), (a2, .inl (k2, 42, .inr (.inl ur1.2.2.2)))] := hD
    refine lv_istore_n (lv' := [(2, .int ur1.1), (0, .ref h0), (1, .int p1)]) hx hb d_Water_takeFromAbove_10 rfl hl (by decide) rfl (fun ls hl => ?_)
    refine lv_aload_n hx hb d_Water_takeFromAbove_11 rfl (lv_at hl 1 rfl) ?_
    refine lv_iload_n hx hb d_Water_takeFromAbove_12 rfl (lv_at hl 0 rfl) ?_
    refine lv_aload_n hx hb d_Water_takeFromAbove_13 rfl (lv_at hl 1 rfl) ?_
    refine va_get (D := (dC, dI)) (ci := 2) (v := .int ur1.2.1) (C := R_Water) (T := F_Water) (N := 4) hx hb hts (gx_in i_Water) hown hK hP 0 rfl rfl 3 (by decide) (hts _ (gx_w mw_177)) (fun _ h9 => h9) rfl d_Water_takeFromAbove_14 ?_
    have hPc := hP.sub (ws' := [(h0, .inr (2, [.int full, .ref a1, .ref a2, .int ur1.2.1])), (a1, .inl (k1, 42, .inl ur1.2.2.1)), (a2, .inl (k2, 42, .inr (.inl ur1.2.2.2)))]) [0, 1, 2] rfl
    have hDc := hD.sub (ws' := [(h0, .inr (2, [.int full, .ref a1, .ref a2, .int ur1.2.1])), (a1, .inl (k1, 42, .inl ur1.2.2.1)), (a2, .inl (k2, 42, .inr (.inl ur1.2.2.2)))]) [0, 1, 2] (by decide) rfl
    have hKc := hK.sub (tys' := [(k1, .int), (k2, .long)]) [0, 1] rfl
    have hFc := va_free (wc := [(h0, .inr (2, [.int full, .ref a1, .ref a2, .int ur1.2.1])), (a1, .inl (k1, 42, .inl ur1.2.2.1)), (a2, .inl (k2, 42, .inr (.inl ur1.2.2.2)))]) hD hS hA [0, 1, 2] rfl
    obtain ⟨ur2, hc2, h⟩ := gx_bind h
    refine va_calll (va_runV (As := [.int ur1.1, .int ur1.2.1]) (rest := []) ⟨hx, hb, hml, hown, hts⟩ (c_Water_heatOfLayers N l dC dI h0 a1 a2 k1 k2 H.size full ur1.2.1 ur1.2.2.1 ur1.2.2.2 ur1.1 ur1.2.1 ur2 hc2) (cwV 2 hts (gx_gV mw_335 mw_332 mw_334 mw_4 mw_32) rfl rfl rfl (by decide +kernel) ⟨Nat.le_of_ble_eq_true rfl, Nat.le_of_ble_eq_true rfl⟩) ⟨fun a U g mk q => by obtain ⟨q0, q1, qP, qK, qD, qE⟩ := q; exact ⟨q0, q1, qP, va_K.moved (u := U) (U := U.calling g mk a) (Vm.Alike.refl U.vm) qK, qD, qE.calls⟩, va_recv hKc hPc (ci := 2) (q0 := 0) rfl rfl, fun U hU hW => ⟨rfl, by rw [hU], by rw [hU]; exact hPc, va_K.moved hW.alike hKc, hDc.weaken (fun _ _ _ _ => trivial), hE.warm hW⟩⟩ rfl rfl hl.1 rfl (lv_room (Nat.le_of_ble_eq_true rfl)) d_Water_takeFromAbove_17 ⟨(Nat.zero_le _), (Nat.zero_le _)⟩) hS (fun q _ h => hFc q h) hFc (fun r2 _ t H locs ht hvm hw hB hz1 hk1 hS => ?_)
    obtain ⟨hP1, hK1, hD1⟩ := hB
    rw [ht] at hP1
    rw [hw]
    obtain ⟨hP, hD⟩ := va_join (wr := []) (w1 := [(h0, .inr (2, [.int full, .ref a1, .ref a2, .int ur1.2.1])), (a1, .inl (k1, 42, .inl ur1.2.2.1)), (a2, .inl (k2, 42, .inr (.inl ur1.2.2.2)))]) hP hD [0, 1, 2] [] rfl rfl (by decide) (by decide) hk1 hFc hP1 hD1
    have hP : va_P (dC, dI) classes [(h0, .inr (2, [.int full, .ref a1, .ref a2, .int ur1.2.1])), (a1, .inl (k1, 42, .inl ur1.2.2.1)), (a2, .inl (k2, 42, .inr (.inl ur1.2.2.2)))] H := hP
    have hD : va_D A [(h0, .inr (2, [.int full, .ref a1, .ref a2, .int ur1.2.1])), (a1, .inl (k1, 42, .inl ur1.2.2.1)), (a2, .inl (k2, 42, .inr (.inl ur1.2.2.2)))] := hD
    refine lv_lstore_n (lv' := [(3, .long ur2), (2, .int ur1.1), (0, .ref h0), (1, .int p1)]) hx hb d_Water_takeFromAbove_20 rfl hl (by decide) rfl (fun ls hl => ?_)
    refine lv_aload_n hx hb d_Water_takeFromAbove_21 rfl (lv_at hl 2 rfl) ?_
    refine lv_iload_n hx hb d_Water_takeFromAbove_22 rfl (lv_at hl 1 rfl) ?_
    refine va_put (D := (dC, dI)) (ci := 2) (v := .int ur1.1) (ty := .int) (C := R_Water) (T := F_Water) (N := 4) hx hb hts (gx_in i_Water) t_Water t_Water_ok n_Water hown hK hP hD hS 0 rfl rfl 3 (by decide) (hts _ (gx_w mw_177)) (fun _ h9 => h9) rfl (by decide +kernel) rfl rfl (Nat.le_of_ble_eq_true rfl) d_Water_takeFromAbove_23 (fun H locs hP hD hS => ?_)
    have hP : va_P (dC, dI) classes [(h0, .inr (2, [.int full, .ref a1, .ref a2, .int ur1.1])), (a1, .inl (k1, 42, .inl ur1.2.2.1)), (a2, .inl (k2, 42, .inr (.inl ur1.2.2.2)))] H := hP
    have hD : va_D A [(h0, .inr (2, [.int full, .ref a1, .ref a2, .int ur1.1])), (a1, .inl (k1, 42, .inl ur1.2.2.1)), (a2, .inl (k2, 42, .inr (.inl ur1.2.2.2)))] := hD
    refine lv_lload_n hx hb d_Water_takeFromAbove_26 rfl (lv_at hl 0 rfl) ?_
    rw [← Option.some.inj h]
    have hP9 := hP
    have hD9 := hD
    exact W.lret (v := ur2) hx hb hr (fun t ht hW => ⟨⟨ur2, (), rfl, rfl, ⟨by rw [ht]; exact hP9, va_K.moved hW.alike hK, hD9⟩⟩, hS.F ht⟩) hS.2.2 d_Water_takeFromAbove_27
  have hl := lv_entry ([.ref h0, .int p1]) (n := 5) (Nat.le_of_ble_eq_true rfl)
  rw [lg_entry_eq]
  generalize (lg_sl ([.ref h0, .int p1]) ++ List.replicate (5 - (lg_sl ([.ref h0, .int p1])).length) Slot.unset).toArray = ls at hl ⊢
  exact key _ _ hP hD va_S.rf ls hl
