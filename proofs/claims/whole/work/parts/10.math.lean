theorem mw_327 : (Cond.code y_Math_floorDiv b_Math_floorDiv 6 (some .long)) ∈ gx_W := List.mem_filter.mpr ⟨List.mem_of_getElem? (i := 327) (by decide +kernel), by decide +kernel⟩
theorem mw_325 : (Cond.methodLink R_TL 197 y_Math_floorDiv) ∈ gx_W := List.mem_filter.mpr ⟨List.mem_of_getElem? (i := 325) (by decide +kernel), by decide +kernel⟩
theorem mw_326 : (Cond.static y_Math_floorDiv) ∈ gx_W := List.mem_filter.mpr ⟨List.mem_of_getElem? (i := 326) (by decide +kernel), by decide +kernel⟩
theorem mw_36 : (Cond.initialized R_Math) ∈ gx_W := List.mem_filter.mpr ⟨List.mem_of_getElem? (i := 36) (by decide +kernel), by decide +kernel⟩
theorem mw_175 : (Cond.fieldLink R_Water 19 "TankLayers$Water" "heats" "[J") ∈ gx_W := List.mem_filter.mpr ⟨List.mem_of_getElem? (i := 175) (by decide +kernel), by decide +kernel⟩
theorem d_Math_floorDiv_0 : decode b_Math_floorDiv 0 = .ok (.lload_n 0, 1) := by decide +kernel
theorem d_Math_floorDiv_1 : decode b_Math_floorDiv 1 = .ok (.lload_n 2, 1) := by decide +kernel
theorem d_Math_floorDiv_2 : decode b_Math_floorDiv 2 = .ok (.ldiv, 1) := by decide +kernel
theorem d_Math_floorDiv_3 : decode b_Math_floorDiv 3 = .ok (.lstore 4, 2) := by decide +kernel
theorem d_Math_floorDiv_5 : decode b_Math_floorDiv 5 = .ok (.lload_n 0, 1) := by decide +kernel
theorem d_Math_floorDiv_6 : decode b_Math_floorDiv 6 = .ok (.lload_n 2, 1) := by decide +kernel
theorem d_Math_floorDiv_7 : decode b_Math_floorDiv 7 = .ok (.lxor, 1) := by decide +kernel
theorem d_Math_floorDiv_8 : decode b_Math_floorDiv 8 = .ok (.lconst 0, 1) := by decide +kernel
theorem d_Math_floorDiv_9 : decode b_Math_floorDiv 9 = .ok (.lcmp, 1) := by decide +kernel
theorem d_Math_floorDiv_10 : decode b_Math_floorDiv 10 = .ok (.ifCond .ge 17, 3) := by decide +kernel
theorem d_Math_floorDiv_13 : decode b_Math_floorDiv 13 = .ok (.lload 4, 2) := by decide +kernel
theorem d_Math_floorDiv_15 : decode b_Math_floorDiv 15 = .ok (.lload_n 2, 1) := by decide +kernel
theorem d_Math_floorDiv_16 : decode b_Math_floorDiv 16 = .ok (.lmul, 1) := by decide +kernel
theorem d_Math_floorDiv_17 : decode b_Math_floorDiv 17 = .ok (.lload_n 0, 1) := by decide +kernel
theorem d_Math_floorDiv_18 : decode b_Math_floorDiv 18 = .ok (.lcmp, 1) := by decide +kernel
theorem d_Math_floorDiv_19 : decode b_Math_floorDiv 19 = .ok (.ifCond .eq 8, 3) := by decide +kernel
theorem d_Math_floorDiv_22 : decode b_Math_floorDiv 22 = .ok (.lload 4, 2) := by decide +kernel
theorem d_Math_floorDiv_24 : decode b_Math_floorDiv 24 = .ok (.lconst 1, 1) := by decide +kernel
theorem d_Math_floorDiv_25 : decode b_Math_floorDiv 25 = .ok (.lsub, 1) := by decide +kernel
theorem d_Math_floorDiv_26 : decode b_Math_floorDiv 26 = .ok (.lreturn, 1) := by decide +kernel
theorem d_Math_floorDiv_27 : decode b_Math_floorDiv 27 = .ok (.lload 4, 2) := by decide +kernel
theorem d_Math_floorDiv_29 : decode b_Math_floorDiv 29 = .ok (.lreturn, 1) := by decide +kernel
theorem d_Math_floorMod_0 : decode b_Math_floorMod 0 = .ok (.iload_n 0, 1) := by decide +kernel
theorem d_Math_floorMod_1 : decode b_Math_floorMod 1 = .ok (.iload_n 1, 1) := by decide +kernel
theorem d_Math_floorMod_2 : decode b_Math_floorMod 2 = .ok (.irem, 1) := by decide +kernel
theorem d_Math_floorMod_3 : decode b_Math_floorMod 3 = .ok (.istore_n 2, 1) := by decide +kernel
theorem d_Math_floorMod_4 : decode b_Math_floorMod 4 = .ok (.iload_n 0, 1) := by decide +kernel
theorem d_Math_floorMod_5 : decode b_Math_floorMod 5 = .ok (.iload_n 1, 1) := by decide +kernel
theorem d_Math_floorMod_6 : decode b_Math_floorMod 6 = .ok (.ixor, 1) := by decide +kernel
theorem d_Math_floorMod_7 : decode b_Math_floorMod 7 = .ok (.ifCond .ge 11, 3) := by decide +kernel
theorem d_Math_floorMod_10 : decode b_Math_floorMod 10 = .ok (.iload_n 2, 1) := by decide +kernel
theorem d_Math_floorMod_11 : decode b_Math_floorMod 11 = .ok (.ifCond .eq 7, 3) := by decide +kernel
theorem d_Math_floorMod_14 : decode b_Math_floorMod 14 = .ok (.iload_n 2, 1) := by decide +kernel
theorem d_Math_floorMod_15 : decode b_Math_floorMod 15 = .ok (.iload_n 1, 1) := by decide +kernel
theorem d_Math_floorMod_16 : decode b_Math_floorMod 16 = .ok (.iadd, 1) := by decide +kernel
theorem d_Math_floorMod_17 : decode b_Math_floorMod 17 = .ok (.ireturn, 1) := by decide +kernel
theorem d_Math_floorMod_18 : decode b_Math_floorMod 18 = .ok (.iload_n 2, 1) := by decide +kernel
theorem d_Math_floorMod_19 : decode b_Math_floorMod 19 = .ok (.ireturn, 1) := by decide +kernel
theorem d_Math_min_0 : decode b_Math_min 0 = .ok (.iload_n 0, 1) := by decide +kernel
theorem d_Math_min_1 : decode b_Math_min 1 = .ok (.iload_n 1, 1) := by decide +kernel
theorem d_Math_min_2 : decode b_Math_min 2 = .ok (.if_icmp .gt 7, 3) := by decide +kernel
theorem d_Math_min_5 : decode b_Math_min 5 = .ok (.iload_n 0, 1) := by decide +kernel
theorem d_Math_min_6 : decode b_Math_min 6 = .ok (.goto 4, 3) := by decide +kernel
theorem d_Math_min_9 : decode b_Math_min 9 = .ok (.iload_n 1, 1) := by decide +kernel
theorem d_Math_min_10 : decode b_Math_min 10 = .ok (.ireturn, 1) := by decide +kernel
theorem d_TL_shareOf_0 : decode b_TL_shareOf 0 = .ok (.lload 4, 2) := by decide +kernel
theorem d_TL_shareOf_2 : decode b_TL_shareOf 2 = .ok (.lconst 0, 1) := by decide +kernel
theorem d_TL_shareOf_3 : decode b_TL_shareOf 3 = .ok (.lcmp, 1) := by decide +kernel
theorem d_TL_shareOf_4 : decode b_TL_shareOf 4 = .ok (.ifCond .gt 5, 3) := by decide +kernel
theorem d_TL_shareOf_7 : decode b_TL_shareOf 7 = .ok (.lconst 0, 1) := by decide +kernel
theorem d_TL_shareOf_8 : decode b_TL_shareOf 8 = .ok (.lreturn, 1) := by decide +kernel
theorem d_TL_shareOf_9 : decode b_TL_shareOf 9 = .ok (.lload_n 0, 1) := by decide +kernel
theorem d_TL_shareOf_10 : decode b_TL_shareOf 10 = .ok (.lload_n 2, 1) := by decide +kernel
theorem d_TL_shareOf_11 : decode b_TL_shareOf 11 = .ok (.lmul, 1) := by decide +kernel
theorem d_TL_shareOf_12 : decode b_TL_shareOf 12 = .ok (.lload 4, 2) := by decide +kernel
theorem d_TL_shareOf_14 : decode b_TL_shareOf 14 = .ok (.invokestatic 197, 3) := by decide +kernel
theorem d_TL_shareOf_17 : decode b_TL_shareOf 17 = .ok (.lreturn, 1) := by decide +kernel
theorem d_Water_heatOfLayers_0 : decode b_Water_heatOfLayers 0 = .ok (.lconst 0, 1) := by decide +kernel
theorem d_Water_heatOfLayers_1 : decode b_Water_heatOfLayers 1 = .ok (.lstore_n 3, 1) := by decide +kernel
theorem d_Water_heatOfLayers_2 : decode b_Water_heatOfLayers 2 = .ok (.iload_n 1, 1) := by decide +kernel
theorem d_Water_heatOfLayers_3 : decode b_Water_heatOfLayers 3 = .ok (.istore 5, 2) := by decide +kernel
theorem d_Water_heatOfLayers_5 : decode b_Water_heatOfLayers 5 = .ok (.iload 5, 2) := by decide +kernel
theorem d_Water_heatOfLayers_7 : decode b_Water_heatOfLayers 7 = .ok (.iload_n 2, 1) := by decide +kernel
theorem d_Water_heatOfLayers_8 : decode b_Water_heatOfLayers 8 = .ok (.if_icmp .ge 19, 3) := by decide +kernel
theorem d_Water_heatOfLayers_11 : decode b_Water_heatOfLayers 11 = .ok (.lload_n 3, 1) := by decide +kernel
theorem d_Water_heatOfLayers_12 : decode b_Water_heatOfLayers 12 = .ok (.aload_n 0, 1) := by decide +kernel
theorem d_Water_heatOfLayers_13 : decode b_Water_heatOfLayers 13 = .ok (.getfield 19, 3) := by decide +kernel
theorem d_Water_heatOfLayers_16 : decode b_Water_heatOfLayers 16 = .ok (.iload 5, 2) := by decide +kernel
theorem d_Water_heatOfLayers_18 : decode b_Water_heatOfLayers 18 = .ok (.laload, 1) := by decide +kernel
theorem d_Water_heatOfLayers_19 : decode b_Water_heatOfLayers 19 = .ok (.ladd, 1) := by decide +kernel
theorem d_Water_heatOfLayers_20 : decode b_Water_heatOfLayers 20 = .ok (.lstore_n 3, 1) := by decide +kernel
theorem d_Water_heatOfLayers_21 : decode b_Water_heatOfLayers 21 = .ok (.iinc 5 1, 3) := by decide +kernel
theorem d_Water_heatOfLayers_24 : decode b_Water_heatOfLayers 24 = .ok (.goto (-19), 3) := by decide +kernel
theorem d_Water_heatOfLayers_27 : decode b_Water_heatOfLayers 27 = .ok (.lload_n 3, 1) := by decide +kernel
theorem d_Water_heatOfLayers_28 : decode b_Water_heatOfLayers 28 = .ok (.lreturn, 1) := by decide +kernel
def fn_Math_floorDiv (N : Nat) (p1 : Int64) (p2 : Int64) : Option (Int64) :=
  if p2 = 0 then none else if 0 ≤ (lg_cmp (p1 ^^^ p2) 0) then some (p1 / p2) else if (lg_cmp ((p1 / p2) * p2) p1) = 0 then some (p1 / p2) else some ((p1 / p2) - 1)
def w_Math_floorDiv : List Cond := .code y_Math_floorDiv b_Math_floorDiv 6 (some .long) :: gx_W
set_option maxHeartbeats 4000000 in
set_option maxRecDepth 100000 in
theorem c_Math_floorDiv (N : Nat) (l : Launch) (dC : Nat → ClassId) (dI : Nat → Nat → Nat) (sz : Nat) (p1 : Int64) (p2 : Int64) (res : Int64) (h : fn_Math_floorDiv N p1 p2 = some res) : Met l y_Math_floorDiv w_Math_floorDiv ({ frames := 0, cells := 0, slots := 0, locals := 0 } : Room) (va_Pc [.long p1, .long p2] (fun U => U.heap.size = sz ∧ va_P (dC, dI) classes [] U.heap ∧ va_K (dC, dI) classes [] U ∧ va_D (fun _ => True) [] ∧ gx_E U)) (va_Ql (fun (r : Int64) (_ : Unit) => r = res) (fun _ t => va_P (dC, dI) classes [] t.heap ∧ va_K (dC, dI) classes [] t ∧ va_D (va_A [] sz) []) (va_A [] sz)) 0 0 (va_A [] sz) := by
  refine va_MetF (cc := b_Math_floorDiv) (maxL := 6) (ret := (some .long)) (by decide +kernel) rfl ?_
  intro p e s m args below meth c s₁ B hml hv
  obtain ⟨rfl, hsz, hP, hK, hD0, hE⟩ := hv
  have hx := B.exec
  have hb := B.bytes
  have hr := B.returns
  have hts := atoms_spec (ws := w_Math_floorDiv) B.pre
  have hown : s.vm.findClass R_Math = some m.cls := findClass_of_methodNamed B.named
  have hlocks := B.notSynchronized
  subst hsz
  have hD := hD0.self (sz := s.heap.size)
  generalize hAe : va_A [] s.heap.size = A at hD ⊢
  have hA : ∀ q : Nat, s.heap.size ≤ q → A q := fun q h => by rw [← hAe]; exact Or.inr h
  clear hAe hD0
  have key : ∀ (H : Heap) (locs : List Loc), va_P (dC, dI) classes [] H → va_D A [] → va_S A s.heap H locs → ∀ (ls : Array Slot), lv_has ls 6 [(0, .long p1), (2, .long p2)] → W p l e ({ frames := 0, cells := 0, slots := 0, locals := 0 } : Room) s m ([.long p1, .long p2] : List Value).toArray below meth c H locs 0 0 (MQ below (va_Ql (fun (r : Int64) (_ : Unit) => r = res) (fun _ t => va_P (dC, dI) classes [] t.heap ∧ va_K (dC, dI) classes [] t ∧ va_D A []) A) ([.long p1, .long p2] : List Value).toArray s 0 0 A) (F0 m 0 ls []) := by
    intro H locs hP hD hS ls hl
    unfold fn_Math_floorDiv at h
    refine lv_lload_n hx hb d_Math_floorDiv_0 rfl (lv_at hl 0 rfl) ?_
    refine lv_lload_n hx hb d_Math_floorDiv_1 rfl (lv_at hl 1 rfl) ?_
    obtain ⟨hz1, h⟩ := gx_nz_of h
    refine lv_ldiv hx hb d_Math_floorDiv_2 hz1 ?_
    refine lv_lstore (lv' := [(4, .long (p1 / p2)), (0, .long p1), (2, .long p2)]) hx hb d_Math_floorDiv_3 hl (by decide) rfl (fun ls hl => ?_)
    refine lv_lload_n hx hb d_Math_floorDiv_5 rfl (lv_at hl 1 rfl) ?_
    refine lv_lload_n hx hb d_Math_floorDiv_6 rfl (lv_at hl 2 rfl) ?_
    refine lv_lxor hx hb d_Math_floorDiv_7 ?_
    refine lv_lconst (v := 0) hx hb d_Math_floorDiv_8 (by decide) ?_
    refine W.lcmp hx hb d_Math_floorDiv_9 ?_
    refine lv_if_ge (tgt := 27) hx hb d_Math_floorDiv_10 (by decide) (fun c2 => ?_) (fun c2 => ?_)
    · replace h := gx_pos c2 h
      refine lv_lload hx hb d_Math_floorDiv_27 (lv_at hl 0 rfl) ?_
      rw [← Option.some.inj h]
      have hP9 := hP
      have hD9 := hD
      exact W.lret (v := p1 / p2) hx hb hr (fun t ht hW => ⟨⟨p1 / p2, (), rfl, rfl, ⟨by rw [ht]; exact hP9, va_K.moved hW.alike hK, hD9⟩⟩, hS.F ht⟩) hS.2.2 d_Math_floorDiv_29
    · replace h := gx_neg c2 h
      refine lv_lload hx hb d_Math_floorDiv_13 (lv_at hl 0 rfl) ?_
      refine lv_lload_n hx hb d_Math_floorDiv_15 rfl (lv_at hl 2 rfl) ?_
      refine lv_lmul hx hb d_Math_floorDiv_16 ?_
      refine lv_lload_n hx hb d_Math_floorDiv_17 rfl (lv_at hl 1 rfl) ?_
      refine W.lcmp hx hb d_Math_floorDiv_18 ?_
      refine lv_if_eq (tgt := 27) hx hb d_Math_floorDiv_19 (by decide) (fun c3 => ?_) (fun c3 => ?_)
      · replace h := gx_pos c3 h
        refine lv_lload hx hb d_Math_floorDiv_27 (lv_at hl 0 rfl) ?_
        rw [← Option.some.inj h]
        have hP9 := hP
        have hD9 := hD
        exact W.lret (v := p1 / p2) hx hb hr (fun t ht hW => ⟨⟨p1 / p2, (), rfl, rfl, ⟨by rw [ht]; exact hP9, va_K.moved hW.alike hK, hD9⟩⟩, hS.F ht⟩) hS.2.2 d_Math_floorDiv_29
      · replace h := gx_neg c3 h
        refine lv_lload hx hb d_Math_floorDiv_22 (lv_at hl 0 rfl) ?_
        refine lv_lconst (v := 1) hx hb d_Math_floorDiv_24 (by decide) ?_
        refine lv_lsub hx hb d_Math_floorDiv_25 ?_
        rw [← Option.some.inj h]
        have hP9 := hP
        have hD9 := hD
        exact W.lret (v := (p1 / p2) - 1) hx hb hr (fun t ht hW => ⟨⟨(p1 / p2) - 1, (), rfl, rfl, ⟨by rw [ht]; exact hP9, va_K.moved hW.alike hK, hD9⟩⟩, hS.F ht⟩) hS.2.2 d_Math_floorDiv_26
  have hl := lv_entry ([.long p1, .long p2]) (n := 6) (Nat.le_of_ble_eq_true rfl)
  rw [lg_entry_eq]
  generalize (lg_sl ([.long p1, .long p2]) ++ List.replicate (6 - (lg_sl ([.long p1, .long p2])).length) Slot.unset).toArray = ls at hl ⊢
  exact key _ _ hP hD va_S.rf ls hl
def fn_Math_floorMod (N : Nat) (p1 : Int32) (p2 : Int32) : Option (Int32) :=
  if p2 = 0 then none else if 0 ≤ (p1 ^^^ p2) then some (p1 - p1 / p2 * p2) else if (p1 - p1 / p2 * p2) = 0 then some (p1 - p1 / p2 * p2) else some ((p1 - p1 / p2 * p2) + p2)
def w_Math_floorMod : List Cond := .code y_Math_floorMod b_Math_floorMod 3 (some .int) :: gx_W
set_option maxHeartbeats 4000000 in
set_option maxRecDepth 100000 in
theorem c_Math_floorMod (N : Nat) (l : Launch) (dC : Nat → ClassId) (dI : Nat → Nat → Nat) (sz : Nat) (p1 : Int32) (p2 : Int32) (res : Int32) (h : fn_Math_floorMod N p1 p2 = some res) : Met l y_Math_floorMod w_Math_floorMod ({ frames := 0, cells := 0, slots := 0, locals := 0 } : Room) (va_Pc [.int p1, .int p2] (fun U => U.heap.size = sz ∧ va_P (dC, dI) classes [] U.heap ∧ va_K (dC, dI) classes [] U ∧ va_D (fun _ => True) [] ∧ gx_E U)) (va_Qi (fun (r : Int32) (_ : Unit) => r = res) (fun _ t => va_P (dC, dI) classes [] t.heap ∧ va_K (dC, dI) classes [] t ∧ va_D (va_A [] sz) []) (va_A [] sz)) 0 0 (va_A [] sz) := by
  refine va_MetF (cc := b_Math_floorMod) (maxL := 3) (ret := (some .int)) (by decide +kernel) rfl ?_
  intro p e s m args below meth c s₁ B hml hv
  obtain ⟨rfl, hsz, hP, hK, hD0, hE⟩ := hv
  have hx := B.exec
  have hb := B.bytes
  have hr := B.returns
  have hts := atoms_spec (ws := w_Math_floorMod) B.pre
  have hown : s.vm.findClass R_Math = some m.cls := findClass_of_methodNamed B.named
  have hlocks := B.notSynchronized
  subst hsz
  have hD := hD0.self (sz := s.heap.size)
  generalize hAe : va_A [] s.heap.size = A at hD ⊢
  have hA : ∀ q : Nat, s.heap.size ≤ q → A q := fun q h => by rw [← hAe]; exact Or.inr h
  clear hAe hD0
  have key : ∀ (H : Heap) (locs : List Loc), va_P (dC, dI) classes [] H → va_D A [] → va_S A s.heap H locs → ∀ (ls : Array Slot), lv_has ls 3 [(0, .int p1), (1, .int p2)] → W p l e ({ frames := 0, cells := 0, slots := 0, locals := 0 } : Room) s m ([.int p1, .int p2] : List Value).toArray below meth c H locs 0 0 (MQ below (va_Qi (fun (r : Int32) (_ : Unit) => r = res) (fun _ t => va_P (dC, dI) classes [] t.heap ∧ va_K (dC, dI) classes [] t ∧ va_D A []) A) ([.int p1, .int p2] : List Value).toArray s 0 0 A) (F0 m 0 ls []) := by
    intro H locs hP hD hS ls hl
    unfold fn_Math_floorMod at h
    refine lv_iload_n hx hb d_Math_floorMod_0 rfl (lv_at hl 0 rfl) ?_
    refine lv_iload_n hx hb d_Math_floorMod_1 rfl (lv_at hl 1 rfl) ?_
    obtain ⟨hz1, h⟩ := gx_nz_of h
    refine lv_irem hx hb d_Math_floorMod_2 hz1 ?_
    refine lv_istore_n (lv' := [(2, .int (p1 - p1 / p2 * p2)), (0, .int p1), (1, .int p2)]) hx hb d_Math_floorMod_3 rfl hl (by decide) rfl (fun ls hl => ?_)
    refine lv_iload_n hx hb d_Math_floorMod_4 rfl (lv_at hl 1 rfl) ?_
    refine lv_iload_n hx hb d_Math_floorMod_5 rfl (lv_at hl 2 rfl) ?_
    refine lv_ixor hx hb d_Math_floorMod_6 ?_
    refine lv_if_ge (tgt := 18) hx hb d_Math_floorMod_7 (by decide) (fun c2 => ?_) (fun c2 => ?_)
    · replace h := gx_pos c2 h
      refine lv_iload_n hx hb d_Math_floorMod_18 rfl (lv_at hl 0 rfl) ?_
      rw [← Option.some.inj h]
      have hP9 := hP
      have hD9 := hD
      exact W.iret (v := p1 - p1 / p2 * p2) hx hb hr (fun t ht hW => ⟨⟨p1 - p1 / p2 * p2, (), rfl, rfl, ⟨by rw [ht]; exact hP9, va_K.moved hW.alike hK, hD9⟩⟩, hS.F ht⟩) hS.2.2 d_Math_floorMod_19
    · replace h := gx_neg c2 h
      refine lv_iload_n hx hb d_Math_floorMod_10 rfl (lv_at hl 0 rfl) ?_
      refine lv_if_eq (tgt := 18) hx hb d_Math_floorMod_11 (by decide) (fun c3 => ?_) (fun c3 => ?_)
      · replace h := gx_pos c3 h
        refine lv_iload_n hx hb d_Math_floorMod_18 rfl (lv_at hl 0 rfl) ?_
        rw [← Option.some.inj h]
        have hP9 := hP
        have hD9 := hD
        exact W.iret (v := p1 - p1 / p2 * p2) hx hb hr (fun t ht hW => ⟨⟨p1 - p1 / p2 * p2, (), rfl, rfl, ⟨by rw [ht]; exact hP9, va_K.moved hW.alike hK, hD9⟩⟩, hS.F ht⟩) hS.2.2 d_Math_floorMod_19
      · replace h := gx_neg c3 h
        refine lv_iload_n hx hb d_Math_floorMod_14 rfl (lv_at hl 0 rfl) ?_
        refine lv_iload_n hx hb d_Math_floorMod_15 rfl (lv_at hl 2 rfl) ?_
        refine lv_iadd hx hb d_Math_floorMod_16 ?_
        rw [← Option.some.inj h]
        have hP9 := hP
        have hD9 := hD
        exact W.iret (v := (p1 - p1 / p2 * p2) + p2) hx hb hr (fun t ht hW => ⟨⟨(p1 - p1 / p2 * p2) + p2, (), rfl, rfl, ⟨by rw [ht]; exact hP9, va_K.moved hW.alike hK, hD9⟩⟩, hS.F ht⟩) hS.2.2 d_Math_floorMod_17
  have hl := lv_entry ([.int p1, .int p2]) (n := 3) (Nat.le_of_ble_eq_true rfl)
  rw [lg_entry_eq]
  generalize (lg_sl ([.int p1, .int p2]) ++ List.replicate (3 - (lg_sl ([.int p1, .int p2])).length) Slot.unset).toArray = ls at hl ⊢
  exact key _ _ hP hD va_S.rf ls hl
def fn_Math_min (N : Nat) (p1 : Int32) (p2 : Int32) : Option (Int32) :=
  if p2 < p1 then some p2 else some p1
def w_Math_min : List Cond := .code y_Math_min b_Math_min 2 (some .int) :: gx_W
set_option maxHeartbeats 4000000 in
set_option maxRecDepth 100000 in
theorem c_Math_min (N : Nat) (l : Launch) (dC : Nat → ClassId) (dI : Nat → Nat → Nat) (sz : Nat) (p1 : Int32) (p2 : Int32) (res : Int32) (h : fn_Math_min N p1 p2 = some res) : Met l y_Math_min w_Math_min ({ frames := 0, cells := 0, slots := 0, locals := 0 } : Room) (va_Pc [.int p1, .int p2] (fun U => U.heap.size = sz ∧ va_P (dC, dI) classes [] U.heap ∧ va_K (dC, dI) classes [] U ∧ va_D (fun _ => True) [] ∧ gx_E U)) (va_Qi (fun (r : Int32) (_ : Unit) => r = res) (fun _ t => va_P (dC, dI) classes [] t.heap ∧ va_K (dC, dI) classes [] t ∧ va_D (va_A [] sz) []) (va_A [] sz)) 0 0 (va_A [] sz) := by
  refine va_MetF (cc := b_Math_min) (maxL := 2) (ret := (some .int)) (by decide +kernel) rfl ?_
  intro p e s m args below meth c s₁ B hml hv
  obtain ⟨rfl, hsz, hP, hK, hD0, hE⟩ := hv
  have hx := B.exec
  have hb := B.bytes
  have hr := B.returns
  have hts := atoms_spec (ws := w_Math_min) B.pre
  have hown : s.vm.findClass R_Math = some m.cls := findClass_of_methodNamed B.named
  have hlocks := B.notSynchronized
  subst hsz
  have hD := hD0.self (sz := s.heap.size)
  generalize hAe : va_A [] s.heap.size = A at hD ⊢
  have hA : ∀ q : Nat, s.heap.size ≤ q → A q := fun q h => by rw [← hAe]; exact Or.inr h
  clear hAe hD0
  have key : ∀ (H : Heap) (locs : List Loc), va_P (dC, dI) classes [] H → va_D A [] → va_S A s.heap H locs → ∀ (ls : Array Slot), lv_has ls 2 [(0, .int p1), (1, .int p2)] → W p l e ({ frames := 0, cells := 0, slots := 0, locals := 0 } : Room) s m ([.int p1, .int p2] : List Value).toArray below meth c H locs 0 0 (MQ below (va_Qi (fun (r : Int32) (_ : Unit) => r = res) (fun _ t => va_P (dC, dI) classes [] t.heap ∧ va_K (dC, dI) classes [] t ∧ va_D A []) A) ([.int p1, .int p2] : List Value).toArray s 0 0 A) (F0 m 0 ls []) := by
    intro H locs hP hD hS ls hl
    unfold fn_Math_min at h
    refine lv_iload_n hx hb d_Math_min_0 rfl (lv_at hl 0 rfl) ?_
    refine lv_iload_n hx hb d_Math_min_1 rfl (lv_at hl 1 rfl) ?_
    refine lv_icmp_gt (tgt := 9) hx hb d_Math_min_2 (by decide) (fun c1 => ?_) (fun c1 => ?_)
    · replace h := gx_pos c1 h
      refine lv_iload_n hx hb d_Math_min_9 rfl (lv_at hl 1 rfl) ?_
      rw [← Option.some.inj h]
      have hP9 := hP
      have hD9 := hD
      exact W.iret (v := p2) hx hb hr (fun t ht hW => ⟨⟨p2, (), rfl, rfl, ⟨by rw [ht]; exact hP9, va_K.moved hW.alike hK, hD9⟩⟩, hS.F ht⟩) hS.2.2 d_Math_min_10
    · replace h := gx_neg c1 h
      refine lv_iload_n hx hb d_Math_min_5 rfl (lv_at hl 0 rfl) ?_
      refine lv_goto (tgt := 10) hx hb d_Math_min_6 (by decide) ?_
      rw [← Option.some.inj h]
      have hP9 := hP
      have hD9 := hD
      exact W.iret (v := p1) hx hb hr (fun t ht hW => ⟨⟨p1, (), rfl, rfl, ⟨by rw [ht]; exact hP9, va_K.moved hW.alike hK, hD9⟩⟩, hS.F ht⟩) hS.2.2 d_Math_min_10
  have hl := lv_entry ([.int p1, .int p2]) (n := 2) (Nat.le_of_ble_eq_true rfl)
  rw [lg_entry_eq]
  generalize (lg_sl ([.int p1, .int p2]) ++ List.replicate (2 - (lg_sl ([.int p1, .int p2])).length) Slot.unset).toArray = ls at hl ⊢
  exact key _ _ hP hD va_S.rf ls hl
def fn_TL_shareOf (N : Nat) (p1 : Int64) (p2 : Int64) (p3 : Int64) : Option (Int64) :=
  if 0 < (lg_cmp p3 0) then (fn_Math_floorDiv N (p1 * p2) p3).bind (fun ur2 => some ur2) else some 0
def w_TL_shareOf : List Cond := .code y_TL_shareOf b_TL_shareOf 6 (some .long) :: gx_W
set_option maxHeartbeats 4000000 in
set_option maxRecDepth 100000 in
theorem c_TL_shareOf (N : Nat) (l : Launch) (dC : Nat → ClassId) (dI : Nat → Nat → Nat) (sz : Nat) (p1 : Int64) (p2 : Int64) (p3 : Int64) (res : Int64) (h : fn_TL_shareOf N p1 p2 p3 = some res) : Met l y_TL_shareOf w_TL_shareOf ({ frames := 1, cells := 0, slots := 0, locals := 25 } : Room) (va_Pc [.long p1, .long p2, .long p3] (fun U => U.heap.size = sz ∧ va_P (dC, dI) classes [] U.heap ∧ va_K (dC, dI) classes [] U ∧ va_D (fun _ => True) [] ∧ gx_E U)) (va_Ql (fun (r : Int64) (_ : Unit) => r = res) (fun _ t => va_P (dC, dI) classes [] t.heap ∧ va_K (dC, dI) classes [] t ∧ va_D (va_A [] sz) []) (va_A [] sz)) 0 0 (va_A [] sz) := by
  refine Met.ofW (cc := b_TL_shareOf) (maxL := 6) (ret := (some .long)) (by decide) rfl ?_
  intro p e s m args below meth c s₁ B hml hv
  obtain ⟨rfl, hsz, hP, hK, hD0, hE⟩ := hv
  have hx := B.exec
  have hb := B.bytes
  have hr := B.returns
  have hts := atoms_spec (ws := w_TL_shareOf) B.pre
  have hown : s.vm.findClass R_TL = some m.cls := findClass_of_methodNamed B.named
  have hlocks := B.notSynchronized
  subst hsz
  have hD := hD0.self (sz := s.heap.size)
  generalize hAe : va_A [] s.heap.size = A at hD ⊢
  have hA : ∀ q : Nat, s.heap.size ≤ q → A q := fun q h => by rw [← hAe]; exact Or.inr h
  clear hAe hD0
  have key : ∀ (H : Heap) (locs : List Loc), va_P (dC, dI) classes [] H → va_D A [] → va_S A s.heap H locs → ∀ (ls : Array Slot), lv_has ls 6 [(0, .long p1), (2, .long p2), (4, .long p3)] → W p l e ({ frames := 1, cells := 0, slots := 0, locals := 25 } : Room) s m ([.long p1, .long p2, .long p3] : List Value).toArray below meth c H locs 0 0 (MQ below (va_Ql (fun (r : Int64) (_ : Unit) => r = res) (fun _ t => va_P (dC, dI) classes [] t.heap ∧ va_K (dC, dI) classes [] t ∧ va_D A []) A) ([.long p1, .long p2, .long p3] : List Value).toArray s 0 0 A) (F0 m 0 ls []) := by
    intro H locs hP hD hS ls hl
    unfold fn_TL_shareOf at h
    refine lv_lload hx hb d_TL_shareOf_0 (lv_at hl 2 rfl) ?_
    refine lv_lconst (v := 0) hx hb d_TL_shareOf_2 (by decide) ?_
    refine W.lcmp hx hb d_TL_shareOf_3 ?_
    refine lv_if_gt (tgt := 9) hx hb d_TL_shareOf_4 (by decide) (fun c1 => ?_) (fun c1 => ?_)
    · replace h := gx_pos c1 h
      refine lv_lload_n hx hb d_TL_shareOf_9 rfl (lv_at hl 0 rfl) ?_
      refine lv_lload_n hx hb d_TL_shareOf_10 rfl (lv_at hl 1 rfl) ?_
      refine lv_lmul hx hb d_TL_shareOf_11 ?_
      refine lv_lload hx hb d_TL_shareOf_12 (lv_at hl 2 rfl) ?_
      have hPc := hP.sub (ws' := []) [] rfl
      have hDc := hD.sub (ws' := []) [] (by decide) rfl
      have hKc := hK.sub (tys' := []) [] rfl
      have hFc := va_free (wc := []) hD hS hA [] rfl
      obtain ⟨ur2, hc2, h⟩ := gx_bind h
      refine va_calll (va_runS (As := [.long (p1 * p2), .long p3]) (rest := []) ⟨hx, hb, hml, hown, hts⟩ (c_Math_floorDiv N l dC dI H.size (p1 * p2) p3 ur2 hc2) (va_cwS 2 hts (gx_gS mw_327 mw_325 mw_326 mw_36) rfl rfl rfl (by decide +kernel) ⟨Nat.le_of_ble_eq_true rfl, Nat.le_of_ble_eq_true rfl⟩) ⟨fun a U g mk q => by obtain ⟨q0, q1, qP, qK, qD, qE⟩ := q; exact ⟨q0, q1, qP, va_K.moved (u := U) (U := U.calling g mk a) (Vm.Alike.refl U.vm) qK, qD, qE.calls⟩, fun U hU hW => ⟨rfl, by rw [hU], by rw [hU]; exact hPc, va_K.moved hW.alike hKc, hDc.weaken (fun _ _ _ _ => trivial), hE.warm hW⟩⟩ rfl rfl hl.1 rfl (lv_room (Nat.le_of_ble_eq_true rfl)) d_TL_shareOf_14 ⟨(Nat.zero_le _), (Nat.zero_le _)⟩) hS (fun q _ h => hFc q h) hFc (fun r2 _ t H locs ht hvm hw hB hz1 hk1 hS => ?_)
      obtain ⟨hP1, hK1, hD1⟩ := hB
      rw [ht] at hP1
      rw [hw]
      obtain ⟨hP, hD⟩ := va_join (wr := []) (w1 := []) hP hD [] [] rfl rfl (by decide) (by decide) hk1 hFc hP1 hD1
      have hP : va_P (dC, dI) classes [] H := hP
      have hD : va_D A [] := hD
      rw [← Option.some.inj h]
      have hP9 := hP
      have hD9 := hD
      exact W.lret (v := ur2) hx hb hr (fun t ht hW => ⟨⟨ur2, (), rfl, rfl, ⟨by rw [ht]; exact hP9, va_K.moved hW.alike hK, hD9⟩⟩, hS.F ht⟩) hS.2.2 d_TL_shareOf_17
    · replace h := gx_neg c1 h
      refine lv_lconst (v := 0) hx hb d_TL_shareOf_7 (by decide) ?_
      rw [← Option.some.inj h]
      have hP9 := hP
      have hD9 := hD
      exact W.lret (v := 0) hx hb hr (fun t ht hW => ⟨⟨0, (), rfl, rfl, ⟨by rw [ht]; exact hP9, va_K.moved hW.alike hK, hD9⟩⟩, hS.F ht⟩) hS.2.2 d_TL_shareOf_8
  have hl := lv_entry ([.long p1, .long p2, .long p3]) (n := 6) (Nat.le_of_ble_eq_true rfl)
  rw [lg_entry_eq]
  generalize (lg_sl ([.long p1, .long p2, .long p3]) ++ List.replicate (6 - (lg_sl ([.long p1, .long p2, .long p3])).length) Slot.unset).toArray = ls at hl ⊢
  exact key _ _ hP hD va_S.rf ls hl
def bk_Water_heatOfLayers_5 (N : Nat) (full : Int32) (cnt : Int32) (vf : Nat → Int32) (hf : Nat → Int64) (K : Int32 × Int64 × Int32 → Option (Int64)) (x2 : Int32) (x3 : Int64) (x5 : Int32) : Option (Int64) :=
  if x2 ≤ x5 then some x3 else if gx_inb x5 42 = true then K (x2, x3 + (hf x5.toNatClampNeg), x5 + 1) else none
def st_Water_heatOfLayers (N : Nat) (full : Int32) (cnt : Int32) (vf : Nat → Int32) (hf : Nat → Int64) (K : Int32 × Int64 × Int32 → Option (Int64)) (z : Int32 × Int64 × Int32) : Option (Int64) := match z with
  | (x2, x3, x5) => bk_Water_heatOfLayers_5 N full cnt vf hf K x2 x3 x5
def fn_Water_heatOfLayers (N : Nat) (p1 : Int32) (p2 : Int32) (full : Int32) (cnt : Int32) (vf : Nat → Int32) (hf : Nat → Int64) : Option (Int64) :=
  gx_fx (st_Water_heatOfLayers N full cnt vf hf) N (p2, 0, p1)
def w_Water_heatOfLayers : List Cond := .code y_Water_heatOfLayers b_Water_heatOfLayers 6 (some .long) :: gx_W
set_option maxHeartbeats 4000000 in
set_option maxRecDepth 100000 in
theorem c_Water_heatOfLayers (N : Nat) (l : Launch) (dC : Nat → ClassId) (dI : Nat → Nat → Nat) (h0 : Nat) (a1 : Nat) (a2 : Nat) (k1 : ClassId) (k2 : ClassId) (sz : Nat) (full : Int32) (cnt : Int32) (vf : Nat → Int32) (hf : Nat → Int64) (p1 : Int32) (p2 : Int32) (res : Int64) (h : fn_Water_heatOfLayers N p1 p2 full cnt vf hf = some res) : Met l y_Water_heatOfLayers w_Water_heatOfLayers ({ frames := 0, cells := 0, slots := 0, locals := 0 } : Room) (va_Pc [.ref h0, .int p1, .int p2] (fun U => U.heap.size = sz ∧ va_P (dC, dI) classes [(h0, .inr (2, [.int full, .ref a1, .ref a2, .int cnt])), (a1, .inl (k1, 42, .inl vf)), (a2, .inl (k2, 42, .inr (.inl hf)))] U.heap ∧ va_K (dC, dI) classes [(k1, .int), (k2, .long)] U ∧ va_D (fun _ => True) [(h0, .inr (2, [.int full, .ref a1, .ref a2, .int cnt])), (a1, .inl (k1, 42, .inl vf)), (a2, .inl (k2, 42, .inr (.inl hf)))] ∧ gx_E U)) (va_Ql (fun (r : Int64) (_ : Unit) => r = res) (fun _ t => va_P (dC, dI) classes [(h0, .inr (2, [.int full, .ref a1, .ref a2, .int cnt])), (a1, .inl (k1, 42, .inl vf)), (a2, .inl (k2, 42, .inr (.inl hf)))] t.heap ∧ va_K (dC, dI) classes [(k1, .int), (k2, .long)] t ∧ va_D (va_A [(h0, .inr (2, [.int full, .ref a1, .ref a2, .int cnt])), (a1, .inl (k1, 42, .inl vf)), (a2, .inl (k2, 42, .inr (.inl hf)))] sz) [(h0, .inr (2, [.int full, .ref a1, .ref a2, .int cnt])), (a1, .inl (k1, 42, .inl vf)), (a2, .inl (k2, 42, .inr (.inl hf)))]) (va_A [(h0, .inr (2, [.int full, .ref a1, .ref a2, .int cnt])), (a1, .inl (k1, 42, .inl vf)), (a2, .inl (k2, 42, .inr (.inl hf)))] sz)) 0 0 (va_A [(h0, .inr (2, [.int full, .ref a1, .ref a2, .int cnt])), (a1, .inl (k1, 42, .inl vf)), (a2, .inl (k2, 42, .inr (.inl hf)))] sz) := by
  refine Met.ofW (cc := b_Water_heatOfLayers) (maxL := 6) (ret := (some .long)) (by decide) rfl ?_
  intro p e s m args below meth c s₁ B hml hv
  obtain ⟨rfl, hsz, hP, hK, hD0, hE⟩ := hv
  have hx := B.exec
  have hb := B.bytes
  have hr := B.returns
  have hts := atoms_spec (ws := w_Water_heatOfLayers) B.pre
  have hown : s.vm.findClass R_Water = some m.cls := findClass_of_methodNamed B.named
  have hlocks := B.notSynchronized
  subst hsz
  have hD := hD0.self (sz := s.heap.size)
  generalize hAe : va_A [(h0, .inr (2, [.int full, .ref a1, .ref a2, .int cnt])), (a1, .inl (k1, 42, .inl vf)), (a2, .inl (k2, 42, .inr (.inl hf)))] s.heap.size = A at hD ⊢
  have hA : ∀ q : Nat, s.heap.size ≤ q → A q := fun q h => by rw [← hAe]; exact Or.inr h
  clear hAe hD0
  have loop : ∀ n : Nat, (∀ (x2 : Int32) (x3 : Int64) (x5 : Int32), gx_fx (st_Water_heatOfLayers N full cnt vf hf) n (x2, x3, x5) = some res → ∀ (H : Heap) (locs : List Loc), va_P (dC, dI) classes [(h0, .inr (2, [.int full, .ref a1, .ref a2, .int cnt])), (a1, .inl (k1, 42, .inl vf)), (a2, .inl (k2, 42, .inr (.inl hf)))] H → va_D A [(h0, .inr (2, [.int full, .ref a1, .ref a2, .int cnt])), (a1, .inl (k1, 42, .inl vf)), (a2, .inl (k2, 42, .inr (.inl hf)))] → va_S A s.heap H locs → ∀ (ls : Array Slot), lv_has ls 6 [(0, .ref h0), (2, .int x2), (3, .long x3), (5, .int x5)] → W p l e ({ frames := 0, cells := 0, slots := 0, locals := 0 } : Room) s m ([.ref h0, .int p1, .int p2] : List Value).toArray below meth c H locs 0 0 (MQ below (va_Ql (fun (r : Int64) (_ : Unit) => r = res) (fun _ t => va_P (dC, dI) classes [(h0, .inr (2, [.int full, .ref a1, .ref a2, .int cnt])), (a1, .inl (k1, 42, .inl vf)), (a2, .inl (k2, 42, .inr (.inl hf)))] t.heap ∧ va_K (dC, dI) classes [(k1, .int), (k2, .long)] t ∧ va_D A [(h0, .inr (2, [.int full, .ref a1, .ref a2, .int cnt])), (a1, .inl (k1, 42, .inl vf)), (a2, .inl (k2, 42, .inr (.inl hf)))]) A) ([.ref h0, .int p1, .int p2] : List Value).toArray s 0 0 A) (F0 m 5 ls [])) := by
    intro n
    induction n with
    | zero => exact fun _ _ _ h => gx_fx0 h
    | succ n ih =>
        intro x2 x3 x5 h H locs hP hD hS ls hl
        replace h : bk_Water_heatOfLayers_5 N full cnt vf hf (gx_fx (st_Water_heatOfLayers N full cnt vf hf) n) x2 x3 x5 = some res := h
        unfold bk_Water_heatOfLayers_5 at h
        refine lv_iload hx hb d_Water_heatOfLayers_5 (lv_at hl 3 rfl) ?_
        refine lv_iload_n hx hb d_Water_heatOfLayers_7 rfl (lv_at hl 1 rfl) ?_
        refine lv_icmp_ge (tgt := 27) hx hb d_Water_heatOfLayers_8 (by decide) (fun c1 => ?_) (fun c1 => ?_)
        · replace h := gx_pos c1 h
          refine lv_lload_n hx hb d_Water_heatOfLayers_27 rfl (lv_at hl 2 rfl) ?_
          rw [← Option.some.inj h]
          have hP9 := hP
          have hD9 := hD
          exact W.lret (v := x3) hx hb hr (fun t ht hW => ⟨⟨x3, (), rfl, rfl, ⟨by rw [ht]; exact hP9, va_K.moved hW.alike hK, hD9⟩⟩, hS.F ht⟩) hS.2.2 d_Water_heatOfLayers_28
        · replace h := gx_neg c1 h
          refine lv_lload_n hx hb d_Water_heatOfLayers_11 rfl (lv_at hl 2 rfl) ?_
          refine lv_aload_n hx hb d_Water_heatOfLayers_12 rfl (lv_at hl 0 rfl) ?_
          refine va_get (D := (dC, dI)) (ci := 2) (v := .ref a2) (C := R_Water) (T := F_Water) (N := 4) hx hb hts (gx_in i_Water) hown hK hP 0 rfl rfl 2 (by decide) (hts _ (gx_w mw_175)) (fun _ h9 => h9) rfl d_Water_heatOfLayers_13 ?_
          refine lv_iload hx hb d_Water_heatOfLayers_16 (lv_at hl 3 rfl) ?_
          obtain ⟨hi2, h⟩ := gx_inb_of h
          refine va_lald hx hb hK hP 2 1 rfl rfl hi2 d_Water_heatOfLayers_18 ?_
          refine lv_ladd hx hb d_Water_heatOfLayers_19 ?_
          refine lv_lstore_n (lv' := [(3, .long (x3 + (hf x5.toNatClampNeg))), (0, .ref h0), (2, .int x2), (5, .int x5)]) hx hb d_Water_heatOfLayers_20 rfl hl (by decide) rfl (fun ls hl => ?_)
          refine lv_iinc (v := x5 + 1) (lv' := [(5, .int (x5 + 1)), (3, .long (x3 + (hf x5.toNatClampNeg))), (0, .ref h0), (2, .int x2)]) hx hb d_Water_heatOfLayers_21 hl (k := 3) rfl rfl (by decide) rfl (fun ls hl => ?_)
          refine lv_goto (tgt := 5) hx hb d_Water_heatOfLayers_24 (by decide) ?_
          exact ih x2 (x3 + (hf x5.toNatClampNeg)) (x5 + 1) h _ _ hP hD hS ls (lv_sub hl [2, 3, 1, 0] rfl)
  have key : ∀ (H : Heap) (locs : List Loc), va_P (dC, dI) classes [(h0, .inr (2, [.int full, .ref a1, .ref a2, .int cnt])), (a1, .inl (k1, 42, .inl vf)), (a2, .inl (k2, 42, .inr (.inl hf)))] H → va_D A [(h0, .inr (2, [.int full, .ref a1, .ref a2, .int cnt])), (a1, .inl (k1, 42, .inl vf)), (a2, .inl (k2, 42, .inr (.inl hf)))] → va_S A s.heap H locs → ∀ (ls : Array Slot), lv_has ls 6 [(0, .ref h0), (1, .int p1), (2, .int p2)] → W p l e ({ frames := 0, cells := 0, slots := 0, locals := 0 } : Room) s m ([.ref h0, .int p1, .int p2] : List Value).toArray below meth c H locs 0 0 (MQ below (va_Ql (fun (r : Int64) (_ : Unit) => r = res) (fun _ t => va_P (dC, dI) classes [(h0, .inr (2, [.int full, .ref a1, .ref a2, .int cnt])), (a1, .inl (k1, 42, .inl vf)), (a2, .inl (k2, 42, .inr (.inl hf)))] t.heap ∧ va_K (dC, dI) classes [(k1, .int), (k2, .long)] t ∧ va_D A [(h0, .inr (2, [.int full, .ref a1, .ref a2, .int cnt])), (a1, .inl (k1, 42, .inl vf)), (a2, .inl (k2, 42, .inr (.inl hf)))]) A) ([.ref h0, .int p1, .int p2] : List Value).toArray s 0 0 A) (F0 m 0 ls []) := by
    intro H locs hP hD hS ls hl
    unfold fn_Water_heatOfLayers at h
    refine lv_lconst (v := 0) hx hb d_Water_heatOfLayers_0 (by decide) ?_
    refine lv_lstore_n (lv' := [(3, .long 0), (0, .ref h0), (1, .int p1), (2, .int p2)]) hx hb d_Water_heatOfLayers_1 rfl hl (by decide) rfl (fun ls hl => ?_)
    refine lv_iload_n hx hb d_Water_heatOfLayers_2 rfl (lv_at hl 2 rfl) ?_
    refine lv_istore (lv' := [(5, .int p1), (3, .long 0), (0, .ref h0), (1, .int p1), (2, .int p2)]) hx hb d_Water_heatOfLayers_3 hl (by decide) rfl (fun ls hl => ?_)
    exact (loop N) p2 0 p1 h _ _ hP hD hS ls (lv_sub hl [2, 4, 1, 0] rfl)
  have hl := lv_entry ([.ref h0, .int p1, .int p2]) (n := 6) (Nat.le_of_ble_eq_true rfl)
  rw [lg_entry_eq]
  generalize (lg_sl ([.ref h0, .int p1, .int p2]) ++ List.replicate (6 - (lg_sl ([.ref h0, .int p1, .int p2])).length) Slot.unset).toArray = ls at hl ⊢
  exact key _ _ hP hD va_S.rf ls hl
