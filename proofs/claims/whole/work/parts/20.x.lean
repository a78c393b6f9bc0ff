theorem xa_65_a : ∀ w ∈ (vx_atS R_TL 65 "java/lang/IllegalArgumentException" gx_up).filter goodWord, w ∈ gx_W := fun w hw => List.mem_filter.mpr ⟨(by decide +kernel : ∀ w ∈ vx_atS R_TL 65 "java/lang/IllegalArgumentException" gx_up, w ∈ lw_tbl) w (List.mem_filter.mp hw).1, (List.mem_filter.mp hw).2⟩
theorem xa_65_b : ∀ w ∈ (vx_atS R_TL 65 "java/lang/IllegalArgumentException" gx_up).filter (fun w => !goodWord w), w ∈ gx_B := by decide +kernel
theorem xa_65_c : ∀ w ∈ Cond.classLink R_TL 61 "java/lang/IllegalArgumentException" :: Cond.initialized "java/lang/IllegalArgumentException" :: vx_atS R_TL 65 "java/lang/IllegalArgumentException" gx_up, vx_ot w = true := by decide +kernel
theorem mw_73 : (Cond.classLink R_TL 61 "java/lang/IllegalArgumentException") ∈ gx_W := List.mem_filter.mpr ⟨List.mem_of_getElem? (i := 73) (by decide +kernel), by decide +kernel⟩
theorem mw_29 : (Cond.initialized "java/lang/IllegalArgumentException") ∈ gx_W := List.mem_filter.mpr ⟨List.mem_of_getElem? (i := 29) (by decide +kernel), by decide +kernel⟩
theorem mw_143 : (Cond.constant R_TL 194 (200000)) ∈ gx_W := List.mem_filter.mpr ⟨List.mem_of_getElem? (i := 143) (by decide +kernel), by decide +kernel⟩
theorem mw_72 : (Cond.code y_TL_requireWithin b_TL_requireWithin 3 none) ∈ gx_W := List.mem_filter.mpr ⟨List.mem_of_getElem? (i := 72) (by decide +kernel), by decide +kernel⟩
theorem mw_70 : (Cond.methodLink R_TL 26 y_TL_requireWithin) ∈ gx_W := List.mem_filter.mpr ⟨List.mem_of_getElem? (i := 70) (by decide +kernel), by decide +kernel⟩
theorem mw_71 : (Cond.static y_TL_requireWithin) ∈ gx_W := List.mem_filter.mpr ⟨List.mem_of_getElem? (i := 71) (by decide +kernel), by decide +kernel⟩
theorem mw_47 : (Cond.fieldLink R_TL 11 "TankLayers" "tanks" "[LTankLayers$Tank;") ∈ gx_W := List.mem_filter.mpr ⟨List.mem_of_getElem? (i := 47) (by decide +kernel), by decide +kernel⟩
theorem d_TL_requireWithin_0 : decode b_TL_requireWithin 0 = .ok (.iload_n 0, 1) := by decide +kernel
theorem d_TL_requireWithin_1 : decode b_TL_requireWithin 1 = .ok (.iload_n 1, 1) := by decide +kernel
theorem d_TL_requireWithin_2 : decode b_TL_requireWithin 2 = .ok (.if_icmp .lt 8, 3) := by decide +kernel
theorem d_TL_requireWithin_5 : decode b_TL_requireWithin 5 = .ok (.iload_n 0, 1) := by decide +kernel
theorem d_TL_requireWithin_6 : decode b_TL_requireWithin 6 = .ok (.iload_n 2, 1) := by decide +kernel
theorem d_TL_requireWithin_7 : decode b_TL_requireWithin 7 = .ok (.if_icmp .le 13, 3) := by decide +kernel
theorem d_TL_requireWithin_10 : decode b_TL_requireWithin 10 = .ok (.new 61, 3) := by decide +kernel
theorem d_TL_requireWithin_13 : decode b_TL_requireWithin 13 = .ok (.dup, 1) := by decide +kernel
theorem d_TL_requireWithin_14 : decode b_TL_requireWithin 14 = .ok (.ldc 192, 2) := by decide +kernel
theorem d_TL_requireWithin_16 : decode b_TL_requireWithin 16 = .ok (.invokespecial 65, 3) := by decide +kernel
theorem d_TL_requireWithin_19 : decode b_TL_requireWithin 19 = .ok (.athrow, 1) := by decide +kernel
theorem d_TL_requireWithin_20 : decode b_TL_requireWithin 20 = .ok (.return_, 1) := by decide +kernel
theorem d_TL_requireTemperature_0 : decode b_TL_requireTemperature 0 = .ok (.iload_n 0, 1) := by decide +kernel
theorem d_TL_requireTemperature_1 : decode b_TL_requireTemperature 1 = .ok (.sipush (-1000), 3) := by decide +kernel
theorem d_TL_requireTemperature_4 : decode b_TL_requireTemperature 4 = .ok (.ldc 194, 2) := by decide +kernel
theorem d_TL_requireTemperature_6 : decode b_TL_requireTemperature 6 = .ok (.invokestatic 26, 3) := by decide +kernel
theorem d_TL_requireTemperature_9 : decode b_TL_requireTemperature 9 = .ok (.return_, 1) := by decide +kernel
theorem d_TL_requireSpan_0 : decode b_TL_requireSpan 0 = .ok (.iload_n 0, 1) := by decide +kernel
theorem d_TL_requireSpan_1 : decode b_TL_requireSpan 1 = .ok (.iconst 0, 1) := by decide +kernel
theorem d_TL_requireSpan_2 : decode b_TL_requireSpan 2 = .ok (.iload_n 2, 1) := by decide +kernel
theorem d_TL_requireSpan_3 : decode b_TL_requireSpan 3 = .ok (.invokestatic 26, 3) := by decide +kernel
theorem d_TL_requireSpan_6 : decode b_TL_requireSpan 6 = .ok (.iload_n 1, 1) := by decide +kernel
theorem d_TL_requireSpan_7 : decode b_TL_requireSpan 7 = .ok (.iconst 0, 1) := by decide +kernel
theorem d_TL_requireSpan_8 : decode b_TL_requireSpan 8 = .ok (.iload_n 2, 1) := by decide +kernel
theorem d_TL_requireSpan_9 : decode b_TL_requireSpan 9 = .ok (.invokestatic 26, 3) := by decide +kernel
theorem d_TL_requireSpan_12 : decode b_TL_requireSpan 12 = .ok (.iload_n 0, 1) := by decide +kernel
theorem d_TL_requireSpan_13 : decode b_TL_requireSpan 13 = .ok (.iload_n 1, 1) := by decide +kernel
theorem d_TL_requireSpan_14 : decode b_TL_requireSpan 14 = .ok (.if_icmp .lt 13, 3) := by decide +kernel
theorem d_TL_requireSpan_17 : decode b_TL_requireSpan 17 = .ok (.new 61, 3) := by decide +kernel
theorem d_TL_requireSpan_20 : decode b_TL_requireSpan 20 = .ok (.dup, 1) := by decide +kernel
theorem d_TL_requireSpan_21 : decode b_TL_requireSpan 21 = .ok (.ldc 195, 2) := by decide +kernel
theorem d_TL_requireSpan_23 : decode b_TL_requireSpan 23 = .ok (.invokespecial 65, 3) := by decide +kernel
theorem d_TL_requireSpan_26 : decode b_TL_requireSpan 26 = .ok (.athrow, 1) := by decide +kernel
theorem d_TL_requireSpan_27 : decode b_TL_requireSpan 27 = .ok (.return_, 1) := by decide +kernel
theorem d_TL_tankNumbered_0 : decode b_TL_tankNumbered 0 = .ok (.iload_n 1, 1) := by decide +kernel
theorem d_TL_tankNumbered_1 : decode b_TL_tankNumbered 1 = .ok (.ifCond .lt 12, 3) := by decide +kernel
theorem d_TL_tankNumbered_4 : decode b_TL_tankNumbered 4 = .ok (.iload_n 1, 1) := by decide +kernel
theorem d_TL_tankNumbered_5 : decode b_TL_tankNumbered 5 = .ok (.aload_n 0, 1) := by decide +kernel
theorem d_TL_tankNumbered_6 : decode b_TL_tankNumbered 6 = .ok (.getfield 11, 3) := by decide +kernel
theorem d_TL_tankNumbered_9 : decode b_TL_tankNumbered 9 = .ok (.arraylength, 1) := by decide +kernel
theorem d_TL_tankNumbered_10 : decode b_TL_tankNumbered 10 = .ok (.if_icmp .lt 13, 3) := by decide +kernel
theorem d_TL_tankNumbered_13 : decode b_TL_tankNumbered 13 = .ok (.new 61, 3) := by decide +kernel
theorem d_TL_tankNumbered_16 : decode b_TL_tankNumbered 16 = .ok (.dup, 1) := by decide +kernel
theorem d_TL_tankNumbered_17 : decode b_TL_tankNumbered 17 = .ok (.ldc 190, 2) := by decide +kernel
theorem d_TL_tankNumbered_19 : decode b_TL_tankNumbered 19 = .ok (.invokespecial 65, 3) := by decide +kernel
theorem d_TL_tankNumbered_22 : decode b_TL_tankNumbered 22 = .ok (.athrow, 1) := by decide +kernel
theorem d_TL_tankNumbered_23 : decode b_TL_tankNumbered 23 = .ok (.aload_n 0, 1) := by decide +kernel
theorem d_TL_tankNumbered_24 : decode b_TL_tankNumbered 24 = .ok (.getfield 11, 3) := by decide +kernel
theorem d_TL_tankNumbered_27 : decode b_TL_tankNumbered 27 = .ok (.iload_n 1, 1) := by decide +kernel
theorem d_TL_tankNumbered_28 : decode b_TL_tankNumbered 28 = .ok (.aaload, 1) := by decide +kernel
theorem d_TL_tankNumbered_29 : decode b_TL_tankNumbered 29 = .ok (.astore_n 2, 1) := by decide +kernel
theorem d_TL_tankNumbered_30 : decode b_TL_tankNumbered 30 = .ok (.aload_n 2, 1) := by decide +kernel
theorem d_TL_tankNumbered_31 : decode b_TL_tankNumbered 31 = .ok (.ifnonnull 13, 3) := by decide +kernel
theorem d_TL_tankNumbered_34 : decode b_TL_tankNumbered 34 = .ok (.new 61, 3) := by decide +kernel
theorem d_TL_tankNumbered_37 : decode b_TL_tankNumbered 37 = .ok (.dup, 1) := by decide +kernel
theorem d_TL_tankNumbered_38 : decode b_TL_tankNumbered 38 = .ok (.ldc 190, 2) := by decide +kernel
theorem d_TL_tankNumbered_40 : decode b_TL_tankNumbered 40 = .ok (.invokespecial 65, 3) := by decide +kernel
theorem d_TL_tankNumbered_43 : decode b_TL_tankNumbered 43 = .ok (.athrow, 1) := by decide +kernel
theorem d_TL_tankNumbered_44 : decode b_TL_tankNumbered 44 = .ok (.aload_n 2, 1) := by decide +kernel
theorem d_TL_tankNumbered_45 : decode b_TL_tankNumbered 45 = .ok (.areturn, 1) := by decide +kernel
def fn_TL_requireWithin (N : Nat) (p1 : Int32) (p2 : Int32) (p3 : Int32) : Option (Nat ⊕ (Unit)) :=
  if p1 < p2 then some (.inl 1) else if p1 ≤ p3 then some (.inr ()) else some (.inl 1)
def w_TL_requireWithin : List Cond := .code y_TL_requireWithin b_TL_requireWithin 3 none :: gx_W
set_option maxHeartbeats 4000000 in
set_option maxRecDepth 100000 in
theorem c_TL_requireWithin (N : Nat) (l : Launch) (dC : Nat → ClassId) (dI : Nat → Nat → Nat) (sz : Nat) (p1 : Int32) (p2 : Int32) (p3 : Int32) (res : Unit) (h : fn_TL_requireWithin N p1 p2 p3 = some (.inr res)) : Met l y_TL_requireWithin w_TL_requireWithin ({ frames := 0, cells := 0, slots := 0, locals := 0 } : Room) (va_Pc [.int p1, .int p2, .int p3] (fun U => U.heap.size = sz ∧ va_P (dC, dI) classes [] U.heap ∧ va_K (dC, dI) classes [] U ∧ va_D (fun _ => True) [] ∧ gx_E U)) (va_Qv (fun _ : Unit => True) (fun _ t => va_P (dC, dI) classes [] t.heap ∧ va_K (dC, dI) classes [] t ∧ va_D (va_A [] sz) []) (va_A [] sz)) 0 0 (va_A [] sz) := by
  refine Met.ofW (cc := b_TL_requireWithin) (maxL := 3) (ret := none) (by decide) rfl ?_
  intro p e s m args below meth c s₁ B hml hv
  obtain ⟨rfl, hsz, hP, hK, hD0, hE⟩ := hv
  have hx := B.exec
  have hb := B.bytes
  have hr := B.returns
  have hts := atoms_spec (ws := w_TL_requireWithin) B.pre
  have hown : s.vm.findClass R_TL = some m.cls := findClass_of_methodNamed B.named
  have hlocks := B.notSynchronized
  subst hsz
  have hD := hD0.self (sz := s.heap.size)
  generalize hAe : va_A [] s.heap.size = A at hD ⊢
  have hA : ∀ q : Nat, s.heap.size ≤ q → A q := fun q h => by rw [← hAe]; exact Or.inr h
  clear hAe hD0
  have key : ∀ (H : Heap) (locs : List Loc), va_P (dC, dI) classes [] H → va_D A [] → va_S A s.heap H locs → ∀ (ls : Array Slot), lv_has ls 3 [(0, .int p1), (1, .int p2), (2, .int p3)] → W p l e ({ frames := 0, cells := 0, slots := 0, locals := 0 } : Room) s m ([.int p1, .int p2, .int p3] : List Value).toArray below meth c H locs 0 0 (MQ below (va_Qv (fun _ : Unit => True) (fun _ t => va_P (dC, dI) classes [] t.heap ∧ va_K (dC, dI) classes [] t ∧ va_D A []) A) ([.int p1, .int p2, .int p3] : List Value).toArray s 0 0 A) (F0 m 0 ls []) := by
    intro H locs hP hD hS ls hl
    unfold fn_TL_requireWithin at h
    refine lv_iload_n hx hb d_TL_requireWithin_0 rfl (lv_at hl 0 rfl) ?_
    refine lv_iload_n hx hb d_TL_requireWithin_1 rfl (lv_at hl 1 rfl) ?_
    refine lv_icmp_lt (tgt := 10) hx hb d_TL_requireWithin_2 (by decide) (fun c1 => ?_) (fun c1 => ?_)
    · replace h := gx_pos c1 h
      cases h
    · replace h := gx_neg c1 h
      refine lv_iload_n hx hb d_TL_requireWithin_5 rfl (lv_at hl 0 rfl) ?_
      refine lv_iload_n hx hb d_TL_requireWithin_6 rfl (lv_at hl 2 rfl) ?_
      refine lv_icmp_le (tgt := 20) hx hb d_TL_requireWithin_7 (by decide) (fun c2 => ?_) (fun c2 => ?_)
      · replace h := gx_pos c2 h
        have hP9 := hP
        have hD9 := hD
        exact W.vret hx hb hr (fun t ht hW => ⟨⟨(), rfl, trivial, ⟨by rw [ht]; exact hP9, va_K.moved hW.alike hK, hD9⟩⟩, hS.F ht⟩) hS.2.2 d_TL_requireWithin_20
      · replace h := gx_neg c2 h
        cases h
  have hl := lv_entry ([.int p1, .int p2, .int p3]) (n := 3) (Nat.le_of_ble_eq_true rfl)
  rw [lg_entry_eq]
  generalize (lg_sl ([.int p1, .int p2, .int p3]) ++ List.replicate (3 - (lg_sl ([.int p1, .int p2, .int p3])).length) Slot.unset).toArray = ls at hl ⊢
  exact key _ _ hP hD va_S.rf ls hl
set_option maxHeartbeats 4000000 in
set_option maxRecDepth 100000 in
theorem x_TL_requireWithin (N : Nat) (l : Launch) (hlt : l.stackTraces = false) (dC : Nat → ClassId) (dI : Nat → Nat → Nat) (sz : Nat) (p1 : Int32) (p2 : Int32) (p3 : Int32) (ex : Nat) (h : fn_TL_requireWithin N p1 p2 p3 = some (.inl ex)) : vx_Met l y_TL_requireWithin w_TL_requireWithin ({ frames := 6, cells := 1, slots := 6, locals := 100 } : Room) (va_Pc [.int p1, .int p2, .int p3] (fun U => U.heap.size = sz ∧ va_P (dC, dI) classes [] U.heap ∧ va_K (dC, dI) classes [] U ∧ va_D (fun _ => True) [] ∧ gx_E U ∧ gx_X (va_A [] sz) U)) (va_Qv (fun _ : Unit => False) (fun _ _ => True) (va_A [] sz)) (vx_X (fun _ : Unit => True) (fun E _ t => E = gx_en ex ∧ va_P (dC, dI) classes [] t.heap ∧ va_K (dC, dI) classes [] t ∧ va_D (va_A [] sz) []) (va_A [] sz)) 1 6 (va_A [] sz) := by
  refine vx_ofW (cc := b_TL_requireWithin) (maxL := 3) (ret := none) (by decide) rfl ?_
  intro p e s m args below meth c s₁ B hml htab hv
  obtain ⟨rfl, hsz, hP, hK, hD0, hE, hXx⟩ := hv
  have hx := B.exec
  have hb := B.bytes
  have hr := B.returns
  have hts := atoms_spec (ws := w_TL_requireWithin) B.pre
  have hown : s.vm.findClass R_TL = some m.cls := findClass_of_methodNamed B.named
  have hlocks := B.notSynchronized
  subst hsz
  have hD := hD0.self (sz := s.heap.size)
  generalize hAe : va_A [] s.heap.size = A at hD hXx ⊢
  have hA : ∀ q : Nat, s.heap.size ≤ q → A q := fun q h => by rw [← hAe]; exact Or.inr h
  clear hAe hD0
  have key : ∀ (H : Heap) (locs : List Loc), va_P (dC, dI) classes [] H → va_D A [] → va_S A s.heap H locs → ∀ (ls : Array Slot), lv_has ls 3 [(0, .int p1), (1, .int p2), (2, .int p3)] → W p l e ({ frames := 6, cells := 1, slots := 6, locals := 100 } : Room) s m ([.int p1, .int p2, .int p3] : List Value).toArray below meth c H locs 0 0 (vx_MQ below (va_Qv (fun _ : Unit => False) (fun _ _ => True) A) (vx_X (fun _ : Unit => True) (fun E _ t => E = gx_en ex ∧ va_P (dC, dI) classes [] t.heap ∧ va_K (dC, dI) classes [] t ∧ va_D A []) A) ([.int p1, .int p2, .int p3] : List Value).toArray s 1 6 A) (F0 m 0 ls []) := by
    intro H locs hP hD hS ls hl
    unfold fn_TL_requireWithin at h
    refine lv_iload_n hx hb d_TL_requireWithin_0 rfl (lv_at hl 0 rfl) ?_
    refine lv_iload_n hx hb d_TL_requireWithin_1 rfl (lv_at hl 1 rfl) ?_
    refine lv_icmp_lt (tgt := 10) hx hb d_TL_requireWithin_2 (by decide) (fun c1 => ?_) (fun c1 => ?_)
    · replace h := gx_pos c1 h
      obtain ⟨sa, hsa⟩ := hXx.2.2.2 (192, "a number is out of its bounds") (List.mem_of_getElem? (i := 0) rfl)
      refine vx_throwS (cls := "java/lang/IllegalArgumentException") (names := gx_up) (ik := 61) (is := 192) (ic := 65) hx hb hlt hown (by decide +kernel) (by decide +kernel) (hts _ (gx_w mw_73)) (hts _ (gx_w mw_29)) hsa (vx_hat (fun w hw => hts w (gx_w (xa_65_a w hw))) xa_65_b (fun w hw => va_Nw.use (gx_Bt w hw) (hXx.1 w hw))) xa_65_c hXx.2.1 hXx.2.2.1 hS (hl.1.trans hml.symm) d_TL_requireWithin_10 d_TL_requireWithin_13 d_TL_requireWithin_14 d_TL_requireWithin_16 d_TL_requireWithin_19 (fun x hx => (htab x hx).elim) (Nat.le_of_ble_eq_true rfl) (Nat.le_of_ble_eq_true rfl) (Nat.le_of_ble_eq_true rfl) (Nat.le_of_ble_eq_true rfl) hlocks ?_ hS.2.2 (Nat.le_of_ble_eq_true rfl) (Nat.le_of_ble_eq_true rfl)
      intro t hvm hz hk
      have hP9 := hP
      have hD9 := hD
      obtain ⟨q1, q2⟩ := gx_thrown hP9 hK hD9 hS hvm hz hk
      exact ⟨(), trivial, ⟨by cases h; rfl, q1⟩, q2⟩
    · replace h := gx_neg c1 h
      refine lv_iload_n hx hb d_TL_requireWithin_5 rfl (lv_at hl 0 rfl) ?_
      refine lv_iload_n hx hb d_TL_requireWithin_6 rfl (lv_at hl 2 rfl) ?_
      refine lv_icmp_le (tgt := 20) hx hb d_TL_requireWithin_7 (by decide) (fun c2 => ?_) (fun c2 => ?_)
      · replace h := gx_pos c2 h
        cases h
      · replace h := gx_neg c2 h
        obtain ⟨sa, hsa⟩ := hXx.2.2.2 (192, "a number is out of its bounds") (List.mem_of_getElem? (i := 0) rfl)
        refine vx_throwS (cls := "java/lang/IllegalArgumentException") (names := gx_up) (ik := 61) (is := 192) (ic := 65) hx hb hlt hown (by decide +kernel) (by decide +kernel) (hts _ (gx_w mw_73)) (hts _ (gx_w mw_29)) hsa (vx_hat (fun w hw => hts w (gx_w (xa_65_a w hw))) xa_65_b (fun w hw => va_Nw.use (gx_Bt w hw) (hXx.1 w hw))) xa_65_c hXx.2.1 hXx.2.2.1 hS (hl.1.trans hml.symm) d_TL_requireWithin_10 d_TL_requireWithin_13 d_TL_requireWithin_14 d_TL_requireWithin_16 d_TL_requireWithin_19 (fun x hx => (htab x hx).elim) (Nat.le_of_ble_eq_true rfl) (Nat.le_of_ble_eq_true rfl) (Nat.le_of_ble_eq_true rfl) (Nat.le_of_ble_eq_true rfl) hlocks ?_ hS.2.2 (Nat.le_of_ble_eq_true rfl) (Nat.le_of_ble_eq_true rfl)
        intro t hvm hz hk
        have hP9 := hP
        have hD9 := hD
        obtain ⟨q1, q2⟩ := gx_thrown hP9 hK hD9 hS hvm hz hk
        exact ⟨(), trivial, ⟨by cases h; rfl, q1⟩, q2⟩
  have hl := lv_entry ([.int p1, .int p2, .int p3]) (n := 3) (Nat.le_of_ble_eq_true rfl)
  rw [lg_entry_eq]
  generalize (lg_sl ([.int p1, .int p2, .int p3]) ++ List.replicate (3 - (lg_sl ([.int p1, .int p2, .int p3])).length) Slot.unset).toArray = ls at hl ⊢
  exact key _ _ hP hD va_S.rf ls hl
def fn_TL_requireTemperature (N : Nat) (p1 : Int32) : Option (Nat ⊕ (Unit)) :=
  gx_then (fn_TL_requireWithin N p1 (-1000) 200000) (fun ur1 => some (.inr ()))
def w_TL_requireTemperature : List Cond := .code y_TL_requireTemperature b_TL_requireTemperature 1 none :: gx_W
set_option maxHeartbeats 4000000 in
set_option maxRecDepth 100000 in
theorem c_TL_requireTemperature (N : Nat) (l : Launch) (dC : Nat → ClassId) (dI : Nat → Nat → Nat) (sz : Nat) (p1 : Int32) (res : Unit) (h : fn_TL_requireTemperature N p1 = some (.inr res)) : Met l y_TL_requireTemperature w_TL_requireTemperature ({ frames := 1, cells := 0, slots := 0, locals := 22 } : Room) (va_Pc [.int p1] (fun U => U.heap.size = sz ∧ va_P (dC, dI) classes [] U.heap ∧ va_K (dC, dI) classes [] U ∧ va_D (fun _ => True) [] ∧ gx_E U)) (va_Qv (fun _ : Unit => True) (fun _ t => va_P (dC, dI) classes [] t.heap ∧ va_K (dC, dI) classes [] t ∧ va_D (va_A [] sz) []) (va_A [] sz)) 0 0 (va_A [] sz) := by
  refine Met.ofW (cc := b_TL_requireTemperature) (maxL := 1) (ret := none) (by decide) rfl ?_
  intro p e s m args below meth c s₁ B hml hv
  obtain ⟨rfl, hsz, hP, hK, hD0, hE⟩ := hv
  have hx := B.exec
  have hb := B.bytes
  have hr := B.returns
  have hts := atoms_spec (ws := w_TL_requireTemperature) B.pre
  have hown : s.vm.findClass R_TL = some m.cls := findClass_of_methodNamed B.named
  have hlocks := B.notSynchronized
  subst hsz
  have hD := hD0.self (sz := s.heap.size)
  generalize hAe : va_A [] s.heap.size = A at hD ⊢
  have hA : ∀ q : Nat, s.heap.size ≤ q → A q := fun q h => by rw [← hAe]; exact Or.inr h
  clear hAe hD0
  have key : ∀ (H : Heap) (locs : List Loc), va_P (dC, dI) classes [] H → va_D A [] → va_S A s.heap H locs → ∀ (ls : Array Slot), lv_has ls 1 [(0, .int p1)] → W p l e ({ frames := 1, cells := 0, slots := 0, locals := 22 } : Room) s m ([.int p1] : List Value).toArray below meth c H locs 0 0 (MQ below (va_Qv (fun _ : Unit => True) (fun _ t => va_P (dC, dI) classes [] t.heap ∧ va_K (dC, dI) classes [] t ∧ va_D A []) A) ([.int p1] : List Value).toArray s 0 0 A) (F0 m 0 ls []) := by
    intro H locs hP hD hS ls hl
    unfold fn_TL_requireTemperature at h
    refine lv_iload_n hx hb d_TL_requireTemperature_0 rfl (lv_at hl 0 rfl) ?_
    refine lv_sipush (v := (-1000)) hx hb d_TL_requireTemperature_1 (by decide) ?_
    refine lv_ldc (v := 200000) hx hb hown (hts _ (gx_w mw_143)) d_TL_requireTemperature_4 ?_
    have hPc := hP.sub (ws' := []) [] rfl
    have hDc := hD.sub (ws' := []) [] (by decide) rfl
    have hKc := hK.sub (tys' := []) [] rfl
    have hFc := va_free (wc := []) hD hS hA [] rfl
    obtain ⟨ur1, hc1, h⟩ := gx_thenR h
    refine va_callv (va_runS (As := [.int p1, .int (-1000), .int 200000]) (rest := []) ⟨hx, hb, hml, hown, hts⟩ (c_TL_requireWithin N l dC dI H.size p1 (-1000) 200000 ur1 hc1) (va_cwS 3 hts (gx_gS mw_72 mw_70 mw_71 mw_24) rfl rfl rfl (by decide +kernel) ⟨Nat.le_of_ble_eq_true rfl, Nat.le_of_ble_eq_true rfl⟩) ⟨fun a U g mk q => by obtain ⟨q0, q1, qP, qK, qD, qE⟩ := q; exact ⟨q0, q1, qP, va_K.moved (u := U) (U := U.calling g mk a) (Vm.Alike.refl U.vm) qK, qD, qE.calls⟩, fun U hU hW => ⟨rfl, by rw [hU], by rw [hU]; exact hPc, va_K.moved hW.alike hKc, hDc.weaken (fun _ _ _ _ => trivial), hE.warm hW⟩⟩ rfl rfl hl.1 rfl (lv_room (Nat.le_of_ble_eq_true rfl)) d_TL_requireTemperature_6 ⟨(Nat.zero_le _), (Nat.zero_le _)⟩) hS (fun q _ h => hFc q h) hFc (fun _ t H locs ht hvm hw hB hz1 hk1 hS => ?_)
    obtain ⟨hP1, hK1, hD1⟩ := hB
    rw [ht] at hP1
    obtain ⟨hP, hD⟩ := va_join (wr := []) (w1 := []) hP hD [] [] rfl rfl (by decide) (by decide) hk1 hFc hP1 hD1
    have hP : va_P (dC, dI) classes [] H := hP
    have hD : va_D A [] := hD
    have hP9 := hP
    have hD9 := hD
    exact W.vret hx hb hr (fun t ht hW => ⟨⟨(), rfl, trivial, ⟨by rw [ht]; exact hP9, va_K.moved hW.alike hK, hD9⟩⟩, hS.F ht⟩) hS.2.2 d_TL_requireTemperature_9
  have hl := lv_entry ([.int p1]) (n := 1) (Nat.le_of_ble_eq_true rfl)
  rw [lg_entry_eq]
  generalize (lg_sl ([.int p1]) ++ List.replicate (1 - (lg_sl ([.int p1])).length) Slot.unset).toArray = ls at hl ⊢
  exact key _ _ hP hD va_S.rf ls hl
set_option maxHeartbeats 4000000 in
set_option maxRecDepth 100000 in
theorem x_TL_requireTemperature (N : Nat) (l : Launch) (hlt : l.stackTraces = false) (dC : Nat → ClassId) (dI : Nat → Nat → Nat) (sz : Nat) (p1 : Int32) (ex : Nat) (h : fn_TL_requireTemperature N p1 = some (.inl ex)) : vx_Met l y_TL_requireTemperature w_TL_requireTemperature ({ frames := 7, cells := 1, slots := 6, locals := 122 } : Room) (va_Pc [.int p1] (fun U => U.heap.size = sz ∧ va_P (dC, dI) classes [] U.heap ∧ va_K (dC, dI) classes [] U ∧ va_D (fun _ => True) [] ∧ gx_E U ∧ gx_X (va_A [] sz) U)) (va_Qv (fun _ : Unit => False) (fun _ _ => True) (va_A [] sz)) (vx_X (fun _ : Unit => True) (fun E _ t => E = gx_en ex ∧ va_P (dC, dI) classes [] t.heap ∧ va_K (dC, dI) classes [] t ∧ va_D (va_A [] sz) []) (va_A [] sz)) 1 6 (va_A [] sz) := by
  refine vx_ofW (cc := b_TL_requireTemperature) (maxL := 1) (ret := none) (by decide) rfl ?_
  intro p e s m args below meth c s₁ B hml htab hv
  obtain ⟨rfl, hsz, hP, hK, hD0, hE, hXx⟩ := hv
  have hx := B.exec
  have hb := B.bytes
  have hr := B.returns
  have hts := atoms_spec (ws := w_TL_requireTemperature) B.pre
  have hown : s.vm.findClass R_TL = some m.cls := findClass_of_methodNamed B.named
  have hlocks := B.notSynchronized
  subst hsz
  have hD := hD0.self (sz := s.heap.size)
  generalize hAe : va_A [] s.heap.size = A at hD hXx ⊢
  have hA : ∀ q : Nat, s.heap.size ≤ q → A q := fun q h => by rw [← hAe]; exact Or.inr h
  clear hAe hD0
  have key : ∀ (H : Heap) (locs : List Loc), va_P (dC, dI) classes [] H → va_D A [] → va_S A s.heap H locs → ∀ (ls : Array Slot), lv_has ls 1 [(0, .int p1)] → W p l e ({ frames := 7, cells := 1, slots := 6, locals := 122 } : Room) s m ([.int p1] : List Value).toArray below meth c H locs 0 0 (vx_MQ below (va_Qv (fun _ : Unit => False) (fun _ _ => True) A) (vx_X (fun _ : Unit => True) (fun E _ t => E = gx_en ex ∧ va_P (dC, dI) classes [] t.heap ∧ va_K (dC, dI) classes [] t ∧ va_D A []) A) ([.int p1] : List Value).toArray s 1 6 A) (F0 m 0 ls []) := by
    intro H locs hP hD hS ls hl
    unfold fn_TL_requireTemperature at h
    refine lv_iload_n hx hb d_TL_requireTemperature_0 rfl (lv_at hl 0 rfl) ?_
    refine lv_sipush (v := (-1000)) hx hb d_TL_requireTemperature_1 (by decide) ?_
    refine lv_ldc (v := 200000) hx hb hown (hts _ (gx_w mw_143)) d_TL_requireTemperature_4 ?_
    have hPc := hP.sub (ws' := []) [] rfl
    have hDc := hD.sub (ws' := []) [] (by decide) rfl
    have hKc := hK.sub (tys' := []) [] rfl
    have hFc := va_free (wc := []) hD hS hA [] rfl
    rcases gx_thenL h with hc1 | ⟨ur1, hc1, h⟩
    · skip
      refine gx_callx (vx_runS (As := [.int p1, .int (-1000), .int 200000]) (rest := []) ⟨hx, hb, hml, hown, hts⟩ (x_TL_requireWithin N l hlt dC dI H.size p1 (-1000) 200000 ex hc1) (va_cwS 3 hts (gx_gS mw_72 mw_70 mw_71 mw_24) rfl rfl rfl (by decide +kernel) ⟨Nat.le_of_ble_eq_true rfl, Nat.le_of_ble_eq_true rfl⟩) ⟨fun a U g mk q => by obtain ⟨q0, q1, qP, qK, qD, qE, qX⟩ := q; exact ⟨q0, q1, qP, va_K.moved (u := U) (U := U.calling g mk a) (Vm.Alike.refl U.vm) qK, qD, qE.calls, qX.calls⟩, fun U hU hW => ⟨rfl, by rw [hU], by rw [hU]; exact hPc, va_K.moved hW.alike hKc, hDc.weaken (fun _ _ _ _ => trivial), hE.warm hW, hXx.pass hS hU hW hFc⟩⟩ rfl rfl hl.1 rfl (lv_room (Nat.le_of_ble_eq_true rfl)) d_TL_requireTemperature_6 ⟨Nat.le_of_ble_eq_true rfl, Nat.le_of_ble_eq_true rfl⟩) (fun st o t h => by obtain ⟨q, -⟩ := h; obtain ⟨_, _, q, _⟩ := q; exact q.elim) hS hFc (fun q _ h => hFc q h) (fun E ce q9 _ t H locs ht hvm hw hB hz1 hk1 hS hce hcv hcl => ?_)
      obtain ⟨hE1, hP1, hK1, hD1⟩ := hB
      rw [ht] at hP1
      replace hP := gx_keep0 hP hk1
      have hP9 := hP
      have hD9 := hD
      exact vx_out (fun x hx => (htab x hx).elim) hlocks hce hcv hcl (fun t ht hvm => ⟨(), trivial, ⟨hE1, by rw [ht]; exact hP9, va_K.moved hvm hK, hD9⟩, hS.F ht⟩) hS.2.2 (Nat.le_of_ble_eq_true rfl) (Nat.le_of_ble_eq_true rfl)
    · skip
      refine va_callv (va_runS (As := [.int p1, .int (-1000), .int 200000]) (rest := []) ⟨hx, hb, hml, hown, hts⟩ (c_TL_requireWithin N l dC dI H.size p1 (-1000) 200000 ur1 hc1) (va_cwS 3 hts (gx_gS mw_72 mw_70 mw_71 mw_24) rfl rfl rfl (by decide +kernel) ⟨Nat.le_of_ble_eq_true rfl, Nat.le_of_ble_eq_true rfl⟩) ⟨fun a U g mk q => by obtain ⟨q0, q1, qP, qK, qD, qE⟩ := q; exact ⟨q0, q1, qP, va_K.moved (u := U) (U := U.calling g mk a) (Vm.Alike.refl U.vm) qK, qD, qE.calls⟩, fun U hU hW => ⟨rfl, by rw [hU], by rw [hU]; exact hPc, va_K.moved hW.alike hKc, hDc.weaken (fun _ _ _ _ => trivial), hE.warm hW⟩⟩ rfl rfl hl.1 rfl (lv_room (Nat.le_of_ble_eq_true rfl)) d_TL_requireTemperature_6 ⟨(Nat.zero_le _), (Nat.zero_le _)⟩) hS (fun q _ h => hFc q h) hFc (fun _ t H locs ht hvm hw hB hz1 hk1 hS => ?_)
      obtain ⟨hP1, hK1, hD1⟩ := hB
      rw [ht] at hP1
      obtain ⟨hP, hD⟩ := va_join (wr := []) (w1 := []) hP hD [] [] rfl rfl (by decide) (by decide) hk1 hFc hP1 hD1
      have hP : va_P (dC, dI) classes [] H := hP
      have hD : va_D A [] := hD
      cases h
  have hl := lv_entry ([.int p1]) (n := 1) (Nat.le_of_ble_eq_true rfl)
  rw [lg_entry_eq]
  generalize (lg_sl ([.int p1]) ++ List.replicate (1 - (lg_sl ([.int p1])).length) Slot.unset).toArray = ls at hl ⊢
  exact key _ _ hP hD va_S.rf ls hl
def fn_TL_requireSpan (N : Nat) (p1 : Int32) (p2 : Int32) (p3 : Int32) : Option (Nat ⊕ (Unit)) :=
  gx_then (fn_TL_requireWithin N p1 0 p3) (fun ur1 => gx_then (fn_TL_requireWithin N p2 0 p3) (fun ur2 => if p1 < p2 then some (.inr ()) else some (.inl 1)))
def w_TL_requireSpan : List Cond := .code y_TL_requireSpan b_TL_requireSpan 3 none :: gx_W
set_option maxHeartbeats 4000000 in
set_option maxRecDepth 100000 in
theorem c_TL_requireSpan (N : Nat) (l : Launch) (dC : Nat → ClassId) (dI : Nat → Nat → Nat) (sz : Nat) (p1 : Int32) (p2 : Int32) (p3 : Int32) (res : Unit) (h : fn_TL_requireSpan N p1 p2 p3 = some (.inr res)) : Met l y_TL_requireSpan w_TL_requireSpan ({ frames := 1, cells := 0, slots := 0, locals := 22 } : Room) (va_Pc [.int p1, .int p2, .int p3] (fun U => U.heap.size = sz ∧ va_P (dC, dI) classes [] U.heap ∧ va_K (dC, dI) classes [] U ∧ va_D (fun _ => True) [] ∧ gx_E U)) (va_Qv (fun _ : Unit => True) (fun _ t => va_P (dC, dI) classes [] t.heap ∧ va_K (dC, dI) classes [] t ∧ va_D (va_A [] sz) []) (va_A [] sz)) 0 0 (va_A [] sz) := by
  refine Met.ofW (cc := b_TL_requireSpan) (maxL := 3) (ret := none) (by decide) rfl ?_
  intro p e s m args below meth c s₁ B hml hv
  obtain ⟨rfl, hsz, hP, hK, hD0, hE⟩ := hv
  have hx := B.exec
  have hb := B.bytes
  have hr := B.returns
  have hts := atoms_spec (ws := w_TL_requireSpan) B.pre
  have hown : s.vm.findClass R_TL = some m.cls := findClass_of_methodNamed B.named
  have hlocks := B.notSynchronized
  subst hsz
  have hD := hD0.self (sz := s.heap.size)
  generalize hAe : va_A [] s.heap.size = A at hD ⊢
  have hA : ∀ q : Nat, s.heap.size ≤ q → A q := fun q h => by rw [← hAe]; exact Or.inr h
  clear hAe hD0
  have key : ∀ (H : Heap) (locs : List Loc), va_P (dC, dI) classes [] H → va_D A [] → va_S A s.heap H locs → ∀ (ls : Array Slot), lv_has ls 3 [(0, .int p1), (1, .int p2), (2, .int p3)] → W p l e ({ frames := 1, cells := 0, slots := 0, locals := 22 } : Room) s m ([.int p1, .int p2, .int p3] : List Value).toArray below meth c H locs 0 0 (MQ below (va_Qv (fun _ : Unit => True) (fun _ t => va_P (dC, dI) classes [] t.heap ∧ va_K (dC, dI) classes [] t ∧ va_D A []) A) ([.int p1, .int p2, .int p3] : List Value).toArray s 0 0 A) (F0 m 0 ls []) := by
    intro H locs hP hD hS ls hl
    unfold fn_TL_requireSpan at h
    refine lv_iload_n hx hb d_TL_requireSpan_0 rfl (lv_at hl 0 rfl) ?_
    refine lv_iconst (v := 0) hx hb d_TL_requireSpan_1 (by decide) ?_
    refine lv_iload_n hx hb d_TL_requireSpan_2 rfl (lv_at hl 2 rfl) ?_
    have hPc := hP.sub (ws' := []) [] rfl
    have hDc := hD.sub (ws' := []) [] (by decide) rfl
    have hKc := hK.sub (tys' := []) [] rfl
    have hFc := va_free (wc := []) hD hS hA [] rfl
    obtain ⟨ur1, hc1, h⟩ := gx_thenR h
    refine va_callv (va_runS (As := [.int p1, .int 0, .int p3]) (rest := []) ⟨hx, hb, hml, hown, hts⟩ (c_TL_requireWithin N l dC dI H.size p1 0 p3 ur1 hc1) (va_cwS 3 hts (gx_gS mw_72 mw_70 mw_71 mw_24) rfl rfl rfl (by decide +kernel) ⟨Nat.le_of_ble_eq_true rfl, Nat.le_of_ble_eq_true rfl⟩) ⟨fun a U g mk q => by obtain ⟨q0, q1, qP, qK, qD, qE⟩ := q; exact ⟨q0, q1, qP, va_K.moved (u := U) (U := U.calling g mk a) (Vm.Alike.refl U.vm) qK, qD, qE.calls⟩, fun U hU hW => ⟨rfl, by rw [hU], by rw [hU]; exact hPc, va_K.moved hW.alike hKc, hDc.weaken (fun _ _ _ _ => trivial), hE.warm hW⟩⟩ rfl rfl hl.1 rfl (lv_room (Nat.le_of_ble_eq_true rfl)) d_TL_requireSpan_3 ⟨(Nat.zero_le _), (Nat.zero_le _)⟩) hS (fun q _ h => hFc q h) hFc (fun _ t H locs ht hvm hw hB hz1 hk1 hS => ?_)
    obtain ⟨hP1, hK1, hD1⟩ := hB
    rw [ht] at hP1
    obtain ⟨hP, hD⟩ := va_join (wr := []) (w1 := []) hP hD [] [] rfl rfl (by decide) (by decide) hk1 hFc hP1 hD1
    have hP : va_P (dC, dI) classes [] H := hP
    have hD : va_D A [] := hD
    refine lv_iload_n hx hb d_TL_requireSpan_6 rfl (lv_at hl 1 rfl) ?_
    refine lv_iconst (v := 0) hx hb d_TL_requireSpan_7 (by decide) ?_
    refine lv_iload_n hx hb d_TL_requireSpan_8 rfl (lv_at hl 2 rfl) ?_
    have hPc := hP.sub (ws' := []) [] rfl
    have hDc := hD.sub (ws' := []) [] (by decide) rfl
    have hKc := hK.sub (tys' := []) [] rfl
    have hFc := va_free (wc := []) hD hS hA [] rfl
    obtain ⟨ur2, hc2, h⟩ := gx_thenR h
    refine va_callv (va_runS (As := [.int p2, .int 0, .int p3]) (rest := []) ⟨hx, hb, hml, hown, hts⟩ (c_TL_requireWithin N l dC dI H.size p2 0 p3 ur2 hc2) (va_cwS 3 hts (gx_gS mw_72 mw_70 mw_71 mw_24) rfl rfl rfl (by decide +kernel) ⟨Nat.le_of_ble_eq_true rfl, Nat.le_of_ble_eq_true rfl⟩) ⟨fun a U g mk q => by obtain ⟨q0, q1, qP, qK, qD, qE⟩ := q; exact ⟨q0, q1, qP, va_K.moved (u := U) (U := U.calling g mk a) (Vm.Alike.refl U.vm) qK, qD, qE.calls⟩, fun U hU hW => ⟨rfl, by rw [hU], by rw [hU]; exact hPc, va_K.moved hW.alike hKc, hDc.weaken (fun _ _ _ _ => trivial), hE.warm hW⟩⟩ rfl rfl hl.1 rfl (lv_room (Nat.le_of_ble_eq_true rfl)) d_TL_requireSpan_9 ⟨(Nat.zero_le _), (Nat.zero_le _)⟩) hS (fun q _ h => hFc q h) hFc (fun _ t H locs ht hvm hw hB hz1 hk1 hS => ?_)
    obtain ⟨hP1, hK1, hD1⟩ := hB
    rw [ht] at hP1
    obtain ⟨hP, hD⟩ := va_join (wr := []) (w1 := []) hP hD [] [] rfl rfl (by decide) (by decide) hk1 hFc hP1 hD1
    have hP : va_P (dC, dI) classes [] H := hP
    have hD : va_D A [] := hD
    refine lv_iload_n hx hb d_TL_requireSpan_12 rfl (lv_at hl 0 rfl) ?_
    refine lv_iload_n hx hb d_TL_requireSpan_13 rfl (lv_at hl 1 rfl) ?_
    refine lv_icmp_lt (tgt := 27) hx hb d_TL_requireSpan_14 (by decide) (fun c3 => ?_) (fun c3 => ?_)
    · replace h := gx_pos c3 h
      have hP9 := hP
      have hD9 := hD
      exact W.vret hx hb hr (fun t ht hW => ⟨⟨(), rfl, trivial, ⟨by rw [ht]; exact hP9, va_K.moved hW.alike hK, hD9⟩⟩, hS.F ht⟩) hS.2.2 d_TL_requireSpan_27
    · replace h := gx_neg c3 h
      cases h
  have hl := lv_entry ([.int p1, .int p2, .int p3]) (n := 3) (Nat.le_of_ble_eq_true rfl)
  rw [lg_entry_eq]
  generalize (lg_sl ([.int p1, .int p2, .int p3]) ++ List.replicate (3 - (lg_sl ([.int p1, .int p2, .int p3])).length) Slot.unset).toArray = ls at hl ⊢
  exact key _ _ hP hD va_S.rf ls hl
set_option maxHeartbeats 4000000 in
set_option maxRecDepth 100000 in
theorem x_TL_requireSpan (N : Nat) (l : Launch) (hlt : l.stackTraces = false) (dC : Nat → ClassId) (dI : Nat → Nat → Nat) (sz : Nat) (p1 : Int32) (p2 : Int32) (p3 : Int32) (ex : Nat) (h : fn_TL_requireSpan N p1 p2 p3 = some (.inl ex)) : vx_Met l y_TL_requireSpan w_TL_requireSpan ({ frames := 7, cells := 1, slots := 6, locals := 122 } : Room) (va_Pc [.int p1, .int p2, .int p3] (fun U => U.heap.size = sz ∧ va_P (dC, dI) classes [] U.heap ∧ va_K (dC, dI) classes [] U ∧ va_D (fun _ => True) [] ∧ gx_E U ∧ gx_X (va_A [] sz) U)) (va_Qv (fun _ : Unit => False) (fun _ _ => True) (va_A [] sz)) (vx_X (fun _ : Unit => True) (fun E _ t => E = gx_en ex ∧ va_P (dC, dI) classes [] t.heap ∧ va_K (dC, dI) classes [] t ∧ va_D (va_A [] sz) []) (va_A [] sz)) 1 6 (va_A [] sz) := by
  refine vx_ofW (cc := b_TL_requireSpan) (maxL := 3) (ret := none) (by decide) rfl ?_
  intro p e s m args below meth c s₁ B hml htab hv
  obtain ⟨rfl, hsz, hP, hK, hD0, hE, hXx⟩ := hv
  have hx := B.exec
  have hb := B.bytes
  have hr := B.returns
  have hts := atoms_spec (ws := w_TL_requireSpan) B.pre
  have hown : s.vm.findClass R_TL = some m.cls := findClass_of_methodNamed B.named
  have hlocks := B.notSynchronized
  subst hsz
  have hD := hD0.self (sz := s.heap.size)
  generalize hAe : va_A [] s.heap.size = A at hD hXx ⊢
  have hA : ∀ q : Nat, s.heap.size ≤ q → A q := fun q h => by rw [← hAe]; exact Or.inr h
  clear hAe hD0
  have key : ∀ (H : Heap) (locs : List Loc), va_P (dC, dI) classes [] H → va_D A [] → va_S A s.heap H locs → ∀ (ls : Array Slot), lv_has ls 3 [(0, .int p1), (1, .int p2), (2, .int p3)] → W p l e ({ frames := 7, cells := 1, slots := 6, locals := 122 } : Room) s m ([.int p1, .int p2, .int p3] : List Value).toArray below meth c H locs 0 0 (vx_MQ below (va_Qv (fun _ : Unit => False) (fun _ _ => True) A) (vx_X (fun _ : Unit => True) (fun E _ t => E = gx_en ex ∧ va_P (dC, dI) classes [] t.heap ∧ va_K (dC, dI) classes [] t ∧ va_D A []) A) ([.int p1, .int p2, .int p3] : List Value).toArray s 1 6 A) (F0 m 0 ls []) := by
    intro H locs hP hD hS ls hl
    unfold fn_TL_requireSpan at h
    refine lv_iload_n hx hb d_TL_requireSpan_0 rfl (lv_at hl 0 rfl) ?_
    refine lv_iconst (v := 0) hx hb d_TL_requireSpan_1 (by decide) ?_
    refine lv_iload_n hx hb d_TL_requireSpan_2 rfl (lv_at hl 2 rfl) ?_
    have hPc := hP.sub (ws' := []) [] rfl
    have hDc := hD.sub (ws' := []) [] (by decide) rfl
    have hKc := hK.sub (tys' := []) [] rfl
    have hFc := va_free (wc := []) hD hS hA [] rfl
    rcases gx_thenL h with hc1 | ⟨ur1, hc1, h⟩
    · skip
      refine gx_callx (vx_runS (As := [.int p1, .int 0, .int p3]) (rest := []) ⟨hx, hb, hml, hown, hts⟩ (x_TL_requireWithin N l hlt dC dI H.size p1 0 p3 ex hc1) (va_cwS 3 hts (gx_gS mw_72 mw_70 mw_71 mw_24) rfl rfl rfl (by decide +kernel) ⟨Nat.le_of_ble_eq_true rfl, Nat.le_of_ble_eq_true rfl⟩) ⟨fun a U g mk q => by obtain ⟨q0, q1, qP, qK, qD, qE, qX⟩ := q; exact ⟨q0, q1, qP, va_K.moved (u := U) (U := U.calling g mk a) (Vm.Alike.refl U.vm) qK, qD, qE.calls, qX.calls⟩, fun U hU hW => ⟨rfl, by rw [hU], by rw [hU]; exact hPc, va_K.moved hW.alike hKc, hDc.weaken (fun _ _ _ _ => trivial), hE.warm hW, hXx.pass hS hU hW hFc⟩⟩ rfl rfl hl.1 rfl (lv_room (Nat.le_of_ble_eq_true rfl)) d_TL_requireSpan_3 ⟨Nat.le_of_ble_eq_true rfl, Nat.le_of_ble_eq_true rfl⟩) (fun st o t h => by obtain ⟨q, -⟩ := h; obtain ⟨_, _, q, _⟩ := q; exact q.elim) hS hFc (fun q _ h => hFc q h) (fun E ce q9 _ t H locs ht hvm hw hB hz1 hk1 hS hce hcv hcl => ?_)
      obtain ⟨hE1, hP1, hK1, hD1⟩ := hB
      rw [ht] at hP1
      replace hP := gx_keep0 hP hk1
      have hP9 := hP
      have hD9 := hD
      exact vx_out (fun x hx => (htab x hx).elim) hlocks hce hcv hcl (fun t ht hvm => ⟨(), trivial, ⟨hE1, by rw [ht]; exact hP9, va_K.moved hvm hK, hD9⟩, hS.F ht⟩) hS.2.2 (Nat.le_of_ble_eq_true rfl) (Nat.le_of_ble_eq_true rfl)
    · skip
      refine va_callv (va_runS (As := [.int p1, .int 0, .int p3]) (rest := []) ⟨hx, hb, hml, hown, hts⟩ (c_TL_requireWithin N l dC dI H.size p1 0 p3 ur1 hc1) (va_cwS 3 hts (gx_gS mw_72 mw_70 mw_71 mw_24) rfl rfl rfl (by decide +kernel) ⟨Nat.le_of_ble_eq_true rfl, Nat.le_of_ble_eq_true rfl⟩) ⟨fun a U g mk q => by obtain ⟨q0, q1, qP, qK, qD, qE⟩ := q; exact ⟨q0, q1, qP, va_K.moved (u := U) (U := U.calling g mk a) (Vm.Alike.refl U.vm) qK, qD, qE.calls⟩, fun U hU hW => ⟨rfl, by rw [hU], by rw [hU]; exact hPc, va_K.moved hW.alike hKc, hDc.weaken (fun _ _ _ _ => trivial), hE.warm hW⟩⟩ rfl rfl hl.1 rfl (lv_room (Nat.le_of_ble_eq_true rfl)) d_TL_requireSpan_3 ⟨(Nat.zero_le _), (Nat.zero_le _)⟩) hS (fun q _ h => hFc q h) hFc (fun _ t H locs ht hvm hw hB hz1 hk1 hS => ?_)
      obtain ⟨hP1, hK1, hD1⟩ := hB
      rw [ht] at hP1
      obtain ⟨hP, hD⟩ := va_join (wr := []) (w1 := []) hP hD [] [] rfl rfl (by decide) (by decide) hk1 hFc hP1 hD1
      have hP : va_P (dC, dI) classes [] H := hP
      have hD : va_D A [] := hD
      refine lv_iload_n hx hb d_TL_requireSpan_6 rfl (lv_at hl 1 rfl) ?_
      refine lv_iconst (v := 0) hx hb d_TL_requireSpan_7 (by decide) ?_
      refine lv_iload_n hx hb d_TL_requireSpan_8 rfl (lv_at hl 2 rfl) ?_
      have hPc := hP.sub (ws' := []) [] rfl
      have hDc := hD.sub (ws' := []) [] (by decide) rfl
      have hKc := hK.sub (tys' := []) [] rfl
      have hFc := va_free (wc := []) hD hS hA [] rfl
      rcases gx_thenL h with hc2 | ⟨ur2, hc2, h⟩
      · skip
        refine gx_callx (vx_runS (As := [.int p2, .int 0, .int p3]) (rest := []) ⟨hx, hb, hml, hown, hts⟩ (x_TL_requireWithin N l hlt dC dI H.size p2 0 p3 ex hc2) (va_cwS 3 hts (gx_gS mw_72 mw_70 mw_71 mw_24) rfl rfl rfl (by decide +kernel) ⟨Nat.le_of_ble_eq_true rfl, Nat.le_of_ble_eq_true rfl⟩) ⟨fun a U g mk q => by obtain ⟨q0, q1, qP, qK, qD, qE, qX⟩ := q; exact ⟨q0, q1, qP, va_K.moved (u := U) (U := U.calling g mk a) (Vm.Alike.refl U.vm) qK, qD, qE.calls, qX.calls⟩, fun U hU hW => ⟨rfl, by rw [hU], by rw [hU]; exact hPc, va_K.moved hW.alike hKc, hDc.weaken (fun _ _ _ _ => trivial), hE.warm hW, hXx.pass hS hU hW hFc⟩⟩ rfl rfl hl.1 rfl (lv_room (Nat.le_of_ble_eq_true rfl)) d_TL_requireSpan_9 ⟨Nat.le_of_ble_eq_true rfl, Nat.le_of_ble_eq_true rfl⟩) (fun st o t h => by obtain ⟨q, -⟩ := h; obtain ⟨_, _, q, _⟩ := q; exact q.elim) hS hFc (fun q _ h => hFc q h) (fun E ce q9 _ t H locs ht hvm hw hB hz1 hk1 hS hce hcv hcl => ?_)
        obtain ⟨hE1, hP1, hK1, hD1⟩ := hB
        rw [ht] at hP1
        replace hP := gx_keep0 hP hk1
        have hP9 := hP
        have hD9 := hD
        exact vx_out (fun x hx => (htab x hx).elim) hlocks hce hcv hcl (fun t ht hvm => ⟨(), trivial, ⟨hE1, by rw [ht]; exact hP9, va_K.moved hvm hK, hD9⟩, hS.F ht⟩) hS.2.2 (Nat.le_of_ble_eq_true rfl) (Nat.le_of_ble_eq_true rfl)
      · skip
        refine va_callv (va_runS (As := [.int p2, .int 0, .int p3]) (rest := []) ⟨hx, hb, hml, hown, hts⟩ (c_TL_requireWithin N l dC dI H.size p2 0 p3 ur2 hc2) (va_cwS 3 hts (gx_gS mw_72 mw_70 mw_71 mw_24) rfl rfl rfl (by decide +kernel) ⟨Nat.le_of_ble_eq_true rfl, Nat.le_of_ble_eq_true rfl⟩) ⟨fun a U g mk q => by obtain ⟨q0, q1, qP, qK, qD, qE⟩ := q; exact ⟨q0, q1, qP, va_K.moved (u := U) (U := U.calling g mk a) (Vm.Alike.refl U.vm) qK, qD, qE.calls⟩, fun U hU hW => ⟨rfl, by rw [hU], by rw [hU]; exact hPc, va_K.moved hW.alike hKc, hDc.weaken (fun _ _ _ _ => trivial), hE.warm hW⟩⟩ rfl rfl hl.1 rfl (lv_room (Nat.le_of_ble_eq_true rfl)) d_TL_requireSpan_9 ⟨(Nat.zero_le _), (Nat.zero_le _)⟩) hS (fun q _ h => hFc q h) hFc (fun _ t H locs ht hvm hw hB hz1 hk1 hS => ?_)
        obtain ⟨hP1, hK1, hD1⟩ := hB
        rw [ht] at hP1
        obtain ⟨hP, hD⟩ := va_join (wr := []) (w1 := []) hP hD [] [] rfl rfl (by decide) (by decide) hk1 hFc hP1 hD1
        have hP : va_P (dC, dI) classes [] H := hP
        have hD : va_D A [] := hD
        refine lv_iload_n hx hb d_TL_requireSpan_12 rfl (lv_at hl 0 rfl) ?_
        refine lv_iload_n hx hb d_TL_requireSpan_13 rfl (lv_at hl 1 rfl) ?_
        refine lv_icmp_lt (tgt := 27) hx hb d_TL_requireSpan_14 (by decide) (fun c3 => ?_) (fun c3 => ?_)
        · replace h := gx_pos c3 h
          cases h
        · replace h := gx_neg c3 h
          obtain ⟨sa, hsa⟩ := hXx.2.2.2 (195, "from is not below to") (List.mem_of_getElem? (i := 4) rfl)
          refine vx_throwS (cls := "java/lang/IllegalArgumentException") (names := gx_up) (ik := 61) (is := 195) (ic := 65) hx hb hlt hown (by decide +kernel) (by decide +kernel) (hts _ (gx_w mw_73)) (hts _ (gx_w mw_29)) hsa (vx_hat (fun w hw => hts w (gx_w (xa_65_a w hw))) xa_65_b (fun w hw => va_Nw.use (gx_Bt w hw) (hXx.1 w hw))) xa_65_c hXx.2.1 hXx.2.2.1 hS (hl.1.trans hml.symm) d_TL_requireSpan_17 d_TL_requireSpan_20 d_TL_requireSpan_21 d_TL_requireSpan_23 d_TL_requireSpan_26 (fun x hx => (htab x hx).elim) (Nat.le_of_ble_eq_true rfl) (Nat.le_of_ble_eq_true rfl) (Nat.le_of_ble_eq_true rfl) (Nat.le_of_ble_eq_true rfl) hlocks ?_ hS.2.2 (Nat.le_of_ble_eq_true rfl) (Nat.le_of_ble_eq_true rfl)
          intro t hvm hz hk
          have hP9 := hP
          have hD9 := hD
          obtain ⟨q1, q2⟩ := gx_thrown hP9 hK hD9 hS hvm hz hk
          exact ⟨(), trivial, ⟨by cases h; rfl, q1⟩, q2⟩
  have hl := lv_entry ([.int p1, .int p2, .int p3]) (n := 3) (Nat.le_of_ble_eq_true rfl)
  rw [lg_entry_eq]
  generalize (lg_sl ([.int p1, .int p2, .int p3]) ++ List.replicate (3 - (lg_sl ([.int p1, .int p2, .int p3])).length) Slot.unset).toArray = ls at hl ⊢
  exact key _ _ hP hD va_S.rf ls hl
def fn_TL_tankNumbered (N : Nat) (p1 : Int32) (xn : Int32) (xcold : Int32) (xtime : Int32) (xf : Nat → Option Nat) : Option (Nat ⊕ (Nat)) :=
  if p1 < 0 then some (.inl 1) else if p1 < 4 then if gx_inb p1 4 = true then gx_opt (xf p1.toNatClampNeg) (some (.inl 1)) (fun qa3 => some (.inr qa3)) else none else some (.inl 1)
def w_TL_tankNumbered : List Cond := .code y_TL_tankNumbered b_TL_tankNumbered 3 (some (.object "TankLayers$Tank")) :: gx_W
set_option maxHeartbeats 4000000 in
set_option maxRecDepth 100000 in
theorem c_TL_tankNumbered (N : Nat) (l : Launch) (dC : Nat → ClassId) (dI : Nat → Nat → Nat) (h0 : Nat) (ta : Nat) (kt : ClassId) (sz : Nat) (xn : Int32) (xcold : Int32) (xtime : Int32) (xf : Nat → Option Nat) (p1 : Int32) (res : Nat) (h : fn_TL_tankNumbered N p1 xn xcold xtime xf = some (.inr res)) : Met l y_TL_tankNumbered w_TL_tankNumbered ({ frames := 0, cells := 0, slots := 0, locals := 0 } : Room) (va_Pc [.ref h0, .int p1] (fun U => U.heap.size = sz ∧ va_P (dC, dI) classes [(h0, .inr (0, [.ref ta, .int xn, .int xcold, .int xtime])), (ta, .inl (kt, 4, .inr (.inr (.inr (.inr xf)))))] U.heap ∧ va_K (dC, dI) classes [(kt, .object R_Tank)] U ∧ va_D (fun _ => True) [(h0, .inr (0, [.ref ta, .int xn, .int xcold, .int xtime])), (ta, .inl (kt, 4, .inr (.inr (.inr (.inr xf)))))] ∧ gx_E U)) (va_Qr (fun _ : Unit => True) (fun _ a t => a = res ∧ va_P (dC, dI) classes [(h0, .inr (0, [.ref ta, .int xn, .int xcold, .int xtime])), (ta, .inl (kt, 4, .inr (.inr (.inr (.inr xf)))))] t.heap ∧ va_K (dC, dI) classes [(kt, .object R_Tank)] t ∧ va_D (va_A [(h0, .inr (0, [.ref ta, .int xn, .int xcold, .int xtime])), (ta, .inl (kt, 4, .inr (.inr (.inr (.inr xf)))))] sz) [(h0, .inr (0, [.ref ta, .int xn, .int xcold, .int xtime])), (ta, .inl (kt, 4, .inr (.inr (.inr (.inr xf)))))]) (va_A [(h0, .inr (0, [.ref ta, .int xn, .int xcold, .int xtime])), (ta, .inl (kt, 4, .inr (.inr (.inr (.inr xf)))))] sz)) 0 0 (va_A [(h0, .inr (0, [.ref ta, .int xn, .int xcold, .int xtime])), (ta, .inl (kt, 4, .inr (.inr (.inr (.inr xf)))))] sz) := by
  refine Met.ofW (cc := b_TL_tankNumbered) (maxL := 3) (ret := (some (.object "TankLayers$Tank"))) (by decide) rfl ?_
  intro p e s m args below meth c s₁ B hml hv
  obtain ⟨rfl, hsz, hP, hK, hD0, hE⟩ := hv
  have hx := B.exec
  have hb := B.bytes
  have hr := B.returns
  have hts := atoms_spec (ws := w_TL_tankNumbered) B.pre
  have hown : s.vm.findClass R_TL = some m.cls := findClass_of_methodNamed B.named
  have hlocks := B.notSynchronized
  subst hsz
  have hD := hD0.self (sz := s.heap.size)
  generalize hAe : va_A [(h0, .inr (0, [.ref ta, .int xn, .int xcold, .int xtime])), (ta, .inl (kt, 4, .inr (.inr (.inr (.inr xf)))))] s.heap.size = A at hD ⊢
  have hA : ∀ q : Nat, s.heap.size ≤ q → A q := fun q h => by rw [← hAe]; exact Or.inr h
  clear hAe hD0
  have key : ∀ (H : Heap) (locs : List Loc), va_P (dC, dI) classes [(h0, .inr (0, [.ref ta, .int xn, .int xcold, .int xtime])), (ta, .inl (kt, 4, .inr (.inr (.inr (.inr xf)))))] H → va_D A [(h0, .inr (0, [.ref ta, .int xn, .int xcold, .int xtime])), (ta, .inl (kt, 4, .inr (.inr (.inr (.inr xf)))))] → va_S A s.heap H locs → ∀ (ls : Array Slot), lv_has ls 3 [(0, .ref h0), (1, .int p1)] → W p l e ({ frames := 0, cells := 0, slots := 0, locals := 0 } : Room) s m ([.ref h0, .int p1] : List Value).toArray below meth c H locs 0 0 (MQ below (va_Qr (fun _ : Unit => True) (fun _ a t => a = res ∧ va_P (dC, dI) classes [(h0, .inr (0, [.ref ta, .int xn, .int xcold, .int xtime])), (ta, .inl (kt, 4, .inr (.inr (.inr (.inr xf)))))] t.heap ∧ va_K (dC, dI) classes [(kt, .object R_Tank)] t ∧ va_D A [(h0, .inr (0, [.ref ta, .int xn, .int xcold, .int xtime])), (ta, .inl (kt, 4, .inr (.inr (.inr (.inr xf)))))]) A) ([.ref h0, .int p1] : List Value).toArray s 0 0 A) (F0 m 0 ls []) := by
    intro H locs hP hD hS ls hl
    unfold fn_TL_tankNumbered at h
    refine lv_iload_n hx hb d_TL_tankNumbered_0 rfl (lv_at hl 1 rfl) ?_
    refine lv_if_lt (tgt := 13) hx hb d_TL_tankNumbered_1 (by decide) (fun c1 => ?_) (fun c1 => ?_)
    · replace h := gx_pos c1 h
      cases h
    · replace h := gx_neg c1 h
      refine lv_iload_n hx hb d_TL_tankNumbered_4 rfl (lv_at hl 1 rfl) ?_
      refine lv_aload_n hx hb d_TL_tankNumbered_5 rfl (lv_at hl 0 rfl) ?_
      refine va_get (D := (dC, dI)) (ci := 0) (v := .ref ta) (C := R_TL) (T := F_TL) (N := 4) hx hb hts (gx_in i_TL) hown hK hP 0 rfl rfl 0 (by decide) (hts _ (gx_w mw_47)) (fun _ h9 => h9) rfl d_TL_tankNumbered_6 ?_
      refine va_alen hx hb hK hP 1 0 rfl rfl (v := 4) rfl d_TL_tankNumbered_9 ?_
      refine lv_icmp_lt (tgt := 23) hx hb d_TL_tankNumbered_10 (by decide) (fun c2 => ?_) (fun c2 => ?_)
      · replace h := gx_pos c2 h
        refine lv_aload_n hx hb d_TL_tankNumbered_23 rfl (lv_at hl 0 rfl) ?_
        refine va_get (D := (dC, dI)) (ci := 0) (v := .ref ta) (C := R_TL) (T := F_TL) (N := 4) hx hb hts (gx_in i_TL) hown hK hP 0 rfl rfl 0 (by decide) (hts _ (gx_w mw_47)) (fun _ h9 => h9) rfl d_TL_tankNumbered_24 ?_
        refine lv_iload_n hx hb d_TL_tankNumbered_27 rfl (lv_at hl 1 rfl) ?_
        obtain ⟨hi3, h⟩ := gx_inb_of h
        refine va_aldq hx hb hK hP 1 0 rfl rfl hi3 d_TL_tankNumbered_28 ?_
        cases hq3 : xf p1.toNatClampNeg with
        | none =>
          replace h := gx_none hq3 h
          refine lv_astore_nN (lv' := [(2, .null), (0, .ref h0), (1, .int p1)]) hx hb d_TL_tankNumbered_29 rfl hl (by decide) rfl (fun ls hl => ?_)
          refine lv_aload_nN hx hb d_TL_tankNumbered_30 rfl (lv_at hl 0 rfl) ?_
          refine lv_ifnonnullN hx hb d_TL_tankNumbered_31 ?_
          cases h
        | some qa3 =>
          replace h := gx_some hq3 h
          refine lv_astore_n (lv' := [(2, .ref qa3), (0, .ref h0), (1, .int p1)]) hx hb d_TL_tankNumbered_29 rfl hl (by decide) rfl (fun ls hl => ?_)
          refine lv_aload_n hx hb d_TL_tankNumbered_30 rfl (lv_at hl 0 rfl) ?_
          refine lv_ifnonnull (tgt := 44) hx hb d_TL_tankNumbered_31 (by decide) ?_
          refine lv_aload_n hx hb d_TL_tankNumbered_44 rfl (lv_at hl 0 rfl) ?_
          rw [← Sum.inr.inj (Option.some.inj h)]
          have hP9 := hP
          have hD9 := hD
          exact W.aret (v := .ref qa3) hx hb hr (Or.inl ⟨_, rfl⟩) (Or.inr ⟨_, rfl⟩) (fun t ht hW => ⟨⟨(), qa3, rfl, trivial, rfl, by rw [ht]; exact hP9, va_K.moved hW.alike hK, hD9⟩, hS.F ht⟩) hS.2.2 d_TL_tankNumbered_45
      · replace h := gx_neg c2 h
        cases h
  have hl := lv_entry ([.ref h0, .int p1]) (n := 3) (Nat.le_of_ble_eq_true rfl)
  rw [lg_entry_eq]
  generalize (lg_sl ([.ref h0, .int p1]) ++ List.replicate (3 - (lg_sl ([.ref h0, .int p1])).length) Slot.unset).toArray = ls at hl ⊢
  exact key _ _ hP hD va_S.rf ls hl
set_option maxHeartbeats 4000000 in
set_option maxRecDepth 100000 in
theorem x_TL_tankNumbered (N : Nat) (l : Launch) (hlt : l.stackTraces = false) (dC : Nat → ClassId) (dI : Nat → Nat → Nat) (h0 : Nat) (ta : Nat) (kt : ClassId) (sz : Nat) (xn : Int32) (xcold : Int32) (xtime : Int32) (xf : Nat → Option Nat) (p1 : Int32) (ex : Nat) (h : fn_TL_tankNumbered N p1 xn xcold xtime xf = some (.inl ex)) : vx_Met l y_TL_tankNumbered w_TL_tankNumbered ({ frames := 6, cells := 1, slots := 6, locals := 100 } : Room) (va_Pc [.ref h0, .int p1] (fun U => U.heap.size = sz ∧ va_P (dC, dI) classes [(h0, .inr (0, [.ref ta, .int xn, .int xcold, .int xtime])), (ta, .inl (kt, 4, .inr (.inr (.inr (.inr xf)))))] U.heap ∧ va_K (dC, dI) classes [(kt, .object R_Tank)] U ∧ va_D (fun _ => True) [(h0, .inr (0, [.ref ta, .int xn, .int xcold, .int xtime])), (ta, .inl (kt, 4, .inr (.inr (.inr (.inr xf)))))] ∧ gx_E U ∧ gx_X (va_A [(h0, .inr (0, [.ref ta, .int xn, .int xcold, .int xtime])), (ta, .inl (kt, 4, .inr (.inr (.inr (.inr xf)))))] sz) U)) (va_Qr (fun _ : Unit => False) (fun _ _ _ => True) (va_A [(h0, .inr (0, [.ref ta, .int xn, .int xcold, .int xtime])), (ta, .inl (kt, 4, .inr (.inr (.inr (.inr xf)))))] sz)) (vx_X (fun _ : Unit => True) (fun E _ t => E = gx_en ex ∧ va_P (dC, dI) classes [(h0, .inr (0, [.ref ta, .int xn, .int xcold, .int xtime])), (ta, .inl (kt, 4, .inr (.inr (.inr (.inr xf)))))] t.heap ∧ va_K (dC, dI) classes [(kt, .object R_Tank)] t ∧ va_D (va_A [(h0, .inr (0, [.ref ta, .int xn, .int xcold, .int xtime])), (ta, .inl (kt, 4, .inr (.inr (.inr (.inr xf)))))] sz) [(h0, .inr (0, [.ref ta, .int xn, .int xcold, .int xtime])), (ta, .inl (kt, 4, .inr (.inr (.inr (.inr xf)))))]) (va_A [(h0, .inr (0, [.ref ta, .int xn, .int xcold, .int xtime])), (ta, .inl (kt, 4, .inr (.inr (.inr (.inr xf)))))] sz)) 1 6 (va_A [(h0, .inr (0, [.ref ta, .int xn, .int xcold, .int xtime])), (ta, .inl (kt, 4, .inr (.inr (.inr (.inr xf)))))] sz) := by
  refine vx_ofW (cc := b_TL_tankNumbered) (maxL := 3) (ret := (some (.object "TankLayers$Tank"))) (by decide) rfl ?_
  intro p e s m args below meth c s₁ B hml htab hv
  obtain ⟨rfl, hsz, hP, hK, hD0, hE, hXx⟩ := hv
  have hx := B.exec
  have hb := B.bytes
  have hr := B.returns
  have hts := atoms_spec (ws := w_TL_tankNumbered) B.pre
  have hown : s.vm.findClass R_TL = some m.cls := findClass_of_methodNamed B.named
  have hlocks := B.notSynchronized
  subst hsz
  have hD := hD0.self (sz := s.heap.size)
  generalize hAe : va_A [(h0, .inr (0, [.ref ta, .int xn, .int xcold, .int xtime])), (ta, .inl (kt, 4, .inr (.inr (.inr (.inr xf)))))] s.heap.size = A at hD hXx ⊢
  have hA : ∀ q : Nat, s.heap.size ≤ q → A q := fun q h => by rw [← hAe]; exact Or.inr h
  clear hAe hD0
  have key : ∀ (H : Heap) (locs : List Loc), va_P (dC, dI) classes [(h0, .inr (0, [.ref ta, .int xn, .int xcold, .int xtime])), (ta, .inl (kt, 4, .inr (.inr (.inr (.inr xf)))))] H → va_D A [(h0, .inr (0, [.ref ta, .int xn, .int xcold, .int xtime])), (ta, .inl (kt, 4, .inr (.inr (.inr (.inr xf)))))] → va_S A s.heap H locs → ∀ (ls : Array Slot), lv_has ls 3 [(0, .ref h0), (1, .int p1)] → W p l e ({ frames := 6, cells := 1, slots := 6, locals := 100 } : Room) s m ([.ref h0, .int p1] : List Value).toArray below meth c H locs 0 0 (vx_MQ below (va_Qr (fun _ : Unit => False) (fun _ _ _ => True) A) (vx_X (fun _ : Unit => True) (fun E _ t => E = gx_en ex ∧ va_P (dC, dI) classes [(h0, .inr (0, [.ref ta, .int xn, .int xcold, .int xtime])), (ta, .inl (kt, 4, .inr (.inr (.inr (.inr xf)))))] t.heap ∧ va_K (dC, dI) classes [(kt, .object R_Tank)] t ∧ va_D A [(h0, .inr (0, [.ref ta, .int xn, .int xcold, .int xtime])), (ta, .inl (kt, 4, .inr (.inr (.inr (.inr xf)))))]) A) ([.ref h0, .int p1] : List Value).toArray s 1 6 A) (F0 m 0 ls []) := by
    intro H locs hP hD hS ls hl
    unfold fn_TL_tankNumbered at h
    refine lv_iload_n hx hb d_TL_tankNumbered_0 rfl (lv_at hl 1 rfl) ?_
    refine lv_if_lt (tgt := 13) hx hb d_TL_tankNumbered_1 (by decide) (fun c1 => ?_) (fun c1 => ?_)
    · replace h := gx_pos c1 h
      obtain ⟨sa, hsa⟩ := hXx.2.2.2 (190, "there is no such tank") (List.mem_of_getElem? (i := 2) rfl)
      refine vx_throwS (cls := "java/lang/IllegalArgumentException") (names := gx_up) (ik := 61) (is := 190) (ic := 65) hx hb hlt hown (by decide +kernel) (by decide +kernel) (hts _ (gx_w mw_73)) (hts _ (gx_w mw_29)) hsa (vx_hat (fun w hw => hts w (gx_w (xa_65_a w hw))) xa_65_b (fun w hw => va_Nw.use (gx_Bt w hw) (hXx.1 w hw))) xa_65_c hXx.2.1 hXx.2.2.1 hS (hl.1.trans hml.symm) d_TL_tankNumbered_13 d_TL_tankNumbered_16 d_TL_tankNumbered_17 d_TL_tankNumbered_19 d_TL_tankNumbered_22 (fun x hx => (htab x hx).elim) (Nat.le_of_ble_eq_true rfl) (Nat.le_of_ble_eq_true rfl) (Nat.le_of_ble_eq_true rfl) (Nat.le_of_ble_eq_true rfl) hlocks ?_ hS.2.2 (Nat.le_of_ble_eq_true rfl) (Nat.le_of_ble_eq_true rfl)
      intro t hvm hz hk
      have hP9 := hP
      have hD9 := hD
      obtain ⟨q1, q2⟩ := gx_thrown hP9 hK hD9 hS hvm hz hk
      exact ⟨(), trivial, ⟨by cases h; rfl, q1⟩, q2⟩
    · replace h := gx_neg c1 h
      refine lv_iload_n hx hb d_TL_tankNumbered_4 rfl (lv_at hl 1 rfl) ?_
      refine lv_aload_n hx hb d_TL_tankNumbered_5 rfl (lv_at hl 0 rfl) ?_
      refine va_get (D := (dC, dI)) (ci := 0) (v := .ref ta) (C := R_TL) (T := F_TL) (N := 4) hx hb hts (gx_in i_TL) hown hK hP 0 rfl rfl 0 (by decide) (hts _ (gx_w mw_47)) (fun _ h9 => h9) rfl d_TL_tankNumbered_6 ?_
      refine va_alen hx hb hK hP 1 0 rfl rfl (v := 4) rfl d_TL_tankNumbered_9 ?_
      refine lv_icmp_lt (tgt := 23) hx hb d_TL_tankNumbered_10 (by decide) (fun c2 => ?_) (fun c2 => ?_)
      · replace h := gx_pos c2 h
        refine lv_aload_n hx hb d_TL_tankNumbered_23 rfl (lv_at hl 0 rfl) ?_
        refine va_get (D := (dC, dI)) (ci := 0) (v := .ref ta) (C := R_TL) (T := F_TL) (N := 4) hx hb hts (gx_in i_TL) hown hK hP 0 rfl rfl 0 (by decide) (hts _ (gx_w mw_47)) (fun _ h9 => h9) rfl d_TL_tankNumbered_24 ?_
        refine lv_iload_n hx hb d_TL_tankNumbered_27 rfl (lv_at hl 1 rfl) ?_
        obtain ⟨hi3, h⟩ := gx_inb_of h
        refine va_aldq hx hb hK hP 1 0 rfl rfl hi3 d_TL_tankNumbered_28 ?_
        cases hq3 : xf p1.toNatClampNeg with
        | none =>
          replace h := gx_none hq3 h
          refine lv_astore_nN (lv' := [(2, .null), (0, .ref h0), (1, .int p1)]) hx hb d_TL_tankNumbered_29 rfl hl (by decide) rfl (fun ls hl => ?_)
          refine lv_aload_nN hx hb d_TL_tankNumbered_30 rfl (lv_at hl 0 rfl) ?_
          refine lv_ifnonnullN hx hb d_TL_tankNumbered_31 ?_
          obtain ⟨sa, hsa⟩ := hXx.2.2.2 (190, "there is no such tank") (List.mem_of_getElem? (i := 2) rfl)
          refine vx_throwS (cls := "java/lang/IllegalArgumentException") (names := gx_up) (ik := 61) (is := 190) (ic := 65) hx hb hlt hown (by decide +kernel) (by decide +kernel) (hts _ (gx_w mw_73)) (hts _ (gx_w mw_29)) hsa (vx_hat (fun w hw => hts w (gx_w (xa_65_a w hw))) xa_65_b (fun w hw => va_Nw.use (gx_Bt w hw) (hXx.1 w hw))) xa_65_c hXx.2.1 hXx.2.2.1 hS (hl.1.trans hml.symm) d_TL_tankNumbered_34 d_TL_tankNumbered_37 d_TL_tankNumbered_38 d_TL_tankNumbered_40 d_TL_tankNumbered_43 (fun x hx => (htab x hx).elim) (Nat.le_of_ble_eq_true rfl) (Nat.le_of_ble_eq_true rfl) (Nat.le_of_ble_eq_true rfl) (Nat.le_of_ble_eq_true rfl) hlocks ?_ hS.2.2 (Nat.le_of_ble_eq_true rfl) (Nat.le_of_ble_eq_true rfl)
          intro t hvm hz hk
          have hP9 := hP
          have hD9 := hD
          obtain ⟨q1, q2⟩ := gx_thrown hP9 hK hD9 hS hvm hz hk
          exact ⟨(), trivial, ⟨by cases h; rfl, q1⟩, q2⟩
        | some qa3 =>
          replace h := gx_some hq3 h
          refine lv_astore_n (lv' := [(2, .ref qa3), (0, .ref h0), (1, .int p1)]) hx hb d_TL_tankNumbered_29 rfl hl (by decide) rfl (fun ls hl => ?_)
          refine lv_aload_n hx hb d_TL_tankNumbered_30 rfl (lv_at hl 0 rfl) ?_
          refine lv_ifnonnull (tgt := 44) hx hb d_TL_tankNumbered_31 (by decide) ?_
          refine lv_aload_n hx hb d_TL_tankNumbered_44 rfl (lv_at hl 0 rfl) ?_
          cases h
      · replace h := gx_neg c2 h
        obtain ⟨sa, hsa⟩ := hXx.2.2.2 (190, "there is no such tank") (List.mem_of_getElem? (i := 2) rfl)
        refine vx_throwS (cls := "java/lang/IllegalArgumentException") (names := gx_up) (ik := 61) (is := 190) (ic := 65) hx hb hlt hown (by decide +kernel) (by decide +kernel) (hts _ (gx_w mw_73)) (hts _ (gx_w mw_29)) hsa (vx_hat (fun w hw => hts w (gx_w (xa_65_a w hw))) xa_65_b (fun w hw => va_Nw.use (gx_Bt w hw) (hXx.1 w hw))) xa_65_c hXx.2.1 hXx.2.2.1 hS (hl.1.trans hml.symm) d_TL_tankNumbered_13 d_TL_tankNumbered_16 d_TL_tankNumbered_17 d_TL_tankNumbered_19 d_TL_tankNumbered_22 (fun x hx => (htab x hx).elim) (Nat.le_of_ble_eq_true rfl) (Nat.le_of_ble_eq_true rfl) (Nat.le_of_ble_eq_true rfl) (Nat.le_of_ble_eq_true rfl) hlocks ?_ hS.2.2 (Nat.le_of_ble_eq_true rfl) (Nat.le_of_ble_eq_true rfl)
        intro t hvm hz hk
        have hP9 := hP
        have hD9 := hD
        obtain ⟨q1, q2⟩ := gx_thrown hP9 hK hD9 hS hvm hz hk
        exact ⟨(), trivial, ⟨by cases h; rfl, q1⟩, q2⟩
  have hl := lv_entry ([.ref h0, .int p1]) (n := 3) (Nat.le_of_ble_eq_true rfl)
  rw [lg_entry_eq]
  generalize (lg_sl ([.ref h0, .int p1]) ++ List.replicate (3 - (lg_sl ([.ref h0, .int p1])).length) Slot.unset).toArray = ls at hl ⊢
  exact key _ _ hP hD va_S.rf ls hl
