theorem mw_258 : (Cond.fieldLink R_Time 18 "TankLayers$Timetable" "count" "I") ∈ gx_W := List.mem_filter.mpr ⟨List.mem_of_getElem? (i := 258) (by decide +kernel), by decide +kernel⟩
theorem mw_256 : (Cond.fieldLink R_Time 9 "TankLayers$Timetable" "minutes" "[I") ∈ gx_W := List.mem_filter.mpr ⟨List.mem_of_getElem? (i := 256) (by decide +kernel), by decide +kernel⟩
theorem mw_257 : (Cond.fieldLink R_Time 15 "TankLayers$Timetable" "parts" "[I") ∈ gx_W := List.mem_filter.mpr ⟨List.mem_of_getElem? (i := 257) (by decide +kernel), by decide +kernel⟩
theorem mw_430 : (Cond.code y_Time_placeOf b_Time_placeOf 3 (some .int)) ∈ gx_W := List.mem_filter.mpr ⟨List.mem_of_getElem? (i := 430) (by decide +kernel), by decide +kernel⟩
theorem mw_427 : (Cond.methodLink R_Time 22 y_Time_placeOf) ∈ gx_W := List.mem_filter.mpr ⟨List.mem_of_getElem? (i := 427) (by decide +kernel), by decide +kernel⟩
theorem mw_429 : (Cond.instanceMethod y_Time_placeOf) ∈ gx_W := List.mem_filter.mpr ⟨List.mem_of_getElem? (i := 429) (by decide +kernel), by decide +kernel⟩
theorem mw_9 : (Cond.selects R_Time y_Time_placeOf y_Time_placeOf) ∈ gx_W := List.mem_filter.mpr ⟨List.mem_of_getElem? (i := 9) (by decide +kernel), by decide +kernel⟩
theorem mw_35 : (Cond.initialized R_Time) ∈ gx_W := List.mem_filter.mpr ⟨List.mem_of_getElem? (i := 35) (by decide +kernel), by decide +kernel⟩
theorem mw_434 : (Cond.code y_Time_isFull b_Time_isFull 1 (some .boolean)) ∈ gx_W := List.mem_filter.mpr ⟨List.mem_of_getElem? (i := 434) (by decide +kernel), by decide +kernel⟩
theorem mw_444 : (Cond.methodLink R_Time 30 y_Time_isFull) ∈ gx_W := List.mem_filter.mpr ⟨List.mem_of_getElem? (i := 444) (by decide +kernel), by decide +kernel⟩
theorem mw_432 : (Cond.instanceMethod y_Time_isFull) ∈ gx_W := List.mem_filter.mpr ⟨List.mem_of_getElem? (i := 432) (by decide +kernel), by decide +kernel⟩
theorem mw_433 : (Cond.selects R_Time y_Time_isFull y_Time_isFull) ∈ gx_W := List.mem_filter.mpr ⟨List.mem_of_getElem? (i := 433) (by decide +kernel), by decide +kernel⟩
theorem mw_443 : (Cond.code y_Time_removePlace b_Time_removePlace 2 none) ∈ gx_W := List.mem_filter.mpr ⟨List.mem_of_getElem? (i := 443) (by decide +kernel), by decide +kernel⟩
theorem mw_440 : (Cond.methodLink R_Time 26 y_Time_removePlace) ∈ gx_W := List.mem_filter.mpr ⟨List.mem_of_getElem? (i := 440) (by decide +kernel), by decide +kernel⟩
theorem mw_442 : (Cond.instanceMethod y_Time_removePlace) ∈ gx_W := List.mem_filter.mpr ⟨List.mem_of_getElem? (i := 442) (by decide +kernel), by decide +kernel⟩
theorem mw_10 : (Cond.selects R_Time y_Time_removePlace y_Time_removePlace) ∈ gx_W := List.mem_filter.mpr ⟨List.mem_of_getElem? (i := 10) (by decide +kernel), by decide +kernel⟩
theorem d_Time_isFull_0 : decode b_Time_isFull 0 = .ok (.aload_n 0, 1) := by decide +kernel
theorem d_Time_isFull_1 : decode b_Time_isFull 1 = .ok (.getfield 18, 3) := by decide +kernel
theorem d_Time_isFull_4 : decode b_Time_isFull 4 = .ok (.aload_n 0, 1) := by decide +kernel
theorem d_Time_isFull_5 : decode b_Time_isFull 5 = .ok (.getfield 9, 3) := by decide +kernel
theorem d_Time_isFull_8 : decode b_Time_isFull 8 = .ok (.arraylength, 1) := by decide +kernel
theorem d_Time_isFull_9 : decode b_Time_isFull 9 = .ok (.if_icmp .lt 7, 3) := by decide +kernel
theorem d_Time_isFull_12 : decode b_Time_isFull 12 = .ok (.iconst 1, 1) := by decide +kernel
theorem d_Time_isFull_13 : decode b_Time_isFull 13 = .ok (.goto 4, 3) := by decide +kernel
theorem d_Time_isFull_16 : decode b_Time_isFull 16 = .ok (.iconst 0, 1) := by decide +kernel
theorem d_Time_isFull_17 : decode b_Time_isFull 17 = .ok (.ireturn, 1) := by decide +kernel
theorem d_Time_placeOf_0 : decode b_Time_placeOf 0 = .ok (.iconst 0, 1) := by decide +kernel
theorem d_Time_placeOf_1 : decode b_Time_placeOf 1 = .ok (.istore_n 2, 1) := by decide +kernel
theorem d_Time_placeOf_2 : decode b_Time_placeOf 2 = .ok (.iload_n 2, 1) := by decide +kernel
theorem d_Time_placeOf_3 : decode b_Time_placeOf 3 = .ok (.aload_n 0, 1) := by decide +kernel
theorem d_Time_placeOf_4 : decode b_Time_placeOf 4 = .ok (.getfield 18, 3) := by decide +kernel
theorem d_Time_placeOf_7 : decode b_Time_placeOf 7 = .ok (.if_icmp .ge 21, 3) := by decide +kernel
theorem d_Time_placeOf_10 : decode b_Time_placeOf 10 = .ok (.aload_n 0, 1) := by decide +kernel
theorem d_Time_placeOf_11 : decode b_Time_placeOf 11 = .ok (.getfield 9, 3) := by decide +kernel
theorem d_Time_placeOf_14 : decode b_Time_placeOf 14 = .ok (.iload_n 2, 1) := by decide +kernel
theorem d_Time_placeOf_15 : decode b_Time_placeOf 15 = .ok (.iaload, 1) := by decide +kernel
theorem d_Time_placeOf_16 : decode b_Time_placeOf 16 = .ok (.iload_n 1, 1) := by decide +kernel
theorem d_Time_placeOf_17 : decode b_Time_placeOf 17 = .ok (.if_icmp .ne 5, 3) := by decide +kernel
theorem d_Time_placeOf_20 : decode b_Time_placeOf 20 = .ok (.iload_n 2, 1) := by decide +kernel
theorem d_Time_placeOf_21 : decode b_Time_placeOf 21 = .ok (.ireturn, 1) := by decide +kernel
theorem d_Time_placeOf_22 : decode b_Time_placeOf 22 = .ok (.iinc 2 1, 3) := by decide +kernel
theorem d_Time_placeOf_25 : decode b_Time_placeOf 25 = .ok (.goto (-23), 3) := by decide +kernel
theorem d_Time_placeOf_28 : decode b_Time_placeOf 28 = .ok (.iconst (-1), 1) := by decide +kernel
theorem d_Time_placeOf_29 : decode b_Time_placeOf 29 = .ok (.ireturn, 1) := by decide +kernel
theorem d_Time_removePlace_0 : decode b_Time_removePlace 0 = .ok (.aload_n 0, 1) := by decide +kernel
theorem d_Time_removePlace_1 : decode b_Time_removePlace 1 = .ok (.dup, 1) := by decide +kernel
theorem d_Time_removePlace_2 : decode b_Time_removePlace 2 = .ok (.getfield 18, 3) := by decide +kernel
theorem d_Time_removePlace_5 : decode b_Time_removePlace 5 = .ok (.iconst 1, 1) := by decide +kernel
theorem d_Time_removePlace_6 : decode b_Time_removePlace 6 = .ok (.isub, 1) := by decide +kernel
theorem d_Time_removePlace_7 : decode b_Time_removePlace 7 = .ok (.putfield 18, 3) := by decide +kernel
theorem d_Time_removePlace_10 : decode b_Time_removePlace 10 = .ok (.aload_n 0, 1) := by decide +kernel
theorem d_Time_removePlace_11 : decode b_Time_removePlace 11 = .ok (.getfield 9, 3) := by decide +kernel
theorem d_Time_removePlace_14 : decode b_Time_removePlace 14 = .ok (.iload_n 1, 1) := by decide +kernel
theorem d_Time_removePlace_15 : decode b_Time_removePlace 15 = .ok (.aload_n 0, 1) := by decide +kernel
theorem d_Time_removePlace_16 : decode b_Time_removePlace 16 = .ok (.getfield 9, 3) := by decide +kernel
theorem d_Time_removePlace_19 : decode b_Time_removePlace 19 = .ok (.aload_n 0, 1) := by decide +kernel
theorem d_Time_removePlace_20 : decode b_Time_removePlace 20 = .ok (.getfield 18, 3) := by decide +kernel
theorem d_Time_removePlace_23 : decode b_Time_removePlace 23 = .ok (.iaload, 1) := by decide +kernel
theorem d_Time_removePlace_24 : decode b_Time_removePlace 24 = .ok (.iastore, 1) := by decide +kernel
theorem d_Time_removePlace_25 : decode b_Time_removePlace 25 = .ok (.aload_n 0, 1) := by decide +kernel
theorem d_Time_removePlace_26 : decode b_Time_removePlace 26 = .ok (.getfield 15, 3) := by decide +kernel
theorem d_Time_removePlace_29 : decode b_Time_removePlace 29 = .ok (.iload_n 1, 1) := by decide +kernel
theorem d_Time_removePlace_30 : decode b_Time_removePlace 30 = .ok (.aload_n 0, 1) := by decide +kernel
theorem d_Time_removePlace_31 : decode b_Time_removePlace 31 = .ok (.getfield 15, 3) := by decide +kernel
theorem d_Time_removePlace_34 : decode b_Time_removePlace 34 = .ok (.aload_n 0, 1) := by decide +kernel
theorem d_Time_removePlace_35 : decode b_Time_removePlace 35 = .ok (.getfield 18, 3) := by decide +kernel
theorem d_Time_removePlace_38 : decode b_Time_removePlace 38 = .ok (.iaload, 1) := by decide +kernel
theorem d_Time_removePlace_39 : decode b_Time_removePlace 39 = .ok (.iastore, 1) := by decide +kernel
theorem d_Time_removePlace_40 : decode b_Time_removePlace 40 = .ok (.return_, 1) := by decide +kernel
theorem d_Time_partsAt_0 : decode b_Time_partsAt 0 = .ok (.aload_n 0, 1) := by decide +kernel
theorem d_Time_partsAt_1 : decode b_Time_partsAt 1 = .ok (.iload_n 1, 1) := by decide +kernel
theorem d_Time_partsAt_2 : decode b_Time_partsAt 2 = .ok (.invokevirtual 22, 3) := by decide +kernel
theorem d_Time_partsAt_5 : decode b_Time_partsAt 5 = .ok (.istore_n 2, 1) := by decide +kernel
theorem d_Time_partsAt_6 : decode b_Time_partsAt 6 = .ok (.iload_n 2, 1) := by decide +kernel
theorem d_Time_partsAt_7 : decode b_Time_partsAt 7 = .ok (.iconst (-1), 1) := by decide +kernel
theorem d_Time_partsAt_8 : decode b_Time_partsAt 8 = .ok (.if_icmp .ne 7, 3) := by decide +kernel
theorem d_Time_partsAt_11 : decode b_Time_partsAt 11 = .ok (.iconst 0, 1) := by decide +kernel
theorem d_Time_partsAt_12 : decode b_Time_partsAt 12 = .ok (.goto 9, 3) := by decide +kernel
theorem d_Time_partsAt_15 : decode b_Time_partsAt 15 = .ok (.aload_n 0, 1) := by decide +kernel
theorem d_Time_partsAt_16 : decode b_Time_partsAt 16 = .ok (.getfield 15, 3) := by decide +kernel
theorem d_Time_partsAt_19 : decode b_Time_partsAt 19 = .ok (.iload_n 2, 1) := by decide +kernel
theorem d_Time_partsAt_20 : decode b_Time_partsAt 20 = .ok (.iaload, 1) := by decide +kernel
theorem d_Time_partsAt_21 : decode b_Time_partsAt 21 = .ok (.ireturn, 1) := by decide +kernel
theorem d_Time_write_0 : decode b_Time_write 0 = .ok (.aload_n 0, 1) := by decide +kernel
theorem d_Time_write_1 : decode b_Time_write 1 = .ok (.iload_n 1, 1) := by decide +kernel
theorem d_Time_write_2 : decode b_Time_write 2 = .ok (.invokevirtual 22, 3) := by decide +kernel
theorem d_Time_write_5 : decode b_Time_write 5 = .ok (.istore_n 3, 1) := by decide +kernel
theorem d_Time_write_6 : decode b_Time_write 6 = .ok (.iload_n 3, 1) := by decide +kernel
theorem d_Time_write_7 : decode b_Time_write 7 = .ok (.iconst (-1), 1) := by decide +kernel
theorem d_Time_write_8 : decode b_Time_write 8 = .ok (.if_icmp .eq 17, 3) := by decide +kernel
theorem d_Time_write_11 : decode b_Time_write 11 = .ok (.iload_n 2, 1) := by decide +kernel
theorem d_Time_write_12 : decode b_Time_write 12 = .ok (.ifCond .le 13, 3) := by decide +kernel
theorem d_Time_write_15 : decode b_Time_write 15 = .ok (.aload_n 0, 1) := by decide +kernel
theorem d_Time_write_16 : decode b_Time_write 16 = .ok (.getfield 15, 3) := by decide +kernel
theorem d_Time_write_19 : decode b_Time_write 19 = .ok (.iload_n 3, 1) := by decide +kernel
theorem d_Time_write_20 : decode b_Time_write 20 = .ok (.iload_n 2, 1) := by decide +kernel
theorem d_Time_write_21 : decode b_Time_write 21 = .ok (.iastore, 1) := by decide +kernel
theorem d_Time_write_22 : decode b_Time_write 22 = .ok (.goto 57, 3) := by decide +kernel
theorem d_Time_write_25 : decode b_Time_write 25 = .ok (.iload_n 3, 1) := by decide +kernel
theorem d_Time_write_26 : decode b_Time_write 26 = .ok (.iconst (-1), 1) := by decide +kernel
theorem d_Time_write_27 : decode b_Time_write 27 = .ok (.if_icmp .eq 11, 3) := by decide +kernel
theorem d_Time_write_30 : decode b_Time_write 30 = .ok (.aload_n 0, 1) := by decide +kernel
theorem d_Time_write_31 : decode b_Time_write 31 = .ok (.iload_n 3, 1) := by decide +kernel
theorem d_Time_write_32 : decode b_Time_write 32 = .ok (.invokevirtual 26, 3) := by decide +kernel
theorem d_Time_write_35 : decode b_Time_write 35 = .ok (.goto 44, 3) := by decide +kernel
theorem d_Time_write_38 : decode b_Time_write 38 = .ok (.iload_n 2, 1) := by decide +kernel
theorem d_Time_write_39 : decode b_Time_write 39 = .ok (.ifCond .le 40, 3) := by decide +kernel
theorem d_Time_write_42 : decode b_Time_write 42 = .ok (.aload_n 0, 1) := by decide +kernel
theorem d_Time_write_43 : decode b_Time_write 43 = .ok (.invokevirtual 30, 3) := by decide +kernel
theorem d_Time_write_46 : decode b_Time_write 46 = .ok (.ifCond .ne 33, 3) := by decide +kernel
theorem d_Time_write_49 : decode b_Time_write 49 = .ok (.aload_n 0, 1) := by decide +kernel
theorem d_Time_write_50 : decode b_Time_write 50 = .ok (.getfield 9, 3) := by decide +kernel
theorem d_Time_write_53 : decode b_Time_write 53 = .ok (.aload_n 0, 1) := by decide +kernel
theorem d_Time_write_54 : decode b_Time_write 54 = .ok (.getfield 18, 3) := by decide +kernel
theorem d_Time_write_57 : decode b_Time_write 57 = .ok (.iload_n 1, 1) := by decide +kernel
theorem d_Time_write_58 : decode b_Time_write 58 = .ok (.iastore, 1) := by decide +kernel
theorem d_Time_write_59 : decode b_Time_write 59 = .ok (.aload_n 0, 1) := by decide +kernel
theorem d_Time_write_60 : decode b_Time_write 60 = .ok (.getfield 15, 3) := by decide +kernel
theorem d_Time_write_63 : decode b_Time_write 63 = .ok (.aload_n 0, 1) := by decide +kernel
theorem d_Time_write_64 : decode b_Time_write 64 = .ok (.getfield 18, 3) := by decide +kernel
theorem d_Time_write_67 : decode b_Time_write 67 = .ok (.iload_n 2, 1) := by decide +kernel
theorem d_Time_write_68 : decode b_Time_write 68 = .ok (.iastore, 1) := by decide +kernel
theorem d_Time_write_69 : decode b_Time_write 69 = .ok (.aload_n 0, 1) := by decide +kernel
theorem d_Time_write_70 : decode b_Time_write 70 = .ok (.dup, 1) := by decide +kernel
theorem d_Time_write_71 : decode b_Time_write 71 = .ok (.getfield 18, 3) := by decide +kernel
theorem d_Time_write_74 : decode b_Time_write 74 = .ok (.iconst 1, 1) := by decide +kernel
theorem d_Time_write_75 : decode b_Time_write 75 = .ok (.iadd, 1) := by decide +kernel
theorem d_Time_write_76 : decode b_Time_write 76 = .ok (.putfield 18, 3) := by decide +kernel
theorem d_Time_write_79 : decode b_Time_write 79 = .ok (.return_, 1) := by decide +kernel
def fn_Time_isFull (N : Nat) (tcnt : Int32) (mf : Nat → Int32) (pf : Nat → Int32) : Option (Int32) :=
  if tcnt < 40 then some 0 else some 1
def w_Time_isFull : List Cond := .code y_Time_isFull b_Time_isFull 1 (some .boolean) :: gx_W
set_option maxHeartbeats 4000000 in
set_option maxRecDepth 100000 in
theorem c_Time_isFull (N : Nat) (l : Launch) (dC : Nat → ClassId) (dI : Nat → Nat → Nat) (h0 : Nat) (b1 : Nat) (b2 : Nat) (k3 : ClassId) (k4 : ClassId) (sz : Nat) (tcnt : Int32) (mf : Nat → Int32) (pf : Nat → Int32) (res : Int32) (h : fn_Time_isFull N tcnt mf pf = some res) : Met l y_Time_isFull w_Time_isFull ({ frames := 0, cells := 0, slots := 0, locals := 0 } : Room) (va_Pc [.ref h0] (fun U => U.heap.size = sz ∧ va_P (dC, dI) classes [(h0, .inr (5, [.ref b1, .ref b2, .int tcnt])), (b1, .inl (k3, 40, .inl mf)), (b2, .inl (k4, 40, .inl pf))] U.heap ∧ va_K (dC, dI) classes [(k3, .int), (k4, .int)] U ∧ va_D (fun _ => True) [(h0, .inr (5, [.ref b1, .ref b2, .int tcnt])), (b1, .inl (k3, 40, .inl mf)), (b2, .inl (k4, 40, .inl pf))] ∧ gx_E U)) (va_Qi (fun (r : Int32) (_ : Unit) => r = res) (fun _ t => va_P (dC, dI) classes [(h0, .inr (5, [.ref b1, .ref b2, .int tcnt])), (b1, .inl (k3, 40, .inl mf)), (b2, .inl (k4, 40, .inl pf))] t.heap ∧ va_K (dC, dI) classes [(k3, .int), (k4, .int)] t ∧ va_D (va_A [(h0, .inr (5, [.ref b1, .ref b2, .int tcnt])), (b1, .inl (k3, 40, .inl mf)), (b2, .inl (k4, 40, .inl pf))] sz) [(h0, .inr (5, [.ref b1, .ref b2, .int tcnt])), (b1, .inl (k3, 40, .inl mf)), (b2, .inl (k4, 40, .inl pf))]) (va_A [(h0, .inr (5, [.ref b1, .ref b2, .int tcnt])), (b1, .inl (k3, 40, .inl mf)), (b2, .inl (k4, 40, .inl pf))] sz)) 0 0 (va_A [(h0, .inr (5, [.ref b1, .ref b2, .int tcnt])), (b1, .inl (k3, 40, .inl mf)), (b2, .inl (k4, 40, .inl pf))] sz) := by
  refine Met.ofW (cc := b_Time_isFull) (maxL := 1) (ret := (some .boolean)) (by decide) rfl ?_
  intro p e s m args below meth c s₁ B hml hv
  obtain ⟨rfl, hsz, hP, hK, hD0, hE⟩ := hv
  have hx := B.exec
  have hb := B.bytes
  have hr := B.returns
  have hts := atoms_spec (ws := w_Time_isFull) B.pre
  have hown : s.vm.findClass R_Time = some m.cls := findClass_of_methodNamed B.named
  have hlocks := B.notSynchronized
  subst hsz
  have hD := hD0.self (sz := s.heap.size)
  generalize hAe : va_A [(h0, .inr (5, [.ref b1, .ref b2, .int tcnt])), (b1, .inl (k3, 40, .inl mf)), (b2, .inl (k4, 40, .inl pf))] s.heap.size = A at hD ⊢
  have hA : ∀ q : Nat, s.heap.size ≤ q → A q := fun q h => by rw [← hAe]; exact Or.inr h
  clear hAe hD0
  have key : ∀ (H : Heap) (locs : List Loc), va_P (dC, dI) classes [(h0, .inr (5, [.ref b1, .ref b2, .int tcnt])), (b1, .inl (k3, 40, .inl mf)), (b2, .inl (k4, 40, .inl pf))] H → va_D A [(h0, .inr (5, [.ref b1, .ref b2, .int tcnt])), (b1, .inl (k3, 40, .inl mf)), (b2, .inl (k4, 40, .inl pf))] → va_S A s.heap H locs → ∀ (ls : Array Slot), lv_has ls 1 [(0, .ref h0)] → W p l e ({ frames := 0, cells := 0, slots := 0, locals := 0 } : Room) s m ([.ref h0] : List Value).toArray below meth c H locs 0 0 (MQ below (va_Qi (fun (r : Int32) (_ : Unit) => r = res) (fun _ t => va_P (dC, dI) classes [(h0, .inr (5, [.ref b1, .ref b2, .int tcnt])), (b1, .inl (k3, 40, .inl mf)), (b2, .inl (k4, 40, .inl pf))] t.heap ∧ va_K (dC, dI) classes [(k3, .int), (k4, .int)] t ∧ va_D A [(h0, .inr (5, [.ref b1, .ref b2, .int tcnt])), (b1, .inl (k3, 40, .inl mf)), (b2, .inl (k4, 40, .inl pf))]) A) ([.ref h0] : List Value).toArray s 0 0 A) (F0 m 0 ls []) := by
    intro H locs hP hD hS ls hl
    unfold fn_Time_isFull at h
    refine lv_aload_n hx hb d_Time_isFull_0 rfl (lv_at hl 0 rfl) ?_
    refine va_get (D := (dC, dI)) (ci := 5) (v := .int tcnt) (C := R_Time) (T := F_Time) (N := 3) hx hb hts (gx_in i_Time) hown hK hP 0 rfl rfl 2 (by decide) (hts _ (gx_w mw_258)) (fun _ h9 => h9) rfl d_Time_isFull_1 ?_
    refine lv_aload_n hx hb d_Time_isFull_4 rfl (lv_at hl 0 rfl) ?_
    refine va_get (D := (dC, dI)) (ci := 5) (v := .ref b1) (C := R_Time) (T := F_Time) (N := 3) hx hb hts (gx_in i_Time) hown hK hP 0 rfl rfl 0 (by decide) (hts _ (gx_w mw_256)) (fun _ h9 => h9) rfl d_Time_isFull_5 ?_
    refine va_alen hx hb hK hP 1 0 rfl rfl (v := 40) rfl d_Time_isFull_8 ?_
    refine lv_icmp_lt (tgt := 16) hx hb d_Time_isFull_9 (by decide) (fun c1 => ?_) (fun c1 => ?_)
    · replace h := gx_pos c1 h
      refine lv_iconst (v := 0) hx hb d_Time_isFull_16 (by decide) ?_
      rw [← Option.some.inj h]
      have hP9 := hP
      have hD9 := hD
      exact W.zret (v := 0) hx hb hr (by decide +kernel) (fun t ht hW => ⟨⟨0, (), rfl, rfl, ⟨by rw [ht]; exact hP9, va_K.moved hW.alike hK, hD9⟩⟩, hS.F ht⟩) hS.2.2 d_Time_isFull_17
    · replace h := gx_neg c1 h
      refine lv_iconst (v := 1) hx hb d_Time_isFull_12 (by decide) ?_
      refine lv_goto (tgt := 17) hx hb d_Time_isFull_13 (by decide) ?_
      rw [← Option.some.inj h]
      have hP9 := hP
      have hD9 := hD
      exact W.zret (v := 1) hx hb hr (by decide +kernel) (fun t ht hW => ⟨⟨1, (), rfl, rfl, ⟨by rw [ht]; exact hP9, va_K.moved hW.alike hK, hD9⟩⟩, hS.F ht⟩) hS.2.2 d_Time_isFull_17
  have hl := lv_entry ([.ref h0]) (n := 1) (Nat.le_of_ble_eq_true rfl)
  rw [lg_entry_eq]
  generalize (lg_sl ([.ref h0]) ++ List.replicate (1 - (lg_sl ([.ref h0])).length) Slot.unset).toArray = ls at hl ⊢
  exact key _ _ hP hD va_S.rf ls hl
def bk_Time_placeOf_2 (N : Nat) (tcnt : Int32) (mf : Nat → Int32) (pf : Nat → Int32) (K : Int32 × Int32 → Option (Int32)) (x1 : Int32) (x2 : Int32) : Option (Int32) :=
  if tcnt ≤ x2 then some (-1) else if gx_inb x2 40 = true then if (mf x2.toNatClampNeg) = x1 then some x2 else K (x1, x2 + 1) else none
def st_Time_placeOf (N : Nat) (tcnt : Int32) (mf : Nat → Int32) (pf : Nat → Int32) (K : Int32 × Int32 → Option (Int32)) (z : Int32 × Int32) : Option (Int32) := match z with
  | (x1, x2) => bk_Time_placeOf_2 N tcnt mf pf K x1 x2
def fn_Time_placeOf (N : Nat) (p1 : Int32) (tcnt : Int32) (mf : Nat → Int32) (pf : Nat → Int32) : Option (Int32) :=
  gx_fx (st_Time_placeOf N tcnt mf pf) N (p1, 0)
def w_Time_placeOf : List Cond := .code y_Time_placeOf b_Time_placeOf 3 (some .int) :: gx_W
set_option maxHeartbeats 4000000 in
set_option maxRecDepth 100000 in
theorem c_Time_placeOf (N : Nat) (l : Launch) (dC : Nat → ClassId) (dI : Nat → Nat → Nat) (h0 : Nat) (b1 : Nat) (b2 : Nat) (k3 : ClassId) (k4 : ClassId) (sz : Nat) (tcnt : Int32) (mf : Nat → Int32) (pf : Nat → Int32) (p1 : Int32) (res : Int32) (h : fn_Time_placeOf N p1 tcnt mf pf = some res) : Met l y_Time_placeOf w_Time_placeOf ({ frames := 0, cells := 0, slots := 0, locals := 0 } : Room) (va_Pc [.ref h0, .int p1] (fun U => U.heap.size = sz ∧ va_P (dC, dI) classes [(h0, .inr (5, [.ref b1, .ref b2, .int tcnt])), (b1, .inl (k3, 40, .inl mf)), (b2, .inl (k4, 40, .inl pf))] U.heap ∧ va_K (dC, dI) classes [(k3, .int), (k4, .int)] U ∧ va_D (fun _ => True) [(h0, .inr (5, [.ref b1, .ref b2, .int tcnt])), (b1, .inl (k3, 40, .inl mf)), (b2, .inl (k4, 40, .inl pf))] ∧ gx_E U)) (va_Qi (fun (r : Int32) (_ : Unit) => r = res) (fun _ t => va_P (dC, dI) classes [(h0, .inr (5, [.ref b1, .ref b2, .int tcnt])), (b1, .inl (k3, 40, .inl mf)), (b2, .inl (k4, 40, .inl pf))] t.heap ∧ va_K (dC, dI) classes [(k3, .int), (k4, .int)] t ∧ va_D (va_A [(h0, .inr (5, [.ref b1, .ref b2, .int tcnt])), (b1, .inl (k3, 40, .inl mf)), (b2, .inl (k4, 40, .inl pf))] sz) [(h0, .inr (5, [.ref b1, .ref b2, .int tcnt])), (b1, .inl (k3, 40, .inl mf)), (b2, .inl (k4, 40, .inl pf))]) (va_A [(h0, .inr (5, [.ref b1, .ref b2, .int tcnt])), (b1, .inl (k3, 40, .inl mf)), (b2, .inl (k4, 40, .inl pf))] sz)) 0 0 (va_A [(h0, .inr (5, [.ref b1, .ref b2, .int tcnt])), (b1, .inl (k3, 40, .inl mf)), (b2, .inl (k4, 40, .inl pf))] sz) := by
  refine Met.ofW (cc := b_Time_placeOf) (maxL := 3) (ret := (some .int)) (by decide) rfl ?_
  intro p e s m args below meth c s₁ B hml hv
  obtain ⟨rfl, hsz, hP, hK, hD0, hE⟩ := hv
  have hx := B.exec
  have hb := B.bytes
  have hr := B.returns
  have hts := atoms_spec (ws := w_Time_placeOf) B.pre
  have hown : s.vm.findClass R_Time = some m.cls := findClass_of_methodNamed B.named
  have hlocks := B.notSynchronized
  subst hsz
  have hD := hD0.self (sz := s.heap.size)
  generalize hAe : va_A [(h0, .inr (5, [.ref b1, .ref b2, .int tcnt])), (b1, .inl (k3, 40, .inl mf)), (b2, .inl (k4, 40, .inl pf))] s.heap.size = A at hD ⊢
  have hA : ∀ q : Nat, s.heap.size ≤ q → A q := fun q h => by rw [← hAe]; exact Or.inr h
  clear hAe hD0
  have loop : ∀ n : Nat, (∀ (x1 : Int32) (x2 : Int32), gx_fx (st_Time_placeOf N tcnt mf pf) n (x1, x2) = some res → ∀ (H : Heap) (locs : List Loc), va_P (dC, dI) classes [(h0, .inr (5, [.ref b1, .ref b2, .int tcnt])), (b1, .inl (k3, 40, .inl mf)), (b2, .inl (k4, 40, .inl pf))] H → va_D A [(h0, .inr (5, [.ref b1, .ref b2, .int tcnt])), (b1, .inl (k3, 40, .inl mf)), (b2, .inl (k4, 40, .inl pf))] → va_S A s.heap H locs → ∀ (ls : Array Slot), lv_has ls 3 [(0, .ref h0), (1, .int x1), (2, .int x2)] → W p l e ({ frames := 0, cells := 0, slots := 0, locals := 0 } : Room) s m ([.ref h0, .int p1] : List Value).toArray below meth c H locs 0 0 (MQ below (va_Qi (fun (r : Int32) (_ : Unit) => r = res) (fun _ t => va_P (dC, dI) classes [(h0, .inr (5, [.ref b1, .ref b2, .int tcnt])), (b1, .inl (k3, 40, .inl mf)), (b2, .inl (k4, 40, .inl pf))] t.heap ∧ va_K (dC, dI) classes [(k3, .int), (k4, .int)] t ∧ va_D A [(h0, .inr (5, [.ref b1, .ref b2, .int tcnt])), (b1, .inl (k3, 40, .inl mf)), (b2, .inl (k4, 40, .inl pf))]) A) ([.ref h0, .int p1] : List Value).toArray s 0 0 A) (F0 m 2 ls [])) := by
    intro n
    induction n with
    | zero => exact fun _ _ h => gx_fx0 h
    | succ n ih =>
        intro x1 x2 h H locs hP hD hS ls hl
        replace h : bk_Time_placeOf_2 N tcnt mf pf (gx_fx (st_Time_placeOf N tcnt mf pf) n) x1 x2 = some res := h
        unfold bk_Time_placeOf_2 at h
        refine lv_iload_n hx hb d_Time_placeOf_2 rfl (lv_at hl 2 rfl) ?_
        refine lv_aload_n hx hb d_Time_placeOf_3 rfl (lv_at hl 0 rfl) ?_
        refine va_get (D := (dC, dI)) (ci := 5) (v := .int tcnt) (C := R_Time) (T := F_Time) (N := 3) hx hb hts (gx_in i_Time) hown hK hP 0 rfl rfl 2 (by decide) (hts _ (gx_w mw_258)) (fun _ h9 => h9) rfl d_Time_placeOf_4 ?_
        refine lv_icmp_ge (tgt := 28) hx hb d_Time_placeOf_7 (by decide) (fun c1 => ?_) (fun c1 => ?_)
        · replace h := gx_pos c1 h
          refine lv_iconst (v := (-1)) hx hb d_Time_placeOf_28 (by decide) ?_
          rw [← Option.some.inj h]
          have hP9 := hP
          have hD9 := hD
          exact W.iret (v := (-1)) hx hb hr (fun t ht hW => ⟨⟨(-1), (), rfl, rfl, ⟨by rw [ht]; exact hP9, va_K.moved hW.alike hK, hD9⟩⟩, hS.F ht⟩) hS.2.2 d_Time_placeOf_29
        · replace h := gx_neg c1 h
          refine lv_aload_n hx hb d_Time_placeOf_10 rfl (lv_at hl 0 rfl) ?_
          refine va_get (D := (dC, dI)) (ci := 5) (v := .ref b1) (C := R_Time) (T := F_Time) (N := 3) hx hb hts (gx_in i_Time) hown hK hP 0 rfl rfl 0 (by decide) (hts _ (gx_w mw_256)) (fun _ h9 => h9) rfl d_Time_placeOf_11 ?_
          refine lv_iload_n hx hb d_Time_placeOf_14 rfl (lv_at hl 2 rfl) ?_
          obtain ⟨hi2, h⟩ := gx_inb_of h
          refine va_iald hx hb hK hP 1 0 rfl rfl hi2 d_Time_placeOf_15 ?_
          refine lv_iload_n hx hb d_Time_placeOf_16 rfl (lv_at hl 1 rfl) ?_
          refine lv_icmp_ne (tgt := 22) hx hb d_Time_placeOf_17 (by decide) (fun c3 => ?_) (fun c3 => ?_)
          · replace h := gx_neg c3 h
            refine lv_iinc (v := x2 + 1) (lv' := [(2, .int (x2 + 1)), (0, .ref h0), (1, .int x1)]) hx hb d_Time_placeOf_22 hl (k := 2) rfl rfl (by decide) rfl (fun ls hl => ?_)
            refine lv_goto (tgt := 2) hx hb d_Time_placeOf_25 (by decide) ?_
            exact ih x1 (x2 + 1) h _ _ hP hD hS ls (lv_sub hl [1, 2, 0] rfl)
          · replace h := gx_pos c3 h
            refine lv_iload_n hx hb d_Time_placeOf_20 rfl (lv_at hl 2 rfl) ?_
            rw [← Option.some.inj h]
            have hP9 := hP
            have hD9 := hD
            exact W.iret (v := x2) hx hb hr (fun t ht hW => ⟨⟨x2, (), rfl, rfl, ⟨by rw [ht]; exact hP9, va_K.moved hW.alike hK, hD9⟩⟩, hS.F ht⟩) hS.2.2 d_Time_placeOf_21
  have key : ∀ (H : Heap) (locs : List Loc), va_P (dC, dI) classes [(h0, .inr (5, [.ref b1, .ref b2, .int tcnt])), (b1, .inl (k3, 40, .inl mf)), (b2, .inl (k4, 40, .inl pf))] H → va_D A [(h0, .inr (5, [.ref b1, .ref b2, .int tcnt])), (b1, .inl (k3, 40, .inl mf)), (b2, .inl (k4, 40, .inl pf))] → va_S A s.heap H locs → ∀ (ls : Array Slot), lv_has ls 3 [(0, .ref h0), (1, .int p1)] → W p l e ({ frames := 0, cells := 0, slots := 0, locals := 0 } : Room) s m ([.ref h0, .int p1] : List Value).toArray below meth c H locs 0 0 (MQ below (va_Qi (fun (r : Int32) (_ : Unit) => r = res) (fun _ t => va_P (dC, dI) classes [(h0, .inr (5, [.ref b1, .ref b2, .int tcnt])), (b1, .inl (k3, 40, .inl mf)), (b2, .inl (k4, 40, .inl pf))] t.heap ∧ va_K (dC, dI) classes [(k3, .int), (k4, .int)] t ∧ va_D A [(h0, .inr (5, [.ref b1, .ref b2, .int tcnt])), (b1, .inl (k3, 40, .inl mf)), (b2, .inl (k4, 40, .inl pf))]) A) ([.ref h0, .int p1] : List Value).toArray s 0 0 A) (F0 m 0 ls []) := by
    intro H locs hP hD hS ls hl
    unfold fn_Time_placeOf at h
    refine lv_iconst (v := 0) hx hb d_Time_placeOf_0 (by decide) ?_
    refine lv_istore_n (lv' := [(2, .int 0), (0, .ref h0), (1, .int p1)]) hx hb d_Time_placeOf_1 rfl hl (by decide) rfl (fun ls hl => ?_)
    exact (loop N) p1 0 h _ _ hP hD hS ls (lv_sub hl [1, 2, 0] rfl)
  have hl := lv_entry ([.ref h0, .int p1]) (n := 3) (Nat.le_of_ble_eq_true rfl)
  rw [lg_entry_eq]
  generalize (lg_sl ([.ref h0, .int p1]) ++ List.replicate (3 - (lg_sl ([.ref h0, .int p1])).length) Slot.unset).toArray = ls at hl ⊢
  exact key _ _ hP hD va_S.rf ls hl
def fn_Time_removePlace (N : Nat) (p1 : Int32) (tcnt : Int32) (mf : Nat → Int32) (pf : Nat → Int32) : Option (Int32 × (Nat → Int32) × (Nat → Int32)) :=
  if gx_inb (tcnt - 1) 40 = true then if gx_inb p1 40 = true then if gx_inb (tcnt - 1) 40 = true then if gx_inb p1 40 = true then some (tcnt - 1, upd mf p1.toNatClampNeg (mf (tcnt - 1).toNatClampNeg), upd pf p1.toNatClampNeg (pf (tcnt - 1).toNatClampNeg)) else none else none else none else none
def w_Time_removePlace : List Cond := .code y_Time_removePlace b_Time_removePlace 2 none :: gx_W
set_option maxHeartbeats 4000000 in
set_option maxRecDepth 100000 in
theorem c_Time_removePlace (N : Nat) (l : Launch) (dC : Nat → ClassId) (dI : Nat → Nat → Nat) (h0 : Nat) (b1 : Nat) (b2 : Nat) (k3 : ClassId) (k4 : ClassId) (sz : Nat) (tcnt : Int32) (mf : Nat → Int32) (pf : Nat → Int32) (p1 : Int32) (res : Int32 × (Nat → Int32) × (Nat → Int32)) (h : fn_Time_removePlace N p1 tcnt mf pf = some res) : Met l y_Time_removePlace w_Time_removePlace ({ frames := 0, cells := 0, slots := 0, locals := 0 } : Room) (va_Pc [.ref h0, .int p1] (fun U => U.heap.size = sz ∧ va_P (dC, dI) classes [(h0, .inr (5, [.ref b1, .ref b2, .int tcnt])), (b1, .inl (k3, 40, .inl mf)), (b2, .inl (k4, 40, .inl pf))] U.heap ∧ va_K (dC, dI) classes [(k3, .int), (k4, .int)] U ∧ va_D (fun _ => True) [(h0, .inr (5, [.ref b1, .ref b2, .int tcnt])), (b1, .inl (k3, 40, .inl mf)), (b2, .inl (k4, 40, .inl pf))] ∧ gx_E U)) (va_Qv (fun _ : Unit => True) (fun _ t => va_P (dC, dI) classes [(h0, .inr (5, [.ref b1, .ref b2, .int res.1])), (b1, .inl (k3, 40, .inl res.2.1)), (b2, .inl (k4, 40, .inl res.2.2))] t.heap ∧ va_K (dC, dI) classes [(k3, .int), (k4, .int)] t ∧ va_D (va_A [(h0, .inr (5, [.ref b1, .ref b2, .int tcnt])), (b1, .inl (k3, 40, .inl mf)), (b2, .inl (k4, 40, .inl pf))] sz) [(h0, .inr (5, [.ref b1, .ref b2, .int res.1])), (b1, .inl (k3, 40, .inl res.2.1)), (b2, .inl (k4, 40, .inl res.2.2))]) (va_A [(h0, .inr (5, [.ref b1, .ref b2, .int tcnt])), (b1, .inl (k3, 40, .inl mf)), (b2, .inl (k4, 40, .inl pf))] sz)) 0 0 (va_A [(h0, .inr (5, [.ref b1, .ref b2, .int tcnt])), (b1, .inl (k3, 40, .inl mf)), (b2, .inl (k4, 40, .inl pf))] sz) := by
  refine Met.ofW (cc := b_Time_removePlace) (maxL := 2) (ret := none) (by decide) rfl ?_
  intro p e s m args below meth c s₁ B hml hv
  obtain ⟨rfl, hsz, hP, hK, hD0, hE⟩ := hv
  have hx := B.exec
  have hb := B.bytes
  have hr := B.returns
  have hts := atoms_spec (ws := w_Time_removePlace) B.pre
  have hown : s.vm.findClass R_Time = some m.cls := findClass_of_methodNamed B.named
  have hlocks := B.notSynchronized
  subst hsz
  have hD := hD0.self (sz := s.heap.size)
  generalize hAe : va_A [(h0, .inr (5, [.ref b1, .ref b2, .int tcnt])), (b1, .inl (k3, 40, .inl mf)), (b2, .inl (k4, 40, .inl pf))] s.heap.size = A at hD ⊢
  have hA : ∀ q : Nat, s.heap.size ≤ q → A q := fun q h => by rw [← hAe]; exact Or.inr h
  clear hAe hD0
  have key : ∀ (H : Heap) (locs : List Loc), va_P (dC, dI) classes [(h0, .inr (5, [.ref b1, .ref b2, .int tcnt])), (b1, .inl (k3, 40, .inl mf)), (b2, .inl (k4, 40, .inl pf))] H → va_D A [(h0, .inr (5, [.ref b1, .ref b2, .int tcnt])), (b1, .inl (k3, 40, .inl mf)), (b2, .inl (k4, 40, .inl pf))] → va_S A s.heap H locs → ∀ (ls : Array Slot), lv_has ls 2 [(0, .ref h0), (1, .int p1)] → W p l e ({ frames := 0, cells := 0, slots := 0, locals := 0 } : Room) s m ([.ref h0, .int p1] : List Value).toArray below meth c H locs 0 0 (MQ below (va_Qv (fun _ : Unit => True) (fun _ t => va_P (dC, dI) classes [(h0, .inr (5, [.ref b1, .ref b2, .int res.1])), (b1, .inl (k3, 40, .inl res.2.1)), (b2, .inl (k4, 40, .inl res.2.2))] t.heap ∧ va_K (dC, dI) classes [(k3, .int), (k4, .int)] t ∧ va_D A [(h0, .inr (5, [.ref b1, .ref b2, .int res.1])), (b1, .inl (k3, 40, .inl res.2.1)), (b2, .inl (k4, 40, .inl res.2.2))]) A) ([.ref h0, .int p1] : List Value).toArray s 0 0 A) (F0 m 0 ls []) := by
    intro H locs hP hD hS ls hl
    unfold fn_Time_removePlace at h
    refine lv_aload_n hx hb d_Time_removePlace_0 rfl (lv_at hl 0 rfl) ?_
    refine lv_dup hx hb d_Time_removePlace_1 rfl ?_
    refine va_get (D := (dC, dI)) (ci := 5) (v := .int tcnt) (C := R_Time) (T := F_Time) (N := 3) hx hb hts (gx_in i_Time) hown hK hP 0 rfl rfl 2 (by decide) (hts _ (gx_w mw_258)) (fun _ h9 => h9) rfl d_Time_removePlace_2 ?_
    refine lv_iconst (v := 1) hx hb d_Time_removePlace_5 (by decide) ?_
    refine lv_isub hx hb d_Time_removePlace_6 ?_
    refine va_put (D := (dC, dI)) (ci := 5) (v := .int (tcnt - 1)) (ty := .int) (C := R_Time) (T := F_Time) (N := 3) hx hb hts (gx_in i_Time) t_Time t_Time_ok n_Time hown hK hP hD hS 0 rfl rfl 2 (by decide) (hts _ (gx_w mw_258)) (fun _ h9 => h9) rfl (by decide +kernel) rfl rfl (Nat.le_of_ble_eq_true rfl) d_Time_removePlace_7 (fun H locs hP hD hS => ?_)
    have hP : va_P (dC, dI) classes [(h0, .inr (5, [.ref b1, .ref b2, .int (tcnt - 1)])), (b1, .inl (k3, 40, .inl mf)), (b2, .inl (k4, 40, .inl pf))] H := hP
    have hD : va_D A [(h0, .inr (5, [.ref b1, .ref b2, .int (tcnt - 1)])), (b1, .inl (k3, 40, .inl mf)), (b2, .inl (k4, 40, .inl pf))] := hD
    refine lv_aload_n hx hb d_Time_removePlace_10 rfl (lv_at hl 0 rfl) ?_
    refine va_get (D := (dC, dI)) (ci := 5) (v := .ref b1) (C := R_Time) (T := F_Time) (N := 3) hx hb hts (gx_in i_Time) hown hK hP 0 rfl rfl 0 (by decide) (hts _ (gx_w mw_256)) (fun _ h9 => h9) rfl d_Time_removePlace_11 ?_
    refine lv_iload_n hx hb d_Time_removePlace_14 rfl (lv_at hl 1 rfl) ?_
    refine lv_aload_n hx hb d_Time_removePlace_15 rfl (lv_at hl 0 rfl) ?_
    refine va_get (D := (dC, dI)) (ci := 5) (v := .ref b1) (C := R_Time) (T := F_Time) (N := 3) hx hb hts (gx_in i_Time) hown hK hP 0 rfl rfl 0 (by decide) (hts _ (gx_w mw_256)) (fun _ h9 => h9) rfl d_Time_removePlace_16 ?_
    refine lv_aload_n hx hb d_Time_removePlace_19 rfl (lv_at hl 0 rfl) ?_
    refine va_get (D := (dC, dI)) (ci := 5) (v := .int (tcnt - 1)) (C := R_Time) (T := F_Time) (N := 3) hx hb hts (gx_in i_Time) hown hK hP 0 rfl rfl 2 (by decide) (hts _ (gx_w mw_258)) (fun _ h9 => h9) rfl d_Time_removePlace_20 ?_
    obtain ⟨hi1, h⟩ := gx_inb_of h
    refine va_iald hx hb hK hP 1 0 rfl rfl hi1 d_Time_removePlace_23 ?_
    obtain ⟨hi2, h⟩ := gx_inb_of h
    refine va_iast hx hb hK hP hD hS 1 0 rfl rfl hi2 d_Time_removePlace_24 (fun H locs hP hD hS => ?_)
    have hP : va_P (dC, dI) classes [(h0, .inr (5, [.ref b1, .ref b2, .int (tcnt - 1)])), (b1, .inl (k3, 40, .inl (upd mf p1.toNatClampNeg (mf (tcnt - 1).toNatClampNeg)))), (b2, .inl (k4, 40, .inl pf))] H := hP
    have hD : va_D A [(h0, .inr (5, [.ref b1, .ref b2, .int (tcnt - 1)])), (b1, .inl (k3, 40, .inl (upd mf p1.toNatClampNeg (mf (tcnt - 1).toNatClampNeg)))), (b2, .inl (k4, 40, .inl pf))] := hD
    refine lv_aload_n hx hb d_Time_removePlace_25 rfl (lv_at hl 0 rfl) ?_
    refine va_get (D := (dC, dI)) (ci := 5) (v := .ref b2) (C := R_Time) (T := F_Time) (N := 3) hx hb hts (gx_in i_Time) hown hK hP 0 rfl rfl 1 (by decide) (hts _ (gx_w mw_257)) (fun _ h9 => h9) rfl d_Time_removePlace_26 ?_
    refine lv_iload_n hx hb d_Time_removePlace_29 rfl (lv_at hl 1 rfl) ?_
    refine lv_aload_n hx hb d_Time_removePlace_30 rfl (lv_at hl 0 rfl) ?_
    refine va_get (D := (dC, dI)) (ci := 5) (v := .ref b2) (C := R_Time) (T := F_Time) (N := 3) hx hb hts (gx_in i_Time) hown hK hP 0 rfl rfl 1 (by decide) (hts _ (gx_w mw_257)) (fun _ h9 => h9) rfl d_Time_removePlace_31 ?_
    refine lv_aload_n hx hb d_Time_removePlace_34 rfl (lv_at hl 0 rfl) ?_
    refine va_get (D := (dC, dI)) (ci := 5) (v := .int (tcnt - 1)) (C := R_Time) (T := F_Time) (N := 3) hx hb hts (gx_in i_Time) hown hK hP 0 rfl rfl 2 (by decide) (hts _ (gx_w mw_258)) (fun _ h9 => h9) rfl d_Time_removePlace_35 ?_
    obtain ⟨hi3, h⟩ := gx_inb_of h
    refine va_iald hx hb hK hP 2 1 rfl rfl hi3 d_Time_removePlace_38 ?_
    obtain ⟨hi4, h⟩ := gx_inb_of h
    refine va_iast hx hb hK hP hD hS 2 1 rfl rfl hi4 d_Time_removePlace_39 (fun H locs hP hD hS => ?_)
    have hP : va_P (dC, dI) classes [(h0, .inr (5, [.ref b1, .ref b2, .int (tcnt - 1)])), (b1, .inl (k3, 40, .inl (upd mf p1.toNatClampNeg (mf (tcnt - 1).toNatClampNeg)))), (b2, .inl (k4, 40, .inl (upd pf p1.toNatClampNeg (pf (tcnt - 1).toNatClampNeg))))] H := hP
    have hD : va_D A [(h0, .inr (5, [.ref b1, .ref b2, .int (tcnt - 1)])), (b1, .inl (k3, 40, .inl (upd mf p1.toNatClampNeg (mf (tcnt - 1).toNatClampNeg)))), (b2, .inl (k4, 40, .inl (upd pf p1.toNatClampNeg (pf (tcnt - 1).toNatClampNeg))))] := hD
    rw [← Option.some.inj h]
    have hP9 := hP
    have hD9 := hD
    exact W.vret hx hb hr (fun t ht hW => ⟨⟨(), rfl, trivial, ⟨by rw [ht]; exact hP9, va_K.moved hW.alike hK, hD9⟩⟩, hS.F ht⟩) hS.2.2 d_Time_removePlace_40
  have hl := lv_entry ([.ref h0, .int p1]) (n := 2) (Nat.le_of_ble_eq_true rfl)
  rw [lg_entry_eq]
  generalize (lg_sl ([.ref h0, .int p1]) ++ List.replicate (2 - (lg_sl ([.ref h0, .int p1])).length) Slot.unset).toArray = ls at hl ⊢
  exact key _ _ hP hD va_S.rf ls hl
def fn_Time_partsAt (N : Nat) (p1 : Int32) (tcnt : Int32) (mf : Nat → Int32) (pf : Nat → Int32) : Option (Int32) :=
  (fn_Time_placeOf N p1 tcnt mf pf).bind (fun ur1 => if ur1 = (-1) then some 0 else if gx_inb ur1 40 = true then some (pf ur1.toNatClampNeg) else none)
def w_Time_partsAt : List Cond := .code y_Time_partsAt b_Time_partsAt 3 (some .int) :: gx_W
set_option maxHeartbeats 4000000 in
set_option maxRecDepth 100000 in
theorem c_Time_partsAt (N : Nat) (l : Launch) (dC : Nat → ClassId) (dI : Nat → Nat → Nat) (h0 : Nat) (b1 : Nat) (b2 : Nat) (k3 : ClassId) (k4 : ClassId) (sz : Nat) (tcnt : Int32) (mf : Nat → Int32) (pf : Nat → Int32) (p1 : Int32) (res : Int32) (h : fn_Time_partsAt N p1 tcnt mf pf = some res) : Met l y_Time_partsAt w_Time_partsAt ({ frames := 1, cells := 0, slots := 0, locals := 22 } : Room) (va_Pc [.ref h0, .int p1] (fun U => U.heap.size = sz ∧ va_P (dC, dI) classes [(h0, .inr (5, [.ref b1, .ref b2, .int tcnt])), (b1, .inl (k3, 40, .inl mf)), (b2, .inl (k4, 40, .inl pf))] U.heap ∧ va_K (dC, dI) classes [(k3, .int), (k4, .int)] U ∧ va_D (fun _ => True) [(h0, .inr (5, [.ref b1, .ref b2, .int tcnt])), (b1, .inl (k3, 40, .inl mf)), (b2, .inl (k4, 40, .inl pf))] ∧ gx_E U)) (va_Qi (fun (r : Int32) (_ : Unit) => r = res) (fun _ t => va_P (dC, dI) classes [(h0, .inr (5, [.ref b1, .ref b2, .int tcnt])), (b1, .inl (k3, 40, .inl mf)), (b2, .inl (k4, 40, .inl pf))] t.heap ∧ va_K (dC, dI) classes [(k3, .int), (k4, .int)] t ∧ va_D (va_A [(h0, .inr (5, [.ref b1, .ref b2, .int tcnt])), (b1, .inl (k3, 40, .inl mf)), (b2, .inl (k4, 40, .inl pf))] sz) [(h0, .inr (5, [.ref b1, .ref b2, .int tcnt])), (b1, .inl (k3, 40, .inl mf)), (b2, .inl (k4, 40, .inl pf))]) (va_A [(h0, .inr (5, [.ref b1, .ref b2, .int tcnt])), (b1, .inl (k3, 40, .inl mf)), (b2, .inl (k4, 40, .inl pf))] sz)) 0 0 (va_A [(h0, .inr (5, [.ref b1, .ref b2, .int tcnt])), (b1, .inl (k3, 40, .inl mf)), (b2, .inl (k4, 40, .inl pf))] sz) := by
  refine Met.ofW (cc := b_Time_partsAt) (maxL := 3) (ret := (some .int)) (by decide) rfl ?_
  intro p e s m args below meth c s₁ B hml hv
  obtain ⟨rfl, hsz, hP, hK, hD0, hE⟩ := hv
  have hx := B.exec
  have hb := B.bytes
  have hr := B.returns
  have hts := atoms_spec (ws := w_Time_partsAt) B.pre
  have hown : s.vm.findClass R_Time = some m.cls := findClass_of_methodNamed B.named
  have hlocks := B.notSynchronized
  subst hsz
  have hD := hD0.self (sz := s.heap.size)
  generalize hAe : va_A [(h0, .inr (5, [.ref b1, .ref b2, .int tcnt])), (b1, .inl (k3, 40, .inl mf)), (b2, .inl (k4, 40, .inl pf))] s.heap.size = A at hD ⊢
  have hA : ∀ q : Nat, s.heap.size ≤ q → A q := fun q h => by rw [← hAe]; exact Or.inr h
  clear hAe hD0
  have key : ∀ (H : Heap) (locs : List Loc), va_P (dC, dI) classes [(h0, .inr (5, [.ref b1, .ref b2, .int tcnt])), (b1, .inl (k3, 40, .inl mf)), (b2, .inl (k4, 40, .inl pf))] H → va_D A [(h0, .inr (5, [.ref b1, .ref b2, .int tcnt])), (b1, .inl (k3, 40, .inl mf)), (b2, .inl (k4, 40, .inl pf))] → va_S A s.heap H locs → ∀ (ls : Array Slot), lv_has ls 3 [(0, .ref h0), (1, .int p1)] → W p l e ({ frames := 1, cells := 0, slots := 0, locals := 22 } : Room) s m ([.ref h0, .int p1] : List Value).toArray below meth c H locs 0 0 (MQ below (va_Qi (fun (r : Int32) (_ : Unit) => r = res) (fun _ t => va_P (dC, dI) classes [(h0, .inr (5, [.ref b1, .ref b2, .int tcnt])), (b1, .inl (k3, 40, .inl mf)), (b2, .inl (k4, 40, .inl pf))] t.heap ∧ va_K (dC, dI) classes [(k3, .int), (k4, .int)] t ∧ va_D A [(h0, .inr (5, [.ref b1, .ref b2, .int tcnt])), (b1, .inl (k3, 40, .inl mf)), (b2, .inl (k4, 40, .inl pf))]) A) ([.ref h0, .int p1] : List Value).toArray s 0 0 A) (F0 m 0 ls []) := by
    intro H locs hP hD hS ls hl
    unfold fn_Time_partsAt at h
    refine lv_aload_n hx hb d_Time_partsAt_0 rfl (lv_at hl 0 rfl) ?_
    refine lv_iload_n hx hb d_Time_partsAt_1 rfl (lv_at hl 1 rfl) ?_
    have hPc := hP.sub (ws' := [(h0, .inr (5, [.ref b1, .ref b2, .int tcnt])), (b1, .inl (k3, 40, .inl mf)), (b2, .inl (k4, 40, .inl pf))]) [0, 1, 2] rfl
    have hDc := hD.sub (ws' := [(h0, .inr (5, [.ref b1, .ref b2, .int tcnt])), (b1, .inl (k3, 40, .inl mf)), (b2, .inl (k4, 40, .inl pf))]) [0, 1, 2] (by decide) rfl
    have hKc := hK.sub (tys' := [(k3, .int), (k4, .int)]) [0, 1] rfl
    have hFc := va_free (wc := [(h0, .inr (5, [.ref b1, .ref b2, .int tcnt])), (b1, .inl (k3, 40, .inl mf)), (b2, .inl (k4, 40, .inl pf))]) hD hS hA [0, 1, 2] rfl
    obtain ⟨ur1, hc1, h⟩ := gx_bind h
    refine va_calli (va_runV (As := [.int p1]) (rest := []) ⟨hx, hb, hml, hown, hts⟩ (c_Time_placeOf N l dC dI h0 b1 b2 k3 k4 H.size tcnt mf pf p1 ur1 hc1) (cwV 1 hts (gx_gV mw_430 mw_427 mw_429 mw_9 mw_35) rfl rfl rfl (by decide +kernel) ⟨Nat.le_of_ble_eq_true rfl, Nat.le_of_ble_eq_true rfl⟩) ⟨fun a U g mk q => by obtain ⟨q0, q1, qP, qK, qD, qE⟩ := q; exact ⟨q0, q1, qP, va_K.moved (u := U) (U := U.calling g mk a) (Vm.Alike.refl U.vm) qK, qD, qE.calls⟩, va_recv hKc hPc (ci := 5) (q0 := 0) rfl rfl, fun U hU hW => ⟨rfl, by rw [hU], by rw [hU]; exact hPc, va_K.moved hW.alike hKc, hDc.weaken (fun _ _ _ _ => trivial), hE.warm hW⟩⟩ rfl rfl hl.1 rfl (lv_room (Nat.le_of_ble_eq_true rfl)) d_Time_partsAt_2 ⟨(Nat.zero_le _), (Nat.zero_le _)⟩) hS (fun q _ h => hFc q h) hFc (fun r1 _ t H locs ht hvm hw hB hz1 hk1 hS => ?_)
    obtain ⟨hP1, hK1, hD1⟩ := hB
    rw [ht] at hP1
    rw [hw]
    obtain ⟨hP, hD⟩ := va_join (wr := []) (w1 := [(h0, .inr (5, [.ref b1, .ref b2, .int tcnt])), (b1, .inl (k3, 40, .inl mf)), (b2, .inl (k4, 40, .inl pf))]) hP hD [0, 1, 2] [] rfl rfl (by decide) (by decide) hk1 hFc hP1 hD1
    have hP : va_P (dC, dI) classes [(h0, .inr (5, [.ref b1, .ref b2, .int tcnt])), (b1, .inl (k3, 40, .inl mf)), (b2, .inl (k4, 40, .inl pf))] H := hP
    have hD : va_D A [(h0, .inr (5, [.ref b1, .ref b2, .int tcnt])), (b1, .inl (k3, 40, .inl mf)), (b2, .inl (k4, 40, .inl pf))] := hD
    refine lv_istore_n (lv' := [(2, .int ur1), (0, .ref h0), (1, .int p1)]) hx hb d_Time_partsAt_5 rfl hl (by decide) rfl (fun ls hl => ?_)
    refine lv_iload_n hx hb d_Time_partsAt_6 rfl (lv_at hl 0 rfl) ?_
    refine lv_iconst (v := (-1)) hx hb d_Time_partsAt_7 (by decide) ?_
    refine lv_icmp_ne (tgt := 15) hx hb d_Time_partsAt_8 (by decide) (fun c2 => ?_) (fun c2 => ?_)
    · replace h := gx_neg c2 h
      refine lv_aload_n hx hb d_Time_partsAt_15 rfl (lv_at hl 1 rfl) ?_
      refine va_get (D := (dC, dI)) (ci := 5) (v := .ref b2) (C := R_Time) (T := F_Time) (N := 3) hx hb hts (gx_in i_Time) hown hK hP 0 rfl rfl 1 (by decide) (hts _ (gx_w mw_257)) (fun _ h9 => h9) rfl d_Time_partsAt_16 ?_
      refine lv_iload_n hx hb d_Time_partsAt_19 rfl (lv_at hl 0 rfl) ?_
      obtain ⟨hi3, h⟩ := gx_inb_of h
      refine va_iald hx hb hK hP 2 1 rfl rfl hi3 d_Time_partsAt_20 ?_
      rw [← Option.some.inj h]
      have hP9 := hP
      have hD9 := hD
      exact W.iret (v := pf ur1.toNatClampNeg) hx hb hr (fun t ht hW => ⟨⟨pf ur1.toNatClampNeg, (), rfl, rfl, ⟨by rw [ht]; exact hP9, va_K.moved hW.alike hK, hD9⟩⟩, hS.F ht⟩) hS.2.2 d_Time_partsAt_21
    · replace h := gx_pos c2 h
      refine lv_iconst (v := 0) hx hb d_Time_partsAt_11 (by decide) ?_
      refine lv_goto (tgt := 21) hx hb d_Time_partsAt_12 (by decide) ?_
      rw [← Option.some.inj h]
      have hP9 := hP
      have hD9 := hD
      exact W.iret (v := 0) hx hb hr (fun t ht hW => ⟨⟨0, (), rfl, rfl, ⟨by rw [ht]; exact hP9, va_K.moved hW.alike hK, hD9⟩⟩, hS.F ht⟩) hS.2.2 d_Time_partsAt_21
  have hl := lv_entry ([.ref h0, .int p1]) (n := 3) (Nat.le_of_ble_eq_true rfl)
  rw [lg_entry_eq]
  generalize (lg_sl ([.ref h0, .int p1]) ++ List.replicate (3 - (lg_sl ([.ref h0, .int p1])).length) Slot.unset).toArray = ls at hl ⊢
  exact key _ _ hP hD va_S.rf ls hl
def fn_Time_write (N : Nat) (p1 : Int32) (p2 : Int32) (tcnt : Int32) (mf : Nat → Int32) (pf : Nat → Int32) : Option (Int32 × (Nat → Int32) × (Nat → Int32)) :=
  (fn_Time_placeOf N p1 tcnt mf pf).bind (fun ur1 => if ur1 = (-1) then if ur1 = (-1) then if p2 ≤ 0 then some (tcnt, mf, pf) else (fn_Time_isFull N tcnt mf pf).bind (fun ur5 => if ur5 = 0 then if gx_inb tcnt 40 = true then if gx_inb tcnt 40 = true then some (tcnt + 1, upd mf tcnt.toNatClampNeg p1, upd pf tcnt.toNatClampNeg p2) else none else none else some (tcnt, mf, pf)) else (fn_Time_removePlace N ur1 tcnt mf pf).bind (fun ur9 => some (ur9.1, ur9.2.1, ur9.2.2)) else if p2 ≤ 0 then if ur1 = (-1) then if p2 ≤ 0 then some (tcnt, mf, pf) else (fn_Time_isFull N tcnt mf pf).bind (fun ur13 => if ur13 = 0 then if gx_inb tcnt 40 = true then if gx_inb tcnt 40 = true then some (tcnt + 1, upd mf tcnt.toNatClampNeg p1, upd pf tcnt.toNatClampNeg p2) else none else none else some (tcnt, mf, pf)) else (fn_Time_removePlace N ur1 tcnt mf pf).bind (fun ur17 => some (ur17.1, ur17.2.1, ur17.2.2)) else if gx_inb ur1 40 = true then some (tcnt, mf, upd pf ur1.toNatClampNeg p2) else none)
def w_Time_write : List Cond := .code y_Time_write b_Time_write 4 none :: gx_W
set_option maxHeartbeats 4000000 in
set_option maxRecDepth 100000 in
theorem c_Time_write (N : Nat) (l : Launch) (dC : Nat → ClassId) (dI : Nat → Nat → Nat) (h0 : Nat) (b1 : Nat) (b2 : Nat) (k3 : ClassId) (k4 : ClassId) (sz : Nat) (tcnt : Int32) (mf : Nat → Int32) (pf : Nat → Int32) (p1 : Int32) (p2 : Int32) (res : Int32 × (Nat → Int32) × (Nat → Int32)) (h : fn_Time_write N p1 p2 tcnt mf pf = some res) : Met l y_Time_write w_Time_write ({ frames := 1, cells := 0, slots := 0, locals := 22 } : Room) (va_Pc [.ref h0, .int p1, .int p2] (fun U => U.heap.size = sz ∧ va_P (dC, dI) classes [(h0, .inr (5, [.ref b1, .ref b2, .int tcnt])), (b1, .inl (k3, 40, .inl mf)), (b2, .inl (k4, 40, .inl pf))] U.heap ∧ va_K (dC, dI) classes [(k3, .int), (k4, .int)] U ∧ va_D (fun _ => True) [(h0, .inr (5, [.ref b1, .ref b2, .int tcnt])), (b1, .inl (k3, 40, .inl mf)), (b2, .inl (k4, 40, .inl pf))] ∧ gx_E U)) (va_Qv (fun _ : Unit => True) (fun _ t => va_P (dC, dI) classes [(h0, .inr (5, [.ref b1, .ref b2, .int res.1])), (b1, .inl (k3, 40, .inl res.2.1)), (b2, .inl (k4, 40, .inl res.2.2))] t.heap ∧ va_K (dC, dI) classes [(k3, .int), (k4, .int)] t ∧ va_D (va_A [(h0, .inr (5, [.ref b1, .ref b2, .int tcnt])), (b1, .inl (k3, 40, .inl mf)), (b2, .inl (k4, 40, .inl pf))] sz) [(h0, .inr (5, [.ref b1, .ref b2, .int res.1])), (b1, .inl (k3, 40, .inl res.2.1)), (b2, .inl (k4, 40, .inl res.2.2))]) (va_A [(h0, .inr (5, [.ref b1, .ref b2, .int tcnt])), (b1, .inl (k3, 40, .inl mf)), (b2, .inl (k4, 40, .inl pf))] sz)) 0 0 (va_A [(h0, .inr (5, [.ref b1, .ref b2, .int tcnt])), (b1, .inl (k3, 40, .inl mf)), (b2, .inl (k4, 40, .inl pf))] sz) := by
  refine Met.ofW (cc := b_Time_write) (maxL := 4) (ret := none) (by decide) rfl ?_
  intro p e s m args below meth c s₁ B hml hv
  obtain ⟨rfl, hsz, hP, hK, hD0, hE⟩ := hv
  have hx := B.exec
  have hb := B.bytes
  have hr := B.returns
  have hts := atoms_spec (ws := w_Time_write) B.pre
  have hown : s.vm.findClass R_Time = some m.cls := findClass_of_methodNamed B.named
  have hlocks := B.notSynchronized
  subst hsz
  have hD := hD0.self (sz := s.heap.size)
  generalize hAe : va_A [(h0, .inr (5, [.ref b1, .ref b2, .int tcnt])), (b1, .inl (k3, 40, .inl mf)), (b2, .inl (k4, 40, .inl pf))] s.heap.size = A at hD ⊢
  have hA : ∀ q : Nat, s.heap.size ≤ q → A q := fun q h => by rw [← hAe]; exact Or.inr h
  clear hAe hD0
  have key : ∀ (H : Heap) (locs : List Loc), va_P (dC, dI) classes [(h0, .inr (5, [.ref b1, .ref b2, .int tcnt])), (b1, .inl (k3, 40, .inl mf)), (b2, .inl (k4, 40, .inl pf))] H → va_D A [(h0, .inr (5, [.ref b1, .ref b2, .int tcnt])), (b1, .inl (k3, 40, .inl mf)), (b2, .inl (k4, 40, .inl pf))] → va_S A s.heap H locs → ∀ (ls : Array Slot), lv_has ls 4 [(0, .ref h0), (1, .int p1), (2, .int p2)] → W p l e ({ frames := 1, cells := 0, slots := 0, locals := 22 } : Room) s m ([.ref h0, .int p1, .int p2] : List Value).toArray below meth c H locs 0 0 (MQ below (va_Qv (fun _ : Unit => True) (fun _ t => va_P (dC, dI) classes [(h0, .inr (5, [.ref b1, .ref b2, .int res.1])), (b1, .inl (k3, 40, .inl res.2.1)), (b2, .inl (k4, 40, .inl res.2.2))] t.heap ∧ va_K (dC, dI) classes [(k3, .int), (k4, .int)] t ∧ va_D A [(h0, .inr (5, [.ref b1, .ref b2, .int res.1])), (b1, .inl (k3, 40, .inl res.2.1)), (b2, .inl (k4, 40, .inl res.2.2))]) A) ([.ref h0, .int p1, .int p2] : List Value).toArray s 0 0 A) (F0 m 0 ls []) := by
    intro H locs hP hD hS ls hl
    unfold fn_Time_write at h
    refine lv_aload_n hx hb d_Time_write_0 rfl (lv_at hl 0 rfl) ?_
    refine lv_iload_n hx hb d_Time_write_1 rfl (lv_at hl 1 rfl) ?_
    have hPc := hP.sub (ws' := [(h0, .inr (5, [.ref b1, .ref b2, .int tcnt])), (b1, .inl (k3, 40, .inl mf)), (b2, .inl (k4, 40, .inl pf))]) [0, 1, 2] rfl
    have hDc := hD.sub (ws' := [(h0, .inr (5, [.ref b1, .ref b2, .int tcnt])), (b1, .inl (k3, 40, .inl mf)), (b2, .inl (k4, 40, .inl pf))]) [0, 1, 2] (by decide) rfl
    have hKc := hK.sub (tys' := [(k3, .int), (k4, .int)]) [0, 1] rfl
    have hFc := va_free (wc := [(h0, .inr (5, [.ref b1, .ref b2, .int tcnt])), (b1, .inl (k3, 40, .inl mf)), (b2, .inl (k4, 40, .inl pf))]) hD hS hA [0, 1, 2] rfl
    obtain ⟨ur1, hc1, h⟩ := gx_bind h
    refine va_calli (va_runV (As := [.int p1]) (rest := []) ⟨hx, hb, hml, hown, hts⟩ (c_Time_placeOf N l dC dI h0 b1 b2 k3 k4 H.size tcnt mf pf p1 ur1 hc1) (cwV 1 hts (gx_gV mw_430 mw_427 mw_429 mw_9 mw_35) rfl rfl rfl (by decide +kernel) ⟨Nat.le_of_ble_eq_true rfl, Nat.le_of_ble_eq_true rfl⟩) ⟨fun a U g mk q => by obtain ⟨q0, q1, qP, qK, qD, qE⟩ := q; exact ⟨q0, q1, qP, va_K.moved (u := U) (U := U.calling g mk a) (Vm.Alike.refl U.vm) qK, qD, qE.calls⟩, va_recv hKc hPc (ci := 5) (q0 := 0) rfl rfl, fun U hU hW => ⟨rfl, by rw [hU], by rw [hU]; exact hPc, va_K.moved hW.alike hKc, hDc.weaken (fun _ _ _ _ => trivial), hE.warm hW⟩⟩ rfl rfl hl.1 rfl (lv_room (Nat.le_of_ble_eq_true rfl)) d_Time_write_2 ⟨(Nat.zero_le _), (Nat.zero_le _)⟩) hS (fun q _ h => hFc q h) hFc (fun r1 _ t H locs ht hvm hw hB hz1 hk1 hS => ?_)
    obtain ⟨hP1, hK1, hD1⟩ := hB
    rw [ht] at hP1
    rw [hw]
    obtain ⟨hP, hD⟩ := va_join (wr := []) (w1 := [(h0, .inr (5, [.ref b1, .ref b2, .int tcnt])), (b1, .inl (k3, 40, .inl mf)), (b2, .inl (k4, 40, .inl pf))]) hP hD [0, 1, 2] [] rfl rfl (by decide) (by decide) hk1 hFc hP1 hD1
    have hP : va_P (dC, dI) classes [(h0, .inr (5, [.ref b1, .ref b2, .int tcnt])), (b1, .inl (k3, 40, .inl mf)), (b2, .inl (k4, 40, .inl pf))] H := hP
    have hD : va_D A [(h0, .inr (5, [.ref b1, .ref b2, .int tcnt])), (b1, .inl (k3, 40, .inl mf)), (b2, .inl (k4, 40, .inl pf))] := hD
    refine lv_istore_n (lv' := [(3, .int ur1), (0, .ref h0), (1, .int p1), (2, .int p2)]) hx hb d_Time_write_5 rfl hl (by decide) rfl (fun ls hl => ?_)
    refine lv_iload_n hx hb d_Time_write_6 rfl (lv_at hl 0 rfl) ?_
    refine lv_iconst (v := (-1)) hx hb d_Time_write_7 (by decide) ?_
    refine lv_icmp_eq (tgt := 25) hx hb d_Time_write_8 (by decide) (fun c2 => ?_) (fun c2 => ?_)
    · replace h := gx_pos c2 h
      refine lv_iload_n hx hb d_Time_write_25 rfl (lv_at hl 0 rfl) ?_
      refine lv_iconst (v := (-1)) hx hb d_Time_write_26 (by decide) ?_
      refine lv_icmp_eq (tgt := 38) hx hb d_Time_write_27 (by decide) (fun c3 => ?_) (fun c3 => ?_)
      · replace h := gx_pos c3 h
        refine lv_iload_n hx hb d_Time_write_38 rfl (lv_at hl 3 rfl) ?_
        refine lv_if_le (tgt := 79) hx hb d_Time_write_39 (by decide) (fun c4 => ?_) (fun c4 => ?_)
        · replace h := gx_pos c4 h
          rw [← Option.some.inj h]
          have hP9 := hP
          have hD9 := hD
          exact W.vret hx hb hr (fun t ht hW => ⟨⟨(), rfl, trivial, ⟨by rw [ht]; exact hP9, va_K.moved hW.alike hK, hD9⟩⟩, hS.F ht⟩) hS.2.2 d_Time_write_79
        · replace h := gx_neg c4 h
          refine lv_aload_n hx hb d_Time_write_42 rfl (lv_at hl 1 rfl) ?_
          have hPc := hP.sub (ws' := [(h0, .inr (5, [.ref b1, .ref b2, .int tcnt])), (b1, .inl (k3, 40, .inl mf)), (b2, .inl (k4, 40, .inl pf))]) [0, 1, 2] rfl
          have hDc := hD.sub (ws' := [(h0, .inr (5, [.ref b1, .ref b2, .int tcnt])), (b1, .inl (k3, 40, .inl mf)), (b2, .inl (k4, 40, .inl pf))]) [0, 1, 2] (by decide) rfl
          have hKc := hK.sub (tys' := [(k3, .int), (k4, .int)]) [0, 1] rfl
          have hFc := va_free (wc := [(h0, .inr (5, [.ref b1, .ref b2, .int tcnt])), (b1, .inl (k3, 40, .inl mf)), (b2, .inl (k4, 40, .inl pf))]) hD hS hA [0, 1, 2] rfl
          obtain ⟨ur5, hc5, h⟩ := gx_bind h
          refine va_calli (va_runV (As := []) (rest := []) ⟨hx, hb, hml, hown, hts⟩ (c_Time_isFull N l dC dI h0 b1 b2 k3 k4 H.size tcnt mf pf ur5 hc5) (cwV 0 hts (gx_gV mw_434 mw_444 mw_432 mw_433 mw_35) rfl rfl rfl (by decide +kernel) ⟨Nat.le_of_ble_eq_true rfl, Nat.le_of_ble_eq_true rfl⟩) ⟨fun a U g mk q => by obtain ⟨q0, q1, qP, qK, qD, qE⟩ := q; exact ⟨q0, q1, qP, va_K.moved (u := U) (U := U.calling g mk a) (Vm.Alike.refl U.vm) qK, qD, qE.calls⟩, va_recv hKc hPc (ci := 5) (q0 := 0) rfl rfl, fun U hU hW => ⟨rfl, by rw [hU], by rw [hU]; exact hPc, va_K.moved hW.alike hKc, hDc.weaken (fun _ _ _ _ => trivial), hE.warm hW⟩⟩ rfl rfl hl.1 rfl (lv_room (Nat.le_of_ble_eq_true rfl)) d_Time_write_43 ⟨(Nat.zero_le _), (Nat.zero_le _)⟩) hS (fun q _ h => hFc q h) hFc (fun r5 _ t H locs ht hvm hw hB hz1 hk1 hS => ?_)
          obtain ⟨hP1, hK1, hD1⟩ := hB
          rw [ht] at hP1
          rw [hw]
          obtain ⟨hP, hD⟩ := va_join (wr := []) (w1 := [(h0, .inr (5, [.ref b1, .ref b2, .int tcnt])), (b1, .inl (k3, 40, .inl mf)), (b2, .inl (k4, 40, .inl pf))]) hP hD [0, 1, 2] [] rfl rfl (by decide) (by decide) hk1 hFc hP1 hD1
          have hP : va_P (dC, dI) classes [(h0, .inr (5, [.ref b1, .ref b2, .int tcnt])), (b1, .inl (k3, 40, .inl mf)), (b2, .inl (k4, 40, .inl pf))] H := hP
          have hD : va_D A [(h0, .inr (5, [.ref b1, .ref b2, .int tcnt])), (b1, .inl (k3, 40, .inl mf)), (b2, .inl (k4, 40, .inl pf))] := hD
          refine lv_if_ne (tgt := 79) hx hb d_Time_write_46 (by decide) (fun c6 => ?_) (fun c6 => ?_)
          · replace h := gx_neg c6 h
            rw [← Option.some.inj h]
            have hP9 := hP
            have hD9 := hD
            exact W.vret hx hb hr (fun t ht hW => ⟨⟨(), rfl, trivial, ⟨by rw [ht]; exact hP9, va_K.moved hW.alike hK, hD9⟩⟩, hS.F ht⟩) hS.2.2 d_Time_write_79
          · replace h := gx_pos c6 h
            refine lv_aload_n hx hb d_Time_write_49 rfl (lv_at hl 1 rfl) ?_
            refine va_get (D := (dC, dI)) (ci := 5) (v := .ref b1) (C := R_Time) (T := F_Time) (N := 3) hx hb hts (gx_in i_Time) hown hK hP 0 rfl rfl 0 (by decide) (hts _ (gx_w mw_256)) (fun _ h9 => h9) rfl d_Time_write_50 ?_
            refine lv_aload_n hx hb d_Time_write_53 rfl (lv_at hl 1 rfl) ?_
            refine va_get (D := (dC, dI)) (ci := 5) (v := .int tcnt) (C := R_Time) (T := F_Time) (N := 3) hx hb hts (gx_in i_Time) hown hK hP 0 rfl rfl 2 (by decide) (hts _ (gx_w mw_258)) (fun _ h9 => h9) rfl d_Time_write_54 ?_
            refine lv_iload_n hx hb d_Time_write_57 rfl (lv_at hl 2 rfl) ?_
            obtain ⟨hi7, h⟩ := gx_inb_of h
            refine va_iast hx hb hK hP hD hS 1 0 rfl rfl hi7 d_Time_write_58 (fun H locs hP hD hS => ?_)
            have hP : va_P (dC, dI) classes [(h0, .inr (5, [.ref b1, .ref b2, .int tcnt])), (b1, .inl (k3, 40, .inl (upd mf tcnt.toNatClampNeg p1))), (b2, .inl (k4, 40, .inl pf))] H := hP
            have hD : va_D A [(h0, .inr (5, [.ref b1, .ref b2, .int tcnt])), (b1, .inl (k3, 40, .inl (upd mf tcnt.toNatClampNeg p1))), (b2, .inl (k4, 40, .inl pf))] := hD
            refine lv_aload_n hx hb d_Time_write_59 rfl (lv_at hl 1 rfl) ?_
            refine va_get (D := (dC, dI)) (ci := 5) (v := .ref b2) (C := R_Time) (T := F_Time) (N := 3) hx hb hts (gx_in i_Time) hown hK hP 0 rfl rfl 1 (by decide) (hts _ (gx_w mw_257)) (fun _ h9 => h9) rfl d_Time_write_60 ?_
            refine lv_aload_n hx hb d_Time_write_63 rfl (lv_at hl 1 rfl) ?_
            refine va_get (D := (dC, dI)) (ci := 5) (v := .int tcnt) (C := R_Time) (T := F_Time) (N := 3) hx hb hts (gx_in i_Time) hown hK hP 0 rfl rfl 2 (by decide) (hts _ (gx_w mw_258)) (fun _ h9 => h9) rfl d_Time_write_64 ?_
            refine lv_iload_n hx hb d_Time_write_67 rfl (lv_at hl 3 rfl) ?_
            obtain ⟨hi8, h⟩ := gx_inb_of h
            refine va_iast hx hb hK hP hD hS 2 1 rfl rfl hi8 d_Time_write_68 (fun H locs hP hD hS => ?_)
            have hP : va_P (dC, dI) classes [(h0, .inr (5, [.ref b1, .ref b2, .int tcnt])), (b1, .inl (k3, 40, .inl (upd mf tcnt.toNatClampNeg p1))), (b2, .inl (k4, 40, .inl (upd pf tcnt.toNatClampNeg p2)))] H := hP
            have hD : va_D A [(h0, .inr (5, [.ref b1, .ref b2, .int tcnt])), (b1, .inl (k3, 40, .inl (upd mf tcnt.toNatClampNeg p1))), (b2, .inl (k4, 40, .inl (upd pf tcnt.toNatClampNeg p2)))] := hD
            refine lv_aload_n hx hb d_Time_write_69 rfl (lv_at hl 1 rfl) ?_
            refine lv_dup hx hb d_Time_write_70 rfl ?_
            refine va_get (D := (dC, dI)) (ci := 5) (v := .int tcnt) (C := R_Time) (T := F_Time) (N := 3) hx hb hts (gx_in i_Time) hown hK hP 0 rfl rfl 2 (by decide) (hts _ (gx_w mw_258)) (fun _ h9 => h9) rfl d_Time_write_71 ?_
            refine lv_iconst (v := 1) hx hb d_Time_write_74 (by decide) ?_
            refine lv_iadd hx hb d_Time_write_75 ?_
            refine va_put (D := (dC, dI)) (ci := 5) (v := .int (tcnt + 1)) (ty := .int) (C := R_Time) (T := F_Time) (N := 3) hx hb hts (gx_in i_Time) t_Time t_Time_ok n_Time hown hK hP hD hS 0 rfl rfl 2 (by decide) (hts _ (gx_w mw_258)) (fun _ h9 => h9) rfl (by decide +kernel) rfl rfl (Nat.le_of_ble_eq_true rfl) d_Time_write_76 (fun H locs hP hD hS => ?_)
            have hP : va_P (dC, dI) classes [(h0, .inr (5, [.ref b1, .ref b2, .int (tcnt + 1)])), (b1, .inl (k3, 40, .inl (upd mf tcnt.toNatClampNeg p1))), (b2, .inl (k4, 40, .inl (upd pf tcnt.toNatClampNeg p2)))] H := hP
            have hD : va_D A [(h0, .inr (5, [.ref b1, .ref b2, .int (tcnt + 1)])), (b1, .inl (k3, 40, .inl (upd mf tcnt.toNatClampNeg p1))), (b2, .inl (k4, 40, .inl (upd pf tcnt.toNatClampNeg p2)))] := hD
            rw [← Option.some.inj h]
            have hP9 := hP
            have hD9 := hD
            exact W.vret hx hb hr (fun t ht hW => ⟨⟨(), rfl, trivial, ⟨by rw [ht]; exact hP9, va_K.moved hW.alike hK, hD9⟩⟩, hS.F ht⟩) hS.2.2 d_Time_write_79
      · replace h := gx_neg c3 h
        refine lv_aload_n hx hb d_Time_write_30 rfl (lv_at hl 1 rfl) ?_
        refine lv_iload_n hx hb d_Time_write_31 rfl (lv_at hl 0 rfl) ?_
        have hPc := hP.sub (ws' := [(h0, .inr (5, [.ref b1, .ref b2, .int tcnt])), (b1, .inl (k3, 40, .inl mf)), (b2, .inl (k4, 40, .inl pf))]) [0, 1, 2] rfl
        have hDc := hD.sub (ws' := [(h0, .inr (5, [.ref b1, .ref b2, .int tcnt])), (b1, .inl (k3, 40, .inl mf)), (b2, .inl (k4, 40, .inl pf))]) [0, 1, 2] (by decide) rfl
        have hKc := hK.sub (tys' := [(k3, .int), (k4, .int)]) [0, 1] rfl
        have hFc := va_free (wc := [(h0, .inr (5, [.ref b1, .ref b2, .int tcnt])), (b1, .inl (k3, 40, .inl mf)), (b2, .inl (k4, 40, .inl pf))]) hD hS hA [0, 1, 2] rfl
        obtain ⟨ur9, hc9, h⟩ := gx_bind h
        refine va_callv (va_runV (As := [.int ur1]) (rest := []) ⟨hx, hb, hml, hown, hts⟩ (c_Time_removePlace N l dC dI h0 b1 b2 k3 k4 H.size tcnt mf pf ur1 ur9 hc9) (cwV 1 hts (gx_gV mw_443 mw_440 mw_442 mw_10 mw_35) rfl rfl rfl (by decide +kernel) ⟨Nat.le_of_ble_eq_true rfl, Nat.le_of_ble_eq_true rfl⟩) ⟨fun a U g mk q => by obtain ⟨q0, q1, qP, qK, qD, qE⟩ := q; exact ⟨q0, q1, qP, va_K.moved (u := U) (U := U.calling g mk a) (Vm.Alike.refl U.vm) qK, qD, qE.calls⟩, va_recv hKc hPc (ci := 5) (q0 := 0) rfl rfl, fun U hU hW => ⟨rfl, by rw [hU], by rw [hU]; exact hPc, va_K.moved hW.alike hKc, hDc.weaken (fun _ _ _ _ => trivial), hE.warm hW⟩⟩ rfl rfl hl.1 rfl (lv_room (Nat.le_of_ble_eq_true rfl)) d_Time_write_32 ⟨(Nat.zero_le _), (Nat.zero_le _)⟩) hS (fun q _ h => hFc q h) hFc (fun _ t H locs ht hvm hw hB hz1 hk1 hS => ?_)
        obtain ⟨hP1, hK1, hD1⟩ := hB
        rw [ht] at hP1
        obtain ⟨hP, hD⟩ := va_join (wr := []) (w1 := [(h0, .inr (5, [.ref b1, .ref b2, .int ur9.1])), (b1, .inl (k3, 40, .inl ur9.2.1)), (b2, .inl (k4, 40, .inl ur9.2.2))]) hP hD [0, 1, 2] [] rfl rfl (by decide) (by decide) hk1 hFc hP1 hD1
        have hP : va_P (dC, dI) classes [(h0, .inr (5, [.ref b1, .ref b2, .int ur9.1])), (b1, .inl (k3, 40, .inl ur9.2.1)), (b2, .inl (k4, 40, .inl ur9.2.2))] H := hP
        have hD : va_D A [(h0, .inr (5, [.ref b1, .ref b2, .int ur9.1])), (b1, .inl (k3, 40, .inl ur9.2.1)), (b2, .inl (k4, 40, .inl ur9.2.2))] := hD
        refine lv_goto (tgt := 79) hx hb d_Time_write_35 (by decide) ?_
        rw [← Option.some.inj h]
        have hP9 := hP
        have hD9 := hD
        exact W.vret hx hb hr (fun t ht hW => ⟨⟨(), rfl, trivial, ⟨by rw [ht]; exact hP9, va_K.moved hW.alike hK, hD9⟩⟩, hS.F ht⟩) hS.2.2 d_Time_write_79
    · replace h := gx_neg c2 h
      refine lv_iload_n hx hb d_Time_write_11 rfl (lv_at hl 3 rfl) ?_
      refine lv_if_le (tgt := 25) hx hb d_Time_write_12 (by decide) (fun c10 => ?_) (fun c10 => ?_)
      · replace h := gx_pos c10 h
        refine lv_iload_n hx hb d_Time_write_25 rfl (lv_at hl 0 rfl) ?_
        refine lv_iconst (v := (-1)) hx hb d_Time_write_26 (by decide) ?_
        refine lv_icmp_eq (tgt := 38) hx hb d_Time_write_27 (by decide) (fun c11 => ?_) (fun c11 => ?_)
        · replace h := gx_pos c11 h
          refine lv_iload_n hx hb d_Time_write_38 rfl (lv_at hl 3 rfl) ?_
          refine lv_if_le (tgt := 79) hx hb d_Time_write_39 (by decide) (fun c12 => ?_) (fun c12 => ?_)
          · replace h := gx_pos c12 h
            rw [← Option.some.inj h]
            have hP9 := hP
            have hD9 := hD
            exact W.vret hx hb hr (fun t ht hW => ⟨⟨(), rfl, trivial, ⟨by rw [ht]; exact hP9, va_K.moved hW.alike hK, hD9⟩⟩, hS.F ht⟩) hS.2.2 d_Time_write_79
          · replace h := gx_neg c12 h
            refine lv_aload_n hx hb d_Time_write_42 rfl (lv_at hl 1 rfl) ?_
            have hPc := hP.sub (ws' := [(h0, .inr (5, [.ref b1, .ref b2, .int tcnt])), (b1, .inl (k3, 40, .inl mf)), (b2, .inl (k4, 40, .inl pf))]) [0, 1, 2] rfl
            have hDc := hD.sub (ws' := [(h0, .inr (5, [.ref b1, .ref b2, .int tcnt])), (b1, .inl (k3, 40, .inl mf)), (b2, .inl (k4, 40, .inl pf))]) [0, 1, 2] (by decide) rfl
            have hKc := hK.sub (tys' := [(k3, .int), (k4, .int)]) [0, 1] rfl
            have hFc := va_free (wc := [(h0, .inr (5, [.ref b1, .ref b2, .int tcnt])), (b1, .inl (k3, 40, .inl mf)), (b2, .inl (k4, 40, .inl pf))]) hD hS hA [0, 1, 2] rfl
            obtain ⟨ur13, hc13, h⟩ := gx_bind h
            refine va_calli (va_runV (As := []) (rest := []) ⟨hx, hb, hml, hown, hts⟩ (c_Time_isFull N l dC dI h0 b1 b2 k3 k4 H.size tcnt mf pf ur13 hc13) (cwV 0 hts (gx_gV mw_434 mw_444 mw_432 mw_433 mw_35) rfl rfl rfl (by decide +kernel) ⟨Nat.le_of_ble_eq_true rfl, Nat.le_of_ble_eq_true rfl⟩) ⟨fun a U g mk q => by obtain ⟨q0, q1, qP, qK, qD, qE⟩ := q; exact ⟨q0, q1, qP, va_K.moved (u := U) (U := U.calling g mk a) (Vm.Alike.refl U.vm) qK, qD, qE.calls⟩, va_recv hKc hPc (ci := 5) (q0 := 0) rfl rfl, fun U hU hW => ⟨rfl, by rw [hU], by rw [hU]; exact hPc, va_K.moved hW.alike hKc, hDc.weaken (fun _ _ _ _ => trivial), hE.warm hW⟩⟩ rfl rfl hl.1 rfl (lv_room (Nat.le_of_ble_eq_true rfl)) d_Time_write_43 ⟨(Nat.zero_le _), (Nat.zero_le _)⟩) hS (fun q _ h => hFc q h) hFc (fun r13 _ t H locs ht hvm hw hB hz1 hk1 hS => ?_)
            obtain ⟨hP1, hK1, hD1⟩ := hB
            rw [ht] at hP1
            rw [hw]
            obtain ⟨hP, hD⟩ := va_join (wr := []) (w1 := [(h0, .inr (5, [.ref b1, .ref b2, .int tcnt])), (b1, .inl (k3, 40, .inl mf)), (b2, .inl (k4, 40, .inl pf))]) hP hD [0, 1, 2] [] rfl rfl (by decide) (by decide) hk1 hFc hP1 hD1
            have hP : va_P (dC, dI) classes [(h0, .inr (5, [.ref b1, .ref b2, .int tcnt])), (b1, .inl (k3, 40, .inl mf)), (b2, .inl (k4, 40, .inl pf))] H := hP
            have hD : va_D A [(h0, .inr (5, [.ref b1, .ref b2, .int tcnt])), (b1, .inl (k3, 40, .inl mf)), (b2, .inl (k4, 40, .inl pf))] := hD
            refine lv_if_ne (tgt := 79) hx hb d_Time_write_46 (by decide) (fun c14 => ?_) (fun c14 => ?_)
            · replace h := gx_neg c14 h
              rw [← Option.some.inj h]
              have hP9 := hP
              have hD9 := hD
              exact W.vret hx hb hr (fun t ht hW => ⟨⟨(), rfl, trivial, ⟨by rw [ht]; exact hP9, va_K.moved hW.alike hK, hD9⟩⟩, hS.F ht⟩) hS.2.2 d_Time_write_79
            · replace h := gx_pos c14 h
              refine lv_aload_n hx hb d_Time_write_49 rfl (lv_at hl 1 rfl) ?_
              refine va_get (D := (dC, dI)) (ci := 5) (v := .ref b1) (C := R_Time) (T := F_Time) (N := 3) hx hb hts (gx_in i_Time) hown hK hP 0 rfl rfl 0 (by decide) (hts _ (gx_w mw_256)) (fun _ h9 => h9) rfl d_Time_write_50 ?_
              refine lv_aload_n hx hb d_Time_write_53 rfl (lv_at hl 1 rfl) ?_
              refine va_get (D := (dC, dI)) (ci := 5) (v := .int tcnt) (C := R_Time) (T := F_Time) (N := 3) hx hb hts (gx_in i_Time) hown hK hP 0 rfl rfl 2 (by decide) (hts _ (gx_w mw_258)) (fun _ h9 => h9) rfl d_Time_write_54 ?_
              refine lv_iload_n hx hb d_Time_write_57 rfl (lv_at hl 2 rfl) ?_
              obtain ⟨hi15, h⟩ := gx_inb_of h
              refine va_iast hx hb hK hP hD hS 1 0 rfl rfl hi15 d_Time_write_58 (fun H locs hP hD hS => ?_)
              have hP : va_P (dC, dI) classes [(h0, .inr (5, [.ref b1, .ref b2, .int tcnt])), (b1, .inl (k3, 40, .inl (upd mf tcnt.toNatClampNeg p1))), (b2, .inl (k4, 40, .inl pf))] H := hP
              have hD : va_D A [(h0, .inr (5, [.ref b1, .ref b2, .int tcnt])), (b1, .inl (k3, 40, .inl (upd mf tcnt.toNatClampNeg p1))), (b2, .inl (k4, 40, .inl pf))] := hD
              refine lv_aload_n hx hb d_Time_write_59 rfl (lv_at hl 1 rfl) ?_
              refine va_get (D := (dC, dI)) (ci := 5) (v := .ref b2) (C := R_Time) (T := F_Time) (N := 3) hx hb hts (gx_in i_Time) hown hK hP 0 rfl rfl 1 (by decide) (hts _ (gx_w mw_257)) (fun _ h9 => h9) rfl d_Time_write_60 ?_
              refine lv_aload_n hx hb d_Time_write_63 rfl (lv_at hl 1 rfl) ?_
              refine va_get (D := (dC, dI)) (ci := 5) (v := .int tcnt) (C := R_Time) (T := F_Time) (N := 3) hx hb hts (gx_in i_Time) hown hK hP 0 rfl rfl 2 (by decide) (hts _ (gx_w mw_258)) (fun _ h9 => h9) rfl d_Time_write_64 ?_
              refine lv_iload_n hx hb d_Time_write_67 rfl (lv_at hl 3 rfl) ?_
              obtain ⟨hi16, h⟩ := gx_inb_of h
              refine va_iast hx hb hK hP hD hS 2 1 rfl rfl hi16 d_Time_write_68 (fun H locs hP hD hS => ?_)
              have hP : va_P (dC, dI) classes [(h0, .inr (5, [.ref b1, .ref b2, .int tcnt])), (b1, .inl (k3, 40, .inl (upd mf tcnt.toNatClampNeg p1))), (b2, .inl (k4, 40, .inl (upd pf tcnt.toNatClampNeg p2)))] H := hP
              have hD : va_D A [(h0, .inr (5, [.ref b1, .ref b2, .int tcnt])), (b1, .inl (k3, 40, .inl (upd mf tcnt.toNatClampNeg p1))), (b2, .inl (k4, 40, .inl (upd pf tcnt.toNatClampNeg p2)))] := hD
              refine lv_aload_n hx hb d_Time_write_69 rfl (lv_at hl 1 rfl) ?_
              refine lv_dup hx hb d_Time_write_70 rfl ?_
              refine va_get (D := (dC, dI)) (ci := 5) (v := .int tcnt) (C := R_Time) (T := F_Time) (N := 3) hx hb hts (gx_in i_Time) hown hK hP 0 rfl rfl 2 (by decide) (hts _ (gx_w mw_258)) (fun _ h9 => h9) rfl d_Time_write_71 ?_
              refine lv_iconst (v := 1) hx hb d_Time_write_74 (by decide) ?_
              refine lv_iadd hx hb d_Time_write_75 ?_
              refine va_put (D := (dC, dI)) (ci := 5) (v := .int (tcnt + 1)) (ty := .int) (C := R_Time) (T := F_Time) (N := 3) hx hb hts (gx_in i_Time) t_Time t_Time_ok n_Time hown hK hP hD hS 0 rfl rfl 2 (by decide) (hts _ (gx_w mw_258)) (fun _ h9 => h9) rfl (by decide +kernel) rfl rfl (Nat.le_of_ble_eq_true rfl) d_Time_write_76 (fun H locs hP hD hS => ?_)
              have hP : va_P (dC, dI) classes [(h0, .inr (5, [.ref b1, .ref b2, .int (tcnt + 1)])), (b1, .inl (k3, 40, .inl (upd mf tcnt.toNatClampNeg p1))), (b2, .inl (k4, 40, .inl (upd pf tcnt.toNatClampNeg p2)))] H := hP
              have hD : va_D A [(h0, .inr (5, [.ref b1, .ref b2, .int (tcnt + 1)])), (b1, .inl (k3, 40, .inl (upd mf tcnt.toNatClampNeg p1))), (b2, .inl (k4, 40, .inl (upd pf tcnt.toNatClampNeg p2)))] := hD
              rw [← Option.some.inj h]
              have hP9 := hP
              have hD9 := hD
              exact W.vret hx hb hr (fun t ht hW => ⟨⟨(), rfl, trivial, ⟨by rw [ht]; exact hP9, va_K.moved hW.alike hK, hD9⟩⟩, hS.F ht⟩) hS.2.2 d_Time_write_79
        · replace h := gx_neg c11 h
          refine lv_aload_n hx hb d_Time_write_30 rfl (lv_at hl 1 rfl) ?_
          refine lv_iload_n hx hb d_Time_write_31 rfl (lv_at hl 0 rfl) ?_
          have hPc := hP.sub (ws' := [(h0, .inr (5, [.ref b1, .ref b2, .int tcnt])), (b1, .inl (k3, 40, .inl mf)), (b2, .inl (k4, 40, .inl pf))]) [0, 1, 2] rfl
          have hDc := hD.sub (ws' := [(h0, .inr (5, [.ref b1, .ref b2, .int tcnt])), (b1, .inl (k3, 40, .inl mf)), (b2, .inl (k4, 40, .inl pf))]) [0, 1, 2] (by decide) rfl
          have hKc := hK.sub (tys' := [(k3, .int), (k4, .int)]) [0, 1] rfl
          have hFc := va_free (wc := [(h0, .inr (5, [.ref b1, .ref b2, .int tcnt])), (b1, .inl (k3, 40, .inl mf)), (b2, .inl (k4, 40, .inl pf))]) hD hS hA [0, 1, 2] rfl
          obtain ⟨ur17, hc17, h⟩ := gx_bind h
          refine va_callv (va_runV (As := [.int ur1]) (rest := []) ⟨hx, hb, hml, hown, hts⟩ (c_Time_removePlace N l dC dI h0 b1 b2 k3 k4 H.size tcnt mf pf ur1 ur17 hc17) (cwV 1 hts (gx_gV mw_443 mw_440 mw_442 mw_10 mw_35) rfl rfl rfl (by decide +kernel) ⟨Nat.le_of_ble_eq_true rfl, Nat.le_of_ble_eq_true rfl⟩) ⟨fun a U g mk q => by obtain ⟨q0, q1, qP, qK, qD, qE⟩ := q; exact ⟨q0, q1, qP, va_K.moved (u := U) (U := U.calling g mk a) (Vm.Alike.refl U.vm) qK, qD, qE.calls⟩, va_recv hKc hPc (ci := 5) (q0 := 0) rfl rfl, fun U hU hW => ⟨rfl, by rw [hU], by rw [hU]; exact hPc, va_K.moved hW.alike hKc, hDc.weaken (fun _ _ _ _ => trivial), hE.warm hW⟩⟩ rfl rfl hl.1 rfl (lv_room (Nat.le_of_ble_eq_true rfl)) d_Time_write_32 ⟨(Nat.zero_le _), (Nat.zero_le _)⟩) hS (fun q _ h => hFc q h) hFc (fun _ t H locs ht hvm hw hB hz1 hk1 hS => ?_)
          obtain ⟨hP1, hK1, hD1⟩ := hB
          rw [ht] at hP1
          obtain ⟨hP, hD⟩ := va_join (wr := []) (w1 := [(h0, .inr (5, [.ref b1, .ref b2, .int ur17.1])), (b1, .inl (k3, 40, .inl ur17.2.1)), (b2, .inl (k4, 40, .inl ur17.2.2))]) hP hD [0, 1, 2] [] rfl rfl (by decide) (by decide) hk1 hFc hP1 hD1
          have hP : va_P (dC, dI) classes [(h0, .inr (5, [.ref b1, .ref b2, .int ur17.1])), (b1, .inl (k3, 40, .inl ur17.2.1)), (b2, .inl (k4, 40, .inl ur17.2.2))] H := hP
          have hD : va_D A [(h0, .inr (5, [.ref b1, .ref b2, .int ur17.1])), (b1, .inl (k3, 40, .inl ur17.2.1)), (b2, .inl (k4, 40, .inl ur17.2.2))] := hD
          refine lv_goto (tgt := 79) hx hb d_Time_write_35 (by decide) ?_
          rw [← Option.some.inj h]
          have hP9 := hP
          have hD9 := hD
          exact W.vret hx hb hr (fun t ht hW => ⟨⟨(), rfl, trivial, ⟨by rw [ht]; exact hP9, va_K.moved hW.alike hK, hD9⟩⟩, hS.F ht⟩) hS.2.2 d_Time_write_79
      · replace h := gx_neg c10 h
        refine lv_aload_n hx hb d_Time_write_15 rfl (lv_at hl 1 rfl) ?_
        refine va_get (D := (dC, dI)) (ci := 5) (v := .ref b2) (C := R_Time) (T := F_Time) (N := 3) hx hb hts (gx_in i_Time) hown hK hP 0 rfl rfl 1 (by decide) (hts _ (gx_w mw_257)) (fun _ h9 => h9) rfl d_Time_write_16 ?_
        refine lv_iload_n hx hb d_Time_write_19 rfl (lv_at hl 0 rfl) ?_
        refine lv_iload_n hx hb d_Time_write_20 rfl (lv_at hl 3 rfl) ?_
        obtain ⟨hi18, h⟩ := gx_inb_of h
        refine va_iast hx hb hK hP hD hS 2 1 rfl rfl hi18 d_Time_write_21 (fun H locs hP hD hS => ?_)
        have hP : va_P (dC, dI) classes [(h0, .inr (5, [.ref b1, .ref b2, .int tcnt])), (b1, .inl (k3, 40, .inl mf)), (b2, .inl (k4, 40, .inl (upd pf ur1.toNatClampNeg p2)))] H := hP
        have hD : va_D A [(h0, .inr (5, [.ref b1, .ref b2, .int tcnt])), (b1, .inl (k3, 40, .inl mf)), (b2, .inl (k4, 40, .inl (upd pf ur1.toNatClampNeg p2)))] := hD
        refine lv_goto (tgt := 79) hx hb d_Time_write_22 (by decide) ?_
        rw [← Option.some.inj h]
        have hP9 := hP
        have hD9 := hD
        exact W.vret hx hb hr (fun t ht hW => ⟨⟨(), rfl, trivial, ⟨by rw [ht]; exact hP9, va_K.moved hW.alike hK, hD9⟩⟩, hS.F ht⟩) hS.2.2 d_Time_write_79
  have hl := lv_entry ([.ref h0, .int p1, .int p2]) (n := 4) (Nat.le_of_ble_eq_true rfl)
  rw [lg_entry_eq]
  generalize (lg_sl ([.ref h0, .int p1, .int p2]) ++ List.replicate (4 - (lg_sl ([.ref h0, .int p1, .int p2])).length) Slot.unset).toArray = ls at hl ⊢
  exact key _ _ hP hD va_S.rf ls hl
