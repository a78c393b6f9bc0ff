theorem mw_196 : (Cond.fieldLink R_Rod 7 "TankLayers$Rod" "from" "I") ∈ gx_W := List.mem_filter.mpr ⟨List.mem_of_getElem? (i := 196) (by decide +kernel), by decide +kernel⟩
theorem mw_197 : (Cond.fieldLink R_Rod 13 "TankLayers$Rod" "to" "I") ∈ gx_W := List.mem_filter.mpr ⟨List.mem_of_getElem? (i := 197) (by decide +kernel), by decide +kernel⟩
theorem mw_198 : (Cond.fieldLink R_Rod 16 "TankLayers$Rod" "heatOfMinute" "I") ∈ gx_W := List.mem_filter.mpr ⟨List.mem_of_getElem? (i := 198) (by decide +kernel), by decide +kernel⟩
theorem mw_199 : (Cond.fieldLink R_Rod 19 "TankLayers$Rod" "sensorHeight" "I") ∈ gx_W := List.mem_filter.mpr ⟨List.mem_of_getElem? (i := 199) (by decide +kernel), by decide +kernel⟩
theorem mw_200 : (Cond.fieldLink R_Rod 22 "TankLayers$Rod" "low" "I") ∈ gx_W := List.mem_filter.mpr ⟨List.mem_of_getElem? (i := 200) (by decide +kernel), by decide +kernel⟩
theorem mw_201 : (Cond.fieldLink R_Rod 25 "TankLayers$Rod" "high" "I") ∈ gx_W := List.mem_filter.mpr ⟨List.mem_of_getElem? (i := 201) (by decide +kernel), by decide +kernel⟩
theorem mw_202 : (Cond.fieldLink R_Rod 28 "TankLayers$Rod" "on" "Z") ∈ gx_W := List.mem_filter.mpr ⟨List.mem_of_getElem? (i := 202) (by decide +kernel), by decide +kernel⟩
theorem mw_469 : (Cond.code y_Water_temperatureAt b_Water_temperatureAt 4 (some .long)) ∈ gx_W := List.mem_filter.mpr ⟨List.mem_of_getElem? (i := 469) (by decide +kernel), by decide +kernel⟩
theorem mw_466 : (Cond.methodLink R_Rod 32 y_Water_temperatureAt) ∈ gx_W := List.mem_filter.mpr ⟨List.mem_of_getElem? (i := 466) (by decide +kernel), by decide +kernel⟩
theorem mw_467 : (Cond.instanceMethod y_Water_temperatureAt) ∈ gx_W := List.mem_filter.mpr ⟨List.mem_of_getElem? (i := 467) (by decide +kernel), by decide +kernel⟩
theorem mw_468 : (Cond.selects R_Water y_Water_temperatureAt y_Water_temperatureAt) ∈ gx_W := List.mem_filter.mpr ⟨List.mem_of_getElem? (i := 468) (by decide +kernel), by decide +kernel⟩
theorem mw_390 : (Cond.code y_Water_heatBetween b_Water_heatBetween 11 none) ∈ gx_W := List.mem_filter.mpr ⟨List.mem_of_getElem? (i := 390) (by decide +kernel), by decide +kernel⟩
theorem mw_470 : (Cond.methodLink R_Rod 38 y_Water_heatBetween) ∈ gx_W := List.mem_filter.mpr ⟨List.mem_of_getElem? (i := 470) (by decide +kernel), by decide +kernel⟩
theorem mw_388 : (Cond.instanceMethod y_Water_heatBetween) ∈ gx_W := List.mem_filter.mpr ⟨List.mem_of_getElem? (i := 388) (by decide +kernel), by decide +kernel⟩
theorem mw_389 : (Cond.selects R_Water y_Water_heatBetween y_Water_heatBetween) ∈ gx_W := List.mem_filter.mpr ⟨List.mem_of_getElem? (i := 389) (by decide +kernel), by decide +kernel⟩
theorem mw_204 : (Cond.fieldLink R_Rod 42 "TankLayers$Rod" "heatGiven" "J") ∈ gx_W := List.mem_filter.mpr ⟨List.mem_of_getElem? (i := 204) (by decide +kernel), by decide +kernel⟩
theorem mw_206 : (Cond.fieldLink R_Rod 46 "TankLayers$Rod" "minutesOn" "I") ∈ gx_W := List.mem_filter.mpr ⟨List.mem_of_getElem? (i := 206) (by decide +kernel), by decide +kernel⟩
theorem mw_235 : (Cond.fieldLink R_Loss 13 "TankLayers$Loss" "above" "I") ∈ gx_W := List.mem_filter.mpr ⟨List.mem_of_getElem? (i := 235) (by decide +kernel), by decide +kernel⟩
theorem mw_239 : (Cond.fieldLink R_Loss 16 "TankLayers$Loss" "heatLost" "J") ∈ gx_W := List.mem_filter.mpr ⟨List.mem_of_getElem? (i := 239) (by decide +kernel), by decide +kernel⟩
theorem mw_233 : (Cond.fieldLink R_Loss 20 "TankLayers$Loss" "ambient" "I") ∈ gx_W := List.mem_filter.mpr ⟨List.mem_of_getElem? (i := 233) (by decide +kernel), by decide +kernel⟩
theorem mw_237 : (Cond.fieldLink R_Loss 7 "TankLayers$Loss" "below" "I") ∈ gx_W := List.mem_filter.mpr ⟨List.mem_of_getElem? (i := 237) (by decide +kernel), by decide +kernel⟩
theorem mw_478 : (Cond.code y_Water_loseHeat b_Water_loseHeat 9 (some .long)) ∈ gx_W := List.mem_filter.mpr ⟨List.mem_of_getElem? (i := 478) (by decide +kernel), by decide +kernel⟩
theorem mw_475 : (Cond.methodLink R_Loss 23 y_Water_loseHeat) ∈ gx_W := List.mem_filter.mpr ⟨List.mem_of_getElem? (i := 475) (by decide +kernel), by decide +kernel⟩
theorem mw_476 : (Cond.instanceMethod y_Water_loseHeat) ∈ gx_W := List.mem_filter.mpr ⟨List.mem_of_getElem? (i := 476) (by decide +kernel), by decide +kernel⟩
theorem mw_477 : (Cond.selects R_Water y_Water_loseHeat y_Water_loseHeat) ∈ gx_W := List.mem_filter.mpr ⟨List.mem_of_getElem? (i := 477) (by decide +kernel), by decide +kernel⟩
theorem d_Rod_place_0 : decode b_Rod_place 0 = .ok (.aload_n 0, 1) := by decide +kernel
theorem d_Rod_place_1 : decode b_Rod_place 1 = .ok (.iload_n 1, 1) := by decide +kernel
theorem d_Rod_place_2 : decode b_Rod_place 2 = .ok (.putfield 7, 3) := by decide +kernel
theorem d_Rod_place_5 : decode b_Rod_place 5 = .ok (.aload_n 0, 1) := by decide +kernel
theorem d_Rod_place_6 : decode b_Rod_place 6 = .ok (.iload_n 2, 1) := by decide +kernel
theorem d_Rod_place_7 : decode b_Rod_place 7 = .ok (.putfield 13, 3) := by decide +kernel
theorem d_Rod_place_10 : decode b_Rod_place 10 = .ok (.aload_n 0, 1) := by decide +kernel
theorem d_Rod_place_11 : decode b_Rod_place 11 = .ok (.iload_n 3, 1) := by decide +kernel
theorem d_Rod_place_12 : decode b_Rod_place 12 = .ok (.putfield 16, 3) := by decide +kernel
theorem d_Rod_place_15 : decode b_Rod_place 15 = .ok (.return_, 1) := by decide +kernel
theorem d_Rod_obey_0 : decode b_Rod_obey 0 = .ok (.aload_n 0, 1) := by decide +kernel
theorem d_Rod_obey_1 : decode b_Rod_obey 1 = .ok (.iload_n 1, 1) := by decide +kernel
theorem d_Rod_obey_2 : decode b_Rod_obey 2 = .ok (.putfield 19, 3) := by decide +kernel
theorem d_Rod_obey_5 : decode b_Rod_obey 5 = .ok (.aload_n 0, 1) := by decide +kernel
theorem d_Rod_obey_6 : decode b_Rod_obey 6 = .ok (.iload_n 2, 1) := by decide +kernel
theorem d_Rod_obey_7 : decode b_Rod_obey 7 = .ok (.putfield 22, 3) := by decide +kernel
theorem d_Rod_obey_10 : decode b_Rod_obey 10 = .ok (.aload_n 0, 1) := by decide +kernel
theorem d_Rod_obey_11 : decode b_Rod_obey 11 = .ok (.iload_n 3, 1) := by decide +kernel
theorem d_Rod_obey_12 : decode b_Rod_obey 12 = .ok (.putfield 25, 3) := by decide +kernel
theorem d_Rod_obey_15 : decode b_Rod_obey 15 = .ok (.aload_n 0, 1) := by decide +kernel
theorem d_Rod_obey_16 : decode b_Rod_obey 16 = .ok (.iconst 0, 1) := by decide +kernel
theorem d_Rod_obey_17 : decode b_Rod_obey 17 = .ok (.putfield 28, 3) := by decide +kernel
theorem d_Rod_obey_20 : decode b_Rod_obey 20 = .ok (.return_, 1) := by decide +kernel
theorem d_Rod_takeTurn_0 : decode b_Rod_takeTurn 0 = .ok (.aload_n 0, 1) := by decide +kernel
theorem d_Rod_takeTurn_1 : decode b_Rod_takeTurn 1 = .ok (.getfield 16, 3) := by decide +kernel
theorem d_Rod_takeTurn_4 : decode b_Rod_takeTurn 4 = .ok (.ifCond .ne 4, 3) := by decide +kernel
theorem d_Rod_takeTurn_7 : decode b_Rod_takeTurn 7 = .ok (.return_, 1) := by decide +kernel
theorem d_Rod_takeTurn_8 : decode b_Rod_takeTurn 8 = .ok (.aload_n 1, 1) := by decide +kernel
theorem d_Rod_takeTurn_9 : decode b_Rod_takeTurn 9 = .ok (.aload_n 0, 1) := by decide +kernel
theorem d_Rod_takeTurn_10 : decode b_Rod_takeTurn 10 = .ok (.getfield 19, 3) := by decide +kernel
theorem d_Rod_takeTurn_13 : decode b_Rod_takeTurn 13 = .ok (.invokevirtual 32, 3) := by decide +kernel
theorem d_Rod_takeTurn_16 : decode b_Rod_takeTurn 16 = .ok (.lstore_n 2, 1) := by decide +kernel
theorem d_Rod_takeTurn_17 : decode b_Rod_takeTurn 17 = .ok (.lload_n 2, 1) := by decide +kernel
theorem d_Rod_takeTurn_18 : decode b_Rod_takeTurn 18 = .ok (.aload_n 0, 1) := by decide +kernel
theorem d_Rod_takeTurn_19 : decode b_Rod_takeTurn 19 = .ok (.getfield 22, 3) := by decide +kernel
theorem d_Rod_takeTurn_22 : decode b_Rod_takeTurn 22 = .ok (.i2l, 1) := by decide +kernel
theorem d_Rod_takeTurn_23 : decode b_Rod_takeTurn 23 = .ok (.lcmp, 1) := by decide +kernel
theorem d_Rod_takeTurn_24 : decode b_Rod_takeTurn 24 = .ok (.ifCond .ge 11, 3) := by decide +kernel
theorem d_Rod_takeTurn_27 : decode b_Rod_takeTurn 27 = .ok (.aload_n 0, 1) := by decide +kernel
theorem d_Rod_takeTurn_28 : decode b_Rod_takeTurn 28 = .ok (.iconst 1, 1) := by decide +kernel
theorem d_Rod_takeTurn_29 : decode b_Rod_takeTurn 29 = .ok (.putfield 28, 3) := by decide +kernel
theorem d_Rod_takeTurn_32 : decode b_Rod_takeTurn 32 = .ok (.goto 18, 3) := by decide +kernel
theorem d_Rod_takeTurn_35 : decode b_Rod_takeTurn 35 = .ok (.lload_n 2, 1) := by decide +kernel
theorem d_Rod_takeTurn_36 : decode b_Rod_takeTurn 36 = .ok (.aload_n 0, 1) := by decide +kernel
theorem d_Rod_takeTurn_37 : decode b_Rod_takeTurn 37 = .ok (.getfield 25, 3) := by decide +kernel
theorem d_Rod_takeTurn_40 : decode b_Rod_takeTurn 40 = .ok (.i2l, 1) := by decide +kernel
theorem d_Rod_takeTurn_41 : decode b_Rod_takeTurn 41 = .ok (.lcmp, 1) := by decide +kernel
theorem d_Rod_takeTurn_42 : decode b_Rod_takeTurn 42 = .ok (.ifCond .lt 8, 3) := by decide +kernel
theorem d_Rod_takeTurn_45 : decode b_Rod_takeTurn 45 = .ok (.aload_n 0, 1) := by decide +kernel
theorem d_Rod_takeTurn_46 : decode b_Rod_takeTurn 46 = .ok (.iconst 0, 1) := by decide +kernel
theorem d_Rod_takeTurn_47 : decode b_Rod_takeTurn 47 = .ok (.putfield 28, 3) := by decide +kernel
theorem d_Rod_takeTurn_50 : decode b_Rod_takeTurn 50 = .ok (.aload_n 0, 1) := by decide +kernel
theorem d_Rod_takeTurn_51 : decode b_Rod_takeTurn 51 = .ok (.getfield 28, 3) := by decide +kernel
theorem d_Rod_takeTurn_54 : decode b_Rod_takeTurn 54 = .ok (.ifCond .eq 43, 3) := by decide +kernel
theorem d_Rod_takeTurn_57 : decode b_Rod_takeTurn 57 = .ok (.aload_n 1, 1) := by decide +kernel
theorem d_Rod_takeTurn_58 : decode b_Rod_takeTurn 58 = .ok (.aload_n 0, 1) := by decide +kernel
theorem d_Rod_takeTurn_59 : decode b_Rod_takeTurn 59 = .ok (.getfield 7, 3) := by decide +kernel
theorem d_Rod_takeTurn_62 : decode b_Rod_takeTurn 62 = .ok (.aload_n 0, 1) := by decide +kernel
theorem d_Rod_takeTurn_63 : decode b_Rod_takeTurn 63 = .ok (.getfield 13, 3) := by decide +kernel
theorem d_Rod_takeTurn_66 : decode b_Rod_takeTurn 66 = .ok (.aload_n 0, 1) := by decide +kernel
theorem d_Rod_takeTurn_67 : decode b_Rod_takeTurn 67 = .ok (.getfield 16, 3) := by decide +kernel
theorem d_Rod_takeTurn_70 : decode b_Rod_takeTurn 70 = .ok (.invokevirtual 38, 3) := by decide +kernel
theorem d_Rod_takeTurn_73 : decode b_Rod_takeTurn 73 = .ok (.aload_n 0, 1) := by decide +kernel
theorem d_Rod_takeTurn_74 : decode b_Rod_takeTurn 74 = .ok (.dup, 1) := by decide +kernel
theorem d_Rod_takeTurn_75 : decode b_Rod_takeTurn 75 = .ok (.getfield 42, 3) := by decide +kernel
theorem d_Rod_takeTurn_78 : decode b_Rod_takeTurn 78 = .ok (.aload_n 0, 1) := by decide +kernel
theorem d_Rod_takeTurn_79 : decode b_Rod_takeTurn 79 = .ok (.getfield 16, 3) := by decide +kernel
theorem d_Rod_takeTurn_82 : decode b_Rod_takeTurn 82 = .ok (.i2l, 1) := by decide +kernel
theorem d_Rod_takeTurn_83 : decode b_Rod_takeTurn 83 = .ok (.ladd, 1) := by decide +kernel
theorem d_Rod_takeTurn_84 : decode b_Rod_takeTurn 84 = .ok (.putfield 42, 3) := by decide +kernel
theorem d_Rod_takeTurn_87 : decode b_Rod_takeTurn 87 = .ok (.aload_n 0, 1) := by decide +kernel
theorem d_Rod_takeTurn_88 : decode b_Rod_takeTurn 88 = .ok (.dup, 1) := by decide +kernel
theorem d_Rod_takeTurn_89 : decode b_Rod_takeTurn 89 = .ok (.getfield 46, 3) := by decide +kernel
theorem d_Rod_takeTurn_92 : decode b_Rod_takeTurn 92 = .ok (.iconst 1, 1) := by decide +kernel
theorem d_Rod_takeTurn_93 : decode b_Rod_takeTurn 93 = .ok (.iadd, 1) := by decide +kernel
theorem d_Rod_takeTurn_94 : decode b_Rod_takeTurn 94 = .ok (.putfield 46, 3) := by decide +kernel
theorem d_Rod_takeTurn_97 : decode b_Rod_takeTurn 97 = .ok (.return_, 1) := by decide +kernel
theorem d_Loss_coolDown_0 : decode b_Loss_coolDown 0 = .ok (.aload_n 0, 1) := by decide +kernel
theorem d_Loss_coolDown_1 : decode b_Loss_coolDown 1 = .ok (.getfield 13, 3) := by decide +kernel
theorem d_Loss_coolDown_4 : decode b_Loss_coolDown 4 = .ok (.ifCond .le 28, 3) := by decide +kernel
theorem d_Loss_coolDown_7 : decode b_Loss_coolDown 7 = .ok (.aload_n 0, 1) := by decide +kernel
theorem d_Loss_coolDown_8 : decode b_Loss_coolDown 8 = .ok (.dup, 1) := by decide +kernel
theorem d_Loss_coolDown_9 : decode b_Loss_coolDown 9 = .ok (.getfield 16, 3) := by decide +kernel
theorem d_Loss_coolDown_12 : decode b_Loss_coolDown 12 = .ok (.aload_n 1, 1) := by decide +kernel
theorem d_Loss_coolDown_13 : decode b_Loss_coolDown 13 = .ok (.aload_n 0, 1) := by decide +kernel
theorem d_Loss_coolDown_14 : decode b_Loss_coolDown 14 = .ok (.getfield 20, 3) := by decide +kernel
theorem d_Loss_coolDown_17 : decode b_Loss_coolDown 17 = .ok (.aload_n 0, 1) := by decide +kernel
theorem d_Loss_coolDown_18 : decode b_Loss_coolDown 18 = .ok (.getfield 13, 3) := by decide +kernel
theorem d_Loss_coolDown_21 : decode b_Loss_coolDown 21 = .ok (.aload_n 0, 1) := by decide +kernel
theorem d_Loss_coolDown_22 : decode b_Loss_coolDown 22 = .ok (.getfield 7, 3) := by decide +kernel
theorem d_Loss_coolDown_25 : decode b_Loss_coolDown 25 = .ok (.invokevirtual 23, 3) := by decide +kernel
theorem d_Loss_coolDown_28 : decode b_Loss_coolDown 28 = .ok (.ladd, 1) := by decide +kernel
theorem d_Loss_coolDown_29 : decode b_Loss_coolDown 29 = .ok (.putfield 16, 3) := by decide +kernel
theorem d_Loss_coolDown_32 : decode b_Loss_coolDown 32 = .ok (.return_, 1) := by decide +kernel
def fn_Rod_place (N : Nat) (p1 : Int32) (p2 : Int32) (p3 : Int32) (rfrom : Int32) (rto : Int32) (rheat : Int32) (rsens : Int32) (rlow : Int32) (rhigh : Int32) (ron : Int32) (rgiven : Int64) (rmin : Int32) : Option (Int32 × Int32 × Int32) :=
  some (p1, p2, p3)
def w_Rod_place : List Cond := .code y_Rod_place b_Rod_place 4 none :: gx_W
set_option maxHeartbeats 4000000 in
set_option maxRecDepth 100000 in
theorem c_Rod_place (N : Nat) (l : Launch) (dC : Nat → ClassId) (dI : Nat → Nat → Nat) (h0 : Nat) (sz : Nat) (rfrom : Int32) (rto : Int32) (rheat : Int32) (rsens : Int32) (rlow : Int32) (rhigh : Int32) (ron : Int32) (rgiven : Int64) (rmin : Int32) (p1 : Int32) (p2 : Int32) (p3 : Int32) (res : Int32 × Int32 × Int32) (h : fn_Rod_place N p1 p2 p3 rfrom rto rheat rsens rlow rhigh ron rgiven rmin = some res) : Met l y_Rod_place w_Rod_place ({ frames := 0, cells := 0, slots := 0, locals := 0 } : Room) (va_Pc [.ref h0, .int p1, .int p2, .int p3] (fun U => U.heap.size = sz ∧ va_P (dC, dI) classes [(h0, .inr (3, [.int rfrom, .int rto, .int rheat, .int rsens, .int rlow, .int rhigh, .int ron, .long rgiven, .int rmin]))] U.heap ∧ va_K (dC, dI) classes [] U ∧ va_D (fun _ => True) [(h0, .inr (3, [.int rfrom, .int rto, .int rheat, .int rsens, .int rlow, .int rhigh, .int ron, .long rgiven, .int rmin]))] ∧ gx_E U)) (va_Qv (fun _ : Unit => True) (fun _ t => va_P (dC, dI) classes [(h0, .inr (3, [.int res.1, .int res.2.1, .int res.2.2, .int rsens, .int rlow, .int rhigh, .int ron, .long rgiven, .int rmin]))] t.heap ∧ va_K (dC, dI) classes [] t ∧ va_D (va_A [(h0, .inr (3, [.int rfrom, .int rto, .int rheat, .int rsens, .int rlow, .int rhigh, .int ron, .long rgiven, .int rmin]))] sz) [(h0, .inr (3, [.int res.1, .int res.2.1, .int res.2.2, .int rsens, .int rlow, .int rhigh, .int ron, .long rgiven, .int rmin]))]) (va_A [(h0, .inr (3, [.int rfrom, .int rto, .int rheat, .int rsens, .int rlow, .int rhigh, .int ron, .long rgiven, .int rmin]))] sz)) 0 0 (va_A [(h0, .inr (3, [.int rfrom, .int rto, .int rheat, .int rsens, .int rlow, .int rhigh, .int ron, .long rgiven, .int rmin]))] sz) := by
  refine Met.ofW (cc := b_Rod_place) (maxL := 4) (ret := none) (by decide) rfl ?_
  intro p e s m args below meth c s₁ B hml hv
  obtain ⟨rfl, hsz, hP, hK, hD0, hE⟩ := hv
  have hx := B.exec
  have hb := B.bytes
  have hr := B.returns
  have hts := atoms_spec (ws := w_Rod_place) B.pre
  have hown : s.vm.findClass R_Rod = some m.cls := findClass_of_methodNamed B.named
  have hlocks := B.notSynchronized
  subst hsz
  have hD := hD0.self (sz := s.heap.size)
  generalize hAe : va_A [(h0, .inr (3, [.int rfrom, .int rto, .int rheat, .int rsens, .int rlow, .int rhigh, .int ron, .long rgiven, .int rmin]))] s.heap.size = A at hD ⊢
  have hA : ∀ q : Nat, s.heap.size ≤ q → A q := fun q h => by rw [← hAe]; exact Or.inr h
  clear hAe hD0
  have key : ∀ (H : Heap) (locs : List Loc), va_P (dC, dI) classes [(h0, .inr (3, [.int rfrom, .int rto, .int rheat, .int rsens, .int rlow, .int rhigh, .int ron, .long rgiven, .int rmin]))] H → va_D A [(h0, .inr (3, [.int rfrom, .int rto, .int rheat, .int rsens, .int rlow, .int rhigh, .int ron, .long rgiven, .int rmin]))] → va_S A s.heap H locs → ∀ (ls : Array Slot), lv_has ls 4 [(0, .ref h0), (1, .int p1), (2, .int p2), (3, .int p3)] → W p l e ({ frames := 0, cells := 0, slots := 0, locals := 0 } : Room) s m ([.ref h0, .int p1, .int p2, .int p3] : List Value).toArray below meth c H locs 0 0 (MQ below (va_Qv (fun _ : Unit => True) (fun _ t => va_P (dC, dI) classes [(h0, .inr (3, [.int res.1, .int res.2.1, .int res.2.2, .int rsens, .int rlow, .int rhigh, .int ron, .long rgiven, .int rmin]))] t.heap ∧ va_K (dC, dI) classes [] t ∧ va_D A [(h0, .inr (3, [.int res.1, .int res.2.1, .int res.2.2, .int rsens, .int rlow, .int rhigh, .int ron, .long rgiven, .int rmin]))]) A) ([.ref h0, .int p1, .int p2, .int p3] : List Value).toArray s 0 0 A) (F0 m 0 ls []) := by
    intro H locs hP hD hS ls hl
    unfold fn_Rod_place at h
    refine lv_aload_n hx hb d_Rod_place_0 rfl (lv_at hl 0 rfl) ?_
    refine lv_iload_n hx hb d_Rod_place_1 rfl (lv_at hl 1 rfl) ?_
    refine va_put (D := (dC, dI)) (ci := 3) (v := .int p1) (ty := .int) (C := R_Rod) (T := F_Rod) (N := 9) hx hb hts (gx_in i_Rod) t_Rod t_Rod_ok n_Rod hown hK hP hD hS 0 rfl rfl 0 (by decide) (hts _ (gx_w mw_196)) (fun _ h9 => h9) rfl (by decide +kernel) rfl rfl (Nat.le_of_ble_eq_true rfl) d_Rod_place_2 (fun H locs hP hD hS => ?_)
    have hP : va_P (dC, dI) classes [(h0, .inr (3, [.int p1, .int rto, .int rheat, .int rsens, .int rlow, .int rhigh, .int ron, .long rgiven, .int rmin]))] H := hP
    have hD : va_D A [(h0, .inr (3, [.int p1, .int rto, .int rheat, .int rsens, .int rlow, .int rhigh, .int ron, .long rgiven, .int rmin]))] := hD
    refine lv_aload_n hx hb d_Rod_place_5 rfl (lv_at hl 0 rfl) ?_
    refine lv_iload_n hx hb d_Rod_place_6 rfl (lv_at hl 2 rfl) ?_
    refine va_put (D := (dC, dI)) (ci := 3) (v := .int p2) (ty := .int) (C := R_Rod) (T := F_Rod) (N := 9) hx hb hts (gx_in i_Rod) t_Rod t_Rod_ok n_Rod hown hK hP hD hS 0 rfl rfl 1 (by decide) (hts _ (gx_w mw_197)) (fun _ h9 => h9) rfl (by decide +kernel) rfl rfl (Nat.le_of_ble_eq_true rfl) d_Rod_place_7 (fun H locs hP hD hS => ?_)
    have hP : va_P (dC, dI) classes [(h0, .inr (3, [.int p1, .int p2, .int rheat, .int rsens, .int rlow, .int rhigh, .int ron, .long rgiven, .int rmin]))] H := hP
    have hD : va_D A [(h0, .inr (3, [.int p1, .int p2, .int rheat, .int rsens, .int rlow, .int rhigh, .int ron, .long rgiven, .int rmin]))] := hD
    refine lv_aload_n hx hb d_Rod_place_10 rfl (lv_at hl 0 rfl) ?_
    refine lv_iload_n hx hb d_Rod_place_11 rfl (lv_at hl 3 rfl) ?_
    refine va_put (D := (dC, dI)) (ci := 3) (v := .int p3) (ty := .int) (C := R_Rod) (T := F_Rod) (N := 9) hx hb hts (gx_in i_Rod) t_Rod t_Rod_ok n_Rod hown hK hP hD hS 0 rfl rfl 2 (by decide) (hts _ (gx_w mw_198)) (fun _ h9 => h9) rfl (by decide +kernel) rfl rfl (Nat.le_of_ble_eq_true rfl) d_Rod_place_12 (fun H locs hP hD hS => ?_)
    have hP : va_P (dC, dI) classes [(h0, .inr (3, [.int p1, .int p2, .int p3, .int rsens, .int rlow, .int rhigh, .int ron, .long rgiven, .int rmin]))] H := hP
    have hD : va_D A [(h0, .inr (3, [.int p1, .int p2, .int p3, .int rsens, .int rlow, .int rhigh, .int ron, .long rgiven, .int rmin]))] := hD
    rw [← Option.some.inj h]
    have hP9 := hP
    have hD9 := hD
    exact W.vret hx hb hr (fun t ht hW => ⟨⟨(), rfl, trivial, ⟨by rw [ht]; exact hP9, va_K.moved hW.alike hK, hD9⟩⟩, hS.F ht⟩) hS.2.2 d_Rod_place_15
  have hl := lv_entry ([.ref h0, .int p1, .int p2, .int p3]) (n := 4) (Nat.le_of_ble_eq_true rfl)
  rw [lg_entry_eq]
  generalize (lg_sl ([.ref h0, .int p1, .int p2, .int p3]) ++ List.replicate (4 - (lg_sl ([.ref h0, .int p1, .int p2, .int p3])).length) Slot.unset).toArray = ls at hl ⊢
  exact key _ _ hP hD va_S.rf ls hl
def fn_Rod_obey (N : Nat) (p1 : Int32) (p2 : Int32) (p3 : Int32) (rfrom : Int32) (rto : Int32) (rheat : Int32) (rsens : Int32) (rlow : Int32) (rhigh : Int32) (ron : Int32) (rgiven : Int64) (rmin : Int32) : Option (Int32 × Int32 × Int32 × Int32) :=
  some (p1, p2, p3, 0)
def w_Rod_obey : List Cond := .code y_Rod_obey b_Rod_obey 4 none :: gx_W
set_option maxHeartbeats 4000000 in
set_option maxRecDepth 100000 in
theorem c_Rod_obey (N : Nat) (l : Launch) (dC : Nat → ClassId) (dI : Nat → Nat → Nat) (h0 : Nat) (sz : Nat) (rfrom : Int32) (rto : Int32) (rheat : Int32) (rsens : Int32) (rlow : Int32) (rhigh : Int32) (ron : Int32) (rgiven : Int64) (rmin : Int32) (p1 : Int32) (p2 : Int32) (p3 : Int32) (res : Int32 × Int32 × Int32 × Int32) (h : fn_Rod_obey N p1 p2 p3 rfrom rto rheat rsens rlow rhigh ron rgiven rmin = some res) : Met l y_Rod_obey w_Rod_obey ({ frames := 0, cells := 0, slots := 0, locals := 0 } : Room) (va_Pc [.ref h0, .int p1, .int p2, .int p3] (fun U => U.heap.size = sz ∧ va_P (dC, dI) classes [(h0, .inr (3, [.int rfrom, .int rto, .int rheat, .int rsens, .int rlow, .int rhigh, .int ron, .long rgiven, .int rmin]))] U.heap ∧ va_K (dC, dI) classes [] U ∧ va_D (fun _ => True) [(h0, .inr (3, [.int rfrom, .int rto, .int rheat, .int rsens, .int rlow, .int rhigh, .int ron, .long rgiven, .int rmin]))] ∧ gx_E U)) (va_Qv (fun _ : Unit => True) (fun _ t => va_P (dC, dI) classes [(h0, .inr (3, [.int rfrom, .int rto, .int rheat, .int res.1, .int res.2.1, .int res.2.2.1, .int res.2.2.2, .long rgiven, .int rmin]))] t.heap ∧ va_K (dC, dI) classes [] t ∧ va_D (va_A [(h0, .inr (3, [.int rfrom, .int rto, .int rheat, .int rsens, .int rlow, .int rhigh, .int ron, .long rgiven, .int rmin]))] sz) [(h0, .inr (3, [.int rfrom, .int rto, .int rheat, .int res.1, .int res.2.1, .int res.2.2.1, .int res.2.2.2, .long rgiven, .int rmin]))]) (va_A [(h0, .inr (3, [.int rfrom, .int rto, .int rheat, .int rsens, .int rlow, .int rhigh, .int ron, .long rgiven, .int rmin]))] sz)) 0 0 (va_A [(h0, .inr (3, [.int rfrom, .int rto, .int rheat, .int rsens, .int rlow, .int rhigh, .int ron, .long rgiven, .int rmin]))] sz) := by
  refine Met.ofW (cc := b_Rod_obey) (maxL := 4) (ret := none) (by decide) rfl ?_
  intro p e s m args below meth c s₁ B hml hv
  obtain ⟨rfl, hsz, hP, hK, hD0, hE⟩ := hv
  have hx := B.exec
  have hb := B.bytes
  have hr := B.returns
  have hts := atoms_spec (ws := w_Rod_obey) B.pre
  have hown : s.vm.findClass R_Rod = some m.cls := findClass_of_methodNamed B.named
  have hlocks := B.notSynchronized
  subst hsz
  have hD := hD0.self (sz := s.heap.size)
  generalize hAe : va_A [(h0, .inr (3, [.int rfrom, .int rto, .int rheat, .int rsens, .int rlow, .int rhigh, .int ron, .long rgiven, .int rmin]))] s.heap.size = A at hD ⊢
  have hA : ∀ q : Nat, s.heap.size ≤ q → A q := fun q h => by rw [← hAe]; exact Or.inr h
  clear hAe hD0
  have key : ∀ (H : Heap) (locs : List Loc), va_P (dC, dI) classes [(h0, .inr (3, [.int rfrom, .int rto, .int rheat, .int rsens, .int rlow, .int rhigh, .int ron, .long rgiven, .int rmin]))] H → va_D A [(h0, .inr (3, [.int rfrom, .int rto, .int rheat, .int rsens, .int rlow, .int rhigh, .int ron, .long rgiven, .int rmin]))] → va_S A s.heap H locs → ∀ (ls : Array Slot), lv_has ls 4 [(0, .ref h0), (1, .int p1), (2, .int p2), (3, .int p3)] → W p l e ({ frames := 0, cells := 0, slots := 0, locals := 0 } : Room) s m ([.ref h0, .int p1, .int p2, .int p3] : List Value).toArray below meth c H locs 0 0 (MQ below (va_Qv (fun _ : Unit => True) (fun _ t => va_P (dC, dI) classes [(h0, .inr (3, [.int rfrom, .int rto, .int rheat, .int res.1, .int res.2.1, .int res.2.2.1, .int res.2.2.2, .long rgiven, .int rmin]))] t.heap ∧ va_K (dC, dI) classes [] t ∧ va_D A [(h0, .inr (3, [.int rfrom, .int rto, .int rheat, .int res.1, .int res.2.1, .int res.2.2.1, .int res.2.2.2, .long rgiven, .int rmin]))]) A) ([.ref h0, .int p1, .int p2, .int p3] : List Value).toArray s 0 0 A) (F0 m 0 ls []) := by
    intro H locs hP hD hS ls hl
    unfold fn_Rod_obey at h
    refine lv_aload_n hx hb d_Rod_obey_0 rfl (lv_at hl 0 rfl) ?_
    refine lv_iload_n hx hb d_Rod_obey_1 rfl (lv_at hl 1 rfl) ?_
    refine va_put (D := (dC, dI)) (ci := 3) (v := .int p1) (ty := .int) (C := R_Rod) (T := F_Rod) (N := 9) hx hb hts (gx_in i_Rod) t_Rod t_Rod_ok n_Rod hown hK hP hD hS 0 rfl rfl 3 (by decide) (hts _ (gx_w mw_199)) (fun _ h9 => h9) rfl (by decide +kernel) rfl rfl (Nat.le_of_ble_eq_true rfl) d_Rod_obey_2 (fun H locs hP hD hS => ?_)
    have hP : va_P (dC, dI) classes [(h0, .inr (3, [.int rfrom, .int rto, .int rheat, .int p1, .int rlow, .int rhigh, .int ron, .long rgiven, .int rmin]))] H := hP
    have hD : va_D A [(h0, .inr (3, [.int rfrom, .int rto, .int rheat, .int p1, .int rlow, .int rhigh, .int ron, .long rgiven, .int rmin]))] := hD
    refine lv_aload_n hx hb d_Rod_obey_5 rfl (lv_at hl 0 rfl) ?_
    refine lv_iload_n hx hb d_Rod_obey_6 rfl (lv_at hl 2 rfl) ?_
    refine va_put (D := (dC, dI)) (ci := 3) (v := .int p2) (ty := .int) (C := R_Rod) (T := F_Rod) (N := 9) hx hb hts (gx_in i_Rod) t_Rod t_Rod_ok n_Rod hown hK hP hD hS 0 rfl rfl 4 (by decide) (hts _ (gx_w mw_200)) (fun _ h9 => h9) rfl (by decide +kernel) rfl rfl (Nat.le_of_ble_eq_true rfl) d_Rod_obey_7 (fun H locs hP hD hS => ?_)
    have hP : va_P (dC, dI) classes [(h0, .inr (3, [.int rfrom, .int rto, .int rheat, .int p1, .int p2, .int rhigh, .int ron, .long rgiven, .int rmin]))] H := hP
    have hD : va_D A [(h0, .inr (3, [.int rfrom, .int rto, .int rheat, .int p1, .int p2, .int rhigh, .int ron, .long rgiven, .int rmin]))] := hD
    refine lv_aload_n hx hb d_Rod_obey_10 rfl (lv_at hl 0 rfl) ?_
    refine lv_iload_n hx hb d_Rod_obey_11 rfl (lv_at hl 3 rfl) ?_
    refine va_put (D := (dC, dI)) (ci := 3) (v := .int p3) (ty := .int) (C := R_Rod) (T := F_Rod) (N := 9) hx hb hts (gx_in i_Rod) t_Rod t_Rod_ok n_Rod hown hK hP hD hS 0 rfl rfl 5 (by decide) (hts _ (gx_w mw_201)) (fun _ h9 => h9) rfl (by decide +kernel) rfl rfl (Nat.le_of_ble_eq_true rfl) d_Rod_obey_12 (fun H locs hP hD hS => ?_)
    have hP : va_P (dC, dI) classes [(h0, .inr (3, [.int rfrom, .int rto, .int rheat, .int p1, .int p2, .int p3, .int ron, .long rgiven, .int rmin]))] H := hP
    have hD : va_D A [(h0, .inr (3, [.int rfrom, .int rto, .int rheat, .int p1, .int p2, .int p3, .int ron, .long rgiven, .int rmin]))] := hD
    refine lv_aload_n hx hb d_Rod_obey_15 rfl (lv_at hl 0 rfl) ?_
    refine lv_iconst (v := 0) hx hb d_Rod_obey_16 (by decide) ?_
    refine va_put (D := (dC, dI)) (ci := 3) (v := .int 0) (ty := .boolean) (C := R_Rod) (T := F_Rod) (N := 9) hx hb hts (gx_in i_Rod) t_Rod t_Rod_ok n_Rod hown hK hP hD hS 0 rfl rfl 6 (by decide) (hts _ (gx_w mw_202)) (fun _ h9 => h9) rfl (by decide +kernel) (by decide +kernel) (by decide +kernel) (Nat.le_of_ble_eq_true rfl) d_Rod_obey_17 (fun H locs hP hD hS => ?_)
    have hP : va_P (dC, dI) classes [(h0, .inr (3, [.int rfrom, .int rto, .int rheat, .int p1, .int p2, .int p3, .int 0, .long rgiven, .int rmin]))] H := hP
    have hD : va_D A [(h0, .inr (3, [.int rfrom, .int rto, .int rheat, .int p1, .int p2, .int p3, .int 0, .long rgiven, .int rmin]))] := hD
    rw [← Option.some.inj h]
    have hP9 := hP
    have hD9 := hD
    exact W.vret hx hb hr (fun t ht hW => ⟨⟨(), rfl, trivial, ⟨by rw [ht]; exact hP9, va_K.moved hW.alike hK, hD9⟩⟩, hS.F ht⟩) hS.2.2 d_Rod_obey_20
  have hl := lv_entry ([.ref h0, .int p1, .int p2, .int p3]) (n := 4) (Nat.le_of_ble_eq_true rfl)
  rw [lg_entry_eq]
  generalize (lg_sl ([.ref h0, .int p1, .int p2, .int p3]) ++ List.replicate (4 - (lg_sl ([.ref h0, .int p1, .int p2, .int p3])).length) Slot.unset).toArray = ls at hl ⊢
  exact key _ _ hP hD va_S.rf ls hl
def fn_Rod_takeTurn (N : Nat) (rfrom : Int32) (rto : Int32) (rheat : Int32) (rsens : Int32) (rlow : Int32) (rhigh : Int32) (ron : Int32) (rgiven : Int64) (rmin : Int32) (full : Int32) (cnt : Int32) (vf : Nat → Int32) (hf : Nat → Int64) : Option (Int32 × Int64 × Int32 × Int32 × (Nat → Int32) × (Nat → Int64)) :=
  if rheat = 0 then some (ron, rgiven, rmin, cnt, vf, hf) else (fn_Water_temperatureAt N rsens full cnt vf hf).bind (fun ur2 => if 0 ≤ (lg_cmp ur2 rlow.toInt64) then if (lg_cmp ur2 rhigh.toInt64) < 0 then if ron = 0 then some (ron, rgiven, rmin, cnt, vf, hf) else (fn_Water_heatBetween N rfrom rto rheat full cnt vf hf).bind (fun ur6 => some (ron, rgiven + rheat.toInt64, rmin + 1, ur6.1, ur6.2.1, ur6.2.2)) else some (0, rgiven, rmin, cnt, vf, hf) else (fn_Water_heatBetween N rfrom rto rheat full cnt vf hf).bind (fun ur9 => some (1, rgiven + rheat.toInt64, rmin + 1, ur9.1, ur9.2.1, ur9.2.2)))
def w_Rod_takeTurn : List Cond := .code y_Rod_takeTurn b_Rod_takeTurn 4 none :: gx_W
set_option maxHeartbeats 4000000 in
set_option maxRecDepth 100000 in
theorem c_Rod_takeTurn (N : Nat) (l : Launch) (dC : Nat → ClassId) (dI : Nat → Nat → Nat) (h0 : Nat) (w0 : Nat) (a1 : Nat) (a2 : Nat) (k1 : ClassId) (k2 : ClassId) (sz : Nat) (rfrom : Int32) (rto : Int32) (rheat : Int32) (rsens : Int32) (rlow : Int32) (rhigh : Int32) (ron : Int32) (rgiven : Int64) (rmin : Int32) (full : Int32) (cnt : Int32) (vf : Nat → Int32) (hf : Nat → Int64) (w0 : Nat) (res : Int32 × Int64 × Int32 × Int32 × (Nat → Int32) × (Nat → Int64)) (h : fn_Rod_takeTurn N rfrom rto rheat rsens rlow rhigh ron rgiven rmin full cnt vf hf = some res) : Met l y_Rod_takeTurn w_Rod_takeTurn ({ frames := 4, cells := 0, slots := 0, locals := 106 } : Room) (va_Pc [.ref h0, .ref w0] (fun U => U.heap.size = sz ∧ va_P (dC, dI) classes [(h0, .inr (3, [.int rfrom, .int rto, .int rheat, .int rsens, .int rlow, .int rhigh, .int ron, .long rgiven, .int rmin])), (w0, .inr (2, [.int full, .ref a1, .ref a2, .int cnt])), (a1, .inl (k1, 42, .inl vf)), (a2, .inl (k2, 42, .inr (.inl hf)))] U.heap ∧ va_K (dC, dI) classes [(k1, .int), (k2, .long)] U ∧ va_D (fun _ => True) [(h0, .inr (3, [.int rfrom, .int rto, .int rheat, .int rsens, .int rlow, .int rhigh, .int ron, .long rgiven, .int rmin])), (w0, .inr (2, [.int full, .ref a1, .ref a2, .int cnt])), (a1, .inl (k1, 42, .inl vf)), (a2, .inl (k2, 42, .inr (.inl hf)))] ∧ gx_E U)) (va_Qv (fun _ : Unit => True) (fun _ t => va_P (dC, dI) classes [(h0, .inr (3, [.int rfrom, .int rto, .int rheat, .int rsens, .int rlow, .int rhigh, .int res.1, .long res.2.1, .int res.2.2.1])), (w0, .inr (2, [.int full, .ref a1, .ref a2, .int res.2.2.2.1])), (a1, .inl (k1, 42, .inl res.2.2.2.2.1)), (a2, .inl (k2, 42, .inr (.inl res.2.2.2.2.2)))] t.heap ∧ va_K (dC, dI) classes [(k1, .int), (k2, .long)] t ∧ va_D (va_A [(h0, .inr (3, [.int rfrom, .int rto, .int rheat, .int rsens, .int rlow, .int rhigh, .int ron, .long rgiven, .int rmin])), (w0, .inr (2, [.int full, .ref a1, .ref a2, .int cnt])), (a1, .inl (k1, 42, .inl vf)), (a2, .inl (k2, 42, .inr (.inl hf)))] sz) [(h0, .inr (3, [.int rfrom, .int rto, .int rheat, .int rsens, .int rlow, .int rhigh, .int res.1, .long res.2.1, .int res.2.2.1])), (w0, .inr (2, [.int full, .ref a1, .ref a2, .int res.2.2.2.1])), (a1, .inl (k1, 42, .inl res.2.2.2.2.1)), (a2, .inl (k2, 42, .inr (.inl res.2.2.2.2.2)))]) (va_A [(h0, .inr (3, [.int rfrom, .int rto, .int rheat, .int rsens, .int rlow, .int rhigh, .int ron, .long rgiven, .int rmin])), (w0, .inr (2, [.int full, .ref a1, .ref a2, .int cnt])), (a1, .inl (k1, 42, .inl vf)), (a2, .inl (k2, 42, .inr (.inl hf)))] sz)) 0 0 (va_A [(h0, .inr (3, [.int rfrom, .int rto, .int rheat, .int rsens, .int rlow, .int rhigh, .int ron, .long rgiven, .int rmin])), (w0, .inr (2, [.int full, .ref a1, .ref a2, .int cnt])), (a1, .inl (k1, 42, .inl vf)), (a2, .inl (k2, 42, .inr (.inl hf)))] sz) := by
  refine Met.ofW (cc := b_Rod_takeTurn) (maxL := 4) (ret := none) (by decide) rfl ?_
  intro p e s m args below meth c s₁ B hml hv
  obtain ⟨rfl, hsz, hP, hK, hD0, hE⟩ := hv
  have hx := B.exec
  have hb := B.bytes
  have hr := B.returns
  have hts := atoms_spec (ws := w_Rod_takeTurn) B.pre
  have hown : s.vm.findClass R_Rod = some m.cls := findClass_of_methodNamed B.named
  have hlocks := B.notSynchronized
  subst hsz
  have hD := hD0.self (sz := s.heap.size)
  generalize hAe : va_A [(h0, .inr (3, [.int rfrom, .int rto, .int rheat, .int rsens, .int rlow, .int rhigh, .int ron, .long rgiven, .int rmin])), (w0, .inr (2, [.int full, .ref a1, .ref a2, .int cnt])), (a1, .inl (k1, 42, .inl vf)), (a2, .inl (k2, 42, .inr (.inl hf)))] s.heap.size = A at hD ⊢
  have hA : ∀ q : Nat, s.heap.size ≤ q → A q := fun q h => by rw [← hAe]; exact Or.inr h
  clear hAe hD0
  have key : ∀ (H : Heap) (locs : List Loc), va_P (dC, dI) classes [(h0, .inr (3, [.int rfrom, .int rto, .int rheat, .int rsens, .int rlow, .int rhigh, .int ron, .long rgiven, .int rmin])), (w0, .inr (2, [.int full, .ref a1, .ref a2, .int cnt])), (a1, .inl (k1, 42, .inl vf)), (a2, .inl (k2, 42, .inr (.inl hf)))] H → va_D A [(h0, .inr (3, [.int rfrom, .int rto, .int rheat, .int rsens, .int rlow, .int rhigh, .int ron, .long rgiven, .int rmin])), (w0, .inr (2, [.int full, .ref a1, .ref a2, .int cnt])), (a1, .inl (k1, 42, .inl vf)), (a2, .inl (k2, 42, .inr (.inl hf)))] → va_S A s.heap H locs → ∀ (ls : Array Slot), lv_has ls 4 [(0, .ref h0), (1, .ref w0)] → W p l e ({ frames := 4, cells := 0, slots := 0, locals := 106 } : Room) s m ([.ref h0, .ref w0] : List Value).toArray below meth c H locs 0 0 (MQ below (va_Qv (fun _ : Unit => True) (fun _ t => va_P (dC, dI) classes [(h0, .inr (3, [.int rfrom, .int rto, .int rheat, .int rsens, .int rlow, .int rhigh, .int res.1, .long res.2.1, .int res.2.2.1])), (w0, .inr (2, [.int full, .ref a1, .ref a2, .int res.2.2.2.1])), (a1, .inl (k1, 42, .inl res.2.2.2.2.1)), (a2, .inl (k2, 42, .inr (.inl res.2.2.2.2.2)))] t.heap ∧ va_K (dC, dI) classes [(k1, .int), (k2, .long)] t ∧ va_D A [(h0, .inr (3, [.int rfrom, .int rto, .int rheat, .int rsens, .int rlow, .int rhigh, .int res.1, .long res.2.1, .int res.2.2.1])), (w0, .inr (2, [.int full, .ref a1, .ref a2, .int res.2.2.2.1])), (a1, .inl (k1, 42, .inl res.2.2.2.2.1)), (a2, .inl (k2, 42, .inr (.inl res.2.2.2.2.2)))]) A) ([.ref h0, .ref w0] : List Value).toArray s 0 0 A) (F0 m 0 ls []) := by
    intro H locs hP hD hS ls hl
    unfold fn_Rod_takeTurn at h
    refine lv_aload_n hx hb d_Rod_takeTurn_0 rfl (lv_at hl 0 rfl) ?_
    refine va_get (D := (dC, dI)) (ci := 3) (v := .int rheat) (C := R_Rod) (T := F_Rod) (N := 9) hx hb hts (gx_in i_Rod) hown hK hP 0 rfl rfl 2 (by decide) (hts _ (gx_w mw_198)) (fun _ h9 => h9) rfl d_Rod_takeTurn_1 ?_
    refine lv_if_ne (tgt := 8) hx hb d_Rod_takeTurn_4 (by decide) (fun c1 => ?_) (fun c1 => ?_)
    · replace h := gx_neg c1 h
      refine lv_aload_n hx hb d_Rod_takeTurn_8 rfl (lv_at hl 1 rfl) ?_
      refine lv_aload_n hx hb d_Rod_takeTurn_9 rfl (lv_at hl 0 rfl) ?_
      refine va_get (D := (dC, dI)) (ci := 3) (v := .int rsens) (C := R_Rod) (T := F_Rod) (N := 9) hx hb hts (gx_in i_Rod) hown hK hP 0 rfl rfl 3 (by decide) (hts _ (gx_w mw_199)) (fun _ h9 => h9) rfl d_Rod_takeTurn_10 ?_
      have hPc := hP.sub (ws' := [(w0, .inr (2, [.int full, .ref a1, .ref a2, .int cnt])), (a1, .inl (k1, 42, .inl vf)), (a2, .inl (k2, 42, .inr (.inl hf)))]) [1, 2, 3] rfl
      have hDc := hD.sub (ws' := [(w0, .inr (2, [.int full, .ref a1, .ref a2, .int cnt])), (a1, .inl (k1, 42, .inl vf)), (a2, .inl (k2, 42, .inr (.inl hf)))]) [1, 2, 3] (by decide) rfl
      have hKc := hK.sub (tys' := [(k1, .int), (k2, .long)]) [0, 1] rfl
      have hFc := va_free (wc := [(w0, .inr (2, [.int full, .ref a1, .ref a2, .int cnt])), (a1, .inl (k1, 42, .inl vf)), (a2, .inl (k2, 42, .inr (.inl hf)))]) hD hS hA [1, 2, 3] rfl
      obtain ⟨ur2, hc2, h⟩ := gx_bind h
      refine va_calll (va_runV (As := [.int rsens]) (rest := []) ⟨hx, hb, hml, hown, hts⟩ (c_Water_temperatureAt N l dC dI w0 a1 a2 k1 k2 H.size full cnt vf hf rsens ur2 hc2) (cwV 1 hts (gx_gV mw_469 mw_466 mw_467 mw_468 mw_32) rfl rfl rfl (by decide +kernel) ⟨Nat.le_of_ble_eq_true rfl, Nat.le_of_ble_eq_true rfl⟩) ⟨fun a U g mk q => by obtain ⟨q0, q1, qP, qK, qD, qE⟩ := q; exact ⟨q0, q1, qP, va_K.moved (u := U) (U := U.calling g mk a) (Vm.Alike.refl U.vm) qK, qD, qE.calls⟩, va_recv hKc hPc (ci := 2) (q0 := 0) rfl rfl, fun U hU hW => ⟨rfl, by rw [hU], by rw [hU]; exact hPc, va_K.moved hW.alike hKc, hDc.weaken (fun _ _ _ _ => trivial), hE.warm hW⟩⟩ rfl rfl hl.1 rfl (lv_room (Nat.le_of_ble_eq_true rfl)) d_Rod_takeTurn_13 ⟨(Nat.zero_le _), (Nat.zero_le _)⟩) hS (fun q _ h => hFc q h) hFc (fun r2 _ t H locs ht hvm hw hB hz1 hk1 hS => ?_)
      obtain ⟨hP1, hK1, hD1⟩ := hB
      rw [ht] at hP1
      rw [hw]
      obtain ⟨hP, hD⟩ := va_join (wr := [(h0, .inr (3, [.int rfrom, .int rto, .int rheat, .int rsens, .int rlow, .int rhigh, .int ron, .long rgiven, .int rmin]))]) (w1 := [(w0, .inr (2, [.int full, .ref a1, .ref a2, .int cnt])), (a1, .inl (k1, 42, .inl vf)), (a2, .inl (k2, 42, .inr (.inl hf)))]) hP hD [1, 2, 3] [0] rfl rfl (by decide) (by decide) hk1 hFc hP1 hD1
      have hP : va_P (dC, dI) classes [(h0, .inr (3, [.int rfrom, .int rto, .int rheat, .int rsens, .int rlow, .int rhigh, .int ron, .long rgiven, .int rmin])), (w0, .inr (2, [.int full, .ref a1, .ref a2, .int cnt])), (a1, .inl (k1, 42, .inl vf)), (a2, .inl (k2, 42, .inr (.inl hf)))] H := hP
      have hD : va_D A [(h0, .inr (3, [.int rfrom, .int rto, .int rheat, .int rsens, .int rlow, .int rhigh, .int ron, .long rgiven, .int rmin])), (w0, .inr (2, [.int full, .ref a1, .ref a2, .int cnt])), (a1, .inl (k1, 42, .inl vf)), (a2, .inl (k2, 42, .inr (.inl hf)))] := hD
      refine lv_lstore_n (lv' := [(2, .long ur2), (0, .ref h0), (1, .ref w0)]) hx hb d_Rod_takeTurn_16 rfl hl (by decide) rfl (fun ls hl => ?_)
      refine lv_lload_n hx hb d_Rod_takeTurn_17 rfl (lv_at hl 0 rfl) ?_
      refine lv_aload_n hx hb d_Rod_takeTurn_18 rfl (lv_at hl 1 rfl) ?_
      refine va_get (D := (dC, dI)) (ci := 3) (v := .int rlow) (C := R_Rod) (T := F_Rod) (N := 9) hx hb hts (gx_in i_Rod) hown hK hP 0 rfl rfl 4 (by decide) (hts _ (gx_w mw_200)) (fun _ h9 => h9) rfl d_Rod_takeTurn_19 ?_
      refine lv_i2l (v := rlow.toInt64) hx hb d_Rod_takeTurn_22 rfl ?_
      refine W.lcmp hx hb d_Rod_takeTurn_23 ?_
      refine lv_if_ge (tgt := 35) hx hb d_Rod_takeTurn_24 (by decide) (fun c3 => ?_) (fun c3 => ?_)
      · replace h := gx_pos c3 h
        refine lv_lload_n hx hb d_Rod_takeTurn_35 rfl (lv_at hl 0 rfl) ?_
        refine lv_aload_n hx hb d_Rod_takeTurn_36 rfl (lv_at hl 1 rfl) ?_
        refine va_get (D := (dC, dI)) (ci := 3) (v := .int rhigh) (C := R_Rod) (T := F_Rod) (N := 9) hx hb hts (gx_in i_Rod) hown hK hP 0 rfl rfl 5 (by decide) (hts _ (gx_w mw_201)) (fun _ h9 => h9) rfl d_Rod_takeTurn_37 ?_
        refine lv_i2l (v := rhigh.toInt64) hx hb d_Rod_takeTurn_40 rfl ?_
        refine W.lcmp hx hb d_Rod_takeTurn_41 ?_
        refine lv_if_lt (tgt := 50) hx hb d_Rod_takeTurn_42 (by decide) (fun c4 => ?_) (fun c4 => ?_)
        · replace h := gx_pos c4 h
          refine lv_aload_n hx hb d_Rod_takeTurn_50 rfl (lv_at hl 1 rfl) ?_
          refine va_get (D := (dC, dI)) (ci := 3) (v := .int ron) (C := R_Rod) (T := F_Rod) (N := 9) hx hb hts (gx_in i_Rod) hown hK hP 0 rfl rfl 6 (by decide) (hts _ (gx_w mw_202)) (fun _ h9 => h9) rfl d_Rod_takeTurn_51 ?_
          refine lv_if_eq (tgt := 97) hx hb d_Rod_takeTurn_54 (by decide) (fun c5 => ?_) (fun c5 => ?_)
          · replace h := gx_pos c5 h
            rw [← Option.some.inj h]
            have hP9 := hP
            have hD9 := hD
            exact W.vret hx hb hr (fun t ht hW => ⟨⟨(), rfl, trivial, ⟨by rw [ht]; exact hP9, va_K.moved hW.alike hK, hD9⟩⟩, hS.F ht⟩) hS.2.2 d_Rod_takeTurn_97
          · replace h := gx_neg c5 h
            refine lv_aload_n hx hb d_Rod_takeTurn_57 rfl (lv_at hl 2 rfl) ?_
            refine lv_aload_n hx hb d_Rod_takeTurn_58 rfl (lv_at hl 1 rfl) ?_
            refine va_get (D := (dC, dI)) (ci := 3) (v := .int rfrom) (C := R_Rod) (T := F_Rod) (N := 9) hx hb hts (gx_in i_Rod) hown hK hP 0 rfl rfl 0 (by decide) (hts _ (gx_w mw_196)) (fun _ h9 => h9) rfl d_Rod_takeTurn_59 ?_
            refine lv_aload_n hx hb d_Rod_takeTurn_62 rfl (lv_at hl 1 rfl) ?_
            refine va_get (D := (dC, dI)) (ci := 3) (v := .int rto) (C := R_Rod) (T := F_Rod) (N := 9) hx hb hts (gx_in i_Rod) hown hK hP 0 rfl rfl 1 (by decide) (hts _ (gx_w mw_197)) (fun _ h9 => h9) rfl d_Rod_takeTurn_63 ?_
            refine lv_aload_n hx hb d_Rod_takeTurn_66 rfl (lv_at hl 1 rfl) ?_
            refine va_get (D := (dC, dI)) (ci := 3) (v := .int rheat) (C := R_Rod) (T := F_Rod) (N := 9) hx hb hts (gx_in i_Rod) hown hK hP 0 rfl rfl 2 (by decide) (hts _ (gx_w mw_198)) (fun _ h9 => h9) rfl d_Rod_takeTurn_67 ?_
            have hPc := hP.sub (ws' := [(w0, .inr (2, [.int full, .ref a1, .ref a2, .int cnt])), (a1, .inl (k1, 42, .inl vf)), (a2, .inl (k2, 42, .inr (.inl hf)))]) [1, 2, 3] rfl
            have hDc := hD.sub (ws' := [(w0, .inr (2, [.int full, .ref a1, .ref a2, .int cnt])), (a1, .inl (k1, 42, .inl vf)), (a2, .inl (k2, 42, .inr (.inl hf)))]) [1, 2, 3] (by decide) rfl
            have hKc := hK.sub (tys' := [(k1, .int), (k2, .long)]) [0, 1] rfl
            have hFc := va_free (wc := [(w0, .inr (2, [.int full, .ref a1, .ref a2, .int cnt])), (a1, .inl (k1, 42, .inl vf)), (a2, .inl (k2, 42, .inr (.inl hf)))]) hD hS hA [1, 2, 3] rfl
            obtain ⟨ur6, hc6, h⟩ := gx_bind h
            refine va_callv (va_runV (As := [.int rfrom, .int rto, .int rheat]) (rest := []) ⟨hx, hb, hml, hown, hts⟩ (c_Water_heatBetween N l dC dI w0 a1 a2 k1 k2 H.size full cnt vf hf rfrom rto rheat ur6 hc6) (cwV 3 hts (gx_gV mw_390 mw_470 mw_388 mw_389 mw_32) rfl rfl rfl (by decide +kernel) ⟨Nat.le_of_ble_eq_true rfl, Nat.le_of_ble_eq_true rfl⟩) ⟨fun a U g mk q => by obtain ⟨q0, q1, qP, qK, qD, qE⟩ := q; exact ⟨q0, q1, qP, va_K.moved (u := U) (U := U.calling g mk a) (Vm.Alike.refl U.vm) qK, qD, qE.calls⟩, va_recv hKc hPc (ci := 2) (q0 := 0) rfl rfl, fun U hU hW => ⟨rfl, by rw [hU], by rw [hU]; exact hPc, va_K.moved hW.alike hKc, hDc.weaken (fun _ _ _ _ => trivial), hE.warm hW⟩⟩ rfl rfl hl.1 rfl (lv_room (Nat.le_of_ble_eq_true rfl)) d_Rod_takeTurn_70 ⟨(Nat.zero_le _), (Nat.zero_le _)⟩) hS (fun q _ h => hFc q h) hFc (fun _ t H locs ht hvm hw hB hz1 hk1 hS => ?_)
            obtain ⟨hP1, hK1, hD1⟩ := hB
            rw [ht] at hP1
            obtain ⟨hP, hD⟩ := va_join (wr := [(h0, .inr (3, [.int rfrom, .int rto, .int rheat, .int rsens, .int rlow, .int rhigh, .int ron, .long rgiven, .int rmin]))]) (w1 := [(w0, .inr (2, [.int full, .ref a1, .ref a2, .int ur6.1])), (a1, .inl (k1, 42, .inl ur6.2.1)), (a2, .inl (k2, 42, .inr (.inl ur6.2.2)))]) hP hD [1, 2, 3] [0] rfl rfl (by decide) (by decide) hk1 hFc hP1 hD1
            have hP : va_P (dC, dI) classes [(h0, .inr (3, [.int rfrom, .int rto, .int rheat, .int rsens, .int rlow, .int rhigh, .int ron, .long rgiven, .int rmin])), (w0, .inr (2, [.int full, .ref a1, .ref a2, .int ur6.1])), (a1, .inl (k1, 42, .inl ur6.2.1)), (a2, .inl (k2, 42, .inr (.inl ur6.2.2)))] H := hP
            have hD : va_D A [(h0, .inr (3, [.int rfrom, .int rto, .int rheat, .int rsens, .int rlow, .int rhigh, .int ron, .long rgiven, .int rmin])), (w0, .inr (2, [.int full, .ref a1, .ref a2, .int ur6.1])), (a1, .inl (k1, 42, .inl ur6.2.1)), (a2, .inl (k2, 42, .inr (.inl ur6.2.2)))] := hD
            refine lv_aload_n hx hb d_Rod_takeTurn_73 rfl (lv_at hl 1 rfl) ?_
            refine lv_dup hx hb d_Rod_takeTurn_74 rfl ?_
            refine va_get (D := (dC, dI)) (ci := 3) (v := .long rgiven) (C := R_Rod) (T := F_Rod) (N := 9) hx hb hts (gx_in i_Rod) hown hK hP 0 rfl rfl 7 (by decide) (hts _ (gx_w mw_204)) (fun _ h9 => h9) rfl d_Rod_takeTurn_75 ?_
            refine lv_aload_n hx hb d_Rod_takeTurn_78 rfl (lv_at hl 1 rfl) ?_
            refine va_get (D := (dC, dI)) (ci := 3) (v := .int rheat) (C := R_Rod) (T := F_Rod) (N := 9) hx hb hts (gx_in i_Rod) hown hK hP 0 rfl rfl 2 (by decide) (hts _ (gx_w mw_198)) (fun _ h9 => h9) rfl d_Rod_takeTurn_79 ?_
            refine lv_i2l (v := rheat.toInt64) hx hb d_Rod_takeTurn_82 rfl ?_
            refine lv_ladd hx hb d_Rod_takeTurn_83 ?_
            refine va_put (D := (dC, dI)) (ci := 3) (v := .long (rgiven + rheat.toInt64)) (ty := .long) (C := R_Rod) (T := F_Rod) (N := 9) hx hb hts (gx_in i_Rod) t_Rod t_Rod_ok n_Rod hown hK hP hD hS 0 rfl rfl 7 (by decide) (hts _ (gx_w mw_204)) (fun _ h9 => h9) rfl (by decide +kernel) rfl rfl (Nat.le_of_ble_eq_true rfl) d_Rod_takeTurn_84 (fun H locs hP hD hS => ?_)
            have hP : va_P (dC, dI) classes [(h0, .inr (3, [.int rfrom, .int rto, .int rheat, .int rsens, .int rlow, .int rhigh, .int ron, .long (rgiven + rheat.toInt64), .int rmin])), (w0, .inr (2, [.int full, .ref a1, .ref a2, .int ur6.1])), (a1, .inl (k1, 42, .inl ur6.2.1)), (a2, .inl (k2, 42, .inr (.inl ur6.2.2)))] H := hP
            have hD : va_D A [(h0, .inr (3, [.int rfrom, .int rto, .int rheat, .int rsens, .int rlow, .int rhigh, .int ron, .long (rgiven + rheat.toInt64), .int rmin])), (w0, .inr (2, [.int full, .ref a1, .ref a2, .int ur6.1])), (a1, .inl (k1, 42, .inl ur6.2.1)), (a2, .inl (k2, 42, .inr (.inl ur6.2.2)))] := hD
            refine lv_aload_n hx hb d_Rod_takeTurn_87 rfl (lv_at hl 1 rfl) ?_
            refine lv_dup hx hb d_Rod_takeTurn_88 rfl ?_
            refine va_get (D := (dC, dI)) (ci := 3) (v := .int rmin) (C := R_Rod) (T := F_Rod) (N := 9) hx hb hts (gx_in i_Rod) hown hK hP 0 rfl rfl 8 (by decide) (hts _ (gx_w mw_206)) (fun _ h9 => h9) rfl d_Rod_takeTurn_89 ?_
            refine lv_iconst (v := 1) hx hb d_Rod_takeTurn_92 (by decide) ?_
            refine lv_iadd hx hb d_Rod_takeTurn_93 ?_
            refine va_put (D := (dC, dI)) (ci := 3) (v := .int (rmin + 1)) (ty := .int) (C := R_Rod) (T := F_Rod) (N := 9) hx hb hts (gx_in i_Rod) t_Rod t_Rod_ok n_Rod hown hK hP hD hS 0 rfl rfl 8 (by decide) (hts _ (gx_w mw_206)) (fun _ h9 => h9) rfl (by decide +kernel) rfl rfl (Nat.le_of_ble_eq_true rfl) d_Rod_takeTurn_94 (fun H locs hP hD hS => ?_)
            have hP : va_P (dC, dI) classes [(h0, .inr (3, [.int rfrom, .int rto, .int rheat, .int rsens, .int rlow, .int rhigh, .int ron, .long (rgiven + rheat.toInt64), .int (rmin + 1)])), (w0, .inr (2, [.int full, .ref a1, .ref a2, .int ur6.1])), (a1, .inl (k1, 42, .inl ur6.2.1)), (a2, .inl (k2, 42, .inr (.inl ur6.2.2)))] H := hP
            have hD : va_D A [(h0, .inr (3, [.int rfrom, .int rto, .int rheat, .int rsens, .int rlow, .int rhigh, .int ron, .long (rgiven + rheat.toInt64), .int (rmin + 1)])), (w0, .inr (2, [.int full, .ref a1, .ref a2, .int ur6.1])), (a1, .inl (k1, 42, .inl ur6.2.1)), (a2, .inl (k2, 42, .inr (.inl ur6.2.2)))] := hD
            rw [← Option.some.inj h]
            have hP9 := hP
            have hD9 := hD
            exact W.vret hx hb hr (fun t ht hW => ⟨⟨(), rfl, trivial, ⟨by rw [ht]; exact hP9, va_K.moved hW.alike hK, hD9⟩⟩, hS.F ht⟩) hS.2.2 d_Rod_takeTurn_97
        · replace h := gx_neg c4 h
          refine lv_aload_n hx hb d_Rod_takeTurn_45 rfl (lv_at hl 1 rfl) ?_
          refine lv_iconst (v := 0) hx hb d_Rod_takeTurn_46 (by decide) ?_
          refine va_put (D := (dC, dI)) (ci := 3) (v := .int 0) (ty := .boolean) (C := R_Rod) (T := F_Rod) (N := 9) hx hb hts (gx_in i_Rod) t_Rod t_Rod_ok n_Rod hown hK hP hD hS 0 rfl rfl 6 (by decide) (hts _ (gx_w mw_202)) (fun _ h9 => h9) rfl (by decide +kernel) (by decide +kernel) (by decide +kernel) (Nat.le_of_ble_eq_true rfl) d_Rod_takeTurn_47 (fun H locs hP hD hS => ?_)
          have hP : va_P (dC, dI) classes [(h0, .inr (3, [.int rfrom, .int rto, .int rheat, .int rsens, .int rlow, .int rhigh, .int 0, .long rgiven, .int rmin])), (w0, .inr (2, [.int full, .ref a1, .ref a2, .int cnt])), (a1, .inl (k1, 42, .inl vf)), (a2, .inl (k2, 42, .inr (.inl hf)))] H := hP
          have hD : va_D A [(h0, .inr (3, [.int rfrom, .int rto, .int rheat, .int rsens, .int rlow, .int rhigh, .int 0, .long rgiven, .int rmin])), (w0, .inr (2, [.int full, .ref a1, .ref a2, .int cnt])), (a1, .inl (k1, 42, .inl vf)), (a2, .inl (k2, 42, .inr (.inl hf)))] := hD
          refine lv_aload_n hx hb d_Rod_takeTurn_50 rfl (lv_at hl 1 rfl) ?_
          refine va_get (D := (dC, dI)) (ci := 3) (v := .int 0) (C := R_Rod) (T := F_Rod) (N := 9) hx hb hts (gx_in i_Rod) hown hK hP 0 rfl rfl 6 (by decide) (hts _ (gx_w mw_202)) (fun _ h9 => h9) rfl d_Rod_takeTurn_51 ?_
          refine lv_if_eq (tgt := 97) hx hb d_Rod_takeTurn_54 (by decide) (fun c7 => ?_) (fun c7 => ?_)
          · skip
            rw [← Option.some.inj h]
            have hP9 := hP
            have hD9 := hD
            exact W.vret hx hb hr (fun t ht hW => ⟨⟨(), rfl, trivial, ⟨by rw [ht]; exact hP9, va_K.moved hW.alike hK, hD9⟩⟩, hS.F ht⟩) hS.2.2 d_Rod_takeTurn_97
          · exact absurd c7 (by decide)
      · replace h := gx_neg c3 h
        refine lv_aload_n hx hb d_Rod_takeTurn_27 rfl (lv_at hl 1 rfl) ?_
        refine lv_iconst (v := 1) hx hb d_Rod_takeTurn_28 (by decide) ?_
        refine va_put (D := (dC, dI)) (ci := 3) (v := .int 1) (ty := .boolean) (C := R_Rod) (T := F_Rod) (N := 9) hx hb hts (gx_in i_Rod) t_Rod t_Rod_ok n_Rod hown hK hP hD hS 0 rfl rfl 6 (by decide) (hts _ (gx_w mw_202)) (fun _ h9 => h9) rfl (by decide +kernel) (by decide +kernel) (by decide +kernel) (Nat.le_of_ble_eq_true rfl) d_Rod_takeTurn_29 (fun H locs hP hD hS => ?_)
        have hP : va_P (dC, dI) classes [(h0, .inr (3, [.int rfrom, .int rto, .int rheat, .int rsens, .int rlow, .int rhigh, .int 1, .long rgiven, .int rmin])), (w0, .inr (2, [.int full, .ref a1, .ref a2, .int cnt])), (a1, .inl (k1, 42, .inl vf)), (a2, .inl (k2, 42, .inr (.inl hf)))] H := hP
        have hD : va_D A [(h0, .inr (3, [.int rfrom, .int rto, .int rheat, .int rsens, .int rlow, .int rhigh, .int 1, .long rgiven, .int rmin])), (w0, .inr (2, [.int full, .ref a1, .ref a2, .int cnt])), (a1, .inl (k1, 42, .inl vf)), (a2, .inl (k2, 42, .inr (.inl hf)))] := hD
        refine lv_goto (tgt := 50) hx hb d_Rod_takeTurn_32 (by decide) ?_
        refine lv_aload_n hx hb d_Rod_takeTurn_50 rfl (lv_at hl 1 rfl) ?_
        refine va_get (D := (dC, dI)) (ci := 3) (v := .int 1) (C := R_Rod) (T := F_Rod) (N := 9) hx hb hts (gx_in i_Rod) hown hK hP 0 rfl rfl 6 (by decide) (hts _ (gx_w mw_202)) (fun _ h9 => h9) rfl d_Rod_takeTurn_51 ?_
        refine lv_if_eq (tgt := 97) hx hb d_Rod_takeTurn_54 (by decide) (fun c8 => ?_) (fun c8 => ?_)
        · exact absurd c8 (by decide)
        · skip
          refine lv_aload_n hx hb d_Rod_takeTurn_57 rfl (lv_at hl 2 rfl) ?_
          refine lv_aload_n hx hb d_Rod_takeTurn_58 rfl (lv_at hl 1 rfl) ?_
          refine va_get (D := (dC, dI)) (ci := 3) (v := .int rfrom) (C := R_Rod) (T := F_Rod) (N := 9) hx hb hts (gx_in i_Rod) hown hK hP 0 rfl rfl 0 (by decide) (hts _ (gx_w mw_196)) (fun _ h9 => h9) rfl d_Rod_takeTurn_59 ?_
          refine lv_aload_n hx hb d_Rod_takeTurn_62 rfl (lv_at hl 1 rfl) ?_
          refine va_get (D := (dC, dI)) (ci := 3) (v := .int rto) (C := R_Rod) (T := F_Rod) (N := 9) hx hb hts (gx_in i_Rod) hown hK hP 0 rfl rfl 1 (by decide) (hts _ (gx_w mw_197)) (fun _ h9 => h9) rfl d_Rod_takeTurn_63 ?_
          refine lv_aload_n hx hb d_Rod_takeTurn_66 rfl (lv_at hl 1 rfl) ?_
          refine va_get (D := (dC, dI)) (ci := 3) (v := .int rheat) (C := R_Rod) (T := F_Rod) (N := 9) hx hb hts (gx_in i_Rod) hown hK hP 0 rfl rfl 2 (by decide) (hts _ (gx_w mw_198)) (fun _ h9 => h9) rfl d_Rod_takeTurn_67 ?_
          have hPc := hP.sub (ws' := [(w0, .inr (2, [.int full, .ref a1, .ref a2, .int cnt])), (a1, .inl (k1, 42, .inl vf)), (a2, .inl (k2, 42, .inr (.inl hf)))]) [1, 2, 3] rfl
          have hDc := hD.sub (ws' := [(w0, .inr (2, [.int full, .ref a1, .ref a2, .int cnt])), (a1, .inl (k1, 42, .inl vf)), (a2, .inl (k2, 42, .inr (.inl hf)))]) [1, 2, 3] (by decide) rfl
          have hKc := hK.sub (tys' := [(k1, .int), (k2, .long)]) [0, 1] rfl
          have hFc := va_free (wc := [(w0, .inr (2, [.int full, .ref a1, .ref a2, .int cnt])), (a1, .inl (k1, 42, .inl vf)), (a2, .inl (k2, 42, .inr (.inl hf)))]) hD hS hA [1, 2, 3] rfl
          obtain ⟨ur9, hc9, h⟩ := gx_bind h
          refine va_callv (va_runV (As := [.int rfrom, .int rto, .int rheat]) (rest := []) ⟨hx, hb, hml, hown, hts⟩ (c_Water_heatBetween N l dC dI w0 a1 a2 k1 k2 H.size full cnt vf hf rfrom rto rheat ur9 hc9) (cwV 3 hts (gx_gV mw_390 mw_470 mw_388 mw_389 mw_32) rfl rfl rfl (by decide +kernel) ⟨Nat.le_of_ble_eq_true rfl, Nat.le_of_ble_eq_true rfl⟩) ⟨fun a U g mk q => by obtain ⟨q0, q1, qP, qK, qD, qE⟩ := q; exact ⟨q0, q1, qP, va_K.moved (u := U) (U := U.calling g mk a) (Vm.Alike.refl U.vm) qK, qD, qE.calls⟩, va_recv hKc hPc (ci := 2) (q0 := 0) rfl rfl, fun U hU hW => ⟨rfl, by rw [hU], by rw [hU]; exact hPc, va_K.moved hW.alike hKc, hDc.weaken (fun _ _ _ _ => trivial), hE.warm hW⟩⟩ rfl rfl hl.1 rfl (lv_room (Nat.le_of_ble_eq_true rfl)) d_Rod_takeTurn_70 ⟨(Nat.zero_le _), (Nat.zero_le _)⟩) hS (fun q _ h => hFc q h) hFc (fun _ t H locs ht hvm hw hB hz1 hk1 hS => ?_)
          obtain ⟨hP1, hK1, hD1⟩ := hB
          rw [ht] at hP1
          obtain ⟨hP, hD⟩ := va_join (wr := [(h0, .inr (3, [.int rfrom, .int rto, .int rheat, .int rsens, .int rlow, .int rhigh, .int 1, .long rgiven, .int rmin]))]) (w1 := [(w0, .inr (2, [.int full, .ref a1, .ref a2, .int ur9.1])), (a1, .inl (k1, 42, .inl ur9.2.1)), (a2, .inl (k2, 42, .inr (.inl ur9.2.2)))]) hP hD [1, 2, 3] [0] rfl rfl (by decide) (by decide) hk1 hFc hP1 hD1
          have hP : va_P (dC, dI) classes [(h0, .inr (3, [.int rfrom, .int rto, .int rheat, .int rsens, .int rlow, .int rhigh, .int 1, .long rgiven, .int rmin])), (w0, .inr (2, [.int full, .ref a1, .ref a2, .int ur9.1])), (a1, .inl (k1, 42, .inl ur9.2.1)), (a2, .inl (k2, 42, .inr (.inl ur9.2.2)))] H := hP
          have hD : va_D A [(h0, .inr (3, [.int rfrom, .int rto, .int rheat, .int rsens, .int rlow, .int rhigh, .int 1, .long rgiven, .int rmin])), (w0, .inr (2, [.int full, .ref a1, .ref a2, .int ur9.1])), (a1, .inl (k1, 42, .inl ur9.2.1)), (a2, .inl (k2, 42, .inr (.inl ur9.2.2)))] := hD
          refine lv_aload_n hx hb d_Rod_takeTurn_73 rfl (lv_at hl 1 rfl) ?_
          refine lv_dup hx hb d_Rod_takeTurn_74 rfl ?_
          refine va_get (D := (dC, dI)) (ci := 3) (v := .long rgiven) (C := R_Rod) (T := F_Rod) (N := 9) hx hb hts (gx_in i_Rod) hown hK hP 0 rfl rfl 7 (by decide) (hts _ (gx_w mw_204)) (fun _ h9 => h9) rfl d_Rod_takeTurn_75 ?_
          refine lv_aload_n hx hb d_Rod_takeTurn_78 rfl (lv_at hl 1 rfl) ?_
          refine va_get (D := (dC, dI)) (ci := 3) (v := .int rheat) (C := R_Rod) (T := F_Rod) (N := 9) hx hb hts (gx_in i_Rod) hown hK hP 0 rfl rfl 2 (by decide) (hts _ (gx_w mw_198)) (fun _ h9 => h9) rfl d_Rod_takeTurn_79 ?_
          refine lv_i2l (v := rheat.toInt64) hx hb d_Rod_takeTurn_82 rfl ?_
          refine lv_ladd hx hb d_Rod_takeTurn_83 ?_
          refine va_put (D := (dC, dI)) (ci := 3) (v := .long (rgiven + rheat.toInt64)) (ty := .long) (C := R_Rod) (T := F_Rod) (N := 9) hx hb hts (gx_in i_Rod) t_Rod t_Rod_ok n_Rod hown hK hP hD hS 0 rfl rfl 7 (by decide) (hts _ (gx_w mw_204)) (fun _ h9 => h9) rfl (by decide +kernel) rfl rfl (Nat.le_of_ble_eq_true rfl) d_Rod_takeTurn_84 (fun H locs hP hD hS => ?_)
          have hP : va_P (dC, dI) classes [(h0, .inr (3, [.int rfrom, .int rto, .int rheat, .int rsens, .int rlow, .int rhigh, .int 1, .long (rgiven + rheat.toInt64), .int rmin])), (w0, .inr (2, [.int full, .ref a1, .ref a2, .int ur9.1])), (a1, .inl (k1, 42, .inl ur9.2.1)), (a2, .inl (k2, 42, .inr (.inl ur9.2.2)))] H := hP
          have hD : va_D A [(h0, .inr (3, [.int rfrom, .int rto, .int rheat, .int rsens, .int rlow, .int rhigh, .int 1, .long (rgiven + rheat.toInt64), .int rmin])), (w0, .inr (2, [.int full, .ref a1, .ref a2, .int ur9.1])), (a1, .inl (k1, 42, .inl ur9.2.1)), (a2, .inl (k2, 42, .inr (.inl ur9.2.2)))] := hD
          refine lv_aload_n hx hb d_Rod_takeTurn_87 rfl (lv_at hl 1 rfl) ?_
          refine lv_dup hx hb d_Rod_takeTurn_88 rfl ?_
          refine va_get (D := (dC, dI)) (ci := 3) (v := .int rmin) (C := R_Rod) (T := F_Rod) (N := 9) hx hb hts (gx_in i_Rod) hown hK hP 0 rfl rfl 8 (by decide) (hts _ (gx_w mw_206)) (fun _ h9 => h9) rfl d_Rod_takeTurn_89 ?_
          refine lv_iconst (v := 1) hx hb d_Rod_takeTurn_92 (by decide) ?_
          refine lv_iadd hx hb d_Rod_takeTurn_93 ?_
          refine va_put (D := (dC, dI)) (ci := 3) (v := .int (rmin + 1)) (ty := .int) (C := R_Rod) (T := F_Rod) (N := 9) hx hb hts (gx_in i_Rod) t_Rod t_Rod_ok n_Rod hown hK hP hD hS 0 rfl rfl 8 (by decide) (hts _ (gx_w mw_206)) (fun _ h9 => h9) rfl (by decide +kernel) rfl rfl (Nat.le_of_ble_eq_true rfl) d_Rod_takeTurn_94 (fun H locs hP hD hS => ?_)
          have hP : va_P (dC, dI) classes [(h0, .inr (3, [.int rfrom, .int rto, .int rheat, .int rsens, .int rlow, .int rhigh, .int 1, .long (rgiven + rheat.toInt64), .int (rmin + 1)])), (w0, .inr (2, [.int full, .ref a1, .ref a2, .int ur9.1])), (a1, .inl (k1, 42, .inl ur9.2.1)), (a2, .inl (k2, 42, .inr (.inl ur9.2.2)))] H := hP
          have hD : va_D A [(h0, .inr (3, [.int rfrom, .int rto, .int rheat, .int rsens, .int rlow, .int rhigh, .int 1, .long (rgiven + rheat.toInt64), .int (rmin + 1)])), (w0, .inr (2, [.int full, .ref a1, .ref a2, .int ur9.1])), (a1, .inl (k1, 42, .inl ur9.2.1)), (a2, .inl (k2, 42, .inr (.inl ur9.2.2)))] := hD
          rw [← Option.some.inj h]
          have hP9 := hP
          have hD9 := hD
          exact W.vret hx hb hr (fun t ht hW => ⟨⟨(), rfl, trivial, ⟨by rw [ht]; exact hP9, va_K.moved hW.alike hK, hD9⟩⟩, hS.F ht⟩) hS.2.2 d_Rod_takeTurn_97
    · replace h := gx_pos c1 h
      rw [← Option.some.inj h]
      have hP9 := hP
      have hD9 := hD
      exact W.vret hx hb hr (fun t ht hW => ⟨⟨(), rfl, trivial, ⟨by rw [ht]; exact hP9, va_K.moved hW.alike hK, hD9⟩⟩, hS.F ht⟩) hS.2.2 d_Rod_takeTurn_7
  have hl := lv_entry ([.ref h0, .ref w0]) (n := 4) (Nat.le_of_ble_eq_true rfl)
  rw [lg_entry_eq]
  generalize (lg_sl ([.ref h0, .ref w0]) ++ List.replicate (4 - (lg_sl ([.ref h0, .ref w0])).length) Slot.unset).toArray = ls at hl ⊢
  exact key _ _ hP hD va_S.rf ls hl
def fn_Loss_coolDown (N : Nat) (lamb : Int32) (labv : Int32) (lbel : Int32) (llost : Int64) (full : Int32) (cnt : Int32) (vf : Nat → Int32) (hf : Nat → Int64) : Option (Int64 × Int32 × (Nat → Int32) × (Nat → Int64)) :=
  if labv ≤ 0 then some (llost, cnt, vf, hf) else (fn_Water_loseHeat N lamb labv lbel full cnt vf hf).bind (fun ur2 => some (llost + ur2.1, ur2.2.1, ur2.2.2.1, ur2.2.2.2))
def w_Loss_coolDown : List Cond := .code y_Loss_coolDown b_Loss_coolDown 2 none :: gx_W
set_option maxHeartbeats 4000000 in
set_option maxRecDepth 100000 in
theorem c_Loss_coolDown (N : Nat) (l : Launch) (dC : Nat → ClassId) (dI : Nat → Nat → Nat) (h0 : Nat) (w0 : Nat) (a1 : Nat) (a2 : Nat) (k1 : ClassId) (k2 : ClassId) (sz : Nat) (lamb : Int32) (labv : Int32) (lbel : Int32) (llost : Int64) (full : Int32) (cnt : Int32) (vf : Nat → Int32) (hf : Nat → Int64) (w0 : Nat) (res : Int64 × Int32 × (Nat → Int32) × (Nat → Int64)) (h : fn_Loss_coolDown N lamb labv lbel llost full cnt vf hf = some res) : Met l y_Loss_coolDown w_Loss_coolDown ({ frames := 4, cells := 0, slots := 0, locals := 94 } : Room) (va_Pc [.ref h0, .ref w0] (fun U => U.heap.size = sz ∧ va_P (dC, dI) classes [(h0, .inr (4, [.int lamb, .int labv, .int lbel, .long llost])), (w0, .inr (2, [.int full, .ref a1, .ref a2, .int cnt])), (a1, .inl (k1, 42, .inl vf)), (a2, .inl (k2, 42, .inr (.inl hf)))] U.heap ∧ va_K (dC, dI) classes [(k1, .int), (k2, .long)] U ∧ va_D (fun _ => True) [(h0, .inr (4, [.int lamb, .int labv, .int lbel, .long llost])), (w0, .inr (2, [.int full, .ref a1, .ref a2, .int cnt])), (a1, .inl (k1, 42, .inl vf)), (a2, .inl (k2, 42, .inr (.inl hf)))] ∧ gx_E U)) (va_Qv (fun _ : Unit => True) (fun _ t => va_P (dC, dI) classes [(h0, .inr (4, [.int lamb, .int labv, .int lbel, .long res.1])), (w0, .inr (2, [.int full, .ref a1, .ref a2, .int res.2.1])), (a1, .inl (k1, 42, .inl res.2.2.1)), (a2, .inl (k2, 42, .inr (.inl res.2.2.2)))] t.heap ∧ va_K (dC, dI) classes [(k1, .int), (k2, .long)] t ∧ va_D (va_A [(h0, .inr (4, [.int lamb, .int labv, .int lbel, .long llost])), (w0, .inr (2, [.int full, .ref a1, .ref a2, .int cnt])), (a1, .inl (k1, 42, .inl vf)), (a2, .inl (k2, 42, .inr (.inl hf)))] sz) [(h0, .inr (4, [.int lamb, .int labv, .int lbel, .long res.1])), (w0, .inr (2, [.int full, .ref a1, .ref a2, .int res.2.1])), (a1, .inl (k1, 42, .inl res.2.2.1)), (a2, .inl (k2, 42, .inr (.inl res.2.2.2)))]) (va_A [(h0, .inr (4, [.int lamb, .int labv, .int lbel, .long llost])), (w0, .inr (2, [.int full, .ref a1, .ref a2, .int cnt])), (a1, .inl (k1, 42, .inl vf)), (a2, .inl (k2, 42, .inr (.inl hf)))] sz)) 0 0 (va_A [(h0, .inr (4, [.int lamb, .int labv, .int lbel, .long llost])), (w0, .inr (2, [.int full, .ref a1, .ref a2, .int cnt])), (a1, .inl (k1, 42, .inl vf)), (a2, .inl (k2, 42, .inr (.inl hf)))] sz) := by
  refine Met.ofW (cc := b_Loss_coolDown) (maxL := 2) (ret := none) (by decide) rfl ?_
  intro p e s m args below meth c s₁ B hml hv
  obtain ⟨rfl, hsz, hP, hK, hD0, hE⟩ := hv
  have hx := B.exec
  have hb := B.bytes
  have hr := B.returns
  have hts := atoms_spec (ws := w_Loss_coolDown) B.pre
  have hown : s.vm.findClass R_Loss = some m.cls := findClass_of_methodNamed B.named
  have hlocks := B.notSynchronized
  subst hsz
  have hD := hD0.self (sz := s.heap.size)
  generalize hAe : va_A [(h0, .inr (4, [.int lamb, .int labv, .int lbel, .long llost])), (w0, .inr (2, [.int full, .ref a1, .ref a2, .int cnt])), (a1, .inl (k1, 42, .inl vf)), (a2, .inl (k2, 42, .inr (.inl hf)))] s.heap.size = A at hD ⊢
  have hA : ∀ q : Nat, s.heap.size ≤ q → A q := fun q h => by rw [← hAe]; exact Or.inr h
  clear hAe hD0
  have key : ∀ (H : Heap) (locs : List Loc), va_P (dC, dI) classes [(h0, .inr (4, [.int lamb, .int labv, .int lbel, .long llost])), (w0, .inr (2, [.int full, .ref a1, .ref a2, .int cnt])), (a1, .inl (k1, 42, .inl vf)), (a2, .inl (k2, 42, .inr (.inl hf)))] H → va_D A [(h0, .inr (4, [.int lamb, .int labv, .int lbel, .long llost])), (w0, .inr (2, [.int full, .ref a1, .ref a2, .int cnt])), (a1, .inl (k1, 42, .inl vf)), (a2, .inl (k2, 42, .inr (.inl hf)))] → va_S A s.heap H locs → ∀ (ls : Array Slot), lv_has ls 2 [(0, .ref h0), (1, .ref w0)] → W p l e ({ frames := 4, cells := 0, slots := 0, locals := 94 } : Room) s m ([.ref h0, .ref w0] : List Value).toArray below meth c H locs 0 0 (MQ below (va_Qv (fun _ : Unit => True) (fun _ t => va_P (dC, dI) classes [(h0, .inr (4, [.int lamb, .int labv, .int lbel, .long res.1])), (w0, .inr (2, [.int full, .ref a1, .ref a2, .int res.2.1])), (a1, .inl (k1, 42, .inl res.2.2.1)), (a2, .inl (k2, 42, .inr (.inl res.2.2.2)))] t.heap ∧ va_K (dC, dI) classes [(k1, .int), (k2, .long)] t ∧ va_D A [(h0, .inr (4, [.int lamb, .int labv, .int lbel, .long res.1])), (w0, .inr (2, [.int full, .ref a1, .ref a2, .int res.2.1])), (a1, .inl (k1, 42, .inl res.2.2.1)), (a2, .inl (k2, 42, .inr (.inl res.2.2.2)))]) A) ([.ref h0, .ref w0] : List Value).toArray s 0 0 A) (F0 m 0 ls []) := by
    intro H locs hP hD hS ls hl
    unfold fn_Loss_coolDown at h
    refine lv_aload_n hx hb d_Loss_coolDown_0 rfl (lv_at hl 0 rfl) ?_
    refine va_get (D := (dC, dI)) (ci := 4) (v := .int labv) (C := R_Loss) (T := F_Loss) (N := 4) hx hb hts (gx_in i_Loss) hown hK hP 0 rfl rfl 1 (by decide) (hts _ (gx_w mw_235)) (fun _ h9 => h9) rfl d_Loss_coolDown_1 ?_
    refine lv_if_le (tgt := 32) hx hb d_Loss_coolDown_4 (by decide) (fun c1 => ?_) (fun c1 => ?_)
    · replace h := gx_pos c1 h
      rw [← Option.some.inj h]
      have hP9 := hP
      have hD9 := hD
      exact W.vret hx hb hr (fun t ht hW => ⟨⟨(), rfl, trivial, ⟨by rw [ht]; exact hP9, va_K.moved hW.alike hK, hD9⟩⟩, hS.F ht⟩) hS.2.2 d_Loss_coolDown_32
    · replace h := gx_neg c1 h
      refine lv_aload_n hx hb d_Loss_coolDown_7 rfl (lv_at hl 0 rfl) ?_
      refine lv_dup hx hb d_Loss_coolDown_8 rfl ?_
      refine va_get (D := (dC, dI)) (ci := 4) (v := .long llost) (C := R_Loss) (T := F_Loss) (N := 4) hx hb hts (gx_in i_Loss) hown hK hP 0 rfl rfl 3 (by decide) (hts _ (gx_w mw_239)) (fun _ h9 => h9) rfl d_Loss_coolDown_9 ?_
      refine lv_aload_n hx hb d_Loss_coolDown_12 rfl (lv_at hl 1 rfl) ?_
      refine lv_aload_n hx hb d_Loss_coolDown_13 rfl (lv_at hl 0 rfl) ?_
      refine va_get (D := (dC, dI)) (ci := 4) (v := .int lamb) (C := R_Loss) (T := F_Loss) (N := 4) hx hb hts (gx_in i_Loss) hown hK hP 0 rfl rfl 0 (by decide) (hts _ (gx_w mw_233)) (fun _ h9 => h9) rfl d_Loss_coolDown_14 ?_
      refine lv_aload_n hx hb d_Loss_coolDown_17 rfl (lv_at hl 0 rfl) ?_
      refine va_get (D := (dC, dI)) (ci := 4) (v := .int labv) (C := R_Loss) (T := F_Loss) (N := 4) hx hb hts (gx_in i_Loss) hown hK hP 0 rfl rfl 1 (by decide) (hts _ (gx_w mw_235)) (fun _ h9 => h9) rfl d_Loss_coolDown_18 ?_
      refine lv_aload_n hx hb d_Loss_coolDown_21 rfl (lv_at hl 0 rfl) ?_
      refine va_get (D := (dC, dI)) (ci := 4) (v := .int lbel) (C := R_Loss) (T := F_Loss) (N := 4) hx hb hts (gx_in i_Loss) hown hK hP 0 rfl rfl 2 (by decide) (hts _ (gx_w mw_237)) (fun _ h9 => h9) rfl d_Loss_coolDown_22 ?_
      have hPc := hP.sub (ws' := [(w0, .inr (2, [.int full, .ref a1, .ref a2, .int cnt])), (a1, .inl (k1, 42, .inl vf)), (a2, .inl (k2, 42, .inr (.inl hf)))]) [1, 2, 3] rfl
      have hDc := hD.sub (ws' := [(w0, .inr (2, [.int full, .ref a1, .ref a2, .int cnt])), (a1, .inl (k1, 42, .inl vf)), (a2, .inl (k2, 42, .inr (.inl hf)))]) [1, 2, 3] (by decide) rfl
      have hKc := hK.sub (tys' := [(k1, .int), (k2, .long)]) [0, 1] rfl
      have hFc := va_free (wc := [(w0, .inr (2, [.int full, .ref a1, .ref a2, .int cnt])), (a1, .inl (k1, 42, .inl vf)), (a2, .inl (k2, 42, .inr (.inl hf)))]) hD hS hA [1, 2, 3] rfl
      obtain ⟨ur2, hc2, h⟩ := gx_bind h
      refine va_calll (va_runV (As := [.int lamb, .int labv, .int lbel]) (rest := [.long llost, .ref h0]) ⟨hx, hb, hml, hown, hts⟩ (c_Water_loseHeat N l dC dI w0 a1 a2 k1 k2 H.size full cnt vf hf lamb labv lbel ur2 hc2) (cwV 3 hts (gx_gV mw_478 mw_475 mw_476 mw_477 mw_32) rfl rfl rfl (by decide +kernel) ⟨Nat.le_of_ble_eq_true rfl, Nat.le_of_ble_eq_true rfl⟩) ⟨fun a U g mk q => by obtain ⟨q0, q1, qP, qK, qD, qE⟩ := q; exact ⟨q0, q1, qP, va_K.moved (u := U) (U := U.calling g mk a) (Vm.Alike.refl U.vm) qK, qD, qE.calls⟩, va_recv hKc hPc (ci := 2) (q0 := 0) rfl rfl, fun U hU hW => ⟨rfl, by rw [hU], by rw [hU]; exact hPc, va_K.moved hW.alike hKc, hDc.weaken (fun _ _ _ _ => trivial), hE.warm hW⟩⟩ rfl rfl hl.1 rfl (lv_room (Nat.le_of_ble_eq_true rfl)) d_Loss_coolDown_25 ⟨(Nat.zero_le _), (Nat.zero_le _)⟩) hS (fun q _ h => hFc q h) hFc (fun r2 _ t H locs ht hvm hw hB hz1 hk1 hS => ?_)
      obtain ⟨hP1, hK1, hD1⟩ := hB
      rw [ht] at hP1
      rw [hw]
      obtain ⟨hP, hD⟩ := va_join (wr := [(h0, .inr (4, [.int lamb, .int labv, .int lbel, .long llost]))]) (w1 := [(w0, .inr (2, [.int full, .ref a1, .ref a2, .int ur2.2.1])), (a1, .inl (k1, 42, .inl ur2.2.2.1)), (a2, .inl (k2, 42, .inr (.inl ur2.2.2.2)))]) hP hD [1, 2, 3] [0] rfl rfl (by decide) (by decide) hk1 hFc hP1 hD1
      have hP : va_P (dC, dI) classes [(h0, .inr (4, [.int lamb, .int labv, .int lbel, .long llost])), (w0, .inr (2, [.int full, .ref a1, .ref a2, .int ur2.2.1])), (a1, .inl (k1, 42, .inl ur2.2.2.1)), (a2, .inl (k2, 42, .inr (.inl ur2.2.2.2)))] H := hP
      have hD : va_D A [(h0, .inr (4, [.int lamb, .int labv, .int lbel, .long llost])), (w0, .inr (2, [.int full, .ref a1, .ref a2, .int ur2.2.1])), (a1, .inl (k1, 42, .inl ur2.2.2.1)), (a2, .inl (k2, 42, .inr (.inl ur2.2.2.2)))] := hD
      refine lv_ladd hx hb d_Loss_coolDown_28 ?_
      refine va_put (D := (dC, dI)) (ci := 4) (v := .long (llost + ur2.1)) (ty := .long) (C := R_Loss) (T := F_Loss) (N := 4) hx hb hts (gx_in i_Loss) t_Loss t_Loss_ok n_Loss hown hK hP hD hS 0 rfl rfl 3 (by decide) (hts _ (gx_w mw_239)) (fun _ h9 => h9) rfl (by decide +kernel) rfl rfl (Nat.le_of_ble_eq_true rfl) d_Loss_coolDown_29 (fun H locs hP hD hS => ?_)
      have hP : va_P (dC, dI) classes [(h0, .inr (4, [.int lamb, .int labv, .int lbel, .long (llost + ur2.1)])), (w0, .inr (2, [.int full, .ref a1, .ref a2, .int ur2.2.1])), (a1, .inl (k1, 42, .inl ur2.2.2.1)), (a2, .inl (k2, 42, .inr (.inl ur2.2.2.2)))] H := hP
      have hD : va_D A [(h0, .inr (4, [.int lamb, .int labv, .int lbel, .long (llost + ur2.1)])), (w0, .inr (2, [.int full, .ref a1, .ref a2, .int ur2.2.1])), (a1, .inl (k1, 42, .inl ur2.2.2.1)), (a2, .inl (k2, 42, .inr (.inl ur2.2.2.2)))] := hD
      rw [← Option.some.inj h]
      have hP9 := hP
      have hD9 := hD
      exact W.vret hx hb hr (fun t ht hW => ⟨⟨(), rfl, trivial, ⟨by rw [ht]; exact hP9, va_K.moved hW.alike hK, hD9⟩⟩, hS.F ht⟩) hS.2.2 d_Loss_coolDown_32
  have hl := lv_entry ([.ref h0, .ref w0]) (n := 2) (Nat.le_of_ble_eq_true rfl)
  rw [lg_entry_eq]
  generalize (lg_sl ([.ref h0, .ref w0]) ++ List.replicate (2 - (lg_sl ([.ref h0, .ref w0])).length) Slot.unset).toArray = ls at hl ⊢
  exact key _ _ hP hD va_S.rf ls hl
