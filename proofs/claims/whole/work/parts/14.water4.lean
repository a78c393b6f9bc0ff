theorem mw_317 : (Cond.code y_Water_takeFromAbove b_Water_takeFromAbove 5 (some .long)) ∈ gx_W := List.mem_filter.mpr ⟨List.mem_of_getElem? (i := 317) (by decide +kernel), by decide +kernel⟩
theorem mw_314 : (Cond.methodLink R_Water 26 y_Water_takeFromAbove) ∈ gx_W := List.mem_filter.mpr ⟨List.mem_of_getElem? (i := 314) (by decide +kernel), by decide +kernel⟩
theorem mw_315 : (Cond.instanceMethod y_Water_takeFromAbove) ∈ gx_W := List.mem_filter.mpr ⟨List.mem_of_getElem? (i := 315) (by decide +kernel), by decide +kernel⟩
theorem mw_316 : (Cond.selects R_Water y_Water_takeFromAbove y_Water_takeFromAbove) ∈ gx_W := List.mem_filter.mpr ⟨List.mem_of_getElem? (i := 316) (by decide +kernel), by decide +kernel⟩
theorem mw_338 : (Cond.code y_Math_min b_Math_min 2 (some .int)) ∈ gx_W := List.mem_filter.mpr ⟨List.mem_of_getElem? (i := 338) (by decide +kernel), by decide +kernel⟩
theorem mw_336 : (Cond.methodLink R_Water 30 y_Math_min) ∈ gx_W := List.mem_filter.mpr ⟨List.mem_of_getElem? (i := 336) (by decide +kernel), by decide +kernel⟩
theorem mw_337 : (Cond.static y_Math_min) ∈ gx_W := List.mem_filter.mpr ⟨List.mem_of_getElem? (i := 337) (by decide +kernel), by decide +kernel⟩
theorem mw_342 : (Cond.code y_Water_comeIn b_Water_comeIn 5 none) ∈ gx_W := List.mem_filter.mpr ⟨List.mem_of_getElem? (i := 342) (by decide +kernel), by decide +kernel⟩
theorem mw_339 : (Cond.methodLink R_Water 36 y_Water_comeIn) ∈ gx_W := List.mem_filter.mpr ⟨List.mem_of_getElem? (i := 339) (by decide +kernel), by decide +kernel⟩
theorem mw_340 : (Cond.instanceMethod y_Water_comeIn) ∈ gx_W := List.mem_filter.mpr ⟨List.mem_of_getElem? (i := 340) (by decide +kernel), by decide +kernel⟩
theorem mw_341 : (Cond.selects R_Water y_Water_comeIn y_Water_comeIn) ∈ gx_W := List.mem_filter.mpr ⟨List.mem_of_getElem? (i := 341) (by decide +kernel), by decide +kernel⟩
theorem d_Water_takeFromBelow_0 : decode b_Water_takeFromBelow 0 = .ok (.aload_n 0, 1) := by decide +kernel
theorem d_Water_takeFromBelow_1 : decode b_Water_takeFromBelow 1 = .ok (.iload_n 1, 1) := by decide +kernel
theorem d_Water_takeFromBelow_2 : decode b_Water_takeFromBelow 2 = .ok (.invokevirtual 40, 3) := by decide +kernel
theorem d_Water_takeFromBelow_5 : decode b_Water_takeFromBelow 5 = .ok (.istore_n 2, 1) := by decide +kernel
theorem d_Water_takeFromBelow_6 : decode b_Water_takeFromBelow 6 = .ok (.aload_n 0, 1) := by decide +kernel
theorem d_Water_takeFromBelow_7 : decode b_Water_takeFromBelow 7 = .ok (.iconst 0, 1) := by decide +kernel
theorem d_Water_takeFromBelow_8 : decode b_Water_takeFromBelow 8 = .ok (.iload_n 2, 1) := by decide +kernel
theorem d_Water_takeFromBelow_9 : decode b_Water_takeFromBelow 9 = .ok (.invokevirtual 44, 3) := by decide +kernel
theorem d_Water_takeFromBelow_12 : decode b_Water_takeFromBelow 12 = .ok (.lstore_n 3, 1) := by decide +kernel
theorem d_Water_takeFromBelow_13 : decode b_Water_takeFromBelow 13 = .ok (.aload_n 0, 1) := by decide +kernel
theorem d_Water_takeFromBelow_14 : decode b_Water_takeFromBelow 14 = .ok (.iload_n 2, 1) := by decide +kernel
theorem d_Water_takeFromBelow_15 : decode b_Water_takeFromBelow 15 = .ok (.invokevirtual 48, 3) := by decide +kernel
theorem d_Water_takeFromBelow_18 : decode b_Water_takeFromBelow 18 = .ok (.lload_n 3, 1) := by decide +kernel
theorem d_Water_takeFromBelow_19 : decode b_Water_takeFromBelow 19 = .ok (.lreturn, 1) := by decide +kernel
theorem d_Water_exchange_0 : decode b_Water_exchange 0 = .ok (.aload_n 0, 1) := by decide +kernel
theorem d_Water_exchange_1 : decode b_Water_exchange 1 = .ok (.iload_n 2, 1) := by decide +kernel
theorem d_Water_exchange_2 : decode b_Water_exchange 2 = .ok (.invokevirtual 26, 3) := by decide +kernel
theorem d_Water_exchange_5 : decode b_Water_exchange 5 = .ok (.lstore 5, 2) := by decide +kernel
theorem d_Water_exchange_7 : decode b_Water_exchange 7 = .ok (.aload_n 0, 1) := by decide +kernel
theorem d_Water_exchange_8 : decode b_Water_exchange 8 = .ok (.iload_n 1, 1) := by decide +kernel
theorem d_Water_exchange_9 : decode b_Water_exchange 9 = .ok (.aload_n 0, 1) := by decide +kernel
theorem d_Water_exchange_10 : decode b_Water_exchange 10 = .ok (.getfield 9, 3) := by decide +kernel
theorem d_Water_exchange_13 : decode b_Water_exchange 13 = .ok (.iload_n 2, 1) := by decide +kernel
theorem d_Water_exchange_14 : decode b_Water_exchange 14 = .ok (.isub, 1) := by decide +kernel
theorem d_Water_exchange_15 : decode b_Water_exchange 15 = .ok (.invokestatic 30, 3) := by decide +kernel
theorem d_Water_exchange_18 : decode b_Water_exchange 18 = .ok (.iload_n 2, 1) := by decide +kernel
theorem d_Water_exchange_19 : decode b_Water_exchange 19 = .ok (.lload_n 3, 1) := by decide +kernel
theorem d_Water_exchange_20 : decode b_Water_exchange 20 = .ok (.invokevirtual 36, 3) := by decide +kernel
theorem d_Water_exchange_23 : decode b_Water_exchange 23 = .ok (.lload 5, 2) := by decide +kernel
theorem d_Water_exchange_25 : decode b_Water_exchange 25 = .ok (.lreturn, 1) := by decide +kernel
theorem d_Water_heatBetween_0 : decode b_Water_heatBetween 0 = .ok (.aload_n 0, 1) := by decide +kernel
theorem d_Water_heatBetween_1 : decode b_Water_heatBetween 1 = .ok (.iload_n 1, 1) := by decide +kernel
theorem d_Water_heatBetween_2 : decode b_Water_heatBetween 2 = .ok (.invokevirtual 40, 3) := by decide +kernel
theorem d_Water_heatBetween_5 : decode b_Water_heatBetween 5 = .ok (.istore 4, 2) := by decide +kernel
theorem d_Water_heatBetween_7 : decode b_Water_heatBetween 7 = .ok (.aload_n 0, 1) := by decide +kernel
theorem d_Water_heatBetween_8 : decode b_Water_heatBetween 8 = .ok (.iload_n 2, 1) := by decide +kernel
theorem d_Water_heatBetween_9 : decode b_Water_heatBetween 9 = .ok (.invokevirtual 40, 3) := by decide +kernel
theorem d_Water_heatBetween_12 : decode b_Water_heatBetween 12 = .ok (.istore 5, 2) := by decide +kernel
theorem d_Water_heatBetween_14 : decode b_Water_heatBetween 14 = .ok (.iload_n 3, 1) := by decide +kernel
theorem d_Water_heatBetween_15 : decode b_Water_heatBetween 15 = .ok (.i2l, 1) := by decide +kernel
theorem d_Water_heatBetween_16 : decode b_Water_heatBetween 16 = .ok (.lstore 6, 2) := by decide +kernel
theorem d_Water_heatBetween_18 : decode b_Water_heatBetween 18 = .ok (.iload 4, 2) := by decide +kernel
theorem d_Water_heatBetween_20 : decode b_Water_heatBetween 20 = .ok (.istore 8, 2) := by decide +kernel
theorem d_Water_heatBetween_22 : decode b_Water_heatBetween 22 = .ok (.iload 8, 2) := by decide +kernel
theorem d_Water_heatBetween_24 : decode b_Water_heatBetween 24 = .ok (.iload 5, 2) := by decide +kernel
theorem d_Water_heatBetween_26 : decode b_Water_heatBetween 26 = .ok (.if_icmp .ge 47, 3) := by decide +kernel
theorem d_Water_heatBetween_29 : decode b_Water_heatBetween 29 = .ok (.iload_n 3, 1) := by decide +kernel
theorem d_Water_heatBetween_30 : decode b_Water_heatBetween 30 = .ok (.i2l, 1) := by decide +kernel
theorem d_Water_heatBetween_31 : decode b_Water_heatBetween 31 = .ok (.aload_n 0, 1) := by decide +kernel
theorem d_Water_heatBetween_32 : decode b_Water_heatBetween 32 = .ok (.getfield 15, 3) := by decide +kernel
theorem d_Water_heatBetween_35 : decode b_Water_heatBetween 35 = .ok (.iload 8, 2) := by decide +kernel
theorem d_Water_heatBetween_37 : decode b_Water_heatBetween 37 = .ok (.iaload, 1) := by decide +kernel
theorem d_Water_heatBetween_38 : decode b_Water_heatBetween 38 = .ok (.i2l, 1) := by decide +kernel
theorem d_Water_heatBetween_39 : decode b_Water_heatBetween 39 = .ok (.iload_n 2, 1) := by decide +kernel
theorem d_Water_heatBetween_40 : decode b_Water_heatBetween 40 = .ok (.iload_n 1, 1) := by decide +kernel
theorem d_Water_heatBetween_41 : decode b_Water_heatBetween 41 = .ok (.isub, 1) := by decide +kernel
theorem d_Water_heatBetween_42 : decode b_Water_heatBetween 42 = .ok (.i2l, 1) := by decide +kernel
theorem d_Water_heatBetween_43 : decode b_Water_heatBetween 43 = .ok (.invokestatic 58, 3) := by decide +kernel
theorem d_Water_heatBetween_46 : decode b_Water_heatBetween 46 = .ok (.lstore 9, 2) := by decide +kernel
theorem d_Water_heatBetween_48 : decode b_Water_heatBetween 48 = .ok (.aload_n 0, 1) := by decide +kernel
theorem d_Water_heatBetween_49 : decode b_Water_heatBetween 49 = .ok (.getfield 19, 3) := by decide +kernel
theorem d_Water_heatBetween_52 : decode b_Water_heatBetween 52 = .ok (.iload 8, 2) := by decide +kernel
theorem d_Water_heatBetween_54 : decode b_Water_heatBetween 54 = .ok (.dup2, 1) := by decide +kernel
theorem d_Water_heatBetween_55 : decode b_Water_heatBetween 55 = .ok (.laload, 1) := by decide +kernel
theorem d_Water_heatBetween_56 : decode b_Water_heatBetween 56 = .ok (.lload 9, 2) := by decide +kernel
theorem d_Water_heatBetween_58 : decode b_Water_heatBetween 58 = .ok (.ladd, 1) := by decide +kernel
theorem d_Water_heatBetween_59 : decode b_Water_heatBetween 59 = .ok (.lastore, 1) := by decide +kernel
theorem d_Water_heatBetween_60 : decode b_Water_heatBetween 60 = .ok (.lload 6, 2) := by decide +kernel
theorem d_Water_heatBetween_62 : decode b_Water_heatBetween 62 = .ok (.lload 9, 2) := by decide +kernel
theorem d_Water_heatBetween_64 : decode b_Water_heatBetween 64 = .ok (.lsub, 1) := by decide +kernel
theorem d_Water_heatBetween_65 : decode b_Water_heatBetween 65 = .ok (.lstore 6, 2) := by decide +kernel
theorem d_Water_heatBetween_67 : decode b_Water_heatBetween 67 = .ok (.iinc 8 1, 3) := by decide +kernel
theorem d_Water_heatBetween_70 : decode b_Water_heatBetween 70 = .ok (.goto (-48), 3) := by decide +kernel
theorem d_Water_heatBetween_73 : decode b_Water_heatBetween 73 = .ok (.iload 5, 2) := by decide +kernel
theorem d_Water_heatBetween_75 : decode b_Water_heatBetween 75 = .ok (.iload 4, 2) := by decide +kernel
theorem d_Water_heatBetween_77 : decode b_Water_heatBetween 77 = .ok (.if_icmp .le 17, 3) := by decide +kernel
theorem d_Water_heatBetween_80 : decode b_Water_heatBetween 80 = .ok (.aload_n 0, 1) := by decide +kernel
theorem d_Water_heatBetween_81 : decode b_Water_heatBetween 81 = .ok (.getfield 19, 3) := by decide +kernel
theorem d_Water_heatBetween_84 : decode b_Water_heatBetween 84 = .ok (.iload 5, 2) := by decide +kernel
theorem d_Water_heatBetween_86 : decode b_Water_heatBetween 86 = .ok (.iconst 1, 1) := by decide +kernel
theorem d_Water_heatBetween_87 : decode b_Water_heatBetween 87 = .ok (.isub, 1) := by decide +kernel
theorem d_Water_heatBetween_88 : decode b_Water_heatBetween 88 = .ok (.dup2, 1) := by decide +kernel
theorem d_Water_heatBetween_89 : decode b_Water_heatBetween 89 = .ok (.laload, 1) := by decide +kernel
theorem d_Water_heatBetween_90 : decode b_Water_heatBetween 90 = .ok (.lload 6, 2) := by decide +kernel
theorem d_Water_heatBetween_92 : decode b_Water_heatBetween 92 = .ok (.ladd, 1) := by decide +kernel
theorem d_Water_heatBetween_93 : decode b_Water_heatBetween 93 = .ok (.lastore, 1) := by decide +kernel
theorem d_Water_heatBetween_94 : decode b_Water_heatBetween 94 = .ok (.aload_n 0, 1) := by decide +kernel
theorem d_Water_heatBetween_95 : decode b_Water_heatBetween 95 = .ok (.invokevirtual 55, 3) := by decide +kernel
theorem d_Water_heatBetween_98 : decode b_Water_heatBetween 98 = .ok (.return_, 1) := by decide +kernel
theorem d_Water_loseHeat_0 : decode b_Water_loseHeat 0 = .ok (.lconst 0, 1) := by decide +kernel
theorem d_Water_loseHeat_1 : decode b_Water_loseHeat 1 = .ok (.lstore 4, 2) := by decide +kernel
theorem d_Water_loseHeat_3 : decode b_Water_loseHeat 3 = .ok (.iconst 0, 1) := by decide +kernel
theorem d_Water_loseHeat_4 : decode b_Water_loseHeat 4 = .ok (.istore 6, 2) := by decide +kernel
theorem d_Water_loseHeat_6 : decode b_Water_loseHeat 6 = .ok (.iload 6, 2) := by decide +kernel
theorem d_Water_loseHeat_8 : decode b_Water_loseHeat 8 = .ok (.aload_n 0, 1) := by decide +kernel
theorem d_Water_loseHeat_9 : decode b_Water_loseHeat 9 = .ok (.getfield 23, 3) := by decide +kernel
theorem d_Water_loseHeat_12 : decode b_Water_loseHeat 12 = .ok (.if_icmp .ge 56, 3) := by decide +kernel
theorem d_Water_loseHeat_15 : decode b_Water_loseHeat 15 = .ok (.aload_n 0, 1) := by decide +kernel
theorem d_Water_loseHeat_16 : decode b_Water_loseHeat 16 = .ok (.getfield 19, 3) := by decide +kernel
theorem d_Water_loseHeat_19 : decode b_Water_loseHeat 19 = .ok (.iload 6, 2) := by decide +kernel
theorem d_Water_loseHeat_21 : decode b_Water_loseHeat 21 = .ok (.laload, 1) := by decide +kernel
theorem d_Water_loseHeat_22 : decode b_Water_loseHeat 22 = .ok (.aload_n 0, 1) := by decide +kernel
theorem d_Water_loseHeat_23 : decode b_Water_loseHeat 23 = .ok (.getfield 15, 3) := by decide +kernel
theorem d_Water_loseHeat_26 : decode b_Water_loseHeat 26 = .ok (.iload 6, 2) := by decide +kernel
theorem d_Water_loseHeat_28 : decode b_Water_loseHeat 28 = .ok (.iaload, 1) := by decide +kernel
theorem d_Water_loseHeat_29 : decode b_Water_loseHeat 29 = .ok (.i2l, 1) := by decide +kernel
theorem d_Water_loseHeat_30 : decode b_Water_loseHeat 30 = .ok (.iload_n 1, 1) := by decide +kernel
theorem d_Water_loseHeat_31 : decode b_Water_loseHeat 31 = .ok (.i2l, 1) := by decide +kernel
theorem d_Water_loseHeat_32 : decode b_Water_loseHeat 32 = .ok (.lmul, 1) := by decide +kernel
theorem d_Water_loseHeat_33 : decode b_Water_loseHeat 33 = .ok (.lsub, 1) := by decide +kernel
theorem d_Water_loseHeat_34 : decode b_Water_loseHeat 34 = .ok (.iload_n 2, 1) := by decide +kernel
theorem d_Water_loseHeat_35 : decode b_Water_loseHeat 35 = .ok (.i2l, 1) := by decide +kernel
theorem d_Water_loseHeat_36 : decode b_Water_loseHeat 36 = .ok (.iload_n 3, 1) := by decide +kernel
theorem d_Water_loseHeat_37 : decode b_Water_loseHeat 37 = .ok (.i2l, 1) := by decide +kernel
theorem d_Water_loseHeat_38 : decode b_Water_loseHeat 38 = .ok (.invokestatic 58, 3) := by decide +kernel
theorem d_Water_loseHeat_41 : decode b_Water_loseHeat 41 = .ok (.lstore 7, 2) := by decide +kernel
theorem d_Water_loseHeat_43 : decode b_Water_loseHeat 43 = .ok (.aload_n 0, 1) := by decide +kernel
theorem d_Water_loseHeat_44 : decode b_Water_loseHeat 44 = .ok (.getfield 19, 3) := by decide +kernel
theorem d_Water_loseHeat_47 : decode b_Water_loseHeat 47 = .ok (.iload 6, 2) := by decide +kernel
theorem d_Water_loseHeat_49 : decode b_Water_loseHeat 49 = .ok (.dup2, 1) := by decide +kernel
theorem d_Water_loseHeat_50 : decode b_Water_loseHeat 50 = .ok (.laload, 1) := by decide +kernel
theorem d_Water_loseHeat_51 : decode b_Water_loseHeat 51 = .ok (.lload 7, 2) := by decide +kernel
theorem d_Water_loseHeat_53 : decode b_Water_loseHeat 53 = .ok (.lsub, 1) := by decide +kernel
theorem d_Water_loseHeat_54 : decode b_Water_loseHeat 54 = .ok (.lastore, 1) := by decide +kernel
theorem d_Water_loseHeat_55 : decode b_Water_loseHeat 55 = .ok (.lload 4, 2) := by decide +kernel
theorem d_Water_loseHeat_57 : decode b_Water_loseHeat 57 = .ok (.lload 7, 2) := by decide +kernel
theorem d_Water_loseHeat_59 : decode b_Water_loseHeat 59 = .ok (.ladd, 1) := by decide +kernel
theorem d_Water_loseHeat_60 : decode b_Water_loseHeat 60 = .ok (.lstore 4, 2) := by decide +kernel
theorem d_Water_loseHeat_62 : decode b_Water_loseHeat 62 = .ok (.iinc 6 1, 3) := by decide +kernel
theorem d_Water_loseHeat_65 : decode b_Water_loseHeat 65 = .ok (.goto (-59), 3) := by decide +kernel
theorem d_Water_loseHeat_68 : decode b_Water_loseHeat 68 = .ok (.aload_n 0, 1) := by decide +kernel
theorem d_Water_loseHeat_69 : decode b_Water_loseHeat 69 = .ok (.invokevirtual 55, 3) := by decide +kernel
theorem d_Water_loseHeat_72 : decode b_Water_loseHeat 72 = .ok (.lload 4, 2) := by decide +kernel
theorem d_Water_loseHeat_74 : decode b_Water_loseHeat 74 = .ok (.lreturn, 1) := by decide +kernel
def fn_Water_takeFromBelow (N : Nat) (p1 : Int32) (full : Int32) (cnt : Int32) (vf : Nat → Int32) (hf : Nat → Int64) : Option (Int64 × Int32 × (Nat → Int32) × (Nat → Int64)) :=
  (fn_Water_cutAt N p1 full cnt vf hf).bind (fun ur1 => (fn_Water_heatOfLayers N 0 ur1.1 full ur1.2.1 ur1.2.2.1 ur1.2.2.2).bind (fun ur2 => (fn_Water_dropLowest N ur1.1 full ur1.2.1 ur1.2.2.1 ur1.2.2.2).bind (fun ur3 => some (ur2, ur3.1, ur3.2.1, ur3.2.2))))
def w_Water_takeFromBelow : List Cond := .code y_Water_takeFromBelow b_Water_takeFromBelow 5 (some .long) :: gx_W
set_option maxHeartbeats 4000000 in
set_option maxRecDepth 100000 in
theorem c_Water_takeFromBelow (N : Nat) (l : Launch) (dC : Nat → ClassId) (dI : Nat → Nat → Nat) (h0 : Nat) (a1 : Nat) (a2 : Nat) (k1 : ClassId) (k2 : ClassId) (sz : Nat) (full : Int32) (cnt : Int32) (vf : Nat → Int32) (hf : Nat → Int64) (p1 : Int32) (res : Int64 × Int32 × (Nat → Int32) × (Nat → Int64)) (h : fn_Water_takeFromBelow N p1 full cnt vf hf = some res) : Met l y_Water_takeFromBelow w_Water_takeFromBelow ({ frames := 3, cells := 0, slots := 0, locals := 76 } : Room) (va_Pc [.ref h0, .int p1] (fun U => U.heap.size = sz ∧ va_P (dC, dI) classes [(h0, .inr (2, [.int full, .ref a1, .ref a2, .int cnt])), (a1, .inl (k1, 42, .inl vf)), (a2, .inl (k2, 42, .inr (.inl hf)))] U.heap ∧ va_K (dC, dI) classes [(k1, .int), (k2, .long)] U ∧ va_D (fun _ => True) [(h0, .inr (2, [.int full, .ref a1, .ref a2, .int cnt])), (a1, .inl (k1, 42, .inl vf)), (a2, .inl (k2, 42, .inr (.inl hf)))] ∧ gx_E U)) (va_Ql (fun (r : Int64) (_ : Unit) => r = res.1) (fun _ t => va_P (dC, dI) classes [(h0, .inr (2, [.int full, .ref a1, .ref a2, .int res.2.1])), (a1, .inl (k1, 42, .inl res.2.2.1)), (a2, .inl (k2, 42, .inr (.inl res.2.2.2)))] t.heap ∧ va_K (dC, dI) classes [(k1, .int), (k2, .long)] t ∧ va_D (va_A [(h0, .inr (2, [.int full, .ref a1, .ref a2, .int cnt])), (a1, .inl (k1, 42, .inl vf)), (a2, .inl (k2, 42, .inr (.inl hf)))] sz) [(h0, .inr (2, [.int full, .ref a1, .ref a2, .int res.2.1])), (a1, .inl (k1, 42, .inl res.2.2.1)), (a2, .inl (k2, 42, .inr (.inl res.2.2.2)))]) (va_A [(h0, .inr (2, [.int full, .ref a1, .ref a2, .int cnt])), (a1, .inl (k1, 42, .inl vf)), (a2, .inl (k2, 42, .inr (.inl hf)))] sz)) 0 0 (va_A [(h0, .inr (2, [.int full, .ref a1, .ref a2, .int cnt])), (a1, .inl (k1, 42, .inl vf)), (a2, .inl (k2, 42, .inr (.inl hf)))] sz) := by
  refine Met.ofW (cc := b_Water_takeFromBelow) (maxL := 5) (ret := (some .long)) (by decide) rfl ?_
  intro p e s m args below meth c s₁ B hml hv
  obtain ⟨rfl, hsz, hP, hK, hD0, hE⟩ := hv
  have hx := B.exec
  have hb := B.bytes
  have hr := B.returns
  have hts := atoms_spec (ws := w_Water_takeFromBelow) B.pre
  have hown : s.vm.findClass R_Water = some m.cls := findClass_of_methodNamed B.named
  have hlocks := B.notSynchronized
  subst hsz
  have hD := hD0.self (sz := s.heap.size)
  generalize hAe : va_A [(h0, .inr (2, [.int full, .ref a1, .ref a2, .int cnt])), (a1, .inl (k1, 42, .inl vf)), (a2, .inl (k2, 42, .inr (.inl hf)))] s.heap.size = A at hD ⊢
  have hA : ∀ q : Nat, s.heap.size ≤ q → A q := fun q h => by rw [← hAe]; exact Or.inr h
  clear hAe hD0
  have key : ∀ (H : Heap) (locs : List Loc), va_P (dC, dI) classes [(h0, .inr (2, [.int full, .ref a1, .ref a2, .int cnt])), (a1, .inl (k1, 42, .inl vf)), (a2, .inl (k2, 42, .inr (.inl hf)))] H → va_D A [(h0, .inr (2, [.int full, .ref a1, .ref a2, .int cnt])), (a1, .inl (k1, 42, .inl vf)), (a2, .inl (k2, 42, .inr (.inl hf)))] → va_S A s.heap H locs → ∀ (ls : Array Slot), lv_has ls 5 [(0, .ref h0), (1, .int p1)] → W p l e ({ frames := 3, cells := 0, slots := 0, locals := 76 } : Room) s m ([.ref h0, .int p1] : List Value).toArray below meth c H locs 0 0 (MQ below (va_Ql (fun (r : Int64) (_ : Unit) => r = res.1) (fun _ t => va_P (dC, dI) classes [(h0, .inr (2, [.int full, .ref a1, .ref a2, .int res.2.1])), (a1, .inl (k1, 42, .inl res.2.2.1)), (a2, .inl (k2, 42, .inr (.inl res.2.2.2)))] t.heap ∧ va_K (dC, dI) classes [(k1, .int), (k2, .long)] t ∧ va_D A [(h0, .inr (2, [.int full, .ref a1, .ref a2, .int res.2.1])), (a1, .inl (k1, 42, .inl res.2.2.1)), (a2, .inl (k2, 42, .inr (.inl res.2.2.2)))]) A) ([.ref h0, .int p1] : List Value).toArray s 0 0 A) (F0 m 0 ls []) := by
    intro H locs hP hD hS ls hl
    unfold fn_Water_takeFromBelow at h
    refine lv_aload_n hx hb d_Water_takeFromBelow_0 rfl (lv_at hl 0 rfl) ?_
    refine lv_iload_n hx hb d_Water_takeFromBelow_1 rfl (lv_at hl 1 rfl) ?_
    have hPc := hP.sub (ws' := [(h0, .inr (2, [.int full, .ref a1, .ref a2, .int cnt])), (a1, .inl (k1, 42, .inl vf)), (a2, .inl (k2, 42, .inr (.inl hf)))]) [0, 1, 2] rfl
    have hDc := hD.sub (ws' := [(h0, .inr (2, [.int full, .ref a1, .ref a2, .int cnt])), (a1, .inl (k1, 42, .inl vf)), (a2, .inl (k2, 42, .inr (.inl hf)))]) [0, 1, 2] (by decide) rfl
    have hKc := hK.sub (tys' := [(k1, .int), (k2, .long)]) [0, 1] rfl
    have hFc := va_free (wc := [(h0, .inr (2, [.int full, .ref a1, .ref a2, .int cnt])), (a1, .inl (k1, 42, .inl vf)), (a2, .inl (k2, 42, .inr (.inl hf)))]) hD hS hA [0, 1, 2] rfl
    obtain ⟨ur1, hc1, h⟩ := gx_bind h
    refine va_calli (va_runV (As := [.int p1]) (rest := []) ⟨hx, hb, hml, hown, hts⟩ (c_Water_cutAt N l dC dI h0 a1 a2 k1 k2 H.size full cnt vf hf p1 ur1 hc1) (cwV 1 hts (gx_gV mw_321 mw_318 mw_320 mw_2 mw_32) rfl rfl rfl (by decide +kernel) ⟨Nat.le_of_ble_eq_true rfl, Nat.le_of_ble_eq_true rfl⟩) ⟨fun a U g mk q => by obtain ⟨q0, q1, qP, qK, qD, qE⟩ := q; exact ⟨q0, q1, qP, va_K.moved (u := U) (U := U.calling g mk a) (Vm.Alike.refl U.vm) qK, qD, qE.calls⟩, va_recv hKc hPc (ci := 2) (q0 := 0) rfl rfl, fun U hU hW => ⟨rfl, by rw [hU], by rw [hU]; exact hPc, va_K.moved hW.alike hKc, hDc.weaken (fun _ _ _ _ => trivial), hE.warm hW⟩⟩ rfl rfl hl.1 rfl (lv_room (Nat.le_of_ble_eq_true rfl)) d_Water_takeFromBelow_2 ⟨(Nat.zero_le _), (Nat.zero_le _)⟩) hS (fun q _ h => hFc q h) hFc (fun r1 _ t H locs ht hvm hw hB hz1 hk1 hS => ?_)
    obtain ⟨hP1, hK1, hD1⟩ := hB
    rw [ht] at hP1
    rw [hw]
    obtain ⟨hP, hD⟩ := va_join (wr := []) (w1 := [(h0, .inr (2, [.int full, .ref a1, .ref a2, .int ur1.2.1])), (a1, .inl (k1, 42, .inl ur1.2.2.1)), (a2, .inl (k2, 42, .inr (.inl ur1.2.2.2)))]) hP hD [0, 1, 2] [] rfl rfl (by decide) (by decide) hk1 hFc hP1 hD1
    have hP : va_P (dC, dI) classes [(h0, .inr (2, [.int full, .ref a1, .ref a2, .int ur1.2.1])), (a1, .inl (k1, 42, .inl ur1.2.2.1)), (a2, .inl (k2, 42, .inr (.inl ur1.2.2.2)))] H := hP
    have hD : va_D A [(h0, .inr (2, [.int full, .ref a1, .ref a2, .int ur1.2.1])), (a1, .inl (k1, 42, .inl ur1.2.2.1)), (a2, .inl (k2, 42, .inr (.inl ur1.2.2.2)))] := hD
    refine lv_istore_n (lv' := [(2, .int ur1.1), (0, .ref h0), (1, .int p1)]) hx hb d_Water_takeFromBelow_5 rfl hl (by decide) rfl (fun ls hl => ?_)
    refine lv_aload_n hx hb d_Water_takeFromBelow_6 rfl (lv_at hl 1 rfl) ?_
    refine lv_iconst (v := 0) hx hb d_Water_takeFromBelow_7 (by decide) ?_
    refine lv_iload_n hx hb d_Water_takeFromBelow_8 rfl (lv_at hl 0 rfl) ?_
    have hPc := hP.sub (ws' := [(h0, .inr (2, [.int full, .ref a1, .ref a2, .int ur1.2.1])), (a1, .inl (k1, 42, .inl ur1.2.2.1)), (a2, .inl (k2, 42, .inr (.inl ur1.2.2.2)))]) [0, 1, 2] rfl
    have hDc := hD.sub (ws' := [(h0, .inr (2, [.int full, .ref a1, .ref a2, .int ur1.2.1])), (a1, .inl (k1, 42, .inl ur1.2.2.1)), (a2, .inl (k2, 42, .inr (.inl ur1.2.2.2)))]) [0, 1, 2] (by decide) rfl
    have hKc := hK.sub (tys' := [(k1, .int), (k2, .long)]) [0, 1] rfl
    have hFc := va_free (wc := [(h0, .inr (2, [.int full, .ref a1, .ref a2, .int ur1.2.1])), (a1, .inl (k1, 42, .inl ur1.2.2.1)), (a2, .inl (k2, 42, .inr (.inl ur1.2.2.2)))]) hD hS hA [0, 1, 2] rfl
    obtain ⟨ur2, hc2, h⟩ := gx_bind h
    refine va_calll (va_runV (As := [.int 0, .int ur1.1]) (rest := []) ⟨hx, hb, hml, hown, hts⟩ (c_Water_heatOfLayers N l dC dI h0 a1 a2 k1 k2 H.size full ur1.2.1 ur1.2.2.1 ur1.2.2.2 0 ur1.1 ur2 hc2) (cwV 2 hts (gx_gV mw_335 mw_332 mw_334 mw_4 mw_32) rfl rfl rfl (by decide +kernel) ⟨Nat.le_of_ble_eq_true rfl, Nat.le_of_ble_eq_true rfl⟩) ⟨fun a U g mk q => by obtain ⟨q0, q1, qP, qK, qD, qE⟩ := q; exact ⟨q0, q1, qP, va_K.moved (u := U) (U := U.calling g mk a) (Vm.Alike.refl U.vm) qK, qD, qE.calls⟩, va_recv hKc hPc (ci := 2) (q0 := 0) rfl rfl, fun U hU hW => ⟨rfl, by rw [hU], by rw [hU]; exact hPc, va_K.moved hW.alike hKc, hDc.weaken (fun _ _ _ _ => trivial), hE.warm hW⟩⟩ rfl rfl hl.1 rfl (lv_room (Nat.le_of_ble_eq_true rfl)) d_Water_takeFromBelow_9 ⟨(Nat.zero_le _), (Nat.zero_le _)⟩) hS (fun q _ h => hFc q h) hFc (fun r2 _ t H locs ht hvm hw hB hz1 hk1 hS => ?_)
    obtain ⟨hP1, hK1, hD1⟩ := hB
    rw [ht] at hP1
    rw [hw]
    obtain ⟨hP, hD⟩ := va_join (wr := []) (w1 := [(h0, .inr (2, [.int full, .ref a1, .ref a2, .int ur1.2.1])), (a1, .inl (k1, 42, .inl ur1.2.2.1)), (a2, .inl (k2, 42, .inr (.inl ur1.2.2.2)))]) hP hD [0, 1, 2] [] rfl rfl (by decide) (by decide) hk1 hFc hP1 hD1
    have hP : va_P (dC, dI) classes [(h0, .inr (2, [.int full, .ref a1, .ref a2, .int ur1.2.1])), (a1, .inl (k1, 42, .inl ur1.2.2.1)), (a2, .inl (k2, 42, .inr (.inl ur1.2.2.2)))] H := hP
    have hD : va_D A [(h0, .inr (2, [.int full, .ref a1, .ref a2, .int ur1.2.1])), (a1, .inl (k1, 42, .inl ur1.2.2.1)), (a2, .inl (k2, 42, .inr (.inl ur1.2.2.2)))] := hD
    refine lv_lstore_n (lv' := [(3, .long ur2), (2, .int ur1.1), (0, .ref h0), (1, .int p1)]) hx hb d_Water_takeFromBelow_12 rfl hl (by decide) rfl (fun ls hl => ?_)
    refine lv_aload_n hx hb d_Water_takeFromBelow_13 rfl (lv_at hl 2 rfl) ?_
    refine lv_iload_n hx hb d_Water_takeFromBelow_14 rfl (lv_at hl 1 rfl) ?_
    have hPc := hP.sub (ws' := [(h0, .inr (2, [.int full, .ref a1, .ref a2, .int ur1.2.1])), (a1, .inl (k1, 42, .inl ur1.2.2.1)), (a2, .inl (k2, 42, .inr (.inl ur1.2.2.2)))]) [0, 1, 2] rfl
    have hDc := hD.sub (ws' := [(h0, .inr (2, [.int full, .ref a1, .ref a2, .int ur1.2.1])), (a1, .inl (k1, 42, .inl ur1.2.2.1)), (a2, .inl (k2, 42, .inr (.inl ur1.2.2.2)))]) [0, 1, 2] (by decide) rfl
    have hKc := hK.sub (tys' := [(k1, .int), (k2, .long)]) [0, 1] rfl
    have hFc := va_free (wc := [(h0, .inr (2, [.int full, .ref a1, .ref a2, .int ur1.2.1])), (a1, .inl (k1, 42, .inl ur1.2.2.1)), (a2, .inl (k2, 42, .inr (.inl ur1.2.2.2)))]) hD hS hA [0, 1, 2] rfl
    obtain ⟨ur3, hc3, h⟩ := gx_bind h
    refine va_callv (va_runV (As := [.int ur1.1]) (rest := []) ⟨hx, hb, hml, hown, hts⟩ (c_Water_dropLowest N l dC dI h0 a1 a2 k1 k2 H.size full ur1.2.1 ur1.2.2.1 ur1.2.2.2 ur1.1 ur3 hc3) (cwV 1 hts (gx_gV mw_358 mw_355 mw_357 mw_8 mw_32) rfl rfl rfl (by decide +kernel) ⟨Nat.le_of_ble_eq_true rfl, Nat.le_of_ble_eq_true rfl⟩) ⟨fun a U g mk q => by obtain ⟨q0, q1, qP, qK, qD, qE⟩ := q; exact ⟨q0, q1, qP, va_K.moved (u := U) (U := U.calling g mk a) (Vm.Alike.refl U.vm) qK, qD, qE.calls⟩, va_recv hKc hPc (ci := 2) (q0 := 0) rfl rfl, fun U hU hW => ⟨rfl, by rw [hU], by rw [hU]; exact hPc, va_K.moved hW.alike hKc, hDc.weaken (fun _ _ _ _ => trivial), hE.warm hW⟩⟩ rfl rfl hl.1 rfl (lv_room (Nat.le_of_ble_eq_true rfl)) d_Water_takeFromBelow_15 ⟨(Nat.zero_le _), (Nat.zero_le _)⟩) hS (fun q _ h => hFc q h) hFc (fun _ t H locs ht hvm hw hB hz1 hk1 hS => ?_)
    obtain ⟨hP1, hK1, hD1⟩ := hB
    rw [ht] at hP1
    obtain ⟨hP, hD⟩ := va_join (wr := []) (w1 := [(h0, .inr (2, [.int full, .ref a1, .ref a2, .int ur3.1])), (a1, .inl (k1, 42, .inl ur3.2.1)), (a2, .inl (k2, 42, .inr (.inl ur3.2.2)))]) hP hD [0, 1, 2] [] rfl rfl (by decide) (by decide) hk1 hFc hP1 hD1
    have hP : va_P (dC, dI) classes [(h0, .inr (2, [.int full, .ref a1, .ref a2, .int ur3.1])), (a1, .inl (k1, 42, .inl ur3.2.1)), (a2, .inl (k2, 42, .inr (.inl ur3.2.2)))] H := hP
    have hD : va_D A [(h0, .inr (2, [.int full, .ref a1, .ref a2, .int ur3.1])), (a1, .inl (k1, 42, .inl ur3.2.1)), (a2, .inl (k2, 42, .inr (.inl ur3.2.2)))] := hD
    refine lv_lload_n hx hb d_Water_takeFromBelow_18 rfl (lv_at hl 0 rfl) ?_
    rw [← Option.some.inj h]
    have hP9 := hP
    have hD9 := hD
    exact W.lret (v := ur2) hx hb hr (fun t ht hW => ⟨⟨ur2, (), rfl, rfl, ⟨by rw [ht]; exact hP9, va_K.moved hW.alike hK, hD9⟩⟩, hS.F ht⟩) hS.2.2 d_Water_takeFromBelow_19
  have hl := lv_entry ([.ref h0, .int p1]) (n := 5) (Nat.le_of_ble_eq_true rfl)
  rw [lg_entry_eq]
  generalize (lg_sl ([.ref h0, .int p1]) ++ List.replicate (5 - (lg_sl ([.ref h0, .int p1])).length) Slot.unset).toArray = ls at hl ⊢
  exact key _ _ hP hD va_S.rf ls hl
def fn_Water_exchange (N : Nat) (p1 : Int32) (p2 : Int32) (p3 : Int64) (full : Int32) (cnt : Int32) (vf : Nat → Int32) (hf : Nat → Int64) : Option (Int64 × Int32 × (Nat → Int32) × (Nat → Int64)) :=
  (fn_Water_takeFromAbove N p2 full cnt vf hf).bind (fun ur1 => (fn_Math_min N p1 (full - p2)).bind (fun ur2 => (fn_Water_comeIn N ur2 p2 p3 full ur1.2.1 ur1.2.2.1 ur1.2.2.2).bind (fun ur3 => some (ur1.1, ur3.1, ur3.2.1, ur3.2.2))))
def w_Water_exchange : List Cond := .code y_Water_exchange b_Water_exchange 7 (some .long) :: gx_W
set_option maxHeartbeats 4000000 in
set_option maxRecDepth 100000 in
theorem c_Water_exchange (N : Nat) (l : Launch) (dC : Nat → ClassId) (dI : Nat → Nat → Nat) (h0 : Nat) (a1 : Nat) (a2 : Nat) (k1 : ClassId) (k2 : ClassId) (sz : Nat) (full : Int32) (cnt : Int32) (vf : Nat → Int32) (hf : Nat → Int64) (p1 : Int32) (p2 : Int32) (p3 : Int64) (res : Int64 × Int32 × (Nat → Int32) × (Nat → Int64)) (h : fn_Water_exchange N p1 p2 p3 full cnt vf hf = some res) : Met l y_Water_exchange w_Water_exchange ({ frames := 4, cells := 0, slots := 0, locals := 100 } : Room) (va_Pc [.ref h0, .int p1, .int p2, .long p3] (fun U => U.heap.size = sz ∧ va_P (dC, dI) classes [(h0, .inr (2, [.int full, .ref a1, .ref a2, .int cnt])), (a1, .inl (k1, 42, .inl vf)), (a2, .inl (k2, 42, .inr (.inl hf)))] U.heap ∧ va_K (dC, dI) classes [(k1, .int), (k2, .long)] U ∧ va_D (fun _ => True) [(h0, .inr (2, [.int full, .ref a1, .ref a2, .int cnt])), (a1, .inl (k1, 42, .inl vf)), (a2, .inl (k2, 42, .inr (.inl hf)))] ∧ gx_E U)) (va_Ql (fun (r : Int64) (_ : Unit) => r = res.1) (fun _ t => va_P (dC, dI) classes [(h0, .inr (2, [.int full, .ref a1, .ref a2, .int res.2.1])), (a1, .inl (k1, 42, .inl res.2.2.1)), (a2, .inl (k2, 42, .inr (.inl res.2.2.2)))] t.heap ∧ va_K (dC, dI) classes [(k1, .int), (k2, .long)] t ∧ va_D (va_A [(h0, .inr (2, [.int full, .ref a1, .ref a2, .int cnt])), (a1, .inl (k1, 42, .inl vf)), (a2, .inl (k2, 42, .inr (.inl hf)))] sz) [(h0, .inr (2, [.int full, .ref a1, .ref a2, .int res.2.1])), (a1, .inl (k1, 42, .inl res.2.2.1)), (a2, .inl (k2, 42, .inr (.inl res.2.2.2)))]) (va_A [(h0, .inr (2, [.int full, .ref a1, .ref a2, .int cnt])), (a1, .inl (k1, 42, .inl vf)), (a2, .inl (k2, 42, .inr (.inl hf)))] sz)) 0 0 (va_A [(h0, .inr (2, [.int full, .ref a1, .ref a2, .int cnt])), (a1, .inl (k1, 42, .inl vf)), (a2, .inl (k2, 42, .inr (.inl hf)))] sz) := by
  refine Met.ofW (cc := b_Water_exchange) (maxL := 7) (ret := (some .long)) (by decide) rfl ?_
  intro p e s m args below meth c s₁ B hml hv
  obtain ⟨rfl, hsz, hP, hK, hD0, hE⟩ := hv
  have hx := B.exec
  have hb := B.bytes
  have hr := B.returns
  have hts := atoms_spec (ws := w_Water_exchange) B.pre
  have hown : s.vm.findClass R_Water = some m.cls := findClass_of_methodNamed B.named
  have hlocks := B.notSynchronized
  subst hsz
  have hD := hD0.self (sz := s.heap.size)
  generalize hAe : va_A [(h0, .inr (2, [.int full, .ref a1, .ref a2, .int cnt])), (a1, .inl (k1, 42, .inl vf)), (a2, .inl (k2, 42, .inr (.inl hf)))] s.heap.size = A at hD ⊢
  have hA : ∀ q : Nat, s.heap.size ≤ q → A q := fun q h => by rw [← hAe]; exact Or.inr h
  clear hAe hD0
  have key : ∀ (H : Heap) (locs : List Loc), va_P (dC, dI) classes [(h0, .inr (2, [.int full, .ref a1, .ref a2, .int cnt])), (a1, .inl (k1, 42, .inl vf)), (a2, .inl (k2, 42, .inr (.inl hf)))] H → va_D A [(h0, .inr (2, [.int full, .ref a1, .ref a2, .int cnt])), (a1, .inl (k1, 42, .inl vf)), (a2, .inl (k2, 42, .inr (.inl hf)))] → va_S A s.heap H locs → ∀ (ls : Array Slot), lv_has ls 7 [(0, .ref h0), (1, .int p1), (2, .int p2), (3, .long p3)] → W p l e ({ frames := 4, cells := 0, slots := 0, locals := 100 } : Room) s m ([.ref h0, .int p1, .int p2, .long p3] : List Value).toArray below meth c H locs 0 0 (MQ below (va_Ql (fun (r : Int64) (_ : Unit) => r = res.1) (fun _ t => va_P (dC, dI) classes [(h0, .inr (2, [.int full, .ref a1, .ref a2, .int res.2.1])), (a1, .inl (k1, 42, .inl res.2.2.1)), (a2, .inl (k2, 42, .inr (.inl res.2.2.2)))] t.heap ∧ va_K (dC, dI) classes [(k1, .int), (k2, .long)] t ∧ va_D A [(h0, .inr (2, [.int full, .ref a1, .ref a2, .int res.2.1])), (a1, .inl (k1, 42, .inl res.2.2.1)), (a2, .inl (k2, 42, .inr (.inl res.2.2.2)))]) A) ([.ref h0, .int p1, .int p2, .long p3] : List Value).toArray s 0 0 A) (F0 m 0 ls []) := by
    intro H locs hP hD hS ls hl
    unfold fn_Water_exchange at h
    refine lv_aload_n hx hb d_Water_exchange_0 rfl (lv_at hl 0 rfl) ?_
    refine lv_iload_n hx hb d_Water_exchange_1 rfl (lv_at hl 2 rfl) ?_
    have hPc := hP.sub (ws' := [(h0, .inr (2, [.int full, .ref a1, .ref a2, .int cnt])), (a1, .inl (k1, 42, .inl vf)), (a2, .inl (k2, 42, .inr (.inl hf)))]) [0, 1, 2] rfl
    have hDc := hD.sub (ws' := [(h0, .inr (2, [.int full, .ref a1, .ref a2, .int cnt])), (a1, .inl (k1, 42, .inl vf)), (a2, .inl (k2, 42, .inr (.inl hf)))]) [0, 1, 2] (by decide) rfl
    have hKc := hK.sub (tys' := [(k1, .int), (k2, .long)]) [0, 1] rfl
    have hFc := va_free (wc := [(h0, .inr (2, [.int full, .ref a1, .ref a2, .int cnt])), (a1, .inl (k1, 42, .inl vf)), (a2, .inl (k2, 42, .inr (.inl hf)))]) hD hS hA [0, 1, 2] rfl
    obtain ⟨ur1, hc1, h⟩ := gx_bind h
    refine va_calll (va_runV (As := [.int p2]) (rest := []) ⟨hx, hb, hml, hown, hts⟩ (c_Water_takeFromAbove N l dC dI h0 a1 a2 k1 k2 H.size full cnt vf hf p2 ur1 hc1) (cwV 1 hts (gx_gV mw_317 mw_314 mw_315 mw_316 mw_32) rfl rfl rfl (by decide +kernel) ⟨Nat.le_of_ble_eq_true rfl, Nat.le_of_ble_eq_true rfl⟩) ⟨fun a U g mk q => by obtain ⟨q0, q1, qP, qK, qD, qE⟩ := q; exact ⟨q0, q1, qP, va_K.moved (u := U) (U := U.calling g mk a) (Vm.Alike.refl U.vm) qK, qD, qE.calls⟩, va_recv hKc hPc (ci := 2) (q0 := 0) rfl rfl, fun U hU hW => ⟨rfl, by rw [hU], by rw [hU]; exact hPc, va_K.moved hW.alike hKc, hDc.weaken (fun _ _ _ _ => trivial), hE.warm hW⟩⟩ rfl rfl hl.1 rfl (lv_room (Nat.le_of_ble_eq_true rfl)) d_Water_exchange_2 ⟨(Nat.zero_le _), (Nat.zero_le _)⟩) hS (fun q _ h => hFc q h) hFc (fun r1 _ t H locs ht hvm hw hB hz1 hk1 hS => ?_)
    obtain ⟨hP1, hK1, hD1⟩ := hB
    rw [ht] at hP1
    rw [hw]
    obtain ⟨hP, hD⟩ := va_join (wr := []) (w1 := [(h0, .inr (2, [.int full, .ref a1, .ref a2, .int ur1.2.1])), (a1, .inl (k1, 42, .inl ur1.2.2.1)), (a2, .inl (k2, 42, .inr (.inl ur1.2.2.2)))]) hP hD [0, 1, 2] [] rfl rfl (by decide) (by decide) hk1 hFc hP1 hD1
    have hP : va_P (dC, dI) classes [(h0, .inr (2, [.int full, .ref a1, .ref a2, .int ur1.2.1])), (a1, .inl (k1, 42, .inl ur1.2.2.1)), (a2, .inl (k2, 42, .inr (.inl ur1.2.2.2)))] H := hP
    have hD : va_D A [(h0, .inr (2, [.int full, .ref a1, .ref a2, .int ur1.2.1])), (a1, .inl (k1, 42, .inl ur1.2.2.1)), (a2, .inl (k2, 42, .inr (.inl ur1.2.2.2)))] := hD
    refine lv_lstore (lv' := [(5, .long ur1.1), (0, .ref h0), (1, .int p1), (2, .int p2), (3, .long p3)]) hx hb d_Water_exchange_5 hl (by decide) rfl (fun ls hl => ?_)
    refine lv_aload_n hx hb d_Water_exchange_7 rfl (lv_at hl 1 rfl) ?_
    refine lv_iload_n hx hb d_Water_exchange_8 rfl (lv_at hl 2 rfl) ?_
    refine lv_aload_n hx hb d_Water_exchange_9 rfl (lv_at hl 1 rfl) ?_
    refine va_get (D := (dC, dI)) (ci := 2) (v := .int full) (C := R_Water) (T := F_Water) (N := 4) hx hb hts (gx_in i_Water) hown hK hP 0 rfl rfl 0 (by decide) (hts _ (gx_w mw_171)) (fun _ h9 => h9) rfl d_Water_exchange_10 ?_
    refine lv_iload_n hx hb d_Water_exchange_13 rfl (lv_at hl 3 rfl) ?_
    refine lv_isub hx hb d_Water_exchange_14 ?_
    have hPc := hP.sub (ws' := []) [] rfl
    have hDc := hD.sub (ws' := []) [] (by decide) rfl
    have hKc := hK.sub (tys' := []) [] rfl
    have hFc := va_free (wc := []) hD hS hA [] rfl
    obtain ⟨ur2, hc2, h⟩ := gx_bind h
    refine va_calli (va_runS (As := [.int p1, .int (full - p2)]) (rest := [.ref h0]) ⟨hx, hb, hml, hown, hts⟩ (c_Math_min N l dC dI H.size p1 (full - p2) ur2 hc2) (va_cwS 2 hts (gx_gS mw_338 mw_336 mw_337 mw_36) rfl rfl rfl (by decide +kernel) ⟨Nat.le_of_ble_eq_true rfl, Nat.le_of_ble_eq_true rfl⟩) ⟨fun a U g mk q => by obtain ⟨q0, q1, qP, qK, qD, qE⟩ := q; exact ⟨q0, q1, qP, va_K.moved (u := U) (U := U.calling g mk a) (Vm.Alike.refl U.vm) qK, qD, qE.calls⟩, fun U hU hW => ⟨rfl, by rw [hU], by rw [hU]; exact hPc, va_K.moved hW.alike hKc, hDc.weaken (fun _ _ _ _ => trivial), hE.warm hW⟩⟩ rfl rfl hl.1 rfl (lv_room (Nat.le_of_ble_eq_true rfl)) d_Water_exchange_15 ⟨(Nat.zero_le _), (Nat.zero_le _)⟩) hS (fun q _ h => hFc q h) hFc (fun r2 _ t H locs ht hvm hw hB hz1 hk1 hS => ?_)
    obtain ⟨hP1, hK1, hD1⟩ := hB
    rw [ht] at hP1
    rw [hw]
    replace hP := gx_keep0 hP hk1
    refine lv_iload_n hx hb d_Water_exchange_18 rfl (lv_at hl 3 rfl) ?_
    refine lv_lload_n hx hb d_Water_exchange_19 rfl (lv_at hl 4 rfl) ?_
    have hPc := hP.sub (ws' := [(h0, .inr (2, [.int full, .ref a1, .ref a2, .int ur1.2.1])), (a1, .inl (k1, 42, .inl ur1.2.2.1)), (a2, .inl (k2, 42, .inr (.inl ur1.2.2.2)))]) [0, 1, 2] rfl
    have hDc := hD.sub (ws' := [(h0, .inr (2, [.int full, .ref a1, .ref a2, .int ur1.2.1])), (a1, .inl (k1, 42, .inl ur1.2.2.1)), (a2, .inl (k2, 42, .inr (.inl ur1.2.2.2)))]) [0, 1, 2] (by decide) rfl
    have hKc := hK.sub (tys' := [(k1, .int), (k2, .long)]) [0, 1] rfl
    have hFc := va_free (wc := [(h0, .inr (2, [.int full, .ref a1, .ref a2, .int ur1.2.1])), (a1, .inl (k1, 42, .inl ur1.2.2.1)), (a2, .inl (k2, 42, .inr (.inl ur1.2.2.2)))]) hD hS hA [0, 1, 2] rfl
    obtain ⟨ur3, hc3, h⟩ := gx_bind h
    refine va_callv (va_runV (As := [.int ur2, .int p2, .long p3]) (rest := []) ⟨hx, hb, hml, hown, hts⟩ (c_Water_comeIn N l dC dI h0 a1 a2 k1 k2 H.size full ur1.2.1 ur1.2.2.1 ur1.2.2.2 ur2 p2 p3 ur3 hc3) (cwV 3 hts (gx_gV mw_342 mw_339 mw_340 mw_341 mw_32) rfl rfl rfl (by decide +kernel) ⟨Nat.le_of_ble_eq_true rfl, Nat.le_of_ble_eq_true rfl⟩) ⟨fun a U g mk q => by obtain ⟨q0, q1, qP, qK, qD, qE⟩ := q; exact ⟨q0, q1, qP, va_K.moved (u := U) (U := U.calling g mk a) (Vm.Alike.refl U.vm) qK, qD, qE.calls⟩, va_recv hKc hPc (ci := 2) (q0 := 0) rfl rfl, fun U hU hW => ⟨rfl, by rw [hU], by rw [hU]; exact hPc, va_K.moved hW.alike hKc, hDc.weaken (fun _ _ _ _ => trivial), hE.warm hW⟩⟩ rfl rfl hl.1 rfl (lv_room (Nat.le_of_ble_eq_true rfl)) d_Water_exchange_20 ⟨(Nat.zero_le _), (Nat.zero_le _)⟩) hS (fun q _ h => hFc q h) hFc (fun _ t H locs ht hvm hw hB hz1 hk1 hS => ?_)
    obtain ⟨hP1, hK1, hD1⟩ := hB
    rw [ht] at hP1
    obtain ⟨hP, hD⟩ := va_join (wr := []) (w1 := [(h0, .inr (2, [.int full, .ref a1, .ref a2, .int ur3.1])), (a1, .inl (k1, 42, .inl ur3.2.1)), (a2, .inl (k2, 42, .inr (.inl ur3.2.2)))]) hP hD [0, 1, 2] [] rfl rfl (by decide) (by decide) hk1 hFc hP1 hD1
    have hP : va_P (dC, dI) classes [(h0, .inr (2, [.int full, .ref a1, .ref a2, .int ur3.1])), (a1, .inl (k1, 42, .inl ur3.2.1)), (a2, .inl (k2, 42, .inr (.inl ur3.2.2)))] H := hP
    have hD : va_D A [(h0, .inr (2, [.int full, .ref a1, .ref a2, .int ur3.1])), (a1, .inl (k1, 42, .inl ur3.2.1)), (a2, .inl (k2, 42, .inr (.inl ur3.2.2)))] := hD
    refine lv_lload hx hb d_Water_exchange_23 (lv_at hl 0 rfl) ?_
    rw [← Option.some.inj h]
    have hP9 := hP
    have hD9 := hD
    exact W.lret (v := ur1.1) hx hb hr (fun t ht hW => ⟨⟨ur1.1, (), rfl, rfl, ⟨by rw [ht]; exact hP9, va_K.moved hW.alike hK, hD9⟩⟩, hS.F ht⟩) hS.2.2 d_Water_exchange_25
  have hl := lv_entry ([.ref h0, .int p1, .int p2, .long p3]) (n := 7) (Nat.le_of_ble_eq_true rfl)
  rw [lg_entry_eq]
  generalize (lg_sl ([.ref h0, .int p1, .int p2, .long p3]) ++ List.replicate (7 - (lg_sl ([.ref h0, .int p1, .int p2, .long p3])).length) Slot.unset).toArray = ls at hl ⊢
  exact key _ _ hP hD va_S.rf ls hl
def bk_Water_heatBetween_22 (N : Nat) (full : Int32) (K : Int32 × Int32 × Int32 × Int32 × Int32 × Int64 × Int32 × Int32 × (Nat → Int32) × (Nat → Int64) → Option (Int32 × (Nat → Int32) × (Nat → Int64))) (x1 : Int32) (x2 : Int32) (x3 : Int32) (x4 : Int32) (x5 : Int32) (x6 : Int64) (x8 : Int32) (cnt : Int32) (vf : Nat → Int32) (hf : Nat → Int64) : Option (Int32 × (Nat → Int32) × (Nat → Int64)) :=
  if x5 ≤ x8 then if x5 ≤ x4 then (fn_Water_mix N full cnt vf hf).bind (fun ur5 => some (ur5.1, ur5.2.1, ur5.2.2)) else if gx_inb (x5 - 1) 42 = true then if gx_inb (x5 - 1) 42 = true then (fn_Water_mix N full cnt vf (vp_updL hf (x5 - 1).toNatClampNeg ((hf (x5 - 1).toNatClampNeg) + x6))).bind (fun ur8 => some (ur8.1, ur8.2.1, ur8.2.2)) else none else none else if gx_inb x8 42 = true then (fn_TL_shareOf N x3.toInt64 ((vf x8.toNatClampNeg).toInt64) ((x2 - x1).toInt64)).bind (fun ur10 => if gx_inb x8 42 = true then if gx_inb x8 42 = true then K (x1, x2, x3, x4, x5, x6 - ur10, x8 + 1, cnt, vf, vp_updL hf x8.toNatClampNeg ((hf x8.toNatClampNeg) + ur10)) else none else none) else none
def st_Water_heatBetween (N : Nat) (full : Int32) (K : Int32 × Int32 × Int32 × Int32 × Int32 × Int64 × Int32 × Int32 × (Nat → Int32) × (Nat → Int64) → Option (Int32 × (Nat → Int32) × (Nat → Int64))) (z : Int32 × Int32 × Int32 × Int32 × Int32 × Int64 × Int32 × Int32 × (Nat → Int32) × (Nat → Int64)) : Option (Int32 × (Nat → Int32) × (Nat → Int64)) := match z with
  | (x1, x2, x3, x4, x5, x6, x8, cnt, vf, hf) => bk_Water_heatBetween_22 N full K x1 x2 x3 x4 x5 x6 x8 cnt vf hf
def fn_Water_heatBetween (N : Nat) (p1 : Int32) (p2 : Int32) (p3 : Int32) (full : Int32) (cnt : Int32) (vf : Nat → Int32) (hf : Nat → Int64) : Option (Int32 × (Nat → Int32) × (Nat → Int64)) :=
  (fn_Water_cutAt N p1 full cnt vf hf).bind (fun ur1 => (fn_Water_cutAt N p2 full ur1.2.1 ur1.2.2.1 ur1.2.2.2).bind (fun ur2 => gx_fx (st_Water_heatBetween N full) N (p1, p2, p3, ur1.1, ur2.1, p3.toInt64, ur1.1, ur2.2.1, ur2.2.2.1, ur2.2.2.2)))
def w_Water_heatBetween : List Cond := .code y_Water_heatBetween b_Water_heatBetween 11 none :: gx_W
set_option maxHeartbeats 4000000 in
set_option maxRecDepth 100000 in
theorem c_Water_heatBetween (N : Nat) (l : Launch) (dC : Nat → ClassId) (dI : Nat → Nat → Nat) (h0 : Nat) (a1 : Nat) (a2 : Nat) (k1 : ClassId) (k2 : ClassId) (sz : Nat) (full : Int32) (cnt : Int32) (vf : Nat → Int32) (hf : Nat → Int64) (p1 : Int32) (p2 : Int32) (p3 : Int32) (res : Int32 × (Nat → Int32) × (Nat → Int64)) (h : fn_Water_heatBetween N p1 p2 p3 full cnt vf hf = some res) : Met l y_Water_heatBetween w_Water_heatBetween ({ frames := 3, cells := 0, slots := 0, locals := 76 } : Room) (va_Pc [.ref h0, .int p1, .int p2, .int p3] (fun U => U.heap.size = sz ∧ va_P (dC, dI) classes [(h0, .inr (2, [.int full, .ref a1, .ref a2, .int cnt])), (a1, .inl (k1, 42, .inl vf)), (a2, .inl (k2, 42, .inr (.inl hf)))] U.heap ∧ va_K (dC, dI) classes [(k1, .int), (k2, .long)] U ∧ va_D (fun _ => True) [(h0, .inr (2, [.int full, .ref a1, .ref a2, .int cnt])), (a1, .inl (k1, 42, .inl vf)), (a2, .inl (k2, 42, .inr (.inl hf)))] ∧ gx_E U)) (va_Qv (fun _ : Unit => True) (fun _ t => va_P (dC, dI) classes [(h0, .inr (2, [.int full, .ref a1, .ref a2, .int res.1])), (a1, .inl (k1, 42, .inl res.2.1)), (a2, .inl (k2, 42, .inr (.inl res.2.2)))] t.heap ∧ va_K (dC, dI) classes [(k1, .int), (k2, .long)] t ∧ va_D (va_A [(h0, .inr (2, [.int full, .ref a1, .ref a2, .int cnt])), (a1, .inl (k1, 42, .inl vf)), (a2, .inl (k2, 42, .inr (.inl hf)))] sz) [(h0, .inr (2, [.int full, .ref a1, .ref a2, .int res.1])), (a1, .inl (k1, 42, .inl res.2.1)), (a2, .inl (k2, 42, .inr (.inl res.2.2)))]) (va_A [(h0, .inr (2, [.int full, .ref a1, .ref a2, .int cnt])), (a1, .inl (k1, 42, .inl vf)), (a2, .inl (k2, 42, .inr (.inl hf)))] sz)) 0 0 (va_A [(h0, .inr (2, [.int full, .ref a1, .ref a2, .int cnt])), (a1, .inl (k1, 42, .inl vf)), (a2, .inl (k2, 42, .inr (.inl hf)))] sz) := by
  refine Met.ofW (cc := b_Water_heatBetween) (maxL := 11) (ret := none) (by decide) rfl ?_
  intro p e s m args below meth c s₁ B hml hv
  obtain ⟨rfl, hsz, hP, hK, hD0, hE⟩ := hv
  have hx := B.exec
  have hb := B.bytes
  have hr := B.returns
  have hts := atoms_spec (ws := w_Water_heatBetween) B.pre
  have hown : s.vm.findClass R_Water = some m.cls := findClass_of_methodNamed B.named
  have hlocks := B.notSynchronized
  subst hsz
  have hD := hD0.self (sz := s.heap.size)
  generalize hAe : va_A [(h0, .inr (2, [.int full, .ref a1, .ref a2, .int cnt])), (a1, .inl (k1, 42, .inl vf)), (a2, .inl (k2, 42, .inr (.inl hf)))] s.heap.size = A at hD ⊢
  have hA : ∀ q : Nat, s.heap.size ≤ q → A q := fun q h => by rw [← hAe]; exact Or.inr h
  clear hAe hD0
  have loop : ∀ n : Nat, (∀ (x1 : Int32) (x2 : Int32) (x3 : Int32) (x4 : Int32) (x5 : Int32) (x6 : Int64) (x8 : Int32) (cnt : Int32) (vf : Nat → Int32) (hf : Nat → Int64), gx_fx (st_Water_heatBetween N full) n (x1, x2, x3, x4, x5, x6, x8, cnt, vf, hf) = some res → ∀ (H : Heap) (locs : List Loc), va_P (dC, dI) classes [(h0, .inr (2, [.int full, .ref a1, .ref a2, .int cnt])), (a1, .inl (k1, 42, .inl vf)), (a2, .inl (k2, 42, .inr (.inl hf)))] H → va_D A [(h0, .inr (2, [.int full, .ref a1, .ref a2, .int cnt])), (a1, .inl (k1, 42, .inl vf)), (a2, .inl (k2, 42, .inr (.inl hf)))] → va_S A s.heap H locs → ∀ (ls : Array Slot), lv_has ls 11 [(0, .ref h0), (1, .int x1), (2, .int x2), (3, .int x3), (4, .int x4), (5, .int x5), (6, .long x6), (8, .int x8)] → W p l e ({ frames := 3, cells := 0, slots := 0, locals := 76 } : Room) s m ([.ref h0, .int p1, .int p2, .int p3] : List Value).toArray below meth c H locs 0 0 (MQ below (va_Qv (fun _ : Unit => True) (fun _ t => va_P (dC, dI) classes [(h0, .inr (2, [.int full, .ref a1, .ref a2, .int res.1])), (a1, .inl (k1, 42, .inl res.2.1)), (a2, .inl (k2, 42, .inr (.inl res.2.2)))] t.heap ∧ va_K (dC, dI) classes [(k1, .int), (k2, .long)] t ∧ va_D A [(h0, .inr (2, [.int full, .ref a1, .ref a2, .int res.1])), (a1, .inl (k1, 42, .inl res.2.1)), (a2, .inl (k2, 42, .inr (.inl res.2.2)))]) A) ([.ref h0, .int p1, .int p2, .int p3] : List Value).toArray s 0 0 A) (F0 m 22 ls [])) := by
    intro n
    induction n with
    | zero => exact fun _ _ _ _ _ _ _ _ _ _ h => gx_fx0 h
    | succ n ih =>
        intro x1 x2 x3 x4 x5 x6 x8 cnt vf hf h H locs hP hD hS ls hl
        replace h : bk_Water_heatBetween_22 N full (gx_fx (st_Water_heatBetween N full) n) x1 x2 x3 x4 x5 x6 x8 cnt vf hf = some res := h
        unfold bk_Water_heatBetween_22 at h
        refine lv_iload hx hb d_Water_heatBetween_22 (lv_at hl 7 rfl) ?_
        refine lv_iload hx hb d_Water_heatBetween_24 (lv_at hl 5 rfl) ?_
        refine lv_icmp_ge (tgt := 73) hx hb d_Water_heatBetween_26 (by decide) (fun c3 => ?_) (fun c3 => ?_)
        · replace h := gx_pos c3 h
          refine lv_iload hx hb d_Water_heatBetween_73 (lv_at hl 5 rfl) ?_
          refine lv_iload hx hb d_Water_heatBetween_75 (lv_at hl 4 rfl) ?_
          refine lv_icmp_le (tgt := 94) hx hb d_Water_heatBetween_77 (by decide) (fun c4 => ?_) (fun c4 => ?_)
          · replace h := gx_pos c4 h
            refine lv_aload_n hx hb d_Water_heatBetween_94 rfl (lv_at hl 0 rfl) ?_
            have hPc := hP.sub (ws' := [(h0, .inr (2, [.int full, .ref a1, .ref a2, .int cnt])), (a1, .inl (k1, 42, .inl vf)), (a2, .inl (k2, 42, .inr (.inl hf)))]) [0, 1, 2] rfl
            have hDc := hD.sub (ws' := [(h0, .inr (2, [.int full, .ref a1, .ref a2, .int cnt])), (a1, .inl (k1, 42, .inl vf)), (a2, .inl (k2, 42, .inr (.inl hf)))]) [0, 1, 2] (by decide) rfl
            have hKc := hK.sub (tys' := [(k1, .int), (k2, .long)]) [0, 1] rfl
            have hFc := va_free (wc := [(h0, .inr (2, [.int full, .ref a1, .ref a2, .int cnt])), (a1, .inl (k1, 42, .inl vf)), (a2, .inl (k2, 42, .inr (.inl hf)))]) hD hS hA [0, 1, 2] rfl
            obtain ⟨ur5, hc5, h⟩ := gx_bind h
            refine va_callv (va_runV (As := []) (rest := []) ⟨hx, hb, hml, hown, hts⟩ (c_Water_mix N l dC dI h0 a1 a2 k1 k2 H.size full cnt vf hf ur5 hc5) (cwV 0 hts (gx_gV mw_346 mw_343 mw_345 mw_5 mw_32) rfl rfl rfl (by decide +kernel) ⟨Nat.le_of_ble_eq_true rfl, Nat.le_of_ble_eq_true rfl⟩) ⟨fun a U g mk q => by obtain ⟨q0, q1, qP, qK, qD, qE⟩ := q; exact ⟨q0, q1, qP, va_K.moved (u := U) (U := U.calling g mk a) (Vm.Alike.refl U.vm) qK, qD, qE.calls⟩, va_recv hKc hPc (ci := 2) (q0 := 0) rfl rfl, fun U hU hW => ⟨rfl, by rw [hU], by rw [hU]; exact hPc, va_K.moved hW.alike hKc, hDc.weaken (fun _ _ _ _ => trivial), hE.warm hW⟩⟩ rfl rfl hl.1 rfl (lv_room (Nat.le_of_ble_eq_true rfl)) d_Water_heatBetween_95 ⟨(Nat.zero_le _), (Nat.zero_le _)⟩) hS (fun q _ h => hFc q h) hFc (fun _ t H locs ht hvm hw hB hz1 hk1 hS => ?_)
            obtain ⟨hP1, hK1, hD1⟩ := hB
            rw [ht] at hP1
            obtain ⟨hP, hD⟩ := va_join (wr := []) (w1 := [(h0, .inr (2, [.int full, .ref a1, .ref a2, .int ur5.1])), (a1, .inl (k1, 42, .inl ur5.2.1)), (a2, .inl (k2, 42, .inr (.inl ur5.2.2)))]) hP hD [0, 1, 2] [] rfl rfl (by decide) (by decide) hk1 hFc hP1 hD1
            have hP : va_P (dC, dI) classes [(h0, .inr (2, [.int full, .ref a1, .ref a2, .int ur5.1])), (a1, .inl (k1, 42, .inl ur5.2.1)), (a2, .inl (k2, 42, .inr (.inl ur5.2.2)))] H := hP
            have hD : va_D A [(h0, .inr (2, [.int full, .ref a1, .ref a2, .int ur5.1])), (a1, .inl (k1, 42, .inl ur5.2.1)), (a2, .inl (k2, 42, .inr (.inl ur5.2.2)))] := hD
            rw [← Option.some.inj h]
            have hP9 := hP
            have hD9 := hD
            exact W.vret hx hb hr (fun t ht hW => ⟨⟨(), rfl, trivial, ⟨by rw [ht]; exact hP9, va_K.moved hW.alike hK, hD9⟩⟩, hS.F ht⟩) hS.2.2 d_Water_heatBetween_98
          · replace h := gx_neg c4 h
            refine lv_aload_n hx hb d_Water_heatBetween_80 rfl (lv_at hl 0 rfl) ?_
            refine va_get (D := (dC, dI)) (ci := 2) (v := .ref a2) (C := R_Water) (T := F_Water) (N := 4) hx hb hts (gx_in i_Water) hown hK hP 0 rfl rfl 2 (by decide) (hts _ (gx_w mw_175)) (fun _ h9 => h9) rfl d_Water_heatBetween_81 ?_
            refine lv_iload hx hb d_Water_heatBetween_84 (lv_at hl 5 rfl) ?_
            refine lv_iconst (v := 1) hx hb d_Water_heatBetween_86 (by decide) ?_
            refine lv_isub hx hb d_Water_heatBetween_87 ?_
            refine lv_dup2_11 hx hb d_Water_heatBetween_88 rfl rfl ?_
            obtain ⟨hi6, h⟩ := gx_inb_of h
            refine va_lald hx hb hK hP 2 1 rfl rfl hi6 d_Water_heatBetween_89 ?_
            refine lv_lload hx hb d_Water_heatBetween_90 (lv_at hl 6 rfl) ?_
            refine lv_ladd hx hb d_Water_heatBetween_92 ?_
            obtain ⟨hi7, h⟩ := gx_inb_of h
            refine va_last hx hb hK hP hD hS 2 1 rfl rfl hi7 d_Water_heatBetween_93 (fun H locs hP hD hS => ?_)
            have hP : va_P (dC, dI) classes [(h0, .inr (2, [.int full, .ref a1, .ref a2, .int cnt])), (a1, .inl (k1, 42, .inl vf)), (a2, .inl (k2, 42, .inr (.inl (vp_updL hf (x5 - 1).toNatClampNeg ((hf (x5 - 1).toNatClampNeg) + x6)))))] H := hP
            have hD : va_D A [(h0, .inr (2, [.int full, .ref a1, .ref a2, .int cnt])), (a1, .inl (k1, 42, .inl vf)), (a2, .inl (k2, 42, .inr (.inl (vp_updL hf (x5 - 1).toNatClampNeg ((hf (x5 - 1).toNatClampNeg) + x6)))))] := hD
            refine lv_aload_n hx hb d_Water_heatBetween_94 rfl (lv_at hl 0 rfl) ?_
            have hPc := hP.sub (ws' := [(h0, .inr (2, [.int full, .ref a1, .ref a2, .int cnt])), (a1, .inl (k1, 42, .inl vf)), (a2, .inl (k2, 42, .inr (.inl (vp_updL hf (x5 - 1).toNatClampNeg ((hf (x5 - 1).toNatClampNeg) + x6)))))]) [0, 1, 2] rfl
            have hDc := hD.sub (ws' := [(h0, .inr (2, [.int full, .ref a1, .ref a2, .int cnt])), (a1, .inl (k1, 42, .inl vf)), (a2, .inl (k2, 42, .inr (.inl (vp_updL hf (x5 - 1).toNatClampNeg ((hf (x5 - 1).toNatClampNeg) + x6)))))]) [0, 1, 2] (by decide) rfl
            have hKc := hK.sub (tys' := [(k1, .int), (k2, .long)]) [0, 1] rfl
            have hFc := va_free (wc := [(h0, .inr (2, [.int full, .ref a1, .ref a2, .int cnt])), (a1, .inl (k1, 42, .inl vf)), (a2, .inl (k2, 42, .inr (.inl (vp_updL hf (x5 - 1).toNatClampNeg ((hf (x5 - 1).toNatClampNeg) + x6)))))]) hD hS hA [0, 1, 2] rfl
            obtain ⟨ur8, hc8, h⟩ := gx_bind h
            refine va_callv (va_runV (As := []) (rest := []) ⟨hx, hb, hml, hown, hts⟩ (c_Water_mix N l dC dI h0 a1 a2 k1 k2 H.size full cnt vf (vp_updL hf (x5 - 1).toNatClampNeg ((hf (x5 - 1).toNatClampNeg) + x6)) ur8 hc8) (cwV 0 hts (gx_gV mw_346 mw_343 mw_345 mw_5 mw_32) rfl rfl rfl (by decide +kernel) ⟨Nat.le_of_ble_eq_true rfl, Nat.le_of_ble_eq_true rfl⟩) ⟨fun a U g mk q => by obtain ⟨q0, q1, qP, qK, qD, qE⟩ := q; exact ⟨q0, q1, qP, va_K.moved (u := U) (U := U.calling g mk a) (Vm.Alike.refl U.vm) qK, qD, qE.calls⟩, va_recv hKc hPc (ci := 2) (q0 := 0) rfl rfl, fun U hU hW => ⟨rfl, by rw [hU], by rw [hU]; exact hPc, va_K.moved hW.alike hKc, hDc.weaken (fun _ _ _ _ => trivial), hE.warm hW⟩⟩ rfl rfl hl.1 rfl (lv_room (Nat.le_of_ble_eq_true rfl)) d_Water_heatBetween_95 ⟨(Nat.zero_le _), (Nat.zero_le _)⟩) hS (fun q _ h => hFc q h) hFc (fun _ t H locs ht hvm hw hB hz1 hk1 hS => ?_)
            obtain ⟨hP1, hK1, hD1⟩ := hB
            rw [ht] at hP1
            obtain ⟨hP, hD⟩ := va_join (wr := []) (w1 := [(h0, .inr (2, [.int full, .ref a1, .ref a2, .int ur8.1])), (a1, .inl (k1, 42, .inl ur8.2.1)), (a2, .inl (k2, 42, .inr (.inl ur8.2.2)))]) hP hD [0, 1, 2] [] rfl rfl (by decide) (by decide) hk1 hFc hP1 hD1
            have hP : va_P (dC, dI) classes [(h0, .inr (2, [.int full, .ref a1, .ref a2, .int ur8.1])), (a1, .inl (k1, 42, .inl ur8.2.1)), (a2, .inl (k2, 42, .inr (.inl ur8.2.2)))] H := hP
            have hD : va_D A [(h0, .inr (2, [.int full, .ref a1, .ref a2, .int ur8.1])), (a1, .inl (k1, 42, .inl ur8.2.1)), (a2, .inl (k2, 42, .inr (.inl ur8.2.2)))] := hD
            rw [← Option.some.inj h]
            have hP9 := hP
            have hD9 := hD
            exact W.vret hx hb hr (fun t ht hW => ⟨⟨(), rfl, trivial, ⟨by rw [ht]; exact hP9, va_K.moved hW.alike hK, hD9⟩⟩, hS.F ht⟩) hS.2.2 d_Water_heatBetween_98
        · replace h := gx_neg c3 h
          refine lv_iload_n hx hb d_Water_heatBetween_29 rfl (lv_at hl 3 rfl) ?_
          refine lv_i2l (v := x3.toInt64) hx hb d_Water_heatBetween_30 rfl ?_
          refine lv_aload_n hx hb d_Water_heatBetween_31 rfl (lv_at hl 0 rfl) ?_
          refine va_get (D := (dC, dI)) (ci := 2) (v := .ref a1) (C := R_Water) (T := F_Water) (N := 4) hx hb hts (gx_in i_Water) hown hK hP 0 rfl rfl 1 (by decide) (hts _ (gx_w mw_173)) (fun _ h9 => h9) rfl d_Water_heatBetween_32 ?_
          refine lv_iload hx hb d_Water_heatBetween_35 (lv_at hl 7 rfl) ?_
          obtain ⟨hi9, h⟩ := gx_inb_of h
          refine va_iald hx hb hK hP 1 0 rfl rfl hi9 d_Water_heatBetween_37 ?_
          refine lv_i2l (v := (vf x8.toNatClampNeg).toInt64) hx hb d_Water_heatBetween_38 rfl ?_
          refine lv_iload_n hx hb d_Water_heatBetween_39 rfl (lv_at hl 2 rfl) ?_
          refine lv_iload_n hx hb d_Water_heatBetween_40 rfl (lv_at hl 1 rfl) ?_
          refine lv_isub hx hb d_Water_heatBetween_41 ?_
          refine lv_i2l (v := (x2 - x1).toInt64) hx hb d_Water_heatBetween_42 rfl ?_
          have hPc := hP.sub (ws' := []) [] rfl
          have hDc := hD.sub (ws' := []) [] (by decide) rfl
          have hKc := hK.sub (tys' := []) [] rfl
          have hFc := va_free (wc := []) hD hS hA [] rfl
          obtain ⟨ur10, hc10, h⟩ := gx_bind h
          refine va_calll (va_runSN (As := [.long x3.toInt64, .long ((vf x8.toNatClampNeg).toInt64), .long ((x2 - x1).toInt64)]) (rest := []) ⟨hx, hb, hml, hown, hts⟩ (c_TL_shareOf N l dC dI H.size x3.toInt64 ((vf x8.toNatClampNeg).toInt64) ((x2 - x1).toInt64) ur10 hc10) ⟨va_cnB 3 hts (gx_gi mw_324) rfl rfl rfl hE.1 (hts _ (gx_w mw_24)) (by decide +kernel) ⟨Nat.le_of_ble_eq_true rfl, Nat.le_of_ble_eq_true rfl⟩, (hts _ (gx_w mw_323)), trivial⟩ ⟨fun a U g mk q => by obtain ⟨q0, q1, qP, qK, qD, qE⟩ := q; exact ⟨q0, q1, qP, va_K.moved (u := U) (U := U.calling g mk a) (Vm.Alike.refl U.vm) qK, qD, qE.calls⟩, fun U hU hW => ⟨rfl, by rw [hU], by rw [hU]; exact hPc, va_K.moved hW.alike hKc, hDc.weaken (fun _ _ _ _ => trivial), hE.warm hW⟩⟩ rfl rfl hl.1 rfl (lv_room (Nat.le_of_ble_eq_true rfl)) d_Water_heatBetween_43 ⟨(Nat.zero_le _), (Nat.zero_le _)⟩) hS (fun q _ h => hFc q h) hFc (fun r10 _ t H locs ht hvm hw hB hz1 hk1 hS => ?_)
          obtain ⟨hP1, hK1, hD1⟩ := hB
          rw [ht] at hP1
          rw [hw]
          replace hP := gx_keep0 hP hk1
          refine lv_lstore (lv' := [(9, .long ur10), (0, .ref h0), (1, .int x1), (2, .int x2), (3, .int x3), (4, .int x4), (5, .int x5), (6, .long x6), (8, .int x8)]) hx hb d_Water_heatBetween_46 hl (by decide) rfl (fun ls hl => ?_)
          refine lv_aload_n hx hb d_Water_heatBetween_48 rfl (lv_at hl 1 rfl) ?_
          refine va_get (D := (dC, dI)) (ci := 2) (v := .ref a2) (C := R_Water) (T := F_Water) (N := 4) hx hb hts (gx_in i_Water) hown hK hP 0 rfl rfl 2 (by decide) (hts _ (gx_w mw_175)) (fun _ h9 => h9) rfl d_Water_heatBetween_49 ?_
          refine lv_iload hx hb d_Water_heatBetween_52 (lv_at hl 8 rfl) ?_
          refine lv_dup2_11 hx hb d_Water_heatBetween_54 rfl rfl ?_
          obtain ⟨hi11, h⟩ := gx_inb_of h
          refine va_lald hx hb hK hP 2 1 rfl rfl hi11 d_Water_heatBetween_55 ?_
          refine lv_lload hx hb d_Water_heatBetween_56 (lv_at hl 0 rfl) ?_
          refine lv_ladd hx hb d_Water_heatBetween_58 ?_
          obtain ⟨hi12, h⟩ := gx_inb_of h
          refine va_last hx hb hK hP hD hS 2 1 rfl rfl hi12 d_Water_heatBetween_59 (fun H locs hP hD hS => ?_)
          have hP : va_P (dC, dI) classes [(h0, .inr (2, [.int full, .ref a1, .ref a2, .int cnt])), (a1, .inl (k1, 42, .inl vf)), (a2, .inl (k2, 42, .inr (.inl (vp_updL hf x8.toNatClampNeg ((hf x8.toNatClampNeg) + ur10)))))] H := hP
          have hD : va_D A [(h0, .inr (2, [.int full, .ref a1, .ref a2, .int cnt])), (a1, .inl (k1, 42, .inl vf)), (a2, .inl (k2, 42, .inr (.inl (vp_updL hf x8.toNatClampNeg ((hf x8.toNatClampNeg) + ur10)))))] := hD
          refine lv_lload hx hb d_Water_heatBetween_60 (lv_at hl 7 rfl) ?_
          refine lv_lload hx hb d_Water_heatBetween_62 (lv_at hl 0 rfl) ?_
          refine lv_lsub hx hb d_Water_heatBetween_64 ?_
          refine lv_lstore (lv' := [(6, .long (x6 - ur10)), (9, .long ur10), (0, .ref h0), (1, .int x1), (2, .int x2), (3, .int x3), (4, .int x4), (5, .int x5), (8, .int x8)]) hx hb d_Water_heatBetween_65 hl (by decide) rfl (fun ls hl => ?_)
          refine lv_iinc (v := x8 + 1) (lv' := [(8, .int (x8 + 1)), (6, .long (x6 - ur10)), (9, .long ur10), (0, .ref h0), (1, .int x1), (2, .int x2), (3, .int x3), (4, .int x4), (5, .int x5)]) hx hb d_Water_heatBetween_67 hl (k := 8) rfl rfl (by decide) rfl (fun ls hl => ?_)
          refine lv_goto (tgt := 22) hx hb d_Water_heatBetween_70 (by decide) ?_
          exact ih x1 x2 x3 x4 x5 (x6 - ur10) (x8 + 1) cnt vf (vp_updL hf x8.toNatClampNeg ((hf x8.toNatClampNeg) + ur10)) h _ _ hP hD hS ls (lv_sub hl [3, 4, 5, 6, 7, 8, 1, 0] rfl)
  have key : ∀ (H : Heap) (locs : List Loc), va_P (dC, dI) classes [(h0, .inr (2, [.int full, .ref a1, .ref a2, .int cnt])), (a1, .inl (k1, 42, .inl vf)), (a2, .inl (k2, 42, .inr (.inl hf)))] H → va_D A [(h0, .inr (2, [.int full, .ref a1, .ref a2, .int cnt])), (a1, .inl (k1, 42, .inl vf)), (a2, .inl (k2, 42, .inr (.inl hf)))] → va_S A s.heap H locs → ∀ (ls : Array Slot), lv_has ls 11 [(0, .ref h0), (1, .int p1), (2, .int p2), (3, .int p3)] → W p l e ({ frames := 3, cells := 0, slots := 0, locals := 76 } : Room) s m ([.ref h0, .int p1, .int p2, .int p3] : List Value).toArray below meth c H locs 0 0 (MQ below (va_Qv (fun _ : Unit => True) (fun _ t => va_P (dC, dI) classes [(h0, .inr (2, [.int full, .ref a1, .ref a2, .int res.1])), (a1, .inl (k1, 42, .inl res.2.1)), (a2, .inl (k2, 42, .inr (.inl res.2.2)))] t.heap ∧ va_K (dC, dI) classes [(k1, .int), (k2, .long)] t ∧ va_D A [(h0, .inr (2, [.int full, .ref a1, .ref a2, .int res.1])), (a1, .inl (k1, 42, .inl res.2.1)), (a2, .inl (k2, 42, .inr (.inl res.2.2)))]) A) ([.ref h0, .int p1, .int p2, .int p3] : List Value).toArray s 0 0 A) (F0 m 0 ls []) := by
    intro H locs hP hD hS ls hl
    unfold fn_Water_heatBetween at h
    refine lv_aload_n hx hb d_Water_heatBetween_0 rfl (lv_at hl 0 rfl) ?_
    refine lv_iload_n hx hb d_Water_heatBetween_1 rfl (lv_at hl 1 rfl) ?_
    have hPc := hP.sub (ws' := [(h0, .inr (2, [.int full, .ref a1, .ref a2, .int cnt])), (a1, .inl (k1, 42, .inl vf)), (a2, .inl (k2, 42, .inr (.inl hf)))]) [0, 1, 2] rfl
    have hDc := hD.sub (ws' := [(h0, .inr (2, [.int full, .ref a1, .ref a2, .int cnt])), (a1, .inl (k1, 42, .inl vf)), (a2, .inl (k2, 42, .inr (.inl hf)))]) [0, 1, 2] (by decide) rfl
    have hKc := hK.sub (tys' := [(k1, .int), (k2, .long)]) [0, 1] rfl
    have hFc := va_free (wc := [(h0, .inr (2, [.int full, .ref a1, .ref a2, .int cnt])), (a1, .inl (k1, 42, .inl vf)), (a2, .inl (k2, 42, .inr (.inl hf)))]) hD hS hA [0, 1, 2] rfl
    obtain ⟨ur1, hc1, h⟩ := gx_bind h
    refine va_calli (va_runV (As := [.int p1]) (rest := []) ⟨hx, hb, hml, hown, hts⟩ (c_Water_cutAt N l dC dI h0 a1 a2 k1 k2 H.size full cnt vf hf p1 ur1 hc1) (cwV 1 hts (gx_gV mw_321 mw_318 mw_320 mw_2 mw_32) rfl rfl rfl (by decide +kernel) ⟨Nat.le_of_ble_eq_true rfl, Nat.le_of_ble_eq_true rfl⟩) ⟨fun a U g mk q => by obtain ⟨q0, q1, qP, qK, qD, qE⟩ := q; exact ⟨q0, q1, qP, va_K.moved (u := U) (U := U.calling g mk a) (Vm.Alike.refl U.vm) qK, qD, qE.calls⟩, va_recv hKc hPc (ci := 2) (q0 := 0) rfl rfl, fun U hU hW => ⟨rfl, by rw [hU], by rw [hU]; exact hPc, va_K.moved hW.alike hKc, hDc.weaken (fun _ _ _ _ => trivial), hE.warm hW⟩⟩ rfl rfl hl.1 rfl (lv_room (Nat.le_of_ble_eq_true rfl)) d_Water_heatBetween_2 ⟨(Nat.zero_le _), (Nat.zero_le _)⟩) hS (fun q _ h => hFc q h) hFc (fun r1 _ t H locs ht hvm hw hB hz1 hk1 hS => ?_)
    obtain ⟨hP1, hK1, hD1⟩ := hB
    rw [ht] at hP1
    rw [hw]
    obtain ⟨hP, hD⟩ := va_join (wr := []) (w1 := [(h0, .inr (2, [.int full, .ref a1, .ref a2, .int ur1.2.1])), (a1, .inl (k1, 42, .inl ur1.2.2.1)), (a2, .inl (k2, 42, .inr (.inl ur1.2.2.2)))]) hP hD [0, 1, 2] [] rfl rfl (by decide) (by decide) hk1 hFc hP1 hD1
    have hP : va_P (dC, dI) classes [(h0, .inr (2, [.int full, .ref a1, .ref a2, .int ur1.2.1])), (a1, .inl (k1, 42, .inl ur1.2.2.1)), (a2, .inl (k2, 42, .inr (.inl ur1.2.2.2)))] H := hP
    have hD : va_D A [(h0, .inr (2, [.int full, .ref a1, .ref a2, .int ur1.2.1])), (a1, .inl (k1, 42, .inl ur1.2.2.1)), (a2, .inl (k2, 42, .inr (.inl ur1.2.2.2)))] := hD
    refine lv_istore (lv' := [(4, .int ur1.1), (0, .ref h0), (1, .int p1), (2, .int p2), (3, .int p3)]) hx hb d_Water_heatBetween_5 hl (by decide) rfl (fun ls hl => ?_)
    refine lv_aload_n hx hb d_Water_heatBetween_7 rfl (lv_at hl 1 rfl) ?_
    refine lv_iload_n hx hb d_Water_heatBetween_8 rfl (lv_at hl 3 rfl) ?_
    have hPc := hP.sub (ws' := [(h0, .inr (2, [.int full, .ref a1, .ref a2, .int ur1.2.1])), (a1, .inl (k1, 42, .inl ur1.2.2.1)), (a2, .inl (k2, 42, .inr (.inl ur1.2.2.2)))]) [0, 1, 2] rfl
    have hDc := hD.sub (ws' := [(h0, .inr (2, [.int full, .ref a1, .ref a2, .int ur1.2.1])), (a1, .inl (k1, 42, .inl ur1.2.2.1)), (a2, .inl (k2, 42, .inr (.inl ur1.2.2.2)))]) [0, 1, 2] (by decide) rfl
    have hKc := hK.sub (tys' := [(k1, .int), (k2, .long)]) [0, 1] rfl
    have hFc := va_free (wc := [(h0, .inr (2, [.int full, .ref a1, .ref a2, .int ur1.2.1])), (a1, .inl (k1, 42, .inl ur1.2.2.1)), (a2, .inl (k2, 42, .inr (.inl ur1.2.2.2)))]) hD hS hA [0, 1, 2] rfl
    obtain ⟨ur2, hc2, h⟩ := gx_bind h
    refine va_calli (va_runV (As := [.int p2]) (rest := []) ⟨hx, hb, hml, hown, hts⟩ (c_Water_cutAt N l dC dI h0 a1 a2 k1 k2 H.size full ur1.2.1 ur1.2.2.1 ur1.2.2.2 p2 ur2 hc2) (cwV 1 hts (gx_gV mw_321 mw_318 mw_320 mw_2 mw_32) rfl rfl rfl (by decide +kernel) ⟨Nat.le_of_ble_eq_true rfl, Nat.le_of_ble_eq_true rfl⟩) ⟨fun a U g mk q => by obtain ⟨q0, q1, qP, qK, qD, qE⟩ := q; exact ⟨q0, q1, qP, va_K.moved (u := U) (U := U.calling g mk a) (Vm.Alike.refl U.vm) qK, qD, qE.calls⟩, va_recv hKc hPc (ci := 2) (q0 := 0) rfl rfl, fun U hU hW => ⟨rfl, by rw [hU], by rw [hU]; exact hPc, va_K.moved hW.alike hKc, hDc.weaken (fun _ _ _ _ => trivial), hE.warm hW⟩⟩ rfl rfl hl.1 rfl (lv_room (Nat.le_of_ble_eq_true rfl)) d_Water_heatBetween_9 ⟨(Nat.zero_le _), (Nat.zero_le _)⟩) hS (fun q _ h => hFc q h) hFc (fun r2 _ t H locs ht hvm hw hB hz1 hk1 hS => ?_)
    obtain ⟨hP1, hK1, hD1⟩ := hB
    rw [ht] at hP1
    rw [hw]
    obtain ⟨hP, hD⟩ := va_join (wr := []) (w1 := [(h0, .inr (2, [.int full, .ref a1, .ref a2, .int ur2.2.1])), (a1, .inl (k1, 42, .inl ur2.2.2.1)), (a2, .inl (k2, 42, .inr (.inl ur2.2.2.2)))]) hP hD [0, 1, 2] [] rfl rfl (by decide) (by decide) hk1 hFc hP1 hD1
    have hP : va_P (dC, dI) classes [(h0, .inr (2, [.int full, .ref a1, .ref a2, .int ur2.2.1])), (a1, .inl (k1, 42, .inl ur2.2.2.1)), (a2, .inl (k2, 42, .inr (.inl ur2.2.2.2)))] H := hP
    have hD : va_D A [(h0, .inr (2, [.int full, .ref a1, .ref a2, .int ur2.2.1])), (a1, .inl (k1, 42, .inl ur2.2.2.1)), (a2, .inl (k2, 42, .inr (.inl ur2.2.2.2)))] := hD
    refine lv_istore (lv' := [(5, .int ur2.1), (4, .int ur1.1), (0, .ref h0), (1, .int p1), (2, .int p2), (3, .int p3)]) hx hb d_Water_heatBetween_12 hl (by decide) rfl (fun ls hl => ?_)
    refine lv_iload_n hx hb d_Water_heatBetween_14 rfl (lv_at hl 5 rfl) ?_
    refine lv_i2l (v := p3.toInt64) hx hb d_Water_heatBetween_15 rfl ?_
    refine lv_lstore (lv' := [(6, .long p3.toInt64), (5, .int ur2.1), (4, .int ur1.1), (0, .ref h0), (1, .int p1), (2, .int p2), (3, .int p3)]) hx hb d_Water_heatBetween_16 hl (by decide) rfl (fun ls hl => ?_)
    refine lv_iload hx hb d_Water_heatBetween_18 (lv_at hl 2 rfl) ?_
    refine lv_istore (lv' := [(8, .int ur1.1), (6, .long p3.toInt64), (5, .int ur2.1), (4, .int ur1.1), (0, .ref h0), (1, .int p1), (2, .int p2), (3, .int p3)]) hx hb d_Water_heatBetween_20 hl (by decide) rfl (fun ls hl => ?_)
    exact (loop N) p1 p2 p3 ur1.1 ur2.1 p3.toInt64 ur1.1 ur2.2.1 ur2.2.2.1 ur2.2.2.2 h _ _ hP hD hS ls (lv_sub hl [4, 5, 6, 7, 3, 2, 1, 0] rfl)
  have hl := lv_entry ([.ref h0, .int p1, .int p2, .int p3]) (n := 11) (Nat.le_of_ble_eq_true rfl)
  rw [lg_entry_eq]
  generalize (lg_sl ([.ref h0, .int p1, .int p2, .int p3]) ++ List.replicate (11 - (lg_sl ([.ref h0, .int p1, .int p2, .int p3])).length) Slot.unset).toArray = ls at hl ⊢
  exact key _ _ hP hD va_S.rf ls hl
def bk_Water_loseHeat_6 (N : Nat) (full : Int32) (K : Int32 × Int32 × Int32 × Int64 × Int32 × Int32 × (Nat → Int32) × (Nat → Int64) → Option (Int64 × Int32 × (Nat → Int32) × (Nat → Int64))) (x1 : Int32) (x2 : Int32) (x3 : Int32) (x4 : Int64) (x6 : Int32) (cnt : Int32) (vf : Nat → Int32) (hf : Nat → Int64) : Option (Int64 × Int32 × (Nat → Int32) × (Nat → Int64)) :=
  if cnt ≤ x6 then (fn_Water_mix N full cnt vf hf).bind (fun ur2 => some (x4, ur2.1, ur2.2.1, ur2.2.2)) else if gx_inb x6 42 = true then if gx_inb x6 42 = true then (fn_TL_shareOf N ((hf x6.toNatClampNeg) - (((vf x6.toNatClampNeg).toInt64) * x1.toInt64)) x2.toInt64 x3.toInt64).bind (fun ur5 => if gx_inb x6 42 = true then if gx_inb x6 42 = true then K (x1, x2, x3, x4 + ur5, x6 + 1, cnt, vf, vp_updL hf x6.toNatClampNeg ((hf x6.toNatClampNeg) - ur5)) else none else none) else none else none
def st_Water_loseHeat (N : Nat) (full : Int32) (K : Int32 × Int32 × Int32 × Int64 × Int32 × Int32 × (Nat → Int32) × (Nat → Int64) → Option (Int64 × Int32 × (Nat → Int32) × (Nat → Int64))) (z : Int32 × Int32 × Int32 × Int64 × Int32 × Int32 × (Nat → Int32) × (Nat → Int64)) : Option (Int64 × Int32 × (Nat → Int32) × (Nat → Int64)) := match z with
  | (x1, x2, x3, x4, x6, cnt, vf, hf) => bk_Water_loseHeat_6 N full K x1 x2 x3 x4 x6 cnt vf hf
def fn_Water_loseHeat (N : Nat) (p1 : Int32) (p2 : Int32) (p3 : Int32) (full : Int32) (cnt : Int32) (vf : Nat → Int32) (hf : Nat → Int64) : Option (Int64 × Int32 × (Nat → Int32) × (Nat → Int64)) :=
  gx_fx (st_Water_loseHeat N full) N (p1, p2, p3, 0, 0, cnt, vf, hf)
def w_Water_loseHeat : List Cond := .code y_Water_loseHeat b_Water_loseHeat 9 (some .long) :: gx_W
set_option maxHeartbeats 4000000 in
set_option maxRecDepth 100000 in
theorem c_Water_loseHeat (N : Nat) (l : Launch) (dC : Nat → ClassId) (dI : Nat → Nat → Nat) (h0 : Nat) (a1 : Nat) (a2 : Nat) (k1 : ClassId) (k2 : ClassId) (sz : Nat) (full : Int32) (cnt : Int32) (vf : Nat → Int32) (hf : Nat → Int64) (p1 : Int32) (p2 : Int32) (p3 : Int32) (res : Int64 × Int32 × (Nat → Int32) × (Nat → Int64)) (h : fn_Water_loseHeat N p1 p2 p3 full cnt vf hf = some res) : Met l y_Water_loseHeat w_Water_loseHeat ({ frames := 3, cells := 0, slots := 0, locals := 66 } : Room) (va_Pc [.ref h0, .int p1, .int p2, .int p3] (fun U => U.heap.size = sz ∧ va_P (dC, dI) classes [(h0, .inr (2, [.int full, .ref a1, .ref a2, .int cnt])), (a1, .inl (k1, 42, .inl vf)), (a2, .inl (k2, 42, .inr (.inl hf)))] U.heap ∧ va_K (dC, dI) classes [(k1, .int), (k2, .long)] U ∧ va_D (fun _ => True) [(h0, .inr (2, [.int full, .ref a1, .ref a2, .int cnt])), (a1, .inl (k1, 42, .inl vf)), (a2, .inl (k2, 42, .inr (.inl hf)))] ∧ gx_E U)) (va_Ql (fun (r : Int64) (_ : Unit) => r = res.1) (fun _ t => va_P (dC, dI) classes [(h0, .inr (2, [.int full, .ref a1, .ref a2, .int res.2.1])), (a1, .inl (k1, 42, .inl res.2.2.1)), (a2, .inl (k2, 42, .inr (.inl res.2.2.2)))] t.heap ∧ va_K (dC, dI) classes [(k1, .int), (k2, .long)] t ∧ va_D (va_A [(h0, .inr (2, [.int full, .ref a1, .ref a2, .int cnt])), (a1, .inl (k1, 42, .inl vf)), (a2, .inl (k2, 42, .inr (.inl hf)))] sz) [(h0, .inr (2, [.int full, .ref a1, .ref a2, .int res.2.1])), (a1, .inl (k1, 42, .inl res.2.2.1)), (a2, .inl (k2, 42, .inr (.inl res.2.2.2)))]) (va_A [(h0, .inr (2, [.int full, .ref a1, .ref a2, .int cnt])), (a1, .inl (k1, 42, .inl vf)), (a2, .inl (k2, 42, .inr (.inl hf)))] sz)) 0 0 (va_A [(h0, .inr (2, [.int full, .ref a1, .ref a2, .int cnt])), (a1, .inl (k1, 42, .inl vf)), (a2, .inl (k2, 42, .inr (.inl hf)))] sz) := by
  refine Met.ofW (cc := b_Water_loseHeat) (maxL := 9) (ret := (some .long)) (by decide) rfl ?_
  intro p e s m args below meth c s₁ B hml hv
  obtain ⟨rfl, hsz, hP, hK, hD0, hE⟩ := hv
  have hx := B.exec
  have hb := B.bytes
  have hr := B.returns
  have hts := atoms_spec (ws := w_Water_loseHeat) B.pre
  have hown : s.vm.findClass R_Water = some m.cls := findClass_of_methodNamed B.named
  have hlocks := B.notSynchronized
  subst hsz
  have hD := hD0.self (sz := s.heap.size)
  generalize hAe : va_A [(h0, .inr (2, [.int full, .ref a1, .ref a2, .int cnt])), (a1, .inl (k1, 42, .inl vf)), (a2, .inl (k2, 42, .inr (.inl hf)))] s.heap.size = A at hD ⊢
  have hA : ∀ q : Nat, s.heap.size ≤ q → A q := fun q h => by rw [← hAe]; exact Or.inr h
  clear hAe hD0
  have loop : ∀ n : Nat, (∀ (x1 : Int32) (x2 : Int32) (x3 : Int32) (x4 : Int64) (x6 : Int32) (cnt : Int32) (vf : Nat → Int32) (hf : Nat → Int64), gx_fx (st_Water_loseHeat N full) n (x1, x2, x3, x4, x6, cnt, vf, hf) = some res → ∀ (H : Heap) (locs : List Loc), va_P (dC, dI) classes [(h0, .inr (2, [.int full, .ref a1, .ref a2, .int cnt])), (a1, .inl (k1, 42, .inl vf)), (a2, .inl (k2, 42, .inr (.inl hf)))] H → va_D A [(h0, .inr (2, [.int full, .ref a1, .ref a2, .int cnt])), (a1, .inl (k1, 42, .inl vf)), (a2, .inl (k2, 42, .inr (.inl hf)))] → va_S A s.heap H locs → ∀ (ls : Array Slot), lv_has ls 9 [(0, .ref h0), (1, .int x1), (2, .int x2), (3, .int x3), (4, .long x4), (6, .int x6)] → W p l e ({ frames := 3, cells := 0, slots := 0, locals := 66 } : Room) s m ([.ref h0, .int p1, .int p2, .int p3] : List Value).toArray below meth c H locs 0 0 (MQ below (va_Ql (fun (r : Int64) (_ : Unit) => r = res.1) (fun _ t => va_P (dC, dI) classes [(h0, .inr (2, [.int full, .ref a1, .ref a2, .int res.2.1])), (a1, .inl (k1, 42, .inl res.2.2.1)), (a2, .inl (k2, 42, .inr (.inl res.2.2.2)))] t.heap ∧ va_K (dC, dI) classes [(k1, .int), (k2, .long)] t ∧ va_D A [(h0, .inr (2, [.int full, .ref a1, .ref a2, .int res.2.1])), (a1, .inl (k1, 42, .inl res.2.2.1)), (a2, .inl (k2, 42, .inr (.inl res.2.2.2)))]) A) ([.ref h0, .int p1, .int p2, .int p3] : List Value).toArray s 0 0 A) (F0 m 6 ls [])) := by
    intro n
    induction n with
    | zero => exact fun _ _ _ _ _ _ _ _ h => gx_fx0 h
    | succ n ih =>
        intro x1 x2 x3 x4 x6 cnt vf hf h H locs hP hD hS ls hl
        replace h : bk_Water_loseHeat_6 N full (gx_fx (st_Water_loseHeat N full) n) x1 x2 x3 x4 x6 cnt vf hf = some res := h
        unfold bk_Water_loseHeat_6 at h
        refine lv_iload hx hb d_Water_loseHeat_6 (lv_at hl 5 rfl) ?_
        refine lv_aload_n hx hb d_Water_loseHeat_8 rfl (lv_at hl 0 rfl) ?_
        refine va_get (D := (dC, dI)) (ci := 2) (v := .int cnt) (C := R_Water) (T := F_Water) (N := 4) hx hb hts (gx_in i_Water) hown hK hP 0 rfl rfl 3 (by decide) (hts _ (gx_w mw_177)) (fun _ h9 => h9) rfl d_Water_loseHeat_9 ?_
        refine lv_icmp_ge (tgt := 68) hx hb d_Water_loseHeat_12 (by decide) (fun c1 => ?_) (fun c1 => ?_)
        · replace h := gx_pos c1 h
          refine lv_aload_n hx hb d_Water_loseHeat_68 rfl (lv_at hl 0 rfl) ?_
          have hPc := hP.sub (ws' := [(h0, .inr (2, [.int full, .ref a1, .ref a2, .int cnt])), (a1, .inl (k1, 42, .inl vf)), (a2, .inl (k2, 42, .inr (.inl hf)))]) [0, 1, 2] rfl
          have hDc := hD.sub (ws' := [(h0, .inr (2, [.int full, .ref a1, .ref a2, .int cnt])), (a1, .inl (k1, 42, .inl vf)), (a2, .inl (k2, 42, .inr (.inl hf)))]) [0, 1, 2] (by decide) rfl
          have hKc := hK.sub (tys' := [(k1, .int), (k2, .long)]) [0, 1] rfl
          have hFc := va_free (wc := [(h0, .inr (2, [.int full, .ref a1, .ref a2, .int cnt])), (a1, .inl (k1, 42, .inl vf)), (a2, .inl (k2, 42, .inr (.inl hf)))]) hD hS hA [0, 1, 2] rfl
          obtain ⟨ur2, hc2, h⟩ := gx_bind h
          refine va_callv (va_runV (As := []) (rest := []) ⟨hx, hb, hml, hown, hts⟩ (c_Water_mix N l dC dI h0 a1 a2 k1 k2 H.size full cnt vf hf ur2 hc2) (cwV 0 hts (gx_gV mw_346 mw_343 mw_345 mw_5 mw_32) rfl rfl rfl (by decide +kernel) ⟨Nat.le_of_ble_eq_true rfl, Nat.le_of_ble_eq_true rfl⟩) ⟨fun a U g mk q => by obtain ⟨q0, q1, qP, qK, qD, qE⟩ := q; exact ⟨q0, q1, qP, va_K.moved (u := U) (U := U.calling g mk a) (Vm.Alike.refl U.vm) qK, qD, qE.calls⟩, va_recv hKc hPc (ci := 2) (q0 := 0) rfl rfl, fun U hU hW => ⟨rfl, by rw [hU], by rw [hU]; exact hPc, va_K.moved hW.alike hKc, hDc.weaken (fun _ _ _ _ => trivial), hE.warm hW⟩⟩ rfl rfl hl.1 rfl (lv_room (Nat.le_of_ble_eq_true rfl)) d_Water_loseHeat_69 ⟨(Nat.zero_le _), (Nat.zero_le _)⟩) hS (fun q _ h => hFc q h) hFc (fun _ t H locs ht hvm hw hB hz1 hk1 hS => ?_)
          obtain ⟨hP1, hK1, hD1⟩ := hB
          rw [ht] at hP1
          obtain ⟨hP, hD⟩ := va_join (wr := []) (w1 := [(h0, .inr (2, [.int full, .ref a1, .ref a2, .int ur2.1])), (a1, .inl (k1, 42, .inl ur2.2.1)), (a2, .inl (k2, 42, .inr (.inl ur2.2.2)))]) hP hD [0, 1, 2] [] rfl rfl (by decide) (by decide) hk1 hFc hP1 hD1
          have hP : va_P (dC, dI) classes [(h0, .inr (2, [.int full, .ref a1, .ref a2, .int ur2.1])), (a1, .inl (k1, 42, .inl ur2.2.1)), (a2, .inl (k2, 42, .inr (.inl ur2.2.2)))] H := hP
          have hD : va_D A [(h0, .inr (2, [.int full, .ref a1, .ref a2, .int ur2.1])), (a1, .inl (k1, 42, .inl ur2.2.1)), (a2, .inl (k2, 42, .inr (.inl ur2.2.2)))] := hD
          refine lv_lload hx hb d_Water_loseHeat_72 (lv_at hl 4 rfl) ?_
          rw [← Option.some.inj h]
          have hP9 := hP
          have hD9 := hD
          exact W.lret (v := x4) hx hb hr (fun t ht hW => ⟨⟨x4, (), rfl, rfl, ⟨by rw [ht]; exact hP9, va_K.moved hW.alike hK, hD9⟩⟩, hS.F ht⟩) hS.2.2 d_Water_loseHeat_74
        · replace h := gx_neg c1 h
          refine lv_aload_n hx hb d_Water_loseHeat_15 rfl (lv_at hl 0 rfl) ?_
          refine va_get (D := (dC, dI)) (ci := 2) (v := .ref a2) (C := R_Water) (T := F_Water) (N := 4) hx hb hts (gx_in i_Water) hown hK hP 0 rfl rfl 2 (by decide) (hts _ (gx_w mw_175)) (fun _ h9 => h9) rfl d_Water_loseHeat_16 ?_
          refine lv_iload hx hb d_Water_loseHeat_19 (lv_at hl 5 rfl) ?_
          obtain ⟨hi3, h⟩ := gx_inb_of h
          refine va_lald hx hb hK hP 2 1 rfl rfl hi3 d_Water_loseHeat_21 ?_
          refine lv_aload_n hx hb d_Water_loseHeat_22 rfl (lv_at hl 0 rfl) ?_
          refine va_get (D := (dC, dI)) (ci := 2) (v := .ref a1) (C := R_Water) (T := F_Water) (N := 4) hx hb hts (gx_in i_Water) hown hK hP 0 rfl rfl 1 (by decide) (hts _ (gx_w mw_173)) (fun _ h9 => h9) rfl d_Water_loseHeat_23 ?_
          refine lv_iload hx hb d_Water_loseHeat_26 (lv_at hl 5 rfl) ?_
          obtain ⟨hi4, h⟩ := gx_inb_of h
          refine va_iald hx hb hK hP 1 0 rfl rfl hi4 d_Water_loseHeat_28 ?_
          refine lv_i2l (v := (vf x6.toNatClampNeg).toInt64) hx hb d_Water_loseHeat_29 rfl ?_
          refine lv_iload_n hx hb d_Water_loseHeat_30 rfl (lv_at hl 1 rfl) ?_
          refine lv_i2l (v := x1.toInt64) hx hb d_Water_loseHeat_31 rfl ?_
          refine lv_lmul hx hb d_Water_loseHeat_32 ?_
          refine lv_lsub hx hb d_Water_loseHeat_33 ?_
          refine lv_iload_n hx hb d_Water_loseHeat_34 rfl (lv_at hl 2 rfl) ?_
          refine lv_i2l (v := x2.toInt64) hx hb d_Water_loseHeat_35 rfl ?_
          refine lv_iload_n hx hb d_Water_loseHeat_36 rfl (lv_at hl 3 rfl) ?_
          refine lv_i2l (v := x3.toInt64) hx hb d_Water_loseHeat_37 rfl ?_
          have hPc := hP.sub (ws' := []) [] rfl
          have hDc := hD.sub (ws' := []) [] (by decide) rfl
          have hKc := hK.sub (tys' := []) [] rfl
          have hFc := va_free (wc := []) hD hS hA [] rfl
          obtain ⟨ur5, hc5, h⟩ := gx_bind h
          refine va_calll (va_runSN (As := [.long ((hf x6.toNatClampNeg) - (((vf x6.toNatClampNeg).toInt64) * x1.toInt64)), .long x2.toInt64, .long x3.toInt64]) (rest := []) ⟨hx, hb, hml, hown, hts⟩ (c_TL_shareOf N l dC dI H.size ((hf x6.toNatClampNeg) - (((vf x6.toNatClampNeg).toInt64) * x1.toInt64)) x2.toInt64 x3.toInt64 ur5 hc5) ⟨va_cnB 3 hts (gx_gi mw_324) rfl rfl rfl hE.1 (hts _ (gx_w mw_24)) (by decide +kernel) ⟨Nat.le_of_ble_eq_true rfl, Nat.le_of_ble_eq_true rfl⟩, (hts _ (gx_w mw_323)), trivial⟩ ⟨fun a U g mk q => by obtain ⟨q0, q1, qP, qK, qD, qE⟩ := q; exact ⟨q0, q1, qP, va_K.moved (u := U) (U := U.calling g mk a) (Vm.Alike.refl U.vm) qK, qD, qE.calls⟩, fun U hU hW => ⟨rfl, by rw [hU], by rw [hU]; exact hPc, va_K.moved hW.alike hKc, hDc.weaken (fun _ _ _ _ => trivial), hE.warm hW⟩⟩ rfl rfl hl.1 rfl (lv_room (Nat.le_of_ble_eq_true rfl)) d_Water_loseHeat_38 ⟨(Nat.zero_le _), (Nat.zero_le _)⟩) hS (fun q _ h => hFc q h) hFc (fun r5 _ t H locs ht hvm hw hB hz1 hk1 hS => ?_)
          obtain ⟨hP1, hK1, hD1⟩ := hB
          rw [ht] at hP1
          rw [hw]
          replace hP := gx_keep0 hP hk1
          refine lv_lstore (lv' := [(7, .long ur5), (0, .ref h0), (1, .int x1), (2, .int x2), (3, .int x3), (4, .long x4), (6, .int x6)]) hx hb d_Water_loseHeat_41 hl (by decide) rfl (fun ls hl => ?_)
          refine lv_aload_n hx hb d_Water_loseHeat_43 rfl (lv_at hl 1 rfl) ?_
          refine va_get (D := (dC, dI)) (ci := 2) (v := .ref a2) (C := R_Water) (T := F_Water) (N := 4) hx hb hts (gx_in i_Water) hown hK hP 0 rfl rfl 2 (by decide) (hts _ (gx_w mw_175)) (fun _ h9 => h9) rfl d_Water_loseHeat_44 ?_
          refine lv_iload hx hb d_Water_loseHeat_47 (lv_at hl 6 rfl) ?_
          refine lv_dup2_11 hx hb d_Water_loseHeat_49 rfl rfl ?_
          obtain ⟨hi6, h⟩ := gx_inb_of h
          refine va_lald hx hb hK hP 2 1 rfl rfl hi6 d_Water_loseHeat_50 ?_
          refine lv_lload hx hb d_Water_loseHeat_51 (lv_at hl 0 rfl) ?_
          refine lv_lsub hx hb d_Water_loseHeat_53 ?_
          obtain ⟨hi7, h⟩ := gx_inb_of h
          refine va_last hx hb hK hP hD hS 2 1 rfl rfl hi7 d_Water_loseHeat_54 (fun H locs hP hD hS => ?_)
          have hP : va_P (dC, dI) classes [(h0, .inr (2, [.int full, .ref a1, .ref a2, .int cnt])), (a1, .inl (k1, 42, .inl vf)), (a2, .inl (k2, 42, .inr (.inl (vp_updL hf x6.toNatClampNeg ((hf x6.toNatClampNeg) - ur5)))))] H := hP
          have hD : va_D A [(h0, .inr (2, [.int full, .ref a1, .ref a2, .int cnt])), (a1, .inl (k1, 42, .inl vf)), (a2, .inl (k2, 42, .inr (.inl (vp_updL hf x6.toNatClampNeg ((hf x6.toNatClampNeg) - ur5)))))] := hD
          refine lv_lload hx hb d_Water_loseHeat_55 (lv_at hl 5 rfl) ?_
          refine lv_lload hx hb d_Water_loseHeat_57 (lv_at hl 0 rfl) ?_
          refine lv_ladd hx hb d_Water_loseHeat_59 ?_
          refine lv_lstore (lv' := [(4, .long (x4 + ur5)), (7, .long ur5), (0, .ref h0), (1, .int x1), (2, .int x2), (3, .int x3), (6, .int x6)]) hx hb d_Water_loseHeat_60 hl (by decide) rfl (fun ls hl => ?_)
          refine lv_iinc (v := x6 + 1) (lv' := [(6, .int (x6 + 1)), (4, .long (x4 + ur5)), (7, .long ur5), (0, .ref h0), (1, .int x1), (2, .int x2), (3, .int x3)]) hx hb d_Water_loseHeat_62 hl (k := 6) rfl rfl (by decide) rfl (fun ls hl => ?_)
          refine lv_goto (tgt := 6) hx hb d_Water_loseHeat_65 (by decide) ?_
          exact ih x1 x2 x3 (x4 + ur5) (x6 + 1) cnt vf (vp_updL hf x6.toNatClampNeg ((hf x6.toNatClampNeg) - ur5)) h _ _ hP hD hS ls (lv_sub hl [3, 4, 5, 6, 1, 0] rfl)
  have key : ∀ (H : Heap) (locs : List Loc), va_P (dC, dI) classes [(h0, .inr (2, [.int full, .ref a1, .ref a2, .int cnt])), (a1, .inl (k1, 42, .inl vf)), (a2, .inl (k2, 42, .inr (.inl hf)))] H → va_D A [(h0, .inr (2, [.int full, .ref a1, .ref a2, .int cnt])), (a1, .inl (k1, 42, .inl vf)), (a2, .inl (k2, 42, .inr (.inl hf)))] → va_S A s.heap H locs → ∀ (ls : Array Slot), lv_has ls 9 [(0, .ref h0), (1, .int p1), (2, .int p2), (3, .int p3)] → W p l e ({ frames := 3, cells := 0, slots := 0, locals := 66 } : Room) s m ([.ref h0, .int p1, .int p2, .int p3] : List Value).toArray below meth c H locs 0 0 (MQ below (va_Ql (fun (r : Int64) (_ : Unit) => r = res.1) (fun _ t => va_P (dC, dI) classes [(h0, .inr (2, [.int full, .ref a1, .ref a2, .int res.2.1])), (a1, .inl (k1, 42, .inl res.2.2.1)), (a2, .inl (k2, 42, .inr (.inl res.2.2.2)))] t.heap ∧ va_K (dC, dI) classes [(k1, .int), (k2, .long)] t ∧ va_D A [(h0, .inr (2, [.int full, .ref a1, .ref a2, .int res.2.1])), (a1, .inl (k1, 42, .inl res.2.2.1)), (a2, .inl (k2, 42, .inr (.inl res.2.2.2)))]) A) ([.ref h0, .int p1, .int p2, .int p3] : List Value).toArray s 0 0 A) (F0 m 0 ls []) := by
    intro H locs hP hD hS ls hl
    unfold fn_Water_loseHeat at h
    refine lv_lconst (v := 0) hx hb d_Water_loseHeat_0 (by decide) ?_
    refine lv_lstore (lv' := [(4, .long 0), (0, .ref h0), (1, .int p1), (2, .int p2), (3, .int p3)]) hx hb d_Water_loseHeat_1 hl (by decide) rfl (fun ls hl => ?_)
    refine lv_iconst (v := 0) hx hb d_Water_loseHeat_3 (by decide) ?_
    refine lv_istore (lv' := [(6, .int 0), (4, .long 0), (0, .ref h0), (1, .int p1), (2, .int p2), (3, .int p3)]) hx hb d_Water_loseHeat_4 hl (by decide) rfl (fun ls hl => ?_)
    exact (loop N) p1 p2 p3 0 0 cnt vf hf h _ _ hP hD hS ls (lv_sub hl [2, 3, 4, 5, 1, 0] rfl)
  have hl := lv_entry ([.ref h0, .int p1, .int p2, .int p3]) (n := 9) (Nat.le_of_ble_eq_true rfl)
  rw [lg_entry_eq]
  generalize (lg_sl ([.ref h0, .int p1, .int p2, .int p3]) ++ List.replicate (9 - (lg_sl ([.ref h0, .int p1, .int p2, .int p3])).length) Slot.unset).toArray = ls at hl ⊢
  exact key _ _ hP hD va_S.rf ls hl
