theorem mw_354 : (Cond.code y_Water_joinLowest b_Water_joinLowest 3 none) ∈ gx_W := List.mem_filter.mpr ⟨List.mem_of_getElem? (i := 354) (by decide +kernel), by decide +kernel⟩
theorem mw_351 : (Cond.methodLink R_Water 66 y_Water_joinLowest) ∈ gx_W := List.mem_filter.mpr ⟨List.mem_of_getElem? (i := 351) (by decide +kernel), by decide +kernel⟩
theorem mw_353 : (Cond.instanceMethod y_Water_joinLowest) ∈ gx_W := List.mem_filter.mpr ⟨List.mem_of_getElem? (i := 353) (by decide +kernel), by decide +kernel⟩
theorem mw_7 : (Cond.selects R_Water y_Water_joinLowest y_Water_joinLowest) ∈ gx_W := List.mem_filter.mpr ⟨List.mem_of_getElem? (i := 7) (by decide +kernel), by decide +kernel⟩
theorem mw_350 : (Cond.code y_Water_isAsWarmAsNext b_Water_isAsWarmAsNext 2 (some .boolean)) ∈ gx_W := List.mem_filter.mpr ⟨List.mem_of_getElem? (i := 350) (by decide +kernel), by decide +kernel⟩
theorem mw_347 : (Cond.methodLink R_Water 62 y_Water_isAsWarmAsNext) ∈ gx_W := List.mem_filter.mpr ⟨List.mem_of_getElem? (i := 347) (by decide +kernel), by decide +kernel⟩
theorem mw_349 : (Cond.instanceMethod y_Water_isAsWarmAsNext) ∈ gx_W := List.mem_filter.mpr ⟨List.mem_of_getElem? (i := 349) (by decide +kernel), by decide +kernel⟩
theorem mw_6 : (Cond.selects R_Water y_Water_isAsWarmAsNext y_Water_isAsWarmAsNext) ∈ gx_W := List.mem_filter.mpr ⟨List.mem_of_getElem? (i := 6) (by decide +kernel), by decide +kernel⟩
theorem mw_324 : (Cond.code y_TL_shareOf b_TL_shareOf 6 (some .long)) ∈ gx_W := List.mem_filter.mpr ⟨List.mem_of_getElem? (i := 324) (by decide +kernel), by decide +kernel⟩
theorem mw_24 : (Cond.initialized R_TL) ∈ gx_W := List.mem_filter.mpr ⟨List.mem_of_getElem? (i := 24) (by decide +kernel), by decide +kernel⟩
theorem mw_323 : (Cond.static y_TL_shareOf) ∈ gx_W := List.mem_filter.mpr ⟨List.mem_of_getElem? (i := 323) (by decide +kernel), by decide +kernel⟩
theorem mw_331 : (Cond.code y_Water_insertLayer b_Water_insertLayer 6 none) ∈ gx_W := List.mem_filter.mpr ⟨List.mem_of_getElem? (i := 331) (by decide +kernel), by decide +kernel⟩
theorem mw_328 : (Cond.methodLink R_Water 52 y_Water_insertLayer) ∈ gx_W := List.mem_filter.mpr ⟨List.mem_of_getElem? (i := 328) (by decide +kernel), by decide +kernel⟩
theorem mw_330 : (Cond.instanceMethod y_Water_insertLayer) ∈ gx_W := List.mem_filter.mpr ⟨List.mem_of_getElem? (i := 330) (by decide +kernel), by decide +kernel⟩
theorem mw_3 : (Cond.selects R_Water y_Water_insertLayer y_Water_insertLayer) ∈ gx_W := List.mem_filter.mpr ⟨List.mem_of_getElem? (i := 3) (by decide +kernel), by decide +kernel⟩
theorem d_Water_mix_0 : decode b_Water_mix 0 = .ok (.iconst 0, 1) := by decide +kernel
theorem d_Water_mix_1 : decode b_Water_mix 1 = .ok (.istore_n 1, 1) := by decide +kernel
theorem d_Water_mix_2 : decode b_Water_mix 2 = .ok (.iconst 0, 1) := by decide +kernel
theorem d_Water_mix_3 : decode b_Water_mix 3 = .ok (.istore_n 2, 1) := by decide +kernel
theorem d_Water_mix_4 : decode b_Water_mix 4 = .ok (.iload_n 2, 1) := by decide +kernel
theorem d_Water_mix_5 : decode b_Water_mix 5 = .ok (.aload_n 0, 1) := by decide +kernel
theorem d_Water_mix_6 : decode b_Water_mix 6 = .ok (.getfield 23, 3) := by decide +kernel
theorem d_Water_mix_9 : decode b_Water_mix 9 = .ok (.if_icmp .ge 95, 3) := by decide +kernel
theorem d_Water_mix_12 : decode b_Water_mix 12 = .ok (.aload_n 0, 1) := by decide +kernel
theorem d_Water_mix_13 : decode b_Water_mix 13 = .ok (.getfield 15, 3) := by decide +kernel
theorem d_Water_mix_16 : decode b_Water_mix 16 = .ok (.iload_n 1, 1) := by decide +kernel
theorem d_Water_mix_17 : decode b_Water_mix 17 = .ok (.aload_n 0, 1) := by decide +kernel
theorem d_Water_mix_18 : decode b_Water_mix 18 = .ok (.getfield 15, 3) := by decide +kernel
theorem d_Water_mix_21 : decode b_Water_mix 21 = .ok (.iload_n 2, 1) := by decide +kernel
theorem d_Water_mix_22 : decode b_Water_mix 22 = .ok (.iaload, 1) := by decide +kernel
theorem d_Water_mix_23 : decode b_Water_mix 23 = .ok (.iastore, 1) := by decide +kernel
theorem d_Water_mix_24 : decode b_Water_mix 24 = .ok (.aload_n 0, 1) := by decide +kernel
theorem d_Water_mix_25 : decode b_Water_mix 25 = .ok (.getfield 19, 3) := by decide +kernel
theorem d_Water_mix_28 : decode b_Water_mix 28 = .ok (.iload_n 1, 1) := by decide +kernel
theorem d_Water_mix_29 : decode b_Water_mix 29 = .ok (.aload_n 0, 1) := by decide +kernel
theorem d_Water_mix_30 : decode b_Water_mix 30 = .ok (.getfield 19, 3) := by decide +kernel
theorem d_Water_mix_33 : decode b_Water_mix 33 = .ok (.iload_n 2, 1) := by decide +kernel
theorem d_Water_mix_34 : decode b_Water_mix 34 = .ok (.laload, 1) := by decide +kernel
theorem d_Water_mix_35 : decode b_Water_mix 35 = .ok (.lastore, 1) := by decide +kernel
theorem d_Water_mix_36 : decode b_Water_mix 36 = .ok (.iinc 1 1, 3) := by decide +kernel
theorem d_Water_mix_39 : decode b_Water_mix 39 = .ok (.iload_n 1, 1) := by decide +kernel
theorem d_Water_mix_40 : decode b_Water_mix 40 = .ok (.iconst 2, 1) := by decide +kernel
theorem d_Water_mix_41 : decode b_Water_mix 41 = .ok (.if_icmp .lt 57, 3) := by decide +kernel
theorem d_Water_mix_44 : decode b_Water_mix 44 = .ok (.aload_n 0, 1) := by decide +kernel
theorem d_Water_mix_45 : decode b_Water_mix 45 = .ok (.iload_n 1, 1) := by decide +kernel
theorem d_Water_mix_46 : decode b_Water_mix 46 = .ok (.iconst 2, 1) := by decide +kernel
theorem d_Water_mix_47 : decode b_Water_mix 47 = .ok (.isub, 1) := by decide +kernel
theorem d_Water_mix_48 : decode b_Water_mix 48 = .ok (.invokevirtual 62, 3) := by decide +kernel
theorem d_Water_mix_51 : decode b_Water_mix 51 = .ok (.ifCond .eq 47, 3) := by decide +kernel
theorem d_Water_mix_54 : decode b_Water_mix 54 = .ok (.aload_n 0, 1) := by decide +kernel
theorem d_Water_mix_55 : decode b_Water_mix 55 = .ok (.getfield 15, 3) := by decide +kernel
theorem d_Water_mix_58 : decode b_Water_mix 58 = .ok (.iload_n 1, 1) := by decide +kernel
theorem d_Water_mix_59 : decode b_Water_mix 59 = .ok (.iconst 2, 1) := by decide +kernel
theorem d_Water_mix_60 : decode b_Water_mix 60 = .ok (.isub, 1) := by decide +kernel
theorem d_Water_mix_61 : decode b_Water_mix 61 = .ok (.dup2, 1) := by decide +kernel
theorem d_Water_mix_62 : decode b_Water_mix 62 = .ok (.iaload, 1) := by decide +kernel
theorem d_Water_mix_63 : decode b_Water_mix 63 = .ok (.aload_n 0, 1) := by decide +kernel
theorem d_Water_mix_64 : decode b_Water_mix 64 = .ok (.getfield 15, 3) := by decide +kernel
theorem d_Water_mix_67 : decode b_Water_mix 67 = .ok (.iload_n 1, 1) := by decide +kernel
theorem d_Water_mix_68 : decode b_Water_mix 68 = .ok (.iconst 1, 1) := by decide +kernel
theorem d_Water_mix_69 : decode b_Water_mix 69 = .ok (.isub, 1) := by decide +kernel
theorem d_Water_mix_70 : decode b_Water_mix 70 = .ok (.iaload, 1) := by decide +kernel
theorem d_Water_mix_71 : decode b_Water_mix 71 = .ok (.iadd, 1) := by decide +kernel
theorem d_Water_mix_72 : decode b_Water_mix 72 = .ok (.iastore, 1) := by decide +kernel
theorem d_Water_mix_73 : decode b_Water_mix 73 = .ok (.aload_n 0, 1) := by decide +kernel
theorem d_Water_mix_74 : decode b_Water_mix 74 = .ok (.getfield 19, 3) := by decide +kernel
theorem d_Water_mix_77 : decode b_Water_mix 77 = .ok (.iload_n 1, 1) := by decide +kernel
theorem d_Water_mix_78 : decode b_Water_mix 78 = .ok (.iconst 2, 1) := by decide +kernel
theorem d_Water_mix_79 : decode b_Water_mix 79 = .ok (.isub, 1) := by decide +kernel
theorem d_Water_mix_80 : decode b_Water_mix 80 = .ok (.dup2, 1) := by decide +kernel
theorem d_Water_mix_81 : decode b_Water_mix 81 = .ok (.laload, 1) := by decide +kernel
theorem d_Water_mix_82 : decode b_Water_mix 82 = .ok (.aload_n 0, 1) := by decide +kernel
theorem d_Water_mix_83 : decode b_Water_mix 83 = .ok (.getfield 19, 3) := by decide +kernel
theorem d_Water_mix_86 : decode b_Water_mix 86 = .ok (.iload_n 1, 1) := by decide +kernel
theorem d_Water_mix_87 : decode b_Water_mix 87 = .ok (.iconst 1, 1) := by decide +kernel
theorem d_Water_mix_88 : decode b_Water_mix 88 = .ok (.isub, 1) := by decide +kernel
theorem d_Water_mix_89 : decode b_Water_mix 89 = .ok (.laload, 1) := by decide +kernel
theorem d_Water_mix_90 : decode b_Water_mix 90 = .ok (.ladd, 1) := by decide +kernel
theorem d_Water_mix_91 : decode b_Water_mix 91 = .ok (.lastore, 1) := by decide +kernel
theorem d_Water_mix_92 : decode b_Water_mix 92 = .ok (.iinc 1 (-1), 3) := by decide +kernel
theorem d_Water_mix_95 : decode b_Water_mix 95 = .ok (.goto (-56), 3) := by decide +kernel
theorem d_Water_mix_98 : decode b_Water_mix 98 = .ok (.iinc 2 1, 3) := by decide +kernel
theorem d_Water_mix_101 : decode b_Water_mix 101 = .ok (.goto (-97), 3) := by decide +kernel
theorem d_Water_mix_104 : decode b_Water_mix 104 = .ok (.aload_n 0, 1) := by decide +kernel
theorem d_Water_mix_105 : decode b_Water_mix 105 = .ok (.iload_n 1, 1) := by decide +kernel
theorem d_Water_mix_106 : decode b_Water_mix 106 = .ok (.putfield 23, 3) := by decide +kernel
theorem d_Water_mix_109 : decode b_Water_mix 109 = .ok (.aload_n 0, 1) := by decide +kernel
theorem d_Water_mix_110 : decode b_Water_mix 110 = .ok (.aload_n 0, 1) := by decide +kernel
theorem d_Water_mix_111 : decode b_Water_mix 111 = .ok (.getfield 23, 3) := by decide +kernel
theorem d_Water_mix_114 : decode b_Water_mix 114 = .ok (.bipush 40, 2) := by decide +kernel
theorem d_Water_mix_116 : decode b_Water_mix 116 = .ok (.isub, 1) := by decide +kernel
theorem d_Water_mix_117 : decode b_Water_mix 117 = .ok (.invokevirtual 66, 3) := by decide +kernel
theorem d_Water_mix_120 : decode b_Water_mix 120 = .ok (.return_, 1) := by decide +kernel
theorem d_Water_cutAt_0 : decode b_Water_cutAt 0 = .ok (.iconst 0, 1) := by decide +kernel
theorem d_Water_cutAt_1 : decode b_Water_cutAt 1 = .ok (.istore_n 2, 1) := by decide +kernel
theorem d_Water_cutAt_2 : decode b_Water_cutAt 2 = .ok (.iconst 0, 1) := by decide +kernel
theorem d_Water_cutAt_3 : decode b_Water_cutAt 3 = .ok (.istore_n 3, 1) := by decide +kernel
theorem d_Water_cutAt_4 : decode b_Water_cutAt 4 = .ok (.iload_n 3, 1) := by decide +kernel
theorem d_Water_cutAt_5 : decode b_Water_cutAt 5 = .ok (.aload_n 0, 1) := by decide +kernel
theorem d_Water_cutAt_6 : decode b_Water_cutAt 6 = .ok (.getfield 23, 3) := by decide +kernel
theorem d_Water_cutAt_9 : decode b_Water_cutAt 9 = .ok (.if_icmp .ge 30, 3) := by decide +kernel
theorem d_Water_cutAt_12 : decode b_Water_cutAt 12 = .ok (.iload_n 2, 1) := by decide +kernel
theorem d_Water_cutAt_13 : decode b_Water_cutAt 13 = .ok (.aload_n 0, 1) := by decide +kernel
theorem d_Water_cutAt_14 : decode b_Water_cutAt 14 = .ok (.getfield 15, 3) := by decide +kernel
theorem d_Water_cutAt_17 : decode b_Water_cutAt 17 = .ok (.iload_n 3, 1) := by decide +kernel
theorem d_Water_cutAt_18 : decode b_Water_cutAt 18 = .ok (.iaload, 1) := by decide +kernel
theorem d_Water_cutAt_19 : decode b_Water_cutAt 19 = .ok (.iadd, 1) := by decide +kernel
theorem d_Water_cutAt_20 : decode b_Water_cutAt 20 = .ok (.iload_n 1, 1) := by decide +kernel
theorem d_Water_cutAt_21 : decode b_Water_cutAt 21 = .ok (.if_icmp .gt 18, 3) := by decide +kernel
theorem d_Water_cutAt_24 : decode b_Water_cutAt 24 = .ok (.iload_n 2, 1) := by decide +kernel
theorem d_Water_cutAt_25 : decode b_Water_cutAt 25 = .ok (.aload_n 0, 1) := by decide +kernel
theorem d_Water_cutAt_26 : decode b_Water_cutAt 26 = .ok (.getfield 15, 3) := by decide +kernel
theorem d_Water_cutAt_29 : decode b_Water_cutAt 29 = .ok (.iload_n 3, 1) := by decide +kernel
theorem d_Water_cutAt_30 : decode b_Water_cutAt 30 = .ok (.iaload, 1) := by decide +kernel
theorem d_Water_cutAt_31 : decode b_Water_cutAt 31 = .ok (.iadd, 1) := by decide +kernel
theorem d_Water_cutAt_32 : decode b_Water_cutAt 32 = .ok (.istore_n 2, 1) := by decide +kernel
theorem d_Water_cutAt_33 : decode b_Water_cutAt 33 = .ok (.iinc 3 1, 3) := by decide +kernel
theorem d_Water_cutAt_36 : decode b_Water_cutAt 36 = .ok (.goto (-32), 3) := by decide +kernel
theorem d_Water_cutAt_39 : decode b_Water_cutAt 39 = .ok (.iload_n 1, 1) := by decide +kernel
theorem d_Water_cutAt_40 : decode b_Water_cutAt 40 = .ok (.iload_n 2, 1) := by decide +kernel
theorem d_Water_cutAt_41 : decode b_Water_cutAt 41 = .ok (.isub, 1) := by decide +kernel
theorem d_Water_cutAt_42 : decode b_Water_cutAt 42 = .ok (.istore 4, 2) := by decide +kernel
theorem d_Water_cutAt_44 : decode b_Water_cutAt 44 = .ok (.iload_n 3, 1) := by decide +kernel
theorem d_Water_cutAt_45 : decode b_Water_cutAt 45 = .ok (.aload_n 0, 1) := by decide +kernel
theorem d_Water_cutAt_46 : decode b_Water_cutAt 46 = .ok (.getfield 23, 3) := by decide +kernel
theorem d_Water_cutAt_49 : decode b_Water_cutAt 49 = .ok (.if_icmp .ge 8, 3) := by decide +kernel
theorem d_Water_cutAt_52 : decode b_Water_cutAt 52 = .ok (.iload 4, 2) := by decide +kernel
theorem d_Water_cutAt_54 : decode b_Water_cutAt 54 = .ok (.ifCond .gt 5, 3) := by decide +kernel
theorem d_Water_cutAt_57 : decode b_Water_cutAt 57 = .ok (.iload_n 3, 1) := by decide +kernel
theorem d_Water_cutAt_58 : decode b_Water_cutAt 58 = .ok (.ireturn, 1) := by decide +kernel
theorem d_Water_cutAt_59 : decode b_Water_cutAt 59 = .ok (.aload_n 0, 1) := by decide +kernel
theorem d_Water_cutAt_60 : decode b_Water_cutAt 60 = .ok (.getfield 19, 3) := by decide +kernel
theorem d_Water_cutAt_63 : decode b_Water_cutAt 63 = .ok (.iload_n 3, 1) := by decide +kernel
theorem d_Water_cutAt_64 : decode b_Water_cutAt 64 = .ok (.laload, 1) := by decide +kernel
theorem d_Water_cutAt_65 : decode b_Water_cutAt 65 = .ok (.iload 4, 2) := by decide +kernel
theorem d_Water_cutAt_67 : decode b_Water_cutAt 67 = .ok (.i2l, 1) := by decide +kernel
theorem d_Water_cutAt_68 : decode b_Water_cutAt 68 = .ok (.aload_n 0, 1) := by decide +kernel
theorem d_Water_cutAt_69 : decode b_Water_cutAt 69 = .ok (.getfield 15, 3) := by decide +kernel
theorem d_Water_cutAt_72 : decode b_Water_cutAt 72 = .ok (.iload_n 3, 1) := by decide +kernel
theorem d_Water_cutAt_73 : decode b_Water_cutAt 73 = .ok (.iaload, 1) := by decide +kernel
theorem d_Water_cutAt_74 : decode b_Water_cutAt 74 = .ok (.i2l, 1) := by decide +kernel
theorem d_Water_cutAt_75 : decode b_Water_cutAt 75 = .ok (.invokestatic 58, 3) := by decide +kernel
theorem d_Water_cutAt_78 : decode b_Water_cutAt 78 = .ok (.lstore 5, 2) := by decide +kernel
theorem d_Water_cutAt_80 : decode b_Water_cutAt 80 = .ok (.aload_n 0, 1) := by decide +kernel
theorem d_Water_cutAt_81 : decode b_Water_cutAt 81 = .ok (.getfield 15, 3) := by decide +kernel
theorem d_Water_cutAt_84 : decode b_Water_cutAt 84 = .ok (.iload_n 3, 1) := by decide +kernel
theorem d_Water_cutAt_85 : decode b_Water_cutAt 85 = .ok (.dup2, 1) := by decide +kernel
theorem d_Water_cutAt_86 : decode b_Water_cutAt 86 = .ok (.iaload, 1) := by decide +kernel
theorem d_Water_cutAt_87 : decode b_Water_cutAt 87 = .ok (.iload 4, 2) := by decide +kernel
theorem d_Water_cutAt_89 : decode b_Water_cutAt 89 = .ok (.isub, 1) := by decide +kernel
theorem d_Water_cutAt_90 : decode b_Water_cutAt 90 = .ok (.iastore, 1) := by decide +kernel
theorem d_Water_cutAt_91 : decode b_Water_cutAt 91 = .ok (.aload_n 0, 1) := by decide +kernel
theorem d_Water_cutAt_92 : decode b_Water_cutAt 92 = .ok (.getfield 19, 3) := by decide +kernel
theorem d_Water_cutAt_95 : decode b_Water_cutAt 95 = .ok (.iload_n 3, 1) := by decide +kernel
theorem d_Water_cutAt_96 : decode b_Water_cutAt 96 = .ok (.dup2, 1) := by decide +kernel
theorem d_Water_cutAt_97 : decode b_Water_cutAt 97 = .ok (.laload, 1) := by decide +kernel
theorem d_Water_cutAt_98 : decode b_Water_cutAt 98 = .ok (.lload 5, 2) := by decide +kernel
theorem d_Water_cutAt_100 : decode b_Water_cutAt 100 = .ok (.lsub, 1) := by decide +kernel
theorem d_Water_cutAt_101 : decode b_Water_cutAt 101 = .ok (.lastore, 1) := by decide +kernel
theorem d_Water_cutAt_102 : decode b_Water_cutAt 102 = .ok (.aload_n 0, 1) := by decide +kernel
theorem d_Water_cutAt_103 : decode b_Water_cutAt 103 = .ok (.iload_n 3, 1) := by decide +kernel
theorem d_Water_cutAt_104 : decode b_Water_cutAt 104 = .ok (.iload 4, 2) := by decide +kernel
theorem d_Water_cutAt_106 : decode b_Water_cutAt 106 = .ok (.lload 5, 2) := by decide +kernel
theorem d_Water_cutAt_108 : decode b_Water_cutAt 108 = .ok (.invokevirtual 52, 3) := by decide +kernel
theorem d_Water_cutAt_111 : decode b_Water_cutAt 111 = .ok (.iload_n 3, 1) := by decide +kernel
theorem d_Water_cutAt_112 : decode b_Water_cutAt 112 = .ok (.iconst 1, 1) := by decide +kernel
theorem d_Water_cutAt_113 : decode b_Water_cutAt 113 = .ok (.iadd, 1) := by decide +kernel
theorem d_Water_cutAt_114 : decode b_Water_cutAt 114 = .ok (.ireturn, 1) := by decide +kernel
def bk_Water_mix_4 (N : Nat) (full : Int32) (K : (Int32 × Int32 × Int32 × (Nat → Int32) × (Nat → Int64)) ⊕ (Int32 × Int32 × Int32 × (Nat → Int32) × (Nat → Int64)) → Option (Int32 × (Nat → Int32) × (Nat → Int64))) (x1 : Int32) (x2 : Int32) (cnt : Int32) (vf : Nat → Int32) (hf : Nat → Int64) : Option (Int32 × (Nat → Int32) × (Nat → Int64)) :=
  if cnt ≤ x2 then (fn_Water_joinLowest N (x1 - 40) full x1 vf hf).bind (fun ur2 => some (ur2.1, ur2.2.1, ur2.2.2)) else if gx_inb x2 42 = true then if gx_inb x1 42 = true then if gx_inb x2 42 = true then if gx_inb x1 42 = true then K (.inr (x1 + 1, x2, cnt, upd vf x1.toNatClampNeg (vf x2.toNatClampNeg), vp_updL hf x1.toNatClampNeg (hf x2.toNatClampNeg))) else none else none else none else none
def bk_Water_mix_39 (N : Nat) (full : Int32) (K : (Int32 × Int32 × Int32 × (Nat → Int32) × (Nat → Int64)) ⊕ (Int32 × Int32 × Int32 × (Nat → Int32) × (Nat → Int64)) → Option (Int32 × (Nat → Int32) × (Nat → Int64))) (x1 : Int32) (x2 : Int32) (cnt : Int32) (vf : Nat → Int32) (hf : Nat → Int64) : Option (Int32 × (Nat → Int32) × (Nat → Int64)) :=
  if x1 < 2 then K (.inl (x1, x2 + 1, cnt, vf, hf)) else (fn_Water_isAsWarmAsNext N (x1 - 2) full cnt vf hf).bind (fun ur8 => if ur8 = 0 then K (.inl (x1, x2 + 1, cnt, vf, hf)) else if gx_inb (x1 - 2) 42 = true then if gx_inb (x1 - 1) 42 = true then if gx_inb (x1 - 2) 42 = true then if gx_inb (x1 - 2) 42 = true then if gx_inb (x1 - 1) 42 = true then if gx_inb (x1 - 2) 42 = true then K (.inr (x1 + (-1), x2, cnt, upd vf (x1 - 2).toNatClampNeg ((vf (x1 - 2).toNatClampNeg) + (vf (x1 - 1).toNatClampNeg)), vp_updL hf (x1 - 2).toNatClampNeg ((hf (x1 - 2).toNatClampNeg) + (hf (x1 - 1).toNatClampNeg)))) else none else none else none else none else none else none)
def st_Water_mix (N : Nat) (full : Int32) (K : (Int32 × Int32 × Int32 × (Nat → Int32) × (Nat → Int64)) ⊕ (Int32 × Int32 × Int32 × (Nat → Int32) × (Nat → Int64)) → Option (Int32 × (Nat → Int32) × (Nat → Int64))) (z : (Int32 × Int32 × Int32 × (Nat → Int32) × (Nat → Int64)) ⊕ (Int32 × Int32 × Int32 × (Nat → Int32) × (Nat → Int64))) : Option (Int32 × (Nat → Int32) × (Nat → Int64)) := match z with
  | .inl (x1, x2, cnt, vf, hf) => bk_Water_mix_4 N full K x1 x2 cnt vf hf
  | .inr (x1, x2, cnt, vf, hf) => bk_Water_mix_39 N full K x1 x2 cnt vf hf
def fn_Water_mix (N : Nat) (full : Int32) (cnt : Int32) (vf : Nat → Int32) (hf : Nat → Int64) : Option (Int32 × (Nat → Int32) × (Nat → Int64)) :=
  gx_fx (st_Water_mix N full) N (.inl (0, 0, cnt, vf, hf))
def w_Water_mix : List Cond := .code y_Water_mix b_Water_mix 3 none :: gx_W
set_option maxHeartbeats 4000000 in
set_option maxRecDepth 100000 in
theorem c_Water_mix (N : Nat) (l : Launch) (dC : Nat → ClassId) (dI : Nat → Nat → Nat) (h0 : Nat) (a1 : Nat) (a2 : Nat) (k1 : ClassId) (k2 : ClassId) (sz : Nat) (full : Int32) (cnt : Int32) (vf : Nat → Int32) (hf : Nat → Int64) (res : Int32 × (Nat → Int32) × (Nat → Int64)) (h : fn_Water_mix N full cnt vf hf = some res) : Met l y_Water_mix w_Water_mix ({ frames := 2, cells := 0, slots := 0, locals := 44 } : Room) (va_Pc [.ref h0] (fun U => U.heap.size = sz ∧ va_P (dC, dI) classes [(h0, .inr (2, [.int full, .ref a1, .ref a2, .int cnt])), (a1, .inl (k1, 42, .inl vf)), (a2, .inl (k2, 42, .inr (.inl hf)))] U.heap ∧ va_K (dC, dI) classes [(k1, .int), (k2, .long)] U ∧ va_D (fun _ => True) [(h0, .inr (2, [.int full, .ref a1, .ref a2, .int cnt])), (a1, .inl (k1, 42, .inl vf)), (a2, .inl (k2, 42, .inr (.inl hf)))] ∧ gx_E U)) (va_Qv (fun _ : Unit => True) (fun _ t => va_P (dC, dI) classes [(h0, .inr (2, [.int full, .ref a1, .ref a2, .int res.1])), (a1, .inl (k1, 42, .inl res.2.1)), (a2, .inl (k2, 42, .inr (.inl res.2.2)))] t.heap ∧ va_K (dC, dI) classes [(k1, .int), (k2, .long)] t ∧ va_D (va_A [(h0, .inr (2, [.int full, .ref a1, .ref a2, .int cnt])), (a1, .inl (k1, 42, .inl vf)), (a2, .inl (k2, 42, .inr (.inl hf)))] sz) [(h0, .inr (2, [.int full, .ref a1, .ref a2, .int res.1])), (a1, .inl (k1, 42, .inl res.2.1)), (a2, .inl (k2, 42, .inr (.inl res.2.2)))]) (va_A [(h0, .inr (2, [.int full, .ref a1, .ref a2, .int cnt])), (a1, .inl (k1, 42, .inl vf)), (a2, .inl (k2, 42, .inr (.inl hf)))] sz)) 0 0 (va_A [(h0, .inr (2, [.int full, .ref a1, .ref a2, .int cnt])), (a1, .inl (k1, 42, .inl vf)), (a2, .inl (k2, 42, .inr (.inl hf)))] sz) := by
  refine Met.ofW (cc := b_Water_mix) (maxL := 3) (ret := none) (by decide) rfl ?_
  intro p e s m args below meth c s₁ B hml hv
  obtain ⟨rfl, hsz, hP, hK, hD0, hE⟩ := hv
  have hx := B.exec
  have hb := B.bytes
  have hr := B.returns
  have hts := atoms_spec (ws := w_Water_mix) B.pre
  have hown : s.vm.findClass R_Water = some m.cls := findClass_of_methodNamed B.named
  have hlocks := B.notSynchronized
  subst hsz
  have hD := hD0.self (sz := s.heap.size)
  generalize hAe : va_A [(h0, .inr (2, [.int full, .ref a1, .ref a2, .int cnt])), (a1, .inl (k1, 42, .inl vf)), (a2, .inl (k2, 42, .inr (.inl hf)))] s.heap.size = A at hD ⊢
  have hA : ∀ q : Nat, s.heap.size ≤ q → A q := fun q h => by rw [← hAe]; exact Or.inr h
  clear hAe hD0
  have loop : ∀ n : Nat, (∀ (x1 : Int32) (x2 : Int32) (cnt : Int32) (vf : Nat → Int32) (hf : Nat → Int64), gx_fx (st_Water_mix N full) n (.inl (x1, x2, cnt, vf, hf)) = some res → ∀ (H : Heap) (locs : List Loc), va_P (dC, dI) classes [(h0, .inr (2, [.int full, .ref a1, .ref a2, .int cnt])), (a1, .inl (k1, 42, .inl vf)), (a2, .inl (k2, 42, .inr (.inl hf)))] H → va_D A [(h0, .inr (2, [.int full, .ref a1, .ref a2, .int cnt])), (a1, .inl (k1, 42, .inl vf)), (a2, .inl (k2, 42, .inr (.inl hf)))] → va_S A s.heap H locs → ∀ (ls : Array Slot), lv_has ls 3 [(0, .ref h0), (1, .int x1), (2, .int x2)] → W p l e ({ frames := 2, cells := 0, slots := 0, locals := 44 } : Room) s m ([.ref h0] : List Value).toArray below meth c H locs 0 0 (MQ below (va_Qv (fun _ : Unit => True) (fun _ t => va_P (dC, dI) classes [(h0, .inr (2, [.int full, .ref a1, .ref a2, .int res.1])), (a1, .inl (k1, 42, .inl res.2.1)), (a2, .inl (k2, 42, .inr (.inl res.2.2)))] t.heap ∧ va_K (dC, dI) classes [(k1, .int), (k2, .long)] t ∧ va_D A [(h0, .inr (2, [.int full, .ref a1, .ref a2, .int res.1])), (a1, .inl (k1, 42, .inl res.2.1)), (a2, .inl (k2, 42, .inr (.inl res.2.2)))]) A) ([.ref h0] : List Value).toArray s 0 0 A) (F0 m 4 ls [])) ∧ (∀ (x1 : Int32) (x2 : Int32) (cnt : Int32) (vf : Nat → Int32) (hf : Nat → Int64), gx_fx (st_Water_mix N full) n (.inr (x1, x2, cnt, vf, hf)) = some res → ∀ (H : Heap) (locs : List Loc), va_P (dC, dI) classes [(h0, .inr (2, [.int full, .ref a1, .ref a2, .int cnt])), (a1, .inl (k1, 42, .inl vf)), (a2, .inl (k2, 42, .inr (.inl hf)))] H → va_D A [(h0, .inr (2, [.int full, .ref a1, .ref a2, .int cnt])), (a1, .inl (k1, 42, .inl vf)), (a2, .inl (k2, 42, .inr (.inl hf)))] → va_S A s.heap H locs → ∀ (ls : Array Slot), lv_has ls 3 [(0, .ref h0), (1, .int x1), (2, .int x2)] → W p l e ({ frames := 2, cells := 0, slots := 0, locals := 44 } : Room) s m ([.ref h0] : List Value).toArray below meth c H locs 0 0 (MQ below (va_Qv (fun _ : Unit => True) (fun _ t => va_P (dC, dI) classes [(h0, .inr (2, [.int full, .ref a1, .ref a2, .int res.1])), (a1, .inl (k1, 42, .inl res.2.1)), (a2, .inl (k2, 42, .inr (.inl res.2.2)))] t.heap ∧ va_K (dC, dI) classes [(k1, .int), (k2, .long)] t ∧ va_D A [(h0, .inr (2, [.int full, .ref a1, .ref a2, .int res.1])), (a1, .inl (k1, 42, .inl res.2.1)), (a2, .inl (k2, 42, .inr (.inl res.2.2)))]) A) ([.ref h0] : List Value).toArray s 0 0 A) (F0 m 39 ls [])) := by
    intro n
    induction n with
    | zero => exact ⟨fun _ _ _ _ _ h => gx_fx0 h, fun _ _ _ _ _ h => gx_fx0 h⟩
    | succ n ih =>
        refine ⟨?_, ?_⟩
        · intro x1 x2 cnt vf hf h H locs hP hD hS ls hl
          replace h : bk_Water_mix_4 N full (gx_fx (st_Water_mix N full) n) x1 x2 cnt vf hf = some res := h
          unfold bk_Water_mix_4 at h
          refine lv_iload_n hx hb d_Water_mix_4 rfl (lv_at hl 2 rfl) ?_
          refine lv_aload_n hx hb d_Water_mix_5 rfl (lv_at hl 0 rfl) ?_
          refine va_get (D := (dC, dI)) (ci := 2) (v := .int cnt) (C := R_Water) (T := F_Water) (N := 4) hx hb hts (gx_in i_Water) hown hK hP 0 rfl rfl 3 (by decide) (hts _ (gx_w mw_177)) (fun _ h9 => h9) rfl d_Water_mix_6 ?_
          refine lv_icmp_ge (tgt := 104) hx hb d_Water_mix_9 (by decide) (fun c1 => ?_) (fun c1 => ?_)
          · replace h := gx_pos c1 h
            refine lv_aload_n hx hb d_Water_mix_104 rfl (lv_at hl 0 rfl) ?_
            refine lv_iload_n hx hb d_Water_mix_105 rfl (lv_at hl 1 rfl) ?_
            refine va_put (D := (dC, dI)) (ci := 2) (v := .int x1) (ty := .int) (C := R_Water) (T := F_Water) (N := 4) hx hb hts (gx_in i_Water) t_Water t_Water_ok n_Water hown hK hP hD hS 0 rfl rfl 3 (by decide) (hts _ (gx_w mw_177)) (fun _ h9 => h9) rfl (by decide +kernel) rfl rfl (Nat.le_of_ble_eq_true rfl) d_Water_mix_106 (fun H locs hP hD hS => ?_)
            have hP : va_P (dC, dI) classes [(h0, .inr (2, [.int full, .ref a1, .ref a2, .int x1])), (a1, .inl (k1, 42, .inl vf)), (a2, .inl (k2, 42, .inr (.inl hf)))] H := hP
            have hD : va_D A [(h0, .inr (2, [.int full, .ref a1, .ref a2, .int x1])), (a1, .inl (k1, 42, .inl vf)), (a2, .inl (k2, 42, .inr (.inl hf)))] := hD
            refine lv_aload_n hx hb d_Water_mix_109 rfl (lv_at hl 0 rfl) ?_
            refine lv_aload_n hx hb d_Water_mix_110 rfl (lv_at hl 0 rfl) ?_
            refine va_get (D := (dC, dI)) (ci := 2) (v := .int x1) (C := R_Water) (T := F_Water) (N := 4) hx hb hts (gx_in i_Water) hown hK hP 0 rfl rfl 3 (by decide) (hts _ (gx_w mw_177)) (fun _ h9 => h9) rfl d_Water_mix_111 ?_
            refine lv_bipush (v := 40) hx hb d_Water_mix_114 (by decide) ?_
            refine lv_isub hx hb d_Water_mix_116 ?_
            have hPc := hP.sub (ws' := [(h0, .inr (2, [.int full, .ref a1, .ref a2, .int x1])), (a1, .inl (k1, 42, .inl vf)), (a2, .inl (k2, 42, .inr (.inl hf)))]) [0, 1, 2] rfl
            have hDc := hD.sub (ws' := [(h0, .inr (2, [.int full, .ref a1, .ref a2, .int x1])), (a1, .inl (k1, 42, .inl vf)), (a2, .inl (k2, 42, .inr (.inl hf)))]) [0, 1, 2] (by decide) rfl
            have hKc := hK.sub (tys' := [(k1, .int), (k2, .long)]) [0, 1] rfl
            have hFc := va_free (wc := [(h0, .inr (2, [.int full, .ref a1, .ref a2, .int x1])), (a1, .inl (k1, 42, .inl vf)), (a2, .inl (k2, 42, .inr (.inl hf)))]) hD hS hA [0, 1, 2] rfl
            obtain ⟨ur2, hc2, h⟩ := gx_bind h
            refine va_callv (va_runV (As := [.int (x1 - 40)]) (rest := []) ⟨hx, hb, hml, hown, hts⟩ (c_Water_joinLowest N l dC dI h0 a1 a2 k1 k2 H.size full x1 vf hf (x1 - 40) ur2 hc2) (cwV 1 hts (gx_gV mw_354 mw_351 mw_353 mw_7 mw_32) rfl rfl rfl (by decide +kernel) ⟨Nat.le_of_ble_eq_true rfl, Nat.le_of_ble_eq_true rfl⟩) ⟨fun a U g mk q => by obtain ⟨q0, q1, qP, qK, qD, qE⟩ := q; exact ⟨q0, q1, qP, va_K.moved (u := U) (U := U.calling g mk a) (Vm.Alike.refl U.vm) qK, qD, qE.calls⟩, va_recv hKc hPc (ci := 2) (q0 := 0) rfl rfl, fun U hU hW => ⟨rfl, by rw [hU], by rw [hU]; exact hPc, va_K.moved hW.alike hKc, hDc.weaken (fun _ _ _ _ => trivial), hE.warm hW⟩⟩ rfl rfl hl.1 rfl (lv_room (Nat.le_of_ble_eq_true rfl)) d_Water_mix_117 ⟨(Nat.zero_le _), (Nat.zero_le _)⟩) hS (fun q _ h => hFc q h) hFc (fun _ t H locs ht hvm hw hB hz1 hk1 hS => ?_)
            obtain ⟨hP1, hK1, hD1⟩ := hB
            rw [ht] at hP1
            obtain ⟨hP, hD⟩ := va_join (wr := []) (w1 := [(h0, .inr (2, [.int full, .ref a1, .ref a2, .int ur2.1])), (a1, .inl (k1, 42, .inl ur2.2.1)), (a2, .inl (k2, 42, .inr (.inl ur2.2.2)))]) hP hD [0, 1, 2] [] rfl rfl (by decide) (by decide) hk1 hFc hP1 hD1
            have hP : va_P (dC, dI) classes [(h0, .inr (2, [.int full, .ref a1, .ref a2, .int ur2.1])), (a1, .inl (k1, 42, .inl ur2.2.1)), (a2, .inl (k2, 42, .inr (.inl ur2.2.2)))] H := hP
            have hD : va_D A [(h0, .inr (2, [.int full, .ref a1, .ref a2, .int ur2.1])), (a1, .inl (k1, 42, .inl ur2.2.1)), (a2, .inl (k2, 42, .inr (.inl ur2.2.2)))] := hD
            rw [← Option.some.inj h]
            have hP9 := hP
            have hD9 := hD
            exact W.vret hx hb hr (fun t ht hW => ⟨⟨(), rfl, trivial, ⟨by rw [ht]; exact hP9, va_K.moved hW.alike hK, hD9⟩⟩, hS.F ht⟩) hS.2.2 d_Water_mix_120
          · replace h := gx_neg c1 h
            refine lv_aload_n hx hb d_Water_mix_12 rfl (lv_at hl 0 rfl) ?_
            refine va_get (D := (dC, dI)) (ci := 2) (v := .ref a1) (C := R_Water) (T := F_Water) (N := 4) hx hb hts (gx_in i_Water) hown hK hP 0 rfl rfl 1 (by decide) (hts _ (gx_w mw_173)) (fun _ h9 => h9) rfl d_Water_mix_13 ?_
            refine lv_iload_n hx hb d_Water_mix_16 rfl (lv_at hl 1 rfl) ?_
            refine lv_aload_n hx hb d_Water_mix_17 rfl (lv_at hl 0 rfl) ?_
            refine va_get (D := (dC, dI)) (ci := 2) (v := .ref a1) (C := R_Water) (T := F_Water) (N := 4) hx hb hts (gx_in i_Water) hown hK hP 0 rfl rfl 1 (by decide) (hts _ (gx_w mw_173)) (fun _ h9 => h9) rfl d_Water_mix_18 ?_
            refine lv_iload_n hx hb d_Water_mix_21 rfl (lv_at hl 2 rfl) ?_
            obtain ⟨hi3, h⟩ := gx_inb_of h
            refine va_iald hx hb hK hP 1 0 rfl rfl hi3 d_Water_mix_22 ?_
            obtain ⟨hi4, h⟩ := gx_inb_of h
            refine va_iast hx hb hK hP hD hS 1 0 rfl rfl hi4 d_Water_mix_23 (fun H locs hP hD hS => ?_)
            have hP : va_P (dC, dI) classes [(h0, .inr (2, [.int full, .ref a1, .ref a2, .int cnt])), (a1, .inl (k1, 42, .inl (upd vf x1.toNatClampNeg (vf x2.toNatClampNeg)))), (a2, .inl (k2, 42, .inr (.inl hf)))] H := hP
            have hD : va_D A [(h0, .inr (2, [.int full, .ref a1, .ref a2, .int cnt])), (a1, .inl (k1, 42, .inl (upd vf x1.toNatClampNeg (vf x2.toNatClampNeg)))), (a2, .inl (k2, 42, .inr (.inl hf)))] := hD
            refine lv_aload_n hx hb d_Water_mix_24 rfl (lv_at hl 0 rfl) ?_
            refine va_get (D := (dC, dI)) (ci := 2) (v := .ref a2) (C := R_Water) (T := F_Water) (N := 4) hx hb hts (gx_in i_Water) hown hK hP 0 rfl rfl 2 (by decide) (hts _ (gx_w mw_175)) (fun _ h9 => h9) rfl d_Water_mix_25 ?_
            refine lv_iload_n hx hb d_Water_mix_28 rfl (lv_at hl 1 rfl) ?_
            refine lv_aload_n hx hb d_Water_mix_29 rfl (lv_at hl 0 rfl) ?_
            refine va_get (D := (dC, dI)) (ci := 2) (v := .ref a2) (C := R_Water) (T := F_Water) (N := 4) hx hb hts (gx_in i_Water) hown hK hP 0 rfl rfl 2 (by decide) (hts _ (gx_w mw_175)) (fun _ h9 => h9) rfl d_Water_mix_30 ?_
            refine lv_iload_n hx hb d_Water_mix_33 rfl (lv_at hl 2 rfl) ?_
            obtain ⟨hi5, h⟩ := gx_inb_of h
            refine va_lald hx hb hK hP 2 1 rfl rfl hi5 d_Water_mix_34 ?_
            obtain ⟨hi6, h⟩ := gx_inb_of h
            refine va_last hx hb hK hP hD hS 2 1 rfl rfl hi6 d_Water_mix_35 (fun H locs hP hD hS => ?_)
            have hP : va_P (dC, dI) classes [(h0, .inr (2, [.int full, .ref a1, .ref a2, .int cnt])), (a1, .inl (k1, 42, .inl (upd vf x1.toNatClampNeg (vf x2.toNatClampNeg)))), (a2, .inl (k2, 42, .inr (.inl (vp_updL hf x1.toNatClampNeg (hf x2.toNatClampNeg)))))] H := hP
            have hD : va_D A [(h0, .inr (2, [.int full, .ref a1, .ref a2, .int cnt])), (a1, .inl (k1, 42, .inl (upd vf x1.toNatClampNeg (vf x2.toNatClampNeg)))), (a2, .inl (k2, 42, .inr (.inl (vp_updL hf x1.toNatClampNeg (hf x2.toNatClampNeg)))))] := hD
            refine lv_iinc (v := x1 + 1) (lv' := [(1, .int (x1 + 1)), (0, .ref h0), (2, .int x2)]) hx hb d_Water_mix_36 hl (k := 1) rfl rfl (by decide) rfl (fun ls hl => ?_)
            exact ih.2 (x1 + 1) x2 cnt (upd vf x1.toNatClampNeg (vf x2.toNatClampNeg)) (vp_updL hf x1.toNatClampNeg (hf x2.toNatClampNeg)) h _ _ hP hD hS ls (lv_sub hl [1, 0, 2] rfl)
        · intro x1 x2 cnt vf hf h H locs hP hD hS ls hl
          replace h : bk_Water_mix_39 N full (gx_fx (st_Water_mix N full) n) x1 x2 cnt vf hf = some res := h
          unfold bk_Water_mix_39 at h
          refine lv_iload_n hx hb d_Water_mix_39 rfl (lv_at hl 1 rfl) ?_
          refine lv_iconst (v := 2) hx hb d_Water_mix_40 (by decide) ?_
          refine lv_icmp_lt (tgt := 98) hx hb d_Water_mix_41 (by decide) (fun c7 => ?_) (fun c7 => ?_)
          · replace h := gx_pos c7 h
            refine lv_iinc (v := x2 + 1) (lv' := [(2, .int (x2 + 1)), (0, .ref h0), (1, .int x1)]) hx hb d_Water_mix_98 hl (k := 2) rfl rfl (by decide) rfl (fun ls hl => ?_)
            refine lv_goto (tgt := 4) hx hb d_Water_mix_101 (by decide) ?_
            exact ih.1 x1 (x2 + 1) cnt vf hf h _ _ hP hD hS ls (lv_sub hl [1, 2, 0] rfl)
          · replace h := gx_neg c7 h
            refine lv_aload_n hx hb d_Water_mix_44 rfl (lv_at hl 0 rfl) ?_
            refine lv_iload_n hx hb d_Water_mix_45 rfl (lv_at hl 1 rfl) ?_
            refine lv_iconst (v := 2) hx hb d_Water_mix_46 (by decide) ?_
            refine lv_isub hx hb d_Water_mix_47 ?_
            have hPc := hP.sub (ws' := [(h0, .inr (2, [.int full, .ref a1, .ref a2, .int cnt])), (a1, .inl (k1, 42, .inl vf)), (a2, .inl (k2, 42, .inr (.inl hf)))]) [0, 1, 2] rfl
            have hDc := hD.sub (ws' := [(h0, .inr (2, [.int full, .ref a1, .ref a2, .int cnt])), (a1, .inl (k1, 42, .inl vf)), (a2, .inl (k2, 42, .inr (.inl hf)))]) [0, 1, 2] (by decide) rfl
            have hKc := hK.sub (tys' := [(k1, .int), (k2, .long)]) [0, 1] rfl
            have hFc := va_free (wc := [(h0, .inr (2, [.int full, .ref a1, .ref a2, .int cnt])), (a1, .inl (k1, 42, .inl vf)), (a2, .inl (k2, 42, .inr (.inl hf)))]) hD hS hA [0, 1, 2] rfl
            obtain ⟨ur8, hc8, h⟩ := gx_bind h
            refine va_calli (va_runV (As := [.int (x1 - 2)]) (rest := []) ⟨hx, hb, hml, hown, hts⟩ (c_Water_isAsWarmAsNext N l dC dI h0 a1 a2 k1 k2 H.size full cnt vf hf (x1 - 2) ur8 hc8) (cwV 1 hts (gx_gV mw_350 mw_347 mw_349 mw_6 mw_32) rfl rfl rfl (by decide +kernel) ⟨Nat.le_of_ble_eq_true rfl, Nat.le_of_ble_eq_true rfl⟩) ⟨fun a U g mk q => by obtain ⟨q0, q1, qP, qK, qD, qE⟩ := q; exact ⟨q0, q1, qP, va_K.moved (u := U) (U := U.calling g mk a) (Vm.Alike.refl U.vm) qK, qD, qE.calls⟩, va_recv hKc hPc (ci := 2) (q0 := 0) rfl rfl, fun U hU hW => ⟨rfl, by rw [hU], by rw [hU]; exact hPc, va_K.moved hW.alike hKc, hDc.weaken (fun _ _ _ _ => trivial), hE.warm hW⟩⟩ rfl rfl hl.1 rfl (lv_room (Nat.le_of_ble_eq_true rfl)) d_Water_mix_48 ⟨(Nat.zero_le _), (Nat.zero_le _)⟩) hS (fun q _ h => hFc q h) hFc (fun r8 _ t H locs ht hvm hw hB hz1 hk1 hS => ?_)
            obtain ⟨hP1, hK1, hD1⟩ := hB
            rw [ht] at hP1
            rw [hw]
            obtain ⟨hP, hD⟩ := va_join (wr := []) (w1 := [(h0, .inr (2, [.int full, .ref a1, .ref a2, .int cnt])), (a1, .inl (k1, 42, .inl vf)), (a2, .inl (k2, 42, .inr (.inl hf)))]) hP hD [0, 1, 2] [] rfl rfl (by decide) (by decide) hk1 hFc hP1 hD1
            have hP : va_P (dC, dI) classes [(h0, .inr (2, [.int full, .ref a1, .ref a2, .int cnt])), (a1, .inl (k1, 42, .inl vf)), (a2, .inl (k2, 42, .inr (.inl hf)))] H := hP
            have hD : va_D A [(h0, .inr (2, [.int full, .ref a1, .ref a2, .int cnt])), (a1, .inl (k1, 42, .inl vf)), (a2, .inl (k2, 42, .inr (.inl hf)))] := hD
            refine lv_if_eq (tgt := 98) hx hb d_Water_mix_51 (by decide) (fun c9 => ?_) (fun c9 => ?_)
            · replace h := gx_pos c9 h
              refine lv_iinc (v := x2 + 1) (lv' := [(2, .int (x2 + 1)), (0, .ref h0), (1, .int x1)]) hx hb d_Water_mix_98 hl (k := 2) rfl rfl (by decide) rfl (fun ls hl => ?_)
              refine lv_goto (tgt := 4) hx hb d_Water_mix_101 (by decide) ?_
              exact ih.1 x1 (x2 + 1) cnt vf hf h _ _ hP hD hS ls (lv_sub hl [1, 2, 0] rfl)
            · replace h := gx_neg c9 h
              refine lv_aload_n hx hb d_Water_mix_54 rfl (lv_at hl 0 rfl) ?_
              refine va_get (D := (dC, dI)) (ci := 2) (v := .ref a1) (C := R_Water) (T := F_Water) (N := 4) hx hb hts (gx_in i_Water) hown hK hP 0 rfl rfl 1 (by decide) (hts _ (gx_w mw_173)) (fun _ h9 => h9) rfl d_Water_mix_55 ?_
              refine lv_iload_n hx hb d_Water_mix_58 rfl (lv_at hl 1 rfl) ?_
              refine lv_iconst (v := 2) hx hb d_Water_mix_59 (by decide) ?_
              refine lv_isub hx hb d_Water_mix_60 ?_
              refine lv_dup2_11 hx hb d_Water_mix_61 rfl rfl ?_
              obtain ⟨hi10, h⟩ := gx_inb_of h
              refine va_iald hx hb hK hP 1 0 rfl rfl hi10 d_Water_mix_62 ?_
              refine lv_aload_n hx hb d_Water_mix_63 rfl (lv_at hl 0 rfl) ?_
              refine va_get (D := (dC, dI)) (ci := 2) (v := .ref a1) (C := R_Water) (T := F_Water) (N := 4) hx hb hts (gx_in i_Water) hown hK hP 0 rfl rfl 1 (by decide) (hts _ (gx_w mw_173)) (fun _ h9 => h9) rfl d_Water_mix_64 ?_
              refine lv_iload_n hx hb d_Water_mix_67 rfl (lv_at hl 1 rfl) ?_
              refine lv_iconst (v := 1) hx hb d_Water_mix_68 (by decide) ?_
              refine lv_isub hx hb d_Water_mix_69 ?_
              obtain ⟨hi11, h⟩ := gx_inb_of h
              refine va_iald hx hb hK hP 1 0 rfl rfl hi11 d_Water_mix_70 ?_
              refine lv_iadd hx hb d_Water_mix_71 ?_
              obtain ⟨hi12, h⟩ := gx_inb_of h
              refine va_iast hx hb hK hP hD hS 1 0 rfl rfl hi12 d_Water_mix_72 (fun H locs hP hD hS => ?_)
              have hP : va_P (dC, dI) classes [(h0, .inr (2, [.int full, .ref a1, .ref a2, .int cnt])), (a1, .inl (k1, 42, .inl (upd vf (x1 - 2).toNatClampNeg ((vf (x1 - 2).toNatClampNeg) + (vf (x1 - 1).toNatClampNeg))))), (a2, .inl (k2, 42, .inr (.inl hf)))] H := hP
              have hD : va_D A [(h0, .inr (2, [.int full, .ref a1, .ref a2, .int cnt])), (a1, .inl (k1, 42, .inl (upd vf (x1 - 2).toNatClampNeg ((vf (x1 - 2).toNatClampNeg) + (vf (x1 - 1).toNatClampNeg))))), (a2, .inl (k2, 42, .inr (.inl hf)))] := hD
              refine lv_aload_n hx hb d_Water_mix_73 rfl (lv_at hl 0 rfl) ?_
              refine va_get (D := (dC, dI)) (ci := 2) (v := .ref a2) (C := R_Water) (T := F_Water) (N := 4) hx hb hts (gx_in i_Water) hown hK hP 0 rfl rfl 2 (by decide) (hts _ (gx_w mw_175)) (fun _ h9 => h9) rfl d_Water_mix_74 ?_
              refine lv_iload_n hx hb d_Water_mix_77 rfl (lv_at hl 1 rfl) ?_
              refine lv_iconst (v := 2) hx hb d_Water_mix_78 (by decide) ?_
              refine lv_isub hx hb d_Water_mix_79 ?_
              refine lv_dup2_11 hx hb d_Water_mix_80 rfl rfl ?_
              obtain ⟨hi13, h⟩ := gx_inb_of h
              refine va_lald hx hb hK hP 2 1 rfl rfl hi13 d_Water_mix_81 ?_
              refine lv_aload_n hx hb d_Water_mix_82 rfl (lv_at hl 0 rfl) ?_
              refine va_get (D := (dC, dI)) (ci := 2) (v := .ref a2) (C := R_Water) (T := F_Water) (N := 4) hx hb hts (gx_in i_Water) hown hK hP 0 rfl rfl 2 (by decide) (hts _ (gx_w mw_175)) (fun _ h9 => h9) rfl d_Water_mix_83 ?_
              refine lv_iload_n hx hb d_Water_mix_86 rfl (lv_at hl 1 rfl) ?_
              refine lv_iconst (v := 1) hx hb d_Water_mix_87 (by decide) ?_
              refine lv_isub hx hb d_Water_mix_88 ?_
              obtain ⟨hi14, h⟩ := gx_inb_of h
              refine va_lald hx hb hK hP 2 1 rfl rfl hi14 d_Water_mix_89 ?_
              refine lv_ladd hx hb d_Water_mix_90 ?_
              obtain ⟨hi15, h⟩ := gx_inb_of h
              refine va_last hx hb hK hP hD hS 2 1 rfl rfl hi15 d_Water_mix_91 (fun H locs hP hD hS => ?_)
              have hP : va_P (dC, dI) classes [(h0, .inr (2, [.int full, .ref a1, .ref a2, .int cnt])), (a1, .inl (k1, 42, .inl (upd vf (x1 - 2).toNatClampNeg ((vf (x1 - 2).toNatClampNeg) + (vf (x1 - 1).toNatClampNeg))))), (a2, .inl (k2, 42, .inr (.inl (vp_updL hf (x1 - 2).toNatClampNeg ((hf (x1 - 2).toNatClampNeg) + (hf (x1 - 1).toNatClampNeg))))))] H := hP
              have hD : va_D A [(h0, .inr (2, [.int full, .ref a1, .ref a2, .int cnt])), (a1, .inl (k1, 42, .inl (upd vf (x1 - 2).toNatClampNeg ((vf (x1 - 2).toNatClampNeg) + (vf (x1 - 1).toNatClampNeg))))), (a2, .inl (k2, 42, .inr (.inl (vp_updL hf (x1 - 2).toNatClampNeg ((hf (x1 - 2).toNatClampNeg) + (hf (x1 - 1).toNatClampNeg))))))] := hD
              refine lv_iinc (v := x1 + (-1)) (lv' := [(1, .int (x1 + (-1))), (0, .ref h0), (2, .int x2)]) hx hb d_Water_mix_92 hl (k := 1) rfl rfl (by decide) rfl (fun ls hl => ?_)
              refine lv_goto (tgt := 39) hx hb d_Water_mix_95 (by decide) ?_
              exact ih.2 (x1 + (-1)) x2 cnt (upd vf (x1 - 2).toNatClampNeg ((vf (x1 - 2).toNatClampNeg) + (vf (x1 - 1).toNatClampNeg))) (vp_updL hf (x1 - 2).toNatClampNeg ((hf (x1 - 2).toNatClampNeg) + (hf (x1 - 1).toNatClampNeg))) h _ _ hP hD hS ls (lv_sub hl [1, 0, 2] rfl)
  have key : ∀ (H : Heap) (locs : List Loc), va_P (dC, dI) classes [(h0, .inr (2, [.int full, .ref a1, .ref a2, .int cnt])), (a1, .inl (k1, 42, .inl vf)), (a2, .inl (k2, 42, .inr (.inl hf)))] H → va_D A [(h0, .inr (2, [.int full, .ref a1, .ref a2, .int cnt])), (a1, .inl (k1, 42, .inl vf)), (a2, .inl (k2, 42, .inr (.inl hf)))] → va_S A s.heap H locs → ∀ (ls : Array Slot), lv_has ls 3 [(0, .ref h0)] → W p l e ({ frames := 2, cells := 0, slots := 0, locals := 44 } : Room) s m ([.ref h0] : List Value).toArray below meth c H locs 0 0 (MQ below (va_Qv (fun _ : Unit => True) (fun _ t => va_P (dC, dI) classes [(h0, .inr (2, [.int full, .ref a1, .ref a2, .int res.1])), (a1, .inl (k1, 42, .inl res.2.1)), (a2, .inl (k2, 42, .inr (.inl res.2.2)))] t.heap ∧ va_K (dC, dI) classes [(k1, .int), (k2, .long)] t ∧ va_D A [(h0, .inr (2, [.int full, .ref a1, .ref a2, .int res.1])), (a1, .inl (k1, 42, .inl res.2.1)), (a2, .inl (k2, 42, .inr (.inl res.2.2)))]) A) ([.ref h0] : List Value).toArray s 0 0 A) (F0 m 0 ls []) := by
    intro H locs hP hD hS ls hl
    unfold fn_Water_mix at h
    refine lv_iconst (v := 0) hx hb d_Water_mix_0 (by decide) ?_
    refine lv_istore_n (lv' := [(1, .int 0), (0, .ref h0)]) hx hb d_Water_mix_1 rfl hl (by decide) rfl (fun ls hl => ?_)
    refine lv_iconst (v := 0) hx hb d_Water_mix_2 (by decide) ?_
    refine lv_istore_n (lv' := [(2, .int 0), (1, .int 0), (0, .ref h0)]) hx hb d_Water_mix_3 rfl hl (by decide) rfl (fun ls hl => ?_)
    exact (loop N).1 0 0 cnt vf hf h _ _ hP hD hS ls (lv_sub hl [2, 1, 0] rfl)
  have hl := lv_entry ([.ref h0]) (n := 3) (Nat.le_of_ble_eq_true rfl)
  rw [lg_entry_eq]
  generalize (lg_sl ([.ref h0]) ++ List.replicate (3 - (lg_sl ([.ref h0])).length) Slot.unset).toArray = ls at hl ⊢
  exact key _ _ hP hD va_S.rf ls hl
def bk_Water_cutAt_4 (N : Nat) (full : Int32) (K : Int32 × Int32 × Int32 × Int32 × (Nat → Int32) × (Nat → Int64) → Option (Int32 × Int32 × (Nat → Int32) × (Nat → Int64))) (x1 : Int32) (x2 : Int32) (x3 : Int32) (cnt : Int32) (vf : Nat → Int32) (hf : Nat → Int64) : Option (Int32 × Int32 × (Nat → Int32) × (Nat → Int64)) :=
  if cnt ≤ x3 then if cnt ≤ x3 then some (x3, cnt, vf, hf) else if 0 < (x1 - x2) then if gx_inb x3 42 = true then if gx_inb x3 42 = true then (fn_TL_shareOf N (hf x3.toNatClampNeg) ((x1 - x2).toInt64) ((vf x3.toNatClampNeg).toInt64)).bind (fun ur6 => if gx_inb x3 42 = true then if gx_inb x3 42 = true then if gx_inb x3 42 = true then if gx_inb x3 42 = true then (fn_Water_insertLayer N x3 (x1 - x2) ur6 full cnt (upd vf x3.toNatClampNeg ((vf x3.toNatClampNeg) - (x1 - x2))) (vp_updL hf x3.toNatClampNeg ((hf x3.toNatClampNeg) - ur6))).bind (fun ur11 => some (x3 + 1, ur11.1, ur11.2.1, ur11.2.2)) else none else none else none else none) else none else none else some (x3, cnt, vf, hf) else if gx_inb x3 42 = true then if x1 < (x2 + (vf x3.toNatClampNeg)) then if cnt ≤ x3 then some (x3, cnt, vf, hf) else if 0 < (x1 - x2) then if gx_inb x3 42 = true then if gx_inb x3 42 = true then (fn_TL_shareOf N (hf x3.toNatClampNeg) ((x1 - x2).toInt64) ((vf x3.toNatClampNeg).toInt64)).bind (fun ur18 => if gx_inb x3 42 = true then if gx_inb x3 42 = true then if gx_inb x3 42 = true then if gx_inb x3 42 = true then (fn_Water_insertLayer N x3 (x1 - x2) ur18 full cnt (upd vf x3.toNatClampNeg ((vf x3.toNatClampNeg) - (x1 - x2))) (vp_updL hf x3.toNatClampNeg ((hf x3.toNatClampNeg) - ur18))).bind (fun ur23 => some (x3 + 1, ur23.1, ur23.2.1, ur23.2.2)) else none else none else none else none) else none else none else some (x3, cnt, vf, hf) else if gx_inb x3 42 = true then K (x1, x2 + (vf x3.toNatClampNeg), x3 + 1, cnt, vf, hf) else none else none
def st_Water_cutAt (N : Nat) (full : Int32) (K : Int32 × Int32 × Int32 × Int32 × (Nat → Int32) × (Nat → Int64) → Option (Int32 × Int32 × (Nat → Int32) × (Nat → Int64))) (z : Int32 × Int32 × Int32 × Int32 × (Nat → Int32) × (Nat → Int64)) : Option (Int32 × Int32 × (Nat → Int32) × (Nat → Int64)) := match z with
  | (x1, x2, x3, cnt, vf, hf) => bk_Water_cutAt_4 N full K x1 x2 x3 cnt vf hf
def fn_Water_cutAt (N : Nat) (p1 : Int32) (full : Int32) (cnt : Int32) (vf : Nat → Int32) (hf : Nat → Int64) : Option (Int32 × Int32 × (Nat → Int32) × (Nat → Int64)) :=
  gx_fx (st_Water_cutAt N full) N (p1, 0, 0, cnt, vf, hf)
def w_Water_cutAt : List Cond := .code y_Water_cutAt b_Water_cutAt 7 (some .int) :: gx_W
set_option maxHeartbeats 4000000 in
set_option maxRecDepth 100000 in
theorem c_Water_cutAt (N : Nat) (l : Launch) (dC : Nat → ClassId) (dI : Nat → Nat → Nat) (h0 : Nat) (a1 : Nat) (a2 : Nat) (k1 : ClassId) (k2 : ClassId) (sz : Nat) (full : Int32) (cnt : Int32) (vf : Nat → Int32) (hf : Nat → Int64) (p1 : Int32) (res : Int32 × Int32 × (Nat → Int32) × (Nat → Int64)) (h : fn_Water_cutAt N p1 full cnt vf hf = some res) : Met l y_Water_cutAt w_Water_cutAt ({ frames := 2, cells := 0, slots := 0, locals := 50 } : Room) (va_Pc [.ref h0, .int p1] (fun U => U.heap.size = sz ∧ va_P (dC, dI) classes [(h0, .inr (2, [.int full, .ref a1, .ref a2, .int cnt])), (a1, .inl (k1, 42, .inl vf)), (a2, .inl (k2, 42, .inr (.inl hf)))] U.heap ∧ va_K (dC, dI) classes [(k1, .int), (k2, .long)] U ∧ va_D (fun _ => True) [(h0, .inr (2, [.int full, .ref a1, .ref a2, .int cnt])), (a1, .inl (k1, 42, .inl vf)), (a2, .inl (k2, 42, .inr (.inl hf)))] ∧ gx_E U)) (va_Qi (fun (r : Int32) (_ : Unit) => r = res.1) (fun _ t => va_P (dC, dI) classes [(h0, .inr (2, [.int full, .ref a1, .ref a2, .int res.2.1])), (a1, .inl (k1, 42, .inl res.2.2.1)), (a2, .inl (k2, 42, .inr (.inl res.2.2.2)))] t.heap ∧ va_K (dC, dI) classes [(k1, .int), (k2, .long)] t ∧ va_D (va_A [(h0, .inr (2, [.int full, .ref a1, .ref a2, .int cnt])), (a1, .inl (k1, 42, .inl vf)), (a2, .inl (k2, 42, .inr (.inl hf)))] sz) [(h0, .inr (2, [.int full, .ref a1, .ref a2, .int res.2.1])), (a1, .inl (k1, 42, .inl res.2.2.1)), (a2, .inl (k2, 42, .inr (.inl res.2.2.2)))]) (va_A [(h0, .inr (2, [.int full, .ref a1, .ref a2, .int cnt])), (a1, .inl (k1, 42, .inl vf)), (a2, .inl (k2, 42, .inr (.inl hf)))] sz)) 0 0 (va_A [(h0, .inr (2, [.int full, .ref a1, .ref a2, .int cnt])), (a1, .inl (k1, 42, .inl vf)), (a2, .inl (k2, 42, .inr (.inl hf)))] sz) := by
  refine Met.ofW (cc := b_Water_cutAt) (maxL := 7) (ret := (some .int)) (by decide) rfl ?_
  intro p e s m args below meth c s₁ B hml hv
  obtain ⟨rfl, hsz, hP, hK, hD0, hE⟩ := hv
  have hx := B.exec
  have hb := B.bytes
  have hr := B.returns
  have hts := atoms_spec (ws := w_Water_cutAt) B.pre
  have hown : s.vm.findClass R_Water = some m.cls := findClass_of_methodNamed B.named
  have hlocks := B.notSynchronized
  subst hsz
  have hD := hD0.self (sz := s.heap.size)
  generalize hAe : va_A [(h0, .inr (2, [.int full, .ref a1, .ref a2, .int cnt])), (a1, .inl (k1, 42, .inl vf)), (a2, .inl (k2, 42, .inr (.inl hf)))] s.heap.size = A at hD ⊢
  have hA : ∀ q : Nat, s.heap.size ≤ q → A q := fun q h => by rw [← hAe]; exact Or.inr h
  clear hAe hD0
  have loop : ∀ n : Nat, (∀ (x1 : Int32) (x2 : Int32) (x3 : Int32) (cnt : Int32) (vf : Nat → Int32) (hf : Nat → Int64), gx_fx (st_Water_cutAt N full) n (x1, x2, x3, cnt, vf, hf) = some res → ∀ (H : Heap) (locs : List Loc), va_P (dC, dI) classes [(h0, .inr (2, [.int full, .ref a1, .ref a2, .int cnt])), (a1, .inl (k1, 42, .inl vf)), (a2, .inl (k2, 42, .inr (.inl hf)))] H → va_D A [(h0, .inr (2, [.int full, .ref a1, .ref a2, .int cnt])), (a1, .inl (k1, 42, .inl vf)), (a2, .inl (k2, 42, .inr (.inl hf)))] → va_S A s.heap H locs → ∀ (ls : Array Slot), lv_has ls 7 [(0, .ref h0), (1, .int x1), (2, .int x2), (3, .int x3)] → W p l e ({ frames := 2, cells := 0, slots := 0, locals := 50 } : Room) s m ([.ref h0, .int p1] : List Value).toArray below meth c H locs 0 0 (MQ below (va_Qi (fun (r : Int32) (_ : Unit) => r = res.1) (fun _ t => va_P (dC, dI) classes [(h0, .inr (2, [.int full, .ref a1, .ref a2, .int res.2.1])), (a1, .inl (k1, 42, .inl res.2.2.1)), (a2, .inl (k2, 42, .inr (.inl res.2.2.2)))] t.heap ∧ va_K (dC, dI) classes [(k1, .int), (k2, .long)] t ∧ va_D A [(h0, .inr (2, [.int full, .ref a1, .ref a2, .int res.2.1])), (a1, .inl (k1, 42, .inl res.2.2.1)), (a2, .inl (k2, 42, .inr (.inl res.2.2.2)))]) A) ([.ref h0, .int p1] : List Value).toArray s 0 0 A) (F0 m 4 ls [])) := by
    intro n
    induction n with
    | zero => exact fun _ _ _ _ _ _ h => gx_fx0 h
    | succ n ih =>
        intro x1 x2 x3 cnt vf hf h H locs hP hD hS ls hl
        replace h : bk_Water_cutAt_4 N full (gx_fx (st_Water_cutAt N full) n) x1 x2 x3 cnt vf hf = some res := h
        unfold bk_Water_cutAt_4 at h
        refine lv_iload_n hx hb d_Water_cutAt_4 rfl (lv_at hl 3 rfl) ?_
        refine lv_aload_n hx hb d_Water_cutAt_5 rfl (lv_at hl 0 rfl) ?_
        refine va_get (D := (dC, dI)) (ci := 2) (v := .int cnt) (C := R_Water) (T := F_Water) (N := 4) hx hb hts (gx_in i_Water) hown hK hP 0 rfl rfl 3 (by decide) (hts _ (gx_w mw_177)) (fun _ h9 => h9) rfl d_Water_cutAt_6 ?_
        refine lv_icmp_ge (tgt := 39) hx hb d_Water_cutAt_9 (by decide) (fun c1 => ?_) (fun c1 => ?_)
        · replace h := gx_pos c1 h
          refine lv_iload_n hx hb d_Water_cutAt_39 rfl (lv_at hl 1 rfl) ?_
          refine lv_iload_n hx hb d_Water_cutAt_40 rfl (lv_at hl 2 rfl) ?_
          refine lv_isub hx hb d_Water_cutAt_41 ?_
          refine lv_istore (lv' := [(4, .int (x1 - x2)), (0, .ref h0), (1, .int x1), (2, .int x2), (3, .int x3)]) hx hb d_Water_cutAt_42 hl (by decide) rfl (fun ls hl => ?_)
          refine lv_iload_n hx hb d_Water_cutAt_44 rfl (lv_at hl 4 rfl) ?_
          refine lv_aload_n hx hb d_Water_cutAt_45 rfl (lv_at hl 1 rfl) ?_
          refine va_get (D := (dC, dI)) (ci := 2) (v := .int cnt) (C := R_Water) (T := F_Water) (N := 4) hx hb hts (gx_in i_Water) hown hK hP 0 rfl rfl 3 (by decide) (hts _ (gx_w mw_177)) (fun _ h9 => h9) rfl d_Water_cutAt_46 ?_
          refine lv_icmp_ge (tgt := 57) hx hb d_Water_cutAt_49 (by decide) (fun c2 => ?_) (fun c2 => ?_)
          · replace h := gx_pos c2 h
            refine lv_iload_n hx hb d_Water_cutAt_57 rfl (lv_at hl 4 rfl) ?_
            rw [← Option.some.inj h]
            have hP9 := hP
            have hD9 := hD
            exact W.iret (v := x3) hx hb hr (fun t ht hW => ⟨⟨x3, (), rfl, rfl, ⟨by rw [ht]; exact hP9, va_K.moved hW.alike hK, hD9⟩⟩, hS.F ht⟩) hS.2.2 d_Water_cutAt_58
          · replace h := gx_neg c2 h
            refine lv_iload hx hb d_Water_cutAt_52 (lv_at hl 0 rfl) ?_
            refine lv_if_gt (tgt := 59) hx hb d_Water_cutAt_54 (by decide) (fun c3 => ?_) (fun c3 => ?_)
            · replace h := gx_pos c3 h
              refine lv_aload_n hx hb d_Water_cutAt_59 rfl (lv_at hl 1 rfl) ?_
              refine va_get (D := (dC, dI)) (ci := 2) (v := .ref a2) (C := R_Water) (T := F_Water) (N := 4) hx hb hts (gx_in i_Water) hown hK hP 0 rfl rfl 2 (by decide) (hts _ (gx_w mw_175)) (fun _ h9 => h9) rfl d_Water_cutAt_60 ?_
              refine lv_iload_n hx hb d_Water_cutAt_63 rfl (lv_at hl 4 rfl) ?_
              obtain ⟨hi4, h⟩ := gx_inb_of h
              refine va_lald hx hb hK hP 2 1 rfl rfl hi4 d_Water_cutAt_64 ?_
              refine lv_iload hx hb d_Water_cutAt_65 (lv_at hl 0 rfl) ?_
              refine lv_i2l (v := (x1 - x2).toInt64) hx hb d_Water_cutAt_67 rfl ?_
              refine lv_aload_n hx hb d_Water_cutAt_68 rfl (lv_at hl 1 rfl) ?_
              refine va_get (D := (dC, dI)) (ci := 2) (v := .ref a1) (C := R_Water) (T := F_Water) (N := 4) hx hb hts (gx_in i_Water) hown hK hP 0 rfl rfl 1 (by decide) (hts _ (gx_w mw_173)) (fun _ h9 => h9) rfl d_Water_cutAt_69 ?_
              refine lv_iload_n hx hb d_Water_cutAt_72 rfl (lv_at hl 4 rfl) ?_
              obtain ⟨hi5, h⟩ := gx_inb_of h
              refine va_iald hx hb hK hP 1 0 rfl rfl hi5 d_Water_cutAt_73 ?_
              refine lv_i2l (v := (vf x3.toNatClampNeg).toInt64) hx hb d_Water_cutAt_74 rfl ?_
              have hPc := hP.sub (ws' := []) [] rfl
              have hDc := hD.sub (ws' := []) [] (by decide) rfl
              have hKc := hK.sub (tys' := []) [] rfl
              have hFc := va_free (wc := []) hD hS hA [] rfl
              obtain ⟨ur6, hc6, h⟩ := gx_bind h
              refine va_calll (va_runSN (As := [.long (hf x3.toNatClampNeg), .long ((x1 - x2).toInt64), .long ((vf x3.toNatClampNeg).toInt64)]) (rest := []) ⟨hx, hb, hml, hown, hts⟩ (c_TL_shareOf N l dC dI H.size (hf x3.toNatClampNeg) ((x1 - x2).toInt64) ((vf x3.toNatClampNeg).toInt64) ur6 hc6) ⟨va_cnB 3 hts (gx_gi mw_324) rfl rfl rfl hE.1 (hts _ (gx_w mw_24)) (by decide +kernel) ⟨Nat.le_of_ble_eq_true rfl, Nat.le_of_ble_eq_true rfl⟩, (hts _ (gx_w mw_323)), trivial⟩ ⟨fun a U g mk q => by obtain ⟨q0, q1, qP, qK, qD, qE⟩ := q; exact ⟨q0, q1, qP, va_K.moved (u := U) (U := U.calling g mk a) (Vm.Alike.refl U.vm) qK, qD, qE.calls⟩, fun U hU hW => ⟨rfl, by rw [hU], by rw [hU]; exact hPc, va_K.moved hW.alike hKc, hDc.weaken (fun _ _ _ _ => trivial), hE.warm hW⟩⟩ rfl rfl hl.1 rfl (lv_room (Nat.le_of_ble_eq_true rfl)) d_Water_cutAt_75 ⟨(Nat.zero_le _), (Nat.zero_le _)⟩) hS (fun q _ h => hFc q h) hFc (fun r6 _ t H locs ht hvm hw hB hz1 hk1 hS => ?_)
              obtain ⟨hP1, hK1, hD1⟩ := hB
              rw [ht] at hP1
              rw [hw]
              replace hP := gx_keep0 hP hk1
              refine lv_lstore (lv' := [(5, .long ur6), (4, .int (x1 - x2)), (0, .ref h0), (1, .int x1), (2, .int x2), (3, .int x3)]) hx hb d_Water_cutAt_78 hl (by decide) rfl (fun ls hl => ?_)
              refine lv_aload_n hx hb d_Water_cutAt_80 rfl (lv_at hl 2 rfl) ?_
              refine va_get (D := (dC, dI)) (ci := 2) (v := .ref a1) (C := R_Water) (T := F_Water) (N := 4) hx hb hts (gx_in i_Water) hown hK hP 0 rfl rfl 1 (by decide) (hts _ (gx_w mw_173)) (fun _ h9 => h9) rfl d_Water_cutAt_81 ?_
              refine lv_iload_n hx hb d_Water_cutAt_84 rfl (lv_at hl 5 rfl) ?_
              refine lv_dup2_11 hx hb d_Water_cutAt_85 rfl rfl ?_
              obtain ⟨hi7, h⟩ := gx_inb_of h
              refine va_iald hx hb hK hP 1 0 rfl rfl hi7 d_Water_cutAt_86 ?_
              refine lv_iload hx hb d_Water_cutAt_87 (lv_at hl 1 rfl) ?_
              refine lv_isub hx hb d_Water_cutAt_89 ?_
              obtain ⟨hi8, h⟩ := gx_inb_of h
              refine va_iast hx hb hK hP hD hS 1 0 rfl rfl hi8 d_Water_cutAt_90 (fun H locs hP hD hS => ?_)
              have hP : va_P (dC, dI) classes [(h0, .inr (2, [.int full, .ref a1, .ref a2, .int cnt])), (a1, .inl (k1, 42, .inl (upd vf x3.toNatClampNeg ((vf x3.toNatClampNeg) - (x1 - x2))))), (a2, .inl (k2, 42, .inr (.inl hf)))] H := hP
              have hD : va_D A [(h0, .inr (2, [.int full, .ref a1, .ref a2, .int cnt])), (a1, .inl (k1, 42, .inl (upd vf x3.toNatClampNeg ((vf x3.toNatClampNeg) - (x1 - x2))))), (a2, .inl (k2, 42, .inr (.inl hf)))] := hD
              refine lv_aload_n hx hb d_Water_cutAt_91 rfl (lv_at hl 2 rfl) ?_
              refine va_get (D := (dC, dI)) (ci := 2) (v := .ref a2) (C := R_Water) (T := F_Water) (N := 4) hx hb hts (gx_in i_Water) hown hK hP 0 rfl rfl 2 (by decide) (hts _ (gx_w mw_175)) (fun _ h9 => h9) rfl d_Water_cutAt_92 ?_
              refine lv_iload_n hx hb d_Water_cutAt_95 rfl (lv_at hl 5 rfl) ?_
              refine lv_dup2_11 hx hb d_Water_cutAt_96 rfl rfl ?_
              obtain ⟨hi9, h⟩ := gx_inb_of h
              refine va_lald hx hb hK hP 2 1 rfl rfl hi9 d_Water_cutAt_97 ?_
              refine lv_lload hx hb d_Water_cutAt_98 (lv_at hl 0 rfl) ?_
              refine lv_lsub hx hb d_Water_cutAt_100 ?_
              obtain ⟨hi10, h⟩ := gx_inb_of h
              refine va_last hx hb hK hP hD hS 2 1 rfl rfl hi10 d_Water_cutAt_101 (fun H locs hP hD hS => ?_)
              have hP : va_P (dC, dI) classes [(h0, .inr (2, [.int full, .ref a1, .ref a2, .int cnt])), (a1, .inl (k1, 42, .inl (upd vf x3.toNatClampNeg ((vf x3.toNatClampNeg) - (x1 - x2))))), (a2, .inl (k2, 42, .inr (.inl (vp_updL hf x3.toNatClampNeg ((hf x3.toNatClampNeg) - ur6)))))] H := hP
              have hD : va_D A [(h0, .inr (2, [.int full, .ref a1, .ref a2, .int cnt])), (a1, .inl (k1, 42, .inl (upd vf x3.toNatClampNeg ((vf x3.toNatClampNeg) - (x1 - x2))))), (a2, .inl (k2, 42, .inr (.inl (vp_updL hf x3.toNatClampNeg ((hf x3.toNatClampNeg) - ur6)))))] := hD
              refine lv_aload_n hx hb d_Water_cutAt_102 rfl (lv_at hl 2 rfl) ?_
              refine lv_iload_n hx hb d_Water_cutAt_103 rfl (lv_at hl 5 rfl) ?_
              refine lv_iload hx hb d_Water_cutAt_104 (lv_at hl 1 rfl) ?_
              refine lv_lload hx hb d_Water_cutAt_106 (lv_at hl 0 rfl) ?_
              have hPc := hP.sub (ws' := [(h0, .inr (2, [.int full, .ref a1, .ref a2, .int cnt])), (a1, .inl (k1, 42, .inl (upd vf x3.toNatClampNeg ((vf x3.toNatClampNeg) - (x1 - x2))))), (a2, .inl (k2, 42, .inr (.inl (vp_updL hf x3.toNatClampNeg ((hf x3.toNatClampNeg) - ur6)))))]) [0, 1, 2] rfl
              have hDc := hD.sub (ws' := [(h0, .inr (2, [.int full, .ref a1, .ref a2, .int cnt])), (a1, .inl (k1, 42, .inl (upd vf x3.toNatClampNeg ((vf x3.toNatClampNeg) - (x1 - x2))))), (a2, .inl (k2, 42, .inr (.inl (vp_updL hf x3.toNatClampNeg ((hf x3.toNatClampNeg) - ur6)))))]) [0, 1, 2] (by decide) rfl
              have hKc := hK.sub (tys' := [(k1, .int), (k2, .long)]) [0, 1] rfl
              have hFc := va_free (wc := [(h0, .inr (2, [.int full, .ref a1, .ref a2, .int cnt])), (a1, .inl (k1, 42, .inl (upd vf x3.toNatClampNeg ((vf x3.toNatClampNeg) - (x1 - x2))))), (a2, .inl (k2, 42, .inr (.inl (vp_updL hf x3.toNatClampNeg ((hf x3.toNatClampNeg) - ur6)))))]) hD hS hA [0, 1, 2] rfl
              obtain ⟨ur11, hc11, h⟩ := gx_bind h
              refine va_callv (va_runV (As := [.int x3, .int (x1 - x2), .long ur6]) (rest := []) ⟨hx, hb, hml, hown, hts⟩ (c_Water_insertLayer N l dC dI h0 a1 a2 k1 k2 H.size full cnt (upd vf x3.toNatClampNeg ((vf x3.toNatClampNeg) - (x1 - x2))) (vp_updL hf x3.toNatClampNeg ((hf x3.toNatClampNeg) - ur6)) x3 (x1 - x2) ur6 ur11 hc11) (cwV 3 hts (gx_gV mw_331 mw_328 mw_330 mw_3 mw_32) rfl rfl rfl (by decide +kernel) ⟨Nat.le_of_ble_eq_true rfl, Nat.le_of_ble_eq_true rfl⟩) ⟨fun a U g mk q => by obtain ⟨q0, q1, qP, qK, qD, qE⟩ := q; exact ⟨q0, q1, qP, va_K.moved (u := U) (U := U.calling g mk a) (Vm.Alike.refl U.vm) qK, qD, qE.calls⟩, va_recv hKc hPc (ci := 2) (q0 := 0) rfl rfl, fun U hU hW => ⟨rfl, by rw [hU], by rw [hU]; exact hPc, va_K.moved hW.alike hKc, hDc.weaken (fun _ _ _ _ => trivial), hE.warm hW⟩⟩ rfl rfl hl.1 rfl (lv_room (Nat.le_of_ble_eq_true rfl)) d_Water_cutAt_108 ⟨(Nat.zero_le _), (Nat.zero_le _)⟩) hS (fun q _ h => hFc q h) hFc (fun _ t H locs ht hvm hw hB hz1 hk1 hS => ?_)
              obtain ⟨hP1, hK1, hD1⟩ := hB
              rw [ht] at hP1
              obtain ⟨hP, hD⟩ := va_join (wr := []) (w1 := [(h0, .inr (2, [.int full, .ref a1, .ref a2, .int ur11.1])), (a1, .inl (k1, 42, .inl ur11.2.1)), (a2, .inl (k2, 42, .inr (.inl ur11.2.2)))]) hP hD [0, 1, 2] [] rfl rfl (by decide) (by decide) hk1 hFc hP1 hD1
              have hP : va_P (dC, dI) classes [(h0, .inr (2, [.int full, .ref a1, .ref a2, .int ur11.1])), (a1, .inl (k1, 42, .inl ur11.2.1)), (a2, .inl (k2, 42, .inr (.inl ur11.2.2)))] H := hP
              have hD : va_D A [(h0, .inr (2, [.int full, .ref a1, .ref a2, .int ur11.1])), (a1, .inl (k1, 42, .inl ur11.2.1)), (a2, .inl (k2, 42, .inr (.inl ur11.2.2)))] := hD
              refine lv_iload_n hx hb d_Water_cutAt_111 rfl (lv_at hl 5 rfl) ?_
              refine lv_iconst (v := 1) hx hb d_Water_cutAt_112 (by decide) ?_
              refine lv_iadd hx hb d_Water_cutAt_113 ?_
              rw [← Option.some.inj h]
              have hP9 := hP
              have hD9 := hD
              exact W.iret (v := x3 + 1) hx hb hr (fun t ht hW => ⟨⟨x3 + 1, (), rfl, rfl, ⟨by rw [ht]; exact hP9, va_K.moved hW.alike hK, hD9⟩⟩, hS.F ht⟩) hS.2.2 d_Water_cutAt_114
            · replace h := gx_neg c3 h
              refine lv_iload_n hx hb d_Water_cutAt_57 rfl (lv_at hl 4 rfl) ?_
              rw [← Option.some.inj h]
              have hP9 := hP
              have hD9 := hD
              exact W.iret (v := x3) hx hb hr (fun t ht hW => ⟨⟨x3, (), rfl, rfl, ⟨by rw [ht]; exact hP9, va_K.moved hW.alike hK, hD9⟩⟩, hS.F ht⟩) hS.2.2 d_Water_cutAt_58
        · replace h := gx_neg c1 h
          refine lv_iload_n hx hb d_Water_cutAt_12 rfl (lv_at hl 2 rfl) ?_
          refine lv_aload_n hx hb d_Water_cutAt_13 rfl (lv_at hl 0 rfl) ?_
          refine va_get (D := (dC, dI)) (ci := 2) (v := .ref a1) (C := R_Water) (T := F_Water) (N := 4) hx hb hts (gx_in i_Water) hown hK hP 0 rfl rfl 1 (by decide) (hts _ (gx_w mw_173)) (fun _ h9 => h9) rfl d_Water_cutAt_14 ?_
          refine lv_iload_n hx hb d_Water_cutAt_17 rfl (lv_at hl 3 rfl) ?_
          obtain ⟨hi12, h⟩ := gx_inb_of h
          refine va_iald hx hb hK hP 1 0 rfl rfl hi12 d_Water_cutAt_18 ?_
          refine lv_iadd hx hb d_Water_cutAt_19 ?_
          refine lv_iload_n hx hb d_Water_cutAt_20 rfl (lv_at hl 1 rfl) ?_
          refine lv_icmp_gt (tgt := 39) hx hb d_Water_cutAt_21 (by decide) (fun c13 => ?_) (fun c13 => ?_)
          · replace h := gx_pos c13 h
            refine lv_iload_n hx hb d_Water_cutAt_39 rfl (lv_at hl 1 rfl) ?_
            refine lv_iload_n hx hb d_Water_cutAt_40 rfl (lv_at hl 2 rfl) ?_
            refine lv_isub hx hb d_Water_cutAt_41 ?_
            refine lv_istore (lv' := [(4, .int (x1 - x2)), (0, .ref h0), (1, .int x1), (2, .int x2), (3, .int x3)]) hx hb d_Water_cutAt_42 hl (by decide) rfl (fun ls hl => ?_)
            refine lv_iload_n hx hb d_Water_cutAt_44 rfl (lv_at hl 4 rfl) ?_
            refine lv_aload_n hx hb d_Water_cutAt_45 rfl (lv_at hl 1 rfl) ?_
            refine va_get (D := (dC, dI)) (ci := 2) (v := .int cnt) (C := R_Water) (T := F_Water) (N := 4) hx hb hts (gx_in i_Water) hown hK hP 0 rfl rfl 3 (by decide) (hts _ (gx_w mw_177)) (fun _ h9 => h9) rfl d_Water_cutAt_46 ?_
            refine lv_icmp_ge (tgt := 57) hx hb d_Water_cutAt_49 (by decide) (fun c14 => ?_) (fun c14 => ?_)
            · replace h := gx_pos c14 h
              refine lv_iload_n hx hb d_Water_cutAt_57 rfl (lv_at hl 4 rfl) ?_
              rw [← Option.some.inj h]
              have hP9 := hP
              have hD9 := hD
              exact W.iret (v := x3) hx hb hr (fun t ht hW => ⟨⟨x3, (), rfl, rfl, ⟨by rw [ht]; exact hP9, va_K.moved hW.alike hK, hD9⟩⟩, hS.F ht⟩) hS.2.2 d_Water_cutAt_58
            · replace h := gx_neg c14 h
              refine lv_iload hx hb d_Water_cutAt_52 (lv_at hl 0 rfl) ?_
              refine lv_if_gt (tgt := 59) hx hb d_Water_cutAt_54 (by decide) (fun c15 => ?_) (fun c15 => ?_)
              · replace h := gx_pos c15 h
                refine lv_aload_n hx hb d_Water_cutAt_59 rfl (lv_at hl 1 rfl) ?_
                refine va_get (D := (dC, dI)) (ci := 2) (v := .ref a2) (C := R_Water) (T := F_Water) (N := 4) hx hb hts (gx_in i_Water) hown hK hP 0 rfl rfl 2 (by decide) (hts _ (gx_w mw_175)) (fun _ h9 => h9) rfl d_Water_cutAt_60 ?_
                refine lv_iload_n hx hb d_Water_cutAt_63 rfl (lv_at hl 4 rfl) ?_
                obtain ⟨hi16, h⟩ := gx_inb_of h
                refine va_lald hx hb hK hP 2 1 rfl rfl hi16 d_Water_cutAt_64 ?_
                refine lv_iload hx hb d_Water_cutAt_65 (lv_at hl 0 rfl) ?_
                refine lv_i2l (v := (x1 - x2).toInt64) hx hb d_Water_cutAt_67 rfl ?_
                refine lv_aload_n hx hb d_Water_cutAt_68 rfl (lv_at hl 1 rfl) ?_
                refine va_get (D := (dC, dI)) (ci := 2) (v := .ref a1) (C := R_Water) (T := F_Water) (N := 4) hx hb hts (gx_in i_Water) hown hK hP 0 rfl rfl 1 (by decide) (hts _ (gx_w mw_173)) (fun _ h9 => h9) rfl d_Water_cutAt_69 ?_
                refine lv_iload_n hx hb d_Water_cutAt_72 rfl (lv_at hl 4 rfl) ?_
                obtain ⟨hi17, h⟩ := gx_inb_of h
                refine va_iald hx hb hK hP 1 0 rfl rfl hi17 d_Water_cutAt_73 ?_
                refine lv_i2l (v := (vf x3.toNatClampNeg).toInt64) hx hb d_Water_cutAt_74 rfl ?_
                have hPc := hP.sub (ws' := []) [] rfl
                have hDc := hD.sub (ws' := []) [] (by decide) rfl
                have hKc := hK.sub (tys' := []) [] rfl
                have hFc := va_free (wc := []) hD hS hA [] rfl
                obtain ⟨ur18, hc18, h⟩ := gx_bind h
                refine va_calll (va_runSN (As := [.long (hf x3.toNatClampNeg), .long ((x1 - x2).toInt64), .long ((vf x3.toNatClampNeg).toInt64)]) (rest := []) ⟨hx, hb, hml, hown, hts⟩ (c_TL_shareOf N l dC dI H.size (hf x3.toNatClampNeg) ((x1 - x2).toInt64) ((vf x3.toNatClampNeg).toInt64) ur18 hc18) ⟨va_cnB 3 hts (gx_gi mw_324) rfl rfl rfl hE.1 (hts _ (gx_w mw_24)) (by decide +kernel) ⟨Nat.le_of_ble_eq_true rfl, Nat.le_of_ble_eq_true rfl⟩, (hts _ (gx_w mw_323)), trivial⟩ ⟨fun a U g mk q => by obtain ⟨q0, q1, qP, qK, qD, qE⟩ := q; exact ⟨q0, q1, qP, va_K.moved (u := U) (U := U.calling g mk a) (Vm.Alike.refl U.vm) qK, qD, qE.calls⟩, fun U hU hW => ⟨rfl, by rw [hU], by rw [hU]; exact hPc, va_K.moved hW.alike hKc, hDc.weaken (fun _ _ _ _ => trivial), hE.warm hW⟩⟩ rfl rfl hl.1 rfl (lv_room (Nat.le_of_ble_eq_true rfl)) d_Water_cutAt_75 ⟨(Nat.zero_le _), (Nat.zero_le _)⟩) hS (fun q _ h => hFc q h) hFc (fun r18 _ t H locs ht hvm hw hB hz1 hk1 hS => ?_)
                obtain ⟨hP1, hK1, hD1⟩ := hB
                rw [ht] at hP1
                rw [hw]
                replace hP := gx_keep0 hP hk1
                refine lv_lstore (lv' := [(5, .long ur18), (4, .int (x1 - x2)), (0, .ref h0), (1, .int x1), (2, .int x2), (3, .int x3)]) hx hb d_Water_cutAt_78 hl (by decide) rfl (fun ls hl => ?_)
                refine lv_aload_n hx hb d_Water_cutAt_80 rfl (lv_at hl 2 rfl) ?_
                refine va_get (D := (dC, dI)) (ci := 2) (v := .ref a1) (C := R_Water) (T := F_Water) (N := 4) hx hb hts (gx_in i_Water) hown hK hP 0 rfl rfl 1 (by decide) (hts _ (gx_w mw_173)) (fun _ h9 => h9) rfl d_Water_cutAt_81 ?_
                refine lv_iload_n hx hb d_Water_cutAt_84 rfl (lv_at hl 5 rfl) ?_
                refine lv_dup2_11 hx hb d_Water_cutAt_85 rfl rfl ?_
                obtain ⟨hi19, h⟩ := gx_inb_of h
                refine va_iald hx hb hK hP 1 0 rfl rfl hi19 d_Water_cutAt_86 ?_
                refine lv_iload hx hb d_Water_cutAt_87 (lv_at hl 1 rfl) ?_
                refine lv_isub hx hb d_Water_cutAt_89 ?_
                obtain ⟨hi20, h⟩ := gx_inb_of h
                refine va_iast hx hb hK hP hD hS 1 0 rfl rfl hi20 d_Water_cutAt_90 (fun H locs hP hD hS => ?_)
                have hP : va_P (dC, dI) classes [(h0, .inr (2, [.int full, .ref a1, .ref a2, .int cnt])), (a1, .inl (k1, 42, .inl (upd vf x3.toNatClampNeg ((vf x3.toNatClampNeg) - (x1 - x2))))), (a2, .inl (k2, 42, .inr (.inl hf)))] H := hP
                have hD : va_D A [(h0, .inr (2, [.int full, .ref a1, .ref a2, .int cnt])), (a1, .inl (k1, 42, .inl (upd vf x3.toNatClampNeg ((vf x3.toNatClampNeg) - (x1 - x2))))), (a2, .inl (k2, 42, .inr (.inl hf)))] := hD
                refine lv_aload_n hx hb d_Water_cutAt_91 rfl (lv_at hl 2 rfl) ?_
                refine va_get (D := (dC, dI)) (ci := 2) (v := .ref a2) (C := R_Water) (T := F_Water) (N := 4) hx hb hts (gx_in i_Water) hown hK hP 0 rfl rfl 2 (by decide) (hts _ (gx_w mw_175)) (fun _ h9 => h9) rfl d_Water_cutAt_92 ?_
                refine lv_iload_n hx hb d_Water_cutAt_95 rfl (lv_at hl 5 rfl) ?_
                refine lv_dup2_11 hx hb d_Water_cutAt_96 rfl rfl ?_
                obtain ⟨hi21, h⟩ := gx_inb_of h
                refine va_lald hx hb hK hP 2 1 rfl rfl hi21 d_Water_cutAt_97 ?_
                refine lv_lload hx hb d_Water_cutAt_98 (lv_at hl 0 rfl) ?_
                refine lv_lsub hx hb d_Water_cutAt_100 ?_
                obtain ⟨hi22, h⟩ := gx_inb_of h
                refine va_last hx hb hK hP hD hS 2 1 rfl rfl hi22 d_Water_cutAt_101 (fun H locs hP hD hS => ?_)
                have hP : va_P (dC, dI) classes [(h0, .inr (2, [.int full, .ref a1, .ref a2, .int cnt])), (a1, .inl (k1, 42, .inl (upd vf x3.toNatClampNeg ((vf x3.toNatClampNeg) - (x1 - x2))))), (a2, .inl (k2, 42, .inr (.inl (vp_updL hf x3.toNatClampNeg ((hf x3.toNatClampNeg) - ur18)))))] H := hP
                have hD : va_D A [(h0, .inr (2, [.int full, .ref a1, .ref a2, .int cnt])), (a1, .inl (k1, 42, .inl (upd vf x3.toNatClampNeg ((vf x3.toNatClampNeg) - (x1 - x2))))), (a2, .inl (k2, 42, .inr (.inl (vp_updL hf x3.toNatClampNeg ((hf x3.toNatClampNeg) - ur18)))))] := hD
                refine lv_aload_n hx hb d_Water_cutAt_102 rfl (lv_at hl 2 rfl) ?_
                refine lv_iload_n hx hb d_Water_cutAt_103 rfl (lv_at hl 5 rfl) ?_
                refine lv_iload hx hb d_Water_cutAt_104 (lv_at hl 1 rfl) ?_
                refine lv_lload hx hb d_Water_cutAt_106 (lv_at hl 0 rfl) ?_
                have hPc := hP.sub (ws' := [(h0, .inr (2, [.int full, .ref a1, .ref a2, .int cnt])), (a1, .inl (k1, 42, .inl (upd vf x3.toNatClampNeg ((vf x3.toNatClampNeg) - (x1 - x2))))), (a2, .inl (k2, 42, .inr (.inl (vp_updL hf x3.toNatClampNeg ((hf x3.toNatClampNeg) - ur18)))))]) [0, 1, 2] rfl
                have hDc := hD.sub (ws' := [(h0, .inr (2, [.int full, .ref a1, .ref a2, .int cnt])), (a1, .inl (k1, 42, .inl (upd vf x3.toNatClampNeg ((vf x3.toNatClampNeg) - (x1 - x2))))), (a2, .inl (k2, 42, .inr (.inl (vp_updL hf x3.toNatClampNeg ((hf x3.toNatClampNeg) - ur18)))))]) [0, 1, 2] (by decide) rfl
                have hKc := hK.sub (tys' := [(k1, .int), (k2, .long)]) [0, 1] rfl
                have hFc := va_free (wc := [(h0, .inr (2, [.int full, .ref a1, .ref a2, .int cnt])), (a1, .inl (k1, 42, .inl (upd vf x3.toNatClampNeg ((vf x3.toNatClampNeg) - (x1 - x2))))), (a2, .inl (k2, 42, .inr (.inl (vp_updL hf x3.toNatClampNeg ((hf x3.toNatClampNeg) - ur18)))))]) hD hS hA [0, 1, 2] rfl
                obtain ⟨ur23, hc23, h⟩ := gx_bind h
                refine va_callv (va_runV (As := [.int x3, .int (x1 - x2), .long ur18]) (rest := []) ⟨hx, hb, hml, hown, hts⟩ (c_Water_insertLayer N l dC dI h0 a1 a2 k1 k2 H.size full cnt (upd vf x3.toNatClampNeg ((vf x3.toNatClampNeg) - (x1 - x2))) (vp_updL hf x3.toNatClampNeg ((hf x3.toNatClampNeg) - ur18)) x3 (x1 - x2) ur18 ur23 hc23) (cwV 3 hts (gx_gV mw_331 mw_328 mw_330 mw_3 mw_32) rfl rfl rfl (by decide +kernel) ⟨Nat.le_of_ble_eq_true rfl, Nat.le_of_ble_eq_true rfl⟩) ⟨fun a U g mk q => by obtain ⟨q0, q1, qP, qK, qD, qE⟩ := q; exact ⟨q0, q1, qP, va_K.moved (u := U) (U := U.calling g mk a) (Vm.Alike.refl U.vm) qK, qD, qE.calls⟩, va_recv hKc hPc (ci := 2) (q0 := 0) rfl rfl, fun U hU hW => ⟨rfl, by rw [hU], by rw [hU]; exact hPc, va_K.moved hW.alike hKc, hDc.weaken (fun _ _ _ _ => trivial), hE.warm hW⟩⟩ rfl rfl hl.1 rfl (lv_room (Nat.le_of_ble_eq_true rfl)) d_Water_cutAt_108 ⟨(Nat.zero_le _), (Nat.zero_le _)⟩) hS (fun q _ h => hFc q h) hFc (fun _ t H locs ht hvm hw hB hz1 hk1 hS => ?_)
                obtain ⟨hP1, hK1, hD1⟩ := hB
                rw [ht] at hP1
                obtain ⟨hP, hD⟩ := va_join (wr := []) (w1 := [(h0, .inr (2, [.int full, .ref a1, .ref a2, .int ur23.1])), (a1, .inl (k1, 42, .inl ur23.2.1)), (a2, .inl (k2, 42, .inr (.inl ur23.2.2)))]) hP hD [0, 1, 2] [] rfl rfl (by decide) (by decide) hk1 hFc hP1 hD1
                have hP : va_P (dC, dI) classes [(h0, .inr (2, [.int full, .ref a1, .ref a2, .int ur23.1])), (a1, .inl (k1, 42, .inl ur23.2.1)), (a2, .inl (k2, 42, .inr (.inl ur23.2.2)))] H := hP
                have hD : va_D A [(h0, .inr (2, [.int full, .ref a1, .ref a2, .int ur23.1])), (a1, .inl (k1, 42, .inl ur23.2.1)), (a2, .inl (k2, 42, .inr (.inl ur23.2.2)))] := hD
                refine lv_iload_n hx hb d_Water_cutAt_111 rfl (lv_at hl 5 rfl) ?_
                refine lv_iconst (v := 1) hx hb d_Water_cutAt_112 (by decide) ?_
                refine lv_iadd hx hb d_Water_cutAt_113 ?_
                rw [← Option.some.inj h]
                have hP9 := hP
                have hD9 := hD
                exact W.iret (v := x3 + 1) hx hb hr (fun t ht hW => ⟨⟨x3 + 1, (), rfl, rfl, ⟨by rw [ht]; exact hP9, va_K.moved hW.alike hK, hD9⟩⟩, hS.F ht⟩) hS.2.2 d_Water_cutAt_114
              · replace h := gx_neg c15 h
                refine lv_iload_n hx hb d_Water_cutAt_57 rfl (lv_at hl 4 rfl) ?_
                rw [← Option.some.inj h]
                have hP9 := hP
                have hD9 := hD
                exact W.iret (v := x3) hx hb hr (fun t ht hW => ⟨⟨x3, (), rfl, rfl, ⟨by rw [ht]; exact hP9, va_K.moved hW.alike hK, hD9⟩⟩, hS.F ht⟩) hS.2.2 d_Water_cutAt_58
          · replace h := gx_neg c13 h
            refine lv_iload_n hx hb d_Water_cutAt_24 rfl (lv_at hl 2 rfl) ?_
            refine lv_aload_n hx hb d_Water_cutAt_25 rfl (lv_at hl 0 rfl) ?_
            refine va_get (D := (dC, dI)) (ci := 2) (v := .ref a1) (C := R_Water) (T := F_Water) (N := 4) hx hb hts (gx_in i_Water) hown hK hP 0 rfl rfl 1 (by decide) (hts _ (gx_w mw_173)) (fun _ h9 => h9) rfl d_Water_cutAt_26 ?_
            refine lv_iload_n hx hb d_Water_cutAt_29 rfl (lv_at hl 3 rfl) ?_
            obtain ⟨hi24, h⟩ := gx_inb_of h
            refine va_iald hx hb hK hP 1 0 rfl rfl hi24 d_Water_cutAt_30 ?_
            refine lv_iadd hx hb d_Water_cutAt_31 ?_
            refine lv_istore_n (lv' := [(2, .int (x2 + (vf x3.toNatClampNeg))), (0, .ref h0), (1, .int x1), (3, .int x3)]) hx hb d_Water_cutAt_32 rfl hl (by decide) rfl (fun ls hl => ?_)
            refine lv_iinc (v := x3 + 1) (lv' := [(3, .int (x3 + 1)), (2, .int (x2 + (vf x3.toNatClampNeg))), (0, .ref h0), (1, .int x1)]) hx hb d_Water_cutAt_33 hl (k := 3) rfl rfl (by decide) rfl (fun ls hl => ?_)
            refine lv_goto (tgt := 4) hx hb d_Water_cutAt_36 (by decide) ?_
            exact ih x1 (x2 + (vf x3.toNatClampNeg)) (x3 + 1) cnt vf hf h _ _ hP hD hS ls (lv_sub hl [2, 3, 1, 0] rfl)
  have key : ∀ (H : Heap) (locs : List Loc), va_P (dC, dI) classes [(h0, .inr (2, [.int full, .ref a1, .ref a2, .int cnt])), (a1, .inl (k1, 42, .inl vf)), (a2, .inl (k2, 42, .inr (.inl hf)))] H → va_D A [(h0, .inr (2, [.int full, .ref a1, .ref a2, .int cnt])), (a1, .inl (k1, 42, .inl vf)), (a2, .inl (k2, 42, .inr (.inl hf)))] → va_S A s.heap H locs → ∀ (ls : Array Slot), lv_has ls 7 [(0, .ref h0), (1, .int p1)] → W p l e ({ frames := 2, cells := 0, slots := 0, locals := 50 } : Room) s m ([.ref h0, .int p1] : List Value).toArray below meth c H locs 0 0 (MQ below (va_Qi (fun (r : Int32) (_ : Unit) => r = res.1) (fun _ t => va_P (dC, dI) classes [(h0, .inr (2, [.int full, .ref a1, .ref a2, .int res.2.1])), (a1, .inl (k1, 42, .inl res.2.2.1)), (a2, .inl (k2, 42, .inr (.inl res.2.2.2)))] t.heap ∧ va_K (dC, dI) classes [(k1, .int), (k2, .long)] t ∧ va_D A [(h0, .inr (2, [.int full, .ref a1, .ref a2, .int res.2.1])), (a1, .inl (k1, 42, .inl res.2.2.1)), (a2, .inl (k2, 42, .inr (.inl res.2.2.2)))]) A) ([.ref h0, .int p1] : List Value).toArray s 0 0 A) (F0 m 0 ls []) := by
    intro H locs hP hD hS ls hl
    unfold fn_Water_cutAt at h
    refine lv_iconst (v := 0) hx hb d_Water_cutAt_0 (by decide) ?_
    refine lv_istore_n (lv' := [(2, .int 0), (0, .ref h0), (1, .int p1)]) hx hb d_Water_cutAt_1 rfl hl (by decide) rfl (fun ls hl => ?_)
    refine lv_iconst (v := 0) hx hb d_Water_cutAt_2 (by decide) ?_
    refine lv_istore_n (lv' := [(3, .int 0), (2, .int 0), (0, .ref h0), (1, .int p1)]) hx hb d_Water_cutAt_3 rfl hl (by decide) rfl (fun ls hl => ?_)
    exact (loop N) p1 0 0 cnt vf hf h _ _ hP hD hS ls (lv_sub hl [2, 3, 1, 0] rfl)
  have hl := lv_entry ([.ref h0, .int p1]) (n := 7) (Nat.le_of_ble_eq_true rfl)
  rw [lg_entry_eq]
  generalize (lg_sl ([.ref h0, .int p1]) ++ List.replicate (7 - (lg_sl ([.ref h0, .int p1])).length) Slot.unset).toArray = ls at hl ⊢
  exact key _ _ hP hD va_S.rf ls hl
