theorem mw_177 : (Cond.fieldLink R_Water 23 "TankLayers$Water" "count" "I") ∈ gx_W := List.mem_filter.mpr ⟨List.mem_of_getElem? (i := 177) (by decide +kernel), by decide +kernel⟩
theorem mw_173 : (Cond.fieldLink R_Water 15 "TankLayers$Water" "volumes" "[I") ∈ gx_W := List.mem_filter.mpr ⟨List.mem_of_getElem? (i := 173) (by decide +kernel), by decide +kernel⟩
theorem mw_358 : (Cond.code y_Water_dropLowest b_Water_dropLowest 3 none) ∈ gx_W := List.mem_filter.mpr ⟨List.mem_of_getElem? (i := 358) (by decide +kernel), by decide +kernel⟩
theorem mw_355 : (Cond.methodLink R_Water 48 y_Water_dropLowest) ∈ gx_W := List.mem_filter.mpr ⟨List.mem_of_getElem? (i := 355) (by decide +kernel), by decide +kernel⟩
theorem mw_357 : (Cond.instanceMethod y_Water_dropLowest) ∈ gx_W := List.mem_filter.mpr ⟨List.mem_of_getElem? (i := 357) (by decide +kernel), by decide +kernel⟩
theorem mw_8 : (Cond.selects R_Water y_Water_dropLowest y_Water_dropLowest) ∈ gx_W := List.mem_filter.mpr ⟨List.mem_of_getElem? (i := 8) (by decide +kernel), by decide +kernel⟩
theorem mw_32 : (Cond.initialized R_Water) ∈ gx_W := List.mem_filter.mpr ⟨List.mem_of_getElem? (i := 32) (by decide +kernel), by decide +kernel⟩
theorem d_Water_insertLayer_0 : decode b_Water_insertLayer 0 = .ok (.iload_n 1, 1) := by decide +kernel
theorem d_Water_insertLayer_1 : decode b_Water_insertLayer 1 = .ok (.ifCond .lt 23, 3) := by decide +kernel
theorem d_Water_insertLayer_4 : decode b_Water_insertLayer 4 = .ok (.iload_n 1, 1) := by decide +kernel
theorem d_Water_insertLayer_5 : decode b_Water_insertLayer 5 = .ok (.aload_n 0, 1) := by decide +kernel
theorem d_Water_insertLayer_6 : decode b_Water_insertLayer 6 = .ok (.getfield 23, 3) := by decide +kernel
theorem d_Water_insertLayer_9 : decode b_Water_insertLayer 9 = .ok (.if_icmp .gt 15, 3) := by decide +kernel
theorem d_Water_insertLayer_12 : decode b_Water_insertLayer 12 = .ok (.aload_n 0, 1) := by decide +kernel
theorem d_Water_insertLayer_13 : decode b_Water_insertLayer 13 = .ok (.getfield 23, 3) := by decide +kernel
theorem d_Water_insertLayer_16 : decode b_Water_insertLayer 16 = .ok (.aload_n 0, 1) := by decide +kernel
theorem d_Water_insertLayer_17 : decode b_Water_insertLayer 17 = .ok (.getfield 15, 3) := by decide +kernel
theorem d_Water_insertLayer_20 : decode b_Water_insertLayer 20 = .ok (.arraylength, 1) := by decide +kernel
theorem d_Water_insertLayer_21 : decode b_Water_insertLayer 21 = .ok (.if_icmp .lt 4, 3) := by decide +kernel
theorem d_Water_insertLayer_24 : decode b_Water_insertLayer 24 = .ok (.return_, 1) := by decide +kernel
theorem d_Water_insertLayer_25 : decode b_Water_insertLayer 25 = .ok (.aload_n 0, 1) := by decide +kernel
theorem d_Water_insertLayer_26 : decode b_Water_insertLayer 26 = .ok (.getfield 23, 3) := by decide +kernel
theorem d_Water_insertLayer_29 : decode b_Water_insertLayer 29 = .ok (.istore 5, 2) := by decide +kernel
theorem d_Water_insertLayer_31 : decode b_Water_insertLayer 31 = .ok (.iload 5, 2) := by decide +kernel
theorem d_Water_insertLayer_33 : decode b_Water_insertLayer 33 = .ok (.iload_n 1, 1) := by decide +kernel
theorem d_Water_insertLayer_34 : decode b_Water_insertLayer 34 = .ok (.if_icmp .le 41, 3) := by decide +kernel
theorem d_Water_insertLayer_37 : decode b_Water_insertLayer 37 = .ok (.aload_n 0, 1) := by decide +kernel
theorem d_Water_insertLayer_38 : decode b_Water_insertLayer 38 = .ok (.getfield 15, 3) := by decide +kernel
theorem d_Water_insertLayer_41 : decode b_Water_insertLayer 41 = .ok (.iload 5, 2) := by decide +kernel
theorem d_Water_insertLayer_43 : decode b_Water_insertLayer 43 = .ok (.aload_n 0, 1) := by decide +kernel
theorem d_Water_insertLayer_44 : decode b_Water_insertLayer 44 = .ok (.getfield 15, 3) := by decide +kernel
theorem d_Water_insertLayer_47 : decode b_Water_insertLayer 47 = .ok (.iload 5, 2) := by decide +kernel
theorem d_Water_insertLayer_49 : decode b_Water_insertLayer 49 = .ok (.iconst 1, 1) := by decide +kernel
theorem d_Water_insertLayer_50 : decode b_Water_insertLayer 50 = .ok (.isub, 1) := by decide +kernel
theorem d_Water_insertLayer_51 : decode b_Water_insertLayer 51 = .ok (.iaload, 1) := by decide +kernel
theorem d_Water_insertLayer_52 : decode b_Water_insertLayer 52 = .ok (.iastore, 1) := by decide +kernel
theorem d_Water_insertLayer_53 : decode b_Water_insertLayer 53 = .ok (.aload_n 0, 1) := by decide +kernel
theorem d_Water_insertLayer_54 : decode b_Water_insertLayer 54 = .ok (.getfield 19, 3) := by decide +kernel
theorem d_Water_insertLayer_57 : decode b_Water_insertLayer 57 = .ok (.iload 5, 2) := by decide +kernel
theorem d_Water_insertLayer_59 : decode b_Water_insertLayer 59 = .ok (.aload_n 0, 1) := by decide +kernel
theorem d_Water_insertLayer_60 : decode b_Water_insertLayer 60 = .ok (.getfield 19, 3) := by decide +kernel
theorem d_Water_insertLayer_63 : decode b_Water_insertLayer 63 = .ok (.iload 5, 2) := by decide +kernel
theorem d_Water_insertLayer_65 : decode b_Water_insertLayer 65 = .ok (.iconst 1, 1) := by decide +kernel
theorem d_Water_insertLayer_66 : decode b_Water_insertLayer 66 = .ok (.isub, 1) := by decide +kernel
theorem d_Water_insertLayer_67 : decode b_Water_insertLayer 67 = .ok (.laload, 1) := by decide +kernel
theorem d_Water_insertLayer_68 : decode b_Water_insertLayer 68 = .ok (.lastore, 1) := by decide +kernel
theorem d_Water_insertLayer_69 : decode b_Water_insertLayer 69 = .ok (.iinc 5 (-1), 3) := by decide +kernel
theorem d_Water_insertLayer_72 : decode b_Water_insertLayer 72 = .ok (.goto (-41), 3) := by decide +kernel
theorem d_Water_insertLayer_75 : decode b_Water_insertLayer 75 = .ok (.aload_n 0, 1) := by decide +kernel
theorem d_Water_insertLayer_76 : decode b_Water_insertLayer 76 = .ok (.getfield 15, 3) := by decide +kernel
theorem d_Water_insertLayer_79 : decode b_Water_insertLayer 79 = .ok (.iload_n 1, 1) := by decide +kernel
theorem d_Water_insertLayer_80 : decode b_Water_insertLayer 80 = .ok (.iload_n 2, 1) := by decide +kernel
theorem d_Water_insertLayer_81 : decode b_Water_insertLayer 81 = .ok (.iastore, 1) := by decide +kernel
theorem d_Water_insertLayer_82 : decode b_Water_insertLayer 82 = .ok (.aload_n 0, 1) := by decide +kernel
theorem d_Water_insertLayer_83 : decode b_Water_insertLayer 83 = .ok (.getfield 19, 3) := by decide +kernel
theorem d_Water_insertLayer_86 : decode b_Water_insertLayer 86 = .ok (.iload_n 1, 1) := by decide +kernel
theorem d_Water_insertLayer_87 : decode b_Water_insertLayer 87 = .ok (.lload_n 3, 1) := by decide +kernel
theorem d_Water_insertLayer_88 : decode b_Water_insertLayer 88 = .ok (.lastore, 1) := by decide +kernel
theorem d_Water_insertLayer_89 : decode b_Water_insertLayer 89 = .ok (.aload_n 0, 1) := by decide +kernel
theorem d_Water_insertLayer_90 : decode b_Water_insertLayer 90 = .ok (.dup, 1) := by decide +kernel
theorem d_Water_insertLayer_91 : decode b_Water_insertLayer 91 = .ok (.getfield 23, 3) := by decide +kernel
theorem d_Water_insertLayer_94 : decode b_Water_insertLayer 94 = .ok (.iconst 1, 1) := by decide +kernel
theorem d_Water_insertLayer_95 : decode b_Water_insertLayer 95 = .ok (.iadd, 1) := by decide +kernel
theorem d_Water_insertLayer_96 : decode b_Water_insertLayer 96 = .ok (.putfield 23, 3) := by decide +kernel
theorem d_Water_insertLayer_99 : decode b_Water_insertLayer 99 = .ok (.return_, 1) := by decide +kernel
theorem d_Water_dropLowest_0 : decode b_Water_dropLowest 0 = .ok (.iload_n 1, 1) := by decide +kernel
theorem d_Water_dropLowest_1 : decode b_Water_dropLowest 1 = .ok (.ifCond .le 11, 3) := by decide +kernel
theorem d_Water_dropLowest_4 : decode b_Water_dropLowest 4 = .ok (.iload_n 1, 1) := by decide +kernel
theorem d_Water_dropLowest_5 : decode b_Water_dropLowest 5 = .ok (.aload_n 0, 1) := by decide +kernel
theorem d_Water_dropLowest_6 : decode b_Water_dropLowest 6 = .ok (.getfield 23, 3) := by decide +kernel
theorem d_Water_dropLowest_9 : decode b_Water_dropLowest 9 = .ok (.if_icmp .le 4, 3) := by decide +kernel
theorem d_Water_dropLowest_12 : decode b_Water_dropLowest 12 = .ok (.return_, 1) := by decide +kernel
theorem d_Water_dropLowest_13 : decode b_Water_dropLowest 13 = .ok (.iload_n 1, 1) := by decide +kernel
theorem d_Water_dropLowest_14 : decode b_Water_dropLowest 14 = .ok (.istore_n 2, 1) := by decide +kernel
theorem d_Water_dropLowest_15 : decode b_Water_dropLowest 15 = .ok (.iload_n 2, 1) := by decide +kernel
theorem d_Water_dropLowest_16 : decode b_Water_dropLowest 16 = .ok (.aload_n 0, 1) := by decide +kernel
theorem d_Water_dropLowest_17 : decode b_Water_dropLowest 17 = .ok (.getfield 23, 3) := by decide +kernel
theorem d_Water_dropLowest_20 : decode b_Water_dropLowest 20 = .ok (.if_icmp .ge 37, 3) := by decide +kernel
theorem d_Water_dropLowest_23 : decode b_Water_dropLowest 23 = .ok (.aload_n 0, 1) := by decide +kernel
theorem d_Water_dropLowest_24 : decode b_Water_dropLowest 24 = .ok (.getfield 15, 3) := by decide +kernel
theorem d_Water_dropLowest_27 : decode b_Water_dropLowest 27 = .ok (.iload_n 2, 1) := by decide +kernel
theorem d_Water_dropLowest_28 : decode b_Water_dropLowest 28 = .ok (.iload_n 1, 1) := by decide +kernel
theorem d_Water_dropLowest_29 : decode b_Water_dropLowest 29 = .ok (.isub, 1) := by decide +kernel
theorem d_Water_dropLowest_30 : decode b_Water_dropLowest 30 = .ok (.aload_n 0, 1) := by decide +kernel
theorem d_Water_dropLowest_31 : decode b_Water_dropLowest 31 = .ok (.getfield 15, 3) := by decide +kernel
theorem d_Water_dropLowest_34 : decode b_Water_dropLowest 34 = .ok (.iload_n 2, 1) := by decide +kernel
theorem d_Water_dropLowest_35 : decode b_Water_dropLowest 35 = .ok (.iaload, 1) := by decide +kernel
theorem d_Water_dropLowest_36 : decode b_Water_dropLowest 36 = .ok (.iastore, 1) := by decide +kernel
theorem d_Water_dropLowest_37 : decode b_Water_dropLowest 37 = .ok (.aload_n 0, 1) := by decide +kernel
theorem d_Water_dropLowest_38 : decode b_Water_dropLowest 38 = .ok (.getfield 19, 3) := by decide +kernel
theorem d_Water_dropLowest_41 : decode b_Water_dropLowest 41 = .ok (.iload_n 2, 1) := by decide +kernel
theorem d_Water_dropLowest_42 : decode b_Water_dropLowest 42 = .ok (.iload_n 1, 1) := by decide +kernel
theorem d_Water_dropLowest_43 : decode b_Water_dropLowest 43 = .ok (.isub, 1) := by decide +kernel
theorem d_Water_dropLowest_44 : decode b_Water_dropLowest 44 = .ok (.aload_n 0, 1) := by decide +kernel
theorem d_Water_dropLowest_45 : decode b_Water_dropLowest 45 = .ok (.getfield 19, 3) := by decide +kernel
theorem d_Water_dropLowest_48 : decode b_Water_dropLowest 48 = .ok (.iload_n 2, 1) := by decide +kernel
theorem d_Water_dropLowest_49 : decode b_Water_dropLowest 49 = .ok (.laload, 1) := by decide +kernel
theorem d_Water_dropLowest_50 : decode b_Water_dropLowest 50 = .ok (.lastore, 1) := by decide +kernel
theorem d_Water_dropLowest_51 : decode b_Water_dropLowest 51 = .ok (.iinc 2 1, 3) := by decide +kernel
theorem d_Water_dropLowest_54 : decode b_Water_dropLowest 54 = .ok (.goto (-39), 3) := by decide +kernel
theorem d_Water_dropLowest_57 : decode b_Water_dropLowest 57 = .ok (.aload_n 0, 1) := by decide +kernel
theorem d_Water_dropLowest_58 : decode b_Water_dropLowest 58 = .ok (.dup, 1) := by decide +kernel
theorem d_Water_dropLowest_59 : decode b_Water_dropLowest 59 = .ok (.getfield 23, 3) := by decide +kernel
theorem d_Water_dropLowest_62 : decode b_Water_dropLowest 62 = .ok (.iload_n 1, 1) := by decide +kernel
theorem d_Water_dropLowest_63 : decode b_Water_dropLowest 63 = .ok (.isub, 1) := by decide +kernel
theorem d_Water_dropLowest_64 : decode b_Water_dropLowest 64 = .ok (.putfield 23, 3) := by decide +kernel
theorem d_Water_dropLowest_67 : decode b_Water_dropLowest 67 = .ok (.return_, 1) := by decide +kernel
theorem d_Water_isAsWarmAsNext_0 : decode b_Water_isAsWarmAsNext 0 = .ok (.aload_n 0, 1) := by decide +kernel
theorem d_Water_isAsWarmAsNext_1 : decode b_Water_isAsWarmAsNext 1 = .ok (.getfield 19, 3) := by decide +kernel
theorem d_Water_isAsWarmAsNext_4 : decode b_Water_isAsWarmAsNext 4 = .ok (.iload_n 1, 1) := by decide +kernel
theorem d_Water_isAsWarmAsNext_5 : decode b_Water_isAsWarmAsNext 5 = .ok (.laload, 1) := by decide +kernel
theorem d_Water_isAsWarmAsNext_6 : decode b_Water_isAsWarmAsNext 6 = .ok (.aload_n 0, 1) := by decide +kernel
theorem d_Water_isAsWarmAsNext_7 : decode b_Water_isAsWarmAsNext 7 = .ok (.getfield 15, 3) := by decide +kernel
theorem d_Water_isAsWarmAsNext_10 : decode b_Water_isAsWarmAsNext 10 = .ok (.iload_n 1, 1) := by decide +kernel
theorem d_Water_isAsWarmAsNext_11 : decode b_Water_isAsWarmAsNext 11 = .ok (.iconst 1, 1) := by decide +kernel
theorem d_Water_isAsWarmAsNext_12 : decode b_Water_isAsWarmAsNext 12 = .ok (.iadd, 1) := by decide +kernel
theorem d_Water_isAsWarmAsNext_13 : decode b_Water_isAsWarmAsNext 13 = .ok (.iaload, 1) := by decide +kernel
theorem d_Water_isAsWarmAsNext_14 : decode b_Water_isAsWarmAsNext 14 = .ok (.i2l, 1) := by decide +kernel
theorem d_Water_isAsWarmAsNext_15 : decode b_Water_isAsWarmAsNext 15 = .ok (.lmul, 1) := by decide +kernel
theorem d_Water_isAsWarmAsNext_16 : decode b_Water_isAsWarmAsNext 16 = .ok (.aload_n 0, 1) := by decide +kernel
theorem d_Water_isAsWarmAsNext_17 : decode b_Water_isAsWarmAsNext 17 = .ok (.getfield 19, 3) := by decide +kernel
theorem d_Water_isAsWarmAsNext_20 : decode b_Water_isAsWarmAsNext 20 = .ok (.iload_n 1, 1) := by decide +kernel
theorem d_Water_isAsWarmAsNext_21 : decode b_Water_isAsWarmAsNext 21 = .ok (.iconst 1, 1) := by decide +kernel
theorem d_Water_isAsWarmAsNext_22 : decode b_Water_isAsWarmAsNext 22 = .ok (.iadd, 1) := by decide +kernel
theorem d_Water_isAsWarmAsNext_23 : decode b_Water_isAsWarmAsNext 23 = .ok (.laload, 1) := by decide +kernel
theorem d_Water_isAsWarmAsNext_24 : decode b_Water_isAsWarmAsNext 24 = .ok (.aload_n 0, 1) := by decide +kernel
theorem d_Water_isAsWarmAsNext_25 : decode b_Water_isAsWarmAsNext 25 = .ok (.getfield 15, 3) := by decide +kernel
theorem d_Water_isAsWarmAsNext_28 : decode b_Water_isAsWarmAsNext 28 = .ok (.iload_n 1, 1) := by decide +kernel
theorem d_Water_isAsWarmAsNext_29 : decode b_Water_isAsWarmAsNext 29 = .ok (.iaload, 1) := by decide +kernel
theorem d_Water_isAsWarmAsNext_30 : decode b_Water_isAsWarmAsNext 30 = .ok (.i2l, 1) := by decide +kernel
theorem d_Water_isAsWarmAsNext_31 : decode b_Water_isAsWarmAsNext 31 = .ok (.lmul, 1) := by decide +kernel
theorem d_Water_isAsWarmAsNext_32 : decode b_Water_isAsWarmAsNext 32 = .ok (.lcmp, 1) := by decide +kernel
theorem d_Water_isAsWarmAsNext_33 : decode b_Water_isAsWarmAsNext 33 = .ok (.ifCond .lt 7, 3) := by decide +kernel
theorem d_Water_isAsWarmAsNext_36 : decode b_Water_isAsWarmAsNext 36 = .ok (.iconst 1, 1) := by decide +kernel
theorem d_Water_isAsWarmAsNext_37 : decode b_Water_isAsWarmAsNext 37 = .ok (.goto 4, 3) := by decide +kernel
theorem d_Water_isAsWarmAsNext_40 : decode b_Water_isAsWarmAsNext 40 = .ok (.iconst 0, 1) := by decide +kernel
theorem d_Water_isAsWarmAsNext_41 : decode b_Water_isAsWarmAsNext 41 = .ok (.ireturn, 1) := by decide +kernel
theorem d_Water_joinLowest_0 : decode b_Water_joinLowest 0 = .ok (.iload_n 1, 1) := by decide +kernel
theorem d_Water_joinLowest_1 : decode b_Water_joinLowest 1 = .ok (.ifCond .le 11, 3) := by decide +kernel
theorem d_Water_joinLowest_4 : decode b_Water_joinLowest 4 = .ok (.iload_n 1, 1) := by decide +kernel
theorem d_Water_joinLowest_5 : decode b_Water_joinLowest 5 = .ok (.aload_n 0, 1) := by decide +kernel
theorem d_Water_joinLowest_6 : decode b_Water_joinLowest 6 = .ok (.getfield 23, 3) := by decide +kernel
theorem d_Water_joinLowest_9 : decode b_Water_joinLowest 9 = .ok (.if_icmp .lt 4, 3) := by decide +kernel
theorem d_Water_joinLowest_12 : decode b_Water_joinLowest 12 = .ok (.return_, 1) := by decide +kernel
theorem d_Water_joinLowest_13 : decode b_Water_joinLowest 13 = .ok (.iconst 0, 1) := by decide +kernel
theorem d_Water_joinLowest_14 : decode b_Water_joinLowest 14 = .ok (.istore_n 2, 1) := by decide +kernel
theorem d_Water_joinLowest_15 : decode b_Water_joinLowest 15 = .ok (.iload_n 2, 1) := by decide +kernel
theorem d_Water_joinLowest_16 : decode b_Water_joinLowest 16 = .ok (.iload_n 1, 1) := by decide +kernel
theorem d_Water_joinLowest_17 : decode b_Water_joinLowest 17 = .ok (.if_icmp .ge 39, 3) := by decide +kernel
theorem d_Water_joinLowest_20 : decode b_Water_joinLowest 20 = .ok (.aload_n 0, 1) := by decide +kernel
theorem d_Water_joinLowest_21 : decode b_Water_joinLowest 21 = .ok (.getfield 15, 3) := by decide +kernel
theorem d_Water_joinLowest_24 : decode b_Water_joinLowest 24 = .ok (.iload_n 1, 1) := by decide +kernel
theorem d_Water_joinLowest_25 : decode b_Water_joinLowest 25 = .ok (.dup2, 1) := by decide +kernel
theorem d_Water_joinLowest_26 : decode b_Water_joinLowest 26 = .ok (.iaload, 1) := by decide +kernel
theorem d_Water_joinLowest_27 : decode b_Water_joinLowest 27 = .ok (.aload_n 0, 1) := by decide +kernel
theorem d_Water_joinLowest_28 : decode b_Water_joinLowest 28 = .ok (.getfield 15, 3) := by decide +kernel
theorem d_Water_joinLowest_31 : decode b_Water_joinLowest 31 = .ok (.iload_n 2, 1) := by decide +kernel
theorem d_Water_joinLowest_32 : decode b_Water_joinLowest 32 = .ok (.iaload, 1) := by decide +kernel
theorem d_Water_joinLowest_33 : decode b_Water_joinLowest 33 = .ok (.iadd, 1) := by decide +kernel
theorem d_Water_joinLowest_34 : decode b_Water_joinLowest 34 = .ok (.iastore, 1) := by decide +kernel
theorem d_Water_joinLowest_35 : decode b_Water_joinLowest 35 = .ok (.aload_n 0, 1) := by decide +kernel
theorem d_Water_joinLowest_36 : decode b_Water_joinLowest 36 = .ok (.getfield 19, 3) := by decide +kernel
theorem d_Water_joinLowest_39 : decode b_Water_joinLowest 39 = .ok (.iload_n 1, 1) := by decide +kernel
theorem d_Water_joinLowest_40 : decode b_Water_joinLowest 40 = .ok (.dup2, 1) := by decide +kernel
theorem d_Water_joinLowest_41 : decode b_Water_joinLowest 41 = .ok (.laload, 1) := by decide +kernel
theorem d_Water_joinLowest_42 : decode b_Water_joinLowest 42 = .ok (.aload_n 0, 1) := by decide +kernel
theorem d_Water_joinLowest_43 : decode b_Water_joinLowest 43 = .ok (.getfield 19, 3) := by decide +kernel
theorem d_Water_joinLowest_46 : decode b_Water_joinLowest 46 = .ok (.iload_n 2, 1) := by decide +kernel
theorem d_Water_joinLowest_47 : decode b_Water_joinLowest 47 = .ok (.laload, 1) := by decide +kernel
theorem d_Water_joinLowest_48 : decode b_Water_joinLowest 48 = .ok (.ladd, 1) := by decide +kernel
theorem d_Water_joinLowest_49 : decode b_Water_joinLowest 49 = .ok (.lastore, 1) := by decide +kernel
theorem d_Water_joinLowest_50 : decode b_Water_joinLowest 50 = .ok (.iinc 2 1, 3) := by decide +kernel
theorem d_Water_joinLowest_53 : decode b_Water_joinLowest 53 = .ok (.goto (-38), 3) := by decide +kernel
theorem d_Water_joinLowest_56 : decode b_Water_joinLowest 56 = .ok (.aload_n 0, 1) := by decide +kernel
theorem d_Water_joinLowest_57 : decode b_Water_joinLowest 57 = .ok (.iload_n 1, 1) := by decide +kernel
theorem d_Water_joinLowest_58 : decode b_Water_joinLowest 58 = .ok (.invokevirtual 48, 3) := by decide +kernel
theorem d_Water_joinLowest_61 : decode b_Water_joinLowest 61 = .ok (.return_, 1) := by decide +kernel
def bk_Water_insertLayer_31 (N : Nat) (full : Int32) (K : Int32 × Int32 × Int64 × Int32 × Int32 × (Nat → Int32) × (Nat → Int64) → Option (Int32 × (Nat → Int32) × (Nat → Int64))) (x1 : Int32) (x2 : Int32) (x3 : Int64) (x5 : Int32) (cnt : Int32) (vf : Nat → Int32) (hf : Nat → Int64) : Option (Int32 × (Nat → Int32) × (Nat → Int64)) :=
  if x5 ≤ x1 then if gx_inb x1 42 = true then if gx_inb x1 42 = true then some (cnt + 1, upd vf x1.toNatClampNeg x2, vp_updL hf x1.toNatClampNeg x3) else none else none else if gx_inb (x5 - 1) 42 = true then if gx_inb x5 42 = true then if gx_inb (x5 - 1) 42 = true then if gx_inb x5 42 = true then K (x1, x2, x3, x5 + (-1), cnt, upd vf x5.toNatClampNeg (vf (x5 - 1).toNatClampNeg), vp_updL hf x5.toNatClampNeg (hf (x5 - 1).toNatClampNeg)) else none else none else none else none
def st_Water_insertLayer (N : Nat) (full : Int32) (K : Int32 × Int32 × Int64 × Int32 × Int32 × (Nat → Int32) × (Nat → Int64) → Option (Int32 × (Nat → Int32) × (Nat → Int64))) (z : Int32 × Int32 × Int64 × Int32 × Int32 × (Nat → Int32) × (Nat → Int64)) : Option (Int32 × (Nat → Int32) × (Nat → Int64)) := match z with
  | (x1, x2, x3, x5, cnt, vf, hf) => bk_Water_insertLayer_31 N full K x1 x2 x3 x5 cnt vf hf
def fn_Water_insertLayer (N : Nat) (p1 : Int32) (p2 : Int32) (p3 : Int64) (full : Int32) (cnt : Int32) (vf : Nat → Int32) (hf : Nat → Int64) : Option (Int32 × (Nat → Int32) × (Nat → Int64)) :=
  if p1 < 0 then some (cnt, vf, hf) else if cnt < p1 then some (cnt, vf, hf) else if cnt < 42 then gx_fx (st_Water_insertLayer N full) N (p1, p2, p3, cnt, cnt, vf, hf) else some (cnt, vf, hf)
def w_Water_insertLayer : List Cond := .code y_Water_insertLayer b_Water_insertLayer 6 none :: gx_W
set_option maxHeartbeats 4000000 in
set_option maxRecDepth 100000 in
theorem c_Water_insertLayer (N : Nat) (l : Launch) (dC : Nat → ClassId) (dI : Nat → Nat → Nat) (h0 : Nat) (a1 : Nat) (a2 : Nat) (k1 : ClassId) (k2 : ClassId) (sz : Nat) (full : Int32) (cnt : Int32) (vf : Nat → Int32) (hf : Nat → Int64) (p1 : Int32) (p2 : Int32) (p3 : Int64) (res : Int32 × (Nat → Int32) × (Nat → Int64)) (h : fn_Water_insertLayer N p1 p2 p3 full cnt vf hf = some res) : Met l y_Water_insertLayer w_Water_insertLayer ({ frames := 0, cells := 0, slots := 0, locals := 0 } : Room) (va_Pc [.ref h0, .int p1, .int p2, .long p3] (fun U => U.heap.size = sz ∧ va_P (dC, dI) classes [(h0, .inr (2, [.int full, .ref a1, .ref a2, .int cnt])), (a1, .inl (k1, 42, .inl vf)), (a2, .inl (k2, 42, .inr (.inl hf)))] U.heap ∧ va_K (dC, dI) classes [(k1, .int), (k2, .long)] U ∧ va_D (fun _ => True) [(h0, .inr (2, [.int full, .ref a1, .ref a2, .int cnt])), (a1, .inl (k1, 42, .inl vf)), (a2, .inl (k2, 42, .inr (.inl hf)))] ∧ gx_E U)) (va_Qv (fun _ : Unit => True) (fun _ t => va_P (dC, dI) classes [(h0, .inr (2, [.int full, .ref a1, .ref a2, .int res.1])), (a1, .inl (k1, 42, .inl res.2.1)), (a2, .inl (k2, 42, .inr (.inl res.2.2)))] t.heap ∧ va_K (dC, dI) classes [(k1, .int), (k2, .long)] t ∧ va_D (va_A [(h0, .inr (2, [.int full, .ref a1, .ref a2, .int cnt])), (a1, .inl (k1, 42, .inl vf)), (a2, .inl (k2, 42, .inr (.inl hf)))] sz) [(h0, .inr (2, [.int full, .ref a1, .ref a2, .int res.1])), (a1, .inl (k1, 42, .inl res.2.1)), (a2, .inl (k2, 42, .inr (.inl res.2.2)))]) (va_A [(h0, .inr (2, [.int full, .ref a1, .ref a2, .int cnt])), (a1, .inl (k1, 42, .inl vf)), (a2, .inl (k2, 42, .inr (.inl hf)))] sz)) 0 0 (va_A [(h0, .inr (2, [.int full, .ref a1, .ref a2, .int cnt])), (a1, .inl (k1, 42, .inl vf)), (a2, .inl (k2, 42, .inr (.inl hf)))] sz) := by
  refine Met.ofW (cc := b_Water_insertLayer) (maxL := 6) (ret := none) (by decide) rfl ?_
  intro p e s m args below meth c s₁ B hml hv
  obtain ⟨rfl, hsz, hP, hK, hD0, hE⟩ := hv
  have hx := B.exec
  have hb := B.bytes
  have hr := B.returns
  have hts := atoms_spec (ws := w_Water_insertLayer) B.pre
  have hown : s.vm.findClass R_Water = some m.cls := findClass_of_methodNamed B.named
  have hlocks := B.notSynchronized
  subst hsz
  have hD := hD0.self (sz := s.heap.size)
  generalize hAe : va_A [(h0, .inr (2, [.int full, .ref a1, .ref a2, .int cnt])), (a1, .inl (k1, 42, .inl vf)), (a2, .inl (k2, 42, .inr (.inl hf)))] s.heap.size = A at hD ⊢
  have hA : ∀ q : Nat, s.heap.size ≤ q → A q := fun q h => by rw [← hAe]; exact Or.inr h
  clear hAe hD0
  have loop : ∀ n : Nat, (∀ (x1 : Int32) (x2 : Int32) (x3 : Int64) (x5 : Int32) (cnt : Int32) (vf : Nat → Int32) (hf : Nat → Int64), gx_fx (st_Water_insertLayer N full) n (x1, x2, x3, x5, cnt, vf, hf) = some res → ∀ (H : Heap) (locs : List Loc), va_P (dC, dI) classes [(h0, .inr (2, [.int full, .ref a1, .ref a2, .int cnt])), (a1, .inl (k1, 42, .inl vf)), (a2, .inl (k2, 42, .inr (.inl hf)))] H → va_D A [(h0, .inr (2, [.int full, .ref a1, .ref a2, .int cnt])), (a1, .inl (k1, 42, .inl vf)), (a2, .inl (k2, 42, .inr (.inl hf)))] → va_S A s.heap H locs → ∀ (ls : Array Slot), lv_has ls 6 [(0, .ref h0), (1, .int x1), (2, .int x2), (3, .long x3), (5, .int x5)] → W p l e ({ frames := 0, cells := 0, slots := 0, locals := 0 } : Room) s m ([.ref h0, .int p1, .int p2, .long p3] : List Value).toArray below meth c H locs 0 0 (MQ below (va_Qv (fun _ : Unit => True) (fun _ t => va_P (dC, dI) classes [(h0, .inr (2, [.int full, .ref a1, .ref a2, .int res.1])), (a1, .inl (k1, 42, .inl res.2.1)), (a2, .inl (k2, 42, .inr (.inl res.2.2)))] t.heap ∧ va_K (dC, dI) classes [(k1, .int), (k2, .long)] t ∧ va_D A [(h0, .inr (2, [.int full, .ref a1, .ref a2, .int res.1])), (a1, .inl (k1, 42, .inl res.2.1)), (a2, .inl (k2, 42, .inr (.inl res.2.2)))]) A) ([.ref h0, .int p1, .int p2, .long p3] : List Value).toArray s 0 0 A) (F0 m 31 ls [])) := by
    intro n
    induction n with
    | zero => exact fun _ _ _ _ _ _ _ h => gx_fx0 h
    | succ n ih =>
        intro x1 x2 x3 x5 cnt vf hf h H locs hP hD hS ls hl
        replace h : bk_Water_insertLayer_31 N full (gx_fx (st_Water_insertLayer N full) n) x1 x2 x3 x5 cnt vf hf = some res := h
        unfold bk_Water_insertLayer_31 at h
        refine lv_iload hx hb d_Water_insertLayer_31 (lv_at hl 4 rfl) ?_
        refine lv_iload_n hx hb d_Water_insertLayer_33 rfl (lv_at hl 1 rfl) ?_
        refine lv_icmp_le (tgt := 75) hx hb d_Water_insertLayer_34 (by decide) (fun c4 => ?_) (fun c4 => ?_)
        · replace h := gx_pos c4 h
          refine lv_aload_n hx hb d_Water_insertLayer_75 rfl (lv_at hl 0 rfl) ?_
          refine va_get (D := (dC, dI)) (ci := 2) (v := .ref a1) (C := R_Water) (T := F_Water) (N := 4) hx hb hts (gx_in i_Water) hown hK hP 0 rfl rfl 1 (by decide) (hts _ (gx_w mw_173)) (fun _ h9 => h9) rfl d_Water_insertLayer_76 ?_
          refine lv_iload_n hx hb d_Water_insertLayer_79 rfl (lv_at hl 1 rfl) ?_
          refine lv_iload_n hx hb d_Water_insertLayer_80 rfl (lv_at hl 2 rfl) ?_
          obtain ⟨hi5, h⟩ := gx_inb_of h
          refine va_iast hx hb hK hP hD hS 1 0 rfl rfl hi5 d_Water_insertLayer_81 (fun H locs hP hD hS => ?_)
          have hP : va_P (dC, dI) classes [(h0, .inr (2, [.int full, .ref a1, .ref a2, .int cnt])), (a1, .inl (k1, 42, .inl (upd vf x1.toNatClampNeg x2))), (a2, .inl (k2, 42, .inr (.inl hf)))] H := hP
          have hD : va_D A [(h0, .inr (2, [.int full, .ref a1, .ref a2, .int cnt])), (a1, .inl (k1, 42, .inl (upd vf x1.toNatClampNeg x2))), (a2, .inl (k2, 42, .inr (.inl hf)))] := hD
          refine lv_aload_n hx hb d_Water_insertLayer_82 rfl (lv_at hl 0 rfl) ?_
          refine va_get (D := (dC, dI)) (ci := 2) (v := .ref a2) (C := R_Water) (T := F_Water) (N := 4) hx hb hts (gx_in i_Water) hown hK hP 0 rfl rfl 2 (by decide) (hts _ (gx_w mw_175)) (fun _ h9 => h9) rfl d_Water_insertLayer_83 ?_
          refine lv_iload_n hx hb d_Water_insertLayer_86 rfl (lv_at hl 1 rfl) ?_
          refine lv_lload_n hx hb d_Water_insertLayer_87 rfl (lv_at hl 3 rfl) ?_
          obtain ⟨hi6, h⟩ := gx_inb_of h
          refine va_last hx hb hK hP hD hS 2 1 rfl rfl hi6 d_Water_insertLayer_88 (fun H locs hP hD hS => ?_)
          have hP : va_P (dC, dI) classes [(h0, .inr (2, [.int full, .ref a1, .ref a2, .int cnt])), (a1, .inl (k1, 42, .inl (upd vf x1.toNatClampNeg x2))), (a2, .inl (k2, 42, .inr (.inl (vp_updL hf x1.toNatClampNeg x3))))] H := hP
          have hD : va_D A [(h0, .inr (2, [.int full, .ref a1, .ref a2, .int cnt])), (a1, .inl (k1, 42, .inl (upd vf x1.toNatClampNeg x2))), (a2, .inl (k2, 42, .inr (.inl (vp_updL hf x1.toNatClampNeg x3))))] := hD
          refine lv_aload_n hx hb d_Water_insertLayer_89 rfl (lv_at hl 0 rfl) ?_
          refine lv_dup hx hb d_Water_insertLayer_90 rfl ?_
          refine va_get (D := (dC, dI)) (ci := 2) (v := .int cnt) (C := R_Water) (T := F_Water) (N := 4) hx hb hts (gx_in i_Water) hown hK hP 0 rfl rfl 3 (by decide) (hts _ (gx_w mw_177)) (fun _ h9 => h9) rfl d_Water_insertLayer_91 ?_
          refine lv_iconst (v := 1) hx hb d_Water_insertLayer_94 (by decide) ?_
          refine lv_iadd hx hb d_Water_insertLayer_95 ?_
          refine va_put (D := (dC, dI)) (ci := 2) (v := .int (cnt + 1)) (ty := .int) (C := R_Water) (T := F_Water) (N := 4) hx hb hts (gx_in i_Water) t_Water t_Water_ok n_Water hown hK hP hD hS 0 rfl rfl 3 (by decide) (hts _ (gx_w mw_177)) (fun _ h9 => h9) rfl (by decide +kernel) rfl rfl (Nat.le_of_ble_eq_true rfl) d_Water_insertLayer_96 (fun H locs hP hD hS => ?_)
          have hP : va_P (dC, dI) classes [(h0, .inr (2, [.int full, .ref a1, .ref a2, .int (cnt + 1)])), (a1, .inl (k1, 42, .inl (upd vf x1.toNatClampNeg x2))), (a2, .inl (k2, 42, .inr (.inl (vp_updL hf x1.toNatClampNeg x3))))] H := hP
          have hD : va_D A [(h0, .inr (2, [.int full, .ref a1, .ref a2, .int (cnt + 1)])), (a1, .inl (k1, 42, .inl (upd vf x1.toNatClampNeg x2))), (a2, .inl (k2, 42, .inr (.inl (vp_updL hf x1.toNatClampNeg x3))))] := hD
          rw [← Option.some.inj h]
          have hP9 := hP
          have hD9 := hD
          exact W.vret hx hb hr (fun t ht hW => ⟨⟨(), rfl, trivial, ⟨by rw [ht]; exact hP9, va_K.moved hW.alike hK, hD9⟩⟩, hS.F ht⟩) hS.2.2 d_Water_insertLayer_99
        · replace h := gx_neg c4 h
          refine lv_aload_n hx hb d_Water_insertLayer_37 rfl (lv_at hl 0 rfl) ?_
          refine va_get (D := (dC, dI)) (ci := 2) (v := .ref a1) (C := R_Water) (T := F_Water) (N := 4) hx hb hts (gx_in i_Water) hown hK hP 0 rfl rfl 1 (by decide) (hts _ (gx_w mw_173)) (fun _ h9 => h9) rfl d_Water_insertLayer_38 ?_
          refine lv_iload hx hb d_Water_insertLayer_41 (lv_at hl 4 rfl) ?_
          refine lv_aload_n hx hb d_Water_insertLayer_43 rfl (lv_at hl 0 rfl) ?_
          refine va_get (D := (dC, dI)) (ci := 2) (v := .ref a1) (C := R_Water) (T := F_Water) (N := 4) hx hb hts (gx_in i_Water) hown hK hP 0 rfl rfl 1 (by decide) (hts _ (gx_w mw_173)) (fun _ h9 => h9) rfl d_Water_insertLayer_44 ?_
          refine lv_iload hx hb d_Water_insertLayer_47 (lv_at hl 4 rfl) ?_
          refine lv_iconst (v := 1) hx hb d_Water_insertLayer_49 (by decide) ?_
          refine lv_isub hx hb d_Water_insertLayer_50 ?_
          obtain ⟨hi7, h⟩ := gx_inb_of h
          refine va_iald hx hb hK hP 1 0 rfl rfl hi7 d_Water_insertLayer_51 ?_
          obtain ⟨hi8, h⟩ := gx_inb_of h
          refine va_iast hx hb hK hP hD hS 1 0 rfl rfl hi8 d_Water_insertLayer_52 (fun H locs hP hD hS => ?_)
          have hP : va_P (dC, dI) classes [(h0, .inr (2, [.int full, .ref a1, .ref a2, .int cnt])), (a1, .inl (k1, 42, .inl (upd vf x5.toNatClampNeg (vf (x5 - 1).toNatClampNeg)))), (a2, .inl (k2, 42, .inr (.inl hf)))] H := hP
          have hD : va_D A [(h0, .inr (2, [.int full, .ref a1, .ref a2, .int cnt])), (a1, .inl (k1, 42, .inl (upd vf x5.toNatClampNeg (vf (x5 - 1).toNatClampNeg)))), (a2, .inl (k2, 42, .inr (.inl hf)))] := hD
          refine lv_aload_n hx hb d_Water_insertLayer_53 rfl (lv_at hl 0 rfl) ?_
          refine va_get (D := (dC, dI)) (ci := 2) (v := .ref a2) (C := R_Water) (T := F_Water) (N := 4) hx hb hts (gx_in i_Water) hown hK hP 0 rfl rfl 2 (by decide) (hts _ (gx_w mw_175)) (fun _ h9 => h9) rfl d_Water_insertLayer_54 ?_
          refine lv_iload hx hb d_Water_insertLayer_57 (lv_at hl 4 rfl) ?_
          refine lv_aload_n hx hb d_Water_insertLayer_59 rfl (lv_at hl 0 rfl) ?_
          refine va_get (D := (dC, dI)) (ci := 2) (v := .ref a2) (C := R_Water) (T := F_Water) (N := 4) hx hb hts (gx_in i_Water) hown hK hP 0 rfl rfl 2 (by decide) (hts _ (gx_w mw_175)) (fun _ h9 => h9) rfl d_Water_insertLayer_60 ?_
          refine lv_iload hx hb d_Water_insertLayer_63 (lv_at hl 4 rfl) ?_
          refine lv_iconst (v := 1) hx hb d_Water_insertLayer_65 (by decide) ?_
          refine lv_isub hx hb d_Water_insertLayer_66 ?_
          obtain ⟨hi9, h⟩ := gx_inb_of h
          refine va_lald hx hb hK hP 2 1 rfl rfl hi9 d_Water_insertLayer_67 ?_
          obtain ⟨hi10, h⟩ := gx_inb_of h
          refine va_last hx hb hK hP hD hS 2 1 rfl rfl hi10 d_Water_insertLayer_68 (fun H locs hP hD hS => ?_)
          have hP : va_P (dC, dI) classes [(h0, .inr (2, [.int full, .ref a1, .ref a2, .int cnt])), (a1, .inl (k1, 42, .inl (upd vf x5.toNatClampNeg (vf (x5 - 1).toNatClampNeg)))), (a2, .inl (k2, 42, .inr (.inl (vp_updL hf x5.toNatClampNeg (hf (x5 - 1).toNatClampNeg)))))] H := hP
          have hD : va_D A [(h0, .inr (2, [.int full, .ref a1, .ref a2, .int cnt])), (a1, .inl (k1, 42, .inl (upd vf x5.toNatClampNeg (vf (x5 - 1).toNatClampNeg)))), (a2, .inl (k2, 42, .inr (.inl (vp_updL hf x5.toNatClampNeg (hf (x5 - 1).toNatClampNeg)))))] := hD
          refine lv_iinc (v := x5 + (-1)) (lv' := [(5, .int (x5 + (-1))), (0, .ref h0), (1, .int x1), (2, .int x2), (3, .long x3)]) hx hb d_Water_insertLayer_69 hl (k := 4) rfl rfl (by decide) rfl (fun ls hl => ?_)
          refine lv_goto (tgt := 31) hx hb d_Water_insertLayer_72 (by decide) ?_
          exact ih x1 x2 x3 (x5 + (-1)) cnt (upd vf x5.toNatClampNeg (vf (x5 - 1).toNatClampNeg)) (vp_updL hf x5.toNatClampNeg (hf (x5 - 1).toNatClampNeg)) h _ _ hP hD hS ls (lv_sub hl [1, 2, 3, 4, 0] rfl)
  have key : ∀ (H : Heap) (locs : List Loc), va_P (dC, dI) classes [(h0, .inr (2, [.int full, .ref a1, .ref a2, .int cnt])), (a1, .inl (k1, 42, .inl vf)), (a2, .inl (k2, 42, .inr (.inl hf)))] H → va_D A [(h0, .inr (2, [.int full, .ref a1, .ref a2, .int cnt])), (a1, .inl (k1, 42, .inl vf)), (a2, .inl (k2, 42, .inr (.inl hf)))] → va_S A s.heap H locs → ∀ (ls : Array Slot), lv_has ls 6 [(0, .ref h0), (1, .int p1), (2, .int p2), (3, .long p3)] → W p l e ({ frames := 0, cells := 0, slots := 0, locals := 0 } : Room) s m ([.ref h0, .int p1, .int p2, .long p3] : List Value).toArray below meth c H locs 0 0 (MQ below (va_Qv (fun _ : Unit => True) (fun _ t => va_P (dC, dI) classes [(h0, .inr (2, [.int full, .ref a1, .ref a2, .int res.1])), (a1, .inl (k1, 42, .inl res.2.1)), (a2, .inl (k2, 42, .inr (.inl res.2.2)))] t.heap ∧ va_K (dC, dI) classes [(k1, .int), (k2, .long)] t ∧ va_D A [(h0, .inr (2, [.int full, .ref a1, .ref a2, .int res.1])), (a1, .inl (k1, 42, .inl res.2.1)), (a2, .inl (k2, 42, .inr (.inl res.2.2)))]) A) ([.ref h0, .int p1, .int p2, .long p3] : List Value).toArray s 0 0 A) (F0 m 0 ls []) := by
    intro H locs hP hD hS ls hl
    unfold fn_Water_insertLayer at h
    refine lv_iload_n hx hb d_Water_insertLayer_0 rfl (lv_at hl 1 rfl) ?_
    refine lv_if_lt (tgt := 24) hx hb d_Water_insertLayer_1 (by decide) (fun c1 => ?_) (fun c1 => ?_)
    · replace h := gx_pos c1 h
      rw [← Option.some.inj h]
      have hP9 := hP
      have hD9 := hD
      exact W.vret hx hb hr (fun t ht hW => ⟨⟨(), rfl, trivial, ⟨by rw [ht]; exact hP9, va_K.moved hW.alike hK, hD9⟩⟩, hS.F ht⟩) hS.2.2 d_Water_insertLayer_24
    · replace h := gx_neg c1 h
      refine lv_iload_n hx hb d_Water_insertLayer_4 rfl (lv_at hl 1 rfl) ?_
      refine lv_aload_n hx hb d_Water_insertLayer_5 rfl (lv_at hl 0 rfl) ?_
      refine va_get (D := (dC, dI)) (ci := 2) (v := .int cnt) (C := R_Water) (T := F_Water) (N := 4) hx hb hts (gx_in i_Water) hown hK hP 0 rfl rfl 3 (by decide) (hts _ (gx_w mw_177)) (fun _ h9 => h9) rfl d_Water_insertLayer_6 ?_
      refine lv_icmp_gt (tgt := 24) hx hb d_Water_insertLayer_9 (by decide) (fun c2 => ?_) (fun c2 => ?_)
      · replace h := gx_pos c2 h
        rw [← Option.some.inj h]
        have hP9 := hP
        have hD9 := hD
        exact W.vret hx hb hr (fun t ht hW => ⟨⟨(), rfl, trivial, ⟨by rw [ht]; exact hP9, va_K.moved hW.alike hK, hD9⟩⟩, hS.F ht⟩) hS.2.2 d_Water_insertLayer_24
      · replace h := gx_neg c2 h
        refine lv_aload_n hx hb d_Water_insertLayer_12 rfl (lv_at hl 0 rfl) ?_
        refine va_get (D := (dC, dI)) (ci := 2) (v := .int cnt) (C := R_Water) (T := F_Water) (N := 4) hx hb hts (gx_in i_Water) hown hK hP 0 rfl rfl 3 (by decide) (hts _ (gx_w mw_177)) (fun _ h9 => h9) rfl d_Water_insertLayer_13 ?_
        refine lv_aload_n hx hb d_Water_insertLayer_16 rfl (lv_at hl 0 rfl) ?_
        refine va_get (D := (dC, dI)) (ci := 2) (v := .ref a1) (C := R_Water) (T := F_Water) (N := 4) hx hb hts (gx_in i_Water) hown hK hP 0 rfl rfl 1 (by decide) (hts _ (gx_w mw_173)) (fun _ h9 => h9) rfl d_Water_insertLayer_17 ?_
        refine va_alen hx hb hK hP 1 0 rfl rfl (v := 42) rfl d_Water_insertLayer_20 ?_
        refine lv_icmp_lt (tgt := 25) hx hb d_Water_insertLayer_21 (by decide) (fun c3 => ?_) (fun c3 => ?_)
        · replace h := gx_pos c3 h
          refine lv_aload_n hx hb d_Water_insertLayer_25 rfl (lv_at hl 0 rfl) ?_
          refine va_get (D := (dC, dI)) (ci := 2) (v := .int cnt) (C := R_Water) (T := F_Water) (N := 4) hx hb hts (gx_in i_Water) hown hK hP 0 rfl rfl 3 (by decide) (hts _ (gx_w mw_177)) (fun _ h9 => h9) rfl d_Water_insertLayer_26 ?_
          refine lv_istore (lv' := [(5, .int cnt), (0, .ref h0), (1, .int p1), (2, .int p2), (3, .long p3)]) hx hb d_Water_insertLayer_29 hl (by decide) rfl (fun ls hl => ?_)
          exact (loop N) p1 p2 p3 cnt cnt vf hf h _ _ hP hD hS ls (lv_sub hl [1, 2, 3, 4, 0] rfl)
        · replace h := gx_neg c3 h
          rw [← Option.some.inj h]
          have hP9 := hP
          have hD9 := hD
          exact W.vret hx hb hr (fun t ht hW => ⟨⟨(), rfl, trivial, ⟨by rw [ht]; exact hP9, va_K.moved hW.alike hK, hD9⟩⟩, hS.F ht⟩) hS.2.2 d_Water_insertLayer_24
  have hl := lv_entry ([.ref h0, .int p1, .int p2, .long p3]) (n := 6) (Nat.le_of_ble_eq_true rfl)
  rw [lg_entry_eq]
  generalize (lg_sl ([.ref h0, .int p1, .int p2, .long p3]) ++ List.replicate (6 - (lg_sl ([.ref h0, .int p1, .int p2, .long p3])).length) Slot.unset).toArray = ls at hl ⊢
  exact key _ _ hP hD va_S.rf ls hl
def bk_Water_dropLowest_15 (N : Nat) (full : Int32) (K : Int32 × Int32 × Int32 × (Nat → Int32) × (Nat → Int64) → Option (Int32 × (Nat → Int32) × (Nat → Int64))) (x1 : Int32) (x2 : Int32) (cnt : Int32) (vf : Nat → Int32) (hf : Nat → Int64) : Option (Int32 × (Nat → Int32) × (Nat → Int64)) :=
  if cnt ≤ x2 then some (cnt - x1, vf, hf) else if gx_inb x2 42 = true then if gx_inb (x2 - x1) 42 = true then if gx_inb x2 42 = true then if gx_inb (x2 - x1) 42 = true then K (x1, x2 + 1, cnt, upd vf (x2 - x1).toNatClampNeg (vf x2.toNatClampNeg), vp_updL hf (x2 - x1).toNatClampNeg (hf x2.toNatClampNeg)) else none else none else none else none
def st_Water_dropLowest (N : Nat) (full : Int32) (K : Int32 × Int32 × Int32 × (Nat → Int32) × (Nat → Int64) → Option (Int32 × (Nat → Int32) × (Nat → Int64))) (z : Int32 × Int32 × Int32 × (Nat → Int32) × (Nat → Int64)) : Option (Int32 × (Nat → Int32) × (Nat → Int64)) := match z with
  | (x1, x2, cnt, vf, hf) => bk_Water_dropLowest_15 N full K x1 x2 cnt vf hf
def fn_Water_dropLowest (N : Nat) (p1 : Int32) (full : Int32) (cnt : Int32) (vf : Nat → Int32) (hf : Nat → Int64) : Option (Int32 × (Nat → Int32) × (Nat → Int64)) :=
  if p1 ≤ 0 then some (cnt, vf, hf) else if p1 ≤ cnt then gx_fx (st_Water_dropLowest N full) N (p1, p1, cnt, vf, hf) else some (cnt, vf, hf)
def w_Water_dropLowest : List Cond := .code y_Water_dropLowest b_Water_dropLowest 3 none :: gx_W
set_option maxHeartbeats 4000000 in
set_option maxRecDepth 100000 in
theorem c_Water_dropLowest (N : Nat) (l : Launch) (dC : Nat → ClassId) (dI : Nat → Nat → Nat) (h0 : Nat) (a1 : Nat) (a2 : Nat) (k1 : ClassId) (k2 : ClassId) (sz : Nat) (full : Int32) (cnt : Int32) (vf : Nat → Int32) (hf : Nat → Int64) (p1 : Int32) (res : Int32 × (Nat → Int32) × (Nat → Int64)) (h : fn_Water_dropLowest N p1 full cnt vf hf = some res) : Met l y_Water_dropLowest w_Water_dropLowest ({ frames := 0, cells := 0, slots := 0, locals := 0 } : Room) (va_Pc [.ref h0, .int p1] (fun U => U.heap.size = sz ∧ va_P (dC, dI) classes [(h0, .inr (2, [.int full, .ref a1, .ref a2, .int cnt])), (a1, .inl (k1, 42, .inl vf)), (a2, .inl (k2, 42, .inr (.inl hf)))] U.heap ∧ va_K (dC, dI) classes [(k1, .int), (k2, .long)] U ∧ va_D (fun _ => True) [(h0, .inr (2, [.int full, .ref a1, .ref a2, .int cnt])), (a1, .inl (k1, 42, .inl vf)), (a2, .inl (k2, 42, .inr (.inl hf)))] ∧ gx_E U)) (va_Qv (fun _ : Unit => True) (fun _ t => va_P (dC, dI) classes [(h0, .inr (2, [.int full, .ref a1, .ref a2, .int res.1])), (a1, .inl (k1, 42, .inl res.2.1)), (a2, .inl (k2, 42, .inr (.inl res.2.2)))] t.heap ∧ va_K (dC, dI) classes [(k1, .int), (k2, .long)] t ∧ va_D (va_A [(h0, .inr (2, [.int full, .ref a1, .ref a2, .int cnt])), (a1, .inl (k1, 42, .inl vf)), (a2, .inl (k2, 42, .inr (.inl hf)))] sz) [(h0, .inr (2, [.int full, .ref a1, .ref a2, .int res.1])), (a1, .inl (k1, 42, .inl res.2.1)), (a2, .inl (k2, 42, .inr (.inl res.2.2)))]) (va_A [(h0, .inr (2, [.int full, .ref a1, .ref a2, .int cnt])), (a1, .inl (k1, 42, .inl vf)), (a2, .inl (k2, 42, .inr (.inl hf)))] sz)) 0 0 (va_A [(h0, .inr (2, [.int full, .ref a1, .ref a2, .int cnt])), (a1, .inl (k1, 42, .inl vf)), (a2, .inl (k2, 42, .inr (.inl hf)))] sz) := by
  refine Met.ofW (cc := b_Water_dropLowest) (maxL := 3) (ret := none) (by decide) rfl ?_
  intro p e s m args below meth c s₁ B hml hv
  obtain ⟨rfl, hsz, hP, hK, hD0, hE⟩ := hv
  have hx := B.exec
  have hb := B.bytes
  have hr := B.returns
  have hts := atoms_spec (ws := w_Water_dropLowest) B.pre
  have hown : s.vm.findClass R_Water = some m.cls := findClass_of_methodNamed B.named
  have hlocks := B.notSynchronized
  subst hsz
  have hD := hD0.self (sz := s.heap.size)
  generalize hAe : va_A [(h0, .inr (2, [.int full, .ref a1, .ref a2, .int cnt])), (a1, .inl (k1, 42, .inl vf)), (a2, .inl (k2, 42, .inr (.inl hf)))] s.heap.size = A at hD ⊢
  have hA : ∀ q : Nat, s.heap.size ≤ q → A q := fun q h => by rw [← hAe]; exact Or.inr h
  clear hAe hD0
  have loop : ∀ n : Nat, (∀ (x1 : Int32) (x2 : Int32) (cnt : Int32) (vf : Nat → Int32) (hf : Nat → Int64), gx_fx (st_Water_dropLowest N full) n (x1, x2, cnt, vf, hf) = some res → ∀ (H : Heap) (locs : List Loc), va_P (dC, dI) classes [(h0, .inr (2, [.int full, .ref a1, .ref a2, .int cnt])), (a1, .inl (k1, 42, .inl vf)), (a2, .inl (k2, 42, .inr (.inl hf)))] H → va_D A [(h0, .inr (2, [.int full, .ref a1, .ref a2, .int cnt])), (a1, .inl (k1, 42, .inl vf)), (a2, .inl (k2, 42, .inr (.inl hf)))] → va_S A s.heap H locs → ∀ (ls : Array Slot), lv_has ls 3 [(0, .ref h0), (1, .int x1), (2, .int x2)] → W p l e ({ frames := 0, cells := 0, slots := 0, locals := 0 } : Room) s m ([.ref h0, .int p1] : List Value).toArray below meth c H locs 0 0 (MQ below (va_Qv (fun _ : Unit => True) (fun _ t => va_P (dC, dI) classes [(h0, .inr (2, [.int full, .ref a1, .ref a2, .int res.1])), (a1, .inl (k1, 42, .inl res.2.1)), (a2, .inl (k2, 42, .inr (.inl res.2.2)))] t.heap ∧ va_K (dC, dI) classes [(k1, .int), (k2, .long)] t ∧ va_D A [(h0, .inr (2, [.int full, .ref a1, .ref a2, .int res.1])), (a1, .inl (k1, 42, .inl res.2.1)), (a2, .inl (k2, 42, .inr (.inl res.2.2)))]) A) ([.ref h0, .int p1] : List Value).toArray s 0 0 A) (F0 m 15 ls [])) := by
    intro n
    induction n with
    | zero => exact fun _ _ _ _ _ h => gx_fx0 h
    | succ n ih =>
        intro x1 x2 cnt vf hf h H locs hP hD hS ls hl
        replace h : bk_Water_dropLowest_15 N full (gx_fx (st_Water_dropLowest N full) n) x1 x2 cnt vf hf = some res := h
        unfold bk_Water_dropLowest_15 at h
        refine lv_iload_n hx hb d_Water_dropLowest_15 rfl (lv_at hl 2 rfl) ?_
        refine lv_aload_n hx hb d_Water_dropLowest_16 rfl (lv_at hl 0 rfl) ?_
        refine va_get (D := (dC, dI)) (ci := 2) (v := .int cnt) (C := R_Water) (T := F_Water) (N := 4) hx hb hts (gx_in i_Water) hown hK hP 0 rfl rfl 3 (by decide) (hts _ (gx_w mw_177)) (fun _ h9 => h9) rfl d_Water_dropLowest_17 ?_
        refine lv_icmp_ge (tgt := 57) hx hb d_Water_dropLowest_20 (by decide) (fun c3 => ?_) (fun c3 => ?_)
        · replace h := gx_pos c3 h
          refine lv_aload_n hx hb d_Water_dropLowest_57 rfl (lv_at hl 0 rfl) ?_
          refine lv_dup hx hb d_Water_dropLowest_58 rfl ?_
          refine va_get (D := (dC, dI)) (ci := 2) (v := .int cnt) (C := R_Water) (T := F_Water) (N := 4) hx hb hts (gx_in i_Water) hown hK hP 0 rfl rfl 3 (by decide) (hts _ (gx_w mw_177)) (fun _ h9 => h9) rfl d_Water_dropLowest_59 ?_
          refine lv_iload_n hx hb d_Water_dropLowest_62 rfl (lv_at hl 1 rfl) ?_
          refine lv_isub hx hb d_Water_dropLowest_63 ?_
          refine va_put (D := (dC, dI)) (ci := 2) (v := .int (cnt - x1)) (ty := .int) (C := R_Water) (T := F_Water) (N := 4) hx hb hts (gx_in i_Water) t_Water t_Water_ok n_Water hown hK hP hD hS 0 rfl rfl 3 (by decide) (hts _ (gx_w mw_177)) (fun _ h9 => h9) rfl (by decide +kernel) rfl rfl (Nat.le_of_ble_eq_true rfl) d_Water_dropLowest_64 (fun H locs hP hD hS => ?_)
          have hP : va_P (dC, dI) classes [(h0, .inr (2, [.int full, .ref a1, .ref a2, .int (cnt - x1)])), (a1, .inl (k1, 42, .inl vf)), (a2, .inl (k2, 42, .inr (.inl hf)))] H := hP
          have hD : va_D A [(h0, .inr (2, [.int full, .ref a1, .ref a2, .int (cnt - x1)])), (a1, .inl (k1, 42, .inl vf)), (a2, .inl (k2, 42, .inr (.inl hf)))] := hD
          rw [← Option.some.inj h]
          have hP9 := hP
          have hD9 := hD
          exact W.vret hx hb hr (fun t ht hW => ⟨⟨(), rfl, trivial, ⟨by rw [ht]; exact hP9, va_K.moved hW.alike hK, hD9⟩⟩, hS.F ht⟩) hS.2.2 d_Water_dropLowest_67
        · replace h := gx_neg c3 h
          refine lv_aload_n hx hb d_Water_dropLowest_23 rfl (lv_at hl 0 rfl) ?_
          refine va_get (D := (dC, dI)) (ci := 2) (v := .ref a1) (C := R_Water) (T := F_Water) (N := 4) hx hb hts (gx_in i_Water) hown hK hP 0 rfl rfl 1 (by decide) (hts _ (gx_w mw_173)) (fun _ h9 => h9) rfl d_Water_dropLowest_24 ?_
          refine lv_iload_n hx hb d_Water_dropLowest_27 rfl (lv_at hl 2 rfl) ?_
          refine lv_iload_n hx hb d_Water_dropLowest_28 rfl (lv_at hl 1 rfl) ?_
          refine lv_isub hx hb d_Water_dropLowest_29 ?_
          refine lv_aload_n hx hb d_Water_dropLowest_30 rfl (lv_at hl 0 rfl) ?_
          refine va_get (D := (dC, dI)) (ci := 2) (v := .ref a1) (C := R_Water) (T := F_Water) (N := 4) hx hb hts (gx_in i_Water) hown hK hP 0 rfl rfl 1 (by decide) (hts _ (gx_w mw_173)) (fun _ h9 => h9) rfl d_Water_dropLowest_31 ?_
          refine lv_iload_n hx hb d_Water_dropLowest_34 rfl (lv_at hl 2 rfl) ?_
          obtain ⟨hi4, h⟩ := gx_inb_of h
          refine va_iald hx hb hK hP 1 0 rfl rfl hi4 d_Water_dropLowest_35 ?_
          obtain ⟨hi5, h⟩ := gx_inb_of h
          refine va_iast hx hb hK hP hD hS 1 0 rfl rfl hi5 d_Water_dropLowest_36 (fun H locs hP hD hS => ?_)
          have hP : va_P (dC, dI) classes [(h0, .inr (2, [.int full, .ref a1, .ref a2, .int cnt])), (a1, .inl (k1, 42, .inl (upd vf (x2 - x1).toNatClampNeg (vf x2.toNatClampNeg)))), (a2, .inl (k2, 42, .inr (.inl hf)))] H := hP
          have hD : va_D A [(h0, .inr (2, [.int full, .ref a1, .ref a2, .int cnt])), (a1, .inl (k1, 42, .inl (upd vf (x2 - x1).toNatClampNeg (vf x2.toNatClampNeg)))), (a2, .inl (k2, 42, .inr (.inl hf)))] := hD
          refine lv_aload_n hx hb d_Water_dropLowest_37 rfl (lv_at hl 0 rfl) ?_
          refine va_get (D := (dC, dI)) (ci := 2) (v := .ref a2) (C := R_Water) (T := F_Water) (N := 4) hx hb hts (gx_in i_Water) hown hK hP 0 rfl rfl 2 (by decide) (hts _ (gx_w mw_175)) (fun _ h9 => h9) rfl d_Water_dropLowest_38 ?_
          refine lv_iload_n hx hb d_Water_dropLowest_41 rfl (lv_at hl 2 rfl) ?_
          refine lv_iload_n hx hb d_Water_dropLowest_42 rfl (lv_at hl 1 rfl) ?_
          refine lv_isub hx hb d_Water_dropLowest_43 ?_
          refine lv_aload_n hx hb d_Water_dropLowest_44 rfl (lv_at hl 0 rfl) ?_
          refine va_get (D := (dC, dI)) (ci := 2) (v := .ref a2) (C := R_Water) (T := F_Water) (N := 4) hx hb hts (gx_in i_Water) hown hK hP 0 rfl rfl 2 (by decide) (hts _ (gx_w mw_175)) (fun _ h9 => h9) rfl d_Water_dropLowest_45 ?_
          refine lv_iload_n hx hb d_Water_dropLowest_48 rfl (lv_at hl 2 rfl) ?_
          obtain ⟨hi6, h⟩ := gx_inb_of h
          refine va_lald hx hb hK hP 2 1 rfl rfl hi6 d_Water_dropLowest_49 ?_
          obtain ⟨hi7, h⟩ := gx_inb_of h
          refine va_last hx hb hK hP hD hS 2 1 rfl rfl hi7 d_Water_dropLowest_50 (fun H locs hP hD hS => ?_)
          have hP : va_P (dC, dI) classes [(h0, .inr (2, [.int full, .ref a1, .ref a2, .int cnt])), (a1, .inl (k1, 42, .inl (upd vf (x2 - x1).toNatClampNeg (vf x2.toNatClampNeg)))), (a2, .inl (k2, 42, .inr (.inl (vp_updL hf (x2 - x1).toNatClampNeg (hf x2.toNatClampNeg)))))] H := hP
          have hD : va_D A [(h0, .inr (2, [.int full, .ref a1, .ref a2, .int cnt])), (a1, .inl (k1, 42, .inl (upd vf (x2 - x1).toNatClampNeg (vf x2.toNatClampNeg)))), (a2, .inl (k2, 42, .inr (.inl (vp_updL hf (x2 - x1).toNatClampNeg (hf x2.toNatClampNeg)))))] := hD
          refine lv_iinc (v := x2 + 1) (lv' := [(2, .int (x2 + 1)), (0, .ref h0), (1, .int x1)]) hx hb d_Water_dropLowest_51 hl (k := 2) rfl rfl (by decide) rfl (fun ls hl => ?_)
          refine lv_goto (tgt := 15) hx hb d_Water_dropLowest_54 (by decide) ?_
          exact ih x1 (x2 + 1) cnt (upd vf (x2 - x1).toNatClampNeg (vf x2.toNatClampNeg)) (vp_updL hf (x2 - x1).toNatClampNeg (hf x2.toNatClampNeg)) h _ _ hP hD hS ls (lv_sub hl [1, 2, 0] rfl)
  have key : ∀ (H : Heap) (locs : List Loc), va_P (dC, dI) classes [(h0, .inr (2, [.int full, .ref a1, .ref a2, .int cnt])), (a1, .inl (k1, 42, .inl vf)), (a2, .inl (k2, 42, .inr (.inl hf)))] H → va_D A [(h0, .inr (2, [.int full, .ref a1, .ref a2, .int cnt])), (a1, .inl (k1, 42, .inl vf)), (a2, .inl (k2, 42, .inr (.inl hf)))] → va_S A s.heap H locs → ∀ (ls : Array Slot), lv_has ls 3 [(0, .ref h0), (1, .int p1)] → W p l e ({ frames := 0, cells := 0, slots := 0, locals := 0 } : Room) s m ([.ref h0, .int p1] : List Value).toArray below meth c H locs 0 0 (MQ below (va_Qv (fun _ : Unit => True) (fun _ t => va_P (dC, dI) classes [(h0, .inr (2, [.int full, .ref a1, .ref a2, .int res.1])), (a1, .inl (k1, 42, .inl res.2.1)), (a2, .inl (k2, 42, .inr (.inl res.2.2)))] t.heap ∧ va_K (dC, dI) classes [(k1, .int), (k2, .long)] t ∧ va_D A [(h0, .inr (2, [.int full, .ref a1, .ref a2, .int res.1])), (a1, .inl (k1, 42, .inl res.2.1)), (a2, .inl (k2, 42, .inr (.inl res.2.2)))]) A) ([.ref h0, .int p1] : List Value).toArray s 0 0 A) (F0 m 0 ls []) := by
    intro H locs hP hD hS ls hl
    unfold fn_Water_dropLowest at h
    refine lv_iload_n hx hb d_Water_dropLowest_0 rfl (lv_at hl 1 rfl) ?_
    refine lv_if_le (tgt := 12) hx hb d_Water_dropLowest_1 (by decide) (fun c1 => ?_) (fun c1 => ?_)
    · replace h := gx_pos c1 h
      rw [← Option.some.inj h]
      have hP9 := hP
      have hD9 := hD
      exact W.vret hx hb hr (fun t ht hW => ⟨⟨(), rfl, trivial, ⟨by rw [ht]; exact hP9, va_K.moved hW.alike hK, hD9⟩⟩, hS.F ht⟩) hS.2.2 d_Water_dropLowest_12
    · replace h := gx_neg c1 h
      refine lv_iload_n hx hb d_Water_dropLowest_4 rfl (lv_at hl 1 rfl) ?_
      refine lv_aload_n hx hb d_Water_dropLowest_5 rfl (lv_at hl 0 rfl) ?_
      refine va_get (D := (dC, dI)) (ci := 2) (v := .int cnt) (C := R_Water) (T := F_Water) (N := 4) hx hb hts (gx_in i_Water) hown hK hP 0 rfl rfl 3 (by decide) (hts _ (gx_w mw_177)) (fun _ h9 => h9) rfl d_Water_dropLowest_6 ?_
      refine lv_icmp_le (tgt := 13) hx hb d_Water_dropLowest_9 (by decide) (fun c2 => ?_) (fun c2 => ?_)
      · replace h := gx_pos c2 h
        refine lv_iload_n hx hb d_Water_dropLowest_13 rfl (lv_at hl 1 rfl) ?_
        refine lv_istore_n (lv' := [(2, .int p1), (0, .ref h0), (1, .int p1)]) hx hb d_Water_dropLowest_14 rfl hl (by decide) rfl (fun ls hl => ?_)
        exact (loop N) p1 p1 cnt vf hf h _ _ hP hD hS ls (lv_sub hl [1, 2, 0] rfl)
      · replace h := gx_neg c2 h
        rw [← Option.some.inj h]
        have hP9 := hP
        have hD9 := hD
        exact W.vret hx hb hr (fun t ht hW => ⟨⟨(), rfl, trivial, ⟨by rw [ht]; exact hP9, va_K.moved hW.alike hK, hD9⟩⟩, hS.F ht⟩) hS.2.2 d_Water_dropLowest_12
  have hl := lv_entry ([.ref h0, .int p1]) (n := 3) (Nat.le_of_ble_eq_true rfl)
  rw [lg_entry_eq]
  generalize (lg_sl ([.ref h0, .int p1]) ++ List.replicate (3 - (lg_sl ([.ref h0, .int p1])).length) Slot.unset).toArray = ls at hl ⊢
  exact key _ _ hP hD va_S.rf ls hl
def fn_Water_isAsWarmAsNext (N : Nat) (p1 : Int32) (full : Int32) (cnt : Int32) (vf : Nat → Int32) (hf : Nat → Int64) : Option (Int32) :=
  if gx_inb p1 42 = true then if gx_inb (p1 + 1) 42 = true then if gx_inb (p1 + 1) 42 = true then if gx_inb p1 42 = true then if (lg_cmp ((hf p1.toNatClampNeg) * ((vf (p1 + 1).toNatClampNeg).toInt64)) ((hf (p1 + 1).toNatClampNeg) * ((vf p1.toNatClampNeg).toInt64))) < 0 then some 0 else some 1 else none else none else none else none
def w_Water_isAsWarmAsNext : List Cond := .code y_Water_isAsWarmAsNext b_Water_isAsWarmAsNext 2 (some .boolean) :: gx_W
set_option maxHeartbeats 4000000 in
set_option maxRecDepth 100000 in
theorem c_Water_isAsWarmAsNext (N : Nat) (l : Launch) (dC : Nat → ClassId) (dI : Nat → Nat → Nat) (h0 : Nat) (a1 : Nat) (a2 : Nat) (k1 : ClassId) (k2 : ClassId) (sz : Nat) (full : Int32) (cnt : Int32) (vf : Nat → Int32) (hf : Nat → Int64) (p1 : Int32) (res : Int32) (h : fn_Water_isAsWarmAsNext N p1 full cnt vf hf = some res) : Met l y_Water_isAsWarmAsNext w_Water_isAsWarmAsNext ({ frames := 0, cells := 0, slots := 0, locals := 0 } : Room) (va_Pc [.ref h0, .int p1] (fun U => U.heap.size = sz ∧ va_P (dC, dI) classes [(h0, .inr (2, [.int full, .ref a1, .ref a2, .int cnt])), (a1, .inl (k1, 42, .inl vf)), (a2, .inl (k2, 42, .inr (.inl hf)))] U.heap ∧ va_K (dC, dI) classes [(k1, .int), (k2, .long)] U ∧ va_D (fun _ => True) [(h0, .inr (2, [.int full, .ref a1, .ref a2, .int cnt])), (a1, .inl (k1, 42, .inl vf)), (a2, .inl (k2, 42, .inr (.inl hf)))] ∧ gx_E U)) (va_Qi (fun (r : Int32) (_ : Unit) => r = res) (fun _ t => va_P (dC, dI) classes [(h0, .inr (2, [.int full, .ref a1, .ref a2, .int cnt])), (a1, .inl (k1, 42, .inl vf)), (a2, .inl (k2, 42, .inr (.inl hf)))] t.heap ∧ va_K (dC, dI) classes [(k1, .int), (k2, .long)] t ∧ va_D (va_A [(h0, .inr (2, [.int full, .ref a1, .ref a2, .int cnt])), (a1, .inl (k1, 42, .inl vf)), (a2, .inl (k2, 42, .inr (.inl hf)))] sz) [(h0, .inr (2, [.int full, .ref a1, .ref a2, .int cnt])), (a1, .inl (k1, 42, .inl vf)), (a2, .inl (k2, 42, .inr (.inl hf)))]) (va_A [(h0, .inr (2, [.int full, .ref a1, .ref a2, .int cnt])), (a1, .inl (k1, 42, .inl vf)), (a2, .inl (k2, 42, .inr (.inl hf)))] sz)) 0 0 (va_A [(h0, .inr (2, [.int full, .ref a1, .ref a2, .int cnt])), (a1, .inl (k1, 42, .inl vf)), (a2, .inl (k2, 42, .inr (.inl hf)))] sz) := by
  refine Met.ofW (cc := b_Water_isAsWarmAsNext) (maxL := 2) (ret := (some .boolean)) (by decide) rfl ?_
  intro p e s m args below meth c s₁ B hml hv
  obtain ⟨rfl, hsz, hP, hK, hD0, hE⟩ := hv
  have hx := B.exec
  have hb := B.bytes
  have hr := B.returns
  have hts := atoms_spec (ws := w_Water_isAsWarmAsNext) B.pre
  have hown : s.vm.findClass R_Water = some m.cls := findClass_of_methodNamed B.named
  have hlocks := B.notSynchronized
  subst hsz
  have hD := hD0.self (sz := s.heap.size)
  generalize hAe : va_A [(h0, .inr (2, [.int full, .ref a1, .ref a2, .int cnt])), (a1, .inl (k1, 42, .inl vf)), (a2, .inl (k2, 42, .inr (.inl hf)))] s.heap.size = A at hD ⊢
  have hA : ∀ q : Nat, s.heap.size ≤ q → A q := fun q h => by rw [← hAe]; exact Or.inr h
  clear hAe hD0
  have key : ∀ (H : Heap) (locs : List Loc), va_P (dC, dI) classes [(h0, .inr (2, [.int full, .ref a1, .ref a2, .int cnt])), (a1, .inl (k1, 42, .inl vf)), (a2, .inl (k2, 42, .inr (.inl hf)))] H → va_D A [(h0, .inr (2, [.int full, .ref a1, .ref a2, .int cnt])), (a1, .inl (k1, 42, .inl vf)), (a2, .inl (k2, 42, .inr (.inl hf)))] → va_S A s.heap H locs → ∀ (ls : Array Slot), lv_has ls 2 [(0, .ref h0), (1, .int p1)] → W p l e ({ frames := 0, cells := 0, slots := 0, locals := 0 } : Room) s m ([.ref h0, .int p1] : List Value).toArray below meth c H locs 0 0 (MQ below (va_Qi (fun (r : Int32) (_ : Unit) => r = res) (fun _ t => va_P (dC, dI) classes [(h0, .inr (2, [.int full, .ref a1, .ref a2, .int cnt])), (a1, .inl (k1, 42, .inl vf)), (a2, .inl (k2, 42, .inr (.inl hf)))] t.heap ∧ va_K (dC, dI) classes [(k1, .int), (k2, .long)] t ∧ va_D A [(h0, .inr (2, [.int full, .ref a1, .ref a2, .int cnt])), (a1, .inl (k1, 42, .inl vf)), (a2, .inl (k2, 42, .inr (.inl hf)))]) A) ([.ref h0, .int p1] : List Value).toArray s 0 0 A) (F0 m 0 ls []) := by
    intro H locs hP hD hS ls hl
    unfold fn_Water_isAsWarmAsNext at h
    refine lv_aload_n hx hb d_Water_isAsWarmAsNext_0 rfl (lv_at hl 0 rfl) ?_
    refine va_get (D := (dC, dI)) (ci := 2) (v := .ref a2) (C := R_Water) (T := F_Water) (N := 4) hx hb hts (gx_in i_Water) hown hK hP 0 rfl rfl 2 (by decide) (hts _ (gx_w mw_175)) (fun _ h9 => h9) rfl d_Water_isAsWarmAsNext_1 ?_
    refine lv_iload_n hx hb d_Water_isAsWarmAsNext_4 rfl (lv_at hl 1 rfl) ?_
    obtain ⟨hi1, h⟩ := gx_inb_of h
    refine va_lald hx hb hK hP 2 1 rfl rfl hi1 d_Water_isAsWarmAsNext_5 ?_
    refine lv_aload_n hx hb d_Water_isAsWarmAsNext_6 rfl (lv_at hl 0 rfl) ?_
    refine va_get (D := (dC, dI)) (ci := 2) (v := .ref a1) (C := R_Water) (T := F_Water) (N := 4) hx hb hts (gx_in i_Water) hown hK hP 0 rfl rfl 1 (by decide) (hts _ (gx_w mw_173)) (fun _ h9 => h9) rfl d_Water_isAsWarmAsNext_7 ?_
    refine lv_iload_n hx hb d_Water_isAsWarmAsNext_10 rfl (lv_at hl 1 rfl) ?_
    refine lv_iconst (v := 1) hx hb d_Water_isAsWarmAsNext_11 (by decide) ?_
    refine lv_iadd hx hb d_Water_isAsWarmAsNext_12 ?_
    obtain ⟨hi2, h⟩ := gx_inb_of h
    refine va_iald hx hb hK hP 1 0 rfl rfl hi2 d_Water_isAsWarmAsNext_13 ?_
    refine lv_i2l (v := (vf (p1 + 1).toNatClampNeg).toInt64) hx hb d_Water_isAsWarmAsNext_14 rfl ?_
    refine lv_lmul hx hb d_Water_isAsWarmAsNext_15 ?_
    refine lv_aload_n hx hb d_Water_isAsWarmAsNext_16 rfl (lv_at hl 0 rfl) ?_
    refine va_get (D := (dC, dI)) (ci := 2) (v := .ref a2) (C := R_Water) (T := F_Water) (N := 4) hx hb hts (gx_in i_Water) hown hK hP 0 rfl rfl 2 (by decide) (hts _ (gx_w mw_175)) (fun _ h9 => h9) rfl d_Water_isAsWarmAsNext_17 ?_
    refine lv_iload_n hx hb d_Water_isAsWarmAsNext_20 rfl (lv_at hl 1 rfl) ?_
    refine lv_iconst (v := 1) hx hb d_Water_isAsWarmAsNext_21 (by decide) ?_
    refine lv_iadd hx hb d_Water_isAsWarmAsNext_22 ?_
    obtain ⟨hi3, h⟩ := gx_inb_of h
    refine va_lald hx hb hK hP 2 1 rfl rfl hi3 d_Water_isAsWarmAsNext_23 ?_
    refine lv_aload_n hx hb d_Water_isAsWarmAsNext_24 rfl (lv_at hl 0 rfl) ?_
    refine va_get (D := (dC, dI)) (ci := 2) (v := .ref a1) (C := R_Water) (T := F_Water) (N := 4) hx hb hts (gx_in i_Water) hown hK hP 0 rfl rfl 1 (by decide) (hts _ (gx_w mw_173)) (fun _ h9 => h9) rfl d_Water_isAsWarmAsNext_25 ?_
    refine lv_iload_n hx hb d_Water_isAsWarmAsNext_28 rfl (lv_at hl 1 rfl) ?_
    obtain ⟨hi4, h⟩ := gx_inb_of h
    refine va_iald hx hb hK hP 1 0 rfl rfl hi4 d_Water_isAsWarmAsNext_29 ?_
    refine lv_i2l (v := (vf p1.toNatClampNeg).toInt64) hx hb d_Water_isAsWarmAsNext_30 rfl ?_
    refine lv_lmul hx hb d_Water_isAsWarmAsNext_31 ?_
    refine W.lcmp hx hb d_Water_isAsWarmAsNext_32 ?_
    refine lv_if_lt (tgt := 40) hx hb d_Water_isAsWarmAsNext_33 (by decide) (fun c5 => ?_) (fun c5 => ?_)
    · replace h := gx_pos c5 h
      refine lv_iconst (v := 0) hx hb d_Water_isAsWarmAsNext_40 (by decide) ?_
      rw [← Option.some.inj h]
      have hP9 := hP
      have hD9 := hD
      exact W.zret (v := 0) hx hb hr (by decide +kernel) (fun t ht hW => ⟨⟨0, (), rfl, rfl, ⟨by rw [ht]; exact hP9, va_K.moved hW.alike hK, hD9⟩⟩, hS.F ht⟩) hS.2.2 d_Water_isAsWarmAsNext_41
    · replace h := gx_neg c5 h
      refine lv_iconst (v := 1) hx hb d_Water_isAsWarmAsNext_36 (by decide) ?_
      refine lv_goto (tgt := 41) hx hb d_Water_isAsWarmAsNext_37 (by decide) ?_
      rw [← Option.some.inj h]
      have hP9 := hP
      have hD9 := hD
      exact W.zret (v := 1) hx hb hr (by decide +kernel) (fun t ht hW => ⟨⟨1, (), rfl, rfl, ⟨by rw [ht]; exact hP9, va_K.moved hW.alike hK, hD9⟩⟩, hS.F ht⟩) hS.2.2 d_Water_isAsWarmAsNext_41
  have hl := lv_entry ([.ref h0, .int p1]) (n := 2) (Nat.le_of_ble_eq_true rfl)
  rw [lg_entry_eq]
  generalize (lg_sl ([.ref h0, .int p1]) ++ List.replicate (2 - (lg_sl ([.ref h0, .int p1])).length) Slot.unset).toArray = ls at hl ⊢
  exact key _ _ hP hD va_S.rf ls hl
def bk_Water_joinLowest_15 (N : Nat) (full : Int32) (K : Int32 × Int32 × Int32 × (Nat → Int32) × (Nat → Int64) → Option (Int32 × (Nat → Int32) × (Nat → Int64))) (x1 : Int32) (x2 : Int32) (cnt : Int32) (vf : Nat → Int32) (hf : Nat → Int64) : Option (Int32 × (Nat → Int32) × (Nat → Int64)) :=
  if x1 ≤ x2 then (fn_Water_dropLowest N x1 full cnt vf hf).bind (fun ur4 => some (ur4.1, ur4.2.1, ur4.2.2)) else if gx_inb x1 42 = true then if gx_inb x2 42 = true then if gx_inb x1 42 = true then if gx_inb x1 42 = true then if gx_inb x2 42 = true then if gx_inb x1 42 = true then K (x1, x2 + 1, cnt, upd vf x1.toNatClampNeg ((vf x1.toNatClampNeg) + (vf x2.toNatClampNeg)), vp_updL hf x1.toNatClampNeg ((hf x1.toNatClampNeg) + (hf x2.toNatClampNeg))) else none else none else none else none else none else none
def st_Water_joinLowest (N : Nat) (full : Int32) (K : Int32 × Int32 × Int32 × (Nat → Int32) × (Nat → Int64) → Option (Int32 × (Nat → Int32) × (Nat → Int64))) (z : Int32 × Int32 × Int32 × (Nat → Int32) × (Nat → Int64)) : Option (Int32 × (Nat → Int32) × (Nat → Int64)) := match z with
  | (x1, x2, cnt, vf, hf) => bk_Water_joinLowest_15 N full K x1 x2 cnt vf hf
def fn_Water_joinLowest (N : Nat) (p1 : Int32) (full : Int32) (cnt : Int32) (vf : Nat → Int32) (hf : Nat → Int64) : Option (Int32 × (Nat → Int32) × (Nat → Int64)) :=
  if p1 ≤ 0 then some (cnt, vf, hf) else if p1 < cnt then gx_fx (st_Water_joinLowest N full) N (p1, 0, cnt, vf, hf) else some (cnt, vf, hf)
def w_Water_joinLowest : List Cond := .code y_Water_joinLowest b_Water_joinLowest 3 none :: gx_W
set_option maxHeartbeats 4000000 in
set_option maxRecDepth 100000 in
theorem c_Water_joinLowest (N : Nat) (l : Launch) (dC : Nat → ClassId) (dI : Nat → Nat → Nat) (h0 : Nat) (a1 : Nat) (a2 : Nat) (k1 : ClassId) (k2 : ClassId) (sz : Nat) (full : Int32) (cnt : Int32) (vf : Nat → Int32) (hf : Nat → Int64) (p1 : Int32) (res : Int32 × (Nat → Int32) × (Nat → Int64)) (h : fn_Water_joinLowest N p1 full cnt vf hf = some res) : Met l y_Water_joinLowest w_Water_joinLowest ({ frames := 1, cells := 0, slots := 0, locals := 22 } : Room) (va_Pc [.ref h0, .int p1] (fun U => U.heap.size = sz ∧ va_P (dC, dI) classes [(h0, .inr (2, [.int full, .ref a1, .ref a2, .int cnt])), (a1, .inl (k1, 42, .inl vf)), (a2, .inl (k2, 42, .inr (.inl hf)))] U.heap ∧ va_K (dC, dI) classes [(k1, .int), (k2, .long)] U ∧ va_D (fun _ => True) [(h0, .inr (2, [.int full, .ref a1, .ref a2, .int cnt])), (a1, .inl (k1, 42, .inl vf)), (a2, .inl (k2, 42, .inr (.inl hf)))] ∧ gx_E U)) (va_Qv (fun _ : Unit => True) (fun _ t => va_P (dC, dI) classes [(h0, .inr (2, [.int full, .ref a1, .ref a2, .int res.1])), (a1, .inl (k1, 42, .inl res.2.1)), (a2, .inl (k2, 42, .inr (.inl res.2.2)))] t.heap ∧ va_K (dC, dI) classes [(k1, .int), (k2, .long)] t ∧ va_D (va_A [(h0, .inr (2, [.int full, .ref a1, .ref a2, .int cnt])), (a1, .inl (k1, 42, .inl vf)), (a2, .inl (k2, 42, .inr (.inl hf)))] sz) [(h0, .inr (2, [.int full, .ref a1, .ref a2, .int res.1])), (a1, .inl (k1, 42, .inl res.2.1)), (a2, .inl (k2, 42, .inr (.inl res.2.2)))]) (va_A [(h0, .inr (2, [.int full, .ref a1, .ref a2, .int cnt])), (a1, .inl (k1, 42, .inl vf)), (a2, .inl (k2, 42, .inr (.inl hf)))] sz)) 0 0 (va_A [(h0, .inr (2, [.int full, .ref a1, .ref a2, .int cnt])), (a1, .inl (k1, 42, .inl vf)), (a2, .inl (k2, 42, .inr (.inl hf)))] sz) := by
  refine Met.ofW (cc := b_Water_joinLowest) (maxL := 3) (ret := none) (by decide) rfl ?_
  intro p e s m args below meth c s₁ B hml hv
  obtain ⟨rfl, hsz, hP, hK, hD0, hE⟩ := hv
  have hx := B.exec
  have hb := B.bytes
  have hr := B.returns
  have hts := atoms_spec (ws := w_Water_joinLowest) B.pre
  have hown : s.vm.findClass R_Water = some m.cls := findClass_of_methodNamed B.named
  have hlocks := B.notSynchronized
  subst hsz
  have hD := hD0.self (sz := s.heap.size)
  generalize hAe : va_A [(h0, .inr (2, [.int full, .ref a1, .ref a2, .int cnt])), (a1, .inl (k1, 42, .inl vf)), (a2, .inl (k2, 42, .inr (.inl hf)))] s.heap.size = A at hD ⊢
  have hA : ∀ q : Nat, s.heap.size ≤ q → A q := fun q h => by rw [← hAe]; exact Or.inr h
  clear hAe hD0
  have loop : ∀ n : Nat, (∀ (x1 : Int32) (x2 : Int32) (cnt : Int32) (vf : Nat → Int32) (hf : Nat → Int64), gx_fx (st_Water_joinLowest N full) n (x1, x2, cnt, vf, hf) = some res → ∀ (H : Heap) (locs : List Loc), va_P (dC, dI) classes [(h0, .inr (2, [.int full, .ref a1, .ref a2, .int cnt])), (a1, .inl (k1, 42, .inl vf)), (a2, .inl (k2, 42, .inr (.inl hf)))] H → va_D A [(h0, .inr (2, [.int full, .ref a1, .ref a2, .int cnt])), (a1, .inl (k1, 42, .inl vf)), (a2, .inl (k2, 42, .inr (.inl hf)))] → va_S A s.heap H locs → ∀ (ls : Array Slot), lv_has ls 3 [(0, .ref h0), (1, .int x1), (2, .int x2)] → W p l e ({ frames := 1, cells := 0, slots := 0, locals := 22 } : Room) s m ([.ref h0, .int p1] : List Value).toArray below meth c H locs 0 0 (MQ below (va_Qv (fun _ : Unit => True) (fun _ t => va_P (dC, dI) classes [(h0, .inr (2, [.int full, .ref a1, .ref a2, .int res.1])), (a1, .inl (k1, 42, .inl res.2.1)), (a2, .inl (k2, 42, .inr (.inl res.2.2)))] t.heap ∧ va_K (dC, dI) classes [(k1, .int), (k2, .long)] t ∧ va_D A [(h0, .inr (2, [.int full, .ref a1, .ref a2, .int res.1])), (a1, .inl (k1, 42, .inl res.2.1)), (a2, .inl (k2, 42, .inr (.inl res.2.2)))]) A) ([.ref h0, .int p1] : List Value).toArray s 0 0 A) (F0 m 15 ls [])) := by
    intro n
    induction n with
    | zero => exact fun _ _ _ _ _ h => gx_fx0 h
    | succ n ih =>
        intro x1 x2 cnt vf hf h H locs hP hD hS ls hl
        replace h : bk_Water_joinLowest_15 N full (gx_fx (st_Water_joinLowest N full) n) x1 x2 cnt vf hf = some res := h
        unfold bk_Water_joinLowest_15 at h
        refine lv_iload_n hx hb d_Water_joinLowest_15 rfl (lv_at hl 2 rfl) ?_
        refine lv_iload_n hx hb d_Water_joinLowest_16 rfl (lv_at hl 1 rfl) ?_
        refine lv_icmp_ge (tgt := 56) hx hb d_Water_joinLowest_17 (by decide) (fun c3 => ?_) (fun c3 => ?_)
        · replace h := gx_pos c3 h
          refine lv_aload_n hx hb d_Water_joinLowest_56 rfl (lv_at hl 0 rfl) ?_
          refine lv_iload_n hx hb d_Water_joinLowest_57 rfl (lv_at hl 1 rfl) ?_
          have hPc := hP.sub (ws' := [(h0, .inr (2, [.int full, .ref a1, .ref a2, .int cnt])), (a1, .inl (k1, 42, .inl vf)), (a2, .inl (k2, 42, .inr (.inl hf)))]) [0, 1, 2] rfl
          have hDc := hD.sub (ws' := [(h0, .inr (2, [.int full, .ref a1, .ref a2, .int cnt])), (a1, .inl (k1, 42, .inl vf)), (a2, .inl (k2, 42, .inr (.inl hf)))]) [0, 1, 2] (by decide) rfl
          have hKc := hK.sub (tys' := [(k1, .int), (k2, .long)]) [0, 1] rfl
          have hFc := va_free (wc := [(h0, .inr (2, [.int full, .ref a1, .ref a2, .int cnt])), (a1, .inl (k1, 42, .inl vf)), (a2, .inl (k2, 42, .inr (.inl hf)))]) hD hS hA [0, 1, 2] rfl
          obtain ⟨ur4, hc4, h⟩ := gx_bind h
          refine va_callv (va_runV (As := [.int x1]) (rest := []) ⟨hx, hb, hml, hown, hts⟩ (c_Water_dropLowest N l dC dI h0 a1 a2 k1 k2 H.size full cnt vf hf x1 ur4 hc4) (cwV 1 hts (gx_gV mw_358 mw_355 mw_357 mw_8 mw_32) rfl rfl rfl (by decide +kernel) ⟨Nat.le_of_ble_eq_true rfl, Nat.le_of_ble_eq_true rfl⟩) ⟨fun a U g mk q => by obtain ⟨q0, q1, qP, qK, qD, qE⟩ := q; exact ⟨q0, q1, qP, va_K.moved (u := U) (U := U.calling g mk a) (Vm.Alike.refl U.vm) qK, qD, qE.calls⟩, va_recv hKc hPc (ci := 2) (q0 := 0) rfl rfl, fun U hU hW => ⟨rfl, by rw [hU], by rw [hU]; exact hPc, va_K.moved hW.alike hKc, hDc.weaken (fun _ _ _ _ => trivial), hE.warm hW⟩⟩ rfl rfl hl.1 rfl (lv_room (Nat.le_of_ble_eq_true rfl)) d_Water_joinLowest_58 ⟨(Nat.zero_le _), (Nat.zero_le _)⟩) hS (fun q _ h => hFc q h) hFc (fun _ t H locs ht hvm hw hB hz1 hk1 hS => ?_)
          obtain ⟨hP1, hK1, hD1⟩ := hB
          rw [ht] at hP1
          obtain ⟨hP, hD⟩ := va_join (wr := []) (w1 := [(h0, .inr (2, [.int full, .ref a1, .ref a2, .int ur4.1])), (a1, .inl (k1, 42, .inl ur4.2.1)), (a2, .inl (k2, 42, .inr (.inl ur4.2.2)))]) hP hD [0, 1, 2] [] rfl rfl (by decide) (by decide) hk1 hFc hP1 hD1
          have hP : va_P (dC, dI) classes [(h0, .inr (2, [.int full, .ref a1, .ref a2, .int ur4.1])), (a1, .inl (k1, 42, .inl ur4.2.1)), (a2, .inl (k2, 42, .inr (.inl ur4.2.2)))] H := hP
          have hD : va_D A [(h0, .inr (2, [.int full, .ref a1, .ref a2, .int ur4.1])), (a1, .inl (k1, 42, .inl ur4.2.1)), (a2, .inl (k2, 42, .inr (.inl ur4.2.2)))] := hD
          rw [← Option.some.inj h]
          have hP9 := hP
          have hD9 := hD
          exact W.vret hx hb hr (fun t ht hW => ⟨⟨(), rfl, trivial, ⟨by rw [ht]; exact hP9, va_K.moved hW.alike hK, hD9⟩⟩, hS.F ht⟩) hS.2.2 d_Water_joinLowest_61
        · replace h := gx_neg c3 h
          refine lv_aload_n hx hb d_Water_joinLowest_20 rfl (lv_at hl 0 rfl) ?_
          refine va_get (D := (dC, dI)) (ci := 2) (v := .ref a1) (C := R_Water) (T := F_Water) (N := 4) hx hb hts (gx_in i_Water) hown hK hP 0 rfl rfl 1 (by decide) (hts _ (gx_w mw_173)) (fun _ h9 => h9) rfl d_Water_joinLowest_21 ?_
          refine lv_iload_n hx hb d_Water_joinLowest_24 rfl (lv_at hl 1 rfl) ?_
          refine lv_dup2_11 hx hb d_Water_joinLowest_25 rfl rfl ?_
          obtain ⟨hi5, h⟩ := gx_inb_of h
          refine va_iald hx hb hK hP 1 0 rfl rfl hi5 d_Water_joinLowest_26 ?_
          refine lv_aload_n hx hb d_Water_joinLowest_27 rfl (lv_at hl 0 rfl) ?_
          refine va_get (D := (dC, dI)) (ci := 2) (v := .ref a1) (C := R_Water) (T := F_Water) (N := 4) hx hb hts (gx_in i_Water) hown hK hP 0 rfl rfl 1 (by decide) (hts _ (gx_w mw_173)) (fun _ h9 => h9) rfl d_Water_joinLowest_28 ?_
          refine lv_iload_n hx hb d_Water_joinLowest_31 rfl (lv_at hl 2 rfl) ?_
          obtain ⟨hi6, h⟩ := gx_inb_of h
          refine va_iald hx hb hK hP 1 0 rfl rfl hi6 d_Water_joinLowest_32 ?_
          refine lv_iadd hx hb d_Water_joinLowest_33 ?_
          obtain ⟨hi7, h⟩ := gx_inb_of h
          refine va_iast hx hb hK hP hD hS 1 0 rfl rfl hi7 d_Water_joinLowest_34 (fun H locs hP hD hS => ?_)
          have hP : va_P (dC, dI) classes [(h0, .inr (2, [.int full, .ref a1, .ref a2, .int cnt])), (a1, .inl (k1, 42, .inl (upd vf x1.toNatClampNeg ((vf x1.toNatClampNeg) + (vf x2.toNatClampNeg))))), (a2, .inl (k2, 42, .inr (.inl hf)))] H := hP
          have hD : va_D A [(h0, .inr (2, [.int full, .ref a1, .ref a2, .int cnt])), (a1, .inl (k1, 42, .inl (upd vf x1.toNatClampNeg ((vf x1.toNatClampNeg) + (vf x2.toNatClampNeg))))), (a2, .inl (k2, 42, .inr (.inl hf)))] := hD
          refine lv_aload_n hx hb d_Water_joinLowest_35 rfl (lv_at hl 0 rfl) ?_
          refine va_get (D := (dC, dI)) (ci := 2) (v := .ref a2) (C := R_Water) (T := F_Water) (N := 4) hx hb hts (gx_in i_Water) hown hK hP 0 rfl rfl 2 (by decide) (hts _ (gx_w mw_175)) (fun _ h9 => h9) rfl d_Water_joinLowest_36 ?_
          refine lv_iload_n hx hb d_Water_joinLowest_39 rfl (lv_at hl 1 rfl) ?_
          refine lv_dup2_11 hx hb d_Water_joinLowest_40 rfl rfl ?_
          obtain ⟨hi8, h⟩ := gx_inb_of h
          refine va_lald hx hb hK hP 2 1 rfl rfl hi8 d_Water_joinLowest_41 ?_
          refine lv_aload_n hx hb d_Water_joinLowest_42 rfl (lv_at hl 0 rfl) ?_
          refine va_get (D := (dC, dI)) (ci := 2) (v := .ref a2) (C := R_Water) (T := F_Water) (N := 4) hx hb hts (gx_in i_Water) hown hK hP 0 rfl rfl 2 (by decide) (hts _ (gx_w mw_175)) (fun _ h9 => h9) rfl d_Water_joinLowest_43 ?_
          refine lv_iload_n hx hb d_Water_joinLowest_46 rfl (lv_at hl 2 rfl) ?_
          obtain ⟨hi9, h⟩ := gx_inb_of h
          refine va_lald hx hb hK hP 2 1 rfl rfl hi9 d_Water_joinLowest_47 ?_
          refine lv_ladd hx hb d_Water_joinLowest_48 ?_
          obtain ⟨hi10, h⟩ := gx_inb_of h
          refine va_last hx hb hK hP hD hS 2 1 rfl rfl hi10 d_Water_joinLowest_49 (fun H locs hP hD hS => ?_)
          have hP : va_P (dC, dI) classes [(h0, .inr (2, [.int full, .ref a1, .ref a2, .int cnt])), (a1, .inl (k1, 42, .inl (upd vf x1.toNatClampNeg ((vf x1.toNatClampNeg) + (vf x2.toNatClampNeg))))), (a2, .inl (k2, 42, .inr (.inl (vp_updL hf x1.toNatClampNeg ((hf x1.toNatClampNeg) + (hf x2.toNatClampNeg))))))] H := hP
          have hD : va_D A [(h0, .inr (2, [.int full, .ref a1, .ref a2, .int cnt])), (a1, .inl (k1, 42, .inl (upd vf x1.toNatClampNeg ((vf x1.toNatClampNeg) + (vf x2.toNatClampNeg))))), (a2, .inl (k2, 42, .inr (.inl (vp_updL hf x1.toNatClampNeg ((hf x1.toNatClampNeg) + (hf x2.toNatClampNeg))))))] := hD
          refine lv_iinc (v := x2 + 1) (lv' := [(2, .int (x2 + 1)), (0, .ref h0), (1, .int x1)]) hx hb d_Water_joinLowest_50 hl (k := 2) rfl rfl (by decide) rfl (fun ls hl => ?_)
          refine lv_goto (tgt := 15) hx hb d_Water_joinLowest_53 (by decide) ?_
          exact ih x1 (x2 + 1) cnt (upd vf x1.toNatClampNeg ((vf x1.toNatClampNeg) + (vf x2.toNatClampNeg))) (vp_updL hf x1.toNatClampNeg ((hf x1.toNatClampNeg) + (hf x2.toNatClampNeg))) h _ _ hP hD hS ls (lv_sub hl [1, 2, 0] rfl)
  have key : ∀ (H : Heap) (locs : List Loc), va_P (dC, dI) classes [(h0, .inr (2, [.int full, .ref a1, .ref a2, .int cnt])), (a1, .inl (k1, 42, .inl vf)), (a2, .inl (k2, 42, .inr (.inl hf)))] H → va_D A [(h0, .inr (2, [.int full, .ref a1, .ref a2, .int cnt])), (a1, .inl (k1, 42, .inl vf)), (a2, .inl (k2, 42, .inr (.inl hf)))] → va_S A s.heap H locs → ∀ (ls : Array Slot), lv_has ls 3 [(0, .ref h0), (1, .int p1)] → W p l e ({ frames := 1, cells := 0, slots := 0, locals := 22 } : Room) s m ([.ref h0, .int p1] : List Value).toArray below meth c H locs 0 0 (MQ below (va_Qv (fun _ : Unit => True) (fun _ t => va_P (dC, dI) classes [(h0, .inr (2, [.int full, .ref a1, .ref a2, .int res.1])), (a1, .inl (k1, 42, .inl res.2.1)), (a2, .inl (k2, 42, .inr (.inl res.2.2)))] t.heap ∧ va_K (dC, dI) classes [(k1, .int), (k2, .long)] t ∧ va_D A [(h0, .inr (2, [.int full, .ref a1, .ref a2, .int res.1])), (a1, .inl (k1, 42, .inl res.2.1)), (a2, .inl (k2, 42, .inr (.inl res.2.2)))]) A) ([.ref h0, .int p1] : List Value).toArray s 0 0 A) (F0 m 0 ls []) := by
    intro H locs hP hD hS ls hl
    unfold fn_Water_joinLowest at h
    refine lv_iload_n hx hb d_Water_joinLowest_0 rfl (lv_at hl 1 rfl) ?_
    refine lv_if_le (tgt := 12) hx hb d_Water_joinLowest_1 (by decide) (fun c1 => ?_) (fun c1 => ?_)
    · replace h := gx_pos c1 h
      rw [← Option.some.inj h]
      have hP9 := hP
      have hD9 := hD
      exact W.vret hx hb hr (fun t ht hW => ⟨⟨(), rfl, trivial, ⟨by rw [ht]; exact hP9, va_K.moved hW.alike hK, hD9⟩⟩, hS.F ht⟩) hS.2.2 d_Water_joinLowest_12
    · replace h := gx_neg c1 h
      refine lv_iload_n hx hb d_Water_joinLowest_4 rfl (lv_at hl 1 rfl) ?_
      refine lv_aload_n hx hb d_Water_joinLowest_5 rfl (lv_at hl 0 rfl) ?_
      refine va_get (D := (dC, dI)) (ci := 2) (v := .int cnt) (C := R_Water) (T := F_Water) (N := 4) hx hb hts (gx_in i_Water) hown hK hP 0 rfl rfl 3 (by decide) (hts _ (gx_w mw_177)) (fun _ h9 => h9) rfl d_Water_joinLowest_6 ?_
      refine lv_icmp_lt (tgt := 13) hx hb d_Water_joinLowest_9 (by decide) (fun c2 => ?_) (fun c2 => ?_)
      · replace h := gx_pos c2 h
        refine lv_iconst (v := 0) hx hb d_Water_joinLowest_13 (by decide) ?_
        refine lv_istore_n (lv' := [(2, .int 0), (0, .ref h0), (1, .int p1)]) hx hb d_Water_joinLowest_14 rfl hl (by decide) rfl (fun ls hl => ?_)
        exact (loop N) p1 0 cnt vf hf h _ _ hP hD hS ls (lv_sub hl [1, 2, 0] rfl)
      · replace h := gx_neg c2 h
        rw [← Option.some.inj h]
        have hP9 := hP
        have hD9 := hD
        exact W.vret hx hb hr (fun t ht hW => ⟨⟨(), rfl, trivial, ⟨by rw [ht]; exact hP9, va_K.moved hW.alike hK, hD9⟩⟩, hS.F ht⟩) hS.2.2 d_Water_joinLowest_12
  have hl := lv_entry ([.ref h0, .int p1]) (n := 3) (Nat.le_of_ble_eq_true rfl)
  rw [lg_entry_eq]
  generalize (lg_sl ([.ref h0, .int p1]) ++ List.replicate (3 - (lg_sl ([.ref h0, .int p1])).length) Slot.unset).toArray = ls at hl ⊢
  exact key _ _ hP hD va_S.rf ls hl
