theorem mw_455 : (Cond.code y_Math_floorMod b_Math_floorMod 3 (some .int)) ∈ gx_W := List.mem_filter.mpr ⟨List.mem_of_getElem? (i := 455) (by decide +kernel), by decide +kernel⟩
theorem mw_453 : (Cond.methodLink R_TL 146 y_Math_floorMod) ∈ gx_W := List.mem_filter.mpr ⟨List.mem_of_getElem? (i := 453) (by decide +kernel), by decide +kernel⟩
theorem mw_454 : (Cond.static y_Math_floorMod) ∈ gx_W := List.mem_filter.mpr ⟨List.mem_of_getElem? (i := 454) (by decide +kernel), by decide +kernel⟩
theorem d_TL_run_0 : decode b_TL_run 0 = .ok (.iload_n 1, 1) := by decide +kernel
theorem d_TL_run_1 : decode b_TL_run 1 = .ok (.iconst 1, 1) := by decide +kernel
theorem d_TL_run_2 : decode b_TL_run 2 = .ok (.sipush 300, 3) := by decide +kernel
theorem d_TL_run_5 : decode b_TL_run 5 = .ok (.invokestatic 26, 3) := by decide +kernel
theorem d_TL_run_8 : decode b_TL_run 8 = .ok (.aload_n 0, 1) := by decide +kernel
theorem d_TL_run_9 : decode b_TL_run 9 = .ok (.getfield 22, 3) := by decide +kernel
theorem d_TL_run_12 : decode b_TL_run 12 = .ok (.iload_n 1, 1) := by decide +kernel
theorem d_TL_run_13 : decode b_TL_run 13 = .ok (.iadd, 1) := by decide +kernel
theorem d_TL_run_14 : decode b_TL_run 14 = .ok (.sipush 5000, 3) := by decide +kernel
theorem d_TL_run_17 : decode b_TL_run 17 = .ok (.if_icmp .le 13, 3) := by decide +kernel
theorem d_TL_run_20 : decode b_TL_run 20 = .ok (.new 34, 3) := by decide +kernel
theorem d_TL_run_23 : decode b_TL_run 23 = .ok (.dup, 1) := by decide +kernel
theorem d_TL_run_24 : decode b_TL_run 24 = .ok (.ldc 144, 2) := by decide +kernel
theorem d_TL_run_26 : decode b_TL_run 26 = .ok (.invokespecial 38, 3) := by decide +kernel
theorem d_TL_run_29 : decode b_TL_run 29 = .ok (.athrow, 1) := by decide +kernel
theorem d_TL_run_30 : decode b_TL_run 30 = .ok (.iconst 0, 1) := by decide +kernel
theorem d_TL_run_31 : decode b_TL_run 31 = .ok (.istore_n 2, 1) := by decide +kernel
theorem d_TL_run_32 : decode b_TL_run 32 = .ok (.iload_n 2, 1) := by decide +kernel
theorem d_TL_run_33 : decode b_TL_run 33 = .ok (.iload_n 1, 1) := by decide +kernel
theorem d_TL_run_34 : decode b_TL_run 34 = .ok (.if_icmp .ge 73, 3) := by decide +kernel
theorem d_TL_run_37 : decode b_TL_run 37 = .ok (.aload_n 0, 1) := by decide +kernel
theorem d_TL_run_38 : decode b_TL_run 38 = .ok (.dup, 1) := by decide +kernel
theorem d_TL_run_39 : decode b_TL_run 39 = .ok (.getfield 22, 3) := by decide +kernel
theorem d_TL_run_42 : decode b_TL_run 42 = .ok (.iconst 1, 1) := by decide +kernel
theorem d_TL_run_43 : decode b_TL_run 43 = .ok (.iadd, 1) := by decide +kernel
theorem d_TL_run_44 : decode b_TL_run 44 = .ok (.putfield 22, 3) := by decide +kernel
theorem d_TL_run_47 : decode b_TL_run 47 = .ok (.aload_n 0, 1) := by decide +kernel
theorem d_TL_run_48 : decode b_TL_run 48 = .ok (.getfield 22, 3) := by decide +kernel
theorem d_TL_run_51 : decode b_TL_run 51 = .ok (.sipush 1440, 3) := by decide +kernel
theorem d_TL_run_54 : decode b_TL_run 54 = .ok (.invokestatic 146, 3) := by decide +kernel
theorem d_TL_run_57 : decode b_TL_run 57 = .ok (.istore_n 3, 1) := by decide +kernel
theorem d_TL_run_58 : decode b_TL_run 58 = .ok (.iconst 0, 1) := by decide +kernel
theorem d_TL_run_59 : decode b_TL_run 59 = .ok (.istore 4, 2) := by decide +kernel
theorem d_TL_run_61 : decode b_TL_run 61 = .ok (.iload 4, 2) := by decide +kernel
theorem d_TL_run_63 : decode b_TL_run 63 = .ok (.aload_n 0, 1) := by decide +kernel
theorem d_TL_run_64 : decode b_TL_run 64 = .ok (.getfield 11, 3) := by decide +kernel
theorem d_TL_run_67 : decode b_TL_run 67 = .ok (.arraylength, 1) := by decide +kernel
theorem d_TL_run_68 : decode b_TL_run 68 = .ok (.if_icmp .ge 33, 3) := by decide +kernel
theorem d_TL_run_71 : decode b_TL_run 71 = .ok (.aload_n 0, 1) := by decide +kernel
theorem d_TL_run_72 : decode b_TL_run 72 = .ok (.getfield 11, 3) := by decide +kernel
theorem d_TL_run_75 : decode b_TL_run 75 = .ok (.iload 4, 2) := by decide +kernel
theorem d_TL_run_77 : decode b_TL_run 77 = .ok (.aaload, 1) := by decide +kernel
theorem d_TL_run_78 : decode b_TL_run 78 = .ok (.astore 5, 2) := by decide +kernel
theorem d_TL_run_80 : decode b_TL_run 80 = .ok (.aload 5, 2) := by decide +kernel
theorem d_TL_run_82 : decode b_TL_run 82 = .ok (.ifnull 13, 3) := by decide +kernel
theorem d_TL_run_85 : decode b_TL_run 85 = .ok (.aload 5, 2) := by decide +kernel
theorem d_TL_run_87 : decode b_TL_run 87 = .ok (.iload_n 3, 1) := by decide +kernel
theorem d_TL_run_88 : decode b_TL_run 88 = .ok (.aload_n 0, 1) := by decide +kernel
theorem d_TL_run_89 : decode b_TL_run 89 = .ok (.getfield 19, 3) := by decide +kernel
theorem d_TL_run_92 : decode b_TL_run 92 = .ok (.invokevirtual 149, 3) := by decide +kernel
theorem d_TL_run_95 : decode b_TL_run 95 = .ok (.iinc 4 1, 3) := by decide +kernel
theorem d_TL_run_98 : decode b_TL_run 98 = .ok (.goto (-37), 3) := by decide +kernel
theorem d_TL_run_101 : decode b_TL_run 101 = .ok (.iinc 2 1, 3) := by decide +kernel
theorem d_TL_run_104 : decode b_TL_run 104 = .ok (.goto (-72), 3) := by decide +kernel
theorem d_TL_run_107 : decode b_TL_run 107 = .ok (.aload_n 0, 1) := by decide +kernel
theorem d_TL_run_108 : decode b_TL_run 108 = .ok (.getfield 22, 3) := by decide +kernel
theorem d_TL_run_111 : decode b_TL_run 111 = .ok (.ireturn, 1) := by decide +kernel
def bk_TL_run_32 (N : Nat) (xn : Int32) (xcold : Int32) (xf : Nat → Option Nat) (K : Int32 × Int32 × Int32 → Option (Nat ⊕ (Int32 × Int32))) (x1 : Int32) (x2 : Int32) (xtime : Int32) : Option (Nat ⊕ (Int32 × Int32)) :=
  if x1 ≤ x2 then some (.inr (xtime, xtime)) else (fn_Math_floorMod N (xtime + 1) 1440).bind (fun ur4 => if gx_inb 0 4 = true then if gx_inb 1 4 = true then if gx_inb 2 4 = true then if gx_inb 3 4 = true then K (x1, x2 + 1, xtime + 1) else none else none else none else none)
def st_TL_run (N : Nat) (xn : Int32) (xcold : Int32) (xf : Nat → Option Nat) (K : Int32 × Int32 × Int32 → Option (Nat ⊕ (Int32 × Int32))) (z : Int32 × Int32 × Int32) : Option (Nat ⊕ (Int32 × Int32)) := match z with
  | (x1, x2, xtime) => bk_TL_run_32 N xn xcold xf K x1 x2 xtime
def fn_TL_run (N : Nat) (p1 : Int32) (xn : Int32) (xcold : Int32) (xtime : Int32) (xf : Nat → Option Nat) : Option (Nat ⊕ (Int32 × Int32)) :=
  gx_then (fn_TL_requireWithin N p1 1 300) (fun ur1 => if (xtime + p1) ≤ 5000 then gx_fx (st_TL_run N xn xcold xf) N (p1, 0, xtime) else some (.inl 2))
def w_TL_run : List Cond := .code y_TL_run b_TL_run 6 (some .int) :: gx_W
set_option maxHeartbeats 4000000 in
set_option maxRecDepth 100000 in
theorem c_TL_run (N : Nat) (l : Launch) (dC : Nat → ClassId) (dI : Nat → Nat → Nat) (h0 : Nat) (ta : Nat) (kt : ClassId) (wr : va_W) (sz : Nat) (xn : Int32) (xcold : Int32) (xtime : Int32) (xf : Nat → Option Nat) (p1 : Int32) (hkn0 : xf (0 : Int32).toNatClampNeg = none) (hkn1 : xf (1 : Int32).toNatClampNeg = none) (hkn2 : xf (2 : Int32).toNatClampNeg = none) (hkn3 : xf (3 : Int32).toNatClampNeg = none) (res : Int32 × Int32) (h : fn_TL_run N p1 xn xcold xtime xf = some (.inr res)) : Met l y_TL_run w_TL_run ({ frames := 1, cells := 0, slots := 0, locals := 22 } : Room) (va_Pc [.ref h0, .int p1] (fun U => U.heap.size = sz ∧ va_P (dC, dI) classes ((h0, .inr (0, [.ref ta, .int xn, .int xcold, .int xtime])) :: (ta, .inl (kt, 4, .inr (.inr (.inr (.inr xf))))) :: wr) U.heap ∧ va_K (dC, dI) classes [(kt, .object R_Tank)] U ∧ va_D (fun _ => True) ((h0, .inr (0, [.ref ta, .int xn, .int xcold, .int xtime])) :: (ta, .inl (kt, 4, .inr (.inr (.inr (.inr xf))))) :: wr) ∧ gx_E U)) (va_Qi (fun (r : Int32) (_ : Unit) => r = res.1) (fun _ t => va_P (dC, dI) classes ((h0, .inr (0, [.ref ta, .int xn, .int xcold, .int res.2])) :: (ta, .inl (kt, 4, .inr (.inr (.inr (.inr xf))))) :: wr) t.heap ∧ va_K (dC, dI) classes [(kt, .object R_Tank)] t ∧ va_D (va_A ((h0, .inr (0, [.ref ta, .int xn, .int xcold, .int xtime])) :: (ta, .inl (kt, 4, .inr (.inr (.inr (.inr xf))))) :: wr) sz) ((h0, .inr (0, [.ref ta, .int xn, .int xcold, .int res.2])) :: (ta, .inl (kt, 4, .inr (.inr (.inr (.inr xf))))) :: wr)) (va_A ((h0, .inr (0, [.ref ta, .int xn, .int xcold, .int xtime])) :: (ta, .inl (kt, 4, .inr (.inr (.inr (.inr xf))))) :: wr) sz)) 0 0 (va_A ((h0, .inr (0, [.ref ta, .int xn, .int xcold, .int xtime])) :: (ta, .inl (kt, 4, .inr (.inr (.inr (.inr xf))))) :: wr) sz) := by
  refine Met.ofW (cc := b_TL_run) (maxL := 6) (ret := (some .int)) (by decide) rfl ?_
  intro p e s m args below meth c s₁ B hml hv
  obtain ⟨rfl, hsz, hP, hK, hD0, hE⟩ := hv
  have hx := B.exec
  have hb := B.bytes
  have hr := B.returns
  have hts := atoms_spec (ws := w_TL_run) B.pre
  have hown : s.vm.findClass R_TL = some m.cls := findClass_of_methodNamed B.named
  have hlocks := B.notSynchronized
  subst hsz
  have hD := hD0.self (sz := s.heap.size)
  generalize hAe : va_A ((h0, .inr (0, [.ref ta, .int xn, .int xcold, .int xtime])) :: (ta, .inl (kt, 4, .inr (.inr (.inr (.inr xf))))) :: wr) s.heap.size = A at hD ⊢
  have hA : ∀ q : Nat, s.heap.size ≤ q → A q := fun q h => by rw [← hAe]; exact Or.inr h
  clear hAe hD0
  have loop : ∀ n : Nat, (∀ (x1 : Int32) (x2 : Int32) (xtime : Int32), gx_fx (st_TL_run N xn xcold xf) n (x1, x2, xtime) = some (.inr res) → ∀ (H : Heap) (locs : List Loc), va_P (dC, dI) classes ((h0, .inr (0, [.ref ta, .int xn, .int xcold, .int xtime])) :: (ta, .inl (kt, 4, .inr (.inr (.inr (.inr xf))))) :: wr) H → va_D A ((h0, .inr (0, [.ref ta, .int xn, .int xcold, .int xtime])) :: (ta, .inl (kt, 4, .inr (.inr (.inr (.inr xf))))) :: wr) → va_S A s.heap H locs → ∀ (ls : Array Slot), lv_has ls 6 [(0, .ref h0), (1, .int x1), (2, .int x2)] → W p l e ({ frames := 1, cells := 0, slots := 0, locals := 22 } : Room) s m ([.ref h0, .int p1] : List Value).toArray below meth c H locs 0 0 (MQ below (va_Qi (fun (r : Int32) (_ : Unit) => r = res.1) (fun _ t => va_P (dC, dI) classes ((h0, .inr (0, [.ref ta, .int xn, .int xcold, .int res.2])) :: (ta, .inl (kt, 4, .inr (.inr (.inr (.inr xf))))) :: wr) t.heap ∧ va_K (dC, dI) classes [(kt, .object R_Tank)] t ∧ va_D A ((h0, .inr (0, [.ref ta, .int xn, .int xcold, .int res.2])) :: (ta, .inl (kt, 4, .inr (.inr (.inr (.inr xf))))) :: wr)) A) ([.ref h0, .int p1] : List Value).toArray s 0 0 A) (F0 m 32 ls [])) := by
    intro n
    induction n with
    | zero => exact fun _ _ _ h => gx_fx0 h
    | succ n ih =>
        intro x1 x2 xtime h H locs hP hD hS ls hl
        replace h : bk_TL_run_32 N xn xcold xf (gx_fx (st_TL_run N xn xcold xf) n) x1 x2 xtime = some (.inr res) := h
        unfold bk_TL_run_32 at h
        refine lv_iload_n hx hb d_TL_run_32 rfl (lv_at hl 2 rfl) ?_
        refine lv_iload_n hx hb d_TL_run_33 rfl (lv_at hl 1 rfl) ?_
        refine lv_icmp_ge (tgt := 107) hx hb d_TL_run_34 (by decide) (fun c3 => ?_) (fun c3 => ?_)
        · replace h := gx_pos c3 h
          refine lv_aload_n hx hb d_TL_run_107 rfl (lv_at hl 0 rfl) ?_
          refine va_get (D := (dC, dI)) (ci := 0) (v := .int xtime) (C := R_TL) (T := F_TL) (N := 4) hx hb hts (gx_in i_TL) hown hK hP 0 rfl rfl 3 (by decide) (hts _ (gx_w mw_50)) (fun _ h9 => h9) rfl d_TL_run_108 ?_
          rw [← Sum.inr.inj (Option.some.inj h)]
          have hP9 := hP
          have hD9 := hD
          exact W.iret (v := xtime) hx hb hr (fun t ht hW => ⟨⟨xtime, (), rfl, rfl, ⟨by rw [ht]; exact hP9, va_K.moved hW.alike hK, hD9⟩⟩, hS.F ht⟩) hS.2.2 d_TL_run_111
        · replace h := gx_neg c3 h
          refine lv_aload_n hx hb d_TL_run_37 rfl (lv_at hl 0 rfl) ?_
          refine lv_dup hx hb d_TL_run_38 rfl ?_
          refine va_get (D := (dC, dI)) (ci := 0) (v := .int xtime) (C := R_TL) (T := F_TL) (N := 4) hx hb hts (gx_in i_TL) hown hK hP 0 rfl rfl 3 (by decide) (hts _ (gx_w mw_50)) (fun _ h9 => h9) rfl d_TL_run_39 ?_
          refine lv_iconst (v := 1) hx hb d_TL_run_42 (by decide) ?_
          refine lv_iadd hx hb d_TL_run_43 ?_
          refine va_put (D := (dC, dI)) (ci := 0) (v := .int (xtime + 1)) (ty := .int) (C := R_TL) (T := F_TL) (N := 4) hx hb hts (gx_in i_TL) t_TL t_TL_ok n_TL hown hK hP hD hS 0 rfl rfl 3 (by decide) (hts _ (gx_w mw_50)) (fun _ h9 => h9) rfl (by decide +kernel) rfl rfl (Nat.le_of_ble_eq_true rfl) d_TL_run_44 (fun H locs hP hD hS => ?_)
          have hP : va_P (dC, dI) classes ((h0, .inr (0, [.ref ta, .int xn, .int xcold, .int (xtime + 1)])) :: (ta, .inl (kt, 4, .inr (.inr (.inr (.inr xf))))) :: wr) H := hP
          have hD : va_D A ((h0, .inr (0, [.ref ta, .int xn, .int xcold, .int (xtime + 1)])) :: (ta, .inl (kt, 4, .inr (.inr (.inr (.inr xf))))) :: wr) := hD
          refine lv_aload_n hx hb d_TL_run_47 rfl (lv_at hl 0 rfl) ?_
          refine va_get (D := (dC, dI)) (ci := 0) (v := .int (xtime + 1)) (C := R_TL) (T := F_TL) (N := 4) hx hb hts (gx_in i_TL) hown hK hP 0 rfl rfl 3 (by decide) (hts _ (gx_w mw_50)) (fun _ h9 => h9) rfl d_TL_run_48 ?_
          refine lv_sipush (v := 1440) hx hb d_TL_run_51 (by decide) ?_
          have hPc := hP.sub (ws' := []) [] rfl
          have hDc := hD.sub (ws' := []) [] (by decide) rfl
          have hKc := hK.sub (tys' := []) [] rfl
          have hFc := gx_freeT (wp := [(h0, .inr (0, [.ref ta, .int xn, .int xcold, .int (xtime + 1)])), (ta, .inl (kt, 4, .inr (.inr (.inr (.inr xf)))))]) (wr := wr) (wc := []) hD hS hA [] rfl
          obtain ⟨ur4, hc4, h⟩ := gx_bind h
          refine va_calli (va_runS (As := [.int (xtime + 1), .int 1440]) (rest := []) ⟨hx, hb, hml, hown, hts⟩ (c_Math_floorMod N l dC dI H.size (xtime + 1) 1440 ur4 hc4) (va_cwS 2 hts (gx_gS mw_455 mw_453 mw_454 mw_36) rfl rfl rfl (by decide +kernel) ⟨Nat.le_of_ble_eq_true rfl, Nat.le_of_ble_eq_true rfl⟩) ⟨fun a U g mk q => by obtain ⟨q0, q1, qP, qK, qD, qE⟩ := q; exact ⟨q0, q1, qP, va_K.moved (u := U) (U := U.calling g mk a) (Vm.Alike.refl U.vm) qK, qD, qE.calls⟩, fun U hU hW => ⟨rfl, by rw [hU], by rw [hU]; exact hPc, va_K.moved hW.alike hKc, hDc.weaken (fun _ _ _ _ => trivial), hE.warm hW⟩⟩ rfl rfl hl.1 rfl (lv_room (Nat.le_of_ble_eq_true rfl)) d_TL_run_54 ⟨(Nat.zero_le _), (Nat.zero_le _)⟩) hS (fun q _ h => hFc q h) hFc (fun r4 _ t H locs ht hvm hw hB hz1 hk1 hS => ?_)
          obtain ⟨hP1, hK1, hD1⟩ := hB
          rw [ht] at hP1
          rw [hw]
          replace hP := gx_keep0 hP hk1
          refine lv_istore_n (lv' := [(3, .int ur4), (0, .ref h0), (1, .int x1), (2, .int x2)]) hx hb d_TL_run_57 rfl hl (by decide) rfl (fun ls hl => ?_)
          refine lv_iconst (v := 0) hx hb d_TL_run_58 (by decide) ?_
          refine lv_istore (lv' := [(4, .int 0), (3, .int ur4), (0, .ref h0), (1, .int x1), (2, .int x2)]) hx hb d_TL_run_59 hl (by decide) rfl (fun ls hl => ?_)
          refine lv_iload hx hb d_TL_run_61 (lv_at hl 0 rfl) ?_
          refine lv_aload_n hx hb d_TL_run_63 rfl (lv_at hl 2 rfl) ?_
          refine va_get (D := (dC, dI)) (ci := 0) (v := .ref ta) (C := R_TL) (T := F_TL) (N := 4) hx hb hts (gx_in i_TL) hown hK hP 0 rfl rfl 0 (by decide) (hts _ (gx_w mw_47)) (fun _ h9 => h9) rfl d_TL_run_64 ?_
          refine va_alen hx hb hK hP 1 0 rfl rfl (v := 4) rfl d_TL_run_67 ?_
          refine lv_icmp_ge (tgt := 101) hx hb d_TL_run_68 (by decide) (fun c5 => ?_) (fun c5 => ?_)
          · exact absurd c5 (by decide)
          · skip
            refine lv_aload_n hx hb d_TL_run_71 rfl (lv_at hl 2 rfl) ?_
            refine va_get (D := (dC, dI)) (ci := 0) (v := .ref ta) (C := R_TL) (T := F_TL) (N := 4) hx hb hts (gx_in i_TL) hown hK hP 0 rfl rfl 0 (by decide) (hts _ (gx_w mw_47)) (fun _ h9 => h9) rfl d_TL_run_72 ?_
            refine lv_iload hx hb d_TL_run_75 (lv_at hl 0 rfl) ?_
            obtain ⟨hi6, h⟩ := gx_inb_of h
            refine va_aldq hx hb hK hP 1 0 rfl rfl hi6 d_TL_run_77 ?_
            rw [hkn0]
            refine W.eq (g2 := F0 m _ _ (.null :: _)) rfl ?_
            refine lv_astoreN (lv' := [(5, .null), (4, .int 0), (3, .int ur4), (0, .ref h0), (1, .int x1), (2, .int x2)]) hx hb d_TL_run_78 hl (by decide) rfl (fun ls hl => ?_)
            refine lv_aloadN hx hb d_TL_run_80 (lv_at hl 0 rfl) ?_
            refine lv_ifnullN (tgt := 95) hx hb d_TL_run_82 (by decide) ?_
            refine lv_iinc (v := 1) (lv' := [(4, .int 1), (5, .null), (3, .int ur4), (0, .ref h0), (1, .int x1), (2, .int x2)]) hx hb d_TL_run_95 hl (k := 1) rfl (by decide) (by decide) rfl (fun ls hl => ?_)
            refine lv_goto (tgt := 61) hx hb d_TL_run_98 (by decide) ?_
            refine lv_iload hx hb d_TL_run_61 (lv_at hl 0 rfl) ?_
            refine lv_aload_n hx hb d_TL_run_63 rfl (lv_at hl 3 rfl) ?_
            refine va_get (D := (dC, dI)) (ci := 0) (v := .ref ta) (C := R_TL) (T := F_TL) (N := 4) hx hb hts (gx_in i_TL) hown hK hP 0 rfl rfl 0 (by decide) (hts _ (gx_w mw_47)) (fun _ h9 => h9) rfl d_TL_run_64 ?_
            refine va_alen hx hb hK hP 1 0 rfl rfl (v := 4) rfl d_TL_run_67 ?_
            refine lv_icmp_ge (tgt := 101) hx hb d_TL_run_68 (by decide) (fun c7 => ?_) (fun c7 => ?_)
            · exact absurd c7 (by decide)
            · skip
              refine lv_aload_n hx hb d_TL_run_71 rfl (lv_at hl 3 rfl) ?_
              refine va_get (D := (dC, dI)) (ci := 0) (v := .ref ta) (C := R_TL) (T := F_TL) (N := 4) hx hb hts (gx_in i_TL) hown hK hP 0 rfl rfl 0 (by decide) (hts _ (gx_w mw_47)) (fun _ h9 => h9) rfl d_TL_run_72 ?_
              refine lv_iload hx hb d_TL_run_75 (lv_at hl 0 rfl) ?_
              obtain ⟨hi8, h⟩ := gx_inb_of h
              refine va_aldq hx hb hK hP 1 0 rfl rfl hi8 d_TL_run_77 ?_
              rw [hkn1]
              refine W.eq (g2 := F0 m _ _ (.null :: _)) rfl ?_
              refine lv_astoreN (lv' := [(5, .null), (4, .int 1), (3, .int ur4), (0, .ref h0), (1, .int x1), (2, .int x2)]) hx hb d_TL_run_78 hl (by decide) rfl (fun ls hl => ?_)
              refine lv_aloadN hx hb d_TL_run_80 (lv_at hl 0 rfl) ?_
              refine lv_ifnullN (tgt := 95) hx hb d_TL_run_82 (by decide) ?_
              refine lv_iinc (v := 2) (lv' := [(4, .int 2), (5, .null), (3, .int ur4), (0, .ref h0), (1, .int x1), (2, .int x2)]) hx hb d_TL_run_95 hl (k := 1) rfl (by decide) (by decide) rfl (fun ls hl => ?_)
              refine lv_goto (tgt := 61) hx hb d_TL_run_98 (by decide) ?_
              refine lv_iload hx hb d_TL_run_61 (lv_at hl 0 rfl) ?_
              refine lv_aload_n hx hb d_TL_run_63 rfl (lv_at hl 3 rfl) ?_
              refine va_get (D := (dC, dI)) (ci := 0) (v := .ref ta) (C := R_TL) (T := F_TL) (N := 4) hx hb hts (gx_in i_TL) hown hK hP 0 rfl rfl 0 (by decide) (hts _ (gx_w mw_47)) (fun _ h9 => h9) rfl d_TL_run_64 ?_
              refine va_alen hx hb hK hP 1 0 rfl rfl (v := 4) rfl d_TL_run_67 ?_
              refine lv_icmp_ge (tgt := 101) hx hb d_TL_run_68 (by decide) (fun c9 => ?_) (fun c9 => ?_)
              · exact absurd c9 (by decide)
              · skip
                refine lv_aload_n hx hb d_TL_run_71 rfl (lv_at hl 3 rfl) ?_
                refine va_get (D := (dC, dI)) (ci := 0) (v := .ref ta) (C := R_TL) (T := F_TL) (N := 4) hx hb hts (gx_in i_TL) hown hK hP 0 rfl rfl 0 (by decide) (hts _ (gx_w mw_47)) (fun _ h9 => h9) rfl d_TL_run_72 ?_
                refine lv_iload hx hb d_TL_run_75 (lv_at hl 0 rfl) ?_
                obtain ⟨hi10, h⟩ := gx_inb_of h
                refine va_aldq hx hb hK hP 1 0 rfl rfl hi10 d_TL_run_77 ?_
                rw [hkn2]
                refine W.eq (g2 := F0 m _ _ (.null :: _)) rfl ?_
                refine lv_astoreN (lv' := [(5, .null), (4, .int 2), (3, .int ur4), (0, .ref h0), (1, .int x1), (2, .int x2)]) hx hb d_TL_run_78 hl (by decide) rfl (fun ls hl => ?_)
                refine lv_aloadN hx hb d_TL_run_80 (lv_at hl 0 rfl) ?_
                refine lv_ifnullN (tgt := 95) hx hb d_TL_run_82 (by decide) ?_
                refine lv_iinc (v := 3) (lv' := [(4, .int 3), (5, .null), (3, .int ur4), (0, .ref h0), (1, .int x1), (2, .int x2)]) hx hb d_TL_run_95 hl (k := 1) rfl (by decide) (by decide) rfl (fun ls hl => ?_)
                refine lv_goto (tgt := 61) hx hb d_TL_run_98 (by decide) ?_
                refine lv_iload hx hb d_TL_run_61 (lv_at hl 0 rfl) ?_
                refine lv_aload_n hx hb d_TL_run_63 rfl (lv_at hl 3 rfl) ?_
                refine va_get (D := (dC, dI)) (ci := 0) (v := .ref ta) (C := R_TL) (T := F_TL) (N := 4) hx hb hts (gx_in i_TL) hown hK hP 0 rfl rfl 0 (by decide) (hts _ (gx_w mw_47)) (fun _ h9 => h9) rfl d_TL_run_64 ?_
                refine va_alen hx hb hK hP 1 0 rfl rfl (v := 4) rfl d_TL_run_67 ?_
                refine lv_icmp_ge (tgt := 101) hx hb d_TL_run_68 (by decide) (fun c11 => ?_) (fun c11 => ?_)
                · exact absurd c11 (by decide)
                · skip
                  refine lv_aload_n hx hb d_TL_run_71 rfl (lv_at hl 3 rfl) ?_
                  refine va_get (D := (dC, dI)) (ci := 0) (v := .ref ta) (C := R_TL) (T := F_TL) (N := 4) hx hb hts (gx_in i_TL) hown hK hP 0 rfl rfl 0 (by decide) (hts _ (gx_w mw_47)) (fun _ h9 => h9) rfl d_TL_run_72 ?_
                  refine lv_iload hx hb d_TL_run_75 (lv_at hl 0 rfl) ?_
                  obtain ⟨hi12, h⟩ := gx_inb_of h
                  refine va_aldq hx hb hK hP 1 0 rfl rfl hi12 d_TL_run_77 ?_
                  rw [hkn3]
                  refine W.eq (g2 := F0 m _ _ (.null :: _)) rfl ?_
                  refine lv_astoreN (lv' := [(5, .null), (4, .int 3), (3, .int ur4), (0, .ref h0), (1, .int x1), (2, .int x2)]) hx hb d_TL_run_78 hl (by decide) rfl (fun ls hl => ?_)
                  refine lv_aloadN hx hb d_TL_run_80 (lv_at hl 0 rfl) ?_
                  refine lv_ifnullN (tgt := 95) hx hb d_TL_run_82 (by decide) ?_
                  refine lv_iinc (v := 4) (lv' := [(4, .int 4), (5, .null), (3, .int ur4), (0, .ref h0), (1, .int x1), (2, .int x2)]) hx hb d_TL_run_95 hl (k := 1) rfl (by decide) (by decide) rfl (fun ls hl => ?_)
                  refine lv_goto (tgt := 61) hx hb d_TL_run_98 (by decide) ?_
                  refine lv_iload hx hb d_TL_run_61 (lv_at hl 0 rfl) ?_
                  refine lv_aload_n hx hb d_TL_run_63 rfl (lv_at hl 3 rfl) ?_
                  refine va_get (D := (dC, dI)) (ci := 0) (v := .ref ta) (C := R_TL) (T := F_TL) (N := 4) hx hb hts (gx_in i_TL) hown hK hP 0 rfl rfl 0 (by decide) (hts _ (gx_w mw_47)) (fun _ h9 => h9) rfl d_TL_run_64 ?_
                  refine va_alen hx hb hK hP 1 0 rfl rfl (v := 4) rfl d_TL_run_67 ?_
                  refine lv_icmp_ge (tgt := 101) hx hb d_TL_run_68 (by decide) (fun c13 => ?_) (fun c13 => ?_)
                  · skip
                    refine lv_iinc (v := x2 + 1) (lv' := [(2, .int (x2 + 1)), (4, .int 4), (5, .null), (3, .int ur4), (0, .ref h0), (1, .int x1)]) hx hb d_TL_run_101 hl (k := 5) rfl rfl (by decide) rfl (fun ls hl => ?_)
                    refine lv_goto (tgt := 32) hx hb d_TL_run_104 (by decide) ?_
                    exact ih x1 (x2 + 1) (xtime + 1) h _ _ hP hD hS ls (lv_sub hl [4, 5, 0] rfl)
                  · exact absurd c13 (by decide)
  have key : ∀ (H : Heap) (locs : List Loc), va_P (dC, dI) classes ((h0, .inr (0, [.ref ta, .int xn, .int xcold, .int xtime])) :: (ta, .inl (kt, 4, .inr (.inr (.inr (.inr xf))))) :: wr) H → va_D A ((h0, .inr (0, [.ref ta, .int xn, .int xcold, .int xtime])) :: (ta, .inl (kt, 4, .inr (.inr (.inr (.inr xf))))) :: wr) → va_S A s.heap H locs → ∀ (ls : Array Slot), lv_has ls 6 [(0, .ref h0), (1, .int p1)] → W p l e ({ frames := 1, cells := 0, slots := 0, locals := 22 } : Room) s m ([.ref h0, .int p1] : List Value).toArray below meth c H locs 0 0 (MQ below (va_Qi (fun (r : Int32) (_ : Unit) => r = res.1) (fun _ t => va_P (dC, dI) classes ((h0, .inr (0, [.ref ta, .int xn, .int xcold, .int res.2])) :: (ta, .inl (kt, 4, .inr (.inr (.inr (.inr xf))))) :: wr) t.heap ∧ va_K (dC, dI) classes [(kt, .object R_Tank)] t ∧ va_D A ((h0, .inr (0, [.ref ta, .int xn, .int xcold, .int res.2])) :: (ta, .inl (kt, 4, .inr (.inr (.inr (.inr xf))))) :: wr)) A) ([.ref h0, .int p1] : List Value).toArray s 0 0 A) (F0 m 0 ls []) := by
    intro H locs hP hD hS ls hl
    unfold fn_TL_run at h
    refine lv_iload_n hx hb d_TL_run_0 rfl (lv_at hl 1 rfl) ?_
    refine lv_iconst (v := 1) hx hb d_TL_run_1 (by decide) ?_
    refine lv_sipush (v := 300) hx hb d_TL_run_2 (by decide) ?_
    have hPc := hP.sub (ws' := []) [] rfl
    have hDc := hD.sub (ws' := []) [] (by decide) rfl
    have hKc := hK.sub (tys' := []) [] rfl
    have hFc := gx_freeT (wp := [(h0, .inr (0, [.ref ta, .int xn, .int xcold, .int xtime])), (ta, .inl (kt, 4, .inr (.inr (.inr (.inr xf)))))]) (wr := wr) (wc := []) hD hS hA [] rfl
    obtain ⟨ur1, hc1, h⟩ := gx_thenR h
    refine va_callv (va_runS (As := [.int p1, .int 1, .int 300]) (rest := []) ⟨hx, hb, hml, hown, hts⟩ (c_TL_requireWithin N l dC dI H.size p1 1 300 ur1 hc1) (va_cwS 3 hts (gx_gS mw_72 mw_70 mw_71 mw_24) rfl rfl rfl (by decide +kernel) ⟨Nat.le_of_ble_eq_true rfl, Nat.le_of_ble_eq_true rfl⟩) ⟨fun a U g mk q => by obtain ⟨q0, q1, qP, qK, qD, qE⟩ := q; exact ⟨q0, q1, qP, va_K.moved (u := U) (U := U.calling g mk a) (Vm.Alike.refl U.vm) qK, qD, qE.calls⟩, fun U hU hW => ⟨rfl, by rw [hU], by rw [hU]; exact hPc, va_K.moved hW.alike hKc, hDc.weaken (fun _ _ _ _ => trivial), hE.warm hW⟩⟩ rfl rfl hl.1 rfl (lv_room (Nat.le_of_ble_eq_true rfl)) d_TL_run_5 ⟨(Nat.zero_le _), (Nat.zero_le _)⟩) hS (fun q _ h => hFc q h) hFc (fun _ t H locs ht hvm hw hB hz1 hk1 hS => ?_)
    obtain ⟨hP1, hK1, hD1⟩ := hB
    rw [ht] at hP1
    replace hP := gx_keep0 hP hk1
    refine lv_aload_n hx hb d_TL_run_8 rfl (lv_at hl 0 rfl) ?_
    refine va_get (D := (dC, dI)) (ci := 0) (v := .int xtime) (C := R_TL) (T := F_TL) (N := 4) hx hb hts (gx_in i_TL) hown hK hP 0 rfl rfl 3 (by decide) (hts _ (gx_w mw_50)) (fun _ h9 => h9) rfl d_TL_run_9 ?_
    refine lv_iload_n hx hb d_TL_run_12 rfl (lv_at hl 1 rfl) ?_
    refine lv_iadd hx hb d_TL_run_13 ?_
    refine lv_sipush (v := 5000) hx hb d_TL_run_14 (by decide) ?_
    refine lv_icmp_le (tgt := 30) hx hb d_TL_run_17 (by decide) (fun c2 => ?_) (fun c2 => ?_)
    · replace h := gx_pos c2 h
      refine lv_iconst (v := 0) hx hb d_TL_run_30 (by decide) ?_
      refine lv_istore_n (lv' := [(2, .int 0), (0, .ref h0), (1, .int p1)]) hx hb d_TL_run_31 rfl hl (by decide) rfl (fun ls hl => ?_)
      exact (loop N) p1 0 xtime h _ _ hP hD hS ls (lv_sub hl [1, 2, 0] rfl)
    · replace h := gx_neg c2 h
      cases h
  have hl := lv_entry ([.ref h0, .int p1]) (n := 6) (Nat.le_of_ble_eq_true rfl)
  rw [lg_entry_eq]
  generalize (lg_sl ([.ref h0, .int p1]) ++ List.replicate (6 - (lg_sl ([.ref h0, .int p1])).length) Slot.unset).toArray = ls at hl ⊢
  exact key _ _ hP hD va_S.rf ls hl
set_option maxHeartbeats 4000000 in
set_option maxRecDepth 100000 in
theorem x_TL_run (N : Nat) (l : Launch) (hlt : l.stackTraces = false) (dC : Nat → ClassId) (dI : Nat → Nat → Nat) (h0 : Nat) (ta : Nat) (kt : ClassId) (wr : va_W) (sz : Nat) (xn : Int32) (xcold : Int32) (xtime : Int32) (xf : Nat → Option Nat) (p1 : Int32) (hkn0 : xf (0 : Int32).toNatClampNeg = none) (hkn1 : xf (1 : Int32).toNatClampNeg = none) (hkn2 : xf (2 : Int32).toNatClampNeg = none) (hkn3 : xf (3 : Int32).toNatClampNeg = none) (ex : Nat) (h : fn_TL_run N p1 xn xcold xtime xf = some (.inl ex)) : vx_Met l y_TL_run w_TL_run ({ frames := 7, cells := 1, slots := 6, locals := 122 } : Room) (va_Pc [.ref h0, .int p1] (fun U => U.heap.size = sz ∧ va_P (dC, dI) classes ((h0, .inr (0, [.ref ta, .int xn, .int xcold, .int xtime])) :: (ta, .inl (kt, 4, .inr (.inr (.inr (.inr xf))))) :: wr) U.heap ∧ va_K (dC, dI) classes [(kt, .object R_Tank)] U ∧ va_D (fun _ => True) ((h0, .inr (0, [.ref ta, .int xn, .int xcold, .int xtime])) :: (ta, .inl (kt, 4, .inr (.inr (.inr (.inr xf))))) :: wr) ∧ gx_E U ∧ gx_X (va_A ((h0, .inr (0, [.ref ta, .int xn, .int xcold, .int xtime])) :: (ta, .inl (kt, 4, .inr (.inr (.inr (.inr xf))))) :: wr) sz) U)) (va_Qi (fun (_ : Int32) (_ : Unit) => False) (fun _ _ => True) (va_A ((h0, .inr (0, [.ref ta, .int xn, .int xcold, .int xtime])) :: (ta, .inl (kt, 4, .inr (.inr (.inr (.inr xf))))) :: wr) sz)) (vx_X (fun _ : Unit => True) (fun E _ t => E = gx_en ex ∧ va_P (dC, dI) classes ((h0, .inr (0, [.ref ta, .int xn, .int xcold, .int xtime])) :: (ta, .inl (kt, 4, .inr (.inr (.inr (.inr xf))))) :: wr) t.heap ∧ va_K (dC, dI) classes [(kt, .object R_Tank)] t ∧ va_D (va_A ((h0, .inr (0, [.ref ta, .int xn, .int xcold, .int xtime])) :: (ta, .inl (kt, 4, .inr (.inr (.inr (.inr xf))))) :: wr) sz) ((h0, .inr (0, [.ref ta, .int xn, .int xcold, .int xtime])) :: (ta, .inl (kt, 4, .inr (.inr (.inr (.inr xf))))) :: wr)) (va_A ((h0, .inr (0, [.ref ta, .int xn, .int xcold, .int xtime])) :: (ta, .inl (kt, 4, .inr (.inr (.inr (.inr xf))))) :: wr) sz)) 1 6 (va_A ((h0, .inr (0, [.ref ta, .int xn, .int xcold, .int xtime])) :: (ta, .inl (kt, 4, .inr (.inr (.inr (.inr xf))))) :: wr) sz) := by
  refine vx_ofW (cc := b_TL_run) (maxL := 6) (ret := (some .int)) (by decide) rfl ?_
  intro p e s m args below meth c s₁ B hml htab hv
  obtain ⟨rfl, hsz, hP, hK, hD0, hE, hXx⟩ := hv
  have hx := B.exec
  have hb := B.bytes
  have hr := B.returns
  have hts := atoms_spec (ws := w_TL_run) B.pre
  have hown : s.vm.findClass R_TL = some m.cls := findClass_of_methodNamed B.named
  have hlocks := B.notSynchronized
  subst hsz
  have hD := hD0.self (sz := s.heap.size)
  generalize hAe : va_A ((h0, .inr (0, [.ref ta, .int xn, .int xcold, .int xtime])) :: (ta, .inl (kt, 4, .inr (.inr (.inr (.inr xf))))) :: wr) s.heap.size = A at hD hXx ⊢
  have hA : ∀ q : Nat, s.heap.size ≤ q → A q := fun q h => by rw [← hAe]; exact Or.inr h
  clear hAe hD0
  have loop : ∀ n : Nat, (∀ (x1 : Int32) (x2 : Int32) (xtime9 : Int32), gx_fx (st_TL_run N xn xcold xf) n (x1, x2, xtime9) = some (.inl ex) → ∀ (H : Heap) (locs : List Loc), va_P (dC, dI) classes ((h0, .inr (0, [.ref ta, .int xn, .int xcold, .int xtime9])) :: (ta, .inl (kt, 4, .inr (.inr (.inr (.inr xf))))) :: wr) H → va_D A ((h0, .inr (0, [.ref ta, .int xn, .int xcold, .int xtime9])) :: (ta, .inl (kt, 4, .inr (.inr (.inr (.inr xf))))) :: wr) → va_S A s.heap H locs → ∀ (ls : Array Slot), lv_has ls 6 [(0, .ref h0), (1, .int x1), (2, .int x2)] → W p l e ({ frames := 7, cells := 1, slots := 6, locals := 122 } : Room) s m ([.ref h0, .int p1] : List Value).toArray below meth c H locs 0 0 (vx_MQ below (va_Qi (fun (_ : Int32) (_ : Unit) => False) (fun _ _ => True) A) (vx_X (fun _ : Unit => True) (fun E _ t => E = gx_en ex ∧ va_P (dC, dI) classes ((h0, .inr (0, [.ref ta, .int xn, .int xcold, .int xtime])) :: (ta, .inl (kt, 4, .inr (.inr (.inr (.inr xf))))) :: wr) t.heap ∧ va_K (dC, dI) classes [(kt, .object R_Tank)] t ∧ va_D A ((h0, .inr (0, [.ref ta, .int xn, .int xcold, .int xtime])) :: (ta, .inl (kt, 4, .inr (.inr (.inr (.inr xf))))) :: wr)) A) ([.ref h0, .int p1] : List Value).toArray s 1 6 A) (F0 m 32 ls [])) := by
    intro n
    induction n with
    | zero => exact fun _ _ _ h => gx_fx0 h
    | succ n ih =>
        intro x1 x2 xtime9 h H locs hP hD hS ls hl
        replace h : bk_TL_run_32 N xn xcold xf (gx_fx (st_TL_run N xn xcold xf) n) x1 x2 xtime9 = some (.inl ex) := h
        unfold bk_TL_run_32 at h
        refine lv_iload_n hx hb d_TL_run_32 rfl (lv_at hl 2 rfl) ?_
        refine lv_iload_n hx hb d_TL_run_33 rfl (lv_at hl 1 rfl) ?_
        refine lv_icmp_ge (tgt := 107) hx hb d_TL_run_34 (by decide) (fun c3 => ?_) (fun c3 => ?_)
        · replace h := gx_pos c3 h
          refine lv_aload_n hx hb d_TL_run_107 rfl (lv_at hl 0 rfl) ?_
          refine va_get (D := (dC, dI)) (ci := 0) (v := .int xtime9) (C := R_TL) (T := F_TL) (N := 4) hx hb hts (gx_in i_TL) hown hK hP 0 rfl rfl 3 (by decide) (hts _ (gx_w mw_50)) (fun _ h9 => h9) rfl d_TL_run_108 ?_
          cases h
        · replace h := gx_neg c3 h
          refine lv_aload_n hx hb d_TL_run_37 rfl (lv_at hl 0 rfl) ?_
          refine lv_dup hx hb d_TL_run_38 rfl ?_
          refine va_get (D := (dC, dI)) (ci := 0) (v := .int xtime9) (C := R_TL) (T := F_TL) (N := 4) hx hb hts (gx_in i_TL) hown hK hP 0 rfl rfl 3 (by decide) (hts _ (gx_w mw_50)) (fun _ h9 => h9) rfl d_TL_run_39 ?_
          refine lv_iconst (v := 1) hx hb d_TL_run_42 (by decide) ?_
          refine lv_iadd hx hb d_TL_run_43 ?_
          refine va_put (D := (dC, dI)) (ci := 0) (v := .int (xtime9 + 1)) (ty := .int) (C := R_TL) (T := F_TL) (N := 4) hx hb hts (gx_in i_TL) t_TL t_TL_ok n_TL hown hK hP hD hS 0 rfl rfl 3 (by decide) (hts _ (gx_w mw_50)) (fun _ h9 => h9) rfl (by decide +kernel) rfl rfl (Nat.le_of_ble_eq_true rfl) d_TL_run_44 (fun H locs hP hD hS => ?_)
          have hP : va_P (dC, dI) classes ((h0, .inr (0, [.ref ta, .int xn, .int xcold, .int (xtime9 + 1)])) :: (ta, .inl (kt, 4, .inr (.inr (.inr (.inr xf))))) :: wr) H := hP
          have hD : va_D A ((h0, .inr (0, [.ref ta, .int xn, .int xcold, .int (xtime9 + 1)])) :: (ta, .inl (kt, 4, .inr (.inr (.inr (.inr xf))))) :: wr) := hD
          refine lv_aload_n hx hb d_TL_run_47 rfl (lv_at hl 0 rfl) ?_
          refine va_get (D := (dC, dI)) (ci := 0) (v := .int (xtime9 + 1)) (C := R_TL) (T := F_TL) (N := 4) hx hb hts (gx_in i_TL) hown hK hP 0 rfl rfl 3 (by decide) (hts _ (gx_w mw_50)) (fun _ h9 => h9) rfl d_TL_run_48 ?_
          refine lv_sipush (v := 1440) hx hb d_TL_run_51 (by decide) ?_
          have hPc := hP.sub (ws' := []) [] rfl
          have hDc := hD.sub (ws' := []) [] (by decide) rfl
          have hKc := hK.sub (tys' := []) [] rfl
          have hFc := gx_freeT (wp := [(h0, .inr (0, [.ref ta, .int xn, .int xcold, .int (xtime9 + 1)])), (ta, .inl (kt, 4, .inr (.inr (.inr (.inr xf)))))]) (wr := wr) (wc := []) hD hS hA [] rfl
          obtain ⟨ur4, hc4, h⟩ := gx_bind h
          refine va_calli (va_runS (As := [.int (xtime9 + 1), .int 1440]) (rest := []) ⟨hx, hb, hml, hown, hts⟩ (c_Math_floorMod N l dC dI H.size (xtime9 + 1) 1440 ur4 hc4) (va_cwS 2 hts (gx_gS mw_455 mw_453 mw_454 mw_36) rfl rfl rfl (by decide +kernel) ⟨Nat.le_of_ble_eq_true rfl, Nat.le_of_ble_eq_true rfl⟩) ⟨fun a U g mk q => by obtain ⟨q0, q1, qP, qK, qD, qE⟩ := q; exact ⟨q0, q1, qP, va_K.moved (u := U) (U := U.calling g mk a) (Vm.Alike.refl U.vm) qK, qD, qE.calls⟩, fun U hU hW => ⟨rfl, by rw [hU], by rw [hU]; exact hPc, va_K.moved hW.alike hKc, hDc.weaken (fun _ _ _ _ => trivial), hE.warm hW⟩⟩ rfl rfl hl.1 rfl (lv_room (Nat.le_of_ble_eq_true rfl)) d_TL_run_54 ⟨(Nat.zero_le _), (Nat.zero_le _)⟩) hS (fun q _ h => hFc q h) hFc (fun r4 _ t H locs ht hvm hw hB hz1 hk1 hS => ?_)
          obtain ⟨hP1, hK1, hD1⟩ := hB
          rw [ht] at hP1
          rw [hw]
          replace hP := gx_keep0 hP hk1
          refine lv_istore_n (lv' := [(3, .int ur4), (0, .ref h0), (1, .int x1), (2, .int x2)]) hx hb d_TL_run_57 rfl hl (by decide) rfl (fun ls hl => ?_)
          refine lv_iconst (v := 0) hx hb d_TL_run_58 (by decide) ?_
          refine lv_istore (lv' := [(4, .int 0), (3, .int ur4), (0, .ref h0), (1, .int x1), (2, .int x2)]) hx hb d_TL_run_59 hl (by decide) rfl (fun ls hl => ?_)
          refine lv_iload hx hb d_TL_run_61 (lv_at hl 0 rfl) ?_
          refine lv_aload_n hx hb d_TL_run_63 rfl (lv_at hl 2 rfl) ?_
          refine va_get (D := (dC, dI)) (ci := 0) (v := .ref ta) (C := R_TL) (T := F_TL) (N := 4) hx hb hts (gx_in i_TL) hown hK hP 0 rfl rfl 0 (by decide) (hts _ (gx_w mw_47)) (fun _ h9 => h9) rfl d_TL_run_64 ?_
          refine va_alen hx hb hK hP 1 0 rfl rfl (v := 4) rfl d_TL_run_67 ?_
          refine lv_icmp_ge (tgt := 101) hx hb d_TL_run_68 (by decide) (fun c5 => ?_) (fun c5 => ?_)
          · exact absurd c5 (by decide)
          · skip
            refine lv_aload_n hx hb d_TL_run_71 rfl (lv_at hl 2 rfl) ?_
            refine va_get (D := (dC, dI)) (ci := 0) (v := .ref ta) (C := R_TL) (T := F_TL) (N := 4) hx hb hts (gx_in i_TL) hown hK hP 0 rfl rfl 0 (by decide) (hts _ (gx_w mw_47)) (fun _ h9 => h9) rfl d_TL_run_72 ?_
            refine lv_iload hx hb d_TL_run_75 (lv_at hl 0 rfl) ?_
            obtain ⟨hi6, h⟩ := gx_inb_of h
            refine va_aldq hx hb hK hP 1 0 rfl rfl hi6 d_TL_run_77 ?_
            rw [hkn0]
            refine W.eq (g2 := F0 m _ _ (.null :: _)) rfl ?_
            refine lv_astoreN (lv' := [(5, .null), (4, .int 0), (3, .int ur4), (0, .ref h0), (1, .int x1), (2, .int x2)]) hx hb d_TL_run_78 hl (by decide) rfl (fun ls hl => ?_)
            refine lv_aloadN hx hb d_TL_run_80 (lv_at hl 0 rfl) ?_
            refine lv_ifnullN (tgt := 95) hx hb d_TL_run_82 (by decide) ?_
            refine lv_iinc (v := 1) (lv' := [(4, .int 1), (5, .null), (3, .int ur4), (0, .ref h0), (1, .int x1), (2, .int x2)]) hx hb d_TL_run_95 hl (k := 1) rfl (by decide) (by decide) rfl (fun ls hl => ?_)
            refine lv_goto (tgt := 61) hx hb d_TL_run_98 (by decide) ?_
            refine lv_iload hx hb d_TL_run_61 (lv_at hl 0 rfl) ?_
            refine lv_aload_n hx hb d_TL_run_63 rfl (lv_at hl 3 rfl) ?_
            refine va_get (D := (dC, dI)) (ci := 0) (v := .ref ta) (C := R_TL) (T := F_TL) (N := 4) hx hb hts (gx_in i_TL) hown hK hP 0 rfl rfl 0 (by decide) (hts _ (gx_w mw_47)) (fun _ h9 => h9) rfl d_TL_run_64 ?_
            refine va_alen hx hb hK hP 1 0 rfl rfl (v := 4) rfl d_TL_run_67 ?_
            refine lv_icmp_ge (tgt := 101) hx hb d_TL_run_68 (by decide) (fun c7 => ?_) (fun c7 => ?_)
            · exact absurd c7 (by decide)
            · skip
              refine lv_aload_n hx hb d_TL_run_71 rfl (lv_at hl 3 rfl) ?_
              refine va_get (D := (dC, dI)) (ci := 0) (v := .ref ta) (C := R_TL) (T := F_TL) (N := 4) hx hb hts (gx_in i_TL) hown hK hP 0 rfl rfl 0 (by decide) (hts _ (gx_w mw_47)) (fun _ h9 => h9) rfl d_TL_run_72 ?_
              refine lv_iload hx hb d_TL_run_75 (lv_at hl 0 rfl) ?_
              obtain ⟨hi8, h⟩ := gx_inb_of h
              refine va_aldq hx hb hK hP 1 0 rfl rfl hi8 d_TL_run_77 ?_
              rw [hkn1]
              refine W.eq (g2 := F0 m _ _ (.null :: _)) rfl ?_
              refine lv_astoreN (lv' := [(5, .null), (4, .int 1), (3, .int ur4), (0, .ref h0), (1, .int x1), (2, .int x2)]) hx hb d_TL_run_78 hl (by decide) rfl (fun ls hl => ?_)
              refine lv_aloadN hx hb d_TL_run_80 (lv_at hl 0 rfl) ?_
              refine lv_ifnullN (tgt := 95) hx hb d_TL_run_82 (by decide) ?_
              refine lv_iinc (v := 2) (lv' := [(4, .int 2), (5, .null), (3, .int ur4), (0, .ref h0), (1, .int x1), (2, .int x2)]) hx hb d_TL_run_95 hl (k := 1) rfl (by decide) (by decide) rfl (fun ls hl => ?_)
              refine lv_goto (tgt := 61) hx hb d_TL_run_98 (by decide) ?_
              refine lv_iload hx hb d_TL_run_61 (lv_at hl 0 rfl) ?_
              refine lv_aload_n hx hb d_TL_run_63 rfl (lv_at hl 3 rfl) ?_
              refine va_get (D := (dC, dI)) (ci := 0) (v := .ref ta) (C := R_TL) (T := F_TL) (N := 4) hx hb hts (gx_in i_TL) hown hK hP 0 rfl rfl 0 (by decide) (hts _ (gx_w mw_47)) (fun _ h9 => h9) rfl d_TL_run_64 ?_
              refine va_alen hx hb hK hP 1 0 rfl rfl (v := 4) rfl d_TL_run_67 ?_
              refine lv_icmp_ge (tgt := 101) hx hb d_TL_run_68 (by decide) (fun c9 => ?_) (fun c9 => ?_)
              · exact absurd c9 (by decide)
              · skip
                refine lv_aload_n hx hb d_TL_run_71 rfl (lv_at hl 3 rfl) ?_
                refine va_get (D := (dC, dI)) (ci := 0) (v := .ref ta) (C := R_TL) (T := F_TL) (N := 4) hx hb hts (gx_in i_TL) hown hK hP 0 rfl rfl 0 (by decide) (hts _ (gx_w mw_47)) (fun _ h9 => h9) rfl d_TL_run_72 ?_
                refine lv_iload hx hb d_TL_run_75 (lv_at hl 0 rfl) ?_
                obtain ⟨hi10, h⟩ := gx_inb_of h
                refine va_aldq hx hb hK hP 1 0 rfl rfl hi10 d_TL_run_77 ?_
                rw [hkn2]
                refine W.eq (g2 := F0 m _ _ (.null :: _)) rfl ?_
                refine lv_astoreN (lv' := [(5, .null), (4, .int 2), (3, .int ur4), (0, .ref h0), (1, .int x1), (2, .int x2)]) hx hb d_TL_run_78 hl (by decide) rfl (fun ls hl => ?_)
                refine lv_aloadN hx hb d_TL_run_80 (lv_at hl 0 rfl) ?_
                refine lv_ifnullN (tgt := 95) hx hb d_TL_run_82 (by decide) ?_
                refine lv_iinc (v := 3) (lv' := [(4, .int 3), (5, .null), (3, .int ur4), (0, .ref h0), (1, .int x1), (2, .int x2)]) hx hb d_TL_run_95 hl (k := 1) rfl (by decide) (by decide) rfl (fun ls hl => ?_)
                refine lv_goto (tgt := 61) hx hb d_TL_run_98 (by decide) ?_
                refine lv_iload hx hb d_TL_run_61 (lv_at hl 0 rfl) ?_
                refine lv_aload_n hx hb d_TL_run_63 rfl (lv_at hl 3 rfl) ?_
                refine va_get (D := (dC, dI)) (ci := 0) (v := .ref ta) (C := R_TL) (T := F_TL) (N := 4) hx hb hts (gx_in i_TL) hown hK hP 0 rfl rfl 0 (by decide) (hts _ (gx_w mw_47)) (fun _ h9 => h9) rfl d_TL_run_64 ?_
                refine va_alen hx hb hK hP 1 0 rfl rfl (v := 4) rfl d_TL_run_67 ?_
                refine lv_icmp_ge (tgt := 101) hx hb d_TL_run_68 (by decide) (fun c11 => ?_) (fun c11 => ?_)
                · exact absurd c11 (by decide)
                · skip
                  refine lv_aload_n hx hb d_TL_run_71 rfl (lv_at hl 3 rfl) ?_
                  refine va_get (D := (dC, dI)) (ci := 0) (v := .ref ta) (C := R_TL) (T := F_TL) (N := 4) hx hb hts (gx_in i_TL) hown hK hP 0 rfl rfl 0 (by decide) (hts _ (gx_w mw_47)) (fun _ h9 => h9) rfl d_TL_run_72 ?_
                  refine lv_iload hx hb d_TL_run_75 (lv_at hl 0 rfl) ?_
                  obtain ⟨hi12, h⟩ := gx_inb_of h
                  refine va_aldq hx hb hK hP 1 0 rfl rfl hi12 d_TL_run_77 ?_
                  rw [hkn3]
                  refine W.eq (g2 := F0 m _ _ (.null :: _)) rfl ?_
                  refine lv_astoreN (lv' := [(5, .null), (4, .int 3), (3, .int ur4), (0, .ref h0), (1, .int x1), (2, .int x2)]) hx hb d_TL_run_78 hl (by decide) rfl (fun ls hl => ?_)
                  refine lv_aloadN hx hb d_TL_run_80 (lv_at hl 0 rfl) ?_
                  refine lv_ifnullN (tgt := 95) hx hb d_TL_run_82 (by decide) ?_
                  refine lv_iinc (v := 4) (lv' := [(4, .int 4), (5, .null), (3, .int ur4), (0, .ref h0), (1, .int x1), (2, .int x2)]) hx hb d_TL_run_95 hl (k := 1) rfl (by decide) (by decide) rfl (fun ls hl => ?_)
                  refine lv_goto (tgt := 61) hx hb d_TL_run_98 (by decide) ?_
                  refine lv_iload hx hb d_TL_run_61 (lv_at hl 0 rfl) ?_
                  refine lv_aload_n hx hb d_TL_run_63 rfl (lv_at hl 3 rfl) ?_
                  refine va_get (D := (dC, dI)) (ci := 0) (v := .ref ta) (C := R_TL) (T := F_TL) (N := 4) hx hb hts (gx_in i_TL) hown hK hP 0 rfl rfl 0 (by decide) (hts _ (gx_w mw_47)) (fun _ h9 => h9) rfl d_TL_run_64 ?_
                  refine va_alen hx hb hK hP 1 0 rfl rfl (v := 4) rfl d_TL_run_67 ?_
                  refine lv_icmp_ge (tgt := 101) hx hb d_TL_run_68 (by decide) (fun c13 => ?_) (fun c13 => ?_)
                  · skip
                    refine lv_iinc (v := x2 + 1) (lv' := [(2, .int (x2 + 1)), (4, .int 4), (5, .null), (3, .int ur4), (0, .ref h0), (1, .int x1)]) hx hb d_TL_run_101 hl (k := 5) rfl rfl (by decide) rfl (fun ls hl => ?_)
                    refine lv_goto (tgt := 32) hx hb d_TL_run_104 (by decide) ?_
                    exact ih x1 (x2 + 1) (xtime9 + 1) h _ _ hP hD hS ls (lv_sub hl [4, 5, 0] rfl)
                  · exact absurd c13 (by decide)
  have key : ∀ (H : Heap) (locs : List Loc), va_P (dC, dI) classes ((h0, .inr (0, [.ref ta, .int xn, .int xcold, .int xtime])) :: (ta, .inl (kt, 4, .inr (.inr (.inr (.inr xf))))) :: wr) H → va_D A ((h0, .inr (0, [.ref ta, .int xn, .int xcold, .int xtime])) :: (ta, .inl (kt, 4, .inr (.inr (.inr (.inr xf))))) :: wr) → va_S A s.heap H locs → ∀ (ls : Array Slot), lv_has ls 6 [(0, .ref h0), (1, .int p1)] → W p l e ({ frames := 7, cells := 1, slots := 6, locals := 122 } : Room) s m ([.ref h0, .int p1] : List Value).toArray below meth c H locs 0 0 (vx_MQ below (va_Qi (fun (_ : Int32) (_ : Unit) => False) (fun _ _ => True) A) (vx_X (fun _ : Unit => True) (fun E _ t => E = gx_en ex ∧ va_P (dC, dI) classes ((h0, .inr (0, [.ref ta, .int xn, .int xcold, .int xtime])) :: (ta, .inl (kt, 4, .inr (.inr (.inr (.inr xf))))) :: wr) t.heap ∧ va_K (dC, dI) classes [(kt, .object R_Tank)] t ∧ va_D A ((h0, .inr (0, [.ref ta, .int xn, .int xcold, .int xtime])) :: (ta, .inl (kt, 4, .inr (.inr (.inr (.inr xf))))) :: wr)) A) ([.ref h0, .int p1] : List Value).toArray s 1 6 A) (F0 m 0 ls []) := by
    intro H locs hP hD hS ls hl
    unfold fn_TL_run at h
    refine lv_iload_n hx hb d_TL_run_0 rfl (lv_at hl 1 rfl) ?_
    refine lv_iconst (v := 1) hx hb d_TL_run_1 (by decide) ?_
    refine lv_sipush (v := 300) hx hb d_TL_run_2 (by decide) ?_
    have hPc := hP.sub (ws' := []) [] rfl
    have hDc := hD.sub (ws' := []) [] (by decide) rfl
    have hKc := hK.sub (tys' := []) [] rfl
    have hFc := gx_freeT (wp := [(h0, .inr (0, [.ref ta, .int xn, .int xcold, .int xtime])), (ta, .inl (kt, 4, .inr (.inr (.inr (.inr xf)))))]) (wr := wr) (wc := []) hD hS hA [] rfl
    rcases gx_thenL h with hc1 | ⟨ur1, hc1, h⟩
    · skip
      refine gx_callx (vx_runS (As := [.int p1, .int 1, .int 300]) (rest := []) ⟨hx, hb, hml, hown, hts⟩ (x_TL_requireWithin N l hlt dC dI H.size p1 1 300 ex hc1) (va_cwS 3 hts (gx_gS mw_72 mw_70 mw_71 mw_24) rfl rfl rfl (by decide +kernel) ⟨Nat.le_of_ble_eq_true rfl, Nat.le_of_ble_eq_true rfl⟩) ⟨fun a U g mk q => by obtain ⟨q0, q1, qP, qK, qD, qE, qX⟩ := q; exact ⟨q0, q1, qP, va_K.moved (u := U) (U := U.calling g mk a) (Vm.Alike.refl U.vm) qK, qD, qE.calls, qX.calls⟩, fun U hU hW => ⟨rfl, by rw [hU], by rw [hU]; exact hPc, va_K.moved hW.alike hKc, hDc.weaken (fun _ _ _ _ => trivial), hE.warm hW, hXx.pass hS hU hW hFc⟩⟩ rfl rfl hl.1 rfl (lv_room (Nat.le_of_ble_eq_true rfl)) d_TL_run_5 ⟨Nat.le_of_ble_eq_true rfl, Nat.le_of_ble_eq_true rfl⟩) (fun st o t h => by obtain ⟨q, -⟩ := h; obtain ⟨_, _, q, _⟩ := q; exact q.elim) hS hFc (fun q _ h => hFc q h) (fun E ce q9 _ t H locs ht hvm hw hB hz1 hk1 hS hce hcv hcl => ?_)
      obtain ⟨hE1, hP1, hK1, hD1⟩ := hB
      rw [ht] at hP1
      replace hP := gx_keep0 hP hk1
      have hP9 := hP
      have hD9 := hD
      exact vx_out (fun x hx => (htab x hx).elim) hlocks hce hcv hcl (fun t ht hvm => ⟨(), trivial, ⟨hE1, by rw [ht]; exact hP9, va_K.moved hvm hK, hD9⟩, hS.F ht⟩) hS.2.2 (Nat.le_of_ble_eq_true rfl) (Nat.le_of_ble_eq_true rfl)
    · skip
      refine va_callv (va_runS (As := [.int p1, .int 1, .int 300]) (rest := []) ⟨hx, hb, hml, hown, hts⟩ (c_TL_requireWithin N l dC dI H.size p1 1 300 ur1 hc1) (va_cwS 3 hts (gx_gS mw_72 mw_70 mw_71 mw_24) rfl rfl rfl (by decide +kernel) ⟨Nat.le_of_ble_eq_true rfl, Nat.le_of_ble_eq_true rfl⟩) ⟨fun a U g mk q => by obtain ⟨q0, q1, qP, qK, qD, qE⟩ := q; exact ⟨q0, q1, qP, va_K.moved (u := U) (U := U.calling g mk a) (Vm.Alike.refl U.vm) qK, qD, qE.calls⟩, fun U hU hW => ⟨rfl, by rw [hU], by rw [hU]; exact hPc, va_K.moved hW.alike hKc, hDc.weaken (fun _ _ _ _ => trivial), hE.warm hW⟩⟩ rfl rfl hl.1 rfl (lv_room (Nat.le_of_ble_eq_true rfl)) d_TL_run_5 ⟨(Nat.zero_le _), (Nat.zero_le _)⟩) hS (fun q _ h => hFc q h) hFc (fun _ t H locs ht hvm hw hB hz1 hk1 hS => ?_)
      obtain ⟨hP1, hK1, hD1⟩ := hB
      rw [ht] at hP1
      replace hP := gx_keep0 hP hk1
      refine lv_aload_n hx hb d_TL_run_8 rfl (lv_at hl 0 rfl) ?_
      refine va_get (D := (dC, dI)) (ci := 0) (v := .int xtime) (C := R_TL) (T := F_TL) (N := 4) hx hb hts (gx_in i_TL) hown hK hP 0 rfl rfl 3 (by decide) (hts _ (gx_w mw_50)) (fun _ h9 => h9) rfl d_TL_run_9 ?_
      refine lv_iload_n hx hb d_TL_run_12 rfl (lv_at hl 1 rfl) ?_
      refine lv_iadd hx hb d_TL_run_13 ?_
      refine lv_sipush (v := 5000) hx hb d_TL_run_14 (by decide) ?_
      refine lv_icmp_le (tgt := 30) hx hb d_TL_run_17 (by decide) (fun c2 => ?_) (fun c2 => ?_)
      · replace h := gx_pos c2 h
        refine lv_iconst (v := 0) hx hb d_TL_run_30 (by decide) ?_
        refine lv_istore_n (lv' := [(2, .int 0), (0, .ref h0), (1, .int p1)]) hx hb d_TL_run_31 rfl hl (by decide) rfl (fun ls hl => ?_)
        exact (loop N) p1 0 xtime h _ _ hP hD hS ls (lv_sub hl [1, 2, 0] rfl)
      · replace h := gx_neg c2 h
        obtain ⟨sa, hsa⟩ := hXx.2.2.2 (144, "the time would be above 5000") (List.mem_of_getElem? (i := 7) rfl)
        refine vx_throwS (cls := "java/lang/IllegalStateException") (names := gx_up) (ik := 34) (is := 144) (ic := 38) hx hb hlt hown (by decide +kernel) (by decide +kernel) (hts _ (gx_w mw_144)) (hts _ (gx_w mw_30)) hsa (vx_hat (fun w hw => hts w (gx_w (xa_38_a w hw))) xa_38_b (fun w hw => va_Nw.use (gx_Bt w hw) (hXx.1 w hw))) xa_38_c hXx.2.1 hXx.2.2.1 hS (hl.1.trans hml.symm) d_TL_run_20 d_TL_run_23 d_TL_run_24 d_TL_run_26 d_TL_run_29 (fun x hx => (htab x hx).elim) (Nat.le_of_ble_eq_true rfl) (Nat.le_of_ble_eq_true rfl) (Nat.le_of_ble_eq_true rfl) (Nat.le_of_ble_eq_true rfl) hlocks ?_ hS.2.2 (Nat.le_of_ble_eq_true rfl) (Nat.le_of_ble_eq_true rfl)
        intro t hvm hz hk
        have hP9 := hP
        have hD9 := hD
        obtain ⟨q1, q2⟩ := gx_thrown hP9 hK hD9 hS hvm hz hk
        exact ⟨(), trivial, ⟨by cases h; rfl, q1⟩, q2⟩
  have hl := lv_entry ([.ref h0, .int p1]) (n := 6) (Nat.le_of_ble_eq_true rfl)
  rw [lg_entry_eq]
  generalize (lg_sl ([.ref h0, .int p1]) ++ List.replicate (6 - (lg_sl ([.ref h0, .int p1])).length) Slot.unset).toArray = ls at hl ⊢
  exact key _ _ hP hD va_S.rf ls hl
