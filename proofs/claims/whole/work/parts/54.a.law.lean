theorem mw_451 : (Cond.code y_TL_run b_TL_run 6 (some .int)) ∈ gx_W := List.mem_filter.mpr ⟨List.mem_of_getElem? (i := 451) (by decide +kernel), by decide +kernel⟩
theorem mw_448 : (Cond.methodLink R_law 45 y_TL_run) ∈ gx_W := List.mem_filter.mpr ⟨List.mem_of_getElem? (i := 448) (by decide +kernel), by decide +kernel⟩
theorem mw_449 : (Cond.instanceMethod y_TL_run) ∈ gx_W := List.mem_filter.mpr ⟨List.mem_of_getElem? (i := 449) (by decide +kernel), by decide +kernel⟩
theorem mw_450 : (Cond.selects R_TL y_TL_run y_TL_run) ∈ gx_W := List.mem_filter.mpr ⟨List.mem_of_getElem? (i := 450) (by decide +kernel), by decide +kernel⟩
theorem d_law_run_0 : decode b_law_run 0 = .ok (.aload_n 2, 1) := by decide +kernel
theorem d_law_run_1 : decode b_law_run 1 = .ok (.iconst 0, 1) := by decide +kernel
theorem d_law_run_2 : decode b_law_run 2 = .ok (.aload_n 0, 1) := by decide +kernel
theorem d_law_run_3 : decode b_law_run 3 = .ok (.iload_n 1, 1) := by decide +kernel
theorem d_law_run_4 : decode b_law_run 4 = .ok (.invokevirtual 45, 3) := by decide +kernel
theorem d_law_run_7 : decode b_law_run 7 = .ok (.i2l, 1) := by decide +kernel
theorem d_law_run_8 : decode b_law_run 8 = .ok (.lastore, 1) := by decide +kernel
theorem d_law_run_9 : decode b_law_run 9 = .ok (.goto 9, 3) := by decide +kernel
theorem d_law_run_12 : decode b_law_run 12 = .ok (.astore_n 3, 1) := by decide +kernel
theorem d_law_run_13 : decode b_law_run 13 = .ok (.iconst 1, 1) := by decide +kernel
theorem d_law_run_14 : decode b_law_run 14 = .ok (.ireturn, 1) := by decide +kernel
theorem d_law_run_15 : decode b_law_run 15 = .ok (.astore_n 3, 1) := by decide +kernel
theorem d_law_run_16 : decode b_law_run 16 = .ok (.iconst 2, 1) := by decide +kernel
theorem d_law_run_17 : decode b_law_run 17 = .ok (.ireturn, 1) := by decide +kernel
theorem d_law_run_18 : decode b_law_run 18 = .ok (.iconst 0, 1) := by decide +kernel
theorem d_law_run_19 : decode b_law_run 19 = .ok (.ireturn, 1) := by decide +kernel
def fn_law_run (N : Nat) (p1 : Int32) (xn : Int32) (xcold : Int32) (xtime : Int32) (xf : Nat → Option Nat) (of : Nat → Int64) : Option (Int32 × Int32 × (Nat → Int64)) :=
  gx_inr (fn_TL_run N p1 xn xcold xtime xf) (fun ur1 => if gx_inb 0 1 = true then some (0, ur1.2, vp_updL of (0 : Int32).toNatClampNeg ur1.1.toInt64) else none)
def w_law_run : List Cond := .codeWith y_law_run b_law_run 4 (some .int) [(0, 9, 12, 13), (0, 9, 15, 15)] :: gx_W
set_option maxHeartbeats 4000000 in
set_option maxRecDepth 100000 in
theorem c_law_run (N : Nat) (l : Launch) (dC : Nat → ClassId) (dI : Nat → Nat → Nat) (h0 : Nat) (ta : Nat) (o1 : Nat) (kt : ClassId) (ko : ClassId) (wr : va_W) (sz : Nat) (xn : Int32) (xcold : Int32) (xtime : Int32) (xf : Nat → Option Nat) (of : Nat → Int64) (h0 : Nat) (p1 : Int32) (o1 : Nat) (hkn0 : xf (0 : Int32).toNatClampNeg = none) (hkn1 : xf (1 : Int32).toNatClampNeg = none) (hkn2 : xf (2 : Int32).toNatClampNeg = none) (hkn3 : xf (3 : Int32).toNatClampNeg = none) (res : Int32 × Int32 × (Nat → Int64)) (h : fn_law_run N p1 xn xcold xtime xf of = some res) : Met l y_law_run w_law_run ({ frames := 2, cells := 0, slots := 0, locals := 47 } : Room) (va_Pc [.ref h0, .int p1, .ref o1] (fun U => U.heap.size = sz ∧ va_P (dC, dI) classes ((h0, .inr (0, [.ref ta, .int xn, .int xcold, .int xtime])) :: (ta, .inl (kt, 4, .inr (.inr (.inr (.inr xf))))) :: (o1, .inl (ko, 1, .inr (.inl of))) :: wr) U.heap ∧ va_K (dC, dI) classes [(kt, .object R_Tank), (ko, .long)] U ∧ va_D (fun _ => True) ((h0, .inr (0, [.ref ta, .int xn, .int xcold, .int xtime])) :: (ta, .inl (kt, 4, .inr (.inr (.inr (.inr xf))))) :: (o1, .inl (ko, 1, .inr (.inl of))) :: wr) ∧ gx_E U)) (va_Qi (fun (r : Int32) (_ : Unit) => r = res.1) (fun _ t => va_P (dC, dI) classes ((h0, .inr (0, [.ref ta, .int xn, .int xcold, .int res.2.1])) :: (ta, .inl (kt, 4, .inr (.inr (.inr (.inr xf))))) :: (o1, .inl (ko, 1, .inr (.inl res.2.2))) :: wr) t.heap ∧ va_K (dC, dI) classes [(kt, .object R_Tank), (ko, .long)] t ∧ va_D (va_A ((h0, .inr (0, [.ref ta, .int xn, .int xcold, .int xtime])) :: (ta, .inl (kt, 4, .inr (.inr (.inr (.inr xf))))) :: (o1, .inl (ko, 1, .inr (.inl of))) :: wr) sz) ((h0, .inr (0, [.ref ta, .int xn, .int xcold, .int res.2.1])) :: (ta, .inl (kt, 4, .inr (.inr (.inr (.inr xf))))) :: (o1, .inl (ko, 1, .inr (.inl res.2.2))) :: wr)) (va_A ((h0, .inr (0, [.ref ta, .int xn, .int xcold, .int xtime])) :: (ta, .inl (kt, 4, .inr (.inr (.inr (.inr xf))))) :: (o1, .inl (ko, 1, .inr (.inl of))) :: wr) sz)) 0 0 (va_A ((h0, .inr (0, [.ref ta, .int xn, .int xcold, .int xtime])) :: (ta, .inl (kt, 4, .inr (.inr (.inr (.inr xf))))) :: (o1, .inl (ko, 1, .inr (.inl of))) :: wr) sz) := by
  refine va_MetW (cc := b_law_run) (maxL := 4) (ret := (some .int)) (by decide) rfl ?_
  intro p e s m args below meth c s₁ B hml hv
  obtain ⟨rfl, hsz, hP, hK, hD0, hE⟩ := hv
  have hx := B.exec
  have hb := B.bytes
  have hr := B.returns
  have hts := atoms_spec (ws := w_law_run) B.pre
  have hown : s.vm.findClass R_law = some m.cls := findClass_of_methodNamed B.named
  have hlocks := B.notSynchronized
  subst hsz
  have hD := hD0.self (sz := s.heap.size)
  generalize hAe : va_A ((h0, .inr (0, [.ref ta, .int xn, .int xcold, .int xtime])) :: (ta, .inl (kt, 4, .inr (.inr (.inr (.inr xf))))) :: (o1, .inl (ko, 1, .inr (.inl of))) :: wr) s.heap.size = A at hD ⊢
  have hA : ∀ q : Nat, s.heap.size ≤ q → A q := fun q h => by rw [← hAe]; exact Or.inr h
  clear hAe hD0
  have key : ∀ (H : Heap) (locs : List Loc), va_P (dC, dI) classes ((h0, .inr (0, [.ref ta, .int xn, .int xcold, .int xtime])) :: (ta, .inl (kt, 4, .inr (.inr (.inr (.inr xf))))) :: (o1, .inl (ko, 1, .inr (.inl of))) :: wr) H → va_D A ((h0, .inr (0, [.ref ta, .int xn, .int xcold, .int xtime])) :: (ta, .inl (kt, 4, .inr (.inr (.inr (.inr xf))))) :: (o1, .inl (ko, 1, .inr (.inl of))) :: wr) → va_S A s.heap H locs → ∀ (ls : Array Slot), lv_has ls 4 [(0, .ref h0), (1, .int p1), (2, .ref o1)] → W p l e ({ frames := 2, cells := 0, slots := 0, locals := 47 } : Room) s m ([.ref h0, .int p1, .ref o1] : List Value).toArray below meth c H locs 0 0 (MQ below (va_Qi (fun (r : Int32) (_ : Unit) => r = res.1) (fun _ t => va_P (dC, dI) classes ((h0, .inr (0, [.ref ta, .int xn, .int xcold, .int res.2.1])) :: (ta, .inl (kt, 4, .inr (.inr (.inr (.inr xf))))) :: (o1, .inl (ko, 1, .inr (.inl res.2.2))) :: wr) t.heap ∧ va_K (dC, dI) classes [(kt, .object R_Tank), (ko, .long)] t ∧ va_D A ((h0, .inr (0, [.ref ta, .int xn, .int xcold, .int res.2.1])) :: (ta, .inl (kt, 4, .inr (.inr (.inr (.inr xf))))) :: (o1, .inl (ko, 1, .inr (.inl res.2.2))) :: wr)) A) ([.ref h0, .int p1, .ref o1] : List Value).toArray s 0 0 A) (F0 m 0 ls []) := by
    intro H locs hP hD hS ls hl
    unfold fn_law_run at h
    refine lv_aload_n hx hb d_law_run_0 rfl (lv_at hl 2 rfl) ?_
    refine lv_iconst (v := 0) hx hb d_law_run_1 (by decide) ?_
    refine lv_aload_n hx hb d_law_run_2 rfl (lv_at hl 0 rfl) ?_
    refine lv_iload_n hx hb d_law_run_3 rfl (lv_at hl 1 rfl) ?_
    have hPc := hP.sub (ws' := [(h0, .inr (0, [.ref ta, .int xn, .int xcold, .int xtime])), (ta, .inl (kt, 4, .inr (.inr (.inr (.inr xf)))))]) [0, 1] rfl
    have hDc := hD.sub (ws' := [(h0, .inr (0, [.ref ta, .int xn, .int xcold, .int xtime])), (ta, .inl (kt, 4, .inr (.inr (.inr (.inr xf)))))]) [0, 1] (by decide) rfl
    have hKc := hK.sub (tys' := [(kt, .object R_Tank)]) [0] rfl
    have hFc := gx_freeT (wp := [(h0, .inr (0, [.ref ta, .int xn, .int xcold, .int xtime])), (ta, .inl (kt, 4, .inr (.inr (.inr (.inr xf))))), (o1, .inl (ko, 1, .inr (.inl of)))]) (wr := wr) (wc := [(h0, .inr (0, [.ref ta, .int xn, .int xcold, .int xtime])), (ta, .inl (kt, 4, .inr (.inr (.inr (.inr xf)))))]) hD hS hA [0, 1] rfl
    obtain ⟨ur1, hc1, h⟩ := gx_inrS h
    refine va_calli (va_runV (As := [.int p1]) (rest := [.int 0, .ref o1]) ⟨hx, hb, hml, hown, hts⟩ (c_TL_run N l dC dI h0 ta kt [] H.size xn xcold xtime xf p1 hkn0 hkn1 hkn2 hkn3 ur1 hc1) (cwV 1 hts (gx_gV mw_451 mw_448 mw_449 mw_450 mw_24) rfl rfl rfl (by decide +kernel) ⟨Nat.le_of_ble_eq_true rfl, Nat.le_of_ble_eq_true rfl⟩) ⟨fun a U g mk q => by obtain ⟨q0, q1, qP, qK, qD, qE⟩ := q; exact ⟨q0, q1, qP, va_K.moved (u := U) (U := U.calling g mk a) (Vm.Alike.refl U.vm) qK, qD, qE.calls⟩, va_recv hKc hPc (ci := 0) (q0 := 0) rfl rfl, fun U hU hW => ⟨rfl, by rw [hU], by rw [hU]; exact hPc, va_K.moved hW.alike hKc, hDc.weaken (fun _ _ _ _ => trivial), hE.warm hW⟩⟩ rfl rfl hl.1 rfl (lv_room (Nat.le_of_ble_eq_true rfl)) d_law_run_4 ⟨(Nat.zero_le _), (Nat.zero_le _)⟩) hS (fun q _ h => hFc q h) hFc (fun r1 _ t H locs ht hvm hw hB hz1 hk1 hS => ?_)
    obtain ⟨hP1, hK1, hD1⟩ := hB
    rw [ht] at hP1
    rw [hw]
    obtain ⟨hP, hD⟩ := gx_joinT (wp := [(h0, .inr (0, [.ref ta, .int xn, .int xcold, .int xtime])), (ta, .inl (kt, 4, .inr (.inr (.inr (.inr xf))))), (o1, .inl (ko, 1, .inr (.inl of)))]) (wr := wr) (wk := [(o1, .inl (ko, 1, .inr (.inl of)))]) (w1 := [(h0, .inr (0, [.ref ta, .int xn, .int xcold, .int ur1.2])), (ta, .inl (kt, 4, .inr (.inr (.inr (.inr xf)))))]) hP hD [0, 1] [2] (n := 3) rfl rfl rfl (by decide +kernel) hk1 hFc hP1 hD1
    have hP : va_P (dC, dI) classes ((o1, .inl (ko, 1, .inr (.inl of))) :: (h0, .inr (0, [.ref ta, .int xn, .int xcold, .int ur1.2])) :: (ta, .inl (kt, 4, .inr (.inr (.inr (.inr xf))))) :: wr) H := hP
    have hD : va_D A ((o1, .inl (ko, 1, .inr (.inl of))) :: (h0, .inr (0, [.ref ta, .int xn, .int xcold, .int ur1.2])) :: (ta, .inl (kt, 4, .inr (.inr (.inr (.inr xf))))) :: wr) := hD
    refine lv_i2l (v := ur1.1.toInt64) hx hb d_law_run_7 rfl ?_
    obtain ⟨hi2, h⟩ := gx_inb_of h
    refine va_last hx hb hK hP hD hS 0 1 rfl rfl hi2 d_law_run_8 (fun H locs hP hD hS => ?_)
    have hP : va_P (dC, dI) classes ((o1, .inl (ko, 1, .inr (.inl (vp_updL of (0 : Int32).toNatClampNeg ur1.1.toInt64)))) :: (h0, .inr (0, [.ref ta, .int xn, .int xcold, .int ur1.2])) :: (ta, .inl (kt, 4, .inr (.inr (.inr (.inr xf))))) :: wr) H := hP
    have hD : va_D A ((o1, .inl (ko, 1, .inr (.inl (vp_updL of (0 : Int32).toNatClampNeg ur1.1.toInt64)))) :: (h0, .inr (0, [.ref ta, .int xn, .int xcold, .int ur1.2])) :: (ta, .inl (kt, 4, .inr (.inr (.inr (.inr xf))))) :: wr) := hD
    refine lv_goto (tgt := 18) hx hb d_law_run_9 (by decide) ?_
    refine lv_iconst (v := 0) hx hb d_law_run_18 (by decide) ?_
    rw [← Option.some.inj h]
    have hP9 := gx_Pp ((gx_perm (wp := [(o1, .inl (ko, 1, .inr (.inl (vp_updL of (0 : Int32).toNatClampNeg ur1.1.toInt64)))), (h0, .inr (0, [.ref ta, .int xn, .int xcold, .int ur1.2])), (ta, .inl (kt, 4, .inr (.inr (.inr (.inr xf)))))]) (wp' := [(h0, .inr (0, [.ref ta, .int xn, .int xcold, .int ur1.2])), (ta, .inl (kt, 4, .inr (.inr (.inr (.inr xf))))), (o1, .inl (ko, 1, .inr (.inl (vp_updL of (0 : Int32).toNatClampNeg ur1.1.toInt64))))]) [1, 2, 0] (n := 3) rfl (by decide +kernel) rfl).append_right wr) hP
    have hD9 := gx_Dp ((gx_perm (wp := [(o1, .inl (ko, 1, .inr (.inl (vp_updL of (0 : Int32).toNatClampNeg ur1.1.toInt64)))), (h0, .inr (0, [.ref ta, .int xn, .int xcold, .int ur1.2])), (ta, .inl (kt, 4, .inr (.inr (.inr (.inr xf)))))]) (wp' := [(h0, .inr (0, [.ref ta, .int xn, .int xcold, .int ur1.2])), (ta, .inl (kt, 4, .inr (.inr (.inr (.inr xf))))), (o1, .inl (ko, 1, .inr (.inl (vp_updL of (0 : Int32).toNatClampNeg ur1.1.toInt64))))]) [1, 2, 0] (n := 3) rfl (by decide +kernel) rfl).append_right wr) hD
    exact W.iret (v := 0) hx hb hr (fun t ht hW => ⟨⟨0, (), rfl, rfl, ⟨by rw [ht]; exact hP9, va_K.moved hW.alike hK, hD9⟩⟩, hS.F ht⟩) hS.2.2 d_law_run_19
  have hl := lv_entry ([.ref h0, .int p1, .ref o1]) (n := 4) (Nat.le_of_ble_eq_true rfl)
  rw [lg_entry_eq]
  generalize (lg_sl ([.ref h0, .int p1, .ref o1]) ++ List.replicate (4 - (lg_sl ([.ref h0, .int p1, .ref o1])).length) Slot.unset).toArray = ls at hl ⊢
  exact key _ _ hP hD va_S.rf ls hl
def fn_law_run_t (N : Nat) (p1 : Int32) (xn : Int32) (xcold : Int32) (xtime : Int32) (xf : Nat → Option Nat) (of : Nat → Int64) : Option (Int32) :=
  gx_inl (fn_TL_run N p1 xn xcold xtime xf) (fun ex => if ex = 1 then some 1 else if ex = 2 then some 2 else none)
set_option maxHeartbeats 4000000 in
set_option maxRecDepth 100000 in
theorem c_law_run_t (N : Nat) (l : Launch) (hlt : l.stackTraces = false) (dC : Nat → ClassId) (dI : Nat → Nat → Nat) (h0 : Nat) (ta : Nat) (o1 : Nat) (kt : ClassId) (ko : ClassId) (wr : va_W) (sz : Nat) (xn : Int32) (xcold : Int32) (xtime : Int32) (xf : Nat → Option Nat) (of : Nat → Int64) (h0 : Nat) (p1 : Int32) (o1 : Nat) (hkn0 : xf (0 : Int32).toNatClampNeg = none) (hkn1 : xf (1 : Int32).toNatClampNeg = none) (hkn2 : xf (2 : Int32).toNatClampNeg = none) (hkn3 : xf (3 : Int32).toNatClampNeg = none) (res : Int32) (h : fn_law_run_t N p1 xn xcold xtime xf of = some res) : Met l y_law_run w_law_run ({ frames := 8, cells := 1, slots := 6, locals := 147 } : Room) (va_Pc [.ref h0, .int p1, .ref o1] (fun U => U.heap.size = sz ∧ va_P (dC, dI) classes ((h0, .inr (0, [.ref ta, .int xn, .int xcold, .int xtime])) :: (ta, .inl (kt, 4, .inr (.inr (.inr (.inr xf))))) :: (o1, .inl (ko, 1, .inr (.inl of))) :: wr) U.heap ∧ va_K (dC, dI) classes [(kt, .object R_Tank), (ko, .long)] U ∧ va_D (fun _ => True) ((h0, .inr (0, [.ref ta, .int xn, .int xcold, .int xtime])) :: (ta, .inl (kt, 4, .inr (.inr (.inr (.inr xf))))) :: (o1, .inl (ko, 1, .inr (.inl of))) :: wr) ∧ gx_E U ∧ gx_X (va_A ((h0, .inr (0, [.ref ta, .int xn, .int xcold, .int xtime])) :: (ta, .inl (kt, 4, .inr (.inr (.inr (.inr xf))))) :: (o1, .inl (ko, 1, .inr (.inl of))) :: wr) sz) U ∧ va_Nc "java/lang/IllegalStateException" "java/lang/IllegalArgumentException" U)) (va_Qi (fun (r : Int32) (_ : Unit) => r = res) (fun _ t => va_P (dC, dI) classes ((h0, .inr (0, [.ref ta, .int xn, .int xcold, .int xtime])) :: (ta, .inl (kt, 4, .inr (.inr (.inr (.inr xf))))) :: (o1, .inl (ko, 1, .inr (.inl of))) :: wr) t.heap ∧ va_K (dC, dI) classes [(kt, .object R_Tank), (ko, .long)] t ∧ va_D (va_A ((h0, .inr (0, [.ref ta, .int xn, .int xcold, .int xtime])) :: (ta, .inl (kt, 4, .inr (.inr (.inr (.inr xf))))) :: (o1, .inl (ko, 1, .inr (.inl of))) :: wr) sz) ((h0, .inr (0, [.ref ta, .int xn, .int xcold, .int xtime])) :: (ta, .inl (kt, 4, .inr (.inr (.inr (.inr xf))))) :: (o1, .inl (ko, 1, .inr (.inl of))) :: wr)) (va_A ((h0, .inr (0, [.ref ta, .int xn, .int xcold, .int xtime])) :: (ta, .inl (kt, 4, .inr (.inr (.inr (.inr xf))))) :: (o1, .inl (ko, 1, .inr (.inl of))) :: wr) sz)) 1 6 (va_A ((h0, .inr (0, [.ref ta, .int xn, .int xcold, .int xtime])) :: (ta, .inl (kt, 4, .inr (.inr (.inr (.inr xf))))) :: (o1, .inl (ko, 1, .inr (.inl of))) :: wr) sz) := by
  refine va_MetW (cc := b_law_run) (maxL := 4) (ret := (some .int)) (by decide) rfl ?_
  intro p e s m args below meth c s₁ B hml hv
  obtain ⟨rfl, hsz, hP, hK, hD0, hE, hXx, hNc⟩ := hv
  have hx := B.exec
  have hb := B.bytes
  have hr := B.returns
  have hts := atoms_spec (ws := w_law_run) B.pre
  have hown : s.vm.findClass R_law = some m.cls := findClass_of_methodNamed B.named
  have hlocks := B.notSynchronized
  have htb := vx_table (x := y_law_run) B (hts _ List.mem_cons_self)
  subst hsz
  have hD := hD0.self (sz := s.heap.size)
  generalize hAe : va_A ((h0, .inr (0, [.ref ta, .int xn, .int xcold, .int xtime])) :: (ta, .inl (kt, 4, .inr (.inr (.inr (.inr xf))))) :: (o1, .inl (ko, 1, .inr (.inl of))) :: wr) s.heap.size = A at hD hXx ⊢
  have hA : ∀ q : Nat, s.heap.size ≤ q → A q := fun q h => by rw [← hAe]; exact Or.inr h
  clear hAe hD0
  have key : ∀ (H : Heap) (locs : List Loc), va_P (dC, dI) classes ((h0, .inr (0, [.ref ta, .int xn, .int xcold, .int xtime])) :: (ta, .inl (kt, 4, .inr (.inr (.inr (.inr xf))))) :: (o1, .inl (ko, 1, .inr (.inl of))) :: wr) H → va_D A ((h0, .inr (0, [.ref ta, .int xn, .int xcold, .int xtime])) :: (ta, .inl (kt, 4, .inr (.inr (.inr (.inr xf))))) :: (o1, .inl (ko, 1, .inr (.inl of))) :: wr) → va_S A s.heap H locs → ∀ (ls : Array Slot), lv_has ls 4 [(0, .ref h0), (1, .int p1), (2, .ref o1)] → W p l e ({ frames := 8, cells := 1, slots := 6, locals := 147 } : Room) s m ([.ref h0, .int p1, .ref o1] : List Value).toArray below meth c H locs 0 0 (MQ below (va_Qi (fun (r : Int32) (_ : Unit) => r = res) (fun _ t => va_P (dC, dI) classes ((h0, .inr (0, [.ref ta, .int xn, .int xcold, .int xtime])) :: (ta, .inl (kt, 4, .inr (.inr (.inr (.inr xf))))) :: (o1, .inl (ko, 1, .inr (.inl of))) :: wr) t.heap ∧ va_K (dC, dI) classes [(kt, .object R_Tank), (ko, .long)] t ∧ va_D A ((h0, .inr (0, [.ref ta, .int xn, .int xcold, .int xtime])) :: (ta, .inl (kt, 4, .inr (.inr (.inr (.inr xf))))) :: (o1, .inl (ko, 1, .inr (.inl of))) :: wr)) A) ([.ref h0, .int p1, .ref o1] : List Value).toArray s 1 6 A) (F0 m 0 ls []) := by
    intro H locs hP hD hS ls hl
    unfold fn_law_run_t at h
    refine lv_aload_n hx hb d_law_run_0 rfl (lv_at hl 2 rfl) ?_
    refine lv_iconst (v := 0) hx hb d_law_run_1 (by decide) ?_
    refine lv_aload_n hx hb d_law_run_2 rfl (lv_at hl 0 rfl) ?_
    refine lv_iload_n hx hb d_law_run_3 rfl (lv_at hl 1 rfl) ?_
    have hPc := hP.sub (ws' := [(h0, .inr (0, [.ref ta, .int xn, .int xcold, .int xtime])), (ta, .inl (kt, 4, .inr (.inr (.inr (.inr xf)))))]) [0, 1] rfl
    have hDc := hD.sub (ws' := [(h0, .inr (0, [.ref ta, .int xn, .int xcold, .int xtime])), (ta, .inl (kt, 4, .inr (.inr (.inr (.inr xf)))))]) [0, 1] (by decide) rfl
    have hKc := hK.sub (tys' := [(kt, .object R_Tank)]) [0] rfl
    have hFc := gx_freeT (wp := [(h0, .inr (0, [.ref ta, .int xn, .int xcold, .int xtime])), (ta, .inl (kt, 4, .inr (.inr (.inr (.inr xf))))), (o1, .inl (ko, 1, .inr (.inl of)))]) (wr := wr) (wc := [(h0, .inr (0, [.ref ta, .int xn, .int xcold, .int xtime])), (ta, .inl (kt, 4, .inr (.inr (.inr (.inr xf)))))]) hD hS hA [0, 1] rfl
    obtain ⟨ex, hc1, h⟩ := gx_inlS h
    refine gx_callx (vx_runV (As := [.int p1]) (rest := [.int 0, .ref o1]) ⟨hx, hb, hml, hown, hts⟩ (x_TL_run N l hlt dC dI h0 ta kt [] H.size xn xcold xtime xf p1 hkn0 hkn1 hkn2 hkn3 ex hc1) (cwV 1 hts (gx_gV mw_451 mw_448 mw_449 mw_450 mw_24) rfl rfl rfl (by decide +kernel) ⟨Nat.le_of_ble_eq_true rfl, Nat.le_of_ble_eq_true rfl⟩) ⟨fun a U g mk q => by obtain ⟨q0, q1, qP, qK, qD, qE, qX⟩ := q; exact ⟨q0, q1, qP, va_K.moved (u := U) (U := U.calling g mk a) (Vm.Alike.refl U.vm) qK, qD, qE.calls, qX.calls⟩, va_recv hKc hPc (ci := 0) (q0 := 0) rfl rfl, fun U hU hW => ⟨rfl, by rw [hU], by rw [hU]; exact hPc, va_K.moved hW.alike hKc, hDc.weaken (fun _ _ _ _ => trivial), hE.warm hW, hXx.pass hS hU hW hFc⟩⟩ rfl rfl hl.1 rfl (lv_room (Nat.le_of_ble_eq_true rfl)) d_law_run_4 ⟨Nat.le_of_ble_eq_true rfl, Nat.le_of_ble_eq_true rfl⟩) (fun st o t h => by obtain ⟨q, -⟩ := h; obtain ⟨_, _, _, q, _⟩ := q; exact q.elim) hS hFc (fun q _ h => hFc q h) (fun E ce q9 _ t H locs ht hvm hw hB hz1 hk1 hS hce hcv hcl => ?_)
    obtain ⟨hE1, hP1, hK1, hD1⟩ := hB
    rw [ht] at hP1
    obtain ⟨hP, hD⟩ := gx_joinT (wp := [(h0, .inr (0, [.ref ta, .int xn, .int xcold, .int xtime])), (ta, .inl (kt, 4, .inr (.inr (.inr (.inr xf))))), (o1, .inl (ko, 1, .inr (.inl of)))]) (wr := wr) (wk := [(o1, .inl (ko, 1, .inr (.inl of)))]) (w1 := [(h0, .inr (0, [.ref ta, .int xn, .int xcold, .int xtime])), (ta, .inl (kt, 4, .inr (.inr (.inr (.inr xf)))))]) hP hD [0, 1] [2] (n := 3) rfl rfl rfl (by decide +kernel) hk1 hFc hP1 hD1
    have hP : va_P (dC, dI) classes ((o1, .inl (ko, 1, .inr (.inl of))) :: (h0, .inr (0, [.ref ta, .int xn, .int xcold, .int xtime])) :: (ta, .inl (kt, 4, .inr (.inr (.inr (.inr xf))))) :: wr) H := hP
    have hD : va_D A ((o1, .inl (ko, 1, .inr (.inl of))) :: (h0, .inr (0, [.ref ta, .int xn, .int xcold, .int xtime])) :: (ta, .inl (kt, 4, .inr (.inr (.inr (.inr xf))))) :: wr) := hD
    have hP9 := gx_Pp ((gx_perm (wp := [(o1, .inl (ko, 1, .inr (.inl of))), (h0, .inr (0, [.ref ta, .int xn, .int xcold, .int xtime])), (ta, .inl (kt, 4, .inr (.inr (.inr (.inr xf)))))]) (wp' := [(h0, .inr (0, [.ref ta, .int xn, .int xcold, .int xtime])), (ta, .inl (kt, 4, .inr (.inr (.inr (.inr xf))))), (o1, .inl (ko, 1, .inr (.inl of)))]) [1, 2, 0] (n := 3) rfl (by decide +kernel) rfl).append_right wr) hP
    have hD9 := gx_Dp ((gx_perm (wp := [(o1, .inl (ko, 1, .inr (.inl of))), (h0, .inr (0, [.ref ta, .int xn, .int xcold, .int xtime])), (ta, .inl (kt, 4, .inr (.inr (.inr (.inr xf)))))]) (wp' := [(h0, .inr (0, [.ref ta, .int xn, .int xcold, .int xtime])), (ta, .inl (kt, 4, .inr (.inr (.inr (.inr xf))))), (o1, .inl (ko, 1, .inr (.inl of)))]) [1, 2, 0] (n := 3) rfl (by decide +kernel) rfl).append_right wr) hD
    by_cases he2 : ex = 1
    · replace h := gx_pos he2 h
      have hE2 : E = "java/lang/IllegalArgumentException" := by rw [hE1, he2]; rfl
      subst hE2
      refine vx_catch (own := R_law) (name := "java/lang/IllegalArgumentException") hown [] ⟨0, 9, 12, 13⟩ [⟨0, 9, 15, 15⟩] htb (fun z hz => nomatch hz) (by decide) (by decide) (hts _ (gx_w mw_63)) (va_Nw.use rfl (hXx.1 _ (List.mem_of_getElem? (i := 0) rfl))) hce hcv hcl ?_
      refine lv_astore_n (lv' := [(3, .ref q9), (0, .ref h0), (1, .int p1), (2, .ref o1)]) hx hb d_law_run_12 rfl hl (by decide) rfl (fun ls hl => ?_)
      refine lv_iconst (v := 1) hx hb d_law_run_13 (by decide) ?_
      rw [← Option.some.inj h]
      have hP9 := gx_Pp ((gx_perm (wp := [(o1, .inl (ko, 1, .inr (.inl of))), (h0, .inr (0, [.ref ta, .int xn, .int xcold, .int xtime])), (ta, .inl (kt, 4, .inr (.inr (.inr (.inr xf)))))]) (wp' := [(h0, .inr (0, [.ref ta, .int xn, .int xcold, .int xtime])), (ta, .inl (kt, 4, .inr (.inr (.inr (.inr xf))))), (o1, .inl (ko, 1, .inr (.inl of)))]) [1, 2, 0] (n := 3) rfl (by decide +kernel) rfl).append_right wr) hP
      have hD9 := gx_Dp ((gx_perm (wp := [(o1, .inl (ko, 1, .inr (.inl of))), (h0, .inr (0, [.ref ta, .int xn, .int xcold, .int xtime])), (ta, .inl (kt, 4, .inr (.inr (.inr (.inr xf)))))]) (wp' := [(h0, .inr (0, [.ref ta, .int xn, .int xcold, .int xtime])), (ta, .inl (kt, 4, .inr (.inr (.inr (.inr xf))))), (o1, .inl (ko, 1, .inr (.inl of)))]) [1, 2, 0] (n := 3) rfl (by decide +kernel) rfl).append_right wr) hD
      refine W.widen (k := 1) (n := 6) (by omega) (by omega) ?_
      exact W.iret (v := 1) hx hb hr (fun t ht hW => ⟨⟨1, (), rfl, rfl, ⟨by rw [ht]; exact hP9, va_K.moved hW.alike hK, hD9⟩⟩, hS.F ht⟩) hS.2.2 d_law_run_14
    replace h := gx_neg he2 h
    by_cases he3 : ex = 2
    · replace h := gx_pos he3 h
      have hE2 : E = "java/lang/IllegalStateException" := by rw [hE1, he3]; rfl
      subst hE2
      refine vx_catch (own := R_law) (name := "java/lang/IllegalStateException") hown [⟨0, 9, 12, 13⟩] ⟨0, 9, 15, 15⟩ [] htb (fun z hz => by cases List.mem_singleton.mp hz; exact Or.inr ⟨by decide, "java/lang/IllegalArgumentException", (hts _ (gx_w mw_63)), hNc⟩) (by decide) (by decide) (hts _ (gx_w mw_64)) (va_Nw.use rfl (hXx.1 _ (List.mem_of_getElem? (i := 1) rfl))) hce hcv hcl ?_
      refine lv_astore_n (lv' := [(3, .ref q9), (0, .ref h0), (1, .int p1), (2, .ref o1)]) hx hb d_law_run_15 rfl hl (by decide) rfl (fun ls hl => ?_)
      refine lv_iconst (v := 2) hx hb d_law_run_16 (by decide) ?_
      rw [← Option.some.inj h]
      have hP9 := gx_Pp ((gx_perm (wp := [(o1, .inl (ko, 1, .inr (.inl of))), (h0, .inr (0, [.ref ta, .int xn, .int xcold, .int xtime])), (ta, .inl (kt, 4, .inr (.inr (.inr (.inr xf)))))]) (wp' := [(h0, .inr (0, [.ref ta, .int xn, .int xcold, .int xtime])), (ta, .inl (kt, 4, .inr (.inr (.inr (.inr xf))))), (o1, .inl (ko, 1, .inr (.inl of)))]) [1, 2, 0] (n := 3) rfl (by decide +kernel) rfl).append_right wr) hP
      have hD9 := gx_Dp ((gx_perm (wp := [(o1, .inl (ko, 1, .inr (.inl of))), (h0, .inr (0, [.ref ta, .int xn, .int xcold, .int xtime])), (ta, .inl (kt, 4, .inr (.inr (.inr (.inr xf)))))]) (wp' := [(h0, .inr (0, [.ref ta, .int xn, .int xcold, .int xtime])), (ta, .inl (kt, 4, .inr (.inr (.inr (.inr xf))))), (o1, .inl (ko, 1, .inr (.inl of)))]) [1, 2, 0] (n := 3) rfl (by decide +kernel) rfl).append_right wr) hD
      refine W.widen (k := 1) (n := 6) (by omega) (by omega) ?_
      exact W.iret (v := 2) hx hb hr (fun t ht hW => ⟨⟨2, (), rfl, rfl, ⟨by rw [ht]; exact hP9, va_K.moved hW.alike hK, hD9⟩⟩, hS.F ht⟩) hS.2.2 d_law_run_17
    replace h := gx_neg he3 h
    cases h
  have hl := lv_entry ([.ref h0, .int p1, .ref o1]) (n := 4) (Nat.le_of_ble_eq_true rfl)
  rw [lg_entry_eq]
  generalize (lg_sl ([.ref h0, .int p1, .ref o1]) ++ List.replicate (4 - (lg_sl ([.ref h0, .int p1, .ref o1])).length) Slot.unset).toArray = ls at hl ⊢
  exact key _ _ hP hD va_S.rf ls hl
