theorem mw_49 : (Cond.fieldLink R_TL 19 "TankLayers" "coldTemperature" "I") ∈ gx_W := List.mem_filter.mpr ⟨List.mem_of_getElem? (i := 49) (by decide +kernel), by decide +kernel⟩
theorem d_TL_cold_0 : decode b_TL_cold 0 = .ok (.iload_n 1, 1) := by decide +kernel
theorem d_TL_cold_1 : decode b_TL_cold 1 = .ok (.invokestatic 30, 3) := by decide +kernel
theorem d_TL_cold_4 : decode b_TL_cold 4 = .ok (.aload_n 0, 1) := by decide +kernel
theorem d_TL_cold_5 : decode b_TL_cold 5 = .ok (.getfield 19, 3) := by decide +kernel
theorem d_TL_cold_8 : decode b_TL_cold 8 = .ok (.istore_n 2, 1) := by decide +kernel
theorem d_TL_cold_9 : decode b_TL_cold 9 = .ok (.aload_n 0, 1) := by decide +kernel
theorem d_TL_cold_10 : decode b_TL_cold 10 = .ok (.iload_n 1, 1) := by decide +kernel
theorem d_TL_cold_11 : decode b_TL_cold 11 = .ok (.putfield 19, 3) := by decide +kernel
theorem d_TL_cold_14 : decode b_TL_cold 14 = .ok (.iload_n 2, 1) := by decide +kernel
theorem d_TL_cold_15 : decode b_TL_cold 15 = .ok (.ireturn, 1) := by decide +kernel
def fn_TL_cold (N : Nat) (p1 : Int32) (xn : Int32) (xcold : Int32) (xtime : Int32) (xf : Nat → Option Nat) : Option (Nat ⊕ (Int32 × Int32)) :=
  gx_then (fn_TL_requireTemperature N p1) (fun ur1 => some (.inr (xcold, p1)))
def w_TL_cold : List Cond := .code y_TL_cold b_TL_cold 3 (some .int) :: gx_W
set_option maxHeartbeats 4000000 in
set_option maxRecDepth 100000 in
theorem c_TL_cold (N : Nat) (l : Launch) (dC : Nat → ClassId) (dI : Nat → Nat → Nat) (h0 : Nat) (ta : Nat) (kt : ClassId) (wr : va_W) (sz : Nat) (xn : Int32) (xcold : Int32) (xtime : Int32) (xf : Nat → Option Nat) (p1 : Int32) (res : Int32 × Int32) (h : fn_TL_cold N p1 xn xcold xtime xf = some (.inr res)) : Met l y_TL_cold w_TL_cold ({ frames := 2, cells := 0, slots := 0, locals := 42 } : Room) (va_Pc [.ref h0, .int p1] (fun U => U.heap.size = sz ∧ va_P (dC, dI) classes ((h0, .inr (0, [.ref ta, .int xn, .int xcold, .int xtime])) :: (ta, .inl (kt, 4, .inr (.inr (.inr (.inr xf))))) :: wr) U.heap ∧ va_K (dC, dI) classes [(kt, .object R_Tank)] U ∧ va_D (fun _ => True) ((h0, .inr (0, [.ref ta, .int xn, .int xcold, .int xtime])) :: (ta, .inl (kt, 4, .inr (.inr (.inr (.inr xf))))) :: wr) ∧ gx_E U)) (va_Qi (fun (r : Int32) (_ : Unit) => r = res.1) (fun _ t => va_P (dC, dI) classes ((h0, .inr (0, [.ref ta, .int xn, .int res.2, .int xtime])) :: (ta, .inl (kt, 4, .inr (.inr (.inr (.inr xf))))) :: wr) t.heap ∧ va_K (dC, dI) classes [(kt, .object R_Tank)] t ∧ va_D (va_A ((h0, .inr (0, [.ref ta, .int xn, .int xcold, .int xtime])) :: (ta, .inl (kt, 4, .inr (.inr (.inr (.inr xf))))) :: wr) sz) ((h0, .inr (0, [.ref ta, .int xn, .int res.2, .int xtime])) :: (ta, .inl (kt, 4, .inr (.inr (.inr (.inr xf))))) :: wr)) (va_A ((h0, .inr (0, [.ref ta, .int xn, .int xcold, .int xtime])) :: (ta, .inl (kt, 4, .inr (.inr (.inr (.inr xf))))) :: wr) sz)) 0 0 (va_A ((h0, .inr (0, [.ref ta, .int xn, .int xcold, .int xtime])) :: (ta, .inl (kt, 4, .inr (.inr (.inr (.inr xf))))) :: wr) sz) := by
  refine Met.ofW (cc := b_TL_cold) (maxL := 3) (ret := (some .int)) (by decide) rfl ?_
  intro p e s m args below meth c s₁ B hml hv
  obtain ⟨rfl, hsz, hP, hK, hD0, hE⟩ := hv
  have hx := B.exec
  have hb := B.bytes
  have hr := B.returns
  have hts := atoms_spec (ws := w_TL_cold) B.pre
  have hown : s.vm.findClass R_TL = some m.cls := findClass_of_methodNamed B.named
  have hlocks := B.notSynchronized
  subst hsz
  have hD := hD0.self (sz := s.heap.size)
  generalize hAe : va_A ((h0, .inr (0, [.ref ta, .int xn, .int xcold, .int xtime])) :: (ta, .inl (kt, 4, .inr (.inr (.inr (.inr xf))))) :: wr) s.heap.size = A at hD ⊢
  have hA : ∀ q : Nat, s.heap.size ≤ q → A q := fun q h => by rw [← hAe]; exact Or.inr h
  clear hAe hD0
  have key : ∀ (H : Heap) (locs : List Loc), va_P (dC, dI) classes ((h0, .inr (0, [.ref ta, .int xn, .int xcold, .int xtime])) :: (ta, .inl (kt, 4, .inr (.inr (.inr (.inr xf))))) :: wr) H → va_D A ((h0, .inr (0, [.ref ta, .int xn, .int xcold, .int xtime])) :: (ta, .inl (kt, 4, .inr (.inr (.inr (.inr xf))))) :: wr) → va_S A s.heap H locs → ∀ (ls : Array Slot), lv_has ls 3 [(0, .ref h0), (1, .int p1)] → W p l e ({ frames := 2, cells := 0, slots := 0, locals := 42 } : Room) s m ([.ref h0, .int p1] : List Value).toArray below meth c H locs 0 0 (MQ below (va_Qi (fun (r : Int32) (_ : Unit) => r = res.1) (fun _ t => va_P (dC, dI) classes ((h0, .inr (0, [.ref ta, .int xn, .int res.2, .int xtime])) :: (ta, .inl (kt, 4, .inr (.inr (.inr (.inr xf))))) :: wr) t.heap ∧ va_K (dC, dI) classes [(kt, .object R_Tank)] t ∧ va_D A ((h0, .inr (0, [.ref ta, .int xn, .int res.2, .int xtime])) :: (ta, .inl (kt, 4, .inr (.inr (.inr (.inr xf))))) :: wr)) A) ([.ref h0, .int p1] : List Value).toArray s 0 0 A) (F0 m 0 ls []) := by
    intro H locs hP hD hS ls hl
    unfold fn_TL_cold at h
    refine lv_iload_n hx hb d_TL_cold_0 rfl (lv_at hl 1 rfl) ?_
    have hPc := hP.sub (ws' := []) [] rfl
    have hDc := hD.sub (ws' := []) [] (by decide) rfl
    have hKc := hK.sub (tys' := []) [] rfl
    have hFc := gx_freeT (wp := [(h0, .inr (0, [.ref ta, .int xn, .int xcold, .int xtime])), (ta, .inl (kt, 4, .inr (.inr (.inr (.inr xf)))))]) (wr := wr) (wc := []) hD hS hA [] rfl
    obtain ⟨ur1, hc1, h⟩ := gx_thenR h
    refine va_callv (va_runS (As := [.int p1]) (rest := []) ⟨hx, hb, hml, hown, hts⟩ (c_TL_requireTemperature N l dC dI H.size p1 ur1 hc1) (va_cwS 1 hts (gx_gS mw_142 mw_140 mw_141 mw_24) rfl rfl rfl (by decide +kernel) ⟨Nat.le_of_ble_eq_true rfl, Nat.le_of_ble_eq_true rfl⟩) ⟨fun a U g mk q => by obtain ⟨q0, q1, qP, qK, qD, qE⟩ := q; exact ⟨q0, q1, qP, va_K.moved (u := U) (U := U.calling g mk a) (Vm.Alike.refl U.vm) qK, qD, qE.calls⟩, fun U hU hW => ⟨rfl, by rw [hU], by rw [hU]; exact hPc, va_K.moved hW.alike hKc, hDc.weaken (fun _ _ _ _ => trivial), hE.warm hW⟩⟩ rfl rfl hl.1 rfl (lv_room (Nat.le_of_ble_eq_true rfl)) d_TL_cold_1 ⟨(Nat.zero_le _), (Nat.zero_le _)⟩) hS (fun q _ h => hFc q h) hFc (fun _ t H locs ht hvm hw hB hz1 hk1 hS => ?_)
    obtain ⟨hP1, hK1, hD1⟩ := hB
    rw [ht] at hP1
    replace hP := gx_keep0 hP hk1
    refine lv_aload_n hx hb d_TL_cold_4 rfl (lv_at hl 0 rfl) ?_
    refine va_get (D := (dC, dI)) (ci := 0) (v := .int xcold) (C := R_TL) (T := F_TL) (N := 4) hx hb hts (gx_in i_TL) hown hK hP 0 rfl rfl 2 (by decide) (hts _ (gx_w mw_49)) (fun _ h9 => h9) rfl d_TL_cold_5 ?_
    refine lv_istore_n (lv' := [(2, .int xcold), (0, .ref h0), (1, .int p1)]) hx hb d_TL_cold_8 rfl hl (by decide) rfl (fun ls hl => ?_)
    refine lv_aload_n hx hb d_TL_cold_9 rfl (lv_at hl 1 rfl) ?_
    refine lv_iload_n hx hb d_TL_cold_10 rfl (lv_at hl 2 rfl) ?_
    refine va_put (D := (dC, dI)) (ci := 0) (v := .int p1) (ty := .int) (C := R_TL) (T := F_TL) (N := 4) hx hb hts (gx_in i_TL) t_TL t_TL_ok n_TL hown hK hP hD hS 0 rfl rfl 2 (by decide) (hts _ (gx_w mw_49)) (fun _ h9 => h9) rfl (by decide +kernel) rfl rfl (Nat.le_of_ble_eq_true rfl) d_TL_cold_11 (fun H locs hP hD hS => ?_)
    have hP : va_P (dC, dI) classes ((h0, .inr (0, [.ref ta, .int xn, .int p1, .int xtime])) :: (ta, .inl (kt, 4, .inr (.inr (.inr (.inr xf))))) :: wr) H := hP
    have hD : va_D A ((h0, .inr (0, [.ref ta, .int xn, .int p1, .int xtime])) :: (ta, .inl (kt, 4, .inr (.inr (.inr (.inr xf))))) :: wr) := hD
    refine lv_iload_n hx hb d_TL_cold_14 rfl (lv_at hl 0 rfl) ?_
    rw [← Sum.inr.inj (Option.some.inj h)]
    have hP9 := hP
    have hD9 := hD
    exact W.iret (v := xcold) hx hb hr (fun t ht hW => ⟨⟨xcold, (), rfl, rfl, ⟨by rw [ht]; exact hP9, va_K.moved hW.alike hK, hD9⟩⟩, hS.F ht⟩) hS.2.2 d_TL_cold_15
  have hl := lv_entry ([.ref h0, .int p1]) (n := 3) (Nat.le_of_ble_eq_true rfl)
  rw [lg_entry_eq]
  generalize (lg_sl ([.ref h0, .int p1]) ++ List.replicate (3 - (lg_sl ([.ref h0, .int p1])).length) Slot.unset).toArray = ls at hl ⊢
  exact key _ _ hP hD va_S.rf ls hl
set_option maxHeartbeats 4000000 in
set_option maxRecDepth 100000 in
theorem x_TL_cold (N : Nat) (l : Launch) (hlt : l.stackTraces = false) (dC : Nat → ClassId) (dI : Nat → Nat → Nat) (h0 : Nat) (ta : Nat) (kt : ClassId) (wr : va_W) (sz : Nat) (xn : Int32) (xcold : Int32) (xtime : Int32) (xf : Nat → Option Nat) (p1 : Int32) (ex : Nat) (h : fn_TL_cold N p1 xn xcold xtime xf = some (.inl ex)) : vx_Met l y_TL_cold w_TL_cold ({ frames := 8, cells := 1, slots := 6, locals := 142 } : Room) (va_Pc [.ref h0, .int p1] (fun U => U.heap.size = sz ∧ va_P (dC, dI) classes ((h0, .inr (0, [.ref ta, .int xn, .int xcold, .int xtime])) :: (ta, .inl (kt, 4, .inr (.inr (.inr (.inr xf))))) :: wr) U.heap ∧ va_K (dC, dI) classes [(kt, .object R_Tank)] U ∧ va_D (fun _ => True) ((h0, .inr (0, [.ref ta, .int xn, .int xcold, .int xtime])) :: (ta, .inl (kt, 4, .inr (.inr (.inr (.inr xf))))) :: wr) ∧ gx_E U ∧ gx_X (va_A ((h0, .inr (0, [.ref ta, .int xn, .int xcold, .int xtime])) :: (ta, .inl (kt, 4, .inr (.inr (.inr (.inr xf))))) :: wr) sz) U)) (va_Qi (fun (_ : Int32) (_ : Unit) => False) (fun _ _ => True) (va_A ((h0, .inr (0, [.ref ta, .int xn, .int xcold, .int xtime])) :: (ta, .inl (kt, 4, .inr (.inr (.inr (.inr xf))))) :: wr) sz)) (vx_X (fun _ : Unit => True) (fun E _ t => E = gx_en ex ∧ va_P (dC, dI) classes ((h0, .inr (0, [.ref ta, .int xn, .int xcold, .int xtime])) :: (ta, .inl (kt, 4, .inr (.inr (.inr (.inr xf))))) :: wr) t.heap ∧ va_K (dC, dI) classes [(kt, .object R_Tank)] t ∧ va_D (va_A ((h0, .inr (0, [.ref ta, .int xn, .int xcold, .int xtime])) :: (ta, .inl (kt, 4, .inr (.inr (.inr (.inr xf))))) :: wr) sz) ((h0, .inr (0, [.ref ta, .int xn, .int xcold, .int xtime])) :: (ta, .inl (kt, 4, .inr (.inr (.inr (.inr xf))))) :: wr)) (va_A ((h0, .inr (0, [.ref ta, .int xn, .int xcold, .int xtime])) :: (ta, .inl (kt, 4, .inr (.inr (.inr (.inr xf))))) :: wr) sz)) 1 6 (va_A ((h0, .inr (0, [.ref ta, .int xn, .int xcold, .int xtime])) :: (ta, .inl (kt, 4, .inr (.inr (.inr (.inr xf))))) :: wr) sz) := by
  refine vx_ofW (cc := b_TL_cold) (maxL := 3) (ret := (some .int)) (by decide) rfl ?_
  intro p e s m args below meth c s₁ B hml htab hv
  obtain ⟨rfl, hsz, hP, hK, hD0, hE, hXx⟩ := hv
  have hx := B.exec
  have hb := B.bytes
  have hr := B.returns
  have hts := atoms_spec (ws := w_TL_cold) B.pre
  have hown : s.vm.findClass R_TL = some m.cls := findClass_of_methodNamed B.named
  have hlocks := B.notSynchronized
  subst hsz
  have hD := hD0.self (sz := s.heap.size)
  generalize hAe : va_A ((h0, .inr (0, [.ref ta, .int xn, .int xcold, .int xtime])) :: (ta, .inl (kt, 4, .inr (.inr (.inr (.inr xf))))) :: wr) s.heap.size = A at hD hXx ⊢
  have hA : ∀ q : Nat, s.heap.size ≤ q → A q := fun q h => by rw [← hAe]; exact Or.inr h
  clear hAe hD0
  have key : ∀ (H : Heap) (locs : List Loc), va_P (dC, dI) classes ((h0, .inr (0, [.ref ta, .int xn, .int xcold, .int xtime])) :: (ta, .inl (kt, 4, .inr (.inr (.inr (.inr xf))))) :: wr) H → va_D A ((h0, .inr (0, [.ref ta, .int xn, .int xcold, .int xtime])) :: (ta, .inl (kt, 4, .inr (.inr (.inr (.inr xf))))) :: wr) → va_S A s.heap H locs → ∀ (ls : Array Slot), lv_has ls 3 [(0, .ref h0), (1, .int p1)] → W p l e ({ frames := 8, cells := 1, slots := 6, locals := 142 } : Room) s m ([.ref h0, .int p1] : List Value).toArray below meth c H locs 0 0 (vx_MQ below (va_Qi (fun (_ : Int32) (_ : Unit) => False) (fun _ _ => True) A) (vx_X (fun _ : Unit => True) (fun E _ t => E = gx_en ex ∧ va_P (dC, dI) classes ((h0, .inr (0, [.ref ta, .int xn, .int xcold, .int xtime])) :: (ta, .inl (kt, 4, .inr (.inr (.inr (.inr xf))))) :: wr) t.heap ∧ va_K (dC, dI) classes [(kt, .object R_Tank)] t ∧ va_D A ((h0, .inr (0, [.ref ta, .int xn, .int xcold, .int xtime])) :: (ta, .inl (kt, 4, .inr (.inr (.inr (.inr xf))))) :: wr)) A) ([.ref h0, .int p1] : List Value).toArray s 1 6 A) (F0 m 0 ls []) := by
    intro H locs hP hD hS ls hl
    unfold fn_TL_cold at h
    refine lv_iload_n hx hb d_TL_cold_0 rfl (lv_at hl 1 rfl) ?_
    have hPc := hP.sub (ws' := []) [] rfl
    have hDc := hD.sub (ws' := []) [] (by decide) rfl
    have hKc := hK.sub (tys' := []) [] rfl
    have hFc := gx_freeT (wp := [(h0, .inr (0, [.ref ta, .int xn, .int xcold, .int xtime])), (ta, .inl (kt, 4, .inr (.inr (.inr (.inr xf)))))]) (wr := wr) (wc := []) hD hS hA [] rfl
    rcases gx_thenL h with hc1 | ⟨ur1, hc1, h⟩
    · skip
      refine gx_callx (vx_runS (As := [.int p1]) (rest := []) ⟨hx, hb, hml, hown, hts⟩ (x_TL_requireTemperature N l hlt dC dI H.size p1 ex hc1) (va_cwS 1 hts (gx_gS mw_142 mw_140 mw_141 mw_24) rfl rfl rfl (by decide +kernel) ⟨Nat.le_of_ble_eq_true rfl, Nat.le_of_ble_eq_true rfl⟩) ⟨fun a U g mk q => by obtain ⟨q0, q1, qP, qK, qD, qE, qX⟩ := q; exact ⟨q0, q1, qP, va_K.moved (u := U) (U := U.calling g mk a) (Vm.Alike.refl U.vm) qK, qD, qE.calls, qX.calls⟩, fun U hU hW => ⟨rfl, by rw [hU], by rw [hU]; exact hPc, va_K.moved hW.alike hKc, hDc.weaken (fun _ _ _ _ => trivial), hE.warm hW, hXx.pass hS hU hW hFc⟩⟩ rfl rfl hl.1 rfl (lv_room (Nat.le_of_ble_eq_true rfl)) d_TL_cold_1 ⟨Nat.le_of_ble_eq_true rfl, Nat.le_of_ble_eq_true rfl⟩) (fun st o t h => by obtain ⟨q, -⟩ := h; obtain ⟨_, _, q, _⟩ := q; exact q.elim) hS hFc (fun q _ h => hFc q h) (fun E ce q9 _ t H locs ht hvm hw hB hz1 hk1 hS hce hcv hcl => ?_)
      obtain ⟨hE1, hP1, hK1, hD1⟩ := hB
      rw [ht] at hP1
      replace hP := gx_keep0 hP hk1
      have hP9 := hP
      have hD9 := hD
      exact vx_out (fun x hx => (htab x hx).elim) hlocks hce hcv hcl (fun t ht hvm => ⟨(), trivial, ⟨hE1, by rw [ht]; exact hP9, va_K.moved hvm hK, hD9⟩, hS.F ht⟩) hS.2.2 (Nat.le_of_ble_eq_true rfl) (Nat.le_of_ble_eq_true rfl)
    · skip
      refine va_callv (va_runS (As := [.int p1]) (rest := []) ⟨hx, hb, hml, hown, hts⟩ (c_TL_requireTemperature N l dC dI H.size p1 ur1 hc1) (va_cwS 1 hts (gx_gS mw_142 mw_140 mw_141 mw_24) rfl rfl rfl (by decide +kernel) ⟨Nat.le_of_ble_eq_true rfl, Nat.le_of_ble_eq_true rfl⟩) ⟨fun a U g mk q => by obtain ⟨q0, q1, qP, qK, qD, qE⟩ := q; exact ⟨q0, q1, qP, va_K.moved (u := U) (U := U.calling g mk a) (Vm.Alike.refl U.vm) qK, qD, qE.calls⟩, fun U hU hW => ⟨rfl, by rw [hU], by rw [hU]; exact hPc, va_K.moved hW.alike hKc, hDc.weaken (fun _ _ _ _ => trivial), hE.warm hW⟩⟩ rfl rfl hl.1 rfl (lv_room (Nat.le_of_ble_eq_true rfl)) d_TL_cold_1 ⟨(Nat.zero_le _), (Nat.zero_le _)⟩) hS (fun q _ h => hFc q h) hFc (fun _ t H locs ht hvm hw hB hz1 hk1 hS => ?_)
      obtain ⟨hP1, hK1, hD1⟩ := hB
      rw [ht] at hP1
      replace hP := gx_keep0 hP hk1
      refine lv_aload_n hx hb d_TL_cold_4 rfl (lv_at hl 0 rfl) ?_
      refine va_get (D := (dC, dI)) (ci := 0) (v := .int xcold) (C := R_TL) (T := F_TL) (N := 4) hx hb hts (gx_in i_TL) hown hK hP 0 rfl rfl 2 (by decide) (hts _ (gx_w mw_49)) (fun _ h9 => h9) rfl d_TL_cold_5 ?_
      refine lv_istore_n (lv' := [(2, .int xcold), (0, .ref h0), (1, .int p1)]) hx hb d_TL_cold_8 rfl hl (by decide) rfl (fun ls hl => ?_)
      refine lv_aload_n hx hb d_TL_cold_9 rfl (lv_at hl 1 rfl) ?_
      refine lv_iload_n hx hb d_TL_cold_10 rfl (lv_at hl 2 rfl) ?_
      refine va_put (D := (dC, dI)) (ci := 0) (v := .int p1) (ty := .int) (C := R_TL) (T := F_TL) (N := 4) hx hb hts (gx_in i_TL) t_TL t_TL_ok n_TL hown hK hP hD hS 0 rfl rfl 2 (by decide) (hts _ (gx_w mw_49)) (fun _ h9 => h9) rfl (by decide +kernel) rfl rfl (Nat.le_of_ble_eq_true rfl) d_TL_cold_11 (fun H locs hP hD hS => ?_)
      have hP : va_P (dC, dI) classes ((h0, .inr (0, [.ref ta, .int xn, .int p1, .int xtime])) :: (ta, .inl (kt, 4, .inr (.inr (.inr (.inr xf))))) :: wr) H := hP
      have hD : va_D A ((h0, .inr (0, [.ref ta, .int xn, .int p1, .int xtime])) :: (ta, .inl (kt, 4, .inr (.inr (.inr (.inr xf))))) :: wr) := hD
      refine lv_iload_n hx hb d_TL_cold_14 rfl (lv_at hl 0 rfl) ?_
      cases h
  have hl := lv_entry ([.ref h0, .int p1]) (n := 3) (Nat.le_of_ble_eq_true rfl)
  rw [lg_entry_eq]
  generalize (lg_sl ([.ref h0, .int p1]) ++ List.replicate (3 - (lg_sl ([.ref h0, .int p1])).length) Slot.unset).toArray = ls at hl ⊢
  exact key _ _ hP hD va_S.rf ls hl
