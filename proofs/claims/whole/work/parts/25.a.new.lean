theorem mw_232 : (Cond.methodLink R_Loss 1 objectInit) ∈ gx_W := List.mem_filter.mpr ⟨List.mem_of_getElem? (i := 232) (by decide +kernel), by decide +kernel⟩
theorem mw_43 : (Cond.instanceMethod objectInit) ∈ gx_W := List.mem_filter.mpr ⟨List.mem_of_getElem? (i := 43) (by decide +kernel), by decide +kernel⟩
theorem mw_44 : (Cond.code objectInit ⟨#[0xb1]⟩ 1 none) ∈ gx_W := List.mem_filter.mpr ⟨List.mem_of_getElem? (i := 44) (by decide +kernel), by decide +kernel⟩
theorem mw_195 : (Cond.methodLink R_Rod 1 objectInit) ∈ gx_W := List.mem_filter.mpr ⟨List.mem_of_getElem? (i := 195) (by decide +kernel), by decide +kernel⟩
theorem mw_255 : (Cond.methodLink R_Time 3 objectInit) ∈ gx_W := List.mem_filter.mpr ⟨List.mem_of_getElem? (i := 255) (by decide +kernel), by decide +kernel⟩
theorem mw_188 : (Cond.arrayClass .int) ∈ gx_W := List.mem_filter.mpr ⟨List.mem_of_getElem? (i := 188) (by decide +kernel), by decide +kernel⟩
theorem mw_170 : (Cond.methodLink R_Water 3 objectInit) ∈ gx_W := List.mem_filter.mpr ⟨List.mem_of_getElem? (i := 170) (by decide +kernel), by decide +kernel⟩
theorem mw_189 : (Cond.arrayClass .long) ∈ gx_W := List.mem_filter.mpr ⟨List.mem_of_getElem? (i := 189) (by decide +kernel), by decide +kernel⟩
theorem d_Loss_init_0 : decode b_Loss_init 0 = .ok (.aload_n 0, 1) := by decide +kernel
theorem d_Loss_init_1 : decode b_Loss_init 1 = .ok (.invokespecial 1, 3) := by decide +kernel
theorem d_Loss_init_4 : decode b_Loss_init 4 = .ok (.aload_n 0, 1) := by decide +kernel
theorem d_Loss_init_5 : decode b_Loss_init 5 = .ok (.iconst 1, 1) := by decide +kernel
theorem d_Loss_init_6 : decode b_Loss_init 6 = .ok (.putfield 7, 3) := by decide +kernel
theorem d_Loss_init_9 : decode b_Loss_init 9 = .ok (.return_, 1) := by decide +kernel
theorem d_Rod_init_0 : decode b_Rod_init 0 = .ok (.aload_n 0, 1) := by decide +kernel
theorem d_Rod_init_1 : decode b_Rod_init 1 = .ok (.invokespecial 1, 3) := by decide +kernel
theorem d_Rod_init_4 : decode b_Rod_init 4 = .ok (.return_, 1) := by decide +kernel
theorem d_Time_init_0 : decode b_Time_init 0 = .ok (.aload_n 0, 1) := by decide +kernel
theorem d_Time_init_1 : decode b_Time_init 1 = .ok (.invokespecial 3, 3) := by decide +kernel
theorem d_Time_init_4 : decode b_Time_init 4 = .ok (.aload_n 0, 1) := by decide +kernel
theorem d_Time_init_5 : decode b_Time_init 5 = .ok (.bipush 40, 2) := by decide +kernel
theorem d_Time_init_7 : decode b_Time_init 7 = .ok (.newarray .int, 2) := by decide +kernel
theorem d_Time_init_9 : decode b_Time_init 9 = .ok (.putfield 9, 3) := by decide +kernel
theorem d_Time_init_12 : decode b_Time_init 12 = .ok (.aload_n 0, 1) := by decide +kernel
theorem d_Time_init_13 : decode b_Time_init 13 = .ok (.bipush 40, 2) := by decide +kernel
theorem d_Time_init_15 : decode b_Time_init 15 = .ok (.newarray .int, 2) := by decide +kernel
theorem d_Time_init_17 : decode b_Time_init 17 = .ok (.putfield 15, 3) := by decide +kernel
theorem d_Time_init_20 : decode b_Time_init 20 = .ok (.return_, 1) := by decide +kernel
theorem d_Water_init_0 : decode b_Water_init 0 = .ok (.aload_n 0, 1) := by decide +kernel
theorem d_Water_init_1 : decode b_Water_init 1 = .ok (.invokespecial 3, 3) := by decide +kernel
theorem d_Water_init_4 : decode b_Water_init 4 = .ok (.aload_n 0, 1) := by decide +kernel
theorem d_Water_init_5 : decode b_Water_init 5 = .ok (.iload_n 1, 1) := by decide +kernel
theorem d_Water_init_6 : decode b_Water_init 6 = .ok (.putfield 9, 3) := by decide +kernel
theorem d_Water_init_9 : decode b_Water_init 9 = .ok (.aload_n 0, 1) := by decide +kernel
theorem d_Water_init_10 : decode b_Water_init 10 = .ok (.bipush 42, 2) := by decide +kernel
theorem d_Water_init_12 : decode b_Water_init 12 = .ok (.newarray .int, 2) := by decide +kernel
theorem d_Water_init_14 : decode b_Water_init 14 = .ok (.putfield 15, 3) := by decide +kernel
theorem d_Water_init_17 : decode b_Water_init 17 = .ok (.aload_n 0, 1) := by decide +kernel
theorem d_Water_init_18 : decode b_Water_init 18 = .ok (.bipush 42, 2) := by decide +kernel
theorem d_Water_init_20 : decode b_Water_init 20 = .ok (.newarray .long, 2) := by decide +kernel
theorem d_Water_init_22 : decode b_Water_init 22 = .ok (.putfield 19, 3) := by decide +kernel
theorem d_Water_init_25 : decode b_Water_init 25 = .ok (.aload_n 0, 1) := by decide +kernel
theorem d_Water_init_26 : decode b_Water_init 26 = .ok (.getfield 15, 3) := by decide +kernel
theorem d_Water_init_29 : decode b_Water_init 29 = .ok (.iconst 0, 1) := by decide +kernel
theorem d_Water_init_30 : decode b_Water_init 30 = .ok (.iload_n 1, 1) := by decide +kernel
theorem d_Water_init_31 : decode b_Water_init 31 = .ok (.iastore, 1) := by decide +kernel
theorem d_Water_init_32 : decode b_Water_init 32 = .ok (.aload_n 0, 1) := by decide +kernel
theorem d_Water_init_33 : decode b_Water_init 33 = .ok (.getfield 19, 3) := by decide +kernel
theorem d_Water_init_36 : decode b_Water_init 36 = .ok (.iconst 0, 1) := by decide +kernel
theorem d_Water_init_37 : decode b_Water_init 37 = .ok (.iload_n 1, 1) := by decide +kernel
theorem d_Water_init_38 : decode b_Water_init 38 = .ok (.i2l, 1) := by decide +kernel
theorem d_Water_init_39 : decode b_Water_init 39 = .ok (.iload_n 2, 1) := by decide +kernel
theorem d_Water_init_40 : decode b_Water_init 40 = .ok (.i2l, 1) := by decide +kernel
theorem d_Water_init_41 : decode b_Water_init 41 = .ok (.lmul, 1) := by decide +kernel
theorem d_Water_init_42 : decode b_Water_init 42 = .ok (.lastore, 1) := by decide +kernel
theorem d_Water_init_43 : decode b_Water_init 43 = .ok (.aload_n 0, 1) := by decide +kernel
theorem d_Water_init_44 : decode b_Water_init 44 = .ok (.iconst 1, 1) := by decide +kernel
theorem d_Water_init_45 : decode b_Water_init 45 = .ok (.putfield 23, 3) := by decide +kernel
theorem d_Water_init_48 : decode b_Water_init 48 = .ok (.return_, 1) := by decide +kernel
def fn_Loss_init (N : Nat) (lamb : Int32) (labv : Int32) (lbel : Int32) (llost : Int64) : Option (Int32 × Int32 × Int32 × Int64) :=
  some (lamb, labv, 1, llost)
def w_Loss_init : List Cond := .code y_Loss_init b_Loss_init 1 none :: gx_W
set_option maxHeartbeats 4000000 in
set_option maxRecDepth 100000 in
theorem c_Loss_init (N : Nat) (l : Launch) (dC : Nat → ClassId) (dI : Nat → Nat → Nat) (h0 : Nat) (sz : Nat) (lamb : Int32) (labv : Int32) (lbel : Int32) (llost : Int64) (res : Int32 × Int32 × Int32 × Int64) (h : fn_Loss_init N lamb labv lbel llost = some res) : Met l y_Loss_init w_Loss_init ({ frames := 1, cells := 0, slots := 0, locals := 22 } : Room) (va_Pc [.ref h0] (fun U => U.heap.size = sz ∧ va_P (dC, dI) classes [(h0, .inr (4, [.int lamb, .int labv, .int lbel, .long llost]))] U.heap ∧ va_K (dC, dI) classes [] U ∧ va_D (fun _ => True) [(h0, .inr (4, [.int lamb, .int labv, .int lbel, .long llost]))] ∧ gx_E U)) (va_Qv (fun _ : Unit => True) (fun _ t => va_P (dC, dI) classes [(h0, .inr (4, [.int res.1, .int res.2.1, .int res.2.2.1, .long res.2.2.2]))] t.heap ∧ va_K (dC, dI) classes [] t ∧ va_D (va_A [(h0, .inr (4, [.int lamb, .int labv, .int lbel, .long llost]))] sz) [(h0, .inr (4, [.int res.1, .int res.2.1, .int res.2.2.1, .long res.2.2.2]))]) (va_A [(h0, .inr (4, [.int lamb, .int labv, .int lbel, .long llost]))] sz)) 0 0 (va_A [(h0, .inr (4, [.int lamb, .int labv, .int lbel, .long llost]))] sz) := by
  refine Met.ofW (cc := b_Loss_init) (maxL := 1) (ret := none) (by decide) rfl ?_
  intro p e s m args below meth c s₁ B hml hv
  obtain ⟨rfl, hsz, hP, hK, hD0, hE⟩ := hv
  have hx := B.exec
  have hb := B.bytes
  have hr := B.returns
  have hts := atoms_spec (ws := w_Loss_init) B.pre
  have hown : s.vm.findClass R_Loss = some m.cls := findClass_of_methodNamed B.named
  have hlocks := B.notSynchronized
  have hin : meth.name = "<init>" := (name_of_methodNamed B.named B.method).1
  subst hsz
  have hD := hD0.self (sz := s.heap.size)
  generalize hAe : va_A [(h0, .inr (4, [.int lamb, .int labv, .int lbel, .long llost]))] s.heap.size = A at hD ⊢
  have hA : ∀ q : Nat, s.heap.size ≤ q → A q := fun q h => by rw [← hAe]; exact Or.inr h
  clear hAe hD0
  have key : ∀ (H : Heap) (locs : List Loc), va_P (dC, dI) classes [(h0, .inr (4, [.int lamb, .int labv, .int lbel, .long llost]))] H → va_D A [(h0, .inr (4, [.int lamb, .int labv, .int lbel, .long llost]))] → va_S A s.heap H locs → ∀ (ls : Array Slot), lv_has ls 1 [(0, .ref h0)] → W p l e ({ frames := 1, cells := 0, slots := 0, locals := 22 } : Room) s m ([.ref h0] : List Value).toArray below meth c H locs 0 0 (MQ below (va_Qv (fun _ : Unit => True) (fun _ t => va_P (dC, dI) classes [(h0, .inr (4, [.int res.1, .int res.2.1, .int res.2.2.1, .long res.2.2.2]))] t.heap ∧ va_K (dC, dI) classes [] t ∧ va_D A [(h0, .inr (4, [.int res.1, .int res.2.1, .int res.2.2.1, .long res.2.2.2]))]) A) ([.ref h0] : List Value).toArray s 0 0 A) (F0 m 0 ls []) := by
    intro H locs hP hD hS ls hl
    unfold fn_Loss_init at h
    refine lv_aload_n hx hb d_Loss_init_0 rfl (lv_at hl 0 rfl) ?_
    refine W.objInit hx hb hown (hts _ (gx_w mw_232)) (hts _ (gx_w mw_43)) (hts _ (gx_w mw_44)) rfl (by rw [hml]; exact hl.1) rfl d_Loss_init_1 (Nat.le_of_ble_eq_true rfl) (Nat.le_of_ble_eq_true rfl) ?_
    refine W.eq (g2 := F0 m 4 ls []) rfl ?_
    refine lv_aload_n hx hb d_Loss_init_4 rfl (lv_at hl 0 rfl) ?_
    refine lv_iconst (v := 1) hx hb d_Loss_init_5 (by decide) ?_
    refine va_put (D := (dC, dI)) (ci := 4) (v := .int 1) (ty := .int) (C := R_Loss) (T := F_Loss) (N := 4) hx hb hts (gx_in i_Loss) t_Loss t_Loss_ok n_Loss hown hK hP hD hS 0 rfl rfl 2 (by decide) (hts _ (gx_w mw_237)) (fun _ h9 => h9) rfl (by decide +kernel) rfl rfl (Nat.le_of_ble_eq_true rfl) d_Loss_init_6 (fun H locs hP hD hS => ?_)
    have hP : va_P (dC, dI) classes [(h0, .inr (4, [.int lamb, .int labv, .int 1, .long llost]))] H := hP
    have hD : va_D A [(h0, .inr (4, [.int lamb, .int labv, .int 1, .long llost]))] := hD
    rw [← Option.some.inj h]
    have hP9 := hP
    have hD9 := hD
    exact W.vret hx hb hr (fun t ht hW => ⟨⟨(), rfl, trivial, ⟨by rw [ht]; exact hP9, va_K.moved hW.alike hK, hD9⟩⟩, hS.F ht⟩) hS.2.2 d_Loss_init_9
  have hl := lv_entry ([.ref h0]) (n := 1) (Nat.le_of_ble_eq_true rfl)
  rw [lg_entry_eq]
  generalize (lg_sl ([.ref h0]) ++ List.replicate (1 - (lg_sl ([.ref h0])).length) Slot.unset).toArray = ls at hl ⊢
  exact key _ _ hP hD va_S.rf ls hl
def fn_Rod_init (N : Nat) (rfrom : Int32) (rto : Int32) (rheat : Int32) (rsens : Int32) (rlow : Int32) (rhigh : Int32) (ron : Int32) (rgiven : Int64) (rmin : Int32) : Option (Int32 × Int32 × Int32 × Int32 × Int32 × Int32 × Int32 × Int64 × Int32) :=
  some (rfrom, rto, rheat, rsens, rlow, rhigh, ron, rgiven, rmin)
def w_Rod_init : List Cond := .code y_Rod_init b_Rod_init 1 none :: gx_W
set_option maxHeartbeats 4000000 in
set_option maxRecDepth 100000 in
theorem c_Rod_init (N : Nat) (l : Launch) (dC : Nat → ClassId) (dI : Nat → Nat → Nat) (h0 : Nat) (sz : Nat) (rfrom : Int32) (rto : Int32) (rheat : Int32) (rsens : Int32) (rlow : Int32) (rhigh : Int32) (ron : Int32) (rgiven : Int64) (rmin : Int32) (res : Int32 × Int32 × Int32 × Int32 × Int32 × Int32 × Int32 × Int64 × Int32) (h : fn_Rod_init N rfrom rto rheat rsens rlow rhigh ron rgiven rmin = some res) : Met l y_Rod_init w_Rod_init ({ frames := 1, cells := 0, slots := 0, locals := 22 } : Room) (va_Pc [.ref h0] (fun U => U.heap.size = sz ∧ va_P (dC, dI) classes [(h0, .inr (3, [.int rfrom, .int rto, .int rheat, .int rsens, .int rlow, .int rhigh, .int ron, .long rgiven, .int rmin]))] U.heap ∧ va_K (dC, dI) classes [] U ∧ va_D (fun _ => True) [(h0, .inr (3, [.int rfrom, .int rto, .int rheat, .int rsens, .int rlow, .int rhigh, .int ron, .long rgiven, .int rmin]))] ∧ gx_E U)) (va_Qv (fun _ : Unit => True) (fun _ t => va_P (dC, dI) classes [(h0, .inr (3, [.int res.1, .int res.2.1, .int res.2.2.1, .int res.2.2.2.1, .int res.2.2.2.2.1, .int res.2.2.2.2.2.1, .int res.2.2.2.2.2.2.1, .long res.2.2.2.2.2.2.2.1, .int res.2.2.2.2.2.2.2.2]))] t.heap ∧ va_K (dC, dI) classes [] t ∧ va_D (va_A [(h0, .inr (3, [.int rfrom, .int rto, .int rheat, .int rsens, .int rlow, .int rhigh, .int ron, .long rgiven, .int rmin]))] sz) [(h0, .inr (3, [.int res.1, .int res.2.1, .int res.2.2.1, .int res.2.2.2.1, .int res.2.2.2.2.1, .int res.2.2.2.2.2.1, .int res.2.2.2.2.2.2.1, .long res.2.2.2.2.2.2.2.1, .int res.2.2.2.2.2.2.2.2]))]) (va_A [(h0, .inr (3, [.int rfrom, .int rto, .int rheat, .int rsens, .int rlow, .int rhigh, .int ron, .long rgiven, .int rmin]))] sz)) 0 0 (va_A [(h0, .inr (3, [.int rfrom, .int rto, .int rheat, .int rsens, .int rlow, .int rhigh, .int ron, .long rgiven, .int rmin]))] sz) := by
  refine Met.ofW (cc := b_Rod_init) (maxL := 1) (ret := none) (by decide) rfl ?_
  intro p e s m args below meth c s₁ B hml hv
  obtain ⟨rfl, hsz, hP, hK, hD0, hE⟩ := hv
  have hx := B.exec
  have hb := B.bytes
  have hr := B.returns
  have hts := atoms_spec (ws := w_Rod_init) B.pre
  have hown : s.vm.findClass R_Rod = some m.cls := findClass_of_methodNamed B.named
  have hlocks := B.notSynchronized
  have hin : meth.name = "<init>" := (name_of_methodNamed B.named B.method).1
  subst hsz
  have hD := hD0.self (sz := s.heap.size)
  generalize hAe : va_A [(h0, .inr (3, [.int rfrom, .int rto, .int rheat, .int rsens, .int rlow, .int rhigh, .int ron, .long rgiven, .int rmin]))] s.heap.size = A at hD ⊢
  have hA : ∀ q : Nat, s.heap.size ≤ q → A q := fun q h => by rw [← hAe]; exact Or.inr h
  clear hAe hD0
  have key : ∀ (H : Heap) (locs : List Loc), va_P (dC, dI) classes [(h0, .inr (3, [.int rfrom, .int rto, .int rheat, .int rsens, .int rlow, .int rhigh, .int ron, .long rgiven, .int rmin]))] H → va_D A [(h0, .inr (3, [.int rfrom, .int rto, .int rheat, .int rsens, .int rlow, .int rhigh, .int ron, .long rgiven, .int rmin]))] → va_S A s.heap H locs → ∀ (ls : Array Slot), lv_has ls 1 [(0, .ref h0)] → W p l e ({ frames := 1, cells := 0, slots := 0, locals := 22 } : Room) s m ([.ref h0] : List Value).toArray below meth c H locs 0 0 (MQ below (va_Qv (fun _ : Unit => True) (fun _ t => va_P (dC, dI) classes [(h0, .inr (3, [.int res.1, .int res.2.1, .int res.2.2.1, .int res.2.2.2.1, .int res.2.2.2.2.1, .int res.2.2.2.2.2.1, .int res.2.2.2.2.2.2.1, .long res.2.2.2.2.2.2.2.1, .int res.2.2.2.2.2.2.2.2]))] t.heap ∧ va_K (dC, dI) classes [] t ∧ va_D A [(h0, .inr (3, [.int res.1, .int res.2.1, .int res.2.2.1, .int res.2.2.2.1, .int res.2.2.2.2.1, .int res.2.2.2.2.2.1, .int res.2.2.2.2.2.2.1, .long res.2.2.2.2.2.2.2.1, .int res.2.2.2.2.2.2.2.2]))]) A) ([.ref h0] : List Value).toArray s 0 0 A) (F0 m 0 ls []) := by
    intro H locs hP hD hS ls hl
    unfold fn_Rod_init at h
    refine lv_aload_n hx hb d_Rod_init_0 rfl (lv_at hl 0 rfl) ?_
    refine W.objInit hx hb hown (hts _ (gx_w mw_195)) (hts _ (gx_w mw_43)) (hts _ (gx_w mw_44)) rfl (by rw [hml]; exact hl.1) rfl d_Rod_init_1 (Nat.le_of_ble_eq_true rfl) (Nat.le_of_ble_eq_true rfl) ?_
    refine W.eq (g2 := F0 m 4 ls []) rfl ?_
    rw [← Option.some.inj h]
    have hP9 := hP
    have hD9 := hD
    exact W.vret hx hb hr (fun t ht hW => ⟨⟨(), rfl, trivial, ⟨by rw [ht]; exact hP9, va_K.moved hW.alike hK, hD9⟩⟩, hS.F ht⟩) hS.2.2 d_Rod_init_4
  have hl := lv_entry ([.ref h0]) (n := 1) (Nat.le_of_ble_eq_true rfl)
  rw [lg_entry_eq]
  generalize (lg_sl ([.ref h0]) ++ List.replicate (1 - (lg_sl ([.ref h0])).length) Slot.unset).toArray = ls at hl ⊢
  exact key _ _ hP hD va_S.rf ls hl
def fn_Time_init (N : Nat) : Option (Int32 × (Nat → Int32) × (Nat → Int32)) :=
  some (0, (fun _ => 0), (fun _ => 0))
def w_Time_init : List Cond := .code y_Time_init b_Time_init 1 none :: gx_W
set_option maxHeartbeats 4000000 in
set_option maxRecDepth 100000 in
theorem c_Time_init (N : Nat) (l : Launch) (dC : Nat → ClassId) (dI : Nat → Nat → Nat) (h0 : Nat) (sz : Nat) (res : Int32 × (Nat → Int32) × (Nat → Int32)) (h : fn_Time_init N = some res) : Met l y_Time_init w_Time_init ({ frames := 1, cells := 2, slots := 80, locals := 22 } : Room) (va_Pc [.ref h0] (fun U => U.heap.size = sz ∧ va_P (dC, dI) classes [(h0, .inr (5, [.null, .null, .int 0]))] U.heap ∧ va_K (dC, dI) classes [] U ∧ va_D (fun _ => True) [(h0, .inr (5, [.null, .null, .int 0]))] ∧ gx_E U)) (va_Qv (fun _ : Nat × Nat × ClassId × ClassId => True) (fun u t => va_P (dC, dI) classes [(h0, .inr (5, [.ref u.1, .ref u.2.1, .int res.1])), (u.1, .inl (u.2.2.1, 40, .inl res.2.1)), (u.2.1, .inl (u.2.2.2, 40, .inl res.2.2))] t.heap ∧ va_K (dC, dI) classes [(u.2.2.1, .int), (u.2.2.2, .int)] t ∧ va_D (va_A [(h0, .inr (5, [.null, .null, .int 0]))] sz) [(h0, .inr (5, [.ref u.1, .ref u.2.1, .int res.1])), (u.1, .inl (u.2.2.1, 40, .inl res.2.1)), (u.2.1, .inl (u.2.2.2, 40, .inl res.2.2))]) (va_A [(h0, .inr (5, [.null, .null, .int 0]))] sz)) 2 80 (va_A [(h0, .inr (5, [.null, .null, .int 0]))] sz) := by
  refine Met.ofW (cc := b_Time_init) (maxL := 1) (ret := none) (by decide) rfl ?_
  intro p e s m args below meth c s₁ B hml hv
  obtain ⟨rfl, hsz, hP, hK, hD0, hE⟩ := hv
  have hx := B.exec
  have hb := B.bytes
  have hr := B.returns
  have hts := atoms_spec (ws := w_Time_init) B.pre
  have hown : s.vm.findClass R_Time = some m.cls := findClass_of_methodNamed B.named
  have hlocks := B.notSynchronized
  have hin : meth.name = "<init>" := (name_of_methodNamed B.named B.method).1
  subst hsz
  have hD := hD0.self (sz := s.heap.size)
  generalize hAe : va_A [(h0, .inr (5, [.null, .null, .int 0]))] s.heap.size = A at hD ⊢
  have hA : ∀ q : Nat, s.heap.size ≤ q → A q := fun q h => by rw [← hAe]; exact Or.inr h
  clear hAe hD0
  have key : ∀ (H : Heap) (locs : List Loc), va_P (dC, dI) classes [(h0, .inr (5, [.null, .null, .int 0]))] H → va_D A [(h0, .inr (5, [.null, .null, .int 0]))] → va_S A s.heap H locs → ∀ (ls : Array Slot), lv_has ls 1 [(0, .ref h0)] → W p l e ({ frames := 1, cells := 2, slots := 80, locals := 22 } : Room) s m ([.ref h0] : List Value).toArray below meth c H locs 0 0 (MQ below (va_Qv (fun _ : Nat × Nat × ClassId × ClassId => True) (fun u t => va_P (dC, dI) classes [(h0, .inr (5, [.ref u.1, .ref u.2.1, .int res.1])), (u.1, .inl (u.2.2.1, 40, .inl res.2.1)), (u.2.1, .inl (u.2.2.2, 40, .inl res.2.2))] t.heap ∧ va_K (dC, dI) classes [(u.2.2.1, .int), (u.2.2.2, .int)] t ∧ va_D A [(h0, .inr (5, [.ref u.1, .ref u.2.1, .int res.1])), (u.1, .inl (u.2.2.1, 40, .inl res.2.1)), (u.2.1, .inl (u.2.2.2, 40, .inl res.2.2))]) A) ([.ref h0] : List Value).toArray s 2 80 A) (F0 m 0 ls []) := by
    intro H locs hP hD hS ls hl
    unfold fn_Time_init at h
    refine lv_aload_n hx hb d_Time_init_0 rfl (lv_at hl 0 rfl) ?_
    refine W.objInit hx hb hown (hts _ (gx_w mw_255)) (hts _ (gx_w mw_43)) (hts _ (gx_w mw_44)) rfl (by rw [hml]; exact hl.1) rfl d_Time_init_1 (Nat.le_of_ble_eq_true rfl) (Nat.le_of_ble_eq_true rfl) ?_
    refine W.eq (g2 := F0 m 4 ls []) rfl ?_
    refine lv_aload_n hx hb d_Time_init_4 rfl (lv_at hl 0 rfl) ?_
    refine lv_bipush (v := 40) hx hb d_Time_init_5 (by decide) ?_
    refine va_newa (atype := .int) (ty := .int) (a0 := (40, .inl (fun _ => 0))) (N' := 40) hx hb (hts _ (gx_w mw_188)) rfl hK hP hD hS hA (fun _ => rfl) (by decide) (by decide) (Nat.le_of_ble_eq_true rfl) (Nat.le_of_ble_eq_true rfl) (Nat.le_of_ble_eq_true rfl) d_Time_init_7 (fun q1n k1n H hK hP hD hS => ?_)
    have hK : va_K (dC, dI) classes [(k1n, .int)] s := hK
    have hP : va_P (dC, dI) classes [(h0, .inr (5, [.null, .null, .int 0])), (q1n, .inl (k1n, 40, .inl (fun _ => 0)))] H := hP
    have hD : va_D A [(h0, .inr (5, [.null, .null, .int 0])), (q1n, .inl (k1n, 40, .inl (fun _ => 0)))] := hD
    refine va_putF (D := (dC, dI)) (ci := 5) (v := .ref q1n) (ty := .array .int) (C := R_Time) (T := F_Time) (N := 3) hx hb hts (gx_in i_Time) t_Time t_Time_ok n_Time hown hK hP hD hS 0 rfl rfl 0 (by decide) (hts _ (gx_w mw_256)) (fun _ h9 => h9) rfl hin rfl (by decide +kernel) rfl rfl (Nat.le_of_ble_eq_true rfl) d_Time_init_9 (fun H locs hP hD hS => ?_)
    have hP : va_P (dC, dI) classes [(h0, .inr (5, [.ref q1n, .null, .int 0])), (q1n, .inl (k1n, 40, .inl (fun _ => 0)))] H := hP
    have hD : va_D A [(h0, .inr (5, [.ref q1n, .null, .int 0])), (q1n, .inl (k1n, 40, .inl (fun _ => 0)))] := hD
    refine lv_aload_n hx hb d_Time_init_12 rfl (lv_at hl 0 rfl) ?_
    refine lv_bipush (v := 40) hx hb d_Time_init_13 (by decide) ?_
    refine va_newa (atype := .int) (ty := .int) (a0 := (40, .inl (fun _ => 0))) (N' := 40) hx hb (hts _ (gx_w mw_188)) rfl hK hP hD hS hA (fun _ => rfl) (by decide) (by decide) (Nat.le_of_ble_eq_true rfl) (Nat.le_of_ble_eq_true rfl) (Nat.le_of_ble_eq_true rfl) d_Time_init_15 (fun q2n k2n H hK hP hD hS => ?_)
    have hK : va_K (dC, dI) classes [(k1n, .int), (k2n, .int)] s := hK
    have hP : va_P (dC, dI) classes [(h0, .inr (5, [.ref q1n, .null, .int 0])), (q1n, .inl (k1n, 40, .inl (fun _ => 0))), (q2n, .inl (k2n, 40, .inl (fun _ => 0)))] H := hP
    have hD : va_D A [(h0, .inr (5, [.ref q1n, .null, .int 0])), (q1n, .inl (k1n, 40, .inl (fun _ => 0))), (q2n, .inl (k2n, 40, .inl (fun _ => 0)))] := hD
    refine va_putF (D := (dC, dI)) (ci := 5) (v := .ref q2n) (ty := .array .int) (C := R_Time) (T := F_Time) (N := 3) hx hb hts (gx_in i_Time) t_Time t_Time_ok n_Time hown hK hP hD hS 0 rfl rfl 1 (by decide) (hts _ (gx_w mw_257)) (fun _ h9 => h9) rfl hin rfl (by decide +kernel) rfl rfl (Nat.le_of_ble_eq_true rfl) d_Time_init_17 (fun H locs hP hD hS => ?_)
    have hP : va_P (dC, dI) classes [(h0, .inr (5, [.ref q1n, .ref q2n, .int 0])), (q1n, .inl (k1n, 40, .inl (fun _ => 0))), (q2n, .inl (k2n, 40, .inl (fun _ => 0)))] H := hP
    have hD : va_D A [(h0, .inr (5, [.ref q1n, .ref q2n, .int 0])), (q1n, .inl (k1n, 40, .inl (fun _ => 0))), (q2n, .inl (k2n, 40, .inl (fun _ => 0)))] := hD
    rw [← Option.some.inj h]
    have hP9 := hP
    have hD9 := hD
    have hK9 := hK.sub (tys' := [(k1n, .int), (k2n, .int)]) [0, 1] rfl
    refine W.widen (k := 2) (n := 80) (Nat.le_of_ble_eq_true rfl) (Nat.le_of_ble_eq_true rfl) ?_
    exact W.vret hx hb hr (fun t ht hW => ⟨⟨(q1n, q2n, k1n, k2n), rfl, trivial, by rw [ht]; exact hP9, va_K.moved hW.alike hK9, hD9⟩, hS.F ht⟩) hS.2.2 d_Time_init_20
  have hl := lv_entry ([.ref h0]) (n := 1) (Nat.le_of_ble_eq_true rfl)
  rw [lg_entry_eq]
  generalize (lg_sl ([.ref h0]) ++ List.replicate (1 - (lg_sl ([.ref h0])).length) Slot.unset).toArray = ls at hl ⊢
  exact key _ _ hP hD va_S.rf ls hl
def fn_Water_init (N : Nat) (p1 : Int32) (p2 : Int32) : Option (Int32 × Int32 × (Nat → Int32) × (Nat → Int64)) :=
  if gx_inb 0 42 = true then if gx_inb 0 42 = true then some (p1, 1, upd (fun _ => 0) (0 : Int32).toNatClampNeg p1, vp_updL (fun _ => 0) (0 : Int32).toNatClampNeg (p1.toInt64 * p2.toInt64)) else none else none
def w_Water_init : List Cond := .code y_Water_init b_Water_init 3 none :: gx_W
set_option maxHeartbeats 4000000 in
set_option maxRecDepth 100000 in
theorem c_Water_init (N : Nat) (l : Launch) (dC : Nat → ClassId) (dI : Nat → Nat → Nat) (h0 : Nat) (sz : Nat) (p1 : Int32) (p2 : Int32) (res : Int32 × Int32 × (Nat → Int32) × (Nat → Int64)) (h : fn_Water_init N p1 p2 = some res) : Met l y_Water_init w_Water_init ({ frames := 1, cells := 2, slots := 86, locals := 22 } : Room) (va_Pc [.ref h0, .int p1, .int p2] (fun U => U.heap.size = sz ∧ va_P (dC, dI) classes [(h0, .inr (2, [.int 0, .null, .null, .int 0]))] U.heap ∧ va_K (dC, dI) classes [] U ∧ va_D (fun _ => True) [(h0, .inr (2, [.int 0, .null, .null, .int 0]))] ∧ gx_E U)) (va_Qv (fun _ : Nat × Nat × ClassId × ClassId => True) (fun u t => va_P (dC, dI) classes [(h0, .inr (2, [.int res.1, .ref u.1, .ref u.2.1, .int res.2.1])), (u.1, .inl (u.2.2.1, 42, .inl res.2.2.1)), (u.2.1, .inl (u.2.2.2, 42, .inr (.inl res.2.2.2)))] t.heap ∧ va_K (dC, dI) classes [(u.2.2.1, .int), (u.2.2.2, .long)] t ∧ va_D (va_A [(h0, .inr (2, [.int 0, .null, .null, .int 0]))] sz) [(h0, .inr (2, [.int res.1, .ref u.1, .ref u.2.1, .int res.2.1])), (u.1, .inl (u.2.2.1, 42, .inl res.2.2.1)), (u.2.1, .inl (u.2.2.2, 42, .inr (.inl res.2.2.2)))]) (va_A [(h0, .inr (2, [.int 0, .null, .null, .int 0]))] sz)) 2 86 (va_A [(h0, .inr (2, [.int 0, .null, .null, .int 0]))] sz) := by
  refine Met.ofW (cc := b_Water_init) (maxL := 3) (ret := none) (by decide) rfl ?_
  intro p e s m args below meth c s₁ B hml hv
  obtain ⟨rfl, hsz, hP, hK, hD0, hE⟩ := hv
  have hx := B.exec
  have hb := B.bytes
  have hr := B.returns
  have hts := atoms_spec (ws := w_Water_init) B.pre
  have hown : s.vm.findClass R_Water = some m.cls := findClass_of_methodNamed B.named
  have hlocks := B.notSynchronized
  have hin : meth.name = "<init>" := (name_of_methodNamed B.named B.method).1
  subst hsz
  have hD := hD0.self (sz := s.heap.size)
  generalize hAe : va_A [(h0, .inr (2, [.int 0, .null, .null, .int 0]))] s.heap.size = A at hD ⊢
  have hA : ∀ q : Nat, s.heap.size ≤ q → A q := fun q h => by rw [← hAe]; exact Or.inr h
  clear hAe hD0
  have key : ∀ (H : Heap) (locs : List Loc), va_P (dC, dI) classes [(h0, .inr (2, [.int 0, .null, .null, .int 0]))] H → va_D A [(h0, .inr (2, [.int 0, .null, .null, .int 0]))] → va_S A s.heap H locs → ∀ (ls : Array Slot), lv_has ls 3 [(0, .ref h0), (1, .int p1), (2, .int p2)] → W p l e ({ frames := 1, cells := 2, slots := 86, locals := 22 } : Room) s m ([.ref h0, .int p1, .int p2] : List Value).toArray below meth c H locs 0 0 (MQ below (va_Qv (fun _ : Nat × Nat × ClassId × ClassId => True) (fun u t => va_P (dC, dI) classes [(h0, .inr (2, [.int res.1, .ref u.1, .ref u.2.1, .int res.2.1])), (u.1, .inl (u.2.2.1, 42, .inl res.2.2.1)), (u.2.1, .inl (u.2.2.2, 42, .inr (.inl res.2.2.2)))] t.heap ∧ va_K (dC, dI) classes [(u.2.2.1, .int), (u.2.2.2, .long)] t ∧ va_D A [(h0, .inr (2, [.int res.1, .ref u.1, .ref u.2.1, .int res.2.1])), (u.1, .inl (u.2.2.1, 42, .inl res.2.2.1)), (u.2.1, .inl (u.2.2.2, 42, .inr (.inl res.2.2.2)))]) A) ([.ref h0, .int p1, .int p2] : List Value).toArray s 2 86 A) (F0 m 0 ls []) := by
    intro H locs hP hD hS ls hl
    unfold fn_Water_init at h
    refine lv_aload_n hx hb d_Water_init_0 rfl (lv_at hl 0 rfl) ?_
    refine W.objInit hx hb hown (hts _ (gx_w mw_170)) (hts _ (gx_w mw_43)) (hts _ (gx_w mw_44)) rfl (by rw [hml]; exact hl.1) rfl d_Water_init_1 (Nat.le_of_ble_eq_true rfl) (Nat.le_of_ble_eq_true rfl) ?_
    refine W.eq (g2 := F0 m 4 ls []) rfl ?_
    refine lv_aload_n hx hb d_Water_init_4 rfl (lv_at hl 0 rfl) ?_
    refine lv_iload_n hx hb d_Water_init_5 rfl (lv_at hl 1 rfl) ?_
    refine va_putF (D := (dC, dI)) (ci := 2) (v := .int p1) (ty := .int) (C := R_Water) (T := F_Water) (N := 4) hx hb hts (gx_in i_Water) t_Water t_Water_ok n_Water hown hK hP hD hS 0 rfl rfl 0 (by decide) (hts _ (gx_w mw_171)) (fun _ h9 => h9) rfl hin rfl (by decide +kernel) rfl rfl (Nat.le_of_ble_eq_true rfl) d_Water_init_6 (fun H locs hP hD hS => ?_)
    have hP : va_P (dC, dI) classes [(h0, .inr (2, [.int p1, .null, .null, .int 0]))] H := hP
    have hD : va_D A [(h0, .inr (2, [.int p1, .null, .null, .int 0]))] := hD
    refine lv_aload_n hx hb d_Water_init_9 rfl (lv_at hl 0 rfl) ?_
    refine lv_bipush (v := 42) hx hb d_Water_init_10 (by decide) ?_
    refine va_newa (atype := .int) (ty := .int) (a0 := (42, .inl (fun _ => 0))) (N' := 42) hx hb (hts _ (gx_w mw_188)) rfl hK hP hD hS hA (fun _ => rfl) (by decide) (by decide) (Nat.le_of_ble_eq_true rfl) (Nat.le_of_ble_eq_true rfl) (Nat.le_of_ble_eq_true rfl) d_Water_init_12 (fun q1n k1n H hK hP hD hS => ?_)
    have hK : va_K (dC, dI) classes [(k1n, .int)] s := hK
    have hP : va_P (dC, dI) classes [(h0, .inr (2, [.int p1, .null, .null, .int 0])), (q1n, .inl (k1n, 42, .inl (fun _ => 0)))] H := hP
    have hD : va_D A [(h0, .inr (2, [.int p1, .null, .null, .int 0])), (q1n, .inl (k1n, 42, .inl (fun _ => 0)))] := hD
    refine va_putF (D := (dC, dI)) (ci := 2) (v := .ref q1n) (ty := .array .int) (C := R_Water) (T := F_Water) (N := 4) hx hb hts (gx_in i_Water) t_Water t_Water_ok n_Water hown hK hP hD hS 0 rfl rfl 1 (by decide) (hts _ (gx_w mw_173)) (fun _ h9 => h9) rfl hin rfl (by decide +kernel) rfl rfl (Nat.le_of_ble_eq_true rfl) d_Water_init_14 (fun H locs hP hD hS => ?_)
    have hP : va_P (dC, dI) classes [(h0, .inr (2, [.int p1, .ref q1n, .null, .int 0])), (q1n, .inl (k1n, 42, .inl (fun _ => 0)))] H := hP
    have hD : va_D A [(h0, .inr (2, [.int p1, .ref q1n, .null, .int 0])), (q1n, .inl (k1n, 42, .inl (fun _ => 0)))] := hD
    refine lv_aload_n hx hb d_Water_init_17 rfl (lv_at hl 0 rfl) ?_
    refine lv_bipush (v := 42) hx hb d_Water_init_18 (by decide) ?_
    refine va_newa (atype := .long) (ty := .long) (a0 := (42, .inr (.inl (fun _ => 0)))) (N' := 42) hx hb (hts _ (gx_w mw_189)) rfl hK hP hD hS hA (fun _ => rfl) (by decide) (by decide) (Nat.le_of_ble_eq_true rfl) (Nat.le_of_ble_eq_true rfl) (Nat.le_of_ble_eq_true rfl) d_Water_init_20 (fun q2n k2n H hK hP hD hS => ?_)
    have hK : va_K (dC, dI) classes [(k1n, .int), (k2n, .long)] s := hK
    have hP : va_P (dC, dI) classes [(h0, .inr (2, [.int p1, .ref q1n, .null, .int 0])), (q1n, .inl (k1n, 42, .inl (fun _ => 0))), (q2n, .inl (k2n, 42, .inr (.inl (fun _ => 0))))] H := hP
    have hD : va_D A [(h0, .inr (2, [.int p1, .ref q1n, .null, .int 0])), (q1n, .inl (k1n, 42, .inl (fun _ => 0))), (q2n, .inl (k2n, 42, .inr (.inl (fun _ => 0))))] := hD
    refine va_putF (D := (dC, dI)) (ci := 2) (v := .ref q2n) (ty := .array .long) (C := R_Water) (T := F_Water) (N := 4) hx hb hts (gx_in i_Water) t_Water t_Water_ok n_Water hown hK hP hD hS 0 rfl rfl 2 (by decide) (hts _ (gx_w mw_175)) (fun _ h9 => h9) rfl hin rfl (by decide +kernel) rfl rfl (Nat.le_of_ble_eq_true rfl) d_Water_init_22 (fun H locs hP hD hS => ?_)
    have hP : va_P (dC, dI) classes [(h0, .inr (2, [.int p1, .ref q1n, .ref q2n, .int 0])), (q1n, .inl (k1n, 42, .inl (fun _ => 0))), (q2n, .inl (k2n, 42, .inr (.inl (fun _ => 0))))] H := hP
    have hD : va_D A [(h0, .inr (2, [.int p1, .ref q1n, .ref q2n, .int 0])), (q1n, .inl (k1n, 42, .inl (fun _ => 0))), (q2n, .inl (k2n, 42, .inr (.inl (fun _ => 0))))] := hD
    refine lv_aload_n hx hb d_Water_init_25 rfl (lv_at hl 0 rfl) ?_
    refine va_get (D := (dC, dI)) (ci := 2) (v := .ref q1n) (C := R_Water) (T := F_Water) (N := 4) hx hb hts (gx_in i_Water) hown hK hP 0 rfl rfl 1 (by decide) (hts _ (gx_w mw_173)) (fun _ h9 => h9) rfl d_Water_init_26 ?_
    refine lv_iconst (v := 0) hx hb d_Water_init_29 (by decide) ?_
    refine lv_iload_n hx hb d_Water_init_30 rfl (lv_at hl 1 rfl) ?_
    obtain ⟨hi3, h⟩ := gx_inb_of h
    refine va_iast hx hb hK hP hD hS 1 0 rfl rfl hi3 d_Water_init_31 (fun H locs hP hD hS => ?_)
    have hP : va_P (dC, dI) classes [(h0, .inr (2, [.int p1, .ref q1n, .ref q2n, .int 0])), (q1n, .inl (k1n, 42, .inl (upd (fun _ => 0) (0 : Int32).toNatClampNeg p1))), (q2n, .inl (k2n, 42, .inr (.inl (fun _ => 0))))] H := hP
    have hD : va_D A [(h0, .inr (2, [.int p1, .ref q1n, .ref q2n, .int 0])), (q1n, .inl (k1n, 42, .inl (upd (fun _ => 0) (0 : Int32).toNatClampNeg p1))), (q2n, .inl (k2n, 42, .inr (.inl (fun _ => 0))))] := hD
    refine lv_aload_n hx hb d_Water_init_32 rfl (lv_at hl 0 rfl) ?_
    refine va_get (D := (dC, dI)) (ci := 2) (v := .ref q2n) (C := R_Water) (T := F_Water) (N := 4) hx hb hts (gx_in i_Water) hown hK hP 0 rfl rfl 2 (by decide) (hts _ (gx_w mw_175)) (fun _ h9 => h9) rfl d_Water_init_33 ?_
    refine lv_iconst (v := 0) hx hb d_Water_init_36 (by decide) ?_
    refine lv_iload_n hx hb d_Water_init_37 rfl (lv_at hl 1 rfl) ?_
    refine lv_i2l (v := p1.toInt64) hx hb d_Water_init_38 rfl ?_
    refine lv_iload_n hx hb d_Water_init_39 rfl (lv_at hl 2 rfl) ?_
    refine lv_i2l (v := p2.toInt64) hx hb d_Water_init_40 rfl ?_
    refine lv_lmul hx hb d_Water_init_41 ?_
    obtain ⟨hi4, h⟩ := gx_inb_of h
    refine va_last hx hb hK hP hD hS 2 1 rfl rfl hi4 d_Water_init_42 (fun H locs hP hD hS => ?_)
    have hP : va_P (dC, dI) classes [(h0, .inr (2, [.int p1, .ref q1n, .ref q2n, .int 0])), (q1n, .inl (k1n, 42, .inl (upd (fun _ => 0) (0 : Int32).toNatClampNeg p1))), (q2n, .inl (k2n, 42, .inr (.inl (vp_updL (fun _ => 0) (0 : Int32).toNatClampNeg (p1.toInt64 * p2.toInt64)))))] H := hP
    have hD : va_D A [(h0, .inr (2, [.int p1, .ref q1n, .ref q2n, .int 0])), (q1n, .inl (k1n, 42, .inl (upd (fun _ => 0) (0 : Int32).toNatClampNeg p1))), (q2n, .inl (k2n, 42, .inr (.inl (vp_updL (fun _ => 0) (0 : Int32).toNatClampNeg (p1.toInt64 * p2.toInt64)))))] := hD
    refine lv_aload_n hx hb d_Water_init_43 rfl (lv_at hl 0 rfl) ?_
    refine lv_iconst (v := 1) hx hb d_Water_init_44 (by decide) ?_
    refine va_put (D := (dC, dI)) (ci := 2) (v := .int 1) (ty := .int) (C := R_Water) (T := F_Water) (N := 4) hx hb hts (gx_in i_Water) t_Water t_Water_ok n_Water hown hK hP hD hS 0 rfl rfl 3 (by decide) (hts _ (gx_w mw_177)) (fun _ h9 => h9) rfl (by decide +kernel) rfl rfl (Nat.le_of_ble_eq_true rfl) d_Water_init_45 (fun H locs hP hD hS => ?_)
    have hP : va_P (dC, dI) classes [(h0, .inr (2, [.int p1, .ref q1n, .ref q2n, .int 1])), (q1n, .inl (k1n, 42, .inl (upd (fun _ => 0) (0 : Int32).toNatClampNeg p1))), (q2n, .inl (k2n, 42, .inr (.inl (vp_updL (fun _ => 0) (0 : Int32).toNatClampNeg (p1.toInt64 * p2.toInt64)))))] H := hP
    have hD : va_D A [(h0, .inr (2, [.int p1, .ref q1n, .ref q2n, .int 1])), (q1n, .inl (k1n, 42, .inl (upd (fun _ => 0) (0 : Int32).toNatClampNeg p1))), (q2n, .inl (k2n, 42, .inr (.inl (vp_updL (fun _ => 0) (0 : Int32).toNatClampNeg (p1.toInt64 * p2.toInt64)))))] := hD
    rw [← Option.some.inj h]
    have hP9 := hP
    have hD9 := hD
    have hK9 := hK.sub (tys' := [(k1n, .int), (k2n, .long)]) [0, 1] rfl
    refine W.widen (k := 2) (n := 86) (Nat.le_of_ble_eq_true rfl) (Nat.le_of_ble_eq_true rfl) ?_
    exact W.vret hx hb hr (fun t ht hW => ⟨⟨(q1n, q2n, k1n, k2n), rfl, trivial, by rw [ht]; exact hP9, va_K.moved hW.alike hK9, hD9⟩, hS.F ht⟩) hS.2.2 d_Water_init_48
  have hl := lv_entry ([.ref h0, .int p1, .int p2]) (n := 3) (Nat.le_of_ble_eq_true rfl)
  rw [lg_entry_eq]
  generalize (lg_sl ([.ref h0, .int p1, .int p2]) ++ List.replicate (3 - (lg_sl ([.ref h0, .int p1, .int p2])).length) Slot.unset).toArray = ls at hl ⊢
  exact key _ _ hP hD va_S.rf ls hl
