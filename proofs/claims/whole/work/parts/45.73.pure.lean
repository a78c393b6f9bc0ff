theorem i3_sub1 {a : Nat} (h : 1 ≤ a) : i3 a - 1 = i3 (a - 1) := i3_sub (b := 1) h
def GK (F : Nat) (L : List Lay) (D : List (Nat × Nat)) (rh f u sn : Nat) (rlow rhigh lamb labv lbel : Int32) (P : Nat) : Prop := 10 ≤ F ∧ Row F L ∧ Td F D ∧ RodOk F rh f u sn rlow rhigh ∧ LossOk lamb labv lbel ∧ Pt L ≤ P
def CK (F : Nat) (L : List Lay) (D : List (Nat × Nat)) (rh f u sn : Nat) (on : Bool) (full cnt : Int32) (vf : Nat → Int32) (hf : Nat → Int64) (rfrom rto rheat rsens ron tcnt : Int32) (mf pf : Nat → Int32) : Prop := full = i3 F ∧ cnt = i3 L.length ∧ Rg i3 vf hf 0 L ∧ rfrom = i3 f ∧ rto = i3 u ∧ rheat = i3 rh ∧ rsens = i3 sn ∧ ron = bI on ∧ tcnt = i3 D.length ∧ Rt mf pf 0 D
def QS (t : Nat) (F : Nat) (D : List (Nat × Nat)) (rh f u sn : Nat) (rlow rhigh lamb labv lbel : Int32) (qV qamb qab qbe qrf qrt qrh qrs qrl qru qdr qdc : Nat → Int32) : Prop := qV t = i3 F ∧ qamb t = lamb ∧ qab t = labv ∧ qbe t = lbel ∧ qrf t = i3 f ∧ qrt t = i3 u ∧ qrh t = i3 rh ∧ qrs t = i3 sn ∧ qrl t = rlow ∧ qru t = rhigh ∧ (∀ m, m < 1440 → qdr (1440 * t + m) = i3 (lk m D)) ∧ qdc t = i3 D.length
def QD (t : Nat) (on : Bool) (dpar dheat rgiven llost : Int64) (rmin : Int32) (qon : Nat → Int32) (qdn qdh qgi qlo : Nat → Int64) (qom : Nat → Int32) : Prop := qon t = bI on ∧ qdn t = dpar ∧ qdh t = dheat ∧ qgi t = rgiven ∧ qlo t = llost ∧ qom t = rmin
def TR (t P : Nat) (dpar dheat : Int64) (full cnt : Int32) (vf : Nat → Int32) (hf : Nat → Int64) (rfrom rto rheat rsens rlow rhigh ron : Int32) (rgiven : Int64) (rmin lamb labv lbel : Int32) (llost : Int64) (tcnt : Int32) (mf pf : Nat → Int32) (qV qM : Nat → Int32) (qvol qh : Nat → Int64) (qamb qab qbe qrf qrt qrh qrs qrl qru qon qdr qdc : Nat → Int32) (qdn qdh qgi qlo : Nat → Int64) (qom : Nat → Int32) : Prop := ∃ (F : Nat) (L : List Lay) (D : List (Nat × Nat)) (rh f u sn : Nat) (on : Bool), GK F L D rh f u sn rlow rhigh lamb labv lbel P ∧ CK F L D rh f u sn on full cnt vf hf rfrom rto rheat rsens ron tcnt mf pf ∧ QS t F D rh f u sn rlow rhigh lamb labv lbel qV qamb qab qbe qrf qrt qrh qrs qrl qru qdr qdc ∧ QD t on dpar dheat rgiven llost rmin qon qdn qdh qgi qlo qom ∧ Mrow t qM qvol qh L
theorem req_ok {N : Nat} {p a b : Int32} (h1 : a ≤ p) (h2 : p ≤ b) : fn_TL_requireWithin N p a b = some (.inr ()) := by
  unfold fn_TL_requireWithin
  rw [if_neg (Int32.not_lt.mpr h1), if_pos h2]
theorem req_no {N : Nat} {p a b : Int32} (h : ¬ (a ≤ p ∧ p ≤ b)) : fn_TL_requireWithin N p a b = some (.inl 1) := by
  unfold fn_TL_requireWithin
  by_cases c : p < a
  · rw [if_pos c]
  · rw [if_neg c, if_neg (fun d => h ⟨Int32.not_lt.mp c, d⟩)]
theorem in_ok {N : Nat} {p a b : Int32} (h1 : a ≤ p) (h2 : p ≤ b) : fn_Mod_in N p a b = some 1 := by
  unfold fn_Mod_in
  rw [if_neg (Int32.not_lt.mpr h1), if_neg (Int32.not_lt.mpr h2)]
theorem in_no {N : Nat} {p a b : Int32} (h : ¬ (a ≤ p ∧ p ≤ b)) : fn_Mod_in N p a b = some 0 := by
  unfold fn_Mod_in
  by_cases c : p < a
  · rw [if_pos c]
  · rw [if_neg c, if_pos (by
      by_cases d : b < p
      · exact d
      · exact absurd ⟨Int32.not_lt.mp c, Int32.not_lt.mp d⟩ h)]
theorem nar1 : vp_nar .boolean 1 = 1 := by decide
theorem nar0 : vp_nar .boolean 0 = 0 := by decide
theorem tempT_ok {N : Nat} {p : Int32} (h1 : -1000 ≤ p) (h2 : p ≤ 200000) : fn_TL_requireTemperature N p = some (.inr ()) := by
  unfold fn_TL_requireTemperature
  rw [req_ok h1 h2]
  rfl
theorem tempT_no {N : Nat} {p : Int32} (h : ¬ (-1000 ≤ p ∧ p ≤ 200000)) : fn_TL_requireTemperature N p = some (.inl 1) := by
  unfold fn_TL_requireTemperature
  rw [req_no h]
  rfl
theorem tempQ_ok {N : Nat} {p : Int32} (h1 : -1000 ≤ p) (h2 : p ≤ 200000) : fn_Mod_isTemperature N p = some 1 := by
  unfold fn_Mod_isTemperature
  rw [in_ok h1 h2]
  simp only [Option.bind_some, nar1, ↓reduceIte]
theorem tempQ_no {N : Nat} {p : Int32} (h : ¬ (-1000 ≤ p ∧ p ≤ 200000)) : fn_Mod_isTemperature N p = some 0 := by
  unfold fn_Mod_isTemperature
  rw [in_no h]
  simp only [Option.bind_some, nar0, ↓reduceIte]
theorem temp_int {p : Int32} (h1 : -1000 ≤ p) (h2 : p ≤ 200000) : -1000 ≤ p.toInt ∧ p.toInt ≤ 200000 := by
  rw [Int32.le_iff_toInt_le] at h1 h2
  have e1 : (-1000 : Int32).toInt = -1000 := by decide
  have e2 : (200000 : Int32).toInt = 200000 := by decide
  omega
theorem span_ok {N : Nat} {p q b : Int32} (h1 : 0 ≤ p ∧ p ≤ b) (h2 : 0 ≤ q ∧ q ≤ b) (h3 : p < q) : fn_TL_requireSpan N p q b = some (.inr ()) := by
  unfold fn_TL_requireSpan
  rw [req_ok h1.1 h1.2, req_ok h2.1 h2.2]
  simp only [gx_then, Option.bind_some, h3, ↓reduceIte]
theorem span_no {N : Nat} {p q b : Int32} (h : ¬ ((0 ≤ p ∧ p ≤ b) ∧ (0 ≤ q ∧ q ≤ b) ∧ p < q)) : fn_TL_requireSpan N p q b = some (.inl 1) := by
  unfold fn_TL_requireSpan
  by_cases c1 : 0 ≤ p ∧ p ≤ b
  · rw [req_ok c1.1 c1.2]
    by_cases c2 : 0 ≤ q ∧ q ≤ b
    · rw [req_ok c2.1 c2.2]
      have c3 : ¬ p < q := fun d => h ⟨c1, c2, d⟩
      simp only [gx_then, Option.bind_some, c3, ↓reduceIte]
    · rw [req_no c2]
      rfl
  · rw [req_no c1]
    rfl
theorem nat_of {p : Int32} {F : Nat} (hF : F < 2147483648) (h1 : 0 ≤ p) (h2 : p ≤ i3 F) : ∃ h, h ≤ F ∧ p = i3 h := by
  rw [Int32.le_iff_toInt_le] at h1 h2
  rw [i3_int hF] at h2
  have e : (0 : Int32).toInt = 0 := by decide
  refine ⟨p.toInt.toNat, by omega, ?_⟩
  apply Int32.toInt.inj
  rw [i3_int (by omega)]
  omega
theorem le_nat {a b : Nat} (h : a ≤ b) (hb : b < 2147483648) : i3 a ≤ i3 b := (i3_leT h hb).mpr trivial
theorem nat_le {a b : Nat} (ha : a < 2147483648) (hb : b < 2147483648) (h : i3 a ≤ i3 b) : a ≤ b := by
  rw [Int32.le_iff_toInt_le, i3_int ha, i3_int hb] at h
  omega
theorem nat_lt {a b : Nat} (ha : a < 2147483648) (hb : b < 2147483648) (h : i3 a < i3 b) : a < b := by
  rw [Int32.lt_iff_toInt_lt, i3_int ha, i3_int hb] at h
  omega
theorem tn_ok {N t tk : Nat} {xn xcold xtime : Int32} {xf : Nat → Option Nat} (ht : t < 4) (hs : xf t = some tk) : fn_TL_tankNumbered N (i3 t) xn xcold xtime xf = some (.inr tk) := by
  unfold fn_TL_tankNumbered
  simp (disch := omega) only [lt0, lt4, i3_ltF, i3_ltT, i3_inT, i3_nat, hs, gx_opt, ↓reduceIte]
theorem isT_ok {N t n : Nat} {qcode qn qcold qtime : Int32} {qV qM : Nat → Int32} {qvol qh : Nat → Int64} {qamb qab qbe qrf qrt qrh qrs qrl qru qon qdr qdc : Nat → Int32} {qdn qdh qgi qlo : Nat → Int64} {qom : Nat → Int32} (hn : qn = i3 n) (ht : t < n) (h4 : n ≤ 4) : fn_Mod_isTank N (i3 t) qcode qn qcold qtime qV qM qvol qh qamb qab qbe qrf qrt qrh qrs qrl qru qon qdr qdc qdn qdh qgi qlo qom = some 1 := by
  unfold fn_Mod_isTank
  rw [hn, show (i3 n - 1 : Int32) = i3 (n - 1) from i3_sub1 (by omega), in_ok (show (0 : Int32) ≤ i3 t by rw [lt0]; exact le_nat (by omega) (by omega)) (le_nat (by omega) (by omega))]
  simp only [Option.bind_some, nar1, ↓reduceIte]
theorem tn_no {N n : Nat} {p : Int32} {xn xcold xtime : Int32} {xf : Nat → Option Nat} (hx : ∀ t, t < 4 → n ≤ t → xf t = none) (h : ¬ (0 ≤ p ∧ p < i3 n)) (h4 : n ≤ 4) : fn_TL_tankNumbered N p xn xcold xtime xf = some (.inl 1) := by
  unfold fn_TL_tankNumbered
  by_cases c1 : p < 0
  · rw [if_pos c1]
  · rw [if_neg c1]
    by_cases c2 : p < 4
    · rw [if_pos c2]
      obtain ⟨t, ht, rfl⟩ := nat_of (F := 3) (by omega) (Int32.not_lt.mp c1) (by
        rw [Int32.le_iff_toInt_le, i3_int (by omega)]
        rw [Int32.lt_iff_toInt_lt] at c2
        have e : (4 : Int32).toInt = 4 := by decide
        omega)
      have hnt : n ≤ t := by
        by_cases c3 : t < n
        · exact absurd ⟨Int32.not_lt.mp c1, (i3_ltT c3 (by omega)).mpr trivial⟩ h
        · omega
      simp (disch := omega) only [i3_inT, i3_nat, hx t (by omega) hnt, gx_opt, ↓reduceIte]
    · rw [if_neg c2]
theorem isT_no {N n : Nat} {p : Int32} {qcode qn qcold qtime : Int32} {qV qM : Nat → Int32} {qvol qh : Nat → Int64} {qamb qab qbe qrf qrt qrh qrs qrl qru qon qdr qdc : Nat → Int32} {qdn qdh qgi qlo : Nat → Int64} {qom : Nat → Int32} (hn : qn = i3 n) (h : ¬ (0 ≤ p ∧ p < i3 n)) (h4 : n ≤ 4) : fn_Mod_isTank N p qcode qn qcold qtime qV qM qvol qh qamb qab qbe qrf qrt qrh qrs qrl qru qon qdr qdc qdn qdh qgi qlo qom = some 0 := by
  unfold fn_Mod_isTank
  have hno : ¬ (0 ≤ p ∧ p ≤ qn - 1) := by
    rintro ⟨c1, c2⟩
    apply h
    refine ⟨c1, ?_⟩
    rw [hn, lt1] at c2
    by_cases c : 1 ≤ n
    · rw [i3_sub c] at c2
      rw [Int32.le_iff_toInt_le, i3_int (by omega)] at c2
      rw [Int32.lt_iff_toInt_lt, i3_int (by omega)]
      omega
    · have : n = 0 := by omega
      subst this
      rw [Int32.le_iff_toInt_le] at c1 c2
      have e : (i3 0 - i3 1).toInt = -1 := by decide
      have e2 : (0 : Int32).toInt = 0 := by decide
      omega
  rw [in_no hno]
  simp only [Option.bind_some, nar0, ↓reduceIte]
