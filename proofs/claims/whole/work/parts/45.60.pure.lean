theorem bm64 {n : Int} (h1 : -2 ^ 63 ≤ n) (h2 : n < 2 ^ 63) : n.bmod (2 ^ 64) = n := Int.bmod_eq_of_le h1 h2
theorem bm32 {n : Int} (h1 : -2 ^ 31 ≤ n) (h2 : n < 2 ^ 31) : n.bmod (2 ^ 32) = n := Int.bmod_eq_of_le h1 h2
def i3 (n : Nat) : Int32 := Int32.ofNat n
def i6 (n : Nat) : Int64 := Int64.ofNat n
theorem i3_add (a b : Nat) : i3 a + i3 b = i3 (a + b) := (Int32.ofNat_add a b).symm
theorem i3_mul (a b : Nat) : i3 a * i3 b = i3 (a * b) := (Int32.ofNat_mul a b).symm
theorem i3_sub {a b : Nat} (h : b ≤ a) : i3 a - i3 b = i3 (a - b) := (Int32.ofNat_sub a b h).symm
theorem i3_addn {a b : Nat} (h : b ≤ a) : i3 a + -(i3 b) = i3 (a - b) := by
  rw [← i3_sub h]
  exact (Int32.sub_eq_add_neg _ _).symm
theorem i3_nat {a : Nat} (h : a < 2147483648) : (i3 a).toNatClampNeg = a := Int32.toNatClampNeg_ofNat_of_lt h
theorem i3_int {a : Nat} (h : a < 2147483648) : (i3 a).toInt = (a : Int) := Int32.toInt_ofNat_of_lt h
theorem i3_leT {a b : Nat} (h : a ≤ b) (hb : b < 2147483648) : (i3 a ≤ i3 b) = True := eq_true ((Int32.ofNat_le_iff_le (by omega) (by omega)).mpr h)
theorem i3_leF {a b : Nat} (h : b < a) (hb : a < 2147483648) : (i3 a ≤ i3 b) = False := eq_false (fun c => absurd ((Int32.ofNat_le_iff_le (by omega) (by omega)).mp c) (by omega))
theorem i3_ltT {a b : Nat} (h : a < b) (hb : b < 2147483648) : (i3 a < i3 b) = True := eq_true ((Int32.ofNat_lt_iff_lt (by omega) (by omega)).mpr h)
theorem i3_ltF {a b : Nat} (h : b ≤ a) (hb : a < 2147483648) : (i3 a < i3 b) = False := eq_false (fun c => absurd ((Int32.ofNat_lt_iff_lt (by omega) (by omega)).mp c) (by omega))
theorem i3_inj {a b : Nat} (ha : a < 2147483648) (hb : b < 2147483648) (h : i3 a = i3 b) : a = b := by
  have := congrArg Int32.toInt h
  rw [i3_int ha, i3_int hb] at this
  omega
theorem i3_eqF {a b : Nat} (h : a ≠ b) (ha : a < 2147483648) (hb : b < 2147483648) : (i3 a = i3 b) = False := eq_false (fun c => h (i3_inj ha hb c))
theorem i3_inT {a n : Nat} (h : a < n) (hn : n ≤ 2147483648) : gx_inb (i3 a) n = true := by
  unfold gx_inb
  rw [i3_int (by omega)]
  exact decide_eq_true (by omega)
theorem i3_long {a : Nat} (h : a < 2147483648) : (i3 a).toInt64 = i6 a := by
  apply Int64.toInt.inj
  rw [Int32.toInt_toInt64, i3_int h]
  exact (Int64.toInt_ofNat_of_lt (by omega)).symm
theorem i3_subneg {a b : Nat} (h : a ≤ b) (hb : b < 2147483648) : (i3 a - i3 b ≤ i3 0) = True := by
  apply eq_true
  rw [Int32.le_iff_toInt_le, Int32.toInt_sub, i3_int (by omega), i3_int hb, i3_int (by omega), bm32 (by omega) (by omega)]
  omega
theorem i6_int {a : Nat} (h : a < 9223372036854775808) : (i6 a).toInt = (a : Int) := Int64.toInt_ofNat_of_lt h
theorem i6_add (a b : Nat) : i6 a + i6 b = i6 (a + b) := (Int64.ofNat_add a b).symm
theorem i6_sub {a b : Nat} (h : b ≤ a) : i6 a - i6 b = i6 (a - b) := (Int64.ofNat_sub a b h).symm
theorem i6_inj {a b : Nat} (ha : a < 9223372036854775808) (hb : b < 9223372036854775808) (h : i6 a = i6 b) : a = b := by
  have := congrArg Int64.toInt h
  rw [i6_int ha, i6_int hb] at this
  omega
theorem lt0 : (0 : Int32) = i3 0 := rfl
theorem lt1 : (1 : Int32) = i3 1 := rfl
theorem lt2 : (2 : Int32) = i3 2 := rfl
theorem lt4 : (4 : Int32) = i3 4 := rfl
theorem lt40 : (40 : Int32) = i3 40 := rfl
theorem lt42 : (42 : Int32) = i3 42 := rfl
theorem lt64 : (64 : Int32) = i3 64 := rfl
theorem lL0 : (0 : Int64) = i6 0 := rfl
theorem lc_lt {x y : Int64} : (lg_cmp x y < 0) = (x < y) := by
  unfold lg_cmp
  apply propext
  by_cases h : x > y
  · rw [if_pos h]
    exact ⟨fun c => absurd c (by decide), fun c => absurd c (Int64.lt_asymm h)⟩
  · rw [if_neg h]
    by_cases e : x = y
    · rw [if_pos e]
      exact ⟨fun c => absurd c (by decide), fun c => absurd (e ▸ c) Int64.lt_irrefl⟩
    · rw [if_neg e]
      exact ⟨fun _ => (Int64.lt_or_lt_of_ne e).resolve_right h, fun _ => by decide⟩
theorem lc_eq {x y : Int64} : (lg_cmp x y = 0) = (x = y) := by
  unfold lg_cmp
  apply propext
  by_cases h : x > y
  · rw [if_pos h]
    exact ⟨fun c => absurd c (by decide), fun c => absurd (c ▸ h) Int64.lt_irrefl⟩
  · rw [if_neg h]
    by_cases e : x = y
    · rw [if_pos e]
      exact ⟨fun _ => e, fun _ => rfl⟩
    · rw [if_neg e]
      exact ⟨fun c => absurd c (by decide), fun c => absurd c e⟩
theorem lc_ge {x y : Int64} : (0 ≤ lg_cmp x y) = (y ≤ x) := by
  unfold lg_cmp
  apply propext
  by_cases h : x > y
  · rw [if_pos h]
    exact ⟨fun _ => Int64.le_of_lt h, fun _ => by decide⟩
  · rw [if_neg h]
    by_cases e : x = y
    · rw [if_pos e]
      exact ⟨fun _ => Int64.le_of_eq e.symm, fun _ => by decide⟩
    · rw [if_neg e]
      refine ⟨fun c => absurd c (by decide), fun c => ?_⟩
      rcases Int64.lt_or_eq_of_le c with c | c
      · exact absurd c h
      · exact absurd c.symm e
theorem lc_le {x y : Int64} : (lg_cmp x y ≤ 0) = (x ≤ y) := by
  unfold lg_cmp
  apply propext
  by_cases h : x > y
  · rw [if_pos h]
    refine ⟨fun c => absurd c (by decide), fun c => ?_⟩
    rcases Int64.lt_or_eq_of_le c with c | c
    · exact absurd c (Int64.lt_asymm h)
    · exact absurd (c ▸ h) Int64.lt_irrefl
  · rw [if_neg h]
    by_cases e : x = y
    · rw [if_pos e]
      exact ⟨fun _ => Int64.le_of_eq e, fun _ => by decide⟩
    · rw [if_neg e]
      exact ⟨fun _ => Int64.le_of_lt ((Int64.lt_or_lt_of_ne e).resolve_right h), fun _ => by decide⟩
theorem lc_gt {x y : Int64} : (0 < lg_cmp x y) = (y < x) := by
  unfold lg_cmp
  apply propext
  by_cases h : x > y
  · rw [if_pos h]
    exact ⟨fun _ => h, fun _ => by decide⟩
  · rw [if_neg h]
    by_cases e : x = y
    · rw [if_pos e]
      exact ⟨fun c => absurd c (by decide), fun c => absurd c h⟩
    · rw [if_neg e]
      exact ⟨fun c => absurd c (by decide), fun c => absurd c h⟩
theorem i6_ltT {a b : Nat} (h : a < b) (hb : b < 9223372036854775808) : (i6 a < i6 b) = True := eq_true ((Int64.ofNat_lt_iff_lt (by omega) (by omega)).mpr h)
theorem i6_ltF {a b : Nat} (h : b ≤ a) (hb : a < 9223372036854775808) : (i6 a < i6 b) = False := eq_false (fun c => absurd ((Int64.ofNat_lt_iff_lt (by omega) (by omega)).mp c) (by omega))
theorem i6_leT {a b : Nat} (h : a ≤ b) (hb : b < 9223372036854775808) : (i6 a ≤ i6 b) = True := eq_true ((Int64.ofNat_le_iff_le (by omega) (by omega)).mpr h)
theorem i6_leF {a b : Nat} (h : b < a) (hb : a < 9223372036854775808) : (i6 a ≤ i6 b) = False := eq_false (fun c => absurd ((Int64.ofNat_le_iff_le (by omega) (by omega)).mp c) (by omega))
theorem i6_eqF {a b : Nat} (h : a ≠ b) (ha : a < 9223372036854775808) (hb : b < 9223372036854775808) : (i6 a = i6 b) = False := eq_false (fun c => h (i6_inj ha hb c))
def dn (a b : Int64) : Int64 := Int64.ofInt (a.toInt / b.toInt)
theorem dn_lo {a b : Int64} (hb : 0 < b.toInt) : -2 ^ 63 ≤ a.toInt / b.toInt := by
  have h1 := a.le_toInt
  apply Int.le_ediv_of_mul_le hb
  have h2 := b.toInt_lt
  have : (-2 ^ 63 : Int) * b.toInt ≤ (-2 ^ 63) * 1 := Int.mul_le_mul_of_nonpos_left (by decide) (by omega)
  omega
theorem dn_hi {a b : Int64} (hb : 0 < b.toInt) : a.toInt / b.toInt < 2 ^ 63 := by
  have h1 := a.toInt_lt
  apply Int.ediv_lt_of_lt_mul hb
  have : (2 ^ 63 : Int) * 1 ≤ 2 ^ 63 * b.toInt := Int.mul_le_mul_of_nonneg_left (by omega) (by decide)
  omega
theorem dn_int {a b : Int64} (hb : 0 < b.toInt) : (dn a b).toInt = a.toInt / b.toInt := Int64.toInt_ofInt_of_le (dn_lo hb) (dn_hi hb)
theorem dv_int {a b : Int64} (hb : 0 < b.toInt) : (a / b).toInt = a.toInt.tdiv b.toInt :=
  Int64.toInt_div_of_ne_right a b (by intro h; rw [h] at hb; exact absurd hb (by decide))
theorem dv_main {a b : Int64} (hb : 0 < b.toInt) : ((0 ≤ a.toInt ∨ a.toInt % b.toInt = 0) ∧ (a / b).toInt = a.toInt / b.toInt ∧ ((a / b) * b).toInt = a.toInt - a.toInt % b.toInt) ∨ ((a.toInt < 0 ∧ 0 < a.toInt % b.toInt) ∧ (a / b).toInt = a.toInt / b.toInt + 1 ∧ ((a / b) * b).toInt = a.toInt - a.toInt % b.toInt + b.toInt) := by
  have hq := dv_int (a := a) hb
  rw [Int.tdiv_eq_ediv] at hq
  have hm1 := Int.emod_nonneg a.toInt (by omega : b.toInt ≠ 0)
  have hm2 := Int.emod_lt_of_pos a.toInt hb
  have hdm := Int.mul_ediv_add_emod a.toInt b.toInt
  have hl := a.le_toInt
  have hu := a.toInt_lt
  by_cases c : 0 ≤ a.toInt ∨ b.toInt ∣ a.toInt
  · rw [if_pos c, Int.add_zero] at hq
    have c' : 0 ≤ a.toInt ∨ a.toInt % b.toInt = 0 := c.imp_right Int.emod_eq_zero_of_dvd
    refine Or.inl ⟨c', hq, ?_⟩
    have e : (a / b).toInt * b.toInt = a.toInt - a.toInt % b.toInt := by rw [hq, Int.mul_comm]; omega
    rw [Int64.toInt_mul, e]
    apply bm64
    · rcases c' with c' | c'
      · have h1 := Int.ediv_nonneg c' (Int.le_of_lt hb)
        have h2 := Int.mul_nonneg (Int.le_of_lt hb) h1
        omega
      · omega
    · omega
  · rw [if_neg c, Int.sign_eq_one_of_pos hb] at hq
    have c1 : a.toInt < 0 := by
      have := fun h => c (Or.inl h)
      omega
    have c2 : a.toInt % b.toInt ≠ 0 := fun h => c (Or.inr (Int.dvd_of_emod_eq_zero h))
    refine Or.inr ⟨⟨c1, by omega⟩, hq, ?_⟩
    have e : (a / b).toInt * b.toInt = a.toInt - a.toInt % b.toInt + b.toInt := by rw [hq, Int.add_mul, Int.mul_comm]; omega
    rw [Int64.toInt_mul, e]
    have h1 := Int.ediv_neg_of_neg_of_pos c1 hb
    have h2 := Int.mul_le_mul_of_nonneg_left (show a.toInt / b.toInt + 1 ≤ 0 by omega) (Int.le_of_lt hb)
    rw [Int.mul_add] at h2
    apply bm64 <;> omega
theorem dn_sub1 {a b : Int64} (hb : 0 < b.toInt) (h : (a / b).toInt = a.toInt / b.toInt + 1) : a / b - 1 = dn a b := by
  apply Int64.toInt.inj
  have h1 := dn_lo (a := a) hb
  have h2 := dn_hi (a := a) hb
  rw [dn_int hb, Int64.toInt_sub, h, Int64.toInt_one, bm64 (by omega) (by omega)]
  omega
theorem dn_same {a b : Int64} (hb : 0 < b.toInt) (h : (a / b).toInt = a.toInt / b.toInt) : a / b = dn a b := by
  apply Int64.toInt.inj
  rw [dn_int hb, h]
theorem pos_ne {b : Int64} (hb : 0 < b.toInt) : b ≠ 0 := by intro h; rw [h] at hb; exact absurd hb (by decide)
theorem down_eq {N : Nat} {a b : Int64} (hb : 0 < b.toInt) : fn_Mod_down N a b = some (dn a b) := by
  unfold fn_Mod_down
  rw [if_neg (pos_ne hb)]
  simp only [lc_le]
  have hm1 := Int.emod_nonneg a.toInt (by omega : b.toInt ≠ 0)
  have hm2 := Int.emod_lt_of_pos a.toInt hb
  rcases dv_main (a := a) hb with ⟨_, h1, h2⟩ | ⟨_, h1, h2⟩
  · rw [if_pos (by rw [Int64.le_iff_toInt_le]; omega), dn_same hb h1]
  · rw [if_neg (by rw [Int64.le_iff_toInt_le]; omega), dn_sub1 hb h1]
theorem xor_nn {a b : Int64} (hb : 0 ≤ b.toInt) : 0 ≤ (a ^^^ b).toInt ↔ 0 ≤ a.toInt := by
  have h1 : (a ^^^ b).toBitVec.msb = (a.toBitVec.msb ^^ b.toBitVec.msb) := by rw [Int64.toBitVec_xor, BitVec.msb_xor]
  have h2 : ∀ x : Int64, x.toBitVec.msb = decide (x.toInt < 0) := fun x => BitVec.msb_eq_toInt
  rw [h2, h2, h2] at h1
  have h3 : decide (b.toInt < 0) = false := decide_eq_false (by omega)
  rw [h3, Bool.xor_false] at h1
  have := decide_eq_decide.mp h1
  omega
theorem floorDiv_eq {N : Nat} {a b : Int64} (hb : 0 < b.toInt) : fn_Math_floorDiv N a b = some (dn a b) := by
  unfold fn_Math_floorDiv
  rw [if_neg (pos_ne hb)]
  simp only [lc_ge, lc_eq]
  have hm1 := Int.emod_nonneg a.toInt (by omega : b.toInt ≠ 0)
  have hm2 := Int.emod_lt_of_pos a.toInt hb
  have hx := xor_nn (a := a) (Int.le_of_lt hb)
  have h0 : (0 : Int64).toInt = 0 := by decide
  rcases dv_main (a := a) hb with ⟨c, h1, h2⟩ | ⟨c, h1, h2⟩
  · by_cases d : 0 ≤ a.toInt
    · rw [if_pos (by rw [Int64.le_iff_toInt_le, h0]; exact hx.mpr d), dn_same hb h1]
    · rw [if_neg (by rw [Int64.le_iff_toInt_le, h0]; exact fun e => d (hx.mp e)), if_pos (by apply Int64.toInt.inj; omega), dn_same hb h1]
  · rw [if_neg (by rw [Int64.le_iff_toInt_le, h0]; exact fun e => absurd (hx.mp e) (by omega)), if_neg (by intro e; have := congrArg Int64.toInt e; omega), dn_sub1 hb h1]
theorem share_eq {N : Nat} {a p w : Int64} (hw : 0 < w.toInt) : fn_TL_shareOf N a p w = some (dn (a * p) w) := by
  unfold fn_TL_shareOf
  simp only [lc_gt]
  rw [if_pos (by rw [Int64.lt_iff_toInt_lt]; exact hw), floorDiv_eq hw]
  rfl
theorem i6_pos {a : Nat} (h1 : 1 ≤ a) (h2 : a < 9223372036854775808) : 0 < (i6 a).toInt := by rw [i6_int h2]; omega
theorem gx_fxS {S R : Type} {step : (S → Option R) → S → Option R} {n : Nat} {z : S} : gx_fx step (n + 1) z = step (gx_fx step n) z := rfl
