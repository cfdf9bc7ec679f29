/-! numbers: an int of the machine as a whole number; the rows of the kit, over whole numbers -/
def vs_I (x : Int) : Int32 := Int32.ofInt x
def vs_R (x : Int) : Prop := -2147483648 ≤ x ∧ x ≤ 2147483647
abbrev vs_St : Type := Nat → Int → Int
def vs_up (f : Int → Int) (e x : Int) : Int → Int := fun i => if i = e then x else f i
def vs_st (S : vs_St) (k : Nat) (e x : Int) : vs_St := fun j => cond (Nat.beq j k) (vs_up (S k) e x) (S j)
def vs_en (f : Int → Int) : Nat → Int32 := fun i => vs_I (f (i : Int))
theorem vs_I_add (x y : Int) : vs_I x + vs_I y = vs_I (x + y) := (Int32.ofInt_add x y).symm
theorem vs_I_sub (x y : Int) : vs_I x - vs_I y = vs_I (x - y) := (Int32.ofInt_sub x y).symm
theorem vs_I_mul (x y : Int) : vs_I x * vs_I y = vs_I (x * y) := (Int32.ofInt_mul x y).symm
theorem vs_I_toInt {x : Int} (h : vs_R x) : (vs_I x).toInt = x := Int32.toInt_ofInt_of_le (by have := h.1; omega) (by have := h.2; omega)
theorem vs_I_lt {x y : Int} (hx : vs_R x) (hy : vs_R y) : vs_I x < vs_I y ↔ x < y := by rw [Int32.lt_iff_toInt_lt, vs_I_toInt hx, vs_I_toInt hy]
theorem vs_I_le {x y : Int} (hx : vs_R x) (hy : vs_R y) : vs_I x ≤ vs_I y ↔ x ≤ y := by rw [Int32.le_iff_toInt_le, vs_I_toInt hx, vs_I_toInt hy]
theorem vs_I_eq {x y : Int} (hx : vs_R x) (hy : vs_R y) : vs_I x = vs_I y ↔ x = y := by rw [← Int32.toInt_inj, vs_I_toInt hx, vs_I_toInt hy]
theorem vs_R0 : vs_R 0 := ⟨by decide, by decide⟩
theorem vs_I_0 : vs_I 0 = 0 := rfl
theorem vs_I_nat {x : Int} (h0 : 0 ≤ x) (h : x ≤ 2147483647) : (vs_I x).toNatClampNeg = x.toNat := Int32.toNatClampNeg_ofInt_of_le (by omega) (by omega)
theorem vs_I_in {x : Int} {n : Nat} (h0 : 0 ≤ x) (h : x < n) (hn : n ≤ 2147483647) : vp_in (vs_I x) n := by
  rintro (q | q)
  · rw [← vs_I_0, vs_I_lt ⟨by omega, by omega⟩ vs_R0] at q; omega
  · rw [vs_I_nat h0 (by omega)] at q; omega
theorem vs_en_at (f : Int → Int) {x : Int} (h0 : 0 ≤ x) (h : x ≤ 2147483647) : vs_en f (vs_I x).toNatClampNeg = vs_I (f x) := by
  rw [vs_I_nat h0 h]; unfold vs_en; rw [Int.toNat_of_nonneg h0]
theorem vs_en_up (f : Int → Int) {x y : Int} (h0 : 0 ≤ x) (h : x ≤ 2147483647) : upd (vs_en f) (vs_I x).toNatClampNeg (vs_I y) = vs_en (vs_up f x y) := by
  rw [vs_I_nat h0 h]
  funext j
  unfold upd vs_en vs_up
  by_cases q : j = x.toNat
  · subst q; rw [if_pos rfl, if_pos (Int.toNat_of_nonneg h0)]
  · rw [if_neg q, if_neg (fun e => q (by omega))]
theorem vs_I_div {x y : Int} (h0 : 0 ≤ x) (h : x ≤ 2147483647) (hy : 0 < y) (hy2 : y ≤ 2147483647) : vs_I x / vs_I y = vs_I (x / y) := by
  unfold vs_I
  rw [← Int32.ofInt_tdiv (by show (-2147483648 : Int) ≤ x; omega) (by show x ≤ (2147483647 : Int); omega) (by show (-2147483648 : Int) ≤ y; omega) (by show y ≤ (2147483647 : Int); omega), Int.tdiv_eq_ediv_of_nonneg h0]
theorem vs_I_mod {x y : Int} (h0 : 0 ≤ x) (h : x ≤ 2147483647) (hy : 0 < y) (hy2 : y ≤ 2147483647) : vs_I x - vs_I x / vs_I y * vs_I y = vs_I (x % y) := by
  rw [vs_I_div h0 h hy hy2, vs_I_mul, vs_I_sub, Int.emod_def, Int.mul_comm y]
def vs_and (x y : Int) : Int := (vs_I x &&& vs_I y).toInt
def vs_or (x y : Int) : Int := (vs_I x ||| vs_I y).toInt
def vs_xor (x y : Int) : Int := (vs_I x ^^^ vs_I y).toInt
def vs_shl (x y : Int) : Int := (vs_I x <<< (vs_I y &&& 31)).toInt
def vs_shr (x y : Int) : Int := (vs_I x >>> (vs_I y &&& 31)).toInt
def vs_ushr (x y : Int) : Int := ((vs_I x).toUInt32 >>> ((vs_I y).toUInt32 &&& Int32.toUInt32 31)).toInt32.toInt
theorem vs_I_of (z : Int32) : vs_I z.toInt = z := Int32.ofInt_toInt z
theorem vs_nar_z {x : Int} (h : x = 0 ∨ x = 1) : vp_nar .boolean (vs_I x) = vs_I x := by rcases h with rfl | rfl <;> decide +kernel
theorem vs_narr_z {x : Int} (h : x = 0 ∨ x = 1) : narrow .boolean (.int (vs_I x)) = .int (vs_I x) := by rcases h with rfl | rfl <;> rfl
theorem vs_c16 {v : Int32} (h0 : 0 ≤ v.toInt) (h : v.toInt < 65536) : (v.toUInt32 % 65536).toInt32 = v := by
  have e : (v.toUInt32 % 65536) = v.toUInt32 := by
    apply UInt32.toNat_inj.mp
    rw [UInt32.toNat_mod]
    show v.toUInt32.toNat % 65536 = _
    apply Nat.mod_eq_of_lt
    have hb : v.toInt = v.toBitVec.toInt := rfl
    rw [hb, BitVec.toInt_eq_toNat_cond] at h h0
    have e2 : v.toUInt32.toNat = v.toBitVec.toNat := rfl
    have := v.toBitVec.isLt
    split at h <;> omega
  rw [e]
  rfl
theorem vs_c16b {v : Int32} (h0 : 0 ≤ v.toInt) (h : v.toInt < 65536) : v.toUInt32.toUInt16.toUInt32.toInt32 = v := by
  have e3 : v.toUInt32.toUInt16.toUInt32 = v.toUInt32 % 65536 := by
    apply UInt32.toNat_inj.mp
    simp
  rw [e3]
  exact vs_c16 h0 h
theorem vs_narr_c {x : Int} (h0 : 0 ≤ x) (h : x < 65536) : narrow .char (.int (vs_I x)) = .int (vs_I x) := by
  have e := vs_c16b (v := vs_I x) (by rw [vs_I_toInt ⟨by omega, by omega⟩]; exact h0) (by rw [vs_I_toInt ⟨by omega, by omega⟩]; exact h)
  simp only [narrow, e]
theorem vs_nar_c {x : Int} (h0 : 0 ≤ x) (h : x < 65536) : vp_nar .char (vs_I x) = vs_I x := by
  unfold vp_nar; rw [vs_narr_c h0 h]
theorem vs_st_same (S : vs_St) (k : Nat) (e x : Int) : vs_st S k e x k = vs_up (S k) e x := by unfold vs_st; rw [Nat.beq_refl]; rfl
theorem vs_st_ne (S : vs_St) {j k : Nat} (h : j ≠ k) (e x : Int) : vs_st S k e x j = S j := by
  unfold vs_st
  cases hb : Nat.beq j k
  · rfl
  · exact absurd (Nat.eq_of_beq_eq_true hb) h
