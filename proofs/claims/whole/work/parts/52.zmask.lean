/-! pure part: sets of disks as bits of an int -/
theorem vz_tn {n : Nat} (h : n < 2147483648) : (BitVec.ofNat 32 n).toInt = (n : Int) := by
  have e : (BitVec.ofNat 32 n).toNat = n := by rw [BitVec.toNat_ofNat]; exact Nat.mod_eq_of_lt (by omega)
  rw [BitVec.toInt_eq_toNat_of_lt (by rw [e]; omega), e]
theorem vz_N (n : Nat) : (vs_I (n : Int)).toBitVec = BitVec.ofNat 32 n := BitVec.ofInt_natCast 32 n
theorem vz_and {a b : Nat} (ha : a < 2147483648) : vs_and (a : Int) (b : Int) = ((a &&& b : Nat) : Int) := by
  show ((vs_I (a : Int)).toBitVec &&& (vs_I (b : Int)).toBitVec).toInt = _
  rw [vz_N, vz_N, ← BitVec.ofNat_and, vz_tn (Nat.lt_of_le_of_lt Nat.and_le_left ha)]
theorem vz_or {a b : Nat} (ha : a < 256) (hb : b < 256) : vs_or (a : Int) (b : Int) = ((a ||| b : Nat) : Int) := by
  show ((vs_I (a : Int)).toBitVec ||| (vs_I (b : Int)).toBitVec).toInt = _
  have := Nat.or_lt_two_pow (n := 8) ha hb
  rw [vz_N, vz_N, ← BitVec.ofNat_or, vz_tn (by omega)]
set_option maxRecDepth 100000 in
theorem vz_bit0 : ∀ x : Fin 256, ∀ d : Fin 8, vs_and (vs_shr (x.val : Int) (d.val : Int)) 1 = if x.val.testBit d.val then 1 else 0 := by decide +kernel
theorem vz_shl0 : ∀ d : Fin 9, vs_shl 1 (d.val : Int) = ((2 ^ d.val : Nat) : Int) := by decide +kernel
def vz_pc (x0 : Int) : Int :=
  let v1 := x0 - (vs_and (vs_ushr x0 1) 1431655765)
  let v2 := (vs_and v1 858993459) + (vs_and (vs_ushr v1 2) 858993459)
  let v3 := vs_and (v2 + (vs_ushr v2 4)) 252645135
  let v4 := v3 + (vs_ushr v3 8)
  let v5 := v4 + (vs_ushr v4 16)
  vs_and v5 63
def vz_tb (n d : Nat) : Int := if n.testBit d then 1 else 0
set_option maxRecDepth 100000 in
theorem vz_pc0 : ∀ x : Fin 256, vz_pc (x.val : Int) = vz_tb x.val 0 + vz_tb x.val 1 + vz_tb x.val 2 + vz_tb x.val 3 + vz_tb x.val 4 + vz_tb x.val 5 + vz_tb x.val 6 + vz_tb x.val 7 := by decide +kernel
theorem vz_xor0 : ∀ x : Fin 256, (vs_I (vs_xor (x.val : Int) (-1))).toBitVec = BitVec.ofNat 32 (2 ^ 32 - (x.val + 1)) := by decide +kernel
def vz_mask (x : Int) (P : Int → Prop) : Prop := ∃ n : Nat, n < 256 ∧ x = (n : Int) ∧ ∀ d : Nat, d < 8 → (n.testBit d = true ↔ P (d : Int))
theorem vz_mask.rg {x : Int} {P : Int → Prop} (h : vz_mask x P) : 0 ≤ x ∧ x < 256 := by
  obtain ⟨n, h1, rfl, _⟩ := h; omega
theorem vz_mask.to {x : Int} {P Q : Int → Prop} (h : vz_mask x P) (e : ∀ d : Int, 0 ≤ d → d < 8 → (P d ↔ Q d)) : vz_mask x Q := by
  obtain ⟨n, h1, h2, h3⟩ := h
  exact ⟨n, h1, h2, fun d hd => (h3 d hd).trans (e d (by omega) (by omega))⟩
theorem vz_mask_0 {P : Int → Prop} (h : ∀ d : Int, 0 ≤ d → d < 8 → ¬ P d) : vz_mask 0 P :=
  ⟨0, by omega, rfl, fun d hd => by rw [Nat.zero_testBit]; exact ⟨fun q => (nomatch q), fun q => absurd q (h d (by omega) (by omega))⟩⟩
theorem vz_mask.or {x e : Int} {P Q : Int → Prop} (h : vz_mask x P) (h0 : 0 ≤ e) (h1 : e < 8) (hQ : ∀ d : Int, 0 ≤ d → d < 8 → (Q d ↔ P d ∨ d = e)) : vz_mask (vs_or x (vs_shl 1 e)) Q := by
  obtain ⟨n, hn, rfl, h3⟩ := h
  obtain ⟨k, rfl⟩ : ∃ k : Nat, e = (k : Int) := ⟨e.toNat, by omega⟩
  have hk : k < 8 := by omega
  have e1 := vz_shl0 ⟨k, by omega⟩
  have hp : 2 ^ k < 2 ^ 8 := Nat.pow_lt_pow_right (by omega) hk
  have e2 : vs_shl 1 (k : Int) = ((2 ^ k : Nat) : Int) := e1
  rw [e2, vz_or hn hp]
  refine ⟨n ||| 2 ^ k, Nat.or_lt_two_pow (n := 8) hn hp, rfl, fun d hd => ?_⟩
  rw [Nat.testBit_or, Nat.testBit_two_pow, hQ d (by omega) (by omega), Bool.or_eq_true, h3 d hd]
  constructor
  · rintro (q | q)
    · exact Or.inl q
    · right
      have := of_decide_eq_true q
      omega
  · rintro (q | q)
    · exact Or.inl q
    · right
      exact decide_eq_true (by omega)
theorem vz_mask.bit {x d : Int} {P : Int → Prop} (h : vz_mask x P) (h0 : 0 ≤ d) (h1 : d < 8) : vs_and (vs_shr x d) 1 = vz_b (P d) := by
  obtain ⟨n, hn, rfl, h3⟩ := h
  obtain ⟨k, rfl⟩ : ∃ k : Nat, d = (k : Int) := ⟨d.toNat, by omega⟩
  have e : vs_and (vs_shr (n : Int) (k : Int)) 1 = if n.testBit k then 1 else 0 := vz_bit0 ⟨n, hn⟩ ⟨k, by omega⟩
  rw [e]
  have := h3 k (by omega)
  by_cases q : n.testBit k = true
  · rw [if_pos q, vz_b1 (this.mp q)]
  · rw [if_neg q, vz_b0 (fun z => q (this.mpr z))]
theorem vz_tb8 {n : Nat} (hn : n < 256) {d : Nat} (hd : 8 ≤ d) : n.testBit d = false :=
  Nat.testBit_lt_two_pow (Nat.lt_of_lt_of_le hn (show 2 ^ 8 ≤ 2 ^ d from Nat.pow_le_pow_right (by omega) hd))
theorem vz_mask.z {x : Int} {P : Int → Prop} (h : vz_mask x P) : x = 0 ↔ ∀ d : Int, 0 ≤ d → d < 8 → ¬ P d := by
  obtain ⟨n, hn, rfl, h3⟩ := h
  constructor
  · intro e d h0 h1 hp
    have e : n = 0 := by omega
    subst e
    have := (h3 d.toNat (by omega)).mpr (by rw [Int.toNat_of_nonneg h0]; exact hp)
    rw [Nat.zero_testBit] at this
    exact nomatch this
  · intro hz
    have : n = 0 := by
      apply Nat.eq_of_testBit_eq
      intro d
      rw [Nat.zero_testBit]
      by_cases q : d < 8
      · cases e : n.testBit d
        · rfl
        · exact absurd ((h3 d q).mp e) (hz d (by omega) (by omega))
      · exact vz_tb8 hn (by omega)
    omega
theorem vz_tb_b {n d : Nat} {P : Prop} (h : n.testBit d = true ↔ P) : vz_tb n d = vz_b P := by
  unfold vz_tb
  by_cases q : n.testBit d = true
  · rw [if_pos q, vz_b1 (h.mp q)]
  · rw [if_neg q, vz_b0 (fun z => q (h.mpr z))]
theorem vz_mask.cnt {x : Int} {P : Int → Prop} (h : vz_mask x P) {post : Int → Prop} (k : post (vz_cnt P 8)) : wJ6_bitCount_0f7a4 x post := by
  have e : vz_pc x = vz_cnt P 8 := by
    obtain ⟨n, hn, rfl, h3⟩ := h
    have := vz_pc0 ⟨n, hn⟩
    have e2 : vz_pc (n : Int) = vz_tb n 0 + vz_tb n 1 + vz_tb n 2 + vz_tb n 3 + vz_tb n 4 + vz_tb n 5 + vz_tb n 6 + vz_tb n 7 := this
    rw [e2, vz_tb_b (h3 0 (by omega)), vz_tb_b (h3 1 (by omega)), vz_tb_b (h3 2 (by omega)), vz_tb_b (h3 3 (by omega)), vz_tb_b (h3 4 (by omega)), vz_tb_b (h3 5 (by omega)), vz_tb_b (h3 6 (by omega)), vz_tb_b (h3 7 (by omega))]
    show _ = 0 + vz_b (P (0 : Nat)) + vz_b (P (1 : Nat)) + vz_b (P (2 : Nat)) + vz_b (P (3 : Nat)) + vz_b (P (4 : Nat)) + vz_b (P (5 : Nat)) + vz_b (P (6 : Nat)) + vz_b (P (7 : Nat))
    omega
  unfold wJ6_bitCount_0f7a4
  intro v1 h1 v2 h2 v3 h3 v4 h4 v5 h5
  subst h1; subst h2; subst h3; subst h4; subst h5
  show post (vz_pc x)
  rw [e]; exact k
theorem vz_mask.and {x y : Int} {P Q : Int → Prop} (h : vz_mask x P) (h' : vz_mask y Q) : vz_mask (vs_and x y) (fun d => P d ∧ Q d) := by
  obtain ⟨n, hn, rfl, h3⟩ := h
  obtain ⟨m, hm, rfl, h4⟩ := h'
  rw [vz_and (by omega)]
  refine ⟨n &&& m, Nat.lt_of_le_of_lt Nat.and_le_left hn, rfl, fun d hd => ?_⟩
  rw [Nat.testBit_and, Bool.and_eq_true, h3 d hd, h4 d hd]
theorem vz_mask.sub {x y : Int} {P Q : Int → Prop} (h : vz_mask x P) (h' : vz_mask y Q) : vz_mask (vs_and x (vs_xor y (-1))) (fun d => P d ∧ ¬ Q d) := by
  obtain ⟨n, hn, rfl, h3⟩ := h
  obtain ⟨m, hm, rfl, h4⟩ := h'
  have e : vs_and (n : Int) (vs_xor (m : Int) (-1)) = ((n &&& (2 ^ 32 - (m + 1)) : Nat) : Int) := by
    show ((vs_I (n : Int)).toBitVec &&& (vs_I (vs_xor (m : Int) (-1))).toBitVec).toInt = _
    have q : (vs_I (vs_xor (m : Int) (-1))).toBitVec = BitVec.ofNat 32 (2 ^ 32 - (m + 1)) := vz_xor0 ⟨m, hm⟩
    rw [vz_N, q, ← BitVec.ofNat_and, vz_tn (Nat.lt_of_le_of_lt Nat.and_le_left (by omega))]
  rw [e]
  refine ⟨_, Nat.lt_of_le_of_lt Nat.and_le_left hn, rfl, fun d hd => ?_⟩
  rw [Nat.testBit_and, Bool.and_eq_true, h3 d hd, Nat.testBit_two_pow_sub_succ (by omega : m < 2 ^ 32), Bool.and_eq_true]
  constructor
  · rintro ⟨a, _, b⟩
    refine ⟨a, fun q => ?_⟩
    rw [(h4 d hd).mpr q] at b
    exact nomatch b
  · rintro ⟨a, b⟩
    refine ⟨a, decide_eq_true (by omega), ?_⟩
    cases q : m.testBit d
    · rfl
    · exact absurd ((h4 d hd).mp q) b
theorem vz_mask_of {n : Nat} (h : n < 256) : vz_mask (n : Int) (fun d => n.testBit d.toNat = true) := ⟨n, h, rfl, fun _ _ => Iff.rfl⟩
theorem vz_mask_ex (P : Int → Prop) : ∀ k : Nat, k ≤ 8 → ∃ n : Nat, n < 2 ^ k ∧ vz_mask (n : Int) (fun d => d < k ∧ P d)
  | 0, _ => ⟨0, by omega, vz_mask_0 (fun d a b c => by omega)⟩
  | k + 1, hk => by
    obtain ⟨n, hn, n', hn', e, h⟩ := vz_mask_ex P k (by omega)
    have e : n' = n := by omega
    subst e
    rcases Classical.em (P (k : Int)) with q | q
    · have hp : 2 ^ k < 2 ^ (k + 1) := Nat.pow_lt_pow_right (by omega) (by omega)
      have hlt : n' ||| 2 ^ k < 2 ^ (k + 1) := Nat.or_lt_two_pow (by omega) hp
      have h8 : 2 ^ (k + 1) ≤ 2 ^ 8 := Nat.pow_le_pow_right (by omega) hk
      refine ⟨n' ||| 2 ^ k, hlt, n' ||| 2 ^ k, by omega, rfl, fun d hd => ?_⟩
      rw [Nat.testBit_or, Nat.testBit_two_pow, Bool.or_eq_true, h d hd]
      constructor
      · rintro (⟨a, b⟩ | a)
        · exact ⟨by omega, b⟩
        · have := of_decide_eq_true a
          subst this
          exact ⟨by omega, q⟩
      · rintro ⟨a, b⟩
        by_cases z : d = k
        · right; exact decide_eq_true z.symm
        · left; exact ⟨by omega, b⟩
    · have hp : 2 ^ k < 2 ^ (k + 1) := Nat.pow_lt_pow_right (by omega) (by omega)
      refine ⟨n', by omega, n', hn', rfl, fun d hd => ?_⟩
      rw [h d hd]
      constructor
      · rintro ⟨a, b⟩; exact ⟨by omega, b⟩
      · rintro ⟨a, b⟩
        refine ⟨?_, b⟩
        by_cases z : d = k
        · subst z; exact absurd b q
        · omega
theorem vz_shlR {k : Int} (h0 : 0 ≤ k) (h1 : k ≤ 8) : vs_shl 1 k = ((2 ^ k.toNat : Nat) : Int) ∧ (2 ^ k.toNat ≤ 256) := by
  obtain ⟨n, rfl⟩ : ∃ n : Nat, k = (n : Int) := ⟨k.toNat, by omega⟩
  refine ⟨vz_shl0 ⟨n, by omega⟩, ?_⟩
  have : 2 ^ n ≤ 2 ^ 8 := Nat.pow_le_pow_right (by omega) (by omega)
  exact this
