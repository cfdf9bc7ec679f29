/-! the law's loop, over any relation that every case keeps -/
abbrev vs_RR : Type := vs_St → vs_St → vs_St → vs_St → vs_St → vs_TT → vs_LN → Prop
def vs_lnS (tx : Option vs_TT) (LN LN' : vs_LN) : Prop := match tx with
  | none => LN' = LN
  | some T => vs_lnN LN' = T.1 ∧ (∀ j : Int, 0 ≤ j → j < T.1 → vs_lnF LN' j = T.2.2 j)
theorem vs_lnR.S {aM aM' : Nat → Nat} {tx : Option vs_TT} {LN LN' : vs_LN} (h : vs_lnR aM aM' tx LN LN') : vs_lnS tx LN LN' := by
  cases tx with
  | none => exact h.2
  | some T => exact h
def vs_okc_0 (R : vs_RR) : Prop := ∀ (V S T K O M : vs_St) (B : vs_TT) (LN : vs_LN) (i p1 p2 p3 : Int), vs_R p1 → vs_R p2 → vs_R p3 → R V S T K M B LN → wcase_0 V S T K O M i p1 p2 p3 (fun V' S' T' K' _ M' => R V' S' T' K' M' B LN)
def vs_okc_1 (R : vs_RR) : Prop := ∀ (V S T K O M : vs_St) (B : vs_TT) (LN : vs_LN) (i p1 p2 p3 : Int), vs_R p1 → vs_R p2 → vs_R p3 → R V S T K M B LN → wcase_1 V S T K O M i p1 p2 p3 (fun V' S' T' K' _ M' => R V' S' T' K' M' B LN)
def vs_okc_2 (R : vs_RR) : Prop := ∀ (V S T K O M : vs_St) (B : vs_TT) (LN : vs_LN) (i p1 p2 p3 : Int), vs_R p1 → vs_R p2 → vs_R p3 → R V S T K M B LN → wcase_2 V S T K O M i p1 p2 p3 (fun V' S' T' K' _ M' => R V' S' T' K' M' B LN)
def vs_okc_3 (R : vs_RR) : Prop := ∀ (V S T K O M : vs_St) (B : vs_TT) (LN : vs_LN) (i p1 p2 p3 : Int), vs_R p1 → vs_R p2 → vs_R p3 → R V S T K M B LN → wcase_3 V S T K O M i p1 p2 p3 (fun V' S' T' K' _ M' => R V' S' T' K' M' B LN)
def vs_okc_4 (R : vs_RR) : Prop := ∀ (V S T K O M : vs_St) (B : vs_TT) (LN : vs_LN) (i p1 p2 p3 : Int), vs_R p1 → vs_R p2 → vs_R p3 → R V S T K M B LN → wcase_4 V S T K O M i p1 p2 p3 (fun V' S' T' K' _ M' => R V' S' T' K' M' B LN)
def vs_okc_5 (R : vs_RR) : Prop := ∀ (V S T K O M : vs_St) (B : vs_TT) (LN : vs_LN) (i p1 p2 p3 : Int), vs_R p1 → vs_R p2 → vs_R p3 → R V S T K M B LN → wcase_5 V S T K O M i p1 p2 p3 (fun V' S' T' K' _ M' => R V' S' T' K' M' B LN)
def vs_okc_6 (R : vs_RR) : Prop := ∀ (V S T K O M : vs_St) (B : vs_TT) (LN : vs_LN) (i p1 p2 p3 : Int), vs_R p1 → vs_R p2 → vs_R p3 → R V S T K M B LN → wcase_6 V S T K O M i p1 p2 p3 (fun V' S' T' K' _ M' => R V' S' T' K' M' B LN)
def vs_okc_7 (R : vs_RR) : Prop := ∀ (V S T K O M : vs_St) (B : vs_TT) (LN : vs_LN) (i p1 p2 p3 : Int), vs_R p1 → vs_R p2 → vs_R p3 → R V S T K M B LN → wcase_7 V S T K O M i p1 p2 p3 (fun V' S' T' K' _ M' => R V' S' T' K' M' B LN)
def vs_okc_8 (R : vs_RR) : Prop := ∀ (V S T K O M : vs_St) (B : vs_TT) (LN : vs_LN) (i p1 p2 p3 : Int), vs_R p1 → vs_R p2 → vs_R p3 → R V S T K M B LN → wcase_8 V S T K O M i p1 p2 p3 (fun V' S' T' K' _ M' => R V' S' T' K' M' B LN)
def vs_okc_9 (R : vs_RR) : Prop := ∀ (V S T K O M : vs_St) (B : vs_TT) (LN : vs_LN) (i p1 p2 p3 : Int), vs_R p1 → vs_R p2 → vs_R p3 → R V S T K M B LN → wcase_9 V S T K O M i p1 p2 p3 (fun V' S' T' K' _ M' => R V' S' T' K' M' B LN)
def vs_okc_10 (R : vs_RR) : Prop := ∀ (V S T K O M : vs_St) (B : vs_TT) (LN : vs_LN) (i p1 p2 p3 : Int), vs_R p1 → vs_R p2 → vs_R p3 → R V S T K M B LN → wcase_10 V S T K O M i p1 p2 p3 (fun V' S' T' K' _ M' => R V' S' T' K' M' B LN)
def vs_okc_11 (R : vs_RR) : Prop := ∀ (V S T K O M : vs_St) (B : vs_TT) (LN : vs_LN) (i p1 p2 p3 : Int), vs_R p1 → vs_R p2 → vs_R p3 → R V S T K M B LN → wcase_11 V S T K O M i p1 p2 p3 (fun V' S' T' K' _ M' => R V' S' T' K' M' B LN)
def vs_okc_12 (R : vs_RR) : Prop := ∀ (V S T K O M : vs_St) (B : vs_TT) (LN : vs_LN) (i p1 p2 p3 : Int), vs_R p1 → vs_R p2 → vs_R p3 → R V S T K M B LN → wcase_12 V S T K O M i p1 p2 p3 (fun V' S' T' K' _ M' => R V' S' T' K' M' B LN)
def vs_okc_13 (R : vs_RR) : Prop := ∀ (V S T K O M : vs_St) (B : vs_TT) (LN : vs_LN) (i p1 p2 p3 : Int), vs_R p1 → vs_R p2 → vs_R p3 → R V S T K M B LN → wcase_13 V S T K O M i p1 p2 p3 (fun V' S' T' K' _ M' => R V' S' T' K' M' B LN)
def vs_okc_14 (R : vs_RR) : Prop := ∀ (V S T K O M : vs_St) (B : vs_TT) (LN : vs_LN) (i p1 p2 p3 : Int), vs_R p1 → vs_R p2 → vs_R p3 → R V S T K M B LN → wcase_14 V S T K O M i p1 p2 p3 (fun V' S' T' K' _ M' => R V' S' T' K' M' B LN)
def vs_okc_15 (R : vs_RR) : Prop := ∀ (V S T K O M : vs_St) (B : vs_TT) (LN : vs_LN) (i p1 p2 p3 : Int), vs_R p1 → vs_R p2 → vs_R p3 → R V S T K M B LN → wcase_15 V S T K O M i p1 p2 p3 (fun V' S' T' K' _ M' => R V' S' T' K' M' B LN)
def vs_okc_16 (R : vs_RR) : Prop := ∀ (V S T K O M : vs_St) (B : vs_TT) (LN : vs_LN) (i p1 p2 p3 : Int), vs_R p1 → vs_R p2 → vs_R p3 → R V S T K M B LN → wcase_16 V S T K O M i p1 p2 p3 (fun V' S' T' K' _ M' => R V' S' T' K' M' B LN)
def vs_okc_17 (R : vs_RR) : Prop := ∀ (V S T K O M : vs_St) (B : vs_TT) (LN : vs_LN) (i p1 p2 p3 : Int), vs_R p1 → vs_R p2 → vs_R p3 → R V S T K M B LN → wcase_17 V S T K O M i p1 p2 p3 (fun V' S' T' K' _ M' => R V' S' T' K' M' B LN)
def vs_okc_18 (R : vs_RR) : Prop := ∀ (V S T K O M : vs_St) (B : vs_TT) (LN : vs_LN) (i p1 p2 p3 : Int), vs_R p1 → vs_R p2 → vs_R p3 → R V S T K M B LN → wcase_18 V S T K O M i p1 p2 p3 (fun V' S' T' K' _ M' => R V' S' T' K' M' B LN)
def vs_okc_19 (R : vs_RR) : Prop := ∀ (V S T K O M : vs_St) (B : vs_TT) (LN : vs_LN) (i p1 p2 p3 : Int), vs_R p1 → vs_R p2 → vs_R p3 → R V S T K M B LN → wcase_19 V S T K O M i p1 p2 p3 (fun V' S' T' K' _ M' => R V' S' T' K' M' B LN)
def vs_okc_20 (R : vs_RR) : Prop := ∀ (V S T K O M : vs_St) (B : vs_TT) (LN : vs_LN) (i p1 p2 p3 : Int), vs_R p1 → vs_R p2 → vs_R p3 → R V S T K M B LN → wcase_20 V S T K O M i p1 p2 p3 (fun V' S' T' K' _ M' => R V' S' T' K' M' B LN)
def vs_okc_21 (R : vs_RR) : Prop := ∀ (V S T K O M : vs_St) (B : vs_TT) (LN : vs_LN) (i p1 p2 p3 : Int), vs_R p1 → vs_R p2 → vs_R p3 → R V S T K M B LN → wcase_21 V S T K O M i p1 p2 p3 (fun V' S' T' K' _ M' => R V' S' T' K' M' B LN)
def vs_okc_22 (R : vs_RR) : Prop := ∀ (V S T K O M : vs_St) (B : vs_TT) (LN : vs_LN) (i p1 p2 p3 : Int), vs_R p1 → vs_R p2 → vs_R p3 → R V S T K M B LN → wcase_22 V S T K O M i p1 p2 p3 (fun V' S' T' K' _ M' => R V' S' T' K' M' B LN)
def vs_okc_23 (R : vs_RR) : Prop := ∀ (V S T K O M : vs_St) (B : vs_TT) (LN : vs_LN) (i p1 p2 p3 : Int), vs_R p1 → vs_R p2 → vs_R p3 → R V S T K M B LN → wcase_23 V S T K O M i p1 p2 p3 (fun V' S' T' K' _ M' => R V' S' T' K' M' B LN)
def vs_okc_24 (R : vs_RR) : Prop := ∀ (V S T K O M : vs_St) (B : vs_TT) (LN : vs_LN) (i p1 p2 p3 : Int), vs_R p1 → vs_R p2 → vs_R p3 → R V S T K M B LN → wcase_24 V S T K O M i p1 p2 p3 (fun V' S' T' K' _ M' => R V' S' T' K' M' B LN)
def vs_okc_25 (R : vs_RR) : Prop := ∀ (V S T K O M : vs_St) (B : vs_TT) (LN : vs_LN) (i p1 p2 p3 : Int), vs_R p1 → vs_R p2 → vs_R p3 → R V S T K M B LN → wcase_25 V S T K O M i p1 p2 p3 (fun V' S' T' K' _ M' => R V' S' T' K' M' B LN)
def vs_okc_26 (R : vs_RR) : Prop := ∀ (V S T K O M : vs_St) (B : vs_TT) (LN : vs_LN) (i p1 p2 p3 : Int), vs_R p1 → vs_R p2 → vs_R p3 → R V S T K M B LN → wcase_26 V S T K O M i p1 p2 p3 (fun V' S' T' K' _ M' => R V' S' T' K' M' B LN)
def vs_okc_27 (R : vs_RR) : Prop := ∀ (V S T K O M : vs_St) (B : vs_TT) (LN : vs_LN) (i p1 p2 p3 : Int), vs_R p1 → vs_R p2 → vs_R p3 → R V S T K M B LN → wcase_27 V S T K O M i p1 p2 p3 (fun V' S' T' K' _ M' => R V' S' T' K' M' B LN)
def vs_okc_28 (R : vs_RR) : Prop := ∀ (V S T K O M : vs_St) (B : vs_TT) (LN : vs_LN) (i p1 p2 p3 : Int), vs_R p1 → vs_R p2 → vs_R p3 → R V S T K M B LN → wcase_28 V S T K O M i p1 p2 p3 (fun V' S' T' K' _ M' => R V' S' T' K' M' B LN)
def vs_okc_29 (R : vs_RR) : Prop := ∀ (V S T K O M : vs_St) (B : vs_TT) (LN : vs_LN) (i p1 p2 p3 : Int), vs_R p1 → vs_R p2 → vs_R p3 → R V S T K M B LN → wcase_29 V S T K O M i p1 p2 p3 (fun V' S' T' K' _ M' => R V' S' T' K' M' B LN)
def vs_okc_30 (R : vs_RR) : Prop := ∀ (V S T K O M : vs_St) (B : vs_TT) (LN : vs_LN) (i p1 p2 p3 : Int), vs_R p1 → vs_R p2 → vs_R p3 → R V S T K M B LN → wcase_30 V S T K O M i p1 p2 p3 (fun V' S' T' K' _ M' => R V' S' T' K' M' B LN)
def vs_okc_31 (R : vs_RR) : Prop := ∀ (V S T K O M : vs_St) (B : vs_TT) (LN : vs_LN) (i p1 p2 p3 : Int), vs_R p1 → vs_R p2 → vs_R p3 → R V S T K M B LN → wcase_31 V S T K O M i p1 p2 p3 (fun V' S' T' K' _ M' => R V' S' T' K' M' B LN)
def vs_okc_32 (R : vs_RR) : Prop := ∀ (V S T K O M : vs_St) (B : vs_TT) (LN : vs_LN) (i p1 p2 p3 : Int), vs_R p1 → vs_R p2 → vs_R p3 → R V S T K M B LN → wcase_32 V S T K O M i p1 p2 p3 (fun V' S' T' K' _ M' => R V' S' T' K' M' B LN)
def vs_okc_33 (R : vs_RR) : Prop := ∀ (V S T K O M : vs_St) (B : vs_TT) (LN : vs_LN) (i p1 p2 p3 : Int), vs_R p1 → vs_R p2 → vs_R p3 → R V S T K M B LN → wcase_33 V S T K O M i p1 p2 p3 (fun V' S' T' K' _ M' => R V' S' T' K' M' B LN)
def vs_okc_34 (R : vs_RR) : Prop := ∀ (V S T K O M : vs_St) (B : vs_TT) (LN : vs_LN) (i p1 p2 p3 : Int), vs_R p1 → vs_R p2 → vs_R p3 → R V S T K M B LN → wcase_34 V S T K O M i p1 p2 p3 (fun V' S' T' K' _ M' => R V' S' T' K' M' B LN)
def vs_okc_35 (R : vs_RR) : Prop := ∀ (V S T K O M : vs_St) (B : vs_TT) (LN : vs_LN) (D : Nat → UInt64) (i p1 p2 p3 : Int), vs_R p1 → vs_R p2 → vs_R p3 → R V S T K M B LN → wcase_35 V S T K O M D i p1 p2 p3 (fun V' S' T' K' _ M' _ => R V' S' T' K' M' B LN)
def vs_okc_36 (R : vs_RR) : Prop := ∀ (V S T K O M : vs_St) (B : vs_TT) (LN : vs_LN) (D : Nat → UInt64) (i p1 p2 p3 : Int), vs_R p1 → vs_R p2 → vs_R p3 → R V S T K M B LN → wcase_36 V S T K O M D i p1 p2 p3 (fun V' S' T' K' _ M' _ => R V' S' T' K' M' B LN)
def vs_okc_37 (R : vs_RR) : Prop := ∀ (V S T K O M : vs_St) (B : vs_TT) (LN : vs_LN) (i p1 p2 p3 : Int), vs_R p1 → vs_R p2 → vs_R p3 → R V S T K M B LN → wcase_37 V S T K O M i p1 p2 p3 (fun V' S' T' K' _ M' => R V' S' T' K' M' B LN)
def vs_okc_38 (R : vs_RR) : Prop := ∀ (V S T K O M : vs_St) (B : vs_TT) (LN : vs_LN) (p1 : Int), vs_R p1 → R V S T K M B LN → wcase_38 V S T K O M B p1 (fun B' _ M' tx => ∀ LN' : vs_LN, vs_lnS tx LN LN' → R V S T K M' B' LN')
def vs_okc_39 (R : vs_RR) : Prop := ∀ (V S T K O M : vs_St) (B : vs_TT) (LN : vs_LN) (p1 : Int), vs_R p1 → R V S T K M B LN → wcase_39 O M B (vs_lnN LN) (vs_lnF LN) p1 (fun _ M' => R V S T K M' B LN)
theorem vs_R32 (z : Int32) : vs_R z.toInt := ⟨Int32.minValue_le_toInt z, Int32.toInt_le z⟩
theorem vs_and63 (x : Int) : ∃ n : Nat, vs_and x 63 = (n : Int) ∧ n < 64 := by
  have key : ∀ z : BitVec 32, 0 ≤ (z &&& 63#32).toInt ∧ (z &&& 63#32).toInt < 64 := by
    intro z
    have h1 : (z &&& 63#32).toNat < 64 := by
      rw [BitVec.toNat_and]
      exact Nat.lt_of_le_of_lt Nat.and_le_right (by decide)
    rw [BitVec.toInt_eq_toNat_of_lt (by omega)]
    omega
  have h := key (vs_I x).toBitVec
  have e : vs_and x 63 = ((vs_I x).toBitVec &&& 63#32).toInt := rfl
  rw [e]
  exact ⟨_, (Int.toNat_of_nonneg h.1).symm, by omega⟩
abbrev vs_LV : Type := vs_St × vs_St × vs_St × vs_St × vs_St × vs_St × (Nat → UInt64) × vs_TT × vs_LN × Nat × Int × (Nat → Nat) × Nat
set_option maxHeartbeats 8000000 in
set_option maxRecDepth 100000 in
theorem law_loop {p : Program} {l : Launch} {e : Env} {s : State} {m : MethodId} {below : List Frame} {meth : Method} {c : Code} {g : vs_G} {sd : Nat → Nat} {b L : Nat} {xs : Nat → Int32} (R : vs_RR) (hRB : ∀ V S T K M B LN, R V S T K M B LN → vs_tk B) (H0 : vs_okc_0 R) (H1 : vs_okc_1 R) (H2 : vs_okc_2 R) (H3 : vs_okc_3 R) (H4 : vs_okc_4 R) (H5 : vs_okc_5 R) (H6 : vs_okc_6 R) (H7 : vs_okc_7 R) (H8 : vs_okc_8 R) (H9 : vs_okc_9 R) (H10 : vs_okc_10 R) (H11 : vs_okc_11 R) (H12 : vs_okc_12 R) (H13 : vs_okc_13 R) (H14 : vs_okc_14 R) (H15 : vs_okc_15 R) (H16 : vs_okc_16 R) (H17 : vs_okc_17 R) (H18 : vs_okc_18 R) (H19 : vs_okc_19 R) (H20 : vs_okc_20 R) (H21 : vs_okc_21 R) (H22 : vs_okc_22 R) (H23 : vs_okc_23 R) (H24 : vs_okc_24 R) (H25 : vs_okc_25 R) (H26 : vs_okc_26 R) (H27 : vs_okc_27 R) (H28 : vs_okc_28 R) (H29 : vs_okc_29 R) (H30 : vs_okc_30 R) (H31 : vs_okc_31 R) (H32 : vs_okc_32 R) (H33 : vs_okc_33 R) (H34 : vs_okc_34 R) (H35 : vs_okc_35 R) (H36 : vs_okc_36 R) (H37 : vs_okc_37 R) (H38 : vs_okc_38 R) (H39 : vs_okc_39 R)
    (hst : l.stackTraces = false) (hL : L ≤ 2048) (C0 : lw_At p s m meth c b L xs) (hX : vs_Xs g sd (fun q => s.heap.size ≤ q) s s.heap) (hsd : True) {h0 n0 o od m0 : Nat} {aS aT aK rM qM : Nat → Nat} {H : Heap} {locs : List Loc} {cells slots : Nat} {ls : Array Slot}
    (v0 : vs_LV) (hJ0 : (fun (v : vs_LV) (c1 s1 : Nat) => R v.1 v.2.1 v.2.2.1 v.2.2.2.1 v.2.2.2.2.2.1 v.2.2.2.2.2.2.2.1 v.2.2.2.2.2.2.2.2.1 ∧ vs_lnok sd (v.2.2.2.2.2.2.2.2.2.2.2.1 32) v.2.2.2.2.2.2.2.2.1 ∧ v.2.2.2.2.2.2.2.2.2.2.2.1 0 = m0 ∧ 4 * v.2.2.2.2.2.2.2.2.2.2.2.2 ≤ L ∧ c1 ≤ 2000 + 860 * v.2.2.2.2.2.2.2.2.2.2.2.2 ∧ s1 ≤ 40000 + 2000 * v.2.2.2.2.2.2.2.2.2.2.2.2) v0 cells slots) (hW0 : vs_Wd g (fun q => s.heap.size ≤ q) s.heap ((fun v : vs_LV => vs_W2 h0 (aS 0) (aT 0) (aK 0) n0 v.1 ++ (vs_W1 g aS v.2.1 ++ (vs_W1 g aT v.2.2.1 ++ (vs_W0 g aK v.2.2.2.1 ++ (vs_WO g o v.2.2.2.2.1 ++ (vs_W3 g v.2.2.2.2.2.2.2.2.2.2.2.1 rM qM v.2.2.2.2.2.1 ++ (vs_WD g od v.2.2.2.2.2.2.1 ++ (vs_tT g n0 v.2.2.2.2.2.2.2.2.2.1 v.2.2.2.2.2.2.2.2.2.2.1 v.2.2.2.2.2.2.2.1 ++ (vs_ln g (v.2.2.2.2.2.2.2.2.2.2.2.1 32) v.2.2.2.2.2.2.2.2.1 ++ ([])))))))))) v0) H locs s) (hl0 : lv_has ls 9 ((fun v : vs_LV => [(0, .ref b), (1, .ref h0), (2, .ref (v.2.2.2.2.2.2.2.2.2.2.2.1 0)), (3, .ref o), (4, .ref od), (5, .int (vs_I ((4 * v.2.2.2.2.2.2.2.2.2.2.2.2 : Nat) : Int)))]) v0)) :
    W p l e room_1 s m #[Value.ref b] below meth c H locs cells slots (lw_Z below #[Value.ref b] s) (F0 m 28 ls []) := by
  obtain ⟨hx, hb, hr, hml, hown, hts, hXs, hbl, hlocks, hgv⟩ := C0
  have hC : CallFix p m c cL_law 9 s #[Value.ref b] vs_ws RL := ⟨hx, hb, hml, hown, fun w hw => hts w (vs_ws_in hw)⟩
  have hScr : vs_Scr b L xs (fun q => s.heap.size ≤ q) s := ⟨hXs, hbl, Nat.not_le.mpr hbl⟩
  refine vs_loopC (V := vs_LV) (J := fun v c1 s1 => R v.1 v.2.1 v.2.2.1 v.2.2.2.1 v.2.2.2.2.2.1 v.2.2.2.2.2.2.2.1 v.2.2.2.2.2.2.2.2.1 ∧ vs_lnok sd (v.2.2.2.2.2.2.2.2.2.2.2.1 32) v.2.2.2.2.2.2.2.2.1 ∧ v.2.2.2.2.2.2.2.2.2.2.2.1 0 = m0 ∧ 4 * v.2.2.2.2.2.2.2.2.2.2.2.2 ≤ L ∧ c1 ≤ 2000 + 860 * v.2.2.2.2.2.2.2.2.2.2.2.2 ∧ s1 ≤ 40000 + 2000 * v.2.2.2.2.2.2.2.2.2.2.2.2) (μ := fun v => L + 4 - 4 * v.2.2.2.2.2.2.2.2.2.2.2.2) (fun v => vs_W2 h0 (aS 0) (aT 0) (aK 0) n0 v.1 ++ (vs_W1 g aS v.2.1 ++ (vs_W1 g aT v.2.2.1 ++ (vs_W0 g aK v.2.2.2.1 ++ (vs_WO g o v.2.2.2.2.1 ++ (vs_W3 g v.2.2.2.2.2.2.2.2.2.2.2.1 rM qM v.2.2.2.2.2.1 ++ (vs_WD g od v.2.2.2.2.2.2.1 ++ (vs_tT g n0 v.2.2.2.2.2.2.2.2.2.1 v.2.2.2.2.2.2.2.2.2.2.1 v.2.2.2.2.2.2.2.1 ++ (vs_ln g (v.2.2.2.2.2.2.2.2.2.2.2.1 32) v.2.2.2.2.2.2.2.2.1 ++ ([])))))))))) (fun v => [(0, .ref b), (1, .ref h0), (2, .ref (v.2.2.2.2.2.2.2.2.2.2.2.1 0)), (3, .ref o), (4, .ref od), (5, .int (vs_I ((4 * v.2.2.2.2.2.2.2.2.2.2.2.2 : Nat) : Int)))]) (fun v c1 s1 hJv ih H locs ls hW hl => ?_) v0 hJ0 hW0 hl0
  obtain ⟨V, S, T, K, O, M, D, B, LN, q, ml, aM, j⟩ := v
  obtain ⟨hR, hln, hm0, hj, hc1, hs1⟩ := hJv
  have hR : R V S T K M B LN := hR
  have hln : vs_lnok sd (aM 32) LN := hln
  have hm0 : aM 0 = m0 := hm0
  have hj : 4 * j ≤ L := hj
  have hc1 : c1 ≤ 2000 + 860 * j := hc1
  have hs1 : s1 ≤ 40000 + 2000 * j := hs1
  have hW : vs_Wd g (fun q => s.heap.size ≤ q) s.heap (vs_W2 h0 (aS 0) (aT 0) (aK 0) n0 V ++ (vs_W1 g aS S ++ (vs_W1 g aT T ++ (vs_W0 g aK K ++ (vs_WO g o O ++ (vs_W3 g aM rM qM M ++ (vs_WD g od D ++ (vs_tT g n0 q ml B ++ (vs_ln g (aM 32) LN ++ ([])))))))))) H locs s := hW
  obtain ⟨i, hi⟩ : ∃ i : Int, i = ((4 * j : Nat) : Int) := ⟨_, rfl⟩
  have hl : lv_has ls 9 [(0, .ref b), (1, .ref h0), (2, .ref (aM 0)), (3, .ref o), (4, .ref od), (5, .int (vs_I i))] := by rw [hi]; exact hl
  have next : ∀ (V9 S9 T9 K9 O9 M9 : vs_St) (D9 : Nat → UInt64) (B9 : vs_TT) (LN9 : vs_LN) (q9 : Nat) (ml9 : Int) (aM9 : Nat → Nat) (H : Heap) (locs : List Loc) (ls : Array Slot) (c2 s2 : Nat), R V9 S9 T9 K9 M9 B9 LN9 → vs_lnok sd (aM9 32) LN9 → aM9 0 = aM 0 → 4 * (j + 1) ≤ L → c2 ≤ c1 + 860 → s2 ≤ s1 + 2000 → vs_Wd g (fun q => s.heap.size ≤ q) s.heap (vs_W2 h0 (aS 0) (aT 0) (aK 0) n0 V9 ++ (vs_W1 g aS S9 ++ (vs_W1 g aT T9 ++ (vs_W0 g aK K9 ++ (vs_WO g o O9 ++ (vs_W3 g aM9 rM qM M9 ++ (vs_WD g od D9 ++ (vs_tT g n0 q9 ml9 B9 ++ (vs_ln g (aM9 32) LN9 ++ ([])))))))))) H locs s → lv_has ls 9 [(0, .ref b), (1, .ref h0), (2, .ref (aM9 0)), (3, .ref o), (4, .ref od), (5, .int (vs_I i))] → W p l e room_1 s m #[Value.ref b] below meth c H locs c2 s2 (lw_Z below #[Value.ref b] s) (F0 m 2295 ls []) := by
    intro V9 S9 T9 K9 O9 M9 D9 B9 LN9 q9 ml9 aM9 H locs ls c2 s2 k1 k2 k3 k4 k5 k6 hW hl
    refine vs_iinc (L' := [(0, .ref b), (1, .ref h0), (2, .ref (aM9 0)), (3, .ref o), (4, .ref od), (5, .int (vs_I (i + 4)))]) hC hl 5 [1, 2, 3, 4, 5, 0] dL_law_2295 rfl (by decide) rfl (fun ls hl => ?_)
    refine vs_goto hC 28 dL_law_2298 (by decide) ?_
    refine ih (V9, S9, T9, K9, O9, M9, D9, B9, LN9, q9, ml9, aM9, j + 1) c2 s2 ⟨⟨k1, k2, by show aM9 0 = m0; rw [k3, hm0], k4, by show c2 ≤ 2000 + 860 * (j + 1); omega, by show s2 ≤ 40000 + 2000 * (j + 1); omega⟩, by show L + 4 - 4 * (j + 1) < L + 4 - 4 * j; omega⟩ H locs ls hW ?_
    have e4 : ((4 * (j + 1) : Nat) : Int) = i + 4 := by omega
    show lv_has ls 9 [(0, .ref b), (1, .ref h0), (2, .ref (aM9 0)), (3, .ref o), (4, .ref od), (5, .int (vs_I ((4 * (j + 1) : Nat) : Int)))]
    rw [e4]; exact hl
  refine vs_iload hC hl 5 dL_law_28 rfl ?_
  refine vs_aload_n hC hl 0 dL_law_30 rfl rfl ?_
  refine va_slen hC.1 hC.2.1 hScr.1 hScr.2.1 hScr.2.2 hW.2.2.2.1 dL_law_31 ?_
  have eL : Int32.ofNat L = vs_I (L : Int) := rfl
  refine vs_iconst hC dL_law_32 ?_
  refine vs_isub (x := (L : Int)) hC dL_law_33 ?_
  refine vs_icmp_gt hC 2301 ⟨by omega, by omega⟩ ⟨by omega, by omega⟩ dL_law_34 (by decide) (fun hc => ?_) (fun hc => ?_)
  · refine vs_iconst hC dL_law_2301 ?_
    refine va_forget (fun q hq => hW.2.2.2.1.2.2 q hq) ?_
    refine W.widen (k := 603072) (n := 7207018) (by omega) (by omega) ?_
    exact W.base (lw_ret (Drawn.sameBut.refl s.drawn lw_cs) hx hb hr hlocks dL_law_2302)
  refine vs_aload_n hC hl 0 dL_law_37 rfl rfl ?_
  refine vs_iload hC hl 5 dL_law_38 rfl ?_
  obtain ⟨p0, hp0, hr0⟩ : ∃ z : Int, xs (i).toNat = vs_I z ∧ vs_R z := ⟨(xs (i).toNat).toInt, (vs_I_of _).symm, vs_R32 _⟩
  obtain ⟨p1, hp1, hr1⟩ : ∃ z : Int, xs (i + 1).toNat = vs_I z ∧ vs_R z := ⟨(xs (i + 1).toNat).toInt, (vs_I_of _).symm, vs_R32 _⟩
  obtain ⟨p2, hp2, hr2⟩ : ∃ z : Int, xs (i + 2).toNat = vs_I z ∧ vs_R z := ⟨(xs (i + 2).toNat).toInt, (vs_I_of _).symm, vs_R32 _⟩
  obtain ⟨p3, hp3, hr3⟩ : ∃ z : Int, xs (i + 3).toNat = vs_I z ∧ vs_R z := ⟨(xs (i + 3).toNat).toInt, (vs_I_of _).symm, vs_R32 _⟩
  refine vs_sld hC hW hScr (by omega) hp0 dL_law_40 ?_
  refine vs_bipush hC dL_law_41 (by decide +kernel) ?_
  refine vs_iand hC dL_law_43 ?_
  obtain ⟨n, hn, hn64⟩ := vs_and63 p0
  rw [hn]
  have hnt : (vs_I (n : Int)).toInt = (n : Int) := vs_I_toInt ⟨by omega, by omega⟩
  by_cases hn40 : 40 ≤ n
  · refine lv_tableOut (tgt := 2295) hC.1 hC.2.1 dL_law_44 (.inr (by rw [hnt]; omega)) (by decide) ?_
    exact next V S T K O M D B LN q ml aM H locs ls _ _ hR hln rfl (by omega) (by omega) (by omega) hW hl
  have hn : n = 0 ∨ n = 1 ∨ n = 2 ∨ n = 3 ∨ n = 4 ∨ n = 5 ∨ n = 6 ∨ n = 7 ∨ n = 8 ∨ n = 9 ∨ n = 10 ∨ n = 11 ∨ n = 12 ∨ n = 13 ∨ n = 14 ∨ n = 15 ∨ n = 16 ∨ n = 17 ∨ n = 18 ∨ n = 19 ∨ n = 20 ∨ n = 21 ∨ n = 22 ∨ n = 23 ∨ n = 24 ∨ n = 25 ∨ n = 26 ∨ n = 27 ∨ n = 28 ∨ n = 29 ∨ n = 30 ∨ n = 31 ∨ n = 32 ∨ n = 33 ∨ n = 34 ∨ n = 35 ∨ n = 36 ∨ n = 37 ∨ n = 38 ∨ n = 39 := by omega
  rcases hn with rfl | rfl | rfl | rfl | rfl | rfl | rfl | rfl | rfl | rfl | rfl | rfl | rfl | rfl | rfl | rfl | rfl | rfl | rfl | rfl | rfl | rfl | rfl | rfl | rfl | rfl | rfl | rfl | rfl | rfl | rfl | rfl | rfl | rfl | rfl | rfl | rfl | rfl | rfl | rfl
  · refine lv_tableIn (off := 176) (tgt := 220) hC.1 hC.2.1 dL_law_44 (by rw [hnt]; decide) (by rw [hnt]; decide) (by rw [hnt]; rfl) (by decide) ?_
    exact case_0 hst hC hX hScr (by omega) hp1 hp2 hp3 (by omega) hW hl (H0 V S T K O M B LN i p1 p2 p3 hr1 hr2 hr3 hR) (fun V' S' T' K' O' M' H locs ls c2 s2 k1 k2 k3 hW hl => next V' S' T' K' O' M' D B LN q ml aM H locs ls c2 s2 k3 hln rfl (by omega) (by omega) (by omega) hW hl)
  · refine lv_tableIn (off := 232) (tgt := 276) hC.1 hC.2.1 dL_law_44 (by rw [hnt]; decide) (by rw [hnt]; decide) (by rw [hnt]; rfl) (by decide) ?_
    exact case_1 hst hC hX hScr (by omega) hp1 hp2 hp3 (by omega) hW hl (H1 V S T K O M B LN i p1 p2 p3 hr1 hr2 hr3 hR) (fun V' S' T' K' O' M' H locs ls c2 s2 k1 k2 k3 hW hl => next V' S' T' K' O' M' D B LN q ml aM H locs ls c2 s2 k3 hln rfl (by omega) (by omega) (by omega) hW hl)
  · refine lv_tableIn (off := 245) (tgt := 289) hC.1 hC.2.1 dL_law_44 (by rw [hnt]; decide) (by rw [hnt]; decide) (by rw [hnt]; rfl) (by decide) ?_
    exact case_2 hst hC hX hScr (by omega) hp1 hp2 hp3 (by omega) hW hl (H2 V S T K O M B LN i p1 p2 p3 hr1 hr2 hr3 hR) (fun V' S' T' K' O' M' H locs ls c2 s2 k1 k2 k3 hW hl => next V' S' T' K' O' M' D B LN q ml aM H locs ls c2 s2 k3 hln rfl (by omega) (by omega) (by omega) hW hl)
  · refine lv_tableIn (off := 301) (tgt := 345) hC.1 hC.2.1 dL_law_44 (by rw [hnt]; decide) (by rw [hnt]; decide) (by rw [hnt]; rfl) (by decide) ?_
    exact case_3 hst hC hX hScr (by omega) hp1 hp2 hp3 (by omega) hW hl (H3 V S T K O M B LN i p1 p2 p3 hr1 hr2 hr3 hR) (fun V' S' T' K' O' M' H locs ls c2 s2 k1 k2 k3 hW hl => next V' S' T' K' O' M' D B LN q ml aM H locs ls c2 s2 k3 hln rfl (by omega) (by omega) (by omega) hW hl)
  · refine lv_tableIn (off := 357) (tgt := 401) hC.1 hC.2.1 dL_law_44 (by rw [hnt]; decide) (by rw [hnt]; decide) (by rw [hnt]; rfl) (by decide) ?_
    exact case_4 hst hC hX hScr (by omega) hp1 hp2 hp3 (by omega) hW hl (H4 V S T K O M B LN i p1 p2 p3 hr1 hr2 hr3 hR) (fun V' S' T' K' O' M' H locs ls c2 s2 k1 k2 k3 hW hl => next V' S' T' K' O' M' D B LN q ml aM H locs ls c2 s2 k3 hln rfl (by omega) (by omega) (by omega) hW hl)
  · refine lv_tableIn (off := 425) (tgt := 469) hC.1 hC.2.1 dL_law_44 (by rw [hnt]; decide) (by rw [hnt]; decide) (by rw [hnt]; rfl) (by decide) ?_
    exact case_5 hst hC hX hScr (by omega) hp1 hp2 hp3 (by omega) hW hl (H5 V S T K O M B LN i p1 p2 p3 hr1 hr2 hr3 hR) (fun V' S' T' K' O' M' H locs ls c2 s2 k1 k2 k3 hW hl => next V' S' T' K' O' M' D B LN q ml aM H locs ls c2 s2 k3 hln rfl (by omega) (by omega) (by omega) hW hl)
  · refine lv_tableIn (off := 438) (tgt := 482) hC.1 hC.2.1 dL_law_44 (by rw [hnt]; decide) (by rw [hnt]; decide) (by rw [hnt]; rfl) (by decide) ?_
    exact case_6 hst hC hX hScr (by omega) hp1 hp2 hp3 (by omega) hW hl (H6 V S T K O M B LN i p1 p2 p3 hr1 hr2 hr3 hR) (fun V' S' T' K' O' M' H locs ls c2 s2 k1 k2 k3 hW hl => next V' S' T' K' O' M' D B LN q ml aM H locs ls c2 s2 k3 hln rfl (by omega) (by omega) (by omega) hW hl)
  · refine lv_tableIn (off := 494) (tgt := 538) hC.1 hC.2.1 dL_law_44 (by rw [hnt]; decide) (by rw [hnt]; decide) (by rw [hnt]; rfl) (by decide) ?_
    exact case_7 hst hC hX hScr (by omega) hp1 hp2 hp3 (by omega) hW hl (H7 V S T K O M B LN i p1 p2 p3 hr1 hr2 hr3 hR) (fun V' S' T' K' O' M' H locs ls c2 s2 k1 k2 k3 hW hl => next V' S' T' K' O' M' D B LN q ml aM H locs ls c2 s2 k3 hln rfl (by omega) (by omega) (by omega) hW hl)
  · refine lv_tableIn (off := 562) (tgt := 606) hC.1 hC.2.1 dL_law_44 (by rw [hnt]; decide) (by rw [hnt]; decide) (by rw [hnt]; rfl) (by decide) ?_
    exact case_8 hst hC hX hScr (by omega) hp1 hp2 hp3 (by omega) hW hl (H8 V S T K O M B LN i p1 p2 p3 hr1 hr2 hr3 hR) (fun V' S' T' K' O' M' H locs ls c2 s2 k1 k2 k3 hW hl => next V' S' T' K' O' M' D B LN q ml aM H locs ls c2 s2 k3 hln rfl (by omega) (by omega) (by omega) hW hl)
  · refine lv_tableIn (off := 642) (tgt := 686) hC.1 hC.2.1 dL_law_44 (by rw [hnt]; decide) (by rw [hnt]; decide) (by rw [hnt]; rfl) (by decide) ?_
    exact case_9 hst hC hX hScr (by omega) hp1 hp2 hp3 (by omega) hW hl (H9 V S T K O M B LN i p1 p2 p3 hr1 hr2 hr3 hR) (fun V' S' T' K' O' M' H locs ls c2 s2 k1 k2 k3 hW hl => next V' S' T' K' O' M' D B LN q ml aM H locs ls c2 s2 k3 hln rfl (by omega) (by omega) (by omega) hW hl)
  · refine lv_tableIn (off := 698) (tgt := 742) hC.1 hC.2.1 dL_law_44 (by rw [hnt]; decide) (by rw [hnt]; decide) (by rw [hnt]; rfl) (by decide) ?_
    exact case_10 hst hC hX hScr (by omega) hp1 hp2 hp3 (by omega) hW hl (H10 V S T K O M B LN i p1 p2 p3 hr1 hr2 hr3 hR) (fun V' S' T' K' O' M' H locs ls c2 s2 k1 k2 k3 hW hl => next V' S' T' K' O' M' D B LN q ml aM H locs ls c2 s2 k3 hln rfl (by omega) (by omega) (by omega) hW hl)
  · refine lv_tableIn (off := 754) (tgt := 798) hC.1 hC.2.1 dL_law_44 (by rw [hnt]; decide) (by rw [hnt]; decide) (by rw [hnt]; rfl) (by decide) ?_
    exact case_11 hst hC hX hScr (by omega) hp1 hp2 hp3 (by omega) hW hl (H11 V S T K O M B LN i p1 p2 p3 hr1 hr2 hr3 hR) (fun V' S' T' K' O' M' H locs ls c2 s2 k1 k2 k3 hW hl => next V' S' T' K' O' M' D B LN q ml aM H locs ls c2 s2 k3 hln rfl (by omega) (by omega) (by omega) hW hl)
  · refine lv_tableIn (off := 810) (tgt := 854) hC.1 hC.2.1 dL_law_44 (by rw [hnt]; decide) (by rw [hnt]; decide) (by rw [hnt]; rfl) (by decide) ?_
    exact case_12 hst hC hX hScr (by omega) hp1 hp2 hp3 (by omega) hW hl (H12 V S T K O M B LN i p1 p2 p3 hr1 hr2 hr3 hR) (fun V' S' T' K' O' M' H locs ls c2 s2 k1 k2 k3 hW hl => next V' S' T' K' O' M' D B LN q ml aM H locs ls c2 s2 k3 hln rfl (by omega) (by omega) (by omega) hW hl)
  · refine lv_tableIn (off := 866) (tgt := 910) hC.1 hC.2.1 dL_law_44 (by rw [hnt]; decide) (by rw [hnt]; decide) (by rw [hnt]; rfl) (by decide) ?_
    exact case_13 hst hC hX hScr (by omega) hp1 hp2 hp3 (by omega) hW hl (H13 V S T K O M B LN i p1 p2 p3 hr1 hr2 hr3 hR) (fun V' S' T' K' O' M' H locs ls c2 s2 k1 k2 k3 hW hl => next V' S' T' K' O' M' D B LN q ml aM H locs ls c2 s2 k3 hln rfl (by omega) (by omega) (by omega) hW hl)
  · refine lv_tableIn (off := 922) (tgt := 966) hC.1 hC.2.1 dL_law_44 (by rw [hnt]; decide) (by rw [hnt]; decide) (by rw [hnt]; rfl) (by decide) ?_
    exact case_14 hst hC hX hScr (by omega) hp1 hp2 hp3 (by omega) hW hl (H14 V S T K O M B LN i p1 p2 p3 hr1 hr2 hr3 hR) (fun V' S' T' K' O' M' H locs ls c2 s2 k1 k2 k3 hW hl => next V' S' T' K' O' M' D B LN q ml aM H locs ls c2 s2 k3 hln rfl (by omega) (by omega) (by omega) hW hl)
  · refine lv_tableIn (off := 978) (tgt := 1022) hC.1 hC.2.1 dL_law_44 (by rw [hnt]; decide) (by rw [hnt]; decide) (by rw [hnt]; rfl) (by decide) ?_
    exact case_15 hst hC hX hScr (by omega) hp1 hp2 hp3 (by omega) hW hl (H15 V S T K O M B LN i p1 p2 p3 hr1 hr2 hr3 hR) (fun V' S' T' K' O' M' H locs ls c2 s2 k1 k2 k3 hW hl => next V' S' T' K' O' M' D B LN q ml aM H locs ls c2 s2 k3 hln rfl (by omega) (by omega) (by omega) hW hl)
  · refine lv_tableIn (off := 1034) (tgt := 1078) hC.1 hC.2.1 dL_law_44 (by rw [hnt]; decide) (by rw [hnt]; decide) (by rw [hnt]; rfl) (by decide) ?_
    exact case_16 hst hC hX hScr (by omega) hp1 hp2 hp3 (by omega) hW hl (H16 V S T K O M B LN i p1 p2 p3 hr1 hr2 hr3 hR) (fun V' S' T' K' O' M' H locs ls c2 s2 k1 k2 k3 hW hl => next V' S' T' K' O' M' D B LN q ml aM H locs ls c2 s2 k3 hln rfl (by omega) (by omega) (by omega) hW hl)
  · refine lv_tableIn (off := 1047) (tgt := 1091) hC.1 hC.2.1 dL_law_44 (by rw [hnt]; decide) (by rw [hnt]; decide) (by rw [hnt]; rfl) (by decide) ?_
    exact case_17 hst hC hX hScr (by omega) hp1 hp2 hp3 (by omega) hW hl (H17 V S T K O M B LN i p1 p2 p3 hr1 hr2 hr3 hR) (fun V' S' T' K' O' M' H locs ls c2 s2 k1 k2 k3 hW hl => next V' S' T' K' O' M' D B LN q ml aM H locs ls c2 s2 k3 hln rfl (by omega) (by omega) (by omega) hW hl)
  · refine lv_tableIn (off := 1103) (tgt := 1147) hC.1 hC.2.1 dL_law_44 (by rw [hnt]; decide) (by rw [hnt]; decide) (by rw [hnt]; rfl) (by decide) ?_
    exact case_18 hst hC hX hScr (by omega) hp1 hp2 hp3 (by omega) hW hl (H18 V S T K O M B LN i p1 p2 p3 hr1 hr2 hr3 hR) (fun V' S' T' K' O' M' H locs ls c2 s2 k1 k2 k3 hW hl => next V' S' T' K' O' M' D B LN q ml aM H locs ls c2 s2 k3 hln rfl (by omega) (by omega) (by omega) hW hl)
  · refine lv_tableIn (off := 1171) (tgt := 1215) hC.1 hC.2.1 dL_law_44 (by rw [hnt]; decide) (by rw [hnt]; decide) (by rw [hnt]; rfl) (by decide) ?_
    exact case_19 hst hC hX hScr (by omega) hp1 hp2 hp3 (by omega) hW hl (H19 V S T K O M B LN i p1 p2 p3 hr1 hr2 hr3 hR) (fun V' S' T' K' O' M' H locs ls c2 s2 k1 k2 k3 hW hl => next V' S' T' K' O' M' D B LN q ml aM H locs ls c2 s2 k3 hln rfl (by omega) (by omega) (by omega) hW hl)
  · refine lv_tableIn (off := 1239) (tgt := 1283) hC.1 hC.2.1 dL_law_44 (by rw [hnt]; decide) (by rw [hnt]; decide) (by rw [hnt]; rfl) (by decide) ?_
    exact case_20 hst hC hX hScr (by omega) hp1 hp2 hp3 (by omega) hW hl (H20 V S T K O M B LN i p1 p2 p3 hr1 hr2 hr3 hR) (fun V' S' T' K' O' M' H locs ls c2 s2 k1 k2 k3 hW hl => next V' S' T' K' O' M' D B LN q ml aM H locs ls c2 s2 k3 hln rfl (by omega) (by omega) (by omega) hW hl)
  · refine lv_tableIn (off := 1319) (tgt := 1363) hC.1 hC.2.1 dL_law_44 (by rw [hnt]; decide) (by rw [hnt]; decide) (by rw [hnt]; rfl) (by decide) ?_
    exact case_21 hst hC hX hScr (by omega) hp1 hp2 hp3 (by omega) hW hl (H21 V S T K O M B LN i p1 p2 p3 hr1 hr2 hr3 hR) (fun V' S' T' K' O' M' H locs ls c2 s2 k1 k2 k3 hW hl => next V' S' T' K' O' M' D B LN q ml aM H locs ls c2 s2 k3 hln rfl (by omega) (by omega) (by omega) hW hl)
  · refine lv_tableIn (off := 1387) (tgt := 1431) hC.1 hC.2.1 dL_law_44 (by rw [hnt]; decide) (by rw [hnt]; decide) (by rw [hnt]; rfl) (by decide) ?_
    exact case_22 hst hC hX hScr (by omega) hp1 hp2 hp3 (by omega) hW hl (H22 V S T K O M B LN i p1 p2 p3 hr1 hr2 hr3 hR) (fun V' S' T' K' O' M' H locs ls c2 s2 k1 k2 k3 hW hl => next V' S' T' K' O' M' D B LN q ml aM H locs ls c2 s2 k3 hln rfl (by omega) (by omega) (by omega) hW hl)
  · refine lv_tableIn (off := 1462) (tgt := 1506) hC.1 hC.2.1 dL_law_44 (by rw [hnt]; decide) (by rw [hnt]; decide) (by rw [hnt]; rfl) (by decide) ?_
    exact case_23 hst hC hX hScr (by omega) hp1 hp2 hp3 (by omega) hW hl (H23 V S T K O M B LN i p1 p2 p3 hr1 hr2 hr3 hR) (fun V' S' T' K' O' M' H locs ls c2 s2 k1 k2 k3 hW hl => next V' S' T' K' O' M' D B LN q ml aM H locs ls c2 s2 k3 hln rfl (by omega) (by omega) (by omega) hW hl)
  · refine lv_tableIn (off := 1475) (tgt := 1519) hC.1 hC.2.1 dL_law_44 (by rw [hnt]; decide) (by rw [hnt]; decide) (by rw [hnt]; rfl) (by decide) ?_
    exact case_24 hst hC hX hScr (by omega) hp1 hp2 hp3 (by omega) hW hl (H24 V S T K O M B LN i p1 p2 p3 hr1 hr2 hr3 hR) (fun V' S' T' K' O' M' H locs ls c2 s2 k1 k2 k3 hW hl => next V' S' T' K' O' M' D B LN q ml aM H locs ls c2 s2 k3 hln rfl (by omega) (by omega) (by omega) hW hl)
  · refine lv_tableIn (off := 1488) (tgt := 1532) hC.1 hC.2.1 dL_law_44 (by rw [hnt]; decide) (by rw [hnt]; decide) (by rw [hnt]; rfl) (by decide) ?_
    exact case_25 hst hC hX hScr (by omega) hp1 hp2 hp3 (by omega) hW hl (H25 V S T K O M B LN i p1 p2 p3 hr1 hr2 hr3 hR) (fun V' S' T' K' O' M' H locs ls c2 s2 k1 k2 k3 hW hl => next V' S' T' K' O' M' D B LN q ml aM H locs ls c2 s2 k3 hln rfl (by omega) (by omega) (by omega) hW hl)
  · refine lv_tableIn (off := 1551) (tgt := 1595) hC.1 hC.2.1 dL_law_44 (by rw [hnt]; decide) (by rw [hnt]; decide) (by rw [hnt]; rfl) (by decide) ?_
    exact case_26 hst hC hX hScr (by omega) hp1 hp2 hp3 (by omega) hW hl (H26 V S T K O M B LN i p1 p2 p3 hr1 hr2 hr3 hR) (fun V' S' T' K' O' M' H locs ls c2 s2 k1 k2 k3 hW hl => next V' S' T' K' O' M' D B LN q ml aM H locs ls c2 s2 k3 hln rfl (by omega) (by omega) (by omega) hW hl)
  · refine lv_tableIn (off := 1614) (tgt := 1658) hC.1 hC.2.1 dL_law_44 (by rw [hnt]; decide) (by rw [hnt]; decide) (by rw [hnt]; rfl) (by decide) ?_
    exact case_27 hst hC hX hScr (by omega) hp1 hp2 hp3 (by omega) hW hl (H27 V S T K O M B LN i p1 p2 p3 hr1 hr2 hr3 hR) (fun V' S' T' K' O' M' H locs ls c2 s2 k1 k2 k3 hW hl => next V' S' T' K' O' M' D B LN q ml aM H locs ls c2 s2 k3 hln rfl (by omega) (by omega) (by omega) hW hl)
  · refine lv_tableIn (off := 1670) (tgt := 1714) hC.1 hC.2.1 dL_law_44 (by rw [hnt]; decide) (by rw [hnt]; decide) (by rw [hnt]; rfl) (by decide) ?_
    exact case_28 hst hC hX hScr (by omega) hp1 hp2 hp3 (by omega) hW hl (H28 V S T K O M B LN i p1 p2 p3 hr1 hr2 hr3 hR) (fun V' S' T' K' O' M' H locs ls c2 s2 k1 k2 k3 hW hl => next V' S' T' K' O' M' D B LN q ml aM H locs ls c2 s2 k3 hln rfl (by omega) (by omega) (by omega) hW hl)
  · refine lv_tableIn (off := 1726) (tgt := 1770) hC.1 hC.2.1 dL_law_44 (by rw [hnt]; decide) (by rw [hnt]; decide) (by rw [hnt]; rfl) (by decide) ?_
    exact case_29 hst hC hX hScr (by omega) hp1 hp2 hp3 (by omega) hW hl (H29 V S T K O M B LN i p1 p2 p3 hr1 hr2 hr3 hR) (fun V' S' T' K' O' M' H locs ls c2 s2 k1 k2 k3 hW hl => next V' S' T' K' O' M' D B LN q ml aM H locs ls c2 s2 k3 hln rfl (by omega) (by omega) (by omega) hW hl)
  · refine lv_tableIn (off := 1782) (tgt := 1826) hC.1 hC.2.1 dL_law_44 (by rw [hnt]; decide) (by rw [hnt]; decide) (by rw [hnt]; rfl) (by decide) ?_
    exact case_30 hst hC hX hScr (by omega) hp1 hp2 hp3 (by omega) hW hl (H30 V S T K O M B LN i p1 p2 p3 hr1 hr2 hr3 hR) (fun V' S' T' K' O' M' H locs ls c2 s2 k1 k2 k3 hW hl => next V' S' T' K' O' M' D B LN q ml aM H locs ls c2 s2 k3 hln rfl (by omega) (by omega) (by omega) hW hl)
  · refine lv_tableIn (off := 1857) (tgt := 1901) hC.1 hC.2.1 dL_law_44 (by rw [hnt]; decide) (by rw [hnt]; decide) (by rw [hnt]; rfl) (by decide) ?_
    exact case_31 hst hC hX hScr (by omega) hp1 hp2 hp3 (by omega) hW hl (H31 V S T K O M B LN i p1 p2 p3 hr1 hr2 hr3 hR) (fun V' S' T' K' O' M' H locs ls c2 s2 k1 k2 k3 hW hl => next V' S' T' K' O' M' D B LN q ml aM H locs ls c2 s2 k3 hln rfl (by omega) (by omega) (by omega) hW hl)
  · refine lv_tableIn (off := 1913) (tgt := 1957) hC.1 hC.2.1 dL_law_44 (by rw [hnt]; decide) (by rw [hnt]; decide) (by rw [hnt]; rfl) (by decide) ?_
    exact case_32 hst hC hX hScr (by omega) hp1 hp2 hp3 (by omega) hW hl (H32 V S T K O M B LN i p1 p2 p3 hr1 hr2 hr3 hR) (fun V' S' T' K' O' M' H locs ls c2 s2 k1 k2 k3 hW hl => next V' S' T' K' O' M' D B LN q ml aM H locs ls c2 s2 k3 hln rfl (by omega) (by omega) (by omega) hW hl)
  · refine lv_tableIn (off := 1969) (tgt := 2013) hC.1 hC.2.1 dL_law_44 (by rw [hnt]; decide) (by rw [hnt]; decide) (by rw [hnt]; rfl) (by decide) ?_
    exact case_33 hst hC hX hScr (by omega) hp1 hp2 hp3 (by omega) hW hl (H33 V S T K O M B LN i p1 p2 p3 hr1 hr2 hr3 hR) (fun V' S' T' K' O' M' H locs ls c2 s2 k1 k2 k3 hW hl => next V' S' T' K' O' M' D B LN q ml aM H locs ls c2 s2 k3 hln rfl (by omega) (by omega) (by omega) hW hl)
  · refine lv_tableIn (off := 1982) (tgt := 2026) hC.1 hC.2.1 dL_law_44 (by rw [hnt]; decide) (by rw [hnt]; decide) (by rw [hnt]; rfl) (by decide) ?_
    exact case_34 hst hC hX hScr (by omega) hp1 hp2 hp3 (by omega) hW hl (H34 V S T K O M B LN i p1 p2 p3 hr1 hr2 hr3 hR) (fun V' S' T' K' O' M' H locs ls c2 s2 k1 k2 k3 hW hl => next V' S' T' K' O' M' D B LN q ml aM H locs ls c2 s2 k3 hln rfl (by omega) (by omega) (by omega) hW hl)
  · refine lv_tableIn (off := 1995) (tgt := 2039) hC.1 hC.2.1 dL_law_44 (by rw [hnt]; decide) (by rw [hnt]; decide) (by rw [hnt]; rfl) (by decide) ?_
    exact case_35 hst hC hX hScr (by omega) hp1 hp2 hp3 (by omega) hW hl (H35 V S T K O M B LN D i p1 p2 p3 hr1 hr2 hr3 hR) (fun V' S' T' K' O' M' D' H locs ls c2 s2 k1 k2 k3 hW hl => next V' S' T' K' O' M' D' B LN q ml aM H locs ls c2 s2 k3 hln rfl (by omega) (by omega) (by omega) hW hl)
  · refine lv_tableIn (off := 2060) (tgt := 2104) hC.1 hC.2.1 dL_law_44 (by rw [hnt]; decide) (by rw [hnt]; decide) (by rw [hnt]; rfl) (by decide) ?_
    exact case_36 hst hC hX hScr (by omega) hp1 hp2 hp3 (by omega) hW hl (H36 V S T K O M B LN D i p1 p2 p3 hr1 hr2 hr3 hR) (fun V' S' T' K' O' M' D' H locs ls c2 s2 k1 k2 k3 hW hl => next V' S' T' K' O' M' D' B LN q ml aM H locs ls c2 s2 k3 hln rfl (by omega) (by omega) (by omega) hW hl)
  · refine lv_tableIn (off := 2126) (tgt := 2170) hC.1 hC.2.1 dL_law_44 (by rw [hnt]; decide) (by rw [hnt]; decide) (by rw [hnt]; rfl) (by decide) ?_
    exact case_37 hst hC hX hScr (by omega) hp1 hp2 hp3 (by omega) hW hl (H37 V S T K O M B LN i p1 p2 p3 hr1 hr2 hr3 hR) (fun V' S' T' K' O' M' H locs ls c2 s2 k1 k2 k3 hW hl => next V' S' T' K' O' M' D B LN q ml aM H locs ls c2 s2 k3 hln rfl (by omega) (by omega) (by omega) hW hl)
  · refine lv_tableIn (off := 2139) (tgt := 2183) hC.1 hC.2.1 dL_law_44 (by rw [hnt]; decide) (by rw [hnt]; decide) (by rw [hnt]; rfl) (by decide) ?_
    have hW := vs_Wd.perm2 hW (List.Perm.append_left _ (List.Perm.append_left _ (List.Perm.append_left _ (List.Perm.append_left _ (List.Perm.append_left _ (List.Perm.append_left _ (vs_mv2 (X := vs_WD g od D) (r := []))))))))
    exact case_38 hst hC hX hScr (by omega) hp1 (by omega) (hRB _ _ _ _ _ _ _ hR) hln hW hl (H38 V S T K O M B LN p1 hr1 hR) (fun B' O' M' tx q' ml' aM' LN' H locs ls c2 s2 k1 k2 k3 k4 k5 k6 k7 hW hl => next V S T K O' M' D B' LN' q' ml' aM' H locs ls c2 s2 (k3 LN' k7.S) k6 k5 (by omega) (by omega) (by omega) (vs_Wd.perm2 hW (List.Perm.append_left _ (List.Perm.append_left _ (List.Perm.append_left _ (List.Perm.append_left _ (List.Perm.append_left _ (List.Perm.append_left _ (vs_mv2 (X := vs_WD g od D) (r := [])).symm))))))) (by rw [k5]; exact hl))
  · refine lv_tableIn (off := 2195) (tgt := 2239) hC.1 hC.2.1 dL_law_44 (by rw [hnt]; decide) (by rw [hnt]; decide) (by rw [hnt]; rfl) (by decide) ?_
    have hW := vs_Wd.perm2 hW (List.Perm.append_left _ (List.Perm.append_left _ (List.Perm.append_left _ (List.Perm.append_left _ (List.Perm.append_left _ (List.Perm.append_left _ (vs_mv2 (X := vs_WD g od D) (r := []))))))))
    exact case_39 hst hC hX hScr (by omega) hp1 (by omega) (hRB _ _ _ _ _ _ _ hR) hln hW hl (H39 V S T K O M B LN p1 hr1 hR) (fun O' M' H locs ls c2 s2 k1 k2 k3 hW hl => next V S T K O' M' D B LN q ml aM H locs ls c2 s2 k3 hln rfl (by omega) (by omega) (by omega) (vs_Wd.perm2 hW (List.Perm.append_left _ (List.Perm.append_left _ (List.Perm.append_left _ (List.Perm.append_left _ (List.Perm.append_left _ (List.Perm.append_left _ (vs_mv2 (X := vs_WD g od D) (r := [])).symm))))))) hl)
