/-! the walks of class X3, by program -/
set_option maxHeartbeats 4000000 in
set_option maxRecDepth 100000 in
theorem c_X3_thrown (l : Launch) (g : vs_G) (a r q : Nat → Nat) (wr : va_W) (S : vs_St) (post : Int → Prop) (hw : wX3_thrown S post) : vs_MI l yX3_thrown (Cond.code yX3_thrown cX3_thrown 1 (some .int) :: vs_ws) { frames := 0, cells := 0, slots := 0, locals := 0 } g [.ref (a 0)] (vs_W3 g a r q S ++ wr) (fun (_ : Unit) => vs_W3 g a r q S ++ wr) (fun v (_ : Unit) => post v) 0 0 := by
  refine vs_ofW (Qc := fun A => vs_QI g A (fun (_ : Unit) => vs_W3 g a r q S ++ wr) (fun v (_ : Unit) => post v)) (by decide +kernel) (Nat.le_of_ble_eq_true rfl) (fun p e s m below meth c A ls hC hr hlk hW hl => ?_)
  have hC : CallFix p m c cX3_thrown 1 s _ vs_ws RX3 := hC
  have hl : lv_has ls 1 [(0, .ref (a 0))] := hl
  unfold wX3_thrown at hw
  refine vs_aload_n hC hl 0 dX3_thrown_0 rfl rfl ?_
  refine vs_get hC hW 0 rfl rfl vs_inX3 0 (by decide) vf_X3_96 rfl dX3_thrown_1 ?_
  exact vs_iret () hC hr hlk hW rfl hw (Nat.le_of_ble_eq_true rfl) (Nat.le_of_ble_eq_true rfl) dX3_thrown_4
set_option maxHeartbeats 4000000 in
set_option maxRecDepth 100000 in
theorem c_X3_fails (l : Launch) (g : vs_G) (a r q : Nat → Nat) (wr : va_W) (S : vs_St) (x1 : Int) (post : Int → vs_St → Prop) (hw : wX3_fails S x1 post) : vs_MI l yX3_fails (Cond.code yX3_fails cX3_fails 2 (some .int) :: vs_ws) { frames := 0, cells := 0, slots := 0, locals := 0 } g [.ref (a 0), .int (vs_I x1)] (vs_W3 g a r q S ++ wr) (fun (S' : vs_St) => vs_W3 g a r q S' ++ wr) post 0 0 := by
  refine vs_ofW (Qc := fun A => vs_QI g A (fun (S' : vs_St) => vs_W3 g a r q S' ++ wr) post) (by decide +kernel) (Nat.le_of_ble_eq_true rfl) (fun p e s m below meth c A ls hC hr hlk hW hl => ?_)
  have hC : CallFix p m c cX3_fails 2 s _ vs_ws RX3 := hC
  have hl : lv_has ls 2 [(0, .ref (a 0)), (1, .int (vs_I x1))] := hl
  unfold wX3_fails at hw
  refine vs_aload_n hC hl 0 dX3_fails_0 rfl rfl ?_
  refine vs_iload_n hC hl 1 dX3_fails_1 rfl rfl ?_
  obtain ⟨S1, hS1⟩ : ∃ z : vs_St, z = vs_st S 0 0 x1 := ⟨_, rfl⟩
  have hw := hw S1 hS1
  refine vs_put (Wo' := vs_W3 g a r q S1 ++ wr) hC hW 0 rfl rfl vs_inX3 tyX3_ok nmX3 0 (by decide) vf_X3_96 rfl rfl (Nat.le_of_ble_eq_true rfl) (by rw [hS1]; rfl) dX3_fails_2 (fun H locs hW => ?_)
  refine vs_iconst hC dX3_fails_5 ?_
  exact vs_iret (S1) hC hr hlk hW rfl hw (Nat.le_of_ble_eq_true rfl) (Nat.le_of_ble_eq_true rfl) dX3_fails_6
set_option maxHeartbeats 4000000 in
set_option maxRecDepth 100000 in
theorem c_X3_isBetween (l : Launch) (g : vs_G) (Wo : va_W) (x0 : Int) (x1 : Int) (x2 : Int) (post : Int → Prop) (hw : wX3_isBetween x0 x1 x2 post) : vs_MI l yX3_isBetween (Cond.code yX3_isBetween cX3_isBetween 3 (some .boolean) :: vs_ws) { frames := 0, cells := 0, slots := 0, locals := 0 } g [.int (vs_I x0), .int (vs_I x1), .int (vs_I x2)] (Wo) (fun (_ : Unit) => Wo) (fun v (_ : Unit) => post v) 0 0 := by
  refine vs_ofW (Qc := fun A => vs_QI g A (fun (_ : Unit) => Wo) (fun v (_ : Unit) => post v)) (by decide +kernel) (Nat.le_of_ble_eq_true rfl) (fun p e s m below meth c A ls hC hr hlk hW hl => ?_)
  have hC : CallFix p m c cX3_isBetween 3 s _ vs_ws RX3 := hC
  have hl : lv_has ls 3 [(0, .int (vs_I x0)), (1, .int (vs_I x1)), (2, .int (vs_I x2))] := hl
  unfold wX3_isBetween at hw
  refine vs_iload_n hC hl 1 dX3_isBetween_0 rfl rfl ?_
  refine vs_iload_n hC hl 0 dX3_isBetween_1 rfl rfl ?_
  obtain ⟨hx, hw⟩ := hw
  obtain ⟨hy, hw⟩ := hw
  obtain ⟨hwt, hwf⟩ := hw
  refine vs_icmp_gt hC 14 hx hy dX3_isBetween_2 (by decide) (fun hc => ?_) (fun hc => ?_)
  · have hw := hwt hc
    clear hwt hwf hc
    refine vs_iconst hC dX3_isBetween_14 ?_
    exact vs_zret () hC hr hlk hW rfl ⟨Or.inl rfl, hw⟩ (Nat.le_of_ble_eq_true rfl) (Nat.le_of_ble_eq_true rfl) dX3_isBetween_15
  · have hw := hwf hc
    clear hwt hwf hc
    refine vs_iload_n hC hl 0 dX3_isBetween_5 rfl rfl ?_
    refine vs_iload_n hC hl 2 dX3_isBetween_6 rfl rfl ?_
    obtain ⟨hx, hw⟩ := hw
    obtain ⟨hy, hw⟩ := hw
    obtain ⟨hwt, hwf⟩ := hw
    refine vs_icmp_gt hC 14 hx hy dX3_isBetween_7 (by decide) (fun hc => ?_) (fun hc => ?_)
    · have hw := hwt hc
      clear hwt hwf hc
      refine vs_iconst hC dX3_isBetween_14 ?_
      exact vs_zret () hC hr hlk hW rfl ⟨Or.inl rfl, hw⟩ (Nat.le_of_ble_eq_true rfl) (Nat.le_of_ble_eq_true rfl) dX3_isBetween_15
    · have hw := hwf hc
      clear hwt hwf hc
      refine vs_iconst hC dX3_isBetween_10 ?_
      refine vs_goto hC 15 dX3_isBetween_11 (by decide) ?_
      exact vs_zret () hC hr hlk hW rfl ⟨Or.inr rfl, hw⟩ (Nat.le_of_ble_eq_true rfl) (Nat.le_of_ble_eq_true rfl) dX3_isBetween_15
set_option maxHeartbeats 4000000 in
set_option maxRecDepth 100000 in
theorem c_X3_isDisk (l : Launch) (g : vs_G) (a r q : Nat → Nat) (wr : va_W) (S : vs_St) (x1 : Int) (post : Int → Prop) (hw : wX3_isDisk S x1 post) : vs_MI l yX3_isDisk (Cond.code yX3_isDisk cX3_isDisk 2 (some .boolean) :: vs_ws) { frames := 1, cells := 0, slots := 0, locals := 22 } g [.ref (a 0), .int (vs_I x1)] (vs_W3 g a r q S ++ wr) (fun (_ : Unit) => vs_W3 g a r q S ++ wr) (fun v (_ : Unit) => post v) 0 0 := by
  refine vs_ofW (Qc := fun A => vs_QI g A (fun (_ : Unit) => vs_W3 g a r q S ++ wr) (fun v (_ : Unit) => post v)) (by decide +kernel) (Nat.le_of_ble_eq_true rfl) (fun p e s m below meth c A ls hC hr hlk hW hl => ?_)
  have hC : CallFix p m c cX3_isDisk 2 s _ vs_ws RX3 := hC
  have hl : lv_has ls 2 [(0, .ref (a 0)), (1, .int (vs_I x1))] := hl
  unfold wX3_isDisk at hw
  refine vs_iload_n hC hl 1 dX3_isDisk_0 rfl rfl ?_
  refine vs_iconst hC dX3_isDisk_1 ?_
  refine vs_aload_n hC hl 0 dX3_isDisk_2 rfl rfl ?_
  refine vs_get hC hW 0 rfl rfl vs_inX3 7 (by decide) vf_X3_99 rfl dX3_isDisk_3 ?_
  refine vs_iconst hC dX3_isDisk_6 ?_
  refine vs_isub hC dX3_isDisk_7 ?_
  refine vs_callSI [.int (vs_I x1), .int (vs_I 0), .int (vs_I ((S 7 0) - 1))] hC hW vk_X3_isBetween vm_X3_102 (c_X3_isBetween l g (vs_W3 g a r q S ++ wr) x1 0 ((S 7 0) - 1) _ hw) rfl hl.1 rfl ⟨rfl, rfl⟩ ⟨Nat.le_of_ble_eq_true rfl, Nat.le_of_ble_eq_true rfl⟩ ⟨Nat.le_of_ble_eq_true rfl, Nat.le_of_ble_eq_true rfl⟩ (Nat.le_of_ble_eq_true rfl) dX3_isDisk_8 (fun r1 _ H locs hw hW => ?_)
  have hW : vs_Wd g A _ (vs_W3 g a r q S ++ wr) _ _ s := hW
  exact vs_zret () hC hr hlk hW rfl hw (Nat.le_of_ble_eq_true rfl) (Nat.le_of_ble_eq_true rfl) dX3_isDisk_11
set_option maxHeartbeats 4000000 in
set_option maxRecDepth 100000 in
theorem c_X3_isTenant (l : Launch) (g : vs_G) (a r q : Nat → Nat) (wr : va_W) (S : vs_St) (x1 : Int) (post : Int → Prop) (hw : wX3_isTenant S x1 post) : vs_MI l yX3_isTenant (Cond.code yX3_isTenant cX3_isTenant 2 (some .boolean) :: vs_ws) { frames := 1, cells := 0, slots := 0, locals := 22 } g [.ref (a 0), .int (vs_I x1)] (vs_W3 g a r q S ++ wr) (fun (_ : Unit) => vs_W3 g a r q S ++ wr) (fun v (_ : Unit) => post v) 0 0 := by
  refine vs_ofW (Qc := fun A => vs_QI g A (fun (_ : Unit) => vs_W3 g a r q S ++ wr) (fun v (_ : Unit) => post v)) (by decide +kernel) (Nat.le_of_ble_eq_true rfl) (fun p e s m below meth c A ls hC hr hlk hW hl => ?_)
  have hC : CallFix p m c cX3_isTenant 2 s _ vs_ws RX3 := hC
  have hl : lv_has ls 2 [(0, .ref (a 0)), (1, .int (vs_I x1))] := hl
  unfold wX3_isTenant at hw
  refine vs_iload_n hC hl 1 dX3_isTenant_0 rfl rfl ?_
  refine vs_iconst hC dX3_isTenant_1 ?_
  refine vs_aload_n hC hl 0 dX3_isTenant_2 rfl rfl ?_
  refine vs_get hC hW 0 rfl rfl vs_inX3 27 (by decide) vf_X3_106 rfl dX3_isTenant_3 ?_
  refine vs_iconst hC dX3_isTenant_6 ?_
  refine vs_isub hC dX3_isTenant_7 ?_
  refine vs_callSI [.int (vs_I x1), .int (vs_I 0), .int (vs_I ((S 27 0) - 1))] hC hW vk_X3_isBetween vm_X3_102 (c_X3_isBetween l g (vs_W3 g a r q S ++ wr) x1 0 ((S 27 0) - 1) _ hw) rfl hl.1 rfl ⟨rfl, rfl⟩ ⟨Nat.le_of_ble_eq_true rfl, Nat.le_of_ble_eq_true rfl⟩ ⟨Nat.le_of_ble_eq_true rfl, Nat.le_of_ble_eq_true rfl⟩ (Nat.le_of_ble_eq_true rfl) dX3_isTenant_8 (fun r1 _ H locs hw hW => ?_)
  have hW : vs_Wd g A _ (vs_W3 g a r q S ++ wr) _ _ s := hW
  exact vs_zret () hC hr hlk hW rfl hw (Nat.le_of_ble_eq_true rfl) (Nat.le_of_ble_eq_true rfl) dX3_isTenant_11
set_option maxHeartbeats 4000000 in
set_option maxRecDepth 100000 in
theorem c_X3_isRequest (l : Launch) (g : vs_G) (a r q : Nat → Nat) (wr : va_W) (S : vs_St) (x1 : Int) (post : Int → Prop) (hw : wX3_isRequest S x1 post) : vs_MI l yX3_isRequest (Cond.code yX3_isRequest cX3_isRequest 2 (some .boolean) :: vs_ws) { frames := 1, cells := 0, slots := 0, locals := 22 } g [.ref (a 0), .int (vs_I x1)] (vs_W3 g a r q S ++ wr) (fun (_ : Unit) => vs_W3 g a r q S ++ wr) (fun v (_ : Unit) => post v) 0 0 := by
  refine vs_ofW (Qc := fun A => vs_QI g A (fun (_ : Unit) => vs_W3 g a r q S ++ wr) (fun v (_ : Unit) => post v)) (by decide +kernel) (Nat.le_of_ble_eq_true rfl) (fun p e s m below meth c A ls hC hr hlk hW hl => ?_)
  have hC : CallFix p m c cX3_isRequest 2 s _ vs_ws RX3 := hC
  have hl : lv_has ls 2 [(0, .ref (a 0)), (1, .int (vs_I x1))] := hl
  unfold wX3_isRequest at hw
  refine vs_iload_n hC hl 1 dX3_isRequest_0 rfl rfl ?_
  refine vs_iconst hC dX3_isRequest_1 ?_
  refine vs_aload_n hC hl 0 dX3_isRequest_2 rfl rfl ?_
  refine vs_get hC hW 0 rfl rfl vs_inX3 28 (by decide) vf_X3_109 rfl dX3_isRequest_3 ?_
  refine vs_iconst hC dX3_isRequest_6 ?_
  refine vs_isub hC dX3_isRequest_7 ?_
  refine vs_callSI [.int (vs_I x1), .int (vs_I 0), .int (vs_I ((S 28 0) - 1))] hC hW vk_X3_isBetween vm_X3_102 (c_X3_isBetween l g (vs_W3 g a r q S ++ wr) x1 0 ((S 28 0) - 1) _ hw) rfl hl.1 rfl ⟨rfl, rfl⟩ ⟨Nat.le_of_ble_eq_true rfl, Nat.le_of_ble_eq_true rfl⟩ ⟨Nat.le_of_ble_eq_true rfl, Nat.le_of_ble_eq_true rfl⟩ (Nat.le_of_ble_eq_true rfl) dX3_isRequest_8 (fun r1 _ H locs hw hW => ?_)
  have hW : vs_Wd g A _ (vs_W3 g a r q S ++ wr) _ _ s := hW
  exact vs_zret () hC hr hlk hW rfl hw (Nat.le_of_ble_eq_true rfl) (Nat.le_of_ble_eq_true rfl) dX3_isRequest_11
set_option maxHeartbeats 4000000 in
set_option maxRecDepth 100000 in
theorem c_X3_usedOf (l : Launch) (g : vs_G) (a r q : Nat → Nat) (wr : va_W) (S : vs_St) (x1 : Int) (post : Int → Prop) (hw : wX3_usedOf S x1 post) : vs_MI l yX3_usedOf (Cond.code yX3_usedOf cX3_usedOf 4 (some .int) :: vs_ws) { frames := 0, cells := 0, slots := 0, locals := 0 } g [.ref (a 0), .int (vs_I x1)] (vs_W3 g a r q S ++ wr) (fun (_ : Unit) => vs_W3 g a r q S ++ wr) (fun v (_ : Unit) => post v) 0 0 := by
  refine vs_ofW (Qc := fun A => vs_QI g A (fun (_ : Unit) => vs_W3 g a r q S ++ wr) (fun v (_ : Unit) => post v)) (by decide +kernel) (Nat.le_of_ble_eq_true rfl) (fun p e s m below meth c A ls hC hr hlk hW hl => ?_)
  have hC : CallFix p m c cX3_usedOf 4 s _ vs_ws RX3 := hC
  have hl : lv_has ls 4 [(0, .ref (a 0)), (1, .int (vs_I x1))] := hl
  unfold wX3_usedOf at hw
  refine vs_iconst hC dX3_usedOf_0 ?_
  refine vs_istore_n (L' := [(0, .ref (a 0)), (1, .int (vs_I x1)), (2, .int (vs_I 0))]) hC hl [1, 2, 0] dX3_usedOf_1 rfl (by decide) rfl (fun ls hl => ?_)
  refine vs_iconst hC dX3_usedOf_2 ?_
  refine vs_istore_n (L' := [(0, .ref (a 0)), (1, .int (vs_I x1)), (2, .int (vs_I 0)), (3, .int (vs_I 0))]) hC hl [1, 2, 3, 0] dX3_usedOf_3 rfl (by decide) rfl (fun ls hl => ?_)
  obtain ⟨J1, μ1, hJ, hB1⟩ := hw
  refine vs_loop (V := Int × Int) (J := fun v => J1 v.1 v.2) (μ := fun v => μ1 v.1 v.2) (fun v => vs_W3 g a r q S ++ wr) (fun v => [(0, .ref (a 0)), (1, .int (vs_I x1)), (2, .int (vs_I v.1)), (3, .int (vs_I v.2))]) (fun v hJ ih1 H locs ls hW hl => ?_) (0, 0) hJ hW (lv_sub hl [0, 1, 2, 3] rfl)
  obtain ⟨v2, v3⟩ := v
  have hw := hB1 v2 v3 hJ
  have hW : vs_Wd g A _ (vs_W3 g a r q S ++ wr) _ _ s := hW
  have hl : lv_has ls 4 [(0, .ref (a 0)), (1, .int (vs_I x1)), (2, .int (vs_I v2)), (3, .int (vs_I v3))] := hl
  clear hJ
  unfold lX3_usedOf_4 at hw
  refine vs_iload_n hC hl 3 dX3_usedOf_4 rfl rfl ?_
  refine vs_aload_n hC hl 0 dX3_usedOf_5 rfl rfl ?_
  refine vs_get hC hW 0 rfl rfl vs_inX3 1 (by decide) vf_X3_9 rfl dX3_usedOf_6 ?_
  refine vs_iload_n hC hl 1 dX3_usedOf_9 rfl rfl ?_
  obtain ⟨hi, hw⟩ := hw
  refine vs_iald hC hW 1 rfl (by decide) hi dX3_usedOf_10 ?_
  obtain ⟨hx, hw⟩ := hw
  obtain ⟨hy, hw⟩ := hw
  obtain ⟨hwt, hwf⟩ := hw
  refine vs_icmp_ge hC 42 hx hy dX3_usedOf_11 (by decide) (fun hc => ?_) (fun hc => ?_)
  · have hw := hwt hc
    clear hwt hwf hc
    refine vs_iload_n hC hl 2 dX3_usedOf_42 rfl rfl ?_
    exact vs_iret () hC hr hlk hW rfl hw (Nat.le_of_ble_eq_true rfl) (Nat.le_of_ble_eq_true rfl) dX3_usedOf_43
  · have hw := hwf hc
    clear hwt hwf hc
    refine vs_iload_n hC hl 2 dX3_usedOf_14 rfl rfl ?_
    refine vs_aload_n hC hl 0 dX3_usedOf_15 rfl rfl ?_
    refine vs_get hC hW 0 rfl rfl vs_inX3 3 (by decide) vf_X3_17 rfl dX3_usedOf_16 ?_
    refine vs_bipush hC dX3_usedOf_19 (by decide +kernel) ?_
    refine vs_iload_n hC hl 1 dX3_usedOf_21 rfl rfl ?_
    refine vs_imul hC dX3_usedOf_22 ?_
    refine vs_iload_n hC hl 3 dX3_usedOf_23 rfl rfl ?_
    refine vs_iadd hC dX3_usedOf_24 ?_
    obtain ⟨hi, hw⟩ := hw
    refine vs_iald hC hW 3 rfl (by decide) hi dX3_usedOf_25 ?_
    obtain ⟨hx, hw⟩ := hw
    obtain ⟨hwt, hwf⟩ := hw
    refine vs_if_ge hC 33 hx dX3_usedOf_26 (by decide) (fun hc => ?_) (fun hc => ?_)
    · have hw := hwt hc
      clear hwt hwf hc
      refine vs_iconst hC dX3_usedOf_33 ?_
      refine vs_iadd hC dX3_usedOf_34 ?_
      refine vs_name (fun v4 hv4 => ?_)
      have hw := hw v4 hv4
      refine vs_istore_n (L' := [(0, .ref (a 0)), (1, .int (vs_I x1)), (2, .int (vs_I v4)), (3, .int (vs_I v3))]) hC hl [1, 2, 0, 3] dX3_usedOf_35 rfl (by decide) rfl (fun ls hl => ?_)
      refine vs_iinc (L' := [(0, .ref (a 0)), (1, .int (vs_I x1)), (2, .int (vs_I v4)), (3, .int (vs_I (v3 + 1)))]) hC hl 3 [1, 2, 3, 0] dX3_usedOf_36 rfl (by decide) rfl (fun ls hl => ?_)
      refine vs_goto hC 4 dX3_usedOf_39 (by decide) ?_
      exact ih1 (v4, v3 + 1) hw _ _ _ hW (lv_sub hl [0, 1, 2, 3] rfl)
    · have hw := hwf hc
      clear hwt hwf hc
      refine vs_iconst hC dX3_usedOf_29 ?_
      refine vs_goto hC 34 dX3_usedOf_30 (by decide) ?_
      refine vs_iadd hC dX3_usedOf_34 ?_
      refine vs_name (fun v5 hv5 => ?_)
      have hw := hw v5 hv5
      refine vs_istore_n (L' := [(0, .ref (a 0)), (1, .int (vs_I x1)), (2, .int (vs_I v5)), (3, .int (vs_I v3))]) hC hl [1, 2, 0, 3] dX3_usedOf_35 rfl (by decide) rfl (fun ls hl => ?_)
      refine vs_iinc (L' := [(0, .ref (a 0)), (1, .int (vs_I x1)), (2, .int (vs_I v5)), (3, .int (vs_I (v3 + 1)))]) hC hl 3 [1, 2, 3, 0] dX3_usedOf_36 rfl (by decide) rfl (fun ls hl => ?_)
      refine vs_goto hC 4 dX3_usedOf_39 (by decide) ?_
      exact ih1 (v5, v3 + 1) hw _ _ _ hW (lv_sub hl [0, 1, 2, 3] rfl)
set_option maxHeartbeats 4000000 in
set_option maxRecDepth 100000 in
theorem c_X3_has (l : Launch) (g : vs_G) (a r q : Nat → Nat) (wr : va_W) (S : vs_St) (x1 : Int) (x2 : Int) (post : Int → Prop) (hw : wX3_has S x1 x2 post) : vs_MI l yX3_has (Cond.code yX3_has cX3_has 4 (some .boolean) :: vs_ws) { frames := 0, cells := 0, slots := 0, locals := 0 } g [.ref (a 0), .int (vs_I x1), .int (vs_I x2)] (vs_W3 g a r q S ++ wr) (fun (_ : Unit) => vs_W3 g a r q S ++ wr) (fun v (_ : Unit) => post v) 0 0 := by
  refine vs_ofW (Qc := fun A => vs_QI g A (fun (_ : Unit) => vs_W3 g a r q S ++ wr) (fun v (_ : Unit) => post v)) (by decide +kernel) (Nat.le_of_ble_eq_true rfl) (fun p e s m below meth c A ls hC hr hlk hW hl => ?_)
  have hC : CallFix p m c cX3_has 4 s _ vs_ws RX3 := hC
  have hl : lv_has ls 4 [(0, .ref (a 0)), (1, .int (vs_I x1)), (2, .int (vs_I x2))] := hl
  unfold wX3_has at hw
  refine vs_iconst hC dX3_has_0 ?_
  refine vs_istore_n (L' := [(0, .ref (a 0)), (1, .int (vs_I x1)), (2, .int (vs_I x2)), (3, .int (vs_I 0))]) hC hl [1, 2, 3, 0] dX3_has_1 rfl (by decide) rfl (fun ls hl => ?_)
  obtain ⟨J1, μ1, hJ, hB1⟩ := hw
  refine vs_loop (V := Int) (J := fun v => J1 v) (μ := fun v => μ1 v) (fun v => vs_W3 g a r q S ++ wr) (fun v => [(0, .ref (a 0)), (1, .int (vs_I x1)), (2, .int (vs_I x2)), (3, .int (vs_I v))]) (fun v hJ ih1 H locs ls hW hl => ?_) 0 hJ hW (lv_sub hl [0, 1, 2, 3] rfl)
  obtain ⟨v2, hv⟩ : ∃ z, z = v := ⟨_, rfl⟩
  subst hv
  have hw := hB1 v2 hJ
  have hW : vs_Wd g A _ (vs_W3 g a r q S ++ wr) _ _ s := hW
  have hl : lv_has ls 4 [(0, .ref (a 0)), (1, .int (vs_I x1)), (2, .int (vs_I x2)), (3, .int (vs_I v2))] := hl
  clear hJ
  unfold lX3_has_2 at hw
  refine vs_iload_n hC hl 3 dX3_has_2 rfl rfl ?_
  refine vs_aload_n hC hl 0 dX3_has_3 rfl rfl ?_
  refine vs_get hC hW 0 rfl rfl vs_inX3 10 (by decide) vf_X3_38 rfl dX3_has_4 ?_
  refine vs_iload_n hC hl 2 dX3_has_7 rfl rfl ?_
  obtain ⟨hi, hw⟩ := hw
  refine vs_iald hC hW 9 rfl (by decide) hi dX3_has_8 ?_
  obtain ⟨hx, hw⟩ := hw
  obtain ⟨hy, hw⟩ := hw
  obtain ⟨hwt, hwf⟩ := hw
  refine vs_icmp_ge hC 35 hx hy dX3_has_9 (by decide) (fun hc => ?_) (fun hc => ?_)
  · have hw := hwt hc
    clear hwt hwf hc
    refine vs_iconst hC dX3_has_35 ?_
    exact vs_zret () hC hr hlk hW rfl ⟨Or.inl rfl, hw⟩ (Nat.le_of_ble_eq_true rfl) (Nat.le_of_ble_eq_true rfl) dX3_has_36
  · have hw := hwf hc
    clear hwt hwf hc
    refine vs_aload_n hC hl 0 dX3_has_12 rfl rfl ?_
    refine vs_get hC hW 0 rfl rfl vs_inX3 8 (by decide) vf_X3_32 rfl dX3_has_13 ?_
    refine vs_iload_n hC hl 2 dX3_has_16 rfl rfl ?_
    obtain ⟨hq, hw⟩ := hw
    have hr3 := hq
    refine vs_aald2 (r := r) hC hW 7 rfl (by decide) hq dX3_has_17 ?_
    refine vs_iload_n hC hl 3 dX3_has_18 rfl rfl ?_
    obtain ⟨hi, hw⟩ := hw
    refine vs_iald2 hC hW (25 + Int.toNat x2) (vs_rowat8 hr3) hi dX3_has_19 ?_
    refine vs_bipush hC dX3_has_20 (by decide +kernel) ?_
    obtain ⟨hi, hw⟩ := hw
    refine vs_idiv hC dX3_has_22 ⟨hi.1, hi.2, by decide, by decide⟩ ?_
    refine vs_iload_n hC hl 1 dX3_has_23 rfl rfl ?_
    obtain ⟨hx, hw⟩ := hw
    obtain ⟨hy, hw⟩ := hw
    obtain ⟨hwt, hwf⟩ := hw
    refine vs_icmp_ne hC 29 hx hy dX3_has_24 (by decide) (fun hc => ?_) (fun hc => ?_)
    · have hw := hwt hc
      clear hwt hwf hc
      refine vs_iinc (L' := [(0, .ref (a 0)), (1, .int (vs_I x1)), (2, .int (vs_I x2)), (3, .int (vs_I (v2 + 1)))]) hC hl 3 [1, 2, 3, 0] dX3_has_29 rfl (by decide) rfl (fun ls hl => ?_)
      refine vs_goto hC 2 dX3_has_32 (by decide) ?_
      exact ih1 (v2 + 1) hw _ _ _ hW (lv_sub hl [0, 1, 2, 3] rfl)
    · have hw := hwf hc
      clear hwt hwf hc
      refine vs_iconst hC dX3_has_27 ?_
      exact vs_zret () hC hr hlk hW rfl ⟨Or.inr rfl, hw⟩ (Nat.le_of_ble_eq_true rfl) (Nat.le_of_ble_eq_true rfl) dX3_has_28
set_option maxHeartbeats 4000000 in
set_option maxRecDepth 100000 in
theorem c_X3_place (l : Launch) (g : vs_G) (a r q : Nat → Nat) (wr : va_W) (S : vs_St) (x1 : Int) (post : Int → Prop) (hw : wX3_place S x1 post) : vs_MI l yX3_place (Cond.code yX3_place cX3_place 4 (some .int) :: vs_ws) { frames := 1, cells := 0, slots := 0, locals := 23 } g [.ref (a 0), .int (vs_I x1)] (vs_W3 g a r q S ++ wr) (fun (_ : Unit) => vs_W3 g a r q S ++ wr) (fun v (_ : Unit) => post v) 0 0 := by
  refine vs_ofW (Qc := fun A => vs_QI g A (fun (_ : Unit) => vs_W3 g a r q S ++ wr) (fun v (_ : Unit) => post v)) (by decide +kernel) (Nat.le_of_ble_eq_true rfl) (fun p e s m below meth c A ls hC hr hlk hW hl => ?_)
  have hC : CallFix p m c cX3_place 4 s _ vs_ws RX3 := hC
  have hl : lv_has ls 4 [(0, .ref (a 0)), (1, .int (vs_I x1))] := hl
  unfold wX3_place at hw
  refine vs_iconst hC dX3_place_0 ?_
  refine vs_name (fun v1 hv1 => ?_)
  have hw := hw v1 hv1
  refine vs_istore_n (L' := [(0, .ref (a 0)), (1, .int (vs_I x1)), (2, .int (vs_I v1))]) hC hl [1, 2, 0] dX3_place_1 rfl (by decide) rfl (fun ls hl => ?_)
  refine vs_iconst hC dX3_place_2 ?_
  refine vs_istore_n (L' := [(0, .ref (a 0)), (1, .int (vs_I x1)), (2, .int (vs_I v1)), (3, .int (vs_I 0))]) hC hl [1, 2, 3, 0] dX3_place_3 rfl (by decide) rfl (fun ls hl => ?_)
  obtain ⟨J2, μ2, hJ, hB2⟩ := hw
  refine vs_loop (V := Int × Int) (J := fun v => J2 v.1 v.2) (μ := fun v => μ2 v.1 v.2) (fun v => vs_W3 g a r q S ++ wr) (fun v => [(0, .ref (a 0)), (1, .int (vs_I x1)), (2, .int (vs_I v.1)), (3, .int (vs_I v.2))]) (fun v hJ ih2 H locs ls hW hl => ?_) (v1, 0) hJ hW (lv_sub hl [0, 1, 2, 3] rfl)
  obtain ⟨v3, v4⟩ := v
  have hw := hB2 v3 v4 hJ
  have hW : vs_Wd g A _ (vs_W3 g a r q S ++ wr) _ _ s := hW
  have hl : lv_has ls 4 [(0, .ref (a 0)), (1, .int (vs_I x1)), (2, .int (vs_I v3)), (3, .int (vs_I v4))] := hl
  clear hJ
  unfold lX3_place_4 at hw
  refine vs_iload_n hC hl 3 dX3_place_4 rfl rfl ?_
  refine vs_aload_n hC hl 0 dX3_place_5 rfl rfl ?_
  refine vs_get hC hW 0 rfl rfl vs_inX3 7 (by decide) vf_X3_99 rfl dX3_place_6 ?_
  obtain ⟨hx, hw⟩ := hw
  obtain ⟨hy, hw⟩ := hw
  obtain ⟨hwt, hwf⟩ := hw
  refine vs_icmp_ge hC 88 hx hy dX3_place_9 (by decide) (fun hc => ?_) (fun hc => ?_)
  · have hw := hwt hc
    clear hwt hwf hc
    refine vs_iload_n hC hl 2 dX3_place_88 rfl rfl ?_
    obtain ⟨hx, hw⟩ := hw
    obtain ⟨hwt, hwf⟩ := hw
    refine vs_if_ge hC 94 hx dX3_place_89 (by decide) (fun hc => ?_) (fun hc => ?_)
    · have hw := hwt hc
      clear hwt hwf hc
      refine vs_bipush hC dX3_place_94 (by decide +kernel) ?_
      refine vs_iload_n hC hl 2 dX3_place_96 rfl rfl ?_
      refine vs_imul hC dX3_place_97 ?_
      refine vs_name (fun v5 hv5 => ?_)
      have hw := hw v5 hv5
      refine vs_istore_n (L' := [(0, .ref (a 0)), (1, .int (vs_I x1)), (2, .int (vs_I v3)), (3, .int (vs_I v5))]) hC hl [1, 2, 3, 0] dX3_place_98 rfl (by decide) rfl (fun ls hl => ?_)
      obtain ⟨J6, μ6, hJ, hB6⟩ := hw
      refine vs_loop (V := Int) (J := fun v => J6 v) (μ := fun v => μ6 v) (fun v => vs_W3 g a r q S ++ wr) (fun v => [(0, .ref (a 0)), (3, .int (vs_I v))]) (fun v hJ ih6 H locs ls hW hl => ?_) v5 hJ hW (lv_sub hl [0, 3] rfl)
      obtain ⟨v7, hv⟩ : ∃ z, z = v := ⟨_, rfl⟩
      subst hv
      have hw := hB6 v7 hJ
      have hW : vs_Wd g A _ (vs_W3 g a r q S ++ wr) _ _ s := hW
      have hl : lv_has ls 4 [(0, .ref (a 0)), (3, .int (vs_I v7))] := hl
      clear hJ
      unfold lX3_place_99 at hw
      refine vs_aload_n hC hl 0 dX3_place_99 rfl rfl ?_
      refine vs_get hC hW 0 rfl rfl vs_inX3 3 (by decide) vf_X3_17 rfl dX3_place_100 ?_
      refine vs_iload_n hC hl 1 dX3_place_103 rfl rfl ?_
      obtain ⟨hi, hw⟩ := hw
      refine vs_iald hC hW 3 rfl (by decide) hi dX3_place_104 ?_
      obtain ⟨hx, hw⟩ := hw
      obtain ⟨hwt, hwf⟩ := hw
      refine vs_if_lt hC 114 hx dX3_place_105 (by decide) (fun hc => ?_) (fun hc => ?_)
      · have hw := hwt hc
        clear hwt hwf hc
        refine vs_iload_n hC hl 1 dX3_place_114 rfl rfl ?_
        exact vs_iret () hC hr hlk hW rfl hw (Nat.le_of_ble_eq_true rfl) (Nat.le_of_ble_eq_true rfl) dX3_place_115
      · have hw := hwf hc
        clear hwt hwf hc
        refine vs_iinc (L' := [(0, .ref (a 0)), (3, .int (vs_I (v7 + 1)))]) hC hl 1 [1, 0] dX3_place_108 rfl (by decide) rfl (fun ls hl => ?_)
        refine vs_goto hC 99 dX3_place_111 (by decide) ?_
        exact ih6 (v7 + 1) hw _ _ _ hW (lv_sub hl [0, 1] rfl)
    · have hw := hwf hc
      clear hwt hwf hc
      refine vs_iconst hC dX3_place_92 ?_
      exact vs_iret () hC hr hlk hW rfl hw (Nat.le_of_ble_eq_true rfl) (Nat.le_of_ble_eq_true rfl) dX3_place_93
  · have hw := hwf hc
    clear hwt hwf hc
    refine vs_aload_n hC hl 0 dX3_place_12 rfl rfl ?_
    refine vs_get hC hW 0 rfl rfl vs_inX3 2 (by decide) vf_X3_13 rfl dX3_place_13 ?_
    refine vs_iload_n hC hl 3 dX3_place_16 rfl rfl ?_
    obtain ⟨hi, hw⟩ := hw
    refine vs_cald hC hW 2 rfl (by decide) hi dX3_place_17 ?_
    refine vs_bipush hC dX3_place_18 (by decide +kernel) ?_
    obtain ⟨hx, hw⟩ := hw
    obtain ⟨hwt, hwf⟩ := hw
    refine vs_icmp_ne hC 82 hx ⟨by decide, by decide⟩ dX3_place_20 (by decide) (fun hc => ?_) (fun hc => ?_)
    · have hw := hwt hc
      clear hwt hwf hc
      refine vs_iinc (L' := [(0, .ref (a 0)), (1, .int (vs_I x1)), (2, .int (vs_I v3)), (3, .int (vs_I (v4 + 1)))]) hC hl 3 [1, 2, 3, 0] dX3_place_82 rfl (by decide) rfl (fun ls hl => ?_)
      refine vs_goto hC 4 dX3_place_85 (by decide) ?_
      exact ih2 (v3, v4 + 1) hw _ _ _ hW (lv_sub hl [0, 1, 2, 3] rfl)
    · have hw := hwf hc
      clear hwt hwf hc
      refine vs_aload_n hC hl 0 dX3_place_23 rfl rfl ?_
      refine vs_iload_n hC hl 3 dX3_place_24 rfl rfl ?_
      refine vs_callVI [.int (vs_I v4)] hC hW 0 rfl rfl vk_X3_usedOf vm_X3_112 (c_X3_usedOf l g a r q (wr) S v4 _ hw) rfl hl.1 rfl ⟨rfl, rfl⟩ ⟨Nat.le_of_ble_eq_true rfl, Nat.le_of_ble_eq_true rfl⟩ ⟨Nat.le_of_ble_eq_true rfl, Nat.le_of_ble_eq_true rfl⟩ (Nat.le_of_ble_eq_true rfl) dX3_place_25 (fun r8 _ H locs hw hW => ?_)
      have hW : vs_Wd g A _ (vs_W3 g a r q S ++ wr) _ _ s := hW
      refine vs_aload_n hC hl 0 dX3_place_28 rfl rfl ?_
      refine vs_get hC hW 0 rfl rfl vs_inX3 1 (by decide) vf_X3_9 rfl dX3_place_29 ?_
      refine vs_iload_n hC hl 3 dX3_place_32 rfl rfl ?_
      obtain ⟨hi, hw⟩ := hw
      refine vs_iald hC hW 1 rfl (by decide) hi dX3_place_33 ?_
      obtain ⟨hx, hw⟩ := hw
      obtain ⟨hy, hw⟩ := hw
      obtain ⟨hwt, hwf⟩ := hw
      refine vs_icmp_eq hC 82 hx hy dX3_place_34 (by decide) (fun hc => ?_) (fun hc => ?_)
      · have hw := hwt hc
        clear hwt hwf hc
        refine vs_iinc (L' := [(0, .ref (a 0)), (1, .int (vs_I x1)), (2, .int (vs_I v3)), (3, .int (vs_I (v4 + 1)))]) hC hl 3 [1, 2, 3, 0] dX3_place_82 rfl (by decide) rfl (fun ls hl => ?_)
        refine vs_goto hC 4 dX3_place_85 (by decide) ?_
        exact ih2 (v3, v4 + 1) hw _ _ _ hW (lv_sub hl [0, 1, 2, 3] rfl)
      · have hw := hwf hc
        clear hwt hwf hc
        refine vs_aload_n hC hl 0 dX3_place_37 rfl rfl ?_
        refine vs_iload_n hC hl 3 dX3_place_38 rfl rfl ?_
        refine vs_iload_n hC hl 1 dX3_place_39 rfl rfl ?_
        refine vs_callVI [.int (vs_I v4), .int (vs_I x1)] hC hW 0 rfl rfl vk_X3_has vm_X3_116 (c_X3_has l g a r q (wr) S v4 x1 _ hw) rfl hl.1 rfl ⟨rfl, rfl⟩ ⟨Nat.le_of_ble_eq_true rfl, Nat.le_of_ble_eq_true rfl⟩ ⟨Nat.le_of_ble_eq_true rfl, Nat.le_of_ble_eq_true rfl⟩ (Nat.le_of_ble_eq_true rfl) dX3_place_40 (fun r9 _ H locs hw hW => ?_)
        have hW : vs_Wd g A _ (vs_W3 g a r q S ++ wr) _ _ s := hW
        obtain ⟨hx, hw⟩ := hw
        obtain ⟨hwt, hwf⟩ := hw
        refine vs_if_eq hC 49 hx dX3_place_43 (by decide) (fun hc => ?_) (fun hc => ?_)
        · have hw := hwt hc
          clear hwt hwf hc
          refine vs_iload_n hC hl 2 dX3_place_49 rfl rfl ?_
          obtain ⟨hx, hw⟩ := hw
          obtain ⟨hwt, hwf⟩ := hw
          refine vs_if_lt hC 80 hx dX3_place_50 (by decide) (fun hc => ?_) (fun hc => ?_)
          · have hw := hwt hc
            clear hwt hwf hc
            refine vs_iload_n hC hl 3 dX3_place_80 rfl rfl ?_
            refine vs_istore_n (L' := [(0, .ref (a 0)), (1, .int (vs_I x1)), (2, .int (vs_I v4)), (3, .int (vs_I v4))]) hC hl [1, 2, 0, 3] dX3_place_81 rfl (by decide) rfl (fun ls hl => ?_)
            refine vs_iinc (L' := [(0, .ref (a 0)), (1, .int (vs_I x1)), (2, .int (vs_I v4)), (3, .int (vs_I (v4 + 1)))]) hC hl 3 [1, 2, 3, 0] dX3_place_82 rfl (by decide) rfl (fun ls hl => ?_)
            refine vs_goto hC 4 dX3_place_85 (by decide) ?_
            exact ih2 (v4, v4 + 1) hw _ _ _ hW (lv_sub hl [0, 1, 2, 3] rfl)
          · have hw := hwf hc
            clear hwt hwf hc
            refine vs_aload_n hC hl 0 dX3_place_53 rfl rfl ?_
            refine vs_get hC hW 0 rfl rfl vs_inX3 1 (by decide) vf_X3_9 rfl dX3_place_54 ?_
            refine vs_iload_n hC hl 3 dX3_place_57 rfl rfl ?_
            obtain ⟨hi, hw⟩ := hw
            refine vs_iald hC hW 1 rfl (by decide) hi dX3_place_58 ?_
            refine vs_aload_n hC hl 0 dX3_place_59 rfl rfl ?_
            refine vs_iload_n hC hl 3 dX3_place_60 rfl rfl ?_
            refine vs_callVI [.int (vs_I v4)] hC hW 0 rfl rfl vk_X3_usedOf vm_X3_112 (c_X3_usedOf l g a r q (wr) S v4 _ hw) rfl hl.1 rfl ⟨rfl, rfl⟩ ⟨Nat.le_of_ble_eq_true rfl, Nat.le_of_ble_eq_true rfl⟩ ⟨Nat.le_of_ble_eq_true rfl, Nat.le_of_ble_eq_true rfl⟩ (Nat.le_of_ble_eq_true rfl) dX3_place_61 (fun r10 _ H locs hw hW => ?_)
            have hW : vs_Wd g A _ (vs_W3 g a r q S ++ wr) _ _ s := hW
            refine vs_isub hC dX3_place_64 ?_
            refine vs_aload_n hC hl 0 dX3_place_65 rfl rfl ?_
            refine vs_get hC hW 0 rfl rfl vs_inX3 1 (by decide) vf_X3_9 rfl dX3_place_66 ?_
            refine vs_iload_n hC hl 2 dX3_place_69 rfl rfl ?_
            obtain ⟨hi, hw⟩ := hw
            refine vs_iald hC hW 1 rfl (by decide) hi dX3_place_70 ?_
            refine vs_aload_n hC hl 0 dX3_place_71 rfl rfl ?_
            refine vs_iload_n hC hl 2 dX3_place_72 rfl rfl ?_
            refine vs_callVI [.int (vs_I v3)] hC hW 0 rfl rfl vk_X3_usedOf vm_X3_112 (c_X3_usedOf l g a r q (wr) S v3 _ hw) rfl hl.1 rfl ⟨rfl, rfl⟩ ⟨Nat.le_of_ble_eq_true rfl, Nat.le_of_ble_eq_true rfl⟩ ⟨Nat.le_of_ble_eq_true rfl, Nat.le_of_ble_eq_true rfl⟩ (Nat.le_of_ble_eq_true rfl) dX3_place_73 (fun r11 _ H locs hw hW => ?_)
            have hW : vs_Wd g A _ (vs_W3 g a r q S ++ wr) _ _ s := hW
            refine vs_isub hC dX3_place_76 ?_
            obtain ⟨hx, hw⟩ := hw
            obtain ⟨hy, hw⟩ := hw
            obtain ⟨hwt, hwf⟩ := hw
            refine vs_icmp_le hC 82 hx hy dX3_place_77 (by decide) (fun hc => ?_) (fun hc => ?_)
            · have hw := hwt hc
              clear hwt hwf hc
              refine vs_iinc (L' := [(0, .ref (a 0)), (1, .int (vs_I x1)), (2, .int (vs_I v3)), (3, .int (vs_I (v4 + 1)))]) hC hl 3 [1, 2, 3, 0] dX3_place_82 rfl (by decide) rfl (fun ls hl => ?_)
              refine vs_goto hC 4 dX3_place_85 (by decide) ?_
              exact ih2 (v3, v4 + 1) hw _ _ _ hW (lv_sub hl [0, 1, 2, 3] rfl)
            · have hw := hwf hc
              clear hwt hwf hc
              refine vs_iload_n hC hl 3 dX3_place_80 rfl rfl ?_
              refine vs_istore_n (L' := [(0, .ref (a 0)), (1, .int (vs_I x1)), (2, .int (vs_I v4)), (3, .int (vs_I v4))]) hC hl [1, 2, 0, 3] dX3_place_81 rfl (by decide) rfl (fun ls hl => ?_)
              refine vs_iinc (L' := [(0, .ref (a 0)), (1, .int (vs_I x1)), (2, .int (vs_I v4)), (3, .int (vs_I (v4 + 1)))]) hC hl 3 [1, 2, 3, 0] dX3_place_82 rfl (by decide) rfl (fun ls hl => ?_)
              refine vs_goto hC 4 dX3_place_85 (by decide) ?_
              exact ih2 (v4, v4 + 1) hw _ _ _ hW (lv_sub hl [0, 1, 2, 3] rfl)
        · have hw := hwf hc
          clear hwt hwf hc
          refine vs_goto hC 82 dX3_place_46 (by decide) ?_
          refine vs_iinc (L' := [(0, .ref (a 0)), (1, .int (vs_I x1)), (2, .int (vs_I v3)), (3, .int (vs_I (v4 + 1)))]) hC hl 3 [1, 2, 3, 0] dX3_place_82 rfl (by decide) rfl (fun ls hl => ?_)
          refine vs_goto hC 4 dX3_place_85 (by decide) ?_
          exact ih2 (v3, v4 + 1) hw _ _ _ hW (lv_sub hl [0, 1, 2, 3] rfl)
set_option maxHeartbeats 4000000 in
set_option maxRecDepth 100000 in
theorem c_X3_puts (l : Launch) (g : vs_G) (a r q : Nat → Nat) (wr : va_W) (S : vs_St) (x1 : Int) (x2 : Int) (post : vs_St → Prop) (hw : wX3_puts S x1 x2 post) : vs_MV l yX3_puts (Cond.code yX3_puts cX3_puts 3 (none) :: vs_ws) { frames := 0, cells := 0, slots := 0, locals := 0 } g [.ref (a 0), .int (vs_I x1), .int (vs_I x2)] (vs_W3 g a r q S ++ wr) (fun (S' : vs_St) => vs_W3 g a r q S' ++ wr) post 0 0 := by
  refine vs_ofW (Qc := fun A => vs_QV g A (fun (S' : vs_St) => vs_W3 g a r q S' ++ wr) post) (by decide +kernel) (Nat.le_of_ble_eq_true rfl) (fun p e s m below meth c A ls hC hr hlk hW hl => ?_)
  have hC : CallFix p m c cX3_puts 3 s _ vs_ws RX3 := hC
  have hl : lv_has ls 3 [(0, .ref (a 0)), (1, .int (vs_I x1)), (2, .int (vs_I x2))] := hl
  unfold wX3_puts at hw
  refine vs_aload_n hC hl 0 dX3_puts_0 rfl rfl ?_
  refine vs_get hC hW 0 rfl rfl vs_inX3 3 (by decide) vf_X3_17 rfl dX3_puts_1 ?_
  refine vs_iload_n hC hl 2 dX3_puts_4 rfl rfl ?_
  refine vs_iload_n hC hl 1 dX3_puts_5 rfl rfl ?_
  obtain ⟨hi, hw⟩ := hw
  obtain ⟨S1, hS1⟩ : ∃ z : vs_St, z = vs_st S 3 x2 x1 := ⟨_, rfl⟩
  have hw := hw S1 hS1
  refine vs_iast (Wo' := vs_W3 g a r q S1 ++ wr) hC hW 3 rfl (by decide) hi (by rw [hS1]; rfl) dX3_puts_6 (fun H locs hW => ?_)
  refine vs_aload_n hC hl 0 dX3_puts_7 rfl rfl ?_
  refine vs_get hC hW 0 rfl rfl vs_inX3 5 (by decide) vf_X3_23 rfl dX3_puts_8 ?_
  refine vs_iload_n hC hl 2 dX3_puts_11 rfl rfl ?_
  refine vs_iconst hC dX3_puts_12 ?_
  obtain ⟨hi, hw⟩ := hw
  obtain ⟨S2, hS2⟩ : ∃ z : vs_St, z = vs_st S1 5 x2 0 := ⟨_, rfl⟩
  have hw := hw S2 hS2
  refine vs_zast (Wo' := vs_W3 g a r q S2 ++ wr) hC hW 5 rfl (by decide) hi (by decide) (by rw [hS2]; rfl) dX3_puts_13 (fun H locs hW => ?_)
  refine vs_aload_n hC hl 0 dX3_puts_14 rfl rfl ?_
  refine vs_get hC hW 0 rfl rfl vs_inX3 8 (by decide) vf_X3_32 rfl dX3_puts_15 ?_
  refine vs_iload_n hC hl 1 dX3_puts_18 rfl rfl ?_
  obtain ⟨hq, hw⟩ := hw
  have hr3 := hq
  refine vs_aald2 (r := r) hC hW 7 rfl (by decide) hq dX3_puts_19 ?_
  refine vs_aload_n hC hl 0 dX3_puts_20 rfl rfl ?_
  refine vs_get hC hW 0 rfl rfl vs_inX3 10 (by decide) vf_X3_38 rfl dX3_puts_21 ?_
  refine vs_iload_n hC hl 1 dX3_puts_24 rfl rfl ?_
  obtain ⟨hi, hw⟩ := hw
  refine vs_iald hC hW 9 rfl (by decide) hi dX3_puts_25 ?_
  refine vs_iload_n hC hl 2 dX3_puts_26 rfl rfl ?_
  obtain ⟨hi, hw⟩ := hw
  obtain ⟨S4, hS4⟩ : ∃ z : vs_St, z = vs_st S2 8 (3 * x1 + (S2 10 x1)) x2 := ⟨_, rfl⟩
  have hw := hw S4 hS4
  refine vs_iast (Wo' := vs_W3 g a r q S4 ++ wr) hC hW (25 + Int.toNat x1) (vs_rowat8 hr3) (by decide) hi (by rw [hS4]; exact vs_rowst8 hr3 hi) dX3_puts_27 (fun H locs hW => ?_)
  refine vs_aload_n hC hl 0 dX3_puts_28 rfl rfl ?_
  refine vs_get hC hW 0 rfl rfl vs_inX3 10 (by decide) vf_X3_38 rfl dX3_puts_29 ?_
  refine vs_iload_n hC hl 1 dX3_puts_32 rfl rfl ?_
  refine vs_dup2 hC dX3_puts_33 rfl rfl ?_
  obtain ⟨hi, hw⟩ := hw
  refine vs_iald hC hW 9 rfl (by decide) hi dX3_puts_34 ?_
  refine vs_iconst hC dX3_puts_35 ?_
  refine vs_iadd hC dX3_puts_36 ?_
  obtain ⟨hi, hw⟩ := hw
  obtain ⟨S5, hS5⟩ : ∃ z : vs_St, z = vs_st S4 10 x1 ((S4 10 x1) + 1) := ⟨_, rfl⟩
  have hw := hw S5 hS5
  refine vs_iast (Wo' := vs_W3 g a r q S5 ++ wr) hC hW 9 rfl (by decide) hi (by rw [hS5]; rfl) dX3_puts_37 (fun H locs hW => ?_)
  exact vs_vret (S5) hC hr hlk hW rfl hw (Nat.le_of_ble_eq_true rfl) (Nat.le_of_ble_eq_true rfl) dX3_puts_38
set_option maxHeartbeats 4000000 in
set_option maxRecDepth 100000 in
theorem c_X3_takes (l : Launch) (g : vs_G) (a r q : Nat → Nat) (wr : va_W) (S : vs_St) (x1 : Int) (x2 : Int) (post : vs_St → Prop) (hw : wX3_takes S x1 x2 post) : vs_MV l yX3_takes (Cond.code yX3_takes cX3_takes 4 (none) :: vs_ws) { frames := 0, cells := 0, slots := 0, locals := 0 } g [.ref (a 0), .int (vs_I x1), .int (vs_I x2)] (vs_W3 g a r q S ++ wr) (fun (S' : vs_St) => vs_W3 g a r q S' ++ wr) post 0 0 := by
  refine vs_ofW (Qc := fun A => vs_QV g A (fun (S' : vs_St) => vs_W3 g a r q S' ++ wr) post) (by decide +kernel) (Nat.le_of_ble_eq_true rfl) (fun p e s m below meth c A ls hC hr hlk hW hl => ?_)
  have hC : CallFix p m c cX3_takes 4 s _ vs_ws RX3 := hC
  have hl : lv_has ls 4 [(0, .ref (a 0)), (1, .int (vs_I x1)), (2, .int (vs_I x2))] := hl
  unfold wX3_takes at hw
  refine vs_aload_n hC hl 0 dX3_takes_0 rfl rfl ?_
  refine vs_get hC hW 0 rfl rfl vs_inX3 3 (by decide) vf_X3_17 rfl dX3_takes_1 ?_
  refine vs_aload_n hC hl 0 dX3_takes_4 rfl rfl ?_
  refine vs_get hC hW 0 rfl rfl vs_inX3 8 (by decide) vf_X3_32 rfl dX3_takes_5 ?_
  refine vs_iload_n hC hl 1 dX3_takes_8 rfl rfl ?_
  obtain ⟨hq, hw⟩ := hw
  have hr1 := hq
  refine vs_aald2 (r := r) hC hW 7 rfl (by decide) hq dX3_takes_9 ?_
  refine vs_iload_n hC hl 2 dX3_takes_10 rfl rfl ?_
  obtain ⟨hi, hw⟩ := hw
  refine vs_iald2 hC hW (25 + Int.toNat x1) (vs_rowat8 hr1) hi dX3_takes_11 ?_
  refine vs_iconst hC dX3_takes_12 ?_
  obtain ⟨hi, hw⟩ := hw
  obtain ⟨S2, hS2⟩ : ∃ z : vs_St, z = vs_st S 3 (S 8 (3 * x1 + x2)) (-1) := ⟨_, rfl⟩
  have hw := hw S2 hS2
  refine vs_iast (Wo' := vs_W3 g a r q S2 ++ wr) hC hW 3 rfl (by decide) hi (by rw [hS2]; rfl) dX3_takes_13 (fun H locs hW => ?_)
  refine vs_aload_n hC hl 0 dX3_takes_14 rfl rfl ?_
  refine vs_get hC hW 0 rfl rfl vs_inX3 10 (by decide) vf_X3_38 rfl dX3_takes_15 ?_
  refine vs_iload_n hC hl 1 dX3_takes_18 rfl rfl ?_
  refine vs_dup2 hC dX3_takes_19 rfl rfl ?_
  obtain ⟨hi, hw⟩ := hw
  refine vs_iald hC hW 9 rfl (by decide) hi dX3_takes_20 ?_
  refine vs_iconst hC dX3_takes_21 ?_
  refine vs_isub hC dX3_takes_22 ?_
  obtain ⟨hi, hw⟩ := hw
  obtain ⟨S3, hS3⟩ : ∃ z : vs_St, z = vs_st S2 10 x1 ((S2 10 x1) - 1) := ⟨_, rfl⟩
  have hw := hw S3 hS3
  refine vs_iast (Wo' := vs_W3 g a r q S3 ++ wr) hC hW 9 rfl (by decide) hi (by rw [hS3]; rfl) dX3_takes_23 (fun H locs hW => ?_)
  refine vs_iload_n hC hl 2 dX3_takes_24 rfl rfl ?_
  refine vs_istore_n (L' := [(0, .ref (a 0)), (1, .int (vs_I x1)), (2, .int (vs_I x2)), (3, .int (vs_I x2))]) hC hl [1, 2, 3, 0] dX3_takes_25 rfl (by decide) rfl (fun ls hl => ?_)
  obtain ⟨J4, μ4, hJ, hB4⟩ := hw
  refine vs_loop (V := Int × vs_St) (J := fun v => J4 v.1 v.2) (μ := fun v => μ4 v.1 v.2) (fun v => vs_W3 g a r q v.2 ++ wr) (fun v => [(0, .ref (a 0)), (1, .int (vs_I x1)), (3, .int (vs_I v.1))]) (fun v hJ ih4 H locs ls hW hl => ?_) (x2, S3) hJ hW (lv_sub hl [0, 1, 3] rfl)
  obtain ⟨v5, S6⟩ := v
  have hw := hB4 v5 S6 hJ
  have hW : vs_Wd g A _ (vs_W3 g a r q S6 ++ wr) _ _ s := hW
  have hl : lv_has ls 4 [(0, .ref (a 0)), (1, .int (vs_I x1)), (3, .int (vs_I v5))] := hl
  clear hJ
  unfold lX3_takes_26 at hw
  refine vs_iload_n hC hl 2 dX3_takes_26 rfl rfl ?_
  refine vs_aload_n hC hl 0 dX3_takes_27 rfl rfl ?_
  refine vs_get hC hW 0 rfl rfl vs_inX3 10 (by decide) vf_X3_38 rfl dX3_takes_28 ?_
  refine vs_iload_n hC hl 1 dX3_takes_31 rfl rfl ?_
  obtain ⟨hi, hw⟩ := hw
  refine vs_iald hC hW 9 rfl (by decide) hi dX3_takes_32 ?_
  obtain ⟨hx, hw⟩ := hw
  obtain ⟨hy, hw⟩ := hw
  obtain ⟨hwt, hwf⟩ := hw
  refine vs_icmp_ge hC 60 hx hy dX3_takes_33 (by decide) (fun hc => ?_) (fun hc => ?_)
  · have hw := hwt hc
    clear hwt hwf hc
    exact vs_vret (S6) hC hr hlk hW rfl hw (Nat.le_of_ble_eq_true rfl) (Nat.le_of_ble_eq_true rfl) dX3_takes_60
  · have hw := hwf hc
    clear hwt hwf hc
    refine vs_aload_n hC hl 0 dX3_takes_36 rfl rfl ?_
    refine vs_get hC hW 0 rfl rfl vs_inX3 8 (by decide) vf_X3_32 rfl dX3_takes_37 ?_
    refine vs_iload_n hC hl 1 dX3_takes_40 rfl rfl ?_
    obtain ⟨hq, hw⟩ := hw
    have hr7 := hq
    refine vs_aald2 (r := r) hC hW 7 rfl (by decide) hq dX3_takes_41 ?_
    refine vs_iload_n hC hl 2 dX3_takes_42 rfl rfl ?_
    refine vs_aload_n hC hl 0 dX3_takes_43 rfl rfl ?_
    refine vs_get hC hW 0 rfl rfl vs_inX3 8 (by decide) vf_X3_32 rfl dX3_takes_44 ?_
    refine vs_iload_n hC hl 1 dX3_takes_47 rfl rfl ?_
    obtain ⟨hq, hw⟩ := hw
    have hr8 := hq
    refine vs_aald2 (r := r) hC hW 7 rfl (by decide) hq dX3_takes_48 ?_
    refine vs_iload_n hC hl 2 dX3_takes_49 rfl rfl ?_
    refine vs_iconst hC dX3_takes_50 ?_
    refine vs_iadd hC dX3_takes_51 ?_
    obtain ⟨hi, hw⟩ := hw
    refine vs_iald2 hC hW (25 + Int.toNat x1) (vs_rowat8 hr8) hi dX3_takes_52 ?_
    obtain ⟨hi, hw⟩ := hw
    obtain ⟨S9, hS9⟩ : ∃ z : vs_St, z = vs_st S6 8 (3 * x1 + v5) (S6 8 (3 * x1 + (v5 + 1))) := ⟨_, rfl⟩
    have hw := hw S9 hS9
    refine vs_iast (Wo' := vs_W3 g a r q S9 ++ wr) hC hW (25 + Int.toNat x1) (vs_rowat8 hr7) (by decide) hi (by rw [hS9]; exact vs_rowst8 hr7 hi) dX3_takes_53 (fun H locs hW => ?_)
    refine vs_iinc (L' := [(0, .ref (a 0)), (1, .int (vs_I x1)), (3, .int (vs_I (v5 + 1)))]) hC hl 2 [1, 2, 0] dX3_takes_54 rfl (by decide) rfl (fun ls hl => ?_)
    refine vs_goto hC 26 dX3_takes_57 (by decide) ?_
    exact ih4 (v5 + 1, S9) hw _ _ _ hW (lv_sub hl [0, 1, 2] rfl)
set_option maxHeartbeats 4000000 in
set_option maxRecDepth 100000 in
theorem c_X3_goodOf (l : Launch) (g : vs_G) (a r q : Nat → Nat) (wr : va_W) (S : vs_St) (x1 : Int) (post : Int → Prop) (hw : wX3_goodOf S x1 post) : vs_MI l yX3_goodOf (Cond.code yX3_goodOf cX3_goodOf 4 (some .int) :: vs_ws) { frames := 0, cells := 0, slots := 0, locals := 0 } g [.ref (a 0), .int (vs_I x1)] (vs_W3 g a r q S ++ wr) (fun (_ : Unit) => vs_W3 g a r q S ++ wr) (fun v (_ : Unit) => post v) 0 0 := by
  refine vs_ofW (Qc := fun A => vs_QI g A (fun (_ : Unit) => vs_W3 g a r q S ++ wr) (fun v (_ : Unit) => post v)) (by decide +kernel) (Nat.le_of_ble_eq_true rfl) (fun p e s m below meth c A ls hC hr hlk hW hl => ?_)
  have hC : CallFix p m c cX3_goodOf 4 s _ vs_ws RX3 := hC
  have hl : lv_has ls 4 [(0, .ref (a 0)), (1, .int (vs_I x1))] := hl
  unfold wX3_goodOf at hw
  refine vs_iconst hC dX3_goodOf_0 ?_
  refine vs_istore_n (L' := [(0, .ref (a 0)), (1, .int (vs_I x1)), (2, .int (vs_I 0))]) hC hl [1, 2, 0] dX3_goodOf_1 rfl (by decide) rfl (fun ls hl => ?_)
  refine vs_iconst hC dX3_goodOf_2 ?_
  refine vs_istore_n (L' := [(0, .ref (a 0)), (1, .int (vs_I x1)), (2, .int (vs_I 0)), (3, .int (vs_I 0))]) hC hl [1, 2, 3, 0] dX3_goodOf_3 rfl (by decide) rfl (fun ls hl => ?_)
  obtain ⟨J1, μ1, hJ, hB1⟩ := hw
  refine vs_loop (V := Int × Int) (J := fun v => J1 v.1 v.2) (μ := fun v => μ1 v.1 v.2) (fun v => vs_W3 g a r q S ++ wr) (fun v => [(0, .ref (a 0)), (1, .int (vs_I x1)), (2, .int (vs_I v.1)), (3, .int (vs_I v.2))]) (fun v hJ ih1 H locs ls hW hl => ?_) (0, 0) hJ hW (lv_sub hl [0, 1, 2, 3] rfl)
  obtain ⟨v2, v3⟩ := v
  have hw := hB1 v2 v3 hJ
  have hW : vs_Wd g A _ (vs_W3 g a r q S ++ wr) _ _ s := hW
  have hl : lv_has ls 4 [(0, .ref (a 0)), (1, .int (vs_I x1)), (2, .int (vs_I v2)), (3, .int (vs_I v3))] := hl
  clear hJ
  unfold lX3_goodOf_4 at hw
  refine vs_iload_n hC hl 3 dX3_goodOf_4 rfl rfl ?_
  refine vs_aload_n hC hl 0 dX3_goodOf_5 rfl rfl ?_
  refine vs_get hC hW 0 rfl rfl vs_inX3 10 (by decide) vf_X3_38 rfl dX3_goodOf_6 ?_
  refine vs_iload_n hC hl 1 dX3_goodOf_9 rfl rfl ?_
  obtain ⟨hi, hw⟩ := hw
  refine vs_iald hC hW 9 rfl (by decide) hi dX3_goodOf_10 ?_
  obtain ⟨hx, hw⟩ := hw
  obtain ⟨hy, hw⟩ := hw
  obtain ⟨hwt, hwf⟩ := hw
  refine vs_icmp_ge hC 44 hx hy dX3_goodOf_11 (by decide) (fun hc => ?_) (fun hc => ?_)
  · have hw := hwt hc
    clear hwt hwf hc
    refine vs_iload_n hC hl 2 dX3_goodOf_44 rfl rfl ?_
    exact vs_iret () hC hr hlk hW rfl hw (Nat.le_of_ble_eq_true rfl) (Nat.le_of_ble_eq_true rfl) dX3_goodOf_45
  · have hw := hwf hc
    clear hwt hwf hc
    refine vs_iload_n hC hl 2 dX3_goodOf_14 rfl rfl ?_
    refine vs_aload_n hC hl 0 dX3_goodOf_15 rfl rfl ?_
    refine vs_get hC hW 0 rfl rfl vs_inX3 5 (by decide) vf_X3_23 rfl dX3_goodOf_16 ?_
    refine vs_aload_n hC hl 0 dX3_goodOf_19 rfl rfl ?_
    refine vs_get hC hW 0 rfl rfl vs_inX3 8 (by decide) vf_X3_32 rfl dX3_goodOf_20 ?_
    refine vs_iload_n hC hl 1 dX3_goodOf_23 rfl rfl ?_
    obtain ⟨hq, hw⟩ := hw
    have hr4 := hq
    refine vs_aald2 (r := r) hC hW 7 rfl (by decide) hq dX3_goodOf_24 ?_
    refine vs_iload_n hC hl 3 dX3_goodOf_25 rfl rfl ?_
    obtain ⟨hi, hw⟩ := hw
    refine vs_iald2 hC hW (25 + Int.toNat x1) (vs_rowat8 hr4) hi dX3_goodOf_26 ?_
    obtain ⟨hi, hw⟩ := hw
    refine vs_zald hC hW 5 rfl (by decide) hi dX3_goodOf_27 ?_
    obtain ⟨hx, hw⟩ := hw
    obtain ⟨hwt, hwf⟩ := hw
    refine vs_if_eq hC 35 hx dX3_goodOf_28 (by decide) (fun hc => ?_) (fun hc => ?_)
    · have hw := hwt hc
      clear hwt hwf hc
      refine vs_iconst hC dX3_goodOf_35 ?_
      refine vs_iadd hC dX3_goodOf_36 ?_
      refine vs_name (fun v5 hv5 => ?_)
      have hw := hw v5 hv5
      refine vs_istore_n (L' := [(0, .ref (a 0)), (1, .int (vs_I x1)), (2, .int (vs_I v5)), (3, .int (vs_I v3))]) hC hl [1, 2, 0, 3] dX3_goodOf_37 rfl (by decide) rfl (fun ls hl => ?_)
      refine vs_iinc (L' := [(0, .ref (a 0)), (1, .int (vs_I x1)), (2, .int (vs_I v5)), (3, .int (vs_I (v3 + 1)))]) hC hl 3 [1, 2, 3, 0] dX3_goodOf_38 rfl (by decide) rfl (fun ls hl => ?_)
      refine vs_goto hC 4 dX3_goodOf_41 (by decide) ?_
      exact ih1 (v5, v3 + 1) hw _ _ _ hW (lv_sub hl [0, 1, 2, 3] rfl)
    · have hw := hwf hc
      clear hwt hwf hc
      refine vs_iconst hC dX3_goodOf_31 ?_
      refine vs_goto hC 36 dX3_goodOf_32 (by decide) ?_
      refine vs_iadd hC dX3_goodOf_36 ?_
      refine vs_name (fun v6 hv6 => ?_)
      have hw := hw v6 hv6
      refine vs_istore_n (L' := [(0, .ref (a 0)), (1, .int (vs_I x1)), (2, .int (vs_I v6)), (3, .int (vs_I v3))]) hC hl [1, 2, 0, 3] dX3_goodOf_37 rfl (by decide) rfl (fun ls hl => ?_)
      refine vs_iinc (L' := [(0, .ref (a 0)), (1, .int (vs_I x1)), (2, .int (vs_I v6)), (3, .int (vs_I (v3 + 1)))]) hC hl 3 [1, 2, 3, 0] dX3_goodOf_38 rfl (by decide) rfl (fun ls hl => ?_)
      refine vs_goto hC 4 dX3_goodOf_41 (by decide) ?_
      exact ih1 (v6, v3 + 1) hw _ _ _ hW (lv_sub hl [0, 1, 2, 3] rfl)
set_option maxHeartbeats 4000000 in
set_option maxRecDepth 100000 in
theorem c_X3_lost (l : Launch) (g : vs_G) (a r q : Nat → Nat) (wr : va_W) (S : vs_St) (x1 : Int) (post : Int → Prop) (hw : wX3_lost S x1 post) : vs_MI l yX3_lost (Cond.code yX3_lost cX3_lost 2 (some .boolean) :: vs_ws) { frames := 1, cells := 0, slots := 0, locals := 23 } g [.ref (a 0), .int (vs_I x1)] (vs_W3 g a r q S ++ wr) (fun (_ : Unit) => vs_W3 g a r q S ++ wr) (fun v (_ : Unit) => post v) 0 0 := by
  refine vs_ofW (Qc := fun A => vs_QI g A (fun (_ : Unit) => vs_W3 g a r q S ++ wr) (fun v (_ : Unit) => post v)) (by decide +kernel) (Nat.le_of_ble_eq_true rfl) (fun p e s m below meth c A ls hC hr hlk hW hl => ?_)
  have hC : CallFix p m c cX3_lost 2 s _ vs_ws RX3 := hC
  have hl : lv_has ls 2 [(0, .ref (a 0)), (1, .int (vs_I x1))] := hl
  unfold wX3_lost at hw
  refine vs_aload_n hC hl 0 dX3_lost_0 rfl rfl ?_
  refine vs_get hC hW 0 rfl rfl vs_inX3 14 (by decide) vf_X3_50 rfl dX3_lost_1 ?_
  refine vs_iload_n hC hl 1 dX3_lost_4 rfl rfl ?_
  obtain ⟨hi, hw⟩ := hw
  refine vs_zald hC hW 13 rfl (by decide) hi dX3_lost_5 ?_
  obtain ⟨hx, hw⟩ := hw
  obtain ⟨hwt, hwf⟩ := hw
  refine vs_if_eq hC 21 hx dX3_lost_6 (by decide) (fun hc => ?_) (fun hc => ?_)
  · have hw := hwt hc
    clear hwt hwf hc
    refine vs_iconst hC dX3_lost_21 ?_
    exact vs_zret () hC hr hlk hW rfl ⟨Or.inl rfl, hw⟩ (Nat.le_of_ble_eq_true rfl) (Nat.le_of_ble_eq_true rfl) dX3_lost_22
  · have hw := hwf hc
    clear hwt hwf hc
    refine vs_aload_n hC hl 0 dX3_lost_9 rfl rfl ?_
    refine vs_iload_n hC hl 1 dX3_lost_10 rfl rfl ?_
    refine vs_callVI [.int (vs_I x1)] hC hW 0 rfl rfl vk_X3_goodOf vm_X3_120 (c_X3_goodOf l g a r q (wr) S x1 _ hw) rfl hl.1 rfl ⟨rfl, rfl⟩ ⟨Nat.le_of_ble_eq_true rfl, Nat.le_of_ble_eq_true rfl⟩ ⟨Nat.le_of_ble_eq_true rfl, Nat.le_of_ble_eq_true rfl⟩ (Nat.le_of_ble_eq_true rfl) dX3_lost_11 (fun r1 _ H locs hw hW => ?_)
    have hW : vs_Wd g A _ (vs_W3 g a r q S ++ wr) _ _ s := hW
    obtain ⟨hx, hw⟩ := hw
    obtain ⟨hwt, hwf⟩ := hw
    refine vs_if_ne hC 21 hx dX3_lost_14 (by decide) (fun hc => ?_) (fun hc => ?_)
    · have hw := hwt hc
      clear hwt hwf hc
      refine vs_iconst hC dX3_lost_21 ?_
      exact vs_zret () hC hr hlk hW rfl ⟨Or.inl rfl, hw⟩ (Nat.le_of_ble_eq_true rfl) (Nat.le_of_ble_eq_true rfl) dX3_lost_22
    · have hw := hwf hc
      clear hwt hwf hc
      refine vs_iconst hC dX3_lost_17 ?_
      refine vs_goto hC 22 dX3_lost_18 (by decide) ?_
      exact vs_zret () hC hr hlk hW rfl ⟨Or.inr rfl, hw⟩ (Nat.le_of_ble_eq_true rfl) (Nat.le_of_ble_eq_true rfl) dX3_lost_22
set_option maxHeartbeats 4000000 in
set_option maxRecDepth 100000 in
theorem c_X3_degraded (l : Launch) (g : vs_G) (a r q : Nat → Nat) (wr : va_W) (S : vs_St) (x1 : Int) (post : Int → Prop) (hw : wX3_degraded S x1 post) : vs_MI l yX3_degraded (Cond.code yX3_degraded cX3_degraded 2 (some .boolean) :: vs_ws) { frames := 0, cells := 0, slots := 0, locals := 0 } g [.ref (a 0), .int (vs_I x1)] (vs_W3 g a r q S ++ wr) (fun (_ : Unit) => vs_W3 g a r q S ++ wr) (fun v (_ : Unit) => post v) 0 0 := by
  refine vs_ofW (Qc := fun A => vs_QI g A (fun (_ : Unit) => vs_W3 g a r q S ++ wr) (fun v (_ : Unit) => post v)) (by decide +kernel) (Nat.le_of_ble_eq_true rfl) (fun p e s m below meth c A ls hC hr hlk hW hl => ?_)
  have hC : CallFix p m c cX3_degraded 2 s _ vs_ws RX3 := hC
  have hl : lv_has ls 2 [(0, .ref (a 0)), (1, .int (vs_I x1))] := hl
  unfold wX3_degraded at hw
  refine vs_aload_n hC hl 0 dX3_degraded_0 rfl rfl ?_
  refine vs_get hC hW 0 rfl rfl vs_inX3 14 (by decide) vf_X3_50 rfl dX3_degraded_1 ?_
  refine vs_iload_n hC hl 1 dX3_degraded_4 rfl rfl ?_
  obtain ⟨hi, hw⟩ := hw
  refine vs_zald hC hW 13 rfl (by decide) hi dX3_degraded_5 ?_
  obtain ⟨hx, hw⟩ := hw
  obtain ⟨hwt, hwf⟩ := hw
  refine vs_if_eq hC 31 hx dX3_degraded_6 (by decide) (fun hc => ?_) (fun hc => ?_)
  · have hw := hwt hc
    clear hwt hwf hc
    refine vs_iconst hC dX3_degraded_31 ?_
    exact vs_zret () hC hr hlk hW rfl ⟨Or.inl rfl, hw⟩ (Nat.le_of_ble_eq_true rfl) (Nat.le_of_ble_eq_true rfl) dX3_degraded_32
  · have hw := hwf hc
    clear hwt hwf hc
    refine vs_aload_n hC hl 0 dX3_degraded_9 rfl rfl ?_
    refine vs_get hC hW 0 rfl rfl vs_inX3 10 (by decide) vf_X3_38 rfl dX3_degraded_10 ?_
    refine vs_iload_n hC hl 1 dX3_degraded_13 rfl rfl ?_
    obtain ⟨hi, hw⟩ := hw
    refine vs_iald hC hW 9 rfl (by decide) hi dX3_degraded_14 ?_
    refine vs_aload_n hC hl 0 dX3_degraded_15 rfl rfl ?_
    refine vs_get hC hW 0 rfl rfl vs_inX3 16 (by decide) vf_X3_53 rfl dX3_degraded_16 ?_
    refine vs_iload_n hC hl 1 dX3_degraded_19 rfl rfl ?_
    refine vs_bipush hC dX3_degraded_20 (by decide +kernel) ?_
    obtain ⟨hi, hw⟩ := hw
    refine vs_idiv hC dX3_degraded_22 ⟨hi.1, hi.2, by decide, by decide⟩ ?_
    obtain ⟨hi, hw⟩ := hw
    refine vs_iald hC hW 14 rfl (by decide) hi dX3_degraded_23 ?_
    obtain ⟨hx, hw⟩ := hw
    obtain ⟨hy, hw⟩ := hw
    obtain ⟨hwt, hwf⟩ := hw
    refine vs_icmp_ge hC 31 hx hy dX3_degraded_24 (by decide) (fun hc => ?_) (fun hc => ?_)
    · have hw := hwt hc
      clear hwt hwf hc
      refine vs_iconst hC dX3_degraded_31 ?_
      exact vs_zret () hC hr hlk hW rfl ⟨Or.inl rfl, hw⟩ (Nat.le_of_ble_eq_true rfl) (Nat.le_of_ble_eq_true rfl) dX3_degraded_32
    · have hw := hwf hc
      clear hwt hwf hc
      refine vs_iconst hC dX3_degraded_27 ?_
      refine vs_goto hC 32 dX3_degraded_28 (by decide) ?_
      exact vs_zret () hC hr hlk hW rfl ⟨Or.inr rfl, hw⟩ (Nat.le_of_ble_eq_true rfl) (Nat.le_of_ble_eq_true rfl) dX3_degraded_32
set_option maxHeartbeats 4000000 in
set_option maxRecDepth 100000 in
theorem c_X3_keepsAll (l : Launch) (g : vs_G) (a r q : Nat → Nat) (wr : va_W) (S : vs_St) (post : vs_St → Prop) (hw : wX3_keepsAll S post) : vs_MV l yX3_keepsAll (Cond.code yX3_keepsAll cX3_keepsAll 3 (none) :: vs_ws) { frames := 0, cells := 0, slots := 0, locals := 0 } g [.ref (a 0)] (vs_W3 g a r q S ++ wr) (fun (S' : vs_St) => vs_W3 g a r q S' ++ wr) post 0 0 := by
  refine vs_ofW (Qc := fun A => vs_QV g A (fun (S' : vs_St) => vs_W3 g a r q S' ++ wr) post) (by decide +kernel) (Nat.le_of_ble_eq_true rfl) (fun p e s m below meth c A ls hC hr hlk hW hl => ?_)
  have hC : CallFix p m c cX3_keepsAll 3 s _ vs_ws RX3 := hC
  have hl : lv_has ls 3 [(0, .ref (a 0))] := hl
  unfold wX3_keepsAll at hw
  refine vs_iconst hC dX3_keepsAll_0 ?_
  refine vs_istore_n (L' := [(0, .ref (a 0)), (1, .int (vs_I 0))]) hC hl [1, 0] dX3_keepsAll_1 rfl (by decide) rfl (fun ls hl => ?_)
  obtain ⟨J1, μ1, hJ, hB1⟩ := hw
  refine vs_loop (V := Int × vs_St) (J := fun v => J1 v.1 v.2) (μ := fun v => μ1 v.1 v.2) (fun v => vs_W3 g a r q v.2 ++ wr) (fun v => [(0, .ref (a 0)), (1, .int (vs_I v.1))]) (fun v hJ ih1 H locs ls hW hl => ?_) (0, S) hJ hW (lv_sub hl [0, 1] rfl)
  obtain ⟨v2, S3⟩ := v
  have hw := hB1 v2 S3 hJ
  have hW : vs_Wd g A _ (vs_W3 g a r q S3 ++ wr) _ _ s := hW
  have hl : lv_has ls 3 [(0, .ref (a 0)), (1, .int (vs_I v2))] := hl
  clear hJ
  unfold lX3_keepsAll_2 at hw
  refine vs_iload_n hC hl 1 dX3_keepsAll_2 rfl rfl ?_
  refine vs_sipush hC dX3_keepsAll_3 (by decide +kernel) ?_
  obtain ⟨hx, hw⟩ := hw
  obtain ⟨hwt, hwf⟩ := hw
  refine vs_icmp_ge hC 39 hx ⟨by decide, by decide⟩ dX3_keepsAll_6 (by decide) (fun hc => ?_) (fun hc => ?_)
  · have hw := hwt hc
    clear hwt hwf hc
    refine vs_iconst hC dX3_keepsAll_39 ?_
    refine vs_istore_n (L' := [(0, .ref (a 0)), (1, .int (vs_I 0))]) hC hl [1, 0] dX3_keepsAll_40 rfl (by decide) rfl (fun ls hl => ?_)
    obtain ⟨J4, μ4, hJ, hB4⟩ := hw
    refine vs_loop (V := Int × vs_St) (J := fun v => J4 v.1 v.2) (μ := fun v => μ4 v.1 v.2) (fun v => vs_W3 g a r q v.2 ++ wr) (fun v => [(0, .ref (a 0)), (1, .int (vs_I v.1))]) (fun v hJ ih4 H locs ls hW hl => ?_) (0, S3) hJ hW (lv_sub hl [0, 1] rfl)
    obtain ⟨v5, S6⟩ := v
    have hw := hB4 v5 S6 hJ
    have hW : vs_Wd g A _ (vs_W3 g a r q S6 ++ wr) _ _ s := hW
    have hl : lv_has ls 3 [(0, .ref (a 0)), (1, .int (vs_I v5))] := hl
    clear hJ
    unfold lX3_keepsAll_41 at hw
    refine vs_iload_n hC hl 1 dX3_keepsAll_41 rfl rfl ?_
    refine vs_sipush hC dX3_keepsAll_42 (by decide +kernel) ?_
    obtain ⟨hx, hw⟩ := hw
    obtain ⟨hwt, hwf⟩ := hw
    refine vs_icmp_ge hC 95 hx ⟨by decide, by decide⟩ dX3_keepsAll_45 (by decide) (fun hc => ?_) (fun hc => ?_)
    · have hw := hwt hc
      clear hwt hwf hc
      exact vs_vret (S6) hC hr hlk hW rfl hw (Nat.le_of_ble_eq_true rfl) (Nat.le_of_ble_eq_true rfl) dX3_keepsAll_95
    · have hw := hwf hc
      clear hwt hwf hc
      refine vs_aload_n hC hl 0 dX3_keepsAll_48 rfl rfl ?_
      refine vs_get hC hW 0 rfl rfl vs_inX3 11 (by decide) vf_X3_41 rfl dX3_keepsAll_49 ?_
      refine vs_iload_n hC hl 1 dX3_keepsAll_52 rfl rfl ?_
      refine vs_aload_n hC hl 0 dX3_keepsAll_53 rfl rfl ?_
      refine vs_get hC hW 0 rfl rfl vs_inX3 10 (by decide) vf_X3_38 rfl dX3_keepsAll_54 ?_
      refine vs_iload_n hC hl 1 dX3_keepsAll_57 rfl rfl ?_
      obtain ⟨hi, hw⟩ := hw
      refine vs_iald hC hW 9 rfl (by decide) hi dX3_keepsAll_58 ?_
      obtain ⟨hi, hw⟩ := hw
      obtain ⟨S7, hS7⟩ : ∃ z : vs_St, z = vs_st S6 11 v5 (S6 10 v5) := ⟨_, rfl⟩
      have hw := hw S7 hS7
      refine vs_iast (Wo' := vs_W3 g a r q S7 ++ wr) hC hW 10 rfl (by decide) hi (by rw [hS7]; rfl) dX3_keepsAll_59 (fun H locs hW => ?_)
      refine vs_iconst hC dX3_keepsAll_60 ?_
      refine vs_istore_n (L' := [(0, .ref (a 0)), (1, .int (vs_I v5)), (2, .int (vs_I 0))]) hC hl [1, 2, 0] dX3_keepsAll_61 rfl (by decide) rfl (fun ls hl => ?_)
      obtain ⟨J8, μ8, hJ, hB8⟩ := hw
      refine vs_loop (V := Int × vs_St) (J := fun v => J8 v.1 v.2) (μ := fun v => μ8 v.1 v.2) (fun v => vs_W3 g a r q v.2 ++ wr) (fun v => [(0, .ref (a 0)), (1, .int (vs_I v5)), (2, .int (vs_I v.1))]) (fun v hJ ih8 H locs ls hW hl => ?_) (0, S7) hJ hW (lv_sub hl [0, 1, 2] rfl)
      obtain ⟨v9, S10⟩ := v
      have hw := hB8 v9 S10 hJ
      have hW : vs_Wd g A _ (vs_W3 g a r q S10 ++ wr) _ _ s := hW
      have hl : lv_has ls 3 [(0, .ref (a 0)), (1, .int (vs_I v5)), (2, .int (vs_I v9))] := hl
      clear hJ
      unfold lX3_keepsAll_62 at hw
      refine vs_iload_n hC hl 2 dX3_keepsAll_62 rfl rfl ?_
      refine vs_iconst hC dX3_keepsAll_63 ?_
      obtain ⟨hx, hw⟩ := hw
      obtain ⟨hwt, hwf⟩ := hw
      refine vs_icmp_ge hC 89 hx ⟨by decide, by decide⟩ dX3_keepsAll_64 (by decide) (fun hc => ?_) (fun hc => ?_)
      · have hw := hwt hc
        clear hwt hwf hc
        refine vs_iinc (L' := [(0, .ref (a 0)), (1, .int (vs_I (v5 + 1))), (2, .int (vs_I v9))]) hC hl 1 [1, 0, 2] dX3_keepsAll_89 rfl (by decide) rfl (fun ls hl => ?_)
        refine vs_goto hC 41 dX3_keepsAll_92 (by decide) ?_
        exact ih4 (v5 + 1, S10) hw _ _ _ hW (lv_sub hl [0, 1] rfl)
      · have hw := hwf hc
        clear hwt hwf hc
        refine vs_aload_n hC hl 0 dX3_keepsAll_67 rfl rfl ?_
        refine vs_get hC hW 0 rfl rfl vs_inX3 9 (by decide) vf_X3_35 rfl dX3_keepsAll_68 ?_
        refine vs_iload_n hC hl 1 dX3_keepsAll_71 rfl rfl ?_
        obtain ⟨hq, hw⟩ := hw
        have hr11 := hq
        refine vs_aald2 (r := q) hC hW 8 rfl (by decide) hq dX3_keepsAll_72 ?_
        refine vs_iload_n hC hl 2 dX3_keepsAll_73 rfl rfl ?_
        refine vs_aload_n hC hl 0 dX3_keepsAll_74 rfl rfl ?_
        refine vs_get hC hW 0 rfl rfl vs_inX3 8 (by decide) vf_X3_32 rfl dX3_keepsAll_75 ?_
        refine vs_iload_n hC hl 1 dX3_keepsAll_78 rfl rfl ?_
        obtain ⟨hq, hw⟩ := hw
        have hr12 := hq
        refine vs_aald2 (r := r) hC hW 7 rfl (by decide) hq dX3_keepsAll_79 ?_
        refine vs_iload_n hC hl 2 dX3_keepsAll_80 rfl rfl ?_
        obtain ⟨hi, hw⟩ := hw
        refine vs_iald2 hC hW (25 + Int.toNat v5) (vs_rowat8 hr12) hi dX3_keepsAll_81 ?_
        obtain ⟨hi, hw⟩ := hw
        obtain ⟨S13, hS13⟩ : ∃ z : vs_St, z = vs_st S10 9 (3 * v5 + v9) (S10 8 (3 * v5 + v9)) := ⟨_, rfl⟩
        have hw := hw S13 hS13
        refine vs_iast (Wo' := vs_W3 g a r q S13 ++ wr) hC hW (425 + Int.toNat v5) (vs_rowat9 hr11) (by decide) hi (by rw [hS13]; exact vs_rowst9 hr11 hi) dX3_keepsAll_82 (fun H locs hW => ?_)
        refine vs_iinc (L' := [(0, .ref (a 0)), (1, .int (vs_I v5)), (2, .int (vs_I (v9 + 1)))]) hC hl 2 [1, 2, 0] dX3_keepsAll_83 rfl (by decide) rfl (fun ls hl => ?_)
        refine vs_goto hC 62 dX3_keepsAll_86 (by decide) ?_
        exact ih8 (v9 + 1, S13) hw _ _ _ hW (lv_sub hl [0, 1, 2] rfl)
  · have hw := hwf hc
    clear hwt hwf hc
    refine vs_aload_n hC hl 0 dX3_keepsAll_9 rfl rfl ?_
    refine vs_get hC hW 0 rfl rfl vs_inX3 4 (by decide) vf_X3_20 rfl dX3_keepsAll_10 ?_
    refine vs_iload_n hC hl 1 dX3_keepsAll_13 rfl rfl ?_
    refine vs_aload_n hC hl 0 dX3_keepsAll_14 rfl rfl ?_
    refine vs_get hC hW 0 rfl rfl vs_inX3 3 (by decide) vf_X3_17 rfl dX3_keepsAll_15 ?_
    refine vs_iload_n hC hl 1 dX3_keepsAll_18 rfl rfl ?_
    obtain ⟨hi, hw⟩ := hw
    refine vs_iald hC hW 3 rfl (by decide) hi dX3_keepsAll_19 ?_
    obtain ⟨hi, hw⟩ := hw
    obtain ⟨S14, hS14⟩ : ∃ z : vs_St, z = vs_st S3 4 v2 (S3 3 v2) := ⟨_, rfl⟩
    have hw := hw S14 hS14
    refine vs_iast (Wo' := vs_W3 g a r q S14 ++ wr) hC hW 4 rfl (by decide) hi (by rw [hS14]; rfl) dX3_keepsAll_20 (fun H locs hW => ?_)
    refine vs_aload_n hC hl 0 dX3_keepsAll_21 rfl rfl ?_
    refine vs_get hC hW 0 rfl rfl vs_inX3 6 (by decide) vf_X3_27 rfl dX3_keepsAll_22 ?_
    refine vs_iload_n hC hl 1 dX3_keepsAll_25 rfl rfl ?_
    refine vs_aload_n hC hl 0 dX3_keepsAll_26 rfl rfl ?_
    refine vs_get hC hW 0 rfl rfl vs_inX3 5 (by decide) vf_X3_23 rfl dX3_keepsAll_27 ?_
    refine vs_iload_n hC hl 1 dX3_keepsAll_30 rfl rfl ?_
    obtain ⟨hi, hw⟩ := hw
    refine vs_zald hC hW 5 rfl (by decide) hi dX3_keepsAll_31 ?_
    obtain ⟨hi, hw⟩ := hw
    obtain ⟨hy, hw⟩ := hw
    obtain ⟨S15, hS15⟩ : ∃ z : vs_St, z = vs_st S14 6 v2 (S14 5 v2) := ⟨_, rfl⟩
    have hw := hw S15 hS15
    refine vs_zast (Wo' := vs_W3 g a r q S15 ++ wr) hC hW 6 rfl (by decide) hi hy (by rw [hS15]; rfl) dX3_keepsAll_32 (fun H locs hW => ?_)
    refine vs_iinc (L' := [(0, .ref (a 0)), (1, .int (vs_I (v2 + 1)))]) hC hl 1 [1, 0] dX3_keepsAll_33 rfl (by decide) rfl (fun ls hl => ?_)
    refine vs_goto hC 2 dX3_keepsAll_36 (by decide) ?_
    exact ih1 (v2 + 1, S15) hw _ _ _ hW (lv_sub hl [0, 1] rfl)
set_option maxHeartbeats 4000000 in
set_option maxRecDepth 100000 in
theorem c_X3_laysBack (l : Launch) (g : vs_G) (a r q : Nat → Nat) (wr : va_W) (S : vs_St) (post : vs_St → Prop) (hw : wX3_laysBack S post) : vs_MV l yX3_laysBack (Cond.code yX3_laysBack cX3_laysBack 3 (none) :: vs_ws) { frames := 0, cells := 0, slots := 0, locals := 0 } g [.ref (a 0)] (vs_W3 g a r q S ++ wr) (fun (S' : vs_St) => vs_W3 g a r q S' ++ wr) post 0 0 := by
  refine vs_ofW (Qc := fun A => vs_QV g A (fun (S' : vs_St) => vs_W3 g a r q S' ++ wr) post) (by decide +kernel) (Nat.le_of_ble_eq_true rfl) (fun p e s m below meth c A ls hC hr hlk hW hl => ?_)
  have hC : CallFix p m c cX3_laysBack 3 s _ vs_ws RX3 := hC
  have hl : lv_has ls 3 [(0, .ref (a 0))] := hl
  unfold wX3_laysBack at hw
  refine vs_iconst hC dX3_laysBack_0 ?_
  refine vs_istore_n (L' := [(0, .ref (a 0)), (1, .int (vs_I 0))]) hC hl [1, 0] dX3_laysBack_1 rfl (by decide) rfl (fun ls hl => ?_)
  obtain ⟨J1, μ1, hJ, hB1⟩ := hw
  refine vs_loop (V := Int × vs_St) (J := fun v => J1 v.1 v.2) (μ := fun v => μ1 v.1 v.2) (fun v => vs_W3 g a r q v.2 ++ wr) (fun v => [(0, .ref (a 0)), (1, .int (vs_I v.1))]) (fun v hJ ih1 H locs ls hW hl => ?_) (0, S) hJ hW (lv_sub hl [0, 1] rfl)
  obtain ⟨v2, S3⟩ := v
  have hw := hB1 v2 S3 hJ
  have hW : vs_Wd g A _ (vs_W3 g a r q S3 ++ wr) _ _ s := hW
  have hl : lv_has ls 3 [(0, .ref (a 0)), (1, .int (vs_I v2))] := hl
  clear hJ
  unfold lX3_laysBack_2 at hw
  refine vs_iload_n hC hl 1 dX3_laysBack_2 rfl rfl ?_
  refine vs_sipush hC dX3_laysBack_3 (by decide +kernel) ?_
  obtain ⟨hx, hw⟩ := hw
  obtain ⟨hwt, hwf⟩ := hw
  refine vs_icmp_ge hC 39 hx ⟨by decide, by decide⟩ dX3_laysBack_6 (by decide) (fun hc => ?_) (fun hc => ?_)
  · have hw := hwt hc
    clear hwt hwf hc
    refine vs_iconst hC dX3_laysBack_39 ?_
    refine vs_istore_n (L' := [(0, .ref (a 0)), (1, .int (vs_I 0))]) hC hl [1, 0] dX3_laysBack_40 rfl (by decide) rfl (fun ls hl => ?_)
    obtain ⟨J4, μ4, hJ, hB4⟩ := hw
    refine vs_loop (V := Int × vs_St) (J := fun v => J4 v.1 v.2) (μ := fun v => μ4 v.1 v.2) (fun v => vs_W3 g a r q v.2 ++ wr) (fun v => [(0, .ref (a 0)), (1, .int (vs_I v.1))]) (fun v hJ ih4 H locs ls hW hl => ?_) (0, S3) hJ hW (lv_sub hl [0, 1] rfl)
    obtain ⟨v5, S6⟩ := v
    have hw := hB4 v5 S6 hJ
    have hW : vs_Wd g A _ (vs_W3 g a r q S6 ++ wr) _ _ s := hW
    have hl : lv_has ls 3 [(0, .ref (a 0)), (1, .int (vs_I v5))] := hl
    clear hJ
    unfold lX3_laysBack_41 at hw
    refine vs_iload_n hC hl 1 dX3_laysBack_41 rfl rfl ?_
    refine vs_sipush hC dX3_laysBack_42 (by decide +kernel) ?_
    obtain ⟨hx, hw⟩ := hw
    obtain ⟨hwt, hwf⟩ := hw
    refine vs_icmp_ge hC 95 hx ⟨by decide, by decide⟩ dX3_laysBack_45 (by decide) (fun hc => ?_) (fun hc => ?_)
    · have hw := hwt hc
      clear hwt hwf hc
      exact vs_vret (S6) hC hr hlk hW rfl hw (Nat.le_of_ble_eq_true rfl) (Nat.le_of_ble_eq_true rfl) dX3_laysBack_95
    · have hw := hwf hc
      clear hwt hwf hc
      refine vs_aload_n hC hl 0 dX3_laysBack_48 rfl rfl ?_
      refine vs_get hC hW 0 rfl rfl vs_inX3 10 (by decide) vf_X3_38 rfl dX3_laysBack_49 ?_
      refine vs_iload_n hC hl 1 dX3_laysBack_52 rfl rfl ?_
      refine vs_aload_n hC hl 0 dX3_laysBack_53 rfl rfl ?_
      refine vs_get hC hW 0 rfl rfl vs_inX3 11 (by decide) vf_X3_41 rfl dX3_laysBack_54 ?_
      refine vs_iload_n hC hl 1 dX3_laysBack_57 rfl rfl ?_
      obtain ⟨hi, hw⟩ := hw
      refine vs_iald hC hW 10 rfl (by decide) hi dX3_laysBack_58 ?_
      obtain ⟨hi, hw⟩ := hw
      obtain ⟨S7, hS7⟩ : ∃ z : vs_St, z = vs_st S6 10 v5 (S6 11 v5) := ⟨_, rfl⟩
      have hw := hw S7 hS7
      refine vs_iast (Wo' := vs_W3 g a r q S7 ++ wr) hC hW 9 rfl (by decide) hi (by rw [hS7]; rfl) dX3_laysBack_59 (fun H locs hW => ?_)
      refine vs_iconst hC dX3_laysBack_60 ?_
      refine vs_istore_n (L' := [(0, .ref (a 0)), (1, .int (vs_I v5)), (2, .int (vs_I 0))]) hC hl [1, 2, 0] dX3_laysBack_61 rfl (by decide) rfl (fun ls hl => ?_)
      obtain ⟨J8, μ8, hJ, hB8⟩ := hw
      refine vs_loop (V := Int × vs_St) (J := fun v => J8 v.1 v.2) (μ := fun v => μ8 v.1 v.2) (fun v => vs_W3 g a r q v.2 ++ wr) (fun v => [(0, .ref (a 0)), (1, .int (vs_I v5)), (2, .int (vs_I v.1))]) (fun v hJ ih8 H locs ls hW hl => ?_) (0, S7) hJ hW (lv_sub hl [0, 1, 2] rfl)
      obtain ⟨v9, S10⟩ := v
      have hw := hB8 v9 S10 hJ
      have hW : vs_Wd g A _ (vs_W3 g a r q S10 ++ wr) _ _ s := hW
      have hl : lv_has ls 3 [(0, .ref (a 0)), (1, .int (vs_I v5)), (2, .int (vs_I v9))] := hl
      clear hJ
      unfold lX3_laysBack_62 at hw
      refine vs_iload_n hC hl 2 dX3_laysBack_62 rfl rfl ?_
      refine vs_iconst hC dX3_laysBack_63 ?_
      obtain ⟨hx, hw⟩ := hw
      obtain ⟨hwt, hwf⟩ := hw
      refine vs_icmp_ge hC 89 hx ⟨by decide, by decide⟩ dX3_laysBack_64 (by decide) (fun hc => ?_) (fun hc => ?_)
      · have hw := hwt hc
        clear hwt hwf hc
        refine vs_iinc (L' := [(0, .ref (a 0)), (1, .int (vs_I (v5 + 1))), (2, .int (vs_I v9))]) hC hl 1 [1, 0, 2] dX3_laysBack_89 rfl (by decide) rfl (fun ls hl => ?_)
        refine vs_goto hC 41 dX3_laysBack_92 (by decide) ?_
        exact ih4 (v5 + 1, S10) hw _ _ _ hW (lv_sub hl [0, 1] rfl)
      · have hw := hwf hc
        clear hwt hwf hc
        refine vs_aload_n hC hl 0 dX3_laysBack_67 rfl rfl ?_
        refine vs_get hC hW 0 rfl rfl vs_inX3 8 (by decide) vf_X3_32 rfl dX3_laysBack_68 ?_
        refine vs_iload_n hC hl 1 dX3_laysBack_71 rfl rfl ?_
        obtain ⟨hq, hw⟩ := hw
        have hr11 := hq
        refine vs_aald2 (r := r) hC hW 7 rfl (by decide) hq dX3_laysBack_72 ?_
        refine vs_iload_n hC hl 2 dX3_laysBack_73 rfl rfl ?_
        refine vs_aload_n hC hl 0 dX3_laysBack_74 rfl rfl ?_
        refine vs_get hC hW 0 rfl rfl vs_inX3 9 (by decide) vf_X3_35 rfl dX3_laysBack_75 ?_
        refine vs_iload_n hC hl 1 dX3_laysBack_78 rfl rfl ?_
        obtain ⟨hq, hw⟩ := hw
        have hr12 := hq
        refine vs_aald2 (r := q) hC hW 8 rfl (by decide) hq dX3_laysBack_79 ?_
        refine vs_iload_n hC hl 2 dX3_laysBack_80 rfl rfl ?_
        obtain ⟨hi, hw⟩ := hw
        refine vs_iald2 hC hW (425 + Int.toNat v5) (vs_rowat9 hr12) hi dX3_laysBack_81 ?_
        obtain ⟨hi, hw⟩ := hw
        obtain ⟨S13, hS13⟩ : ∃ z : vs_St, z = vs_st S10 8 (3 * v5 + v9) (S10 9 (3 * v5 + v9)) := ⟨_, rfl⟩
        have hw := hw S13 hS13
        refine vs_iast (Wo' := vs_W3 g a r q S13 ++ wr) hC hW (25 + Int.toNat v5) (vs_rowat8 hr11) (by decide) hi (by rw [hS13]; exact vs_rowst8 hr11 hi) dX3_laysBack_82 (fun H locs hW => ?_)
        refine vs_iinc (L' := [(0, .ref (a 0)), (1, .int (vs_I v5)), (2, .int (vs_I (v9 + 1)))]) hC hl 2 [1, 2, 0] dX3_laysBack_83 rfl (by decide) rfl (fun ls hl => ?_)
        refine vs_goto hC 62 dX3_laysBack_86 (by decide) ?_
        exact ih8 (v9 + 1, S13) hw _ _ _ hW (lv_sub hl [0, 1, 2] rfl)
  · have hw := hwf hc
    clear hwt hwf hc
    refine vs_aload_n hC hl 0 dX3_laysBack_9 rfl rfl ?_
    refine vs_get hC hW 0 rfl rfl vs_inX3 3 (by decide) vf_X3_17 rfl dX3_laysBack_10 ?_
    refine vs_iload_n hC hl 1 dX3_laysBack_13 rfl rfl ?_
    refine vs_aload_n hC hl 0 dX3_laysBack_14 rfl rfl ?_
    refine vs_get hC hW 0 rfl rfl vs_inX3 4 (by decide) vf_X3_20 rfl dX3_laysBack_15 ?_
    refine vs_iload_n hC hl 1 dX3_laysBack_18 rfl rfl ?_
    obtain ⟨hi, hw⟩ := hw
    refine vs_iald hC hW 4 rfl (by decide) hi dX3_laysBack_19 ?_
    obtain ⟨hi, hw⟩ := hw
    obtain ⟨S14, hS14⟩ : ∃ z : vs_St, z = vs_st S3 3 v2 (S3 4 v2) := ⟨_, rfl⟩
    have hw := hw S14 hS14
    refine vs_iast (Wo' := vs_W3 g a r q S14 ++ wr) hC hW 3 rfl (by decide) hi (by rw [hS14]; rfl) dX3_laysBack_20 (fun H locs hW => ?_)
    refine vs_aload_n hC hl 0 dX3_laysBack_21 rfl rfl ?_
    refine vs_get hC hW 0 rfl rfl vs_inX3 5 (by decide) vf_X3_23 rfl dX3_laysBack_22 ?_
    refine vs_iload_n hC hl 1 dX3_laysBack_25 rfl rfl ?_
    refine vs_aload_n hC hl 0 dX3_laysBack_26 rfl rfl ?_
    refine vs_get hC hW 0 rfl rfl vs_inX3 6 (by decide) vf_X3_27 rfl dX3_laysBack_27 ?_
    refine vs_iload_n hC hl 1 dX3_laysBack_30 rfl rfl ?_
    obtain ⟨hi, hw⟩ := hw
    refine vs_zald hC hW 6 rfl (by decide) hi dX3_laysBack_31 ?_
    obtain ⟨hi, hw⟩ := hw
    obtain ⟨hy, hw⟩ := hw
    obtain ⟨S15, hS15⟩ : ∃ z : vs_St, z = vs_st S14 5 v2 (S14 6 v2) := ⟨_, rfl⟩
    have hw := hw S15 hS15
    refine vs_zast (Wo' := vs_W3 g a r q S15 ++ wr) hC hW 5 rfl (by decide) hi hy (by rw [hS15]; rfl) dX3_laysBack_32 (fun H locs hW => ?_)
    refine vs_iinc (L' := [(0, .ref (a 0)), (1, .int (vs_I (v2 + 1)))]) hC hl 1 [1, 0] dX3_laysBack_33 rfl (by decide) rfl (fun ls hl => ?_)
    refine vs_goto hC 2 dX3_laysBack_36 (by decide) ?_
    exact ih1 (v2 + 1, S15) hw _ _ _ hW (lv_sub hl [0, 1] rfl)
set_option maxHeartbeats 4000000 in
set_option maxRecDepth 100000 in
theorem c_X3_addDisk (l : Launch) (g : vs_G) (a r q : Nat → Nat) (wr : va_W) (S : vs_St) (x1 : Int) (post : Int → vs_St → Prop) (hw : wX3_addDisk S x1 post) : vs_MI l yX3_addDisk (Cond.code yX3_addDisk cX3_addDisk 3 (some .int) :: vs_ws) { frames := 1, cells := 0, slots := 0, locals := 22 } g [.ref (a 0), .int (vs_I x1)] (vs_W3 g a r q S ++ wr) (fun (S' : vs_St) => vs_W3 g a r q S' ++ wr) post 0 0 := by
  refine vs_ofW (Qc := fun A => vs_QI g A (fun (S' : vs_St) => vs_W3 g a r q S' ++ wr) post) (by decide +kernel) (Nat.le_of_ble_eq_true rfl) (fun p e s m below meth c A ls hC hr hlk hW hl => ?_)
  have hC : CallFix p m c cX3_addDisk 3 s _ vs_ws RX3 := hC
  have hl : lv_has ls 3 [(0, .ref (a 0)), (1, .int (vs_I x1))] := hl
  unfold wX3_addDisk at hw
  refine vs_aload_n hC hl 0 dX3_addDisk_0 rfl rfl ?_
  refine vs_iconst hC dX3_addDisk_1 ?_
  obtain ⟨S1, hS1⟩ : ∃ z : vs_St, z = vs_st S 0 0 0 := ⟨_, rfl⟩
  have hw := hw S1 hS1
  refine vs_put (Wo' := vs_W3 g a r q S1 ++ wr) hC hW 0 rfl rfl vs_inX3 tyX3_ok nmX3 0 (by decide) vf_X3_96 rfl rfl (Nat.le_of_ble_eq_true rfl) (by rw [hS1]; rfl) dX3_addDisk_2 (fun H locs hW => ?_)
  refine vs_iload_n hC hl 1 dX3_addDisk_5 rfl rfl ?_
  refine vs_iconst hC dX3_addDisk_6 ?_
  refine vs_bipush hC dX3_addDisk_7 (by decide +kernel) ?_
  refine vs_callSI [.int (vs_I x1), .int (vs_I 1), .int (vs_I 32)] hC hW vk_X3_isBetween vm_X3_102 (c_X3_isBetween l g (vs_W3 g a r q S1 ++ wr) x1 1 32 _ hw) rfl hl.1 rfl ⟨rfl, rfl⟩ ⟨Nat.le_of_ble_eq_true rfl, Nat.le_of_ble_eq_true rfl⟩ ⟨Nat.le_of_ble_eq_true rfl, Nat.le_of_ble_eq_true rfl⟩ (Nat.le_of_ble_eq_true rfl) dX3_addDisk_9 (fun r2 _ H locs hw hW => ?_)
  have hW : vs_Wd g A _ (vs_W3 g a r q S1 ++ wr) _ _ s := hW
  obtain ⟨hx, hw⟩ := hw
  obtain ⟨hwt, hwf⟩ := hw
  refine vs_if_ne hC 21 hx dX3_addDisk_12 (by decide) (fun hc => ?_) (fun hc => ?_)
  · have hw := hwt hc
    clear hwt hwf hc
    refine vs_aload_n hC hl 0 dX3_addDisk_21 rfl rfl ?_
    refine vs_get hC hW 0 rfl rfl vs_inX3 7 (by decide) vf_X3_99 rfl dX3_addDisk_22 ?_
    refine vs_bipush hC dX3_addDisk_25 (by decide +kernel) ?_
    obtain ⟨hx, hw⟩ := hw
    obtain ⟨hwt, hwf⟩ := hw
    refine vs_icmp_ne hC 36 hx ⟨by decide, by decide⟩ dX3_addDisk_27 (by decide) (fun hc => ?_) (fun hc => ?_)
    · have hw := hwt hc
      clear hwt hwf hc
      refine vs_aload_n hC hl 0 dX3_addDisk_36 rfl rfl ?_
      refine vs_get hC hW 0 rfl rfl vs_inX3 1 (by decide) vf_X3_9 rfl dX3_addDisk_37 ?_
      refine vs_aload_n hC hl 0 dX3_addDisk_40 rfl rfl ?_
      refine vs_get hC hW 0 rfl rfl vs_inX3 7 (by decide) vf_X3_99 rfl dX3_addDisk_41 ?_
      refine vs_iload_n hC hl 1 dX3_addDisk_44 rfl rfl ?_
      obtain ⟨hi, hw⟩ := hw
      obtain ⟨S3, hS3⟩ : ∃ z : vs_St, z = vs_st S1 1 (S1 7 0) x1 := ⟨_, rfl⟩
      have hw := hw S3 hS3
      refine vs_iast (Wo' := vs_W3 g a r q S3 ++ wr) hC hW 1 rfl (by decide) hi (by rw [hS3]; rfl) dX3_addDisk_45 (fun H locs hW => ?_)
      refine vs_aload_n hC hl 0 dX3_addDisk_46 rfl rfl ?_
      refine vs_get hC hW 0 rfl rfl vs_inX3 2 (by decide) vf_X3_13 rfl dX3_addDisk_47 ?_
      refine vs_aload_n hC hl 0 dX3_addDisk_50 rfl rfl ?_
      refine vs_get hC hW 0 rfl rfl vs_inX3 7 (by decide) vf_X3_99 rfl dX3_addDisk_51 ?_
      refine vs_bipush hC dX3_addDisk_54 (by decide +kernel) ?_
      obtain ⟨hi, hw⟩ := hw
      obtain ⟨S4, hS4⟩ : ∃ z : vs_St, z = vs_st S3 2 (S3 7 0) 115 := ⟨_, rfl⟩
      have hw := hw S4 hS4
      refine vs_cast (Wo' := vs_W3 g a r q S4 ++ wr) hC hW 2 rfl (by decide) hi (by decide) (by rw [hS4]; rfl) dX3_addDisk_56 (fun H locs hW => ?_)
      refine vs_iconst hC dX3_addDisk_57 ?_
      refine vs_istore_n (L' := [(0, .ref (a 0)), (1, .int (vs_I x1)), (2, .int (vs_I 0))]) hC hl [1, 2, 0] dX3_addDisk_58 rfl (by decide) rfl (fun ls hl => ?_)
      obtain ⟨J5, μ5, hJ, hB5⟩ := hw
      refine vs_loop (V := Int × vs_St) (J := fun v => J5 v.1 v.2) (μ := fun v => μ5 v.1 v.2) (fun v => vs_W3 g a r q v.2 ++ wr) (fun v => [(0, .ref (a 0)), (2, .int (vs_I v.1))]) (fun v hJ ih5 H locs ls hW hl => ?_) (0, S4) hJ hW (lv_sub hl [0, 2] rfl)
      obtain ⟨v6, S7⟩ := v
      have hw := hB5 v6 S7 hJ
      have hW : vs_Wd g A _ (vs_W3 g a r q S7 ++ wr) _ _ s := hW
      have hl : lv_has ls 3 [(0, .ref (a 0)), (2, .int (vs_I v6))] := hl
      clear hJ
      unfold lX3_addDisk_59 at hw
      refine vs_iload_n hC hl 1 dX3_addDisk_59 rfl rfl ?_
      refine vs_bipush hC dX3_addDisk_60 (by decide +kernel) ?_
      obtain ⟨hx, hw⟩ := hw
      obtain ⟨hwt, hwf⟩ := hw
      refine vs_icmp_ge hC 86 hx ⟨by decide, by decide⟩ dX3_addDisk_62 (by decide) (fun hc => ?_) (fun hc => ?_)
      · have hw := hwt hc
        clear hwt hwf hc
        refine vs_aload_n hC hl 0 dX3_addDisk_86 rfl rfl ?_
        refine vs_dup hC dX3_addDisk_87 rfl ?_
        refine vs_get hC hW 0 rfl rfl vs_inX3 7 (by decide) vf_X3_99 rfl dX3_addDisk_88 ?_
        refine vs_iconst hC dX3_addDisk_91 ?_
        refine vs_iadd hC dX3_addDisk_92 ?_
        obtain ⟨S8, hS8⟩ : ∃ z : vs_St, z = vs_st S7 7 0 ((S7 7 0) + 1) := ⟨_, rfl⟩
        have hw := hw S8 hS8
        refine vs_put (Wo' := vs_W3 g a r q S8 ++ wr) hC hW 0 rfl rfl vs_inX3 tyX3_ok nmX3 7 (by decide) vf_X3_99 rfl rfl (Nat.le_of_ble_eq_true rfl) (by rw [hS8]; rfl) dX3_addDisk_93 (fun H locs hW => ?_)
        refine vs_aload_n hC hl 0 dX3_addDisk_96 rfl rfl ?_
        refine vs_get hC hW 0 rfl rfl vs_inX3 7 (by decide) vf_X3_99 rfl dX3_addDisk_97 ?_
        refine vs_iconst hC dX3_addDisk_100 ?_
        refine vs_isub hC dX3_addDisk_101 ?_
        exact vs_iret (S8) hC hr hlk hW rfl hw (Nat.le_of_ble_eq_true rfl) (Nat.le_of_ble_eq_true rfl) dX3_addDisk_102
      · have hw := hwf hc
        clear hwt hwf hc
        refine vs_aload_n hC hl 0 dX3_addDisk_65 rfl rfl ?_
        refine vs_get hC hW 0 rfl rfl vs_inX3 3 (by decide) vf_X3_17 rfl dX3_addDisk_66 ?_
        refine vs_bipush hC dX3_addDisk_69 (by decide +kernel) ?_
        refine vs_aload_n hC hl 0 dX3_addDisk_71 rfl rfl ?_
        refine vs_get hC hW 0 rfl rfl vs_inX3 7 (by decide) vf_X3_99 rfl dX3_addDisk_72 ?_
        refine vs_imul hC dX3_addDisk_75 ?_
        refine vs_iload_n hC hl 1 dX3_addDisk_76 rfl rfl ?_
        refine vs_iadd hC dX3_addDisk_77 ?_
        refine vs_iconst hC dX3_addDisk_78 ?_
        obtain ⟨hi, hw⟩ := hw
        obtain ⟨S9, hS9⟩ : ∃ z : vs_St, z = vs_st S7 3 ((32 * (S7 7 0)) + v6) (-1) := ⟨_, rfl⟩
        have hw := hw S9 hS9
        refine vs_iast (Wo' := vs_W3 g a r q S9 ++ wr) hC hW 3 rfl (by decide) hi (by rw [hS9]; rfl) dX3_addDisk_79 (fun H locs hW => ?_)
        refine vs_iinc (L' := [(0, .ref (a 0)), (2, .int (vs_I (v6 + 1)))]) hC hl 1 [1, 0] dX3_addDisk_80 rfl (by decide) rfl (fun ls hl => ?_)
        refine vs_goto hC 59 dX3_addDisk_83 (by decide) ?_
        exact ih5 (v6 + 1, S9) hw _ _ _ hW (lv_sub hl [0, 1] rfl)
    · have hw := hwf hc
      clear hwt hwf hc
      refine vs_aload_n hC hl 0 dX3_addDisk_30 rfl rfl ?_
      refine vs_iconst hC dX3_addDisk_31 ?_
      refine vs_callVI [.int (vs_I 2)] hC hW 0 rfl rfl vk_X3_fails vm_X3_123 (c_X3_fails l g a r q (wr) S1 2 _ hw) rfl hl.1 rfl ⟨rfl, rfl⟩ ⟨Nat.le_of_ble_eq_true rfl, Nat.le_of_ble_eq_true rfl⟩ ⟨Nat.le_of_ble_eq_true rfl, Nat.le_of_ble_eq_true rfl⟩ (Nat.le_of_ble_eq_true rfl) dX3_addDisk_32 (fun r10 S11 H locs hw hW => ?_)
      have hW : vs_Wd g A _ (vs_W3 g a r q S11 ++ wr) _ _ s := hW
      exact vs_iret (S11) hC hr hlk hW rfl hw (Nat.le_of_ble_eq_true rfl) (Nat.le_of_ble_eq_true rfl) dX3_addDisk_35
  · have hw := hwf hc
    clear hwt hwf hc
    refine vs_aload_n hC hl 0 dX3_addDisk_15 rfl rfl ?_
    refine vs_iconst hC dX3_addDisk_16 ?_
    refine vs_callVI [.int (vs_I 1)] hC hW 0 rfl rfl vk_X3_fails vm_X3_123 (c_X3_fails l g a r q (wr) S1 1 _ hw) rfl hl.1 rfl ⟨rfl, rfl⟩ ⟨Nat.le_of_ble_eq_true rfl, Nat.le_of_ble_eq_true rfl⟩ ⟨Nat.le_of_ble_eq_true rfl, Nat.le_of_ble_eq_true rfl⟩ (Nat.le_of_ble_eq_true rfl) dX3_addDisk_17 (fun r12 S13 H locs hw hW => ?_)
    have hW : vs_Wd g A _ (vs_W3 g a r q S13 ++ wr) _ _ s := hW
    exact vs_iret (S13) hC hr hlk hW rfl hw (Nat.le_of_ble_eq_true rfl) (Nat.le_of_ble_eq_true rfl) dX3_addDisk_20
set_option maxHeartbeats 4000000 in
set_option maxRecDepth 100000 in
theorem c_X3_diskCount (l : Launch) (g : vs_G) (a r q : Nat → Nat) (wr : va_W) (S : vs_St) (post : Int → vs_St → Prop) (hw : wX3_diskCount S post) : vs_MI l yX3_diskCount (Cond.code yX3_diskCount cX3_diskCount 1 (some .int) :: vs_ws) { frames := 0, cells := 0, slots := 0, locals := 0 } g [.ref (a 0)] (vs_W3 g a r q S ++ wr) (fun (S' : vs_St) => vs_W3 g a r q S' ++ wr) post 0 0 := by
  refine vs_ofW (Qc := fun A => vs_QI g A (fun (S' : vs_St) => vs_W3 g a r q S' ++ wr) post) (by decide +kernel) (Nat.le_of_ble_eq_true rfl) (fun p e s m below meth c A ls hC hr hlk hW hl => ?_)
  have hC : CallFix p m c cX3_diskCount 1 s _ vs_ws RX3 := hC
  have hl : lv_has ls 1 [(0, .ref (a 0))] := hl
  unfold wX3_diskCount at hw
  refine vs_aload_n hC hl 0 dX3_diskCount_0 rfl rfl ?_
  refine vs_iconst hC dX3_diskCount_1 ?_
  obtain ⟨S1, hS1⟩ : ∃ z : vs_St, z = vs_st S 0 0 0 := ⟨_, rfl⟩
  have hw := hw S1 hS1
  refine vs_put (Wo' := vs_W3 g a r q S1 ++ wr) hC hW 0 rfl rfl vs_inX3 tyX3_ok nmX3 0 (by decide) vf_X3_96 rfl rfl (Nat.le_of_ble_eq_true rfl) (by rw [hS1]; rfl) dX3_diskCount_2 (fun H locs hW => ?_)
  refine vs_aload_n hC hl 0 dX3_diskCount_5 rfl rfl ?_
  refine vs_get hC hW 0 rfl rfl vs_inX3 7 (by decide) vf_X3_99 rfl dX3_diskCount_6 ?_
  exact vs_iret (S1) hC hr hlk hW rfl hw (Nat.le_of_ble_eq_true rfl) (Nat.le_of_ble_eq_true rfl) dX3_diskCount_9
set_option maxHeartbeats 4000000 in
set_option maxRecDepth 100000 in
theorem c_X3_isNoDisk (l : Launch) (g : vs_G) (a r q : Nat → Nat) (wr : va_W) (S : vs_St) (x1 : Int) (post : Int → vs_St → Prop) (hw : wX3_isNoDisk S x1 post) : vs_MI l yX3_isNoDisk (Cond.code yX3_isNoDisk cX3_isNoDisk 2 (some .boolean) :: vs_ws) { frames := 2, cells := 0, slots := 0, locals := 43 } g [.ref (a 0), .int (vs_I x1)] (vs_W3 g a r q S ++ wr) (fun (S' : vs_St) => vs_W3 g a r q S' ++ wr) post 0 0 := by
  refine vs_ofW (Qc := fun A => vs_QI g A (fun (S' : vs_St) => vs_W3 g a r q S' ++ wr) post) (by decide +kernel) (Nat.le_of_ble_eq_true rfl) (fun p e s m below meth c A ls hC hr hlk hW hl => ?_)
  have hC : CallFix p m c cX3_isNoDisk 2 s _ vs_ws RX3 := hC
  have hl : lv_has ls 2 [(0, .ref (a 0)), (1, .int (vs_I x1))] := hl
  unfold wX3_isNoDisk at hw
  refine vs_aload_n hC hl 0 dX3_isNoDisk_0 rfl rfl ?_
  refine vs_aload_n hC hl 0 dX3_isNoDisk_1 rfl rfl ?_
  refine vs_iload_n hC hl 1 dX3_isNoDisk_2 rfl rfl ?_
  refine vs_callVI [.int (vs_I x1)] hC hW 0 rfl rfl vk_X3_isDisk vm_X3_126 (c_X3_isDisk l g a r q (wr) S x1 _ hw) rfl hl.1 rfl ⟨rfl, rfl⟩ ⟨Nat.le_of_ble_eq_true rfl, Nat.le_of_ble_eq_true rfl⟩ ⟨Nat.le_of_ble_eq_true rfl, Nat.le_of_ble_eq_true rfl⟩ (Nat.le_of_ble_eq_true rfl) dX3_isNoDisk_3 (fun r1 _ H locs hw hW => ?_)
  have hW : vs_Wd g A _ (vs_W3 g a r q S ++ wr) _ _ s := hW
  obtain ⟨hx, hw⟩ := hw
  obtain ⟨hwt, hwf⟩ := hw
  refine vs_if_eq hC 13 hx dX3_isNoDisk_6 (by decide) (fun hc => ?_) (fun hc => ?_)
  · have hw := hwt hc
    clear hwt hwf hc
    refine vs_iconst hC dX3_isNoDisk_13 ?_
    obtain ⟨S2, hS2⟩ : ∃ z : vs_St, z = vs_st S 0 0 1 := ⟨_, rfl⟩
    have hw := hw S2 hS2
    refine vs_put (Wo' := vs_W3 g a r q S2 ++ wr) hC hW 0 rfl rfl vs_inX3 tyX3_ok nmX3 0 (by decide) vf_X3_96 rfl rfl (Nat.le_of_ble_eq_true rfl) (by rw [hS2]; rfl) dX3_isNoDisk_14 (fun H locs hW => ?_)
    refine vs_aload_n hC hl 0 dX3_isNoDisk_17 rfl rfl ?_
    refine vs_get hC hW 0 rfl rfl vs_inX3 0 (by decide) vf_X3_96 rfl dX3_isNoDisk_18 ?_
    obtain ⟨hx, hw⟩ := hw
    obtain ⟨hwt, hwf⟩ := hw
    refine vs_if_le hC 28 hx dX3_isNoDisk_21 (by decide) (fun hc => ?_) (fun hc => ?_)
    · have hw := hwt hc
      clear hwt hwf hc
      refine vs_iconst hC dX3_isNoDisk_28 ?_
      exact vs_zret (S2) hC hr hlk hW rfl ⟨Or.inl rfl, hw⟩ (Nat.le_of_ble_eq_true rfl) (Nat.le_of_ble_eq_true rfl) dX3_isNoDisk_29
    · have hw := hwf hc
      clear hwt hwf hc
      refine vs_iconst hC dX3_isNoDisk_24 ?_
      refine vs_goto hC 29 dX3_isNoDisk_25 (by decide) ?_
      exact vs_zret (S2) hC hr hlk hW rfl ⟨Or.inr rfl, hw⟩ (Nat.le_of_ble_eq_true rfl) (Nat.le_of_ble_eq_true rfl) dX3_isNoDisk_29
  · have hw := hwf hc
    clear hwt hwf hc
    refine vs_iconst hC dX3_isNoDisk_9 ?_
    refine vs_goto hC 14 dX3_isNoDisk_10 (by decide) ?_
    obtain ⟨S3, hS3⟩ : ∃ z : vs_St, z = vs_st S 0 0 0 := ⟨_, rfl⟩
    have hw := hw S3 hS3
    refine vs_put (Wo' := vs_W3 g a r q S3 ++ wr) hC hW 0 rfl rfl vs_inX3 tyX3_ok nmX3 0 (by decide) vf_X3_96 rfl rfl (Nat.le_of_ble_eq_true rfl) (by rw [hS3]; rfl) dX3_isNoDisk_14 (fun H locs hW => ?_)
    refine vs_aload_n hC hl 0 dX3_isNoDisk_17 rfl rfl ?_
    refine vs_get hC hW 0 rfl rfl vs_inX3 0 (by decide) vf_X3_96 rfl dX3_isNoDisk_18 ?_
    obtain ⟨hx, hw⟩ := hw
    obtain ⟨hwt, hwf⟩ := hw
    refine vs_if_le hC 28 hx dX3_isNoDisk_21 (by decide) (fun hc => ?_) (fun hc => ?_)
    · have hw := hwt hc
      clear hwt hwf hc
      refine vs_iconst hC dX3_isNoDisk_28 ?_
      exact vs_zret (S3) hC hr hlk hW rfl ⟨Or.inl rfl, hw⟩ (Nat.le_of_ble_eq_true rfl) (Nat.le_of_ble_eq_true rfl) dX3_isNoDisk_29
    · have hw := hwf hc
      clear hwt hwf hc
      refine vs_iconst hC dX3_isNoDisk_24 ?_
      refine vs_goto hC 29 dX3_isNoDisk_25 (by decide) ?_
      exact vs_zret (S3) hC hr hlk hW rfl ⟨Or.inr rfl, hw⟩ (Nat.le_of_ble_eq_true rfl) (Nat.le_of_ble_eq_true rfl) dX3_isNoDisk_29
set_option maxHeartbeats 4000000 in
set_option maxRecDepth 100000 in
theorem c_X3_diskState (l : Launch) (g : vs_G) (a r q : Nat → Nat) (wr : va_W) (S : vs_St) (x1 : Int) (post : Int → vs_St → Prop) (hw : wX3_diskState S x1 post) : vs_MI l yX3_diskState (Cond.code yX3_diskState cX3_diskState 2 (some .char) :: vs_ws) { frames := 3, cells := 0, slots := 0, locals := 64 } g [.ref (a 0), .int (vs_I x1)] (vs_W3 g a r q S ++ wr) (fun (S' : vs_St) => vs_W3 g a r q S' ++ wr) post 0 0 := by
  refine vs_ofW (Qc := fun A => vs_QI g A (fun (S' : vs_St) => vs_W3 g a r q S' ++ wr) post) (by decide +kernel) (Nat.le_of_ble_eq_true rfl) (fun p e s m below meth c A ls hC hr hlk hW hl => ?_)
  have hC : CallFix p m c cX3_diskState 2 s _ vs_ws RX3 := hC
  have hl : lv_has ls 2 [(0, .ref (a 0)), (1, .int (vs_I x1))] := hl
  unfold wX3_diskState at hw
  refine vs_aload_n hC hl 0 dX3_diskState_0 rfl rfl ?_
  refine vs_iload_n hC hl 1 dX3_diskState_1 rfl rfl ?_
  refine vs_callVI [.int (vs_I x1)] hC hW 0 rfl rfl vk_X3_isNoDisk vm_X3_130 (c_X3_isNoDisk l g a r q (wr) S x1 _ hw) rfl hl.1 rfl ⟨rfl, rfl⟩ ⟨Nat.le_of_ble_eq_true rfl, Nat.le_of_ble_eq_true rfl⟩ ⟨Nat.le_of_ble_eq_true rfl, Nat.le_of_ble_eq_true rfl⟩ (Nat.le_of_ble_eq_true rfl) dX3_diskState_2 (fun r1 S2 H locs hw hW => ?_)
  have hW : vs_Wd g A _ (vs_W3 g a r q S2 ++ wr) _ _ s := hW
  obtain ⟨hx, hw⟩ := hw
  obtain ⟨hwt, hwf⟩ := hw
  refine vs_if_eq hC 12 hx dX3_diskState_5 (by decide) (fun hc => ?_) (fun hc => ?_)
  · have hw := hwt hc
    clear hwt hwf hc
    refine vs_aload_n hC hl 0 dX3_diskState_12 rfl rfl ?_
    refine vs_get hC hW 0 rfl rfl vs_inX3 2 (by decide) vf_X3_13 rfl dX3_diskState_13 ?_
    refine vs_iload_n hC hl 1 dX3_diskState_16 rfl rfl ?_
    obtain ⟨hi, hw⟩ := hw
    refine vs_cald hC hW 2 rfl (by decide) hi dX3_diskState_17 ?_
    exact vs_cret (S2) hC hr hlk hW rfl hw (Nat.le_of_ble_eq_true rfl) (Nat.le_of_ble_eq_true rfl) dX3_diskState_18
  · have hw := hwf hc
    clear hwt hwf hc
    refine vs_iconst hC dX3_diskState_8 ?_
    refine vs_goto hC 18 dX3_diskState_9 (by decide) ?_
    exact vs_cret (S2) hC hr hlk hW rfl ⟨⟨by decide, by decide⟩, hw⟩ (Nat.le_of_ble_eq_true rfl) (Nat.le_of_ble_eq_true rfl) dX3_diskState_18
set_option maxHeartbeats 4000000 in
set_option maxRecDepth 100000 in
theorem c_X3_usedOn (l : Launch) (g : vs_G) (a r q : Nat → Nat) (wr : va_W) (S : vs_St) (x1 : Int) (post : Int → vs_St → Prop) (hw : wX3_usedOn S x1 post) : vs_MI l yX3_usedOn (Cond.code yX3_usedOn cX3_usedOn 2 (some .int) :: vs_ws) { frames := 3, cells := 0, slots := 0, locals := 64 } g [.ref (a 0), .int (vs_I x1)] (vs_W3 g a r q S ++ wr) (fun (S' : vs_St) => vs_W3 g a r q S' ++ wr) post 0 0 := by
  refine vs_ofW (Qc := fun A => vs_QI g A (fun (S' : vs_St) => vs_W3 g a r q S' ++ wr) post) (by decide +kernel) (Nat.le_of_ble_eq_true rfl) (fun p e s m below meth c A ls hC hr hlk hW hl => ?_)
  have hC : CallFix p m c cX3_usedOn 2 s _ vs_ws RX3 := hC
  have hl : lv_has ls 2 [(0, .ref (a 0)), (1, .int (vs_I x1))] := hl
  unfold wX3_usedOn at hw
  refine vs_aload_n hC hl 0 dX3_usedOn_0 rfl rfl ?_
  refine vs_iload_n hC hl 1 dX3_usedOn_1 rfl rfl ?_
  refine vs_callVI [.int (vs_I x1)] hC hW 0 rfl rfl vk_X3_isNoDisk vm_X3_130 (c_X3_isNoDisk l g a r q (wr) S x1 _ hw) rfl hl.1 rfl ⟨rfl, rfl⟩ ⟨Nat.le_of_ble_eq_true rfl, Nat.le_of_ble_eq_true rfl⟩ ⟨Nat.le_of_ble_eq_true rfl, Nat.le_of_ble_eq_true rfl⟩ (Nat.le_of_ble_eq_true rfl) dX3_usedOn_2 (fun r1 S2 H locs hw hW => ?_)
  have hW : vs_Wd g A _ (vs_W3 g a r q S2 ++ wr) _ _ s := hW
  obtain ⟨hx, hw⟩ := hw
  obtain ⟨hwt, hwf⟩ := hw
  refine vs_if_eq hC 12 hx dX3_usedOn_5 (by decide) (fun hc => ?_) (fun hc => ?_)
  · have hw := hwt hc
    clear hwt hwf hc
    refine vs_aload_n hC hl 0 dX3_usedOn_12 rfl rfl ?_
    refine vs_iload_n hC hl 1 dX3_usedOn_13 rfl rfl ?_
    refine vs_callVI [.int (vs_I x1)] hC hW 0 rfl rfl vk_X3_usedOf vm_X3_112 (c_X3_usedOf l g a r q (wr) S2 x1 _ hw) rfl hl.1 rfl ⟨rfl, rfl⟩ ⟨Nat.le_of_ble_eq_true rfl, Nat.le_of_ble_eq_true rfl⟩ ⟨Nat.le_of_ble_eq_true rfl, Nat.le_of_ble_eq_true rfl⟩ (Nat.le_of_ble_eq_true rfl) dX3_usedOn_14 (fun r3 _ H locs hw hW => ?_)
    have hW : vs_Wd g A _ (vs_W3 g a r q S2 ++ wr) _ _ s := hW
    exact vs_iret (S2) hC hr hlk hW rfl hw (Nat.le_of_ble_eq_true rfl) (Nat.le_of_ble_eq_true rfl) dX3_usedOn_17
  · have hw := hwf hc
    clear hwt hwf hc
    refine vs_iconst hC dX3_usedOn_8 ?_
    refine vs_goto hC 17 dX3_usedOn_9 (by decide) ?_
    exact vs_iret (S2) hC hr hlk hW rfl hw (Nat.le_of_ble_eq_true rfl) (Nat.le_of_ble_eq_true rfl) dX3_usedOn_17
set_option maxHeartbeats 4000000 in
set_option maxRecDepth 100000 in
theorem c_X3_addTenant (l : Launch) (g : vs_G) (a r q : Nat → Nat) (wr : va_W) (S : vs_St) (x1 : Int) (x2 : Int) (post : Int → vs_St → Prop) (hw : wX3_addTenant S x1 x2 post) : vs_MI l yX3_addTenant (Cond.code yX3_addTenant cX3_addTenant 3 (some .int) :: vs_ws) { frames := 1, cells := 0, slots := 0, locals := 22 } g [.ref (a 0), .int (vs_I x1), .int (vs_I x2)] (vs_W3 g a r q S ++ wr) (fun (S' : vs_St) => vs_W3 g a r q S' ++ wr) post 0 0 := by
  refine vs_ofW (Qc := fun A => vs_QI g A (fun (S' : vs_St) => vs_W3 g a r q S' ++ wr) post) (by decide +kernel) (Nat.le_of_ble_eq_true rfl) (fun p e s m below meth c A ls hC hr hlk hW hl => ?_)
  have hC : CallFix p m c cX3_addTenant 3 s _ vs_ws RX3 := hC
  have hl : lv_has ls 3 [(0, .ref (a 0)), (1, .int (vs_I x1)), (2, .int (vs_I x2))] := hl
  unfold wX3_addTenant at hw
  refine vs_aload_n hC hl 0 dX3_addTenant_0 rfl rfl ?_
  refine vs_iconst hC dX3_addTenant_1 ?_
  obtain ⟨S1, hS1⟩ : ∃ z : vs_St, z = vs_st S 0 0 0 := ⟨_, rfl⟩
  have hw := hw S1 hS1
  refine vs_put (Wo' := vs_W3 g a r q S1 ++ wr) hC hW 0 rfl rfl vs_inX3 tyX3_ok nmX3 0 (by decide) vf_X3_96 rfl rfl (Nat.le_of_ble_eq_true rfl) (by rw [hS1]; rfl) dX3_addTenant_2 (fun H locs hW => ?_)
  refine vs_iload_n hC hl 1 dX3_addTenant_5 rfl rfl ?_
  refine vs_iconst hC dX3_addTenant_6 ?_
  refine vs_iconst hC dX3_addTenant_7 ?_
  refine vs_callSI [.int (vs_I x1), .int (vs_I 1), .int (vs_I 3)] hC hW vk_X3_isBetween vm_X3_102 (c_X3_isBetween l g (vs_W3 g a r q S1 ++ wr) x1 1 3 _ hw) rfl hl.1 rfl ⟨rfl, rfl⟩ ⟨Nat.le_of_ble_eq_true rfl, Nat.le_of_ble_eq_true rfl⟩ ⟨Nat.le_of_ble_eq_true rfl, Nat.le_of_ble_eq_true rfl⟩ (Nat.le_of_ble_eq_true rfl) dX3_addTenant_8 (fun r2 _ H locs hw hW => ?_)
  have hW : vs_Wd g A _ (vs_W3 g a r q S1 ++ wr) _ _ s := hW
  obtain ⟨hx, hw⟩ := hw
  obtain ⟨hwt, hwf⟩ := hw
  refine vs_if_eq hC 24 hx dX3_addTenant_11 (by decide) (fun hc => ?_) (fun hc => ?_)
  · have hw := hwt hc
    clear hwt hwf hc
    refine vs_aload_n hC hl 0 dX3_addTenant_24 rfl rfl ?_
    refine vs_iconst hC dX3_addTenant_25 ?_
    refine vs_callVI [.int (vs_I 1)] hC hW 0 rfl rfl vk_X3_fails vm_X3_123 (c_X3_fails l g a r q (wr) S1 1 _ hw) rfl hl.1 rfl ⟨rfl, rfl⟩ ⟨Nat.le_of_ble_eq_true rfl, Nat.le_of_ble_eq_true rfl⟩ ⟨Nat.le_of_ble_eq_true rfl, Nat.le_of_ble_eq_true rfl⟩ (Nat.le_of_ble_eq_true rfl) dX3_addTenant_26 (fun r3 S4 H locs hw hW => ?_)
    have hW : vs_Wd g A _ (vs_W3 g a r q S4 ++ wr) _ _ s := hW
    exact vs_iret (S4) hC hr hlk hW rfl hw (Nat.le_of_ble_eq_true rfl) (Nat.le_of_ble_eq_true rfl) dX3_addTenant_29
  · have hw := hwf hc
    clear hwt hwf hc
    refine vs_iload_n hC hl 2 dX3_addTenant_14 rfl rfl ?_
    refine vs_iconst hC dX3_addTenant_15 ?_
    refine vs_bipush hC dX3_addTenant_16 (by decide +kernel) ?_
    refine vs_callSI [.int (vs_I x2), .int (vs_I 0), .int (vs_I 20)] hC hW vk_X3_isBetween vm_X3_102 (c_X3_isBetween l g (vs_W3 g a r q S1 ++ wr) x2 0 20 _ hw) rfl hl.1 rfl ⟨rfl, rfl⟩ ⟨Nat.le_of_ble_eq_true rfl, Nat.le_of_ble_eq_true rfl⟩ ⟨Nat.le_of_ble_eq_true rfl, Nat.le_of_ble_eq_true rfl⟩ (Nat.le_of_ble_eq_true rfl) dX3_addTenant_18 (fun r5 _ H locs hw hW => ?_)
    have hW : vs_Wd g A _ (vs_W3 g a r q S1 ++ wr) _ _ s := hW
    obtain ⟨hx, hw⟩ := hw
    obtain ⟨hwt, hwf⟩ := hw
    refine vs_if_ne hC 30 hx dX3_addTenant_21 (by decide) (fun hc => ?_) (fun hc => ?_)
    · have hw := hwt hc
      clear hwt hwf hc
      refine vs_aload_n hC hl 0 dX3_addTenant_30 rfl rfl ?_
      refine vs_get hC hW 0 rfl rfl vs_inX3 27 (by decide) vf_X3_106 rfl dX3_addTenant_31 ?_
      refine vs_iconst hC dX3_addTenant_34 ?_
      obtain ⟨hx, hw⟩ := hw
      obtain ⟨hwt, hwf⟩ := hw
      refine vs_icmp_ne hC 44 hx ⟨by decide, by decide⟩ dX3_addTenant_35 (by decide) (fun hc => ?_) (fun hc => ?_)
      · have hw := hwt hc
        clear hwt hwf hc
        refine vs_aload_n hC hl 0 dX3_addTenant_44 rfl rfl ?_
        refine vs_get hC hW 0 rfl rfl vs_inX3 16 (by decide) vf_X3_53 rfl dX3_addTenant_45 ?_
        refine vs_aload_n hC hl 0 dX3_addTenant_48 rfl rfl ?_
        refine vs_get hC hW 0 rfl rfl vs_inX3 27 (by decide) vf_X3_106 rfl dX3_addTenant_49 ?_
        refine vs_iload_n hC hl 1 dX3_addTenant_52 rfl rfl ?_
        obtain ⟨hi, hw⟩ := hw
        obtain ⟨S6, hS6⟩ : ∃ z : vs_St, z = vs_st S1 16 (S1 27 0) x1 := ⟨_, rfl⟩
        have hw := hw S6 hS6
        refine vs_iast (Wo' := vs_W3 g a r q S6 ++ wr) hC hW 14 rfl (by decide) hi (by rw [hS6]; rfl) dX3_addTenant_53 (fun H locs hW => ?_)
        refine vs_aload_n hC hl 0 dX3_addTenant_54 rfl rfl ?_
        refine vs_get hC hW 0 rfl rfl vs_inX3 17 (by decide) vf_X3_56 rfl dX3_addTenant_55 ?_
        refine vs_aload_n hC hl 0 dX3_addTenant_58 rfl rfl ?_
        refine vs_get hC hW 0 rfl rfl vs_inX3 27 (by decide) vf_X3_106 rfl dX3_addTenant_59 ?_
        refine vs_iload_n hC hl 2 dX3_addTenant_62 rfl rfl ?_
        obtain ⟨hi, hw⟩ := hw
        obtain ⟨S7, hS7⟩ : ∃ z : vs_St, z = vs_st S6 17 (S6 27 0) x2 := ⟨_, rfl⟩
        have hw := hw S7 hS7
        refine vs_iast (Wo' := vs_W3 g a r q S7 ++ wr) hC hW 15 rfl (by decide) hi (by rw [hS7]; rfl) dX3_addTenant_63 (fun H locs hW => ?_)
        refine vs_aload_n hC hl 0 dX3_addTenant_64 rfl rfl ?_
        refine vs_dup hC dX3_addTenant_65 rfl ?_
        refine vs_get hC hW 0 rfl rfl vs_inX3 27 (by decide) vf_X3_106 rfl dX3_addTenant_66 ?_
        refine vs_iconst hC dX3_addTenant_69 ?_
        refine vs_iadd hC dX3_addTenant_70 ?_
        obtain ⟨S8, hS8⟩ : ∃ z : vs_St, z = vs_st S7 27 0 ((S7 27 0) + 1) := ⟨_, rfl⟩
        have hw := hw S8 hS8
        refine vs_put (Wo' := vs_W3 g a r q S8 ++ wr) hC hW 0 rfl rfl vs_inX3 tyX3_ok nmX3 27 (by decide) vf_X3_106 rfl rfl (Nat.le_of_ble_eq_true rfl) (by rw [hS8]; rfl) dX3_addTenant_71 (fun H locs hW => ?_)
        refine vs_aload_n hC hl 0 dX3_addTenant_74 rfl rfl ?_
        refine vs_get hC hW 0 rfl rfl vs_inX3 27 (by decide) vf_X3_106 rfl dX3_addTenant_75 ?_
        refine vs_iconst hC dX3_addTenant_78 ?_
        refine vs_isub hC dX3_addTenant_79 ?_
        exact vs_iret (S8) hC hr hlk hW rfl hw (Nat.le_of_ble_eq_true rfl) (Nat.le_of_ble_eq_true rfl) dX3_addTenant_80
      · have hw := hwf hc
        clear hwt hwf hc
        refine vs_aload_n hC hl 0 dX3_addTenant_38 rfl rfl ?_
        refine vs_iconst hC dX3_addTenant_39 ?_
        refine vs_callVI [.int (vs_I 2)] hC hW 0 rfl rfl vk_X3_fails vm_X3_123 (c_X3_fails l g a r q (wr) S1 2 _ hw) rfl hl.1 rfl ⟨rfl, rfl⟩ ⟨Nat.le_of_ble_eq_true rfl, Nat.le_of_ble_eq_true rfl⟩ ⟨Nat.le_of_ble_eq_true rfl, Nat.le_of_ble_eq_true rfl⟩ (Nat.le_of_ble_eq_true rfl) dX3_addTenant_40 (fun r9 S10 H locs hw hW => ?_)
        have hW : vs_Wd g A _ (vs_W3 g a r q S10 ++ wr) _ _ s := hW
        exact vs_iret (S10) hC hr hlk hW rfl hw (Nat.le_of_ble_eq_true rfl) (Nat.le_of_ble_eq_true rfl) dX3_addTenant_43
    · have hw := hwf hc
      clear hwt hwf hc
      refine vs_aload_n hC hl 0 dX3_addTenant_24 rfl rfl ?_
      refine vs_iconst hC dX3_addTenant_25 ?_
      refine vs_callVI [.int (vs_I 1)] hC hW 0 rfl rfl vk_X3_fails vm_X3_123 (c_X3_fails l g a r q (wr) S1 1 _ hw) rfl hl.1 rfl ⟨rfl, rfl⟩ ⟨Nat.le_of_ble_eq_true rfl, Nat.le_of_ble_eq_true rfl⟩ ⟨Nat.le_of_ble_eq_true rfl, Nat.le_of_ble_eq_true rfl⟩ (Nat.le_of_ble_eq_true rfl) dX3_addTenant_26 (fun r11 S12 H locs hw hW => ?_)
      have hW : vs_Wd g A _ (vs_W3 g a r q S12 ++ wr) _ _ s := hW
      exact vs_iret (S12) hC hr hlk hW rfl hw (Nat.le_of_ble_eq_true rfl) (Nat.le_of_ble_eq_true rfl) dX3_addTenant_29
set_option maxHeartbeats 4000000 in
set_option maxRecDepth 100000 in
theorem c_X3_tenantCount (l : Launch) (g : vs_G) (a r q : Nat → Nat) (wr : va_W) (S : vs_St) (post : Int → vs_St → Prop) (hw : wX3_tenantCount S post) : vs_MI l yX3_tenantCount (Cond.code yX3_tenantCount cX3_tenantCount 1 (some .int) :: vs_ws) { frames := 0, cells := 0, slots := 0, locals := 0 } g [.ref (a 0)] (vs_W3 g a r q S ++ wr) (fun (S' : vs_St) => vs_W3 g a r q S' ++ wr) post 0 0 := by
  refine vs_ofW (Qc := fun A => vs_QI g A (fun (S' : vs_St) => vs_W3 g a r q S' ++ wr) post) (by decide +kernel) (Nat.le_of_ble_eq_true rfl) (fun p e s m below meth c A ls hC hr hlk hW hl => ?_)
  have hC : CallFix p m c cX3_tenantCount 1 s _ vs_ws RX3 := hC
  have hl : lv_has ls 1 [(0, .ref (a 0))] := hl
  unfold wX3_tenantCount at hw
  refine vs_aload_n hC hl 0 dX3_tenantCount_0 rfl rfl ?_
  refine vs_iconst hC dX3_tenantCount_1 ?_
  obtain ⟨S1, hS1⟩ : ∃ z : vs_St, z = vs_st S 0 0 0 := ⟨_, rfl⟩
  have hw := hw S1 hS1
  refine vs_put (Wo' := vs_W3 g a r q S1 ++ wr) hC hW 0 rfl rfl vs_inX3 tyX3_ok nmX3 0 (by decide) vf_X3_96 rfl rfl (Nat.le_of_ble_eq_true rfl) (by rw [hS1]; rfl) dX3_tenantCount_2 (fun H locs hW => ?_)
  refine vs_aload_n hC hl 0 dX3_tenantCount_5 rfl rfl ?_
  refine vs_get hC hW 0 rfl rfl vs_inX3 27 (by decide) vf_X3_106 rfl dX3_tenantCount_6 ?_
  exact vs_iret (S1) hC hr hlk hW rfl hw (Nat.le_of_ble_eq_true rfl) (Nat.le_of_ble_eq_true rfl) dX3_tenantCount_9
set_option maxHeartbeats 4000000 in
set_option maxRecDepth 100000 in
theorem c_X3_setHurry (l : Launch) (g : vs_G) (a r q : Nat → Nat) (wr : va_W) (S : vs_St) (x1 : Int) (post : Int → vs_St → Prop) (hw : wX3_setHurry S x1 post) : vs_MI l yX3_setHurry (Cond.code yX3_setHurry cX3_setHurry 3 (some .int) :: vs_ws) { frames := 1, cells := 0, slots := 0, locals := 22 } g [.ref (a 0), .int (vs_I x1)] (vs_W3 g a r q S ++ wr) (fun (S' : vs_St) => vs_W3 g a r q S' ++ wr) post 0 0 := by
  refine vs_ofW (Qc := fun A => vs_QI g A (fun (S' : vs_St) => vs_W3 g a r q S' ++ wr) post) (by decide +kernel) (Nat.le_of_ble_eq_true rfl) (fun p e s m below meth c A ls hC hr hlk hW hl => ?_)
  have hC : CallFix p m c cX3_setHurry 3 s _ vs_ws RX3 := hC
  have hl : lv_has ls 3 [(0, .ref (a 0)), (1, .int (vs_I x1))] := hl
  unfold wX3_setHurry at hw
  refine vs_aload_n hC hl 0 dX3_setHurry_0 rfl rfl ?_
  refine vs_iconst hC dX3_setHurry_1 ?_
  obtain ⟨S1, hS1⟩ : ∃ z : vs_St, z = vs_st S 0 0 0 := ⟨_, rfl⟩
  have hw := hw S1 hS1
  refine vs_put (Wo' := vs_W3 g a r q S1 ++ wr) hC hW 0 rfl rfl vs_inX3 tyX3_ok nmX3 0 (by decide) vf_X3_96 rfl rfl (Nat.le_of_ble_eq_true rfl) (by rw [hS1]; rfl) dX3_setHurry_2 (fun H locs hW => ?_)
  refine vs_iload_n hC hl 1 dX3_setHurry_5 rfl rfl ?_
  refine vs_iconst hC dX3_setHurry_6 ?_
  refine vs_bipush hC dX3_setHurry_7 (by decide +kernel) ?_
  refine vs_callSI [.int (vs_I x1), .int (vs_I 0), .int (vs_I 20)] hC hW vk_X3_isBetween vm_X3_102 (c_X3_isBetween l g (vs_W3 g a r q S1 ++ wr) x1 0 20 _ hw) rfl hl.1 rfl ⟨rfl, rfl⟩ ⟨Nat.le_of_ble_eq_true rfl, Nat.le_of_ble_eq_true rfl⟩ ⟨Nat.le_of_ble_eq_true rfl, Nat.le_of_ble_eq_true rfl⟩ (Nat.le_of_ble_eq_true rfl) dX3_setHurry_9 (fun r2 _ H locs hw hW => ?_)
  have hW : vs_Wd g A _ (vs_W3 g a r q S1 ++ wr) _ _ s := hW
  obtain ⟨hx, hw⟩ := hw
  obtain ⟨hwt, hwf⟩ := hw
  refine vs_if_ne hC 21 hx dX3_setHurry_12 (by decide) (fun hc => ?_) (fun hc => ?_)
  · have hw := hwt hc
    clear hwt hwf hc
    refine vs_aload_n hC hl 0 dX3_setHurry_21 rfl rfl ?_
    refine vs_get hC hW 0 rfl rfl vs_inX3 29 (by decide) vf_X3_86 rfl dX3_setHurry_22 ?_
    refine vs_name (fun v3 hv3 => ?_)
    have hw := hw v3 hv3
    refine vs_istore_n (L' := [(0, .ref (a 0)), (1, .int (vs_I x1)), (2, .int (vs_I v3))]) hC hl [1, 2, 0] dX3_setHurry_25 rfl (by decide) rfl (fun ls hl => ?_)
    refine vs_aload_n hC hl 0 dX3_setHurry_26 rfl rfl ?_
    refine vs_iload_n hC hl 1 dX3_setHurry_27 rfl rfl ?_
    obtain ⟨S4, hS4⟩ : ∃ z : vs_St, z = vs_st S1 29 0 x1 := ⟨_, rfl⟩
    have hw := hw S4 hS4
    refine vs_put (Wo' := vs_W3 g a r q S4 ++ wr) hC hW 0 rfl rfl vs_inX3 tyX3_ok nmX3 29 (by decide) vf_X3_86 rfl rfl (Nat.le_of_ble_eq_true rfl) (by rw [hS4]; rfl) dX3_setHurry_28 (fun H locs hW => ?_)
    refine vs_iload_n hC hl 2 dX3_setHurry_31 rfl rfl ?_
    exact vs_iret (S4) hC hr hlk hW rfl hw (Nat.le_of_ble_eq_true rfl) (Nat.le_of_ble_eq_true rfl) dX3_setHurry_32
  · have hw := hwf hc
    clear hwt hwf hc
    refine vs_aload_n hC hl 0 dX3_setHurry_15 rfl rfl ?_
    refine vs_iconst hC dX3_setHurry_16 ?_
    refine vs_callVI [.int (vs_I 1)] hC hW 0 rfl rfl vk_X3_fails vm_X3_123 (c_X3_fails l g a r q (wr) S1 1 _ hw) rfl hl.1 rfl ⟨rfl, rfl⟩ ⟨Nat.le_of_ble_eq_true rfl, Nat.le_of_ble_eq_true rfl⟩ ⟨Nat.le_of_ble_eq_true rfl, Nat.le_of_ble_eq_true rfl⟩ (Nat.le_of_ble_eq_true rfl) dX3_setHurry_17 (fun r5 S6 H locs hw hW => ?_)
    have hW : vs_Wd g A _ (vs_W3 g a r q S6 ++ wr) _ _ s := hW
    exact vs_iret (S6) hC hr hlk hW rfl hw (Nat.le_of_ble_eq_true rfl) (Nat.le_of_ble_eq_true rfl) dX3_setHurry_20
set_option maxHeartbeats 4000000 in
set_option maxRecDepth 100000 in
theorem c_X3_isNone (l : Launch) (g : vs_G) (a r q : Nat → Nat) (wr : va_W) (S : vs_St) (x1 : Int) (x2 : Int) (post : Int → vs_St → Prop) (hw : wX3_isNone S x1 x2 post) : vs_MI l yX3_isNone (Cond.code yX3_isNone cX3_isNone 3 (some .boolean) :: vs_ws) { frames := 2, cells := 0, slots := 0, locals := 43 } g [.ref (a 0), .int (vs_I x1), .int (vs_I x2)] (vs_W3 g a r q S ++ wr) (fun (S' : vs_St) => vs_W3 g a r q S' ++ wr) post 0 0 := by
  refine vs_ofW (Qc := fun A => vs_QI g A (fun (S' : vs_St) => vs_W3 g a r q S' ++ wr) post) (by decide +kernel) (Nat.le_of_ble_eq_true rfl) (fun p e s m below meth c A ls hC hr hlk hW hl => ?_)
  have hC : CallFix p m c cX3_isNone 3 s _ vs_ws RX3 := hC
  have hl : lv_has ls 3 [(0, .ref (a 0)), (1, .int (vs_I x1)), (2, .int (vs_I x2))] := hl
  unfold wX3_isNone at hw
  refine vs_aload_n hC hl 0 dX3_isNone_0 rfl rfl ?_
  refine vs_aload_n hC hl 0 dX3_isNone_1 rfl rfl ?_
  refine vs_iload_n hC hl 1 dX3_isNone_2 rfl rfl ?_
  refine vs_callVI [.int (vs_I x1)] hC hW 0 rfl rfl vk_X3_isTenant vm_X3_133 (c_X3_isTenant l g a r q (wr) S x1 _ hw) rfl hl.1 rfl ⟨rfl, rfl⟩ ⟨Nat.le_of_ble_eq_true rfl, Nat.le_of_ble_eq_true rfl⟩ ⟨Nat.le_of_ble_eq_true rfl, Nat.le_of_ble_eq_true rfl⟩ (Nat.le_of_ble_eq_true rfl) dX3_isNone_3 (fun r1 _ H locs hw hW => ?_)
  have hW : vs_Wd g A _ (vs_W3 g a r q S ++ wr) _ _ s := hW
  obtain ⟨hx, hw⟩ := hw
  obtain ⟨hwt, hwf⟩ := hw
  refine vs_if_eq hC 23 hx dX3_isNone_6 (by decide) (fun hc => ?_) (fun hc => ?_)
  · have hw := hwt hc
    clear hwt hwf hc
    refine vs_iconst hC dX3_isNone_23 ?_
    obtain ⟨S2, hS2⟩ : ∃ z : vs_St, z = vs_st S 0 0 1 := ⟨_, rfl⟩
    have hw := hw S2 hS2
    refine vs_put (Wo' := vs_W3 g a r q S2 ++ wr) hC hW 0 rfl rfl vs_inX3 tyX3_ok nmX3 0 (by decide) vf_X3_96 rfl rfl (Nat.le_of_ble_eq_true rfl) (by rw [hS2]; rfl) dX3_isNone_24 (fun H locs hW => ?_)
    refine vs_aload_n hC hl 0 dX3_isNone_27 rfl rfl ?_
    refine vs_get hC hW 0 rfl rfl vs_inX3 0 (by decide) vf_X3_96 rfl dX3_isNone_28 ?_
    obtain ⟨hx, hw⟩ := hw
    obtain ⟨hwt, hwf⟩ := hw
    refine vs_if_le hC 38 hx dX3_isNone_31 (by decide) (fun hc => ?_) (fun hc => ?_)
    · have hw := hwt hc
      clear hwt hwf hc
      refine vs_iconst hC dX3_isNone_38 ?_
      exact vs_zret (S2) hC hr hlk hW rfl ⟨Or.inl rfl, hw⟩ (Nat.le_of_ble_eq_true rfl) (Nat.le_of_ble_eq_true rfl) dX3_isNone_39
    · have hw := hwf hc
      clear hwt hwf hc
      refine vs_iconst hC dX3_isNone_34 ?_
      refine vs_goto hC 39 dX3_isNone_35 (by decide) ?_
      exact vs_zret (S2) hC hr hlk hW rfl ⟨Or.inr rfl, hw⟩ (Nat.le_of_ble_eq_true rfl) (Nat.le_of_ble_eq_true rfl) dX3_isNone_39
  · have hw := hwf hc
    clear hwt hwf hc
    refine vs_iload_n hC hl 2 dX3_isNone_9 rfl rfl ?_
    refine vs_iconst hC dX3_isNone_10 ?_
    refine vs_bipush hC dX3_isNone_11 (by decide +kernel) ?_
    refine vs_callSI [.int (vs_I x2), .int (vs_I 0), .int (vs_I 99)] hC hW vk_X3_isBetween vm_X3_102 (c_X3_isBetween l g (vs_W3 g a r q S ++ wr) x2 0 99 _ hw) rfl hl.1 rfl ⟨rfl, rfl⟩ ⟨Nat.le_of_ble_eq_true rfl, Nat.le_of_ble_eq_true rfl⟩ ⟨Nat.le_of_ble_eq_true rfl, Nat.le_of_ble_eq_true rfl⟩ (Nat.le_of_ble_eq_true rfl) dX3_isNone_13 (fun r3 _ H locs hw hW => ?_)
    have hW : vs_Wd g A _ (vs_W3 g a r q S ++ wr) _ _ s := hW
    obtain ⟨hx, hw⟩ := hw
    obtain ⟨hwt, hwf⟩ := hw
    refine vs_if_eq hC 23 hx dX3_isNone_16 (by decide) (fun hc => ?_) (fun hc => ?_)
    · have hw := hwt hc
      clear hwt hwf hc
      refine vs_iconst hC dX3_isNone_23 ?_
      obtain ⟨S4, hS4⟩ : ∃ z : vs_St, z = vs_st S 0 0 1 := ⟨_, rfl⟩
      have hw := hw S4 hS4
      refine vs_put (Wo' := vs_W3 g a r q S4 ++ wr) hC hW 0 rfl rfl vs_inX3 tyX3_ok nmX3 0 (by decide) vf_X3_96 rfl rfl (Nat.le_of_ble_eq_true rfl) (by rw [hS4]; rfl) dX3_isNone_24 (fun H locs hW => ?_)
      refine vs_aload_n hC hl 0 dX3_isNone_27 rfl rfl ?_
      refine vs_get hC hW 0 rfl rfl vs_inX3 0 (by decide) vf_X3_96 rfl dX3_isNone_28 ?_
      obtain ⟨hx, hw⟩ := hw
      obtain ⟨hwt, hwf⟩ := hw
      refine vs_if_le hC 38 hx dX3_isNone_31 (by decide) (fun hc => ?_) (fun hc => ?_)
      · have hw := hwt hc
        clear hwt hwf hc
        refine vs_iconst hC dX3_isNone_38 ?_
        exact vs_zret (S4) hC hr hlk hW rfl ⟨Or.inl rfl, hw⟩ (Nat.le_of_ble_eq_true rfl) (Nat.le_of_ble_eq_true rfl) dX3_isNone_39
      · have hw := hwf hc
        clear hwt hwf hc
        refine vs_iconst hC dX3_isNone_34 ?_
        refine vs_goto hC 39 dX3_isNone_35 (by decide) ?_
        exact vs_zret (S4) hC hr hlk hW rfl ⟨Or.inr rfl, hw⟩ (Nat.le_of_ble_eq_true rfl) (Nat.le_of_ble_eq_true rfl) dX3_isNone_39
    · have hw := hwf hc
      clear hwt hwf hc
      refine vs_iconst hC dX3_isNone_19 ?_
      refine vs_goto hC 24 dX3_isNone_20 (by decide) ?_
      obtain ⟨S5, hS5⟩ : ∃ z : vs_St, z = vs_st S 0 0 0 := ⟨_, rfl⟩
      have hw := hw S5 hS5
      refine vs_put (Wo' := vs_W3 g a r q S5 ++ wr) hC hW 0 rfl rfl vs_inX3 tyX3_ok nmX3 0 (by decide) vf_X3_96 rfl rfl (Nat.le_of_ble_eq_true rfl) (by rw [hS5]; rfl) dX3_isNone_24 (fun H locs hW => ?_)
      refine vs_aload_n hC hl 0 dX3_isNone_27 rfl rfl ?_
      refine vs_get hC hW 0 rfl rfl vs_inX3 0 (by decide) vf_X3_96 rfl dX3_isNone_28 ?_
      obtain ⟨hx, hw⟩ := hw
      obtain ⟨hwt, hwf⟩ := hw
      refine vs_if_le hC 38 hx dX3_isNone_31 (by decide) (fun hc => ?_) (fun hc => ?_)
      · have hw := hwt hc
        clear hwt hwf hc
        refine vs_iconst hC dX3_isNone_38 ?_
        exact vs_zret (S5) hC hr hlk hW rfl ⟨Or.inl rfl, hw⟩ (Nat.le_of_ble_eq_true rfl) (Nat.le_of_ble_eq_true rfl) dX3_isNone_39
      · have hw := hwf hc
        clear hwt hwf hc
        refine vs_iconst hC dX3_isNone_34 ?_
        refine vs_goto hC 39 dX3_isNone_35 (by decide) ?_
        exact vs_zret (S5) hC hr hlk hW rfl ⟨Or.inr rfl, hw⟩ (Nat.le_of_ble_eq_true rfl) (Nat.le_of_ble_eq_true rfl) dX3_isNone_39
set_option maxHeartbeats 4000000 in
set_option maxRecDepth 100000 in
theorem c_X3_waitingMany (l : Launch) (g : vs_G) (a r q : Nat → Nat) (wr : va_W) (S : vs_St) (x1 : Int) (post : Int → Prop) (hw : wX3_waitingMany S x1 post) : vs_MI l yX3_waitingMany (Cond.code yX3_waitingMany cX3_waitingMany 4 (some .int) :: vs_ws) { frames := 0, cells := 0, slots := 0, locals := 0 } g [.ref (a 0), .int (vs_I x1)] (vs_W3 g a r q S ++ wr) (fun (_ : Unit) => vs_W3 g a r q S ++ wr) (fun v (_ : Unit) => post v) 0 0 := by
  refine vs_ofW (Qc := fun A => vs_QI g A (fun (_ : Unit) => vs_W3 g a r q S ++ wr) (fun v (_ : Unit) => post v)) (by decide +kernel) (Nat.le_of_ble_eq_true rfl) (fun p e s m below meth c A ls hC hr hlk hW hl => ?_)
  have hC : CallFix p m c cX3_waitingMany 4 s _ vs_ws RX3 := hC
  have hl : lv_has ls 4 [(0, .ref (a 0)), (1, .int (vs_I x1))] := hl
  unfold wX3_waitingMany at hw
  refine vs_iconst hC dX3_waitingMany_0 ?_
  refine vs_istore_n (L' := [(0, .ref (a 0)), (1, .int (vs_I x1)), (2, .int (vs_I 0))]) hC hl [1, 2, 0] dX3_waitingMany_1 rfl (by decide) rfl (fun ls hl => ?_)
  refine vs_iconst hC dX3_waitingMany_2 ?_
  refine vs_istore_n (L' := [(0, .ref (a 0)), (1, .int (vs_I x1)), (2, .int (vs_I 0)), (3, .int (vs_I 0))]) hC hl [1, 2, 3, 0] dX3_waitingMany_3 rfl (by decide) rfl (fun ls hl => ?_)
  obtain ⟨J1, μ1, hJ, hB1⟩ := hw
  refine vs_loop (V := Int × Int) (J := fun v => J1 v.1 v.2) (μ := fun v => μ1 v.1 v.2) (fun v => vs_W3 g a r q S ++ wr) (fun v => [(0, .ref (a 0)), (1, .int (vs_I x1)), (2, .int (vs_I v.1)), (3, .int (vs_I v.2))]) (fun v hJ ih1 H locs ls hW hl => ?_) (0, 0) hJ hW (lv_sub hl [0, 1, 2, 3] rfl)
  obtain ⟨v2, v3⟩ := v
  have hw := hB1 v2 v3 hJ
  have hW : vs_Wd g A _ (vs_W3 g a r q S ++ wr) _ _ s := hW
  have hl : lv_has ls 4 [(0, .ref (a 0)), (1, .int (vs_I x1)), (2, .int (vs_I v2)), (3, .int (vs_I v3))] := hl
  clear hJ
  unfold lX3_waitingMany_4 at hw
  refine vs_iload_n hC hl 3 dX3_waitingMany_4 rfl rfl ?_
  refine vs_aload_n hC hl 0 dX3_waitingMany_5 rfl rfl ?_
  refine vs_get hC hW 0 rfl rfl vs_inX3 28 (by decide) vf_X3_109 rfl dX3_waitingMany_6 ?_
  obtain ⟨hx, hw⟩ := hw
  obtain ⟨hy, hw⟩ := hw
  obtain ⟨hwt, hwf⟩ := hw
  refine vs_icmp_ge hC 54 hx hy dX3_waitingMany_9 (by decide) (fun hc => ?_) (fun hc => ?_)
  · have hw := hwt hc
    clear hwt hwf hc
    refine vs_iload_n hC hl 2 dX3_waitingMany_54 rfl rfl ?_
    exact vs_iret () hC hr hlk hW rfl hw (Nat.le_of_ble_eq_true rfl) (Nat.le_of_ble_eq_true rfl) dX3_waitingMany_55
  · have hw := hwf hc
    clear hwt hwf hc
    refine vs_iload_n hC hl 2 dX3_waitingMany_12 rfl rfl ?_
    refine vs_aload_n hC hl 0 dX3_waitingMany_13 rfl rfl ?_
    refine vs_get hC hW 0 rfl rfl vs_inX3 26 (by decide) vf_X3_83 rfl dX3_waitingMany_14 ?_
    refine vs_iload_n hC hl 3 dX3_waitingMany_17 rfl rfl ?_
    obtain ⟨hi, hw⟩ := hw
    refine vs_cald hC hW 24 rfl (by decide) hi dX3_waitingMany_18 ?_
    refine vs_bipush hC dX3_waitingMany_19 (by decide +kernel) ?_
    obtain ⟨hx, hw⟩ := hw
    obtain ⟨hwt, hwf⟩ := hw
    refine vs_icmp_ne hC 45 hx ⟨by decide, by decide⟩ dX3_waitingMany_21 (by decide) (fun hc => ?_) (fun hc => ?_)
    · have hw := hwt hc
      clear hwt hwf hc
      refine vs_iconst hC dX3_waitingMany_45 ?_
      refine vs_iadd hC dX3_waitingMany_46 ?_
      refine vs_name (fun v4 hv4 => ?_)
      have hw := hw v4 hv4
      refine vs_istore_n (L' := [(0, .ref (a 0)), (1, .int (vs_I x1)), (2, .int (vs_I v4)), (3, .int (vs_I v3))]) hC hl [1, 2, 0, 3] dX3_waitingMany_47 rfl (by decide) rfl (fun ls hl => ?_)
      refine vs_iinc (L' := [(0, .ref (a 0)), (1, .int (vs_I x1)), (2, .int (vs_I v4)), (3, .int (vs_I (v3 + 1)))]) hC hl 3 [1, 2, 3, 0] dX3_waitingMany_48 rfl (by decide) rfl (fun ls hl => ?_)
      refine vs_goto hC 4 dX3_waitingMany_51 (by decide) ?_
      exact ih1 (v4, v3 + 1) hw _ _ _ hW (lv_sub hl [0, 1, 2, 3] rfl)
    · have hw := hwf hc
      clear hwt hwf hc
      refine vs_iload_n hC hl 1 dX3_waitingMany_24 rfl rfl ?_
      obtain ⟨hx, hw⟩ := hw
      obtain ⟨hwt, hwf⟩ := hw
      refine vs_if_lt hC 41 hx dX3_waitingMany_25 (by decide) (fun hc => ?_) (fun hc => ?_)
      · have hw := hwt hc
        clear hwt hwf hc
        refine vs_iconst hC dX3_waitingMany_41 ?_
        refine vs_goto hC 46 dX3_waitingMany_42 (by decide) ?_
        refine vs_iadd hC dX3_waitingMany_46 ?_
        refine vs_name (fun v5 hv5 => ?_)
        have hw := hw v5 hv5
        refine vs_istore_n (L' := [(0, .ref (a 0)), (1, .int (vs_I x1)), (2, .int (vs_I v5)), (3, .int (vs_I v3))]) hC hl [1, 2, 0, 3] dX3_waitingMany_47 rfl (by decide) rfl (fun ls hl => ?_)
        refine vs_iinc (L' := [(0, .ref (a 0)), (1, .int (vs_I x1)), (2, .int (vs_I v5)), (3, .int (vs_I (v3 + 1)))]) hC hl 3 [1, 2, 3, 0] dX3_waitingMany_48 rfl (by decide) rfl (fun ls hl => ?_)
        refine vs_goto hC 4 dX3_waitingMany_51 (by decide) ?_
        exact ih1 (v5, v3 + 1) hw _ _ _ hW (lv_sub hl [0, 1, 2, 3] rfl)
      · have hw := hwf hc
        clear hwt hwf hc
        refine vs_aload_n hC hl 0 dX3_waitingMany_28 rfl rfl ?_
        refine vs_get hC hW 0 rfl rfl vs_inX3 23 (by decide) vf_X3_74 rfl dX3_waitingMany_29 ?_
        refine vs_iload_n hC hl 3 dX3_waitingMany_32 rfl rfl ?_
        obtain ⟨hi, hw⟩ := hw
        refine vs_iald hC hW 21 rfl (by decide) hi dX3_waitingMany_33 ?_
        refine vs_bipush hC dX3_waitingMany_34 (by decide +kernel) ?_
        obtain ⟨hi, hw⟩ := hw
        refine vs_idiv hC dX3_waitingMany_36 ⟨hi.1, hi.2, by decide, by decide⟩ ?_
        refine vs_iload_n hC hl 1 dX3_waitingMany_37 rfl rfl ?_
        obtain ⟨hx, hw⟩ := hw
        obtain ⟨hy, hw⟩ := hw
        obtain ⟨hwt, hwf⟩ := hw
        refine vs_icmp_ne hC 45 hx hy dX3_waitingMany_38 (by decide) (fun hc => ?_) (fun hc => ?_)
        · have hw := hwt hc
          clear hwt hwf hc
          refine vs_iconst hC dX3_waitingMany_45 ?_
          refine vs_iadd hC dX3_waitingMany_46 ?_
          refine vs_name (fun v6 hv6 => ?_)
          have hw := hw v6 hv6
          refine vs_istore_n (L' := [(0, .ref (a 0)), (1, .int (vs_I x1)), (2, .int (vs_I v6)), (3, .int (vs_I v3))]) hC hl [1, 2, 0, 3] dX3_waitingMany_47 rfl (by decide) rfl (fun ls hl => ?_)
          refine vs_iinc (L' := [(0, .ref (a 0)), (1, .int (vs_I x1)), (2, .int (vs_I v6)), (3, .int (vs_I (v3 + 1)))]) hC hl 3 [1, 2, 3, 0] dX3_waitingMany_48 rfl (by decide) rfl (fun ls hl => ?_)
          refine vs_goto hC 4 dX3_waitingMany_51 (by decide) ?_
          exact ih1 (v6, v3 + 1) hw _ _ _ hW (lv_sub hl [0, 1, 2, 3] rfl)
        · have hw := hwf hc
          clear hwt hwf hc
          refine vs_iconst hC dX3_waitingMany_41 ?_
          refine vs_goto hC 46 dX3_waitingMany_42 (by decide) ?_
          refine vs_iadd hC dX3_waitingMany_46 ?_
          refine vs_name (fun v7 hv7 => ?_)
          have hw := hw v7 hv7
          refine vs_istore_n (L' := [(0, .ref (a 0)), (1, .int (vs_I x1)), (2, .int (vs_I v7)), (3, .int (vs_I v3))]) hC hl [1, 2, 0, 3] dX3_waitingMany_47 rfl (by decide) rfl (fun ls hl => ?_)
          refine vs_iinc (L' := [(0, .ref (a 0)), (1, .int (vs_I x1)), (2, .int (vs_I v7)), (3, .int (vs_I (v3 + 1)))]) hC hl 3 [1, 2, 3, 0] dX3_waitingMany_48 rfl (by decide) rfl (fun ls hl => ?_)
          refine vs_goto hC 4 dX3_waitingMany_51 (by decide) ?_
          exact ih1 (v7, v3 + 1) hw _ _ _ hW (lv_sub hl [0, 1, 2, 3] rfl)
set_option maxHeartbeats 4000000 in
set_option maxRecDepth 100000 in
theorem c_X3_asks (l : Launch) (g : vs_G) (a r q : Nat → Nat) (wr : va_W) (S : vs_St) (x1 : Int) (x2 : Int) (x3 : Int) (post : Int → vs_St → Prop) (hw : wX3_asks S x1 x2 x3 post) : vs_MI l yX3_asks (Cond.code yX3_asks cX3_asks 4 (some .int) :: vs_ws) { frames := 1, cells := 0, slots := 0, locals := 23 } g [.ref (a 0), .int (vs_I x1), .int (vs_I x2), .int (vs_I x3)] (vs_W3 g a r q S ++ wr) (fun (S' : vs_St) => vs_W3 g a r q S' ++ wr) post 0 0 := by
  refine vs_ofW (Qc := fun A => vs_QI g A (fun (S' : vs_St) => vs_W3 g a r q S' ++ wr) post) (by decide +kernel) (Nat.le_of_ble_eq_true rfl) (fun p e s m below meth c A ls hC hr hlk hW hl => ?_)
  have hC : CallFix p m c cX3_asks 4 s _ vs_ws RX3 := hC
  have hl : lv_has ls 4 [(0, .ref (a 0)), (1, .int (vs_I x1)), (2, .int (vs_I x2)), (3, .int (vs_I x3))] := hl
  unfold wX3_asks at hw
  refine vs_aload_n hC hl 0 dX3_asks_0 rfl rfl ?_
  refine vs_iconst hC dX3_asks_1 ?_
  refine vs_callVI [.int (vs_I (-1))] hC hW 0 rfl rfl vk_X3_waitingMany vm_X3_136 (c_X3_waitingMany l g a r q (wr) S (-1) _ hw) rfl hl.1 rfl ⟨rfl, rfl⟩ ⟨Nat.le_of_ble_eq_true rfl, Nat.le_of_ble_eq_true rfl⟩ ⟨Nat.le_of_ble_eq_true rfl, Nat.le_of_ble_eq_true rfl⟩ (Nat.le_of_ble_eq_true rfl) dX3_asks_2 (fun r1 _ H locs hw hW => ?_)
  have hW : vs_Wd g A _ (vs_W3 g a r q S ++ wr) _ _ s := hW
  refine vs_bipush hC dX3_asks_5 (by decide +kernel) ?_
  obtain ⟨hx, hw⟩ := hw
  obtain ⟨hwt, hwf⟩ := hw
  refine vs_icmp_eq hC 20 hx ⟨by decide, by decide⟩ dX3_asks_7 (by decide) (fun hc => ?_) (fun hc => ?_)
  · have hw := hwt hc
    clear hwt hwf hc
    refine vs_aload_n hC hl 0 dX3_asks_20 rfl rfl ?_
    refine vs_iload_n hC hl 3 dX3_asks_21 rfl rfl ?_
    refine vs_callVI [.int (vs_I x3)] hC hW 0 rfl rfl vk_X3_fails vm_X3_123 (c_X3_fails l g a r q (wr) S x3 _ hw) rfl hl.1 rfl ⟨rfl, rfl⟩ ⟨Nat.le_of_ble_eq_true rfl, Nat.le_of_ble_eq_true rfl⟩ ⟨Nat.le_of_ble_eq_true rfl, Nat.le_of_ble_eq_true rfl⟩ (Nat.le_of_ble_eq_true rfl) dX3_asks_22 (fun r2 S3 H locs hw hW => ?_)
    have hW : vs_Wd g A _ (vs_W3 g a r q S3 ++ wr) _ _ s := hW
    exact vs_iret (S3) hC hr hlk hW rfl hw (Nat.le_of_ble_eq_true rfl) (Nat.le_of_ble_eq_true rfl) dX3_asks_25
  · have hw := hwf hc
    clear hwt hwf hc
    refine vs_aload_n hC hl 0 dX3_asks_10 rfl rfl ?_
    refine vs_get hC hW 0 rfl rfl vs_inX3 28 (by decide) vf_X3_109 rfl dX3_asks_11 ?_
    refine vs_sipush hC dX3_asks_14 (by decide +kernel) ?_
    obtain ⟨hx, hw⟩ := hw
    obtain ⟨hwt, hwf⟩ := hw
    refine vs_icmp_ne hC 26 hx ⟨by decide, by decide⟩ dX3_asks_17 (by decide) (fun hc => ?_) (fun hc => ?_)
    · have hw := hwt hc
      clear hwt hwf hc
      refine vs_aload_n hC hl 0 dX3_asks_26 rfl rfl ?_
      refine vs_get hC hW 0 rfl rfl vs_inX3 23 (by decide) vf_X3_74 rfl dX3_asks_27 ?_
      refine vs_aload_n hC hl 0 dX3_asks_30 rfl rfl ?_
      refine vs_get hC hW 0 rfl rfl vs_inX3 28 (by decide) vf_X3_109 rfl dX3_asks_31 ?_
      refine vs_iload_n hC hl 1 dX3_asks_34 rfl rfl ?_
      obtain ⟨hi, hw⟩ := hw
      obtain ⟨S4, hS4⟩ : ∃ z : vs_St, z = vs_st S 23 (S 28 0) x1 := ⟨_, rfl⟩
      have hw := hw S4 hS4
      refine vs_iast (Wo' := vs_W3 g a r q S4 ++ wr) hC hW 21 rfl (by decide) hi (by rw [hS4]; rfl) dX3_asks_35 (fun H locs hW => ?_)
      refine vs_aload_n hC hl 0 dX3_asks_36 rfl rfl ?_
      refine vs_get hC hW 0 rfl rfl vs_inX3 24 (by decide) vf_X3_77 rfl dX3_asks_37 ?_
      refine vs_aload_n hC hl 0 dX3_asks_40 rfl rfl ?_
      refine vs_get hC hW 0 rfl rfl vs_inX3 28 (by decide) vf_X3_109 rfl dX3_asks_41 ?_
      refine vs_iload_n hC hl 2 dX3_asks_44 rfl rfl ?_
      obtain ⟨hi, hw⟩ := hw
      obtain ⟨S5, hS5⟩ : ∃ z : vs_St, z = vs_st S4 24 (S4 28 0) x2 := ⟨_, rfl⟩
      have hw := hw S5 hS5
      refine vs_iast (Wo' := vs_W3 g a r q S5 ++ wr) hC hW 22 rfl (by decide) hi (by rw [hS5]; rfl) dX3_asks_45 (fun H locs hW => ?_)
      refine vs_aload_n hC hl 0 dX3_asks_46 rfl rfl ?_
      refine vs_get hC hW 0 rfl rfl vs_inX3 26 (by decide) vf_X3_83 rfl dX3_asks_47 ?_
      refine vs_aload_n hC hl 0 dX3_asks_50 rfl rfl ?_
      refine vs_get hC hW 0 rfl rfl vs_inX3 28 (by decide) vf_X3_109 rfl dX3_asks_51 ?_
      refine vs_bipush hC dX3_asks_54 (by decide +kernel) ?_
      obtain ⟨hi, hw⟩ := hw
      obtain ⟨S6, hS6⟩ : ∃ z : vs_St, z = vs_st S5 26 (S5 28 0) 119 := ⟨_, rfl⟩
      have hw := hw S6 hS6
      refine vs_cast (Wo' := vs_W3 g a r q S6 ++ wr) hC hW 24 rfl (by decide) hi (by decide) (by rw [hS6]; rfl) dX3_asks_56 (fun H locs hW => ?_)
      refine vs_aload_n hC hl 0 dX3_asks_57 rfl rfl ?_
      refine vs_dup hC dX3_asks_58 rfl ?_
      refine vs_get hC hW 0 rfl rfl vs_inX3 28 (by decide) vf_X3_109 rfl dX3_asks_59 ?_
      refine vs_iconst hC dX3_asks_62 ?_
      refine vs_iadd hC dX3_asks_63 ?_
      obtain ⟨S7, hS7⟩ : ∃ z : vs_St, z = vs_st S6 28 0 ((S6 28 0) + 1) := ⟨_, rfl⟩
      have hw := hw S7 hS7
      refine vs_put (Wo' := vs_W3 g a r q S7 ++ wr) hC hW 0 rfl rfl vs_inX3 tyX3_ok nmX3 28 (by decide) vf_X3_109 rfl rfl (Nat.le_of_ble_eq_true rfl) (by rw [hS7]; rfl) dX3_asks_64 (fun H locs hW => ?_)
      refine vs_aload_n hC hl 0 dX3_asks_67 rfl rfl ?_
      refine vs_get hC hW 0 rfl rfl vs_inX3 28 (by decide) vf_X3_109 rfl dX3_asks_68 ?_
      refine vs_iconst hC dX3_asks_71 ?_
      refine vs_isub hC dX3_asks_72 ?_
      exact vs_iret (S7) hC hr hlk hW rfl hw (Nat.le_of_ble_eq_true rfl) (Nat.le_of_ble_eq_true rfl) dX3_asks_73
    · have hw := hwf hc
      clear hwt hwf hc
      refine vs_aload_n hC hl 0 dX3_asks_20 rfl rfl ?_
      refine vs_iload_n hC hl 3 dX3_asks_21 rfl rfl ?_
      refine vs_callVI [.int (vs_I x3)] hC hW 0 rfl rfl vk_X3_fails vm_X3_123 (c_X3_fails l g a r q (wr) S x3 _ hw) rfl hl.1 rfl ⟨rfl, rfl⟩ ⟨Nat.le_of_ble_eq_true rfl, Nat.le_of_ble_eq_true rfl⟩ ⟨Nat.le_of_ble_eq_true rfl, Nat.le_of_ble_eq_true rfl⟩ (Nat.le_of_ble_eq_true rfl) dX3_asks_22 (fun r8 S9 H locs hw hW => ?_)
      have hW : vs_Wd g A _ (vs_W3 g a r q S9 ++ wr) _ _ s := hW
      exact vs_iret (S9) hC hr hlk hW rfl hw (Nat.le_of_ble_eq_true rfl) (Nat.le_of_ble_eq_true rfl) dX3_asks_25
set_option maxHeartbeats 4000000 in
set_option maxRecDepth 100000 in
theorem c_X3_read (l : Launch) (g : vs_G) (a r q : Nat → Nat) (wr : va_W) (S : vs_St) (x1 : Int) (x2 : Int) (post : Int → vs_St → Prop) (hw : wX3_read S x1 x2 post) : vs_MI l yX3_read (Cond.code yX3_read cX3_read 3 (some .int) :: vs_ws) { frames := 3, cells := 0, slots := 0, locals := 65 } g [.ref (a 0), .int (vs_I x1), .int (vs_I x2)] (vs_W3 g a r q S ++ wr) (fun (S' : vs_St) => vs_W3 g a r q S' ++ wr) post 0 0 := by
  refine vs_ofW (Qc := fun A => vs_QI g A (fun (S' : vs_St) => vs_W3 g a r q S' ++ wr) post) (by decide +kernel) (Nat.le_of_ble_eq_true rfl) (fun p e s m below meth c A ls hC hr hlk hW hl => ?_)
  have hC : CallFix p m c cX3_read 3 s _ vs_ws RX3 := hC
  have hl : lv_has ls 3 [(0, .ref (a 0)), (1, .int (vs_I x1)), (2, .int (vs_I x2))] := hl
  unfold wX3_read at hw
  refine vs_aload_n hC hl 0 dX3_read_0 rfl rfl ?_
  refine vs_iload_n hC hl 1 dX3_read_1 rfl rfl ?_
  refine vs_iload_n hC hl 2 dX3_read_2 rfl rfl ?_
  refine vs_callVI [.int (vs_I x1), .int (vs_I x2)] hC hW 0 rfl rfl vk_X3_isNone vm_X3_139 (c_X3_isNone l g a r q (wr) S x1 x2 _ hw) rfl hl.1 rfl ⟨rfl, rfl⟩ ⟨Nat.le_of_ble_eq_true rfl, Nat.le_of_ble_eq_true rfl⟩ ⟨Nat.le_of_ble_eq_true rfl, Nat.le_of_ble_eq_true rfl⟩ (Nat.le_of_ble_eq_true rfl) dX3_read_3 (fun r1 S2 H locs hw hW => ?_)
  have hW : vs_Wd g A _ (vs_W3 g a r q S2 ++ wr) _ _ s := hW
  obtain ⟨hx, hw⟩ := hw
  obtain ⟨hwt, hwf⟩ := hw
  refine vs_if_eq hC 13 hx dX3_read_6 (by decide) (fun hc => ?_) (fun hc => ?_)
  · have hw := hwt hc
    clear hwt hwf hc
    refine vs_aload_n hC hl 0 dX3_read_13 rfl rfl ?_
    refine vs_bipush hC dX3_read_14 (by decide +kernel) ?_
    refine vs_iload_n hC hl 1 dX3_read_16 rfl rfl ?_
    refine vs_imul hC dX3_read_17 ?_
    refine vs_iload_n hC hl 2 dX3_read_18 rfl rfl ?_
    refine vs_iadd hC dX3_read_19 ?_
    refine vs_iconst hC dX3_read_20 ?_
    refine vs_iconst hC dX3_read_21 ?_
    refine vs_callVI [.int (vs_I ((100 * x1) + x2)), .int (vs_I (-1)), .int (vs_I 2)] hC hW 0 rfl rfl vk_X3_asks vm_X3_142 (c_X3_asks l g a r q (wr) S2 ((100 * x1) + x2) (-1) 2 _ hw) rfl hl.1 rfl ⟨rfl, rfl⟩ ⟨Nat.le_of_ble_eq_true rfl, Nat.le_of_ble_eq_true rfl⟩ ⟨Nat.le_of_ble_eq_true rfl, Nat.le_of_ble_eq_true rfl⟩ (Nat.le_of_ble_eq_true rfl) dX3_read_22 (fun r3 S4 H locs hw hW => ?_)
    have hW : vs_Wd g A _ (vs_W3 g a r q S4 ++ wr) _ _ s := hW
    exact vs_iret (S4) hC hr hlk hW rfl hw (Nat.le_of_ble_eq_true rfl) (Nat.le_of_ble_eq_true rfl) dX3_read_25
  · have hw := hwf hc
    clear hwt hwf hc
    refine vs_iconst hC dX3_read_9 ?_
    refine vs_goto hC 25 dX3_read_10 (by decide) ?_
    exact vs_iret (S2) hC hr hlk hW rfl hw (Nat.le_of_ble_eq_true rfl) (Nat.le_of_ble_eq_true rfl) dX3_read_25
set_option maxHeartbeats 4000000 in
set_option maxRecDepth 100000 in
theorem c_X3_write (l : Launch) (g : vs_G) (a r q : Nat → Nat) (wr : va_W) (S : vs_St) (x1 : Int) (x2 : Int) (x3 : Int) (post : Int → vs_St → Prop) (hw : wX3_write S x1 x2 x3 post) : vs_MI l yX3_write (Cond.code yX3_write cX3_write 4 (some .int) :: vs_ws) { frames := 3, cells := 0, slots := 0, locals := 65 } g [.ref (a 0), .int (vs_I x1), .int (vs_I x2), .int (vs_I x3)] (vs_W3 g a r q S ++ wr) (fun (S' : vs_St) => vs_W3 g a r q S' ++ wr) post 0 0 := by
  refine vs_ofW (Qc := fun A => vs_QI g A (fun (S' : vs_St) => vs_W3 g a r q S' ++ wr) post) (by decide +kernel) (Nat.le_of_ble_eq_true rfl) (fun p e s m below meth c A ls hC hr hlk hW hl => ?_)
  have hC : CallFix p m c cX3_write 4 s _ vs_ws RX3 := hC
  have hl : lv_has ls 4 [(0, .ref (a 0)), (1, .int (vs_I x1)), (2, .int (vs_I x2)), (3, .int (vs_I x3))] := hl
  unfold wX3_write at hw
  refine vs_aload_n hC hl 0 dX3_write_0 rfl rfl ?_
  refine vs_iload_n hC hl 1 dX3_write_1 rfl rfl ?_
  refine vs_iload_n hC hl 2 dX3_write_2 rfl rfl ?_
  refine vs_callVI [.int (vs_I x1), .int (vs_I x2)] hC hW 0 rfl rfl vk_X3_isNone vm_X3_139 (c_X3_isNone l g a r q (wr) S x1 x2 _ hw) rfl hl.1 rfl ⟨rfl, rfl⟩ ⟨Nat.le_of_ble_eq_true rfl, Nat.le_of_ble_eq_true rfl⟩ ⟨Nat.le_of_ble_eq_true rfl, Nat.le_of_ble_eq_true rfl⟩ (Nat.le_of_ble_eq_true rfl) dX3_write_3 (fun r1 S2 H locs hw hW => ?_)
  have hW : vs_Wd g A _ (vs_W3 g a r q S2 ++ wr) _ _ s := hW
  obtain ⟨hx, hw⟩ := hw
  obtain ⟨hwt, hwf⟩ := hw
  refine vs_if_eq hC 11 hx dX3_write_6 (by decide) (fun hc => ?_) (fun hc => ?_)
  · have hw := hwt hc
    clear hwt hwf hc
    refine vs_iload_n hC hl 3 dX3_write_11 rfl rfl ?_
    refine vs_iconst hC dX3_write_12 ?_
    refine vs_sipush hC dX3_write_13 (by decide +kernel) ?_
    refine vs_callSI [.int (vs_I x3), .int (vs_I 0), .int (vs_I 9999)] hC hW vk_X3_isBetween vm_X3_102 (c_X3_isBetween l g (vs_W3 g a r q S2 ++ wr) x3 0 9999 _ hw) rfl hl.1 rfl ⟨rfl, rfl⟩ ⟨Nat.le_of_ble_eq_true rfl, Nat.le_of_ble_eq_true rfl⟩ ⟨Nat.le_of_ble_eq_true rfl, Nat.le_of_ble_eq_true rfl⟩ (Nat.le_of_ble_eq_true rfl) dX3_write_16 (fun r3 _ H locs hw hW => ?_)
    have hW : vs_Wd g A _ (vs_W3 g a r q S2 ++ wr) _ _ s := hW
    obtain ⟨hx, hw⟩ := hw
    obtain ⟨hwt, hwf⟩ := hw
    refine vs_if_eq hC 37 hx dX3_write_19 (by decide) (fun hc => ?_) (fun hc => ?_)
    · have hw := hwt hc
      clear hwt hwf hc
      refine vs_aload_n hC hl 0 dX3_write_37 rfl rfl ?_
      refine vs_iconst hC dX3_write_38 ?_
      refine vs_callVI [.int (vs_I 2)] hC hW 0 rfl rfl vk_X3_fails vm_X3_123 (c_X3_fails l g a r q (wr) S2 2 _ hw) rfl hl.1 rfl ⟨rfl, rfl⟩ ⟨Nat.le_of_ble_eq_true rfl, Nat.le_of_ble_eq_true rfl⟩ ⟨Nat.le_of_ble_eq_true rfl, Nat.le_of_ble_eq_true rfl⟩ (Nat.le_of_ble_eq_true rfl) dX3_write_39 (fun r4 S5 H locs hw hW => ?_)
      have hW : vs_Wd g A _ (vs_W3 g a r q S5 ++ wr) _ _ s := hW
      exact vs_iret (S5) hC hr hlk hW rfl hw (Nat.le_of_ble_eq_true rfl) (Nat.le_of_ble_eq_true rfl) dX3_write_42
    · have hw := hwf hc
      clear hwt hwf hc
      refine vs_aload_n hC hl 0 dX3_write_22 rfl rfl ?_
      refine vs_bipush hC dX3_write_23 (by decide +kernel) ?_
      refine vs_iload_n hC hl 1 dX3_write_25 rfl rfl ?_
      refine vs_imul hC dX3_write_26 ?_
      refine vs_iload_n hC hl 2 dX3_write_27 rfl rfl ?_
      refine vs_iadd hC dX3_write_28 ?_
      refine vs_iload_n hC hl 3 dX3_write_29 rfl rfl ?_
      refine vs_iconst hC dX3_write_30 ?_
      refine vs_callVI [.int (vs_I ((100 * x1) + x2)), .int (vs_I x3), .int (vs_I 3)] hC hW 0 rfl rfl vk_X3_asks vm_X3_142 (c_X3_asks l g a r q (wr) S2 ((100 * x1) + x2) x3 3 _ hw) rfl hl.1 rfl ⟨rfl, rfl⟩ ⟨Nat.le_of_ble_eq_true rfl, Nat.le_of_ble_eq_true rfl⟩ ⟨Nat.le_of_ble_eq_true rfl, Nat.le_of_ble_eq_true rfl⟩ (Nat.le_of_ble_eq_true rfl) dX3_write_31 (fun r6 S7 H locs hw hW => ?_)
      have hW : vs_Wd g A _ (vs_W3 g a r q S7 ++ wr) _ _ s := hW
      refine vs_goto hC 42 dX3_write_34 (by decide) ?_
      exact vs_iret (S7) hC hr hlk hW rfl hw (Nat.le_of_ble_eq_true rfl) (Nat.le_of_ble_eq_true rfl) dX3_write_42
  · have hw := hwf hc
    clear hwt hwf hc
    refine vs_iconst hC dX3_write_9 ?_
    exact vs_iret (S2) hC hr hlk hW rfl hw (Nat.le_of_ble_eq_true rfl) (Nat.le_of_ble_eq_true rfl) dX3_write_10
set_option maxHeartbeats 4000000 in
set_option maxRecDepth 100000 in
theorem c_X3_isNoRequest (l : Launch) (g : vs_G) (a r q : Nat → Nat) (wr : va_W) (S : vs_St) (x1 : Int) (post : Int → vs_St → Prop) (hw : wX3_isNoRequest S x1 post) : vs_MI l yX3_isNoRequest (Cond.code yX3_isNoRequest cX3_isNoRequest 2 (some .boolean) :: vs_ws) { frames := 2, cells := 0, slots := 0, locals := 43 } g [.ref (a 0), .int (vs_I x1)] (vs_W3 g a r q S ++ wr) (fun (S' : vs_St) => vs_W3 g a r q S' ++ wr) post 0 0 := by
  refine vs_ofW (Qc := fun A => vs_QI g A (fun (S' : vs_St) => vs_W3 g a r q S' ++ wr) post) (by decide +kernel) (Nat.le_of_ble_eq_true rfl) (fun p e s m below meth c A ls hC hr hlk hW hl => ?_)
  have hC : CallFix p m c cX3_isNoRequest 2 s _ vs_ws RX3 := hC
  have hl : lv_has ls 2 [(0, .ref (a 0)), (1, .int (vs_I x1))] := hl
  unfold wX3_isNoRequest at hw
  refine vs_aload_n hC hl 0 dX3_isNoRequest_0 rfl rfl ?_
  refine vs_aload_n hC hl 0 dX3_isNoRequest_1 rfl rfl ?_
  refine vs_iload_n hC hl 1 dX3_isNoRequest_2 rfl rfl ?_
  refine vs_callVI [.int (vs_I x1)] hC hW 0 rfl rfl vk_X3_isRequest vm_X3_146 (c_X3_isRequest l g a r q (wr) S x1 _ hw) rfl hl.1 rfl ⟨rfl, rfl⟩ ⟨Nat.le_of_ble_eq_true rfl, Nat.le_of_ble_eq_true rfl⟩ ⟨Nat.le_of_ble_eq_true rfl, Nat.le_of_ble_eq_true rfl⟩ (Nat.le_of_ble_eq_true rfl) dX3_isNoRequest_3 (fun r1 _ H locs hw hW => ?_)
  have hW : vs_Wd g A _ (vs_W3 g a r q S ++ wr) _ _ s := hW
  obtain ⟨hx, hw⟩ := hw
  obtain ⟨hwt, hwf⟩ := hw
  refine vs_if_eq hC 13 hx dX3_isNoRequest_6 (by decide) (fun hc => ?_) (fun hc => ?_)
  · have hw := hwt hc
    clear hwt hwf hc
    refine vs_iconst hC dX3_isNoRequest_13 ?_
    obtain ⟨S2, hS2⟩ : ∃ z : vs_St, z = vs_st S 0 0 1 := ⟨_, rfl⟩
    have hw := hw S2 hS2
    refine vs_put (Wo' := vs_W3 g a r q S2 ++ wr) hC hW 0 rfl rfl vs_inX3 tyX3_ok nmX3 0 (by decide) vf_X3_96 rfl rfl (Nat.le_of_ble_eq_true rfl) (by rw [hS2]; rfl) dX3_isNoRequest_14 (fun H locs hW => ?_)
    refine vs_aload_n hC hl 0 dX3_isNoRequest_17 rfl rfl ?_
    refine vs_get hC hW 0 rfl rfl vs_inX3 0 (by decide) vf_X3_96 rfl dX3_isNoRequest_18 ?_
    obtain ⟨hx, hw⟩ := hw
    obtain ⟨hwt, hwf⟩ := hw
    refine vs_if_le hC 28 hx dX3_isNoRequest_21 (by decide) (fun hc => ?_) (fun hc => ?_)
    · have hw := hwt hc
      clear hwt hwf hc
      refine vs_iconst hC dX3_isNoRequest_28 ?_
      exact vs_zret (S2) hC hr hlk hW rfl ⟨Or.inl rfl, hw⟩ (Nat.le_of_ble_eq_true rfl) (Nat.le_of_ble_eq_true rfl) dX3_isNoRequest_29
    · have hw := hwf hc
      clear hwt hwf hc
      refine vs_iconst hC dX3_isNoRequest_24 ?_
      refine vs_goto hC 29 dX3_isNoRequest_25 (by decide) ?_
      exact vs_zret (S2) hC hr hlk hW rfl ⟨Or.inr rfl, hw⟩ (Nat.le_of_ble_eq_true rfl) (Nat.le_of_ble_eq_true rfl) dX3_isNoRequest_29
  · have hw := hwf hc
    clear hwt hwf hc
    refine vs_iconst hC dX3_isNoRequest_9 ?_
    refine vs_goto hC 14 dX3_isNoRequest_10 (by decide) ?_
    obtain ⟨S3, hS3⟩ : ∃ z : vs_St, z = vs_st S 0 0 0 := ⟨_, rfl⟩
    have hw := hw S3 hS3
    refine vs_put (Wo' := vs_W3 g a r q S3 ++ wr) hC hW 0 rfl rfl vs_inX3 tyX3_ok nmX3 0 (by decide) vf_X3_96 rfl rfl (Nat.le_of_ble_eq_true rfl) (by rw [hS3]; rfl) dX3_isNoRequest_14 (fun H locs hW => ?_)
    refine vs_aload_n hC hl 0 dX3_isNoRequest_17 rfl rfl ?_
    refine vs_get hC hW 0 rfl rfl vs_inX3 0 (by decide) vf_X3_96 rfl dX3_isNoRequest_18 ?_
    obtain ⟨hx, hw⟩ := hw
    obtain ⟨hwt, hwf⟩ := hw
    refine vs_if_le hC 28 hx dX3_isNoRequest_21 (by decide) (fun hc => ?_) (fun hc => ?_)
    · have hw := hwt hc
      clear hwt hwf hc
      refine vs_iconst hC dX3_isNoRequest_28 ?_
      exact vs_zret (S3) hC hr hlk hW rfl ⟨Or.inl rfl, hw⟩ (Nat.le_of_ble_eq_true rfl) (Nat.le_of_ble_eq_true rfl) dX3_isNoRequest_29
    · have hw := hwf hc
      clear hwt hwf hc
      refine vs_iconst hC dX3_isNoRequest_24 ?_
      refine vs_goto hC 29 dX3_isNoRequest_25 (by decide) ?_
      exact vs_zret (S3) hC hr hlk hW rfl ⟨Or.inr rfl, hw⟩ (Nat.le_of_ble_eq_true rfl) (Nat.le_of_ble_eq_true rfl) dX3_isNoRequest_29
set_option maxHeartbeats 4000000 in
set_option maxRecDepth 100000 in
theorem c_X3_stateOf (l : Launch) (g : vs_G) (a r q : Nat → Nat) (wr : va_W) (S : vs_St) (x1 : Int) (post : Int → vs_St → Prop) (hw : wX3_stateOf S x1 post) : vs_MI l yX3_stateOf (Cond.code yX3_stateOf cX3_stateOf 2 (some .char) :: vs_ws) { frames := 3, cells := 0, slots := 0, locals := 64 } g [.ref (a 0), .int (vs_I x1)] (vs_W3 g a r q S ++ wr) (fun (S' : vs_St) => vs_W3 g a r q S' ++ wr) post 0 0 := by
  refine vs_ofW (Qc := fun A => vs_QI g A (fun (S' : vs_St) => vs_W3 g a r q S' ++ wr) post) (by decide +kernel) (Nat.le_of_ble_eq_true rfl) (fun p e s m below meth c A ls hC hr hlk hW hl => ?_)
  have hC : CallFix p m c cX3_stateOf 2 s _ vs_ws RX3 := hC
  have hl : lv_has ls 2 [(0, .ref (a 0)), (1, .int (vs_I x1))] := hl
  unfold wX3_stateOf at hw
  refine vs_aload_n hC hl 0 dX3_stateOf_0 rfl rfl ?_
  refine vs_iload_n hC hl 1 dX3_stateOf_1 rfl rfl ?_
  refine vs_callVI [.int (vs_I x1)] hC hW 0 rfl rfl vk_X3_isNoRequest vm_X3_149 (c_X3_isNoRequest l g a r q (wr) S x1 _ hw) rfl hl.1 rfl ⟨rfl, rfl⟩ ⟨Nat.le_of_ble_eq_true rfl, Nat.le_of_ble_eq_true rfl⟩ ⟨Nat.le_of_ble_eq_true rfl, Nat.le_of_ble_eq_true rfl⟩ (Nat.le_of_ble_eq_true rfl) dX3_stateOf_2 (fun r1 S2 H locs hw hW => ?_)
  have hW : vs_Wd g A _ (vs_W3 g a r q S2 ++ wr) _ _ s := hW
  obtain ⟨hx, hw⟩ := hw
  obtain ⟨hwt, hwf⟩ := hw
  refine vs_if_eq hC 12 hx dX3_stateOf_5 (by decide) (fun hc => ?_) (fun hc => ?_)
  · have hw := hwt hc
    clear hwt hwf hc
    refine vs_aload_n hC hl 0 dX3_stateOf_12 rfl rfl ?_
    refine vs_get hC hW 0 rfl rfl vs_inX3 26 (by decide) vf_X3_83 rfl dX3_stateOf_13 ?_
    refine vs_iload_n hC hl 1 dX3_stateOf_16 rfl rfl ?_
    obtain ⟨hi, hw⟩ := hw
    refine vs_cald hC hW 24 rfl (by decide) hi dX3_stateOf_17 ?_
    exact vs_cret (S2) hC hr hlk hW rfl hw (Nat.le_of_ble_eq_true rfl) (Nat.le_of_ble_eq_true rfl) dX3_stateOf_18
  · have hw := hwf hc
    clear hwt hwf hc
    refine vs_iconst hC dX3_stateOf_8 ?_
    refine vs_goto hC 18 dX3_stateOf_9 (by decide) ?_
    exact vs_cret (S2) hC hr hlk hW rfl ⟨⟨by decide, by decide⟩, hw⟩ (Nat.le_of_ble_eq_true rfl) (Nat.le_of_ble_eq_true rfl) dX3_stateOf_18
set_option maxHeartbeats 4000000 in
set_option maxRecDepth 100000 in
theorem c_X3_answerTo (l : Launch) (g : vs_G) (a r q : Nat → Nat) (wr : va_W) (S : vs_St) (x1 : Int) (post : Int → vs_St → Prop) (hw : wX3_answerTo S x1 post) : vs_MI l yX3_answerTo (Cond.code yX3_answerTo cX3_answerTo 2 (some .int) :: vs_ws) { frames := 3, cells := 0, slots := 0, locals := 64 } g [.ref (a 0), .int (vs_I x1)] (vs_W3 g a r q S ++ wr) (fun (S' : vs_St) => vs_W3 g a r q S' ++ wr) post 0 0 := by
  refine vs_ofW (Qc := fun A => vs_QI g A (fun (S' : vs_St) => vs_W3 g a r q S' ++ wr) post) (by decide +kernel) (Nat.le_of_ble_eq_true rfl) (fun p e s m below meth c A ls hC hr hlk hW hl => ?_)
  have hC : CallFix p m c cX3_answerTo 2 s _ vs_ws RX3 := hC
  have hl : lv_has ls 2 [(0, .ref (a 0)), (1, .int (vs_I x1))] := hl
  unfold wX3_answerTo at hw
  refine vs_aload_n hC hl 0 dX3_answerTo_0 rfl rfl ?_
  refine vs_iload_n hC hl 1 dX3_answerTo_1 rfl rfl ?_
  refine vs_callVI [.int (vs_I x1)] hC hW 0 rfl rfl vk_X3_isNoRequest vm_X3_149 (c_X3_isNoRequest l g a r q (wr) S x1 _ hw) rfl hl.1 rfl ⟨rfl, rfl⟩ ⟨Nat.le_of_ble_eq_true rfl, Nat.le_of_ble_eq_true rfl⟩ ⟨Nat.le_of_ble_eq_true rfl, Nat.le_of_ble_eq_true rfl⟩ (Nat.le_of_ble_eq_true rfl) dX3_answerTo_2 (fun r1 S2 H locs hw hW => ?_)
  have hW : vs_Wd g A _ (vs_W3 g a r q S2 ++ wr) _ _ s := hW
  obtain ⟨hx, hw⟩ := hw
  obtain ⟨hwt, hwf⟩ := hw
  refine vs_if_eq hC 10 hx dX3_answerTo_5 (by decide) (fun hc => ?_) (fun hc => ?_)
  · have hw := hwt hc
    clear hwt hwf hc
    refine vs_aload_n hC hl 0 dX3_answerTo_10 rfl rfl ?_
    refine vs_get hC hW 0 rfl rfl vs_inX3 24 (by decide) vf_X3_77 rfl dX3_answerTo_11 ?_
    refine vs_iload_n hC hl 1 dX3_answerTo_14 rfl rfl ?_
    obtain ⟨hi, hw⟩ := hw
    refine vs_iald hC hW 22 rfl (by decide) hi dX3_answerTo_15 ?_
    obtain ⟨hx, hw⟩ := hw
    obtain ⟨hwt, hwf⟩ := hw
    refine vs_if_ge hC 39 hx dX3_answerTo_16 (by decide) (fun hc => ?_) (fun hc => ?_)
    · have hw := hwt hc
      clear hwt hwf hc
      refine vs_aload_n hC hl 0 dX3_answerTo_39 rfl rfl ?_
      refine vs_iconst hC dX3_answerTo_40 ?_
      refine vs_callVI [.int (vs_I 2)] hC hW 0 rfl rfl vk_X3_fails vm_X3_123 (c_X3_fails l g a r q (wr) S2 2 _ hw) rfl hl.1 rfl ⟨rfl, rfl⟩ ⟨Nat.le_of_ble_eq_true rfl, Nat.le_of_ble_eq_true rfl⟩ ⟨Nat.le_of_ble_eq_true rfl, Nat.le_of_ble_eq_true rfl⟩ (Nat.le_of_ble_eq_true rfl) dX3_answerTo_41 (fun r3 S4 H locs hw hW => ?_)
      have hW : vs_Wd g A _ (vs_W3 g a r q S4 ++ wr) _ _ s := hW
      exact vs_iret (S4) hC hr hlk hW rfl hw (Nat.le_of_ble_eq_true rfl) (Nat.le_of_ble_eq_true rfl) dX3_answerTo_44
    · have hw := hwf hc
      clear hwt hwf hc
      refine vs_aload_n hC hl 0 dX3_answerTo_19 rfl rfl ?_
      refine vs_get hC hW 0 rfl rfl vs_inX3 26 (by decide) vf_X3_83 rfl dX3_answerTo_20 ?_
      refine vs_iload_n hC hl 1 dX3_answerTo_23 rfl rfl ?_
      obtain ⟨hi, hw⟩ := hw
      refine vs_cald hC hW 24 rfl (by decide) hi dX3_answerTo_24 ?_
      refine vs_bipush hC dX3_answerTo_25 (by decide +kernel) ?_
      obtain ⟨hx, hw⟩ := hw
      obtain ⟨hwt, hwf⟩ := hw
      refine vs_icmp_ne hC 39 hx ⟨by decide, by decide⟩ dX3_answerTo_27 (by decide) (fun hc => ?_) (fun hc => ?_)
      · have hw := hwt hc
        clear hwt hwf hc
        refine vs_aload_n hC hl 0 dX3_answerTo_39 rfl rfl ?_
        refine vs_iconst hC dX3_answerTo_40 ?_
        refine vs_callVI [.int (vs_I 2)] hC hW 0 rfl rfl vk_X3_fails vm_X3_123 (c_X3_fails l g a r q (wr) S2 2 _ hw) rfl hl.1 rfl ⟨rfl, rfl⟩ ⟨Nat.le_of_ble_eq_true rfl, Nat.le_of_ble_eq_true rfl⟩ ⟨Nat.le_of_ble_eq_true rfl, Nat.le_of_ble_eq_true rfl⟩ (Nat.le_of_ble_eq_true rfl) dX3_answerTo_41 (fun r5 S6 H locs hw hW => ?_)
        have hW : vs_Wd g A _ (vs_W3 g a r q S6 ++ wr) _ _ s := hW
        exact vs_iret (S6) hC hr hlk hW rfl hw (Nat.le_of_ble_eq_true rfl) (Nat.le_of_ble_eq_true rfl) dX3_answerTo_44
      · have hw := hwf hc
        clear hwt hwf hc
        refine vs_aload_n hC hl 0 dX3_answerTo_30 rfl rfl ?_
        refine vs_get hC hW 0 rfl rfl vs_inX3 25 (by decide) vf_X3_80 rfl dX3_answerTo_31 ?_
        refine vs_iload_n hC hl 1 dX3_answerTo_34 rfl rfl ?_
        obtain ⟨hi, hw⟩ := hw
        refine vs_iald hC hW 23 rfl (by decide) hi dX3_answerTo_35 ?_
        refine vs_goto hC 44 dX3_answerTo_36 (by decide) ?_
        exact vs_iret (S2) hC hr hlk hW rfl hw (Nat.le_of_ble_eq_true rfl) (Nat.le_of_ble_eq_true rfl) dX3_answerTo_44
  · have hw := hwf hc
    clear hwt hwf hc
    refine vs_iconst hC dX3_answerTo_8 ?_
    exact vs_iret (S2) hC hr hlk hW rfl hw (Nat.le_of_ble_eq_true rfl) (Nat.le_of_ble_eq_true rfl) dX3_answerTo_9
set_option maxHeartbeats 4000000 in
set_option maxRecDepth 100000 in
theorem c_X3_isNobody (l : Launch) (g : vs_G) (a r q : Nat → Nat) (wr : va_W) (S : vs_St) (x1 : Int) (post : Int → vs_St → Prop) (hw : wX3_isNobody S x1 post) : vs_MI l yX3_isNobody (Cond.code yX3_isNobody cX3_isNobody 2 (some .boolean) :: vs_ws) { frames := 2, cells := 0, slots := 0, locals := 43 } g [.ref (a 0), .int (vs_I x1)] (vs_W3 g a r q S ++ wr) (fun (S' : vs_St) => vs_W3 g a r q S' ++ wr) post 0 0 := by
  refine vs_ofW (Qc := fun A => vs_QI g A (fun (S' : vs_St) => vs_W3 g a r q S' ++ wr) post) (by decide +kernel) (Nat.le_of_ble_eq_true rfl) (fun p e s m below meth c A ls hC hr hlk hW hl => ?_)
  have hC : CallFix p m c cX3_isNobody 2 s _ vs_ws RX3 := hC
  have hl : lv_has ls 2 [(0, .ref (a 0)), (1, .int (vs_I x1))] := hl
  unfold wX3_isNobody at hw
  refine vs_aload_n hC hl 0 dX3_isNobody_0 rfl rfl ?_
  refine vs_aload_n hC hl 0 dX3_isNobody_1 rfl rfl ?_
  refine vs_iload_n hC hl 1 dX3_isNobody_2 rfl rfl ?_
  refine vs_callVI [.int (vs_I x1)] hC hW 0 rfl rfl vk_X3_isTenant vm_X3_133 (c_X3_isTenant l g a r q (wr) S x1 _ hw) rfl hl.1 rfl ⟨rfl, rfl⟩ ⟨Nat.le_of_ble_eq_true rfl, Nat.le_of_ble_eq_true rfl⟩ ⟨Nat.le_of_ble_eq_true rfl, Nat.le_of_ble_eq_true rfl⟩ (Nat.le_of_ble_eq_true rfl) dX3_isNobody_3 (fun r1 _ H locs hw hW => ?_)
  have hW : vs_Wd g A _ (vs_W3 g a r q S ++ wr) _ _ s := hW
  obtain ⟨hx, hw⟩ := hw
  obtain ⟨hwt, hwf⟩ := hw
  refine vs_if_eq hC 13 hx dX3_isNobody_6 (by decide) (fun hc => ?_) (fun hc => ?_)
  · have hw := hwt hc
    clear hwt hwf hc
    refine vs_iconst hC dX3_isNobody_13 ?_
    obtain ⟨S2, hS2⟩ : ∃ z : vs_St, z = vs_st S 0 0 1 := ⟨_, rfl⟩
    have hw := hw S2 hS2
    refine vs_put (Wo' := vs_W3 g a r q S2 ++ wr) hC hW 0 rfl rfl vs_inX3 tyX3_ok nmX3 0 (by decide) vf_X3_96 rfl rfl (Nat.le_of_ble_eq_true rfl) (by rw [hS2]; rfl) dX3_isNobody_14 (fun H locs hW => ?_)
    refine vs_aload_n hC hl 0 dX3_isNobody_17 rfl rfl ?_
    refine vs_get hC hW 0 rfl rfl vs_inX3 0 (by decide) vf_X3_96 rfl dX3_isNobody_18 ?_
    obtain ⟨hx, hw⟩ := hw
    obtain ⟨hwt, hwf⟩ := hw
    refine vs_if_le hC 28 hx dX3_isNobody_21 (by decide) (fun hc => ?_) (fun hc => ?_)
    · have hw := hwt hc
      clear hwt hwf hc
      refine vs_iconst hC dX3_isNobody_28 ?_
      exact vs_zret (S2) hC hr hlk hW rfl ⟨Or.inl rfl, hw⟩ (Nat.le_of_ble_eq_true rfl) (Nat.le_of_ble_eq_true rfl) dX3_isNobody_29
    · have hw := hwf hc
      clear hwt hwf hc
      refine vs_iconst hC dX3_isNobody_24 ?_
      refine vs_goto hC 29 dX3_isNobody_25 (by decide) ?_
      exact vs_zret (S2) hC hr hlk hW rfl ⟨Or.inr rfl, hw⟩ (Nat.le_of_ble_eq_true rfl) (Nat.le_of_ble_eq_true rfl) dX3_isNobody_29
  · have hw := hwf hc
    clear hwt hwf hc
    refine vs_iconst hC dX3_isNobody_9 ?_
    refine vs_goto hC 14 dX3_isNobody_10 (by decide) ?_
    obtain ⟨S3, hS3⟩ : ∃ z : vs_St, z = vs_st S 0 0 0 := ⟨_, rfl⟩
    have hw := hw S3 hS3
    refine vs_put (Wo' := vs_W3 g a r q S3 ++ wr) hC hW 0 rfl rfl vs_inX3 tyX3_ok nmX3 0 (by decide) vf_X3_96 rfl rfl (Nat.le_of_ble_eq_true rfl) (by rw [hS3]; rfl) dX3_isNobody_14 (fun H locs hW => ?_)
    refine vs_aload_n hC hl 0 dX3_isNobody_17 rfl rfl ?_
    refine vs_get hC hW 0 rfl rfl vs_inX3 0 (by decide) vf_X3_96 rfl dX3_isNobody_18 ?_
    obtain ⟨hx, hw⟩ := hw
    obtain ⟨hwt, hwf⟩ := hw
    refine vs_if_le hC 28 hx dX3_isNobody_21 (by decide) (fun hc => ?_) (fun hc => ?_)
    · have hw := hwt hc
      clear hwt hwf hc
      refine vs_iconst hC dX3_isNobody_28 ?_
      exact vs_zret (S3) hC hr hlk hW rfl ⟨Or.inl rfl, hw⟩ (Nat.le_of_ble_eq_true rfl) (Nat.le_of_ble_eq_true rfl) dX3_isNobody_29
    · have hw := hwf hc
      clear hwt hwf hc
      refine vs_iconst hC dX3_isNobody_24 ?_
      refine vs_goto hC 29 dX3_isNobody_25 (by decide) ?_
      exact vs_zret (S3) hC hr hlk hW rfl ⟨Or.inr rfl, hw⟩ (Nat.le_of_ble_eq_true rfl) (Nat.le_of_ble_eq_true rfl) dX3_isNobody_29
set_option maxHeartbeats 4000000 in
set_option maxRecDepth 100000 in
theorem c_X3_waitingOf (l : Launch) (g : vs_G) (a r q : Nat → Nat) (wr : va_W) (S : vs_St) (x1 : Int) (post : Int → vs_St → Prop) (hw : wX3_waitingOf S x1 post) : vs_MI l yX3_waitingOf (Cond.code yX3_waitingOf cX3_waitingOf 2 (some .int) :: vs_ws) { frames := 3, cells := 0, slots := 0, locals := 64 } g [.ref (a 0), .int (vs_I x1)] (vs_W3 g a r q S ++ wr) (fun (S' : vs_St) => vs_W3 g a r q S' ++ wr) post 0 0 := by
  refine vs_ofW (Qc := fun A => vs_QI g A (fun (S' : vs_St) => vs_W3 g a r q S' ++ wr) post) (by decide +kernel) (Nat.le_of_ble_eq_true rfl) (fun p e s m below meth c A ls hC hr hlk hW hl => ?_)
  have hC : CallFix p m c cX3_waitingOf 2 s _ vs_ws RX3 := hC
  have hl : lv_has ls 2 [(0, .ref (a 0)), (1, .int (vs_I x1))] := hl
  unfold wX3_waitingOf at hw
  refine vs_aload_n hC hl 0 dX3_waitingOf_0 rfl rfl ?_
  refine vs_iload_n hC hl 1 dX3_waitingOf_1 rfl rfl ?_
  refine vs_callVI [.int (vs_I x1)] hC hW 0 rfl rfl vk_X3_isNobody vm_X3_152 (c_X3_isNobody l g a r q (wr) S x1 _ hw) rfl hl.1 rfl ⟨rfl, rfl⟩ ⟨Nat.le_of_ble_eq_true rfl, Nat.le_of_ble_eq_true rfl⟩ ⟨Nat.le_of_ble_eq_true rfl, Nat.le_of_ble_eq_true rfl⟩ (Nat.le_of_ble_eq_true rfl) dX3_waitingOf_2 (fun r1 S2 H locs hw hW => ?_)
  have hW : vs_Wd g A _ (vs_W3 g a r q S2 ++ wr) _ _ s := hW
  obtain ⟨hx, hw⟩ := hw
  obtain ⟨hwt, hwf⟩ := hw
  refine vs_if_eq hC 12 hx dX3_waitingOf_5 (by decide) (fun hc => ?_) (fun hc => ?_)
  · have hw := hwt hc
    clear hwt hwf hc
    refine vs_aload_n hC hl 0 dX3_waitingOf_12 rfl rfl ?_
    refine vs_iload_n hC hl 1 dX3_waitingOf_13 rfl rfl ?_
    refine vs_callVI [.int (vs_I x1)] hC hW 0 rfl rfl vk_X3_waitingMany vm_X3_136 (c_X3_waitingMany l g a r q (wr) S2 x1 _ hw) rfl hl.1 rfl ⟨rfl, rfl⟩ ⟨Nat.le_of_ble_eq_true rfl, Nat.le_of_ble_eq_true rfl⟩ ⟨Nat.le_of_ble_eq_true rfl, Nat.le_of_ble_eq_true rfl⟩ (Nat.le_of_ble_eq_true rfl) dX3_waitingOf_14 (fun r3 _ H locs hw hW => ?_)
    have hW : vs_Wd g A _ (vs_W3 g a r q S2 ++ wr) _ _ s := hW
    exact vs_iret (S2) hC hr hlk hW rfl hw (Nat.le_of_ble_eq_true rfl) (Nat.le_of_ble_eq_true rfl) dX3_waitingOf_17
  · have hw := hwf hc
    clear hwt hwf hc
    refine vs_iconst hC dX3_waitingOf_8 ?_
    refine vs_goto hC 17 dX3_waitingOf_9 (by decide) ?_
    exact vs_iret (S2) hC hr hlk hW rfl hw (Nat.le_of_ble_eq_true rfl) (Nat.le_of_ble_eq_true rfl) dX3_waitingOf_17
set_option maxHeartbeats 4000000 in
set_option maxRecDepth 100000 in
theorem c_X3_servedOf (l : Launch) (g : vs_G) (a r q : Nat → Nat) (wr : va_W) (S : vs_St) (x1 : Int) (post : Int → vs_St → Prop) (hw : wX3_servedOf S x1 post) : vs_MI l yX3_servedOf (Cond.code yX3_servedOf cX3_servedOf 2 (some .int) :: vs_ws) { frames := 3, cells := 0, slots := 0, locals := 64 } g [.ref (a 0), .int (vs_I x1)] (vs_W3 g a r q S ++ wr) (fun (S' : vs_St) => vs_W3 g a r q S' ++ wr) post 0 0 := by
  refine vs_ofW (Qc := fun A => vs_QI g A (fun (S' : vs_St) => vs_W3 g a r q S' ++ wr) post) (by decide +kernel) (Nat.le_of_ble_eq_true rfl) (fun p e s m below meth c A ls hC hr hlk hW hl => ?_)
  have hC : CallFix p m c cX3_servedOf 2 s _ vs_ws RX3 := hC
  have hl : lv_has ls 2 [(0, .ref (a 0)), (1, .int (vs_I x1))] := hl
  unfold wX3_servedOf at hw
  refine vs_aload_n hC hl 0 dX3_servedOf_0 rfl rfl ?_
  refine vs_iload_n hC hl 1 dX3_servedOf_1 rfl rfl ?_
  refine vs_callVI [.int (vs_I x1)] hC hW 0 rfl rfl vk_X3_isNobody vm_X3_152 (c_X3_isNobody l g a r q (wr) S x1 _ hw) rfl hl.1 rfl ⟨rfl, rfl⟩ ⟨Nat.le_of_ble_eq_true rfl, Nat.le_of_ble_eq_true rfl⟩ ⟨Nat.le_of_ble_eq_true rfl, Nat.le_of_ble_eq_true rfl⟩ (Nat.le_of_ble_eq_true rfl) dX3_servedOf_2 (fun r1 S2 H locs hw hW => ?_)
  have hW : vs_Wd g A _ (vs_W3 g a r q S2 ++ wr) _ _ s := hW
  obtain ⟨hx, hw⟩ := hw
  obtain ⟨hwt, hwf⟩ := hw
  refine vs_if_eq hC 12 hx dX3_servedOf_5 (by decide) (fun hc => ?_) (fun hc => ?_)
  · have hw := hwt hc
    clear hwt hwf hc
    refine vs_aload_n hC hl 0 dX3_servedOf_12 rfl rfl ?_
    refine vs_get hC hW 0 rfl rfl vs_inX3 18 (by decide) vf_X3_59 rfl dX3_servedOf_13 ?_
    refine vs_iload_n hC hl 1 dX3_servedOf_16 rfl rfl ?_
    obtain ⟨hi, hw⟩ := hw
    refine vs_iald hC hW 16 rfl (by decide) hi dX3_servedOf_17 ?_
    exact vs_iret (S2) hC hr hlk hW rfl hw (Nat.le_of_ble_eq_true rfl) (Nat.le_of_ble_eq_true rfl) dX3_servedOf_18
  · have hw := hwf hc
    clear hwt hwf hc
    refine vs_iconst hC dX3_servedOf_8 ?_
    refine vs_goto hC 18 dX3_servedOf_9 (by decide) ?_
    exact vs_iret (S2) hC hr hlk hW rfl hw (Nat.le_of_ble_eq_true rfl) (Nat.le_of_ble_eq_true rfl) dX3_servedOf_18
set_option maxHeartbeats 4000000 in
set_option maxRecDepth 100000 in
theorem c_X3_creditsOf (l : Launch) (g : vs_G) (a r q : Nat → Nat) (wr : va_W) (S : vs_St) (x1 : Int) (post : Int → vs_St → Prop) (hw : wX3_creditsOf S x1 post) : vs_MI l yX3_creditsOf (Cond.code yX3_creditsOf cX3_creditsOf 2 (some .int) :: vs_ws) { frames := 3, cells := 0, slots := 0, locals := 64 } g [.ref (a 0), .int (vs_I x1)] (vs_W3 g a r q S ++ wr) (fun (S' : vs_St) => vs_W3 g a r q S' ++ wr) post 0 0 := by
  refine vs_ofW (Qc := fun A => vs_QI g A (fun (S' : vs_St) => vs_W3 g a r q S' ++ wr) post) (by decide +kernel) (Nat.le_of_ble_eq_true rfl) (fun p e s m below meth c A ls hC hr hlk hW hl => ?_)
  have hC : CallFix p m c cX3_creditsOf 2 s _ vs_ws RX3 := hC
  have hl : lv_has ls 2 [(0, .ref (a 0)), (1, .int (vs_I x1))] := hl
  unfold wX3_creditsOf at hw
  refine vs_aload_n hC hl 0 dX3_creditsOf_0 rfl rfl ?_
  refine vs_iload_n hC hl 1 dX3_creditsOf_1 rfl rfl ?_
  refine vs_callVI [.int (vs_I x1)] hC hW 0 rfl rfl vk_X3_isNobody vm_X3_152 (c_X3_isNobody l g a r q (wr) S x1 _ hw) rfl hl.1 rfl ⟨rfl, rfl⟩ ⟨Nat.le_of_ble_eq_true rfl, Nat.le_of_ble_eq_true rfl⟩ ⟨Nat.le_of_ble_eq_true rfl, Nat.le_of_ble_eq_true rfl⟩ (Nat.le_of_ble_eq_true rfl) dX3_creditsOf_2 (fun r1 S2 H locs hw hW => ?_)
  have hW : vs_Wd g A _ (vs_W3 g a r q S2 ++ wr) _ _ s := hW
  obtain ⟨hx, hw⟩ := hw
  obtain ⟨hwt, hwf⟩ := hw
  refine vs_if_eq hC 12 hx dX3_creditsOf_5 (by decide) (fun hc => ?_) (fun hc => ?_)
  · have hw := hwt hc
    clear hwt hwf hc
    refine vs_aload_n hC hl 0 dX3_creditsOf_12 rfl rfl ?_
    refine vs_get hC hW 0 rfl rfl vs_inX3 19 (by decide) vf_X3_62 rfl dX3_creditsOf_13 ?_
    refine vs_iload_n hC hl 1 dX3_creditsOf_16 rfl rfl ?_
    obtain ⟨hi, hw⟩ := hw
    refine vs_iald hC hW 17 rfl (by decide) hi dX3_creditsOf_17 ?_
    exact vs_iret (S2) hC hr hlk hW rfl hw (Nat.le_of_ble_eq_true rfl) (Nat.le_of_ble_eq_true rfl) dX3_creditsOf_18
  · have hw := hwf hc
    clear hwt hwf hc
    refine vs_iconst hC dX3_creditsOf_8 ?_
    refine vs_goto hC 18 dX3_creditsOf_9 (by decide) ?_
    exact vs_iret (S2) hC hr hlk hW rfl hw (Nat.le_of_ble_eq_true rfl) (Nat.le_of_ble_eq_true rfl) dX3_creditsOf_18
set_option maxHeartbeats 4000000 in
set_option maxRecDepth 100000 in
theorem c_X3_breachesOf (l : Launch) (g : vs_G) (a r q : Nat → Nat) (wr : va_W) (S : vs_St) (x1 : Int) (post : Int → vs_St → Prop) (hw : wX3_breachesOf S x1 post) : vs_MI l yX3_breachesOf (Cond.code yX3_breachesOf cX3_breachesOf 2 (some .int) :: vs_ws) { frames := 3, cells := 0, slots := 0, locals := 64 } g [.ref (a 0), .int (vs_I x1)] (vs_W3 g a r q S ++ wr) (fun (S' : vs_St) => vs_W3 g a r q S' ++ wr) post 0 0 := by
  refine vs_ofW (Qc := fun A => vs_QI g A (fun (S' : vs_St) => vs_W3 g a r q S' ++ wr) post) (by decide +kernel) (Nat.le_of_ble_eq_true rfl) (fun p e s m below meth c A ls hC hr hlk hW hl => ?_)
  have hC : CallFix p m c cX3_breachesOf 2 s _ vs_ws RX3 := hC
  have hl : lv_has ls 2 [(0, .ref (a 0)), (1, .int (vs_I x1))] := hl
  unfold wX3_breachesOf at hw
  refine vs_aload_n hC hl 0 dX3_breachesOf_0 rfl rfl ?_
  refine vs_iload_n hC hl 1 dX3_breachesOf_1 rfl rfl ?_
  refine vs_callVI [.int (vs_I x1)] hC hW 0 rfl rfl vk_X3_isNobody vm_X3_152 (c_X3_isNobody l g a r q (wr) S x1 _ hw) rfl hl.1 rfl ⟨rfl, rfl⟩ ⟨Nat.le_of_ble_eq_true rfl, Nat.le_of_ble_eq_true rfl⟩ ⟨Nat.le_of_ble_eq_true rfl, Nat.le_of_ble_eq_true rfl⟩ (Nat.le_of_ble_eq_true rfl) dX3_breachesOf_2 (fun r1 S2 H locs hw hW => ?_)
  have hW : vs_Wd g A _ (vs_W3 g a r q S2 ++ wr) _ _ s := hW
  obtain ⟨hx, hw⟩ := hw
  obtain ⟨hwt, hwf⟩ := hw
  refine vs_if_eq hC 12 hx dX3_breachesOf_5 (by decide) (fun hc => ?_) (fun hc => ?_)
  · have hw := hwt hc
    clear hwt hwf hc
    refine vs_aload_n hC hl 0 dX3_breachesOf_12 rfl rfl ?_
    refine vs_get hC hW 0 rfl rfl vs_inX3 20 (by decide) vf_X3_65 rfl dX3_breachesOf_13 ?_
    refine vs_iload_n hC hl 1 dX3_breachesOf_16 rfl rfl ?_
    obtain ⟨hi, hw⟩ := hw
    refine vs_iald hC hW 18 rfl (by decide) hi dX3_breachesOf_17 ?_
    exact vs_iret (S2) hC hr hlk hW rfl hw (Nat.le_of_ble_eq_true rfl) (Nat.le_of_ble_eq_true rfl) dX3_breachesOf_18
  · have hw := hwf hc
    clear hwt hwf hc
    refine vs_iconst hC dX3_breachesOf_8 ?_
    refine vs_goto hC 18 dX3_breachesOf_9 (by decide) ?_
    exact vs_iret (S2) hC hr hlk hW rfl hw (Nat.le_of_ble_eq_true rfl) (Nat.le_of_ble_eq_true rfl) dX3_breachesOf_18
set_option maxHeartbeats 4000000 in
set_option maxRecDepth 100000 in
theorem c_X3_putsAnew (l : Launch) (g : vs_G) (a r q : Nat → Nat) (wr : va_W) (S : vs_St) (x1 : Int) (post : Int → vs_St → Prop) (hw : wX3_putsAnew S x1 post) : vs_MI l yX3_putsAnew (Cond.code yX3_putsAnew cX3_putsAnew 4 (some .boolean) :: vs_ws) { frames := 2, cells := 0, slots := 0, locals := 46 } g [.ref (a 0), .int (vs_I x1)] (vs_W3 g a r q S ++ wr) (fun (S' : vs_St) => vs_W3 g a r q S' ++ wr) post 0 0 := by
  refine vs_ofW (Qc := fun A => vs_QI g A (fun (S' : vs_St) => vs_W3 g a r q S' ++ wr) post) (by decide +kernel) (Nat.le_of_ble_eq_true rfl) (fun p e s m below meth c A ls hC hr hlk hW hl => ?_)
  have hC : CallFix p m c cX3_putsAnew 4 s _ vs_ws RX3 := hC
  have hl : lv_has ls 4 [(0, .ref (a 0)), (1, .int (vs_I x1))] := hl
  unfold wX3_putsAnew at hw
  refine vs_aload_n hC hl 0 dX3_putsAnew_0 rfl rfl ?_
  refine vs_callVV [] hC hW 0 rfl rfl vk_X3_keepsAll vm_X3_155 (c_X3_keepsAll l g a r q (wr) S  _ hw) rfl hl.1 rfl ⟨rfl, rfl⟩ ⟨Nat.le_of_ble_eq_true rfl, Nat.le_of_ble_eq_true rfl⟩ ⟨Nat.le_of_ble_eq_true rfl, Nat.le_of_ble_eq_true rfl⟩ (Nat.le_of_ble_eq_true rfl) dX3_putsAnew_1 (fun S1 H locs hw hW => ?_)
  have hW : vs_Wd g A _ (vs_W3 g a r q S1 ++ wr) _ _ s := hW
  obtain ⟨J2, μ2, hJ, hB2⟩ := hw
  refine vs_loop (V := vs_St) (J := fun v => J2 v) (μ := fun v => μ2 v) (fun v => vs_W3 g a r q v ++ wr) (fun v => [(0, .ref (a 0)), (1, .int (vs_I x1))]) (fun v hJ ih2 H locs ls hW hl => ?_) S1 hJ hW (lv_sub hl [0, 1] rfl)
  obtain ⟨S3, hv⟩ : ∃ z, z = v := ⟨_, rfl⟩
  subst hv
  have hw := hB2 S3 hJ
  have hW : vs_Wd g A _ (vs_W3 g a r q S3 ++ wr) _ _ s := hW
  have hl : lv_has ls 4 [(0, .ref (a 0)), (1, .int (vs_I x1))] := hl
  clear hJ
  unfold lX3_putsAnew_4 at hw
  refine vs_aload_n hC hl 0 dX3_putsAnew_4 rfl rfl ?_
  refine vs_get hC hW 0 rfl rfl vs_inX3 10 (by decide) vf_X3_38 rfl dX3_putsAnew_5 ?_
  refine vs_iload_n hC hl 1 dX3_putsAnew_8 rfl rfl ?_
  obtain ⟨hi, hw⟩ := hw
  refine vs_iald hC hW 9 rfl (by decide) hi dX3_putsAnew_9 ?_
  obtain ⟨hx, hw⟩ := hw
  obtain ⟨hwt, hwf⟩ := hw
  refine vs_if_le hC 22 hx dX3_putsAnew_10 (by decide) (fun hc => ?_) (fun hc => ?_)
  · have hw := hwt hc
    clear hwt hwf hc
    refine vs_iconst hC dX3_putsAnew_22 ?_
    refine vs_istore_n (L' := [(0, .ref (a 0)), (1, .int (vs_I x1)), (2, .int (vs_I 0))]) hC hl [1, 2, 0] dX3_putsAnew_23 rfl (by decide) rfl (fun ls hl => ?_)
    obtain ⟨J4, μ4, hJ, hB4⟩ := hw
    refine vs_loop (V := Int × vs_St) (J := fun v => J4 v.1 v.2) (μ := fun v => μ4 v.1 v.2) (fun v => vs_W3 g a r q v.2 ++ wr) (fun v => [(0, .ref (a 0)), (1, .int (vs_I x1)), (2, .int (vs_I v.1))]) (fun v hJ ih4 H locs ls hW hl => ?_) (0, S3) hJ hW (lv_sub hl [0, 1, 2] rfl)
    obtain ⟨v5, S6⟩ := v
    have hw := hB4 v5 S6 hJ
    have hW : vs_Wd g A _ (vs_W3 g a r q S6 ++ wr) _ _ s := hW
    have hl : lv_has ls 4 [(0, .ref (a 0)), (1, .int (vs_I x1)), (2, .int (vs_I v5))] := hl
    clear hJ
    unfold lX3_putsAnew_24 at hw
    refine vs_iload_n hC hl 2 dX3_putsAnew_24 rfl rfl ?_
    refine vs_aload_n hC hl 0 dX3_putsAnew_25 rfl rfl ?_
    refine vs_get hC hW 0 rfl rfl vs_inX3 16 (by decide) vf_X3_53 rfl dX3_putsAnew_26 ?_
    refine vs_iload_n hC hl 1 dX3_putsAnew_29 rfl rfl ?_
    refine vs_bipush hC dX3_putsAnew_30 (by decide +kernel) ?_
    obtain ⟨hi, hw⟩ := hw
    refine vs_idiv hC dX3_putsAnew_32 ⟨hi.1, hi.2, by decide, by decide⟩ ?_
    obtain ⟨hi, hw⟩ := hw
    refine vs_iald hC hW 14 rfl (by decide) hi dX3_putsAnew_33 ?_
    obtain ⟨hx, hw⟩ := hw
    obtain ⟨hy, hw⟩ := hw
    obtain ⟨hwt, hwf⟩ := hw
    refine vs_icmp_ge hC 65 hx hy dX3_putsAnew_34 (by decide) (fun hc => ?_) (fun hc => ?_)
    · have hw := hwt hc
      clear hwt hwf hc
      refine vs_aload_n hC hl 0 dX3_putsAnew_65 rfl rfl ?_
      refine vs_get hC hW 0 rfl rfl vs_inX3 14 (by decide) vf_X3_50 rfl dX3_putsAnew_66 ?_
      refine vs_iload_n hC hl 1 dX3_putsAnew_69 rfl rfl ?_
      obtain ⟨hi, hw⟩ := hw
      refine vs_zald hC hW 13 rfl (by decide) hi dX3_putsAnew_70 ?_
      obtain ⟨hx, hw⟩ := hw
      obtain ⟨hwt, hwf⟩ := hw
      refine vs_if_ne hC 94 hx dX3_putsAnew_71 (by decide) (fun hc => ?_) (fun hc => ?_)
      · have hw := hwt hc
        clear hwt hwf hc
        refine vs_aload_n hC hl 0 dX3_putsAnew_94 rfl rfl ?_
        refine vs_get hC hW 0 rfl rfl vs_inX3 14 (by decide) vf_X3_50 rfl dX3_putsAnew_95 ?_
        refine vs_iload_n hC hl 1 dX3_putsAnew_98 rfl rfl ?_
        refine vs_iconst hC dX3_putsAnew_99 ?_
        obtain ⟨hi, hw⟩ := hw
        obtain ⟨S7, hS7⟩ : ∃ z : vs_St, z = vs_st S6 14 x1 1 := ⟨_, rfl⟩
        have hw := hw S7 hS7
        refine vs_zast (Wo' := vs_W3 g a r q S7 ++ wr) hC hW 13 rfl (by decide) hi (by decide) (by rw [hS7]; rfl) dX3_putsAnew_100 (fun H locs hW => ?_)
        refine vs_iconst hC dX3_putsAnew_101 ?_
        exact vs_zret (S7) hC hr hlk hW rfl ⟨Or.inr rfl, hw⟩ (Nat.le_of_ble_eq_true rfl) (Nat.le_of_ble_eq_true rfl) dX3_putsAnew_102
      · have hw := hwf hc
        clear hwt hwf hc
        refine vs_aload_n hC hl 0 dX3_putsAnew_74 rfl rfl ?_
        refine vs_get hC hW 0 rfl rfl vs_inX3 13 (by decide) vf_X3_47 rfl dX3_putsAnew_75 ?_
        refine vs_aload_n hC hl 0 dX3_putsAnew_78 rfl rfl ?_
        refine vs_get hC hW 0 rfl rfl vs_inX3 15 (by decide) vf_X3_171 rfl dX3_putsAnew_79 ?_
        refine vs_iload_n hC hl 1 dX3_putsAnew_82 rfl rfl ?_
        obtain ⟨hi, hw⟩ := hw
        obtain ⟨S8, hS8⟩ : ∃ z : vs_St, z = vs_st S6 13 (S6 15 0) x1 := ⟨_, rfl⟩
        have hw := hw S8 hS8
        refine vs_iast (Wo' := vs_W3 g a r q S8 ++ wr) hC hW 12 rfl (by decide) hi (by rw [hS8]; rfl) dX3_putsAnew_83 (fun H locs hW => ?_)
        refine vs_aload_n hC hl 0 dX3_putsAnew_84 rfl rfl ?_
        refine vs_dup hC dX3_putsAnew_85 rfl ?_
        refine vs_get hC hW 0 rfl rfl vs_inX3 15 (by decide) vf_X3_171 rfl dX3_putsAnew_86 ?_
        refine vs_iconst hC dX3_putsAnew_89 ?_
        refine vs_iadd hC dX3_putsAnew_90 ?_
        obtain ⟨S9, hS9⟩ : ∃ z : vs_St, z = vs_st S8 15 0 ((S8 15 0) + 1) := ⟨_, rfl⟩
        have hw := hw S9 hS9
        refine vs_put (Wo' := vs_W3 g a r q S9 ++ wr) hC hW 0 rfl rfl vs_inX3 tyX3_ok nmX3 15 (by decide) vf_X3_171 rfl rfl (Nat.le_of_ble_eq_true rfl) (by rw [hS9]; rfl) dX3_putsAnew_91 (fun H locs hW => ?_)
        refine vs_aload_n hC hl 0 dX3_putsAnew_94 rfl rfl ?_
        refine vs_get hC hW 0 rfl rfl vs_inX3 14 (by decide) vf_X3_50 rfl dX3_putsAnew_95 ?_
        refine vs_iload_n hC hl 1 dX3_putsAnew_98 rfl rfl ?_
        refine vs_iconst hC dX3_putsAnew_99 ?_
        obtain ⟨hi, hw⟩ := hw
        obtain ⟨S10, hS10⟩ : ∃ z : vs_St, z = vs_st S9 14 x1 1 := ⟨_, rfl⟩
        have hw := hw S10 hS10
        refine vs_zast (Wo' := vs_W3 g a r q S10 ++ wr) hC hW 13 rfl (by decide) hi (by decide) (by rw [hS10]; rfl) dX3_putsAnew_100 (fun H locs hW => ?_)
        refine vs_iconst hC dX3_putsAnew_101 ?_
        exact vs_zret (S10) hC hr hlk hW rfl ⟨Or.inr rfl, hw⟩ (Nat.le_of_ble_eq_true rfl) (Nat.le_of_ble_eq_true rfl) dX3_putsAnew_102
    · have hw := hwf hc
      clear hwt hwf hc
      refine vs_aload_n hC hl 0 dX3_putsAnew_37 rfl rfl ?_
      refine vs_iload_n hC hl 1 dX3_putsAnew_38 rfl rfl ?_
      refine vs_callVI [.int (vs_I x1)] hC hW 0 rfl rfl vk_X3_place vm_X3_162 (c_X3_place l g a r q (wr) S6 x1 _ hw) rfl hl.1 rfl ⟨rfl, rfl⟩ ⟨Nat.le_of_ble_eq_true rfl, Nat.le_of_ble_eq_true rfl⟩ ⟨Nat.le_of_ble_eq_true rfl, Nat.le_of_ble_eq_true rfl⟩ (Nat.le_of_ble_eq_true rfl) dX3_putsAnew_39 (fun r11 _ H locs hw hW => ?_)
      have hW : vs_Wd g A _ (vs_W3 g a r q S6 ++ wr) _ _ s := hW
      refine vs_istore_n (L' := [(0, .ref (a 0)), (1, .int (vs_I x1)), (2, .int (vs_I v5)), (3, .int (vs_I r11))]) hC hl [1, 2, 3, 0] dX3_putsAnew_42 rfl (by decide) rfl (fun ls hl => ?_)
      refine vs_iload_n hC hl 3 dX3_putsAnew_43 rfl rfl ?_
      obtain ⟨hx, hw⟩ := hw
      obtain ⟨hwt, hwf⟩ := hw
      refine vs_if_ge hC 53 hx dX3_putsAnew_44 (by decide) (fun hc => ?_) (fun hc => ?_)
      · have hw := hwt hc
        clear hwt hwf hc
        refine vs_aload_n hC hl 0 dX3_putsAnew_53 rfl rfl ?_
        refine vs_iload_n hC hl 1 dX3_putsAnew_54 rfl rfl ?_
        refine vs_iload_n hC hl 3 dX3_putsAnew_55 rfl rfl ?_
        refine vs_callVV [.int (vs_I x1), .int (vs_I r11)] hC hW 0 rfl rfl vk_X3_puts vm_X3_168 (c_X3_puts l g a r q (wr) S6 x1 r11 _ hw) rfl hl.1 rfl ⟨rfl, rfl⟩ ⟨Nat.le_of_ble_eq_true rfl, Nat.le_of_ble_eq_true rfl⟩ ⟨Nat.le_of_ble_eq_true rfl, Nat.le_of_ble_eq_true rfl⟩ (Nat.le_of_ble_eq_true rfl) dX3_putsAnew_56 (fun S12 H locs hw hW => ?_)
        have hW : vs_Wd g A _ (vs_W3 g a r q S12 ++ wr) _ _ s := hW
        refine vs_iinc (L' := [(0, .ref (a 0)), (1, .int (vs_I x1)), (2, .int (vs_I (v5 + 1))), (3, .int (vs_I r11))]) hC hl 2 [1, 2, 0, 3] dX3_putsAnew_59 rfl (by decide) rfl (fun ls hl => ?_)
        refine vs_goto hC 24 dX3_putsAnew_62 (by decide) ?_
        exact ih4 (v5 + 1, S12) hw _ _ _ hW (lv_sub hl [0, 1, 2] rfl)
      · have hw := hwf hc
        clear hwt hwf hc
        refine vs_aload_n hC hl 0 dX3_putsAnew_47 rfl rfl ?_
        refine vs_callVV [] hC hW 0 rfl rfl vk_X3_laysBack vm_X3_165 (c_X3_laysBack l g a r q (wr) S6  _ hw) rfl hl.1 rfl ⟨rfl, rfl⟩ ⟨Nat.le_of_ble_eq_true rfl, Nat.le_of_ble_eq_true rfl⟩ ⟨Nat.le_of_ble_eq_true rfl, Nat.le_of_ble_eq_true rfl⟩ (Nat.le_of_ble_eq_true rfl) dX3_putsAnew_48 (fun S13 H locs hw hW => ?_)
        have hW : vs_Wd g A _ (vs_W3 g a r q S13 ++ wr) _ _ s := hW
        refine vs_iconst hC dX3_putsAnew_51 ?_
        exact vs_zret (S13) hC hr hlk hW rfl ⟨Or.inl rfl, hw⟩ (Nat.le_of_ble_eq_true rfl) (Nat.le_of_ble_eq_true rfl) dX3_putsAnew_52
  · have hw := hwf hc
    clear hwt hwf hc
    refine vs_aload_n hC hl 0 dX3_putsAnew_13 rfl rfl ?_
    refine vs_iload_n hC hl 1 dX3_putsAnew_14 rfl rfl ?_
    refine vs_iconst hC dX3_putsAnew_15 ?_
    refine vs_callVV [.int (vs_I x1), .int (vs_I 0)] hC hW 0 rfl rfl vk_X3_takes vm_X3_158 (c_X3_takes l g a r q (wr) S3 x1 0 _ hw) rfl hl.1 rfl ⟨rfl, rfl⟩ ⟨Nat.le_of_ble_eq_true rfl, Nat.le_of_ble_eq_true rfl⟩ ⟨Nat.le_of_ble_eq_true rfl, Nat.le_of_ble_eq_true rfl⟩ (Nat.le_of_ble_eq_true rfl) dX3_putsAnew_16 (fun S14 H locs hw hW => ?_)
    have hW : vs_Wd g A _ (vs_W3 g a r q S14 ++ wr) _ _ s := hW
    refine vs_goto hC 4 dX3_putsAnew_19 (by decide) ?_
    exact ih2 S14 hw _ _ _ hW (lv_sub hl [0, 1] rfl)
set_option maxHeartbeats 4000000 in
set_option maxRecDepth 100000 in
theorem c_X3_writes (l : Launch) (g : vs_G) (a r q : Nat → Nat) (wr : va_W) (S : vs_St) (x1 : Int) (x2 : Int) (post : Int → vs_St → Prop) (hw : wX3_writes S x1 x2 post) : vs_MI l yX3_writes (Cond.code yX3_writes cX3_writes 4 (some .boolean) :: vs_ws) { frames := 3, cells := 0, slots := 0, locals := 69 } g [.ref (a 0), .int (vs_I x1), .int (vs_I x2)] (vs_W3 g a r q S ++ wr) (fun (S' : vs_St) => vs_W3 g a r q S' ++ wr) post 0 0 := by
  refine vs_ofW (Qc := fun A => vs_QI g A (fun (S' : vs_St) => vs_W3 g a r q S' ++ wr) post) (by decide +kernel) (Nat.le_of_ble_eq_true rfl) (fun p e s m below meth c A ls hC hr hlk hW hl => ?_)
  have hC : CallFix p m c cX3_writes 4 s _ vs_ws RX3 := hC
  have hl : lv_has ls 4 [(0, .ref (a 0)), (1, .int (vs_I x1)), (2, .int (vs_I x2))] := hl
  unfold wX3_writes at hw
  refine vs_aload_n hC hl 0 dX3_writes_0 rfl rfl ?_
  refine vs_get hC hW 0 rfl rfl vs_inX3 14 (by decide) vf_X3_50 rfl dX3_writes_1 ?_
  refine vs_iload_n hC hl 1 dX3_writes_4 rfl rfl ?_
  obtain ⟨hi, hw⟩ := hw
  refine vs_zald hC hW 13 rfl (by decide) hi dX3_writes_5 ?_
  obtain ⟨hx, hw⟩ := hw
  obtain ⟨hwt, hwf⟩ := hw
  refine vs_if_eq hC 17 hx dX3_writes_6 (by decide) (fun hc => ?_) (fun hc => ?_)
  · have hw := hwt hc
    clear hwt hwf hc
    refine vs_aload_n hC hl 0 dX3_writes_17 rfl rfl ?_
    refine vs_iload_n hC hl 1 dX3_writes_18 rfl rfl ?_
    refine vs_callVI [.int (vs_I x1)] hC hW 0 rfl rfl vk_X3_putsAnew vm_X3_177 (c_X3_putsAnew l g a r q (wr) S x1 _ hw) rfl hl.1 rfl ⟨rfl, rfl⟩ ⟨Nat.le_of_ble_eq_true rfl, Nat.le_of_ble_eq_true rfl⟩ ⟨Nat.le_of_ble_eq_true rfl, Nat.le_of_ble_eq_true rfl⟩ (Nat.le_of_ble_eq_true rfl) dX3_writes_19 (fun r1 S2 H locs hw hW => ?_)
    have hW : vs_Wd g A _ (vs_W3 g a r q S2 ++ wr) _ _ s := hW
    obtain ⟨hx, hw⟩ := hw
    obtain ⟨hwt, hwf⟩ := hw
    refine vs_if_ne hC 27 hx dX3_writes_22 (by decide) (fun hc => ?_) (fun hc => ?_)
    · have hw := hwt hc
      clear hwt hwf hc
      refine vs_iconst hC dX3_writes_27 ?_
      refine vs_istore_n (L' := [(0, .ref (a 0)), (1, .int (vs_I x1)), (2, .int (vs_I x2)), (3, .int (vs_I 0))]) hC hl [1, 2, 3, 0] dX3_writes_28 rfl (by decide) rfl (fun ls hl => ?_)
      obtain ⟨J3, μ3, hJ, hB3⟩ := hw
      refine vs_loop (V := Int × vs_St) (J := fun v => J3 v.1 v.2) (μ := fun v => μ3 v.1 v.2) (fun v => vs_W3 g a r q v.2 ++ wr) (fun v => [(0, .ref (a 0)), (1, .int (vs_I x1)), (2, .int (vs_I x2)), (3, .int (vs_I v.1))]) (fun v hJ ih3 H locs ls hW hl => ?_) (0, S2) hJ hW (lv_sub hl [0, 1, 2, 3] rfl)
      obtain ⟨v4, S5⟩ := v
      have hw := hB3 v4 S5 hJ
      have hW : vs_Wd g A _ (vs_W3 g a r q S5 ++ wr) _ _ s := hW
      have hl : lv_has ls 4 [(0, .ref (a 0)), (1, .int (vs_I x1)), (2, .int (vs_I x2)), (3, .int (vs_I v4))] := hl
      clear hJ
      unfold lX3_writes_29 at hw
      refine vs_iload_n hC hl 3 dX3_writes_29 rfl rfl ?_
      refine vs_aload_n hC hl 0 dX3_writes_30 rfl rfl ?_
      refine vs_get hC hW 0 rfl rfl vs_inX3 10 (by decide) vf_X3_38 rfl dX3_writes_31 ?_
      refine vs_iload_n hC hl 1 dX3_writes_34 rfl rfl ?_
      obtain ⟨hi, hw⟩ := hw
      refine vs_iald hC hW 9 rfl (by decide) hi dX3_writes_35 ?_
      obtain ⟨hx, hw⟩ := hw
      obtain ⟨hy, hw⟩ := hw
      obtain ⟨hwt, hwf⟩ := hw
      refine vs_icmp_ge hC 59 hx hy dX3_writes_36 (by decide) (fun hc => ?_) (fun hc => ?_)
      · have hw := hwt hc
        clear hwt hwf hc
        refine vs_aload_n hC hl 0 dX3_writes_59 rfl rfl ?_
        refine vs_get hC hW 0 rfl rfl vs_inX3 12 (by decide) vf_X3_44 rfl dX3_writes_60 ?_
        refine vs_iload_n hC hl 1 dX3_writes_63 rfl rfl ?_
        refine vs_iload_n hC hl 2 dX3_writes_64 rfl rfl ?_
        obtain ⟨hi, hw⟩ := hw
        obtain ⟨S6, hS6⟩ : ∃ z : vs_St, z = vs_st S5 12 x1 x2 := ⟨_, rfl⟩
        have hw := hw S6 hS6
        refine vs_iast (Wo' := vs_W3 g a r q S6 ++ wr) hC hW 11 rfl (by decide) hi (by rw [hS6]; rfl) dX3_writes_65 (fun H locs hW => ?_)
        refine vs_iconst hC dX3_writes_66 ?_
        exact vs_zret (S6) hC hr hlk hW rfl ⟨Or.inr rfl, hw⟩ (Nat.le_of_ble_eq_true rfl) (Nat.le_of_ble_eq_true rfl) dX3_writes_67
      · have hw := hwf hc
        clear hwt hwf hc
        refine vs_aload_n hC hl 0 dX3_writes_39 rfl rfl ?_
        refine vs_get hC hW 0 rfl rfl vs_inX3 5 (by decide) vf_X3_23 rfl dX3_writes_40 ?_
        refine vs_aload_n hC hl 0 dX3_writes_43 rfl rfl ?_
        refine vs_get hC hW 0 rfl rfl vs_inX3 8 (by decide) vf_X3_32 rfl dX3_writes_44 ?_
        refine vs_iload_n hC hl 1 dX3_writes_47 rfl rfl ?_
        obtain ⟨hq, hw⟩ := hw
        have hr7 := hq
        refine vs_aald2 (r := r) hC hW 7 rfl (by decide) hq dX3_writes_48 ?_
        refine vs_iload_n hC hl 3 dX3_writes_49 rfl rfl ?_
        obtain ⟨hi, hw⟩ := hw
        refine vs_iald2 hC hW (25 + Int.toNat x1) (vs_rowat8 hr7) hi dX3_writes_50 ?_
        refine vs_iconst hC dX3_writes_51 ?_
        obtain ⟨hi, hw⟩ := hw
        obtain ⟨S8, hS8⟩ : ∃ z : vs_St, z = vs_st S5 5 (S5 8 (3 * x1 + v4)) 0 := ⟨_, rfl⟩
        have hw := hw S8 hS8
        refine vs_zast (Wo' := vs_W3 g a r q S8 ++ wr) hC hW 5 rfl (by decide) hi (by decide) (by rw [hS8]; rfl) dX3_writes_52 (fun H locs hW => ?_)
        refine vs_iinc (L' := [(0, .ref (a 0)), (1, .int (vs_I x1)), (2, .int (vs_I x2)), (3, .int (vs_I (v4 + 1)))]) hC hl 3 [1, 2, 3, 0] dX3_writes_53 rfl (by decide) rfl (fun ls hl => ?_)
        refine vs_goto hC 29 dX3_writes_56 (by decide) ?_
        exact ih3 (v4 + 1, S8) hw _ _ _ hW (lv_sub hl [0, 1, 2, 3] rfl)
    · have hw := hwf hc
      clear hwt hwf hc
      refine vs_iconst hC dX3_writes_25 ?_
      exact vs_zret (S2) hC hr hlk hW rfl ⟨Or.inl rfl, hw⟩ (Nat.le_of_ble_eq_true rfl) (Nat.le_of_ble_eq_true rfl) dX3_writes_26
  · have hw := hwf hc
    clear hwt hwf hc
    refine vs_aload_n hC hl 0 dX3_writes_9 rfl rfl ?_
    refine vs_iload_n hC hl 1 dX3_writes_10 rfl rfl ?_
    refine vs_callVI [.int (vs_I x1)] hC hW 0 rfl rfl vk_X3_lost vm_X3_174 (c_X3_lost l g a r q (wr) S x1 _ hw) rfl hl.1 rfl ⟨rfl, rfl⟩ ⟨Nat.le_of_ble_eq_true rfl, Nat.le_of_ble_eq_true rfl⟩ ⟨Nat.le_of_ble_eq_true rfl, Nat.le_of_ble_eq_true rfl⟩ (Nat.le_of_ble_eq_true rfl) dX3_writes_11 (fun r9 _ H locs hw hW => ?_)
    have hW : vs_Wd g A _ (vs_W3 g a r q S ++ wr) _ _ s := hW
    obtain ⟨hx, hw⟩ := hw
    obtain ⟨hwt, hwf⟩ := hw
    refine vs_if_eq hC 27 hx dX3_writes_14 (by decide) (fun hc => ?_) (fun hc => ?_)
    · have hw := hwt hc
      clear hwt hwf hc
      refine vs_iconst hC dX3_writes_27 ?_
      refine vs_istore_n (L' := [(0, .ref (a 0)), (1, .int (vs_I x1)), (2, .int (vs_I x2)), (3, .int (vs_I 0))]) hC hl [1, 2, 3, 0] dX3_writes_28 rfl (by decide) rfl (fun ls hl => ?_)
      obtain ⟨J10, μ10, hJ, hB10⟩ := hw
      refine vs_loop (V := Int × vs_St) (J := fun v => J10 v.1 v.2) (μ := fun v => μ10 v.1 v.2) (fun v => vs_W3 g a r q v.2 ++ wr) (fun v => [(0, .ref (a 0)), (1, .int (vs_I x1)), (2, .int (vs_I x2)), (3, .int (vs_I v.1))]) (fun v hJ ih10 H locs ls hW hl => ?_) (0, S) hJ hW (lv_sub hl [0, 1, 2, 3] rfl)
      obtain ⟨v11, S12⟩ := v
      have hw := hB10 v11 S12 hJ
      have hW : vs_Wd g A _ (vs_W3 g a r q S12 ++ wr) _ _ s := hW
      have hl : lv_has ls 4 [(0, .ref (a 0)), (1, .int (vs_I x1)), (2, .int (vs_I x2)), (3, .int (vs_I v11))] := hl
      clear hJ
      unfold lX3_writes_29 at hw
      refine vs_iload_n hC hl 3 dX3_writes_29 rfl rfl ?_
      refine vs_aload_n hC hl 0 dX3_writes_30 rfl rfl ?_
      refine vs_get hC hW 0 rfl rfl vs_inX3 10 (by decide) vf_X3_38 rfl dX3_writes_31 ?_
      refine vs_iload_n hC hl 1 dX3_writes_34 rfl rfl ?_
      obtain ⟨hi, hw⟩ := hw
      refine vs_iald hC hW 9 rfl (by decide) hi dX3_writes_35 ?_
      obtain ⟨hx, hw⟩ := hw
      obtain ⟨hy, hw⟩ := hw
      obtain ⟨hwt, hwf⟩ := hw
      refine vs_icmp_ge hC 59 hx hy dX3_writes_36 (by decide) (fun hc => ?_) (fun hc => ?_)
      · have hw := hwt hc
        clear hwt hwf hc
        refine vs_aload_n hC hl 0 dX3_writes_59 rfl rfl ?_
        refine vs_get hC hW 0 rfl rfl vs_inX3 12 (by decide) vf_X3_44 rfl dX3_writes_60 ?_
        refine vs_iload_n hC hl 1 dX3_writes_63 rfl rfl ?_
        refine vs_iload_n hC hl 2 dX3_writes_64 rfl rfl ?_
        obtain ⟨hi, hw⟩ := hw
        obtain ⟨S13, hS13⟩ : ∃ z : vs_St, z = vs_st S12 12 x1 x2 := ⟨_, rfl⟩
        have hw := hw S13 hS13
        refine vs_iast (Wo' := vs_W3 g a r q S13 ++ wr) hC hW 11 rfl (by decide) hi (by rw [hS13]; rfl) dX3_writes_65 (fun H locs hW => ?_)
        refine vs_iconst hC dX3_writes_66 ?_
        exact vs_zret (S13) hC hr hlk hW rfl ⟨Or.inr rfl, hw⟩ (Nat.le_of_ble_eq_true rfl) (Nat.le_of_ble_eq_true rfl) dX3_writes_67
      · have hw := hwf hc
        clear hwt hwf hc
        refine vs_aload_n hC hl 0 dX3_writes_39 rfl rfl ?_
        refine vs_get hC hW 0 rfl rfl vs_inX3 5 (by decide) vf_X3_23 rfl dX3_writes_40 ?_
        refine vs_aload_n hC hl 0 dX3_writes_43 rfl rfl ?_
        refine vs_get hC hW 0 rfl rfl vs_inX3 8 (by decide) vf_X3_32 rfl dX3_writes_44 ?_
        refine vs_iload_n hC hl 1 dX3_writes_47 rfl rfl ?_
        obtain ⟨hq, hw⟩ := hw
        have hr14 := hq
        refine vs_aald2 (r := r) hC hW 7 rfl (by decide) hq dX3_writes_48 ?_
        refine vs_iload_n hC hl 3 dX3_writes_49 rfl rfl ?_
        obtain ⟨hi, hw⟩ := hw
        refine vs_iald2 hC hW (25 + Int.toNat x1) (vs_rowat8 hr14) hi dX3_writes_50 ?_
        refine vs_iconst hC dX3_writes_51 ?_
        obtain ⟨hi, hw⟩ := hw
        obtain ⟨S15, hS15⟩ : ∃ z : vs_St, z = vs_st S12 5 (S12 8 (3 * x1 + v11)) 0 := ⟨_, rfl⟩
        have hw := hw S15 hS15
        refine vs_zast (Wo' := vs_W3 g a r q S15 ++ wr) hC hW 5 rfl (by decide) hi (by decide) (by rw [hS15]; rfl) dX3_writes_52 (fun H locs hW => ?_)
        refine vs_iinc (L' := [(0, .ref (a 0)), (1, .int (vs_I x1)), (2, .int (vs_I x2)), (3, .int (vs_I (v11 + 1)))]) hC hl 3 [1, 2, 3, 0] dX3_writes_53 rfl (by decide) rfl (fun ls hl => ?_)
        refine vs_goto hC 29 dX3_writes_56 (by decide) ?_
        exact ih10 (v11 + 1, S15) hw _ _ _ hW (lv_sub hl [0, 1, 2, 3] rfl)
    · have hw := hwf hc
      clear hwt hwf hc
      refine vs_aload_n hC hl 0 dX3_writes_17 rfl rfl ?_
      refine vs_iload_n hC hl 1 dX3_writes_18 rfl rfl ?_
      refine vs_callVI [.int (vs_I x1)] hC hW 0 rfl rfl vk_X3_putsAnew vm_X3_177 (c_X3_putsAnew l g a r q (wr) S x1 _ hw) rfl hl.1 rfl ⟨rfl, rfl⟩ ⟨Nat.le_of_ble_eq_true rfl, Nat.le_of_ble_eq_true rfl⟩ ⟨Nat.le_of_ble_eq_true rfl, Nat.le_of_ble_eq_true rfl⟩ (Nat.le_of_ble_eq_true rfl) dX3_writes_19 (fun r16 S17 H locs hw hW => ?_)
      have hW : vs_Wd g A _ (vs_W3 g a r q S17 ++ wr) _ _ s := hW
      obtain ⟨hx, hw⟩ := hw
      obtain ⟨hwt, hwf⟩ := hw
      refine vs_if_ne hC 27 hx dX3_writes_22 (by decide) (fun hc => ?_) (fun hc => ?_)
      · have hw := hwt hc
        clear hwt hwf hc
        refine vs_iconst hC dX3_writes_27 ?_
        refine vs_istore_n (L' := [(0, .ref (a 0)), (1, .int (vs_I x1)), (2, .int (vs_I x2)), (3, .int (vs_I 0))]) hC hl [1, 2, 3, 0] dX3_writes_28 rfl (by decide) rfl (fun ls hl => ?_)
        obtain ⟨J18, μ18, hJ, hB18⟩ := hw
        refine vs_loop (V := Int × vs_St) (J := fun v => J18 v.1 v.2) (μ := fun v => μ18 v.1 v.2) (fun v => vs_W3 g a r q v.2 ++ wr) (fun v => [(0, .ref (a 0)), (1, .int (vs_I x1)), (2, .int (vs_I x2)), (3, .int (vs_I v.1))]) (fun v hJ ih18 H locs ls hW hl => ?_) (0, S17) hJ hW (lv_sub hl [0, 1, 2, 3] rfl)
        obtain ⟨v19, S20⟩ := v
        have hw := hB18 v19 S20 hJ
        have hW : vs_Wd g A _ (vs_W3 g a r q S20 ++ wr) _ _ s := hW
        have hl : lv_has ls 4 [(0, .ref (a 0)), (1, .int (vs_I x1)), (2, .int (vs_I x2)), (3, .int (vs_I v19))] := hl
        clear hJ
        unfold lX3_writes_29 at hw
        refine vs_iload_n hC hl 3 dX3_writes_29 rfl rfl ?_
        refine vs_aload_n hC hl 0 dX3_writes_30 rfl rfl ?_
        refine vs_get hC hW 0 rfl rfl vs_inX3 10 (by decide) vf_X3_38 rfl dX3_writes_31 ?_
        refine vs_iload_n hC hl 1 dX3_writes_34 rfl rfl ?_
        obtain ⟨hi, hw⟩ := hw
        refine vs_iald hC hW 9 rfl (by decide) hi dX3_writes_35 ?_
        obtain ⟨hx, hw⟩ := hw
        obtain ⟨hy, hw⟩ := hw
        obtain ⟨hwt, hwf⟩ := hw
        refine vs_icmp_ge hC 59 hx hy dX3_writes_36 (by decide) (fun hc => ?_) (fun hc => ?_)
        · have hw := hwt hc
          clear hwt hwf hc
          refine vs_aload_n hC hl 0 dX3_writes_59 rfl rfl ?_
          refine vs_get hC hW 0 rfl rfl vs_inX3 12 (by decide) vf_X3_44 rfl dX3_writes_60 ?_
          refine vs_iload_n hC hl 1 dX3_writes_63 rfl rfl ?_
          refine vs_iload_n hC hl 2 dX3_writes_64 rfl rfl ?_
          obtain ⟨hi, hw⟩ := hw
          obtain ⟨S21, hS21⟩ : ∃ z : vs_St, z = vs_st S20 12 x1 x2 := ⟨_, rfl⟩
          have hw := hw S21 hS21
          refine vs_iast (Wo' := vs_W3 g a r q S21 ++ wr) hC hW 11 rfl (by decide) hi (by rw [hS21]; rfl) dX3_writes_65 (fun H locs hW => ?_)
          refine vs_iconst hC dX3_writes_66 ?_
          exact vs_zret (S21) hC hr hlk hW rfl ⟨Or.inr rfl, hw⟩ (Nat.le_of_ble_eq_true rfl) (Nat.le_of_ble_eq_true rfl) dX3_writes_67
        · have hw := hwf hc
          clear hwt hwf hc
          refine vs_aload_n hC hl 0 dX3_writes_39 rfl rfl ?_
          refine vs_get hC hW 0 rfl rfl vs_inX3 5 (by decide) vf_X3_23 rfl dX3_writes_40 ?_
          refine vs_aload_n hC hl 0 dX3_writes_43 rfl rfl ?_
          refine vs_get hC hW 0 rfl rfl vs_inX3 8 (by decide) vf_X3_32 rfl dX3_writes_44 ?_
          refine vs_iload_n hC hl 1 dX3_writes_47 rfl rfl ?_
          obtain ⟨hq, hw⟩ := hw
          have hr22 := hq
          refine vs_aald2 (r := r) hC hW 7 rfl (by decide) hq dX3_writes_48 ?_
          refine vs_iload_n hC hl 3 dX3_writes_49 rfl rfl ?_
          obtain ⟨hi, hw⟩ := hw
          refine vs_iald2 hC hW (25 + Int.toNat x1) (vs_rowat8 hr22) hi dX3_writes_50 ?_
          refine vs_iconst hC dX3_writes_51 ?_
          obtain ⟨hi, hw⟩ := hw
          obtain ⟨S23, hS23⟩ : ∃ z : vs_St, z = vs_st S20 5 (S20 8 (3 * x1 + v19)) 0 := ⟨_, rfl⟩
          have hw := hw S23 hS23
          refine vs_zast (Wo' := vs_W3 g a r q S23 ++ wr) hC hW 5 rfl (by decide) hi (by decide) (by rw [hS23]; rfl) dX3_writes_52 (fun H locs hW => ?_)
          refine vs_iinc (L' := [(0, .ref (a 0)), (1, .int (vs_I x1)), (2, .int (vs_I x2)), (3, .int (vs_I (v19 + 1)))]) hC hl 3 [1, 2, 3, 0] dX3_writes_53 rfl (by decide) rfl (fun ls hl => ?_)
          refine vs_goto hC 29 dX3_writes_56 (by decide) ?_
          exact ih18 (v19 + 1, S23) hw _ _ _ hW (lv_sub hl [0, 1, 2, 3] rfl)
      · have hw := hwf hc
        clear hwt hwf hc
        refine vs_iconst hC dX3_writes_25 ?_
        exact vs_zret (S17) hC hr hlk hW rfl ⟨Or.inl rfl, hw⟩ (Nat.le_of_ble_eq_true rfl) (Nat.le_of_ble_eq_true rfl) dX3_writes_26
set_option maxHeartbeats 4000000 in
set_option maxRecDepth 100000 in
theorem c_X3_serves (l : Launch) (g : vs_G) (a r q : Nat → Nat) (wr : va_W) (S : vs_St) (x1 : Int) (post : vs_St → Prop) (hw : wX3_serves S x1 post) : vs_MV l yX3_serves (Cond.code yX3_serves cX3_serves 4 (none) :: vs_ws) { frames := 4, cells := 0, slots := 0, locals := 92 } g [.ref (a 0), .int (vs_I x1)] (vs_W3 g a r q S ++ wr) (fun (S' : vs_St) => vs_W3 g a r q S' ++ wr) post 0 0 := by
  refine vs_ofW (Qc := fun A => vs_QV g A (fun (S' : vs_St) => vs_W3 g a r q S' ++ wr) post) (by decide +kernel) (Nat.le_of_ble_eq_true rfl) (fun p e s m below meth c A ls hC hr hlk hW hl => ?_)
  have hC : CallFix p m c cX3_serves 4 s _ vs_ws RX3 := hC
  have hl : lv_has ls 4 [(0, .ref (a 0)), (1, .int (vs_I x1))] := hl
  unfold wX3_serves at hw
  refine vs_aload_n hC hl 0 dX3_serves_0 rfl rfl ?_
  refine vs_get hC hW 0 rfl rfl vs_inX3 23 (by decide) vf_X3_74 rfl dX3_serves_1 ?_
  refine vs_iload_n hC hl 1 dX3_serves_4 rfl rfl ?_
  obtain ⟨hi, hw⟩ := hw
  refine vs_iald hC hW 21 rfl (by decide) hi dX3_serves_5 ?_
  refine vs_name (fun v1 hv1 => ?_)
  have hw := hw v1 hv1
  refine vs_istore_n (L' := [(0, .ref (a 0)), (1, .int (vs_I x1)), (2, .int (vs_I v1))]) hC hl [1, 2, 0] dX3_serves_6 rfl (by decide) rfl (fun ls hl => ?_)
  refine vs_aload_n hC hl 0 dX3_serves_7 rfl rfl ?_
  refine vs_get hC hW 0 rfl rfl vs_inX3 24 (by decide) vf_X3_77 rfl dX3_serves_8 ?_
  refine vs_iload_n hC hl 1 dX3_serves_11 rfl rfl ?_
  obtain ⟨hi, hw⟩ := hw
  refine vs_iald hC hW 22 rfl (by decide) hi dX3_serves_12 ?_
  obtain ⟨hx, hw⟩ := hw
  obtain ⟨hwt, hwf⟩ := hw
  refine vs_if_ge hC 32 hx dX3_serves_13 (by decide) (fun hc => ?_) (fun hc => ?_)
  · have hw := hwt hc
    clear hwt hwf hc
    refine vs_aload_n hC hl 0 dX3_serves_32 rfl rfl ?_
    refine vs_iload_n hC hl 2 dX3_serves_33 rfl rfl ?_
    refine vs_aload_n hC hl 0 dX3_serves_34 rfl rfl ?_
    refine vs_get hC hW 0 rfl rfl vs_inX3 24 (by decide) vf_X3_77 rfl dX3_serves_35 ?_
    refine vs_iload_n hC hl 1 dX3_serves_38 rfl rfl ?_
    obtain ⟨hi, hw⟩ := hw
    refine vs_iald hC hW 22 rfl (by decide) hi dX3_serves_39 ?_
    refine vs_callVI [.int (vs_I v1), .int (vs_I (S 24 x1))] hC hW 0 rfl rfl vk_X3_writes vm_X3_180 (c_X3_writes l g a r q (wr) S v1 (S 24 x1) _ hw) rfl hl.1 rfl ⟨rfl, rfl⟩ ⟨Nat.le_of_ble_eq_true rfl, Nat.le_of_ble_eq_true rfl⟩ ⟨Nat.le_of_ble_eq_true rfl, Nat.le_of_ble_eq_true rfl⟩ (Nat.le_of_ble_eq_true rfl) dX3_serves_40 (fun r2 S3 H locs hw hW => ?_)
    have hW : vs_Wd g A _ (vs_W3 g a r q S3 ++ wr) _ _ s := hW
    refine vs_istore_n (L' := [(0, .ref (a 0)), (1, .int (vs_I x1)), (2, .int (vs_I v1)), (3, .int (vs_I r2))]) hC hl [1, 2, 3, 0] dX3_serves_43 rfl (by decide) rfl (fun ls hl => ?_)
    refine vs_aload_n hC hl 0 dX3_serves_44 rfl rfl ?_
    refine vs_get hC hW 0 rfl rfl vs_inX3 25 (by decide) vf_X3_80 rfl dX3_serves_45 ?_
    refine vs_iload_n hC hl 1 dX3_serves_48 rfl rfl ?_
    refine vs_aload_n hC hl 0 dX3_serves_49 rfl rfl ?_
    refine vs_get hC hW 0 rfl rfl vs_inX3 12 (by decide) vf_X3_44 rfl dX3_serves_50 ?_
    refine vs_iload_n hC hl 2 dX3_serves_53 rfl rfl ?_
    obtain ⟨hi, hw⟩ := hw
    refine vs_iald hC hW 11 rfl (by decide) hi dX3_serves_54 ?_
    obtain ⟨hi, hw⟩ := hw
    obtain ⟨S4, hS4⟩ : ∃ z : vs_St, z = vs_st S3 25 x1 (S3 12 v1) := ⟨_, rfl⟩
    have hw := hw S4 hS4
    refine vs_iast (Wo' := vs_W3 g a r q S4 ++ wr) hC hW 23 rfl (by decide) hi (by rw [hS4]; rfl) dX3_serves_55 (fun H locs hW => ?_)
    refine vs_aload_n hC hl 0 dX3_serves_56 rfl rfl ?_
    refine vs_get hC hW 0 rfl rfl vs_inX3 26 (by decide) vf_X3_83 rfl dX3_serves_57 ?_
    refine vs_iload_n hC hl 1 dX3_serves_60 rfl rfl ?_
    refine vs_iload_n hC hl 3 dX3_serves_61 rfl rfl ?_
    obtain ⟨hx, hw⟩ := hw
    obtain ⟨hwt, hwf⟩ := hw
    refine vs_if_eq hC 70 hx dX3_serves_62 (by decide) (fun hc => ?_) (fun hc => ?_)
    · have hw := hwt hc
      clear hwt hwf hc
      refine vs_bipush hC dX3_serves_70 (by decide +kernel) ?_
      obtain ⟨hi, hw⟩ := hw
      obtain ⟨S5, hS5⟩ : ∃ z : vs_St, z = vs_st S4 26 x1 120 := ⟨_, rfl⟩
      have hw := hw S5 hS5
      refine vs_cast (Wo' := vs_W3 g a r q S5 ++ wr) hC hW 24 rfl (by decide) hi (by decide) (by rw [hS5]; rfl) dX3_serves_72 (fun H locs hW => ?_)
      refine vs_aload_n hC hl 0 dX3_serves_73 rfl rfl ?_
      refine vs_get hC hW 0 rfl rfl vs_inX3 18 (by decide) vf_X3_59 rfl dX3_serves_74 ?_
      refine vs_iload_n hC hl 2 dX3_serves_77 rfl rfl ?_
      refine vs_bipush hC dX3_serves_78 (by decide +kernel) ?_
      obtain ⟨hi, hw⟩ := hw
      refine vs_idiv hC dX3_serves_80 ⟨hi.1, hi.2, by decide, by decide⟩ ?_
      refine vs_dup2 hC dX3_serves_81 rfl rfl ?_
      obtain ⟨hi, hw⟩ := hw
      refine vs_iald hC hW 16 rfl (by decide) hi dX3_serves_82 ?_
      refine vs_iconst hC dX3_serves_83 ?_
      refine vs_iadd hC dX3_serves_84 ?_
      obtain ⟨hi, hw⟩ := hw
      obtain ⟨S6, hS6⟩ : ∃ z : vs_St, z = vs_st S5 18 (v1 / 100) ((S5 18 (v1 / 100)) + 1) := ⟨_, rfl⟩
      have hw := hw S6 hS6
      refine vs_iast (Wo' := vs_W3 g a r q S6 ++ wr) hC hW 16 rfl (by decide) hi (by rw [hS6]; rfl) dX3_serves_85 (fun H locs hW => ?_)
      refine vs_aload_n hC hl 0 dX3_serves_86 rfl rfl ?_
      refine vs_get hC hW 0 rfl rfl vs_inX3 22 (by decide) vf_X3_71 rfl dX3_serves_87 ?_
      refine vs_iload_n hC hl 2 dX3_serves_90 rfl rfl ?_
      refine vs_bipush hC dX3_serves_91 (by decide +kernel) ?_
      obtain ⟨hi, hw⟩ := hw
      refine vs_idiv hC dX3_serves_93 ⟨hi.1, hi.2, by decide, by decide⟩ ?_
      refine vs_dup2 hC dX3_serves_94 rfl rfl ?_
      obtain ⟨hi, hw⟩ := hw
      refine vs_iald hC hW 20 rfl (by decide) hi dX3_serves_95 ?_
      refine vs_iconst hC dX3_serves_96 ?_
      refine vs_iadd hC dX3_serves_97 ?_
      obtain ⟨hi, hw⟩ := hw
      obtain ⟨S7, hS7⟩ : ∃ z : vs_St, z = vs_st S6 22 (v1 / 100) ((S6 22 (v1 / 100)) + 1) := ⟨_, rfl⟩
      have hw := hw S7 hS7
      refine vs_iast (Wo' := vs_W3 g a r q S7 ++ wr) hC hW 20 rfl (by decide) hi (by rw [hS7]; rfl) dX3_serves_98 (fun H locs hW => ?_)
      exact vs_vret (S7) hC hr hlk hW rfl hw (Nat.le_of_ble_eq_true rfl) (Nat.le_of_ble_eq_true rfl) dX3_serves_99
    · have hw := hwf hc
      clear hwt hwf hc
      refine vs_bipush hC dX3_serves_65 (by decide +kernel) ?_
      refine vs_goto hC 72 dX3_serves_67 (by decide) ?_
      obtain ⟨hi, hw⟩ := hw
      obtain ⟨S8, hS8⟩ : ∃ z : vs_St, z = vs_st S4 26 x1 100 := ⟨_, rfl⟩
      have hw := hw S8 hS8
      refine vs_cast (Wo' := vs_W3 g a r q S8 ++ wr) hC hW 24 rfl (by decide) hi (by decide) (by rw [hS8]; rfl) dX3_serves_72 (fun H locs hW => ?_)
      refine vs_aload_n hC hl 0 dX3_serves_73 rfl rfl ?_
      refine vs_get hC hW 0 rfl rfl vs_inX3 18 (by decide) vf_X3_59 rfl dX3_serves_74 ?_
      refine vs_iload_n hC hl 2 dX3_serves_77 rfl rfl ?_
      refine vs_bipush hC dX3_serves_78 (by decide +kernel) ?_
      obtain ⟨hi, hw⟩ := hw
      refine vs_idiv hC dX3_serves_80 ⟨hi.1, hi.2, by decide, by decide⟩ ?_
      refine vs_dup2 hC dX3_serves_81 rfl rfl ?_
      obtain ⟨hi, hw⟩ := hw
      refine vs_iald hC hW 16 rfl (by decide) hi dX3_serves_82 ?_
      refine vs_iconst hC dX3_serves_83 ?_
      refine vs_iadd hC dX3_serves_84 ?_
      obtain ⟨hi, hw⟩ := hw
      obtain ⟨S9, hS9⟩ : ∃ z : vs_St, z = vs_st S8 18 (v1 / 100) ((S8 18 (v1 / 100)) + 1) := ⟨_, rfl⟩
      have hw := hw S9 hS9
      refine vs_iast (Wo' := vs_W3 g a r q S9 ++ wr) hC hW 16 rfl (by decide) hi (by rw [hS9]; rfl) dX3_serves_85 (fun H locs hW => ?_)
      refine vs_aload_n hC hl 0 dX3_serves_86 rfl rfl ?_
      refine vs_get hC hW 0 rfl rfl vs_inX3 22 (by decide) vf_X3_71 rfl dX3_serves_87 ?_
      refine vs_iload_n hC hl 2 dX3_serves_90 rfl rfl ?_
      refine vs_bipush hC dX3_serves_91 (by decide +kernel) ?_
      obtain ⟨hi, hw⟩ := hw
      refine vs_idiv hC dX3_serves_93 ⟨hi.1, hi.2, by decide, by decide⟩ ?_
      refine vs_dup2 hC dX3_serves_94 rfl rfl ?_
      obtain ⟨hi, hw⟩ := hw
      refine vs_iald hC hW 20 rfl (by decide) hi dX3_serves_95 ?_
      refine vs_iconst hC dX3_serves_96 ?_
      refine vs_iadd hC dX3_serves_97 ?_
      obtain ⟨hi, hw⟩ := hw
      obtain ⟨S10, hS10⟩ : ∃ z : vs_St, z = vs_st S9 22 (v1 / 100) ((S9 22 (v1 / 100)) + 1) := ⟨_, rfl⟩
      have hw := hw S10 hS10
      refine vs_iast (Wo' := vs_W3 g a r q S10 ++ wr) hC hW 20 rfl (by decide) hi (by rw [hS10]; rfl) dX3_serves_98 (fun H locs hW => ?_)
      exact vs_vret (S10) hC hr hlk hW rfl hw (Nat.le_of_ble_eq_true rfl) (Nat.le_of_ble_eq_true rfl) dX3_serves_99
  · have hw := hwf hc
    clear hwt hwf hc
    refine vs_aload_n hC hl 0 dX3_serves_16 rfl rfl ?_
    refine vs_iload_n hC hl 2 dX3_serves_17 rfl rfl ?_
    refine vs_callVI [.int (vs_I v1)] hC hW 0 rfl rfl vk_X3_goodOf vm_X3_120 (c_X3_goodOf l g a r q (wr) S v1 _ hw) rfl hl.1 rfl ⟨rfl, rfl⟩ ⟨Nat.le_of_ble_eq_true rfl, Nat.le_of_ble_eq_true rfl⟩ ⟨Nat.le_of_ble_eq_true rfl, Nat.le_of_ble_eq_true rfl⟩ (Nat.le_of_ble_eq_true rfl) dX3_serves_18 (fun r11 _ H locs hw hW => ?_)
    have hW : vs_Wd g A _ (vs_W3 g a r q S ++ wr) _ _ s := hW
    obtain ⟨hx, hw⟩ := hw
    obtain ⟨hwt, hwf⟩ := hw
    refine vs_if_le hC 28 hx dX3_serves_21 (by decide) (fun hc => ?_) (fun hc => ?_)
    · have hw := hwt hc
      clear hwt hwf hc
      refine vs_iconst hC dX3_serves_28 ?_
      refine vs_goto hC 43 dX3_serves_29 (by decide) ?_
      refine vs_istore_n (L' := [(0, .ref (a 0)), (1, .int (vs_I x1)), (2, .int (vs_I v1)), (3, .int (vs_I 0))]) hC hl [1, 2, 3, 0] dX3_serves_43 rfl (by decide) rfl (fun ls hl => ?_)
      refine vs_aload_n hC hl 0 dX3_serves_44 rfl rfl ?_
      refine vs_get hC hW 0 rfl rfl vs_inX3 25 (by decide) vf_X3_80 rfl dX3_serves_45 ?_
      refine vs_iload_n hC hl 1 dX3_serves_48 rfl rfl ?_
      refine vs_aload_n hC hl 0 dX3_serves_49 rfl rfl ?_
      refine vs_get hC hW 0 rfl rfl vs_inX3 12 (by decide) vf_X3_44 rfl dX3_serves_50 ?_
      refine vs_iload_n hC hl 2 dX3_serves_53 rfl rfl ?_
      obtain ⟨hi, hw⟩ := hw
      refine vs_iald hC hW 11 rfl (by decide) hi dX3_serves_54 ?_
      obtain ⟨hi, hw⟩ := hw
      obtain ⟨S12, hS12⟩ : ∃ z : vs_St, z = vs_st S 25 x1 (S 12 v1) := ⟨_, rfl⟩
      have hw := hw S12 hS12
      refine vs_iast (Wo' := vs_W3 g a r q S12 ++ wr) hC hW 23 rfl (by decide) hi (by rw [hS12]; rfl) dX3_serves_55 (fun H locs hW => ?_)
      refine vs_aload_n hC hl 0 dX3_serves_56 rfl rfl ?_
      refine vs_get hC hW 0 rfl rfl vs_inX3 26 (by decide) vf_X3_83 rfl dX3_serves_57 ?_
      refine vs_iload_n hC hl 1 dX3_serves_60 rfl rfl ?_
      refine vs_iload_n hC hl 3 dX3_serves_61 rfl rfl ?_
      refine vs_if_eq hC 70 ⟨by decide, by decide⟩ dX3_serves_62 (by decide) (fun _ => ?_) (fun hc => absurd hc (by decide))
      refine vs_bipush hC dX3_serves_70 (by decide +kernel) ?_
      obtain ⟨hi, hw⟩ := hw
      obtain ⟨S13, hS13⟩ : ∃ z : vs_St, z = vs_st S12 26 x1 120 := ⟨_, rfl⟩
      have hw := hw S13 hS13
      refine vs_cast (Wo' := vs_W3 g a r q S13 ++ wr) hC hW 24 rfl (by decide) hi (by decide) (by rw [hS13]; rfl) dX3_serves_72 (fun H locs hW => ?_)
      refine vs_aload_n hC hl 0 dX3_serves_73 rfl rfl ?_
      refine vs_get hC hW 0 rfl rfl vs_inX3 18 (by decide) vf_X3_59 rfl dX3_serves_74 ?_
      refine vs_iload_n hC hl 2 dX3_serves_77 rfl rfl ?_
      refine vs_bipush hC dX3_serves_78 (by decide +kernel) ?_
      obtain ⟨hi, hw⟩ := hw
      refine vs_idiv hC dX3_serves_80 ⟨hi.1, hi.2, by decide, by decide⟩ ?_
      refine vs_dup2 hC dX3_serves_81 rfl rfl ?_
      obtain ⟨hi, hw⟩ := hw
      refine vs_iald hC hW 16 rfl (by decide) hi dX3_serves_82 ?_
      refine vs_iconst hC dX3_serves_83 ?_
      refine vs_iadd hC dX3_serves_84 ?_
      obtain ⟨hi, hw⟩ := hw
      obtain ⟨S14, hS14⟩ : ∃ z : vs_St, z = vs_st S13 18 (v1 / 100) ((S13 18 (v1 / 100)) + 1) := ⟨_, rfl⟩
      have hw := hw S14 hS14
      refine vs_iast (Wo' := vs_W3 g a r q S14 ++ wr) hC hW 16 rfl (by decide) hi (by rw [hS14]; rfl) dX3_serves_85 (fun H locs hW => ?_)
      refine vs_aload_n hC hl 0 dX3_serves_86 rfl rfl ?_
      refine vs_get hC hW 0 rfl rfl vs_inX3 22 (by decide) vf_X3_71 rfl dX3_serves_87 ?_
      refine vs_iload_n hC hl 2 dX3_serves_90 rfl rfl ?_
      refine vs_bipush hC dX3_serves_91 (by decide +kernel) ?_
      obtain ⟨hi, hw⟩ := hw
      refine vs_idiv hC dX3_serves_93 ⟨hi.1, hi.2, by decide, by decide⟩ ?_
      refine vs_dup2 hC dX3_serves_94 rfl rfl ?_
      obtain ⟨hi, hw⟩ := hw
      refine vs_iald hC hW 20 rfl (by decide) hi dX3_serves_95 ?_
      refine vs_iconst hC dX3_serves_96 ?_
      refine vs_iadd hC dX3_serves_97 ?_
      obtain ⟨hi, hw⟩ := hw
      obtain ⟨S15, hS15⟩ : ∃ z : vs_St, z = vs_st S14 22 (v1 / 100) ((S14 22 (v1 / 100)) + 1) := ⟨_, rfl⟩
      have hw := hw S15 hS15
      refine vs_iast (Wo' := vs_W3 g a r q S15 ++ wr) hC hW 20 rfl (by decide) hi (by rw [hS15]; rfl) dX3_serves_98 (fun H locs hW => ?_)
      exact vs_vret (S15) hC hr hlk hW rfl hw (Nat.le_of_ble_eq_true rfl) (Nat.le_of_ble_eq_true rfl) dX3_serves_99
    · have hw := hwf hc
      clear hwt hwf hc
      refine vs_iconst hC dX3_serves_24 ?_
      refine vs_goto hC 43 dX3_serves_25 (by decide) ?_
      refine vs_istore_n (L' := [(0, .ref (a 0)), (1, .int (vs_I x1)), (2, .int (vs_I v1)), (3, .int (vs_I 1))]) hC hl [1, 2, 3, 0] dX3_serves_43 rfl (by decide) rfl (fun ls hl => ?_)
      refine vs_aload_n hC hl 0 dX3_serves_44 rfl rfl ?_
      refine vs_get hC hW 0 rfl rfl vs_inX3 25 (by decide) vf_X3_80 rfl dX3_serves_45 ?_
      refine vs_iload_n hC hl 1 dX3_serves_48 rfl rfl ?_
      refine vs_aload_n hC hl 0 dX3_serves_49 rfl rfl ?_
      refine vs_get hC hW 0 rfl rfl vs_inX3 12 (by decide) vf_X3_44 rfl dX3_serves_50 ?_
      refine vs_iload_n hC hl 2 dX3_serves_53 rfl rfl ?_
      obtain ⟨hi, hw⟩ := hw
      refine vs_iald hC hW 11 rfl (by decide) hi dX3_serves_54 ?_
      obtain ⟨hi, hw⟩ := hw
      obtain ⟨S16, hS16⟩ : ∃ z : vs_St, z = vs_st S 25 x1 (S 12 v1) := ⟨_, rfl⟩
      have hw := hw S16 hS16
      refine vs_iast (Wo' := vs_W3 g a r q S16 ++ wr) hC hW 23 rfl (by decide) hi (by rw [hS16]; rfl) dX3_serves_55 (fun H locs hW => ?_)
      refine vs_aload_n hC hl 0 dX3_serves_56 rfl rfl ?_
      refine vs_get hC hW 0 rfl rfl vs_inX3 26 (by decide) vf_X3_83 rfl dX3_serves_57 ?_
      refine vs_iload_n hC hl 1 dX3_serves_60 rfl rfl ?_
      refine vs_iload_n hC hl 3 dX3_serves_61 rfl rfl ?_
      refine vs_if_eq hC 70 ⟨by decide, by decide⟩ dX3_serves_62 (by decide) (fun hc => absurd hc (by decide)) (fun _ => ?_)
      refine vs_bipush hC dX3_serves_65 (by decide +kernel) ?_
      refine vs_goto hC 72 dX3_serves_67 (by decide) ?_
      obtain ⟨hi, hw⟩ := hw
      obtain ⟨S17, hS17⟩ : ∃ z : vs_St, z = vs_st S16 26 x1 100 := ⟨_, rfl⟩
      have hw := hw S17 hS17
      refine vs_cast (Wo' := vs_W3 g a r q S17 ++ wr) hC hW 24 rfl (by decide) hi (by decide) (by rw [hS17]; rfl) dX3_serves_72 (fun H locs hW => ?_)
      refine vs_aload_n hC hl 0 dX3_serves_73 rfl rfl ?_
      refine vs_get hC hW 0 rfl rfl vs_inX3 18 (by decide) vf_X3_59 rfl dX3_serves_74 ?_
      refine vs_iload_n hC hl 2 dX3_serves_77 rfl rfl ?_
      refine vs_bipush hC dX3_serves_78 (by decide +kernel) ?_
      obtain ⟨hi, hw⟩ := hw
      refine vs_idiv hC dX3_serves_80 ⟨hi.1, hi.2, by decide, by decide⟩ ?_
      refine vs_dup2 hC dX3_serves_81 rfl rfl ?_
      obtain ⟨hi, hw⟩ := hw
      refine vs_iald hC hW 16 rfl (by decide) hi dX3_serves_82 ?_
      refine vs_iconst hC dX3_serves_83 ?_
      refine vs_iadd hC dX3_serves_84 ?_
      obtain ⟨hi, hw⟩ := hw
      obtain ⟨S18, hS18⟩ : ∃ z : vs_St, z = vs_st S17 18 (v1 / 100) ((S17 18 (v1 / 100)) + 1) := ⟨_, rfl⟩
      have hw := hw S18 hS18
      refine vs_iast (Wo' := vs_W3 g a r q S18 ++ wr) hC hW 16 rfl (by decide) hi (by rw [hS18]; rfl) dX3_serves_85 (fun H locs hW => ?_)
      refine vs_aload_n hC hl 0 dX3_serves_86 rfl rfl ?_
      refine vs_get hC hW 0 rfl rfl vs_inX3 22 (by decide) vf_X3_71 rfl dX3_serves_87 ?_
      refine vs_iload_n hC hl 2 dX3_serves_90 rfl rfl ?_
      refine vs_bipush hC dX3_serves_91 (by decide +kernel) ?_
      obtain ⟨hi, hw⟩ := hw
      refine vs_idiv hC dX3_serves_93 ⟨hi.1, hi.2, by decide, by decide⟩ ?_
      refine vs_dup2 hC dX3_serves_94 rfl rfl ?_
      obtain ⟨hi, hw⟩ := hw
      refine vs_iald hC hW 20 rfl (by decide) hi dX3_serves_95 ?_
      refine vs_iconst hC dX3_serves_96 ?_
      refine vs_iadd hC dX3_serves_97 ?_
      obtain ⟨hi, hw⟩ := hw
      obtain ⟨S19, hS19⟩ : ∃ z : vs_St, z = vs_st S18 22 (v1 / 100) ((S18 22 (v1 / 100)) + 1) := ⟨_, rfl⟩
      have hw := hw S19 hS19
      refine vs_iast (Wo' := vs_W3 g a r q S19 ++ wr) hC hW 20 rfl (by decide) hi (by rw [hS19]; rfl) dX3_serves_98 (fun H locs hW => ?_)
      exact vs_vret (S19) hC hr hlk hW rfl hw (Nat.le_of_ble_eq_true rfl) (Nat.le_of_ble_eq_true rfl) dX3_serves_99
set_option maxHeartbeats 4000000 in
set_option maxRecDepth 100000 in
theorem c_X3_oldestOf (l : Launch) (g : vs_G) (a r q : Nat → Nat) (wr : va_W) (S : vs_St) (x1 : Int) (post : Int → Prop) (hw : wX3_oldestOf S x1 post) : vs_MI l yX3_oldestOf (Cond.code yX3_oldestOf cX3_oldestOf 3 (some .int) :: vs_ws) { frames := 0, cells := 0, slots := 0, locals := 0 } g [.ref (a 0), .int (vs_I x1)] (vs_W3 g a r q S ++ wr) (fun (_ : Unit) => vs_W3 g a r q S ++ wr) (fun v (_ : Unit) => post v) 0 0 := by
  refine vs_ofW (Qc := fun A => vs_QI g A (fun (_ : Unit) => vs_W3 g a r q S ++ wr) (fun v (_ : Unit) => post v)) (by decide +kernel) (Nat.le_of_ble_eq_true rfl) (fun p e s m below meth c A ls hC hr hlk hW hl => ?_)
  have hC : CallFix p m c cX3_oldestOf 3 s _ vs_ws RX3 := hC
  have hl : lv_has ls 3 [(0, .ref (a 0)), (1, .int (vs_I x1))] := hl
  unfold wX3_oldestOf at hw
  refine vs_iconst hC dX3_oldestOf_0 ?_
  refine vs_istore_n (L' := [(0, .ref (a 0)), (1, .int (vs_I x1)), (2, .int (vs_I 0))]) hC hl [1, 2, 0] dX3_oldestOf_1 rfl (by decide) rfl (fun ls hl => ?_)
  obtain ⟨J1, μ1, hJ, hB1⟩ := hw
  refine vs_loop (V := Int) (J := fun v => J1 v) (μ := fun v => μ1 v) (fun v => vs_W3 g a r q S ++ wr) (fun v => [(0, .ref (a 0)), (1, .int (vs_I x1)), (2, .int (vs_I v))]) (fun v hJ ih1 H locs ls hW hl => ?_) 0 hJ hW (lv_sub hl [0, 1, 2] rfl)
  obtain ⟨v2, hv⟩ : ∃ z, z = v := ⟨_, rfl⟩
  subst hv
  have hw := hB1 v2 hJ
  have hW : vs_Wd g A _ (vs_W3 g a r q S ++ wr) _ _ s := hW
  have hl : lv_has ls 3 [(0, .ref (a 0)), (1, .int (vs_I x1)), (2, .int (vs_I v2))] := hl
  clear hJ
  unfold lX3_oldestOf_2 at hw
  refine vs_iload_n hC hl 2 dX3_oldestOf_2 rfl rfl ?_
  refine vs_aload_n hC hl 0 dX3_oldestOf_3 rfl rfl ?_
  refine vs_get hC hW 0 rfl rfl vs_inX3 28 (by decide) vf_X3_109 rfl dX3_oldestOf_4 ?_
  obtain ⟨hx, hw⟩ := hw
  obtain ⟨hy, hw⟩ := hw
  obtain ⟨hwt, hwf⟩ := hw
  refine vs_icmp_ge hC 42 hx hy dX3_oldestOf_7 (by decide) (fun hc => ?_) (fun hc => ?_)
  · have hw := hwt hc
    clear hwt hwf hc
    refine vs_iconst hC dX3_oldestOf_42 ?_
    exact vs_iret () hC hr hlk hW rfl hw (Nat.le_of_ble_eq_true rfl) (Nat.le_of_ble_eq_true rfl) dX3_oldestOf_43
  · have hw := hwf hc
    clear hwt hwf hc
    refine vs_aload_n hC hl 0 dX3_oldestOf_10 rfl rfl ?_
    refine vs_get hC hW 0 rfl rfl vs_inX3 26 (by decide) vf_X3_83 rfl dX3_oldestOf_11 ?_
    refine vs_iload_n hC hl 2 dX3_oldestOf_14 rfl rfl ?_
    obtain ⟨hi, hw⟩ := hw
    refine vs_cald hC hW 24 rfl (by decide) hi dX3_oldestOf_15 ?_
    refine vs_bipush hC dX3_oldestOf_16 (by decide +kernel) ?_
    obtain ⟨hx, hw⟩ := hw
    obtain ⟨hwt, hwf⟩ := hw
    refine vs_icmp_ne hC 36 hx ⟨by decide, by decide⟩ dX3_oldestOf_18 (by decide) (fun hc => ?_) (fun hc => ?_)
    · have hw := hwt hc
      clear hwt hwf hc
      refine vs_iinc (L' := [(0, .ref (a 0)), (1, .int (vs_I x1)), (2, .int (vs_I (v2 + 1)))]) hC hl 2 [1, 2, 0] dX3_oldestOf_36 rfl (by decide) rfl (fun ls hl => ?_)
      refine vs_goto hC 2 dX3_oldestOf_39 (by decide) ?_
      exact ih1 (v2 + 1) hw _ _ _ hW (lv_sub hl [0, 1, 2] rfl)
    · have hw := hwf hc
      clear hwt hwf hc
      refine vs_aload_n hC hl 0 dX3_oldestOf_21 rfl rfl ?_
      refine vs_get hC hW 0 rfl rfl vs_inX3 23 (by decide) vf_X3_74 rfl dX3_oldestOf_22 ?_
      refine vs_iload_n hC hl 2 dX3_oldestOf_25 rfl rfl ?_
      obtain ⟨hi, hw⟩ := hw
      refine vs_iald hC hW 21 rfl (by decide) hi dX3_oldestOf_26 ?_
      refine vs_bipush hC dX3_oldestOf_27 (by decide +kernel) ?_
      obtain ⟨hi, hw⟩ := hw
      refine vs_idiv hC dX3_oldestOf_29 ⟨hi.1, hi.2, by decide, by decide⟩ ?_
      refine vs_iload_n hC hl 1 dX3_oldestOf_30 rfl rfl ?_
      obtain ⟨hx, hw⟩ := hw
      obtain ⟨hy, hw⟩ := hw
      obtain ⟨hwt, hwf⟩ := hw
      refine vs_icmp_ne hC 36 hx hy dX3_oldestOf_31 (by decide) (fun hc => ?_) (fun hc => ?_)
      · have hw := hwt hc
        clear hwt hwf hc
        refine vs_iinc (L' := [(0, .ref (a 0)), (1, .int (vs_I x1)), (2, .int (vs_I (v2 + 1)))]) hC hl 2 [1, 2, 0] dX3_oldestOf_36 rfl (by decide) rfl (fun ls hl => ?_)
        refine vs_goto hC 2 dX3_oldestOf_39 (by decide) ?_
        exact ih1 (v2 + 1) hw _ _ _ hW (lv_sub hl [0, 1, 2] rfl)
      · have hw := hwf hc
        clear hwt hwf hc
        refine vs_iload_n hC hl 2 dX3_oldestOf_34 rfl rfl ?_
        exact vs_iret () hC hr hlk hW rfl hw (Nat.le_of_ble_eq_true rfl) (Nat.le_of_ble_eq_true rfl) dX3_oldestOf_35
set_option maxHeartbeats 4000000 in
set_option maxRecDepth 100000 in
theorem c_X3_servesAll (l : Launch) (g : vs_G) (a r q : Nat → Nat) (wr : va_W) (S : vs_St) (x1 : Int) (post : vs_St → Prop) (hw : wX3_servesAll S x1 post) : vs_MV l yX3_servesAll (Cond.code yX3_servesAll cX3_servesAll 7 (none) :: vs_ws) { frames := 5, cells := 0, slots := 0, locals := 115 } g [.ref (a 0), .int (vs_I x1)] (vs_W3 g a r q S ++ wr) (fun (S' : vs_St) => vs_W3 g a r q S' ++ wr) post 0 0 := by
  refine vs_ofW (Qc := fun A => vs_QV g A (fun (S' : vs_St) => vs_W3 g a r q S' ++ wr) post) (by decide +kernel) (Nat.le_of_ble_eq_true rfl) (fun p e s m below meth c A ls hC hr hlk hW hl => ?_)
  have hC : CallFix p m c cX3_servesAll 7 s _ vs_ws RX3 := hC
  have hl : lv_has ls 7 [(0, .ref (a 0)), (1, .int (vs_I x1))] := hl
  unfold wX3_servesAll at hw
  refine vs_iload_n hC hl 1 dX3_servesAll_0 rfl rfl ?_
  refine vs_istore_n (L' := [(0, .ref (a 0)), (1, .int (vs_I x1)), (2, .int (vs_I x1))]) hC hl [1, 2, 0] dX3_servesAll_1 rfl (by decide) rfl (fun ls hl => ?_)
  refine vs_iconst hC dX3_servesAll_2 ?_
  refine vs_istore_n (L' := [(0, .ref (a 0)), (1, .int (vs_I x1)), (2, .int (vs_I x1)), (3, .int (vs_I 1))]) hC hl [1, 2, 3, 0] dX3_servesAll_3 rfl (by decide) rfl (fun ls hl => ?_)
  obtain ⟨J1, μ1, hJ, hB1⟩ := hw
  refine vs_loop (V := Int × Int × vs_St) (J := fun v => J1 v.1 v.2.1 v.2.2) (μ := fun v => μ1 v.1 v.2.1 v.2.2) (fun v => vs_W3 g a r q v.2.2 ++ wr) (fun v => [(0, .ref (a 0)), (2, .int (vs_I v.1)), (3, .int (vs_I v.2.1))]) (fun v hJ ih1 H locs ls hW hl => ?_) (x1, 1, S) hJ hW (lv_sub hl [0, 2, 3] rfl)
  obtain ⟨v2, v3, S4⟩ := v
  have hw := hB1 v2 v3 S4 hJ
  have hW : vs_Wd g A _ (vs_W3 g a r q S4 ++ wr) _ _ s := hW
  have hl : lv_has ls 7 [(0, .ref (a 0)), (2, .int (vs_I v2)), (3, .int (vs_I v3))] := hl
  clear hJ
  unfold lX3_servesAll_4 at hw
  refine vs_iload_n hC hl 2 dX3_servesAll_4 rfl rfl ?_
  obtain ⟨hx, hw⟩ := hw
  obtain ⟨hwt, hwf⟩ := hw
  refine vs_if_eq hC 92 hx dX3_servesAll_5 (by decide) (fun hc => ?_) (fun hc => ?_)
  · have hw := hwt hc
    clear hwt hwf hc
    exact vs_vret (S4) hC hr hlk hW rfl hw (Nat.le_of_ble_eq_true rfl) (Nat.le_of_ble_eq_true rfl) dX3_servesAll_92
  · have hw := hwf hc
    clear hwt hwf hc
    refine vs_iconst hC dX3_servesAll_8 ?_
    refine vs_istore_n (L' := [(0, .ref (a 0)), (2, .int (vs_I v2)), (3, .int (vs_I 0))]) hC hl [1, 2, 0] dX3_servesAll_9 rfl (by decide) rfl (fun ls hl => ?_)
    refine vs_iconst hC dX3_servesAll_10 ?_
    refine vs_istore (L' := [(0, .ref (a 0)), (2, .int (vs_I v2)), (3, .int (vs_I 0)), (4, .int (vs_I 0))]) hC hl [1, 2, 3, 0] dX3_servesAll_11 (by decide) rfl (fun ls hl => ?_)
    obtain ⟨J5, μ5, hJ, hB5⟩ := hw
    refine vs_loop (V := Int × Int × Int × vs_St) (J := fun v => J5 v.1 v.2.1 v.2.2.1 v.2.2.2) (μ := fun v => μ5 v.1 v.2.1 v.2.2.1 v.2.2.2) (fun v => vs_W3 g a r q v.2.2.2 ++ wr) (fun v => [(0, .ref (a 0)), (2, .int (vs_I v.1)), (3, .int (vs_I v.2.1)), (4, .int (vs_I v.2.2.1))]) (fun v hJ ih5 H locs ls hW hl => ?_) (v2, 0, 0, S4) hJ hW (lv_sub hl [0, 1, 2, 3] rfl)
    obtain ⟨v6, v7, v8, S9⟩ := v
    have hw := hB5 v6 v7 v8 S9 hJ
    have hW : vs_Wd g A _ (vs_W3 g a r q S9 ++ wr) _ _ s := hW
    have hl : lv_has ls 7 [(0, .ref (a 0)), (2, .int (vs_I v6)), (3, .int (vs_I v7)), (4, .int (vs_I v8))] := hl
    clear hJ
    unfold lX3_servesAll_13 at hw
    refine vs_iload hC hl 3 dX3_servesAll_13 rfl ?_
    refine vs_aload_n hC hl 0 dX3_servesAll_15 rfl rfl ?_
    refine vs_get hC hW 0 rfl rfl vs_inX3 27 (by decide) vf_X3_106 rfl dX3_servesAll_16 ?_
    obtain ⟨hx, hw⟩ := hw
    obtain ⟨hy, hw⟩ := hw
    obtain ⟨hwt, hwf⟩ := hw
    refine vs_icmp_ge hC 89 hx hy dX3_servesAll_19 (by decide) (fun hc => ?_) (fun hc => ?_)
    · have hw := hwt hc
      clear hwt hwf hc
      refine vs_goto hC 4 dX3_servesAll_89 (by decide) ?_
      exact ih1 (v6, v7, S9) hw _ _ _ hW (lv_sub hl [0, 1, 2] rfl)
    · have hw := hwf hc
      clear hwt hwf hc
      refine vs_aload_n hC hl 0 dX3_servesAll_22 rfl rfl ?_
      refine vs_iload hC hl 3 dX3_servesAll_23 rfl ?_
      refine vs_callVI [.int (vs_I v8)] hC hW 0 rfl rfl vk_X3_oldestOf vm_X3_183 (c_X3_oldestOf l g a r q (wr) S9 v8 _ hw) rfl hl.1 rfl ⟨rfl, rfl⟩ ⟨Nat.le_of_ble_eq_true rfl, Nat.le_of_ble_eq_true rfl⟩ ⟨Nat.le_of_ble_eq_true rfl, Nat.le_of_ble_eq_true rfl⟩ (Nat.le_of_ble_eq_true rfl) dX3_servesAll_25 (fun r10 _ H locs hw hW => ?_)
      have hW : vs_Wd g A _ (vs_W3 g a r q S9 ++ wr) _ _ s := hW
      refine vs_istore (L' := [(0, .ref (a 0)), (2, .int (vs_I v6)), (3, .int (vs_I v7)), (4, .int (vs_I v8)), (5, .int (vs_I r10))]) hC hl [1, 2, 3, 4, 0] dX3_servesAll_28 (by decide) rfl (fun ls hl => ?_)
      refine vs_iload hC hl 4 dX3_servesAll_30 rfl ?_
      obtain ⟨hx, hw⟩ := hw
      obtain ⟨hwt, hwf⟩ := hw
      refine vs_if_ge hC 38 hx dX3_servesAll_32 (by decide) (fun hc => ?_) (fun hc => ?_)
      · have hw := hwt hc
        clear hwt hwf hc
        refine vs_aload_n hC hl 0 dX3_servesAll_38 rfl rfl ?_
        refine vs_get hC hW 0 rfl rfl vs_inX3 24 (by decide) vf_X3_77 rfl dX3_servesAll_39 ?_
        refine vs_iload hC hl 4 dX3_servesAll_42 rfl ?_
        obtain ⟨hi, hw⟩ := hw
        refine vs_iald hC hW 22 rfl (by decide) hi dX3_servesAll_44 ?_
        obtain ⟨hx, hw⟩ := hw
        obtain ⟨hwt, hwf⟩ := hw
        refine vs_if_ge hC 52 hx dX3_servesAll_45 (by decide) (fun hc => ?_) (fun hc => ?_)
        · have hw := hwt hc
          clear hwt hwf hc
          refine vs_aload_n hC hl 0 dX3_servesAll_52 rfl rfl ?_
          refine vs_get hC hW 0 rfl rfl vs_inX3 16 (by decide) vf_X3_53 rfl dX3_servesAll_53 ?_
          refine vs_iload hC hl 3 dX3_servesAll_56 rfl ?_
          obtain ⟨hi, hw⟩ := hw
          refine vs_iald hC hW 14 rfl (by decide) hi dX3_servesAll_58 ?_
          refine vs_name (fun v11 hv11 => ?_)
          have hw := hw v11 hv11
          refine vs_istore (L' := [(0, .ref (a 0)), (2, .int (vs_I v6)), (3, .int (vs_I v7)), (4, .int (vs_I v8)), (5, .int (vs_I r10)), (6, .int (vs_I v11))]) hC hl [1, 2, 3, 4, 5, 0] dX3_servesAll_59 (by decide) rfl (fun ls hl => ?_)
          refine vs_iload hC hl 5 dX3_servesAll_61 rfl ?_
          refine vs_iload_n hC hl 1 dX3_servesAll_63 rfl rfl ?_
          obtain ⟨hx, hw⟩ := hw
          obtain ⟨hy, hw⟩ := hw
          obtain ⟨hwt, hwf⟩ := hw
          refine vs_icmp_le hC 70 hx hy dX3_servesAll_64 (by decide) (fun hc => ?_) (fun hc => ?_)
          · have hw := hwt hc
            clear hwt hwf hc
            refine vs_iload_n hC hl 1 dX3_servesAll_70 rfl rfl ?_
            refine vs_iload hC hl 5 dX3_servesAll_71 rfl ?_
            refine vs_isub hC dX3_servesAll_73 ?_
            refine vs_name (fun v12 hv12 => ?_)
            have hw := hw v12 hv12
            refine vs_istore_n (L' := [(0, .ref (a 0)), (2, .int (vs_I v12)), (3, .int (vs_I v7)), (4, .int (vs_I v8)), (5, .int (vs_I r10)), (6, .int (vs_I v11))]) hC hl [1, 0, 2, 3, 4, 5] dX3_servesAll_74 rfl (by decide) rfl (fun ls hl => ?_)
            refine vs_aload_n hC hl 0 dX3_servesAll_75 rfl rfl ?_
            refine vs_iload hC hl 4 dX3_servesAll_76 rfl ?_
            refine vs_callVV [.int (vs_I r10)] hC hW 0 rfl rfl vk_X3_serves vm_X3_186 (c_X3_serves l g a r q (wr) S9 r10 _ hw) rfl hl.1 rfl ⟨rfl, rfl⟩ ⟨Nat.le_of_ble_eq_true rfl, Nat.le_of_ble_eq_true rfl⟩ ⟨Nat.le_of_ble_eq_true rfl, Nat.le_of_ble_eq_true rfl⟩ (Nat.le_of_ble_eq_true rfl) dX3_servesAll_78 (fun S13 H locs hw hW => ?_)
            have hW : vs_Wd g A _ (vs_W3 g a r q S13 ++ wr) _ _ s := hW
            refine vs_iconst hC dX3_servesAll_81 ?_
            refine vs_istore_n (L' := [(0, .ref (a 0)), (2, .int (vs_I v12)), (3, .int (vs_I 1)), (4, .int (vs_I v8)), (5, .int (vs_I r10)), (6, .int (vs_I v11))]) hC hl [1, 2, 0, 3, 4, 5] dX3_servesAll_82 rfl (by decide) rfl (fun ls hl => ?_)
            refine vs_iinc (L' := [(0, .ref (a 0)), (2, .int (vs_I v12)), (3, .int (vs_I 1)), (4, .int (vs_I (v8 + 1))), (5, .int (vs_I r10)), (6, .int (vs_I v11))]) hC hl 3 [1, 2, 3, 0, 4, 5] dX3_servesAll_83 rfl (by decide) rfl (fun ls hl => ?_)
            refine vs_goto hC 13 dX3_servesAll_86 (by decide) ?_
            exact ih5 (v12, 1, v8 + 1, S13) hw _ _ _ hW (lv_sub hl [0, 1, 2, 3] rfl)
          · have hw := hwf hc
            clear hwt hwf hc
            refine vs_goto hC 83 dX3_servesAll_67 (by decide) ?_
            refine vs_iinc (L' := [(0, .ref (a 0)), (2, .int (vs_I v6)), (3, .int (vs_I v7)), (4, .int (vs_I (v8 + 1))), (5, .int (vs_I r10)), (6, .int (vs_I v11))]) hC hl 3 [1, 2, 3, 0, 4, 5] dX3_servesAll_83 rfl (by decide) rfl (fun ls hl => ?_)
            refine vs_goto hC 13 dX3_servesAll_86 (by decide) ?_
            exact ih5 (v6, v7, v8 + 1, S9) hw _ _ _ hW (lv_sub hl [0, 1, 2, 3] rfl)
        · have hw := hwf hc
          clear hwt hwf hc
          refine vs_iconst hC dX3_servesAll_48 ?_
          refine vs_goto hC 59 dX3_servesAll_49 (by decide) ?_
          refine vs_istore (L' := [(0, .ref (a 0)), (2, .int (vs_I v6)), (3, .int (vs_I v7)), (4, .int (vs_I v8)), (5, .int (vs_I r10)), (6, .int (vs_I 1))]) hC hl [1, 2, 3, 4, 5, 0] dX3_servesAll_59 (by decide) rfl (fun ls hl => ?_)
          refine vs_iload hC hl 5 dX3_servesAll_61 rfl ?_
          refine vs_iload_n hC hl 1 dX3_servesAll_63 rfl rfl ?_
          obtain ⟨hy, hw⟩ := hw
          obtain ⟨hwt, hwf⟩ := hw
          refine vs_icmp_le hC 70 ⟨by decide, by decide⟩ hy dX3_servesAll_64 (by decide) (fun hc => ?_) (fun hc => ?_)
          · have hw := hwt hc
            clear hwt hwf hc
            refine vs_iload_n hC hl 1 dX3_servesAll_70 rfl rfl ?_
            refine vs_iload hC hl 5 dX3_servesAll_71 rfl ?_
            refine vs_isub hC dX3_servesAll_73 ?_
            refine vs_name (fun v14 hv14 => ?_)
            have hw := hw v14 hv14
            refine vs_istore_n (L' := [(0, .ref (a 0)), (2, .int (vs_I v14)), (3, .int (vs_I v7)), (4, .int (vs_I v8)), (5, .int (vs_I r10)), (6, .int (vs_I 1))]) hC hl [1, 0, 2, 3, 4, 5] dX3_servesAll_74 rfl (by decide) rfl (fun ls hl => ?_)
            refine vs_aload_n hC hl 0 dX3_servesAll_75 rfl rfl ?_
            refine vs_iload hC hl 4 dX3_servesAll_76 rfl ?_
            refine vs_callVV [.int (vs_I r10)] hC hW 0 rfl rfl vk_X3_serves vm_X3_186 (c_X3_serves l g a r q (wr) S9 r10 _ hw) rfl hl.1 rfl ⟨rfl, rfl⟩ ⟨Nat.le_of_ble_eq_true rfl, Nat.le_of_ble_eq_true rfl⟩ ⟨Nat.le_of_ble_eq_true rfl, Nat.le_of_ble_eq_true rfl⟩ (Nat.le_of_ble_eq_true rfl) dX3_servesAll_78 (fun S15 H locs hw hW => ?_)
            have hW : vs_Wd g A _ (vs_W3 g a r q S15 ++ wr) _ _ s := hW
            refine vs_iconst hC dX3_servesAll_81 ?_
            refine vs_istore_n (L' := [(0, .ref (a 0)), (2, .int (vs_I v14)), (3, .int (vs_I 1)), (4, .int (vs_I v8)), (5, .int (vs_I r10)), (6, .int (vs_I 1))]) hC hl [1, 2, 0, 3, 4, 5] dX3_servesAll_82 rfl (by decide) rfl (fun ls hl => ?_)
            refine vs_iinc (L' := [(0, .ref (a 0)), (2, .int (vs_I v14)), (3, .int (vs_I 1)), (4, .int (vs_I (v8 + 1))), (5, .int (vs_I r10)), (6, .int (vs_I 1))]) hC hl 3 [1, 2, 3, 0, 4, 5] dX3_servesAll_83 rfl (by decide) rfl (fun ls hl => ?_)
            refine vs_goto hC 13 dX3_servesAll_86 (by decide) ?_
            exact ih5 (v14, 1, v8 + 1, S15) hw _ _ _ hW (lv_sub hl [0, 1, 2, 3] rfl)
          · have hw := hwf hc
            clear hwt hwf hc
            refine vs_goto hC 83 dX3_servesAll_67 (by decide) ?_
            refine vs_iinc (L' := [(0, .ref (a 0)), (2, .int (vs_I v6)), (3, .int (vs_I v7)), (4, .int (vs_I (v8 + 1))), (5, .int (vs_I r10)), (6, .int (vs_I 1))]) hC hl 3 [1, 2, 3, 0, 4, 5] dX3_servesAll_83 rfl (by decide) rfl (fun ls hl => ?_)
            refine vs_goto hC 13 dX3_servesAll_86 (by decide) ?_
            exact ih5 (v6, v7, v8 + 1, S9) hw _ _ _ hW (lv_sub hl [0, 1, 2, 3] rfl)
      · have hw := hwf hc
        clear hwt hwf hc
        refine vs_goto hC 83 dX3_servesAll_35 (by decide) ?_
        refine vs_iinc (L' := [(0, .ref (a 0)), (2, .int (vs_I v6)), (3, .int (vs_I v7)), (4, .int (vs_I (v8 + 1))), (5, .int (vs_I r10))]) hC hl 3 [1, 2, 3, 0, 4] dX3_servesAll_83 rfl (by decide) rfl (fun ls hl => ?_)
        refine vs_goto hC 13 dX3_servesAll_86 (by decide) ?_
        exact ih5 (v6, v7, v8 + 1, S9) hw _ _ _ hW (lv_sub hl [0, 1, 2, 3] rfl)
set_option maxHeartbeats 4000000 in
set_option maxRecDepth 100000 in
theorem c_X3_moves (l : Launch) (g : vs_G) (a r q : Nat → Nat) (wr : va_W) (S : vs_St) (x1 : Int) (x2 : Int) (post : Int → vs_St → Prop) (hw : wX3_moves S x1 x2 post) : vs_MI l yX3_moves (Cond.code yX3_moves cX3_moves 7 (some .int) :: vs_ws) { frames := 2, cells := 0, slots := 0, locals := 46 } g [.ref (a 0), .int (vs_I x1), .int (vs_I x2)] (vs_W3 g a r q S ++ wr) (fun (S' : vs_St) => vs_W3 g a r q S' ++ wr) post 0 0 := by
  refine vs_ofW (Qc := fun A => vs_QI g A (fun (S' : vs_St) => vs_W3 g a r q S' ++ wr) post) (by decide +kernel) (Nat.le_of_ble_eq_true rfl) (fun p e s m below meth c A ls hC hr hlk hW hl => ?_)
  have hC : CallFix p m c cX3_moves 7 s _ vs_ws RX3 := hC
  have hl : lv_has ls 7 [(0, .ref (a 0)), (1, .int (vs_I x1)), (2, .int (vs_I x2))] := hl
  unfold wX3_moves at hw
  refine vs_iconst hC dX3_moves_0 ?_
  refine vs_istore_n (L' := [(0, .ref (a 0)), (1, .int (vs_I x1)), (2, .int (vs_I x2)), (3, .int (vs_I 0))]) hC hl [1, 2, 3, 0] dX3_moves_1 rfl (by decide) rfl (fun ls hl => ?_)
  refine vs_iconst hC dX3_moves_2 ?_
  refine vs_istore (L' := [(0, .ref (a 0)), (1, .int (vs_I x1)), (2, .int (vs_I x2)), (3, .int (vs_I 0)), (4, .int (vs_I 0))]) hC hl [1, 2, 3, 4, 0] dX3_moves_3 (by decide) rfl (fun ls hl => ?_)
  refine vs_aload_n hC hl 0 dX3_moves_5 rfl rfl ?_
  refine vs_get hC hW 0 rfl rfl vs_inX3 10 (by decide) vf_X3_38 rfl dX3_moves_6 ?_
  refine vs_iload_n hC hl 1 dX3_moves_9 rfl rfl ?_
  obtain ⟨hi, hw⟩ := hw
  refine vs_iald hC hW 9 rfl (by decide) hi dX3_moves_10 ?_
  refine vs_name (fun v1 hv1 => ?_)
  have hw := hw v1 hv1
  refine vs_istore (L' := [(0, .ref (a 0)), (1, .int (vs_I x1)), (2, .int (vs_I x2)), (3, .int (vs_I 0)), (4, .int (vs_I 0)), (5, .int (vs_I v1))]) hC hl [1, 2, 3, 4, 5, 0] dX3_moves_11 (by decide) rfl (fun ls hl => ?_)
  obtain ⟨J2, μ2, hJ, hB2⟩ := hw
  refine vs_loop (V := Int × Int × Int × vs_St) (J := fun v => J2 v.1 v.2.1 v.2.2.1 v.2.2.2) (μ := fun v => μ2 v.1 v.2.1 v.2.2.1 v.2.2.2) (fun v => vs_W3 g a r q v.2.2.2 ++ wr) (fun v => [(0, .ref (a 0)), (1, .int (vs_I x1)), (2, .int (vs_I x2)), (3, .int (vs_I v.1)), (4, .int (vs_I v.2.1)), (5, .int (vs_I v.2.2.1))]) (fun v hJ ih2 H locs ls hW hl => ?_) (0, 0, v1, S) hJ hW (lv_sub hl [0, 1, 2, 3, 4, 5] rfl)
  obtain ⟨v3, v4, v5, S6⟩ := v
  have hw := hB2 v3 v4 v5 S6 hJ
  have hW : vs_Wd g A _ (vs_W3 g a r q S6 ++ wr) _ _ s := hW
  have hl : lv_has ls 7 [(0, .ref (a 0)), (1, .int (vs_I x1)), (2, .int (vs_I x2)), (3, .int (vs_I v3)), (4, .int (vs_I v4)), (5, .int (vs_I v5))] := hl
  clear hJ
  unfold lX3_moves_13 at hw
  refine vs_iload hC hl 5 dX3_moves_13 rfl ?_
  obtain ⟨hx, hw⟩ := hw
  obtain ⟨hwt, hwf⟩ := hw
  refine vs_if_le hC 90 hx dX3_moves_15 (by decide) (fun hc => ?_) (fun hc => ?_)
  · have hw := hwt hc
    clear hwt hwf hc
    refine vs_iload_n hC hl 3 dX3_moves_90 rfl rfl ?_
    exact vs_iret (S6) hC hr hlk hW rfl hw (Nat.le_of_ble_eq_true rfl) (Nat.le_of_ble_eq_true rfl) dX3_moves_91
  · have hw := hwf hc
    clear hwt hwf hc
    refine vs_iload_n hC hl 3 dX3_moves_18 rfl rfl ?_
    refine vs_iload_n hC hl 2 dX3_moves_19 rfl rfl ?_
    obtain ⟨hx, hw⟩ := hw
    obtain ⟨hy, hw⟩ := hw
    obtain ⟨hwt, hwf⟩ := hw
    refine vs_icmp_ge hC 90 hx hy dX3_moves_20 (by decide) (fun hc => ?_) (fun hc => ?_)
    · have hw := hwt hc
      clear hwt hwf hc
      refine vs_iload_n hC hl 3 dX3_moves_90 rfl rfl ?_
      exact vs_iret (S6) hC hr hlk hW rfl hw (Nat.le_of_ble_eq_true rfl) (Nat.le_of_ble_eq_true rfl) dX3_moves_91
    · have hw := hwf hc
      clear hwt hwf hc
      refine vs_iinc (L' := [(0, .ref (a 0)), (1, .int (vs_I x1)), (2, .int (vs_I x2)), (3, .int (vs_I v3)), (4, .int (vs_I v4)), (5, .int (vs_I (v5 + (-1))))]) hC hl 5 [1, 2, 3, 4, 5, 0] dX3_moves_23 rfl (by decide) rfl (fun ls hl => ?_)
      refine vs_aload_n hC hl 0 dX3_moves_26 rfl rfl ?_
      refine vs_get hC hW 0 rfl rfl vs_inX3 2 (by decide) vf_X3_13 rfl dX3_moves_27 ?_
      refine vs_aload_n hC hl 0 dX3_moves_30 rfl rfl ?_
      refine vs_get hC hW 0 rfl rfl vs_inX3 8 (by decide) vf_X3_32 rfl dX3_moves_31 ?_
      refine vs_iload_n hC hl 1 dX3_moves_34 rfl rfl ?_
      obtain ⟨hq, hw⟩ := hw
      have hr7 := hq
      refine vs_aald2 (r := r) hC hW 7 rfl (by decide) hq dX3_moves_35 ?_
      refine vs_iload hC hl 4 dX3_moves_36 rfl ?_
      obtain ⟨hi, hw⟩ := hw
      refine vs_iald2 hC hW (25 + Int.toNat x1) (vs_rowat8 hr7) hi dX3_moves_38 ?_
      refine vs_bipush hC dX3_moves_39 (by decide +kernel) ?_
      obtain ⟨hi, hw⟩ := hw
      refine vs_idiv hC dX3_moves_41 ⟨hi.1, hi.2, by decide, by decide⟩ ?_
      obtain ⟨hi, hw⟩ := hw
      refine vs_cald hC hW 2 rfl (by decide) hi dX3_moves_42 ?_
      refine vs_bipush hC dX3_moves_43 (by decide +kernel) ?_
      obtain ⟨hx, hw⟩ := hw
      obtain ⟨hwt, hwf⟩ := hw
      refine vs_icmp_ne hC 56 hx ⟨by decide, by decide⟩ dX3_moves_45 (by decide) (fun hc => ?_) (fun hc => ?_)
      · have hw := hwt hc
        clear hwt hwf hc
        refine vs_iconst hC dX3_moves_56 ?_
        refine vs_name (fun v8 hv8 => ?_)
        have hw := hw v8 hv8
        refine vs_istore (L' := [(0, .ref (a 0)), (1, .int (vs_I x1)), (2, .int (vs_I x2)), (3, .int (vs_I v3)), (4, .int (vs_I v4)), (5, .int (vs_I (v5 + (-1)))), (6, .int (vs_I v8))]) hC hl [1, 2, 3, 4, 5, 6, 0] dX3_moves_57 (by decide) rfl (fun ls hl => ?_)
        refine vs_iload hC hl 6 dX3_moves_59 rfl ?_
        obtain ⟨hx, hw⟩ := hw
        obtain ⟨hwt, hwf⟩ := hw
        refine vs_if_ge hC 70 hx dX3_moves_61 (by decide) (fun hc => ?_) (fun hc => ?_)
        · have hw := hwt hc
          clear hwt hwf hc
          refine vs_aload_n hC hl 0 dX3_moves_70 rfl rfl ?_
          refine vs_iload_n hC hl 1 dX3_moves_71 rfl rfl ?_
          refine vs_iload hC hl 4 dX3_moves_72 rfl ?_
          refine vs_callVV [.int (vs_I x1), .int (vs_I v4)] hC hW 0 rfl rfl vk_X3_takes vm_X3_158 (c_X3_takes l g a r q (wr) S6 x1 v4 _ hw) rfl hl.1 rfl ⟨rfl, rfl⟩ ⟨Nat.le_of_ble_eq_true rfl, Nat.le_of_ble_eq_true rfl⟩ ⟨Nat.le_of_ble_eq_true rfl, Nat.le_of_ble_eq_true rfl⟩ (Nat.le_of_ble_eq_true rfl) dX3_moves_74 (fun S9 H locs hw hW => ?_)
          have hW : vs_Wd g A _ (vs_W3 g a r q S9 ++ wr) _ _ s := hW
          refine vs_aload_n hC hl 0 dX3_moves_77 rfl rfl ?_
          refine vs_iload_n hC hl 1 dX3_moves_78 rfl rfl ?_
          refine vs_iload hC hl 6 dX3_moves_79 rfl ?_
          refine vs_callVV [.int (vs_I x1), .int (vs_I v8)] hC hW 0 rfl rfl vk_X3_puts vm_X3_168 (c_X3_puts l g a r q (wr) S9 x1 v8 _ hw) rfl hl.1 rfl ⟨rfl, rfl⟩ ⟨Nat.le_of_ble_eq_true rfl, Nat.le_of_ble_eq_true rfl⟩ ⟨Nat.le_of_ble_eq_true rfl, Nat.le_of_ble_eq_true rfl⟩ (Nat.le_of_ble_eq_true rfl) dX3_moves_81 (fun S10 H locs hw hW => ?_)
          have hW : vs_Wd g A _ (vs_W3 g a r q S10 ++ wr) _ _ s := hW
          refine vs_iinc (L' := [(0, .ref (a 0)), (1, .int (vs_I x1)), (2, .int (vs_I x2)), (3, .int (vs_I (v3 + 1))), (4, .int (vs_I v4)), (5, .int (vs_I (v5 + (-1)))), (6, .int (vs_I v8))]) hC hl 3 [1, 2, 3, 0, 4, 5, 6] dX3_moves_84 rfl (by decide) rfl (fun ls hl => ?_)
          refine vs_goto hC 13 dX3_moves_87 (by decide) ?_
          exact ih2 (v3 + 1, v4, v5 + (-1), S10) hw _ _ _ hW (lv_sub hl [0, 1, 2, 3, 4, 5] rfl)
        · have hw := hwf hc
          clear hwt hwf hc
          refine vs_iinc (L' := [(0, .ref (a 0)), (1, .int (vs_I x1)), (2, .int (vs_I x2)), (3, .int (vs_I v3)), (4, .int (vs_I (v4 + 1))), (5, .int (vs_I (v5 + (-1)))), (6, .int (vs_I v8))]) hC hl 4 [1, 2, 3, 4, 0, 5, 6] dX3_moves_64 rfl (by decide) rfl (fun ls hl => ?_)
          refine vs_goto hC 13 dX3_moves_67 (by decide) ?_
          exact ih2 (v3, v4 + 1, v5 + (-1), S6) hw _ _ _ hW (lv_sub hl [0, 1, 2, 3, 4, 5] rfl)
      · have hw := hwf hc
        clear hwt hwf hc
        refine vs_aload_n hC hl 0 dX3_moves_48 rfl rfl ?_
        refine vs_iload_n hC hl 1 dX3_moves_49 rfl rfl ?_
        refine vs_callVI [.int (vs_I x1)] hC hW 0 rfl rfl vk_X3_place vm_X3_162 (c_X3_place l g a r q (wr) S6 x1 _ hw) rfl hl.1 rfl ⟨rfl, rfl⟩ ⟨Nat.le_of_ble_eq_true rfl, Nat.le_of_ble_eq_true rfl⟩ ⟨Nat.le_of_ble_eq_true rfl, Nat.le_of_ble_eq_true rfl⟩ (Nat.le_of_ble_eq_true rfl) dX3_moves_50 (fun r11 _ H locs hw hW => ?_)
        have hW : vs_Wd g A _ (vs_W3 g a r q S6 ++ wr) _ _ s := hW
        refine vs_goto hC 57 dX3_moves_53 (by decide) ?_
        refine vs_istore (L' := [(0, .ref (a 0)), (1, .int (vs_I x1)), (2, .int (vs_I x2)), (3, .int (vs_I v3)), (4, .int (vs_I v4)), (5, .int (vs_I (v5 + (-1)))), (6, .int (vs_I r11))]) hC hl [1, 2, 3, 4, 5, 6, 0] dX3_moves_57 (by decide) rfl (fun ls hl => ?_)
        refine vs_iload hC hl 6 dX3_moves_59 rfl ?_
        obtain ⟨hx, hw⟩ := hw
        obtain ⟨hwt, hwf⟩ := hw
        refine vs_if_ge hC 70 hx dX3_moves_61 (by decide) (fun hc => ?_) (fun hc => ?_)
        · have hw := hwt hc
          clear hwt hwf hc
          refine vs_aload_n hC hl 0 dX3_moves_70 rfl rfl ?_
          refine vs_iload_n hC hl 1 dX3_moves_71 rfl rfl ?_
          refine vs_iload hC hl 4 dX3_moves_72 rfl ?_
          refine vs_callVV [.int (vs_I x1), .int (vs_I v4)] hC hW 0 rfl rfl vk_X3_takes vm_X3_158 (c_X3_takes l g a r q (wr) S6 x1 v4 _ hw) rfl hl.1 rfl ⟨rfl, rfl⟩ ⟨Nat.le_of_ble_eq_true rfl, Nat.le_of_ble_eq_true rfl⟩ ⟨Nat.le_of_ble_eq_true rfl, Nat.le_of_ble_eq_true rfl⟩ (Nat.le_of_ble_eq_true rfl) dX3_moves_74 (fun S12 H locs hw hW => ?_)
          have hW : vs_Wd g A _ (vs_W3 g a r q S12 ++ wr) _ _ s := hW
          refine vs_aload_n hC hl 0 dX3_moves_77 rfl rfl ?_
          refine vs_iload_n hC hl 1 dX3_moves_78 rfl rfl ?_
          refine vs_iload hC hl 6 dX3_moves_79 rfl ?_
          refine vs_callVV [.int (vs_I x1), .int (vs_I r11)] hC hW 0 rfl rfl vk_X3_puts vm_X3_168 (c_X3_puts l g a r q (wr) S12 x1 r11 _ hw) rfl hl.1 rfl ⟨rfl, rfl⟩ ⟨Nat.le_of_ble_eq_true rfl, Nat.le_of_ble_eq_true rfl⟩ ⟨Nat.le_of_ble_eq_true rfl, Nat.le_of_ble_eq_true rfl⟩ (Nat.le_of_ble_eq_true rfl) dX3_moves_81 (fun S13 H locs hw hW => ?_)
          have hW : vs_Wd g A _ (vs_W3 g a r q S13 ++ wr) _ _ s := hW
          refine vs_iinc (L' := [(0, .ref (a 0)), (1, .int (vs_I x1)), (2, .int (vs_I x2)), (3, .int (vs_I (v3 + 1))), (4, .int (vs_I v4)), (5, .int (vs_I (v5 + (-1)))), (6, .int (vs_I r11))]) hC hl 3 [1, 2, 3, 0, 4, 5, 6] dX3_moves_84 rfl (by decide) rfl (fun ls hl => ?_)
          refine vs_goto hC 13 dX3_moves_87 (by decide) ?_
          exact ih2 (v3 + 1, v4, v5 + (-1), S13) hw _ _ _ hW (lv_sub hl [0, 1, 2, 3, 4, 5] rfl)
        · have hw := hwf hc
          clear hwt hwf hc
          refine vs_iinc (L' := [(0, .ref (a 0)), (1, .int (vs_I x1)), (2, .int (vs_I x2)), (3, .int (vs_I v3)), (4, .int (vs_I (v4 + 1))), (5, .int (vs_I (v5 + (-1)))), (6, .int (vs_I r11))]) hC hl 4 [1, 2, 3, 4, 0, 5, 6] dX3_moves_64 rfl (by decide) rfl (fun ls hl => ?_)
          refine vs_goto hC 13 dX3_moves_67 (by decide) ?_
          exact ih2 (v3, v4 + 1, v5 + (-1), S6) hw _ _ _ hW (lv_sub hl [0, 1, 2, 3, 4, 5] rfl)
set_option maxHeartbeats 4000000 in
set_option maxRecDepth 100000 in
theorem c_X3_rebuilds (l : Launch) (g : vs_G) (a r q : Nat → Nat) (wr : va_W) (S : vs_St) (x1 : Int) (post : Int → vs_St → Prop) (hw : wX3_rebuilds S x1 post) : vs_MI l yX3_rebuilds (Cond.code yX3_rebuilds cX3_rebuilds 5 (some .int) :: vs_ws) { frames := 3, cells := 0, slots := 0, locals := 72 } g [.ref (a 0), .int (vs_I x1)] (vs_W3 g a r q S ++ wr) (fun (S' : vs_St) => vs_W3 g a r q S' ++ wr) post 0 0 := by
  refine vs_ofW (Qc := fun A => vs_QI g A (fun (S' : vs_St) => vs_W3 g a r q S' ++ wr) post) (by decide +kernel) (Nat.le_of_ble_eq_true rfl) (fun p e s m below meth c A ls hC hr hlk hW hl => ?_)
  have hC : CallFix p m c cX3_rebuilds 5 s _ vs_ws RX3 := hC
  have hl : lv_has ls 5 [(0, .ref (a 0)), (1, .int (vs_I x1))] := hl
  unfold wX3_rebuilds at hw
  refine vs_iconst hC dX3_rebuilds_0 ?_
  refine vs_istore_n (L' := [(0, .ref (a 0)), (1, .int (vs_I x1)), (2, .int (vs_I 0))]) hC hl [1, 2, 0] dX3_rebuilds_1 rfl (by decide) rfl (fun ls hl => ?_)
  refine vs_iconst hC dX3_rebuilds_2 ?_
  refine vs_istore_n (L' := [(0, .ref (a 0)), (1, .int (vs_I x1)), (2, .int (vs_I 0)), (3, .int (vs_I 0))]) hC hl [1, 2, 3, 0] dX3_rebuilds_3 rfl (by decide) rfl (fun ls hl => ?_)
  obtain ⟨J1, μ1, hJ, hB1⟩ := hw
  refine vs_loop (V := Int × Int × vs_St) (J := fun v => J1 v.1 v.2.1 v.2.2) (μ := fun v => μ1 v.1 v.2.1 v.2.2) (fun v => vs_W3 g a r q v.2.2 ++ wr) (fun v => [(0, .ref (a 0)), (1, .int (vs_I x1)), (2, .int (vs_I v.1)), (3, .int (vs_I v.2.1))]) (fun v hJ ih1 H locs ls hW hl => ?_) (0, 0, S) hJ hW (lv_sub hl [0, 1, 2, 3] rfl)
  obtain ⟨v2, v3, S4⟩ := v
  have hw := hB1 v2 v3 S4 hJ
  have hW : vs_Wd g A _ (vs_W3 g a r q S4 ++ wr) _ _ s := hW
  have hl : lv_has ls 5 [(0, .ref (a 0)), (1, .int (vs_I x1)), (2, .int (vs_I v2)), (3, .int (vs_I v3))] := hl
  clear hJ
  unfold lX3_rebuilds_4 at hw
  refine vs_iload_n hC hl 3 dX3_rebuilds_4 rfl rfl ?_
  refine vs_aload_n hC hl 0 dX3_rebuilds_5 rfl rfl ?_
  refine vs_get hC hW 0 rfl rfl vs_inX3 15 (by decide) vf_X3_171 rfl dX3_rebuilds_6 ?_
  obtain ⟨hx, hw⟩ := hw
  obtain ⟨hy, hw⟩ := hw
  obtain ⟨hwt, hwf⟩ := hw
  refine vs_icmp_ge hC 76 hx hy dX3_rebuilds_9 (by decide) (fun hc => ?_) (fun hc => ?_)
  · have hw := hwt hc
    clear hwt hwf hc
    refine vs_iconst hC dX3_rebuilds_76 ?_
    refine vs_istore_n (L' := [(0, .ref (a 0)), (1, .int (vs_I x1)), (2, .int (vs_I v2)), (3, .int (vs_I 0))]) hC hl [1, 2, 3, 0] dX3_rebuilds_77 rfl (by decide) rfl (fun ls hl => ?_)
    obtain ⟨J5, μ5, hJ, hB5⟩ := hw
    refine vs_loop (V := Int × Int × vs_St) (J := fun v => J5 v.1 v.2.1 v.2.2) (μ := fun v => μ5 v.1 v.2.1 v.2.2) (fun v => vs_W3 g a r q v.2.2 ++ wr) (fun v => [(0, .ref (a 0)), (1, .int (vs_I x1)), (2, .int (vs_I v.1)), (3, .int (vs_I v.2.1))]) (fun v hJ ih5 H locs ls hW hl => ?_) (v2, 0, S4) hJ hW (lv_sub hl [0, 1, 2, 3] rfl)
    obtain ⟨v6, v7, S8⟩ := v
    have hw := hB5 v6 v7 S8 hJ
    have hW : vs_Wd g A _ (vs_W3 g a r q S8 ++ wr) _ _ s := hW
    have hl : lv_has ls 5 [(0, .ref (a 0)), (1, .int (vs_I x1)), (2, .int (vs_I v6)), (3, .int (vs_I v7))] := hl
    clear hJ
    unfold lX3_rebuilds_78 at hw
    refine vs_iload_n hC hl 3 dX3_rebuilds_78 rfl rfl ?_
    refine vs_aload_n hC hl 0 dX3_rebuilds_79 rfl rfl ?_
    refine vs_get hC hW 0 rfl rfl vs_inX3 15 (by decide) vf_X3_171 rfl dX3_rebuilds_80 ?_
    obtain ⟨hx, hw⟩ := hw
    obtain ⟨hy, hw⟩ := hw
    obtain ⟨hwt, hwf⟩ := hw
    refine vs_icmp_ge hC 121 hx hy dX3_rebuilds_83 (by decide) (fun hc => ?_) (fun hc => ?_)
    · have hw := hwt hc
      clear hwt hwf hc
      refine vs_iload_n hC hl 2 dX3_rebuilds_121 rfl rfl ?_
      exact vs_iret (S8) hC hr hlk hW rfl hw (Nat.le_of_ble_eq_true rfl) (Nat.le_of_ble_eq_true rfl) dX3_rebuilds_122
    · have hw := hwf hc
      clear hwt hwf hc
      refine vs_aload_n hC hl 0 dX3_rebuilds_86 rfl rfl ?_
      refine vs_aload_n hC hl 0 dX3_rebuilds_87 rfl rfl ?_
      refine vs_get hC hW 0 rfl rfl vs_inX3 13 (by decide) vf_X3_47 rfl dX3_rebuilds_88 ?_
      refine vs_iload_n hC hl 3 dX3_rebuilds_91 rfl rfl ?_
      obtain ⟨hi, hw⟩ := hw
      refine vs_iald hC hW 12 rfl (by decide) hi dX3_rebuilds_92 ?_
      refine vs_callVI [.int (vs_I (S8 13 v7))] hC hW 0 rfl rfl vk_X3_lost vm_X3_174 (c_X3_lost l g a r q (wr) S8 (S8 13 v7) _ hw) rfl hl.1 rfl ⟨rfl, rfl⟩ ⟨Nat.le_of_ble_eq_true rfl, Nat.le_of_ble_eq_true rfl⟩ ⟨Nat.le_of_ble_eq_true rfl, Nat.le_of_ble_eq_true rfl⟩ (Nat.le_of_ble_eq_true rfl) dX3_rebuilds_93 (fun r9 _ H locs hw hW => ?_)
      have hW : vs_Wd g A _ (vs_W3 g a r q S8 ++ wr) _ _ s := hW
      obtain ⟨hx, hw⟩ := hw
      obtain ⟨hwt, hwf⟩ := hw
      refine vs_if_ne hC 115 hx dX3_rebuilds_96 (by decide) (fun hc => ?_) (fun hc => ?_)
      · have hw := hwt hc
        clear hwt hwf hc
        refine vs_iinc (L' := [(0, .ref (a 0)), (1, .int (vs_I x1)), (2, .int (vs_I v6)), (3, .int (vs_I (v7 + 1)))]) hC hl 3 [1, 2, 3, 0] dX3_rebuilds_115 rfl (by decide) rfl (fun ls hl => ?_)
        refine vs_goto hC 78 dX3_rebuilds_118 (by decide) ?_
        exact ih5 (v6, v7 + 1, S8) hw _ _ _ hW (lv_sub hl [0, 1, 2, 3] rfl)
      · have hw := hwf hc
        clear hwt hwf hc
        refine vs_iload_n hC hl 2 dX3_rebuilds_99 rfl rfl ?_
        refine vs_aload_n hC hl 0 dX3_rebuilds_100 rfl rfl ?_
        refine vs_aload_n hC hl 0 dX3_rebuilds_101 rfl rfl ?_
        refine vs_get hC hW 0 rfl rfl vs_inX3 13 (by decide) vf_X3_47 rfl dX3_rebuilds_102 ?_
        refine vs_iload_n hC hl 3 dX3_rebuilds_105 rfl rfl ?_
        obtain ⟨hi, hw⟩ := hw
        refine vs_iald hC hW 12 rfl (by decide) hi dX3_rebuilds_106 ?_
        refine vs_iload_n hC hl 1 dX3_rebuilds_107 rfl rfl ?_
        refine vs_iload_n hC hl 2 dX3_rebuilds_108 rfl rfl ?_
        refine vs_isub hC dX3_rebuilds_109 ?_
        refine vs_callVI [.int (vs_I (S8 13 v7)), .int (vs_I (x1 - v6))] hC hW 0 rfl rfl vk_X3_moves vm_X3_193 (c_X3_moves l g a r q (wr) S8 (S8 13 v7) (x1 - v6) _ hw) rfl hl.1 rfl ⟨rfl, rfl⟩ ⟨Nat.le_of_ble_eq_true rfl, Nat.le_of_ble_eq_true rfl⟩ ⟨Nat.le_of_ble_eq_true rfl, Nat.le_of_ble_eq_true rfl⟩ (Nat.le_of_ble_eq_true rfl) dX3_rebuilds_110 (fun r10 S11 H locs hw hW => ?_)
        have hW : vs_Wd g A _ (vs_W3 g a r q S11 ++ wr) _ _ s := hW
        refine vs_iadd hC dX3_rebuilds_113 ?_
        refine vs_name (fun v12 hv12 => ?_)
        have hw := hw v12 hv12
        refine vs_istore_n (L' := [(0, .ref (a 0)), (1, .int (vs_I x1)), (2, .int (vs_I v12)), (3, .int (vs_I v7))]) hC hl [1, 2, 0, 3] dX3_rebuilds_114 rfl (by decide) rfl (fun ls hl => ?_)
        refine vs_iinc (L' := [(0, .ref (a 0)), (1, .int (vs_I x1)), (2, .int (vs_I v12)), (3, .int (vs_I (v7 + 1)))]) hC hl 3 [1, 2, 3, 0] dX3_rebuilds_115 rfl (by decide) rfl (fun ls hl => ?_)
        refine vs_goto hC 78 dX3_rebuilds_118 (by decide) ?_
        exact ih5 (v12, v7 + 1, S11) hw _ _ _ hW (lv_sub hl [0, 1, 2, 3] rfl)
  · have hw := hwf hc
    clear hwt hwf hc
    refine vs_aload_n hC hl 0 dX3_rebuilds_12 rfl rfl ?_
    refine vs_get hC hW 0 rfl rfl vs_inX3 13 (by decide) vf_X3_47 rfl dX3_rebuilds_13 ?_
    refine vs_iload_n hC hl 3 dX3_rebuilds_16 rfl rfl ?_
    obtain ⟨hi, hw⟩ := hw
    refine vs_iald hC hW 12 rfl (by decide) hi dX3_rebuilds_17 ?_
    refine vs_name (fun v13 hv13 => ?_)
    have hw := hw v13 hv13
    refine vs_istore (L' := [(0, .ref (a 0)), (1, .int (vs_I x1)), (2, .int (vs_I v2)), (3, .int (vs_I v3)), (4, .int (vs_I v13))]) hC hl [1, 2, 3, 4, 0] dX3_rebuilds_18 (by decide) rfl (fun ls hl => ?_)
    obtain ⟨J14, μ14, hJ, hB14⟩ := hw
    refine vs_loop (V := Int × vs_St) (J := fun v => J14 v.1 v.2) (μ := fun v => μ14 v.1 v.2) (fun v => vs_W3 g a r q v.2 ++ wr) (fun v => [(0, .ref (a 0)), (1, .int (vs_I x1)), (2, .int (vs_I v.1)), (3, .int (vs_I v3)), (4, .int (vs_I v13))]) (fun v hJ ih14 H locs ls hW hl => ?_) (v2, S4) hJ hW (lv_sub hl [0, 1, 2, 3, 4] rfl)
    obtain ⟨v15, S16⟩ := v
    have hw := hB14 v15 S16 hJ
    have hW : vs_Wd g A _ (vs_W3 g a r q S16 ++ wr) _ _ s := hW
    have hl : lv_has ls 5 [(0, .ref (a 0)), (1, .int (vs_I x1)), (2, .int (vs_I v15)), (3, .int (vs_I v3)), (4, .int (vs_I v13))] := hl
    clear hJ
    unfold lX3_rebuilds_20 at hw
    refine vs_iload_n hC hl 2 dX3_rebuilds_20 rfl rfl ?_
    refine vs_iload_n hC hl 1 dX3_rebuilds_21 rfl rfl ?_
    obtain ⟨hx, hw⟩ := hw
    obtain ⟨hy, hw⟩ := hw
    obtain ⟨hwt, hwf⟩ := hw
    refine vs_icmp_ge hC 70 hx hy dX3_rebuilds_22 (by decide) (fun hc => ?_) (fun hc => ?_)
    · have hw := hwt hc
      clear hwt hwf hc
      refine vs_iinc (L' := [(0, .ref (a 0)), (1, .int (vs_I x1)), (2, .int (vs_I v15)), (3, .int (vs_I (v3 + 1))), (4, .int (vs_I v13))]) hC hl 3 [1, 2, 3, 0, 4] dX3_rebuilds_70 rfl (by decide) rfl (fun ls hl => ?_)
      refine vs_goto hC 4 dX3_rebuilds_73 (by decide) ?_
      exact ih1 (v15, v3 + 1, S16) hw _ _ _ hW (lv_sub hl [0, 1, 2, 3] rfl)
    · have hw := hwf hc
      clear hwt hwf hc
      refine vs_aload_n hC hl 0 dX3_rebuilds_25 rfl rfl ?_
      refine vs_iload hC hl 4 dX3_rebuilds_26 rfl ?_
      refine vs_callVI [.int (vs_I v13)] hC hW 0 rfl rfl vk_X3_degraded vm_X3_190 (c_X3_degraded l g a r q (wr) S16 v13 _ hw) rfl hl.1 rfl ⟨rfl, rfl⟩ ⟨Nat.le_of_ble_eq_true rfl, Nat.le_of_ble_eq_true rfl⟩ ⟨Nat.le_of_ble_eq_true rfl, Nat.le_of_ble_eq_true rfl⟩ (Nat.le_of_ble_eq_true rfl) dX3_rebuilds_28 (fun r17 _ H locs hw hW => ?_)
      have hW : vs_Wd g A _ (vs_W3 g a r q S16 ++ wr) _ _ s := hW
      obtain ⟨hx, hw⟩ := hw
      obtain ⟨hwt, hwf⟩ := hw
      refine vs_if_eq hC 70 hx dX3_rebuilds_31 (by decide) (fun hc => ?_) (fun hc => ?_)
      · have hw := hwt hc
        clear hwt hwf hc
        refine vs_iinc (L' := [(0, .ref (a 0)), (1, .int (vs_I x1)), (2, .int (vs_I v15)), (3, .int (vs_I (v3 + 1))), (4, .int (vs_I v13))]) hC hl 3 [1, 2, 3, 0, 4] dX3_rebuilds_70 rfl (by decide) rfl (fun ls hl => ?_)
        refine vs_goto hC 4 dX3_rebuilds_73 (by decide) ?_
        exact ih1 (v15, v3 + 1, S16) hw _ _ _ hW (lv_sub hl [0, 1, 2, 3] rfl)
      · have hw := hwf hc
        clear hwt hwf hc
        refine vs_aload_n hC hl 0 dX3_rebuilds_34 rfl rfl ?_
        refine vs_iload hC hl 4 dX3_rebuilds_35 rfl ?_
        refine vs_callVI [.int (vs_I v13)] hC hW 0 rfl rfl vk_X3_lost vm_X3_174 (c_X3_lost l g a r q (wr) S16 v13 _ hw) rfl hl.1 rfl ⟨rfl, rfl⟩ ⟨Nat.le_of_ble_eq_true rfl, Nat.le_of_ble_eq_true rfl⟩ ⟨Nat.le_of_ble_eq_true rfl, Nat.le_of_ble_eq_true rfl⟩ (Nat.le_of_ble_eq_true rfl) dX3_rebuilds_37 (fun r18 _ H locs hw hW => ?_)
        have hW : vs_Wd g A _ (vs_W3 g a r q S16 ++ wr) _ _ s := hW
        obtain ⟨hx, hw⟩ := hw
        obtain ⟨hwt, hwf⟩ := hw
        refine vs_if_ne hC 70 hx dX3_rebuilds_40 (by decide) (fun hc => ?_) (fun hc => ?_)
        · have hw := hwt hc
          clear hwt hwf hc
          refine vs_iinc (L' := [(0, .ref (a 0)), (1, .int (vs_I x1)), (2, .int (vs_I v15)), (3, .int (vs_I (v3 + 1))), (4, .int (vs_I v13))]) hC hl 3 [1, 2, 3, 0, 4] dX3_rebuilds_70 rfl (by decide) rfl (fun ls hl => ?_)
          refine vs_goto hC 4 dX3_rebuilds_73 (by decide) ?_
          exact ih1 (v15, v3 + 1, S16) hw _ _ _ hW (lv_sub hl [0, 1, 2, 3] rfl)
        · have hw := hwf hc
          clear hwt hwf hc
          refine vs_aload_n hC hl 0 dX3_rebuilds_43 rfl rfl ?_
          refine vs_iload hC hl 4 dX3_rebuilds_44 rfl ?_
          refine vs_callVI [.int (vs_I v13)] hC hW 0 rfl rfl vk_X3_place vm_X3_162 (c_X3_place l g a r q (wr) S16 v13 _ hw) rfl hl.1 rfl ⟨rfl, rfl⟩ ⟨Nat.le_of_ble_eq_true rfl, Nat.le_of_ble_eq_true rfl⟩ ⟨Nat.le_of_ble_eq_true rfl, Nat.le_of_ble_eq_true rfl⟩ (Nat.le_of_ble_eq_true rfl) dX3_rebuilds_46 (fun r19 _ H locs hw hW => ?_)
          have hW : vs_Wd g A _ (vs_W3 g a r q S16 ++ wr) _ _ s := hW
          obtain ⟨hx, hw⟩ := hw
          obtain ⟨hwt, hwf⟩ := hw
          refine vs_if_lt hC 70 hx dX3_rebuilds_49 (by decide) (fun hc => ?_) (fun hc => ?_)
          · have hw := hwt hc
            clear hwt hwf hc
            refine vs_iinc (L' := [(0, .ref (a 0)), (1, .int (vs_I x1)), (2, .int (vs_I v15)), (3, .int (vs_I (v3 + 1))), (4, .int (vs_I v13))]) hC hl 3 [1, 2, 3, 0, 4] dX3_rebuilds_70 rfl (by decide) rfl (fun ls hl => ?_)
            refine vs_goto hC 4 dX3_rebuilds_73 (by decide) ?_
            exact ih1 (v15, v3 + 1, S16) hw _ _ _ hW (lv_sub hl [0, 1, 2, 3] rfl)
          · have hw := hwf hc
            clear hwt hwf hc
            refine vs_aload_n hC hl 0 dX3_rebuilds_52 rfl rfl ?_
            refine vs_iload hC hl 4 dX3_rebuilds_53 rfl ?_
            refine vs_aload_n hC hl 0 dX3_rebuilds_55 rfl rfl ?_
            refine vs_iload hC hl 4 dX3_rebuilds_56 rfl ?_
            refine vs_callVI [.int (vs_I v13)] hC hW 0 rfl rfl vk_X3_place vm_X3_162 (c_X3_place l g a r q (wr) S16 v13 _ hw) rfl hl.1 rfl ⟨rfl, rfl⟩ ⟨Nat.le_of_ble_eq_true rfl, Nat.le_of_ble_eq_true rfl⟩ ⟨Nat.le_of_ble_eq_true rfl, Nat.le_of_ble_eq_true rfl⟩ (Nat.le_of_ble_eq_true rfl) dX3_rebuilds_58 (fun r20 _ H locs hw hW => ?_)
            have hW : vs_Wd g A _ (vs_W3 g a r q S16 ++ wr) _ _ s := hW
            refine vs_callVV [.int (vs_I v13), .int (vs_I r20)] hC hW 0 rfl rfl vk_X3_puts vm_X3_168 (c_X3_puts l g a r q (wr) S16 v13 r20 _ hw) rfl hl.1 rfl ⟨rfl, rfl⟩ ⟨Nat.le_of_ble_eq_true rfl, Nat.le_of_ble_eq_true rfl⟩ ⟨Nat.le_of_ble_eq_true rfl, Nat.le_of_ble_eq_true rfl⟩ (Nat.le_of_ble_eq_true rfl) dX3_rebuilds_61 (fun S21 H locs hw hW => ?_)
            have hW : vs_Wd g A _ (vs_W3 g a r q S21 ++ wr) _ _ s := hW
            refine vs_iinc (L' := [(0, .ref (a 0)), (1, .int (vs_I x1)), (2, .int (vs_I (v15 + 1))), (3, .int (vs_I v3)), (4, .int (vs_I v13))]) hC hl 2 [1, 2, 0, 3, 4] dX3_rebuilds_64 rfl (by decide) rfl (fun ls hl => ?_)
            refine vs_goto hC 20 dX3_rebuilds_67 (by decide) ?_
            exact ih14 (v15 + 1, S21) hw _ _ _ hW (lv_sub hl [0, 1, 2, 3, 4] rfl)
set_option maxHeartbeats 4000000 in
set_option maxRecDepth 100000 in
theorem c_X3_ticks (l : Launch) (g : vs_G) (a r q : Nat → Nat) (wr : va_W) (S : vs_St) (post : vs_St → Prop) (hw : wX3_ticks S post) : vs_MV l yX3_ticks (Cond.code yX3_ticks cX3_ticks 4 (none) :: vs_ws) { frames := 6, cells := 0, slots := 0, locals := 141 } g [.ref (a 0)] (vs_W3 g a r q S ++ wr) (fun (S' : vs_St) => vs_W3 g a r q S' ++ wr) post 0 0 := by
  refine vs_ofW (Qc := fun A => vs_QV g A (fun (S' : vs_St) => vs_W3 g a r q S' ++ wr) post) (by decide +kernel) (Nat.le_of_ble_eq_true rfl) (fun p e s m below meth c A ls hC hr hlk hW hl => ?_)
  have hC : CallFix p m c cX3_ticks 4 s _ vs_ws RX3 := hC
  have hl : lv_has ls 4 [(0, .ref (a 0))] := hl
  unfold wX3_ticks at hw
  refine vs_iconst hC dX3_ticks_0 ?_
  refine vs_istore_n (L' := [(0, .ref (a 0)), (1, .int (vs_I 0))]) hC hl [1, 0] dX3_ticks_1 rfl (by decide) rfl (fun ls hl => ?_)
  obtain ⟨J1, μ1, hJ, hB1⟩ := hw
  refine vs_loop (V := Int × vs_St) (J := fun v => J1 v.1 v.2) (μ := fun v => μ1 v.1 v.2) (fun v => vs_W3 g a r q v.2 ++ wr) (fun v => [(0, .ref (a 0)), (1, .int (vs_I v.1))]) (fun v hJ ih1 H locs ls hW hl => ?_) (0, S) hJ hW (lv_sub hl [0, 1] rfl)
  obtain ⟨v2, S3⟩ := v
  have hw := hB1 v2 S3 hJ
  have hW : vs_Wd g A _ (vs_W3 g a r q S3 ++ wr) _ _ s := hW
  have hl : lv_has ls 4 [(0, .ref (a 0)), (1, .int (vs_I v2))] := hl
  clear hJ
  unfold lX3_ticks_2 at hw
  refine vs_iload_n hC hl 1 dX3_ticks_2 rfl rfl ?_
  refine vs_aload_n hC hl 0 dX3_ticks_3 rfl rfl ?_
  refine vs_get hC hW 0 rfl rfl vs_inX3 27 (by decide) vf_X3_106 rfl dX3_ticks_4 ?_
  obtain ⟨hx, hw⟩ := hw
  obtain ⟨hy, hw⟩ := hw
  obtain ⟨hwt, hwf⟩ := hw
  refine vs_icmp_ge hC 34 hx hy dX3_ticks_7 (by decide) (fun hc => ?_) (fun hc => ?_)
  · have hw := hwt hc
    clear hwt hwf hc
    refine vs_aload_n hC hl 0 dX3_ticks_34 rfl rfl ?_
    refine vs_aload_n hC hl 0 dX3_ticks_35 rfl rfl ?_
    refine vs_get hC hW 0 rfl rfl vs_inX3 29 (by decide) vf_X3_86 rfl dX3_ticks_36 ?_
    refine vs_iconst hC dX3_ticks_39 ?_
    obtain ⟨hi, hw⟩ := hw
    refine vs_idiv hC dX3_ticks_40 ⟨hi.1, hi.2, by decide, by decide⟩ ?_
    refine vs_callVI [.int (vs_I ((S3 29 0) / 2))] hC hW 0 rfl rfl vk_X3_rebuilds vm_X3_197 (c_X3_rebuilds l g a r q (wr) S3 ((S3 29 0) / 2) _ hw) rfl hl.1 rfl ⟨rfl, rfl⟩ ⟨Nat.le_of_ble_eq_true rfl, Nat.le_of_ble_eq_true rfl⟩ ⟨Nat.le_of_ble_eq_true rfl, Nat.le_of_ble_eq_true rfl⟩ (Nat.le_of_ble_eq_true rfl) dX3_ticks_41 (fun r4 S5 H locs hw hW => ?_)
    have hW : vs_Wd g A _ (vs_W3 g a r q S5 ++ wr) _ _ s := hW
    refine vs_istore_n (L' := [(0, .ref (a 0)), (1, .int (vs_I r4))]) hC hl [1, 0] dX3_ticks_44 rfl (by decide) rfl (fun ls hl => ?_)
    refine vs_aload_n hC hl 0 dX3_ticks_45 rfl rfl ?_
    refine vs_dup hC dX3_ticks_46 rfl ?_
    refine vs_get hC hW 0 rfl rfl vs_inX3 31 (by decide) vf_X3_200 rfl dX3_ticks_47 ?_
    refine vs_iload_n hC hl 1 dX3_ticks_50 rfl rfl ?_
    refine vs_iadd hC dX3_ticks_51 ?_
    obtain ⟨S6, hS6⟩ : ∃ z : vs_St, z = vs_st S5 31 0 ((S5 31 0) + r4) := ⟨_, rfl⟩
    have hw := hw S6 hS6
    refine vs_put (Wo' := vs_W3 g a r q S6 ++ wr) hC hW 0 rfl rfl vs_inX3 tyX3_ok nmX3 31 (by decide) vf_X3_200 rfl rfl (Nat.le_of_ble_eq_true rfl) (by rw [hS6]; rfl) dX3_ticks_52 (fun H locs hW => ?_)
    refine vs_aload_n hC hl 0 dX3_ticks_55 rfl rfl ?_
    refine vs_bipush hC dX3_ticks_56 (by decide +kernel) ?_
    refine vs_iconst hC dX3_ticks_58 ?_
    refine vs_iload_n hC hl 1 dX3_ticks_59 rfl rfl ?_
    refine vs_imul hC dX3_ticks_60 ?_
    refine vs_isub hC dX3_ticks_61 ?_
    refine vs_callVV [.int (vs_I (20 - (2 * r4)))] hC hW 0 rfl rfl vk_X3_servesAll vm_X3_203 (c_X3_servesAll l g a r q (wr) S6 (20 - (2 * r4)) _ hw) rfl hl.1 rfl ⟨rfl, rfl⟩ ⟨Nat.le_of_ble_eq_true rfl, Nat.le_of_ble_eq_true rfl⟩ ⟨Nat.le_of_ble_eq_true rfl, Nat.le_of_ble_eq_true rfl⟩ (Nat.le_of_ble_eq_true rfl) dX3_ticks_62 (fun S7 H locs hw hW => ?_)
    have hW : vs_Wd g A _ (vs_W3 g a r q S7 ++ wr) _ _ s := hW
    refine vs_iconst hC dX3_ticks_65 ?_
    refine vs_istore_n (L' := [(0, .ref (a 0)), (1, .int (vs_I r4)), (2, .int (vs_I 0))]) hC hl [1, 2, 0] dX3_ticks_66 rfl (by decide) rfl (fun ls hl => ?_)
    obtain ⟨J8, μ8, hJ, hB8⟩ := hw
    refine vs_loop (V := Int × vs_St) (J := fun v => J8 v.1 v.2) (μ := fun v => μ8 v.1 v.2) (fun v => vs_W3 g a r q v.2 ++ wr) (fun v => [(0, .ref (a 0)), (2, .int (vs_I v.1))]) (fun v hJ ih8 H locs ls hW hl => ?_) (0, S7) hJ hW (lv_sub hl [0, 2] rfl)
    obtain ⟨v9, S10⟩ := v
    have hw := hB8 v9 S10 hJ
    have hW : vs_Wd g A _ (vs_W3 g a r q S10 ++ wr) _ _ s := hW
    have hl : lv_has ls 4 [(0, .ref (a 0)), (2, .int (vs_I v9))] := hl
    clear hJ
    unfold lX3_ticks_67 at hw
    refine vs_iload_n hC hl 1 dX3_ticks_67 rfl rfl ?_
    refine vs_aload_n hC hl 0 dX3_ticks_68 rfl rfl ?_
    refine vs_get hC hW 0 rfl rfl vs_inX3 27 (by decide) vf_X3_106 rfl dX3_ticks_69 ?_
    obtain ⟨hx, hw⟩ := hw
    obtain ⟨hy, hw⟩ := hw
    obtain ⟨hwt, hwf⟩ := hw
    refine vs_icmp_ge hC 136 hx hy dX3_ticks_72 (by decide) (fun hc => ?_) (fun hc => ?_)
    · have hw := hwt hc
      clear hwt hwf hc
      refine vs_aload_n hC hl 0 dX3_ticks_136 rfl rfl ?_
      refine vs_dup hC dX3_ticks_137 rfl ?_
      refine vs_get hC hW 0 rfl rfl vs_inX3 30 (by decide) vf_X3_214 rfl dX3_ticks_138 ?_
      refine vs_iconst hC dX3_ticks_141 ?_
      refine vs_iadd hC dX3_ticks_142 ?_
      obtain ⟨S11, hS11⟩ : ∃ z : vs_St, z = vs_st S10 30 0 ((S10 30 0) + 1) := ⟨_, rfl⟩
      have hw := hw S11 hS11
      refine vs_put (Wo' := vs_W3 g a r q S11 ++ wr) hC hW 0 rfl rfl vs_inX3 tyX3_ok nmX3 30 (by decide) vf_X3_214 rfl rfl (Nat.le_of_ble_eq_true rfl) (by rw [hS11]; rfl) dX3_ticks_143 (fun H locs hW => ?_)
      exact vs_vret (S11) hC hr hlk hW rfl hw (Nat.le_of_ble_eq_true rfl) (Nat.le_of_ble_eq_true rfl) dX3_ticks_146
    · have hw := hwf hc
      clear hwt hwf hc
      refine vs_iconst hC dX3_ticks_75 ?_
      refine vs_aload_n hC hl 0 dX3_ticks_76 rfl rfl ?_
      refine vs_get hC hW 0 rfl rfl vs_inX3 17 (by decide) vf_X3_56 rfl dX3_ticks_77 ?_
      refine vs_iload_n hC hl 1 dX3_ticks_80 rfl rfl ?_
      obtain ⟨hi, hw⟩ := hw
      refine vs_iald hC hW 15 rfl (by decide) hi dX3_ticks_81 ?_
      refine vs_aload_n hC hl 0 dX3_ticks_82 rfl rfl ?_
      refine vs_get hC hW 0 rfl rfl vs_inX3 21 (by decide) vf_X3_68 rfl dX3_ticks_83 ?_
      refine vs_iload_n hC hl 1 dX3_ticks_86 rfl rfl ?_
      obtain ⟨hi, hw⟩ := hw
      refine vs_iald hC hW 19 rfl (by decide) hi dX3_ticks_87 ?_
      obtain ⟨hx, hw⟩ := hw
      obtain ⟨hy, hw⟩ := hw
      refine vs_mmin hC hx hy hl.1 vm_X3_206 (Nat.le_of_ble_eq_true rfl) (Nat.le_of_ble_eq_true rfl) (Nat.le_of_ble_eq_true rfl) (Nat.le_of_ble_eq_true rfl) dX3_ticks_88 ?_
      refine vs_aload_n hC hl 0 dX3_ticks_91 rfl rfl ?_
      refine vs_get hC hW 0 rfl rfl vs_inX3 22 (by decide) vf_X3_71 rfl dX3_ticks_92 ?_
      refine vs_iload_n hC hl 1 dX3_ticks_95 rfl rfl ?_
      obtain ⟨hi, hw⟩ := hw
      refine vs_iald hC hW 20 rfl (by decide) hi dX3_ticks_96 ?_
      refine vs_isub hC dX3_ticks_97 ?_
      obtain ⟨hy, hw⟩ := hw
      refine vs_mmax hC ⟨by decide, by decide⟩ hy hl.1 vm_X3_211 (Nat.le_of_ble_eq_true rfl) (Nat.le_of_ble_eq_true rfl) (Nat.le_of_ble_eq_true rfl) (Nat.le_of_ble_eq_true rfl) dX3_ticks_98 ?_
      refine vs_name (fun v12 hv12 => ?_)
      have hw := hw v12 hv12
      refine vs_istore_n (L' := [(0, .ref (a 0)), (2, .int (vs_I v9)), (3, .int (vs_I v12))]) hC hl [1, 2, 0] dX3_ticks_101 rfl (by decide) rfl (fun ls hl => ?_)
      refine vs_aload_n hC hl 0 dX3_ticks_102 rfl rfl ?_
      refine vs_get hC hW 0 rfl rfl vs_inX3 19 (by decide) vf_X3_62 rfl dX3_ticks_103 ?_
      refine vs_iload_n hC hl 1 dX3_ticks_106 rfl rfl ?_
      refine vs_dup2 hC dX3_ticks_107 rfl rfl ?_
      obtain ⟨hi, hw⟩ := hw
      refine vs_iald hC hW 17 rfl (by decide) hi dX3_ticks_108 ?_
      refine vs_iload_n hC hl 2 dX3_ticks_109 rfl rfl ?_
      refine vs_iadd hC dX3_ticks_110 ?_
      obtain ⟨hi, hw⟩ := hw
      obtain ⟨S13, hS13⟩ : ∃ z : vs_St, z = vs_st S10 19 v9 ((S10 19 v9) + v12) := ⟨_, rfl⟩
      have hw := hw S13 hS13
      refine vs_iast (Wo' := vs_W3 g a r q S13 ++ wr) hC hW 17 rfl (by decide) hi (by rw [hS13]; rfl) dX3_ticks_111 (fun H locs hW => ?_)
      refine vs_aload_n hC hl 0 dX3_ticks_112 rfl rfl ?_
      refine vs_get hC hW 0 rfl rfl vs_inX3 20 (by decide) vf_X3_65 rfl dX3_ticks_113 ?_
      refine vs_iload_n hC hl 1 dX3_ticks_116 rfl rfl ?_
      refine vs_dup2 hC dX3_ticks_117 rfl rfl ?_
      obtain ⟨hi, hw⟩ := hw
      refine vs_iald hC hW 18 rfl (by decide) hi dX3_ticks_118 ?_
      refine vs_iload_n hC hl 2 dX3_ticks_119 rfl rfl ?_
      obtain ⟨hx, hw⟩ := hw
      obtain ⟨hwt, hwf⟩ := hw
      refine vs_if_le hC 127 hx dX3_ticks_120 (by decide) (fun hc => ?_) (fun hc => ?_)
      · have hw := hwt hc
        clear hwt hwf hc
        refine vs_iconst hC dX3_ticks_127 ?_
        refine vs_iadd hC dX3_ticks_128 ?_
        obtain ⟨hi, hw⟩ := hw
        obtain ⟨S14, hS14⟩ : ∃ z : vs_St, z = vs_st S13 20 v9 ((S13 20 v9) + 0) := ⟨_, rfl⟩
        have hw := hw S14 hS14
        refine vs_iast (Wo' := vs_W3 g a r q S14 ++ wr) hC hW 18 rfl (by decide) hi (by rw [hS14]; rfl) dX3_ticks_129 (fun H locs hW => ?_)
        refine vs_iinc (L' := [(0, .ref (a 0)), (2, .int (vs_I (v9 + 1))), (3, .int (vs_I v12))]) hC hl 1 [1, 0, 2] dX3_ticks_130 rfl (by decide) rfl (fun ls hl => ?_)
        refine vs_goto hC 67 dX3_ticks_133 (by decide) ?_
        exact ih8 (v9 + 1, S14) hw _ _ _ hW (lv_sub hl [0, 1] rfl)
      · have hw := hwf hc
        clear hwt hwf hc
        refine vs_iconst hC dX3_ticks_123 ?_
        refine vs_goto hC 128 dX3_ticks_124 (by decide) ?_
        refine vs_iadd hC dX3_ticks_128 ?_
        obtain ⟨hi, hw⟩ := hw
        obtain ⟨S15, hS15⟩ : ∃ z : vs_St, z = vs_st S13 20 v9 ((S13 20 v9) + 1) := ⟨_, rfl⟩
        have hw := hw S15 hS15
        refine vs_iast (Wo' := vs_W3 g a r q S15 ++ wr) hC hW 18 rfl (by decide) hi (by rw [hS15]; rfl) dX3_ticks_129 (fun H locs hW => ?_)
        refine vs_iinc (L' := [(0, .ref (a 0)), (2, .int (vs_I (v9 + 1))), (3, .int (vs_I v12))]) hC hl 1 [1, 0, 2] dX3_ticks_130 rfl (by decide) rfl (fun ls hl => ?_)
        refine vs_goto hC 67 dX3_ticks_133 (by decide) ?_
        exact ih8 (v9 + 1, S15) hw _ _ _ hW (lv_sub hl [0, 1] rfl)
  · have hw := hwf hc
    clear hwt hwf hc
    refine vs_aload_n hC hl 0 dX3_ticks_10 rfl rfl ?_
    refine vs_get hC hW 0 rfl rfl vs_inX3 21 (by decide) vf_X3_68 rfl dX3_ticks_11 ?_
    refine vs_iload_n hC hl 1 dX3_ticks_14 rfl rfl ?_
    refine vs_aload_n hC hl 0 dX3_ticks_15 rfl rfl ?_
    refine vs_iload_n hC hl 1 dX3_ticks_16 rfl rfl ?_
    refine vs_callVI [.int (vs_I v2)] hC hW 0 rfl rfl vk_X3_waitingMany vm_X3_136 (c_X3_waitingMany l g a r q (wr) S3 v2 _ hw) rfl hl.1 rfl ⟨rfl, rfl⟩ ⟨Nat.le_of_ble_eq_true rfl, Nat.le_of_ble_eq_true rfl⟩ ⟨Nat.le_of_ble_eq_true rfl, Nat.le_of_ble_eq_true rfl⟩ (Nat.le_of_ble_eq_true rfl) dX3_ticks_17 (fun r16 _ H locs hw hW => ?_)
    have hW : vs_Wd g A _ (vs_W3 g a r q S3 ++ wr) _ _ s := hW
    obtain ⟨hi, hw⟩ := hw
    obtain ⟨S17, hS17⟩ : ∃ z : vs_St, z = vs_st S3 21 v2 r16 := ⟨_, rfl⟩
    have hw := hw S17 hS17
    refine vs_iast (Wo' := vs_W3 g a r q S17 ++ wr) hC hW 19 rfl (by decide) hi (by rw [hS17]; rfl) dX3_ticks_20 (fun H locs hW => ?_)
    refine vs_aload_n hC hl 0 dX3_ticks_21 rfl rfl ?_
    refine vs_get hC hW 0 rfl rfl vs_inX3 22 (by decide) vf_X3_71 rfl dX3_ticks_22 ?_
    refine vs_iload_n hC hl 1 dX3_ticks_25 rfl rfl ?_
    refine vs_iconst hC dX3_ticks_26 ?_
    obtain ⟨hi, hw⟩ := hw
    obtain ⟨S18, hS18⟩ : ∃ z : vs_St, z = vs_st S17 22 v2 0 := ⟨_, rfl⟩
    have hw := hw S18 hS18
    refine vs_iast (Wo' := vs_W3 g a r q S18 ++ wr) hC hW 20 rfl (by decide) hi (by rw [hS18]; rfl) dX3_ticks_27 (fun H locs hW => ?_)
    refine vs_iinc (L' := [(0, .ref (a 0)), (1, .int (vs_I (v2 + 1)))]) hC hl 1 [1, 0] dX3_ticks_28 rfl (by decide) rfl (fun ls hl => ?_)
    refine vs_goto hC 2 dX3_ticks_31 (by decide) ?_
    exact ih1 (v2 + 1, S18) hw _ _ _ hW (lv_sub hl [0, 1] rfl)
set_option maxHeartbeats 4000000 in
set_option maxRecDepth 100000 in
theorem c_X3_pass (l : Launch) (g : vs_G) (a r q : Nat → Nat) (wr : va_W) (S : vs_St) (x1 : Int) (post : Int → vs_St → Prop) (hw : wX3_pass S x1 post) : vs_MI l yX3_pass (Cond.code yX3_pass cX3_pass 3 (some .int) :: vs_ws) { frames := 7, cells := 0, slots := 0, locals := 164 } g [.ref (a 0), .int (vs_I x1)] (vs_W3 g a r q S ++ wr) (fun (S' : vs_St) => vs_W3 g a r q S' ++ wr) post 0 0 := by
  refine vs_ofW (Qc := fun A => vs_QI g A (fun (S' : vs_St) => vs_W3 g a r q S' ++ wr) post) (by decide +kernel) (Nat.le_of_ble_eq_true rfl) (fun p e s m below meth c A ls hC hr hlk hW hl => ?_)
  have hC : CallFix p m c cX3_pass 3 s _ vs_ws RX3 := hC
  have hl : lv_has ls 3 [(0, .ref (a 0)), (1, .int (vs_I x1))] := hl
  unfold wX3_pass at hw
  refine vs_aload_n hC hl 0 dX3_pass_0 rfl rfl ?_
  refine vs_iconst hC dX3_pass_1 ?_
  obtain ⟨S1, hS1⟩ : ∃ z : vs_St, z = vs_st S 0 0 0 := ⟨_, rfl⟩
  have hw := hw S1 hS1
  refine vs_put (Wo' := vs_W3 g a r q S1 ++ wr) hC hW 0 rfl rfl vs_inX3 tyX3_ok nmX3 0 (by decide) vf_X3_96 rfl rfl (Nat.le_of_ble_eq_true rfl) (by rw [hS1]; rfl) dX3_pass_2 (fun H locs hW => ?_)
  refine vs_iload_n hC hl 1 dX3_pass_5 rfl rfl ?_
  refine vs_iconst hC dX3_pass_6 ?_
  refine vs_bipush hC dX3_pass_7 (by decide +kernel) ?_
  refine vs_callSI [.int (vs_I x1), .int (vs_I 1), .int (vs_I 50)] hC hW vk_X3_isBetween vm_X3_102 (c_X3_isBetween l g (vs_W3 g a r q S1 ++ wr) x1 1 50 _ hw) rfl hl.1 rfl ⟨rfl, rfl⟩ ⟨Nat.le_of_ble_eq_true rfl, Nat.le_of_ble_eq_true rfl⟩ ⟨Nat.le_of_ble_eq_true rfl, Nat.le_of_ble_eq_true rfl⟩ (Nat.le_of_ble_eq_true rfl) dX3_pass_9 (fun r2 _ H locs hw hW => ?_)
  have hW : vs_Wd g A _ (vs_W3 g a r q S1 ++ wr) _ _ s := hW
  obtain ⟨hx, hw⟩ := hw
  obtain ⟨hwt, hwf⟩ := hw
  refine vs_if_ne hC 21 hx dX3_pass_12 (by decide) (fun hc => ?_) (fun hc => ?_)
  · have hw := hwt hc
    clear hwt hwf hc
    refine vs_aload_n hC hl 0 dX3_pass_21 rfl rfl ?_
    refine vs_get hC hW 0 rfl rfl vs_inX3 30 (by decide) vf_X3_214 rfl dX3_pass_22 ?_
    refine vs_iload_n hC hl 1 dX3_pass_25 rfl rfl ?_
    refine vs_iadd hC dX3_pass_26 ?_
    refine vs_sipush hC dX3_pass_27 (by decide +kernel) ?_
    obtain ⟨hx, hw⟩ := hw
    obtain ⟨hwt, hwf⟩ := hw
    refine vs_icmp_le hC 39 hx ⟨by decide, by decide⟩ dX3_pass_30 (by decide) (fun hc => ?_) (fun hc => ?_)
    · have hw := hwt hc
      clear hwt hwf hc
      refine vs_iconst hC dX3_pass_39 ?_
      refine vs_istore_n (L' := [(0, .ref (a 0)), (1, .int (vs_I x1)), (2, .int (vs_I 0))]) hC hl [1, 2, 0] dX3_pass_40 rfl (by decide) rfl (fun ls hl => ?_)
      obtain ⟨J3, μ3, hJ, hB3⟩ := hw
      refine vs_loop (V := Int × vs_St) (J := fun v => J3 v.1 v.2) (μ := fun v => μ3 v.1 v.2) (fun v => vs_W3 g a r q v.2 ++ wr) (fun v => [(0, .ref (a 0)), (1, .int (vs_I x1)), (2, .int (vs_I v.1))]) (fun v hJ ih3 H locs ls hW hl => ?_) (0, S1) hJ hW (lv_sub hl [0, 1, 2] rfl)
      obtain ⟨v4, S5⟩ := v
      have hw := hB3 v4 S5 hJ
      have hW : vs_Wd g A _ (vs_W3 g a r q S5 ++ wr) _ _ s := hW
      have hl : lv_has ls 3 [(0, .ref (a 0)), (1, .int (vs_I x1)), (2, .int (vs_I v4))] := hl
      clear hJ
      unfold lX3_pass_41 at hw
      refine vs_iload_n hC hl 2 dX3_pass_41 rfl rfl ?_
      refine vs_iload_n hC hl 1 dX3_pass_42 rfl rfl ?_
      obtain ⟨hx, hw⟩ := hw
      obtain ⟨hy, hw⟩ := hw
      obtain ⟨hwt, hwf⟩ := hw
      refine vs_icmp_ge hC 56 hx hy dX3_pass_43 (by decide) (fun hc => ?_) (fun hc => ?_)
      · have hw := hwt hc
        clear hwt hwf hc
        refine vs_aload_n hC hl 0 dX3_pass_56 rfl rfl ?_
        refine vs_get hC hW 0 rfl rfl vs_inX3 30 (by decide) vf_X3_214 rfl dX3_pass_57 ?_
        exact vs_iret (S5) hC hr hlk hW rfl hw (Nat.le_of_ble_eq_true rfl) (Nat.le_of_ble_eq_true rfl) dX3_pass_60
      · have hw := hwf hc
        clear hwt hwf hc
        refine vs_aload_n hC hl 0 dX3_pass_46 rfl rfl ?_
        refine vs_callVV [] hC hW 0 rfl rfl vk_X3_ticks vm_X3_217 (c_X3_ticks l g a r q (wr) S5  _ hw) rfl hl.1 rfl ⟨rfl, rfl⟩ ⟨Nat.le_of_ble_eq_true rfl, Nat.le_of_ble_eq_true rfl⟩ ⟨Nat.le_of_ble_eq_true rfl, Nat.le_of_ble_eq_true rfl⟩ (Nat.le_of_ble_eq_true rfl) dX3_pass_47 (fun S6 H locs hw hW => ?_)
        have hW : vs_Wd g A _ (vs_W3 g a r q S6 ++ wr) _ _ s := hW
        refine vs_iinc (L' := [(0, .ref (a 0)), (1, .int (vs_I x1)), (2, .int (vs_I (v4 + 1)))]) hC hl 2 [1, 2, 0] dX3_pass_50 rfl (by decide) rfl (fun ls hl => ?_)
        refine vs_goto hC 41 dX3_pass_53 (by decide) ?_
        exact ih3 (v4 + 1, S6) hw _ _ _ hW (lv_sub hl [0, 1, 2] rfl)
    · have hw := hwf hc
      clear hwt hwf hc
      refine vs_aload_n hC hl 0 dX3_pass_33 rfl rfl ?_
      refine vs_iconst hC dX3_pass_34 ?_
      refine vs_callVI [.int (vs_I 2)] hC hW 0 rfl rfl vk_X3_fails vm_X3_123 (c_X3_fails l g a r q (wr) S1 2 _ hw) rfl hl.1 rfl ⟨rfl, rfl⟩ ⟨Nat.le_of_ble_eq_true rfl, Nat.le_of_ble_eq_true rfl⟩ ⟨Nat.le_of_ble_eq_true rfl, Nat.le_of_ble_eq_true rfl⟩ (Nat.le_of_ble_eq_true rfl) dX3_pass_35 (fun r7 S8 H locs hw hW => ?_)
      have hW : vs_Wd g A _ (vs_W3 g a r q S8 ++ wr) _ _ s := hW
      exact vs_iret (S8) hC hr hlk hW rfl hw (Nat.le_of_ble_eq_true rfl) (Nat.le_of_ble_eq_true rfl) dX3_pass_38
  · have hw := hwf hc
    clear hwt hwf hc
    refine vs_aload_n hC hl 0 dX3_pass_15 rfl rfl ?_
    refine vs_iconst hC dX3_pass_16 ?_
    refine vs_callVI [.int (vs_I 1)] hC hW 0 rfl rfl vk_X3_fails vm_X3_123 (c_X3_fails l g a r q (wr) S1 1 _ hw) rfl hl.1 rfl ⟨rfl, rfl⟩ ⟨Nat.le_of_ble_eq_true rfl, Nat.le_of_ble_eq_true rfl⟩ ⟨Nat.le_of_ble_eq_true rfl, Nat.le_of_ble_eq_true rfl⟩ (Nat.le_of_ble_eq_true rfl) dX3_pass_17 (fun r9 S10 H locs hw hW => ?_)
    have hW : vs_Wd g A _ (vs_W3 g a r q S10 ++ wr) _ _ s := hW
    exact vs_iret (S10) hC hr hlk hW rfl hw (Nat.le_of_ble_eq_true rfl) (Nat.le_of_ble_eq_true rfl) dX3_pass_20
set_option maxHeartbeats 4000000 in
set_option maxRecDepth 100000 in
theorem c_X3_clock (l : Launch) (g : vs_G) (a r q : Nat → Nat) (wr : va_W) (S : vs_St) (post : Int → vs_St → Prop) (hw : wX3_clock S post) : vs_MI l yX3_clock (Cond.code yX3_clock cX3_clock 1 (some .int) :: vs_ws) { frames := 0, cells := 0, slots := 0, locals := 0 } g [.ref (a 0)] (vs_W3 g a r q S ++ wr) (fun (S' : vs_St) => vs_W3 g a r q S' ++ wr) post 0 0 := by
  refine vs_ofW (Qc := fun A => vs_QI g A (fun (S' : vs_St) => vs_W3 g a r q S' ++ wr) post) (by decide +kernel) (Nat.le_of_ble_eq_true rfl) (fun p e s m below meth c A ls hC hr hlk hW hl => ?_)
  have hC : CallFix p m c cX3_clock 1 s _ vs_ws RX3 := hC
  have hl : lv_has ls 1 [(0, .ref (a 0))] := hl
  unfold wX3_clock at hw
  refine vs_aload_n hC hl 0 dX3_clock_0 rfl rfl ?_
  refine vs_iconst hC dX3_clock_1 ?_
  obtain ⟨S1, hS1⟩ : ∃ z : vs_St, z = vs_st S 0 0 0 := ⟨_, rfl⟩
  have hw := hw S1 hS1
  refine vs_put (Wo' := vs_W3 g a r q S1 ++ wr) hC hW 0 rfl rfl vs_inX3 tyX3_ok nmX3 0 (by decide) vf_X3_96 rfl rfl (Nat.le_of_ble_eq_true rfl) (by rw [hS1]; rfl) dX3_clock_2 (fun H locs hW => ?_)
  refine vs_aload_n hC hl 0 dX3_clock_5 rfl rfl ?_
  refine vs_get hC hW 0 rfl rfl vs_inX3 30 (by decide) vf_X3_214 rfl dX3_clock_6 ?_
  exact vs_iret (S1) hC hr hlk hW rfl hw (Nat.le_of_ble_eq_true rfl) (Nat.le_of_ble_eq_true rfl) dX3_clock_9
set_option maxHeartbeats 4000000 in
set_option maxRecDepth 100000 in
theorem c_X3_blocksOf (l : Launch) (g : vs_G) (a r q : Nat → Nat) (wr : va_W) (S : vs_St) (x1 : Int) (post : Int → vs_St → Prop) (hw : wX3_blocksOf S x1 post) : vs_MI l yX3_blocksOf (Cond.code yX3_blocksOf cX3_blocksOf 4 (some .int) :: vs_ws) { frames := 3, cells := 0, slots := 0, locals := 64 } g [.ref (a 0), .int (vs_I x1)] (vs_W3 g a r q S ++ wr) (fun (S' : vs_St) => vs_W3 g a r q S' ++ wr) post 0 0 := by
  refine vs_ofW (Qc := fun A => vs_QI g A (fun (S' : vs_St) => vs_W3 g a r q S' ++ wr) post) (by decide +kernel) (Nat.le_of_ble_eq_true rfl) (fun p e s m below meth c A ls hC hr hlk hW hl => ?_)
  have hC : CallFix p m c cX3_blocksOf 4 s _ vs_ws RX3 := hC
  have hl : lv_has ls 4 [(0, .ref (a 0)), (1, .int (vs_I x1))] := hl
  unfold wX3_blocksOf at hw
  refine vs_aload_n hC hl 0 dX3_blocksOf_0 rfl rfl ?_
  refine vs_iload_n hC hl 1 dX3_blocksOf_1 rfl rfl ?_
  refine vs_callVI [.int (vs_I x1)] hC hW 0 rfl rfl vk_X3_isNobody vm_X3_152 (c_X3_isNobody l g a r q (wr) S x1 _ hw) rfl hl.1 rfl ⟨rfl, rfl⟩ ⟨Nat.le_of_ble_eq_true rfl, Nat.le_of_ble_eq_true rfl⟩ ⟨Nat.le_of_ble_eq_true rfl, Nat.le_of_ble_eq_true rfl⟩ (Nat.le_of_ble_eq_true rfl) dX3_blocksOf_2 (fun r1 S2 H locs hw hW => ?_)
  have hW : vs_Wd g A _ (vs_W3 g a r q S2 ++ wr) _ _ s := hW
  obtain ⟨hx, hw⟩ := hw
  obtain ⟨hwt, hwf⟩ := hw
  refine vs_if_eq hC 10 hx dX3_blocksOf_5 (by decide) (fun hc => ?_) (fun hc => ?_)
  · have hw := hwt hc
    clear hwt hwf hc
    refine vs_iconst hC dX3_blocksOf_10 ?_
    refine vs_istore_n (L' := [(0, .ref (a 0)), (1, .int (vs_I x1)), (2, .int (vs_I 0))]) hC hl [1, 2, 0] dX3_blocksOf_11 rfl (by decide) rfl (fun ls hl => ?_)
    refine vs_iconst hC dX3_blocksOf_12 ?_
    refine vs_istore_n (L' := [(0, .ref (a 0)), (1, .int (vs_I x1)), (2, .int (vs_I 0)), (3, .int (vs_I 0))]) hC hl [1, 2, 3, 0] dX3_blocksOf_13 rfl (by decide) rfl (fun ls hl => ?_)
    obtain ⟨J3, μ3, hJ, hB3⟩ := hw
    refine vs_loop (V := Int × Int) (J := fun v => J3 v.1 v.2) (μ := fun v => μ3 v.1 v.2) (fun v => vs_W3 g a r q S2 ++ wr) (fun v => [(0, .ref (a 0)), (1, .int (vs_I x1)), (2, .int (vs_I v.1)), (3, .int (vs_I v.2))]) (fun v hJ ih3 H locs ls hW hl => ?_) (0, 0) hJ hW (lv_sub hl [0, 1, 2, 3] rfl)
    obtain ⟨v4, v5⟩ := v
    have hw := hB3 v4 v5 hJ
    have hW : vs_Wd g A _ (vs_W3 g a r q S2 ++ wr) _ _ s := hW
    have hl : lv_has ls 4 [(0, .ref (a 0)), (1, .int (vs_I x1)), (2, .int (vs_I v4)), (3, .int (vs_I v5))] := hl
    clear hJ
    unfold lX3_blocksOf_14 at hw
    refine vs_iload_n hC hl 3 dX3_blocksOf_14 rfl rfl ?_
    refine vs_aload_n hC hl 0 dX3_blocksOf_15 rfl rfl ?_
    refine vs_get hC hW 0 rfl rfl vs_inX3 15 (by decide) vf_X3_171 rfl dX3_blocksOf_16 ?_
    obtain ⟨hx, hw⟩ := hw
    obtain ⟨hy, hw⟩ := hw
    obtain ⟨hwt, hwf⟩ := hw
    refine vs_icmp_ge hC 49 hx hy dX3_blocksOf_19 (by decide) (fun hc => ?_) (fun hc => ?_)
    · have hw := hwt hc
      clear hwt hwf hc
      refine vs_iload_n hC hl 2 dX3_blocksOf_49 rfl rfl ?_
      exact vs_iret (S2) hC hr hlk hW rfl hw (Nat.le_of_ble_eq_true rfl) (Nat.le_of_ble_eq_true rfl) dX3_blocksOf_50
    · have hw := hwf hc
      clear hwt hwf hc
      refine vs_iload_n hC hl 2 dX3_blocksOf_22 rfl rfl ?_
      refine vs_aload_n hC hl 0 dX3_blocksOf_23 rfl rfl ?_
      refine vs_get hC hW 0 rfl rfl vs_inX3 13 (by decide) vf_X3_47 rfl dX3_blocksOf_24 ?_
      refine vs_iload_n hC hl 3 dX3_blocksOf_27 rfl rfl ?_
      obtain ⟨hi, hw⟩ := hw
      refine vs_iald hC hW 12 rfl (by decide) hi dX3_blocksOf_28 ?_
      refine vs_bipush hC dX3_blocksOf_29 (by decide +kernel) ?_
      obtain ⟨hi, hw⟩ := hw
      refine vs_idiv hC dX3_blocksOf_31 ⟨hi.1, hi.2, by decide, by decide⟩ ?_
      refine vs_iload_n hC hl 1 dX3_blocksOf_32 rfl rfl ?_
      obtain ⟨hx, hw⟩ := hw
      obtain ⟨hy, hw⟩ := hw
      obtain ⟨hwt, hwf⟩ := hw
      refine vs_icmp_ne hC 40 hx hy dX3_blocksOf_33 (by decide) (fun hc => ?_) (fun hc => ?_)
      · have hw := hwt hc
        clear hwt hwf hc
        refine vs_iconst hC dX3_blocksOf_40 ?_
        refine vs_iadd hC dX3_blocksOf_41 ?_
        refine vs_name (fun v6 hv6 => ?_)
        have hw := hw v6 hv6
        refine vs_istore_n (L' := [(0, .ref (a 0)), (1, .int (vs_I x1)), (2, .int (vs_I v6)), (3, .int (vs_I v5))]) hC hl [1, 2, 0, 3] dX3_blocksOf_42 rfl (by decide) rfl (fun ls hl => ?_)
        refine vs_iinc (L' := [(0, .ref (a 0)), (1, .int (vs_I x1)), (2, .int (vs_I v6)), (3, .int (vs_I (v5 + 1)))]) hC hl 3 [1, 2, 3, 0] dX3_blocksOf_43 rfl (by decide) rfl (fun ls hl => ?_)
        refine vs_goto hC 14 dX3_blocksOf_46 (by decide) ?_
        exact ih3 (v6, v5 + 1) hw _ _ _ hW (lv_sub hl [0, 1, 2, 3] rfl)
      · have hw := hwf hc
        clear hwt hwf hc
        refine vs_iconst hC dX3_blocksOf_36 ?_
        refine vs_goto hC 41 dX3_blocksOf_37 (by decide) ?_
        refine vs_iadd hC dX3_blocksOf_41 ?_
        refine vs_name (fun v7 hv7 => ?_)
        have hw := hw v7 hv7
        refine vs_istore_n (L' := [(0, .ref (a 0)), (1, .int (vs_I x1)), (2, .int (vs_I v7)), (3, .int (vs_I v5))]) hC hl [1, 2, 0, 3] dX3_blocksOf_42 rfl (by decide) rfl (fun ls hl => ?_)
        refine vs_iinc (L' := [(0, .ref (a 0)), (1, .int (vs_I x1)), (2, .int (vs_I v7)), (3, .int (vs_I (v5 + 1)))]) hC hl 3 [1, 2, 3, 0] dX3_blocksOf_43 rfl (by decide) rfl (fun ls hl => ?_)
        refine vs_goto hC 14 dX3_blocksOf_46 (by decide) ?_
        exact ih3 (v7, v5 + 1) hw _ _ _ hW (lv_sub hl [0, 1, 2, 3] rfl)
  · have hw := hwf hc
    clear hwt hwf hc
    refine vs_iconst hC dX3_blocksOf_8 ?_
    exact vs_iret (S2) hC hr hlk hW rfl hw (Nat.le_of_ble_eq_true rfl) (Nat.le_of_ble_eq_true rfl) dX3_blocksOf_9
set_option maxHeartbeats 4000000 in
set_option maxRecDepth 100000 in
theorem c_X3_copiesOf (l : Launch) (g : vs_G) (a r q : Nat → Nat) (wr : va_W) (S : vs_St) (x1 : Int) (x2 : Int) (post : Int → vs_St → Prop) (hw : wX3_copiesOf S x1 x2 post) : vs_MI l yX3_copiesOf (Cond.code yX3_copiesOf cX3_copiesOf 3 (some .int) :: vs_ws) { frames := 3, cells := 0, slots := 0, locals := 65 } g [.ref (a 0), .int (vs_I x1), .int (vs_I x2)] (vs_W3 g a r q S ++ wr) (fun (S' : vs_St) => vs_W3 g a r q S' ++ wr) post 0 0 := by
  refine vs_ofW (Qc := fun A => vs_QI g A (fun (S' : vs_St) => vs_W3 g a r q S' ++ wr) post) (by decide +kernel) (Nat.le_of_ble_eq_true rfl) (fun p e s m below meth c A ls hC hr hlk hW hl => ?_)
  have hC : CallFix p m c cX3_copiesOf 3 s _ vs_ws RX3 := hC
  have hl : lv_has ls 3 [(0, .ref (a 0)), (1, .int (vs_I x1)), (2, .int (vs_I x2))] := hl
  unfold wX3_copiesOf at hw
  refine vs_aload_n hC hl 0 dX3_copiesOf_0 rfl rfl ?_
  refine vs_iload_n hC hl 1 dX3_copiesOf_1 rfl rfl ?_
  refine vs_iload_n hC hl 2 dX3_copiesOf_2 rfl rfl ?_
  refine vs_callVI [.int (vs_I x1), .int (vs_I x2)] hC hW 0 rfl rfl vk_X3_isNone vm_X3_139 (c_X3_isNone l g a r q (wr) S x1 x2 _ hw) rfl hl.1 rfl ⟨rfl, rfl⟩ ⟨Nat.le_of_ble_eq_true rfl, Nat.le_of_ble_eq_true rfl⟩ ⟨Nat.le_of_ble_eq_true rfl, Nat.le_of_ble_eq_true rfl⟩ (Nat.le_of_ble_eq_true rfl) dX3_copiesOf_3 (fun r1 S2 H locs hw hW => ?_)
  have hW : vs_Wd g A _ (vs_W3 g a r q S2 ++ wr) _ _ s := hW
  obtain ⟨hx, hw⟩ := hw
  obtain ⟨hwt, hwf⟩ := hw
  refine vs_if_eq hC 13 hx dX3_copiesOf_6 (by decide) (fun hc => ?_) (fun hc => ?_)
  · have hw := hwt hc
    clear hwt hwf hc
    refine vs_aload_n hC hl 0 dX3_copiesOf_13 rfl rfl ?_
    refine vs_get hC hW 0 rfl rfl vs_inX3 10 (by decide) vf_X3_38 rfl dX3_copiesOf_14 ?_
    refine vs_bipush hC dX3_copiesOf_17 (by decide +kernel) ?_
    refine vs_iload_n hC hl 1 dX3_copiesOf_19 rfl rfl ?_
    refine vs_imul hC dX3_copiesOf_20 ?_
    refine vs_iload_n hC hl 2 dX3_copiesOf_21 rfl rfl ?_
    refine vs_iadd hC dX3_copiesOf_22 ?_
    obtain ⟨hi, hw⟩ := hw
    refine vs_iald hC hW 9 rfl (by decide) hi dX3_copiesOf_23 ?_
    exact vs_iret (S2) hC hr hlk hW rfl hw (Nat.le_of_ble_eq_true rfl) (Nat.le_of_ble_eq_true rfl) dX3_copiesOf_24
  · have hw := hwf hc
    clear hwt hwf hc
    refine vs_iconst hC dX3_copiesOf_9 ?_
    refine vs_goto hC 24 dX3_copiesOf_10 (by decide) ?_
    exact vs_iret (S2) hC hr hlk hW rfl hw (Nat.le_of_ble_eq_true rfl) (Nat.le_of_ble_eq_true rfl) dX3_copiesOf_24
set_option maxHeartbeats 4000000 in
set_option maxRecDepth 100000 in
theorem c_X3_copiesByDisks (l : Launch) (g : vs_G) (a r q : Nat → Nat) (wr : va_W) (S : vs_St) (x1 : Int) (x2 : Int) (post : Int → vs_St → Prop) (hw : wX3_copiesByDisks S x1 x2 post) : vs_MI l yX3_copiesByDisks (Cond.code yX3_copiesByDisks cX3_copiesByDisks 5 (some .int) :: vs_ws) { frames := 3, cells := 0, slots := 0, locals := 65 } g [.ref (a 0), .int (vs_I x1), .int (vs_I x2)] (vs_W3 g a r q S ++ wr) (fun (S' : vs_St) => vs_W3 g a r q S' ++ wr) post 0 0 := by
  refine vs_ofW (Qc := fun A => vs_QI g A (fun (S' : vs_St) => vs_W3 g a r q S' ++ wr) post) (by decide +kernel) (Nat.le_of_ble_eq_true rfl) (fun p e s m below meth c A ls hC hr hlk hW hl => ?_)
  have hC : CallFix p m c cX3_copiesByDisks 5 s _ vs_ws RX3 := hC
  have hl : lv_has ls 5 [(0, .ref (a 0)), (1, .int (vs_I x1)), (2, .int (vs_I x2))] := hl
  unfold wX3_copiesByDisks at hw
  refine vs_aload_n hC hl 0 dX3_copiesByDisks_0 rfl rfl ?_
  refine vs_iload_n hC hl 1 dX3_copiesByDisks_1 rfl rfl ?_
  refine vs_iload_n hC hl 2 dX3_copiesByDisks_2 rfl rfl ?_
  refine vs_callVI [.int (vs_I x1), .int (vs_I x2)] hC hW 0 rfl rfl vk_X3_isNone vm_X3_139 (c_X3_isNone l g a r q (wr) S x1 x2 _ hw) rfl hl.1 rfl ⟨rfl, rfl⟩ ⟨Nat.le_of_ble_eq_true rfl, Nat.le_of_ble_eq_true rfl⟩ ⟨Nat.le_of_ble_eq_true rfl, Nat.le_of_ble_eq_true rfl⟩ (Nat.le_of_ble_eq_true rfl) dX3_copiesByDisks_3 (fun r1 S2 H locs hw hW => ?_)
  have hW : vs_Wd g A _ (vs_W3 g a r q S2 ++ wr) _ _ s := hW
  obtain ⟨hx, hw⟩ := hw
  obtain ⟨hwt, hwf⟩ := hw
  refine vs_if_eq hC 11 hx dX3_copiesByDisks_6 (by decide) (fun hc => ?_) (fun hc => ?_)
  · have hw := hwt hc
    clear hwt hwf hc
    refine vs_iconst hC dX3_copiesByDisks_11 ?_
    refine vs_istore_n (L' := [(0, .ref (a 0)), (1, .int (vs_I x1)), (2, .int (vs_I x2)), (3, .int (vs_I 0))]) hC hl [1, 2, 3, 0] dX3_copiesByDisks_12 rfl (by decide) rfl (fun ls hl => ?_)
    refine vs_iconst hC dX3_copiesByDisks_13 ?_
    refine vs_istore (L' := [(0, .ref (a 0)), (1, .int (vs_I x1)), (2, .int (vs_I x2)), (3, .int (vs_I 0)), (4, .int (vs_I 0))]) hC hl [1, 2, 3, 4, 0] dX3_copiesByDisks_14 (by decide) rfl (fun ls hl => ?_)
    obtain ⟨J3, μ3, hJ, hB3⟩ := hw
    refine vs_loop (V := Int × Int) (J := fun v => J3 v.1 v.2) (μ := fun v => μ3 v.1 v.2) (fun v => vs_W3 g a r q S2 ++ wr) (fun v => [(0, .ref (a 0)), (1, .int (vs_I x1)), (2, .int (vs_I x2)), (3, .int (vs_I v.1)), (4, .int (vs_I v.2))]) (fun v hJ ih3 H locs ls hW hl => ?_) (0, 0) hJ hW (lv_sub hl [0, 1, 2, 3, 4] rfl)
    obtain ⟨v4, v5⟩ := v
    have hw := hB3 v4 v5 hJ
    have hW : vs_Wd g A _ (vs_W3 g a r q S2 ++ wr) _ _ s := hW
    have hl : lv_has ls 5 [(0, .ref (a 0)), (1, .int (vs_I x1)), (2, .int (vs_I x2)), (3, .int (vs_I v4)), (4, .int (vs_I v5))] := hl
    clear hJ
    unfold lX3_copiesByDisks_16 at hw
    refine vs_iload hC hl 4 dX3_copiesByDisks_16 rfl ?_
    refine vs_bipush hC dX3_copiesByDisks_18 (by decide +kernel) ?_
    refine vs_aload_n hC hl 0 dX3_copiesByDisks_20 rfl rfl ?_
    refine vs_get hC hW 0 rfl rfl vs_inX3 7 (by decide) vf_X3_99 rfl dX3_copiesByDisks_21 ?_
    refine vs_imul hC dX3_copiesByDisks_24 ?_
    obtain ⟨hx, hw⟩ := hw
    obtain ⟨hy, hw⟩ := hw
    obtain ⟨hwt, hwf⟩ := hw
    refine vs_icmp_ge hC 58 hx hy dX3_copiesByDisks_25 (by decide) (fun hc => ?_) (fun hc => ?_)
    · have hw := hwt hc
      clear hwt hwf hc
      refine vs_iload_n hC hl 3 dX3_copiesByDisks_58 rfl rfl ?_
      exact vs_iret (S2) hC hr hlk hW rfl hw (Nat.le_of_ble_eq_true rfl) (Nat.le_of_ble_eq_true rfl) dX3_copiesByDisks_59
    · have hw := hwf hc
      clear hwt hwf hc
      refine vs_iload_n hC hl 3 dX3_copiesByDisks_28 rfl rfl ?_
      refine vs_aload_n hC hl 0 dX3_copiesByDisks_29 rfl rfl ?_
      refine vs_get hC hW 0 rfl rfl vs_inX3 3 (by decide) vf_X3_17 rfl dX3_copiesByDisks_30 ?_
      refine vs_iload hC hl 4 dX3_copiesByDisks_33 rfl ?_
      obtain ⟨hi, hw⟩ := hw
      refine vs_iald hC hW 3 rfl (by decide) hi dX3_copiesByDisks_35 ?_
      refine vs_bipush hC dX3_copiesByDisks_36 (by decide +kernel) ?_
      refine vs_iload_n hC hl 1 dX3_copiesByDisks_38 rfl rfl ?_
      refine vs_imul hC dX3_copiesByDisks_39 ?_
      refine vs_iload_n hC hl 2 dX3_copiesByDisks_40 rfl rfl ?_
      refine vs_iadd hC dX3_copiesByDisks_41 ?_
      obtain ⟨hx, hw⟩ := hw
      obtain ⟨hy, hw⟩ := hw
      obtain ⟨hwt, hwf⟩ := hw
      refine vs_icmp_ne hC 49 hx hy dX3_copiesByDisks_42 (by decide) (fun hc => ?_) (fun hc => ?_)
      · have hw := hwt hc
        clear hwt hwf hc
        refine vs_iconst hC dX3_copiesByDisks_49 ?_
        refine vs_iadd hC dX3_copiesByDisks_50 ?_
        refine vs_name (fun v6 hv6 => ?_)
        have hw := hw v6 hv6
        refine vs_istore_n (L' := [(0, .ref (a 0)), (1, .int (vs_I x1)), (2, .int (vs_I x2)), (3, .int (vs_I v6)), (4, .int (vs_I v5))]) hC hl [1, 2, 3, 0, 4] dX3_copiesByDisks_51 rfl (by decide) rfl (fun ls hl => ?_)
        refine vs_iinc (L' := [(0, .ref (a 0)), (1, .int (vs_I x1)), (2, .int (vs_I x2)), (3, .int (vs_I v6)), (4, .int (vs_I (v5 + 1)))]) hC hl 4 [1, 2, 3, 4, 0] dX3_copiesByDisks_52 rfl (by decide) rfl (fun ls hl => ?_)
        refine vs_goto hC 16 dX3_copiesByDisks_55 (by decide) ?_
        exact ih3 (v6, v5 + 1) hw _ _ _ hW (lv_sub hl [0, 1, 2, 3, 4] rfl)
      · have hw := hwf hc
        clear hwt hwf hc
        refine vs_iconst hC dX3_copiesByDisks_45 ?_
        refine vs_goto hC 50 dX3_copiesByDisks_46 (by decide) ?_
        refine vs_iadd hC dX3_copiesByDisks_50 ?_
        refine vs_name (fun v7 hv7 => ?_)
        have hw := hw v7 hv7
        refine vs_istore_n (L' := [(0, .ref (a 0)), (1, .int (vs_I x1)), (2, .int (vs_I x2)), (3, .int (vs_I v7)), (4, .int (vs_I v5))]) hC hl [1, 2, 3, 0, 4] dX3_copiesByDisks_51 rfl (by decide) rfl (fun ls hl => ?_)
        refine vs_iinc (L' := [(0, .ref (a 0)), (1, .int (vs_I x1)), (2, .int (vs_I x2)), (3, .int (vs_I v7)), (4, .int (vs_I (v5 + 1)))]) hC hl 4 [1, 2, 3, 4, 0] dX3_copiesByDisks_52 rfl (by decide) rfl (fun ls hl => ?_)
        refine vs_goto hC 16 dX3_copiesByDisks_55 (by decide) ?_
        exact ih3 (v7, v5 + 1) hw _ _ _ hW (lv_sub hl [0, 1, 2, 3, 4] rfl)
  · have hw := hwf hc
    clear hwt hwf hc
    refine vs_iconst hC dX3_copiesByDisks_9 ?_
    exact vs_iret (S2) hC hr hlk hW rfl hw (Nat.le_of_ble_eq_true rfl) (Nat.le_of_ble_eq_true rfl) dX3_copiesByDisks_10
set_option maxHeartbeats 4000000 in
set_option maxRecDepth 100000 in
theorem c_X3_diskOfCopy (l : Launch) (g : vs_G) (a r q : Nat → Nat) (wr : va_W) (S : vs_St) (x1 : Int) (x2 : Int) (x3 : Int) (post : Int → vs_St → Prop) (hw : wX3_diskOfCopy S x1 x2 x3 post) : vs_MI l yX3_diskOfCopy (Cond.code yX3_diskOfCopy cX3_diskOfCopy 4 (some .int) :: vs_ws) { frames := 3, cells := 0, slots := 0, locals := 65 } g [.ref (a 0), .int (vs_I x1), .int (vs_I x2), .int (vs_I x3)] (vs_W3 g a r q S ++ wr) (fun (S' : vs_St) => vs_W3 g a r q S' ++ wr) post 0 0 := by
  refine vs_ofW (Qc := fun A => vs_QI g A (fun (S' : vs_St) => vs_W3 g a r q S' ++ wr) post) (by decide +kernel) (Nat.le_of_ble_eq_true rfl) (fun p e s m below meth c A ls hC hr hlk hW hl => ?_)
  have hC : CallFix p m c cX3_diskOfCopy 4 s _ vs_ws RX3 := hC
  have hl : lv_has ls 4 [(0, .ref (a 0)), (1, .int (vs_I x1)), (2, .int (vs_I x2)), (3, .int (vs_I x3))] := hl
  unfold wX3_diskOfCopy at hw
  refine vs_aload_n hC hl 0 dX3_diskOfCopy_0 rfl rfl ?_
  refine vs_iload_n hC hl 1 dX3_diskOfCopy_1 rfl rfl ?_
  refine vs_iload_n hC hl 2 dX3_diskOfCopy_2 rfl rfl ?_
  refine vs_callVI [.int (vs_I x1), .int (vs_I x2)] hC hW 0 rfl rfl vk_X3_isNone vm_X3_139 (c_X3_isNone l g a r q (wr) S x1 x2 _ hw) rfl hl.1 rfl ⟨rfl, rfl⟩ ⟨Nat.le_of_ble_eq_true rfl, Nat.le_of_ble_eq_true rfl⟩ ⟨Nat.le_of_ble_eq_true rfl, Nat.le_of_ble_eq_true rfl⟩ (Nat.le_of_ble_eq_true rfl) dX3_diskOfCopy_3 (fun r1 S2 H locs hw hW => ?_)
  have hW : vs_Wd g A _ (vs_W3 g a r q S2 ++ wr) _ _ s := hW
  obtain ⟨hx, hw⟩ := hw
  obtain ⟨hwt, hwf⟩ := hw
  refine vs_if_eq hC 11 hx dX3_diskOfCopy_6 (by decide) (fun hc => ?_) (fun hc => ?_)
  · have hw := hwt hc
    clear hwt hwf hc
    refine vs_iload_n hC hl 3 dX3_diskOfCopy_11 rfl rfl ?_
    refine vs_iconst hC dX3_diskOfCopy_12 ?_
    refine vs_aload_n hC hl 0 dX3_diskOfCopy_13 rfl rfl ?_
    refine vs_get hC hW 0 rfl rfl vs_inX3 10 (by decide) vf_X3_38 rfl dX3_diskOfCopy_14 ?_
    refine vs_bipush hC dX3_diskOfCopy_17 (by decide +kernel) ?_
    refine vs_iload_n hC hl 1 dX3_diskOfCopy_19 rfl rfl ?_
    refine vs_imul hC dX3_diskOfCopy_20 ?_
    refine vs_iload_n hC hl 2 dX3_diskOfCopy_21 rfl rfl ?_
    refine vs_iadd hC dX3_diskOfCopy_22 ?_
    obtain ⟨hi, hw⟩ := hw
    refine vs_iald hC hW 9 rfl (by decide) hi dX3_diskOfCopy_23 ?_
    refine vs_iconst hC dX3_diskOfCopy_24 ?_
    refine vs_isub hC dX3_diskOfCopy_25 ?_
    refine vs_callSI [.int (vs_I x3), .int (vs_I 0), .int (vs_I ((S2 10 ((100 * x1) + x2)) - 1))] hC hW vk_X3_isBetween vm_X3_102 (c_X3_isBetween l g (vs_W3 g a r q S2 ++ wr) x3 0 ((S2 10 ((100 * x1) + x2)) - 1) _ hw) rfl hl.1 rfl ⟨rfl, rfl⟩ ⟨Nat.le_of_ble_eq_true rfl, Nat.le_of_ble_eq_true rfl⟩ ⟨Nat.le_of_ble_eq_true rfl, Nat.le_of_ble_eq_true rfl⟩ (Nat.le_of_ble_eq_true rfl) dX3_diskOfCopy_26 (fun r3 _ H locs hw hW => ?_)
    have hW : vs_Wd g A _ (vs_W3 g a r q S2 ++ wr) _ _ s := hW
    obtain ⟨hx, hw⟩ := hw
    obtain ⟨hwt, hwf⟩ := hw
    refine vs_if_eq hC 51 hx dX3_diskOfCopy_29 (by decide) (fun hc => ?_) (fun hc => ?_)
    · have hw := hwt hc
      clear hwt hwf hc
      refine vs_aload_n hC hl 0 dX3_diskOfCopy_51 rfl rfl ?_
      refine vs_iconst hC dX3_diskOfCopy_52 ?_
      refine vs_callVI [.int (vs_I 2)] hC hW 0 rfl rfl vk_X3_fails vm_X3_123 (c_X3_fails l g a r q (wr) S2 2 _ hw) rfl hl.1 rfl ⟨rfl, rfl⟩ ⟨Nat.le_of_ble_eq_true rfl, Nat.le_of_ble_eq_true rfl⟩ ⟨Nat.le_of_ble_eq_true rfl, Nat.le_of_ble_eq_true rfl⟩ (Nat.le_of_ble_eq_true rfl) dX3_diskOfCopy_53 (fun r4 S5 H locs hw hW => ?_)
      have hW : vs_Wd g A _ (vs_W3 g a r q S5 ++ wr) _ _ s := hW
      exact vs_iret (S5) hC hr hlk hW rfl hw (Nat.le_of_ble_eq_true rfl) (Nat.le_of_ble_eq_true rfl) dX3_diskOfCopy_56
    · have hw := hwf hc
      clear hwt hwf hc
      refine vs_aload_n hC hl 0 dX3_diskOfCopy_32 rfl rfl ?_
      refine vs_get hC hW 0 rfl rfl vs_inX3 8 (by decide) vf_X3_32 rfl dX3_diskOfCopy_33 ?_
      refine vs_bipush hC dX3_diskOfCopy_36 (by decide +kernel) ?_
      refine vs_iload_n hC hl 1 dX3_diskOfCopy_38 rfl rfl ?_
      refine vs_imul hC dX3_diskOfCopy_39 ?_
      refine vs_iload_n hC hl 2 dX3_diskOfCopy_40 rfl rfl ?_
      refine vs_iadd hC dX3_diskOfCopy_41 ?_
      obtain ⟨hq, hw⟩ := hw
      have hr6 := hq
      refine vs_aald2 (r := r) hC hW 7 rfl (by decide) hq dX3_diskOfCopy_42 ?_
      refine vs_iload_n hC hl 3 dX3_diskOfCopy_43 rfl rfl ?_
      obtain ⟨hi, hw⟩ := hw
      refine vs_iald2 hC hW (25 + Int.toNat ((100 * x1) + x2)) (vs_rowat8 hr6) hi dX3_diskOfCopy_44 ?_
      refine vs_bipush hC dX3_diskOfCopy_45 (by decide +kernel) ?_
      obtain ⟨hi, hw⟩ := hw
      refine vs_idiv hC dX3_diskOfCopy_47 ⟨hi.1, hi.2, by decide, by decide⟩ ?_
      refine vs_goto hC 56 dX3_diskOfCopy_48 (by decide) ?_
      exact vs_iret (S2) hC hr hlk hW rfl hw (Nat.le_of_ble_eq_true rfl) (Nat.le_of_ble_eq_true rfl) dX3_diskOfCopy_56
  · have hw := hwf hc
    clear hwt hwf hc
    refine vs_iconst hC dX3_diskOfCopy_9 ?_
    exact vs_iret (S2) hC hr hlk hW rfl hw (Nat.le_of_ble_eq_true rfl) (Nat.le_of_ble_eq_true rfl) dX3_diskOfCopy_10
set_option maxHeartbeats 4000000 in
set_option maxRecDepth 100000 in
theorem c_X3_valueOf (l : Launch) (g : vs_G) (a r q : Nat → Nat) (wr : va_W) (S : vs_St) (x1 : Int) (x2 : Int) (post : Int → vs_St → Prop) (hw : wX3_valueOf S x1 x2 post) : vs_MI l yX3_valueOf (Cond.code yX3_valueOf cX3_valueOf 3 (some .int) :: vs_ws) { frames := 3, cells := 0, slots := 0, locals := 65 } g [.ref (a 0), .int (vs_I x1), .int (vs_I x2)] (vs_W3 g a r q S ++ wr) (fun (S' : vs_St) => vs_W3 g a r q S' ++ wr) post 0 0 := by
  refine vs_ofW (Qc := fun A => vs_QI g A (fun (S' : vs_St) => vs_W3 g a r q S' ++ wr) post) (by decide +kernel) (Nat.le_of_ble_eq_true rfl) (fun p e s m below meth c A ls hC hr hlk hW hl => ?_)
  have hC : CallFix p m c cX3_valueOf 3 s _ vs_ws RX3 := hC
  have hl : lv_has ls 3 [(0, .ref (a 0)), (1, .int (vs_I x1)), (2, .int (vs_I x2))] := hl
  unfold wX3_valueOf at hw
  refine vs_aload_n hC hl 0 dX3_valueOf_0 rfl rfl ?_
  refine vs_iload_n hC hl 1 dX3_valueOf_1 rfl rfl ?_
  refine vs_iload_n hC hl 2 dX3_valueOf_2 rfl rfl ?_
  refine vs_callVI [.int (vs_I x1), .int (vs_I x2)] hC hW 0 rfl rfl vk_X3_isNone vm_X3_139 (c_X3_isNone l g a r q (wr) S x1 x2 _ hw) rfl hl.1 rfl ⟨rfl, rfl⟩ ⟨Nat.le_of_ble_eq_true rfl, Nat.le_of_ble_eq_true rfl⟩ ⟨Nat.le_of_ble_eq_true rfl, Nat.le_of_ble_eq_true rfl⟩ (Nat.le_of_ble_eq_true rfl) dX3_valueOf_3 (fun r1 S2 H locs hw hW => ?_)
  have hW : vs_Wd g A _ (vs_W3 g a r q S2 ++ wr) _ _ s := hW
  obtain ⟨hx, hw⟩ := hw
  obtain ⟨hwt, hwf⟩ := hw
  refine vs_if_eq hC 11 hx dX3_valueOf_6 (by decide) (fun hc => ?_) (fun hc => ?_)
  · have hw := hwt hc
    clear hwt hwf hc
    refine vs_aload_n hC hl 0 dX3_valueOf_11 rfl rfl ?_
    refine vs_bipush hC dX3_valueOf_12 (by decide +kernel) ?_
    refine vs_iload_n hC hl 1 dX3_valueOf_14 rfl rfl ?_
    refine vs_imul hC dX3_valueOf_15 ?_
    refine vs_iload_n hC hl 2 dX3_valueOf_16 rfl rfl ?_
    refine vs_iadd hC dX3_valueOf_17 ?_
    refine vs_callVI [.int (vs_I ((100 * x1) + x2))] hC hW 0 rfl rfl vk_X3_goodOf vm_X3_120 (c_X3_goodOf l g a r q (wr) S2 ((100 * x1) + x2) _ hw) rfl hl.1 rfl ⟨rfl, rfl⟩ ⟨Nat.le_of_ble_eq_true rfl, Nat.le_of_ble_eq_true rfl⟩ ⟨Nat.le_of_ble_eq_true rfl, Nat.le_of_ble_eq_true rfl⟩ (Nat.le_of_ble_eq_true rfl) dX3_valueOf_18 (fun r3 _ H locs hw hW => ?_)
    have hW : vs_Wd g A _ (vs_W3 g a r q S2 ++ wr) _ _ s := hW
    obtain ⟨hx, hw⟩ := hw
    obtain ⟨hwt, hwf⟩ := hw
    refine vs_if_le hC 38 hx dX3_valueOf_21 (by decide) (fun hc => ?_) (fun hc => ?_)
    · have hw := hwt hc
      clear hwt hwf hc
      refine vs_aload_n hC hl 0 dX3_valueOf_38 rfl rfl ?_
      refine vs_iconst hC dX3_valueOf_39 ?_
      refine vs_callVI [.int (vs_I 2)] hC hW 0 rfl rfl vk_X3_fails vm_X3_123 (c_X3_fails l g a r q (wr) S2 2 _ hw) rfl hl.1 rfl ⟨rfl, rfl⟩ ⟨Nat.le_of_ble_eq_true rfl, Nat.le_of_ble_eq_true rfl⟩ ⟨Nat.le_of_ble_eq_true rfl, Nat.le_of_ble_eq_true rfl⟩ (Nat.le_of_ble_eq_true rfl) dX3_valueOf_40 (fun r4 S5 H locs hw hW => ?_)
      have hW : vs_Wd g A _ (vs_W3 g a r q S5 ++ wr) _ _ s := hW
      exact vs_iret (S5) hC hr hlk hW rfl hw (Nat.le_of_ble_eq_true rfl) (Nat.le_of_ble_eq_true rfl) dX3_valueOf_43
    · have hw := hwf hc
      clear hwt hwf hc
      refine vs_aload_n hC hl 0 dX3_valueOf_24 rfl rfl ?_
      refine vs_get hC hW 0 rfl rfl vs_inX3 12 (by decide) vf_X3_44 rfl dX3_valueOf_25 ?_
      refine vs_bipush hC dX3_valueOf_28 (by decide +kernel) ?_
      refine vs_iload_n hC hl 1 dX3_valueOf_30 rfl rfl ?_
      refine vs_imul hC dX3_valueOf_31 ?_
      refine vs_iload_n hC hl 2 dX3_valueOf_32 rfl rfl ?_
      refine vs_iadd hC dX3_valueOf_33 ?_
      obtain ⟨hi, hw⟩ := hw
      refine vs_iald hC hW 11 rfl (by decide) hi dX3_valueOf_34 ?_
      refine vs_goto hC 43 dX3_valueOf_35 (by decide) ?_
      exact vs_iret (S2) hC hr hlk hW rfl hw (Nat.le_of_ble_eq_true rfl) (Nat.le_of_ble_eq_true rfl) dX3_valueOf_43
  · have hw := hwf hc
    clear hwt hwf hc
    refine vs_iconst hC dX3_valueOf_9 ?_
    exact vs_iret (S2) hC hr hlk hW rfl hw (Nat.le_of_ble_eq_true rfl) (Nat.le_of_ble_eq_true rfl) dX3_valueOf_10
set_option maxHeartbeats 4000000 in
set_option maxRecDepth 100000 in
theorem c_X3_isLost (l : Launch) (g : vs_G) (a r q : Nat → Nat) (wr : va_W) (S : vs_St) (x1 : Int) (x2 : Int) (post : Int → vs_St → Prop) (hw : wX3_isLost S x1 x2 post) : vs_MI l yX3_isLost (Cond.code yX3_isLost cX3_isLost 3 (some .boolean) :: vs_ws) { frames := 3, cells := 0, slots := 0, locals := 65 } g [.ref (a 0), .int (vs_I x1), .int (vs_I x2)] (vs_W3 g a r q S ++ wr) (fun (S' : vs_St) => vs_W3 g a r q S' ++ wr) post 0 0 := by
  refine vs_ofW (Qc := fun A => vs_QI g A (fun (S' : vs_St) => vs_W3 g a r q S' ++ wr) post) (by decide +kernel) (Nat.le_of_ble_eq_true rfl) (fun p e s m below meth c A ls hC hr hlk hW hl => ?_)
  have hC : CallFix p m c cX3_isLost 3 s _ vs_ws RX3 := hC
  have hl : lv_has ls 3 [(0, .ref (a 0)), (1, .int (vs_I x1)), (2, .int (vs_I x2))] := hl
  unfold wX3_isLost at hw
  refine vs_aload_n hC hl 0 dX3_isLost_0 rfl rfl ?_
  refine vs_iload_n hC hl 1 dX3_isLost_1 rfl rfl ?_
  refine vs_iload_n hC hl 2 dX3_isLost_2 rfl rfl ?_
  refine vs_callVI [.int (vs_I x1), .int (vs_I x2)] hC hW 0 rfl rfl vk_X3_isNone vm_X3_139 (c_X3_isNone l g a r q (wr) S x1 x2 _ hw) rfl hl.1 rfl ⟨rfl, rfl⟩ ⟨Nat.le_of_ble_eq_true rfl, Nat.le_of_ble_eq_true rfl⟩ ⟨Nat.le_of_ble_eq_true rfl, Nat.le_of_ble_eq_true rfl⟩ (Nat.le_of_ble_eq_true rfl) dX3_isLost_3 (fun r1 S2 H locs hw hW => ?_)
  have hW : vs_Wd g A _ (vs_W3 g a r q S2 ++ wr) _ _ s := hW
  obtain ⟨hx, hw⟩ := hw
  obtain ⟨hwt, hwf⟩ := hw
  refine vs_if_ne hC 26 hx dX3_isLost_6 (by decide) (fun hc => ?_) (fun hc => ?_)
  · have hw := hwt hc
    clear hwt hwf hc
    refine vs_iconst hC dX3_isLost_26 ?_
    exact vs_zret (S2) hC hr hlk hW rfl ⟨Or.inl rfl, hw⟩ (Nat.le_of_ble_eq_true rfl) (Nat.le_of_ble_eq_true rfl) dX3_isLost_27
  · have hw := hwf hc
    clear hwt hwf hc
    refine vs_aload_n hC hl 0 dX3_isLost_9 rfl rfl ?_
    refine vs_bipush hC dX3_isLost_10 (by decide +kernel) ?_
    refine vs_iload_n hC hl 1 dX3_isLost_12 rfl rfl ?_
    refine vs_imul hC dX3_isLost_13 ?_
    refine vs_iload_n hC hl 2 dX3_isLost_14 rfl rfl ?_
    refine vs_iadd hC dX3_isLost_15 ?_
    refine vs_callVI [.int (vs_I ((100 * x1) + x2))] hC hW 0 rfl rfl vk_X3_lost vm_X3_174 (c_X3_lost l g a r q (wr) S2 ((100 * x1) + x2) _ hw) rfl hl.1 rfl ⟨rfl, rfl⟩ ⟨Nat.le_of_ble_eq_true rfl, Nat.le_of_ble_eq_true rfl⟩ ⟨Nat.le_of_ble_eq_true rfl, Nat.le_of_ble_eq_true rfl⟩ (Nat.le_of_ble_eq_true rfl) dX3_isLost_16 (fun r3 _ H locs hw hW => ?_)
    have hW : vs_Wd g A _ (vs_W3 g a r q S2 ++ wr) _ _ s := hW
    obtain ⟨hx, hw⟩ := hw
    obtain ⟨hwt, hwf⟩ := hw
    refine vs_if_eq hC 26 hx dX3_isLost_19 (by decide) (fun hc => ?_) (fun hc => ?_)
    · have hw := hwt hc
      clear hwt hwf hc
      refine vs_iconst hC dX3_isLost_26 ?_
      exact vs_zret (S2) hC hr hlk hW rfl ⟨Or.inl rfl, hw⟩ (Nat.le_of_ble_eq_true rfl) (Nat.le_of_ble_eq_true rfl) dX3_isLost_27
    · have hw := hwf hc
      clear hwt hwf hc
      refine vs_iconst hC dX3_isLost_22 ?_
      refine vs_goto hC 27 dX3_isLost_23 (by decide) ?_
      exact vs_zret (S2) hC hr hlk hW rfl ⟨Or.inr rfl, hw⟩ (Nat.le_of_ble_eq_true rfl) (Nat.le_of_ble_eq_true rfl) dX3_isLost_27
set_option maxHeartbeats 4000000 in
set_option maxRecDepth 100000 in
theorem c_X3_lostBlocks (l : Launch) (g : vs_G) (a r q : Nat → Nat) (wr : va_W) (S : vs_St) (post : Int → vs_St → Prop) (hw : wX3_lostBlocks S post) : vs_MI l yX3_lostBlocks (Cond.code yX3_lostBlocks cX3_lostBlocks 3 (some .int) :: vs_ws) { frames := 2, cells := 0, slots := 0, locals := 44 } g [.ref (a 0)] (vs_W3 g a r q S ++ wr) (fun (S' : vs_St) => vs_W3 g a r q S' ++ wr) post 0 0 := by
  refine vs_ofW (Qc := fun A => vs_QI g A (fun (S' : vs_St) => vs_W3 g a r q S' ++ wr) post) (by decide +kernel) (Nat.le_of_ble_eq_true rfl) (fun p e s m below meth c A ls hC hr hlk hW hl => ?_)
  have hC : CallFix p m c cX3_lostBlocks 3 s _ vs_ws RX3 := hC
  have hl : lv_has ls 3 [(0, .ref (a 0))] := hl
  unfold wX3_lostBlocks at hw
  refine vs_aload_n hC hl 0 dX3_lostBlocks_0 rfl rfl ?_
  refine vs_iconst hC dX3_lostBlocks_1 ?_
  obtain ⟨S1, hS1⟩ : ∃ z : vs_St, z = vs_st S 0 0 0 := ⟨_, rfl⟩
  have hw := hw S1 hS1
  refine vs_put (Wo' := vs_W3 g a r q S1 ++ wr) hC hW 0 rfl rfl vs_inX3 tyX3_ok nmX3 0 (by decide) vf_X3_96 rfl rfl (Nat.le_of_ble_eq_true rfl) (by rw [hS1]; rfl) dX3_lostBlocks_2 (fun H locs hW => ?_)
  refine vs_iconst hC dX3_lostBlocks_5 ?_
  refine vs_istore_n (L' := [(0, .ref (a 0)), (1, .int (vs_I 0))]) hC hl [1, 0] dX3_lostBlocks_6 rfl (by decide) rfl (fun ls hl => ?_)
  refine vs_iconst hC dX3_lostBlocks_7 ?_
  refine vs_istore_n (L' := [(0, .ref (a 0)), (1, .int (vs_I 0)), (2, .int (vs_I 0))]) hC hl [1, 2, 0] dX3_lostBlocks_8 rfl (by decide) rfl (fun ls hl => ?_)
  obtain ⟨J2, μ2, hJ, hB2⟩ := hw
  refine vs_loop (V := Int × Int) (J := fun v => J2 v.1 v.2) (μ := fun v => μ2 v.1 v.2) (fun v => vs_W3 g a r q S1 ++ wr) (fun v => [(0, .ref (a 0)), (1, .int (vs_I v.1)), (2, .int (vs_I v.2))]) (fun v hJ ih2 H locs ls hW hl => ?_) (0, 0) hJ hW (lv_sub hl [0, 1, 2] rfl)
  obtain ⟨v3, v4⟩ := v
  have hw := hB2 v3 v4 hJ
  have hW : vs_Wd g A _ (vs_W3 g a r q S1 ++ wr) _ _ s := hW
  have hl : lv_has ls 3 [(0, .ref (a 0)), (1, .int (vs_I v3)), (2, .int (vs_I v4))] := hl
  clear hJ
  unfold lX3_lostBlocks_9 at hw
  refine vs_iload_n hC hl 2 dX3_lostBlocks_9 rfl rfl ?_
  refine vs_aload_n hC hl 0 dX3_lostBlocks_10 rfl rfl ?_
  refine vs_get hC hW 0 rfl rfl vs_inX3 15 (by decide) vf_X3_171 rfl dX3_lostBlocks_11 ?_
  obtain ⟨hx, hw⟩ := hw
  obtain ⟨hy, hw⟩ := hw
  obtain ⟨hwt, hwf⟩ := hw
  refine vs_icmp_ge hC 44 hx hy dX3_lostBlocks_14 (by decide) (fun hc => ?_) (fun hc => ?_)
  · have hw := hwt hc
    clear hwt hwf hc
    refine vs_iload_n hC hl 1 dX3_lostBlocks_44 rfl rfl ?_
    exact vs_iret (S1) hC hr hlk hW rfl hw (Nat.le_of_ble_eq_true rfl) (Nat.le_of_ble_eq_true rfl) dX3_lostBlocks_45
  · have hw := hwf hc
    clear hwt hwf hc
    refine vs_iload_n hC hl 1 dX3_lostBlocks_17 rfl rfl ?_
    refine vs_aload_n hC hl 0 dX3_lostBlocks_18 rfl rfl ?_
    refine vs_aload_n hC hl 0 dX3_lostBlocks_19 rfl rfl ?_
    refine vs_get hC hW 0 rfl rfl vs_inX3 13 (by decide) vf_X3_47 rfl dX3_lostBlocks_20 ?_
    refine vs_iload_n hC hl 2 dX3_lostBlocks_23 rfl rfl ?_
    obtain ⟨hi, hw⟩ := hw
    refine vs_iald hC hW 12 rfl (by decide) hi dX3_lostBlocks_24 ?_
    refine vs_callVI [.int (vs_I (S1 13 v4))] hC hW 0 rfl rfl vk_X3_lost vm_X3_174 (c_X3_lost l g a r q (wr) S1 (S1 13 v4) _ hw) rfl hl.1 rfl ⟨rfl, rfl⟩ ⟨Nat.le_of_ble_eq_true rfl, Nat.le_of_ble_eq_true rfl⟩ ⟨Nat.le_of_ble_eq_true rfl, Nat.le_of_ble_eq_true rfl⟩ (Nat.le_of_ble_eq_true rfl) dX3_lostBlocks_25 (fun r5 _ H locs hw hW => ?_)
    have hW : vs_Wd g A _ (vs_W3 g a r q S1 ++ wr) _ _ s := hW
    obtain ⟨hx, hw⟩ := hw
    obtain ⟨hwt, hwf⟩ := hw
    refine vs_if_eq hC 35 hx dX3_lostBlocks_28 (by decide) (fun hc => ?_) (fun hc => ?_)
    · have hw := hwt hc
      clear hwt hwf hc
      refine vs_iconst hC dX3_lostBlocks_35 ?_
      refine vs_iadd hC dX3_lostBlocks_36 ?_
      refine vs_name (fun v6 hv6 => ?_)
      have hw := hw v6 hv6
      refine vs_istore_n (L' := [(0, .ref (a 0)), (1, .int (vs_I v6)), (2, .int (vs_I v4))]) hC hl [1, 0, 2] dX3_lostBlocks_37 rfl (by decide) rfl (fun ls hl => ?_)
      refine vs_iinc (L' := [(0, .ref (a 0)), (1, .int (vs_I v6)), (2, .int (vs_I (v4 + 1)))]) hC hl 2 [1, 2, 0] dX3_lostBlocks_38 rfl (by decide) rfl (fun ls hl => ?_)
      refine vs_goto hC 9 dX3_lostBlocks_41 (by decide) ?_
      exact ih2 (v6, v4 + 1) hw _ _ _ hW (lv_sub hl [0, 1, 2] rfl)
    · have hw := hwf hc
      clear hwt hwf hc
      refine vs_iconst hC dX3_lostBlocks_31 ?_
      refine vs_goto hC 36 dX3_lostBlocks_32 (by decide) ?_
      refine vs_iadd hC dX3_lostBlocks_36 ?_
      refine vs_name (fun v7 hv7 => ?_)
      have hw := hw v7 hv7
      refine vs_istore_n (L' := [(0, .ref (a 0)), (1, .int (vs_I v7)), (2, .int (vs_I v4))]) hC hl [1, 0, 2] dX3_lostBlocks_37 rfl (by decide) rfl (fun ls hl => ?_)
      refine vs_iinc (L' := [(0, .ref (a 0)), (1, .int (vs_I v7)), (2, .int (vs_I (v4 + 1)))]) hC hl 2 [1, 2, 0] dX3_lostBlocks_38 rfl (by decide) rfl (fun ls hl => ?_)
      refine vs_goto hC 9 dX3_lostBlocks_41 (by decide) ?_
      exact ih2 (v7, v4 + 1) hw _ _ _ hW (lv_sub hl [0, 1, 2] rfl)
set_option maxHeartbeats 4000000 in
set_option maxRecDepth 100000 in
theorem c_X3_degradedBlocks (l : Launch) (g : vs_G) (a r q : Nat → Nat) (wr : va_W) (S : vs_St) (post : Int → vs_St → Prop) (hw : wX3_degradedBlocks S post) : vs_MI l yX3_degradedBlocks (Cond.code yX3_degradedBlocks cX3_degradedBlocks 3 (some .int) :: vs_ws) { frames := 1, cells := 0, slots := 0, locals := 21 } g [.ref (a 0)] (vs_W3 g a r q S ++ wr) (fun (S' : vs_St) => vs_W3 g a r q S' ++ wr) post 0 0 := by
  refine vs_ofW (Qc := fun A => vs_QI g A (fun (S' : vs_St) => vs_W3 g a r q S' ++ wr) post) (by decide +kernel) (Nat.le_of_ble_eq_true rfl) (fun p e s m below meth c A ls hC hr hlk hW hl => ?_)
  have hC : CallFix p m c cX3_degradedBlocks 3 s _ vs_ws RX3 := hC
  have hl : lv_has ls 3 [(0, .ref (a 0))] := hl
  unfold wX3_degradedBlocks at hw
  refine vs_aload_n hC hl 0 dX3_degradedBlocks_0 rfl rfl ?_
  refine vs_iconst hC dX3_degradedBlocks_1 ?_
  obtain ⟨S1, hS1⟩ : ∃ z : vs_St, z = vs_st S 0 0 0 := ⟨_, rfl⟩
  have hw := hw S1 hS1
  refine vs_put (Wo' := vs_W3 g a r q S1 ++ wr) hC hW 0 rfl rfl vs_inX3 tyX3_ok nmX3 0 (by decide) vf_X3_96 rfl rfl (Nat.le_of_ble_eq_true rfl) (by rw [hS1]; rfl) dX3_degradedBlocks_2 (fun H locs hW => ?_)
  refine vs_iconst hC dX3_degradedBlocks_5 ?_
  refine vs_istore_n (L' := [(0, .ref (a 0)), (1, .int (vs_I 0))]) hC hl [1, 0] dX3_degradedBlocks_6 rfl (by decide) rfl (fun ls hl => ?_)
  refine vs_iconst hC dX3_degradedBlocks_7 ?_
  refine vs_istore_n (L' := [(0, .ref (a 0)), (1, .int (vs_I 0)), (2, .int (vs_I 0))]) hC hl [1, 2, 0] dX3_degradedBlocks_8 rfl (by decide) rfl (fun ls hl => ?_)
  obtain ⟨J2, μ2, hJ, hB2⟩ := hw
  refine vs_loop (V := Int × Int) (J := fun v => J2 v.1 v.2) (μ := fun v => μ2 v.1 v.2) (fun v => vs_W3 g a r q S1 ++ wr) (fun v => [(0, .ref (a 0)), (1, .int (vs_I v.1)), (2, .int (vs_I v.2))]) (fun v hJ ih2 H locs ls hW hl => ?_) (0, 0) hJ hW (lv_sub hl [0, 1, 2] rfl)
  obtain ⟨v3, v4⟩ := v
  have hw := hB2 v3 v4 hJ
  have hW : vs_Wd g A _ (vs_W3 g a r q S1 ++ wr) _ _ s := hW
  have hl : lv_has ls 3 [(0, .ref (a 0)), (1, .int (vs_I v3)), (2, .int (vs_I v4))] := hl
  clear hJ
  unfold lX3_degradedBlocks_9 at hw
  refine vs_iload_n hC hl 2 dX3_degradedBlocks_9 rfl rfl ?_
  refine vs_aload_n hC hl 0 dX3_degradedBlocks_10 rfl rfl ?_
  refine vs_get hC hW 0 rfl rfl vs_inX3 15 (by decide) vf_X3_171 rfl dX3_degradedBlocks_11 ?_
  obtain ⟨hx, hw⟩ := hw
  obtain ⟨hy, hw⟩ := hw
  obtain ⟨hwt, hwf⟩ := hw
  refine vs_icmp_ge hC 44 hx hy dX3_degradedBlocks_14 (by decide) (fun hc => ?_) (fun hc => ?_)
  · have hw := hwt hc
    clear hwt hwf hc
    refine vs_iload_n hC hl 1 dX3_degradedBlocks_44 rfl rfl ?_
    exact vs_iret (S1) hC hr hlk hW rfl hw (Nat.le_of_ble_eq_true rfl) (Nat.le_of_ble_eq_true rfl) dX3_degradedBlocks_45
  · have hw := hwf hc
    clear hwt hwf hc
    refine vs_iload_n hC hl 1 dX3_degradedBlocks_17 rfl rfl ?_
    refine vs_aload_n hC hl 0 dX3_degradedBlocks_18 rfl rfl ?_
    refine vs_aload_n hC hl 0 dX3_degradedBlocks_19 rfl rfl ?_
    refine vs_get hC hW 0 rfl rfl vs_inX3 13 (by decide) vf_X3_47 rfl dX3_degradedBlocks_20 ?_
    refine vs_iload_n hC hl 2 dX3_degradedBlocks_23 rfl rfl ?_
    obtain ⟨hi, hw⟩ := hw
    refine vs_iald hC hW 12 rfl (by decide) hi dX3_degradedBlocks_24 ?_
    refine vs_callVI [.int (vs_I (S1 13 v4))] hC hW 0 rfl rfl vk_X3_degraded vm_X3_190 (c_X3_degraded l g a r q (wr) S1 (S1 13 v4) _ hw) rfl hl.1 rfl ⟨rfl, rfl⟩ ⟨Nat.le_of_ble_eq_true rfl, Nat.le_of_ble_eq_true rfl⟩ ⟨Nat.le_of_ble_eq_true rfl, Nat.le_of_ble_eq_true rfl⟩ (Nat.le_of_ble_eq_true rfl) dX3_degradedBlocks_25 (fun r5 _ H locs hw hW => ?_)
    have hW : vs_Wd g A _ (vs_W3 g a r q S1 ++ wr) _ _ s := hW
    obtain ⟨hx, hw⟩ := hw
    obtain ⟨hwt, hwf⟩ := hw
    refine vs_if_eq hC 35 hx dX3_degradedBlocks_28 (by decide) (fun hc => ?_) (fun hc => ?_)
    · have hw := hwt hc
      clear hwt hwf hc
      refine vs_iconst hC dX3_degradedBlocks_35 ?_
      refine vs_iadd hC dX3_degradedBlocks_36 ?_
      refine vs_name (fun v6 hv6 => ?_)
      have hw := hw v6 hv6
      refine vs_istore_n (L' := [(0, .ref (a 0)), (1, .int (vs_I v6)), (2, .int (vs_I v4))]) hC hl [1, 0, 2] dX3_degradedBlocks_37 rfl (by decide) rfl (fun ls hl => ?_)
      refine vs_iinc (L' := [(0, .ref (a 0)), (1, .int (vs_I v6)), (2, .int (vs_I (v4 + 1)))]) hC hl 2 [1, 2, 0] dX3_degradedBlocks_38 rfl (by decide) rfl (fun ls hl => ?_)
      refine vs_goto hC 9 dX3_degradedBlocks_41 (by decide) ?_
      exact ih2 (v6, v4 + 1) hw _ _ _ hW (lv_sub hl [0, 1, 2] rfl)
    · have hw := hwf hc
      clear hwt hwf hc
      refine vs_iconst hC dX3_degradedBlocks_31 ?_
      refine vs_goto hC 36 dX3_degradedBlocks_32 (by decide) ?_
      refine vs_iadd hC dX3_degradedBlocks_36 ?_
      refine vs_name (fun v7 hv7 => ?_)
      have hw := hw v7 hv7
      refine vs_istore_n (L' := [(0, .ref (a 0)), (1, .int (vs_I v7)), (2, .int (vs_I v4))]) hC hl [1, 0, 2] dX3_degradedBlocks_37 rfl (by decide) rfl (fun ls hl => ?_)
      refine vs_iinc (L' := [(0, .ref (a 0)), (1, .int (vs_I v7)), (2, .int (vs_I (v4 + 1)))]) hC hl 2 [1, 2, 0] dX3_degradedBlocks_38 rfl (by decide) rfl (fun ls hl => ?_)
      refine vs_goto hC 9 dX3_degradedBlocks_41 (by decide) ?_
      exact ih2 (v7, v4 + 1) hw _ _ _ hW (lv_sub hl [0, 1, 2] rfl)
set_option maxHeartbeats 4000000 in
set_option maxRecDepth 100000 in
theorem c_X3_doesBear (l : Launch) (g : vs_G) (a r q : Nat → Nat) (wr : va_W) (S : vs_St) (x1 : Int) (post : Int → vs_St → Prop) (hw : wX3_doesBear S x1 post) : vs_MI l yX3_doesBear (Cond.code yX3_doesBear cX3_doesBear 3 (some .boolean) :: vs_ws) { frames := 2, cells := 0, slots := 0, locals := 44 } g [.ref (a 0), .int (vs_I x1)] (vs_W3 g a r q S ++ wr) (fun (S' : vs_St) => vs_W3 g a r q S' ++ wr) post 0 0 := by
  refine vs_ofW (Qc := fun A => vs_QI g A (fun (S' : vs_St) => vs_W3 g a r q S' ++ wr) post) (by decide +kernel) (Nat.le_of_ble_eq_true rfl) (fun p e s m below meth c A ls hC hr hlk hW hl => ?_)
  have hC : CallFix p m c cX3_doesBear 3 s _ vs_ws RX3 := hC
  have hl : lv_has ls 3 [(0, .ref (a 0)), (1, .int (vs_I x1))] := hl
  unfold wX3_doesBear at hw
  refine vs_aload_n hC hl 0 dX3_doesBear_0 rfl rfl ?_
  refine vs_iload_n hC hl 1 dX3_doesBear_1 rfl rfl ?_
  refine vs_iconst hC dX3_doesBear_2 ?_
  refine vs_iconst hC dX3_doesBear_3 ?_
  refine vs_callSI [.int (vs_I x1), .int (vs_I 0), .int (vs_I 3)] hC hW vk_X3_isBetween vm_X3_102 (c_X3_isBetween l g (vs_W3 g a r q S ++ wr) x1 0 3 _ hw) rfl hl.1 rfl ⟨rfl, rfl⟩ ⟨Nat.le_of_ble_eq_true rfl, Nat.le_of_ble_eq_true rfl⟩ ⟨Nat.le_of_ble_eq_true rfl, Nat.le_of_ble_eq_true rfl⟩ (Nat.le_of_ble_eq_true rfl) dX3_doesBear_4 (fun r1 _ H locs hw hW => ?_)
  have hW : vs_Wd g A _ (vs_W3 g a r q S ++ wr) _ _ s := hW
  obtain ⟨hx, hw⟩ := hw
  obtain ⟨hwt, hwf⟩ := hw
  refine vs_if_eq hC 14 hx dX3_doesBear_7 (by decide) (fun hc => ?_) (fun hc => ?_)
  · have hw := hwt hc
    clear hwt hwf hc
    refine vs_iconst hC dX3_doesBear_14 ?_
    obtain ⟨S2, hS2⟩ : ∃ z : vs_St, z = vs_st S 0 0 1 := ⟨_, rfl⟩
    have hw := hw S2 hS2
    refine vs_put (Wo' := vs_W3 g a r q S2 ++ wr) hC hW 0 rfl rfl vs_inX3 tyX3_ok nmX3 0 (by decide) vf_X3_96 rfl rfl (Nat.le_of_ble_eq_true rfl) (by rw [hS2]; rfl) dX3_doesBear_15 (fun H locs hW => ?_)
    refine vs_aload_n hC hl 0 dX3_doesBear_18 rfl rfl ?_
    refine vs_get hC hW 0 rfl rfl vs_inX3 0 (by decide) vf_X3_96 rfl dX3_doesBear_19 ?_
    obtain ⟨hx, hw⟩ := hw
    obtain ⟨hwt, hwf⟩ := hw
    refine vs_if_le hC 27 hx dX3_doesBear_22 (by decide) (fun hc => ?_) (fun hc => ?_)
    · have hw := hwt hc
      clear hwt hwf hc
      refine vs_iconst hC dX3_doesBear_27 ?_
      refine vs_istore_n (L' := [(0, .ref (a 0)), (1, .int (vs_I x1)), (2, .int (vs_I 0))]) hC hl [1, 2, 0] dX3_doesBear_28 rfl (by decide) rfl (fun ls hl => ?_)
      obtain ⟨J3, μ3, hJ, hB3⟩ := hw
      refine vs_loop (V := Int) (J := fun v => J3 v) (μ := fun v => μ3 v) (fun v => vs_W3 g a r q S2 ++ wr) (fun v => [(0, .ref (a 0)), (1, .int (vs_I x1)), (2, .int (vs_I v))]) (fun v hJ ih3 H locs ls hW hl => ?_) 0 hJ hW (lv_sub hl [0, 1, 2] rfl)
      obtain ⟨v4, hv⟩ : ∃ z, z = v := ⟨_, rfl⟩
      subst hv
      have hw := hB3 v4 hJ
      have hW : vs_Wd g A _ (vs_W3 g a r q S2 ++ wr) _ _ s := hW
      have hl : lv_has ls 3 [(0, .ref (a 0)), (1, .int (vs_I x1)), (2, .int (vs_I v4))] := hl
      clear hJ
      unfold lX3_doesBear_29 at hw
      refine vs_iload_n hC hl 2 dX3_doesBear_29 rfl rfl ?_
      refine vs_aload_n hC hl 0 dX3_doesBear_30 rfl rfl ?_
      refine vs_get hC hW 0 rfl rfl vs_inX3 15 (by decide) vf_X3_171 rfl dX3_doesBear_31 ?_
      obtain ⟨hx, hw⟩ := hw
      obtain ⟨hy, hw⟩ := hw
      obtain ⟨hwt, hwf⟩ := hw
      refine vs_icmp_ge hC 72 hx hy dX3_doesBear_34 (by decide) (fun hc => ?_) (fun hc => ?_)
      · have hw := hwt hc
        clear hwt hwf hc
        refine vs_iconst hC dX3_doesBear_72 ?_
        exact vs_zret (S2) hC hr hlk hW rfl ⟨Or.inr rfl, hw⟩ (Nat.le_of_ble_eq_true rfl) (Nat.le_of_ble_eq_true rfl) dX3_doesBear_73
      · have hw := hwf hc
        clear hwt hwf hc
        refine vs_aload_n hC hl 0 dX3_doesBear_37 rfl rfl ?_
        refine vs_aload_n hC hl 0 dX3_doesBear_38 rfl rfl ?_
        refine vs_get hC hW 0 rfl rfl vs_inX3 13 (by decide) vf_X3_47 rfl dX3_doesBear_39 ?_
        refine vs_iload_n hC hl 2 dX3_doesBear_42 rfl rfl ?_
        obtain ⟨hi, hw⟩ := hw
        refine vs_iald hC hW 12 rfl (by decide) hi dX3_doesBear_43 ?_
        refine vs_callVI [.int (vs_I (S2 13 v4))] hC hW 0 rfl rfl vk_X3_lost vm_X3_174 (c_X3_lost l g a r q (wr) S2 (S2 13 v4) _ hw) rfl hl.1 rfl ⟨rfl, rfl⟩ ⟨Nat.le_of_ble_eq_true rfl, Nat.le_of_ble_eq_true rfl⟩ ⟨Nat.le_of_ble_eq_true rfl, Nat.le_of_ble_eq_true rfl⟩ (Nat.le_of_ble_eq_true rfl) dX3_doesBear_44 (fun r5 _ H locs hw hW => ?_)
        have hW : vs_Wd g A _ (vs_W3 g a r q S2 ++ wr) _ _ s := hW
        obtain ⟨hx, hw⟩ := hw
        obtain ⟨hwt, hwf⟩ := hw
        refine vs_if_ne hC 66 hx dX3_doesBear_47 (by decide) (fun hc => ?_) (fun hc => ?_)
        · have hw := hwt hc
          clear hwt hwf hc
          refine vs_iinc (L' := [(0, .ref (a 0)), (1, .int (vs_I x1)), (2, .int (vs_I (v4 + 1)))]) hC hl 2 [1, 2, 0] dX3_doesBear_66 rfl (by decide) rfl (fun ls hl => ?_)
          refine vs_goto hC 29 dX3_doesBear_69 (by decide) ?_
          exact ih3 (v4 + 1) hw _ _ _ hW (lv_sub hl [0, 1, 2] rfl)
        · have hw := hwf hc
          clear hwt hwf hc
          refine vs_aload_n hC hl 0 dX3_doesBear_50 rfl rfl ?_
          refine vs_aload_n hC hl 0 dX3_doesBear_51 rfl rfl ?_
          refine vs_get hC hW 0 rfl rfl vs_inX3 13 (by decide) vf_X3_47 rfl dX3_doesBear_52 ?_
          refine vs_iload_n hC hl 2 dX3_doesBear_55 rfl rfl ?_
          obtain ⟨hi, hw⟩ := hw
          refine vs_iald hC hW 12 rfl (by decide) hi dX3_doesBear_56 ?_
          refine vs_callVI [.int (vs_I (S2 13 v4))] hC hW 0 rfl rfl vk_X3_goodOf vm_X3_120 (c_X3_goodOf l g a r q (wr) S2 (S2 13 v4) _ hw) rfl hl.1 rfl ⟨rfl, rfl⟩ ⟨Nat.le_of_ble_eq_true rfl, Nat.le_of_ble_eq_true rfl⟩ ⟨Nat.le_of_ble_eq_true rfl, Nat.le_of_ble_eq_true rfl⟩ (Nat.le_of_ble_eq_true rfl) dX3_doesBear_57 (fun r6 _ H locs hw hW => ?_)
          have hW : vs_Wd g A _ (vs_W3 g a r q S2 ++ wr) _ _ s := hW
          refine vs_iload_n hC hl 1 dX3_doesBear_60 rfl rfl ?_
          obtain ⟨hx, hw⟩ := hw
          obtain ⟨hy, hw⟩ := hw
          obtain ⟨hwt, hwf⟩ := hw
          refine vs_icmp_gt hC 66 hx hy dX3_doesBear_61 (by decide) (fun hc => ?_) (fun hc => ?_)
          · have hw := hwt hc
            clear hwt hwf hc
            refine vs_iinc (L' := [(0, .ref (a 0)), (1, .int (vs_I x1)), (2, .int (vs_I (v4 + 1)))]) hC hl 2 [1, 2, 0] dX3_doesBear_66 rfl (by decide) rfl (fun ls hl => ?_)
            refine vs_goto hC 29 dX3_doesBear_69 (by decide) ?_
            exact ih3 (v4 + 1) hw _ _ _ hW (lv_sub hl [0, 1, 2] rfl)
          · have hw := hwf hc
            clear hwt hwf hc
            refine vs_iconst hC dX3_doesBear_64 ?_
            exact vs_zret (S2) hC hr hlk hW rfl ⟨Or.inl rfl, hw⟩ (Nat.le_of_ble_eq_true rfl) (Nat.le_of_ble_eq_true rfl) dX3_doesBear_65
    · have hw := hwf hc
      clear hwt hwf hc
      refine vs_iconst hC dX3_doesBear_25 ?_
      exact vs_zret (S2) hC hr hlk hW rfl ⟨Or.inl rfl, hw⟩ (Nat.le_of_ble_eq_true rfl) (Nat.le_of_ble_eq_true rfl) dX3_doesBear_26
  · have hw := hwf hc
    clear hwt hwf hc
    refine vs_iconst hC dX3_doesBear_10 ?_
    refine vs_goto hC 15 dX3_doesBear_11 (by decide) ?_
    obtain ⟨S7, hS7⟩ : ∃ z : vs_St, z = vs_st S 0 0 0 := ⟨_, rfl⟩
    have hw := hw S7 hS7
    refine vs_put (Wo' := vs_W3 g a r q S7 ++ wr) hC hW 0 rfl rfl vs_inX3 tyX3_ok nmX3 0 (by decide) vf_X3_96 rfl rfl (Nat.le_of_ble_eq_true rfl) (by rw [hS7]; rfl) dX3_doesBear_15 (fun H locs hW => ?_)
    refine vs_aload_n hC hl 0 dX3_doesBear_18 rfl rfl ?_
    refine vs_get hC hW 0 rfl rfl vs_inX3 0 (by decide) vf_X3_96 rfl dX3_doesBear_19 ?_
    obtain ⟨hx, hw⟩ := hw
    obtain ⟨hwt, hwf⟩ := hw
    refine vs_if_le hC 27 hx dX3_doesBear_22 (by decide) (fun hc => ?_) (fun hc => ?_)
    · have hw := hwt hc
      clear hwt hwf hc
      refine vs_iconst hC dX3_doesBear_27 ?_
      refine vs_istore_n (L' := [(0, .ref (a 0)), (1, .int (vs_I x1)), (2, .int (vs_I 0))]) hC hl [1, 2, 0] dX3_doesBear_28 rfl (by decide) rfl (fun ls hl => ?_)
      obtain ⟨J8, μ8, hJ, hB8⟩ := hw
      refine vs_loop (V := Int) (J := fun v => J8 v) (μ := fun v => μ8 v) (fun v => vs_W3 g a r q S7 ++ wr) (fun v => [(0, .ref (a 0)), (1, .int (vs_I x1)), (2, .int (vs_I v))]) (fun v hJ ih8 H locs ls hW hl => ?_) 0 hJ hW (lv_sub hl [0, 1, 2] rfl)
      obtain ⟨v9, hv⟩ : ∃ z, z = v := ⟨_, rfl⟩
      subst hv
      have hw := hB8 v9 hJ
      have hW : vs_Wd g A _ (vs_W3 g a r q S7 ++ wr) _ _ s := hW
      have hl : lv_has ls 3 [(0, .ref (a 0)), (1, .int (vs_I x1)), (2, .int (vs_I v9))] := hl
      clear hJ
      unfold lX3_doesBear_29 at hw
      refine vs_iload_n hC hl 2 dX3_doesBear_29 rfl rfl ?_
      refine vs_aload_n hC hl 0 dX3_doesBear_30 rfl rfl ?_
      refine vs_get hC hW 0 rfl rfl vs_inX3 15 (by decide) vf_X3_171 rfl dX3_doesBear_31 ?_
      obtain ⟨hx, hw⟩ := hw
      obtain ⟨hy, hw⟩ := hw
      obtain ⟨hwt, hwf⟩ := hw
      refine vs_icmp_ge hC 72 hx hy dX3_doesBear_34 (by decide) (fun hc => ?_) (fun hc => ?_)
      · have hw := hwt hc
        clear hwt hwf hc
        refine vs_iconst hC dX3_doesBear_72 ?_
        exact vs_zret (S7) hC hr hlk hW rfl ⟨Or.inr rfl, hw⟩ (Nat.le_of_ble_eq_true rfl) (Nat.le_of_ble_eq_true rfl) dX3_doesBear_73
      · have hw := hwf hc
        clear hwt hwf hc
        refine vs_aload_n hC hl 0 dX3_doesBear_37 rfl rfl ?_
        refine vs_aload_n hC hl 0 dX3_doesBear_38 rfl rfl ?_
        refine vs_get hC hW 0 rfl rfl vs_inX3 13 (by decide) vf_X3_47 rfl dX3_doesBear_39 ?_
        refine vs_iload_n hC hl 2 dX3_doesBear_42 rfl rfl ?_
        obtain ⟨hi, hw⟩ := hw
        refine vs_iald hC hW 12 rfl (by decide) hi dX3_doesBear_43 ?_
        refine vs_callVI [.int (vs_I (S7 13 v9))] hC hW 0 rfl rfl vk_X3_lost vm_X3_174 (c_X3_lost l g a r q (wr) S7 (S7 13 v9) _ hw) rfl hl.1 rfl ⟨rfl, rfl⟩ ⟨Nat.le_of_ble_eq_true rfl, Nat.le_of_ble_eq_true rfl⟩ ⟨Nat.le_of_ble_eq_true rfl, Nat.le_of_ble_eq_true rfl⟩ (Nat.le_of_ble_eq_true rfl) dX3_doesBear_44 (fun r10 _ H locs hw hW => ?_)
        have hW : vs_Wd g A _ (vs_W3 g a r q S7 ++ wr) _ _ s := hW
        obtain ⟨hx, hw⟩ := hw
        obtain ⟨hwt, hwf⟩ := hw
        refine vs_if_ne hC 66 hx dX3_doesBear_47 (by decide) (fun hc => ?_) (fun hc => ?_)
        · have hw := hwt hc
          clear hwt hwf hc
          refine vs_iinc (L' := [(0, .ref (a 0)), (1, .int (vs_I x1)), (2, .int (vs_I (v9 + 1)))]) hC hl 2 [1, 2, 0] dX3_doesBear_66 rfl (by decide) rfl (fun ls hl => ?_)
          refine vs_goto hC 29 dX3_doesBear_69 (by decide) ?_
          exact ih8 (v9 + 1) hw _ _ _ hW (lv_sub hl [0, 1, 2] rfl)
        · have hw := hwf hc
          clear hwt hwf hc
          refine vs_aload_n hC hl 0 dX3_doesBear_50 rfl rfl ?_
          refine vs_aload_n hC hl 0 dX3_doesBear_51 rfl rfl ?_
          refine vs_get hC hW 0 rfl rfl vs_inX3 13 (by decide) vf_X3_47 rfl dX3_doesBear_52 ?_
          refine vs_iload_n hC hl 2 dX3_doesBear_55 rfl rfl ?_
          obtain ⟨hi, hw⟩ := hw
          refine vs_iald hC hW 12 rfl (by decide) hi dX3_doesBear_56 ?_
          refine vs_callVI [.int (vs_I (S7 13 v9))] hC hW 0 rfl rfl vk_X3_goodOf vm_X3_120 (c_X3_goodOf l g a r q (wr) S7 (S7 13 v9) _ hw) rfl hl.1 rfl ⟨rfl, rfl⟩ ⟨Nat.le_of_ble_eq_true rfl, Nat.le_of_ble_eq_true rfl⟩ ⟨Nat.le_of_ble_eq_true rfl, Nat.le_of_ble_eq_true rfl⟩ (Nat.le_of_ble_eq_true rfl) dX3_doesBear_57 (fun r11 _ H locs hw hW => ?_)
          have hW : vs_Wd g A _ (vs_W3 g a r q S7 ++ wr) _ _ s := hW
          refine vs_iload_n hC hl 1 dX3_doesBear_60 rfl rfl ?_
          obtain ⟨hx, hw⟩ := hw
          obtain ⟨hy, hw⟩ := hw
          obtain ⟨hwt, hwf⟩ := hw
          refine vs_icmp_gt hC 66 hx hy dX3_doesBear_61 (by decide) (fun hc => ?_) (fun hc => ?_)
          · have hw := hwt hc
            clear hwt hwf hc
            refine vs_iinc (L' := [(0, .ref (a 0)), (1, .int (vs_I x1)), (2, .int (vs_I (v9 + 1)))]) hC hl 2 [1, 2, 0] dX3_doesBear_66 rfl (by decide) rfl (fun ls hl => ?_)
            refine vs_goto hC 29 dX3_doesBear_69 (by decide) ?_
            exact ih8 (v9 + 1) hw _ _ _ hW (lv_sub hl [0, 1, 2] rfl)
          · have hw := hwf hc
            clear hwt hwf hc
            refine vs_iconst hC dX3_doesBear_64 ?_
            exact vs_zret (S7) hC hr hlk hW rfl ⟨Or.inl rfl, hw⟩ (Nat.le_of_ble_eq_true rfl) (Nat.le_of_ble_eq_true rfl) dX3_doesBear_65
    · have hw := hwf hc
      clear hwt hwf hc
      refine vs_iconst hC dX3_doesBear_25 ?_
      exact vs_zret (S7) hC hr hlk hW rfl ⟨Or.inl rfl, hw⟩ (Nat.le_of_ble_eq_true rfl) (Nat.le_of_ble_eq_true rfl) dX3_doesBear_26
set_option maxHeartbeats 4000000 in
set_option maxRecDepth 100000 in
theorem c_X3_doesBearByTrying (l : Launch) (g : vs_G) (a r q : Nat → Nat) (wr : va_W) (S : vs_St) (x1 : Int) (post : Int → vs_St → Prop) (hw : wX3_doesBearByTrying S x1 post) : vs_MI l yX3_doesBearByTrying (Cond.code yX3_doesBearByTrying cX3_doesBearByTrying 2 (some .boolean) :: vs_ws) { frames := 3, cells := 0, slots := 0, locals := 66 } g [.ref (a 0), .int (vs_I x1)] (vs_W3 g a r q S ++ wr) (fun (S' : vs_St) => vs_W3 g a r q S' ++ wr) post 0 0 := by
  refine vs_ofW (Qc := fun A => vs_QI g A (fun (S' : vs_St) => vs_W3 g a r q S' ++ wr) post) (by decide +kernel) (Nat.le_of_ble_eq_true rfl) (fun p e s m below meth c A ls hC hr hlk hW hl => ?_)
  have hC : CallFix p m c cX3_doesBearByTrying 2 s _ vs_ws RX3 := hC
  have hl : lv_has ls 2 [(0, .ref (a 0)), (1, .int (vs_I x1))] := hl
  unfold wX3_doesBearByTrying at hw
  refine vs_aload_n hC hl 0 dX3_doesBearByTrying_0 rfl rfl ?_
  refine vs_iload_n hC hl 1 dX3_doesBearByTrying_1 rfl rfl ?_
  refine vs_callVI [.int (vs_I x1)] hC hW 0 rfl rfl vk_X3_doesBear vm_X3_220 (c_X3_doesBear l g a r q (wr) S x1 _ hw) rfl hl.1 rfl ⟨rfl, rfl⟩ ⟨Nat.le_of_ble_eq_true rfl, Nat.le_of_ble_eq_true rfl⟩ ⟨Nat.le_of_ble_eq_true rfl, Nat.le_of_ble_eq_true rfl⟩ (Nat.le_of_ble_eq_true rfl) dX3_doesBearByTrying_2 (fun r1 S2 H locs hw hW => ?_)
  have hW : vs_Wd g A _ (vs_W3 g a r q S2 ++ wr) _ _ s := hW
  exact vs_zret (S2) hC hr hlk hW rfl hw (Nat.le_of_ble_eq_true rfl) (Nat.le_of_ble_eq_true rfl) dX3_doesBearByTrying_5
set_option maxHeartbeats 4000000 in
set_option maxRecDepth 100000 in
theorem c_X3_fail (l : Launch) (g : vs_G) (a r q : Nat → Nat) (wr : va_W) (S : vs_St) (x1 : Int) (post : Int → vs_St → Prop) (hw : wX3_fail S x1 post) : vs_MI l yX3_fail (Cond.code yX3_fail cX3_fail 6 (some .int) :: vs_ws) { frames := 3, cells := 0, slots := 0, locals := 64 } g [.ref (a 0), .int (vs_I x1)] (vs_W3 g a r q S ++ wr) (fun (S' : vs_St) => vs_W3 g a r q S' ++ wr) post 0 0 := by
  refine vs_ofW (Qc := fun A => vs_QI g A (fun (S' : vs_St) => vs_W3 g a r q S' ++ wr) post) (by decide +kernel) (Nat.le_of_ble_eq_true rfl) (fun p e s m below meth c A ls hC hr hlk hW hl => ?_)
  have hC : CallFix p m c cX3_fail 6 s _ vs_ws RX3 := hC
  have hl : lv_has ls 6 [(0, .ref (a 0)), (1, .int (vs_I x1))] := hl
  unfold wX3_fail at hw
  refine vs_aload_n hC hl 0 dX3_fail_0 rfl rfl ?_
  refine vs_iload_n hC hl 1 dX3_fail_1 rfl rfl ?_
  refine vs_callVI [.int (vs_I x1)] hC hW 0 rfl rfl vk_X3_isNoDisk vm_X3_130 (c_X3_isNoDisk l g a r q (wr) S x1 _ hw) rfl hl.1 rfl ⟨rfl, rfl⟩ ⟨Nat.le_of_ble_eq_true rfl, Nat.le_of_ble_eq_true rfl⟩ ⟨Nat.le_of_ble_eq_true rfl, Nat.le_of_ble_eq_true rfl⟩ (Nat.le_of_ble_eq_true rfl) dX3_fail_2 (fun r1 S2 H locs hw hW => ?_)
  have hW : vs_Wd g A _ (vs_W3 g a r q S2 ++ wr) _ _ s := hW
  obtain ⟨hx, hw⟩ := hw
  obtain ⟨hwt, hwf⟩ := hw
  refine vs_if_eq hC 10 hx dX3_fail_5 (by decide) (fun hc => ?_) (fun hc => ?_)
  · have hw := hwt hc
    clear hwt hwf hc
    refine vs_aload_n hC hl 0 dX3_fail_10 rfl rfl ?_
    refine vs_get hC hW 0 rfl rfl vs_inX3 2 (by decide) vf_X3_13 rfl dX3_fail_11 ?_
    refine vs_iload_n hC hl 1 dX3_fail_14 rfl rfl ?_
    obtain ⟨hi, hw⟩ := hw
    refine vs_cald hC hW 2 rfl (by decide) hi dX3_fail_15 ?_
    refine vs_bipush hC dX3_fail_16 (by decide +kernel) ?_
    obtain ⟨hx, hw⟩ := hw
    obtain ⟨hwt, hwf⟩ := hw
    refine vs_icmp_ne hC 27 hx ⟨by decide, by decide⟩ dX3_fail_18 (by decide) (fun hc => ?_) (fun hc => ?_)
    · have hw := hwt hc
      clear hwt hwf hc
      refine vs_aload_n hC hl 0 dX3_fail_27 rfl rfl ?_
      refine vs_iload_n hC hl 1 dX3_fail_28 rfl rfl ?_
      refine vs_callVI [.int (vs_I x1)] hC hW 0 rfl rfl vk_X3_usedOf vm_X3_112 (c_X3_usedOf l g a r q (wr) S2 x1 _ hw) rfl hl.1 rfl ⟨rfl, rfl⟩ ⟨Nat.le_of_ble_eq_true rfl, Nat.le_of_ble_eq_true rfl⟩ ⟨Nat.le_of_ble_eq_true rfl, Nat.le_of_ble_eq_true rfl⟩ (Nat.le_of_ble_eq_true rfl) dX3_fail_29 (fun r3 _ H locs hw hW => ?_)
      have hW : vs_Wd g A _ (vs_W3 g a r q S2 ++ wr) _ _ s := hW
      refine vs_istore_n (L' := [(0, .ref (a 0)), (1, .int (vs_I x1)), (2, .int (vs_I r3))]) hC hl [1, 2, 0] dX3_fail_32 rfl (by decide) rfl (fun ls hl => ?_)
      refine vs_iconst hC dX3_fail_33 ?_
      refine vs_istore_n (L' := [(0, .ref (a 0)), (1, .int (vs_I x1)), (2, .int (vs_I r3)), (3, .int (vs_I 0))]) hC hl [1, 2, 3, 0] dX3_fail_34 rfl (by decide) rfl (fun ls hl => ?_)
      obtain ⟨J4, μ4, hJ, hB4⟩ := hw
      refine vs_loop (V := Int × vs_St) (J := fun v => J4 v.1 v.2) (μ := fun v => μ4 v.1 v.2) (fun v => vs_W3 g a r q v.2 ++ wr) (fun v => [(0, .ref (a 0)), (1, .int (vs_I x1)), (2, .int (vs_I r3)), (3, .int (vs_I v.1))]) (fun v hJ ih4 H locs ls hW hl => ?_) (0, S2) hJ hW (lv_sub hl [0, 1, 2, 3] rfl)
      obtain ⟨v5, S6⟩ := v
      have hw := hB4 v5 S6 hJ
      have hW : vs_Wd g A _ (vs_W3 g a r q S6 ++ wr) _ _ s := hW
      have hl : lv_has ls 6 [(0, .ref (a 0)), (1, .int (vs_I x1)), (2, .int (vs_I r3)), (3, .int (vs_I v5))] := hl
      clear hJ
      unfold lX3_fail_35 at hw
      refine vs_iload_n hC hl 3 dX3_fail_35 rfl rfl ?_
      refine vs_aload_n hC hl 0 dX3_fail_36 rfl rfl ?_
      refine vs_get hC hW 0 rfl rfl vs_inX3 15 (by decide) vf_X3_171 rfl dX3_fail_37 ?_
      obtain ⟨hx, hw⟩ := hw
      obtain ⟨hy, hw⟩ := hw
      obtain ⟨hwt, hwf⟩ := hw
      refine vs_icmp_ge hC 104 hx hy dX3_fail_40 (by decide) (fun hc => ?_) (fun hc => ?_)
      · have hw := hwt hc
        clear hwt hwf hc
        refine vs_aload_n hC hl 0 dX3_fail_104 rfl rfl ?_
        refine vs_get hC hW 0 rfl rfl vs_inX3 2 (by decide) vf_X3_13 rfl dX3_fail_105 ?_
        refine vs_iload_n hC hl 1 dX3_fail_108 rfl rfl ?_
        refine vs_bipush hC dX3_fail_109 (by decide +kernel) ?_
        obtain ⟨hi, hw⟩ := hw
        obtain ⟨S7, hS7⟩ : ∃ z : vs_St, z = vs_st S6 2 x1 102 := ⟨_, rfl⟩
        have hw := hw S7 hS7
        refine vs_cast (Wo' := vs_W3 g a r q S7 ++ wr) hC hW 2 rfl (by decide) hi (by decide) (by rw [hS7]; rfl) dX3_fail_111 (fun H locs hW => ?_)
        refine vs_iload_n hC hl 2 dX3_fail_112 rfl rfl ?_
        exact vs_iret (S7) hC hr hlk hW rfl hw (Nat.le_of_ble_eq_true rfl) (Nat.le_of_ble_eq_true rfl) dX3_fail_113
      · have hw := hwf hc
        clear hwt hwf hc
        refine vs_aload_n hC hl 0 dX3_fail_43 rfl rfl ?_
        refine vs_get hC hW 0 rfl rfl vs_inX3 13 (by decide) vf_X3_47 rfl dX3_fail_44 ?_
        refine vs_iload_n hC hl 3 dX3_fail_47 rfl rfl ?_
        obtain ⟨hi, hw⟩ := hw
        refine vs_iald hC hW 12 rfl (by decide) hi dX3_fail_48 ?_
        refine vs_name (fun v8 hv8 => ?_)
        have hw := hw v8 hv8
        refine vs_istore (L' := [(0, .ref (a 0)), (1, .int (vs_I x1)), (2, .int (vs_I r3)), (3, .int (vs_I v5)), (4, .int (vs_I v8))]) hC hl [1, 2, 3, 4, 0] dX3_fail_49 (by decide) rfl (fun ls hl => ?_)
        refine vs_aload_n hC hl 0 dX3_fail_51 rfl rfl ?_
        refine vs_get hC hW 0 rfl rfl vs_inX3 10 (by decide) vf_X3_38 rfl dX3_fail_52 ?_
        refine vs_iload hC hl 4 dX3_fail_55 rfl ?_
        obtain ⟨hi, hw⟩ := hw
        refine vs_iald hC hW 9 rfl (by decide) hi dX3_fail_57 ?_
        refine vs_iconst hC dX3_fail_58 ?_
        refine vs_isub hC dX3_fail_59 ?_
        refine vs_name (fun v9 hv9 => ?_)
        have hw := hw v9 hv9
        refine vs_istore (L' := [(0, .ref (a 0)), (1, .int (vs_I x1)), (2, .int (vs_I r3)), (3, .int (vs_I v5)), (4, .int (vs_I v8)), (5, .int (vs_I v9))]) hC hl [1, 2, 3, 4, 5, 0] dX3_fail_60 (by decide) rfl (fun ls hl => ?_)
        obtain ⟨J10, μ10, hJ, hB10⟩ := hw
        refine vs_loop (V := Int × vs_St) (J := fun v => J10 v.1 v.2) (μ := fun v => μ10 v.1 v.2) (fun v => vs_W3 g a r q v.2 ++ wr) (fun v => [(0, .ref (a 0)), (1, .int (vs_I x1)), (2, .int (vs_I r3)), (3, .int (vs_I v5)), (4, .int (vs_I v8)), (5, .int (vs_I v.1))]) (fun v hJ ih10 H locs ls hW hl => ?_) (v9, S6) hJ hW (lv_sub hl [0, 1, 2, 3, 4, 5] rfl)
        obtain ⟨v11, S12⟩ := v
        have hw := hB10 v11 S12 hJ
        have hW : vs_Wd g A _ (vs_W3 g a r q S12 ++ wr) _ _ s := hW
        have hl : lv_has ls 6 [(0, .ref (a 0)), (1, .int (vs_I x1)), (2, .int (vs_I r3)), (3, .int (vs_I v5)), (4, .int (vs_I v8)), (5, .int (vs_I v11))] := hl
        clear hJ
        unfold lX3_fail_62 at hw
        refine vs_iload hC hl 5 dX3_fail_62 rfl ?_
        obtain ⟨hx, hw⟩ := hw
        obtain ⟨hwt, hwf⟩ := hw
        refine vs_if_lt hC 98 hx dX3_fail_64 (by decide) (fun hc => ?_) (fun hc => ?_)
        · have hw := hwt hc
          clear hwt hwf hc
          refine vs_iinc (L' := [(0, .ref (a 0)), (1, .int (vs_I x1)), (2, .int (vs_I r3)), (3, .int (vs_I (v5 + 1))), (4, .int (vs_I v8)), (5, .int (vs_I v11))]) hC hl 3 [1, 2, 3, 0, 4, 5] dX3_fail_98 rfl (by decide) rfl (fun ls hl => ?_)
          refine vs_goto hC 35 dX3_fail_101 (by decide) ?_
          exact ih4 (v5 + 1, S12) hw _ _ _ hW (lv_sub hl [0, 1, 2, 3] rfl)
        · have hw := hwf hc
          clear hwt hwf hc
          refine vs_aload_n hC hl 0 dX3_fail_67 rfl rfl ?_
          refine vs_get hC hW 0 rfl rfl vs_inX3 8 (by decide) vf_X3_32 rfl dX3_fail_68 ?_
          refine vs_iload hC hl 4 dX3_fail_71 rfl ?_
          obtain ⟨hq, hw⟩ := hw
          have hr13 := hq
          refine vs_aald2 (r := r) hC hW 7 rfl (by decide) hq dX3_fail_73 ?_
          refine vs_iload hC hl 5 dX3_fail_74 rfl ?_
          obtain ⟨hi, hw⟩ := hw
          refine vs_iald2 hC hW (25 + Int.toNat v8) (vs_rowat8 hr13) hi dX3_fail_76 ?_
          refine vs_bipush hC dX3_fail_77 (by decide +kernel) ?_
          obtain ⟨hi, hw⟩ := hw
          refine vs_idiv hC dX3_fail_79 ⟨hi.1, hi.2, by decide, by decide⟩ ?_
          refine vs_iload_n hC hl 1 dX3_fail_80 rfl rfl ?_
          obtain ⟨hx, hw⟩ := hw
          obtain ⟨hy, hw⟩ := hw
          obtain ⟨hwt, hwf⟩ := hw
          refine vs_icmp_ne hC 92 hx hy dX3_fail_81 (by decide) (fun hc => ?_) (fun hc => ?_)
          · have hw := hwt hc
            clear hwt hwf hc
            refine vs_iinc (L' := [(0, .ref (a 0)), (1, .int (vs_I x1)), (2, .int (vs_I r3)), (3, .int (vs_I v5)), (4, .int (vs_I v8)), (5, .int (vs_I (v11 + (-1))))]) hC hl 5 [1, 2, 3, 4, 5, 0] dX3_fail_92 rfl (by decide) rfl (fun ls hl => ?_)
            refine vs_goto hC 62 dX3_fail_95 (by decide) ?_
            exact ih10 (v11 + (-1), S12) hw _ _ _ hW (lv_sub hl [0, 1, 2, 3, 4, 5] rfl)
          · have hw := hwf hc
            clear hwt hwf hc
            refine vs_aload_n hC hl 0 dX3_fail_84 rfl rfl ?_
            refine vs_iload hC hl 4 dX3_fail_85 rfl ?_
            refine vs_iload hC hl 5 dX3_fail_87 rfl ?_
            refine vs_callVV [.int (vs_I v8), .int (vs_I v11)] hC hW 0 rfl rfl vk_X3_takes vm_X3_158 (c_X3_takes l g a r q (wr) S12 v8 v11 _ hw) rfl hl.1 rfl ⟨rfl, rfl⟩ ⟨Nat.le_of_ble_eq_true rfl, Nat.le_of_ble_eq_true rfl⟩ ⟨Nat.le_of_ble_eq_true rfl, Nat.le_of_ble_eq_true rfl⟩ (Nat.le_of_ble_eq_true rfl) dX3_fail_89 (fun S14 H locs hw hW => ?_)
            have hW : vs_Wd g A _ (vs_W3 g a r q S14 ++ wr) _ _ s := hW
            refine vs_iinc (L' := [(0, .ref (a 0)), (1, .int (vs_I x1)), (2, .int (vs_I r3)), (3, .int (vs_I v5)), (4, .int (vs_I v8)), (5, .int (vs_I (v11 + (-1))))]) hC hl 5 [1, 2, 3, 4, 5, 0] dX3_fail_92 rfl (by decide) rfl (fun ls hl => ?_)
            refine vs_goto hC 62 dX3_fail_95 (by decide) ?_
            exact ih10 (v11 + (-1), S14) hw _ _ _ hW (lv_sub hl [0, 1, 2, 3, 4, 5] rfl)
    · have hw := hwf hc
      clear hwt hwf hc
      refine vs_aload_n hC hl 0 dX3_fail_21 rfl rfl ?_
      refine vs_iconst hC dX3_fail_22 ?_
      refine vs_callVI [.int (vs_I 2)] hC hW 0 rfl rfl vk_X3_fails vm_X3_123 (c_X3_fails l g a r q (wr) S2 2 _ hw) rfl hl.1 rfl ⟨rfl, rfl⟩ ⟨Nat.le_of_ble_eq_true rfl, Nat.le_of_ble_eq_true rfl⟩ ⟨Nat.le_of_ble_eq_true rfl, Nat.le_of_ble_eq_true rfl⟩ (Nat.le_of_ble_eq_true rfl) dX3_fail_23 (fun r15 S16 H locs hw hW => ?_)
      have hW : vs_Wd g A _ (vs_W3 g a r q S16 ++ wr) _ _ s := hW
      exact vs_iret (S16) hC hr hlk hW rfl hw (Nat.le_of_ble_eq_true rfl) (Nat.le_of_ble_eq_true rfl) dX3_fail_26
  · have hw := hwf hc
    clear hwt hwf hc
    refine vs_iconst hC dX3_fail_8 ?_
    exact vs_iret (S2) hC hr hlk hW rfl hw (Nat.le_of_ble_eq_true rfl) (Nat.le_of_ble_eq_true rfl) dX3_fail_9
set_option maxHeartbeats 4000000 in
set_option maxRecDepth 100000 in
theorem c_X3_sound (l : Launch) (g : vs_G) (a r q : Nat → Nat) (wr : va_W) (S : vs_St) (post : Int → Prop) (hw : wX3_sound S post) : vs_MI l yX3_sound (Cond.code yX3_sound cX3_sound 3 (some .int) :: vs_ws) { frames := 0, cells := 0, slots := 0, locals := 0 } g [.ref (a 0)] (vs_W3 g a r q S ++ wr) (fun (_ : Unit) => vs_W3 g a r q S ++ wr) (fun v (_ : Unit) => post v) 0 0 := by
  refine vs_ofW (Qc := fun A => vs_QI g A (fun (_ : Unit) => vs_W3 g a r q S ++ wr) (fun v (_ : Unit) => post v)) (by decide +kernel) (Nat.le_of_ble_eq_true rfl) (fun p e s m below meth c A ls hC hr hlk hW hl => ?_)
  have hC : CallFix p m c cX3_sound 3 s _ vs_ws RX3 := hC
  have hl : lv_has ls 3 [(0, .ref (a 0))] := hl
  unfold wX3_sound at hw
  refine vs_iconst hC dX3_sound_0 ?_
  refine vs_istore_n (L' := [(0, .ref (a 0)), (1, .int (vs_I 0))]) hC hl [1, 0] dX3_sound_1 rfl (by decide) rfl (fun ls hl => ?_)
  refine vs_iconst hC dX3_sound_2 ?_
  refine vs_istore_n (L' := [(0, .ref (a 0)), (1, .int (vs_I 0)), (2, .int (vs_I 0))]) hC hl [1, 2, 0] dX3_sound_3 rfl (by decide) rfl (fun ls hl => ?_)
  obtain ⟨J1, μ1, hJ, hB1⟩ := hw
  refine vs_loop (V := Int × Int) (J := fun v => J1 v.1 v.2) (μ := fun v => μ1 v.1 v.2) (fun v => vs_W3 g a r q S ++ wr) (fun v => [(0, .ref (a 0)), (1, .int (vs_I v.1)), (2, .int (vs_I v.2))]) (fun v hJ ih1 H locs ls hW hl => ?_) (0, 0) hJ hW (lv_sub hl [0, 1, 2] rfl)
  obtain ⟨v2, v3⟩ := v
  have hw := hB1 v2 v3 hJ
  have hW : vs_Wd g A _ (vs_W3 g a r q S ++ wr) _ _ s := hW
  have hl : lv_has ls 3 [(0, .ref (a 0)), (1, .int (vs_I v2)), (2, .int (vs_I v3))] := hl
  clear hJ
  unfold lX3_sound_4 at hw
  refine vs_iload_n hC hl 2 dX3_sound_4 rfl rfl ?_
  refine vs_aload_n hC hl 0 dX3_sound_5 rfl rfl ?_
  refine vs_get hC hW 0 rfl rfl vs_inX3 7 (by decide) vf_X3_99 rfl dX3_sound_6 ?_
  obtain ⟨hx, hw⟩ := hw
  obtain ⟨hy, hw⟩ := hw
  obtain ⟨hwt, hwf⟩ := hw
  refine vs_icmp_ge hC 37 hx hy dX3_sound_9 (by decide) (fun hc => ?_) (fun hc => ?_)
  · have hw := hwt hc
    clear hwt hwf hc
    refine vs_iload_n hC hl 1 dX3_sound_37 rfl rfl ?_
    exact vs_iret () hC hr hlk hW rfl hw (Nat.le_of_ble_eq_true rfl) (Nat.le_of_ble_eq_true rfl) dX3_sound_38
  · have hw := hwf hc
    clear hwt hwf hc
    refine vs_iload_n hC hl 1 dX3_sound_12 rfl rfl ?_
    refine vs_aload_n hC hl 0 dX3_sound_13 rfl rfl ?_
    refine vs_get hC hW 0 rfl rfl vs_inX3 2 (by decide) vf_X3_13 rfl dX3_sound_14 ?_
    refine vs_iload_n hC hl 2 dX3_sound_17 rfl rfl ?_
    obtain ⟨hi, hw⟩ := hw
    refine vs_cald hC hW 2 rfl (by decide) hi dX3_sound_18 ?_
    refine vs_bipush hC dX3_sound_19 (by decide +kernel) ?_
    obtain ⟨hx, hw⟩ := hw
    obtain ⟨hwt, hwf⟩ := hw
    refine vs_icmp_ne hC 28 hx ⟨by decide, by decide⟩ dX3_sound_21 (by decide) (fun hc => ?_) (fun hc => ?_)
    · have hw := hwt hc
      clear hwt hwf hc
      refine vs_iconst hC dX3_sound_28 ?_
      refine vs_iadd hC dX3_sound_29 ?_
      refine vs_name (fun v4 hv4 => ?_)
      have hw := hw v4 hv4
      refine vs_istore_n (L' := [(0, .ref (a 0)), (1, .int (vs_I v4)), (2, .int (vs_I v3))]) hC hl [1, 0, 2] dX3_sound_30 rfl (by decide) rfl (fun ls hl => ?_)
      refine vs_iinc (L' := [(0, .ref (a 0)), (1, .int (vs_I v4)), (2, .int (vs_I (v3 + 1)))]) hC hl 2 [1, 2, 0] dX3_sound_31 rfl (by decide) rfl (fun ls hl => ?_)
      refine vs_goto hC 4 dX3_sound_34 (by decide) ?_
      exact ih1 (v4, v3 + 1) hw _ _ _ hW (lv_sub hl [0, 1, 2] rfl)
    · have hw := hwf hc
      clear hwt hwf hc
      refine vs_iconst hC dX3_sound_24 ?_
      refine vs_goto hC 29 dX3_sound_25 (by decide) ?_
      refine vs_iadd hC dX3_sound_29 ?_
      refine vs_name (fun v5 hv5 => ?_)
      have hw := hw v5 hv5
      refine vs_istore_n (L' := [(0, .ref (a 0)), (1, .int (vs_I v5)), (2, .int (vs_I v3))]) hC hl [1, 0, 2] dX3_sound_30 rfl (by decide) rfl (fun ls hl => ?_)
      refine vs_iinc (L' := [(0, .ref (a 0)), (1, .int (vs_I v5)), (2, .int (vs_I (v3 + 1)))]) hC hl 2 [1, 2, 0] dX3_sound_31 rfl (by decide) rfl (fun ls hl => ?_)
      refine vs_goto hC 4 dX3_sound_34 (by decide) ?_
      exact ih1 (v5, v3 + 1) hw _ _ _ hW (lv_sub hl [0, 1, 2] rfl)
set_option maxHeartbeats 4000000 in
set_option maxRecDepth 100000 in
theorem c_X3_replace (l : Launch) (g : vs_G) (a r q : Nat → Nat) (wr : va_W) (S : vs_St) (x1 : Int) (post : Int → vs_St → Prop) (hw : wX3_replace S x1 post) : vs_MI l yX3_replace (Cond.code yX3_replace cX3_replace 2 (some .int) :: vs_ws) { frames := 3, cells := 0, slots := 0, locals := 64 } g [.ref (a 0), .int (vs_I x1)] (vs_W3 g a r q S ++ wr) (fun (S' : vs_St) => vs_W3 g a r q S' ++ wr) post 0 0 := by
  refine vs_ofW (Qc := fun A => vs_QI g A (fun (S' : vs_St) => vs_W3 g a r q S' ++ wr) post) (by decide +kernel) (Nat.le_of_ble_eq_true rfl) (fun p e s m below meth c A ls hC hr hlk hW hl => ?_)
  have hC : CallFix p m c cX3_replace 2 s _ vs_ws RX3 := hC
  have hl : lv_has ls 2 [(0, .ref (a 0)), (1, .int (vs_I x1))] := hl
  unfold wX3_replace at hw
  refine vs_aload_n hC hl 0 dX3_replace_0 rfl rfl ?_
  refine vs_iload_n hC hl 1 dX3_replace_1 rfl rfl ?_
  refine vs_callVI [.int (vs_I x1)] hC hW 0 rfl rfl vk_X3_isNoDisk vm_X3_130 (c_X3_isNoDisk l g a r q (wr) S x1 _ hw) rfl hl.1 rfl ⟨rfl, rfl⟩ ⟨Nat.le_of_ble_eq_true rfl, Nat.le_of_ble_eq_true rfl⟩ ⟨Nat.le_of_ble_eq_true rfl, Nat.le_of_ble_eq_true rfl⟩ (Nat.le_of_ble_eq_true rfl) dX3_replace_2 (fun r1 S2 H locs hw hW => ?_)
  have hW : vs_Wd g A _ (vs_W3 g a r q S2 ++ wr) _ _ s := hW
  obtain ⟨hx, hw⟩ := hw
  obtain ⟨hwt, hwf⟩ := hw
  refine vs_if_eq hC 10 hx dX3_replace_5 (by decide) (fun hc => ?_) (fun hc => ?_)
  · have hw := hwt hc
    clear hwt hwf hc
    refine vs_aload_n hC hl 0 dX3_replace_10 rfl rfl ?_
    refine vs_get hC hW 0 rfl rfl vs_inX3 2 (by decide) vf_X3_13 rfl dX3_replace_11 ?_
    refine vs_iload_n hC hl 1 dX3_replace_14 rfl rfl ?_
    obtain ⟨hi, hw⟩ := hw
    refine vs_cald hC hW 2 rfl (by decide) hi dX3_replace_15 ?_
    refine vs_bipush hC dX3_replace_16 (by decide +kernel) ?_
    obtain ⟨hx, hw⟩ := hw
    obtain ⟨hwt, hwf⟩ := hw
    refine vs_icmp_eq hC 27 hx ⟨by decide, by decide⟩ dX3_replace_18 (by decide) (fun hc => ?_) (fun hc => ?_)
    · have hw := hwt hc
      clear hwt hwf hc
      refine vs_aload_n hC hl 0 dX3_replace_27 rfl rfl ?_
      refine vs_get hC hW 0 rfl rfl vs_inX3 2 (by decide) vf_X3_13 rfl dX3_replace_28 ?_
      refine vs_iload_n hC hl 1 dX3_replace_31 rfl rfl ?_
      refine vs_bipush hC dX3_replace_32 (by decide +kernel) ?_
      obtain ⟨hi, hw⟩ := hw
      obtain ⟨S3, hS3⟩ : ∃ z : vs_St, z = vs_st S2 2 x1 115 := ⟨_, rfl⟩
      have hw := hw S3 hS3
      refine vs_cast (Wo' := vs_W3 g a r q S3 ++ wr) hC hW 2 rfl (by decide) hi (by decide) (by rw [hS3]; rfl) dX3_replace_34 (fun H locs hW => ?_)
      refine vs_aload_n hC hl 0 dX3_replace_35 rfl rfl ?_
      refine vs_callVI [] hC hW 0 rfl rfl vk_X3_sound vm_X3_223 (c_X3_sound l g a r q (wr) S3  _ hw) rfl hl.1 rfl ⟨rfl, rfl⟩ ⟨Nat.le_of_ble_eq_true rfl, Nat.le_of_ble_eq_true rfl⟩ ⟨Nat.le_of_ble_eq_true rfl, Nat.le_of_ble_eq_true rfl⟩ (Nat.le_of_ble_eq_true rfl) dX3_replace_36 (fun r4 _ H locs hw hW => ?_)
      have hW : vs_Wd g A _ (vs_W3 g a r q S3 ++ wr) _ _ s := hW
      exact vs_iret (S3) hC hr hlk hW rfl hw (Nat.le_of_ble_eq_true rfl) (Nat.le_of_ble_eq_true rfl) dX3_replace_39
    · have hw := hwf hc
      clear hwt hwf hc
      refine vs_aload_n hC hl 0 dX3_replace_21 rfl rfl ?_
      refine vs_iconst hC dX3_replace_22 ?_
      refine vs_callVI [.int (vs_I 2)] hC hW 0 rfl rfl vk_X3_fails vm_X3_123 (c_X3_fails l g a r q (wr) S2 2 _ hw) rfl hl.1 rfl ⟨rfl, rfl⟩ ⟨Nat.le_of_ble_eq_true rfl, Nat.le_of_ble_eq_true rfl⟩ ⟨Nat.le_of_ble_eq_true rfl, Nat.le_of_ble_eq_true rfl⟩ (Nat.le_of_ble_eq_true rfl) dX3_replace_23 (fun r5 S6 H locs hw hW => ?_)
      have hW : vs_Wd g A _ (vs_W3 g a r q S6 ++ wr) _ _ s := hW
      exact vs_iret (S6) hC hr hlk hW rfl hw (Nat.le_of_ble_eq_true rfl) (Nat.le_of_ble_eq_true rfl) dX3_replace_26
  · have hw := hwf hc
    clear hwt hwf hc
    refine vs_iconst hC dX3_replace_8 ?_
    exact vs_iret (S2) hC hr hlk hW rfl hw (Nat.le_of_ble_eq_true rfl) (Nat.le_of_ble_eq_true rfl) dX3_replace_9
set_option maxHeartbeats 4000000 in
set_option maxRecDepth 100000 in
theorem c_X3_warn (l : Launch) (g : vs_G) (a r q : Nat → Nat) (wr : va_W) (S : vs_St) (x1 : Int) (post : Int → vs_St → Prop) (hw : wX3_warn S x1 post) : vs_MI l yX3_warn (Cond.code yX3_warn cX3_warn 2 (some .int) :: vs_ws) { frames := 3, cells := 0, slots := 0, locals := 64 } g [.ref (a 0), .int (vs_I x1)] (vs_W3 g a r q S ++ wr) (fun (S' : vs_St) => vs_W3 g a r q S' ++ wr) post 0 0 := by
  refine vs_ofW (Qc := fun A => vs_QI g A (fun (S' : vs_St) => vs_W3 g a r q S' ++ wr) post) (by decide +kernel) (Nat.le_of_ble_eq_true rfl) (fun p e s m below meth c A ls hC hr hlk hW hl => ?_)
  have hC : CallFix p m c cX3_warn 2 s _ vs_ws RX3 := hC
  have hl : lv_has ls 2 [(0, .ref (a 0)), (1, .int (vs_I x1))] := hl
  unfold wX3_warn at hw
  refine vs_aload_n hC hl 0 dX3_warn_0 rfl rfl ?_
  refine vs_iload_n hC hl 1 dX3_warn_1 rfl rfl ?_
  refine vs_callVI [.int (vs_I x1)] hC hW 0 rfl rfl vk_X3_isNoDisk vm_X3_130 (c_X3_isNoDisk l g a r q (wr) S x1 _ hw) rfl hl.1 rfl ⟨rfl, rfl⟩ ⟨Nat.le_of_ble_eq_true rfl, Nat.le_of_ble_eq_true rfl⟩ ⟨Nat.le_of_ble_eq_true rfl, Nat.le_of_ble_eq_true rfl⟩ (Nat.le_of_ble_eq_true rfl) dX3_warn_2 (fun r1 S2 H locs hw hW => ?_)
  have hW : vs_Wd g A _ (vs_W3 g a r q S2 ++ wr) _ _ s := hW
  obtain ⟨hx, hw⟩ := hw
  obtain ⟨hwt, hwf⟩ := hw
  refine vs_if_eq hC 10 hx dX3_warn_5 (by decide) (fun hc => ?_) (fun hc => ?_)
  · have hw := hwt hc
    clear hwt hwf hc
    refine vs_aload_n hC hl 0 dX3_warn_10 rfl rfl ?_
    refine vs_get hC hW 0 rfl rfl vs_inX3 2 (by decide) vf_X3_13 rfl dX3_warn_11 ?_
    refine vs_iload_n hC hl 1 dX3_warn_14 rfl rfl ?_
    obtain ⟨hi, hw⟩ := hw
    refine vs_cald hC hW 2 rfl (by decide) hi dX3_warn_15 ?_
    refine vs_bipush hC dX3_warn_16 (by decide +kernel) ?_
    obtain ⟨hx, hw⟩ := hw
    obtain ⟨hwt, hwf⟩ := hw
    refine vs_icmp_eq hC 27 hx ⟨by decide, by decide⟩ dX3_warn_18 (by decide) (fun hc => ?_) (fun hc => ?_)
    · have hw := hwt hc
      clear hwt hwf hc
      refine vs_aload_n hC hl 0 dX3_warn_27 rfl rfl ?_
      refine vs_get hC hW 0 rfl rfl vs_inX3 2 (by decide) vf_X3_13 rfl dX3_warn_28 ?_
      refine vs_iload_n hC hl 1 dX3_warn_31 rfl rfl ?_
      refine vs_bipush hC dX3_warn_32 (by decide +kernel) ?_
      obtain ⟨hi, hw⟩ := hw
      obtain ⟨S3, hS3⟩ : ∃ z : vs_St, z = vs_st S2 2 x1 119 := ⟨_, rfl⟩
      have hw := hw S3 hS3
      refine vs_cast (Wo' := vs_W3 g a r q S3 ++ wr) hC hW 2 rfl (by decide) hi (by decide) (by rw [hS3]; rfl) dX3_warn_34 (fun H locs hW => ?_)
      refine vs_aload_n hC hl 0 dX3_warn_35 rfl rfl ?_
      refine vs_iload_n hC hl 1 dX3_warn_36 rfl rfl ?_
      refine vs_callVI [.int (vs_I x1)] hC hW 0 rfl rfl vk_X3_usedOf vm_X3_112 (c_X3_usedOf l g a r q (wr) S3 x1 _ hw) rfl hl.1 rfl ⟨rfl, rfl⟩ ⟨Nat.le_of_ble_eq_true rfl, Nat.le_of_ble_eq_true rfl⟩ ⟨Nat.le_of_ble_eq_true rfl, Nat.le_of_ble_eq_true rfl⟩ (Nat.le_of_ble_eq_true rfl) dX3_warn_37 (fun r4 _ H locs hw hW => ?_)
      have hW : vs_Wd g A _ (vs_W3 g a r q S3 ++ wr) _ _ s := hW
      exact vs_iret (S3) hC hr hlk hW rfl hw (Nat.le_of_ble_eq_true rfl) (Nat.le_of_ble_eq_true rfl) dX3_warn_40
    · have hw := hwf hc
      clear hwt hwf hc
      refine vs_aload_n hC hl 0 dX3_warn_21 rfl rfl ?_
      refine vs_iconst hC dX3_warn_22 ?_
      refine vs_callVI [.int (vs_I 2)] hC hW 0 rfl rfl vk_X3_fails vm_X3_123 (c_X3_fails l g a r q (wr) S2 2 _ hw) rfl hl.1 rfl ⟨rfl, rfl⟩ ⟨Nat.le_of_ble_eq_true rfl, Nat.le_of_ble_eq_true rfl⟩ ⟨Nat.le_of_ble_eq_true rfl, Nat.le_of_ble_eq_true rfl⟩ (Nat.le_of_ble_eq_true rfl) dX3_warn_23 (fun r5 S6 H locs hw hW => ?_)
      have hW : vs_Wd g A _ (vs_W3 g a r q S6 ++ wr) _ _ s := hW
      exact vs_iret (S6) hC hr hlk hW rfl hw (Nat.le_of_ble_eq_true rfl) (Nat.le_of_ble_eq_true rfl) dX3_warn_26
  · have hw := hwf hc
    clear hwt hwf hc
    refine vs_iconst hC dX3_warn_8 ?_
    exact vs_iret (S2) hC hr hlk hW rfl hw (Nat.le_of_ble_eq_true rfl) (Nat.le_of_ble_eq_true rfl) dX3_warn_9
set_option maxHeartbeats 4000000 in
set_option maxRecDepth 100000 in
theorem c_X3_rot (l : Launch) (g : vs_G) (a r q : Nat → Nat) (wr : va_W) (S : vs_St) (x1 : Int) (x2 : Int) (post : Int → vs_St → Prop) (hw : wX3_rot S x1 x2 post) : vs_MI l yX3_rot (Cond.code yX3_rot cX3_rot 4 (some .boolean) :: vs_ws) { frames := 2, cells := 0, slots := 0, locals := 43 } g [.ref (a 0), .int (vs_I x1), .int (vs_I x2)] (vs_W3 g a r q S ++ wr) (fun (S' : vs_St) => vs_W3 g a r q S' ++ wr) post 0 0 := by
  refine vs_ofW (Qc := fun A => vs_QI g A (fun (S' : vs_St) => vs_W3 g a r q S' ++ wr) post) (by decide +kernel) (Nat.le_of_ble_eq_true rfl) (fun p e s m below meth c A ls hC hr hlk hW hl => ?_)
  have hC : CallFix p m c cX3_rot 4 s _ vs_ws RX3 := hC
  have hl : lv_has ls 4 [(0, .ref (a 0)), (1, .int (vs_I x1)), (2, .int (vs_I x2))] := hl
  unfold wX3_rot at hw
  refine vs_aload_n hC hl 0 dX3_rot_0 rfl rfl ?_
  refine vs_aload_n hC hl 0 dX3_rot_1 rfl rfl ?_
  refine vs_iload_n hC hl 1 dX3_rot_2 rfl rfl ?_
  refine vs_callVI [.int (vs_I x1)] hC hW 0 rfl rfl vk_X3_isDisk vm_X3_126 (c_X3_isDisk l g a r q (wr) S x1 _ hw) rfl hl.1 rfl ⟨rfl, rfl⟩ ⟨Nat.le_of_ble_eq_true rfl, Nat.le_of_ble_eq_true rfl⟩ ⟨Nat.le_of_ble_eq_true rfl, Nat.le_of_ble_eq_true rfl⟩ (Nat.le_of_ble_eq_true rfl) dX3_rot_3 (fun r1 _ H locs hw hW => ?_)
  have hW : vs_Wd g A _ (vs_W3 g a r q S ++ wr) _ _ s := hW
  obtain ⟨hx, hw⟩ := hw
  obtain ⟨hwt, hwf⟩ := hw
  refine vs_if_eq hC 25 hx dX3_rot_6 (by decide) (fun hc => ?_) (fun hc => ?_)
  · have hw := hwt hc
    clear hwt hwf hc
    refine vs_iconst hC dX3_rot_25 ?_
    refine vs_goto hC 48 dX3_rot_26 (by decide) ?_
    obtain ⟨S2, hS2⟩ : ∃ z : vs_St, z = vs_st S 0 0 1 := ⟨_, rfl⟩
    have hw := hw S2 hS2
    refine vs_put (Wo' := vs_W3 g a r q S2 ++ wr) hC hW 0 rfl rfl vs_inX3 tyX3_ok nmX3 0 (by decide) vf_X3_96 rfl rfl (Nat.le_of_ble_eq_true rfl) (by rw [hS2]; rfl) dX3_rot_48 (fun H locs hW => ?_)
    refine vs_aload_n hC hl 0 dX3_rot_51 rfl rfl ?_
    refine vs_get hC hW 0 rfl rfl vs_inX3 0 (by decide) vf_X3_96 rfl dX3_rot_52 ?_
    obtain ⟨hx, hw⟩ := hw
    obtain ⟨hwt, hwf⟩ := hw
    refine vs_if_le hC 60 hx dX3_rot_55 (by decide) (fun hc => ?_) (fun hc => ?_)
    · have hw := hwt hc
      clear hwt hwf hc
      refine vs_aload_n hC hl 0 dX3_rot_60 rfl rfl ?_
      refine vs_get hC hW 0 rfl rfl vs_inX3 5 (by decide) vf_X3_23 rfl dX3_rot_61 ?_
      refine vs_bipush hC dX3_rot_64 (by decide +kernel) ?_
      refine vs_iload_n hC hl 1 dX3_rot_66 rfl rfl ?_
      refine vs_imul hC dX3_rot_67 ?_
      refine vs_iload_n hC hl 2 dX3_rot_68 rfl rfl ?_
      refine vs_iadd hC dX3_rot_69 ?_
      obtain ⟨hi, hw⟩ := hw
      refine vs_zald hC hW 5 rfl (by decide) hi dX3_rot_70 ?_
      refine vs_name (fun v3 hv3 => ?_)
      have hw := hw v3 hv3
      refine vs_istore_n (L' := [(0, .ref (a 0)), (1, .int (vs_I x1)), (2, .int (vs_I x2)), (3, .int (vs_I v3))]) hC hl [1, 2, 3, 0] dX3_rot_71 rfl (by decide) rfl (fun ls hl => ?_)
      refine vs_aload_n hC hl 0 dX3_rot_72 rfl rfl ?_
      refine vs_get hC hW 0 rfl rfl vs_inX3 5 (by decide) vf_X3_23 rfl dX3_rot_73 ?_
      refine vs_bipush hC dX3_rot_76 (by decide +kernel) ?_
      refine vs_iload_n hC hl 1 dX3_rot_78 rfl rfl ?_
      refine vs_imul hC dX3_rot_79 ?_
      refine vs_iload_n hC hl 2 dX3_rot_80 rfl rfl ?_
      refine vs_iadd hC dX3_rot_81 ?_
      refine vs_iconst hC dX3_rot_82 ?_
      obtain ⟨hi, hw⟩ := hw
      obtain ⟨S4, hS4⟩ : ∃ z : vs_St, z = vs_st S2 5 ((32 * x1) + x2) 1 := ⟨_, rfl⟩
      have hw := hw S4 hS4
      refine vs_zast (Wo' := vs_W3 g a r q S4 ++ wr) hC hW 5 rfl (by decide) hi (by decide) (by rw [hS4]; rfl) dX3_rot_83 (fun H locs hW => ?_)
      refine vs_iload_n hC hl 3 dX3_rot_84 rfl rfl ?_
      exact vs_zret (S4) hC hr hlk hW rfl hw (Nat.le_of_ble_eq_true rfl) (Nat.le_of_ble_eq_true rfl) dX3_rot_85
    · have hw := hwf hc
      clear hwt hwf hc
      refine vs_iconst hC dX3_rot_58 ?_
      exact vs_zret (S2) hC hr hlk hW rfl ⟨Or.inl rfl, hw⟩ (Nat.le_of_ble_eq_true rfl) (Nat.le_of_ble_eq_true rfl) dX3_rot_59
  · have hw := hwf hc
    clear hwt hwf hc
    refine vs_iload_n hC hl 2 dX3_rot_9 rfl rfl ?_
    refine vs_iconst hC dX3_rot_10 ?_
    refine vs_aload_n hC hl 0 dX3_rot_11 rfl rfl ?_
    refine vs_get hC hW 0 rfl rfl vs_inX3 1 (by decide) vf_X3_9 rfl dX3_rot_12 ?_
    refine vs_iload_n hC hl 1 dX3_rot_15 rfl rfl ?_
    obtain ⟨hi, hw⟩ := hw
    refine vs_iald hC hW 1 rfl (by decide) hi dX3_rot_16 ?_
    refine vs_iconst hC dX3_rot_17 ?_
    refine vs_isub hC dX3_rot_18 ?_
    refine vs_callSI [.int (vs_I x2), .int (vs_I 0), .int (vs_I ((S 1 x1) - 1))] hC hW vk_X3_isBetween vm_X3_102 (c_X3_isBetween l g (vs_W3 g a r q S ++ wr) x2 0 ((S 1 x1) - 1) _ hw) rfl hl.1 rfl ⟨rfl, rfl⟩ ⟨Nat.le_of_ble_eq_true rfl, Nat.le_of_ble_eq_true rfl⟩ ⟨Nat.le_of_ble_eq_true rfl, Nat.le_of_ble_eq_true rfl⟩ (Nat.le_of_ble_eq_true rfl) dX3_rot_19 (fun r5 _ H locs hw hW => ?_)
    have hW : vs_Wd g A _ (vs_W3 g a r q S ++ wr) _ _ s := hW
    obtain ⟨hx, hw⟩ := hw
    obtain ⟨hwt, hwf⟩ := hw
    refine vs_if_ne hC 29 hx dX3_rot_22 (by decide) (fun hc => ?_) (fun hc => ?_)
    · have hw := hwt hc
      clear hwt hwf hc
      refine vs_aload_n hC hl 0 dX3_rot_29 rfl rfl ?_
      refine vs_get hC hW 0 rfl rfl vs_inX3 3 (by decide) vf_X3_17 rfl dX3_rot_30 ?_
      refine vs_bipush hC dX3_rot_33 (by decide +kernel) ?_
      refine vs_iload_n hC hl 1 dX3_rot_35 rfl rfl ?_
      refine vs_imul hC dX3_rot_36 ?_
      refine vs_iload_n hC hl 2 dX3_rot_37 rfl rfl ?_
      refine vs_iadd hC dX3_rot_38 ?_
      obtain ⟨hi, hw⟩ := hw
      refine vs_iald hC hW 3 rfl (by decide) hi dX3_rot_39 ?_
      obtain ⟨hx, hw⟩ := hw
      obtain ⟨hwt, hwf⟩ := hw
      refine vs_if_ge hC 47 hx dX3_rot_40 (by decide) (fun hc => ?_) (fun hc => ?_)
      · have hw := hwt hc
        clear hwt hwf hc
        refine vs_iconst hC dX3_rot_47 ?_
        obtain ⟨S6, hS6⟩ : ∃ z : vs_St, z = vs_st S 0 0 0 := ⟨_, rfl⟩
        have hw := hw S6 hS6
        refine vs_put (Wo' := vs_W3 g a r q S6 ++ wr) hC hW 0 rfl rfl vs_inX3 tyX3_ok nmX3 0 (by decide) vf_X3_96 rfl rfl (Nat.le_of_ble_eq_true rfl) (by rw [hS6]; rfl) dX3_rot_48 (fun H locs hW => ?_)
        refine vs_aload_n hC hl 0 dX3_rot_51 rfl rfl ?_
        refine vs_get hC hW 0 rfl rfl vs_inX3 0 (by decide) vf_X3_96 rfl dX3_rot_52 ?_
        obtain ⟨hx, hw⟩ := hw
        obtain ⟨hwt, hwf⟩ := hw
        refine vs_if_le hC 60 hx dX3_rot_55 (by decide) (fun hc => ?_) (fun hc => ?_)
        · have hw := hwt hc
          clear hwt hwf hc
          refine vs_aload_n hC hl 0 dX3_rot_60 rfl rfl ?_
          refine vs_get hC hW 0 rfl rfl vs_inX3 5 (by decide) vf_X3_23 rfl dX3_rot_61 ?_
          refine vs_bipush hC dX3_rot_64 (by decide +kernel) ?_
          refine vs_iload_n hC hl 1 dX3_rot_66 rfl rfl ?_
          refine vs_imul hC dX3_rot_67 ?_
          refine vs_iload_n hC hl 2 dX3_rot_68 rfl rfl ?_
          refine vs_iadd hC dX3_rot_69 ?_
          obtain ⟨hi, hw⟩ := hw
          refine vs_zald hC hW 5 rfl (by decide) hi dX3_rot_70 ?_
          refine vs_name (fun v7 hv7 => ?_)
          have hw := hw v7 hv7
          refine vs_istore_n (L' := [(0, .ref (a 0)), (1, .int (vs_I x1)), (2, .int (vs_I x2)), (3, .int (vs_I v7))]) hC hl [1, 2, 3, 0] dX3_rot_71 rfl (by decide) rfl (fun ls hl => ?_)
          refine vs_aload_n hC hl 0 dX3_rot_72 rfl rfl ?_
          refine vs_get hC hW 0 rfl rfl vs_inX3 5 (by decide) vf_X3_23 rfl dX3_rot_73 ?_
          refine vs_bipush hC dX3_rot_76 (by decide +kernel) ?_
          refine vs_iload_n hC hl 1 dX3_rot_78 rfl rfl ?_
          refine vs_imul hC dX3_rot_79 ?_
          refine vs_iload_n hC hl 2 dX3_rot_80 rfl rfl ?_
          refine vs_iadd hC dX3_rot_81 ?_
          refine vs_iconst hC dX3_rot_82 ?_
          obtain ⟨hi, hw⟩ := hw
          obtain ⟨S8, hS8⟩ : ∃ z : vs_St, z = vs_st S6 5 ((32 * x1) + x2) 1 := ⟨_, rfl⟩
          have hw := hw S8 hS8
          refine vs_zast (Wo' := vs_W3 g a r q S8 ++ wr) hC hW 5 rfl (by decide) hi (by decide) (by rw [hS8]; rfl) dX3_rot_83 (fun H locs hW => ?_)
          refine vs_iload_n hC hl 3 dX3_rot_84 rfl rfl ?_
          exact vs_zret (S8) hC hr hlk hW rfl hw (Nat.le_of_ble_eq_true rfl) (Nat.le_of_ble_eq_true rfl) dX3_rot_85
        · have hw := hwf hc
          clear hwt hwf hc
          refine vs_iconst hC dX3_rot_58 ?_
          exact vs_zret (S6) hC hr hlk hW rfl ⟨Or.inl rfl, hw⟩ (Nat.le_of_ble_eq_true rfl) (Nat.le_of_ble_eq_true rfl) dX3_rot_59
      · have hw := hwf hc
        clear hwt hwf hc
        refine vs_iconst hC dX3_rot_43 ?_
        refine vs_goto hC 48 dX3_rot_44 (by decide) ?_
        obtain ⟨S9, hS9⟩ : ∃ z : vs_St, z = vs_st S 0 0 2 := ⟨_, rfl⟩
        have hw := hw S9 hS9
        refine vs_put (Wo' := vs_W3 g a r q S9 ++ wr) hC hW 0 rfl rfl vs_inX3 tyX3_ok nmX3 0 (by decide) vf_X3_96 rfl rfl (Nat.le_of_ble_eq_true rfl) (by rw [hS9]; rfl) dX3_rot_48 (fun H locs hW => ?_)
        refine vs_aload_n hC hl 0 dX3_rot_51 rfl rfl ?_
        refine vs_get hC hW 0 rfl rfl vs_inX3 0 (by decide) vf_X3_96 rfl dX3_rot_52 ?_
        obtain ⟨hx, hw⟩ := hw
        obtain ⟨hwt, hwf⟩ := hw
        refine vs_if_le hC 60 hx dX3_rot_55 (by decide) (fun hc => ?_) (fun hc => ?_)
        · have hw := hwt hc
          clear hwt hwf hc
          refine vs_aload_n hC hl 0 dX3_rot_60 rfl rfl ?_
          refine vs_get hC hW 0 rfl rfl vs_inX3 5 (by decide) vf_X3_23 rfl dX3_rot_61 ?_
          refine vs_bipush hC dX3_rot_64 (by decide +kernel) ?_
          refine vs_iload_n hC hl 1 dX3_rot_66 rfl rfl ?_
          refine vs_imul hC dX3_rot_67 ?_
          refine vs_iload_n hC hl 2 dX3_rot_68 rfl rfl ?_
          refine vs_iadd hC dX3_rot_69 ?_
          obtain ⟨hi, hw⟩ := hw
          refine vs_zald hC hW 5 rfl (by decide) hi dX3_rot_70 ?_
          refine vs_name (fun v10 hv10 => ?_)
          have hw := hw v10 hv10
          refine vs_istore_n (L' := [(0, .ref (a 0)), (1, .int (vs_I x1)), (2, .int (vs_I x2)), (3, .int (vs_I v10))]) hC hl [1, 2, 3, 0] dX3_rot_71 rfl (by decide) rfl (fun ls hl => ?_)
          refine vs_aload_n hC hl 0 dX3_rot_72 rfl rfl ?_
          refine vs_get hC hW 0 rfl rfl vs_inX3 5 (by decide) vf_X3_23 rfl dX3_rot_73 ?_
          refine vs_bipush hC dX3_rot_76 (by decide +kernel) ?_
          refine vs_iload_n hC hl 1 dX3_rot_78 rfl rfl ?_
          refine vs_imul hC dX3_rot_79 ?_
          refine vs_iload_n hC hl 2 dX3_rot_80 rfl rfl ?_
          refine vs_iadd hC dX3_rot_81 ?_
          refine vs_iconst hC dX3_rot_82 ?_
          obtain ⟨hi, hw⟩ := hw
          obtain ⟨S11, hS11⟩ : ∃ z : vs_St, z = vs_st S9 5 ((32 * x1) + x2) 1 := ⟨_, rfl⟩
          have hw := hw S11 hS11
          refine vs_zast (Wo' := vs_W3 g a r q S11 ++ wr) hC hW 5 rfl (by decide) hi (by decide) (by rw [hS11]; rfl) dX3_rot_83 (fun H locs hW => ?_)
          refine vs_iload_n hC hl 3 dX3_rot_84 rfl rfl ?_
          exact vs_zret (S11) hC hr hlk hW rfl hw (Nat.le_of_ble_eq_true rfl) (Nat.le_of_ble_eq_true rfl) dX3_rot_85
        · have hw := hwf hc
          clear hwt hwf hc
          refine vs_iconst hC dX3_rot_58 ?_
          exact vs_zret (S9) hC hr hlk hW rfl ⟨Or.inl rfl, hw⟩ (Nat.le_of_ble_eq_true rfl) (Nat.le_of_ble_eq_true rfl) dX3_rot_59
    · have hw := hwf hc
      clear hwt hwf hc
      refine vs_iconst hC dX3_rot_25 ?_
      refine vs_goto hC 48 dX3_rot_26 (by decide) ?_
      obtain ⟨S12, hS12⟩ : ∃ z : vs_St, z = vs_st S 0 0 1 := ⟨_, rfl⟩
      have hw := hw S12 hS12
      refine vs_put (Wo' := vs_W3 g a r q S12 ++ wr) hC hW 0 rfl rfl vs_inX3 tyX3_ok nmX3 0 (by decide) vf_X3_96 rfl rfl (Nat.le_of_ble_eq_true rfl) (by rw [hS12]; rfl) dX3_rot_48 (fun H locs hW => ?_)
      refine vs_aload_n hC hl 0 dX3_rot_51 rfl rfl ?_
      refine vs_get hC hW 0 rfl rfl vs_inX3 0 (by decide) vf_X3_96 rfl dX3_rot_52 ?_
      obtain ⟨hx, hw⟩ := hw
      obtain ⟨hwt, hwf⟩ := hw
      refine vs_if_le hC 60 hx dX3_rot_55 (by decide) (fun hc => ?_) (fun hc => ?_)
      · have hw := hwt hc
        clear hwt hwf hc
        refine vs_aload_n hC hl 0 dX3_rot_60 rfl rfl ?_
        refine vs_get hC hW 0 rfl rfl vs_inX3 5 (by decide) vf_X3_23 rfl dX3_rot_61 ?_
        refine vs_bipush hC dX3_rot_64 (by decide +kernel) ?_
        refine vs_iload_n hC hl 1 dX3_rot_66 rfl rfl ?_
        refine vs_imul hC dX3_rot_67 ?_
        refine vs_iload_n hC hl 2 dX3_rot_68 rfl rfl ?_
        refine vs_iadd hC dX3_rot_69 ?_
        obtain ⟨hi, hw⟩ := hw
        refine vs_zald hC hW 5 rfl (by decide) hi dX3_rot_70 ?_
        refine vs_name (fun v13 hv13 => ?_)
        have hw := hw v13 hv13
        refine vs_istore_n (L' := [(0, .ref (a 0)), (1, .int (vs_I x1)), (2, .int (vs_I x2)), (3, .int (vs_I v13))]) hC hl [1, 2, 3, 0] dX3_rot_71 rfl (by decide) rfl (fun ls hl => ?_)
        refine vs_aload_n hC hl 0 dX3_rot_72 rfl rfl ?_
        refine vs_get hC hW 0 rfl rfl vs_inX3 5 (by decide) vf_X3_23 rfl dX3_rot_73 ?_
        refine vs_bipush hC dX3_rot_76 (by decide +kernel) ?_
        refine vs_iload_n hC hl 1 dX3_rot_78 rfl rfl ?_
        refine vs_imul hC dX3_rot_79 ?_
        refine vs_iload_n hC hl 2 dX3_rot_80 rfl rfl ?_
        refine vs_iadd hC dX3_rot_81 ?_
        refine vs_iconst hC dX3_rot_82 ?_
        obtain ⟨hi, hw⟩ := hw
        obtain ⟨S14, hS14⟩ : ∃ z : vs_St, z = vs_st S12 5 ((32 * x1) + x2) 1 := ⟨_, rfl⟩
        have hw := hw S14 hS14
        refine vs_zast (Wo' := vs_W3 g a r q S14 ++ wr) hC hW 5 rfl (by decide) hi (by decide) (by rw [hS14]; rfl) dX3_rot_83 (fun H locs hW => ?_)
        refine vs_iload_n hC hl 3 dX3_rot_84 rfl rfl ?_
        exact vs_zret (S14) hC hr hlk hW rfl hw (Nat.le_of_ble_eq_true rfl) (Nat.le_of_ble_eq_true rfl) dX3_rot_85
      · have hw := hwf hc
        clear hwt hwf hc
        refine vs_iconst hC dX3_rot_58 ?_
        exact vs_zret (S12) hC hr hlk hW rfl ⟨Or.inl rfl, hw⟩ (Nat.le_of_ble_eq_true rfl) (Nat.le_of_ble_eq_true rfl) dX3_rot_59
set_option maxHeartbeats 4000000 in
set_option maxRecDepth 100000 in
theorem c_X3_scrub (l : Launch) (g : vs_G) (a r q : Nat → Nat) (wr : va_W) (S : vs_St) (x1 : Int) (post : Int → vs_St → Prop) (hw : wX3_scrub S x1 post) : vs_MI l yX3_scrub (Cond.code yX3_scrub cX3_scrub 4 (some .int) :: vs_ws) { frames := 3, cells := 0, slots := 0, locals := 64 } g [.ref (a 0), .int (vs_I x1)] (vs_W3 g a r q S ++ wr) (fun (S' : vs_St) => vs_W3 g a r q S' ++ wr) post 0 0 := by
  refine vs_ofW (Qc := fun A => vs_QI g A (fun (S' : vs_St) => vs_W3 g a r q S' ++ wr) post) (by decide +kernel) (Nat.le_of_ble_eq_true rfl) (fun p e s m below meth c A ls hC hr hlk hW hl => ?_)
  have hC : CallFix p m c cX3_scrub 4 s _ vs_ws RX3 := hC
  have hl : lv_has ls 4 [(0, .ref (a 0)), (1, .int (vs_I x1))] := hl
  unfold wX3_scrub at hw
  refine vs_aload_n hC hl 0 dX3_scrub_0 rfl rfl ?_
  refine vs_iload_n hC hl 1 dX3_scrub_1 rfl rfl ?_
  refine vs_callVI [.int (vs_I x1)] hC hW 0 rfl rfl vk_X3_isNoDisk vm_X3_130 (c_X3_isNoDisk l g a r q (wr) S x1 _ hw) rfl hl.1 rfl ⟨rfl, rfl⟩ ⟨Nat.le_of_ble_eq_true rfl, Nat.le_of_ble_eq_true rfl⟩ ⟨Nat.le_of_ble_eq_true rfl, Nat.le_of_ble_eq_true rfl⟩ (Nat.le_of_ble_eq_true rfl) dX3_scrub_2 (fun r1 S2 H locs hw hW => ?_)
  have hW : vs_Wd g A _ (vs_W3 g a r q S2 ++ wr) _ _ s := hW
  obtain ⟨hx, hw⟩ := hw
  obtain ⟨hwt, hwf⟩ := hw
  refine vs_if_eq hC 10 hx dX3_scrub_5 (by decide) (fun hc => ?_) (fun hc => ?_)
  · have hw := hwt hc
    clear hwt hwf hc
    refine vs_aload_n hC hl 0 dX3_scrub_10 rfl rfl ?_
    refine vs_get hC hW 0 rfl rfl vs_inX3 2 (by decide) vf_X3_13 rfl dX3_scrub_11 ?_
    refine vs_iload_n hC hl 1 dX3_scrub_14 rfl rfl ?_
    obtain ⟨hi, hw⟩ := hw
    refine vs_cald hC hW 2 rfl (by decide) hi dX3_scrub_15 ?_
    refine vs_bipush hC dX3_scrub_16 (by decide +kernel) ?_
    obtain ⟨hx, hw⟩ := hw
    obtain ⟨hwt, hwf⟩ := hw
    refine vs_icmp_ne hC 27 hx ⟨by decide, by decide⟩ dX3_scrub_18 (by decide) (fun hc => ?_) (fun hc => ?_)
    · have hw := hwt hc
      clear hwt hwf hc
      refine vs_iconst hC dX3_scrub_27 ?_
      refine vs_istore_n (L' := [(0, .ref (a 0)), (1, .int (vs_I x1)), (2, .int (vs_I 0))]) hC hl [1, 2, 0] dX3_scrub_28 rfl (by decide) rfl (fun ls hl => ?_)
      refine vs_bipush hC dX3_scrub_29 (by decide +kernel) ?_
      refine vs_iload_n hC hl 1 dX3_scrub_31 rfl rfl ?_
      refine vs_imul hC dX3_scrub_32 ?_
      refine vs_name (fun v3 hv3 => ?_)
      have hw := hw v3 hv3
      refine vs_istore_n (L' := [(0, .ref (a 0)), (1, .int (vs_I x1)), (2, .int (vs_I 0)), (3, .int (vs_I v3))]) hC hl [1, 2, 3, 0] dX3_scrub_33 rfl (by decide) rfl (fun ls hl => ?_)
      obtain ⟨J4, μ4, hJ, hB4⟩ := hw
      refine vs_loop (V := Int × Int × vs_St) (J := fun v => J4 v.1 v.2.1 v.2.2) (μ := fun v => μ4 v.1 v.2.1 v.2.2) (fun v => vs_W3 g a r q v.2.2 ++ wr) (fun v => [(0, .ref (a 0)), (1, .int (vs_I x1)), (2, .int (vs_I v.1)), (3, .int (vs_I v.2.1))]) (fun v hJ ih4 H locs ls hW hl => ?_) (0, v3, S2) hJ hW (lv_sub hl [0, 1, 2, 3] rfl)
      obtain ⟨v5, v6, S7⟩ := v
      have hw := hB4 v5 v6 S7 hJ
      have hW : vs_Wd g A _ (vs_W3 g a r q S7 ++ wr) _ _ s := hW
      have hl : lv_has ls 4 [(0, .ref (a 0)), (1, .int (vs_I x1)), (2, .int (vs_I v5)), (3, .int (vs_I v6))] := hl
      clear hJ
      unfold lX3_scrub_34 at hw
      refine vs_iload_n hC hl 3 dX3_scrub_34 rfl rfl ?_
      refine vs_bipush hC dX3_scrub_35 (by decide +kernel) ?_
      refine vs_iload_n hC hl 1 dX3_scrub_37 rfl rfl ?_
      refine vs_imul hC dX3_scrub_38 ?_
      refine vs_aload_n hC hl 0 dX3_scrub_39 rfl rfl ?_
      refine vs_get hC hW 0 rfl rfl vs_inX3 1 (by decide) vf_X3_9 rfl dX3_scrub_40 ?_
      refine vs_iload_n hC hl 1 dX3_scrub_43 rfl rfl ?_
      obtain ⟨hi, hw⟩ := hw
      refine vs_iald hC hW 1 rfl (by decide) hi dX3_scrub_44 ?_
      refine vs_iadd hC dX3_scrub_45 ?_
      obtain ⟨hx, hw⟩ := hw
      obtain ⟨hy, hw⟩ := hw
      obtain ⟨hwt, hwf⟩ := hw
      refine vs_icmp_ge hC 99 hx hy dX3_scrub_46 (by decide) (fun hc => ?_) (fun hc => ?_)
      · have hw := hwt hc
        clear hwt hwf hc
        refine vs_iload_n hC hl 2 dX3_scrub_99 rfl rfl ?_
        exact vs_iret (S7) hC hr hlk hW rfl hw (Nat.le_of_ble_eq_true rfl) (Nat.le_of_ble_eq_true rfl) dX3_scrub_100
      · have hw := hwf hc
        clear hwt hwf hc
        refine vs_aload_n hC hl 0 dX3_scrub_49 rfl rfl ?_
        refine vs_get hC hW 0 rfl rfl vs_inX3 3 (by decide) vf_X3_17 rfl dX3_scrub_50 ?_
        refine vs_iload_n hC hl 3 dX3_scrub_53 rfl rfl ?_
        obtain ⟨hi, hw⟩ := hw
        refine vs_iald hC hW 3 rfl (by decide) hi dX3_scrub_54 ?_
        obtain ⟨hx, hw⟩ := hw
        obtain ⟨hwt, hwf⟩ := hw
        refine vs_if_lt hC 93 hx dX3_scrub_55 (by decide) (fun hc => ?_) (fun hc => ?_)
        · have hw := hwt hc
          clear hwt hwf hc
          refine vs_iinc (L' := [(0, .ref (a 0)), (1, .int (vs_I x1)), (2, .int (vs_I v5)), (3, .int (vs_I (v6 + 1)))]) hC hl 3 [1, 2, 3, 0] dX3_scrub_93 rfl (by decide) rfl (fun ls hl => ?_)
          refine vs_goto hC 34 dX3_scrub_96 (by decide) ?_
          exact ih4 (v5, v6 + 1, S7) hw _ _ _ hW (lv_sub hl [0, 1, 2, 3] rfl)
        · have hw := hwf hc
          clear hwt hwf hc
          refine vs_aload_n hC hl 0 dX3_scrub_58 rfl rfl ?_
          refine vs_get hC hW 0 rfl rfl vs_inX3 5 (by decide) vf_X3_23 rfl dX3_scrub_59 ?_
          refine vs_iload_n hC hl 3 dX3_scrub_62 rfl rfl ?_
          obtain ⟨hi, hw⟩ := hw
          refine vs_zald hC hW 5 rfl (by decide) hi dX3_scrub_63 ?_
          obtain ⟨hx, hw⟩ := hw
          obtain ⟨hwt, hwf⟩ := hw
          refine vs_if_eq hC 93 hx dX3_scrub_64 (by decide) (fun hc => ?_) (fun hc => ?_)
          · have hw := hwt hc
            clear hwt hwf hc
            refine vs_iinc (L' := [(0, .ref (a 0)), (1, .int (vs_I x1)), (2, .int (vs_I v5)), (3, .int (vs_I (v6 + 1)))]) hC hl 3 [1, 2, 3, 0] dX3_scrub_93 rfl (by decide) rfl (fun ls hl => ?_)
            refine vs_goto hC 34 dX3_scrub_96 (by decide) ?_
            exact ih4 (v5, v6 + 1, S7) hw _ _ _ hW (lv_sub hl [0, 1, 2, 3] rfl)
          · have hw := hwf hc
            clear hwt hwf hc
            refine vs_aload_n hC hl 0 dX3_scrub_67 rfl rfl ?_
            refine vs_aload_n hC hl 0 dX3_scrub_68 rfl rfl ?_
            refine vs_get hC hW 0 rfl rfl vs_inX3 3 (by decide) vf_X3_17 rfl dX3_scrub_69 ?_
            refine vs_iload_n hC hl 3 dX3_scrub_72 rfl rfl ?_
            obtain ⟨hi, hw⟩ := hw
            refine vs_iald hC hW 3 rfl (by decide) hi dX3_scrub_73 ?_
            refine vs_callVI [.int (vs_I (S7 3 v6))] hC hW 0 rfl rfl vk_X3_lost vm_X3_174 (c_X3_lost l g a r q (wr) S7 (S7 3 v6) _ hw) rfl hl.1 rfl ⟨rfl, rfl⟩ ⟨Nat.le_of_ble_eq_true rfl, Nat.le_of_ble_eq_true rfl⟩ ⟨Nat.le_of_ble_eq_true rfl, Nat.le_of_ble_eq_true rfl⟩ (Nat.le_of_ble_eq_true rfl) dX3_scrub_74 (fun r8 _ H locs hw hW => ?_)
            have hW : vs_Wd g A _ (vs_W3 g a r q S7 ++ wr) _ _ s := hW
            obtain ⟨hx, hw⟩ := hw
            obtain ⟨hwt, hwf⟩ := hw
            refine vs_if_eq hC 83 hx dX3_scrub_77 (by decide) (fun hc => ?_) (fun hc => ?_)
            · have hw := hwt hc
              clear hwt hwf hc
              refine vs_aload_n hC hl 0 dX3_scrub_83 rfl rfl ?_
              refine vs_get hC hW 0 rfl rfl vs_inX3 5 (by decide) vf_X3_23 rfl dX3_scrub_84 ?_
              refine vs_iload_n hC hl 3 dX3_scrub_87 rfl rfl ?_
              refine vs_iconst hC dX3_scrub_88 ?_
              obtain ⟨hi, hw⟩ := hw
              obtain ⟨S9, hS9⟩ : ∃ z : vs_St, z = vs_st S7 5 v6 0 := ⟨_, rfl⟩
              have hw := hw S9 hS9
              refine vs_zast (Wo' := vs_W3 g a r q S9 ++ wr) hC hW 5 rfl (by decide) hi (by decide) (by rw [hS9]; rfl) dX3_scrub_89 (fun H locs hW => ?_)
              refine vs_iinc (L' := [(0, .ref (a 0)), (1, .int (vs_I x1)), (2, .int (vs_I (v5 + 1))), (3, .int (vs_I v6))]) hC hl 2 [1, 2, 0, 3] dX3_scrub_90 rfl (by decide) rfl (fun ls hl => ?_)
              refine vs_iinc (L' := [(0, .ref (a 0)), (1, .int (vs_I x1)), (2, .int (vs_I (v5 + 1))), (3, .int (vs_I (v6 + 1)))]) hC hl 3 [1, 2, 3, 0] dX3_scrub_93 rfl (by decide) rfl (fun ls hl => ?_)
              refine vs_goto hC 34 dX3_scrub_96 (by decide) ?_
              exact ih4 (v5 + 1, v6 + 1, S9) hw _ _ _ hW (lv_sub hl [0, 1, 2, 3] rfl)
            · have hw := hwf hc
              clear hwt hwf hc
              refine vs_goto hC 93 dX3_scrub_80 (by decide) ?_
              refine vs_iinc (L' := [(0, .ref (a 0)), (1, .int (vs_I x1)), (2, .int (vs_I v5)), (3, .int (vs_I (v6 + 1)))]) hC hl 3 [1, 2, 3, 0] dX3_scrub_93 rfl (by decide) rfl (fun ls hl => ?_)
              refine vs_goto hC 34 dX3_scrub_96 (by decide) ?_
              exact ih4 (v5, v6 + 1, S7) hw _ _ _ hW (lv_sub hl [0, 1, 2, 3] rfl)
    · have hw := hwf hc
      clear hwt hwf hc
      refine vs_aload_n hC hl 0 dX3_scrub_21 rfl rfl ?_
      refine vs_iconst hC dX3_scrub_22 ?_
      refine vs_callVI [.int (vs_I 2)] hC hW 0 rfl rfl vk_X3_fails vm_X3_123 (c_X3_fails l g a r q (wr) S2 2 _ hw) rfl hl.1 rfl ⟨rfl, rfl⟩ ⟨Nat.le_of_ble_eq_true rfl, Nat.le_of_ble_eq_true rfl⟩ ⟨Nat.le_of_ble_eq_true rfl, Nat.le_of_ble_eq_true rfl⟩ (Nat.le_of_ble_eq_true rfl) dX3_scrub_23 (fun r10 S11 H locs hw hW => ?_)
      have hW : vs_Wd g A _ (vs_W3 g a r q S11 ++ wr) _ _ s := hW
      exact vs_iret (S11) hC hr hlk hW rfl hw (Nat.le_of_ble_eq_true rfl) (Nat.le_of_ble_eq_true rfl) dX3_scrub_26
  · have hw := hwf hc
    clear hwt hwf hc
    refine vs_iconst hC dX3_scrub_8 ?_
    exact vs_iret (S2) hC hr hlk hW rfl hw (Nat.le_of_ble_eq_true rfl) (Nat.le_of_ble_eq_true rfl) dX3_scrub_9
set_option maxHeartbeats 4000000 in
set_option maxRecDepth 100000 in
theorem c_X3_rottenOn (l : Launch) (g : vs_G) (a r q : Nat → Nat) (wr : va_W) (S : vs_St) (x1 : Int) (post : Int → vs_St → Prop) (hw : wX3_rottenOn S x1 post) : vs_MI l yX3_rottenOn (Cond.code yX3_rottenOn cX3_rottenOn 4 (some .int) :: vs_ws) { frames := 3, cells := 0, slots := 0, locals := 64 } g [.ref (a 0), .int (vs_I x1)] (vs_W3 g a r q S ++ wr) (fun (S' : vs_St) => vs_W3 g a r q S' ++ wr) post 0 0 := by
  refine vs_ofW (Qc := fun A => vs_QI g A (fun (S' : vs_St) => vs_W3 g a r q S' ++ wr) post) (by decide +kernel) (Nat.le_of_ble_eq_true rfl) (fun p e s m below meth c A ls hC hr hlk hW hl => ?_)
  have hC : CallFix p m c cX3_rottenOn 4 s _ vs_ws RX3 := hC
  have hl : lv_has ls 4 [(0, .ref (a 0)), (1, .int (vs_I x1))] := hl
  unfold wX3_rottenOn at hw
  refine vs_aload_n hC hl 0 dX3_rottenOn_0 rfl rfl ?_
  refine vs_iload_n hC hl 1 dX3_rottenOn_1 rfl rfl ?_
  refine vs_callVI [.int (vs_I x1)] hC hW 0 rfl rfl vk_X3_isNoDisk vm_X3_130 (c_X3_isNoDisk l g a r q (wr) S x1 _ hw) rfl hl.1 rfl ⟨rfl, rfl⟩ ⟨Nat.le_of_ble_eq_true rfl, Nat.le_of_ble_eq_true rfl⟩ ⟨Nat.le_of_ble_eq_true rfl, Nat.le_of_ble_eq_true rfl⟩ (Nat.le_of_ble_eq_true rfl) dX3_rottenOn_2 (fun r1 S2 H locs hw hW => ?_)
  have hW : vs_Wd g A _ (vs_W3 g a r q S2 ++ wr) _ _ s := hW
  obtain ⟨hx, hw⟩ := hw
  obtain ⟨hwt, hwf⟩ := hw
  refine vs_if_eq hC 10 hx dX3_rottenOn_5 (by decide) (fun hc => ?_) (fun hc => ?_)
  · have hw := hwt hc
    clear hwt hwf hc
    refine vs_iconst hC dX3_rottenOn_10 ?_
    refine vs_istore_n (L' := [(0, .ref (a 0)), (1, .int (vs_I x1)), (2, .int (vs_I 0))]) hC hl [1, 2, 0] dX3_rottenOn_11 rfl (by decide) rfl (fun ls hl => ?_)
    refine vs_bipush hC dX3_rottenOn_12 (by decide +kernel) ?_
    refine vs_iload_n hC hl 1 dX3_rottenOn_14 rfl rfl ?_
    refine vs_imul hC dX3_rottenOn_15 ?_
    refine vs_name (fun v3 hv3 => ?_)
    have hw := hw v3 hv3
    refine vs_istore_n (L' := [(0, .ref (a 0)), (1, .int (vs_I x1)), (2, .int (vs_I 0)), (3, .int (vs_I v3))]) hC hl [1, 2, 3, 0] dX3_rottenOn_16 rfl (by decide) rfl (fun ls hl => ?_)
    obtain ⟨J4, μ4, hJ, hB4⟩ := hw
    refine vs_loop (V := Int × Int) (J := fun v => J4 v.1 v.2) (μ := fun v => μ4 v.1 v.2) (fun v => vs_W3 g a r q S2 ++ wr) (fun v => [(0, .ref (a 0)), (1, .int (vs_I x1)), (2, .int (vs_I v.1)), (3, .int (vs_I v.2))]) (fun v hJ ih4 H locs ls hW hl => ?_) (0, v3) hJ hW (lv_sub hl [0, 1, 2, 3] rfl)
    obtain ⟨v5, v6⟩ := v
    have hw := hB4 v5 v6 hJ
    have hW : vs_Wd g A _ (vs_W3 g a r q S2 ++ wr) _ _ s := hW
    have hl : lv_has ls 4 [(0, .ref (a 0)), (1, .int (vs_I x1)), (2, .int (vs_I v5)), (3, .int (vs_I v6))] := hl
    clear hJ
    unfold lX3_rottenOn_17 at hw
    refine vs_iload_n hC hl 3 dX3_rottenOn_17 rfl rfl ?_
    refine vs_bipush hC dX3_rottenOn_18 (by decide +kernel) ?_
    refine vs_iload_n hC hl 1 dX3_rottenOn_20 rfl rfl ?_
    refine vs_imul hC dX3_rottenOn_21 ?_
    refine vs_aload_n hC hl 0 dX3_rottenOn_22 rfl rfl ?_
    refine vs_get hC hW 0 rfl rfl vs_inX3 1 (by decide) vf_X3_9 rfl dX3_rottenOn_23 ?_
    refine vs_iload_n hC hl 1 dX3_rottenOn_26 rfl rfl ?_
    obtain ⟨hi, hw⟩ := hw
    refine vs_iald hC hW 1 rfl (by decide) hi dX3_rottenOn_27 ?_
    refine vs_iadd hC dX3_rottenOn_28 ?_
    obtain ⟨hx, hw⟩ := hw
    obtain ⟨hy, hw⟩ := hw
    obtain ⟨hwt, hwf⟩ := hw
    refine vs_icmp_ge hC 64 hx hy dX3_rottenOn_29 (by decide) (fun hc => ?_) (fun hc => ?_)
    · have hw := hwt hc
      clear hwt hwf hc
      refine vs_iload_n hC hl 2 dX3_rottenOn_64 rfl rfl ?_
      exact vs_iret (S2) hC hr hlk hW rfl hw (Nat.le_of_ble_eq_true rfl) (Nat.le_of_ble_eq_true rfl) dX3_rottenOn_65
    · have hw := hwf hc
      clear hwt hwf hc
      refine vs_iload_n hC hl 2 dX3_rottenOn_32 rfl rfl ?_
      refine vs_aload_n hC hl 0 dX3_rottenOn_33 rfl rfl ?_
      refine vs_get hC hW 0 rfl rfl vs_inX3 3 (by decide) vf_X3_17 rfl dX3_rottenOn_34 ?_
      refine vs_iload_n hC hl 3 dX3_rottenOn_37 rfl rfl ?_
      obtain ⟨hi, hw⟩ := hw
      refine vs_iald hC hW 3 rfl (by decide) hi dX3_rottenOn_38 ?_
      obtain ⟨hx, hw⟩ := hw
      obtain ⟨hwt, hwf⟩ := hw
      refine vs_if_lt hC 55 hx dX3_rottenOn_39 (by decide) (fun hc => ?_) (fun hc => ?_)
      · have hw := hwt hc
        clear hwt hwf hc
        refine vs_iconst hC dX3_rottenOn_55 ?_
        refine vs_iadd hC dX3_rottenOn_56 ?_
        refine vs_name (fun v7 hv7 => ?_)
        have hw := hw v7 hv7
        refine vs_istore_n (L' := [(0, .ref (a 0)), (1, .int (vs_I x1)), (2, .int (vs_I v7)), (3, .int (vs_I v6))]) hC hl [1, 2, 0, 3] dX3_rottenOn_57 rfl (by decide) rfl (fun ls hl => ?_)
        refine vs_iinc (L' := [(0, .ref (a 0)), (1, .int (vs_I x1)), (2, .int (vs_I v7)), (3, .int (vs_I (v6 + 1)))]) hC hl 3 [1, 2, 3, 0] dX3_rottenOn_58 rfl (by decide) rfl (fun ls hl => ?_)
        refine vs_goto hC 17 dX3_rottenOn_61 (by decide) ?_
        exact ih4 (v7, v6 + 1) hw _ _ _ hW (lv_sub hl [0, 1, 2, 3] rfl)
      · have hw := hwf hc
        clear hwt hwf hc
        refine vs_aload_n hC hl 0 dX3_rottenOn_42 rfl rfl ?_
        refine vs_get hC hW 0 rfl rfl vs_inX3 5 (by decide) vf_X3_23 rfl dX3_rottenOn_43 ?_
        refine vs_iload_n hC hl 3 dX3_rottenOn_46 rfl rfl ?_
        obtain ⟨hi, hw⟩ := hw
        refine vs_zald hC hW 5 rfl (by decide) hi dX3_rottenOn_47 ?_
        obtain ⟨hx, hw⟩ := hw
        obtain ⟨hwt, hwf⟩ := hw
        refine vs_if_eq hC 55 hx dX3_rottenOn_48 (by decide) (fun hc => ?_) (fun hc => ?_)
        · have hw := hwt hc
          clear hwt hwf hc
          refine vs_iconst hC dX3_rottenOn_55 ?_
          refine vs_iadd hC dX3_rottenOn_56 ?_
          refine vs_name (fun v8 hv8 => ?_)
          have hw := hw v8 hv8
          refine vs_istore_n (L' := [(0, .ref (a 0)), (1, .int (vs_I x1)), (2, .int (vs_I v8)), (3, .int (vs_I v6))]) hC hl [1, 2, 0, 3] dX3_rottenOn_57 rfl (by decide) rfl (fun ls hl => ?_)
          refine vs_iinc (L' := [(0, .ref (a 0)), (1, .int (vs_I x1)), (2, .int (vs_I v8)), (3, .int (vs_I (v6 + 1)))]) hC hl 3 [1, 2, 3, 0] dX3_rottenOn_58 rfl (by decide) rfl (fun ls hl => ?_)
          refine vs_goto hC 17 dX3_rottenOn_61 (by decide) ?_
          exact ih4 (v8, v6 + 1) hw _ _ _ hW (lv_sub hl [0, 1, 2, 3] rfl)
        · have hw := hwf hc
          clear hwt hwf hc
          refine vs_iconst hC dX3_rottenOn_51 ?_
          refine vs_goto hC 56 dX3_rottenOn_52 (by decide) ?_
          refine vs_iadd hC dX3_rottenOn_56 ?_
          refine vs_name (fun v9 hv9 => ?_)
          have hw := hw v9 hv9
          refine vs_istore_n (L' := [(0, .ref (a 0)), (1, .int (vs_I x1)), (2, .int (vs_I v9)), (3, .int (vs_I v6))]) hC hl [1, 2, 0, 3] dX3_rottenOn_57 rfl (by decide) rfl (fun ls hl => ?_)
          refine vs_iinc (L' := [(0, .ref (a 0)), (1, .int (vs_I x1)), (2, .int (vs_I v9)), (3, .int (vs_I (v6 + 1)))]) hC hl 3 [1, 2, 3, 0] dX3_rottenOn_58 rfl (by decide) rfl (fun ls hl => ?_)
          refine vs_goto hC 17 dX3_rottenOn_61 (by decide) ?_
          exact ih4 (v9, v6 + 1) hw _ _ _ hW (lv_sub hl [0, 1, 2, 3] rfl)
  · have hw := hwf hc
    clear hwt hwf hc
    refine vs_iconst hC dX3_rottenOn_8 ?_
    exact vs_iret (S2) hC hr hlk hW rfl hw (Nat.le_of_ble_eq_true rfl) (Nat.le_of_ble_eq_true rfl) dX3_rottenOn_9
set_option maxHeartbeats 4000000 in
set_option maxRecDepth 100000 in
theorem c_X3_rebuilt (l : Launch) (g : vs_G) (a r q : Nat → Nat) (wr : va_W) (S : vs_St) (post : Int → vs_St → Prop) (hw : wX3_rebuilt S post) : vs_MI l yX3_rebuilt (Cond.code yX3_rebuilt cX3_rebuilt 1 (some .int) :: vs_ws) { frames := 0, cells := 0, slots := 0, locals := 0 } g [.ref (a 0)] (vs_W3 g a r q S ++ wr) (fun (S' : vs_St) => vs_W3 g a r q S' ++ wr) post 0 0 := by
  refine vs_ofW (Qc := fun A => vs_QI g A (fun (S' : vs_St) => vs_W3 g a r q S' ++ wr) post) (by decide +kernel) (Nat.le_of_ble_eq_true rfl) (fun p e s m below meth c A ls hC hr hlk hW hl => ?_)
  have hC : CallFix p m c cX3_rebuilt 1 s _ vs_ws RX3 := hC
  have hl : lv_has ls 1 [(0, .ref (a 0))] := hl
  unfold wX3_rebuilt at hw
  refine vs_aload_n hC hl 0 dX3_rebuilt_0 rfl rfl ?_
  refine vs_iconst hC dX3_rebuilt_1 ?_
  obtain ⟨S1, hS1⟩ : ∃ z : vs_St, z = vs_st S 0 0 0 := ⟨_, rfl⟩
  have hw := hw S1 hS1
  refine vs_put (Wo' := vs_W3 g a r q S1 ++ wr) hC hW 0 rfl rfl vs_inX3 tyX3_ok nmX3 0 (by decide) vf_X3_96 rfl rfl (Nat.le_of_ble_eq_true rfl) (by rw [hS1]; rfl) dX3_rebuilt_2 (fun H locs hW => ?_)
  refine vs_aload_n hC hl 0 dX3_rebuilt_5 rfl rfl ?_
  refine vs_get hC hW 0 rfl rfl vs_inX3 31 (by decide) vf_X3_200 rfl dX3_rebuilt_6 ?_
  exact vs_iret (S1) hC hr hlk hW rfl hw (Nat.le_of_ble_eq_true rfl) (Nat.le_of_ble_eq_true rfl) dX3_rebuilt_9
set_option maxHeartbeats 4000000 in
set_option maxRecDepth 100000 in
theorem c_X3_openRebuilds (l : Launch) (g : vs_G) (a r q : Nat → Nat) (wr : va_W) (S : vs_St) (post : Int → vs_St → Prop) (hw : wX3_openRebuilds S post) : vs_MI l yX3_openRebuilds (Cond.code yX3_openRebuilds cX3_openRebuilds 2 (some .int) :: vs_ws) { frames := 4, cells := 0, slots := 0, locals := 96 } g [.ref (a 0)] (vs_W3 g a r q S ++ wr) (fun (S' : vs_St) => vs_W3 g a r q S' ++ wr) post 0 0 := by
  refine vs_ofW (Qc := fun A => vs_QI g A (fun (S' : vs_St) => vs_W3 g a r q S' ++ wr) post) (by decide +kernel) (Nat.le_of_ble_eq_true rfl) (fun p e s m below meth c A ls hC hr hlk hW hl => ?_)
  have hC : CallFix p m c cX3_openRebuilds 2 s _ vs_ws RX3 := hC
  have hl : lv_has ls 2 [(0, .ref (a 0))] := hl
  unfold wX3_openRebuilds at hw
  refine vs_aload_n hC hl 0 dX3_openRebuilds_0 rfl rfl ?_
  refine vs_iconst hC dX3_openRebuilds_1 ?_
  obtain ⟨S1, hS1⟩ : ∃ z : vs_St, z = vs_st S 0 0 0 := ⟨_, rfl⟩
  have hw := hw S1 hS1
  refine vs_put (Wo' := vs_W3 g a r q S1 ++ wr) hC hW 0 rfl rfl vs_inX3 tyX3_ok nmX3 0 (by decide) vf_X3_96 rfl rfl (Nat.le_of_ble_eq_true rfl) (by rw [hS1]; rfl) dX3_openRebuilds_2 (fun H locs hW => ?_)
  refine vs_aload_n hC hl 0 dX3_openRebuilds_5 rfl rfl ?_
  refine vs_callVV [] hC hW 0 rfl rfl vk_X3_keepsAll vm_X3_155 (c_X3_keepsAll l g a r q (wr) S1  _ hw) rfl hl.1 rfl ⟨rfl, rfl⟩ ⟨Nat.le_of_ble_eq_true rfl, Nat.le_of_ble_eq_true rfl⟩ ⟨Nat.le_of_ble_eq_true rfl, Nat.le_of_ble_eq_true rfl⟩ (Nat.le_of_ble_eq_true rfl) dX3_openRebuilds_6 (fun S2 H locs hw hW => ?_)
  have hW : vs_Wd g A _ (vs_W3 g a r q S2 ++ wr) _ _ s := hW
  refine vs_aload_n hC hl 0 dX3_openRebuilds_9 rfl rfl ?_
  refine vs_sipush hC dX3_openRebuilds_10 (by decide +kernel) ?_
  refine vs_callVI [.int (vs_I 10000)] hC hW 0 rfl rfl vk_X3_rebuilds vm_X3_197 (c_X3_rebuilds l g a r q (wr) S2 10000 _ hw) rfl hl.1 rfl ⟨rfl, rfl⟩ ⟨Nat.le_of_ble_eq_true rfl, Nat.le_of_ble_eq_true rfl⟩ ⟨Nat.le_of_ble_eq_true rfl, Nat.le_of_ble_eq_true rfl⟩ (Nat.le_of_ble_eq_true rfl) dX3_openRebuilds_13 (fun r3 S4 H locs hw hW => ?_)
  have hW : vs_Wd g A _ (vs_W3 g a r q S4 ++ wr) _ _ s := hW
  refine vs_istore_n (L' := [(0, .ref (a 0)), (1, .int (vs_I r3))]) hC hl [1, 0] dX3_openRebuilds_16 rfl (by decide) rfl (fun ls hl => ?_)
  refine vs_aload_n hC hl 0 dX3_openRebuilds_17 rfl rfl ?_
  refine vs_callVV [] hC hW 0 rfl rfl vk_X3_laysBack vm_X3_165 (c_X3_laysBack l g a r q (wr) S4  _ hw) rfl hl.1 rfl ⟨rfl, rfl⟩ ⟨Nat.le_of_ble_eq_true rfl, Nat.le_of_ble_eq_true rfl⟩ ⟨Nat.le_of_ble_eq_true rfl, Nat.le_of_ble_eq_true rfl⟩ (Nat.le_of_ble_eq_true rfl) dX3_openRebuilds_18 (fun S5 H locs hw hW => ?_)
  have hW : vs_Wd g A _ (vs_W3 g a r q S5 ++ wr) _ _ s := hW
  refine vs_iload_n hC hl 1 dX3_openRebuilds_21 rfl rfl ?_
  exact vs_iret (S5) hC hr hlk hW rfl hw (Nat.le_of_ble_eq_true rfl) (Nat.le_of_ble_eq_true rfl) dX3_openRebuilds_22
set_option maxHeartbeats 4000000 in
set_option maxRecDepth 100000 in
theorem c_X3_isConsistent (l : Launch) (g : vs_G) (a r q : Nat → Nat) (wr : va_W) (S : vs_St) (post : Int → vs_St → Prop) (hw : wX3_isConsistent S post) : vs_MI l yX3_isConsistent (Cond.code yX3_isConsistent cX3_isConsistent 1 (some .boolean) :: vs_ws) { frames := 0, cells := 0, slots := 0, locals := 0 } g [.ref (a 0)] (vs_W3 g a r q S ++ wr) (fun (S' : vs_St) => vs_W3 g a r q S' ++ wr) post 0 0 := by
  refine vs_ofW (Qc := fun A => vs_QI g A (fun (S' : vs_St) => vs_W3 g a r q S' ++ wr) post) (by decide +kernel) (Nat.le_of_ble_eq_true rfl) (fun p e s m below meth c A ls hC hr hlk hW hl => ?_)
  have hC : CallFix p m c cX3_isConsistent 1 s _ vs_ws RX3 := hC
  have hl : lv_has ls 1 [(0, .ref (a 0))] := hl
  unfold wX3_isConsistent at hw
  refine vs_aload_n hC hl 0 dX3_isConsistent_0 rfl rfl ?_
  refine vs_iconst hC dX3_isConsistent_1 ?_
  obtain ⟨S1, hS1⟩ : ∃ z : vs_St, z = vs_st S 0 0 0 := ⟨_, rfl⟩
  have hw := hw S1 hS1
  refine vs_put (Wo' := vs_W3 g a r q S1 ++ wr) hC hW 0 rfl rfl vs_inX3 tyX3_ok nmX3 0 (by decide) vf_X3_96 rfl rfl (Nat.le_of_ble_eq_true rfl) (by rw [hS1]; rfl) dX3_isConsistent_2 (fun H locs hW => ?_)
  refine vs_iconst hC dX3_isConsistent_5 ?_
  exact vs_zret (S1) hC hr hlk hW rfl ⟨Or.inr rfl, hw⟩ (Nat.le_of_ble_eq_true rfl) (Nat.le_of_ble_eq_true rfl) dX3_isConsistent_6
