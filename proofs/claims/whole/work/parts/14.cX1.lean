/-! the walks of class X1, by program -/
set_option maxHeartbeats 4000000 in
set_option maxRecDepth 100000 in
theorem c_X1_installDisk (l : Launch) (g : vs_G) (a : Nat → Nat) (wr : va_W) (S : vs_St) (x1 : Int) (post : Int → vs_St → Prop) (hw : wX1_installDisk S x1 post) : vs_MI l yX1_installDisk (Cond.code yX1_installDisk cX1_installDisk 2 (some .int) :: vs_ws) { frames := 0, cells := 0, slots := 0, locals := 0 } g [.ref (a 0), .int (vs_I x1)] (vs_W1 g a S ++ wr) (fun (S' : vs_St) => vs_W1 g a S' ++ wr) post 0 0 := by
  refine vs_ofW (Qc := fun A => vs_QI g A (fun (S' : vs_St) => vs_W1 g a S' ++ wr) post) (by decide +kernel) (Nat.le_of_ble_eq_true rfl) (fun p e s m below meth c A ls hC hr hlk hW hl => ?_)
  have hC : CallFix p m c cX1_installDisk 2 s _ vs_ws RX1 := hC
  have hl : lv_has ls 2 [(0, .ref (a 0)), (1, .int (vs_I x1))] := hl
  unfold wX1_installDisk at hw
  refine vs_aload_n hC hl 0 dX1_installDisk_0 rfl rfl ?_
  refine vs_get hC hW 0 rfl rfl vs_inX1 1 (by decide) vf_X1_9 rfl dX1_installDisk_1 ?_
  refine vs_aload_n hC hl 0 dX1_installDisk_4 rfl rfl ?_
  refine vs_get hC hW 0 rfl rfl vs_inX1 0 (by decide) vf_X1_53 rfl dX1_installDisk_5 ?_
  refine vs_iload_n hC hl 1 dX1_installDisk_8 rfl rfl ?_
  obtain ⟨hi, hw⟩ := hw
  obtain ⟨S1, hS1⟩ : ∃ z : vs_St, z = vs_st S 1 (S 0 0) x1 := ⟨_, rfl⟩
  have hw := hw S1 hS1
  refine vs_iast (Wo' := vs_W1 g a S1 ++ wr) hC hW 1 rfl (by decide) hi (by rw [hS1]; rfl) dX1_installDisk_9 (fun H locs hW => ?_)
  refine vs_aload_n hC hl 0 dX1_installDisk_10 rfl rfl ?_
  refine vs_get hC hW 0 rfl rfl vs_inX1 3 (by decide) vf_X1_18 rfl dX1_installDisk_11 ?_
  refine vs_aload_n hC hl 0 dX1_installDisk_14 rfl rfl ?_
  refine vs_get hC hW 0 rfl rfl vs_inX1 0 (by decide) vf_X1_53 rfl dX1_installDisk_15 ?_
  refine vs_bipush hC dX1_installDisk_18 (by decide +kernel) ?_
  obtain ⟨hi, hw⟩ := hw
  obtain ⟨S2, hS2⟩ : ∃ z : vs_St, z = vs_st S1 3 (S1 0 0) 115 := ⟨_, rfl⟩
  have hw := hw S2 hS2
  refine vs_cast (Wo' := vs_W1 g a S2 ++ wr) hC hW 3 rfl (by decide) hi (by decide) (by rw [hS2]; rfl) dX1_installDisk_20 (fun H locs hW => ?_)
  refine vs_aload_n hC hl 0 dX1_installDisk_21 rfl rfl ?_
  refine vs_dup hC dX1_installDisk_22 rfl ?_
  refine vs_get hC hW 0 rfl rfl vs_inX1 0 (by decide) vf_X1_53 rfl dX1_installDisk_23 ?_
  refine vs_dup_x1 hC dX1_installDisk_26 rfl rfl ?_
  refine vs_iconst hC dX1_installDisk_27 ?_
  refine vs_iadd hC dX1_installDisk_28 ?_
  obtain ⟨S3, hS3⟩ : ∃ z : vs_St, z = vs_st S2 0 0 ((S2 0 0) + 1) := ⟨_, rfl⟩
  have hw := hw S3 hS3
  refine vs_put (Wo' := vs_W1 g a S3 ++ wr) hC hW 0 rfl rfl vs_inX1 tyX1_ok nmX1 0 (by decide) vf_X1_53 rfl rfl (Nat.le_of_ble_eq_true rfl) (by rw [hS3]; rfl) dX1_installDisk_29 (fun H locs hW => ?_)
  exact vs_iret (S3) hC hr hlk hW rfl hw (Nat.le_of_ble_eq_true rfl) (Nat.le_of_ble_eq_true rfl) dX1_installDisk_32
set_option maxHeartbeats 4000000 in
set_option maxRecDepth 100000 in
theorem c_X1_disksInState (l : Launch) (g : vs_G) (a : Nat → Nat) (wr : va_W) (S : vs_St) (x1 : Int) (post : Int → Prop) (hw : wX1_disksInState S x1 post) : vs_MI l yX1_disksInState (Cond.code yX1_disksInState cX1_disksInState 4 (some .int) :: vs_ws) { frames := 0, cells := 0, slots := 0, locals := 0 } g [.ref (a 0), .int (vs_I x1)] (vs_W1 g a S ++ wr) (fun (_ : Unit) => vs_W1 g a S ++ wr) (fun v (_ : Unit) => post v) 0 0 := by
  refine vs_ofW (Qc := fun A => vs_QI g A (fun (_ : Unit) => vs_W1 g a S ++ wr) (fun v (_ : Unit) => post v)) (by decide +kernel) (Nat.le_of_ble_eq_true rfl) (fun p e s m below meth c A ls hC hr hlk hW hl => ?_)
  have hC : CallFix p m c cX1_disksInState 4 s _ vs_ws RX1 := hC
  have hl : lv_has ls 4 [(0, .ref (a 0)), (1, .int (vs_I x1))] := hl
  unfold wX1_disksInState at hw
  refine vs_iconst hC dX1_disksInState_0 ?_
  refine vs_istore_n (L' := [(0, .ref (a 0)), (1, .int (vs_I x1)), (2, .int (vs_I 0))]) hC hl [1, 2, 0] dX1_disksInState_1 rfl (by decide) rfl (fun ls hl => ?_)
  refine vs_iconst hC dX1_disksInState_2 ?_
  refine vs_istore_n (L' := [(0, .ref (a 0)), (1, .int (vs_I x1)), (2, .int (vs_I 0)), (3, .int (vs_I 0))]) hC hl [1, 2, 3, 0] dX1_disksInState_3 rfl (by decide) rfl (fun ls hl => ?_)
  obtain ⟨J1, μ1, hJ, hB1⟩ := hw
  refine vs_loop (V := Int × Int) (J := fun v => J1 v.1 v.2) (μ := fun v => μ1 v.1 v.2) (fun v => vs_W1 g a S ++ wr) (fun v => [(0, .ref (a 0)), (1, .int (vs_I x1)), (2, .int (vs_I v.1)), (3, .int (vs_I v.2))]) (fun v hJ ih1 H locs ls hW hl => ?_) (0, 0) hJ hW (lv_sub hl [0, 1, 2, 3] rfl)
  obtain ⟨v2, v3⟩ := v
  have hw := hB1 v2 v3 hJ
  have hW : vs_Wd g A _ (vs_W1 g a S ++ wr) _ _ s := hW
  have hl : lv_has ls 4 [(0, .ref (a 0)), (1, .int (vs_I x1)), (2, .int (vs_I v2)), (3, .int (vs_I v3))] := hl
  clear hJ
  unfold lX1_disksInState_4 at hw
  refine vs_iload_n hC hl 3 dX1_disksInState_4 rfl rfl ?_
  refine vs_aload_n hC hl 0 dX1_disksInState_5 rfl rfl ?_
  refine vs_get hC hW 0 rfl rfl vs_inX1 0 (by decide) vf_X1_53 rfl dX1_disksInState_6 ?_
  obtain ⟨hx, hw⟩ := hw
  obtain ⟨hy, hw⟩ := hw
  obtain ⟨hwt, hwf⟩ := hw
  refine vs_icmp_ge hC 34 hx hy dX1_disksInState_9 (by decide) (fun hc => ?_) (fun hc => ?_)
  · have hw := hwt hc
    clear hwt hwf hc
    refine vs_iload_n hC hl 2 dX1_disksInState_34 rfl rfl ?_
    exact vs_iret () hC hr hlk hW rfl hw (Nat.le_of_ble_eq_true rfl) (Nat.le_of_ble_eq_true rfl) dX1_disksInState_35
  · have hw := hwf hc
    clear hwt hwf hc
    refine vs_aload_n hC hl 0 dX1_disksInState_12 rfl rfl ?_
    refine vs_get hC hW 0 rfl rfl vs_inX1 3 (by decide) vf_X1_18 rfl dX1_disksInState_13 ?_
    refine vs_iload_n hC hl 3 dX1_disksInState_16 rfl rfl ?_
    obtain ⟨hi, hw⟩ := hw
    refine vs_cald hC hW 3 rfl (by decide) hi dX1_disksInState_17 ?_
    refine vs_iload_n hC hl 1 dX1_disksInState_18 rfl rfl ?_
    obtain ⟨hx, hw⟩ := hw
    obtain ⟨hy, hw⟩ := hw
    obtain ⟨hwt, hwf⟩ := hw
    refine vs_icmp_ne hC 28 hx hy dX1_disksInState_19 (by decide) (fun hc => ?_) (fun hc => ?_)
    · have hw := hwt hc
      clear hwt hwf hc
      refine vs_iinc (L' := [(0, .ref (a 0)), (1, .int (vs_I x1)), (2, .int (vs_I v2)), (3, .int (vs_I (v3 + 1)))]) hC hl 3 [1, 2, 3, 0] dX1_disksInState_28 rfl (by decide) rfl (fun ls hl => ?_)
      refine vs_goto hC 4 dX1_disksInState_31 (by decide) ?_
      exact ih1 (v2, v3 + 1) hw _ _ _ hW (lv_sub hl [0, 1, 2, 3] rfl)
    · have hw := hwf hc
      clear hwt hwf hc
      refine vs_iload_n hC hl 2 dX1_disksInState_22 rfl rfl ?_
      refine vs_iconst hC dX1_disksInState_23 ?_
      refine vs_iload_n hC hl 3 dX1_disksInState_24 rfl rfl ?_
      refine vs_ishl hC dX1_disksInState_25 ?_
      refine vs_ior hC dX1_disksInState_26 ?_
      refine vs_name (fun v4 hv4 => ?_)
      have hw := hw v4 hv4
      refine vs_istore_n (L' := [(0, .ref (a 0)), (1, .int (vs_I x1)), (2, .int (vs_I v4)), (3, .int (vs_I v3))]) hC hl [1, 2, 0, 3] dX1_disksInState_27 rfl (by decide) rfl (fun ls hl => ?_)
      refine vs_iinc (L' := [(0, .ref (a 0)), (1, .int (vs_I x1)), (2, .int (vs_I v4)), (3, .int (vs_I (v3 + 1)))]) hC hl 3 [1, 2, 3, 0] dX1_disksInState_28 rfl (by decide) rfl (fun ls hl => ?_)
      refine vs_goto hC 4 dX1_disksInState_31 (by decide) ?_
      exact ih1 (v4, v3 + 1) hw _ _ _ hW (lv_sub hl [0, 1, 2, 3] rfl)
set_option maxHeartbeats 4000000 in
set_option maxRecDepth 100000 in
theorem c_X1_wantedOf (l : Launch) (g : vs_G) (a : Nat → Nat) (wr : va_W) (S : vs_St) (x1 : Int) (post : Int → Prop) (hw : wX1_wantedOf S x1 post) : vs_MI l yX1_wantedOf (Cond.code yX1_wantedOf cX1_wantedOf 2 (some .int) :: vs_ws) { frames := 0, cells := 0, slots := 0, locals := 0 } g [.ref (a 0), .int (vs_I x1)] (vs_W1 g a S ++ wr) (fun (_ : Unit) => vs_W1 g a S ++ wr) (fun v (_ : Unit) => post v) 0 0 := by
  refine vs_ofW (Qc := fun A => vs_QI g A (fun (_ : Unit) => vs_W1 g a S ++ wr) (fun v (_ : Unit) => post v)) (by decide +kernel) (Nat.le_of_ble_eq_true rfl) (fun p e s m below meth c A ls hC hr hlk hW hl => ?_)
  have hC : CallFix p m c cX1_wantedOf 2 s _ vs_ws RX1 := hC
  have hl : lv_has ls 2 [(0, .ref (a 0)), (1, .int (vs_I x1))] := hl
  unfold wX1_wantedOf at hw
  refine vs_aload_n hC hl 0 dX1_wantedOf_0 rfl rfl ?_
  refine vs_get hC hW 0 rfl rfl vs_inX1 6 (by decide) vf_X1_29 rfl dX1_wantedOf_1 ?_
  refine vs_iload_n hC hl 1 dX1_wantedOf_4 rfl rfl ?_
  refine vs_bipush hC dX1_wantedOf_5 (by decide +kernel) ?_
  obtain ⟨hi, hw⟩ := hw
  refine vs_idiv hC dX1_wantedOf_7 ⟨hi.1, hi.2, by decide, by decide⟩ ?_
  obtain ⟨hi, hw⟩ := hw
  refine vs_iald hC hW 6 rfl (by decide) hi dX1_wantedOf_8 ?_
  exact vs_iret () hC hr hlk hW rfl hw (Nat.le_of_ble_eq_true rfl) (Nat.le_of_ble_eq_true rfl) dX1_wantedOf_9
set_option maxHeartbeats 4000000 in
set_option maxRecDepth 100000 in
theorem c_X1_addressOf (l : Launch) (g : vs_G) (a : Nat → Nat) (wr : va_W) (S : vs_St) (x1 : Int) (x2 : Int) (post : Int → Prop) (hw : wX1_addressOf S x1 x2 post) : vs_MI l yX1_addressOf (Cond.code yX1_addressOf cX1_addressOf 3 (some .int) :: vs_ws) { frames := 0, cells := 0, slots := 0, locals := 0 } g [.ref (a 0), .int (vs_I x1), .int (vs_I x2)] (vs_W1 g a S ++ wr) (fun (_ : Unit) => vs_W1 g a S ++ wr) (fun v (_ : Unit) => post v) 0 0 := by
  refine vs_ofW (Qc := fun A => vs_QI g A (fun (_ : Unit) => vs_W1 g a S ++ wr) (fun v (_ : Unit) => post v)) (by decide +kernel) (Nat.le_of_ble_eq_true rfl) (fun p e s m below meth c A ls hC hr hlk hW hl => ?_)
  have hC : CallFix p m c cX1_addressOf 3 s _ vs_ws RX1 := hC
  have hl : lv_has ls 3 [(0, .ref (a 0)), (1, .int (vs_I x1)), (2, .int (vs_I x2))] := hl
  unfold wX1_addressOf at hw
  refine vs_aload_n hC hl 0 dX1_addressOf_0 rfl rfl ?_
  refine vs_get hC hW 0 rfl rfl vs_inX1 9 (by decide) vf_X1_38 rfl dX1_addressOf_1 ?_
  refine vs_iload_n hC hl 1 dX1_addressOf_4 rfl rfl ?_
  refine vs_iconst hC dX1_addressOf_5 ?_
  refine vs_imul hC dX1_addressOf_6 ?_
  refine vs_iload_n hC hl 2 dX1_addressOf_7 rfl rfl ?_
  refine vs_iadd hC dX1_addressOf_8 ?_
  obtain ⟨hi, hw⟩ := hw
  refine vs_iald hC hW 9 rfl (by decide) hi dX1_addressOf_9 ?_
  exact vs_iret () hC hr hlk hW rfl hw (Nat.le_of_ble_eq_true rfl) (Nat.le_of_ble_eq_true rfl) dX1_addressOf_10
set_option maxHeartbeats 4000000 in
set_option maxRecDepth 100000 in
theorem c_X1_disksWithCopy (l : Launch) (g : vs_G) (a : Nat → Nat) (wr : va_W) (S : vs_St) (x1 : Int) (post : Int → Prop) (hw : wX1_disksWithCopy S x1 post) : vs_MI l yX1_disksWithCopy (Cond.code yX1_disksWithCopy cX1_disksWithCopy 4 (some .int) :: vs_ws) { frames := 1, cells := 0, slots := 0, locals := 22 } g [.ref (a 0), .int (vs_I x1)] (vs_W1 g a S ++ wr) (fun (_ : Unit) => vs_W1 g a S ++ wr) (fun v (_ : Unit) => post v) 0 0 := by
  refine vs_ofW (Qc := fun A => vs_QI g A (fun (_ : Unit) => vs_W1 g a S ++ wr) (fun v (_ : Unit) => post v)) (by decide +kernel) (Nat.le_of_ble_eq_true rfl) (fun p e s m below meth c A ls hC hr hlk hW hl => ?_)
  have hC : CallFix p m c cX1_disksWithCopy 4 s _ vs_ws RX1 := hC
  have hl : lv_has ls 4 [(0, .ref (a 0)), (1, .int (vs_I x1))] := hl
  unfold wX1_disksWithCopy at hw
  refine vs_iconst hC dX1_disksWithCopy_0 ?_
  refine vs_istore_n (L' := [(0, .ref (a 0)), (1, .int (vs_I x1)), (2, .int (vs_I 0))]) hC hl [1, 2, 0] dX1_disksWithCopy_1 rfl (by decide) rfl (fun ls hl => ?_)
  refine vs_iconst hC dX1_disksWithCopy_2 ?_
  refine vs_istore_n (L' := [(0, .ref (a 0)), (1, .int (vs_I x1)), (2, .int (vs_I 0)), (3, .int (vs_I 0))]) hC hl [1, 2, 3, 0] dX1_disksWithCopy_3 rfl (by decide) rfl (fun ls hl => ?_)
  obtain ⟨J1, μ1, hJ, hB1⟩ := hw
  refine vs_loop (V := Int × Int) (J := fun v => J1 v.1 v.2) (μ := fun v => μ1 v.1 v.2) (fun v => vs_W1 g a S ++ wr) (fun v => [(0, .ref (a 0)), (1, .int (vs_I x1)), (2, .int (vs_I v.1)), (3, .int (vs_I v.2))]) (fun v hJ ih1 H locs ls hW hl => ?_) (0, 0) hJ hW (lv_sub hl [0, 1, 2, 3] rfl)
  obtain ⟨v2, v3⟩ := v
  have hw := hB1 v2 v3 hJ
  have hW : vs_Wd g A _ (vs_W1 g a S ++ wr) _ _ s := hW
  have hl : lv_has ls 4 [(0, .ref (a 0)), (1, .int (vs_I x1)), (2, .int (vs_I v2)), (3, .int (vs_I v3))] := hl
  clear hJ
  unfold lX1_disksWithCopy_4 at hw
  refine vs_iload_n hC hl 3 dX1_disksWithCopy_4 rfl rfl ?_
  refine vs_aload_n hC hl 0 dX1_disksWithCopy_5 rfl rfl ?_
  refine vs_get hC hW 0 rfl rfl vs_inX1 8 (by decide) vf_X1_35 rfl dX1_disksWithCopy_6 ?_
  refine vs_iload_n hC hl 1 dX1_disksWithCopy_9 rfl rfl ?_
  obtain ⟨hi, hw⟩ := hw
  refine vs_iald hC hW 8 rfl (by decide) hi dX1_disksWithCopy_10 ?_
  obtain ⟨hx, hw⟩ := hw
  obtain ⟨hy, hw⟩ := hw
  obtain ⟨hwt, hwf⟩ := hw
  refine vs_icmp_ge hC 34 hx hy dX1_disksWithCopy_11 (by decide) (fun hc => ?_) (fun hc => ?_)
  · have hw := hwt hc
    clear hwt hwf hc
    refine vs_iload_n hC hl 2 dX1_disksWithCopy_34 rfl rfl ?_
    exact vs_iret () hC hr hlk hW rfl hw (Nat.le_of_ble_eq_true rfl) (Nat.le_of_ble_eq_true rfl) dX1_disksWithCopy_35
  · have hw := hwf hc
    clear hwt hwf hc
    refine vs_iload_n hC hl 2 dX1_disksWithCopy_14 rfl rfl ?_
    refine vs_iconst hC dX1_disksWithCopy_15 ?_
    refine vs_aload_n hC hl 0 dX1_disksWithCopy_16 rfl rfl ?_
    refine vs_iload_n hC hl 1 dX1_disksWithCopy_17 rfl rfl ?_
    refine vs_iload_n hC hl 3 dX1_disksWithCopy_18 rfl rfl ?_
    refine vs_callVI [.int (vs_I x1), .int (vs_I v3)] hC hW 0 rfl rfl vk_X1_addressOf vm_X1_66 (c_X1_addressOf l g a (wr) S x1 v3 _ hw) rfl hl.1 rfl ⟨rfl, rfl⟩ ⟨Nat.le_of_ble_eq_true rfl, Nat.le_of_ble_eq_true rfl⟩ ⟨Nat.le_of_ble_eq_true rfl, Nat.le_of_ble_eq_true rfl⟩ (Nat.le_of_ble_eq_true rfl) dX1_disksWithCopy_19 (fun r4 _ H locs hw hW => ?_)
    have hW : vs_Wd g A _ (vs_W1 g a S ++ wr) _ _ s := hW
    refine vs_bipush hC dX1_disksWithCopy_22 (by decide +kernel) ?_
    obtain ⟨hi, hw⟩ := hw
    refine vs_idiv hC dX1_disksWithCopy_24 ⟨hi.1, hi.2, by decide, by decide⟩ ?_
    refine vs_ishl hC dX1_disksWithCopy_25 ?_
    refine vs_ior hC dX1_disksWithCopy_26 ?_
    refine vs_name (fun v5 hv5 => ?_)
    have hw := hw v5 hv5
    refine vs_istore_n (L' := [(0, .ref (a 0)), (1, .int (vs_I x1)), (2, .int (vs_I v5)), (3, .int (vs_I v3))]) hC hl [1, 2, 0, 3] dX1_disksWithCopy_27 rfl (by decide) rfl (fun ls hl => ?_)
    refine vs_iinc (L' := [(0, .ref (a 0)), (1, .int (vs_I x1)), (2, .int (vs_I v5)), (3, .int (vs_I (v3 + 1)))]) hC hl 3 [1, 2, 3, 0] dX1_disksWithCopy_28 rfl (by decide) rfl (fun ls hl => ?_)
    refine vs_goto hC 4 dX1_disksWithCopy_31 (by decide) ?_
    exact ih1 (v5, v3 + 1) hw _ _ _ hW (lv_sub hl [0, 1, 2, 3] rfl)
set_option maxHeartbeats 4000000 in
set_option maxRecDepth 100000 in
theorem c_X1_disksWithGoodCopy (l : Launch) (g : vs_G) (a : Nat → Nat) (wr : va_W) (S : vs_St) (x1 : Int) (post : Int → Prop) (hw : wX1_disksWithGoodCopy S x1 post) : vs_MI l yX1_disksWithGoodCopy (Cond.code yX1_disksWithGoodCopy cX1_disksWithGoodCopy 5 (some .int) :: vs_ws) { frames := 1, cells := 0, slots := 0, locals := 22 } g [.ref (a 0), .int (vs_I x1)] (vs_W1 g a S ++ wr) (fun (_ : Unit) => vs_W1 g a S ++ wr) (fun v (_ : Unit) => post v) 0 0 := by
  refine vs_ofW (Qc := fun A => vs_QI g A (fun (_ : Unit) => vs_W1 g a S ++ wr) (fun v (_ : Unit) => post v)) (by decide +kernel) (Nat.le_of_ble_eq_true rfl) (fun p e s m below meth c A ls hC hr hlk hW hl => ?_)
  have hC : CallFix p m c cX1_disksWithGoodCopy 5 s _ vs_ws RX1 := hC
  have hl : lv_has ls 5 [(0, .ref (a 0)), (1, .int (vs_I x1))] := hl
  unfold wX1_disksWithGoodCopy at hw
  refine vs_iconst hC dX1_disksWithGoodCopy_0 ?_
  refine vs_istore_n (L' := [(0, .ref (a 0)), (1, .int (vs_I x1)), (2, .int (vs_I 0))]) hC hl [1, 2, 0] dX1_disksWithGoodCopy_1 rfl (by decide) rfl (fun ls hl => ?_)
  refine vs_iconst hC dX1_disksWithGoodCopy_2 ?_
  refine vs_istore_n (L' := [(0, .ref (a 0)), (1, .int (vs_I x1)), (2, .int (vs_I 0)), (3, .int (vs_I 0))]) hC hl [1, 2, 3, 0] dX1_disksWithGoodCopy_3 rfl (by decide) rfl (fun ls hl => ?_)
  obtain ⟨J1, μ1, hJ, hB1⟩ := hw
  refine vs_loop (V := Int × Int) (J := fun v => J1 v.1 v.2) (μ := fun v => μ1 v.1 v.2) (fun v => vs_W1 g a S ++ wr) (fun v => [(0, .ref (a 0)), (1, .int (vs_I x1)), (2, .int (vs_I v.1)), (3, .int (vs_I v.2))]) (fun v hJ ih1 H locs ls hW hl => ?_) (0, 0) hJ hW (lv_sub hl [0, 1, 2, 3] rfl)
  obtain ⟨v2, v3⟩ := v
  have hw := hB1 v2 v3 hJ
  have hW : vs_Wd g A _ (vs_W1 g a S ++ wr) _ _ s := hW
  have hl : lv_has ls 5 [(0, .ref (a 0)), (1, .int (vs_I x1)), (2, .int (vs_I v2)), (3, .int (vs_I v3))] := hl
  clear hJ
  unfold lX1_disksWithGoodCopy_4 at hw
  refine vs_iload_n hC hl 3 dX1_disksWithGoodCopy_4 rfl rfl ?_
  refine vs_aload_n hC hl 0 dX1_disksWithGoodCopy_5 rfl rfl ?_
  refine vs_get hC hW 0 rfl rfl vs_inX1 8 (by decide) vf_X1_35 rfl dX1_disksWithGoodCopy_6 ?_
  refine vs_iload_n hC hl 1 dX1_disksWithGoodCopy_9 rfl rfl ?_
  obtain ⟨hi, hw⟩ := hw
  refine vs_iald hC hW 8 rfl (by decide) hi dX1_disksWithGoodCopy_10 ?_
  obtain ⟨hx, hw⟩ := hw
  obtain ⟨hy, hw⟩ := hw
  obtain ⟨hwt, hwf⟩ := hw
  refine vs_icmp_ge hC 48 hx hy dX1_disksWithGoodCopy_11 (by decide) (fun hc => ?_) (fun hc => ?_)
  · have hw := hwt hc
    clear hwt hwf hc
    refine vs_iload_n hC hl 2 dX1_disksWithGoodCopy_48 rfl rfl ?_
    exact vs_iret () hC hr hlk hW rfl hw (Nat.le_of_ble_eq_true rfl) (Nat.le_of_ble_eq_true rfl) dX1_disksWithGoodCopy_49
  · have hw := hwf hc
    clear hwt hwf hc
    refine vs_aload_n hC hl 0 dX1_disksWithGoodCopy_14 rfl rfl ?_
    refine vs_iload_n hC hl 1 dX1_disksWithGoodCopy_15 rfl rfl ?_
    refine vs_iload_n hC hl 3 dX1_disksWithGoodCopy_16 rfl rfl ?_
    refine vs_callVI [.int (vs_I x1), .int (vs_I v3)] hC hW 0 rfl rfl vk_X1_addressOf vm_X1_66 (c_X1_addressOf l g a (wr) S x1 v3 _ hw) rfl hl.1 rfl ⟨rfl, rfl⟩ ⟨Nat.le_of_ble_eq_true rfl, Nat.le_of_ble_eq_true rfl⟩ ⟨Nat.le_of_ble_eq_true rfl, Nat.le_of_ble_eq_true rfl⟩ (Nat.le_of_ble_eq_true rfl) dX1_disksWithGoodCopy_17 (fun r4 _ H locs hw hW => ?_)
    have hW : vs_Wd g A _ (vs_W1 g a S ++ wr) _ _ s := hW
    refine vs_istore (L' := [(0, .ref (a 0)), (1, .int (vs_I x1)), (2, .int (vs_I v2)), (3, .int (vs_I v3)), (4, .int (vs_I r4))]) hC hl [1, 2, 3, 4, 0] dX1_disksWithGoodCopy_20 (by decide) rfl (fun ls hl => ?_)
    refine vs_aload_n hC hl 0 dX1_disksWithGoodCopy_22 rfl rfl ?_
    refine vs_get hC hW 0 rfl rfl vs_inX1 5 (by decide) vf_X1_25 rfl dX1_disksWithGoodCopy_23 ?_
    refine vs_iload hC hl 4 dX1_disksWithGoodCopy_26 rfl ?_
    obtain ⟨hi, hw⟩ := hw
    refine vs_zald hC hW 5 rfl (by decide) hi dX1_disksWithGoodCopy_28 ?_
    obtain ⟨hx, hw⟩ := hw
    obtain ⟨hwt, hwf⟩ := hw
    refine vs_if_ne hC 42 hx dX1_disksWithGoodCopy_29 (by decide) (fun hc => ?_) (fun hc => ?_)
    · have hw := hwt hc
      clear hwt hwf hc
      refine vs_iinc (L' := [(0, .ref (a 0)), (1, .int (vs_I x1)), (2, .int (vs_I v2)), (3, .int (vs_I (v3 + 1))), (4, .int (vs_I r4))]) hC hl 3 [1, 2, 3, 0, 4] dX1_disksWithGoodCopy_42 rfl (by decide) rfl (fun ls hl => ?_)
      refine vs_goto hC 4 dX1_disksWithGoodCopy_45 (by decide) ?_
      exact ih1 (v2, v3 + 1) hw _ _ _ hW (lv_sub hl [0, 1, 2, 3] rfl)
    · have hw := hwf hc
      clear hwt hwf hc
      refine vs_iload_n hC hl 2 dX1_disksWithGoodCopy_32 rfl rfl ?_
      refine vs_iconst hC dX1_disksWithGoodCopy_33 ?_
      refine vs_iload hC hl 4 dX1_disksWithGoodCopy_34 rfl ?_
      refine vs_bipush hC dX1_disksWithGoodCopy_36 (by decide +kernel) ?_
      obtain ⟨hi, hw⟩ := hw
      refine vs_idiv hC dX1_disksWithGoodCopy_38 ⟨hi.1, hi.2, by decide, by decide⟩ ?_
      refine vs_ishl hC dX1_disksWithGoodCopy_39 ?_
      refine vs_ior hC dX1_disksWithGoodCopy_40 ?_
      refine vs_name (fun v5 hv5 => ?_)
      have hw := hw v5 hv5
      refine vs_istore_n (L' := [(0, .ref (a 0)), (1, .int (vs_I x1)), (2, .int (vs_I v5)), (3, .int (vs_I v3)), (4, .int (vs_I r4))]) hC hl [1, 2, 0, 3, 4] dX1_disksWithGoodCopy_41 rfl (by decide) rfl (fun ls hl => ?_)
      refine vs_iinc (L' := [(0, .ref (a 0)), (1, .int (vs_I x1)), (2, .int (vs_I v5)), (3, .int (vs_I (v3 + 1))), (4, .int (vs_I r4))]) hC hl 3 [1, 2, 3, 0, 4] dX1_disksWithGoodCopy_42 rfl (by decide) rfl (fun ls hl => ?_)
      refine vs_goto hC 4 dX1_disksWithGoodCopy_45 (by decide) ?_
      exact ih1 (v5, v3 + 1) hw _ _ _ hW (lv_sub hl [0, 1, 2, 3] rfl)
set_option maxHeartbeats 4000000 in
set_option maxRecDepth 100000 in
theorem c_X1_hasLost (l : Launch) (g : vs_G) (a : Nat → Nat) (wr : va_W) (S : vs_St) (x1 : Int) (post : Int → Prop) (hw : wX1_hasLost S x1 post) : vs_MI l yX1_hasLost (Cond.code yX1_hasLost cX1_hasLost 2 (some .boolean) :: vs_ws) { frames := 2, cells := 0, slots := 0, locals := 46 } g [.ref (a 0), .int (vs_I x1)] (vs_W1 g a S ++ wr) (fun (_ : Unit) => vs_W1 g a S ++ wr) (fun v (_ : Unit) => post v) 0 0 := by
  refine vs_ofW (Qc := fun A => vs_QI g A (fun (_ : Unit) => vs_W1 g a S ++ wr) (fun v (_ : Unit) => post v)) (by decide +kernel) (Nat.le_of_ble_eq_true rfl) (fun p e s m below meth c A ls hC hr hlk hW hl => ?_)
  have hC : CallFix p m c cX1_hasLost 2 s _ vs_ws RX1 := hC
  have hl : lv_has ls 2 [(0, .ref (a 0)), (1, .int (vs_I x1))] := hl
  unfold wX1_hasLost at hw
  refine vs_aload_n hC hl 0 dX1_hasLost_0 rfl rfl ?_
  refine vs_get hC hW 0 rfl rfl vs_inX1 7 (by decide) vf_X1_32 rfl dX1_hasLost_1 ?_
  refine vs_iload_n hC hl 1 dX1_hasLost_4 rfl rfl ?_
  obtain ⟨hi, hw⟩ := hw
  refine vs_iald hC hW 7 rfl (by decide) hi dX1_hasLost_5 ?_
  refine vs_iconst hC dX1_hasLost_6 ?_
  obtain ⟨hx, hw⟩ := hw
  obtain ⟨hwt, hwf⟩ := hw
  refine vs_icmp_eq hC 22 hx ⟨by decide, by decide⟩ dX1_hasLost_7 (by decide) (fun hc => ?_) (fun hc => ?_)
  · have hw := hwt hc
    clear hwt hwf hc
    refine vs_iconst hC dX1_hasLost_22 ?_
    exact vs_zret () hC hr hlk hW rfl ⟨Or.inl rfl, hw⟩ (Nat.le_of_ble_eq_true rfl) (Nat.le_of_ble_eq_true rfl) dX1_hasLost_23
  · have hw := hwf hc
    clear hwt hwf hc
    refine vs_aload_n hC hl 0 dX1_hasLost_10 rfl rfl ?_
    refine vs_iload_n hC hl 1 dX1_hasLost_11 rfl rfl ?_
    refine vs_callVI [.int (vs_I x1)] hC hW 0 rfl rfl vk_X1_disksWithGoodCopy vm_X1_70 (c_X1_disksWithGoodCopy l g a (wr) S x1 _ hw) rfl hl.1 rfl ⟨rfl, rfl⟩ ⟨Nat.le_of_ble_eq_true rfl, Nat.le_of_ble_eq_true rfl⟩ ⟨Nat.le_of_ble_eq_true rfl, Nat.le_of_ble_eq_true rfl⟩ (Nat.le_of_ble_eq_true rfl) dX1_hasLost_12 (fun r1 _ H locs hw hW => ?_)
    have hW : vs_Wd g A _ (vs_W1 g a S ++ wr) _ _ s := hW
    obtain ⟨hx, hw⟩ := hw
    obtain ⟨hwt, hwf⟩ := hw
    refine vs_if_ne hC 22 hx dX1_hasLost_15 (by decide) (fun hc => ?_) (fun hc => ?_)
    · have hw := hwt hc
      clear hwt hwf hc
      refine vs_iconst hC dX1_hasLost_22 ?_
      exact vs_zret () hC hr hlk hW rfl ⟨Or.inl rfl, hw⟩ (Nat.le_of_ble_eq_true rfl) (Nat.le_of_ble_eq_true rfl) dX1_hasLost_23
    · have hw := hwf hc
      clear hwt hwf hc
      refine vs_iconst hC dX1_hasLost_18 ?_
      refine vs_goto hC 23 dX1_hasLost_19 (by decide) ?_
      exact vs_zret () hC hr hlk hW rfl ⟨Or.inr rfl, hw⟩ (Nat.le_of_ble_eq_true rfl) (Nat.le_of_ble_eq_true rfl) dX1_hasLost_23
set_option maxHeartbeats 4000000 in
set_option maxRecDepth 100000 in
theorem c_X1_countWritten (l : Launch) (g : vs_G) (a : Nat → Nat) (wr : va_W) (S : vs_St) (x1 : Int) (post : Int → Prop) (hw : wX1_countWritten S x1 post) : vs_MI l yX1_countWritten (Cond.code yX1_countWritten cX1_countWritten 4 (some .int) :: vs_ws) { frames := 0, cells := 0, slots := 0, locals := 0 } g [.ref (a 0), .int (vs_I x1)] (vs_W1 g a S ++ wr) (fun (_ : Unit) => vs_W1 g a S ++ wr) (fun v (_ : Unit) => post v) 0 0 := by
  refine vs_ofW (Qc := fun A => vs_QI g A (fun (_ : Unit) => vs_W1 g a S ++ wr) (fun v (_ : Unit) => post v)) (by decide +kernel) (Nat.le_of_ble_eq_true rfl) (fun p e s m below meth c A ls hC hr hlk hW hl => ?_)
  have hC : CallFix p m c cX1_countWritten 4 s _ vs_ws RX1 := hC
  have hl : lv_has ls 4 [(0, .ref (a 0)), (1, .int (vs_I x1))] := hl
  unfold wX1_countWritten at hw
  refine vs_iconst hC dX1_countWritten_0 ?_
  refine vs_istore_n (L' := [(0, .ref (a 0)), (1, .int (vs_I x1)), (2, .int (vs_I 0))]) hC hl [1, 2, 0] dX1_countWritten_1 rfl (by decide) rfl (fun ls hl => ?_)
  refine vs_iconst hC dX1_countWritten_2 ?_
  refine vs_istore_n (L' := [(0, .ref (a 0)), (1, .int (vs_I x1)), (2, .int (vs_I 0)), (3, .int (vs_I 0))]) hC hl [1, 2, 3, 0] dX1_countWritten_3 rfl (by decide) rfl (fun ls hl => ?_)
  obtain ⟨J1, μ1, hJ, hB1⟩ := hw
  refine vs_loop (V := Int × Int) (J := fun v => J1 v.1 v.2) (μ := fun v => μ1 v.1 v.2) (fun v => vs_W1 g a S ++ wr) (fun v => [(0, .ref (a 0)), (1, .int (vs_I x1)), (2, .int (vs_I v.1)), (3, .int (vs_I v.2))]) (fun v hJ ih1 H locs ls hW hl => ?_) (0, 0) hJ hW (lv_sub hl [0, 1, 2, 3] rfl)
  obtain ⟨v2, v3⟩ := v
  have hw := hB1 v2 v3 hJ
  have hW : vs_Wd g A _ (vs_W1 g a S ++ wr) _ _ s := hW
  have hl : lv_has ls 4 [(0, .ref (a 0)), (1, .int (vs_I x1)), (2, .int (vs_I v2)), (3, .int (vs_I v3))] := hl
  clear hJ
  unfold lX1_countWritten_4 at hw
  refine vs_iload_n hC hl 3 dX1_countWritten_4 rfl rfl ?_
  refine vs_aload_n hC hl 0 dX1_countWritten_5 rfl rfl ?_
  refine vs_get hC hW 0 rfl rfl vs_inX1 10 (by decide) vf_X1_57 rfl dX1_countWritten_6 ?_
  obtain ⟨hx, hw⟩ := hw
  obtain ⟨hy, hw⟩ := hw
  obtain ⟨hwt, hwf⟩ := hw
  refine vs_icmp_ge hC 34 hx hy dX1_countWritten_9 (by decide) (fun hc => ?_) (fun hc => ?_)
  · have hw := hwt hc
    clear hwt hwf hc
    refine vs_iload_n hC hl 2 dX1_countWritten_34 rfl rfl ?_
    exact vs_iret () hC hr hlk hW rfl hw (Nat.le_of_ble_eq_true rfl) (Nat.le_of_ble_eq_true rfl) dX1_countWritten_35
  · have hw := hwf hc
    clear hwt hwf hc
    refine vs_aload_n hC hl 0 dX1_countWritten_12 rfl rfl ?_
    refine vs_get hC hW 0 rfl rfl vs_inX1 11 (by decide) vf_X1_41 rfl dX1_countWritten_13 ?_
    refine vs_iload_n hC hl 3 dX1_countWritten_16 rfl rfl ?_
    obtain ⟨hi, hw⟩ := hw
    refine vs_iald hC hW 10 rfl (by decide) hi dX1_countWritten_17 ?_
    refine vs_bipush hC dX1_countWritten_18 (by decide +kernel) ?_
    obtain ⟨hi, hw⟩ := hw
    refine vs_idiv hC dX1_countWritten_20 ⟨hi.1, hi.2, by decide, by decide⟩ ?_
    refine vs_iload_n hC hl 1 dX1_countWritten_21 rfl rfl ?_
    obtain ⟨hx, hw⟩ := hw
    obtain ⟨hy, hw⟩ := hw
    obtain ⟨hwt, hwf⟩ := hw
    refine vs_icmp_ne hC 28 hx hy dX1_countWritten_22 (by decide) (fun hc => ?_) (fun hc => ?_)
    · have hw := hwt hc
      clear hwt hwf hc
      refine vs_iinc (L' := [(0, .ref (a 0)), (1, .int (vs_I x1)), (2, .int (vs_I v2)), (3, .int (vs_I (v3 + 1)))]) hC hl 3 [1, 2, 3, 0] dX1_countWritten_28 rfl (by decide) rfl (fun ls hl => ?_)
      refine vs_goto hC 4 dX1_countWritten_31 (by decide) ?_
      exact ih1 (v2, v3 + 1) hw _ _ _ hW (lv_sub hl [0, 1, 2, 3] rfl)
    · have hw := hwf hc
      clear hwt hwf hc
      refine vs_iinc (L' := [(0, .ref (a 0)), (1, .int (vs_I x1)), (2, .int (vs_I (v2 + 1))), (3, .int (vs_I v3))]) hC hl 2 [1, 2, 0, 3] dX1_countWritten_25 rfl (by decide) rfl (fun ls hl => ?_)
      refine vs_iinc (L' := [(0, .ref (a 0)), (1, .int (vs_I x1)), (2, .int (vs_I (v2 + 1))), (3, .int (vs_I (v3 + 1)))]) hC hl 3 [1, 2, 3, 0] dX1_countWritten_28 rfl (by decide) rfl (fun ls hl => ?_)
      refine vs_goto hC 4 dX1_countWritten_31 (by decide) ?_
      exact ih1 (v2 + 1, v3 + 1) hw _ _ _ hW (lv_sub hl [0, 1, 2, 3] rfl)
set_option maxHeartbeats 4000000 in
set_option maxRecDepth 100000 in
theorem c_X1_countLost (l : Launch) (g : vs_G) (a : Nat → Nat) (wr : va_W) (S : vs_St) (post : Int → Prop) (hw : wX1_countLost S post) : vs_MI l yX1_countLost (Cond.code yX1_countLost cX1_countLost 3 (some .int) :: vs_ws) { frames := 3, cells := 0, slots := 0, locals := 67 } g [.ref (a 0)] (vs_W1 g a S ++ wr) (fun (_ : Unit) => vs_W1 g a S ++ wr) (fun v (_ : Unit) => post v) 0 0 := by
  refine vs_ofW (Qc := fun A => vs_QI g A (fun (_ : Unit) => vs_W1 g a S ++ wr) (fun v (_ : Unit) => post v)) (by decide +kernel) (Nat.le_of_ble_eq_true rfl) (fun p e s m below meth c A ls hC hr hlk hW hl => ?_)
  have hC : CallFix p m c cX1_countLost 3 s _ vs_ws RX1 := hC
  have hl : lv_has ls 3 [(0, .ref (a 0))] := hl
  unfold wX1_countLost at hw
  refine vs_iconst hC dX1_countLost_0 ?_
  refine vs_istore_n (L' := [(0, .ref (a 0)), (1, .int (vs_I 0))]) hC hl [1, 0] dX1_countLost_1 rfl (by decide) rfl (fun ls hl => ?_)
  refine vs_iconst hC dX1_countLost_2 ?_
  refine vs_istore_n (L' := [(0, .ref (a 0)), (1, .int (vs_I 0)), (2, .int (vs_I 0))]) hC hl [1, 2, 0] dX1_countLost_3 rfl (by decide) rfl (fun ls hl => ?_)
  obtain ⟨J1, μ1, hJ, hB1⟩ := hw
  refine vs_loop (V := Int × Int) (J := fun v => J1 v.1 v.2) (μ := fun v => μ1 v.1 v.2) (fun v => vs_W1 g a S ++ wr) (fun v => [(0, .ref (a 0)), (1, .int (vs_I v.1)), (2, .int (vs_I v.2))]) (fun v hJ ih1 H locs ls hW hl => ?_) (0, 0) hJ hW (lv_sub hl [0, 1, 2] rfl)
  obtain ⟨v2, v3⟩ := v
  have hw := hB1 v2 v3 hJ
  have hW : vs_Wd g A _ (vs_W1 g a S ++ wr) _ _ s := hW
  have hl : lv_has ls 3 [(0, .ref (a 0)), (1, .int (vs_I v2)), (2, .int (vs_I v3))] := hl
  clear hJ
  unfold lX1_countLost_4 at hw
  refine vs_iload_n hC hl 2 dX1_countLost_4 rfl rfl ?_
  refine vs_aload_n hC hl 0 dX1_countLost_5 rfl rfl ?_
  refine vs_get hC hW 0 rfl rfl vs_inX1 10 (by decide) vf_X1_57 rfl dX1_countLost_6 ?_
  obtain ⟨hx, hw⟩ := hw
  obtain ⟨hy, hw⟩ := hw
  obtain ⟨hwt, hwf⟩ := hw
  refine vs_icmp_ge hC 34 hx hy dX1_countLost_9 (by decide) (fun hc => ?_) (fun hc => ?_)
  · have hw := hwt hc
    clear hwt hwf hc
    refine vs_iload_n hC hl 1 dX1_countLost_34 rfl rfl ?_
    exact vs_iret () hC hr hlk hW rfl hw (Nat.le_of_ble_eq_true rfl) (Nat.le_of_ble_eq_true rfl) dX1_countLost_35
  · have hw := hwf hc
    clear hwt hwf hc
    refine vs_aload_n hC hl 0 dX1_countLost_12 rfl rfl ?_
    refine vs_aload_n hC hl 0 dX1_countLost_13 rfl rfl ?_
    refine vs_get hC hW 0 rfl rfl vs_inX1 11 (by decide) vf_X1_41 rfl dX1_countLost_14 ?_
    refine vs_iload_n hC hl 2 dX1_countLost_17 rfl rfl ?_
    obtain ⟨hi, hw⟩ := hw
    refine vs_iald hC hW 10 rfl (by decide) hi dX1_countLost_18 ?_
    refine vs_callVI [.int (vs_I (S 11 v3))] hC hW 0 rfl rfl vk_X1_hasLost vm_X1_74 (c_X1_hasLost l g a (wr) S (S 11 v3) _ hw) rfl hl.1 rfl ⟨rfl, rfl⟩ ⟨Nat.le_of_ble_eq_true rfl, Nat.le_of_ble_eq_true rfl⟩ ⟨Nat.le_of_ble_eq_true rfl, Nat.le_of_ble_eq_true rfl⟩ (Nat.le_of_ble_eq_true rfl) dX1_countLost_19 (fun r4 _ H locs hw hW => ?_)
    have hW : vs_Wd g A _ (vs_W1 g a S ++ wr) _ _ s := hW
    obtain ⟨hx, hw⟩ := hw
    obtain ⟨hwt, hwf⟩ := hw
    refine vs_if_eq hC 28 hx dX1_countLost_22 (by decide) (fun hc => ?_) (fun hc => ?_)
    · have hw := hwt hc
      clear hwt hwf hc
      refine vs_iinc (L' := [(0, .ref (a 0)), (1, .int (vs_I v2)), (2, .int (vs_I (v3 + 1)))]) hC hl 2 [1, 2, 0] dX1_countLost_28 rfl (by decide) rfl (fun ls hl => ?_)
      refine vs_goto hC 4 dX1_countLost_31 (by decide) ?_
      exact ih1 (v2, v3 + 1) hw _ _ _ hW (lv_sub hl [0, 1, 2] rfl)
    · have hw := hwf hc
      clear hwt hwf hc
      refine vs_iinc (L' := [(0, .ref (a 0)), (1, .int (vs_I (v2 + 1))), (2, .int (vs_I v3))]) hC hl 1 [1, 0, 2] dX1_countLost_25 rfl (by decide) rfl (fun ls hl => ?_)
      refine vs_iinc (L' := [(0, .ref (a 0)), (1, .int (vs_I (v2 + 1))), (2, .int (vs_I (v3 + 1)))]) hC hl 2 [1, 2, 0] dX1_countLost_28 rfl (by decide) rfl (fun ls hl => ?_)
      refine vs_goto hC 4 dX1_countLost_31 (by decide) ?_
      exact ih1 (v2 + 1, v3 + 1) hw _ _ _ hW (lv_sub hl [0, 1, 2] rfl)
set_option maxHeartbeats 4000000 in
set_option maxRecDepth 100000 in
theorem c_X1_countDegraded (l : Launch) (g : vs_G) (a : Nat → Nat) (wr : va_W) (S : vs_St) (post : Int → Prop) (hw : wX1_countDegraded S post) : vs_MI l yX1_countDegraded (Cond.code yX1_countDegraded cX1_countDegraded 3 (some .int) :: vs_ws) { frames := 1, cells := 0, slots := 0, locals := 21 } g [.ref (a 0)] (vs_W1 g a S ++ wr) (fun (_ : Unit) => vs_W1 g a S ++ wr) (fun v (_ : Unit) => post v) 0 0 := by
  refine vs_ofW (Qc := fun A => vs_QI g A (fun (_ : Unit) => vs_W1 g a S ++ wr) (fun v (_ : Unit) => post v)) (by decide +kernel) (Nat.le_of_ble_eq_true rfl) (fun p e s m below meth c A ls hC hr hlk hW hl => ?_)
  have hC : CallFix p m c cX1_countDegraded 3 s _ vs_ws RX1 := hC
  have hl : lv_has ls 3 [(0, .ref (a 0))] := hl
  unfold wX1_countDegraded at hw
  refine vs_iconst hC dX1_countDegraded_0 ?_
  refine vs_istore_n (L' := [(0, .ref (a 0)), (1, .int (vs_I 0))]) hC hl [1, 0] dX1_countDegraded_1 rfl (by decide) rfl (fun ls hl => ?_)
  refine vs_iconst hC dX1_countDegraded_2 ?_
  refine vs_istore_n (L' := [(0, .ref (a 0)), (1, .int (vs_I 0)), (2, .int (vs_I 0))]) hC hl [1, 2, 0] dX1_countDegraded_3 rfl (by decide) rfl (fun ls hl => ?_)
  obtain ⟨J1, μ1, hJ, hB1⟩ := hw
  refine vs_loop (V := Int × Int) (J := fun v => J1 v.1 v.2) (μ := fun v => μ1 v.1 v.2) (fun v => vs_W1 g a S ++ wr) (fun v => [(0, .ref (a 0)), (1, .int (vs_I v.1)), (2, .int (vs_I v.2))]) (fun v hJ ih1 H locs ls hW hl => ?_) (0, 0) hJ hW (lv_sub hl [0, 1, 2] rfl)
  obtain ⟨v2, v3⟩ := v
  have hw := hB1 v2 v3 hJ
  have hW : vs_Wd g A _ (vs_W1 g a S ++ wr) _ _ s := hW
  have hl : lv_has ls 3 [(0, .ref (a 0)), (1, .int (vs_I v2)), (2, .int (vs_I v3))] := hl
  clear hJ
  unfold lX1_countDegraded_4 at hw
  refine vs_iload_n hC hl 2 dX1_countDegraded_4 rfl rfl ?_
  refine vs_aload_n hC hl 0 dX1_countDegraded_5 rfl rfl ?_
  refine vs_get hC hW 0 rfl rfl vs_inX1 10 (by decide) vf_X1_57 rfl dX1_countDegraded_6 ?_
  obtain ⟨hx, hw⟩ := hw
  obtain ⟨hy, hw⟩ := hw
  obtain ⟨hwt, hwf⟩ := hw
  refine vs_icmp_ge hC 45 hx hy dX1_countDegraded_9 (by decide) (fun hc => ?_) (fun hc => ?_)
  · have hw := hwt hc
    clear hwt hwf hc
    refine vs_iload_n hC hl 1 dX1_countDegraded_45 rfl rfl ?_
    exact vs_iret () hC hr hlk hW rfl hw (Nat.le_of_ble_eq_true rfl) (Nat.le_of_ble_eq_true rfl) dX1_countDegraded_46
  · have hw := hwf hc
    clear hwt hwf hc
    refine vs_aload_n hC hl 0 dX1_countDegraded_12 rfl rfl ?_
    refine vs_get hC hW 0 rfl rfl vs_inX1 8 (by decide) vf_X1_35 rfl dX1_countDegraded_13 ?_
    refine vs_aload_n hC hl 0 dX1_countDegraded_16 rfl rfl ?_
    refine vs_get hC hW 0 rfl rfl vs_inX1 11 (by decide) vf_X1_41 rfl dX1_countDegraded_17 ?_
    refine vs_iload_n hC hl 2 dX1_countDegraded_20 rfl rfl ?_
    obtain ⟨hi, hw⟩ := hw
    refine vs_iald hC hW 10 rfl (by decide) hi dX1_countDegraded_21 ?_
    obtain ⟨hi, hw⟩ := hw
    refine vs_iald hC hW 8 rfl (by decide) hi dX1_countDegraded_22 ?_
    refine vs_aload_n hC hl 0 dX1_countDegraded_23 rfl rfl ?_
    refine vs_aload_n hC hl 0 dX1_countDegraded_24 rfl rfl ?_
    refine vs_get hC hW 0 rfl rfl vs_inX1 11 (by decide) vf_X1_41 rfl dX1_countDegraded_25 ?_
    refine vs_iload_n hC hl 2 dX1_countDegraded_28 rfl rfl ?_
    obtain ⟨hi, hw⟩ := hw
    refine vs_iald hC hW 10 rfl (by decide) hi dX1_countDegraded_29 ?_
    refine vs_callVI [.int (vs_I (S 11 v3))] hC hW 0 rfl rfl vk_X1_wantedOf vm_X1_78 (c_X1_wantedOf l g a (wr) S (S 11 v3) _ hw) rfl hl.1 rfl ⟨rfl, rfl⟩ ⟨Nat.le_of_ble_eq_true rfl, Nat.le_of_ble_eq_true rfl⟩ ⟨Nat.le_of_ble_eq_true rfl, Nat.le_of_ble_eq_true rfl⟩ (Nat.le_of_ble_eq_true rfl) dX1_countDegraded_30 (fun r4 _ H locs hw hW => ?_)
    have hW : vs_Wd g A _ (vs_W1 g a S ++ wr) _ _ s := hW
    obtain ⟨hx, hw⟩ := hw
    obtain ⟨hy, hw⟩ := hw
    obtain ⟨hwt, hwf⟩ := hw
    refine vs_icmp_ge hC 39 hx hy dX1_countDegraded_33 (by decide) (fun hc => ?_) (fun hc => ?_)
    · have hw := hwt hc
      clear hwt hwf hc
      refine vs_iinc (L' := [(0, .ref (a 0)), (1, .int (vs_I v2)), (2, .int (vs_I (v3 + 1)))]) hC hl 2 [1, 2, 0] dX1_countDegraded_39 rfl (by decide) rfl (fun ls hl => ?_)
      refine vs_goto hC 4 dX1_countDegraded_42 (by decide) ?_
      exact ih1 (v2, v3 + 1) hw _ _ _ hW (lv_sub hl [0, 1, 2] rfl)
    · have hw := hwf hc
      clear hwt hwf hc
      refine vs_iinc (L' := [(0, .ref (a 0)), (1, .int (vs_I (v2 + 1))), (2, .int (vs_I v3))]) hC hl 1 [1, 0, 2] dX1_countDegraded_36 rfl (by decide) rfl (fun ls hl => ?_)
      refine vs_iinc (L' := [(0, .ref (a 0)), (1, .int (vs_I (v2 + 1))), (2, .int (vs_I (v3 + 1)))]) hC hl 2 [1, 2, 0] dX1_countDegraded_39 rfl (by decide) rfl (fun ls hl => ?_)
      refine vs_goto hC 4 dX1_countDegraded_42 (by decide) ?_
      exact ih1 (v2 + 1, v3 + 1) hw _ _ _ hW (lv_sub hl [0, 1, 2] rfl)
set_option maxHeartbeats 4000000 in
set_option maxRecDepth 100000 in
theorem c_X1_countInSlots (l : Launch) (g : vs_G) (a : Nat → Nat) (wr : va_W) (S : vs_St) (x1 : Int) (post : Int → Prop) (hw : wX1_countInSlots S x1 post) : vs_MI l yX1_countInSlots (Cond.code yX1_countInSlots cX1_countInSlots 4 (some .int) :: vs_ws) { frames := 0, cells := 0, slots := 0, locals := 0 } g [.ref (a 0), .int (vs_I x1)] (vs_W1 g a S ++ wr) (fun (_ : Unit) => vs_W1 g a S ++ wr) (fun v (_ : Unit) => post v) 0 0 := by
  refine vs_ofW (Qc := fun A => vs_QI g A (fun (_ : Unit) => vs_W1 g a S ++ wr) (fun v (_ : Unit) => post v)) (by decide +kernel) (Nat.le_of_ble_eq_true rfl) (fun p e s m below meth c A ls hC hr hlk hW hl => ?_)
  have hC : CallFix p m c cX1_countInSlots 4 s _ vs_ws RX1 := hC
  have hl : lv_has ls 4 [(0, .ref (a 0)), (1, .int (vs_I x1))] := hl
  unfold wX1_countInSlots at hw
  refine vs_iconst hC dX1_countInSlots_0 ?_
  refine vs_istore_n (L' := [(0, .ref (a 0)), (1, .int (vs_I x1)), (2, .int (vs_I 0))]) hC hl [1, 2, 0] dX1_countInSlots_1 rfl (by decide) rfl (fun ls hl => ?_)
  refine vs_iconst hC dX1_countInSlots_2 ?_
  refine vs_istore_n (L' := [(0, .ref (a 0)), (1, .int (vs_I x1)), (2, .int (vs_I 0)), (3, .int (vs_I 0))]) hC hl [1, 2, 3, 0] dX1_countInSlots_3 rfl (by decide) rfl (fun ls hl => ?_)
  obtain ⟨J1, μ1, hJ, hB1⟩ := hw
  refine vs_loop (V := Int × Int) (J := fun v => J1 v.1 v.2) (μ := fun v => μ1 v.1 v.2) (fun v => vs_W1 g a S ++ wr) (fun v => [(0, .ref (a 0)), (1, .int (vs_I x1)), (2, .int (vs_I v.1)), (3, .int (vs_I v.2))]) (fun v hJ ih1 H locs ls hW hl => ?_) (0, 0) hJ hW (lv_sub hl [0, 1, 2, 3] rfl)
  obtain ⟨v2, v3⟩ := v
  have hw := hB1 v2 v3 hJ
  have hW : vs_Wd g A _ (vs_W1 g a S ++ wr) _ _ s := hW
  have hl : lv_has ls 4 [(0, .ref (a 0)), (1, .int (vs_I x1)), (2, .int (vs_I v2)), (3, .int (vs_I v3))] := hl
  clear hJ
  unfold lX1_countInSlots_4 at hw
  refine vs_iload_n hC hl 3 dX1_countInSlots_4 rfl rfl ?_
  refine vs_sipush hC dX1_countInSlots_5 (by decide +kernel) ?_
  obtain ⟨hx, hw⟩ := hw
  obtain ⟨hwt, hwf⟩ := hw
  refine vs_icmp_ge hC 30 hx ⟨by decide, by decide⟩ dX1_countInSlots_8 (by decide) (fun hc => ?_) (fun hc => ?_)
  · have hw := hwt hc
    clear hwt hwf hc
    refine vs_iload_n hC hl 2 dX1_countInSlots_30 rfl rfl ?_
    exact vs_iret () hC hr hlk hW rfl hw (Nat.le_of_ble_eq_true rfl) (Nat.le_of_ble_eq_true rfl) dX1_countInSlots_31
  · have hw := hwf hc
    clear hwt hwf hc
    refine vs_aload_n hC hl 0 dX1_countInSlots_11 rfl rfl ?_
    refine vs_get hC hW 0 rfl rfl vs_inX1 4 (by decide) vf_X1_22 rfl dX1_countInSlots_12 ?_
    refine vs_iload_n hC hl 3 dX1_countInSlots_15 rfl rfl ?_
    obtain ⟨hi, hw⟩ := hw
    refine vs_iald hC hW 4 rfl (by decide) hi dX1_countInSlots_16 ?_
    refine vs_iload_n hC hl 1 dX1_countInSlots_17 rfl rfl ?_
    obtain ⟨hx, hw⟩ := hw
    obtain ⟨hy, hw⟩ := hw
    obtain ⟨hwt, hwf⟩ := hw
    refine vs_icmp_ne hC 24 hx hy dX1_countInSlots_18 (by decide) (fun hc => ?_) (fun hc => ?_)
    · have hw := hwt hc
      clear hwt hwf hc
      refine vs_iinc (L' := [(0, .ref (a 0)), (1, .int (vs_I x1)), (2, .int (vs_I v2)), (3, .int (vs_I (v3 + 1)))]) hC hl 3 [1, 2, 3, 0] dX1_countInSlots_24 rfl (by decide) rfl (fun ls hl => ?_)
      refine vs_goto hC 4 dX1_countInSlots_27 (by decide) ?_
      exact ih1 (v2, v3 + 1) hw _ _ _ hW (lv_sub hl [0, 1, 2, 3] rfl)
    · have hw := hwf hc
      clear hwt hwf hc
      refine vs_iinc (L' := [(0, .ref (a 0)), (1, .int (vs_I x1)), (2, .int (vs_I (v2 + 1))), (3, .int (vs_I v3))]) hC hl 2 [1, 2, 0, 3] dX1_countInSlots_21 rfl (by decide) rfl (fun ls hl => ?_)
      refine vs_iinc (L' := [(0, .ref (a 0)), (1, .int (vs_I x1)), (2, .int (vs_I (v2 + 1))), (3, .int (vs_I (v3 + 1)))]) hC hl 3 [1, 2, 3, 0] dX1_countInSlots_24 rfl (by decide) rfl (fun ls hl => ?_)
      refine vs_goto hC 4 dX1_countInSlots_27 (by decide) ?_
      exact ih1 (v2 + 1, v3 + 1) hw _ _ _ hW (lv_sub hl [0, 1, 2, 3] rfl)
set_option maxHeartbeats 4000000 in
set_option maxRecDepth 100000 in
theorem c_X1_freeOn (l : Launch) (g : vs_G) (a : Nat → Nat) (wr : va_W) (S : vs_St) (x1 : Int) (post : Int → Prop) (hw : wX1_freeOn S x1 post) : vs_MI l yX1_freeOn (Cond.code yX1_freeOn cX1_freeOn 2 (some .int) :: vs_ws) { frames := 0, cells := 0, slots := 0, locals := 0 } g [.ref (a 0), .int (vs_I x1)] (vs_W1 g a S ++ wr) (fun (_ : Unit) => vs_W1 g a S ++ wr) (fun v (_ : Unit) => post v) 0 0 := by
  refine vs_ofW (Qc := fun A => vs_QI g A (fun (_ : Unit) => vs_W1 g a S ++ wr) (fun v (_ : Unit) => post v)) (by decide +kernel) (Nat.le_of_ble_eq_true rfl) (fun p e s m below meth c A ls hC hr hlk hW hl => ?_)
  have hC : CallFix p m c cX1_freeOn 2 s _ vs_ws RX1 := hC
  have hl : lv_has ls 2 [(0, .ref (a 0)), (1, .int (vs_I x1))] := hl
  unfold wX1_freeOn at hw
  refine vs_aload_n hC hl 0 dX1_freeOn_0 rfl rfl ?_
  refine vs_get hC hW 0 rfl rfl vs_inX1 1 (by decide) vf_X1_9 rfl dX1_freeOn_1 ?_
  refine vs_iload_n hC hl 1 dX1_freeOn_4 rfl rfl ?_
  obtain ⟨hi, hw⟩ := hw
  refine vs_iald hC hW 1 rfl (by decide) hi dX1_freeOn_5 ?_
  refine vs_aload_n hC hl 0 dX1_freeOn_6 rfl rfl ?_
  refine vs_get hC hW 0 rfl rfl vs_inX1 2 (by decide) vf_X1_15 rfl dX1_freeOn_7 ?_
  refine vs_iload_n hC hl 1 dX1_freeOn_10 rfl rfl ?_
  obtain ⟨hi, hw⟩ := hw
  refine vs_iald hC hW 2 rfl (by decide) hi dX1_freeOn_11 ?_
  refine vs_isub hC dX1_freeOn_12 ?_
  exact vs_iret () hC hr hlk hW rfl hw (Nat.le_of_ble_eq_true rfl) (Nat.le_of_ble_eq_true rfl) dX1_freeOn_13
set_option maxHeartbeats 4000000 in
set_option maxRecDepth 100000 in
theorem c_X1_firstFreeOn (l : Launch) (g : vs_G) (a : Nat → Nat) (wr : va_W) (S : vs_St) (x1 : Int) (post : Int → Prop) (hw : wX1_firstFreeOn S x1 post) : vs_MI l yX1_firstFreeOn (Cond.code yX1_firstFreeOn cX1_firstFreeOn 4 (some .int) :: vs_ws) { frames := 0, cells := 0, slots := 0, locals := 0 } g [.ref (a 0), .int (vs_I x1)] (vs_W1 g a S ++ wr) (fun (_ : Unit) => vs_W1 g a S ++ wr) (fun v (_ : Unit) => post v) 0 0 := by
  refine vs_ofW (Qc := fun A => vs_QI g A (fun (_ : Unit) => vs_W1 g a S ++ wr) (fun v (_ : Unit) => post v)) (by decide +kernel) (Nat.le_of_ble_eq_true rfl) (fun p e s m below meth c A ls hC hr hlk hW hl => ?_)
  have hC : CallFix p m c cX1_firstFreeOn 4 s _ vs_ws RX1 := hC
  have hl : lv_has ls 4 [(0, .ref (a 0)), (1, .int (vs_I x1))] := hl
  unfold wX1_firstFreeOn at hw
  refine vs_iload_n hC hl 1 dX1_firstFreeOn_0 rfl rfl ?_
  refine vs_bipush hC dX1_firstFreeOn_1 (by decide +kernel) ?_
  refine vs_imul hC dX1_firstFreeOn_3 ?_
  refine vs_name (fun v1 hv1 => ?_)
  have hw := hw v1 hv1
  refine vs_istore_n (L' := [(0, .ref (a 0)), (1, .int (vs_I x1)), (2, .int (vs_I v1))]) hC hl [1, 2, 0] dX1_firstFreeOn_4 rfl (by decide) rfl (fun ls hl => ?_)
  refine vs_iload_n hC hl 2 dX1_firstFreeOn_5 rfl rfl ?_
  refine vs_istore_n (L' := [(0, .ref (a 0)), (1, .int (vs_I x1)), (2, .int (vs_I v1)), (3, .int (vs_I v1))]) hC hl [1, 2, 3, 0] dX1_firstFreeOn_6 rfl (by decide) rfl (fun ls hl => ?_)
  obtain ⟨J2, μ2, hJ, hB2⟩ := hw
  refine vs_loop (V := Int) (J := fun v => J2 v) (μ := fun v => μ2 v) (fun v => vs_W1 g a S ++ wr) (fun v => [(0, .ref (a 0)), (1, .int (vs_I x1)), (2, .int (vs_I v1)), (3, .int (vs_I v))]) (fun v hJ ih2 H locs ls hW hl => ?_) v1 hJ hW (lv_sub hl [0, 1, 2, 3] rfl)
  obtain ⟨v3, hv⟩ : ∃ z, z = v := ⟨_, rfl⟩
  subst hv
  have hw := hB2 v3 hJ
  have hW : vs_Wd g A _ (vs_W1 g a S ++ wr) _ _ s := hW
  have hl : lv_has ls 4 [(0, .ref (a 0)), (1, .int (vs_I x1)), (2, .int (vs_I v1)), (3, .int (vs_I v3))] := hl
  clear hJ
  unfold lX1_firstFreeOn_7 at hw
  refine vs_iload_n hC hl 3 dX1_firstFreeOn_7 rfl rfl ?_
  refine vs_iload_n hC hl 2 dX1_firstFreeOn_8 rfl rfl ?_
  refine vs_aload_n hC hl 0 dX1_firstFreeOn_9 rfl rfl ?_
  refine vs_get hC hW 0 rfl rfl vs_inX1 1 (by decide) vf_X1_9 rfl dX1_firstFreeOn_10 ?_
  refine vs_iload_n hC hl 1 dX1_firstFreeOn_13 rfl rfl ?_
  obtain ⟨hi, hw⟩ := hw
  refine vs_iald hC hW 1 rfl (by decide) hi dX1_firstFreeOn_14 ?_
  refine vs_iadd hC dX1_firstFreeOn_15 ?_
  obtain ⟨hx, hw⟩ := hw
  obtain ⟨hy, hw⟩ := hw
  obtain ⟨hwt, hwf⟩ := hw
  refine vs_icmp_ge hC 37 hx hy dX1_firstFreeOn_16 (by decide) (fun hc => ?_) (fun hc => ?_)
  · have hw := hwt hc
    clear hwt hwf hc
    refine vs_iconst hC dX1_firstFreeOn_37 ?_
    exact vs_iret () hC hr hlk hW rfl hw (Nat.le_of_ble_eq_true rfl) (Nat.le_of_ble_eq_true rfl) dX1_firstFreeOn_38
  · have hw := hwf hc
    clear hwt hwf hc
    refine vs_aload_n hC hl 0 dX1_firstFreeOn_19 rfl rfl ?_
    refine vs_get hC hW 0 rfl rfl vs_inX1 4 (by decide) vf_X1_22 rfl dX1_firstFreeOn_20 ?_
    refine vs_iload_n hC hl 3 dX1_firstFreeOn_23 rfl rfl ?_
    obtain ⟨hi, hw⟩ := hw
    refine vs_iald hC hW 4 rfl (by decide) hi dX1_firstFreeOn_24 ?_
    refine vs_iconst hC dX1_firstFreeOn_25 ?_
    obtain ⟨hx, hw⟩ := hw
    obtain ⟨hwt, hwf⟩ := hw
    refine vs_icmp_ne hC 31 hx ⟨by decide, by decide⟩ dX1_firstFreeOn_26 (by decide) (fun hc => ?_) (fun hc => ?_)
    · have hw := hwt hc
      clear hwt hwf hc
      refine vs_iinc (L' := [(0, .ref (a 0)), (1, .int (vs_I x1)), (2, .int (vs_I v1)), (3, .int (vs_I (v3 + 1)))]) hC hl 3 [1, 2, 3, 0] dX1_firstFreeOn_31 rfl (by decide) rfl (fun ls hl => ?_)
      refine vs_goto hC 7 dX1_firstFreeOn_34 (by decide) ?_
      exact ih2 (v3 + 1) hw _ _ _ hW (lv_sub hl [0, 1, 2, 3] rfl)
    · have hw := hwf hc
      clear hwt hwf hc
      refine vs_iload_n hC hl 3 dX1_firstFreeOn_29 rfl rfl ?_
      exact vs_iret () hC hr hlk hW rfl hw (Nat.le_of_ble_eq_true rfl) (Nat.le_of_ble_eq_true rfl) dX1_firstFreeOn_30
set_option maxHeartbeats 4000000 in
set_option maxRecDepth 100000 in
theorem c_X1_findPlace (l : Launch) (g : vs_G) (a : Nat → Nat) (wr : va_W) (S : vs_St) (x1 : Int) (post : Int → Prop) (hw : wX1_findPlace S x1 post) : vs_MI l yX1_findPlace (Cond.code yX1_findPlace cX1_findPlace 6 (some .int) :: vs_ws) { frames := 1, cells := 0, slots := 0, locals := 23 } g [.ref (a 0), .int (vs_I x1)] (vs_W1 g a S ++ wr) (fun (_ : Unit) => vs_W1 g a S ++ wr) (fun v (_ : Unit) => post v) 0 0 := by
  refine vs_ofW (Qc := fun A => vs_QI g A (fun (_ : Unit) => vs_W1 g a S ++ wr) (fun v (_ : Unit) => post v)) (by decide +kernel) (Nat.le_of_ble_eq_true rfl) (fun p e s m below meth c A ls hC hr hlk hW hl => ?_)
  have hC : CallFix p m c cX1_findPlace 6 s _ vs_ws RX1 := hC
  have hl : lv_has ls 6 [(0, .ref (a 0)), (1, .int (vs_I x1))] := hl
  unfold wX1_findPlace at hw
  refine vs_iconst hC dX1_findPlace_0 ?_
  refine vs_name (fun v1 hv1 => ?_)
  have hw := hw v1 hv1
  refine vs_istore_n (L' := [(0, .ref (a 0)), (1, .int (vs_I x1)), (2, .int (vs_I v1))]) hC hl [1, 2, 0] dX1_findPlace_1 rfl (by decide) rfl (fun ls hl => ?_)
  refine vs_iconst hC dX1_findPlace_2 ?_
  refine vs_istore_n (L' := [(0, .ref (a 0)), (1, .int (vs_I x1)), (2, .int (vs_I v1)), (3, .int (vs_I 0))]) hC hl [1, 2, 3, 0] dX1_findPlace_3 rfl (by decide) rfl (fun ls hl => ?_)
  refine vs_iconst hC dX1_findPlace_4 ?_
  refine vs_istore (L' := [(0, .ref (a 0)), (1, .int (vs_I x1)), (2, .int (vs_I v1)), (3, .int (vs_I 0)), (4, .int (vs_I 0))]) hC hl [1, 2, 3, 4, 0] dX1_findPlace_5 (by decide) rfl (fun ls hl => ?_)
  obtain ⟨J2, μ2, hJ, hB2⟩ := hw
  refine vs_loop (V := Int × Int × Int) (J := fun v => J2 v.1 v.2.1 v.2.2) (μ := fun v => μ2 v.1 v.2.1 v.2.2) (fun v => vs_W1 g a S ++ wr) (fun v => [(0, .ref (a 0)), (1, .int (vs_I x1)), (2, .int (vs_I v.1)), (3, .int (vs_I v.2.1)), (4, .int (vs_I v.2.2))]) (fun v hJ ih2 H locs ls hW hl => ?_) (v1, 0, 0) hJ hW (lv_sub hl [0, 1, 2, 3, 4] rfl)
  obtain ⟨v3, v4, v5⟩ := v
  have hw := hB2 v3 v4 v5 hJ
  have hW : vs_Wd g A _ (vs_W1 g a S ++ wr) _ _ s := hW
  have hl : lv_has ls 6 [(0, .ref (a 0)), (1, .int (vs_I x1)), (2, .int (vs_I v3)), (3, .int (vs_I v4)), (4, .int (vs_I v5))] := hl
  clear hJ
  unfold lX1_findPlace_7 at hw
  refine vs_iload hC hl 4 dX1_findPlace_7 rfl ?_
  refine vs_aload_n hC hl 0 dX1_findPlace_9 rfl rfl ?_
  refine vs_get hC hW 0 rfl rfl vs_inX1 0 (by decide) vf_X1_53 rfl dX1_findPlace_10 ?_
  obtain ⟨hx, hw⟩ := hw
  obtain ⟨hy, hw⟩ := hw
  obtain ⟨hwt, hwf⟩ := hw
  refine vs_icmp_ge hC 75 hx hy dX1_findPlace_13 (by decide) (fun hc => ?_) (fun hc => ?_)
  · have hw := hwt hc
    clear hwt hwf hc
    refine vs_iload_n hC hl 2 dX1_findPlace_75 rfl rfl ?_
    refine vs_iconst hC dX1_findPlace_76 ?_
    obtain ⟨hx, hw⟩ := hw
    obtain ⟨hwt, hwf⟩ := hw
    refine vs_icmp_ne hC 84 hx ⟨by decide, by decide⟩ dX1_findPlace_77 (by decide) (fun hc => ?_) (fun hc => ?_)
    · have hw := hwt hc
      clear hwt hwf hc
      refine vs_aload_n hC hl 0 dX1_findPlace_84 rfl rfl ?_
      refine vs_iload_n hC hl 2 dX1_findPlace_85 rfl rfl ?_
      refine vs_callVI [.int (vs_I v3)] hC hW 0 rfl rfl vk_X1_firstFreeOn vm_X1_84 (c_X1_firstFreeOn l g a (wr) S v3 _ hw) rfl hl.1 rfl ⟨rfl, rfl⟩ ⟨Nat.le_of_ble_eq_true rfl, Nat.le_of_ble_eq_true rfl⟩ ⟨Nat.le_of_ble_eq_true rfl, Nat.le_of_ble_eq_true rfl⟩ (Nat.le_of_ble_eq_true rfl) dX1_findPlace_86 (fun r6 _ H locs hw hW => ?_)
      have hW : vs_Wd g A _ (vs_W1 g a S ++ wr) _ _ s := hW
      exact vs_iret () hC hr hlk hW rfl hw (Nat.le_of_ble_eq_true rfl) (Nat.le_of_ble_eq_true rfl) dX1_findPlace_89
    · have hw := hwf hc
      clear hwt hwf hc
      refine vs_iconst hC dX1_findPlace_80 ?_
      refine vs_goto hC 89 dX1_findPlace_81 (by decide) ?_
      exact vs_iret () hC hr hlk hW rfl hw (Nat.le_of_ble_eq_true rfl) (Nat.le_of_ble_eq_true rfl) dX1_findPlace_89
  · have hw := hwf hc
    clear hwt hwf hc
    refine vs_aload_n hC hl 0 dX1_findPlace_16 rfl rfl ?_
    refine vs_get hC hW 0 rfl rfl vs_inX1 3 (by decide) vf_X1_18 rfl dX1_findPlace_17 ?_
    refine vs_iload hC hl 4 dX1_findPlace_20 rfl ?_
    obtain ⟨hi, hw⟩ := hw
    refine vs_cald hC hW 3 rfl (by decide) hi dX1_findPlace_22 ?_
    refine vs_bipush hC dX1_findPlace_23 (by decide +kernel) ?_
    obtain ⟨hx, hw⟩ := hw
    obtain ⟨hwt, hwf⟩ := hw
    refine vs_icmp_ne hC 41 hx ⟨by decide, by decide⟩ dX1_findPlace_25 (by decide) (fun hc => ?_) (fun hc => ?_)
    · have hw := hwt hc
      clear hwt hwf hc
      refine vs_iconst hC dX1_findPlace_41 ?_
      refine vs_istore (L' := [(0, .ref (a 0)), (1, .int (vs_I x1)), (2, .int (vs_I v3)), (3, .int (vs_I v4)), (4, .int (vs_I v5)), (5, .int (vs_I 0))]) hC hl [1, 2, 3, 4, 5, 0] dX1_findPlace_42 (by decide) rfl (fun ls hl => ?_)
      refine vs_iload hC hl 5 dX1_findPlace_44 rfl ?_
      refine vs_if_eq hC 69 ⟨by decide, by decide⟩ dX1_findPlace_46 (by decide) (fun _ => ?_) (fun hc => absurd hc (by decide))
      refine vs_iinc (L' := [(0, .ref (a 0)), (1, .int (vs_I x1)), (2, .int (vs_I v3)), (3, .int (vs_I v4)), (4, .int (vs_I (v5 + 1))), (5, .int (vs_I 0))]) hC hl 4 [1, 2, 3, 4, 0, 5] dX1_findPlace_69 rfl (by decide) rfl (fun ls hl => ?_)
      refine vs_goto hC 7 dX1_findPlace_72 (by decide) ?_
      exact ih2 (v3, v4, v5 + 1) hw _ _ _ hW (lv_sub hl [0, 1, 2, 3, 4] rfl)
    · have hw := hwf hc
      clear hwt hwf hc
      refine vs_iload_n hC hl 1 dX1_findPlace_28 rfl rfl ?_
      refine vs_iload hC hl 4 dX1_findPlace_29 rfl ?_
      refine vs_ishr hC dX1_findPlace_31 ?_
      refine vs_iconst hC dX1_findPlace_32 ?_
      refine vs_iand hC dX1_findPlace_33 ?_
      obtain ⟨hx, hw⟩ := hw
      obtain ⟨hwt, hwf⟩ := hw
      refine vs_if_ne hC 41 hx dX1_findPlace_34 (by decide) (fun hc => ?_) (fun hc => ?_)
      · have hw := hwt hc
        clear hwt hwf hc
        refine vs_iconst hC dX1_findPlace_41 ?_
        refine vs_istore (L' := [(0, .ref (a 0)), (1, .int (vs_I x1)), (2, .int (vs_I v3)), (3, .int (vs_I v4)), (4, .int (vs_I v5)), (5, .int (vs_I 0))]) hC hl [1, 2, 3, 4, 5, 0] dX1_findPlace_42 (by decide) rfl (fun ls hl => ?_)
        refine vs_iload hC hl 5 dX1_findPlace_44 rfl ?_
        refine vs_if_eq hC 69 ⟨by decide, by decide⟩ dX1_findPlace_46 (by decide) (fun _ => ?_) (fun hc => absurd hc (by decide))
        refine vs_iinc (L' := [(0, .ref (a 0)), (1, .int (vs_I x1)), (2, .int (vs_I v3)), (3, .int (vs_I v4)), (4, .int (vs_I (v5 + 1))), (5, .int (vs_I 0))]) hC hl 4 [1, 2, 3, 4, 0, 5] dX1_findPlace_69 rfl (by decide) rfl (fun ls hl => ?_)
        refine vs_goto hC 7 dX1_findPlace_72 (by decide) ?_
        exact ih2 (v3, v4, v5 + 1) hw _ _ _ hW (lv_sub hl [0, 1, 2, 3, 4] rfl)
      · have hw := hwf hc
        clear hwt hwf hc
        refine vs_iconst hC dX1_findPlace_37 ?_
        refine vs_goto hC 42 dX1_findPlace_38 (by decide) ?_
        refine vs_istore (L' := [(0, .ref (a 0)), (1, .int (vs_I x1)), (2, .int (vs_I v3)), (3, .int (vs_I v4)), (4, .int (vs_I v5)), (5, .int (vs_I 1))]) hC hl [1, 2, 3, 4, 5, 0] dX1_findPlace_42 (by decide) rfl (fun ls hl => ?_)
        refine vs_iload hC hl 5 dX1_findPlace_44 rfl ?_
        refine vs_if_eq hC 69 ⟨by decide, by decide⟩ dX1_findPlace_46 (by decide) (fun hc => absurd hc (by decide)) (fun _ => ?_)
        refine vs_aload_n hC hl 0 dX1_findPlace_49 rfl rfl ?_
        refine vs_iload hC hl 4 dX1_findPlace_50 rfl ?_
        refine vs_callVI [.int (vs_I v5)] hC hW 0 rfl rfl vk_X1_freeOn vm_X1_81 (c_X1_freeOn l g a (wr) S v5 _ hw) rfl hl.1 rfl ⟨rfl, rfl⟩ ⟨Nat.le_of_ble_eq_true rfl, Nat.le_of_ble_eq_true rfl⟩ ⟨Nat.le_of_ble_eq_true rfl, Nat.le_of_ble_eq_true rfl⟩ (Nat.le_of_ble_eq_true rfl) dX1_findPlace_52 (fun r7 _ H locs hw hW => ?_)
        have hW : vs_Wd g A _ (vs_W1 g a S ++ wr) _ _ s := hW
        refine vs_iload_n hC hl 3 dX1_findPlace_55 rfl rfl ?_
        obtain ⟨hx, hw⟩ := hw
        obtain ⟨hy, hw⟩ := hw
        obtain ⟨hwt, hwf⟩ := hw
        refine vs_icmp_le hC 69 hx hy dX1_findPlace_56 (by decide) (fun hc => ?_) (fun hc => ?_)
        · have hw := hwt hc
          clear hwt hwf hc
          refine vs_iinc (L' := [(0, .ref (a 0)), (1, .int (vs_I x1)), (2, .int (vs_I v3)), (3, .int (vs_I v4)), (4, .int (vs_I (v5 + 1))), (5, .int (vs_I 1))]) hC hl 4 [1, 2, 3, 4, 0, 5] dX1_findPlace_69 rfl (by decide) rfl (fun ls hl => ?_)
          refine vs_goto hC 7 dX1_findPlace_72 (by decide) ?_
          exact ih2 (v3, v4, v5 + 1) hw _ _ _ hW (lv_sub hl [0, 1, 2, 3, 4] rfl)
        · have hw := hwf hc
          clear hwt hwf hc
          refine vs_iload hC hl 4 dX1_findPlace_59 rfl ?_
          refine vs_istore_n (L' := [(0, .ref (a 0)), (1, .int (vs_I x1)), (2, .int (vs_I v5)), (3, .int (vs_I v4)), (4, .int (vs_I v5)), (5, .int (vs_I 1))]) hC hl [1, 2, 0, 3, 4, 5] dX1_findPlace_61 rfl (by decide) rfl (fun ls hl => ?_)
          refine vs_aload_n hC hl 0 dX1_findPlace_62 rfl rfl ?_
          refine vs_iload hC hl 4 dX1_findPlace_63 rfl ?_
          refine vs_callVI [.int (vs_I v5)] hC hW 0 rfl rfl vk_X1_freeOn vm_X1_81 (c_X1_freeOn l g a (wr) S v5 _ hw) rfl hl.1 rfl ⟨rfl, rfl⟩ ⟨Nat.le_of_ble_eq_true rfl, Nat.le_of_ble_eq_true rfl⟩ ⟨Nat.le_of_ble_eq_true rfl, Nat.le_of_ble_eq_true rfl⟩ (Nat.le_of_ble_eq_true rfl) dX1_findPlace_65 (fun r8 _ H locs hw hW => ?_)
          have hW : vs_Wd g A _ (vs_W1 g a S ++ wr) _ _ s := hW
          refine vs_istore_n (L' := [(0, .ref (a 0)), (1, .int (vs_I x1)), (2, .int (vs_I v5)), (3, .int (vs_I r8)), (4, .int (vs_I v5)), (5, .int (vs_I 1))]) hC hl [1, 2, 3, 0, 4, 5] dX1_findPlace_68 rfl (by decide) rfl (fun ls hl => ?_)
          refine vs_iinc (L' := [(0, .ref (a 0)), (1, .int (vs_I x1)), (2, .int (vs_I v5)), (3, .int (vs_I r8)), (4, .int (vs_I (v5 + 1))), (5, .int (vs_I 1))]) hC hl 4 [1, 2, 3, 4, 0, 5] dX1_findPlace_69 rfl (by decide) rfl (fun ls hl => ?_)
          refine vs_goto hC 7 dX1_findPlace_72 (by decide) ?_
          exact ih2 (v5, r8, v5 + 1) hw _ _ _ hW (lv_sub hl [0, 1, 2, 3, 4] rfl)
set_option maxHeartbeats 4000000 in
set_option maxRecDepth 100000 in
theorem c_X1_addCopy (l : Launch) (g : vs_G) (a : Nat → Nat) (wr : va_W) (S : vs_St) (x1 : Int) (x2 : Int) (post : vs_St → Prop) (hw : wX1_addCopy S x1 x2 post) : vs_MV l yX1_addCopy (Cond.code yX1_addCopy cX1_addCopy 3 (none) :: vs_ws) { frames := 0, cells := 0, slots := 0, locals := 0 } g [.ref (a 0), .int (vs_I x1), .int (vs_I x2)] (vs_W1 g a S ++ wr) (fun (S' : vs_St) => vs_W1 g a S' ++ wr) post 0 0 := by
  refine vs_ofW (Qc := fun A => vs_QV g A (fun (S' : vs_St) => vs_W1 g a S' ++ wr) post) (by decide +kernel) (Nat.le_of_ble_eq_true rfl) (fun p e s m below meth c A ls hC hr hlk hW hl => ?_)
  have hC : CallFix p m c cX1_addCopy 3 s _ vs_ws RX1 := hC
  have hl : lv_has ls 3 [(0, .ref (a 0)), (1, .int (vs_I x1)), (2, .int (vs_I x2))] := hl
  unfold wX1_addCopy at hw
  refine vs_aload_n hC hl 0 dX1_addCopy_0 rfl rfl ?_
  refine vs_get hC hW 0 rfl rfl vs_inX1 4 (by decide) vf_X1_22 rfl dX1_addCopy_1 ?_
  refine vs_iload_n hC hl 2 dX1_addCopy_4 rfl rfl ?_
  refine vs_iload_n hC hl 1 dX1_addCopy_5 rfl rfl ?_
  obtain ⟨hi, hw⟩ := hw
  obtain ⟨S1, hS1⟩ : ∃ z : vs_St, z = vs_st S 4 x2 x1 := ⟨_, rfl⟩
  have hw := hw S1 hS1
  refine vs_iast (Wo' := vs_W1 g a S1 ++ wr) hC hW 4 rfl (by decide) hi (by rw [hS1]; rfl) dX1_addCopy_6 (fun H locs hW => ?_)
  refine vs_aload_n hC hl 0 dX1_addCopy_7 rfl rfl ?_
  refine vs_get hC hW 0 rfl rfl vs_inX1 5 (by decide) vf_X1_25 rfl dX1_addCopy_8 ?_
  refine vs_iload_n hC hl 2 dX1_addCopy_11 rfl rfl ?_
  refine vs_iconst hC dX1_addCopy_12 ?_
  obtain ⟨hi, hw⟩ := hw
  obtain ⟨S2, hS2⟩ : ∃ z : vs_St, z = vs_st S1 5 x2 0 := ⟨_, rfl⟩
  have hw := hw S2 hS2
  refine vs_zast (Wo' := vs_W1 g a S2 ++ wr) hC hW 5 rfl (by decide) hi (by decide) (by rw [hS2]; rfl) dX1_addCopy_13 (fun H locs hW => ?_)
  refine vs_aload_n hC hl 0 dX1_addCopy_14 rfl rfl ?_
  refine vs_get hC hW 0 rfl rfl vs_inX1 2 (by decide) vf_X1_15 rfl dX1_addCopy_15 ?_
  refine vs_iload_n hC hl 2 dX1_addCopy_18 rfl rfl ?_
  refine vs_bipush hC dX1_addCopy_19 (by decide +kernel) ?_
  obtain ⟨hi, hw⟩ := hw
  refine vs_idiv hC dX1_addCopy_21 ⟨hi.1, hi.2, by decide, by decide⟩ ?_
  refine vs_dup2 hC dX1_addCopy_22 rfl rfl ?_
  obtain ⟨hi, hw⟩ := hw
  refine vs_iald hC hW 2 rfl (by decide) hi dX1_addCopy_23 ?_
  refine vs_iconst hC dX1_addCopy_24 ?_
  refine vs_iadd hC dX1_addCopy_25 ?_
  obtain ⟨hi, hw⟩ := hw
  obtain ⟨S3, hS3⟩ : ∃ z : vs_St, z = vs_st S2 2 (x2 / 32) ((S2 2 (x2 / 32)) + 1) := ⟨_, rfl⟩
  have hw := hw S3 hS3
  refine vs_iast (Wo' := vs_W1 g a S3 ++ wr) hC hW 2 rfl (by decide) hi (by rw [hS3]; rfl) dX1_addCopy_26 (fun H locs hW => ?_)
  refine vs_aload_n hC hl 0 dX1_addCopy_27 rfl rfl ?_
  refine vs_get hC hW 0 rfl rfl vs_inX1 9 (by decide) vf_X1_38 rfl dX1_addCopy_28 ?_
  refine vs_iload_n hC hl 1 dX1_addCopy_31 rfl rfl ?_
  refine vs_iconst hC dX1_addCopy_32 ?_
  refine vs_imul hC dX1_addCopy_33 ?_
  refine vs_aload_n hC hl 0 dX1_addCopy_34 rfl rfl ?_
  refine vs_get hC hW 0 rfl rfl vs_inX1 8 (by decide) vf_X1_35 rfl dX1_addCopy_35 ?_
  refine vs_iload_n hC hl 1 dX1_addCopy_38 rfl rfl ?_
  obtain ⟨hi, hw⟩ := hw
  refine vs_iald hC hW 8 rfl (by decide) hi dX1_addCopy_39 ?_
  refine vs_iadd hC dX1_addCopy_40 ?_
  refine vs_iload_n hC hl 2 dX1_addCopy_41 rfl rfl ?_
  obtain ⟨hi, hw⟩ := hw
  obtain ⟨S4, hS4⟩ : ∃ z : vs_St, z = vs_st S3 9 ((x1 * 3) + (S3 8 x1)) x2 := ⟨_, rfl⟩
  have hw := hw S4 hS4
  refine vs_iast (Wo' := vs_W1 g a S4 ++ wr) hC hW 9 rfl (by decide) hi (by rw [hS4]; rfl) dX1_addCopy_42 (fun H locs hW => ?_)
  refine vs_aload_n hC hl 0 dX1_addCopy_43 rfl rfl ?_
  refine vs_get hC hW 0 rfl rfl vs_inX1 8 (by decide) vf_X1_35 rfl dX1_addCopy_44 ?_
  refine vs_iload_n hC hl 1 dX1_addCopy_47 rfl rfl ?_
  refine vs_dup2 hC dX1_addCopy_48 rfl rfl ?_
  obtain ⟨hi, hw⟩ := hw
  refine vs_iald hC hW 8 rfl (by decide) hi dX1_addCopy_49 ?_
  refine vs_iconst hC dX1_addCopy_50 ?_
  refine vs_iadd hC dX1_addCopy_51 ?_
  obtain ⟨hi, hw⟩ := hw
  obtain ⟨S5, hS5⟩ : ∃ z : vs_St, z = vs_st S4 8 x1 ((S4 8 x1) + 1) := ⟨_, rfl⟩
  have hw := hw S5 hS5
  refine vs_iast (Wo' := vs_W1 g a S5 ++ wr) hC hW 8 rfl (by decide) hi (by rw [hS5]; rfl) dX1_addCopy_52 (fun H locs hW => ?_)
  exact vs_vret (S5) hC hr hlk hW rfl hw (Nat.le_of_ble_eq_true rfl) (Nat.le_of_ble_eq_true rfl) dX1_addCopy_53
set_option maxHeartbeats 4000000 in
set_option maxRecDepth 100000 in
theorem c_X1_removeCopy (l : Launch) (g : vs_G) (a : Nat → Nat) (wr : va_W) (S : vs_St) (x1 : Int) (x2 : Int) (post : vs_St → Prop) (hw : wX1_removeCopy S x1 x2 post) : vs_MV l yX1_removeCopy (Cond.code yX1_removeCopy cX1_removeCopy 6 (none) :: vs_ws) { frames := 1, cells := 0, slots := 0, locals := 22 } g [.ref (a 0), .int (vs_I x1), .int (vs_I x2)] (vs_W1 g a S ++ wr) (fun (S' : vs_St) => vs_W1 g a S' ++ wr) post 0 0 := by
  refine vs_ofW (Qc := fun A => vs_QV g A (fun (S' : vs_St) => vs_W1 g a S' ++ wr) post) (by decide +kernel) (Nat.le_of_ble_eq_true rfl) (fun p e s m below meth c A ls hC hr hlk hW hl => ?_)
  have hC : CallFix p m c cX1_removeCopy 6 s _ vs_ws RX1 := hC
  have hl : lv_has ls 6 [(0, .ref (a 0)), (1, .int (vs_I x1)), (2, .int (vs_I x2))] := hl
  unfold wX1_removeCopy at hw
  refine vs_aload_n hC hl 0 dX1_removeCopy_0 rfl rfl ?_
  refine vs_iload_n hC hl 1 dX1_removeCopy_1 rfl rfl ?_
  refine vs_iload_n hC hl 2 dX1_removeCopy_2 rfl rfl ?_
  refine vs_callVI [.int (vs_I x1), .int (vs_I x2)] hC hW 0 rfl rfl vk_X1_addressOf vm_X1_66 (c_X1_addressOf l g a (wr) S x1 x2 _ hw) rfl hl.1 rfl ⟨rfl, rfl⟩ ⟨Nat.le_of_ble_eq_true rfl, Nat.le_of_ble_eq_true rfl⟩ ⟨Nat.le_of_ble_eq_true rfl, Nat.le_of_ble_eq_true rfl⟩ (Nat.le_of_ble_eq_true rfl) dX1_removeCopy_3 (fun r1 _ H locs hw hW => ?_)
  have hW : vs_Wd g A _ (vs_W1 g a S ++ wr) _ _ s := hW
  refine vs_istore_n (L' := [(0, .ref (a 0)), (1, .int (vs_I x1)), (2, .int (vs_I x2)), (3, .int (vs_I r1))]) hC hl [1, 2, 3, 0] dX1_removeCopy_6 rfl (by decide) rfl (fun ls hl => ?_)
  refine vs_aload_n hC hl 0 dX1_removeCopy_7 rfl rfl ?_
  refine vs_get hC hW 0 rfl rfl vs_inX1 4 (by decide) vf_X1_22 rfl dX1_removeCopy_8 ?_
  refine vs_iload_n hC hl 3 dX1_removeCopy_11 rfl rfl ?_
  refine vs_iconst hC dX1_removeCopy_12 ?_
  obtain ⟨hi, hw⟩ := hw
  obtain ⟨S2, hS2⟩ : ∃ z : vs_St, z = vs_st S 4 r1 (-1) := ⟨_, rfl⟩
  have hw := hw S2 hS2
  refine vs_iast (Wo' := vs_W1 g a S2 ++ wr) hC hW 4 rfl (by decide) hi (by rw [hS2]; rfl) dX1_removeCopy_13 (fun H locs hW => ?_)
  refine vs_aload_n hC hl 0 dX1_removeCopy_14 rfl rfl ?_
  refine vs_get hC hW 0 rfl rfl vs_inX1 5 (by decide) vf_X1_25 rfl dX1_removeCopy_15 ?_
  refine vs_iload_n hC hl 3 dX1_removeCopy_18 rfl rfl ?_
  refine vs_iconst hC dX1_removeCopy_19 ?_
  obtain ⟨hi, hw⟩ := hw
  obtain ⟨S3, hS3⟩ : ∃ z : vs_St, z = vs_st S2 5 r1 0 := ⟨_, rfl⟩
  have hw := hw S3 hS3
  refine vs_zast (Wo' := vs_W1 g a S3 ++ wr) hC hW 5 rfl (by decide) hi (by decide) (by rw [hS3]; rfl) dX1_removeCopy_20 (fun H locs hW => ?_)
  refine vs_aload_n hC hl 0 dX1_removeCopy_21 rfl rfl ?_
  refine vs_get hC hW 0 rfl rfl vs_inX1 2 (by decide) vf_X1_15 rfl dX1_removeCopy_22 ?_
  refine vs_iload_n hC hl 3 dX1_removeCopy_25 rfl rfl ?_
  refine vs_bipush hC dX1_removeCopy_26 (by decide +kernel) ?_
  obtain ⟨hi, hw⟩ := hw
  refine vs_idiv hC dX1_removeCopy_28 ⟨hi.1, hi.2, by decide, by decide⟩ ?_
  refine vs_dup2 hC dX1_removeCopy_29 rfl rfl ?_
  obtain ⟨hi, hw⟩ := hw
  refine vs_iald hC hW 2 rfl (by decide) hi dX1_removeCopy_30 ?_
  refine vs_iconst hC dX1_removeCopy_31 ?_
  refine vs_isub hC dX1_removeCopy_32 ?_
  obtain ⟨hi, hw⟩ := hw
  obtain ⟨S4, hS4⟩ : ∃ z : vs_St, z = vs_st S3 2 (r1 / 32) ((S3 2 (r1 / 32)) - 1) := ⟨_, rfl⟩
  have hw := hw S4 hS4
  refine vs_iast (Wo' := vs_W1 g a S4 ++ wr) hC hW 2 rfl (by decide) hi (by rw [hS4]; rfl) dX1_removeCopy_33 (fun H locs hW => ?_)
  refine vs_aload_n hC hl 0 dX1_removeCopy_34 rfl rfl ?_
  refine vs_get hC hW 0 rfl rfl vs_inX1 8 (by decide) vf_X1_35 rfl dX1_removeCopy_35 ?_
  refine vs_iload_n hC hl 1 dX1_removeCopy_38 rfl rfl ?_
  refine vs_dup2 hC dX1_removeCopy_39 rfl rfl ?_
  obtain ⟨hi, hw⟩ := hw
  refine vs_iald hC hW 8 rfl (by decide) hi dX1_removeCopy_40 ?_
  refine vs_iconst hC dX1_removeCopy_41 ?_
  refine vs_isub hC dX1_removeCopy_42 ?_
  obtain ⟨hi, hw⟩ := hw
  obtain ⟨S5, hS5⟩ : ∃ z : vs_St, z = vs_st S4 8 x1 ((S4 8 x1) - 1) := ⟨_, rfl⟩
  have hw := hw S5 hS5
  refine vs_iast (Wo' := vs_W1 g a S5 ++ wr) hC hW 8 rfl (by decide) hi (by rw [hS5]; rfl) dX1_removeCopy_43 (fun H locs hW => ?_)
  refine vs_iload_n hC hl 1 dX1_removeCopy_44 rfl rfl ?_
  refine vs_iconst hC dX1_removeCopy_45 ?_
  refine vs_imul hC dX1_removeCopy_46 ?_
  refine vs_name (fun v6 hv6 => ?_)
  have hw := hw v6 hv6
  refine vs_istore (L' := [(0, .ref (a 0)), (1, .int (vs_I x1)), (2, .int (vs_I x2)), (3, .int (vs_I r1)), (4, .int (vs_I v6))]) hC hl [1, 2, 3, 4, 0] dX1_removeCopy_47 (by decide) rfl (fun ls hl => ?_)
  refine vs_iload_n hC hl 2 dX1_removeCopy_49 rfl rfl ?_
  refine vs_istore (L' := [(0, .ref (a 0)), (1, .int (vs_I x1)), (2, .int (vs_I x2)), (3, .int (vs_I r1)), (4, .int (vs_I v6)), (5, .int (vs_I x2))]) hC hl [1, 2, 3, 4, 5, 0] dX1_removeCopy_50 (by decide) rfl (fun ls hl => ?_)
  obtain ⟨J7, μ7, hJ, hB7⟩ := hw
  refine vs_loop (V := Int × vs_St) (J := fun v => J7 v.1 v.2) (μ := fun v => μ7 v.1 v.2) (fun v => vs_W1 g a v.2 ++ wr) (fun v => [(0, .ref (a 0)), (1, .int (vs_I x1)), (4, .int (vs_I v6)), (5, .int (vs_I v.1))]) (fun v hJ ih7 H locs ls hW hl => ?_) (x2, S5) hJ hW (lv_sub hl [0, 1, 4, 5] rfl)
  obtain ⟨v8, S9⟩ := v
  have hw := hB7 v8 S9 hJ
  have hW : vs_Wd g A _ (vs_W1 g a S9 ++ wr) _ _ s := hW
  have hl : lv_has ls 6 [(0, .ref (a 0)), (1, .int (vs_I x1)), (4, .int (vs_I v6)), (5, .int (vs_I v8))] := hl
  clear hJ
  unfold lX1_removeCopy_52 at hw
  refine vs_iload hC hl 3 dX1_removeCopy_52 rfl ?_
  refine vs_aload_n hC hl 0 dX1_removeCopy_54 rfl rfl ?_
  refine vs_get hC hW 0 rfl rfl vs_inX1 8 (by decide) vf_X1_35 rfl dX1_removeCopy_55 ?_
  refine vs_iload_n hC hl 1 dX1_removeCopy_58 rfl rfl ?_
  obtain ⟨hi, hw⟩ := hw
  refine vs_iald hC hW 8 rfl (by decide) hi dX1_removeCopy_59 ?_
  obtain ⟨hx, hw⟩ := hw
  obtain ⟨hy, hw⟩ := hw
  obtain ⟨hwt, hwf⟩ := hw
  refine vs_icmp_ge hC 91 hx hy dX1_removeCopy_60 (by decide) (fun hc => ?_) (fun hc => ?_)
  · have hw := hwt hc
    clear hwt hwf hc
    exact vs_vret (S9) hC hr hlk hW rfl hw (Nat.le_of_ble_eq_true rfl) (Nat.le_of_ble_eq_true rfl) dX1_removeCopy_91
  · have hw := hwf hc
    clear hwt hwf hc
    refine vs_aload_n hC hl 0 dX1_removeCopy_63 rfl rfl ?_
    refine vs_get hC hW 0 rfl rfl vs_inX1 9 (by decide) vf_X1_38 rfl dX1_removeCopy_64 ?_
    refine vs_iload hC hl 2 dX1_removeCopy_67 rfl ?_
    refine vs_iload hC hl 3 dX1_removeCopy_69 rfl ?_
    refine vs_iadd hC dX1_removeCopy_71 ?_
    refine vs_aload_n hC hl 0 dX1_removeCopy_72 rfl rfl ?_
    refine vs_get hC hW 0 rfl rfl vs_inX1 9 (by decide) vf_X1_38 rfl dX1_removeCopy_73 ?_
    refine vs_iload hC hl 2 dX1_removeCopy_76 rfl ?_
    refine vs_iload hC hl 3 dX1_removeCopy_78 rfl ?_
    refine vs_iadd hC dX1_removeCopy_80 ?_
    refine vs_iconst hC dX1_removeCopy_81 ?_
    refine vs_iadd hC dX1_removeCopy_82 ?_
    obtain ⟨hi, hw⟩ := hw
    refine vs_iald hC hW 9 rfl (by decide) hi dX1_removeCopy_83 ?_
    obtain ⟨hi, hw⟩ := hw
    obtain ⟨S10, hS10⟩ : ∃ z : vs_St, z = vs_st S9 9 (v6 + v8) (S9 9 ((v6 + v8) + 1)) := ⟨_, rfl⟩
    have hw := hw S10 hS10
    refine vs_iast (Wo' := vs_W1 g a S10 ++ wr) hC hW 9 rfl (by decide) hi (by rw [hS10]; rfl) dX1_removeCopy_84 (fun H locs hW => ?_)
    refine vs_iinc (L' := [(0, .ref (a 0)), (1, .int (vs_I x1)), (4, .int (vs_I v6)), (5, .int (vs_I (v8 + 1)))]) hC hl 3 [1, 2, 3, 0] dX1_removeCopy_85 rfl (by decide) rfl (fun ls hl => ?_)
    refine vs_goto hC 52 dX1_removeCopy_88 (by decide) ?_
    exact ih7 (v8 + 1, S10) hw _ _ _ hW (lv_sub hl [0, 1, 2, 3] rfl)
set_option maxHeartbeats 4000000 in
set_option maxRecDepth 100000 in
theorem c_X1_renewCopies (l : Launch) (g : vs_G) (a : Nat → Nat) (wr : va_W) (S : vs_St) (x1 : Int) (post : vs_St → Prop) (hw : wX1_renewCopies S x1 post) : vs_MV l yX1_renewCopies (Cond.code yX1_renewCopies cX1_renewCopies 3 (none) :: vs_ws) { frames := 1, cells := 0, slots := 0, locals := 22 } g [.ref (a 0), .int (vs_I x1)] (vs_W1 g a S ++ wr) (fun (S' : vs_St) => vs_W1 g a S' ++ wr) post 0 0 := by
  refine vs_ofW (Qc := fun A => vs_QV g A (fun (S' : vs_St) => vs_W1 g a S' ++ wr) post) (by decide +kernel) (Nat.le_of_ble_eq_true rfl) (fun p e s m below meth c A ls hC hr hlk hW hl => ?_)
  have hC : CallFix p m c cX1_renewCopies 3 s _ vs_ws RX1 := hC
  have hl : lv_has ls 3 [(0, .ref (a 0)), (1, .int (vs_I x1))] := hl
  unfold wX1_renewCopies at hw
  refine vs_iconst hC dX1_renewCopies_0 ?_
  refine vs_istore_n (L' := [(0, .ref (a 0)), (1, .int (vs_I x1)), (2, .int (vs_I 0))]) hC hl [1, 2, 0] dX1_renewCopies_1 rfl (by decide) rfl (fun ls hl => ?_)
  obtain ⟨J1, μ1, hJ, hB1⟩ := hw
  refine vs_loop (V := Int × vs_St) (J := fun v => J1 v.1 v.2) (μ := fun v => μ1 v.1 v.2) (fun v => vs_W1 g a v.2 ++ wr) (fun v => [(0, .ref (a 0)), (1, .int (vs_I x1)), (2, .int (vs_I v.1))]) (fun v hJ ih1 H locs ls hW hl => ?_) (0, S) hJ hW (lv_sub hl [0, 1, 2] rfl)
  obtain ⟨v2, S3⟩ := v
  have hw := hB1 v2 S3 hJ
  have hW : vs_Wd g A _ (vs_W1 g a S3 ++ wr) _ _ s := hW
  have hl : lv_has ls 3 [(0, .ref (a 0)), (1, .int (vs_I x1)), (2, .int (vs_I v2))] := hl
  clear hJ
  unfold lX1_renewCopies_2 at hw
  refine vs_iload_n hC hl 2 dX1_renewCopies_2 rfl rfl ?_
  refine vs_aload_n hC hl 0 dX1_renewCopies_3 rfl rfl ?_
  refine vs_get hC hW 0 rfl rfl vs_inX1 8 (by decide) vf_X1_35 rfl dX1_renewCopies_4 ?_
  refine vs_iload_n hC hl 1 dX1_renewCopies_7 rfl rfl ?_
  obtain ⟨hi, hw⟩ := hw
  refine vs_iald hC hW 8 rfl (by decide) hi dX1_renewCopies_8 ?_
  obtain ⟨hx, hw⟩ := hw
  obtain ⟨hy, hw⟩ := hw
  obtain ⟨hwt, hwf⟩ := hw
  refine vs_icmp_ge hC 30 hx hy dX1_renewCopies_9 (by decide) (fun hc => ?_) (fun hc => ?_)
  · have hw := hwt hc
    clear hwt hwf hc
    exact vs_vret (S3) hC hr hlk hW rfl hw (Nat.le_of_ble_eq_true rfl) (Nat.le_of_ble_eq_true rfl) dX1_renewCopies_30
  · have hw := hwf hc
    clear hwt hwf hc
    refine vs_aload_n hC hl 0 dX1_renewCopies_12 rfl rfl ?_
    refine vs_get hC hW 0 rfl rfl vs_inX1 5 (by decide) vf_X1_25 rfl dX1_renewCopies_13 ?_
    refine vs_aload_n hC hl 0 dX1_renewCopies_16 rfl rfl ?_
    refine vs_iload_n hC hl 1 dX1_renewCopies_17 rfl rfl ?_
    refine vs_iload_n hC hl 2 dX1_renewCopies_18 rfl rfl ?_
    refine vs_callVI [.int (vs_I x1), .int (vs_I v2)] hC hW 0 rfl rfl vk_X1_addressOf vm_X1_66 (c_X1_addressOf l g a (wr) S3 x1 v2 _ hw) rfl hl.1 rfl ⟨rfl, rfl⟩ ⟨Nat.le_of_ble_eq_true rfl, Nat.le_of_ble_eq_true rfl⟩ ⟨Nat.le_of_ble_eq_true rfl, Nat.le_of_ble_eq_true rfl⟩ (Nat.le_of_ble_eq_true rfl) dX1_renewCopies_19 (fun r4 _ H locs hw hW => ?_)
    have hW : vs_Wd g A _ (vs_W1 g a S3 ++ wr) _ _ s := hW
    refine vs_iconst hC dX1_renewCopies_22 ?_
    obtain ⟨hi, hw⟩ := hw
    obtain ⟨S5, hS5⟩ : ∃ z : vs_St, z = vs_st S3 5 r4 0 := ⟨_, rfl⟩
    have hw := hw S5 hS5
    refine vs_zast (Wo' := vs_W1 g a S5 ++ wr) hC hW 5 rfl (by decide) hi (by decide) (by rw [hS5]; rfl) dX1_renewCopies_23 (fun H locs hW => ?_)
    refine vs_iinc (L' := [(0, .ref (a 0)), (1, .int (vs_I x1)), (2, .int (vs_I (v2 + 1)))]) hC hl 2 [1, 2, 0] dX1_renewCopies_24 rfl (by decide) rfl (fun ls hl => ?_)
    refine vs_goto hC 2 dX1_renewCopies_27 (by decide) ?_
    exact ih1 (v2 + 1, S5) hw _ _ _ hW (lv_sub hl [0, 1, 2] rfl)
set_option maxHeartbeats 4000000 in
set_option maxRecDepth 100000 in
theorem c_X1_countPlacesAnew (l : Launch) (g : vs_G) (a : Nat → Nat) (wr : va_W) (S : vs_St) (x1 : Int) (post : Int → Prop) (hw : wX1_countPlacesAnew S x1 post) : vs_MI l yX1_countPlacesAnew (Cond.code yX1_countPlacesAnew cX1_countPlacesAnew 6 (some .int) :: vs_ws) { frames := 2, cells := 0, slots := 0, locals := 45 } g [.ref (a 0), .int (vs_I x1)] (vs_W1 g a S ++ wr) (fun (_ : Unit) => vs_W1 g a S ++ wr) (fun v (_ : Unit) => post v) 0 0 := by
  refine vs_ofW (Qc := fun A => vs_QI g A (fun (_ : Unit) => vs_W1 g a S ++ wr) (fun v (_ : Unit) => post v)) (by decide +kernel) (Nat.le_of_ble_eq_true rfl) (fun p e s m below meth c A ls hC hr hlk hW hl => ?_)
  have hC : CallFix p m c cX1_countPlacesAnew 6 s _ vs_ws RX1 := hC
  have hl : lv_has ls 6 [(0, .ref (a 0)), (1, .int (vs_I x1))] := hl
  unfold wX1_countPlacesAnew at hw
  refine vs_aload_n hC hl 0 dX1_countPlacesAnew_0 rfl rfl ?_
  refine vs_iload_n hC hl 1 dX1_countPlacesAnew_1 rfl rfl ?_
  refine vs_callVI [.int (vs_I x1)] hC hW 0 rfl rfl vk_X1_disksWithCopy vm_X1_100 (c_X1_disksWithCopy l g a (wr) S x1 _ hw) rfl hl.1 rfl ⟨rfl, rfl⟩ ⟨Nat.le_of_ble_eq_true rfl, Nat.le_of_ble_eq_true rfl⟩ ⟨Nat.le_of_ble_eq_true rfl, Nat.le_of_ble_eq_true rfl⟩ (Nat.le_of_ble_eq_true rfl) dX1_countPlacesAnew_2 (fun r1 _ H locs hw hW => ?_)
  have hW : vs_Wd g A _ (vs_W1 g a S ++ wr) _ _ s := hW
  refine vs_istore_n (L' := [(0, .ref (a 0)), (1, .int (vs_I x1)), (2, .int (vs_I r1))]) hC hl [1, 2, 0] dX1_countPlacesAnew_5 rfl (by decide) rfl (fun ls hl => ?_)
  refine vs_iconst hC dX1_countPlacesAnew_6 ?_
  refine vs_istore_n (L' := [(0, .ref (a 0)), (1, .int (vs_I x1)), (2, .int (vs_I r1)), (3, .int (vs_I 0))]) hC hl [1, 2, 3, 0] dX1_countPlacesAnew_7 rfl (by decide) rfl (fun ls hl => ?_)
  refine vs_iconst hC dX1_countPlacesAnew_8 ?_
  refine vs_istore (L' := [(0, .ref (a 0)), (1, .int (vs_I x1)), (2, .int (vs_I r1)), (3, .int (vs_I 0)), (4, .int (vs_I 0))]) hC hl [1, 2, 3, 4, 0] dX1_countPlacesAnew_9 (by decide) rfl (fun ls hl => ?_)
  obtain ⟨J2, μ2, hJ, hB2⟩ := hw
  refine vs_loop (V := Int × Int) (J := fun v => J2 v.1 v.2) (μ := fun v => μ2 v.1 v.2) (fun v => vs_W1 g a S ++ wr) (fun v => [(0, .ref (a 0)), (2, .int (vs_I r1)), (3, .int (vs_I v.1)), (4, .int (vs_I v.2))]) (fun v hJ ih2 H locs ls hW hl => ?_) (0, 0) hJ hW (lv_sub hl [0, 2, 3, 4] rfl)
  obtain ⟨v3, v4⟩ := v
  have hw := hB2 v3 v4 hJ
  have hW : vs_Wd g A _ (vs_W1 g a S ++ wr) _ _ s := hW
  have hl : lv_has ls 6 [(0, .ref (a 0)), (2, .int (vs_I r1)), (3, .int (vs_I v3)), (4, .int (vs_I v4))] := hl
  clear hJ
  unfold lX1_countPlacesAnew_11 at hw
  refine vs_iload hC hl 3 dX1_countPlacesAnew_11 rfl ?_
  refine vs_aload_n hC hl 0 dX1_countPlacesAnew_13 rfl rfl ?_
  refine vs_get hC hW 0 rfl rfl vs_inX1 0 (by decide) vf_X1_53 rfl dX1_countPlacesAnew_14 ?_
  obtain ⟨hx, hw⟩ := hw
  obtain ⟨hy, hw⟩ := hw
  obtain ⟨hwt, hwf⟩ := hw
  refine vs_icmp_ge hC 71 hx hy dX1_countPlacesAnew_17 (by decide) (fun hc => ?_) (fun hc => ?_)
  · have hw := hwt hc
    clear hwt hwf hc
    refine vs_iload_n hC hl 2 dX1_countPlacesAnew_71 rfl rfl ?_
    exact vs_iret () hC hr hlk hW rfl hw (Nat.le_of_ble_eq_true rfl) (Nat.le_of_ble_eq_true rfl) dX1_countPlacesAnew_72
  · have hw := hwf hc
    clear hwt hwf hc
    refine vs_aload_n hC hl 0 dX1_countPlacesAnew_20 rfl rfl ?_
    refine vs_iload hC hl 3 dX1_countPlacesAnew_21 rfl ?_
    refine vs_callVI [.int (vs_I v4)] hC hW 0 rfl rfl vk_X1_freeOn vm_X1_81 (c_X1_freeOn l g a (wr) S v4 _ hw) rfl hl.1 rfl ⟨rfl, rfl⟩ ⟨Nat.le_of_ble_eq_true rfl, Nat.le_of_ble_eq_true rfl⟩ ⟨Nat.le_of_ble_eq_true rfl, Nat.le_of_ble_eq_true rfl⟩ (Nat.le_of_ble_eq_true rfl) dX1_countPlacesAnew_23 (fun r5 _ H locs hw hW => ?_)
    have hW : vs_Wd g A _ (vs_W1 g a S ++ wr) _ _ s := hW
    obtain ⟨hx, hw⟩ := hw
    obtain ⟨hwt, hwf⟩ := hw
    refine vs_if_gt hC 38 hx dX1_countPlacesAnew_26 (by decide) (fun hc => ?_) (fun hc => ?_)
    · have hw := hwt hc
      clear hwt hwf hc
      refine vs_iconst hC dX1_countPlacesAnew_38 ?_
      refine vs_goto hC 43 dX1_countPlacesAnew_39 (by decide) ?_
      refine vs_istore (L' := [(0, .ref (a 0)), (2, .int (vs_I r1)), (3, .int (vs_I v3)), (4, .int (vs_I v4)), (5, .int (vs_I 1))]) hC hl [1, 2, 3, 4, 0] dX1_countPlacesAnew_43 (by decide) rfl (fun ls hl => ?_)
      refine vs_aload_n hC hl 0 dX1_countPlacesAnew_45 rfl rfl ?_
      refine vs_get hC hW 0 rfl rfl vs_inX1 3 (by decide) vf_X1_18 rfl dX1_countPlacesAnew_46 ?_
      refine vs_iload hC hl 3 dX1_countPlacesAnew_49 rfl ?_
      obtain ⟨hi, hw⟩ := hw
      refine vs_cald hC hW 3 rfl (by decide) hi dX1_countPlacesAnew_51 ?_
      refine vs_bipush hC dX1_countPlacesAnew_52 (by decide +kernel) ?_
      obtain ⟨hx, hw⟩ := hw
      obtain ⟨hwt, hwf⟩ := hw
      refine vs_icmp_ne hC 65 hx ⟨by decide, by decide⟩ dX1_countPlacesAnew_54 (by decide) (fun hc => ?_) (fun hc => ?_)
      · have hw := hwt hc
        clear hwt hwf hc
        refine vs_iinc (L' := [(0, .ref (a 0)), (2, .int (vs_I r1)), (3, .int (vs_I v3)), (4, .int (vs_I (v4 + 1))), (5, .int (vs_I 1))]) hC hl 3 [1, 2, 3, 0, 4] dX1_countPlacesAnew_65 rfl (by decide) rfl (fun ls hl => ?_)
        refine vs_goto hC 11 dX1_countPlacesAnew_68 (by decide) ?_
        exact ih2 (v3, v4 + 1) hw _ _ _ hW (lv_sub hl [0, 1, 2, 3] rfl)
      · have hw := hwf hc
        clear hwt hwf hc
        refine vs_iload hC hl 4 dX1_countPlacesAnew_57 rfl ?_
        refine vs_if_eq hC 65 ⟨by decide, by decide⟩ dX1_countPlacesAnew_59 (by decide) (fun hc => absurd hc (by decide)) (fun _ => ?_)
        refine vs_iinc (L' := [(0, .ref (a 0)), (2, .int (vs_I r1)), (3, .int (vs_I (v3 + 1))), (4, .int (vs_I v4)), (5, .int (vs_I 1))]) hC hl 2 [1, 2, 0, 3, 4] dX1_countPlacesAnew_62 rfl (by decide) rfl (fun ls hl => ?_)
        refine vs_iinc (L' := [(0, .ref (a 0)), (2, .int (vs_I r1)), (3, .int (vs_I (v3 + 1))), (4, .int (vs_I (v4 + 1))), (5, .int (vs_I 1))]) hC hl 3 [1, 2, 3, 0, 4] dX1_countPlacesAnew_65 rfl (by decide) rfl (fun ls hl => ?_)
        refine vs_goto hC 11 dX1_countPlacesAnew_68 (by decide) ?_
        exact ih2 (v3 + 1, v4 + 1) hw _ _ _ hW (lv_sub hl [0, 1, 2, 3] rfl)
    · have hw := hwf hc
      clear hwt hwf hc
      refine vs_iload_n hC hl 1 dX1_countPlacesAnew_29 rfl rfl ?_
      refine vs_iload hC hl 3 dX1_countPlacesAnew_30 rfl ?_
      refine vs_ishr hC dX1_countPlacesAnew_32 ?_
      refine vs_iconst hC dX1_countPlacesAnew_33 ?_
      refine vs_iand hC dX1_countPlacesAnew_34 ?_
      obtain ⟨hx, hw⟩ := hw
      obtain ⟨hwt, hwf⟩ := hw
      refine vs_if_eq hC 42 hx dX1_countPlacesAnew_35 (by decide) (fun hc => ?_) (fun hc => ?_)
      · have hw := hwt hc
        clear hwt hwf hc
        refine vs_iconst hC dX1_countPlacesAnew_42 ?_
        refine vs_istore (L' := [(0, .ref (a 0)), (2, .int (vs_I r1)), (3, .int (vs_I v3)), (4, .int (vs_I v4)), (5, .int (vs_I 0))]) hC hl [1, 2, 3, 4, 0] dX1_countPlacesAnew_43 (by decide) rfl (fun ls hl => ?_)
        refine vs_aload_n hC hl 0 dX1_countPlacesAnew_45 rfl rfl ?_
        refine vs_get hC hW 0 rfl rfl vs_inX1 3 (by decide) vf_X1_18 rfl dX1_countPlacesAnew_46 ?_
        refine vs_iload hC hl 3 dX1_countPlacesAnew_49 rfl ?_
        obtain ⟨hi, hw⟩ := hw
        refine vs_cald hC hW 3 rfl (by decide) hi dX1_countPlacesAnew_51 ?_
        refine vs_bipush hC dX1_countPlacesAnew_52 (by decide +kernel) ?_
        obtain ⟨hx, hw⟩ := hw
        obtain ⟨hwt, hwf⟩ := hw
        refine vs_icmp_ne hC 65 hx ⟨by decide, by decide⟩ dX1_countPlacesAnew_54 (by decide) (fun hc => ?_) (fun hc => ?_)
        · have hw := hwt hc
          clear hwt hwf hc
          refine vs_iinc (L' := [(0, .ref (a 0)), (2, .int (vs_I r1)), (3, .int (vs_I v3)), (4, .int (vs_I (v4 + 1))), (5, .int (vs_I 0))]) hC hl 3 [1, 2, 3, 0, 4] dX1_countPlacesAnew_65 rfl (by decide) rfl (fun ls hl => ?_)
          refine vs_goto hC 11 dX1_countPlacesAnew_68 (by decide) ?_
          exact ih2 (v3, v4 + 1) hw _ _ _ hW (lv_sub hl [0, 1, 2, 3] rfl)
        · have hw := hwf hc
          clear hwt hwf hc
          refine vs_iload hC hl 4 dX1_countPlacesAnew_57 rfl ?_
          refine vs_if_eq hC 65 ⟨by decide, by decide⟩ dX1_countPlacesAnew_59 (by decide) (fun _ => ?_) (fun hc => absurd hc (by decide))
          refine vs_iinc (L' := [(0, .ref (a 0)), (2, .int (vs_I r1)), (3, .int (vs_I v3)), (4, .int (vs_I (v4 + 1))), (5, .int (vs_I 0))]) hC hl 3 [1, 2, 3, 0, 4] dX1_countPlacesAnew_65 rfl (by decide) rfl (fun ls hl => ?_)
          refine vs_goto hC 11 dX1_countPlacesAnew_68 (by decide) ?_
          exact ih2 (v3, v4 + 1) hw _ _ _ hW (lv_sub hl [0, 1, 2, 3] rfl)
      · have hw := hwf hc
        clear hwt hwf hc
        refine vs_iconst hC dX1_countPlacesAnew_38 ?_
        refine vs_goto hC 43 dX1_countPlacesAnew_39 (by decide) ?_
        refine vs_istore (L' := [(0, .ref (a 0)), (2, .int (vs_I r1)), (3, .int (vs_I v3)), (4, .int (vs_I v4)), (5, .int (vs_I 1))]) hC hl [1, 2, 3, 4, 0] dX1_countPlacesAnew_43 (by decide) rfl (fun ls hl => ?_)
        refine vs_aload_n hC hl 0 dX1_countPlacesAnew_45 rfl rfl ?_
        refine vs_get hC hW 0 rfl rfl vs_inX1 3 (by decide) vf_X1_18 rfl dX1_countPlacesAnew_46 ?_
        refine vs_iload hC hl 3 dX1_countPlacesAnew_49 rfl ?_
        obtain ⟨hi, hw⟩ := hw
        refine vs_cald hC hW 3 rfl (by decide) hi dX1_countPlacesAnew_51 ?_
        refine vs_bipush hC dX1_countPlacesAnew_52 (by decide +kernel) ?_
        obtain ⟨hx, hw⟩ := hw
        obtain ⟨hwt, hwf⟩ := hw
        refine vs_icmp_ne hC 65 hx ⟨by decide, by decide⟩ dX1_countPlacesAnew_54 (by decide) (fun hc => ?_) (fun hc => ?_)
        · have hw := hwt hc
          clear hwt hwf hc
          refine vs_iinc (L' := [(0, .ref (a 0)), (2, .int (vs_I r1)), (3, .int (vs_I v3)), (4, .int (vs_I (v4 + 1))), (5, .int (vs_I 1))]) hC hl 3 [1, 2, 3, 0, 4] dX1_countPlacesAnew_65 rfl (by decide) rfl (fun ls hl => ?_)
          refine vs_goto hC 11 dX1_countPlacesAnew_68 (by decide) ?_
          exact ih2 (v3, v4 + 1) hw _ _ _ hW (lv_sub hl [0, 1, 2, 3] rfl)
        · have hw := hwf hc
          clear hwt hwf hc
          refine vs_iload hC hl 4 dX1_countPlacesAnew_57 rfl ?_
          refine vs_if_eq hC 65 ⟨by decide, by decide⟩ dX1_countPlacesAnew_59 (by decide) (fun hc => absurd hc (by decide)) (fun _ => ?_)
          refine vs_iinc (L' := [(0, .ref (a 0)), (2, .int (vs_I r1)), (3, .int (vs_I (v3 + 1))), (4, .int (vs_I v4)), (5, .int (vs_I 1))]) hC hl 2 [1, 2, 0, 3, 4] dX1_countPlacesAnew_62 rfl (by decide) rfl (fun ls hl => ?_)
          refine vs_iinc (L' := [(0, .ref (a 0)), (2, .int (vs_I r1)), (3, .int (vs_I (v3 + 1))), (4, .int (vs_I (v4 + 1))), (5, .int (vs_I 1))]) hC hl 3 [1, 2, 3, 0, 4] dX1_countPlacesAnew_65 rfl (by decide) rfl (fun ls hl => ?_)
          refine vs_goto hC 11 dX1_countPlacesAnew_68 (by decide) ?_
          exact ih2 (v3 + 1, v4 + 1) hw _ _ _ hW (lv_sub hl [0, 1, 2, 3] rfl)
set_option maxHeartbeats 4000000 in
set_option maxRecDepth 100000 in
theorem c_X1_removeCopies (l : Launch) (g : vs_G) (a : Nat → Nat) (wr : va_W) (S : vs_St) (x1 : Int) (post : vs_St → Prop) (hw : wX1_removeCopies S x1 post) : vs_MV l yX1_removeCopies (Cond.code yX1_removeCopies cX1_removeCopies 3 (none) :: vs_ws) { frames := 2, cells := 0, slots := 0, locals := 47 } g [.ref (a 0), .int (vs_I x1)] (vs_W1 g a S ++ wr) (fun (S' : vs_St) => vs_W1 g a S' ++ wr) post 0 0 := by
  refine vs_ofW (Qc := fun A => vs_QV g A (fun (S' : vs_St) => vs_W1 g a S' ++ wr) post) (by decide +kernel) (Nat.le_of_ble_eq_true rfl) (fun p e s m below meth c A ls hC hr hlk hW hl => ?_)
  have hC : CallFix p m c cX1_removeCopies 3 s _ vs_ws RX1 := hC
  have hl : lv_has ls 3 [(0, .ref (a 0)), (1, .int (vs_I x1))] := hl
  unfold wX1_removeCopies at hw
  refine vs_aload_n hC hl 0 dX1_removeCopies_0 rfl rfl ?_
  refine vs_get hC hW 0 rfl rfl vs_inX1 8 (by decide) vf_X1_35 rfl dX1_removeCopies_1 ?_
  refine vs_iload_n hC hl 1 dX1_removeCopies_4 rfl rfl ?_
  obtain ⟨hi, hw⟩ := hw
  refine vs_iald hC hW 8 rfl (by decide) hi dX1_removeCopies_5 ?_
  refine vs_iconst hC dX1_removeCopies_6 ?_
  refine vs_isub hC dX1_removeCopies_7 ?_
  refine vs_name (fun v1 hv1 => ?_)
  have hw := hw v1 hv1
  refine vs_istore_n (L' := [(0, .ref (a 0)), (1, .int (vs_I x1)), (2, .int (vs_I v1))]) hC hl [1, 2, 0] dX1_removeCopies_8 rfl (by decide) rfl (fun ls hl => ?_)
  obtain ⟨J2, μ2, hJ, hB2⟩ := hw
  refine vs_loop (V := Int × vs_St) (J := fun v => J2 v.1 v.2) (μ := fun v => μ2 v.1 v.2) (fun v => vs_W1 g a v.2 ++ wr) (fun v => [(0, .ref (a 0)), (1, .int (vs_I x1)), (2, .int (vs_I v.1))]) (fun v hJ ih2 H locs ls hW hl => ?_) (v1, S) hJ hW (lv_sub hl [0, 1, 2] rfl)
  obtain ⟨v3, S4⟩ := v
  have hw := hB2 v3 S4 hJ
  have hW : vs_Wd g A _ (vs_W1 g a S4 ++ wr) _ _ s := hW
  have hl : lv_has ls 3 [(0, .ref (a 0)), (1, .int (vs_I x1)), (2, .int (vs_I v3))] := hl
  clear hJ
  unfold lX1_removeCopies_9 at hw
  refine vs_iload_n hC hl 2 dX1_removeCopies_9 rfl rfl ?_
  obtain ⟨hx, hw⟩ := hw
  obtain ⟨hwt, hwf⟩ := hw
  refine vs_if_lt hC 25 hx dX1_removeCopies_10 (by decide) (fun hc => ?_) (fun hc => ?_)
  · have hw := hwt hc
    clear hwt hwf hc
    exact vs_vret (S4) hC hr hlk hW rfl hw (Nat.le_of_ble_eq_true rfl) (Nat.le_of_ble_eq_true rfl) dX1_removeCopies_25
  · have hw := hwf hc
    clear hwt hwf hc
    refine vs_aload_n hC hl 0 dX1_removeCopies_13 rfl rfl ?_
    refine vs_iload_n hC hl 1 dX1_removeCopies_14 rfl rfl ?_
    refine vs_iload_n hC hl 2 dX1_removeCopies_15 rfl rfl ?_
    refine vs_callVV [.int (vs_I x1), .int (vs_I v3)] hC hW 0 rfl rfl vk_X1_removeCopy vm_X1_103 (c_X1_removeCopy l g a (wr) S4 x1 v3 _ hw) rfl hl.1 rfl ⟨rfl, rfl⟩ ⟨Nat.le_of_ble_eq_true rfl, Nat.le_of_ble_eq_true rfl⟩ ⟨Nat.le_of_ble_eq_true rfl, Nat.le_of_ble_eq_true rfl⟩ (Nat.le_of_ble_eq_true rfl) dX1_removeCopies_16 (fun S5 H locs hw hW => ?_)
    have hW : vs_Wd g A _ (vs_W1 g a S5 ++ wr) _ _ s := hW
    refine vs_iinc (L' := [(0, .ref (a 0)), (1, .int (vs_I x1)), (2, .int (vs_I (v3 + (-1))))]) hC hl 2 [1, 2, 0] dX1_removeCopies_19 rfl (by decide) rfl (fun ls hl => ?_)
    refine vs_goto hC 9 dX1_removeCopies_22 (by decide) ?_
    exact ih2 (v3 + (-1), S5) hw _ _ _ hW (lv_sub hl [0, 1, 2] rfl)
set_option maxHeartbeats 4000000 in
set_option maxRecDepth 100000 in
theorem c_X1_completeBlock (l : Launch) (g : vs_G) (a : Nat → Nat) (wr : va_W) (S : vs_St) (x1 : Int) (x2 : Int) (post : Int → vs_St → Prop) (hw : wX1_completeBlock S x1 x2 post) : vs_MI l yX1_completeBlock (Cond.code yX1_completeBlock cX1_completeBlock 6 (some .int) :: vs_ws) { frames := 2, cells := 0, slots := 0, locals := 48 } g [.ref (a 0), .int (vs_I x1), .int (vs_I x2)] (vs_W1 g a S ++ wr) (fun (S' : vs_St) => vs_W1 g a S' ++ wr) post 0 0 := by
  refine vs_ofW (Qc := fun A => vs_QI g A (fun (S' : vs_St) => vs_W1 g a S' ++ wr) post) (by decide +kernel) (Nat.le_of_ble_eq_true rfl) (fun p e s m below meth c A ls hC hr hlk hW hl => ?_)
  have hC : CallFix p m c cX1_completeBlock 6 s _ vs_ws RX1 := hC
  have hl : lv_has ls 6 [(0, .ref (a 0)), (1, .int (vs_I x1)), (2, .int (vs_I x2))] := hl
  unfold wX1_completeBlock at hw
  refine vs_aload_n hC hl 0 dX1_completeBlock_0 rfl rfl ?_
  refine vs_iload_n hC hl 1 dX1_completeBlock_1 rfl rfl ?_
  refine vs_callVI [.int (vs_I x1)] hC hW 0 rfl rfl vk_X1_wantedOf vm_X1_78 (c_X1_wantedOf l g a (wr) S x1 _ hw) rfl hl.1 rfl ⟨rfl, rfl⟩ ⟨Nat.le_of_ble_eq_true rfl, Nat.le_of_ble_eq_true rfl⟩ ⟨Nat.le_of_ble_eq_true rfl, Nat.le_of_ble_eq_true rfl⟩ (Nat.le_of_ble_eq_true rfl) dX1_completeBlock_2 (fun r1 _ H locs hw hW => ?_)
  have hW : vs_Wd g A _ (vs_W1 g a S ++ wr) _ _ s := hW
  refine vs_aload_n hC hl 0 dX1_completeBlock_5 rfl rfl ?_
  refine vs_get hC hW 0 rfl rfl vs_inX1 8 (by decide) vf_X1_35 rfl dX1_completeBlock_6 ?_
  refine vs_iload_n hC hl 1 dX1_completeBlock_9 rfl rfl ?_
  obtain ⟨hi, hw⟩ := hw
  refine vs_iald hC hW 8 rfl (by decide) hi dX1_completeBlock_10 ?_
  refine vs_isub hC dX1_completeBlock_11 ?_
  refine vs_iload_n hC hl 2 dX1_completeBlock_12 rfl rfl ?_
  obtain ⟨hx, hw⟩ := hw
  obtain ⟨hy, hw⟩ := hw
  refine vs_mmin hC hx hy hl.1 vm_X1_110 (Nat.le_of_ble_eq_true rfl) (Nat.le_of_ble_eq_true rfl) (Nat.le_of_ble_eq_true rfl) (Nat.le_of_ble_eq_true rfl) dX1_completeBlock_13 ?_
  refine vs_name (fun v2 hv2 => ?_)
  have hw := hw v2 hv2
  refine vs_istore_n (L' := [(0, .ref (a 0)), (1, .int (vs_I x1)), (2, .int (vs_I x2)), (3, .int (vs_I v2))]) hC hl [1, 2, 3, 0] dX1_completeBlock_16 rfl (by decide) rfl (fun ls hl => ?_)
  refine vs_iconst hC dX1_completeBlock_17 ?_
  refine vs_istore (L' := [(0, .ref (a 0)), (1, .int (vs_I x1)), (2, .int (vs_I x2)), (3, .int (vs_I v2)), (4, .int (vs_I 0))]) hC hl [1, 2, 3, 4, 0] dX1_completeBlock_18 (by decide) rfl (fun ls hl => ?_)
  obtain ⟨J3, μ3, hJ, hB3⟩ := hw
  refine vs_loop (V := Int × vs_St) (J := fun v => J3 v.1 v.2) (μ := fun v => μ3 v.1 v.2) (fun v => vs_W1 g a v.2 ++ wr) (fun v => [(0, .ref (a 0)), (1, .int (vs_I x1)), (3, .int (vs_I v2)), (4, .int (vs_I v.1))]) (fun v hJ ih3 H locs ls hW hl => ?_) (0, S) hJ hW (lv_sub hl [0, 1, 3, 4] rfl)
  obtain ⟨v4, S5⟩ := v
  have hw := hB3 v4 S5 hJ
  have hW : vs_Wd g A _ (vs_W1 g a S5 ++ wr) _ _ s := hW
  have hl : lv_has ls 6 [(0, .ref (a 0)), (1, .int (vs_I x1)), (3, .int (vs_I v2)), (4, .int (vs_I v4))] := hl
  clear hJ
  unfold lX1_completeBlock_20 at hw
  refine vs_iload hC hl 3 dX1_completeBlock_20 rfl ?_
  refine vs_iload_n hC hl 2 dX1_completeBlock_22 rfl rfl ?_
  obtain ⟨hx, hw⟩ := hw
  obtain ⟨hy, hw⟩ := hw
  obtain ⟨hwt, hwf⟩ := hw
  refine vs_icmp_ge hC 59 hx hy dX1_completeBlock_23 (by decide) (fun hc => ?_) (fun hc => ?_)
  · have hw := hwt hc
    clear hwt hwf hc
    refine vs_iload_n hC hl 2 dX1_completeBlock_59 rfl rfl ?_
    refine vs_iconst hC dX1_completeBlock_60 ?_
    obtain ⟨hx, hw⟩ := hw
    refine vs_mmax hC hx ⟨by decide, by decide⟩ hl.1 vm_X1_121 (Nat.le_of_ble_eq_true rfl) (Nat.le_of_ble_eq_true rfl) (Nat.le_of_ble_eq_true rfl) (Nat.le_of_ble_eq_true rfl) dX1_completeBlock_61 ?_
    exact vs_iret (S5) hC hr hlk hW rfl hw (Nat.le_of_ble_eq_true rfl) (Nat.le_of_ble_eq_true rfl) dX1_completeBlock_64
  · have hw := hwf hc
    clear hwt hwf hc
    refine vs_aload_n hC hl 0 dX1_completeBlock_26 rfl rfl ?_
    refine vs_aload_n hC hl 0 dX1_completeBlock_27 rfl rfl ?_
    refine vs_iload_n hC hl 1 dX1_completeBlock_28 rfl rfl ?_
    refine vs_callVI [.int (vs_I x1)] hC hW 0 rfl rfl vk_X1_disksWithCopy vm_X1_100 (c_X1_disksWithCopy l g a (wr) S5 x1 _ hw) rfl hl.1 rfl ⟨rfl, rfl⟩ ⟨Nat.le_of_ble_eq_true rfl, Nat.le_of_ble_eq_true rfl⟩ ⟨Nat.le_of_ble_eq_true rfl, Nat.le_of_ble_eq_true rfl⟩ (Nat.le_of_ble_eq_true rfl) dX1_completeBlock_29 (fun r6 _ H locs hw hW => ?_)
    have hW : vs_Wd g A _ (vs_W1 g a S5 ++ wr) _ _ s := hW
    refine vs_callVI [.int (vs_I r6)] hC hW 0 rfl rfl vk_X1_findPlace vm_X1_115 (c_X1_findPlace l g a (wr) S5 r6 _ hw) rfl hl.1 rfl ⟨rfl, rfl⟩ ⟨Nat.le_of_ble_eq_true rfl, Nat.le_of_ble_eq_true rfl⟩ ⟨Nat.le_of_ble_eq_true rfl, Nat.le_of_ble_eq_true rfl⟩ (Nat.le_of_ble_eq_true rfl) dX1_completeBlock_32 (fun r7 _ H locs hw hW => ?_)
    have hW : vs_Wd g A _ (vs_W1 g a S5 ++ wr) _ _ s := hW
    refine vs_istore (L' := [(0, .ref (a 0)), (1, .int (vs_I x1)), (3, .int (vs_I v2)), (4, .int (vs_I v4)), (5, .int (vs_I r7))]) hC hl [1, 2, 3, 4, 0] dX1_completeBlock_35 (by decide) rfl (fun ls hl => ?_)
    refine vs_iload hC hl 4 dX1_completeBlock_37 rfl ?_
    refine vs_iconst hC dX1_completeBlock_39 ?_
    obtain ⟨hx, hw⟩ := hw
    obtain ⟨hwt, hwf⟩ := hw
    refine vs_icmp_ne hC 46 hx ⟨by decide, by decide⟩ dX1_completeBlock_40 (by decide) (fun hc => ?_) (fun hc => ?_)
    · have hw := hwt hc
      clear hwt hwf hc
      refine vs_aload_n hC hl 0 dX1_completeBlock_46 rfl rfl ?_
      refine vs_iload_n hC hl 1 dX1_completeBlock_47 rfl rfl ?_
      refine vs_iload hC hl 4 dX1_completeBlock_48 rfl ?_
      refine vs_callVV [.int (vs_I x1), .int (vs_I r7)] hC hW 0 rfl rfl vk_X1_addCopy vm_X1_118 (c_X1_addCopy l g a (wr) S5 x1 r7 _ hw) rfl hl.1 rfl ⟨rfl, rfl⟩ ⟨Nat.le_of_ble_eq_true rfl, Nat.le_of_ble_eq_true rfl⟩ ⟨Nat.le_of_ble_eq_true rfl, Nat.le_of_ble_eq_true rfl⟩ (Nat.le_of_ble_eq_true rfl) dX1_completeBlock_50 (fun S8 H locs hw hW => ?_)
      have hW : vs_Wd g A _ (vs_W1 g a S8 ++ wr) _ _ s := hW
      refine vs_iinc (L' := [(0, .ref (a 0)), (1, .int (vs_I x1)), (3, .int (vs_I v2)), (4, .int (vs_I (v4 + 1))), (5, .int (vs_I r7))]) hC hl 3 [1, 2, 3, 0, 4] dX1_completeBlock_53 rfl (by decide) rfl (fun ls hl => ?_)
      refine vs_goto hC 20 dX1_completeBlock_56 (by decide) ?_
      exact ih3 (v4 + 1, S8) hw _ _ _ hW (lv_sub hl [0, 1, 2, 3] rfl)
    · have hw := hwf hc
      clear hwt hwf hc
      refine vs_iload hC hl 3 dX1_completeBlock_43 rfl ?_
      exact vs_iret (S5) hC hr hlk hW rfl hw (Nat.le_of_ble_eq_true rfl) (Nat.le_of_ble_eq_true rfl) dX1_completeBlock_45
set_option maxHeartbeats 4000000 in
set_option maxRecDepth 100000 in
theorem c_X1_putValue (l : Launch) (g : vs_G) (a : Nat → Nat) (wr : va_W) (S : vs_St) (x1 : Int) (x2 : Int) (post : Int → vs_St → Prop) (hw : wX1_putValue S x1 x2 post) : vs_MI l yX1_putValue (Cond.code yX1_putValue cX1_putValue 3 (some .boolean) :: vs_ws) { frames := 3, cells := 0, slots := 0, locals := 73 } g [.ref (a 0), .int (vs_I x1), .int (vs_I x2)] (vs_W1 g a S ++ wr) (fun (S' : vs_St) => vs_W1 g a S' ++ wr) post 0 0 := by
  refine vs_ofW (Qc := fun A => vs_QI g A (fun (S' : vs_St) => vs_W1 g a S' ++ wr) post) (by decide +kernel) (Nat.le_of_ble_eq_true rfl) (fun p e s m below meth c A ls hC hr hlk hW hl => ?_)
  have hC : CallFix p m c cX1_putValue 3 s _ vs_ws RX1 := hC
  have hl : lv_has ls 3 [(0, .ref (a 0)), (1, .int (vs_I x1)), (2, .int (vs_I x2))] := hl
  unfold wX1_putValue at hw
  refine vs_aload_n hC hl 0 dX1_putValue_0 rfl rfl ?_
  refine vs_iload_n hC hl 1 dX1_putValue_1 rfl rfl ?_
  refine vs_callVI [.int (vs_I x1)] hC hW 0 rfl rfl vk_X1_disksWithGoodCopy vm_X1_70 (c_X1_disksWithGoodCopy l g a (wr) S x1 _ hw) rfl hl.1 rfl ⟨rfl, rfl⟩ ⟨Nat.le_of_ble_eq_true rfl, Nat.le_of_ble_eq_true rfl⟩ ⟨Nat.le_of_ble_eq_true rfl, Nat.le_of_ble_eq_true rfl⟩ (Nat.le_of_ble_eq_true rfl) dX1_putValue_2 (fun r1 _ H locs hw hW => ?_)
  have hW : vs_Wd g A _ (vs_W1 g a S ++ wr) _ _ s := hW
  obtain ⟨hx, hw⟩ := hw
  obtain ⟨hwt, hwf⟩ := hw
  refine vs_if_eq hC 16 hx dX1_putValue_5 (by decide) (fun hc => ?_) (fun hc => ?_)
  · have hw := hwt hc
    clear hwt hwf hc
    refine vs_aload_n hC hl 0 dX1_putValue_16 rfl rfl ?_
    refine vs_iload_n hC hl 1 dX1_putValue_17 rfl rfl ?_
    refine vs_callVI [.int (vs_I x1)] hC hW 0 rfl rfl vk_X1_countPlacesAnew vm_X1_91 (c_X1_countPlacesAnew l g a (wr) S x1 _ hw) rfl hl.1 rfl ⟨rfl, rfl⟩ ⟨Nat.le_of_ble_eq_true rfl, Nat.le_of_ble_eq_true rfl⟩ ⟨Nat.le_of_ble_eq_true rfl, Nat.le_of_ble_eq_true rfl⟩ (Nat.le_of_ble_eq_true rfl) dX1_putValue_18 (fun r2 _ H locs hw hW => ?_)
    have hW : vs_Wd g A _ (vs_W1 g a S ++ wr) _ _ s := hW
    refine vs_aload_n hC hl 0 dX1_putValue_21 rfl rfl ?_
    refine vs_iload_n hC hl 1 dX1_putValue_22 rfl rfl ?_
    refine vs_callVI [.int (vs_I x1)] hC hW 0 rfl rfl vk_X1_wantedOf vm_X1_78 (c_X1_wantedOf l g a (wr) S x1 _ hw) rfl hl.1 rfl ⟨rfl, rfl⟩ ⟨Nat.le_of_ble_eq_true rfl, Nat.le_of_ble_eq_true rfl⟩ ⟨Nat.le_of_ble_eq_true rfl, Nat.le_of_ble_eq_true rfl⟩ (Nat.le_of_ble_eq_true rfl) dX1_putValue_23 (fun r3 _ H locs hw hW => ?_)
    have hW : vs_Wd g A _ (vs_W1 g a S ++ wr) _ _ s := hW
    obtain ⟨hx, hw⟩ := hw
    obtain ⟨hy, hw⟩ := hw
    obtain ⟨hwt, hwf⟩ := hw
    refine vs_icmp_lt hC 48 hx hy dX1_putValue_26 (by decide) (fun hc => ?_) (fun hc => ?_)
    · have hw := hwt hc
      clear hwt hwf hc
      refine vs_iconst hC dX1_putValue_48 ?_
      exact vs_zret (S) hC hr hlk hW rfl ⟨Or.inl rfl, hw⟩ (Nat.le_of_ble_eq_true rfl) (Nat.le_of_ble_eq_true rfl) dX1_putValue_49
    · have hw := hwf hc
      clear hwt hwf hc
      refine vs_aload_n hC hl 0 dX1_putValue_29 rfl rfl ?_
      refine vs_iload_n hC hl 1 dX1_putValue_30 rfl rfl ?_
      refine vs_callVV [.int (vs_I x1)] hC hW 0 rfl rfl vk_X1_removeCopies vm_X1_94 (c_X1_removeCopies l g a (wr) S x1 _ hw) rfl hl.1 rfl ⟨rfl, rfl⟩ ⟨Nat.le_of_ble_eq_true rfl, Nat.le_of_ble_eq_true rfl⟩ ⟨Nat.le_of_ble_eq_true rfl, Nat.le_of_ble_eq_true rfl⟩ (Nat.le_of_ble_eq_true rfl) dX1_putValue_31 (fun S4 H locs hw hW => ?_)
      have hW : vs_Wd g A _ (vs_W1 g a S4 ++ wr) _ _ s := hW
      refine vs_aload_n hC hl 0 dX1_putValue_34 rfl rfl ?_
      refine vs_iload_n hC hl 1 dX1_putValue_35 rfl rfl ?_
      refine vs_aload_n hC hl 0 dX1_putValue_36 rfl rfl ?_
      refine vs_iload_n hC hl 1 dX1_putValue_37 rfl rfl ?_
      refine vs_callVI [.int (vs_I x1)] hC hW 0 rfl rfl vk_X1_wantedOf vm_X1_78 (c_X1_wantedOf l g a (wr) S4 x1 _ hw) rfl hl.1 rfl ⟨rfl, rfl⟩ ⟨Nat.le_of_ble_eq_true rfl, Nat.le_of_ble_eq_true rfl⟩ ⟨Nat.le_of_ble_eq_true rfl, Nat.le_of_ble_eq_true rfl⟩ (Nat.le_of_ble_eq_true rfl) dX1_putValue_38 (fun r5 _ H locs hw hW => ?_)
      have hW : vs_Wd g A _ (vs_W1 g a S4 ++ wr) _ _ s := hW
      refine vs_callVI [.int (vs_I x1), .int (vs_I r5)] hC hW 0 rfl rfl vk_X1_completeBlock vm_X1_97 (c_X1_completeBlock l g a (wr) S4 x1 r5 _ hw) rfl hl.1 rfl ⟨rfl, rfl⟩ ⟨Nat.le_of_ble_eq_true rfl, Nat.le_of_ble_eq_true rfl⟩ ⟨Nat.le_of_ble_eq_true rfl, Nat.le_of_ble_eq_true rfl⟩ (Nat.le_of_ble_eq_true rfl) dX1_putValue_41 (fun r6 S7 H locs hw hW => ?_)
      have hW : vs_Wd g A _ (vs_W1 g a S7 ++ wr) _ _ s := hW
      refine vs_pop hC dX1_putValue_44 rfl ?_
      refine vs_goto hC 50 dX1_putValue_45 (by decide) ?_
      refine vs_aload_n hC hl 0 dX1_putValue_50 rfl rfl ?_
      refine vs_get hC hW 0 rfl rfl vs_inX1 7 (by decide) vf_X1_32 rfl dX1_putValue_51 ?_
      refine vs_iload_n hC hl 1 dX1_putValue_54 rfl rfl ?_
      obtain ⟨hi, hw⟩ := hw
      refine vs_iald hC hW 7 rfl (by decide) hi dX1_putValue_55 ?_
      refine vs_iconst hC dX1_putValue_56 ?_
      obtain ⟨hx, hw⟩ := hw
      obtain ⟨hwt, hwf⟩ := hw
      refine vs_icmp_ne hC 80 hx ⟨by decide, by decide⟩ dX1_putValue_57 (by decide) (fun hc => ?_) (fun hc => ?_)
      · have hw := hwt hc
        clear hwt hwf hc
        refine vs_aload_n hC hl 0 dX1_putValue_80 rfl rfl ?_
        refine vs_get hC hW 0 rfl rfl vs_inX1 7 (by decide) vf_X1_32 rfl dX1_putValue_81 ?_
        refine vs_iload_n hC hl 1 dX1_putValue_84 rfl rfl ?_
        refine vs_iload_n hC hl 2 dX1_putValue_85 rfl rfl ?_
        obtain ⟨hi, hw⟩ := hw
        obtain ⟨S8, hS8⟩ : ∃ z : vs_St, z = vs_st S7 7 x1 x2 := ⟨_, rfl⟩
        have hw := hw S8 hS8
        refine vs_iast (Wo' := vs_W1 g a S8 ++ wr) hC hW 7 rfl (by decide) hi (by rw [hS8]; rfl) dX1_putValue_86 (fun H locs hW => ?_)
        refine vs_iconst hC dX1_putValue_87 ?_
        exact vs_zret (S8) hC hr hlk hW rfl ⟨Or.inr rfl, hw⟩ (Nat.le_of_ble_eq_true rfl) (Nat.le_of_ble_eq_true rfl) dX1_putValue_88
      · have hw := hwf hc
        clear hwt hwf hc
        refine vs_aload_n hC hl 0 dX1_putValue_60 rfl rfl ?_
        refine vs_get hC hW 0 rfl rfl vs_inX1 11 (by decide) vf_X1_41 rfl dX1_putValue_61 ?_
        refine vs_aload_n hC hl 0 dX1_putValue_64 rfl rfl ?_
        refine vs_get hC hW 0 rfl rfl vs_inX1 10 (by decide) vf_X1_57 rfl dX1_putValue_65 ?_
        refine vs_iload_n hC hl 1 dX1_putValue_68 rfl rfl ?_
        obtain ⟨hi, hw⟩ := hw
        obtain ⟨S9, hS9⟩ : ∃ z : vs_St, z = vs_st S7 11 (S7 10 0) x1 := ⟨_, rfl⟩
        have hw := hw S9 hS9
        refine vs_iast (Wo' := vs_W1 g a S9 ++ wr) hC hW 10 rfl (by decide) hi (by rw [hS9]; rfl) dX1_putValue_69 (fun H locs hW => ?_)
        refine vs_aload_n hC hl 0 dX1_putValue_70 rfl rfl ?_
        refine vs_dup hC dX1_putValue_71 rfl ?_
        refine vs_get hC hW 0 rfl rfl vs_inX1 10 (by decide) vf_X1_57 rfl dX1_putValue_72 ?_
        refine vs_iconst hC dX1_putValue_75 ?_
        refine vs_iadd hC dX1_putValue_76 ?_
        obtain ⟨S10, hS10⟩ : ∃ z : vs_St, z = vs_st S9 10 0 ((S9 10 0) + 1) := ⟨_, rfl⟩
        have hw := hw S10 hS10
        refine vs_put (Wo' := vs_W1 g a S10 ++ wr) hC hW 0 rfl rfl vs_inX1 tyX1_ok nmX1 10 (by decide) vf_X1_57 rfl rfl (Nat.le_of_ble_eq_true rfl) (by rw [hS10]; rfl) dX1_putValue_77 (fun H locs hW => ?_)
        refine vs_aload_n hC hl 0 dX1_putValue_80 rfl rfl ?_
        refine vs_get hC hW 0 rfl rfl vs_inX1 7 (by decide) vf_X1_32 rfl dX1_putValue_81 ?_
        refine vs_iload_n hC hl 1 dX1_putValue_84 rfl rfl ?_
        refine vs_iload_n hC hl 2 dX1_putValue_85 rfl rfl ?_
        obtain ⟨hi, hw⟩ := hw
        obtain ⟨S11, hS11⟩ : ∃ z : vs_St, z = vs_st S10 7 x1 x2 := ⟨_, rfl⟩
        have hw := hw S11 hS11
        refine vs_iast (Wo' := vs_W1 g a S11 ++ wr) hC hW 7 rfl (by decide) hi (by rw [hS11]; rfl) dX1_putValue_86 (fun H locs hW => ?_)
        refine vs_iconst hC dX1_putValue_87 ?_
        exact vs_zret (S11) hC hr hlk hW rfl ⟨Or.inr rfl, hw⟩ (Nat.le_of_ble_eq_true rfl) (Nat.le_of_ble_eq_true rfl) dX1_putValue_88
  · have hw := hwf hc
    clear hwt hwf hc
    refine vs_aload_n hC hl 0 dX1_putValue_8 rfl rfl ?_
    refine vs_iload_n hC hl 1 dX1_putValue_9 rfl rfl ?_
    refine vs_callVV [.int (vs_I x1)] hC hW 0 rfl rfl vk_X1_renewCopies vm_X1_87 (c_X1_renewCopies l g a (wr) S x1 _ hw) rfl hl.1 rfl ⟨rfl, rfl⟩ ⟨Nat.le_of_ble_eq_true rfl, Nat.le_of_ble_eq_true rfl⟩ ⟨Nat.le_of_ble_eq_true rfl, Nat.le_of_ble_eq_true rfl⟩ (Nat.le_of_ble_eq_true rfl) dX1_putValue_10 (fun S12 H locs hw hW => ?_)
    have hW : vs_Wd g A _ (vs_W1 g a S12 ++ wr) _ _ s := hW
    refine vs_goto hC 50 dX1_putValue_13 (by decide) ?_
    refine vs_aload_n hC hl 0 dX1_putValue_50 rfl rfl ?_
    refine vs_get hC hW 0 rfl rfl vs_inX1 7 (by decide) vf_X1_32 rfl dX1_putValue_51 ?_
    refine vs_iload_n hC hl 1 dX1_putValue_54 rfl rfl ?_
    obtain ⟨hi, hw⟩ := hw
    refine vs_iald hC hW 7 rfl (by decide) hi dX1_putValue_55 ?_
    refine vs_iconst hC dX1_putValue_56 ?_
    obtain ⟨hx, hw⟩ := hw
    obtain ⟨hwt, hwf⟩ := hw
    refine vs_icmp_ne hC 80 hx ⟨by decide, by decide⟩ dX1_putValue_57 (by decide) (fun hc => ?_) (fun hc => ?_)
    · have hw := hwt hc
      clear hwt hwf hc
      refine vs_aload_n hC hl 0 dX1_putValue_80 rfl rfl ?_
      refine vs_get hC hW 0 rfl rfl vs_inX1 7 (by decide) vf_X1_32 rfl dX1_putValue_81 ?_
      refine vs_iload_n hC hl 1 dX1_putValue_84 rfl rfl ?_
      refine vs_iload_n hC hl 2 dX1_putValue_85 rfl rfl ?_
      obtain ⟨hi, hw⟩ := hw
      obtain ⟨S13, hS13⟩ : ∃ z : vs_St, z = vs_st S12 7 x1 x2 := ⟨_, rfl⟩
      have hw := hw S13 hS13
      refine vs_iast (Wo' := vs_W1 g a S13 ++ wr) hC hW 7 rfl (by decide) hi (by rw [hS13]; rfl) dX1_putValue_86 (fun H locs hW => ?_)
      refine vs_iconst hC dX1_putValue_87 ?_
      exact vs_zret (S13) hC hr hlk hW rfl ⟨Or.inr rfl, hw⟩ (Nat.le_of_ble_eq_true rfl) (Nat.le_of_ble_eq_true rfl) dX1_putValue_88
    · have hw := hwf hc
      clear hwt hwf hc
      refine vs_aload_n hC hl 0 dX1_putValue_60 rfl rfl ?_
      refine vs_get hC hW 0 rfl rfl vs_inX1 11 (by decide) vf_X1_41 rfl dX1_putValue_61 ?_
      refine vs_aload_n hC hl 0 dX1_putValue_64 rfl rfl ?_
      refine vs_get hC hW 0 rfl rfl vs_inX1 10 (by decide) vf_X1_57 rfl dX1_putValue_65 ?_
      refine vs_iload_n hC hl 1 dX1_putValue_68 rfl rfl ?_
      obtain ⟨hi, hw⟩ := hw
      obtain ⟨S14, hS14⟩ : ∃ z : vs_St, z = vs_st S12 11 (S12 10 0) x1 := ⟨_, rfl⟩
      have hw := hw S14 hS14
      refine vs_iast (Wo' := vs_W1 g a S14 ++ wr) hC hW 10 rfl (by decide) hi (by rw [hS14]; rfl) dX1_putValue_69 (fun H locs hW => ?_)
      refine vs_aload_n hC hl 0 dX1_putValue_70 rfl rfl ?_
      refine vs_dup hC dX1_putValue_71 rfl ?_
      refine vs_get hC hW 0 rfl rfl vs_inX1 10 (by decide) vf_X1_57 rfl dX1_putValue_72 ?_
      refine vs_iconst hC dX1_putValue_75 ?_
      refine vs_iadd hC dX1_putValue_76 ?_
      obtain ⟨S15, hS15⟩ : ∃ z : vs_St, z = vs_st S14 10 0 ((S14 10 0) + 1) := ⟨_, rfl⟩
      have hw := hw S15 hS15
      refine vs_put (Wo' := vs_W1 g a S15 ++ wr) hC hW 0 rfl rfl vs_inX1 tyX1_ok nmX1 10 (by decide) vf_X1_57 rfl rfl (Nat.le_of_ble_eq_true rfl) (by rw [hS15]; rfl) dX1_putValue_77 (fun H locs hW => ?_)
      refine vs_aload_n hC hl 0 dX1_putValue_80 rfl rfl ?_
      refine vs_get hC hW 0 rfl rfl vs_inX1 7 (by decide) vf_X1_32 rfl dX1_putValue_81 ?_
      refine vs_iload_n hC hl 1 dX1_putValue_84 rfl rfl ?_
      refine vs_iload_n hC hl 2 dX1_putValue_85 rfl rfl ?_
      obtain ⟨hi, hw⟩ := hw
      obtain ⟨S16, hS16⟩ : ∃ z : vs_St, z = vs_st S15 7 x1 x2 := ⟨_, rfl⟩
      have hw := hw S16 hS16
      refine vs_iast (Wo' := vs_W1 g a S16 ++ wr) hC hW 7 rfl (by decide) hi (by rw [hS16]; rfl) dX1_putValue_86 (fun H locs hW => ?_)
      refine vs_iconst hC dX1_putValue_87 ?_
      exact vs_zret (S16) hC hr hlk hW rfl ⟨Or.inr rfl, hw⟩ (Nat.le_of_ble_eq_true rfl) (Nat.le_of_ble_eq_true rfl) dX1_putValue_88
set_option maxHeartbeats 4000000 in
set_option maxRecDepth 100000 in
theorem c_X1_emptyWarnedDisks (l : Launch) (g : vs_G) (a : Nat → Nat) (wr : va_W) (S : vs_St) (x1 : Int) (x2 : Int) (post : Int → vs_St → Prop) (hw : wX1_emptyWarnedDisks S x1 x2 post) : vs_MI l yX1_emptyWarnedDisks (Cond.code yX1_emptyWarnedDisks cX1_emptyWarnedDisks 9 (some .int) :: vs_ws) { frames := 2, cells := 0, slots := 0, locals := 48 } g [.ref (a 0), .int (vs_I x1), .int (vs_I x2)] (vs_W1 g a S ++ wr) (fun (S' : vs_St) => vs_W1 g a S' ++ wr) post 0 0 := by
  refine vs_ofW (Qc := fun A => vs_QI g A (fun (S' : vs_St) => vs_W1 g a S' ++ wr) post) (by decide +kernel) (Nat.le_of_ble_eq_true rfl) (fun p e s m below meth c A ls hC hr hlk hW hl => ?_)
  have hC : CallFix p m c cX1_emptyWarnedDisks 9 s _ vs_ws RX1 := hC
  have hl : lv_has ls 9 [(0, .ref (a 0)), (1, .int (vs_I x1)), (2, .int (vs_I x2))] := hl
  unfold wX1_emptyWarnedDisks at hw
  refine vs_iconst hC dX1_emptyWarnedDisks_0 ?_
  refine vs_istore_n (L' := [(0, .ref (a 0)), (1, .int (vs_I x1)), (2, .int (vs_I x2)), (3, .int (vs_I 0))]) hC hl [1, 2, 3, 0] dX1_emptyWarnedDisks_1 rfl (by decide) rfl (fun ls hl => ?_)
  refine vs_iconst hC dX1_emptyWarnedDisks_2 ?_
  refine vs_istore (L' := [(0, .ref (a 0)), (1, .int (vs_I x1)), (2, .int (vs_I x2)), (3, .int (vs_I 0)), (4, .int (vs_I 0))]) hC hl [1, 2, 3, 4, 0] dX1_emptyWarnedDisks_3 (by decide) rfl (fun ls hl => ?_)
  refine vs_aload_n hC hl 0 dX1_emptyWarnedDisks_5 rfl rfl ?_
  refine vs_get hC hW 0 rfl rfl vs_inX1 8 (by decide) vf_X1_35 rfl dX1_emptyWarnedDisks_6 ?_
  refine vs_iload_n hC hl 1 dX1_emptyWarnedDisks_9 rfl rfl ?_
  obtain ⟨hi, hw⟩ := hw
  refine vs_iald hC hW 8 rfl (by decide) hi dX1_emptyWarnedDisks_10 ?_
  refine vs_name (fun v1 hv1 => ?_)
  have hw := hw v1 hv1
  refine vs_istore (L' := [(0, .ref (a 0)), (1, .int (vs_I x1)), (2, .int (vs_I x2)), (3, .int (vs_I 0)), (4, .int (vs_I 0)), (5, .int (vs_I v1))]) hC hl [1, 2, 3, 4, 5, 0] dX1_emptyWarnedDisks_11 (by decide) rfl (fun ls hl => ?_)
  refine vs_iconst hC dX1_emptyWarnedDisks_13 ?_
  refine vs_istore (L' := [(0, .ref (a 0)), (1, .int (vs_I x1)), (2, .int (vs_I x2)), (3, .int (vs_I 0)), (4, .int (vs_I 0)), (5, .int (vs_I v1)), (6, .int (vs_I 0))]) hC hl [1, 2, 3, 4, 5, 6, 0] dX1_emptyWarnedDisks_14 (by decide) rfl (fun ls hl => ?_)
  obtain ⟨J2, μ2, hJ, hB2⟩ := hw
  refine vs_loop (V := Int × Int × Int × vs_St) (J := fun v => J2 v.1 v.2.1 v.2.2.1 v.2.2.2) (μ := fun v => μ2 v.1 v.2.1 v.2.2.1 v.2.2.2) (fun v => vs_W1 g a v.2.2.2 ++ wr) (fun v => [(0, .ref (a 0)), (1, .int (vs_I x1)), (2, .int (vs_I x2)), (3, .int (vs_I v.1)), (4, .int (vs_I v.2.1)), (5, .int (vs_I v1)), (6, .int (vs_I v.2.2.1))]) (fun v hJ ih2 H locs ls hW hl => ?_) (0, 0, 0, S) hJ hW (lv_sub hl [0, 1, 2, 3, 4, 5, 6] rfl)
  obtain ⟨v3, v4, v5, S6⟩ := v
  have hw := hB2 v3 v4 v5 S6 hJ
  have hW : vs_Wd g A _ (vs_W1 g a S6 ++ wr) _ _ s := hW
  have hl : lv_has ls 9 [(0, .ref (a 0)), (1, .int (vs_I x1)), (2, .int (vs_I x2)), (3, .int (vs_I v3)), (4, .int (vs_I v4)), (5, .int (vs_I v1)), (6, .int (vs_I v5))] := hl
  clear hJ
  unfold lX1_emptyWarnedDisks_16 at hw
  refine vs_iload hC hl 6 dX1_emptyWarnedDisks_16 rfl ?_
  refine vs_iload hC hl 5 dX1_emptyWarnedDisks_18 rfl ?_
  obtain ⟨hx, hw⟩ := hw
  obtain ⟨hy, hw⟩ := hw
  obtain ⟨hwt, hwf⟩ := hw
  refine vs_icmp_ge hC 102 hx hy dX1_emptyWarnedDisks_20 (by decide) (fun hc => ?_) (fun hc => ?_)
  · have hw := hwt hc
    clear hwt hwf hc
    refine vs_iload_n hC hl 3 dX1_emptyWarnedDisks_102 rfl rfl ?_
    exact vs_iret (S6) hC hr hlk hW rfl hw (Nat.le_of_ble_eq_true rfl) (Nat.le_of_ble_eq_true rfl) dX1_emptyWarnedDisks_103
  · have hw := hwf hc
    clear hwt hwf hc
    refine vs_iload_n hC hl 3 dX1_emptyWarnedDisks_23 rfl rfl ?_
    refine vs_iload_n hC hl 2 dX1_emptyWarnedDisks_24 rfl rfl ?_
    obtain ⟨hx, hw⟩ := hw
    obtain ⟨hy, hw⟩ := hw
    obtain ⟨hwt, hwf⟩ := hw
    refine vs_icmp_ge hC 102 hx hy dX1_emptyWarnedDisks_25 (by decide) (fun hc => ?_) (fun hc => ?_)
    · have hw := hwt hc
      clear hwt hwf hc
      refine vs_iload_n hC hl 3 dX1_emptyWarnedDisks_102 rfl rfl ?_
      exact vs_iret (S6) hC hr hlk hW rfl hw (Nat.le_of_ble_eq_true rfl) (Nat.le_of_ble_eq_true rfl) dX1_emptyWarnedDisks_103
    · have hw := hwf hc
      clear hwt hwf hc
      refine vs_aload_n hC hl 0 dX1_emptyWarnedDisks_28 rfl rfl ?_
      refine vs_iload_n hC hl 1 dX1_emptyWarnedDisks_29 rfl rfl ?_
      refine vs_iload hC hl 4 dX1_emptyWarnedDisks_30 rfl ?_
      refine vs_callVI [.int (vs_I x1), .int (vs_I v4)] hC hW 0 rfl rfl vk_X1_addressOf vm_X1_66 (c_X1_addressOf l g a (wr) S6 x1 v4 _ hw) rfl hl.1 rfl ⟨rfl, rfl⟩ ⟨Nat.le_of_ble_eq_true rfl, Nat.le_of_ble_eq_true rfl⟩ ⟨Nat.le_of_ble_eq_true rfl, Nat.le_of_ble_eq_true rfl⟩ (Nat.le_of_ble_eq_true rfl) dX1_emptyWarnedDisks_32 (fun r7 _ H locs hw hW => ?_)
      have hW : vs_Wd g A _ (vs_W1 g a S6 ++ wr) _ _ s := hW
      refine vs_bipush hC dX1_emptyWarnedDisks_35 (by decide +kernel) ?_
      obtain ⟨hi, hw⟩ := hw
      refine vs_idiv hC dX1_emptyWarnedDisks_37 ⟨hi.1, hi.2, by decide, by decide⟩ ?_
      refine vs_name (fun v8 hv8 => ?_)
      have hw := hw v8 hv8
      refine vs_istore (L' := [(0, .ref (a 0)), (1, .int (vs_I x1)), (2, .int (vs_I x2)), (3, .int (vs_I v3)), (4, .int (vs_I v4)), (5, .int (vs_I v1)), (6, .int (vs_I v5)), (7, .int (vs_I v8))]) hC hl [1, 2, 3, 4, 5, 6, 7, 0] dX1_emptyWarnedDisks_38 (by decide) rfl (fun ls hl => ?_)
      refine vs_aload_n hC hl 0 dX1_emptyWarnedDisks_40 rfl rfl ?_
      refine vs_get hC hW 0 rfl rfl vs_inX1 3 (by decide) vf_X1_18 rfl dX1_emptyWarnedDisks_41 ?_
      refine vs_iload hC hl 7 dX1_emptyWarnedDisks_44 rfl ?_
      obtain ⟨hi, hw⟩ := hw
      refine vs_cald hC hW 3 rfl (by decide) hi dX1_emptyWarnedDisks_46 ?_
      refine vs_bipush hC dX1_emptyWarnedDisks_47 (by decide +kernel) ?_
      obtain ⟨hx, hw⟩ := hw
      obtain ⟨hwt, hwf⟩ := hw
      refine vs_icmp_ne hC 64 hx ⟨by decide, by decide⟩ dX1_emptyWarnedDisks_49 (by decide) (fun hc => ?_) (fun hc => ?_)
      · have hw := hwt hc
        clear hwt hwf hc
        refine vs_iconst hC dX1_emptyWarnedDisks_64 ?_
        refine vs_name (fun v9 hv9 => ?_)
        have hw := hw v9 hv9
        refine vs_istore (L' := [(0, .ref (a 0)), (1, .int (vs_I x1)), (2, .int (vs_I x2)), (3, .int (vs_I v3)), (4, .int (vs_I v4)), (5, .int (vs_I v1)), (6, .int (vs_I v5)), (7, .int (vs_I v8)), (8, .int (vs_I v9))]) hC hl [1, 2, 3, 4, 5, 6, 7, 8, 0] dX1_emptyWarnedDisks_65 (by decide) rfl (fun ls hl => ?_)
        refine vs_iload hC hl 8 dX1_emptyWarnedDisks_67 rfl ?_
        refine vs_iconst hC dX1_emptyWarnedDisks_69 ?_
        obtain ⟨hx, hw⟩ := hw
        obtain ⟨hwt, hwf⟩ := hw
        refine vs_icmp_ne hC 79 hx ⟨by decide, by decide⟩ dX1_emptyWarnedDisks_70 (by decide) (fun hc => ?_) (fun hc => ?_)
        · have hw := hwt hc
          clear hwt hwf hc
          refine vs_aload_n hC hl 0 dX1_emptyWarnedDisks_79 rfl rfl ?_
          refine vs_iload_n hC hl 1 dX1_emptyWarnedDisks_80 rfl rfl ?_
          refine vs_iload hC hl 4 dX1_emptyWarnedDisks_81 rfl ?_
          refine vs_callVV [.int (vs_I x1), .int (vs_I v4)] hC hW 0 rfl rfl vk_X1_removeCopy vm_X1_103 (c_X1_removeCopy l g a (wr) S6 x1 v4 _ hw) rfl hl.1 rfl ⟨rfl, rfl⟩ ⟨Nat.le_of_ble_eq_true rfl, Nat.le_of_ble_eq_true rfl⟩ ⟨Nat.le_of_ble_eq_true rfl, Nat.le_of_ble_eq_true rfl⟩ (Nat.le_of_ble_eq_true rfl) dX1_emptyWarnedDisks_83 (fun S10 H locs hw hW => ?_)
          have hW : vs_Wd g A _ (vs_W1 g a S10 ++ wr) _ _ s := hW
          refine vs_aload_n hC hl 0 dX1_emptyWarnedDisks_86 rfl rfl ?_
          refine vs_iload_n hC hl 1 dX1_emptyWarnedDisks_87 rfl rfl ?_
          refine vs_iload hC hl 8 dX1_emptyWarnedDisks_88 rfl ?_
          refine vs_callVV [.int (vs_I x1), .int (vs_I v9)] hC hW 0 rfl rfl vk_X1_addCopy vm_X1_118 (c_X1_addCopy l g a (wr) S10 x1 v9 _ hw) rfl hl.1 rfl ⟨rfl, rfl⟩ ⟨Nat.le_of_ble_eq_true rfl, Nat.le_of_ble_eq_true rfl⟩ ⟨Nat.le_of_ble_eq_true rfl, Nat.le_of_ble_eq_true rfl⟩ (Nat.le_of_ble_eq_true rfl) dX1_emptyWarnedDisks_90 (fun S11 H locs hw hW => ?_)
          have hW : vs_Wd g A _ (vs_W1 g a S11 ++ wr) _ _ s := hW
          refine vs_iinc (L' := [(0, .ref (a 0)), (1, .int (vs_I x1)), (2, .int (vs_I x2)), (3, .int (vs_I (v3 + 1))), (4, .int (vs_I v4)), (5, .int (vs_I v1)), (6, .int (vs_I v5)), (7, .int (vs_I v8)), (8, .int (vs_I v9))]) hC hl 3 [1, 2, 3, 0, 4, 5, 6, 7, 8] dX1_emptyWarnedDisks_93 rfl (by decide) rfl (fun ls hl => ?_)
          refine vs_iinc (L' := [(0, .ref (a 0)), (1, .int (vs_I x1)), (2, .int (vs_I x2)), (3, .int (vs_I (v3 + 1))), (4, .int (vs_I v4)), (5, .int (vs_I v1)), (6, .int (vs_I (v5 + 1))), (7, .int (vs_I v8)), (8, .int (vs_I v9))]) hC hl 6 [1, 2, 3, 4, 5, 6, 0, 7, 8] dX1_emptyWarnedDisks_96 rfl (by decide) rfl (fun ls hl => ?_)
          refine vs_goto hC 16 dX1_emptyWarnedDisks_99 (by decide) ?_
          exact ih2 (v3 + 1, v4, v5 + 1, S11) hw _ _ _ hW (lv_sub hl [0, 1, 2, 3, 4, 5, 6] rfl)
        · have hw := hwf hc
          clear hwt hwf hc
          refine vs_iinc (L' := [(0, .ref (a 0)), (1, .int (vs_I x1)), (2, .int (vs_I x2)), (3, .int (vs_I v3)), (4, .int (vs_I (v4 + 1))), (5, .int (vs_I v1)), (6, .int (vs_I v5)), (7, .int (vs_I v8)), (8, .int (vs_I v9))]) hC hl 4 [1, 2, 3, 4, 0, 5, 6, 7, 8] dX1_emptyWarnedDisks_73 rfl (by decide) rfl (fun ls hl => ?_)
          refine vs_goto hC 96 dX1_emptyWarnedDisks_76 (by decide) ?_
          refine vs_iinc (L' := [(0, .ref (a 0)), (1, .int (vs_I x1)), (2, .int (vs_I x2)), (3, .int (vs_I v3)), (4, .int (vs_I (v4 + 1))), (5, .int (vs_I v1)), (6, .int (vs_I (v5 + 1))), (7, .int (vs_I v8)), (8, .int (vs_I v9))]) hC hl 6 [1, 2, 3, 4, 5, 6, 0, 7, 8] dX1_emptyWarnedDisks_96 rfl (by decide) rfl (fun ls hl => ?_)
          refine vs_goto hC 16 dX1_emptyWarnedDisks_99 (by decide) ?_
          exact ih2 (v3, v4 + 1, v5 + 1, S6) hw _ _ _ hW (lv_sub hl [0, 1, 2, 3, 4, 5, 6] rfl)
      · have hw := hwf hc
        clear hwt hwf hc
        refine vs_aload_n hC hl 0 dX1_emptyWarnedDisks_52 rfl rfl ?_
        refine vs_aload_n hC hl 0 dX1_emptyWarnedDisks_53 rfl rfl ?_
        refine vs_iload_n hC hl 1 dX1_emptyWarnedDisks_54 rfl rfl ?_
        refine vs_callVI [.int (vs_I x1)] hC hW 0 rfl rfl vk_X1_disksWithCopy vm_X1_100 (c_X1_disksWithCopy l g a (wr) S6 x1 _ hw) rfl hl.1 rfl ⟨rfl, rfl⟩ ⟨Nat.le_of_ble_eq_true rfl, Nat.le_of_ble_eq_true rfl⟩ ⟨Nat.le_of_ble_eq_true rfl, Nat.le_of_ble_eq_true rfl⟩ (Nat.le_of_ble_eq_true rfl) dX1_emptyWarnedDisks_55 (fun r12 _ H locs hw hW => ?_)
        have hW : vs_Wd g A _ (vs_W1 g a S6 ++ wr) _ _ s := hW
        refine vs_callVI [.int (vs_I r12)] hC hW 0 rfl rfl vk_X1_findPlace vm_X1_115 (c_X1_findPlace l g a (wr) S6 r12 _ hw) rfl hl.1 rfl ⟨rfl, rfl⟩ ⟨Nat.le_of_ble_eq_true rfl, Nat.le_of_ble_eq_true rfl⟩ ⟨Nat.le_of_ble_eq_true rfl, Nat.le_of_ble_eq_true rfl⟩ (Nat.le_of_ble_eq_true rfl) dX1_emptyWarnedDisks_58 (fun r13 _ H locs hw hW => ?_)
        have hW : vs_Wd g A _ (vs_W1 g a S6 ++ wr) _ _ s := hW
        refine vs_goto hC 65 dX1_emptyWarnedDisks_61 (by decide) ?_
        refine vs_istore (L' := [(0, .ref (a 0)), (1, .int (vs_I x1)), (2, .int (vs_I x2)), (3, .int (vs_I v3)), (4, .int (vs_I v4)), (5, .int (vs_I v1)), (6, .int (vs_I v5)), (7, .int (vs_I v8)), (8, .int (vs_I r13))]) hC hl [1, 2, 3, 4, 5, 6, 7, 8, 0] dX1_emptyWarnedDisks_65 (by decide) rfl (fun ls hl => ?_)
        refine vs_iload hC hl 8 dX1_emptyWarnedDisks_67 rfl ?_
        refine vs_iconst hC dX1_emptyWarnedDisks_69 ?_
        obtain ⟨hx, hw⟩ := hw
        obtain ⟨hwt, hwf⟩ := hw
        refine vs_icmp_ne hC 79 hx ⟨by decide, by decide⟩ dX1_emptyWarnedDisks_70 (by decide) (fun hc => ?_) (fun hc => ?_)
        · have hw := hwt hc
          clear hwt hwf hc
          refine vs_aload_n hC hl 0 dX1_emptyWarnedDisks_79 rfl rfl ?_
          refine vs_iload_n hC hl 1 dX1_emptyWarnedDisks_80 rfl rfl ?_
          refine vs_iload hC hl 4 dX1_emptyWarnedDisks_81 rfl ?_
          refine vs_callVV [.int (vs_I x1), .int (vs_I v4)] hC hW 0 rfl rfl vk_X1_removeCopy vm_X1_103 (c_X1_removeCopy l g a (wr) S6 x1 v4 _ hw) rfl hl.1 rfl ⟨rfl, rfl⟩ ⟨Nat.le_of_ble_eq_true rfl, Nat.le_of_ble_eq_true rfl⟩ ⟨Nat.le_of_ble_eq_true rfl, Nat.le_of_ble_eq_true rfl⟩ (Nat.le_of_ble_eq_true rfl) dX1_emptyWarnedDisks_83 (fun S14 H locs hw hW => ?_)
          have hW : vs_Wd g A _ (vs_W1 g a S14 ++ wr) _ _ s := hW
          refine vs_aload_n hC hl 0 dX1_emptyWarnedDisks_86 rfl rfl ?_
          refine vs_iload_n hC hl 1 dX1_emptyWarnedDisks_87 rfl rfl ?_
          refine vs_iload hC hl 8 dX1_emptyWarnedDisks_88 rfl ?_
          refine vs_callVV [.int (vs_I x1), .int (vs_I r13)] hC hW 0 rfl rfl vk_X1_addCopy vm_X1_118 (c_X1_addCopy l g a (wr) S14 x1 r13 _ hw) rfl hl.1 rfl ⟨rfl, rfl⟩ ⟨Nat.le_of_ble_eq_true rfl, Nat.le_of_ble_eq_true rfl⟩ ⟨Nat.le_of_ble_eq_true rfl, Nat.le_of_ble_eq_true rfl⟩ (Nat.le_of_ble_eq_true rfl) dX1_emptyWarnedDisks_90 (fun S15 H locs hw hW => ?_)
          have hW : vs_Wd g A _ (vs_W1 g a S15 ++ wr) _ _ s := hW
          refine vs_iinc (L' := [(0, .ref (a 0)), (1, .int (vs_I x1)), (2, .int (vs_I x2)), (3, .int (vs_I (v3 + 1))), (4, .int (vs_I v4)), (5, .int (vs_I v1)), (6, .int (vs_I v5)), (7, .int (vs_I v8)), (8, .int (vs_I r13))]) hC hl 3 [1, 2, 3, 0, 4, 5, 6, 7, 8] dX1_emptyWarnedDisks_93 rfl (by decide) rfl (fun ls hl => ?_)
          refine vs_iinc (L' := [(0, .ref (a 0)), (1, .int (vs_I x1)), (2, .int (vs_I x2)), (3, .int (vs_I (v3 + 1))), (4, .int (vs_I v4)), (5, .int (vs_I v1)), (6, .int (vs_I (v5 + 1))), (7, .int (vs_I v8)), (8, .int (vs_I r13))]) hC hl 6 [1, 2, 3, 4, 5, 6, 0, 7, 8] dX1_emptyWarnedDisks_96 rfl (by decide) rfl (fun ls hl => ?_)
          refine vs_goto hC 16 dX1_emptyWarnedDisks_99 (by decide) ?_
          exact ih2 (v3 + 1, v4, v5 + 1, S15) hw _ _ _ hW (lv_sub hl [0, 1, 2, 3, 4, 5, 6] rfl)
        · have hw := hwf hc
          clear hwt hwf hc
          refine vs_iinc (L' := [(0, .ref (a 0)), (1, .int (vs_I x1)), (2, .int (vs_I x2)), (3, .int (vs_I v3)), (4, .int (vs_I (v4 + 1))), (5, .int (vs_I v1)), (6, .int (vs_I v5)), (7, .int (vs_I v8)), (8, .int (vs_I r13))]) hC hl 4 [1, 2, 3, 4, 0, 5, 6, 7, 8] dX1_emptyWarnedDisks_73 rfl (by decide) rfl (fun ls hl => ?_)
          refine vs_goto hC 96 dX1_emptyWarnedDisks_76 (by decide) ?_
          refine vs_iinc (L' := [(0, .ref (a 0)), (1, .int (vs_I x1)), (2, .int (vs_I x2)), (3, .int (vs_I v3)), (4, .int (vs_I (v4 + 1))), (5, .int (vs_I v1)), (6, .int (vs_I (v5 + 1))), (7, .int (vs_I v8)), (8, .int (vs_I r13))]) hC hl 6 [1, 2, 3, 4, 5, 6, 0, 7, 8] dX1_emptyWarnedDisks_96 rfl (by decide) rfl (fun ls hl => ?_)
          refine vs_goto hC 16 dX1_emptyWarnedDisks_99 (by decide) ?_
          exact ih2 (v3, v4 + 1, v5 + 1, S6) hw _ _ _ hW (lv_sub hl [0, 1, 2, 3, 4, 5, 6] rfl)
set_option maxHeartbeats 4000000 in
set_option maxRecDepth 100000 in
theorem c_X1_rebuild (l : Launch) (g : vs_G) (a : Nat → Nat) (wr : va_W) (S : vs_St) (x1 : Int) (post : Int → vs_St → Prop) (hw : wX1_rebuild S x1 post) : vs_MI l yX1_rebuild (Cond.code yX1_rebuild cX1_rebuild 4 (some .int) :: vs_ws) { frames := 3, cells := 0, slots := 0, locals := 76 } g [.ref (a 0), .int (vs_I x1)] (vs_W1 g a S ++ wr) (fun (S' : vs_St) => vs_W1 g a S' ++ wr) post 0 0 := by
  refine vs_ofW (Qc := fun A => vs_QI g A (fun (S' : vs_St) => vs_W1 g a S' ++ wr) post) (by decide +kernel) (Nat.le_of_ble_eq_true rfl) (fun p e s m below meth c A ls hC hr hlk hW hl => ?_)
  have hC : CallFix p m c cX1_rebuild 4 s _ vs_ws RX1 := hC
  have hl : lv_has ls 4 [(0, .ref (a 0)), (1, .int (vs_I x1))] := hl
  unfold wX1_rebuild at hw
  refine vs_iconst hC dX1_rebuild_0 ?_
  refine vs_istore_n (L' := [(0, .ref (a 0)), (1, .int (vs_I x1)), (2, .int (vs_I 0))]) hC hl [1, 2, 0] dX1_rebuild_1 rfl (by decide) rfl (fun ls hl => ?_)
  refine vs_iconst hC dX1_rebuild_2 ?_
  refine vs_istore_n (L' := [(0, .ref (a 0)), (1, .int (vs_I x1)), (2, .int (vs_I 0)), (3, .int (vs_I 0))]) hC hl [1, 2, 3, 0] dX1_rebuild_3 rfl (by decide) rfl (fun ls hl => ?_)
  obtain ⟨J1, μ1, hJ, hB1⟩ := hw
  refine vs_loop (V := Int × Int × vs_St) (J := fun v => J1 v.1 v.2.1 v.2.2) (μ := fun v => μ1 v.1 v.2.1 v.2.2) (fun v => vs_W1 g a v.2.2 ++ wr) (fun v => [(0, .ref (a 0)), (1, .int (vs_I x1)), (2, .int (vs_I v.1)), (3, .int (vs_I v.2.1))]) (fun v hJ ih1 H locs ls hW hl => ?_) (0, 0, S) hJ hW (lv_sub hl [0, 1, 2, 3] rfl)
  obtain ⟨v2, v3, S4⟩ := v
  have hw := hB1 v2 v3 S4 hJ
  have hW : vs_Wd g A _ (vs_W1 g a S4 ++ wr) _ _ s := hW
  have hl : lv_has ls 4 [(0, .ref (a 0)), (1, .int (vs_I x1)), (2, .int (vs_I v2)), (3, .int (vs_I v3))] := hl
  clear hJ
  unfold lX1_rebuild_4 at hw
  refine vs_iload_n hC hl 3 dX1_rebuild_4 rfl rfl ?_
  refine vs_aload_n hC hl 0 dX1_rebuild_5 rfl rfl ?_
  refine vs_get hC hW 0 rfl rfl vs_inX1 10 (by decide) vf_X1_57 rfl dX1_rebuild_6 ?_
  obtain ⟨hx, hw⟩ := hw
  obtain ⟨hy, hw⟩ := hw
  obtain ⟨hwt, hwf⟩ := hw
  refine vs_icmp_ge hC 52 hx hy dX1_rebuild_9 (by decide) (fun hc => ?_) (fun hc => ?_)
  · have hw := hwt hc
    clear hwt hwf hc
    refine vs_iconst hC dX1_rebuild_52 ?_
    refine vs_istore_n (L' := [(0, .ref (a 0)), (1, .int (vs_I x1)), (2, .int (vs_I v2)), (3, .int (vs_I 0))]) hC hl [1, 2, 3, 0] dX1_rebuild_53 rfl (by decide) rfl (fun ls hl => ?_)
    obtain ⟨J5, μ5, hJ, hB5⟩ := hw
    refine vs_loop (V := Int × Int × vs_St) (J := fun v => J5 v.1 v.2.1 v.2.2) (μ := fun v => μ5 v.1 v.2.1 v.2.2) (fun v => vs_W1 g a v.2.2 ++ wr) (fun v => [(0, .ref (a 0)), (1, .int (vs_I x1)), (2, .int (vs_I v.1)), (3, .int (vs_I v.2.1))]) (fun v hJ ih5 H locs ls hW hl => ?_) (v2, 0, S4) hJ hW (lv_sub hl [0, 1, 2, 3] rfl)
    obtain ⟨v6, v7, S8⟩ := v
    have hw := hB5 v6 v7 S8 hJ
    have hW : vs_Wd g A _ (vs_W1 g a S8 ++ wr) _ _ s := hW
    have hl : lv_has ls 4 [(0, .ref (a 0)), (1, .int (vs_I x1)), (2, .int (vs_I v6)), (3, .int (vs_I v7))] := hl
    clear hJ
    unfold lX1_rebuild_54 at hw
    refine vs_iload_n hC hl 3 dX1_rebuild_54 rfl rfl ?_
    refine vs_aload_n hC hl 0 dX1_rebuild_55 rfl rfl ?_
    refine vs_get hC hW 0 rfl rfl vs_inX1 10 (by decide) vf_X1_57 rfl dX1_rebuild_56 ?_
    obtain ⟨hx, hw⟩ := hw
    obtain ⟨hy, hw⟩ := hw
    obtain ⟨hwt, hwf⟩ := hw
    refine vs_icmp_ge hC 102 hx hy dX1_rebuild_59 (by decide) (fun hc => ?_) (fun hc => ?_)
    · have hw := hwt hc
      clear hwt hwf hc
      refine vs_iload_n hC hl 2 dX1_rebuild_102 rfl rfl ?_
      exact vs_iret (S8) hC hr hlk hW rfl hw (Nat.le_of_ble_eq_true rfl) (Nat.le_of_ble_eq_true rfl) dX1_rebuild_103
    · have hw := hwf hc
      clear hwt hwf hc
      refine vs_iload_n hC hl 2 dX1_rebuild_62 rfl rfl ?_
      refine vs_iload_n hC hl 1 dX1_rebuild_63 rfl rfl ?_
      obtain ⟨hx, hw⟩ := hw
      obtain ⟨hy, hw⟩ := hw
      obtain ⟨hwt, hwf⟩ := hw
      refine vs_icmp_ge hC 102 hx hy dX1_rebuild_64 (by decide) (fun hc => ?_) (fun hc => ?_)
      · have hw := hwt hc
        clear hwt hwf hc
        refine vs_iload_n hC hl 2 dX1_rebuild_102 rfl rfl ?_
        exact vs_iret (S8) hC hr hlk hW rfl hw (Nat.le_of_ble_eq_true rfl) (Nat.le_of_ble_eq_true rfl) dX1_rebuild_103
      · have hw := hwf hc
        clear hwt hwf hc
        refine vs_aload_n hC hl 0 dX1_rebuild_67 rfl rfl ?_
        refine vs_aload_n hC hl 0 dX1_rebuild_68 rfl rfl ?_
        refine vs_get hC hW 0 rfl rfl vs_inX1 11 (by decide) vf_X1_41 rfl dX1_rebuild_69 ?_
        refine vs_iload_n hC hl 3 dX1_rebuild_72 rfl rfl ?_
        obtain ⟨hi, hw⟩ := hw
        refine vs_iald hC hW 10 rfl (by decide) hi dX1_rebuild_73 ?_
        refine vs_callVI [.int (vs_I (S8 11 v7))] hC hW 0 rfl rfl vk_X1_hasLost vm_X1_74 (c_X1_hasLost l g a (wr) S8 (S8 11 v7) _ hw) rfl hl.1 rfl ⟨rfl, rfl⟩ ⟨Nat.le_of_ble_eq_true rfl, Nat.le_of_ble_eq_true rfl⟩ ⟨Nat.le_of_ble_eq_true rfl, Nat.le_of_ble_eq_true rfl⟩ (Nat.le_of_ble_eq_true rfl) dX1_rebuild_74 (fun r9 _ H locs hw hW => ?_)
        have hW : vs_Wd g A _ (vs_W1 g a S8 ++ wr) _ _ s := hW
        obtain ⟨hx, hw⟩ := hw
        obtain ⟨hwt, hwf⟩ := hw
        refine vs_if_ne hC 96 hx dX1_rebuild_77 (by decide) (fun hc => ?_) (fun hc => ?_)
        · have hw := hwt hc
          clear hwt hwf hc
          refine vs_iinc (L' := [(0, .ref (a 0)), (1, .int (vs_I x1)), (2, .int (vs_I v6)), (3, .int (vs_I (v7 + 1)))]) hC hl 3 [1, 2, 3, 0] dX1_rebuild_96 rfl (by decide) rfl (fun ls hl => ?_)
          refine vs_goto hC 54 dX1_rebuild_99 (by decide) ?_
          exact ih5 (v6, v7 + 1, S8) hw _ _ _ hW (lv_sub hl [0, 1, 2, 3] rfl)
        · have hw := hwf hc
          clear hwt hwf hc
          refine vs_iload_n hC hl 2 dX1_rebuild_80 rfl rfl ?_
          refine vs_aload_n hC hl 0 dX1_rebuild_81 rfl rfl ?_
          refine vs_aload_n hC hl 0 dX1_rebuild_82 rfl rfl ?_
          refine vs_get hC hW 0 rfl rfl vs_inX1 11 (by decide) vf_X1_41 rfl dX1_rebuild_83 ?_
          refine vs_iload_n hC hl 3 dX1_rebuild_86 rfl rfl ?_
          obtain ⟨hi, hw⟩ := hw
          refine vs_iald hC hW 10 rfl (by decide) hi dX1_rebuild_87 ?_
          refine vs_iload_n hC hl 1 dX1_rebuild_88 rfl rfl ?_
          refine vs_iload_n hC hl 2 dX1_rebuild_89 rfl rfl ?_
          refine vs_isub hC dX1_rebuild_90 ?_
          refine vs_callVI [.int (vs_I (S8 11 v7)), .int (vs_I (x1 - v6))] hC hW 0 rfl rfl vk_X1_emptyWarnedDisks vm_X1_107 (c_X1_emptyWarnedDisks l g a (wr) S8 (S8 11 v7) (x1 - v6) _ hw) rfl hl.1 rfl ⟨rfl, rfl⟩ ⟨Nat.le_of_ble_eq_true rfl, Nat.le_of_ble_eq_true rfl⟩ ⟨Nat.le_of_ble_eq_true rfl, Nat.le_of_ble_eq_true rfl⟩ (Nat.le_of_ble_eq_true rfl) dX1_rebuild_91 (fun r10 S11 H locs hw hW => ?_)
          have hW : vs_Wd g A _ (vs_W1 g a S11 ++ wr) _ _ s := hW
          refine vs_iadd hC dX1_rebuild_94 ?_
          refine vs_name (fun v12 hv12 => ?_)
          have hw := hw v12 hv12
          refine vs_istore_n (L' := [(0, .ref (a 0)), (1, .int (vs_I x1)), (2, .int (vs_I v12)), (3, .int (vs_I v7))]) hC hl [1, 2, 0, 3] dX1_rebuild_95 rfl (by decide) rfl (fun ls hl => ?_)
          refine vs_iinc (L' := [(0, .ref (a 0)), (1, .int (vs_I x1)), (2, .int (vs_I v12)), (3, .int (vs_I (v7 + 1)))]) hC hl 3 [1, 2, 3, 0] dX1_rebuild_96 rfl (by decide) rfl (fun ls hl => ?_)
          refine vs_goto hC 54 dX1_rebuild_99 (by decide) ?_
          exact ih5 (v12, v7 + 1, S11) hw _ _ _ hW (lv_sub hl [0, 1, 2, 3] rfl)
  · have hw := hwf hc
    clear hwt hwf hc
    refine vs_iload_n hC hl 2 dX1_rebuild_12 rfl rfl ?_
    refine vs_iload_n hC hl 1 dX1_rebuild_13 rfl rfl ?_
    obtain ⟨hx, hw⟩ := hw
    obtain ⟨hy, hw⟩ := hw
    obtain ⟨hwt, hwf⟩ := hw
    refine vs_icmp_ge hC 52 hx hy dX1_rebuild_14 (by decide) (fun hc => ?_) (fun hc => ?_)
    · have hw := hwt hc
      clear hwt hwf hc
      refine vs_iconst hC dX1_rebuild_52 ?_
      refine vs_istore_n (L' := [(0, .ref (a 0)), (1, .int (vs_I x1)), (2, .int (vs_I v2)), (3, .int (vs_I 0))]) hC hl [1, 2, 3, 0] dX1_rebuild_53 rfl (by decide) rfl (fun ls hl => ?_)
      obtain ⟨J13, μ13, hJ, hB13⟩ := hw
      refine vs_loop (V := Int × Int × vs_St) (J := fun v => J13 v.1 v.2.1 v.2.2) (μ := fun v => μ13 v.1 v.2.1 v.2.2) (fun v => vs_W1 g a v.2.2 ++ wr) (fun v => [(0, .ref (a 0)), (1, .int (vs_I x1)), (2, .int (vs_I v.1)), (3, .int (vs_I v.2.1))]) (fun v hJ ih13 H locs ls hW hl => ?_) (v2, 0, S4) hJ hW (lv_sub hl [0, 1, 2, 3] rfl)
      obtain ⟨v14, v15, S16⟩ := v
      have hw := hB13 v14 v15 S16 hJ
      have hW : vs_Wd g A _ (vs_W1 g a S16 ++ wr) _ _ s := hW
      have hl : lv_has ls 4 [(0, .ref (a 0)), (1, .int (vs_I x1)), (2, .int (vs_I v14)), (3, .int (vs_I v15))] := hl
      clear hJ
      unfold lX1_rebuild_54 at hw
      refine vs_iload_n hC hl 3 dX1_rebuild_54 rfl rfl ?_
      refine vs_aload_n hC hl 0 dX1_rebuild_55 rfl rfl ?_
      refine vs_get hC hW 0 rfl rfl vs_inX1 10 (by decide) vf_X1_57 rfl dX1_rebuild_56 ?_
      obtain ⟨hx, hw⟩ := hw
      obtain ⟨hy, hw⟩ := hw
      obtain ⟨hwt, hwf⟩ := hw
      refine vs_icmp_ge hC 102 hx hy dX1_rebuild_59 (by decide) (fun hc => ?_) (fun hc => ?_)
      · have hw := hwt hc
        clear hwt hwf hc
        refine vs_iload_n hC hl 2 dX1_rebuild_102 rfl rfl ?_
        exact vs_iret (S16) hC hr hlk hW rfl hw (Nat.le_of_ble_eq_true rfl) (Nat.le_of_ble_eq_true rfl) dX1_rebuild_103
      · have hw := hwf hc
        clear hwt hwf hc
        refine vs_iload_n hC hl 2 dX1_rebuild_62 rfl rfl ?_
        refine vs_iload_n hC hl 1 dX1_rebuild_63 rfl rfl ?_
        obtain ⟨hx, hw⟩ := hw
        obtain ⟨hy, hw⟩ := hw
        obtain ⟨hwt, hwf⟩ := hw
        refine vs_icmp_ge hC 102 hx hy dX1_rebuild_64 (by decide) (fun hc => ?_) (fun hc => ?_)
        · have hw := hwt hc
          clear hwt hwf hc
          refine vs_iload_n hC hl 2 dX1_rebuild_102 rfl rfl ?_
          exact vs_iret (S16) hC hr hlk hW rfl hw (Nat.le_of_ble_eq_true rfl) (Nat.le_of_ble_eq_true rfl) dX1_rebuild_103
        · have hw := hwf hc
          clear hwt hwf hc
          refine vs_aload_n hC hl 0 dX1_rebuild_67 rfl rfl ?_
          refine vs_aload_n hC hl 0 dX1_rebuild_68 rfl rfl ?_
          refine vs_get hC hW 0 rfl rfl vs_inX1 11 (by decide) vf_X1_41 rfl dX1_rebuild_69 ?_
          refine vs_iload_n hC hl 3 dX1_rebuild_72 rfl rfl ?_
          obtain ⟨hi, hw⟩ := hw
          refine vs_iald hC hW 10 rfl (by decide) hi dX1_rebuild_73 ?_
          refine vs_callVI [.int (vs_I (S16 11 v15))] hC hW 0 rfl rfl vk_X1_hasLost vm_X1_74 (c_X1_hasLost l g a (wr) S16 (S16 11 v15) _ hw) rfl hl.1 rfl ⟨rfl, rfl⟩ ⟨Nat.le_of_ble_eq_true rfl, Nat.le_of_ble_eq_true rfl⟩ ⟨Nat.le_of_ble_eq_true rfl, Nat.le_of_ble_eq_true rfl⟩ (Nat.le_of_ble_eq_true rfl) dX1_rebuild_74 (fun r17 _ H locs hw hW => ?_)
          have hW : vs_Wd g A _ (vs_W1 g a S16 ++ wr) _ _ s := hW
          obtain ⟨hx, hw⟩ := hw
          obtain ⟨hwt, hwf⟩ := hw
          refine vs_if_ne hC 96 hx dX1_rebuild_77 (by decide) (fun hc => ?_) (fun hc => ?_)
          · have hw := hwt hc
            clear hwt hwf hc
            refine vs_iinc (L' := [(0, .ref (a 0)), (1, .int (vs_I x1)), (2, .int (vs_I v14)), (3, .int (vs_I (v15 + 1)))]) hC hl 3 [1, 2, 3, 0] dX1_rebuild_96 rfl (by decide) rfl (fun ls hl => ?_)
            refine vs_goto hC 54 dX1_rebuild_99 (by decide) ?_
            exact ih13 (v14, v15 + 1, S16) hw _ _ _ hW (lv_sub hl [0, 1, 2, 3] rfl)
          · have hw := hwf hc
            clear hwt hwf hc
            refine vs_iload_n hC hl 2 dX1_rebuild_80 rfl rfl ?_
            refine vs_aload_n hC hl 0 dX1_rebuild_81 rfl rfl ?_
            refine vs_aload_n hC hl 0 dX1_rebuild_82 rfl rfl ?_
            refine vs_get hC hW 0 rfl rfl vs_inX1 11 (by decide) vf_X1_41 rfl dX1_rebuild_83 ?_
            refine vs_iload_n hC hl 3 dX1_rebuild_86 rfl rfl ?_
            obtain ⟨hi, hw⟩ := hw
            refine vs_iald hC hW 10 rfl (by decide) hi dX1_rebuild_87 ?_
            refine vs_iload_n hC hl 1 dX1_rebuild_88 rfl rfl ?_
            refine vs_iload_n hC hl 2 dX1_rebuild_89 rfl rfl ?_
            refine vs_isub hC dX1_rebuild_90 ?_
            refine vs_callVI [.int (vs_I (S16 11 v15)), .int (vs_I (x1 - v14))] hC hW 0 rfl rfl vk_X1_emptyWarnedDisks vm_X1_107 (c_X1_emptyWarnedDisks l g a (wr) S16 (S16 11 v15) (x1 - v14) _ hw) rfl hl.1 rfl ⟨rfl, rfl⟩ ⟨Nat.le_of_ble_eq_true rfl, Nat.le_of_ble_eq_true rfl⟩ ⟨Nat.le_of_ble_eq_true rfl, Nat.le_of_ble_eq_true rfl⟩ (Nat.le_of_ble_eq_true rfl) dX1_rebuild_91 (fun r18 S19 H locs hw hW => ?_)
            have hW : vs_Wd g A _ (vs_W1 g a S19 ++ wr) _ _ s := hW
            refine vs_iadd hC dX1_rebuild_94 ?_
            refine vs_name (fun v20 hv20 => ?_)
            have hw := hw v20 hv20
            refine vs_istore_n (L' := [(0, .ref (a 0)), (1, .int (vs_I x1)), (2, .int (vs_I v20)), (3, .int (vs_I v15))]) hC hl [1, 2, 0, 3] dX1_rebuild_95 rfl (by decide) rfl (fun ls hl => ?_)
            refine vs_iinc (L' := [(0, .ref (a 0)), (1, .int (vs_I x1)), (2, .int (vs_I v20)), (3, .int (vs_I (v15 + 1)))]) hC hl 3 [1, 2, 3, 0] dX1_rebuild_96 rfl (by decide) rfl (fun ls hl => ?_)
            refine vs_goto hC 54 dX1_rebuild_99 (by decide) ?_
            exact ih13 (v20, v15 + 1, S19) hw _ _ _ hW (lv_sub hl [0, 1, 2, 3] rfl)
    · have hw := hwf hc
      clear hwt hwf hc
      refine vs_aload_n hC hl 0 dX1_rebuild_17 rfl rfl ?_
      refine vs_aload_n hC hl 0 dX1_rebuild_18 rfl rfl ?_
      refine vs_get hC hW 0 rfl rfl vs_inX1 11 (by decide) vf_X1_41 rfl dX1_rebuild_19 ?_
      refine vs_iload_n hC hl 3 dX1_rebuild_22 rfl rfl ?_
      obtain ⟨hi, hw⟩ := hw
      refine vs_iald hC hW 10 rfl (by decide) hi dX1_rebuild_23 ?_
      refine vs_callVI [.int (vs_I (S4 11 v3))] hC hW 0 rfl rfl vk_X1_hasLost vm_X1_74 (c_X1_hasLost l g a (wr) S4 (S4 11 v3) _ hw) rfl hl.1 rfl ⟨rfl, rfl⟩ ⟨Nat.le_of_ble_eq_true rfl, Nat.le_of_ble_eq_true rfl⟩ ⟨Nat.le_of_ble_eq_true rfl, Nat.le_of_ble_eq_true rfl⟩ (Nat.le_of_ble_eq_true rfl) dX1_rebuild_24 (fun r21 _ H locs hw hW => ?_)
      have hW : vs_Wd g A _ (vs_W1 g a S4 ++ wr) _ _ s := hW
      obtain ⟨hx, hw⟩ := hw
      obtain ⟨hwt, hwf⟩ := hw
      refine vs_if_ne hC 46 hx dX1_rebuild_27 (by decide) (fun hc => ?_) (fun hc => ?_)
      · have hw := hwt hc
        clear hwt hwf hc
        refine vs_iinc (L' := [(0, .ref (a 0)), (1, .int (vs_I x1)), (2, .int (vs_I v2)), (3, .int (vs_I (v3 + 1)))]) hC hl 3 [1, 2, 3, 0] dX1_rebuild_46 rfl (by decide) rfl (fun ls hl => ?_)
        refine vs_goto hC 4 dX1_rebuild_49 (by decide) ?_
        exact ih1 (v2, v3 + 1, S4) hw _ _ _ hW (lv_sub hl [0, 1, 2, 3] rfl)
      · have hw := hwf hc
        clear hwt hwf hc
        refine vs_iload_n hC hl 2 dX1_rebuild_30 rfl rfl ?_
        refine vs_aload_n hC hl 0 dX1_rebuild_31 rfl rfl ?_
        refine vs_aload_n hC hl 0 dX1_rebuild_32 rfl rfl ?_
        refine vs_get hC hW 0 rfl rfl vs_inX1 11 (by decide) vf_X1_41 rfl dX1_rebuild_33 ?_
        refine vs_iload_n hC hl 3 dX1_rebuild_36 rfl rfl ?_
        obtain ⟨hi, hw⟩ := hw
        refine vs_iald hC hW 10 rfl (by decide) hi dX1_rebuild_37 ?_
        refine vs_iload_n hC hl 1 dX1_rebuild_38 rfl rfl ?_
        refine vs_iload_n hC hl 2 dX1_rebuild_39 rfl rfl ?_
        refine vs_isub hC dX1_rebuild_40 ?_
        refine vs_callVI [.int (vs_I (S4 11 v3)), .int (vs_I (x1 - v2))] hC hW 0 rfl rfl vk_X1_completeBlock vm_X1_97 (c_X1_completeBlock l g a (wr) S4 (S4 11 v3) (x1 - v2) _ hw) rfl hl.1 rfl ⟨rfl, rfl⟩ ⟨Nat.le_of_ble_eq_true rfl, Nat.le_of_ble_eq_true rfl⟩ ⟨Nat.le_of_ble_eq_true rfl, Nat.le_of_ble_eq_true rfl⟩ (Nat.le_of_ble_eq_true rfl) dX1_rebuild_41 (fun r22 S23 H locs hw hW => ?_)
        have hW : vs_Wd g A _ (vs_W1 g a S23 ++ wr) _ _ s := hW
        refine vs_iadd hC dX1_rebuild_44 ?_
        refine vs_name (fun v24 hv24 => ?_)
        have hw := hw v24 hv24
        refine vs_istore_n (L' := [(0, .ref (a 0)), (1, .int (vs_I x1)), (2, .int (vs_I v24)), (3, .int (vs_I v3))]) hC hl [1, 2, 0, 3] dX1_rebuild_45 rfl (by decide) rfl (fun ls hl => ?_)
        refine vs_iinc (L' := [(0, .ref (a 0)), (1, .int (vs_I x1)), (2, .int (vs_I v24)), (3, .int (vs_I (v3 + 1)))]) hC hl 3 [1, 2, 3, 0] dX1_rebuild_46 rfl (by decide) rfl (fun ls hl => ?_)
        refine vs_goto hC 4 dX1_rebuild_49 (by decide) ?_
        exact ih1 (v24, v3 + 1, S23) hw _ _ _ hW (lv_sub hl [0, 1, 2, 3] rfl)
set_option maxHeartbeats 4000000 in
set_option maxRecDepth 100000 in
theorem c_X1_removeCopyAt (l : Launch) (g : vs_G) (a : Nat → Nat) (wr : va_W) (S : vs_St) (x1 : Int) (post : vs_St → Prop) (hw : wX1_removeCopyAt S x1 post) : vs_MV l yX1_removeCopyAt (Cond.code yX1_removeCopyAt cX1_removeCopyAt 4 (none) :: vs_ws) { frames := 2, cells := 0, slots := 0, locals := 47 } g [.ref (a 0), .int (vs_I x1)] (vs_W1 g a S ++ wr) (fun (S' : vs_St) => vs_W1 g a S' ++ wr) post 0 0 := by
  refine vs_ofW (Qc := fun A => vs_QV g A (fun (S' : vs_St) => vs_W1 g a S' ++ wr) post) (by decide +kernel) (Nat.le_of_ble_eq_true rfl) (fun p e s m below meth c A ls hC hr hlk hW hl => ?_)
  have hC : CallFix p m c cX1_removeCopyAt 4 s _ vs_ws RX1 := hC
  have hl : lv_has ls 4 [(0, .ref (a 0)), (1, .int (vs_I x1))] := hl
  unfold wX1_removeCopyAt at hw
  refine vs_aload_n hC hl 0 dX1_removeCopyAt_0 rfl rfl ?_
  refine vs_get hC hW 0 rfl rfl vs_inX1 4 (by decide) vf_X1_22 rfl dX1_removeCopyAt_1 ?_
  refine vs_iload_n hC hl 1 dX1_removeCopyAt_4 rfl rfl ?_
  obtain ⟨hi, hw⟩ := hw
  refine vs_iald hC hW 4 rfl (by decide) hi dX1_removeCopyAt_5 ?_
  refine vs_name (fun v1 hv1 => ?_)
  have hw := hw v1 hv1
  refine vs_istore_n (L' := [(0, .ref (a 0)), (1, .int (vs_I x1)), (2, .int (vs_I v1))]) hC hl [1, 2, 0] dX1_removeCopyAt_6 rfl (by decide) rfl (fun ls hl => ?_)
  refine vs_iconst hC dX1_removeCopyAt_7 ?_
  refine vs_istore_n (L' := [(0, .ref (a 0)), (1, .int (vs_I x1)), (2, .int (vs_I v1)), (3, .int (vs_I 0))]) hC hl [1, 2, 3, 0] dX1_removeCopyAt_8 rfl (by decide) rfl (fun ls hl => ?_)
  obtain ⟨J2, μ2, hJ, hB2⟩ := hw
  refine vs_loop (V := Int) (J := fun v => J2 v) (μ := fun v => μ2 v) (fun v => vs_W1 g a S ++ wr) (fun v => [(0, .ref (a 0)), (1, .int (vs_I x1)), (2, .int (vs_I v1)), (3, .int (vs_I v))]) (fun v hJ ih2 H locs ls hW hl => ?_) 0 hJ hW (lv_sub hl [0, 1, 2, 3] rfl)
  obtain ⟨v3, hv⟩ : ∃ z, z = v := ⟨_, rfl⟩
  subst hv
  have hw := hB2 v3 hJ
  have hW : vs_Wd g A _ (vs_W1 g a S ++ wr) _ _ s := hW
  have hl : lv_has ls 4 [(0, .ref (a 0)), (1, .int (vs_I x1)), (2, .int (vs_I v1)), (3, .int (vs_I v3))] := hl
  clear hJ
  unfold lX1_removeCopyAt_9 at hw
  refine vs_iload_n hC hl 3 dX1_removeCopyAt_9 rfl rfl ?_
  refine vs_aload_n hC hl 0 dX1_removeCopyAt_10 rfl rfl ?_
  refine vs_get hC hW 0 rfl rfl vs_inX1 8 (by decide) vf_X1_35 rfl dX1_removeCopyAt_11 ?_
  refine vs_iload_n hC hl 2 dX1_removeCopyAt_14 rfl rfl ?_
  obtain ⟨hi, hw⟩ := hw
  refine vs_iald hC hW 8 rfl (by decide) hi dX1_removeCopyAt_15 ?_
  obtain ⟨hx, hw⟩ := hw
  obtain ⟨hy, hw⟩ := hw
  obtain ⟨hwt, hwf⟩ := hw
  refine vs_icmp_ge hC 42 hx hy dX1_removeCopyAt_16 (by decide) (fun hc => ?_) (fun hc => ?_)
  · have hw := hwt hc
    clear hwt hwf hc
    exact vs_vret (S) hC hr hlk hW rfl hw (Nat.le_of_ble_eq_true rfl) (Nat.le_of_ble_eq_true rfl) dX1_removeCopyAt_42
  · have hw := hwf hc
    clear hwt hwf hc
    refine vs_aload_n hC hl 0 dX1_removeCopyAt_19 rfl rfl ?_
    refine vs_iload_n hC hl 2 dX1_removeCopyAt_20 rfl rfl ?_
    refine vs_iload_n hC hl 3 dX1_removeCopyAt_21 rfl rfl ?_
    refine vs_callVI [.int (vs_I v1), .int (vs_I v3)] hC hW 0 rfl rfl vk_X1_addressOf vm_X1_66 (c_X1_addressOf l g a (wr) S v1 v3 _ hw) rfl hl.1 rfl ⟨rfl, rfl⟩ ⟨Nat.le_of_ble_eq_true rfl, Nat.le_of_ble_eq_true rfl⟩ ⟨Nat.le_of_ble_eq_true rfl, Nat.le_of_ble_eq_true rfl⟩ (Nat.le_of_ble_eq_true rfl) dX1_removeCopyAt_22 (fun r4 _ H locs hw hW => ?_)
    have hW : vs_Wd g A _ (vs_W1 g a S ++ wr) _ _ s := hW
    refine vs_iload_n hC hl 1 dX1_removeCopyAt_25 rfl rfl ?_
    obtain ⟨hx, hw⟩ := hw
    obtain ⟨hy, hw⟩ := hw
    obtain ⟨hwt, hwf⟩ := hw
    refine vs_icmp_ne hC 36 hx hy dX1_removeCopyAt_26 (by decide) (fun hc => ?_) (fun hc => ?_)
    · have hw := hwt hc
      clear hwt hwf hc
      refine vs_iinc (L' := [(0, .ref (a 0)), (1, .int (vs_I x1)), (2, .int (vs_I v1)), (3, .int (vs_I (v3 + 1)))]) hC hl 3 [1, 2, 3, 0] dX1_removeCopyAt_36 rfl (by decide) rfl (fun ls hl => ?_)
      refine vs_goto hC 9 dX1_removeCopyAt_39 (by decide) ?_
      exact ih2 (v3 + 1) hw _ _ _ hW (lv_sub hl [0, 1, 2, 3] rfl)
    · have hw := hwf hc
      clear hwt hwf hc
      refine vs_aload_n hC hl 0 dX1_removeCopyAt_29 rfl rfl ?_
      refine vs_iload_n hC hl 2 dX1_removeCopyAt_30 rfl rfl ?_
      refine vs_iload_n hC hl 3 dX1_removeCopyAt_31 rfl rfl ?_
      refine vs_callVV [.int (vs_I v1), .int (vs_I v3)] hC hW 0 rfl rfl vk_X1_removeCopy vm_X1_103 (c_X1_removeCopy l g a (wr) S v1 v3 _ hw) rfl hl.1 rfl ⟨rfl, rfl⟩ ⟨Nat.le_of_ble_eq_true rfl, Nat.le_of_ble_eq_true rfl⟩ ⟨Nat.le_of_ble_eq_true rfl, Nat.le_of_ble_eq_true rfl⟩ (Nat.le_of_ble_eq_true rfl) dX1_removeCopyAt_32 (fun S5 H locs hw hW => ?_)
      have hW : vs_Wd g A _ (vs_W1 g a S5 ++ wr) _ _ s := hW
      exact vs_vret (S5) hC hr hlk hW rfl hw (Nat.le_of_ble_eq_true rfl) (Nat.le_of_ble_eq_true rfl) dX1_removeCopyAt_35
set_option maxHeartbeats 4000000 in
set_option maxRecDepth 100000 in
theorem c_X1_breakDisk (l : Launch) (g : vs_G) (a : Nat → Nat) (wr : va_W) (S : vs_St) (x1 : Int) (post : Int → vs_St → Prop) (hw : wX1_breakDisk S x1 post) : vs_MI l yX1_breakDisk (Cond.code yX1_breakDisk cX1_breakDisk 5 (some .int) :: vs_ws) { frames := 3, cells := 0, slots := 0, locals := 70 } g [.ref (a 0), .int (vs_I x1)] (vs_W1 g a S ++ wr) (fun (S' : vs_St) => vs_W1 g a S' ++ wr) post 0 0 := by
  refine vs_ofW (Qc := fun A => vs_QI g A (fun (S' : vs_St) => vs_W1 g a S' ++ wr) post) (by decide +kernel) (Nat.le_of_ble_eq_true rfl) (fun p e s m below meth c A ls hC hr hlk hW hl => ?_)
  have hC : CallFix p m c cX1_breakDisk 5 s _ vs_ws RX1 := hC
  have hl : lv_has ls 5 [(0, .ref (a 0)), (1, .int (vs_I x1))] := hl
  unfold wX1_breakDisk at hw
  refine vs_aload_n hC hl 0 dX1_breakDisk_0 rfl rfl ?_
  refine vs_get hC hW 0 rfl rfl vs_inX1 2 (by decide) vf_X1_15 rfl dX1_breakDisk_1 ?_
  refine vs_iload_n hC hl 1 dX1_breakDisk_4 rfl rfl ?_
  obtain ⟨hi, hw⟩ := hw
  refine vs_iald hC hW 2 rfl (by decide) hi dX1_breakDisk_5 ?_
  refine vs_name (fun v1 hv1 => ?_)
  have hw := hw v1 hv1
  refine vs_istore_n (L' := [(0, .ref (a 0)), (1, .int (vs_I x1)), (2, .int (vs_I v1))]) hC hl [1, 2, 0] dX1_breakDisk_6 rfl (by decide) rfl (fun ls hl => ?_)
  refine vs_iload_n hC hl 1 dX1_breakDisk_7 rfl rfl ?_
  refine vs_bipush hC dX1_breakDisk_8 (by decide +kernel) ?_
  refine vs_imul hC dX1_breakDisk_10 ?_
  refine vs_name (fun v2 hv2 => ?_)
  have hw := hw v2 hv2
  refine vs_istore_n (L' := [(0, .ref (a 0)), (1, .int (vs_I x1)), (2, .int (vs_I v1)), (3, .int (vs_I v2))]) hC hl [1, 2, 3, 0] dX1_breakDisk_11 rfl (by decide) rfl (fun ls hl => ?_)
  refine vs_iload_n hC hl 3 dX1_breakDisk_12 rfl rfl ?_
  refine vs_istore (L' := [(0, .ref (a 0)), (1, .int (vs_I x1)), (2, .int (vs_I v1)), (3, .int (vs_I v2)), (4, .int (vs_I v2))]) hC hl [1, 2, 3, 4, 0] dX1_breakDisk_13 (by decide) rfl (fun ls hl => ?_)
  obtain ⟨J3, μ3, hJ, hB3⟩ := hw
  refine vs_loop (V := Int × vs_St) (J := fun v => J3 v.1 v.2) (μ := fun v => μ3 v.1 v.2) (fun v => vs_W1 g a v.2 ++ wr) (fun v => [(0, .ref (a 0)), (1, .int (vs_I x1)), (2, .int (vs_I v1)), (3, .int (vs_I v2)), (4, .int (vs_I v.1))]) (fun v hJ ih3 H locs ls hW hl => ?_) (v2, S) hJ hW (lv_sub hl [0, 1, 2, 3, 4] rfl)
  obtain ⟨v4, S5⟩ := v
  have hw := hB3 v4 S5 hJ
  have hW : vs_Wd g A _ (vs_W1 g a S5 ++ wr) _ _ s := hW
  have hl : lv_has ls 5 [(0, .ref (a 0)), (1, .int (vs_I x1)), (2, .int (vs_I v1)), (3, .int (vs_I v2)), (4, .int (vs_I v4))] := hl
  clear hJ
  unfold lX1_breakDisk_15 at hw
  refine vs_iload hC hl 4 dX1_breakDisk_15 rfl ?_
  refine vs_iload_n hC hl 3 dX1_breakDisk_17 rfl rfl ?_
  refine vs_aload_n hC hl 0 dX1_breakDisk_18 rfl rfl ?_
  refine vs_get hC hW 0 rfl rfl vs_inX1 1 (by decide) vf_X1_9 rfl dX1_breakDisk_19 ?_
  refine vs_iload_n hC hl 1 dX1_breakDisk_22 rfl rfl ?_
  obtain ⟨hi, hw⟩ := hw
  refine vs_iald hC hW 1 rfl (by decide) hi dX1_breakDisk_23 ?_
  refine vs_iadd hC dX1_breakDisk_24 ?_
  obtain ⟨hx, hw⟩ := hw
  obtain ⟨hy, hw⟩ := hw
  obtain ⟨hwt, hwf⟩ := hw
  refine vs_icmp_ge hC 51 hx hy dX1_breakDisk_25 (by decide) (fun hc => ?_) (fun hc => ?_)
  · have hw := hwt hc
    clear hwt hwf hc
    refine vs_aload_n hC hl 0 dX1_breakDisk_51 rfl rfl ?_
    refine vs_get hC hW 0 rfl rfl vs_inX1 3 (by decide) vf_X1_18 rfl dX1_breakDisk_52 ?_
    refine vs_iload_n hC hl 1 dX1_breakDisk_55 rfl rfl ?_
    refine vs_bipush hC dX1_breakDisk_56 (by decide +kernel) ?_
    obtain ⟨hi, hw⟩ := hw
    obtain ⟨S6, hS6⟩ : ∃ z : vs_St, z = vs_st S5 3 x1 102 := ⟨_, rfl⟩
    have hw := hw S6 hS6
    refine vs_cast (Wo' := vs_W1 g a S6 ++ wr) hC hW 3 rfl (by decide) hi (by decide) (by rw [hS6]; rfl) dX1_breakDisk_58 (fun H locs hW => ?_)
    refine vs_iload_n hC hl 2 dX1_breakDisk_59 rfl rfl ?_
    exact vs_iret (S6) hC hr hlk hW rfl hw (Nat.le_of_ble_eq_true rfl) (Nat.le_of_ble_eq_true rfl) dX1_breakDisk_60
  · have hw := hwf hc
    clear hwt hwf hc
    refine vs_aload_n hC hl 0 dX1_breakDisk_28 rfl rfl ?_
    refine vs_get hC hW 0 rfl rfl vs_inX1 4 (by decide) vf_X1_22 rfl dX1_breakDisk_29 ?_
    refine vs_iload hC hl 4 dX1_breakDisk_32 rfl ?_
    obtain ⟨hi, hw⟩ := hw
    refine vs_iald hC hW 4 rfl (by decide) hi dX1_breakDisk_34 ?_
    refine vs_iconst hC dX1_breakDisk_35 ?_
    obtain ⟨hx, hw⟩ := hw
    obtain ⟨hwt, hwf⟩ := hw
    refine vs_icmp_eq hC 45 hx ⟨by decide, by decide⟩ dX1_breakDisk_36 (by decide) (fun hc => ?_) (fun hc => ?_)
    · have hw := hwt hc
      clear hwt hwf hc
      refine vs_iinc (L' := [(0, .ref (a 0)), (1, .int (vs_I x1)), (2, .int (vs_I v1)), (3, .int (vs_I v2)), (4, .int (vs_I (v4 + 1)))]) hC hl 4 [1, 2, 3, 4, 0] dX1_breakDisk_45 rfl (by decide) rfl (fun ls hl => ?_)
      refine vs_goto hC 15 dX1_breakDisk_48 (by decide) ?_
      exact ih3 (v4 + 1, S5) hw _ _ _ hW (lv_sub hl [0, 1, 2, 3, 4] rfl)
    · have hw := hwf hc
      clear hwt hwf hc
      refine vs_aload_n hC hl 0 dX1_breakDisk_39 rfl rfl ?_
      refine vs_iload hC hl 4 dX1_breakDisk_40 rfl ?_
      refine vs_callVV [.int (vs_I v4)] hC hW 0 rfl rfl vk_X1_removeCopyAt vm_X1_124 (c_X1_removeCopyAt l g a (wr) S5 v4 _ hw) rfl hl.1 rfl ⟨rfl, rfl⟩ ⟨Nat.le_of_ble_eq_true rfl, Nat.le_of_ble_eq_true rfl⟩ ⟨Nat.le_of_ble_eq_true rfl, Nat.le_of_ble_eq_true rfl⟩ (Nat.le_of_ble_eq_true rfl) dX1_breakDisk_42 (fun S7 H locs hw hW => ?_)
      have hW : vs_Wd g A _ (vs_W1 g a S7 ++ wr) _ _ s := hW
      refine vs_iinc (L' := [(0, .ref (a 0)), (1, .int (vs_I x1)), (2, .int (vs_I v1)), (3, .int (vs_I v2)), (4, .int (vs_I (v4 + 1)))]) hC hl 4 [1, 2, 3, 4, 0] dX1_breakDisk_45 rfl (by decide) rfl (fun ls hl => ?_)
      refine vs_goto hC 15 dX1_breakDisk_48 (by decide) ?_
      exact ih3 (v4 + 1, S7) hw _ _ _ hW (lv_sub hl [0, 1, 2, 3, 4] rfl)
set_option maxHeartbeats 4000000 in
set_option maxRecDepth 100000 in
theorem c_X1_healDisk (l : Launch) (g : vs_G) (a : Nat → Nat) (wr : va_W) (S : vs_St) (x1 : Int) (post : Int → vs_St → Prop) (hw : wX1_healDisk S x1 post) : vs_MI l yX1_healDisk (Cond.code yX1_healDisk cX1_healDisk 6 (some .int) :: vs_ws) { frames := 2, cells := 0, slots := 0, locals := 46 } g [.ref (a 0), .int (vs_I x1)] (vs_W1 g a S ++ wr) (fun (S' : vs_St) => vs_W1 g a S' ++ wr) post 0 0 := by
  refine vs_ofW (Qc := fun A => vs_QI g A (fun (S' : vs_St) => vs_W1 g a S' ++ wr) post) (by decide +kernel) (Nat.le_of_ble_eq_true rfl) (fun p e s m below meth c A ls hC hr hlk hW hl => ?_)
  have hC : CallFix p m c cX1_healDisk 6 s _ vs_ws RX1 := hC
  have hl : lv_has ls 6 [(0, .ref (a 0)), (1, .int (vs_I x1))] := hl
  unfold wX1_healDisk at hw
  refine vs_iconst hC dX1_healDisk_0 ?_
  refine vs_istore_n (L' := [(0, .ref (a 0)), (1, .int (vs_I x1)), (2, .int (vs_I 0))]) hC hl [1, 2, 0] dX1_healDisk_1 rfl (by decide) rfl (fun ls hl => ?_)
  refine vs_iload_n hC hl 1 dX1_healDisk_2 rfl rfl ?_
  refine vs_bipush hC dX1_healDisk_3 (by decide +kernel) ?_
  refine vs_imul hC dX1_healDisk_5 ?_
  refine vs_name (fun v1 hv1 => ?_)
  have hw := hw v1 hv1
  refine vs_istore_n (L' := [(0, .ref (a 0)), (1, .int (vs_I x1)), (2, .int (vs_I 0)), (3, .int (vs_I v1))]) hC hl [1, 2, 3, 0] dX1_healDisk_6 rfl (by decide) rfl (fun ls hl => ?_)
  refine vs_iload_n hC hl 3 dX1_healDisk_7 rfl rfl ?_
  refine vs_istore (L' := [(0, .ref (a 0)), (1, .int (vs_I x1)), (2, .int (vs_I 0)), (3, .int (vs_I v1)), (4, .int (vs_I v1))]) hC hl [1, 2, 3, 4, 0] dX1_healDisk_8 (by decide) rfl (fun ls hl => ?_)
  obtain ⟨J2, μ2, hJ, hB2⟩ := hw
  refine vs_loop (V := Int × Int × vs_St) (J := fun v => J2 v.1 v.2.1 v.2.2) (μ := fun v => μ2 v.1 v.2.1 v.2.2) (fun v => vs_W1 g a v.2.2 ++ wr) (fun v => [(0, .ref (a 0)), (1, .int (vs_I x1)), (2, .int (vs_I v.1)), (3, .int (vs_I v1)), (4, .int (vs_I v.2.1))]) (fun v hJ ih2 H locs ls hW hl => ?_) (0, v1, S) hJ hW (lv_sub hl [0, 1, 2, 3, 4] rfl)
  obtain ⟨v3, v4, S5⟩ := v
  have hw := hB2 v3 v4 S5 hJ
  have hW : vs_Wd g A _ (vs_W1 g a S5 ++ wr) _ _ s := hW
  have hl : lv_has ls 6 [(0, .ref (a 0)), (1, .int (vs_I x1)), (2, .int (vs_I v3)), (3, .int (vs_I v1)), (4, .int (vs_I v4))] := hl
  clear hJ
  unfold lX1_healDisk_10 at hw
  refine vs_iload hC hl 4 dX1_healDisk_10 rfl ?_
  refine vs_iload_n hC hl 3 dX1_healDisk_12 rfl rfl ?_
  refine vs_aload_n hC hl 0 dX1_healDisk_13 rfl rfl ?_
  refine vs_get hC hW 0 rfl rfl vs_inX1 1 (by decide) vf_X1_9 rfl dX1_healDisk_14 ?_
  refine vs_iload_n hC hl 1 dX1_healDisk_17 rfl rfl ?_
  obtain ⟨hi, hw⟩ := hw
  refine vs_iald hC hW 1 rfl (by decide) hi dX1_healDisk_18 ?_
  refine vs_iadd hC dX1_healDisk_19 ?_
  obtain ⟨hx, hw⟩ := hw
  obtain ⟨hy, hw⟩ := hw
  obtain ⟨hwt, hwf⟩ := hw
  refine vs_icmp_ge hC 74 hx hy dX1_healDisk_20 (by decide) (fun hc => ?_) (fun hc => ?_)
  · have hw := hwt hc
    clear hwt hwf hc
    refine vs_iload_n hC hl 2 dX1_healDisk_74 rfl rfl ?_
    exact vs_iret (S5) hC hr hlk hW rfl hw (Nat.le_of_ble_eq_true rfl) (Nat.le_of_ble_eq_true rfl) dX1_healDisk_75
  · have hw := hwf hc
    clear hwt hwf hc
    refine vs_aload_n hC hl 0 dX1_healDisk_23 rfl rfl ?_
    refine vs_get hC hW 0 rfl rfl vs_inX1 4 (by decide) vf_X1_22 rfl dX1_healDisk_24 ?_
    refine vs_iload hC hl 4 dX1_healDisk_27 rfl ?_
    obtain ⟨hi, hw⟩ := hw
    refine vs_iald hC hW 4 rfl (by decide) hi dX1_healDisk_29 ?_
    refine vs_name (fun v6 hv6 => ?_)
    have hw := hw v6 hv6
    refine vs_istore (L' := [(0, .ref (a 0)), (1, .int (vs_I x1)), (2, .int (vs_I v3)), (3, .int (vs_I v1)), (4, .int (vs_I v4)), (5, .int (vs_I v6))]) hC hl [1, 2, 3, 4, 5, 0] dX1_healDisk_30 (by decide) rfl (fun ls hl => ?_)
    refine vs_iload hC hl 5 dX1_healDisk_32 rfl ?_
    refine vs_iconst hC dX1_healDisk_34 ?_
    obtain ⟨hx, hw⟩ := hw
    obtain ⟨hwt, hwf⟩ := hw
    refine vs_icmp_eq hC 68 hx ⟨by decide, by decide⟩ dX1_healDisk_35 (by decide) (fun hc => ?_) (fun hc => ?_)
    · have hw := hwt hc
      clear hwt hwf hc
      refine vs_iinc (L' := [(0, .ref (a 0)), (1, .int (vs_I x1)), (2, .int (vs_I v3)), (3, .int (vs_I v1)), (4, .int (vs_I (v4 + 1))), (5, .int (vs_I v6))]) hC hl 4 [1, 2, 3, 4, 0, 5] dX1_healDisk_68 rfl (by decide) rfl (fun ls hl => ?_)
      refine vs_goto hC 10 dX1_healDisk_71 (by decide) ?_
      exact ih2 (v3, v4 + 1, S5) hw _ _ _ hW (lv_sub hl [0, 1, 2, 3, 4] rfl)
    · have hw := hwf hc
      clear hwt hwf hc
      refine vs_aload_n hC hl 0 dX1_healDisk_38 rfl rfl ?_
      refine vs_get hC hW 0 rfl rfl vs_inX1 5 (by decide) vf_X1_25 rfl dX1_healDisk_39 ?_
      refine vs_iload hC hl 4 dX1_healDisk_42 rfl ?_
      obtain ⟨hi, hw⟩ := hw
      refine vs_zald hC hW 5 rfl (by decide) hi dX1_healDisk_44 ?_
      obtain ⟨hx, hw⟩ := hw
      obtain ⟨hwt, hwf⟩ := hw
      refine vs_if_eq hC 68 hx dX1_healDisk_45 (by decide) (fun hc => ?_) (fun hc => ?_)
      · have hw := hwt hc
        clear hwt hwf hc
        refine vs_iinc (L' := [(0, .ref (a 0)), (1, .int (vs_I x1)), (2, .int (vs_I v3)), (3, .int (vs_I v1)), (4, .int (vs_I (v4 + 1))), (5, .int (vs_I v6))]) hC hl 4 [1, 2, 3, 4, 0, 5] dX1_healDisk_68 rfl (by decide) rfl (fun ls hl => ?_)
        refine vs_goto hC 10 dX1_healDisk_71 (by decide) ?_
        exact ih2 (v3, v4 + 1, S5) hw _ _ _ hW (lv_sub hl [0, 1, 2, 3, 4] rfl)
      · have hw := hwf hc
        clear hwt hwf hc
        refine vs_aload_n hC hl 0 dX1_healDisk_48 rfl rfl ?_
        refine vs_iload hC hl 5 dX1_healDisk_49 rfl ?_
        refine vs_callVI [.int (vs_I v6)] hC hW 0 rfl rfl vk_X1_disksWithGoodCopy vm_X1_70 (c_X1_disksWithGoodCopy l g a (wr) S5 v6 _ hw) rfl hl.1 rfl ⟨rfl, rfl⟩ ⟨Nat.le_of_ble_eq_true rfl, Nat.le_of_ble_eq_true rfl⟩ ⟨Nat.le_of_ble_eq_true rfl, Nat.le_of_ble_eq_true rfl⟩ (Nat.le_of_ble_eq_true rfl) dX1_healDisk_51 (fun r7 _ H locs hw hW => ?_)
        have hW : vs_Wd g A _ (vs_W1 g a S5 ++ wr) _ _ s := hW
        obtain ⟨hx, hw⟩ := hw
        obtain ⟨hwt, hwf⟩ := hw
        refine vs_if_eq hC 68 hx dX1_healDisk_54 (by decide) (fun hc => ?_) (fun hc => ?_)
        · have hw := hwt hc
          clear hwt hwf hc
          refine vs_iinc (L' := [(0, .ref (a 0)), (1, .int (vs_I x1)), (2, .int (vs_I v3)), (3, .int (vs_I v1)), (4, .int (vs_I (v4 + 1))), (5, .int (vs_I v6))]) hC hl 4 [1, 2, 3, 4, 0, 5] dX1_healDisk_68 rfl (by decide) rfl (fun ls hl => ?_)
          refine vs_goto hC 10 dX1_healDisk_71 (by decide) ?_
          exact ih2 (v3, v4 + 1, S5) hw _ _ _ hW (lv_sub hl [0, 1, 2, 3, 4] rfl)
        · have hw := hwf hc
          clear hwt hwf hc
          refine vs_aload_n hC hl 0 dX1_healDisk_57 rfl rfl ?_
          refine vs_get hC hW 0 rfl rfl vs_inX1 5 (by decide) vf_X1_25 rfl dX1_healDisk_58 ?_
          refine vs_iload hC hl 4 dX1_healDisk_61 rfl ?_
          refine vs_iconst hC dX1_healDisk_63 ?_
          obtain ⟨hi, hw⟩ := hw
          obtain ⟨S8, hS8⟩ : ∃ z : vs_St, z = vs_st S5 5 v4 0 := ⟨_, rfl⟩
          have hw := hw S8 hS8
          refine vs_zast (Wo' := vs_W1 g a S8 ++ wr) hC hW 5 rfl (by decide) hi (by decide) (by rw [hS8]; rfl) dX1_healDisk_64 (fun H locs hW => ?_)
          refine vs_iinc (L' := [(0, .ref (a 0)), (1, .int (vs_I x1)), (2, .int (vs_I (v3 + 1))), (3, .int (vs_I v1)), (4, .int (vs_I v4)), (5, .int (vs_I v6))]) hC hl 2 [1, 2, 0, 3, 4, 5] dX1_healDisk_65 rfl (by decide) rfl (fun ls hl => ?_)
          refine vs_iinc (L' := [(0, .ref (a 0)), (1, .int (vs_I x1)), (2, .int (vs_I (v3 + 1))), (3, .int (vs_I v1)), (4, .int (vs_I (v4 + 1))), (5, .int (vs_I v6))]) hC hl 4 [1, 2, 3, 4, 0, 5] dX1_healDisk_68 rfl (by decide) rfl (fun ls hl => ?_)
          refine vs_goto hC 10 dX1_healDisk_71 (by decide) ?_
          exact ih2 (v3 + 1, v4 + 1, S8) hw _ _ _ hW (lv_sub hl [0, 1, 2, 3, 4] rfl)
set_option maxHeartbeats 4000000 in
set_option maxRecDepth 100000 in
theorem c_X1_countRotten (l : Launch) (g : vs_G) (a : Nat → Nat) (wr : va_W) (S : vs_St) (x1 : Int) (post : Int → Prop) (hw : wX1_countRotten S x1 post) : vs_MI l yX1_countRotten (Cond.code yX1_countRotten cX1_countRotten 5 (some .int) :: vs_ws) { frames := 0, cells := 0, slots := 0, locals := 0 } g [.ref (a 0), .int (vs_I x1)] (vs_W1 g a S ++ wr) (fun (_ : Unit) => vs_W1 g a S ++ wr) (fun v (_ : Unit) => post v) 0 0 := by
  refine vs_ofW (Qc := fun A => vs_QI g A (fun (_ : Unit) => vs_W1 g a S ++ wr) (fun v (_ : Unit) => post v)) (by decide +kernel) (Nat.le_of_ble_eq_true rfl) (fun p e s m below meth c A ls hC hr hlk hW hl => ?_)
  have hC : CallFix p m c cX1_countRotten 5 s _ vs_ws RX1 := hC
  have hl : lv_has ls 5 [(0, .ref (a 0)), (1, .int (vs_I x1))] := hl
  unfold wX1_countRotten at hw
  refine vs_iconst hC dX1_countRotten_0 ?_
  refine vs_istore_n (L' := [(0, .ref (a 0)), (1, .int (vs_I x1)), (2, .int (vs_I 0))]) hC hl [1, 2, 0] dX1_countRotten_1 rfl (by decide) rfl (fun ls hl => ?_)
  refine vs_iload_n hC hl 1 dX1_countRotten_2 rfl rfl ?_
  refine vs_bipush hC dX1_countRotten_3 (by decide +kernel) ?_
  refine vs_imul hC dX1_countRotten_5 ?_
  refine vs_name (fun v1 hv1 => ?_)
  have hw := hw v1 hv1
  refine vs_istore_n (L' := [(0, .ref (a 0)), (1, .int (vs_I x1)), (2, .int (vs_I 0)), (3, .int (vs_I v1))]) hC hl [1, 2, 3, 0] dX1_countRotten_6 rfl (by decide) rfl (fun ls hl => ?_)
  refine vs_iload_n hC hl 3 dX1_countRotten_7 rfl rfl ?_
  refine vs_istore (L' := [(0, .ref (a 0)), (1, .int (vs_I x1)), (2, .int (vs_I 0)), (3, .int (vs_I v1)), (4, .int (vs_I v1))]) hC hl [1, 2, 3, 4, 0] dX1_countRotten_8 (by decide) rfl (fun ls hl => ?_)
  obtain ⟨J2, μ2, hJ, hB2⟩ := hw
  refine vs_loop (V := Int × Int) (J := fun v => J2 v.1 v.2) (μ := fun v => μ2 v.1 v.2) (fun v => vs_W1 g a S ++ wr) (fun v => [(0, .ref (a 0)), (1, .int (vs_I x1)), (2, .int (vs_I v.1)), (3, .int (vs_I v1)), (4, .int (vs_I v.2))]) (fun v hJ ih2 H locs ls hW hl => ?_) (0, v1) hJ hW (lv_sub hl [0, 1, 2, 3, 4] rfl)
  obtain ⟨v3, v4⟩ := v
  have hw := hB2 v3 v4 hJ
  have hW : vs_Wd g A _ (vs_W1 g a S ++ wr) _ _ s := hW
  have hl : lv_has ls 5 [(0, .ref (a 0)), (1, .int (vs_I x1)), (2, .int (vs_I v3)), (3, .int (vs_I v1)), (4, .int (vs_I v4))] := hl
  clear hJ
  unfold lX1_countRotten_10 at hw
  refine vs_iload hC hl 4 dX1_countRotten_10 rfl ?_
  refine vs_iload_n hC hl 3 dX1_countRotten_12 rfl rfl ?_
  refine vs_aload_n hC hl 0 dX1_countRotten_13 rfl rfl ?_
  refine vs_get hC hW 0 rfl rfl vs_inX1 1 (by decide) vf_X1_9 rfl dX1_countRotten_14 ?_
  refine vs_iload_n hC hl 1 dX1_countRotten_17 rfl rfl ?_
  obtain ⟨hi, hw⟩ := hw
  refine vs_iald hC hW 1 rfl (by decide) hi dX1_countRotten_18 ?_
  refine vs_iadd hC dX1_countRotten_19 ?_
  obtain ⟨hx, hw⟩ := hw
  obtain ⟨hy, hw⟩ := hw
  obtain ⟨hwt, hwf⟩ := hw
  refine vs_icmp_ge hC 42 hx hy dX1_countRotten_20 (by decide) (fun hc => ?_) (fun hc => ?_)
  · have hw := hwt hc
    clear hwt hwf hc
    refine vs_iload_n hC hl 2 dX1_countRotten_42 rfl rfl ?_
    exact vs_iret () hC hr hlk hW rfl hw (Nat.le_of_ble_eq_true rfl) (Nat.le_of_ble_eq_true rfl) dX1_countRotten_43
  · have hw := hwf hc
    clear hwt hwf hc
    refine vs_aload_n hC hl 0 dX1_countRotten_23 rfl rfl ?_
    refine vs_get hC hW 0 rfl rfl vs_inX1 5 (by decide) vf_X1_25 rfl dX1_countRotten_24 ?_
    refine vs_iload hC hl 4 dX1_countRotten_27 rfl ?_
    obtain ⟨hi, hw⟩ := hw
    refine vs_zald hC hW 5 rfl (by decide) hi dX1_countRotten_29 ?_
    obtain ⟨hx, hw⟩ := hw
    obtain ⟨hwt, hwf⟩ := hw
    refine vs_if_eq hC 36 hx dX1_countRotten_30 (by decide) (fun hc => ?_) (fun hc => ?_)
    · have hw := hwt hc
      clear hwt hwf hc
      refine vs_iinc (L' := [(0, .ref (a 0)), (1, .int (vs_I x1)), (2, .int (vs_I v3)), (3, .int (vs_I v1)), (4, .int (vs_I (v4 + 1)))]) hC hl 4 [1, 2, 3, 4, 0] dX1_countRotten_36 rfl (by decide) rfl (fun ls hl => ?_)
      refine vs_goto hC 10 dX1_countRotten_39 (by decide) ?_
      exact ih2 (v3, v4 + 1) hw _ _ _ hW (lv_sub hl [0, 1, 2, 3, 4] rfl)
    · have hw := hwf hc
      clear hwt hwf hc
      refine vs_iinc (L' := [(0, .ref (a 0)), (1, .int (vs_I x1)), (2, .int (vs_I (v3 + 1))), (3, .int (vs_I v1)), (4, .int (vs_I v4))]) hC hl 2 [1, 2, 0, 3, 4] dX1_countRotten_33 rfl (by decide) rfl (fun ls hl => ?_)
      refine vs_iinc (L' := [(0, .ref (a 0)), (1, .int (vs_I x1)), (2, .int (vs_I (v3 + 1))), (3, .int (vs_I v1)), (4, .int (vs_I (v4 + 1)))]) hC hl 4 [1, 2, 3, 4, 0] dX1_countRotten_36 rfl (by decide) rfl (fun ls hl => ?_)
      refine vs_goto hC 10 dX1_countRotten_39 (by decide) ?_
      exact ih2 (v3 + 1, v4 + 1) hw _ _ _ hW (lv_sub hl [0, 1, 2, 3, 4] rfl)
set_option maxHeartbeats 4000000 in
set_option maxRecDepth 100000 in
theorem c_X1_bearsByCounting (l : Launch) (g : vs_G) (a : Nat → Nat) (wr : va_W) (S : vs_St) (x1 : Int) (post : Int → Prop) (hw : wX1_bearsByCounting S x1 post) : vs_MI l yX1_bearsByCounting (Cond.code yX1_bearsByCounting cX1_bearsByCounting 4 (some .boolean) :: vs_ws) { frames := 2, cells := 0, slots := 0, locals := 46 } g [.ref (a 0), .int (vs_I x1)] (vs_W1 g a S ++ wr) (fun (_ : Unit) => vs_W1 g a S ++ wr) (fun v (_ : Unit) => post v) 0 0 := by
  refine vs_ofW (Qc := fun A => vs_QI g A (fun (_ : Unit) => vs_W1 g a S ++ wr) (fun v (_ : Unit) => post v)) (by decide +kernel) (Nat.le_of_ble_eq_true rfl) (fun p e s m below meth c A ls hC hr hlk hW hl => ?_)
  have hC : CallFix p m c cX1_bearsByCounting 4 s _ vs_ws RX1 := hC
  have hl : lv_has ls 4 [(0, .ref (a 0)), (1, .int (vs_I x1))] := hl
  unfold wX1_bearsByCounting at hw
  refine vs_iconst hC dX1_bearsByCounting_0 ?_
  refine vs_istore_n (L' := [(0, .ref (a 0)), (1, .int (vs_I x1)), (2, .int (vs_I 0))]) hC hl [1, 2, 0] dX1_bearsByCounting_1 rfl (by decide) rfl (fun ls hl => ?_)
  obtain ⟨J1, μ1, hJ, hB1⟩ := hw
  refine vs_loop (V := Int) (J := fun v => J1 v) (μ := fun v => μ1 v) (fun v => vs_W1 g a S ++ wr) (fun v => [(0, .ref (a 0)), (1, .int (vs_I x1)), (2, .int (vs_I v))]) (fun v hJ ih1 H locs ls hW hl => ?_) 0 hJ hW (lv_sub hl [0, 1, 2] rfl)
  obtain ⟨v2, hv⟩ : ∃ z, z = v := ⟨_, rfl⟩
  subst hv
  have hw := hB1 v2 hJ
  have hW : vs_Wd g A _ (vs_W1 g a S ++ wr) _ _ s := hW
  have hl : lv_has ls 4 [(0, .ref (a 0)), (1, .int (vs_I x1)), (2, .int (vs_I v2))] := hl
  clear hJ
  unfold lX1_bearsByCounting_2 at hw
  refine vs_iload_n hC hl 2 dX1_bearsByCounting_2 rfl rfl ?_
  refine vs_aload_n hC hl 0 dX1_bearsByCounting_3 rfl rfl ?_
  refine vs_get hC hW 0 rfl rfl vs_inX1 10 (by decide) vf_X1_57 rfl dX1_bearsByCounting_4 ?_
  obtain ⟨hx, hw⟩ := hw
  obtain ⟨hy, hw⟩ := hw
  obtain ⟨hwt, hwf⟩ := hw
  refine vs_icmp_ge hC 41 hx hy dX1_bearsByCounting_7 (by decide) (fun hc => ?_) (fun hc => ?_)
  · have hw := hwt hc
    clear hwt hwf hc
    refine vs_iconst hC dX1_bearsByCounting_41 ?_
    exact vs_zret () hC hr hlk hW rfl ⟨Or.inr rfl, hw⟩ (Nat.le_of_ble_eq_true rfl) (Nat.le_of_ble_eq_true rfl) dX1_bearsByCounting_42
  · have hw := hwf hc
    clear hwt hwf hc
    refine vs_aload_n hC hl 0 dX1_bearsByCounting_10 rfl rfl ?_
    refine vs_aload_n hC hl 0 dX1_bearsByCounting_11 rfl rfl ?_
    refine vs_get hC hW 0 rfl rfl vs_inX1 11 (by decide) vf_X1_41 rfl dX1_bearsByCounting_12 ?_
    refine vs_iload_n hC hl 2 dX1_bearsByCounting_15 rfl rfl ?_
    obtain ⟨hi, hw⟩ := hw
    refine vs_iald hC hW 10 rfl (by decide) hi dX1_bearsByCounting_16 ?_
    refine vs_callVI [.int (vs_I (S 11 v2))] hC hW 0 rfl rfl vk_X1_disksWithGoodCopy vm_X1_70 (c_X1_disksWithGoodCopy l g a (wr) S (S 11 v2) _ hw) rfl hl.1 rfl ⟨rfl, rfl⟩ ⟨Nat.le_of_ble_eq_true rfl, Nat.le_of_ble_eq_true rfl⟩ ⟨Nat.le_of_ble_eq_true rfl, Nat.le_of_ble_eq_true rfl⟩ (Nat.le_of_ble_eq_true rfl) dX1_bearsByCounting_17 (fun r3 _ H locs hw hW => ?_)
    have hW : vs_Wd g A _ (vs_W1 g a S ++ wr) _ _ s := hW
    refine vs_callSI [.int (vs_I r3)] hC hW vk_J6_bitCount_0f7a4 vm_X1_127 (c_J6_bitCount_0f7a4 l g (vs_W1 g a S ++ wr) r3 _ hw) rfl hl.1 rfl ⟨rfl, rfl⟩ ⟨Nat.le_of_ble_eq_true rfl, Nat.le_of_ble_eq_true rfl⟩ ⟨Nat.le_of_ble_eq_true rfl, Nat.le_of_ble_eq_true rfl⟩ (Nat.le_of_ble_eq_true rfl) dX1_bearsByCounting_20 (fun r4 _ H locs hw hW => ?_)
    have hW : vs_Wd g A _ (vs_W1 g a S ++ wr) _ _ s := hW
    refine vs_istore_n (L' := [(0, .ref (a 0)), (1, .int (vs_I x1)), (2, .int (vs_I v2)), (3, .int (vs_I r4))]) hC hl [1, 2, 3, 0] dX1_bearsByCounting_23 rfl (by decide) rfl (fun ls hl => ?_)
    refine vs_iload_n hC hl 3 dX1_bearsByCounting_24 rfl rfl ?_
    obtain ⟨hx, hw⟩ := hw
    obtain ⟨hwt, hwf⟩ := hw
    refine vs_if_eq hC 35 hx dX1_bearsByCounting_25 (by decide) (fun hc => ?_) (fun hc => ?_)
    · have hw := hwt hc
      clear hwt hwf hc
      refine vs_iinc (L' := [(0, .ref (a 0)), (1, .int (vs_I x1)), (2, .int (vs_I (v2 + 1))), (3, .int (vs_I r4))]) hC hl 2 [1, 2, 0, 3] dX1_bearsByCounting_35 rfl (by decide) rfl (fun ls hl => ?_)
      refine vs_goto hC 2 dX1_bearsByCounting_38 (by decide) ?_
      exact ih1 (v2 + 1) hw _ _ _ hW (lv_sub hl [0, 1, 2] rfl)
    · have hw := hwf hc
      clear hwt hwf hc
      refine vs_iload_n hC hl 3 dX1_bearsByCounting_28 rfl rfl ?_
      refine vs_iload_n hC hl 1 dX1_bearsByCounting_29 rfl rfl ?_
      obtain ⟨hx, hw⟩ := hw
      obtain ⟨hy, hw⟩ := hw
      obtain ⟨hwt, hwf⟩ := hw
      refine vs_icmp_gt hC 35 hx hy dX1_bearsByCounting_30 (by decide) (fun hc => ?_) (fun hc => ?_)
      · have hw := hwt hc
        clear hwt hwf hc
        refine vs_iinc (L' := [(0, .ref (a 0)), (1, .int (vs_I x1)), (2, .int (vs_I (v2 + 1))), (3, .int (vs_I r4))]) hC hl 2 [1, 2, 0, 3] dX1_bearsByCounting_35 rfl (by decide) rfl (fun ls hl => ?_)
        refine vs_goto hC 2 dX1_bearsByCounting_38 (by decide) ?_
        exact ih1 (v2 + 1) hw _ _ _ hW (lv_sub hl [0, 1, 2] rfl)
      · have hw := hwf hc
        clear hwt hwf hc
        refine vs_iconst hC dX1_bearsByCounting_33 ?_
        exact vs_zret () hC hr hlk hW rfl ⟨Or.inl rfl, hw⟩ (Nat.le_of_ble_eq_true rfl) (Nat.le_of_ble_eq_true rfl) dX1_bearsByCounting_34
set_option maxHeartbeats 4000000 in
set_option maxRecDepth 100000 in
theorem c_X1_doesLose (l : Launch) (g : vs_G) (a : Nat → Nat) (wr : va_W) (S : vs_St) (x1 : Int) (post : Int → Prop) (hw : wX1_doesLose S x1 post) : vs_MI l yX1_doesLose (Cond.code yX1_doesLose cX1_doesLose 3 (some .boolean) :: vs_ws) { frames := 0, cells := 0, slots := 0, locals := 0 } g [.ref (a 0), .int (vs_I x1)] (vs_W1 g a S ++ wr) (fun (_ : Unit) => vs_W1 g a S ++ wr) (fun v (_ : Unit) => post v) 0 0 := by
  refine vs_ofW (Qc := fun A => vs_QI g A (fun (_ : Unit) => vs_W1 g a S ++ wr) (fun v (_ : Unit) => post v)) (by decide +kernel) (Nat.le_of_ble_eq_true rfl) (fun p e s m below meth c A ls hC hr hlk hW hl => ?_)
  have hC : CallFix p m c cX1_doesLose 3 s _ vs_ws RX1 := hC
  have hl : lv_has ls 3 [(0, .ref (a 0)), (1, .int (vs_I x1))] := hl
  unfold wX1_doesLose at hw
  refine vs_iconst hC dX1_doesLose_0 ?_
  refine vs_istore_n (L' := [(0, .ref (a 0)), (1, .int (vs_I x1)), (2, .int (vs_I 0))]) hC hl [1, 2, 0] dX1_doesLose_1 rfl (by decide) rfl (fun ls hl => ?_)
  obtain ⟨J1, μ1, hJ, hB1⟩ := hw
  refine vs_loop (V := Int) (J := fun v => J1 v) (μ := fun v => μ1 v) (fun v => vs_W1 g a S ++ wr) (fun v => [(0, .ref (a 0)), (1, .int (vs_I x1)), (2, .int (vs_I v))]) (fun v hJ ih1 H locs ls hW hl => ?_) 0 hJ hW (lv_sub hl [0, 1, 2] rfl)
  obtain ⟨v2, hv⟩ : ∃ z, z = v := ⟨_, rfl⟩
  subst hv
  have hw := hB1 v2 hJ
  have hW : vs_Wd g A _ (vs_W1 g a S ++ wr) _ _ s := hW
  have hl : lv_has ls 3 [(0, .ref (a 0)), (1, .int (vs_I x1)), (2, .int (vs_I v2))] := hl
  clear hJ
  unfold lX1_doesLose_2 at hw
  refine vs_iload_n hC hl 2 dX1_doesLose_2 rfl rfl ?_
  refine vs_aload_n hC hl 0 dX1_doesLose_3 rfl rfl ?_
  refine vs_get hC hW 0 rfl rfl vs_inX1 10 (by decide) vf_X1_57 rfl dX1_doesLose_4 ?_
  obtain ⟨hx, hw⟩ := hw
  obtain ⟨hy, hw⟩ := hw
  obtain ⟨hwt, hwf⟩ := hw
  refine vs_icmp_ge hC 40 hx hy dX1_doesLose_7 (by decide) (fun hc => ?_) (fun hc => ?_)
  · have hw := hwt hc
    clear hwt hwf hc
    refine vs_iconst hC dX1_doesLose_40 ?_
    exact vs_zret () hC hr hlk hW rfl ⟨Or.inl rfl, hw⟩ (Nat.le_of_ble_eq_true rfl) (Nat.le_of_ble_eq_true rfl) dX1_doesLose_41
  · have hw := hwf hc
    clear hwt hwf hc
    refine vs_aload_n hC hl 0 dX1_doesLose_10 rfl rfl ?_
    refine vs_get hC hW 0 rfl rfl vs_inX1 12 (by decide) vf_X1_44 rfl dX1_doesLose_11 ?_
    refine vs_iload_n hC hl 2 dX1_doesLose_14 rfl rfl ?_
    obtain ⟨hi, hw⟩ := hw
    refine vs_iald hC hW 11 rfl (by decide) hi dX1_doesLose_15 ?_
    obtain ⟨hx, hw⟩ := hw
    obtain ⟨hwt, hwf⟩ := hw
    refine vs_if_eq hC 34 hx dX1_doesLose_16 (by decide) (fun hc => ?_) (fun hc => ?_)
    · have hw := hwt hc
      clear hwt hwf hc
      refine vs_iinc (L' := [(0, .ref (a 0)), (1, .int (vs_I x1)), (2, .int (vs_I (v2 + 1)))]) hC hl 2 [1, 2, 0] dX1_doesLose_34 rfl (by decide) rfl (fun ls hl => ?_)
      refine vs_goto hC 2 dX1_doesLose_37 (by decide) ?_
      exact ih1 (v2 + 1) hw _ _ _ hW (lv_sub hl [0, 1, 2] rfl)
    · have hw := hwf hc
      clear hwt hwf hc
      refine vs_aload_n hC hl 0 dX1_doesLose_19 rfl rfl ?_
      refine vs_get hC hW 0 rfl rfl vs_inX1 12 (by decide) vf_X1_44 rfl dX1_doesLose_20 ?_
      refine vs_iload_n hC hl 2 dX1_doesLose_23 rfl rfl ?_
      obtain ⟨hi, hw⟩ := hw
      refine vs_iald hC hW 11 rfl (by decide) hi dX1_doesLose_24 ?_
      refine vs_iload_n hC hl 1 dX1_doesLose_25 rfl rfl ?_
      refine vs_iconst hC dX1_doesLose_26 ?_
      refine vs_ixor hC dX1_doesLose_27 ?_
      refine vs_iand hC dX1_doesLose_28 ?_
      obtain ⟨hx, hw⟩ := hw
      obtain ⟨hwt, hwf⟩ := hw
      refine vs_if_ne hC 34 hx dX1_doesLose_29 (by decide) (fun hc => ?_) (fun hc => ?_)
      · have hw := hwt hc
        clear hwt hwf hc
        refine vs_iinc (L' := [(0, .ref (a 0)), (1, .int (vs_I x1)), (2, .int (vs_I (v2 + 1)))]) hC hl 2 [1, 2, 0] dX1_doesLose_34 rfl (by decide) rfl (fun ls hl => ?_)
        refine vs_goto hC 2 dX1_doesLose_37 (by decide) ?_
        exact ih1 (v2 + 1) hw _ _ _ hW (lv_sub hl [0, 1, 2] rfl)
      · have hw := hwf hc
        clear hwt hwf hc
        refine vs_iconst hC dX1_doesLose_32 ?_
        exact vs_zret () hC hr hlk hW rfl ⟨Or.inr rfl, hw⟩ (Nat.le_of_ble_eq_true rfl) (Nat.le_of_ble_eq_true rfl) dX1_doesLose_33
set_option maxHeartbeats 4000000 in
set_option maxRecDepth 100000 in
theorem c_X1_bearsByTrying (l : Launch) (g : vs_G) (a : Nat → Nat) (wr : va_W) (S : vs_St) (x1 : Int) (post : Int → vs_St → Prop) (hw : wX1_bearsByTrying S x1 post) : vs_MI l yX1_bearsByTrying (Cond.code yX1_bearsByTrying cX1_bearsByTrying 6 (some .boolean) :: vs_ws) { frames := 2, cells := 0, slots := 0, locals := 46 } g [.ref (a 0), .int (vs_I x1)] (vs_W1 g a S ++ wr) (fun (S' : vs_St) => vs_W1 g a S' ++ wr) post 0 0 := by
  refine vs_ofW (Qc := fun A => vs_QI g A (fun (S' : vs_St) => vs_W1 g a S' ++ wr) post) (by decide +kernel) (Nat.le_of_ble_eq_true rfl) (fun p e s m below meth c A ls hC hr hlk hW hl => ?_)
  have hC : CallFix p m c cX1_bearsByTrying 6 s _ vs_ws RX1 := hC
  have hl : lv_has ls 6 [(0, .ref (a 0)), (1, .int (vs_I x1))] := hl
  unfold wX1_bearsByTrying at hw
  refine vs_iconst hC dX1_bearsByTrying_0 ?_
  refine vs_istore_n (L' := [(0, .ref (a 0)), (1, .int (vs_I x1)), (2, .int (vs_I 0))]) hC hl [1, 2, 0] dX1_bearsByTrying_1 rfl (by decide) rfl (fun ls hl => ?_)
  obtain ⟨J1, μ1, hJ, hB1⟩ := hw
  refine vs_loop (V := Int × vs_St) (J := fun v => J1 v.1 v.2) (μ := fun v => μ1 v.1 v.2) (fun v => vs_W1 g a v.2 ++ wr) (fun v => [(0, .ref (a 0)), (1, .int (vs_I x1)), (2, .int (vs_I v.1))]) (fun v hJ ih1 H locs ls hW hl => ?_) (0, S) hJ hW (lv_sub hl [0, 1, 2] rfl)
  obtain ⟨v2, S3⟩ := v
  have hw := hB1 v2 S3 hJ
  have hW : vs_Wd g A _ (vs_W1 g a S3 ++ wr) _ _ s := hW
  have hl : lv_has ls 6 [(0, .ref (a 0)), (1, .int (vs_I x1)), (2, .int (vs_I v2))] := hl
  clear hJ
  unfold lX1_bearsByTrying_2 at hw
  refine vs_iload_n hC hl 2 dX1_bearsByTrying_2 rfl rfl ?_
  refine vs_aload_n hC hl 0 dX1_bearsByTrying_3 rfl rfl ?_
  refine vs_get hC hW 0 rfl rfl vs_inX1 10 (by decide) vf_X1_57 rfl dX1_bearsByTrying_4 ?_
  obtain ⟨hx, hw⟩ := hw
  obtain ⟨hy, hw⟩ := hw
  obtain ⟨hwt, hwf⟩ := hw
  refine vs_icmp_ge hC 32 hx hy dX1_bearsByTrying_7 (by decide) (fun hc => ?_) (fun hc => ?_)
  · have hw := hwt hc
    clear hwt hwf hc
    refine vs_aload_n hC hl 0 dX1_bearsByTrying_32 rfl rfl ?_
    refine vs_bipush hC dX1_bearsByTrying_33 (by decide +kernel) ?_
    refine vs_callVI [.int (vs_I 102)] hC hW 0 rfl rfl vk_X1_disksInState vm_X1_132 (c_X1_disksInState l g a (wr) S3 102 _ hw) rfl hl.1 rfl ⟨rfl, rfl⟩ ⟨Nat.le_of_ble_eq_true rfl, Nat.le_of_ble_eq_true rfl⟩ ⟨Nat.le_of_ble_eq_true rfl, Nat.le_of_ble_eq_true rfl⟩ (Nat.le_of_ble_eq_true rfl) dX1_bearsByTrying_35 (fun r4 _ H locs hw hW => ?_)
    have hW : vs_Wd g A _ (vs_W1 g a S3 ++ wr) _ _ s := hW
    refine vs_istore_n (L' := [(0, .ref (a 0)), (1, .int (vs_I x1)), (2, .int (vs_I r4))]) hC hl [1, 2, 0] dX1_bearsByTrying_38 rfl (by decide) rfl (fun ls hl => ?_)
    refine vs_iload_n hC hl 1 dX1_bearsByTrying_39 rfl rfl ?_
    refine vs_aload_n hC hl 0 dX1_bearsByTrying_40 rfl rfl ?_
    refine vs_get hC hW 0 rfl rfl vs_inX1 0 (by decide) vf_X1_53 rfl dX1_bearsByTrying_41 ?_
    refine vs_iload_n hC hl 2 dX1_bearsByTrying_44 rfl rfl ?_
    refine vs_callSI [.int (vs_I r4)] hC hW vk_J6_bitCount_0f7a4 vm_X1_127 (c_J6_bitCount_0f7a4 l g (vs_W1 g a S3 ++ wr) r4 _ hw) rfl hl.1 rfl ⟨rfl, rfl⟩ ⟨Nat.le_of_ble_eq_true rfl, Nat.le_of_ble_eq_true rfl⟩ ⟨Nat.le_of_ble_eq_true rfl, Nat.le_of_ble_eq_true rfl⟩ (Nat.le_of_ble_eq_true rfl) dX1_bearsByTrying_45 (fun r5 _ H locs hw hW => ?_)
    have hW : vs_Wd g A _ (vs_W1 g a S3 ++ wr) _ _ s := hW
    refine vs_isub hC dX1_bearsByTrying_48 ?_
    obtain ⟨hx, hw⟩ := hw
    obtain ⟨hy, hw⟩ := hw
    refine vs_mmin hC hx hy hl.1 vm_X1_110 (Nat.le_of_ble_eq_true rfl) (Nat.le_of_ble_eq_true rfl) (Nat.le_of_ble_eq_true rfl) (Nat.le_of_ble_eq_true rfl) dX1_bearsByTrying_49 ?_
    refine vs_name (fun v6 hv6 => ?_)
    have hw := hw v6 hv6
    refine vs_istore_n (L' := [(0, .ref (a 0)), (1, .int (vs_I x1)), (2, .int (vs_I r4)), (3, .int (vs_I v6))]) hC hl [1, 2, 3, 0] dX1_bearsByTrying_52 rfl (by decide) rfl (fun ls hl => ?_)
    refine vs_iconst hC dX1_bearsByTrying_53 ?_
    refine vs_istore (L' := [(0, .ref (a 0)), (1, .int (vs_I x1)), (2, .int (vs_I r4)), (3, .int (vs_I v6)), (4, .int (vs_I 0))]) hC hl [1, 2, 3, 4, 0] dX1_bearsByTrying_54 (by decide) rfl (fun ls hl => ?_)
    obtain ⟨J7, μ7, hJ, hB7⟩ := hw
    refine vs_loop (V := Int) (J := fun v => J7 v) (μ := fun v => μ7 v) (fun v => vs_W1 g a S3 ++ wr) (fun v => [(0, .ref (a 0)), (2, .int (vs_I r4)), (3, .int (vs_I v6)), (4, .int (vs_I v))]) (fun v hJ ih7 H locs ls hW hl => ?_) 0 hJ hW (lv_sub hl [0, 2, 3, 4] rfl)
    obtain ⟨v8, hv⟩ : ∃ z, z = v := ⟨_, rfl⟩
    subst hv
    have hw := hB7 v8 hJ
    have hW : vs_Wd g A _ (vs_W1 g a S3 ++ wr) _ _ s := hW
    have hl : lv_has ls 6 [(0, .ref (a 0)), (2, .int (vs_I r4)), (3, .int (vs_I v6)), (4, .int (vs_I v8))] := hl
    clear hJ
    unfold lX1_bearsByTrying_56 at hw
    refine vs_iload hC hl 3 dX1_bearsByTrying_56 rfl ?_
    refine vs_iconst hC dX1_bearsByTrying_58 ?_
    refine vs_aload_n hC hl 0 dX1_bearsByTrying_59 rfl rfl ?_
    refine vs_get hC hW 0 rfl rfl vs_inX1 0 (by decide) vf_X1_53 rfl dX1_bearsByTrying_60 ?_
    refine vs_ishl hC dX1_bearsByTrying_63 ?_
    obtain ⟨hx, hw⟩ := hw
    obtain ⟨hy, hw⟩ := hw
    obtain ⟨hwt, hwf⟩ := hw
    refine vs_icmp_ge hC 112 hx hy dX1_bearsByTrying_64 (by decide) (fun hc => ?_) (fun hc => ?_)
    · have hw := hwt hc
      clear hwt hwf hc
      refine vs_iconst hC dX1_bearsByTrying_112 ?_
      exact vs_zret (S3) hC hr hlk hW rfl ⟨Or.inr rfl, hw⟩ (Nat.le_of_ble_eq_true rfl) (Nat.le_of_ble_eq_true rfl) dX1_bearsByTrying_113
    · have hw := hwf hc
      clear hwt hwf hc
      refine vs_iload hC hl 3 dX1_bearsByTrying_67 rfl ?_
      refine vs_iload_n hC hl 1 dX1_bearsByTrying_69 rfl rfl ?_
      refine vs_iand hC dX1_bearsByTrying_70 ?_
      obtain ⟨hx, hw⟩ := hw
      obtain ⟨hwt, hwf⟩ := hw
      refine vs_if_ne hC 87 hx dX1_bearsByTrying_71 (by decide) (fun hc => ?_) (fun hc => ?_)
      · have hw := hwt hc
        clear hwt hwf hc
        refine vs_iconst hC dX1_bearsByTrying_87 ?_
        refine vs_istore (L' := [(0, .ref (a 0)), (2, .int (vs_I r4)), (3, .int (vs_I v6)), (4, .int (vs_I v8)), (5, .int (vs_I 0))]) hC hl [1, 2, 3, 4, 0] dX1_bearsByTrying_88 (by decide) rfl (fun ls hl => ?_)
        refine vs_iload hC hl 4 dX1_bearsByTrying_90 rfl ?_
        refine vs_if_eq hC 106 ⟨by decide, by decide⟩ dX1_bearsByTrying_92 (by decide) (fun _ => ?_) (fun hc => absurd hc (by decide))
        refine vs_iinc (L' := [(0, .ref (a 0)), (2, .int (vs_I r4)), (3, .int (vs_I v6)), (4, .int (vs_I (v8 + 1))), (5, .int (vs_I 0))]) hC hl 3 [1, 2, 3, 0, 4] dX1_bearsByTrying_106 rfl (by decide) rfl (fun ls hl => ?_)
        refine vs_goto hC 56 dX1_bearsByTrying_109 (by decide) ?_
        exact ih7 (v8 + 1) hw _ _ _ hW (lv_sub hl [0, 1, 2, 3] rfl)
      · have hw := hwf hc
        clear hwt hwf hc
        refine vs_iload hC hl 3 dX1_bearsByTrying_74 rfl ?_
        refine vs_callSI [.int (vs_I v8)] hC hW vk_J6_bitCount_0f7a4 vm_X1_127 (c_J6_bitCount_0f7a4 l g (vs_W1 g a S3 ++ wr) v8 _ hw) rfl hl.1 rfl ⟨rfl, rfl⟩ ⟨Nat.le_of_ble_eq_true rfl, Nat.le_of_ble_eq_true rfl⟩ ⟨Nat.le_of_ble_eq_true rfl, Nat.le_of_ble_eq_true rfl⟩ (Nat.le_of_ble_eq_true rfl) dX1_bearsByTrying_76 (fun r9 _ H locs hw hW => ?_)
        have hW : vs_Wd g A _ (vs_W1 g a S3 ++ wr) _ _ s := hW
        refine vs_iload_n hC hl 2 dX1_bearsByTrying_79 rfl rfl ?_
        obtain ⟨hx, hw⟩ := hw
        obtain ⟨hy, hw⟩ := hw
        obtain ⟨hwt, hwf⟩ := hw
        refine vs_icmp_ne hC 87 hx hy dX1_bearsByTrying_80 (by decide) (fun hc => ?_) (fun hc => ?_)
        · have hw := hwt hc
          clear hwt hwf hc
          refine vs_iconst hC dX1_bearsByTrying_87 ?_
          refine vs_istore (L' := [(0, .ref (a 0)), (2, .int (vs_I r4)), (3, .int (vs_I v6)), (4, .int (vs_I v8)), (5, .int (vs_I 0))]) hC hl [1, 2, 3, 4, 0] dX1_bearsByTrying_88 (by decide) rfl (fun ls hl => ?_)
          refine vs_iload hC hl 4 dX1_bearsByTrying_90 rfl ?_
          refine vs_if_eq hC 106 ⟨by decide, by decide⟩ dX1_bearsByTrying_92 (by decide) (fun _ => ?_) (fun hc => absurd hc (by decide))
          refine vs_iinc (L' := [(0, .ref (a 0)), (2, .int (vs_I r4)), (3, .int (vs_I v6)), (4, .int (vs_I (v8 + 1))), (5, .int (vs_I 0))]) hC hl 3 [1, 2, 3, 0, 4] dX1_bearsByTrying_106 rfl (by decide) rfl (fun ls hl => ?_)
          refine vs_goto hC 56 dX1_bearsByTrying_109 (by decide) ?_
          exact ih7 (v8 + 1) hw _ _ _ hW (lv_sub hl [0, 1, 2, 3] rfl)
        · have hw := hwf hc
          clear hwt hwf hc
          refine vs_iconst hC dX1_bearsByTrying_83 ?_
          refine vs_goto hC 88 dX1_bearsByTrying_84 (by decide) ?_
          refine vs_istore (L' := [(0, .ref (a 0)), (2, .int (vs_I r4)), (3, .int (vs_I v6)), (4, .int (vs_I v8)), (5, .int (vs_I 1))]) hC hl [1, 2, 3, 4, 0] dX1_bearsByTrying_88 (by decide) rfl (fun ls hl => ?_)
          refine vs_iload hC hl 4 dX1_bearsByTrying_90 rfl ?_
          refine vs_if_eq hC 106 ⟨by decide, by decide⟩ dX1_bearsByTrying_92 (by decide) (fun hc => absurd hc (by decide)) (fun _ => ?_)
          refine vs_aload_n hC hl 0 dX1_bearsByTrying_95 rfl rfl ?_
          refine vs_iload hC hl 3 dX1_bearsByTrying_96 rfl ?_
          refine vs_callVI [.int (vs_I v8)] hC hW 0 rfl rfl vk_X1_doesLose vm_X1_136 (c_X1_doesLose l g a (wr) S3 v8 _ hw) rfl hl.1 rfl ⟨rfl, rfl⟩ ⟨Nat.le_of_ble_eq_true rfl, Nat.le_of_ble_eq_true rfl⟩ ⟨Nat.le_of_ble_eq_true rfl, Nat.le_of_ble_eq_true rfl⟩ (Nat.le_of_ble_eq_true rfl) dX1_bearsByTrying_98 (fun r10 _ H locs hw hW => ?_)
          have hW : vs_Wd g A _ (vs_W1 g a S3 ++ wr) _ _ s := hW
          obtain ⟨hx, hw⟩ := hw
          obtain ⟨hwt, hwf⟩ := hw
          refine vs_if_eq hC 106 hx dX1_bearsByTrying_101 (by decide) (fun hc => ?_) (fun hc => ?_)
          · have hw := hwt hc
            clear hwt hwf hc
            refine vs_iinc (L' := [(0, .ref (a 0)), (2, .int (vs_I r4)), (3, .int (vs_I v6)), (4, .int (vs_I (v8 + 1))), (5, .int (vs_I 1))]) hC hl 3 [1, 2, 3, 0, 4] dX1_bearsByTrying_106 rfl (by decide) rfl (fun ls hl => ?_)
            refine vs_goto hC 56 dX1_bearsByTrying_109 (by decide) ?_
            exact ih7 (v8 + 1) hw _ _ _ hW (lv_sub hl [0, 1, 2, 3] rfl)
          · have hw := hwf hc
            clear hwt hwf hc
            refine vs_iconst hC dX1_bearsByTrying_104 ?_
            exact vs_zret (S3) hC hr hlk hW rfl ⟨Or.inl rfl, hw⟩ (Nat.le_of_ble_eq_true rfl) (Nat.le_of_ble_eq_true rfl) dX1_bearsByTrying_105
  · have hw := hwf hc
    clear hwt hwf hc
    refine vs_aload_n hC hl 0 dX1_bearsByTrying_10 rfl rfl ?_
    refine vs_get hC hW 0 rfl rfl vs_inX1 12 (by decide) vf_X1_44 rfl dX1_bearsByTrying_11 ?_
    refine vs_iload_n hC hl 2 dX1_bearsByTrying_14 rfl rfl ?_
    refine vs_aload_n hC hl 0 dX1_bearsByTrying_15 rfl rfl ?_
    refine vs_aload_n hC hl 0 dX1_bearsByTrying_16 rfl rfl ?_
    refine vs_get hC hW 0 rfl rfl vs_inX1 11 (by decide) vf_X1_41 rfl dX1_bearsByTrying_17 ?_
    refine vs_iload_n hC hl 2 dX1_bearsByTrying_20 rfl rfl ?_
    obtain ⟨hi, hw⟩ := hw
    refine vs_iald hC hW 10 rfl (by decide) hi dX1_bearsByTrying_21 ?_
    refine vs_callVI [.int (vs_I (S3 11 v2))] hC hW 0 rfl rfl vk_X1_disksWithGoodCopy vm_X1_70 (c_X1_disksWithGoodCopy l g a (wr) S3 (S3 11 v2) _ hw) rfl hl.1 rfl ⟨rfl, rfl⟩ ⟨Nat.le_of_ble_eq_true rfl, Nat.le_of_ble_eq_true rfl⟩ ⟨Nat.le_of_ble_eq_true rfl, Nat.le_of_ble_eq_true rfl⟩ (Nat.le_of_ble_eq_true rfl) dX1_bearsByTrying_22 (fun r11 _ H locs hw hW => ?_)
    have hW : vs_Wd g A _ (vs_W1 g a S3 ++ wr) _ _ s := hW
    obtain ⟨hi, hw⟩ := hw
    obtain ⟨S12, hS12⟩ : ∃ z : vs_St, z = vs_st S3 12 v2 r11 := ⟨_, rfl⟩
    have hw := hw S12 hS12
    refine vs_iast (Wo' := vs_W1 g a S12 ++ wr) hC hW 11 rfl (by decide) hi (by rw [hS12]; rfl) dX1_bearsByTrying_25 (fun H locs hW => ?_)
    refine vs_iinc (L' := [(0, .ref (a 0)), (1, .int (vs_I x1)), (2, .int (vs_I (v2 + 1)))]) hC hl 2 [1, 2, 0] dX1_bearsByTrying_26 rfl (by decide) rfl (fun ls hl => ?_)
    refine vs_goto hC 2 dX1_bearsByTrying_29 (by decide) ?_
    exact ih1 (v2 + 1, S12) hw _ _ _ hW (lv_sub hl [0, 1, 2] rfl)
set_option maxHeartbeats 4000000 in
set_option maxRecDepth 100000 in
theorem c_X1_countCopies (l : Launch) (g : vs_G) (a : Nat → Nat) (wr : va_W) (S : vs_St) (post : Int → Prop) (hw : wX1_countCopies S post) : vs_MI l yX1_countCopies (Cond.code yX1_countCopies cX1_countCopies 3 (some .int) :: vs_ws) { frames := 0, cells := 0, slots := 0, locals := 0 } g [.ref (a 0)] (vs_W1 g a S ++ wr) (fun (_ : Unit) => vs_W1 g a S ++ wr) (fun v (_ : Unit) => post v) 0 0 := by
  refine vs_ofW (Qc := fun A => vs_QI g A (fun (_ : Unit) => vs_W1 g a S ++ wr) (fun v (_ : Unit) => post v)) (by decide +kernel) (Nat.le_of_ble_eq_true rfl) (fun p e s m below meth c A ls hC hr hlk hW hl => ?_)
  have hC : CallFix p m c cX1_countCopies 3 s _ vs_ws RX1 := hC
  have hl : lv_has ls 3 [(0, .ref (a 0))] := hl
  unfold wX1_countCopies at hw
  refine vs_iconst hC dX1_countCopies_0 ?_
  refine vs_istore_n (L' := [(0, .ref (a 0)), (1, .int (vs_I 0))]) hC hl [1, 0] dX1_countCopies_1 rfl (by decide) rfl (fun ls hl => ?_)
  refine vs_iconst hC dX1_countCopies_2 ?_
  refine vs_istore_n (L' := [(0, .ref (a 0)), (1, .int (vs_I 0)), (2, .int (vs_I 0))]) hC hl [1, 2, 0] dX1_countCopies_3 rfl (by decide) rfl (fun ls hl => ?_)
  obtain ⟨J1, μ1, hJ, hB1⟩ := hw
  refine vs_loop (V := Int × Int) (J := fun v => J1 v.1 v.2) (μ := fun v => μ1 v.1 v.2) (fun v => vs_W1 g a S ++ wr) (fun v => [(0, .ref (a 0)), (1, .int (vs_I v.1)), (2, .int (vs_I v.2))]) (fun v hJ ih1 H locs ls hW hl => ?_) (0, 0) hJ hW (lv_sub hl [0, 1, 2] rfl)
  obtain ⟨v2, v3⟩ := v
  have hw := hB1 v2 v3 hJ
  have hW : vs_Wd g A _ (vs_W1 g a S ++ wr) _ _ s := hW
  have hl : lv_has ls 3 [(0, .ref (a 0)), (1, .int (vs_I v2)), (2, .int (vs_I v3))] := hl
  clear hJ
  unfold lX1_countCopies_4 at hw
  refine vs_iload_n hC hl 2 dX1_countCopies_4 rfl rfl ?_
  refine vs_aload_n hC hl 0 dX1_countCopies_5 rfl rfl ?_
  refine vs_get hC hW 0 rfl rfl vs_inX1 10 (by decide) vf_X1_57 rfl dX1_countCopies_6 ?_
  obtain ⟨hx, hw⟩ := hw
  obtain ⟨hy, hw⟩ := hw
  obtain ⟨hwt, hwf⟩ := hw
  refine vs_icmp_ge hC 32 hx hy dX1_countCopies_9 (by decide) (fun hc => ?_) (fun hc => ?_)
  · have hw := hwt hc
    clear hwt hwf hc
    refine vs_iload_n hC hl 1 dX1_countCopies_32 rfl rfl ?_
    exact vs_iret () hC hr hlk hW rfl hw (Nat.le_of_ble_eq_true rfl) (Nat.le_of_ble_eq_true rfl) dX1_countCopies_33
  · have hw := hwf hc
    clear hwt hwf hc
    refine vs_iload_n hC hl 1 dX1_countCopies_12 rfl rfl ?_
    refine vs_aload_n hC hl 0 dX1_countCopies_13 rfl rfl ?_
    refine vs_get hC hW 0 rfl rfl vs_inX1 8 (by decide) vf_X1_35 rfl dX1_countCopies_14 ?_
    refine vs_aload_n hC hl 0 dX1_countCopies_17 rfl rfl ?_
    refine vs_get hC hW 0 rfl rfl vs_inX1 11 (by decide) vf_X1_41 rfl dX1_countCopies_18 ?_
    refine vs_iload_n hC hl 2 dX1_countCopies_21 rfl rfl ?_
    obtain ⟨hi, hw⟩ := hw
    refine vs_iald hC hW 10 rfl (by decide) hi dX1_countCopies_22 ?_
    obtain ⟨hi, hw⟩ := hw
    refine vs_iald hC hW 8 rfl (by decide) hi dX1_countCopies_23 ?_
    refine vs_iadd hC dX1_countCopies_24 ?_
    refine vs_name (fun v4 hv4 => ?_)
    have hw := hw v4 hv4
    refine vs_istore_n (L' := [(0, .ref (a 0)), (1, .int (vs_I v4)), (2, .int (vs_I v3))]) hC hl [1, 0, 2] dX1_countCopies_25 rfl (by decide) rfl (fun ls hl => ?_)
    refine vs_iinc (L' := [(0, .ref (a 0)), (1, .int (vs_I v4)), (2, .int (vs_I (v3 + 1)))]) hC hl 2 [1, 2, 0] dX1_countCopies_26 rfl (by decide) rfl (fun ls hl => ?_)
    refine vs_goto hC 4 dX1_countCopies_29 (by decide) ?_
    exact ih1 (v4, v3 + 1) hw _ _ _ hW (lv_sub hl [0, 1, 2] rfl)
set_option maxHeartbeats 4000000 in
set_option maxRecDepth 100000 in
theorem c_X1_countSlots (l : Launch) (g : vs_G) (a : Nat → Nat) (wr : va_W) (S : vs_St) (post : Int → Prop) (hw : wX1_countSlots S post) : vs_MI l yX1_countSlots (Cond.code yX1_countSlots cX1_countSlots 3 (some .int) :: vs_ws) { frames := 0, cells := 0, slots := 0, locals := 0 } g [.ref (a 0)] (vs_W1 g a S ++ wr) (fun (_ : Unit) => vs_W1 g a S ++ wr) (fun v (_ : Unit) => post v) 0 0 := by
  refine vs_ofW (Qc := fun A => vs_QI g A (fun (_ : Unit) => vs_W1 g a S ++ wr) (fun v (_ : Unit) => post v)) (by decide +kernel) (Nat.le_of_ble_eq_true rfl) (fun p e s m below meth c A ls hC hr hlk hW hl => ?_)
  have hC : CallFix p m c cX1_countSlots 3 s _ vs_ws RX1 := hC
  have hl : lv_has ls 3 [(0, .ref (a 0))] := hl
  unfold wX1_countSlots at hw
  refine vs_iconst hC dX1_countSlots_0 ?_
  refine vs_istore_n (L' := [(0, .ref (a 0)), (1, .int (vs_I 0))]) hC hl [1, 0] dX1_countSlots_1 rfl (by decide) rfl (fun ls hl => ?_)
  refine vs_iconst hC dX1_countSlots_2 ?_
  refine vs_istore_n (L' := [(0, .ref (a 0)), (1, .int (vs_I 0)), (2, .int (vs_I 0))]) hC hl [1, 2, 0] dX1_countSlots_3 rfl (by decide) rfl (fun ls hl => ?_)
  obtain ⟨J1, μ1, hJ, hB1⟩ := hw
  refine vs_loop (V := Int × Int) (J := fun v => J1 v.1 v.2) (μ := fun v => μ1 v.1 v.2) (fun v => vs_W1 g a S ++ wr) (fun v => [(0, .ref (a 0)), (1, .int (vs_I v.1)), (2, .int (vs_I v.2))]) (fun v hJ ih1 H locs ls hW hl => ?_) (0, 0) hJ hW (lv_sub hl [0, 1, 2] rfl)
  obtain ⟨v2, v3⟩ := v
  have hw := hB1 v2 v3 hJ
  have hW : vs_Wd g A _ (vs_W1 g a S ++ wr) _ _ s := hW
  have hl : lv_has ls 3 [(0, .ref (a 0)), (1, .int (vs_I v2)), (2, .int (vs_I v3))] := hl
  clear hJ
  unfold lX1_countSlots_4 at hw
  refine vs_iload_n hC hl 2 dX1_countSlots_4 rfl rfl ?_
  refine vs_aload_n hC hl 0 dX1_countSlots_5 rfl rfl ?_
  refine vs_get hC hW 0 rfl rfl vs_inX1 0 (by decide) vf_X1_53 rfl dX1_countSlots_6 ?_
  obtain ⟨hx, hw⟩ := hw
  obtain ⟨hy, hw⟩ := hw
  obtain ⟨hwt, hwf⟩ := hw
  refine vs_icmp_ge hC 38 hx hy dX1_countSlots_9 (by decide) (fun hc => ?_) (fun hc => ?_)
  · have hw := hwt hc
    clear hwt hwf hc
    refine vs_iload_n hC hl 1 dX1_countSlots_38 rfl rfl ?_
    exact vs_iret () hC hr hlk hW rfl hw (Nat.le_of_ble_eq_true rfl) (Nat.le_of_ble_eq_true rfl) dX1_countSlots_39
  · have hw := hwf hc
    clear hwt hwf hc
    refine vs_aload_n hC hl 0 dX1_countSlots_12 rfl rfl ?_
    refine vs_get hC hW 0 rfl rfl vs_inX1 3 (by decide) vf_X1_18 rfl dX1_countSlots_13 ?_
    refine vs_iload_n hC hl 2 dX1_countSlots_16 rfl rfl ?_
    obtain ⟨hi, hw⟩ := hw
    refine vs_cald hC hW 3 rfl (by decide) hi dX1_countSlots_17 ?_
    refine vs_bipush hC dX1_countSlots_18 (by decide +kernel) ?_
    obtain ⟨hx, hw⟩ := hw
    obtain ⟨hwt, hwf⟩ := hw
    refine vs_icmp_eq hC 32 hx ⟨by decide, by decide⟩ dX1_countSlots_20 (by decide) (fun hc => ?_) (fun hc => ?_)
    · have hw := hwt hc
      clear hwt hwf hc
      refine vs_iinc (L' := [(0, .ref (a 0)), (1, .int (vs_I v2)), (2, .int (vs_I (v3 + 1)))]) hC hl 2 [1, 2, 0] dX1_countSlots_32 rfl (by decide) rfl (fun ls hl => ?_)
      refine vs_goto hC 4 dX1_countSlots_35 (by decide) ?_
      exact ih1 (v2, v3 + 1) hw _ _ _ hW (lv_sub hl [0, 1, 2] rfl)
    · have hw := hwf hc
      clear hwt hwf hc
      refine vs_iload_n hC hl 1 dX1_countSlots_23 rfl rfl ?_
      refine vs_aload_n hC hl 0 dX1_countSlots_24 rfl rfl ?_
      refine vs_get hC hW 0 rfl rfl vs_inX1 1 (by decide) vf_X1_9 rfl dX1_countSlots_25 ?_
      refine vs_iload_n hC hl 2 dX1_countSlots_28 rfl rfl ?_
      obtain ⟨hi, hw⟩ := hw
      refine vs_iald hC hW 1 rfl (by decide) hi dX1_countSlots_29 ?_
      refine vs_iadd hC dX1_countSlots_30 ?_
      refine vs_name (fun v4 hv4 => ?_)
      have hw := hw v4 hv4
      refine vs_istore_n (L' := [(0, .ref (a 0)), (1, .int (vs_I v4)), (2, .int (vs_I v3))]) hC hl [1, 0, 2] dX1_countSlots_31 rfl (by decide) rfl (fun ls hl => ?_)
      refine vs_iinc (L' := [(0, .ref (a 0)), (1, .int (vs_I v4)), (2, .int (vs_I (v3 + 1)))]) hC hl 2 [1, 2, 0] dX1_countSlots_32 rfl (by decide) rfl (fun ls hl => ?_)
      refine vs_goto hC 4 dX1_countSlots_35 (by decide) ?_
      exact ih1 (v4, v3 + 1) hw _ _ _ hW (lv_sub hl [0, 1, 2] rfl)
set_option maxHeartbeats 4000000 in
set_option maxRecDepth 100000 in
theorem c_X1_agreesWithDisks (l : Launch) (g : vs_G) (a : Nat → Nat) (wr : va_W) (S : vs_St) (post : Int → Prop) (hw : wX1_agreesWithDisks S post) : vs_MI l yX1_agreesWithDisks (Cond.code yX1_agreesWithDisks cX1_agreesWithDisks 6 (some .boolean) :: vs_ws) { frames := 2, cells := 0, slots := 0, locals := 45 } g [.ref (a 0)] (vs_W1 g a S ++ wr) (fun (_ : Unit) => vs_W1 g a S ++ wr) (fun v (_ : Unit) => post v) 0 0 := by
  refine vs_ofW (Qc := fun A => vs_QI g A (fun (_ : Unit) => vs_W1 g a S ++ wr) (fun v (_ : Unit) => post v)) (by decide +kernel) (Nat.le_of_ble_eq_true rfl) (fun p e s m below meth c A ls hC hr hlk hW hl => ?_)
  have hC : CallFix p m c cX1_agreesWithDisks 6 s _ vs_ws RX1 := hC
  have hl : lv_has ls 6 [(0, .ref (a 0))] := hl
  unfold wX1_agreesWithDisks at hw
  refine vs_aload_n hC hl 0 dX1_agreesWithDisks_0 rfl rfl ?_
  refine vs_bipush hC dX1_agreesWithDisks_1 (by decide +kernel) ?_
  refine vs_callVI [.int (vs_I 102)] hC hW 0 rfl rfl vk_X1_disksInState vm_X1_132 (c_X1_disksInState l g a (wr) S 102 _ hw) rfl hl.1 rfl ⟨rfl, rfl⟩ ⟨Nat.le_of_ble_eq_true rfl, Nat.le_of_ble_eq_true rfl⟩ ⟨Nat.le_of_ble_eq_true rfl, Nat.le_of_ble_eq_true rfl⟩ (Nat.le_of_ble_eq_true rfl) dX1_agreesWithDisks_3 (fun r1 _ H locs hw hW => ?_)
  have hW : vs_Wd g A _ (vs_W1 g a S ++ wr) _ _ s := hW
  refine vs_istore_n (L' := [(0, .ref (a 0)), (1, .int (vs_I r1))]) hC hl [1, 0] dX1_agreesWithDisks_6 rfl (by decide) rfl (fun ls hl => ?_)
  refine vs_iconst hC dX1_agreesWithDisks_7 ?_
  refine vs_istore_n (L' := [(0, .ref (a 0)), (1, .int (vs_I r1)), (2, .int (vs_I 0))]) hC hl [1, 2, 0] dX1_agreesWithDisks_8 rfl (by decide) rfl (fun ls hl => ?_)
  obtain ⟨J2, μ2, hJ, hB2⟩ := hw
  refine vs_loop (V := Int) (J := fun v => J2 v) (μ := fun v => μ2 v) (fun v => vs_W1 g a S ++ wr) (fun v => [(0, .ref (a 0)), (1, .int (vs_I r1)), (2, .int (vs_I v))]) (fun v hJ ih2 H locs ls hW hl => ?_) 0 hJ hW (lv_sub hl [0, 1, 2] rfl)
  obtain ⟨v3, hv⟩ : ∃ z, z = v := ⟨_, rfl⟩
  subst hv
  have hw := hB2 v3 hJ
  have hW : vs_Wd g A _ (vs_W1 g a S ++ wr) _ _ s := hW
  have hl : lv_has ls 6 [(0, .ref (a 0)), (1, .int (vs_I r1)), (2, .int (vs_I v3))] := hl
  clear hJ
  unfold lX1_agreesWithDisks_9 at hw
  refine vs_iload_n hC hl 2 dX1_agreesWithDisks_9 rfl rfl ?_
  refine vs_aload_n hC hl 0 dX1_agreesWithDisks_10 rfl rfl ?_
  refine vs_get hC hW 0 rfl rfl vs_inX1 10 (by decide) vf_X1_57 rfl dX1_agreesWithDisks_11 ?_
  obtain ⟨hx, hw⟩ := hw
  obtain ⟨hy, hw⟩ := hw
  obtain ⟨hwt, hwf⟩ := hw
  refine vs_icmp_ge hC 86 hx hy dX1_agreesWithDisks_14 (by decide) (fun hc => ?_) (fun hc => ?_)
  · have hw := hwt hc
    clear hwt hwf hc
    refine vs_iconst hC dX1_agreesWithDisks_86 ?_
    exact vs_zret () hC hr hlk hW rfl ⟨Or.inr rfl, hw⟩ (Nat.le_of_ble_eq_true rfl) (Nat.le_of_ble_eq_true rfl) dX1_agreesWithDisks_87
  · have hw := hwf hc
    clear hwt hwf hc
    refine vs_aload_n hC hl 0 dX1_agreesWithDisks_17 rfl rfl ?_
    refine vs_get hC hW 0 rfl rfl vs_inX1 11 (by decide) vf_X1_41 rfl dX1_agreesWithDisks_18 ?_
    refine vs_iload_n hC hl 2 dX1_agreesWithDisks_21 rfl rfl ?_
    obtain ⟨hi, hw⟩ := hw
    refine vs_iald hC hW 10 rfl (by decide) hi dX1_agreesWithDisks_22 ?_
    refine vs_name (fun v4 hv4 => ?_)
    have hw := hw v4 hv4
    refine vs_istore_n (L' := [(0, .ref (a 0)), (1, .int (vs_I r1)), (2, .int (vs_I v3)), (3, .int (vs_I v4))]) hC hl [1, 2, 3, 0] dX1_agreesWithDisks_23 rfl (by decide) rfl (fun ls hl => ?_)
    refine vs_aload_n hC hl 0 dX1_agreesWithDisks_24 rfl rfl ?_
    refine vs_iload_n hC hl 3 dX1_agreesWithDisks_25 rfl rfl ?_
    refine vs_callVI [.int (vs_I v4)] hC hW 0 rfl rfl vk_X1_disksWithCopy vm_X1_100 (c_X1_disksWithCopy l g a (wr) S v4 _ hw) rfl hl.1 rfl ⟨rfl, rfl⟩ ⟨Nat.le_of_ble_eq_true rfl, Nat.le_of_ble_eq_true rfl⟩ ⟨Nat.le_of_ble_eq_true rfl, Nat.le_of_ble_eq_true rfl⟩ (Nat.le_of_ble_eq_true rfl) dX1_agreesWithDisks_26 (fun r5 _ H locs hw hW => ?_)
    have hW : vs_Wd g A _ (vs_W1 g a S ++ wr) _ _ s := hW
    refine vs_istore (L' := [(0, .ref (a 0)), (1, .int (vs_I r1)), (2, .int (vs_I v3)), (3, .int (vs_I v4)), (4, .int (vs_I r5))]) hC hl [1, 2, 3, 4, 0] dX1_agreesWithDisks_29 (by decide) rfl (fun ls hl => ?_)
    refine vs_aload_n hC hl 0 dX1_agreesWithDisks_31 rfl rfl ?_
    refine vs_get hC hW 0 rfl rfl vs_inX1 8 (by decide) vf_X1_35 rfl dX1_agreesWithDisks_32 ?_
    refine vs_iload_n hC hl 3 dX1_agreesWithDisks_35 rfl rfl ?_
    obtain ⟨hi, hw⟩ := hw
    refine vs_iald hC hW 8 rfl (by decide) hi dX1_agreesWithDisks_36 ?_
    refine vs_aload_n hC hl 0 dX1_agreesWithDisks_37 rfl rfl ?_
    refine vs_iload_n hC hl 3 dX1_agreesWithDisks_38 rfl rfl ?_
    refine vs_callVI [.int (vs_I v4)] hC hW 0 rfl rfl vk_X1_countInSlots vm_X1_139 (c_X1_countInSlots l g a (wr) S v4 _ hw) rfl hl.1 rfl ⟨rfl, rfl⟩ ⟨Nat.le_of_ble_eq_true rfl, Nat.le_of_ble_eq_true rfl⟩ ⟨Nat.le_of_ble_eq_true rfl, Nat.le_of_ble_eq_true rfl⟩ (Nat.le_of_ble_eq_true rfl) dX1_agreesWithDisks_39 (fun r6 _ H locs hw hW => ?_)
    have hW : vs_Wd g A _ (vs_W1 g a S ++ wr) _ _ s := hW
    obtain ⟨hx, hw⟩ := hw
    obtain ⟨hy, hw⟩ := hw
    obtain ⟨hwt, hwf⟩ := hw
    refine vs_icmp_ne hC 49 hx hy dX1_agreesWithDisks_42 (by decide) (fun hc => ?_) (fun hc => ?_)
    · have hw := hwt hc
      clear hwt hwf hc
      refine vs_iconst hC dX1_agreesWithDisks_49 ?_
      refine vs_istore (L' := [(0, .ref (a 0)), (1, .int (vs_I r1)), (2, .int (vs_I v3)), (3, .int (vs_I v4)), (4, .int (vs_I r5)), (5, .int (vs_I 0))]) hC hl [1, 2, 3, 4, 5, 0] dX1_agreesWithDisks_50 (by decide) rfl (fun ls hl => ?_)
      refine vs_iload hC hl 5 dX1_agreesWithDisks_52 rfl ?_
      refine vs_if_eq hC 78 ⟨by decide, by decide⟩ dX1_agreesWithDisks_54 (by decide) (fun _ => ?_) (fun hc => absurd hc (by decide))
      refine vs_iconst hC dX1_agreesWithDisks_78 ?_
      exact vs_zret () hC hr hlk hW rfl ⟨Or.inl rfl, hw⟩ (Nat.le_of_ble_eq_true rfl) (Nat.le_of_ble_eq_true rfl) dX1_agreesWithDisks_79
    · have hw := hwf hc
      clear hwt hwf hc
      refine vs_iconst hC dX1_agreesWithDisks_45 ?_
      refine vs_goto hC 50 dX1_agreesWithDisks_46 (by decide) ?_
      refine vs_istore (L' := [(0, .ref (a 0)), (1, .int (vs_I r1)), (2, .int (vs_I v3)), (3, .int (vs_I v4)), (4, .int (vs_I r5)), (5, .int (vs_I 1))]) hC hl [1, 2, 3, 4, 5, 0] dX1_agreesWithDisks_50 (by decide) rfl (fun ls hl => ?_)
      refine vs_iload hC hl 5 dX1_agreesWithDisks_52 rfl ?_
      refine vs_if_eq hC 78 ⟨by decide, by decide⟩ dX1_agreesWithDisks_54 (by decide) (fun hc => absurd hc (by decide)) (fun _ => ?_)
      refine vs_iload hC hl 4 dX1_agreesWithDisks_57 rfl ?_
      refine vs_callSI [.int (vs_I r5)] hC hW vk_J6_bitCount_0f7a4 vm_X1_127 (c_J6_bitCount_0f7a4 l g (vs_W1 g a S ++ wr) r5 _ hw) rfl hl.1 rfl ⟨rfl, rfl⟩ ⟨Nat.le_of_ble_eq_true rfl, Nat.le_of_ble_eq_true rfl⟩ ⟨Nat.le_of_ble_eq_true rfl, Nat.le_of_ble_eq_true rfl⟩ (Nat.le_of_ble_eq_true rfl) dX1_agreesWithDisks_59 (fun r7 _ H locs hw hW => ?_)
      have hW : vs_Wd g A _ (vs_W1 g a S ++ wr) _ _ s := hW
      refine vs_aload_n hC hl 0 dX1_agreesWithDisks_62 rfl rfl ?_
      refine vs_get hC hW 0 rfl rfl vs_inX1 8 (by decide) vf_X1_35 rfl dX1_agreesWithDisks_63 ?_
      refine vs_iload_n hC hl 3 dX1_agreesWithDisks_66 rfl rfl ?_
      obtain ⟨hi, hw⟩ := hw
      refine vs_iald hC hW 8 rfl (by decide) hi dX1_agreesWithDisks_67 ?_
      obtain ⟨hx, hw⟩ := hw
      obtain ⟨hy, hw⟩ := hw
      obtain ⟨hwt, hwf⟩ := hw
      refine vs_icmp_ne hC 78 hx hy dX1_agreesWithDisks_68 (by decide) (fun hc => ?_) (fun hc => ?_)
      · have hw := hwt hc
        clear hwt hwf hc
        refine vs_iconst hC dX1_agreesWithDisks_78 ?_
        exact vs_zret () hC hr hlk hW rfl ⟨Or.inl rfl, hw⟩ (Nat.le_of_ble_eq_true rfl) (Nat.le_of_ble_eq_true rfl) dX1_agreesWithDisks_79
      · have hw := hwf hc
        clear hwt hwf hc
        refine vs_iload hC hl 4 dX1_agreesWithDisks_71 rfl ?_
        refine vs_iload_n hC hl 1 dX1_agreesWithDisks_73 rfl rfl ?_
        refine vs_iand hC dX1_agreesWithDisks_74 ?_
        obtain ⟨hx, hw⟩ := hw
        obtain ⟨hwt, hwf⟩ := hw
        refine vs_if_eq hC 80 hx dX1_agreesWithDisks_75 (by decide) (fun hc => ?_) (fun hc => ?_)
        · have hw := hwt hc
          clear hwt hwf hc
          refine vs_iinc (L' := [(0, .ref (a 0)), (1, .int (vs_I r1)), (2, .int (vs_I (v3 + 1))), (3, .int (vs_I v4)), (4, .int (vs_I r5)), (5, .int (vs_I 1))]) hC hl 2 [1, 2, 0, 3, 4, 5] dX1_agreesWithDisks_80 rfl (by decide) rfl (fun ls hl => ?_)
          refine vs_goto hC 9 dX1_agreesWithDisks_83 (by decide) ?_
          exact ih2 (v3 + 1) hw _ _ _ hW (lv_sub hl [0, 1, 2] rfl)
        · have hw := hwf hc
          clear hwt hwf hc
          refine vs_iconst hC dX1_agreesWithDisks_78 ?_
          exact vs_zret () hC hr hlk hW rfl ⟨Or.inl rfl, hw⟩ (Nat.le_of_ble_eq_true rfl) (Nat.le_of_ble_eq_true rfl) dX1_agreesWithDisks_79
