/-! the walks of class X0, by program -/
set_option maxHeartbeats 4000000 in
set_option maxRecDepth 100000 in
theorem c_J6_bitCount_0f7a4 (l : Launch) (g : vs_G) (Wo : va_W) (x0 : Int) (post : Int → Prop) (hw : wJ6_bitCount_0f7a4 x0 post) : vs_MI l yJ6_bitCount_0f7a4 (Cond.code yJ6_bitCount_0f7a4 cJ6_bitCount_0f7a4 1 (some .int) :: vs_ws) { frames := 0, cells := 0, slots := 0, locals := 0 } g [.int (vs_I x0)] (Wo) (fun (_ : Unit) => Wo) (fun v (_ : Unit) => post v) 0 0 := by
  refine vs_ofW (Qc := fun A => vs_QI g A (fun (_ : Unit) => Wo) (fun v (_ : Unit) => post v)) (by decide +kernel) (Nat.le_of_ble_eq_true rfl) (fun p e s m below meth c A ls hC hr hlk hW hl => ?_)
  have hC : CallFix p m c cJ6_bitCount_0f7a4 1 s _ vs_ws RJ6 := hC
  have hl : lv_has ls 1 [(0, .int (vs_I x0))] := hl
  unfold wJ6_bitCount_0f7a4 at hw
  refine vs_iload_n hC hl 0 dJ6_bitCount_0f7a4_0 rfl rfl ?_
  refine vs_iload_n hC hl 0 dJ6_bitCount_0f7a4_1 rfl rfl ?_
  refine vs_iconst hC dJ6_bitCount_0f7a4_2 ?_
  refine vs_iushr hC dJ6_bitCount_0f7a4_3 ?_
  refine vs_ldcw (n := 1431655765) hC dJ6_bitCount_0f7a4_4 vc_J6_265 (by decide +kernel) ?_
  refine vs_iand hC dJ6_bitCount_0f7a4_7 ?_
  refine vs_isub hC dJ6_bitCount_0f7a4_8 ?_
  refine vs_name (fun v1 hv1 => ?_)
  have hw := hw v1 hv1
  refine vs_istore_n (L' := [(0, .int (vs_I v1))]) hC hl [0] dJ6_bitCount_0f7a4_9 rfl (by decide) rfl (fun ls hl => ?_)
  refine vs_iload_n hC hl 0 dJ6_bitCount_0f7a4_10 rfl rfl ?_
  refine vs_ldcw (n := 858993459) hC dJ6_bitCount_0f7a4_11 vc_J6_266 (by decide +kernel) ?_
  refine vs_iand hC dJ6_bitCount_0f7a4_14 ?_
  refine vs_iload_n hC hl 0 dJ6_bitCount_0f7a4_15 rfl rfl ?_
  refine vs_iconst hC dJ6_bitCount_0f7a4_16 ?_
  refine vs_iushr hC dJ6_bitCount_0f7a4_17 ?_
  refine vs_ldcw (n := 858993459) hC dJ6_bitCount_0f7a4_18 vc_J6_266 (by decide +kernel) ?_
  refine vs_iand hC dJ6_bitCount_0f7a4_21 ?_
  refine vs_iadd hC dJ6_bitCount_0f7a4_22 ?_
  refine vs_name (fun v2 hv2 => ?_)
  have hw := hw v2 hv2
  refine vs_istore_n (L' := [(0, .int (vs_I v2))]) hC hl [0] dJ6_bitCount_0f7a4_23 rfl (by decide) rfl (fun ls hl => ?_)
  refine vs_iload_n hC hl 0 dJ6_bitCount_0f7a4_24 rfl rfl ?_
  refine vs_iload_n hC hl 0 dJ6_bitCount_0f7a4_25 rfl rfl ?_
  refine vs_iconst hC dJ6_bitCount_0f7a4_26 ?_
  refine vs_iushr hC dJ6_bitCount_0f7a4_27 ?_
  refine vs_iadd hC dJ6_bitCount_0f7a4_28 ?_
  refine vs_ldcw (n := 252645135) hC dJ6_bitCount_0f7a4_29 vc_J6_267 (by decide +kernel) ?_
  refine vs_iand hC dJ6_bitCount_0f7a4_32 ?_
  refine vs_name (fun v3 hv3 => ?_)
  have hw := hw v3 hv3
  refine vs_istore_n (L' := [(0, .int (vs_I v3))]) hC hl [0] dJ6_bitCount_0f7a4_33 rfl (by decide) rfl (fun ls hl => ?_)
  refine vs_iload_n hC hl 0 dJ6_bitCount_0f7a4_34 rfl rfl ?_
  refine vs_iload_n hC hl 0 dJ6_bitCount_0f7a4_35 rfl rfl ?_
  refine vs_bipush hC dJ6_bitCount_0f7a4_36 (by decide +kernel) ?_
  refine vs_iushr hC dJ6_bitCount_0f7a4_38 ?_
  refine vs_iadd hC dJ6_bitCount_0f7a4_39 ?_
  refine vs_name (fun v4 hv4 => ?_)
  have hw := hw v4 hv4
  refine vs_istore_n (L' := [(0, .int (vs_I v4))]) hC hl [0] dJ6_bitCount_0f7a4_40 rfl (by decide) rfl (fun ls hl => ?_)
  refine vs_iload_n hC hl 0 dJ6_bitCount_0f7a4_41 rfl rfl ?_
  refine vs_iload_n hC hl 0 dJ6_bitCount_0f7a4_42 rfl rfl ?_
  refine vs_bipush hC dJ6_bitCount_0f7a4_43 (by decide +kernel) ?_
  refine vs_iushr hC dJ6_bitCount_0f7a4_45 ?_
  refine vs_iadd hC dJ6_bitCount_0f7a4_46 ?_
  refine vs_name (fun v5 hv5 => ?_)
  have hw := hw v5 hv5
  refine vs_istore_n (L' := [(0, .int (vs_I v5))]) hC hl [0] dJ6_bitCount_0f7a4_47 rfl (by decide) rfl (fun ls hl => ?_)
  refine vs_iload_n hC hl 0 dJ6_bitCount_0f7a4_48 rfl rfl ?_
  refine vs_bipush hC dJ6_bitCount_0f7a4_49 (by decide +kernel) ?_
  refine vs_iand hC dJ6_bitCount_0f7a4_51 ?_
  exact vs_iret () hC hr hlk hW rfl hw (Nat.le_of_ble_eq_true rfl) (Nat.le_of_ble_eq_true rfl) dJ6_bitCount_0f7a4_52
set_option maxHeartbeats 4000000 in
set_option maxRecDepth 100000 in
theorem c_X0_admitTenant (l : Launch) (g : vs_G) (a : Nat → Nat) (wr : va_W) (S : vs_St) (x1 : Int) (post : Int → vs_St → Prop) (hw : wX0_admitTenant S x1 post) : vs_MI l yX0_admitTenant (Cond.code yX0_admitTenant cX0_admitTenant 2 (some .int) :: vs_ws) { frames := 0, cells := 0, slots := 0, locals := 0 } g [.ref (a 0), .int (vs_I x1)] (vs_W0 g a S ++ wr) (fun (S' : vs_St) => vs_W0 g a S' ++ wr) post 0 0 := by
  refine vs_ofW (Qc := fun A => vs_QI g A (fun (S' : vs_St) => vs_W0 g a S' ++ wr) post) (by decide +kernel) (Nat.le_of_ble_eq_true rfl) (fun p e s m below meth c A ls hC hr hlk hW hl => ?_)
  have hC : CallFix p m c cX0_admitTenant 2 s _ vs_ws RX0 := hC
  have hl : lv_has ls 2 [(0, .ref (a 0)), (1, .int (vs_I x1))] := hl
  unfold wX0_admitTenant at hw
  refine vs_aload_n hC hl 0 dX0_admitTenant_0 rfl rfl ?_
  refine vs_get hC hW 0 rfl rfl vs_inX0 1 (by decide) vf_X0_9 rfl dX0_admitTenant_1 ?_
  refine vs_aload_n hC hl 0 dX0_admitTenant_4 rfl rfl ?_
  refine vs_get hC hW 0 rfl rfl vs_inX0 0 (by decide) vf_X0_47 rfl dX0_admitTenant_5 ?_
  refine vs_iload_n hC hl 1 dX0_admitTenant_8 rfl rfl ?_
  obtain ⟨hi, hw⟩ := hw
  obtain ⟨S1, hS1⟩ : ∃ z : vs_St, z = vs_st S 1 (S 0 0) x1 := ⟨_, rfl⟩
  have hw := hw S1 hS1
  refine vs_iast (Wo' := vs_W0 g a S1 ++ wr) hC hW 1 rfl (by decide) hi (by rw [hS1]; rfl) dX0_admitTenant_9 (fun H locs hW => ?_)
  refine vs_aload_n hC hl 0 dX0_admitTenant_10 rfl rfl ?_
  refine vs_dup hC dX0_admitTenant_11 rfl ?_
  refine vs_get hC hW 0 rfl rfl vs_inX0 0 (by decide) vf_X0_47 rfl dX0_admitTenant_12 ?_
  refine vs_dup_x1 hC dX0_admitTenant_15 rfl rfl ?_
  refine vs_iconst hC dX0_admitTenant_16 ?_
  refine vs_iadd hC dX0_admitTenant_17 ?_
  obtain ⟨S2, hS2⟩ : ∃ z : vs_St, z = vs_st S1 0 0 ((S1 0 0) + 1) := ⟨_, rfl⟩
  have hw := hw S2 hS2
  refine vs_put (Wo' := vs_W0 g a S2 ++ wr) hC hW 0 rfl rfl vs_inX0 tyX0_ok nmX0 0 (by decide) vf_X0_47 rfl rfl (Nat.le_of_ble_eq_true rfl) (by rw [hS2]; rfl) dX0_admitTenant_18 (fun H locs hW => ?_)
  exact vs_iret (S2) hC hr hlk hW rfl hw (Nat.le_of_ble_eq_true rfl) (Nat.le_of_ble_eq_true rfl) dX0_admitTenant_21
set_option maxHeartbeats 4000000 in
set_option maxRecDepth 100000 in
theorem c_X0_enqueue (l : Launch) (g : vs_G) (a : Nat → Nat) (wr : va_W) (S : vs_St) (x1 : Int) (x2 : Int) (x3 : Int) (x4 : Int) (post : Int → vs_St → Prop) (hw : wX0_enqueue S x1 x2 x3 x4 post) : vs_MI l yX0_enqueue (Cond.code yX0_enqueue cX0_enqueue 6 (some .int) :: vs_ws) { frames := 0, cells := 0, slots := 0, locals := 0 } g [.ref (a 0), .int (vs_I x1), .int (vs_I x2), .int (vs_I x3), .int (vs_I x4)] (vs_W0 g a S ++ wr) (fun (S' : vs_St) => vs_W0 g a S' ++ wr) post 0 0 := by
  refine vs_ofW (Qc := fun A => vs_QI g A (fun (S' : vs_St) => vs_W0 g a S' ++ wr) post) (by decide +kernel) (Nat.le_of_ble_eq_true rfl) (fun p e s m below meth c A ls hC hr hlk hW hl => ?_)
  have hC : CallFix p m c cX0_enqueue 6 s _ vs_ws RX0 := hC
  have hl : lv_has ls 6 [(0, .ref (a 0)), (1, .int (vs_I x1)), (2, .int (vs_I x2)), (3, .int (vs_I x3)), (4, .int (vs_I x4))] := hl
  unfold wX0_enqueue at hw
  refine vs_aload_n hC hl 0 dX0_enqueue_0 rfl rfl ?_
  refine vs_get hC hW 0 rfl rfl vs_inX0 8 (by decide) vf_X0_51 rfl dX0_enqueue_1 ?_
  refine vs_name (fun v1 hv1 => ?_)
  have hw := hw v1 hv1
  refine vs_istore (L' := [(0, .ref (a 0)), (1, .int (vs_I x1)), (2, .int (vs_I x2)), (3, .int (vs_I x3)), (4, .int (vs_I x4)), (5, .int (vs_I v1))]) hC hl [1, 2, 3, 4, 5, 0] dX0_enqueue_4 (by decide) rfl (fun ls hl => ?_)
  refine vs_aload_n hC hl 0 dX0_enqueue_6 rfl rfl ?_
  refine vs_get hC hW 0 rfl rfl vs_inX0 10 (by decide) vf_X0_33 rfl dX0_enqueue_7 ?_
  refine vs_iload hC hl 5 dX0_enqueue_10 rfl ?_
  refine vs_iload_n hC hl 2 dX0_enqueue_12 rfl rfl ?_
  obtain ⟨hi, hw⟩ := hw
  obtain ⟨S2, hS2⟩ : ∃ z : vs_St, z = vs_st S 10 v1 x2 := ⟨_, rfl⟩
  have hw := hw S2 hS2
  refine vs_iast (Wo' := vs_W0 g a S2 ++ wr) hC hW 8 rfl (by decide) hi (by rw [hS2]; rfl) dX0_enqueue_13 (fun H locs hW => ?_)
  refine vs_aload_n hC hl 0 dX0_enqueue_14 rfl rfl ?_
  refine vs_get hC hW 0 rfl rfl vs_inX0 11 (by decide) vf_X0_36 rfl dX0_enqueue_15 ?_
  refine vs_iload hC hl 5 dX0_enqueue_18 rfl ?_
  refine vs_iload_n hC hl 3 dX0_enqueue_20 rfl rfl ?_
  obtain ⟨hi, hw⟩ := hw
  obtain ⟨hy, hw⟩ := hw
  obtain ⟨S3, hS3⟩ : ∃ z : vs_St, z = vs_st S2 11 v1 x3 := ⟨_, rfl⟩
  have hw := hw S3 hS3
  refine vs_zast (Wo' := vs_W0 g a S3 ++ wr) hC hW 9 rfl (by decide) hi hy (by rw [hS3]; rfl) dX0_enqueue_21 (fun H locs hW => ?_)
  refine vs_aload_n hC hl 0 dX0_enqueue_22 rfl rfl ?_
  refine vs_get hC hW 0 rfl rfl vs_inX0 12 (by decide) vf_X0_40 rfl dX0_enqueue_23 ?_
  refine vs_iload hC hl 5 dX0_enqueue_26 rfl ?_
  refine vs_iload hC hl 4 dX0_enqueue_28 rfl ?_
  obtain ⟨hi, hw⟩ := hw
  obtain ⟨S4, hS4⟩ : ∃ z : vs_St, z = vs_st S3 12 v1 x4 := ⟨_, rfl⟩
  have hw := hw S4 hS4
  refine vs_iast (Wo' := vs_W0 g a S4 ++ wr) hC hW 10 rfl (by decide) hi (by rw [hS4]; rfl) dX0_enqueue_30 (fun H locs hW => ?_)
  refine vs_aload_n hC hl 0 dX0_enqueue_31 rfl rfl ?_
  refine vs_get hC hW 0 rfl rfl vs_inX0 13 (by decide) vf_X0_43 rfl dX0_enqueue_32 ?_
  refine vs_iload hC hl 5 dX0_enqueue_35 rfl ?_
  refine vs_bipush hC dX0_enqueue_37 (by decide +kernel) ?_
  obtain ⟨hi, hw⟩ := hw
  obtain ⟨S5, hS5⟩ : ∃ z : vs_St, z = vs_st S4 13 v1 119 := ⟨_, rfl⟩
  have hw := hw S5 hS5
  refine vs_cast (Wo' := vs_W0 g a S5 ++ wr) hC hW 11 rfl (by decide) hi (by decide) (by rw [hS5]; rfl) dX0_enqueue_39 (fun H locs hW => ?_)
  refine vs_aload_n hC hl 0 dX0_enqueue_40 rfl rfl ?_
  refine vs_get hC hW 0 rfl rfl vs_inX0 7 (by decide) vf_X0_30 rfl dX0_enqueue_41 ?_
  refine vs_iload_n hC hl 1 dX0_enqueue_44 rfl rfl ?_
  refine vs_sipush hC dX0_enqueue_45 (by decide +kernel) ?_
  refine vs_imul hC dX0_enqueue_48 ?_
  refine vs_aload_n hC hl 0 dX0_enqueue_49 rfl rfl ?_
  refine vs_get hC hW 0 rfl rfl vs_inX0 2 (by decide) vf_X0_15 rfl dX0_enqueue_50 ?_
  refine vs_iload_n hC hl 1 dX0_enqueue_53 rfl rfl ?_
  obtain ⟨hi, hw⟩ := hw
  refine vs_iald hC hW 2 rfl (by decide) hi dX0_enqueue_54 ?_
  refine vs_iadd hC dX0_enqueue_55 ?_
  refine vs_iload hC hl 5 dX0_enqueue_56 rfl ?_
  obtain ⟨hi, hw⟩ := hw
  obtain ⟨S6, hS6⟩ : ∃ z : vs_St, z = vs_st S5 7 ((x1 * 300) + (S5 2 x1)) v1 := ⟨_, rfl⟩
  have hw := hw S6 hS6
  refine vs_iast (Wo' := vs_W0 g a S6 ++ wr) hC hW 7 rfl (by decide) hi (by rw [hS6]; rfl) dX0_enqueue_58 (fun H locs hW => ?_)
  refine vs_aload_n hC hl 0 dX0_enqueue_59 rfl rfl ?_
  refine vs_get hC hW 0 rfl rfl vs_inX0 2 (by decide) vf_X0_15 rfl dX0_enqueue_60 ?_
  refine vs_iload_n hC hl 1 dX0_enqueue_63 rfl rfl ?_
  refine vs_dup2 hC dX0_enqueue_64 rfl rfl ?_
  obtain ⟨hi, hw⟩ := hw
  refine vs_iald hC hW 2 rfl (by decide) hi dX0_enqueue_65 ?_
  refine vs_iconst hC dX0_enqueue_66 ?_
  refine vs_iadd hC dX0_enqueue_67 ?_
  obtain ⟨hi, hw⟩ := hw
  obtain ⟨S7, hS7⟩ : ∃ z : vs_St, z = vs_st S6 2 x1 ((S6 2 x1) + 1) := ⟨_, rfl⟩
  have hw := hw S7 hS7
  refine vs_iast (Wo' := vs_W0 g a S7 ++ wr) hC hW 2 rfl (by decide) hi (by rw [hS7]; rfl) dX0_enqueue_68 (fun H locs hW => ?_)
  refine vs_aload_n hC hl 0 dX0_enqueue_69 rfl rfl ?_
  refine vs_dup hC dX0_enqueue_70 rfl ?_
  refine vs_get hC hW 0 rfl rfl vs_inX0 9 (by decide) vf_X0_54 rfl dX0_enqueue_71 ?_
  refine vs_iconst hC dX0_enqueue_74 ?_
  refine vs_iadd hC dX0_enqueue_75 ?_
  obtain ⟨S8, hS8⟩ : ∃ z : vs_St, z = vs_st S7 9 0 ((S7 9 0) + 1) := ⟨_, rfl⟩
  have hw := hw S8 hS8
  refine vs_put (Wo' := vs_W0 g a S8 ++ wr) hC hW 0 rfl rfl vs_inX0 tyX0_ok nmX0 9 (by decide) vf_X0_54 rfl rfl (Nat.le_of_ble_eq_true rfl) (by rw [hS8]; rfl) dX0_enqueue_76 (fun H locs hW => ?_)
  refine vs_aload_n hC hl 0 dX0_enqueue_79 rfl rfl ?_
  refine vs_dup hC dX0_enqueue_80 rfl ?_
  refine vs_get hC hW 0 rfl rfl vs_inX0 8 (by decide) vf_X0_51 rfl dX0_enqueue_81 ?_
  refine vs_iconst hC dX0_enqueue_84 ?_
  refine vs_iadd hC dX0_enqueue_85 ?_
  obtain ⟨S9, hS9⟩ : ∃ z : vs_St, z = vs_st S8 8 0 ((S8 8 0) + 1) := ⟨_, rfl⟩
  have hw := hw S9 hS9
  refine vs_put (Wo' := vs_W0 g a S9 ++ wr) hC hW 0 rfl rfl vs_inX0 tyX0_ok nmX0 8 (by decide) vf_X0_51 rfl rfl (Nat.le_of_ble_eq_true rfl) (by rw [hS9]; rfl) dX0_enqueue_86 (fun H locs hW => ?_)
  refine vs_iload hC hl 5 dX0_enqueue_89 rfl ?_
  exact vs_iret (S9) hC hr hlk hW rfl hw (Nat.le_of_ble_eq_true rfl) (Nat.le_of_ble_eq_true rfl) dX0_enqueue_91
set_option maxHeartbeats 4000000 in
set_option maxRecDepth 100000 in
theorem c_X0_countWaiting (l : Launch) (g : vs_G) (a : Nat → Nat) (wr : va_W) (S : vs_St) (x1 : Int) (post : Int → Prop) (hw : wX0_countWaiting S x1 post) : vs_MI l yX0_countWaiting (Cond.code yX0_countWaiting cX0_countWaiting 2 (some .int) :: vs_ws) { frames := 0, cells := 0, slots := 0, locals := 0 } g [.ref (a 0), .int (vs_I x1)] (vs_W0 g a S ++ wr) (fun (_ : Unit) => vs_W0 g a S ++ wr) (fun v (_ : Unit) => post v) 0 0 := by
  refine vs_ofW (Qc := fun A => vs_QI g A (fun (_ : Unit) => vs_W0 g a S ++ wr) (fun v (_ : Unit) => post v)) (by decide +kernel) (Nat.le_of_ble_eq_true rfl) (fun p e s m below meth c A ls hC hr hlk hW hl => ?_)
  have hC : CallFix p m c cX0_countWaiting 2 s _ vs_ws RX0 := hC
  have hl : lv_has ls 2 [(0, .ref (a 0)), (1, .int (vs_I x1))] := hl
  unfold wX0_countWaiting at hw
  refine vs_aload_n hC hl 0 dX0_countWaiting_0 rfl rfl ?_
  refine vs_get hC hW 0 rfl rfl vs_inX0 2 (by decide) vf_X0_15 rfl dX0_countWaiting_1 ?_
  refine vs_iload_n hC hl 1 dX0_countWaiting_4 rfl rfl ?_
  obtain ⟨hi, hw⟩ := hw
  refine vs_iald hC hW 2 rfl (by decide) hi dX0_countWaiting_5 ?_
  refine vs_aload_n hC hl 0 dX0_countWaiting_6 rfl rfl ?_
  refine vs_get hC hW 0 rfl rfl vs_inX0 3 (by decide) vf_X0_18 rfl dX0_countWaiting_7 ?_
  refine vs_iload_n hC hl 1 dX0_countWaiting_10 rfl rfl ?_
  obtain ⟨hi, hw⟩ := hw
  refine vs_iald hC hW 3 rfl (by decide) hi dX0_countWaiting_11 ?_
  refine vs_isub hC dX0_countWaiting_12 ?_
  exact vs_iret () hC hr hlk hW rfl hw (Nat.le_of_ble_eq_true rfl) (Nat.le_of_ble_eq_true rfl) dX0_countWaiting_13
set_option maxHeartbeats 4000000 in
set_option maxRecDepth 100000 in
theorem c_X0_oldestWaiting (l : Launch) (g : vs_G) (a : Nat → Nat) (wr : va_W) (S : vs_St) (x1 : Int) (post : Int → Prop) (hw : wX0_oldestWaiting S x1 post) : vs_MI l yX0_oldestWaiting (Cond.code yX0_oldestWaiting cX0_oldestWaiting 2 (some .int) :: vs_ws) { frames := 0, cells := 0, slots := 0, locals := 0 } g [.ref (a 0), .int (vs_I x1)] (vs_W0 g a S ++ wr) (fun (_ : Unit) => vs_W0 g a S ++ wr) (fun v (_ : Unit) => post v) 0 0 := by
  refine vs_ofW (Qc := fun A => vs_QI g A (fun (_ : Unit) => vs_W0 g a S ++ wr) (fun v (_ : Unit) => post v)) (by decide +kernel) (Nat.le_of_ble_eq_true rfl) (fun p e s m below meth c A ls hC hr hlk hW hl => ?_)
  have hC : CallFix p m c cX0_oldestWaiting 2 s _ vs_ws RX0 := hC
  have hl : lv_has ls 2 [(0, .ref (a 0)), (1, .int (vs_I x1))] := hl
  unfold wX0_oldestWaiting at hw
  refine vs_aload_n hC hl 0 dX0_oldestWaiting_0 rfl rfl ?_
  refine vs_get hC hW 0 rfl rfl vs_inX0 7 (by decide) vf_X0_30 rfl dX0_oldestWaiting_1 ?_
  refine vs_iload_n hC hl 1 dX0_oldestWaiting_4 rfl rfl ?_
  refine vs_sipush hC dX0_oldestWaiting_5 (by decide +kernel) ?_
  refine vs_imul hC dX0_oldestWaiting_8 ?_
  refine vs_aload_n hC hl 0 dX0_oldestWaiting_9 rfl rfl ?_
  refine vs_get hC hW 0 rfl rfl vs_inX0 3 (by decide) vf_X0_18 rfl dX0_oldestWaiting_10 ?_
  refine vs_iload_n hC hl 1 dX0_oldestWaiting_13 rfl rfl ?_
  obtain ⟨hi, hw⟩ := hw
  refine vs_iald hC hW 3 rfl (by decide) hi dX0_oldestWaiting_14 ?_
  refine vs_iadd hC dX0_oldestWaiting_15 ?_
  obtain ⟨hi, hw⟩ := hw
  refine vs_iald hC hW 7 rfl (by decide) hi dX0_oldestWaiting_16 ?_
  exact vs_iret () hC hr hlk hW rfl hw (Nat.le_of_ble_eq_true rfl) (Nat.le_of_ble_eq_true rfl) dX0_oldestWaiting_17
set_option maxHeartbeats 4000000 in
set_option maxRecDepth 100000 in
theorem c_X0_markServed (l : Launch) (g : vs_G) (a : Nat → Nat) (wr : va_W) (S : vs_St) (x1 : Int) (x2 : Int) (x3 : Int) (post : vs_St → Prop) (hw : wX0_markServed S x1 x2 x3 post) : vs_MV l yX0_markServed (Cond.code yX0_markServed cX0_markServed 4 (none) :: vs_ws) { frames := 0, cells := 0, slots := 0, locals := 0 } g [.ref (a 0), .int (vs_I x1), .int (vs_I x2), .int (vs_I x3)] (vs_W0 g a S ++ wr) (fun (S' : vs_St) => vs_W0 g a S' ++ wr) post 0 0 := by
  refine vs_ofW (Qc := fun A => vs_QV g A (fun (S' : vs_St) => vs_W0 g a S' ++ wr) post) (by decide +kernel) (Nat.le_of_ble_eq_true rfl) (fun p e s m below meth c A ls hC hr hlk hW hl => ?_)
  have hC : CallFix p m c cX0_markServed 4 s _ vs_ws RX0 := hC
  have hl : lv_has ls 4 [(0, .ref (a 0)), (1, .int (vs_I x1)), (2, .int (vs_I x2)), (3, .int (vs_I x3))] := hl
  unfold wX0_markServed at hw
  refine vs_aload_n hC hl 0 dX0_markServed_0 rfl rfl ?_
  refine vs_get hC hW 0 rfl rfl vs_inX0 13 (by decide) vf_X0_43 rfl dX0_markServed_1 ?_
  refine vs_iload_n hC hl 2 dX0_markServed_4 rfl rfl ?_
  refine vs_iload_n hC hl 3 dX0_markServed_5 rfl rfl ?_
  obtain ⟨hx, hw⟩ := hw
  obtain ⟨hwt, hwf⟩ := hw
  refine vs_if_eq hC 14 hx dX0_markServed_6 (by decide) (fun hc => ?_) (fun hc => ?_)
  · have hw := hwt hc
    clear hwt hwf hc
    refine vs_bipush hC dX0_markServed_14 (by decide +kernel) ?_
    obtain ⟨hi, hw⟩ := hw
    obtain ⟨S1, hS1⟩ : ∃ z : vs_St, z = vs_st S 13 x2 120 := ⟨_, rfl⟩
    have hw := hw S1 hS1
    refine vs_cast (Wo' := vs_W0 g a S1 ++ wr) hC hW 11 rfl (by decide) hi (by decide) (by rw [hS1]; rfl) dX0_markServed_16 (fun H locs hW => ?_)
    refine vs_aload_n hC hl 0 dX0_markServed_17 rfl rfl ?_
    refine vs_get hC hW 0 rfl rfl vs_inX0 3 (by decide) vf_X0_18 rfl dX0_markServed_18 ?_
    refine vs_iload_n hC hl 1 dX0_markServed_21 rfl rfl ?_
    refine vs_dup2 hC dX0_markServed_22 rfl rfl ?_
    obtain ⟨hi, hw⟩ := hw
    refine vs_iald hC hW 3 rfl (by decide) hi dX0_markServed_23 ?_
    refine vs_iconst hC dX0_markServed_24 ?_
    refine vs_iadd hC dX0_markServed_25 ?_
    obtain ⟨hi, hw⟩ := hw
    obtain ⟨S2, hS2⟩ : ∃ z : vs_St, z = vs_st S1 3 x1 ((S1 3 x1) + 1) := ⟨_, rfl⟩
    have hw := hw S2 hS2
    refine vs_iast (Wo' := vs_W0 g a S2 ++ wr) hC hW 3 rfl (by decide) hi (by rw [hS2]; rfl) dX0_markServed_26 (fun H locs hW => ?_)
    refine vs_aload_n hC hl 0 dX0_markServed_27 rfl rfl ?_
    refine vs_dup hC dX0_markServed_28 rfl ?_
    refine vs_get hC hW 0 rfl rfl vs_inX0 9 (by decide) vf_X0_54 rfl dX0_markServed_29 ?_
    refine vs_iconst hC dX0_markServed_32 ?_
    refine vs_isub hC dX0_markServed_33 ?_
    obtain ⟨S3, hS3⟩ : ∃ z : vs_St, z = vs_st S2 9 0 ((S2 9 0) - 1) := ⟨_, rfl⟩
    have hw := hw S3 hS3
    refine vs_put (Wo' := vs_W0 g a S3 ++ wr) hC hW 0 rfl rfl vs_inX0 tyX0_ok nmX0 9 (by decide) vf_X0_54 rfl rfl (Nat.le_of_ble_eq_true rfl) (by rw [hS3]; rfl) dX0_markServed_34 (fun H locs hW => ?_)
    exact vs_vret (S3) hC hr hlk hW rfl hw (Nat.le_of_ble_eq_true rfl) (Nat.le_of_ble_eq_true rfl) dX0_markServed_37
  · have hw := hwf hc
    clear hwt hwf hc
    refine vs_bipush hC dX0_markServed_9 (by decide +kernel) ?_
    refine vs_goto hC 16 dX0_markServed_11 (by decide) ?_
    obtain ⟨hi, hw⟩ := hw
    obtain ⟨S4, hS4⟩ : ∃ z : vs_St, z = vs_st S 13 x2 100 := ⟨_, rfl⟩
    have hw := hw S4 hS4
    refine vs_cast (Wo' := vs_W0 g a S4 ++ wr) hC hW 11 rfl (by decide) hi (by decide) (by rw [hS4]; rfl) dX0_markServed_16 (fun H locs hW => ?_)
    refine vs_aload_n hC hl 0 dX0_markServed_17 rfl rfl ?_
    refine vs_get hC hW 0 rfl rfl vs_inX0 3 (by decide) vf_X0_18 rfl dX0_markServed_18 ?_
    refine vs_iload_n hC hl 1 dX0_markServed_21 rfl rfl ?_
    refine vs_dup2 hC dX0_markServed_22 rfl rfl ?_
    obtain ⟨hi, hw⟩ := hw
    refine vs_iald hC hW 3 rfl (by decide) hi dX0_markServed_23 ?_
    refine vs_iconst hC dX0_markServed_24 ?_
    refine vs_iadd hC dX0_markServed_25 ?_
    obtain ⟨hi, hw⟩ := hw
    obtain ⟨S5, hS5⟩ : ∃ z : vs_St, z = vs_st S4 3 x1 ((S4 3 x1) + 1) := ⟨_, rfl⟩
    have hw := hw S5 hS5
    refine vs_iast (Wo' := vs_W0 g a S5 ++ wr) hC hW 3 rfl (by decide) hi (by rw [hS5]; rfl) dX0_markServed_26 (fun H locs hW => ?_)
    refine vs_aload_n hC hl 0 dX0_markServed_27 rfl rfl ?_
    refine vs_dup hC dX0_markServed_28 rfl ?_
    refine vs_get hC hW 0 rfl rfl vs_inX0 9 (by decide) vf_X0_54 rfl dX0_markServed_29 ?_
    refine vs_iconst hC dX0_markServed_32 ?_
    refine vs_isub hC dX0_markServed_33 ?_
    obtain ⟨S6, hS6⟩ : ∃ z : vs_St, z = vs_st S5 9 0 ((S5 9 0) - 1) := ⟨_, rfl⟩
    have hw := hw S6 hS6
    refine vs_put (Wo' := vs_W0 g a S6 ++ wr) hC hW 0 rfl rfl vs_inX0 tyX0_ok nmX0 9 (by decide) vf_X0_54 rfl rfl (Nat.le_of_ble_eq_true rfl) (by rw [hS6]; rfl) dX0_markServed_34 (fun H locs hW => ?_)
    exact vs_vret (S6) hC hr hlk hW rfl hw (Nat.le_of_ble_eq_true rfl) (Nat.le_of_ble_eq_true rfl) dX0_markServed_37
set_option maxHeartbeats 4000000 in
set_option maxRecDepth 100000 in
theorem c_X0_beginTick (l : Launch) (g : vs_G) (a : Nat → Nat) (wr : va_W) (S : vs_St) (post : vs_St → Prop) (hw : wX0_beginTick S post) : vs_MV l yX0_beginTick (Cond.code yX0_beginTick cX0_beginTick 2 (none) :: vs_ws) { frames := 1, cells := 0, slots := 0, locals := 21 } g [.ref (a 0)] (vs_W0 g a S ++ wr) (fun (S' : vs_St) => vs_W0 g a S' ++ wr) post 0 0 := by
  refine vs_ofW (Qc := fun A => vs_QV g A (fun (S' : vs_St) => vs_W0 g a S' ++ wr) post) (by decide +kernel) (Nat.le_of_ble_eq_true rfl) (fun p e s m below meth c A ls hC hr hlk hW hl => ?_)
  have hC : CallFix p m c cX0_beginTick 2 s _ vs_ws RX0 := hC
  have hl : lv_has ls 2 [(0, .ref (a 0))] := hl
  unfold wX0_beginTick at hw
  refine vs_iconst hC dX0_beginTick_0 ?_
  refine vs_istore_n (L' := [(0, .ref (a 0)), (1, .int (vs_I 0))]) hC hl [1, 0] dX0_beginTick_1 rfl (by decide) rfl (fun ls hl => ?_)
  obtain ⟨J1, μ1, hJ, hB1⟩ := hw
  refine vs_loop (V := Int × vs_St) (J := fun v => J1 v.1 v.2) (μ := fun v => μ1 v.1 v.2) (fun v => vs_W0 g a v.2 ++ wr) (fun v => [(0, .ref (a 0)), (1, .int (vs_I v.1))]) (fun v hJ ih1 H locs ls hW hl => ?_) (0, S) hJ hW (lv_sub hl [0, 1] rfl)
  obtain ⟨v2, S3⟩ := v
  have hw := hB1 v2 S3 hJ
  have hW : vs_Wd g A _ (vs_W0 g a S3 ++ wr) _ _ s := hW
  have hl : lv_has ls 2 [(0, .ref (a 0)), (1, .int (vs_I v2))] := hl
  clear hJ
  unfold lX0_beginTick_2 at hw
  refine vs_iload_n hC hl 1 dX0_beginTick_2 rfl rfl ?_
  refine vs_aload_n hC hl 0 dX0_beginTick_3 rfl rfl ?_
  refine vs_get hC hW 0 rfl rfl vs_inX0 0 (by decide) vf_X0_47 rfl dX0_beginTick_4 ?_
  obtain ⟨hx, hw⟩ := hw
  obtain ⟨hy, hw⟩ := hw
  obtain ⟨hwt, hwf⟩ := hw
  refine vs_icmp_ge hC 43 hx hy dX0_beginTick_7 (by decide) (fun hc => ?_) (fun hc => ?_)
  · have hw := hwt hc
    clear hwt hwf hc
    exact vs_vret (S3) hC hr hlk hW rfl hw (Nat.le_of_ble_eq_true rfl) (Nat.le_of_ble_eq_true rfl) dX0_beginTick_43
  · have hw := hwf hc
    clear hwt hwf hc
    refine vs_aload_n hC hl 0 dX0_beginTick_10 rfl rfl ?_
    refine vs_get hC hW 0 rfl rfl vs_inX0 4 (by decide) vf_X0_21 rfl dX0_beginTick_11 ?_
    refine vs_iload_n hC hl 1 dX0_beginTick_14 rfl rfl ?_
    refine vs_aload_n hC hl 0 dX0_beginTick_15 rfl rfl ?_
    refine vs_get hC hW 0 rfl rfl vs_inX0 3 (by decide) vf_X0_18 rfl dX0_beginTick_16 ?_
    refine vs_iload_n hC hl 1 dX0_beginTick_19 rfl rfl ?_
    obtain ⟨hi, hw⟩ := hw
    refine vs_iald hC hW 3 rfl (by decide) hi dX0_beginTick_20 ?_
    refine vs_aload_n hC hl 0 dX0_beginTick_21 rfl rfl ?_
    refine vs_get hC hW 0 rfl rfl vs_inX0 1 (by decide) vf_X0_9 rfl dX0_beginTick_22 ?_
    refine vs_iload_n hC hl 1 dX0_beginTick_25 rfl rfl ?_
    obtain ⟨hi, hw⟩ := hw
    refine vs_iald hC hW 1 rfl (by decide) hi dX0_beginTick_26 ?_
    refine vs_aload_n hC hl 0 dX0_beginTick_27 rfl rfl ?_
    refine vs_iload_n hC hl 1 dX0_beginTick_28 rfl rfl ?_
    refine vs_callVI [.int (vs_I v2)] hC hW 0 rfl rfl vk_X0_countWaiting vm_X0_57 (c_X0_countWaiting l g a (wr) S3 v2 _ hw) rfl hl.1 rfl ⟨rfl, rfl⟩ ⟨Nat.le_of_ble_eq_true rfl, Nat.le_of_ble_eq_true rfl⟩ ⟨Nat.le_of_ble_eq_true rfl, Nat.le_of_ble_eq_true rfl⟩ (Nat.le_of_ble_eq_true rfl) dX0_beginTick_29 (fun r4 _ H locs hw hW => ?_)
    have hW : vs_Wd g A _ (vs_W0 g a S3 ++ wr) _ _ s := hW
    obtain ⟨hx, hw⟩ := hw
    obtain ⟨hy, hw⟩ := hw
    refine vs_mmin hC hx hy hl.1 vm_X0_61 (Nat.le_of_ble_eq_true rfl) (Nat.le_of_ble_eq_true rfl) (Nat.le_of_ble_eq_true rfl) (Nat.le_of_ble_eq_true rfl) dX0_beginTick_32 ?_
    refine vs_iadd hC dX0_beginTick_35 ?_
    obtain ⟨hi, hw⟩ := hw
    obtain ⟨S5, hS5⟩ : ∃ z : vs_St, z = vs_st S3 4 v2 ((S3 3 v2) + (min (S3 1 v2) r4)) := ⟨_, rfl⟩
    have hw := hw S5 hS5
    refine vs_iast (Wo' := vs_W0 g a S5 ++ wr) hC hW 4 rfl (by decide) hi (by rw [hS5]; rfl) dX0_beginTick_36 (fun H locs hW => ?_)
    refine vs_iinc (L' := [(0, .ref (a 0)), (1, .int (vs_I (v2 + 1)))]) hC hl 1 [1, 0] dX0_beginTick_37 rfl (by decide) rfl (fun ls hl => ?_)
    refine vs_goto hC 2 dX0_beginTick_40 (by decide) ?_
    exact ih1 (v2 + 1, S5) hw _ _ _ hW (lv_sub hl [0, 1] rfl)
set_option maxHeartbeats 4000000 in
set_option maxRecDepth 100000 in
theorem c_X0_giveCredits (l : Launch) (g : vs_G) (a : Nat → Nat) (wr : va_W) (S : vs_St) (post : vs_St → Prop) (hw : wX0_giveCredits S post) : vs_MV l yX0_giveCredits (Cond.code yX0_giveCredits cX0_giveCredits 3 (none) :: vs_ws) { frames := 0, cells := 0, slots := 0, locals := 0 } g [.ref (a 0)] (vs_W0 g a S ++ wr) (fun (S' : vs_St) => vs_W0 g a S' ++ wr) post 0 0 := by
  refine vs_ofW (Qc := fun A => vs_QV g A (fun (S' : vs_St) => vs_W0 g a S' ++ wr) post) (by decide +kernel) (Nat.le_of_ble_eq_true rfl) (fun p e s m below meth c A ls hC hr hlk hW hl => ?_)
  have hC : CallFix p m c cX0_giveCredits 3 s _ vs_ws RX0 := hC
  have hl : lv_has ls 3 [(0, .ref (a 0))] := hl
  unfold wX0_giveCredits at hw
  refine vs_iconst hC dX0_giveCredits_0 ?_
  refine vs_istore_n (L' := [(0, .ref (a 0)), (1, .int (vs_I 0))]) hC hl [1, 0] dX0_giveCredits_1 rfl (by decide) rfl (fun ls hl => ?_)
  obtain ⟨J1, μ1, hJ, hB1⟩ := hw
  refine vs_loop (V := Int × vs_St) (J := fun v => J1 v.1 v.2) (μ := fun v => μ1 v.1 v.2) (fun v => vs_W0 g a v.2 ++ wr) (fun v => [(0, .ref (a 0)), (1, .int (vs_I v.1))]) (fun v hJ ih1 H locs ls hW hl => ?_) (0, S) hJ hW (lv_sub hl [0, 1] rfl)
  obtain ⟨v2, S3⟩ := v
  have hw := hB1 v2 S3 hJ
  have hW : vs_Wd g A _ (vs_W0 g a S3 ++ wr) _ _ s := hW
  have hl : lv_has ls 3 [(0, .ref (a 0)), (1, .int (vs_I v2))] := hl
  clear hJ
  unfold lX0_giveCredits_2 at hw
  refine vs_iload_n hC hl 1 dX0_giveCredits_2 rfl rfl ?_
  refine vs_aload_n hC hl 0 dX0_giveCredits_3 rfl rfl ?_
  refine vs_get hC hW 0 rfl rfl vs_inX0 0 (by decide) vf_X0_47 rfl dX0_giveCredits_4 ?_
  obtain ⟨hx, hw⟩ := hw
  obtain ⟨hy, hw⟩ := hw
  obtain ⟨hwt, hwf⟩ := hw
  refine vs_icmp_ge hC 54 hx hy dX0_giveCredits_7 (by decide) (fun hc => ?_) (fun hc => ?_)
  · have hw := hwt hc
    clear hwt hwf hc
    exact vs_vret (S3) hC hr hlk hW rfl hw (Nat.le_of_ble_eq_true rfl) (Nat.le_of_ble_eq_true rfl) dX0_giveCredits_54
  · have hw := hwf hc
    clear hwt hwf hc
    refine vs_aload_n hC hl 0 dX0_giveCredits_10 rfl rfl ?_
    refine vs_get hC hW 0 rfl rfl vs_inX0 4 (by decide) vf_X0_21 rfl dX0_giveCredits_11 ?_
    refine vs_iload_n hC hl 1 dX0_giveCredits_14 rfl rfl ?_
    obtain ⟨hi, hw⟩ := hw
    refine vs_iald hC hW 4 rfl (by decide) hi dX0_giveCredits_15 ?_
    refine vs_aload_n hC hl 0 dX0_giveCredits_16 rfl rfl ?_
    refine vs_get hC hW 0 rfl rfl vs_inX0 3 (by decide) vf_X0_18 rfl dX0_giveCredits_17 ?_
    refine vs_iload_n hC hl 1 dX0_giveCredits_20 rfl rfl ?_
    obtain ⟨hi, hw⟩ := hw
    refine vs_iald hC hW 3 rfl (by decide) hi dX0_giveCredits_21 ?_
    refine vs_isub hC dX0_giveCredits_22 ?_
    refine vs_name (fun v4 hv4 => ?_)
    have hw := hw v4 hv4
    refine vs_istore_n (L' := [(0, .ref (a 0)), (1, .int (vs_I v2)), (2, .int (vs_I v4))]) hC hl [1, 2, 0] dX0_giveCredits_23 rfl (by decide) rfl (fun ls hl => ?_)
    refine vs_iload_n hC hl 2 dX0_giveCredits_24 rfl rfl ?_
    obtain ⟨hx, hw⟩ := hw
    obtain ⟨hwt, hwf⟩ := hw
    refine vs_if_le hC 48 hx dX0_giveCredits_25 (by decide) (fun hc => ?_) (fun hc => ?_)
    · have hw := hwt hc
      clear hwt hwf hc
      refine vs_iinc (L' := [(0, .ref (a 0)), (1, .int (vs_I (v2 + 1))), (2, .int (vs_I v4))]) hC hl 1 [1, 0, 2] dX0_giveCredits_48 rfl (by decide) rfl (fun ls hl => ?_)
      refine vs_goto hC 2 dX0_giveCredits_51 (by decide) ?_
      exact ih1 (v2 + 1, S3) hw _ _ _ hW (lv_sub hl [0, 1] rfl)
    · have hw := hwf hc
      clear hwt hwf hc
      refine vs_aload_n hC hl 0 dX0_giveCredits_28 rfl rfl ?_
      refine vs_get hC hW 0 rfl rfl vs_inX0 5 (by decide) vf_X0_24 rfl dX0_giveCredits_29 ?_
      refine vs_iload_n hC hl 1 dX0_giveCredits_32 rfl rfl ?_
      refine vs_dup2 hC dX0_giveCredits_33 rfl rfl ?_
      obtain ⟨hi, hw⟩ := hw
      refine vs_iald hC hW 5 rfl (by decide) hi dX0_giveCredits_34 ?_
      refine vs_iload_n hC hl 2 dX0_giveCredits_35 rfl rfl ?_
      refine vs_iadd hC dX0_giveCredits_36 ?_
      obtain ⟨hi, hw⟩ := hw
      obtain ⟨S5, hS5⟩ : ∃ z : vs_St, z = vs_st S3 5 v2 ((S3 5 v2) + v4) := ⟨_, rfl⟩
      have hw := hw S5 hS5
      refine vs_iast (Wo' := vs_W0 g a S5 ++ wr) hC hW 5 rfl (by decide) hi (by rw [hS5]; rfl) dX0_giveCredits_37 (fun H locs hW => ?_)
      refine vs_aload_n hC hl 0 dX0_giveCredits_38 rfl rfl ?_
      refine vs_get hC hW 0 rfl rfl vs_inX0 6 (by decide) vf_X0_27 rfl dX0_giveCredits_39 ?_
      refine vs_iload_n hC hl 1 dX0_giveCredits_42 rfl rfl ?_
      refine vs_dup2 hC dX0_giveCredits_43 rfl rfl ?_
      obtain ⟨hi, hw⟩ := hw
      refine vs_iald hC hW 6 rfl (by decide) hi dX0_giveCredits_44 ?_
      refine vs_iconst hC dX0_giveCredits_45 ?_
      refine vs_iadd hC dX0_giveCredits_46 ?_
      obtain ⟨hi, hw⟩ := hw
      obtain ⟨S6, hS6⟩ : ∃ z : vs_St, z = vs_st S5 6 v2 ((S5 6 v2) + 1) := ⟨_, rfl⟩
      have hw := hw S6 hS6
      refine vs_iast (Wo' := vs_W0 g a S6 ++ wr) hC hW 6 rfl (by decide) hi (by rw [hS6]; rfl) dX0_giveCredits_47 (fun H locs hW => ?_)
      refine vs_iinc (L' := [(0, .ref (a 0)), (1, .int (vs_I (v2 + 1))), (2, .int (vs_I v4))]) hC hl 1 [1, 0, 2] dX0_giveCredits_48 rfl (by decide) rfl (fun ls hl => ?_)
      refine vs_goto hC 2 dX0_giveCredits_51 (by decide) ?_
      exact ih1 (v2 + 1, S6) hw _ _ _ hW (lv_sub hl [0, 1] rfl)
