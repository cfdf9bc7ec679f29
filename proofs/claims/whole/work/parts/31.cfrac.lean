/-! fractions: the walks, by program -/
set_option maxHeartbeats 4000000 in
set_option maxRecDepth 100000 in
theorem c_X2_meanCopies (l : Launch) (hst : l.stackTraces = false) (g : vs_G) (sd : Nat → Nat) (h0 n0 : Nat) (aS aT aK : Nat → Nat) (wr : va_W) (V S T K : vs_St) (post : UInt64 → Prop) (px : Nat → Prop) (hw : wX2_meanCopies V S T K post px) : vs_XD l yX2_meanCopies (Cond.code yX2_meanCopies cX2_meanCopies 1 (some .double) :: vs_ws) { frames := 6, cells := 1, slots := 6, locals := 90 } g sd [.ref h0] (vs_W2 h0 (aS 0) (aT 0) (aK 0) n0 V ++ (vs_W1 g aS S ++ (vs_W1 g aT T ++ (vs_W0 g aK K ++ wr)))) (fun (_ : Unit) => vs_W2 h0 (aS 0) (aT 0) (aK 0) n0 V ++ (vs_W1 g aS S ++ (vs_W1 g aT T ++ (vs_W0 g aK K ++ wr)))) (fun v (_ : Unit) => post v) px 1 6 := by
  refine vs_ofX (Qc := fun A => vs_QD g A (fun (_ : Unit) => vs_W2 h0 (aS 0) (aT 0) (aK 0) n0 V ++ (vs_W1 g aS S ++ (vs_W1 g aT T ++ (vs_W0 g aK K ++ wr)))) (fun v (_ : Unit) => post v)) (XC := fun A => vs_QX g A (vs_W2 h0 (aS 0) (aT 0) (aK 0) n0 V ++ (vs_W1 g aS S ++ (vs_W1 g aT T ++ (vs_W0 g aK K ++ wr)))) px) (by decide +kernel) (Nat.le_of_ble_eq_true rfl) (fun p e s m below meth c A ls hC hr hlk ht hW hX hl => ?_)
  have hC : CallFix p m c cX2_meanCopies 1 s _ vs_ws RX2 := hC
  have hl : lv_has ls 1 [(0, .ref h0)] := hl
  unfold wX2_meanCopies at hw
  refine vs_aload_n hC hl 0 dX2_meanCopies_0 rfl rfl ?_
  refine vs_get hC hW 0 rfl rfl vs_inX2 0 (by decide) vf_X2_12 rfl dX2_meanCopies_1 ?_
  refine vs_getN hC hW 1 rfl rfl vs_inX1 10 (by decide) vn_X2_241 rfl dX2_meanCopies_4 ?_
  obtain ⟨hx, hw⟩ := hw
  obtain ⟨hwt, hwf⟩ := hw
  refine vs_if_ne hC 20 hx dX2_meanCopies_7 (by decide) (fun hc => ?_) (fun hc => ?_)
  · have hw := hwt hc
    clear hwt hwf hc
    refine vs_aload_n hC hl 0 dX2_meanCopies_20 rfl rfl ?_
    refine vs_get hC hW 0 rfl rfl vs_inX2 0 (by decide) vf_X2_12 rfl dX2_meanCopies_21 ?_
    have hW : vs_Wd g A _ (vs_W1 g aS S ++ (vs_W2 h0 (aS 0) (aT 0) (aK 0) n0 V ++ (vs_W1 g aT T ++ (vs_W0 g aK K ++ wr)))) _ _ s := vs_Wd.perm hW vs_p2
    refine vs_callNI [] hC hW 0 rfl rfl vk_X1_countCopies vo_X2_249 (c_X1_countCopies l g aS (vs_W2 h0 (aS 0) (aT 0) (aK 0) n0 V ++ (vs_W1 g aT T ++ (vs_W0 g aK K ++ wr))) S  _ hw) rfl hl.1 rfl ⟨rfl, rfl⟩ ⟨Nat.le_of_ble_eq_true rfl, Nat.le_of_ble_eq_true rfl⟩ ⟨Nat.le_of_ble_eq_true rfl, Nat.le_of_ble_eq_true rfl⟩ (Nat.le_of_ble_eq_true rfl) dX2_meanCopies_24 (fun r1 _ H locs hw hW => ?_)
    have hW : vs_Wd g A _ (vs_W1 g aS S ++ (vs_W2 h0 (aS 0) (aT 0) (aK 0) n0 V ++ (vs_W1 g aT T ++ (vs_W0 g aK K ++ wr)))) _ _ s := hW
    have hW : vs_Wd g A _ (vs_W2 h0 (aS 0) (aT 0) (aK 0) n0 V ++ (vs_W1 g aS S ++ (vs_W1 g aT T ++ (vs_W0 g aK K ++ wr)))) _ _ s := vs_Wd.perm hW (List.Perm.symm vs_p2)
    refine vs_i2d hC dX2_meanCopies_27 ?_
    refine vs_aload_n hC hl 0 dX2_meanCopies_28 rfl rfl ?_
    refine vs_get hC hW 0 rfl rfl vs_inX2 0 (by decide) vf_X2_12 rfl dX2_meanCopies_29 ?_
    refine vs_getN hC hW 1 rfl rfl vs_inX1 10 (by decide) vn_X2_241 rfl dX2_meanCopies_32 ?_
    refine vs_i2d hC dX2_meanCopies_35 ?_
    obtain ⟨hn, hw⟩ := hw
    refine vs_ddiv hC hn dX2_meanCopies_36 ?_
    exact vx_ret (vs_dret () hC hr hlk hW rfl hw (Nat.le_of_ble_eq_true rfl) (Nat.le_of_ble_eq_true rfl) dX2_meanCopies_37)
  · have hw := hwf hc
    clear hwt hwf hc
    exact vs_throw 5 16 hC hst hlk ht hW hX vs_ex5 rfl hl.1 hw dX2_meanCopies_10 dX2_meanCopies_13 dX2_meanCopies_14 dX2_meanCopies_16 dX2_meanCopies_19 (Nat.le_of_ble_eq_true rfl) (Nat.le_of_ble_eq_true rfl) (Nat.le_of_ble_eq_true rfl) (Nat.le_of_ble_eq_true rfl) (Nat.le_of_ble_eq_true rfl) (Nat.le_of_ble_eq_true rfl)
set_option maxHeartbeats 4000000 in
set_option maxRecDepth 100000 in
theorem c_X2_usedShare (l : Launch) (hst : l.stackTraces = false) (g : vs_G) (sd : Nat → Nat) (h0 n0 : Nat) (aS aT aK : Nat → Nat) (wr : va_W) (V S T K : vs_St) (post : UInt32 → Prop) (px : Nat → Prop) (hw : wX2_usedShare V S T K post px) : vs_XF l yX2_usedShare (Cond.code yX2_usedShare cX2_usedShare 2 (some .float) :: vs_ws) { frames := 6, cells := 1, slots := 6, locals := 90 } g sd [.ref h0] (vs_W2 h0 (aS 0) (aT 0) (aK 0) n0 V ++ (vs_W1 g aS S ++ (vs_W1 g aT T ++ (vs_W0 g aK K ++ wr)))) (fun (_ : Unit) => vs_W2 h0 (aS 0) (aT 0) (aK 0) n0 V ++ (vs_W1 g aS S ++ (vs_W1 g aT T ++ (vs_W0 g aK K ++ wr)))) (fun v (_ : Unit) => post v) px 1 6 := by
  refine vs_ofX (Qc := fun A => vs_QF g A (fun (_ : Unit) => vs_W2 h0 (aS 0) (aT 0) (aK 0) n0 V ++ (vs_W1 g aS S ++ (vs_W1 g aT T ++ (vs_W0 g aK K ++ wr)))) (fun v (_ : Unit) => post v)) (XC := fun A => vs_QX g A (vs_W2 h0 (aS 0) (aT 0) (aK 0) n0 V ++ (vs_W1 g aS S ++ (vs_W1 g aT T ++ (vs_W0 g aK K ++ wr)))) px) (by decide +kernel) (Nat.le_of_ble_eq_true rfl) (fun p e s m below meth c A ls hC hr hlk ht hW hX hl => ?_)
  have hC : CallFix p m c cX2_usedShare 2 s _ vs_ws RX2 := hC
  have hl : lv_has ls 2 [(0, .ref h0)] := hl
  unfold wX2_usedShare at hw
  refine vs_aload_n hC hl 0 dX2_usedShare_0 rfl rfl ?_
  refine vs_get hC hW 0 rfl rfl vs_inX2 0 (by decide) vf_X2_12 rfl dX2_usedShare_1 ?_
  have hW : vs_Wd g A _ (vs_W1 g aS S ++ (vs_W2 h0 (aS 0) (aT 0) (aK 0) n0 V ++ (vs_W1 g aT T ++ (vs_W0 g aK K ++ wr)))) _ _ s := vs_Wd.perm hW vs_p2
  refine vs_callNI [] hC hW 0 rfl rfl vk_X1_countSlots vo_X2_252 (c_X1_countSlots l g aS (vs_W2 h0 (aS 0) (aT 0) (aK 0) n0 V ++ (vs_W1 g aT T ++ (vs_W0 g aK K ++ wr))) S  _ hw) rfl hl.1 rfl ⟨rfl, rfl⟩ ⟨Nat.le_of_ble_eq_true rfl, Nat.le_of_ble_eq_true rfl⟩ ⟨Nat.le_of_ble_eq_true rfl, Nat.le_of_ble_eq_true rfl⟩ (Nat.le_of_ble_eq_true rfl) dX2_usedShare_4 (fun r1 _ H locs hw hW => ?_)
  have hW : vs_Wd g A _ (vs_W1 g aS S ++ (vs_W2 h0 (aS 0) (aT 0) (aK 0) n0 V ++ (vs_W1 g aT T ++ (vs_W0 g aK K ++ wr)))) _ _ s := hW
  have hW : vs_Wd g A _ (vs_W2 h0 (aS 0) (aT 0) (aK 0) n0 V ++ (vs_W1 g aS S ++ (vs_W1 g aT T ++ (vs_W0 g aK K ++ wr)))) _ _ s := vs_Wd.perm hW (List.Perm.symm vs_p2)
  refine vs_istore_n (L' := [(0, .ref h0), (1, .int (vs_I r1))]) hC hl [1, 0] dX2_usedShare_7 rfl (by decide) rfl (fun ls hl => ?_)
  refine vs_iload_n hC hl 1 dX2_usedShare_8 rfl rfl ?_
  obtain ⟨hx, hw⟩ := hw
  obtain ⟨hwt, hwf⟩ := hw
  refine vs_if_ne hC 22 hx dX2_usedShare_9 (by decide) (fun hc => ?_) (fun hc => ?_)
  · have hw := hwt hc
    clear hwt hwf hc
    refine vs_aload_n hC hl 0 dX2_usedShare_22 rfl rfl ?_
    refine vs_get hC hW 0 rfl rfl vs_inX2 0 (by decide) vf_X2_12 rfl dX2_usedShare_23 ?_
    have hW : vs_Wd g A _ (vs_W1 g aS S ++ (vs_W2 h0 (aS 0) (aT 0) (aK 0) n0 V ++ (vs_W1 g aT T ++ (vs_W0 g aK K ++ wr)))) _ _ s := vs_Wd.perm hW vs_p2
    refine vs_callNI [] hC hW 0 rfl rfl vk_X1_countCopies vo_X2_249 (c_X1_countCopies l g aS (vs_W2 h0 (aS 0) (aT 0) (aK 0) n0 V ++ (vs_W1 g aT T ++ (vs_W0 g aK K ++ wr))) S  _ hw) rfl hl.1 rfl ⟨rfl, rfl⟩ ⟨Nat.le_of_ble_eq_true rfl, Nat.le_of_ble_eq_true rfl⟩ ⟨Nat.le_of_ble_eq_true rfl, Nat.le_of_ble_eq_true rfl⟩ (Nat.le_of_ble_eq_true rfl) dX2_usedShare_26 (fun r2 _ H locs hw hW => ?_)
    have hW : vs_Wd g A _ (vs_W1 g aS S ++ (vs_W2 h0 (aS 0) (aT 0) (aK 0) n0 V ++ (vs_W1 g aT T ++ (vs_W0 g aK K ++ wr)))) _ _ s := hW
    have hW : vs_Wd g A _ (vs_W2 h0 (aS 0) (aT 0) (aK 0) n0 V ++ (vs_W1 g aS S ++ (vs_W1 g aT T ++ (vs_W0 g aK K ++ wr)))) _ _ s := vs_Wd.perm hW (List.Perm.symm vs_p2)
    refine vs_i2f hC dX2_usedShare_29 ?_
    refine vs_iload_n hC hl 1 dX2_usedShare_30 rfl rfl ?_
    refine vs_i2f hC dX2_usedShare_31 ?_
    obtain ⟨hn, hw⟩ := hw
    refine vs_fdiv hC hn dX2_usedShare_32 ?_
    exact vx_ret (vs_fret () hC hr hlk hW rfl hw (Nat.le_of_ble_eq_true rfl) (Nat.le_of_ble_eq_true rfl) dX2_usedShare_33)
  · have hw := hwf hc
    clear hwt hwf hc
    exact vs_throw 5 17 hC hst hlk ht hW hX vs_ex5 rfl hl.1 hw dX2_usedShare_12 dX2_usedShare_15 dX2_usedShare_16 dX2_usedShare_18 dX2_usedShare_21 (Nat.le_of_ble_eq_true rfl) (Nat.le_of_ble_eq_true rfl) (Nat.le_of_ble_eq_true rfl) (Nat.le_of_ble_eq_true rfl) (Nat.le_of_ble_eq_true rfl) (Nat.le_of_ble_eq_true rfl)
set_option maxHeartbeats 4000000 in
set_option maxRecDepth 100000 in
theorem c_X3_meanCopies (l : Launch) (g : vs_G) (a r q : Nat → Nat) (wr : va_W) (S : vs_St) (post : UInt64 → vs_St → Prop) (hw : wX3_meanCopies S post) : vs_MD l yX3_meanCopies (Cond.code yX3_meanCopies cX3_meanCopies 3 (some .double) :: vs_ws) { frames := 1, cells := 0, slots := 0, locals := 21 } g [.ref (a 0)] (vs_W3 g a r q S ++ wr) (fun (S' : vs_St) => vs_W3 g a r q S' ++ wr) post 0 0 := by
  refine vs_ofW (Qc := fun A => vs_QD g A (fun (S' : vs_St) => vs_W3 g a r q S' ++ wr) post) (by decide +kernel) (Nat.le_of_ble_eq_true rfl) (fun p e s m below meth c A ls hC hr hlk hW hl => ?_)
  have hC : CallFix p m c cX3_meanCopies 3 s _ vs_ws RX3 := hC
  have hl : lv_has ls 3 [(0, .ref (a 0))] := hl
  unfold wX3_meanCopies at hw
  refine vs_aload_n hC hl 0 dX3_meanCopies_0 rfl rfl ?_
  refine vs_iconst hC dX3_meanCopies_1 ?_
  obtain ⟨S1, hS1⟩ : ∃ z : vs_St, z = vs_st S 0 0 0 := ⟨_, rfl⟩
  have hw := hw S1 hS1
  refine vs_put (Wo' := vs_W3 g a r q S1 ++ wr) hC hW 0 rfl rfl vs_inX3 tyX3_ok nmX3 0 (by decide) vf_X3_96 rfl rfl (Nat.le_of_ble_eq_true rfl) (by rw [hS1]; rfl) dX3_meanCopies_2 (fun H locs hW => ?_)
  refine vs_iconst hC dX3_meanCopies_5 ?_
  refine vs_istore_n (L' := [(0, .ref (a 0)), (1, .int (vs_I 0))]) hC hl [1, 0] dX3_meanCopies_6 rfl (by decide) rfl (fun ls hl => ?_)
  refine vs_iconst hC dX3_meanCopies_7 ?_
  refine vs_istore_n (L' := [(0, .ref (a 0)), (1, .int (vs_I 0)), (2, .int (vs_I 0))]) hC hl [1, 2, 0] dX3_meanCopies_8 rfl (by decide) rfl (fun ls hl => ?_)
  obtain ⟨J2, μ2, hJ, hB2⟩ := hw
  refine vs_loop (V := Int × Int) (J := fun v => J2 v.1 v.2) (μ := fun v => μ2 v.1 v.2) (fun v => vs_W3 g a r q S1 ++ wr) (fun v => [(0, .ref (a 0)), (1, .int (vs_I v.1)), (2, .int (vs_I v.2))]) (fun v hJ ih2 H locs ls hW hl => ?_) (0, 0) hJ hW (lv_sub hl [0, 1, 2] rfl)
  obtain ⟨v3, v4⟩ := v
  have hw := hB2 v3 v4 hJ
  have hW : vs_Wd g A _ (vs_W3 g a r q S1 ++ wr) _ _ s := hW
  have hl : lv_has ls 3 [(0, .ref (a 0)), (1, .int (vs_I v3)), (2, .int (vs_I v4))] := hl
  clear hJ
  unfold lX3_meanCopies_9 at hw
  refine vs_iload_n hC hl 2 dX3_meanCopies_9 rfl rfl ?_
  refine vs_aload_n hC hl 0 dX3_meanCopies_10 rfl rfl ?_
  refine vs_get hC hW 0 rfl rfl vs_inX3 15 (by decide) vf_X3_171 rfl dX3_meanCopies_11 ?_
  obtain ⟨hx, hw⟩ := hw
  obtain ⟨hy, hw⟩ := hw
  obtain ⟨hwt, hwf⟩ := hw
  refine vs_icmp_ge hC 37 hx hy dX3_meanCopies_14 (by decide) (fun hc => ?_) (fun hc => ?_)
  · have hw := hwt hc
    clear hwt hwf hc
    refine vs_aload_n hC hl 0 dX3_meanCopies_37 rfl rfl ?_
    refine vs_get hC hW 0 rfl rfl vs_inX3 15 (by decide) vf_X3_171 rfl dX3_meanCopies_38 ?_
    obtain ⟨hx, hw⟩ := hw
    obtain ⟨hwt, hwf⟩ := hw
    refine vs_if_ne hC 53 hx dX3_meanCopies_41 (by decide) (fun hc => ?_) (fun hc => ?_)
    · have hw := hwt hc
      clear hwt hwf hc
      refine vs_iload_n hC hl 1 dX3_meanCopies_53 rfl rfl ?_
      refine vs_i2d hC dX3_meanCopies_54 ?_
      refine vs_aload_n hC hl 0 dX3_meanCopies_55 rfl rfl ?_
      refine vs_get hC hW 0 rfl rfl vs_inX3 15 (by decide) vf_X3_171 rfl dX3_meanCopies_56 ?_
      refine vs_i2d hC dX3_meanCopies_59 ?_
      obtain ⟨hn, hw⟩ := hw
      refine vs_ddiv hC hn dX3_meanCopies_60 ?_
      exact vs_dret (S1) hC hr hlk hW rfl hw (Nat.le_of_ble_eq_true rfl) (Nat.le_of_ble_eq_true rfl) dX3_meanCopies_61
    · have hw := hwf hc
      clear hwt hwf hc
      refine vs_aload_n hC hl 0 dX3_meanCopies_44 rfl rfl ?_
      refine vs_iconst hC dX3_meanCopies_45 ?_
      refine vs_callVI [.int (vs_I 1)] hC hW 0 rfl rfl vk_X3_fails vm_X3_123 (c_X3_fails l g a r q (wr) S1 1 _ hw) rfl hl.1 rfl ⟨rfl, rfl⟩ ⟨Nat.le_of_ble_eq_true rfl, Nat.le_of_ble_eq_true rfl⟩ ⟨Nat.le_of_ble_eq_true rfl, Nat.le_of_ble_eq_true rfl⟩ (Nat.le_of_ble_eq_true rfl) dX3_meanCopies_46 (fun r5 S6 H locs hw hW => ?_)
      have hW : vs_Wd g A _ (vs_W3 g a r q S6 ++ wr) _ _ s := hW
      refine vs_i2d hC dX3_meanCopies_49 ?_
      refine vs_goto hC 61 dX3_meanCopies_50 (by decide) ?_
      exact vs_dret (S6) hC hr hlk hW rfl hw (Nat.le_of_ble_eq_true rfl) (Nat.le_of_ble_eq_true rfl) dX3_meanCopies_61
  · have hw := hwf hc
    clear hwt hwf hc
    refine vs_iload_n hC hl 1 dX3_meanCopies_17 rfl rfl ?_
    refine vs_aload_n hC hl 0 dX3_meanCopies_18 rfl rfl ?_
    refine vs_get hC hW 0 rfl rfl vs_inX3 10 (by decide) vf_X3_38 rfl dX3_meanCopies_19 ?_
    refine vs_aload_n hC hl 0 dX3_meanCopies_22 rfl rfl ?_
    refine vs_get hC hW 0 rfl rfl vs_inX3 13 (by decide) vf_X3_47 rfl dX3_meanCopies_23 ?_
    refine vs_iload_n hC hl 2 dX3_meanCopies_26 rfl rfl ?_
    obtain ⟨hi, hw⟩ := hw
    refine vs_iald hC hW 12 rfl (by decide) hi dX3_meanCopies_27 ?_
    obtain ⟨hi, hw⟩ := hw
    refine vs_iald hC hW 9 rfl (by decide) hi dX3_meanCopies_28 ?_
    refine vs_iadd hC dX3_meanCopies_29 ?_
    refine vs_name (fun v7 hv7 => ?_)
    have hw := hw v7 hv7
    refine vs_istore_n (L' := [(0, .ref (a 0)), (1, .int (vs_I v7)), (2, .int (vs_I v4))]) hC hl [1, 0, 2] dX3_meanCopies_30 rfl (by decide) rfl (fun ls hl => ?_)
    refine vs_iinc (L' := [(0, .ref (a 0)), (1, .int (vs_I v7)), (2, .int (vs_I (v4 + 1)))]) hC hl 2 [1, 2, 0] dX3_meanCopies_31 rfl (by decide) rfl (fun ls hl => ?_)
    refine vs_goto hC 9 dX3_meanCopies_34 (by decide) ?_
    exact ih2 (v7, v4 + 1) hw _ _ _ hW (lv_sub hl [0, 1, 2] rfl)
set_option maxHeartbeats 4000000 in
set_option maxRecDepth 100000 in
theorem c_X3_usedShare (l : Launch) (g : vs_G) (a r q : Nat → Nat) (wr : va_W) (S : vs_St) (post : UInt32 → vs_St → Prop) (hw : wX3_usedShare S post) : vs_MF l yX3_usedShare (Cond.code yX3_usedShare cX3_usedShare 4 (some .float) :: vs_ws) { frames := 1, cells := 0, slots := 0, locals := 23 } g [.ref (a 0)] (vs_W3 g a r q S ++ wr) (fun (S' : vs_St) => vs_W3 g a r q S' ++ wr) post 0 0 := by
  refine vs_ofW (Qc := fun A => vs_QF g A (fun (S' : vs_St) => vs_W3 g a r q S' ++ wr) post) (by decide +kernel) (Nat.le_of_ble_eq_true rfl) (fun p e s m below meth c A ls hC hr hlk hW hl => ?_)
  have hC : CallFix p m c cX3_usedShare 4 s _ vs_ws RX3 := hC
  have hl : lv_has ls 4 [(0, .ref (a 0))] := hl
  unfold wX3_usedShare at hw
  refine vs_aload_n hC hl 0 dX3_usedShare_0 rfl rfl ?_
  refine vs_iconst hC dX3_usedShare_1 ?_
  obtain ⟨S1, hS1⟩ : ∃ z : vs_St, z = vs_st S 0 0 0 := ⟨_, rfl⟩
  have hw := hw S1 hS1
  refine vs_put (Wo' := vs_W3 g a r q S1 ++ wr) hC hW 0 rfl rfl vs_inX3 tyX3_ok nmX3 0 (by decide) vf_X3_96 rfl rfl (Nat.le_of_ble_eq_true rfl) (by rw [hS1]; rfl) dX3_usedShare_2 (fun H locs hW => ?_)
  refine vs_iconst hC dX3_usedShare_5 ?_
  refine vs_istore_n (L' := [(0, .ref (a 0)), (1, .int (vs_I 0))]) hC hl [1, 0] dX3_usedShare_6 rfl (by decide) rfl (fun ls hl => ?_)
  refine vs_iconst hC dX3_usedShare_7 ?_
  refine vs_istore_n (L' := [(0, .ref (a 0)), (1, .int (vs_I 0)), (2, .int (vs_I 0))]) hC hl [1, 2, 0] dX3_usedShare_8 rfl (by decide) rfl (fun ls hl => ?_)
  refine vs_iconst hC dX3_usedShare_9 ?_
  refine vs_istore_n (L' := [(0, .ref (a 0)), (1, .int (vs_I 0)), (2, .int (vs_I 0)), (3, .int (vs_I 0))]) hC hl [1, 2, 3, 0] dX3_usedShare_10 rfl (by decide) rfl (fun ls hl => ?_)
  obtain ⟨J2, μ2, hJ, hB2⟩ := hw
  refine vs_loop (V := Int × Int × Int) (J := fun v => J2 v.1 v.2.1 v.2.2) (μ := fun v => μ2 v.1 v.2.1 v.2.2) (fun v => vs_W3 g a r q S1 ++ wr) (fun v => [(0, .ref (a 0)), (1, .int (vs_I v.1)), (2, .int (vs_I v.2.1)), (3, .int (vs_I v.2.2))]) (fun v hJ ih2 H locs ls hW hl => ?_) (0, 0, 0) hJ hW (lv_sub hl [0, 1, 2, 3] rfl)
  obtain ⟨v3, v4, v5⟩ := v
  have hw := hB2 v3 v4 v5 hJ
  have hW : vs_Wd g A _ (vs_W3 g a r q S1 ++ wr) _ _ s := hW
  have hl : lv_has ls 4 [(0, .ref (a 0)), (1, .int (vs_I v3)), (2, .int (vs_I v4)), (3, .int (vs_I v5))] := hl
  clear hJ
  unfold lX3_usedShare_11 at hw
  refine vs_iload_n hC hl 3 dX3_usedShare_11 rfl rfl ?_
  refine vs_aload_n hC hl 0 dX3_usedShare_12 rfl rfl ?_
  refine vs_get hC hW 0 rfl rfl vs_inX3 7 (by decide) vf_X3_99 rfl dX3_usedShare_13 ?_
  obtain ⟨hx, hw⟩ := hw
  obtain ⟨hy, hw⟩ := hw
  obtain ⟨hwt, hwf⟩ := hw
  refine vs_icmp_ge hC 72 hx hy dX3_usedShare_16 (by decide) (fun hc => ?_) (fun hc => ?_)
  · have hw := hwt hc
    clear hwt hwf hc
    refine vs_iload_n hC hl 2 dX3_usedShare_72 rfl rfl ?_
    obtain ⟨hx, hw⟩ := hw
    obtain ⟨hwt, hwf⟩ := hw
    refine vs_if_ne hC 85 hx dX3_usedShare_73 (by decide) (fun hc => ?_) (fun hc => ?_)
    · have hw := hwt hc
      clear hwt hwf hc
      refine vs_iload_n hC hl 1 dX3_usedShare_85 rfl rfl ?_
      refine vs_i2f hC dX3_usedShare_86 ?_
      refine vs_iload_n hC hl 2 dX3_usedShare_87 rfl rfl ?_
      refine vs_i2f hC dX3_usedShare_88 ?_
      obtain ⟨hn, hw⟩ := hw
      refine vs_fdiv hC hn dX3_usedShare_89 ?_
      exact vs_fret (S1) hC hr hlk hW rfl hw (Nat.le_of_ble_eq_true rfl) (Nat.le_of_ble_eq_true rfl) dX3_usedShare_90
    · have hw := hwf hc
      clear hwt hwf hc
      refine vs_aload_n hC hl 0 dX3_usedShare_76 rfl rfl ?_
      refine vs_iconst hC dX3_usedShare_77 ?_
      refine vs_callVI [.int (vs_I 1)] hC hW 0 rfl rfl vk_X3_fails vm_X3_123 (c_X3_fails l g a r q (wr) S1 1 _ hw) rfl hl.1 rfl ⟨rfl, rfl⟩ ⟨Nat.le_of_ble_eq_true rfl, Nat.le_of_ble_eq_true rfl⟩ ⟨Nat.le_of_ble_eq_true rfl, Nat.le_of_ble_eq_true rfl⟩ (Nat.le_of_ble_eq_true rfl) dX3_usedShare_78 (fun r6 S7 H locs hw hW => ?_)
      have hW : vs_Wd g A _ (vs_W3 g a r q S7 ++ wr) _ _ s := hW
      refine vs_i2f hC dX3_usedShare_81 ?_
      refine vs_goto hC 90 dX3_usedShare_82 (by decide) ?_
      exact vs_fret (S7) hC hr hlk hW rfl hw (Nat.le_of_ble_eq_true rfl) (Nat.le_of_ble_eq_true rfl) dX3_usedShare_90
  · have hw := hwf hc
    clear hwt hwf hc
    refine vs_iload_n hC hl 1 dX3_usedShare_19 rfl rfl ?_
    refine vs_aload_n hC hl 0 dX3_usedShare_20 rfl rfl ?_
    refine vs_get hC hW 0 rfl rfl vs_inX3 2 (by decide) vf_X3_13 rfl dX3_usedShare_21 ?_
    refine vs_iload_n hC hl 3 dX3_usedShare_24 rfl rfl ?_
    obtain ⟨hi, hw⟩ := hw
    refine vs_cald hC hW 2 rfl (by decide) hi dX3_usedShare_25 ?_
    refine vs_bipush hC dX3_usedShare_26 (by decide +kernel) ?_
    obtain ⟨hx, hw⟩ := hw
    obtain ⟨hwt, hwf⟩ := hw
    refine vs_icmp_ne hC 35 hx ⟨by decide, by decide⟩ dX3_usedShare_28 (by decide) (fun hc => ?_) (fun hc => ?_)
    · have hw := hwt hc
      clear hwt hwf hc
      refine vs_aload_n hC hl 0 dX3_usedShare_35 rfl rfl ?_
      refine vs_iload_n hC hl 3 dX3_usedShare_36 rfl rfl ?_
      refine vs_callVI [.int (vs_I v5)] hC hW 0 rfl rfl vk_X3_usedOf vm_X3_112 (c_X3_usedOf l g a r q (wr) S1 v5 _ hw) rfl hl.1 rfl ⟨rfl, rfl⟩ ⟨Nat.le_of_ble_eq_true rfl, Nat.le_of_ble_eq_true rfl⟩ ⟨Nat.le_of_ble_eq_true rfl, Nat.le_of_ble_eq_true rfl⟩ (Nat.le_of_ble_eq_true rfl) dX3_usedShare_37 (fun r8 _ H locs hw hW => ?_)
      have hW : vs_Wd g A _ (vs_W3 g a r q S1 ++ wr) _ _ s := hW
      refine vs_iadd hC dX3_usedShare_40 ?_
      refine vs_name (fun v9 hv9 => ?_)
      have hw := hw v9 hv9
      refine vs_istore_n (L' := [(0, .ref (a 0)), (1, .int (vs_I v9)), (2, .int (vs_I v4)), (3, .int (vs_I v5))]) hC hl [1, 0, 2, 3] dX3_usedShare_41 rfl (by decide) rfl (fun ls hl => ?_)
      refine vs_iload_n hC hl 2 dX3_usedShare_42 rfl rfl ?_
      refine vs_aload_n hC hl 0 dX3_usedShare_43 rfl rfl ?_
      refine vs_get hC hW 0 rfl rfl vs_inX3 2 (by decide) vf_X3_13 rfl dX3_usedShare_44 ?_
      refine vs_iload_n hC hl 3 dX3_usedShare_47 rfl rfl ?_
      obtain ⟨hi, hw⟩ := hw
      refine vs_cald hC hW 2 rfl (by decide) hi dX3_usedShare_48 ?_
      refine vs_bipush hC dX3_usedShare_49 (by decide +kernel) ?_
      obtain ⟨hx, hw⟩ := hw
      obtain ⟨hwt, hwf⟩ := hw
      refine vs_icmp_ne hC 58 hx ⟨by decide, by decide⟩ dX3_usedShare_51 (by decide) (fun hc => ?_) (fun hc => ?_)
      · have hw := hwt hc
        clear hwt hwf hc
        refine vs_aload_n hC hl 0 dX3_usedShare_58 rfl rfl ?_
        refine vs_get hC hW 0 rfl rfl vs_inX3 1 (by decide) vf_X3_9 rfl dX3_usedShare_59 ?_
        refine vs_iload_n hC hl 3 dX3_usedShare_62 rfl rfl ?_
        obtain ⟨hi, hw⟩ := hw
        refine vs_iald hC hW 1 rfl (by decide) hi dX3_usedShare_63 ?_
        refine vs_iadd hC dX3_usedShare_64 ?_
        refine vs_name (fun v10 hv10 => ?_)
        have hw := hw v10 hv10
        refine vs_istore_n (L' := [(0, .ref (a 0)), (1, .int (vs_I v9)), (2, .int (vs_I v10)), (3, .int (vs_I v5))]) hC hl [1, 2, 0, 3] dX3_usedShare_65 rfl (by decide) rfl (fun ls hl => ?_)
        refine vs_iinc (L' := [(0, .ref (a 0)), (1, .int (vs_I v9)), (2, .int (vs_I v10)), (3, .int (vs_I (v5 + 1)))]) hC hl 3 [1, 2, 3, 0] dX3_usedShare_66 rfl (by decide) rfl (fun ls hl => ?_)
        refine vs_goto hC 11 dX3_usedShare_69 (by decide) ?_
        exact ih2 (v9, v10, v5 + 1) hw _ _ _ hW (lv_sub hl [0, 1, 2, 3] rfl)
      · have hw := hwf hc
        clear hwt hwf hc
        refine vs_iconst hC dX3_usedShare_54 ?_
        refine vs_goto hC 64 dX3_usedShare_55 (by decide) ?_
        refine vs_iadd hC dX3_usedShare_64 ?_
        refine vs_name (fun v11 hv11 => ?_)
        have hw := hw v11 hv11
        refine vs_istore_n (L' := [(0, .ref (a 0)), (1, .int (vs_I v9)), (2, .int (vs_I v11)), (3, .int (vs_I v5))]) hC hl [1, 2, 0, 3] dX3_usedShare_65 rfl (by decide) rfl (fun ls hl => ?_)
        refine vs_iinc (L' := [(0, .ref (a 0)), (1, .int (vs_I v9)), (2, .int (vs_I v11)), (3, .int (vs_I (v5 + 1)))]) hC hl 3 [1, 2, 3, 0] dX3_usedShare_66 rfl (by decide) rfl (fun ls hl => ?_)
        refine vs_goto hC 11 dX3_usedShare_69 (by decide) ?_
        exact ih2 (v9, v11, v5 + 1) hw _ _ _ hW (lv_sub hl [0, 1, 2, 3] rfl)
    · have hw := hwf hc
      clear hwt hwf hc
      refine vs_iconst hC dX3_usedShare_31 ?_
      refine vs_goto hC 40 dX3_usedShare_32 (by decide) ?_
      refine vs_iadd hC dX3_usedShare_40 ?_
      refine vs_name (fun v12 hv12 => ?_)
      have hw := hw v12 hv12
      refine vs_istore_n (L' := [(0, .ref (a 0)), (1, .int (vs_I v12)), (2, .int (vs_I v4)), (3, .int (vs_I v5))]) hC hl [1, 0, 2, 3] dX3_usedShare_41 rfl (by decide) rfl (fun ls hl => ?_)
      refine vs_iload_n hC hl 2 dX3_usedShare_42 rfl rfl ?_
      refine vs_aload_n hC hl 0 dX3_usedShare_43 rfl rfl ?_
      refine vs_get hC hW 0 rfl rfl vs_inX3 2 (by decide) vf_X3_13 rfl dX3_usedShare_44 ?_
      refine vs_iload_n hC hl 3 dX3_usedShare_47 rfl rfl ?_
      obtain ⟨hi, hw⟩ := hw
      refine vs_cald hC hW 2 rfl (by decide) hi dX3_usedShare_48 ?_
      refine vs_bipush hC dX3_usedShare_49 (by decide +kernel) ?_
      obtain ⟨hx, hw⟩ := hw
      obtain ⟨hwt, hwf⟩ := hw
      refine vs_icmp_ne hC 58 hx ⟨by decide, by decide⟩ dX3_usedShare_51 (by decide) (fun hc => ?_) (fun hc => ?_)
      · have hw := hwt hc
        clear hwt hwf hc
        refine vs_aload_n hC hl 0 dX3_usedShare_58 rfl rfl ?_
        refine vs_get hC hW 0 rfl rfl vs_inX3 1 (by decide) vf_X3_9 rfl dX3_usedShare_59 ?_
        refine vs_iload_n hC hl 3 dX3_usedShare_62 rfl rfl ?_
        obtain ⟨hi, hw⟩ := hw
        refine vs_iald hC hW 1 rfl (by decide) hi dX3_usedShare_63 ?_
        refine vs_iadd hC dX3_usedShare_64 ?_
        refine vs_name (fun v13 hv13 => ?_)
        have hw := hw v13 hv13
        refine vs_istore_n (L' := [(0, .ref (a 0)), (1, .int (vs_I v12)), (2, .int (vs_I v13)), (3, .int (vs_I v5))]) hC hl [1, 2, 0, 3] dX3_usedShare_65 rfl (by decide) rfl (fun ls hl => ?_)
        refine vs_iinc (L' := [(0, .ref (a 0)), (1, .int (vs_I v12)), (2, .int (vs_I v13)), (3, .int (vs_I (v5 + 1)))]) hC hl 3 [1, 2, 3, 0] dX3_usedShare_66 rfl (by decide) rfl (fun ls hl => ?_)
        refine vs_goto hC 11 dX3_usedShare_69 (by decide) ?_
        exact ih2 (v12, v13, v5 + 1) hw _ _ _ hW (lv_sub hl [0, 1, 2, 3] rfl)
      · have hw := hwf hc
        clear hwt hwf hc
        refine vs_iconst hC dX3_usedShare_54 ?_
        refine vs_goto hC 64 dX3_usedShare_55 (by decide) ?_
        refine vs_iadd hC dX3_usedShare_64 ?_
        refine vs_name (fun v14 hv14 => ?_)
        have hw := hw v14 hv14
        refine vs_istore_n (L' := [(0, .ref (a 0)), (1, .int (vs_I v12)), (2, .int (vs_I v14)), (3, .int (vs_I v5))]) hC hl [1, 2, 0, 3] dX3_usedShare_65 rfl (by decide) rfl (fun ls hl => ?_)
        refine vs_iinc (L' := [(0, .ref (a 0)), (1, .int (vs_I v12)), (2, .int (vs_I v14)), (3, .int (vs_I (v5 + 1)))]) hC hl 3 [1, 2, 3, 0] dX3_usedShare_66 rfl (by decide) rfl (fun ls hl => ?_)
        refine vs_goto hC 11 dX3_usedShare_69 (by decide) ?_
        exact ih2 (v12, v14, v5 + 1) hw _ _ _ hW (lv_sub hl [0, 1, 2, 3] rfl)
set_option maxHeartbeats 4000000 in
set_option maxRecDepth 100000 in
theorem c_L_meanCopies (l : Launch) (hst : l.stackTraces = false) (g : vs_G) (sd : Nat → Nat) (h0 n0 o : Nat) (aS aT aK : Nat → Nat) (wr : va_W) (V S T K : vs_St) (D : (Nat → UInt64)) (post : Int → (Nat → UInt64) → Prop) (hw : wL_meanCopies V S T K D post) : vs_HI l yL_meanCopies (Cond.codeWith yL_meanCopies cL_meanCopies 3 (some .int) hhL_meanCopies :: vs_ws) { frames := 7, cells := 1, slots := 6, locals := 110 } g sd [.ref h0, .ref o] (vs_W2 h0 (aS 0) (aT 0) (aK 0) n0 V ++ (vs_W1 g aS S ++ (vs_W1 g aT T ++ (vs_W0 g aK K ++ (vs_WD g o D ++ wr))))) (fun (u : (Nat → UInt64)) => vs_W2 h0 (aS 0) (aT 0) (aK 0) n0 V ++ (vs_W1 g aS S ++ (vs_W1 g aT T ++ (vs_W0 g aK K ++ (vs_WD g o u ++ wr))))) post 1 6 := by
  refine vs_ofH (Qc := fun A => vs_QI g A (fun (u : (Nat → UInt64)) => vs_W2 h0 (aS 0) (aT 0) (aK 0) n0 V ++ (vs_W1 g aS S ++ (vs_W1 g aT T ++ (vs_W0 g aK K ++ (vs_WD g o u ++ wr))))) post) (XC := fun A => vs_QX g A (vs_W2 h0 (aS 0) (aT 0) (aK 0) n0 V ++ (vs_W1 g aS S ++ (vs_W1 g aT T ++ (vs_W0 g aK K ++ (vs_WD g o D ++ wr))))) (fun _ => False)) (by decide +kernel) (Nat.le_of_ble_eq_true rfl) (fun p e s m below meth c A ls hC hr hlk htab hW hX hl => ?_)
  have hC : CallFix p m c cL_meanCopies 3 s _ vs_ws RL := hC
  have hl : lv_has ls 3 [(0, .ref h0), (1, .ref o)] := hl
  unfold wL_meanCopies at hw
  refine vs_aload_n hC hl 1 dL_meanCopies_0 rfl rfl ?_
  refine vs_iconst hC dL_meanCopies_1 ?_
  refine vs_aload_n hC hl 0 dL_meanCopies_2 rfl rfl ?_
  refine vs_xcallVD [] hC hW hX 0 rfl rfl vk_X2_meanCopies vm_L_107 (c_X2_meanCopies l hst g sd h0 n0 aS aT aK (vs_WD g o D ++ wr) V S T K  _ _ hw) rfl hl.1 rfl ⟨rfl, rfl⟩ ⟨Nat.le_of_ble_eq_true rfl, Nat.le_of_ble_eq_true rfl⟩ ⟨Nat.le_of_ble_eq_true rfl, Nat.le_of_ble_eq_true rfl⟩ (Nat.le_of_ble_eq_true rfl) dL_meanCopies_3 (fun k ce q9 H locs hp hW hq hv hcl => ?_) (fun r1 _ H locs hw hW => ?_)
  · obtain ⟨hp0, hpk⟩ := hp
    subst hpk
    · have hw := hp0 rfl
      refine vs_catch (hh := hhL_meanCopies) hC hX htab [] ⟨0, 7, 10, 111⟩ [] rfl (fun _ h => absurd h List.not_mem_nil) rfl (by decide) vt_111 (by decide +kernel) hq hv hcl ?_
      refine vs_astore_n (L' := [(0, .ref h0), (1, .ref o), (2, .ref q9)]) hC hl [1, 2, 0] dL_meanCopies_10 rfl (by decide) rfl (fun ls hl => ?_)
      refine vs_iconst hC dL_meanCopies_11 ?_
      exact vx_ret (vs_iret (D) hC hr hlk hW rfl hw (Nat.le_of_ble_eq_true rfl) (Nat.le_of_ble_eq_true rfl) dL_meanCopies_12)
  have hW : vs_Wd g A _ (vs_W2 h0 (aS 0) (aT 0) (aK 0) n0 V ++ (vs_W1 g aS S ++ (vs_W1 g aT T ++ (vs_W0 g aK K ++ (vs_WD g o D ++ wr))))) _ _ s := hW
  obtain ⟨D2, hD2⟩ : ∃ z : Nat → UInt64, z = vf_upd D 0 r1 := ⟨_, rfl⟩
  have hw := hw D2 hD2
  refine vs_dast (Wo' := vs_W2 h0 (aS 0) (aT 0) (aK 0) n0 V ++ (vs_W1 g aS S ++ (vs_W1 g aT T ++ (vs_W0 g aK K ++ (vs_WD g o D2 ++ wr))))) hC hW 37 rfl (by rw [hD2]; rfl) dL_meanCopies_6 (fun H locs hW => ?_)
  refine vs_goto hC 13 dL_meanCopies_7 (by decide) ?_
  refine vs_iconst hC dL_meanCopies_13 ?_
  exact vx_ret (vs_iret (D2) hC hr hlk hW rfl hw (Nat.le_of_ble_eq_true rfl) (Nat.le_of_ble_eq_true rfl) dL_meanCopies_14)
set_option maxHeartbeats 4000000 in
set_option maxRecDepth 100000 in
theorem c_L_usedShare (l : Launch) (hst : l.stackTraces = false) (g : vs_G) (sd : Nat → Nat) (h0 n0 o : Nat) (aS aT aK : Nat → Nat) (wr : va_W) (V S T K : vs_St) (D : (Nat → UInt64)) (post : Int → (Nat → UInt64) → Prop) (hw : wL_usedShare V S T K D post) : vs_HI l yL_usedShare (Cond.codeWith yL_usedShare cL_usedShare 3 (some .int) hhL_usedShare :: vs_ws) { frames := 7, cells := 1, slots := 6, locals := 111 } g sd [.ref h0, .ref o] (vs_W2 h0 (aS 0) (aT 0) (aK 0) n0 V ++ (vs_W1 g aS S ++ (vs_W1 g aT T ++ (vs_W0 g aK K ++ (vs_WD g o D ++ wr))))) (fun (u : (Nat → UInt64)) => vs_W2 h0 (aS 0) (aT 0) (aK 0) n0 V ++ (vs_W1 g aS S ++ (vs_W1 g aT T ++ (vs_W0 g aK K ++ (vs_WD g o u ++ wr))))) post 1 6 := by
  refine vs_ofH (Qc := fun A => vs_QI g A (fun (u : (Nat → UInt64)) => vs_W2 h0 (aS 0) (aT 0) (aK 0) n0 V ++ (vs_W1 g aS S ++ (vs_W1 g aT T ++ (vs_W0 g aK K ++ (vs_WD g o u ++ wr))))) post) (XC := fun A => vs_QX g A (vs_W2 h0 (aS 0) (aT 0) (aK 0) n0 V ++ (vs_W1 g aS S ++ (vs_W1 g aT T ++ (vs_W0 g aK K ++ (vs_WD g o D ++ wr))))) (fun _ => False)) (by decide +kernel) (Nat.le_of_ble_eq_true rfl) (fun p e s m below meth c A ls hC hr hlk htab hW hX hl => ?_)
  have hC : CallFix p m c cL_usedShare 3 s _ vs_ws RL := hC
  have hl : lv_has ls 3 [(0, .ref h0), (1, .ref o)] := hl
  unfold wL_usedShare at hw
  refine vs_aload_n hC hl 1 dL_usedShare_0 rfl rfl ?_
  refine vs_iconst hC dL_usedShare_1 ?_
  refine vs_aload_n hC hl 0 dL_usedShare_2 rfl rfl ?_
  refine vs_xcallVF [] hC hW hX 0 rfl rfl vk_X2_usedShare vm_L_113 (c_X2_usedShare l hst g sd h0 n0 aS aT aK (vs_WD g o D ++ wr) V S T K  _ _ hw) rfl hl.1 rfl ⟨rfl, rfl⟩ ⟨Nat.le_of_ble_eq_true rfl, Nat.le_of_ble_eq_true rfl⟩ ⟨Nat.le_of_ble_eq_true rfl, Nat.le_of_ble_eq_true rfl⟩ (Nat.le_of_ble_eq_true rfl) dL_usedShare_3 (fun k ce q9 H locs hp hW hq hv hcl => ?_) (fun r1 _ H locs hw hW => ?_)
  · obtain ⟨hp0, hpk⟩ := hp
    subst hpk
    · have hw := hp0 rfl
      refine vs_catch (hh := hhL_usedShare) hC hX htab [] ⟨0, 8, 11, 111⟩ [] rfl (fun _ h => absurd h List.not_mem_nil) rfl (by decide) vt_111 (by decide +kernel) hq hv hcl ?_
      refine vs_astore_n (L' := [(0, .ref h0), (1, .ref o), (2, .ref q9)]) hC hl [1, 2, 0] dL_usedShare_11 rfl (by decide) rfl (fun ls hl => ?_)
      refine vs_iconst hC dL_usedShare_12 ?_
      exact vx_ret (vs_iret (D) hC hr hlk hW rfl hw (Nat.le_of_ble_eq_true rfl) (Nat.le_of_ble_eq_true rfl) dL_usedShare_13)
  have hW : vs_Wd g A _ (vs_W2 h0 (aS 0) (aT 0) (aK 0) n0 V ++ (vs_W1 g aS S ++ (vs_W1 g aT T ++ (vs_W0 g aK K ++ (vs_WD g o D ++ wr))))) _ _ s := hW
  obtain ⟨hn, hw⟩ := hw
  refine vs_f2d hC hn dL_usedShare_6 ?_
  obtain ⟨D2, hD2⟩ : ∃ z : Nat → UInt64, z = vf_upd D 0 (FP.f2d r1) := ⟨_, rfl⟩
  have hw := hw D2 hD2
  refine vs_dast (Wo' := vs_W2 h0 (aS 0) (aT 0) (aK 0) n0 V ++ (vs_W1 g aS S ++ (vs_W1 g aT T ++ (vs_W0 g aK K ++ (vs_WD g o D2 ++ wr))))) hC hW 37 rfl (by rw [hD2]; rfl) dL_usedShare_7 (fun H locs hW => ?_)
  refine vs_goto hC 14 dL_usedShare_8 (by decide) ?_
  refine vs_iconst hC dL_usedShare_14 ?_
  exact vx_ret (vs_iret (D2) hC hr hlk hW rfl hw (Nat.le_of_ble_eq_true rfl) (Nat.le_of_ble_eq_true rfl) dL_usedShare_15)
set_option maxHeartbeats 4000000 in
set_option maxRecDepth 100000 in
theorem case_35 {p : Program} {l : Launch} {e : Env} {s : State} {m : MethodId} {args : Array Value} {below : List Frame} {meth : Method} {c : Code} {H : Heap} {locs : List Loc} {cells slots : Nat} {Q : State → Prop} {ls : Array Slot} {g : vs_G} {sd : Nat → Nat} {A : Nat → Prop} {h0 n0 o od b L : Nat} {aS aT aK aM rM qM : Nat → Nat} {wr : va_W} {V S T K O M : vs_St} {D : Nat → UInt64} {i p1 p2 p3 : Int} {xs : Nat → Int32} {post : vs_St → vs_St → vs_St → vs_St → vs_St → vs_St → (Nat → UInt64) → Prop} (hst : l.stackTraces = false) (hC : CallFix p m c cL_law 9 s args vs_ws RL) (hX : vs_Xs g sd A s s.heap) (hScr : vs_Scr b L xs A s) (hi : 0 ≤ i ∧ i + 4 ≤ L ∧ L ≤ 2048) (hp1 : xs (i + 1).toNat = vs_I p1) (hp2 : xs (i + 2).toNat = vs_I p2) (hp3 : xs (i + 3).toNat = vs_I p3) (hcap : cells + 16 ≤ 603072 ∧ slots + 96 ≤ 7207018) (hW : vs_Wd g A s.heap (vs_W2 h0 (aS 0) (aT 0) (aK 0) n0 V ++ (vs_W1 g aS S ++ (vs_W1 g aT T ++ (vs_W0 g aK K ++ (vs_WO g o O ++ (vs_W3 g aM rM qM M ++ (vs_WD g od D ++ wr))))))) H locs s) (hl : lv_has ls 9 [(0, .ref b), (1, .ref h0), (2, .ref (aM 0)), (3, .ref o), (4, .ref od), (5, .int (vs_I i))])
    (hw : wcase_35 V S T K O M D i p1 p2 p3 post) (kk : ∀ (V' S' T' K' O' M' : vs_St) (D' : Nat → UInt64) (H : Heap) (locs : List Loc) (ls : Array Slot) (c2 s2 : Nat), c2 ≤ cells + 16 → s2 ≤ slots + 96 → post V' S' T' K' O' M' D' → vs_Wd g A s.heap (vs_W2 h0 (aS 0) (aT 0) (aK 0) n0 V' ++ (vs_W1 g aS S' ++ (vs_W1 g aT T' ++ (vs_W0 g aK K' ++ (vs_WO g o O' ++ (vs_W3 g aM rM qM M' ++ (vs_WD g od D' ++ wr))))))) H locs s → lv_has ls 9 [(0, .ref b), (1, .ref h0), (2, .ref (aM 0)), (3, .ref o), (4, .ref od), (5, .int (vs_I i))] → W p l e room_1 s m args below meth c H locs c2 s2 Q (F0 m 2295 ls [])) :
    W p l e room_1 s m args below meth c H locs cells slots Q (F0 m 2039 ls []) := by
  unfold wcase_35 at hw
  refine vs_aload_n hC hl 1 dL_law_2039 rfl rfl ?_
  refine vs_aload hC hl 4 dL_law_2040 rfl ?_
  have hW : vs_Wd g A _ (vs_W2 h0 (aS 0) (aT 0) (aK 0) n0 V ++ (vs_W1 g aS S ++ (vs_W1 g aT T ++ (vs_W0 g aK K ++ (vs_WD g od D ++ (vs_WO g o O ++ (vs_W3 g aM rM qM M ++ wr))))))) _ _ s := vs_Wd.perm hW vs_pOD
  refine vs_callHI [.ref h0, .ref od] hC hW hX vk_L_meanCopies vm_L_248 (c_L_meanCopies l hst g sd h0 n0 od aS aT aK (vs_WO g o O ++ (vs_W3 g aM rM qM M ++ wr)) V S T K D  _ hw) rfl hl.1 rfl ⟨rfl, rfl⟩ ⟨Nat.le_of_ble_eq_true rfl, Nat.le_of_ble_eq_true rfl⟩ ⟨show _ ≤ 603072 by omega, show _ ≤ 7207018 by omega⟩ (Nat.le_of_ble_eq_true rfl) dL_law_2042 (fun r1 D2 H locs hw hW => ?_)
  have hW : vs_Wd g A _ (vs_W2 h0 (aS 0) (aT 0) (aK 0) n0 V ++ (vs_W1 g aS S ++ (vs_W1 g aT T ++ (vs_W0 g aK K ++ (vs_WD g od D2 ++ (vs_WO g o O ++ (vs_W3 g aM rM qM M ++ wr))))))) _ _ s := hW
  have hW : vs_Wd g A _ (vs_W2 h0 (aS 0) (aT 0) (aK 0) n0 V ++ (vs_W1 g aS S ++ (vs_W1 g aT T ++ (vs_W0 g aK K ++ (vs_WO g o O ++ (vs_W3 g aM rM qM M ++ (vs_WD g od D2 ++ wr))))))) _ _ s := vs_Wd.perm hW (List.Perm.symm vs_pOD)
  refine vs_istore (L' := [(0, .ref b), (1, .ref h0), (2, .ref (aM 0)), (3, .ref o), (4, .ref od), (5, .int (vs_I i)), (6, .int (vs_I r1))]) hC hl [1, 2, 3, 4, 5, 6, 0] dL_law_2045 (by decide) rfl (fun ls hl => ?_)
  refine vs_aload_n hC hl 2 dL_law_2047 rfl rfl ?_
  have hW : vs_Wd g A _ (vs_W3 g aM rM qM M ++ (vs_W2 h0 (aS 0) (aT 0) (aK 0) n0 V ++ (vs_W1 g aS S ++ (vs_W1 g aT T ++ (vs_W0 g aK K ++ (vs_WO g o O ++ (vs_WD g od D2 ++ wr))))))) _ _ s := vs_Wd.perm hW vs_p6
  refine vs_callVD [] hC hW 0 rfl rfl vk_X3_meanCopies vm_L_251 (c_X3_meanCopies l g aM rM qM (vs_W2 h0 (aS 0) (aT 0) (aK 0) n0 V ++ (vs_W1 g aS S ++ (vs_W1 g aT T ++ (vs_W0 g aK K ++ (vs_WO g o O ++ (vs_WD g od D2 ++ wr)))))) M  _ hw) rfl hl.1 rfl ⟨rfl, rfl⟩ ⟨Nat.le_of_ble_eq_true rfl, Nat.le_of_ble_eq_true rfl⟩ ⟨show _ ≤ 603072 by omega, show _ ≤ 7207018 by omega⟩ (Nat.le_of_ble_eq_true rfl) dL_law_2048 (fun r3 M4 H locs hw hW => ?_)
  have hW : vs_Wd g A _ (vs_W3 g aM rM qM M4 ++ (vs_W2 h0 (aS 0) (aT 0) (aK 0) n0 V ++ (vs_W1 g aS S ++ (vs_W1 g aT T ++ (vs_W0 g aK K ++ (vs_WO g o O ++ (vs_WD g od D2 ++ wr))))))) _ _ s := hW
  have hW : vs_Wd g A _ (vs_W2 h0 (aS 0) (aT 0) (aK 0) n0 V ++ (vs_W1 g aS S ++ (vs_W1 g aT T ++ (vs_W0 g aK K ++ (vs_WO g o O ++ (vs_W3 g aM rM qM M4 ++ (vs_WD g od D2 ++ wr))))))) _ _ s := vs_Wd.perm hW (List.Perm.symm vs_p6)
  refine vs_dstore (L' := [(0, .ref b), (1, .ref h0), (2, .ref (aM 0)), (3, .ref o), (4, .ref od), (5, .int (vs_I i)), (6, .int (vs_I r1)), (7, .double r3)]) hC hl [1, 2, 3, 4, 5, 6, 7, 0] dL_law_2051 (by decide) rfl (fun ls hl => ?_)
  refine vs_aload_n hC hl 2 dL_law_2053 rfl rfl ?_
  have hW : vs_Wd g A _ (vs_W3 g aM rM qM M4 ++ (vs_W2 h0 (aS 0) (aT 0) (aK 0) n0 V ++ (vs_W1 g aS S ++ (vs_W1 g aT T ++ (vs_W0 g aK K ++ (vs_WO g o O ++ (vs_WD g od D2 ++ wr))))))) _ _ s := vs_Wd.perm hW vs_p6
  refine vs_callVI [] hC hW 0 rfl rfl vk_X3_thrown vm_L_133 (c_X3_thrown l g aM rM qM (vs_W2 h0 (aS 0) (aT 0) (aK 0) n0 V ++ (vs_W1 g aS S ++ (vs_W1 g aT T ++ (vs_W0 g aK K ++ (vs_WO g o O ++ (vs_WD g od D2 ++ wr)))))) M4  _ hw) rfl hl.1 rfl ⟨rfl, rfl⟩ ⟨Nat.le_of_ble_eq_true rfl, Nat.le_of_ble_eq_true rfl⟩ ⟨show _ ≤ 603072 by omega, show _ ≤ 7207018 by omega⟩ (Nat.le_of_ble_eq_true rfl) dL_law_2054 (fun r5 _ H locs hw hW => ?_)
  have hW : vs_Wd g A _ (vs_W3 g aM rM qM M4 ++ (vs_W2 h0 (aS 0) (aT 0) (aK 0) n0 V ++ (vs_W1 g aS S ++ (vs_W1 g aT T ++ (vs_W0 g aK K ++ (vs_WO g o O ++ (vs_WD g od D2 ++ wr))))))) _ _ s := hW
  have hW : vs_Wd g A _ (vs_W2 h0 (aS 0) (aT 0) (aK 0) n0 V ++ (vs_W1 g aS S ++ (vs_W1 g aT T ++ (vs_W0 g aK K ++ (vs_WO g o O ++ (vs_W3 g aM rM qM M4 ++ (vs_WD g od D2 ++ wr))))))) _ _ s := vs_Wd.perm hW (List.Perm.symm vs_p6)
  refine vs_iload hC hl 6 dL_law_2057 rfl ?_
  obtain ⟨hx, hw⟩ := hw
  obtain ⟨hy, hw⟩ := hw
  obtain ⟨hwt, hwf⟩ := hw
  refine vs_icmp_eq hC 2064 hx hy dL_law_2059 (by decide) (fun hc => ?_) (fun hc => ?_)
  · have hw := hwt hc
    clear hwt hwf hc
    refine vs_iload hC hl 6 dL_law_2064 rfl ?_
    obtain ⟨hx, hw⟩ := hw
    obtain ⟨hwt, hwf⟩ := hw
    refine vs_if_ne hC 2101 hx dL_law_2066 (by decide) (fun hc => ?_) (fun hc => ?_)
    · have hw := hwt hc
      clear hwt hwf hc
      refine vs_goto hC 2295 dL_law_2101 (by decide) ?_
      exact kk V S T K O M4 D2 _ _ _ _ _ (by omega) (by omega) hw hW (lv_sub hl [0, 1, 2, 3, 4, 5] rfl)
    · have hw := hwf hc
      clear hwt hwf hc
      refine vs_aload hC hl 4 dL_law_2069 rfl ?_
      refine vs_iconst hC dL_law_2071 ?_
      refine vs_dald hC hW 863 rfl dL_law_2072 ?_
      refine vs_dload hC hl 7 dL_law_2073 rfl ?_
      refine vs_rdcmp hC dL_law_2075 ?_
      obtain ⟨hx, hw⟩ := hw
      obtain ⟨hwt, hwf⟩ := hw
      refine vs_if_eq hC 2101 hx dL_law_2076 (by decide) (fun hc => ?_) (fun hc => ?_)
      · have hw := hwt hc
        clear hwt hwf hc
        refine vs_goto hC 2295 dL_law_2101 (by decide) ?_
        exact kk V S T K O M4 D2 _ _ _ _ _ (by omega) (by omega) hw hW (lv_sub hl [0, 1, 2, 3, 4, 5] rfl)
      · have hw := hwf hc
        clear hwt hwf hc
        refine vs_aload hC hl 4 dL_law_2079 rfl ?_
        refine vs_iconst hC dL_law_2081 ?_
        refine vs_dald hC hW 863 rfl dL_law_2082 ?_
        refine vs_aload hC hl 4 dL_law_2083 rfl ?_
        refine vs_iconst hC dL_law_2085 ?_
        refine vs_dald hC hW 863 rfl dL_law_2086 ?_
        refine vs_rdcmp hC dL_law_2087 ?_
        obtain ⟨hx, hw⟩ := hw
        obtain ⟨hwt, hwf⟩ := hw
        refine vs_if_eq hC 2099 hx dL_law_2088 (by decide) (fun hc => ?_) (fun hc => ?_)
        · have hw := hwt hc
          clear hwt hwf hc
          refine vs_iconst hC dL_law_2099 ?_
          exact hw.elim
        · have hw := hwf hc
          clear hwt hwf hc
          refine vs_dload hC hl 7 dL_law_2091 rfl ?_
          refine vs_dload hC hl 7 dL_law_2093 rfl ?_
          refine vs_rdcmp hC dL_law_2095 ?_
          obtain ⟨hx, hw⟩ := hw
          obtain ⟨hwt, hwf⟩ := hw
          refine vs_if_ne hC 2101 hx dL_law_2096 (by decide) (fun hc => ?_) (fun hc => ?_)
          · have hw := hwt hc
            clear hwt hwf hc
            refine vs_goto hC 2295 dL_law_2101 (by decide) ?_
            exact kk V S T K O M4 D2 _ _ _ _ _ (by omega) (by omega) hw hW (lv_sub hl [0, 1, 2, 3, 4, 5] rfl)
          · have hw := hwf hc
            clear hwt hwf hc
            refine vs_iconst hC dL_law_2099 ?_
            exact hw.elim
  · have hw := hwf hc
    clear hwt hwf hc
    refine vs_iconst hC dL_law_2062 ?_
    exact hw.elim
set_option maxHeartbeats 4000000 in
set_option maxRecDepth 100000 in
theorem case_36 {p : Program} {l : Launch} {e : Env} {s : State} {m : MethodId} {args : Array Value} {below : List Frame} {meth : Method} {c : Code} {H : Heap} {locs : List Loc} {cells slots : Nat} {Q : State → Prop} {ls : Array Slot} {g : vs_G} {sd : Nat → Nat} {A : Nat → Prop} {h0 n0 o od b L : Nat} {aS aT aK aM rM qM : Nat → Nat} {wr : va_W} {V S T K O M : vs_St} {D : Nat → UInt64} {i p1 p2 p3 : Int} {xs : Nat → Int32} {post : vs_St → vs_St → vs_St → vs_St → vs_St → vs_St → (Nat → UInt64) → Prop} (hst : l.stackTraces = false) (hC : CallFix p m c cL_law 9 s args vs_ws RL) (hX : vs_Xs g sd A s s.heap) (hScr : vs_Scr b L xs A s) (hi : 0 ≤ i ∧ i + 4 ≤ L ∧ L ≤ 2048) (hp1 : xs (i + 1).toNat = vs_I p1) (hp2 : xs (i + 2).toNat = vs_I p2) (hp3 : xs (i + 3).toNat = vs_I p3) (hcap : cells + 16 ≤ 603072 ∧ slots + 96 ≤ 7207018) (hW : vs_Wd g A s.heap (vs_W2 h0 (aS 0) (aT 0) (aK 0) n0 V ++ (vs_W1 g aS S ++ (vs_W1 g aT T ++ (vs_W0 g aK K ++ (vs_WO g o O ++ (vs_W3 g aM rM qM M ++ (vs_WD g od D ++ wr))))))) H locs s) (hl : lv_has ls 9 [(0, .ref b), (1, .ref h0), (2, .ref (aM 0)), (3, .ref o), (4, .ref od), (5, .int (vs_I i))])
    (hw : wcase_36 V S T K O M D i p1 p2 p3 post) (kk : ∀ (V' S' T' K' O' M' : vs_St) (D' : Nat → UInt64) (H : Heap) (locs : List Loc) (ls : Array Slot) (c2 s2 : Nat), c2 ≤ cells + 16 → s2 ≤ slots + 96 → post V' S' T' K' O' M' D' → vs_Wd g A s.heap (vs_W2 h0 (aS 0) (aT 0) (aK 0) n0 V' ++ (vs_W1 g aS S' ++ (vs_W1 g aT T' ++ (vs_W0 g aK K' ++ (vs_WO g o O' ++ (vs_W3 g aM rM qM M' ++ (vs_WD g od D' ++ wr))))))) H locs s → lv_has ls 9 [(0, .ref b), (1, .ref h0), (2, .ref (aM 0)), (3, .ref o), (4, .ref od), (5, .int (vs_I i))] → W p l e room_1 s m args below meth c H locs c2 s2 Q (F0 m 2295 ls [])) :
    W p l e room_1 s m args below meth c H locs cells slots Q (F0 m 2104 ls []) := by
  unfold wcase_36 at hw
  refine vs_aload_n hC hl 1 dL_law_2104 rfl rfl ?_
  refine vs_aload hC hl 4 dL_law_2105 rfl ?_
  have hW : vs_Wd g A _ (vs_W2 h0 (aS 0) (aT 0) (aK 0) n0 V ++ (vs_W1 g aS S ++ (vs_W1 g aT T ++ (vs_W0 g aK K ++ (vs_WD g od D ++ (vs_WO g o O ++ (vs_W3 g aM rM qM M ++ wr))))))) _ _ s := vs_Wd.perm hW vs_pOD
  refine vs_callHI [.ref h0, .ref od] hC hW hX vk_L_usedShare vm_L_252 (c_L_usedShare l hst g sd h0 n0 od aS aT aK (vs_WO g o O ++ (vs_W3 g aM rM qM M ++ wr)) V S T K D  _ hw) rfl hl.1 rfl ⟨rfl, rfl⟩ ⟨Nat.le_of_ble_eq_true rfl, Nat.le_of_ble_eq_true rfl⟩ ⟨show _ ≤ 603072 by omega, show _ ≤ 7207018 by omega⟩ (Nat.le_of_ble_eq_true rfl) dL_law_2107 (fun r1 D2 H locs hw hW => ?_)
  have hW : vs_Wd g A _ (vs_W2 h0 (aS 0) (aT 0) (aK 0) n0 V ++ (vs_W1 g aS S ++ (vs_W1 g aT T ++ (vs_W0 g aK K ++ (vs_WD g od D2 ++ (vs_WO g o O ++ (vs_W3 g aM rM qM M ++ wr))))))) _ _ s := hW
  have hW : vs_Wd g A _ (vs_W2 h0 (aS 0) (aT 0) (aK 0) n0 V ++ (vs_W1 g aS S ++ (vs_W1 g aT T ++ (vs_W0 g aK K ++ (vs_WO g o O ++ (vs_W3 g aM rM qM M ++ (vs_WD g od D2 ++ wr))))))) _ _ s := vs_Wd.perm hW (List.Perm.symm vs_pOD)
  refine vs_istore (L' := [(0, .ref b), (1, .ref h0), (2, .ref (aM 0)), (3, .ref o), (4, .ref od), (5, .int (vs_I i)), (6, .int (vs_I r1))]) hC hl [1, 2, 3, 4, 5, 6, 0] dL_law_2110 (by decide) rfl (fun ls hl => ?_)
  refine vs_aload_n hC hl 2 dL_law_2112 rfl rfl ?_
  have hW : vs_Wd g A _ (vs_W3 g aM rM qM M ++ (vs_W2 h0 (aS 0) (aT 0) (aK 0) n0 V ++ (vs_W1 g aS S ++ (vs_W1 g aT T ++ (vs_W0 g aK K ++ (vs_WO g o O ++ (vs_WD g od D2 ++ wr))))))) _ _ s := vs_Wd.perm hW vs_p6
  refine vs_callVF [] hC hW 0 rfl rfl vk_X3_usedShare vm_L_254 (c_X3_usedShare l g aM rM qM (vs_W2 h0 (aS 0) (aT 0) (aK 0) n0 V ++ (vs_W1 g aS S ++ (vs_W1 g aT T ++ (vs_W0 g aK K ++ (vs_WO g o O ++ (vs_WD g od D2 ++ wr)))))) M  _ hw) rfl hl.1 rfl ⟨rfl, rfl⟩ ⟨Nat.le_of_ble_eq_true rfl, Nat.le_of_ble_eq_true rfl⟩ ⟨show _ ≤ 603072 by omega, show _ ≤ 7207018 by omega⟩ (Nat.le_of_ble_eq_true rfl) dL_law_2113 (fun r3 M4 H locs hw hW => ?_)
  have hW : vs_Wd g A _ (vs_W3 g aM rM qM M4 ++ (vs_W2 h0 (aS 0) (aT 0) (aK 0) n0 V ++ (vs_W1 g aS S ++ (vs_W1 g aT T ++ (vs_W0 g aK K ++ (vs_WO g o O ++ (vs_WD g od D2 ++ wr))))))) _ _ s := hW
  have hW : vs_Wd g A _ (vs_W2 h0 (aS 0) (aT 0) (aK 0) n0 V ++ (vs_W1 g aS S ++ (vs_W1 g aT T ++ (vs_W0 g aK K ++ (vs_WO g o O ++ (vs_W3 g aM rM qM M4 ++ (vs_WD g od D2 ++ wr))))))) _ _ s := vs_Wd.perm hW (List.Perm.symm vs_p6)
  refine vs_fstore (L' := [(0, .ref b), (1, .ref h0), (2, .ref (aM 0)), (3, .ref o), (4, .ref od), (5, .int (vs_I i)), (6, .int (vs_I r1)), (7, .float r3)]) hC hl [1, 2, 3, 4, 5, 6, 7, 0] dL_law_2116 (by decide) rfl (fun ls hl => ?_)
  refine vs_aload_n hC hl 2 dL_law_2118 rfl rfl ?_
  have hW : vs_Wd g A _ (vs_W3 g aM rM qM M4 ++ (vs_W2 h0 (aS 0) (aT 0) (aK 0) n0 V ++ (vs_W1 g aS S ++ (vs_W1 g aT T ++ (vs_W0 g aK K ++ (vs_WO g o O ++ (vs_WD g od D2 ++ wr))))))) _ _ s := vs_Wd.perm hW vs_p6
  refine vs_callVI [] hC hW 0 rfl rfl vk_X3_thrown vm_L_133 (c_X3_thrown l g aM rM qM (vs_W2 h0 (aS 0) (aT 0) (aK 0) n0 V ++ (vs_W1 g aS S ++ (vs_W1 g aT T ++ (vs_W0 g aK K ++ (vs_WO g o O ++ (vs_WD g od D2 ++ wr)))))) M4  _ hw) rfl hl.1 rfl ⟨rfl, rfl⟩ ⟨Nat.le_of_ble_eq_true rfl, Nat.le_of_ble_eq_true rfl⟩ ⟨show _ ≤ 603072 by omega, show _ ≤ 7207018 by omega⟩ (Nat.le_of_ble_eq_true rfl) dL_law_2119 (fun r5 _ H locs hw hW => ?_)
  have hW : vs_Wd g A _ (vs_W3 g aM rM qM M4 ++ (vs_W2 h0 (aS 0) (aT 0) (aK 0) n0 V ++ (vs_W1 g aS S ++ (vs_W1 g aT T ++ (vs_W0 g aK K ++ (vs_WO g o O ++ (vs_WD g od D2 ++ wr))))))) _ _ s := hW
  have hW : vs_Wd g A _ (vs_W2 h0 (aS 0) (aT 0) (aK 0) n0 V ++ (vs_W1 g aS S ++ (vs_W1 g aT T ++ (vs_W0 g aK K ++ (vs_WO g o O ++ (vs_W3 g aM rM qM M4 ++ (vs_WD g od D2 ++ wr))))))) _ _ s := vs_Wd.perm hW (List.Perm.symm vs_p6)
  refine vs_iload hC hl 6 dL_law_2122 rfl ?_
  obtain ⟨hx, hw⟩ := hw
  obtain ⟨hy, hw⟩ := hw
  obtain ⟨hwt, hwf⟩ := hw
  refine vs_icmp_eq hC 2129 hx hy dL_law_2124 (by decide) (fun hc => ?_) (fun hc => ?_)
  · have hw := hwt hc
    clear hwt hwf hc
    refine vs_iload hC hl 6 dL_law_2129 rfl ?_
    obtain ⟨hx, hw⟩ := hw
    obtain ⟨hwt, hwf⟩ := hw
    refine vs_if_ne hC 2167 hx dL_law_2131 (by decide) (fun hc => ?_) (fun hc => ?_)
    · have hw := hwt hc
      clear hwt hwf hc
      refine vs_goto hC 2295 dL_law_2167 (by decide) ?_
      exact kk V S T K O M4 D2 _ _ _ _ _ (by omega) (by omega) hw hW (lv_sub hl [0, 1, 2, 3, 4, 5] rfl)
    · have hw := hwf hc
      clear hwt hwf hc
      refine vs_aload hC hl 4 dL_law_2134 rfl ?_
      refine vs_iconst hC dL_law_2136 ?_
      refine vs_dald hC hW 863 rfl dL_law_2137 ?_
      refine vs_fload hC hl 7 dL_law_2138 rfl ?_
      obtain ⟨hn, hw⟩ := hw
      refine vs_f2d hC hn dL_law_2140 ?_
      refine vs_rdcmp hC dL_law_2141 ?_
      obtain ⟨hx, hw⟩ := hw
      obtain ⟨hwt, hwf⟩ := hw
      refine vs_if_eq hC 2167 hx dL_law_2142 (by decide) (fun hc => ?_) (fun hc => ?_)
      · have hw := hwt hc
        clear hwt hwf hc
        refine vs_goto hC 2295 dL_law_2167 (by decide) ?_
        exact kk V S T K O M4 D2 _ _ _ _ _ (by omega) (by omega) hw hW (lv_sub hl [0, 1, 2, 3, 4, 5] rfl)
      · have hw := hwf hc
        clear hwt hwf hc
        refine vs_aload hC hl 4 dL_law_2145 rfl ?_
        refine vs_iconst hC dL_law_2147 ?_
        refine vs_dald hC hW 863 rfl dL_law_2148 ?_
        refine vs_aload hC hl 4 dL_law_2149 rfl ?_
        refine vs_iconst hC dL_law_2151 ?_
        refine vs_dald hC hW 863 rfl dL_law_2152 ?_
        refine vs_rdcmp hC dL_law_2153 ?_
        obtain ⟨hx, hw⟩ := hw
        obtain ⟨hwt, hwf⟩ := hw
        refine vs_if_eq hC 2165 hx dL_law_2154 (by decide) (fun hc => ?_) (fun hc => ?_)
        · have hw := hwt hc
          clear hwt hwf hc
          refine vs_iconst hC dL_law_2165 ?_
          exact hw.elim
        · have hw := hwf hc
          clear hwt hwf hc
          refine vs_fload hC hl 7 dL_law_2157 rfl ?_
          refine vs_fload hC hl 7 dL_law_2159 rfl ?_
          refine vs_rfcmp hC dL_law_2161 ?_
          obtain ⟨hx, hw⟩ := hw
          obtain ⟨hwt, hwf⟩ := hw
          refine vs_if_ne hC 2167 hx dL_law_2162 (by decide) (fun hc => ?_) (fun hc => ?_)
          · have hw := hwt hc
            clear hwt hwf hc
            refine vs_goto hC 2295 dL_law_2167 (by decide) ?_
            exact kk V S T K O M4 D2 _ _ _ _ _ (by omega) (by omega) hw hW (lv_sub hl [0, 1, 2, 3, 4, 5] rfl)
          · have hw := hwf hc
            clear hwt hwf hc
            refine vs_iconst hC dL_law_2165 ?_
            exact hw.elim
  · have hw := hwf hc
    clear hwt hwf hc
    refine vs_iconst hC dL_law_2127 ?_
    exact hw.elim
