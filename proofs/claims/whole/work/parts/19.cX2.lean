/-! the walks of class X2, by program -/
set_option maxHeartbeats 4000000 in
set_option maxRecDepth 100000 in
theorem c_X2_addDisk (l : Launch) (hst : l.stackTraces = false) (g : vs_G) (sd : Nat → Nat) (h0 n0 : Nat) (aS aT aK : Nat → Nat) (wr : va_W) (V S T K : vs_St) (x1 : Int) (post : Int → vs_St → Prop) (px : Nat → Prop) (hw : wX2_addDisk V S T K x1 post px) : vs_XI l yX2_addDisk (Cond.code yX2_addDisk cX2_addDisk 2 (some .int) :: vs_ws) { frames := 6, cells := 1, slots := 6, locals := 90 } g sd [.ref h0, .int (vs_I x1)] (vs_W2 h0 (aS 0) (aT 0) (aK 0) n0 V ++ (vs_W1 g aS S ++ (vs_W1 g aT T ++ (vs_W0 g aK K ++ wr)))) (fun (u : vs_St) => vs_W2 h0 (aS 0) (aT 0) (aK 0) n0 V ++ (vs_W1 g aS u ++ (vs_W1 g aT T ++ (vs_W0 g aK K ++ wr)))) post px 1 6 := by
  refine vs_ofX (Qc := fun A => vs_QI g A (fun (u : vs_St) => vs_W2 h0 (aS 0) (aT 0) (aK 0) n0 V ++ (vs_W1 g aS u ++ (vs_W1 g aT T ++ (vs_W0 g aK K ++ wr)))) post) (XC := fun A => vs_QX g A (vs_W2 h0 (aS 0) (aT 0) (aK 0) n0 V ++ (vs_W1 g aS S ++ (vs_W1 g aT T ++ (vs_W0 g aK K ++ wr)))) px) (by decide +kernel) (Nat.le_of_ble_eq_true rfl) (fun p e s m below meth c A ls hC hr hlk ht hW hX hl => ?_)
  have hC : CallFix p m c cX2_addDisk 2 s _ vs_ws RX2 := hC
  have hl : lv_has ls 2 [(0, .ref h0), (1, .int (vs_I x1))] := hl
  unfold wX2_addDisk at hw
  refine vs_iload_n hC hl 1 dX2_addDisk_0 rfl rfl ?_
  refine vs_iconst hC dX2_addDisk_1 ?_
  obtain ⟨hx, hw⟩ := hw
  obtain ⟨hwt, hwf⟩ := hw
  refine vs_icmp_lt hC 11 hx ⟨by decide, by decide⟩ dX2_addDisk_2 (by decide) (fun hc => ?_) (fun hc => ?_)
  · have hw := hwt hc
    clear hwt hwf hc
    exact vs_throw 1 0 hC hst hlk ht hW hX vs_ex1 rfl hl.1 hw dX2_addDisk_11 dX2_addDisk_14 dX2_addDisk_15 dX2_addDisk_17 dX2_addDisk_20 (Nat.le_of_ble_eq_true rfl) (Nat.le_of_ble_eq_true rfl) (Nat.le_of_ble_eq_true rfl) (Nat.le_of_ble_eq_true rfl) (Nat.le_of_ble_eq_true rfl) (Nat.le_of_ble_eq_true rfl)
  · have hw := hwf hc
    clear hwt hwf hc
    refine vs_iload_n hC hl 1 dX2_addDisk_5 rfl rfl ?_
    refine vs_bipush hC dX2_addDisk_6 (by decide +kernel) ?_
    obtain ⟨hx, hw⟩ := hw
    obtain ⟨hwt, hwf⟩ := hw
    refine vs_icmp_le hC 21 hx ⟨by decide, by decide⟩ dX2_addDisk_8 (by decide) (fun hc => ?_) (fun hc => ?_)
    · have hw := hwt hc
      clear hwt hwf hc
      refine vs_aload_n hC hl 0 dX2_addDisk_21 rfl rfl ?_
      refine vs_get hC hW 0 rfl rfl vs_inX2 0 (by decide) vf_X2_12 rfl dX2_addDisk_22 ?_
      refine vs_getN hC hW 1 rfl rfl vs_inX1 0 (by decide) vn_X2_44 rfl dX2_addDisk_25 ?_
      refine vs_bipush hC dX2_addDisk_28 (by decide +kernel) ?_
      obtain ⟨hx, hw⟩ := hw
      obtain ⟨hwt, hwf⟩ := hw
      refine vs_icmp_lt hC 43 hx ⟨by decide, by decide⟩ dX2_addDisk_30 (by decide) (fun hc => ?_) (fun hc => ?_)
      · have hw := hwt hc
        clear hwt hwf hc
        refine vs_aload_n hC hl 0 dX2_addDisk_43 rfl rfl ?_
        refine vs_get hC hW 0 rfl rfl vs_inX2 0 (by decide) vf_X2_12 rfl dX2_addDisk_44 ?_
        refine vs_iload_n hC hl 1 dX2_addDisk_47 rfl rfl ?_
        have hW : vs_Wd g A _ (vs_W1 g aS S ++ (vs_W2 h0 (aS 0) (aT 0) (aK 0) n0 V ++ (vs_W1 g aT T ++ (vs_W0 g aK K ++ wr)))) _ _ s := vs_Wd.perm hW vs_p2
        refine vs_callNI [.int (vs_I x1)] hC hW 0 rfl rfl vk_X1_installDisk vo_X2_52 (c_X1_installDisk l g aS (vs_W2 h0 (aS 0) (aT 0) (aK 0) n0 V ++ (vs_W1 g aT T ++ (vs_W0 g aK K ++ wr))) S x1 _ hw) rfl hl.1 rfl ⟨rfl, rfl⟩ ⟨Nat.le_of_ble_eq_true rfl, Nat.le_of_ble_eq_true rfl⟩ ⟨Nat.le_of_ble_eq_true rfl, Nat.le_of_ble_eq_true rfl⟩ (Nat.le_of_ble_eq_true rfl) dX2_addDisk_48 (fun r1 S2 H locs hw hW => ?_)
        have hW : vs_Wd g A _ (vs_W1 g aS S2 ++ (vs_W2 h0 (aS 0) (aT 0) (aK 0) n0 V ++ (vs_W1 g aT T ++ (vs_W0 g aK K ++ wr)))) _ _ s := hW
        have hW : vs_Wd g A _ (vs_W2 h0 (aS 0) (aT 0) (aK 0) n0 V ++ (vs_W1 g aS S2 ++ (vs_W1 g aT T ++ (vs_W0 g aK K ++ wr)))) _ _ s := vs_Wd.perm hW (List.Perm.symm vs_p2)
        exact vx_ret (vs_iret (S2) hC hr hlk hW rfl hw (Nat.le_of_ble_eq_true rfl) (Nat.le_of_ble_eq_true rfl) dX2_addDisk_51)
      · have hw := hwf hc
        clear hwt hwf hc
        exact vs_throw 2 1 hC hst hlk ht hW hX vs_ex2 rfl hl.1 hw dX2_addDisk_33 dX2_addDisk_36 dX2_addDisk_37 dX2_addDisk_39 dX2_addDisk_42 (Nat.le_of_ble_eq_true rfl) (Nat.le_of_ble_eq_true rfl) (Nat.le_of_ble_eq_true rfl) (Nat.le_of_ble_eq_true rfl) (Nat.le_of_ble_eq_true rfl) (Nat.le_of_ble_eq_true rfl)
    · have hw := hwf hc
      clear hwt hwf hc
      exact vs_throw 1 0 hC hst hlk ht hW hX vs_ex1 rfl hl.1 hw dX2_addDisk_11 dX2_addDisk_14 dX2_addDisk_15 dX2_addDisk_17 dX2_addDisk_20 (Nat.le_of_ble_eq_true rfl) (Nat.le_of_ble_eq_true rfl) (Nat.le_of_ble_eq_true rfl) (Nat.le_of_ble_eq_true rfl) (Nat.le_of_ble_eq_true rfl) (Nat.le_of_ble_eq_true rfl)
set_option maxHeartbeats 4000000 in
set_option maxRecDepth 100000 in
theorem c_X2_diskCount (l : Launch) (g : vs_G) (h0 n0 : Nat) (aS aT aK : Nat → Nat) (wr : va_W) (V S T K : vs_St) (post : Int → Prop) (hw : wX2_diskCount V S T K post) : vs_MI l yX2_diskCount (Cond.code yX2_diskCount cX2_diskCount 1 (some .int) :: vs_ws) { frames := 0, cells := 0, slots := 0, locals := 0 } g [.ref h0] (vs_W2 h0 (aS 0) (aT 0) (aK 0) n0 V ++ (vs_W1 g aS S ++ (vs_W1 g aT T ++ (vs_W0 g aK K ++ wr)))) (fun (_ : Unit) => vs_W2 h0 (aS 0) (aT 0) (aK 0) n0 V ++ (vs_W1 g aS S ++ (vs_W1 g aT T ++ (vs_W0 g aK K ++ wr)))) (fun v (_ : Unit) => post v) 0 0 := by
  refine vs_ofW (Qc := fun A => vs_QI g A (fun (_ : Unit) => vs_W2 h0 (aS 0) (aT 0) (aK 0) n0 V ++ (vs_W1 g aS S ++ (vs_W1 g aT T ++ (vs_W0 g aK K ++ wr)))) (fun v (_ : Unit) => post v)) (by decide +kernel) (Nat.le_of_ble_eq_true rfl) (fun p e s m below meth c A ls hC hr hlk hW hl => ?_)
  have hC : CallFix p m c cX2_diskCount 1 s _ vs_ws RX2 := hC
  have hl : lv_has ls 1 [(0, .ref h0)] := hl
  unfold wX2_diskCount at hw
  refine vs_aload_n hC hl 0 dX2_diskCount_0 rfl rfl ?_
  refine vs_get hC hW 0 rfl rfl vs_inX2 0 (by decide) vf_X2_12 rfl dX2_diskCount_1 ?_
  refine vs_getN hC hW 1 rfl rfl vs_inX1 0 (by decide) vn_X2_44 rfl dX2_diskCount_4 ?_
  exact vs_iret () hC hr hlk hW rfl hw (Nat.le_of_ble_eq_true rfl) (Nat.le_of_ble_eq_true rfl) dX2_diskCount_7
set_option maxHeartbeats 4000000 in
set_option maxRecDepth 100000 in
theorem c_X2_checkDisk (l : Launch) (hst : l.stackTraces = false) (g : vs_G) (sd : Nat → Nat) (h0 n0 : Nat) (aS aT aK : Nat → Nat) (wr : va_W) (V S T K : vs_St) (x1 : Int) (post : Prop) (px : Nat → Prop) (hw : wX2_checkDisk V S T K x1 post px) : vs_XV l yX2_checkDisk (Cond.code yX2_checkDisk cX2_checkDisk 2 (none) :: vs_ws) { frames := 6, cells := 1, slots := 6, locals := 90 } g sd [.ref h0, .int (vs_I x1)] (vs_W2 h0 (aS 0) (aT 0) (aK 0) n0 V ++ (vs_W1 g aS S ++ (vs_W1 g aT T ++ (vs_W0 g aK K ++ wr)))) (fun (_ : Unit) => vs_W2 h0 (aS 0) (aT 0) (aK 0) n0 V ++ (vs_W1 g aS S ++ (vs_W1 g aT T ++ (vs_W0 g aK K ++ wr)))) (fun (_ : Unit) => post) px 1 6 := by
  refine vs_ofX (Qc := fun A => vs_QV g A (fun (_ : Unit) => vs_W2 h0 (aS 0) (aT 0) (aK 0) n0 V ++ (vs_W1 g aS S ++ (vs_W1 g aT T ++ (vs_W0 g aK K ++ wr)))) (fun (_ : Unit) => post)) (XC := fun A => vs_QX g A (vs_W2 h0 (aS 0) (aT 0) (aK 0) n0 V ++ (vs_W1 g aS S ++ (vs_W1 g aT T ++ (vs_W0 g aK K ++ wr)))) px) (by decide +kernel) (Nat.le_of_ble_eq_true rfl) (fun p e s m below meth c A ls hC hr hlk ht hW hX hl => ?_)
  have hC : CallFix p m c cX2_checkDisk 2 s _ vs_ws RX2 := hC
  have hl : lv_has ls 2 [(0, .ref h0), (1, .int (vs_I x1))] := hl
  unfold wX2_checkDisk at hw
  refine vs_iload_n hC hl 1 dX2_checkDisk_0 rfl rfl ?_
  obtain ⟨hx, hw⟩ := hw
  obtain ⟨hwt, hwf⟩ := hw
  refine vs_if_lt hC 15 hx dX2_checkDisk_1 (by decide) (fun hc => ?_) (fun hc => ?_)
  · have hw := hwt hc
    clear hwt hwf hc
    exact vs_throwW 3 19 hC hst hlk ht hW hX vs_ex3 rfl hl.1 hw dX2_checkDisk_15 dX2_checkDisk_18 dX2_checkDisk_19 dX2_checkDisk_22 dX2_checkDisk_25 (Nat.le_of_ble_eq_true rfl) (Nat.le_of_ble_eq_true rfl) (Nat.le_of_ble_eq_true rfl) (Nat.le_of_ble_eq_true rfl) (Nat.le_of_ble_eq_true rfl) (Nat.le_of_ble_eq_true rfl)
  · have hw := hwf hc
    clear hwt hwf hc
    refine vs_iload_n hC hl 1 dX2_checkDisk_4 rfl rfl ?_
    refine vs_aload_n hC hl 0 dX2_checkDisk_5 rfl rfl ?_
    refine vs_get hC hW 0 rfl rfl vs_inX2 0 (by decide) vf_X2_12 rfl dX2_checkDisk_6 ?_
    refine vs_getN hC hW 1 rfl rfl vs_inX1 0 (by decide) vn_X2_44 rfl dX2_checkDisk_9 ?_
    obtain ⟨hx, hw⟩ := hw
    obtain ⟨hy, hw⟩ := hw
    obtain ⟨hwt, hwf⟩ := hw
    refine vs_icmp_lt hC 26 hx hy dX2_checkDisk_12 (by decide) (fun hc => ?_) (fun hc => ?_)
    · have hw := hwt hc
      clear hwt hwf hc
      exact vx_ret (vs_vret () hC hr hlk hW rfl hw (Nat.le_of_ble_eq_true rfl) (Nat.le_of_ble_eq_true rfl) dX2_checkDisk_26)
    · have hw := hwf hc
      clear hwt hwf hc
      exact vs_throwW 3 19 hC hst hlk ht hW hX vs_ex3 rfl hl.1 hw dX2_checkDisk_15 dX2_checkDisk_18 dX2_checkDisk_19 dX2_checkDisk_22 dX2_checkDisk_25 (Nat.le_of_ble_eq_true rfl) (Nat.le_of_ble_eq_true rfl) (Nat.le_of_ble_eq_true rfl) (Nat.le_of_ble_eq_true rfl) (Nat.le_of_ble_eq_true rfl) (Nat.le_of_ble_eq_true rfl)
set_option maxHeartbeats 4000000 in
set_option maxRecDepth 100000 in
theorem c_X2_diskState (l : Launch) (hst : l.stackTraces = false) (g : vs_G) (sd : Nat → Nat) (h0 n0 : Nat) (aS aT aK : Nat → Nat) (wr : va_W) (V S T K : vs_St) (x1 : Int) (post : Int → Prop) (px : Nat → Prop) (hw : wX2_diskState V S T K x1 post px) : vs_XI l yX2_diskState (Cond.code yX2_diskState cX2_diskState 2 (some .char) :: vs_ws) { frames := 7, cells := 1, slots := 6, locals := 111 } g sd [.ref h0, .int (vs_I x1)] (vs_W2 h0 (aS 0) (aT 0) (aK 0) n0 V ++ (vs_W1 g aS S ++ (vs_W1 g aT T ++ (vs_W0 g aK K ++ wr)))) (fun (_ : Unit) => vs_W2 h0 (aS 0) (aT 0) (aK 0) n0 V ++ (vs_W1 g aS S ++ (vs_W1 g aT T ++ (vs_W0 g aK K ++ wr)))) (fun v (_ : Unit) => post v) px 1 6 := by
  refine vs_ofX (Qc := fun A => vs_QI g A (fun (_ : Unit) => vs_W2 h0 (aS 0) (aT 0) (aK 0) n0 V ++ (vs_W1 g aS S ++ (vs_W1 g aT T ++ (vs_W0 g aK K ++ wr)))) (fun v (_ : Unit) => post v)) (XC := fun A => vs_QX g A (vs_W2 h0 (aS 0) (aT 0) (aK 0) n0 V ++ (vs_W1 g aS S ++ (vs_W1 g aT T ++ (vs_W0 g aK K ++ wr)))) px) (by decide +kernel) (Nat.le_of_ble_eq_true rfl) (fun p e s m below meth c A ls hC hr hlk ht hW hX hl => ?_)
  have hC : CallFix p m c cX2_diskState 2 s _ vs_ws RX2 := hC
  have hl : lv_has ls 2 [(0, .ref h0), (1, .int (vs_I x1))] := hl
  unfold wX2_diskState at hw
  refine vs_aload_n hC hl 0 dX2_diskState_0 rfl rfl ?_
  refine vs_iload_n hC hl 1 dX2_diskState_1 rfl rfl ?_
  refine vs_xcallVV [.int (vs_I x1)] hC hW hX 0 rfl rfl vk_X2_checkDisk vm_X2_56 (c_X2_checkDisk l hst g sd h0 n0 aS aT aK (wr) V S T K x1 _ _ hw) rfl hl.1 rfl ⟨rfl, rfl⟩ ⟨Nat.le_of_ble_eq_true rfl, Nat.le_of_ble_eq_true rfl⟩ ⟨Nat.le_of_ble_eq_true rfl, Nat.le_of_ble_eq_true rfl⟩ (Nat.le_of_ble_eq_true rfl) dX2_diskState_2 (fun k ce q9 H locs hp hW hq hv hcl => vs_pass hlk ht hW hp hq hv hcl (Nat.le_of_ble_eq_true rfl) (Nat.le_of_ble_eq_true rfl)) (fun _ H locs hw hW => ?_)
  have hW : vs_Wd g A _ (vs_W2 h0 (aS 0) (aT 0) (aK 0) n0 V ++ (vs_W1 g aS S ++ (vs_W1 g aT T ++ (vs_W0 g aK K ++ wr)))) _ _ s := hW
  refine vs_aload_n hC hl 0 dX2_diskState_5 rfl rfl ?_
  refine vs_get hC hW 0 rfl rfl vs_inX2 0 (by decide) vf_X2_12 rfl dX2_diskState_6 ?_
  refine vs_getN hC hW 1 rfl rfl vs_inX1 3 (by decide) vn_X2_60 rfl dX2_diskState_9 ?_
  refine vs_iload_n hC hl 1 dX2_diskState_12 rfl rfl ?_
  obtain ⟨hi, hw⟩ := hw
  refine vs_cald hC hW 4 rfl (by decide) hi dX2_diskState_13 ?_
  exact vx_ret (vs_cret () hC hr hlk hW rfl hw (Nat.le_of_ble_eq_true rfl) (Nat.le_of_ble_eq_true rfl) dX2_diskState_14)
set_option maxHeartbeats 4000000 in
set_option maxRecDepth 100000 in
theorem c_X2_usedOn (l : Launch) (hst : l.stackTraces = false) (g : vs_G) (sd : Nat → Nat) (h0 n0 : Nat) (aS aT aK : Nat → Nat) (wr : va_W) (V S T K : vs_St) (x1 : Int) (post : Int → Prop) (px : Nat → Prop) (hw : wX2_usedOn V S T K x1 post px) : vs_XI l yX2_usedOn (Cond.code yX2_usedOn cX2_usedOn 2 (some .int) :: vs_ws) { frames := 7, cells := 1, slots := 6, locals := 111 } g sd [.ref h0, .int (vs_I x1)] (vs_W2 h0 (aS 0) (aT 0) (aK 0) n0 V ++ (vs_W1 g aS S ++ (vs_W1 g aT T ++ (vs_W0 g aK K ++ wr)))) (fun (_ : Unit) => vs_W2 h0 (aS 0) (aT 0) (aK 0) n0 V ++ (vs_W1 g aS S ++ (vs_W1 g aT T ++ (vs_W0 g aK K ++ wr)))) (fun v (_ : Unit) => post v) px 1 6 := by
  refine vs_ofX (Qc := fun A => vs_QI g A (fun (_ : Unit) => vs_W2 h0 (aS 0) (aT 0) (aK 0) n0 V ++ (vs_W1 g aS S ++ (vs_W1 g aT T ++ (vs_W0 g aK K ++ wr)))) (fun v (_ : Unit) => post v)) (XC := fun A => vs_QX g A (vs_W2 h0 (aS 0) (aT 0) (aK 0) n0 V ++ (vs_W1 g aS S ++ (vs_W1 g aT T ++ (vs_W0 g aK K ++ wr)))) px) (by decide +kernel) (Nat.le_of_ble_eq_true rfl) (fun p e s m below meth c A ls hC hr hlk ht hW hX hl => ?_)
  have hC : CallFix p m c cX2_usedOn 2 s _ vs_ws RX2 := hC
  have hl : lv_has ls 2 [(0, .ref h0), (1, .int (vs_I x1))] := hl
  unfold wX2_usedOn at hw
  refine vs_aload_n hC hl 0 dX2_usedOn_0 rfl rfl ?_
  refine vs_iload_n hC hl 1 dX2_usedOn_1 rfl rfl ?_
  refine vs_xcallVV [.int (vs_I x1)] hC hW hX 0 rfl rfl vk_X2_checkDisk vm_X2_56 (c_X2_checkDisk l hst g sd h0 n0 aS aT aK (wr) V S T K x1 _ _ hw) rfl hl.1 rfl ⟨rfl, rfl⟩ ⟨Nat.le_of_ble_eq_true rfl, Nat.le_of_ble_eq_true rfl⟩ ⟨Nat.le_of_ble_eq_true rfl, Nat.le_of_ble_eq_true rfl⟩ (Nat.le_of_ble_eq_true rfl) dX2_usedOn_2 (fun k ce q9 H locs hp hW hq hv hcl => vs_pass hlk ht hW hp hq hv hcl (Nat.le_of_ble_eq_true rfl) (Nat.le_of_ble_eq_true rfl)) (fun _ H locs hw hW => ?_)
  have hW : vs_Wd g A _ (vs_W2 h0 (aS 0) (aT 0) (aK 0) n0 V ++ (vs_W1 g aS S ++ (vs_W1 g aT T ++ (vs_W0 g aK K ++ wr)))) _ _ s := hW
  refine vs_aload_n hC hl 0 dX2_usedOn_5 rfl rfl ?_
  refine vs_get hC hW 0 rfl rfl vs_inX2 0 (by decide) vf_X2_12 rfl dX2_usedOn_6 ?_
  refine vs_getN hC hW 1 rfl rfl vs_inX1 2 (by decide) vn_X2_64 rfl dX2_usedOn_9 ?_
  refine vs_iload_n hC hl 1 dX2_usedOn_12 rfl rfl ?_
  obtain ⟨hi, hw⟩ := hw
  refine vs_iald hC hW 3 rfl (by decide) hi dX2_usedOn_13 ?_
  exact vx_ret (vs_iret () hC hr hlk hW rfl hw (Nat.le_of_ble_eq_true rfl) (Nat.le_of_ble_eq_true rfl) dX2_usedOn_14)
set_option maxHeartbeats 4000000 in
set_option maxRecDepth 100000 in
theorem c_X2_addTenant (l : Launch) (hst : l.stackTraces = false) (g : vs_G) (sd : Nat → Nat) (h0 n0 : Nat) (aS aT aK : Nat → Nat) (wr : va_W) (V S T K : vs_St) (x1 : Int) (x2 : Int) (post : Int → vs_St → vs_St → Prop) (px : Nat → Prop) (hw : wX2_addTenant V S T K x1 x2 post px) : vs_XI l yX2_addTenant (Cond.code yX2_addTenant cX2_addTenant 4 (some .int) :: vs_ws) { frames := 6, cells := 1, slots := 6, locals := 90 } g sd [.ref h0, .int (vs_I x1), .int (vs_I x2)] (vs_W2 h0 (aS 0) (aT 0) (aK 0) n0 V ++ (vs_W1 g aS S ++ (vs_W1 g aT T ++ (vs_W0 g aK K ++ wr)))) (fun (u : vs_St × vs_St) => vs_W2 h0 (aS 0) (aT 0) (aK 0) n0 V ++ (vs_W1 g aS u.1 ++ (vs_W1 g aT T ++ (vs_W0 g aK u.2 ++ wr)))) (fun v (u : vs_St × vs_St) => post v u.1 u.2) px 1 6 := by
  refine vs_ofX (Qc := fun A => vs_QI g A (fun (u : vs_St × vs_St) => vs_W2 h0 (aS 0) (aT 0) (aK 0) n0 V ++ (vs_W1 g aS u.1 ++ (vs_W1 g aT T ++ (vs_W0 g aK u.2 ++ wr)))) (fun v (u : vs_St × vs_St) => post v u.1 u.2)) (XC := fun A => vs_QX g A (vs_W2 h0 (aS 0) (aT 0) (aK 0) n0 V ++ (vs_W1 g aS S ++ (vs_W1 g aT T ++ (vs_W0 g aK K ++ wr)))) px) (by decide +kernel) (Nat.le_of_ble_eq_true rfl) (fun p e s m below meth c A ls hC hr hlk ht hW hX hl => ?_)
  have hC : CallFix p m c cX2_addTenant 4 s _ vs_ws RX2 := hC
  have hl : lv_has ls 4 [(0, .ref h0), (1, .int (vs_I x1)), (2, .int (vs_I x2))] := hl
  unfold wX2_addTenant at hw
  refine vs_iload_n hC hl 1 dX2_addTenant_0 rfl rfl ?_
  refine vs_iconst hC dX2_addTenant_1 ?_
  obtain ⟨hx, hw⟩ := hw
  obtain ⟨hwt, hwf⟩ := hw
  refine vs_icmp_lt hC 10 hx ⟨by decide, by decide⟩ dX2_addTenant_2 (by decide) (fun hc => ?_) (fun hc => ?_)
  · have hw := hwt hc
    clear hwt hwf hc
    exact vs_throw 1 2 hC hst hlk ht hW hX vs_ex1 rfl hl.1 hw dX2_addTenant_10 dX2_addTenant_13 dX2_addTenant_14 dX2_addTenant_16 dX2_addTenant_19 (Nat.le_of_ble_eq_true rfl) (Nat.le_of_ble_eq_true rfl) (Nat.le_of_ble_eq_true rfl) (Nat.le_of_ble_eq_true rfl) (Nat.le_of_ble_eq_true rfl) (Nat.le_of_ble_eq_true rfl)
  · have hw := hwf hc
    clear hwt hwf hc
    refine vs_iload_n hC hl 1 dX2_addTenant_5 rfl rfl ?_
    refine vs_iconst hC dX2_addTenant_6 ?_
    obtain ⟨hx, hw⟩ := hw
    obtain ⟨hwt, hwf⟩ := hw
    refine vs_icmp_le hC 20 hx ⟨by decide, by decide⟩ dX2_addTenant_7 (by decide) (fun hc => ?_) (fun hc => ?_)
    · have hw := hwt hc
      clear hwt hwf hc
      refine vs_iload_n hC hl 2 dX2_addTenant_20 rfl rfl ?_
      obtain ⟨hx, hw⟩ := hw
      obtain ⟨hwt, hwf⟩ := hw
      refine vs_if_lt hC 30 hx dX2_addTenant_21 (by decide) (fun hc => ?_) (fun hc => ?_)
      · have hw := hwt hc
        clear hwt hwf hc
        exact vs_throw 1 3 hC hst hlk ht hW hX vs_ex1 rfl hl.1 hw dX2_addTenant_30 dX2_addTenant_33 dX2_addTenant_34 dX2_addTenant_36 dX2_addTenant_39 (Nat.le_of_ble_eq_true rfl) (Nat.le_of_ble_eq_true rfl) (Nat.le_of_ble_eq_true rfl) (Nat.le_of_ble_eq_true rfl) (Nat.le_of_ble_eq_true rfl) (Nat.le_of_ble_eq_true rfl)
      · have hw := hwf hc
        clear hwt hwf hc
        refine vs_iload_n hC hl 2 dX2_addTenant_24 rfl rfl ?_
        refine vs_bipush hC dX2_addTenant_25 (by decide +kernel) ?_
        obtain ⟨hx, hw⟩ := hw
        obtain ⟨hwt, hwf⟩ := hw
        refine vs_icmp_le hC 40 hx ⟨by decide, by decide⟩ dX2_addTenant_27 (by decide) (fun hc => ?_) (fun hc => ?_)
        · have hw := hwt hc
          clear hwt hwf hc
          refine vs_aload_n hC hl 0 dX2_addTenant_40 rfl rfl ?_
          refine vs_get hC hW 0 rfl rfl vs_inX2 2 (by decide) vf_X2_22 rfl dX2_addTenant_41 ?_
          refine vs_getN hC hW 25 rfl rfl vs_inX0 0 (by decide) vn_X2_72 rfl dX2_addTenant_44 ?_
          refine vs_iconst hC dX2_addTenant_47 ?_
          obtain ⟨hx, hw⟩ := hw
          obtain ⟨hwt, hwf⟩ := hw
          refine vs_icmp_lt hC 61 hx ⟨by decide, by decide⟩ dX2_addTenant_48 (by decide) (fun hc => ?_) (fun hc => ?_)
          · have hw := hwt hc
            clear hwt hwf hc
            refine vs_aload_n hC hl 0 dX2_addTenant_61 rfl rfl ?_
            refine vs_get hC hW 0 rfl rfl vs_inX2 2 (by decide) vf_X2_22 rfl dX2_addTenant_62 ?_
            refine vs_iload_n hC hl 2 dX2_addTenant_65 rfl rfl ?_
            have hW : vs_Wd g A _ (vs_W0 g aK K ++ (vs_W2 h0 (aS 0) (aT 0) (aK 0) n0 V ++ (vs_W1 g aS S ++ (vs_W1 g aT T ++ wr)))) _ _ s := vs_Wd.perm hW vs_p4
            refine vs_callNI [.int (vs_I x2)] hC hW 0 rfl rfl vk_X0_admitTenant vo_X2_77 (c_X0_admitTenant l g aK (vs_W2 h0 (aS 0) (aT 0) (aK 0) n0 V ++ (vs_W1 g aS S ++ (vs_W1 g aT T ++ wr))) K x2 _ hw) rfl hl.1 rfl ⟨rfl, rfl⟩ ⟨Nat.le_of_ble_eq_true rfl, Nat.le_of_ble_eq_true rfl⟩ ⟨Nat.le_of_ble_eq_true rfl, Nat.le_of_ble_eq_true rfl⟩ (Nat.le_of_ble_eq_true rfl) dX2_addTenant_66 (fun r1 K2 H locs hw hW => ?_)
            have hW : vs_Wd g A _ (vs_W0 g aK K2 ++ (vs_W2 h0 (aS 0) (aT 0) (aK 0) n0 V ++ (vs_W1 g aS S ++ (vs_W1 g aT T ++ wr)))) _ _ s := hW
            have hW : vs_Wd g A _ (vs_W2 h0 (aS 0) (aT 0) (aK 0) n0 V ++ (vs_W1 g aS S ++ (vs_W1 g aT T ++ (vs_W0 g aK K2 ++ wr)))) _ _ s := vs_Wd.perm hW (List.Perm.symm vs_p4)
            refine vs_istore_n (L' := [(0, .ref h0), (1, .int (vs_I x1)), (2, .int (vs_I x2)), (3, .int (vs_I r1))]) hC hl [1, 2, 3, 0] dX2_addTenant_69 rfl (by decide) rfl (fun ls hl => ?_)
            refine vs_aload_n hC hl 0 dX2_addTenant_70 rfl rfl ?_
            refine vs_get hC hW 0 rfl rfl vs_inX2 0 (by decide) vf_X2_12 rfl dX2_addTenant_71 ?_
            refine vs_getN hC hW 1 rfl rfl vs_inX1 6 (by decide) vn_X2_80 rfl dX2_addTenant_74 ?_
            refine vs_iload_n hC hl 3 dX2_addTenant_77 rfl rfl ?_
            refine vs_iload_n hC hl 1 dX2_addTenant_78 rfl rfl ?_
            obtain ⟨hi, hw⟩ := hw
            obtain ⟨S3, hS3⟩ : ∃ z : vs_St, z = vs_st S 6 r1 x1 := ⟨_, rfl⟩
            have hw := hw S3 hS3
            refine vs_iast (Wo' := vs_W2 h0 (aS 0) (aT 0) (aK 0) n0 V ++ (vs_W1 g aS S3 ++ (vs_W1 g aT T ++ (vs_W0 g aK K2 ++ wr)))) hC hW 7 rfl (by decide) hi (by rw [hS3]; rfl) dX2_addTenant_79 (fun H locs hW => ?_)
            refine vs_iload_n hC hl 3 dX2_addTenant_80 rfl rfl ?_
            exact vx_ret (vs_iret (S3, K2) hC hr hlk hW rfl hw (Nat.le_of_ble_eq_true rfl) (Nat.le_of_ble_eq_true rfl) dX2_addTenant_81)
          · have hw := hwf hc
            clear hwt hwf hc
            exact vs_throw 2 4 hC hst hlk ht hW hX vs_ex2 rfl hl.1 hw dX2_addTenant_51 dX2_addTenant_54 dX2_addTenant_55 dX2_addTenant_57 dX2_addTenant_60 (Nat.le_of_ble_eq_true rfl) (Nat.le_of_ble_eq_true rfl) (Nat.le_of_ble_eq_true rfl) (Nat.le_of_ble_eq_true rfl) (Nat.le_of_ble_eq_true rfl) (Nat.le_of_ble_eq_true rfl)
        · have hw := hwf hc
          clear hwt hwf hc
          exact vs_throw 1 3 hC hst hlk ht hW hX vs_ex1 rfl hl.1 hw dX2_addTenant_30 dX2_addTenant_33 dX2_addTenant_34 dX2_addTenant_36 dX2_addTenant_39 (Nat.le_of_ble_eq_true rfl) (Nat.le_of_ble_eq_true rfl) (Nat.le_of_ble_eq_true rfl) (Nat.le_of_ble_eq_true rfl) (Nat.le_of_ble_eq_true rfl) (Nat.le_of_ble_eq_true rfl)
    · have hw := hwf hc
      clear hwt hwf hc
      exact vs_throw 1 2 hC hst hlk ht hW hX vs_ex1 rfl hl.1 hw dX2_addTenant_10 dX2_addTenant_13 dX2_addTenant_14 dX2_addTenant_16 dX2_addTenant_19 (Nat.le_of_ble_eq_true rfl) (Nat.le_of_ble_eq_true rfl) (Nat.le_of_ble_eq_true rfl) (Nat.le_of_ble_eq_true rfl) (Nat.le_of_ble_eq_true rfl) (Nat.le_of_ble_eq_true rfl)
set_option maxHeartbeats 4000000 in
set_option maxRecDepth 100000 in
theorem c_X2_tenantCount (l : Launch) (g : vs_G) (h0 n0 : Nat) (aS aT aK : Nat → Nat) (wr : va_W) (V S T K : vs_St) (post : Int → Prop) (hw : wX2_tenantCount V S T K post) : vs_MI l yX2_tenantCount (Cond.code yX2_tenantCount cX2_tenantCount 1 (some .int) :: vs_ws) { frames := 0, cells := 0, slots := 0, locals := 0 } g [.ref h0] (vs_W2 h0 (aS 0) (aT 0) (aK 0) n0 V ++ (vs_W1 g aS S ++ (vs_W1 g aT T ++ (vs_W0 g aK K ++ wr)))) (fun (_ : Unit) => vs_W2 h0 (aS 0) (aT 0) (aK 0) n0 V ++ (vs_W1 g aS S ++ (vs_W1 g aT T ++ (vs_W0 g aK K ++ wr)))) (fun v (_ : Unit) => post v) 0 0 := by
  refine vs_ofW (Qc := fun A => vs_QI g A (fun (_ : Unit) => vs_W2 h0 (aS 0) (aT 0) (aK 0) n0 V ++ (vs_W1 g aS S ++ (vs_W1 g aT T ++ (vs_W0 g aK K ++ wr)))) (fun v (_ : Unit) => post v)) (by decide +kernel) (Nat.le_of_ble_eq_true rfl) (fun p e s m below meth c A ls hC hr hlk hW hl => ?_)
  have hC : CallFix p m c cX2_tenantCount 1 s _ vs_ws RX2 := hC
  have hl : lv_has ls 1 [(0, .ref h0)] := hl
  unfold wX2_tenantCount at hw
  refine vs_aload_n hC hl 0 dX2_tenantCount_0 rfl rfl ?_
  refine vs_get hC hW 0 rfl rfl vs_inX2 2 (by decide) vf_X2_22 rfl dX2_tenantCount_1 ?_
  refine vs_getN hC hW 25 rfl rfl vs_inX0 0 (by decide) vn_X2_72 rfl dX2_tenantCount_4 ?_
  exact vs_iret () hC hr hlk hW rfl hw (Nat.le_of_ble_eq_true rfl) (Nat.le_of_ble_eq_true rfl) dX2_tenantCount_7
set_option maxHeartbeats 4000000 in
set_option maxRecDepth 100000 in
theorem c_X2_setHurry (l : Launch) (hst : l.stackTraces = false) (g : vs_G) (sd : Nat → Nat) (h0 n0 : Nat) (aS aT aK : Nat → Nat) (wr : va_W) (V S T K : vs_St) (x1 : Int) (post : Int → vs_St → Prop) (px : Nat → Prop) (hw : wX2_setHurry V S T K x1 post px) : vs_XI l yX2_setHurry (Cond.code yX2_setHurry cX2_setHurry 3 (some .int) :: vs_ws) { frames := 6, cells := 1, slots := 6, locals := 90 } g sd [.ref h0, .int (vs_I x1)] (vs_W2 h0 (aS 0) (aT 0) (aK 0) n0 V ++ (vs_W1 g aS S ++ (vs_W1 g aT T ++ (vs_W0 g aK K ++ wr)))) (fun (u : vs_St) => vs_W2 h0 (aS 0) (aT 0) (aK 0) n0 u ++ (vs_W1 g aS S ++ (vs_W1 g aT T ++ (vs_W0 g aK K ++ wr)))) post px 1 6 := by
  refine vs_ofX (Qc := fun A => vs_QI g A (fun (u : vs_St) => vs_W2 h0 (aS 0) (aT 0) (aK 0) n0 u ++ (vs_W1 g aS S ++ (vs_W1 g aT T ++ (vs_W0 g aK K ++ wr)))) post) (XC := fun A => vs_QX g A (vs_W2 h0 (aS 0) (aT 0) (aK 0) n0 V ++ (vs_W1 g aS S ++ (vs_W1 g aT T ++ (vs_W0 g aK K ++ wr)))) px) (by decide +kernel) (Nat.le_of_ble_eq_true rfl) (fun p e s m below meth c A ls hC hr hlk ht hW hX hl => ?_)
  have hC : CallFix p m c cX2_setHurry 3 s _ vs_ws RX2 := hC
  have hl : lv_has ls 3 [(0, .ref h0), (1, .int (vs_I x1))] := hl
  unfold wX2_setHurry at hw
  refine vs_iload_n hC hl 1 dX2_setHurry_0 rfl rfl ?_
  obtain ⟨hx, hw⟩ := hw
  obtain ⟨hwt, hwf⟩ := hw
  refine vs_if_lt hC 10 hx dX2_setHurry_1 (by decide) (fun hc => ?_) (fun hc => ?_)
  · have hw := hwt hc
    clear hwt hwf hc
    exact vs_throw 1 5 hC hst hlk ht hW hX vs_ex1 rfl hl.1 hw dX2_setHurry_10 dX2_setHurry_13 dX2_setHurry_14 dX2_setHurry_16 dX2_setHurry_19 (Nat.le_of_ble_eq_true rfl) (Nat.le_of_ble_eq_true rfl) (Nat.le_of_ble_eq_true rfl) (Nat.le_of_ble_eq_true rfl) (Nat.le_of_ble_eq_true rfl) (Nat.le_of_ble_eq_true rfl)
  · have hw := hwf hc
    clear hwt hwf hc
    refine vs_iload_n hC hl 1 dX2_setHurry_4 rfl rfl ?_
    refine vs_bipush hC dX2_setHurry_5 (by decide +kernel) ?_
    obtain ⟨hx, hw⟩ := hw
    obtain ⟨hwt, hwf⟩ := hw
    refine vs_icmp_le hC 20 hx ⟨by decide, by decide⟩ dX2_setHurry_7 (by decide) (fun hc => ?_) (fun hc => ?_)
    · have hw := hwt hc
      clear hwt hwf hc
      refine vs_aload_n hC hl 0 dX2_setHurry_20 rfl rfl ?_
      refine vs_get hC hW 0 rfl rfl vs_inX2 4 (by decide) vf_X2_33 rfl dX2_setHurry_21 ?_
      refine vs_name (fun v1 hv1 => ?_)
      have hw := hw v1 hv1
      refine vs_istore_n (L' := [(0, .ref h0), (1, .int (vs_I x1)), (2, .int (vs_I v1))]) hC hl [1, 2, 0] dX2_setHurry_24 rfl (by decide) rfl (fun ls hl => ?_)
      refine vs_aload_n hC hl 0 dX2_setHurry_25 rfl rfl ?_
      refine vs_iload_n hC hl 1 dX2_setHurry_26 rfl rfl ?_
      obtain ⟨V2, hV2⟩ : ∃ z : vs_St, z = vs_st V 4 0 x1 := ⟨_, rfl⟩
      have hw := hw V2 hV2
      refine vs_put (Wo' := vs_W2 h0 (aS 0) (aT 0) (aK 0) n0 V2 ++ (vs_W1 g aS S ++ (vs_W1 g aT T ++ (vs_W0 g aK K ++ wr)))) hC hW 0 rfl rfl vs_inX2 tyX2_ok nmX2 4 (by decide) vf_X2_33 rfl rfl (Nat.le_of_ble_eq_true rfl) (by rw [hV2]; rfl) dX2_setHurry_27 (fun H locs hW => ?_)
      refine vs_iload_n hC hl 2 dX2_setHurry_30 rfl rfl ?_
      exact vx_ret (vs_iret (V2) hC hr hlk hW rfl hw (Nat.le_of_ble_eq_true rfl) (Nat.le_of_ble_eq_true rfl) dX2_setHurry_31)
    · have hw := hwf hc
      clear hwt hwf hc
      exact vs_throw 1 5 hC hst hlk ht hW hX vs_ex1 rfl hl.1 hw dX2_setHurry_10 dX2_setHurry_13 dX2_setHurry_14 dX2_setHurry_16 dX2_setHurry_19 (Nat.le_of_ble_eq_true rfl) (Nat.le_of_ble_eq_true rfl) (Nat.le_of_ble_eq_true rfl) (Nat.le_of_ble_eq_true rfl) (Nat.le_of_ble_eq_true rfl) (Nat.le_of_ble_eq_true rfl)
set_option maxHeartbeats 4000000 in
set_option maxRecDepth 100000 in
theorem c_X2_checkTenant (l : Launch) (hst : l.stackTraces = false) (g : vs_G) (sd : Nat → Nat) (h0 n0 : Nat) (aS aT aK : Nat → Nat) (wr : va_W) (V S T K : vs_St) (x1 : Int) (post : Prop) (px : Nat → Prop) (hw : wX2_checkTenant V S T K x1 post px) : vs_XV l yX2_checkTenant (Cond.code yX2_checkTenant cX2_checkTenant 2 (none) :: vs_ws) { frames := 6, cells := 1, slots := 6, locals := 90 } g sd [.ref h0, .int (vs_I x1)] (vs_W2 h0 (aS 0) (aT 0) (aK 0) n0 V ++ (vs_W1 g aS S ++ (vs_W1 g aT T ++ (vs_W0 g aK K ++ wr)))) (fun (_ : Unit) => vs_W2 h0 (aS 0) (aT 0) (aK 0) n0 V ++ (vs_W1 g aS S ++ (vs_W1 g aT T ++ (vs_W0 g aK K ++ wr)))) (fun (_ : Unit) => post) px 1 6 := by
  refine vs_ofX (Qc := fun A => vs_QV g A (fun (_ : Unit) => vs_W2 h0 (aS 0) (aT 0) (aK 0) n0 V ++ (vs_W1 g aS S ++ (vs_W1 g aT T ++ (vs_W0 g aK K ++ wr)))) (fun (_ : Unit) => post)) (XC := fun A => vs_QX g A (vs_W2 h0 (aS 0) (aT 0) (aK 0) n0 V ++ (vs_W1 g aS S ++ (vs_W1 g aT T ++ (vs_W0 g aK K ++ wr)))) px) (by decide +kernel) (Nat.le_of_ble_eq_true rfl) (fun p e s m below meth c A ls hC hr hlk ht hW hX hl => ?_)
  have hC : CallFix p m c cX2_checkTenant 2 s _ vs_ws RX2 := hC
  have hl : lv_has ls 2 [(0, .ref h0), (1, .int (vs_I x1))] := hl
  unfold wX2_checkTenant at hw
  refine vs_iload_n hC hl 1 dX2_checkTenant_0 rfl rfl ?_
  obtain ⟨hx, hw⟩ := hw
  obtain ⟨hwt, hwf⟩ := hw
  refine vs_if_lt hC 15 hx dX2_checkTenant_1 (by decide) (fun hc => ?_) (fun hc => ?_)
  · have hw := hwt hc
    clear hwt hwf hc
    exact vs_throwW 3 21 hC hst hlk ht hW hX vs_ex3 rfl hl.1 hw dX2_checkTenant_15 dX2_checkTenant_18 dX2_checkTenant_19 dX2_checkTenant_22 dX2_checkTenant_25 (Nat.le_of_ble_eq_true rfl) (Nat.le_of_ble_eq_true rfl) (Nat.le_of_ble_eq_true rfl) (Nat.le_of_ble_eq_true rfl) (Nat.le_of_ble_eq_true rfl) (Nat.le_of_ble_eq_true rfl)
  · have hw := hwf hc
    clear hwt hwf hc
    refine vs_iload_n hC hl 1 dX2_checkTenant_4 rfl rfl ?_
    refine vs_aload_n hC hl 0 dX2_checkTenant_5 rfl rfl ?_
    refine vs_get hC hW 0 rfl rfl vs_inX2 2 (by decide) vf_X2_22 rfl dX2_checkTenant_6 ?_
    refine vs_getN hC hW 25 rfl rfl vs_inX0 0 (by decide) vn_X2_72 rfl dX2_checkTenant_9 ?_
    obtain ⟨hx, hw⟩ := hw
    obtain ⟨hy, hw⟩ := hw
    obtain ⟨hwt, hwf⟩ := hw
    refine vs_icmp_lt hC 26 hx hy dX2_checkTenant_12 (by decide) (fun hc => ?_) (fun hc => ?_)
    · have hw := hwt hc
      clear hwt hwf hc
      exact vx_ret (vs_vret () hC hr hlk hW rfl hw (Nat.le_of_ble_eq_true rfl) (Nat.le_of_ble_eq_true rfl) dX2_checkTenant_26)
    · have hw := hwf hc
      clear hwt hwf hc
      exact vs_throwW 3 21 hC hst hlk ht hW hX vs_ex3 rfl hl.1 hw dX2_checkTenant_15 dX2_checkTenant_18 dX2_checkTenant_19 dX2_checkTenant_22 dX2_checkTenant_25 (Nat.le_of_ble_eq_true rfl) (Nat.le_of_ble_eq_true rfl) (Nat.le_of_ble_eq_true rfl) (Nat.le_of_ble_eq_true rfl) (Nat.le_of_ble_eq_true rfl) (Nat.le_of_ble_eq_true rfl)
set_option maxHeartbeats 4000000 in
set_option maxRecDepth 100000 in
theorem c_X2_checkBlock (l : Launch) (hst : l.stackTraces = false) (g : vs_G) (sd : Nat → Nat) (h0 n0 : Nat) (aS aT aK : Nat → Nat) (wr : va_W) (V S T K : vs_St) (x1 : Int) (x2 : Int) (post : Prop) (px : Nat → Prop) (hw : wX2_checkBlock V S T K x1 x2 post px) : vs_XV l yX2_checkBlock (Cond.code yX2_checkBlock cX2_checkBlock 3 (none) :: vs_ws) { frames := 7, cells := 2, slots := 12, locals := 111 } g sd [.ref h0, .int (vs_I x1), .int (vs_I x2)] (vs_W2 h0 (aS 0) (aT 0) (aK 0) n0 V ++ (vs_W1 g aS S ++ (vs_W1 g aT T ++ (vs_W0 g aK K ++ wr)))) (fun (_ : Unit) => vs_W2 h0 (aS 0) (aT 0) (aK 0) n0 V ++ (vs_W1 g aS S ++ (vs_W1 g aT T ++ (vs_W0 g aK K ++ wr)))) (fun (_ : Unit) => post) px 2 12 := by
  refine vs_ofX (Qc := fun A => vs_QV g A (fun (_ : Unit) => vs_W2 h0 (aS 0) (aT 0) (aK 0) n0 V ++ (vs_W1 g aS S ++ (vs_W1 g aT T ++ (vs_W0 g aK K ++ wr)))) (fun (_ : Unit) => post)) (XC := fun A => vs_QX g A (vs_W2 h0 (aS 0) (aT 0) (aK 0) n0 V ++ (vs_W1 g aS S ++ (vs_W1 g aT T ++ (vs_W0 g aK K ++ wr)))) px) (by decide +kernel) (Nat.le_of_ble_eq_true rfl) (fun p e s m below meth c A ls hC hr hlk ht hW hX hl => ?_)
  have hC : CallFix p m c cX2_checkBlock 3 s _ vs_ws RX2 := hC
  have hl : lv_has ls 3 [(0, .ref h0), (1, .int (vs_I x1)), (2, .int (vs_I x2))] := hl
  unfold wX2_checkBlock at hw
  refine vs_aload_n hC hl 0 dX2_checkBlock_0 rfl rfl ?_
  refine vs_iload_n hC hl 1 dX2_checkBlock_1 rfl rfl ?_
  refine vs_xcallVV [.int (vs_I x1)] hC hW hX 0 rfl rfl vk_X2_checkTenant vm_X2_118 (c_X2_checkTenant l hst g sd h0 n0 aS aT aK (wr) V S T K x1 _ _ hw) rfl hl.1 rfl ⟨rfl, rfl⟩ ⟨Nat.le_of_ble_eq_true rfl, Nat.le_of_ble_eq_true rfl⟩ ⟨Nat.le_of_ble_eq_true rfl, Nat.le_of_ble_eq_true rfl⟩ (Nat.le_of_ble_eq_true rfl) dX2_checkBlock_2 (fun k ce q9 H locs hp hW hq hv hcl => vs_pass hlk ht hW hp hq hv hcl (Nat.le_of_ble_eq_true rfl) (Nat.le_of_ble_eq_true rfl)) (fun _ H locs hw hW => ?_)
  have hW : vs_Wd g A _ (vs_W2 h0 (aS 0) (aT 0) (aK 0) n0 V ++ (vs_W1 g aS S ++ (vs_W1 g aT T ++ (vs_W0 g aK K ++ wr)))) _ _ s := hW
  refine vs_iload_n hC hl 2 dX2_checkBlock_5 rfl rfl ?_
  obtain ⟨hx, hw⟩ := hw
  obtain ⟨hwt, hwf⟩ := hw
  refine vs_if_lt hC 15 hx dX2_checkBlock_6 (by decide) (fun hc => ?_) (fun hc => ?_)
  · have hw := hwt hc
    clear hwt hwf hc
    exact vs_throwW 3 22 hC hst hlk ht hW hX vs_ex3 rfl hl.1 hw dX2_checkBlock_15 dX2_checkBlock_18 dX2_checkBlock_19 dX2_checkBlock_22 dX2_checkBlock_25 (Nat.le_of_ble_eq_true rfl) (Nat.le_of_ble_eq_true rfl) (Nat.le_of_ble_eq_true rfl) (Nat.le_of_ble_eq_true rfl) (Nat.le_of_ble_eq_true rfl) (Nat.le_of_ble_eq_true rfl)
  · have hw := hwf hc
    clear hwt hwf hc
    refine vs_iload_n hC hl 2 dX2_checkBlock_9 rfl rfl ?_
    refine vs_bipush hC dX2_checkBlock_10 (by decide +kernel) ?_
    obtain ⟨hx, hw⟩ := hw
    obtain ⟨hwt, hwf⟩ := hw
    refine vs_icmp_lt hC 26 hx ⟨by decide, by decide⟩ dX2_checkBlock_12 (by decide) (fun hc => ?_) (fun hc => ?_)
    · have hw := hwt hc
      clear hwt hwf hc
      exact vx_ret (vs_vret () hC hr hlk hW rfl hw (Nat.le_of_ble_eq_true rfl) (Nat.le_of_ble_eq_true rfl) dX2_checkBlock_26)
    · have hw := hwf hc
      clear hwt hwf hc
      exact vs_throwW 3 22 hC hst hlk ht hW hX vs_ex3 rfl hl.1 hw dX2_checkBlock_15 dX2_checkBlock_18 dX2_checkBlock_19 dX2_checkBlock_22 dX2_checkBlock_25 (Nat.le_of_ble_eq_true rfl) (Nat.le_of_ble_eq_true rfl) (Nat.le_of_ble_eq_true rfl) (Nat.le_of_ble_eq_true rfl) (Nat.le_of_ble_eq_true rfl) (Nat.le_of_ble_eq_true rfl)
set_option maxHeartbeats 4000000 in
set_option maxRecDepth 100000 in
theorem c_X2_checkRoomForRequest (l : Launch) (hst : l.stackTraces = false) (g : vs_G) (sd : Nat → Nat) (h0 n0 : Nat) (aS aT aK : Nat → Nat) (wr : va_W) (V S T K : vs_St) (post : Prop) (px : Nat → Prop) (hw : wX2_checkRoomForRequest V S T K post px) : vs_XV l yX2_checkRoomForRequest (Cond.code yX2_checkRoomForRequest cX2_checkRoomForRequest 1 (none) :: vs_ws) { frames := 6, cells := 1, slots := 6, locals := 90 } g sd [.ref h0] (vs_W2 h0 (aS 0) (aT 0) (aK 0) n0 V ++ (vs_W1 g aS S ++ (vs_W1 g aT T ++ (vs_W0 g aK K ++ wr)))) (fun (_ : Unit) => vs_W2 h0 (aS 0) (aT 0) (aK 0) n0 V ++ (vs_W1 g aS S ++ (vs_W1 g aT T ++ (vs_W0 g aK K ++ wr)))) (fun (_ : Unit) => post) px 1 6 := by
  refine vs_ofX (Qc := fun A => vs_QV g A (fun (_ : Unit) => vs_W2 h0 (aS 0) (aT 0) (aK 0) n0 V ++ (vs_W1 g aS S ++ (vs_W1 g aT T ++ (vs_W0 g aK K ++ wr)))) (fun (_ : Unit) => post)) (XC := fun A => vs_QX g A (vs_W2 h0 (aS 0) (aT 0) (aK 0) n0 V ++ (vs_W1 g aS S ++ (vs_W1 g aT T ++ (vs_W0 g aK K ++ wr)))) px) (by decide +kernel) (Nat.le_of_ble_eq_true rfl) (fun p e s m below meth c A ls hC hr hlk ht hW hX hl => ?_)
  have hC : CallFix p m c cX2_checkRoomForRequest 1 s _ vs_ws RX2 := hC
  have hl : lv_has ls 1 [(0, .ref h0)] := hl
  unfold wX2_checkRoomForRequest at hw
  refine vs_aload_n hC hl 0 dX2_checkRoomForRequest_0 rfl rfl ?_
  refine vs_get hC hW 0 rfl rfl vs_inX2 2 (by decide) vf_X2_22 rfl dX2_checkRoomForRequest_1 ?_
  refine vs_getN hC hW 25 rfl rfl vs_inX0 9 (by decide) vn_X2_294 rfl dX2_checkRoomForRequest_4 ?_
  refine vs_bipush hC dX2_checkRoomForRequest_7 (by decide +kernel) ?_
  obtain ⟨hx, hw⟩ := hw
  obtain ⟨hwt, hwf⟩ := hw
  refine vs_icmp_lt hC 23 hx ⟨by decide, by decide⟩ dX2_checkRoomForRequest_9 (by decide) (fun hc => ?_) (fun hc => ?_)
  · have hw := hwt hc
    clear hwt hwf hc
    refine vs_aload_n hC hl 0 dX2_checkRoomForRequest_23 rfl rfl ?_
    refine vs_get hC hW 0 rfl rfl vs_inX2 2 (by decide) vf_X2_22 rfl dX2_checkRoomForRequest_24 ?_
    refine vs_getN hC hW 25 rfl rfl vs_inX0 8 (by decide) vn_X2_289 rfl dX2_checkRoomForRequest_27 ?_
    refine vs_sipush hC dX2_checkRoomForRequest_30 (by decide +kernel) ?_
    obtain ⟨hx, hw⟩ := hw
    obtain ⟨hwt, hwf⟩ := hw
    refine vs_icmp_lt hC 47 hx ⟨by decide, by decide⟩ dX2_checkRoomForRequest_33 (by decide) (fun hc => ?_) (fun hc => ?_)
    · have hw := hwt hc
      clear hwt hwf hc
      exact vx_ret (vs_vret () hC hr hlk hW rfl hw (Nat.le_of_ble_eq_true rfl) (Nat.le_of_ble_eq_true rfl) dX2_checkRoomForRequest_47)
    · have hw := hwf hc
      clear hwt hwf hc
      exact vs_throwW 2 25 hC hst hlk ht hW hX vs_ex2 rfl hl.1 hw dX2_checkRoomForRequest_36 dX2_checkRoomForRequest_39 dX2_checkRoomForRequest_40 dX2_checkRoomForRequest_43 dX2_checkRoomForRequest_46 (Nat.le_of_ble_eq_true rfl) (Nat.le_of_ble_eq_true rfl) (Nat.le_of_ble_eq_true rfl) (Nat.le_of_ble_eq_true rfl) (Nat.le_of_ble_eq_true rfl) (Nat.le_of_ble_eq_true rfl)
  · have hw := hwf hc
    clear hwt hwf hc
    exact vs_throwW 2 24 hC hst hlk ht hW hX vs_ex2 rfl hl.1 hw dX2_checkRoomForRequest_12 dX2_checkRoomForRequest_15 dX2_checkRoomForRequest_16 dX2_checkRoomForRequest_19 dX2_checkRoomForRequest_22 (Nat.le_of_ble_eq_true rfl) (Nat.le_of_ble_eq_true rfl) (Nat.le_of_ble_eq_true rfl) (Nat.le_of_ble_eq_true rfl) (Nat.le_of_ble_eq_true rfl) (Nat.le_of_ble_eq_true rfl)
set_option maxHeartbeats 4000000 in
set_option maxRecDepth 100000 in
theorem c_X2_blockId (l : Launch) (g : vs_G) (Wo : va_W) (x0 : Int) (x1 : Int) (post : Int → Prop) (hw : wX2_blockId x0 x1 post) : vs_MI l yX2_blockId (Cond.code yX2_blockId cX2_blockId 2 (some .int) :: vs_ws) { frames := 0, cells := 0, slots := 0, locals := 0 } g [.int (vs_I x0), .int (vs_I x1)] (Wo) (fun (_ : Unit) => Wo) (fun v (_ : Unit) => post v) 0 0 := by
  refine vs_ofW (Qc := fun A => vs_QI g A (fun (_ : Unit) => Wo) (fun v (_ : Unit) => post v)) (by decide +kernel) (Nat.le_of_ble_eq_true rfl) (fun p e s m below meth c A ls hC hr hlk hW hl => ?_)
  have hC : CallFix p m c cX2_blockId 2 s _ vs_ws RX2 := hC
  have hl : lv_has ls 2 [(0, .int (vs_I x0)), (1, .int (vs_I x1))] := hl
  unfold wX2_blockId at hw
  refine vs_iload_n hC hl 0 dX2_blockId_0 rfl rfl ?_
  refine vs_bipush hC dX2_blockId_1 (by decide +kernel) ?_
  refine vs_imul hC dX2_blockId_3 ?_
  refine vs_iload_n hC hl 1 dX2_blockId_4 rfl rfl ?_
  refine vs_iadd hC dX2_blockId_5 ?_
  exact vs_iret () hC hr hlk hW rfl hw (Nat.le_of_ble_eq_true rfl) (Nat.le_of_ble_eq_true rfl) dX2_blockId_6
set_option maxHeartbeats 4000000 in
set_option maxRecDepth 100000 in
theorem c_X2_read (l : Launch) (hst : l.stackTraces = false) (g : vs_G) (sd : Nat → Nat) (h0 n0 : Nat) (aS aT aK : Nat → Nat) (wr : va_W) (V S T K : vs_St) (x1 : Int) (x2 : Int) (post : Int → vs_St → Prop) (px : Nat → Prop) (hw : wX2_read V S T K x1 x2 post px) : vs_XI l yX2_read (Cond.code yX2_read cX2_read 3 (some .int) :: vs_ws) { frames := 8, cells := 3, slots := 18, locals := 133 } g sd [.ref h0, .int (vs_I x1), .int (vs_I x2)] (vs_W2 h0 (aS 0) (aT 0) (aK 0) n0 V ++ (vs_W1 g aS S ++ (vs_W1 g aT T ++ (vs_W0 g aK K ++ wr)))) (fun (u : vs_St) => vs_W2 h0 (aS 0) (aT 0) (aK 0) n0 V ++ (vs_W1 g aS S ++ (vs_W1 g aT T ++ (vs_W0 g aK u ++ wr)))) post px 3 18 := by
  refine vs_ofX (Qc := fun A => vs_QI g A (fun (u : vs_St) => vs_W2 h0 (aS 0) (aT 0) (aK 0) n0 V ++ (vs_W1 g aS S ++ (vs_W1 g aT T ++ (vs_W0 g aK u ++ wr)))) post) (XC := fun A => vs_QX g A (vs_W2 h0 (aS 0) (aT 0) (aK 0) n0 V ++ (vs_W1 g aS S ++ (vs_W1 g aT T ++ (vs_W0 g aK K ++ wr)))) px) (by decide +kernel) (Nat.le_of_ble_eq_true rfl) (fun p e s m below meth c A ls hC hr hlk ht hW hX hl => ?_)
  have hC : CallFix p m c cX2_read 3 s _ vs_ws RX2 := hC
  have hl : lv_has ls 3 [(0, .ref h0), (1, .int (vs_I x1)), (2, .int (vs_I x2))] := hl
  unfold wX2_read at hw
  refine vs_aload_n hC hl 0 dX2_read_0 rfl rfl ?_
  refine vs_iload_n hC hl 1 dX2_read_1 rfl rfl ?_
  refine vs_iload_n hC hl 2 dX2_read_2 rfl rfl ?_
  refine vs_xcallVV [.int (vs_I x1), .int (vs_I x2)] hC hW hX 0 rfl rfl vk_X2_checkBlock vm_X2_85 (c_X2_checkBlock l hst g sd h0 n0 aS aT aK (wr) V S T K x1 x2 _ _ hw) rfl hl.1 rfl ⟨rfl, rfl⟩ ⟨Nat.le_of_ble_eq_true rfl, Nat.le_of_ble_eq_true rfl⟩ ⟨Nat.le_of_ble_eq_true rfl, Nat.le_of_ble_eq_true rfl⟩ (Nat.le_of_ble_eq_true rfl) dX2_read_3 (fun k ce q9 H locs hp hW hq hv hcl => vs_pass hlk ht hW hp hq hv hcl (Nat.le_of_ble_eq_true rfl) (Nat.le_of_ble_eq_true rfl)) (fun _ H locs hw hW => ?_)
  have hW : vs_Wd g A _ (vs_W2 h0 (aS 0) (aT 0) (aK 0) n0 V ++ (vs_W1 g aS S ++ (vs_W1 g aT T ++ (vs_W0 g aK K ++ wr)))) _ _ s := hW
  refine vs_aload_n hC hl 0 dX2_read_6 rfl rfl ?_
  refine vs_xcallVV [] hC hW hX 0 rfl rfl vk_X2_checkRoomForRequest vm_X2_89 (c_X2_checkRoomForRequest l hst g sd h0 n0 aS aT aK (wr) V S T K  _ _ hw) rfl hl.1 rfl ⟨rfl, rfl⟩ ⟨Nat.le_of_ble_eq_true rfl, Nat.le_of_ble_eq_true rfl⟩ ⟨Nat.le_of_ble_eq_true rfl, Nat.le_of_ble_eq_true rfl⟩ (Nat.le_of_ble_eq_true rfl) dX2_read_7 (fun k ce q9 H locs hp hW hq hv hcl => vs_pass hlk ht hW hp hq hv hcl (Nat.le_of_ble_eq_true rfl) (Nat.le_of_ble_eq_true rfl)) (fun _ H locs hw hW => ?_)
  have hW : vs_Wd g A _ (vs_W2 h0 (aS 0) (aT 0) (aK 0) n0 V ++ (vs_W1 g aS S ++ (vs_W1 g aT T ++ (vs_W0 g aK K ++ wr)))) _ _ s := hW
  refine vs_aload_n hC hl 0 dX2_read_10 rfl rfl ?_
  refine vs_get hC hW 0 rfl rfl vs_inX2 2 (by decide) vf_X2_22 rfl dX2_read_11 ?_
  refine vs_iload_n hC hl 1 dX2_read_14 rfl rfl ?_
  refine vs_iload_n hC hl 1 dX2_read_15 rfl rfl ?_
  refine vs_iload_n hC hl 2 dX2_read_16 rfl rfl ?_
  refine vs_callSI [.int (vs_I x1), .int (vs_I x2)] hC hW vk_X2_blockId vm_X2_92 (c_X2_blockId l g (vs_W2 h0 (aS 0) (aT 0) (aK 0) n0 V ++ (vs_W1 g aS S ++ (vs_W1 g aT T ++ (vs_W0 g aK K ++ wr)))) x1 x2 _ hw) rfl hl.1 rfl ⟨rfl, rfl⟩ ⟨Nat.le_of_ble_eq_true rfl, Nat.le_of_ble_eq_true rfl⟩ ⟨Nat.le_of_ble_eq_true rfl, Nat.le_of_ble_eq_true rfl⟩ (Nat.le_of_ble_eq_true rfl) dX2_read_17 (fun r1 _ H locs hw hW => ?_)
  have hW : vs_Wd g A _ (vs_W2 h0 (aS 0) (aT 0) (aK 0) n0 V ++ (vs_W1 g aS S ++ (vs_W1 g aT T ++ (vs_W0 g aK K ++ wr)))) _ _ s := hW
  refine vs_iconst hC dX2_read_20 ?_
  refine vs_iconst hC dX2_read_21 ?_
  have hW : vs_Wd g A _ (vs_W0 g aK K ++ (vs_W2 h0 (aS 0) (aT 0) (aK 0) n0 V ++ (vs_W1 g aS S ++ (vs_W1 g aT T ++ wr)))) _ _ s := vs_Wd.perm hW vs_p4
  refine vs_callNI [.int (vs_I x1), .int (vs_I r1), .int (vs_I 0), .int (vs_I 0)] hC hW 0 rfl rfl vk_X0_enqueue vo_X2_96 (c_X0_enqueue l g aK (vs_W2 h0 (aS 0) (aT 0) (aK 0) n0 V ++ (vs_W1 g aS S ++ (vs_W1 g aT T ++ wr))) K x1 r1 0 0 _ hw) rfl hl.1 rfl ⟨rfl, rfl⟩ ⟨Nat.le_of_ble_eq_true rfl, Nat.le_of_ble_eq_true rfl⟩ ⟨Nat.le_of_ble_eq_true rfl, Nat.le_of_ble_eq_true rfl⟩ (Nat.le_of_ble_eq_true rfl) dX2_read_22 (fun r2 K3 H locs hw hW => ?_)
  have hW : vs_Wd g A _ (vs_W0 g aK K3 ++ (vs_W2 h0 (aS 0) (aT 0) (aK 0) n0 V ++ (vs_W1 g aS S ++ (vs_W1 g aT T ++ wr)))) _ _ s := hW
  have hW : vs_Wd g A _ (vs_W2 h0 (aS 0) (aT 0) (aK 0) n0 V ++ (vs_W1 g aS S ++ (vs_W1 g aT T ++ (vs_W0 g aK K3 ++ wr)))) _ _ s := vs_Wd.perm hW (List.Perm.symm vs_p4)
  exact vx_ret (vs_iret (K3) hC hr hlk hW rfl hw (Nat.le_of_ble_eq_true rfl) (Nat.le_of_ble_eq_true rfl) dX2_read_25)
set_option maxHeartbeats 4000000 in
set_option maxRecDepth 100000 in
theorem c_X2_write (l : Launch) (hst : l.stackTraces = false) (g : vs_G) (sd : Nat → Nat) (h0 n0 : Nat) (aS aT aK : Nat → Nat) (wr : va_W) (V S T K : vs_St) (x1 : Int) (x2 : Int) (x3 : Int) (post : Int → vs_St → Prop) (px : Nat → Prop) (hw : wX2_write V S T K x1 x2 x3 post px) : vs_XI l yX2_write (Cond.code yX2_write cX2_write 4 (some .int) :: vs_ws) { frames := 8, cells := 4, slots := 24, locals := 133 } g sd [.ref h0, .int (vs_I x1), .int (vs_I x2), .int (vs_I x3)] (vs_W2 h0 (aS 0) (aT 0) (aK 0) n0 V ++ (vs_W1 g aS S ++ (vs_W1 g aT T ++ (vs_W0 g aK K ++ wr)))) (fun (u : vs_St) => vs_W2 h0 (aS 0) (aT 0) (aK 0) n0 V ++ (vs_W1 g aS S ++ (vs_W1 g aT T ++ (vs_W0 g aK u ++ wr)))) post px 4 24 := by
  refine vs_ofX (Qc := fun A => vs_QI g A (fun (u : vs_St) => vs_W2 h0 (aS 0) (aT 0) (aK 0) n0 V ++ (vs_W1 g aS S ++ (vs_W1 g aT T ++ (vs_W0 g aK u ++ wr)))) post) (XC := fun A => vs_QX g A (vs_W2 h0 (aS 0) (aT 0) (aK 0) n0 V ++ (vs_W1 g aS S ++ (vs_W1 g aT T ++ (vs_W0 g aK K ++ wr)))) px) (by decide +kernel) (Nat.le_of_ble_eq_true rfl) (fun p e s m below meth c A ls hC hr hlk ht hW hX hl => ?_)
  have hC : CallFix p m c cX2_write 4 s _ vs_ws RX2 := hC
  have hl : lv_has ls 4 [(0, .ref h0), (1, .int (vs_I x1)), (2, .int (vs_I x2)), (3, .int (vs_I x3))] := hl
  unfold wX2_write at hw
  refine vs_aload_n hC hl 0 dX2_write_0 rfl rfl ?_
  refine vs_iload_n hC hl 1 dX2_write_1 rfl rfl ?_
  refine vs_iload_n hC hl 2 dX2_write_2 rfl rfl ?_
  refine vs_xcallVV [.int (vs_I x1), .int (vs_I x2)] hC hW hX 0 rfl rfl vk_X2_checkBlock vm_X2_85 (c_X2_checkBlock l hst g sd h0 n0 aS aT aK (wr) V S T K x1 x2 _ _ hw) rfl hl.1 rfl ⟨rfl, rfl⟩ ⟨Nat.le_of_ble_eq_true rfl, Nat.le_of_ble_eq_true rfl⟩ ⟨Nat.le_of_ble_eq_true rfl, Nat.le_of_ble_eq_true rfl⟩ (Nat.le_of_ble_eq_true rfl) dX2_write_3 (fun k ce q9 H locs hp hW hq hv hcl => vs_pass hlk ht hW hp hq hv hcl (Nat.le_of_ble_eq_true rfl) (Nat.le_of_ble_eq_true rfl)) (fun _ H locs hw hW => ?_)
  have hW : vs_Wd g A _ (vs_W2 h0 (aS 0) (aT 0) (aK 0) n0 V ++ (vs_W1 g aS S ++ (vs_W1 g aT T ++ (vs_W0 g aK K ++ wr)))) _ _ s := hW
  refine vs_iload_n hC hl 3 dX2_write_6 rfl rfl ?_
  obtain ⟨hx, hw⟩ := hw
  obtain ⟨hwt, hwf⟩ := hw
  refine vs_if_lt hC 17 hx dX2_write_7 (by decide) (fun hc => ?_) (fun hc => ?_)
  · have hw := hwt hc
    clear hwt hwf hc
    exact vs_throw 1 6 hC hst hlk ht hW hX vs_ex1 rfl hl.1 hw dX2_write_17 dX2_write_20 dX2_write_21 dX2_write_23 dX2_write_26 (Nat.le_of_ble_eq_true rfl) (Nat.le_of_ble_eq_true rfl) (Nat.le_of_ble_eq_true rfl) (Nat.le_of_ble_eq_true rfl) (Nat.le_of_ble_eq_true rfl) (Nat.le_of_ble_eq_true rfl)
  · have hw := hwf hc
    clear hwt hwf hc
    refine vs_iload_n hC hl 3 dX2_write_10 rfl rfl ?_
    refine vs_sipush hC dX2_write_11 (by decide +kernel) ?_
    obtain ⟨hx, hw⟩ := hw
    obtain ⟨hwt, hwf⟩ := hw
    refine vs_icmp_le hC 27 hx ⟨by decide, by decide⟩ dX2_write_14 (by decide) (fun hc => ?_) (fun hc => ?_)
    · have hw := hwt hc
      clear hwt hwf hc
      refine vs_aload_n hC hl 0 dX2_write_27 rfl rfl ?_
      refine vs_xcallVV [] hC hW hX 0 rfl rfl vk_X2_checkRoomForRequest vm_X2_89 (c_X2_checkRoomForRequest l hst g sd h0 n0 aS aT aK (wr) V S T K  _ _ hw) rfl hl.1 rfl ⟨rfl, rfl⟩ ⟨Nat.le_of_ble_eq_true rfl, Nat.le_of_ble_eq_true rfl⟩ ⟨Nat.le_of_ble_eq_true rfl, Nat.le_of_ble_eq_true rfl⟩ (Nat.le_of_ble_eq_true rfl) dX2_write_28 (fun k ce q9 H locs hp hW hq hv hcl => vs_pass hlk ht hW hp hq hv hcl (Nat.le_of_ble_eq_true rfl) (Nat.le_of_ble_eq_true rfl)) (fun _ H locs hw hW => ?_)
      have hW : vs_Wd g A _ (vs_W2 h0 (aS 0) (aT 0) (aK 0) n0 V ++ (vs_W1 g aS S ++ (vs_W1 g aT T ++ (vs_W0 g aK K ++ wr)))) _ _ s := hW
      refine vs_aload_n hC hl 0 dX2_write_31 rfl rfl ?_
      refine vs_get hC hW 0 rfl rfl vs_inX2 2 (by decide) vf_X2_22 rfl dX2_write_32 ?_
      refine vs_iload_n hC hl 1 dX2_write_35 rfl rfl ?_
      refine vs_iload_n hC hl 1 dX2_write_36 rfl rfl ?_
      refine vs_iload_n hC hl 2 dX2_write_37 rfl rfl ?_
      refine vs_callSI [.int (vs_I x1), .int (vs_I x2)] hC hW vk_X2_blockId vm_X2_92 (c_X2_blockId l g (vs_W2 h0 (aS 0) (aT 0) (aK 0) n0 V ++ (vs_W1 g aS S ++ (vs_W1 g aT T ++ (vs_W0 g aK K ++ wr)))) x1 x2 _ hw) rfl hl.1 rfl ⟨rfl, rfl⟩ ⟨Nat.le_of_ble_eq_true rfl, Nat.le_of_ble_eq_true rfl⟩ ⟨Nat.le_of_ble_eq_true rfl, Nat.le_of_ble_eq_true rfl⟩ (Nat.le_of_ble_eq_true rfl) dX2_write_38 (fun r1 _ H locs hw hW => ?_)
      have hW : vs_Wd g A _ (vs_W2 h0 (aS 0) (aT 0) (aK 0) n0 V ++ (vs_W1 g aS S ++ (vs_W1 g aT T ++ (vs_W0 g aK K ++ wr)))) _ _ s := hW
      refine vs_iconst hC dX2_write_41 ?_
      refine vs_iload_n hC hl 3 dX2_write_42 rfl rfl ?_
      have hW : vs_Wd g A _ (vs_W0 g aK K ++ (vs_W2 h0 (aS 0) (aT 0) (aK 0) n0 V ++ (vs_W1 g aS S ++ (vs_W1 g aT T ++ wr)))) _ _ s := vs_Wd.perm hW vs_p4
      refine vs_callNI [.int (vs_I x1), .int (vs_I r1), .int (vs_I 1), .int (vs_I x3)] hC hW 0 rfl rfl vk_X0_enqueue vo_X2_96 (c_X0_enqueue l g aK (vs_W2 h0 (aS 0) (aT 0) (aK 0) n0 V ++ (vs_W1 g aS S ++ (vs_W1 g aT T ++ wr))) K x1 r1 1 x3 _ hw) rfl hl.1 rfl ⟨rfl, rfl⟩ ⟨Nat.le_of_ble_eq_true rfl, Nat.le_of_ble_eq_true rfl⟩ ⟨Nat.le_of_ble_eq_true rfl, Nat.le_of_ble_eq_true rfl⟩ (Nat.le_of_ble_eq_true rfl) dX2_write_43 (fun r2 K3 H locs hw hW => ?_)
      have hW : vs_Wd g A _ (vs_W0 g aK K3 ++ (vs_W2 h0 (aS 0) (aT 0) (aK 0) n0 V ++ (vs_W1 g aS S ++ (vs_W1 g aT T ++ wr)))) _ _ s := hW
      have hW : vs_Wd g A _ (vs_W2 h0 (aS 0) (aT 0) (aK 0) n0 V ++ (vs_W1 g aS S ++ (vs_W1 g aT T ++ (vs_W0 g aK K3 ++ wr)))) _ _ s := vs_Wd.perm hW (List.Perm.symm vs_p4)
      exact vx_ret (vs_iret (K3) hC hr hlk hW rfl hw (Nat.le_of_ble_eq_true rfl) (Nat.le_of_ble_eq_true rfl) dX2_write_46)
    · have hw := hwf hc
      clear hwt hwf hc
      exact vs_throw 1 6 hC hst hlk ht hW hX vs_ex1 rfl hl.1 hw dX2_write_17 dX2_write_20 dX2_write_21 dX2_write_23 dX2_write_26 (Nat.le_of_ble_eq_true rfl) (Nat.le_of_ble_eq_true rfl) (Nat.le_of_ble_eq_true rfl) (Nat.le_of_ble_eq_true rfl) (Nat.le_of_ble_eq_true rfl) (Nat.le_of_ble_eq_true rfl)
set_option maxHeartbeats 4000000 in
set_option maxRecDepth 100000 in
theorem c_X2_checkRequest (l : Launch) (hst : l.stackTraces = false) (g : vs_G) (sd : Nat → Nat) (h0 n0 : Nat) (aS aT aK : Nat → Nat) (wr : va_W) (V S T K : vs_St) (x1 : Int) (post : Prop) (px : Nat → Prop) (hw : wX2_checkRequest V S T K x1 post px) : vs_XV l yX2_checkRequest (Cond.code yX2_checkRequest cX2_checkRequest 2 (none) :: vs_ws) { frames := 6, cells := 1, slots := 6, locals := 90 } g sd [.ref h0, .int (vs_I x1)] (vs_W2 h0 (aS 0) (aT 0) (aK 0) n0 V ++ (vs_W1 g aS S ++ (vs_W1 g aT T ++ (vs_W0 g aK K ++ wr)))) (fun (_ : Unit) => vs_W2 h0 (aS 0) (aT 0) (aK 0) n0 V ++ (vs_W1 g aS S ++ (vs_W1 g aT T ++ (vs_W0 g aK K ++ wr)))) (fun (_ : Unit) => post) px 1 6 := by
  refine vs_ofX (Qc := fun A => vs_QV g A (fun (_ : Unit) => vs_W2 h0 (aS 0) (aT 0) (aK 0) n0 V ++ (vs_W1 g aS S ++ (vs_W1 g aT T ++ (vs_W0 g aK K ++ wr)))) (fun (_ : Unit) => post)) (XC := fun A => vs_QX g A (vs_W2 h0 (aS 0) (aT 0) (aK 0) n0 V ++ (vs_W1 g aS S ++ (vs_W1 g aT T ++ (vs_W0 g aK K ++ wr)))) px) (by decide +kernel) (Nat.le_of_ble_eq_true rfl) (fun p e s m below meth c A ls hC hr hlk ht hW hX hl => ?_)
  have hC : CallFix p m c cX2_checkRequest 2 s _ vs_ws RX2 := hC
  have hl : lv_has ls 2 [(0, .ref h0), (1, .int (vs_I x1))] := hl
  unfold wX2_checkRequest at hw
  refine vs_iload_n hC hl 1 dX2_checkRequest_0 rfl rfl ?_
  obtain ⟨hx, hw⟩ := hw
  obtain ⟨hwt, hwf⟩ := hw
  refine vs_if_lt hC 15 hx dX2_checkRequest_1 (by decide) (fun hc => ?_) (fun hc => ?_)
  · have hw := hwt hc
    clear hwt hwf hc
    exact vs_throwW 3 23 hC hst hlk ht hW hX vs_ex3 rfl hl.1 hw dX2_checkRequest_15 dX2_checkRequest_18 dX2_checkRequest_19 dX2_checkRequest_22 dX2_checkRequest_25 (Nat.le_of_ble_eq_true rfl) (Nat.le_of_ble_eq_true rfl) (Nat.le_of_ble_eq_true rfl) (Nat.le_of_ble_eq_true rfl) (Nat.le_of_ble_eq_true rfl) (Nat.le_of_ble_eq_true rfl)
  · have hw := hwf hc
    clear hwt hwf hc
    refine vs_iload_n hC hl 1 dX2_checkRequest_4 rfl rfl ?_
    refine vs_aload_n hC hl 0 dX2_checkRequest_5 rfl rfl ?_
    refine vs_get hC hW 0 rfl rfl vs_inX2 2 (by decide) vf_X2_22 rfl dX2_checkRequest_6 ?_
    refine vs_getN hC hW 25 rfl rfl vs_inX0 8 (by decide) vn_X2_289 rfl dX2_checkRequest_9 ?_
    obtain ⟨hx, hw⟩ := hw
    obtain ⟨hy, hw⟩ := hw
    obtain ⟨hwt, hwf⟩ := hw
    refine vs_icmp_lt hC 26 hx hy dX2_checkRequest_12 (by decide) (fun hc => ?_) (fun hc => ?_)
    · have hw := hwt hc
      clear hwt hwf hc
      exact vx_ret (vs_vret () hC hr hlk hW rfl hw (Nat.le_of_ble_eq_true rfl) (Nat.le_of_ble_eq_true rfl) dX2_checkRequest_26)
    · have hw := hwf hc
      clear hwt hwf hc
      exact vs_throwW 3 23 hC hst hlk ht hW hX vs_ex3 rfl hl.1 hw dX2_checkRequest_15 dX2_checkRequest_18 dX2_checkRequest_19 dX2_checkRequest_22 dX2_checkRequest_25 (Nat.le_of_ble_eq_true rfl) (Nat.le_of_ble_eq_true rfl) (Nat.le_of_ble_eq_true rfl) (Nat.le_of_ble_eq_true rfl) (Nat.le_of_ble_eq_true rfl) (Nat.le_of_ble_eq_true rfl)
set_option maxHeartbeats 4000000 in
set_option maxRecDepth 100000 in
theorem c_X2_stateOf (l : Launch) (hst : l.stackTraces = false) (g : vs_G) (sd : Nat → Nat) (h0 n0 : Nat) (aS aT aK : Nat → Nat) (wr : va_W) (V S T K : vs_St) (x1 : Int) (post : Int → Prop) (px : Nat → Prop) (hw : wX2_stateOf V S T K x1 post px) : vs_XI l yX2_stateOf (Cond.code yX2_stateOf cX2_stateOf 2 (some .char) :: vs_ws) { frames := 7, cells := 1, slots := 6, locals := 111 } g sd [.ref h0, .int (vs_I x1)] (vs_W2 h0 (aS 0) (aT 0) (aK 0) n0 V ++ (vs_W1 g aS S ++ (vs_W1 g aT T ++ (vs_W0 g aK K ++ wr)))) (fun (_ : Unit) => vs_W2 h0 (aS 0) (aT 0) (aK 0) n0 V ++ (vs_W1 g aS S ++ (vs_W1 g aT T ++ (vs_W0 g aK K ++ wr)))) (fun v (_ : Unit) => post v) px 1 6 := by
  refine vs_ofX (Qc := fun A => vs_QI g A (fun (_ : Unit) => vs_W2 h0 (aS 0) (aT 0) (aK 0) n0 V ++ (vs_W1 g aS S ++ (vs_W1 g aT T ++ (vs_W0 g aK K ++ wr)))) (fun v (_ : Unit) => post v)) (XC := fun A => vs_QX g A (vs_W2 h0 (aS 0) (aT 0) (aK 0) n0 V ++ (vs_W1 g aS S ++ (vs_W1 g aT T ++ (vs_W0 g aK K ++ wr)))) px) (by decide +kernel) (Nat.le_of_ble_eq_true rfl) (fun p e s m below meth c A ls hC hr hlk ht hW hX hl => ?_)
  have hC : CallFix p m c cX2_stateOf 2 s _ vs_ws RX2 := hC
  have hl : lv_has ls 2 [(0, .ref h0), (1, .int (vs_I x1))] := hl
  unfold wX2_stateOf at hw
  refine vs_aload_n hC hl 0 dX2_stateOf_0 rfl rfl ?_
  refine vs_iload_n hC hl 1 dX2_stateOf_1 rfl rfl ?_
  refine vs_xcallVV [.int (vs_I x1)] hC hW hX 0 rfl rfl vk_X2_checkRequest vm_X2_102 (c_X2_checkRequest l hst g sd h0 n0 aS aT aK (wr) V S T K x1 _ _ hw) rfl hl.1 rfl ⟨rfl, rfl⟩ ⟨Nat.le_of_ble_eq_true rfl, Nat.le_of_ble_eq_true rfl⟩ ⟨Nat.le_of_ble_eq_true rfl, Nat.le_of_ble_eq_true rfl⟩ (Nat.le_of_ble_eq_true rfl) dX2_stateOf_2 (fun k ce q9 H locs hp hW hq hv hcl => vs_pass hlk ht hW hp hq hv hcl (Nat.le_of_ble_eq_true rfl) (Nat.le_of_ble_eq_true rfl)) (fun _ H locs hw hW => ?_)
  have hW : vs_Wd g A _ (vs_W2 h0 (aS 0) (aT 0) (aK 0) n0 V ++ (vs_W1 g aS S ++ (vs_W1 g aT T ++ (vs_W0 g aK K ++ wr)))) _ _ s := hW
  refine vs_aload_n hC hl 0 dX2_stateOf_5 rfl rfl ?_
  refine vs_get hC hW 0 rfl rfl vs_inX2 2 (by decide) vf_X2_22 rfl dX2_stateOf_6 ?_
  refine vs_getN hC hW 25 rfl rfl vs_inX0 13 (by decide) vn_X2_105 rfl dX2_stateOf_9 ?_
  refine vs_iload_n hC hl 1 dX2_stateOf_12 rfl rfl ?_
  obtain ⟨hi, hw⟩ := hw
  refine vs_cald hC hW 36 rfl (by decide) hi dX2_stateOf_13 ?_
  exact vx_ret (vs_cret () hC hr hlk hW rfl hw (Nat.le_of_ble_eq_true rfl) (Nat.le_of_ble_eq_true rfl) dX2_stateOf_14)
set_option maxHeartbeats 4000000 in
set_option maxRecDepth 100000 in
theorem c_X2_answerTo (l : Launch) (hst : l.stackTraces = false) (g : vs_G) (sd : Nat → Nat) (h0 n0 : Nat) (aS aT aK : Nat → Nat) (wr : va_W) (V S T K : vs_St) (x1 : Int) (post : Int → Prop) (px : Nat → Prop) (hw : wX2_answerTo V S T K x1 post px) : vs_XI l yX2_answerTo (Cond.code yX2_answerTo cX2_answerTo 2 (some .int) :: vs_ws) { frames := 7, cells := 2, slots := 12, locals := 111 } g sd [.ref h0, .int (vs_I x1)] (vs_W2 h0 (aS 0) (aT 0) (aK 0) n0 V ++ (vs_W1 g aS S ++ (vs_W1 g aT T ++ (vs_W0 g aK K ++ wr)))) (fun (_ : Unit) => vs_W2 h0 (aS 0) (aT 0) (aK 0) n0 V ++ (vs_W1 g aS S ++ (vs_W1 g aT T ++ (vs_W0 g aK K ++ wr)))) (fun v (_ : Unit) => post v) px 2 12 := by
  refine vs_ofX (Qc := fun A => vs_QI g A (fun (_ : Unit) => vs_W2 h0 (aS 0) (aT 0) (aK 0) n0 V ++ (vs_W1 g aS S ++ (vs_W1 g aT T ++ (vs_W0 g aK K ++ wr)))) (fun v (_ : Unit) => post v)) (XC := fun A => vs_QX g A (vs_W2 h0 (aS 0) (aT 0) (aK 0) n0 V ++ (vs_W1 g aS S ++ (vs_W1 g aT T ++ (vs_W0 g aK K ++ wr)))) px) (by decide +kernel) (Nat.le_of_ble_eq_true rfl) (fun p e s m below meth c A ls hC hr hlk ht hW hX hl => ?_)
  have hC : CallFix p m c cX2_answerTo 2 s _ vs_ws RX2 := hC
  have hl : lv_has ls 2 [(0, .ref h0), (1, .int (vs_I x1))] := hl
  unfold wX2_answerTo at hw
  refine vs_aload_n hC hl 0 dX2_answerTo_0 rfl rfl ?_
  refine vs_iload_n hC hl 1 dX2_answerTo_1 rfl rfl ?_
  refine vs_xcallVV [.int (vs_I x1)] hC hW hX 0 rfl rfl vk_X2_checkRequest vm_X2_102 (c_X2_checkRequest l hst g sd h0 n0 aS aT aK (wr) V S T K x1 _ _ hw) rfl hl.1 rfl ⟨rfl, rfl⟩ ⟨Nat.le_of_ble_eq_true rfl, Nat.le_of_ble_eq_true rfl⟩ ⟨Nat.le_of_ble_eq_true rfl, Nat.le_of_ble_eq_true rfl⟩ (Nat.le_of_ble_eq_true rfl) dX2_answerTo_2 (fun k ce q9 H locs hp hW hq hv hcl => vs_pass hlk ht hW hp hq hv hcl (Nat.le_of_ble_eq_true rfl) (Nat.le_of_ble_eq_true rfl)) (fun _ H locs hw hW => ?_)
  have hW : vs_Wd g A _ (vs_W2 h0 (aS 0) (aT 0) (aK 0) n0 V ++ (vs_W1 g aS S ++ (vs_W1 g aT T ++ (vs_W0 g aK K ++ wr)))) _ _ s := hW
  refine vs_aload_n hC hl 0 dX2_answerTo_5 rfl rfl ?_
  refine vs_get hC hW 0 rfl rfl vs_inX2 2 (by decide) vf_X2_22 rfl dX2_answerTo_6 ?_
  refine vs_getN hC hW 25 rfl rfl vs_inX0 11 (by decide) vn_X2_106 rfl dX2_answerTo_9 ?_
  refine vs_iload_n hC hl 1 dX2_answerTo_12 rfl rfl ?_
  obtain ⟨hi, hw⟩ := hw
  refine vs_zald hC hW 34 rfl (by decide) hi dX2_answerTo_13 ?_
  obtain ⟨hx, hw⟩ := hw
  obtain ⟨hwt, hwf⟩ := hw
  refine vs_if_ne hC 31 hx dX2_answerTo_14 (by decide) (fun hc => ?_) (fun hc => ?_)
  · have hw := hwt hc
    clear hwt hwf hc
    exact vs_throw 4 7 hC hst hlk ht hW hX vs_ex4 rfl hl.1 hw dX2_answerTo_31 dX2_answerTo_34 dX2_answerTo_35 dX2_answerTo_37 dX2_answerTo_40 (Nat.le_of_ble_eq_true rfl) (Nat.le_of_ble_eq_true rfl) (Nat.le_of_ble_eq_true rfl) (Nat.le_of_ble_eq_true rfl) (Nat.le_of_ble_eq_true rfl) (Nat.le_of_ble_eq_true rfl)
  · have hw := hwf hc
    clear hwt hwf hc
    refine vs_aload_n hC hl 0 dX2_answerTo_17 rfl rfl ?_
    refine vs_get hC hW 0 rfl rfl vs_inX2 2 (by decide) vf_X2_22 rfl dX2_answerTo_18 ?_
    refine vs_getN hC hW 25 rfl rfl vs_inX0 13 (by decide) vn_X2_105 rfl dX2_answerTo_21 ?_
    refine vs_iload_n hC hl 1 dX2_answerTo_24 rfl rfl ?_
    obtain ⟨hi, hw⟩ := hw
    refine vs_cald hC hW 36 rfl (by decide) hi dX2_answerTo_25 ?_
    refine vs_bipush hC dX2_answerTo_26 (by decide +kernel) ?_
    obtain ⟨hx, hw⟩ := hw
    obtain ⟨hwt, hwf⟩ := hw
    refine vs_icmp_eq hC 41 hx ⟨by decide, by decide⟩ dX2_answerTo_28 (by decide) (fun hc => ?_) (fun hc => ?_)
    · have hw := hwt hc
      clear hwt hwf hc
      refine vs_aload_n hC hl 0 dX2_answerTo_41 rfl rfl ?_
      refine vs_get hC hW 0 rfl rfl vs_inX2 2 (by decide) vf_X2_22 rfl dX2_answerTo_42 ?_
      refine vs_getN hC hW 25 rfl rfl vs_inX0 12 (by decide) vn_X2_115 rfl dX2_answerTo_45 ?_
      refine vs_iload_n hC hl 1 dX2_answerTo_48 rfl rfl ?_
      obtain ⟨hi, hw⟩ := hw
      refine vs_iald hC hW 35 rfl (by decide) hi dX2_answerTo_49 ?_
      exact vx_ret (vs_iret () hC hr hlk hW rfl hw (Nat.le_of_ble_eq_true rfl) (Nat.le_of_ble_eq_true rfl) dX2_answerTo_50)
    · have hw := hwf hc
      clear hwt hwf hc
      exact vs_throw 4 7 hC hst hlk ht hW hX vs_ex4 rfl hl.1 hw dX2_answerTo_31 dX2_answerTo_34 dX2_answerTo_35 dX2_answerTo_37 dX2_answerTo_40 (Nat.le_of_ble_eq_true rfl) (Nat.le_of_ble_eq_true rfl) (Nat.le_of_ble_eq_true rfl) (Nat.le_of_ble_eq_true rfl) (Nat.le_of_ble_eq_true rfl) (Nat.le_of_ble_eq_true rfl)
set_option maxHeartbeats 4000000 in
set_option maxRecDepth 100000 in
theorem c_X2_waitingOf (l : Launch) (hst : l.stackTraces = false) (g : vs_G) (sd : Nat → Nat) (h0 n0 : Nat) (aS aT aK : Nat → Nat) (wr : va_W) (V S T K : vs_St) (x1 : Int) (post : Int → Prop) (px : Nat → Prop) (hw : wX2_waitingOf V S T K x1 post px) : vs_XI l yX2_waitingOf (Cond.code yX2_waitingOf cX2_waitingOf 2 (some .int) :: vs_ws) { frames := 7, cells := 1, slots := 6, locals := 111 } g sd [.ref h0, .int (vs_I x1)] (vs_W2 h0 (aS 0) (aT 0) (aK 0) n0 V ++ (vs_W1 g aS S ++ (vs_W1 g aT T ++ (vs_W0 g aK K ++ wr)))) (fun (_ : Unit) => vs_W2 h0 (aS 0) (aT 0) (aK 0) n0 V ++ (vs_W1 g aS S ++ (vs_W1 g aT T ++ (vs_W0 g aK K ++ wr)))) (fun v (_ : Unit) => post v) px 1 6 := by
  refine vs_ofX (Qc := fun A => vs_QI g A (fun (_ : Unit) => vs_W2 h0 (aS 0) (aT 0) (aK 0) n0 V ++ (vs_W1 g aS S ++ (vs_W1 g aT T ++ (vs_W0 g aK K ++ wr)))) (fun v (_ : Unit) => post v)) (XC := fun A => vs_QX g A (vs_W2 h0 (aS 0) (aT 0) (aK 0) n0 V ++ (vs_W1 g aS S ++ (vs_W1 g aT T ++ (vs_W0 g aK K ++ wr)))) px) (by decide +kernel) (Nat.le_of_ble_eq_true rfl) (fun p e s m below meth c A ls hC hr hlk ht hW hX hl => ?_)
  have hC : CallFix p m c cX2_waitingOf 2 s _ vs_ws RX2 := hC
  have hl : lv_has ls 2 [(0, .ref h0), (1, .int (vs_I x1))] := hl
  unfold wX2_waitingOf at hw
  refine vs_aload_n hC hl 0 dX2_waitingOf_0 rfl rfl ?_
  refine vs_iload_n hC hl 1 dX2_waitingOf_1 rfl rfl ?_
  refine vs_xcallVV [.int (vs_I x1)] hC hW hX 0 rfl rfl vk_X2_checkTenant vm_X2_118 (c_X2_checkTenant l hst g sd h0 n0 aS aT aK (wr) V S T K x1 _ _ hw) rfl hl.1 rfl ⟨rfl, rfl⟩ ⟨Nat.le_of_ble_eq_true rfl, Nat.le_of_ble_eq_true rfl⟩ ⟨Nat.le_of_ble_eq_true rfl, Nat.le_of_ble_eq_true rfl⟩ (Nat.le_of_ble_eq_true rfl) dX2_waitingOf_2 (fun k ce q9 H locs hp hW hq hv hcl => vs_pass hlk ht hW hp hq hv hcl (Nat.le_of_ble_eq_true rfl) (Nat.le_of_ble_eq_true rfl)) (fun _ H locs hw hW => ?_)
  have hW : vs_Wd g A _ (vs_W2 h0 (aS 0) (aT 0) (aK 0) n0 V ++ (vs_W1 g aS S ++ (vs_W1 g aT T ++ (vs_W0 g aK K ++ wr)))) _ _ s := hW
  refine vs_aload_n hC hl 0 dX2_waitingOf_5 rfl rfl ?_
  refine vs_get hC hW 0 rfl rfl vs_inX2 2 (by decide) vf_X2_22 rfl dX2_waitingOf_6 ?_
  refine vs_iload_n hC hl 1 dX2_waitingOf_9 rfl rfl ?_
  have hW : vs_Wd g A _ (vs_W0 g aK K ++ (vs_W2 h0 (aS 0) (aT 0) (aK 0) n0 V ++ (vs_W1 g aS S ++ (vs_W1 g aT T ++ wr)))) _ _ s := vs_Wd.perm hW vs_p4
  refine vs_callNI [.int (vs_I x1)] hC hW 0 rfl rfl vk_X0_countWaiting vo_X2_121 (c_X0_countWaiting l g aK (vs_W2 h0 (aS 0) (aT 0) (aK 0) n0 V ++ (vs_W1 g aS S ++ (vs_W1 g aT T ++ wr))) K x1 _ hw) rfl hl.1 rfl ⟨rfl, rfl⟩ ⟨Nat.le_of_ble_eq_true rfl, Nat.le_of_ble_eq_true rfl⟩ ⟨Nat.le_of_ble_eq_true rfl, Nat.le_of_ble_eq_true rfl⟩ (Nat.le_of_ble_eq_true rfl) dX2_waitingOf_10 (fun r1 _ H locs hw hW => ?_)
  have hW : vs_Wd g A _ (vs_W0 g aK K ++ (vs_W2 h0 (aS 0) (aT 0) (aK 0) n0 V ++ (vs_W1 g aS S ++ (vs_W1 g aT T ++ wr)))) _ _ s := hW
  have hW : vs_Wd g A _ (vs_W2 h0 (aS 0) (aT 0) (aK 0) n0 V ++ (vs_W1 g aS S ++ (vs_W1 g aT T ++ (vs_W0 g aK K ++ wr)))) _ _ s := vs_Wd.perm hW (List.Perm.symm vs_p4)
  exact vx_ret (vs_iret () hC hr hlk hW rfl hw (Nat.le_of_ble_eq_true rfl) (Nat.le_of_ble_eq_true rfl) dX2_waitingOf_13)
set_option maxHeartbeats 4000000 in
set_option maxRecDepth 100000 in
theorem c_X2_servedOf (l : Launch) (hst : l.stackTraces = false) (g : vs_G) (sd : Nat → Nat) (h0 n0 : Nat) (aS aT aK : Nat → Nat) (wr : va_W) (V S T K : vs_St) (x1 : Int) (post : Int → Prop) (px : Nat → Prop) (hw : wX2_servedOf V S T K x1 post px) : vs_XI l yX2_servedOf (Cond.code yX2_servedOf cX2_servedOf 2 (some .int) :: vs_ws) { frames := 7, cells := 1, slots := 6, locals := 111 } g sd [.ref h0, .int (vs_I x1)] (vs_W2 h0 (aS 0) (aT 0) (aK 0) n0 V ++ (vs_W1 g aS S ++ (vs_W1 g aT T ++ (vs_W0 g aK K ++ wr)))) (fun (_ : Unit) => vs_W2 h0 (aS 0) (aT 0) (aK 0) n0 V ++ (vs_W1 g aS S ++ (vs_W1 g aT T ++ (vs_W0 g aK K ++ wr)))) (fun v (_ : Unit) => post v) px 1 6 := by
  refine vs_ofX (Qc := fun A => vs_QI g A (fun (_ : Unit) => vs_W2 h0 (aS 0) (aT 0) (aK 0) n0 V ++ (vs_W1 g aS S ++ (vs_W1 g aT T ++ (vs_W0 g aK K ++ wr)))) (fun v (_ : Unit) => post v)) (XC := fun A => vs_QX g A (vs_W2 h0 (aS 0) (aT 0) (aK 0) n0 V ++ (vs_W1 g aS S ++ (vs_W1 g aT T ++ (vs_W0 g aK K ++ wr)))) px) (by decide +kernel) (Nat.le_of_ble_eq_true rfl) (fun p e s m below meth c A ls hC hr hlk ht hW hX hl => ?_)
  have hC : CallFix p m c cX2_servedOf 2 s _ vs_ws RX2 := hC
  have hl : lv_has ls 2 [(0, .ref h0), (1, .int (vs_I x1))] := hl
  unfold wX2_servedOf at hw
  refine vs_aload_n hC hl 0 dX2_servedOf_0 rfl rfl ?_
  refine vs_iload_n hC hl 1 dX2_servedOf_1 rfl rfl ?_
  refine vs_xcallVV [.int (vs_I x1)] hC hW hX 0 rfl rfl vk_X2_checkTenant vm_X2_118 (c_X2_checkTenant l hst g sd h0 n0 aS aT aK (wr) V S T K x1 _ _ hw) rfl hl.1 rfl ⟨rfl, rfl⟩ ⟨Nat.le_of_ble_eq_true rfl, Nat.le_of_ble_eq_true rfl⟩ ⟨Nat.le_of_ble_eq_true rfl, Nat.le_of_ble_eq_true rfl⟩ (Nat.le_of_ble_eq_true rfl) dX2_servedOf_2 (fun k ce q9 H locs hp hW hq hv hcl => vs_pass hlk ht hW hp hq hv hcl (Nat.le_of_ble_eq_true rfl) (Nat.le_of_ble_eq_true rfl)) (fun _ H locs hw hW => ?_)
  have hW : vs_Wd g A _ (vs_W2 h0 (aS 0) (aT 0) (aK 0) n0 V ++ (vs_W1 g aS S ++ (vs_W1 g aT T ++ (vs_W0 g aK K ++ wr)))) _ _ s := hW
  refine vs_aload_n hC hl 0 dX2_servedOf_5 rfl rfl ?_
  refine vs_get hC hW 0 rfl rfl vs_inX2 2 (by decide) vf_X2_22 rfl dX2_servedOf_6 ?_
  refine vs_getN hC hW 25 rfl rfl vs_inX0 3 (by decide) vn_X2_124 rfl dX2_servedOf_9 ?_
  refine vs_iload_n hC hl 1 dX2_servedOf_12 rfl rfl ?_
  obtain ⟨hi, hw⟩ := hw
  refine vs_iald hC hW 28 rfl (by decide) hi dX2_servedOf_13 ?_
  exact vx_ret (vs_iret () hC hr hlk hW rfl hw (Nat.le_of_ble_eq_true rfl) (Nat.le_of_ble_eq_true rfl) dX2_servedOf_14)
set_option maxHeartbeats 4000000 in
set_option maxRecDepth 100000 in
theorem c_X2_creditsOf (l : Launch) (hst : l.stackTraces = false) (g : vs_G) (sd : Nat → Nat) (h0 n0 : Nat) (aS aT aK : Nat → Nat) (wr : va_W) (V S T K : vs_St) (x1 : Int) (post : Int → Prop) (px : Nat → Prop) (hw : wX2_creditsOf V S T K x1 post px) : vs_XI l yX2_creditsOf (Cond.code yX2_creditsOf cX2_creditsOf 2 (some .int) :: vs_ws) { frames := 7, cells := 1, slots := 6, locals := 111 } g sd [.ref h0, .int (vs_I x1)] (vs_W2 h0 (aS 0) (aT 0) (aK 0) n0 V ++ (vs_W1 g aS S ++ (vs_W1 g aT T ++ (vs_W0 g aK K ++ wr)))) (fun (_ : Unit) => vs_W2 h0 (aS 0) (aT 0) (aK 0) n0 V ++ (vs_W1 g aS S ++ (vs_W1 g aT T ++ (vs_W0 g aK K ++ wr)))) (fun v (_ : Unit) => post v) px 1 6 := by
  refine vs_ofX (Qc := fun A => vs_QI g A (fun (_ : Unit) => vs_W2 h0 (aS 0) (aT 0) (aK 0) n0 V ++ (vs_W1 g aS S ++ (vs_W1 g aT T ++ (vs_W0 g aK K ++ wr)))) (fun v (_ : Unit) => post v)) (XC := fun A => vs_QX g A (vs_W2 h0 (aS 0) (aT 0) (aK 0) n0 V ++ (vs_W1 g aS S ++ (vs_W1 g aT T ++ (vs_W0 g aK K ++ wr)))) px) (by decide +kernel) (Nat.le_of_ble_eq_true rfl) (fun p e s m below meth c A ls hC hr hlk ht hW hX hl => ?_)
  have hC : CallFix p m c cX2_creditsOf 2 s _ vs_ws RX2 := hC
  have hl : lv_has ls 2 [(0, .ref h0), (1, .int (vs_I x1))] := hl
  unfold wX2_creditsOf at hw
  refine vs_aload_n hC hl 0 dX2_creditsOf_0 rfl rfl ?_
  refine vs_iload_n hC hl 1 dX2_creditsOf_1 rfl rfl ?_
  refine vs_xcallVV [.int (vs_I x1)] hC hW hX 0 rfl rfl vk_X2_checkTenant vm_X2_118 (c_X2_checkTenant l hst g sd h0 n0 aS aT aK (wr) V S T K x1 _ _ hw) rfl hl.1 rfl ⟨rfl, rfl⟩ ⟨Nat.le_of_ble_eq_true rfl, Nat.le_of_ble_eq_true rfl⟩ ⟨Nat.le_of_ble_eq_true rfl, Nat.le_of_ble_eq_true rfl⟩ (Nat.le_of_ble_eq_true rfl) dX2_creditsOf_2 (fun k ce q9 H locs hp hW hq hv hcl => vs_pass hlk ht hW hp hq hv hcl (Nat.le_of_ble_eq_true rfl) (Nat.le_of_ble_eq_true rfl)) (fun _ H locs hw hW => ?_)
  have hW : vs_Wd g A _ (vs_W2 h0 (aS 0) (aT 0) (aK 0) n0 V ++ (vs_W1 g aS S ++ (vs_W1 g aT T ++ (vs_W0 g aK K ++ wr)))) _ _ s := hW
  refine vs_aload_n hC hl 0 dX2_creditsOf_5 rfl rfl ?_
  refine vs_get hC hW 0 rfl rfl vs_inX2 2 (by decide) vf_X2_22 rfl dX2_creditsOf_6 ?_
  refine vs_getN hC hW 25 rfl rfl vs_inX0 5 (by decide) vn_X2_127 rfl dX2_creditsOf_9 ?_
  refine vs_iload_n hC hl 1 dX2_creditsOf_12 rfl rfl ?_
  obtain ⟨hi, hw⟩ := hw
  refine vs_iald hC hW 30 rfl (by decide) hi dX2_creditsOf_13 ?_
  exact vx_ret (vs_iret () hC hr hlk hW rfl hw (Nat.le_of_ble_eq_true rfl) (Nat.le_of_ble_eq_true rfl) dX2_creditsOf_14)
set_option maxHeartbeats 4000000 in
set_option maxRecDepth 100000 in
theorem c_X2_breachesOf (l : Launch) (hst : l.stackTraces = false) (g : vs_G) (sd : Nat → Nat) (h0 n0 : Nat) (aS aT aK : Nat → Nat) (wr : va_W) (V S T K : vs_St) (x1 : Int) (post : Int → Prop) (px : Nat → Prop) (hw : wX2_breachesOf V S T K x1 post px) : vs_XI l yX2_breachesOf (Cond.code yX2_breachesOf cX2_breachesOf 2 (some .int) :: vs_ws) { frames := 7, cells := 1, slots := 6, locals := 111 } g sd [.ref h0, .int (vs_I x1)] (vs_W2 h0 (aS 0) (aT 0) (aK 0) n0 V ++ (vs_W1 g aS S ++ (vs_W1 g aT T ++ (vs_W0 g aK K ++ wr)))) (fun (_ : Unit) => vs_W2 h0 (aS 0) (aT 0) (aK 0) n0 V ++ (vs_W1 g aS S ++ (vs_W1 g aT T ++ (vs_W0 g aK K ++ wr)))) (fun v (_ : Unit) => post v) px 1 6 := by
  refine vs_ofX (Qc := fun A => vs_QI g A (fun (_ : Unit) => vs_W2 h0 (aS 0) (aT 0) (aK 0) n0 V ++ (vs_W1 g aS S ++ (vs_W1 g aT T ++ (vs_W0 g aK K ++ wr)))) (fun v (_ : Unit) => post v)) (XC := fun A => vs_QX g A (vs_W2 h0 (aS 0) (aT 0) (aK 0) n0 V ++ (vs_W1 g aS S ++ (vs_W1 g aT T ++ (vs_W0 g aK K ++ wr)))) px) (by decide +kernel) (Nat.le_of_ble_eq_true rfl) (fun p e s m below meth c A ls hC hr hlk ht hW hX hl => ?_)
  have hC : CallFix p m c cX2_breachesOf 2 s _ vs_ws RX2 := hC
  have hl : lv_has ls 2 [(0, .ref h0), (1, .int (vs_I x1))] := hl
  unfold wX2_breachesOf at hw
  refine vs_aload_n hC hl 0 dX2_breachesOf_0 rfl rfl ?_
  refine vs_iload_n hC hl 1 dX2_breachesOf_1 rfl rfl ?_
  refine vs_xcallVV [.int (vs_I x1)] hC hW hX 0 rfl rfl vk_X2_checkTenant vm_X2_118 (c_X2_checkTenant l hst g sd h0 n0 aS aT aK (wr) V S T K x1 _ _ hw) rfl hl.1 rfl ⟨rfl, rfl⟩ ⟨Nat.le_of_ble_eq_true rfl, Nat.le_of_ble_eq_true rfl⟩ ⟨Nat.le_of_ble_eq_true rfl, Nat.le_of_ble_eq_true rfl⟩ (Nat.le_of_ble_eq_true rfl) dX2_breachesOf_2 (fun k ce q9 H locs hp hW hq hv hcl => vs_pass hlk ht hW hp hq hv hcl (Nat.le_of_ble_eq_true rfl) (Nat.le_of_ble_eq_true rfl)) (fun _ H locs hw hW => ?_)
  have hW : vs_Wd g A _ (vs_W2 h0 (aS 0) (aT 0) (aK 0) n0 V ++ (vs_W1 g aS S ++ (vs_W1 g aT T ++ (vs_W0 g aK K ++ wr)))) _ _ s := hW
  refine vs_aload_n hC hl 0 dX2_breachesOf_5 rfl rfl ?_
  refine vs_get hC hW 0 rfl rfl vs_inX2 2 (by decide) vf_X2_22 rfl dX2_breachesOf_6 ?_
  refine vs_getN hC hW 25 rfl rfl vs_inX0 6 (by decide) vn_X2_130 rfl dX2_breachesOf_9 ?_
  refine vs_iload_n hC hl 1 dX2_breachesOf_12 rfl rfl ?_
  obtain ⟨hi, hw⟩ := hw
  refine vs_iald hC hW 31 rfl (by decide) hi dX2_breachesOf_13 ?_
  exact vx_ret (vs_iret () hC hr hlk hW rfl hw (Nat.le_of_ble_eq_true rfl) (Nat.le_of_ble_eq_true rfl) dX2_breachesOf_14)
set_option maxHeartbeats 4000000 in
set_option maxRecDepth 100000 in
theorem c_X2_serveRead (l : Launch) (g : vs_G) (h0 n0 : Nat) (aS aT aK : Nat → Nat) (wr : va_W) (V S T K : vs_St) (x1 : Int) (post : Int → vs_St → Prop) (hw : wX2_serveRead V S T K x1 post) : vs_MI l yX2_serveRead (Cond.code yX2_serveRead cX2_serveRead 3 (some .boolean) :: vs_ws) { frames := 2, cells := 0, slots := 0, locals := 46 } g [.ref h0, .int (vs_I x1)] (vs_W2 h0 (aS 0) (aT 0) (aK 0) n0 V ++ (vs_W1 g aS S ++ (vs_W1 g aT T ++ (vs_W0 g aK K ++ wr)))) (fun (u : vs_St) => vs_W2 h0 (aS 0) (aT 0) (aK 0) n0 V ++ (vs_W1 g aS S ++ (vs_W1 g aT T ++ (vs_W0 g aK u ++ wr)))) post 0 0 := by
  refine vs_ofW (Qc := fun A => vs_QI g A (fun (u : vs_St) => vs_W2 h0 (aS 0) (aT 0) (aK 0) n0 V ++ (vs_W1 g aS S ++ (vs_W1 g aT T ++ (vs_W0 g aK u ++ wr)))) post) (by decide +kernel) (Nat.le_of_ble_eq_true rfl) (fun p e s m below meth c A ls hC hr hlk hW hl => ?_)
  have hC : CallFix p m c cX2_serveRead 3 s _ vs_ws RX2 := hC
  have hl : lv_has ls 3 [(0, .ref h0), (1, .int (vs_I x1))] := hl
  unfold wX2_serveRead at hw
  refine vs_aload_n hC hl 0 dX2_serveRead_0 rfl rfl ?_
  refine vs_get hC hW 0 rfl rfl vs_inX2 2 (by decide) vf_X2_22 rfl dX2_serveRead_1 ?_
  refine vs_getN hC hW 25 rfl rfl vs_inX0 10 (by decide) vn_X2_312 rfl dX2_serveRead_4 ?_
  refine vs_iload_n hC hl 1 dX2_serveRead_7 rfl rfl ?_
  obtain ⟨hi, hw⟩ := hw
  refine vs_iald hC hW 33 rfl (by decide) hi dX2_serveRead_8 ?_
  refine vs_name (fun v1 hv1 => ?_)
  have hw := hw v1 hv1
  refine vs_istore_n (L' := [(0, .ref h0), (1, .int (vs_I x1)), (2, .int (vs_I v1))]) hC hl [1, 2, 0] dX2_serveRead_9 rfl (by decide) rfl (fun ls hl => ?_)
  refine vs_aload_n hC hl 0 dX2_serveRead_10 rfl rfl ?_
  refine vs_get hC hW 0 rfl rfl vs_inX2 0 (by decide) vf_X2_12 rfl dX2_serveRead_11 ?_
  refine vs_iload_n hC hl 2 dX2_serveRead_14 rfl rfl ?_
  have hW : vs_Wd g A _ (vs_W1 g aS S ++ (vs_W2 h0 (aS 0) (aT 0) (aK 0) n0 V ++ (vs_W1 g aT T ++ (vs_W0 g aK K ++ wr)))) _ _ s := vs_Wd.perm hW vs_p2
  refine vs_callNI [.int (vs_I v1)] hC hW 0 rfl rfl vk_X1_disksWithGoodCopy vo_X2_169 (c_X1_disksWithGoodCopy l g aS (vs_W2 h0 (aS 0) (aT 0) (aK 0) n0 V ++ (vs_W1 g aT T ++ (vs_W0 g aK K ++ wr))) S v1 _ hw) rfl hl.1 rfl ⟨rfl, rfl⟩ ⟨Nat.le_of_ble_eq_true rfl, Nat.le_of_ble_eq_true rfl⟩ ⟨Nat.le_of_ble_eq_true rfl, Nat.le_of_ble_eq_true rfl⟩ (Nat.le_of_ble_eq_true rfl) dX2_serveRead_15 (fun r2 _ H locs hw hW => ?_)
  have hW : vs_Wd g A _ (vs_W1 g aS S ++ (vs_W2 h0 (aS 0) (aT 0) (aK 0) n0 V ++ (vs_W1 g aT T ++ (vs_W0 g aK K ++ wr)))) _ _ s := hW
  have hW : vs_Wd g A _ (vs_W2 h0 (aS 0) (aT 0) (aK 0) n0 V ++ (vs_W1 g aS S ++ (vs_W1 g aT T ++ (vs_W0 g aK K ++ wr)))) _ _ s := vs_Wd.perm hW (List.Perm.symm vs_p2)
  obtain ⟨hx, hw⟩ := hw
  obtain ⟨hwt, hwf⟩ := hw
  refine vs_if_ne hC 23 hx dX2_serveRead_18 (by decide) (fun hc => ?_) (fun hc => ?_)
  · have hw := hwt hc
    clear hwt hwf hc
    refine vs_aload_n hC hl 0 dX2_serveRead_23 rfl rfl ?_
    refine vs_get hC hW 0 rfl rfl vs_inX2 2 (by decide) vf_X2_22 rfl dX2_serveRead_24 ?_
    refine vs_getN hC hW 25 rfl rfl vs_inX0 12 (by decide) vn_X2_115 rfl dX2_serveRead_27 ?_
    refine vs_iload_n hC hl 1 dX2_serveRead_30 rfl rfl ?_
    refine vs_aload_n hC hl 0 dX2_serveRead_31 rfl rfl ?_
    refine vs_get hC hW 0 rfl rfl vs_inX2 0 (by decide) vf_X2_12 rfl dX2_serveRead_32 ?_
    refine vs_getN hC hW 1 rfl rfl vs_inX1 7 (by decide) vn_X2_174 rfl dX2_serveRead_35 ?_
    refine vs_iload_n hC hl 2 dX2_serveRead_38 rfl rfl ?_
    obtain ⟨hi, hw⟩ := hw
    refine vs_iald hC hW 8 rfl (by decide) hi dX2_serveRead_39 ?_
    obtain ⟨hi, hw⟩ := hw
    obtain ⟨K3, hK3⟩ : ∃ z : vs_St, z = vs_st K 12 x1 (S 7 v1) := ⟨_, rfl⟩
    have hw := hw K3 hK3
    refine vs_iast (Wo' := vs_W2 h0 (aS 0) (aT 0) (aK 0) n0 V ++ (vs_W1 g aS S ++ (vs_W1 g aT T ++ (vs_W0 g aK K3 ++ wr)))) hC hW 35 rfl (by decide) hi (by rw [hK3]; rfl) dX2_serveRead_40 (fun H locs hW => ?_)
    refine vs_iconst hC dX2_serveRead_41 ?_
    exact vs_zret (K3) hC hr hlk hW rfl ⟨Or.inr rfl, hw⟩ (Nat.le_of_ble_eq_true rfl) (Nat.le_of_ble_eq_true rfl) dX2_serveRead_42
  · have hw := hwf hc
    clear hwt hwf hc
    refine vs_iconst hC dX2_serveRead_21 ?_
    exact vs_zret (K) hC hr hlk hW rfl ⟨Or.inl rfl, hw⟩ (Nat.le_of_ble_eq_true rfl) (Nat.le_of_ble_eq_true rfl) dX2_serveRead_22
set_option maxHeartbeats 4000000 in
set_option maxRecDepth 100000 in
theorem c_X2_serveOldest (l : Launch) (g : vs_G) (h0 n0 : Nat) (aS aT aK : Nat → Nat) (wr : va_W) (V S T K : vs_St) (x1 : Int) (x2 : Int) (post : Int → vs_St → vs_St → Prop) (hw : wX2_serveOldest V S T K x1 x2 post) : vs_MI l yX2_serveOldest (Cond.code yX2_serveOldest cX2_serveOldest 6 (some .int) :: vs_ws) { frames := 4, cells := 0, slots := 0, locals := 95 } g [.ref h0, .int (vs_I x1), .int (vs_I x2)] (vs_W2 h0 (aS 0) (aT 0) (aK 0) n0 V ++ (vs_W1 g aS S ++ (vs_W1 g aT T ++ (vs_W0 g aK K ++ wr)))) (fun (u : vs_St × vs_St) => vs_W2 h0 (aS 0) (aT 0) (aK 0) n0 V ++ (vs_W1 g aS u.1 ++ (vs_W1 g aT T ++ (vs_W0 g aK u.2 ++ wr)))) (fun v (u : vs_St × vs_St) => post v u.1 u.2) 0 0 := by
  refine vs_ofW (Qc := fun A => vs_QI g A (fun (u : vs_St × vs_St) => vs_W2 h0 (aS 0) (aT 0) (aK 0) n0 V ++ (vs_W1 g aS u.1 ++ (vs_W1 g aT T ++ (vs_W0 g aK u.2 ++ wr)))) (fun v (u : vs_St × vs_St) => post v u.1 u.2)) (by decide +kernel) (Nat.le_of_ble_eq_true rfl) (fun p e s m below meth c A ls hC hr hlk hW hl => ?_)
  have hC : CallFix p m c cX2_serveOldest 6 s _ vs_ws RX2 := hC
  have hl : lv_has ls 6 [(0, .ref h0), (1, .int (vs_I x1)), (2, .int (vs_I x2))] := hl
  unfold wX2_serveOldest at hw
  refine vs_aload_n hC hl 0 dX2_serveOldest_0 rfl rfl ?_
  refine vs_get hC hW 0 rfl rfl vs_inX2 2 (by decide) vf_X2_22 rfl dX2_serveOldest_1 ?_
  refine vs_iload_n hC hl 1 dX2_serveOldest_4 rfl rfl ?_
  have hW : vs_Wd g A _ (vs_W0 g aK K ++ (vs_W2 h0 (aS 0) (aT 0) (aK 0) n0 V ++ (vs_W1 g aS S ++ (vs_W1 g aT T ++ wr)))) _ _ s := vs_Wd.perm hW vs_p4
  refine vs_callNI [.int (vs_I x1)] hC hW 0 rfl rfl vk_X0_countWaiting vo_X2_121 (c_X0_countWaiting l g aK (vs_W2 h0 (aS 0) (aT 0) (aK 0) n0 V ++ (vs_W1 g aS S ++ (vs_W1 g aT T ++ wr))) K x1 _ hw) rfl hl.1 rfl ⟨rfl, rfl⟩ ⟨Nat.le_of_ble_eq_true rfl, Nat.le_of_ble_eq_true rfl⟩ ⟨Nat.le_of_ble_eq_true rfl, Nat.le_of_ble_eq_true rfl⟩ (Nat.le_of_ble_eq_true rfl) dX2_serveOldest_5 (fun r1 _ H locs hw hW => ?_)
  have hW : vs_Wd g A _ (vs_W0 g aK K ++ (vs_W2 h0 (aS 0) (aT 0) (aK 0) n0 V ++ (vs_W1 g aS S ++ (vs_W1 g aT T ++ wr)))) _ _ s := hW
  have hW : vs_Wd g A _ (vs_W2 h0 (aS 0) (aT 0) (aK 0) n0 V ++ (vs_W1 g aS S ++ (vs_W1 g aT T ++ (vs_W0 g aK K ++ wr)))) _ _ s := vs_Wd.perm hW (List.Perm.symm vs_p4)
  obtain ⟨hx, hw⟩ := hw
  obtain ⟨hwt, hwf⟩ := hw
  refine vs_if_ne hC 13 hx dX2_serveOldest_8 (by decide) (fun hc => ?_) (fun hc => ?_)
  · have hw := hwt hc
    clear hwt hwf hc
    refine vs_aload_n hC hl 0 dX2_serveOldest_13 rfl rfl ?_
    refine vs_get hC hW 0 rfl rfl vs_inX2 2 (by decide) vf_X2_22 rfl dX2_serveOldest_14 ?_
    refine vs_iload_n hC hl 1 dX2_serveOldest_17 rfl rfl ?_
    have hW : vs_Wd g A _ (vs_W0 g aK K ++ (vs_W2 h0 (aS 0) (aT 0) (aK 0) n0 V ++ (vs_W1 g aS S ++ (vs_W1 g aT T ++ wr)))) _ _ s := vs_Wd.perm hW vs_p4
    refine vs_callNI [.int (vs_I x1)] hC hW 0 rfl rfl vk_X0_oldestWaiting vo_X2_309 (c_X0_oldestWaiting l g aK (vs_W2 h0 (aS 0) (aT 0) (aK 0) n0 V ++ (vs_W1 g aS S ++ (vs_W1 g aT T ++ wr))) K x1 _ hw) rfl hl.1 rfl ⟨rfl, rfl⟩ ⟨Nat.le_of_ble_eq_true rfl, Nat.le_of_ble_eq_true rfl⟩ ⟨Nat.le_of_ble_eq_true rfl, Nat.le_of_ble_eq_true rfl⟩ (Nat.le_of_ble_eq_true rfl) dX2_serveOldest_18 (fun r2 _ H locs hw hW => ?_)
    have hW : vs_Wd g A _ (vs_W0 g aK K ++ (vs_W2 h0 (aS 0) (aT 0) (aK 0) n0 V ++ (vs_W1 g aS S ++ (vs_W1 g aT T ++ wr)))) _ _ s := hW
    have hW : vs_Wd g A _ (vs_W2 h0 (aS 0) (aT 0) (aK 0) n0 V ++ (vs_W1 g aS S ++ (vs_W1 g aT T ++ (vs_W0 g aK K ++ wr)))) _ _ s := vs_Wd.perm hW (List.Perm.symm vs_p4)
    refine vs_istore_n (L' := [(0, .ref h0), (1, .int (vs_I x1)), (2, .int (vs_I x2)), (3, .int (vs_I r2))]) hC hl [1, 2, 3, 0] dX2_serveOldest_21 rfl (by decide) rfl (fun ls hl => ?_)
    refine vs_aload_n hC hl 0 dX2_serveOldest_22 rfl rfl ?_
    refine vs_get hC hW 0 rfl rfl vs_inX2 2 (by decide) vf_X2_22 rfl dX2_serveOldest_23 ?_
    refine vs_getN hC hW 25 rfl rfl vs_inX0 11 (by decide) vn_X2_106 rfl dX2_serveOldest_26 ?_
    refine vs_iload_n hC hl 3 dX2_serveOldest_29 rfl rfl ?_
    obtain ⟨hi, hw⟩ := hw
    refine vs_zald hC hW 34 rfl (by decide) hi dX2_serveOldest_30 ?_
    obtain ⟨hx, hw⟩ := hw
    obtain ⟨hwt, hwf⟩ := hw
    refine vs_if_eq hC 46 hx dX2_serveOldest_31 (by decide) (fun hc => ?_) (fun hc => ?_)
    · have hw := hwt hc
      clear hwt hwf hc
      refine vs_iconst hC dX2_serveOldest_46 ?_
      refine vs_istore (L' := [(0, .ref h0), (1, .int (vs_I x1)), (2, .int (vs_I x2)), (3, .int (vs_I r2)), (4, .int (vs_I 1))]) hC hl [1, 2, 3, 4, 0] dX2_serveOldest_47 (by decide) rfl (fun ls hl => ?_)
      refine vs_iload hC hl 4 dX2_serveOldest_49 rfl ?_
      refine vs_iload_n hC hl 2 dX2_serveOldest_51 rfl rfl ?_
      obtain ⟨hy, hw⟩ := hw
      obtain ⟨hwt, hwf⟩ := hw
      refine vs_icmp_le hC 57 ⟨by decide, by decide⟩ hy dX2_serveOldest_52 (by decide) (fun hc => ?_) (fun hc => ?_)
      · have hw := hwt hc
        clear hwt hwf hc
        refine vs_aload_n hC hl 0 dX2_serveOldest_57 rfl rfl ?_
        refine vs_get hC hW 0 rfl rfl vs_inX2 2 (by decide) vf_X2_22 rfl dX2_serveOldest_58 ?_
        refine vs_getN hC hW 25 rfl rfl vs_inX0 11 (by decide) vn_X2_106 rfl dX2_serveOldest_61 ?_
        refine vs_iload_n hC hl 3 dX2_serveOldest_64 rfl rfl ?_
        obtain ⟨hi, hw⟩ := hw
        refine vs_zald hC hW 34 rfl (by decide) hi dX2_serveOldest_65 ?_
        obtain ⟨hx, hw⟩ := hw
        obtain ⟨hwt, hwf⟩ := hw
        refine vs_if_eq hC 97 hx dX2_serveOldest_66 (by decide) (fun hc => ?_) (fun hc => ?_)
        · have hw := hwt hc
          clear hwt hwf hc
          refine vs_aload_n hC hl 0 dX2_serveOldest_97 rfl rfl ?_
          refine vs_iload_n hC hl 3 dX2_serveOldest_98 rfl rfl ?_
          refine vs_callVI [.int (vs_I r2)] hC hW 0 rfl rfl vk_X2_serveRead vm_X2_319 (c_X2_serveRead l g h0 n0 aS aT aK (wr) V S T K r2 _ hw) rfl hl.1 rfl ⟨rfl, rfl⟩ ⟨Nat.le_of_ble_eq_true rfl, Nat.le_of_ble_eq_true rfl⟩ ⟨Nat.le_of_ble_eq_true rfl, Nat.le_of_ble_eq_true rfl⟩ (Nat.le_of_ble_eq_true rfl) dX2_serveOldest_99 (fun r3 K4 H locs hw hW => ?_)
          have hW : vs_Wd g A _ (vs_W2 h0 (aS 0) (aT 0) (aK 0) n0 V ++ (vs_W1 g aS S ++ (vs_W1 g aT T ++ (vs_W0 g aK K4 ++ wr)))) _ _ s := hW
          refine vs_istore (L' := [(0, .ref h0), (1, .int (vs_I x1)), (2, .int (vs_I x2)), (3, .int (vs_I r2)), (4, .int (vs_I 1)), (5, .int (vs_I r3))]) hC hl [1, 2, 3, 4, 5, 0] dX2_serveOldest_102 (by decide) rfl (fun ls hl => ?_)
          refine vs_aload_n hC hl 0 dX2_serveOldest_104 rfl rfl ?_
          refine vs_get hC hW 0 rfl rfl vs_inX2 2 (by decide) vf_X2_22 rfl dX2_serveOldest_105 ?_
          refine vs_iload_n hC hl 1 dX2_serveOldest_108 rfl rfl ?_
          refine vs_iload_n hC hl 3 dX2_serveOldest_109 rfl rfl ?_
          refine vs_iload hC hl 5 dX2_serveOldest_110 rfl ?_
          have hW : vs_Wd g A _ (vs_W0 g aK K4 ++ (vs_W2 h0 (aS 0) (aT 0) (aK 0) n0 V ++ (vs_W1 g aS S ++ (vs_W1 g aT T ++ wr)))) _ _ s := vs_Wd.perm hW vs_p4
          refine vs_callNV [.int (vs_I x1), .int (vs_I r2), .int (vs_I r3)] hC hW 0 rfl rfl vk_X0_markServed vo_X2_322 (c_X0_markServed l g aK (vs_W2 h0 (aS 0) (aT 0) (aK 0) n0 V ++ (vs_W1 g aS S ++ (vs_W1 g aT T ++ wr))) K4 x1 r2 r3 _ hw) rfl hl.1 rfl ⟨rfl, rfl⟩ ⟨Nat.le_of_ble_eq_true rfl, Nat.le_of_ble_eq_true rfl⟩ ⟨Nat.le_of_ble_eq_true rfl, Nat.le_of_ble_eq_true rfl⟩ (Nat.le_of_ble_eq_true rfl) dX2_serveOldest_112 (fun K5 H locs hw hW => ?_)
          have hW : vs_Wd g A _ (vs_W0 g aK K5 ++ (vs_W2 h0 (aS 0) (aT 0) (aK 0) n0 V ++ (vs_W1 g aS S ++ (vs_W1 g aT T ++ wr)))) _ _ s := hW
          have hW : vs_Wd g A _ (vs_W2 h0 (aS 0) (aT 0) (aK 0) n0 V ++ (vs_W1 g aS S ++ (vs_W1 g aT T ++ (vs_W0 g aK K5 ++ wr)))) _ _ s := vs_Wd.perm hW (List.Perm.symm vs_p4)
          refine vs_iload hC hl 4 dX2_serveOldest_115 rfl ?_
          exact vs_iret (S, K5) hC hr hlk hW rfl hw (Nat.le_of_ble_eq_true rfl) (Nat.le_of_ble_eq_true rfl) dX2_serveOldest_117
        · have hw := hwf hc
          clear hwt hwf hc
          refine vs_aload_n hC hl 0 dX2_serveOldest_69 rfl rfl ?_
          refine vs_get hC hW 0 rfl rfl vs_inX2 0 (by decide) vf_X2_12 rfl dX2_serveOldest_70 ?_
          refine vs_aload_n hC hl 0 dX2_serveOldest_73 rfl rfl ?_
          refine vs_get hC hW 0 rfl rfl vs_inX2 2 (by decide) vf_X2_22 rfl dX2_serveOldest_74 ?_
          refine vs_getN hC hW 25 rfl rfl vs_inX0 10 (by decide) vn_X2_312 rfl dX2_serveOldest_77 ?_
          refine vs_iload_n hC hl 3 dX2_serveOldest_80 rfl rfl ?_
          obtain ⟨hi, hw⟩ := hw
          refine vs_iald hC hW 33 rfl (by decide) hi dX2_serveOldest_81 ?_
          refine vs_aload_n hC hl 0 dX2_serveOldest_82 rfl rfl ?_
          refine vs_get hC hW 0 rfl rfl vs_inX2 2 (by decide) vf_X2_22 rfl dX2_serveOldest_83 ?_
          refine vs_getN hC hW 25 rfl rfl vs_inX0 12 (by decide) vn_X2_115 rfl dX2_serveOldest_86 ?_
          refine vs_iload_n hC hl 3 dX2_serveOldest_89 rfl rfl ?_
          obtain ⟨hi, hw⟩ := hw
          refine vs_iald hC hW 35 rfl (by decide) hi dX2_serveOldest_90 ?_
          have hW : vs_Wd g A _ (vs_W1 g aS S ++ (vs_W2 h0 (aS 0) (aT 0) (aK 0) n0 V ++ (vs_W1 g aT T ++ (vs_W0 g aK K ++ wr)))) _ _ s := vs_Wd.perm hW vs_p2
          refine vs_callNI [.int (vs_I (K 10 r2)), .int (vs_I (K 12 r2))] hC hW 0 rfl rfl vk_X1_putValue vo_X2_315 (c_X1_putValue l g aS (vs_W2 h0 (aS 0) (aT 0) (aK 0) n0 V ++ (vs_W1 g aT T ++ (vs_W0 g aK K ++ wr))) S (K 10 r2) (K 12 r2) _ hw) rfl hl.1 rfl ⟨rfl, rfl⟩ ⟨Nat.le_of_ble_eq_true rfl, Nat.le_of_ble_eq_true rfl⟩ ⟨Nat.le_of_ble_eq_true rfl, Nat.le_of_ble_eq_true rfl⟩ (Nat.le_of_ble_eq_true rfl) dX2_serveOldest_91 (fun r6 S7 H locs hw hW => ?_)
          have hW : vs_Wd g A _ (vs_W1 g aS S7 ++ (vs_W2 h0 (aS 0) (aT 0) (aK 0) n0 V ++ (vs_W1 g aT T ++ (vs_W0 g aK K ++ wr)))) _ _ s := hW
          have hW : vs_Wd g A _ (vs_W2 h0 (aS 0) (aT 0) (aK 0) n0 V ++ (vs_W1 g aS S7 ++ (vs_W1 g aT T ++ (vs_W0 g aK K ++ wr)))) _ _ s := vs_Wd.perm hW (List.Perm.symm vs_p2)
          refine vs_goto hC 102 dX2_serveOldest_94 (by decide) ?_
          refine vs_istore (L' := [(0, .ref h0), (1, .int (vs_I x1)), (2, .int (vs_I x2)), (3, .int (vs_I r2)), (4, .int (vs_I 1)), (5, .int (vs_I r6))]) hC hl [1, 2, 3, 4, 5, 0] dX2_serveOldest_102 (by decide) rfl (fun ls hl => ?_)
          refine vs_aload_n hC hl 0 dX2_serveOldest_104 rfl rfl ?_
          refine vs_get hC hW 0 rfl rfl vs_inX2 2 (by decide) vf_X2_22 rfl dX2_serveOldest_105 ?_
          refine vs_iload_n hC hl 1 dX2_serveOldest_108 rfl rfl ?_
          refine vs_iload_n hC hl 3 dX2_serveOldest_109 rfl rfl ?_
          refine vs_iload hC hl 5 dX2_serveOldest_110 rfl ?_
          have hW : vs_Wd g A _ (vs_W0 g aK K ++ (vs_W2 h0 (aS 0) (aT 0) (aK 0) n0 V ++ (vs_W1 g aS S7 ++ (vs_W1 g aT T ++ wr)))) _ _ s := vs_Wd.perm hW vs_p4
          refine vs_callNV [.int (vs_I x1), .int (vs_I r2), .int (vs_I r6)] hC hW 0 rfl rfl vk_X0_markServed vo_X2_322 (c_X0_markServed l g aK (vs_W2 h0 (aS 0) (aT 0) (aK 0) n0 V ++ (vs_W1 g aS S7 ++ (vs_W1 g aT T ++ wr))) K x1 r2 r6 _ hw) rfl hl.1 rfl ⟨rfl, rfl⟩ ⟨Nat.le_of_ble_eq_true rfl, Nat.le_of_ble_eq_true rfl⟩ ⟨Nat.le_of_ble_eq_true rfl, Nat.le_of_ble_eq_true rfl⟩ (Nat.le_of_ble_eq_true rfl) dX2_serveOldest_112 (fun K8 H locs hw hW => ?_)
          have hW : vs_Wd g A _ (vs_W0 g aK K8 ++ (vs_W2 h0 (aS 0) (aT 0) (aK 0) n0 V ++ (vs_W1 g aS S7 ++ (vs_W1 g aT T ++ wr)))) _ _ s := hW
          have hW : vs_Wd g A _ (vs_W2 h0 (aS 0) (aT 0) (aK 0) n0 V ++ (vs_W1 g aS S7 ++ (vs_W1 g aT T ++ (vs_W0 g aK K8 ++ wr)))) _ _ s := vs_Wd.perm hW (List.Perm.symm vs_p4)
          refine vs_iload hC hl 4 dX2_serveOldest_115 rfl ?_
          exact vs_iret (S7, K8) hC hr hlk hW rfl hw (Nat.le_of_ble_eq_true rfl) (Nat.le_of_ble_eq_true rfl) dX2_serveOldest_117
      · have hw := hwf hc
        clear hwt hwf hc
        refine vs_iconst hC dX2_serveOldest_55 ?_
        exact vs_iret (S, K) hC hr hlk hW rfl hw (Nat.le_of_ble_eq_true rfl) (Nat.le_of_ble_eq_true rfl) dX2_serveOldest_56
    · have hw := hwf hc
      clear hwt hwf hc
      refine vs_aload_n hC hl 0 dX2_serveOldest_34 rfl rfl ?_
      refine vs_get hC hW 0 rfl rfl vs_inX2 0 (by decide) vf_X2_12 rfl dX2_serveOldest_35 ?_
      refine vs_getN hC hW 1 rfl rfl vs_inX1 6 (by decide) vn_X2_80 rfl dX2_serveOldest_38 ?_
      refine vs_iload_n hC hl 1 dX2_serveOldest_41 rfl rfl ?_
      obtain ⟨hi, hw⟩ := hw
      refine vs_iald hC hW 7 rfl (by decide) hi dX2_serveOldest_42 ?_
      refine vs_goto hC 47 dX2_serveOldest_43 (by decide) ?_
      refine vs_name (fun v9 hv9 => ?_)
      have hw := hw v9 hv9
      refine vs_istore (L' := [(0, .ref h0), (1, .int (vs_I x1)), (2, .int (vs_I x2)), (3, .int (vs_I r2)), (4, .int (vs_I v9))]) hC hl [1, 2, 3, 4, 0] dX2_serveOldest_47 (by decide) rfl (fun ls hl => ?_)
      refine vs_iload hC hl 4 dX2_serveOldest_49 rfl ?_
      refine vs_iload_n hC hl 2 dX2_serveOldest_51 rfl rfl ?_
      obtain ⟨hx, hw⟩ := hw
      obtain ⟨hy, hw⟩ := hw
      obtain ⟨hwt, hwf⟩ := hw
      refine vs_icmp_le hC 57 hx hy dX2_serveOldest_52 (by decide) (fun hc => ?_) (fun hc => ?_)
      · have hw := hwt hc
        clear hwt hwf hc
        refine vs_aload_n hC hl 0 dX2_serveOldest_57 rfl rfl ?_
        refine vs_get hC hW 0 rfl rfl vs_inX2 2 (by decide) vf_X2_22 rfl dX2_serveOldest_58 ?_
        refine vs_getN hC hW 25 rfl rfl vs_inX0 11 (by decide) vn_X2_106 rfl dX2_serveOldest_61 ?_
        refine vs_iload_n hC hl 3 dX2_serveOldest_64 rfl rfl ?_
        obtain ⟨hi, hw⟩ := hw
        refine vs_zald hC hW 34 rfl (by decide) hi dX2_serveOldest_65 ?_
        obtain ⟨hx, hw⟩ := hw
        obtain ⟨hwt, hwf⟩ := hw
        refine vs_if_eq hC 97 hx dX2_serveOldest_66 (by decide) (fun hc => ?_) (fun hc => ?_)
        · have hw := hwt hc
          clear hwt hwf hc
          refine vs_aload_n hC hl 0 dX2_serveOldest_97 rfl rfl ?_
          refine vs_iload_n hC hl 3 dX2_serveOldest_98 rfl rfl ?_
          refine vs_callVI [.int (vs_I r2)] hC hW 0 rfl rfl vk_X2_serveRead vm_X2_319 (c_X2_serveRead l g h0 n0 aS aT aK (wr) V S T K r2 _ hw) rfl hl.1 rfl ⟨rfl, rfl⟩ ⟨Nat.le_of_ble_eq_true rfl, Nat.le_of_ble_eq_true rfl⟩ ⟨Nat.le_of_ble_eq_true rfl, Nat.le_of_ble_eq_true rfl⟩ (Nat.le_of_ble_eq_true rfl) dX2_serveOldest_99 (fun r10 K11 H locs hw hW => ?_)
          have hW : vs_Wd g A _ (vs_W2 h0 (aS 0) (aT 0) (aK 0) n0 V ++ (vs_W1 g aS S ++ (vs_W1 g aT T ++ (vs_W0 g aK K11 ++ wr)))) _ _ s := hW
          refine vs_istore (L' := [(0, .ref h0), (1, .int (vs_I x1)), (2, .int (vs_I x2)), (3, .int (vs_I r2)), (4, .int (vs_I v9)), (5, .int (vs_I r10))]) hC hl [1, 2, 3, 4, 5, 0] dX2_serveOldest_102 (by decide) rfl (fun ls hl => ?_)
          refine vs_aload_n hC hl 0 dX2_serveOldest_104 rfl rfl ?_
          refine vs_get hC hW 0 rfl rfl vs_inX2 2 (by decide) vf_X2_22 rfl dX2_serveOldest_105 ?_
          refine vs_iload_n hC hl 1 dX2_serveOldest_108 rfl rfl ?_
          refine vs_iload_n hC hl 3 dX2_serveOldest_109 rfl rfl ?_
          refine vs_iload hC hl 5 dX2_serveOldest_110 rfl ?_
          have hW : vs_Wd g A _ (vs_W0 g aK K11 ++ (vs_W2 h0 (aS 0) (aT 0) (aK 0) n0 V ++ (vs_W1 g aS S ++ (vs_W1 g aT T ++ wr)))) _ _ s := vs_Wd.perm hW vs_p4
          refine vs_callNV [.int (vs_I x1), .int (vs_I r2), .int (vs_I r10)] hC hW 0 rfl rfl vk_X0_markServed vo_X2_322 (c_X0_markServed l g aK (vs_W2 h0 (aS 0) (aT 0) (aK 0) n0 V ++ (vs_W1 g aS S ++ (vs_W1 g aT T ++ wr))) K11 x1 r2 r10 _ hw) rfl hl.1 rfl ⟨rfl, rfl⟩ ⟨Nat.le_of_ble_eq_true rfl, Nat.le_of_ble_eq_true rfl⟩ ⟨Nat.le_of_ble_eq_true rfl, Nat.le_of_ble_eq_true rfl⟩ (Nat.le_of_ble_eq_true rfl) dX2_serveOldest_112 (fun K12 H locs hw hW => ?_)
          have hW : vs_Wd g A _ (vs_W0 g aK K12 ++ (vs_W2 h0 (aS 0) (aT 0) (aK 0) n0 V ++ (vs_W1 g aS S ++ (vs_W1 g aT T ++ wr)))) _ _ s := hW
          have hW : vs_Wd g A _ (vs_W2 h0 (aS 0) (aT 0) (aK 0) n0 V ++ (vs_W1 g aS S ++ (vs_W1 g aT T ++ (vs_W0 g aK K12 ++ wr)))) _ _ s := vs_Wd.perm hW (List.Perm.symm vs_p4)
          refine vs_iload hC hl 4 dX2_serveOldest_115 rfl ?_
          exact vs_iret (S, K12) hC hr hlk hW rfl hw (Nat.le_of_ble_eq_true rfl) (Nat.le_of_ble_eq_true rfl) dX2_serveOldest_117
        · have hw := hwf hc
          clear hwt hwf hc
          refine vs_aload_n hC hl 0 dX2_serveOldest_69 rfl rfl ?_
          refine vs_get hC hW 0 rfl rfl vs_inX2 0 (by decide) vf_X2_12 rfl dX2_serveOldest_70 ?_
          refine vs_aload_n hC hl 0 dX2_serveOldest_73 rfl rfl ?_
          refine vs_get hC hW 0 rfl rfl vs_inX2 2 (by decide) vf_X2_22 rfl dX2_serveOldest_74 ?_
          refine vs_getN hC hW 25 rfl rfl vs_inX0 10 (by decide) vn_X2_312 rfl dX2_serveOldest_77 ?_
          refine vs_iload_n hC hl 3 dX2_serveOldest_80 rfl rfl ?_
          obtain ⟨hi, hw⟩ := hw
          refine vs_iald hC hW 33 rfl (by decide) hi dX2_serveOldest_81 ?_
          refine vs_aload_n hC hl 0 dX2_serveOldest_82 rfl rfl ?_
          refine vs_get hC hW 0 rfl rfl vs_inX2 2 (by decide) vf_X2_22 rfl dX2_serveOldest_83 ?_
          refine vs_getN hC hW 25 rfl rfl vs_inX0 12 (by decide) vn_X2_115 rfl dX2_serveOldest_86 ?_
          refine vs_iload_n hC hl 3 dX2_serveOldest_89 rfl rfl ?_
          obtain ⟨hi, hw⟩ := hw
          refine vs_iald hC hW 35 rfl (by decide) hi dX2_serveOldest_90 ?_
          have hW : vs_Wd g A _ (vs_W1 g aS S ++ (vs_W2 h0 (aS 0) (aT 0) (aK 0) n0 V ++ (vs_W1 g aT T ++ (vs_W0 g aK K ++ wr)))) _ _ s := vs_Wd.perm hW vs_p2
          refine vs_callNI [.int (vs_I (K 10 r2)), .int (vs_I (K 12 r2))] hC hW 0 rfl rfl vk_X1_putValue vo_X2_315 (c_X1_putValue l g aS (vs_W2 h0 (aS 0) (aT 0) (aK 0) n0 V ++ (vs_W1 g aT T ++ (vs_W0 g aK K ++ wr))) S (K 10 r2) (K 12 r2) _ hw) rfl hl.1 rfl ⟨rfl, rfl⟩ ⟨Nat.le_of_ble_eq_true rfl, Nat.le_of_ble_eq_true rfl⟩ ⟨Nat.le_of_ble_eq_true rfl, Nat.le_of_ble_eq_true rfl⟩ (Nat.le_of_ble_eq_true rfl) dX2_serveOldest_91 (fun r13 S14 H locs hw hW => ?_)
          have hW : vs_Wd g A _ (vs_W1 g aS S14 ++ (vs_W2 h0 (aS 0) (aT 0) (aK 0) n0 V ++ (vs_W1 g aT T ++ (vs_W0 g aK K ++ wr)))) _ _ s := hW
          have hW : vs_Wd g A _ (vs_W2 h0 (aS 0) (aT 0) (aK 0) n0 V ++ (vs_W1 g aS S14 ++ (vs_W1 g aT T ++ (vs_W0 g aK K ++ wr)))) _ _ s := vs_Wd.perm hW (List.Perm.symm vs_p2)
          refine vs_goto hC 102 dX2_serveOldest_94 (by decide) ?_
          refine vs_istore (L' := [(0, .ref h0), (1, .int (vs_I x1)), (2, .int (vs_I x2)), (3, .int (vs_I r2)), (4, .int (vs_I v9)), (5, .int (vs_I r13))]) hC hl [1, 2, 3, 4, 5, 0] dX2_serveOldest_102 (by decide) rfl (fun ls hl => ?_)
          refine vs_aload_n hC hl 0 dX2_serveOldest_104 rfl rfl ?_
          refine vs_get hC hW 0 rfl rfl vs_inX2 2 (by decide) vf_X2_22 rfl dX2_serveOldest_105 ?_
          refine vs_iload_n hC hl 1 dX2_serveOldest_108 rfl rfl ?_
          refine vs_iload_n hC hl 3 dX2_serveOldest_109 rfl rfl ?_
          refine vs_iload hC hl 5 dX2_serveOldest_110 rfl ?_
          have hW : vs_Wd g A _ (vs_W0 g aK K ++ (vs_W2 h0 (aS 0) (aT 0) (aK 0) n0 V ++ (vs_W1 g aS S14 ++ (vs_W1 g aT T ++ wr)))) _ _ s := vs_Wd.perm hW vs_p4
          refine vs_callNV [.int (vs_I x1), .int (vs_I r2), .int (vs_I r13)] hC hW 0 rfl rfl vk_X0_markServed vo_X2_322 (c_X0_markServed l g aK (vs_W2 h0 (aS 0) (aT 0) (aK 0) n0 V ++ (vs_W1 g aS S14 ++ (vs_W1 g aT T ++ wr))) K x1 r2 r13 _ hw) rfl hl.1 rfl ⟨rfl, rfl⟩ ⟨Nat.le_of_ble_eq_true rfl, Nat.le_of_ble_eq_true rfl⟩ ⟨Nat.le_of_ble_eq_true rfl, Nat.le_of_ble_eq_true rfl⟩ (Nat.le_of_ble_eq_true rfl) dX2_serveOldest_112 (fun K15 H locs hw hW => ?_)
          have hW : vs_Wd g A _ (vs_W0 g aK K15 ++ (vs_W2 h0 (aS 0) (aT 0) (aK 0) n0 V ++ (vs_W1 g aS S14 ++ (vs_W1 g aT T ++ wr)))) _ _ s := hW
          have hW : vs_Wd g A _ (vs_W2 h0 (aS 0) (aT 0) (aK 0) n0 V ++ (vs_W1 g aS S14 ++ (vs_W1 g aT T ++ (vs_W0 g aK K15 ++ wr)))) _ _ s := vs_Wd.perm hW (List.Perm.symm vs_p4)
          refine vs_iload hC hl 4 dX2_serveOldest_115 rfl ?_
          exact vs_iret (S14, K15) hC hr hlk hW rfl hw (Nat.le_of_ble_eq_true rfl) (Nat.le_of_ble_eq_true rfl) dX2_serveOldest_117
      · have hw := hwf hc
        clear hwt hwf hc
        refine vs_iconst hC dX2_serveOldest_55 ?_
        exact vs_iret (S, K) hC hr hlk hW rfl hw (Nat.le_of_ble_eq_true rfl) (Nat.le_of_ble_eq_true rfl) dX2_serveOldest_56
  · have hw := hwf hc
    clear hwt hwf hc
    refine vs_iconst hC dX2_serveOldest_11 ?_
    exact vs_iret (S, K) hC hr hlk hW rfl hw (Nat.le_of_ble_eq_true rfl) (Nat.le_of_ble_eq_true rfl) dX2_serveOldest_12
set_option maxHeartbeats 4000000 in
set_option maxRecDepth 100000 in
theorem c_X2_serveRounds (l : Launch) (g : vs_G) (h0 n0 : Nat) (aS aT aK : Nat → Nat) (wr : va_W) (V S T K : vs_St) (x1 : Int) (post : vs_St → vs_St → Prop) (hw : wX2_serveRounds V S T K x1 post) : vs_MV l yX2_serveRounds (Cond.code yX2_serveRounds cX2_serveRounds 6 (none) :: vs_ws) { frames := 5, cells := 0, slots := 0, locals := 120 } g [.ref h0, .int (vs_I x1)] (vs_W2 h0 (aS 0) (aT 0) (aK 0) n0 V ++ (vs_W1 g aS S ++ (vs_W1 g aT T ++ (vs_W0 g aK K ++ wr)))) (fun (u : vs_St × vs_St) => vs_W2 h0 (aS 0) (aT 0) (aK 0) n0 V ++ (vs_W1 g aS u.1 ++ (vs_W1 g aT T ++ (vs_W0 g aK u.2 ++ wr)))) (fun (u : vs_St × vs_St) => post u.1 u.2) 0 0 := by
  refine vs_ofW (Qc := fun A => vs_QV g A (fun (u : vs_St × vs_St) => vs_W2 h0 (aS 0) (aT 0) (aK 0) n0 V ++ (vs_W1 g aS u.1 ++ (vs_W1 g aT T ++ (vs_W0 g aK u.2 ++ wr)))) (fun (u : vs_St × vs_St) => post u.1 u.2)) (by decide +kernel) (Nat.le_of_ble_eq_true rfl) (fun p e s m below meth c A ls hC hr hlk hW hl => ?_)
  have hC : CallFix p m c cX2_serveRounds 6 s _ vs_ws RX2 := hC
  have hl : lv_has ls 6 [(0, .ref h0), (1, .int (vs_I x1))] := hl
  unfold wX2_serveRounds at hw
  refine vs_iload_n hC hl 1 dX2_serveRounds_0 rfl rfl ?_
  refine vs_istore_n (L' := [(0, .ref h0), (1, .int (vs_I x1)), (2, .int (vs_I x1))]) hC hl [1, 2, 0] dX2_serveRounds_1 rfl (by decide) rfl (fun ls hl => ?_)
  refine vs_iconst hC dX2_serveRounds_2 ?_
  refine vs_istore_n (L' := [(0, .ref h0), (1, .int (vs_I x1)), (2, .int (vs_I x1)), (3, .int (vs_I 0))]) hC hl [1, 2, 3, 0] dX2_serveRounds_3 rfl (by decide) rfl (fun ls hl => ?_)
  obtain ⟨J1, μ1, hJ, hB1⟩ := hw
  refine vs_loop (V := Int × Int × vs_St × vs_St) (J := fun v => J1 v.1 v.2.1 v.2.2.1 v.2.2.2) (μ := fun v => μ1 v.1 v.2.1 v.2.2.1 v.2.2.2) (fun v => vs_W2 h0 (aS 0) (aT 0) (aK 0) n0 V ++ (vs_W1 g aS v.2.2.1 ++ (vs_W1 g aT T ++ (vs_W0 g aK v.2.2.2 ++ wr)))) (fun v => [(0, .ref h0), (2, .int (vs_I v.1)), (3, .int (vs_I v.2.1))]) (fun v hJ ih1 H locs ls hW hl => ?_) (x1, 0, S, K) hJ hW (lv_sub hl [0, 2, 3] rfl)
  obtain ⟨v2, v3, S4, K5⟩ := v
  have hw := hB1 v2 v3 S4 K5 hJ
  have hW : vs_Wd g A _ (vs_W2 h0 (aS 0) (aT 0) (aK 0) n0 V ++ (vs_W1 g aS S4 ++ (vs_W1 g aT T ++ (vs_W0 g aK K5 ++ wr)))) _ _ s := hW
  have hl : lv_has ls 6 [(0, .ref h0), (2, .int (vs_I v2)), (3, .int (vs_I v3))] := hl
  clear hJ
  unfold lX2_serveRounds_4 at hw
  refine vs_iload_n hC hl 2 dX2_serveRounds_4 rfl rfl ?_
  refine vs_bipush hC dX2_serveRounds_5 (by decide +kernel) ?_
  obtain ⟨hx, hw⟩ := hw
  obtain ⟨hwt, hwf⟩ := hw
  refine vs_icmp_gt hC 57 hx ⟨by decide, by decide⟩ dX2_serveRounds_7 (by decide) (fun hc => ?_) (fun hc => ?_)
  · have hw := hwt hc
    clear hwt hwf hc
    exact vs_vret (S4, K5) hC hr hlk hW rfl hw (Nat.le_of_ble_eq_true rfl) (Nat.le_of_ble_eq_true rfl) dX2_serveRounds_57
  · have hw := hwf hc
    clear hwt hwf hc
    refine vs_iload_n hC hl 1 dX2_serveRounds_10 rfl rfl ?_
    refine vs_istore (L' := [(0, .ref h0), (2, .int (vs_I v2)), (3, .int (vs_I v3)), (4, .int (vs_I v2))]) hC hl [1, 2, 3, 0] dX2_serveRounds_11 (by decide) rfl (fun ls hl => ?_)
    refine vs_iconst hC dX2_serveRounds_13 ?_
    refine vs_istore (L' := [(0, .ref h0), (2, .int (vs_I v2)), (3, .int (vs_I v3)), (4, .int (vs_I v2)), (5, .int (vs_I 0))]) hC hl [1, 2, 3, 4, 0] dX2_serveRounds_14 (by decide) rfl (fun ls hl => ?_)
    obtain ⟨J6, μ6, hJ, hB6⟩ := hw
    refine vs_loop (V := Int × Int × vs_St × vs_St) (J := fun v => J6 v.1 v.2.1 v.2.2.1 v.2.2.2) (μ := fun v => μ6 v.1 v.2.1 v.2.2.1 v.2.2.2) (fun v => vs_W2 h0 (aS 0) (aT 0) (aK 0) n0 V ++ (vs_W1 g aS v.2.2.1 ++ (vs_W1 g aT T ++ (vs_W0 g aK v.2.2.2 ++ wr)))) (fun v => [(0, .ref h0), (2, .int (vs_I v.1)), (3, .int (vs_I v3)), (4, .int (vs_I v2)), (5, .int (vs_I v.2.1))]) (fun v hJ ih6 H locs ls hW hl => ?_) (v2, 0, S4, K5) hJ hW (lv_sub hl [0, 1, 2, 3, 4] rfl)
    obtain ⟨v7, v8, S9, K10⟩ := v
    have hw := hB6 v7 v8 S9 K10 hJ
    have hW : vs_Wd g A _ (vs_W2 h0 (aS 0) (aT 0) (aK 0) n0 V ++ (vs_W1 g aS S9 ++ (vs_W1 g aT T ++ (vs_W0 g aK K10 ++ wr)))) _ _ s := hW
    have hl : lv_has ls 6 [(0, .ref h0), (2, .int (vs_I v7)), (3, .int (vs_I v3)), (4, .int (vs_I v2)), (5, .int (vs_I v8))] := hl
    clear hJ
    unfold lX2_serveRounds_16 at hw
    refine vs_iload hC hl 4 dX2_serveRounds_16 rfl ?_
    refine vs_aload_n hC hl 0 dX2_serveRounds_18 rfl rfl ?_
    refine vs_get hC hW 0 rfl rfl vs_inX2 2 (by decide) vf_X2_22 rfl dX2_serveRounds_19 ?_
    refine vs_getN hC hW 25 rfl rfl vs_inX0 0 (by decide) vn_X2_72 rfl dX2_serveRounds_22 ?_
    obtain ⟨hx, hw⟩ := hw
    obtain ⟨hy, hw⟩ := hw
    obtain ⟨hwt, hwf⟩ := hw
    refine vs_icmp_ge hC 44 hx hy dX2_serveRounds_25 (by decide) (fun hc => ?_) (fun hc => ?_)
    · have hw := hwt hc
      clear hwt hwf hc
      refine vs_iload_n hC hl 1 dX2_serveRounds_44 rfl rfl ?_
      refine vs_iload hC hl 3 dX2_serveRounds_45 rfl ?_
      obtain ⟨hx, hw⟩ := hw
      obtain ⟨hy, hw⟩ := hw
      obtain ⟨hwt, hwf⟩ := hw
      refine vs_icmp_ne hC 51 hx hy dX2_serveRounds_47 (by decide) (fun hc => ?_) (fun hc => ?_)
      · have hw := hwt hc
        clear hwt hwf hc
        refine vs_iinc (L' := [(0, .ref h0), (2, .int (vs_I v7)), (3, .int (vs_I (v3 + 1))), (4, .int (vs_I v2)), (5, .int (vs_I v8))]) hC hl 2 [1, 2, 0, 3, 4] dX2_serveRounds_51 rfl (by decide) rfl (fun ls hl => ?_)
        refine vs_goto hC 4 dX2_serveRounds_54 (by decide) ?_
        exact ih1 (v7, v3 + 1, S9, K10) hw _ _ _ hW (lv_sub hl [0, 1, 2] rfl)
      · have hw := hwf hc
        clear hwt hwf hc
        exact vs_vret (S9, K10) hC hr hlk hW rfl hw (Nat.le_of_ble_eq_true rfl) (Nat.le_of_ble_eq_true rfl) dX2_serveRounds_50
    · have hw := hwf hc
      clear hwt hwf hc
      refine vs_iload_n hC hl 1 dX2_serveRounds_28 rfl rfl ?_
      refine vs_aload_n hC hl 0 dX2_serveRounds_29 rfl rfl ?_
      refine vs_iload hC hl 4 dX2_serveRounds_30 rfl ?_
      refine vs_iload_n hC hl 1 dX2_serveRounds_32 rfl rfl ?_
      refine vs_callVI [.int (vs_I v8), .int (vs_I v7)] hC hW 0 rfl rfl vk_X2_serveOldest vm_X2_306 (c_X2_serveOldest l g h0 n0 aS aT aK (wr) V S9 T K10 v8 v7 _ hw) rfl hl.1 rfl ⟨rfl, rfl⟩ ⟨Nat.le_of_ble_eq_true rfl, Nat.le_of_ble_eq_true rfl⟩ ⟨Nat.le_of_ble_eq_true rfl, Nat.le_of_ble_eq_true rfl⟩ (Nat.le_of_ble_eq_true rfl) dX2_serveRounds_33 (fun r11 u H locs hw hW => ?_)
      obtain ⟨S12, K13⟩ := u
      have hW : vs_Wd g A _ (vs_W2 h0 (aS 0) (aT 0) (aK 0) n0 V ++ (vs_W1 g aS S12 ++ (vs_W1 g aT T ++ (vs_W0 g aK K13 ++ wr)))) _ _ s := hW
      refine vs_isub hC dX2_serveRounds_36 ?_
      refine vs_name (fun v14 hv14 => ?_)
      have hw := hw v14 hv14
      refine vs_istore_n (L' := [(0, .ref h0), (2, .int (vs_I v14)), (3, .int (vs_I v3)), (4, .int (vs_I v2)), (5, .int (vs_I v8))]) hC hl [1, 0, 2, 3, 4] dX2_serveRounds_37 rfl (by decide) rfl (fun ls hl => ?_)
      refine vs_iinc (L' := [(0, .ref h0), (2, .int (vs_I v14)), (3, .int (vs_I v3)), (4, .int (vs_I v2)), (5, .int (vs_I (v8 + 1)))]) hC hl 4 [1, 2, 3, 4, 0] dX2_serveRounds_38 rfl (by decide) rfl (fun ls hl => ?_)
      refine vs_goto hC 16 dX2_serveRounds_41 (by decide) ?_
      exact ih6 (v14, v8 + 1, S12, K13) hw _ _ _ hW (lv_sub hl [0, 1, 2, 3, 4] rfl)
set_option maxHeartbeats 4000000 in
set_option maxRecDepth 100000 in
theorem c_X2_pass (l : Launch) (hst : l.stackTraces = false) (g : vs_G) (sd : Nat → Nat) (h0 n0 : Nat) (aS aT aK : Nat → Nat) (wr : va_W) (V S T K : vs_St) (x1 : Int) (post : Int → vs_St → vs_St → vs_St → Prop) (px : Nat → Prop) (hw : wX2_pass V S T K x1 post px) : vs_XI l yX2_pass (Cond.code yX2_pass cX2_pass 4 (some .int) :: vs_ws) { frames := 6, cells := 1, slots := 6, locals := 145 } g sd [.ref h0, .int (vs_I x1)] (vs_W2 h0 (aS 0) (aT 0) (aK 0) n0 V ++ (vs_W1 g aS S ++ (vs_W1 g aT T ++ (vs_W0 g aK K ++ wr)))) (fun (u : vs_St × vs_St × vs_St) => vs_W2 h0 (aS 0) (aT 0) (aK 0) n0 u.1 ++ (vs_W1 g aS u.2.1 ++ (vs_W1 g aT T ++ (vs_W0 g aK u.2.2 ++ wr)))) (fun v (u : vs_St × vs_St × vs_St) => post v u.1 u.2.1 u.2.2) px 1 6 := by
  refine vs_ofX (Qc := fun A => vs_QI g A (fun (u : vs_St × vs_St × vs_St) => vs_W2 h0 (aS 0) (aT 0) (aK 0) n0 u.1 ++ (vs_W1 g aS u.2.1 ++ (vs_W1 g aT T ++ (vs_W0 g aK u.2.2 ++ wr)))) (fun v (u : vs_St × vs_St × vs_St) => post v u.1 u.2.1 u.2.2)) (XC := fun A => vs_QX g A (vs_W2 h0 (aS 0) (aT 0) (aK 0) n0 V ++ (vs_W1 g aS S ++ (vs_W1 g aT T ++ (vs_W0 g aK K ++ wr)))) px) (by decide +kernel) (Nat.le_of_ble_eq_true rfl) (fun p e s m below meth c A ls hC hr hlk ht hW hX hl => ?_)
  have hC : CallFix p m c cX2_pass 4 s _ vs_ws RX2 := hC
  have hl : lv_has ls 4 [(0, .ref h0), (1, .int (vs_I x1))] := hl
  unfold wX2_pass at hw
  refine vs_iload_n hC hl 1 dX2_pass_0 rfl rfl ?_
  refine vs_iconst hC dX2_pass_1 ?_
  obtain ⟨hx, hw⟩ := hw
  obtain ⟨hwt, hwf⟩ := hw
  refine vs_icmp_lt hC 11 hx ⟨by decide, by decide⟩ dX2_pass_2 (by decide) (fun hc => ?_) (fun hc => ?_)
  · have hw := hwt hc
    clear hwt hwf hc
    exact vs_throw 1 8 hC hst hlk ht hW hX vs_ex1 rfl hl.1 hw dX2_pass_11 dX2_pass_14 dX2_pass_15 dX2_pass_17 dX2_pass_20 (Nat.le_of_ble_eq_true rfl) (Nat.le_of_ble_eq_true rfl) (Nat.le_of_ble_eq_true rfl) (Nat.le_of_ble_eq_true rfl) (Nat.le_of_ble_eq_true rfl) (Nat.le_of_ble_eq_true rfl)
  · have hw := hwf hc
    clear hwt hwf hc
    refine vs_iload_n hC hl 1 dX2_pass_5 rfl rfl ?_
    refine vs_bipush hC dX2_pass_6 (by decide +kernel) ?_
    obtain ⟨hx, hw⟩ := hw
    obtain ⟨hwt, hwf⟩ := hw
    refine vs_icmp_le hC 21 hx ⟨by decide, by decide⟩ dX2_pass_8 (by decide) (fun hc => ?_) (fun hc => ?_)
    · have hw := hwt hc
      clear hwt hwf hc
      refine vs_iload_n hC hl 1 dX2_pass_21 rfl rfl ?_
      refine vs_sipush hC dX2_pass_22 (by decide +kernel) ?_
      refine vs_aload_n hC hl 0 dX2_pass_25 rfl rfl ?_
      refine vs_get hC hW 0 rfl rfl vs_inX2 5 (by decide) vf_X2_135 rfl dX2_pass_26 ?_
      refine vs_isub hC dX2_pass_29 ?_
      obtain ⟨hx, hw⟩ := hw
      obtain ⟨hy, hw⟩ := hw
      obtain ⟨hwt, hwf⟩ := hw
      refine vs_icmp_le hC 43 hx hy dX2_pass_30 (by decide) (fun hc => ?_) (fun hc => ?_)
      · have hw := hwt hc
        clear hwt hwf hc
        refine vs_iconst hC dX2_pass_43 ?_
        refine vs_istore_n (L' := [(0, .ref h0), (1, .int (vs_I x1)), (2, .int (vs_I 0))]) hC hl [1, 2, 0] dX2_pass_44 rfl (by decide) rfl (fun ls hl => ?_)
        obtain ⟨J1, μ1, hJ, hB1⟩ := hw
        refine vs_loop (V := Int × vs_St × vs_St × vs_St) (J := fun v => J1 v.1 v.2.1 v.2.2.1 v.2.2.2) (μ := fun v => μ1 v.1 v.2.1 v.2.2.1 v.2.2.2) (fun v => vs_W2 h0 (aS 0) (aT 0) (aK 0) n0 v.2.1 ++ (vs_W1 g aS v.2.2.1 ++ (vs_W1 g aT T ++ (vs_W0 g aK v.2.2.2 ++ wr)))) (fun v => [(0, .ref h0), (1, .int (vs_I x1)), (2, .int (vs_I v.1))]) (fun v hJ ih1 H locs ls hW hl => ?_) (0, V, S, K) hJ hW (lv_sub hl [0, 1, 2] rfl)
        obtain ⟨v2, V3, S4, K5⟩ := v
        have hw := hB1 v2 V3 S4 K5 hJ
        have hW : vs_Wd g A _ (vs_W2 h0 (aS 0) (aT 0) (aK 0) n0 V3 ++ (vs_W1 g aS S4 ++ (vs_W1 g aT T ++ (vs_W0 g aK K5 ++ wr)))) _ _ s := hW
        have hl : lv_has ls 4 [(0, .ref h0), (1, .int (vs_I x1)), (2, .int (vs_I v2))] := hl
        clear hJ
        unfold lX2_pass_45 at hw
        refine vs_iload_n hC hl 2 dX2_pass_45 rfl rfl ?_
        refine vs_iload_n hC hl 1 dX2_pass_46 rfl rfl ?_
        obtain ⟨hx, hw⟩ := hw
        obtain ⟨hy, hw⟩ := hw
        obtain ⟨hwt, hwf⟩ := hw
        refine vs_icmp_ge hC 114 hx hy dX2_pass_47 (by decide) (fun hc => ?_) (fun hc => ?_)
        · have hw := hwt hc
          clear hwt hwf hc
          refine vs_aload_n hC hl 0 dX2_pass_114 rfl rfl ?_
          refine vs_get hC hW 0 rfl rfl vs_inX2 5 (by decide) vf_X2_135 rfl dX2_pass_115 ?_
          exact vx_ret (vs_iret (V3, S4, K5) hC hr hlk hW rfl hw (Nat.le_of_ble_eq_true rfl) (Nat.le_of_ble_eq_true rfl) dX2_pass_118)
        · have hw := hwf hc
          clear hwt hwf hc
          refine vs_aload_n hC hl 0 dX2_pass_50 rfl rfl ?_
          refine vs_get hC hW 0 rfl rfl vs_inX2 2 (by decide) vf_X2_22 rfl dX2_pass_51 ?_
          have hW : vs_Wd g A _ (vs_W0 g aK K5 ++ (vs_W2 h0 (aS 0) (aT 0) (aK 0) n0 V3 ++ (vs_W1 g aS S4 ++ (vs_W1 g aT T ++ wr)))) _ _ s := vs_Wd.perm hW vs_p4
          refine vs_callNV [] hC hW 0 rfl rfl vk_X0_beginTick vo_X2_140 (c_X0_beginTick l g aK (vs_W2 h0 (aS 0) (aT 0) (aK 0) n0 V3 ++ (vs_W1 g aS S4 ++ (vs_W1 g aT T ++ wr))) K5  _ hw) rfl hl.1 rfl ⟨rfl, rfl⟩ ⟨Nat.le_of_ble_eq_true rfl, Nat.le_of_ble_eq_true rfl⟩ ⟨Nat.le_of_ble_eq_true rfl, Nat.le_of_ble_eq_true rfl⟩ (Nat.le_of_ble_eq_true rfl) dX2_pass_54 (fun K6 H locs hw hW => ?_)
          have hW : vs_Wd g A _ (vs_W0 g aK K6 ++ (vs_W2 h0 (aS 0) (aT 0) (aK 0) n0 V3 ++ (vs_W1 g aS S4 ++ (vs_W1 g aT T ++ wr)))) _ _ s := hW
          have hW : vs_Wd g A _ (vs_W2 h0 (aS 0) (aT 0) (aK 0) n0 V3 ++ (vs_W1 g aS S4 ++ (vs_W1 g aT T ++ (vs_W0 g aK K6 ++ wr)))) _ _ s := vs_Wd.perm hW (List.Perm.symm vs_p4)
          refine vs_aload_n hC hl 0 dX2_pass_57 rfl rfl ?_
          refine vs_get hC hW 0 rfl rfl vs_inX2 0 (by decide) vf_X2_12 rfl dX2_pass_58 ?_
          refine vs_aload_n hC hl 0 dX2_pass_61 rfl rfl ?_
          refine vs_get hC hW 0 rfl rfl vs_inX2 4 (by decide) vf_X2_33 rfl dX2_pass_62 ?_
          refine vs_iconst hC dX2_pass_65 ?_
          obtain ⟨hi, hw⟩ := hw
          refine vs_idiv hC dX2_pass_66 ⟨hi.1, hi.2, by decide, by decide⟩ ?_
          have hW : vs_Wd g A _ (vs_W1 g aS S4 ++ (vs_W2 h0 (aS 0) (aT 0) (aK 0) n0 V3 ++ (vs_W1 g aT T ++ (vs_W0 g aK K6 ++ wr)))) _ _ s := vs_Wd.perm hW vs_p2
          refine vs_callNI [.int (vs_I ((V3 4 0) / 2))] hC hW 0 rfl rfl vk_X1_rebuild vo_X2_143 (c_X1_rebuild l g aS (vs_W2 h0 (aS 0) (aT 0) (aK 0) n0 V3 ++ (vs_W1 g aT T ++ (vs_W0 g aK K6 ++ wr))) S4 ((V3 4 0) / 2) _ hw) rfl hl.1 rfl ⟨rfl, rfl⟩ ⟨Nat.le_of_ble_eq_true rfl, Nat.le_of_ble_eq_true rfl⟩ ⟨Nat.le_of_ble_eq_true rfl, Nat.le_of_ble_eq_true rfl⟩ (Nat.le_of_ble_eq_true rfl) dX2_pass_67 (fun r7 S8 H locs hw hW => ?_)
          have hW : vs_Wd g A _ (vs_W1 g aS S8 ++ (vs_W2 h0 (aS 0) (aT 0) (aK 0) n0 V3 ++ (vs_W1 g aT T ++ (vs_W0 g aK K6 ++ wr)))) _ _ s := hW
          have hW : vs_Wd g A _ (vs_W2 h0 (aS 0) (aT 0) (aK 0) n0 V3 ++ (vs_W1 g aS S8 ++ (vs_W1 g aT T ++ (vs_W0 g aK K6 ++ wr)))) _ _ s := vs_Wd.perm hW (List.Perm.symm vs_p2)
          refine vs_istore_n (L' := [(0, .ref h0), (1, .int (vs_I x1)), (2, .int (vs_I v2)), (3, .int (vs_I r7))]) hC hl [1, 2, 3, 0] dX2_pass_70 rfl (by decide) rfl (fun ls hl => ?_)
          refine vs_aload_n hC hl 0 dX2_pass_71 rfl rfl ?_
          refine vs_dup hC dX2_pass_72 rfl ?_
          refine vs_get hC hW 0 rfl rfl vs_inX2 6 (by decide) vf_X2_146 rfl dX2_pass_73 ?_
          refine vs_iload_n hC hl 3 dX2_pass_76 rfl rfl ?_
          refine vs_iadd hC dX2_pass_77 ?_
          obtain ⟨V9, hV9⟩ : ∃ z : vs_St, z = vs_st V3 6 0 ((V3 6 0) + r7) := ⟨_, rfl⟩
          have hw := hw V9 hV9
          refine vs_put (Wo' := vs_W2 h0 (aS 0) (aT 0) (aK 0) n0 V9 ++ (vs_W1 g aS S8 ++ (vs_W1 g aT T ++ (vs_W0 g aK K6 ++ wr)))) hC hW 0 rfl rfl vs_inX2 tyX2_ok nmX2 6 (by decide) vf_X2_146 rfl rfl (Nat.le_of_ble_eq_true rfl) (by rw [hV9]; rfl) dX2_pass_78 (fun H locs hW => ?_)
          refine vs_aload_n hC hl 0 dX2_pass_81 rfl rfl ?_
          refine vs_bipush hC dX2_pass_82 (by decide +kernel) ?_
          refine vs_iload_n hC hl 3 dX2_pass_84 rfl rfl ?_
          refine vs_iconst hC dX2_pass_85 ?_
          refine vs_imul hC dX2_pass_86 ?_
          refine vs_isub hC dX2_pass_87 ?_
          refine vs_callVV [.int (vs_I (20 - (r7 * 2)))] hC hW 0 rfl rfl vk_X2_serveRounds vm_X2_149 (c_X2_serveRounds l g h0 n0 aS aT aK (wr) V9 S8 T K6 (20 - (r7 * 2)) _ hw) rfl hl.1 rfl ⟨rfl, rfl⟩ ⟨Nat.le_of_ble_eq_true rfl, Nat.le_of_ble_eq_true rfl⟩ ⟨Nat.le_of_ble_eq_true rfl, Nat.le_of_ble_eq_true rfl⟩ (Nat.le_of_ble_eq_true rfl) dX2_pass_88 (fun u H locs hw hW => ?_)
          obtain ⟨S10, K11⟩ := u
          have hW : vs_Wd g A _ (vs_W2 h0 (aS 0) (aT 0) (aK 0) n0 V9 ++ (vs_W1 g aS S10 ++ (vs_W1 g aT T ++ (vs_W0 g aK K11 ++ wr)))) _ _ s := hW
          refine vs_aload_n hC hl 0 dX2_pass_91 rfl rfl ?_
          refine vs_get hC hW 0 rfl rfl vs_inX2 2 (by decide) vf_X2_22 rfl dX2_pass_92 ?_
          have hW : vs_Wd g A _ (vs_W0 g aK K11 ++ (vs_W2 h0 (aS 0) (aT 0) (aK 0) n0 V9 ++ (vs_W1 g aS S10 ++ (vs_W1 g aT T ++ wr)))) _ _ s := vs_Wd.perm hW vs_p4
          refine vs_callNV [] hC hW 0 rfl rfl vk_X0_giveCredits vo_X2_152 (c_X0_giveCredits l g aK (vs_W2 h0 (aS 0) (aT 0) (aK 0) n0 V9 ++ (vs_W1 g aS S10 ++ (vs_W1 g aT T ++ wr))) K11  _ hw) rfl hl.1 rfl ⟨rfl, rfl⟩ ⟨Nat.le_of_ble_eq_true rfl, Nat.le_of_ble_eq_true rfl⟩ ⟨Nat.le_of_ble_eq_true rfl, Nat.le_of_ble_eq_true rfl⟩ (Nat.le_of_ble_eq_true rfl) dX2_pass_95 (fun K12 H locs hw hW => ?_)
          have hW : vs_Wd g A _ (vs_W0 g aK K12 ++ (vs_W2 h0 (aS 0) (aT 0) (aK 0) n0 V9 ++ (vs_W1 g aS S10 ++ (vs_W1 g aT T ++ wr)))) _ _ s := hW
          have hW : vs_Wd g A _ (vs_W2 h0 (aS 0) (aT 0) (aK 0) n0 V9 ++ (vs_W1 g aS S10 ++ (vs_W1 g aT T ++ (vs_W0 g aK K12 ++ wr)))) _ _ s := vs_Wd.perm hW (List.Perm.symm vs_p4)
          refine vs_aload_n hC hl 0 dX2_pass_98 rfl rfl ?_
          refine vs_dup hC dX2_pass_99 rfl ?_
          refine vs_get hC hW 0 rfl rfl vs_inX2 5 (by decide) vf_X2_135 rfl dX2_pass_100 ?_
          refine vs_iconst hC dX2_pass_103 ?_
          refine vs_iadd hC dX2_pass_104 ?_
          obtain ⟨V13, hV13⟩ : ∃ z : vs_St, z = vs_st V9 5 0 ((V9 5 0) + 1) := ⟨_, rfl⟩
          have hw := hw V13 hV13
          refine vs_put (Wo' := vs_W2 h0 (aS 0) (aT 0) (aK 0) n0 V13 ++ (vs_W1 g aS S10 ++ (vs_W1 g aT T ++ (vs_W0 g aK K12 ++ wr)))) hC hW 0 rfl rfl vs_inX2 tyX2_ok nmX2 5 (by decide) vf_X2_135 rfl rfl (Nat.le_of_ble_eq_true rfl) (by rw [hV13]; rfl) dX2_pass_105 (fun H locs hW => ?_)
          refine vs_iinc (L' := [(0, .ref h0), (1, .int (vs_I x1)), (2, .int (vs_I (v2 + 1))), (3, .int (vs_I r7))]) hC hl 2 [1, 2, 0, 3] dX2_pass_108 rfl (by decide) rfl (fun ls hl => ?_)
          refine vs_goto hC 45 dX2_pass_111 (by decide) ?_
          exact ih1 (v2 + 1, V13, S10, K12) hw _ _ _ hW (lv_sub hl [0, 1, 2] rfl)
      · have hw := hwf hc
        clear hwt hwf hc
        exact vs_throw 2 9 hC hst hlk ht hW hX vs_ex2 rfl hl.1 hw dX2_pass_33 dX2_pass_36 dX2_pass_37 dX2_pass_39 dX2_pass_42 (Nat.le_of_ble_eq_true rfl) (Nat.le_of_ble_eq_true rfl) (Nat.le_of_ble_eq_true rfl) (Nat.le_of_ble_eq_true rfl) (Nat.le_of_ble_eq_true rfl) (Nat.le_of_ble_eq_true rfl)
    · have hw := hwf hc
      clear hwt hwf hc
      exact vs_throw 1 8 hC hst hlk ht hW hX vs_ex1 rfl hl.1 hw dX2_pass_11 dX2_pass_14 dX2_pass_15 dX2_pass_17 dX2_pass_20 (Nat.le_of_ble_eq_true rfl) (Nat.le_of_ble_eq_true rfl) (Nat.le_of_ble_eq_true rfl) (Nat.le_of_ble_eq_true rfl) (Nat.le_of_ble_eq_true rfl) (Nat.le_of_ble_eq_true rfl)
set_option maxHeartbeats 4000000 in
set_option maxRecDepth 100000 in
theorem c_X2_clock (l : Launch) (g : vs_G) (h0 n0 : Nat) (aS aT aK : Nat → Nat) (wr : va_W) (V S T K : vs_St) (post : Int → Prop) (hw : wX2_clock V S T K post) : vs_MI l yX2_clock (Cond.code yX2_clock cX2_clock 1 (some .int) :: vs_ws) { frames := 0, cells := 0, slots := 0, locals := 0 } g [.ref h0] (vs_W2 h0 (aS 0) (aT 0) (aK 0) n0 V ++ (vs_W1 g aS S ++ (vs_W1 g aT T ++ (vs_W0 g aK K ++ wr)))) (fun (_ : Unit) => vs_W2 h0 (aS 0) (aT 0) (aK 0) n0 V ++ (vs_W1 g aS S ++ (vs_W1 g aT T ++ (vs_W0 g aK K ++ wr)))) (fun v (_ : Unit) => post v) 0 0 := by
  refine vs_ofW (Qc := fun A => vs_QI g A (fun (_ : Unit) => vs_W2 h0 (aS 0) (aT 0) (aK 0) n0 V ++ (vs_W1 g aS S ++ (vs_W1 g aT T ++ (vs_W0 g aK K ++ wr)))) (fun v (_ : Unit) => post v)) (by decide +kernel) (Nat.le_of_ble_eq_true rfl) (fun p e s m below meth c A ls hC hr hlk hW hl => ?_)
  have hC : CallFix p m c cX2_clock 1 s _ vs_ws RX2 := hC
  have hl : lv_has ls 1 [(0, .ref h0)] := hl
  unfold wX2_clock at hw
  refine vs_aload_n hC hl 0 dX2_clock_0 rfl rfl ?_
  refine vs_get hC hW 0 rfl rfl vs_inX2 5 (by decide) vf_X2_135 rfl dX2_clock_1 ?_
  exact vs_iret () hC hr hlk hW rfl hw (Nat.le_of_ble_eq_true rfl) (Nat.le_of_ble_eq_true rfl) dX2_clock_4
set_option maxHeartbeats 4000000 in
set_option maxRecDepth 100000 in
theorem c_X2_blocksOf (l : Launch) (hst : l.stackTraces = false) (g : vs_G) (sd : Nat → Nat) (h0 n0 : Nat) (aS aT aK : Nat → Nat) (wr : va_W) (V S T K : vs_St) (x1 : Int) (post : Int → Prop) (px : Nat → Prop) (hw : wX2_blocksOf V S T K x1 post px) : vs_XI l yX2_blocksOf (Cond.code yX2_blocksOf cX2_blocksOf 2 (some .int) :: vs_ws) { frames := 7, cells := 1, slots := 6, locals := 111 } g sd [.ref h0, .int (vs_I x1)] (vs_W2 h0 (aS 0) (aT 0) (aK 0) n0 V ++ (vs_W1 g aS S ++ (vs_W1 g aT T ++ (vs_W0 g aK K ++ wr)))) (fun (_ : Unit) => vs_W2 h0 (aS 0) (aT 0) (aK 0) n0 V ++ (vs_W1 g aS S ++ (vs_W1 g aT T ++ (vs_W0 g aK K ++ wr)))) (fun v (_ : Unit) => post v) px 1 6 := by
  refine vs_ofX (Qc := fun A => vs_QI g A (fun (_ : Unit) => vs_W2 h0 (aS 0) (aT 0) (aK 0) n0 V ++ (vs_W1 g aS S ++ (vs_W1 g aT T ++ (vs_W0 g aK K ++ wr)))) (fun v (_ : Unit) => post v)) (XC := fun A => vs_QX g A (vs_W2 h0 (aS 0) (aT 0) (aK 0) n0 V ++ (vs_W1 g aS S ++ (vs_W1 g aT T ++ (vs_W0 g aK K ++ wr)))) px) (by decide +kernel) (Nat.le_of_ble_eq_true rfl) (fun p e s m below meth c A ls hC hr hlk ht hW hX hl => ?_)
  have hC : CallFix p m c cX2_blocksOf 2 s _ vs_ws RX2 := hC
  have hl : lv_has ls 2 [(0, .ref h0), (1, .int (vs_I x1))] := hl
  unfold wX2_blocksOf at hw
  refine vs_aload_n hC hl 0 dX2_blocksOf_0 rfl rfl ?_
  refine vs_iload_n hC hl 1 dX2_blocksOf_1 rfl rfl ?_
  refine vs_xcallVV [.int (vs_I x1)] hC hW hX 0 rfl rfl vk_X2_checkTenant vm_X2_118 (c_X2_checkTenant l hst g sd h0 n0 aS aT aK (wr) V S T K x1 _ _ hw) rfl hl.1 rfl ⟨rfl, rfl⟩ ⟨Nat.le_of_ble_eq_true rfl, Nat.le_of_ble_eq_true rfl⟩ ⟨Nat.le_of_ble_eq_true rfl, Nat.le_of_ble_eq_true rfl⟩ (Nat.le_of_ble_eq_true rfl) dX2_blocksOf_2 (fun k ce q9 H locs hp hW hq hv hcl => vs_pass hlk ht hW hp hq hv hcl (Nat.le_of_ble_eq_true rfl) (Nat.le_of_ble_eq_true rfl)) (fun _ H locs hw hW => ?_)
  have hW : vs_Wd g A _ (vs_W2 h0 (aS 0) (aT 0) (aK 0) n0 V ++ (vs_W1 g aS S ++ (vs_W1 g aT T ++ (vs_W0 g aK K ++ wr)))) _ _ s := hW
  refine vs_aload_n hC hl 0 dX2_blocksOf_5 rfl rfl ?_
  refine vs_get hC hW 0 rfl rfl vs_inX2 0 (by decide) vf_X2_12 rfl dX2_blocksOf_6 ?_
  refine vs_iload_n hC hl 1 dX2_blocksOf_9 rfl rfl ?_
  have hW : vs_Wd g A _ (vs_W1 g aS S ++ (vs_W2 h0 (aS 0) (aT 0) (aK 0) n0 V ++ (vs_W1 g aT T ++ (vs_W0 g aK K ++ wr)))) _ _ s := vs_Wd.perm hW vs_p2
  refine vs_callNI [.int (vs_I x1)] hC hW 0 rfl rfl vk_X1_countWritten vo_X2_155 (c_X1_countWritten l g aS (vs_W2 h0 (aS 0) (aT 0) (aK 0) n0 V ++ (vs_W1 g aT T ++ (vs_W0 g aK K ++ wr))) S x1 _ hw) rfl hl.1 rfl ⟨rfl, rfl⟩ ⟨Nat.le_of_ble_eq_true rfl, Nat.le_of_ble_eq_true rfl⟩ ⟨Nat.le_of_ble_eq_true rfl, Nat.le_of_ble_eq_true rfl⟩ (Nat.le_of_ble_eq_true rfl) dX2_blocksOf_10 (fun r1 _ H locs hw hW => ?_)
  have hW : vs_Wd g A _ (vs_W1 g aS S ++ (vs_W2 h0 (aS 0) (aT 0) (aK 0) n0 V ++ (vs_W1 g aT T ++ (vs_W0 g aK K ++ wr)))) _ _ s := hW
  have hW : vs_Wd g A _ (vs_W2 h0 (aS 0) (aT 0) (aK 0) n0 V ++ (vs_W1 g aS S ++ (vs_W1 g aT T ++ (vs_W0 g aK K ++ wr)))) _ _ s := vs_Wd.perm hW (List.Perm.symm vs_p2)
  exact vx_ret (vs_iret () hC hr hlk hW rfl hw (Nat.le_of_ble_eq_true rfl) (Nat.le_of_ble_eq_true rfl) dX2_blocksOf_13)
set_option maxHeartbeats 4000000 in
set_option maxRecDepth 100000 in
theorem c_X2_copiesOf (l : Launch) (hst : l.stackTraces = false) (g : vs_G) (sd : Nat → Nat) (h0 n0 : Nat) (aS aT aK : Nat → Nat) (wr : va_W) (V S T K : vs_St) (x1 : Int) (x2 : Int) (post : Int → Prop) (px : Nat → Prop) (hw : wX2_copiesOf V S T K x1 x2 post px) : vs_XI l yX2_copiesOf (Cond.code yX2_copiesOf cX2_copiesOf 3 (some .int) :: vs_ws) { frames := 8, cells := 2, slots := 12, locals := 133 } g sd [.ref h0, .int (vs_I x1), .int (vs_I x2)] (vs_W2 h0 (aS 0) (aT 0) (aK 0) n0 V ++ (vs_W1 g aS S ++ (vs_W1 g aT T ++ (vs_W0 g aK K ++ wr)))) (fun (_ : Unit) => vs_W2 h0 (aS 0) (aT 0) (aK 0) n0 V ++ (vs_W1 g aS S ++ (vs_W1 g aT T ++ (vs_W0 g aK K ++ wr)))) (fun v (_ : Unit) => post v) px 2 12 := by
  refine vs_ofX (Qc := fun A => vs_QI g A (fun (_ : Unit) => vs_W2 h0 (aS 0) (aT 0) (aK 0) n0 V ++ (vs_W1 g aS S ++ (vs_W1 g aT T ++ (vs_W0 g aK K ++ wr)))) (fun v (_ : Unit) => post v)) (XC := fun A => vs_QX g A (vs_W2 h0 (aS 0) (aT 0) (aK 0) n0 V ++ (vs_W1 g aS S ++ (vs_W1 g aT T ++ (vs_W0 g aK K ++ wr)))) px) (by decide +kernel) (Nat.le_of_ble_eq_true rfl) (fun p e s m below meth c A ls hC hr hlk ht hW hX hl => ?_)
  have hC : CallFix p m c cX2_copiesOf 3 s _ vs_ws RX2 := hC
  have hl : lv_has ls 3 [(0, .ref h0), (1, .int (vs_I x1)), (2, .int (vs_I x2))] := hl
  unfold wX2_copiesOf at hw
  refine vs_aload_n hC hl 0 dX2_copiesOf_0 rfl rfl ?_
  refine vs_iload_n hC hl 1 dX2_copiesOf_1 rfl rfl ?_
  refine vs_iload_n hC hl 2 dX2_copiesOf_2 rfl rfl ?_
  refine vs_xcallVV [.int (vs_I x1), .int (vs_I x2)] hC hW hX 0 rfl rfl vk_X2_checkBlock vm_X2_85 (c_X2_checkBlock l hst g sd h0 n0 aS aT aK (wr) V S T K x1 x2 _ _ hw) rfl hl.1 rfl ⟨rfl, rfl⟩ ⟨Nat.le_of_ble_eq_true rfl, Nat.le_of_ble_eq_true rfl⟩ ⟨Nat.le_of_ble_eq_true rfl, Nat.le_of_ble_eq_true rfl⟩ (Nat.le_of_ble_eq_true rfl) dX2_copiesOf_3 (fun k ce q9 H locs hp hW hq hv hcl => vs_pass hlk ht hW hp hq hv hcl (Nat.le_of_ble_eq_true rfl) (Nat.le_of_ble_eq_true rfl)) (fun _ H locs hw hW => ?_)
  have hW : vs_Wd g A _ (vs_W2 h0 (aS 0) (aT 0) (aK 0) n0 V ++ (vs_W1 g aS S ++ (vs_W1 g aT T ++ (vs_W0 g aK K ++ wr)))) _ _ s := hW
  refine vs_aload_n hC hl 0 dX2_copiesOf_6 rfl rfl ?_
  refine vs_get hC hW 0 rfl rfl vs_inX2 0 (by decide) vf_X2_12 rfl dX2_copiesOf_7 ?_
  refine vs_getN hC hW 1 rfl rfl vs_inX1 8 (by decide) vn_X2_158 rfl dX2_copiesOf_10 ?_
  refine vs_iload_n hC hl 1 dX2_copiesOf_13 rfl rfl ?_
  refine vs_iload_n hC hl 2 dX2_copiesOf_14 rfl rfl ?_
  refine vs_callSI [.int (vs_I x1), .int (vs_I x2)] hC hW vk_X2_blockId vm_X2_92 (c_X2_blockId l g (vs_W2 h0 (aS 0) (aT 0) (aK 0) n0 V ++ (vs_W1 g aS S ++ (vs_W1 g aT T ++ (vs_W0 g aK K ++ wr)))) x1 x2 _ hw) rfl hl.1 rfl ⟨rfl, rfl⟩ ⟨Nat.le_of_ble_eq_true rfl, Nat.le_of_ble_eq_true rfl⟩ ⟨Nat.le_of_ble_eq_true rfl, Nat.le_of_ble_eq_true rfl⟩ (Nat.le_of_ble_eq_true rfl) dX2_copiesOf_15 (fun r1 _ H locs hw hW => ?_)
  have hW : vs_Wd g A _ (vs_W2 h0 (aS 0) (aT 0) (aK 0) n0 V ++ (vs_W1 g aS S ++ (vs_W1 g aT T ++ (vs_W0 g aK K ++ wr)))) _ _ s := hW
  obtain ⟨hi, hw⟩ := hw
  refine vs_iald hC hW 9 rfl (by decide) hi dX2_copiesOf_18 ?_
  exact vx_ret (vs_iret () hC hr hlk hW rfl hw (Nat.le_of_ble_eq_true rfl) (Nat.le_of_ble_eq_true rfl) dX2_copiesOf_19)
set_option maxHeartbeats 4000000 in
set_option maxRecDepth 100000 in
theorem c_X2_copiesByDisks (l : Launch) (hst : l.stackTraces = false) (g : vs_G) (sd : Nat → Nat) (h0 n0 : Nat) (aS aT aK : Nat → Nat) (wr : va_W) (V S T K : vs_St) (x1 : Int) (x2 : Int) (post : Int → Prop) (px : Nat → Prop) (hw : wX2_copiesByDisks V S T K x1 x2 post px) : vs_XI l yX2_copiesByDisks (Cond.code yX2_copiesByDisks cX2_copiesByDisks 3 (some .int) :: vs_ws) { frames := 8, cells := 2, slots := 12, locals := 133 } g sd [.ref h0, .int (vs_I x1), .int (vs_I x2)] (vs_W2 h0 (aS 0) (aT 0) (aK 0) n0 V ++ (vs_W1 g aS S ++ (vs_W1 g aT T ++ (vs_W0 g aK K ++ wr)))) (fun (_ : Unit) => vs_W2 h0 (aS 0) (aT 0) (aK 0) n0 V ++ (vs_W1 g aS S ++ (vs_W1 g aT T ++ (vs_W0 g aK K ++ wr)))) (fun v (_ : Unit) => post v) px 2 12 := by
  refine vs_ofX (Qc := fun A => vs_QI g A (fun (_ : Unit) => vs_W2 h0 (aS 0) (aT 0) (aK 0) n0 V ++ (vs_W1 g aS S ++ (vs_W1 g aT T ++ (vs_W0 g aK K ++ wr)))) (fun v (_ : Unit) => post v)) (XC := fun A => vs_QX g A (vs_W2 h0 (aS 0) (aT 0) (aK 0) n0 V ++ (vs_W1 g aS S ++ (vs_W1 g aT T ++ (vs_W0 g aK K ++ wr)))) px) (by decide +kernel) (Nat.le_of_ble_eq_true rfl) (fun p e s m below meth c A ls hC hr hlk ht hW hX hl => ?_)
  have hC : CallFix p m c cX2_copiesByDisks 3 s _ vs_ws RX2 := hC
  have hl : lv_has ls 3 [(0, .ref h0), (1, .int (vs_I x1)), (2, .int (vs_I x2))] := hl
  unfold wX2_copiesByDisks at hw
  refine vs_aload_n hC hl 0 dX2_copiesByDisks_0 rfl rfl ?_
  refine vs_iload_n hC hl 1 dX2_copiesByDisks_1 rfl rfl ?_
  refine vs_iload_n hC hl 2 dX2_copiesByDisks_2 rfl rfl ?_
  refine vs_xcallVV [.int (vs_I x1), .int (vs_I x2)] hC hW hX 0 rfl rfl vk_X2_checkBlock vm_X2_85 (c_X2_checkBlock l hst g sd h0 n0 aS aT aK (wr) V S T K x1 x2 _ _ hw) rfl hl.1 rfl ⟨rfl, rfl⟩ ⟨Nat.le_of_ble_eq_true rfl, Nat.le_of_ble_eq_true rfl⟩ ⟨Nat.le_of_ble_eq_true rfl, Nat.le_of_ble_eq_true rfl⟩ (Nat.le_of_ble_eq_true rfl) dX2_copiesByDisks_3 (fun k ce q9 H locs hp hW hq hv hcl => vs_pass hlk ht hW hp hq hv hcl (Nat.le_of_ble_eq_true rfl) (Nat.le_of_ble_eq_true rfl)) (fun _ H locs hw hW => ?_)
  have hW : vs_Wd g A _ (vs_W2 h0 (aS 0) (aT 0) (aK 0) n0 V ++ (vs_W1 g aS S ++ (vs_W1 g aT T ++ (vs_W0 g aK K ++ wr)))) _ _ s := hW
  refine vs_aload_n hC hl 0 dX2_copiesByDisks_6 rfl rfl ?_
  refine vs_get hC hW 0 rfl rfl vs_inX2 0 (by decide) vf_X2_12 rfl dX2_copiesByDisks_7 ?_
  refine vs_iload_n hC hl 1 dX2_copiesByDisks_10 rfl rfl ?_
  refine vs_iload_n hC hl 2 dX2_copiesByDisks_11 rfl rfl ?_
  refine vs_callSI [.int (vs_I x1), .int (vs_I x2)] hC hW vk_X2_blockId vm_X2_92 (c_X2_blockId l g (vs_W2 h0 (aS 0) (aT 0) (aK 0) n0 V ++ (vs_W1 g aS S ++ (vs_W1 g aT T ++ (vs_W0 g aK K ++ wr)))) x1 x2 _ hw) rfl hl.1 rfl ⟨rfl, rfl⟩ ⟨Nat.le_of_ble_eq_true rfl, Nat.le_of_ble_eq_true rfl⟩ ⟨Nat.le_of_ble_eq_true rfl, Nat.le_of_ble_eq_true rfl⟩ (Nat.le_of_ble_eq_true rfl) dX2_copiesByDisks_12 (fun r1 _ H locs hw hW => ?_)
  have hW : vs_Wd g A _ (vs_W2 h0 (aS 0) (aT 0) (aK 0) n0 V ++ (vs_W1 g aS S ++ (vs_W1 g aT T ++ (vs_W0 g aK K ++ wr)))) _ _ s := hW
  have hW : vs_Wd g A _ (vs_W1 g aS S ++ (vs_W2 h0 (aS 0) (aT 0) (aK 0) n0 V ++ (vs_W1 g aT T ++ (vs_W0 g aK K ++ wr)))) _ _ s := vs_Wd.perm hW vs_p2
  refine vs_callNI [.int (vs_I r1)] hC hW 0 rfl rfl vk_X1_countInSlots vo_X2_161 (c_X1_countInSlots l g aS (vs_W2 h0 (aS 0) (aT 0) (aK 0) n0 V ++ (vs_W1 g aT T ++ (vs_W0 g aK K ++ wr))) S r1 _ hw) rfl hl.1 rfl ⟨rfl, rfl⟩ ⟨Nat.le_of_ble_eq_true rfl, Nat.le_of_ble_eq_true rfl⟩ ⟨Nat.le_of_ble_eq_true rfl, Nat.le_of_ble_eq_true rfl⟩ (Nat.le_of_ble_eq_true rfl) dX2_copiesByDisks_15 (fun r2 _ H locs hw hW => ?_)
  have hW : vs_Wd g A _ (vs_W1 g aS S ++ (vs_W2 h0 (aS 0) (aT 0) (aK 0) n0 V ++ (vs_W1 g aT T ++ (vs_W0 g aK K ++ wr)))) _ _ s := hW
  have hW : vs_Wd g A _ (vs_W2 h0 (aS 0) (aT 0) (aK 0) n0 V ++ (vs_W1 g aS S ++ (vs_W1 g aT T ++ (vs_W0 g aK K ++ wr)))) _ _ s := vs_Wd.perm hW (List.Perm.symm vs_p2)
  exact vx_ret (vs_iret () hC hr hlk hW rfl hw (Nat.le_of_ble_eq_true rfl) (Nat.le_of_ble_eq_true rfl) dX2_copiesByDisks_18)
set_option maxHeartbeats 4000000 in
set_option maxRecDepth 100000 in
theorem c_X2_diskOfCopy (l : Launch) (hst : l.stackTraces = false) (g : vs_G) (sd : Nat → Nat) (h0 n0 : Nat) (aS aT aK : Nat → Nat) (wr : va_W) (V S T K : vs_St) (x1 : Int) (x2 : Int) (x3 : Int) (post : Int → Prop) (px : Nat → Prop) (hw : wX2_diskOfCopy V S T K x1 x2 x3 post px) : vs_XI l yX2_diskOfCopy (Cond.code yX2_diskOfCopy cX2_diskOfCopy 5 (some .int) :: vs_ws) { frames := 8, cells := 3, slots := 18, locals := 133 } g sd [.ref h0, .int (vs_I x1), .int (vs_I x2), .int (vs_I x3)] (vs_W2 h0 (aS 0) (aT 0) (aK 0) n0 V ++ (vs_W1 g aS S ++ (vs_W1 g aT T ++ (vs_W0 g aK K ++ wr)))) (fun (_ : Unit) => vs_W2 h0 (aS 0) (aT 0) (aK 0) n0 V ++ (vs_W1 g aS S ++ (vs_W1 g aT T ++ (vs_W0 g aK K ++ wr)))) (fun v (_ : Unit) => post v) px 3 18 := by
  refine vs_ofX (Qc := fun A => vs_QI g A (fun (_ : Unit) => vs_W2 h0 (aS 0) (aT 0) (aK 0) n0 V ++ (vs_W1 g aS S ++ (vs_W1 g aT T ++ (vs_W0 g aK K ++ wr)))) (fun v (_ : Unit) => post v)) (XC := fun A => vs_QX g A (vs_W2 h0 (aS 0) (aT 0) (aK 0) n0 V ++ (vs_W1 g aS S ++ (vs_W1 g aT T ++ (vs_W0 g aK K ++ wr)))) px) (by decide +kernel) (Nat.le_of_ble_eq_true rfl) (fun p e s m below meth c A ls hC hr hlk ht hW hX hl => ?_)
  have hC : CallFix p m c cX2_diskOfCopy 5 s _ vs_ws RX2 := hC
  have hl : lv_has ls 5 [(0, .ref h0), (1, .int (vs_I x1)), (2, .int (vs_I x2)), (3, .int (vs_I x3))] := hl
  unfold wX2_diskOfCopy at hw
  refine vs_aload_n hC hl 0 dX2_diskOfCopy_0 rfl rfl ?_
  refine vs_iload_n hC hl 1 dX2_diskOfCopy_1 rfl rfl ?_
  refine vs_iload_n hC hl 2 dX2_diskOfCopy_2 rfl rfl ?_
  refine vs_xcallVV [.int (vs_I x1), .int (vs_I x2)] hC hW hX 0 rfl rfl vk_X2_checkBlock vm_X2_85 (c_X2_checkBlock l hst g sd h0 n0 aS aT aK (wr) V S T K x1 x2 _ _ hw) rfl hl.1 rfl ⟨rfl, rfl⟩ ⟨Nat.le_of_ble_eq_true rfl, Nat.le_of_ble_eq_true rfl⟩ ⟨Nat.le_of_ble_eq_true rfl, Nat.le_of_ble_eq_true rfl⟩ (Nat.le_of_ble_eq_true rfl) dX2_diskOfCopy_3 (fun k ce q9 H locs hp hW hq hv hcl => vs_pass hlk ht hW hp hq hv hcl (Nat.le_of_ble_eq_true rfl) (Nat.le_of_ble_eq_true rfl)) (fun _ H locs hw hW => ?_)
  have hW : vs_Wd g A _ (vs_W2 h0 (aS 0) (aT 0) (aK 0) n0 V ++ (vs_W1 g aS S ++ (vs_W1 g aT T ++ (vs_W0 g aK K ++ wr)))) _ _ s := hW
  refine vs_iload_n hC hl 1 dX2_diskOfCopy_6 rfl rfl ?_
  refine vs_iload_n hC hl 2 dX2_diskOfCopy_7 rfl rfl ?_
  refine vs_callSI [.int (vs_I x1), .int (vs_I x2)] hC hW vk_X2_blockId vm_X2_92 (c_X2_blockId l g (vs_W2 h0 (aS 0) (aT 0) (aK 0) n0 V ++ (vs_W1 g aS S ++ (vs_W1 g aT T ++ (vs_W0 g aK K ++ wr)))) x1 x2 _ hw) rfl hl.1 rfl ⟨rfl, rfl⟩ ⟨Nat.le_of_ble_eq_true rfl, Nat.le_of_ble_eq_true rfl⟩ ⟨Nat.le_of_ble_eq_true rfl, Nat.le_of_ble_eq_true rfl⟩ (Nat.le_of_ble_eq_true rfl) dX2_diskOfCopy_8 (fun r1 _ H locs hw hW => ?_)
  have hW : vs_Wd g A _ (vs_W2 h0 (aS 0) (aT 0) (aK 0) n0 V ++ (vs_W1 g aS S ++ (vs_W1 g aT T ++ (vs_W0 g aK K ++ wr)))) _ _ s := hW
  refine vs_istore (L' := [(0, .ref h0), (1, .int (vs_I x1)), (2, .int (vs_I x2)), (3, .int (vs_I x3)), (4, .int (vs_I r1))]) hC hl [1, 2, 3, 4, 0] dX2_diskOfCopy_11 (by decide) rfl (fun ls hl => ?_)
  refine vs_iload_n hC hl 3 dX2_diskOfCopy_13 rfl rfl ?_
  obtain ⟨hx, hw⟩ := hw
  obtain ⟨hwt, hwf⟩ := hw
  refine vs_if_lt hC 31 hx dX2_diskOfCopy_14 (by decide) (fun hc => ?_) (fun hc => ?_)
  · have hw := hwt hc
    clear hwt hwf hc
    exact vs_throw 4 10 hC hst hlk ht hW hX vs_ex4 rfl hl.1 hw dX2_diskOfCopy_31 dX2_diskOfCopy_34 dX2_diskOfCopy_35 dX2_diskOfCopy_37 dX2_diskOfCopy_40 (Nat.le_of_ble_eq_true rfl) (Nat.le_of_ble_eq_true rfl) (Nat.le_of_ble_eq_true rfl) (Nat.le_of_ble_eq_true rfl) (Nat.le_of_ble_eq_true rfl) (Nat.le_of_ble_eq_true rfl)
  · have hw := hwf hc
    clear hwt hwf hc
    refine vs_iload_n hC hl 3 dX2_diskOfCopy_17 rfl rfl ?_
    refine vs_aload_n hC hl 0 dX2_diskOfCopy_18 rfl rfl ?_
    refine vs_get hC hW 0 rfl rfl vs_inX2 0 (by decide) vf_X2_12 rfl dX2_diskOfCopy_19 ?_
    refine vs_getN hC hW 1 rfl rfl vs_inX1 8 (by decide) vn_X2_158 rfl dX2_diskOfCopy_22 ?_
    refine vs_iload hC hl 4 dX2_diskOfCopy_25 rfl ?_
    obtain ⟨hi, hw⟩ := hw
    refine vs_iald hC hW 9 rfl (by decide) hi dX2_diskOfCopy_27 ?_
    obtain ⟨hx, hw⟩ := hw
    obtain ⟨hy, hw⟩ := hw
    obtain ⟨hwt, hwf⟩ := hw
    refine vs_icmp_lt hC 41 hx hy dX2_diskOfCopy_28 (by decide) (fun hc => ?_) (fun hc => ?_)
    · have hw := hwt hc
      clear hwt hwf hc
      refine vs_aload_n hC hl 0 dX2_diskOfCopy_41 rfl rfl ?_
      refine vs_get hC hW 0 rfl rfl vs_inX2 0 (by decide) vf_X2_12 rfl dX2_diskOfCopy_42 ?_
      refine vs_iload hC hl 4 dX2_diskOfCopy_45 rfl ?_
      refine vs_iload_n hC hl 3 dX2_diskOfCopy_47 rfl rfl ?_
      have hW : vs_Wd g A _ (vs_W1 g aS S ++ (vs_W2 h0 (aS 0) (aT 0) (aK 0) n0 V ++ (vs_W1 g aT T ++ (vs_W0 g aK K ++ wr)))) _ _ s := vs_Wd.perm hW vs_p2
      refine vs_callNI [.int (vs_I r1), .int (vs_I x3)] hC hW 0 rfl rfl vk_X1_addressOf vo_X2_166 (c_X1_addressOf l g aS (vs_W2 h0 (aS 0) (aT 0) (aK 0) n0 V ++ (vs_W1 g aT T ++ (vs_W0 g aK K ++ wr))) S r1 x3 _ hw) rfl hl.1 rfl ⟨rfl, rfl⟩ ⟨Nat.le_of_ble_eq_true rfl, Nat.le_of_ble_eq_true rfl⟩ ⟨Nat.le_of_ble_eq_true rfl, Nat.le_of_ble_eq_true rfl⟩ (Nat.le_of_ble_eq_true rfl) dX2_diskOfCopy_48 (fun r2 _ H locs hw hW => ?_)
      have hW : vs_Wd g A _ (vs_W1 g aS S ++ (vs_W2 h0 (aS 0) (aT 0) (aK 0) n0 V ++ (vs_W1 g aT T ++ (vs_W0 g aK K ++ wr)))) _ _ s := hW
      have hW : vs_Wd g A _ (vs_W2 h0 (aS 0) (aT 0) (aK 0) n0 V ++ (vs_W1 g aS S ++ (vs_W1 g aT T ++ (vs_W0 g aK K ++ wr)))) _ _ s := vs_Wd.perm hW (List.Perm.symm vs_p2)
      refine vs_bipush hC dX2_diskOfCopy_51 (by decide +kernel) ?_
      obtain ⟨hi, hw⟩ := hw
      refine vs_idiv hC dX2_diskOfCopy_53 ⟨hi.1, hi.2, by decide, by decide⟩ ?_
      exact vx_ret (vs_iret () hC hr hlk hW rfl hw (Nat.le_of_ble_eq_true rfl) (Nat.le_of_ble_eq_true rfl) dX2_diskOfCopy_54)
    · have hw := hwf hc
      clear hwt hwf hc
      exact vs_throw 4 10 hC hst hlk ht hW hX vs_ex4 rfl hl.1 hw dX2_diskOfCopy_31 dX2_diskOfCopy_34 dX2_diskOfCopy_35 dX2_diskOfCopy_37 dX2_diskOfCopy_40 (Nat.le_of_ble_eq_true rfl) (Nat.le_of_ble_eq_true rfl) (Nat.le_of_ble_eq_true rfl) (Nat.le_of_ble_eq_true rfl) (Nat.le_of_ble_eq_true rfl) (Nat.le_of_ble_eq_true rfl)
set_option maxHeartbeats 4000000 in
set_option maxRecDepth 100000 in
theorem c_X2_valueOf (l : Launch) (hst : l.stackTraces = false) (g : vs_G) (sd : Nat → Nat) (h0 n0 : Nat) (aS aT aK : Nat → Nat) (wr : va_W) (V S T K : vs_St) (x1 : Int) (x2 : Int) (post : Int → Prop) (px : Nat → Prop) (hw : wX2_valueOf V S T K x1 x2 post px) : vs_XI l yX2_valueOf (Cond.code yX2_valueOf cX2_valueOf 4 (some .int) :: vs_ws) { frames := 8, cells := 3, slots := 18, locals := 133 } g sd [.ref h0, .int (vs_I x1), .int (vs_I x2)] (vs_W2 h0 (aS 0) (aT 0) (aK 0) n0 V ++ (vs_W1 g aS S ++ (vs_W1 g aT T ++ (vs_W0 g aK K ++ wr)))) (fun (_ : Unit) => vs_W2 h0 (aS 0) (aT 0) (aK 0) n0 V ++ (vs_W1 g aS S ++ (vs_W1 g aT T ++ (vs_W0 g aK K ++ wr)))) (fun v (_ : Unit) => post v) px 3 18 := by
  refine vs_ofX (Qc := fun A => vs_QI g A (fun (_ : Unit) => vs_W2 h0 (aS 0) (aT 0) (aK 0) n0 V ++ (vs_W1 g aS S ++ (vs_W1 g aT T ++ (vs_W0 g aK K ++ wr)))) (fun v (_ : Unit) => post v)) (XC := fun A => vs_QX g A (vs_W2 h0 (aS 0) (aT 0) (aK 0) n0 V ++ (vs_W1 g aS S ++ (vs_W1 g aT T ++ (vs_W0 g aK K ++ wr)))) px) (by decide +kernel) (Nat.le_of_ble_eq_true rfl) (fun p e s m below meth c A ls hC hr hlk ht hW hX hl => ?_)
  have hC : CallFix p m c cX2_valueOf 4 s _ vs_ws RX2 := hC
  have hl : lv_has ls 4 [(0, .ref h0), (1, .int (vs_I x1)), (2, .int (vs_I x2))] := hl
  unfold wX2_valueOf at hw
  refine vs_aload_n hC hl 0 dX2_valueOf_0 rfl rfl ?_
  refine vs_iload_n hC hl 1 dX2_valueOf_1 rfl rfl ?_
  refine vs_iload_n hC hl 2 dX2_valueOf_2 rfl rfl ?_
  refine vs_xcallVV [.int (vs_I x1), .int (vs_I x2)] hC hW hX 0 rfl rfl vk_X2_checkBlock vm_X2_85 (c_X2_checkBlock l hst g sd h0 n0 aS aT aK (wr) V S T K x1 x2 _ _ hw) rfl hl.1 rfl ⟨rfl, rfl⟩ ⟨Nat.le_of_ble_eq_true rfl, Nat.le_of_ble_eq_true rfl⟩ ⟨Nat.le_of_ble_eq_true rfl, Nat.le_of_ble_eq_true rfl⟩ (Nat.le_of_ble_eq_true rfl) dX2_valueOf_3 (fun k ce q9 H locs hp hW hq hv hcl => vs_pass hlk ht hW hp hq hv hcl (Nat.le_of_ble_eq_true rfl) (Nat.le_of_ble_eq_true rfl)) (fun _ H locs hw hW => ?_)
  have hW : vs_Wd g A _ (vs_W2 h0 (aS 0) (aT 0) (aK 0) n0 V ++ (vs_W1 g aS S ++ (vs_W1 g aT T ++ (vs_W0 g aK K ++ wr)))) _ _ s := hW
  refine vs_iload_n hC hl 1 dX2_valueOf_6 rfl rfl ?_
  refine vs_iload_n hC hl 2 dX2_valueOf_7 rfl rfl ?_
  refine vs_callSI [.int (vs_I x1), .int (vs_I x2)] hC hW vk_X2_blockId vm_X2_92 (c_X2_blockId l g (vs_W2 h0 (aS 0) (aT 0) (aK 0) n0 V ++ (vs_W1 g aS S ++ (vs_W1 g aT T ++ (vs_W0 g aK K ++ wr)))) x1 x2 _ hw) rfl hl.1 rfl ⟨rfl, rfl⟩ ⟨Nat.le_of_ble_eq_true rfl, Nat.le_of_ble_eq_true rfl⟩ ⟨Nat.le_of_ble_eq_true rfl, Nat.le_of_ble_eq_true rfl⟩ (Nat.le_of_ble_eq_true rfl) dX2_valueOf_8 (fun r1 _ H locs hw hW => ?_)
  have hW : vs_Wd g A _ (vs_W2 h0 (aS 0) (aT 0) (aK 0) n0 V ++ (vs_W1 g aS S ++ (vs_W1 g aT T ++ (vs_W0 g aK K ++ wr)))) _ _ s := hW
  refine vs_istore_n (L' := [(0, .ref h0), (1, .int (vs_I x1)), (2, .int (vs_I x2)), (3, .int (vs_I r1))]) hC hl [1, 2, 3, 0] dX2_valueOf_11 rfl (by decide) rfl (fun ls hl => ?_)
  refine vs_aload_n hC hl 0 dX2_valueOf_12 rfl rfl ?_
  refine vs_get hC hW 0 rfl rfl vs_inX2 0 (by decide) vf_X2_12 rfl dX2_valueOf_13 ?_
  refine vs_iload_n hC hl 3 dX2_valueOf_16 rfl rfl ?_
  have hW : vs_Wd g A _ (vs_W1 g aS S ++ (vs_W2 h0 (aS 0) (aT 0) (aK 0) n0 V ++ (vs_W1 g aT T ++ (vs_W0 g aK K ++ wr)))) _ _ s := vs_Wd.perm hW vs_p2
  refine vs_callNI [.int (vs_I r1)] hC hW 0 rfl rfl vk_X1_disksWithGoodCopy vo_X2_169 (c_X1_disksWithGoodCopy l g aS (vs_W2 h0 (aS 0) (aT 0) (aK 0) n0 V ++ (vs_W1 g aT T ++ (vs_W0 g aK K ++ wr))) S r1 _ hw) rfl hl.1 rfl ⟨rfl, rfl⟩ ⟨Nat.le_of_ble_eq_true rfl, Nat.le_of_ble_eq_true rfl⟩ ⟨Nat.le_of_ble_eq_true rfl, Nat.le_of_ble_eq_true rfl⟩ (Nat.le_of_ble_eq_true rfl) dX2_valueOf_17 (fun r2 _ H locs hw hW => ?_)
  have hW : vs_Wd g A _ (vs_W1 g aS S ++ (vs_W2 h0 (aS 0) (aT 0) (aK 0) n0 V ++ (vs_W1 g aT T ++ (vs_W0 g aK K ++ wr)))) _ _ s := hW
  have hW : vs_Wd g A _ (vs_W2 h0 (aS 0) (aT 0) (aK 0) n0 V ++ (vs_W1 g aS S ++ (vs_W1 g aT T ++ (vs_W0 g aK K ++ wr)))) _ _ s := vs_Wd.perm hW (List.Perm.symm vs_p2)
  obtain ⟨hx, hw⟩ := hw
  obtain ⟨hwt, hwf⟩ := hw
  refine vs_if_ne hC 33 hx dX2_valueOf_20 (by decide) (fun hc => ?_) (fun hc => ?_)
  · have hw := hwt hc
    clear hwt hwf hc
    refine vs_aload_n hC hl 0 dX2_valueOf_33 rfl rfl ?_
    refine vs_get hC hW 0 rfl rfl vs_inX2 0 (by decide) vf_X2_12 rfl dX2_valueOf_34 ?_
    refine vs_getN hC hW 1 rfl rfl vs_inX1 7 (by decide) vn_X2_174 rfl dX2_valueOf_37 ?_
    refine vs_iload_n hC hl 3 dX2_valueOf_40 rfl rfl ?_
    obtain ⟨hi, hw⟩ := hw
    refine vs_iald hC hW 8 rfl (by decide) hi dX2_valueOf_41 ?_
    exact vx_ret (vs_iret () hC hr hlk hW rfl hw (Nat.le_of_ble_eq_true rfl) (Nat.le_of_ble_eq_true rfl) dX2_valueOf_42)
  · have hw := hwf hc
    clear hwt hwf hc
    exact vs_throw 4 11 hC hst hlk ht hW hX vs_ex4 rfl hl.1 hw dX2_valueOf_23 dX2_valueOf_26 dX2_valueOf_27 dX2_valueOf_29 dX2_valueOf_32 (Nat.le_of_ble_eq_true rfl) (Nat.le_of_ble_eq_true rfl) (Nat.le_of_ble_eq_true rfl) (Nat.le_of_ble_eq_true rfl) (Nat.le_of_ble_eq_true rfl) (Nat.le_of_ble_eq_true rfl)
set_option maxHeartbeats 4000000 in
set_option maxRecDepth 100000 in
theorem c_X2_isLost (l : Launch) (hst : l.stackTraces = false) (g : vs_G) (sd : Nat → Nat) (h0 n0 : Nat) (aS aT aK : Nat → Nat) (wr : va_W) (V S T K : vs_St) (x1 : Int) (x2 : Int) (post : Int → Prop) (px : Nat → Prop) (hw : wX2_isLost V S T K x1 x2 post px) : vs_XI l yX2_isLost (Cond.code yX2_isLost cX2_isLost 3 (some .boolean) :: vs_ws) { frames := 8, cells := 2, slots := 12, locals := 133 } g sd [.ref h0, .int (vs_I x1), .int (vs_I x2)] (vs_W2 h0 (aS 0) (aT 0) (aK 0) n0 V ++ (vs_W1 g aS S ++ (vs_W1 g aT T ++ (vs_W0 g aK K ++ wr)))) (fun (_ : Unit) => vs_W2 h0 (aS 0) (aT 0) (aK 0) n0 V ++ (vs_W1 g aS S ++ (vs_W1 g aT T ++ (vs_W0 g aK K ++ wr)))) (fun v (_ : Unit) => post v) px 2 12 := by
  refine vs_ofX (Qc := fun A => vs_QI g A (fun (_ : Unit) => vs_W2 h0 (aS 0) (aT 0) (aK 0) n0 V ++ (vs_W1 g aS S ++ (vs_W1 g aT T ++ (vs_W0 g aK K ++ wr)))) (fun v (_ : Unit) => post v)) (XC := fun A => vs_QX g A (vs_W2 h0 (aS 0) (aT 0) (aK 0) n0 V ++ (vs_W1 g aS S ++ (vs_W1 g aT T ++ (vs_W0 g aK K ++ wr)))) px) (by decide +kernel) (Nat.le_of_ble_eq_true rfl) (fun p e s m below meth c A ls hC hr hlk ht hW hX hl => ?_)
  have hC : CallFix p m c cX2_isLost 3 s _ vs_ws RX2 := hC
  have hl : lv_has ls 3 [(0, .ref h0), (1, .int (vs_I x1)), (2, .int (vs_I x2))] := hl
  unfold wX2_isLost at hw
  refine vs_aload_n hC hl 0 dX2_isLost_0 rfl rfl ?_
  refine vs_iload_n hC hl 1 dX2_isLost_1 rfl rfl ?_
  refine vs_iload_n hC hl 2 dX2_isLost_2 rfl rfl ?_
  refine vs_xcallVV [.int (vs_I x1), .int (vs_I x2)] hC hW hX 0 rfl rfl vk_X2_checkBlock vm_X2_85 (c_X2_checkBlock l hst g sd h0 n0 aS aT aK (wr) V S T K x1 x2 _ _ hw) rfl hl.1 rfl ⟨rfl, rfl⟩ ⟨Nat.le_of_ble_eq_true rfl, Nat.le_of_ble_eq_true rfl⟩ ⟨Nat.le_of_ble_eq_true rfl, Nat.le_of_ble_eq_true rfl⟩ (Nat.le_of_ble_eq_true rfl) dX2_isLost_3 (fun k ce q9 H locs hp hW hq hv hcl => vs_pass hlk ht hW hp hq hv hcl (Nat.le_of_ble_eq_true rfl) (Nat.le_of_ble_eq_true rfl)) (fun _ H locs hw hW => ?_)
  have hW : vs_Wd g A _ (vs_W2 h0 (aS 0) (aT 0) (aK 0) n0 V ++ (vs_W1 g aS S ++ (vs_W1 g aT T ++ (vs_W0 g aK K ++ wr)))) _ _ s := hW
  refine vs_aload_n hC hl 0 dX2_isLost_6 rfl rfl ?_
  refine vs_get hC hW 0 rfl rfl vs_inX2 0 (by decide) vf_X2_12 rfl dX2_isLost_7 ?_
  refine vs_iload_n hC hl 1 dX2_isLost_10 rfl rfl ?_
  refine vs_iload_n hC hl 2 dX2_isLost_11 rfl rfl ?_
  refine vs_callSI [.int (vs_I x1), .int (vs_I x2)] hC hW vk_X2_blockId vm_X2_92 (c_X2_blockId l g (vs_W2 h0 (aS 0) (aT 0) (aK 0) n0 V ++ (vs_W1 g aS S ++ (vs_W1 g aT T ++ (vs_W0 g aK K ++ wr)))) x1 x2 _ hw) rfl hl.1 rfl ⟨rfl, rfl⟩ ⟨Nat.le_of_ble_eq_true rfl, Nat.le_of_ble_eq_true rfl⟩ ⟨Nat.le_of_ble_eq_true rfl, Nat.le_of_ble_eq_true rfl⟩ (Nat.le_of_ble_eq_true rfl) dX2_isLost_12 (fun r1 _ H locs hw hW => ?_)
  have hW : vs_Wd g A _ (vs_W2 h0 (aS 0) (aT 0) (aK 0) n0 V ++ (vs_W1 g aS S ++ (vs_W1 g aT T ++ (vs_W0 g aK K ++ wr)))) _ _ s := hW
  have hW : vs_Wd g A _ (vs_W1 g aS S ++ (vs_W2 h0 (aS 0) (aT 0) (aK 0) n0 V ++ (vs_W1 g aT T ++ (vs_W0 g aK K ++ wr)))) _ _ s := vs_Wd.perm hW vs_p2
  refine vs_callNI [.int (vs_I r1)] hC hW 0 rfl rfl vk_X1_hasLost vo_X2_175 (c_X1_hasLost l g aS (vs_W2 h0 (aS 0) (aT 0) (aK 0) n0 V ++ (vs_W1 g aT T ++ (vs_W0 g aK K ++ wr))) S r1 _ hw) rfl hl.1 rfl ⟨rfl, rfl⟩ ⟨Nat.le_of_ble_eq_true rfl, Nat.le_of_ble_eq_true rfl⟩ ⟨Nat.le_of_ble_eq_true rfl, Nat.le_of_ble_eq_true rfl⟩ (Nat.le_of_ble_eq_true rfl) dX2_isLost_15 (fun r2 _ H locs hw hW => ?_)
  have hW : vs_Wd g A _ (vs_W1 g aS S ++ (vs_W2 h0 (aS 0) (aT 0) (aK 0) n0 V ++ (vs_W1 g aT T ++ (vs_W0 g aK K ++ wr)))) _ _ s := hW
  have hW : vs_Wd g A _ (vs_W2 h0 (aS 0) (aT 0) (aK 0) n0 V ++ (vs_W1 g aS S ++ (vs_W1 g aT T ++ (vs_W0 g aK K ++ wr)))) _ _ s := vs_Wd.perm hW (List.Perm.symm vs_p2)
  exact vx_ret (vs_zret () hC hr hlk hW rfl hw (Nat.le_of_ble_eq_true rfl) (Nat.le_of_ble_eq_true rfl) dX2_isLost_18)
set_option maxHeartbeats 4000000 in
set_option maxRecDepth 100000 in
theorem c_X2_lostBlocks (l : Launch) (g : vs_G) (h0 n0 : Nat) (aS aT aK : Nat → Nat) (wr : va_W) (V S T K : vs_St) (post : Int → Prop) (hw : wX2_lostBlocks V S T K post) : vs_MI l yX2_lostBlocks (Cond.code yX2_lostBlocks cX2_lostBlocks 1 (some .int) :: vs_ws) { frames := 4, cells := 0, slots := 0, locals := 89 } g [.ref h0] (vs_W2 h0 (aS 0) (aT 0) (aK 0) n0 V ++ (vs_W1 g aS S ++ (vs_W1 g aT T ++ (vs_W0 g aK K ++ wr)))) (fun (_ : Unit) => vs_W2 h0 (aS 0) (aT 0) (aK 0) n0 V ++ (vs_W1 g aS S ++ (vs_W1 g aT T ++ (vs_W0 g aK K ++ wr)))) (fun v (_ : Unit) => post v) 0 0 := by
  refine vs_ofW (Qc := fun A => vs_QI g A (fun (_ : Unit) => vs_W2 h0 (aS 0) (aT 0) (aK 0) n0 V ++ (vs_W1 g aS S ++ (vs_W1 g aT T ++ (vs_W0 g aK K ++ wr)))) (fun v (_ : Unit) => post v)) (by decide +kernel) (Nat.le_of_ble_eq_true rfl) (fun p e s m below meth c A ls hC hr hlk hW hl => ?_)
  have hC : CallFix p m c cX2_lostBlocks 1 s _ vs_ws RX2 := hC
  have hl : lv_has ls 1 [(0, .ref h0)] := hl
  unfold wX2_lostBlocks at hw
  refine vs_aload_n hC hl 0 dX2_lostBlocks_0 rfl rfl ?_
  refine vs_get hC hW 0 rfl rfl vs_inX2 0 (by decide) vf_X2_12 rfl dX2_lostBlocks_1 ?_
  have hW : vs_Wd g A _ (vs_W1 g aS S ++ (vs_W2 h0 (aS 0) (aT 0) (aK 0) n0 V ++ (vs_W1 g aT T ++ (vs_W0 g aK K ++ wr)))) _ _ s := vs_Wd.perm hW vs_p2
  refine vs_callNI [] hC hW 0 rfl rfl vk_X1_countLost vo_X2_179 (c_X1_countLost l g aS (vs_W2 h0 (aS 0) (aT 0) (aK 0) n0 V ++ (vs_W1 g aT T ++ (vs_W0 g aK K ++ wr))) S  _ hw) rfl hl.1 rfl ⟨rfl, rfl⟩ ⟨Nat.le_of_ble_eq_true rfl, Nat.le_of_ble_eq_true rfl⟩ ⟨Nat.le_of_ble_eq_true rfl, Nat.le_of_ble_eq_true rfl⟩ (Nat.le_of_ble_eq_true rfl) dX2_lostBlocks_4 (fun r1 _ H locs hw hW => ?_)
  have hW : vs_Wd g A _ (vs_W1 g aS S ++ (vs_W2 h0 (aS 0) (aT 0) (aK 0) n0 V ++ (vs_W1 g aT T ++ (vs_W0 g aK K ++ wr)))) _ _ s := hW
  have hW : vs_Wd g A _ (vs_W2 h0 (aS 0) (aT 0) (aK 0) n0 V ++ (vs_W1 g aS S ++ (vs_W1 g aT T ++ (vs_W0 g aK K ++ wr)))) _ _ s := vs_Wd.perm hW (List.Perm.symm vs_p2)
  exact vs_iret () hC hr hlk hW rfl hw (Nat.le_of_ble_eq_true rfl) (Nat.le_of_ble_eq_true rfl) dX2_lostBlocks_7
set_option maxHeartbeats 4000000 in
set_option maxRecDepth 100000 in
theorem c_X2_degradedBlocks (l : Launch) (g : vs_G) (h0 n0 : Nat) (aS aT aK : Nat → Nat) (wr : va_W) (V S T K : vs_St) (post : Int → Prop) (hw : wX2_degradedBlocks V S T K post) : vs_MI l yX2_degradedBlocks (Cond.code yX2_degradedBlocks cX2_degradedBlocks 1 (some .int) :: vs_ws) { frames := 2, cells := 0, slots := 0, locals := 43 } g [.ref h0] (vs_W2 h0 (aS 0) (aT 0) (aK 0) n0 V ++ (vs_W1 g aS S ++ (vs_W1 g aT T ++ (vs_W0 g aK K ++ wr)))) (fun (_ : Unit) => vs_W2 h0 (aS 0) (aT 0) (aK 0) n0 V ++ (vs_W1 g aS S ++ (vs_W1 g aT T ++ (vs_W0 g aK K ++ wr)))) (fun v (_ : Unit) => post v) 0 0 := by
  refine vs_ofW (Qc := fun A => vs_QI g A (fun (_ : Unit) => vs_W2 h0 (aS 0) (aT 0) (aK 0) n0 V ++ (vs_W1 g aS S ++ (vs_W1 g aT T ++ (vs_W0 g aK K ++ wr)))) (fun v (_ : Unit) => post v)) (by decide +kernel) (Nat.le_of_ble_eq_true rfl) (fun p e s m below meth c A ls hC hr hlk hW hl => ?_)
  have hC : CallFix p m c cX2_degradedBlocks 1 s _ vs_ws RX2 := hC
  have hl : lv_has ls 1 [(0, .ref h0)] := hl
  unfold wX2_degradedBlocks at hw
  refine vs_aload_n hC hl 0 dX2_degradedBlocks_0 rfl rfl ?_
  refine vs_get hC hW 0 rfl rfl vs_inX2 0 (by decide) vf_X2_12 rfl dX2_degradedBlocks_1 ?_
  have hW : vs_Wd g A _ (vs_W1 g aS S ++ (vs_W2 h0 (aS 0) (aT 0) (aK 0) n0 V ++ (vs_W1 g aT T ++ (vs_W0 g aK K ++ wr)))) _ _ s := vs_Wd.perm hW vs_p2
  refine vs_callNI [] hC hW 0 rfl rfl vk_X1_countDegraded vo_X2_183 (c_X1_countDegraded l g aS (vs_W2 h0 (aS 0) (aT 0) (aK 0) n0 V ++ (vs_W1 g aT T ++ (vs_W0 g aK K ++ wr))) S  _ hw) rfl hl.1 rfl ⟨rfl, rfl⟩ ⟨Nat.le_of_ble_eq_true rfl, Nat.le_of_ble_eq_true rfl⟩ ⟨Nat.le_of_ble_eq_true rfl, Nat.le_of_ble_eq_true rfl⟩ (Nat.le_of_ble_eq_true rfl) dX2_degradedBlocks_4 (fun r1 _ H locs hw hW => ?_)
  have hW : vs_Wd g A _ (vs_W1 g aS S ++ (vs_W2 h0 (aS 0) (aT 0) (aK 0) n0 V ++ (vs_W1 g aT T ++ (vs_W0 g aK K ++ wr)))) _ _ s := hW
  have hW : vs_Wd g A _ (vs_W2 h0 (aS 0) (aT 0) (aK 0) n0 V ++ (vs_W1 g aS S ++ (vs_W1 g aT T ++ (vs_W0 g aK K ++ wr)))) _ _ s := vs_Wd.perm hW (List.Perm.symm vs_p2)
  exact vs_iret () hC hr hlk hW rfl hw (Nat.le_of_ble_eq_true rfl) (Nat.le_of_ble_eq_true rfl) dX2_degradedBlocks_7
set_option maxHeartbeats 4000000 in
set_option maxRecDepth 100000 in
theorem c_X2_checkLosses (l : Launch) (hst : l.stackTraces = false) (g : vs_G) (sd : Nat → Nat) (Wo : va_W) (x0 : Int) (post : Prop) (px : Nat → Prop) (hw : wX2_checkLosses x0 post px) : vs_XV l yX2_checkLosses (Cond.code yX2_checkLosses cX2_checkLosses 1 (none) :: vs_ws) { frames := 6, cells := 1, slots := 6, locals := 90 } g sd [.int (vs_I x0)] (Wo) (fun (_ : Unit) => Wo) (fun (_ : Unit) => post) px 1 6 := by
  refine vs_ofX (Qc := fun A => vs_QV g A (fun (_ : Unit) => Wo) (fun (_ : Unit) => post)) (XC := fun A => vs_QX g A (Wo) px) (by decide +kernel) (Nat.le_of_ble_eq_true rfl) (fun p e s m below meth c A ls hC hr hlk ht hW hX hl => ?_)
  have hC : CallFix p m c cX2_checkLosses 1 s _ vs_ws RX2 := hC
  have hl : lv_has ls 1 [(0, .int (vs_I x0))] := hl
  unfold wX2_checkLosses at hw
  refine vs_iload_n hC hl 0 dX2_checkLosses_0 rfl rfl ?_
  obtain ⟨hx, hw⟩ := hw
  obtain ⟨hwt, hwf⟩ := hw
  refine vs_if_lt hC 9 hx dX2_checkLosses_1 (by decide) (fun hc => ?_) (fun hc => ?_)
  · have hw := hwt hc
    clear hwt hwf hc
    exact vs_throwW 1 26 hC hst hlk ht hW hX vs_ex1 rfl hl.1 hw dX2_checkLosses_9 dX2_checkLosses_12 dX2_checkLosses_13 dX2_checkLosses_16 dX2_checkLosses_19 (Nat.le_of_ble_eq_true rfl) (Nat.le_of_ble_eq_true rfl) (Nat.le_of_ble_eq_true rfl) (Nat.le_of_ble_eq_true rfl) (Nat.le_of_ble_eq_true rfl) (Nat.le_of_ble_eq_true rfl)
  · have hw := hwf hc
    clear hwt hwf hc
    refine vs_iload_n hC hl 0 dX2_checkLosses_4 rfl rfl ?_
    refine vs_iconst hC dX2_checkLosses_5 ?_
    obtain ⟨hx, hw⟩ := hw
    obtain ⟨hwt, hwf⟩ := hw
    refine vs_icmp_le hC 20 hx ⟨by decide, by decide⟩ dX2_checkLosses_6 (by decide) (fun hc => ?_) (fun hc => ?_)
    · have hw := hwt hc
      clear hwt hwf hc
      exact vx_ret (vs_vret () hC hr hlk hW rfl hw (Nat.le_of_ble_eq_true rfl) (Nat.le_of_ble_eq_true rfl) dX2_checkLosses_20)
    · have hw := hwf hc
      clear hwt hwf hc
      exact vs_throwW 1 26 hC hst hlk ht hW hX vs_ex1 rfl hl.1 hw dX2_checkLosses_9 dX2_checkLosses_12 dX2_checkLosses_13 dX2_checkLosses_16 dX2_checkLosses_19 (Nat.le_of_ble_eq_true rfl) (Nat.le_of_ble_eq_true rfl) (Nat.le_of_ble_eq_true rfl) (Nat.le_of_ble_eq_true rfl) (Nat.le_of_ble_eq_true rfl) (Nat.le_of_ble_eq_true rfl)
set_option maxHeartbeats 4000000 in
set_option maxRecDepth 100000 in
theorem c_X2_doesBear (l : Launch) (hst : l.stackTraces = false) (g : vs_G) (sd : Nat → Nat) (h0 n0 : Nat) (aS aT aK : Nat → Nat) (wr : va_W) (V S T K : vs_St) (x1 : Int) (post : Int → Prop) (px : Nat → Prop) (hw : wX2_doesBear V S T K x1 post px) : vs_XI l yX2_doesBear (Cond.code yX2_doesBear cX2_doesBear 2 (some .boolean) :: vs_ws) { frames := 7, cells := 1, slots := 6, locals := 110 } g sd [.ref h0, .int (vs_I x1)] (vs_W2 h0 (aS 0) (aT 0) (aK 0) n0 V ++ (vs_W1 g aS S ++ (vs_W1 g aT T ++ (vs_W0 g aK K ++ wr)))) (fun (_ : Unit) => vs_W2 h0 (aS 0) (aT 0) (aK 0) n0 V ++ (vs_W1 g aS S ++ (vs_W1 g aT T ++ (vs_W0 g aK K ++ wr)))) (fun v (_ : Unit) => post v) px 1 6 := by
  refine vs_ofX (Qc := fun A => vs_QI g A (fun (_ : Unit) => vs_W2 h0 (aS 0) (aT 0) (aK 0) n0 V ++ (vs_W1 g aS S ++ (vs_W1 g aT T ++ (vs_W0 g aK K ++ wr)))) (fun v (_ : Unit) => post v)) (XC := fun A => vs_QX g A (vs_W2 h0 (aS 0) (aT 0) (aK 0) n0 V ++ (vs_W1 g aS S ++ (vs_W1 g aT T ++ (vs_W0 g aK K ++ wr)))) px) (by decide +kernel) (Nat.le_of_ble_eq_true rfl) (fun p e s m below meth c A ls hC hr hlk ht hW hX hl => ?_)
  have hC : CallFix p m c cX2_doesBear 2 s _ vs_ws RX2 := hC
  have hl : lv_has ls 2 [(0, .ref h0), (1, .int (vs_I x1))] := hl
  unfold wX2_doesBear at hw
  refine vs_iload_n hC hl 1 dX2_doesBear_0 rfl rfl ?_
  refine vs_xcallSV [.int (vs_I x1)] hC hW hX vk_X2_checkLosses vm_X2_186 (c_X2_checkLosses l hst g sd (vs_W2 h0 (aS 0) (aT 0) (aK 0) n0 V ++ (vs_W1 g aS S ++ (vs_W1 g aT T ++ (vs_W0 g aK K ++ wr)))) x1 _ _ hw) rfl hl.1 rfl ⟨rfl, rfl⟩ ⟨Nat.le_of_ble_eq_true rfl, Nat.le_of_ble_eq_true rfl⟩ ⟨Nat.le_of_ble_eq_true rfl, Nat.le_of_ble_eq_true rfl⟩ (Nat.le_of_ble_eq_true rfl) dX2_doesBear_1 (fun k ce q9 H locs hp hW hq hv hcl => vs_pass hlk ht hW hp hq hv hcl (Nat.le_of_ble_eq_true rfl) (Nat.le_of_ble_eq_true rfl)) (fun _ H locs hw hW => ?_)
  have hW : vs_Wd g A _ (vs_W2 h0 (aS 0) (aT 0) (aK 0) n0 V ++ (vs_W1 g aS S ++ (vs_W1 g aT T ++ (vs_W0 g aK K ++ wr)))) _ _ s := hW
  refine vs_aload_n hC hl 0 dX2_doesBear_4 rfl rfl ?_
  refine vs_get hC hW 0 rfl rfl vs_inX2 0 (by decide) vf_X2_12 rfl dX2_doesBear_5 ?_
  refine vs_iload_n hC hl 1 dX2_doesBear_8 rfl rfl ?_
  have hW : vs_Wd g A _ (vs_W1 g aS S ++ (vs_W2 h0 (aS 0) (aT 0) (aK 0) n0 V ++ (vs_W1 g aT T ++ (vs_W0 g aK K ++ wr)))) _ _ s := vs_Wd.perm hW vs_p2
  refine vs_callNI [.int (vs_I x1)] hC hW 0 rfl rfl vk_X1_bearsByCounting vo_X2_189 (c_X1_bearsByCounting l g aS (vs_W2 h0 (aS 0) (aT 0) (aK 0) n0 V ++ (vs_W1 g aT T ++ (vs_W0 g aK K ++ wr))) S x1 _ hw) rfl hl.1 rfl ⟨rfl, rfl⟩ ⟨Nat.le_of_ble_eq_true rfl, Nat.le_of_ble_eq_true rfl⟩ ⟨Nat.le_of_ble_eq_true rfl, Nat.le_of_ble_eq_true rfl⟩ (Nat.le_of_ble_eq_true rfl) dX2_doesBear_9 (fun r1 _ H locs hw hW => ?_)
  have hW : vs_Wd g A _ (vs_W1 g aS S ++ (vs_W2 h0 (aS 0) (aT 0) (aK 0) n0 V ++ (vs_W1 g aT T ++ (vs_W0 g aK K ++ wr)))) _ _ s := hW
  have hW : vs_Wd g A _ (vs_W2 h0 (aS 0) (aT 0) (aK 0) n0 V ++ (vs_W1 g aS S ++ (vs_W1 g aT T ++ (vs_W0 g aK K ++ wr)))) _ _ s := vs_Wd.perm hW (List.Perm.symm vs_p2)
  exact vx_ret (vs_zret () hC hr hlk hW rfl hw (Nat.le_of_ble_eq_true rfl) (Nat.le_of_ble_eq_true rfl) dX2_doesBear_12)
set_option maxHeartbeats 4000000 in
set_option maxRecDepth 100000 in
theorem c_X2_doesBearByTrying (l : Launch) (hst : l.stackTraces = false) (g : vs_G) (sd : Nat → Nat) (h0 n0 : Nat) (aS aT aK : Nat → Nat) (wr : va_W) (V S T K : vs_St) (x1 : Int) (post : Int → vs_St → Prop) (px : Nat → Prop) (hw : wX2_doesBearByTrying V S T K x1 post px) : vs_XI l yX2_doesBearByTrying (Cond.code yX2_doesBearByTrying cX2_doesBearByTrying 2 (some .boolean) :: vs_ws) { frames := 7, cells := 1, slots := 6, locals := 110 } g sd [.ref h0, .int (vs_I x1)] (vs_W2 h0 (aS 0) (aT 0) (aK 0) n0 V ++ (vs_W1 g aS S ++ (vs_W1 g aT T ++ (vs_W0 g aK K ++ wr)))) (fun (u : vs_St) => vs_W2 h0 (aS 0) (aT 0) (aK 0) n0 V ++ (vs_W1 g aS u ++ (vs_W1 g aT T ++ (vs_W0 g aK K ++ wr)))) post px 1 6 := by
  refine vs_ofX (Qc := fun A => vs_QI g A (fun (u : vs_St) => vs_W2 h0 (aS 0) (aT 0) (aK 0) n0 V ++ (vs_W1 g aS u ++ (vs_W1 g aT T ++ (vs_W0 g aK K ++ wr)))) post) (XC := fun A => vs_QX g A (vs_W2 h0 (aS 0) (aT 0) (aK 0) n0 V ++ (vs_W1 g aS S ++ (vs_W1 g aT T ++ (vs_W0 g aK K ++ wr)))) px) (by decide +kernel) (Nat.le_of_ble_eq_true rfl) (fun p e s m below meth c A ls hC hr hlk ht hW hX hl => ?_)
  have hC : CallFix p m c cX2_doesBearByTrying 2 s _ vs_ws RX2 := hC
  have hl : lv_has ls 2 [(0, .ref h0), (1, .int (vs_I x1))] := hl
  unfold wX2_doesBearByTrying at hw
  refine vs_iload_n hC hl 1 dX2_doesBearByTrying_0 rfl rfl ?_
  refine vs_xcallSV [.int (vs_I x1)] hC hW hX vk_X2_checkLosses vm_X2_186 (c_X2_checkLosses l hst g sd (vs_W2 h0 (aS 0) (aT 0) (aK 0) n0 V ++ (vs_W1 g aS S ++ (vs_W1 g aT T ++ (vs_W0 g aK K ++ wr)))) x1 _ _ hw) rfl hl.1 rfl ⟨rfl, rfl⟩ ⟨Nat.le_of_ble_eq_true rfl, Nat.le_of_ble_eq_true rfl⟩ ⟨Nat.le_of_ble_eq_true rfl, Nat.le_of_ble_eq_true rfl⟩ (Nat.le_of_ble_eq_true rfl) dX2_doesBearByTrying_1 (fun k ce q9 H locs hp hW hq hv hcl => vs_pass hlk ht hW hp hq hv hcl (Nat.le_of_ble_eq_true rfl) (Nat.le_of_ble_eq_true rfl)) (fun _ H locs hw hW => ?_)
  have hW : vs_Wd g A _ (vs_W2 h0 (aS 0) (aT 0) (aK 0) n0 V ++ (vs_W1 g aS S ++ (vs_W1 g aT T ++ (vs_W0 g aK K ++ wr)))) _ _ s := hW
  refine vs_aload_n hC hl 0 dX2_doesBearByTrying_4 rfl rfl ?_
  refine vs_get hC hW 0 rfl rfl vs_inX2 0 (by decide) vf_X2_12 rfl dX2_doesBearByTrying_5 ?_
  refine vs_iload_n hC hl 1 dX2_doesBearByTrying_8 rfl rfl ?_
  have hW : vs_Wd g A _ (vs_W1 g aS S ++ (vs_W2 h0 (aS 0) (aT 0) (aK 0) n0 V ++ (vs_W1 g aT T ++ (vs_W0 g aK K ++ wr)))) _ _ s := vs_Wd.perm hW vs_p2
  refine vs_callNI [.int (vs_I x1)] hC hW 0 rfl rfl vk_X1_bearsByTrying vo_X2_192 (c_X1_bearsByTrying l g aS (vs_W2 h0 (aS 0) (aT 0) (aK 0) n0 V ++ (vs_W1 g aT T ++ (vs_W0 g aK K ++ wr))) S x1 _ hw) rfl hl.1 rfl ⟨rfl, rfl⟩ ⟨Nat.le_of_ble_eq_true rfl, Nat.le_of_ble_eq_true rfl⟩ ⟨Nat.le_of_ble_eq_true rfl, Nat.le_of_ble_eq_true rfl⟩ (Nat.le_of_ble_eq_true rfl) dX2_doesBearByTrying_9 (fun r1 S2 H locs hw hW => ?_)
  have hW : vs_Wd g A _ (vs_W1 g aS S2 ++ (vs_W2 h0 (aS 0) (aT 0) (aK 0) n0 V ++ (vs_W1 g aT T ++ (vs_W0 g aK K ++ wr)))) _ _ s := hW
  have hW : vs_Wd g A _ (vs_W2 h0 (aS 0) (aT 0) (aK 0) n0 V ++ (vs_W1 g aS S2 ++ (vs_W1 g aT T ++ (vs_W0 g aK K ++ wr)))) _ _ s := vs_Wd.perm hW (List.Perm.symm vs_p2)
  exact vx_ret (vs_zret (S2) hC hr hlk hW rfl hw (Nat.le_of_ble_eq_true rfl) (Nat.le_of_ble_eq_true rfl) dX2_doesBearByTrying_12)
set_option maxHeartbeats 4000000 in
set_option maxRecDepth 100000 in
theorem c_X2_checkNotFailed (l : Launch) (hst : l.stackTraces = false) (g : vs_G) (sd : Nat → Nat) (h0 n0 : Nat) (aS aT aK : Nat → Nat) (wr : va_W) (V S T K : vs_St) (x1 : Int) (post : Prop) (px : Nat → Prop) (hw : wX2_checkNotFailed V S T K x1 post px) : vs_XV l yX2_checkNotFailed (Cond.code yX2_checkNotFailed cX2_checkNotFailed 2 (none) :: vs_ws) { frames := 6, cells := 1, slots := 6, locals := 90 } g sd [.ref h0, .int (vs_I x1)] (vs_W2 h0 (aS 0) (aT 0) (aK 0) n0 V ++ (vs_W1 g aS S ++ (vs_W1 g aT T ++ (vs_W0 g aK K ++ wr)))) (fun (_ : Unit) => vs_W2 h0 (aS 0) (aT 0) (aK 0) n0 V ++ (vs_W1 g aS S ++ (vs_W1 g aT T ++ (vs_W0 g aK K ++ wr)))) (fun (_ : Unit) => post) px 1 6 := by
  refine vs_ofX (Qc := fun A => vs_QV g A (fun (_ : Unit) => vs_W2 h0 (aS 0) (aT 0) (aK 0) n0 V ++ (vs_W1 g aS S ++ (vs_W1 g aT T ++ (vs_W0 g aK K ++ wr)))) (fun (_ : Unit) => post)) (XC := fun A => vs_QX g A (vs_W2 h0 (aS 0) (aT 0) (aK 0) n0 V ++ (vs_W1 g aS S ++ (vs_W1 g aT T ++ (vs_W0 g aK K ++ wr)))) px) (by decide +kernel) (Nat.le_of_ble_eq_true rfl) (fun p e s m below meth c A ls hC hr hlk ht hW hX hl => ?_)
  have hC : CallFix p m c cX2_checkNotFailed 2 s _ vs_ws RX2 := hC
  have hl : lv_has ls 2 [(0, .ref h0), (1, .int (vs_I x1))] := hl
  unfold wX2_checkNotFailed at hw
  refine vs_aload_n hC hl 0 dX2_checkNotFailed_0 rfl rfl ?_
  refine vs_get hC hW 0 rfl rfl vs_inX2 0 (by decide) vf_X2_12 rfl dX2_checkNotFailed_1 ?_
  refine vs_getN hC hW 1 rfl rfl vs_inX1 3 (by decide) vn_X2_60 rfl dX2_checkNotFailed_4 ?_
  refine vs_iload_n hC hl 1 dX2_checkNotFailed_7 rfl rfl ?_
  obtain ⟨hi, hw⟩ := hw
  refine vs_cald hC hW 4 rfl (by decide) hi dX2_checkNotFailed_8 ?_
  refine vs_bipush hC dX2_checkNotFailed_9 (by decide +kernel) ?_
  obtain ⟨hx, hw⟩ := hw
  obtain ⟨hwt, hwf⟩ := hw
  refine vs_icmp_ne hC 25 hx ⟨by decide, by decide⟩ dX2_checkNotFailed_11 (by decide) (fun hc => ?_) (fun hc => ?_)
  · have hw := hwt hc
    clear hwt hwf hc
    exact vx_ret (vs_vret () hC hr hlk hW rfl hw (Nat.le_of_ble_eq_true rfl) (Nat.le_of_ble_eq_true rfl) dX2_checkNotFailed_25)
  · have hw := hwf hc
    clear hwt hwf hc
    exact vs_throwW 2 20 hC hst hlk ht hW hX vs_ex2 rfl hl.1 hw dX2_checkNotFailed_14 dX2_checkNotFailed_17 dX2_checkNotFailed_18 dX2_checkNotFailed_21 dX2_checkNotFailed_24 (Nat.le_of_ble_eq_true rfl) (Nat.le_of_ble_eq_true rfl) (Nat.le_of_ble_eq_true rfl) (Nat.le_of_ble_eq_true rfl) (Nat.le_of_ble_eq_true rfl) (Nat.le_of_ble_eq_true rfl)
set_option maxHeartbeats 4000000 in
set_option maxRecDepth 100000 in
theorem c_X2_fail (l : Launch) (hst : l.stackTraces = false) (g : vs_G) (sd : Nat → Nat) (h0 n0 : Nat) (aS aT aK : Nat → Nat) (wr : va_W) (V S T K : vs_St) (x1 : Int) (post : Int → vs_St → Prop) (px : Nat → Prop) (hw : wX2_fail V S T K x1 post px) : vs_XI l yX2_fail (Cond.code yX2_fail cX2_fail 2 (some .int) :: vs_ws) { frames := 7, cells := 2, slots := 12, locals := 111 } g sd [.ref h0, .int (vs_I x1)] (vs_W2 h0 (aS 0) (aT 0) (aK 0) n0 V ++ (vs_W1 g aS S ++ (vs_W1 g aT T ++ (vs_W0 g aK K ++ wr)))) (fun (u : vs_St) => vs_W2 h0 (aS 0) (aT 0) (aK 0) n0 V ++ (vs_W1 g aS u ++ (vs_W1 g aT T ++ (vs_W0 g aK K ++ wr)))) post px 2 12 := by
  refine vs_ofX (Qc := fun A => vs_QI g A (fun (u : vs_St) => vs_W2 h0 (aS 0) (aT 0) (aK 0) n0 V ++ (vs_W1 g aS u ++ (vs_W1 g aT T ++ (vs_W0 g aK K ++ wr)))) post) (XC := fun A => vs_QX g A (vs_W2 h0 (aS 0) (aT 0) (aK 0) n0 V ++ (vs_W1 g aS S ++ (vs_W1 g aT T ++ (vs_W0 g aK K ++ wr)))) px) (by decide +kernel) (Nat.le_of_ble_eq_true rfl) (fun p e s m below meth c A ls hC hr hlk ht hW hX hl => ?_)
  have hC : CallFix p m c cX2_fail 2 s _ vs_ws RX2 := hC
  have hl : lv_has ls 2 [(0, .ref h0), (1, .int (vs_I x1))] := hl
  unfold wX2_fail at hw
  refine vs_aload_n hC hl 0 dX2_fail_0 rfl rfl ?_
  refine vs_iload_n hC hl 1 dX2_fail_1 rfl rfl ?_
  refine vs_xcallVV [.int (vs_I x1)] hC hW hX 0 rfl rfl vk_X2_checkDisk vm_X2_56 (c_X2_checkDisk l hst g sd h0 n0 aS aT aK (wr) V S T K x1 _ _ hw) rfl hl.1 rfl ⟨rfl, rfl⟩ ⟨Nat.le_of_ble_eq_true rfl, Nat.le_of_ble_eq_true rfl⟩ ⟨Nat.le_of_ble_eq_true rfl, Nat.le_of_ble_eq_true rfl⟩ (Nat.le_of_ble_eq_true rfl) dX2_fail_2 (fun k ce q9 H locs hp hW hq hv hcl => vs_pass hlk ht hW hp hq hv hcl (Nat.le_of_ble_eq_true rfl) (Nat.le_of_ble_eq_true rfl)) (fun _ H locs hw hW => ?_)
  have hW : vs_Wd g A _ (vs_W2 h0 (aS 0) (aT 0) (aK 0) n0 V ++ (vs_W1 g aS S ++ (vs_W1 g aT T ++ (vs_W0 g aK K ++ wr)))) _ _ s := hW
  refine vs_aload_n hC hl 0 dX2_fail_5 rfl rfl ?_
  refine vs_iload_n hC hl 1 dX2_fail_6 rfl rfl ?_
  refine vs_xcallVV [.int (vs_I x1)] hC hW hX 0 rfl rfl vk_X2_checkNotFailed vm_X2_195 (c_X2_checkNotFailed l hst g sd h0 n0 aS aT aK (wr) V S T K x1 _ _ hw) rfl hl.1 rfl ⟨rfl, rfl⟩ ⟨Nat.le_of_ble_eq_true rfl, Nat.le_of_ble_eq_true rfl⟩ ⟨Nat.le_of_ble_eq_true rfl, Nat.le_of_ble_eq_true rfl⟩ (Nat.le_of_ble_eq_true rfl) dX2_fail_7 (fun k ce q9 H locs hp hW hq hv hcl => vs_pass hlk ht hW hp hq hv hcl (Nat.le_of_ble_eq_true rfl) (Nat.le_of_ble_eq_true rfl)) (fun _ H locs hw hW => ?_)
  have hW : vs_Wd g A _ (vs_W2 h0 (aS 0) (aT 0) (aK 0) n0 V ++ (vs_W1 g aS S ++ (vs_W1 g aT T ++ (vs_W0 g aK K ++ wr)))) _ _ s := hW
  refine vs_aload_n hC hl 0 dX2_fail_10 rfl rfl ?_
  refine vs_get hC hW 0 rfl rfl vs_inX2 0 (by decide) vf_X2_12 rfl dX2_fail_11 ?_
  refine vs_iload_n hC hl 1 dX2_fail_14 rfl rfl ?_
  have hW : vs_Wd g A _ (vs_W1 g aS S ++ (vs_W2 h0 (aS 0) (aT 0) (aK 0) n0 V ++ (vs_W1 g aT T ++ (vs_W0 g aK K ++ wr)))) _ _ s := vs_Wd.perm hW vs_p2
  refine vs_callNI [.int (vs_I x1)] hC hW 0 rfl rfl vk_X1_breakDisk vo_X2_198 (c_X1_breakDisk l g aS (vs_W2 h0 (aS 0) (aT 0) (aK 0) n0 V ++ (vs_W1 g aT T ++ (vs_W0 g aK K ++ wr))) S x1 _ hw) rfl hl.1 rfl ⟨rfl, rfl⟩ ⟨Nat.le_of_ble_eq_true rfl, Nat.le_of_ble_eq_true rfl⟩ ⟨Nat.le_of_ble_eq_true rfl, Nat.le_of_ble_eq_true rfl⟩ (Nat.le_of_ble_eq_true rfl) dX2_fail_15 (fun r1 S2 H locs hw hW => ?_)
  have hW : vs_Wd g A _ (vs_W1 g aS S2 ++ (vs_W2 h0 (aS 0) (aT 0) (aK 0) n0 V ++ (vs_W1 g aT T ++ (vs_W0 g aK K ++ wr)))) _ _ s := hW
  have hW : vs_Wd g A _ (vs_W2 h0 (aS 0) (aT 0) (aK 0) n0 V ++ (vs_W1 g aS S2 ++ (vs_W1 g aT T ++ (vs_W0 g aK K ++ wr)))) _ _ s := vs_Wd.perm hW (List.Perm.symm vs_p2)
  exact vx_ret (vs_iret (S2) hC hr hlk hW rfl hw (Nat.le_of_ble_eq_true rfl) (Nat.le_of_ble_eq_true rfl) dX2_fail_18)
set_option maxHeartbeats 4000000 in
set_option maxRecDepth 100000 in
theorem c_X2_replace (l : Launch) (hst : l.stackTraces = false) (g : vs_G) (sd : Nat → Nat) (h0 n0 : Nat) (aS aT aK : Nat → Nat) (wr : va_W) (V S T K : vs_St) (x1 : Int) (post : Int → vs_St → Prop) (px : Nat → Prop) (hw : wX2_replace V S T K x1 post px) : vs_XI l yX2_replace (Cond.code yX2_replace cX2_replace 2 (some .int) :: vs_ws) { frames := 7, cells := 2, slots := 12, locals := 111 } g sd [.ref h0, .int (vs_I x1)] (vs_W2 h0 (aS 0) (aT 0) (aK 0) n0 V ++ (vs_W1 g aS S ++ (vs_W1 g aT T ++ (vs_W0 g aK K ++ wr)))) (fun (u : vs_St) => vs_W2 h0 (aS 0) (aT 0) (aK 0) n0 V ++ (vs_W1 g aS u ++ (vs_W1 g aT T ++ (vs_W0 g aK K ++ wr)))) post px 2 12 := by
  refine vs_ofX (Qc := fun A => vs_QI g A (fun (u : vs_St) => vs_W2 h0 (aS 0) (aT 0) (aK 0) n0 V ++ (vs_W1 g aS u ++ (vs_W1 g aT T ++ (vs_W0 g aK K ++ wr)))) post) (XC := fun A => vs_QX g A (vs_W2 h0 (aS 0) (aT 0) (aK 0) n0 V ++ (vs_W1 g aS S ++ (vs_W1 g aT T ++ (vs_W0 g aK K ++ wr)))) px) (by decide +kernel) (Nat.le_of_ble_eq_true rfl) (fun p e s m below meth c A ls hC hr hlk ht hW hX hl => ?_)
  have hC : CallFix p m c cX2_replace 2 s _ vs_ws RX2 := hC
  have hl : lv_has ls 2 [(0, .ref h0), (1, .int (vs_I x1))] := hl
  unfold wX2_replace at hw
  refine vs_aload_n hC hl 0 dX2_replace_0 rfl rfl ?_
  refine vs_iload_n hC hl 1 dX2_replace_1 rfl rfl ?_
  refine vs_xcallVV [.int (vs_I x1)] hC hW hX 0 rfl rfl vk_X2_checkDisk vm_X2_56 (c_X2_checkDisk l hst g sd h0 n0 aS aT aK (wr) V S T K x1 _ _ hw) rfl hl.1 rfl ⟨rfl, rfl⟩ ⟨Nat.le_of_ble_eq_true rfl, Nat.le_of_ble_eq_true rfl⟩ ⟨Nat.le_of_ble_eq_true rfl, Nat.le_of_ble_eq_true rfl⟩ (Nat.le_of_ble_eq_true rfl) dX2_replace_2 (fun k ce q9 H locs hp hW hq hv hcl => vs_pass hlk ht hW hp hq hv hcl (Nat.le_of_ble_eq_true rfl) (Nat.le_of_ble_eq_true rfl)) (fun _ H locs hw hW => ?_)
  have hW : vs_Wd g A _ (vs_W2 h0 (aS 0) (aT 0) (aK 0) n0 V ++ (vs_W1 g aS S ++ (vs_W1 g aT T ++ (vs_W0 g aK K ++ wr)))) _ _ s := hW
  refine vs_aload_n hC hl 0 dX2_replace_5 rfl rfl ?_
  refine vs_get hC hW 0 rfl rfl vs_inX2 0 (by decide) vf_X2_12 rfl dX2_replace_6 ?_
  refine vs_getN hC hW 1 rfl rfl vs_inX1 3 (by decide) vn_X2_60 rfl dX2_replace_9 ?_
  refine vs_iload_n hC hl 1 dX2_replace_12 rfl rfl ?_
  obtain ⟨hi, hw⟩ := hw
  refine vs_cald hC hW 4 rfl (by decide) hi dX2_replace_13 ?_
  refine vs_bipush hC dX2_replace_14 (by decide +kernel) ?_
  obtain ⟨hx, hw⟩ := hw
  obtain ⟨hwt, hwf⟩ := hw
  refine vs_icmp_eq hC 29 hx ⟨by decide, by decide⟩ dX2_replace_16 (by decide) (fun hc => ?_) (fun hc => ?_)
  · have hw := hwt hc
    clear hwt hwf hc
    refine vs_aload_n hC hl 0 dX2_replace_29 rfl rfl ?_
    refine vs_get hC hW 0 rfl rfl vs_inX2 0 (by decide) vf_X2_12 rfl dX2_replace_30 ?_
    refine vs_getN hC hW 1 rfl rfl vs_inX1 3 (by decide) vn_X2_60 rfl dX2_replace_33 ?_
    refine vs_iload_n hC hl 1 dX2_replace_36 rfl rfl ?_
    refine vs_bipush hC dX2_replace_37 (by decide +kernel) ?_
    obtain ⟨hi, hw⟩ := hw
    obtain ⟨S1, hS1⟩ : ∃ z : vs_St, z = vs_st S 3 x1 115 := ⟨_, rfl⟩
    have hw := hw S1 hS1
    refine vs_cast (Wo' := vs_W2 h0 (aS 0) (aT 0) (aK 0) n0 V ++ (vs_W1 g aS S1 ++ (vs_W1 g aT T ++ (vs_W0 g aK K ++ wr)))) hC hW 4 rfl (by decide) hi (by decide) (by rw [hS1]; rfl) dX2_replace_39 (fun H locs hW => ?_)
    refine vs_aload_n hC hl 0 dX2_replace_40 rfl rfl ?_
    refine vs_get hC hW 0 rfl rfl vs_inX2 0 (by decide) vf_X2_12 rfl dX2_replace_41 ?_
    refine vs_bipush hC dX2_replace_44 (by decide +kernel) ?_
    have hW : vs_Wd g A _ (vs_W1 g aS S1 ++ (vs_W2 h0 (aS 0) (aT 0) (aK 0) n0 V ++ (vs_W1 g aT T ++ (vs_W0 g aK K ++ wr)))) _ _ s := vs_Wd.perm hW vs_p2
    refine vs_callNI [.int (vs_I 115)] hC hW 0 rfl rfl vk_X1_disksInState vo_X2_203 (c_X1_disksInState l g aS (vs_W2 h0 (aS 0) (aT 0) (aK 0) n0 V ++ (vs_W1 g aT T ++ (vs_W0 g aK K ++ wr))) S1 115 _ hw) rfl hl.1 rfl ⟨rfl, rfl⟩ ⟨Nat.le_of_ble_eq_true rfl, Nat.le_of_ble_eq_true rfl⟩ ⟨Nat.le_of_ble_eq_true rfl, Nat.le_of_ble_eq_true rfl⟩ (Nat.le_of_ble_eq_true rfl) dX2_replace_46 (fun r2 _ H locs hw hW => ?_)
    have hW : vs_Wd g A _ (vs_W1 g aS S1 ++ (vs_W2 h0 (aS 0) (aT 0) (aK 0) n0 V ++ (vs_W1 g aT T ++ (vs_W0 g aK K ++ wr)))) _ _ s := hW
    have hW : vs_Wd g A _ (vs_W2 h0 (aS 0) (aT 0) (aK 0) n0 V ++ (vs_W1 g aS S1 ++ (vs_W1 g aT T ++ (vs_W0 g aK K ++ wr)))) _ _ s := vs_Wd.perm hW (List.Perm.symm vs_p2)
    refine vs_callSI [.int (vs_I r2)] hC hW vk_J6_bitCount_0f7a4 vm_X2_207 (c_J6_bitCount_0f7a4 l g (vs_W2 h0 (aS 0) (aT 0) (aK 0) n0 V ++ (vs_W1 g aS S1 ++ (vs_W1 g aT T ++ (vs_W0 g aK K ++ wr)))) r2 _ hw) rfl hl.1 rfl ⟨rfl, rfl⟩ ⟨Nat.le_of_ble_eq_true rfl, Nat.le_of_ble_eq_true rfl⟩ ⟨Nat.le_of_ble_eq_true rfl, Nat.le_of_ble_eq_true rfl⟩ (Nat.le_of_ble_eq_true rfl) dX2_replace_49 (fun r3 _ H locs hw hW => ?_)
    have hW : vs_Wd g A _ (vs_W2 h0 (aS 0) (aT 0) (aK 0) n0 V ++ (vs_W1 g aS S1 ++ (vs_W1 g aT T ++ (vs_W0 g aK K ++ wr)))) _ _ s := hW
    exact vx_ret (vs_iret (S1) hC hr hlk hW rfl hw (Nat.le_of_ble_eq_true rfl) (Nat.le_of_ble_eq_true rfl) dX2_replace_52)
  · have hw := hwf hc
    clear hwt hwf hc
    exact vs_throw 2 12 hC hst hlk ht hW hX vs_ex2 rfl hl.1 hw dX2_replace_19 dX2_replace_22 dX2_replace_23 dX2_replace_25 dX2_replace_28 (Nat.le_of_ble_eq_true rfl) (Nat.le_of_ble_eq_true rfl) (Nat.le_of_ble_eq_true rfl) (Nat.le_of_ble_eq_true rfl) (Nat.le_of_ble_eq_true rfl) (Nat.le_of_ble_eq_true rfl)
set_option maxHeartbeats 4000000 in
set_option maxRecDepth 100000 in
theorem c_X2_warn (l : Launch) (hst : l.stackTraces = false) (g : vs_G) (sd : Nat → Nat) (h0 n0 : Nat) (aS aT aK : Nat → Nat) (wr : va_W) (V S T K : vs_St) (x1 : Int) (post : Int → vs_St → Prop) (px : Nat → Prop) (hw : wX2_warn V S T K x1 post px) : vs_XI l yX2_warn (Cond.code yX2_warn cX2_warn 2 (some .int) :: vs_ws) { frames := 7, cells := 2, slots := 12, locals := 111 } g sd [.ref h0, .int (vs_I x1)] (vs_W2 h0 (aS 0) (aT 0) (aK 0) n0 V ++ (vs_W1 g aS S ++ (vs_W1 g aT T ++ (vs_W0 g aK K ++ wr)))) (fun (u : vs_St) => vs_W2 h0 (aS 0) (aT 0) (aK 0) n0 V ++ (vs_W1 g aS u ++ (vs_W1 g aT T ++ (vs_W0 g aK K ++ wr)))) post px 2 12 := by
  refine vs_ofX (Qc := fun A => vs_QI g A (fun (u : vs_St) => vs_W2 h0 (aS 0) (aT 0) (aK 0) n0 V ++ (vs_W1 g aS u ++ (vs_W1 g aT T ++ (vs_W0 g aK K ++ wr)))) post) (XC := fun A => vs_QX g A (vs_W2 h0 (aS 0) (aT 0) (aK 0) n0 V ++ (vs_W1 g aS S ++ (vs_W1 g aT T ++ (vs_W0 g aK K ++ wr)))) px) (by decide +kernel) (Nat.le_of_ble_eq_true rfl) (fun p e s m below meth c A ls hC hr hlk ht hW hX hl => ?_)
  have hC : CallFix p m c cX2_warn 2 s _ vs_ws RX2 := hC
  have hl : lv_has ls 2 [(0, .ref h0), (1, .int (vs_I x1))] := hl
  unfold wX2_warn at hw
  refine vs_aload_n hC hl 0 dX2_warn_0 rfl rfl ?_
  refine vs_iload_n hC hl 1 dX2_warn_1 rfl rfl ?_
  refine vs_xcallVV [.int (vs_I x1)] hC hW hX 0 rfl rfl vk_X2_checkDisk vm_X2_56 (c_X2_checkDisk l hst g sd h0 n0 aS aT aK (wr) V S T K x1 _ _ hw) rfl hl.1 rfl ⟨rfl, rfl⟩ ⟨Nat.le_of_ble_eq_true rfl, Nat.le_of_ble_eq_true rfl⟩ ⟨Nat.le_of_ble_eq_true rfl, Nat.le_of_ble_eq_true rfl⟩ (Nat.le_of_ble_eq_true rfl) dX2_warn_2 (fun k ce q9 H locs hp hW hq hv hcl => vs_pass hlk ht hW hp hq hv hcl (Nat.le_of_ble_eq_true rfl) (Nat.le_of_ble_eq_true rfl)) (fun _ H locs hw hW => ?_)
  have hW : vs_Wd g A _ (vs_W2 h0 (aS 0) (aT 0) (aK 0) n0 V ++ (vs_W1 g aS S ++ (vs_W1 g aT T ++ (vs_W0 g aK K ++ wr)))) _ _ s := hW
  refine vs_aload_n hC hl 0 dX2_warn_5 rfl rfl ?_
  refine vs_get hC hW 0 rfl rfl vs_inX2 0 (by decide) vf_X2_12 rfl dX2_warn_6 ?_
  refine vs_getN hC hW 1 rfl rfl vs_inX1 3 (by decide) vn_X2_60 rfl dX2_warn_9 ?_
  refine vs_iload_n hC hl 1 dX2_warn_12 rfl rfl ?_
  obtain ⟨hi, hw⟩ := hw
  refine vs_cald hC hW 4 rfl (by decide) hi dX2_warn_13 ?_
  refine vs_bipush hC dX2_warn_14 (by decide +kernel) ?_
  obtain ⟨hx, hw⟩ := hw
  obtain ⟨hwt, hwf⟩ := hw
  refine vs_icmp_eq hC 29 hx ⟨by decide, by decide⟩ dX2_warn_16 (by decide) (fun hc => ?_) (fun hc => ?_)
  · have hw := hwt hc
    clear hwt hwf hc
    refine vs_aload_n hC hl 0 dX2_warn_29 rfl rfl ?_
    refine vs_get hC hW 0 rfl rfl vs_inX2 0 (by decide) vf_X2_12 rfl dX2_warn_30 ?_
    refine vs_getN hC hW 1 rfl rfl vs_inX1 3 (by decide) vn_X2_60 rfl dX2_warn_33 ?_
    refine vs_iload_n hC hl 1 dX2_warn_36 rfl rfl ?_
    refine vs_bipush hC dX2_warn_37 (by decide +kernel) ?_
    obtain ⟨hi, hw⟩ := hw
    obtain ⟨S1, hS1⟩ : ∃ z : vs_St, z = vs_st S 3 x1 119 := ⟨_, rfl⟩
    have hw := hw S1 hS1
    refine vs_cast (Wo' := vs_W2 h0 (aS 0) (aT 0) (aK 0) n0 V ++ (vs_W1 g aS S1 ++ (vs_W1 g aT T ++ (vs_W0 g aK K ++ wr)))) hC hW 4 rfl (by decide) hi (by decide) (by rw [hS1]; rfl) dX2_warn_39 (fun H locs hW => ?_)
    refine vs_aload_n hC hl 0 dX2_warn_40 rfl rfl ?_
    refine vs_get hC hW 0 rfl rfl vs_inX2 0 (by decide) vf_X2_12 rfl dX2_warn_41 ?_
    refine vs_getN hC hW 1 rfl rfl vs_inX1 2 (by decide) vn_X2_64 rfl dX2_warn_44 ?_
    refine vs_iload_n hC hl 1 dX2_warn_47 rfl rfl ?_
    obtain ⟨hi, hw⟩ := hw
    refine vs_iald hC hW 3 rfl (by decide) hi dX2_warn_48 ?_
    exact vx_ret (vs_iret (S1) hC hr hlk hW rfl hw (Nat.le_of_ble_eq_true rfl) (Nat.le_of_ble_eq_true rfl) dX2_warn_49)
  · have hw := hwf hc
    clear hwt hwf hc
    exact vs_throw 2 13 hC hst hlk ht hW hX vs_ex2 rfl hl.1 hw dX2_warn_19 dX2_warn_22 dX2_warn_23 dX2_warn_25 dX2_warn_28 (Nat.le_of_ble_eq_true rfl) (Nat.le_of_ble_eq_true rfl) (Nat.le_of_ble_eq_true rfl) (Nat.le_of_ble_eq_true rfl) (Nat.le_of_ble_eq_true rfl) (Nat.le_of_ble_eq_true rfl)
set_option maxHeartbeats 4000000 in
set_option maxRecDepth 100000 in
theorem c_X2_rot (l : Launch) (hst : l.stackTraces = false) (g : vs_G) (sd : Nat → Nat) (h0 n0 : Nat) (aS aT aK : Nat → Nat) (wr : va_W) (V S T K : vs_St) (x1 : Int) (x2 : Int) (post : Int → vs_St → Prop) (px : Nat → Prop) (hw : wX2_rot V S T K x1 x2 post px) : vs_XI l yX2_rot (Cond.code yX2_rot cX2_rot 5 (some .boolean) :: vs_ws) { frames := 7, cells := 2, slots := 12, locals := 111 } g sd [.ref h0, .int (vs_I x1), .int (vs_I x2)] (vs_W2 h0 (aS 0) (aT 0) (aK 0) n0 V ++ (vs_W1 g aS S ++ (vs_W1 g aT T ++ (vs_W0 g aK K ++ wr)))) (fun (u : vs_St) => vs_W2 h0 (aS 0) (aT 0) (aK 0) n0 V ++ (vs_W1 g aS u ++ (vs_W1 g aT T ++ (vs_W0 g aK K ++ wr)))) post px 2 12 := by
  refine vs_ofX (Qc := fun A => vs_QI g A (fun (u : vs_St) => vs_W2 h0 (aS 0) (aT 0) (aK 0) n0 V ++ (vs_W1 g aS u ++ (vs_W1 g aT T ++ (vs_W0 g aK K ++ wr)))) post) (XC := fun A => vs_QX g A (vs_W2 h0 (aS 0) (aT 0) (aK 0) n0 V ++ (vs_W1 g aS S ++ (vs_W1 g aT T ++ (vs_W0 g aK K ++ wr)))) px) (by decide +kernel) (Nat.le_of_ble_eq_true rfl) (fun p e s m below meth c A ls hC hr hlk ht hW hX hl => ?_)
  have hC : CallFix p m c cX2_rot 5 s _ vs_ws RX2 := hC
  have hl : lv_has ls 5 [(0, .ref h0), (1, .int (vs_I x1)), (2, .int (vs_I x2))] := hl
  unfold wX2_rot at hw
  refine vs_aload_n hC hl 0 dX2_rot_0 rfl rfl ?_
  refine vs_iload_n hC hl 1 dX2_rot_1 rfl rfl ?_
  refine vs_xcallVV [.int (vs_I x1)] hC hW hX 0 rfl rfl vk_X2_checkDisk vm_X2_56 (c_X2_checkDisk l hst g sd h0 n0 aS aT aK (wr) V S T K x1 _ _ hw) rfl hl.1 rfl ⟨rfl, rfl⟩ ⟨Nat.le_of_ble_eq_true rfl, Nat.le_of_ble_eq_true rfl⟩ ⟨Nat.le_of_ble_eq_true rfl, Nat.le_of_ble_eq_true rfl⟩ (Nat.le_of_ble_eq_true rfl) dX2_rot_2 (fun k ce q9 H locs hp hW hq hv hcl => vs_pass hlk ht hW hp hq hv hcl (Nat.le_of_ble_eq_true rfl) (Nat.le_of_ble_eq_true rfl)) (fun _ H locs hw hW => ?_)
  have hW : vs_Wd g A _ (vs_W2 h0 (aS 0) (aT 0) (aK 0) n0 V ++ (vs_W1 g aS S ++ (vs_W1 g aT T ++ (vs_W0 g aK K ++ wr)))) _ _ s := hW
  refine vs_iload_n hC hl 2 dX2_rot_5 rfl rfl ?_
  obtain ⟨hx, hw⟩ := hw
  obtain ⟨hwt, hwf⟩ := hw
  refine vs_if_lt hC 22 hx dX2_rot_6 (by decide) (fun hc => ?_) (fun hc => ?_)
  · have hw := hwt hc
    clear hwt hwf hc
    exact vs_throw 3 14 hC hst hlk ht hW hX vs_ex3 rfl hl.1 hw dX2_rot_22 dX2_rot_25 dX2_rot_26 dX2_rot_28 dX2_rot_31 (Nat.le_of_ble_eq_true rfl) (Nat.le_of_ble_eq_true rfl) (Nat.le_of_ble_eq_true rfl) (Nat.le_of_ble_eq_true rfl) (Nat.le_of_ble_eq_true rfl) (Nat.le_of_ble_eq_true rfl)
  · have hw := hwf hc
    clear hwt hwf hc
    refine vs_iload_n hC hl 2 dX2_rot_9 rfl rfl ?_
    refine vs_aload_n hC hl 0 dX2_rot_10 rfl rfl ?_
    refine vs_get hC hW 0 rfl rfl vs_inX2 0 (by decide) vf_X2_12 rfl dX2_rot_11 ?_
    refine vs_getN hC hW 1 rfl rfl vs_inX1 1 (by decide) vn_X2_214 rfl dX2_rot_14 ?_
    refine vs_iload_n hC hl 1 dX2_rot_17 rfl rfl ?_
    obtain ⟨hi, hw⟩ := hw
    refine vs_iald hC hW 2 rfl (by decide) hi dX2_rot_18 ?_
    obtain ⟨hx, hw⟩ := hw
    obtain ⟨hy, hw⟩ := hw
    obtain ⟨hwt, hwf⟩ := hw
    refine vs_icmp_lt hC 32 hx hy dX2_rot_19 (by decide) (fun hc => ?_) (fun hc => ?_)
    · have hw := hwt hc
      clear hwt hwf hc
      refine vs_iload_n hC hl 1 dX2_rot_32 rfl rfl ?_
      refine vs_bipush hC dX2_rot_33 (by decide +kernel) ?_
      refine vs_imul hC dX2_rot_35 ?_
      refine vs_iload_n hC hl 2 dX2_rot_36 rfl rfl ?_
      refine vs_iadd hC dX2_rot_37 ?_
      refine vs_name (fun v1 hv1 => ?_)
      have hw := hw v1 hv1
      refine vs_istore_n (L' := [(0, .ref h0), (1, .int (vs_I x1)), (2, .int (vs_I x2)), (3, .int (vs_I v1))]) hC hl [1, 2, 3, 0] dX2_rot_38 rfl (by decide) rfl (fun ls hl => ?_)
      refine vs_aload_n hC hl 0 dX2_rot_39 rfl rfl ?_
      refine vs_get hC hW 0 rfl rfl vs_inX2 0 (by decide) vf_X2_12 rfl dX2_rot_40 ?_
      refine vs_getN hC hW 1 rfl rfl vs_inX1 4 (by decide) vn_X2_222 rfl dX2_rot_43 ?_
      refine vs_iload_n hC hl 3 dX2_rot_46 rfl rfl ?_
      obtain ⟨hi, hw⟩ := hw
      refine vs_iald hC hW 5 rfl (by decide) hi dX2_rot_47 ?_
      refine vs_iconst hC dX2_rot_48 ?_
      obtain ⟨hx, hw⟩ := hw
      obtain ⟨hwt, hwf⟩ := hw
      refine vs_icmp_ne hC 62 hx ⟨by decide, by decide⟩ dX2_rot_49 (by decide) (fun hc => ?_) (fun hc => ?_)
      · have hw := hwt hc
        clear hwt hwf hc
        refine vs_aload_n hC hl 0 dX2_rot_62 rfl rfl ?_
        refine vs_get hC hW 0 rfl rfl vs_inX2 0 (by decide) vf_X2_12 rfl dX2_rot_63 ?_
        refine vs_getN hC hW 1 rfl rfl vs_inX1 5 (by decide) vn_X2_227 rfl dX2_rot_66 ?_
        refine vs_iload_n hC hl 3 dX2_rot_69 rfl rfl ?_
        obtain ⟨hi, hw⟩ := hw
        refine vs_zald hC hW 6 rfl (by decide) hi dX2_rot_70 ?_
        refine vs_name (fun v2 hv2 => ?_)
        have hw := hw v2 hv2
        refine vs_istore (L' := [(0, .ref h0), (1, .int (vs_I x1)), (2, .int (vs_I x2)), (3, .int (vs_I v1)), (4, .int (vs_I v2))]) hC hl [1, 2, 3, 4, 0] dX2_rot_71 (by decide) rfl (fun ls hl => ?_)
        refine vs_aload_n hC hl 0 dX2_rot_73 rfl rfl ?_
        refine vs_get hC hW 0 rfl rfl vs_inX2 0 (by decide) vf_X2_12 rfl dX2_rot_74 ?_
        refine vs_getN hC hW 1 rfl rfl vs_inX1 5 (by decide) vn_X2_227 rfl dX2_rot_77 ?_
        refine vs_iload_n hC hl 3 dX2_rot_80 rfl rfl ?_
        refine vs_iconst hC dX2_rot_81 ?_
        obtain ⟨hi, hw⟩ := hw
        obtain ⟨S3, hS3⟩ : ∃ z : vs_St, z = vs_st S 5 v1 1 := ⟨_, rfl⟩
        have hw := hw S3 hS3
        refine vs_zast (Wo' := vs_W2 h0 (aS 0) (aT 0) (aK 0) n0 V ++ (vs_W1 g aS S3 ++ (vs_W1 g aT T ++ (vs_W0 g aK K ++ wr)))) hC hW 6 rfl (by decide) hi (by decide) (by rw [hS3]; rfl) dX2_rot_82 (fun H locs hW => ?_)
        refine vs_iload hC hl 4 dX2_rot_83 rfl ?_
        exact vx_ret (vs_zret (S3) hC hr hlk hW rfl hw (Nat.le_of_ble_eq_true rfl) (Nat.le_of_ble_eq_true rfl) dX2_rot_85)
      · have hw := hwf hc
        clear hwt hwf hc
        exact vs_throw 4 15 hC hst hlk ht hW hX vs_ex4 rfl hl.1 hw dX2_rot_52 dX2_rot_55 dX2_rot_56 dX2_rot_58 dX2_rot_61 (Nat.le_of_ble_eq_true rfl) (Nat.le_of_ble_eq_true rfl) (Nat.le_of_ble_eq_true rfl) (Nat.le_of_ble_eq_true rfl) (Nat.le_of_ble_eq_true rfl) (Nat.le_of_ble_eq_true rfl)
    · have hw := hwf hc
      clear hwt hwf hc
      exact vs_throw 3 14 hC hst hlk ht hW hX vs_ex3 rfl hl.1 hw dX2_rot_22 dX2_rot_25 dX2_rot_26 dX2_rot_28 dX2_rot_31 (Nat.le_of_ble_eq_true rfl) (Nat.le_of_ble_eq_true rfl) (Nat.le_of_ble_eq_true rfl) (Nat.le_of_ble_eq_true rfl) (Nat.le_of_ble_eq_true rfl) (Nat.le_of_ble_eq_true rfl)
set_option maxHeartbeats 4000000 in
set_option maxRecDepth 100000 in
theorem c_X2_scrub (l : Launch) (hst : l.stackTraces = false) (g : vs_G) (sd : Nat → Nat) (h0 n0 : Nat) (aS aT aK : Nat → Nat) (wr : va_W) (V S T K : vs_St) (x1 : Int) (post : Int → vs_St → Prop) (px : Nat → Prop) (hw : wX2_scrub V S T K x1 post px) : vs_XI l yX2_scrub (Cond.code yX2_scrub cX2_scrub 2 (some .int) :: vs_ws) { frames := 7, cells := 2, slots := 12, locals := 111 } g sd [.ref h0, .int (vs_I x1)] (vs_W2 h0 (aS 0) (aT 0) (aK 0) n0 V ++ (vs_W1 g aS S ++ (vs_W1 g aT T ++ (vs_W0 g aK K ++ wr)))) (fun (u : vs_St) => vs_W2 h0 (aS 0) (aT 0) (aK 0) n0 V ++ (vs_W1 g aS u ++ (vs_W1 g aT T ++ (vs_W0 g aK K ++ wr)))) post px 2 12 := by
  refine vs_ofX (Qc := fun A => vs_QI g A (fun (u : vs_St) => vs_W2 h0 (aS 0) (aT 0) (aK 0) n0 V ++ (vs_W1 g aS u ++ (vs_W1 g aT T ++ (vs_W0 g aK K ++ wr)))) post) (XC := fun A => vs_QX g A (vs_W2 h0 (aS 0) (aT 0) (aK 0) n0 V ++ (vs_W1 g aS S ++ (vs_W1 g aT T ++ (vs_W0 g aK K ++ wr)))) px) (by decide +kernel) (Nat.le_of_ble_eq_true rfl) (fun p e s m below meth c A ls hC hr hlk ht hW hX hl => ?_)
  have hC : CallFix p m c cX2_scrub 2 s _ vs_ws RX2 := hC
  have hl : lv_has ls 2 [(0, .ref h0), (1, .int (vs_I x1))] := hl
  unfold wX2_scrub at hw
  refine vs_aload_n hC hl 0 dX2_scrub_0 rfl rfl ?_
  refine vs_iload_n hC hl 1 dX2_scrub_1 rfl rfl ?_
  refine vs_xcallVV [.int (vs_I x1)] hC hW hX 0 rfl rfl vk_X2_checkDisk vm_X2_56 (c_X2_checkDisk l hst g sd h0 n0 aS aT aK (wr) V S T K x1 _ _ hw) rfl hl.1 rfl ⟨rfl, rfl⟩ ⟨Nat.le_of_ble_eq_true rfl, Nat.le_of_ble_eq_true rfl⟩ ⟨Nat.le_of_ble_eq_true rfl, Nat.le_of_ble_eq_true rfl⟩ (Nat.le_of_ble_eq_true rfl) dX2_scrub_2 (fun k ce q9 H locs hp hW hq hv hcl => vs_pass hlk ht hW hp hq hv hcl (Nat.le_of_ble_eq_true rfl) (Nat.le_of_ble_eq_true rfl)) (fun _ H locs hw hW => ?_)
  have hW : vs_Wd g A _ (vs_W2 h0 (aS 0) (aT 0) (aK 0) n0 V ++ (vs_W1 g aS S ++ (vs_W1 g aT T ++ (vs_W0 g aK K ++ wr)))) _ _ s := hW
  refine vs_aload_n hC hl 0 dX2_scrub_5 rfl rfl ?_
  refine vs_iload_n hC hl 1 dX2_scrub_6 rfl rfl ?_
  refine vs_xcallVV [.int (vs_I x1)] hC hW hX 0 rfl rfl vk_X2_checkNotFailed vm_X2_195 (c_X2_checkNotFailed l hst g sd h0 n0 aS aT aK (wr) V S T K x1 _ _ hw) rfl hl.1 rfl ⟨rfl, rfl⟩ ⟨Nat.le_of_ble_eq_true rfl, Nat.le_of_ble_eq_true rfl⟩ ⟨Nat.le_of_ble_eq_true rfl, Nat.le_of_ble_eq_true rfl⟩ (Nat.le_of_ble_eq_true rfl) dX2_scrub_7 (fun k ce q9 H locs hp hW hq hv hcl => vs_pass hlk ht hW hp hq hv hcl (Nat.le_of_ble_eq_true rfl) (Nat.le_of_ble_eq_true rfl)) (fun _ H locs hw hW => ?_)
  have hW : vs_Wd g A _ (vs_W2 h0 (aS 0) (aT 0) (aK 0) n0 V ++ (vs_W1 g aS S ++ (vs_W1 g aT T ++ (vs_W0 g aK K ++ wr)))) _ _ s := hW
  refine vs_aload_n hC hl 0 dX2_scrub_10 rfl rfl ?_
  refine vs_get hC hW 0 rfl rfl vs_inX2 0 (by decide) vf_X2_12 rfl dX2_scrub_11 ?_
  refine vs_iload_n hC hl 1 dX2_scrub_14 rfl rfl ?_
  have hW : vs_Wd g A _ (vs_W1 g aS S ++ (vs_W2 h0 (aS 0) (aT 0) (aK 0) n0 V ++ (vs_W1 g aT T ++ (vs_W0 g aK K ++ wr)))) _ _ s := vs_Wd.perm hW vs_p2
  refine vs_callNI [.int (vs_I x1)] hC hW 0 rfl rfl vk_X1_healDisk vo_X2_230 (c_X1_healDisk l g aS (vs_W2 h0 (aS 0) (aT 0) (aK 0) n0 V ++ (vs_W1 g aT T ++ (vs_W0 g aK K ++ wr))) S x1 _ hw) rfl hl.1 rfl ⟨rfl, rfl⟩ ⟨Nat.le_of_ble_eq_true rfl, Nat.le_of_ble_eq_true rfl⟩ ⟨Nat.le_of_ble_eq_true rfl, Nat.le_of_ble_eq_true rfl⟩ (Nat.le_of_ble_eq_true rfl) dX2_scrub_15 (fun r1 S2 H locs hw hW => ?_)
  have hW : vs_Wd g A _ (vs_W1 g aS S2 ++ (vs_W2 h0 (aS 0) (aT 0) (aK 0) n0 V ++ (vs_W1 g aT T ++ (vs_W0 g aK K ++ wr)))) _ _ s := hW
  have hW : vs_Wd g A _ (vs_W2 h0 (aS 0) (aT 0) (aK 0) n0 V ++ (vs_W1 g aS S2 ++ (vs_W1 g aT T ++ (vs_W0 g aK K ++ wr)))) _ _ s := vs_Wd.perm hW (List.Perm.symm vs_p2)
  exact vx_ret (vs_iret (S2) hC hr hlk hW rfl hw (Nat.le_of_ble_eq_true rfl) (Nat.le_of_ble_eq_true rfl) dX2_scrub_18)
set_option maxHeartbeats 4000000 in
set_option maxRecDepth 100000 in
theorem c_X2_rottenOn (l : Launch) (hst : l.stackTraces = false) (g : vs_G) (sd : Nat → Nat) (h0 n0 : Nat) (aS aT aK : Nat → Nat) (wr : va_W) (V S T K : vs_St) (x1 : Int) (post : Int → Prop) (px : Nat → Prop) (hw : wX2_rottenOn V S T K x1 post px) : vs_XI l yX2_rottenOn (Cond.code yX2_rottenOn cX2_rottenOn 2 (some .int) :: vs_ws) { frames := 7, cells := 1, slots := 6, locals := 111 } g sd [.ref h0, .int (vs_I x1)] (vs_W2 h0 (aS 0) (aT 0) (aK 0) n0 V ++ (vs_W1 g aS S ++ (vs_W1 g aT T ++ (vs_W0 g aK K ++ wr)))) (fun (_ : Unit) => vs_W2 h0 (aS 0) (aT 0) (aK 0) n0 V ++ (vs_W1 g aS S ++ (vs_W1 g aT T ++ (vs_W0 g aK K ++ wr)))) (fun v (_ : Unit) => post v) px 1 6 := by
  refine vs_ofX (Qc := fun A => vs_QI g A (fun (_ : Unit) => vs_W2 h0 (aS 0) (aT 0) (aK 0) n0 V ++ (vs_W1 g aS S ++ (vs_W1 g aT T ++ (vs_W0 g aK K ++ wr)))) (fun v (_ : Unit) => post v)) (XC := fun A => vs_QX g A (vs_W2 h0 (aS 0) (aT 0) (aK 0) n0 V ++ (vs_W1 g aS S ++ (vs_W1 g aT T ++ (vs_W0 g aK K ++ wr)))) px) (by decide +kernel) (Nat.le_of_ble_eq_true rfl) (fun p e s m below meth c A ls hC hr hlk ht hW hX hl => ?_)
  have hC : CallFix p m c cX2_rottenOn 2 s _ vs_ws RX2 := hC
  have hl : lv_has ls 2 [(0, .ref h0), (1, .int (vs_I x1))] := hl
  unfold wX2_rottenOn at hw
  refine vs_aload_n hC hl 0 dX2_rottenOn_0 rfl rfl ?_
  refine vs_iload_n hC hl 1 dX2_rottenOn_1 rfl rfl ?_
  refine vs_xcallVV [.int (vs_I x1)] hC hW hX 0 rfl rfl vk_X2_checkDisk vm_X2_56 (c_X2_checkDisk l hst g sd h0 n0 aS aT aK (wr) V S T K x1 _ _ hw) rfl hl.1 rfl ⟨rfl, rfl⟩ ⟨Nat.le_of_ble_eq_true rfl, Nat.le_of_ble_eq_true rfl⟩ ⟨Nat.le_of_ble_eq_true rfl, Nat.le_of_ble_eq_true rfl⟩ (Nat.le_of_ble_eq_true rfl) dX2_rottenOn_2 (fun k ce q9 H locs hp hW hq hv hcl => vs_pass hlk ht hW hp hq hv hcl (Nat.le_of_ble_eq_true rfl) (Nat.le_of_ble_eq_true rfl)) (fun _ H locs hw hW => ?_)
  have hW : vs_Wd g A _ (vs_W2 h0 (aS 0) (aT 0) (aK 0) n0 V ++ (vs_W1 g aS S ++ (vs_W1 g aT T ++ (vs_W0 g aK K ++ wr)))) _ _ s := hW
  refine vs_aload_n hC hl 0 dX2_rottenOn_5 rfl rfl ?_
  refine vs_get hC hW 0 rfl rfl vs_inX2 0 (by decide) vf_X2_12 rfl dX2_rottenOn_6 ?_
  refine vs_iload_n hC hl 1 dX2_rottenOn_9 rfl rfl ?_
  have hW : vs_Wd g A _ (vs_W1 g aS S ++ (vs_W2 h0 (aS 0) (aT 0) (aK 0) n0 V ++ (vs_W1 g aT T ++ (vs_W0 g aK K ++ wr)))) _ _ s := vs_Wd.perm hW vs_p2
  refine vs_callNI [.int (vs_I x1)] hC hW 0 rfl rfl vk_X1_countRotten vo_X2_233 (c_X1_countRotten l g aS (vs_W2 h0 (aS 0) (aT 0) (aK 0) n0 V ++ (vs_W1 g aT T ++ (vs_W0 g aK K ++ wr))) S x1 _ hw) rfl hl.1 rfl ⟨rfl, rfl⟩ ⟨Nat.le_of_ble_eq_true rfl, Nat.le_of_ble_eq_true rfl⟩ ⟨Nat.le_of_ble_eq_true rfl, Nat.le_of_ble_eq_true rfl⟩ (Nat.le_of_ble_eq_true rfl) dX2_rottenOn_10 (fun r1 _ H locs hw hW => ?_)
  have hW : vs_Wd g A _ (vs_W1 g aS S ++ (vs_W2 h0 (aS 0) (aT 0) (aK 0) n0 V ++ (vs_W1 g aT T ++ (vs_W0 g aK K ++ wr)))) _ _ s := hW
  have hW : vs_Wd g A _ (vs_W2 h0 (aS 0) (aT 0) (aK 0) n0 V ++ (vs_W1 g aS S ++ (vs_W1 g aT T ++ (vs_W0 g aK K ++ wr)))) _ _ s := vs_Wd.perm hW (List.Perm.symm vs_p2)
  exact vx_ret (vs_iret () hC hr hlk hW rfl hw (Nat.le_of_ble_eq_true rfl) (Nat.le_of_ble_eq_true rfl) dX2_rottenOn_13)
set_option maxHeartbeats 4000000 in
set_option maxRecDepth 100000 in
theorem c_X2_rebuilt (l : Launch) (g : vs_G) (h0 n0 : Nat) (aS aT aK : Nat → Nat) (wr : va_W) (V S T K : vs_St) (post : Int → Prop) (hw : wX2_rebuilt V S T K post) : vs_MI l yX2_rebuilt (Cond.code yX2_rebuilt cX2_rebuilt 1 (some .int) :: vs_ws) { frames := 0, cells := 0, slots := 0, locals := 0 } g [.ref h0] (vs_W2 h0 (aS 0) (aT 0) (aK 0) n0 V ++ (vs_W1 g aS S ++ (vs_W1 g aT T ++ (vs_W0 g aK K ++ wr)))) (fun (_ : Unit) => vs_W2 h0 (aS 0) (aT 0) (aK 0) n0 V ++ (vs_W1 g aS S ++ (vs_W1 g aT T ++ (vs_W0 g aK K ++ wr)))) (fun v (_ : Unit) => post v) 0 0 := by
  refine vs_ofW (Qc := fun A => vs_QI g A (fun (_ : Unit) => vs_W2 h0 (aS 0) (aT 0) (aK 0) n0 V ++ (vs_W1 g aS S ++ (vs_W1 g aT T ++ (vs_W0 g aK K ++ wr)))) (fun v (_ : Unit) => post v)) (by decide +kernel) (Nat.le_of_ble_eq_true rfl) (fun p e s m below meth c A ls hC hr hlk hW hl => ?_)
  have hC : CallFix p m c cX2_rebuilt 1 s _ vs_ws RX2 := hC
  have hl : lv_has ls 1 [(0, .ref h0)] := hl
  unfold wX2_rebuilt at hw
  refine vs_aload_n hC hl 0 dX2_rebuilt_0 rfl rfl ?_
  refine vs_get hC hW 0 rfl rfl vs_inX2 6 (by decide) vf_X2_146 rfl dX2_rebuilt_1 ?_
  exact vs_iret () hC hr hlk hW rfl hw (Nat.le_of_ble_eq_true rfl) (Nat.le_of_ble_eq_true rfl) dX2_rebuilt_4
set_option maxHeartbeats 4000000 in
set_option maxRecDepth 100000 in
theorem c_X2_isConsistent (l : Launch) (g : vs_G) (h0 n0 : Nat) (aS aT aK : Nat → Nat) (wr : va_W) (V S T K : vs_St) (post : Int → Prop) (hw : wX2_isConsistent V S T K post) : vs_MI l yX2_isConsistent (Cond.code yX2_isConsistent cX2_isConsistent 1 (some .boolean) :: vs_ws) { frames := 3, cells := 0, slots := 0, locals := 70 } g [.ref h0] (vs_W2 h0 (aS 0) (aT 0) (aK 0) n0 V ++ (vs_W1 g aS S ++ (vs_W1 g aT T ++ (vs_W0 g aK K ++ wr)))) (fun (_ : Unit) => vs_W2 h0 (aS 0) (aT 0) (aK 0) n0 V ++ (vs_W1 g aS S ++ (vs_W1 g aT T ++ (vs_W0 g aK K ++ wr)))) (fun v (_ : Unit) => post v) 0 0 := by
  refine vs_ofW (Qc := fun A => vs_QI g A (fun (_ : Unit) => vs_W2 h0 (aS 0) (aT 0) (aK 0) n0 V ++ (vs_W1 g aS S ++ (vs_W1 g aT T ++ (vs_W0 g aK K ++ wr)))) (fun v (_ : Unit) => post v)) (by decide +kernel) (Nat.le_of_ble_eq_true rfl) (fun p e s m below meth c A ls hC hr hlk hW hl => ?_)
  have hC : CallFix p m c cX2_isConsistent 1 s _ vs_ws RX2 := hC
  have hl : lv_has ls 1 [(0, .ref h0)] := hl
  unfold wX2_isConsistent at hw
  refine vs_aload_n hC hl 0 dX2_isConsistent_0 rfl rfl ?_
  refine vs_get hC hW 0 rfl rfl vs_inX2 0 (by decide) vf_X2_12 rfl dX2_isConsistent_1 ?_
  have hW : vs_Wd g A _ (vs_W1 g aS S ++ (vs_W2 h0 (aS 0) (aT 0) (aK 0) n0 V ++ (vs_W1 g aT T ++ (vs_W0 g aK K ++ wr)))) _ _ s := vs_Wd.perm hW vs_p2
  refine vs_callNI [] hC hW 0 rfl rfl vk_X1_agreesWithDisks vo_X2_257 (c_X1_agreesWithDisks l g aS (vs_W2 h0 (aS 0) (aT 0) (aK 0) n0 V ++ (vs_W1 g aT T ++ (vs_W0 g aK K ++ wr))) S  _ hw) rfl hl.1 rfl ⟨rfl, rfl⟩ ⟨Nat.le_of_ble_eq_true rfl, Nat.le_of_ble_eq_true rfl⟩ ⟨Nat.le_of_ble_eq_true rfl, Nat.le_of_ble_eq_true rfl⟩ (Nat.le_of_ble_eq_true rfl) dX2_isConsistent_4 (fun r1 _ H locs hw hW => ?_)
  have hW : vs_Wd g A _ (vs_W1 g aS S ++ (vs_W2 h0 (aS 0) (aT 0) (aK 0) n0 V ++ (vs_W1 g aT T ++ (vs_W0 g aK K ++ wr)))) _ _ s := hW
  have hW : vs_Wd g A _ (vs_W2 h0 (aS 0) (aT 0) (aK 0) n0 V ++ (vs_W1 g aS S ++ (vs_W1 g aT T ++ (vs_W0 g aK K ++ wr)))) _ _ s := vs_Wd.perm hW (List.Perm.symm vs_p2)
  exact vs_zret () hC hr hlk hW rfl hw (Nat.le_of_ble_eq_true rfl) (Nat.le_of_ble_eq_true rfl) dX2_isConsistent_7
