/-! the law's helpers: their walks, by program -/
set_option maxHeartbeats 4000000 in
set_option maxRecDepth 100000 in
theorem c_L_addDisk (l : Launch) (hst : l.stackTraces = false) (g : vs_G) (sd : Nat → Nat) (h0 n0 o : Nat) (aS aT aK : Nat → Nat) (wr : va_W) (V S T K : vs_St) (O : vs_St) (x1 : Int) (post : Int → vs_St → vs_St → Prop) (hw : wL_addDisk V S T K O x1 post) : vs_HI l yL_addDisk (Cond.codeWith yL_addDisk cL_addDisk 4 (some .int) hhL_addDisk :: vs_ws) { frames := 7, cells := 1, slots := 6, locals := 111 } g sd [.ref h0, .int (vs_I x1), .ref o] (vs_W2 h0 (aS 0) (aT 0) (aK 0) n0 V ++ (vs_W1 g aS S ++ (vs_W1 g aT T ++ (vs_W0 g aK K ++ (vs_WO g o O ++ wr))))) (fun (u : vs_St × vs_St) => vs_W2 h0 (aS 0) (aT 0) (aK 0) n0 V ++ (vs_W1 g aS u.1 ++ (vs_W1 g aT T ++ (vs_W0 g aK K ++ (vs_WO g o u.2 ++ wr))))) (fun v (u : vs_St × vs_St) => post v u.1 u.2) 1 6 := by
  refine vs_ofH (Qc := fun A => vs_QI g A (fun (u : vs_St × vs_St) => vs_W2 h0 (aS 0) (aT 0) (aK 0) n0 V ++ (vs_W1 g aS u.1 ++ (vs_W1 g aT T ++ (vs_W0 g aK K ++ (vs_WO g o u.2 ++ wr))))) (fun v (u : vs_St × vs_St) => post v u.1 u.2)) (XC := fun A => vs_QX g A (vs_W2 h0 (aS 0) (aT 0) (aK 0) n0 V ++ (vs_W1 g aS S ++ (vs_W1 g aT T ++ (vs_W0 g aK K ++ (vs_WO g o O ++ wr))))) (fun _ => False)) (by decide +kernel) (Nat.le_of_ble_eq_true rfl) (fun p e s m below meth c A ls hC hr hlk htab hW hX hl => ?_)
  have hC : CallFix p m c cL_addDisk 4 s _ vs_ws RL := hC
  have hl : lv_has ls 4 [(0, .ref h0), (1, .int (vs_I x1)), (2, .ref o)] := hl
  unfold wL_addDisk at hw
  refine vs_aload_n hC hl 2 dL_addDisk_0 rfl rfl ?_
  refine vs_iconst hC dL_addDisk_1 ?_
  refine vs_aload_n hC hl 0 dL_addDisk_2 rfl rfl ?_
  refine vs_iload_n hC hl 1 dL_addDisk_3 rfl rfl ?_
  refine vs_xcallVI [.int (vs_I x1)] hC hW hX 0 rfl rfl vk_X2_addDisk vm_L_7 (c_X2_addDisk l hst g sd h0 n0 aS aT aK (vs_WO g o O ++ wr) V S T K x1 _ _ hw) rfl hl.1 rfl ⟨rfl, rfl⟩ ⟨Nat.le_of_ble_eq_true rfl, Nat.le_of_ble_eq_true rfl⟩ ⟨Nat.le_of_ble_eq_true rfl, Nat.le_of_ble_eq_true rfl⟩ (Nat.le_of_ble_eq_true rfl) dL_addDisk_4 (fun k ce q9 H locs hp hW hq hv hcl => ?_) (fun r1 S2 H locs hw hW => ?_)
  · obtain ⟨hp0, hp1, hpk⟩ := hp
    rcases hpk with rfl | rfl
    · have hw := hp0 rfl
      refine vs_catch (hh := hhL_addDisk) hC hX htab [] ⟨0, 9, 12, 13⟩ [⟨0, 9, 15, 15⟩] rfl (fun _ h => absurd h List.not_mem_nil) rfl (by decide) vt_13 (by decide +kernel) hq hv hcl ?_
      refine vs_astore_n (L' := [(0, .ref h0), (1, .int (vs_I x1)), (2, .ref o), (3, .ref q9)]) hC hl [1, 2, 3, 0] dL_addDisk_12 rfl (by decide) rfl (fun ls hl => ?_)
      refine vs_iconst hC dL_addDisk_13 ?_
      exact vx_ret (vs_iret (S, O) hC hr hlk hW rfl hw (Nat.le_of_ble_eq_true rfl) (Nat.le_of_ble_eq_true rfl) dL_addDisk_14)
    · have hw := hp1 rfl
      refine vs_catch (hh := hhL_addDisk) hC hX htab [⟨0, 9, 12, 13⟩] ⟨0, 9, 15, 15⟩ [] rfl (List.forall_mem_cons.mpr ⟨⟨by decide, 1, vt_13, by decide +kernel⟩, (fun _ h => absurd h List.not_mem_nil)⟩) rfl (by decide) vt_15 (by decide +kernel) hq hv hcl ?_
      refine vs_astore_n (L' := [(0, .ref h0), (1, .int (vs_I x1)), (2, .ref o), (3, .ref q9)]) hC hl [1, 2, 3, 0] dL_addDisk_15 rfl (by decide) rfl (fun ls hl => ?_)
      refine vs_iconst hC dL_addDisk_16 ?_
      exact vx_ret (vs_iret (S, O) hC hr hlk hW rfl hw (Nat.le_of_ble_eq_true rfl) (Nat.le_of_ble_eq_true rfl) dL_addDisk_17)
  have hW : vs_Wd g A _ (vs_W2 h0 (aS 0) (aT 0) (aK 0) n0 V ++ (vs_W1 g aS S2 ++ (vs_W1 g aT T ++ (vs_W0 g aK K ++ (vs_WO g o O ++ wr))))) _ _ s := hW
  obtain ⟨hx, hw⟩ := hw
  refine vs_i2l hC hx dL_addDisk_7 ?_
  obtain ⟨O3, hO3⟩ : ∃ z : vs_St, z = vs_st O 0 0 r1 := ⟨_, rfl⟩
  have hw := hw O3 hO3
  refine vs_last (Wo' := vs_W2 h0 (aS 0) (aT 0) (aK 0) n0 V ++ (vs_W1 g aS S2 ++ (vs_W1 g aT T ++ (vs_W0 g aK K ++ (vs_WO g o O3 ++ wr))))) hC hW 37 rfl (by rw [hO3]; rfl) dL_addDisk_8 (fun H locs hW => ?_)
  refine vs_goto hC 18 dL_addDisk_9 (by decide) ?_
  refine vs_iconst hC dL_addDisk_18 ?_
  exact vx_ret (vs_iret (S2, O3) hC hr hlk hW rfl hw (Nat.le_of_ble_eq_true rfl) (Nat.le_of_ble_eq_true rfl) dL_addDisk_19)
set_option maxHeartbeats 4000000 in
set_option maxRecDepth 100000 in
theorem c_L_diskState (l : Launch) (hst : l.stackTraces = false) (g : vs_G) (sd : Nat → Nat) (h0 n0 o : Nat) (aS aT aK : Nat → Nat) (wr : va_W) (V S T K : vs_St) (O : vs_St) (x1 : Int) (post : Int → vs_St → Prop) (hw : wL_diskState V S T K O x1 post) : vs_HI l yL_diskState (Cond.codeWith yL_diskState cL_diskState 4 (some .int) hhL_diskState :: vs_ws) { frames := 8, cells := 1, slots := 6, locals := 132 } g sd [.ref h0, .int (vs_I x1), .ref o] (vs_W2 h0 (aS 0) (aT 0) (aK 0) n0 V ++ (vs_W1 g aS S ++ (vs_W1 g aT T ++ (vs_W0 g aK K ++ (vs_WO g o O ++ wr))))) (fun (u : vs_St) => vs_W2 h0 (aS 0) (aT 0) (aK 0) n0 V ++ (vs_W1 g aS S ++ (vs_W1 g aT T ++ (vs_W0 g aK K ++ (vs_WO g o u ++ wr))))) post 1 6 := by
  refine vs_ofH (Qc := fun A => vs_QI g A (fun (u : vs_St) => vs_W2 h0 (aS 0) (aT 0) (aK 0) n0 V ++ (vs_W1 g aS S ++ (vs_W1 g aT T ++ (vs_W0 g aK K ++ (vs_WO g o u ++ wr))))) post) (XC := fun A => vs_QX g A (vs_W2 h0 (aS 0) (aT 0) (aK 0) n0 V ++ (vs_W1 g aS S ++ (vs_W1 g aT T ++ (vs_W0 g aK K ++ (vs_WO g o O ++ wr))))) (fun _ => False)) (by decide +kernel) (Nat.le_of_ble_eq_true rfl) (fun p e s m below meth c A ls hC hr hlk htab hW hX hl => ?_)
  have hC : CallFix p m c cL_diskState 4 s _ vs_ws RL := hC
  have hl : lv_has ls 4 [(0, .ref h0), (1, .int (vs_I x1)), (2, .ref o)] := hl
  unfold wL_diskState at hw
  refine vs_aload_n hC hl 2 dL_diskState_0 rfl rfl ?_
  refine vs_iconst hC dL_diskState_1 ?_
  refine vs_aload_n hC hl 0 dL_diskState_2 rfl rfl ?_
  refine vs_iload_n hC hl 1 dL_diskState_3 rfl rfl ?_
  refine vs_xcallVI [.int (vs_I x1)] hC hW hX 0 rfl rfl vk_X2_diskState vm_L_17 (c_X2_diskState l hst g sd h0 n0 aS aT aK (vs_WO g o O ++ wr) V S T K x1 _ _ hw) rfl hl.1 rfl ⟨rfl, rfl⟩ ⟨Nat.le_of_ble_eq_true rfl, Nat.le_of_ble_eq_true rfl⟩ ⟨Nat.le_of_ble_eq_true rfl, Nat.le_of_ble_eq_true rfl⟩ (Nat.le_of_ble_eq_true rfl) dL_diskState_4 (fun k ce q9 H locs hp hW hq hv hcl => ?_) (fun r1 _ H locs hw hW => ?_)
  · obtain ⟨hp0, hpk⟩ := hp
    subst hpk
    · have hw := hp0 rfl
      refine vs_catch (hh := hhL_diskState) hC hX htab [] ⟨0, 9, 12, 21⟩ [] rfl (fun _ h => absurd h List.not_mem_nil) rfl (by decide) vt_21 (by decide +kernel) hq hv hcl ?_
      refine vs_astore_n (L' := [(0, .ref h0), (1, .int (vs_I x1)), (2, .ref o), (3, .ref q9)]) hC hl [1, 2, 3, 0] dL_diskState_12 rfl (by decide) rfl (fun ls hl => ?_)
      refine vs_iconst hC dL_diskState_13 ?_
      exact vx_ret (vs_iret (O) hC hr hlk hW rfl hw (Nat.le_of_ble_eq_true rfl) (Nat.le_of_ble_eq_true rfl) dL_diskState_14)
  have hW : vs_Wd g A _ (vs_W2 h0 (aS 0) (aT 0) (aK 0) n0 V ++ (vs_W1 g aS S ++ (vs_W1 g aT T ++ (vs_W0 g aK K ++ (vs_WO g o O ++ wr))))) _ _ s := hW
  obtain ⟨hx, hw⟩ := hw
  refine vs_i2l hC hx dL_diskState_7 ?_
  obtain ⟨O2, hO2⟩ : ∃ z : vs_St, z = vs_st O 0 0 r1 := ⟨_, rfl⟩
  have hw := hw O2 hO2
  refine vs_last (Wo' := vs_W2 h0 (aS 0) (aT 0) (aK 0) n0 V ++ (vs_W1 g aS S ++ (vs_W1 g aT T ++ (vs_W0 g aK K ++ (vs_WO g o O2 ++ wr))))) hC hW 37 rfl (by rw [hO2]; rfl) dL_diskState_8 (fun H locs hW => ?_)
  refine vs_goto hC 15 dL_diskState_9 (by decide) ?_
  refine vs_iconst hC dL_diskState_15 ?_
  exact vx_ret (vs_iret (O2) hC hr hlk hW rfl hw (Nat.le_of_ble_eq_true rfl) (Nat.le_of_ble_eq_true rfl) dL_diskState_16)
set_option maxHeartbeats 4000000 in
set_option maxRecDepth 100000 in
theorem c_L_usedOn (l : Launch) (hst : l.stackTraces = false) (g : vs_G) (sd : Nat → Nat) (h0 n0 o : Nat) (aS aT aK : Nat → Nat) (wr : va_W) (V S T K : vs_St) (O : vs_St) (x1 : Int) (post : Int → vs_St → Prop) (hw : wL_usedOn V S T K O x1 post) : vs_HI l yL_usedOn (Cond.codeWith yL_usedOn cL_usedOn 4 (some .int) hhL_usedOn :: vs_ws) { frames := 8, cells := 1, slots := 6, locals := 132 } g sd [.ref h0, .int (vs_I x1), .ref o] (vs_W2 h0 (aS 0) (aT 0) (aK 0) n0 V ++ (vs_W1 g aS S ++ (vs_W1 g aT T ++ (vs_W0 g aK K ++ (vs_WO g o O ++ wr))))) (fun (u : vs_St) => vs_W2 h0 (aS 0) (aT 0) (aK 0) n0 V ++ (vs_W1 g aS S ++ (vs_W1 g aT T ++ (vs_W0 g aK K ++ (vs_WO g o u ++ wr))))) post 1 6 := by
  refine vs_ofH (Qc := fun A => vs_QI g A (fun (u : vs_St) => vs_W2 h0 (aS 0) (aT 0) (aK 0) n0 V ++ (vs_W1 g aS S ++ (vs_W1 g aT T ++ (vs_W0 g aK K ++ (vs_WO g o u ++ wr))))) post) (XC := fun A => vs_QX g A (vs_W2 h0 (aS 0) (aT 0) (aK 0) n0 V ++ (vs_W1 g aS S ++ (vs_W1 g aT T ++ (vs_W0 g aK K ++ (vs_WO g o O ++ wr))))) (fun _ => False)) (by decide +kernel) (Nat.le_of_ble_eq_true rfl) (fun p e s m below meth c A ls hC hr hlk htab hW hX hl => ?_)
  have hC : CallFix p m c cL_usedOn 4 s _ vs_ws RL := hC
  have hl : lv_has ls 4 [(0, .ref h0), (1, .int (vs_I x1)), (2, .ref o)] := hl
  unfold wL_usedOn at hw
  refine vs_aload_n hC hl 2 dL_usedOn_0 rfl rfl ?_
  refine vs_iconst hC dL_usedOn_1 ?_
  refine vs_aload_n hC hl 0 dL_usedOn_2 rfl rfl ?_
  refine vs_iload_n hC hl 1 dL_usedOn_3 rfl rfl ?_
  refine vs_xcallVI [.int (vs_I x1)] hC hW hX 0 rfl rfl vk_X2_usedOn vm_L_23 (c_X2_usedOn l hst g sd h0 n0 aS aT aK (vs_WO g o O ++ wr) V S T K x1 _ _ hw) rfl hl.1 rfl ⟨rfl, rfl⟩ ⟨Nat.le_of_ble_eq_true rfl, Nat.le_of_ble_eq_true rfl⟩ ⟨Nat.le_of_ble_eq_true rfl, Nat.le_of_ble_eq_true rfl⟩ (Nat.le_of_ble_eq_true rfl) dL_usedOn_4 (fun k ce q9 H locs hp hW hq hv hcl => ?_) (fun r1 _ H locs hw hW => ?_)
  · obtain ⟨hp0, hpk⟩ := hp
    subst hpk
    · have hw := hp0 rfl
      refine vs_catch (hh := hhL_usedOn) hC hX htab [] ⟨0, 9, 12, 21⟩ [] rfl (fun _ h => absurd h List.not_mem_nil) rfl (by decide) vt_21 (by decide +kernel) hq hv hcl ?_
      refine vs_astore_n (L' := [(0, .ref h0), (1, .int (vs_I x1)), (2, .ref o), (3, .ref q9)]) hC hl [1, 2, 3, 0] dL_usedOn_12 rfl (by decide) rfl (fun ls hl => ?_)
      refine vs_iconst hC dL_usedOn_13 ?_
      exact vx_ret (vs_iret (O) hC hr hlk hW rfl hw (Nat.le_of_ble_eq_true rfl) (Nat.le_of_ble_eq_true rfl) dL_usedOn_14)
  have hW : vs_Wd g A _ (vs_W2 h0 (aS 0) (aT 0) (aK 0) n0 V ++ (vs_W1 g aS S ++ (vs_W1 g aT T ++ (vs_W0 g aK K ++ (vs_WO g o O ++ wr))))) _ _ s := hW
  obtain ⟨hx, hw⟩ := hw
  refine vs_i2l hC hx dL_usedOn_7 ?_
  obtain ⟨O2, hO2⟩ : ∃ z : vs_St, z = vs_st O 0 0 r1 := ⟨_, rfl⟩
  have hw := hw O2 hO2
  refine vs_last (Wo' := vs_W2 h0 (aS 0) (aT 0) (aK 0) n0 V ++ (vs_W1 g aS S ++ (vs_W1 g aT T ++ (vs_W0 g aK K ++ (vs_WO g o O2 ++ wr))))) hC hW 37 rfl (by rw [hO2]; rfl) dL_usedOn_8 (fun H locs hW => ?_)
  refine vs_goto hC 15 dL_usedOn_9 (by decide) ?_
  refine vs_iconst hC dL_usedOn_15 ?_
  exact vx_ret (vs_iret (O2) hC hr hlk hW rfl hw (Nat.le_of_ble_eq_true rfl) (Nat.le_of_ble_eq_true rfl) dL_usedOn_16)
set_option maxHeartbeats 4000000 in
set_option maxRecDepth 100000 in
theorem c_L_addTenant (l : Launch) (hst : l.stackTraces = false) (g : vs_G) (sd : Nat → Nat) (h0 n0 o : Nat) (aS aT aK : Nat → Nat) (wr : va_W) (V S T K : vs_St) (O : vs_St) (x1 : Int) (x2 : Int) (post : Int → vs_St → vs_St → vs_St → Prop) (hw : wL_addTenant V S T K O x1 x2 post) : vs_HI l yL_addTenant (Cond.codeWith yL_addTenant cL_addTenant 5 (some .int) hhL_addTenant :: vs_ws) { frames := 7, cells := 1, slots := 6, locals := 113 } g sd [.ref h0, .int (vs_I x1), .int (vs_I x2), .ref o] (vs_W2 h0 (aS 0) (aT 0) (aK 0) n0 V ++ (vs_W1 g aS S ++ (vs_W1 g aT T ++ (vs_W0 g aK K ++ (vs_WO g o O ++ wr))))) (fun (u : vs_St × vs_St × vs_St) => vs_W2 h0 (aS 0) (aT 0) (aK 0) n0 V ++ (vs_W1 g aS u.1 ++ (vs_W1 g aT T ++ (vs_W0 g aK u.2.1 ++ (vs_WO g o u.2.2 ++ wr))))) (fun v (u : vs_St × vs_St × vs_St) => post v u.1 u.2.1 u.2.2) 1 6 := by
  refine vs_ofH (Qc := fun A => vs_QI g A (fun (u : vs_St × vs_St × vs_St) => vs_W2 h0 (aS 0) (aT 0) (aK 0) n0 V ++ (vs_W1 g aS u.1 ++ (vs_W1 g aT T ++ (vs_W0 g aK u.2.1 ++ (vs_WO g o u.2.2 ++ wr))))) (fun v (u : vs_St × vs_St × vs_St) => post v u.1 u.2.1 u.2.2)) (XC := fun A => vs_QX g A (vs_W2 h0 (aS 0) (aT 0) (aK 0) n0 V ++ (vs_W1 g aS S ++ (vs_W1 g aT T ++ (vs_W0 g aK K ++ (vs_WO g o O ++ wr))))) (fun _ => False)) (by decide +kernel) (Nat.le_of_ble_eq_true rfl) (fun p e s m below meth c A ls hC hr hlk htab hW hX hl => ?_)
  have hC : CallFix p m c cL_addTenant 5 s _ vs_ws RL := hC
  have hl : lv_has ls 5 [(0, .ref h0), (1, .int (vs_I x1)), (2, .int (vs_I x2)), (3, .ref o)] := hl
  unfold wL_addTenant at hw
  refine vs_aload_n hC hl 3 dL_addTenant_0 rfl rfl ?_
  refine vs_iconst hC dL_addTenant_1 ?_
  refine vs_aload_n hC hl 0 dL_addTenant_2 rfl rfl ?_
  refine vs_iload_n hC hl 1 dL_addTenant_3 rfl rfl ?_
  refine vs_iload_n hC hl 2 dL_addTenant_4 rfl rfl ?_
  refine vs_xcallVI [.int (vs_I x1), .int (vs_I x2)] hC hW hX 0 rfl rfl vk_X2_addTenant vm_L_26 (c_X2_addTenant l hst g sd h0 n0 aS aT aK (vs_WO g o O ++ wr) V S T K x1 x2 _ _ hw) rfl hl.1 rfl ⟨rfl, rfl⟩ ⟨Nat.le_of_ble_eq_true rfl, Nat.le_of_ble_eq_true rfl⟩ ⟨Nat.le_of_ble_eq_true rfl, Nat.le_of_ble_eq_true rfl⟩ (Nat.le_of_ble_eq_true rfl) dL_addTenant_5 (fun k ce q9 H locs hp hW hq hv hcl => ?_) (fun r1 u H locs hw hW => ?_)
  · obtain ⟨hp0, hp1, hpk⟩ := hp
    rcases hpk with rfl | rfl
    · have hw := hp0 rfl
      refine vs_catch (hh := hhL_addTenant) hC hX htab [] ⟨0, 10, 13, 13⟩ [⟨0, 10, 17, 15⟩] rfl (fun _ h => absurd h List.not_mem_nil) rfl (by decide) vt_13 (by decide +kernel) hq hv hcl ?_
      refine vs_astore (L' := [(0, .ref h0), (1, .int (vs_I x1)), (2, .int (vs_I x2)), (3, .ref o), (4, .ref q9)]) hC hl [1, 2, 3, 4, 0] dL_addTenant_13 (by decide) rfl (fun ls hl => ?_)
      refine vs_iconst hC dL_addTenant_15 ?_
      exact vx_ret (vs_iret (S, K, O) hC hr hlk hW rfl hw (Nat.le_of_ble_eq_true rfl) (Nat.le_of_ble_eq_true rfl) dL_addTenant_16)
    · have hw := hp1 rfl
      refine vs_catch (hh := hhL_addTenant) hC hX htab [⟨0, 10, 13, 13⟩] ⟨0, 10, 17, 15⟩ [] rfl (List.forall_mem_cons.mpr ⟨⟨by decide, 1, vt_13, by decide +kernel⟩, (fun _ h => absurd h List.not_mem_nil)⟩) rfl (by decide) vt_15 (by decide +kernel) hq hv hcl ?_
      refine vs_astore (L' := [(0, .ref h0), (1, .int (vs_I x1)), (2, .int (vs_I x2)), (3, .ref o), (4, .ref q9)]) hC hl [1, 2, 3, 4, 0] dL_addTenant_17 (by decide) rfl (fun ls hl => ?_)
      refine vs_iconst hC dL_addTenant_19 ?_
      exact vx_ret (vs_iret (S, K, O) hC hr hlk hW rfl hw (Nat.le_of_ble_eq_true rfl) (Nat.le_of_ble_eq_true rfl) dL_addTenant_20)
  obtain ⟨S2, K3⟩ := u
  have hW : vs_Wd g A _ (vs_W2 h0 (aS 0) (aT 0) (aK 0) n0 V ++ (vs_W1 g aS S2 ++ (vs_W1 g aT T ++ (vs_W0 g aK K3 ++ (vs_WO g o O ++ wr))))) _ _ s := hW
  obtain ⟨hx, hw⟩ := hw
  refine vs_i2l hC hx dL_addTenant_8 ?_
  obtain ⟨O4, hO4⟩ : ∃ z : vs_St, z = vs_st O 0 0 r1 := ⟨_, rfl⟩
  have hw := hw O4 hO4
  refine vs_last (Wo' := vs_W2 h0 (aS 0) (aT 0) (aK 0) n0 V ++ (vs_W1 g aS S2 ++ (vs_W1 g aT T ++ (vs_W0 g aK K3 ++ (vs_WO g o O4 ++ wr))))) hC hW 37 rfl (by rw [hO4]; rfl) dL_addTenant_9 (fun H locs hW => ?_)
  refine vs_goto hC 21 dL_addTenant_10 (by decide) ?_
  refine vs_iconst hC dL_addTenant_21 ?_
  exact vx_ret (vs_iret (S2, K3, O4) hC hr hlk hW rfl hw (Nat.le_of_ble_eq_true rfl) (Nat.le_of_ble_eq_true rfl) dL_addTenant_22)
set_option maxHeartbeats 4000000 in
set_option maxRecDepth 100000 in
theorem c_L_setHurry (l : Launch) (hst : l.stackTraces = false) (g : vs_G) (sd : Nat → Nat) (h0 n0 o : Nat) (aS aT aK : Nat → Nat) (wr : va_W) (V S T K : vs_St) (O : vs_St) (x1 : Int) (post : Int → vs_St → vs_St → Prop) (hw : wL_setHurry V S T K O x1 post) : vs_HI l yL_setHurry (Cond.codeWith yL_setHurry cL_setHurry 4 (some .int) hhL_setHurry :: vs_ws) { frames := 7, cells := 1, slots := 6, locals := 112 } g sd [.ref h0, .int (vs_I x1), .ref o] (vs_W2 h0 (aS 0) (aT 0) (aK 0) n0 V ++ (vs_W1 g aS S ++ (vs_W1 g aT T ++ (vs_W0 g aK K ++ (vs_WO g o O ++ wr))))) (fun (u : vs_St × vs_St) => vs_W2 h0 (aS 0) (aT 0) (aK 0) n0 u.1 ++ (vs_W1 g aS S ++ (vs_W1 g aT T ++ (vs_W0 g aK K ++ (vs_WO g o u.2 ++ wr))))) (fun v (u : vs_St × vs_St) => post v u.1 u.2) 1 6 := by
  refine vs_ofH (Qc := fun A => vs_QI g A (fun (u : vs_St × vs_St) => vs_W2 h0 (aS 0) (aT 0) (aK 0) n0 u.1 ++ (vs_W1 g aS S ++ (vs_W1 g aT T ++ (vs_W0 g aK K ++ (vs_WO g o u.2 ++ wr))))) (fun v (u : vs_St × vs_St) => post v u.1 u.2)) (XC := fun A => vs_QX g A (vs_W2 h0 (aS 0) (aT 0) (aK 0) n0 V ++ (vs_W1 g aS S ++ (vs_W1 g aT T ++ (vs_W0 g aK K ++ (vs_WO g o O ++ wr))))) (fun _ => False)) (by decide +kernel) (Nat.le_of_ble_eq_true rfl) (fun p e s m below meth c A ls hC hr hlk htab hW hX hl => ?_)
  have hC : CallFix p m c cL_setHurry 4 s _ vs_ws RL := hC
  have hl : lv_has ls 4 [(0, .ref h0), (1, .int (vs_I x1)), (2, .ref o)] := hl
  unfold wL_setHurry at hw
  refine vs_aload_n hC hl 2 dL_setHurry_0 rfl rfl ?_
  refine vs_iconst hC dL_setHurry_1 ?_
  refine vs_aload_n hC hl 0 dL_setHurry_2 rfl rfl ?_
  refine vs_iload_n hC hl 1 dL_setHurry_3 rfl rfl ?_
  refine vs_xcallVI [.int (vs_I x1)] hC hW hX 0 rfl rfl vk_X2_setHurry vm_L_30 (c_X2_setHurry l hst g sd h0 n0 aS aT aK (vs_WO g o O ++ wr) V S T K x1 _ _ hw) rfl hl.1 rfl ⟨rfl, rfl⟩ ⟨Nat.le_of_ble_eq_true rfl, Nat.le_of_ble_eq_true rfl⟩ ⟨Nat.le_of_ble_eq_true rfl, Nat.le_of_ble_eq_true rfl⟩ (Nat.le_of_ble_eq_true rfl) dL_setHurry_4 (fun k ce q9 H locs hp hW hq hv hcl => ?_) (fun r1 V2 H locs hw hW => ?_)
  · obtain ⟨hp0, hpk⟩ := hp
    subst hpk
    · have hw := hp0 rfl
      refine vs_catch (hh := hhL_setHurry) hC hX htab [] ⟨0, 9, 12, 13⟩ [] rfl (fun _ h => absurd h List.not_mem_nil) rfl (by decide) vt_13 (by decide +kernel) hq hv hcl ?_
      refine vs_astore_n (L' := [(0, .ref h0), (1, .int (vs_I x1)), (2, .ref o), (3, .ref q9)]) hC hl [1, 2, 3, 0] dL_setHurry_12 rfl (by decide) rfl (fun ls hl => ?_)
      refine vs_iconst hC dL_setHurry_13 ?_
      exact vx_ret (vs_iret (V, O) hC hr hlk hW rfl hw (Nat.le_of_ble_eq_true rfl) (Nat.le_of_ble_eq_true rfl) dL_setHurry_14)
  have hW : vs_Wd g A _ (vs_W2 h0 (aS 0) (aT 0) (aK 0) n0 V2 ++ (vs_W1 g aS S ++ (vs_W1 g aT T ++ (vs_W0 g aK K ++ (vs_WO g o O ++ wr))))) _ _ s := hW
  obtain ⟨hx, hw⟩ := hw
  refine vs_i2l hC hx dL_setHurry_7 ?_
  obtain ⟨O3, hO3⟩ : ∃ z : vs_St, z = vs_st O 0 0 r1 := ⟨_, rfl⟩
  have hw := hw O3 hO3
  refine vs_last (Wo' := vs_W2 h0 (aS 0) (aT 0) (aK 0) n0 V2 ++ (vs_W1 g aS S ++ (vs_W1 g aT T ++ (vs_W0 g aK K ++ (vs_WO g o O3 ++ wr))))) hC hW 37 rfl (by rw [hO3]; rfl) dL_setHurry_8 (fun H locs hW => ?_)
  refine vs_goto hC 15 dL_setHurry_9 (by decide) ?_
  refine vs_iconst hC dL_setHurry_15 ?_
  exact vx_ret (vs_iret (V2, O3) hC hr hlk hW rfl hw (Nat.le_of_ble_eq_true rfl) (Nat.le_of_ble_eq_true rfl) dL_setHurry_16)
set_option maxHeartbeats 4000000 in
set_option maxRecDepth 100000 in
theorem c_L_read (l : Launch) (hst : l.stackTraces = false) (g : vs_G) (sd : Nat → Nat) (h0 n0 o : Nat) (aS aT aK : Nat → Nat) (wr : va_W) (V S T K : vs_St) (O : vs_St) (x1 : Int) (x2 : Int) (post : Int → vs_St → vs_St → Prop) (hw : wL_read V S T K O x1 x2 post) : vs_HI l yL_read (Cond.codeWith yL_read cL_read 5 (some .int) hhL_read :: vs_ws) { frames := 9, cells := 3, slots := 18, locals := 155 } g sd [.ref h0, .int (vs_I x1), .int (vs_I x2), .ref o] (vs_W2 h0 (aS 0) (aT 0) (aK 0) n0 V ++ (vs_W1 g aS S ++ (vs_W1 g aT T ++ (vs_W0 g aK K ++ (vs_WO g o O ++ wr))))) (fun (u : vs_St × vs_St) => vs_W2 h0 (aS 0) (aT 0) (aK 0) n0 V ++ (vs_W1 g aS S ++ (vs_W1 g aT T ++ (vs_W0 g aK u.1 ++ (vs_WO g o u.2 ++ wr))))) (fun v (u : vs_St × vs_St) => post v u.1 u.2) 3 18 := by
  refine vs_ofH (Qc := fun A => vs_QI g A (fun (u : vs_St × vs_St) => vs_W2 h0 (aS 0) (aT 0) (aK 0) n0 V ++ (vs_W1 g aS S ++ (vs_W1 g aT T ++ (vs_W0 g aK u.1 ++ (vs_WO g o u.2 ++ wr))))) (fun v (u : vs_St × vs_St) => post v u.1 u.2)) (XC := fun A => vs_QX g A (vs_W2 h0 (aS 0) (aT 0) (aK 0) n0 V ++ (vs_W1 g aS S ++ (vs_W1 g aT T ++ (vs_W0 g aK K ++ (vs_WO g o O ++ wr))))) (fun _ => False)) (by decide +kernel) (Nat.le_of_ble_eq_true rfl) (fun p e s m below meth c A ls hC hr hlk htab hW hX hl => ?_)
  have hC : CallFix p m c cL_read 5 s _ vs_ws RL := hC
  have hl : lv_has ls 5 [(0, .ref h0), (1, .int (vs_I x1)), (2, .int (vs_I x2)), (3, .ref o)] := hl
  unfold wL_read at hw
  refine vs_aload_n hC hl 3 dL_read_0 rfl rfl ?_
  refine vs_iconst hC dL_read_1 ?_
  refine vs_aload_n hC hl 0 dL_read_2 rfl rfl ?_
  refine vs_iload_n hC hl 1 dL_read_3 rfl rfl ?_
  refine vs_iload_n hC hl 2 dL_read_4 rfl rfl ?_
  refine vs_xcallVI [.int (vs_I x1), .int (vs_I x2)] hC hW hX 0 rfl rfl vk_X2_read vm_L_33 (c_X2_read l hst g sd h0 n0 aS aT aK (vs_WO g o O ++ wr) V S T K x1 x2 _ _ hw) rfl hl.1 rfl ⟨rfl, rfl⟩ ⟨Nat.le_of_ble_eq_true rfl, Nat.le_of_ble_eq_true rfl⟩ ⟨Nat.le_of_ble_eq_true rfl, Nat.le_of_ble_eq_true rfl⟩ (Nat.le_of_ble_eq_true rfl) dL_read_5 (fun k ce q9 H locs hp hW hq hv hcl => ?_) (fun r1 K2 H locs hw hW => ?_)
  · obtain ⟨hp0, hp1, hpk⟩ := hp
    rcases hpk with rfl | rfl
    · have hw := hp0 rfl
      refine vs_catch (hh := hhL_read) hC hX htab [] ⟨0, 10, 13, 21⟩ [⟨0, 10, 17, 15⟩] rfl (fun _ h => absurd h List.not_mem_nil) rfl (by decide) vt_21 (by decide +kernel) hq hv hcl ?_
      refine vs_astore (L' := [(0, .ref h0), (1, .int (vs_I x1)), (2, .int (vs_I x2)), (3, .ref o), (4, .ref q9)]) hC hl [1, 2, 3, 4, 0] dL_read_13 (by decide) rfl (fun ls hl => ?_)
      refine vs_iconst hC dL_read_15 ?_
      exact vx_ret (vs_iret (K, O) hC hr hlk hW rfl hw (Nat.le_of_ble_eq_true rfl) (Nat.le_of_ble_eq_true rfl) dL_read_16)
    · have hw := hp1 rfl
      refine vs_catch (hh := hhL_read) hC hX htab [⟨0, 10, 13, 21⟩] ⟨0, 10, 17, 15⟩ [] rfl (List.forall_mem_cons.mpr ⟨⟨by decide, 3, vt_21, by decide +kernel⟩, (fun _ h => absurd h List.not_mem_nil)⟩) rfl (by decide) vt_15 (by decide +kernel) hq hv hcl ?_
      refine vs_astore (L' := [(0, .ref h0), (1, .int (vs_I x1)), (2, .int (vs_I x2)), (3, .ref o), (4, .ref q9)]) hC hl [1, 2, 3, 4, 0] dL_read_17 (by decide) rfl (fun ls hl => ?_)
      refine vs_iconst hC dL_read_19 ?_
      exact vx_ret (vs_iret (K, O) hC hr hlk hW rfl hw (Nat.le_of_ble_eq_true rfl) (Nat.le_of_ble_eq_true rfl) dL_read_20)
  have hW : vs_Wd g A _ (vs_W2 h0 (aS 0) (aT 0) (aK 0) n0 V ++ (vs_W1 g aS S ++ (vs_W1 g aT T ++ (vs_W0 g aK K2 ++ (vs_WO g o O ++ wr))))) _ _ s := hW
  obtain ⟨hx, hw⟩ := hw
  refine vs_i2l hC hx dL_read_8 ?_
  obtain ⟨O3, hO3⟩ : ∃ z : vs_St, z = vs_st O 0 0 r1 := ⟨_, rfl⟩
  have hw := hw O3 hO3
  refine vs_last (Wo' := vs_W2 h0 (aS 0) (aT 0) (aK 0) n0 V ++ (vs_W1 g aS S ++ (vs_W1 g aT T ++ (vs_W0 g aK K2 ++ (vs_WO g o O3 ++ wr))))) hC hW 37 rfl (by rw [hO3]; rfl) dL_read_9 (fun H locs hW => ?_)
  refine vs_goto hC 21 dL_read_10 (by decide) ?_
  refine vs_iconst hC dL_read_21 ?_
  exact vx_ret (vs_iret (K2, O3) hC hr hlk hW rfl hw (Nat.le_of_ble_eq_true rfl) (Nat.le_of_ble_eq_true rfl) dL_read_22)
set_option maxHeartbeats 4000000 in
set_option maxRecDepth 100000 in
theorem c_L_write (l : Launch) (hst : l.stackTraces = false) (g : vs_G) (sd : Nat → Nat) (h0 n0 o : Nat) (aS aT aK : Nat → Nat) (wr : va_W) (V S T K : vs_St) (O : vs_St) (x1 : Int) (x2 : Int) (x3 : Int) (post : Int → vs_St → vs_St → Prop) (hw : wL_write V S T K O x1 x2 x3 post) : vs_HI l yL_write (Cond.codeWith yL_write cL_write 6 (some .int) hhL_write :: vs_ws) { frames := 9, cells := 4, slots := 24, locals := 156 } g sd [.ref h0, .int (vs_I x1), .int (vs_I x2), .int (vs_I x3), .ref o] (vs_W2 h0 (aS 0) (aT 0) (aK 0) n0 V ++ (vs_W1 g aS S ++ (vs_W1 g aT T ++ (vs_W0 g aK K ++ (vs_WO g o O ++ wr))))) (fun (u : vs_St × vs_St) => vs_W2 h0 (aS 0) (aT 0) (aK 0) n0 V ++ (vs_W1 g aS S ++ (vs_W1 g aT T ++ (vs_W0 g aK u.1 ++ (vs_WO g o u.2 ++ wr))))) (fun v (u : vs_St × vs_St) => post v u.1 u.2) 4 24 := by
  refine vs_ofH (Qc := fun A => vs_QI g A (fun (u : vs_St × vs_St) => vs_W2 h0 (aS 0) (aT 0) (aK 0) n0 V ++ (vs_W1 g aS S ++ (vs_W1 g aT T ++ (vs_W0 g aK u.1 ++ (vs_WO g o u.2 ++ wr))))) (fun v (u : vs_St × vs_St) => post v u.1 u.2)) (XC := fun A => vs_QX g A (vs_W2 h0 (aS 0) (aT 0) (aK 0) n0 V ++ (vs_W1 g aS S ++ (vs_W1 g aT T ++ (vs_W0 g aK K ++ (vs_WO g o O ++ wr))))) (fun _ => False)) (by decide +kernel) (Nat.le_of_ble_eq_true rfl) (fun p e s m below meth c A ls hC hr hlk htab hW hX hl => ?_)
  have hC : CallFix p m c cL_write 6 s _ vs_ws RL := hC
  have hl : lv_has ls 6 [(0, .ref h0), (1, .int (vs_I x1)), (2, .int (vs_I x2)), (3, .int (vs_I x3)), (4, .ref o)] := hl
  unfold wL_write at hw
  refine vs_aload hC hl 4 dL_write_0 rfl ?_
  refine vs_iconst hC dL_write_2 ?_
  refine vs_aload_n hC hl 0 dL_write_3 rfl rfl ?_
  refine vs_iload_n hC hl 1 dL_write_4 rfl rfl ?_
  refine vs_iload_n hC hl 2 dL_write_5 rfl rfl ?_
  refine vs_iload_n hC hl 3 dL_write_6 rfl rfl ?_
  refine vs_xcallVI [.int (vs_I x1), .int (vs_I x2), .int (vs_I x3)] hC hW hX 0 rfl rfl vk_X2_write vm_L_36 (c_X2_write l hst g sd h0 n0 aS aT aK (vs_WO g o O ++ wr) V S T K x1 x2 x3 _ _ hw) rfl hl.1 rfl ⟨rfl, rfl⟩ ⟨Nat.le_of_ble_eq_true rfl, Nat.le_of_ble_eq_true rfl⟩ ⟨Nat.le_of_ble_eq_true rfl, Nat.le_of_ble_eq_true rfl⟩ (Nat.le_of_ble_eq_true rfl) dL_write_7 (fun k ce q9 H locs hp hW hq hv hcl => ?_) (fun r1 K2 H locs hw hW => ?_)
  · obtain ⟨hp0, hp1, hp2, hpk⟩ := hp
    rcases hpk with rfl | rfl | rfl
    · have hw := hp0 rfl
      refine vs_catch (hh := hhL_write) hC hX htab [] ⟨0, 12, 15, 21⟩ [⟨0, 12, 19, 13⟩, ⟨0, 12, 23, 15⟩] rfl (fun _ h => absurd h List.not_mem_nil) rfl (by decide) vt_21 (by decide +kernel) hq hv hcl ?_
      refine vs_astore (L' := [(0, .ref h0), (1, .int (vs_I x1)), (2, .int (vs_I x2)), (3, .int (vs_I x3)), (4, .ref o), (5, .ref q9)]) hC hl [1, 2, 3, 4, 5, 0] dL_write_15 (by decide) rfl (fun ls hl => ?_)
      refine vs_iconst hC dL_write_17 ?_
      exact vx_ret (vs_iret (K, O) hC hr hlk hW rfl hw (Nat.le_of_ble_eq_true rfl) (Nat.le_of_ble_eq_true rfl) dL_write_18)
    · have hw := hp1 rfl
      refine vs_catch (hh := hhL_write) hC hX htab [⟨0, 12, 15, 21⟩] ⟨0, 12, 19, 13⟩ [⟨0, 12, 23, 15⟩] rfl (List.forall_mem_cons.mpr ⟨⟨by decide, 3, vt_21, by decide +kernel⟩, (fun _ h => absurd h List.not_mem_nil)⟩) rfl (by decide) vt_13 (by decide +kernel) hq hv hcl ?_
      refine vs_astore (L' := [(0, .ref h0), (1, .int (vs_I x1)), (2, .int (vs_I x2)), (3, .int (vs_I x3)), (4, .ref o), (5, .ref q9)]) hC hl [1, 2, 3, 4, 5, 0] dL_write_19 (by decide) rfl (fun ls hl => ?_)
      refine vs_iconst hC dL_write_21 ?_
      exact vx_ret (vs_iret (K, O) hC hr hlk hW rfl hw (Nat.le_of_ble_eq_true rfl) (Nat.le_of_ble_eq_true rfl) dL_write_22)
    · have hw := hp2 rfl
      refine vs_catch (hh := hhL_write) hC hX htab [⟨0, 12, 15, 21⟩, ⟨0, 12, 19, 13⟩] ⟨0, 12, 23, 15⟩ [] rfl (List.forall_mem_cons.mpr ⟨⟨by decide, 3, vt_21, by decide +kernel⟩, (List.forall_mem_cons.mpr ⟨⟨by decide, 1, vt_13, by decide +kernel⟩, (fun _ h => absurd h List.not_mem_nil)⟩)⟩) rfl (by decide) vt_15 (by decide +kernel) hq hv hcl ?_
      refine vs_astore (L' := [(0, .ref h0), (1, .int (vs_I x1)), (2, .int (vs_I x2)), (3, .int (vs_I x3)), (4, .ref o), (5, .ref q9)]) hC hl [1, 2, 3, 4, 5, 0] dL_write_23 (by decide) rfl (fun ls hl => ?_)
      refine vs_iconst hC dL_write_25 ?_
      exact vx_ret (vs_iret (K, O) hC hr hlk hW rfl hw (Nat.le_of_ble_eq_true rfl) (Nat.le_of_ble_eq_true rfl) dL_write_26)
  have hW : vs_Wd g A _ (vs_W2 h0 (aS 0) (aT 0) (aK 0) n0 V ++ (vs_W1 g aS S ++ (vs_W1 g aT T ++ (vs_W0 g aK K2 ++ (vs_WO g o O ++ wr))))) _ _ s := hW
  obtain ⟨hx, hw⟩ := hw
  refine vs_i2l hC hx dL_write_10 ?_
  obtain ⟨O3, hO3⟩ : ∃ z : vs_St, z = vs_st O 0 0 r1 := ⟨_, rfl⟩
  have hw := hw O3 hO3
  refine vs_last (Wo' := vs_W2 h0 (aS 0) (aT 0) (aK 0) n0 V ++ (vs_W1 g aS S ++ (vs_W1 g aT T ++ (vs_W0 g aK K2 ++ (vs_WO g o O3 ++ wr))))) hC hW 37 rfl (by rw [hO3]; rfl) dL_write_11 (fun H locs hW => ?_)
  refine vs_goto hC 27 dL_write_12 (by decide) ?_
  refine vs_iconst hC dL_write_27 ?_
  exact vx_ret (vs_iret (K2, O3) hC hr hlk hW rfl hw (Nat.le_of_ble_eq_true rfl) (Nat.le_of_ble_eq_true rfl) dL_write_28)
set_option maxHeartbeats 4000000 in
set_option maxRecDepth 100000 in
theorem c_L_stateOf (l : Launch) (hst : l.stackTraces = false) (g : vs_G) (sd : Nat → Nat) (h0 n0 o : Nat) (aS aT aK : Nat → Nat) (wr : va_W) (V S T K : vs_St) (O : vs_St) (x1 : Int) (post : Int → vs_St → Prop) (hw : wL_stateOf V S T K O x1 post) : vs_HI l yL_stateOf (Cond.codeWith yL_stateOf cL_stateOf 4 (some .int) hhL_stateOf :: vs_ws) { frames := 8, cells := 1, slots := 6, locals := 132 } g sd [.ref h0, .int (vs_I x1), .ref o] (vs_W2 h0 (aS 0) (aT 0) (aK 0) n0 V ++ (vs_W1 g aS S ++ (vs_W1 g aT T ++ (vs_W0 g aK K ++ (vs_WO g o O ++ wr))))) (fun (u : vs_St) => vs_W2 h0 (aS 0) (aT 0) (aK 0) n0 V ++ (vs_W1 g aS S ++ (vs_W1 g aT T ++ (vs_W0 g aK K ++ (vs_WO g o u ++ wr))))) post 1 6 := by
  refine vs_ofH (Qc := fun A => vs_QI g A (fun (u : vs_St) => vs_W2 h0 (aS 0) (aT 0) (aK 0) n0 V ++ (vs_W1 g aS S ++ (vs_W1 g aT T ++ (vs_W0 g aK K ++ (vs_WO g o u ++ wr))))) post) (XC := fun A => vs_QX g A (vs_W2 h0 (aS 0) (aT 0) (aK 0) n0 V ++ (vs_W1 g aS S ++ (vs_W1 g aT T ++ (vs_W0 g aK K ++ (vs_WO g o O ++ wr))))) (fun _ => False)) (by decide +kernel) (Nat.le_of_ble_eq_true rfl) (fun p e s m below meth c A ls hC hr hlk htab hW hX hl => ?_)
  have hC : CallFix p m c cL_stateOf 4 s _ vs_ws RL := hC
  have hl : lv_has ls 4 [(0, .ref h0), (1, .int (vs_I x1)), (2, .ref o)] := hl
  unfold wL_stateOf at hw
  refine vs_aload_n hC hl 2 dL_stateOf_0 rfl rfl ?_
  refine vs_iconst hC dL_stateOf_1 ?_
  refine vs_aload_n hC hl 0 dL_stateOf_2 rfl rfl ?_
  refine vs_iload_n hC hl 1 dL_stateOf_3 rfl rfl ?_
  refine vs_xcallVI [.int (vs_I x1)] hC hW hX 0 rfl rfl vk_X2_stateOf vm_L_40 (c_X2_stateOf l hst g sd h0 n0 aS aT aK (vs_WO g o O ++ wr) V S T K x1 _ _ hw) rfl hl.1 rfl ⟨rfl, rfl⟩ ⟨Nat.le_of_ble_eq_true rfl, Nat.le_of_ble_eq_true rfl⟩ ⟨Nat.le_of_ble_eq_true rfl, Nat.le_of_ble_eq_true rfl⟩ (Nat.le_of_ble_eq_true rfl) dL_stateOf_4 (fun k ce q9 H locs hp hW hq hv hcl => ?_) (fun r1 _ H locs hw hW => ?_)
  · obtain ⟨hp0, hpk⟩ := hp
    subst hpk
    · have hw := hp0 rfl
      refine vs_catch (hh := hhL_stateOf) hC hX htab [] ⟨0, 9, 12, 21⟩ [] rfl (fun _ h => absurd h List.not_mem_nil) rfl (by decide) vt_21 (by decide +kernel) hq hv hcl ?_
      refine vs_astore_n (L' := [(0, .ref h0), (1, .int (vs_I x1)), (2, .ref o), (3, .ref q9)]) hC hl [1, 2, 3, 0] dL_stateOf_12 rfl (by decide) rfl (fun ls hl => ?_)
      refine vs_iconst hC dL_stateOf_13 ?_
      exact vx_ret (vs_iret (O) hC hr hlk hW rfl hw (Nat.le_of_ble_eq_true rfl) (Nat.le_of_ble_eq_true rfl) dL_stateOf_14)
  have hW : vs_Wd g A _ (vs_W2 h0 (aS 0) (aT 0) (aK 0) n0 V ++ (vs_W1 g aS S ++ (vs_W1 g aT T ++ (vs_W0 g aK K ++ (vs_WO g o O ++ wr))))) _ _ s := hW
  obtain ⟨hx, hw⟩ := hw
  refine vs_i2l hC hx dL_stateOf_7 ?_
  obtain ⟨O2, hO2⟩ : ∃ z : vs_St, z = vs_st O 0 0 r1 := ⟨_, rfl⟩
  have hw := hw O2 hO2
  refine vs_last (Wo' := vs_W2 h0 (aS 0) (aT 0) (aK 0) n0 V ++ (vs_W1 g aS S ++ (vs_W1 g aT T ++ (vs_W0 g aK K ++ (vs_WO g o O2 ++ wr))))) hC hW 37 rfl (by rw [hO2]; rfl) dL_stateOf_8 (fun H locs hW => ?_)
  refine vs_goto hC 15 dL_stateOf_9 (by decide) ?_
  refine vs_iconst hC dL_stateOf_15 ?_
  exact vx_ret (vs_iret (O2) hC hr hlk hW rfl hw (Nat.le_of_ble_eq_true rfl) (Nat.le_of_ble_eq_true rfl) dL_stateOf_16)
set_option maxHeartbeats 4000000 in
set_option maxRecDepth 100000 in
theorem c_L_answerTo (l : Launch) (hst : l.stackTraces = false) (g : vs_G) (sd : Nat → Nat) (h0 n0 o : Nat) (aS aT aK : Nat → Nat) (wr : va_W) (V S T K : vs_St) (O : vs_St) (x1 : Int) (post : Int → vs_St → Prop) (hw : wL_answerTo V S T K O x1 post) : vs_HI l yL_answerTo (Cond.codeWith yL_answerTo cL_answerTo 4 (some .int) hhL_answerTo :: vs_ws) { frames := 8, cells := 2, slots := 12, locals := 132 } g sd [.ref h0, .int (vs_I x1), .ref o] (vs_W2 h0 (aS 0) (aT 0) (aK 0) n0 V ++ (vs_W1 g aS S ++ (vs_W1 g aT T ++ (vs_W0 g aK K ++ (vs_WO g o O ++ wr))))) (fun (u : vs_St) => vs_W2 h0 (aS 0) (aT 0) (aK 0) n0 V ++ (vs_W1 g aS S ++ (vs_W1 g aT T ++ (vs_W0 g aK K ++ (vs_WO g o u ++ wr))))) post 2 12 := by
  refine vs_ofH (Qc := fun A => vs_QI g A (fun (u : vs_St) => vs_W2 h0 (aS 0) (aT 0) (aK 0) n0 V ++ (vs_W1 g aS S ++ (vs_W1 g aT T ++ (vs_W0 g aK K ++ (vs_WO g o u ++ wr))))) post) (XC := fun A => vs_QX g A (vs_W2 h0 (aS 0) (aT 0) (aK 0) n0 V ++ (vs_W1 g aS S ++ (vs_W1 g aT T ++ (vs_W0 g aK K ++ (vs_WO g o O ++ wr))))) (fun _ => False)) (by decide +kernel) (Nat.le_of_ble_eq_true rfl) (fun p e s m below meth c A ls hC hr hlk htab hW hX hl => ?_)
  have hC : CallFix p m c cL_answerTo 4 s _ vs_ws RL := hC
  have hl : lv_has ls 4 [(0, .ref h0), (1, .int (vs_I x1)), (2, .ref o)] := hl
  unfold wL_answerTo at hw
  refine vs_aload_n hC hl 2 dL_answerTo_0 rfl rfl ?_
  refine vs_iconst hC dL_answerTo_1 ?_
  refine vs_aload_n hC hl 0 dL_answerTo_2 rfl rfl ?_
  refine vs_iload_n hC hl 1 dL_answerTo_3 rfl rfl ?_
  refine vs_xcallVI [.int (vs_I x1)] hC hW hX 0 rfl rfl vk_X2_answerTo vm_L_43 (c_X2_answerTo l hst g sd h0 n0 aS aT aK (vs_WO g o O ++ wr) V S T K x1 _ _ hw) rfl hl.1 rfl ⟨rfl, rfl⟩ ⟨Nat.le_of_ble_eq_true rfl, Nat.le_of_ble_eq_true rfl⟩ ⟨Nat.le_of_ble_eq_true rfl, Nat.le_of_ble_eq_true rfl⟩ (Nat.le_of_ble_eq_true rfl) dL_answerTo_4 (fun k ce q9 H locs hp hW hq hv hcl => ?_) (fun r1 _ H locs hw hW => ?_)
  · obtain ⟨hp0, hp1, hpk⟩ := hp
    rcases hpk with rfl | rfl
    · have hw := hp0 rfl
      refine vs_catch (hh := hhL_answerTo) hC hX htab [] ⟨0, 9, 12, 21⟩ [⟨0, 9, 15, 46⟩] rfl (fun _ h => absurd h List.not_mem_nil) rfl (by decide) vt_21 (by decide +kernel) hq hv hcl ?_
      refine vs_astore_n (L' := [(0, .ref h0), (1, .int (vs_I x1)), (2, .ref o), (3, .ref q9)]) hC hl [1, 2, 3, 0] dL_answerTo_12 rfl (by decide) rfl (fun ls hl => ?_)
      refine vs_iconst hC dL_answerTo_13 ?_
      exact vx_ret (vs_iret (O) hC hr hlk hW rfl hw (Nat.le_of_ble_eq_true rfl) (Nat.le_of_ble_eq_true rfl) dL_answerTo_14)
    · have hw := hp1 rfl
      refine vs_catch (hh := hhL_answerTo) hC hX htab [⟨0, 9, 12, 21⟩] ⟨0, 9, 15, 46⟩ [] rfl (List.forall_mem_cons.mpr ⟨⟨by decide, 3, vt_21, by decide +kernel⟩, (fun _ h => absurd h List.not_mem_nil)⟩) rfl (by decide) vt_46 (by decide +kernel) hq hv hcl ?_
      refine vs_astore_n (L' := [(0, .ref h0), (1, .int (vs_I x1)), (2, .ref o), (3, .ref q9)]) hC hl [1, 2, 3, 0] dL_answerTo_15 rfl (by decide) rfl (fun ls hl => ?_)
      refine vs_iconst hC dL_answerTo_16 ?_
      exact vx_ret (vs_iret (O) hC hr hlk hW rfl hw (Nat.le_of_ble_eq_true rfl) (Nat.le_of_ble_eq_true rfl) dL_answerTo_17)
  have hW : vs_Wd g A _ (vs_W2 h0 (aS 0) (aT 0) (aK 0) n0 V ++ (vs_W1 g aS S ++ (vs_W1 g aT T ++ (vs_W0 g aK K ++ (vs_WO g o O ++ wr))))) _ _ s := hW
  obtain ⟨hx, hw⟩ := hw
  refine vs_i2l hC hx dL_answerTo_7 ?_
  obtain ⟨O2, hO2⟩ : ∃ z : vs_St, z = vs_st O 0 0 r1 := ⟨_, rfl⟩
  have hw := hw O2 hO2
  refine vs_last (Wo' := vs_W2 h0 (aS 0) (aT 0) (aK 0) n0 V ++ (vs_W1 g aS S ++ (vs_W1 g aT T ++ (vs_W0 g aK K ++ (vs_WO g o O2 ++ wr))))) hC hW 37 rfl (by rw [hO2]; rfl) dL_answerTo_8 (fun H locs hW => ?_)
  refine vs_goto hC 18 dL_answerTo_9 (by decide) ?_
  refine vs_iconst hC dL_answerTo_18 ?_
  exact vx_ret (vs_iret (O2) hC hr hlk hW rfl hw (Nat.le_of_ble_eq_true rfl) (Nat.le_of_ble_eq_true rfl) dL_answerTo_19)
set_option maxHeartbeats 4000000 in
set_option maxRecDepth 100000 in
theorem c_L_waitingOf (l : Launch) (hst : l.stackTraces = false) (g : vs_G) (sd : Nat → Nat) (h0 n0 o : Nat) (aS aT aK : Nat → Nat) (wr : va_W) (V S T K : vs_St) (O : vs_St) (x1 : Int) (post : Int → vs_St → Prop) (hw : wL_waitingOf V S T K O x1 post) : vs_HI l yL_waitingOf (Cond.codeWith yL_waitingOf cL_waitingOf 4 (some .int) hhL_waitingOf :: vs_ws) { frames := 8, cells := 1, slots := 6, locals := 132 } g sd [.ref h0, .int (vs_I x1), .ref o] (vs_W2 h0 (aS 0) (aT 0) (aK 0) n0 V ++ (vs_W1 g aS S ++ (vs_W1 g aT T ++ (vs_W0 g aK K ++ (vs_WO g o O ++ wr))))) (fun (u : vs_St) => vs_W2 h0 (aS 0) (aT 0) (aK 0) n0 V ++ (vs_W1 g aS S ++ (vs_W1 g aT T ++ (vs_W0 g aK K ++ (vs_WO g o u ++ wr))))) post 1 6 := by
  refine vs_ofH (Qc := fun A => vs_QI g A (fun (u : vs_St) => vs_W2 h0 (aS 0) (aT 0) (aK 0) n0 V ++ (vs_W1 g aS S ++ (vs_W1 g aT T ++ (vs_W0 g aK K ++ (vs_WO g o u ++ wr))))) post) (XC := fun A => vs_QX g A (vs_W2 h0 (aS 0) (aT 0) (aK 0) n0 V ++ (vs_W1 g aS S ++ (vs_W1 g aT T ++ (vs_W0 g aK K ++ (vs_WO g o O ++ wr))))) (fun _ => False)) (by decide +kernel) (Nat.le_of_ble_eq_true rfl) (fun p e s m below meth c A ls hC hr hlk htab hW hX hl => ?_)
  have hC : CallFix p m c cL_waitingOf 4 s _ vs_ws RL := hC
  have hl : lv_has ls 4 [(0, .ref h0), (1, .int (vs_I x1)), (2, .ref o)] := hl
  unfold wL_waitingOf at hw
  refine vs_aload_n hC hl 2 dL_waitingOf_0 rfl rfl ?_
  refine vs_iconst hC dL_waitingOf_1 ?_
  refine vs_aload_n hC hl 0 dL_waitingOf_2 rfl rfl ?_
  refine vs_iload_n hC hl 1 dL_waitingOf_3 rfl rfl ?_
  refine vs_xcallVI [.int (vs_I x1)] hC hW hX 0 rfl rfl vk_X2_waitingOf vm_L_48 (c_X2_waitingOf l hst g sd h0 n0 aS aT aK (vs_WO g o O ++ wr) V S T K x1 _ _ hw) rfl hl.1 rfl ⟨rfl, rfl⟩ ⟨Nat.le_of_ble_eq_true rfl, Nat.le_of_ble_eq_true rfl⟩ ⟨Nat.le_of_ble_eq_true rfl, Nat.le_of_ble_eq_true rfl⟩ (Nat.le_of_ble_eq_true rfl) dL_waitingOf_4 (fun k ce q9 H locs hp hW hq hv hcl => ?_) (fun r1 _ H locs hw hW => ?_)
  · obtain ⟨hp0, hpk⟩ := hp
    subst hpk
    · have hw := hp0 rfl
      refine vs_catch (hh := hhL_waitingOf) hC hX htab [] ⟨0, 9, 12, 21⟩ [] rfl (fun _ h => absurd h List.not_mem_nil) rfl (by decide) vt_21 (by decide +kernel) hq hv hcl ?_
      refine vs_astore_n (L' := [(0, .ref h0), (1, .int (vs_I x1)), (2, .ref o), (3, .ref q9)]) hC hl [1, 2, 3, 0] dL_waitingOf_12 rfl (by decide) rfl (fun ls hl => ?_)
      refine vs_iconst hC dL_waitingOf_13 ?_
      exact vx_ret (vs_iret (O) hC hr hlk hW rfl hw (Nat.le_of_ble_eq_true rfl) (Nat.le_of_ble_eq_true rfl) dL_waitingOf_14)
  have hW : vs_Wd g A _ (vs_W2 h0 (aS 0) (aT 0) (aK 0) n0 V ++ (vs_W1 g aS S ++ (vs_W1 g aT T ++ (vs_W0 g aK K ++ (vs_WO g o O ++ wr))))) _ _ s := hW
  obtain ⟨hx, hw⟩ := hw
  refine vs_i2l hC hx dL_waitingOf_7 ?_
  obtain ⟨O2, hO2⟩ : ∃ z : vs_St, z = vs_st O 0 0 r1 := ⟨_, rfl⟩
  have hw := hw O2 hO2
  refine vs_last (Wo' := vs_W2 h0 (aS 0) (aT 0) (aK 0) n0 V ++ (vs_W1 g aS S ++ (vs_W1 g aT T ++ (vs_W0 g aK K ++ (vs_WO g o O2 ++ wr))))) hC hW 37 rfl (by rw [hO2]; rfl) dL_waitingOf_8 (fun H locs hW => ?_)
  refine vs_goto hC 15 dL_waitingOf_9 (by decide) ?_
  refine vs_iconst hC dL_waitingOf_15 ?_
  exact vx_ret (vs_iret (O2) hC hr hlk hW rfl hw (Nat.le_of_ble_eq_true rfl) (Nat.le_of_ble_eq_true rfl) dL_waitingOf_16)
set_option maxHeartbeats 4000000 in
set_option maxRecDepth 100000 in
theorem c_L_servedOf (l : Launch) (hst : l.stackTraces = false) (g : vs_G) (sd : Nat → Nat) (h0 n0 o : Nat) (aS aT aK : Nat → Nat) (wr : va_W) (V S T K : vs_St) (O : vs_St) (x1 : Int) (post : Int → vs_St → Prop) (hw : wL_servedOf V S T K O x1 post) : vs_HI l yL_servedOf (Cond.codeWith yL_servedOf cL_servedOf 4 (some .int) hhL_servedOf :: vs_ws) { frames := 8, cells := 1, slots := 6, locals := 132 } g sd [.ref h0, .int (vs_I x1), .ref o] (vs_W2 h0 (aS 0) (aT 0) (aK 0) n0 V ++ (vs_W1 g aS S ++ (vs_W1 g aT T ++ (vs_W0 g aK K ++ (vs_WO g o O ++ wr))))) (fun (u : vs_St) => vs_W2 h0 (aS 0) (aT 0) (aK 0) n0 V ++ (vs_W1 g aS S ++ (vs_W1 g aT T ++ (vs_W0 g aK K ++ (vs_WO g o u ++ wr))))) post 1 6 := by
  refine vs_ofH (Qc := fun A => vs_QI g A (fun (u : vs_St) => vs_W2 h0 (aS 0) (aT 0) (aK 0) n0 V ++ (vs_W1 g aS S ++ (vs_W1 g aT T ++ (vs_W0 g aK K ++ (vs_WO g o u ++ wr))))) post) (XC := fun A => vs_QX g A (vs_W2 h0 (aS 0) (aT 0) (aK 0) n0 V ++ (vs_W1 g aS S ++ (vs_W1 g aT T ++ (vs_W0 g aK K ++ (vs_WO g o O ++ wr))))) (fun _ => False)) (by decide +kernel) (Nat.le_of_ble_eq_true rfl) (fun p e s m below meth c A ls hC hr hlk htab hW hX hl => ?_)
  have hC : CallFix p m c cL_servedOf 4 s _ vs_ws RL := hC
  have hl : lv_has ls 4 [(0, .ref h0), (1, .int (vs_I x1)), (2, .ref o)] := hl
  unfold wL_servedOf at hw
  refine vs_aload_n hC hl 2 dL_servedOf_0 rfl rfl ?_
  refine vs_iconst hC dL_servedOf_1 ?_
  refine vs_aload_n hC hl 0 dL_servedOf_2 rfl rfl ?_
  refine vs_iload_n hC hl 1 dL_servedOf_3 rfl rfl ?_
  refine vs_xcallVI [.int (vs_I x1)] hC hW hX 0 rfl rfl vk_X2_servedOf vm_L_51 (c_X2_servedOf l hst g sd h0 n0 aS aT aK (vs_WO g o O ++ wr) V S T K x1 _ _ hw) rfl hl.1 rfl ⟨rfl, rfl⟩ ⟨Nat.le_of_ble_eq_true rfl, Nat.le_of_ble_eq_true rfl⟩ ⟨Nat.le_of_ble_eq_true rfl, Nat.le_of_ble_eq_true rfl⟩ (Nat.le_of_ble_eq_true rfl) dL_servedOf_4 (fun k ce q9 H locs hp hW hq hv hcl => ?_) (fun r1 _ H locs hw hW => ?_)
  · obtain ⟨hp0, hpk⟩ := hp
    subst hpk
    · have hw := hp0 rfl
      refine vs_catch (hh := hhL_servedOf) hC hX htab [] ⟨0, 9, 12, 21⟩ [] rfl (fun _ h => absurd h List.not_mem_nil) rfl (by decide) vt_21 (by decide +kernel) hq hv hcl ?_
      refine vs_astore_n (L' := [(0, .ref h0), (1, .int (vs_I x1)), (2, .ref o), (3, .ref q9)]) hC hl [1, 2, 3, 0] dL_servedOf_12 rfl (by decide) rfl (fun ls hl => ?_)
      refine vs_iconst hC dL_servedOf_13 ?_
      exact vx_ret (vs_iret (O) hC hr hlk hW rfl hw (Nat.le_of_ble_eq_true rfl) (Nat.le_of_ble_eq_true rfl) dL_servedOf_14)
  have hW : vs_Wd g A _ (vs_W2 h0 (aS 0) (aT 0) (aK 0) n0 V ++ (vs_W1 g aS S ++ (vs_W1 g aT T ++ (vs_W0 g aK K ++ (vs_WO g o O ++ wr))))) _ _ s := hW
  obtain ⟨hx, hw⟩ := hw
  refine vs_i2l hC hx dL_servedOf_7 ?_
  obtain ⟨O2, hO2⟩ : ∃ z : vs_St, z = vs_st O 0 0 r1 := ⟨_, rfl⟩
  have hw := hw O2 hO2
  refine vs_last (Wo' := vs_W2 h0 (aS 0) (aT 0) (aK 0) n0 V ++ (vs_W1 g aS S ++ (vs_W1 g aT T ++ (vs_W0 g aK K ++ (vs_WO g o O2 ++ wr))))) hC hW 37 rfl (by rw [hO2]; rfl) dL_servedOf_8 (fun H locs hW => ?_)
  refine vs_goto hC 15 dL_servedOf_9 (by decide) ?_
  refine vs_iconst hC dL_servedOf_15 ?_
  exact vx_ret (vs_iret (O2) hC hr hlk hW rfl hw (Nat.le_of_ble_eq_true rfl) (Nat.le_of_ble_eq_true rfl) dL_servedOf_16)
set_option maxHeartbeats 4000000 in
set_option maxRecDepth 100000 in
theorem c_L_creditsOf (l : Launch) (hst : l.stackTraces = false) (g : vs_G) (sd : Nat → Nat) (h0 n0 o : Nat) (aS aT aK : Nat → Nat) (wr : va_W) (V S T K : vs_St) (O : vs_St) (x1 : Int) (post : Int → vs_St → Prop) (hw : wL_creditsOf V S T K O x1 post) : vs_HI l yL_creditsOf (Cond.codeWith yL_creditsOf cL_creditsOf 4 (some .int) hhL_creditsOf :: vs_ws) { frames := 8, cells := 1, slots := 6, locals := 132 } g sd [.ref h0, .int (vs_I x1), .ref o] (vs_W2 h0 (aS 0) (aT 0) (aK 0) n0 V ++ (vs_W1 g aS S ++ (vs_W1 g aT T ++ (vs_W0 g aK K ++ (vs_WO g o O ++ wr))))) (fun (u : vs_St) => vs_W2 h0 (aS 0) (aT 0) (aK 0) n0 V ++ (vs_W1 g aS S ++ (vs_W1 g aT T ++ (vs_W0 g aK K ++ (vs_WO g o u ++ wr))))) post 1 6 := by
  refine vs_ofH (Qc := fun A => vs_QI g A (fun (u : vs_St) => vs_W2 h0 (aS 0) (aT 0) (aK 0) n0 V ++ (vs_W1 g aS S ++ (vs_W1 g aT T ++ (vs_W0 g aK K ++ (vs_WO g o u ++ wr))))) post) (XC := fun A => vs_QX g A (vs_W2 h0 (aS 0) (aT 0) (aK 0) n0 V ++ (vs_W1 g aS S ++ (vs_W1 g aT T ++ (vs_W0 g aK K ++ (vs_WO g o O ++ wr))))) (fun _ => False)) (by decide +kernel) (Nat.le_of_ble_eq_true rfl) (fun p e s m below meth c A ls hC hr hlk htab hW hX hl => ?_)
  have hC : CallFix p m c cL_creditsOf 4 s _ vs_ws RL := hC
  have hl : lv_has ls 4 [(0, .ref h0), (1, .int (vs_I x1)), (2, .ref o)] := hl
  unfold wL_creditsOf at hw
  refine vs_aload_n hC hl 2 dL_creditsOf_0 rfl rfl ?_
  refine vs_iconst hC dL_creditsOf_1 ?_
  refine vs_aload_n hC hl 0 dL_creditsOf_2 rfl rfl ?_
  refine vs_iload_n hC hl 1 dL_creditsOf_3 rfl rfl ?_
  refine vs_xcallVI [.int (vs_I x1)] hC hW hX 0 rfl rfl vk_X2_creditsOf vm_L_54 (c_X2_creditsOf l hst g sd h0 n0 aS aT aK (vs_WO g o O ++ wr) V S T K x1 _ _ hw) rfl hl.1 rfl ⟨rfl, rfl⟩ ⟨Nat.le_of_ble_eq_true rfl, Nat.le_of_ble_eq_true rfl⟩ ⟨Nat.le_of_ble_eq_true rfl, Nat.le_of_ble_eq_true rfl⟩ (Nat.le_of_ble_eq_true rfl) dL_creditsOf_4 (fun k ce q9 H locs hp hW hq hv hcl => ?_) (fun r1 _ H locs hw hW => ?_)
  · obtain ⟨hp0, hpk⟩ := hp
    subst hpk
    · have hw := hp0 rfl
      refine vs_catch (hh := hhL_creditsOf) hC hX htab [] ⟨0, 9, 12, 21⟩ [] rfl (fun _ h => absurd h List.not_mem_nil) rfl (by decide) vt_21 (by decide +kernel) hq hv hcl ?_
      refine vs_astore_n (L' := [(0, .ref h0), (1, .int (vs_I x1)), (2, .ref o), (3, .ref q9)]) hC hl [1, 2, 3, 0] dL_creditsOf_12 rfl (by decide) rfl (fun ls hl => ?_)
      refine vs_iconst hC dL_creditsOf_13 ?_
      exact vx_ret (vs_iret (O) hC hr hlk hW rfl hw (Nat.le_of_ble_eq_true rfl) (Nat.le_of_ble_eq_true rfl) dL_creditsOf_14)
  have hW : vs_Wd g A _ (vs_W2 h0 (aS 0) (aT 0) (aK 0) n0 V ++ (vs_W1 g aS S ++ (vs_W1 g aT T ++ (vs_W0 g aK K ++ (vs_WO g o O ++ wr))))) _ _ s := hW
  obtain ⟨hx, hw⟩ := hw
  refine vs_i2l hC hx dL_creditsOf_7 ?_
  obtain ⟨O2, hO2⟩ : ∃ z : vs_St, z = vs_st O 0 0 r1 := ⟨_, rfl⟩
  have hw := hw O2 hO2
  refine vs_last (Wo' := vs_W2 h0 (aS 0) (aT 0) (aK 0) n0 V ++ (vs_W1 g aS S ++ (vs_W1 g aT T ++ (vs_W0 g aK K ++ (vs_WO g o O2 ++ wr))))) hC hW 37 rfl (by rw [hO2]; rfl) dL_creditsOf_8 (fun H locs hW => ?_)
  refine vs_goto hC 15 dL_creditsOf_9 (by decide) ?_
  refine vs_iconst hC dL_creditsOf_15 ?_
  exact vx_ret (vs_iret (O2) hC hr hlk hW rfl hw (Nat.le_of_ble_eq_true rfl) (Nat.le_of_ble_eq_true rfl) dL_creditsOf_16)
set_option maxHeartbeats 4000000 in
set_option maxRecDepth 100000 in
theorem c_L_breachesOf (l : Launch) (hst : l.stackTraces = false) (g : vs_G) (sd : Nat → Nat) (h0 n0 o : Nat) (aS aT aK : Nat → Nat) (wr : va_W) (V S T K : vs_St) (O : vs_St) (x1 : Int) (post : Int → vs_St → Prop) (hw : wL_breachesOf V S T K O x1 post) : vs_HI l yL_breachesOf (Cond.codeWith yL_breachesOf cL_breachesOf 4 (some .int) hhL_breachesOf :: vs_ws) { frames := 8, cells := 1, slots := 6, locals := 132 } g sd [.ref h0, .int (vs_I x1), .ref o] (vs_W2 h0 (aS 0) (aT 0) (aK 0) n0 V ++ (vs_W1 g aS S ++ (vs_W1 g aT T ++ (vs_W0 g aK K ++ (vs_WO g o O ++ wr))))) (fun (u : vs_St) => vs_W2 h0 (aS 0) (aT 0) (aK 0) n0 V ++ (vs_W1 g aS S ++ (vs_W1 g aT T ++ (vs_W0 g aK K ++ (vs_WO g o u ++ wr))))) post 1 6 := by
  refine vs_ofH (Qc := fun A => vs_QI g A (fun (u : vs_St) => vs_W2 h0 (aS 0) (aT 0) (aK 0) n0 V ++ (vs_W1 g aS S ++ (vs_W1 g aT T ++ (vs_W0 g aK K ++ (vs_WO g o u ++ wr))))) post) (XC := fun A => vs_QX g A (vs_W2 h0 (aS 0) (aT 0) (aK 0) n0 V ++ (vs_W1 g aS S ++ (vs_W1 g aT T ++ (vs_W0 g aK K ++ (vs_WO g o O ++ wr))))) (fun _ => False)) (by decide +kernel) (Nat.le_of_ble_eq_true rfl) (fun p e s m below meth c A ls hC hr hlk htab hW hX hl => ?_)
  have hC : CallFix p m c cL_breachesOf 4 s _ vs_ws RL := hC
  have hl : lv_has ls 4 [(0, .ref h0), (1, .int (vs_I x1)), (2, .ref o)] := hl
  unfold wL_breachesOf at hw
  refine vs_aload_n hC hl 2 dL_breachesOf_0 rfl rfl ?_
  refine vs_iconst hC dL_breachesOf_1 ?_
  refine vs_aload_n hC hl 0 dL_breachesOf_2 rfl rfl ?_
  refine vs_iload_n hC hl 1 dL_breachesOf_3 rfl rfl ?_
  refine vs_xcallVI [.int (vs_I x1)] hC hW hX 0 rfl rfl vk_X2_breachesOf vm_L_57 (c_X2_breachesOf l hst g sd h0 n0 aS aT aK (vs_WO g o O ++ wr) V S T K x1 _ _ hw) rfl hl.1 rfl ⟨rfl, rfl⟩ ⟨Nat.le_of_ble_eq_true rfl, Nat.le_of_ble_eq_true rfl⟩ ⟨Nat.le_of_ble_eq_true rfl, Nat.le_of_ble_eq_true rfl⟩ (Nat.le_of_ble_eq_true rfl) dL_breachesOf_4 (fun k ce q9 H locs hp hW hq hv hcl => ?_) (fun r1 _ H locs hw hW => ?_)
  · obtain ⟨hp0, hpk⟩ := hp
    subst hpk
    · have hw := hp0 rfl
      refine vs_catch (hh := hhL_breachesOf) hC hX htab [] ⟨0, 9, 12, 21⟩ [] rfl (fun _ h => absurd h List.not_mem_nil) rfl (by decide) vt_21 (by decide +kernel) hq hv hcl ?_
      refine vs_astore_n (L' := [(0, .ref h0), (1, .int (vs_I x1)), (2, .ref o), (3, .ref q9)]) hC hl [1, 2, 3, 0] dL_breachesOf_12 rfl (by decide) rfl (fun ls hl => ?_)
      refine vs_iconst hC dL_breachesOf_13 ?_
      exact vx_ret (vs_iret (O) hC hr hlk hW rfl hw (Nat.le_of_ble_eq_true rfl) (Nat.le_of_ble_eq_true rfl) dL_breachesOf_14)
  have hW : vs_Wd g A _ (vs_W2 h0 (aS 0) (aT 0) (aK 0) n0 V ++ (vs_W1 g aS S ++ (vs_W1 g aT T ++ (vs_W0 g aK K ++ (vs_WO g o O ++ wr))))) _ _ s := hW
  obtain ⟨hx, hw⟩ := hw
  refine vs_i2l hC hx dL_breachesOf_7 ?_
  obtain ⟨O2, hO2⟩ : ∃ z : vs_St, z = vs_st O 0 0 r1 := ⟨_, rfl⟩
  have hw := hw O2 hO2
  refine vs_last (Wo' := vs_W2 h0 (aS 0) (aT 0) (aK 0) n0 V ++ (vs_W1 g aS S ++ (vs_W1 g aT T ++ (vs_W0 g aK K ++ (vs_WO g o O2 ++ wr))))) hC hW 37 rfl (by rw [hO2]; rfl) dL_breachesOf_8 (fun H locs hW => ?_)
  refine vs_goto hC 15 dL_breachesOf_9 (by decide) ?_
  refine vs_iconst hC dL_breachesOf_15 ?_
  exact vx_ret (vs_iret (O2) hC hr hlk hW rfl hw (Nat.le_of_ble_eq_true rfl) (Nat.le_of_ble_eq_true rfl) dL_breachesOf_16)
set_option maxHeartbeats 4000000 in
set_option maxRecDepth 100000 in
theorem c_L_pass (l : Launch) (hst : l.stackTraces = false) (g : vs_G) (sd : Nat → Nat) (h0 n0 o : Nat) (aS aT aK : Nat → Nat) (wr : va_W) (V S T K : vs_St) (O : vs_St) (x1 : Int) (post : Int → vs_St → vs_St → vs_St → vs_St → Prop) (hw : wL_pass V S T K O x1 post) : vs_HI l yL_pass (Cond.codeWith yL_pass cL_pass 4 (some .int) hhL_pass :: vs_ws) { frames := 7, cells := 1, slots := 6, locals := 168 } g sd [.ref h0, .int (vs_I x1), .ref o] (vs_W2 h0 (aS 0) (aT 0) (aK 0) n0 V ++ (vs_W1 g aS S ++ (vs_W1 g aT T ++ (vs_W0 g aK K ++ (vs_WO g o O ++ wr))))) (fun (u : vs_St × vs_St × vs_St × vs_St) => vs_W2 h0 (aS 0) (aT 0) (aK 0) n0 u.1 ++ (vs_W1 g aS u.2.1 ++ (vs_W1 g aT T ++ (vs_W0 g aK u.2.2.1 ++ (vs_WO g o u.2.2.2 ++ wr))))) (fun v (u : vs_St × vs_St × vs_St × vs_St) => post v u.1 u.2.1 u.2.2.1 u.2.2.2) 1 6 := by
  refine vs_ofH (Qc := fun A => vs_QI g A (fun (u : vs_St × vs_St × vs_St × vs_St) => vs_W2 h0 (aS 0) (aT 0) (aK 0) n0 u.1 ++ (vs_W1 g aS u.2.1 ++ (vs_W1 g aT T ++ (vs_W0 g aK u.2.2.1 ++ (vs_WO g o u.2.2.2 ++ wr))))) (fun v (u : vs_St × vs_St × vs_St × vs_St) => post v u.1 u.2.1 u.2.2.1 u.2.2.2)) (XC := fun A => vs_QX g A (vs_W2 h0 (aS 0) (aT 0) (aK 0) n0 V ++ (vs_W1 g aS S ++ (vs_W1 g aT T ++ (vs_W0 g aK K ++ (vs_WO g o O ++ wr))))) (fun _ => False)) (by decide +kernel) (Nat.le_of_ble_eq_true rfl) (fun p e s m below meth c A ls hC hr hlk htab hW hX hl => ?_)
  have hC : CallFix p m c cL_pass 4 s _ vs_ws RL := hC
  have hl : lv_has ls 4 [(0, .ref h0), (1, .int (vs_I x1)), (2, .ref o)] := hl
  unfold wL_pass at hw
  refine vs_aload_n hC hl 2 dL_pass_0 rfl rfl ?_
  refine vs_iconst hC dL_pass_1 ?_
  refine vs_aload_n hC hl 0 dL_pass_2 rfl rfl ?_
  refine vs_iload_n hC hl 1 dL_pass_3 rfl rfl ?_
  refine vs_xcallVI [.int (vs_I x1)] hC hW hX 0 rfl rfl vk_X2_pass vm_L_60 (c_X2_pass l hst g sd h0 n0 aS aT aK (vs_WO g o O ++ wr) V S T K x1 _ _ hw) rfl hl.1 rfl ⟨rfl, rfl⟩ ⟨Nat.le_of_ble_eq_true rfl, Nat.le_of_ble_eq_true rfl⟩ ⟨Nat.le_of_ble_eq_true rfl, Nat.le_of_ble_eq_true rfl⟩ (Nat.le_of_ble_eq_true rfl) dL_pass_4 (fun k ce q9 H locs hp hW hq hv hcl => ?_) (fun r1 u H locs hw hW => ?_)
  · obtain ⟨hp0, hp1, hpk⟩ := hp
    rcases hpk with rfl | rfl
    · have hw := hp0 rfl
      refine vs_catch (hh := hhL_pass) hC hX htab [] ⟨0, 9, 12, 13⟩ [⟨0, 9, 15, 15⟩] rfl (fun _ h => absurd h List.not_mem_nil) rfl (by decide) vt_13 (by decide +kernel) hq hv hcl ?_
      refine vs_astore_n (L' := [(0, .ref h0), (1, .int (vs_I x1)), (2, .ref o), (3, .ref q9)]) hC hl [1, 2, 3, 0] dL_pass_12 rfl (by decide) rfl (fun ls hl => ?_)
      refine vs_iconst hC dL_pass_13 ?_
      exact vx_ret (vs_iret (V, S, K, O) hC hr hlk hW rfl hw (Nat.le_of_ble_eq_true rfl) (Nat.le_of_ble_eq_true rfl) dL_pass_14)
    · have hw := hp1 rfl
      refine vs_catch (hh := hhL_pass) hC hX htab [⟨0, 9, 12, 13⟩] ⟨0, 9, 15, 15⟩ [] rfl (List.forall_mem_cons.mpr ⟨⟨by decide, 1, vt_13, by decide +kernel⟩, (fun _ h => absurd h List.not_mem_nil)⟩) rfl (by decide) vt_15 (by decide +kernel) hq hv hcl ?_
      refine vs_astore_n (L' := [(0, .ref h0), (1, .int (vs_I x1)), (2, .ref o), (3, .ref q9)]) hC hl [1, 2, 3, 0] dL_pass_15 rfl (by decide) rfl (fun ls hl => ?_)
      refine vs_iconst hC dL_pass_16 ?_
      exact vx_ret (vs_iret (V, S, K, O) hC hr hlk hW rfl hw (Nat.le_of_ble_eq_true rfl) (Nat.le_of_ble_eq_true rfl) dL_pass_17)
  obtain ⟨V2, S3, K4⟩ := u
  have hW : vs_Wd g A _ (vs_W2 h0 (aS 0) (aT 0) (aK 0) n0 V2 ++ (vs_W1 g aS S3 ++ (vs_W1 g aT T ++ (vs_W0 g aK K4 ++ (vs_WO g o O ++ wr))))) _ _ s := hW
  obtain ⟨hx, hw⟩ := hw
  refine vs_i2l hC hx dL_pass_7 ?_
  obtain ⟨O5, hO5⟩ : ∃ z : vs_St, z = vs_st O 0 0 r1 := ⟨_, rfl⟩
  have hw := hw O5 hO5
  refine vs_last (Wo' := vs_W2 h0 (aS 0) (aT 0) (aK 0) n0 V2 ++ (vs_W1 g aS S3 ++ (vs_W1 g aT T ++ (vs_W0 g aK K4 ++ (vs_WO g o O5 ++ wr))))) hC hW 37 rfl (by rw [hO5]; rfl) dL_pass_8 (fun H locs hW => ?_)
  refine vs_goto hC 18 dL_pass_9 (by decide) ?_
  refine vs_iconst hC dL_pass_18 ?_
  exact vx_ret (vs_iret (V2, S3, K4, O5) hC hr hlk hW rfl hw (Nat.le_of_ble_eq_true rfl) (Nat.le_of_ble_eq_true rfl) dL_pass_19)
set_option maxHeartbeats 4000000 in
set_option maxRecDepth 100000 in
theorem c_L_blocksOf (l : Launch) (hst : l.stackTraces = false) (g : vs_G) (sd : Nat → Nat) (h0 n0 o : Nat) (aS aT aK : Nat → Nat) (wr : va_W) (V S T K : vs_St) (O : vs_St) (x1 : Int) (post : Int → vs_St → Prop) (hw : wL_blocksOf V S T K O x1 post) : vs_HI l yL_blocksOf (Cond.codeWith yL_blocksOf cL_blocksOf 4 (some .int) hhL_blocksOf :: vs_ws) { frames := 8, cells := 1, slots := 6, locals := 132 } g sd [.ref h0, .int (vs_I x1), .ref o] (vs_W2 h0 (aS 0) (aT 0) (aK 0) n0 V ++ (vs_W1 g aS S ++ (vs_W1 g aT T ++ (vs_W0 g aK K ++ (vs_WO g o O ++ wr))))) (fun (u : vs_St) => vs_W2 h0 (aS 0) (aT 0) (aK 0) n0 V ++ (vs_W1 g aS S ++ (vs_W1 g aT T ++ (vs_W0 g aK K ++ (vs_WO g o u ++ wr))))) post 1 6 := by
  refine vs_ofH (Qc := fun A => vs_QI g A (fun (u : vs_St) => vs_W2 h0 (aS 0) (aT 0) (aK 0) n0 V ++ (vs_W1 g aS S ++ (vs_W1 g aT T ++ (vs_W0 g aK K ++ (vs_WO g o u ++ wr))))) post) (XC := fun A => vs_QX g A (vs_W2 h0 (aS 0) (aT 0) (aK 0) n0 V ++ (vs_W1 g aS S ++ (vs_W1 g aT T ++ (vs_W0 g aK K ++ (vs_WO g o O ++ wr))))) (fun _ => False)) (by decide +kernel) (Nat.le_of_ble_eq_true rfl) (fun p e s m below meth c A ls hC hr hlk htab hW hX hl => ?_)
  have hC : CallFix p m c cL_blocksOf 4 s _ vs_ws RL := hC
  have hl : lv_has ls 4 [(0, .ref h0), (1, .int (vs_I x1)), (2, .ref o)] := hl
  unfold wL_blocksOf at hw
  refine vs_aload_n hC hl 2 dL_blocksOf_0 rfl rfl ?_
  refine vs_iconst hC dL_blocksOf_1 ?_
  refine vs_aload_n hC hl 0 dL_blocksOf_2 rfl rfl ?_
  refine vs_iload_n hC hl 1 dL_blocksOf_3 rfl rfl ?_
  refine vs_xcallVI [.int (vs_I x1)] hC hW hX 0 rfl rfl vk_X2_blocksOf vm_L_63 (c_X2_blocksOf l hst g sd h0 n0 aS aT aK (vs_WO g o O ++ wr) V S T K x1 _ _ hw) rfl hl.1 rfl ⟨rfl, rfl⟩ ⟨Nat.le_of_ble_eq_true rfl, Nat.le_of_ble_eq_true rfl⟩ ⟨Nat.le_of_ble_eq_true rfl, Nat.le_of_ble_eq_true rfl⟩ (Nat.le_of_ble_eq_true rfl) dL_blocksOf_4 (fun k ce q9 H locs hp hW hq hv hcl => ?_) (fun r1 _ H locs hw hW => ?_)
  · obtain ⟨hp0, hpk⟩ := hp
    subst hpk
    · have hw := hp0 rfl
      refine vs_catch (hh := hhL_blocksOf) hC hX htab [] ⟨0, 9, 12, 21⟩ [] rfl (fun _ h => absurd h List.not_mem_nil) rfl (by decide) vt_21 (by decide +kernel) hq hv hcl ?_
      refine vs_astore_n (L' := [(0, .ref h0), (1, .int (vs_I x1)), (2, .ref o), (3, .ref q9)]) hC hl [1, 2, 3, 0] dL_blocksOf_12 rfl (by decide) rfl (fun ls hl => ?_)
      refine vs_iconst hC dL_blocksOf_13 ?_
      exact vx_ret (vs_iret (O) hC hr hlk hW rfl hw (Nat.le_of_ble_eq_true rfl) (Nat.le_of_ble_eq_true rfl) dL_blocksOf_14)
  have hW : vs_Wd g A _ (vs_W2 h0 (aS 0) (aT 0) (aK 0) n0 V ++ (vs_W1 g aS S ++ (vs_W1 g aT T ++ (vs_W0 g aK K ++ (vs_WO g o O ++ wr))))) _ _ s := hW
  obtain ⟨hx, hw⟩ := hw
  refine vs_i2l hC hx dL_blocksOf_7 ?_
  obtain ⟨O2, hO2⟩ : ∃ z : vs_St, z = vs_st O 0 0 r1 := ⟨_, rfl⟩
  have hw := hw O2 hO2
  refine vs_last (Wo' := vs_W2 h0 (aS 0) (aT 0) (aK 0) n0 V ++ (vs_W1 g aS S ++ (vs_W1 g aT T ++ (vs_W0 g aK K ++ (vs_WO g o O2 ++ wr))))) hC hW 37 rfl (by rw [hO2]; rfl) dL_blocksOf_8 (fun H locs hW => ?_)
  refine vs_goto hC 15 dL_blocksOf_9 (by decide) ?_
  refine vs_iconst hC dL_blocksOf_15 ?_
  exact vx_ret (vs_iret (O2) hC hr hlk hW rfl hw (Nat.le_of_ble_eq_true rfl) (Nat.le_of_ble_eq_true rfl) dL_blocksOf_16)
set_option maxHeartbeats 4000000 in
set_option maxRecDepth 100000 in
theorem c_L_copiesOf (l : Launch) (hst : l.stackTraces = false) (g : vs_G) (sd : Nat → Nat) (h0 n0 o : Nat) (aS aT aK : Nat → Nat) (wr : va_W) (V S T K : vs_St) (O : vs_St) (x1 : Int) (x2 : Int) (post : Int → vs_St → Prop) (hw : wL_copiesOf V S T K O x1 x2 post) : vs_HI l yL_copiesOf (Cond.codeWith yL_copiesOf cL_copiesOf 5 (some .int) hhL_copiesOf :: vs_ws) { frames := 9, cells := 2, slots := 12, locals := 155 } g sd [.ref h0, .int (vs_I x1), .int (vs_I x2), .ref o] (vs_W2 h0 (aS 0) (aT 0) (aK 0) n0 V ++ (vs_W1 g aS S ++ (vs_W1 g aT T ++ (vs_W0 g aK K ++ (vs_WO g o O ++ wr))))) (fun (u : vs_St) => vs_W2 h0 (aS 0) (aT 0) (aK 0) n0 V ++ (vs_W1 g aS S ++ (vs_W1 g aT T ++ (vs_W0 g aK K ++ (vs_WO g o u ++ wr))))) post 2 12 := by
  refine vs_ofH (Qc := fun A => vs_QI g A (fun (u : vs_St) => vs_W2 h0 (aS 0) (aT 0) (aK 0) n0 V ++ (vs_W1 g aS S ++ (vs_W1 g aT T ++ (vs_W0 g aK K ++ (vs_WO g o u ++ wr))))) post) (XC := fun A => vs_QX g A (vs_W2 h0 (aS 0) (aT 0) (aK 0) n0 V ++ (vs_W1 g aS S ++ (vs_W1 g aT T ++ (vs_W0 g aK K ++ (vs_WO g o O ++ wr))))) (fun _ => False)) (by decide +kernel) (Nat.le_of_ble_eq_true rfl) (fun p e s m below meth c A ls hC hr hlk htab hW hX hl => ?_)
  have hC : CallFix p m c cL_copiesOf 5 s _ vs_ws RL := hC
  have hl : lv_has ls 5 [(0, .ref h0), (1, .int (vs_I x1)), (2, .int (vs_I x2)), (3, .ref o)] := hl
  unfold wL_copiesOf at hw
  refine vs_aload_n hC hl 3 dL_copiesOf_0 rfl rfl ?_
  refine vs_iconst hC dL_copiesOf_1 ?_
  refine vs_aload_n hC hl 0 dL_copiesOf_2 rfl rfl ?_
  refine vs_iload_n hC hl 1 dL_copiesOf_3 rfl rfl ?_
  refine vs_iload_n hC hl 2 dL_copiesOf_4 rfl rfl ?_
  refine vs_xcallVI [.int (vs_I x1), .int (vs_I x2)] hC hW hX 0 rfl rfl vk_X2_copiesOf vm_L_66 (c_X2_copiesOf l hst g sd h0 n0 aS aT aK (vs_WO g o O ++ wr) V S T K x1 x2 _ _ hw) rfl hl.1 rfl ⟨rfl, rfl⟩ ⟨Nat.le_of_ble_eq_true rfl, Nat.le_of_ble_eq_true rfl⟩ ⟨Nat.le_of_ble_eq_true rfl, Nat.le_of_ble_eq_true rfl⟩ (Nat.le_of_ble_eq_true rfl) dL_copiesOf_5 (fun k ce q9 H locs hp hW hq hv hcl => ?_) (fun r1 _ H locs hw hW => ?_)
  · obtain ⟨hp0, hpk⟩ := hp
    subst hpk
    · have hw := hp0 rfl
      refine vs_catch (hh := hhL_copiesOf) hC hX htab [] ⟨0, 10, 13, 21⟩ [] rfl (fun _ h => absurd h List.not_mem_nil) rfl (by decide) vt_21 (by decide +kernel) hq hv hcl ?_
      refine vs_astore (L' := [(0, .ref h0), (1, .int (vs_I x1)), (2, .int (vs_I x2)), (3, .ref o), (4, .ref q9)]) hC hl [1, 2, 3, 4, 0] dL_copiesOf_13 (by decide) rfl (fun ls hl => ?_)
      refine vs_iconst hC dL_copiesOf_15 ?_
      exact vx_ret (vs_iret (O) hC hr hlk hW rfl hw (Nat.le_of_ble_eq_true rfl) (Nat.le_of_ble_eq_true rfl) dL_copiesOf_16)
  have hW : vs_Wd g A _ (vs_W2 h0 (aS 0) (aT 0) (aK 0) n0 V ++ (vs_W1 g aS S ++ (vs_W1 g aT T ++ (vs_W0 g aK K ++ (vs_WO g o O ++ wr))))) _ _ s := hW
  obtain ⟨hx, hw⟩ := hw
  refine vs_i2l hC hx dL_copiesOf_8 ?_
  obtain ⟨O2, hO2⟩ : ∃ z : vs_St, z = vs_st O 0 0 r1 := ⟨_, rfl⟩
  have hw := hw O2 hO2
  refine vs_last (Wo' := vs_W2 h0 (aS 0) (aT 0) (aK 0) n0 V ++ (vs_W1 g aS S ++ (vs_W1 g aT T ++ (vs_W0 g aK K ++ (vs_WO g o O2 ++ wr))))) hC hW 37 rfl (by rw [hO2]; rfl) dL_copiesOf_9 (fun H locs hW => ?_)
  refine vs_goto hC 17 dL_copiesOf_10 (by decide) ?_
  refine vs_iconst hC dL_copiesOf_17 ?_
  exact vx_ret (vs_iret (O2) hC hr hlk hW rfl hw (Nat.le_of_ble_eq_true rfl) (Nat.le_of_ble_eq_true rfl) dL_copiesOf_18)
set_option maxHeartbeats 4000000 in
set_option maxRecDepth 100000 in
theorem c_L_copiesByDisks (l : Launch) (hst : l.stackTraces = false) (g : vs_G) (sd : Nat → Nat) (h0 n0 o : Nat) (aS aT aK : Nat → Nat) (wr : va_W) (V S T K : vs_St) (O : vs_St) (x1 : Int) (x2 : Int) (post : Int → vs_St → Prop) (hw : wL_copiesByDisks V S T K O x1 x2 post) : vs_HI l yL_copiesByDisks (Cond.codeWith yL_copiesByDisks cL_copiesByDisks 5 (some .int) hhL_copiesByDisks :: vs_ws) { frames := 9, cells := 2, slots := 12, locals := 155 } g sd [.ref h0, .int (vs_I x1), .int (vs_I x2), .ref o] (vs_W2 h0 (aS 0) (aT 0) (aK 0) n0 V ++ (vs_W1 g aS S ++ (vs_W1 g aT T ++ (vs_W0 g aK K ++ (vs_WO g o O ++ wr))))) (fun (u : vs_St) => vs_W2 h0 (aS 0) (aT 0) (aK 0) n0 V ++ (vs_W1 g aS S ++ (vs_W1 g aT T ++ (vs_W0 g aK K ++ (vs_WO g o u ++ wr))))) post 2 12 := by
  refine vs_ofH (Qc := fun A => vs_QI g A (fun (u : vs_St) => vs_W2 h0 (aS 0) (aT 0) (aK 0) n0 V ++ (vs_W1 g aS S ++ (vs_W1 g aT T ++ (vs_W0 g aK K ++ (vs_WO g o u ++ wr))))) post) (XC := fun A => vs_QX g A (vs_W2 h0 (aS 0) (aT 0) (aK 0) n0 V ++ (vs_W1 g aS S ++ (vs_W1 g aT T ++ (vs_W0 g aK K ++ (vs_WO g o O ++ wr))))) (fun _ => False)) (by decide +kernel) (Nat.le_of_ble_eq_true rfl) (fun p e s m below meth c A ls hC hr hlk htab hW hX hl => ?_)
  have hC : CallFix p m c cL_copiesByDisks 5 s _ vs_ws RL := hC
  have hl : lv_has ls 5 [(0, .ref h0), (1, .int (vs_I x1)), (2, .int (vs_I x2)), (3, .ref o)] := hl
  unfold wL_copiesByDisks at hw
  refine vs_aload_n hC hl 3 dL_copiesByDisks_0 rfl rfl ?_
  refine vs_iconst hC dL_copiesByDisks_1 ?_
  refine vs_aload_n hC hl 0 dL_copiesByDisks_2 rfl rfl ?_
  refine vs_iload_n hC hl 1 dL_copiesByDisks_3 rfl rfl ?_
  refine vs_iload_n hC hl 2 dL_copiesByDisks_4 rfl rfl ?_
  refine vs_xcallVI [.int (vs_I x1), .int (vs_I x2)] hC hW hX 0 rfl rfl vk_X2_copiesByDisks vm_L_69 (c_X2_copiesByDisks l hst g sd h0 n0 aS aT aK (vs_WO g o O ++ wr) V S T K x1 x2 _ _ hw) rfl hl.1 rfl ⟨rfl, rfl⟩ ⟨Nat.le_of_ble_eq_true rfl, Nat.le_of_ble_eq_true rfl⟩ ⟨Nat.le_of_ble_eq_true rfl, Nat.le_of_ble_eq_true rfl⟩ (Nat.le_of_ble_eq_true rfl) dL_copiesByDisks_5 (fun k ce q9 H locs hp hW hq hv hcl => ?_) (fun r1 _ H locs hw hW => ?_)
  · obtain ⟨hp0, hpk⟩ := hp
    subst hpk
    · have hw := hp0 rfl
      refine vs_catch (hh := hhL_copiesByDisks) hC hX htab [] ⟨0, 10, 13, 21⟩ [] rfl (fun _ h => absurd h List.not_mem_nil) rfl (by decide) vt_21 (by decide +kernel) hq hv hcl ?_
      refine vs_astore (L' := [(0, .ref h0), (1, .int (vs_I x1)), (2, .int (vs_I x2)), (3, .ref o), (4, .ref q9)]) hC hl [1, 2, 3, 4, 0] dL_copiesByDisks_13 (by decide) rfl (fun ls hl => ?_)
      refine vs_iconst hC dL_copiesByDisks_15 ?_
      exact vx_ret (vs_iret (O) hC hr hlk hW rfl hw (Nat.le_of_ble_eq_true rfl) (Nat.le_of_ble_eq_true rfl) dL_copiesByDisks_16)
  have hW : vs_Wd g A _ (vs_W2 h0 (aS 0) (aT 0) (aK 0) n0 V ++ (vs_W1 g aS S ++ (vs_W1 g aT T ++ (vs_W0 g aK K ++ (vs_WO g o O ++ wr))))) _ _ s := hW
  obtain ⟨hx, hw⟩ := hw
  refine vs_i2l hC hx dL_copiesByDisks_8 ?_
  obtain ⟨O2, hO2⟩ : ∃ z : vs_St, z = vs_st O 0 0 r1 := ⟨_, rfl⟩
  have hw := hw O2 hO2
  refine vs_last (Wo' := vs_W2 h0 (aS 0) (aT 0) (aK 0) n0 V ++ (vs_W1 g aS S ++ (vs_W1 g aT T ++ (vs_W0 g aK K ++ (vs_WO g o O2 ++ wr))))) hC hW 37 rfl (by rw [hO2]; rfl) dL_copiesByDisks_9 (fun H locs hW => ?_)
  refine vs_goto hC 17 dL_copiesByDisks_10 (by decide) ?_
  refine vs_iconst hC dL_copiesByDisks_17 ?_
  exact vx_ret (vs_iret (O2) hC hr hlk hW rfl hw (Nat.le_of_ble_eq_true rfl) (Nat.le_of_ble_eq_true rfl) dL_copiesByDisks_18)
set_option maxHeartbeats 4000000 in
set_option maxRecDepth 100000 in
theorem c_L_diskOfCopy (l : Launch) (hst : l.stackTraces = false) (g : vs_G) (sd : Nat → Nat) (h0 n0 o : Nat) (aS aT aK : Nat → Nat) (wr : va_W) (V S T K : vs_St) (O : vs_St) (x1 : Int) (x2 : Int) (x3 : Int) (post : Int → vs_St → Prop) (hw : wL_diskOfCopy V S T K O x1 x2 x3 post) : vs_HI l yL_diskOfCopy (Cond.codeWith yL_diskOfCopy cL_diskOfCopy 6 (some .int) hhL_diskOfCopy :: vs_ws) { frames := 9, cells := 3, slots := 18, locals := 157 } g sd [.ref h0, .int (vs_I x1), .int (vs_I x2), .int (vs_I x3), .ref o] (vs_W2 h0 (aS 0) (aT 0) (aK 0) n0 V ++ (vs_W1 g aS S ++ (vs_W1 g aT T ++ (vs_W0 g aK K ++ (vs_WO g o O ++ wr))))) (fun (u : vs_St) => vs_W2 h0 (aS 0) (aT 0) (aK 0) n0 V ++ (vs_W1 g aS S ++ (vs_W1 g aT T ++ (vs_W0 g aK K ++ (vs_WO g o u ++ wr))))) post 3 18 := by
  refine vs_ofH (Qc := fun A => vs_QI g A (fun (u : vs_St) => vs_W2 h0 (aS 0) (aT 0) (aK 0) n0 V ++ (vs_W1 g aS S ++ (vs_W1 g aT T ++ (vs_W0 g aK K ++ (vs_WO g o u ++ wr))))) post) (XC := fun A => vs_QX g A (vs_W2 h0 (aS 0) (aT 0) (aK 0) n0 V ++ (vs_W1 g aS S ++ (vs_W1 g aT T ++ (vs_W0 g aK K ++ (vs_WO g o O ++ wr))))) (fun _ => False)) (by decide +kernel) (Nat.le_of_ble_eq_true rfl) (fun p e s m below meth c A ls hC hr hlk htab hW hX hl => ?_)
  have hC : CallFix p m c cL_diskOfCopy 6 s _ vs_ws RL := hC
  have hl : lv_has ls 6 [(0, .ref h0), (1, .int (vs_I x1)), (2, .int (vs_I x2)), (3, .int (vs_I x3)), (4, .ref o)] := hl
  unfold wL_diskOfCopy at hw
  refine vs_aload hC hl 4 dL_diskOfCopy_0 rfl ?_
  refine vs_iconst hC dL_diskOfCopy_2 ?_
  refine vs_aload_n hC hl 0 dL_diskOfCopy_3 rfl rfl ?_
  refine vs_iload_n hC hl 1 dL_diskOfCopy_4 rfl rfl ?_
  refine vs_iload_n hC hl 2 dL_diskOfCopy_5 rfl rfl ?_
  refine vs_iload_n hC hl 3 dL_diskOfCopy_6 rfl rfl ?_
  refine vs_xcallVI [.int (vs_I x1), .int (vs_I x2), .int (vs_I x3)] hC hW hX 0 rfl rfl vk_X2_diskOfCopy vm_L_72 (c_X2_diskOfCopy l hst g sd h0 n0 aS aT aK (vs_WO g o O ++ wr) V S T K x1 x2 x3 _ _ hw) rfl hl.1 rfl ⟨rfl, rfl⟩ ⟨Nat.le_of_ble_eq_true rfl, Nat.le_of_ble_eq_true rfl⟩ ⟨Nat.le_of_ble_eq_true rfl, Nat.le_of_ble_eq_true rfl⟩ (Nat.le_of_ble_eq_true rfl) dL_diskOfCopy_7 (fun k ce q9 H locs hp hW hq hv hcl => ?_) (fun r1 _ H locs hw hW => ?_)
  · obtain ⟨hp0, hp1, hpk⟩ := hp
    rcases hpk with rfl | rfl
    · have hw := hp0 rfl
      refine vs_catch (hh := hhL_diskOfCopy) hC hX htab [] ⟨0, 12, 15, 21⟩ [⟨0, 12, 19, 46⟩] rfl (fun _ h => absurd h List.not_mem_nil) rfl (by decide) vt_21 (by decide +kernel) hq hv hcl ?_
      refine vs_astore (L' := [(0, .ref h0), (1, .int (vs_I x1)), (2, .int (vs_I x2)), (3, .int (vs_I x3)), (4, .ref o), (5, .ref q9)]) hC hl [1, 2, 3, 4, 5, 0] dL_diskOfCopy_15 (by decide) rfl (fun ls hl => ?_)
      refine vs_iconst hC dL_diskOfCopy_17 ?_
      exact vx_ret (vs_iret (O) hC hr hlk hW rfl hw (Nat.le_of_ble_eq_true rfl) (Nat.le_of_ble_eq_true rfl) dL_diskOfCopy_18)
    · have hw := hp1 rfl
      refine vs_catch (hh := hhL_diskOfCopy) hC hX htab [⟨0, 12, 15, 21⟩] ⟨0, 12, 19, 46⟩ [] rfl (List.forall_mem_cons.mpr ⟨⟨by decide, 3, vt_21, by decide +kernel⟩, (fun _ h => absurd h List.not_mem_nil)⟩) rfl (by decide) vt_46 (by decide +kernel) hq hv hcl ?_
      refine vs_astore (L' := [(0, .ref h0), (1, .int (vs_I x1)), (2, .int (vs_I x2)), (3, .int (vs_I x3)), (4, .ref o), (5, .ref q9)]) hC hl [1, 2, 3, 4, 5, 0] dL_diskOfCopy_19 (by decide) rfl (fun ls hl => ?_)
      refine vs_iconst hC dL_diskOfCopy_21 ?_
      exact vx_ret (vs_iret (O) hC hr hlk hW rfl hw (Nat.le_of_ble_eq_true rfl) (Nat.le_of_ble_eq_true rfl) dL_diskOfCopy_22)
  have hW : vs_Wd g A _ (vs_W2 h0 (aS 0) (aT 0) (aK 0) n0 V ++ (vs_W1 g aS S ++ (vs_W1 g aT T ++ (vs_W0 g aK K ++ (vs_WO g o O ++ wr))))) _ _ s := hW
  obtain ⟨hx, hw⟩ := hw
  refine vs_i2l hC hx dL_diskOfCopy_10 ?_
  obtain ⟨O2, hO2⟩ : ∃ z : vs_St, z = vs_st O 0 0 r1 := ⟨_, rfl⟩
  have hw := hw O2 hO2
  refine vs_last (Wo' := vs_W2 h0 (aS 0) (aT 0) (aK 0) n0 V ++ (vs_W1 g aS S ++ (vs_W1 g aT T ++ (vs_W0 g aK K ++ (vs_WO g o O2 ++ wr))))) hC hW 37 rfl (by rw [hO2]; rfl) dL_diskOfCopy_11 (fun H locs hW => ?_)
  refine vs_goto hC 23 dL_diskOfCopy_12 (by decide) ?_
  refine vs_iconst hC dL_diskOfCopy_23 ?_
  exact vx_ret (vs_iret (O2) hC hr hlk hW rfl hw (Nat.le_of_ble_eq_true rfl) (Nat.le_of_ble_eq_true rfl) dL_diskOfCopy_24)
set_option maxHeartbeats 4000000 in
set_option maxRecDepth 100000 in
theorem c_L_valueOf (l : Launch) (hst : l.stackTraces = false) (g : vs_G) (sd : Nat → Nat) (h0 n0 o : Nat) (aS aT aK : Nat → Nat) (wr : va_W) (V S T K : vs_St) (O : vs_St) (x1 : Int) (x2 : Int) (post : Int → vs_St → Prop) (hw : wL_valueOf V S T K O x1 x2 post) : vs_HI l yL_valueOf (Cond.codeWith yL_valueOf cL_valueOf 5 (some .int) hhL_valueOf :: vs_ws) { frames := 9, cells := 3, slots := 18, locals := 156 } g sd [.ref h0, .int (vs_I x1), .int (vs_I x2), .ref o] (vs_W2 h0 (aS 0) (aT 0) (aK 0) n0 V ++ (vs_W1 g aS S ++ (vs_W1 g aT T ++ (vs_W0 g aK K ++ (vs_WO g o O ++ wr))))) (fun (u : vs_St) => vs_W2 h0 (aS 0) (aT 0) (aK 0) n0 V ++ (vs_W1 g aS S ++ (vs_W1 g aT T ++ (vs_W0 g aK K ++ (vs_WO g o u ++ wr))))) post 3 18 := by
  refine vs_ofH (Qc := fun A => vs_QI g A (fun (u : vs_St) => vs_W2 h0 (aS 0) (aT 0) (aK 0) n0 V ++ (vs_W1 g aS S ++ (vs_W1 g aT T ++ (vs_W0 g aK K ++ (vs_WO g o u ++ wr))))) post) (XC := fun A => vs_QX g A (vs_W2 h0 (aS 0) (aT 0) (aK 0) n0 V ++ (vs_W1 g aS S ++ (vs_W1 g aT T ++ (vs_W0 g aK K ++ (vs_WO g o O ++ wr))))) (fun _ => False)) (by decide +kernel) (Nat.le_of_ble_eq_true rfl) (fun p e s m below meth c A ls hC hr hlk htab hW hX hl => ?_)
  have hC : CallFix p m c cL_valueOf 5 s _ vs_ws RL := hC
  have hl : lv_has ls 5 [(0, .ref h0), (1, .int (vs_I x1)), (2, .int (vs_I x2)), (3, .ref o)] := hl
  unfold wL_valueOf at hw
  refine vs_aload_n hC hl 3 dL_valueOf_0 rfl rfl ?_
  refine vs_iconst hC dL_valueOf_1 ?_
  refine vs_aload_n hC hl 0 dL_valueOf_2 rfl rfl ?_
  refine vs_iload_n hC hl 1 dL_valueOf_3 rfl rfl ?_
  refine vs_iload_n hC hl 2 dL_valueOf_4 rfl rfl ?_
  refine vs_xcallVI [.int (vs_I x1), .int (vs_I x2)] hC hW hX 0 rfl rfl vk_X2_valueOf vm_L_75 (c_X2_valueOf l hst g sd h0 n0 aS aT aK (vs_WO g o O ++ wr) V S T K x1 x2 _ _ hw) rfl hl.1 rfl ⟨rfl, rfl⟩ ⟨Nat.le_of_ble_eq_true rfl, Nat.le_of_ble_eq_true rfl⟩ ⟨Nat.le_of_ble_eq_true rfl, Nat.le_of_ble_eq_true rfl⟩ (Nat.le_of_ble_eq_true rfl) dL_valueOf_5 (fun k ce q9 H locs hp hW hq hv hcl => ?_) (fun r1 _ H locs hw hW => ?_)
  · obtain ⟨hp0, hp1, hpk⟩ := hp
    rcases hpk with rfl | rfl
    · have hw := hp0 rfl
      refine vs_catch (hh := hhL_valueOf) hC hX htab [] ⟨0, 10, 13, 21⟩ [⟨0, 10, 17, 46⟩] rfl (fun _ h => absurd h List.not_mem_nil) rfl (by decide) vt_21 (by decide +kernel) hq hv hcl ?_
      refine vs_astore (L' := [(0, .ref h0), (1, .int (vs_I x1)), (2, .int (vs_I x2)), (3, .ref o), (4, .ref q9)]) hC hl [1, 2, 3, 4, 0] dL_valueOf_13 (by decide) rfl (fun ls hl => ?_)
      refine vs_iconst hC dL_valueOf_15 ?_
      exact vx_ret (vs_iret (O) hC hr hlk hW rfl hw (Nat.le_of_ble_eq_true rfl) (Nat.le_of_ble_eq_true rfl) dL_valueOf_16)
    · have hw := hp1 rfl
      refine vs_catch (hh := hhL_valueOf) hC hX htab [⟨0, 10, 13, 21⟩] ⟨0, 10, 17, 46⟩ [] rfl (List.forall_mem_cons.mpr ⟨⟨by decide, 3, vt_21, by decide +kernel⟩, (fun _ h => absurd h List.not_mem_nil)⟩) rfl (by decide) vt_46 (by decide +kernel) hq hv hcl ?_
      refine vs_astore (L' := [(0, .ref h0), (1, .int (vs_I x1)), (2, .int (vs_I x2)), (3, .ref o), (4, .ref q9)]) hC hl [1, 2, 3, 4, 0] dL_valueOf_17 (by decide) rfl (fun ls hl => ?_)
      refine vs_iconst hC dL_valueOf_19 ?_
      exact vx_ret (vs_iret (O) hC hr hlk hW rfl hw (Nat.le_of_ble_eq_true rfl) (Nat.le_of_ble_eq_true rfl) dL_valueOf_20)
  have hW : vs_Wd g A _ (vs_W2 h0 (aS 0) (aT 0) (aK 0) n0 V ++ (vs_W1 g aS S ++ (vs_W1 g aT T ++ (vs_W0 g aK K ++ (vs_WO g o O ++ wr))))) _ _ s := hW
  obtain ⟨hx, hw⟩ := hw
  refine vs_i2l hC hx dL_valueOf_8 ?_
  obtain ⟨O2, hO2⟩ : ∃ z : vs_St, z = vs_st O 0 0 r1 := ⟨_, rfl⟩
  have hw := hw O2 hO2
  refine vs_last (Wo' := vs_W2 h0 (aS 0) (aT 0) (aK 0) n0 V ++ (vs_W1 g aS S ++ (vs_W1 g aT T ++ (vs_W0 g aK K ++ (vs_WO g o O2 ++ wr))))) hC hW 37 rfl (by rw [hO2]; rfl) dL_valueOf_9 (fun H locs hW => ?_)
  refine vs_goto hC 21 dL_valueOf_10 (by decide) ?_
  refine vs_iconst hC dL_valueOf_21 ?_
  exact vx_ret (vs_iret (O2) hC hr hlk hW rfl hw (Nat.le_of_ble_eq_true rfl) (Nat.le_of_ble_eq_true rfl) dL_valueOf_22)
set_option maxHeartbeats 4000000 in
set_option maxRecDepth 100000 in
theorem c_L_isLost (l : Launch) (hst : l.stackTraces = false) (g : vs_G) (sd : Nat → Nat) (h0 n0 o : Nat) (aS aT aK : Nat → Nat) (wr : va_W) (V S T K : vs_St) (O : vs_St) (x1 : Int) (x2 : Int) (post : Int → vs_St → Prop) (hw : wL_isLost V S T K O x1 x2 post) : vs_HI l yL_isLost (Cond.codeWith yL_isLost cL_isLost 5 (some .int) hhL_isLost :: vs_ws) { frames := 9, cells := 2, slots := 12, locals := 155 } g sd [.ref h0, .int (vs_I x1), .int (vs_I x2), .ref o] (vs_W2 h0 (aS 0) (aT 0) (aK 0) n0 V ++ (vs_W1 g aS S ++ (vs_W1 g aT T ++ (vs_W0 g aK K ++ (vs_WO g o O ++ wr))))) (fun (u : vs_St) => vs_W2 h0 (aS 0) (aT 0) (aK 0) n0 V ++ (vs_W1 g aS S ++ (vs_W1 g aT T ++ (vs_W0 g aK K ++ (vs_WO g o u ++ wr))))) post 2 12 := by
  refine vs_ofH (Qc := fun A => vs_QI g A (fun (u : vs_St) => vs_W2 h0 (aS 0) (aT 0) (aK 0) n0 V ++ (vs_W1 g aS S ++ (vs_W1 g aT T ++ (vs_W0 g aK K ++ (vs_WO g o u ++ wr))))) post) (XC := fun A => vs_QX g A (vs_W2 h0 (aS 0) (aT 0) (aK 0) n0 V ++ (vs_W1 g aS S ++ (vs_W1 g aT T ++ (vs_W0 g aK K ++ (vs_WO g o O ++ wr))))) (fun _ => False)) (by decide +kernel) (Nat.le_of_ble_eq_true rfl) (fun p e s m below meth c A ls hC hr hlk htab hW hX hl => ?_)
  have hC : CallFix p m c cL_isLost 5 s _ vs_ws RL := hC
  have hl : lv_has ls 5 [(0, .ref h0), (1, .int (vs_I x1)), (2, .int (vs_I x2)), (3, .ref o)] := hl
  unfold wL_isLost at hw
  refine vs_aload_n hC hl 3 dL_isLost_0 rfl rfl ?_
  refine vs_iconst hC dL_isLost_1 ?_
  refine vs_aload_n hC hl 0 dL_isLost_2 rfl rfl ?_
  refine vs_iload_n hC hl 1 dL_isLost_3 rfl rfl ?_
  refine vs_iload_n hC hl 2 dL_isLost_4 rfl rfl ?_
  refine vs_xcallVI [.int (vs_I x1), .int (vs_I x2)] hC hW hX 0 rfl rfl vk_X2_isLost vm_L_78 (c_X2_isLost l hst g sd h0 n0 aS aT aK (vs_WO g o O ++ wr) V S T K x1 x2 _ _ hw) rfl hl.1 rfl ⟨rfl, rfl⟩ ⟨Nat.le_of_ble_eq_true rfl, Nat.le_of_ble_eq_true rfl⟩ ⟨Nat.le_of_ble_eq_true rfl, Nat.le_of_ble_eq_true rfl⟩ (Nat.le_of_ble_eq_true rfl) dL_isLost_5 (fun k ce q9 H locs hp hW hq hv hcl => ?_) (fun r1 _ H locs hw hW => ?_)
  · obtain ⟨hp0, hpk⟩ := hp
    subst hpk
    · have hw := hp0 rfl
      refine vs_catch (hh := hhL_isLost) hC hX htab [] ⟨0, 17, 20, 21⟩ [] rfl (fun _ h => absurd h List.not_mem_nil) rfl (by decide) vt_21 (by decide +kernel) hq hv hcl ?_
      refine vs_astore (L' := [(0, .ref h0), (1, .int (vs_I x1)), (2, .int (vs_I x2)), (3, .ref o), (4, .ref q9)]) hC hl [1, 2, 3, 4, 0] dL_isLost_20 (by decide) rfl (fun ls hl => ?_)
      refine vs_iconst hC dL_isLost_22 ?_
      exact vx_ret (vs_iret (O) hC hr hlk hW rfl hw (Nat.le_of_ble_eq_true rfl) (Nat.le_of_ble_eq_true rfl) dL_isLost_23)
  have hW : vs_Wd g A _ (vs_W2 h0 (aS 0) (aT 0) (aK 0) n0 V ++ (vs_W1 g aS S ++ (vs_W1 g aT T ++ (vs_W0 g aK K ++ (vs_WO g o O ++ wr))))) _ _ s := hW
  obtain ⟨hx, hw⟩ := hw
  obtain ⟨hwt, hwf⟩ := hw
  refine vs_if_eq hC 15 hx dL_isLost_8 (by decide) (fun hc => ?_) (fun hc => ?_)
  · have hw := hwt hc
    clear hwt hwf hc
    refine vs_lconst (x := 0) hC dL_isLost_15 (by decide +kernel) ?_
    obtain ⟨O2, hO2⟩ : ∃ z : vs_St, z = vs_st O 0 0 0 := ⟨_, rfl⟩
    have hw := hw O2 hO2
    refine vs_last (Wo' := vs_W2 h0 (aS 0) (aT 0) (aK 0) n0 V ++ (vs_W1 g aS S ++ (vs_W1 g aT T ++ (vs_W0 g aK K ++ (vs_WO g o O2 ++ wr))))) hC hW 37 rfl (by rw [hO2]; rfl) dL_isLost_16 (fun H locs hW => ?_)
    refine vs_goto hC 24 dL_isLost_17 (by decide) ?_
    refine vs_iconst hC dL_isLost_24 ?_
    exact vx_ret (vs_iret (O2) hC hr hlk hW rfl hw (Nat.le_of_ble_eq_true rfl) (Nat.le_of_ble_eq_true rfl) dL_isLost_25)
  · have hw := hwf hc
    clear hwt hwf hc
    refine vs_lconst (x := 1) hC dL_isLost_11 (by decide +kernel) ?_
    refine vs_goto hC 16 dL_isLost_12 (by decide) ?_
    obtain ⟨O3, hO3⟩ : ∃ z : vs_St, z = vs_st O 0 0 1 := ⟨_, rfl⟩
    have hw := hw O3 hO3
    refine vs_last (Wo' := vs_W2 h0 (aS 0) (aT 0) (aK 0) n0 V ++ (vs_W1 g aS S ++ (vs_W1 g aT T ++ (vs_W0 g aK K ++ (vs_WO g o O3 ++ wr))))) hC hW 37 rfl (by rw [hO3]; rfl) dL_isLost_16 (fun H locs hW => ?_)
    refine vs_goto hC 24 dL_isLost_17 (by decide) ?_
    refine vs_iconst hC dL_isLost_24 ?_
    exact vx_ret (vs_iret (O3) hC hr hlk hW rfl hw (Nat.le_of_ble_eq_true rfl) (Nat.le_of_ble_eq_true rfl) dL_isLost_25)
set_option maxHeartbeats 4000000 in
set_option maxRecDepth 100000 in
theorem c_L_doesBear (l : Launch) (hst : l.stackTraces = false) (g : vs_G) (sd : Nat → Nat) (h0 n0 o : Nat) (aS aT aK : Nat → Nat) (wr : va_W) (V S T K : vs_St) (O : vs_St) (x1 : Int) (post : Int → vs_St → Prop) (hw : wL_doesBear V S T K O x1 post) : vs_HI l yL_doesBear (Cond.codeWith yL_doesBear cL_doesBear 4 (some .int) hhL_doesBear :: vs_ws) { frames := 8, cells := 1, slots := 6, locals := 131 } g sd [.ref h0, .int (vs_I x1), .ref o] (vs_W2 h0 (aS 0) (aT 0) (aK 0) n0 V ++ (vs_W1 g aS S ++ (vs_W1 g aT T ++ (vs_W0 g aK K ++ (vs_WO g o O ++ wr))))) (fun (u : vs_St) => vs_W2 h0 (aS 0) (aT 0) (aK 0) n0 V ++ (vs_W1 g aS S ++ (vs_W1 g aT T ++ (vs_W0 g aK K ++ (vs_WO g o u ++ wr))))) post 1 6 := by
  refine vs_ofH (Qc := fun A => vs_QI g A (fun (u : vs_St) => vs_W2 h0 (aS 0) (aT 0) (aK 0) n0 V ++ (vs_W1 g aS S ++ (vs_W1 g aT T ++ (vs_W0 g aK K ++ (vs_WO g o u ++ wr))))) post) (XC := fun A => vs_QX g A (vs_W2 h0 (aS 0) (aT 0) (aK 0) n0 V ++ (vs_W1 g aS S ++ (vs_W1 g aT T ++ (vs_W0 g aK K ++ (vs_WO g o O ++ wr))))) (fun _ => False)) (by decide +kernel) (Nat.le_of_ble_eq_true rfl) (fun p e s m below meth c A ls hC hr hlk htab hW hX hl => ?_)
  have hC : CallFix p m c cL_doesBear 4 s _ vs_ws RL := hC
  have hl : lv_has ls 4 [(0, .ref h0), (1, .int (vs_I x1)), (2, .ref o)] := hl
  unfold wL_doesBear at hw
  refine vs_aload_n hC hl 2 dL_doesBear_0 rfl rfl ?_
  refine vs_iconst hC dL_doesBear_1 ?_
  refine vs_aload_n hC hl 0 dL_doesBear_2 rfl rfl ?_
  refine vs_iload_n hC hl 1 dL_doesBear_3 rfl rfl ?_
  refine vs_xcallVI [.int (vs_I x1)] hC hW hX 0 rfl rfl vk_X2_doesBear vm_L_82 (c_X2_doesBear l hst g sd h0 n0 aS aT aK (vs_WO g o O ++ wr) V S T K x1 _ _ hw) rfl hl.1 rfl ⟨rfl, rfl⟩ ⟨Nat.le_of_ble_eq_true rfl, Nat.le_of_ble_eq_true rfl⟩ ⟨Nat.le_of_ble_eq_true rfl, Nat.le_of_ble_eq_true rfl⟩ (Nat.le_of_ble_eq_true rfl) dL_doesBear_4 (fun k ce q9 H locs hp hW hq hv hcl => ?_) (fun r1 _ H locs hw hW => ?_)
  · obtain ⟨hp0, hpk⟩ := hp
    subst hpk
    · have hw := hp0 rfl
      refine vs_catch (hh := hhL_doesBear) hC hX htab [] ⟨0, 16, 19, 13⟩ [] rfl (fun _ h => absurd h List.not_mem_nil) rfl (by decide) vt_13 (by decide +kernel) hq hv hcl ?_
      refine vs_astore_n (L' := [(0, .ref h0), (1, .int (vs_I x1)), (2, .ref o), (3, .ref q9)]) hC hl [1, 2, 3, 0] dL_doesBear_19 rfl (by decide) rfl (fun ls hl => ?_)
      refine vs_iconst hC dL_doesBear_20 ?_
      exact vx_ret (vs_iret (O) hC hr hlk hW rfl hw (Nat.le_of_ble_eq_true rfl) (Nat.le_of_ble_eq_true rfl) dL_doesBear_21)
  have hW : vs_Wd g A _ (vs_W2 h0 (aS 0) (aT 0) (aK 0) n0 V ++ (vs_W1 g aS S ++ (vs_W1 g aT T ++ (vs_W0 g aK K ++ (vs_WO g o O ++ wr))))) _ _ s := hW
  obtain ⟨hx, hw⟩ := hw
  obtain ⟨hwt, hwf⟩ := hw
  refine vs_if_eq hC 14 hx dL_doesBear_7 (by decide) (fun hc => ?_) (fun hc => ?_)
  · have hw := hwt hc
    clear hwt hwf hc
    refine vs_lconst (x := 0) hC dL_doesBear_14 (by decide +kernel) ?_
    obtain ⟨O2, hO2⟩ : ∃ z : vs_St, z = vs_st O 0 0 0 := ⟨_, rfl⟩
    have hw := hw O2 hO2
    refine vs_last (Wo' := vs_W2 h0 (aS 0) (aT 0) (aK 0) n0 V ++ (vs_W1 g aS S ++ (vs_W1 g aT T ++ (vs_W0 g aK K ++ (vs_WO g o O2 ++ wr))))) hC hW 37 rfl (by rw [hO2]; rfl) dL_doesBear_15 (fun H locs hW => ?_)
    refine vs_goto hC 22 dL_doesBear_16 (by decide) ?_
    refine vs_iconst hC dL_doesBear_22 ?_
    exact vx_ret (vs_iret (O2) hC hr hlk hW rfl hw (Nat.le_of_ble_eq_true rfl) (Nat.le_of_ble_eq_true rfl) dL_doesBear_23)
  · have hw := hwf hc
    clear hwt hwf hc
    refine vs_lconst (x := 1) hC dL_doesBear_10 (by decide +kernel) ?_
    refine vs_goto hC 15 dL_doesBear_11 (by decide) ?_
    obtain ⟨O3, hO3⟩ : ∃ z : vs_St, z = vs_st O 0 0 1 := ⟨_, rfl⟩
    have hw := hw O3 hO3
    refine vs_last (Wo' := vs_W2 h0 (aS 0) (aT 0) (aK 0) n0 V ++ (vs_W1 g aS S ++ (vs_W1 g aT T ++ (vs_W0 g aK K ++ (vs_WO g o O3 ++ wr))))) hC hW 37 rfl (by rw [hO3]; rfl) dL_doesBear_15 (fun H locs hW => ?_)
    refine vs_goto hC 22 dL_doesBear_16 (by decide) ?_
    refine vs_iconst hC dL_doesBear_22 ?_
    exact vx_ret (vs_iret (O3) hC hr hlk hW rfl hw (Nat.le_of_ble_eq_true rfl) (Nat.le_of_ble_eq_true rfl) dL_doesBear_23)
set_option maxHeartbeats 4000000 in
set_option maxRecDepth 100000 in
theorem c_L_doesBearByTrying (l : Launch) (hst : l.stackTraces = false) (g : vs_G) (sd : Nat → Nat) (h0 n0 o : Nat) (aS aT aK : Nat → Nat) (wr : va_W) (V S T K : vs_St) (O : vs_St) (x1 : Int) (post : Int → vs_St → vs_St → Prop) (hw : wL_doesBearByTrying V S T K O x1 post) : vs_HI l yL_doesBearByTrying (Cond.codeWith yL_doesBearByTrying cL_doesBearByTrying 4 (some .int) hhL_doesBearByTrying :: vs_ws) { frames := 8, cells := 1, slots := 6, locals := 131 } g sd [.ref h0, .int (vs_I x1), .ref o] (vs_W2 h0 (aS 0) (aT 0) (aK 0) n0 V ++ (vs_W1 g aS S ++ (vs_W1 g aT T ++ (vs_W0 g aK K ++ (vs_WO g o O ++ wr))))) (fun (u : vs_St × vs_St) => vs_W2 h0 (aS 0) (aT 0) (aK 0) n0 V ++ (vs_W1 g aS u.1 ++ (vs_W1 g aT T ++ (vs_W0 g aK K ++ (vs_WO g o u.2 ++ wr))))) (fun v (u : vs_St × vs_St) => post v u.1 u.2) 1 6 := by
  refine vs_ofH (Qc := fun A => vs_QI g A (fun (u : vs_St × vs_St) => vs_W2 h0 (aS 0) (aT 0) (aK 0) n0 V ++ (vs_W1 g aS u.1 ++ (vs_W1 g aT T ++ (vs_W0 g aK K ++ (vs_WO g o u.2 ++ wr))))) (fun v (u : vs_St × vs_St) => post v u.1 u.2)) (XC := fun A => vs_QX g A (vs_W2 h0 (aS 0) (aT 0) (aK 0) n0 V ++ (vs_W1 g aS S ++ (vs_W1 g aT T ++ (vs_W0 g aK K ++ (vs_WO g o O ++ wr))))) (fun _ => False)) (by decide +kernel) (Nat.le_of_ble_eq_true rfl) (fun p e s m below meth c A ls hC hr hlk htab hW hX hl => ?_)
  have hC : CallFix p m c cL_doesBearByTrying 4 s _ vs_ws RL := hC
  have hl : lv_has ls 4 [(0, .ref h0), (1, .int (vs_I x1)), (2, .ref o)] := hl
  unfold wL_doesBearByTrying at hw
  refine vs_aload_n hC hl 2 dL_doesBearByTrying_0 rfl rfl ?_
  refine vs_iconst hC dL_doesBearByTrying_1 ?_
  refine vs_aload_n hC hl 0 dL_doesBearByTrying_2 rfl rfl ?_
  refine vs_iload_n hC hl 1 dL_doesBearByTrying_3 rfl rfl ?_
  refine vs_xcallVI [.int (vs_I x1)] hC hW hX 0 rfl rfl vk_X2_doesBearByTrying vm_L_86 (c_X2_doesBearByTrying l hst g sd h0 n0 aS aT aK (vs_WO g o O ++ wr) V S T K x1 _ _ hw) rfl hl.1 rfl ⟨rfl, rfl⟩ ⟨Nat.le_of_ble_eq_true rfl, Nat.le_of_ble_eq_true rfl⟩ ⟨Nat.le_of_ble_eq_true rfl, Nat.le_of_ble_eq_true rfl⟩ (Nat.le_of_ble_eq_true rfl) dL_doesBearByTrying_4 (fun k ce q9 H locs hp hW hq hv hcl => ?_) (fun r1 S2 H locs hw hW => ?_)
  · obtain ⟨hp0, hpk⟩ := hp
    subst hpk
    · have hw := hp0 rfl
      refine vs_catch (hh := hhL_doesBearByTrying) hC hX htab [] ⟨0, 16, 19, 13⟩ [] rfl (fun _ h => absurd h List.not_mem_nil) rfl (by decide) vt_13 (by decide +kernel) hq hv hcl ?_
      refine vs_astore_n (L' := [(0, .ref h0), (1, .int (vs_I x1)), (2, .ref o), (3, .ref q9)]) hC hl [1, 2, 3, 0] dL_doesBearByTrying_19 rfl (by decide) rfl (fun ls hl => ?_)
      refine vs_iconst hC dL_doesBearByTrying_20 ?_
      exact vx_ret (vs_iret (S, O) hC hr hlk hW rfl hw (Nat.le_of_ble_eq_true rfl) (Nat.le_of_ble_eq_true rfl) dL_doesBearByTrying_21)
  have hW : vs_Wd g A _ (vs_W2 h0 (aS 0) (aT 0) (aK 0) n0 V ++ (vs_W1 g aS S2 ++ (vs_W1 g aT T ++ (vs_W0 g aK K ++ (vs_WO g o O ++ wr))))) _ _ s := hW
  obtain ⟨hx, hw⟩ := hw
  obtain ⟨hwt, hwf⟩ := hw
  refine vs_if_eq hC 14 hx dL_doesBearByTrying_7 (by decide) (fun hc => ?_) (fun hc => ?_)
  · have hw := hwt hc
    clear hwt hwf hc
    refine vs_lconst (x := 0) hC dL_doesBearByTrying_14 (by decide +kernel) ?_
    obtain ⟨O3, hO3⟩ : ∃ z : vs_St, z = vs_st O 0 0 0 := ⟨_, rfl⟩
    have hw := hw O3 hO3
    refine vs_last (Wo' := vs_W2 h0 (aS 0) (aT 0) (aK 0) n0 V ++ (vs_W1 g aS S2 ++ (vs_W1 g aT T ++ (vs_W0 g aK K ++ (vs_WO g o O3 ++ wr))))) hC hW 37 rfl (by rw [hO3]; rfl) dL_doesBearByTrying_15 (fun H locs hW => ?_)
    refine vs_goto hC 22 dL_doesBearByTrying_16 (by decide) ?_
    refine vs_iconst hC dL_doesBearByTrying_22 ?_
    exact vx_ret (vs_iret (S2, O3) hC hr hlk hW rfl hw (Nat.le_of_ble_eq_true rfl) (Nat.le_of_ble_eq_true rfl) dL_doesBearByTrying_23)
  · have hw := hwf hc
    clear hwt hwf hc
    refine vs_lconst (x := 1) hC dL_doesBearByTrying_10 (by decide +kernel) ?_
    refine vs_goto hC 15 dL_doesBearByTrying_11 (by decide) ?_
    obtain ⟨O4, hO4⟩ : ∃ z : vs_St, z = vs_st O 0 0 1 := ⟨_, rfl⟩
    have hw := hw O4 hO4
    refine vs_last (Wo' := vs_W2 h0 (aS 0) (aT 0) (aK 0) n0 V ++ (vs_W1 g aS S2 ++ (vs_W1 g aT T ++ (vs_W0 g aK K ++ (vs_WO g o O4 ++ wr))))) hC hW 37 rfl (by rw [hO4]; rfl) dL_doesBearByTrying_15 (fun H locs hW => ?_)
    refine vs_goto hC 22 dL_doesBearByTrying_16 (by decide) ?_
    refine vs_iconst hC dL_doesBearByTrying_22 ?_
    exact vx_ret (vs_iret (S2, O4) hC hr hlk hW rfl hw (Nat.le_of_ble_eq_true rfl) (Nat.le_of_ble_eq_true rfl) dL_doesBearByTrying_23)
set_option maxHeartbeats 4000000 in
set_option maxRecDepth 100000 in
theorem c_L_fail (l : Launch) (hst : l.stackTraces = false) (g : vs_G) (sd : Nat → Nat) (h0 n0 o : Nat) (aS aT aK : Nat → Nat) (wr : va_W) (V S T K : vs_St) (O : vs_St) (x1 : Int) (post : Int → vs_St → vs_St → Prop) (hw : wL_fail V S T K O x1 post) : vs_HI l yL_fail (Cond.codeWith yL_fail cL_fail 4 (some .int) hhL_fail :: vs_ws) { frames := 8, cells := 2, slots := 12, locals := 132 } g sd [.ref h0, .int (vs_I x1), .ref o] (vs_W2 h0 (aS 0) (aT 0) (aK 0) n0 V ++ (vs_W1 g aS S ++ (vs_W1 g aT T ++ (vs_W0 g aK K ++ (vs_WO g o O ++ wr))))) (fun (u : vs_St × vs_St) => vs_W2 h0 (aS 0) (aT 0) (aK 0) n0 V ++ (vs_W1 g aS u.1 ++ (vs_W1 g aT T ++ (vs_W0 g aK K ++ (vs_WO g o u.2 ++ wr))))) (fun v (u : vs_St × vs_St) => post v u.1 u.2) 2 12 := by
  refine vs_ofH (Qc := fun A => vs_QI g A (fun (u : vs_St × vs_St) => vs_W2 h0 (aS 0) (aT 0) (aK 0) n0 V ++ (vs_W1 g aS u.1 ++ (vs_W1 g aT T ++ (vs_W0 g aK K ++ (vs_WO g o u.2 ++ wr))))) (fun v (u : vs_St × vs_St) => post v u.1 u.2)) (XC := fun A => vs_QX g A (vs_W2 h0 (aS 0) (aT 0) (aK 0) n0 V ++ (vs_W1 g aS S ++ (vs_W1 g aT T ++ (vs_W0 g aK K ++ (vs_WO g o O ++ wr))))) (fun _ => False)) (by decide +kernel) (Nat.le_of_ble_eq_true rfl) (fun p e s m below meth c A ls hC hr hlk htab hW hX hl => ?_)
  have hC : CallFix p m c cL_fail 4 s _ vs_ws RL := hC
  have hl : lv_has ls 4 [(0, .ref h0), (1, .int (vs_I x1)), (2, .ref o)] := hl
  unfold wL_fail at hw
  refine vs_aload_n hC hl 2 dL_fail_0 rfl rfl ?_
  refine vs_iconst hC dL_fail_1 ?_
  refine vs_aload_n hC hl 0 dL_fail_2 rfl rfl ?_
  refine vs_iload_n hC hl 1 dL_fail_3 rfl rfl ?_
  refine vs_xcallVI [.int (vs_I x1)] hC hW hX 0 rfl rfl vk_X2_fail vm_L_89 (c_X2_fail l hst g sd h0 n0 aS aT aK (vs_WO g o O ++ wr) V S T K x1 _ _ hw) rfl hl.1 rfl ⟨rfl, rfl⟩ ⟨Nat.le_of_ble_eq_true rfl, Nat.le_of_ble_eq_true rfl⟩ ⟨Nat.le_of_ble_eq_true rfl, Nat.le_of_ble_eq_true rfl⟩ (Nat.le_of_ble_eq_true rfl) dL_fail_4 (fun k ce q9 H locs hp hW hq hv hcl => ?_) (fun r1 S2 H locs hw hW => ?_)
  · obtain ⟨hp0, hp1, hpk⟩ := hp
    rcases hpk with rfl | rfl
    · have hw := hp0 rfl
      refine vs_catch (hh := hhL_fail) hC hX htab [] ⟨0, 9, 12, 21⟩ [⟨0, 9, 15, 15⟩] rfl (fun _ h => absurd h List.not_mem_nil) rfl (by decide) vt_21 (by decide +kernel) hq hv hcl ?_
      refine vs_astore_n (L' := [(0, .ref h0), (1, .int (vs_I x1)), (2, .ref o), (3, .ref q9)]) hC hl [1, 2, 3, 0] dL_fail_12 rfl (by decide) rfl (fun ls hl => ?_)
      refine vs_iconst hC dL_fail_13 ?_
      exact vx_ret (vs_iret (S, O) hC hr hlk hW rfl hw (Nat.le_of_ble_eq_true rfl) (Nat.le_of_ble_eq_true rfl) dL_fail_14)
    · have hw := hp1 rfl
      refine vs_catch (hh := hhL_fail) hC hX htab [⟨0, 9, 12, 21⟩] ⟨0, 9, 15, 15⟩ [] rfl (List.forall_mem_cons.mpr ⟨⟨by decide, 3, vt_21, by decide +kernel⟩, (fun _ h => absurd h List.not_mem_nil)⟩) rfl (by decide) vt_15 (by decide +kernel) hq hv hcl ?_
      refine vs_astore_n (L' := [(0, .ref h0), (1, .int (vs_I x1)), (2, .ref o), (3, .ref q9)]) hC hl [1, 2, 3, 0] dL_fail_15 rfl (by decide) rfl (fun ls hl => ?_)
      refine vs_iconst hC dL_fail_16 ?_
      exact vx_ret (vs_iret (S, O) hC hr hlk hW rfl hw (Nat.le_of_ble_eq_true rfl) (Nat.le_of_ble_eq_true rfl) dL_fail_17)
  have hW : vs_Wd g A _ (vs_W2 h0 (aS 0) (aT 0) (aK 0) n0 V ++ (vs_W1 g aS S2 ++ (vs_W1 g aT T ++ (vs_W0 g aK K ++ (vs_WO g o O ++ wr))))) _ _ s := hW
  obtain ⟨hx, hw⟩ := hw
  refine vs_i2l hC hx dL_fail_7 ?_
  obtain ⟨O3, hO3⟩ : ∃ z : vs_St, z = vs_st O 0 0 r1 := ⟨_, rfl⟩
  have hw := hw O3 hO3
  refine vs_last (Wo' := vs_W2 h0 (aS 0) (aT 0) (aK 0) n0 V ++ (vs_W1 g aS S2 ++ (vs_W1 g aT T ++ (vs_W0 g aK K ++ (vs_WO g o O3 ++ wr))))) hC hW 37 rfl (by rw [hO3]; rfl) dL_fail_8 (fun H locs hW => ?_)
  refine vs_goto hC 18 dL_fail_9 (by decide) ?_
  refine vs_iconst hC dL_fail_18 ?_
  exact vx_ret (vs_iret (S2, O3) hC hr hlk hW rfl hw (Nat.le_of_ble_eq_true rfl) (Nat.le_of_ble_eq_true rfl) dL_fail_19)
set_option maxHeartbeats 4000000 in
set_option maxRecDepth 100000 in
theorem c_L_replace (l : Launch) (hst : l.stackTraces = false) (g : vs_G) (sd : Nat → Nat) (h0 n0 o : Nat) (aS aT aK : Nat → Nat) (wr : va_W) (V S T K : vs_St) (O : vs_St) (x1 : Int) (post : Int → vs_St → vs_St → Prop) (hw : wL_replace V S T K O x1 post) : vs_HI l yL_replace (Cond.codeWith yL_replace cL_replace 4 (some .int) hhL_replace :: vs_ws) { frames := 8, cells := 2, slots := 12, locals := 132 } g sd [.ref h0, .int (vs_I x1), .ref o] (vs_W2 h0 (aS 0) (aT 0) (aK 0) n0 V ++ (vs_W1 g aS S ++ (vs_W1 g aT T ++ (vs_W0 g aK K ++ (vs_WO g o O ++ wr))))) (fun (u : vs_St × vs_St) => vs_W2 h0 (aS 0) (aT 0) (aK 0) n0 V ++ (vs_W1 g aS u.1 ++ (vs_W1 g aT T ++ (vs_W0 g aK K ++ (vs_WO g o u.2 ++ wr))))) (fun v (u : vs_St × vs_St) => post v u.1 u.2) 2 12 := by
  refine vs_ofH (Qc := fun A => vs_QI g A (fun (u : vs_St × vs_St) => vs_W2 h0 (aS 0) (aT 0) (aK 0) n0 V ++ (vs_W1 g aS u.1 ++ (vs_W1 g aT T ++ (vs_W0 g aK K ++ (vs_WO g o u.2 ++ wr))))) (fun v (u : vs_St × vs_St) => post v u.1 u.2)) (XC := fun A => vs_QX g A (vs_W2 h0 (aS 0) (aT 0) (aK 0) n0 V ++ (vs_W1 g aS S ++ (vs_W1 g aT T ++ (vs_W0 g aK K ++ (vs_WO g o O ++ wr))))) (fun _ => False)) (by decide +kernel) (Nat.le_of_ble_eq_true rfl) (fun p e s m below meth c A ls hC hr hlk htab hW hX hl => ?_)
  have hC : CallFix p m c cL_replace 4 s _ vs_ws RL := hC
  have hl : lv_has ls 4 [(0, .ref h0), (1, .int (vs_I x1)), (2, .ref o)] := hl
  unfold wL_replace at hw
  refine vs_aload_n hC hl 2 dL_replace_0 rfl rfl ?_
  refine vs_iconst hC dL_replace_1 ?_
  refine vs_aload_n hC hl 0 dL_replace_2 rfl rfl ?_
  refine vs_iload_n hC hl 1 dL_replace_3 rfl rfl ?_
  refine vs_xcallVI [.int (vs_I x1)] hC hW hX 0 rfl rfl vk_X2_replace vm_L_92 (c_X2_replace l hst g sd h0 n0 aS aT aK (vs_WO g o O ++ wr) V S T K x1 _ _ hw) rfl hl.1 rfl ⟨rfl, rfl⟩ ⟨Nat.le_of_ble_eq_true rfl, Nat.le_of_ble_eq_true rfl⟩ ⟨Nat.le_of_ble_eq_true rfl, Nat.le_of_ble_eq_true rfl⟩ (Nat.le_of_ble_eq_true rfl) dL_replace_4 (fun k ce q9 H locs hp hW hq hv hcl => ?_) (fun r1 S2 H locs hw hW => ?_)
  · obtain ⟨hp0, hp1, hpk⟩ := hp
    rcases hpk with rfl | rfl
    · have hw := hp0 rfl
      refine vs_catch (hh := hhL_replace) hC hX htab [] ⟨0, 9, 12, 21⟩ [⟨0, 9, 15, 15⟩] rfl (fun _ h => absurd h List.not_mem_nil) rfl (by decide) vt_21 (by decide +kernel) hq hv hcl ?_
      refine vs_astore_n (L' := [(0, .ref h0), (1, .int (vs_I x1)), (2, .ref o), (3, .ref q9)]) hC hl [1, 2, 3, 0] dL_replace_12 rfl (by decide) rfl (fun ls hl => ?_)
      refine vs_iconst hC dL_replace_13 ?_
      exact vx_ret (vs_iret (S, O) hC hr hlk hW rfl hw (Nat.le_of_ble_eq_true rfl) (Nat.le_of_ble_eq_true rfl) dL_replace_14)
    · have hw := hp1 rfl
      refine vs_catch (hh := hhL_replace) hC hX htab [⟨0, 9, 12, 21⟩] ⟨0, 9, 15, 15⟩ [] rfl (List.forall_mem_cons.mpr ⟨⟨by decide, 3, vt_21, by decide +kernel⟩, (fun _ h => absurd h List.not_mem_nil)⟩) rfl (by decide) vt_15 (by decide +kernel) hq hv hcl ?_
      refine vs_astore_n (L' := [(0, .ref h0), (1, .int (vs_I x1)), (2, .ref o), (3, .ref q9)]) hC hl [1, 2, 3, 0] dL_replace_15 rfl (by decide) rfl (fun ls hl => ?_)
      refine vs_iconst hC dL_replace_16 ?_
      exact vx_ret (vs_iret (S, O) hC hr hlk hW rfl hw (Nat.le_of_ble_eq_true rfl) (Nat.le_of_ble_eq_true rfl) dL_replace_17)
  have hW : vs_Wd g A _ (vs_W2 h0 (aS 0) (aT 0) (aK 0) n0 V ++ (vs_W1 g aS S2 ++ (vs_W1 g aT T ++ (vs_W0 g aK K ++ (vs_WO g o O ++ wr))))) _ _ s := hW
  obtain ⟨hx, hw⟩ := hw
  refine vs_i2l hC hx dL_replace_7 ?_
  obtain ⟨O3, hO3⟩ : ∃ z : vs_St, z = vs_st O 0 0 r1 := ⟨_, rfl⟩
  have hw := hw O3 hO3
  refine vs_last (Wo' := vs_W2 h0 (aS 0) (aT 0) (aK 0) n0 V ++ (vs_W1 g aS S2 ++ (vs_W1 g aT T ++ (vs_W0 g aK K ++ (vs_WO g o O3 ++ wr))))) hC hW 37 rfl (by rw [hO3]; rfl) dL_replace_8 (fun H locs hW => ?_)
  refine vs_goto hC 18 dL_replace_9 (by decide) ?_
  refine vs_iconst hC dL_replace_18 ?_
  exact vx_ret (vs_iret (S2, O3) hC hr hlk hW rfl hw (Nat.le_of_ble_eq_true rfl) (Nat.le_of_ble_eq_true rfl) dL_replace_19)
set_option maxHeartbeats 4000000 in
set_option maxRecDepth 100000 in
theorem c_L_warn (l : Launch) (hst : l.stackTraces = false) (g : vs_G) (sd : Nat → Nat) (h0 n0 o : Nat) (aS aT aK : Nat → Nat) (wr : va_W) (V S T K : vs_St) (O : vs_St) (x1 : Int) (post : Int → vs_St → vs_St → Prop) (hw : wL_warn V S T K O x1 post) : vs_HI l yL_warn (Cond.codeWith yL_warn cL_warn 4 (some .int) hhL_warn :: vs_ws) { frames := 8, cells := 2, slots := 12, locals := 132 } g sd [.ref h0, .int (vs_I x1), .ref o] (vs_W2 h0 (aS 0) (aT 0) (aK 0) n0 V ++ (vs_W1 g aS S ++ (vs_W1 g aT T ++ (vs_W0 g aK K ++ (vs_WO g o O ++ wr))))) (fun (u : vs_St × vs_St) => vs_W2 h0 (aS 0) (aT 0) (aK 0) n0 V ++ (vs_W1 g aS u.1 ++ (vs_W1 g aT T ++ (vs_W0 g aK K ++ (vs_WO g o u.2 ++ wr))))) (fun v (u : vs_St × vs_St) => post v u.1 u.2) 2 12 := by
  refine vs_ofH (Qc := fun A => vs_QI g A (fun (u : vs_St × vs_St) => vs_W2 h0 (aS 0) (aT 0) (aK 0) n0 V ++ (vs_W1 g aS u.1 ++ (vs_W1 g aT T ++ (vs_W0 g aK K ++ (vs_WO g o u.2 ++ wr))))) (fun v (u : vs_St × vs_St) => post v u.1 u.2)) (XC := fun A => vs_QX g A (vs_W2 h0 (aS 0) (aT 0) (aK 0) n0 V ++ (vs_W1 g aS S ++ (vs_W1 g aT T ++ (vs_W0 g aK K ++ (vs_WO g o O ++ wr))))) (fun _ => False)) (by decide +kernel) (Nat.le_of_ble_eq_true rfl) (fun p e s m below meth c A ls hC hr hlk htab hW hX hl => ?_)
  have hC : CallFix p m c cL_warn 4 s _ vs_ws RL := hC
  have hl : lv_has ls 4 [(0, .ref h0), (1, .int (vs_I x1)), (2, .ref o)] := hl
  unfold wL_warn at hw
  refine vs_aload_n hC hl 2 dL_warn_0 rfl rfl ?_
  refine vs_iconst hC dL_warn_1 ?_
  refine vs_aload_n hC hl 0 dL_warn_2 rfl rfl ?_
  refine vs_iload_n hC hl 1 dL_warn_3 rfl rfl ?_
  refine vs_xcallVI [.int (vs_I x1)] hC hW hX 0 rfl rfl vk_X2_warn vm_L_95 (c_X2_warn l hst g sd h0 n0 aS aT aK (vs_WO g o O ++ wr) V S T K x1 _ _ hw) rfl hl.1 rfl ⟨rfl, rfl⟩ ⟨Nat.le_of_ble_eq_true rfl, Nat.le_of_ble_eq_true rfl⟩ ⟨Nat.le_of_ble_eq_true rfl, Nat.le_of_ble_eq_true rfl⟩ (Nat.le_of_ble_eq_true rfl) dL_warn_4 (fun k ce q9 H locs hp hW hq hv hcl => ?_) (fun r1 S2 H locs hw hW => ?_)
  · obtain ⟨hp0, hp1, hpk⟩ := hp
    rcases hpk with rfl | rfl
    · have hw := hp0 rfl
      refine vs_catch (hh := hhL_warn) hC hX htab [] ⟨0, 9, 12, 21⟩ [⟨0, 9, 15, 15⟩] rfl (fun _ h => absurd h List.not_mem_nil) rfl (by decide) vt_21 (by decide +kernel) hq hv hcl ?_
      refine vs_astore_n (L' := [(0, .ref h0), (1, .int (vs_I x1)), (2, .ref o), (3, .ref q9)]) hC hl [1, 2, 3, 0] dL_warn_12 rfl (by decide) rfl (fun ls hl => ?_)
      refine vs_iconst hC dL_warn_13 ?_
      exact vx_ret (vs_iret (S, O) hC hr hlk hW rfl hw (Nat.le_of_ble_eq_true rfl) (Nat.le_of_ble_eq_true rfl) dL_warn_14)
    · have hw := hp1 rfl
      refine vs_catch (hh := hhL_warn) hC hX htab [⟨0, 9, 12, 21⟩] ⟨0, 9, 15, 15⟩ [] rfl (List.forall_mem_cons.mpr ⟨⟨by decide, 3, vt_21, by decide +kernel⟩, (fun _ h => absurd h List.not_mem_nil)⟩) rfl (by decide) vt_15 (by decide +kernel) hq hv hcl ?_
      refine vs_astore_n (L' := [(0, .ref h0), (1, .int (vs_I x1)), (2, .ref o), (3, .ref q9)]) hC hl [1, 2, 3, 0] dL_warn_15 rfl (by decide) rfl (fun ls hl => ?_)
      refine vs_iconst hC dL_warn_16 ?_
      exact vx_ret (vs_iret (S, O) hC hr hlk hW rfl hw (Nat.le_of_ble_eq_true rfl) (Nat.le_of_ble_eq_true rfl) dL_warn_17)
  have hW : vs_Wd g A _ (vs_W2 h0 (aS 0) (aT 0) (aK 0) n0 V ++ (vs_W1 g aS S2 ++ (vs_W1 g aT T ++ (vs_W0 g aK K ++ (vs_WO g o O ++ wr))))) _ _ s := hW
  obtain ⟨hx, hw⟩ := hw
  refine vs_i2l hC hx dL_warn_7 ?_
  obtain ⟨O3, hO3⟩ : ∃ z : vs_St, z = vs_st O 0 0 r1 := ⟨_, rfl⟩
  have hw := hw O3 hO3
  refine vs_last (Wo' := vs_W2 h0 (aS 0) (aT 0) (aK 0) n0 V ++ (vs_W1 g aS S2 ++ (vs_W1 g aT T ++ (vs_W0 g aK K ++ (vs_WO g o O3 ++ wr))))) hC hW 37 rfl (by rw [hO3]; rfl) dL_warn_8 (fun H locs hW => ?_)
  refine vs_goto hC 18 dL_warn_9 (by decide) ?_
  refine vs_iconst hC dL_warn_18 ?_
  exact vx_ret (vs_iret (S2, O3) hC hr hlk hW rfl hw (Nat.le_of_ble_eq_true rfl) (Nat.le_of_ble_eq_true rfl) dL_warn_19)
set_option maxHeartbeats 4000000 in
set_option maxRecDepth 100000 in
theorem c_L_rot (l : Launch) (hst : l.stackTraces = false) (g : vs_G) (sd : Nat → Nat) (h0 n0 o : Nat) (aS aT aK : Nat → Nat) (wr : va_W) (V S T K : vs_St) (O : vs_St) (x1 : Int) (x2 : Int) (post : Int → vs_St → vs_St → Prop) (hw : wL_rot V S T K O x1 x2 post) : vs_HI l yL_rot (Cond.codeWith yL_rot cL_rot 5 (some .int) hhL_rot :: vs_ws) { frames := 8, cells := 2, slots := 12, locals := 135 } g sd [.ref h0, .int (vs_I x1), .int (vs_I x2), .ref o] (vs_W2 h0 (aS 0) (aT 0) (aK 0) n0 V ++ (vs_W1 g aS S ++ (vs_W1 g aT T ++ (vs_W0 g aK K ++ (vs_WO g o O ++ wr))))) (fun (u : vs_St × vs_St) => vs_W2 h0 (aS 0) (aT 0) (aK 0) n0 V ++ (vs_W1 g aS u.1 ++ (vs_W1 g aT T ++ (vs_W0 g aK K ++ (vs_WO g o u.2 ++ wr))))) (fun v (u : vs_St × vs_St) => post v u.1 u.2) 2 12 := by
  refine vs_ofH (Qc := fun A => vs_QI g A (fun (u : vs_St × vs_St) => vs_W2 h0 (aS 0) (aT 0) (aK 0) n0 V ++ (vs_W1 g aS u.1 ++ (vs_W1 g aT T ++ (vs_W0 g aK K ++ (vs_WO g o u.2 ++ wr))))) (fun v (u : vs_St × vs_St) => post v u.1 u.2)) (XC := fun A => vs_QX g A (vs_W2 h0 (aS 0) (aT 0) (aK 0) n0 V ++ (vs_W1 g aS S ++ (vs_W1 g aT T ++ (vs_W0 g aK K ++ (vs_WO g o O ++ wr))))) (fun _ => False)) (by decide +kernel) (Nat.le_of_ble_eq_true rfl) (fun p e s m below meth c A ls hC hr hlk htab hW hX hl => ?_)
  have hC : CallFix p m c cL_rot 5 s _ vs_ws RL := hC
  have hl : lv_has ls 5 [(0, .ref h0), (1, .int (vs_I x1)), (2, .int (vs_I x2)), (3, .ref o)] := hl
  unfold wL_rot at hw
  refine vs_aload_n hC hl 3 dL_rot_0 rfl rfl ?_
  refine vs_iconst hC dL_rot_1 ?_
  refine vs_aload_n hC hl 0 dL_rot_2 rfl rfl ?_
  refine vs_iload_n hC hl 1 dL_rot_3 rfl rfl ?_
  refine vs_iload_n hC hl 2 dL_rot_4 rfl rfl ?_
  refine vs_xcallVI [.int (vs_I x1), .int (vs_I x2)] hC hW hX 0 rfl rfl vk_X2_rot vm_L_98 (c_X2_rot l hst g sd h0 n0 aS aT aK (vs_WO g o O ++ wr) V S T K x1 x2 _ _ hw) rfl hl.1 rfl ⟨rfl, rfl⟩ ⟨Nat.le_of_ble_eq_true rfl, Nat.le_of_ble_eq_true rfl⟩ ⟨Nat.le_of_ble_eq_true rfl, Nat.le_of_ble_eq_true rfl⟩ (Nat.le_of_ble_eq_true rfl) dL_rot_5 (fun k ce q9 H locs hp hW hq hv hcl => ?_) (fun r1 S2 H locs hw hW => ?_)
  · obtain ⟨hp0, hp1, hpk⟩ := hp
    rcases hpk with rfl | rfl
    · have hw := hp0 rfl
      refine vs_catch (hh := hhL_rot) hC hX htab [] ⟨0, 17, 20, 21⟩ [⟨0, 17, 24, 46⟩] rfl (fun _ h => absurd h List.not_mem_nil) rfl (by decide) vt_21 (by decide +kernel) hq hv hcl ?_
      refine vs_astore (L' := [(0, .ref h0), (1, .int (vs_I x1)), (2, .int (vs_I x2)), (3, .ref o), (4, .ref q9)]) hC hl [1, 2, 3, 4, 0] dL_rot_20 (by decide) rfl (fun ls hl => ?_)
      refine vs_iconst hC dL_rot_22 ?_
      exact vx_ret (vs_iret (S, O) hC hr hlk hW rfl hw (Nat.le_of_ble_eq_true rfl) (Nat.le_of_ble_eq_true rfl) dL_rot_23)
    · have hw := hp1 rfl
      refine vs_catch (hh := hhL_rot) hC hX htab [⟨0, 17, 20, 21⟩] ⟨0, 17, 24, 46⟩ [] rfl (List.forall_mem_cons.mpr ⟨⟨by decide, 3, vt_21, by decide +kernel⟩, (fun _ h => absurd h List.not_mem_nil)⟩) rfl (by decide) vt_46 (by decide +kernel) hq hv hcl ?_
      refine vs_astore (L' := [(0, .ref h0), (1, .int (vs_I x1)), (2, .int (vs_I x2)), (3, .ref o), (4, .ref q9)]) hC hl [1, 2, 3, 4, 0] dL_rot_24 (by decide) rfl (fun ls hl => ?_)
      refine vs_iconst hC dL_rot_26 ?_
      exact vx_ret (vs_iret (S, O) hC hr hlk hW rfl hw (Nat.le_of_ble_eq_true rfl) (Nat.le_of_ble_eq_true rfl) dL_rot_27)
  have hW : vs_Wd g A _ (vs_W2 h0 (aS 0) (aT 0) (aK 0) n0 V ++ (vs_W1 g aS S2 ++ (vs_W1 g aT T ++ (vs_W0 g aK K ++ (vs_WO g o O ++ wr))))) _ _ s := hW
  obtain ⟨hx, hw⟩ := hw
  obtain ⟨hwt, hwf⟩ := hw
  refine vs_if_eq hC 15 hx dL_rot_8 (by decide) (fun hc => ?_) (fun hc => ?_)
  · have hw := hwt hc
    clear hwt hwf hc
    refine vs_lconst (x := 0) hC dL_rot_15 (by decide +kernel) ?_
    obtain ⟨O3, hO3⟩ : ∃ z : vs_St, z = vs_st O 0 0 0 := ⟨_, rfl⟩
    have hw := hw O3 hO3
    refine vs_last (Wo' := vs_W2 h0 (aS 0) (aT 0) (aK 0) n0 V ++ (vs_W1 g aS S2 ++ (vs_W1 g aT T ++ (vs_W0 g aK K ++ (vs_WO g o O3 ++ wr))))) hC hW 37 rfl (by rw [hO3]; rfl) dL_rot_16 (fun H locs hW => ?_)
    refine vs_goto hC 28 dL_rot_17 (by decide) ?_
    refine vs_iconst hC dL_rot_28 ?_
    exact vx_ret (vs_iret (S2, O3) hC hr hlk hW rfl hw (Nat.le_of_ble_eq_true rfl) (Nat.le_of_ble_eq_true rfl) dL_rot_29)
  · have hw := hwf hc
    clear hwt hwf hc
    refine vs_lconst (x := 1) hC dL_rot_11 (by decide +kernel) ?_
    refine vs_goto hC 16 dL_rot_12 (by decide) ?_
    obtain ⟨O4, hO4⟩ : ∃ z : vs_St, z = vs_st O 0 0 1 := ⟨_, rfl⟩
    have hw := hw O4 hO4
    refine vs_last (Wo' := vs_W2 h0 (aS 0) (aT 0) (aK 0) n0 V ++ (vs_W1 g aS S2 ++ (vs_W1 g aT T ++ (vs_W0 g aK K ++ (vs_WO g o O4 ++ wr))))) hC hW 37 rfl (by rw [hO4]; rfl) dL_rot_16 (fun H locs hW => ?_)
    refine vs_goto hC 28 dL_rot_17 (by decide) ?_
    refine vs_iconst hC dL_rot_28 ?_
    exact vx_ret (vs_iret (S2, O4) hC hr hlk hW rfl hw (Nat.le_of_ble_eq_true rfl) (Nat.le_of_ble_eq_true rfl) dL_rot_29)
set_option maxHeartbeats 4000000 in
set_option maxRecDepth 100000 in
theorem c_L_scrub (l : Launch) (hst : l.stackTraces = false) (g : vs_G) (sd : Nat → Nat) (h0 n0 o : Nat) (aS aT aK : Nat → Nat) (wr : va_W) (V S T K : vs_St) (O : vs_St) (x1 : Int) (post : Int → vs_St → vs_St → Prop) (hw : wL_scrub V S T K O x1 post) : vs_HI l yL_scrub (Cond.codeWith yL_scrub cL_scrub 4 (some .int) hhL_scrub :: vs_ws) { frames := 8, cells := 2, slots := 12, locals := 132 } g sd [.ref h0, .int (vs_I x1), .ref o] (vs_W2 h0 (aS 0) (aT 0) (aK 0) n0 V ++ (vs_W1 g aS S ++ (vs_W1 g aT T ++ (vs_W0 g aK K ++ (vs_WO g o O ++ wr))))) (fun (u : vs_St × vs_St) => vs_W2 h0 (aS 0) (aT 0) (aK 0) n0 V ++ (vs_W1 g aS u.1 ++ (vs_W1 g aT T ++ (vs_W0 g aK K ++ (vs_WO g o u.2 ++ wr))))) (fun v (u : vs_St × vs_St) => post v u.1 u.2) 2 12 := by
  refine vs_ofH (Qc := fun A => vs_QI g A (fun (u : vs_St × vs_St) => vs_W2 h0 (aS 0) (aT 0) (aK 0) n0 V ++ (vs_W1 g aS u.1 ++ (vs_W1 g aT T ++ (vs_W0 g aK K ++ (vs_WO g o u.2 ++ wr))))) (fun v (u : vs_St × vs_St) => post v u.1 u.2)) (XC := fun A => vs_QX g A (vs_W2 h0 (aS 0) (aT 0) (aK 0) n0 V ++ (vs_W1 g aS S ++ (vs_W1 g aT T ++ (vs_W0 g aK K ++ (vs_WO g o O ++ wr))))) (fun _ => False)) (by decide +kernel) (Nat.le_of_ble_eq_true rfl) (fun p e s m below meth c A ls hC hr hlk htab hW hX hl => ?_)
  have hC : CallFix p m c cL_scrub 4 s _ vs_ws RL := hC
  have hl : lv_has ls 4 [(0, .ref h0), (1, .int (vs_I x1)), (2, .ref o)] := hl
  unfold wL_scrub at hw
  refine vs_aload_n hC hl 2 dL_scrub_0 rfl rfl ?_
  refine vs_iconst hC dL_scrub_1 ?_
  refine vs_aload_n hC hl 0 dL_scrub_2 rfl rfl ?_
  refine vs_iload_n hC hl 1 dL_scrub_3 rfl rfl ?_
  refine vs_xcallVI [.int (vs_I x1)] hC hW hX 0 rfl rfl vk_X2_scrub vm_L_101 (c_X2_scrub l hst g sd h0 n0 aS aT aK (vs_WO g o O ++ wr) V S T K x1 _ _ hw) rfl hl.1 rfl ⟨rfl, rfl⟩ ⟨Nat.le_of_ble_eq_true rfl, Nat.le_of_ble_eq_true rfl⟩ ⟨Nat.le_of_ble_eq_true rfl, Nat.le_of_ble_eq_true rfl⟩ (Nat.le_of_ble_eq_true rfl) dL_scrub_4 (fun k ce q9 H locs hp hW hq hv hcl => ?_) (fun r1 S2 H locs hw hW => ?_)
  · obtain ⟨hp0, hp1, hpk⟩ := hp
    rcases hpk with rfl | rfl
    · have hw := hp0 rfl
      refine vs_catch (hh := hhL_scrub) hC hX htab [] ⟨0, 9, 12, 21⟩ [⟨0, 9, 15, 15⟩] rfl (fun _ h => absurd h List.not_mem_nil) rfl (by decide) vt_21 (by decide +kernel) hq hv hcl ?_
      refine vs_astore_n (L' := [(0, .ref h0), (1, .int (vs_I x1)), (2, .ref o), (3, .ref q9)]) hC hl [1, 2, 3, 0] dL_scrub_12 rfl (by decide) rfl (fun ls hl => ?_)
      refine vs_iconst hC dL_scrub_13 ?_
      exact vx_ret (vs_iret (S, O) hC hr hlk hW rfl hw (Nat.le_of_ble_eq_true rfl) (Nat.le_of_ble_eq_true rfl) dL_scrub_14)
    · have hw := hp1 rfl
      refine vs_catch (hh := hhL_scrub) hC hX htab [⟨0, 9, 12, 21⟩] ⟨0, 9, 15, 15⟩ [] rfl (List.forall_mem_cons.mpr ⟨⟨by decide, 3, vt_21, by decide +kernel⟩, (fun _ h => absurd h List.not_mem_nil)⟩) rfl (by decide) vt_15 (by decide +kernel) hq hv hcl ?_
      refine vs_astore_n (L' := [(0, .ref h0), (1, .int (vs_I x1)), (2, .ref o), (3, .ref q9)]) hC hl [1, 2, 3, 0] dL_scrub_15 rfl (by decide) rfl (fun ls hl => ?_)
      refine vs_iconst hC dL_scrub_16 ?_
      exact vx_ret (vs_iret (S, O) hC hr hlk hW rfl hw (Nat.le_of_ble_eq_true rfl) (Nat.le_of_ble_eq_true rfl) dL_scrub_17)
  have hW : vs_Wd g A _ (vs_W2 h0 (aS 0) (aT 0) (aK 0) n0 V ++ (vs_W1 g aS S2 ++ (vs_W1 g aT T ++ (vs_W0 g aK K ++ (vs_WO g o O ++ wr))))) _ _ s := hW
  obtain ⟨hx, hw⟩ := hw
  refine vs_i2l hC hx dL_scrub_7 ?_
  obtain ⟨O3, hO3⟩ : ∃ z : vs_St, z = vs_st O 0 0 r1 := ⟨_, rfl⟩
  have hw := hw O3 hO3
  refine vs_last (Wo' := vs_W2 h0 (aS 0) (aT 0) (aK 0) n0 V ++ (vs_W1 g aS S2 ++ (vs_W1 g aT T ++ (vs_W0 g aK K ++ (vs_WO g o O3 ++ wr))))) hC hW 37 rfl (by rw [hO3]; rfl) dL_scrub_8 (fun H locs hW => ?_)
  refine vs_goto hC 18 dL_scrub_9 (by decide) ?_
  refine vs_iconst hC dL_scrub_18 ?_
  exact vx_ret (vs_iret (S2, O3) hC hr hlk hW rfl hw (Nat.le_of_ble_eq_true rfl) (Nat.le_of_ble_eq_true rfl) dL_scrub_19)
set_option maxHeartbeats 4000000 in
set_option maxRecDepth 100000 in
theorem c_L_rottenOn (l : Launch) (hst : l.stackTraces = false) (g : vs_G) (sd : Nat → Nat) (h0 n0 o : Nat) (aS aT aK : Nat → Nat) (wr : va_W) (V S T K : vs_St) (O : vs_St) (x1 : Int) (post : Int → vs_St → Prop) (hw : wL_rottenOn V S T K O x1 post) : vs_HI l yL_rottenOn (Cond.codeWith yL_rottenOn cL_rottenOn 4 (some .int) hhL_rottenOn :: vs_ws) { frames := 8, cells := 1, slots := 6, locals := 132 } g sd [.ref h0, .int (vs_I x1), .ref o] (vs_W2 h0 (aS 0) (aT 0) (aK 0) n0 V ++ (vs_W1 g aS S ++ (vs_W1 g aT T ++ (vs_W0 g aK K ++ (vs_WO g o O ++ wr))))) (fun (u : vs_St) => vs_W2 h0 (aS 0) (aT 0) (aK 0) n0 V ++ (vs_W1 g aS S ++ (vs_W1 g aT T ++ (vs_W0 g aK K ++ (vs_WO g o u ++ wr))))) post 1 6 := by
  refine vs_ofH (Qc := fun A => vs_QI g A (fun (u : vs_St) => vs_W2 h0 (aS 0) (aT 0) (aK 0) n0 V ++ (vs_W1 g aS S ++ (vs_W1 g aT T ++ (vs_W0 g aK K ++ (vs_WO g o u ++ wr))))) post) (XC := fun A => vs_QX g A (vs_W2 h0 (aS 0) (aT 0) (aK 0) n0 V ++ (vs_W1 g aS S ++ (vs_W1 g aT T ++ (vs_W0 g aK K ++ (vs_WO g o O ++ wr))))) (fun _ => False)) (by decide +kernel) (Nat.le_of_ble_eq_true rfl) (fun p e s m below meth c A ls hC hr hlk htab hW hX hl => ?_)
  have hC : CallFix p m c cL_rottenOn 4 s _ vs_ws RL := hC
  have hl : lv_has ls 4 [(0, .ref h0), (1, .int (vs_I x1)), (2, .ref o)] := hl
  unfold wL_rottenOn at hw
  refine vs_aload_n hC hl 2 dL_rottenOn_0 rfl rfl ?_
  refine vs_iconst hC dL_rottenOn_1 ?_
  refine vs_aload_n hC hl 0 dL_rottenOn_2 rfl rfl ?_
  refine vs_iload_n hC hl 1 dL_rottenOn_3 rfl rfl ?_
  refine vs_xcallVI [.int (vs_I x1)] hC hW hX 0 rfl rfl vk_X2_rottenOn vm_L_104 (c_X2_rottenOn l hst g sd h0 n0 aS aT aK (vs_WO g o O ++ wr) V S T K x1 _ _ hw) rfl hl.1 rfl ⟨rfl, rfl⟩ ⟨Nat.le_of_ble_eq_true rfl, Nat.le_of_ble_eq_true rfl⟩ ⟨Nat.le_of_ble_eq_true rfl, Nat.le_of_ble_eq_true rfl⟩ (Nat.le_of_ble_eq_true rfl) dL_rottenOn_4 (fun k ce q9 H locs hp hW hq hv hcl => ?_) (fun r1 _ H locs hw hW => ?_)
  · obtain ⟨hp0, hpk⟩ := hp
    subst hpk
    · have hw := hp0 rfl
      refine vs_catch (hh := hhL_rottenOn) hC hX htab [] ⟨0, 9, 12, 21⟩ [] rfl (fun _ h => absurd h List.not_mem_nil) rfl (by decide) vt_21 (by decide +kernel) hq hv hcl ?_
      refine vs_astore_n (L' := [(0, .ref h0), (1, .int (vs_I x1)), (2, .ref o), (3, .ref q9)]) hC hl [1, 2, 3, 0] dL_rottenOn_12 rfl (by decide) rfl (fun ls hl => ?_)
      refine vs_iconst hC dL_rottenOn_13 ?_
      exact vx_ret (vs_iret (O) hC hr hlk hW rfl hw (Nat.le_of_ble_eq_true rfl) (Nat.le_of_ble_eq_true rfl) dL_rottenOn_14)
  have hW : vs_Wd g A _ (vs_W2 h0 (aS 0) (aT 0) (aK 0) n0 V ++ (vs_W1 g aS S ++ (vs_W1 g aT T ++ (vs_W0 g aK K ++ (vs_WO g o O ++ wr))))) _ _ s := hW
  obtain ⟨hx, hw⟩ := hw
  refine vs_i2l hC hx dL_rottenOn_7 ?_
  obtain ⟨O2, hO2⟩ : ∃ z : vs_St, z = vs_st O 0 0 r1 := ⟨_, rfl⟩
  have hw := hw O2 hO2
  refine vs_last (Wo' := vs_W2 h0 (aS 0) (aT 0) (aK 0) n0 V ++ (vs_W1 g aS S ++ (vs_W1 g aT T ++ (vs_W0 g aK K ++ (vs_WO g o O2 ++ wr))))) hC hW 37 rfl (by rw [hO2]; rfl) dL_rottenOn_8 (fun H locs hW => ?_)
  refine vs_goto hC 15 dL_rottenOn_9 (by decide) ?_
  refine vs_iconst hC dL_rottenOn_15 ?_
  exact vx_ret (vs_iret (O2) hC hr hlk hW rfl hw (Nat.le_of_ble_eq_true rfl) (Nat.le_of_ble_eq_true rfl) dL_rottenOn_16)
