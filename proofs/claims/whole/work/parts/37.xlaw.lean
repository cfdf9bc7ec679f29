/-! the law's helpers for texts, and its cases 38 and 39 -/
theorem vs_mv1 {X A1 r : va_W} : List.Perm (X ++ (A1 ++ (r))) (A1 ++ (X ++ r)) := List.perm_append_comm_assoc X A1 r
theorem vs_mv2 {X A1 A2 r : va_W} : List.Perm (X ++ (A1 ++ (A2 ++ (r)))) (A1 ++ (A2 ++ (X ++ r))) := (List.perm_append_comm_assoc X A1 (A2 ++ (r))).trans (List.Perm.append_left A1 vs_mv1)
theorem vs_mv3 {X A1 A2 A3 r : va_W} : List.Perm (X ++ (A1 ++ (A2 ++ (A3 ++ (r))))) (A1 ++ (A2 ++ (A3 ++ (X ++ r)))) := (List.perm_append_comm_assoc X A1 (A2 ++ (A3 ++ (r)))).trans (List.Perm.append_left A1 vs_mv2)
theorem vs_mv4 {X A1 A2 A3 A4 r : va_W} : List.Perm (X ++ (A1 ++ (A2 ++ (A3 ++ (A4 ++ (r)))))) (A1 ++ (A2 ++ (A3 ++ (A4 ++ (X ++ r))))) := (List.perm_append_comm_assoc X A1 (A2 ++ (A3 ++ (A4 ++ (r))))).trans (List.Perm.append_left A1 vs_mv3)
theorem vs_mv5 {X A1 A2 A3 A4 A5 r : va_W} : List.Perm (X ++ (A1 ++ (A2 ++ (A3 ++ (A4 ++ (A5 ++ (r))))))) (A1 ++ (A2 ++ (A3 ++ (A4 ++ (A5 ++ (X ++ r)))))) := (List.perm_append_comm_assoc X A1 (A2 ++ (A3 ++ (A4 ++ (A5 ++ (r)))))).trans (List.Perm.append_left A1 vs_mv4)
theorem vs_mv6 {X A1 A2 A3 A4 A5 A6 r : va_W} : List.Perm (X ++ (A1 ++ (A2 ++ (A3 ++ (A4 ++ (A5 ++ (A6 ++ (r)))))))) (A1 ++ (A2 ++ (A3 ++ (A4 ++ (A5 ++ (A6 ++ (X ++ r))))))) := (List.perm_append_comm_assoc X A1 (A2 ++ (A3 ++ (A4 ++ (A5 ++ (A6 ++ (r))))))).trans (List.Perm.append_left A1 vs_mv5)
theorem vs_mv7 {X A1 A2 A3 A4 A5 A6 A7 r : va_W} : List.Perm (X ++ (A1 ++ (A2 ++ (A3 ++ (A4 ++ (A5 ++ (A6 ++ (A7 ++ (r))))))))) (A1 ++ (A2 ++ (A3 ++ (A4 ++ (A5 ++ (A6 ++ (A7 ++ (X ++ r)))))))) := (List.perm_append_comm_assoc X A1 (A2 ++ (A3 ++ (A4 ++ (A5 ++ (A6 ++ (A7 ++ (r)))))))).trans (List.Perm.append_left A1 vs_mv6)
theorem vs_mv8 {X A1 A2 A3 A4 A5 A6 A7 A8 r : va_W} : List.Perm (X ++ (A1 ++ (A2 ++ (A3 ++ (A4 ++ (A5 ++ (A6 ++ (A7 ++ (A8 ++ (r)))))))))) (A1 ++ (A2 ++ (A3 ++ (A4 ++ (A5 ++ (A6 ++ (A7 ++ (A8 ++ (X ++ r))))))))) := (List.perm_append_comm_assoc X A1 (A2 ++ (A3 ++ (A4 ++ (A5 ++ (A6 ++ (A7 ++ (A8 ++ (r))))))))).trans (List.Perm.append_left A1 vs_mv7)
def wL_writeDisk (V S T K : vs_St) (B : vs_TT) (O : vs_St) (x : Int) (post : Int → vs_TT → vs_St → Prop) : Prop :=
  wX2_writeDisk V S T K B x (fun r1 B2 => vs_R r1 ∧ ∀ O2 : vs_St, O2 = vs_st O 0 0 r1 → post 0 B2 O2) (fun k => (k = 3 → post 1 B O) ∧ k = 3)
def wL_lineAt (B : vs_TT) (O : vs_St) (x : Int) (post : Int → vs_St → Prop) : Prop :=
  wX2_lineAt B x (fun r1 => vs_R r1 ∧ ∀ O2 : vs_St, O2 = vs_st O 0 0 r1 → post 0 O2) (fun k => (k = 3 → post 1 O) ∧ k = 3)
set_option maxHeartbeats 4000000 in
set_option maxRecDepth 100000 in
theorem c_L_writeDisk (l : Launch) (hst : l.stackTraces = false) (g : vs_G) (sd : Nat → Nat) (h0 n0 o q : Nat) (ml : Int) (aS aT aK : Nat → Nat) (wr : va_W) (V S T K : vs_St) (B : vs_TT) (O : vs_St) (x : Int) (post : Int → vs_TT → vs_St → Prop) (kB : vs_tk B) (hw : wL_writeDisk V S T K B O x post) : vs_HI l yL_writeDisk (Cond.codeWith yL_writeDisk cL_writeDisk 4 (some .int) hhL_writeDisk :: vs_ws) { frames := 8, cells := 420, slots := 860, locals := 219 } g sd [.ref h0, .int (vs_I x), .ref o] (vs_tT g n0 q ml B ++ (vs_W2 h0 (aS 0) (aT 0) (aK 0) n0 V ++ (vs_W1 g aS S ++ (vs_W1 g aT T ++ (vs_W0 g aK K ++ (vs_WO g o O ++ wr)))))) (fun (u : (Nat × Int × vs_TT) × vs_St) => vs_tT g n0 u.1.1 u.1.2.1 u.1.2.2 ++ (vs_W2 h0 (aS 0) (aT 0) (aK 0) n0 V ++ (vs_W1 g aS S ++ (vs_W1 g aT T ++ (vs_W0 g aK K ++ (vs_WO g o u.2 ++ wr)))))) (fun v (u : (Nat × Int × vs_TT) × vs_St) => vs_tk u.1.2.2 ∧ post v u.1.2.2 u.2) 420 860 := by
  refine vs_ofH (Qc := fun A => vs_QI g A (fun (u : (Nat × Int × vs_TT) × vs_St) => vs_tT g n0 u.1.1 u.1.2.1 u.1.2.2 ++ (vs_W2 h0 (aS 0) (aT 0) (aK 0) n0 V ++ (vs_W1 g aS S ++ (vs_W1 g aT T ++ (vs_W0 g aK K ++ (vs_WO g o u.2 ++ wr)))))) (fun v (u : (Nat × Int × vs_TT) × vs_St) => vs_tk u.1.2.2 ∧ post v u.1.2.2 u.2)) (XC := fun A => vs_QX g A (vs_tT g n0 q ml B ++ (vs_W2 h0 (aS 0) (aT 0) (aK 0) n0 V ++ (vs_W1 g aS S ++ (vs_W1 g aT T ++ (vs_W0 g aK K ++ (vs_WO g o O ++ wr)))))) (fun _ => False)) (by decide +kernel) (Nat.le_of_ble_eq_true rfl) (fun p e s m below meth c A ls hC hr hlk htab hW hX hl => ?_)
  have hC : CallFix p m c cL_writeDisk 4 s _ vs_ws RL := hC
  have hl : lv_has ls 4 [(0, .ref h0), (1, .int (vs_I x)), (2, .ref o)] := hl
  unfold wL_writeDisk at hw
  refine vs_aload_n hC hl 2 dL_writeDisk_0 rfl rfl ?_
  refine vs_iconst hC dL_writeDisk_1 ?_
  refine vs_aload_n hC hl 0 dL_writeDisk_2 rfl rfl ?_
  refine vs_iload_n hC hl 1 dL_writeDisk_3 rfl rfl ?_
  refine vs_xcallVI [.int (vs_I x)] hC hW hX 2 rfl rfl vk_X2_writeDisk vm_L_117 (c_X2_writeDisk l hst g sd h0 n0 q aS aT aK ml B (vs_WO g o O ++ wr) V S T K x _ _ kB hw) rfl hl.1 rfl ⟨rfl, rfl⟩ ⟨Nat.le_of_ble_eq_true rfl, Nat.le_of_ble_eq_true rfl⟩ ⟨Nat.le_of_ble_eq_true rfl, Nat.le_of_ble_eq_true rfl⟩ (Nat.le_of_ble_eq_true rfl) dL_writeDisk_4 (fun k ce q9 H locs hp hW hq hv hcl => ?_) (fun r1 u H locs hw hW => ?_)
  · obtain ⟨hp0, hpk⟩ := hp
    subst hpk
    have hw := hp0 rfl
    refine vs_catch (hh := hhL_writeDisk) hC hX htab [] ⟨0, 9, 12, 21⟩ [] rfl (fun _ h => absurd h List.not_mem_nil) rfl (by decide) vt_21 (by decide +kernel) hq hv hcl ?_
    refine vs_astore_n (L' := [(0, .ref h0), (1, .int (vs_I x)), (2, .ref o), (3, .ref q9)]) hC hl [1, 2, 3, 0] dL_writeDisk_12 rfl (by decide) rfl (fun ls hl => ?_)
    refine vs_iconst hC dL_writeDisk_13 ?_
    exact vx_ret (vs_iret ((q, ml, B), O) hC hr hlk hW rfl ⟨kB, hw⟩ (Nat.le_of_ble_eq_true rfl) (Nat.le_of_ble_eq_true rfl) dL_writeDisk_14)
  obtain ⟨⟨kB2, hnB2⟩, hx, hw⟩ := hw
  refine vs_i2l hC hx dL_writeDisk_7 ?_
  obtain ⟨O2, hO2⟩ : ∃ z : vs_St, z = vs_st O 0 0 r1 := ⟨_, rfl⟩
  have hw := hw O2 hO2
  refine vs_last (Wo' := vs_tT g n0 u.1 u.2.1 u.2.2 ++ (vs_W2 h0 (aS 0) (aT 0) (aK 0) n0 V ++ (vs_W1 g aS S ++ (vs_W1 g aT T ++ (vs_W0 g aK K ++ (vs_WO g o O2 ++ wr)))))) hC hW 39 rfl (by rw [hO2]; rfl) dL_writeDisk_8 (fun H locs hW => ?_)
  refine vs_goto hC 15 dL_writeDisk_9 (by decide) ?_
  refine vs_iconst hC dL_writeDisk_15 ?_
  exact vx_ret (vs_iret (u, O2) hC hr hlk hW rfl ⟨kB2, hw⟩ (Nat.le_of_ble_eq_true rfl) (Nat.le_of_ble_eq_true rfl) dL_writeDisk_16)
set_option maxHeartbeats 4000000 in
set_option maxRecDepth 100000 in
theorem c_L_lineAt (l : Launch) (hst : l.stackTraces = false) (g : vs_G) (sd : Nat → Nat) (h0 n0 o q : Nat) (ml : Int) (aS aT aK : Nat → Nat) (wr : va_W) (V S T K : vs_St) (B : vs_TT) (O : vs_St) (x : Int) (post : Int → vs_St → Prop) (kB : vs_tk B) (hw : wL_lineAt B O x post) : vs_HI l yL_lineAt (Cond.codeWith yL_lineAt cL_lineAt 4 (some .int) hhL_lineAt :: vs_ws) { frames := 7, cells := 1, slots := 6, locals := 151 } g sd [.ref h0, .int (vs_I x), .ref o] (vs_tT g n0 q ml B ++ (vs_W2 h0 (aS 0) (aT 0) (aK 0) n0 V ++ (vs_W1 g aS S ++ (vs_W1 g aT T ++ (vs_W0 g aK K ++ (vs_WO g o O ++ wr)))))) (fun (u : vs_St) => vs_tT g n0 q ml B ++ (vs_W2 h0 (aS 0) (aT 0) (aK 0) n0 V ++ (vs_W1 g aS S ++ (vs_W1 g aT T ++ (vs_W0 g aK K ++ (vs_WO g o u ++ wr)))))) (post) 1 6 := by
  refine vs_ofH (Qc := fun A => vs_QI g A (fun (u : vs_St) => vs_tT g n0 q ml B ++ (vs_W2 h0 (aS 0) (aT 0) (aK 0) n0 V ++ (vs_W1 g aS S ++ (vs_W1 g aT T ++ (vs_W0 g aK K ++ (vs_WO g o u ++ wr)))))) (post)) (XC := fun A => vs_QX g A (vs_tT g n0 q ml B ++ (vs_W2 h0 (aS 0) (aT 0) (aK 0) n0 V ++ (vs_W1 g aS S ++ (vs_W1 g aT T ++ (vs_W0 g aK K ++ (vs_WO g o O ++ wr)))))) (fun _ => False)) (by decide +kernel) (Nat.le_of_ble_eq_true rfl) (fun p e s m below meth c A ls hC hr hlk htab hW hX hl => ?_)
  have hC : CallFix p m c cL_lineAt 4 s _ vs_ws RL := hC
  have hl : lv_has ls 4 [(0, .ref h0), (1, .int (vs_I x)), (2, .ref o)] := hl
  unfold wL_lineAt at hw
  refine vs_aload_n hC hl 2 dL_lineAt_0 rfl rfl ?_
  refine vs_iconst hC dL_lineAt_1 ?_
  refine vs_aload_n hC hl 0 dL_lineAt_2 rfl rfl ?_
  refine vs_iload_n hC hl 1 dL_lineAt_3 rfl rfl ?_
  refine vs_xcallVI [.int (vs_I x)] hC hW hX 2 rfl rfl vk_X2_lineAt vm_L_120 (c_X2_lineAt l hst g sd h0 n0 q aS aT aK ml B (vs_WO g o O ++ wr) V S T K x _ _ kB hw) rfl hl.1 rfl ⟨rfl, rfl⟩ ⟨Nat.le_of_ble_eq_true rfl, Nat.le_of_ble_eq_true rfl⟩ ⟨Nat.le_of_ble_eq_true rfl, Nat.le_of_ble_eq_true rfl⟩ (Nat.le_of_ble_eq_true rfl) dL_lineAt_4 (fun k ce q9 H locs hp hW hq hv hcl => ?_) (fun r1 _ H locs hw hW => ?_)
  · obtain ⟨hp0, hpk⟩ := hp
    subst hpk
    have hw := hp0 rfl
    refine vs_catch (hh := hhL_lineAt) hC hX htab [] ⟨0, 9, 12, 21⟩ [] rfl (fun _ h => absurd h List.not_mem_nil) rfl (by decide) vt_21 (by decide +kernel) hq hv hcl ?_
    refine vs_astore_n (L' := [(0, .ref h0), (1, .int (vs_I x)), (2, .ref o), (3, .ref q9)]) hC hl [1, 2, 3, 0] dL_lineAt_12 rfl (by decide) rfl (fun ls hl => ?_)
    refine vs_iconst hC dL_lineAt_13 ?_
    exact vx_ret (vs_iret O hC hr hlk hW rfl hw (Nat.le_of_ble_eq_true rfl) (Nat.le_of_ble_eq_true rfl) dL_lineAt_14)
  obtain ⟨hx, hw⟩ := hw
  refine vs_i2l hC hx dL_lineAt_7 ?_
  obtain ⟨O2, hO2⟩ : ∃ z : vs_St, z = vs_st O 0 0 r1 := ⟨_, rfl⟩
  have hw := hw O2 hO2
  refine vs_last (Wo' := vs_tT g n0 q ml B ++ (vs_W2 h0 (aS 0) (aT 0) (aK 0) n0 V ++ (vs_W1 g aS S ++ (vs_W1 g aT T ++ (vs_W0 g aK K ++ (vs_WO g o O2 ++ wr)))))) hC hW 39 rfl (by rw [hO2]; rfl) dL_lineAt_8 (fun H locs hW => ?_)
  refine vs_goto hC 15 dL_lineAt_9 (by decide) ?_
  refine vs_iconst hC dL_lineAt_15 ?_
  exact vx_ret (vs_iret O2 hC hr hlk hW rfl hw (Nat.le_of_ble_eq_true rfl) (Nat.le_of_ble_eq_true rfl) dL_lineAt_16)
