/-! the law's helpers for texts, and its cases 38 and 39 -/
theorem vs_mv1 {X A1 r : va_W} : List.Perm (X ++ (A1 ++ (r))) (A1 ++ (X ++ r)) := List.perm_append_comm_assoc X A1 r
theorem vs_mv2 {X A1 A2 r : va_W} : List.Perm (X ++ (A1 ++ (A2 ++ (r)))) (A1 ++ (A2 ++ (X ++ r))) := (List.perm_append_comm_assoc X A1 (A2 ++ (r))).trans (List.Perm.append_left A1 vs_mv1)
theorem vs_mv3 {X A1 A2 A3 r : va_W} : List.Perm (X ++ (A1 ++ (A2 ++ (A3 ++ (r))))) (A1 ++ (A2 ++ (A3 ++ (X ++ r)))) := (List.perm_append_comm_assoc X A1 (A2 ++ (A3 ++ (r)))).trans (List.Perm.append_left A1 vs_mv2)
theorem vs_mv4 {X A1 A2 A3 A4 r : va_W} : List.Perm (X ++ (A1 ++ (A2 ++ (A3 ++ (A4 ++ (r)))))) (A1 ++ (A2 ++ (A3 ++ (A4 ++ (X ++ r))))) := (List.perm_append_comm_assoc X A1 (A2 ++ (A3 ++ (A4 ++ (r))))).trans (List.Perm.append_left A1 vs_mv3)
theorem vs_mv5 {X A1 A2 A3 A4 A5 r : va_W} : List.Perm (X ++ (A1 ++ (A2 ++ (A3 ++ (A4 ++ (A5 ++ (r))))))) (A1 ++ (A2 ++ (A3 ++ (A4 ++ (A5 ++ (X ++ r)))))) := (List.perm_append_comm_assoc X A1 (A2 ++ (A3 ++ (A4 ++ (A5 ++ (r)))))).trans (List.Perm.append_left A1 vs_mv4)
theorem vs_mv6 {X A1 A2 A3 A4 A5 A6 r : va_W} : List.Perm (X ++ (A1 ++ (A2 ++ (A3 ++ (A4 ++ (A5 ++ (A6 ++ (r)))))))) (A1 ++ (A2 ++ (A3 ++ (A4 ++ (A5 ++ (A6 ++ (X ++ r))))))) := (List.perm_append_comm_assoc X A1 (A2 ++ (A3 ++ (A4 ++ (A5 ++ (A6 ++ (r))))))).trans (List.Perm.append_left A1 vs_mv5)
theorem vs_mv7 {X A1 A2 A3 A4 A5 A6 A7 r : va_W} : List.Perm (X ++ (A1 ++ (A2 ++ (A3 ++ (A4 ++ (A5 ++ (A6 ++ (A7 ++ (r))))))))) (A1 ++ (A2 ++ (A3 ++ (A4 ++ (A5 ++ (A6 ++ (A7 ++ (X ++ r)))))))) := (List.perm_append_comm_assoc X A1 (A2 ++ (A3 ++ (A4 ++ (A5 ++ (A6 ++ (A7 ++ (r)))))))).trans (List.Perm.append_left A1 vs_mv6)
theorem vs_mv8 {X A1 A2 A3 A4 A5 A6 A7 A8 r : va_W} : List.Perm (X ++ (A1 ++ (A2 ++ (A3 ++ (A4 ++ (A5 ++ (A6 ++ (A7 ++ (A8 ++ (r)))))))))) (A1 ++ (A2 ++ (A3 ++ (A4 ++ (A5 ++ (A6 ++ (A7 ++ (A8 ++ (X ++ r))))))))) := (List.perm_append_comm_assoc X A1 (A2 ++ (A3 ++ (A4 ++ (A5 ++ (A6 ++ (A7 ++ (A8 ++ (r))))))))).trans (List.Perm.append_left A1 vs_mv7)
def wL_writeDisk (V S T K : vs_St) (B : vs_TT) (O : vs_St) (x : Int) (post : Int → vs_TT → vs_St → Prop) : Prop :=
  wX2_writeDisk V S T K B x (fun r1 B2 => vs_R r1 ∧ ∀ O2 : vs_St, O2 = vs_st O 0 0 r1 → post 0 B2 O2) (fun k => (k = 3 → post 1 B O) ∧ k = 3)
def wL_lineAt (B : vs_TT) (O : vs_St) (x : Int) (post : Int → vs_St → Prop) : Prop :=
  wX2_lineAt B x (fun r1 => vs_R r1 ∧ ∀ O2 : vs_St, O2 = vs_st O 0 0 r1 → post 0 O2) (fun k => (k = 3 → post 1 O) ∧ k = 3)
set_option maxHeartbeats 4000000 in
set_option maxRecDepth 100000 in
theorem c_L_writeDisk (l : Launch) (hst : l.stackTraces = false) (g : vs_G) (sd : Nat → Nat) (h0 n0 o q : Nat) (ml : Int) (aS aT aK : Nat → Nat) (wr : va_W) (V S T K : vs_St) (B : vs_TT) (O : vs_St) (x : Int) (post : Int → vs_TT → vs_St → Prop) (kB : vs_tk B) (hw : wL_writeDisk V S T K B O x post) : vs_HI l yL_writeDisk (Cond.codeWith yL_writeDisk cL_writeDisk 4 (some .int) hhL_writeDisk :: vs_ws) { frames := 8, cells := 420, slots := 860, locals := 219 } g sd [.ref h0, .int (vs_I x), .ref o] (vs_tT g n0 q ml B ++ (vs_W2 h0 (aS 0) (aT 0) (aK 0) n0 V ++ (vs_W1 g aS S ++ (vs_W1 g aT T ++ (vs_W0 g aK K ++ (vs_WO g o O ++ wr)))))) (fun (u : (Nat × Int × vs_TT) × vs_St) => vs_tT g n0 u.1.1 u.1.2.1 u.1.2.2 ++ (vs_W2 h0 (aS 0) (aT 0) (aK 0) n0 V ++ (vs_W1 g aS S ++ (vs_W1 g aT T ++ (vs_W0 g aK K ++ (vs_WO g o u.2 ++ wr)))))) (fun v (u : (Nat × Int × vs_TT) × vs_St) => vs_tk u.1.2.2 ∧ post v u.1.2.2 u.2) 420 860 := by
  refine vs_ofH (Qc := fun A => vs_QI g A (fun (u : (Nat × Int × vs_TT) × vs_St) => vs_tT g n0 u.1.1 u.1.2.1 u.1.2.2 ++ (vs_W2 h0 (aS 0) (aT 0) (aK 0) n0 V ++ (vs_W1 g aS S ++ (vs_W1 g aT T ++ (vs_W0 g aK K ++ (vs_WO g o u.2 ++ wr)))))) (fun v (u : (Nat × Int × vs_TT) × vs_St) => vs_tk u.1.2.2 ∧ post v u.1.2.2 u.2)) (XC := fun A => vs_QX g A (vs_tT g n0 q ml B ++ (vs_W2 h0 (aS 0) (aT 0) (aK 0) n0 V ++ (vs_W1 g aS S ++ (vs_W1 g aT T ++ (vs_W0 g aK K ++ (vs_WO g o O ++ wr)))))) (fun _ => False)) (by decide +kernel) (Nat.le_of_ble_eq_true rfl) (fun p e s m below meth c A ls hC hr hlk htab hW hX hl => ?_)
  have hC : CallFix p m c cL_writeDisk 4 s _ vs_ws RL := hC
  have hl : lv_has ls 4 [(0, .ref h0), (1, .int (vs_I x)), (2, .ref o)] := hl
  unfold wL_writeDisk at hw
  refine vs_aload_n hC hl 2 dL_writeDisk_0 rfl rfl ?_
  refine vs_iconst hC dL_writeDisk_1 ?_
  refine vs_aload_n hC hl 0 dL_writeDisk_2 rfl rfl ?_
  refine vs_iload_n hC hl 1 dL_writeDisk_3 rfl rfl ?_
  refine vs_xcallVI [.int (vs_I x)] hC hW hX 2 rfl rfl vk_X2_writeDisk vm_L_117 (c_X2_writeDisk l hst g sd h0 n0 q aS aT aK ml B (vs_WO g o O ++ wr) V S T K x _ _ kB hw) rfl hl.1 rfl ⟨rfl, rfl⟩ ⟨Nat.le_of_ble_eq_true rfl, Nat.le_of_ble_eq_true rfl⟩ ⟨Nat.le_of_ble_eq_true rfl, Nat.le_of_ble_eq_true rfl⟩ (Nat.le_of_ble_eq_true rfl) dL_writeDisk_4 (fun k ce q9 H locs hp hW hq hv hcl => ?_) (fun r1 u H locs hw hW => ?_)
  · obtain ⟨hp0, hpk⟩ := hp
    subst hpk
    have hw := hp0 rfl
    refine vs_catch (hh := hhL_writeDisk) hC hX htab [] ⟨0, 9, 12, 21⟩ [] rfl (fun _ h => absurd h List.not_mem_nil) rfl (by decide) vt_21 (by decide +kernel) hq hv hcl ?_
    refine vs_astore_n (L' := [(0, .ref h0), (1, .int (vs_I x)), (2, .ref o), (3, .ref q9)]) hC hl [1, 2, 3, 0] dL_writeDisk_12 rfl (by decide) rfl (fun ls hl => ?_)
    refine vs_iconst hC dL_writeDisk_13 ?_
    exact vx_ret (vs_iret ((q, ml, B), O) hC hr hlk hW rfl ⟨kB, hw⟩ (Nat.le_of_ble_eq_true rfl) (Nat.le_of_ble_eq_true rfl) dL_writeDisk_14)
  obtain ⟨⟨kB2, hnB2⟩, hx, hw⟩ := hw
  refine vs_i2l hC hx dL_writeDisk_7 ?_
  obtain ⟨O2, hO2⟩ : ∃ z : vs_St, z = vs_st O 0 0 r1 := ⟨_, rfl⟩
  have hw := hw O2 hO2
  refine vs_last (Wo' := vs_tT g n0 u.1 u.2.1 u.2.2 ++ (vs_W2 h0 (aS 0) (aT 0) (aK 0) n0 V ++ (vs_W1 g aS S ++ (vs_W1 g aT T ++ (vs_W0 g aK K ++ (vs_WO g o O2 ++ wr)))))) hC hW 39 rfl (by rw [hO2]; rfl) dL_writeDisk_8 (fun H locs hW => ?_)
  refine vs_goto hC 15 dL_writeDisk_9 (by decide) ?_
  refine vs_iconst hC dL_writeDisk_15 ?_
  exact vx_ret (vs_iret (u, O2) hC hr hlk hW rfl ⟨kB2, hw⟩ (Nat.le_of_ble_eq_true rfl) (Nat.le_of_ble_eq_true rfl) dL_writeDisk_16)
set_option maxHeartbeats 4000000 in
set_option maxRecDepth 100000 in
theorem c_L_lineAt (l : Launch) (hst : l.stackTraces = false) (g : vs_G) (sd : Nat → Nat) (h0 n0 o q : Nat) (ml : Int) (aS aT aK : Nat → Nat) (wr : va_W) (V S T K : vs_St) (B : vs_TT) (O : vs_St) (x : Int) (post : Int → vs_St → Prop) (kB : vs_tk B) (hw : wL_lineAt B O x post) : vs_HI l yL_lineAt (Cond.codeWith yL_lineAt cL_lineAt 4 (some .int) hhL_lineAt :: vs_ws) { frames := 7, cells := 1, slots := 6, locals := 151 } g sd [.ref h0, .int (vs_I x), .ref o] (vs_tT g n0 q ml B ++ (vs_W2 h0 (aS 0) (aT 0) (aK 0) n0 V ++ (vs_W1 g aS S ++ (vs_W1 g aT T ++ (vs_W0 g aK K ++ (vs_WO g o O ++ wr)))))) (fun (u : vs_St) => vs_tT g n0 q ml B ++ (vs_W2 h0 (aS 0) (aT 0) (aK 0) n0 V ++ (vs_W1 g aS S ++ (vs_W1 g aT T ++ (vs_W0 g aK K ++ (vs_WO g o u ++ wr)))))) (post) 1 6 := by
  refine vs_ofH (Qc := fun A => vs_QI g A (fun (u : vs_St) => vs_tT g n0 q ml B ++ (vs_W2 h0 (aS 0) (aT 0) (aK 0) n0 V ++ (vs_W1 g aS S ++ (vs_W1 g aT T ++ (vs_W0 g aK K ++ (vs_WO g o u ++ wr)))))) (post)) (XC := fun A => vs_QX g A (vs_tT g n0 q ml B ++ (vs_W2 h0 (aS 0) (aT 0) (aK 0) n0 V ++ (vs_W1 g aS S ++ (vs_W1 g aT T ++ (vs_W0 g aK K ++ (vs_WO g o O ++ wr)))))) (fun _ => False)) (by decide +kernel) (Nat.le_of_ble_eq_true rfl) (fun p e s m below meth c A ls hC hr hlk htab hW hX hl => ?_)
  have hC : CallFix p m c cL_lineAt 4 s _ vs_ws RL := hC
  have hl : lv_has ls 4 [(0, .ref h0), (1, .int (vs_I x)), (2, .ref o)] := hl
  unfold wL_lineAt at hw
  refine vs_aload_n hC hl 2 dL_lineAt_0 rfl rfl ?_
  refine vs_iconst hC dL_lineAt_1 ?_
  refine vs_aload_n hC hl 0 dL_lineAt_2 rfl rfl ?_
  refine vs_iload_n hC hl 1 dL_lineAt_3 rfl rfl ?_
  refine vs_xcallVI [.int (vs_I x)] hC hW hX 2 rfl rfl vk_X2_lineAt vm_L_120 (c_X2_lineAt l hst g sd h0 n0 q aS aT aK ml B (vs_WO g o O ++ wr) V S T K x _ _ kB hw) rfl hl.1 rfl ⟨rfl, rfl⟩ ⟨Nat.le_of_ble_eq_true rfl, Nat.le_of_ble_eq_true rfl⟩ ⟨Nat.le_of_ble_eq_true rfl, Nat.le_of_ble_eq_true rfl⟩ (Nat.le_of_ble_eq_true rfl) dL_lineAt_4 (fun k ce q9 H locs hp hW hq hv hcl => ?_) (fun r1 _ H locs hw hW => ?_)
  · obtain ⟨hp0, hpk⟩ := hp
    subst hpk
    have hw := hp0 rfl
    refine vs_catch (hh := hhL_lineAt) hC hX htab [] ⟨0, 9, 12, 21⟩ [] rfl (fun _ h => absurd h List.not_mem_nil) rfl (by decide) vt_21 (by decide +kernel) hq hv hcl ?_
    refine vs_astore_n (L' := [(0, .ref h0), (1, .int (vs_I x)), (2, .ref o), (3, .ref q9)]) hC hl [1, 2, 3, 0] dL_lineAt_12 rfl (by decide) rfl (fun ls hl => ?_)
    refine vs_iconst hC dL_lineAt_13 ?_
    exact vx_ret (vs_iret O hC hr hlk hW rfl hw (Nat.le_of_ble_eq_true rfl) (Nat.le_of_ble_eq_true rfl) dL_lineAt_14)
  obtain ⟨hx, hw⟩ := hw
  refine vs_i2l hC hx dL_lineAt_7 ?_
  obtain ⟨O2, hO2⟩ : ∃ z : vs_St, z = vs_st O 0 0 r1 := ⟨_, rfl⟩
  have hw := hw O2 hO2
  refine vs_last (Wo' := vs_tT g n0 q ml B ++ (vs_W2 h0 (aS 0) (aT 0) (aK 0) n0 V ++ (vs_W1 g aS S ++ (vs_W1 g aT T ++ (vs_W0 g aK K ++ (vs_WO g o O2 ++ wr)))))) hC hW 39 rfl (by rw [hO2]; rfl) dL_lineAt_8 (fun H locs hW => ?_)
  refine vs_goto hC 15 dL_lineAt_9 (by decide) ?_
  refine vs_iconst hC dL_lineAt_15 ?_
  exact vx_ret (vs_iret O2 hC hr hlk hW rfl hw (Nat.le_of_ble_eq_true rfl) (Nat.le_of_ble_eq_true rfl) dL_lineAt_16)
abbrev vs_LN : Type := Option (Nat × Nat × (Int → Int) × (Value × Value))
def vs_ln (g : vs_G) (a : Nat) : vs_LN → va_W
  | none => []
  | some y => vs_tS g a y.1 y.2.1 y.2.2.1 y.2.2.2
def vs_lnN : vs_LN → Int
  | none => 0
  | some y => (y.2.1 : Int)
def vs_lnF : vs_LN → Int → Int
  | none => fun _ => 0
  | some y => y.2.2.1
/-- where the reference's line lies -/
def vs_lnok (sd : Nat → Nat) (a : Nat) : vs_LN → Prop
  | none => a = vs_jd sd 2
  | some y => y.2.1 ≤ 193
/-- the line after a writeDisk -/
def vs_lnR (aM aM' : Nat → Nat) (tx : Option vs_TT) (LN LN' : vs_LN) : Prop := match tx with
  | none => aM' = aM ∧ LN' = LN
  | some T => vs_lnN LN' = T.1 ∧ (∀ j : Int, 0 ≤ j → j < T.1 → vs_lnF LN' j = T.2.2 j)
def wcase_38 (V S T K O M : vs_St) (B : vs_TT) (p1 : Int) (post : vs_TT → vs_St → vs_St → Option vs_TT → Prop) : Prop :=
  wL_writeDisk V S T K B O p1 (fun r1 B2 O2 => wX3_writeDisk M p1 (fun r3 M4 tx => wX3_thrown M4 (fun r5 => (vs_R r5) ∧ (vs_R r1) ∧ (r5 = r1 → (¬ r1 = 0 → post B2 O2 M4 tx) ∧ (r1 = 0 → (vs_R r3) ∧ (vs_R (O2 0 0)) ∧ (vs_R (vs_cmp (O2 0 0) r3)) ∧ ((vs_cmp (O2 0 0) r3) = 0 → post B2 O2 M4 tx) ∧ (¬ (vs_cmp (O2 0 0) r3) = 0 → False))) ∧ (¬ r5 = r1 → False))))
def wcase_39 (O M : vs_St) (B : vs_TT) (N : Int) (f : Int → Int) (p1 : Int) (post : vs_St → vs_St → Prop) : Prop :=
  wL_lineAt B O p1 (fun r1 O2 => wX3_lineAt M N f p1 (fun r3 M4 => wX3_thrown M4 (fun r5 => (vs_R r5) ∧ (vs_R r1) ∧ (r5 = r1 → (¬ r1 = 0 → post O2 M4) ∧ (r1 = 0 → (vs_R r3) ∧ (vs_R (O2 0 0)) ∧ (vs_R (vs_cmp (O2 0 0) r3)) ∧ ((vs_cmp (O2 0 0) r3) = 0 → post O2 M4) ∧ (¬ (vs_cmp (O2 0 0) r3) = 0 → False))) ∧ (¬ r5 = r1 → False))))
set_option maxHeartbeats 4000000 in
set_option maxRecDepth 100000 in
theorem case_38 {p : Program} {l : Launch} {e : Env} {s : State} {m : MethodId} {args : Array Value} {below : List Frame} {meth : Method} {c : Code} {H : Heap} {locs : List Loc} {cells slots : Nat} {Q : State → Prop} {ls : Array Slot} {g : vs_G} {sd : Nat → Nat} {A : Nat → Prop} {h0 n0 o od b L q : Nat} {ml : Int} {aS aT aK aM rM qM : Nat → Nat} {wr : va_W} {V S T K O M : vs_St} {B : vs_TT} {LN : vs_LN} {i p1 : Int} {xs : Nat → Int32} {post : vs_TT → vs_St → vs_St → Option vs_TT → Prop} (hst : l.stackTraces = false) (hC : CallFix p m c cL_law 9 s args vs_ws RL) (hX : vs_Xs g sd A s s.heap) (hScr : vs_Scr b L xs A s) (hi : 0 ≤ i ∧ i + 4 ≤ L ∧ L ≤ 2048) (hp1 : xs (i + 1).toNat = vs_I p1) (hcap : cells + 860 ≤ 603072 ∧ slots + 2000 ≤ 7207018) (kB : vs_tk B) (hLN : vs_lnok sd (aM 32) LN) (hW : vs_Wd g A s.heap (vs_W2 h0 (aS 0) (aT 0) (aK 0) n0 V ++ (vs_W1 g aS S ++ (vs_W1 g aT T ++ (vs_W0 g aK K ++ (vs_WO g o O ++ (vs_W3 g aM rM qM M ++ (vs_tT g n0 q ml B ++ (vs_ln g (aM 32) LN ++ (wr))))))))) H locs s) (hl : lv_has ls 9 [(0, .ref b), (1, .ref h0), (2, .ref (aM 0)), (3, .ref o), (4, .ref od), (5, .int (vs_I i))])
    (hw : wcase_38 V S T K O M B p1 post) (kk : ∀ (B' : vs_TT) (O' M' : vs_St) (tx : Option vs_TT) (q' : Nat) (ml' : Int) (aM' : Nat → Nat) (LN' : vs_LN) (H : Heap) (locs : List Loc) (ls : Array Slot) (c2 s2 : Nat), c2 ≤ cells + 860 → s2 ≤ slots + 2000 → post B' O' M' tx → vs_tk B' → aM' 0 = aM 0 → vs_lnok sd (aM' 32) LN' → vs_lnR aM aM' tx LN LN' → vs_Wd g A s.heap (vs_W2 h0 (aS 0) (aT 0) (aK 0) n0 V ++ (vs_W1 g aS S ++ (vs_W1 g aT T ++ (vs_W0 g aK K ++ (vs_WO g o O' ++ (vs_W3 g aM' rM qM M' ++ (vs_tT g n0 q' ml' B' ++ (vs_ln g (aM' 32) LN' ++ (wr))))))))) H locs s → lv_has ls 9 [(0, .ref b), (1, .ref h0), (2, .ref (aM 0)), (3, .ref o), (4, .ref od), (5, .int (vs_I i))] → W p l e room_1 s m args below meth c H locs c2 s2 Q (F0 m 2295 ls [])) :
    W p l e room_1 s m args below meth c H locs cells slots Q (F0 m 2183 ls []) := by
  unfold wcase_38 at hw
  have hJ := hX.2.2.2.2.2.2
  have hW := vs_Wd.perm2 hW (vs_mv6 (X := vs_tT g n0 q ml B)).symm
  refine vs_aload_n hC hl 1 dL_law_2183 rfl rfl ?_
  refine vs_aload_n hC hl 0 dL_law_2184 rfl rfl ?_
  refine vs_iload hC hl 5 dL_law_2185 rfl ?_
  refine vs_iconst hC dL_law_2187 ?_
  refine vs_iadd hC dL_law_2188 ?_
  refine vs_sld hC hW hScr (by omega) hp1 dL_law_2189 ?_
  refine vs_aload_n hC hl 3 dL_law_2190 rfl rfl ?_
  refine vs_callHI [.ref h0, .int (vs_I p1), .ref o] hC hW hX vk_L_writeDisk vm_L_260 (c_L_writeDisk l hst g sd h0 n0 o q ml aS aT aK (vs_W3 g aM rM qM M ++ (vs_ln g (aM 32) LN ++ wr)) V S T K B O p1 _ kB hw) rfl hl.1 rfl ⟨rfl, rfl⟩ ⟨Nat.le_of_ble_eq_true rfl, Nat.le_of_ble_eq_true rfl⟩ ⟨show _ ≤ 603072 by first | omega | (dsimp only; omega), show _ ≤ 7207018 by first | omega | (dsimp only; omega)⟩ (Nat.le_of_ble_eq_true rfl) dL_law_2191 (fun r1 u H locs hw hW => ?_)
  obtain ⟨⟨q1, ml1, B2⟩, O2⟩ := u
  obtain ⟨kB2, hw⟩ := hw
  have hW : vs_Wd g A s.heap (vs_tT g n0 q1 ml1 B2 ++ (vs_W2 h0 (aS 0) (aT 0) (aK 0) n0 V ++ (vs_W1 g aS S ++ (vs_W1 g aT T ++ (vs_W0 g aK K ++ (vs_WO g o O2 ++ (vs_W3 g aM rM qM M ++ (vs_ln g (aM 32) LN ++ (wr))))))))) H locs s := hW
  have hW := vs_Wd.perm2 hW (vs_mv6 (X := vs_W3 g aM rM qM M)).symm
  refine vs_istore (L' := [(0, .ref b), (1, .ref h0), (2, .ref (aM 0)), (3, .ref o), (4, .ref od), (5, .int (vs_I i)), (6, .int (vs_I r1))]) hC hl [1, 2, 3, 4, 5, 6, 0] dL_law_2194 (by decide) rfl (fun ls hl => ?_)
  refine vs_aload_n hC hl 2 dL_law_2196 rfl rfl ?_
  refine vs_aload_n hC hl 0 dL_law_2197 rfl rfl ?_
  refine vs_iload hC hl 5 dL_law_2198 rfl ?_
  refine vs_iconst hC dL_law_2200 ?_
  refine vs_iadd hC dL_law_2201 ?_
  refine vs_sld hC hW hScr (by omega) hp1 dL_law_2202 ?_
  refine vs_jcallVI [.int (vs_I p1)] hC hW hJ 0 rfl rfl vk_X3_writeDisk vm_L_262 (c_X3_writeDisk l g (vs_jd sd) aM rM qM (vs_tT g n0 q1 ml1 B2 ++ (vs_W2 h0 (aS 0) (aT 0) (aK 0) n0 V ++ (vs_W1 g aS S ++ (vs_W1 g aT T ++ (vs_W0 g aK K ++ (vs_WO g o O2 ++ (vs_ln g (aM 32) LN ++ (wr)))))))) M p1 _ hw) rfl hl.1 rfl ⟨rfl, rfl⟩ ⟨Nat.le_of_ble_eq_true rfl, Nat.le_of_ble_eq_true rfl⟩ ⟨show _ ≤ 603072 by first | omega | (dsimp only; omega), show _ ≤ 7207018 by first | omega | (dsimp only; omega)⟩ (Nat.le_of_ble_eq_true rfl) dL_law_2203 (fun r3 u H locs hw hW => ?_)
  obtain ⟨M4, tx, aM', LN', ha0, hln, hlr, hw, hW⟩ : ∃ (M4 : vs_St) (tx : Option vs_TT) (aM' : Nat → Nat) (LN' : vs_LN), aM' 0 = aM 0 ∧ vs_lnok sd (aM' 32) LN' ∧ vs_lnR aM aM' tx LN LN' ∧ wX3_thrown M4 (fun r5 => (vs_R r5) ∧ (vs_R r1) ∧ (r5 = r1 → (¬ r1 = 0 → post B2 O2 M4 tx) ∧ (r1 = 0 → (vs_R r3) ∧ (vs_R (O2 0 0)) ∧ (vs_R (vs_cmp (O2 0 0) r3)) ∧ ((vs_cmp (O2 0 0) r3) = 0 → post B2 O2 M4 tx) ∧ (¬ (vs_cmp (O2 0 0) r3) = 0 → False))) ∧ (¬ r5 = r1 → False)) ∧ vs_Wd g A s.heap (vs_W3 g aM' rM qM M4 ++ (vs_tT g n0 q1 ml1 B2 ++ (vs_W2 h0 (aS 0) (aT 0) (aK 0) n0 V ++ (vs_W1 g aS S ++ (vs_W1 g aT T ++ (vs_W0 g aK K ++ (vs_WO g o O2 ++ (vs_ln g (aM' 32) LN' ++ (wr))))))))) H locs s := by
    obtain ⟨M4, tx⟩ := u
    cases tx with
    | none => exact ⟨M4, none, aM, LN, rfl, hLN, ⟨rfl, rfl⟩, hw, hW⟩
    | some y =>
      obtain ⟨st, sq, N, f9, TF⟩ := y
      obtain ⟨⟨h1, h2, h3⟩, hw⟩ := hw
      have h1 : (N : Int) = TF.1 := h1
      have hW : vs_Wd g A s.heap (vs_W3 g (vs_a32 aM st) rM qM M4 ++ (vs_tS g st sq N f9 (.int (vs_I 0), .int (vs_I 0)) ++ (vs_tT g n0 q1 ml1 B2 ++ (vs_W2 h0 (aS 0) (aT 0) (aK 0) n0 V ++ (vs_W1 g aS S ++ (vs_W1 g aT T ++ (vs_W0 g aK K ++ (vs_WO g o O2 ++ (vs_ln g (aM 32) LN ++ (wr)))))))))) H locs s := hW
      have hW := vs_Wd.perm2 hW (List.Perm.append_left (vs_W3 g (vs_a32 aM st) rM qM M4) (vs_mv6 (X := vs_tS g st sq N f9 (.int (vs_I 0), .int (vs_I 0)))))
      have hW := vs_Wd.sub (vs_Wd.perm2 hW (vs_mv8 (X := vs_ln g (aM 32) LN)).symm)
      exact ⟨M4, some TF, vs_a32 aM st, some (sq, N, f9, (.int (vs_I 0), .int (vs_I 0))), rfl, h2, ⟨h1, fun j k0 k1 => h3 j k0 (by show j < (N : Int); omega)⟩, hw, hW⟩
  rw [← ha0] at hl
  refine vs_istore (L' := [(0, .ref b), (1, .ref h0), (2, .ref (aM' 0)), (3, .ref o), (4, .ref od), (5, .int (vs_I i)), (6, .int (vs_I r1)), (7, .int (vs_I r3))]) hC hl [1, 2, 3, 4, 5, 6, 7, 0] dL_law_2206 (by decide) rfl (fun ls hl => ?_)
  refine vs_aload_n hC hl 2 dL_law_2208 rfl rfl ?_
  refine vs_callVI [] hC hW 0 rfl rfl vk_X3_thrown vm_L_133 (c_X3_thrown l g aM' rM qM (vs_tT g n0 q1 ml1 B2 ++ (vs_W2 h0 (aS 0) (aT 0) (aK 0) n0 V ++ (vs_W1 g aS S ++ (vs_W1 g aT T ++ (vs_W0 g aK K ++ (vs_WO g o O2 ++ (vs_ln g (aM' 32) LN' ++ (wr)))))))) M4 _ hw) rfl hl.1 rfl ⟨rfl, rfl⟩ ⟨Nat.le_of_ble_eq_true rfl, Nat.le_of_ble_eq_true rfl⟩ ⟨show _ ≤ 603072 by first | omega | (dsimp only; omega), show _ ≤ 7207018 by first | omega | (dsimp only; omega)⟩ (Nat.le_of_ble_eq_true rfl) dL_law_2209 (fun r5 _ H locs hw hW => ?_)
  have hW : vs_Wd g A s.heap (vs_W3 g aM' rM qM M4 ++ (vs_tT g n0 q1 ml1 B2 ++ (vs_W2 h0 (aS 0) (aT 0) (aK 0) n0 V ++ (vs_W1 g aS S ++ (vs_W1 g aT T ++ (vs_W0 g aK K ++ (vs_WO g o O2 ++ (vs_ln g (aM' 32) LN' ++ (wr))))))))) H locs s := hW
  have hWb := vs_Wd.perm2 (vs_Wd.perm2 hW (vs_mv6 (X := vs_W3 g aM' rM qM M4))) (vs_mv6 (X := vs_tT g n0 q1 ml1 B2))
  refine vs_iload hC hl 6 dL_law_2212 rfl ?_
  obtain ⟨hx, hy, hwt, hwf⟩ := hw
  refine vs_icmp_eq hC 2219 hx hy dL_law_2214 (by decide) (fun hc => ?_) (fun hc => (hwf hc).elim)
  obtain ⟨hwt, hwf⟩ := hwt hc
  refine vs_iload hC hl 6 dL_law_2219 rfl ?_
  refine vs_if_ne hC 2236 hy dL_law_2221 (by decide) (fun hc => ?_) (fun hc => ?_)
  · have hw := hwt hc
    refine vs_goto hC 2295 dL_law_2236 (by decide) ?_
    exact kk B2 O2 M4 tx q1 ml1 aM' LN' _ _ _ _ _ (by first | omega | (dsimp only; omega)) (by first | omega | (dsimp only; omega)) hw kB2 ha0 hln hlr hWb (by rw [← ha0]; exact lv_sub hl [0, 1, 2, 3, 4, 5] rfl)
  · obtain ⟨h3, h4, h5, hwt, hwf⟩ := hwf hc
    refine vs_aload_n hC hl 3 dL_law_2224 rfl rfl ?_
    refine vs_iconst hC dL_law_2225 ?_
    have hW := hWb
    refine vs_lald hC hW 37 rfl dL_law_2226 ?_
    refine vs_iload hC hl 7 dL_law_2227 rfl ?_
    refine vs_i2l hC h3 dL_law_2229 ?_
    refine vs_lcmp hC h4 h3 dL_law_2230 ?_
    refine vs_if_eq hC 2236 h5 dL_law_2231 (by decide) (fun hc => ?_) (fun hc => (hwf hc).elim)
    have hw := hwt hc
    refine vs_goto hC 2295 dL_law_2236 (by decide) ?_
    exact kk B2 O2 M4 tx q1 ml1 aM' LN' _ _ _ _ _ (by first | omega | (dsimp only; omega)) (by first | omega | (dsimp only; omega)) hw kB2 ha0 hln hlr hWb (by rw [← ha0]; exact lv_sub hl [0, 1, 2, 3, 4, 5] rfl)
set_option maxHeartbeats 4000000 in
set_option maxRecDepth 100000 in
theorem case_39 {p : Program} {l : Launch} {e : Env} {s : State} {m : MethodId} {args : Array Value} {below : List Frame} {meth : Method} {c : Code} {H : Heap} {locs : List Loc} {cells slots : Nat} {Q : State → Prop} {ls : Array Slot} {g : vs_G} {sd : Nat → Nat} {A : Nat → Prop} {h0 n0 o od b L q : Nat} {ml : Int} {aS aT aK aM rM qM : Nat → Nat} {wr : va_W} {V S T K O M : vs_St} {B : vs_TT} {LN : vs_LN} {i p1 : Int} {xs : Nat → Int32} {post : vs_St → vs_St → Prop} (hst : l.stackTraces = false) (hC : CallFix p m c cL_law 9 s args vs_ws RL) (hX : vs_Xs g sd A s s.heap) (hScr : vs_Scr b L xs A s) (hi : 0 ≤ i ∧ i + 4 ≤ L ∧ L ≤ 2048) (hp1 : xs (i + 1).toNat = vs_I p1) (hcap : cells + 16 ≤ 603072 ∧ slots + 96 ≤ 7207018) (kB : vs_tk B) (hLN : vs_lnok sd (aM 32) LN) (hW : vs_Wd g A s.heap (vs_W2 h0 (aS 0) (aT 0) (aK 0) n0 V ++ (vs_W1 g aS S ++ (vs_W1 g aT T ++ (vs_W0 g aK K ++ (vs_WO g o O ++ (vs_W3 g aM rM qM M ++ (vs_tT g n0 q ml B ++ (vs_ln g (aM 32) LN ++ (wr))))))))) H locs s) (hl : lv_has ls 9 [(0, .ref b), (1, .ref h0), (2, .ref (aM 0)), (3, .ref o), (4, .ref od), (5, .int (vs_I i))])
    (hw : wcase_39 O M B (vs_lnN LN) (vs_lnF LN) p1 post) (kk : ∀ (O' M' : vs_St) (H : Heap) (locs : List Loc) (ls : Array Slot) (c2 s2 : Nat), c2 ≤ cells + 16 → s2 ≤ slots + 96 → post O' M' → vs_Wd g A s.heap (vs_W2 h0 (aS 0) (aT 0) (aK 0) n0 V ++ (vs_W1 g aS S ++ (vs_W1 g aT T ++ (vs_W0 g aK K ++ (vs_WO g o O' ++ (vs_W3 g aM rM qM M' ++ (vs_tT g n0 q ml B ++ (vs_ln g (aM 32) LN ++ (wr))))))))) H locs s → lv_has ls 9 [(0, .ref b), (1, .ref h0), (2, .ref (aM 0)), (3, .ref o), (4, .ref od), (5, .int (vs_I i))] → W p l e room_1 s m args below meth c H locs c2 s2 Q (F0 m 2295 ls [])) :
    W p l e room_1 s m args below meth c H locs cells slots Q (F0 m 2239 ls []) := by
  unfold wcase_39 at hw
  have hJ := hX.2.2.2.2.2.2
  have hW := vs_Wd.perm2 hW (vs_mv6 (X := vs_tT g n0 q ml B)).symm
  refine vs_aload_n hC hl 1 dL_law_2239 rfl rfl ?_
  refine vs_aload_n hC hl 0 dL_law_2240 rfl rfl ?_
  refine vs_iload hC hl 5 dL_law_2241 rfl ?_
  refine vs_iconst hC dL_law_2243 ?_
  refine vs_iadd hC dL_law_2244 ?_
  refine vs_sld hC hW hScr (by omega) hp1 dL_law_2245 ?_
  refine vs_aload_n hC hl 3 dL_law_2246 rfl rfl ?_
  refine vs_callHI [.ref h0, .int (vs_I p1), .ref o] hC hW hX vk_L_lineAt vm_L_263 (c_L_lineAt l hst g sd h0 n0 o q ml aS aT aK (vs_W3 g aM rM qM M ++ (vs_ln g (aM 32) LN ++ wr)) V S T K B O p1 _ kB hw) rfl hl.1 rfl ⟨rfl, rfl⟩ ⟨Nat.le_of_ble_eq_true rfl, Nat.le_of_ble_eq_true rfl⟩ ⟨show _ ≤ 603072 by first | omega | (dsimp only; omega), show _ ≤ 7207018 by first | omega | (dsimp only; omega)⟩ (Nat.le_of_ble_eq_true rfl) dL_law_2247 (fun r1 u H locs hw hW => ?_)
  obtain ⟨O2, rfl⟩ : ∃ z : vs_St, z = u := ⟨u, rfl⟩
  have hW : vs_Wd g A s.heap (vs_tT g n0 q ml B ++ (vs_W2 h0 (aS 0) (aT 0) (aK 0) n0 V ++ (vs_W1 g aS S ++ (vs_W1 g aT T ++ (vs_W0 g aK K ++ (vs_WO g o O2 ++ (vs_W3 g aM rM qM M ++ (vs_ln g (aM 32) LN ++ (wr))))))))) H locs s := hW
  have hW := vs_Wd.perm2 hW (vs_mv6 (X := vs_W3 g aM rM qM M)).symm
  refine vs_istore (L' := [(0, .ref b), (1, .ref h0), (2, .ref (aM 0)), (3, .ref o), (4, .ref od), (5, .int (vs_I i)), (6, .int (vs_I r1))]) hC hl [1, 2, 3, 4, 5, 6, 0] dL_law_2250 (by decide) rfl (fun ls hl => ?_)
  refine vs_aload_n hC hl 2 dL_law_2252 rfl rfl ?_
  refine vs_aload_n hC hl 0 dL_law_2253 rfl rfl ?_
  refine vs_iload hC hl 5 dL_law_2254 rfl ?_
  refine vs_iconst hC dL_law_2256 ?_
  refine vs_iadd hC dL_law_2257 ?_
  refine vs_sld hC hW hScr (by omega) hp1 dL_law_2258 ?_
  have hcall : ∀ (kk9 : ∀ (r3 : Int) (M4 : vs_St) (H1 : Heap) (locs1 : List Loc), wX3_thrown M4 (fun r5 => (vs_R r5) ∧ (vs_R r1) ∧ (r5 = r1 → (¬ r1 = 0 → post O2 M4) ∧ (r1 = 0 → (vs_R r3) ∧ (vs_R (O2 0 0)) ∧ (vs_R (vs_cmp (O2 0 0) r3)) ∧ ((vs_cmp (O2 0 0) r3) = 0 → post O2 M4) ∧ (¬ (vs_cmp (O2 0 0) r3) = 0 → False))) ∧ (¬ r5 = r1 → False)) → vs_Wd g A s.heap (vs_W3 g aM rM qM M4 ++ (vs_tT g n0 q ml B ++ (vs_W2 h0 (aS 0) (aT 0) (aK 0) n0 V ++ (vs_W1 g aS S ++ (vs_W1 g aT T ++ (vs_W0 g aK K ++ (vs_WO g o O2 ++ (vs_ln g (aM 32) LN ++ (wr))))))))) H1 locs1 s → W p l e room_1 s m args below meth c H1 locs1 (cells + 1 + 0) (slots + 6 + 0) Q (F0 m (2259 + 3) ls [.int (vs_I r3)])), W p l e room_1 s m args below meth c H locs (cells + 1) (slots + 6) Q (F0 m 2259 ls [.int (vs_I p1), .ref (aM 0)]) := by
    intro kk9
    cases LN with
    | none => exact vs_jcallVI [.int (vs_I p1)] hC hW hJ 0 rfl rfl vk_X3_lineAt vm_L_265 (c_X3_lineAtE l g (vs_jd sd) aM rM qM (fun _ => 0) (vs_tT g n0 q ml B ++ (vs_W2 h0 (aS 0) (aT 0) (aK 0) n0 V ++ (vs_W1 g aS S ++ (vs_W1 g aT T ++ (vs_W0 g aK K ++ (vs_WO g o O2 ++ (wr))))))) M p1 _ hLN hw) rfl hl.1 rfl ⟨rfl, rfl⟩ ⟨Nat.le_of_ble_eq_true rfl, Nat.le_of_ble_eq_true rfl⟩ ⟨show _ ≤ 603072 by first | omega | (dsimp only; omega), show _ ≤ 7207018 by first | omega | (dsimp only; omega)⟩ (Nat.le_of_ble_eq_true rfl) dL_law_2259 (fun r3 u H locs hw hW => kk9 r3 u H locs hw hW)
    | some y =>
      have hW : vs_Wd g A s.heap (vs_W3 g aM rM qM M ++ (vs_tT g n0 q ml B ++ (vs_W2 h0 (aS 0) (aT 0) (aK 0) n0 V ++ (vs_W1 g aS S ++ (vs_W1 g aT T ++ (vs_W0 g aK K ++ (vs_WO g o O2 ++ (vs_tS g (aM 32) y.1 y.2.1 y.2.2.1 y.2.2.2 ++ (wr))))))))) H locs s := hW
      have hW := vs_Wd.perm2 hW (List.Perm.append_left (vs_W3 g aM rM qM M) (vs_mv6 (X := vs_tS g (aM 32) y.1 y.2.1 y.2.2.1 y.2.2.2)).symm)
      exact vs_jcallVI [.int (vs_I p1)] hC hW hJ 0 rfl rfl vk_X3_lineAt vm_L_265 (c_X3_lineAtS l g (vs_jd sd) aM rM qM y.1 y.2.1 y.2.2.1 y.2.2.2 (vs_tT g n0 q ml B ++ (vs_W2 h0 (aS 0) (aT 0) (aK 0) n0 V ++ (vs_W1 g aS S ++ (vs_W1 g aT T ++ (vs_W0 g aK K ++ (vs_WO g o O2 ++ (wr))))))) M p1 _ (by have : y.2.1 ≤ 193 := hLN; omega) hw) rfl hl.1 rfl ⟨rfl, rfl⟩ ⟨Nat.le_of_ble_eq_true rfl, Nat.le_of_ble_eq_true rfl⟩ ⟨show _ ≤ 603072 by first | omega | (dsimp only; omega), show _ ≤ 7207018 by first | omega | (dsimp only; omega)⟩ (Nat.le_of_ble_eq_true rfl) dL_law_2259 (fun r3 u H locs hw hW => kk9 r3 u H locs hw (vs_Wd.perm2 hW (List.Perm.append_left (vs_W3 g aM rM qM u) (vs_mv6 (X := vs_tS g (aM 32) y.1 y.2.1 y.2.2.1 y.2.2.2)))))
  refine hcall (fun r3 M4 H locs hw hW => ?_)
  refine vs_istore (L' := [(0, .ref b), (1, .ref h0), (2, .ref (aM 0)), (3, .ref o), (4, .ref od), (5, .int (vs_I i)), (6, .int (vs_I r1)), (7, .int (vs_I r3))]) hC hl [1, 2, 3, 4, 5, 6, 7, 0] dL_law_2262 (by decide) rfl (fun ls hl => ?_)
  refine vs_aload_n hC hl 2 dL_law_2264 rfl rfl ?_
  refine vs_callVI [] hC hW 0 rfl rfl vk_X3_thrown vm_L_133 (c_X3_thrown l g aM rM qM (vs_tT g n0 q ml B ++ (vs_W2 h0 (aS 0) (aT 0) (aK 0) n0 V ++ (vs_W1 g aS S ++ (vs_W1 g aT T ++ (vs_W0 g aK K ++ (vs_WO g o O2 ++ (vs_ln g (aM 32) LN ++ (wr)))))))) M4 _ hw) rfl hl.1 rfl ⟨rfl, rfl⟩ ⟨Nat.le_of_ble_eq_true rfl, Nat.le_of_ble_eq_true rfl⟩ ⟨show _ ≤ 603072 by first | omega | (dsimp only; omega), show _ ≤ 7207018 by first | omega | (dsimp only; omega)⟩ (Nat.le_of_ble_eq_true rfl) dL_law_2265 (fun r5 _ H locs hw hW => ?_)
  have hW : vs_Wd g A s.heap (vs_W3 g aM rM qM M4 ++ (vs_tT g n0 q ml B ++ (vs_W2 h0 (aS 0) (aT 0) (aK 0) n0 V ++ (vs_W1 g aS S ++ (vs_W1 g aT T ++ (vs_W0 g aK K ++ (vs_WO g o O2 ++ (vs_ln g (aM 32) LN ++ (wr))))))))) H locs s := hW
  have hWb := vs_Wd.perm2 (vs_Wd.perm2 hW (vs_mv6 (X := vs_W3 g aM rM qM M4))) (vs_mv6 (X := vs_tT g n0 q ml B))
  refine vs_iload hC hl 6 dL_law_2268 rfl ?_
  obtain ⟨hx, hy, hwt, hwf⟩ := hw
  refine vs_icmp_eq hC 2275 hx hy dL_law_2270 (by decide) (fun hc => ?_) (fun hc => (hwf hc).elim)
  obtain ⟨hwt, hwf⟩ := hwt hc
  refine vs_iload hC hl 6 dL_law_2275 rfl ?_
  refine vs_if_ne hC 2292 hy dL_law_2277 (by decide) (fun hc => ?_) (fun hc => ?_)
  · have hw := hwt hc
    refine vs_goto hC 2295 dL_law_2292 (by decide) ?_
    exact kk O2 M4 _ _ _ _ _ (by first | omega | (dsimp only; omega)) (by first | omega | (dsimp only; omega)) hw hWb (lv_sub hl [0, 1, 2, 3, 4, 5] rfl)
  · obtain ⟨h3, h4, h5, hwt, hwf⟩ := hwf hc
    refine vs_aload_n hC hl 3 dL_law_2280 rfl rfl ?_
    refine vs_iconst hC dL_law_2281 ?_
    have hW := hWb
    refine vs_lald hC hW 37 rfl dL_law_2282 ?_
    refine vs_iload hC hl 7 dL_law_2283 rfl ?_
    refine vs_i2l hC h3 dL_law_2285 ?_
    refine vs_lcmp hC h4 h3 dL_law_2286 ?_
    refine vs_if_eq hC 2292 h5 dL_law_2287 (by decide) (fun hc => ?_) (fun hc => (hwf hc).elim)
    have hw := hwt hc
    refine vs_goto hC 2295 dL_law_2292 (by decide) ?_
    exact kk O2 M4 _ _ _ _ _ (by first | omega | (dsimp only; omega)) (by first | omega | (dsimp only; omega)) hw hWb (lv_sub hl [0, 1, 2, 3, 4, 5] rfl)
