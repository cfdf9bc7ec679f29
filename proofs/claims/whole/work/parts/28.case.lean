/-! the law's own rows -/
def vs_Scr (b L : Nat) (xs : Nat → Int32) (A : Nat → Prop) (s : State) : Prop := va_X b L xs s s.heap ∧ b < s.heap.size ∧ ¬ A b
section VSL
variable {p : Program} {l : Launch} {e : Env} {R : Room} {s : State} {m : MethodId} {args : Array Value} {below : List Frame} {meth : Method} {c : Code} {H : Heap} {locs : List Loc} {cells slots : Nat} {Q : State → Prop}
variable {cc : ByteArray} {pc nL : Nat} {ls : Array Slot} {rest : List Value} {own : String} {g : vs_G} {A : Nat → Prop} {Wo : va_W} {b L : Nat} {xs : Nat → Int32}
theorem vs_sld (hC : CallFix p m c cc nL s args vs_ws own) (hW : vs_Wd g A s.heap Wo H locs s) (hS : vs_Scr b L xs A s) {x v : Int} (hx : 0 ≤ x ∧ x < L ∧ L ≤ 2048) (hv : xs x.toNat = vs_I v) (hdg : decode cc pc = .ok (.iaload, 1))
    (kk : W p l e R s m args below meth c H locs cells slots Q (F0 m (pc + 1) ls (.int (vs_I v) :: rest))) : W p l e R s m args below meth c H locs cells slots Q (F0 m pc ls (.int (vs_I x) :: .ref b :: rest)) :=
  va_sld hC.1 hC.2.1 hS.1 hS.2.1 hS.2.2 hW.2.2.2.1 (vs_I_in hx.1 hx.2.1 (by omega)) hdg (by rw [vs_I_nat hx.1 (by omega), hv]; exact kk)
theorem vs_p5 {a b c d e9 r : va_W} : (a ++ (b ++ (c ++ (d ++ (e9 ++ r))))).Perm (e9 ++ (a ++ (b ++ (c ++ (d ++ r))))) := (List.Perm.append_left a vs_p4).trans vs_p2
theorem vs_p6 {a b c d e9 f9 r : va_W} : (a ++ (b ++ (c ++ (d ++ (e9 ++ (f9 ++ r)))))).Perm (f9 ++ (a ++ (b ++ (c ++ (d ++ (e9 ++ r)))))) := (List.Perm.append_left a vs_p5).trans vs_p2
end VSL
/-! the law's cases: their walks, by program -/
set_option maxHeartbeats 4000000 in
set_option maxRecDepth 100000 in
theorem case_0 {p : Program} {l : Launch} {e : Env} {s : State} {m : MethodId} {args : Array Value} {below : List Frame} {meth : Method} {c : Code} {H : Heap} {locs : List Loc} {cells slots : Nat} {Q : State → Prop} {ls : Array Slot} {g : vs_G} {sd : Nat → Nat} {A : Nat → Prop} {h0 n0 o od b L : Nat} {aS aT aK aM rM qM : Nat → Nat} {wr : va_W} {V S T K O M : vs_St} {i p1 p2 p3 : Int} {xs : Nat → Int32} {post : vs_St → vs_St → vs_St → vs_St → vs_St → vs_St → Prop} (hst : l.stackTraces = false) (hC : CallFix p m c cL_law 9 s args vs_ws RL) (hX : vs_Xs g sd A s s.heap) (hScr : vs_Scr b L xs A s) (hi : 0 ≤ i ∧ i + 4 ≤ L ∧ L ≤ 2048) (hp1 : xs (i + 1).toNat = vs_I p1) (hp2 : xs (i + 2).toNat = vs_I p2) (hp3 : xs (i + 3).toNat = vs_I p3) (hcap : cells + 16 ≤ 603072 ∧ slots + 96 ≤ 7207018) (hW : vs_Wd g A s.heap (vs_W2 h0 (aS 0) (aT 0) (aK 0) n0 V ++ (vs_W1 g aS S ++ (vs_W1 g aT T ++ (vs_W0 g aK K ++ (vs_WO g o O ++ (vs_W3 g aM rM qM M ++ wr)))))) H locs s) (hl : lv_has ls 9 [(0, .ref b), (1, .ref h0), (2, .ref (aM 0)), (3, .ref o), (4, .ref od), (5, .int (vs_I i))])
    (hw : wcase_0 V S T K O M i p1 p2 p3 post) (kk : ∀ (V' S' T' K' O' M' : vs_St) (H : Heap) (locs : List Loc) (ls : Array Slot) (c2 s2 : Nat), c2 ≤ cells + 16 → s2 ≤ slots + 96 → post V' S' T' K' O' M' → vs_Wd g A s.heap (vs_W2 h0 (aS 0) (aT 0) (aK 0) n0 V' ++ (vs_W1 g aS S' ++ (vs_W1 g aT T' ++ (vs_W0 g aK K' ++ (vs_WO g o O' ++ (vs_W3 g aM rM qM M' ++ wr)))))) H locs s → lv_has ls 9 [(0, .ref b), (1, .ref h0), (2, .ref (aM 0)), (3, .ref o), (4, .ref od), (5, .int (vs_I i))] → W p l e room_1 s m args below meth c H locs c2 s2 Q (F0 m 2295 ls [])) :
    W p l e room_1 s m args below meth c H locs cells slots Q (F0 m 220 ls []) := by
  unfold wcase_0 at hw
  refine vs_aload_n hC hl 1 dL_law_220 rfl rfl ?_
  refine vs_aload_n hC hl 0 dL_law_221 rfl rfl ?_
  refine vs_iload hC hl 5 dL_law_222 rfl ?_
  refine vs_iconst hC dL_law_224 ?_
  refine vs_iadd hC dL_law_225 ?_
  refine vs_sld hC hW hScr (by omega) hp1 dL_law_226 ?_
  refine vs_aload_n hC hl 3 dL_law_227 rfl rfl ?_
  refine vs_callHI [.ref h0, .int (vs_I p1), .ref o] hC hW hX vk_L_addDisk vm_L_127 (c_L_addDisk l hst g sd h0 n0 o aS aT aK (vs_W3 g aM rM qM M ++ wr) V S T K O p1 _ hw) rfl hl.1 rfl ⟨rfl, rfl⟩ ⟨Nat.le_of_ble_eq_true rfl, Nat.le_of_ble_eq_true rfl⟩ ⟨show _ ≤ 603072 by omega, show _ ≤ 7207018 by omega⟩ (Nat.le_of_ble_eq_true rfl) dL_law_228 (fun r1 u H locs hw hW => ?_)
  obtain ⟨S2, O3⟩ := u
  have hW : vs_Wd g A _ (vs_W2 h0 (aS 0) (aT 0) (aK 0) n0 V ++ (vs_W1 g aS S2 ++ (vs_W1 g aT T ++ (vs_W0 g aK K ++ (vs_WO g o O3 ++ (vs_W3 g aM rM qM M ++ wr)))))) _ _ s := hW
  refine vs_istore (L' := [(0, .ref b), (1, .ref h0), (2, .ref (aM 0)), (3, .ref o), (4, .ref od), (5, .int (vs_I i)), (6, .int (vs_I r1))]) hC hl [1, 2, 3, 4, 5, 6, 0] dL_law_231 (by decide) rfl (fun ls hl => ?_)
  refine vs_aload_n hC hl 2 dL_law_233 rfl rfl ?_
  refine vs_aload_n hC hl 0 dL_law_234 rfl rfl ?_
  refine vs_iload hC hl 5 dL_law_235 rfl ?_
  refine vs_iconst hC dL_law_237 ?_
  refine vs_iadd hC dL_law_238 ?_
  refine vs_sld hC hW hScr (by omega) hp1 dL_law_239 ?_
  have hW : vs_Wd g A _ (vs_W3 g aM rM qM M ++ (vs_W2 h0 (aS 0) (aT 0) (aK 0) n0 V ++ (vs_W1 g aS S2 ++ (vs_W1 g aT T ++ (vs_W0 g aK K ++ (vs_WO g o O3 ++ wr)))))) _ _ s := vs_Wd.perm hW vs_p6
  refine vs_callVI [.int (vs_I p1)] hC hW 0 rfl rfl vk_X3_addDisk vm_L_132 (c_X3_addDisk l g aM rM qM (vs_W2 h0 (aS 0) (aT 0) (aK 0) n0 V ++ (vs_W1 g aS S2 ++ (vs_W1 g aT T ++ (vs_W0 g aK K ++ (vs_WO g o O3 ++ wr))))) M p1 _ hw) rfl hl.1 rfl ⟨rfl, rfl⟩ ⟨Nat.le_of_ble_eq_true rfl, Nat.le_of_ble_eq_true rfl⟩ ⟨show _ ≤ 603072 by omega, show _ ≤ 7207018 by omega⟩ (Nat.le_of_ble_eq_true rfl) dL_law_240 (fun r4 M5 H locs hw hW => ?_)
  have hW : vs_Wd g A _ (vs_W3 g aM rM qM M5 ++ (vs_W2 h0 (aS 0) (aT 0) (aK 0) n0 V ++ (vs_W1 g aS S2 ++ (vs_W1 g aT T ++ (vs_W0 g aK K ++ (vs_WO g o O3 ++ wr)))))) _ _ s := hW
  have hW : vs_Wd g A _ (vs_W2 h0 (aS 0) (aT 0) (aK 0) n0 V ++ (vs_W1 g aS S2 ++ (vs_W1 g aT T ++ (vs_W0 g aK K ++ (vs_WO g o O3 ++ (vs_W3 g aM rM qM M5 ++ wr)))))) _ _ s := vs_Wd.perm hW (List.Perm.symm vs_p6)
  refine vs_istore (L' := [(0, .ref b), (1, .ref h0), (2, .ref (aM 0)), (3, .ref o), (4, .ref od), (5, .int (vs_I i)), (6, .int (vs_I r1)), (7, .int (vs_I r4))]) hC hl [1, 2, 3, 4, 5, 6, 7, 0] dL_law_243 (by decide) rfl (fun ls hl => ?_)
  refine vs_aload_n hC hl 2 dL_law_245 rfl rfl ?_
  have hW : vs_Wd g A _ (vs_W3 g aM rM qM M5 ++ (vs_W2 h0 (aS 0) (aT 0) (aK 0) n0 V ++ (vs_W1 g aS S2 ++ (vs_W1 g aT T ++ (vs_W0 g aK K ++ (vs_WO g o O3 ++ wr)))))) _ _ s := vs_Wd.perm hW vs_p6
  refine vs_callVI [] hC hW 0 rfl rfl vk_X3_thrown vm_L_133 (c_X3_thrown l g aM rM qM (vs_W2 h0 (aS 0) (aT 0) (aK 0) n0 V ++ (vs_W1 g aS S2 ++ (vs_W1 g aT T ++ (vs_W0 g aK K ++ (vs_WO g o O3 ++ wr))))) M5  _ hw) rfl hl.1 rfl ⟨rfl, rfl⟩ ⟨Nat.le_of_ble_eq_true rfl, Nat.le_of_ble_eq_true rfl⟩ ⟨show _ ≤ 603072 by omega, show _ ≤ 7207018 by omega⟩ (Nat.le_of_ble_eq_true rfl) dL_law_246 (fun r6 _ H locs hw hW => ?_)
  have hW : vs_Wd g A _ (vs_W3 g aM rM qM M5 ++ (vs_W2 h0 (aS 0) (aT 0) (aK 0) n0 V ++ (vs_W1 g aS S2 ++ (vs_W1 g aT T ++ (vs_W0 g aK K ++ (vs_WO g o O3 ++ wr)))))) _ _ s := hW
  have hW : vs_Wd g A _ (vs_W2 h0 (aS 0) (aT 0) (aK 0) n0 V ++ (vs_W1 g aS S2 ++ (vs_W1 g aT T ++ (vs_W0 g aK K ++ (vs_WO g o O3 ++ (vs_W3 g aM rM qM M5 ++ wr)))))) _ _ s := vs_Wd.perm hW (List.Perm.symm vs_p6)
  refine vs_iload hC hl 6 dL_law_249 rfl ?_
  obtain ⟨hx, hw⟩ := hw
  obtain ⟨hy, hw⟩ := hw
  obtain ⟨hwt, hwf⟩ := hw
  refine vs_icmp_eq hC 256 hx hy dL_law_251 (by decide) (fun hc => ?_) (fun hc => ?_)
  · have hw := hwt hc
    clear hwt hwf hc
    refine vs_iload hC hl 6 dL_law_256 rfl ?_
    obtain ⟨hx, hw⟩ := hw
    obtain ⟨hwt, hwf⟩ := hw
    refine vs_if_ne hC 273 hx dL_law_258 (by decide) (fun hc => ?_) (fun hc => ?_)
    · have hw := hwt hc
      clear hwt hwf hc
      refine vs_goto hC 2295 dL_law_273 (by decide) ?_
      exact kk V S2 T K O3 M5 _ _ _ _ _ (by omega) (by omega) hw hW (lv_sub hl [0, 1, 2, 3, 4, 5] rfl)
    · have hw := hwf hc
      clear hwt hwf hc
      refine vs_aload_n hC hl 3 dL_law_261 rfl rfl ?_
      refine vs_iconst hC dL_law_262 ?_
      refine vs_lald hC hW 37 rfl dL_law_263 ?_
      refine vs_iload hC hl 7 dL_law_264 rfl ?_
      obtain ⟨hx, hw⟩ := hw
      refine vs_i2l hC hx dL_law_266 ?_
      obtain ⟨hx, hw⟩ := hw
      obtain ⟨hy, hw⟩ := hw
      refine vs_lcmp hC hx hy dL_law_267 ?_
      obtain ⟨hx, hw⟩ := hw
      obtain ⟨hwt, hwf⟩ := hw
      refine vs_if_eq hC 273 hx dL_law_268 (by decide) (fun hc => ?_) (fun hc => ?_)
      · have hw := hwt hc
        clear hwt hwf hc
        refine vs_goto hC 2295 dL_law_273 (by decide) ?_
        exact kk V S2 T K O3 M5 _ _ _ _ _ (by omega) (by omega) hw hW (lv_sub hl [0, 1, 2, 3, 4, 5] rfl)
      · have hw := hwf hc
        clear hwt hwf hc
        refine vs_iconst hC dL_law_271 ?_
        exact hw.elim
  · have hw := hwf hc
    clear hwt hwf hc
    refine vs_iconst hC dL_law_254 ?_
    exact hw.elim
set_option maxHeartbeats 4000000 in
set_option maxRecDepth 100000 in
theorem case_1 {p : Program} {l : Launch} {e : Env} {s : State} {m : MethodId} {args : Array Value} {below : List Frame} {meth : Method} {c : Code} {H : Heap} {locs : List Loc} {cells slots : Nat} {Q : State → Prop} {ls : Array Slot} {g : vs_G} {sd : Nat → Nat} {A : Nat → Prop} {h0 n0 o od b L : Nat} {aS aT aK aM rM qM : Nat → Nat} {wr : va_W} {V S T K O M : vs_St} {i p1 p2 p3 : Int} {xs : Nat → Int32} {post : vs_St → vs_St → vs_St → vs_St → vs_St → vs_St → Prop} (hst : l.stackTraces = false) (hC : CallFix p m c cL_law 9 s args vs_ws RL) (hX : vs_Xs g sd A s s.heap) (hScr : vs_Scr b L xs A s) (hi : 0 ≤ i ∧ i + 4 ≤ L ∧ L ≤ 2048) (hp1 : xs (i + 1).toNat = vs_I p1) (hp2 : xs (i + 2).toNat = vs_I p2) (hp3 : xs (i + 3).toNat = vs_I p3) (hcap : cells + 16 ≤ 603072 ∧ slots + 96 ≤ 7207018) (hW : vs_Wd g A s.heap (vs_W2 h0 (aS 0) (aT 0) (aK 0) n0 V ++ (vs_W1 g aS S ++ (vs_W1 g aT T ++ (vs_W0 g aK K ++ (vs_WO g o O ++ (vs_W3 g aM rM qM M ++ wr)))))) H locs s) (hl : lv_has ls 9 [(0, .ref b), (1, .ref h0), (2, .ref (aM 0)), (3, .ref o), (4, .ref od), (5, .int (vs_I i))])
    (hw : wcase_1 V S T K O M i p1 p2 p3 post) (kk : ∀ (V' S' T' K' O' M' : vs_St) (H : Heap) (locs : List Loc) (ls : Array Slot) (c2 s2 : Nat), c2 ≤ cells + 16 → s2 ≤ slots + 96 → post V' S' T' K' O' M' → vs_Wd g A s.heap (vs_W2 h0 (aS 0) (aT 0) (aK 0) n0 V' ++ (vs_W1 g aS S' ++ (vs_W1 g aT T' ++ (vs_W0 g aK K' ++ (vs_WO g o O' ++ (vs_W3 g aM rM qM M' ++ wr)))))) H locs s → lv_has ls 9 [(0, .ref b), (1, .ref h0), (2, .ref (aM 0)), (3, .ref o), (4, .ref od), (5, .int (vs_I i))] → W p l e room_1 s m args below meth c H locs c2 s2 Q (F0 m 2295 ls [])) :
    W p l e room_1 s m args below meth c H locs cells slots Q (F0 m 276 ls []) := by
  unfold wcase_1 at hw
  refine vs_aload_n hC hl 1 dL_law_276 rfl rfl ?_
  refine vs_callVI [] hC hW 0 rfl rfl vk_X2_diskCount vm_L_137 (c_X2_diskCount l g h0 n0 aS aT aK (vs_WO g o O ++ (vs_W3 g aM rM qM M ++ wr)) V S T K  _ hw) rfl hl.1 rfl ⟨rfl, rfl⟩ ⟨Nat.le_of_ble_eq_true rfl, Nat.le_of_ble_eq_true rfl⟩ ⟨show _ ≤ 603072 by omega, show _ ≤ 7207018 by omega⟩ (Nat.le_of_ble_eq_true rfl) dL_law_277 (fun r1 _ H locs hw hW => ?_)
  have hW : vs_Wd g A _ (vs_W2 h0 (aS 0) (aT 0) (aK 0) n0 V ++ (vs_W1 g aS S ++ (vs_W1 g aT T ++ (vs_W0 g aK K ++ (vs_WO g o O ++ (vs_W3 g aM rM qM M ++ wr)))))) _ _ s := hW
  refine vs_aload_n hC hl 2 dL_law_280 rfl rfl ?_
  have hW : vs_Wd g A _ (vs_W3 g aM rM qM M ++ (vs_W2 h0 (aS 0) (aT 0) (aK 0) n0 V ++ (vs_W1 g aS S ++ (vs_W1 g aT T ++ (vs_W0 g aK K ++ (vs_WO g o O ++ wr)))))) _ _ s := vs_Wd.perm hW vs_p6
  refine vs_callVI [] hC hW 0 rfl rfl vk_X3_diskCount vm_L_140 (c_X3_diskCount l g aM rM qM (vs_W2 h0 (aS 0) (aT 0) (aK 0) n0 V ++ (vs_W1 g aS S ++ (vs_W1 g aT T ++ (vs_W0 g aK K ++ (vs_WO g o O ++ wr))))) M  _ hw) rfl hl.1 rfl ⟨rfl, rfl⟩ ⟨Nat.le_of_ble_eq_true rfl, Nat.le_of_ble_eq_true rfl⟩ ⟨show _ ≤ 603072 by omega, show _ ≤ 7207018 by omega⟩ (Nat.le_of_ble_eq_true rfl) dL_law_281 (fun r2 M3 H locs hw hW => ?_)
  have hW : vs_Wd g A _ (vs_W3 g aM rM qM M3 ++ (vs_W2 h0 (aS 0) (aT 0) (aK 0) n0 V ++ (vs_W1 g aS S ++ (vs_W1 g aT T ++ (vs_W0 g aK K ++ (vs_WO g o O ++ wr)))))) _ _ s := hW
  have hW : vs_Wd g A _ (vs_W2 h0 (aS 0) (aT 0) (aK 0) n0 V ++ (vs_W1 g aS S ++ (vs_W1 g aT T ++ (vs_W0 g aK K ++ (vs_WO g o O ++ (vs_W3 g aM rM qM M3 ++ wr)))))) _ _ s := vs_Wd.perm hW (List.Perm.symm vs_p6)
  obtain ⟨hx, hw⟩ := hw
  obtain ⟨hy, hw⟩ := hw
  obtain ⟨hwt, hwf⟩ := hw
  refine vs_icmp_eq hC 2295 hx hy dL_law_284 (by decide) (fun hc => ?_) (fun hc => ?_)
  · have hw := hwt hc
    clear hwt hwf hc
    exact kk V S T K O M3 _ _ _ _ _ (by omega) (by omega) hw hW (lv_sub hl [0, 1, 2, 3, 4, 5] rfl)
  · have hw := hwf hc
    clear hwt hwf hc
    refine vs_iconst hC dL_law_287 ?_
    exact hw.elim
set_option maxHeartbeats 4000000 in
set_option maxRecDepth 100000 in
theorem case_2 {p : Program} {l : Launch} {e : Env} {s : State} {m : MethodId} {args : Array Value} {below : List Frame} {meth : Method} {c : Code} {H : Heap} {locs : List Loc} {cells slots : Nat} {Q : State → Prop} {ls : Array Slot} {g : vs_G} {sd : Nat → Nat} {A : Nat → Prop} {h0 n0 o od b L : Nat} {aS aT aK aM rM qM : Nat → Nat} {wr : va_W} {V S T K O M : vs_St} {i p1 p2 p3 : Int} {xs : Nat → Int32} {post : vs_St → vs_St → vs_St → vs_St → vs_St → vs_St → Prop} (hst : l.stackTraces = false) (hC : CallFix p m c cL_law 9 s args vs_ws RL) (hX : vs_Xs g sd A s s.heap) (hScr : vs_Scr b L xs A s) (hi : 0 ≤ i ∧ i + 4 ≤ L ∧ L ≤ 2048) (hp1 : xs (i + 1).toNat = vs_I p1) (hp2 : xs (i + 2).toNat = vs_I p2) (hp3 : xs (i + 3).toNat = vs_I p3) (hcap : cells + 16 ≤ 603072 ∧ slots + 96 ≤ 7207018) (hW : vs_Wd g A s.heap (vs_W2 h0 (aS 0) (aT 0) (aK 0) n0 V ++ (vs_W1 g aS S ++ (vs_W1 g aT T ++ (vs_W0 g aK K ++ (vs_WO g o O ++ (vs_W3 g aM rM qM M ++ wr)))))) H locs s) (hl : lv_has ls 9 [(0, .ref b), (1, .ref h0), (2, .ref (aM 0)), (3, .ref o), (4, .ref od), (5, .int (vs_I i))])
    (hw : wcase_2 V S T K O M i p1 p2 p3 post) (kk : ∀ (V' S' T' K' O' M' : vs_St) (H : Heap) (locs : List Loc) (ls : Array Slot) (c2 s2 : Nat), c2 ≤ cells + 16 → s2 ≤ slots + 96 → post V' S' T' K' O' M' → vs_Wd g A s.heap (vs_W2 h0 (aS 0) (aT 0) (aK 0) n0 V' ++ (vs_W1 g aS S' ++ (vs_W1 g aT T' ++ (vs_W0 g aK K' ++ (vs_WO g o O' ++ (vs_W3 g aM rM qM M' ++ wr)))))) H locs s → lv_has ls 9 [(0, .ref b), (1, .ref h0), (2, .ref (aM 0)), (3, .ref o), (4, .ref od), (5, .int (vs_I i))] → W p l e room_1 s m args below meth c H locs c2 s2 Q (F0 m 2295 ls [])) :
    W p l e room_1 s m args below meth c H locs cells slots Q (F0 m 289 ls []) := by
  unfold wcase_2 at hw
  refine vs_aload_n hC hl 1 dL_law_289 rfl rfl ?_
  refine vs_aload_n hC hl 0 dL_law_290 rfl rfl ?_
  refine vs_iload hC hl 5 dL_law_291 rfl ?_
  refine vs_iconst hC dL_law_293 ?_
  refine vs_iadd hC dL_law_294 ?_
  refine vs_sld hC hW hScr (by omega) hp1 dL_law_295 ?_
  refine vs_aload_n hC hl 3 dL_law_296 rfl rfl ?_
  refine vs_callHI [.ref h0, .int (vs_I p1), .ref o] hC hW hX vk_L_diskState vm_L_141 (c_L_diskState l hst g sd h0 n0 o aS aT aK (vs_W3 g aM rM qM M ++ wr) V S T K O p1 _ hw) rfl hl.1 rfl ⟨rfl, rfl⟩ ⟨Nat.le_of_ble_eq_true rfl, Nat.le_of_ble_eq_true rfl⟩ ⟨show _ ≤ 603072 by omega, show _ ≤ 7207018 by omega⟩ (Nat.le_of_ble_eq_true rfl) dL_law_297 (fun r1 O2 H locs hw hW => ?_)
  have hW : vs_Wd g A _ (vs_W2 h0 (aS 0) (aT 0) (aK 0) n0 V ++ (vs_W1 g aS S ++ (vs_W1 g aT T ++ (vs_W0 g aK K ++ (vs_WO g o O2 ++ (vs_W3 g aM rM qM M ++ wr)))))) _ _ s := hW
  refine vs_istore (L' := [(0, .ref b), (1, .ref h0), (2, .ref (aM 0)), (3, .ref o), (4, .ref od), (5, .int (vs_I i)), (6, .int (vs_I r1))]) hC hl [1, 2, 3, 4, 5, 6, 0] dL_law_300 (by decide) rfl (fun ls hl => ?_)
  refine vs_aload_n hC hl 2 dL_law_302 rfl rfl ?_
  refine vs_aload_n hC hl 0 dL_law_303 rfl rfl ?_
  refine vs_iload hC hl 5 dL_law_304 rfl ?_
  refine vs_iconst hC dL_law_306 ?_
  refine vs_iadd hC dL_law_307 ?_
  refine vs_sld hC hW hScr (by omega) hp1 dL_law_308 ?_
  have hW : vs_Wd g A _ (vs_W3 g aM rM qM M ++ (vs_W2 h0 (aS 0) (aT 0) (aK 0) n0 V ++ (vs_W1 g aS S ++ (vs_W1 g aT T ++ (vs_W0 g aK K ++ (vs_WO g o O2 ++ wr)))))) _ _ s := vs_Wd.perm hW vs_p6
  refine vs_callVI [.int (vs_I p1)] hC hW 0 rfl rfl vk_X3_diskState vm_L_143 (c_X3_diskState l g aM rM qM (vs_W2 h0 (aS 0) (aT 0) (aK 0) n0 V ++ (vs_W1 g aS S ++ (vs_W1 g aT T ++ (vs_W0 g aK K ++ (vs_WO g o O2 ++ wr))))) M p1 _ hw) rfl hl.1 rfl ⟨rfl, rfl⟩ ⟨Nat.le_of_ble_eq_true rfl, Nat.le_of_ble_eq_true rfl⟩ ⟨show _ ≤ 603072 by omega, show _ ≤ 7207018 by omega⟩ (Nat.le_of_ble_eq_true rfl) dL_law_309 (fun r3 M4 H locs hw hW => ?_)
  have hW : vs_Wd g A _ (vs_W3 g aM rM qM M4 ++ (vs_W2 h0 (aS 0) (aT 0) (aK 0) n0 V ++ (vs_W1 g aS S ++ (vs_W1 g aT T ++ (vs_W0 g aK K ++ (vs_WO g o O2 ++ wr)))))) _ _ s := hW
  have hW : vs_Wd g A _ (vs_W2 h0 (aS 0) (aT 0) (aK 0) n0 V ++ (vs_W1 g aS S ++ (vs_W1 g aT T ++ (vs_W0 g aK K ++ (vs_WO g o O2 ++ (vs_W3 g aM rM qM M4 ++ wr)))))) _ _ s := vs_Wd.perm hW (List.Perm.symm vs_p6)
  refine vs_istore (L' := [(0, .ref b), (1, .ref h0), (2, .ref (aM 0)), (3, .ref o), (4, .ref od), (5, .int (vs_I i)), (6, .int (vs_I r1)), (7, .int (vs_I r3))]) hC hl [1, 2, 3, 4, 5, 6, 7, 0] dL_law_312 (by decide) rfl (fun ls hl => ?_)
  refine vs_aload_n hC hl 2 dL_law_314 rfl rfl ?_
  have hW : vs_Wd g A _ (vs_W3 g aM rM qM M4 ++ (vs_W2 h0 (aS 0) (aT 0) (aK 0) n0 V ++ (vs_W1 g aS S ++ (vs_W1 g aT T ++ (vs_W0 g aK K ++ (vs_WO g o O2 ++ wr)))))) _ _ s := vs_Wd.perm hW vs_p6
  refine vs_callVI [] hC hW 0 rfl rfl vk_X3_thrown vm_L_133 (c_X3_thrown l g aM rM qM (vs_W2 h0 (aS 0) (aT 0) (aK 0) n0 V ++ (vs_W1 g aS S ++ (vs_W1 g aT T ++ (vs_W0 g aK K ++ (vs_WO g o O2 ++ wr))))) M4  _ hw) rfl hl.1 rfl ⟨rfl, rfl⟩ ⟨Nat.le_of_ble_eq_true rfl, Nat.le_of_ble_eq_true rfl⟩ ⟨show _ ≤ 603072 by omega, show _ ≤ 7207018 by omega⟩ (Nat.le_of_ble_eq_true rfl) dL_law_315 (fun r5 _ H locs hw hW => ?_)
  have hW : vs_Wd g A _ (vs_W3 g aM rM qM M4 ++ (vs_W2 h0 (aS 0) (aT 0) (aK 0) n0 V ++ (vs_W1 g aS S ++ (vs_W1 g aT T ++ (vs_W0 g aK K ++ (vs_WO g o O2 ++ wr)))))) _ _ s := hW
  have hW : vs_Wd g A _ (vs_W2 h0 (aS 0) (aT 0) (aK 0) n0 V ++ (vs_W1 g aS S ++ (vs_W1 g aT T ++ (vs_W0 g aK K ++ (vs_WO g o O2 ++ (vs_W3 g aM rM qM M4 ++ wr)))))) _ _ s := vs_Wd.perm hW (List.Perm.symm vs_p6)
  refine vs_iload hC hl 6 dL_law_318 rfl ?_
  obtain ⟨hx, hw⟩ := hw
  obtain ⟨hy, hw⟩ := hw
  obtain ⟨hwt, hwf⟩ := hw
  refine vs_icmp_eq hC 325 hx hy dL_law_320 (by decide) (fun hc => ?_) (fun hc => ?_)
  · have hw := hwt hc
    clear hwt hwf hc
    refine vs_iload hC hl 6 dL_law_325 rfl ?_
    obtain ⟨hx, hw⟩ := hw
    obtain ⟨hwt, hwf⟩ := hw
    refine vs_if_ne hC 342 hx dL_law_327 (by decide) (fun hc => ?_) (fun hc => ?_)
    · have hw := hwt hc
      clear hwt hwf hc
      refine vs_goto hC 2295 dL_law_342 (by decide) ?_
      exact kk V S T K O2 M4 _ _ _ _ _ (by omega) (by omega) hw hW (lv_sub hl [0, 1, 2, 3, 4, 5] rfl)
    · have hw := hwf hc
      clear hwt hwf hc
      refine vs_aload_n hC hl 3 dL_law_330 rfl rfl ?_
      refine vs_iconst hC dL_law_331 ?_
      refine vs_lald hC hW 37 rfl dL_law_332 ?_
      refine vs_iload hC hl 7 dL_law_333 rfl ?_
      obtain ⟨hx, hw⟩ := hw
      refine vs_i2l hC hx dL_law_335 ?_
      obtain ⟨hx, hw⟩ := hw
      obtain ⟨hy, hw⟩ := hw
      refine vs_lcmp hC hx hy dL_law_336 ?_
      obtain ⟨hx, hw⟩ := hw
      obtain ⟨hwt, hwf⟩ := hw
      refine vs_if_eq hC 342 hx dL_law_337 (by decide) (fun hc => ?_) (fun hc => ?_)
      · have hw := hwt hc
        clear hwt hwf hc
        refine vs_goto hC 2295 dL_law_342 (by decide) ?_
        exact kk V S T K O2 M4 _ _ _ _ _ (by omega) (by omega) hw hW (lv_sub hl [0, 1, 2, 3, 4, 5] rfl)
      · have hw := hwf hc
        clear hwt hwf hc
        refine vs_iconst hC dL_law_340 ?_
        exact hw.elim
  · have hw := hwf hc
    clear hwt hwf hc
    refine vs_iconst hC dL_law_323 ?_
    exact hw.elim
set_option maxHeartbeats 4000000 in
set_option maxRecDepth 100000 in
theorem case_3 {p : Program} {l : Launch} {e : Env} {s : State} {m : MethodId} {args : Array Value} {below : List Frame} {meth : Method} {c : Code} {H : Heap} {locs : List Loc} {cells slots : Nat} {Q : State → Prop} {ls : Array Slot} {g : vs_G} {sd : Nat → Nat} {A : Nat → Prop} {h0 n0 o od b L : Nat} {aS aT aK aM rM qM : Nat → Nat} {wr : va_W} {V S T K O M : vs_St} {i p1 p2 p3 : Int} {xs : Nat → Int32} {post : vs_St → vs_St → vs_St → vs_St → vs_St → vs_St → Prop} (hst : l.stackTraces = false) (hC : CallFix p m c cL_law 9 s args vs_ws RL) (hX : vs_Xs g sd A s s.heap) (hScr : vs_Scr b L xs A s) (hi : 0 ≤ i ∧ i + 4 ≤ L ∧ L ≤ 2048) (hp1 : xs (i + 1).toNat = vs_I p1) (hp2 : xs (i + 2).toNat = vs_I p2) (hp3 : xs (i + 3).toNat = vs_I p3) (hcap : cells + 16 ≤ 603072 ∧ slots + 96 ≤ 7207018) (hW : vs_Wd g A s.heap (vs_W2 h0 (aS 0) (aT 0) (aK 0) n0 V ++ (vs_W1 g aS S ++ (vs_W1 g aT T ++ (vs_W0 g aK K ++ (vs_WO g o O ++ (vs_W3 g aM rM qM M ++ wr)))))) H locs s) (hl : lv_has ls 9 [(0, .ref b), (1, .ref h0), (2, .ref (aM 0)), (3, .ref o), (4, .ref od), (5, .int (vs_I i))])
    (hw : wcase_3 V S T K O M i p1 p2 p3 post) (kk : ∀ (V' S' T' K' O' M' : vs_St) (H : Heap) (locs : List Loc) (ls : Array Slot) (c2 s2 : Nat), c2 ≤ cells + 16 → s2 ≤ slots + 96 → post V' S' T' K' O' M' → vs_Wd g A s.heap (vs_W2 h0 (aS 0) (aT 0) (aK 0) n0 V' ++ (vs_W1 g aS S' ++ (vs_W1 g aT T' ++ (vs_W0 g aK K' ++ (vs_WO g o O' ++ (vs_W3 g aM rM qM M' ++ wr)))))) H locs s → lv_has ls 9 [(0, .ref b), (1, .ref h0), (2, .ref (aM 0)), (3, .ref o), (4, .ref od), (5, .int (vs_I i))] → W p l e room_1 s m args below meth c H locs c2 s2 Q (F0 m 2295 ls [])) :
    W p l e room_1 s m args below meth c H locs cells slots Q (F0 m 345 ls []) := by
  unfold wcase_3 at hw
  refine vs_aload_n hC hl 1 dL_law_345 rfl rfl ?_
  refine vs_aload_n hC hl 0 dL_law_346 rfl rfl ?_
  refine vs_iload hC hl 5 dL_law_347 rfl ?_
  refine vs_iconst hC dL_law_349 ?_
  refine vs_iadd hC dL_law_350 ?_
  refine vs_sld hC hW hScr (by omega) hp1 dL_law_351 ?_
  refine vs_aload_n hC hl 3 dL_law_352 rfl rfl ?_
  refine vs_callHI [.ref h0, .int (vs_I p1), .ref o] hC hW hX vk_L_usedOn vm_L_144 (c_L_usedOn l hst g sd h0 n0 o aS aT aK (vs_W3 g aM rM qM M ++ wr) V S T K O p1 _ hw) rfl hl.1 rfl ⟨rfl, rfl⟩ ⟨Nat.le_of_ble_eq_true rfl, Nat.le_of_ble_eq_true rfl⟩ ⟨show _ ≤ 603072 by omega, show _ ≤ 7207018 by omega⟩ (Nat.le_of_ble_eq_true rfl) dL_law_353 (fun r1 O2 H locs hw hW => ?_)
  have hW : vs_Wd g A _ (vs_W2 h0 (aS 0) (aT 0) (aK 0) n0 V ++ (vs_W1 g aS S ++ (vs_W1 g aT T ++ (vs_W0 g aK K ++ (vs_WO g o O2 ++ (vs_W3 g aM rM qM M ++ wr)))))) _ _ s := hW
  refine vs_istore (L' := [(0, .ref b), (1, .ref h0), (2, .ref (aM 0)), (3, .ref o), (4, .ref od), (5, .int (vs_I i)), (6, .int (vs_I r1))]) hC hl [1, 2, 3, 4, 5, 6, 0] dL_law_356 (by decide) rfl (fun ls hl => ?_)
  refine vs_aload_n hC hl 2 dL_law_358 rfl rfl ?_
  refine vs_aload_n hC hl 0 dL_law_359 rfl rfl ?_
  refine vs_iload hC hl 5 dL_law_360 rfl ?_
  refine vs_iconst hC dL_law_362 ?_
  refine vs_iadd hC dL_law_363 ?_
  refine vs_sld hC hW hScr (by omega) hp1 dL_law_364 ?_
  have hW : vs_Wd g A _ (vs_W3 g aM rM qM M ++ (vs_W2 h0 (aS 0) (aT 0) (aK 0) n0 V ++ (vs_W1 g aS S ++ (vs_W1 g aT T ++ (vs_W0 g aK K ++ (vs_WO g o O2 ++ wr)))))) _ _ s := vs_Wd.perm hW vs_p6
  refine vs_callVI [.int (vs_I p1)] hC hW 0 rfl rfl vk_X3_usedOn vm_L_146 (c_X3_usedOn l g aM rM qM (vs_W2 h0 (aS 0) (aT 0) (aK 0) n0 V ++ (vs_W1 g aS S ++ (vs_W1 g aT T ++ (vs_W0 g aK K ++ (vs_WO g o O2 ++ wr))))) M p1 _ hw) rfl hl.1 rfl ⟨rfl, rfl⟩ ⟨Nat.le_of_ble_eq_true rfl, Nat.le_of_ble_eq_true rfl⟩ ⟨show _ ≤ 603072 by omega, show _ ≤ 7207018 by omega⟩ (Nat.le_of_ble_eq_true rfl) dL_law_365 (fun r3 M4 H locs hw hW => ?_)
  have hW : vs_Wd g A _ (vs_W3 g aM rM qM M4 ++ (vs_W2 h0 (aS 0) (aT 0) (aK 0) n0 V ++ (vs_W1 g aS S ++ (vs_W1 g aT T ++ (vs_W0 g aK K ++ (vs_WO g o O2 ++ wr)))))) _ _ s := hW
  have hW : vs_Wd g A _ (vs_W2 h0 (aS 0) (aT 0) (aK 0) n0 V ++ (vs_W1 g aS S ++ (vs_W1 g aT T ++ (vs_W0 g aK K ++ (vs_WO g o O2 ++ (vs_W3 g aM rM qM M4 ++ wr)))))) _ _ s := vs_Wd.perm hW (List.Perm.symm vs_p6)
  refine vs_istore (L' := [(0, .ref b), (1, .ref h0), (2, .ref (aM 0)), (3, .ref o), (4, .ref od), (5, .int (vs_I i)), (6, .int (vs_I r1)), (7, .int (vs_I r3))]) hC hl [1, 2, 3, 4, 5, 6, 7, 0] dL_law_368 (by decide) rfl (fun ls hl => ?_)
  refine vs_aload_n hC hl 2 dL_law_370 rfl rfl ?_
  have hW : vs_Wd g A _ (vs_W3 g aM rM qM M4 ++ (vs_W2 h0 (aS 0) (aT 0) (aK 0) n0 V ++ (vs_W1 g aS S ++ (vs_W1 g aT T ++ (vs_W0 g aK K ++ (vs_WO g o O2 ++ wr)))))) _ _ s := vs_Wd.perm hW vs_p6
  refine vs_callVI [] hC hW 0 rfl rfl vk_X3_thrown vm_L_133 (c_X3_thrown l g aM rM qM (vs_W2 h0 (aS 0) (aT 0) (aK 0) n0 V ++ (vs_W1 g aS S ++ (vs_W1 g aT T ++ (vs_W0 g aK K ++ (vs_WO g o O2 ++ wr))))) M4  _ hw) rfl hl.1 rfl ⟨rfl, rfl⟩ ⟨Nat.le_of_ble_eq_true rfl, Nat.le_of_ble_eq_true rfl⟩ ⟨show _ ≤ 603072 by omega, show _ ≤ 7207018 by omega⟩ (Nat.le_of_ble_eq_true rfl) dL_law_371 (fun r5 _ H locs hw hW => ?_)
  have hW : vs_Wd g A _ (vs_W3 g aM rM qM M4 ++ (vs_W2 h0 (aS 0) (aT 0) (aK 0) n0 V ++ (vs_W1 g aS S ++ (vs_W1 g aT T ++ (vs_W0 g aK K ++ (vs_WO g o O2 ++ wr)))))) _ _ s := hW
  have hW : vs_Wd g A _ (vs_W2 h0 (aS 0) (aT 0) (aK 0) n0 V ++ (vs_W1 g aS S ++ (vs_W1 g aT T ++ (vs_W0 g aK K ++ (vs_WO g o O2 ++ (vs_W3 g aM rM qM M4 ++ wr)))))) _ _ s := vs_Wd.perm hW (List.Perm.symm vs_p6)
  refine vs_iload hC hl 6 dL_law_374 rfl ?_
  obtain ⟨hx, hw⟩ := hw
  obtain ⟨hy, hw⟩ := hw
  obtain ⟨hwt, hwf⟩ := hw
  refine vs_icmp_eq hC 381 hx hy dL_law_376 (by decide) (fun hc => ?_) (fun hc => ?_)
  · have hw := hwt hc
    clear hwt hwf hc
    refine vs_iload hC hl 6 dL_law_381 rfl ?_
    obtain ⟨hx, hw⟩ := hw
    obtain ⟨hwt, hwf⟩ := hw
    refine vs_if_ne hC 398 hx dL_law_383 (by decide) (fun hc => ?_) (fun hc => ?_)
    · have hw := hwt hc
      clear hwt hwf hc
      refine vs_goto hC 2295 dL_law_398 (by decide) ?_
      exact kk V S T K O2 M4 _ _ _ _ _ (by omega) (by omega) hw hW (lv_sub hl [0, 1, 2, 3, 4, 5] rfl)
    · have hw := hwf hc
      clear hwt hwf hc
      refine vs_aload_n hC hl 3 dL_law_386 rfl rfl ?_
      refine vs_iconst hC dL_law_387 ?_
      refine vs_lald hC hW 37 rfl dL_law_388 ?_
      refine vs_iload hC hl 7 dL_law_389 rfl ?_
      obtain ⟨hx, hw⟩ := hw
      refine vs_i2l hC hx dL_law_391 ?_
      obtain ⟨hx, hw⟩ := hw
      obtain ⟨hy, hw⟩ := hw
      refine vs_lcmp hC hx hy dL_law_392 ?_
      obtain ⟨hx, hw⟩ := hw
      obtain ⟨hwt, hwf⟩ := hw
      refine vs_if_eq hC 398 hx dL_law_393 (by decide) (fun hc => ?_) (fun hc => ?_)
      · have hw := hwt hc
        clear hwt hwf hc
        refine vs_goto hC 2295 dL_law_398 (by decide) ?_
        exact kk V S T K O2 M4 _ _ _ _ _ (by omega) (by omega) hw hW (lv_sub hl [0, 1, 2, 3, 4, 5] rfl)
      · have hw := hwf hc
        clear hwt hwf hc
        refine vs_iconst hC dL_law_396 ?_
        exact hw.elim
  · have hw := hwf hc
    clear hwt hwf hc
    refine vs_iconst hC dL_law_379 ?_
    exact hw.elim
set_option maxHeartbeats 4000000 in
set_option maxRecDepth 100000 in
theorem case_4 {p : Program} {l : Launch} {e : Env} {s : State} {m : MethodId} {args : Array Value} {below : List Frame} {meth : Method} {c : Code} {H : Heap} {locs : List Loc} {cells slots : Nat} {Q : State → Prop} {ls : Array Slot} {g : vs_G} {sd : Nat → Nat} {A : Nat → Prop} {h0 n0 o od b L : Nat} {aS aT aK aM rM qM : Nat → Nat} {wr : va_W} {V S T K O M : vs_St} {i p1 p2 p3 : Int} {xs : Nat → Int32} {post : vs_St → vs_St → vs_St → vs_St → vs_St → vs_St → Prop} (hst : l.stackTraces = false) (hC : CallFix p m c cL_law 9 s args vs_ws RL) (hX : vs_Xs g sd A s s.heap) (hScr : vs_Scr b L xs A s) (hi : 0 ≤ i ∧ i + 4 ≤ L ∧ L ≤ 2048) (hp1 : xs (i + 1).toNat = vs_I p1) (hp2 : xs (i + 2).toNat = vs_I p2) (hp3 : xs (i + 3).toNat = vs_I p3) (hcap : cells + 16 ≤ 603072 ∧ slots + 96 ≤ 7207018) (hW : vs_Wd g A s.heap (vs_W2 h0 (aS 0) (aT 0) (aK 0) n0 V ++ (vs_W1 g aS S ++ (vs_W1 g aT T ++ (vs_W0 g aK K ++ (vs_WO g o O ++ (vs_W3 g aM rM qM M ++ wr)))))) H locs s) (hl : lv_has ls 9 [(0, .ref b), (1, .ref h0), (2, .ref (aM 0)), (3, .ref o), (4, .ref od), (5, .int (vs_I i))])
    (hw : wcase_4 V S T K O M i p1 p2 p3 post) (kk : ∀ (V' S' T' K' O' M' : vs_St) (H : Heap) (locs : List Loc) (ls : Array Slot) (c2 s2 : Nat), c2 ≤ cells + 16 → s2 ≤ slots + 96 → post V' S' T' K' O' M' → vs_Wd g A s.heap (vs_W2 h0 (aS 0) (aT 0) (aK 0) n0 V' ++ (vs_W1 g aS S' ++ (vs_W1 g aT T' ++ (vs_W0 g aK K' ++ (vs_WO g o O' ++ (vs_W3 g aM rM qM M' ++ wr)))))) H locs s → lv_has ls 9 [(0, .ref b), (1, .ref h0), (2, .ref (aM 0)), (3, .ref o), (4, .ref od), (5, .int (vs_I i))] → W p l e room_1 s m args below meth c H locs c2 s2 Q (F0 m 2295 ls [])) :
    W p l e room_1 s m args below meth c H locs cells slots Q (F0 m 401 ls []) := by
  unfold wcase_4 at hw
  refine vs_aload_n hC hl 1 dL_law_401 rfl rfl ?_
  refine vs_aload_n hC hl 0 dL_law_402 rfl rfl ?_
  refine vs_iload hC hl 5 dL_law_403 rfl ?_
  refine vs_iconst hC dL_law_405 ?_
  refine vs_iadd hC dL_law_406 ?_
  refine vs_sld hC hW hScr (by omega) hp1 dL_law_407 ?_
  refine vs_aload_n hC hl 0 dL_law_408 rfl rfl ?_
  refine vs_iload hC hl 5 dL_law_409 rfl ?_
  refine vs_iconst hC dL_law_411 ?_
  refine vs_iadd hC dL_law_412 ?_
  refine vs_sld hC hW hScr (by omega) hp2 dL_law_413 ?_
  refine vs_aload_n hC hl 3 dL_law_414 rfl rfl ?_
  refine vs_callHI [.ref h0, .int (vs_I p1), .int (vs_I p2), .ref o] hC hW hX vk_L_addTenant vm_L_147 (c_L_addTenant l hst g sd h0 n0 o aS aT aK (vs_W3 g aM rM qM M ++ wr) V S T K O p1 p2 _ hw) rfl hl.1 rfl ⟨rfl, rfl⟩ ⟨Nat.le_of_ble_eq_true rfl, Nat.le_of_ble_eq_true rfl⟩ ⟨show _ ≤ 603072 by omega, show _ ≤ 7207018 by omega⟩ (Nat.le_of_ble_eq_true rfl) dL_law_415 (fun r1 u H locs hw hW => ?_)
  obtain ⟨S2, K3, O4⟩ := u
  have hW : vs_Wd g A _ (vs_W2 h0 (aS 0) (aT 0) (aK 0) n0 V ++ (vs_W1 g aS S2 ++ (vs_W1 g aT T ++ (vs_W0 g aK K3 ++ (vs_WO g o O4 ++ (vs_W3 g aM rM qM M ++ wr)))))) _ _ s := hW
  refine vs_istore (L' := [(0, .ref b), (1, .ref h0), (2, .ref (aM 0)), (3, .ref o), (4, .ref od), (5, .int (vs_I i)), (6, .int (vs_I r1))]) hC hl [1, 2, 3, 4, 5, 6, 0] dL_law_418 (by decide) rfl (fun ls hl => ?_)
  refine vs_aload_n hC hl 2 dL_law_420 rfl rfl ?_
  refine vs_aload_n hC hl 0 dL_law_421 rfl rfl ?_
  refine vs_iload hC hl 5 dL_law_422 rfl ?_
  refine vs_iconst hC dL_law_424 ?_
  refine vs_iadd hC dL_law_425 ?_
  refine vs_sld hC hW hScr (by omega) hp1 dL_law_426 ?_
  refine vs_aload_n hC hl 0 dL_law_427 rfl rfl ?_
  refine vs_iload hC hl 5 dL_law_428 rfl ?_
  refine vs_iconst hC dL_law_430 ?_
  refine vs_iadd hC dL_law_431 ?_
  refine vs_sld hC hW hScr (by omega) hp2 dL_law_432 ?_
  have hW : vs_Wd g A _ (vs_W3 g aM rM qM M ++ (vs_W2 h0 (aS 0) (aT 0) (aK 0) n0 V ++ (vs_W1 g aS S2 ++ (vs_W1 g aT T ++ (vs_W0 g aK K3 ++ (vs_WO g o O4 ++ wr)))))) _ _ s := vs_Wd.perm hW vs_p6
  refine vs_callVI [.int (vs_I p1), .int (vs_I p2)] hC hW 0 rfl rfl vk_X3_addTenant vm_L_150 (c_X3_addTenant l g aM rM qM (vs_W2 h0 (aS 0) (aT 0) (aK 0) n0 V ++ (vs_W1 g aS S2 ++ (vs_W1 g aT T ++ (vs_W0 g aK K3 ++ (vs_WO g o O4 ++ wr))))) M p1 p2 _ hw) rfl hl.1 rfl ⟨rfl, rfl⟩ ⟨Nat.le_of_ble_eq_true rfl, Nat.le_of_ble_eq_true rfl⟩ ⟨show _ ≤ 603072 by omega, show _ ≤ 7207018 by omega⟩ (Nat.le_of_ble_eq_true rfl) dL_law_433 (fun r5 M6 H locs hw hW => ?_)
  have hW : vs_Wd g A _ (vs_W3 g aM rM qM M6 ++ (vs_W2 h0 (aS 0) (aT 0) (aK 0) n0 V ++ (vs_W1 g aS S2 ++ (vs_W1 g aT T ++ (vs_W0 g aK K3 ++ (vs_WO g o O4 ++ wr)))))) _ _ s := hW
  have hW : vs_Wd g A _ (vs_W2 h0 (aS 0) (aT 0) (aK 0) n0 V ++ (vs_W1 g aS S2 ++ (vs_W1 g aT T ++ (vs_W0 g aK K3 ++ (vs_WO g o O4 ++ (vs_W3 g aM rM qM M6 ++ wr)))))) _ _ s := vs_Wd.perm hW (List.Perm.symm vs_p6)
  refine vs_istore (L' := [(0, .ref b), (1, .ref h0), (2, .ref (aM 0)), (3, .ref o), (4, .ref od), (5, .int (vs_I i)), (6, .int (vs_I r1)), (7, .int (vs_I r5))]) hC hl [1, 2, 3, 4, 5, 6, 7, 0] dL_law_436 (by decide) rfl (fun ls hl => ?_)
  refine vs_aload_n hC hl 2 dL_law_438 rfl rfl ?_
  have hW : vs_Wd g A _ (vs_W3 g aM rM qM M6 ++ (vs_W2 h0 (aS 0) (aT 0) (aK 0) n0 V ++ (vs_W1 g aS S2 ++ (vs_W1 g aT T ++ (vs_W0 g aK K3 ++ (vs_WO g o O4 ++ wr)))))) _ _ s := vs_Wd.perm hW vs_p6
  refine vs_callVI [] hC hW 0 rfl rfl vk_X3_thrown vm_L_133 (c_X3_thrown l g aM rM qM (vs_W2 h0 (aS 0) (aT 0) (aK 0) n0 V ++ (vs_W1 g aS S2 ++ (vs_W1 g aT T ++ (vs_W0 g aK K3 ++ (vs_WO g o O4 ++ wr))))) M6  _ hw) rfl hl.1 rfl ⟨rfl, rfl⟩ ⟨Nat.le_of_ble_eq_true rfl, Nat.le_of_ble_eq_true rfl⟩ ⟨show _ ≤ 603072 by omega, show _ ≤ 7207018 by omega⟩ (Nat.le_of_ble_eq_true rfl) dL_law_439 (fun r7 _ H locs hw hW => ?_)
  have hW : vs_Wd g A _ (vs_W3 g aM rM qM M6 ++ (vs_W2 h0 (aS 0) (aT 0) (aK 0) n0 V ++ (vs_W1 g aS S2 ++ (vs_W1 g aT T ++ (vs_W0 g aK K3 ++ (vs_WO g o O4 ++ wr)))))) _ _ s := hW
  have hW : vs_Wd g A _ (vs_W2 h0 (aS 0) (aT 0) (aK 0) n0 V ++ (vs_W1 g aS S2 ++ (vs_W1 g aT T ++ (vs_W0 g aK K3 ++ (vs_WO g o O4 ++ (vs_W3 g aM rM qM M6 ++ wr)))))) _ _ s := vs_Wd.perm hW (List.Perm.symm vs_p6)
  refine vs_iload hC hl 6 dL_law_442 rfl ?_
  obtain ⟨hx, hw⟩ := hw
  obtain ⟨hy, hw⟩ := hw
  obtain ⟨hwt, hwf⟩ := hw
  refine vs_icmp_eq hC 449 hx hy dL_law_444 (by decide) (fun hc => ?_) (fun hc => ?_)
  · have hw := hwt hc
    clear hwt hwf hc
    refine vs_iload hC hl 6 dL_law_449 rfl ?_
    obtain ⟨hx, hw⟩ := hw
    obtain ⟨hwt, hwf⟩ := hw
    refine vs_if_ne hC 466 hx dL_law_451 (by decide) (fun hc => ?_) (fun hc => ?_)
    · have hw := hwt hc
      clear hwt hwf hc
      refine vs_goto hC 2295 dL_law_466 (by decide) ?_
      exact kk V S2 T K3 O4 M6 _ _ _ _ _ (by omega) (by omega) hw hW (lv_sub hl [0, 1, 2, 3, 4, 5] rfl)
    · have hw := hwf hc
      clear hwt hwf hc
      refine vs_aload_n hC hl 3 dL_law_454 rfl rfl ?_
      refine vs_iconst hC dL_law_455 ?_
      refine vs_lald hC hW 37 rfl dL_law_456 ?_
      refine vs_iload hC hl 7 dL_law_457 rfl ?_
      obtain ⟨hx, hw⟩ := hw
      refine vs_i2l hC hx dL_law_459 ?_
      obtain ⟨hx, hw⟩ := hw
      obtain ⟨hy, hw⟩ := hw
      refine vs_lcmp hC hx hy dL_law_460 ?_
      obtain ⟨hx, hw⟩ := hw
      obtain ⟨hwt, hwf⟩ := hw
      refine vs_if_eq hC 466 hx dL_law_461 (by decide) (fun hc => ?_) (fun hc => ?_)
      · have hw := hwt hc
        clear hwt hwf hc
        refine vs_goto hC 2295 dL_law_466 (by decide) ?_
        exact kk V S2 T K3 O4 M6 _ _ _ _ _ (by omega) (by omega) hw hW (lv_sub hl [0, 1, 2, 3, 4, 5] rfl)
      · have hw := hwf hc
        clear hwt hwf hc
        refine vs_iconst hC dL_law_464 ?_
        exact hw.elim
  · have hw := hwf hc
    clear hwt hwf hc
    refine vs_iconst hC dL_law_447 ?_
    exact hw.elim
set_option maxHeartbeats 4000000 in
set_option maxRecDepth 100000 in
theorem case_5 {p : Program} {l : Launch} {e : Env} {s : State} {m : MethodId} {args : Array Value} {below : List Frame} {meth : Method} {c : Code} {H : Heap} {locs : List Loc} {cells slots : Nat} {Q : State → Prop} {ls : Array Slot} {g : vs_G} {sd : Nat → Nat} {A : Nat → Prop} {h0 n0 o od b L : Nat} {aS aT aK aM rM qM : Nat → Nat} {wr : va_W} {V S T K O M : vs_St} {i p1 p2 p3 : Int} {xs : Nat → Int32} {post : vs_St → vs_St → vs_St → vs_St → vs_St → vs_St → Prop} (hst : l.stackTraces = false) (hC : CallFix p m c cL_law 9 s args vs_ws RL) (hX : vs_Xs g sd A s s.heap) (hScr : vs_Scr b L xs A s) (hi : 0 ≤ i ∧ i + 4 ≤ L ∧ L ≤ 2048) (hp1 : xs (i + 1).toNat = vs_I p1) (hp2 : xs (i + 2).toNat = vs_I p2) (hp3 : xs (i + 3).toNat = vs_I p3) (hcap : cells + 16 ≤ 603072 ∧ slots + 96 ≤ 7207018) (hW : vs_Wd g A s.heap (vs_W2 h0 (aS 0) (aT 0) (aK 0) n0 V ++ (vs_W1 g aS S ++ (vs_W1 g aT T ++ (vs_W0 g aK K ++ (vs_WO g o O ++ (vs_W3 g aM rM qM M ++ wr)))))) H locs s) (hl : lv_has ls 9 [(0, .ref b), (1, .ref h0), (2, .ref (aM 0)), (3, .ref o), (4, .ref od), (5, .int (vs_I i))])
    (hw : wcase_5 V S T K O M i p1 p2 p3 post) (kk : ∀ (V' S' T' K' O' M' : vs_St) (H : Heap) (locs : List Loc) (ls : Array Slot) (c2 s2 : Nat), c2 ≤ cells + 16 → s2 ≤ slots + 96 → post V' S' T' K' O' M' → vs_Wd g A s.heap (vs_W2 h0 (aS 0) (aT 0) (aK 0) n0 V' ++ (vs_W1 g aS S' ++ (vs_W1 g aT T' ++ (vs_W0 g aK K' ++ (vs_WO g o O' ++ (vs_W3 g aM rM qM M' ++ wr)))))) H locs s → lv_has ls 9 [(0, .ref b), (1, .ref h0), (2, .ref (aM 0)), (3, .ref o), (4, .ref od), (5, .int (vs_I i))] → W p l e room_1 s m args below meth c H locs c2 s2 Q (F0 m 2295 ls [])) :
    W p l e room_1 s m args below meth c H locs cells slots Q (F0 m 469 ls []) := by
  unfold wcase_5 at hw
  refine vs_aload_n hC hl 1 dL_law_469 rfl rfl ?_
  refine vs_callVI [] hC hW 0 rfl rfl vk_X2_tenantCount vm_L_151 (c_X2_tenantCount l g h0 n0 aS aT aK (vs_WO g o O ++ (vs_W3 g aM rM qM M ++ wr)) V S T K  _ hw) rfl hl.1 rfl ⟨rfl, rfl⟩ ⟨Nat.le_of_ble_eq_true rfl, Nat.le_of_ble_eq_true rfl⟩ ⟨show _ ≤ 603072 by omega, show _ ≤ 7207018 by omega⟩ (Nat.le_of_ble_eq_true rfl) dL_law_470 (fun r1 _ H locs hw hW => ?_)
  have hW : vs_Wd g A _ (vs_W2 h0 (aS 0) (aT 0) (aK 0) n0 V ++ (vs_W1 g aS S ++ (vs_W1 g aT T ++ (vs_W0 g aK K ++ (vs_WO g o O ++ (vs_W3 g aM rM qM M ++ wr)))))) _ _ s := hW
  refine vs_aload_n hC hl 2 dL_law_473 rfl rfl ?_
  have hW : vs_Wd g A _ (vs_W3 g aM rM qM M ++ (vs_W2 h0 (aS 0) (aT 0) (aK 0) n0 V ++ (vs_W1 g aS S ++ (vs_W1 g aT T ++ (vs_W0 g aK K ++ (vs_WO g o O ++ wr)))))) _ _ s := vs_Wd.perm hW vs_p6
  refine vs_callVI [] hC hW 0 rfl rfl vk_X3_tenantCount vm_L_154 (c_X3_tenantCount l g aM rM qM (vs_W2 h0 (aS 0) (aT 0) (aK 0) n0 V ++ (vs_W1 g aS S ++ (vs_W1 g aT T ++ (vs_W0 g aK K ++ (vs_WO g o O ++ wr))))) M  _ hw) rfl hl.1 rfl ⟨rfl, rfl⟩ ⟨Nat.le_of_ble_eq_true rfl, Nat.le_of_ble_eq_true rfl⟩ ⟨show _ ≤ 603072 by omega, show _ ≤ 7207018 by omega⟩ (Nat.le_of_ble_eq_true rfl) dL_law_474 (fun r2 M3 H locs hw hW => ?_)
  have hW : vs_Wd g A _ (vs_W3 g aM rM qM M3 ++ (vs_W2 h0 (aS 0) (aT 0) (aK 0) n0 V ++ (vs_W1 g aS S ++ (vs_W1 g aT T ++ (vs_W0 g aK K ++ (vs_WO g o O ++ wr)))))) _ _ s := hW
  have hW : vs_Wd g A _ (vs_W2 h0 (aS 0) (aT 0) (aK 0) n0 V ++ (vs_W1 g aS S ++ (vs_W1 g aT T ++ (vs_W0 g aK K ++ (vs_WO g o O ++ (vs_W3 g aM rM qM M3 ++ wr)))))) _ _ s := vs_Wd.perm hW (List.Perm.symm vs_p6)
  obtain ⟨hx, hw⟩ := hw
  obtain ⟨hy, hw⟩ := hw
  obtain ⟨hwt, hwf⟩ := hw
  refine vs_icmp_eq hC 2295 hx hy dL_law_477 (by decide) (fun hc => ?_) (fun hc => ?_)
  · have hw := hwt hc
    clear hwt hwf hc
    exact kk V S T K O M3 _ _ _ _ _ (by omega) (by omega) hw hW (lv_sub hl [0, 1, 2, 3, 4, 5] rfl)
  · have hw := hwf hc
    clear hwt hwf hc
    refine vs_iconst hC dL_law_480 ?_
    exact hw.elim
set_option maxHeartbeats 4000000 in
set_option maxRecDepth 100000 in
theorem case_6 {p : Program} {l : Launch} {e : Env} {s : State} {m : MethodId} {args : Array Value} {below : List Frame} {meth : Method} {c : Code} {H : Heap} {locs : List Loc} {cells slots : Nat} {Q : State → Prop} {ls : Array Slot} {g : vs_G} {sd : Nat → Nat} {A : Nat → Prop} {h0 n0 o od b L : Nat} {aS aT aK aM rM qM : Nat → Nat} {wr : va_W} {V S T K O M : vs_St} {i p1 p2 p3 : Int} {xs : Nat → Int32} {post : vs_St → vs_St → vs_St → vs_St → vs_St → vs_St → Prop} (hst : l.stackTraces = false) (hC : CallFix p m c cL_law 9 s args vs_ws RL) (hX : vs_Xs g sd A s s.heap) (hScr : vs_Scr b L xs A s) (hi : 0 ≤ i ∧ i + 4 ≤ L ∧ L ≤ 2048) (hp1 : xs (i + 1).toNat = vs_I p1) (hp2 : xs (i + 2).toNat = vs_I p2) (hp3 : xs (i + 3).toNat = vs_I p3) (hcap : cells + 16 ≤ 603072 ∧ slots + 96 ≤ 7207018) (hW : vs_Wd g A s.heap (vs_W2 h0 (aS 0) (aT 0) (aK 0) n0 V ++ (vs_W1 g aS S ++ (vs_W1 g aT T ++ (vs_W0 g aK K ++ (vs_WO g o O ++ (vs_W3 g aM rM qM M ++ wr)))))) H locs s) (hl : lv_has ls 9 [(0, .ref b), (1, .ref h0), (2, .ref (aM 0)), (3, .ref o), (4, .ref od), (5, .int (vs_I i))])
    (hw : wcase_6 V S T K O M i p1 p2 p3 post) (kk : ∀ (V' S' T' K' O' M' : vs_St) (H : Heap) (locs : List Loc) (ls : Array Slot) (c2 s2 : Nat), c2 ≤ cells + 16 → s2 ≤ slots + 96 → post V' S' T' K' O' M' → vs_Wd g A s.heap (vs_W2 h0 (aS 0) (aT 0) (aK 0) n0 V' ++ (vs_W1 g aS S' ++ (vs_W1 g aT T' ++ (vs_W0 g aK K' ++ (vs_WO g o O' ++ (vs_W3 g aM rM qM M' ++ wr)))))) H locs s → lv_has ls 9 [(0, .ref b), (1, .ref h0), (2, .ref (aM 0)), (3, .ref o), (4, .ref od), (5, .int (vs_I i))] → W p l e room_1 s m args below meth c H locs c2 s2 Q (F0 m 2295 ls [])) :
    W p l e room_1 s m args below meth c H locs cells slots Q (F0 m 482 ls []) := by
  unfold wcase_6 at hw
  refine vs_aload_n hC hl 1 dL_law_482 rfl rfl ?_
  refine vs_aload_n hC hl 0 dL_law_483 rfl rfl ?_
  refine vs_iload hC hl 5 dL_law_484 rfl ?_
  refine vs_iconst hC dL_law_486 ?_
  refine vs_iadd hC dL_law_487 ?_
  refine vs_sld hC hW hScr (by omega) hp1 dL_law_488 ?_
  refine vs_aload_n hC hl 3 dL_law_489 rfl rfl ?_
  refine vs_callHI [.ref h0, .int (vs_I p1), .ref o] hC hW hX vk_L_setHurry vm_L_155 (c_L_setHurry l hst g sd h0 n0 o aS aT aK (vs_W3 g aM rM qM M ++ wr) V S T K O p1 _ hw) rfl hl.1 rfl ⟨rfl, rfl⟩ ⟨Nat.le_of_ble_eq_true rfl, Nat.le_of_ble_eq_true rfl⟩ ⟨show _ ≤ 603072 by omega, show _ ≤ 7207018 by omega⟩ (Nat.le_of_ble_eq_true rfl) dL_law_490 (fun r1 u H locs hw hW => ?_)
  obtain ⟨V2, O3⟩ := u
  have hW : vs_Wd g A _ (vs_W2 h0 (aS 0) (aT 0) (aK 0) n0 V2 ++ (vs_W1 g aS S ++ (vs_W1 g aT T ++ (vs_W0 g aK K ++ (vs_WO g o O3 ++ (vs_W3 g aM rM qM M ++ wr)))))) _ _ s := hW
  refine vs_istore (L' := [(0, .ref b), (1, .ref h0), (2, .ref (aM 0)), (3, .ref o), (4, .ref od), (5, .int (vs_I i)), (6, .int (vs_I r1))]) hC hl [1, 2, 3, 4, 5, 6, 0] dL_law_493 (by decide) rfl (fun ls hl => ?_)
  refine vs_aload_n hC hl 2 dL_law_495 rfl rfl ?_
  refine vs_aload_n hC hl 0 dL_law_496 rfl rfl ?_
  refine vs_iload hC hl 5 dL_law_497 rfl ?_
  refine vs_iconst hC dL_law_499 ?_
  refine vs_iadd hC dL_law_500 ?_
  refine vs_sld hC hW hScr (by omega) hp1 dL_law_501 ?_
  have hW : vs_Wd g A _ (vs_W3 g aM rM qM M ++ (vs_W2 h0 (aS 0) (aT 0) (aK 0) n0 V2 ++ (vs_W1 g aS S ++ (vs_W1 g aT T ++ (vs_W0 g aK K ++ (vs_WO g o O3 ++ wr)))))) _ _ s := vs_Wd.perm hW vs_p6
  refine vs_callVI [.int (vs_I p1)] hC hW 0 rfl rfl vk_X3_setHurry vm_L_157 (c_X3_setHurry l g aM rM qM (vs_W2 h0 (aS 0) (aT 0) (aK 0) n0 V2 ++ (vs_W1 g aS S ++ (vs_W1 g aT T ++ (vs_W0 g aK K ++ (vs_WO g o O3 ++ wr))))) M p1 _ hw) rfl hl.1 rfl ⟨rfl, rfl⟩ ⟨Nat.le_of_ble_eq_true rfl, Nat.le_of_ble_eq_true rfl⟩ ⟨show _ ≤ 603072 by omega, show _ ≤ 7207018 by omega⟩ (Nat.le_of_ble_eq_true rfl) dL_law_502 (fun r4 M5 H locs hw hW => ?_)
  have hW : vs_Wd g A _ (vs_W3 g aM rM qM M5 ++ (vs_W2 h0 (aS 0) (aT 0) (aK 0) n0 V2 ++ (vs_W1 g aS S ++ (vs_W1 g aT T ++ (vs_W0 g aK K ++ (vs_WO g o O3 ++ wr)))))) _ _ s := hW
  have hW : vs_Wd g A _ (vs_W2 h0 (aS 0) (aT 0) (aK 0) n0 V2 ++ (vs_W1 g aS S ++ (vs_W1 g aT T ++ (vs_W0 g aK K ++ (vs_WO g o O3 ++ (vs_W3 g aM rM qM M5 ++ wr)))))) _ _ s := vs_Wd.perm hW (List.Perm.symm vs_p6)
  refine vs_istore (L' := [(0, .ref b), (1, .ref h0), (2, .ref (aM 0)), (3, .ref o), (4, .ref od), (5, .int (vs_I i)), (6, .int (vs_I r1)), (7, .int (vs_I r4))]) hC hl [1, 2, 3, 4, 5, 6, 7, 0] dL_law_505 (by decide) rfl (fun ls hl => ?_)
  refine vs_aload_n hC hl 2 dL_law_507 rfl rfl ?_
  have hW : vs_Wd g A _ (vs_W3 g aM rM qM M5 ++ (vs_W2 h0 (aS 0) (aT 0) (aK 0) n0 V2 ++ (vs_W1 g aS S ++ (vs_W1 g aT T ++ (vs_W0 g aK K ++ (vs_WO g o O3 ++ wr)))))) _ _ s := vs_Wd.perm hW vs_p6
  refine vs_callVI [] hC hW 0 rfl rfl vk_X3_thrown vm_L_133 (c_X3_thrown l g aM rM qM (vs_W2 h0 (aS 0) (aT 0) (aK 0) n0 V2 ++ (vs_W1 g aS S ++ (vs_W1 g aT T ++ (vs_W0 g aK K ++ (vs_WO g o O3 ++ wr))))) M5  _ hw) rfl hl.1 rfl ⟨rfl, rfl⟩ ⟨Nat.le_of_ble_eq_true rfl, Nat.le_of_ble_eq_true rfl⟩ ⟨show _ ≤ 603072 by omega, show _ ≤ 7207018 by omega⟩ (Nat.le_of_ble_eq_true rfl) dL_law_508 (fun r6 _ H locs hw hW => ?_)
  have hW : vs_Wd g A _ (vs_W3 g aM rM qM M5 ++ (vs_W2 h0 (aS 0) (aT 0) (aK 0) n0 V2 ++ (vs_W1 g aS S ++ (vs_W1 g aT T ++ (vs_W0 g aK K ++ (vs_WO g o O3 ++ wr)))))) _ _ s := hW
  have hW : vs_Wd g A _ (vs_W2 h0 (aS 0) (aT 0) (aK 0) n0 V2 ++ (vs_W1 g aS S ++ (vs_W1 g aT T ++ (vs_W0 g aK K ++ (vs_WO g o O3 ++ (vs_W3 g aM rM qM M5 ++ wr)))))) _ _ s := vs_Wd.perm hW (List.Perm.symm vs_p6)
  refine vs_iload hC hl 6 dL_law_511 rfl ?_
  obtain ⟨hx, hw⟩ := hw
  obtain ⟨hy, hw⟩ := hw
  obtain ⟨hwt, hwf⟩ := hw
  refine vs_icmp_eq hC 518 hx hy dL_law_513 (by decide) (fun hc => ?_) (fun hc => ?_)
  · have hw := hwt hc
    clear hwt hwf hc
    refine vs_iload hC hl 6 dL_law_518 rfl ?_
    obtain ⟨hx, hw⟩ := hw
    obtain ⟨hwt, hwf⟩ := hw
    refine vs_if_ne hC 535 hx dL_law_520 (by decide) (fun hc => ?_) (fun hc => ?_)
    · have hw := hwt hc
      clear hwt hwf hc
      refine vs_goto hC 2295 dL_law_535 (by decide) ?_
      exact kk V2 S T K O3 M5 _ _ _ _ _ (by omega) (by omega) hw hW (lv_sub hl [0, 1, 2, 3, 4, 5] rfl)
    · have hw := hwf hc
      clear hwt hwf hc
      refine vs_aload_n hC hl 3 dL_law_523 rfl rfl ?_
      refine vs_iconst hC dL_law_524 ?_
      refine vs_lald hC hW 37 rfl dL_law_525 ?_
      refine vs_iload hC hl 7 dL_law_526 rfl ?_
      obtain ⟨hx, hw⟩ := hw
      refine vs_i2l hC hx dL_law_528 ?_
      obtain ⟨hx, hw⟩ := hw
      obtain ⟨hy, hw⟩ := hw
      refine vs_lcmp hC hx hy dL_law_529 ?_
      obtain ⟨hx, hw⟩ := hw
      obtain ⟨hwt, hwf⟩ := hw
      refine vs_if_eq hC 535 hx dL_law_530 (by decide) (fun hc => ?_) (fun hc => ?_)
      · have hw := hwt hc
        clear hwt hwf hc
        refine vs_goto hC 2295 dL_law_535 (by decide) ?_
        exact kk V2 S T K O3 M5 _ _ _ _ _ (by omega) (by omega) hw hW (lv_sub hl [0, 1, 2, 3, 4, 5] rfl)
      · have hw := hwf hc
        clear hwt hwf hc
        refine vs_iconst hC dL_law_533 ?_
        exact hw.elim
  · have hw := hwf hc
    clear hwt hwf hc
    refine vs_iconst hC dL_law_516 ?_
    exact hw.elim
set_option maxHeartbeats 4000000 in
set_option maxRecDepth 100000 in
theorem case_7 {p : Program} {l : Launch} {e : Env} {s : State} {m : MethodId} {args : Array Value} {below : List Frame} {meth : Method} {c : Code} {H : Heap} {locs : List Loc} {cells slots : Nat} {Q : State → Prop} {ls : Array Slot} {g : vs_G} {sd : Nat → Nat} {A : Nat → Prop} {h0 n0 o od b L : Nat} {aS aT aK aM rM qM : Nat → Nat} {wr : va_W} {V S T K O M : vs_St} {i p1 p2 p3 : Int} {xs : Nat → Int32} {post : vs_St → vs_St → vs_St → vs_St → vs_St → vs_St → Prop} (hst : l.stackTraces = false) (hC : CallFix p m c cL_law 9 s args vs_ws RL) (hX : vs_Xs g sd A s s.heap) (hScr : vs_Scr b L xs A s) (hi : 0 ≤ i ∧ i + 4 ≤ L ∧ L ≤ 2048) (hp1 : xs (i + 1).toNat = vs_I p1) (hp2 : xs (i + 2).toNat = vs_I p2) (hp3 : xs (i + 3).toNat = vs_I p3) (hcap : cells + 16 ≤ 603072 ∧ slots + 96 ≤ 7207018) (hW : vs_Wd g A s.heap (vs_W2 h0 (aS 0) (aT 0) (aK 0) n0 V ++ (vs_W1 g aS S ++ (vs_W1 g aT T ++ (vs_W0 g aK K ++ (vs_WO g o O ++ (vs_W3 g aM rM qM M ++ wr)))))) H locs s) (hl : lv_has ls 9 [(0, .ref b), (1, .ref h0), (2, .ref (aM 0)), (3, .ref o), (4, .ref od), (5, .int (vs_I i))])
    (hw : wcase_7 V S T K O M i p1 p2 p3 post) (kk : ∀ (V' S' T' K' O' M' : vs_St) (H : Heap) (locs : List Loc) (ls : Array Slot) (c2 s2 : Nat), c2 ≤ cells + 16 → s2 ≤ slots + 96 → post V' S' T' K' O' M' → vs_Wd g A s.heap (vs_W2 h0 (aS 0) (aT 0) (aK 0) n0 V' ++ (vs_W1 g aS S' ++ (vs_W1 g aT T' ++ (vs_W0 g aK K' ++ (vs_WO g o O' ++ (vs_W3 g aM rM qM M' ++ wr)))))) H locs s → lv_has ls 9 [(0, .ref b), (1, .ref h0), (2, .ref (aM 0)), (3, .ref o), (4, .ref od), (5, .int (vs_I i))] → W p l e room_1 s m args below meth c H locs c2 s2 Q (F0 m 2295 ls [])) :
    W p l e room_1 s m args below meth c H locs cells slots Q (F0 m 538 ls []) := by
  unfold wcase_7 at hw
  refine vs_aload_n hC hl 1 dL_law_538 rfl rfl ?_
  refine vs_aload_n hC hl 0 dL_law_539 rfl rfl ?_
  refine vs_iload hC hl 5 dL_law_540 rfl ?_
  refine vs_iconst hC dL_law_542 ?_
  refine vs_iadd hC dL_law_543 ?_
  refine vs_sld hC hW hScr (by omega) hp1 dL_law_544 ?_
  refine vs_aload_n hC hl 0 dL_law_545 rfl rfl ?_
  refine vs_iload hC hl 5 dL_law_546 rfl ?_
  refine vs_iconst hC dL_law_548 ?_
  refine vs_iadd hC dL_law_549 ?_
  refine vs_sld hC hW hScr (by omega) hp2 dL_law_550 ?_
  refine vs_aload_n hC hl 3 dL_law_551 rfl rfl ?_
  refine vs_callHI [.ref h0, .int (vs_I p1), .int (vs_I p2), .ref o] hC hW hX vk_L_read vm_L_158 (c_L_read l hst g sd h0 n0 o aS aT aK (vs_W3 g aM rM qM M ++ wr) V S T K O p1 p2 _ hw) rfl hl.1 rfl ⟨rfl, rfl⟩ ⟨Nat.le_of_ble_eq_true rfl, Nat.le_of_ble_eq_true rfl⟩ ⟨show _ ≤ 603072 by omega, show _ ≤ 7207018 by omega⟩ (Nat.le_of_ble_eq_true rfl) dL_law_552 (fun r1 u H locs hw hW => ?_)
  obtain ⟨K2, O3⟩ := u
  have hW : vs_Wd g A _ (vs_W2 h0 (aS 0) (aT 0) (aK 0) n0 V ++ (vs_W1 g aS S ++ (vs_W1 g aT T ++ (vs_W0 g aK K2 ++ (vs_WO g o O3 ++ (vs_W3 g aM rM qM M ++ wr)))))) _ _ s := hW
  refine vs_istore (L' := [(0, .ref b), (1, .ref h0), (2, .ref (aM 0)), (3, .ref o), (4, .ref od), (5, .int (vs_I i)), (6, .int (vs_I r1))]) hC hl [1, 2, 3, 4, 5, 6, 0] dL_law_555 (by decide) rfl (fun ls hl => ?_)
  refine vs_aload_n hC hl 2 dL_law_557 rfl rfl ?_
  refine vs_aload_n hC hl 0 dL_law_558 rfl rfl ?_
  refine vs_iload hC hl 5 dL_law_559 rfl ?_
  refine vs_iconst hC dL_law_561 ?_
  refine vs_iadd hC dL_law_562 ?_
  refine vs_sld hC hW hScr (by omega) hp1 dL_law_563 ?_
  refine vs_aload_n hC hl 0 dL_law_564 rfl rfl ?_
  refine vs_iload hC hl 5 dL_law_565 rfl ?_
  refine vs_iconst hC dL_law_567 ?_
  refine vs_iadd hC dL_law_568 ?_
  refine vs_sld hC hW hScr (by omega) hp2 dL_law_569 ?_
  have hW : vs_Wd g A _ (vs_W3 g aM rM qM M ++ (vs_W2 h0 (aS 0) (aT 0) (aK 0) n0 V ++ (vs_W1 g aS S ++ (vs_W1 g aT T ++ (vs_W0 g aK K2 ++ (vs_WO g o O3 ++ wr)))))) _ _ s := vs_Wd.perm hW vs_p6
  refine vs_callVI [.int (vs_I p1), .int (vs_I p2)] hC hW 0 rfl rfl vk_X3_read vm_L_160 (c_X3_read l g aM rM qM (vs_W2 h0 (aS 0) (aT 0) (aK 0) n0 V ++ (vs_W1 g aS S ++ (vs_W1 g aT T ++ (vs_W0 g aK K2 ++ (vs_WO g o O3 ++ wr))))) M p1 p2 _ hw) rfl hl.1 rfl ⟨rfl, rfl⟩ ⟨Nat.le_of_ble_eq_true rfl, Nat.le_of_ble_eq_true rfl⟩ ⟨show _ ≤ 603072 by omega, show _ ≤ 7207018 by omega⟩ (Nat.le_of_ble_eq_true rfl) dL_law_570 (fun r4 M5 H locs hw hW => ?_)
  have hW : vs_Wd g A _ (vs_W3 g aM rM qM M5 ++ (vs_W2 h0 (aS 0) (aT 0) (aK 0) n0 V ++ (vs_W1 g aS S ++ (vs_W1 g aT T ++ (vs_W0 g aK K2 ++ (vs_WO g o O3 ++ wr)))))) _ _ s := hW
  have hW : vs_Wd g A _ (vs_W2 h0 (aS 0) (aT 0) (aK 0) n0 V ++ (vs_W1 g aS S ++ (vs_W1 g aT T ++ (vs_W0 g aK K2 ++ (vs_WO g o O3 ++ (vs_W3 g aM rM qM M5 ++ wr)))))) _ _ s := vs_Wd.perm hW (List.Perm.symm vs_p6)
  refine vs_istore (L' := [(0, .ref b), (1, .ref h0), (2, .ref (aM 0)), (3, .ref o), (4, .ref od), (5, .int (vs_I i)), (6, .int (vs_I r1)), (7, .int (vs_I r4))]) hC hl [1, 2, 3, 4, 5, 6, 7, 0] dL_law_573 (by decide) rfl (fun ls hl => ?_)
  refine vs_aload_n hC hl 2 dL_law_575 rfl rfl ?_
  have hW : vs_Wd g A _ (vs_W3 g aM rM qM M5 ++ (vs_W2 h0 (aS 0) (aT 0) (aK 0) n0 V ++ (vs_W1 g aS S ++ (vs_W1 g aT T ++ (vs_W0 g aK K2 ++ (vs_WO g o O3 ++ wr)))))) _ _ s := vs_Wd.perm hW vs_p6
  refine vs_callVI [] hC hW 0 rfl rfl vk_X3_thrown vm_L_133 (c_X3_thrown l g aM rM qM (vs_W2 h0 (aS 0) (aT 0) (aK 0) n0 V ++ (vs_W1 g aS S ++ (vs_W1 g aT T ++ (vs_W0 g aK K2 ++ (vs_WO g o O3 ++ wr))))) M5  _ hw) rfl hl.1 rfl ⟨rfl, rfl⟩ ⟨Nat.le_of_ble_eq_true rfl, Nat.le_of_ble_eq_true rfl⟩ ⟨show _ ≤ 603072 by omega, show _ ≤ 7207018 by omega⟩ (Nat.le_of_ble_eq_true rfl) dL_law_576 (fun r6 _ H locs hw hW => ?_)
  have hW : vs_Wd g A _ (vs_W3 g aM rM qM M5 ++ (vs_W2 h0 (aS 0) (aT 0) (aK 0) n0 V ++ (vs_W1 g aS S ++ (vs_W1 g aT T ++ (vs_W0 g aK K2 ++ (vs_WO g o O3 ++ wr)))))) _ _ s := hW
  have hW : vs_Wd g A _ (vs_W2 h0 (aS 0) (aT 0) (aK 0) n0 V ++ (vs_W1 g aS S ++ (vs_W1 g aT T ++ (vs_W0 g aK K2 ++ (vs_WO g o O3 ++ (vs_W3 g aM rM qM M5 ++ wr)))))) _ _ s := vs_Wd.perm hW (List.Perm.symm vs_p6)
  refine vs_iload hC hl 6 dL_law_579 rfl ?_
  obtain ⟨hx, hw⟩ := hw
  obtain ⟨hy, hw⟩ := hw
  obtain ⟨hwt, hwf⟩ := hw
  refine vs_icmp_eq hC 586 hx hy dL_law_581 (by decide) (fun hc => ?_) (fun hc => ?_)
  · have hw := hwt hc
    clear hwt hwf hc
    refine vs_iload hC hl 6 dL_law_586 rfl ?_
    obtain ⟨hx, hw⟩ := hw
    obtain ⟨hwt, hwf⟩ := hw
    refine vs_if_ne hC 603 hx dL_law_588 (by decide) (fun hc => ?_) (fun hc => ?_)
    · have hw := hwt hc
      clear hwt hwf hc
      refine vs_goto hC 2295 dL_law_603 (by decide) ?_
      exact kk V S T K2 O3 M5 _ _ _ _ _ (by omega) (by omega) hw hW (lv_sub hl [0, 1, 2, 3, 4, 5] rfl)
    · have hw := hwf hc
      clear hwt hwf hc
      refine vs_aload_n hC hl 3 dL_law_591 rfl rfl ?_
      refine vs_iconst hC dL_law_592 ?_
      refine vs_lald hC hW 37 rfl dL_law_593 ?_
      refine vs_iload hC hl 7 dL_law_594 rfl ?_
      obtain ⟨hx, hw⟩ := hw
      refine vs_i2l hC hx dL_law_596 ?_
      obtain ⟨hx, hw⟩ := hw
      obtain ⟨hy, hw⟩ := hw
      refine vs_lcmp hC hx hy dL_law_597 ?_
      obtain ⟨hx, hw⟩ := hw
      obtain ⟨hwt, hwf⟩ := hw
      refine vs_if_eq hC 603 hx dL_law_598 (by decide) (fun hc => ?_) (fun hc => ?_)
      · have hw := hwt hc
        clear hwt hwf hc
        refine vs_goto hC 2295 dL_law_603 (by decide) ?_
        exact kk V S T K2 O3 M5 _ _ _ _ _ (by omega) (by omega) hw hW (lv_sub hl [0, 1, 2, 3, 4, 5] rfl)
      · have hw := hwf hc
        clear hwt hwf hc
        refine vs_iconst hC dL_law_601 ?_
        exact hw.elim
  · have hw := hwf hc
    clear hwt hwf hc
    refine vs_iconst hC dL_law_584 ?_
    exact hw.elim
set_option maxHeartbeats 4000000 in
set_option maxRecDepth 100000 in
theorem case_8 {p : Program} {l : Launch} {e : Env} {s : State} {m : MethodId} {args : Array Value} {below : List Frame} {meth : Method} {c : Code} {H : Heap} {locs : List Loc} {cells slots : Nat} {Q : State → Prop} {ls : Array Slot} {g : vs_G} {sd : Nat → Nat} {A : Nat → Prop} {h0 n0 o od b L : Nat} {aS aT aK aM rM qM : Nat → Nat} {wr : va_W} {V S T K O M : vs_St} {i p1 p2 p3 : Int} {xs : Nat → Int32} {post : vs_St → vs_St → vs_St → vs_St → vs_St → vs_St → Prop} (hst : l.stackTraces = false) (hC : CallFix p m c cL_law 9 s args vs_ws RL) (hX : vs_Xs g sd A s s.heap) (hScr : vs_Scr b L xs A s) (hi : 0 ≤ i ∧ i + 4 ≤ L ∧ L ≤ 2048) (hp1 : xs (i + 1).toNat = vs_I p1) (hp2 : xs (i + 2).toNat = vs_I p2) (hp3 : xs (i + 3).toNat = vs_I p3) (hcap : cells + 16 ≤ 603072 ∧ slots + 96 ≤ 7207018) (hW : vs_Wd g A s.heap (vs_W2 h0 (aS 0) (aT 0) (aK 0) n0 V ++ (vs_W1 g aS S ++ (vs_W1 g aT T ++ (vs_W0 g aK K ++ (vs_WO g o O ++ (vs_W3 g aM rM qM M ++ wr)))))) H locs s) (hl : lv_has ls 9 [(0, .ref b), (1, .ref h0), (2, .ref (aM 0)), (3, .ref o), (4, .ref od), (5, .int (vs_I i))])
    (hw : wcase_8 V S T K O M i p1 p2 p3 post) (kk : ∀ (V' S' T' K' O' M' : vs_St) (H : Heap) (locs : List Loc) (ls : Array Slot) (c2 s2 : Nat), c2 ≤ cells + 16 → s2 ≤ slots + 96 → post V' S' T' K' O' M' → vs_Wd g A s.heap (vs_W2 h0 (aS 0) (aT 0) (aK 0) n0 V' ++ (vs_W1 g aS S' ++ (vs_W1 g aT T' ++ (vs_W0 g aK K' ++ (vs_WO g o O' ++ (vs_W3 g aM rM qM M' ++ wr)))))) H locs s → lv_has ls 9 [(0, .ref b), (1, .ref h0), (2, .ref (aM 0)), (3, .ref o), (4, .ref od), (5, .int (vs_I i))] → W p l e room_1 s m args below meth c H locs c2 s2 Q (F0 m 2295 ls [])) :
    W p l e room_1 s m args below meth c H locs cells slots Q (F0 m 606 ls []) := by
  unfold wcase_8 at hw
  refine vs_aload_n hC hl 1 dL_law_606 rfl rfl ?_
  refine vs_aload_n hC hl 0 dL_law_607 rfl rfl ?_
  refine vs_iload hC hl 5 dL_law_608 rfl ?_
  refine vs_iconst hC dL_law_610 ?_
  refine vs_iadd hC dL_law_611 ?_
  refine vs_sld hC hW hScr (by omega) hp1 dL_law_612 ?_
  refine vs_aload_n hC hl 0 dL_law_613 rfl rfl ?_
  refine vs_iload hC hl 5 dL_law_614 rfl ?_
  refine vs_iconst hC dL_law_616 ?_
  refine vs_iadd hC dL_law_617 ?_
  refine vs_sld hC hW hScr (by omega) hp2 dL_law_618 ?_
  refine vs_aload_n hC hl 0 dL_law_619 rfl rfl ?_
  refine vs_iload hC hl 5 dL_law_620 rfl ?_
  refine vs_iconst hC dL_law_622 ?_
  refine vs_iadd hC dL_law_623 ?_
  refine vs_sld hC hW hScr (by omega) hp3 dL_law_624 ?_
  refine vs_aload_n hC hl 3 dL_law_625 rfl rfl ?_
  refine vs_callHI [.ref h0, .int (vs_I p1), .int (vs_I p2), .int (vs_I p3), .ref o] hC hW hX vk_L_write vm_L_161 (c_L_write l hst g sd h0 n0 o aS aT aK (vs_W3 g aM rM qM M ++ wr) V S T K O p1 p2 p3 _ hw) rfl hl.1 rfl ⟨rfl, rfl⟩ ⟨Nat.le_of_ble_eq_true rfl, Nat.le_of_ble_eq_true rfl⟩ ⟨show _ ≤ 603072 by omega, show _ ≤ 7207018 by omega⟩ (Nat.le_of_ble_eq_true rfl) dL_law_626 (fun r1 u H locs hw hW => ?_)
  obtain ⟨K2, O3⟩ := u
  have hW : vs_Wd g A _ (vs_W2 h0 (aS 0) (aT 0) (aK 0) n0 V ++ (vs_W1 g aS S ++ (vs_W1 g aT T ++ (vs_W0 g aK K2 ++ (vs_WO g o O3 ++ (vs_W3 g aM rM qM M ++ wr)))))) _ _ s := hW
  refine vs_istore (L' := [(0, .ref b), (1, .ref h0), (2, .ref (aM 0)), (3, .ref o), (4, .ref od), (5, .int (vs_I i)), (6, .int (vs_I r1))]) hC hl [1, 2, 3, 4, 5, 6, 0] dL_law_629 (by decide) rfl (fun ls hl => ?_)
  refine vs_aload_n hC hl 2 dL_law_631 rfl rfl ?_
  refine vs_aload_n hC hl 0 dL_law_632 rfl rfl ?_
  refine vs_iload hC hl 5 dL_law_633 rfl ?_
  refine vs_iconst hC dL_law_635 ?_
  refine vs_iadd hC dL_law_636 ?_
  refine vs_sld hC hW hScr (by omega) hp1 dL_law_637 ?_
  refine vs_aload_n hC hl 0 dL_law_638 rfl rfl ?_
  refine vs_iload hC hl 5 dL_law_639 rfl ?_
  refine vs_iconst hC dL_law_641 ?_
  refine vs_iadd hC dL_law_642 ?_
  refine vs_sld hC hW hScr (by omega) hp2 dL_law_643 ?_
  refine vs_aload_n hC hl 0 dL_law_644 rfl rfl ?_
  refine vs_iload hC hl 5 dL_law_645 rfl ?_
  refine vs_iconst hC dL_law_647 ?_
  refine vs_iadd hC dL_law_648 ?_
  refine vs_sld hC hW hScr (by omega) hp3 dL_law_649 ?_
  have hW : vs_Wd g A _ (vs_W3 g aM rM qM M ++ (vs_W2 h0 (aS 0) (aT 0) (aK 0) n0 V ++ (vs_W1 g aS S ++ (vs_W1 g aT T ++ (vs_W0 g aK K2 ++ (vs_WO g o O3 ++ wr)))))) _ _ s := vs_Wd.perm hW vs_p6
  refine vs_callVI [.int (vs_I p1), .int (vs_I p2), .int (vs_I p3)] hC hW 0 rfl rfl vk_X3_write vm_L_164 (c_X3_write l g aM rM qM (vs_W2 h0 (aS 0) (aT 0) (aK 0) n0 V ++ (vs_W1 g aS S ++ (vs_W1 g aT T ++ (vs_W0 g aK K2 ++ (vs_WO g o O3 ++ wr))))) M p1 p2 p3 _ hw) rfl hl.1 rfl ⟨rfl, rfl⟩ ⟨Nat.le_of_ble_eq_true rfl, Nat.le_of_ble_eq_true rfl⟩ ⟨show _ ≤ 603072 by omega, show _ ≤ 7207018 by omega⟩ (Nat.le_of_ble_eq_true rfl) dL_law_650 (fun r4 M5 H locs hw hW => ?_)
  have hW : vs_Wd g A _ (vs_W3 g aM rM qM M5 ++ (vs_W2 h0 (aS 0) (aT 0) (aK 0) n0 V ++ (vs_W1 g aS S ++ (vs_W1 g aT T ++ (vs_W0 g aK K2 ++ (vs_WO g o O3 ++ wr)))))) _ _ s := hW
  have hW : vs_Wd g A _ (vs_W2 h0 (aS 0) (aT 0) (aK 0) n0 V ++ (vs_W1 g aS S ++ (vs_W1 g aT T ++ (vs_W0 g aK K2 ++ (vs_WO g o O3 ++ (vs_W3 g aM rM qM M5 ++ wr)))))) _ _ s := vs_Wd.perm hW (List.Perm.symm vs_p6)
  refine vs_istore (L' := [(0, .ref b), (1, .ref h0), (2, .ref (aM 0)), (3, .ref o), (4, .ref od), (5, .int (vs_I i)), (6, .int (vs_I r1)), (7, .int (vs_I r4))]) hC hl [1, 2, 3, 4, 5, 6, 7, 0] dL_law_653 (by decide) rfl (fun ls hl => ?_)
  refine vs_aload_n hC hl 2 dL_law_655 rfl rfl ?_
  have hW : vs_Wd g A _ (vs_W3 g aM rM qM M5 ++ (vs_W2 h0 (aS 0) (aT 0) (aK 0) n0 V ++ (vs_W1 g aS S ++ (vs_W1 g aT T ++ (vs_W0 g aK K2 ++ (vs_WO g o O3 ++ wr)))))) _ _ s := vs_Wd.perm hW vs_p6
  refine vs_callVI [] hC hW 0 rfl rfl vk_X3_thrown vm_L_133 (c_X3_thrown l g aM rM qM (vs_W2 h0 (aS 0) (aT 0) (aK 0) n0 V ++ (vs_W1 g aS S ++ (vs_W1 g aT T ++ (vs_W0 g aK K2 ++ (vs_WO g o O3 ++ wr))))) M5  _ hw) rfl hl.1 rfl ⟨rfl, rfl⟩ ⟨Nat.le_of_ble_eq_true rfl, Nat.le_of_ble_eq_true rfl⟩ ⟨show _ ≤ 603072 by omega, show _ ≤ 7207018 by omega⟩ (Nat.le_of_ble_eq_true rfl) dL_law_656 (fun r6 _ H locs hw hW => ?_)
  have hW : vs_Wd g A _ (vs_W3 g aM rM qM M5 ++ (vs_W2 h0 (aS 0) (aT 0) (aK 0) n0 V ++ (vs_W1 g aS S ++ (vs_W1 g aT T ++ (vs_W0 g aK K2 ++ (vs_WO g o O3 ++ wr)))))) _ _ s := hW
  have hW : vs_Wd g A _ (vs_W2 h0 (aS 0) (aT 0) (aK 0) n0 V ++ (vs_W1 g aS S ++ (vs_W1 g aT T ++ (vs_W0 g aK K2 ++ (vs_WO g o O3 ++ (vs_W3 g aM rM qM M5 ++ wr)))))) _ _ s := vs_Wd.perm hW (List.Perm.symm vs_p6)
  refine vs_iload hC hl 6 dL_law_659 rfl ?_
  obtain ⟨hx, hw⟩ := hw
  obtain ⟨hy, hw⟩ := hw
  obtain ⟨hwt, hwf⟩ := hw
  refine vs_icmp_eq hC 666 hx hy dL_law_661 (by decide) (fun hc => ?_) (fun hc => ?_)
  · have hw := hwt hc
    clear hwt hwf hc
    refine vs_iload hC hl 6 dL_law_666 rfl ?_
    obtain ⟨hx, hw⟩ := hw
    obtain ⟨hwt, hwf⟩ := hw
    refine vs_if_ne hC 683 hx dL_law_668 (by decide) (fun hc => ?_) (fun hc => ?_)
    · have hw := hwt hc
      clear hwt hwf hc
      refine vs_goto hC 2295 dL_law_683 (by decide) ?_
      exact kk V S T K2 O3 M5 _ _ _ _ _ (by omega) (by omega) hw hW (lv_sub hl [0, 1, 2, 3, 4, 5] rfl)
    · have hw := hwf hc
      clear hwt hwf hc
      refine vs_aload_n hC hl 3 dL_law_671 rfl rfl ?_
      refine vs_iconst hC dL_law_672 ?_
      refine vs_lald hC hW 37 rfl dL_law_673 ?_
      refine vs_iload hC hl 7 dL_law_674 rfl ?_
      obtain ⟨hx, hw⟩ := hw
      refine vs_i2l hC hx dL_law_676 ?_
      obtain ⟨hx, hw⟩ := hw
      obtain ⟨hy, hw⟩ := hw
      refine vs_lcmp hC hx hy dL_law_677 ?_
      obtain ⟨hx, hw⟩ := hw
      obtain ⟨hwt, hwf⟩ := hw
      refine vs_if_eq hC 683 hx dL_law_678 (by decide) (fun hc => ?_) (fun hc => ?_)
      · have hw := hwt hc
        clear hwt hwf hc
        refine vs_goto hC 2295 dL_law_683 (by decide) ?_
        exact kk V S T K2 O3 M5 _ _ _ _ _ (by omega) (by omega) hw hW (lv_sub hl [0, 1, 2, 3, 4, 5] rfl)
      · have hw := hwf hc
        clear hwt hwf hc
        refine vs_iconst hC dL_law_681 ?_
        exact hw.elim
  · have hw := hwf hc
    clear hwt hwf hc
    refine vs_iconst hC dL_law_664 ?_
    exact hw.elim
set_option maxHeartbeats 4000000 in
set_option maxRecDepth 100000 in
theorem case_9 {p : Program} {l : Launch} {e : Env} {s : State} {m : MethodId} {args : Array Value} {below : List Frame} {meth : Method} {c : Code} {H : Heap} {locs : List Loc} {cells slots : Nat} {Q : State → Prop} {ls : Array Slot} {g : vs_G} {sd : Nat → Nat} {A : Nat → Prop} {h0 n0 o od b L : Nat} {aS aT aK aM rM qM : Nat → Nat} {wr : va_W} {V S T K O M : vs_St} {i p1 p2 p3 : Int} {xs : Nat → Int32} {post : vs_St → vs_St → vs_St → vs_St → vs_St → vs_St → Prop} (hst : l.stackTraces = false) (hC : CallFix p m c cL_law 9 s args vs_ws RL) (hX : vs_Xs g sd A s s.heap) (hScr : vs_Scr b L xs A s) (hi : 0 ≤ i ∧ i + 4 ≤ L ∧ L ≤ 2048) (hp1 : xs (i + 1).toNat = vs_I p1) (hp2 : xs (i + 2).toNat = vs_I p2) (hp3 : xs (i + 3).toNat = vs_I p3) (hcap : cells + 16 ≤ 603072 ∧ slots + 96 ≤ 7207018) (hW : vs_Wd g A s.heap (vs_W2 h0 (aS 0) (aT 0) (aK 0) n0 V ++ (vs_W1 g aS S ++ (vs_W1 g aT T ++ (vs_W0 g aK K ++ (vs_WO g o O ++ (vs_W3 g aM rM qM M ++ wr)))))) H locs s) (hl : lv_has ls 9 [(0, .ref b), (1, .ref h0), (2, .ref (aM 0)), (3, .ref o), (4, .ref od), (5, .int (vs_I i))])
    (hw : wcase_9 V S T K O M i p1 p2 p3 post) (kk : ∀ (V' S' T' K' O' M' : vs_St) (H : Heap) (locs : List Loc) (ls : Array Slot) (c2 s2 : Nat), c2 ≤ cells + 16 → s2 ≤ slots + 96 → post V' S' T' K' O' M' → vs_Wd g A s.heap (vs_W2 h0 (aS 0) (aT 0) (aK 0) n0 V' ++ (vs_W1 g aS S' ++ (vs_W1 g aT T' ++ (vs_W0 g aK K' ++ (vs_WO g o O' ++ (vs_W3 g aM rM qM M' ++ wr)))))) H locs s → lv_has ls 9 [(0, .ref b), (1, .ref h0), (2, .ref (aM 0)), (3, .ref o), (4, .ref od), (5, .int (vs_I i))] → W p l e room_1 s m args below meth c H locs c2 s2 Q (F0 m 2295 ls [])) :
    W p l e room_1 s m args below meth c H locs cells slots Q (F0 m 686 ls []) := by
  unfold wcase_9 at hw
  refine vs_aload_n hC hl 1 dL_law_686 rfl rfl ?_
  refine vs_aload_n hC hl 0 dL_law_687 rfl rfl ?_
  refine vs_iload hC hl 5 dL_law_688 rfl ?_
  refine vs_iconst hC dL_law_690 ?_
  refine vs_iadd hC dL_law_691 ?_
  refine vs_sld hC hW hScr (by omega) hp1 dL_law_692 ?_
  refine vs_aload_n hC hl 3 dL_law_693 rfl rfl ?_
  refine vs_callHI [.ref h0, .int (vs_I p1), .ref o] hC hW hX vk_L_stateOf vm_L_165 (c_L_stateOf l hst g sd h0 n0 o aS aT aK (vs_W3 g aM rM qM M ++ wr) V S T K O p1 _ hw) rfl hl.1 rfl ⟨rfl, rfl⟩ ⟨Nat.le_of_ble_eq_true rfl, Nat.le_of_ble_eq_true rfl⟩ ⟨show _ ≤ 603072 by omega, show _ ≤ 7207018 by omega⟩ (Nat.le_of_ble_eq_true rfl) dL_law_694 (fun r1 O2 H locs hw hW => ?_)
  have hW : vs_Wd g A _ (vs_W2 h0 (aS 0) (aT 0) (aK 0) n0 V ++ (vs_W1 g aS S ++ (vs_W1 g aT T ++ (vs_W0 g aK K ++ (vs_WO g o O2 ++ (vs_W3 g aM rM qM M ++ wr)))))) _ _ s := hW
  refine vs_istore (L' := [(0, .ref b), (1, .ref h0), (2, .ref (aM 0)), (3, .ref o), (4, .ref od), (5, .int (vs_I i)), (6, .int (vs_I r1))]) hC hl [1, 2, 3, 4, 5, 6, 0] dL_law_697 (by decide) rfl (fun ls hl => ?_)
  refine vs_aload_n hC hl 2 dL_law_699 rfl rfl ?_
  refine vs_aload_n hC hl 0 dL_law_700 rfl rfl ?_
  refine vs_iload hC hl 5 dL_law_701 rfl ?_
  refine vs_iconst hC dL_law_703 ?_
  refine vs_iadd hC dL_law_704 ?_
  refine vs_sld hC hW hScr (by omega) hp1 dL_law_705 ?_
  have hW : vs_Wd g A _ (vs_W3 g aM rM qM M ++ (vs_W2 h0 (aS 0) (aT 0) (aK 0) n0 V ++ (vs_W1 g aS S ++ (vs_W1 g aT T ++ (vs_W0 g aK K ++ (vs_WO g o O2 ++ wr)))))) _ _ s := vs_Wd.perm hW vs_p6
  refine vs_callVI [.int (vs_I p1)] hC hW 0 rfl rfl vk_X3_stateOf vm_L_167 (c_X3_stateOf l g aM rM qM (vs_W2 h0 (aS 0) (aT 0) (aK 0) n0 V ++ (vs_W1 g aS S ++ (vs_W1 g aT T ++ (vs_W0 g aK K ++ (vs_WO g o O2 ++ wr))))) M p1 _ hw) rfl hl.1 rfl ⟨rfl, rfl⟩ ⟨Nat.le_of_ble_eq_true rfl, Nat.le_of_ble_eq_true rfl⟩ ⟨show _ ≤ 603072 by omega, show _ ≤ 7207018 by omega⟩ (Nat.le_of_ble_eq_true rfl) dL_law_706 (fun r3 M4 H locs hw hW => ?_)
  have hW : vs_Wd g A _ (vs_W3 g aM rM qM M4 ++ (vs_W2 h0 (aS 0) (aT 0) (aK 0) n0 V ++ (vs_W1 g aS S ++ (vs_W1 g aT T ++ (vs_W0 g aK K ++ (vs_WO g o O2 ++ wr)))))) _ _ s := hW
  have hW : vs_Wd g A _ (vs_W2 h0 (aS 0) (aT 0) (aK 0) n0 V ++ (vs_W1 g aS S ++ (vs_W1 g aT T ++ (vs_W0 g aK K ++ (vs_WO g o O2 ++ (vs_W3 g aM rM qM M4 ++ wr)))))) _ _ s := vs_Wd.perm hW (List.Perm.symm vs_p6)
  refine vs_istore (L' := [(0, .ref b), (1, .ref h0), (2, .ref (aM 0)), (3, .ref o), (4, .ref od), (5, .int (vs_I i)), (6, .int (vs_I r1)), (7, .int (vs_I r3))]) hC hl [1, 2, 3, 4, 5, 6, 7, 0] dL_law_709 (by decide) rfl (fun ls hl => ?_)
  refine vs_aload_n hC hl 2 dL_law_711 rfl rfl ?_
  have hW : vs_Wd g A _ (vs_W3 g aM rM qM M4 ++ (vs_W2 h0 (aS 0) (aT 0) (aK 0) n0 V ++ (vs_W1 g aS S ++ (vs_W1 g aT T ++ (vs_W0 g aK K ++ (vs_WO g o O2 ++ wr)))))) _ _ s := vs_Wd.perm hW vs_p6
  refine vs_callVI [] hC hW 0 rfl rfl vk_X3_thrown vm_L_133 (c_X3_thrown l g aM rM qM (vs_W2 h0 (aS 0) (aT 0) (aK 0) n0 V ++ (vs_W1 g aS S ++ (vs_W1 g aT T ++ (vs_W0 g aK K ++ (vs_WO g o O2 ++ wr))))) M4  _ hw) rfl hl.1 rfl ⟨rfl, rfl⟩ ⟨Nat.le_of_ble_eq_true rfl, Nat.le_of_ble_eq_true rfl⟩ ⟨show _ ≤ 603072 by omega, show _ ≤ 7207018 by omega⟩ (Nat.le_of_ble_eq_true rfl) dL_law_712 (fun r5 _ H locs hw hW => ?_)
  have hW : vs_Wd g A _ (vs_W3 g aM rM qM M4 ++ (vs_W2 h0 (aS 0) (aT 0) (aK 0) n0 V ++ (vs_W1 g aS S ++ (vs_W1 g aT T ++ (vs_W0 g aK K ++ (vs_WO g o O2 ++ wr)))))) _ _ s := hW
  have hW : vs_Wd g A _ (vs_W2 h0 (aS 0) (aT 0) (aK 0) n0 V ++ (vs_W1 g aS S ++ (vs_W1 g aT T ++ (vs_W0 g aK K ++ (vs_WO g o O2 ++ (vs_W3 g aM rM qM M4 ++ wr)))))) _ _ s := vs_Wd.perm hW (List.Perm.symm vs_p6)
  refine vs_iload hC hl 6 dL_law_715 rfl ?_
  obtain ⟨hx, hw⟩ := hw
  obtain ⟨hy, hw⟩ := hw
  obtain ⟨hwt, hwf⟩ := hw
  refine vs_icmp_eq hC 722 hx hy dL_law_717 (by decide) (fun hc => ?_) (fun hc => ?_)
  · have hw := hwt hc
    clear hwt hwf hc
    refine vs_iload hC hl 6 dL_law_722 rfl ?_
    obtain ⟨hx, hw⟩ := hw
    obtain ⟨hwt, hwf⟩ := hw
    refine vs_if_ne hC 739 hx dL_law_724 (by decide) (fun hc => ?_) (fun hc => ?_)
    · have hw := hwt hc
      clear hwt hwf hc
      refine vs_goto hC 2295 dL_law_739 (by decide) ?_
      exact kk V S T K O2 M4 _ _ _ _ _ (by omega) (by omega) hw hW (lv_sub hl [0, 1, 2, 3, 4, 5] rfl)
    · have hw := hwf hc
      clear hwt hwf hc
      refine vs_aload_n hC hl 3 dL_law_727 rfl rfl ?_
      refine vs_iconst hC dL_law_728 ?_
      refine vs_lald hC hW 37 rfl dL_law_729 ?_
      refine vs_iload hC hl 7 dL_law_730 rfl ?_
      obtain ⟨hx, hw⟩ := hw
      refine vs_i2l hC hx dL_law_732 ?_
      obtain ⟨hx, hw⟩ := hw
      obtain ⟨hy, hw⟩ := hw
      refine vs_lcmp hC hx hy dL_law_733 ?_
      obtain ⟨hx, hw⟩ := hw
      obtain ⟨hwt, hwf⟩ := hw
      refine vs_if_eq hC 739 hx dL_law_734 (by decide) (fun hc => ?_) (fun hc => ?_)
      · have hw := hwt hc
        clear hwt hwf hc
        refine vs_goto hC 2295 dL_law_739 (by decide) ?_
        exact kk V S T K O2 M4 _ _ _ _ _ (by omega) (by omega) hw hW (lv_sub hl [0, 1, 2, 3, 4, 5] rfl)
      · have hw := hwf hc
        clear hwt hwf hc
        refine vs_iconst hC dL_law_737 ?_
        exact hw.elim
  · have hw := hwf hc
    clear hwt hwf hc
    refine vs_iconst hC dL_law_720 ?_
    exact hw.elim
set_option maxHeartbeats 4000000 in
set_option maxRecDepth 100000 in
theorem case_10 {p : Program} {l : Launch} {e : Env} {s : State} {m : MethodId} {args : Array Value} {below : List Frame} {meth : Method} {c : Code} {H : Heap} {locs : List Loc} {cells slots : Nat} {Q : State → Prop} {ls : Array Slot} {g : vs_G} {sd : Nat → Nat} {A : Nat → Prop} {h0 n0 o od b L : Nat} {aS aT aK aM rM qM : Nat → Nat} {wr : va_W} {V S T K O M : vs_St} {i p1 p2 p3 : Int} {xs : Nat → Int32} {post : vs_St → vs_St → vs_St → vs_St → vs_St → vs_St → Prop} (hst : l.stackTraces = false) (hC : CallFix p m c cL_law 9 s args vs_ws RL) (hX : vs_Xs g sd A s s.heap) (hScr : vs_Scr b L xs A s) (hi : 0 ≤ i ∧ i + 4 ≤ L ∧ L ≤ 2048) (hp1 : xs (i + 1).toNat = vs_I p1) (hp2 : xs (i + 2).toNat = vs_I p2) (hp3 : xs (i + 3).toNat = vs_I p3) (hcap : cells + 16 ≤ 603072 ∧ slots + 96 ≤ 7207018) (hW : vs_Wd g A s.heap (vs_W2 h0 (aS 0) (aT 0) (aK 0) n0 V ++ (vs_W1 g aS S ++ (vs_W1 g aT T ++ (vs_W0 g aK K ++ (vs_WO g o O ++ (vs_W3 g aM rM qM M ++ wr)))))) H locs s) (hl : lv_has ls 9 [(0, .ref b), (1, .ref h0), (2, .ref (aM 0)), (3, .ref o), (4, .ref od), (5, .int (vs_I i))])
    (hw : wcase_10 V S T K O M i p1 p2 p3 post) (kk : ∀ (V' S' T' K' O' M' : vs_St) (H : Heap) (locs : List Loc) (ls : Array Slot) (c2 s2 : Nat), c2 ≤ cells + 16 → s2 ≤ slots + 96 → post V' S' T' K' O' M' → vs_Wd g A s.heap (vs_W2 h0 (aS 0) (aT 0) (aK 0) n0 V' ++ (vs_W1 g aS S' ++ (vs_W1 g aT T' ++ (vs_W0 g aK K' ++ (vs_WO g o O' ++ (vs_W3 g aM rM qM M' ++ wr)))))) H locs s → lv_has ls 9 [(0, .ref b), (1, .ref h0), (2, .ref (aM 0)), (3, .ref o), (4, .ref od), (5, .int (vs_I i))] → W p l e room_1 s m args below meth c H locs c2 s2 Q (F0 m 2295 ls [])) :
    W p l e room_1 s m args below meth c H locs cells slots Q (F0 m 742 ls []) := by
  unfold wcase_10 at hw
  refine vs_aload_n hC hl 1 dL_law_742 rfl rfl ?_
  refine vs_aload_n hC hl 0 dL_law_743 rfl rfl ?_
  refine vs_iload hC hl 5 dL_law_744 rfl ?_
  refine vs_iconst hC dL_law_746 ?_
  refine vs_iadd hC dL_law_747 ?_
  refine vs_sld hC hW hScr (by omega) hp1 dL_law_748 ?_
  refine vs_aload_n hC hl 3 dL_law_749 rfl rfl ?_
  refine vs_callHI [.ref h0, .int (vs_I p1), .ref o] hC hW hX vk_L_answerTo vm_L_168 (c_L_answerTo l hst g sd h0 n0 o aS aT aK (vs_W3 g aM rM qM M ++ wr) V S T K O p1 _ hw) rfl hl.1 rfl ⟨rfl, rfl⟩ ⟨Nat.le_of_ble_eq_true rfl, Nat.le_of_ble_eq_true rfl⟩ ⟨show _ ≤ 603072 by omega, show _ ≤ 7207018 by omega⟩ (Nat.le_of_ble_eq_true rfl) dL_law_750 (fun r1 O2 H locs hw hW => ?_)
  have hW : vs_Wd g A _ (vs_W2 h0 (aS 0) (aT 0) (aK 0) n0 V ++ (vs_W1 g aS S ++ (vs_W1 g aT T ++ (vs_W0 g aK K ++ (vs_WO g o O2 ++ (vs_W3 g aM rM qM M ++ wr)))))) _ _ s := hW
  refine vs_istore (L' := [(0, .ref b), (1, .ref h0), (2, .ref (aM 0)), (3, .ref o), (4, .ref od), (5, .int (vs_I i)), (6, .int (vs_I r1))]) hC hl [1, 2, 3, 4, 5, 6, 0] dL_law_753 (by decide) rfl (fun ls hl => ?_)
  refine vs_aload_n hC hl 2 dL_law_755 rfl rfl ?_
  refine vs_aload_n hC hl 0 dL_law_756 rfl rfl ?_
  refine vs_iload hC hl 5 dL_law_757 rfl ?_
  refine vs_iconst hC dL_law_759 ?_
  refine vs_iadd hC dL_law_760 ?_
  refine vs_sld hC hW hScr (by omega) hp1 dL_law_761 ?_
  have hW : vs_Wd g A _ (vs_W3 g aM rM qM M ++ (vs_W2 h0 (aS 0) (aT 0) (aK 0) n0 V ++ (vs_W1 g aS S ++ (vs_W1 g aT T ++ (vs_W0 g aK K ++ (vs_WO g o O2 ++ wr)))))) _ _ s := vs_Wd.perm hW vs_p6
  refine vs_callVI [.int (vs_I p1)] hC hW 0 rfl rfl vk_X3_answerTo vm_L_170 (c_X3_answerTo l g aM rM qM (vs_W2 h0 (aS 0) (aT 0) (aK 0) n0 V ++ (vs_W1 g aS S ++ (vs_W1 g aT T ++ (vs_W0 g aK K ++ (vs_WO g o O2 ++ wr))))) M p1 _ hw) rfl hl.1 rfl ⟨rfl, rfl⟩ ⟨Nat.le_of_ble_eq_true rfl, Nat.le_of_ble_eq_true rfl⟩ ⟨show _ ≤ 603072 by omega, show _ ≤ 7207018 by omega⟩ (Nat.le_of_ble_eq_true rfl) dL_law_762 (fun r3 M4 H locs hw hW => ?_)
  have hW : vs_Wd g A _ (vs_W3 g aM rM qM M4 ++ (vs_W2 h0 (aS 0) (aT 0) (aK 0) n0 V ++ (vs_W1 g aS S ++ (vs_W1 g aT T ++ (vs_W0 g aK K ++ (vs_WO g o O2 ++ wr)))))) _ _ s := hW
  have hW : vs_Wd g A _ (vs_W2 h0 (aS 0) (aT 0) (aK 0) n0 V ++ (vs_W1 g aS S ++ (vs_W1 g aT T ++ (vs_W0 g aK K ++ (vs_WO g o O2 ++ (vs_W3 g aM rM qM M4 ++ wr)))))) _ _ s := vs_Wd.perm hW (List.Perm.symm vs_p6)
  refine vs_istore (L' := [(0, .ref b), (1, .ref h0), (2, .ref (aM 0)), (3, .ref o), (4, .ref od), (5, .int (vs_I i)), (6, .int (vs_I r1)), (7, .int (vs_I r3))]) hC hl [1, 2, 3, 4, 5, 6, 7, 0] dL_law_765 (by decide) rfl (fun ls hl => ?_)
  refine vs_aload_n hC hl 2 dL_law_767 rfl rfl ?_
  have hW : vs_Wd g A _ (vs_W3 g aM rM qM M4 ++ (vs_W2 h0 (aS 0) (aT 0) (aK 0) n0 V ++ (vs_W1 g aS S ++ (vs_W1 g aT T ++ (vs_W0 g aK K ++ (vs_WO g o O2 ++ wr)))))) _ _ s := vs_Wd.perm hW vs_p6
  refine vs_callVI [] hC hW 0 rfl rfl vk_X3_thrown vm_L_133 (c_X3_thrown l g aM rM qM (vs_W2 h0 (aS 0) (aT 0) (aK 0) n0 V ++ (vs_W1 g aS S ++ (vs_W1 g aT T ++ (vs_W0 g aK K ++ (vs_WO g o O2 ++ wr))))) M4  _ hw) rfl hl.1 rfl ⟨rfl, rfl⟩ ⟨Nat.le_of_ble_eq_true rfl, Nat.le_of_ble_eq_true rfl⟩ ⟨show _ ≤ 603072 by omega, show _ ≤ 7207018 by omega⟩ (Nat.le_of_ble_eq_true rfl) dL_law_768 (fun r5 _ H locs hw hW => ?_)
  have hW : vs_Wd g A _ (vs_W3 g aM rM qM M4 ++ (vs_W2 h0 (aS 0) (aT 0) (aK 0) n0 V ++ (vs_W1 g aS S ++ (vs_W1 g aT T ++ (vs_W0 g aK K ++ (vs_WO g o O2 ++ wr)))))) _ _ s := hW
  have hW : vs_Wd g A _ (vs_W2 h0 (aS 0) (aT 0) (aK 0) n0 V ++ (vs_W1 g aS S ++ (vs_W1 g aT T ++ (vs_W0 g aK K ++ (vs_WO g o O2 ++ (vs_W3 g aM rM qM M4 ++ wr)))))) _ _ s := vs_Wd.perm hW (List.Perm.symm vs_p6)
  refine vs_iload hC hl 6 dL_law_771 rfl ?_
  obtain ⟨hx, hw⟩ := hw
  obtain ⟨hy, hw⟩ := hw
  obtain ⟨hwt, hwf⟩ := hw
  refine vs_icmp_eq hC 778 hx hy dL_law_773 (by decide) (fun hc => ?_) (fun hc => ?_)
  · have hw := hwt hc
    clear hwt hwf hc
    refine vs_iload hC hl 6 dL_law_778 rfl ?_
    obtain ⟨hx, hw⟩ := hw
    obtain ⟨hwt, hwf⟩ := hw
    refine vs_if_ne hC 795 hx dL_law_780 (by decide) (fun hc => ?_) (fun hc => ?_)
    · have hw := hwt hc
      clear hwt hwf hc
      refine vs_goto hC 2295 dL_law_795 (by decide) ?_
      exact kk V S T K O2 M4 _ _ _ _ _ (by omega) (by omega) hw hW (lv_sub hl [0, 1, 2, 3, 4, 5] rfl)
    · have hw := hwf hc
      clear hwt hwf hc
      refine vs_aload_n hC hl 3 dL_law_783 rfl rfl ?_
      refine vs_iconst hC dL_law_784 ?_
      refine vs_lald hC hW 37 rfl dL_law_785 ?_
      refine vs_iload hC hl 7 dL_law_786 rfl ?_
      obtain ⟨hx, hw⟩ := hw
      refine vs_i2l hC hx dL_law_788 ?_
      obtain ⟨hx, hw⟩ := hw
      obtain ⟨hy, hw⟩ := hw
      refine vs_lcmp hC hx hy dL_law_789 ?_
      obtain ⟨hx, hw⟩ := hw
      obtain ⟨hwt, hwf⟩ := hw
      refine vs_if_eq hC 795 hx dL_law_790 (by decide) (fun hc => ?_) (fun hc => ?_)
      · have hw := hwt hc
        clear hwt hwf hc
        refine vs_goto hC 2295 dL_law_795 (by decide) ?_
        exact kk V S T K O2 M4 _ _ _ _ _ (by omega) (by omega) hw hW (lv_sub hl [0, 1, 2, 3, 4, 5] rfl)
      · have hw := hwf hc
        clear hwt hwf hc
        refine vs_iconst hC dL_law_793 ?_
        exact hw.elim
  · have hw := hwf hc
    clear hwt hwf hc
    refine vs_iconst hC dL_law_776 ?_
    exact hw.elim
set_option maxHeartbeats 4000000 in
set_option maxRecDepth 100000 in
theorem case_11 {p : Program} {l : Launch} {e : Env} {s : State} {m : MethodId} {args : Array Value} {below : List Frame} {meth : Method} {c : Code} {H : Heap} {locs : List Loc} {cells slots : Nat} {Q : State → Prop} {ls : Array Slot} {g : vs_G} {sd : Nat → Nat} {A : Nat → Prop} {h0 n0 o od b L : Nat} {aS aT aK aM rM qM : Nat → Nat} {wr : va_W} {V S T K O M : vs_St} {i p1 p2 p3 : Int} {xs : Nat → Int32} {post : vs_St → vs_St → vs_St → vs_St → vs_St → vs_St → Prop} (hst : l.stackTraces = false) (hC : CallFix p m c cL_law 9 s args vs_ws RL) (hX : vs_Xs g sd A s s.heap) (hScr : vs_Scr b L xs A s) (hi : 0 ≤ i ∧ i + 4 ≤ L ∧ L ≤ 2048) (hp1 : xs (i + 1).toNat = vs_I p1) (hp2 : xs (i + 2).toNat = vs_I p2) (hp3 : xs (i + 3).toNat = vs_I p3) (hcap : cells + 16 ≤ 603072 ∧ slots + 96 ≤ 7207018) (hW : vs_Wd g A s.heap (vs_W2 h0 (aS 0) (aT 0) (aK 0) n0 V ++ (vs_W1 g aS S ++ (vs_W1 g aT T ++ (vs_W0 g aK K ++ (vs_WO g o O ++ (vs_W3 g aM rM qM M ++ wr)))))) H locs s) (hl : lv_has ls 9 [(0, .ref b), (1, .ref h0), (2, .ref (aM 0)), (3, .ref o), (4, .ref od), (5, .int (vs_I i))])
    (hw : wcase_11 V S T K O M i p1 p2 p3 post) (kk : ∀ (V' S' T' K' O' M' : vs_St) (H : Heap) (locs : List Loc) (ls : Array Slot) (c2 s2 : Nat), c2 ≤ cells + 16 → s2 ≤ slots + 96 → post V' S' T' K' O' M' → vs_Wd g A s.heap (vs_W2 h0 (aS 0) (aT 0) (aK 0) n0 V' ++ (vs_W1 g aS S' ++ (vs_W1 g aT T' ++ (vs_W0 g aK K' ++ (vs_WO g o O' ++ (vs_W3 g aM rM qM M' ++ wr)))))) H locs s → lv_has ls 9 [(0, .ref b), (1, .ref h0), (2, .ref (aM 0)), (3, .ref o), (4, .ref od), (5, .int (vs_I i))] → W p l e room_1 s m args below meth c H locs c2 s2 Q (F0 m 2295 ls [])) :
    W p l e room_1 s m args below meth c H locs cells slots Q (F0 m 798 ls []) := by
  unfold wcase_11 at hw
  refine vs_aload_n hC hl 1 dL_law_798 rfl rfl ?_
  refine vs_aload_n hC hl 0 dL_law_799 rfl rfl ?_
  refine vs_iload hC hl 5 dL_law_800 rfl ?_
  refine vs_iconst hC dL_law_802 ?_
  refine vs_iadd hC dL_law_803 ?_
  refine vs_sld hC hW hScr (by omega) hp1 dL_law_804 ?_
  refine vs_aload_n hC hl 3 dL_law_805 rfl rfl ?_
  refine vs_callHI [.ref h0, .int (vs_I p1), .ref o] hC hW hX vk_L_waitingOf vm_L_171 (c_L_waitingOf l hst g sd h0 n0 o aS aT aK (vs_W3 g aM rM qM M ++ wr) V S T K O p1 _ hw) rfl hl.1 rfl ⟨rfl, rfl⟩ ⟨Nat.le_of_ble_eq_true rfl, Nat.le_of_ble_eq_true rfl⟩ ⟨show _ ≤ 603072 by omega, show _ ≤ 7207018 by omega⟩ (Nat.le_of_ble_eq_true rfl) dL_law_806 (fun r1 O2 H locs hw hW => ?_)
  have hW : vs_Wd g A _ (vs_W2 h0 (aS 0) (aT 0) (aK 0) n0 V ++ (vs_W1 g aS S ++ (vs_W1 g aT T ++ (vs_W0 g aK K ++ (vs_WO g o O2 ++ (vs_W3 g aM rM qM M ++ wr)))))) _ _ s := hW
  refine vs_istore (L' := [(0, .ref b), (1, .ref h0), (2, .ref (aM 0)), (3, .ref o), (4, .ref od), (5, .int (vs_I i)), (6, .int (vs_I r1))]) hC hl [1, 2, 3, 4, 5, 6, 0] dL_law_809 (by decide) rfl (fun ls hl => ?_)
  refine vs_aload_n hC hl 2 dL_law_811 rfl rfl ?_
  refine vs_aload_n hC hl 0 dL_law_812 rfl rfl ?_
  refine vs_iload hC hl 5 dL_law_813 rfl ?_
  refine vs_iconst hC dL_law_815 ?_
  refine vs_iadd hC dL_law_816 ?_
  refine vs_sld hC hW hScr (by omega) hp1 dL_law_817 ?_
  have hW : vs_Wd g A _ (vs_W3 g aM rM qM M ++ (vs_W2 h0 (aS 0) (aT 0) (aK 0) n0 V ++ (vs_W1 g aS S ++ (vs_W1 g aT T ++ (vs_W0 g aK K ++ (vs_WO g o O2 ++ wr)))))) _ _ s := vs_Wd.perm hW vs_p6
  refine vs_callVI [.int (vs_I p1)] hC hW 0 rfl rfl vk_X3_waitingOf vm_L_173 (c_X3_waitingOf l g aM rM qM (vs_W2 h0 (aS 0) (aT 0) (aK 0) n0 V ++ (vs_W1 g aS S ++ (vs_W1 g aT T ++ (vs_W0 g aK K ++ (vs_WO g o O2 ++ wr))))) M p1 _ hw) rfl hl.1 rfl ⟨rfl, rfl⟩ ⟨Nat.le_of_ble_eq_true rfl, Nat.le_of_ble_eq_true rfl⟩ ⟨show _ ≤ 603072 by omega, show _ ≤ 7207018 by omega⟩ (Nat.le_of_ble_eq_true rfl) dL_law_818 (fun r3 M4 H locs hw hW => ?_)
  have hW : vs_Wd g A _ (vs_W3 g aM rM qM M4 ++ (vs_W2 h0 (aS 0) (aT 0) (aK 0) n0 V ++ (vs_W1 g aS S ++ (vs_W1 g aT T ++ (vs_W0 g aK K ++ (vs_WO g o O2 ++ wr)))))) _ _ s := hW
  have hW : vs_Wd g A _ (vs_W2 h0 (aS 0) (aT 0) (aK 0) n0 V ++ (vs_W1 g aS S ++ (vs_W1 g aT T ++ (vs_W0 g aK K ++ (vs_WO g o O2 ++ (vs_W3 g aM rM qM M4 ++ wr)))))) _ _ s := vs_Wd.perm hW (List.Perm.symm vs_p6)
  refine vs_istore (L' := [(0, .ref b), (1, .ref h0), (2, .ref (aM 0)), (3, .ref o), (4, .ref od), (5, .int (vs_I i)), (6, .int (vs_I r1)), (7, .int (vs_I r3))]) hC hl [1, 2, 3, 4, 5, 6, 7, 0] dL_law_821 (by decide) rfl (fun ls hl => ?_)
  refine vs_aload_n hC hl 2 dL_law_823 rfl rfl ?_
  have hW : vs_Wd g A _ (vs_W3 g aM rM qM M4 ++ (vs_W2 h0 (aS 0) (aT 0) (aK 0) n0 V ++ (vs_W1 g aS S ++ (vs_W1 g aT T ++ (vs_W0 g aK K ++ (vs_WO g o O2 ++ wr)))))) _ _ s := vs_Wd.perm hW vs_p6
  refine vs_callVI [] hC hW 0 rfl rfl vk_X3_thrown vm_L_133 (c_X3_thrown l g aM rM qM (vs_W2 h0 (aS 0) (aT 0) (aK 0) n0 V ++ (vs_W1 g aS S ++ (vs_W1 g aT T ++ (vs_W0 g aK K ++ (vs_WO g o O2 ++ wr))))) M4  _ hw) rfl hl.1 rfl ⟨rfl, rfl⟩ ⟨Nat.le_of_ble_eq_true rfl, Nat.le_of_ble_eq_true rfl⟩ ⟨show _ ≤ 603072 by omega, show _ ≤ 7207018 by omega⟩ (Nat.le_of_ble_eq_true rfl) dL_law_824 (fun r5 _ H locs hw hW => ?_)
  have hW : vs_Wd g A _ (vs_W3 g aM rM qM M4 ++ (vs_W2 h0 (aS 0) (aT 0) (aK 0) n0 V ++ (vs_W1 g aS S ++ (vs_W1 g aT T ++ (vs_W0 g aK K ++ (vs_WO g o O2 ++ wr)))))) _ _ s := hW
  have hW : vs_Wd g A _ (vs_W2 h0 (aS 0) (aT 0) (aK 0) n0 V ++ (vs_W1 g aS S ++ (vs_W1 g aT T ++ (vs_W0 g aK K ++ (vs_WO g o O2 ++ (vs_W3 g aM rM qM M4 ++ wr)))))) _ _ s := vs_Wd.perm hW (List.Perm.symm vs_p6)
  refine vs_iload hC hl 6 dL_law_827 rfl ?_
  obtain ⟨hx, hw⟩ := hw
  obtain ⟨hy, hw⟩ := hw
  obtain ⟨hwt, hwf⟩ := hw
  refine vs_icmp_eq hC 834 hx hy dL_law_829 (by decide) (fun hc => ?_) (fun hc => ?_)
  · have hw := hwt hc
    clear hwt hwf hc
    refine vs_iload hC hl 6 dL_law_834 rfl ?_
    obtain ⟨hx, hw⟩ := hw
    obtain ⟨hwt, hwf⟩ := hw
    refine vs_if_ne hC 851 hx dL_law_836 (by decide) (fun hc => ?_) (fun hc => ?_)
    · have hw := hwt hc
      clear hwt hwf hc
      refine vs_goto hC 2295 dL_law_851 (by decide) ?_
      exact kk V S T K O2 M4 _ _ _ _ _ (by omega) (by omega) hw hW (lv_sub hl [0, 1, 2, 3, 4, 5] rfl)
    · have hw := hwf hc
      clear hwt hwf hc
      refine vs_aload_n hC hl 3 dL_law_839 rfl rfl ?_
      refine vs_iconst hC dL_law_840 ?_
      refine vs_lald hC hW 37 rfl dL_law_841 ?_
      refine vs_iload hC hl 7 dL_law_842 rfl ?_
      obtain ⟨hx, hw⟩ := hw
      refine vs_i2l hC hx dL_law_844 ?_
      obtain ⟨hx, hw⟩ := hw
      obtain ⟨hy, hw⟩ := hw
      refine vs_lcmp hC hx hy dL_law_845 ?_
      obtain ⟨hx, hw⟩ := hw
      obtain ⟨hwt, hwf⟩ := hw
      refine vs_if_eq hC 851 hx dL_law_846 (by decide) (fun hc => ?_) (fun hc => ?_)
      · have hw := hwt hc
        clear hwt hwf hc
        refine vs_goto hC 2295 dL_law_851 (by decide) ?_
        exact kk V S T K O2 M4 _ _ _ _ _ (by omega) (by omega) hw hW (lv_sub hl [0, 1, 2, 3, 4, 5] rfl)
      · have hw := hwf hc
        clear hwt hwf hc
        refine vs_iconst hC dL_law_849 ?_
        exact hw.elim
  · have hw := hwf hc
    clear hwt hwf hc
    refine vs_iconst hC dL_law_832 ?_
    exact hw.elim
set_option maxHeartbeats 4000000 in
set_option maxRecDepth 100000 in
theorem case_12 {p : Program} {l : Launch} {e : Env} {s : State} {m : MethodId} {args : Array Value} {below : List Frame} {meth : Method} {c : Code} {H : Heap} {locs : List Loc} {cells slots : Nat} {Q : State → Prop} {ls : Array Slot} {g : vs_G} {sd : Nat → Nat} {A : Nat → Prop} {h0 n0 o od b L : Nat} {aS aT aK aM rM qM : Nat → Nat} {wr : va_W} {V S T K O M : vs_St} {i p1 p2 p3 : Int} {xs : Nat → Int32} {post : vs_St → vs_St → vs_St → vs_St → vs_St → vs_St → Prop} (hst : l.stackTraces = false) (hC : CallFix p m c cL_law 9 s args vs_ws RL) (hX : vs_Xs g sd A s s.heap) (hScr : vs_Scr b L xs A s) (hi : 0 ≤ i ∧ i + 4 ≤ L ∧ L ≤ 2048) (hp1 : xs (i + 1).toNat = vs_I p1) (hp2 : xs (i + 2).toNat = vs_I p2) (hp3 : xs (i + 3).toNat = vs_I p3) (hcap : cells + 16 ≤ 603072 ∧ slots + 96 ≤ 7207018) (hW : vs_Wd g A s.heap (vs_W2 h0 (aS 0) (aT 0) (aK 0) n0 V ++ (vs_W1 g aS S ++ (vs_W1 g aT T ++ (vs_W0 g aK K ++ (vs_WO g o O ++ (vs_W3 g aM rM qM M ++ wr)))))) H locs s) (hl : lv_has ls 9 [(0, .ref b), (1, .ref h0), (2, .ref (aM 0)), (3, .ref o), (4, .ref od), (5, .int (vs_I i))])
    (hw : wcase_12 V S T K O M i p1 p2 p3 post) (kk : ∀ (V' S' T' K' O' M' : vs_St) (H : Heap) (locs : List Loc) (ls : Array Slot) (c2 s2 : Nat), c2 ≤ cells + 16 → s2 ≤ slots + 96 → post V' S' T' K' O' M' → vs_Wd g A s.heap (vs_W2 h0 (aS 0) (aT 0) (aK 0) n0 V' ++ (vs_W1 g aS S' ++ (vs_W1 g aT T' ++ (vs_W0 g aK K' ++ (vs_WO g o O' ++ (vs_W3 g aM rM qM M' ++ wr)))))) H locs s → lv_has ls 9 [(0, .ref b), (1, .ref h0), (2, .ref (aM 0)), (3, .ref o), (4, .ref od), (5, .int (vs_I i))] → W p l e room_1 s m args below meth c H locs c2 s2 Q (F0 m 2295 ls [])) :
    W p l e room_1 s m args below meth c H locs cells slots Q (F0 m 854 ls []) := by
  unfold wcase_12 at hw
  refine vs_aload_n hC hl 1 dL_law_854 rfl rfl ?_
  refine vs_aload_n hC hl 0 dL_law_855 rfl rfl ?_
  refine vs_iload hC hl 5 dL_law_856 rfl ?_
  refine vs_iconst hC dL_law_858 ?_
  refine vs_iadd hC dL_law_859 ?_
  refine vs_sld hC hW hScr (by omega) hp1 dL_law_860 ?_
  refine vs_aload_n hC hl 3 dL_law_861 rfl rfl ?_
  refine vs_callHI [.ref h0, .int (vs_I p1), .ref o] hC hW hX vk_L_servedOf vm_L_174 (c_L_servedOf l hst g sd h0 n0 o aS aT aK (vs_W3 g aM rM qM M ++ wr) V S T K O p1 _ hw) rfl hl.1 rfl ⟨rfl, rfl⟩ ⟨Nat.le_of_ble_eq_true rfl, Nat.le_of_ble_eq_true rfl⟩ ⟨show _ ≤ 603072 by omega, show _ ≤ 7207018 by omega⟩ (Nat.le_of_ble_eq_true rfl) dL_law_862 (fun r1 O2 H locs hw hW => ?_)
  have hW : vs_Wd g A _ (vs_W2 h0 (aS 0) (aT 0) (aK 0) n0 V ++ (vs_W1 g aS S ++ (vs_W1 g aT T ++ (vs_W0 g aK K ++ (vs_WO g o O2 ++ (vs_W3 g aM rM qM M ++ wr)))))) _ _ s := hW
  refine vs_istore (L' := [(0, .ref b), (1, .ref h0), (2, .ref (aM 0)), (3, .ref o), (4, .ref od), (5, .int (vs_I i)), (6, .int (vs_I r1))]) hC hl [1, 2, 3, 4, 5, 6, 0] dL_law_865 (by decide) rfl (fun ls hl => ?_)
  refine vs_aload_n hC hl 2 dL_law_867 rfl rfl ?_
  refine vs_aload_n hC hl 0 dL_law_868 rfl rfl ?_
  refine vs_iload hC hl 5 dL_law_869 rfl ?_
  refine vs_iconst hC dL_law_871 ?_
  refine vs_iadd hC dL_law_872 ?_
  refine vs_sld hC hW hScr (by omega) hp1 dL_law_873 ?_
  have hW : vs_Wd g A _ (vs_W3 g aM rM qM M ++ (vs_W2 h0 (aS 0) (aT 0) (aK 0) n0 V ++ (vs_W1 g aS S ++ (vs_W1 g aT T ++ (vs_W0 g aK K ++ (vs_WO g o O2 ++ wr)))))) _ _ s := vs_Wd.perm hW vs_p6
  refine vs_callVI [.int (vs_I p1)] hC hW 0 rfl rfl vk_X3_servedOf vm_L_176 (c_X3_servedOf l g aM rM qM (vs_W2 h0 (aS 0) (aT 0) (aK 0) n0 V ++ (vs_W1 g aS S ++ (vs_W1 g aT T ++ (vs_W0 g aK K ++ (vs_WO g o O2 ++ wr))))) M p1 _ hw) rfl hl.1 rfl ⟨rfl, rfl⟩ ⟨Nat.le_of_ble_eq_true rfl, Nat.le_of_ble_eq_true rfl⟩ ⟨show _ ≤ 603072 by omega, show _ ≤ 7207018 by omega⟩ (Nat.le_of_ble_eq_true rfl) dL_law_874 (fun r3 M4 H locs hw hW => ?_)
  have hW : vs_Wd g A _ (vs_W3 g aM rM qM M4 ++ (vs_W2 h0 (aS 0) (aT 0) (aK 0) n0 V ++ (vs_W1 g aS S ++ (vs_W1 g aT T ++ (vs_W0 g aK K ++ (vs_WO g o O2 ++ wr)))))) _ _ s := hW
  have hW : vs_Wd g A _ (vs_W2 h0 (aS 0) (aT 0) (aK 0) n0 V ++ (vs_W1 g aS S ++ (vs_W1 g aT T ++ (vs_W0 g aK K ++ (vs_WO g o O2 ++ (vs_W3 g aM rM qM M4 ++ wr)))))) _ _ s := vs_Wd.perm hW (List.Perm.symm vs_p6)
  refine vs_istore (L' := [(0, .ref b), (1, .ref h0), (2, .ref (aM 0)), (3, .ref o), (4, .ref od), (5, .int (vs_I i)), (6, .int (vs_I r1)), (7, .int (vs_I r3))]) hC hl [1, 2, 3, 4, 5, 6, 7, 0] dL_law_877 (by decide) rfl (fun ls hl => ?_)
  refine vs_aload_n hC hl 2 dL_law_879 rfl rfl ?_
  have hW : vs_Wd g A _ (vs_W3 g aM rM qM M4 ++ (vs_W2 h0 (aS 0) (aT 0) (aK 0) n0 V ++ (vs_W1 g aS S ++ (vs_W1 g aT T ++ (vs_W0 g aK K ++ (vs_WO g o O2 ++ wr)))))) _ _ s := vs_Wd.perm hW vs_p6
  refine vs_callVI [] hC hW 0 rfl rfl vk_X3_thrown vm_L_133 (c_X3_thrown l g aM rM qM (vs_W2 h0 (aS 0) (aT 0) (aK 0) n0 V ++ (vs_W1 g aS S ++ (vs_W1 g aT T ++ (vs_W0 g aK K ++ (vs_WO g o O2 ++ wr))))) M4  _ hw) rfl hl.1 rfl ⟨rfl, rfl⟩ ⟨Nat.le_of_ble_eq_true rfl, Nat.le_of_ble_eq_true rfl⟩ ⟨show _ ≤ 603072 by omega, show _ ≤ 7207018 by omega⟩ (Nat.le_of_ble_eq_true rfl) dL_law_880 (fun r5 _ H locs hw hW => ?_)
  have hW : vs_Wd g A _ (vs_W3 g aM rM qM M4 ++ (vs_W2 h0 (aS 0) (aT 0) (aK 0) n0 V ++ (vs_W1 g aS S ++ (vs_W1 g aT T ++ (vs_W0 g aK K ++ (vs_WO g o O2 ++ wr)))))) _ _ s := hW
  have hW : vs_Wd g A _ (vs_W2 h0 (aS 0) (aT 0) (aK 0) n0 V ++ (vs_W1 g aS S ++ (vs_W1 g aT T ++ (vs_W0 g aK K ++ (vs_WO g o O2 ++ (vs_W3 g aM rM qM M4 ++ wr)))))) _ _ s := vs_Wd.perm hW (List.Perm.symm vs_p6)
  refine vs_iload hC hl 6 dL_law_883 rfl ?_
  obtain ⟨hx, hw⟩ := hw
  obtain ⟨hy, hw⟩ := hw
  obtain ⟨hwt, hwf⟩ := hw
  refine vs_icmp_eq hC 890 hx hy dL_law_885 (by decide) (fun hc => ?_) (fun hc => ?_)
  · have hw := hwt hc
    clear hwt hwf hc
    refine vs_iload hC hl 6 dL_law_890 rfl ?_
    obtain ⟨hx, hw⟩ := hw
    obtain ⟨hwt, hwf⟩ := hw
    refine vs_if_ne hC 907 hx dL_law_892 (by decide) (fun hc => ?_) (fun hc => ?_)
    · have hw := hwt hc
      clear hwt hwf hc
      refine vs_goto hC 2295 dL_law_907 (by decide) ?_
      exact kk V S T K O2 M4 _ _ _ _ _ (by omega) (by omega) hw hW (lv_sub hl [0, 1, 2, 3, 4, 5] rfl)
    · have hw := hwf hc
      clear hwt hwf hc
      refine vs_aload_n hC hl 3 dL_law_895 rfl rfl ?_
      refine vs_iconst hC dL_law_896 ?_
      refine vs_lald hC hW 37 rfl dL_law_897 ?_
      refine vs_iload hC hl 7 dL_law_898 rfl ?_
      obtain ⟨hx, hw⟩ := hw
      refine vs_i2l hC hx dL_law_900 ?_
      obtain ⟨hx, hw⟩ := hw
      obtain ⟨hy, hw⟩ := hw
      refine vs_lcmp hC hx hy dL_law_901 ?_
      obtain ⟨hx, hw⟩ := hw
      obtain ⟨hwt, hwf⟩ := hw
      refine vs_if_eq hC 907 hx dL_law_902 (by decide) (fun hc => ?_) (fun hc => ?_)
      · have hw := hwt hc
        clear hwt hwf hc
        refine vs_goto hC 2295 dL_law_907 (by decide) ?_
        exact kk V S T K O2 M4 _ _ _ _ _ (by omega) (by omega) hw hW (lv_sub hl [0, 1, 2, 3, 4, 5] rfl)
      · have hw := hwf hc
        clear hwt hwf hc
        refine vs_iconst hC dL_law_905 ?_
        exact hw.elim
  · have hw := hwf hc
    clear hwt hwf hc
    refine vs_iconst hC dL_law_888 ?_
    exact hw.elim
set_option maxHeartbeats 4000000 in
set_option maxRecDepth 100000 in
theorem case_13 {p : Program} {l : Launch} {e : Env} {s : State} {m : MethodId} {args : Array Value} {below : List Frame} {meth : Method} {c : Code} {H : Heap} {locs : List Loc} {cells slots : Nat} {Q : State → Prop} {ls : Array Slot} {g : vs_G} {sd : Nat → Nat} {A : Nat → Prop} {h0 n0 o od b L : Nat} {aS aT aK aM rM qM : Nat → Nat} {wr : va_W} {V S T K O M : vs_St} {i p1 p2 p3 : Int} {xs : Nat → Int32} {post : vs_St → vs_St → vs_St → vs_St → vs_St → vs_St → Prop} (hst : l.stackTraces = false) (hC : CallFix p m c cL_law 9 s args vs_ws RL) (hX : vs_Xs g sd A s s.heap) (hScr : vs_Scr b L xs A s) (hi : 0 ≤ i ∧ i + 4 ≤ L ∧ L ≤ 2048) (hp1 : xs (i + 1).toNat = vs_I p1) (hp2 : xs (i + 2).toNat = vs_I p2) (hp3 : xs (i + 3).toNat = vs_I p3) (hcap : cells + 16 ≤ 603072 ∧ slots + 96 ≤ 7207018) (hW : vs_Wd g A s.heap (vs_W2 h0 (aS 0) (aT 0) (aK 0) n0 V ++ (vs_W1 g aS S ++ (vs_W1 g aT T ++ (vs_W0 g aK K ++ (vs_WO g o O ++ (vs_W3 g aM rM qM M ++ wr)))))) H locs s) (hl : lv_has ls 9 [(0, .ref b), (1, .ref h0), (2, .ref (aM 0)), (3, .ref o), (4, .ref od), (5, .int (vs_I i))])
    (hw : wcase_13 V S T K O M i p1 p2 p3 post) (kk : ∀ (V' S' T' K' O' M' : vs_St) (H : Heap) (locs : List Loc) (ls : Array Slot) (c2 s2 : Nat), c2 ≤ cells + 16 → s2 ≤ slots + 96 → post V' S' T' K' O' M' → vs_Wd g A s.heap (vs_W2 h0 (aS 0) (aT 0) (aK 0) n0 V' ++ (vs_W1 g aS S' ++ (vs_W1 g aT T' ++ (vs_W0 g aK K' ++ (vs_WO g o O' ++ (vs_W3 g aM rM qM M' ++ wr)))))) H locs s → lv_has ls 9 [(0, .ref b), (1, .ref h0), (2, .ref (aM 0)), (3, .ref o), (4, .ref od), (5, .int (vs_I i))] → W p l e room_1 s m args below meth c H locs c2 s2 Q (F0 m 2295 ls [])) :
    W p l e room_1 s m args below meth c H locs cells slots Q (F0 m 910 ls []) := by
  unfold wcase_13 at hw
  refine vs_aload_n hC hl 1 dL_law_910 rfl rfl ?_
  refine vs_aload_n hC hl 0 dL_law_911 rfl rfl ?_
  refine vs_iload hC hl 5 dL_law_912 rfl ?_
  refine vs_iconst hC dL_law_914 ?_
  refine vs_iadd hC dL_law_915 ?_
  refine vs_sld hC hW hScr (by omega) hp1 dL_law_916 ?_
  refine vs_aload_n hC hl 3 dL_law_917 rfl rfl ?_
  refine vs_callHI [.ref h0, .int (vs_I p1), .ref o] hC hW hX vk_L_creditsOf vm_L_177 (c_L_creditsOf l hst g sd h0 n0 o aS aT aK (vs_W3 g aM rM qM M ++ wr) V S T K O p1 _ hw) rfl hl.1 rfl ⟨rfl, rfl⟩ ⟨Nat.le_of_ble_eq_true rfl, Nat.le_of_ble_eq_true rfl⟩ ⟨show _ ≤ 603072 by omega, show _ ≤ 7207018 by omega⟩ (Nat.le_of_ble_eq_true rfl) dL_law_918 (fun r1 O2 H locs hw hW => ?_)
  have hW : vs_Wd g A _ (vs_W2 h0 (aS 0) (aT 0) (aK 0) n0 V ++ (vs_W1 g aS S ++ (vs_W1 g aT T ++ (vs_W0 g aK K ++ (vs_WO g o O2 ++ (vs_W3 g aM rM qM M ++ wr)))))) _ _ s := hW
  refine vs_istore (L' := [(0, .ref b), (1, .ref h0), (2, .ref (aM 0)), (3, .ref o), (4, .ref od), (5, .int (vs_I i)), (6, .int (vs_I r1))]) hC hl [1, 2, 3, 4, 5, 6, 0] dL_law_921 (by decide) rfl (fun ls hl => ?_)
  refine vs_aload_n hC hl 2 dL_law_923 rfl rfl ?_
  refine vs_aload_n hC hl 0 dL_law_924 rfl rfl ?_
  refine vs_iload hC hl 5 dL_law_925 rfl ?_
  refine vs_iconst hC dL_law_927 ?_
  refine vs_iadd hC dL_law_928 ?_
  refine vs_sld hC hW hScr (by omega) hp1 dL_law_929 ?_
  have hW : vs_Wd g A _ (vs_W3 g aM rM qM M ++ (vs_W2 h0 (aS 0) (aT 0) (aK 0) n0 V ++ (vs_W1 g aS S ++ (vs_W1 g aT T ++ (vs_W0 g aK K ++ (vs_WO g o O2 ++ wr)))))) _ _ s := vs_Wd.perm hW vs_p6
  refine vs_callVI [.int (vs_I p1)] hC hW 0 rfl rfl vk_X3_creditsOf vm_L_179 (c_X3_creditsOf l g aM rM qM (vs_W2 h0 (aS 0) (aT 0) (aK 0) n0 V ++ (vs_W1 g aS S ++ (vs_W1 g aT T ++ (vs_W0 g aK K ++ (vs_WO g o O2 ++ wr))))) M p1 _ hw) rfl hl.1 rfl ⟨rfl, rfl⟩ ⟨Nat.le_of_ble_eq_true rfl, Nat.le_of_ble_eq_true rfl⟩ ⟨show _ ≤ 603072 by omega, show _ ≤ 7207018 by omega⟩ (Nat.le_of_ble_eq_true rfl) dL_law_930 (fun r3 M4 H locs hw hW => ?_)
  have hW : vs_Wd g A _ (vs_W3 g aM rM qM M4 ++ (vs_W2 h0 (aS 0) (aT 0) (aK 0) n0 V ++ (vs_W1 g aS S ++ (vs_W1 g aT T ++ (vs_W0 g aK K ++ (vs_WO g o O2 ++ wr)))))) _ _ s := hW
  have hW : vs_Wd g A _ (vs_W2 h0 (aS 0) (aT 0) (aK 0) n0 V ++ (vs_W1 g aS S ++ (vs_W1 g aT T ++ (vs_W0 g aK K ++ (vs_WO g o O2 ++ (vs_W3 g aM rM qM M4 ++ wr)))))) _ _ s := vs_Wd.perm hW (List.Perm.symm vs_p6)
  refine vs_istore (L' := [(0, .ref b), (1, .ref h0), (2, .ref (aM 0)), (3, .ref o), (4, .ref od), (5, .int (vs_I i)), (6, .int (vs_I r1)), (7, .int (vs_I r3))]) hC hl [1, 2, 3, 4, 5, 6, 7, 0] dL_law_933 (by decide) rfl (fun ls hl => ?_)
  refine vs_aload_n hC hl 2 dL_law_935 rfl rfl ?_
  have hW : vs_Wd g A _ (vs_W3 g aM rM qM M4 ++ (vs_W2 h0 (aS 0) (aT 0) (aK 0) n0 V ++ (vs_W1 g aS S ++ (vs_W1 g aT T ++ (vs_W0 g aK K ++ (vs_WO g o O2 ++ wr)))))) _ _ s := vs_Wd.perm hW vs_p6
  refine vs_callVI [] hC hW 0 rfl rfl vk_X3_thrown vm_L_133 (c_X3_thrown l g aM rM qM (vs_W2 h0 (aS 0) (aT 0) (aK 0) n0 V ++ (vs_W1 g aS S ++ (vs_W1 g aT T ++ (vs_W0 g aK K ++ (vs_WO g o O2 ++ wr))))) M4  _ hw) rfl hl.1 rfl ⟨rfl, rfl⟩ ⟨Nat.le_of_ble_eq_true rfl, Nat.le_of_ble_eq_true rfl⟩ ⟨show _ ≤ 603072 by omega, show _ ≤ 7207018 by omega⟩ (Nat.le_of_ble_eq_true rfl) dL_law_936 (fun r5 _ H locs hw hW => ?_)
  have hW : vs_Wd g A _ (vs_W3 g aM rM qM M4 ++ (vs_W2 h0 (aS 0) (aT 0) (aK 0) n0 V ++ (vs_W1 g aS S ++ (vs_W1 g aT T ++ (vs_W0 g aK K ++ (vs_WO g o O2 ++ wr)))))) _ _ s := hW
  have hW : vs_Wd g A _ (vs_W2 h0 (aS 0) (aT 0) (aK 0) n0 V ++ (vs_W1 g aS S ++ (vs_W1 g aT T ++ (vs_W0 g aK K ++ (vs_WO g o O2 ++ (vs_W3 g aM rM qM M4 ++ wr)))))) _ _ s := vs_Wd.perm hW (List.Perm.symm vs_p6)
  refine vs_iload hC hl 6 dL_law_939 rfl ?_
  obtain ⟨hx, hw⟩ := hw
  obtain ⟨hy, hw⟩ := hw
  obtain ⟨hwt, hwf⟩ := hw
  refine vs_icmp_eq hC 946 hx hy dL_law_941 (by decide) (fun hc => ?_) (fun hc => ?_)
  · have hw := hwt hc
    clear hwt hwf hc
    refine vs_iload hC hl 6 dL_law_946 rfl ?_
    obtain ⟨hx, hw⟩ := hw
    obtain ⟨hwt, hwf⟩ := hw
    refine vs_if_ne hC 963 hx dL_law_948 (by decide) (fun hc => ?_) (fun hc => ?_)
    · have hw := hwt hc
      clear hwt hwf hc
      refine vs_goto hC 2295 dL_law_963 (by decide) ?_
      exact kk V S T K O2 M4 _ _ _ _ _ (by omega) (by omega) hw hW (lv_sub hl [0, 1, 2, 3, 4, 5] rfl)
    · have hw := hwf hc
      clear hwt hwf hc
      refine vs_aload_n hC hl 3 dL_law_951 rfl rfl ?_
      refine vs_iconst hC dL_law_952 ?_
      refine vs_lald hC hW 37 rfl dL_law_953 ?_
      refine vs_iload hC hl 7 dL_law_954 rfl ?_
      obtain ⟨hx, hw⟩ := hw
      refine vs_i2l hC hx dL_law_956 ?_
      obtain ⟨hx, hw⟩ := hw
      obtain ⟨hy, hw⟩ := hw
      refine vs_lcmp hC hx hy dL_law_957 ?_
      obtain ⟨hx, hw⟩ := hw
      obtain ⟨hwt, hwf⟩ := hw
      refine vs_if_eq hC 963 hx dL_law_958 (by decide) (fun hc => ?_) (fun hc => ?_)
      · have hw := hwt hc
        clear hwt hwf hc
        refine vs_goto hC 2295 dL_law_963 (by decide) ?_
        exact kk V S T K O2 M4 _ _ _ _ _ (by omega) (by omega) hw hW (lv_sub hl [0, 1, 2, 3, 4, 5] rfl)
      · have hw := hwf hc
        clear hwt hwf hc
        refine vs_iconst hC dL_law_961 ?_
        exact hw.elim
  · have hw := hwf hc
    clear hwt hwf hc
    refine vs_iconst hC dL_law_944 ?_
    exact hw.elim
set_option maxHeartbeats 4000000 in
set_option maxRecDepth 100000 in
theorem case_14 {p : Program} {l : Launch} {e : Env} {s : State} {m : MethodId} {args : Array Value} {below : List Frame} {meth : Method} {c : Code} {H : Heap} {locs : List Loc} {cells slots : Nat} {Q : State → Prop} {ls : Array Slot} {g : vs_G} {sd : Nat → Nat} {A : Nat → Prop} {h0 n0 o od b L : Nat} {aS aT aK aM rM qM : Nat → Nat} {wr : va_W} {V S T K O M : vs_St} {i p1 p2 p3 : Int} {xs : Nat → Int32} {post : vs_St → vs_St → vs_St → vs_St → vs_St → vs_St → Prop} (hst : l.stackTraces = false) (hC : CallFix p m c cL_law 9 s args vs_ws RL) (hX : vs_Xs g sd A s s.heap) (hScr : vs_Scr b L xs A s) (hi : 0 ≤ i ∧ i + 4 ≤ L ∧ L ≤ 2048) (hp1 : xs (i + 1).toNat = vs_I p1) (hp2 : xs (i + 2).toNat = vs_I p2) (hp3 : xs (i + 3).toNat = vs_I p3) (hcap : cells + 16 ≤ 603072 ∧ slots + 96 ≤ 7207018) (hW : vs_Wd g A s.heap (vs_W2 h0 (aS 0) (aT 0) (aK 0) n0 V ++ (vs_W1 g aS S ++ (vs_W1 g aT T ++ (vs_W0 g aK K ++ (vs_WO g o O ++ (vs_W3 g aM rM qM M ++ wr)))))) H locs s) (hl : lv_has ls 9 [(0, .ref b), (1, .ref h0), (2, .ref (aM 0)), (3, .ref o), (4, .ref od), (5, .int (vs_I i))])
    (hw : wcase_14 V S T K O M i p1 p2 p3 post) (kk : ∀ (V' S' T' K' O' M' : vs_St) (H : Heap) (locs : List Loc) (ls : Array Slot) (c2 s2 : Nat), c2 ≤ cells + 16 → s2 ≤ slots + 96 → post V' S' T' K' O' M' → vs_Wd g A s.heap (vs_W2 h0 (aS 0) (aT 0) (aK 0) n0 V' ++ (vs_W1 g aS S' ++ (vs_W1 g aT T' ++ (vs_W0 g aK K' ++ (vs_WO g o O' ++ (vs_W3 g aM rM qM M' ++ wr)))))) H locs s → lv_has ls 9 [(0, .ref b), (1, .ref h0), (2, .ref (aM 0)), (3, .ref o), (4, .ref od), (5, .int (vs_I i))] → W p l e room_1 s m args below meth c H locs c2 s2 Q (F0 m 2295 ls [])) :
    W p l e room_1 s m args below meth c H locs cells slots Q (F0 m 966 ls []) := by
  unfold wcase_14 at hw
  refine vs_aload_n hC hl 1 dL_law_966 rfl rfl ?_
  refine vs_aload_n hC hl 0 dL_law_967 rfl rfl ?_
  refine vs_iload hC hl 5 dL_law_968 rfl ?_
  refine vs_iconst hC dL_law_970 ?_
  refine vs_iadd hC dL_law_971 ?_
  refine vs_sld hC hW hScr (by omega) hp1 dL_law_972 ?_
  refine vs_aload_n hC hl 3 dL_law_973 rfl rfl ?_
  refine vs_callHI [.ref h0, .int (vs_I p1), .ref o] hC hW hX vk_L_breachesOf vm_L_180 (c_L_breachesOf l hst g sd h0 n0 o aS aT aK (vs_W3 g aM rM qM M ++ wr) V S T K O p1 _ hw) rfl hl.1 rfl ⟨rfl, rfl⟩ ⟨Nat.le_of_ble_eq_true rfl, Nat.le_of_ble_eq_true rfl⟩ ⟨show _ ≤ 603072 by omega, show _ ≤ 7207018 by omega⟩ (Nat.le_of_ble_eq_true rfl) dL_law_974 (fun r1 O2 H locs hw hW => ?_)
  have hW : vs_Wd g A _ (vs_W2 h0 (aS 0) (aT 0) (aK 0) n0 V ++ (vs_W1 g aS S ++ (vs_W1 g aT T ++ (vs_W0 g aK K ++ (vs_WO g o O2 ++ (vs_W3 g aM rM qM M ++ wr)))))) _ _ s := hW
  refine vs_istore (L' := [(0, .ref b), (1, .ref h0), (2, .ref (aM 0)), (3, .ref o), (4, .ref od), (5, .int (vs_I i)), (6, .int (vs_I r1))]) hC hl [1, 2, 3, 4, 5, 6, 0] dL_law_977 (by decide) rfl (fun ls hl => ?_)
  refine vs_aload_n hC hl 2 dL_law_979 rfl rfl ?_
  refine vs_aload_n hC hl 0 dL_law_980 rfl rfl ?_
  refine vs_iload hC hl 5 dL_law_981 rfl ?_
  refine vs_iconst hC dL_law_983 ?_
  refine vs_iadd hC dL_law_984 ?_
  refine vs_sld hC hW hScr (by omega) hp1 dL_law_985 ?_
  have hW : vs_Wd g A _ (vs_W3 g aM rM qM M ++ (vs_W2 h0 (aS 0) (aT 0) (aK 0) n0 V ++ (vs_W1 g aS S ++ (vs_W1 g aT T ++ (vs_W0 g aK K ++ (vs_WO g o O2 ++ wr)))))) _ _ s := vs_Wd.perm hW vs_p6
  refine vs_callVI [.int (vs_I p1)] hC hW 0 rfl rfl vk_X3_breachesOf vm_L_182 (c_X3_breachesOf l g aM rM qM (vs_W2 h0 (aS 0) (aT 0) (aK 0) n0 V ++ (vs_W1 g aS S ++ (vs_W1 g aT T ++ (vs_W0 g aK K ++ (vs_WO g o O2 ++ wr))))) M p1 _ hw) rfl hl.1 rfl ⟨rfl, rfl⟩ ⟨Nat.le_of_ble_eq_true rfl, Nat.le_of_ble_eq_true rfl⟩ ⟨show _ ≤ 603072 by omega, show _ ≤ 7207018 by omega⟩ (Nat.le_of_ble_eq_true rfl) dL_law_986 (fun r3 M4 H locs hw hW => ?_)
  have hW : vs_Wd g A _ (vs_W3 g aM rM qM M4 ++ (vs_W2 h0 (aS 0) (aT 0) (aK 0) n0 V ++ (vs_W1 g aS S ++ (vs_W1 g aT T ++ (vs_W0 g aK K ++ (vs_WO g o O2 ++ wr)))))) _ _ s := hW
  have hW : vs_Wd g A _ (vs_W2 h0 (aS 0) (aT 0) (aK 0) n0 V ++ (vs_W1 g aS S ++ (vs_W1 g aT T ++ (vs_W0 g aK K ++ (vs_WO g o O2 ++ (vs_W3 g aM rM qM M4 ++ wr)))))) _ _ s := vs_Wd.perm hW (List.Perm.symm vs_p6)
  refine vs_istore (L' := [(0, .ref b), (1, .ref h0), (2, .ref (aM 0)), (3, .ref o), (4, .ref od), (5, .int (vs_I i)), (6, .int (vs_I r1)), (7, .int (vs_I r3))]) hC hl [1, 2, 3, 4, 5, 6, 7, 0] dL_law_989 (by decide) rfl (fun ls hl => ?_)
  refine vs_aload_n hC hl 2 dL_law_991 rfl rfl ?_
  have hW : vs_Wd g A _ (vs_W3 g aM rM qM M4 ++ (vs_W2 h0 (aS 0) (aT 0) (aK 0) n0 V ++ (vs_W1 g aS S ++ (vs_W1 g aT T ++ (vs_W0 g aK K ++ (vs_WO g o O2 ++ wr)))))) _ _ s := vs_Wd.perm hW vs_p6
  refine vs_callVI [] hC hW 0 rfl rfl vk_X3_thrown vm_L_133 (c_X3_thrown l g aM rM qM (vs_W2 h0 (aS 0) (aT 0) (aK 0) n0 V ++ (vs_W1 g aS S ++ (vs_W1 g aT T ++ (vs_W0 g aK K ++ (vs_WO g o O2 ++ wr))))) M4  _ hw) rfl hl.1 rfl ⟨rfl, rfl⟩ ⟨Nat.le_of_ble_eq_true rfl, Nat.le_of_ble_eq_true rfl⟩ ⟨show _ ≤ 603072 by omega, show _ ≤ 7207018 by omega⟩ (Nat.le_of_ble_eq_true rfl) dL_law_992 (fun r5 _ H locs hw hW => ?_)
  have hW : vs_Wd g A _ (vs_W3 g aM rM qM M4 ++ (vs_W2 h0 (aS 0) (aT 0) (aK 0) n0 V ++ (vs_W1 g aS S ++ (vs_W1 g aT T ++ (vs_W0 g aK K ++ (vs_WO g o O2 ++ wr)))))) _ _ s := hW
  have hW : vs_Wd g A _ (vs_W2 h0 (aS 0) (aT 0) (aK 0) n0 V ++ (vs_W1 g aS S ++ (vs_W1 g aT T ++ (vs_W0 g aK K ++ (vs_WO g o O2 ++ (vs_W3 g aM rM qM M4 ++ wr)))))) _ _ s := vs_Wd.perm hW (List.Perm.symm vs_p6)
  refine vs_iload hC hl 6 dL_law_995 rfl ?_
  obtain ⟨hx, hw⟩ := hw
  obtain ⟨hy, hw⟩ := hw
  obtain ⟨hwt, hwf⟩ := hw
  refine vs_icmp_eq hC 1002 hx hy dL_law_997 (by decide) (fun hc => ?_) (fun hc => ?_)
  · have hw := hwt hc
    clear hwt hwf hc
    refine vs_iload hC hl 6 dL_law_1002 rfl ?_
    obtain ⟨hx, hw⟩ := hw
    obtain ⟨hwt, hwf⟩ := hw
    refine vs_if_ne hC 1019 hx dL_law_1004 (by decide) (fun hc => ?_) (fun hc => ?_)
    · have hw := hwt hc
      clear hwt hwf hc
      refine vs_goto hC 2295 dL_law_1019 (by decide) ?_
      exact kk V S T K O2 M4 _ _ _ _ _ (by omega) (by omega) hw hW (lv_sub hl [0, 1, 2, 3, 4, 5] rfl)
    · have hw := hwf hc
      clear hwt hwf hc
      refine vs_aload_n hC hl 3 dL_law_1007 rfl rfl ?_
      refine vs_iconst hC dL_law_1008 ?_
      refine vs_lald hC hW 37 rfl dL_law_1009 ?_
      refine vs_iload hC hl 7 dL_law_1010 rfl ?_
      obtain ⟨hx, hw⟩ := hw
      refine vs_i2l hC hx dL_law_1012 ?_
      obtain ⟨hx, hw⟩ := hw
      obtain ⟨hy, hw⟩ := hw
      refine vs_lcmp hC hx hy dL_law_1013 ?_
      obtain ⟨hx, hw⟩ := hw
      obtain ⟨hwt, hwf⟩ := hw
      refine vs_if_eq hC 1019 hx dL_law_1014 (by decide) (fun hc => ?_) (fun hc => ?_)
      · have hw := hwt hc
        clear hwt hwf hc
        refine vs_goto hC 2295 dL_law_1019 (by decide) ?_
        exact kk V S T K O2 M4 _ _ _ _ _ (by omega) (by omega) hw hW (lv_sub hl [0, 1, 2, 3, 4, 5] rfl)
      · have hw := hwf hc
        clear hwt hwf hc
        refine vs_iconst hC dL_law_1017 ?_
        exact hw.elim
  · have hw := hwf hc
    clear hwt hwf hc
    refine vs_iconst hC dL_law_1000 ?_
    exact hw.elim
set_option maxHeartbeats 4000000 in
set_option maxRecDepth 100000 in
theorem case_15 {p : Program} {l : Launch} {e : Env} {s : State} {m : MethodId} {args : Array Value} {below : List Frame} {meth : Method} {c : Code} {H : Heap} {locs : List Loc} {cells slots : Nat} {Q : State → Prop} {ls : Array Slot} {g : vs_G} {sd : Nat → Nat} {A : Nat → Prop} {h0 n0 o od b L : Nat} {aS aT aK aM rM qM : Nat → Nat} {wr : va_W} {V S T K O M : vs_St} {i p1 p2 p3 : Int} {xs : Nat → Int32} {post : vs_St → vs_St → vs_St → vs_St → vs_St → vs_St → Prop} (hst : l.stackTraces = false) (hC : CallFix p m c cL_law 9 s args vs_ws RL) (hX : vs_Xs g sd A s s.heap) (hScr : vs_Scr b L xs A s) (hi : 0 ≤ i ∧ i + 4 ≤ L ∧ L ≤ 2048) (hp1 : xs (i + 1).toNat = vs_I p1) (hp2 : xs (i + 2).toNat = vs_I p2) (hp3 : xs (i + 3).toNat = vs_I p3) (hcap : cells + 16 ≤ 603072 ∧ slots + 96 ≤ 7207018) (hW : vs_Wd g A s.heap (vs_W2 h0 (aS 0) (aT 0) (aK 0) n0 V ++ (vs_W1 g aS S ++ (vs_W1 g aT T ++ (vs_W0 g aK K ++ (vs_WO g o O ++ (vs_W3 g aM rM qM M ++ wr)))))) H locs s) (hl : lv_has ls 9 [(0, .ref b), (1, .ref h0), (2, .ref (aM 0)), (3, .ref o), (4, .ref od), (5, .int (vs_I i))])
    (hw : wcase_15 V S T K O M i p1 p2 p3 post) (kk : ∀ (V' S' T' K' O' M' : vs_St) (H : Heap) (locs : List Loc) (ls : Array Slot) (c2 s2 : Nat), c2 ≤ cells + 16 → s2 ≤ slots + 96 → post V' S' T' K' O' M' → vs_Wd g A s.heap (vs_W2 h0 (aS 0) (aT 0) (aK 0) n0 V' ++ (vs_W1 g aS S' ++ (vs_W1 g aT T' ++ (vs_W0 g aK K' ++ (vs_WO g o O' ++ (vs_W3 g aM rM qM M' ++ wr)))))) H locs s → lv_has ls 9 [(0, .ref b), (1, .ref h0), (2, .ref (aM 0)), (3, .ref o), (4, .ref od), (5, .int (vs_I i))] → W p l e room_1 s m args below meth c H locs c2 s2 Q (F0 m 2295 ls [])) :
    W p l e room_1 s m args below meth c H locs cells slots Q (F0 m 1022 ls []) := by
  unfold wcase_15 at hw
  refine vs_aload_n hC hl 1 dL_law_1022 rfl rfl ?_
  refine vs_aload_n hC hl 0 dL_law_1023 rfl rfl ?_
  refine vs_iload hC hl 5 dL_law_1024 rfl ?_
  refine vs_iconst hC dL_law_1026 ?_
  refine vs_iadd hC dL_law_1027 ?_
  refine vs_sld hC hW hScr (by omega) hp1 dL_law_1028 ?_
  refine vs_aload_n hC hl 3 dL_law_1029 rfl rfl ?_
  refine vs_callHI [.ref h0, .int (vs_I p1), .ref o] hC hW hX vk_L_pass vm_L_183 (c_L_pass l hst g sd h0 n0 o aS aT aK (vs_W3 g aM rM qM M ++ wr) V S T K O p1 _ hw) rfl hl.1 rfl ⟨rfl, rfl⟩ ⟨Nat.le_of_ble_eq_true rfl, Nat.le_of_ble_eq_true rfl⟩ ⟨show _ ≤ 603072 by omega, show _ ≤ 7207018 by omega⟩ (Nat.le_of_ble_eq_true rfl) dL_law_1030 (fun r1 u H locs hw hW => ?_)
  obtain ⟨V2, S3, K4, O5⟩ := u
  have hW : vs_Wd g A _ (vs_W2 h0 (aS 0) (aT 0) (aK 0) n0 V2 ++ (vs_W1 g aS S3 ++ (vs_W1 g aT T ++ (vs_W0 g aK K4 ++ (vs_WO g o O5 ++ (vs_W3 g aM rM qM M ++ wr)))))) _ _ s := hW
  refine vs_istore (L' := [(0, .ref b), (1, .ref h0), (2, .ref (aM 0)), (3, .ref o), (4, .ref od), (5, .int (vs_I i)), (6, .int (vs_I r1))]) hC hl [1, 2, 3, 4, 5, 6, 0] dL_law_1033 (by decide) rfl (fun ls hl => ?_)
  refine vs_aload_n hC hl 2 dL_law_1035 rfl rfl ?_
  refine vs_aload_n hC hl 0 dL_law_1036 rfl rfl ?_
  refine vs_iload hC hl 5 dL_law_1037 rfl ?_
  refine vs_iconst hC dL_law_1039 ?_
  refine vs_iadd hC dL_law_1040 ?_
  refine vs_sld hC hW hScr (by omega) hp1 dL_law_1041 ?_
  have hW : vs_Wd g A _ (vs_W3 g aM rM qM M ++ (vs_W2 h0 (aS 0) (aT 0) (aK 0) n0 V2 ++ (vs_W1 g aS S3 ++ (vs_W1 g aT T ++ (vs_W0 g aK K4 ++ (vs_WO g o O5 ++ wr)))))) _ _ s := vs_Wd.perm hW vs_p6
  refine vs_callVI [.int (vs_I p1)] hC hW 0 rfl rfl vk_X3_pass vm_L_185 (c_X3_pass l g aM rM qM (vs_W2 h0 (aS 0) (aT 0) (aK 0) n0 V2 ++ (vs_W1 g aS S3 ++ (vs_W1 g aT T ++ (vs_W0 g aK K4 ++ (vs_WO g o O5 ++ wr))))) M p1 _ hw) rfl hl.1 rfl ⟨rfl, rfl⟩ ⟨Nat.le_of_ble_eq_true rfl, Nat.le_of_ble_eq_true rfl⟩ ⟨show _ ≤ 603072 by omega, show _ ≤ 7207018 by omega⟩ (Nat.le_of_ble_eq_true rfl) dL_law_1042 (fun r6 M7 H locs hw hW => ?_)
  have hW : vs_Wd g A _ (vs_W3 g aM rM qM M7 ++ (vs_W2 h0 (aS 0) (aT 0) (aK 0) n0 V2 ++ (vs_W1 g aS S3 ++ (vs_W1 g aT T ++ (vs_W0 g aK K4 ++ (vs_WO g o O5 ++ wr)))))) _ _ s := hW
  have hW : vs_Wd g A _ (vs_W2 h0 (aS 0) (aT 0) (aK 0) n0 V2 ++ (vs_W1 g aS S3 ++ (vs_W1 g aT T ++ (vs_W0 g aK K4 ++ (vs_WO g o O5 ++ (vs_W3 g aM rM qM M7 ++ wr)))))) _ _ s := vs_Wd.perm hW (List.Perm.symm vs_p6)
  refine vs_istore (L' := [(0, .ref b), (1, .ref h0), (2, .ref (aM 0)), (3, .ref o), (4, .ref od), (5, .int (vs_I i)), (6, .int (vs_I r1)), (7, .int (vs_I r6))]) hC hl [1, 2, 3, 4, 5, 6, 7, 0] dL_law_1045 (by decide) rfl (fun ls hl => ?_)
  refine vs_aload_n hC hl 2 dL_law_1047 rfl rfl ?_
  have hW : vs_Wd g A _ (vs_W3 g aM rM qM M7 ++ (vs_W2 h0 (aS 0) (aT 0) (aK 0) n0 V2 ++ (vs_W1 g aS S3 ++ (vs_W1 g aT T ++ (vs_W0 g aK K4 ++ (vs_WO g o O5 ++ wr)))))) _ _ s := vs_Wd.perm hW vs_p6
  refine vs_callVI [] hC hW 0 rfl rfl vk_X3_thrown vm_L_133 (c_X3_thrown l g aM rM qM (vs_W2 h0 (aS 0) (aT 0) (aK 0) n0 V2 ++ (vs_W1 g aS S3 ++ (vs_W1 g aT T ++ (vs_W0 g aK K4 ++ (vs_WO g o O5 ++ wr))))) M7  _ hw) rfl hl.1 rfl ⟨rfl, rfl⟩ ⟨Nat.le_of_ble_eq_true rfl, Nat.le_of_ble_eq_true rfl⟩ ⟨show _ ≤ 603072 by omega, show _ ≤ 7207018 by omega⟩ (Nat.le_of_ble_eq_true rfl) dL_law_1048 (fun r8 _ H locs hw hW => ?_)
  have hW : vs_Wd g A _ (vs_W3 g aM rM qM M7 ++ (vs_W2 h0 (aS 0) (aT 0) (aK 0) n0 V2 ++ (vs_W1 g aS S3 ++ (vs_W1 g aT T ++ (vs_W0 g aK K4 ++ (vs_WO g o O5 ++ wr)))))) _ _ s := hW
  have hW : vs_Wd g A _ (vs_W2 h0 (aS 0) (aT 0) (aK 0) n0 V2 ++ (vs_W1 g aS S3 ++ (vs_W1 g aT T ++ (vs_W0 g aK K4 ++ (vs_WO g o O5 ++ (vs_W3 g aM rM qM M7 ++ wr)))))) _ _ s := vs_Wd.perm hW (List.Perm.symm vs_p6)
  refine vs_iload hC hl 6 dL_law_1051 rfl ?_
  obtain ⟨hx, hw⟩ := hw
  obtain ⟨hy, hw⟩ := hw
  obtain ⟨hwt, hwf⟩ := hw
  refine vs_icmp_eq hC 1058 hx hy dL_law_1053 (by decide) (fun hc => ?_) (fun hc => ?_)
  · have hw := hwt hc
    clear hwt hwf hc
    refine vs_iload hC hl 6 dL_law_1058 rfl ?_
    obtain ⟨hx, hw⟩ := hw
    obtain ⟨hwt, hwf⟩ := hw
    refine vs_if_ne hC 1075 hx dL_law_1060 (by decide) (fun hc => ?_) (fun hc => ?_)
    · have hw := hwt hc
      clear hwt hwf hc
      refine vs_goto hC 2295 dL_law_1075 (by decide) ?_
      exact kk V2 S3 T K4 O5 M7 _ _ _ _ _ (by omega) (by omega) hw hW (lv_sub hl [0, 1, 2, 3, 4, 5] rfl)
    · have hw := hwf hc
      clear hwt hwf hc
      refine vs_aload_n hC hl 3 dL_law_1063 rfl rfl ?_
      refine vs_iconst hC dL_law_1064 ?_
      refine vs_lald hC hW 37 rfl dL_law_1065 ?_
      refine vs_iload hC hl 7 dL_law_1066 rfl ?_
      obtain ⟨hx, hw⟩ := hw
      refine vs_i2l hC hx dL_law_1068 ?_
      obtain ⟨hx, hw⟩ := hw
      obtain ⟨hy, hw⟩ := hw
      refine vs_lcmp hC hx hy dL_law_1069 ?_
      obtain ⟨hx, hw⟩ := hw
      obtain ⟨hwt, hwf⟩ := hw
      refine vs_if_eq hC 1075 hx dL_law_1070 (by decide) (fun hc => ?_) (fun hc => ?_)
      · have hw := hwt hc
        clear hwt hwf hc
        refine vs_goto hC 2295 dL_law_1075 (by decide) ?_
        exact kk V2 S3 T K4 O5 M7 _ _ _ _ _ (by omega) (by omega) hw hW (lv_sub hl [0, 1, 2, 3, 4, 5] rfl)
      · have hw := hwf hc
        clear hwt hwf hc
        refine vs_iconst hC dL_law_1073 ?_
        exact hw.elim
  · have hw := hwf hc
    clear hwt hwf hc
    refine vs_iconst hC dL_law_1056 ?_
    exact hw.elim
set_option maxHeartbeats 4000000 in
set_option maxRecDepth 100000 in
theorem case_16 {p : Program} {l : Launch} {e : Env} {s : State} {m : MethodId} {args : Array Value} {below : List Frame} {meth : Method} {c : Code} {H : Heap} {locs : List Loc} {cells slots : Nat} {Q : State → Prop} {ls : Array Slot} {g : vs_G} {sd : Nat → Nat} {A : Nat → Prop} {h0 n0 o od b L : Nat} {aS aT aK aM rM qM : Nat → Nat} {wr : va_W} {V S T K O M : vs_St} {i p1 p2 p3 : Int} {xs : Nat → Int32} {post : vs_St → vs_St → vs_St → vs_St → vs_St → vs_St → Prop} (hst : l.stackTraces = false) (hC : CallFix p m c cL_law 9 s args vs_ws RL) (hX : vs_Xs g sd A s s.heap) (hScr : vs_Scr b L xs A s) (hi : 0 ≤ i ∧ i + 4 ≤ L ∧ L ≤ 2048) (hp1 : xs (i + 1).toNat = vs_I p1) (hp2 : xs (i + 2).toNat = vs_I p2) (hp3 : xs (i + 3).toNat = vs_I p3) (hcap : cells + 16 ≤ 603072 ∧ slots + 96 ≤ 7207018) (hW : vs_Wd g A s.heap (vs_W2 h0 (aS 0) (aT 0) (aK 0) n0 V ++ (vs_W1 g aS S ++ (vs_W1 g aT T ++ (vs_W0 g aK K ++ (vs_WO g o O ++ (vs_W3 g aM rM qM M ++ wr)))))) H locs s) (hl : lv_has ls 9 [(0, .ref b), (1, .ref h0), (2, .ref (aM 0)), (3, .ref o), (4, .ref od), (5, .int (vs_I i))])
    (hw : wcase_16 V S T K O M i p1 p2 p3 post) (kk : ∀ (V' S' T' K' O' M' : vs_St) (H : Heap) (locs : List Loc) (ls : Array Slot) (c2 s2 : Nat), c2 ≤ cells + 16 → s2 ≤ slots + 96 → post V' S' T' K' O' M' → vs_Wd g A s.heap (vs_W2 h0 (aS 0) (aT 0) (aK 0) n0 V' ++ (vs_W1 g aS S' ++ (vs_W1 g aT T' ++ (vs_W0 g aK K' ++ (vs_WO g o O' ++ (vs_W3 g aM rM qM M' ++ wr)))))) H locs s → lv_has ls 9 [(0, .ref b), (1, .ref h0), (2, .ref (aM 0)), (3, .ref o), (4, .ref od), (5, .int (vs_I i))] → W p l e room_1 s m args below meth c H locs c2 s2 Q (F0 m 2295 ls [])) :
    W p l e room_1 s m args below meth c H locs cells slots Q (F0 m 1078 ls []) := by
  unfold wcase_16 at hw
  refine vs_aload_n hC hl 1 dL_law_1078 rfl rfl ?_
  refine vs_callVI [] hC hW 0 rfl rfl vk_X2_clock vm_L_186 (c_X2_clock l g h0 n0 aS aT aK (vs_WO g o O ++ (vs_W3 g aM rM qM M ++ wr)) V S T K  _ hw) rfl hl.1 rfl ⟨rfl, rfl⟩ ⟨Nat.le_of_ble_eq_true rfl, Nat.le_of_ble_eq_true rfl⟩ ⟨show _ ≤ 603072 by omega, show _ ≤ 7207018 by omega⟩ (Nat.le_of_ble_eq_true rfl) dL_law_1079 (fun r1 _ H locs hw hW => ?_)
  have hW : vs_Wd g A _ (vs_W2 h0 (aS 0) (aT 0) (aK 0) n0 V ++ (vs_W1 g aS S ++ (vs_W1 g aT T ++ (vs_W0 g aK K ++ (vs_WO g o O ++ (vs_W3 g aM rM qM M ++ wr)))))) _ _ s := hW
  refine vs_aload_n hC hl 2 dL_law_1082 rfl rfl ?_
  have hW : vs_Wd g A _ (vs_W3 g aM rM qM M ++ (vs_W2 h0 (aS 0) (aT 0) (aK 0) n0 V ++ (vs_W1 g aS S ++ (vs_W1 g aT T ++ (vs_W0 g aK K ++ (vs_WO g o O ++ wr)))))) _ _ s := vs_Wd.perm hW vs_p6
  refine vs_callVI [] hC hW 0 rfl rfl vk_X3_clock vm_L_189 (c_X3_clock l g aM rM qM (vs_W2 h0 (aS 0) (aT 0) (aK 0) n0 V ++ (vs_W1 g aS S ++ (vs_W1 g aT T ++ (vs_W0 g aK K ++ (vs_WO g o O ++ wr))))) M  _ hw) rfl hl.1 rfl ⟨rfl, rfl⟩ ⟨Nat.le_of_ble_eq_true rfl, Nat.le_of_ble_eq_true rfl⟩ ⟨show _ ≤ 603072 by omega, show _ ≤ 7207018 by omega⟩ (Nat.le_of_ble_eq_true rfl) dL_law_1083 (fun r2 M3 H locs hw hW => ?_)
  have hW : vs_Wd g A _ (vs_W3 g aM rM qM M3 ++ (vs_W2 h0 (aS 0) (aT 0) (aK 0) n0 V ++ (vs_W1 g aS S ++ (vs_W1 g aT T ++ (vs_W0 g aK K ++ (vs_WO g o O ++ wr)))))) _ _ s := hW
  have hW : vs_Wd g A _ (vs_W2 h0 (aS 0) (aT 0) (aK 0) n0 V ++ (vs_W1 g aS S ++ (vs_W1 g aT T ++ (vs_W0 g aK K ++ (vs_WO g o O ++ (vs_W3 g aM rM qM M3 ++ wr)))))) _ _ s := vs_Wd.perm hW (List.Perm.symm vs_p6)
  obtain ⟨hx, hw⟩ := hw
  obtain ⟨hy, hw⟩ := hw
  obtain ⟨hwt, hwf⟩ := hw
  refine vs_icmp_eq hC 2295 hx hy dL_law_1086 (by decide) (fun hc => ?_) (fun hc => ?_)
  · have hw := hwt hc
    clear hwt hwf hc
    exact kk V S T K O M3 _ _ _ _ _ (by omega) (by omega) hw hW (lv_sub hl [0, 1, 2, 3, 4, 5] rfl)
  · have hw := hwf hc
    clear hwt hwf hc
    refine vs_iconst hC dL_law_1089 ?_
    exact hw.elim
set_option maxHeartbeats 4000000 in
set_option maxRecDepth 100000 in
theorem case_17 {p : Program} {l : Launch} {e : Env} {s : State} {m : MethodId} {args : Array Value} {below : List Frame} {meth : Method} {c : Code} {H : Heap} {locs : List Loc} {cells slots : Nat} {Q : State → Prop} {ls : Array Slot} {g : vs_G} {sd : Nat → Nat} {A : Nat → Prop} {h0 n0 o od b L : Nat} {aS aT aK aM rM qM : Nat → Nat} {wr : va_W} {V S T K O M : vs_St} {i p1 p2 p3 : Int} {xs : Nat → Int32} {post : vs_St → vs_St → vs_St → vs_St → vs_St → vs_St → Prop} (hst : l.stackTraces = false) (hC : CallFix p m c cL_law 9 s args vs_ws RL) (hX : vs_Xs g sd A s s.heap) (hScr : vs_Scr b L xs A s) (hi : 0 ≤ i ∧ i + 4 ≤ L ∧ L ≤ 2048) (hp1 : xs (i + 1).toNat = vs_I p1) (hp2 : xs (i + 2).toNat = vs_I p2) (hp3 : xs (i + 3).toNat = vs_I p3) (hcap : cells + 16 ≤ 603072 ∧ slots + 96 ≤ 7207018) (hW : vs_Wd g A s.heap (vs_W2 h0 (aS 0) (aT 0) (aK 0) n0 V ++ (vs_W1 g aS S ++ (vs_W1 g aT T ++ (vs_W0 g aK K ++ (vs_WO g o O ++ (vs_W3 g aM rM qM M ++ wr)))))) H locs s) (hl : lv_has ls 9 [(0, .ref b), (1, .ref h0), (2, .ref (aM 0)), (3, .ref o), (4, .ref od), (5, .int (vs_I i))])
    (hw : wcase_17 V S T K O M i p1 p2 p3 post) (kk : ∀ (V' S' T' K' O' M' : vs_St) (H : Heap) (locs : List Loc) (ls : Array Slot) (c2 s2 : Nat), c2 ≤ cells + 16 → s2 ≤ slots + 96 → post V' S' T' K' O' M' → vs_Wd g A s.heap (vs_W2 h0 (aS 0) (aT 0) (aK 0) n0 V' ++ (vs_W1 g aS S' ++ (vs_W1 g aT T' ++ (vs_W0 g aK K' ++ (vs_WO g o O' ++ (vs_W3 g aM rM qM M' ++ wr)))))) H locs s → lv_has ls 9 [(0, .ref b), (1, .ref h0), (2, .ref (aM 0)), (3, .ref o), (4, .ref od), (5, .int (vs_I i))] → W p l e room_1 s m args below meth c H locs c2 s2 Q (F0 m 2295 ls [])) :
    W p l e room_1 s m args below meth c H locs cells slots Q (F0 m 1091 ls []) := by
  unfold wcase_17 at hw
  refine vs_aload_n hC hl 1 dL_law_1091 rfl rfl ?_
  refine vs_aload_n hC hl 0 dL_law_1092 rfl rfl ?_
  refine vs_iload hC hl 5 dL_law_1093 rfl ?_
  refine vs_iconst hC dL_law_1095 ?_
  refine vs_iadd hC dL_law_1096 ?_
  refine vs_sld hC hW hScr (by omega) hp1 dL_law_1097 ?_
  refine vs_aload_n hC hl 3 dL_law_1098 rfl rfl ?_
  refine vs_callHI [.ref h0, .int (vs_I p1), .ref o] hC hW hX vk_L_blocksOf vm_L_190 (c_L_blocksOf l hst g sd h0 n0 o aS aT aK (vs_W3 g aM rM qM M ++ wr) V S T K O p1 _ hw) rfl hl.1 rfl ⟨rfl, rfl⟩ ⟨Nat.le_of_ble_eq_true rfl, Nat.le_of_ble_eq_true rfl⟩ ⟨show _ ≤ 603072 by omega, show _ ≤ 7207018 by omega⟩ (Nat.le_of_ble_eq_true rfl) dL_law_1099 (fun r1 O2 H locs hw hW => ?_)
  have hW : vs_Wd g A _ (vs_W2 h0 (aS 0) (aT 0) (aK 0) n0 V ++ (vs_W1 g aS S ++ (vs_W1 g aT T ++ (vs_W0 g aK K ++ (vs_WO g o O2 ++ (vs_W3 g aM rM qM M ++ wr)))))) _ _ s := hW
  refine vs_istore (L' := [(0, .ref b), (1, .ref h0), (2, .ref (aM 0)), (3, .ref o), (4, .ref od), (5, .int (vs_I i)), (6, .int (vs_I r1))]) hC hl [1, 2, 3, 4, 5, 6, 0] dL_law_1102 (by decide) rfl (fun ls hl => ?_)
  refine vs_aload_n hC hl 2 dL_law_1104 rfl rfl ?_
  refine vs_aload_n hC hl 0 dL_law_1105 rfl rfl ?_
  refine vs_iload hC hl 5 dL_law_1106 rfl ?_
  refine vs_iconst hC dL_law_1108 ?_
  refine vs_iadd hC dL_law_1109 ?_
  refine vs_sld hC hW hScr (by omega) hp1 dL_law_1110 ?_
  have hW : vs_Wd g A _ (vs_W3 g aM rM qM M ++ (vs_W2 h0 (aS 0) (aT 0) (aK 0) n0 V ++ (vs_W1 g aS S ++ (vs_W1 g aT T ++ (vs_W0 g aK K ++ (vs_WO g o O2 ++ wr)))))) _ _ s := vs_Wd.perm hW vs_p6
  refine vs_callVI [.int (vs_I p1)] hC hW 0 rfl rfl vk_X3_blocksOf vm_L_192 (c_X3_blocksOf l g aM rM qM (vs_W2 h0 (aS 0) (aT 0) (aK 0) n0 V ++ (vs_W1 g aS S ++ (vs_W1 g aT T ++ (vs_W0 g aK K ++ (vs_WO g o O2 ++ wr))))) M p1 _ hw) rfl hl.1 rfl ⟨rfl, rfl⟩ ⟨Nat.le_of_ble_eq_true rfl, Nat.le_of_ble_eq_true rfl⟩ ⟨show _ ≤ 603072 by omega, show _ ≤ 7207018 by omega⟩ (Nat.le_of_ble_eq_true rfl) dL_law_1111 (fun r3 M4 H locs hw hW => ?_)
  have hW : vs_Wd g A _ (vs_W3 g aM rM qM M4 ++ (vs_W2 h0 (aS 0) (aT 0) (aK 0) n0 V ++ (vs_W1 g aS S ++ (vs_W1 g aT T ++ (vs_W0 g aK K ++ (vs_WO g o O2 ++ wr)))))) _ _ s := hW
  have hW : vs_Wd g A _ (vs_W2 h0 (aS 0) (aT 0) (aK 0) n0 V ++ (vs_W1 g aS S ++ (vs_W1 g aT T ++ (vs_W0 g aK K ++ (vs_WO g o O2 ++ (vs_W3 g aM rM qM M4 ++ wr)))))) _ _ s := vs_Wd.perm hW (List.Perm.symm vs_p6)
  refine vs_istore (L' := [(0, .ref b), (1, .ref h0), (2, .ref (aM 0)), (3, .ref o), (4, .ref od), (5, .int (vs_I i)), (6, .int (vs_I r1)), (7, .int (vs_I r3))]) hC hl [1, 2, 3, 4, 5, 6, 7, 0] dL_law_1114 (by decide) rfl (fun ls hl => ?_)
  refine vs_aload_n hC hl 2 dL_law_1116 rfl rfl ?_
  have hW : vs_Wd g A _ (vs_W3 g aM rM qM M4 ++ (vs_W2 h0 (aS 0) (aT 0) (aK 0) n0 V ++ (vs_W1 g aS S ++ (vs_W1 g aT T ++ (vs_W0 g aK K ++ (vs_WO g o O2 ++ wr)))))) _ _ s := vs_Wd.perm hW vs_p6
  refine vs_callVI [] hC hW 0 rfl rfl vk_X3_thrown vm_L_133 (c_X3_thrown l g aM rM qM (vs_W2 h0 (aS 0) (aT 0) (aK 0) n0 V ++ (vs_W1 g aS S ++ (vs_W1 g aT T ++ (vs_W0 g aK K ++ (vs_WO g o O2 ++ wr))))) M4  _ hw) rfl hl.1 rfl ⟨rfl, rfl⟩ ⟨Nat.le_of_ble_eq_true rfl, Nat.le_of_ble_eq_true rfl⟩ ⟨show _ ≤ 603072 by omega, show _ ≤ 7207018 by omega⟩ (Nat.le_of_ble_eq_true rfl) dL_law_1117 (fun r5 _ H locs hw hW => ?_)
  have hW : vs_Wd g A _ (vs_W3 g aM rM qM M4 ++ (vs_W2 h0 (aS 0) (aT 0) (aK 0) n0 V ++ (vs_W1 g aS S ++ (vs_W1 g aT T ++ (vs_W0 g aK K ++ (vs_WO g o O2 ++ wr)))))) _ _ s := hW
  have hW : vs_Wd g A _ (vs_W2 h0 (aS 0) (aT 0) (aK 0) n0 V ++ (vs_W1 g aS S ++ (vs_W1 g aT T ++ (vs_W0 g aK K ++ (vs_WO g o O2 ++ (vs_W3 g aM rM qM M4 ++ wr)))))) _ _ s := vs_Wd.perm hW (List.Perm.symm vs_p6)
  refine vs_iload hC hl 6 dL_law_1120 rfl ?_
  obtain ⟨hx, hw⟩ := hw
  obtain ⟨hy, hw⟩ := hw
  obtain ⟨hwt, hwf⟩ := hw
  refine vs_icmp_eq hC 1127 hx hy dL_law_1122 (by decide) (fun hc => ?_) (fun hc => ?_)
  · have hw := hwt hc
    clear hwt hwf hc
    refine vs_iload hC hl 6 dL_law_1127 rfl ?_
    obtain ⟨hx, hw⟩ := hw
    obtain ⟨hwt, hwf⟩ := hw
    refine vs_if_ne hC 1144 hx dL_law_1129 (by decide) (fun hc => ?_) (fun hc => ?_)
    · have hw := hwt hc
      clear hwt hwf hc
      refine vs_goto hC 2295 dL_law_1144 (by decide) ?_
      exact kk V S T K O2 M4 _ _ _ _ _ (by omega) (by omega) hw hW (lv_sub hl [0, 1, 2, 3, 4, 5] rfl)
    · have hw := hwf hc
      clear hwt hwf hc
      refine vs_aload_n hC hl 3 dL_law_1132 rfl rfl ?_
      refine vs_iconst hC dL_law_1133 ?_
      refine vs_lald hC hW 37 rfl dL_law_1134 ?_
      refine vs_iload hC hl 7 dL_law_1135 rfl ?_
      obtain ⟨hx, hw⟩ := hw
      refine vs_i2l hC hx dL_law_1137 ?_
      obtain ⟨hx, hw⟩ := hw
      obtain ⟨hy, hw⟩ := hw
      refine vs_lcmp hC hx hy dL_law_1138 ?_
      obtain ⟨hx, hw⟩ := hw
      obtain ⟨hwt, hwf⟩ := hw
      refine vs_if_eq hC 1144 hx dL_law_1139 (by decide) (fun hc => ?_) (fun hc => ?_)
      · have hw := hwt hc
        clear hwt hwf hc
        refine vs_goto hC 2295 dL_law_1144 (by decide) ?_
        exact kk V S T K O2 M4 _ _ _ _ _ (by omega) (by omega) hw hW (lv_sub hl [0, 1, 2, 3, 4, 5] rfl)
      · have hw := hwf hc
        clear hwt hwf hc
        refine vs_iconst hC dL_law_1142 ?_
        exact hw.elim
  · have hw := hwf hc
    clear hwt hwf hc
    refine vs_iconst hC dL_law_1125 ?_
    exact hw.elim
set_option maxHeartbeats 4000000 in
set_option maxRecDepth 100000 in
theorem case_18 {p : Program} {l : Launch} {e : Env} {s : State} {m : MethodId} {args : Array Value} {below : List Frame} {meth : Method} {c : Code} {H : Heap} {locs : List Loc} {cells slots : Nat} {Q : State → Prop} {ls : Array Slot} {g : vs_G} {sd : Nat → Nat} {A : Nat → Prop} {h0 n0 o od b L : Nat} {aS aT aK aM rM qM : Nat → Nat} {wr : va_W} {V S T K O M : vs_St} {i p1 p2 p3 : Int} {xs : Nat → Int32} {post : vs_St → vs_St → vs_St → vs_St → vs_St → vs_St → Prop} (hst : l.stackTraces = false) (hC : CallFix p m c cL_law 9 s args vs_ws RL) (hX : vs_Xs g sd A s s.heap) (hScr : vs_Scr b L xs A s) (hi : 0 ≤ i ∧ i + 4 ≤ L ∧ L ≤ 2048) (hp1 : xs (i + 1).toNat = vs_I p1) (hp2 : xs (i + 2).toNat = vs_I p2) (hp3 : xs (i + 3).toNat = vs_I p3) (hcap : cells + 16 ≤ 603072 ∧ slots + 96 ≤ 7207018) (hW : vs_Wd g A s.heap (vs_W2 h0 (aS 0) (aT 0) (aK 0) n0 V ++ (vs_W1 g aS S ++ (vs_W1 g aT T ++ (vs_W0 g aK K ++ (vs_WO g o O ++ (vs_W3 g aM rM qM M ++ wr)))))) H locs s) (hl : lv_has ls 9 [(0, .ref b), (1, .ref h0), (2, .ref (aM 0)), (3, .ref o), (4, .ref od), (5, .int (vs_I i))])
    (hw : wcase_18 V S T K O M i p1 p2 p3 post) (kk : ∀ (V' S' T' K' O' M' : vs_St) (H : Heap) (locs : List Loc) (ls : Array Slot) (c2 s2 : Nat), c2 ≤ cells + 16 → s2 ≤ slots + 96 → post V' S' T' K' O' M' → vs_Wd g A s.heap (vs_W2 h0 (aS 0) (aT 0) (aK 0) n0 V' ++ (vs_W1 g aS S' ++ (vs_W1 g aT T' ++ (vs_W0 g aK K' ++ (vs_WO g o O' ++ (vs_W3 g aM rM qM M' ++ wr)))))) H locs s → lv_has ls 9 [(0, .ref b), (1, .ref h0), (2, .ref (aM 0)), (3, .ref o), (4, .ref od), (5, .int (vs_I i))] → W p l e room_1 s m args below meth c H locs c2 s2 Q (F0 m 2295 ls [])) :
    W p l e room_1 s m args below meth c H locs cells slots Q (F0 m 1147 ls []) := by
  unfold wcase_18 at hw
  refine vs_aload_n hC hl 1 dL_law_1147 rfl rfl ?_
  refine vs_aload_n hC hl 0 dL_law_1148 rfl rfl ?_
  refine vs_iload hC hl 5 dL_law_1149 rfl ?_
  refine vs_iconst hC dL_law_1151 ?_
  refine vs_iadd hC dL_law_1152 ?_
  refine vs_sld hC hW hScr (by omega) hp1 dL_law_1153 ?_
  refine vs_aload_n hC hl 0 dL_law_1154 rfl rfl ?_
  refine vs_iload hC hl 5 dL_law_1155 rfl ?_
  refine vs_iconst hC dL_law_1157 ?_
  refine vs_iadd hC dL_law_1158 ?_
  refine vs_sld hC hW hScr (by omega) hp2 dL_law_1159 ?_
  refine vs_aload_n hC hl 3 dL_law_1160 rfl rfl ?_
  refine vs_callHI [.ref h0, .int (vs_I p1), .int (vs_I p2), .ref o] hC hW hX vk_L_copiesOf vm_L_193 (c_L_copiesOf l hst g sd h0 n0 o aS aT aK (vs_W3 g aM rM qM M ++ wr) V S T K O p1 p2 _ hw) rfl hl.1 rfl ⟨rfl, rfl⟩ ⟨Nat.le_of_ble_eq_true rfl, Nat.le_of_ble_eq_true rfl⟩ ⟨show _ ≤ 603072 by omega, show _ ≤ 7207018 by omega⟩ (Nat.le_of_ble_eq_true rfl) dL_law_1161 (fun r1 O2 H locs hw hW => ?_)
  have hW : vs_Wd g A _ (vs_W2 h0 (aS 0) (aT 0) (aK 0) n0 V ++ (vs_W1 g aS S ++ (vs_W1 g aT T ++ (vs_W0 g aK K ++ (vs_WO g o O2 ++ (vs_W3 g aM rM qM M ++ wr)))))) _ _ s := hW
  refine vs_istore (L' := [(0, .ref b), (1, .ref h0), (2, .ref (aM 0)), (3, .ref o), (4, .ref od), (5, .int (vs_I i)), (6, .int (vs_I r1))]) hC hl [1, 2, 3, 4, 5, 6, 0] dL_law_1164 (by decide) rfl (fun ls hl => ?_)
  refine vs_aload_n hC hl 2 dL_law_1166 rfl rfl ?_
  refine vs_aload_n hC hl 0 dL_law_1167 rfl rfl ?_
  refine vs_iload hC hl 5 dL_law_1168 rfl ?_
  refine vs_iconst hC dL_law_1170 ?_
  refine vs_iadd hC dL_law_1171 ?_
  refine vs_sld hC hW hScr (by omega) hp1 dL_law_1172 ?_
  refine vs_aload_n hC hl 0 dL_law_1173 rfl rfl ?_
  refine vs_iload hC hl 5 dL_law_1174 rfl ?_
  refine vs_iconst hC dL_law_1176 ?_
  refine vs_iadd hC dL_law_1177 ?_
  refine vs_sld hC hW hScr (by omega) hp2 dL_law_1178 ?_
  have hW : vs_Wd g A _ (vs_W3 g aM rM qM M ++ (vs_W2 h0 (aS 0) (aT 0) (aK 0) n0 V ++ (vs_W1 g aS S ++ (vs_W1 g aT T ++ (vs_W0 g aK K ++ (vs_WO g o O2 ++ wr)))))) _ _ s := vs_Wd.perm hW vs_p6
  refine vs_callVI [.int (vs_I p1), .int (vs_I p2)] hC hW 0 rfl rfl vk_X3_copiesOf vm_L_195 (c_X3_copiesOf l g aM rM qM (vs_W2 h0 (aS 0) (aT 0) (aK 0) n0 V ++ (vs_W1 g aS S ++ (vs_W1 g aT T ++ (vs_W0 g aK K ++ (vs_WO g o O2 ++ wr))))) M p1 p2 _ hw) rfl hl.1 rfl ⟨rfl, rfl⟩ ⟨Nat.le_of_ble_eq_true rfl, Nat.le_of_ble_eq_true rfl⟩ ⟨show _ ≤ 603072 by omega, show _ ≤ 7207018 by omega⟩ (Nat.le_of_ble_eq_true rfl) dL_law_1179 (fun r3 M4 H locs hw hW => ?_)
  have hW : vs_Wd g A _ (vs_W3 g aM rM qM M4 ++ (vs_W2 h0 (aS 0) (aT 0) (aK 0) n0 V ++ (vs_W1 g aS S ++ (vs_W1 g aT T ++ (vs_W0 g aK K ++ (vs_WO g o O2 ++ wr)))))) _ _ s := hW
  have hW : vs_Wd g A _ (vs_W2 h0 (aS 0) (aT 0) (aK 0) n0 V ++ (vs_W1 g aS S ++ (vs_W1 g aT T ++ (vs_W0 g aK K ++ (vs_WO g o O2 ++ (vs_W3 g aM rM qM M4 ++ wr)))))) _ _ s := vs_Wd.perm hW (List.Perm.symm vs_p6)
  refine vs_istore (L' := [(0, .ref b), (1, .ref h0), (2, .ref (aM 0)), (3, .ref o), (4, .ref od), (5, .int (vs_I i)), (6, .int (vs_I r1)), (7, .int (vs_I r3))]) hC hl [1, 2, 3, 4, 5, 6, 7, 0] dL_law_1182 (by decide) rfl (fun ls hl => ?_)
  refine vs_aload_n hC hl 2 dL_law_1184 rfl rfl ?_
  have hW : vs_Wd g A _ (vs_W3 g aM rM qM M4 ++ (vs_W2 h0 (aS 0) (aT 0) (aK 0) n0 V ++ (vs_W1 g aS S ++ (vs_W1 g aT T ++ (vs_W0 g aK K ++ (vs_WO g o O2 ++ wr)))))) _ _ s := vs_Wd.perm hW vs_p6
  refine vs_callVI [] hC hW 0 rfl rfl vk_X3_thrown vm_L_133 (c_X3_thrown l g aM rM qM (vs_W2 h0 (aS 0) (aT 0) (aK 0) n0 V ++ (vs_W1 g aS S ++ (vs_W1 g aT T ++ (vs_W0 g aK K ++ (vs_WO g o O2 ++ wr))))) M4  _ hw) rfl hl.1 rfl ⟨rfl, rfl⟩ ⟨Nat.le_of_ble_eq_true rfl, Nat.le_of_ble_eq_true rfl⟩ ⟨show _ ≤ 603072 by omega, show _ ≤ 7207018 by omega⟩ (Nat.le_of_ble_eq_true rfl) dL_law_1185 (fun r5 _ H locs hw hW => ?_)
  have hW : vs_Wd g A _ (vs_W3 g aM rM qM M4 ++ (vs_W2 h0 (aS 0) (aT 0) (aK 0) n0 V ++ (vs_W1 g aS S ++ (vs_W1 g aT T ++ (vs_W0 g aK K ++ (vs_WO g o O2 ++ wr)))))) _ _ s := hW
  have hW : vs_Wd g A _ (vs_W2 h0 (aS 0) (aT 0) (aK 0) n0 V ++ (vs_W1 g aS S ++ (vs_W1 g aT T ++ (vs_W0 g aK K ++ (vs_WO g o O2 ++ (vs_W3 g aM rM qM M4 ++ wr)))))) _ _ s := vs_Wd.perm hW (List.Perm.symm vs_p6)
  refine vs_iload hC hl 6 dL_law_1188 rfl ?_
  obtain ⟨hx, hw⟩ := hw
  obtain ⟨hy, hw⟩ := hw
  obtain ⟨hwt, hwf⟩ := hw
  refine vs_icmp_eq hC 1195 hx hy dL_law_1190 (by decide) (fun hc => ?_) (fun hc => ?_)
  · have hw := hwt hc
    clear hwt hwf hc
    refine vs_iload hC hl 6 dL_law_1195 rfl ?_
    obtain ⟨hx, hw⟩ := hw
    obtain ⟨hwt, hwf⟩ := hw
    refine vs_if_ne hC 1212 hx dL_law_1197 (by decide) (fun hc => ?_) (fun hc => ?_)
    · have hw := hwt hc
      clear hwt hwf hc
      refine vs_goto hC 2295 dL_law_1212 (by decide) ?_
      exact kk V S T K O2 M4 _ _ _ _ _ (by omega) (by omega) hw hW (lv_sub hl [0, 1, 2, 3, 4, 5] rfl)
    · have hw := hwf hc
      clear hwt hwf hc
      refine vs_aload_n hC hl 3 dL_law_1200 rfl rfl ?_
      refine vs_iconst hC dL_law_1201 ?_
      refine vs_lald hC hW 37 rfl dL_law_1202 ?_
      refine vs_iload hC hl 7 dL_law_1203 rfl ?_
      obtain ⟨hx, hw⟩ := hw
      refine vs_i2l hC hx dL_law_1205 ?_
      obtain ⟨hx, hw⟩ := hw
      obtain ⟨hy, hw⟩ := hw
      refine vs_lcmp hC hx hy dL_law_1206 ?_
      obtain ⟨hx, hw⟩ := hw
      obtain ⟨hwt, hwf⟩ := hw
      refine vs_if_eq hC 1212 hx dL_law_1207 (by decide) (fun hc => ?_) (fun hc => ?_)
      · have hw := hwt hc
        clear hwt hwf hc
        refine vs_goto hC 2295 dL_law_1212 (by decide) ?_
        exact kk V S T K O2 M4 _ _ _ _ _ (by omega) (by omega) hw hW (lv_sub hl [0, 1, 2, 3, 4, 5] rfl)
      · have hw := hwf hc
        clear hwt hwf hc
        refine vs_iconst hC dL_law_1210 ?_
        exact hw.elim
  · have hw := hwf hc
    clear hwt hwf hc
    refine vs_iconst hC dL_law_1193 ?_
    exact hw.elim
set_option maxHeartbeats 4000000 in
set_option maxRecDepth 100000 in
theorem case_19 {p : Program} {l : Launch} {e : Env} {s : State} {m : MethodId} {args : Array Value} {below : List Frame} {meth : Method} {c : Code} {H : Heap} {locs : List Loc} {cells slots : Nat} {Q : State → Prop} {ls : Array Slot} {g : vs_G} {sd : Nat → Nat} {A : Nat → Prop} {h0 n0 o od b L : Nat} {aS aT aK aM rM qM : Nat → Nat} {wr : va_W} {V S T K O M : vs_St} {i p1 p2 p3 : Int} {xs : Nat → Int32} {post : vs_St → vs_St → vs_St → vs_St → vs_St → vs_St → Prop} (hst : l.stackTraces = false) (hC : CallFix p m c cL_law 9 s args vs_ws RL) (hX : vs_Xs g sd A s s.heap) (hScr : vs_Scr b L xs A s) (hi : 0 ≤ i ∧ i + 4 ≤ L ∧ L ≤ 2048) (hp1 : xs (i + 1).toNat = vs_I p1) (hp2 : xs (i + 2).toNat = vs_I p2) (hp3 : xs (i + 3).toNat = vs_I p3) (hcap : cells + 16 ≤ 603072 ∧ slots + 96 ≤ 7207018) (hW : vs_Wd g A s.heap (vs_W2 h0 (aS 0) (aT 0) (aK 0) n0 V ++ (vs_W1 g aS S ++ (vs_W1 g aT T ++ (vs_W0 g aK K ++ (vs_WO g o O ++ (vs_W3 g aM rM qM M ++ wr)))))) H locs s) (hl : lv_has ls 9 [(0, .ref b), (1, .ref h0), (2, .ref (aM 0)), (3, .ref o), (4, .ref od), (5, .int (vs_I i))])
    (hw : wcase_19 V S T K O M i p1 p2 p3 post) (kk : ∀ (V' S' T' K' O' M' : vs_St) (H : Heap) (locs : List Loc) (ls : Array Slot) (c2 s2 : Nat), c2 ≤ cells + 16 → s2 ≤ slots + 96 → post V' S' T' K' O' M' → vs_Wd g A s.heap (vs_W2 h0 (aS 0) (aT 0) (aK 0) n0 V' ++ (vs_W1 g aS S' ++ (vs_W1 g aT T' ++ (vs_W0 g aK K' ++ (vs_WO g o O' ++ (vs_W3 g aM rM qM M' ++ wr)))))) H locs s → lv_has ls 9 [(0, .ref b), (1, .ref h0), (2, .ref (aM 0)), (3, .ref o), (4, .ref od), (5, .int (vs_I i))] → W p l e room_1 s m args below meth c H locs c2 s2 Q (F0 m 2295 ls [])) :
    W p l e room_1 s m args below meth c H locs cells slots Q (F0 m 1215 ls []) := by
  unfold wcase_19 at hw
  refine vs_aload_n hC hl 1 dL_law_1215 rfl rfl ?_
  refine vs_aload_n hC hl 0 dL_law_1216 rfl rfl ?_
  refine vs_iload hC hl 5 dL_law_1217 rfl ?_
  refine vs_iconst hC dL_law_1219 ?_
  refine vs_iadd hC dL_law_1220 ?_
  refine vs_sld hC hW hScr (by omega) hp1 dL_law_1221 ?_
  refine vs_aload_n hC hl 0 dL_law_1222 rfl rfl ?_
  refine vs_iload hC hl 5 dL_law_1223 rfl ?_
  refine vs_iconst hC dL_law_1225 ?_
  refine vs_iadd hC dL_law_1226 ?_
  refine vs_sld hC hW hScr (by omega) hp2 dL_law_1227 ?_
  refine vs_aload_n hC hl 3 dL_law_1228 rfl rfl ?_
  refine vs_callHI [.ref h0, .int (vs_I p1), .int (vs_I p2), .ref o] hC hW hX vk_L_copiesByDisks vm_L_196 (c_L_copiesByDisks l hst g sd h0 n0 o aS aT aK (vs_W3 g aM rM qM M ++ wr) V S T K O p1 p2 _ hw) rfl hl.1 rfl ⟨rfl, rfl⟩ ⟨Nat.le_of_ble_eq_true rfl, Nat.le_of_ble_eq_true rfl⟩ ⟨show _ ≤ 603072 by omega, show _ ≤ 7207018 by omega⟩ (Nat.le_of_ble_eq_true rfl) dL_law_1229 (fun r1 O2 H locs hw hW => ?_)
  have hW : vs_Wd g A _ (vs_W2 h0 (aS 0) (aT 0) (aK 0) n0 V ++ (vs_W1 g aS S ++ (vs_W1 g aT T ++ (vs_W0 g aK K ++ (vs_WO g o O2 ++ (vs_W3 g aM rM qM M ++ wr)))))) _ _ s := hW
  refine vs_istore (L' := [(0, .ref b), (1, .ref h0), (2, .ref (aM 0)), (3, .ref o), (4, .ref od), (5, .int (vs_I i)), (6, .int (vs_I r1))]) hC hl [1, 2, 3, 4, 5, 6, 0] dL_law_1232 (by decide) rfl (fun ls hl => ?_)
  refine vs_aload_n hC hl 2 dL_law_1234 rfl rfl ?_
  refine vs_aload_n hC hl 0 dL_law_1235 rfl rfl ?_
  refine vs_iload hC hl 5 dL_law_1236 rfl ?_
  refine vs_iconst hC dL_law_1238 ?_
  refine vs_iadd hC dL_law_1239 ?_
  refine vs_sld hC hW hScr (by omega) hp1 dL_law_1240 ?_
  refine vs_aload_n hC hl 0 dL_law_1241 rfl rfl ?_
  refine vs_iload hC hl 5 dL_law_1242 rfl ?_
  refine vs_iconst hC dL_law_1244 ?_
  refine vs_iadd hC dL_law_1245 ?_
  refine vs_sld hC hW hScr (by omega) hp2 dL_law_1246 ?_
  have hW : vs_Wd g A _ (vs_W3 g aM rM qM M ++ (vs_W2 h0 (aS 0) (aT 0) (aK 0) n0 V ++ (vs_W1 g aS S ++ (vs_W1 g aT T ++ (vs_W0 g aK K ++ (vs_WO g o O2 ++ wr)))))) _ _ s := vs_Wd.perm hW vs_p6
  refine vs_callVI [.int (vs_I p1), .int (vs_I p2)] hC hW 0 rfl rfl vk_X3_copiesByDisks vm_L_198 (c_X3_copiesByDisks l g aM rM qM (vs_W2 h0 (aS 0) (aT 0) (aK 0) n0 V ++ (vs_W1 g aS S ++ (vs_W1 g aT T ++ (vs_W0 g aK K ++ (vs_WO g o O2 ++ wr))))) M p1 p2 _ hw) rfl hl.1 rfl ⟨rfl, rfl⟩ ⟨Nat.le_of_ble_eq_true rfl, Nat.le_of_ble_eq_true rfl⟩ ⟨show _ ≤ 603072 by omega, show _ ≤ 7207018 by omega⟩ (Nat.le_of_ble_eq_true rfl) dL_law_1247 (fun r3 M4 H locs hw hW => ?_)
  have hW : vs_Wd g A _ (vs_W3 g aM rM qM M4 ++ (vs_W2 h0 (aS 0) (aT 0) (aK 0) n0 V ++ (vs_W1 g aS S ++ (vs_W1 g aT T ++ (vs_W0 g aK K ++ (vs_WO g o O2 ++ wr)))))) _ _ s := hW
  have hW : vs_Wd g A _ (vs_W2 h0 (aS 0) (aT 0) (aK 0) n0 V ++ (vs_W1 g aS S ++ (vs_W1 g aT T ++ (vs_W0 g aK K ++ (vs_WO g o O2 ++ (vs_W3 g aM rM qM M4 ++ wr)))))) _ _ s := vs_Wd.perm hW (List.Perm.symm vs_p6)
  refine vs_istore (L' := [(0, .ref b), (1, .ref h0), (2, .ref (aM 0)), (3, .ref o), (4, .ref od), (5, .int (vs_I i)), (6, .int (vs_I r1)), (7, .int (vs_I r3))]) hC hl [1, 2, 3, 4, 5, 6, 7, 0] dL_law_1250 (by decide) rfl (fun ls hl => ?_)
  refine vs_aload_n hC hl 2 dL_law_1252 rfl rfl ?_
  have hW : vs_Wd g A _ (vs_W3 g aM rM qM M4 ++ (vs_W2 h0 (aS 0) (aT 0) (aK 0) n0 V ++ (vs_W1 g aS S ++ (vs_W1 g aT T ++ (vs_W0 g aK K ++ (vs_WO g o O2 ++ wr)))))) _ _ s := vs_Wd.perm hW vs_p6
  refine vs_callVI [] hC hW 0 rfl rfl vk_X3_thrown vm_L_133 (c_X3_thrown l g aM rM qM (vs_W2 h0 (aS 0) (aT 0) (aK 0) n0 V ++ (vs_W1 g aS S ++ (vs_W1 g aT T ++ (vs_W0 g aK K ++ (vs_WO g o O2 ++ wr))))) M4  _ hw) rfl hl.1 rfl ⟨rfl, rfl⟩ ⟨Nat.le_of_ble_eq_true rfl, Nat.le_of_ble_eq_true rfl⟩ ⟨show _ ≤ 603072 by omega, show _ ≤ 7207018 by omega⟩ (Nat.le_of_ble_eq_true rfl) dL_law_1253 (fun r5 _ H locs hw hW => ?_)
  have hW : vs_Wd g A _ (vs_W3 g aM rM qM M4 ++ (vs_W2 h0 (aS 0) (aT 0) (aK 0) n0 V ++ (vs_W1 g aS S ++ (vs_W1 g aT T ++ (vs_W0 g aK K ++ (vs_WO g o O2 ++ wr)))))) _ _ s := hW
  have hW : vs_Wd g A _ (vs_W2 h0 (aS 0) (aT 0) (aK 0) n0 V ++ (vs_W1 g aS S ++ (vs_W1 g aT T ++ (vs_W0 g aK K ++ (vs_WO g o O2 ++ (vs_W3 g aM rM qM M4 ++ wr)))))) _ _ s := vs_Wd.perm hW (List.Perm.symm vs_p6)
  refine vs_iload hC hl 6 dL_law_1256 rfl ?_
  obtain ⟨hx, hw⟩ := hw
  obtain ⟨hy, hw⟩ := hw
  obtain ⟨hwt, hwf⟩ := hw
  refine vs_icmp_eq hC 1263 hx hy dL_law_1258 (by decide) (fun hc => ?_) (fun hc => ?_)
  · have hw := hwt hc
    clear hwt hwf hc
    refine vs_iload hC hl 6 dL_law_1263 rfl ?_
    obtain ⟨hx, hw⟩ := hw
    obtain ⟨hwt, hwf⟩ := hw
    refine vs_if_ne hC 1280 hx dL_law_1265 (by decide) (fun hc => ?_) (fun hc => ?_)
    · have hw := hwt hc
      clear hwt hwf hc
      refine vs_goto hC 2295 dL_law_1280 (by decide) ?_
      exact kk V S T K O2 M4 _ _ _ _ _ (by omega) (by omega) hw hW (lv_sub hl [0, 1, 2, 3, 4, 5] rfl)
    · have hw := hwf hc
      clear hwt hwf hc
      refine vs_aload_n hC hl 3 dL_law_1268 rfl rfl ?_
      refine vs_iconst hC dL_law_1269 ?_
      refine vs_lald hC hW 37 rfl dL_law_1270 ?_
      refine vs_iload hC hl 7 dL_law_1271 rfl ?_
      obtain ⟨hx, hw⟩ := hw
      refine vs_i2l hC hx dL_law_1273 ?_
      obtain ⟨hx, hw⟩ := hw
      obtain ⟨hy, hw⟩ := hw
      refine vs_lcmp hC hx hy dL_law_1274 ?_
      obtain ⟨hx, hw⟩ := hw
      obtain ⟨hwt, hwf⟩ := hw
      refine vs_if_eq hC 1280 hx dL_law_1275 (by decide) (fun hc => ?_) (fun hc => ?_)
      · have hw := hwt hc
        clear hwt hwf hc
        refine vs_goto hC 2295 dL_law_1280 (by decide) ?_
        exact kk V S T K O2 M4 _ _ _ _ _ (by omega) (by omega) hw hW (lv_sub hl [0, 1, 2, 3, 4, 5] rfl)
      · have hw := hwf hc
        clear hwt hwf hc
        refine vs_iconst hC dL_law_1278 ?_
        exact hw.elim
  · have hw := hwf hc
    clear hwt hwf hc
    refine vs_iconst hC dL_law_1261 ?_
    exact hw.elim
set_option maxHeartbeats 4000000 in
set_option maxRecDepth 100000 in
theorem case_20 {p : Program} {l : Launch} {e : Env} {s : State} {m : MethodId} {args : Array Value} {below : List Frame} {meth : Method} {c : Code} {H : Heap} {locs : List Loc} {cells slots : Nat} {Q : State → Prop} {ls : Array Slot} {g : vs_G} {sd : Nat → Nat} {A : Nat → Prop} {h0 n0 o od b L : Nat} {aS aT aK aM rM qM : Nat → Nat} {wr : va_W} {V S T K O M : vs_St} {i p1 p2 p3 : Int} {xs : Nat → Int32} {post : vs_St → vs_St → vs_St → vs_St → vs_St → vs_St → Prop} (hst : l.stackTraces = false) (hC : CallFix p m c cL_law 9 s args vs_ws RL) (hX : vs_Xs g sd A s s.heap) (hScr : vs_Scr b L xs A s) (hi : 0 ≤ i ∧ i + 4 ≤ L ∧ L ≤ 2048) (hp1 : xs (i + 1).toNat = vs_I p1) (hp2 : xs (i + 2).toNat = vs_I p2) (hp3 : xs (i + 3).toNat = vs_I p3) (hcap : cells + 16 ≤ 603072 ∧ slots + 96 ≤ 7207018) (hW : vs_Wd g A s.heap (vs_W2 h0 (aS 0) (aT 0) (aK 0) n0 V ++ (vs_W1 g aS S ++ (vs_W1 g aT T ++ (vs_W0 g aK K ++ (vs_WO g o O ++ (vs_W3 g aM rM qM M ++ wr)))))) H locs s) (hl : lv_has ls 9 [(0, .ref b), (1, .ref h0), (2, .ref (aM 0)), (3, .ref o), (4, .ref od), (5, .int (vs_I i))])
    (hw : wcase_20 V S T K O M i p1 p2 p3 post) (kk : ∀ (V' S' T' K' O' M' : vs_St) (H : Heap) (locs : List Loc) (ls : Array Slot) (c2 s2 : Nat), c2 ≤ cells + 16 → s2 ≤ slots + 96 → post V' S' T' K' O' M' → vs_Wd g A s.heap (vs_W2 h0 (aS 0) (aT 0) (aK 0) n0 V' ++ (vs_W1 g aS S' ++ (vs_W1 g aT T' ++ (vs_W0 g aK K' ++ (vs_WO g o O' ++ (vs_W3 g aM rM qM M' ++ wr)))))) H locs s → lv_has ls 9 [(0, .ref b), (1, .ref h0), (2, .ref (aM 0)), (3, .ref o), (4, .ref od), (5, .int (vs_I i))] → W p l e room_1 s m args below meth c H locs c2 s2 Q (F0 m 2295 ls [])) :
    W p l e room_1 s m args below meth c H locs cells slots Q (F0 m 1283 ls []) := by
  unfold wcase_20 at hw
  refine vs_aload_n hC hl 1 dL_law_1283 rfl rfl ?_
  refine vs_aload_n hC hl 0 dL_law_1284 rfl rfl ?_
  refine vs_iload hC hl 5 dL_law_1285 rfl ?_
  refine vs_iconst hC dL_law_1287 ?_
  refine vs_iadd hC dL_law_1288 ?_
  refine vs_sld hC hW hScr (by omega) hp1 dL_law_1289 ?_
  refine vs_aload_n hC hl 0 dL_law_1290 rfl rfl ?_
  refine vs_iload hC hl 5 dL_law_1291 rfl ?_
  refine vs_iconst hC dL_law_1293 ?_
  refine vs_iadd hC dL_law_1294 ?_
  refine vs_sld hC hW hScr (by omega) hp2 dL_law_1295 ?_
  refine vs_aload_n hC hl 0 dL_law_1296 rfl rfl ?_
  refine vs_iload hC hl 5 dL_law_1297 rfl ?_
  refine vs_iconst hC dL_law_1299 ?_
  refine vs_iadd hC dL_law_1300 ?_
  refine vs_sld hC hW hScr (by omega) hp3 dL_law_1301 ?_
  refine vs_aload_n hC hl 3 dL_law_1302 rfl rfl ?_
  refine vs_callHI [.ref h0, .int (vs_I p1), .int (vs_I p2), .int (vs_I p3), .ref o] hC hW hX vk_L_diskOfCopy vm_L_199 (c_L_diskOfCopy l hst g sd h0 n0 o aS aT aK (vs_W3 g aM rM qM M ++ wr) V S T K O p1 p2 p3 _ hw) rfl hl.1 rfl ⟨rfl, rfl⟩ ⟨Nat.le_of_ble_eq_true rfl, Nat.le_of_ble_eq_true rfl⟩ ⟨show _ ≤ 603072 by omega, show _ ≤ 7207018 by omega⟩ (Nat.le_of_ble_eq_true rfl) dL_law_1303 (fun r1 O2 H locs hw hW => ?_)
  have hW : vs_Wd g A _ (vs_W2 h0 (aS 0) (aT 0) (aK 0) n0 V ++ (vs_W1 g aS S ++ (vs_W1 g aT T ++ (vs_W0 g aK K ++ (vs_WO g o O2 ++ (vs_W3 g aM rM qM M ++ wr)))))) _ _ s := hW
  refine vs_istore (L' := [(0, .ref b), (1, .ref h0), (2, .ref (aM 0)), (3, .ref o), (4, .ref od), (5, .int (vs_I i)), (6, .int (vs_I r1))]) hC hl [1, 2, 3, 4, 5, 6, 0] dL_law_1306 (by decide) rfl (fun ls hl => ?_)
  refine vs_aload_n hC hl 2 dL_law_1308 rfl rfl ?_
  refine vs_aload_n hC hl 0 dL_law_1309 rfl rfl ?_
  refine vs_iload hC hl 5 dL_law_1310 rfl ?_
  refine vs_iconst hC dL_law_1312 ?_
  refine vs_iadd hC dL_law_1313 ?_
  refine vs_sld hC hW hScr (by omega) hp1 dL_law_1314 ?_
  refine vs_aload_n hC hl 0 dL_law_1315 rfl rfl ?_
  refine vs_iload hC hl 5 dL_law_1316 rfl ?_
  refine vs_iconst hC dL_law_1318 ?_
  refine vs_iadd hC dL_law_1319 ?_
  refine vs_sld hC hW hScr (by omega) hp2 dL_law_1320 ?_
  refine vs_aload_n hC hl 0 dL_law_1321 rfl rfl ?_
  refine vs_iload hC hl 5 dL_law_1322 rfl ?_
  refine vs_iconst hC dL_law_1324 ?_
  refine vs_iadd hC dL_law_1325 ?_
  refine vs_sld hC hW hScr (by omega) hp3 dL_law_1326 ?_
  have hW : vs_Wd g A _ (vs_W3 g aM rM qM M ++ (vs_W2 h0 (aS 0) (aT 0) (aK 0) n0 V ++ (vs_W1 g aS S ++ (vs_W1 g aT T ++ (vs_W0 g aK K ++ (vs_WO g o O2 ++ wr)))))) _ _ s := vs_Wd.perm hW vs_p6
  refine vs_callVI [.int (vs_I p1), .int (vs_I p2), .int (vs_I p3)] hC hW 0 rfl rfl vk_X3_diskOfCopy vm_L_201 (c_X3_diskOfCopy l g aM rM qM (vs_W2 h0 (aS 0) (aT 0) (aK 0) n0 V ++ (vs_W1 g aS S ++ (vs_W1 g aT T ++ (vs_W0 g aK K ++ (vs_WO g o O2 ++ wr))))) M p1 p2 p3 _ hw) rfl hl.1 rfl ⟨rfl, rfl⟩ ⟨Nat.le_of_ble_eq_true rfl, Nat.le_of_ble_eq_true rfl⟩ ⟨show _ ≤ 603072 by omega, show _ ≤ 7207018 by omega⟩ (Nat.le_of_ble_eq_true rfl) dL_law_1327 (fun r3 M4 H locs hw hW => ?_)
  have hW : vs_Wd g A _ (vs_W3 g aM rM qM M4 ++ (vs_W2 h0 (aS 0) (aT 0) (aK 0) n0 V ++ (vs_W1 g aS S ++ (vs_W1 g aT T ++ (vs_W0 g aK K ++ (vs_WO g o O2 ++ wr)))))) _ _ s := hW
  have hW : vs_Wd g A _ (vs_W2 h0 (aS 0) (aT 0) (aK 0) n0 V ++ (vs_W1 g aS S ++ (vs_W1 g aT T ++ (vs_W0 g aK K ++ (vs_WO g o O2 ++ (vs_W3 g aM rM qM M4 ++ wr)))))) _ _ s := vs_Wd.perm hW (List.Perm.symm vs_p6)
  refine vs_istore (L' := [(0, .ref b), (1, .ref h0), (2, .ref (aM 0)), (3, .ref o), (4, .ref od), (5, .int (vs_I i)), (6, .int (vs_I r1)), (7, .int (vs_I r3))]) hC hl [1, 2, 3, 4, 5, 6, 7, 0] dL_law_1330 (by decide) rfl (fun ls hl => ?_)
  refine vs_aload_n hC hl 2 dL_law_1332 rfl rfl ?_
  have hW : vs_Wd g A _ (vs_W3 g aM rM qM M4 ++ (vs_W2 h0 (aS 0) (aT 0) (aK 0) n0 V ++ (vs_W1 g aS S ++ (vs_W1 g aT T ++ (vs_W0 g aK K ++ (vs_WO g o O2 ++ wr)))))) _ _ s := vs_Wd.perm hW vs_p6
  refine vs_callVI [] hC hW 0 rfl rfl vk_X3_thrown vm_L_133 (c_X3_thrown l g aM rM qM (vs_W2 h0 (aS 0) (aT 0) (aK 0) n0 V ++ (vs_W1 g aS S ++ (vs_W1 g aT T ++ (vs_W0 g aK K ++ (vs_WO g o O2 ++ wr))))) M4  _ hw) rfl hl.1 rfl ⟨rfl, rfl⟩ ⟨Nat.le_of_ble_eq_true rfl, Nat.le_of_ble_eq_true rfl⟩ ⟨show _ ≤ 603072 by omega, show _ ≤ 7207018 by omega⟩ (Nat.le_of_ble_eq_true rfl) dL_law_1333 (fun r5 _ H locs hw hW => ?_)
  have hW : vs_Wd g A _ (vs_W3 g aM rM qM M4 ++ (vs_W2 h0 (aS 0) (aT 0) (aK 0) n0 V ++ (vs_W1 g aS S ++ (vs_W1 g aT T ++ (vs_W0 g aK K ++ (vs_WO g o O2 ++ wr)))))) _ _ s := hW
  have hW : vs_Wd g A _ (vs_W2 h0 (aS 0) (aT 0) (aK 0) n0 V ++ (vs_W1 g aS S ++ (vs_W1 g aT T ++ (vs_W0 g aK K ++ (vs_WO g o O2 ++ (vs_W3 g aM rM qM M4 ++ wr)))))) _ _ s := vs_Wd.perm hW (List.Perm.symm vs_p6)
  refine vs_iload hC hl 6 dL_law_1336 rfl ?_
  obtain ⟨hx, hw⟩ := hw
  obtain ⟨hy, hw⟩ := hw
  obtain ⟨hwt, hwf⟩ := hw
  refine vs_icmp_eq hC 1343 hx hy dL_law_1338 (by decide) (fun hc => ?_) (fun hc => ?_)
  · have hw := hwt hc
    clear hwt hwf hc
    refine vs_iload hC hl 6 dL_law_1343 rfl ?_
    obtain ⟨hx, hw⟩ := hw
    obtain ⟨hwt, hwf⟩ := hw
    refine vs_if_ne hC 1360 hx dL_law_1345 (by decide) (fun hc => ?_) (fun hc => ?_)
    · have hw := hwt hc
      clear hwt hwf hc
      refine vs_goto hC 2295 dL_law_1360 (by decide) ?_
      exact kk V S T K O2 M4 _ _ _ _ _ (by omega) (by omega) hw hW (lv_sub hl [0, 1, 2, 3, 4, 5] rfl)
    · have hw := hwf hc
      clear hwt hwf hc
      refine vs_aload_n hC hl 3 dL_law_1348 rfl rfl ?_
      refine vs_iconst hC dL_law_1349 ?_
      refine vs_lald hC hW 37 rfl dL_law_1350 ?_
      refine vs_iload hC hl 7 dL_law_1351 rfl ?_
      obtain ⟨hx, hw⟩ := hw
      refine vs_i2l hC hx dL_law_1353 ?_
      obtain ⟨hx, hw⟩ := hw
      obtain ⟨hy, hw⟩ := hw
      refine vs_lcmp hC hx hy dL_law_1354 ?_
      obtain ⟨hx, hw⟩ := hw
      obtain ⟨hwt, hwf⟩ := hw
      refine vs_if_eq hC 1360 hx dL_law_1355 (by decide) (fun hc => ?_) (fun hc => ?_)
      · have hw := hwt hc
        clear hwt hwf hc
        refine vs_goto hC 2295 dL_law_1360 (by decide) ?_
        exact kk V S T K O2 M4 _ _ _ _ _ (by omega) (by omega) hw hW (lv_sub hl [0, 1, 2, 3, 4, 5] rfl)
      · have hw := hwf hc
        clear hwt hwf hc
        refine vs_iconst hC dL_law_1358 ?_
        exact hw.elim
  · have hw := hwf hc
    clear hwt hwf hc
    refine vs_iconst hC dL_law_1341 ?_
    exact hw.elim
set_option maxHeartbeats 4000000 in
set_option maxRecDepth 100000 in
theorem case_21 {p : Program} {l : Launch} {e : Env} {s : State} {m : MethodId} {args : Array Value} {below : List Frame} {meth : Method} {c : Code} {H : Heap} {locs : List Loc} {cells slots : Nat} {Q : State → Prop} {ls : Array Slot} {g : vs_G} {sd : Nat → Nat} {A : Nat → Prop} {h0 n0 o od b L : Nat} {aS aT aK aM rM qM : Nat → Nat} {wr : va_W} {V S T K O M : vs_St} {i p1 p2 p3 : Int} {xs : Nat → Int32} {post : vs_St → vs_St → vs_St → vs_St → vs_St → vs_St → Prop} (hst : l.stackTraces = false) (hC : CallFix p m c cL_law 9 s args vs_ws RL) (hX : vs_Xs g sd A s s.heap) (hScr : vs_Scr b L xs A s) (hi : 0 ≤ i ∧ i + 4 ≤ L ∧ L ≤ 2048) (hp1 : xs (i + 1).toNat = vs_I p1) (hp2 : xs (i + 2).toNat = vs_I p2) (hp3 : xs (i + 3).toNat = vs_I p3) (hcap : cells + 16 ≤ 603072 ∧ slots + 96 ≤ 7207018) (hW : vs_Wd g A s.heap (vs_W2 h0 (aS 0) (aT 0) (aK 0) n0 V ++ (vs_W1 g aS S ++ (vs_W1 g aT T ++ (vs_W0 g aK K ++ (vs_WO g o O ++ (vs_W3 g aM rM qM M ++ wr)))))) H locs s) (hl : lv_has ls 9 [(0, .ref b), (1, .ref h0), (2, .ref (aM 0)), (3, .ref o), (4, .ref od), (5, .int (vs_I i))])
    (hw : wcase_21 V S T K O M i p1 p2 p3 post) (kk : ∀ (V' S' T' K' O' M' : vs_St) (H : Heap) (locs : List Loc) (ls : Array Slot) (c2 s2 : Nat), c2 ≤ cells + 16 → s2 ≤ slots + 96 → post V' S' T' K' O' M' → vs_Wd g A s.heap (vs_W2 h0 (aS 0) (aT 0) (aK 0) n0 V' ++ (vs_W1 g aS S' ++ (vs_W1 g aT T' ++ (vs_W0 g aK K' ++ (vs_WO g o O' ++ (vs_W3 g aM rM qM M' ++ wr)))))) H locs s → lv_has ls 9 [(0, .ref b), (1, .ref h0), (2, .ref (aM 0)), (3, .ref o), (4, .ref od), (5, .int (vs_I i))] → W p l e room_1 s m args below meth c H locs c2 s2 Q (F0 m 2295 ls [])) :
    W p l e room_1 s m args below meth c H locs cells slots Q (F0 m 1363 ls []) := by
  unfold wcase_21 at hw
  refine vs_aload_n hC hl 1 dL_law_1363 rfl rfl ?_
  refine vs_aload_n hC hl 0 dL_law_1364 rfl rfl ?_
  refine vs_iload hC hl 5 dL_law_1365 rfl ?_
  refine vs_iconst hC dL_law_1367 ?_
  refine vs_iadd hC dL_law_1368 ?_
  refine vs_sld hC hW hScr (by omega) hp1 dL_law_1369 ?_
  refine vs_aload_n hC hl 0 dL_law_1370 rfl rfl ?_
  refine vs_iload hC hl 5 dL_law_1371 rfl ?_
  refine vs_iconst hC dL_law_1373 ?_
  refine vs_iadd hC dL_law_1374 ?_
  refine vs_sld hC hW hScr (by omega) hp2 dL_law_1375 ?_
  refine vs_aload_n hC hl 3 dL_law_1376 rfl rfl ?_
  refine vs_callHI [.ref h0, .int (vs_I p1), .int (vs_I p2), .ref o] hC hW hX vk_L_valueOf vm_L_202 (c_L_valueOf l hst g sd h0 n0 o aS aT aK (vs_W3 g aM rM qM M ++ wr) V S T K O p1 p2 _ hw) rfl hl.1 rfl ⟨rfl, rfl⟩ ⟨Nat.le_of_ble_eq_true rfl, Nat.le_of_ble_eq_true rfl⟩ ⟨show _ ≤ 603072 by omega, show _ ≤ 7207018 by omega⟩ (Nat.le_of_ble_eq_true rfl) dL_law_1377 (fun r1 O2 H locs hw hW => ?_)
  have hW : vs_Wd g A _ (vs_W2 h0 (aS 0) (aT 0) (aK 0) n0 V ++ (vs_W1 g aS S ++ (vs_W1 g aT T ++ (vs_W0 g aK K ++ (vs_WO g o O2 ++ (vs_W3 g aM rM qM M ++ wr)))))) _ _ s := hW
  refine vs_istore (L' := [(0, .ref b), (1, .ref h0), (2, .ref (aM 0)), (3, .ref o), (4, .ref od), (5, .int (vs_I i)), (6, .int (vs_I r1))]) hC hl [1, 2, 3, 4, 5, 6, 0] dL_law_1380 (by decide) rfl (fun ls hl => ?_)
  refine vs_aload_n hC hl 2 dL_law_1382 rfl rfl ?_
  refine vs_aload_n hC hl 0 dL_law_1383 rfl rfl ?_
  refine vs_iload hC hl 5 dL_law_1384 rfl ?_
  refine vs_iconst hC dL_law_1386 ?_
  refine vs_iadd hC dL_law_1387 ?_
  refine vs_sld hC hW hScr (by omega) hp1 dL_law_1388 ?_
  refine vs_aload_n hC hl 0 dL_law_1389 rfl rfl ?_
  refine vs_iload hC hl 5 dL_law_1390 rfl ?_
  refine vs_iconst hC dL_law_1392 ?_
  refine vs_iadd hC dL_law_1393 ?_
  refine vs_sld hC hW hScr (by omega) hp2 dL_law_1394 ?_
  have hW : vs_Wd g A _ (vs_W3 g aM rM qM M ++ (vs_W2 h0 (aS 0) (aT 0) (aK 0) n0 V ++ (vs_W1 g aS S ++ (vs_W1 g aT T ++ (vs_W0 g aK K ++ (vs_WO g o O2 ++ wr)))))) _ _ s := vs_Wd.perm hW vs_p6
  refine vs_callVI [.int (vs_I p1), .int (vs_I p2)] hC hW 0 rfl rfl vk_X3_valueOf vm_L_204 (c_X3_valueOf l g aM rM qM (vs_W2 h0 (aS 0) (aT 0) (aK 0) n0 V ++ (vs_W1 g aS S ++ (vs_W1 g aT T ++ (vs_W0 g aK K ++ (vs_WO g o O2 ++ wr))))) M p1 p2 _ hw) rfl hl.1 rfl ⟨rfl, rfl⟩ ⟨Nat.le_of_ble_eq_true rfl, Nat.le_of_ble_eq_true rfl⟩ ⟨show _ ≤ 603072 by omega, show _ ≤ 7207018 by omega⟩ (Nat.le_of_ble_eq_true rfl) dL_law_1395 (fun r3 M4 H locs hw hW => ?_)
  have hW : vs_Wd g A _ (vs_W3 g aM rM qM M4 ++ (vs_W2 h0 (aS 0) (aT 0) (aK 0) n0 V ++ (vs_W1 g aS S ++ (vs_W1 g aT T ++ (vs_W0 g aK K ++ (vs_WO g o O2 ++ wr)))))) _ _ s := hW
  have hW : vs_Wd g A _ (vs_W2 h0 (aS 0) (aT 0) (aK 0) n0 V ++ (vs_W1 g aS S ++ (vs_W1 g aT T ++ (vs_W0 g aK K ++ (vs_WO g o O2 ++ (vs_W3 g aM rM qM M4 ++ wr)))))) _ _ s := vs_Wd.perm hW (List.Perm.symm vs_p6)
  refine vs_istore (L' := [(0, .ref b), (1, .ref h0), (2, .ref (aM 0)), (3, .ref o), (4, .ref od), (5, .int (vs_I i)), (6, .int (vs_I r1)), (7, .int (vs_I r3))]) hC hl [1, 2, 3, 4, 5, 6, 7, 0] dL_law_1398 (by decide) rfl (fun ls hl => ?_)
  refine vs_aload_n hC hl 2 dL_law_1400 rfl rfl ?_
  have hW : vs_Wd g A _ (vs_W3 g aM rM qM M4 ++ (vs_W2 h0 (aS 0) (aT 0) (aK 0) n0 V ++ (vs_W1 g aS S ++ (vs_W1 g aT T ++ (vs_W0 g aK K ++ (vs_WO g o O2 ++ wr)))))) _ _ s := vs_Wd.perm hW vs_p6
  refine vs_callVI [] hC hW 0 rfl rfl vk_X3_thrown vm_L_133 (c_X3_thrown l g aM rM qM (vs_W2 h0 (aS 0) (aT 0) (aK 0) n0 V ++ (vs_W1 g aS S ++ (vs_W1 g aT T ++ (vs_W0 g aK K ++ (vs_WO g o O2 ++ wr))))) M4  _ hw) rfl hl.1 rfl ⟨rfl, rfl⟩ ⟨Nat.le_of_ble_eq_true rfl, Nat.le_of_ble_eq_true rfl⟩ ⟨show _ ≤ 603072 by omega, show _ ≤ 7207018 by omega⟩ (Nat.le_of_ble_eq_true rfl) dL_law_1401 (fun r5 _ H locs hw hW => ?_)
  have hW : vs_Wd g A _ (vs_W3 g aM rM qM M4 ++ (vs_W2 h0 (aS 0) (aT 0) (aK 0) n0 V ++ (vs_W1 g aS S ++ (vs_W1 g aT T ++ (vs_W0 g aK K ++ (vs_WO g o O2 ++ wr)))))) _ _ s := hW
  have hW : vs_Wd g A _ (vs_W2 h0 (aS 0) (aT 0) (aK 0) n0 V ++ (vs_W1 g aS S ++ (vs_W1 g aT T ++ (vs_W0 g aK K ++ (vs_WO g o O2 ++ (vs_W3 g aM rM qM M4 ++ wr)))))) _ _ s := vs_Wd.perm hW (List.Perm.symm vs_p6)
  refine vs_iload hC hl 6 dL_law_1404 rfl ?_
  obtain ⟨hx, hw⟩ := hw
  obtain ⟨hy, hw⟩ := hw
  obtain ⟨hwt, hwf⟩ := hw
  refine vs_icmp_eq hC 1411 hx hy dL_law_1406 (by decide) (fun hc => ?_) (fun hc => ?_)
  · have hw := hwt hc
    clear hwt hwf hc
    refine vs_iload hC hl 6 dL_law_1411 rfl ?_
    obtain ⟨hx, hw⟩ := hw
    obtain ⟨hwt, hwf⟩ := hw
    refine vs_if_ne hC 1428 hx dL_law_1413 (by decide) (fun hc => ?_) (fun hc => ?_)
    · have hw := hwt hc
      clear hwt hwf hc
      refine vs_goto hC 2295 dL_law_1428 (by decide) ?_
      exact kk V S T K O2 M4 _ _ _ _ _ (by omega) (by omega) hw hW (lv_sub hl [0, 1, 2, 3, 4, 5] rfl)
    · have hw := hwf hc
      clear hwt hwf hc
      refine vs_aload_n hC hl 3 dL_law_1416 rfl rfl ?_
      refine vs_iconst hC dL_law_1417 ?_
      refine vs_lald hC hW 37 rfl dL_law_1418 ?_
      refine vs_iload hC hl 7 dL_law_1419 rfl ?_
      obtain ⟨hx, hw⟩ := hw
      refine vs_i2l hC hx dL_law_1421 ?_
      obtain ⟨hx, hw⟩ := hw
      obtain ⟨hy, hw⟩ := hw
      refine vs_lcmp hC hx hy dL_law_1422 ?_
      obtain ⟨hx, hw⟩ := hw
      obtain ⟨hwt, hwf⟩ := hw
      refine vs_if_eq hC 1428 hx dL_law_1423 (by decide) (fun hc => ?_) (fun hc => ?_)
      · have hw := hwt hc
        clear hwt hwf hc
        refine vs_goto hC 2295 dL_law_1428 (by decide) ?_
        exact kk V S T K O2 M4 _ _ _ _ _ (by omega) (by omega) hw hW (lv_sub hl [0, 1, 2, 3, 4, 5] rfl)
      · have hw := hwf hc
        clear hwt hwf hc
        refine vs_iconst hC dL_law_1426 ?_
        exact hw.elim
  · have hw := hwf hc
    clear hwt hwf hc
    refine vs_iconst hC dL_law_1409 ?_
    exact hw.elim
set_option maxHeartbeats 4000000 in
set_option maxRecDepth 100000 in
theorem case_22 {p : Program} {l : Launch} {e : Env} {s : State} {m : MethodId} {args : Array Value} {below : List Frame} {meth : Method} {c : Code} {H : Heap} {locs : List Loc} {cells slots : Nat} {Q : State → Prop} {ls : Array Slot} {g : vs_G} {sd : Nat → Nat} {A : Nat → Prop} {h0 n0 o od b L : Nat} {aS aT aK aM rM qM : Nat → Nat} {wr : va_W} {V S T K O M : vs_St} {i p1 p2 p3 : Int} {xs : Nat → Int32} {post : vs_St → vs_St → vs_St → vs_St → vs_St → vs_St → Prop} (hst : l.stackTraces = false) (hC : CallFix p m c cL_law 9 s args vs_ws RL) (hX : vs_Xs g sd A s s.heap) (hScr : vs_Scr b L xs A s) (hi : 0 ≤ i ∧ i + 4 ≤ L ∧ L ≤ 2048) (hp1 : xs (i + 1).toNat = vs_I p1) (hp2 : xs (i + 2).toNat = vs_I p2) (hp3 : xs (i + 3).toNat = vs_I p3) (hcap : cells + 16 ≤ 603072 ∧ slots + 96 ≤ 7207018) (hW : vs_Wd g A s.heap (vs_W2 h0 (aS 0) (aT 0) (aK 0) n0 V ++ (vs_W1 g aS S ++ (vs_W1 g aT T ++ (vs_W0 g aK K ++ (vs_WO g o O ++ (vs_W3 g aM rM qM M ++ wr)))))) H locs s) (hl : lv_has ls 9 [(0, .ref b), (1, .ref h0), (2, .ref (aM 0)), (3, .ref o), (4, .ref od), (5, .int (vs_I i))])
    (hw : wcase_22 V S T K O M i p1 p2 p3 post) (kk : ∀ (V' S' T' K' O' M' : vs_St) (H : Heap) (locs : List Loc) (ls : Array Slot) (c2 s2 : Nat), c2 ≤ cells + 16 → s2 ≤ slots + 96 → post V' S' T' K' O' M' → vs_Wd g A s.heap (vs_W2 h0 (aS 0) (aT 0) (aK 0) n0 V' ++ (vs_W1 g aS S' ++ (vs_W1 g aT T' ++ (vs_W0 g aK K' ++ (vs_WO g o O' ++ (vs_W3 g aM rM qM M' ++ wr)))))) H locs s → lv_has ls 9 [(0, .ref b), (1, .ref h0), (2, .ref (aM 0)), (3, .ref o), (4, .ref od), (5, .int (vs_I i))] → W p l e room_1 s m args below meth c H locs c2 s2 Q (F0 m 2295 ls [])) :
    W p l e room_1 s m args below meth c H locs cells slots Q (F0 m 1431 ls []) := by
  unfold wcase_22 at hw
  refine vs_aload_n hC hl 1 dL_law_1431 rfl rfl ?_
  refine vs_aload_n hC hl 0 dL_law_1432 rfl rfl ?_
  refine vs_iload hC hl 5 dL_law_1433 rfl ?_
  refine vs_iconst hC dL_law_1435 ?_
  refine vs_iadd hC dL_law_1436 ?_
  refine vs_sld hC hW hScr (by omega) hp1 dL_law_1437 ?_
  refine vs_aload_n hC hl 0 dL_law_1438 rfl rfl ?_
  refine vs_iload hC hl 5 dL_law_1439 rfl ?_
  refine vs_iconst hC dL_law_1441 ?_
  refine vs_iadd hC dL_law_1442 ?_
  refine vs_sld hC hW hScr (by omega) hp2 dL_law_1443 ?_
  refine vs_aload_n hC hl 3 dL_law_1444 rfl rfl ?_
  refine vs_callHI [.ref h0, .int (vs_I p1), .int (vs_I p2), .ref o] hC hW hX vk_L_isLost vm_L_205 (c_L_isLost l hst g sd h0 n0 o aS aT aK (vs_W3 g aM rM qM M ++ wr) V S T K O p1 p2 _ hw) rfl hl.1 rfl ⟨rfl, rfl⟩ ⟨Nat.le_of_ble_eq_true rfl, Nat.le_of_ble_eq_true rfl⟩ ⟨show _ ≤ 603072 by omega, show _ ≤ 7207018 by omega⟩ (Nat.le_of_ble_eq_true rfl) dL_law_1445 (fun r1 O2 H locs hw hW => ?_)
  have hW : vs_Wd g A _ (vs_W2 h0 (aS 0) (aT 0) (aK 0) n0 V ++ (vs_W1 g aS S ++ (vs_W1 g aT T ++ (vs_W0 g aK K ++ (vs_WO g o O2 ++ (vs_W3 g aM rM qM M ++ wr)))))) _ _ s := hW
  refine vs_istore (L' := [(0, .ref b), (1, .ref h0), (2, .ref (aM 0)), (3, .ref o), (4, .ref od), (5, .int (vs_I i)), (6, .int (vs_I r1))]) hC hl [1, 2, 3, 4, 5, 6, 0] dL_law_1448 (by decide) rfl (fun ls hl => ?_)
  refine vs_aload_n hC hl 2 dL_law_1450 rfl rfl ?_
  refine vs_aload_n hC hl 0 dL_law_1451 rfl rfl ?_
  refine vs_iload hC hl 5 dL_law_1452 rfl ?_
  refine vs_iconst hC dL_law_1454 ?_
  refine vs_iadd hC dL_law_1455 ?_
  refine vs_sld hC hW hScr (by omega) hp1 dL_law_1456 ?_
  refine vs_aload_n hC hl 0 dL_law_1457 rfl rfl ?_
  refine vs_iload hC hl 5 dL_law_1458 rfl ?_
  refine vs_iconst hC dL_law_1460 ?_
  refine vs_iadd hC dL_law_1461 ?_
  refine vs_sld hC hW hScr (by omega) hp2 dL_law_1462 ?_
  have hW : vs_Wd g A _ (vs_W3 g aM rM qM M ++ (vs_W2 h0 (aS 0) (aT 0) (aK 0) n0 V ++ (vs_W1 g aS S ++ (vs_W1 g aT T ++ (vs_W0 g aK K ++ (vs_WO g o O2 ++ wr)))))) _ _ s := vs_Wd.perm hW vs_p6
  refine vs_callVI [.int (vs_I p1), .int (vs_I p2)] hC hW 0 rfl rfl vk_X3_isLost vm_L_207 (c_X3_isLost l g aM rM qM (vs_W2 h0 (aS 0) (aT 0) (aK 0) n0 V ++ (vs_W1 g aS S ++ (vs_W1 g aT T ++ (vs_W0 g aK K ++ (vs_WO g o O2 ++ wr))))) M p1 p2 _ hw) rfl hl.1 rfl ⟨rfl, rfl⟩ ⟨Nat.le_of_ble_eq_true rfl, Nat.le_of_ble_eq_true rfl⟩ ⟨show _ ≤ 603072 by omega, show _ ≤ 7207018 by omega⟩ (Nat.le_of_ble_eq_true rfl) dL_law_1463 (fun r3 M4 H locs hw hW => ?_)
  have hW : vs_Wd g A _ (vs_W3 g aM rM qM M4 ++ (vs_W2 h0 (aS 0) (aT 0) (aK 0) n0 V ++ (vs_W1 g aS S ++ (vs_W1 g aT T ++ (vs_W0 g aK K ++ (vs_WO g o O2 ++ wr)))))) _ _ s := hW
  have hW : vs_Wd g A _ (vs_W2 h0 (aS 0) (aT 0) (aK 0) n0 V ++ (vs_W1 g aS S ++ (vs_W1 g aT T ++ (vs_W0 g aK K ++ (vs_WO g o O2 ++ (vs_W3 g aM rM qM M4 ++ wr)))))) _ _ s := vs_Wd.perm hW (List.Perm.symm vs_p6)
  refine vs_istore (L' := [(0, .ref b), (1, .ref h0), (2, .ref (aM 0)), (3, .ref o), (4, .ref od), (5, .int (vs_I i)), (6, .int (vs_I r1)), (7, .int (vs_I r3))]) hC hl [1, 2, 3, 4, 5, 6, 7, 0] dL_law_1466 (by decide) rfl (fun ls hl => ?_)
  refine vs_aload_n hC hl 2 dL_law_1468 rfl rfl ?_
  have hW : vs_Wd g A _ (vs_W3 g aM rM qM M4 ++ (vs_W2 h0 (aS 0) (aT 0) (aK 0) n0 V ++ (vs_W1 g aS S ++ (vs_W1 g aT T ++ (vs_W0 g aK K ++ (vs_WO g o O2 ++ wr)))))) _ _ s := vs_Wd.perm hW vs_p6
  refine vs_callVI [] hC hW 0 rfl rfl vk_X3_thrown vm_L_133 (c_X3_thrown l g aM rM qM (vs_W2 h0 (aS 0) (aT 0) (aK 0) n0 V ++ (vs_W1 g aS S ++ (vs_W1 g aT T ++ (vs_W0 g aK K ++ (vs_WO g o O2 ++ wr))))) M4  _ hw) rfl hl.1 rfl ⟨rfl, rfl⟩ ⟨Nat.le_of_ble_eq_true rfl, Nat.le_of_ble_eq_true rfl⟩ ⟨show _ ≤ 603072 by omega, show _ ≤ 7207018 by omega⟩ (Nat.le_of_ble_eq_true rfl) dL_law_1469 (fun r5 _ H locs hw hW => ?_)
  have hW : vs_Wd g A _ (vs_W3 g aM rM qM M4 ++ (vs_W2 h0 (aS 0) (aT 0) (aK 0) n0 V ++ (vs_W1 g aS S ++ (vs_W1 g aT T ++ (vs_W0 g aK K ++ (vs_WO g o O2 ++ wr)))))) _ _ s := hW
  have hW : vs_Wd g A _ (vs_W2 h0 (aS 0) (aT 0) (aK 0) n0 V ++ (vs_W1 g aS S ++ (vs_W1 g aT T ++ (vs_W0 g aK K ++ (vs_WO g o O2 ++ (vs_W3 g aM rM qM M4 ++ wr)))))) _ _ s := vs_Wd.perm hW (List.Perm.symm vs_p6)
  refine vs_iload hC hl 6 dL_law_1472 rfl ?_
  obtain ⟨hx, hw⟩ := hw
  obtain ⟨hy, hw⟩ := hw
  obtain ⟨hwt, hwf⟩ := hw
  refine vs_icmp_eq hC 1479 hx hy dL_law_1474 (by decide) (fun hc => ?_) (fun hc => ?_)
  · have hw := hwt hc
    clear hwt hwf hc
    refine vs_iload hC hl 6 dL_law_1479 rfl ?_
    obtain ⟨hx, hw⟩ := hw
    obtain ⟨hwt, hwf⟩ := hw
    refine vs_if_ne hC 1503 hx dL_law_1481 (by decide) (fun hc => ?_) (fun hc => ?_)
    · have hw := hwt hc
      clear hwt hwf hc
      refine vs_goto hC 2295 dL_law_1503 (by decide) ?_
      exact kk V S T K O2 M4 _ _ _ _ _ (by omega) (by omega) hw hW (lv_sub hl [0, 1, 2, 3, 4, 5] rfl)
    · have hw := hwf hc
      clear hwt hwf hc
      refine vs_aload_n hC hl 3 dL_law_1484 rfl rfl ?_
      refine vs_iconst hC dL_law_1485 ?_
      refine vs_lald hC hW 37 rfl dL_law_1486 ?_
      refine vs_iload hC hl 7 dL_law_1487 rfl ?_
      obtain ⟨hx, hw⟩ := hw
      obtain ⟨hwt, hwf⟩ := hw
      refine vs_if_eq hC 1496 hx dL_law_1489 (by decide) (fun hc => ?_) (fun hc => ?_)
      · have hw := hwt hc
        clear hwt hwf hc
        refine vs_lconst (x := 0) hC dL_law_1496 (by decide +kernel) ?_
        obtain ⟨hx, hw⟩ := hw
        refine vs_lcmp hC hx ⟨by decide, by decide⟩ dL_law_1497 ?_
        obtain ⟨hx, hw⟩ := hw
        obtain ⟨hwt, hwf⟩ := hw
        refine vs_if_eq hC 1503 hx dL_law_1498 (by decide) (fun hc => ?_) (fun hc => ?_)
        · have hw := hwt hc
          clear hwt hwf hc
          refine vs_goto hC 2295 dL_law_1503 (by decide) ?_
          exact kk V S T K O2 M4 _ _ _ _ _ (by omega) (by omega) hw hW (lv_sub hl [0, 1, 2, 3, 4, 5] rfl)
        · have hw := hwf hc
          clear hwt hwf hc
          refine vs_iconst hC dL_law_1501 ?_
          exact hw.elim
      · have hw := hwf hc
        clear hwt hwf hc
        refine vs_lconst (x := 1) hC dL_law_1492 (by decide +kernel) ?_
        refine vs_goto hC 1497 dL_law_1493 (by decide) ?_
        obtain ⟨hx, hw⟩ := hw
        refine vs_lcmp hC hx ⟨by decide, by decide⟩ dL_law_1497 ?_
        obtain ⟨hx, hw⟩ := hw
        obtain ⟨hwt, hwf⟩ := hw
        refine vs_if_eq hC 1503 hx dL_law_1498 (by decide) (fun hc => ?_) (fun hc => ?_)
        · have hw := hwt hc
          clear hwt hwf hc
          refine vs_goto hC 2295 dL_law_1503 (by decide) ?_
          exact kk V S T K O2 M4 _ _ _ _ _ (by omega) (by omega) hw hW (lv_sub hl [0, 1, 2, 3, 4, 5] rfl)
        · have hw := hwf hc
          clear hwt hwf hc
          refine vs_iconst hC dL_law_1501 ?_
          exact hw.elim
  · have hw := hwf hc
    clear hwt hwf hc
    refine vs_iconst hC dL_law_1477 ?_
    exact hw.elim
set_option maxHeartbeats 4000000 in
set_option maxRecDepth 100000 in
theorem case_23 {p : Program} {l : Launch} {e : Env} {s : State} {m : MethodId} {args : Array Value} {below : List Frame} {meth : Method} {c : Code} {H : Heap} {locs : List Loc} {cells slots : Nat} {Q : State → Prop} {ls : Array Slot} {g : vs_G} {sd : Nat → Nat} {A : Nat → Prop} {h0 n0 o od b L : Nat} {aS aT aK aM rM qM : Nat → Nat} {wr : va_W} {V S T K O M : vs_St} {i p1 p2 p3 : Int} {xs : Nat → Int32} {post : vs_St → vs_St → vs_St → vs_St → vs_St → vs_St → Prop} (hst : l.stackTraces = false) (hC : CallFix p m c cL_law 9 s args vs_ws RL) (hX : vs_Xs g sd A s s.heap) (hScr : vs_Scr b L xs A s) (hi : 0 ≤ i ∧ i + 4 ≤ L ∧ L ≤ 2048) (hp1 : xs (i + 1).toNat = vs_I p1) (hp2 : xs (i + 2).toNat = vs_I p2) (hp3 : xs (i + 3).toNat = vs_I p3) (hcap : cells + 16 ≤ 603072 ∧ slots + 96 ≤ 7207018) (hW : vs_Wd g A s.heap (vs_W2 h0 (aS 0) (aT 0) (aK 0) n0 V ++ (vs_W1 g aS S ++ (vs_W1 g aT T ++ (vs_W0 g aK K ++ (vs_WO g o O ++ (vs_W3 g aM rM qM M ++ wr)))))) H locs s) (hl : lv_has ls 9 [(0, .ref b), (1, .ref h0), (2, .ref (aM 0)), (3, .ref o), (4, .ref od), (5, .int (vs_I i))])
    (hw : wcase_23 V S T K O M i p1 p2 p3 post) (kk : ∀ (V' S' T' K' O' M' : vs_St) (H : Heap) (locs : List Loc) (ls : Array Slot) (c2 s2 : Nat), c2 ≤ cells + 16 → s2 ≤ slots + 96 → post V' S' T' K' O' M' → vs_Wd g A s.heap (vs_W2 h0 (aS 0) (aT 0) (aK 0) n0 V' ++ (vs_W1 g aS S' ++ (vs_W1 g aT T' ++ (vs_W0 g aK K' ++ (vs_WO g o O' ++ (vs_W3 g aM rM qM M' ++ wr)))))) H locs s → lv_has ls 9 [(0, .ref b), (1, .ref h0), (2, .ref (aM 0)), (3, .ref o), (4, .ref od), (5, .int (vs_I i))] → W p l e room_1 s m args below meth c H locs c2 s2 Q (F0 m 2295 ls [])) :
    W p l e room_1 s m args below meth c H locs cells slots Q (F0 m 1506 ls []) := by
  unfold wcase_23 at hw
  refine vs_aload_n hC hl 1 dL_law_1506 rfl rfl ?_
  refine vs_callVI [] hC hW 0 rfl rfl vk_X2_lostBlocks vm_L_208 (c_X2_lostBlocks l g h0 n0 aS aT aK (vs_WO g o O ++ (vs_W3 g aM rM qM M ++ wr)) V S T K  _ hw) rfl hl.1 rfl ⟨rfl, rfl⟩ ⟨Nat.le_of_ble_eq_true rfl, Nat.le_of_ble_eq_true rfl⟩ ⟨show _ ≤ 603072 by omega, show _ ≤ 7207018 by omega⟩ (Nat.le_of_ble_eq_true rfl) dL_law_1507 (fun r1 _ H locs hw hW => ?_)
  have hW : vs_Wd g A _ (vs_W2 h0 (aS 0) (aT 0) (aK 0) n0 V ++ (vs_W1 g aS S ++ (vs_W1 g aT T ++ (vs_W0 g aK K ++ (vs_WO g o O ++ (vs_W3 g aM rM qM M ++ wr)))))) _ _ s := hW
  refine vs_aload_n hC hl 2 dL_law_1510 rfl rfl ?_
  have hW : vs_Wd g A _ (vs_W3 g aM rM qM M ++ (vs_W2 h0 (aS 0) (aT 0) (aK 0) n0 V ++ (vs_W1 g aS S ++ (vs_W1 g aT T ++ (vs_W0 g aK K ++ (vs_WO g o O ++ wr)))))) _ _ s := vs_Wd.perm hW vs_p6
  refine vs_callVI [] hC hW 0 rfl rfl vk_X3_lostBlocks vm_L_211 (c_X3_lostBlocks l g aM rM qM (vs_W2 h0 (aS 0) (aT 0) (aK 0) n0 V ++ (vs_W1 g aS S ++ (vs_W1 g aT T ++ (vs_W0 g aK K ++ (vs_WO g o O ++ wr))))) M  _ hw) rfl hl.1 rfl ⟨rfl, rfl⟩ ⟨Nat.le_of_ble_eq_true rfl, Nat.le_of_ble_eq_true rfl⟩ ⟨show _ ≤ 603072 by omega, show _ ≤ 7207018 by omega⟩ (Nat.le_of_ble_eq_true rfl) dL_law_1511 (fun r2 M3 H locs hw hW => ?_)
  have hW : vs_Wd g A _ (vs_W3 g aM rM qM M3 ++ (vs_W2 h0 (aS 0) (aT 0) (aK 0) n0 V ++ (vs_W1 g aS S ++ (vs_W1 g aT T ++ (vs_W0 g aK K ++ (vs_WO g o O ++ wr)))))) _ _ s := hW
  have hW : vs_Wd g A _ (vs_W2 h0 (aS 0) (aT 0) (aK 0) n0 V ++ (vs_W1 g aS S ++ (vs_W1 g aT T ++ (vs_W0 g aK K ++ (vs_WO g o O ++ (vs_W3 g aM rM qM M3 ++ wr)))))) _ _ s := vs_Wd.perm hW (List.Perm.symm vs_p6)
  obtain ⟨hx, hw⟩ := hw
  obtain ⟨hy, hw⟩ := hw
  obtain ⟨hwt, hwf⟩ := hw
  refine vs_icmp_eq hC 2295 hx hy dL_law_1514 (by decide) (fun hc => ?_) (fun hc => ?_)
  · have hw := hwt hc
    clear hwt hwf hc
    exact kk V S T K O M3 _ _ _ _ _ (by omega) (by omega) hw hW (lv_sub hl [0, 1, 2, 3, 4, 5] rfl)
  · have hw := hwf hc
    clear hwt hwf hc
    refine vs_iconst hC dL_law_1517 ?_
    exact hw.elim
set_option maxHeartbeats 4000000 in
set_option maxRecDepth 100000 in
theorem case_24 {p : Program} {l : Launch} {e : Env} {s : State} {m : MethodId} {args : Array Value} {below : List Frame} {meth : Method} {c : Code} {H : Heap} {locs : List Loc} {cells slots : Nat} {Q : State → Prop} {ls : Array Slot} {g : vs_G} {sd : Nat → Nat} {A : Nat → Prop} {h0 n0 o od b L : Nat} {aS aT aK aM rM qM : Nat → Nat} {wr : va_W} {V S T K O M : vs_St} {i p1 p2 p3 : Int} {xs : Nat → Int32} {post : vs_St → vs_St → vs_St → vs_St → vs_St → vs_St → Prop} (hst : l.stackTraces = false) (hC : CallFix p m c cL_law 9 s args vs_ws RL) (hX : vs_Xs g sd A s s.heap) (hScr : vs_Scr b L xs A s) (hi : 0 ≤ i ∧ i + 4 ≤ L ∧ L ≤ 2048) (hp1 : xs (i + 1).toNat = vs_I p1) (hp2 : xs (i + 2).toNat = vs_I p2) (hp3 : xs (i + 3).toNat = vs_I p3) (hcap : cells + 16 ≤ 603072 ∧ slots + 96 ≤ 7207018) (hW : vs_Wd g A s.heap (vs_W2 h0 (aS 0) (aT 0) (aK 0) n0 V ++ (vs_W1 g aS S ++ (vs_W1 g aT T ++ (vs_W0 g aK K ++ (vs_WO g o O ++ (vs_W3 g aM rM qM M ++ wr)))))) H locs s) (hl : lv_has ls 9 [(0, .ref b), (1, .ref h0), (2, .ref (aM 0)), (3, .ref o), (4, .ref od), (5, .int (vs_I i))])
    (hw : wcase_24 V S T K O M i p1 p2 p3 post) (kk : ∀ (V' S' T' K' O' M' : vs_St) (H : Heap) (locs : List Loc) (ls : Array Slot) (c2 s2 : Nat), c2 ≤ cells + 16 → s2 ≤ slots + 96 → post V' S' T' K' O' M' → vs_Wd g A s.heap (vs_W2 h0 (aS 0) (aT 0) (aK 0) n0 V' ++ (vs_W1 g aS S' ++ (vs_W1 g aT T' ++ (vs_W0 g aK K' ++ (vs_WO g o O' ++ (vs_W3 g aM rM qM M' ++ wr)))))) H locs s → lv_has ls 9 [(0, .ref b), (1, .ref h0), (2, .ref (aM 0)), (3, .ref o), (4, .ref od), (5, .int (vs_I i))] → W p l e room_1 s m args below meth c H locs c2 s2 Q (F0 m 2295 ls [])) :
    W p l e room_1 s m args below meth c H locs cells slots Q (F0 m 1519 ls []) := by
  unfold wcase_24 at hw
  refine vs_aload_n hC hl 1 dL_law_1519 rfl rfl ?_
  refine vs_callVI [] hC hW 0 rfl rfl vk_X2_degradedBlocks vm_L_212 (c_X2_degradedBlocks l g h0 n0 aS aT aK (vs_WO g o O ++ (vs_W3 g aM rM qM M ++ wr)) V S T K  _ hw) rfl hl.1 rfl ⟨rfl, rfl⟩ ⟨Nat.le_of_ble_eq_true rfl, Nat.le_of_ble_eq_true rfl⟩ ⟨show _ ≤ 603072 by omega, show _ ≤ 7207018 by omega⟩ (Nat.le_of_ble_eq_true rfl) dL_law_1520 (fun r1 _ H locs hw hW => ?_)
  have hW : vs_Wd g A _ (vs_W2 h0 (aS 0) (aT 0) (aK 0) n0 V ++ (vs_W1 g aS S ++ (vs_W1 g aT T ++ (vs_W0 g aK K ++ (vs_WO g o O ++ (vs_W3 g aM rM qM M ++ wr)))))) _ _ s := hW
  refine vs_aload_n hC hl 2 dL_law_1523 rfl rfl ?_
  have hW : vs_Wd g A _ (vs_W3 g aM rM qM M ++ (vs_W2 h0 (aS 0) (aT 0) (aK 0) n0 V ++ (vs_W1 g aS S ++ (vs_W1 g aT T ++ (vs_W0 g aK K ++ (vs_WO g o O ++ wr)))))) _ _ s := vs_Wd.perm hW vs_p6
  refine vs_callVI [] hC hW 0 rfl rfl vk_X3_degradedBlocks vm_L_215 (c_X3_degradedBlocks l g aM rM qM (vs_W2 h0 (aS 0) (aT 0) (aK 0) n0 V ++ (vs_W1 g aS S ++ (vs_W1 g aT T ++ (vs_W0 g aK K ++ (vs_WO g o O ++ wr))))) M  _ hw) rfl hl.1 rfl ⟨rfl, rfl⟩ ⟨Nat.le_of_ble_eq_true rfl, Nat.le_of_ble_eq_true rfl⟩ ⟨show _ ≤ 603072 by omega, show _ ≤ 7207018 by omega⟩ (Nat.le_of_ble_eq_true rfl) dL_law_1524 (fun r2 M3 H locs hw hW => ?_)
  have hW : vs_Wd g A _ (vs_W3 g aM rM qM M3 ++ (vs_W2 h0 (aS 0) (aT 0) (aK 0) n0 V ++ (vs_W1 g aS S ++ (vs_W1 g aT T ++ (vs_W0 g aK K ++ (vs_WO g o O ++ wr)))))) _ _ s := hW
  have hW : vs_Wd g A _ (vs_W2 h0 (aS 0) (aT 0) (aK 0) n0 V ++ (vs_W1 g aS S ++ (vs_W1 g aT T ++ (vs_W0 g aK K ++ (vs_WO g o O ++ (vs_W3 g aM rM qM M3 ++ wr)))))) _ _ s := vs_Wd.perm hW (List.Perm.symm vs_p6)
  obtain ⟨hx, hw⟩ := hw
  obtain ⟨hy, hw⟩ := hw
  obtain ⟨hwt, hwf⟩ := hw
  refine vs_icmp_eq hC 2295 hx hy dL_law_1527 (by decide) (fun hc => ?_) (fun hc => ?_)
  · have hw := hwt hc
    clear hwt hwf hc
    exact kk V S T K O M3 _ _ _ _ _ (by omega) (by omega) hw hW (lv_sub hl [0, 1, 2, 3, 4, 5] rfl)
  · have hw := hwf hc
    clear hwt hwf hc
    refine vs_iconst hC dL_law_1530 ?_
    exact hw.elim
set_option maxHeartbeats 4000000 in
set_option maxRecDepth 100000 in
theorem case_25 {p : Program} {l : Launch} {e : Env} {s : State} {m : MethodId} {args : Array Value} {below : List Frame} {meth : Method} {c : Code} {H : Heap} {locs : List Loc} {cells slots : Nat} {Q : State → Prop} {ls : Array Slot} {g : vs_G} {sd : Nat → Nat} {A : Nat → Prop} {h0 n0 o od b L : Nat} {aS aT aK aM rM qM : Nat → Nat} {wr : va_W} {V S T K O M : vs_St} {i p1 p2 p3 : Int} {xs : Nat → Int32} {post : vs_St → vs_St → vs_St → vs_St → vs_St → vs_St → Prop} (hst : l.stackTraces = false) (hC : CallFix p m c cL_law 9 s args vs_ws RL) (hX : vs_Xs g sd A s s.heap) (hScr : vs_Scr b L xs A s) (hi : 0 ≤ i ∧ i + 4 ≤ L ∧ L ≤ 2048) (hp1 : xs (i + 1).toNat = vs_I p1) (hp2 : xs (i + 2).toNat = vs_I p2) (hp3 : xs (i + 3).toNat = vs_I p3) (hcap : cells + 16 ≤ 603072 ∧ slots + 96 ≤ 7207018) (hW : vs_Wd g A s.heap (vs_W2 h0 (aS 0) (aT 0) (aK 0) n0 V ++ (vs_W1 g aS S ++ (vs_W1 g aT T ++ (vs_W0 g aK K ++ (vs_WO g o O ++ (vs_W3 g aM rM qM M ++ wr)))))) H locs s) (hl : lv_has ls 9 [(0, .ref b), (1, .ref h0), (2, .ref (aM 0)), (3, .ref o), (4, .ref od), (5, .int (vs_I i))])
    (hw : wcase_25 V S T K O M i p1 p2 p3 post) (kk : ∀ (V' S' T' K' O' M' : vs_St) (H : Heap) (locs : List Loc) (ls : Array Slot) (c2 s2 : Nat), c2 ≤ cells + 16 → s2 ≤ slots + 96 → post V' S' T' K' O' M' → vs_Wd g A s.heap (vs_W2 h0 (aS 0) (aT 0) (aK 0) n0 V' ++ (vs_W1 g aS S' ++ (vs_W1 g aT T' ++ (vs_W0 g aK K' ++ (vs_WO g o O' ++ (vs_W3 g aM rM qM M' ++ wr)))))) H locs s → lv_has ls 9 [(0, .ref b), (1, .ref h0), (2, .ref (aM 0)), (3, .ref o), (4, .ref od), (5, .int (vs_I i))] → W p l e room_1 s m args below meth c H locs c2 s2 Q (F0 m 2295 ls [])) :
    W p l e room_1 s m args below meth c H locs cells slots Q (F0 m 1532 ls []) := by
  unfold wcase_25 at hw
  refine vs_aload_n hC hl 1 dL_law_1532 rfl rfl ?_
  refine vs_aload_n hC hl 0 dL_law_1533 rfl rfl ?_
  refine vs_iload hC hl 5 dL_law_1534 rfl ?_
  refine vs_iconst hC dL_law_1536 ?_
  refine vs_iadd hC dL_law_1537 ?_
  refine vs_sld hC hW hScr (by omega) hp1 dL_law_1538 ?_
  refine vs_aload_n hC hl 3 dL_law_1539 rfl rfl ?_
  refine vs_callHI [.ref h0, .int (vs_I p1), .ref o] hC hW hX vk_L_doesBear vm_L_216 (c_L_doesBear l hst g sd h0 n0 o aS aT aK (vs_W3 g aM rM qM M ++ wr) V S T K O p1 _ hw) rfl hl.1 rfl ⟨rfl, rfl⟩ ⟨Nat.le_of_ble_eq_true rfl, Nat.le_of_ble_eq_true rfl⟩ ⟨show _ ≤ 603072 by omega, show _ ≤ 7207018 by omega⟩ (Nat.le_of_ble_eq_true rfl) dL_law_1540 (fun r1 O2 H locs hw hW => ?_)
  have hW : vs_Wd g A _ (vs_W2 h0 (aS 0) (aT 0) (aK 0) n0 V ++ (vs_W1 g aS S ++ (vs_W1 g aT T ++ (vs_W0 g aK K ++ (vs_WO g o O2 ++ (vs_W3 g aM rM qM M ++ wr)))))) _ _ s := hW
  refine vs_istore (L' := [(0, .ref b), (1, .ref h0), (2, .ref (aM 0)), (3, .ref o), (4, .ref od), (5, .int (vs_I i)), (6, .int (vs_I r1))]) hC hl [1, 2, 3, 4, 5, 6, 0] dL_law_1543 (by decide) rfl (fun ls hl => ?_)
  refine vs_aload_n hC hl 2 dL_law_1545 rfl rfl ?_
  refine vs_aload_n hC hl 0 dL_law_1546 rfl rfl ?_
  refine vs_iload hC hl 5 dL_law_1547 rfl ?_
  refine vs_iconst hC dL_law_1549 ?_
  refine vs_iadd hC dL_law_1550 ?_
  refine vs_sld hC hW hScr (by omega) hp1 dL_law_1551 ?_
  have hW : vs_Wd g A _ (vs_W3 g aM rM qM M ++ (vs_W2 h0 (aS 0) (aT 0) (aK 0) n0 V ++ (vs_W1 g aS S ++ (vs_W1 g aT T ++ (vs_W0 g aK K ++ (vs_WO g o O2 ++ wr)))))) _ _ s := vs_Wd.perm hW vs_p6
  refine vs_callVI [.int (vs_I p1)] hC hW 0 rfl rfl vk_X3_doesBear vm_L_218 (c_X3_doesBear l g aM rM qM (vs_W2 h0 (aS 0) (aT 0) (aK 0) n0 V ++ (vs_W1 g aS S ++ (vs_W1 g aT T ++ (vs_W0 g aK K ++ (vs_WO g o O2 ++ wr))))) M p1 _ hw) rfl hl.1 rfl ⟨rfl, rfl⟩ ⟨Nat.le_of_ble_eq_true rfl, Nat.le_of_ble_eq_true rfl⟩ ⟨show _ ≤ 603072 by omega, show _ ≤ 7207018 by omega⟩ (Nat.le_of_ble_eq_true rfl) dL_law_1552 (fun r3 M4 H locs hw hW => ?_)
  have hW : vs_Wd g A _ (vs_W3 g aM rM qM M4 ++ (vs_W2 h0 (aS 0) (aT 0) (aK 0) n0 V ++ (vs_W1 g aS S ++ (vs_W1 g aT T ++ (vs_W0 g aK K ++ (vs_WO g o O2 ++ wr)))))) _ _ s := hW
  have hW : vs_Wd g A _ (vs_W2 h0 (aS 0) (aT 0) (aK 0) n0 V ++ (vs_W1 g aS S ++ (vs_W1 g aT T ++ (vs_W0 g aK K ++ (vs_WO g o O2 ++ (vs_W3 g aM rM qM M4 ++ wr)))))) _ _ s := vs_Wd.perm hW (List.Perm.symm vs_p6)
  refine vs_istore (L' := [(0, .ref b), (1, .ref h0), (2, .ref (aM 0)), (3, .ref o), (4, .ref od), (5, .int (vs_I i)), (6, .int (vs_I r1)), (7, .int (vs_I r3))]) hC hl [1, 2, 3, 4, 5, 6, 7, 0] dL_law_1555 (by decide) rfl (fun ls hl => ?_)
  refine vs_aload_n hC hl 2 dL_law_1557 rfl rfl ?_
  have hW : vs_Wd g A _ (vs_W3 g aM rM qM M4 ++ (vs_W2 h0 (aS 0) (aT 0) (aK 0) n0 V ++ (vs_W1 g aS S ++ (vs_W1 g aT T ++ (vs_W0 g aK K ++ (vs_WO g o O2 ++ wr)))))) _ _ s := vs_Wd.perm hW vs_p6
  refine vs_callVI [] hC hW 0 rfl rfl vk_X3_thrown vm_L_133 (c_X3_thrown l g aM rM qM (vs_W2 h0 (aS 0) (aT 0) (aK 0) n0 V ++ (vs_W1 g aS S ++ (vs_W1 g aT T ++ (vs_W0 g aK K ++ (vs_WO g o O2 ++ wr))))) M4  _ hw) rfl hl.1 rfl ⟨rfl, rfl⟩ ⟨Nat.le_of_ble_eq_true rfl, Nat.le_of_ble_eq_true rfl⟩ ⟨show _ ≤ 603072 by omega, show _ ≤ 7207018 by omega⟩ (Nat.le_of_ble_eq_true rfl) dL_law_1558 (fun r5 _ H locs hw hW => ?_)
  have hW : vs_Wd g A _ (vs_W3 g aM rM qM M4 ++ (vs_W2 h0 (aS 0) (aT 0) (aK 0) n0 V ++ (vs_W1 g aS S ++ (vs_W1 g aT T ++ (vs_W0 g aK K ++ (vs_WO g o O2 ++ wr)))))) _ _ s := hW
  have hW : vs_Wd g A _ (vs_W2 h0 (aS 0) (aT 0) (aK 0) n0 V ++ (vs_W1 g aS S ++ (vs_W1 g aT T ++ (vs_W0 g aK K ++ (vs_WO g o O2 ++ (vs_W3 g aM rM qM M4 ++ wr)))))) _ _ s := vs_Wd.perm hW (List.Perm.symm vs_p6)
  refine vs_iload hC hl 6 dL_law_1561 rfl ?_
  obtain ⟨hx, hw⟩ := hw
  obtain ⟨hy, hw⟩ := hw
  obtain ⟨hwt, hwf⟩ := hw
  refine vs_icmp_eq hC 1568 hx hy dL_law_1563 (by decide) (fun hc => ?_) (fun hc => ?_)
  · have hw := hwt hc
    clear hwt hwf hc
    refine vs_iload hC hl 6 dL_law_1568 rfl ?_
    obtain ⟨hx, hw⟩ := hw
    obtain ⟨hwt, hwf⟩ := hw
    refine vs_if_ne hC 1592 hx dL_law_1570 (by decide) (fun hc => ?_) (fun hc => ?_)
    · have hw := hwt hc
      clear hwt hwf hc
      refine vs_goto hC 2295 dL_law_1592 (by decide) ?_
      exact kk V S T K O2 M4 _ _ _ _ _ (by omega) (by omega) hw hW (lv_sub hl [0, 1, 2, 3, 4, 5] rfl)
    · have hw := hwf hc
      clear hwt hwf hc
      refine vs_aload_n hC hl 3 dL_law_1573 rfl rfl ?_
      refine vs_iconst hC dL_law_1574 ?_
      refine vs_lald hC hW 37 rfl dL_law_1575 ?_
      refine vs_iload hC hl 7 dL_law_1576 rfl ?_
      obtain ⟨hx, hw⟩ := hw
      obtain ⟨hwt, hwf⟩ := hw
      refine vs_if_eq hC 1585 hx dL_law_1578 (by decide) (fun hc => ?_) (fun hc => ?_)
      · have hw := hwt hc
        clear hwt hwf hc
        refine vs_lconst (x := 0) hC dL_law_1585 (by decide +kernel) ?_
        obtain ⟨hx, hw⟩ := hw
        refine vs_lcmp hC hx ⟨by decide, by decide⟩ dL_law_1586 ?_
        obtain ⟨hx, hw⟩ := hw
        obtain ⟨hwt, hwf⟩ := hw
        refine vs_if_eq hC 1592 hx dL_law_1587 (by decide) (fun hc => ?_) (fun hc => ?_)
        · have hw := hwt hc
          clear hwt hwf hc
          refine vs_goto hC 2295 dL_law_1592 (by decide) ?_
          exact kk V S T K O2 M4 _ _ _ _ _ (by omega) (by omega) hw hW (lv_sub hl [0, 1, 2, 3, 4, 5] rfl)
        · have hw := hwf hc
          clear hwt hwf hc
          refine vs_iconst hC dL_law_1590 ?_
          exact hw.elim
      · have hw := hwf hc
        clear hwt hwf hc
        refine vs_lconst (x := 1) hC dL_law_1581 (by decide +kernel) ?_
        refine vs_goto hC 1586 dL_law_1582 (by decide) ?_
        obtain ⟨hx, hw⟩ := hw
        refine vs_lcmp hC hx ⟨by decide, by decide⟩ dL_law_1586 ?_
        obtain ⟨hx, hw⟩ := hw
        obtain ⟨hwt, hwf⟩ := hw
        refine vs_if_eq hC 1592 hx dL_law_1587 (by decide) (fun hc => ?_) (fun hc => ?_)
        · have hw := hwt hc
          clear hwt hwf hc
          refine vs_goto hC 2295 dL_law_1592 (by decide) ?_
          exact kk V S T K O2 M4 _ _ _ _ _ (by omega) (by omega) hw hW (lv_sub hl [0, 1, 2, 3, 4, 5] rfl)
        · have hw := hwf hc
          clear hwt hwf hc
          refine vs_iconst hC dL_law_1590 ?_
          exact hw.elim
  · have hw := hwf hc
    clear hwt hwf hc
    refine vs_iconst hC dL_law_1566 ?_
    exact hw.elim
set_option maxHeartbeats 4000000 in
set_option maxRecDepth 100000 in
theorem case_26 {p : Program} {l : Launch} {e : Env} {s : State} {m : MethodId} {args : Array Value} {below : List Frame} {meth : Method} {c : Code} {H : Heap} {locs : List Loc} {cells slots : Nat} {Q : State → Prop} {ls : Array Slot} {g : vs_G} {sd : Nat → Nat} {A : Nat → Prop} {h0 n0 o od b L : Nat} {aS aT aK aM rM qM : Nat → Nat} {wr : va_W} {V S T K O M : vs_St} {i p1 p2 p3 : Int} {xs : Nat → Int32} {post : vs_St → vs_St → vs_St → vs_St → vs_St → vs_St → Prop} (hst : l.stackTraces = false) (hC : CallFix p m c cL_law 9 s args vs_ws RL) (hX : vs_Xs g sd A s s.heap) (hScr : vs_Scr b L xs A s) (hi : 0 ≤ i ∧ i + 4 ≤ L ∧ L ≤ 2048) (hp1 : xs (i + 1).toNat = vs_I p1) (hp2 : xs (i + 2).toNat = vs_I p2) (hp3 : xs (i + 3).toNat = vs_I p3) (hcap : cells + 16 ≤ 603072 ∧ slots + 96 ≤ 7207018) (hW : vs_Wd g A s.heap (vs_W2 h0 (aS 0) (aT 0) (aK 0) n0 V ++ (vs_W1 g aS S ++ (vs_W1 g aT T ++ (vs_W0 g aK K ++ (vs_WO g o O ++ (vs_W3 g aM rM qM M ++ wr)))))) H locs s) (hl : lv_has ls 9 [(0, .ref b), (1, .ref h0), (2, .ref (aM 0)), (3, .ref o), (4, .ref od), (5, .int (vs_I i))])
    (hw : wcase_26 V S T K O M i p1 p2 p3 post) (kk : ∀ (V' S' T' K' O' M' : vs_St) (H : Heap) (locs : List Loc) (ls : Array Slot) (c2 s2 : Nat), c2 ≤ cells + 16 → s2 ≤ slots + 96 → post V' S' T' K' O' M' → vs_Wd g A s.heap (vs_W2 h0 (aS 0) (aT 0) (aK 0) n0 V' ++ (vs_W1 g aS S' ++ (vs_W1 g aT T' ++ (vs_W0 g aK K' ++ (vs_WO g o O' ++ (vs_W3 g aM rM qM M' ++ wr)))))) H locs s → lv_has ls 9 [(0, .ref b), (1, .ref h0), (2, .ref (aM 0)), (3, .ref o), (4, .ref od), (5, .int (vs_I i))] → W p l e room_1 s m args below meth c H locs c2 s2 Q (F0 m 2295 ls [])) :
    W p l e room_1 s m args below meth c H locs cells slots Q (F0 m 1595 ls []) := by
  unfold wcase_26 at hw
  refine vs_aload_n hC hl 1 dL_law_1595 rfl rfl ?_
  refine vs_aload_n hC hl 0 dL_law_1596 rfl rfl ?_
  refine vs_iload hC hl 5 dL_law_1597 rfl ?_
  refine vs_iconst hC dL_law_1599 ?_
  refine vs_iadd hC dL_law_1600 ?_
  refine vs_sld hC hW hScr (by omega) hp1 dL_law_1601 ?_
  refine vs_aload_n hC hl 3 dL_law_1602 rfl rfl ?_
  refine vs_callHI [.ref h0, .int (vs_I p1), .ref o] hC hW hX vk_L_doesBearByTrying vm_L_219 (c_L_doesBearByTrying l hst g sd h0 n0 o aS aT aK (vs_W3 g aM rM qM M ++ wr) V S T K O p1 _ hw) rfl hl.1 rfl ⟨rfl, rfl⟩ ⟨Nat.le_of_ble_eq_true rfl, Nat.le_of_ble_eq_true rfl⟩ ⟨show _ ≤ 603072 by omega, show _ ≤ 7207018 by omega⟩ (Nat.le_of_ble_eq_true rfl) dL_law_1603 (fun r1 u H locs hw hW => ?_)
  obtain ⟨S2, O3⟩ := u
  have hW : vs_Wd g A _ (vs_W2 h0 (aS 0) (aT 0) (aK 0) n0 V ++ (vs_W1 g aS S2 ++ (vs_W1 g aT T ++ (vs_W0 g aK K ++ (vs_WO g o O3 ++ (vs_W3 g aM rM qM M ++ wr)))))) _ _ s := hW
  refine vs_istore (L' := [(0, .ref b), (1, .ref h0), (2, .ref (aM 0)), (3, .ref o), (4, .ref od), (5, .int (vs_I i)), (6, .int (vs_I r1))]) hC hl [1, 2, 3, 4, 5, 6, 0] dL_law_1606 (by decide) rfl (fun ls hl => ?_)
  refine vs_aload_n hC hl 2 dL_law_1608 rfl rfl ?_
  refine vs_aload_n hC hl 0 dL_law_1609 rfl rfl ?_
  refine vs_iload hC hl 5 dL_law_1610 rfl ?_
  refine vs_iconst hC dL_law_1612 ?_
  refine vs_iadd hC dL_law_1613 ?_
  refine vs_sld hC hW hScr (by omega) hp1 dL_law_1614 ?_
  have hW : vs_Wd g A _ (vs_W3 g aM rM qM M ++ (vs_W2 h0 (aS 0) (aT 0) (aK 0) n0 V ++ (vs_W1 g aS S2 ++ (vs_W1 g aT T ++ (vs_W0 g aK K ++ (vs_WO g o O3 ++ wr)))))) _ _ s := vs_Wd.perm hW vs_p6
  refine vs_callVI [.int (vs_I p1)] hC hW 0 rfl rfl vk_X3_doesBearByTrying vm_L_221 (c_X3_doesBearByTrying l g aM rM qM (vs_W2 h0 (aS 0) (aT 0) (aK 0) n0 V ++ (vs_W1 g aS S2 ++ (vs_W1 g aT T ++ (vs_W0 g aK K ++ (vs_WO g o O3 ++ wr))))) M p1 _ hw) rfl hl.1 rfl ⟨rfl, rfl⟩ ⟨Nat.le_of_ble_eq_true rfl, Nat.le_of_ble_eq_true rfl⟩ ⟨show _ ≤ 603072 by omega, show _ ≤ 7207018 by omega⟩ (Nat.le_of_ble_eq_true rfl) dL_law_1615 (fun r4 M5 H locs hw hW => ?_)
  have hW : vs_Wd g A _ (vs_W3 g aM rM qM M5 ++ (vs_W2 h0 (aS 0) (aT 0) (aK 0) n0 V ++ (vs_W1 g aS S2 ++ (vs_W1 g aT T ++ (vs_W0 g aK K ++ (vs_WO g o O3 ++ wr)))))) _ _ s := hW
  have hW : vs_Wd g A _ (vs_W2 h0 (aS 0) (aT 0) (aK 0) n0 V ++ (vs_W1 g aS S2 ++ (vs_W1 g aT T ++ (vs_W0 g aK K ++ (vs_WO g o O3 ++ (vs_W3 g aM rM qM M5 ++ wr)))))) _ _ s := vs_Wd.perm hW (List.Perm.symm vs_p6)
  refine vs_istore (L' := [(0, .ref b), (1, .ref h0), (2, .ref (aM 0)), (3, .ref o), (4, .ref od), (5, .int (vs_I i)), (6, .int (vs_I r1)), (7, .int (vs_I r4))]) hC hl [1, 2, 3, 4, 5, 6, 7, 0] dL_law_1618 (by decide) rfl (fun ls hl => ?_)
  refine vs_aload_n hC hl 2 dL_law_1620 rfl rfl ?_
  have hW : vs_Wd g A _ (vs_W3 g aM rM qM M5 ++ (vs_W2 h0 (aS 0) (aT 0) (aK 0) n0 V ++ (vs_W1 g aS S2 ++ (vs_W1 g aT T ++ (vs_W0 g aK K ++ (vs_WO g o O3 ++ wr)))))) _ _ s := vs_Wd.perm hW vs_p6
  refine vs_callVI [] hC hW 0 rfl rfl vk_X3_thrown vm_L_133 (c_X3_thrown l g aM rM qM (vs_W2 h0 (aS 0) (aT 0) (aK 0) n0 V ++ (vs_W1 g aS S2 ++ (vs_W1 g aT T ++ (vs_W0 g aK K ++ (vs_WO g o O3 ++ wr))))) M5  _ hw) rfl hl.1 rfl ⟨rfl, rfl⟩ ⟨Nat.le_of_ble_eq_true rfl, Nat.le_of_ble_eq_true rfl⟩ ⟨show _ ≤ 603072 by omega, show _ ≤ 7207018 by omega⟩ (Nat.le_of_ble_eq_true rfl) dL_law_1621 (fun r6 _ H locs hw hW => ?_)
  have hW : vs_Wd g A _ (vs_W3 g aM rM qM M5 ++ (vs_W2 h0 (aS 0) (aT 0) (aK 0) n0 V ++ (vs_W1 g aS S2 ++ (vs_W1 g aT T ++ (vs_W0 g aK K ++ (vs_WO g o O3 ++ wr)))))) _ _ s := hW
  have hW : vs_Wd g A _ (vs_W2 h0 (aS 0) (aT 0) (aK 0) n0 V ++ (vs_W1 g aS S2 ++ (vs_W1 g aT T ++ (vs_W0 g aK K ++ (vs_WO g o O3 ++ (vs_W3 g aM rM qM M5 ++ wr)))))) _ _ s := vs_Wd.perm hW (List.Perm.symm vs_p6)
  refine vs_iload hC hl 6 dL_law_1624 rfl ?_
  obtain ⟨hx, hw⟩ := hw
  obtain ⟨hy, hw⟩ := hw
  obtain ⟨hwt, hwf⟩ := hw
  refine vs_icmp_eq hC 1631 hx hy dL_law_1626 (by decide) (fun hc => ?_) (fun hc => ?_)
  · have hw := hwt hc
    clear hwt hwf hc
    refine vs_iload hC hl 6 dL_law_1631 rfl ?_
    obtain ⟨hx, hw⟩ := hw
    obtain ⟨hwt, hwf⟩ := hw
    refine vs_if_ne hC 1655 hx dL_law_1633 (by decide) (fun hc => ?_) (fun hc => ?_)
    · have hw := hwt hc
      clear hwt hwf hc
      refine vs_goto hC 2295 dL_law_1655 (by decide) ?_
      exact kk V S2 T K O3 M5 _ _ _ _ _ (by omega) (by omega) hw hW (lv_sub hl [0, 1, 2, 3, 4, 5] rfl)
    · have hw := hwf hc
      clear hwt hwf hc
      refine vs_aload_n hC hl 3 dL_law_1636 rfl rfl ?_
      refine vs_iconst hC dL_law_1637 ?_
      refine vs_lald hC hW 37 rfl dL_law_1638 ?_
      refine vs_iload hC hl 7 dL_law_1639 rfl ?_
      obtain ⟨hx, hw⟩ := hw
      obtain ⟨hwt, hwf⟩ := hw
      refine vs_if_eq hC 1648 hx dL_law_1641 (by decide) (fun hc => ?_) (fun hc => ?_)
      · have hw := hwt hc
        clear hwt hwf hc
        refine vs_lconst (x := 0) hC dL_law_1648 (by decide +kernel) ?_
        obtain ⟨hx, hw⟩ := hw
        refine vs_lcmp hC hx ⟨by decide, by decide⟩ dL_law_1649 ?_
        obtain ⟨hx, hw⟩ := hw
        obtain ⟨hwt, hwf⟩ := hw
        refine vs_if_eq hC 1655 hx dL_law_1650 (by decide) (fun hc => ?_) (fun hc => ?_)
        · have hw := hwt hc
          clear hwt hwf hc
          refine vs_goto hC 2295 dL_law_1655 (by decide) ?_
          exact kk V S2 T K O3 M5 _ _ _ _ _ (by omega) (by omega) hw hW (lv_sub hl [0, 1, 2, 3, 4, 5] rfl)
        · have hw := hwf hc
          clear hwt hwf hc
          refine vs_iconst hC dL_law_1653 ?_
          exact hw.elim
      · have hw := hwf hc
        clear hwt hwf hc
        refine vs_lconst (x := 1) hC dL_law_1644 (by decide +kernel) ?_
        refine vs_goto hC 1649 dL_law_1645 (by decide) ?_
        obtain ⟨hx, hw⟩ := hw
        refine vs_lcmp hC hx ⟨by decide, by decide⟩ dL_law_1649 ?_
        obtain ⟨hx, hw⟩ := hw
        obtain ⟨hwt, hwf⟩ := hw
        refine vs_if_eq hC 1655 hx dL_law_1650 (by decide) (fun hc => ?_) (fun hc => ?_)
        · have hw := hwt hc
          clear hwt hwf hc
          refine vs_goto hC 2295 dL_law_1655 (by decide) ?_
          exact kk V S2 T K O3 M5 _ _ _ _ _ (by omega) (by omega) hw hW (lv_sub hl [0, 1, 2, 3, 4, 5] rfl)
        · have hw := hwf hc
          clear hwt hwf hc
          refine vs_iconst hC dL_law_1653 ?_
          exact hw.elim
  · have hw := hwf hc
    clear hwt hwf hc
    refine vs_iconst hC dL_law_1629 ?_
    exact hw.elim
set_option maxHeartbeats 4000000 in
set_option maxRecDepth 100000 in
theorem case_27 {p : Program} {l : Launch} {e : Env} {s : State} {m : MethodId} {args : Array Value} {below : List Frame} {meth : Method} {c : Code} {H : Heap} {locs : List Loc} {cells slots : Nat} {Q : State → Prop} {ls : Array Slot} {g : vs_G} {sd : Nat → Nat} {A : Nat → Prop} {h0 n0 o od b L : Nat} {aS aT aK aM rM qM : Nat → Nat} {wr : va_W} {V S T K O M : vs_St} {i p1 p2 p3 : Int} {xs : Nat → Int32} {post : vs_St → vs_St → vs_St → vs_St → vs_St → vs_St → Prop} (hst : l.stackTraces = false) (hC : CallFix p m c cL_law 9 s args vs_ws RL) (hX : vs_Xs g sd A s s.heap) (hScr : vs_Scr b L xs A s) (hi : 0 ≤ i ∧ i + 4 ≤ L ∧ L ≤ 2048) (hp1 : xs (i + 1).toNat = vs_I p1) (hp2 : xs (i + 2).toNat = vs_I p2) (hp3 : xs (i + 3).toNat = vs_I p3) (hcap : cells + 16 ≤ 603072 ∧ slots + 96 ≤ 7207018) (hW : vs_Wd g A s.heap (vs_W2 h0 (aS 0) (aT 0) (aK 0) n0 V ++ (vs_W1 g aS S ++ (vs_W1 g aT T ++ (vs_W0 g aK K ++ (vs_WO g o O ++ (vs_W3 g aM rM qM M ++ wr)))))) H locs s) (hl : lv_has ls 9 [(0, .ref b), (1, .ref h0), (2, .ref (aM 0)), (3, .ref o), (4, .ref od), (5, .int (vs_I i))])
    (hw : wcase_27 V S T K O M i p1 p2 p3 post) (kk : ∀ (V' S' T' K' O' M' : vs_St) (H : Heap) (locs : List Loc) (ls : Array Slot) (c2 s2 : Nat), c2 ≤ cells + 16 → s2 ≤ slots + 96 → post V' S' T' K' O' M' → vs_Wd g A s.heap (vs_W2 h0 (aS 0) (aT 0) (aK 0) n0 V' ++ (vs_W1 g aS S' ++ (vs_W1 g aT T' ++ (vs_W0 g aK K' ++ (vs_WO g o O' ++ (vs_W3 g aM rM qM M' ++ wr)))))) H locs s → lv_has ls 9 [(0, .ref b), (1, .ref h0), (2, .ref (aM 0)), (3, .ref o), (4, .ref od), (5, .int (vs_I i))] → W p l e room_1 s m args below meth c H locs c2 s2 Q (F0 m 2295 ls [])) :
    W p l e room_1 s m args below meth c H locs cells slots Q (F0 m 1658 ls []) := by
  unfold wcase_27 at hw
  refine vs_aload_n hC hl 1 dL_law_1658 rfl rfl ?_
  refine vs_aload_n hC hl 0 dL_law_1659 rfl rfl ?_
  refine vs_iload hC hl 5 dL_law_1660 rfl ?_
  refine vs_iconst hC dL_law_1662 ?_
  refine vs_iadd hC dL_law_1663 ?_
  refine vs_sld hC hW hScr (by omega) hp1 dL_law_1664 ?_
  refine vs_aload_n hC hl 3 dL_law_1665 rfl rfl ?_
  refine vs_callHI [.ref h0, .int (vs_I p1), .ref o] hC hW hX vk_L_fail vm_L_222 (c_L_fail l hst g sd h0 n0 o aS aT aK (vs_W3 g aM rM qM M ++ wr) V S T K O p1 _ hw) rfl hl.1 rfl ⟨rfl, rfl⟩ ⟨Nat.le_of_ble_eq_true rfl, Nat.le_of_ble_eq_true rfl⟩ ⟨show _ ≤ 603072 by omega, show _ ≤ 7207018 by omega⟩ (Nat.le_of_ble_eq_true rfl) dL_law_1666 (fun r1 u H locs hw hW => ?_)
  obtain ⟨S2, O3⟩ := u
  have hW : vs_Wd g A _ (vs_W2 h0 (aS 0) (aT 0) (aK 0) n0 V ++ (vs_W1 g aS S2 ++ (vs_W1 g aT T ++ (vs_W0 g aK K ++ (vs_WO g o O3 ++ (vs_W3 g aM rM qM M ++ wr)))))) _ _ s := hW
  refine vs_istore (L' := [(0, .ref b), (1, .ref h0), (2, .ref (aM 0)), (3, .ref o), (4, .ref od), (5, .int (vs_I i)), (6, .int (vs_I r1))]) hC hl [1, 2, 3, 4, 5, 6, 0] dL_law_1669 (by decide) rfl (fun ls hl => ?_)
  refine vs_aload_n hC hl 2 dL_law_1671 rfl rfl ?_
  refine vs_aload_n hC hl 0 dL_law_1672 rfl rfl ?_
  refine vs_iload hC hl 5 dL_law_1673 rfl ?_
  refine vs_iconst hC dL_law_1675 ?_
  refine vs_iadd hC dL_law_1676 ?_
  refine vs_sld hC hW hScr (by omega) hp1 dL_law_1677 ?_
  have hW : vs_Wd g A _ (vs_W3 g aM rM qM M ++ (vs_W2 h0 (aS 0) (aT 0) (aK 0) n0 V ++ (vs_W1 g aS S2 ++ (vs_W1 g aT T ++ (vs_W0 g aK K ++ (vs_WO g o O3 ++ wr)))))) _ _ s := vs_Wd.perm hW vs_p6
  refine vs_callVI [.int (vs_I p1)] hC hW 0 rfl rfl vk_X3_fail vm_L_224 (c_X3_fail l g aM rM qM (vs_W2 h0 (aS 0) (aT 0) (aK 0) n0 V ++ (vs_W1 g aS S2 ++ (vs_W1 g aT T ++ (vs_W0 g aK K ++ (vs_WO g o O3 ++ wr))))) M p1 _ hw) rfl hl.1 rfl ⟨rfl, rfl⟩ ⟨Nat.le_of_ble_eq_true rfl, Nat.le_of_ble_eq_true rfl⟩ ⟨show _ ≤ 603072 by omega, show _ ≤ 7207018 by omega⟩ (Nat.le_of_ble_eq_true rfl) dL_law_1678 (fun r4 M5 H locs hw hW => ?_)
  have hW : vs_Wd g A _ (vs_W3 g aM rM qM M5 ++ (vs_W2 h0 (aS 0) (aT 0) (aK 0) n0 V ++ (vs_W1 g aS S2 ++ (vs_W1 g aT T ++ (vs_W0 g aK K ++ (vs_WO g o O3 ++ wr)))))) _ _ s := hW
  have hW : vs_Wd g A _ (vs_W2 h0 (aS 0) (aT 0) (aK 0) n0 V ++ (vs_W1 g aS S2 ++ (vs_W1 g aT T ++ (vs_W0 g aK K ++ (vs_WO g o O3 ++ (vs_W3 g aM rM qM M5 ++ wr)))))) _ _ s := vs_Wd.perm hW (List.Perm.symm vs_p6)
  refine vs_istore (L' := [(0, .ref b), (1, .ref h0), (2, .ref (aM 0)), (3, .ref o), (4, .ref od), (5, .int (vs_I i)), (6, .int (vs_I r1)), (7, .int (vs_I r4))]) hC hl [1, 2, 3, 4, 5, 6, 7, 0] dL_law_1681 (by decide) rfl (fun ls hl => ?_)
  refine vs_aload_n hC hl 2 dL_law_1683 rfl rfl ?_
  have hW : vs_Wd g A _ (vs_W3 g aM rM qM M5 ++ (vs_W2 h0 (aS 0) (aT 0) (aK 0) n0 V ++ (vs_W1 g aS S2 ++ (vs_W1 g aT T ++ (vs_W0 g aK K ++ (vs_WO g o O3 ++ wr)))))) _ _ s := vs_Wd.perm hW vs_p6
  refine vs_callVI [] hC hW 0 rfl rfl vk_X3_thrown vm_L_133 (c_X3_thrown l g aM rM qM (vs_W2 h0 (aS 0) (aT 0) (aK 0) n0 V ++ (vs_W1 g aS S2 ++ (vs_W1 g aT T ++ (vs_W0 g aK K ++ (vs_WO g o O3 ++ wr))))) M5  _ hw) rfl hl.1 rfl ⟨rfl, rfl⟩ ⟨Nat.le_of_ble_eq_true rfl, Nat.le_of_ble_eq_true rfl⟩ ⟨show _ ≤ 603072 by omega, show _ ≤ 7207018 by omega⟩ (Nat.le_of_ble_eq_true rfl) dL_law_1684 (fun r6 _ H locs hw hW => ?_)
  have hW : vs_Wd g A _ (vs_W3 g aM rM qM M5 ++ (vs_W2 h0 (aS 0) (aT 0) (aK 0) n0 V ++ (vs_W1 g aS S2 ++ (vs_W1 g aT T ++ (vs_W0 g aK K ++ (vs_WO g o O3 ++ wr)))))) _ _ s := hW
  have hW : vs_Wd g A _ (vs_W2 h0 (aS 0) (aT 0) (aK 0) n0 V ++ (vs_W1 g aS S2 ++ (vs_W1 g aT T ++ (vs_W0 g aK K ++ (vs_WO g o O3 ++ (vs_W3 g aM rM qM M5 ++ wr)))))) _ _ s := vs_Wd.perm hW (List.Perm.symm vs_p6)
  refine vs_iload hC hl 6 dL_law_1687 rfl ?_
  obtain ⟨hx, hw⟩ := hw
  obtain ⟨hy, hw⟩ := hw
  obtain ⟨hwt, hwf⟩ := hw
  refine vs_icmp_eq hC 1694 hx hy dL_law_1689 (by decide) (fun hc => ?_) (fun hc => ?_)
  · have hw := hwt hc
    clear hwt hwf hc
    refine vs_iload hC hl 6 dL_law_1694 rfl ?_
    obtain ⟨hx, hw⟩ := hw
    obtain ⟨hwt, hwf⟩ := hw
    refine vs_if_ne hC 1711 hx dL_law_1696 (by decide) (fun hc => ?_) (fun hc => ?_)
    · have hw := hwt hc
      clear hwt hwf hc
      refine vs_goto hC 2295 dL_law_1711 (by decide) ?_
      exact kk V S2 T K O3 M5 _ _ _ _ _ (by omega) (by omega) hw hW (lv_sub hl [0, 1, 2, 3, 4, 5] rfl)
    · have hw := hwf hc
      clear hwt hwf hc
      refine vs_aload_n hC hl 3 dL_law_1699 rfl rfl ?_
      refine vs_iconst hC dL_law_1700 ?_
      refine vs_lald hC hW 37 rfl dL_law_1701 ?_
      refine vs_iload hC hl 7 dL_law_1702 rfl ?_
      obtain ⟨hx, hw⟩ := hw
      refine vs_i2l hC hx dL_law_1704 ?_
      obtain ⟨hx, hw⟩ := hw
      obtain ⟨hy, hw⟩ := hw
      refine vs_lcmp hC hx hy dL_law_1705 ?_
      obtain ⟨hx, hw⟩ := hw
      obtain ⟨hwt, hwf⟩ := hw
      refine vs_if_eq hC 1711 hx dL_law_1706 (by decide) (fun hc => ?_) (fun hc => ?_)
      · have hw := hwt hc
        clear hwt hwf hc
        refine vs_goto hC 2295 dL_law_1711 (by decide) ?_
        exact kk V S2 T K O3 M5 _ _ _ _ _ (by omega) (by omega) hw hW (lv_sub hl [0, 1, 2, 3, 4, 5] rfl)
      · have hw := hwf hc
        clear hwt hwf hc
        refine vs_iconst hC dL_law_1709 ?_
        exact hw.elim
  · have hw := hwf hc
    clear hwt hwf hc
    refine vs_iconst hC dL_law_1692 ?_
    exact hw.elim
set_option maxHeartbeats 4000000 in
set_option maxRecDepth 100000 in
theorem case_28 {p : Program} {l : Launch} {e : Env} {s : State} {m : MethodId} {args : Array Value} {below : List Frame} {meth : Method} {c : Code} {H : Heap} {locs : List Loc} {cells slots : Nat} {Q : State → Prop} {ls : Array Slot} {g : vs_G} {sd : Nat → Nat} {A : Nat → Prop} {h0 n0 o od b L : Nat} {aS aT aK aM rM qM : Nat → Nat} {wr : va_W} {V S T K O M : vs_St} {i p1 p2 p3 : Int} {xs : Nat → Int32} {post : vs_St → vs_St → vs_St → vs_St → vs_St → vs_St → Prop} (hst : l.stackTraces = false) (hC : CallFix p m c cL_law 9 s args vs_ws RL) (hX : vs_Xs g sd A s s.heap) (hScr : vs_Scr b L xs A s) (hi : 0 ≤ i ∧ i + 4 ≤ L ∧ L ≤ 2048) (hp1 : xs (i + 1).toNat = vs_I p1) (hp2 : xs (i + 2).toNat = vs_I p2) (hp3 : xs (i + 3).toNat = vs_I p3) (hcap : cells + 16 ≤ 603072 ∧ slots + 96 ≤ 7207018) (hW : vs_Wd g A s.heap (vs_W2 h0 (aS 0) (aT 0) (aK 0) n0 V ++ (vs_W1 g aS S ++ (vs_W1 g aT T ++ (vs_W0 g aK K ++ (vs_WO g o O ++ (vs_W3 g aM rM qM M ++ wr)))))) H locs s) (hl : lv_has ls 9 [(0, .ref b), (1, .ref h0), (2, .ref (aM 0)), (3, .ref o), (4, .ref od), (5, .int (vs_I i))])
    (hw : wcase_28 V S T K O M i p1 p2 p3 post) (kk : ∀ (V' S' T' K' O' M' : vs_St) (H : Heap) (locs : List Loc) (ls : Array Slot) (c2 s2 : Nat), c2 ≤ cells + 16 → s2 ≤ slots + 96 → post V' S' T' K' O' M' → vs_Wd g A s.heap (vs_W2 h0 (aS 0) (aT 0) (aK 0) n0 V' ++ (vs_W1 g aS S' ++ (vs_W1 g aT T' ++ (vs_W0 g aK K' ++ (vs_WO g o O' ++ (vs_W3 g aM rM qM M' ++ wr)))))) H locs s → lv_has ls 9 [(0, .ref b), (1, .ref h0), (2, .ref (aM 0)), (3, .ref o), (4, .ref od), (5, .int (vs_I i))] → W p l e room_1 s m args below meth c H locs c2 s2 Q (F0 m 2295 ls [])) :
    W p l e room_1 s m args below meth c H locs cells slots Q (F0 m 1714 ls []) := by
  unfold wcase_28 at hw
  refine vs_aload_n hC hl 1 dL_law_1714 rfl rfl ?_
  refine vs_aload_n hC hl 0 dL_law_1715 rfl rfl ?_
  refine vs_iload hC hl 5 dL_law_1716 rfl ?_
  refine vs_iconst hC dL_law_1718 ?_
  refine vs_iadd hC dL_law_1719 ?_
  refine vs_sld hC hW hScr (by omega) hp1 dL_law_1720 ?_
  refine vs_aload_n hC hl 3 dL_law_1721 rfl rfl ?_
  refine vs_callHI [.ref h0, .int (vs_I p1), .ref o] hC hW hX vk_L_replace vm_L_225 (c_L_replace l hst g sd h0 n0 o aS aT aK (vs_W3 g aM rM qM M ++ wr) V S T K O p1 _ hw) rfl hl.1 rfl ⟨rfl, rfl⟩ ⟨Nat.le_of_ble_eq_true rfl, Nat.le_of_ble_eq_true rfl⟩ ⟨show _ ≤ 603072 by omega, show _ ≤ 7207018 by omega⟩ (Nat.le_of_ble_eq_true rfl) dL_law_1722 (fun r1 u H locs hw hW => ?_)
  obtain ⟨S2, O3⟩ := u
  have hW : vs_Wd g A _ (vs_W2 h0 (aS 0) (aT 0) (aK 0) n0 V ++ (vs_W1 g aS S2 ++ (vs_W1 g aT T ++ (vs_W0 g aK K ++ (vs_WO g o O3 ++ (vs_W3 g aM rM qM M ++ wr)))))) _ _ s := hW
  refine vs_istore (L' := [(0, .ref b), (1, .ref h0), (2, .ref (aM 0)), (3, .ref o), (4, .ref od), (5, .int (vs_I i)), (6, .int (vs_I r1))]) hC hl [1, 2, 3, 4, 5, 6, 0] dL_law_1725 (by decide) rfl (fun ls hl => ?_)
  refine vs_aload_n hC hl 2 dL_law_1727 rfl rfl ?_
  refine vs_aload_n hC hl 0 dL_law_1728 rfl rfl ?_
  refine vs_iload hC hl 5 dL_law_1729 rfl ?_
  refine vs_iconst hC dL_law_1731 ?_
  refine vs_iadd hC dL_law_1732 ?_
  refine vs_sld hC hW hScr (by omega) hp1 dL_law_1733 ?_
  have hW : vs_Wd g A _ (vs_W3 g aM rM qM M ++ (vs_W2 h0 (aS 0) (aT 0) (aK 0) n0 V ++ (vs_W1 g aS S2 ++ (vs_W1 g aT T ++ (vs_W0 g aK K ++ (vs_WO g o O3 ++ wr)))))) _ _ s := vs_Wd.perm hW vs_p6
  refine vs_callVI [.int (vs_I p1)] hC hW 0 rfl rfl vk_X3_replace vm_L_227 (c_X3_replace l g aM rM qM (vs_W2 h0 (aS 0) (aT 0) (aK 0) n0 V ++ (vs_W1 g aS S2 ++ (vs_W1 g aT T ++ (vs_W0 g aK K ++ (vs_WO g o O3 ++ wr))))) M p1 _ hw) rfl hl.1 rfl ⟨rfl, rfl⟩ ⟨Nat.le_of_ble_eq_true rfl, Nat.le_of_ble_eq_true rfl⟩ ⟨show _ ≤ 603072 by omega, show _ ≤ 7207018 by omega⟩ (Nat.le_of_ble_eq_true rfl) dL_law_1734 (fun r4 M5 H locs hw hW => ?_)
  have hW : vs_Wd g A _ (vs_W3 g aM rM qM M5 ++ (vs_W2 h0 (aS 0) (aT 0) (aK 0) n0 V ++ (vs_W1 g aS S2 ++ (vs_W1 g aT T ++ (vs_W0 g aK K ++ (vs_WO g o O3 ++ wr)))))) _ _ s := hW
  have hW : vs_Wd g A _ (vs_W2 h0 (aS 0) (aT 0) (aK 0) n0 V ++ (vs_W1 g aS S2 ++ (vs_W1 g aT T ++ (vs_W0 g aK K ++ (vs_WO g o O3 ++ (vs_W3 g aM rM qM M5 ++ wr)))))) _ _ s := vs_Wd.perm hW (List.Perm.symm vs_p6)
  refine vs_istore (L' := [(0, .ref b), (1, .ref h0), (2, .ref (aM 0)), (3, .ref o), (4, .ref od), (5, .int (vs_I i)), (6, .int (vs_I r1)), (7, .int (vs_I r4))]) hC hl [1, 2, 3, 4, 5, 6, 7, 0] dL_law_1737 (by decide) rfl (fun ls hl => ?_)
  refine vs_aload_n hC hl 2 dL_law_1739 rfl rfl ?_
  have hW : vs_Wd g A _ (vs_W3 g aM rM qM M5 ++ (vs_W2 h0 (aS 0) (aT 0) (aK 0) n0 V ++ (vs_W1 g aS S2 ++ (vs_W1 g aT T ++ (vs_W0 g aK K ++ (vs_WO g o O3 ++ wr)))))) _ _ s := vs_Wd.perm hW vs_p6
  refine vs_callVI [] hC hW 0 rfl rfl vk_X3_thrown vm_L_133 (c_X3_thrown l g aM rM qM (vs_W2 h0 (aS 0) (aT 0) (aK 0) n0 V ++ (vs_W1 g aS S2 ++ (vs_W1 g aT T ++ (vs_W0 g aK K ++ (vs_WO g o O3 ++ wr))))) M5  _ hw) rfl hl.1 rfl ⟨rfl, rfl⟩ ⟨Nat.le_of_ble_eq_true rfl, Nat.le_of_ble_eq_true rfl⟩ ⟨show _ ≤ 603072 by omega, show _ ≤ 7207018 by omega⟩ (Nat.le_of_ble_eq_true rfl) dL_law_1740 (fun r6 _ H locs hw hW => ?_)
  have hW : vs_Wd g A _ (vs_W3 g aM rM qM M5 ++ (vs_W2 h0 (aS 0) (aT 0) (aK 0) n0 V ++ (vs_W1 g aS S2 ++ (vs_W1 g aT T ++ (vs_W0 g aK K ++ (vs_WO g o O3 ++ wr)))))) _ _ s := hW
  have hW : vs_Wd g A _ (vs_W2 h0 (aS 0) (aT 0) (aK 0) n0 V ++ (vs_W1 g aS S2 ++ (vs_W1 g aT T ++ (vs_W0 g aK K ++ (vs_WO g o O3 ++ (vs_W3 g aM rM qM M5 ++ wr)))))) _ _ s := vs_Wd.perm hW (List.Perm.symm vs_p6)
  refine vs_iload hC hl 6 dL_law_1743 rfl ?_
  obtain ⟨hx, hw⟩ := hw
  obtain ⟨hy, hw⟩ := hw
  obtain ⟨hwt, hwf⟩ := hw
  refine vs_icmp_eq hC 1750 hx hy dL_law_1745 (by decide) (fun hc => ?_) (fun hc => ?_)
  · have hw := hwt hc
    clear hwt hwf hc
    refine vs_iload hC hl 6 dL_law_1750 rfl ?_
    obtain ⟨hx, hw⟩ := hw
    obtain ⟨hwt, hwf⟩ := hw
    refine vs_if_ne hC 1767 hx dL_law_1752 (by decide) (fun hc => ?_) (fun hc => ?_)
    · have hw := hwt hc
      clear hwt hwf hc
      refine vs_goto hC 2295 dL_law_1767 (by decide) ?_
      exact kk V S2 T K O3 M5 _ _ _ _ _ (by omega) (by omega) hw hW (lv_sub hl [0, 1, 2, 3, 4, 5] rfl)
    · have hw := hwf hc
      clear hwt hwf hc
      refine vs_aload_n hC hl 3 dL_law_1755 rfl rfl ?_
      refine vs_iconst hC dL_law_1756 ?_
      refine vs_lald hC hW 37 rfl dL_law_1757 ?_
      refine vs_iload hC hl 7 dL_law_1758 rfl ?_
      obtain ⟨hx, hw⟩ := hw
      refine vs_i2l hC hx dL_law_1760 ?_
      obtain ⟨hx, hw⟩ := hw
      obtain ⟨hy, hw⟩ := hw
      refine vs_lcmp hC hx hy dL_law_1761 ?_
      obtain ⟨hx, hw⟩ := hw
      obtain ⟨hwt, hwf⟩ := hw
      refine vs_if_eq hC 1767 hx dL_law_1762 (by decide) (fun hc => ?_) (fun hc => ?_)
      · have hw := hwt hc
        clear hwt hwf hc
        refine vs_goto hC 2295 dL_law_1767 (by decide) ?_
        exact kk V S2 T K O3 M5 _ _ _ _ _ (by omega) (by omega) hw hW (lv_sub hl [0, 1, 2, 3, 4, 5] rfl)
      · have hw := hwf hc
        clear hwt hwf hc
        refine vs_iconst hC dL_law_1765 ?_
        exact hw.elim
  · have hw := hwf hc
    clear hwt hwf hc
    refine vs_iconst hC dL_law_1748 ?_
    exact hw.elim
set_option maxHeartbeats 4000000 in
set_option maxRecDepth 100000 in
theorem case_29 {p : Program} {l : Launch} {e : Env} {s : State} {m : MethodId} {args : Array Value} {below : List Frame} {meth : Method} {c : Code} {H : Heap} {locs : List Loc} {cells slots : Nat} {Q : State → Prop} {ls : Array Slot} {g : vs_G} {sd : Nat → Nat} {A : Nat → Prop} {h0 n0 o od b L : Nat} {aS aT aK aM rM qM : Nat → Nat} {wr : va_W} {V S T K O M : vs_St} {i p1 p2 p3 : Int} {xs : Nat → Int32} {post : vs_St → vs_St → vs_St → vs_St → vs_St → vs_St → Prop} (hst : l.stackTraces = false) (hC : CallFix p m c cL_law 9 s args vs_ws RL) (hX : vs_Xs g sd A s s.heap) (hScr : vs_Scr b L xs A s) (hi : 0 ≤ i ∧ i + 4 ≤ L ∧ L ≤ 2048) (hp1 : xs (i + 1).toNat = vs_I p1) (hp2 : xs (i + 2).toNat = vs_I p2) (hp3 : xs (i + 3).toNat = vs_I p3) (hcap : cells + 16 ≤ 603072 ∧ slots + 96 ≤ 7207018) (hW : vs_Wd g A s.heap (vs_W2 h0 (aS 0) (aT 0) (aK 0) n0 V ++ (vs_W1 g aS S ++ (vs_W1 g aT T ++ (vs_W0 g aK K ++ (vs_WO g o O ++ (vs_W3 g aM rM qM M ++ wr)))))) H locs s) (hl : lv_has ls 9 [(0, .ref b), (1, .ref h0), (2, .ref (aM 0)), (3, .ref o), (4, .ref od), (5, .int (vs_I i))])
    (hw : wcase_29 V S T K O M i p1 p2 p3 post) (kk : ∀ (V' S' T' K' O' M' : vs_St) (H : Heap) (locs : List Loc) (ls : Array Slot) (c2 s2 : Nat), c2 ≤ cells + 16 → s2 ≤ slots + 96 → post V' S' T' K' O' M' → vs_Wd g A s.heap (vs_W2 h0 (aS 0) (aT 0) (aK 0) n0 V' ++ (vs_W1 g aS S' ++ (vs_W1 g aT T' ++ (vs_W0 g aK K' ++ (vs_WO g o O' ++ (vs_W3 g aM rM qM M' ++ wr)))))) H locs s → lv_has ls 9 [(0, .ref b), (1, .ref h0), (2, .ref (aM 0)), (3, .ref o), (4, .ref od), (5, .int (vs_I i))] → W p l e room_1 s m args below meth c H locs c2 s2 Q (F0 m 2295 ls [])) :
    W p l e room_1 s m args below meth c H locs cells slots Q (F0 m 1770 ls []) := by
  unfold wcase_29 at hw
  refine vs_aload_n hC hl 1 dL_law_1770 rfl rfl ?_
  refine vs_aload_n hC hl 0 dL_law_1771 rfl rfl ?_
  refine vs_iload hC hl 5 dL_law_1772 rfl ?_
  refine vs_iconst hC dL_law_1774 ?_
  refine vs_iadd hC dL_law_1775 ?_
  refine vs_sld hC hW hScr (by omega) hp1 dL_law_1776 ?_
  refine vs_aload_n hC hl 3 dL_law_1777 rfl rfl ?_
  refine vs_callHI [.ref h0, .int (vs_I p1), .ref o] hC hW hX vk_L_warn vm_L_228 (c_L_warn l hst g sd h0 n0 o aS aT aK (vs_W3 g aM rM qM M ++ wr) V S T K O p1 _ hw) rfl hl.1 rfl ⟨rfl, rfl⟩ ⟨Nat.le_of_ble_eq_true rfl, Nat.le_of_ble_eq_true rfl⟩ ⟨show _ ≤ 603072 by omega, show _ ≤ 7207018 by omega⟩ (Nat.le_of_ble_eq_true rfl) dL_law_1778 (fun r1 u H locs hw hW => ?_)
  obtain ⟨S2, O3⟩ := u
  have hW : vs_Wd g A _ (vs_W2 h0 (aS 0) (aT 0) (aK 0) n0 V ++ (vs_W1 g aS S2 ++ (vs_W1 g aT T ++ (vs_W0 g aK K ++ (vs_WO g o O3 ++ (vs_W3 g aM rM qM M ++ wr)))))) _ _ s := hW
  refine vs_istore (L' := [(0, .ref b), (1, .ref h0), (2, .ref (aM 0)), (3, .ref o), (4, .ref od), (5, .int (vs_I i)), (6, .int (vs_I r1))]) hC hl [1, 2, 3, 4, 5, 6, 0] dL_law_1781 (by decide) rfl (fun ls hl => ?_)
  refine vs_aload_n hC hl 2 dL_law_1783 rfl rfl ?_
  refine vs_aload_n hC hl 0 dL_law_1784 rfl rfl ?_
  refine vs_iload hC hl 5 dL_law_1785 rfl ?_
  refine vs_iconst hC dL_law_1787 ?_
  refine vs_iadd hC dL_law_1788 ?_
  refine vs_sld hC hW hScr (by omega) hp1 dL_law_1789 ?_
  have hW : vs_Wd g A _ (vs_W3 g aM rM qM M ++ (vs_W2 h0 (aS 0) (aT 0) (aK 0) n0 V ++ (vs_W1 g aS S2 ++ (vs_W1 g aT T ++ (vs_W0 g aK K ++ (vs_WO g o O3 ++ wr)))))) _ _ s := vs_Wd.perm hW vs_p6
  refine vs_callVI [.int (vs_I p1)] hC hW 0 rfl rfl vk_X3_warn vm_L_230 (c_X3_warn l g aM rM qM (vs_W2 h0 (aS 0) (aT 0) (aK 0) n0 V ++ (vs_W1 g aS S2 ++ (vs_W1 g aT T ++ (vs_W0 g aK K ++ (vs_WO g o O3 ++ wr))))) M p1 _ hw) rfl hl.1 rfl ⟨rfl, rfl⟩ ⟨Nat.le_of_ble_eq_true rfl, Nat.le_of_ble_eq_true rfl⟩ ⟨show _ ≤ 603072 by omega, show _ ≤ 7207018 by omega⟩ (Nat.le_of_ble_eq_true rfl) dL_law_1790 (fun r4 M5 H locs hw hW => ?_)
  have hW : vs_Wd g A _ (vs_W3 g aM rM qM M5 ++ (vs_W2 h0 (aS 0) (aT 0) (aK 0) n0 V ++ (vs_W1 g aS S2 ++ (vs_W1 g aT T ++ (vs_W0 g aK K ++ (vs_WO g o O3 ++ wr)))))) _ _ s := hW
  have hW : vs_Wd g A _ (vs_W2 h0 (aS 0) (aT 0) (aK 0) n0 V ++ (vs_W1 g aS S2 ++ (vs_W1 g aT T ++ (vs_W0 g aK K ++ (vs_WO g o O3 ++ (vs_W3 g aM rM qM M5 ++ wr)))))) _ _ s := vs_Wd.perm hW (List.Perm.symm vs_p6)
  refine vs_istore (L' := [(0, .ref b), (1, .ref h0), (2, .ref (aM 0)), (3, .ref o), (4, .ref od), (5, .int (vs_I i)), (6, .int (vs_I r1)), (7, .int (vs_I r4))]) hC hl [1, 2, 3, 4, 5, 6, 7, 0] dL_law_1793 (by decide) rfl (fun ls hl => ?_)
  refine vs_aload_n hC hl 2 dL_law_1795 rfl rfl ?_
  have hW : vs_Wd g A _ (vs_W3 g aM rM qM M5 ++ (vs_W2 h0 (aS 0) (aT 0) (aK 0) n0 V ++ (vs_W1 g aS S2 ++ (vs_W1 g aT T ++ (vs_W0 g aK K ++ (vs_WO g o O3 ++ wr)))))) _ _ s := vs_Wd.perm hW vs_p6
  refine vs_callVI [] hC hW 0 rfl rfl vk_X3_thrown vm_L_133 (c_X3_thrown l g aM rM qM (vs_W2 h0 (aS 0) (aT 0) (aK 0) n0 V ++ (vs_W1 g aS S2 ++ (vs_W1 g aT T ++ (vs_W0 g aK K ++ (vs_WO g o O3 ++ wr))))) M5  _ hw) rfl hl.1 rfl ⟨rfl, rfl⟩ ⟨Nat.le_of_ble_eq_true rfl, Nat.le_of_ble_eq_true rfl⟩ ⟨show _ ≤ 603072 by omega, show _ ≤ 7207018 by omega⟩ (Nat.le_of_ble_eq_true rfl) dL_law_1796 (fun r6 _ H locs hw hW => ?_)
  have hW : vs_Wd g A _ (vs_W3 g aM rM qM M5 ++ (vs_W2 h0 (aS 0) (aT 0) (aK 0) n0 V ++ (vs_W1 g aS S2 ++ (vs_W1 g aT T ++ (vs_W0 g aK K ++ (vs_WO g o O3 ++ wr)))))) _ _ s := hW
  have hW : vs_Wd g A _ (vs_W2 h0 (aS 0) (aT 0) (aK 0) n0 V ++ (vs_W1 g aS S2 ++ (vs_W1 g aT T ++ (vs_W0 g aK K ++ (vs_WO g o O3 ++ (vs_W3 g aM rM qM M5 ++ wr)))))) _ _ s := vs_Wd.perm hW (List.Perm.symm vs_p6)
  refine vs_iload hC hl 6 dL_law_1799 rfl ?_
  obtain ⟨hx, hw⟩ := hw
  obtain ⟨hy, hw⟩ := hw
  obtain ⟨hwt, hwf⟩ := hw
  refine vs_icmp_eq hC 1806 hx hy dL_law_1801 (by decide) (fun hc => ?_) (fun hc => ?_)
  · have hw := hwt hc
    clear hwt hwf hc
    refine vs_iload hC hl 6 dL_law_1806 rfl ?_
    obtain ⟨hx, hw⟩ := hw
    obtain ⟨hwt, hwf⟩ := hw
    refine vs_if_ne hC 1823 hx dL_law_1808 (by decide) (fun hc => ?_) (fun hc => ?_)
    · have hw := hwt hc
      clear hwt hwf hc
      refine vs_goto hC 2295 dL_law_1823 (by decide) ?_
      exact kk V S2 T K O3 M5 _ _ _ _ _ (by omega) (by omega) hw hW (lv_sub hl [0, 1, 2, 3, 4, 5] rfl)
    · have hw := hwf hc
      clear hwt hwf hc
      refine vs_aload_n hC hl 3 dL_law_1811 rfl rfl ?_
      refine vs_iconst hC dL_law_1812 ?_
      refine vs_lald hC hW 37 rfl dL_law_1813 ?_
      refine vs_iload hC hl 7 dL_law_1814 rfl ?_
      obtain ⟨hx, hw⟩ := hw
      refine vs_i2l hC hx dL_law_1816 ?_
      obtain ⟨hx, hw⟩ := hw
      obtain ⟨hy, hw⟩ := hw
      refine vs_lcmp hC hx hy dL_law_1817 ?_
      obtain ⟨hx, hw⟩ := hw
      obtain ⟨hwt, hwf⟩ := hw
      refine vs_if_eq hC 1823 hx dL_law_1818 (by decide) (fun hc => ?_) (fun hc => ?_)
      · have hw := hwt hc
        clear hwt hwf hc
        refine vs_goto hC 2295 dL_law_1823 (by decide) ?_
        exact kk V S2 T K O3 M5 _ _ _ _ _ (by omega) (by omega) hw hW (lv_sub hl [0, 1, 2, 3, 4, 5] rfl)
      · have hw := hwf hc
        clear hwt hwf hc
        refine vs_iconst hC dL_law_1821 ?_
        exact hw.elim
  · have hw := hwf hc
    clear hwt hwf hc
    refine vs_iconst hC dL_law_1804 ?_
    exact hw.elim
set_option maxHeartbeats 4000000 in
set_option maxRecDepth 100000 in
theorem case_30 {p : Program} {l : Launch} {e : Env} {s : State} {m : MethodId} {args : Array Value} {below : List Frame} {meth : Method} {c : Code} {H : Heap} {locs : List Loc} {cells slots : Nat} {Q : State → Prop} {ls : Array Slot} {g : vs_G} {sd : Nat → Nat} {A : Nat → Prop} {h0 n0 o od b L : Nat} {aS aT aK aM rM qM : Nat → Nat} {wr : va_W} {V S T K O M : vs_St} {i p1 p2 p3 : Int} {xs : Nat → Int32} {post : vs_St → vs_St → vs_St → vs_St → vs_St → vs_St → Prop} (hst : l.stackTraces = false) (hC : CallFix p m c cL_law 9 s args vs_ws RL) (hX : vs_Xs g sd A s s.heap) (hScr : vs_Scr b L xs A s) (hi : 0 ≤ i ∧ i + 4 ≤ L ∧ L ≤ 2048) (hp1 : xs (i + 1).toNat = vs_I p1) (hp2 : xs (i + 2).toNat = vs_I p2) (hp3 : xs (i + 3).toNat = vs_I p3) (hcap : cells + 16 ≤ 603072 ∧ slots + 96 ≤ 7207018) (hW : vs_Wd g A s.heap (vs_W2 h0 (aS 0) (aT 0) (aK 0) n0 V ++ (vs_W1 g aS S ++ (vs_W1 g aT T ++ (vs_W0 g aK K ++ (vs_WO g o O ++ (vs_W3 g aM rM qM M ++ wr)))))) H locs s) (hl : lv_has ls 9 [(0, .ref b), (1, .ref h0), (2, .ref (aM 0)), (3, .ref o), (4, .ref od), (5, .int (vs_I i))])
    (hw : wcase_30 V S T K O M i p1 p2 p3 post) (kk : ∀ (V' S' T' K' O' M' : vs_St) (H : Heap) (locs : List Loc) (ls : Array Slot) (c2 s2 : Nat), c2 ≤ cells + 16 → s2 ≤ slots + 96 → post V' S' T' K' O' M' → vs_Wd g A s.heap (vs_W2 h0 (aS 0) (aT 0) (aK 0) n0 V' ++ (vs_W1 g aS S' ++ (vs_W1 g aT T' ++ (vs_W0 g aK K' ++ (vs_WO g o O' ++ (vs_W3 g aM rM qM M' ++ wr)))))) H locs s → lv_has ls 9 [(0, .ref b), (1, .ref h0), (2, .ref (aM 0)), (3, .ref o), (4, .ref od), (5, .int (vs_I i))] → W p l e room_1 s m args below meth c H locs c2 s2 Q (F0 m 2295 ls [])) :
    W p l e room_1 s m args below meth c H locs cells slots Q (F0 m 1826 ls []) := by
  unfold wcase_30 at hw
  refine vs_aload_n hC hl 1 dL_law_1826 rfl rfl ?_
  refine vs_aload_n hC hl 0 dL_law_1827 rfl rfl ?_
  refine vs_iload hC hl 5 dL_law_1828 rfl ?_
  refine vs_iconst hC dL_law_1830 ?_
  refine vs_iadd hC dL_law_1831 ?_
  refine vs_sld hC hW hScr (by omega) hp1 dL_law_1832 ?_
  refine vs_aload_n hC hl 0 dL_law_1833 rfl rfl ?_
  refine vs_iload hC hl 5 dL_law_1834 rfl ?_
  refine vs_iconst hC dL_law_1836 ?_
  refine vs_iadd hC dL_law_1837 ?_
  refine vs_sld hC hW hScr (by omega) hp2 dL_law_1838 ?_
  refine vs_aload_n hC hl 3 dL_law_1839 rfl rfl ?_
  refine vs_callHI [.ref h0, .int (vs_I p1), .int (vs_I p2), .ref o] hC hW hX vk_L_rot vm_L_231 (c_L_rot l hst g sd h0 n0 o aS aT aK (vs_W3 g aM rM qM M ++ wr) V S T K O p1 p2 _ hw) rfl hl.1 rfl ⟨rfl, rfl⟩ ⟨Nat.le_of_ble_eq_true rfl, Nat.le_of_ble_eq_true rfl⟩ ⟨show _ ≤ 603072 by omega, show _ ≤ 7207018 by omega⟩ (Nat.le_of_ble_eq_true rfl) dL_law_1840 (fun r1 u H locs hw hW => ?_)
  obtain ⟨S2, O3⟩ := u
  have hW : vs_Wd g A _ (vs_W2 h0 (aS 0) (aT 0) (aK 0) n0 V ++ (vs_W1 g aS S2 ++ (vs_W1 g aT T ++ (vs_W0 g aK K ++ (vs_WO g o O3 ++ (vs_W3 g aM rM qM M ++ wr)))))) _ _ s := hW
  refine vs_istore (L' := [(0, .ref b), (1, .ref h0), (2, .ref (aM 0)), (3, .ref o), (4, .ref od), (5, .int (vs_I i)), (6, .int (vs_I r1))]) hC hl [1, 2, 3, 4, 5, 6, 0] dL_law_1843 (by decide) rfl (fun ls hl => ?_)
  refine vs_aload_n hC hl 2 dL_law_1845 rfl rfl ?_
  refine vs_aload_n hC hl 0 dL_law_1846 rfl rfl ?_
  refine vs_iload hC hl 5 dL_law_1847 rfl ?_
  refine vs_iconst hC dL_law_1849 ?_
  refine vs_iadd hC dL_law_1850 ?_
  refine vs_sld hC hW hScr (by omega) hp1 dL_law_1851 ?_
  refine vs_aload_n hC hl 0 dL_law_1852 rfl rfl ?_
  refine vs_iload hC hl 5 dL_law_1853 rfl ?_
  refine vs_iconst hC dL_law_1855 ?_
  refine vs_iadd hC dL_law_1856 ?_
  refine vs_sld hC hW hScr (by omega) hp2 dL_law_1857 ?_
  have hW : vs_Wd g A _ (vs_W3 g aM rM qM M ++ (vs_W2 h0 (aS 0) (aT 0) (aK 0) n0 V ++ (vs_W1 g aS S2 ++ (vs_W1 g aT T ++ (vs_W0 g aK K ++ (vs_WO g o O3 ++ wr)))))) _ _ s := vs_Wd.perm hW vs_p6
  refine vs_callVI [.int (vs_I p1), .int (vs_I p2)] hC hW 0 rfl rfl vk_X3_rot vm_L_233 (c_X3_rot l g aM rM qM (vs_W2 h0 (aS 0) (aT 0) (aK 0) n0 V ++ (vs_W1 g aS S2 ++ (vs_W1 g aT T ++ (vs_W0 g aK K ++ (vs_WO g o O3 ++ wr))))) M p1 p2 _ hw) rfl hl.1 rfl ⟨rfl, rfl⟩ ⟨Nat.le_of_ble_eq_true rfl, Nat.le_of_ble_eq_true rfl⟩ ⟨show _ ≤ 603072 by omega, show _ ≤ 7207018 by omega⟩ (Nat.le_of_ble_eq_true rfl) dL_law_1858 (fun r4 M5 H locs hw hW => ?_)
  have hW : vs_Wd g A _ (vs_W3 g aM rM qM M5 ++ (vs_W2 h0 (aS 0) (aT 0) (aK 0) n0 V ++ (vs_W1 g aS S2 ++ (vs_W1 g aT T ++ (vs_W0 g aK K ++ (vs_WO g o O3 ++ wr)))))) _ _ s := hW
  have hW : vs_Wd g A _ (vs_W2 h0 (aS 0) (aT 0) (aK 0) n0 V ++ (vs_W1 g aS S2 ++ (vs_W1 g aT T ++ (vs_W0 g aK K ++ (vs_WO g o O3 ++ (vs_W3 g aM rM qM M5 ++ wr)))))) _ _ s := vs_Wd.perm hW (List.Perm.symm vs_p6)
  refine vs_istore (L' := [(0, .ref b), (1, .ref h0), (2, .ref (aM 0)), (3, .ref o), (4, .ref od), (5, .int (vs_I i)), (6, .int (vs_I r1)), (7, .int (vs_I r4))]) hC hl [1, 2, 3, 4, 5, 6, 7, 0] dL_law_1861 (by decide) rfl (fun ls hl => ?_)
  refine vs_aload_n hC hl 2 dL_law_1863 rfl rfl ?_
  have hW : vs_Wd g A _ (vs_W3 g aM rM qM M5 ++ (vs_W2 h0 (aS 0) (aT 0) (aK 0) n0 V ++ (vs_W1 g aS S2 ++ (vs_W1 g aT T ++ (vs_W0 g aK K ++ (vs_WO g o O3 ++ wr)))))) _ _ s := vs_Wd.perm hW vs_p6
  refine vs_callVI [] hC hW 0 rfl rfl vk_X3_thrown vm_L_133 (c_X3_thrown l g aM rM qM (vs_W2 h0 (aS 0) (aT 0) (aK 0) n0 V ++ (vs_W1 g aS S2 ++ (vs_W1 g aT T ++ (vs_W0 g aK K ++ (vs_WO g o O3 ++ wr))))) M5  _ hw) rfl hl.1 rfl ⟨rfl, rfl⟩ ⟨Nat.le_of_ble_eq_true rfl, Nat.le_of_ble_eq_true rfl⟩ ⟨show _ ≤ 603072 by omega, show _ ≤ 7207018 by omega⟩ (Nat.le_of_ble_eq_true rfl) dL_law_1864 (fun r6 _ H locs hw hW => ?_)
  have hW : vs_Wd g A _ (vs_W3 g aM rM qM M5 ++ (vs_W2 h0 (aS 0) (aT 0) (aK 0) n0 V ++ (vs_W1 g aS S2 ++ (vs_W1 g aT T ++ (vs_W0 g aK K ++ (vs_WO g o O3 ++ wr)))))) _ _ s := hW
  have hW : vs_Wd g A _ (vs_W2 h0 (aS 0) (aT 0) (aK 0) n0 V ++ (vs_W1 g aS S2 ++ (vs_W1 g aT T ++ (vs_W0 g aK K ++ (vs_WO g o O3 ++ (vs_W3 g aM rM qM M5 ++ wr)))))) _ _ s := vs_Wd.perm hW (List.Perm.symm vs_p6)
  refine vs_iload hC hl 6 dL_law_1867 rfl ?_
  obtain ⟨hx, hw⟩ := hw
  obtain ⟨hy, hw⟩ := hw
  obtain ⟨hwt, hwf⟩ := hw
  refine vs_icmp_eq hC 1874 hx hy dL_law_1869 (by decide) (fun hc => ?_) (fun hc => ?_)
  · have hw := hwt hc
    clear hwt hwf hc
    refine vs_iload hC hl 6 dL_law_1874 rfl ?_
    obtain ⟨hx, hw⟩ := hw
    obtain ⟨hwt, hwf⟩ := hw
    refine vs_if_ne hC 1898 hx dL_law_1876 (by decide) (fun hc => ?_) (fun hc => ?_)
    · have hw := hwt hc
      clear hwt hwf hc
      refine vs_goto hC 2295 dL_law_1898 (by decide) ?_
      exact kk V S2 T K O3 M5 _ _ _ _ _ (by omega) (by omega) hw hW (lv_sub hl [0, 1, 2, 3, 4, 5] rfl)
    · have hw := hwf hc
      clear hwt hwf hc
      refine vs_aload_n hC hl 3 dL_law_1879 rfl rfl ?_
      refine vs_iconst hC dL_law_1880 ?_
      refine vs_lald hC hW 37 rfl dL_law_1881 ?_
      refine vs_iload hC hl 7 dL_law_1882 rfl ?_
      obtain ⟨hx, hw⟩ := hw
      obtain ⟨hwt, hwf⟩ := hw
      refine vs_if_eq hC 1891 hx dL_law_1884 (by decide) (fun hc => ?_) (fun hc => ?_)
      · have hw := hwt hc
        clear hwt hwf hc
        refine vs_lconst (x := 0) hC dL_law_1891 (by decide +kernel) ?_
        obtain ⟨hx, hw⟩ := hw
        refine vs_lcmp hC hx ⟨by decide, by decide⟩ dL_law_1892 ?_
        obtain ⟨hx, hw⟩ := hw
        obtain ⟨hwt, hwf⟩ := hw
        refine vs_if_eq hC 1898 hx dL_law_1893 (by decide) (fun hc => ?_) (fun hc => ?_)
        · have hw := hwt hc
          clear hwt hwf hc
          refine vs_goto hC 2295 dL_law_1898 (by decide) ?_
          exact kk V S2 T K O3 M5 _ _ _ _ _ (by omega) (by omega) hw hW (lv_sub hl [0, 1, 2, 3, 4, 5] rfl)
        · have hw := hwf hc
          clear hwt hwf hc
          refine vs_iconst hC dL_law_1896 ?_
          exact hw.elim
      · have hw := hwf hc
        clear hwt hwf hc
        refine vs_lconst (x := 1) hC dL_law_1887 (by decide +kernel) ?_
        refine vs_goto hC 1892 dL_law_1888 (by decide) ?_
        obtain ⟨hx, hw⟩ := hw
        refine vs_lcmp hC hx ⟨by decide, by decide⟩ dL_law_1892 ?_
        obtain ⟨hx, hw⟩ := hw
        obtain ⟨hwt, hwf⟩ := hw
        refine vs_if_eq hC 1898 hx dL_law_1893 (by decide) (fun hc => ?_) (fun hc => ?_)
        · have hw := hwt hc
          clear hwt hwf hc
          refine vs_goto hC 2295 dL_law_1898 (by decide) ?_
          exact kk V S2 T K O3 M5 _ _ _ _ _ (by omega) (by omega) hw hW (lv_sub hl [0, 1, 2, 3, 4, 5] rfl)
        · have hw := hwf hc
          clear hwt hwf hc
          refine vs_iconst hC dL_law_1896 ?_
          exact hw.elim
  · have hw := hwf hc
    clear hwt hwf hc
    refine vs_iconst hC dL_law_1872 ?_
    exact hw.elim
set_option maxHeartbeats 4000000 in
set_option maxRecDepth 100000 in
theorem case_31 {p : Program} {l : Launch} {e : Env} {s : State} {m : MethodId} {args : Array Value} {below : List Frame} {meth : Method} {c : Code} {H : Heap} {locs : List Loc} {cells slots : Nat} {Q : State → Prop} {ls : Array Slot} {g : vs_G} {sd : Nat → Nat} {A : Nat → Prop} {h0 n0 o od b L : Nat} {aS aT aK aM rM qM : Nat → Nat} {wr : va_W} {V S T K O M : vs_St} {i p1 p2 p3 : Int} {xs : Nat → Int32} {post : vs_St → vs_St → vs_St → vs_St → vs_St → vs_St → Prop} (hst : l.stackTraces = false) (hC : CallFix p m c cL_law 9 s args vs_ws RL) (hX : vs_Xs g sd A s s.heap) (hScr : vs_Scr b L xs A s) (hi : 0 ≤ i ∧ i + 4 ≤ L ∧ L ≤ 2048) (hp1 : xs (i + 1).toNat = vs_I p1) (hp2 : xs (i + 2).toNat = vs_I p2) (hp3 : xs (i + 3).toNat = vs_I p3) (hcap : cells + 16 ≤ 603072 ∧ slots + 96 ≤ 7207018) (hW : vs_Wd g A s.heap (vs_W2 h0 (aS 0) (aT 0) (aK 0) n0 V ++ (vs_W1 g aS S ++ (vs_W1 g aT T ++ (vs_W0 g aK K ++ (vs_WO g o O ++ (vs_W3 g aM rM qM M ++ wr)))))) H locs s) (hl : lv_has ls 9 [(0, .ref b), (1, .ref h0), (2, .ref (aM 0)), (3, .ref o), (4, .ref od), (5, .int (vs_I i))])
    (hw : wcase_31 V S T K O M i p1 p2 p3 post) (kk : ∀ (V' S' T' K' O' M' : vs_St) (H : Heap) (locs : List Loc) (ls : Array Slot) (c2 s2 : Nat), c2 ≤ cells + 16 → s2 ≤ slots + 96 → post V' S' T' K' O' M' → vs_Wd g A s.heap (vs_W2 h0 (aS 0) (aT 0) (aK 0) n0 V' ++ (vs_W1 g aS S' ++ (vs_W1 g aT T' ++ (vs_W0 g aK K' ++ (vs_WO g o O' ++ (vs_W3 g aM rM qM M' ++ wr)))))) H locs s → lv_has ls 9 [(0, .ref b), (1, .ref h0), (2, .ref (aM 0)), (3, .ref o), (4, .ref od), (5, .int (vs_I i))] → W p l e room_1 s m args below meth c H locs c2 s2 Q (F0 m 2295 ls [])) :
    W p l e room_1 s m args below meth c H locs cells slots Q (F0 m 1901 ls []) := by
  unfold wcase_31 at hw
  refine vs_aload_n hC hl 1 dL_law_1901 rfl rfl ?_
  refine vs_aload_n hC hl 0 dL_law_1902 rfl rfl ?_
  refine vs_iload hC hl 5 dL_law_1903 rfl ?_
  refine vs_iconst hC dL_law_1905 ?_
  refine vs_iadd hC dL_law_1906 ?_
  refine vs_sld hC hW hScr (by omega) hp1 dL_law_1907 ?_
  refine vs_aload_n hC hl 3 dL_law_1908 rfl rfl ?_
  refine vs_callHI [.ref h0, .int (vs_I p1), .ref o] hC hW hX vk_L_scrub vm_L_234 (c_L_scrub l hst g sd h0 n0 o aS aT aK (vs_W3 g aM rM qM M ++ wr) V S T K O p1 _ hw) rfl hl.1 rfl ⟨rfl, rfl⟩ ⟨Nat.le_of_ble_eq_true rfl, Nat.le_of_ble_eq_true rfl⟩ ⟨show _ ≤ 603072 by omega, show _ ≤ 7207018 by omega⟩ (Nat.le_of_ble_eq_true rfl) dL_law_1909 (fun r1 u H locs hw hW => ?_)
  obtain ⟨S2, O3⟩ := u
  have hW : vs_Wd g A _ (vs_W2 h0 (aS 0) (aT 0) (aK 0) n0 V ++ (vs_W1 g aS S2 ++ (vs_W1 g aT T ++ (vs_W0 g aK K ++ (vs_WO g o O3 ++ (vs_W3 g aM rM qM M ++ wr)))))) _ _ s := hW
  refine vs_istore (L' := [(0, .ref b), (1, .ref h0), (2, .ref (aM 0)), (3, .ref o), (4, .ref od), (5, .int (vs_I i)), (6, .int (vs_I r1))]) hC hl [1, 2, 3, 4, 5, 6, 0] dL_law_1912 (by decide) rfl (fun ls hl => ?_)
  refine vs_aload_n hC hl 2 dL_law_1914 rfl rfl ?_
  refine vs_aload_n hC hl 0 dL_law_1915 rfl rfl ?_
  refine vs_iload hC hl 5 dL_law_1916 rfl ?_
  refine vs_iconst hC dL_law_1918 ?_
  refine vs_iadd hC dL_law_1919 ?_
  refine vs_sld hC hW hScr (by omega) hp1 dL_law_1920 ?_
  have hW : vs_Wd g A _ (vs_W3 g aM rM qM M ++ (vs_W2 h0 (aS 0) (aT 0) (aK 0) n0 V ++ (vs_W1 g aS S2 ++ (vs_W1 g aT T ++ (vs_W0 g aK K ++ (vs_WO g o O3 ++ wr)))))) _ _ s := vs_Wd.perm hW vs_p6
  refine vs_callVI [.int (vs_I p1)] hC hW 0 rfl rfl vk_X3_scrub vm_L_236 (c_X3_scrub l g aM rM qM (vs_W2 h0 (aS 0) (aT 0) (aK 0) n0 V ++ (vs_W1 g aS S2 ++ (vs_W1 g aT T ++ (vs_W0 g aK K ++ (vs_WO g o O3 ++ wr))))) M p1 _ hw) rfl hl.1 rfl ⟨rfl, rfl⟩ ⟨Nat.le_of_ble_eq_true rfl, Nat.le_of_ble_eq_true rfl⟩ ⟨show _ ≤ 603072 by omega, show _ ≤ 7207018 by omega⟩ (Nat.le_of_ble_eq_true rfl) dL_law_1921 (fun r4 M5 H locs hw hW => ?_)
  have hW : vs_Wd g A _ (vs_W3 g aM rM qM M5 ++ (vs_W2 h0 (aS 0) (aT 0) (aK 0) n0 V ++ (vs_W1 g aS S2 ++ (vs_W1 g aT T ++ (vs_W0 g aK K ++ (vs_WO g o O3 ++ wr)))))) _ _ s := hW
  have hW : vs_Wd g A _ (vs_W2 h0 (aS 0) (aT 0) (aK 0) n0 V ++ (vs_W1 g aS S2 ++ (vs_W1 g aT T ++ (vs_W0 g aK K ++ (vs_WO g o O3 ++ (vs_W3 g aM rM qM M5 ++ wr)))))) _ _ s := vs_Wd.perm hW (List.Perm.symm vs_p6)
  refine vs_istore (L' := [(0, .ref b), (1, .ref h0), (2, .ref (aM 0)), (3, .ref o), (4, .ref od), (5, .int (vs_I i)), (6, .int (vs_I r1)), (7, .int (vs_I r4))]) hC hl [1, 2, 3, 4, 5, 6, 7, 0] dL_law_1924 (by decide) rfl (fun ls hl => ?_)
  refine vs_aload_n hC hl 2 dL_law_1926 rfl rfl ?_
  have hW : vs_Wd g A _ (vs_W3 g aM rM qM M5 ++ (vs_W2 h0 (aS 0) (aT 0) (aK 0) n0 V ++ (vs_W1 g aS S2 ++ (vs_W1 g aT T ++ (vs_W0 g aK K ++ (vs_WO g o O3 ++ wr)))))) _ _ s := vs_Wd.perm hW vs_p6
  refine vs_callVI [] hC hW 0 rfl rfl vk_X3_thrown vm_L_133 (c_X3_thrown l g aM rM qM (vs_W2 h0 (aS 0) (aT 0) (aK 0) n0 V ++ (vs_W1 g aS S2 ++ (vs_W1 g aT T ++ (vs_W0 g aK K ++ (vs_WO g o O3 ++ wr))))) M5  _ hw) rfl hl.1 rfl ⟨rfl, rfl⟩ ⟨Nat.le_of_ble_eq_true rfl, Nat.le_of_ble_eq_true rfl⟩ ⟨show _ ≤ 603072 by omega, show _ ≤ 7207018 by omega⟩ (Nat.le_of_ble_eq_true rfl) dL_law_1927 (fun r6 _ H locs hw hW => ?_)
  have hW : vs_Wd g A _ (vs_W3 g aM rM qM M5 ++ (vs_W2 h0 (aS 0) (aT 0) (aK 0) n0 V ++ (vs_W1 g aS S2 ++ (vs_W1 g aT T ++ (vs_W0 g aK K ++ (vs_WO g o O3 ++ wr)))))) _ _ s := hW
  have hW : vs_Wd g A _ (vs_W2 h0 (aS 0) (aT 0) (aK 0) n0 V ++ (vs_W1 g aS S2 ++ (vs_W1 g aT T ++ (vs_W0 g aK K ++ (vs_WO g o O3 ++ (vs_W3 g aM rM qM M5 ++ wr)))))) _ _ s := vs_Wd.perm hW (List.Perm.symm vs_p6)
  refine vs_iload hC hl 6 dL_law_1930 rfl ?_
  obtain ⟨hx, hw⟩ := hw
  obtain ⟨hy, hw⟩ := hw
  obtain ⟨hwt, hwf⟩ := hw
  refine vs_icmp_eq hC 1937 hx hy dL_law_1932 (by decide) (fun hc => ?_) (fun hc => ?_)
  · have hw := hwt hc
    clear hwt hwf hc
    refine vs_iload hC hl 6 dL_law_1937 rfl ?_
    obtain ⟨hx, hw⟩ := hw
    obtain ⟨hwt, hwf⟩ := hw
    refine vs_if_ne hC 1954 hx dL_law_1939 (by decide) (fun hc => ?_) (fun hc => ?_)
    · have hw := hwt hc
      clear hwt hwf hc
      refine vs_goto hC 2295 dL_law_1954 (by decide) ?_
      exact kk V S2 T K O3 M5 _ _ _ _ _ (by omega) (by omega) hw hW (lv_sub hl [0, 1, 2, 3, 4, 5] rfl)
    · have hw := hwf hc
      clear hwt hwf hc
      refine vs_aload_n hC hl 3 dL_law_1942 rfl rfl ?_
      refine vs_iconst hC dL_law_1943 ?_
      refine vs_lald hC hW 37 rfl dL_law_1944 ?_
      refine vs_iload hC hl 7 dL_law_1945 rfl ?_
      obtain ⟨hx, hw⟩ := hw
      refine vs_i2l hC hx dL_law_1947 ?_
      obtain ⟨hx, hw⟩ := hw
      obtain ⟨hy, hw⟩ := hw
      refine vs_lcmp hC hx hy dL_law_1948 ?_
      obtain ⟨hx, hw⟩ := hw
      obtain ⟨hwt, hwf⟩ := hw
      refine vs_if_eq hC 1954 hx dL_law_1949 (by decide) (fun hc => ?_) (fun hc => ?_)
      · have hw := hwt hc
        clear hwt hwf hc
        refine vs_goto hC 2295 dL_law_1954 (by decide) ?_
        exact kk V S2 T K O3 M5 _ _ _ _ _ (by omega) (by omega) hw hW (lv_sub hl [0, 1, 2, 3, 4, 5] rfl)
      · have hw := hwf hc
        clear hwt hwf hc
        refine vs_iconst hC dL_law_1952 ?_
        exact hw.elim
  · have hw := hwf hc
    clear hwt hwf hc
    refine vs_iconst hC dL_law_1935 ?_
    exact hw.elim
set_option maxHeartbeats 4000000 in
set_option maxRecDepth 100000 in
theorem case_32 {p : Program} {l : Launch} {e : Env} {s : State} {m : MethodId} {args : Array Value} {below : List Frame} {meth : Method} {c : Code} {H : Heap} {locs : List Loc} {cells slots : Nat} {Q : State → Prop} {ls : Array Slot} {g : vs_G} {sd : Nat → Nat} {A : Nat → Prop} {h0 n0 o od b L : Nat} {aS aT aK aM rM qM : Nat → Nat} {wr : va_W} {V S T K O M : vs_St} {i p1 p2 p3 : Int} {xs : Nat → Int32} {post : vs_St → vs_St → vs_St → vs_St → vs_St → vs_St → Prop} (hst : l.stackTraces = false) (hC : CallFix p m c cL_law 9 s args vs_ws RL) (hX : vs_Xs g sd A s s.heap) (hScr : vs_Scr b L xs A s) (hi : 0 ≤ i ∧ i + 4 ≤ L ∧ L ≤ 2048) (hp1 : xs (i + 1).toNat = vs_I p1) (hp2 : xs (i + 2).toNat = vs_I p2) (hp3 : xs (i + 3).toNat = vs_I p3) (hcap : cells + 16 ≤ 603072 ∧ slots + 96 ≤ 7207018) (hW : vs_Wd g A s.heap (vs_W2 h0 (aS 0) (aT 0) (aK 0) n0 V ++ (vs_W1 g aS S ++ (vs_W1 g aT T ++ (vs_W0 g aK K ++ (vs_WO g o O ++ (vs_W3 g aM rM qM M ++ wr)))))) H locs s) (hl : lv_has ls 9 [(0, .ref b), (1, .ref h0), (2, .ref (aM 0)), (3, .ref o), (4, .ref od), (5, .int (vs_I i))])
    (hw : wcase_32 V S T K O M i p1 p2 p3 post) (kk : ∀ (V' S' T' K' O' M' : vs_St) (H : Heap) (locs : List Loc) (ls : Array Slot) (c2 s2 : Nat), c2 ≤ cells + 16 → s2 ≤ slots + 96 → post V' S' T' K' O' M' → vs_Wd g A s.heap (vs_W2 h0 (aS 0) (aT 0) (aK 0) n0 V' ++ (vs_W1 g aS S' ++ (vs_W1 g aT T' ++ (vs_W0 g aK K' ++ (vs_WO g o O' ++ (vs_W3 g aM rM qM M' ++ wr)))))) H locs s → lv_has ls 9 [(0, .ref b), (1, .ref h0), (2, .ref (aM 0)), (3, .ref o), (4, .ref od), (5, .int (vs_I i))] → W p l e room_1 s m args below meth c H locs c2 s2 Q (F0 m 2295 ls [])) :
    W p l e room_1 s m args below meth c H locs cells slots Q (F0 m 1957 ls []) := by
  unfold wcase_32 at hw
  refine vs_aload_n hC hl 1 dL_law_1957 rfl rfl ?_
  refine vs_aload_n hC hl 0 dL_law_1958 rfl rfl ?_
  refine vs_iload hC hl 5 dL_law_1959 rfl ?_
  refine vs_iconst hC dL_law_1961 ?_
  refine vs_iadd hC dL_law_1962 ?_
  refine vs_sld hC hW hScr (by omega) hp1 dL_law_1963 ?_
  refine vs_aload_n hC hl 3 dL_law_1964 rfl rfl ?_
  refine vs_callHI [.ref h0, .int (vs_I p1), .ref o] hC hW hX vk_L_rottenOn vm_L_237 (c_L_rottenOn l hst g sd h0 n0 o aS aT aK (vs_W3 g aM rM qM M ++ wr) V S T K O p1 _ hw) rfl hl.1 rfl ⟨rfl, rfl⟩ ⟨Nat.le_of_ble_eq_true rfl, Nat.le_of_ble_eq_true rfl⟩ ⟨show _ ≤ 603072 by omega, show _ ≤ 7207018 by omega⟩ (Nat.le_of_ble_eq_true rfl) dL_law_1965 (fun r1 O2 H locs hw hW => ?_)
  have hW : vs_Wd g A _ (vs_W2 h0 (aS 0) (aT 0) (aK 0) n0 V ++ (vs_W1 g aS S ++ (vs_W1 g aT T ++ (vs_W0 g aK K ++ (vs_WO g o O2 ++ (vs_W3 g aM rM qM M ++ wr)))))) _ _ s := hW
  refine vs_istore (L' := [(0, .ref b), (1, .ref h0), (2, .ref (aM 0)), (3, .ref o), (4, .ref od), (5, .int (vs_I i)), (6, .int (vs_I r1))]) hC hl [1, 2, 3, 4, 5, 6, 0] dL_law_1968 (by decide) rfl (fun ls hl => ?_)
  refine vs_aload_n hC hl 2 dL_law_1970 rfl rfl ?_
  refine vs_aload_n hC hl 0 dL_law_1971 rfl rfl ?_
  refine vs_iload hC hl 5 dL_law_1972 rfl ?_
  refine vs_iconst hC dL_law_1974 ?_
  refine vs_iadd hC dL_law_1975 ?_
  refine vs_sld hC hW hScr (by omega) hp1 dL_law_1976 ?_
  have hW : vs_Wd g A _ (vs_W3 g aM rM qM M ++ (vs_W2 h0 (aS 0) (aT 0) (aK 0) n0 V ++ (vs_W1 g aS S ++ (vs_W1 g aT T ++ (vs_W0 g aK K ++ (vs_WO g o O2 ++ wr)))))) _ _ s := vs_Wd.perm hW vs_p6
  refine vs_callVI [.int (vs_I p1)] hC hW 0 rfl rfl vk_X3_rottenOn vm_L_239 (c_X3_rottenOn l g aM rM qM (vs_W2 h0 (aS 0) (aT 0) (aK 0) n0 V ++ (vs_W1 g aS S ++ (vs_W1 g aT T ++ (vs_W0 g aK K ++ (vs_WO g o O2 ++ wr))))) M p1 _ hw) rfl hl.1 rfl ⟨rfl, rfl⟩ ⟨Nat.le_of_ble_eq_true rfl, Nat.le_of_ble_eq_true rfl⟩ ⟨show _ ≤ 603072 by omega, show _ ≤ 7207018 by omega⟩ (Nat.le_of_ble_eq_true rfl) dL_law_1977 (fun r3 M4 H locs hw hW => ?_)
  have hW : vs_Wd g A _ (vs_W3 g aM rM qM M4 ++ (vs_W2 h0 (aS 0) (aT 0) (aK 0) n0 V ++ (vs_W1 g aS S ++ (vs_W1 g aT T ++ (vs_W0 g aK K ++ (vs_WO g o O2 ++ wr)))))) _ _ s := hW
  have hW : vs_Wd g A _ (vs_W2 h0 (aS 0) (aT 0) (aK 0) n0 V ++ (vs_W1 g aS S ++ (vs_W1 g aT T ++ (vs_W0 g aK K ++ (vs_WO g o O2 ++ (vs_W3 g aM rM qM M4 ++ wr)))))) _ _ s := vs_Wd.perm hW (List.Perm.symm vs_p6)
  refine vs_istore (L' := [(0, .ref b), (1, .ref h0), (2, .ref (aM 0)), (3, .ref o), (4, .ref od), (5, .int (vs_I i)), (6, .int (vs_I r1)), (7, .int (vs_I r3))]) hC hl [1, 2, 3, 4, 5, 6, 7, 0] dL_law_1980 (by decide) rfl (fun ls hl => ?_)
  refine vs_aload_n hC hl 2 dL_law_1982 rfl rfl ?_
  have hW : vs_Wd g A _ (vs_W3 g aM rM qM M4 ++ (vs_W2 h0 (aS 0) (aT 0) (aK 0) n0 V ++ (vs_W1 g aS S ++ (vs_W1 g aT T ++ (vs_W0 g aK K ++ (vs_WO g o O2 ++ wr)))))) _ _ s := vs_Wd.perm hW vs_p6
  refine vs_callVI [] hC hW 0 rfl rfl vk_X3_thrown vm_L_133 (c_X3_thrown l g aM rM qM (vs_W2 h0 (aS 0) (aT 0) (aK 0) n0 V ++ (vs_W1 g aS S ++ (vs_W1 g aT T ++ (vs_W0 g aK K ++ (vs_WO g o O2 ++ wr))))) M4  _ hw) rfl hl.1 rfl ⟨rfl, rfl⟩ ⟨Nat.le_of_ble_eq_true rfl, Nat.le_of_ble_eq_true rfl⟩ ⟨show _ ≤ 603072 by omega, show _ ≤ 7207018 by omega⟩ (Nat.le_of_ble_eq_true rfl) dL_law_1983 (fun r5 _ H locs hw hW => ?_)
  have hW : vs_Wd g A _ (vs_W3 g aM rM qM M4 ++ (vs_W2 h0 (aS 0) (aT 0) (aK 0) n0 V ++ (vs_W1 g aS S ++ (vs_W1 g aT T ++ (vs_W0 g aK K ++ (vs_WO g o O2 ++ wr)))))) _ _ s := hW
  have hW : vs_Wd g A _ (vs_W2 h0 (aS 0) (aT 0) (aK 0) n0 V ++ (vs_W1 g aS S ++ (vs_W1 g aT T ++ (vs_W0 g aK K ++ (vs_WO g o O2 ++ (vs_W3 g aM rM qM M4 ++ wr)))))) _ _ s := vs_Wd.perm hW (List.Perm.symm vs_p6)
  refine vs_iload hC hl 6 dL_law_1986 rfl ?_
  obtain ⟨hx, hw⟩ := hw
  obtain ⟨hy, hw⟩ := hw
  obtain ⟨hwt, hwf⟩ := hw
  refine vs_icmp_eq hC 1993 hx hy dL_law_1988 (by decide) (fun hc => ?_) (fun hc => ?_)
  · have hw := hwt hc
    clear hwt hwf hc
    refine vs_iload hC hl 6 dL_law_1993 rfl ?_
    obtain ⟨hx, hw⟩ := hw
    obtain ⟨hwt, hwf⟩ := hw
    refine vs_if_ne hC 2010 hx dL_law_1995 (by decide) (fun hc => ?_) (fun hc => ?_)
    · have hw := hwt hc
      clear hwt hwf hc
      refine vs_goto hC 2295 dL_law_2010 (by decide) ?_
      exact kk V S T K O2 M4 _ _ _ _ _ (by omega) (by omega) hw hW (lv_sub hl [0, 1, 2, 3, 4, 5] rfl)
    · have hw := hwf hc
      clear hwt hwf hc
      refine vs_aload_n hC hl 3 dL_law_1998 rfl rfl ?_
      refine vs_iconst hC dL_law_1999 ?_
      refine vs_lald hC hW 37 rfl dL_law_2000 ?_
      refine vs_iload hC hl 7 dL_law_2001 rfl ?_
      obtain ⟨hx, hw⟩ := hw
      refine vs_i2l hC hx dL_law_2003 ?_
      obtain ⟨hx, hw⟩ := hw
      obtain ⟨hy, hw⟩ := hw
      refine vs_lcmp hC hx hy dL_law_2004 ?_
      obtain ⟨hx, hw⟩ := hw
      obtain ⟨hwt, hwf⟩ := hw
      refine vs_if_eq hC 2010 hx dL_law_2005 (by decide) (fun hc => ?_) (fun hc => ?_)
      · have hw := hwt hc
        clear hwt hwf hc
        refine vs_goto hC 2295 dL_law_2010 (by decide) ?_
        exact kk V S T K O2 M4 _ _ _ _ _ (by omega) (by omega) hw hW (lv_sub hl [0, 1, 2, 3, 4, 5] rfl)
      · have hw := hwf hc
        clear hwt hwf hc
        refine vs_iconst hC dL_law_2008 ?_
        exact hw.elim
  · have hw := hwf hc
    clear hwt hwf hc
    refine vs_iconst hC dL_law_1991 ?_
    exact hw.elim
set_option maxHeartbeats 4000000 in
set_option maxRecDepth 100000 in
theorem case_33 {p : Program} {l : Launch} {e : Env} {s : State} {m : MethodId} {args : Array Value} {below : List Frame} {meth : Method} {c : Code} {H : Heap} {locs : List Loc} {cells slots : Nat} {Q : State → Prop} {ls : Array Slot} {g : vs_G} {sd : Nat → Nat} {A : Nat → Prop} {h0 n0 o od b L : Nat} {aS aT aK aM rM qM : Nat → Nat} {wr : va_W} {V S T K O M : vs_St} {i p1 p2 p3 : Int} {xs : Nat → Int32} {post : vs_St → vs_St → vs_St → vs_St → vs_St → vs_St → Prop} (hst : l.stackTraces = false) (hC : CallFix p m c cL_law 9 s args vs_ws RL) (hX : vs_Xs g sd A s s.heap) (hScr : vs_Scr b L xs A s) (hi : 0 ≤ i ∧ i + 4 ≤ L ∧ L ≤ 2048) (hp1 : xs (i + 1).toNat = vs_I p1) (hp2 : xs (i + 2).toNat = vs_I p2) (hp3 : xs (i + 3).toNat = vs_I p3) (hcap : cells + 16 ≤ 603072 ∧ slots + 96 ≤ 7207018) (hW : vs_Wd g A s.heap (vs_W2 h0 (aS 0) (aT 0) (aK 0) n0 V ++ (vs_W1 g aS S ++ (vs_W1 g aT T ++ (vs_W0 g aK K ++ (vs_WO g o O ++ (vs_W3 g aM rM qM M ++ wr)))))) H locs s) (hl : lv_has ls 9 [(0, .ref b), (1, .ref h0), (2, .ref (aM 0)), (3, .ref o), (4, .ref od), (5, .int (vs_I i))])
    (hw : wcase_33 V S T K O M i p1 p2 p3 post) (kk : ∀ (V' S' T' K' O' M' : vs_St) (H : Heap) (locs : List Loc) (ls : Array Slot) (c2 s2 : Nat), c2 ≤ cells + 16 → s2 ≤ slots + 96 → post V' S' T' K' O' M' → vs_Wd g A s.heap (vs_W2 h0 (aS 0) (aT 0) (aK 0) n0 V' ++ (vs_W1 g aS S' ++ (vs_W1 g aT T' ++ (vs_W0 g aK K' ++ (vs_WO g o O' ++ (vs_W3 g aM rM qM M' ++ wr)))))) H locs s → lv_has ls 9 [(0, .ref b), (1, .ref h0), (2, .ref (aM 0)), (3, .ref o), (4, .ref od), (5, .int (vs_I i))] → W p l e room_1 s m args below meth c H locs c2 s2 Q (F0 m 2295 ls [])) :
    W p l e room_1 s m args below meth c H locs cells slots Q (F0 m 2013 ls []) := by
  unfold wcase_33 at hw
  refine vs_aload_n hC hl 1 dL_law_2013 rfl rfl ?_
  refine vs_callVI [] hC hW 0 rfl rfl vk_X2_rebuilt vm_L_240 (c_X2_rebuilt l g h0 n0 aS aT aK (vs_WO g o O ++ (vs_W3 g aM rM qM M ++ wr)) V S T K  _ hw) rfl hl.1 rfl ⟨rfl, rfl⟩ ⟨Nat.le_of_ble_eq_true rfl, Nat.le_of_ble_eq_true rfl⟩ ⟨show _ ≤ 603072 by omega, show _ ≤ 7207018 by omega⟩ (Nat.le_of_ble_eq_true rfl) dL_law_2014 (fun r1 _ H locs hw hW => ?_)
  have hW : vs_Wd g A _ (vs_W2 h0 (aS 0) (aT 0) (aK 0) n0 V ++ (vs_W1 g aS S ++ (vs_W1 g aT T ++ (vs_W0 g aK K ++ (vs_WO g o O ++ (vs_W3 g aM rM qM M ++ wr)))))) _ _ s := hW
  refine vs_aload_n hC hl 2 dL_law_2017 rfl rfl ?_
  have hW : vs_Wd g A _ (vs_W3 g aM rM qM M ++ (vs_W2 h0 (aS 0) (aT 0) (aK 0) n0 V ++ (vs_W1 g aS S ++ (vs_W1 g aT T ++ (vs_W0 g aK K ++ (vs_WO g o O ++ wr)))))) _ _ s := vs_Wd.perm hW vs_p6
  refine vs_callVI [] hC hW 0 rfl rfl vk_X3_rebuilt vm_L_243 (c_X3_rebuilt l g aM rM qM (vs_W2 h0 (aS 0) (aT 0) (aK 0) n0 V ++ (vs_W1 g aS S ++ (vs_W1 g aT T ++ (vs_W0 g aK K ++ (vs_WO g o O ++ wr))))) M  _ hw) rfl hl.1 rfl ⟨rfl, rfl⟩ ⟨Nat.le_of_ble_eq_true rfl, Nat.le_of_ble_eq_true rfl⟩ ⟨show _ ≤ 603072 by omega, show _ ≤ 7207018 by omega⟩ (Nat.le_of_ble_eq_true rfl) dL_law_2018 (fun r2 M3 H locs hw hW => ?_)
  have hW : vs_Wd g A _ (vs_W3 g aM rM qM M3 ++ (vs_W2 h0 (aS 0) (aT 0) (aK 0) n0 V ++ (vs_W1 g aS S ++ (vs_W1 g aT T ++ (vs_W0 g aK K ++ (vs_WO g o O ++ wr)))))) _ _ s := hW
  have hW : vs_Wd g A _ (vs_W2 h0 (aS 0) (aT 0) (aK 0) n0 V ++ (vs_W1 g aS S ++ (vs_W1 g aT T ++ (vs_W0 g aK K ++ (vs_WO g o O ++ (vs_W3 g aM rM qM M3 ++ wr)))))) _ _ s := vs_Wd.perm hW (List.Perm.symm vs_p6)
  obtain ⟨hx, hw⟩ := hw
  obtain ⟨hy, hw⟩ := hw
  obtain ⟨hwt, hwf⟩ := hw
  refine vs_icmp_eq hC 2295 hx hy dL_law_2021 (by decide) (fun hc => ?_) (fun hc => ?_)
  · have hw := hwt hc
    clear hwt hwf hc
    exact kk V S T K O M3 _ _ _ _ _ (by omega) (by omega) hw hW (lv_sub hl [0, 1, 2, 3, 4, 5] rfl)
  · have hw := hwf hc
    clear hwt hwf hc
    refine vs_iconst hC dL_law_2024 ?_
    exact hw.elim
set_option maxHeartbeats 4000000 in
set_option maxRecDepth 100000 in
theorem case_34 {p : Program} {l : Launch} {e : Env} {s : State} {m : MethodId} {args : Array Value} {below : List Frame} {meth : Method} {c : Code} {H : Heap} {locs : List Loc} {cells slots : Nat} {Q : State → Prop} {ls : Array Slot} {g : vs_G} {sd : Nat → Nat} {A : Nat → Prop} {h0 n0 o od b L : Nat} {aS aT aK aM rM qM : Nat → Nat} {wr : va_W} {V S T K O M : vs_St} {i p1 p2 p3 : Int} {xs : Nat → Int32} {post : vs_St → vs_St → vs_St → vs_St → vs_St → vs_St → Prop} (hst : l.stackTraces = false) (hC : CallFix p m c cL_law 9 s args vs_ws RL) (hX : vs_Xs g sd A s s.heap) (hScr : vs_Scr b L xs A s) (hi : 0 ≤ i ∧ i + 4 ≤ L ∧ L ≤ 2048) (hp1 : xs (i + 1).toNat = vs_I p1) (hp2 : xs (i + 2).toNat = vs_I p2) (hp3 : xs (i + 3).toNat = vs_I p3) (hcap : cells + 16 ≤ 603072 ∧ slots + 96 ≤ 7207018) (hW : vs_Wd g A s.heap (vs_W2 h0 (aS 0) (aT 0) (aK 0) n0 V ++ (vs_W1 g aS S ++ (vs_W1 g aT T ++ (vs_W0 g aK K ++ (vs_WO g o O ++ (vs_W3 g aM rM qM M ++ wr)))))) H locs s) (hl : lv_has ls 9 [(0, .ref b), (1, .ref h0), (2, .ref (aM 0)), (3, .ref o), (4, .ref od), (5, .int (vs_I i))])
    (hw : wcase_34 V S T K O M i p1 p2 p3 post) (kk : ∀ (V' S' T' K' O' M' : vs_St) (H : Heap) (locs : List Loc) (ls : Array Slot) (c2 s2 : Nat), c2 ≤ cells + 16 → s2 ≤ slots + 96 → post V' S' T' K' O' M' → vs_Wd g A s.heap (vs_W2 h0 (aS 0) (aT 0) (aK 0) n0 V' ++ (vs_W1 g aS S' ++ (vs_W1 g aT T' ++ (vs_W0 g aK K' ++ (vs_WO g o O' ++ (vs_W3 g aM rM qM M' ++ wr)))))) H locs s → lv_has ls 9 [(0, .ref b), (1, .ref h0), (2, .ref (aM 0)), (3, .ref o), (4, .ref od), (5, .int (vs_I i))] → W p l e room_1 s m args below meth c H locs c2 s2 Q (F0 m 2295 ls [])) :
    W p l e room_1 s m args below meth c H locs cells slots Q (F0 m 2026 ls []) := by
  unfold wcase_34 at hw
  refine vs_aload_n hC hl 1 dL_law_2026 rfl rfl ?_
  refine vs_callVI [] hC hW 0 rfl rfl vk_X2_openRebuilds vm_L_244 (c_X2_openRebuilds l g h0 n0 aS aT aK (vs_WO g o O ++ (vs_W3 g aM rM qM M ++ wr)) V S T K  _ hw) rfl hl.1 rfl ⟨rfl, rfl⟩ ⟨Nat.le_of_ble_eq_true rfl, Nat.le_of_ble_eq_true rfl⟩ ⟨show _ ≤ 603072 by omega, show _ ≤ 7207018 by omega⟩ (Nat.le_of_ble_eq_true rfl) dL_law_2027 (fun r1 T2 H locs hw hW => ?_)
  have hW : vs_Wd g A _ (vs_W2 h0 (aS 0) (aT 0) (aK 0) n0 V ++ (vs_W1 g aS S ++ (vs_W1 g aT T2 ++ (vs_W0 g aK K ++ (vs_WO g o O ++ (vs_W3 g aM rM qM M ++ wr)))))) _ _ s := hW
  refine vs_aload_n hC hl 2 dL_law_2030 rfl rfl ?_
  have hW : vs_Wd g A _ (vs_W3 g aM rM qM M ++ (vs_W2 h0 (aS 0) (aT 0) (aK 0) n0 V ++ (vs_W1 g aS S ++ (vs_W1 g aT T2 ++ (vs_W0 g aK K ++ (vs_WO g o O ++ wr)))))) _ _ s := vs_Wd.perm hW vs_p6
  refine vs_callVI [] hC hW 0 rfl rfl vk_X3_openRebuilds vm_L_247 (c_X3_openRebuilds l g aM rM qM (vs_W2 h0 (aS 0) (aT 0) (aK 0) n0 V ++ (vs_W1 g aS S ++ (vs_W1 g aT T2 ++ (vs_W0 g aK K ++ (vs_WO g o O ++ wr))))) M  _ hw) rfl hl.1 rfl ⟨rfl, rfl⟩ ⟨Nat.le_of_ble_eq_true rfl, Nat.le_of_ble_eq_true rfl⟩ ⟨show _ ≤ 603072 by omega, show _ ≤ 7207018 by omega⟩ (Nat.le_of_ble_eq_true rfl) dL_law_2031 (fun r3 M4 H locs hw hW => ?_)
  have hW : vs_Wd g A _ (vs_W3 g aM rM qM M4 ++ (vs_W2 h0 (aS 0) (aT 0) (aK 0) n0 V ++ (vs_W1 g aS S ++ (vs_W1 g aT T2 ++ (vs_W0 g aK K ++ (vs_WO g o O ++ wr)))))) _ _ s := hW
  have hW : vs_Wd g A _ (vs_W2 h0 (aS 0) (aT 0) (aK 0) n0 V ++ (vs_W1 g aS S ++ (vs_W1 g aT T2 ++ (vs_W0 g aK K ++ (vs_WO g o O ++ (vs_W3 g aM rM qM M4 ++ wr)))))) _ _ s := vs_Wd.perm hW (List.Perm.symm vs_p6)
  obtain ⟨hx, hw⟩ := hw
  obtain ⟨hy, hw⟩ := hw
  obtain ⟨hwt, hwf⟩ := hw
  refine vs_icmp_eq hC 2295 hx hy dL_law_2034 (by decide) (fun hc => ?_) (fun hc => ?_)
  · have hw := hwt hc
    clear hwt hwf hc
    exact kk V S T2 K O M4 _ _ _ _ _ (by omega) (by omega) hw hW (lv_sub hl [0, 1, 2, 3, 4, 5] rfl)
  · have hw := hwf hc
    clear hwt hwf hc
    refine vs_iconst hC dL_law_2037 ?_
    exact hw.elim
set_option maxHeartbeats 4000000 in
set_option maxRecDepth 100000 in
theorem case_37 {p : Program} {l : Launch} {e : Env} {s : State} {m : MethodId} {args : Array Value} {below : List Frame} {meth : Method} {c : Code} {H : Heap} {locs : List Loc} {cells slots : Nat} {Q : State → Prop} {ls : Array Slot} {g : vs_G} {sd : Nat → Nat} {A : Nat → Prop} {h0 n0 o od b L : Nat} {aS aT aK aM rM qM : Nat → Nat} {wr : va_W} {V S T K O M : vs_St} {i p1 p2 p3 : Int} {xs : Nat → Int32} {post : vs_St → vs_St → vs_St → vs_St → vs_St → vs_St → Prop} (hst : l.stackTraces = false) (hC : CallFix p m c cL_law 9 s args vs_ws RL) (hX : vs_Xs g sd A s s.heap) (hScr : vs_Scr b L xs A s) (hi : 0 ≤ i ∧ i + 4 ≤ L ∧ L ≤ 2048) (hp1 : xs (i + 1).toNat = vs_I p1) (hp2 : xs (i + 2).toNat = vs_I p2) (hp3 : xs (i + 3).toNat = vs_I p3) (hcap : cells + 16 ≤ 603072 ∧ slots + 96 ≤ 7207018) (hW : vs_Wd g A s.heap (vs_W2 h0 (aS 0) (aT 0) (aK 0) n0 V ++ (vs_W1 g aS S ++ (vs_W1 g aT T ++ (vs_W0 g aK K ++ (vs_WO g o O ++ (vs_W3 g aM rM qM M ++ wr)))))) H locs s) (hl : lv_has ls 9 [(0, .ref b), (1, .ref h0), (2, .ref (aM 0)), (3, .ref o), (4, .ref od), (5, .int (vs_I i))])
    (hw : wcase_37 V S T K O M i p1 p2 p3 post) (kk : ∀ (V' S' T' K' O' M' : vs_St) (H : Heap) (locs : List Loc) (ls : Array Slot) (c2 s2 : Nat), c2 ≤ cells + 16 → s2 ≤ slots + 96 → post V' S' T' K' O' M' → vs_Wd g A s.heap (vs_W2 h0 (aS 0) (aT 0) (aK 0) n0 V' ++ (vs_W1 g aS S' ++ (vs_W1 g aT T' ++ (vs_W0 g aK K' ++ (vs_WO g o O' ++ (vs_W3 g aM rM qM M' ++ wr)))))) H locs s → lv_has ls 9 [(0, .ref b), (1, .ref h0), (2, .ref (aM 0)), (3, .ref o), (4, .ref od), (5, .int (vs_I i))] → W p l e room_1 s m args below meth c H locs c2 s2 Q (F0 m 2295 ls [])) :
    W p l e room_1 s m args below meth c H locs cells slots Q (F0 m 2170 ls []) := by
  unfold wcase_37 at hw
  refine vs_aload_n hC hl 1 dL_law_2170 rfl rfl ?_
  refine vs_callVI [] hC hW 0 rfl rfl vk_X2_isConsistent vm_L_255 (c_X2_isConsistent l g h0 n0 aS aT aK (vs_WO g o O ++ (vs_W3 g aM rM qM M ++ wr)) V S T K  _ hw) rfl hl.1 rfl ⟨rfl, rfl⟩ ⟨Nat.le_of_ble_eq_true rfl, Nat.le_of_ble_eq_true rfl⟩ ⟨show _ ≤ 603072 by omega, show _ ≤ 7207018 by omega⟩ (Nat.le_of_ble_eq_true rfl) dL_law_2171 (fun r1 _ H locs hw hW => ?_)
  have hW : vs_Wd g A _ (vs_W2 h0 (aS 0) (aT 0) (aK 0) n0 V ++ (vs_W1 g aS S ++ (vs_W1 g aT T ++ (vs_W0 g aK K ++ (vs_WO g o O ++ (vs_W3 g aM rM qM M ++ wr)))))) _ _ s := hW
  refine vs_aload_n hC hl 2 dL_law_2174 rfl rfl ?_
  have hW : vs_Wd g A _ (vs_W3 g aM rM qM M ++ (vs_W2 h0 (aS 0) (aT 0) (aK 0) n0 V ++ (vs_W1 g aS S ++ (vs_W1 g aT T ++ (vs_W0 g aK K ++ (vs_WO g o O ++ wr)))))) _ _ s := vs_Wd.perm hW vs_p6
  refine vs_callVI [] hC hW 0 rfl rfl vk_X3_isConsistent vm_L_259 (c_X3_isConsistent l g aM rM qM (vs_W2 h0 (aS 0) (aT 0) (aK 0) n0 V ++ (vs_W1 g aS S ++ (vs_W1 g aT T ++ (vs_W0 g aK K ++ (vs_WO g o O ++ wr))))) M  _ hw) rfl hl.1 rfl ⟨rfl, rfl⟩ ⟨Nat.le_of_ble_eq_true rfl, Nat.le_of_ble_eq_true rfl⟩ ⟨show _ ≤ 603072 by omega, show _ ≤ 7207018 by omega⟩ (Nat.le_of_ble_eq_true rfl) dL_law_2175 (fun r2 M3 H locs hw hW => ?_)
  have hW : vs_Wd g A _ (vs_W3 g aM rM qM M3 ++ (vs_W2 h0 (aS 0) (aT 0) (aK 0) n0 V ++ (vs_W1 g aS S ++ (vs_W1 g aT T ++ (vs_W0 g aK K ++ (vs_WO g o O ++ wr)))))) _ _ s := hW
  have hW : vs_Wd g A _ (vs_W2 h0 (aS 0) (aT 0) (aK 0) n0 V ++ (vs_W1 g aS S ++ (vs_W1 g aT T ++ (vs_W0 g aK K ++ (vs_WO g o O ++ (vs_W3 g aM rM qM M3 ++ wr)))))) _ _ s := vs_Wd.perm hW (List.Perm.symm vs_p6)
  obtain ⟨hx, hw⟩ := hw
  obtain ⟨hy, hw⟩ := hw
  obtain ⟨hwt, hwf⟩ := hw
  refine vs_icmp_eq hC 2295 hx hy dL_law_2178 (by decide) (fun hc => ?_) (fun hc => ?_)
  · have hw := hwt hc
    clear hwt hwf hc
    exact kk V S T K O M3 _ _ _ _ _ (by omega) (by omega) hw hW (lv_sub hl [0, 1, 2, 3, 4, 5] rfl)
  · have hw := hwf hc
    clear hwt hwf hc
    refine vs_iconst hC dL_law_2181 ?_
    exact hw.elim
