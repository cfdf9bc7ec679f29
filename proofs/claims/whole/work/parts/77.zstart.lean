/-! the law, from its entry -/
theorem vkI_X2_init : vs_lkI yX2_init cX2_init 1 0 := ⟨vk_X2_init.1, vk_X2_init.2.1, vk_X2_init.2.2, rfl, by decide +kernel, by decide +kernel, by decide +kernel⟩
theorem vkI_X3_init : vs_lkI yX3_init cX3_init 1 0 := ⟨vk_X3_init.1, vk_X3_init.2.1, vk_X3_init.2.2, rfl, by decide +kernel, by decide +kernel, by decide +kernel⟩
section VST
variable {p : Program} {l : Launch} {e : Env} {R : Room} {s : State} {m : MethodId} {args : Array Value} {below : List Frame} {meth : Method} {c : Code} {H : Heap} {locs : List Loc} {cells slots : Nat} {Q : State → Prop}
variable {cc : ByteArray} {pc nL : Nat} {ls : Array Slot} {rest : List Value} {own : String} {g : vs_G} {jd sd : Nat → Nat} {A : Nat → Prop} {H0 : Heap} {Wo : va_W} {a : Nat}
theorem vs_newX2 (hC : CallFix p m c cc nL s args vs_ws own) (hW : vs_Wd g A H0 Wo H locs s) {index : Nat} (hl : Cond.classLink own index RX2 ∈ vs_ws) (h1 : cells + 1 ≤ R.cells) (h2 : slots + 7 ≤ R.slots) (hdg : decode cc pc = .ok (.new index, 3))
    (kk : ∀ (q : Nat) (H1 : Heap), vs_Wd g A H0 ([(q, .inr (6, [.null, .null, .null, .null, .int 0, .int 0, .int 0]))] ++ Wo) H1 locs s → W p l e R s m args below meth c H1 locs (cells + 1) (slots + 7) Q (F0 m (pc + 3) ls (.ref q :: rest))) : W p l e R s m args below meth c H locs cells slots Q (F0 m pc ls rest) :=
  va_new (ci := 6) (N := 7) (T := TX2) (fs := [.null, .null, .null, .null, .int 0, .int 0, .int 0]) hC.1 hC.2.1 hC.2.2.2.2 vs_inX2 tyX2 tyX2_ok hC.2.2.2.1 (hC.2.2.2.2 _ hl) (hC.2.2.2.2 _ vi_X2.1) (hC.2.2.2.2 _ vi_X2.2) hW.1.1 hW.2.1 hW.2.2.1 hW.2.2.2.1 hW.2.2.2.2 rfl (by intro j hj; match j, hj with | 0, _ => rfl | 1, _ => rfl | 2, _ => rfl | 3, _ => rfl | 4, _ => rfl | 5, _ => rfl | 6, _ => rfl) h1 h2 hdg
    (fun q H1 k2 k3 k4 => kk q H1 (vs_Wd.perm2 (w1 := Wo ++ [(q, .inr (6, [.null, .null, .null, .null, .int 0, .int 0, .int 0]))]) ⟨hW.1, k2, k3, k4, hW.2.2.2.2⟩ List.perm_append_comm))
def vs_f33 : List Value := [.int 0, .null, .null, .null, .null, .null, .null, .int 0, .null, .null, .null, .null, .null, .null, .null, .int 0, .null, .null, .null, .null, .null, .null, .null, .null, .null, .null, .null, .int 0, .int 0, .int 0, .int 0, .int 0, .null]
theorem vs_newX3 (hC : CallFix p m c cc nL s args vs_ws own) (hW : vs_Wd g A H0 Wo H locs s) {index : Nat} (hl : Cond.classLink own index RX3 ∈ vs_ws) (h1 : cells + 1 ≤ R.cells) (h2 : slots + 33 ≤ R.slots) (hdg : decode cc pc = .ok (.new index, 3))
    (kk : ∀ (q : Nat) (H1 : Heap), vs_Wd g A H0 ([(q, .inr (7, vs_f33))] ++ Wo) H1 locs s → W p l e R s m args below meth c H1 locs (cells + 1) (slots + 33) Q (F0 m (pc + 3) ls (.ref q :: rest))) : W p l e R s m args below meth c H locs cells slots Q (F0 m pc ls rest) :=
  va_new (ci := 7) (N := 33) (T := TX3) (fs := vs_f33) hC.1 hC.2.1 hC.2.2.2.2 vs_inX3 tyX3 tyX3_ok hC.2.2.2.1 (hC.2.2.2.2 _ hl) (hC.2.2.2.2 _ vi_X3.1) (hC.2.2.2.2 _ vi_X3.2) hW.1.1 hW.2.1 hW.2.2.1 hW.2.2.2.1 hW.2.2.2.2 rfl (by intro j hj; match j, hj with | 0, _ => rfl | 1, _ => rfl | 2, _ => rfl | 3, _ => rfl | 4, _ => rfl | 5, _ => rfl | 6, _ => rfl | 7, _ => rfl | 8, _ => rfl | 9, _ => rfl | 10, _ => rfl | 11, _ => rfl | 12, _ => rfl | 13, _ => rfl | 14, _ => rfl | 15, _ => rfl | 16, _ => rfl | 17, _ => rfl | 18, _ => rfl | 19, _ => rfl | 20, _ => rfl | 21, _ => rfl | 22, _ => rfl | 23, _ => rfl | 24, _ => rfl | 25, _ => rfl | 26, _ => rfl | 27, _ => rfl | 28, _ => rfl | 29, _ => rfl | 30, _ => rfl | 31, _ => rfl | 32, _ => rfl | n + 33, hj => exact absurd hj (by omega)) h1 h2 hdg
    (fun q H1 k2 k3 k4 => kk q H1 (vs_Wd.perm2 (w1 := Wo ++ [(q, .inr (7, vs_f33))]) ⟨hW.1, k2, k3, k4, hW.2.2.2.2⟩ List.perm_append_comm))
end VST
theorem vs_enL0 : (fun _ => 0) = vs_enL (vs_Z 0) := funext (fun _ => rfl)
set_option maxHeartbeats 8000000 in
set_option maxRecDepth 100000 in
/-- THE LAW, from its entry -/
theorem whole_start {p : Program} {e : Env} {s : State} {m : MethodId} {below : List Frame} {meth : Method} {c : Code} (l : Launch) (hflags : l.flags = flags0) {b L : Nat} {xs : Nat → Int32} (hL : L ≤ 2048) (C0 : lw_At p s m meth c b L xs) : W p l e room_1 s m #[Value.ref b] below meth c s.heap [] 0 0 (lw_Z below #[Value.ref b] s) (entryFrame m ([Value.ref b] : List Value).toArray 9) := by
  obtain ⟨hx, hb, hr, hml, hown, hts, hXs, hbl, hlocks, hgv⟩ := id C0
  have hst : l.stackTraces = false := by
    unfold Launch.stackTraces
    rw [hflags]
    decide
  have hC : CallFix p m c cL_law 9 s #[Value.ref b] vs_ws RL := ⟨hx, hb, hml, hown, fun w hw => hts w (vs_ws_in hw)⟩
  obtain ⟨g, hK⟩ := vs_Kstart hts
  obtain ⟨sd, hX⟩ := vs_Xstart (A := fun q => s.heap.size ≤ q) g hts hgv (fun a h => Nat.not_le.mpr h)
  have hJ := hX.2.2.2.2.2.2
  have hW : vs_Wd g (fun q => s.heap.size ≤ q) s.heap [] s.heap [] s := ⟨hK, fun k q h => by simp at h, ⟨fun i j p q h => by simp at h, fun k q h => by simp at h⟩, va_S.rf, fun _ h => h⟩
  have hl := lv_entry ([.ref b]) (n := 9) (Nat.le_of_ble_eq_true rfl)
  rw [lg_entry_eq]
  generalize (lg_sl ([.ref b]) ++ List.replicate (9 - (lg_sl ([.ref b])).length) Slot.unset).toArray = ls at hl ⊢
  have hl : lv_has ls 9 [(0, .ref b)] := hl
  refine vs_newX2 hC hW vl_L_8 (Nat.le_of_ble_eq_true rfl) (Nat.le_of_ble_eq_true rfl) dL_law_0 (fun h0 H hW => ?_)
  refine vs_dup hC dL_law_3 rfl ?_
  refine vs_jcallIV [] hC hW hJ vkI_X2_init vm_L_123 (c_X2_init l g (vs_jd sd) h0 []) rfl hl.1 rfl ⟨rfl, rfl⟩ ⟨(Nat.le_of_ble_eq_true rfl), (Nat.le_of_ble_eq_true rfl)⟩ ⟨(Nat.le_of_ble_eq_true rfl), (Nat.le_of_ble_eq_true rfl)⟩ (Nat.le_of_ble_eq_true rfl) dL_law_4 (fun u H locs _ hW => ?_)
  obtain ⟨aS, aT, aK, n0, q⟩ := u
  have hW : vs_Wd g (fun q => s.heap.size ≤ q) s.heap (vs_W2 h0 (aS 0) (aT 0) (aK 0) n0 vs_V0 ++ (vs_W1 g aS vs_S0 ++ (vs_W1 g aT vs_S0 ++ (vs_W0 g aK vs_Z ++ (vs_tT g n0 q 0 (0, 16, fun _ => 0) ++ []))))) H locs s := hW
  refine vs_astore_n (L' := [(0, .ref b), (1, .ref h0)]) hC hl [1, 0] dL_law_7 rfl (by decide) rfl (fun ls hl => ?_)
  refine vs_newX3 hC hW vl_L_124 (Nat.le_of_ble_eq_true rfl) (Nat.le_of_ble_eq_true rfl) dL_law_8 (fun m0 H hW => ?_)
  refine vs_dup hC dL_law_11 rfl ?_
  refine vs_jcallIV [] hC hW hJ vkI_X3_init vm_L_126 (c_X3_init l g (vs_jd sd) m0 (vs_W2 h0 (aS 0) (aT 0) (aK 0) n0 vs_V0 ++ (vs_W1 g aS vs_S0 ++ (vs_W1 g aT vs_S0 ++ (vs_W0 g aK vs_Z ++ (vs_tT g n0 q 0 (0, 16, fun _ => 0) ++ [])))))) rfl hl.1 rfl ⟨rfl, rfl⟩ ⟨(Nat.le_of_ble_eq_true rfl), (Nat.le_of_ble_eq_true rfl)⟩ ⟨(Nat.le_of_ble_eq_true rfl), (Nat.le_of_ble_eq_true rfl)⟩ (Nat.le_of_ble_eq_true rfl) dL_law_12 (fun u H locs hp hW => ?_)
  obtain ⟨aM, rM, qM⟩ := u
  obtain ⟨hp0, hp32⟩ := hp
  have hp0 : aM 0 = m0 := hp0
  have hp32 : aM 32 = vs_jd sd 2 := hp32
  have hW : vs_Wd g (fun q => s.heap.size ≤ q) s.heap (vs_W3 g aM rM qM vs_M0 ++ (vs_W2 h0 (aS 0) (aT 0) (aK 0) n0 vs_V0 ++ (vs_W1 g aS vs_S0 ++ (vs_W1 g aT vs_S0 ++ (vs_W0 g aK vs_Z ++ (vs_tT g n0 q 0 (0, 16, fun _ => 0) ++ [])))))) H locs s := hW
  have hW := vs_Wd.perm2 hW (vs_mv4 (X := vs_W3 g aM rM qM vs_M0))
  refine vs_astore_n (L' := [(0, .ref b), (1, .ref h0), (2, .ref m0)]) hC hl [1, 2, 0] dL_law_15 rfl (by decide) rfl (fun ls hl => ?_)
  refine vs_iconst hC dL_law_16 ?_
  refine vs_newaL (N := 1) (x := []) hC hW rfl (by decide) (Nat.le_of_ble_eq_true rfl) (Nat.le_of_ble_eq_true rfl) dL_law_17 (fun o H hW => ?_)
  rw [vs_enL0] at hW
  have hW : vs_Wd g (fun q => s.heap.size ≤ q) s.heap (vs_WO g o vs_Z ++ (vs_W2 h0 (aS 0) (aT 0) (aK 0) n0 vs_V0 ++ (vs_W1 g aS vs_S0 ++ (vs_W1 g aT vs_S0 ++ (vs_W0 g aK vs_Z ++ (vs_W3 g aM rM qM vs_M0 ++ (vs_tT g n0 q 0 (0, 16, fun _ => 0) ++ []))))))) H locs s := hW
  have hW := vs_Wd.perm2 hW (vs_mv4 (X := vs_WO g o vs_Z))
  refine vs_astore_n (L' := [(0, .ref b), (1, .ref h0), (2, .ref m0), (3, .ref o)]) hC hl [1, 2, 3, 0] dL_law_19 rfl (by decide) rfl (fun ls hl => ?_)
  refine vs_iconst hC dL_law_20 ?_
  refine vs_newaD (N := 1) (x := []) hC hW rfl (by decide) (Nat.le_of_ble_eq_true rfl) (Nat.le_of_ble_eq_true rfl) dL_law_21 (fun od H hW => ?_)
  have hW : vs_Wd g (fun q => s.heap.size ≤ q) s.heap (vs_WD g od (fun _ => 0) ++ (vs_W2 h0 (aS 0) (aT 0) (aK 0) n0 vs_V0 ++ (vs_W1 g aS vs_S0 ++ (vs_W1 g aT vs_S0 ++ (vs_W0 g aK vs_Z ++ (vs_WO g o vs_Z ++ (vs_W3 g aM rM qM vs_M0 ++ (vs_tT g n0 q 0 (0, 16, fun _ => 0) ++ [])))))))) H locs s := hW
  have hW := vs_Wd.perm2 hW (vs_mv6 (X := vs_WD g od (fun _ => 0)))
  refine vs_astore (L' := [(0, .ref b), (1, .ref h0), (2, .ref m0), (3, .ref o), (4, .ref od)]) hC hl [1, 2, 3, 4, 0] dL_law_23 (by decide) rfl (fun ls hl => ?_)
  refine vs_iconst hC dL_law_25 ?_
  refine vs_istore (L' := [(0, .ref b), (1, .ref h0), (2, .ref m0), (3, .ref o), (4, .ref od), (5, .int (vs_I 0))]) hC hl [1, 2, 3, 4, 5, 0] dL_law_26 (by decide) rfl (fun ls hl => ?_)
  rw [← hp0] at hl
  exact law_loop vZ (fun V S T K M B LN h => h.2.1.2.1) okc_0 okc_1 okc_2 okc_3 okc_4 okc_5 okc_6 okc_7 okc_8 okc_9 okc_10 okc_11 okc_12 okc_13 okc_14 okc_15 okc_16 okc_17 okc_18 okc_19 okc_20 okc_21 okc_22 okc_23 okc_24 okc_25 okc_26 okc_27 okc_28 okc_29 okc_30 okc_31 okc_32 okc_33 okc_34 okc_35 okc_36 okc_37 okc_38 okc_39 hst hL C0 hX trivial
    ((vs_V0, vs_S0, vs_S0, vs_Z, vs_Z, vs_M0, (fun _ => 0), (0, 16, fun _ => 0), none, q, 0, aM, 0) : vs_LV)
    ⟨vZ_start vs_S0, hp32, hp0, Nat.zero_le L, Nat.le_of_ble_eq_true rfl, Nat.le_of_ble_eq_true rfl⟩ hW hl
