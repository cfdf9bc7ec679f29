/-! the constructors of the class and of the reference -/
section VSI
variable {p : Program} {l : Launch} {e : Env} {R : Room} {s : State} {m : MethodId} {args : Array Value} {below : List Frame} {meth : Method} {c : Code} {H : Heap} {locs : List Loc} {cells slots : Nat} {Q : State → Prop}
variable {cc : ByteArray} {pc nL : Nat} {ls : Array Slot} {rest : List Value} {own : String} {g : vs_G} {jd sd : Nat → Nat} {A : Nat → Prop} {H0 : Heap} {Wo : va_W} {a : Nat}
theorem vs_callIN {U : Type} {mk : U → va_W} {post : U → Prop} {y : MethodName} {bytes : ByteArray} {maxL n mc ms index : Nat} {rm : Room} (As : List Value) (hC : CallFix p m c cc nL s args vs_ws own) (hW : vs_Wd g A H0 Wo H locs s) {host : String} (hk : Cond.instanceMethod y ∈ vs_ws ∧ Cond.initialized y.cls ∈ vs_ws ∧ Cond.code y bytes maxL none ∈ vs_ws) (hd : y.cls ≠ "java/lang/invoke/MethodHandle" ∧ y.cls ≠ "java/lang/invoke/VarHandle" ∧ (parseMethodDescriptor y.desc).map (fun d => d.parameters.length) = some n) (hnm : y.name = "<init>") (hl : (own, index, y, host) ∈ vs_nM) (hM : vs_MV l y (Cond.code y bytes maxL none :: vs_ws) rm g (.ref a :: As) Wo mk post mc ms) (hn : As.length = n) (hlsz : ls.size = nL) {st0 : List Value} (hst : st0 = As.reverse ++ .ref a :: rest) (hrm : rm.cells = mc ∧ rm.slots = ms) (hR : rm.frames + 1 ≤ R.frames ∧ 8 + (maxL + 11) + rm.locals ≤ R.locals) (hcap : cells + mc ≤ R.cells ∧ slots + ms ≤ R.slots) (hstk : (rest.map fun v => v.category).sum ≤ 8) (hdg : decode cc pc = .ok (.invokespecial index, 3))
    (kk : ∀ (u : U) (H1 : Heap) (locs1 : List Loc), post u → vs_Wd g A H0 (mk u) H1 locs1 s → W p l e R s m args below meth c H1 locs1 (cells + mc) (slots + ms) Q (F0 m (pc + 3) ls rest)) : W p l e R s m args below meth c H locs cells slots Q (F0 m pc ls st0) := by
  subst hst
  obtain ⟨h1, h3, h4⟩ := hk
  exact va_callv (va_runIN (As := As) (rest := rest) hC (hM H.size) ⟨va_cnB n hC.2.2.2.2 (vs_good (List.forall_mem_cons.mpr ⟨h4, fun _ h => h⟩)) rfl hrm.1 hrm.2 (hW.1.2.2 _ hl) (hC.2.2.2.2 _ h3) hd hR, hnm, hC.2.2.2.2 _ h1⟩ ⟨vs_blind, hW.pre⟩ rfl hn hlsz rfl (lv_room hstk) hdg hcap) hW.2.2.2.1 (fun q _ h => hW.in q h) hW.in (fun u t H1 locs1 ht _ hp hb _ _ hS => kk u H1 locs1 hp (hW.back ht hb hS))
theorem vs_newX0 (hC : CallFix p m c cc nL s args vs_ws own) (hW : vs_Wd g A H0 Wo H locs s) {index : Nat} (hl : Cond.classLink own index RX0 ∈ vs_ws) (h1 : cells + 1 ≤ R.cells) (h2 : slots + 14 ≤ R.slots) (hdg : decode cc pc = .ok (.new index, 3))
    (kk : ∀ (q : Nat) (H1 : Heap), vs_Wd g A H0 ([(q, .inr (4, [.int 0, .null, .null, .null, .null, .null, .null, .null, .int 0, .int 0, .null, .null, .null, .null]))] ++ Wo) H1 locs s → W p l e R s m args below meth c H1 locs (cells + 1) (slots + 14) Q (F0 m (pc + 3) ls (.ref q :: rest))) : W p l e R s m args below meth c H locs cells slots Q (F0 m pc ls rest) :=
  va_new (ci := 4) (N := 14) (T := TX0) (fs := [.int 0, .null, .null, .null, .null, .null, .null, .null, .int 0, .int 0, .null, .null, .null, .null]) hC.1 hC.2.1 hC.2.2.2.2 vs_inX0 tyX0 tyX0_ok hC.2.2.2.1 (hC.2.2.2.2 _ hl) (hC.2.2.2.2 _ vi_X0.1) (hC.2.2.2.2 _ vi_X0.2) hW.1.1 hW.2.1 hW.2.2.1 hW.2.2.2.1 hW.2.2.2.2 rfl (by intro j hj; match j, hj with | 0, _ => rfl | 1, _ => rfl | 2, _ => rfl | 3, _ => rfl | 4, _ => rfl | 5, _ => rfl | 6, _ => rfl | 7, _ => rfl | 8, _ => rfl | 9, _ => rfl | 10, _ => rfl | 11, _ => rfl | 12, _ => rfl | 13, _ => rfl) h1 h2 hdg
    (fun q H1 k2 k3 k4 => kk q H1 (vs_Wd.perm2 (w1 := Wo ++ [(q, .inr (4, [.int 0, .null, .null, .null, .null, .null, .null, .null, .int 0, .int 0, .null, .null, .null, .null]))]) ⟨hW.1, k2, k3, k4, hW.2.2.2.2⟩ List.perm_append_comm))
theorem vs_newX1 (hC : CallFix p m c cc nL s args vs_ws own) (hW : vs_Wd g A H0 Wo H locs s) {index : Nat} (hl : Cond.classLink own index RX1 ∈ vs_ws) (h1 : cells + 1 ≤ R.cells) (h2 : slots + 13 ≤ R.slots) (hdg : decode cc pc = .ok (.new index, 3))
    (kk : ∀ (q : Nat) (H1 : Heap), vs_Wd g A H0 ([(q, .inr (5, [.int 0, .null, .null, .null, .null, .null, .null, .null, .null, .null, .int 0, .null, .null]))] ++ Wo) H1 locs s → W p l e R s m args below meth c H1 locs (cells + 1) (slots + 13) Q (F0 m (pc + 3) ls (.ref q :: rest))) : W p l e R s m args below meth c H locs cells slots Q (F0 m pc ls rest) :=
  va_new (ci := 5) (N := 13) (T := TX1) (fs := [.int 0, .null, .null, .null, .null, .null, .null, .null, .null, .null, .int 0, .null, .null]) hC.1 hC.2.1 hC.2.2.2.2 vs_inX1 tyX1 tyX1_ok hC.2.2.2.1 (hC.2.2.2.2 _ hl) (hC.2.2.2.2 _ vi_X1.1) (hC.2.2.2.2 _ vi_X1.2) hW.1.1 hW.2.1 hW.2.2.1 hW.2.2.2.1 hW.2.2.2.2 rfl (by intro j hj; match j, hj with | 0, _ => rfl | 1, _ => rfl | 2, _ => rfl | 3, _ => rfl | 4, _ => rfl | 5, _ => rfl | 6, _ => rfl | 7, _ => rfl | 8, _ => rfl | 9, _ => rfl | 10, _ => rfl | 11, _ => rfl | 12, _ => rfl) h1 h2 hdg
    (fun q H1 k2 k3 k4 => kk q H1 (vs_Wd.perm2 (w1 := Wo ++ [(q, .inr (5, [.int 0, .null, .null, .null, .null, .null, .null, .null, .null, .null, .int 0, .null, .null]))]) ⟨hW.1, k2, k3, k4, hW.2.2.2.2⟩ List.perm_append_comm))
end VSI
def vs_V0 : vs_St := vs_st vs_Z 4 0 10
abbrev vs_U2 : Type := (Nat → Nat) × (Nat → Nat) × (Nat → Nat) × Nat × Nat
set_option maxHeartbeats 4000000 in
set_option maxRecDepth 100000 in
theorem c_X2_init (l : Launch) (g : vs_G) (jd : Nat → Nat) (h : Nat) (wr : va_W) : vs_JV l yX2_init (Cond.code yX2_init cX2_init 1 none :: vs_ws) { frames := 3, cells := 38, slots := 9164, locals := 81 } g jd [.ref h] ([(h, .inr (6, [.null, .null, .null, .null, .int 0, .int 0, .int 0]))] ++ wr) (fun (u : vs_U2) => vs_W2 h (u.1 0) (u.2.1 0) (u.2.2.1 0) u.2.2.2.1 vs_V0 ++ (vs_W1 g u.1 vs_S0 ++ (vs_W1 g u.2.1 vs_S0 ++ (vs_W0 g u.2.2.1 vs_Z ++ (vs_tT g u.2.2.2.1 u.2.2.2.2 0 (0, 16, fun _ => 0) ++ wr))))) (fun _ => True) 38 9164 := by
  refine vs_ofJ (y := yX2_init) (cc := cX2_init) (maxL := 1) (ret := none) (as := [.ref h]) (Wo := [(h, .inr (6, [.null, .null, .null, .null, .int 0, .int 0, .int 0]))] ++ wr) (mc := 38) (ms := 9164) (Qc := fun A => vs_QV g A (fun (u : vs_U2) => vs_W2 h (u.1 0) (u.2.1 0) (u.2.2.1 0) u.2.2.2.1 vs_V0 ++ (vs_W1 g u.1 vs_S0 ++ (vs_W1 g u.2.1 vs_S0 ++ (vs_W0 g u.2.2.1 vs_Z ++ (vs_tT g u.2.2.2.1 u.2.2.2.2 0 (0, 16, fun _ => 0) ++ wr))))) (fun _ => True)) (by decide +kernel) (Nat.le_of_ble_eq_true rfl) (fun p e s m below meth c A ls hC hr hlk hin hW hJ hl => ?_)
  have hC : CallFix p m c cX2_init 1 s _ vs_ws RX2 := hC
  have hl : lv_has ls 1 [(0, .ref h)] := hl
  refine vs_aload_n hC hl 0 dX2_init_0 rfl rfl ?_
  refine vs_objInit hC hl.1 vm_X2_3 dX2_init_1 (Nat.le_of_ble_eq_true rfl) (Nat.le_of_ble_eq_true rfl) ?_
  refine vs_aload_n hC hl 0 dX2_init_4 rfl rfl ?_
  refine vs_newX1 hC hW vl_X2_9 (Nat.le_of_ble_eq_true rfl) (Nat.le_of_ble_eq_true rfl) dX2_init_5 (fun q0 H hW => ?_)
  refine vs_dup hC dX2_init_8 rfl ?_
  refine vs_callIN [] hC hW vk_X1_init ⟨by decide +kernel, by decide +kernel, by decide +kernel⟩ rfl vo_X2_11 (c_X1_init l g q0 ([(h, .inr (6, [.null, .null, .null, .null, .int 0, .int 0, .int 0]))] ++ wr)) rfl hl.1 rfl ⟨rfl, rfl⟩ ⟨(Nat.le_of_ble_eq_true rfl), (Nat.le_of_ble_eq_true rfl)⟩ ⟨(Nat.le_of_ble_eq_true rfl), (Nat.le_of_ble_eq_true rfl)⟩ (Nat.le_of_ble_eq_true rfl) dX2_init_9 (fun aS H locs hw hW => ?_)
  rw [← hw]
  refine vs_putF (Wo' := vs_W1 g aS vs_S0 ++ ([(h, .inr (6, [.ref (aS 0), .null, .null, .null, .int 0, .int 0, .int 0]))] ++ wr)) hC hW 12 rfl rfl vs_inX2 tyX2_ok nmX2 0 (by decide) vf_X2_12 rfl (by rw [hin]; rfl) rfl rfl rfl (Nat.le_of_ble_eq_true rfl) rfl dX2_init_12 (fun H locs hW => ?_)
  refine vs_aload_n hC hl 0 dX2_init_15 rfl rfl ?_
  refine vs_newX1 hC hW vl_X2_9 (Nat.le_of_ble_eq_true rfl) (Nat.le_of_ble_eq_true rfl) dX2_init_16 (fun q1 H hW => ?_)
  refine vs_dup hC dX2_init_19 rfl ?_
  refine vs_callIN [] hC hW vk_X1_init ⟨by decide +kernel, by decide +kernel, by decide +kernel⟩ rfl vo_X2_11 (c_X1_init l g q1 (vs_W1 g aS vs_S0 ++ ([(h, .inr (6, [.ref (aS 0), .null, .null, .null, .int 0, .int 0, .int 0]))] ++ wr))) rfl hl.1 rfl ⟨rfl, rfl⟩ ⟨(Nat.le_of_ble_eq_true rfl), (Nat.le_of_ble_eq_true rfl)⟩ ⟨(Nat.le_of_ble_eq_true rfl), (Nat.le_of_ble_eq_true rfl)⟩ (Nat.le_of_ble_eq_true rfl) dX2_init_20 (fun aT H locs hw hW => ?_)
  rw [← hw]
  refine vs_putF (Wo' := vs_W1 g aT vs_S0 ++ (vs_W1 g aS vs_S0 ++ ([(h, .inr (6, [.ref (aS 0), .ref (aT 0), .null, .null, .int 0, .int 0, .int 0]))] ++ wr))) hC hW 24 rfl rfl vs_inX2 tyX2_ok nmX2 1 (by decide) vf_X2_16 rfl (by rw [hin]; rfl) rfl rfl rfl (Nat.le_of_ble_eq_true rfl) rfl dX2_init_23 (fun H locs hW => ?_)
  refine vs_aload_n hC hl 0 dX2_init_26 rfl rfl ?_
  refine vs_newX0 hC hW vl_X2_19 (Nat.le_of_ble_eq_true rfl) (Nat.le_of_ble_eq_true rfl) dX2_init_27 (fun q2 H hW => ?_)
  refine vs_dup hC dX2_init_30 rfl ?_
  refine vs_callIN [] hC hW vk_X0_init ⟨by decide +kernel, by decide +kernel, by decide +kernel⟩ rfl vo_X2_21 (c_X0_init l g q2 (vs_W1 g aT vs_S0 ++ (vs_W1 g aS vs_S0 ++ ([(h, .inr (6, [.ref (aS 0), .ref (aT 0), .null, .null, .int 0, .int 0, .int 0]))] ++ wr)))) rfl hl.1 rfl ⟨rfl, rfl⟩ ⟨(Nat.le_of_ble_eq_true rfl), (Nat.le_of_ble_eq_true rfl)⟩ ⟨(Nat.le_of_ble_eq_true rfl), (Nat.le_of_ble_eq_true rfl)⟩ (Nat.le_of_ble_eq_true rfl) dX2_init_31 (fun aK H locs hw hW => ?_)
  rw [← hw]
  refine vs_putF (Wo' := vs_W0 g aK vs_Z ++ (vs_W1 g aT vs_S0 ++ (vs_W1 g aS vs_S0 ++ ([(h, .inr (6, [.ref (aS 0), .ref (aT 0), .ref (aK 0), .null, .int 0, .int 0, .int 0]))] ++ wr)))) hC hW 36 rfl rfl vs_inX2 tyX2_ok nmX2 2 (by decide) vf_X2_22 rfl (by rw [hin]; rfl) rfl rfl rfl (Nat.le_of_ble_eq_true rfl) rfl dX2_init_34 (fun H locs hW => ?_)
  refine vs_aload_n hC hl 0 dX2_init_37 rfl rfl ?_
  refine vs_newSB (x := []) (r := vs_W0 g aK vs_Z ++ (vs_W1 g aT vs_S0 ++ (vs_W1 g aS vs_S0 ++ ([(h, .inr (6, [.ref (aS 0), .ref (aT 0), .ref (aK 0), .null, .int 0, .int 0, .int 0]))] ++ wr)))) hC hW vl_X2_26 (Nat.le_of_ble_eq_true rfl) (Nat.le_of_ble_eq_true rfl) dX2_init_38 (fun b H hW => ?_)
  refine vs_dup hC dX2_init_41 rfl ?_
  refine vs_jcallIV [] hC hW hJ vkI_J4_init_da8c8 vm_X2_28 (c_J4_init_da8c8 l g jd b (vs_W0 g aK vs_Z ++ (vs_W1 g aT vs_S0 ++ (vs_W1 g aS vs_S0 ++ ([(h, .inr (6, [.ref (aS 0), .ref (aT 0), .ref (aK 0), .null, .int 0, .int 0, .int 0]))] ++ wr))))) rfl hl.1 rfl ⟨rfl, rfl⟩ ⟨(Nat.le_of_ble_eq_true rfl), (Nat.le_of_ble_eq_true rfl)⟩ ⟨(Nat.le_of_ble_eq_true rfl), (Nat.le_of_ble_eq_true rfl)⟩ (Nat.le_of_ble_eq_true rfl) dX2_init_42 (fun q H locs hw hW => ?_)
  refine vs_putF (Wo' := vs_tT g b q 0 (0, 16, fun _ => 0) ++ (vs_W0 g aK vs_Z ++ (vs_W1 g aT vs_S0 ++ (vs_W1 g aS vs_S0 ++ ([(h, .inr (6, [.ref (aS 0), .ref (aT 0), .ref (aK 0), .ref b, .int 0, .int 0, .int 0]))] ++ wr))))) hC hW 38 rfl rfl vs_inX2 tyX2_ok nmX2 3 (by decide) vf_X2_29 rfl (by rw [hin]; rfl) rfl rfl rfl (Nat.le_of_ble_eq_true rfl) rfl dX2_init_45 (fun H locs hW => ?_)
  refine vs_aload_n hC hl 0 dX2_init_48 rfl rfl ?_
  refine vs_bipush hC dX2_init_49 (by decide +kernel) ?_
  refine vs_put (Wo' := vs_tT g b q 0 (0, 16, fun _ => 0) ++ (vs_W0 g aK vs_Z ++ (vs_W1 g aT vs_S0 ++ (vs_W1 g aS vs_S0 ++ (vs_W2 h (aS 0) (aT 0) (aK 0) b vs_V0 ++ wr))))) hC hW 38 rfl rfl vs_inX2 tyX2_ok nmX2 4 (by decide) vf_X2_33 rfl rfl (Nat.le_of_ble_eq_true rfl) rfl dX2_init_51 (fun H locs hW => ?_)
  have hW := vs_Wd.perm2 hW (vs_mv4 (X := vs_tT g b q 0 (0, 16, fun _ => 0)))
  have hW := vs_Wd.perm2 hW (vs_mv3 (X := vs_W0 g aK vs_Z))
  have hW := vs_Wd.perm2 hW (vs_mv2 (X := vs_W1 g aT vs_S0))
  have hW := vs_Wd.perm2 hW (vs_mv1 (X := vs_W1 g aS vs_S0))
  exact vs_vret (aS, aT, aK, b, q) hC hr hlk hW rfl trivial (Nat.le_of_ble_eq_true rfl) (Nat.le_of_ble_eq_true rfl) dX2_init_54
