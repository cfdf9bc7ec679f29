/-! the reference's text methods -/
section VSL9
variable {p : Program} {l : Launch} {e : Env} {R : Room} {s : State} {m : MethodId} {args : Array Value} {below : List Frame} {meth : Method} {c : Code} {H : Heap} {locs : List Loc} {cells slots : Nat} {Q : State → Prop}
variable {cc : ByteArray} {pc nL : Nat} {ls : Array Slot} {rest : List Value} {own : String} {g : vs_G} {jd : Nat → Nat} {A : Nat → Prop} {H0 : Heap} {Wo : va_W} {a : Nat}
theorem vs_litH (hW : vs_Wd g A s.heap Wo H locs s) (hJ : vs_Js g jd A s s.heap) : vs_Lit (jd 2) (jd 3) A s H := hJ.2.2.2.2.2.2.1.hand hW.2.2.2.1.2.1 (fun _ h => h)
theorem vs_getL0 (hC : CallFix p m c cc nL s args vs_ws own) (hW : vs_Wd g A s.heap Wo H locs s) (hJ : vs_Js g jd A s s.heap) {index : Nat} (hlink : Cond.fieldLink own index (TJ0 0).1 (TJ0 0).2.1 (TJ0 0).2.2.1 ∈ vs_ws) (hdg : decode cc pc = .ok (.getfield index, 3))
    (kk : W p l e R s m args below meth c H locs cells slots Q (F0 m (pc + 3) ls (.ref (jd 3) :: rest))) : W p l e R s m args below meth c H locs cells slots Q (F0 m pc ls (.ref (jd 2) :: rest)) := by
  obtain ⟨cf, k, fi, f, cell, h1, h2, h3, h4, h5, h6⟩ := (vs_litH hW hJ).2.1
  exact W.getf hC.1 hC.2.1 hC.2.2.2.1 (hC.2.2.2.2 _ hlink) h1 h2 h3 h4 (v := .ref (jd 3)) h5 rfl rfl hdg kk
theorem vs_getL1 (hC : CallFix p m c cc nL s args vs_ws own) (hW : vs_Wd g A s.heap Wo H locs s) (hJ : vs_Js g jd A s s.heap) {index : Nat} (hlink : Cond.fieldLink own index (TJ0 1).1 (TJ0 1).2.1 (TJ0 1).2.2.1 ∈ vs_ws) (hdg : decode cc pc = .ok (.getfield index, 3))
    (kk : W p l e R s m args below meth c H locs cells slots Q (F0 m (pc + 3) ls (.int (vs_I 0) :: rest))) : W p l e R s m args below meth c H locs cells slots Q (F0 m pc ls (.ref (jd 2) :: rest)) := by
  obtain ⟨cf, k, fi, f, cell, h1, h2, h3, h4, h5, h6⟩ := (vs_litH hW hJ).2.2.1
  exact W.getf hC.1 hC.2.1 hC.2.2.2.1 (hC.2.2.2.2 _ hlink) h1 h2 h3 h4 (v := .int (vs_I 0)) h5 rfl rfl hdg kk
theorem vs_alenL (hC : CallFix p m c cc nL s args vs_ws own) (hW : vs_Wd g A s.heap Wo H locs s) (hJ : vs_Js g jd A s s.heap) (hdg : decode cc pc = .ok (.arraylength, 1))
    (kk : W p l e R s m args below meth c H locs cells slots Q (F0 m (pc + 1) ls (.int (vs_I 0) :: rest))) : W p l e R s m args below meth c H locs cells slots Q (F0 m pc ls (.ref (jd 3) :: rest)) :=
  va_tlen hC.1 hC.2.1 hJ.2.2.2.2.2.2.1.2.2.2 hW.2.2.2.1 (v := vs_I 0) rfl hdg kk
theorem vs_jcallVIL {U : Type} {mk : U → va_W} {post : Int → U → Prop} {y : MethodName} {bytes : ByteArray} {maxL n mc ms index : Nat} {ret : Option FieldType} {rm : Room} (As : List Value) (hC : CallFix p m c cc nL s args vs_ws own) (hW : vs_Wd g A s.heap Wo H locs s) (hJ : vs_Js g jd A s s.heap) (hy : y.cls = RJ0) (hk : vs_lk y bytes maxL ret n) (hl : Cond.methodLink own index y ∈ vs_ws) (hM : vs_JI l y (Cond.code y bytes maxL ret :: vs_ws) rm g jd (.ref (jd 2) :: As) Wo mk post mc ms) (hn : As.length = n) (hlsz : ls.size = nL) {st0 : List Value} (hst : st0 = As.reverse ++ .ref (jd 2) :: rest) (hrm : rm.cells = mc ∧ rm.slots = ms) (hR : rm.frames + 1 ≤ R.frames ∧ 8 + (maxL + 11) + rm.locals ≤ R.locals) (hcap : cells + mc ≤ R.cells ∧ slots + ms ≤ R.slots) (hstk : (rest.map fun v => v.category).sum ≤ 8) (hdg : decode cc pc = .ok (.invokevirtual index, 3))
    (kk : ∀ (v : Int) (u : U) (H1 : Heap) (locs1 : List Loc), post v u → vs_Wd g A s.heap (mk u) H1 locs1 s → W p l e R s m args below meth c H1 locs1 (cells + mc) (slots + ms) Q (F0 m (pc + 3) ls (.int (vs_I v) :: rest))) : W p l e R s m args below meth c H locs cells slots Q (F0 m pc ls st0) := by
  subst hst
  have hrv : ∃ cell : Cell, H[jd 2]? = some cell ∧ cell.vm.isStatics = false ∧ s.vm.findClass y.cls = some cell.cls := by
    rw [hy]
    obtain ⟨cell, h1, h2, h3, -⟩ := (vs_litH hW hJ).1
    exact ⟨cell, h1, h2, h3⟩
  exact va_calli (va_runV (As := As) (rest := rest) hC (hM H.size) (vs_cw hC hk hl hrm.1 hrm.2 hR) ⟨vs_blindJ, hrv, hW.preJ hJ⟩ rfl hn hlsz rfl (lv_room hstk) hdg hcap) hW.2.2.2.1 (fun q _ h => hW.in q h) hW.in (fun r u t H1 locs1 ht _ hp hb _ _ hS => by
    obtain ⟨v, u⟩ := u
    obtain ⟨rfl, hp⟩ := hp
    exact kk v u H1 locs1 hp (hW.back ht hb hS))
end VSL9
set_option maxHeartbeats 4000000 in
set_option maxRecDepth 100000 in
theorem c_J0_coder_7d493E (l : Launch) (g : vs_G) (jd : Nat → Nat) (wr : va_W) : vs_JI l yJ0_coder_7d493 (Cond.code yJ0_coder_7d493 cJ0_coder_7d493 1 (some .byte) :: vs_ws) { frames := 0, cells := 0, slots := 0, locals := 40 } g jd [.ref (jd 2)] (wr) (fun (_ : Unit) => wr) (fun v (_ : Unit) => v = 0) 0 0 := by
  refine vs_ofJ (y := yJ0_coder_7d493) (cc := cJ0_coder_7d493) (maxL := 1) (ret := (some .byte)) (as := [.ref (jd 2)]) (Wo := wr) (mc := 0) (ms := 0) (Qc := fun A => vs_QI g A (fun (_ : Unit) => wr) (fun v (_ : Unit) => v = 0)) (by decide +kernel) (Nat.le_of_ble_eq_true rfl) (fun p e s m below meth c A ls hC hr hlk hin hW hJ hl => ?_)
  have hC : CallFix p m c cJ0_coder_7d493 1 s _ vs_ws RJ0 := hC
  have hl : lv_has ls 1 [(0, .ref (jd 2))] := hl
  refine vs_gets hC hW hJ.1 vz_J0_38 dJ0_coder_7d493_0 ?_
  refine vs_if_eq hC 13 ⟨by omega, by omega⟩ dJ0_coder_7d493_3 (by decide) (fun hc => absurd hc (by decide)) (fun hc => ?_)
  refine vs_aload_n hC hl 0 dJ0_coder_7d493_6 rfl rfl ?_
  refine vs_getL1 hC hW hJ vf_J0_15 dJ0_coder_7d493_7 ?_
  refine vs_goto hC 14 dJ0_coder_7d493_10 (by decide) ?_
  exact vs_bret () hC hr hlk hW rfl ⟨by decide, rfl⟩ (Nat.le_of_ble_eq_true rfl) (Nat.le_of_ble_eq_true rfl) dJ0_coder_7d493_14
set_option maxHeartbeats 4000000 in
set_option maxRecDepth 100000 in
theorem c_J0_length_8abf5E (l : Launch) (g : vs_G) (jd : Nat → Nat) (wr : va_W) : vs_JI l yJ0_length_8abf5 (Cond.code yJ0_length_8abf5 cJ0_length_8abf5 1 (some .int) :: vs_ws) { frames := 1, cells := 0, slots := 0, locals := 60 } g jd [.ref (jd 2)] (wr) (fun (_ : Unit) => wr) (fun v (_ : Unit) => v = 0) 0 0 := by
  refine vs_ofJ (y := yJ0_length_8abf5) (cc := cJ0_length_8abf5) (maxL := 1) (ret := (some .int)) (as := [.ref (jd 2)]) (Wo := wr) (mc := 0) (ms := 0) (Qc := fun A => vs_QI g A (fun (_ : Unit) => wr) (fun v (_ : Unit) => v = 0)) (by decide +kernel) (Nat.le_of_ble_eq_true rfl) (fun p e s m below meth c A ls hC hr hlk hin hW hJ hl => ?_)
  have hC : CallFix p m c cJ0_length_8abf5 1 s _ vs_ws RJ0 := hC
  have hl : lv_has ls 1 [(0, .ref (jd 2))] := hl
  refine vs_aload_n hC hl 0 dJ0_length_8abf5_0 rfl rfl ?_
  refine vs_getL0 hC hW hJ vf_J0_9 dJ0_length_8abf5_1 ?_
  refine vs_alenL hC hW hJ dJ0_length_8abf5_4 ?_
  refine vs_aload_n hC hl 0 dJ0_length_8abf5_5 rfl rfl ?_
  refine vs_jcallVIL [] hC hW hJ rfl vk_J0_coder_7d493 vm_J0_335 (c_J0_coder_7d493E l g jd wr) rfl hl.1 rfl ⟨rfl, rfl⟩ ⟨Nat.le_of_ble_eq_true rfl, Nat.le_of_ble_eq_true rfl⟩ ⟨Nat.le_of_ble_eq_true rfl, Nat.le_of_ble_eq_true rfl⟩ (Nat.le_of_ble_eq_true rfl) dJ0_length_8abf5_6 (fun v1 _ H locs hw hW => ?_)
  subst hw
  refine vs_ishr0 hC dJ0_length_8abf5_9 ?_
  exact vs_iret () hC hr hlk hW rfl rfl (Nat.le_of_ble_eq_true rfl) (Nat.le_of_ble_eq_true rfl) dJ0_length_8abf5_10
def wX3_lineAt (S : vs_St) (N : Int) (f : Int → Int) (x : Int) (post : Int → vs_St → Prop) : Prop :=
  wX3_isBetween x 0 (N - 1) (fun r => vs_R r ∧ (r = 0 → wX3_fails (vs_st S 0 0 0) 1 (fun r2 S2 => (0 ≤ r2 ∧ r2 < 65536) ∧ post r2 S2)) ∧ (¬ r = 0 → (0 ≤ x ∧ x < N) ∧ (0 ≤ f x ∧ f x < 256) ∧ post (f x) (vs_st S 0 0 0)))
set_option maxHeartbeats 4000000 in
set_option maxRecDepth 100000 in
theorem c_X3_lineAtE (l : Launch) (g : vs_G) (jd : Nat → Nat) (a r q : Nat → Nat) (f : Int → Int) (wr : va_W) (S : vs_St) (x : Int) (post : Int → vs_St → Prop) (hE : a 32 = jd 2) (hw : wX3_lineAt S 0 f x post) : vs_JI l yX3_lineAt (Cond.code yX3_lineAt cX3_lineAt 2 (some .char) :: vs_ws) { frames := 2, cells := 0, slots := 0, locals := 82 } g jd [.ref (a 0), .int (vs_I x)] (vs_W3 g a r q S ++ wr) (fun (S' : vs_St) => vs_W3 g a r q S' ++ wr) (post) 0 0 := by
  refine vs_ofJ (y := yX3_lineAt) (cc := cX3_lineAt) (maxL := 2) (ret := (some .char)) (as := [.ref (a 0), .int (vs_I x)]) (Wo := vs_W3 g a r q S ++ wr) (mc := 0) (ms := 0) (Qc := fun A => vs_QI g A (fun (S' : vs_St) => vs_W3 g a r q S' ++ wr) (post)) (by decide +kernel) (Nat.le_of_ble_eq_true rfl) (fun p e s m below meth c A ls hC hr hlk hin hW hJ hl => ?_)
  have hC : CallFix p m c cX3_lineAt 2 s _ vs_ws RX3 := hC
  have hl : lv_has ls 2 [(0, .ref (a 0)), (1, .int (vs_I x))] := hl
  have hE2 : a 32 = jd 2 := hE
  refine vs_aload_n hC hl 0 dX3_lineAt_0 rfl rfl ?_
  refine vs_iconst hC dX3_lineAt_1 ?_
  obtain ⟨S1, hS1⟩ : ∃ z : vs_St, z = vs_st S 0 0 0 := ⟨_, rfl⟩
  unfold wX3_lineAt at hw
  rw [← hS1] at hw
  refine vs_put (Wo' := vs_W3 g a r q S1 ++ wr) hC hW 0 rfl rfl vs_inX3 tyX3_ok nmX3 0 (by decide) vf_X3_96 rfl rfl (Nat.le_of_ble_eq_true rfl) (by rw [hS1]; rfl) dX3_lineAt_2 (fun H locs hW => ?_)
  refine vs_iload_n hC hl 1 dX3_lineAt_5 rfl rfl ?_
  refine vs_iconst hC dX3_lineAt_6 ?_
  refine vs_aload_n hC hl 0 dX3_lineAt_7 rfl rfl ?_
  refine vs_get hC hW 0 rfl rfl vs_inX3 32 (by decide) vf_X3_92 rfl dX3_lineAt_8 ?_
  rw [hE2]
  refine vs_jcallVIL [] hC hW hJ rfl vk_J0_length_8abf5 vm_X3_241 (c_J0_length_8abf5E l g jd (vs_W3 g a r q S1 ++ wr)) rfl hl.1 rfl ⟨rfl, rfl⟩ ⟨Nat.le_of_ble_eq_true rfl, Nat.le_of_ble_eq_true rfl⟩ ⟨Nat.le_of_ble_eq_true rfl, Nat.le_of_ble_eq_true rfl⟩ (Nat.le_of_ble_eq_true rfl) dX3_lineAt_11 (fun v1 _ H locs hv hW => ?_)
  subst hv
  refine vs_iconst hC dX3_lineAt_14 ?_
  refine vs_isub hC dX3_lineAt_15 ?_
  refine vs_callSI [.int (vs_I x), .int (vs_I 0), .int (vs_I (0 - 1))] hC hW vk_X3_isBetween vm_X3_102 (c_X3_isBetween l g (vs_W3 g a r q S1 ++ wr) x 0 (0 - 1) _ hw) rfl hl.1 rfl ⟨rfl, rfl⟩ ⟨Nat.le_of_ble_eq_true rfl, Nat.le_of_ble_eq_true rfl⟩ ⟨Nat.le_of_ble_eq_true rfl, Nat.le_of_ble_eq_true rfl⟩ (Nat.le_of_ble_eq_true rfl) dX3_lineAt_16 (fun r1 _ H locs hw hW => ?_)
  obtain ⟨hr1, hwt, hwf⟩ := hw
  refine vs_if_eq hC 33 hr1 dX3_lineAt_19 (by decide) (fun hc => ?_) (fun hc => ?_)
  · have hw := hwt hc
    clear hwt hwf
    refine vs_aload_n hC hl 0 dX3_lineAt_33 rfl rfl ?_
    refine vs_iconst hC dX3_lineAt_34 ?_
    refine vs_callVI [.int (vs_I 1)] hC hW 0 rfl rfl vk_X3_fails vm_X3_123 (c_X3_fails l g a r q wr S1 1 _ hw) rfl hl.1 rfl ⟨rfl, rfl⟩ ⟨Nat.le_of_ble_eq_true rfl, Nat.le_of_ble_eq_true rfl⟩ ⟨Nat.le_of_ble_eq_true rfl, Nat.le_of_ble_eq_true rfl⟩ (Nat.le_of_ble_eq_true rfl) dX3_lineAt_35 (fun r2 S2 H locs hw hW => ?_)
    refine vs_i2c hC dX3_lineAt_38 hw.1 ?_
    exact vs_cret S2 hC hr hlk hW rfl hw (Nat.le_of_ble_eq_true rfl) (Nat.le_of_ble_eq_true rfl) dX3_lineAt_39
  · have hw := hwf hc
    clear hwt hwf
    exact absurd hw.1 (by omega)
set_option maxHeartbeats 4000000 in
set_option maxRecDepth 100000 in
theorem c_X3_lineAtS (l : Launch) (g : vs_G) (jd : Nat → Nat) (a r q : Nat → Nat) (q2 N : Nat) (f : Int → Int) (hz : Value × Value) (wr : va_W) (S : vs_St) (x : Int) (post : Int → vs_St → Prop) (hN : N ≤ 60000) (hw : wX3_lineAt S (N : Int) f x post) : vs_JI l yX3_lineAt (Cond.code yX3_lineAt cX3_lineAt 2 (some .char) :: vs_ws) { frames := 4, cells := 0, slots := 0, locals := 125 } g jd [.ref (a 0), .int (vs_I x)] (vs_W3 g a r q S ++ (vs_tS g (a 32) q2 N f hz ++ wr)) (fun (S' : vs_St) => vs_W3 g a r q S' ++ (vs_tS g (a 32) q2 N f hz ++ wr)) (post) 0 0 := by
  refine vs_ofJ (y := yX3_lineAt) (cc := cX3_lineAt) (maxL := 2) (ret := (some .char)) (as := [.ref (a 0), .int (vs_I x)]) (Wo := vs_W3 g a r q S ++ (vs_tS g (a 32) q2 N f hz ++ wr)) (mc := 0) (ms := 0) (Qc := fun A => vs_QI g A (fun (S' : vs_St) => vs_W3 g a r q S' ++ (vs_tS g (a 32) q2 N f hz ++ wr)) (post)) (by decide +kernel) (Nat.le_of_ble_eq_true rfl) (fun p e s m below meth c A ls hC hr hlk hin hW hJ hl => ?_)
  have hC : CallFix p m c cX3_lineAt 2 s _ vs_ws RX3 := hC
  have hl : lv_has ls 2 [(0, .ref (a 0)), (1, .int (vs_I x))] := hl
  refine vs_aload_n hC hl 0 dX3_lineAt_0 rfl rfl ?_
  refine vs_iconst hC dX3_lineAt_1 ?_
  obtain ⟨S1, hS1⟩ : ∃ z : vs_St, z = vs_st S 0 0 0 := ⟨_, rfl⟩
  unfold wX3_lineAt at hw
  rw [← hS1] at hw
  refine vs_put (Wo' := vs_W3 g a r q S1 ++ (vs_tS g (a 32) q2 N f hz ++ wr)) hC hW 0 rfl rfl vs_inX3 tyX3_ok nmX3 0 (by decide) vf_X3_96 rfl rfl (Nat.le_of_ble_eq_true rfl) (by rw [hS1]; rfl) dX3_lineAt_2 (fun H locs hW => ?_)
  refine vs_iload_n hC hl 1 dX3_lineAt_5 rfl rfl ?_
  refine vs_iconst hC dX3_lineAt_6 ?_
  refine vs_aload_n hC hl 0 dX3_lineAt_7 rfl rfl ?_
  refine vs_get hC hW 0 rfl rfl vs_inX3 32 (by decide) vf_X3_92 rfl dX3_lineAt_8 ?_
  have hW := vs_Wd.perm2 hW (List.perm_append_comm_assoc (vs_W3 g a r q S1) (vs_tS g (a 32) q2 N f hz) wr)
  refine vs_jcallVI [] hC hW hJ 0 rfl rfl vk_J0_length_8abf5 vm_X3_241 (c_J0_length_8abf5 l g jd (a 32) q2 N f hz (vs_W3 g a r q S1 ++ wr)) rfl hl.1 rfl ⟨rfl, rfl⟩ ⟨Nat.le_of_ble_eq_true rfl, Nat.le_of_ble_eq_true rfl⟩ ⟨Nat.le_of_ble_eq_true rfl, Nat.le_of_ble_eq_true rfl⟩ (Nat.le_of_ble_eq_true rfl) dX3_lineAt_11 (fun v1 _ H locs hv hW => ?_)
  subst hv
  have hW := vs_Wd.perm2 hW (List.perm_append_comm_assoc (vs_tS g (a 32) q2 N f hz) (vs_W3 g a r q S1) wr)
  refine vs_iconst hC dX3_lineAt_14 ?_
  refine vs_isub hC dX3_lineAt_15 ?_
  refine vs_callSI [.int (vs_I x), .int (vs_I 0), .int (vs_I ((N : Int) - 1))] hC hW vk_X3_isBetween vm_X3_102 (c_X3_isBetween l g (vs_W3 g a r q S1 ++ (vs_tS g (a 32) q2 N f hz ++ wr)) x 0 ((N : Int) - 1) _ hw) rfl hl.1 rfl ⟨rfl, rfl⟩ ⟨Nat.le_of_ble_eq_true rfl, Nat.le_of_ble_eq_true rfl⟩ ⟨Nat.le_of_ble_eq_true rfl, Nat.le_of_ble_eq_true rfl⟩ (Nat.le_of_ble_eq_true rfl) dX3_lineAt_16 (fun r1 _ H locs hw hW => ?_)
  obtain ⟨hr1, hwt, hwf⟩ := hw
  refine vs_if_eq hC 33 hr1 dX3_lineAt_19 (by decide) (fun hc => ?_) (fun hc => ?_)
  · have hw := hwt hc
    clear hwt hwf
    refine vs_aload_n hC hl 0 dX3_lineAt_33 rfl rfl ?_
    refine vs_iconst hC dX3_lineAt_34 ?_
    refine vs_callVI [.int (vs_I 1)] hC hW 0 rfl rfl vk_X3_fails vm_X3_123 (c_X3_fails l g a r q (vs_tS g (a 32) q2 N f hz ++ wr) S1 1 _ hw) rfl hl.1 rfl ⟨rfl, rfl⟩ ⟨Nat.le_of_ble_eq_true rfl, Nat.le_of_ble_eq_true rfl⟩ ⟨Nat.le_of_ble_eq_true rfl, Nat.le_of_ble_eq_true rfl⟩ (Nat.le_of_ble_eq_true rfl) dX3_lineAt_35 (fun r2 S2 H locs hw hW => ?_)
    refine vs_i2c hC dX3_lineAt_38 hw.1 ?_
    exact vs_cret S2 hC hr hlk hW rfl hw (Nat.le_of_ble_eq_true rfl) (Nat.le_of_ble_eq_true rfl) dX3_lineAt_39
  · have hw := hwf hc
    clear hwt hwf
    refine vs_aload_n hC hl 0 dX3_lineAt_22 rfl rfl ?_
    refine vs_get hC hW 0 rfl rfl vs_inX3 32 (by decide) vf_X3_92 rfl dX3_lineAt_23 ?_
    refine vs_iload_n hC hl 1 dX3_lineAt_26 rfl rfl ?_
    have hW := vs_Wd.perm2 hW (List.perm_append_comm_assoc (vs_W3 g a r q S1) (vs_tS g (a 32) q2 N f hz) wr)
    refine vs_jcallVI [.int (vs_I x)] hC hW hJ 0 rfl rfl vk_J0_charAt_5068e vm_X3_246 (c_J0_charAt_5068e l g jd (a 32) q2 N f hz (vs_W3 g a r q S1 ++ wr) x ⟨hw.1.1, hw.1.2, hN⟩ hw.2.1) rfl hl.1 rfl ⟨rfl, rfl⟩ ⟨Nat.le_of_ble_eq_true rfl, Nat.le_of_ble_eq_true rfl⟩ ⟨Nat.le_of_ble_eq_true rfl, Nat.le_of_ble_eq_true rfl⟩ (Nat.le_of_ble_eq_true rfl) dX3_lineAt_27 (fun v1 _ H locs hv hW => ?_)
    subst hv
    have hW := vs_Wd.perm2 hW (List.perm_append_comm_assoc (vs_tS g (a 32) q2 N f hz) (vs_W3 g a r q S1) wr)
    refine vs_goto hC 39 dX3_lineAt_30 (by decide) ?_
    exact vs_cret S1 hC hr hlk hW rfl ⟨⟨hw.2.1.1, by have := hw.2.1.2; omega⟩, hw.2.2⟩ (Nat.le_of_ble_eq_true rfl) (Nat.le_of_ble_eq_true rfl) dX3_lineAt_39
def vs_a32 (a : Nat → Nat) (x : Nat) : Nat → Nat := fun k => cond (Nat.beq k 32) x (a k)
/-- the text of a disk, as the reference lays it -/
def vs_wdq (S : vs_St) (d : Int) (post : Int → vs_St → Option vs_TT → Prop) : Prop :=
  (0 ≤ d ∧ d < 8) ∧ (0 ≤ S 2 d ∧ S 2 d < 128) ∧ (0 ≤ S 1 d ∧ S 1 d ≤ 32) ∧ (∀ i : Nat, i < 32 → vs_slotok (S 3) (S 5) (32 * d + i)) ∧ post (vs_wl (S 2 d) (S 1 d) (S 3) (S 5) (32 * d) (0, 16, fun _ => 0)).1 S (some (vs_wl (S 2 d) (S 1 d) (S 3) (S 5) (32 * d) (0, 16, fun _ => 0)))
def wX3_writeDisk (S : vs_St) (d : Int) (post : Int → vs_St → Option vs_TT → Prop) : Prop :=
  wX3_isNoDisk S d (fun r S1 => vs_R r ∧ (r = 0 → vs_wdq S1 d post) ∧ (¬ r = 0 → post 0 S1 none))
abbrev vs_LU : Type := vs_St × Option (Nat × Nat × Nat × (Int → Int) × vs_TT)
def vs_mkL (g : vs_G) (a r q : Nat → Nat) (wr : va_W) (u : vs_LU) : va_W := match u.2 with
  | none => vs_W3 g a r q u.1 ++ wr
  | some y => vs_W3 g (vs_a32 a y.1) r q u.1 ++ (vs_tS g y.1 y.2.1 y.2.2.1 y.2.2.2.1 (.int (vs_I 0), .int (vs_I 0)) ++ wr)
def vs_okL (post : Int → vs_St → Option vs_TT → Prop) (v : Int) (u : vs_LU) : Prop := match u.2 with
  | none => post v u.1 none
  | some y => ((y.2.2.1 : Int) = y.2.2.2.2.1 ∧ y.2.2.1 ≤ 193 ∧ ∀ j : Int, 0 ≤ j → j < (y.2.2.1 : Int) → y.2.2.2.1 j = y.2.2.2.2.2.2 j) ∧ post v u.1 (some y.2.2.2.2)
theorem vs_pS2 {y : Nat × va_E} {X r : va_W} : List.Perm ((X ++ [y]) ++ r) ([y] ++ (X ++ r)) := by rw [List.append_assoc]; exact List.perm_append_comm_assoc X [y] r
set_option maxHeartbeats 4000000 in
set_option maxRecDepth 100000 in
theorem c_X3_writeDisk (l : Launch) (g : vs_G) (jd : Nat → Nat) (a r q : Nat → Nat) (wr : va_W) (S : vs_St) (d : Int) (post : Int → vs_St → Option vs_TT → Prop) (hw : wX3_writeDisk S d post) : vs_JI l yX3_writeDisk (Cond.code yX3_writeDisk cX3_writeDisk 4 (some .int) :: vs_ws) { frames := 6, cells := 420, slots := 1100, locals := 174 } g jd [.ref (a 0), .int (vs_I d)] (vs_W3 g a r q S ++ wr) (vs_mkL g a r q wr) (vs_okL post) 420 1100 := by
  refine vs_ofJ (y := yX3_writeDisk) (cc := cX3_writeDisk) (maxL := 4) (ret := (some .int)) (as := [.ref (a 0), .int (vs_I d)]) (Wo := vs_W3 g a r q S ++ wr) (mc := 420) (ms := 1100) (Qc := fun A => vs_QI g A (vs_mkL g a r q wr) (vs_okL post)) (by decide +kernel) (Nat.le_of_ble_eq_true rfl) (fun p e s m below meth c A ls hC hr hlk hin hW hJ hl => ?_)
  have hC : CallFix p m c cX3_writeDisk 4 s _ vs_ws RX3 := hC
  have hl : lv_has ls 4 [(0, .ref (a 0)), (1, .int (vs_I d))] := hl
  unfold wX3_writeDisk at hw
  refine vs_aload_n hC hl 0 dX3_writeDisk_0 rfl rfl ?_
  refine vs_iload_n hC hl 1 dX3_writeDisk_1 rfl rfl ?_
  refine vs_callVI [.int (vs_I d)] hC hW 0 rfl rfl vk_X3_isNoDisk vm_X3_130 (c_X3_isNoDisk l g a r q (wr) S d _ hw) rfl hl.1 rfl ⟨rfl, rfl⟩ ⟨Nat.le_of_ble_eq_true rfl, Nat.le_of_ble_eq_true rfl⟩ ⟨Nat.le_of_ble_eq_true rfl, Nat.le_of_ble_eq_true rfl⟩ (Nat.le_of_ble_eq_true rfl) dX3_writeDisk_2 (fun r1 S1 H locs hw hW => ?_)
  obtain ⟨hr1, hwt, hwf⟩ := hw
  refine vs_if_eq hC 10 hr1 dX3_writeDisk_5 (by decide) (fun hc => ?_) (fun hc => ?_)
  rotate_left
  · refine vs_iconst hC dX3_writeDisk_8 ?_
    exact vs_iret (S1, none) hC hr hlk hW rfl (hwf hc) (Nat.le_of_ble_eq_true rfl) (Nat.le_of_ble_eq_true rfl) dX3_writeDisk_9
  obtain ⟨hd, hz, hsz, hok, hpost⟩ := hwt hc
  clear hwt hwf hc
  refine vs_newSB (x := vs_W3 g a r q S1) (r := wr) hC hW vl_X3_227 (Nat.le_of_ble_eq_true rfl) (Nat.le_of_ble_eq_true rfl) dX3_writeDisk_10 (fun b H hW => ?_)
  have hW := vs_Wd.perm2 hW (vs_pS2 (X := vs_W3 g a r q S1) (r := wr))
  refine vs_dup hC dX3_writeDisk_13 rfl ?_
  refine vs_jcallIV [] hC hW hJ vkI_J4_init_da8c8 vm_X3_229 (c_J4_init_da8c8 l g jd b (vs_W3 g a r q S1 ++ wr)) rfl hl.1 rfl ⟨rfl, rfl⟩ ⟨Nat.le_of_ble_eq_true rfl, Nat.le_of_ble_eq_true rfl⟩ ⟨show _ ≤ 420 by first | omega | (dsimp only; omega), show _ ≤ 1100 by first | omega | (dsimp only; omega)⟩ (Nat.le_of_ble_eq_true rfl) dX3_writeDisk_14 (fun q1 H locs hw hW => ?_)
  have hW : vs_Wd g A s.heap (vs_tT g b q1 0 (0, 16, fun _ => 0) ++ (vs_W3 g a r q S1 ++ wr)) _ _ s := hW
  refine vs_astore_n (L' := [(0, .ref (a 0)), (1, .int (vs_I d)), (2, .ref b)]) hC hl [1, 2, 0] dX3_writeDisk_17 rfl (by decide) rfl (fun ls hl => ?_)
  refine vs_aload_n hC hl 2 dX3_writeDisk_18 rfl rfl ?_
  refine vs_aload_n hC hl 0 dX3_writeDisk_19 rfl rfl ?_
  refine vs_get hC hW 2 rfl rfl vs_inX3 2 (by decide) vf_X3_13 rfl dX3_writeDisk_20 ?_
  refine vs_iload_n hC hl 1 dX3_writeDisk_23 rfl rfl ?_
  refine vs_cald hC hW 4 rfl (by decide) (by omega) dX3_writeDisk_24 ?_
  have k0 : vs_tk (0, 16, fun _ => 0) := ⟨⟨by show (0 : Int) ≤ 0; decide, by show (0 : Int) ≤ ((16 : Nat) : Int); decide⟩, by show (16 : Nat) ≤ 404; decide, fun j _ _ => by show (-128 : Int) ≤ 0 ∧ (0 : Int) < 128; decide⟩
  obtain ⟨T0, e0⟩ : ∃ y : vs_TT, y = vs_aC (S1 2 d) (0, 16, fun _ => 0) := ⟨_, rfl⟩
  have kT0 : vs_tk T0 := by rw [e0]; exact vs_aC_k k0 (by show (0 : Int) ≤ 200; decide) hz
  have nT0 : T0.1 = 1 := by rw [e0]; rfl
  have rT0 : vs_rc (0, 16, fun _ => 0) 1 + 16 ≤ T0.2.1 ∧ vs_rs (0, 16, fun _ => 0) 1 + 2 * 16 ≤ 2 * T0.2.1 ∧ 16 ≤ T0.2.1 := by rw [e0]; exact vs_rcs (T := (0, 16, fun _ => 0)) 1
  have hcT0 := kT0.2.1
  refine vs_jcallVR [.int (vs_I (S1 2 d))] hC hW hJ 0 rfl rfl vk_J4_append_cf468 vm_X3_230 (c_appC l g jd b q1 0 (0, 16, fun _ => 0) (vs_W3 g a r q S1 ++ wr) (S1 2 d) k0 hz) rfl hl.1 rfl ⟨rfl, rfl⟩ ⟨Nat.le_of_ble_eq_true rfl, Nat.le_of_ble_eq_true rfl⟩ ⟨show _ ≤ 420 by first | omega | (dsimp only; omega), show _ ≤ 1100 by first | omega | (dsimp only; omega)⟩ (Nat.le_of_ble_eq_true rfl) dX3_writeDisk_25 (fun q2 H locs hw hW => ?_)
  rw [← e0] at hW
  refine vs_pop hC dX3_writeDisk_28 rfl ?_
  refine vs_bipush hC dX3_writeDisk_29 (by decide +kernel) ?_
  refine vs_iload_n hC hl 1 dX3_writeDisk_31 rfl rfl ?_
  refine vs_imul hC dX3_writeDisk_32 ?_
  refine vs_istore_n (L' := [(0, .ref (a 0)), (1, .int (vs_I d)), (2, .ref b), (3, .int (vs_I (32 * d)))]) hC hl [1, 2, 3, 0] dX3_writeDisk_33 rfl (by decide) rfl (fun ls hl => ?_)
  obtain ⟨N, hN⟩ : ∃ N : Nat, S1 1 d = (N : Int) := ⟨(S1 1 d).toNat, by omega⟩
  have hfw : ∀ j : Nat, j ≤ 32 → vs_tk (vs_fw (S1 3) (S1 5) (32 * d) j T0) ∧ (vs_fw (S1 3) (S1 5) (32 * d) j T0).1 ≤ 1 + 6 * j ∧ T0.2.1 ≤ (vs_fw (S1 3) (S1 5) (32 * d) j T0).2.1 := fun j hj => vs_fw_k kT0 nT0 j hj (fun i hi => hok i (by omega))
  refine vs_loopC (V := Nat × Nat) (J := fun v c1 s1 => v.1 ≤ N ∧ c1 + 16 ≤ 2 + (vs_fw (S1 3) (S1 5) (32 * d) v.1 T0).2.1 ∧ s1 + 32 ≤ 20 + 2 * (vs_fw (S1 3) (S1 5) (32 * d) v.1 T0).2.1) (μ := fun v => N - v.1) (fun v => vs_tT g b v.2 0 (vs_fw (S1 3) (S1 5) (32 * d) v.1 T0) ++ (vs_W3 g a r q S1 ++ wr)) (fun v => [(0, .ref (a 0)), (1, .int (vs_I d)), (2, .ref b), (3, .int (vs_I (32 * d + (v.1 : Int))))]) (fun v c1 s1 hJv ih H locs ls hW hl => ?_) (0, q2) ⟨Nat.zero_le _, ?_, ?_⟩ hW (lv_sub hl [0, 1, 2, 3] (by rw [show 32 * d + (((0 : Nat), q2).1 : Int) = 32 * d from by show 32 * d + ((0 : Nat) : Int) = _; omega]; rfl))
  · obtain ⟨j, q3⟩ := v
    obtain ⟨hj, hc1, hs1⟩ := hJv
    have hj : j ≤ N := hj
    have hc1 : c1 + 16 ≤ 2 + (vs_fw (S1 3) (S1 5) (32 * d) j T0).2.1 := hc1
    have hs1 : s1 + 32 ≤ 20 + 2 * (vs_fw (S1 3) (S1 5) (32 * d) j T0).2.1 := hs1
    have hW : vs_Wd g A s.heap (vs_tT g b q3 0 (vs_fw (S1 3) (S1 5) (32 * d) j T0) ++ (vs_W3 g a r q S1 ++ wr)) H locs s := hW
    have hl : lv_has ls 4 [(0, .ref (a 0)), (1, .int (vs_I d)), (2, .ref b), (3, .int (vs_I (32 * d + (j : Int))))] := hl
    obtain ⟨kj, nj, rj⟩ := hfw j (by omega)
    have hcj := kj.2.1
    refine vs_iload_n hC hl 3 dX3_writeDisk_34 rfl rfl ?_
    refine vs_bipush hC dX3_writeDisk_35 (by decide +kernel) ?_
    refine vs_iload_n hC hl 1 dX3_writeDisk_37 rfl rfl ?_
    refine vs_imul hC dX3_writeDisk_38 ?_
    refine vs_aload_n hC hl 0 dX3_writeDisk_39 rfl rfl ?_
    refine vs_get hC hW 2 rfl rfl vs_inX3 1 (by decide) vf_X3_9 rfl dX3_writeDisk_40 ?_
    refine vs_iload_n hC hl 1 dX3_writeDisk_43 rfl rfl ?_
    refine vs_iald hC hW 3 rfl (by decide) (by omega) dX3_writeDisk_44 ?_
    refine vs_iadd hC dX3_writeDisk_45 ?_
    refine vs_icmp_ge hC 119 ⟨by omega, by omega⟩ ⟨by omega, by omega⟩ dX3_writeDisk_46 (by decide) (fun hc => ?_) (fun hc => ?_)
    · have ej : j = N := by omega
      subst ej
      have ew : vs_wl (S1 2 d) (S1 1 d) (S1 3) (S1 5) (32 * d) (0, 16, fun _ => 0) = (vs_fw (S1 3) (S1 5) (32 * d) j T0) := by unfold vs_wl; rw [hN, Int.toNat_natCast, e0]
      rw [ew] at hpost
      obtain ⟨TF, eF⟩ : ∃ y : vs_TT, y = (vs_fw (S1 3) (S1 5) (32 * d) j T0) := ⟨_, rfl⟩
      rw [← eF] at hpost hW kj nj hc1 hs1 hcj
      obtain ⟨⟨hF0, hF1⟩, hF2, hF3⟩ := id kj
      obtain ⟨M, hM⟩ : ∃ M : Nat, TF.1 = (M : Int) := ⟨TF.1.toNat, by omega⟩
      have hW : vs_Wd g A s.heap (vs_tB g b q3 0 (M : Int) TF.2.1 TF.2.2 ++ (vs_W3 g a r q S1 ++ wr)) H locs s := by rw [← hM]; exact hW
      refine vs_aload_n hC hl 0 dX3_writeDisk_119 rfl rfl ?_
      refine vs_aload_n hC hl 2 dX3_writeDisk_120 rfl rfl ?_
      refine vs_jcallVR [] hC hW hJ 0 rfl rfl vk_J4_toString_0e30d vm_X3_237 (c_J4_toString_0e30d l g jd b q3 TF.2.1 M 0 TF.2.2 (vs_W3 g a r q S1 ++ wr) 2 (M + 4) hF3 ⟨by omega, by omega⟩ ⟨Nat.le_refl _, Nat.le_refl _⟩) rfl hl.1 rfl ⟨rfl, rfl⟩ ⟨Nat.le_of_ble_eq_true rfl, Nat.le_of_ble_eq_true rfl⟩ ⟨show _ ≤ 420 by first | omega | (dsimp only; omega), show _ ≤ 1100 by first | omega | (dsimp only; omega)⟩ (Nat.le_of_ble_eq_true rfl) dX3_writeDisk_121 (fun u H locs hw hW => ?_)
      have hW := vs_Wd.sub (w1 := vs_tB g b q3 0 (M : Int) TF.2.1 TF.2.2) (w2 := vs_tS g u.1 u.2.1 M u.2.2 (.int (vs_I 0), .int (vs_I 0)) ++ (vs_W3 g a r q S1 ++ wr)) hW
      have hW := vs_Wd.perm2 hW (List.perm_append_comm_assoc (vs_tS g u.1 u.2.1 M u.2.2 (.int (vs_I 0), .int (vs_I 0))) (vs_W3 g a r q S1) wr)
      refine vs_putG (Wo' := vs_W3 g (vs_a32 a u.1) r q S1 ++ (vs_tS g u.1 u.2.1 M u.2.2 (.int (vs_I 0), .int (vs_I 0)) ++ wr)) hC hW 0 rfl rfl vs_inX3 tyX3_ok nmX3 32 (by decide) vf_X3_92 rfl rfl rfl (Nat.le_of_ble_eq_true rfl) rfl dX3_writeDisk_124 (fun H locs hW => ?_)
      refine vs_aload_n hC hl 0 dX3_writeDisk_127 rfl rfl ?_
      refine vs_get hC hW 0 (a := a 0) rfl rfl vs_inX3 32 (by decide) vf_X3_92 (v := .ref u.1) rfl dX3_writeDisk_128 ?_
      have hW := vs_Wd.perm2 hW (List.perm_append_comm_assoc (vs_W3 g (vs_a32 a u.1) r q S1) (vs_tS g u.1 u.2.1 M u.2.2 (.int (vs_I 0), .int (vs_I 0))) wr)
      refine vs_jcallVI [] hC hW hJ 0 rfl rfl vk_J0_length_8abf5 vm_X3_241 (c_J0_length_8abf5 l g jd u.1 u.2.1 M u.2.2 (.int (vs_I 0), .int (vs_I 0)) (vs_W3 g (vs_a32 a u.1) r q S1 ++ wr)) rfl hl.1 rfl ⟨rfl, rfl⟩ ⟨Nat.le_of_ble_eq_true rfl, Nat.le_of_ble_eq_true rfl⟩ ⟨show _ ≤ 420 by first | omega | (dsimp only; omega), show _ ≤ 1100 by first | omega | (dsimp only; omega)⟩ (Nat.le_of_ble_eq_true rfl) dX3_writeDisk_131 (fun v1 _ H locs hv hW => ?_)
      have hW := vs_Wd.perm2 hW (List.perm_append_comm_assoc (vs_tS g u.1 u.2.1 M u.2.2 (.int (vs_I 0), .int (vs_I 0))) (vs_W3 g (vs_a32 a u.1) r q S1) wr)
      rw [hv]
      exact vs_iret (S1, some (u.1, u.2.1, M, u.2.2, TF)) hC hr hlk hW rfl ⟨⟨hM.symm, (by omega : M ≤ 193), hw⟩, by rw [← hM]; exact hpost⟩ (show _ ≤ 420 by first | omega | (dsimp only; omega)) (show _ ≤ 1100 by first | omega | (dsimp only; omega)) dX3_writeDisk_134
    · have hok1 := hok j (by omega)
      refine vs_aload_n hC hl 0 dX3_writeDisk_49 rfl rfl ?_
      refine vs_get hC hW 2 rfl rfl vs_inX3 3 (by decide) vf_X3_17 rfl dX3_writeDisk_50 ?_
      refine vs_iload_n hC hl 3 dX3_writeDisk_53 rfl rfl ?_
      refine vs_iald hC hW 5 rfl (by decide) (by omega) dX3_writeDisk_54 ?_
      refine vs_if_ge hC 61 ?_ dX3_writeDisk_55 (by decide) (fun hc => ?_) (fun hc => ?_)
      · have := hok1.1; exact ⟨by omega, by omega⟩
      · obtain ⟨kc, nc, rc⟩ := vs_cp_k kj (by omega) (v := S1 3 (32 * d + (j : Int))) (r := S1 5 (32 * d + (j : Int))) (by have := hok1.1; omega) hok1.2
        have hcc := kc.2.1
        obtain ⟨v, hv⟩ : ∃ z, z = S1 3 (32 * d + (j : Int)) := ⟨_, rfl⟩
        have hv1 : 0 ≤ v ∧ v < 1000 := by have := hok1.1; omega
        obtain ⟨T, hT⟩ : ∃ z : vs_TT, z = (vs_fw (S1 3) (S1 5) (32 * d) j T0) := ⟨_, rfl⟩
        rw [← hT] at hW kj nj rj kc nc rc hcc hc1 hs1 hcj
        rw [← hv] at kc nc rc hcc
        have kT := kj
        obtain ⟨T1, eT1⟩ : ∃ z, z = vs_aC 32 T := ⟨_, rfl⟩
        have kT1 : vs_tk T1 := by rw [eT1]; exact vs_aC_k kT (by omega) (by omega)
        have nT1 : T1.1 = T.1 + 1 := by rw [eT1]; rfl
        have rT1 : vs_rc T 1 + T.2.1 ≤ T1.2.1 ∧ vs_rs T 1 + 2 * T.2.1 ≤ 2 * T1.2.1 ∧ T.2.1 ≤ T1.2.1 := by rw [eT1]; exact vs_rcs (T := T) 1
        obtain ⟨T2, eT2⟩ : ∃ z, z = vs_aI (v / 100) T1 := ⟨_, rfl⟩
        have dT2 := vs_dg12 (v / 100)
        have kT2 : vs_tk T2 := by rw [eT2]; exact vs_aI_k kT1 (by omega) (by omega)
        have nT2 : T2.1 = T1.1 + (vs_dg (v / 100)) := by rw [eT2]; rfl
        have rT2 : vs_rc T1 (vs_dg (v / 100)) + T1.2.1 ≤ T2.2.1 ∧ vs_rs T1 (vs_dg (v / 100)) + 2 * T1.2.1 ≤ 2 * T2.2.1 ∧ T1.2.1 ≤ T2.2.1 := by rw [eT2]; exact vs_rcs (T := T1) (vs_dg (v / 100))
        obtain ⟨T3, eT3⟩ : ∃ z, z = vs_aC 46 T2 := ⟨_, rfl⟩
        have kT3 : vs_tk T3 := by rw [eT3]; exact vs_aC_k kT2 (by omega) (by omega)
        have nT3 : T3.1 = T2.1 + 1 := by rw [eT3]; rfl
        have rT3 : vs_rc T2 1 + T2.2.1 ≤ T3.2.1 ∧ vs_rs T2 1 + 2 * T2.2.1 ≤ 2 * T3.2.1 ∧ T2.2.1 ≤ T3.2.1 := by rw [eT3]; exact vs_rcs (T := T2) 1
        obtain ⟨T4, eT4⟩ : ∃ z, z = vs_aI (v % 100) T3 := ⟨_, rfl⟩
        have dT4 := vs_dg12 (v % 100)
        have kT4 : vs_tk T4 := by rw [eT4]; exact vs_aI_k kT3 (by omega) (by omega)
        have nT4 : T4.1 = T3.1 + (vs_dg (v % 100)) := by rw [eT4]; rfl
        have rT4 : vs_rc T3 (vs_dg (v % 100)) + T3.2.1 ≤ T4.2.1 ∧ vs_rs T3 (vs_dg (v % 100)) + 2 * T3.2.1 ≤ 2 * T4.2.1 ∧ T3.2.1 ≤ T4.2.1 := by rw [eT4]; exact vs_rcs (T := T3) (vs_dg (v % 100))
        have ez : T4 = vs_c4 v T := by rw [eT4, eT3, eT2, eT1]; rfl
        have hmz : T4.2.1 ≤ (vs_cp v (S1 5 (32 * d + (j : Int))) T).2.1 := by unfold vs_cp; rw [ez]; split <;> first | exact Nat.le_refl _ | exact (vs_rcs (T := vs_c4 v T) 1).2.2
        refine vs_aload_n hC hl 2 dX3_writeDisk_61 rfl rfl ?_
        refine vs_bipush hC dX3_writeDisk_62 (by decide +kernel) ?_
        refine vs_jcallVR [.int (vs_I 32)] hC hW hJ 0 rfl rfl vk_J4_append_cf468 vm_X3_230 (c_appC l g jd b q3 0 T (vs_W3 g a r q S1 ++ wr) 32 kT (by omega)) rfl hl.1 rfl ⟨rfl, rfl⟩ ⟨Nat.le_of_ble_eq_true rfl, Nat.le_of_ble_eq_true rfl⟩ ⟨show _ ≤ 420 by first | omega | (dsimp only; omega), show _ ≤ 1100 by first | omega | (dsimp only; omega)⟩ (Nat.le_of_ble_eq_true rfl) dX3_writeDisk_64 (fun qT1 H locs hw hW => ?_)
        rw [← eT1] at hW
        refine vs_aload_n hC hl 0 dX3_writeDisk_67 rfl rfl ?_
        refine vs_get hC hW 2 rfl rfl vs_inX3 3 (by decide) vf_X3_17 rfl dX3_writeDisk_68 ?_
        refine vs_iload_n hC hl 3 dX3_writeDisk_71 rfl rfl ?_
        refine vs_iald hC hW 5 rfl (by decide) (by omega) dX3_writeDisk_72 ?_
        refine vs_bipush hC dX3_writeDisk_73 (by decide +kernel) ?_
        rw [← hv]
        refine vs_idiv hC dX3_writeDisk_75 ⟨by omega, by omega, by decide, by decide⟩ ?_
        refine vs_jcallVR [.int (vs_I (v / 100))] hC hW hJ 0 rfl rfl vk_J4_append_bf812 vm_X3_234 (c_appI l g jd b qT1 0 T1 (vs_W3 g a r q S1 ++ wr) (v / 100) kT1 (by omega)) rfl hl.1 rfl ⟨rfl, rfl⟩ ⟨Nat.le_of_ble_eq_true rfl, Nat.le_of_ble_eq_true rfl⟩ ⟨show _ ≤ 420 by first | omega | (dsimp only; omega), show _ ≤ 1100 by first | omega | (dsimp only; omega)⟩ (Nat.le_of_ble_eq_true rfl) dX3_writeDisk_76 (fun qT2 H locs hw hW => ?_)
        rw [← eT2] at hW
        refine vs_bipush hC dX3_writeDisk_79 (by decide +kernel) ?_
        refine vs_jcallVR [.int (vs_I 46)] hC hW hJ 0 rfl rfl vk_J4_append_cf468 vm_X3_230 (c_appC l g jd b qT2 0 T2 (vs_W3 g a r q S1 ++ wr) 46 kT2 (by omega)) rfl hl.1 rfl ⟨rfl, rfl⟩ ⟨Nat.le_of_ble_eq_true rfl, Nat.le_of_ble_eq_true rfl⟩ ⟨show _ ≤ 420 by first | omega | (dsimp only; omega), show _ ≤ 1100 by first | omega | (dsimp only; omega)⟩ (Nat.le_of_ble_eq_true rfl) dX3_writeDisk_81 (fun qT3 H locs hw hW => ?_)
        rw [← eT3] at hW
        refine vs_aload_n hC hl 0 dX3_writeDisk_84 rfl rfl ?_
        refine vs_get hC hW 2 rfl rfl vs_inX3 3 (by decide) vf_X3_17 rfl dX3_writeDisk_85 ?_
        refine vs_iload_n hC hl 3 dX3_writeDisk_88 rfl rfl ?_
        refine vs_iald hC hW 5 rfl (by decide) (by omega) dX3_writeDisk_89 ?_
        refine vs_bipush hC dX3_writeDisk_90 (by decide +kernel) ?_
        rw [← hv]
        refine vs_irem hC dX3_writeDisk_92 ⟨by omega, by omega, by decide, by decide⟩ ?_
        refine vs_jcallVR [.int (vs_I (v % 100))] hC hW hJ 0 rfl rfl vk_J4_append_bf812 vm_X3_234 (c_appI l g jd b qT3 0 T3 (vs_W3 g a r q S1 ++ wr) (v % 100) kT3 (by omega)) rfl hl.1 rfl ⟨rfl, rfl⟩ ⟨Nat.le_of_ble_eq_true rfl, Nat.le_of_ble_eq_true rfl⟩ ⟨show _ ≤ 420 by first | omega | (dsimp only; omega), show _ ≤ 1100 by first | omega | (dsimp only; omega)⟩ (Nat.le_of_ble_eq_true rfl) dX3_writeDisk_93 (fun qT4 H locs hw hW => ?_)
        rw [← eT4] at hW
        refine vs_pop hC dX3_writeDisk_96 rfl ?_
        refine vs_aload_n hC hl 0 dX3_writeDisk_97 rfl rfl ?_
        refine vs_get hC hW 2 rfl rfl vs_inX3 5 (by decide) vf_X3_23 rfl dX3_writeDisk_98 ?_
        refine vs_iload_n hC hl 3 dX3_writeDisk_101 rfl rfl ?_
        refine vs_zald hC hW 7 rfl (by decide) (by omega) dX3_writeDisk_102 ?_
        refine vs_if_eq hC 113 ?_ dX3_writeDisk_103 (by decide) (fun hc9 => ?_) (fun hc9 => ?_)
        · have := hok1.2; exact ⟨by omega, by omega⟩
        · refine vs_iinc (L' := [(0, .ref (a 0)), (1, .int (vs_I d)), (2, .ref b), (3, .int (vs_I (32 * d + (j : Int) + 1)))]) hC hl 3 [1, 2, 3, 0] dX3_writeDisk_113 rfl (by decide) rfl (fun ls hl => ?_)
          refine vs_goto hC 34 dX3_writeDisk_116 (by decide) ?_
          have ef : (vs_fw (S1 3) (S1 5) (32 * d) (j + 1) T0) = T4 := by show (if _ then _ else _) = _; rw [if_neg (by omega)]; unfold vs_cp; rw [if_pos hc9, ez, hv, hT]
          refine ih (j + 1, qT4) _ _ ⟨⟨by show j + 1 ≤ N; omega, ?_, ?_⟩, by show N - (j + 1) < N - j; omega⟩ _ _ _ ?_ (by rw [show 32 * d + (((j + 1, qT4) : Nat × Nat).1 : Int) = 32 * d + (j : Int) + 1 from by show 32 * d + ((j + 1 : Nat) : Int) = _; omega]; exact hl)
          · show _ + 16 ≤ 2 + (vs_fw (S1 3) (S1 5) (32 * d) (j + 1) T0).2.1; rw [ef]; first | omega | (dsimp only; omega)
          · show _ + 32 ≤ 20 + 2 * (vs_fw (S1 3) (S1 5) (32 * d) (j + 1) T0).2.1; rw [ef]; first | omega | (dsimp only; omega)
          · show vs_Wd g A s.heap (vs_tT g b qT4 0 (vs_fw (S1 3) (S1 5) (32 * d) (j + 1) T0) ++ (vs_W3 g a r q S1 ++ wr)) _ _ s; rw [ef]; exact hW
        · obtain ⟨T5, eT5⟩ : ∃ z, z = vs_aC 33 T4 := ⟨_, rfl⟩
          have kT5 : vs_tk T5 := by rw [eT5]; exact vs_aC_k kT4 (by omega) (by omega)
          have nT5 : T5.1 = T4.1 + 1 := by rw [eT5]; rfl
          have rT5 : vs_rc T4 1 + T4.2.1 ≤ T5.2.1 ∧ vs_rs T4 1 + 2 * T4.2.1 ≤ 2 * T5.2.1 ∧ T4.2.1 ≤ T5.2.1 := by rw [eT5]; exact vs_rcs (T := T4) 1
          have h5 : T5.2.1 ≤ (vs_cp v (S1 5 (32 * d + (j : Int))) T).2.1 := by unfold vs_cp; rw [if_neg hc9, ← ez, ← eT5]; exact Nat.le_refl _
          refine vs_aload_n hC hl 2 dX3_writeDisk_106 rfl rfl ?_
          refine vs_bipush hC dX3_writeDisk_107 (by decide +kernel) ?_
          refine vs_jcallVR [.int (vs_I 33)] hC hW hJ 0 rfl rfl vk_J4_append_cf468 vm_X3_230 (c_appC l g jd b qT4 0 T4 (vs_W3 g a r q S1 ++ wr) 33 kT4 (by omega)) rfl hl.1 rfl ⟨rfl, rfl⟩ ⟨Nat.le_of_ble_eq_true rfl, Nat.le_of_ble_eq_true rfl⟩ ⟨show _ ≤ 420 by first | omega | (dsimp only; omega), show _ ≤ 1100 by first | omega | (dsimp only; omega)⟩ (Nat.le_of_ble_eq_true rfl) dX3_writeDisk_109 (fun qT5 H locs hw hW => ?_)
          rw [← eT5] at hW
          refine vs_pop hC dX3_writeDisk_112 rfl ?_
          refine vs_iinc (L' := [(0, .ref (a 0)), (1, .int (vs_I d)), (2, .ref b), (3, .int (vs_I (32 * d + (j : Int) + 1)))]) hC hl 3 [1, 2, 3, 0] dX3_writeDisk_113 rfl (by decide) rfl (fun ls hl => ?_)
          refine vs_goto hC 34 dX3_writeDisk_116 (by decide) ?_
          have ef : (vs_fw (S1 3) (S1 5) (32 * d) (j + 1) T0) = T5 := by show (if _ then _ else _) = _; rw [if_neg (by omega)]; unfold vs_cp; rw [if_neg hc9, eT5, ez, hv, hT]
          refine ih (j + 1, qT5) _ _ ⟨⟨by show j + 1 ≤ N; omega, ?_, ?_⟩, by show N - (j + 1) < N - j; omega⟩ _ _ _ ?_ (by rw [show 32 * d + (((j + 1, qT5) : Nat × Nat).1 : Int) = 32 * d + (j : Int) + 1 from by show 32 * d + ((j + 1 : Nat) : Int) = _; omega]; exact hl)
          · show _ + 16 ≤ 2 + (vs_fw (S1 3) (S1 5) (32 * d) (j + 1) T0).2.1; rw [ef]; first | omega | (dsimp only; omega)
          · show _ + 32 ≤ 20 + 2 * (vs_fw (S1 3) (S1 5) (32 * d) (j + 1) T0).2.1; rw [ef]; first | omega | (dsimp only; omega)
          · show vs_Wd g A s.heap (vs_tT g b qT5 0 (vs_fw (S1 3) (S1 5) (32 * d) (j + 1) T0) ++ (vs_W3 g a r q S1 ++ wr)) _ _ s; rw [ef]; exact hW
      · refine vs_goto hC 113 dX3_writeDisk_58 (by decide) ?_
        refine vs_iinc (L' := [(0, .ref (a 0)), (1, .int (vs_I d)), (2, .ref b), (3, .int (vs_I (32 * d + (j : Int) + 1)))]) hC hl 3 [1, 2, 3, 0] dX3_writeDisk_113 rfl (by decide) rfl (fun ls hl => ?_)
        refine vs_goto hC 34 dX3_writeDisk_116 (by decide) ?_
        have ef : (vs_fw (S1 3) (S1 5) (32 * d) (j + 1) T0) = (vs_fw (S1 3) (S1 5) (32 * d) j T0) := if_pos (by have := hok1.1; omega)
        refine ih (j + 1, q3) _ _ ⟨⟨by show j + 1 ≤ N; omega, ?_, ?_⟩, by show N - (j + 1) < N - j; omega⟩ _ _ _ ?_ (by rw [show 32 * d + (((j + 1, q3) : Nat × Nat).1 : Int) = 32 * d + (j : Int) + 1 from by show 32 * d + ((j + 1 : Nat) : Int) = _; omega]; exact hl)
        · show _ + 16 ≤ 2 + (vs_fw (S1 3) (S1 5) (32 * d) (j + 1) T0).2.1; rw [ef]; first | omega | (dsimp only; omega)
        · show _ + 32 ≤ 20 + 2 * (vs_fw (S1 3) (S1 5) (32 * d) (j + 1) T0).2.1; rw [ef]; first | omega | (dsimp only; omega)
        · show vs_Wd g A s.heap (vs_tT g b q3 0 (vs_fw (S1 3) (S1 5) (32 * d) (j + 1) T0) ++ (vs_W3 g a r q S1 ++ wr)) _ _ s; rw [ef]; exact hW
  · show _ + 16 ≤ 2 + T0.2.1; first | omega | (dsimp only; omega)
  · show _ + 32 ≤ 20 + 2 * T0.2.1; first | omega | (dsimp only; omega)
