/-! methods that may throw: contracts and rows -/
def vs_Xs (g : vs_G) (sd : Nat → Nat) (A : Nat → Prop) (U : State) (H : Heap) : Prop :=
  (∀ q ∈ vs_cst, va_Nw (Cond.castable q.1 q.2) U) ∧ (∀ y ∈ vs_dcl, va_Nw (Cond.declares y) U) ∧ (∀ (i : Nat) (q : String × Nat × String), vs_str[i]? = some q → vk_R q.1 q.2.1 q.2.2 (sd i) U) ∧ (∀ q ∈ vs_ncs, va_Nc q.1 q.2 U) ∧
  vx_Zq Bundle.tN "UNASSIGNED_STACK" Bundle.steD A U H ∧ vx_Zq Bundle.tN "SUPPRESSED_SENTINEL" Bundle.listD A U H ∧ vs_Js g (vs_jd sd) A U H
theorem vs_Xs.same {g : vs_G} {sd : Nat → Nat} {A : Nat → Prop} {u U : State} {H : Heap} (hv : u.vm = U.vm) (h : vs_Xs g sd A u H) : vs_Xs g sd A U H :=
  ⟨fun q hq => va_Nw.same rfl hv (h.1 q hq), fun q hq => va_Nw.same rfl hv (h.2.1 q hq), fun i q hq => vk_R.same hv.symm (h.2.2.1 i q hq), fun q hq => va_Nc.moved (by rw [hv]; exact Vm.Alike.refl U.vm) (h.2.2.2.1 q hq),
    vx_Zq.moved (by rw [hv]; exact Vm.Alike.refl U.vm) h.2.2.2.2.1, vx_Zq.moved (by rw [hv]; exact Vm.Alike.refl U.vm) h.2.2.2.2.2.1, h.2.2.2.2.2.2.same hv⟩
theorem vs_Xs.hand {g : vs_G} {sd : Nat → Nat} {A B : Nat → Prop} {s U : State} {H0 H : Heap} (hW : s.WarmedH U.vm) (hk : ∀ a : Nat, a < H0.size → ¬ A a → H[a]? = H0[a]?) (hAB : ∀ q, B q → A q) (h : vs_Xs g sd A s H0) : vs_Xs g sd B U H :=
  ⟨fun q hq => va_Nw.warmC hW (h.1 q hq), fun q hq => va_Nw.warmD hW (h.2.1 q hq), fun i q hq => vk_R.warm hW (h.2.2.1 i q hq), fun q hq => va_Nc.moved hW.alike (h.2.2.2.1 q hq),
    vx_Zq.moved hW.alike ((h.2.2.2.2.1.kept hk).narrow hAB), vx_Zq.moved hW.alike ((h.2.2.2.2.2.1.kept hk).narrow hAB), h.2.2.2.2.2.2.hand hW hk hAB⟩
def vs_PreX (g : vs_G) (sd : Nat → Nat) (as : List Value) (sz : Nat) (Wo : va_W) : Array Value → State → Prop := va_Pc as (fun U => U.heap.size = sz ∧ va_P g.1 vwCl Wo U.heap ∧ vs_K g U ∧ va_D (fun _ => True) Wo ∧ vs_Xs g sd (va_A Wo sz) U U.heap)
theorem vs_blindX {g : vs_G} {sd : Nat → Nat} {as : List Value} {sz : Nat} {Wo : va_W} : FrameBlind (vs_PreX g sd as sz Wo) :=
  fun a U g' mk h => ⟨h.1, h.2.1, h.2.2.1, vs_K.same (u := U) (U := U.calling g' mk a) rfl h.2.2.2.1, h.2.2.2.2.1, vs_Xs.same (u := U) (U := U.calling g' mk a) rfl h.2.2.2.2.2⟩
def vs_QX (g : vs_G) (A : Nat → Prop) (Wo : va_W) (px : Nat → Prop) : String → State → State → Prop := vx_X (S := Nat) px (fun E n t => E = vs_E n ∧ vs_B g A Wo t) A
def vs_XI (l : Launch) (y : MethodName) (ws : List Cond) (rm : Room) (g : vs_G) (sd : Nat → Nat) (as : List Value) (Wo : va_W) {U : Type} (mk : U → va_W) (post : Int → U → Prop) (px : Nat → Prop) (mc ms : Nat) : Prop :=
  ∀ sz : Nat, vx_Met l y ws rm (vs_PreX g sd as sz Wo) (vs_QI g (va_A Wo sz) mk post) (vs_QX g (va_A Wo sz) Wo px) mc ms (va_A Wo sz)
def vs_XV (l : Launch) (y : MethodName) (ws : List Cond) (rm : Room) (g : vs_G) (sd : Nat → Nat) (as : List Value) (Wo : va_W) {U : Type} (mk : U → va_W) (post : U → Prop) (px : Nat → Prop) (mc ms : Nat) : Prop :=
  ∀ sz : Nat, vx_Met l y ws rm (vs_PreX g sd as sz Wo) (vs_QV g (va_A Wo sz) mk post) (vs_QX g (va_A Wo sz) Wo px) mc ms (va_A Wo sz)
theorem vs_ofX {l : Launch} {y : MethodName} {cc : ByteArray} {maxL : Nat} {ret : Option FieldType} {rm : Room} {g : vs_G} {sd : Nat → Nat} {as : List Value} {Wo : va_W} {Qc : (Nat → Prop) → Array Value → State → Outcome → State → Prop} {XC : (Nat → Prop) → String → State → State → Prop} {mc ms : Nat}
    (hy : plainName y.cls = true) (hlen : (lg_sl as).length ≤ maxL)
    (body : ∀ (p : Program) (e : Env) (s : State) (m : MethodId) (below : List Frame) (meth : Method) (c : Code) (A : Nat → Prop) (ls : Array Slot), CallFix p m c cc maxL s as.toArray vs_ws y.cls → meth.sig.returnType = ret → meth.locks = false → (∀ x ∈ c.exceptionTable.toList, False) →
      vs_Wd g A s.heap Wo s.heap [] s → vs_Xs g sd A s s.heap → lv_has ls maxL (lv_args 0 as) →
      W p l e rm s m as.toArray below meth c s.heap [] 0 0 (vx_MQ below (Qc A) (XC A) as.toArray s mc ms A) (F0 m 0 ls [])) :
    ∀ sz : Nat, vx_Met l y (Cond.code y cc maxL ret :: vs_ws) rm (vs_PreX g sd as sz Wo) (Qc (va_A Wo sz)) (XC (va_A Wo sz)) mc ms (va_A Wo sz) := by
  intro sz
  refine vx_ofW (cc := cc) (maxL := maxL) (ret := ret) hy rfl ?_
  intro p e s m args below meth c s₁ B hml ht hv
  obtain ⟨rfl, hsz, hP, hK, hD0, hX⟩ := hv
  subst hsz
  have hts := atoms_spec (ws := Cond.code y cc maxL ret :: vs_ws) B.pre
  rw [lg_entry_eq]
  exact body p e s m below meth c (va_A Wo s.heap.size) _ ⟨B.exec, B.bytes, hml, findClass_of_methodNamed B.named, fun w hw => hts w (List.mem_cons_of_mem _ hw)⟩ B.returns B.notSynchronized ht
    ⟨hK, hP, hD0.self, va_S.rf, fun q h => Or.inr h⟩ hX (lv_entry as hlen)
section VSX
variable {p : Program} {l : Launch} {e : Env} {R : Room} {s : State} {m : MethodId} {args : Array Value} {below : List Frame} {meth : Method} {c : Code} {H : Heap} {locs : List Loc} {cells slots : Nat} {Q : State → Prop}
variable {cc : ByteArray} {pc nL : Nat} {ls : Array Slot} {rest : List Value} {own : String} {g : vs_G} {sd : Nat → Nat} {A : Nat → Prop} {Wo : va_W} {a : Nat}
/-- 'throw new E("text")' -/
theorem vs_throw {Qc : Array Value → State → Outcome → State → Prop} {px : Nat → Prop} {mc ms ik ic ix isx : Nat} {rx : ByteArray} {text : String} (n i : Nat) (hC : CallFix p m c cc nL s args vs_ws RX2) (hst : l.stackTraces = false) (hlk : meth.locks = false) (ht : ∀ x ∈ c.exceptionTable.toList, False) (hW : vs_Wd g A s.heap Wo H locs s) (hX : vs_Xs g sd A s s.heap) (hx : vs_ex n ik ic ix rx) (hi : vs_str[i]? = some (RX2, isx, text)) (hls : ls.size = nL) (hpx : px n)
    (d0 : decode cc pc = .ok (.new ik, 3)) (d3 : decode cc (pc + 3) = .ok (.dup, 1)) (d4 : decode cc (pc + 4) = .ok (.ldc isx, 2)) (d6 : decode cc (pc + 6) = .ok (.invokespecial ic, 3)) (d9 : decode cc (pc + 9) = .ok (.athrow, 1))
    (h1 : 5 < R.frames) (h2 : (rest.map fun v => v.category).sum + 82 ≤ R.locals) (h3 : cells + 1 ≤ R.cells) (h4 : slots + 6 ≤ R.slots) (h5 : cells + 1 ≤ mc) (h6 : slots + 6 ≤ ms) :
    W p l e R s m args below meth c H locs cells slots (vx_MQ below Qc (vs_QX g A Wo px) args s mc ms A) (F0 m pc ls rest) := by
  obtain ⟨⟨x0, x1, x2, x5⟩, hf, hk, hini, hat, hsp, hgood⟩ := hx
  refine vs_throwSX (names := vs_names) (sa := sd i) (A := A) x0 x1 x2 x5 hC.1 hC.2.1 hst hC.2.2.2.1 hf (by decide +kernel) (hC.2.2.2.2 _ hk) (hC.2.2.2.2 _ hini) (hX.2.2.1 i _ hi) (fun w hw => ?_) hgood hX.2.2.2.2.1 hX.2.2.2.2.2.1 hW.2.2.2.1 (by rw [hls, hC.2.2.1]) d0 d3 d4 d6 d9 (fun x hx => (ht x hx).elim) h1 h2 h3 h4 hlk (fun t hal hsz hkp => ?_) hW.2.2.2.1.2.2 h5 h6
  · rcases hsp w hw with hg | ⟨q, hq, rfl⟩ | ⟨q, hq, rfl⟩
    · exact hC.2.2.2.2 w (List.mem_filter.mpr ⟨hat w hw, hg⟩)
    · exact va_Nw.use rfl (hX.1 q hq)
    · exact va_Nw.use rfl (hX.2.1 q hq)
  · refine ⟨n, hpx, ⟨rfl, hW.2.1.kept (fun k q hq => hkp _ ((hW.2.1 k q hq).lt)), hW.2.2.1⟩, Nat.le_trans hW.2.2.2.1.1 hsz, fun q h1 h2 => ?_⟩
    rw [hkp q (Nat.lt_of_lt_of_le h1 hW.2.2.2.1.1)]
    exact hW.2.2.2.1.2.1 q h1 h2
/-- 'throw new E("text")' -/
theorem vs_throwW {Qc : Array Value → State → Outcome → State → Prop} {px : Nat → Prop} {mc ms ik ic ix isx : Nat} {rx : ByteArray} {text : String} (n i : Nat) (hC : CallFix p m c cc nL s args vs_ws RX2) (hst : l.stackTraces = false) (hlk : meth.locks = false) (ht : ∀ x ∈ c.exceptionTable.toList, False) (hW : vs_Wd g A s.heap Wo H locs s) (hX : vs_Xs g sd A s s.heap) (hx : vs_ex n ik ic ix rx) (hi : vs_str[i]? = some (RX2, isx, text)) (hls : ls.size = nL) (hpx : px n)
    (d0 : decode cc pc = .ok (.new ik, 3)) (d3 : decode cc (pc + 3) = .ok (.dup, 1)) (d4 : decode cc (pc + 4) = .ok (.ldc_w isx, 3)) (d6 : decode cc (pc + 7) = .ok (.invokespecial ic, 3)) (d9 : decode cc (pc + 10) = .ok (.athrow, 1))
    (h1 : 5 < R.frames) (h2 : (rest.map fun v => v.category).sum + 82 ≤ R.locals) (h3 : cells + 1 ≤ R.cells) (h4 : slots + 6 ≤ R.slots) (h5 : cells + 1 ≤ mc) (h6 : slots + 6 ≤ ms) :
    W p l e R s m args below meth c H locs cells slots (vx_MQ below Qc (vs_QX g A Wo px) args s mc ms A) (F0 m pc ls rest) := by
  obtain ⟨⟨x0, x1, x2, x5⟩, hf, hk, hini, hat, hsp, hgood⟩ := hx
  refine vs_throwSXW (names := vs_names) (sa := sd i) (A := A) x0 x1 x2 x5 hC.1 hC.2.1 hst hC.2.2.2.1 hf (by decide +kernel) (hC.2.2.2.2 _ hk) (hC.2.2.2.2 _ hini) (hX.2.2.1 i _ hi) (fun w hw => ?_) hgood hX.2.2.2.2.1 hX.2.2.2.2.2.1 hW.2.2.2.1 (by rw [hls, hC.2.2.1]) d0 d3 d4 d6 d9 (fun x hx => (ht x hx).elim) h1 h2 h3 h4 hlk (fun t hal hsz hkp => ?_) hW.2.2.2.1.2.2 h5 h6
  · rcases hsp w hw with hg | ⟨q, hq, rfl⟩ | ⟨q, hq, rfl⟩
    · exact hC.2.2.2.2 w (List.mem_filter.mpr ⟨hat w hw, hg⟩)
    · exact va_Nw.use rfl (hX.1 q hq)
    · exact va_Nw.use rfl (hX.2.1 q hq)
  · refine ⟨n, hpx, ⟨rfl, hW.2.1.kept (fun k q hq => hkp _ ((hW.2.1 k q hq).lt)), hW.2.2.1⟩, Nat.le_trans hW.2.2.2.1.1 hsz, fun q h1 h2 => ?_⟩
    rw [hkp q (Nat.lt_of_lt_of_le h1 hW.2.2.2.1.1)]
    exact hW.2.2.2.1.2.1 q h1 h2
/-- not caught here -/
theorem vs_pass {Qc : Array Value → State → Outcome → State → Prop} {px : Nat → Prop} {mc ms n : Nat} {ce : Cell} {q9 : Addr} (hlk : meth.locks = false) (ht : ∀ x ∈ c.exceptionTable.toList, False) (hW : vs_Wd g A s.heap Wo H locs s) (hpx : px n) (hq : H[q9]? = some ce) (hv : ce.vm = .none) (hcl : s.vm.findClass (vs_E n) = some ce.cls) (h5 : cells ≤ mc) (h6 : slots ≤ ms) :
    vx_W p l e R s m args below meth c H locs cells slots (vx_MQ below Qc (vs_QX g A Wo px) args s mc ms A) (F0 m pc ls rest) q9 :=
  vx_out (fun x hx => (ht x hx).elim) hlk hq hv hcl (fun t hh _ => ⟨n, hpx, ⟨rfl, by rw [hh]; exact hW.2.1, hW.2.2.1⟩, hW.2.2.2.1.F hh⟩) hW.2.2.2.1.2.2 h5 h6
theorem vs_Wd.preX {as : List Value} (hW : vs_Wd g A s.heap Wo H locs s) (hX : vs_Xs g sd A s s.heap) : ∀ U : State, U.heap = H → s.WarmedH U.vm → vs_PreX g sd as H.size Wo as.toArray U :=
  fun U hU hw => ⟨rfl, by rw [hU], by rw [hU]; exact hW.2.1, hW.1.warm hw, hW.2.2.1.weaken (fun _ _ _ _ => trivial), by rw [hU]; exact hX.hand hw hW.2.2.2.1.2.1 hW.in⟩
theorem vs_xcallVI {U : Type} {mk : U → va_W} {post : Int → U → Prop} {pxc : Nat → Prop} {y : MethodName} {bytes : ByteArray} {maxL n mc ms index : Nat} {ret : Option FieldType} {rm : Room} (As : List Value) (hC : CallFix p m c cc nL s args vs_ws own) (hW : vs_Wd g A s.heap Wo H locs s) (hX : vs_Xs g sd A s s.heap) (q0 : Nat) {ci : Nat} {fs : List Value} {T : u_T} {N : Nat} (he : Wo[q0]? = some (a, .inr (ci, fs))) (hc : vwCl[ci]? = some (y.cls, T, N)) (hk : vs_lk y bytes maxL ret n) (hl : Cond.methodLink own index y ∈ vs_ws) (hM : vs_XI l y (Cond.code y bytes maxL ret :: vs_ws) rm g sd (.ref a :: As) Wo mk post pxc mc ms) (hn : As.length = n) (hlsz : ls.size = nL) {st0 : List Value} (hst : st0 = As.reverse ++ .ref a :: rest) (hrm : rm.cells = mc ∧ rm.slots = ms) (hR : rm.frames + 1 ≤ R.frames ∧ 8 + (maxL + 11) + rm.locals ≤ R.locals) (hcap : cells + mc ≤ R.cells ∧ slots + ms ≤ R.slots) (hstk : (rest.map fun v => v.category).sum ≤ 8) (hdg : decode cc pc = .ok (.invokevirtual index, 3))
    (ke : ∀ (k : Nat) (ce : Cell) (q9 : Addr) (H1 : Heap) (locs1 : List Loc), pxc k → vs_Wd g A s.heap Wo H1 locs1 s → H1[q9]? = some ce → ce.vm = .none → s.vm.findClass (vs_E k) = some ce.cls → vx_W p l e R s m args below meth c H1 locs1 (cells + mc) (slots + ms) Q (F0 m pc ls rest) q9)
    (kk : ∀ (v : Int) (u : U) (H1 : Heap) (locs1 : List Loc), post v u → vs_Wd g A s.heap (mk u) H1 locs1 s → W p l e R s m args below meth c H1 locs1 (cells + mc) (slots + ms) Q (F0 m (pc + 3) ls (.int (vs_I v) :: rest))) : W p l e R s m args below meth c H locs cells slots Q (F0 m pc ls st0) := by
  subst hst
  exact vx_calli (vx_runV (As := As) (rest := rest) hC (hM H.size) (vs_cw hC hk hl hrm.1 hrm.2 hR) ⟨vs_blindX, va_recv hW.1.1 hW.2.1 hc he, hW.preX hX⟩ rfl hn hlsz rfl (lv_room hstk) hdg hcap) hW.2.2.2.1 (fun q _ h => hW.in q h) hW.in (fun q _ h => hW.in q h) (fun E ce q9 k t H1 locs1 ht _ hp hb _ _ hS hq hv hcl => by
    obtain ⟨rfl, hb⟩ := hb
    exact ke k ce q9 H1 locs1 hp (hW.back ht hb hS) hq hv hcl) (fun r u t H1 locs1 ht _ hp hb _ _ hS => by
    obtain ⟨v, u⟩ := u
    obtain ⟨rfl, hp⟩ := hp
    exact kk v u H1 locs1 hp (hW.back ht hb hS))
theorem vs_xcallVV {U : Type} {mk : U → va_W} {post : U → Prop} {pxc : Nat → Prop} {y : MethodName} {bytes : ByteArray} {maxL n mc ms index : Nat} {ret : Option FieldType} {rm : Room} (As : List Value) (hC : CallFix p m c cc nL s args vs_ws own) (hW : vs_Wd g A s.heap Wo H locs s) (hX : vs_Xs g sd A s s.heap) (q0 : Nat) {ci : Nat} {fs : List Value} {T : u_T} {N : Nat} (he : Wo[q0]? = some (a, .inr (ci, fs))) (hc : vwCl[ci]? = some (y.cls, T, N)) (hk : vs_lk y bytes maxL ret n) (hl : Cond.methodLink own index y ∈ vs_ws) (hM : vs_XV l y (Cond.code y bytes maxL ret :: vs_ws) rm g sd (.ref a :: As) Wo mk post pxc mc ms) (hn : As.length = n) (hlsz : ls.size = nL) {st0 : List Value} (hst : st0 = As.reverse ++ .ref a :: rest) (hrm : rm.cells = mc ∧ rm.slots = ms) (hR : rm.frames + 1 ≤ R.frames ∧ 8 + (maxL + 11) + rm.locals ≤ R.locals) (hcap : cells + mc ≤ R.cells ∧ slots + ms ≤ R.slots) (hstk : (rest.map fun v => v.category).sum ≤ 8) (hdg : decode cc pc = .ok (.invokevirtual index, 3))
    (ke : ∀ (k : Nat) (ce : Cell) (q9 : Addr) (H1 : Heap) (locs1 : List Loc), pxc k → vs_Wd g A s.heap Wo H1 locs1 s → H1[q9]? = some ce → ce.vm = .none → s.vm.findClass (vs_E k) = some ce.cls → vx_W p l e R s m args below meth c H1 locs1 (cells + mc) (slots + ms) Q (F0 m pc ls rest) q9)
    (kk : ∀ (u : U) (H1 : Heap) (locs1 : List Loc), post u → vs_Wd g A s.heap (mk u) H1 locs1 s → W p l e R s m args below meth c H1 locs1 (cells + mc) (slots + ms) Q (F0 m (pc + 3) ls rest)) : W p l e R s m args below meth c H locs cells slots Q (F0 m pc ls st0) := by
  subst hst
  exact vx_callv (vx_runV (As := As) (rest := rest) hC (hM H.size) (vs_cw hC hk hl hrm.1 hrm.2 hR) ⟨vs_blindX, va_recv hW.1.1 hW.2.1 hc he, hW.preX hX⟩ rfl hn hlsz rfl (lv_room hstk) hdg hcap) hW.2.2.2.1 (fun q _ h => hW.in q h) hW.in (fun q _ h => hW.in q h) (fun E ce q9 k t H1 locs1 ht _ hp hb _ _ hS hq hv hcl => by
    obtain ⟨rfl, hb⟩ := hb
    exact ke k ce q9 H1 locs1 hp (hW.back ht hb hS) hq hv hcl) (fun u t H1 locs1 ht _ hp hb _ _ hS => kk u H1 locs1 hp (hW.back ht hb hS))
theorem vs_xcallSI {U : Type} {mk : U → va_W} {post : Int → U → Prop} {pxc : Nat → Prop} {y : MethodName} {bytes : ByteArray} {maxL n mc ms index : Nat} {ret : Option FieldType} {rm : Room} (As : List Value) (hC : CallFix p m c cc nL s args vs_ws own) (hW : vs_Wd g A s.heap Wo H locs s) (hX : vs_Xs g sd A s s.heap) (hk : vs_lkS y bytes maxL ret n) (hl : Cond.methodLink own index y ∈ vs_ws) (hM : vs_XI l y (Cond.code y bytes maxL ret :: vs_ws) rm g sd As Wo mk post pxc mc ms) (hn : As.length = n) (hlsz : ls.size = nL) {st0 : List Value} (hst : st0 = As.reverse ++ rest) (hrm : rm.cells = mc ∧ rm.slots = ms) (hR : rm.frames + 1 ≤ R.frames ∧ 8 + (maxL + 11) + rm.locals ≤ R.locals) (hcap : cells + mc ≤ R.cells ∧ slots + ms ≤ R.slots) (hstk : (rest.map fun v => v.category).sum ≤ 8) (hdg : decode cc pc = .ok (.invokestatic index, 3))
    (ke : ∀ (k : Nat) (ce : Cell) (q9 : Addr) (H1 : Heap) (locs1 : List Loc), pxc k → vs_Wd g A s.heap Wo H1 locs1 s → H1[q9]? = some ce → ce.vm = .none → s.vm.findClass (vs_E k) = some ce.cls → vx_W p l e R s m args below meth c H1 locs1 (cells + mc) (slots + ms) Q (F0 m pc ls rest) q9)
    (kk : ∀ (v : Int) (u : U) (H1 : Heap) (locs1 : List Loc), post v u → vs_Wd g A s.heap (mk u) H1 locs1 s → W p l e R s m args below meth c H1 locs1 (cells + mc) (slots + ms) Q (F0 m (pc + 3) ls (.int (vs_I v) :: rest))) : W p l e R s m args below meth c H locs cells slots Q (F0 m pc ls st0) := by
  subst hst
  exact vx_calli (vx_runS (As := As) (rest := rest) hC (hM H.size) (vs_cwS hC hk hl hrm.1 hrm.2 hR) ⟨vs_blindX, hW.preX hX⟩ rfl hn hlsz rfl (lv_room hstk) hdg hcap) hW.2.2.2.1 (fun q _ h => hW.in q h) hW.in (fun q _ h => hW.in q h) (fun E ce q9 k t H1 locs1 ht _ hp hb _ _ hS hq hv hcl => by
    obtain ⟨rfl, hb⟩ := hb
    exact ke k ce q9 H1 locs1 hp (hW.back ht hb hS) hq hv hcl) (fun r u t H1 locs1 ht _ hp hb _ _ hS => by
    obtain ⟨v, u⟩ := u
    obtain ⟨rfl, hp⟩ := hp
    exact kk v u H1 locs1 hp (hW.back ht hb hS))
theorem vs_xcallSV {U : Type} {mk : U → va_W} {post : U → Prop} {pxc : Nat → Prop} {y : MethodName} {bytes : ByteArray} {maxL n mc ms index : Nat} {ret : Option FieldType} {rm : Room} (As : List Value) (hC : CallFix p m c cc nL s args vs_ws own) (hW : vs_Wd g A s.heap Wo H locs s) (hX : vs_Xs g sd A s s.heap) (hk : vs_lkS y bytes maxL ret n) (hl : Cond.methodLink own index y ∈ vs_ws) (hM : vs_XV l y (Cond.code y bytes maxL ret :: vs_ws) rm g sd As Wo mk post pxc mc ms) (hn : As.length = n) (hlsz : ls.size = nL) {st0 : List Value} (hst : st0 = As.reverse ++ rest) (hrm : rm.cells = mc ∧ rm.slots = ms) (hR : rm.frames + 1 ≤ R.frames ∧ 8 + (maxL + 11) + rm.locals ≤ R.locals) (hcap : cells + mc ≤ R.cells ∧ slots + ms ≤ R.slots) (hstk : (rest.map fun v => v.category).sum ≤ 8) (hdg : decode cc pc = .ok (.invokestatic index, 3))
    (ke : ∀ (k : Nat) (ce : Cell) (q9 : Addr) (H1 : Heap) (locs1 : List Loc), pxc k → vs_Wd g A s.heap Wo H1 locs1 s → H1[q9]? = some ce → ce.vm = .none → s.vm.findClass (vs_E k) = some ce.cls → vx_W p l e R s m args below meth c H1 locs1 (cells + mc) (slots + ms) Q (F0 m pc ls rest) q9)
    (kk : ∀ (u : U) (H1 : Heap) (locs1 : List Loc), post u → vs_Wd g A s.heap (mk u) H1 locs1 s → W p l e R s m args below meth c H1 locs1 (cells + mc) (slots + ms) Q (F0 m (pc + 3) ls rest)) : W p l e R s m args below meth c H locs cells slots Q (F0 m pc ls st0) := by
  subst hst
  exact vx_callv (vx_runS (As := As) (rest := rest) hC (hM H.size) (vs_cwS hC hk hl hrm.1 hrm.2 hR) ⟨vs_blindX, hW.preX hX⟩ rfl hn hlsz rfl (lv_room hstk) hdg hcap) hW.2.2.2.1 (fun q _ h => hW.in q h) hW.in (fun q _ h => hW.in q h) (fun E ce q9 k t H1 locs1 ht _ hp hb _ _ hS hq hv hcl => by
    obtain ⟨rfl, hb⟩ := hb
    exact ke k ce q9 H1 locs1 hp (hW.back ht hb hS) hq hv hcl) (fun u t H1 locs1 ht _ hp hb _ _ hS => kk u H1 locs1 hp (hW.back ht hb hS))
/-- the world in another order -/
theorem va_Pp {D : va_G} {cl : List vw_C} {w1 w2 : va_W} {H : Heap} (h : va_P D cl w1 H) (hp : w1.Perm w2) : va_P D cl w2 H := fun k q hk => by
  obtain ⟨i, hi⟩ := List.getElem?_of_mem (hp.mem_iff.mpr (List.mem_of_getElem? hk))
  exact h i q hi
theorem vs_nodup {ws : va_W} (h : ∀ (i j : Nat) (p q : Nat × va_E), ws[i]? = some p → ws[j]? = some q → p.1 = q.1 → i = j) : (ws.map (·.1)).Nodup := by
  refine List.pairwise_iff_getElem.mpr (fun i j hi hj hij he => ?_)
  rw [List.length_map] at hi hj
  rw [List.getElem_map, List.getElem_map] at he
  have := h i j _ _ (List.getElem?_eq_getElem hi) (List.getElem?_eq_getElem hj) he
  omega
theorem vs_apart {ws : va_W} (h : (ws.map (·.1)).Nodup) : ∀ (i j : Nat) (p q : Nat × va_E), ws[i]? = some p → ws[j]? = some q → p.1 = q.1 → i = j := by
  have key : ∀ (i j : Nat) (p q : Nat × va_E), ws[i]? = some p → ws[j]? = some q → p.1 = q.1 → ¬ i < j := by
    intro i j p q hi hj he hij
    obtain ⟨hil, hi⟩ := List.getElem?_eq_some_iff.mp hi
    obtain ⟨hjl, hj⟩ := List.getElem?_eq_some_iff.mp hj
    have h1 := List.pairwise_iff_getElem.mp h i j (by rw [List.length_map]; exact hil) (by rw [List.length_map]; exact hjl) hij
    rw [List.getElem_map, List.getElem_map, hi, hj] at h1
    exact h1 he
  intro i j p q hi hj he
  have h1 := key i j p q hi hj he
  have h2 := key j i q p hj hi he.symm
  omega
theorem va_Dp {A : Nat → Prop} {w1 w2 : va_W} (h : va_D A w1) (hp : w1.Perm w2) : va_D A w2 := by
  refine ⟨vs_apart ((List.Perm.nodup_iff (hp.map _)).mp (vs_nodup h.1)), fun k q hk => ?_⟩
  obtain ⟨i, hi⟩ := List.getElem?_of_mem (hp.mem_iff.mpr (List.mem_of_getElem? hk))
  exact h.2 i q hi
theorem vs_Wd.perm {H0 : Heap} {w1 w2 : va_W} (h : vs_Wd g A H0 w1 H locs s) (hp : w1.Perm w2) : vs_Wd g A H0 w2 H locs s := ⟨h.1, va_Pp h.2.1 hp, va_Dp h.2.2.1 hp, h.2.2.2⟩
theorem vs_p2 {a b r : va_W} : (a ++ (b ++ r)).Perm (b ++ (a ++ r)) := by
  rw [← List.append_assoc, ← List.append_assoc]; exact List.Perm.append_right _ List.perm_append_comm
theorem vs_p3 {a b c r : va_W} : (a ++ (b ++ (c ++ r))).Perm (c ++ (a ++ (b ++ r))) := (List.Perm.append_left a vs_p2).trans vs_p2
theorem vs_p4 {a b c d r : va_W} : (a ++ (b ++ (c ++ (d ++ r)))).Perm (d ++ (a ++ (b ++ (c ++ r)))) := (List.Perm.append_left a vs_p3).trans vs_p2
end VSX
