/-! the law's helpers: a long in a row, the catching -/
def vs_J (x : Int) : Int64 := Int64.ofInt x
def vs_enL (f : Int → Int) : Nat → Int64 := fun i => vs_J (f (i : Int))
def vs_cmp (x y : Int) : Int := if y < x then 1 else if x = y then 0 else -1
theorem vs_J_toInt {x : Int} (h : vs_R x) : (vs_J x).toInt = x := Int64.toInt_ofInt_of_le (by have := h.1; omega) (by have := h.2; omega)
theorem vs_J_I {x : Int} (h : vs_R x) : (vs_I x).toInt64 = vs_J x := by
  apply Int64.toInt_inj.mp
  rw [vs_J_toInt h, Int32.toInt_toInt64, vs_I_toInt h]
theorem vs_lgcmp {x y : Int} (hx : vs_R x) (hy : vs_R y) : lg_cmp (vs_J x) (vs_J y) = vs_I (vs_cmp x y) := by
  unfold lg_cmp vs_cmp
  simp only [gt_iff_lt, Int64.lt_iff_toInt_lt, ← Int64.toInt_inj, vs_J_toInt hx, vs_J_toInt hy]
  by_cases h1 : y < x
  · rw [if_pos h1, if_pos h1]; rfl
  · rw [if_neg h1, if_neg h1]
    by_cases h2 : x = y
    · rw [if_pos h2, if_pos h2]; rfl
    · rw [if_neg h2, if_neg h2]; rfl
def vs_WO (g : vs_G) (o : Nat) (O : vs_St) : va_W := [(o, .inl (g.2 4, 1, .inr (.inl (vs_enL (O 0)))))]
/-- what the tables say of a helper of the law -/
def vs_lkH (y : MethodName) (bytes : ByteArray) (maxL : Nat) (ret : Option FieldType) (hh : List (Nat × Nat × Nat × Nat)) (n : Nat) : Prop :=
  Cond.static y ∈ vs_ws ∧ Cond.initialized y.cls ∈ vs_ws ∧ Cond.codeWith y bytes maxL ret hh ∈ vs_ws ∧ y.cls ≠ "java/lang/invoke/MethodHandle" ∧ y.cls ≠ "java/lang/invoke/VarHandle" ∧ (parseMethodDescriptor y.desc).map (fun d => d.parameters.length) = some n
abbrev hhL_addDisk : List (Nat × Nat × Nat × Nat) := [(0, 9, 12, 13), (0, 9, 15, 15)]
theorem vk_L_addDisk : vs_lkH yL_addDisk cL_addDisk 4 (some .int) hhL_addDisk 3 := ⟨vs_mem 417 (by decide +kernel) (by decide +kernel), vs_mem 81 (by decide +kernel) (by decide +kernel), vs_mem 418 (by decide +kernel) (by decide +kernel), by decide +kernel, by decide +kernel, by decide +kernel⟩
abbrev hhL_diskState : List (Nat × Nat × Nat × Nat) := [(0, 9, 12, 21)]
theorem vk_L_diskState : vs_lkH yL_diskState cL_diskState 4 (some .int) hhL_diskState 3 := ⟨vs_mem 517 (by decide +kernel) (by decide +kernel), vs_mem 81 (by decide +kernel) (by decide +kernel), vs_mem 518 (by decide +kernel) (by decide +kernel), by decide +kernel, by decide +kernel, by decide +kernel⟩
abbrev hhL_usedOn : List (Nat × Nat × Nat × Nat) := [(0, 9, 12, 21)]
theorem vk_L_usedOn : vs_lkH yL_usedOn cL_usedOn 4 (some .int) hhL_usedOn 3 := ⟨vs_mem 565 (by decide +kernel) (by decide +kernel), vs_mem 81 (by decide +kernel) (by decide +kernel), vs_mem 566 (by decide +kernel) (by decide +kernel), by decide +kernel, by decide +kernel, by decide +kernel⟩
abbrev hhL_addTenant : List (Nat × Nat × Nat × Nat) := [(0, 10, 13, 13), (0, 10, 17, 15)]
theorem vk_L_addTenant : vs_lkH yL_addTenant cL_addTenant 5 (some .int) hhL_addTenant 4 := ⟨vs_mem 572 (by decide +kernel) (by decide +kernel), vs_mem 81 (by decide +kernel) (by decide +kernel), vs_mem 573 (by decide +kernel) (by decide +kernel), by decide +kernel, by decide +kernel, by decide +kernel⟩
abbrev hhL_setHurry : List (Nat × Nat × Nat × Nat) := [(0, 9, 12, 13)]
theorem vk_L_setHurry : vs_lkH yL_setHurry cL_setHurry 4 (some .int) hhL_setHurry 3 := ⟨vs_mem 586 (by decide +kernel) (by decide +kernel), vs_mem 81 (by decide +kernel) (by decide +kernel), vs_mem 587 (by decide +kernel) (by decide +kernel), by decide +kernel, by decide +kernel, by decide +kernel⟩
abbrev hhL_read : List (Nat × Nat × Nat × Nat) := [(0, 10, 13, 21), (0, 10, 17, 15)]
theorem vk_L_read : vs_lkH yL_read cL_read 5 (some .int) hhL_read 4 := ⟨vs_mem 594 (by decide +kernel) (by decide +kernel), vs_mem 81 (by decide +kernel) (by decide +kernel), vs_mem 595 (by decide +kernel) (by decide +kernel), by decide +kernel, by decide +kernel, by decide +kernel⟩
abbrev hhL_write : List (Nat × Nat × Nat × Nat) := [(0, 12, 15, 21), (0, 12, 19, 13), (0, 12, 23, 15)]
theorem vk_L_write : vs_lkH yL_write cL_write 6 (some .int) hhL_write 5 := ⟨vs_mem 624 (by decide +kernel) (by decide +kernel), vs_mem 81 (by decide +kernel) (by decide +kernel), vs_mem 625 (by decide +kernel) (by decide +kernel), by decide +kernel, by decide +kernel, by decide +kernel⟩
abbrev hhL_stateOf : List (Nat × Nat × Nat × Nat) := [(0, 9, 12, 21)]
theorem vk_L_stateOf : vs_lkH yL_stateOf cL_stateOf 4 (some .int) hhL_stateOf 3 := ⟨vs_mem 632 (by decide +kernel) (by decide +kernel), vs_mem 81 (by decide +kernel) (by decide +kernel), vs_mem 633 (by decide +kernel) (by decide +kernel), by decide +kernel, by decide +kernel, by decide +kernel⟩
abbrev hhL_answerTo : List (Nat × Nat × Nat × Nat) := [(0, 9, 12, 21), (0, 9, 15, 46)]
theorem vk_L_answerTo : vs_lkH yL_answerTo cL_answerTo 4 (some .int) hhL_answerTo 3 := ⟨vs_mem 644 (by decide +kernel) (by decide +kernel), vs_mem 81 (by decide +kernel) (by decide +kernel), vs_mem 645 (by decide +kernel) (by decide +kernel), by decide +kernel, by decide +kernel, by decide +kernel⟩
abbrev hhL_waitingOf : List (Nat × Nat × Nat × Nat) := [(0, 9, 12, 21)]
theorem vk_L_waitingOf : vs_lkH yL_waitingOf cL_waitingOf 4 (some .int) hhL_waitingOf 3 := ⟨vs_mem 668 (by decide +kernel) (by decide +kernel), vs_mem 81 (by decide +kernel) (by decide +kernel), vs_mem 669 (by decide +kernel) (by decide +kernel), by decide +kernel, by decide +kernel, by decide +kernel⟩
abbrev hhL_servedOf : List (Nat × Nat × Nat × Nat) := [(0, 9, 12, 21)]
theorem vk_L_servedOf : vs_lkH yL_servedOf cL_servedOf 4 (some .int) hhL_servedOf 3 := ⟨vs_mem 679 (by decide +kernel) (by decide +kernel), vs_mem 81 (by decide +kernel) (by decide +kernel), vs_mem 680 (by decide +kernel) (by decide +kernel), by decide +kernel, by decide +kernel, by decide +kernel⟩
abbrev hhL_creditsOf : List (Nat × Nat × Nat × Nat) := [(0, 9, 12, 21)]
theorem vk_L_creditsOf : vs_lkH yL_creditsOf cL_creditsOf 4 (some .int) hhL_creditsOf 3 := ⟨vs_mem 686 (by decide +kernel) (by decide +kernel), vs_mem 81 (by decide +kernel) (by decide +kernel), vs_mem 687 (by decide +kernel) (by decide +kernel), by decide +kernel, by decide +kernel, by decide +kernel⟩
abbrev hhL_breachesOf : List (Nat × Nat × Nat × Nat) := [(0, 9, 12, 21)]
theorem vk_L_breachesOf : vs_lkH yL_breachesOf cL_breachesOf 4 (some .int) hhL_breachesOf 3 := ⟨vs_mem 693 (by decide +kernel) (by decide +kernel), vs_mem 81 (by decide +kernel) (by decide +kernel), vs_mem 694 (by decide +kernel) (by decide +kernel), by decide +kernel, by decide +kernel, by decide +kernel⟩
abbrev hhL_pass : List (Nat × Nat × Nat × Nat) := [(0, 9, 12, 13), (0, 9, 15, 15)]
theorem vk_L_pass : vs_lkH yL_pass cL_pass 4 (some .int) hhL_pass 3 := ⟨vs_mem 700 (by decide +kernel) (by decide +kernel), vs_mem 81 (by decide +kernel) (by decide +kernel), vs_mem 701 (by decide +kernel) (by decide +kernel), by decide +kernel, by decide +kernel, by decide +kernel⟩
abbrev hhL_blocksOf : List (Nat × Nat × Nat × Nat) := [(0, 9, 12, 21)]
theorem vk_L_blocksOf : vs_lkH yL_blocksOf cL_blocksOf 4 (some .int) hhL_blocksOf 3 := ⟨vs_mem 756 (by decide +kernel) (by decide +kernel), vs_mem 81 (by decide +kernel) (by decide +kernel), vs_mem 757 (by decide +kernel) (by decide +kernel), by decide +kernel, by decide +kernel, by decide +kernel⟩
abbrev hhL_copiesOf : List (Nat × Nat × Nat × Nat) := [(0, 10, 13, 21)]
theorem vk_L_copiesOf : vs_lkH yL_copiesOf cL_copiesOf 5 (some .int) hhL_copiesOf 4 := ⟨vs_mem 767 (by decide +kernel) (by decide +kernel), vs_mem 81 (by decide +kernel) (by decide +kernel), vs_mem 768 (by decide +kernel) (by decide +kernel), by decide +kernel, by decide +kernel, by decide +kernel⟩
abbrev hhL_copiesByDisks : List (Nat × Nat × Nat × Nat) := [(0, 10, 13, 21)]
theorem vk_L_copiesByDisks : vs_lkH yL_copiesByDisks cL_copiesByDisks 5 (some .int) hhL_copiesByDisks 4 := ⟨vs_mem 774 (by decide +kernel) (by decide +kernel), vs_mem 81 (by decide +kernel) (by decide +kernel), vs_mem 775 (by decide +kernel) (by decide +kernel), by decide +kernel, by decide +kernel, by decide +kernel⟩
abbrev hhL_diskOfCopy : List (Nat × Nat × Nat × Nat) := [(0, 12, 15, 21), (0, 12, 19, 46)]
theorem vk_L_diskOfCopy : vs_lkH yL_diskOfCopy cL_diskOfCopy 6 (some .int) hhL_diskOfCopy 5 := ⟨vs_mem 782 (by decide +kernel) (by decide +kernel), vs_mem 81 (by decide +kernel) (by decide +kernel), vs_mem 783 (by decide +kernel) (by decide +kernel), by decide +kernel, by decide +kernel, by decide +kernel⟩
abbrev hhL_valueOf : List (Nat × Nat × Nat × Nat) := [(0, 10, 13, 21), (0, 10, 17, 46)]
theorem vk_L_valueOf : vs_lkH yL_valueOf cL_valueOf 5 (some .int) hhL_valueOf 4 := ⟨vs_mem 791 (by decide +kernel) (by decide +kernel), vs_mem 81 (by decide +kernel) (by decide +kernel), vs_mem 792 (by decide +kernel) (by decide +kernel), by decide +kernel, by decide +kernel, by decide +kernel⟩
abbrev hhL_isLost : List (Nat × Nat × Nat × Nat) := [(0, 17, 20, 21)]
theorem vk_L_isLost : vs_lkH yL_isLost cL_isLost 5 (some .int) hhL_isLost 4 := ⟨vs_mem 799 (by decide +kernel) (by decide +kernel), vs_mem 81 (by decide +kernel) (by decide +kernel), vs_mem 800 (by decide +kernel) (by decide +kernel), by decide +kernel, by decide +kernel, by decide +kernel⟩
abbrev hhL_doesBear : List (Nat × Nat × Nat × Nat) := [(0, 16, 19, 13)]
theorem vk_L_doesBear : vs_lkH yL_doesBear cL_doesBear 4 (some .int) hhL_doesBear 3 := ⟨vs_mem 807 (by decide +kernel) (by decide +kernel), vs_mem 81 (by decide +kernel) (by decide +kernel), vs_mem 808 (by decide +kernel) (by decide +kernel), by decide +kernel, by decide +kernel, by decide +kernel⟩
abbrev hhL_doesBearByTrying : List (Nat × Nat × Nat × Nat) := [(0, 16, 19, 13)]
theorem vk_L_doesBearByTrying : vs_lkH yL_doesBearByTrying cL_doesBearByTrying 4 (some .int) hhL_doesBearByTrying 3 := ⟨vs_mem 822 (by decide +kernel) (by decide +kernel), vs_mem 81 (by decide +kernel) (by decide +kernel), vs_mem 823 (by decide +kernel) (by decide +kernel), by decide +kernel, by decide +kernel, by decide +kernel⟩
abbrev hhL_fail : List (Nat × Nat × Nat × Nat) := [(0, 9, 12, 21), (0, 9, 15, 15)]
theorem vk_L_fail : vs_lkH yL_fail cL_fail 4 (some .int) hhL_fail 3 := ⟨vs_mem 837 (by decide +kernel) (by decide +kernel), vs_mem 81 (by decide +kernel) (by decide +kernel), vs_mem 838 (by decide +kernel) (by decide +kernel), by decide +kernel, by decide +kernel, by decide +kernel⟩
abbrev hhL_replace : List (Nat × Nat × Nat × Nat) := [(0, 9, 12, 21), (0, 9, 15, 15)]
theorem vk_L_replace : vs_lkH yL_replace cL_replace 4 (some .int) hhL_replace 3 := ⟨vs_mem 857 (by decide +kernel) (by decide +kernel), vs_mem 81 (by decide +kernel) (by decide +kernel), vs_mem 858 (by decide +kernel) (by decide +kernel), by decide +kernel, by decide +kernel, by decide +kernel⟩
abbrev hhL_warn : List (Nat × Nat × Nat × Nat) := [(0, 9, 12, 21), (0, 9, 15, 15)]
theorem vk_L_warn : vs_lkH yL_warn cL_warn 4 (some .int) hhL_warn 3 := ⟨vs_mem 867 (by decide +kernel) (by decide +kernel), vs_mem 81 (by decide +kernel) (by decide +kernel), vs_mem 868 (by decide +kernel) (by decide +kernel), by decide +kernel, by decide +kernel, by decide +kernel⟩
abbrev hhL_rot : List (Nat × Nat × Nat × Nat) := [(0, 17, 20, 21), (0, 17, 24, 46)]
theorem vk_L_rot : vs_lkH yL_rot cL_rot 5 (some .int) hhL_rot 4 := ⟨vs_mem 875 (by decide +kernel) (by decide +kernel), vs_mem 81 (by decide +kernel) (by decide +kernel), vs_mem 876 (by decide +kernel) (by decide +kernel), by decide +kernel, by decide +kernel, by decide +kernel⟩
abbrev hhL_scrub : List (Nat × Nat × Nat × Nat) := [(0, 9, 12, 21), (0, 9, 15, 15)]
theorem vk_L_scrub : vs_lkH yL_scrub cL_scrub 4 (some .int) hhL_scrub 3 := ⟨vs_mem 884 (by decide +kernel) (by decide +kernel), vs_mem 81 (by decide +kernel) (by decide +kernel), vs_mem 885 (by decide +kernel) (by decide +kernel), by decide +kernel, by decide +kernel, by decide +kernel⟩
abbrev hhL_rottenOn : List (Nat × Nat × Nat × Nat) := [(0, 9, 12, 21)]
theorem vk_L_rottenOn : vs_lkH yL_rottenOn cL_rottenOn 4 (some .int) hhL_rottenOn 3 := ⟨vs_mem 895 (by decide +kernel) (by decide +kernel), vs_mem 81 (by decide +kernel) (by decide +kernel), vs_mem 896 (by decide +kernel) (by decide +kernel), by decide +kernel, by decide +kernel, by decide +kernel⟩
abbrev hhL_meanCopies : List (Nat × Nat × Nat × Nat) := [(0, 7, 10, 111)]
theorem vk_L_meanCopies : vs_lkH yL_meanCopies cL_meanCopies 3 (some .int) hhL_meanCopies 2 := ⟨vs_mem 906 (by decide +kernel) (by decide +kernel), vs_mem 81 (by decide +kernel) (by decide +kernel), vs_mem 907 (by decide +kernel) (by decide +kernel), by decide +kernel, by decide +kernel, by decide +kernel⟩
abbrev hhL_usedShare : List (Nat × Nat × Nat × Nat) := [(0, 8, 11, 111)]
theorem vk_L_usedShare : vs_lkH yL_usedShare cL_usedShare 3 (some .int) hhL_usedShare 2 := ⟨vs_mem 934 (by decide +kernel) (by decide +kernel), vs_mem 81 (by decide +kernel) (by decide +kernel), vs_mem 935 (by decide +kernel) (by decide +kernel), by decide +kernel, by decide +kernel, by decide +kernel⟩
abbrev hhL_writeDisk : List (Nat × Nat × Nat × Nat) := [(0, 9, 12, 21)]
theorem vk_L_writeDisk : vs_lkH yL_writeDisk cL_writeDisk 4 (some .int) hhL_writeDisk 3 := ⟨vs_mem 946 (by decide +kernel) (by decide +kernel), vs_mem 81 (by decide +kernel) (by decide +kernel), vs_mem 947 (by decide +kernel) (by decide +kernel), by decide +kernel, by decide +kernel, by decide +kernel⟩
abbrev hhL_lineAt : List (Nat × Nat × Nat × Nat) := [(0, 9, 12, 21)]
theorem vk_L_lineAt : vs_lkH yL_lineAt cL_lineAt 4 (some .int) hhL_lineAt 3 := ⟨vs_mem 1232 (by decide +kernel) (by decide +kernel), vs_mem 81 (by decide +kernel) (by decide +kernel), vs_mem 1233 (by decide +kernel) (by decide +kernel), by decide +kernel, by decide +kernel, by decide +kernel⟩
theorem vt_13 : Cond.classLink RL 13 (vs_E 1) ∈ vs_ws := vs_mem 419 (by decide +kernel) (by decide +kernel)
theorem vt_15 : Cond.classLink RL 15 (vs_E 2) ∈ vs_ws := vs_mem 420 (by decide +kernel) (by decide +kernel)
theorem vt_21 : Cond.classLink RL 21 (vs_E 3) ∈ vs_ws := vs_mem 519 (by decide +kernel) (by decide +kernel)
theorem vt_46 : Cond.classLink RL 46 (vs_E 4) ∈ vs_ws := vs_mem 646 (by decide +kernel) (by decide +kernel)
theorem vt_111 : Cond.classLink RL 111 (vs_E 5) ∈ vs_ws := vs_mem 908 (by decide +kernel) (by decide +kernel)
def vs_HI (l : Launch) (y : MethodName) (ws : List Cond) (rm : Room) (g : vs_G) (sd : Nat → Nat) (as : List Value) (Wo : va_W) {U : Type} (mk : U → va_W) (post : Int → U → Prop) (mc ms : Nat) : Prop :=
  ∀ sz : Nat, vx_Met l y ws rm (vs_PreX g sd as sz Wo) (vs_QI g (va_A Wo sz) mk post) (vs_QX g (va_A Wo sz) Wo (fun _ => False)) mc ms (va_A Wo sz)
theorem vs_ofH {l : Launch} {y : MethodName} {cc : ByteArray} {maxL : Nat} {ret : Option FieldType} {hh : List (Nat × Nat × Nat × Nat)} {rm : Room} {g : vs_G} {sd : Nat → Nat} {as : List Value} {Wo : va_W} {Qc : (Nat → Prop) → Array Value → State → Outcome → State → Prop} {XC : (Nat → Prop) → String → State → State → Prop} {mc ms : Nat}
    (hy : plainName y.cls = true) (hlen : (lg_sl as).length ≤ maxL)
    (body : ∀ (p : Program) (e : Env) (s : State) (m : MethodId) (below : List Frame) (meth : Method) (c : Code) (A : Nat → Prop) (ls : Array Slot), CallFix p m c cc maxL s as.toArray vs_ws y.cls → meth.sig.returnType = ret → meth.locks = false → c.exceptionTable.toList = tableOf hh →
      vs_Wd g A s.heap Wo s.heap [] s → vs_Xs g sd A s s.heap → lv_has ls maxL (lv_args 0 as) →
      W p l e rm s m as.toArray below meth c s.heap [] 0 0 (vx_MQ below (Qc A) (XC A) as.toArray s mc ms A) (F0 m 0 ls [])) :
    ∀ sz : Nat, vx_Met l y (Cond.codeWith y cc maxL ret hh :: vs_ws) rm (vs_PreX g sd as sz Wo) (Qc (va_A Wo sz)) (XC (va_A Wo sz)) mc ms (va_A Wo sz) := by
  intro sz
  refine vx_ofWH (cc := cc) (maxL := maxL) (ret := ret) (hh := hh) hy rfl ?_
  intro p e s m args below meth c s₁ B hml hv
  obtain ⟨rfl, hsz, hP, hK, hD0, hX⟩ := hv
  subst hsz
  have hts := atoms_spec (ws := Cond.codeWith y cc maxL ret hh :: vs_ws) B.pre
  rw [lg_entry_eq]
  exact body p e s m below meth c (va_A Wo s.heap.size) _ ⟨B.exec, B.bytes, hml, findClass_of_methodNamed B.named, fun w hw => hts w (List.mem_cons_of_mem _ hw)⟩ B.returns B.notSynchronized (vx_table (x := y) B (hts _ List.mem_cons_self))
    ⟨hK, hP, hD0.self, va_S.rf, fun q h => Or.inr h⟩ hX (lv_entry as hlen)
section VSH
variable {p : Program} {l : Launch} {e : Env} {R : Room} {s : State} {m : MethodId} {args : Array Value} {below : List Frame} {meth : Method} {c : Code} {H : Heap} {locs : List Loc} {cells slots : Nat} {Q : State → Prop}
variable {cc : ByteArray} {pc nL : Nat} {ls : Array Slot} {rest : List Value} {own : String} {g : vs_G} {sd : Nat → Nat} {A : Nat → Prop} {H0 : Heap} {Wo : va_W} {a : Nat}
theorem vs_i2l (hC : CallFix p m c cc nL s args vs_ws own) {x : Int} (hx : vs_R x) (hdg : decode cc pc = .ok (.i2l, 1)) (k : W p l e R s m args below meth c H locs cells slots Q (F0 m (pc + 1) ls (.long (vs_J x) :: rest))) : W p l e R s m args below meth c H locs cells slots Q (F0 m pc ls (.int (vs_I x) :: rest)) := lv_i2l hC.1 hC.2.1 hdg (vs_J_I hx) k
theorem vs_lconst (hC : CallFix p m c cc nL s args vs_ws own) {n : Fin 2} {x : Int} (hdg : decode cc pc = .ok (.lconst n, 1)) (hv : Int64.ofNat (n : Nat) = vs_J x) (k : W p l e R s m args below meth c H locs cells slots Q (F0 m (pc + 1) ls (.long (vs_J x) :: rest))) : W p l e R s m args below meth c H locs cells slots Q (F0 m pc ls rest) := lv_lconst hC.1 hC.2.1 hdg hv k
theorem vs_lcmp (hC : CallFix p m c cc nL s args vs_ws own) {x y : Int} (hx : vs_R x) (hy : vs_R y) (hdg : decode cc pc = .ok (.lcmp, 1)) (k : W p l e R s m args below meth c H locs cells slots Q (F0 m (pc + 1) ls (.int (vs_I (vs_cmp x y)) :: rest))) : W p l e R s m args below meth c H locs cells slots Q (F0 m pc ls (.long (vs_J y) :: .long (vs_J x) :: rest)) := W.lcmp hC.1 hC.2.1 hdg (by rw [vs_lgcmp hx hy]; exact k)
theorem vs_last (hC : CallFix p m c cc nL s args vs_ws own) (hW : vs_Wd g A H0 Wo H locs s) (q0 : Nat) {f : Int → Int} (he : Wo[q0]? = some (a, .inl (g.2 4, 1, .inr (.inl (vs_enL f))))) {y : Int} {Wo' : va_W} (hset : Wo.set q0 (a, .inl (g.2 4, 1, .inr (.inl (vs_enL (vs_up f 0 y))))) = Wo') (hdg : decode cc pc = .ok (.lastore, 1))
    (kk : ∀ (H1 : Heap) (locs1 : List Loc), vs_Wd g A H0 Wo' H1 locs1 s → W p l e R s m args below meth c H1 locs1 cells slots Q (F0 m (pc + 1) ls rest)) : W p l e R s m args below meth c H locs cells slots Q (F0 m pc ls (.long (vs_J y) :: .int (vs_I 0) :: .ref a :: rest)) := by
  subst hset
  have e1 : vp_updL (vs_enL f) (vs_I 0).toNatClampNeg (vs_J y) = vs_enL (vs_up f 0 y) := by
    funext j
    show (if j = 0 then _ else _) = vs_J (if _ then _ else _)
    by_cases q : j = 0
    · subst q; rw [if_pos rfl]; exact congrArg vs_J (if_pos rfl).symm
    · rw [if_neg q, if_neg (by omega)]; rfl
  refine va_last hC.1 hC.2.1 hW.1.1 hW.2.1 hW.2.2.1 hW.2.2.2.1 q0 4 he rfl (vs_I_in (by decide) (by decide) (by decide)) hdg (fun H1 locs1 h1 h2 h3 => kk H1 locs1 ⟨hW.1, ?_, ?_, h3, hW.2.2.2.2⟩)
  · rw [e1] at h1; exact h1
  · rw [e1] at h2; exact h2
theorem vs_lald (hC : CallFix p m c cc nL s args vs_ws own) (hW : vs_Wd g A H0 Wo H locs s) (q0 : Nat) {f : Int → Int} (he : Wo[q0]? = some (a, .inl (g.2 4, 1, .inr (.inl (vs_enL f))))) (hdg : decode cc pc = .ok (.laload, 1))
    (kk : W p l e R s m args below meth c H locs cells slots Q (F0 m (pc + 1) ls (.long (vs_J (f 0)) :: rest))) : W p l e R s m args below meth c H locs cells slots Q (F0 m pc ls (.int (vs_I 0) :: .ref a :: rest)) :=
  va_lald hC.1 hC.2.1 hW.1.1 hW.2.1 q0 4 he rfl (vs_I_in (by decide) (by decide) (by decide)) hdg kk
/-- caught here, by the row behind 'pre' -/
theorem vs_catch {n : Nat} {ce : Cell} {q9 : Addr} {hh : List (Nat × Nat × Nat × Nat)} (hC : CallFix p m c cc nL s args vs_ws RL) (hX : vs_Xs g sd A s s.heap) (htab : c.exceptionTable.toList = tableOf hh) (pre : List ExceptionTableEntry) (x : ExceptionTableEntry) (suf : List ExceptionTableEntry) (hs : tableOf hh = pre ++ x :: suf)
    (hpass : ∀ z ∈ pre, z.catchType ≠ 0 ∧ ∃ k : Nat, Cond.classLink RL z.catchType (vs_E k) ∈ vs_ws ∧ (vs_E n, vs_E k) ∈ vs_ncs) (hx : covers x pc = true) (h0 : x.catchType ≠ 0) (hlink : Cond.classLink RL x.catchType (vs_E n) ∈ vs_ws) (hcst : (vs_E n, vs_E n) ∈ vs_cst)
    (hq : H[q9]? = some ce) (hv : ce.vm = .none) (hcl : s.vm.findClass (vs_E n) = some ce.cls)
    (kk : W p l e R s m args below meth c H locs cells slots Q (F0 m x.handlerPc ls [.ref q9])) : vx_W p l e R s m args below meth c H locs cells slots Q (F0 m pc ls rest) q9 :=
  vx_catch hC.2.2.2.1 pre x suf (htab.trans hs) (fun z hz => Or.inr ⟨(hpass z hz).1, by obtain ⟨-, k, h1, h2⟩ := hpass z hz; exact ⟨vs_E k, hC.2.2.2.2 _ h1, hX.2.2.2.1 _ h2⟩⟩) hx h0 (hC.2.2.2.2 _ hlink) (va_Nw.use rfl (hX.1 _ hcst)) hq hv hcl kk
theorem vs_astore_n (hC : CallFix p m c cc nL s args vs_ws own) {L L' : List (Nat × Value)} (hl : lv_has ls nL L) (ks : List Nat) {k : Fin 4} {i : Nat} {x : Nat} (hdg : decode cc pc = .ok (.astore_n k, 1)) (hi : (k : Nat) = i) (hn : i < nL) (hL : lv_pick ((i, Value.ref x) :: L.filter (fun q => !(q.1 == i) && !(q.1 + 1 == i && q.2.category == 2))) ks = L') (kk : ∀ ls' : Array Slot, lv_has ls' nL L' → W p l e R s m args below meth c H locs cells slots Q (F0 m (pc + 1) ls' rest)) : W p l e R s m args below meth c H locs cells slots Q (F0 m pc ls (.ref x :: rest)) :=
  lv_astore_n hC.1 hC.2.1 hdg hi hl hn rfl (fun ls' h' => kk ls' (lv_sub h' ks hL))
theorem vs_astore (hC : CallFix p m c cc nL s args vs_ws own) {L L' : List (Nat × Value)} (hl : lv_has ls nL L) (ks : List Nat) {i : Nat} {x : Nat} (hdg : decode cc pc = .ok (.astore i, 2)) (hn : i < nL) (hL : lv_pick ((i, Value.ref x) :: L.filter (fun q => !(q.1 == i) && !(q.1 + 1 == i && q.2.category == 2))) ks = L') (kk : ∀ ls' : Array Slot, lv_has ls' nL L' → W p l e R s m args below meth c H locs cells slots Q (F0 m (pc + 2) ls' rest)) : W p l e R s m args below meth c H locs cells slots Q (F0 m pc ls (.ref x :: rest)) :=
  lv_astore hC.1 hC.2.1 hdg hl hn rfl (fun ls' h' => kk ls' (lv_sub h' ks hL))
theorem vs_aload (hC : CallFix p m c cc nL s args vs_ws own) {L : List (Nat × Value)} (hl : lv_has ls nL L) (j : Nat) {i : Nat} {x : Nat} (hdg : decode cc pc = .ok (.aload i, 2)) (hj : L[j]? = some (i, .ref x)) (kk : W p l e R s m args below meth c H locs cells slots Q (F0 m (pc + 2) ls (.ref x :: rest))) : W p l e R s m args below meth c H locs cells slots Q (F0 m pc ls rest) := lv_aload hC.1 hC.2.1 hdg (lv_at hl j hj) kk
theorem vs_callHI {U : Type} {mk : U → va_W} {post : Int → U → Prop} {y : MethodName} {bytes : ByteArray} {maxL n mc ms index : Nat} {ret : Option FieldType} {hh : List (Nat × Nat × Nat × Nat)} {rm : Room} (As : List Value) (hC : CallFix p m c cc nL s args vs_ws own) (hW : vs_Wd g A s.heap Wo H locs s) (hX : vs_Xs g sd A s s.heap) (hk : vs_lkH y bytes maxL ret hh n) (hl : Cond.methodLink own index y ∈ vs_ws) (hM : vs_HI l y (Cond.codeWith y bytes maxL ret hh :: vs_ws) rm g sd As Wo mk post mc ms) (hn : As.length = n) (hlsz : ls.size = nL) {st0 : List Value} (hst : st0 = As.reverse ++ rest) (hrm : rm.cells = mc ∧ rm.slots = ms) (hR : rm.frames + 1 ≤ R.frames ∧ 8 + (maxL + 11) + rm.locals ≤ R.locals) (hcap : cells + mc ≤ R.cells ∧ slots + ms ≤ R.slots) (hstk : (rest.map fun v => v.category).sum ≤ 8) (hdg : decode cc pc = .ok (.invokestatic index, 3))
    (kk : ∀ (v : Int) (u : U) (H1 : Heap) (locs1 : List Loc), post v u → vs_Wd g A s.heap (mk u) H1 locs1 s → W p l e R s m args below meth c H1 locs1 (cells + mc) (slots + ms) Q (F0 m (pc + 3) ls (.int (vs_I v) :: rest))) : W p l e R s m args below meth c H locs cells slots Q (F0 m pc ls st0) := by
  subst hst
  obtain ⟨k1, k2, k3, k4, k5, k6⟩ := hk
  have hG : GoodIn vs_ws (va_wsS own index y (Cond.codeWith y bytes maxL ret hh :: vs_ws)) := vs_good fun w hw => by
    simp only [va_wsS, List.mem_append, List.mem_cons, List.not_mem_nil, or_false] at hw
    rcases hw with (rfl | rfl | rfl) | rfl | hw
    · exact hl
    · exact k1
    · exact k2
    · exact k3
    · exact hw
  exact vx_calli (vx_runSX (As := As) (rest := rest) hC (hM H.size) (vx_cwSW n hC.2.2.2.2 hG rfl hrm.1 hrm.2 ⟨k4, k5, k6⟩ hR) ⟨vs_blindX, hW.preX hX⟩ rfl hn hlsz rfl (lv_room hstk) hdg hcap) hW.2.2.2.1 (fun q _ h => hW.in q h) hW.in (fun q _ h => hW.in q h) (fun E ce q9 k t H1 locs1 ht _ hp hb _ _ hS hq hv hcl => hp.elim) (fun r u t H1 locs1 ht _ hp hb _ _ hS => by
    obtain ⟨v, u⟩ := u
    obtain ⟨rfl, hp⟩ := hp
    exact kk v u H1 locs1 hp (hW.back ht hb hS))
end VSH
