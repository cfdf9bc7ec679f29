/-! the JDK's text methods, each along the road that a Latin-1 text takes -/
def vs_tB (g : vs_G) (b q : Nat) (ml n : Int) (cap : Nat) (f : Int → Int) : va_W := [(b, .inr (1, [.ref q, .int (vs_I 0), .int (vs_I ml), .int (vs_I n)])), (q, .inl (g.2 6, cap, .inl (vs_en f)))]
def vs_tS (g : vs_G) (b q n : Nat) (f : Int → Int) (hz : Value × Value) : va_W := [(b, .inr (0, [.ref q, .int (vs_I 0), hz.1, hz.2])), (q, .inl (g.2 6, n, .inl (vs_en f)))]
def vs_by (f : Int → Int) (n : Int) : Prop := ∀ j : Int, 0 ≤ j → j < n → -128 ≤ f j ∧ f j < 128
def vs_gr (cap : Nat) (k : Int) : Nat := if k ≤ (cap : Int) then cap else 2 * cap + 2
def vs_gf (cap : Nat) (k : Int) (f : Int → Int) : Int → Int := if k ≤ (cap : Int) then f else vs_cpB f (fun _ => 0) cap
def vs_dg (x : Int) : Int := if x < 10 then 1 else 2
def vs_gc (x i : Int) (f : Int → Int) : Int → Int := if x < 10 then vs_up f (i - 1) (x + 48) else vs_up (vs_up f (i - 1) (x % 10 + 48)) (i - 2) (x / 10 + 48)
section VSJ2
variable {p : Program} {l : Launch} {e : Env} {R : Room} {s : State} {m : MethodId} {args : Array Value} {below : List Frame} {meth : Method} {c : Code} {H : Heap} {locs : List Loc} {cells slots : Nat} {Q : State → Prop}
variable {cc : ByteArray} {pc nL : Nat} {ls : Array Slot} {rest : List Value} {own : String} {g : vs_G} {jd : Nat → Nat} {A : Nat → Prop} {H0 : Heap} {Wo : va_W} {a : Nat}
theorem vs_anull (hC : CallFix p m c cc nL s args vs_ws own) {L : List (Nat × Value)} (hl : lv_has ls nL L) (j : Nat) {k : Fin 4} {i : Nat} (hdg : decode cc pc = .ok (.aload_n k, 1)) (hi : (k : Nat) = i) (hj : L[j]? = some (i, .null)) (kk : W p l e R s m args below meth c H locs cells slots Q (F0 m (pc + 1) ls (.null :: rest))) : W p l e R s m args below meth c H locs cells slots Q (F0 m pc ls rest) := lv_aload_nN hC.1 hC.2.1 hdg hi (lv_at hl j hj) kk
theorem vs_alenN (hC : CallFix p m c cc nL s args vs_ws own) (hW : vs_Wd g A H0 Wo H locs s) (q0 : Nat) {n : Nat} {f : Int → Int} (he : Wo[q0]? = some (a, .inl (g.2 6, n, .inl (vs_en f)))) (hdg : decode cc pc = .ok (.arraylength, 1))
    (kk : W p l e R s m args below meth c H locs cells slots Q (F0 m (pc + 1) ls (.int (vs_I (n : Int)) :: rest))) : W p l e R s m args below meth c H locs cells slots Q (F0 m pc ls (.ref a :: rest)) := vs_alen hC hW q0 6 he rfl hdg kk
theorem vs_baldN (hC : CallFix p m c cc nL s args vs_ws own) (hW : vs_Wd g A H0 Wo H locs s) (q0 : Nat) {n : Nat} {f : Int → Int} (he : Wo[q0]? = some (a, .inl (g.2 6, n, .inl (vs_en f)))) {x : Int} (hx : 0 ≤ x ∧ x < (n : Int) ∧ (n : Int) ≤ 2147483647) (hdg : decode cc pc = .ok (.baload, 1))
    (kk : W p l e R s m args below meth c H locs cells slots Q (F0 m (pc + 1) ls (.int (vs_I (f x)) :: rest))) : W p l e R s m args below meth c H locs cells slots Q (F0 m pc ls (.int (vs_I x) :: .ref a :: rest)) :=
  vs_bald hC hW q0 (n := (n : Int)) he hx hdg kk
theorem vs_bastN (hC : CallFix p m c cc nL s args vs_ws own) (hW : vs_Wd g A H0 Wo H locs s) (q0 : Nat) {n : Nat} {f : Int → Int} (he : Wo[q0]? = some (a, .inl (g.2 6, n, .inl (vs_en f)))) {x y : Int} (hx : 0 ≤ x ∧ x < (n : Int) ∧ (n : Int) ≤ 2147483647) (hy : -128 ≤ y ∧ y < 128) {Wo' : va_W} (hset : Wo.set q0 (a, .inl (g.2 6, n, .inl (vs_en (vs_up f x y)))) = Wo') (hdg : decode cc pc = .ok (.bastore, 1))
    (kk : ∀ (H1 : Heap) (locs1 : List Loc), vs_Wd g A H0 Wo' H1 locs1 s → W p l e R s m args below meth c H1 locs1 cells slots Q (F0 m (pc + 1) ls rest)) : W p l e R s m args below meth c H locs cells slots Q (F0 m pc ls (.int (vs_I y) :: .int (vs_I x) :: .ref a :: rest)) :=
  vs_bast hC hW q0 (n := (n : Int)) he hx hy hset hdg kk
theorem vs_ineg2 (hC : CallFix p m c cc nL s args vs_ws own) {x : Int} (hdg : decode cc pc = .ok (.ineg, 1)) (k : W p l e R s m args below meth c H locs cells slots Q (F0 m (pc + 1) ls (.int (vs_I x) :: rest))) : W p l e R s m args below meth c H locs cells slots Q (F0 m pc ls (.int (vs_I (-x)) :: rest)) :=
  vs_ineg hC hdg (by rw [Int.neg_neg]; exact k)
end VSJ2
set_option maxHeartbeats 4000000 in
set_option maxRecDepth 100000 in
theorem c_J5_isLatin1_aae02 (l : Launch) (g : vs_G) (jd : Nat → Nat) (b q cap : Nat) (ml n : Int) (f : Int → Int) (wr : va_W) : vs_JI l yJ5_isLatin1_aae02 (Cond.code yJ5_isLatin1_aae02 cJ5_isLatin1_aae02 1 (some .boolean) :: vs_ws) { frames := 0, cells := 0, slots := 0, locals := 40 } g jd [.ref b] (vs_tB g b q ml n cap f ++ wr) (fun (_ : Unit) => vs_tB g b q ml n cap f ++ wr) (fun v (_ : Unit) => v = 1) 0 0 := by
  refine vs_ofJ (y := yJ5_isLatin1_aae02) (cc := cJ5_isLatin1_aae02) (maxL := 1) (ret := (some .boolean)) (as := [.ref b]) (Wo := vs_tB g b q ml n cap f ++ wr) (mc := 0) (ms := 0) (Qc := fun A => vs_QI g A (fun (_ : Unit) => vs_tB g b q ml n cap f ++ wr) (fun v (_ : Unit) => v = 1)) (by decide +kernel) (Nat.le_of_ble_eq_true rfl) (fun p e s m below meth c A ls hC hr hlk hin hW hJ hl => ?_)
  have hC : CallFix p m c cJ5_isLatin1_aae02 1 s _ vs_ws RJ5 := hC
  have hl : lv_has ls 1 [(0, .ref b)] := hl
  refine vs_gets hC hW hJ.1 vz_J5_18 dJ5_isLatin1_aae02_0 ?_
  refine vs_if_eq hC 17 ⟨by omega, by omega⟩ dJ5_isLatin1_aae02_3 (by decide) (fun hc => absurd hc (by decide)) (fun hc => ?_)
  refine vs_aload_n hC hl 0 dJ5_isLatin1_aae02_6 rfl rfl ?_
  refine vs_get hC hW 0 rfl rfl vs_inJ4 1 (by decide) vf_J5_22 rfl dJ5_isLatin1_aae02_7 ?_
  refine vs_if_ne hC 17 ⟨by omega, by omega⟩ dJ5_isLatin1_aae02_10 (by decide) (fun hc => absurd hc (by decide)) (fun hc => ?_)
  refine vs_iconst hC dJ5_isLatin1_aae02_13 ?_
  refine vs_goto hC 18 dJ5_isLatin1_aae02_14 (by decide) ?_
  exact vs_zret () hC hr hlk hW rfl ⟨Or.inr rfl, rfl⟩ (Nat.le_of_ble_eq_true rfl) (Nat.le_of_ble_eq_true rfl) dJ5_isLatin1_aae02_18
set_option maxHeartbeats 4000000 in
set_option maxRecDepth 100000 in
theorem c_J1_canEncode_fc78d (l : Launch) (g : vs_G) (jd : Nat → Nat) (x : Int) (wr : va_W) (hx : 0 ≤ x ∧ x < 128) : vs_JI l yJ1_canEncode_fc78d (Cond.code yJ1_canEncode_fc78d cJ1_canEncode_fc78d 1 (some .boolean) :: vs_ws) { frames := 0, cells := 0, slots := 0, locals := 40 } g jd [.int (vs_I x)] (wr) (fun (_ : Unit) => wr) (fun v (_ : Unit) => v = 1) 0 0 := by
  refine vs_ofJ (y := yJ1_canEncode_fc78d) (cc := cJ1_canEncode_fc78d) (maxL := 1) (ret := (some .boolean)) (as := [.int (vs_I x)]) (Wo := wr) (mc := 0) (ms := 0) (Qc := fun A => vs_QI g A (fun (_ : Unit) => wr) (fun v (_ : Unit) => v = 1)) (by decide +kernel) (Nat.le_of_ble_eq_true rfl) (fun p e s m below meth c A ls hC hr hlk hin hW hJ hl => ?_)
  have hC : CallFix p m c cJ1_canEncode_fc78d 1 s _ vs_ws RJ1 := hC
  have hl : lv_has ls 1 [(0, .int (vs_I x))] := hl
  refine vs_iload_n hC hl 0 dJ1_canEncode_fc78d_0 rfl rfl ?_
  refine vs_sipush hC dJ1_canEncode_fc78d_1 (by decide +kernel) ?_
  refine vs_icmp_gt hC 11 ⟨by omega, by omega⟩ ⟨by omega, by omega⟩ dJ1_canEncode_fc78d_4 (by decide) (fun hc => absurd hc (by omega)) (fun hc => ?_)
  refine vs_iconst hC dJ1_canEncode_fc78d_7 ?_
  refine vs_goto hC 12 dJ1_canEncode_fc78d_8 (by decide) ?_
  exact vs_zret () hC hr hlk hW rfl ⟨Or.inr rfl, rfl⟩ (Nat.le_of_ble_eq_true rfl) (Nat.le_of_ble_eq_true rfl) dJ1_canEncode_fc78d_12
set_option maxHeartbeats 4000000 in
set_option maxRecDepth 100000 in
theorem c_J8_newLength_cabcc (l : Launch) (g : vs_G) (jd : Nat → Nat) (x y z : Int) (wr : va_W) (hx : 0 ≤ x ∧ x ≤ 100000) (hy : 0 < y ∧ y ≤ 100000) (hz : 0 ≤ z ∧ z ≤ 100000) : vs_JI l yJ8_newLength_cabcc (Cond.code yJ8_newLength_cabcc cJ8_newLength_cabcc 4 (some .int) :: vs_ws) { frames := 1, cells := 0, slots := 0, locals := 60 } g jd [.int (vs_I x), .int (vs_I y), .int (vs_I z)] (wr) (fun (_ : Unit) => wr) (fun v (_ : Unit) => v = x + max y z) 0 0 := by
  refine vs_ofJ (y := yJ8_newLength_cabcc) (cc := cJ8_newLength_cabcc) (maxL := 4) (ret := (some .int)) (as := [.int (vs_I x), .int (vs_I y), .int (vs_I z)]) (Wo := wr) (mc := 0) (ms := 0) (Qc := fun A => vs_QI g A (fun (_ : Unit) => wr) (fun v (_ : Unit) => v = x + max y z)) (by decide +kernel) (Nat.le_of_ble_eq_true rfl) (fun p e s m below meth c A ls hC hr hlk hin hW hJ hl => ?_)
  have hC : CallFix p m c cJ8_newLength_cabcc 4 s _ vs_ws RJ8 := hC
  have hl : lv_has ls 4 [(0, .int (vs_I x)), (1, .int (vs_I y)), (2, .int (vs_I z))] := hl
  refine vs_iload_n hC hl 0 dJ8_newLength_cabcc_0 rfl rfl ?_
  refine vs_iload_n hC hl 1 dJ8_newLength_cabcc_1 rfl rfl ?_
  refine vs_iload_n hC hl 2 dJ8_newLength_cabcc_2 rfl rfl ?_
  refine vs_mmax hC ⟨by omega, by omega⟩ ⟨by omega, by omega⟩ hl.1 vm_J8_194 (Nat.le_of_ble_eq_true rfl) (Nat.le_of_ble_eq_true rfl) (Nat.le_of_ble_eq_true rfl) (Nat.le_of_ble_eq_true rfl) dJ8_newLength_cabcc_3 ?_
  refine vs_iadd hC dJ8_newLength_cabcc_6 ?_
  refine vs_istore_n (L' := [(0, .int (vs_I x)), (1, .int (vs_I y)), (2, .int (vs_I z)), (3, .int (vs_I (x + (max y z))))]) hC hl [1, 2, 3, 0] dJ8_newLength_cabcc_7 rfl (by decide) rfl (fun ls hl => ?_)
  refine vs_iconst hC dJ8_newLength_cabcc_8 ?_
  refine vs_iload_n hC hl 3 dJ8_newLength_cabcc_9 rfl rfl ?_
  refine vs_icmp_ge hC 21 ⟨by omega, by omega⟩ ⟨by omega, by omega⟩ dJ8_newLength_cabcc_10 (by decide) (fun hc => absurd hc (by omega)) (fun hc => ?_)
  refine vs_iload_n hC hl 3 dJ8_newLength_cabcc_13 rfl rfl ?_
  refine vs_ldc (n := 2147483639) hC dJ8_newLength_cabcc_14 vc_J8_200 (by decide +kernel) ?_
  refine vs_icmp_gt hC 21 ⟨by omega, by omega⟩ ⟨by omega, by omega⟩ dJ8_newLength_cabcc_16 (by decide) (fun hc => absurd hc (by omega)) (fun hc => ?_)
  refine vs_iload_n hC hl 3 dJ8_newLength_cabcc_19 rfl rfl ?_
  exact vs_iret () hC hr hlk hW rfl rfl (Nat.le_of_ble_eq_true rfl) (Nat.le_of_ble_eq_true rfl) dJ8_newLength_cabcc_20
set_option maxHeartbeats 4000000 in
set_option maxRecDepth 100000 in
theorem c_J5_newCapacity_0f7a4 (l : Launch) (g : vs_G) (jd : Nat → Nat) (b q cap : Nat) (ml n : Int) (f : Int → Int) (wr : va_W) (x : Int) (hcp : cap ≤ 1000) (hx : (cap : Int) < x ∧ x ≤ 2 * (cap : Int) + 2) : vs_JI l yJ5_newCapacity_0f7a4 (Cond.code yJ5_newCapacity_0f7a4 cJ5_newCapacity_0f7a4 6 (some .int) :: vs_ws) { frames := 2, cells := 0, slots := 0, locals := 83 } g jd [.ref b, .int (vs_I x)] (vs_tB g b q ml n cap f ++ wr) (fun (_ : Unit) => vs_tB g b q ml n cap f ++ wr) (fun v (_ : Unit) => v = 2 * (cap : Int) + 2) 0 0 := by
  refine vs_ofJ (y := yJ5_newCapacity_0f7a4) (cc := cJ5_newCapacity_0f7a4) (maxL := 6) (ret := (some .int)) (as := [.ref b, .int (vs_I x)]) (Wo := vs_tB g b q ml n cap f ++ wr) (mc := 0) (ms := 0) (Qc := fun A => vs_QI g A (fun (_ : Unit) => vs_tB g b q ml n cap f ++ wr) (fun v (_ : Unit) => v = 2 * (cap : Int) + 2)) (by decide +kernel) (Nat.le_of_ble_eq_true rfl) (fun p e s m below meth c A ls hC hr hlk hin hW hJ hl => ?_)
  have hC : CallFix p m c cJ5_newCapacity_0f7a4 6 s _ vs_ws RJ5 := hC
  have hl : lv_has ls 6 [(0, .ref b), (1, .int (vs_I x))] := hl
  refine vs_aload_n hC hl 0 dJ5_newCapacity_0f7a4_0 rfl rfl ?_
  refine vs_get hC hW 0 rfl rfl vs_inJ4 0 (by decide) vf_J5_15 rfl dJ5_newCapacity_0f7a4_1 ?_
  refine vs_alenN hC hW 1 rfl dJ5_newCapacity_0f7a4_4 ?_
  refine vs_istore_n (L' := [(0, .ref b), (1, .int (vs_I x)), (2, .int (vs_I (cap : Int)))]) hC hl [1, 2, 0] dJ5_newCapacity_0f7a4_5 rfl (by decide) rfl (fun ls hl => ?_)
  refine vs_iload_n hC hl 1 dJ5_newCapacity_0f7a4_6 rfl rfl ?_
  refine vs_aload_n hC hl 0 dJ5_newCapacity_0f7a4_7 rfl rfl ?_
  refine vs_get hC hW 0 rfl rfl vs_inJ4 1 (by decide) vf_J5_22 rfl dJ5_newCapacity_0f7a4_8 ?_
  refine vs_ishl0 hC dJ5_newCapacity_0f7a4_11 ?_
  refine vs_istore_n (L' := [(0, .ref b), (1, .int (vs_I x)), (2, .int (vs_I (cap : Int))), (3, .int (vs_I x))]) hC hl [1, 2, 3, 0] dJ5_newCapacity_0f7a4_12 rfl (by decide) rfl (fun ls hl => ?_)
  refine vs_iload_n hC hl 3 dJ5_newCapacity_0f7a4_13 rfl rfl ?_
  refine vs_iload_n hC hl 2 dJ5_newCapacity_0f7a4_14 rfl rfl ?_
  refine vs_isub hC dJ5_newCapacity_0f7a4_15 ?_
  refine vs_istore (L' := [(0, .ref b), (1, .int (vs_I x)), (2, .int (vs_I (cap : Int))), (3, .int (vs_I x)), (4, .int (vs_I (x - (cap : Int))))]) hC hl [1, 2, 3, 4, 0] dJ5_newCapacity_0f7a4_16 (by decide) rfl (fun ls hl => ?_)
  refine vs_iload_n hC hl 2 dJ5_newCapacity_0f7a4_18 rfl rfl ?_
  refine vs_iload hC hl 4 dJ5_newCapacity_0f7a4_19 rfl ?_
  refine vs_iload_n hC hl 2 dJ5_newCapacity_0f7a4_21 rfl rfl ?_
  refine vs_iconst hC dJ5_newCapacity_0f7a4_22 ?_
  refine vs_aload_n hC hl 0 dJ5_newCapacity_0f7a4_23 rfl rfl ?_
  refine vs_get hC hW 0 rfl rfl vs_inJ4 1 (by decide) vf_J5_22 rfl dJ5_newCapacity_0f7a4_24 ?_
  refine vs_ishl0 hC dJ5_newCapacity_0f7a4_27 ?_
  refine vs_iadd hC dJ5_newCapacity_0f7a4_28 ?_
  refine vs_jcallSI [.int (vs_I (cap : Int)), .int (vs_I (x - (cap : Int))), .int (vs_I ((cap : Int) + 2))] hC hW hJ vk_J8_newLength_cabcc vm_J5_114 (c_J8_newLength_cabcc l g jd (cap : Int) (x - (cap : Int)) ((cap : Int) + 2) (vs_tB g b q ml n cap f ++ wr) (by omega) (by omega) (by omega)) rfl hl.1 rfl ⟨rfl, rfl⟩ ⟨Nat.le_of_ble_eq_true rfl, Nat.le_of_ble_eq_true rfl⟩ ⟨Nat.le_of_ble_eq_true rfl, Nat.le_of_ble_eq_true rfl⟩ (Nat.le_of_ble_eq_true rfl) dJ5_newCapacity_0f7a4_29 (fun v1 _ H locs hw hW => ?_)
  have hv : v1 = 2 * (cap : Int) + 2 := by rw [hw]; omega
  subst hv
  clear hw
  refine vs_istore (L' := [(0, .ref b), (1, .int (vs_I x)), (2, .int (vs_I (cap : Int))), (3, .int (vs_I x)), (4, .int (vs_I (x - (cap : Int)))), (5, .int (vs_I (2 * (cap : Int) + 2)))]) hC hl [1, 2, 3, 4, 5, 0] dJ5_newCapacity_0f7a4_32 (by decide) rfl (fun ls hl => ?_)
  refine vs_iload hC hl 5 dJ5_newCapacity_0f7a4_34 rfl ?_
  refine vs_ldc (n := 2147483647) hC dJ5_newCapacity_0f7a4_36 vc_J5_39 (by decide +kernel) ?_
  refine vs_icmp_ne hC 51 ⟨by omega, by omega⟩ ⟨by omega, by omega⟩ dJ5_newCapacity_0f7a4_38 (by decide) (fun hc => ?_) (fun hc => absurd hc (by omega))
  refine vs_iload hC hl 5 dJ5_newCapacity_0f7a4_51 rfl ?_
  refine vs_aload_n hC hl 0 dJ5_newCapacity_0f7a4_53 rfl rfl ?_
  refine vs_get hC hW 0 rfl rfl vs_inJ4 1 (by decide) vf_J5_22 rfl dJ5_newCapacity_0f7a4_54 ?_
  refine vs_ishr0 hC dJ5_newCapacity_0f7a4_57 ?_
  exact vs_iret () hC hr hlk hW rfl rfl (Nat.le_of_ble_eq_true rfl) (Nat.le_of_ble_eq_true rfl) dJ5_newCapacity_0f7a4_58
set_option maxHeartbeats 4000000 in
set_option maxRecDepth 100000 in
theorem c_J7_copyOf_9075b (l : Launch) (g : vs_G) (jd : Nat → Nat) (q cap N k : Nat) (f : Int → Int) (Wo : va_W) (mc ms : Nat) (hk : Wo[k]? = some (q, .inl (g.2 6, cap, .inl (vs_en f)))) (hf : vs_by f cap) (hN : cap < N ∧ N ≤ 60000) (hm : 1 ≤ mc ∧ N ≤ ms) : vs_JR l yJ7_copyOf_9075b (Cond.code yJ7_copyOf_9075b cJ7_copyOf_9075b 3 (some (.array .byte)) :: vs_ws) { frames := 1, cells := mc, slots := ms, locals := 60 } g jd [.ref q, .int (vs_I (N : Int))] (Wo) (fun (u : Nat) => [(u, .inl (g.2 6, N, .inl (vs_en (vs_cpB f (fun _ => 0) cap))))] ++ Wo) (fun u => u) (fun _ => True) mc ms := by
  refine vs_ofJ (y := yJ7_copyOf_9075b) (cc := cJ7_copyOf_9075b) (maxL := 3) (ret := (some (.array .byte))) (as := [.ref q, .int (vs_I (N : Int))]) (Wo := Wo) (mc := mc) (ms := ms) (Qc := fun A => vs_QR g A (fun (u : Nat) => [(u, .inl (g.2 6, N, .inl (vs_en (vs_cpB f (fun _ => 0) cap))))] ++ Wo) (fun u => u) (fun _ => True)) (by decide +kernel) (Nat.le_of_ble_eq_true rfl) (fun p e s m below meth c A ls hC hr hlk hin hW hJ hl => ?_)
  have hC : CallFix p m c cJ7_copyOf_9075b 3 s _ vs_ws RJ7 := hC
  have hl : lv_has ls 3 [(0, .ref q), (1, .int (vs_I (N : Int)))] := hl
  refine vs_iload_n hC hl 1 dJ7_copyOf_9075b_0 rfl rfl ?_
  refine vs_aload_n hC hl 0 dJ7_copyOf_9075b_1 rfl rfl ?_
  refine vs_alenN hC hW k hk dJ7_copyOf_9075b_2 ?_
  refine vs_icmp_ne hC 14 ⟨by omega, by omega⟩ ⟨by omega, by omega⟩ dJ7_copyOf_9075b_3 (by decide) (fun hc => ?_) (fun hc => absurd hc (by omega))
  refine vs_iload_n hC hl 1 dJ7_copyOf_9075b_14 rfl rfl ?_
  refine vs_newaB (x := []) (r := Wo) hC hW rfl (by omega) (show _ ≤ mc by first | omega | (dsimp only; omega)) (show _ ≤ ms by first | omega | (dsimp only; omega)) dJ7_copyOf_9075b_15 (fun u H hW => ?_)
  have hW : vs_Wd g A s.heap ([(u, .inl (g.2 6, N, .inl (vs_en (fun _ => 0))))] ++ Wo) H [] s := hW
  have hk : ([(u, .inl (g.2 6, N, .inl (vs_en (fun _ => 0))))] ++ Wo)[k + 1]? = some (q, .inl (g.2 6, cap, .inl (vs_en f))) := hk
  refine vs_astore_n (L' := [(0, .ref q), (1, .int (vs_I (N : Int))), (2, .ref u)]) hC hl [1, 2, 0] dJ7_copyOf_9075b_17 rfl (by decide) rfl (fun ls hl => ?_)
  refine vs_aload_n hC hl 0 dJ7_copyOf_9075b_18 rfl rfl ?_
  refine vs_iconst hC dJ7_copyOf_9075b_19 ?_
  refine vs_aload_n hC hl 2 dJ7_copyOf_9075b_20 rfl rfl ?_
  refine vs_iconst hC dJ7_copyOf_9075b_21 ?_
  refine vs_aload_n hC hl 0 dJ7_copyOf_9075b_22 rfl rfl ?_
  refine vs_alenN hC hW (k + 1) hk dJ7_copyOf_9075b_23 ?_
  refine vs_iload_n hC hl 1 dJ7_copyOf_9075b_24 rfl rfl ?_
  refine vs_mmin hC ⟨by omega, by omega⟩ ⟨by omega, by omega⟩ hl.1 vm_J7_304 (Nat.le_of_ble_eq_true rfl) (Nat.le_of_ble_eq_true rfl) (show _ ≤ mc by first | omega | (dsimp only; omega)) (show _ ≤ ms by first | omega | (dsimp only; omega)) dJ7_copyOf_9075b_25 ?_
  have e0 : min (cap : Int) (N : Int) = (cap : Int) := by omega
  rw [e0]
  refine vs_acopyB (Wo' := [(u, .inl (g.2 6, N, .inl (vs_en (vs_cpB f (fun _ => 0) cap))))] ++ Wo) hC hW (k + 1) 0 hk rfl ⟨by omega, by omega, by omega, by omega⟩ hf hl.1 vm_J7_150 rfl (Nat.le_of_ble_eq_true rfl) (Nat.le_of_ble_eq_true rfl) dJ7_copyOf_9075b_28 (fun H locs hW => ?_)
  refine vs_aload_n hC hl 2 dJ7_copyOf_9075b_31 rfl rfl ?_
  exact vs_rret u hC hr (.inr ⟨_, rfl⟩) hlk hW rfl trivial (by omega) (by omega) dJ7_copyOf_9075b_32
theorem vs_p321 {x y z : Nat × va_E} {r : va_W} : (x :: y :: z :: r).Perm (z :: y :: x :: r) := ((List.Perm.swap y x (z :: r)).trans ((List.Perm.swap z x r).cons y)).trans (List.Perm.swap z y (x :: r))
theorem vs_gr1 {cap : Nat} {k : Int} (h : k ≤ 2 * (cap : Int) + 2) : k ≤ (vs_gr cap k : Int) ∧ vs_gr cap k ≤ 2 * cap + 2 ∧ cap ≤ vs_gr cap k := by unfold vs_gr; split <;> omega
theorem vs_by_gf {f : Int → Int} {cap : Nat} (h : vs_by f cap) (k : Int) : vs_by (vs_gf cap k f) (vs_gr cap k) := by
  intro j h0 h1
  unfold vs_gf
  unfold vs_gr at h1
  by_cases q : k ≤ (cap : Int)
  · rw [if_pos q]; rw [if_pos q] at h1; exact h j h0 h1
  · rw [if_neg q]; unfold vs_cpB; by_cases q2 : 0 ≤ j ∧ j < (cap : Int)
    · rw [if_pos q2]; exact h j q2.1 q2.2
    · rw [if_neg q2]; show (-128 : Int) ≤ 0 ∧ (0 : Int) < 128; decide
theorem vs_by_up {f : Int → Int} {n i x : Int} (h : vs_by f n) (hx : -128 ≤ x ∧ x < 128) : vs_by (vs_up f i x) n := by
  intro j h0 h1
  unfold vs_up
  by_cases q : j = i
  · rw [if_pos q]; exact hx
  · rw [if_neg q]; exact h j h0 h1
set_option maxHeartbeats 4000000 in
set_option maxRecDepth 100000 in
theorem c_J5_ensureCapacityInternal_d00df (l : Launch) (g : vs_G) (jd : Nat → Nat) (b q cap : Nat) (ml n : Int) (f : Int → Int) (wr : va_W) (x : Int) (mc ms : Nat) (hcp : cap ≤ 1000) (hf : vs_by f cap) (hx : 0 ≤ x ∧ x ≤ 2 * (cap : Int) + 2) (hm : x ≤ (cap : Int) ∨ (1 ≤ mc ∧ 2 * cap + 2 ≤ ms)) : vs_JV l yJ5_ensureCapacityInternal_d00df (Cond.code yJ5_ensureCapacityInternal_d00df cJ5_ensureCapacityInternal_d00df 3 none :: vs_ws) { frames := 3, cells := mc, slots := ms, locals := 108 } g jd [.ref b, .int (vs_I x)] (vs_tB g b q ml n cap f ++ wr) (fun (u : Nat) => vs_tB g b u ml n (vs_gr cap x) (vs_gf cap x f) ++ wr) (fun u => x ≤ (cap : Int) → u = q) mc ms := by
  refine vs_ofJ (y := yJ5_ensureCapacityInternal_d00df) (cc := cJ5_ensureCapacityInternal_d00df) (maxL := 3) (ret := none) (as := [.ref b, .int (vs_I x)]) (Wo := vs_tB g b q ml n cap f ++ wr) (mc := mc) (ms := ms) (Qc := fun A => vs_QV g A (fun (u : Nat) => vs_tB g b u ml n (vs_gr cap x) (vs_gf cap x f) ++ wr) (fun u => x ≤ (cap : Int) → u = q)) (by decide +kernel) (Nat.le_of_ble_eq_true rfl) (fun p e s m below meth c A ls hC hr hlk hin hW hJ hl => ?_)
  have hC : CallFix p m c cJ5_ensureCapacityInternal_d00df 3 s _ vs_ws RJ5 := hC
  have hl : lv_has ls 3 [(0, .ref b), (1, .int (vs_I x))] := hl
  by_cases hq : x ≤ (cap : Int)
  · refine vs_aload_n hC hl 0 dJ5_ensureCapacityInternal_d00df_0 rfl rfl ?_
    refine vs_get hC hW 0 rfl rfl vs_inJ4 0 (by decide) vf_J5_15 rfl dJ5_ensureCapacityInternal_d00df_1 ?_
    refine vs_alenN hC hW 1 rfl dJ5_ensureCapacityInternal_d00df_4 ?_
    refine vs_aload_n hC hl 0 dJ5_ensureCapacityInternal_d00df_5 rfl rfl ?_
    refine vs_get hC hW 0 rfl rfl vs_inJ4 1 (by decide) vf_J5_22 rfl dJ5_ensureCapacityInternal_d00df_6 ?_
    refine vs_ishr0 hC dJ5_ensureCapacityInternal_d00df_9 ?_
    refine vs_istore_n (L' := [(0, .ref b), (1, .int (vs_I x)), (2, .int (vs_I (cap : Int)))]) hC hl [1, 2, 0] dJ5_ensureCapacityInternal_d00df_10 rfl (by decide) rfl (fun ls hl => ?_)
    refine vs_iload_n hC hl 1 dJ5_ensureCapacityInternal_d00df_11 rfl rfl ?_
    refine vs_iload_n hC hl 2 dJ5_ensureCapacityInternal_d00df_12 rfl rfl ?_
    refine vs_isub hC dJ5_ensureCapacityInternal_d00df_13 ?_
    refine vs_if_le hC 38 ⟨by omega, by omega⟩ dJ5_ensureCapacityInternal_d00df_14 (by decide) (fun hc => ?_) (fun hc => absurd hc (by omega))
    exact vs_vret q hC hr hlk hW (by unfold vs_gr vs_gf; rw [if_pos hq, if_pos hq]) (fun _ => rfl) (show _ ≤ mc by first | omega | (dsimp only; omega)) (show _ ≤ ms by first | omega | (dsimp only; omega)) dJ5_ensureCapacityInternal_d00df_38
  · refine vs_aload_n hC hl 0 dJ5_ensureCapacityInternal_d00df_0 rfl rfl ?_
    refine vs_get hC hW 0 rfl rfl vs_inJ4 0 (by decide) vf_J5_15 rfl dJ5_ensureCapacityInternal_d00df_1 ?_
    refine vs_alenN hC hW 1 rfl dJ5_ensureCapacityInternal_d00df_4 ?_
    refine vs_aload_n hC hl 0 dJ5_ensureCapacityInternal_d00df_5 rfl rfl ?_
    refine vs_get hC hW 0 rfl rfl vs_inJ4 1 (by decide) vf_J5_22 rfl dJ5_ensureCapacityInternal_d00df_6 ?_
    refine vs_ishr0 hC dJ5_ensureCapacityInternal_d00df_9 ?_
    refine vs_istore_n (L' := [(0, .ref b), (1, .int (vs_I x)), (2, .int (vs_I (cap : Int)))]) hC hl [1, 2, 0] dJ5_ensureCapacityInternal_d00df_10 rfl (by decide) rfl (fun ls hl => ?_)
    refine vs_iload_n hC hl 1 dJ5_ensureCapacityInternal_d00df_11 rfl rfl ?_
    refine vs_iload_n hC hl 2 dJ5_ensureCapacityInternal_d00df_12 rfl rfl ?_
    refine vs_isub hC dJ5_ensureCapacityInternal_d00df_13 ?_
    refine vs_if_le hC 38 ⟨by omega, by omega⟩ dJ5_ensureCapacityInternal_d00df_14 (by decide) (fun hc => absurd hc (by omega)) (fun hc => ?_)
    refine vs_aload_n hC hl 0 dJ5_ensureCapacityInternal_d00df_17 rfl rfl ?_
    refine vs_aload_n hC hl 0 dJ5_ensureCapacityInternal_d00df_18 rfl rfl ?_
    refine vs_get hC hW 0 rfl rfl vs_inJ4 0 (by decide) vf_J5_15 rfl dJ5_ensureCapacityInternal_d00df_19 ?_
    refine vs_aload_n hC hl 0 dJ5_ensureCapacityInternal_d00df_22 rfl rfl ?_
    refine vs_iload_n hC hl 1 dJ5_ensureCapacityInternal_d00df_23 rfl rfl ?_
    refine vs_jcallUI [.int (vs_I x)] hC hW hJ 0 rfl rfl vkU_J5_newCapacity_0f7a4 vm_J5_104 (c_J5_newCapacity_0f7a4 l g jd b q cap ml n f wr x hcp ⟨by omega, hx.2⟩) rfl hl.1 rfl ⟨rfl, rfl⟩ ⟨Nat.le_of_ble_eq_true rfl, Nat.le_of_ble_eq_true rfl⟩ ⟨show _ ≤ mc by first | omega | (dsimp only; omega), show _ ≤ ms by first | omega | (dsimp only; omega)⟩ (Nat.le_of_ble_eq_true rfl) dJ5_ensureCapacityInternal_d00df_24 (fun v1 _ H locs hw hW => ?_)
    have e0 : v1 = ((2 * cap + 2 : Nat) : Int) := by omega
    subst e0
    clear hw
    refine vs_aload_n hC hl 0 dJ5_ensureCapacityInternal_d00df_27 rfl rfl ?_
    refine vs_get hC hW 0 rfl rfl vs_inJ4 1 (by decide) vf_J5_22 rfl dJ5_ensureCapacityInternal_d00df_28 ?_
    refine vs_ishl0 hC dJ5_ensureCapacityInternal_d00df_31 ?_
    refine vs_jcallSR [.ref q, .int (vs_I ((2 * cap + 2 : Nat) : Int))] hC hW hJ vk_J7_copyOf_9075b vm_J5_108 (c_J7_copyOf_9075b l g jd q cap (2 * cap + 2) 1 f (vs_tB g b q ml n cap f ++ wr) mc ms rfl hf ⟨by omega, by omega⟩ (by omega)) rfl hl.1 rfl ⟨rfl, rfl⟩ ⟨Nat.le_of_ble_eq_true rfl, Nat.le_of_ble_eq_true rfl⟩ ⟨show _ ≤ mc by first | omega | (dsimp only; omega), show _ ≤ ms by first | omega | (dsimp only; omega)⟩ (Nat.le_of_ble_eq_true rfl) dJ5_ensureCapacityInternal_d00df_32 (fun u H locs hw hW => ?_)
    refine vs_putG (Wo' := (u, .inl (g.2 6, 2 * cap + 2, .inl (vs_en (vs_cpB f (fun _ => 0) cap)))) :: (b, .inr (1, [.ref u, .int (vs_I 0), .int (vs_I ml), .int (vs_I n)])) :: (q, .inl (g.2 6, cap, .inl (vs_en f))) :: wr) hC hW 1 rfl rfl vs_inJ4 tyJ4_ok nmJ4 0 (by decide) vf_J5_15 rfl rfl rfl (Nat.le_of_ble_eq_true rfl) rfl dJ5_ensureCapacityInternal_d00df_35 (fun H locs hW => ?_)
    have hW := vs_Wd.sub (w1 := [(q, .inl (g.2 6, cap, .inl (vs_en f)))]) (w2 := (b, .inr (1, [.ref u, .int (vs_I 0), .int (vs_I ml), .int (vs_I n)])) :: (u, .inl (g.2 6, 2 * cap + 2, .inl (vs_en (vs_cpB f (fun _ => 0) cap)))) :: wr) (vs_Wd.perm2 hW vs_p321)
    exact vs_vret u hC hr hlk hW (by unfold vs_gr vs_gf; rw [if_neg hq, if_neg hq]; rfl) (fun h => absurd h hq) (show _ ≤ mc by first | omega | (dsimp only; omega)) (show _ ≤ ms by first | omega | (dsimp only; omega)) dJ5_ensureCapacityInternal_d00df_38
set_option maxHeartbeats 4000000 in
set_option maxRecDepth 100000 in
theorem c_J5_append_3fe6f (l : Launch) (g : vs_G) (jd : Nat → Nat) (b q cap : Nat) (ml n : Int) (f : Int → Int) (wr : va_W) (x : Int) (mc ms : Nat) (hcp : cap ≤ 1000) (hf : vs_by f cap) (hn : 0 ≤ n ∧ n ≤ (cap : Int)) (hx : 0 ≤ x ∧ x < 128) (hm : n + 1 ≤ (cap : Int) ∨ (1 ≤ mc ∧ 2 * cap + 2 ≤ ms)) : vs_JR l yJ5_append_3fe6f (Cond.code yJ5_append_3fe6f cJ5_append_3fe6f 2 (some (.object "java/lang/AbstractStringBuilder")) :: vs_ws) { frames := 4, cells := mc, slots := ms, locals := 130 } g jd [.ref b, .int (vs_I x)] (vs_tB g b q ml n cap f ++ wr) (fun (u : Nat) => vs_tB g b u ml (n + 1) (vs_gr cap (n + 1)) (vs_up (vs_gf cap (n + 1) f) n x) ++ wr) (fun _ => b) (fun _ => True) mc ms := by
  refine vs_ofJ (y := yJ5_append_3fe6f) (cc := cJ5_append_3fe6f) (maxL := 2) (ret := (some (.object "java/lang/AbstractStringBuilder"))) (as := [.ref b, .int (vs_I x)]) (Wo := vs_tB g b q ml n cap f ++ wr) (mc := mc) (ms := ms) (Qc := fun A => vs_QR g A (fun (u : Nat) => vs_tB g b u ml (n + 1) (vs_gr cap (n + 1)) (vs_up (vs_gf cap (n + 1) f) n x) ++ wr) (fun _ => b) (fun _ => True)) (by decide +kernel) (Nat.le_of_ble_eq_true rfl) (fun p e s m below meth c A ls hC hr hlk hin hW hJ hl => ?_)
  have hC : CallFix p m c cJ5_append_3fe6f 2 s _ vs_ws RJ5 := hC
  have hl : lv_has ls 2 [(0, .ref b), (1, .int (vs_I x))] := hl
  refine vs_aload_n hC hl 0 dJ5_append_3fe6f_0 rfl rfl ?_
  refine vs_aload_n hC hl 0 dJ5_append_3fe6f_1 rfl rfl ?_
  refine vs_get hC hW 0 rfl rfl vs_inJ4 3 (by decide) vf_J5_79 rfl dJ5_append_3fe6f_2 ?_
  refine vs_iconst hC dJ5_append_3fe6f_5 ?_
  refine vs_iadd hC dJ5_append_3fe6f_6 ?_
  refine vs_jcallUV [.int (vs_I (n + 1))] hC hW hJ 0 rfl rfl vkU_J5_ensureCapacityInternal_d00df vm_J5_100 (c_J5_ensureCapacityInternal_d00df l g jd b q cap ml n f wr (n + 1) mc ms hcp hf ⟨by omega, by omega⟩ hm) rfl hl.1 rfl ⟨rfl, rfl⟩ ⟨Nat.le_of_ble_eq_true rfl, Nat.le_of_ble_eq_true rfl⟩ ⟨show _ ≤ mc by first | omega | (dsimp only; omega), show _ ≤ ms by first | omega | (dsimp only; omega)⟩ (Nat.le_of_ble_eq_true rfl) dJ5_append_3fe6f_7 (fun u H locs hw hW => ?_)
  have hgr := vs_gr1 (cap := cap) (k := n + 1) (by omega)
  have hfb := vs_by_gf hf (n + 1)
  refine vs_aload_n hC hl 0 dJ5_append_3fe6f_10 rfl rfl ?_
  refine vs_jcallUI [] hC hW hJ 0 rfl rfl vkU_J5_isLatin1_aae02 vm_J5_83 (c_J5_isLatin1_aae02 l g jd b u (vs_gr cap (n + 1)) ml n (vs_gf cap (n + 1) f) wr) rfl hl.1 rfl ⟨rfl, rfl⟩ ⟨Nat.le_of_ble_eq_true rfl, Nat.le_of_ble_eq_true rfl⟩ ⟨show _ ≤ mc by first | omega | (dsimp only; omega), show _ ≤ ms by first | omega | (dsimp only; omega)⟩ (Nat.le_of_ble_eq_true rfl) dJ5_append_3fe6f_11 (fun v1 _ H locs hw hW => ?_)
  subst hw
  refine vs_if_eq hC 45 ⟨by omega, by omega⟩ dJ5_append_3fe6f_14 (by decide) (fun hc => absurd hc (by decide)) (fun hc => ?_)
  refine vs_iload_n hC hl 1 dJ5_append_3fe6f_17 rfl rfl ?_
  refine vs_jcallSI [.int (vs_I x)] hC hW hJ vk_J1_canEncode_fc78d vm_J5_191 (c_J1_canEncode_fc78d l g jd x (vs_tB g b u ml n (vs_gr cap (n + 1)) (vs_gf cap (n + 1) f) ++ wr) (by omega)) rfl hl.1 rfl ⟨rfl, rfl⟩ ⟨Nat.le_of_ble_eq_true rfl, Nat.le_of_ble_eq_true rfl⟩ ⟨show _ ≤ mc by first | omega | (dsimp only; omega), show _ ≤ ms by first | omega | (dsimp only; omega)⟩ (Nat.le_of_ble_eq_true rfl) dJ5_append_3fe6f_18 (fun v1 _ H locs hw hW => ?_)
  subst hw
  refine vs_if_eq hC 45 ⟨by omega, by omega⟩ dJ5_append_3fe6f_21 (by decide) (fun hc => absurd hc (by decide)) (fun hc => ?_)
  refine vs_aload_n hC hl 0 dJ5_append_3fe6f_24 rfl rfl ?_
  refine vs_get hC hW 0 rfl rfl vs_inJ4 0 (by decide) vf_J5_15 rfl dJ5_append_3fe6f_25 ?_
  refine vs_aload_n hC hl 0 dJ5_append_3fe6f_28 rfl rfl ?_
  refine vs_dup hC dJ5_append_3fe6f_29 rfl ?_
  refine vs_get hC hW 0 rfl rfl vs_inJ4 3 (by decide) vf_J5_79 rfl dJ5_append_3fe6f_30 ?_
  refine vs_dup_x1 hC dJ5_append_3fe6f_33 rfl rfl ?_
  refine vs_iconst hC dJ5_append_3fe6f_34 ?_
  refine vs_iadd hC dJ5_append_3fe6f_35 ?_
  refine vs_putG (Wo' := vs_tB g b u ml (n + 1) (vs_gr cap (n + 1)) (vs_gf cap (n + 1) f) ++ wr) hC hW 0 rfl rfl vs_inJ4 tyJ4_ok nmJ4 3 (by decide) vf_J5_79 rfl rfl rfl (Nat.le_of_ble_eq_true rfl) rfl dJ5_append_3fe6f_36 (fun H locs hW => ?_)
  refine vs_iload_n hC hl 1 dJ5_append_3fe6f_39 rfl rfl ?_
  refine vs_i2b hC (by omega) dJ5_append_3fe6f_40 ?_
  refine vs_bastN (Wo' := vs_tB g b u ml (n + 1) (vs_gr cap (n + 1)) (vs_up (vs_gf cap (n + 1) f) n x) ++ wr) hC hW 1 rfl (by omega) (by omega) rfl dJ5_append_3fe6f_41 (fun H locs hW => ?_)
  refine vs_goto hC 75 dJ5_append_3fe6f_42 (by decide) ?_
  refine vs_aload_n hC hl 0 dJ5_append_3fe6f_75 rfl rfl ?_
  exact vs_rret u hC hr (.inl ⟨_, rfl⟩) hlk hW rfl trivial (show _ ≤ mc by first | omega | (dsimp only; omega)) (show _ ≤ ms by first | omega | (dsimp only; omega)) dJ5_append_3fe6f_76
set_option maxHeartbeats 4000000 in
set_option maxRecDepth 100000 in
theorem c_J4_append_cf468 (l : Launch) (g : vs_G) (jd : Nat → Nat) (b q cap : Nat) (ml n : Int) (f : Int → Int) (wr : va_W) (x : Int) (mc ms : Nat) (hcp : cap ≤ 1000) (hf : vs_by f cap) (hn : 0 ≤ n ∧ n ≤ (cap : Int)) (hx : 0 ≤ x ∧ x < 128) (hm : n + 1 ≤ (cap : Int) ∨ (1 ≤ mc ∧ 2 * cap + 2 ≤ ms)) : vs_JR l yJ4_append_cf468 (Cond.code yJ4_append_cf468 cJ4_append_cf468 2 (some (.object "java/lang/StringBuilder")) :: vs_ws) { frames := 5, cells := mc, slots := ms, locals := 151 } g jd [.ref b, .int (vs_I x)] (vs_tB g b q ml n cap f ++ wr) (fun (u : Nat) => vs_tB g b u ml (n + 1) (vs_gr cap (n + 1)) (vs_up (vs_gf cap (n + 1) f) n x) ++ wr) (fun _ => b) (fun _ => True) mc ms := by
  refine vs_ofJ (y := yJ4_append_cf468) (cc := cJ4_append_cf468) (maxL := 2) (ret := (some (.object "java/lang/StringBuilder"))) (as := [.ref b, .int (vs_I x)]) (Wo := vs_tB g b q ml n cap f ++ wr) (mc := mc) (ms := ms) (Qc := fun A => vs_QR g A (fun (u : Nat) => vs_tB g b u ml (n + 1) (vs_gr cap (n + 1)) (vs_up (vs_gf cap (n + 1) f) n x) ++ wr) (fun _ => b) (fun _ => True)) (by decide +kernel) (Nat.le_of_ble_eq_true rfl) (fun p e s m below meth c A ls hC hr hlk hin hW hJ hl => ?_)
  have hC : CallFix p m c cJ4_append_cf468 2 s _ vs_ws RJ4 := hC
  have hl : lv_has ls 2 [(0, .ref b), (1, .int (vs_I x))] := hl
  refine vs_aload_n hC hl 0 dJ4_append_cf468_0 rfl rfl ?_
  refine vs_iload_n hC hl 1 dJ4_append_cf468_1 rfl rfl ?_
  refine vs_jcallSUR [.int (vs_I x)] hC hW hJ 0 rfl rfl vkSU_J5_append_3fe6f vm_J4_50 (c_J5_append_3fe6f l g jd b q cap ml n f wr x mc ms hcp hf hn hx hm) rfl hl.1 rfl ⟨rfl, rfl⟩ ⟨Nat.le_of_ble_eq_true rfl, Nat.le_of_ble_eq_true rfl⟩ ⟨show _ ≤ mc by first | omega | (dsimp only; omega), show _ ≤ ms by first | omega | (dsimp only; omega)⟩ (Nat.le_of_ble_eq_true rfl) dJ4_append_cf468_2 (fun u H locs hw hW => ?_)
  refine vs_pop hC dJ4_append_cf468_5 rfl ?_
  refine vs_aload_n hC hl 0 dJ4_append_cf468_6 rfl rfl ?_
  exact vs_rret u hC hr (.inl ⟨_, rfl⟩) hlk hW rfl trivial (show _ ≤ mc by first | omega | (dsimp only; omega)) (show _ ≤ ms by first | omega | (dsimp only; omega)) dJ4_append_cf468_7
set_option maxHeartbeats 4000000 in
set_option maxRecDepth 100000 in
theorem c_J6_stringSize_0f7a4 (l : Launch) (g : vs_G) (jd : Nat → Nat) (x : Int) (wr : va_W) (hx : 0 ≤ x ∧ x < 100) : vs_JI l yJ6_stringSize_0f7a4 (Cond.code yJ6_stringSize_0f7a4 cJ6_stringSize_0f7a4 4 (some .int) :: vs_ws) { frames := 0, cells := 0, slots := 0, locals := 40 } g jd [.int (vs_I x)] (wr) (fun (_ : Unit) => wr) (fun v (_ : Unit) => v = vs_dg x) 0 0 := by
  refine vs_ofJ (y := yJ6_stringSize_0f7a4) (cc := cJ6_stringSize_0f7a4) (maxL := 4) (ret := (some .int)) (as := [.int (vs_I x)]) (Wo := wr) (mc := 0) (ms := 0) (Qc := fun A => vs_QI g A (fun (_ : Unit) => wr) (fun v (_ : Unit) => v = vs_dg x)) (by decide +kernel) (Nat.le_of_ble_eq_true rfl) (fun p e s m below meth c A ls hC hr hlk hin hW hJ hl => ?_)
  have hC : CallFix p m c cJ6_stringSize_0f7a4 4 s _ vs_ws RJ6 := hC
  have hl : lv_has ls 4 [(0, .int (vs_I x))] := hl
  by_cases hq : x < 10
  · refine vs_iconst hC dJ6_stringSize_0f7a4_0 ?_
    refine vs_istore_n (L' := [(0, .int (vs_I x)), (1, .int (vs_I 1))]) hC hl [1, 0] dJ6_stringSize_0f7a4_1 rfl (by decide) rfl (fun ls hl => ?_)
    refine vs_iload_n hC hl 0 dJ6_stringSize_0f7a4_2 rfl rfl ?_
    refine vs_if_lt hC 11 ⟨by omega, by omega⟩ dJ6_stringSize_0f7a4_3 (by decide) (fun hc => absurd hc (by omega)) (fun hc => ?_)
    refine vs_iconst hC dJ6_stringSize_0f7a4_6 ?_
    refine vs_istore_n (L' := [(0, .int (vs_I x)), (1, .int (vs_I 0))]) hC hl [1, 0] dJ6_stringSize_0f7a4_7 rfl (by decide) rfl (fun ls hl => ?_)
    refine vs_iload_n hC hl 0 dJ6_stringSize_0f7a4_8 rfl rfl ?_
    refine vs_ineg hC dJ6_stringSize_0f7a4_9 ?_
    refine vs_istore_n (L' := [(0, .int (vs_I (-x))), (1, .int (vs_I 0))]) hC hl [0, 1] dJ6_stringSize_0f7a4_10 rfl (by decide) rfl (fun ls hl => ?_)
    refine vs_bipush hC dJ6_stringSize_0f7a4_11 (by decide +kernel) ?_
    refine vs_istore_n (L' := [(0, .int (vs_I (-x))), (1, .int (vs_I 0)), (2, .int (vs_I (-10)))]) hC hl [1, 2, 0] dJ6_stringSize_0f7a4_13 rfl (by decide) rfl (fun ls hl => ?_)
    refine vs_iconst hC dJ6_stringSize_0f7a4_14 ?_
    refine vs_istore_n (L' := [(0, .int (vs_I (-x))), (1, .int (vs_I 0)), (2, .int (vs_I (-10))), (3, .int (vs_I 1))]) hC hl [1, 2, 3, 0] dJ6_stringSize_0f7a4_15 rfl (by decide) rfl (fun ls hl => ?_)
    refine vs_iload_n hC hl 3 dJ6_stringSize_0f7a4_16 rfl rfl ?_
    refine vs_bipush hC dJ6_stringSize_0f7a4_17 (by decide +kernel) ?_
    refine vs_icmp_ge hC 42 ⟨by omega, by omega⟩ ⟨by omega, by omega⟩ dJ6_stringSize_0f7a4_19 (by decide) (fun hc => absurd hc (by decide)) (fun hc => ?_)
    refine vs_iload_n hC hl 0 dJ6_stringSize_0f7a4_22 rfl rfl ?_
    refine vs_iload_n hC hl 2 dJ6_stringSize_0f7a4_23 rfl rfl ?_
    refine vs_icmp_le hC 31 ⟨by omega, by omega⟩ ⟨by omega, by omega⟩ dJ6_stringSize_0f7a4_24 (by decide) (fun hc => absurd hc (by omega)) (fun hc => ?_)
    refine vs_iload_n hC hl 3 dJ6_stringSize_0f7a4_27 rfl rfl ?_
    refine vs_iload_n hC hl 1 dJ6_stringSize_0f7a4_28 rfl rfl ?_
    refine vs_iadd hC dJ6_stringSize_0f7a4_29 ?_
    exact vs_iret () hC hr hlk hW rfl (by show _ = vs_dg x; unfold vs_dg; rw [if_pos hq]; rfl) (Nat.le_of_ble_eq_true rfl) (Nat.le_of_ble_eq_true rfl) dJ6_stringSize_0f7a4_30
  · refine vs_iconst hC dJ6_stringSize_0f7a4_0 ?_
    refine vs_istore_n (L' := [(0, .int (vs_I x)), (1, .int (vs_I 1))]) hC hl [1, 0] dJ6_stringSize_0f7a4_1 rfl (by decide) rfl (fun ls hl => ?_)
    refine vs_iload_n hC hl 0 dJ6_stringSize_0f7a4_2 rfl rfl ?_
    refine vs_if_lt hC 11 ⟨by omega, by omega⟩ dJ6_stringSize_0f7a4_3 (by decide) (fun hc => absurd hc (by omega)) (fun hc => ?_)
    refine vs_iconst hC dJ6_stringSize_0f7a4_6 ?_
    refine vs_istore_n (L' := [(0, .int (vs_I x)), (1, .int (vs_I 0))]) hC hl [1, 0] dJ6_stringSize_0f7a4_7 rfl (by decide) rfl (fun ls hl => ?_)
    refine vs_iload_n hC hl 0 dJ6_stringSize_0f7a4_8 rfl rfl ?_
    refine vs_ineg hC dJ6_stringSize_0f7a4_9 ?_
    refine vs_istore_n (L' := [(0, .int (vs_I (-x))), (1, .int (vs_I 0))]) hC hl [0, 1] dJ6_stringSize_0f7a4_10 rfl (by decide) rfl (fun ls hl => ?_)
    refine vs_bipush hC dJ6_stringSize_0f7a4_11 (by decide +kernel) ?_
    refine vs_istore_n (L' := [(0, .int (vs_I (-x))), (1, .int (vs_I 0)), (2, .int (vs_I (-10)))]) hC hl [1, 2, 0] dJ6_stringSize_0f7a4_13 rfl (by decide) rfl (fun ls hl => ?_)
    refine vs_iconst hC dJ6_stringSize_0f7a4_14 ?_
    refine vs_istore_n (L' := [(0, .int (vs_I (-x))), (1, .int (vs_I 0)), (2, .int (vs_I (-10))), (3, .int (vs_I 1))]) hC hl [1, 2, 3, 0] dJ6_stringSize_0f7a4_15 rfl (by decide) rfl (fun ls hl => ?_)
    refine vs_iload_n hC hl 3 dJ6_stringSize_0f7a4_16 rfl rfl ?_
    refine vs_bipush hC dJ6_stringSize_0f7a4_17 (by decide +kernel) ?_
    refine vs_icmp_ge hC 42 ⟨by omega, by omega⟩ ⟨by omega, by omega⟩ dJ6_stringSize_0f7a4_19 (by decide) (fun hc => absurd hc (by decide)) (fun hc => ?_)
    refine vs_iload_n hC hl 0 dJ6_stringSize_0f7a4_22 rfl rfl ?_
    refine vs_iload_n hC hl 2 dJ6_stringSize_0f7a4_23 rfl rfl ?_
    refine vs_icmp_le hC 31 ⟨by omega, by omega⟩ ⟨by omega, by omega⟩ dJ6_stringSize_0f7a4_24 (by decide) (fun hc => ?_) (fun hc => absurd hc (by omega))
    refine vs_bipush hC dJ6_stringSize_0f7a4_31 (by decide +kernel) ?_
    refine vs_iload_n hC hl 2 dJ6_stringSize_0f7a4_33 rfl rfl ?_
    refine vs_imul hC dJ6_stringSize_0f7a4_34 ?_
    refine vs_istore_n (L' := [(0, .int (vs_I (-x))), (1, .int (vs_I 0)), (2, .int (vs_I (10 * (-10)))), (3, .int (vs_I 1))]) hC hl [1, 2, 0, 3] dJ6_stringSize_0f7a4_35 rfl (by decide) rfl (fun ls hl => ?_)
    refine vs_iinc (L' := [(0, .int (vs_I (-x))), (1, .int (vs_I 0)), (2, .int (vs_I (10 * (-10)))), (3, .int (vs_I (1 + 1)))]) hC hl 3 [1, 2, 3, 0] dJ6_stringSize_0f7a4_36 rfl (by decide) rfl (fun ls hl => ?_)
    refine vs_goto hC 16 dJ6_stringSize_0f7a4_39 (by decide) ?_
    refine vs_iload_n hC hl 3 dJ6_stringSize_0f7a4_16 rfl rfl ?_
    refine vs_bipush hC dJ6_stringSize_0f7a4_17 (by decide +kernel) ?_
    refine vs_icmp_ge hC 42 ⟨by omega, by omega⟩ ⟨by omega, by omega⟩ dJ6_stringSize_0f7a4_19 (by decide) (fun hc => absurd hc (by omega)) (fun hc => ?_)
    refine vs_iload_n hC hl 0 dJ6_stringSize_0f7a4_22 rfl rfl ?_
    refine vs_iload_n hC hl 2 dJ6_stringSize_0f7a4_23 rfl rfl ?_
    refine vs_icmp_le hC 31 ⟨by omega, by omega⟩ ⟨by omega, by omega⟩ dJ6_stringSize_0f7a4_24 (by decide) (fun hc => absurd hc (by omega)) (fun hc => ?_)
    refine vs_iload_n hC hl 3 dJ6_stringSize_0f7a4_27 rfl rfl ?_
    refine vs_iload_n hC hl 1 dJ6_stringSize_0f7a4_28 rfl rfl ?_
    refine vs_iadd hC dJ6_stringSize_0f7a4_29 ?_
    exact vs_iret () hC hr hlk hW rfl (by show _ = vs_dg x; unfold vs_dg; rw [if_neg hq]; rfl) (Nat.le_of_ble_eq_true rfl) (Nat.le_of_ble_eq_true rfl) dJ6_stringSize_0f7a4_30
set_option maxHeartbeats 4000000 in
set_option maxRecDepth 100000 in
theorem c_J6_getChars_ba4f3 (l : Launch) (g : vs_G) (jd : Nat → Nat) (b q cap : Nat) (ml n : Int) (f : Int → Int) (wr : va_W) (x i : Int) (hx : 0 ≤ x ∧ x < 100) (hi : vs_dg x ≤ i ∧ i ≤ (cap : Int) ∧ cap ≤ 10000) : vs_JI l yJ6_getChars_ba4f3 (Cond.code yJ6_getChars_ba4f3 cJ6_getChars_ba4f3 7 (some .int) :: vs_ws) { frames := 0, cells := 0, slots := 0, locals := 40 } g jd [.int (vs_I x), .int (vs_I i), .ref q] (vs_tB g b q ml n cap f ++ wr) (fun (_ : Unit) => vs_tB g b q ml n cap (vs_gc x i f) ++ wr) (fun _ (_ : Unit) => True) 0 0 := by
  unfold vs_dg at hi
  refine vs_ofJ (y := yJ6_getChars_ba4f3) (cc := cJ6_getChars_ba4f3) (maxL := 7) (ret := (some .int)) (as := [.int (vs_I x), .int (vs_I i), .ref q]) (Wo := vs_tB g b q ml n cap f ++ wr) (mc := 0) (ms := 0) (Qc := fun A => vs_QI g A (fun (_ : Unit) => vs_tB g b q ml n cap (vs_gc x i f) ++ wr) (fun _ (_ : Unit) => True)) (by decide +kernel) (Nat.le_of_ble_eq_true rfl) (fun p e s m below meth c A ls hC hr hlk hin hW hJ hl => ?_)
  have hC : CallFix p m c cJ6_getChars_ba4f3 7 s _ vs_ws RJ6 := hC
  have hl : lv_has ls 7 [(0, .int (vs_I x)), (1, .int (vs_I i)), (2, .ref q)] := hl
  by_cases hq : x < 10
  · refine vs_iload_n hC hl 1 dJ6_getChars_ba4f3_0 rfl rfl ?_
    refine vs_istore (L' := [(0, .int (vs_I x)), (1, .int (vs_I i)), (2, .ref q), (5, .int (vs_I i))]) hC hl [1, 2, 3, 0] dJ6_getChars_ba4f3_1 (by decide) rfl (fun ls hl => ?_)
    refine vs_iload_n hC hl 0 dJ6_getChars_ba4f3_3 rfl rfl ?_
    refine vs_if_ge hC 11 ⟨by omega, by omega⟩ dJ6_getChars_ba4f3_4 (by decide) (fun hc => ?_) (fun hc => absurd hc (by omega))
    refine vs_iconst hC dJ6_getChars_ba4f3_11 ?_
    refine vs_istore (L' := [(0, .int (vs_I x)), (1, .int (vs_I i)), (2, .ref q), (5, .int (vs_I i)), (6, .int (vs_I 0))]) hC hl [1, 2, 3, 4, 0] dJ6_getChars_ba4f3_12 (by decide) rfl (fun ls hl => ?_)
    refine vs_iload hC hl 4 dJ6_getChars_ba4f3_14 rfl ?_
    refine vs_if_ne hC 22 ⟨by omega, by omega⟩ dJ6_getChars_ba4f3_16 (by decide) (fun hc => absurd hc (by decide)) (fun hc => ?_)
    refine vs_iload_n hC hl 0 dJ6_getChars_ba4f3_19 rfl rfl ?_
    refine vs_ineg hC dJ6_getChars_ba4f3_20 ?_
    refine vs_istore_n (L' := [(0, .int (vs_I (-x))), (1, .int (vs_I i)), (2, .ref q), (5, .int (vs_I i)), (6, .int (vs_I 0))]) hC hl [0, 1, 2, 3, 4] dJ6_getChars_ba4f3_21 rfl (by decide) rfl (fun ls hl => ?_)
    refine vs_iload_n hC hl 0 dJ6_getChars_ba4f3_22 rfl rfl ?_
    refine vs_bipush hC dJ6_getChars_ba4f3_23 (by decide +kernel) ?_
    refine vs_icmp_gt hC 72 ⟨by omega, by omega⟩ ⟨by omega, by omega⟩ dJ6_getChars_ba4f3_25 (by decide) (fun hc => ?_) (fun hc => absurd hc (by omega))
    refine vs_aload_n hC hl 2 dJ6_getChars_ba4f3_72 rfl rfl ?_
    refine vs_iinc (L' := [(0, .int (vs_I (-x))), (1, .int (vs_I i)), (2, .ref q), (5, .int (vs_I (i + (-1)))), (6, .int (vs_I 0))]) hC hl 3 [1, 2, 3, 0, 4] dJ6_getChars_ba4f3_73 rfl (by decide) rfl (fun ls hl => ?_)
    refine vs_iload hC hl 3 dJ6_getChars_ba4f3_76 rfl ?_
    refine vs_gets hC hW hJ.2.1.1 vz_J6_83 dJ6_getChars_ba4f3_78 ?_
    refine vs_iload_n hC hl 0 dJ6_getChars_ba4f3_81 rfl rfl ?_
    refine vs_ineg2 hC dJ6_getChars_ba4f3_82 ?_
    refine vs_tb hC hW hJ.2.1.2 (by omega) dJ6_getChars_ba4f3_83 ?_
    refine vs_bastN (Wo' := vs_tB g b q ml n cap (vs_up f (i + (-1)) (vs_ones x)) ++ wr) hC hW 1 rfl (by omega) (by unfold vs_ones; omega) rfl dJ6_getChars_ba4f3_84 (fun H locs hW => ?_)
    refine vs_iload_n hC hl 0 dJ6_getChars_ba4f3_85 rfl rfl ?_
    refine vs_bipush hC dJ6_getChars_ba4f3_86 (by decide +kernel) ?_
    refine vs_icmp_ge hC 104 ⟨by omega, by omega⟩ ⟨by omega, by omega⟩ dJ6_getChars_ba4f3_88 (by decide) (fun hc => ?_) (fun hc => absurd hc (by omega))
    refine vs_iload hC hl 4 dJ6_getChars_ba4f3_104 rfl ?_
    refine vs_if_eq hC 118 ⟨by omega, by omega⟩ dJ6_getChars_ba4f3_106 (by decide) (fun hc => ?_) (fun hc => absurd hc (by decide))
    refine vs_iload hC hl 3 dJ6_getChars_ba4f3_118 rfl ?_
    exact vs_iret () hC hr hlk hW (by unfold vs_gc; rw [if_pos hq]; rw [show vs_ones x = x + 48 from by unfold vs_ones; omega]; rfl) trivial (Nat.le_of_ble_eq_true rfl) (Nat.le_of_ble_eq_true rfl) dJ6_getChars_ba4f3_120
  · refine vs_iload_n hC hl 1 dJ6_getChars_ba4f3_0 rfl rfl ?_
    refine vs_istore (L' := [(0, .int (vs_I x)), (1, .int (vs_I i)), (2, .ref q), (5, .int (vs_I i))]) hC hl [1, 2, 3, 0] dJ6_getChars_ba4f3_1 (by decide) rfl (fun ls hl => ?_)
    refine vs_iload_n hC hl 0 dJ6_getChars_ba4f3_3 rfl rfl ?_
    refine vs_if_ge hC 11 ⟨by omega, by omega⟩ dJ6_getChars_ba4f3_4 (by decide) (fun hc => ?_) (fun hc => absurd hc (by omega))
    refine vs_iconst hC dJ6_getChars_ba4f3_11 ?_
    refine vs_istore (L' := [(0, .int (vs_I x)), (1, .int (vs_I i)), (2, .ref q), (5, .int (vs_I i)), (6, .int (vs_I 0))]) hC hl [1, 2, 3, 4, 0] dJ6_getChars_ba4f3_12 (by decide) rfl (fun ls hl => ?_)
    refine vs_iload hC hl 4 dJ6_getChars_ba4f3_14 rfl ?_
    refine vs_if_ne hC 22 ⟨by omega, by omega⟩ dJ6_getChars_ba4f3_16 (by decide) (fun hc => absurd hc (by decide)) (fun hc => ?_)
    refine vs_iload_n hC hl 0 dJ6_getChars_ba4f3_19 rfl rfl ?_
    refine vs_ineg hC dJ6_getChars_ba4f3_20 ?_
    refine vs_istore_n (L' := [(0, .int (vs_I (-x))), (1, .int (vs_I i)), (2, .ref q), (5, .int (vs_I i)), (6, .int (vs_I 0))]) hC hl [0, 1, 2, 3, 4] dJ6_getChars_ba4f3_21 rfl (by decide) rfl (fun ls hl => ?_)
    refine vs_iload_n hC hl 0 dJ6_getChars_ba4f3_22 rfl rfl ?_
    refine vs_bipush hC dJ6_getChars_ba4f3_23 (by decide +kernel) ?_
    refine vs_icmp_gt hC 72 ⟨by omega, by omega⟩ ⟨by omega, by omega⟩ dJ6_getChars_ba4f3_25 (by decide) (fun hc => ?_) (fun hc => absurd hc (by omega))
    refine vs_aload_n hC hl 2 dJ6_getChars_ba4f3_72 rfl rfl ?_
    refine vs_iinc (L' := [(0, .int (vs_I (-x))), (1, .int (vs_I i)), (2, .ref q), (5, .int (vs_I (i + (-1)))), (6, .int (vs_I 0))]) hC hl 3 [1, 2, 3, 0, 4] dJ6_getChars_ba4f3_73 rfl (by decide) rfl (fun ls hl => ?_)
    refine vs_iload hC hl 3 dJ6_getChars_ba4f3_76 rfl ?_
    refine vs_gets hC hW hJ.2.1.1 vz_J6_83 dJ6_getChars_ba4f3_78 ?_
    refine vs_iload_n hC hl 0 dJ6_getChars_ba4f3_81 rfl rfl ?_
    refine vs_ineg2 hC dJ6_getChars_ba4f3_82 ?_
    refine vs_tb hC hW hJ.2.1.2 (by omega) dJ6_getChars_ba4f3_83 ?_
    refine vs_bastN (Wo' := vs_tB g b q ml n cap (vs_up f (i + (-1)) (vs_ones x)) ++ wr) hC hW 1 rfl (by omega) (by unfold vs_ones; omega) rfl dJ6_getChars_ba4f3_84 (fun H locs hW => ?_)
    refine vs_iload_n hC hl 0 dJ6_getChars_ba4f3_85 rfl rfl ?_
    refine vs_bipush hC dJ6_getChars_ba4f3_86 (by decide +kernel) ?_
    refine vs_icmp_ge hC 104 ⟨by omega, by omega⟩ ⟨by omega, by omega⟩ dJ6_getChars_ba4f3_88 (by decide) (fun hc => absurd hc (by omega)) (fun hc => ?_)
    refine vs_aload_n hC hl 2 dJ6_getChars_ba4f3_91 rfl rfl ?_
    refine vs_iinc (L' := [(0, .int (vs_I (-x))), (1, .int (vs_I i)), (2, .ref q), (5, .int (vs_I ((i + (-1)) + (-1)))), (6, .int (vs_I 0))]) hC hl 3 [1, 2, 3, 0, 4] dJ6_getChars_ba4f3_92 rfl (by decide) rfl (fun ls hl => ?_)
    refine vs_iload hC hl 3 dJ6_getChars_ba4f3_95 rfl ?_
    refine vs_gets hC hW hJ.2.2.1.1 vz_J6_87 dJ6_getChars_ba4f3_97 ?_
    refine vs_iload_n hC hl 0 dJ6_getChars_ba4f3_100 rfl rfl ?_
    refine vs_ineg2 hC dJ6_getChars_ba4f3_101 ?_
    refine vs_tb hC hW hJ.2.2.1.2 (by omega) dJ6_getChars_ba4f3_102 ?_
    refine vs_bastN (Wo' := vs_tB g b q ml n cap (vs_up (vs_up f (i + (-1)) (vs_ones x)) ((i + (-1)) + (-1)) (vs_tens x)) ++ wr) hC hW 1 rfl (by omega) (by unfold vs_tens; omega) rfl dJ6_getChars_ba4f3_103 (fun H locs hW => ?_)
    refine vs_iload hC hl 4 dJ6_getChars_ba4f3_104 rfl ?_
    refine vs_if_eq hC 118 ⟨by omega, by omega⟩ dJ6_getChars_ba4f3_106 (by decide) (fun hc => ?_) (fun hc => absurd hc (by decide))
    refine vs_iload hC hl 3 dJ6_getChars_ba4f3_118 rfl ?_
    exact vs_iret () hC hr hlk hW (by unfold vs_gc; rw [if_neg hq]; rw [show i - 2 = i + (-1) + (-1) from by omega]; rfl) trivial (Nat.le_of_ble_eq_true rfl) (Nat.le_of_ble_eq_true rfl) dJ6_getChars_ba4f3_120
set_option maxHeartbeats 4000000 in
set_option maxRecDepth 100000 in
theorem c_J5_append_c97b9 (l : Launch) (g : vs_G) (jd : Nat → Nat) (b q cap : Nat) (ml n : Int) (f : Int → Int) (wr : va_W) (x : Int) (mc ms : Nat) (hcp : cap ≤ 1000) (hf : vs_by f cap) (hn : 0 ≤ n ∧ n ≤ (cap : Int)) (hx : 0 ≤ x ∧ x < 100) (hm : n + vs_dg x ≤ (cap : Int) ∨ (1 ≤ mc ∧ 2 * cap + 2 ≤ ms)) : vs_JR l yJ5_append_c97b9 (Cond.code yJ5_append_c97b9 cJ5_append_c97b9 4 (some (.object "java/lang/AbstractStringBuilder")) :: vs_ws) { frames := 4, cells := mc, slots := ms, locals := 130 } g jd [.ref b, .int (vs_I x)] (vs_tB g b q ml n cap f ++ wr) (fun (u : Nat) => vs_tB g b u ml (n + vs_dg x) (vs_gr cap (n + vs_dg x)) (vs_gc x (n + vs_dg x) (vs_gf cap (n + vs_dg x) f)) ++ wr) (fun _ => b) (fun _ => True) mc ms := by
  refine vs_ofJ (y := yJ5_append_c97b9) (cc := cJ5_append_c97b9) (maxL := 4) (ret := (some (.object "java/lang/AbstractStringBuilder"))) (as := [.ref b, .int (vs_I x)]) (Wo := vs_tB g b q ml n cap f ++ wr) (mc := mc) (ms := ms) (Qc := fun A => vs_QR g A (fun (u : Nat) => vs_tB g b u ml (n + vs_dg x) (vs_gr cap (n + vs_dg x)) (vs_gc x (n + vs_dg x) (vs_gf cap (n + vs_dg x) f)) ++ wr) (fun _ => b) (fun _ => True)) (by decide +kernel) (Nat.le_of_ble_eq_true rfl) (fun p e s m below meth c A ls hC hr hlk hin hW hJ hl => ?_)
  have hC : CallFix p m c cJ5_append_c97b9 4 s _ vs_ws RJ5 := hC
  have hl : lv_has ls 4 [(0, .ref b), (1, .int (vs_I x))] := hl
  refine vs_aload_n hC hl 0 dJ5_append_c97b9_0 rfl rfl ?_
  refine vs_get hC hW 0 rfl rfl vs_inJ4 3 (by decide) vf_J5_79 rfl dJ5_append_c97b9_1 ?_
  refine vs_istore_n (L' := [(0, .ref b), (1, .int (vs_I x)), (2, .int (vs_I n))]) hC hl [1, 2, 0] dJ5_append_c97b9_4 rfl (by decide) rfl (fun ls hl => ?_)
  refine vs_iload_n hC hl 2 dJ5_append_c97b9_5 rfl rfl ?_
  refine vs_iload_n hC hl 1 dJ5_append_c97b9_6 rfl rfl ?_
  have hd : vs_dg x = 1 ∨ vs_dg x = 2 := by unfold vs_dg; split <;> omega
  refine vs_jcallSI [.int (vs_I x)] hC hW hJ vk_J6_stringSize_0f7a4 vm_J5_245 (c_J6_stringSize_0f7a4 l g jd x (vs_tB g b q ml n cap f ++ wr) hx) rfl hl.1 rfl ⟨rfl, rfl⟩ ⟨Nat.le_of_ble_eq_true rfl, Nat.le_of_ble_eq_true rfl⟩ ⟨show _ ≤ mc by first | omega | (dsimp only; omega), show _ ≤ ms by first | omega | (dsimp only; omega)⟩ (Nat.le_of_ble_eq_true rfl) dJ5_append_c97b9_7 (fun v1 _ H locs hw hW => ?_)
  subst hw
  refine vs_iadd hC dJ5_append_c97b9_10 ?_
  refine vs_istore_n (L' := [(0, .ref b), (1, .int (vs_I x)), (2, .int (vs_I n)), (3, .int (vs_I (n + (vs_dg x))))]) hC hl [1, 2, 3, 0] dJ5_append_c97b9_11 rfl (by decide) rfl (fun ls hl => ?_)
  refine vs_aload_n hC hl 0 dJ5_append_c97b9_12 rfl rfl ?_
  refine vs_iload_n hC hl 3 dJ5_append_c97b9_13 rfl rfl ?_
  refine vs_jcallUV [.int (vs_I (n + vs_dg x))] hC hW hJ 0 rfl rfl vkU_J5_ensureCapacityInternal_d00df vm_J5_100 (c_J5_ensureCapacityInternal_d00df l g jd b q cap ml n f wr (n + vs_dg x) mc ms hcp hf ⟨by omega, by omega⟩ hm) rfl hl.1 rfl ⟨rfl, rfl⟩ ⟨Nat.le_of_ble_eq_true rfl, Nat.le_of_ble_eq_true rfl⟩ ⟨show _ ≤ mc by first | omega | (dsimp only; omega), show _ ≤ ms by first | omega | (dsimp only; omega)⟩ (Nat.le_of_ble_eq_true rfl) dJ5_append_c97b9_14 (fun u H locs hw hW => ?_)
  have hgr := vs_gr1 (cap := cap) (k := n + vs_dg x) (by omega)
  have hfb := vs_by_gf hf (n + vs_dg x)
  refine vs_aload_n hC hl 0 dJ5_append_c97b9_17 rfl rfl ?_
  refine vs_jcallUI [] hC hW hJ 0 rfl rfl vkU_J5_isLatin1_aae02 vm_J5_83 (c_J5_isLatin1_aae02 l g jd b u (vs_gr cap (n + vs_dg x)) ml n (vs_gf cap (n + vs_dg x) f) wr) rfl hl.1 rfl ⟨rfl, rfl⟩ ⟨Nat.le_of_ble_eq_true rfl, Nat.le_of_ble_eq_true rfl⟩ ⟨show _ ≤ mc by first | omega | (dsimp only; omega), show _ ≤ ms by first | omega | (dsimp only; omega)⟩ (Nat.le_of_ble_eq_true rfl) dJ5_append_c97b9_18 (fun v1 _ H locs hw hW => ?_)
  subst hw
  refine vs_if_eq hC 37 ⟨by omega, by omega⟩ dJ5_append_c97b9_21 (by decide) (fun hc => absurd hc (by decide)) (fun hc => ?_)
  refine vs_iload_n hC hl 1 dJ5_append_c97b9_24 rfl rfl ?_
  refine vs_iload_n hC hl 3 dJ5_append_c97b9_25 rfl rfl ?_
  refine vs_aload_n hC hl 0 dJ5_append_c97b9_26 rfl rfl ?_
  refine vs_get hC hW 0 rfl rfl vs_inJ4 0 (by decide) vf_J5_15 rfl dJ5_append_c97b9_27 ?_
  refine vs_jcallSI [.int (vs_I x), .int (vs_I (n + vs_dg x)), .ref u] hC hW hJ vk_J6_getChars_ba4f3 vm_J5_248 (c_J6_getChars_ba4f3 l g jd b u (vs_gr cap (n + vs_dg x)) ml n (vs_gf cap (n + vs_dg x) f) wr x (n + vs_dg x) hx ⟨by omega, by omega, by omega⟩) rfl hl.1 rfl ⟨rfl, rfl⟩ ⟨Nat.le_of_ble_eq_true rfl, Nat.le_of_ble_eq_true rfl⟩ ⟨show _ ≤ mc by first | omega | (dsimp only; omega), show _ ≤ ms by first | omega | (dsimp only; omega)⟩ (Nat.le_of_ble_eq_true rfl) dJ5_append_c97b9_30 (fun v2 _ H locs hw hW => ?_)
  refine vs_pop hC dJ5_append_c97b9_33 rfl ?_
  refine vs_goto hC 48 dJ5_append_c97b9_34 (by decide) ?_
  refine vs_aload_n hC hl 0 dJ5_append_c97b9_48 rfl rfl ?_
  refine vs_iload_n hC hl 3 dJ5_append_c97b9_49 rfl rfl ?_
  refine vs_putG (Wo' := vs_tB g b u ml (n + (vs_dg x)) (vs_gr cap (n + vs_dg x)) (vs_gc x (n + vs_dg x) (vs_gf cap (n + vs_dg x) f)) ++ wr) hC hW 0 rfl rfl vs_inJ4 tyJ4_ok nmJ4 3 (by decide) vf_J5_79 rfl rfl rfl (Nat.le_of_ble_eq_true rfl) rfl dJ5_append_c97b9_50 (fun H locs hW => ?_)
  refine vs_aload_n hC hl 0 dJ5_append_c97b9_53 rfl rfl ?_
  exact vs_rret u hC hr (.inl ⟨_, rfl⟩) hlk hW rfl trivial (show _ ≤ mc by first | omega | (dsimp only; omega)) (show _ ≤ ms by first | omega | (dsimp only; omega)) dJ5_append_c97b9_54
set_option maxHeartbeats 4000000 in
set_option maxRecDepth 100000 in
theorem c_J4_append_bf812 (l : Launch) (g : vs_G) (jd : Nat → Nat) (b q cap : Nat) (ml n : Int) (f : Int → Int) (wr : va_W) (x : Int) (mc ms : Nat) (hcp : cap ≤ 1000) (hf : vs_by f cap) (hn : 0 ≤ n ∧ n ≤ (cap : Int)) (hx : 0 ≤ x ∧ x < 100) (hm : n + vs_dg x ≤ (cap : Int) ∨ (1 ≤ mc ∧ 2 * cap + 2 ≤ ms)) : vs_JR l yJ4_append_bf812 (Cond.code yJ4_append_bf812 cJ4_append_bf812 2 (some (.object "java/lang/StringBuilder")) :: vs_ws) { frames := 5, cells := mc, slots := ms, locals := 153 } g jd [.ref b, .int (vs_I x)] (vs_tB g b q ml n cap f ++ wr) (fun (u : Nat) => vs_tB g b u ml (n + vs_dg x) (vs_gr cap (n + vs_dg x)) (vs_gc x (n + vs_dg x) (vs_gf cap (n + vs_dg x) f)) ++ wr) (fun _ => b) (fun _ => True) mc ms := by
  refine vs_ofJ (y := yJ4_append_bf812) (cc := cJ4_append_bf812) (maxL := 2) (ret := (some (.object "java/lang/StringBuilder"))) (as := [.ref b, .int (vs_I x)]) (Wo := vs_tB g b q ml n cap f ++ wr) (mc := mc) (ms := ms) (Qc := fun A => vs_QR g A (fun (u : Nat) => vs_tB g b u ml (n + vs_dg x) (vs_gr cap (n + vs_dg x)) (vs_gc x (n + vs_dg x) (vs_gf cap (n + vs_dg x) f)) ++ wr) (fun _ => b) (fun _ => True)) (by decide +kernel) (Nat.le_of_ble_eq_true rfl) (fun p e s m below meth c A ls hC hr hlk hin hW hJ hl => ?_)
  have hC : CallFix p m c cJ4_append_bf812 2 s _ vs_ws RJ4 := hC
  have hl : lv_has ls 2 [(0, .ref b), (1, .int (vs_I x))] := hl
  refine vs_aload_n hC hl 0 dJ4_append_bf812_0 rfl rfl ?_
  refine vs_iload_n hC hl 1 dJ4_append_bf812_1 rfl rfl ?_
  refine vs_jcallSUR [.int (vs_I x)] hC hW hJ 0 rfl rfl vkSU_J5_append_c97b9 vm_J4_53 (c_J5_append_c97b9 l g jd b q cap ml n f wr x mc ms hcp hf hn hx hm) rfl hl.1 rfl ⟨rfl, rfl⟩ ⟨Nat.le_of_ble_eq_true rfl, Nat.le_of_ble_eq_true rfl⟩ ⟨show _ ≤ mc by first | omega | (dsimp only; omega), show _ ≤ ms by first | omega | (dsimp only; omega)⟩ (Nat.le_of_ble_eq_true rfl) dJ4_append_bf812_2 (fun u H locs hw hW => ?_)
  refine vs_pop hC dJ4_append_bf812_5 rfl ?_
  refine vs_aload_n hC hl 0 dJ4_append_bf812_6 rfl rfl ?_
  exact vs_rret u hC hr (.inl ⟨_, rfl⟩) hlk hW rfl trivial (show _ ≤ mc by first | omega | (dsimp only; omega)) (show _ ≤ ms by first | omega | (dsimp only; omega)) dJ4_append_bf812_7
set_option maxHeartbeats 4000000 in
set_option maxRecDepth 100000 in
theorem c_J5_length_8abf5 (l : Launch) (g : vs_G) (jd : Nat → Nat) (b q cap : Nat) (ml n : Int) (f : Int → Int) (wr : va_W) : vs_JI l yJ5_length_8abf5 (Cond.code yJ5_length_8abf5 cJ5_length_8abf5 1 (some .int) :: vs_ws) { frames := 0, cells := 0, slots := 0, locals := 40 } g jd [.ref b] (vs_tB g b q ml n cap f ++ wr) (fun (_ : Unit) => vs_tB g b q ml n cap f ++ wr) (fun v (_ : Unit) => v = n) 0 0 := by
  refine vs_ofJ (y := yJ5_length_8abf5) (cc := cJ5_length_8abf5) (maxL := 1) (ret := (some .int)) (as := [.ref b]) (Wo := vs_tB g b q ml n cap f ++ wr) (mc := 0) (ms := 0) (Qc := fun A => vs_QI g A (fun (_ : Unit) => vs_tB g b q ml n cap f ++ wr) (fun v (_ : Unit) => v = n)) (by decide +kernel) (Nat.le_of_ble_eq_true rfl) (fun p e s m below meth c A ls hC hr hlk hin hW hJ hl => ?_)
  have hC : CallFix p m c cJ5_length_8abf5 1 s _ vs_ws RJ5 := hC
  have hl : lv_has ls 1 [(0, .ref b)] := hl
  refine vs_aload_n hC hl 0 dJ5_length_8abf5_0 rfl rfl ?_
  refine vs_get hC hW 0 rfl rfl vs_inJ4 3 (by decide) vf_J5_79 rfl dJ5_length_8abf5_1 ?_
  exact vs_iret () hC hr hlk hW rfl rfl (Nat.le_of_ble_eq_true rfl) (Nat.le_of_ble_eq_true rfl) dJ5_length_8abf5_4
set_option maxHeartbeats 4000000 in
set_option maxRecDepth 100000 in
theorem c_J4_length_8abf5 (l : Launch) (g : vs_G) (jd : Nat → Nat) (b q cap : Nat) (ml n : Int) (f : Int → Int) (wr : va_W) : vs_JI l yJ4_length_8abf5 (Cond.code yJ4_length_8abf5 cJ4_length_8abf5 1 (some .int) :: vs_ws) { frames := 1, cells := 0, slots := 0, locals := 60 } g jd [.ref b] (vs_tB g b q ml n cap f ++ wr) (fun (_ : Unit) => vs_tB g b q ml n cap f ++ wr) (fun v (_ : Unit) => v = n) 0 0 := by
  refine vs_ofJ (y := yJ4_length_8abf5) (cc := cJ4_length_8abf5) (maxL := 1) (ret := (some .int)) (as := [.ref b]) (Wo := vs_tB g b q ml n cap f ++ wr) (mc := 0) (ms := 0) (Qc := fun A => vs_QI g A (fun (_ : Unit) => vs_tB g b q ml n cap f ++ wr) (fun v (_ : Unit) => v = n)) (by decide +kernel) (Nat.le_of_ble_eq_true rfl) (fun p e s m below meth c A ls hC hr hlk hin hW hJ hl => ?_)
  have hC : CallFix p m c cJ4_length_8abf5 1 s _ vs_ws RJ4 := hC
  have hl : lv_has ls 1 [(0, .ref b)] := hl
  refine vs_aload_n hC hl 0 dJ4_length_8abf5_0 rfl rfl ?_
  refine vs_jcallSUI [] hC hW hJ 0 rfl rfl vkSU_J5_length_8abf5 vm_J4_343 (c_J5_length_8abf5 l g jd b q cap ml n f wr) rfl hl.1 rfl ⟨rfl, rfl⟩ ⟨Nat.le_of_ble_eq_true rfl, Nat.le_of_ble_eq_true rfl⟩ ⟨Nat.le_of_ble_eq_true rfl, Nat.le_of_ble_eq_true rfl⟩ (Nat.le_of_ble_eq_true rfl) dJ4_length_8abf5_1 (fun v1 _ H locs hw hW => ?_)
  subst hw
  exact vs_iret () hC hr hlk hW rfl rfl (Nat.le_of_ble_eq_true rfl) (Nat.le_of_ble_eq_true rfl) dJ4_length_8abf5_4
set_option maxHeartbeats 4000000 in
set_option maxRecDepth 100000 in
theorem c_J5_getValue_6d5f1 (l : Launch) (g : vs_G) (jd : Nat → Nat) (b q cap : Nat) (ml n : Int) (f : Int → Int) (wr : va_W) : vs_JR l yJ5_getValue_6d5f1 (Cond.code yJ5_getValue_6d5f1 cJ5_getValue_6d5f1 1 (some (.array .byte)) :: vs_ws) { frames := 0, cells := 0, slots := 0, locals := 40 } g jd [.ref b] (vs_tB g b q ml n cap f ++ wr) (fun (_ : Unit) => vs_tB g b q ml n cap f ++ wr) (fun _ => q) (fun (_ : Unit) => True) 0 0 := by
  refine vs_ofJ (y := yJ5_getValue_6d5f1) (cc := cJ5_getValue_6d5f1) (maxL := 1) (ret := (some (.array .byte))) (as := [.ref b]) (Wo := vs_tB g b q ml n cap f ++ wr) (mc := 0) (ms := 0) (Qc := fun A => vs_QR g A (fun (_ : Unit) => vs_tB g b q ml n cap f ++ wr) (fun _ => q) (fun (_ : Unit) => True)) (by decide +kernel) (Nat.le_of_ble_eq_true rfl) (fun p e s m below meth c A ls hC hr hlk hin hW hJ hl => ?_)
  have hC : CallFix p m c cJ5_getValue_6d5f1 1 s _ vs_ws RJ5 := hC
  have hl : lv_has ls 1 [(0, .ref b)] := hl
  refine vs_aload_n hC hl 0 dJ5_getValue_6d5f1_0 rfl rfl ?_
  refine vs_get hC hW 0 rfl rfl vs_inJ4 0 (by decide) vf_J5_15 rfl dJ5_getValue_6d5f1_1 ?_
  exact vs_rret () hC hr (.inr ⟨_, rfl⟩) hlk hW rfl trivial (Nat.le_of_ble_eq_true rfl) (Nat.le_of_ble_eq_true rfl) dJ5_getValue_6d5f1_4
set_option maxHeartbeats 4000000 in
set_option maxRecDepth 100000 in
theorem c_J3_checkIndex_8e157N (l : Launch) (g : vs_G) (jd : Nat → Nat) (x y : Int) (wr : va_W) (hx : 0 ≤ x ∧ x < y ∧ y ≤ 100000) : vs_JI l yJ3_checkIndex_8e157 (Cond.code yJ3_checkIndex_8e157 cJ3_checkIndex_8e157 3 (some .int) :: vs_ws) { frames := 0, cells := 0, slots := 0, locals := 40 } g jd [.int (vs_I x), .int (vs_I y), .null] (wr) (fun (_ : Unit) => wr) (fun _ (_ : Unit) => True) 0 0 := by
  refine vs_ofJ (y := yJ3_checkIndex_8e157) (cc := cJ3_checkIndex_8e157) (maxL := 3) (ret := (some .int)) (as := [.int (vs_I x), .int (vs_I y), .null]) (Wo := wr) (mc := 0) (ms := 0) (Qc := fun A => vs_QI g A (fun (_ : Unit) => wr) (fun _ (_ : Unit) => True)) (by decide +kernel) (Nat.le_of_ble_eq_true rfl) (fun p e s m below meth c A ls hC hr hlk hin hW hJ hl => ?_)
  have hC : CallFix p m c cJ3_checkIndex_8e157 3 s _ vs_ws RJ3 := hC
  have hl : lv_has ls 3 [(0, .int (vs_I x)), (1, .int (vs_I y)), (2, .null)] := hl
  refine vs_iload_n hC hl 0 dJ3_checkIndex_8e157_0 rfl rfl ?_
  refine vs_if_lt hC 9 ⟨by omega, by omega⟩ dJ3_checkIndex_8e157_1 (by decide) (fun hc => absurd hc (by omega)) (fun hc => ?_)
  refine vs_iload_n hC hl 0 dJ3_checkIndex_8e157_4 rfl rfl ?_
  refine vs_iload_n hC hl 1 dJ3_checkIndex_8e157_5 rfl rfl ?_
  refine vs_icmp_lt hC 16 ⟨by omega, by omega⟩ ⟨by omega, by omega⟩ dJ3_checkIndex_8e157_6 (by decide) (fun hc => ?_) (fun hc => absurd hc (by omega))
  refine vs_iload_n hC hl 0 dJ3_checkIndex_8e157_16 rfl rfl ?_
  exact vs_iret () hC hr hlk hW rfl trivial (Nat.le_of_ble_eq_true rfl) (Nat.le_of_ble_eq_true rfl) dJ3_checkIndex_8e157_17
set_option maxHeartbeats 4000000 in
set_option maxRecDepth 100000 in
theorem c_J3_checkIndex_8e157R (l : Launch) (g : vs_G) (jd : Nat → Nat) (x y : Int) (t : Nat) (wr : va_W) (hx : 0 ≤ x ∧ x < y ∧ y ≤ 100000) : vs_JI l yJ3_checkIndex_8e157 (Cond.code yJ3_checkIndex_8e157 cJ3_checkIndex_8e157 3 (some .int) :: vs_ws) { frames := 0, cells := 0, slots := 0, locals := 40 } g jd [.int (vs_I x), .int (vs_I y), .ref t] (wr) (fun (_ : Unit) => wr) (fun _ (_ : Unit) => True) 0 0 := by
  refine vs_ofJ (y := yJ3_checkIndex_8e157) (cc := cJ3_checkIndex_8e157) (maxL := 3) (ret := (some .int)) (as := [.int (vs_I x), .int (vs_I y), .ref t]) (Wo := wr) (mc := 0) (ms := 0) (Qc := fun A => vs_QI g A (fun (_ : Unit) => wr) (fun _ (_ : Unit) => True)) (by decide +kernel) (Nat.le_of_ble_eq_true rfl) (fun p e s m below meth c A ls hC hr hlk hin hW hJ hl => ?_)
  have hC : CallFix p m c cJ3_checkIndex_8e157 3 s _ vs_ws RJ3 := hC
  have hl : lv_has ls 3 [(0, .int (vs_I x)), (1, .int (vs_I y)), (2, .ref t)] := hl
  refine vs_iload_n hC hl 0 dJ3_checkIndex_8e157_0 rfl rfl ?_
  refine vs_if_lt hC 9 ⟨by omega, by omega⟩ dJ3_checkIndex_8e157_1 (by decide) (fun hc => absurd hc (by omega)) (fun hc => ?_)
  refine vs_iload_n hC hl 0 dJ3_checkIndex_8e157_4 rfl rfl ?_
  refine vs_iload_n hC hl 1 dJ3_checkIndex_8e157_5 rfl rfl ?_
  refine vs_icmp_lt hC 16 ⟨by omega, by omega⟩ ⟨by omega, by omega⟩ dJ3_checkIndex_8e157_6 (by decide) (fun hc => ?_) (fun hc => absurd hc (by omega))
  refine vs_iload_n hC hl 0 dJ3_checkIndex_8e157_16 rfl rfl ?_
  exact vs_iret () hC hr hlk hW rfl trivial (Nat.le_of_ble_eq_true rfl) (Nat.le_of_ble_eq_true rfl) dJ3_checkIndex_8e157_17
set_option maxHeartbeats 4000000 in
set_option maxRecDepth 100000 in
theorem c_J0_checkIndex_df160 (l : Launch) (g : vs_G) (jd : Nat → Nat) (x y : Int) (wr : va_W) (hx : 0 ≤ x ∧ x < y ∧ y ≤ 100000) : vs_JV l yJ0_checkIndex_df160 (Cond.code yJ0_checkIndex_df160 cJ0_checkIndex_df160 2 none :: vs_ws) { frames := 1, cells := 0, slots := 0, locals := 62 } g jd [.int (vs_I x), .int (vs_I y)] (wr) (fun (_ : Unit) => wr) (fun (_ : Unit) => True) 0 0 := by
  refine vs_ofJ (y := yJ0_checkIndex_df160) (cc := cJ0_checkIndex_df160) (maxL := 2) (ret := none) (as := [.int (vs_I x), .int (vs_I y)]) (Wo := wr) (mc := 0) (ms := 0) (Qc := fun A => vs_QV g A (fun (_ : Unit) => wr) (fun (_ : Unit) => True)) (by decide +kernel) (Nat.le_of_ble_eq_true rfl) (fun p e s m below meth c A ls hC hr hlk hin hW hJ hl => ?_)
  have hC : CallFix p m c cJ0_checkIndex_df160 2 s _ vs_ws RJ0 := hC
  have hl : lv_has ls 2 [(0, .int (vs_I x)), (1, .int (vs_I y))] := hl
  rcases hJ.2.2.2.1 with hz | ⟨t, hz⟩
  · refine vs_iload_n hC hl 0 dJ0_checkIndex_df160_0 rfl rfl ?_
    refine vs_iload_n hC hl 1 dJ0_checkIndex_df160_1 rfl rfl ?_
    refine vs_gets hC hW hz vz_J0_1053 dJ0_checkIndex_df160_2 ?_
    refine vs_jcallSI [.int (vs_I x), .int (vs_I y), .null] hC hW hJ vk_J3_checkIndex_8e157 vm_J0_1059 (c_J3_checkIndex_8e157N l g jd x y wr hx) rfl hl.1 rfl ⟨rfl, rfl⟩ ⟨Nat.le_of_ble_eq_true rfl, Nat.le_of_ble_eq_true rfl⟩ ⟨Nat.le_of_ble_eq_true rfl, Nat.le_of_ble_eq_true rfl⟩ (Nat.le_of_ble_eq_true rfl) dJ0_checkIndex_df160_5 (fun v1 _ H locs hw hW => ?_)
    refine vs_pop hC dJ0_checkIndex_df160_8 rfl ?_
    exact vs_vret () hC hr hlk hW rfl trivial (Nat.le_of_ble_eq_true rfl) (Nat.le_of_ble_eq_true rfl) dJ0_checkIndex_df160_9
  · refine vs_iload_n hC hl 0 dJ0_checkIndex_df160_0 rfl rfl ?_
    refine vs_iload_n hC hl 1 dJ0_checkIndex_df160_1 rfl rfl ?_
    refine vs_gets hC hW hz vz_J0_1053 dJ0_checkIndex_df160_2 ?_
    refine vs_jcallSI [.int (vs_I x), .int (vs_I y), .ref t] hC hW hJ vk_J3_checkIndex_8e157 vm_J0_1059 (c_J3_checkIndex_8e157R l g jd x y t wr hx) rfl hl.1 rfl ⟨rfl, rfl⟩ ⟨Nat.le_of_ble_eq_true rfl, Nat.le_of_ble_eq_true rfl⟩ ⟨Nat.le_of_ble_eq_true rfl, Nat.le_of_ble_eq_true rfl⟩ (Nat.le_of_ble_eq_true rfl) dJ0_checkIndex_df160_5 (fun v1 _ H locs hw hW => ?_)
    refine vs_pop hC dJ0_checkIndex_df160_8 rfl ?_
    exact vs_vret () hC hr hlk hW rfl trivial (Nat.le_of_ble_eq_true rfl) (Nat.le_of_ble_eq_true rfl) dJ0_checkIndex_df160_9
set_option maxHeartbeats 4000000 in
set_option maxRecDepth 100000 in
theorem c_J5_charAt_5068e (l : Launch) (g : vs_G) (jd : Nat → Nat) (b q cap : Nat) (ml n : Int) (f : Int → Int) (wr : va_W) (x : Int) (hcp : cap ≤ 1000) (hn : n ≤ (cap : Int)) (hx : 0 ≤ x ∧ x < n) (hfx : 0 ≤ f x ∧ f x < 256) : vs_JI l yJ5_charAt_5068e (Cond.code yJ5_charAt_5068e cJ5_charAt_5068e 5 (some .char) :: vs_ws) { frames := 2, cells := 0, slots := 0, locals := 83 } g jd [.ref b, .int (vs_I x)] (vs_tB g b q ml n cap f ++ wr) (fun (_ : Unit) => vs_tB g b q ml n cap f ++ wr) (fun v (_ : Unit) => v = f x) 0 0 := by
  refine vs_ofJ (y := yJ5_charAt_5068e) (cc := cJ5_charAt_5068e) (maxL := 5) (ret := (some .char)) (as := [.ref b, .int (vs_I x)]) (Wo := vs_tB g b q ml n cap f ++ wr) (mc := 0) (ms := 0) (Qc := fun A => vs_QI g A (fun (_ : Unit) => vs_tB g b q ml n cap f ++ wr) (fun v (_ : Unit) => v = f x)) (by decide +kernel) (Nat.le_of_ble_eq_true rfl) (fun p e s m below meth c A ls hC hr hlk hin hW hJ hl => ?_)
  have hC : CallFix p m c cJ5_charAt_5068e 5 s _ vs_ws RJ5 := hC
  have hl : lv_has ls 5 [(0, .ref b), (1, .int (vs_I x))] := hl
  refine vs_aload_n hC hl 0 dJ5_charAt_5068e_0 rfl rfl ?_
  refine vs_get hC hW 0 rfl rfl vs_inJ4 1 (by decide) vf_J5_22 rfl dJ5_charAt_5068e_1 ?_
  refine vs_istore_n (L' := [(0, .ref b), (1, .int (vs_I x)), (2, .int (vs_I 0))]) hC hl [1, 2, 0] dJ5_charAt_5068e_4 rfl (by decide) rfl (fun ls hl => ?_)
  refine vs_aload_n hC hl 0 dJ5_charAt_5068e_5 rfl rfl ?_
  refine vs_get hC hW 0 rfl rfl vs_inJ4 0 (by decide) vf_J5_15 rfl dJ5_charAt_5068e_6 ?_
  refine vs_astore_n (L' := [(0, .ref b), (1, .int (vs_I x)), (2, .int (vs_I 0)), (3, .ref q)]) hC hl [1, 2, 3, 0] dJ5_charAt_5068e_9 rfl (by decide) rfl (fun ls hl => ?_)
  refine vs_aload_n hC hl 0 dJ5_charAt_5068e_10 rfl rfl ?_
  refine vs_get hC hW 0 rfl rfl vs_inJ4 3 (by decide) vf_J5_79 rfl dJ5_charAt_5068e_11 ?_
  refine vs_aload_n hC hl 3 dJ5_charAt_5068e_14 rfl rfl ?_
  refine vs_alenN hC hW 1 rfl dJ5_charAt_5068e_15 ?_
  refine vs_iload_n hC hl 2 dJ5_charAt_5068e_16 rfl rfl ?_
  refine vs_ishr0 hC dJ5_charAt_5068e_17 ?_
  refine vs_mmin hC ⟨by omega, by omega⟩ ⟨by omega, by omega⟩ hl.1 vm_J5_138 (Nat.le_of_ble_eq_true rfl) (Nat.le_of_ble_eq_true rfl) (Nat.le_of_ble_eq_true rfl) (Nat.le_of_ble_eq_true rfl) dJ5_charAt_5068e_18 ?_
  rw [show min n (cap : Int) = n from by omega]
  refine vs_istore (L' := [(0, .ref b), (1, .int (vs_I x)), (2, .int (vs_I 0)), (3, .ref q), (4, .int (vs_I n))]) hC hl [1, 2, 3, 4, 0] dJ5_charAt_5068e_21 (by decide) rfl (fun ls hl => ?_)
  refine vs_iload_n hC hl 1 dJ5_charAt_5068e_23 rfl rfl ?_
  refine vs_iload hC hl 4 dJ5_charAt_5068e_24 rfl ?_
  refine vs_jcallSV [.int (vs_I x), .int (vs_I n)] hC hW hJ vk_J0_checkIndex_df160 vm_J5_144 (c_J0_checkIndex_df160 l g jd x n (vs_tB g b q ml n cap f ++ wr) (by omega)) rfl hl.1 rfl ⟨rfl, rfl⟩ ⟨Nat.le_of_ble_eq_true rfl, Nat.le_of_ble_eq_true rfl⟩ ⟨Nat.le_of_ble_eq_true rfl, Nat.le_of_ble_eq_true rfl⟩ (Nat.le_of_ble_eq_true rfl) dJ5_charAt_5068e_26 (fun _ H locs hw hW => ?_)
  refine vs_iload_n hC hl 2 dJ5_charAt_5068e_29 rfl rfl ?_
  refine vs_if_ne hC 42 ⟨by omega, by omega⟩ dJ5_charAt_5068e_30 (by decide) (fun hc => absurd hc (by decide)) (fun hc => ?_)
  refine vs_aload_n hC hl 3 dJ5_charAt_5068e_33 rfl rfl ?_
  refine vs_iload_n hC hl 1 dJ5_charAt_5068e_34 rfl rfl ?_
  refine vs_baldN hC hW 1 rfl (by omega) dJ5_charAt_5068e_35 ?_
  refine vs_sipush hC dJ5_charAt_5068e_36 (by decide +kernel) ?_
  refine vs_iand255 hC hfx dJ5_charAt_5068e_39 ?_
  refine vs_i2c hC dJ5_charAt_5068e_40 (by omega) ?_
  exact vs_cret () hC hr hlk hW rfl ⟨by omega, rfl⟩ (Nat.le_of_ble_eq_true rfl) (Nat.le_of_ble_eq_true rfl) dJ5_charAt_5068e_41
set_option maxHeartbeats 4000000 in
set_option maxRecDepth 100000 in
theorem c_J4_charAt_5068e (l : Launch) (g : vs_G) (jd : Nat → Nat) (b q cap : Nat) (ml n : Int) (f : Int → Int) (wr : va_W) (x : Int) (hcp : cap ≤ 1000) (hn : n ≤ (cap : Int)) (hx : 0 ≤ x ∧ x < n) (hfx : 0 ≤ f x ∧ f x < 256) : vs_JI l yJ4_charAt_5068e (Cond.code yJ4_charAt_5068e cJ4_charAt_5068e 2 (some .char) :: vs_ws) { frames := 3, cells := 0, slots := 0, locals := 107 } g jd [.ref b, .int (vs_I x)] (vs_tB g b q ml n cap f ++ wr) (fun (_ : Unit) => vs_tB g b q ml n cap f ++ wr) (fun v (_ : Unit) => v = f x) 0 0 := by
  refine vs_ofJ (y := yJ4_charAt_5068e) (cc := cJ4_charAt_5068e) (maxL := 2) (ret := (some .char)) (as := [.ref b, .int (vs_I x)]) (Wo := vs_tB g b q ml n cap f ++ wr) (mc := 0) (ms := 0) (Qc := fun A => vs_QI g A (fun (_ : Unit) => vs_tB g b q ml n cap f ++ wr) (fun v (_ : Unit) => v = f x)) (by decide +kernel) (Nat.le_of_ble_eq_true rfl) (fun p e s m below meth c A ls hC hr hlk hin hW hJ hl => ?_)
  have hC : CallFix p m c cJ4_charAt_5068e 2 s _ vs_ws RJ4 := hC
  have hl : lv_has ls 2 [(0, .ref b), (1, .int (vs_I x))] := hl
  refine vs_aload_n hC hl 0 dJ4_charAt_5068e_0 rfl rfl ?_
  refine vs_iload_n hC hl 1 dJ4_charAt_5068e_1 rfl rfl ?_
  refine vs_jcallSUI [.int (vs_I x)] hC hW hJ 0 rfl rfl vkSU_J5_charAt_5068e vm_J4_329 (c_J5_charAt_5068e l g jd b q cap ml n f wr x hcp hn hx hfx) rfl hl.1 rfl ⟨rfl, rfl⟩ ⟨Nat.le_of_ble_eq_true rfl, Nat.le_of_ble_eq_true rfl⟩ ⟨Nat.le_of_ble_eq_true rfl, Nat.le_of_ble_eq_true rfl⟩ (Nat.le_of_ble_eq_true rfl) dJ4_charAt_5068e_2 (fun v1 _ H locs hw hW => ?_)
  subst hw
  exact vs_cret () hC hr hlk hW rfl ⟨by omega, rfl⟩ (Nat.le_of_ble_eq_true rfl) (Nat.le_of_ble_eq_true rfl) dJ4_charAt_5068e_5
set_option maxHeartbeats 4000000 in
set_option maxRecDepth 100000 in
theorem c_J5_setLength_d00df (l : Launch) (g : vs_G) (jd : Nat → Nat) (b q cap : Nat) (ml n : Int) (f : Int → Int) (wr : va_W) (hcp : cap ≤ 1000) (hf : vs_by f cap) (hn : 0 ≤ n ∧ n ≤ (cap : Int)) : vs_JV l yJ5_setLength_d00df (Cond.code yJ5_setLength_d00df cJ5_setLength_d00df 2 none :: vs_ws) { frames := 4, cells := 0, slots := 0, locals := 130 } g jd [.ref b, .int (vs_I 0)] (vs_tB g b q ml n cap f ++ wr) (fun (z : Int) => vs_tB g b q z 0 cap f ++ wr) (fun (_ : Int) => True) 0 0 := by
  refine vs_ofJ (y := yJ5_setLength_d00df) (cc := cJ5_setLength_d00df) (maxL := 2) (ret := none) (as := [.ref b, .int (vs_I 0)]) (Wo := vs_tB g b q ml n cap f ++ wr) (mc := 0) (ms := 0) (Qc := fun A => vs_QV g A (fun (z : Int) => vs_tB g b q z 0 cap f ++ wr) (fun (_ : Int) => True)) (by decide +kernel) (Nat.le_of_ble_eq_true rfl) (fun p e s m below meth c A ls hC hr hlk hin hW hJ hl => ?_)
  have hC : CallFix p m c cJ5_setLength_d00df 2 s _ vs_ws RJ5 := hC
  have hl : lv_has ls 2 [(0, .ref b), (1, .int (vs_I 0))] := hl
  refine vs_iload_n hC hl 1 dJ5_setLength_d00df_0 rfl rfl ?_
  refine vs_if_ge hC 13 ⟨by omega, by omega⟩ dJ5_setLength_d00df_1 (by decide) (fun hc => ?_) (fun hc => absurd hc (by decide))
  refine vs_aload_n hC hl 0 dJ5_setLength_d00df_13 rfl rfl ?_
  refine vs_iload_n hC hl 1 dJ5_setLength_d00df_14 rfl rfl ?_
  refine vs_jcallUV [.int (vs_I 0)] hC hW hJ 0 rfl rfl vkU_J5_ensureCapacityInternal_d00df vm_J5_100 (c_J5_ensureCapacityInternal_d00df l g jd b q cap ml n f wr 0 0 0 hcp hf ⟨by omega, by omega⟩ (.inl (by omega))) rfl hl.1 rfl ⟨rfl, rfl⟩ ⟨Nat.le_of_ble_eq_true rfl, Nat.le_of_ble_eq_true rfl⟩ ⟨Nat.le_of_ble_eq_true rfl, Nat.le_of_ble_eq_true rfl⟩ (Nat.le_of_ble_eq_true rfl) dJ5_setLength_d00df_15 (fun u H locs hw hW => ?_)
  have hu : u = q := hw (by omega)
  have e0 : vs_gr cap 0 = cap := by unfold vs_gr; rw [if_pos (by omega)]
  have e1 : vs_gf cap 0 f = f := by unfold vs_gf; rw [if_pos (by omega)]
  rw [e0, e1, hu] at hW
  refine vs_aload_n hC hl 0 dJ5_setLength_d00df_18 rfl rfl ?_
  refine vs_get hC hW 0 rfl rfl vs_inJ4 3 (by decide) vf_J5_79 rfl dJ5_setLength_d00df_19 ?_
  refine vs_iload_n hC hl 1 dJ5_setLength_d00df_22 rfl rfl ?_
  refine vs_icmp_ge hC 63 ⟨by omega, by omega⟩ ⟨by omega, by omega⟩ dJ5_setLength_d00df_23 (by decide) (fun hc => ?_) (fun hc => absurd hc (by omega))
  refine vs_aload_n hC hl 0 dJ5_setLength_d00df_63 rfl rfl ?_
  refine vs_get hC hW 0 rfl rfl vs_inJ4 3 (by decide) vf_J5_79 rfl dJ5_setLength_d00df_64 ?_
  refine vs_iload_n hC hl 1 dJ5_setLength_d00df_67 rfl rfl ?_
  by_cases hq : n ≤ 0
  · refine vs_icmp_le hC 76 ⟨by omega, by omega⟩ ⟨by omega, by omega⟩ dJ5_setLength_d00df_68 (by decide) (fun hc => ?_) (fun hc => absurd hc (by omega))
    refine vs_aload_n hC hl 0 dJ5_setLength_d00df_76 rfl rfl ?_
    refine vs_iload_n hC hl 1 dJ5_setLength_d00df_77 rfl rfl ?_
    refine vs_putG (Wo' := vs_tB g b q ml 0 cap f ++ wr) hC hW 0 rfl rfl vs_inJ4 tyJ4_ok nmJ4 3 (by decide) vf_J5_79 rfl rfl rfl (Nat.le_of_ble_eq_true rfl) rfl dJ5_setLength_d00df_78 (fun H locs hW => ?_)
    exact vs_vret ml hC hr hlk hW rfl trivial (Nat.le_of_ble_eq_true rfl) (Nat.le_of_ble_eq_true rfl) dJ5_setLength_d00df_81
  · refine vs_icmp_le hC 76 ⟨by omega, by omega⟩ ⟨by omega, by omega⟩ dJ5_setLength_d00df_68 (by decide) (fun hc => absurd hc (by omega)) (fun hc => ?_)
    refine vs_aload_n hC hl 0 dJ5_setLength_d00df_71 rfl rfl ?_
    refine vs_iconst hC dJ5_setLength_d00df_72 ?_
    refine vs_putG (Wo' := vs_tB g b q 1 n cap f ++ wr) hC hW 0 rfl rfl vs_inJ4 tyJ4_ok nmJ4 2 (by decide) vf_J5_73 rfl rfl rfl (Nat.le_of_ble_eq_true rfl) rfl dJ5_setLength_d00df_73 (fun H locs hW => ?_)
    refine vs_aload_n hC hl 0 dJ5_setLength_d00df_76 rfl rfl ?_
    refine vs_iload_n hC hl 1 dJ5_setLength_d00df_77 rfl rfl ?_
    refine vs_putG (Wo' := vs_tB g b q 1 0 cap f ++ wr) hC hW 0 rfl rfl vs_inJ4 tyJ4_ok nmJ4 3 (by decide) vf_J5_79 rfl rfl rfl (Nat.le_of_ble_eq_true rfl) rfl dJ5_setLength_d00df_78 (fun H locs hW => ?_)
    exact vs_vret 1 hC hr hlk hW rfl trivial (Nat.le_of_ble_eq_true rfl) (Nat.le_of_ble_eq_true rfl) dJ5_setLength_d00df_81
set_option maxHeartbeats 4000000 in
set_option maxRecDepth 100000 in
theorem c_J4_setLength_d00df (l : Launch) (g : vs_G) (jd : Nat → Nat) (b q cap : Nat) (ml n : Int) (f : Int → Int) (wr : va_W) (hcp : cap ≤ 1000) (hf : vs_by f cap) (hn : 0 ≤ n ∧ n ≤ (cap : Int)) : vs_JV l yJ4_setLength_d00df (Cond.code yJ4_setLength_d00df cJ4_setLength_d00df 2 none :: vs_ws) { frames := 5, cells := 0, slots := 0, locals := 151 } g jd [.ref b, .int (vs_I 0)] (vs_tB g b q ml n cap f ++ wr) (fun (z : Int) => vs_tB g b q z 0 cap f ++ wr) (fun (_ : Int) => True) 0 0 := by
  refine vs_ofJ (y := yJ4_setLength_d00df) (cc := cJ4_setLength_d00df) (maxL := 2) (ret := none) (as := [.ref b, .int (vs_I 0)]) (Wo := vs_tB g b q ml n cap f ++ wr) (mc := 0) (ms := 0) (Qc := fun A => vs_QV g A (fun (z : Int) => vs_tB g b q z 0 cap f ++ wr) (fun (_ : Int) => True)) (by decide +kernel) (Nat.le_of_ble_eq_true rfl) (fun p e s m below meth c A ls hC hr hlk hin hW hJ hl => ?_)
  have hC : CallFix p m c cJ4_setLength_d00df 2 s _ vs_ws RJ4 := hC
  have hl : lv_has ls 2 [(0, .ref b), (1, .int (vs_I 0))] := hl
  refine vs_aload_n hC hl 0 dJ4_setLength_d00df_0 rfl rfl ?_
  refine vs_iload_n hC hl 1 dJ4_setLength_d00df_1 rfl rfl ?_
  refine vs_jcallSUV [.int (vs_I 0)] hC hW hJ 0 rfl rfl vkSU_J5_setLength_d00df vm_J4_333 (c_J5_setLength_d00df l g jd b q cap ml n f wr hcp hf hn) rfl hl.1 rfl ⟨rfl, rfl⟩ ⟨Nat.le_of_ble_eq_true rfl, Nat.le_of_ble_eq_true rfl⟩ ⟨Nat.le_of_ble_eq_true rfl, Nat.le_of_ble_eq_true rfl⟩ (Nat.le_of_ble_eq_true rfl) dJ4_setLength_d00df_2 (fun z H locs hw hW => ?_)
  exact vs_vret z hC hr hlk hW rfl trivial (Nat.le_of_ble_eq_true rfl) (Nat.le_of_ble_eq_true rfl) dJ4_setLength_d00df_5
set_option maxHeartbeats 4000000 in
set_option maxRecDepth 100000 in
theorem c_J5_init_d00df (l : Launch) (g : vs_G) (jd : Nat → Nat) (b : Nat) (wr : va_W) : vs_JV l yJ5_init_d00df (Cond.code yJ5_init_d00df cJ5_init_d00df 2 none :: vs_ws) { frames := 1, cells := 1, slots := 16, locals := 40 } g jd [.ref b, .int (vs_I 16)] ([(b, .inr (1, [.null, .int (vs_I 0), .int (vs_I 0), .int (vs_I 0)]))] ++ wr) (fun (u : Nat) => vs_tB g b u 0 0 16 (fun _ => 0) ++ wr) (fun (_ : Nat) => True) 1 16 := by
  refine vs_ofJ (y := yJ5_init_d00df) (cc := cJ5_init_d00df) (maxL := 2) (ret := none) (as := [.ref b, .int (vs_I 16)]) (Wo := [(b, .inr (1, [.null, .int (vs_I 0), .int (vs_I 0), .int (vs_I 0)]))] ++ wr) (mc := 1) (ms := 16) (Qc := fun A => vs_QV g A (fun (u : Nat) => vs_tB g b u 0 0 16 (fun _ => 0) ++ wr) (fun (_ : Nat) => True)) (by decide +kernel) (Nat.le_of_ble_eq_true rfl) (fun p e s m below meth c A ls hC hr hlk hin hW hJ hl => ?_)
  have hC : CallFix p m c cJ5_init_d00df 2 s _ vs_ws RJ5 := hC
  have hl : lv_has ls 2 [(0, .ref b), (1, .int (vs_I 16))] := hl
  refine vs_aload_n hC hl 0 dJ5_init_d00df_0 rfl rfl ?_
  refine vs_objInit hC hl.1 vm_J5_3 dJ5_init_d00df_1 (Nat.le_of_ble_eq_true rfl) (Nat.le_of_ble_eq_true rfl) ?_
  refine vs_gets hC hW hJ.1 vz_J5_18 dJ5_init_d00df_4 ?_
  refine vs_if_eq hC 25 ⟨by omega, by omega⟩ dJ5_init_d00df_7 (by decide) (fun hc => absurd hc (by decide)) (fun hc => ?_)
  refine vs_aload_n hC hl 0 dJ5_init_d00df_10 rfl rfl ?_
  refine vs_iload_n hC hl 1 dJ5_init_d00df_11 rfl rfl ?_
  refine vs_newaB (x := [(b, .inr (1, [.null, .int (vs_I 0), .int (vs_I 0), .int (vs_I 0)]))]) (r := wr) hC hW (N := 16) rfl (by decide) (Nat.le_of_ble_eq_true rfl) (Nat.le_of_ble_eq_true rfl) dJ5_init_d00df_12 (fun u H hW => ?_)
  have hW : vs_Wd g A s.heap ([(b, .inr (1, [.null, .int (vs_I 0), .int (vs_I 0), .int (vs_I 0)]))] ++ ([(u, .inl (g.2 6, 16, .inl (vs_en (fun _ => 0))))] ++ wr)) H [] s := hW
  refine vs_putG (Wo' := [(b, .inr (1, [.ref u, .int (vs_I 0), .int (vs_I 0), .int (vs_I 0)]))] ++ ([(u, .inl (g.2 6, 16, .inl (vs_en (fun _ => 0))))] ++ wr)) hC hW 0 rfl rfl vs_inJ4 tyJ4_ok nmJ4 0 (by decide) vf_J5_15 rfl rfl rfl (Nat.le_of_ble_eq_true rfl) rfl dJ5_init_d00df_14 (fun H locs hW => ?_)
  refine vs_aload_n hC hl 0 dJ5_init_d00df_17 rfl rfl ?_
  refine vs_iconst hC dJ5_init_d00df_18 ?_
  refine vs_putG (Wo' := [(b, .inr (1, [.ref u, .int (vs_I 0), .int (vs_I 0), .int (vs_I 0)]))] ++ ([(u, .inl (g.2 6, 16, .inl (vs_en (fun _ => 0))))] ++ wr)) hC hW 0 rfl rfl vs_inJ4 tyJ4_ok nmJ4 1 (by decide) vf_J5_22 rfl rfl rfl (Nat.le_of_ble_eq_true rfl) rfl dJ5_init_d00df_19 (fun H locs hW => ?_)
  refine vs_goto hC 38 dJ5_init_d00df_22 (by decide) ?_
  exact vs_vret u hC hr hlk hW rfl trivial (Nat.le_of_ble_eq_true rfl) (Nat.le_of_ble_eq_true rfl) dJ5_init_d00df_38
set_option maxHeartbeats 4000000 in
set_option maxRecDepth 100000 in
theorem c_J4_init_da8c8 (l : Launch) (g : vs_G) (jd : Nat → Nat) (b : Nat) (wr : va_W) : vs_JV l yJ4_init_da8c8 (Cond.code yJ4_init_da8c8 cJ4_init_da8c8 1 none :: vs_ws) { frames := 2, cells := 1, slots := 16, locals := 61 } g jd [.ref b] ([(b, .inr (1, [.null, .int (vs_I 0), .int (vs_I 0), .int (vs_I 0)]))] ++ wr) (fun (u : Nat) => vs_tB g b u 0 0 16 (fun _ => 0) ++ wr) (fun (_ : Nat) => True) 1 16 := by
  refine vs_ofJ (y := yJ4_init_da8c8) (cc := cJ4_init_da8c8) (maxL := 1) (ret := none) (as := [.ref b]) (Wo := [(b, .inr (1, [.null, .int (vs_I 0), .int (vs_I 0), .int (vs_I 0)]))] ++ wr) (mc := 1) (ms := 16) (Qc := fun A => vs_QV g A (fun (u : Nat) => vs_tB g b u 0 0 16 (fun _ => 0) ++ wr) (fun (_ : Nat) => True)) (by decide +kernel) (Nat.le_of_ble_eq_true rfl) (fun p e s m below meth c A ls hC hr hlk hin hW hJ hl => ?_)
  have hC : CallFix p m c cJ4_init_da8c8 1 s _ vs_ws RJ4 := hC
  have hl : lv_has ls 1 [(0, .ref b)] := hl
  refine vs_aload_n hC hl 0 dJ4_init_da8c8_0 rfl rfl ?_
  refine vs_bipush hC dJ4_init_da8c8_1 (by decide +kernel) ?_
  refine vs_jcallIV [.int (vs_I 16)] hC hW hJ vkI_J5_init_d00df vm_J4_1 (c_J5_init_d00df l g jd b wr) rfl hl.1 rfl ⟨rfl, rfl⟩ ⟨Nat.le_of_ble_eq_true rfl, Nat.le_of_ble_eq_true rfl⟩ ⟨Nat.le_of_ble_eq_true rfl, Nat.le_of_ble_eq_true rfl⟩ (Nat.le_of_ble_eq_true rfl) dJ4_init_da8c8_3 (fun u H locs hw hW => ?_)
  exact vs_vret u hC hr hlk hW rfl trivial (Nat.le_of_ble_eq_true rfl) (Nat.le_of_ble_eq_true rfl) dJ4_init_da8c8_6
section VSJ3
variable {p : Program} {l : Launch} {e : Env} {R : Room} {s : State} {m : MethodId} {args : Array Value} {below : List Frame} {meth : Method} {c : Code} {H : Heap} {locs : List Loc} {cells slots : Nat} {Q : State → Prop}
variable {cc : ByteArray} {pc nL : Nat} {ls : Array Slot} {rest : List Value} {own : String} {g : vs_G} {jd : Nat → Nat} {A : Nat → Prop} {H0 : Heap} {Wo : va_W} {a : Nat}
theorem vs_bret {U : Type} {mk : U → va_W} {post : Int → U → Prop} {x : Int} {mc ms : Nat} (u : U) (hC : CallFix p m c cc nL s args vs_ws own) (hr : meth.sig.returnType = some .byte) (hlk : meth.locks = false) (hW : vs_Wd g A s.heap Wo H locs s) (hmk : mk u = Wo) (hpost : (-128 ≤ x ∧ x < 128) ∧ post x u) (h1 : cells ≤ mc) (h2 : slots ≤ ms) (hdg : decode cc pc = .ok (.ireturn, 1)) :
    W p l e R s m args below meth c H locs cells slots (MQ below (vs_QI g A mk post) args s mc ms A) (F0 m pc ls [.int (vs_I x)]) := by
  subst hmk
  exact W.widen h1 h2 (W.zret hC.1 hC.2.1 hr (by simp only [narrow]; rw [vs_b8 hpost.1.1 hpost.1.2]) (fun t ht _ => ⟨⟨vs_I x, (x, u), rfl, ⟨rfl, hpost.2⟩, by rw [ht]; exact hW.2.1, hW.2.2.1⟩, hW.2.2.2.1.F ht⟩) hW.2.2.2.1.2.2 hdg hlk)
theorem vs_cwLen {rm : Room} {mc ms : Nat} (hC : CallFix p m c cc nL s args vs_ws RJ0) (hrc : rm.cells = mc) (hrs : rm.slots = ms) (hR : rm.frames + 1 ≤ R.frames ∧ 8 + (1 + 11) + rm.locals ≤ R.locals) :
    va_CU R s args RJ0 RJ4 RJ5 549 yJ5_length_8abf5 yJ4_length_8abf5 cJ4_length_8abf5 1 (some .int) (Cond.code yJ4_length_8abf5 cJ4_length_8abf5 1 (some .int) :: vs_ws) rm mc ms 0 := by
  refine va_cwO 0 hC.2.2.2.2 (vs_good fun w hw => ?_) rfl hrc hrs (b0 := cJ5_length_8abf5) (m0 := 1) (r0 := some .int) vkSU_J5_length_8abf5.2.2.2.1 ⟨by decide +kernel, by decide +kernel, by decide +kernel⟩ hR
  simp only [va_wsO, List.mem_append, List.mem_cons, List.not_mem_nil, or_false] at hw
  rcases hw with (rfl | rfl | rfl | rfl | rfl | rfl) | rfl | hw
  · exact vm_J0_549
  · exact vs_mem 1125 (by decide +kernel) (by decide +kernel)
  · exact vkSU_J5_length_8abf5.2.1
  · exact vs_mem 1126 (by decide +kernel) (by decide +kernel)
  · exact vk_J4_length_8abf5.1.1
  · exact vk_J4_length_8abf5.2.1
  · exact vk_J4_length_8abf5.2.2.1
  · exact hw
theorem vs_jcallLen {U : Type} {mk : U → va_W} {post : Int → U → Prop} {mc ms : Nat} {rm : Room} (As : List Value) (hC : CallFix p m c cc nL s args vs_ws RJ0) (hW : vs_Wd g A s.heap Wo H locs s) (hJ : vs_Js g jd A s s.heap) (q0 : Nat) {ci : Nat} {fs : List Value} {T : u_T} {N : Nat} (he : Wo[q0]? = some (a, .inr (ci, fs))) (hc : vwCl[ci]? = some (RJ4, T, N)) (hM : vs_JI l yJ4_length_8abf5 (Cond.code yJ4_length_8abf5 cJ4_length_8abf5 1 (some .int) :: vs_ws) rm g jd (.ref a :: As) Wo mk post mc ms) (hn : As.length = 0) (hlsz : ls.size = nL) {st0 : List Value} (hst : st0 = As.reverse ++ .ref a :: rest) (hrm : rm.cells = mc ∧ rm.slots = ms) (hR : rm.frames + 1 ≤ R.frames ∧ 8 + (1 + 11) + rm.locals ≤ R.locals) (hcap : cells + mc ≤ R.cells ∧ slots + ms ≤ R.slots) (hstk : (rest.map fun v => v.category).sum ≤ 8) (hdg : decode cc pc = .ok (.invokevirtual 549, 3))
    (kk : ∀ (v : Int) (u : U) (H1 : Heap) (locs1 : List Loc), post v u → vs_Wd g A s.heap (mk u) H1 locs1 s → W p l e R s m args below meth c H1 locs1 (cells + mc) (slots + ms) Q (F0 m (pc + 3) ls (.int (vs_I v) :: rest))) : W p l e R s m args below meth c H locs cells slots Q (F0 m pc ls st0) := by
  subst hst
  exact va_calli (va_runU (As := As) (rest := rest) hC (hM H.size) (vs_cwLen hC hrm.1 hrm.2 hR) ⟨vs_blindJ, va_recv hW.1.1 hW.2.1 hc he, hW.preJ hJ⟩ rfl hn hlsz rfl (lv_room hstk) hdg hcap) hW.2.2.2.1 (fun q _ h => hW.in q h) hW.in (fun r u t H1 locs1 ht _ hp hb _ _ hS => by
    obtain ⟨v, u⟩ := u
    obtain ⟨rfl, hp⟩ := hp
    exact kk v u H1 locs1 hp (hW.back ht hb hS))
end VSJ3
theorem vs_pS {x : Nat × va_E} {X Y r : va_W} : List.Perm ([x] ++ (X ++ (Y ++ r))) (X ++ (Y ++ (x :: r))) := (List.perm_middle (l₁ := X) (l₂ := Y ++ r)).symm.trans (List.Perm.append_left X (List.perm_middle (l₁ := Y) (l₂ := r)).symm)
set_option maxHeartbeats 4000000 in
set_option maxRecDepth 100000 in
theorem c_J7_checkLength_df160 (l : Launch) (g : vs_G) (jd : Nat → Nat) (x : Int) (wr : va_W) (hx : 0 ≤ x ∧ x ≤ 100000) : vs_JV l yJ7_checkLength_df160 (Cond.code yJ7_checkLength_df160 cJ7_checkLength_df160 2 none :: vs_ws) { frames := 0, cells := 0, slots := 0, locals := 40 } g jd [.int (vs_I 0), .int (vs_I x)] (wr) (fun (_ : Unit) => wr) (fun (_ : Unit) => True) 0 0 := by
  refine vs_ofJ (y := yJ7_checkLength_df160) (cc := cJ7_checkLength_df160) (maxL := 2) (ret := none) (as := [.int (vs_I 0), .int (vs_I x)]) (Wo := wr) (mc := 0) (ms := 0) (Qc := fun A => vs_QV g A (fun (_ : Unit) => wr) (fun (_ : Unit) => True)) (by decide +kernel) (Nat.le_of_ble_eq_true rfl) (fun p e s m below meth c A ls hC hr hlk hin hW hJ hl => ?_)
  have hC : CallFix p m c cJ7_checkLength_df160 2 s _ vs_ws RJ7 := hC
  have hl : lv_has ls 2 [(0, .int (vs_I 0)), (1, .int (vs_I x))] := hl
  refine vs_iload_n hC hl 1 dJ7_checkLength_df160_0 rfl rfl ?_
  refine vs_iload_n hC hl 0 dJ7_checkLength_df160_1 rfl rfl ?_
  refine vs_icmp_ge hC 37 ⟨by omega, by omega⟩ ⟨by omega, by omega⟩ dJ7_checkLength_df160_2 (by decide) (fun hc => ?_) (fun hc => absurd hc (by omega))
  exact vs_vret () hC hr hlk hW rfl trivial (Nat.le_of_ble_eq_true rfl) (Nat.le_of_ble_eq_true rfl) dJ7_checkLength_df160_37
set_option maxHeartbeats 4000000 in
set_option maxRecDepth 100000 in
theorem c_J7_copyOfRangeByte_39247 (l : Launch) (g : vs_G) (jd : Nat → Nat) (q cap N k : Nat) (f : Int → Int) (Wo : va_W) (mc ms : Nat) (hk : Wo[k]? = some (q, .inl (g.2 6, cap, .inl (vs_en f)))) (hf : vs_by f cap) (hN : N ≤ cap ∧ cap ≤ 60000) (hm : 1 ≤ mc ∧ N ≤ ms) : vs_JR l yJ7_copyOfRangeByte_39247 (Cond.code yJ7_copyOfRangeByte_39247 cJ7_copyOfRangeByte_39247 5 (some (.array .byte)) :: vs_ws) { frames := 1, cells := mc, slots := ms, locals := 61 } g jd [.ref q, .int (vs_I 0), .int (vs_I (N : Int))] (Wo) (fun (u : Nat × (Int → Int)) => [(u.1, .inl (g.2 6, N, .inl (vs_en u.2)))] ++ Wo) (fun (u : Nat × (Int → Int)) => u.1) (fun (u : Nat × (Int → Int)) => ∀ j : Int, 0 ≤ j → j < (N : Int) → u.2 j = f j) mc ms := by
  refine vs_ofJ (y := yJ7_copyOfRangeByte_39247) (cc := cJ7_copyOfRangeByte_39247) (maxL := 5) (ret := (some (.array .byte))) (as := [.ref q, .int (vs_I 0), .int (vs_I (N : Int))]) (Wo := Wo) (mc := mc) (ms := ms) (Qc := fun A => vs_QR g A (fun (u : Nat × (Int → Int)) => [(u.1, .inl (g.2 6, N, .inl (vs_en u.2)))] ++ Wo) (fun (u : Nat × (Int → Int)) => u.1) (fun (u : Nat × (Int → Int)) => ∀ j : Int, 0 ≤ j → j < (N : Int) → u.2 j = f j)) (by decide +kernel) (Nat.le_of_ble_eq_true rfl) (fun p e s m below meth c A ls hC hr hlk hin hW hJ hl => ?_)
  have hC : CallFix p m c cJ7_copyOfRangeByte_39247 5 s _ vs_ws RJ7 := hC
  have hl : lv_has ls 5 [(0, .ref q), (1, .int (vs_I 0)), (2, .int (vs_I (N : Int)))] := hl
  refine vs_iload_n hC hl 1 dJ7_copyOfRangeByte_39247_0 rfl rfl ?_
  refine vs_iload_n hC hl 2 dJ7_copyOfRangeByte_39247_1 rfl rfl ?_
  refine vs_jcallSV [.int (vs_I 0), .int (vs_I (N : Int))] hC hW hJ vk_J7_checkLength_df160 vm_J7_343 (c_J7_checkLength_df160 l g jd (N : Int) Wo (by omega)) rfl hl.1 rfl ⟨rfl, rfl⟩ ⟨Nat.le_of_ble_eq_true rfl, Nat.le_of_ble_eq_true rfl⟩ ⟨show _ ≤ mc by first | omega | (dsimp only; omega), show _ ≤ ms by first | omega | (dsimp only; omega)⟩ (Nat.le_of_ble_eq_true rfl) dJ7_copyOfRangeByte_39247_2 (fun _ H locs hw hW => ?_)
  refine vs_iload_n hC hl 2 dJ7_copyOfRangeByte_39247_5 rfl rfl ?_
  refine vs_iload_n hC hl 1 dJ7_copyOfRangeByte_39247_6 rfl rfl ?_
  refine vs_isub hC dJ7_copyOfRangeByte_39247_7 ?_
  rw [Int.sub_zero (N : Int)]
  refine vs_istore_n (L' := [(0, .ref q), (1, .int (vs_I 0)), (2, .int (vs_I (N : Int))), (3, .int (vs_I (N : Int)))]) hC hl [1, 2, 3, 0] dJ7_copyOfRangeByte_39247_8 rfl (by decide) rfl (fun ls hl => ?_)
  refine vs_iload_n hC hl 3 dJ7_copyOfRangeByte_39247_9 rfl rfl ?_
  refine vs_newaB (x := []) (r := Wo) hC hW rfl (by omega) (show _ ≤ mc by first | omega | (dsimp only; omega)) (show _ ≤ ms by first | omega | (dsimp only; omega)) dJ7_copyOfRangeByte_39247_10 (fun u H hW => ?_)
  have hW : vs_Wd g A s.heap ([(u, .inl (g.2 6, N, .inl (vs_en (fun _ => 0))))] ++ Wo) H _ s := hW
  have hk : ([(u, .inl (g.2 6, N, .inl (vs_en (fun _ => 0))))] ++ Wo)[k + 1]? = some (q, .inl (g.2 6, cap, .inl (vs_en f))) := hk
  refine vs_astore (L' := [(0, .ref q), (1, .int (vs_I 0)), (2, .int (vs_I (N : Int))), (3, .int (vs_I (N : Int))), (4, .ref u)]) hC hl [1, 2, 3, 4, 0] dJ7_copyOfRangeByte_39247_12 (by decide) rfl (fun ls hl => ?_)
  refine vs_aload_n hC hl 0 dJ7_copyOfRangeByte_39247_14 rfl rfl ?_
  refine vs_iload_n hC hl 1 dJ7_copyOfRangeByte_39247_15 rfl rfl ?_
  refine vs_aload hC hl 4 dJ7_copyOfRangeByte_39247_16 rfl ?_
  refine vs_iconst hC dJ7_copyOfRangeByte_39247_18 ?_
  refine vs_aload_n hC hl 0 dJ7_copyOfRangeByte_39247_19 rfl rfl ?_
  refine vs_alenN hC hW (k + 1) hk dJ7_copyOfRangeByte_39247_20 ?_
  refine vs_iload_n hC hl 1 dJ7_copyOfRangeByte_39247_21 rfl rfl ?_
  refine vs_isub hC dJ7_copyOfRangeByte_39247_22 ?_
  rw [Int.sub_zero (cap : Int)]
  refine vs_iload_n hC hl 3 dJ7_copyOfRangeByte_39247_23 rfl rfl ?_
  refine vs_mmin hC ⟨by omega, by omega⟩ ⟨by omega, by omega⟩ hl.1 vm_J7_304 (Nat.le_of_ble_eq_true rfl) (Nat.le_of_ble_eq_true rfl) (show _ ≤ mc by first | omega | (dsimp only; omega)) (show _ ≤ ms by first | omega | (dsimp only; omega)) dJ7_copyOfRangeByte_39247_24 ?_
  have e0 : min (cap : Int) (N : Int) = (N : Int) := by omega
  rw [e0]
  refine vs_acopyB (Wo' := [(u, .inl (g.2 6, N, .inl (vs_en (vs_cpB f (fun _ => 0) (N : Int)))))] ++ Wo) hC hW (k + 1) 0 hk rfl ⟨by omega, by omega, by omega, by omega⟩ (fun j h0 h1 => hf j h0 (by omega)) hl.1 vm_J7_150 rfl (Nat.le_of_ble_eq_true rfl) (Nat.le_of_ble_eq_true rfl) dJ7_copyOfRangeByte_39247_27 (fun H locs hW => ?_)
  refine vs_aload hC hl 4 dJ7_copyOfRangeByte_39247_30 rfl ?_
  exact vs_rret (u, vs_cpB f (fun _ => 0) (N : Int)) hC hr (.inr ⟨_, rfl⟩) hlk hW rfl (fun j h0 h1 => by show vs_cpB f (fun _ => 0) (N : Int) j = f j; unfold vs_cpB; rw [if_pos ⟨h0, h1⟩]) (show _ ≤ mc by first | omega | (dsimp only; omega)) (show _ ≤ ms by first | omega | (dsimp only; omega)) dJ7_copyOfRangeByte_39247_32
set_option maxHeartbeats 4000000 in
set_option maxRecDepth 100000 in
theorem c_J7_copyOfRange_39247 (l : Launch) (g : vs_G) (jd : Nat → Nat) (q cap N k : Nat) (f : Int → Int) (Wo : va_W) (mc ms : Nat) (hk : Wo[k]? = some (q, .inl (g.2 6, cap, .inl (vs_en f)))) (hf : vs_by f cap) (hN : N ≤ cap ∧ cap ≤ 60000) (hm : 1 ≤ mc ∧ N ≤ ms) : vs_JR l yJ7_copyOfRange_39247 (Cond.code yJ7_copyOfRange_39247 cJ7_copyOfRange_39247 3 (some (.array .byte)) :: vs_ws) { frames := 2, cells := mc, slots := ms, locals := 85 } g jd [.ref q, .int (vs_I 0), .int (vs_I (N : Int))] (Wo) (fun (u : Nat × (Int → Int)) => [(u.1, .inl (g.2 6, N, .inl (vs_en u.2)))] ++ Wo) (fun (u : Nat × (Int → Int)) => u.1) (fun (u : Nat × (Int → Int)) => ∀ j : Int, 0 ≤ j → j < (N : Int) → u.2 j = f j) mc ms := by
  refine vs_ofJ (y := yJ7_copyOfRange_39247) (cc := cJ7_copyOfRange_39247) (maxL := 3) (ret := (some (.array .byte))) (as := [.ref q, .int (vs_I 0), .int (vs_I (N : Int))]) (Wo := Wo) (mc := mc) (ms := ms) (Qc := fun A => vs_QR g A (fun (u : Nat × (Int → Int)) => [(u.1, .inl (g.2 6, N, .inl (vs_en u.2)))] ++ Wo) (fun (u : Nat × (Int → Int)) => u.1) (fun (u : Nat × (Int → Int)) => ∀ j : Int, 0 ≤ j → j < (N : Int) → u.2 j = f j)) (by decide +kernel) (Nat.le_of_ble_eq_true rfl) (fun p e s m below meth c A ls hC hr hlk hin hW hJ hl => ?_)
  have hC : CallFix p m c cJ7_copyOfRange_39247 3 s _ vs_ws RJ7 := hC
  have hl : lv_has ls 3 [(0, .ref q), (1, .int (vs_I 0)), (2, .int (vs_I (N : Int)))] := hl
  by_cases hq : N = cap
  · refine vs_iload_n hC hl 1 dJ7_copyOfRange_39247_0 rfl rfl ?_
    refine vs_if_ne hC 10 ⟨by omega, by omega⟩ dJ7_copyOfRange_39247_1 (by decide) (fun hc => absurd hc (by decide)) (fun hc => ?_)
    refine vs_iload_n hC hl 2 dJ7_copyOfRange_39247_4 rfl rfl ?_
    refine vs_aload_n hC hl 0 dJ7_copyOfRange_39247_5 rfl rfl ?_
    refine vs_alenN hC hW k hk dJ7_copyOfRange_39247_6 ?_
    refine vs_icmp_eq hC 17 ⟨by omega, by omega⟩ ⟨by omega, by omega⟩ dJ7_copyOfRange_39247_7 (by decide) (fun hc => ?_) (fun hc => absurd hc (by omega))
    refine vs_aload_n hC hl 0 dJ7_copyOfRange_39247_17 rfl rfl ?_
    refine vs_cloneB (x := []) (r := Wo) hC hW hJ k hk hf hl.1 (Nat.le_of_ble_eq_true rfl) (Nat.le_of_ble_eq_true rfl) (show _ ≤ mc by first | omega | (dsimp only; omega)) (show _ ≤ ms by first | omega | (dsimp only; omega)) dJ7_copyOfRange_39247_18 (fun u H hW => ?_)
    refine vs_castB hC hW 0 rfl dJ7_copyOfRange_39247_21 ?_
    exact vs_rret (u, f) hC hr (.inr ⟨_, rfl⟩) hlk hW (by rw [hq]; rfl) (fun j h0 h1 => rfl) (show _ ≤ mc by first | omega | (dsimp only; omega)) (show _ ≤ ms by first | omega | (dsimp only; omega)) dJ7_copyOfRange_39247_24
  · refine vs_iload_n hC hl 1 dJ7_copyOfRange_39247_0 rfl rfl ?_
    refine vs_if_ne hC 10 ⟨by omega, by omega⟩ dJ7_copyOfRange_39247_1 (by decide) (fun hc => absurd hc (by decide)) (fun hc => ?_)
    refine vs_iload_n hC hl 2 dJ7_copyOfRange_39247_4 rfl rfl ?_
    refine vs_aload_n hC hl 0 dJ7_copyOfRange_39247_5 rfl rfl ?_
    refine vs_alenN hC hW k hk dJ7_copyOfRange_39247_6 ?_
    refine vs_icmp_eq hC 17 ⟨by omega, by omega⟩ ⟨by omega, by omega⟩ dJ7_copyOfRange_39247_7 (by decide) (fun hc => absurd hc (by omega)) (fun hc => ?_)
    refine vs_aload_n hC hl 0 dJ7_copyOfRange_39247_10 rfl rfl ?_
    refine vs_iload_n hC hl 1 dJ7_copyOfRange_39247_11 rfl rfl ?_
    refine vs_iload_n hC hl 2 dJ7_copyOfRange_39247_12 rfl rfl ?_
    refine vs_jcallSR [.ref q, .int (vs_I 0), .int (vs_I (N : Int))] hC hW hJ vk_J7_copyOfRangeByte_39247 vm_J7_339 (c_J7_copyOfRangeByte_39247 l g jd q cap N k f Wo mc ms hk hf hN hm) rfl hl.1 rfl ⟨rfl, rfl⟩ ⟨Nat.le_of_ble_eq_true rfl, Nat.le_of_ble_eq_true rfl⟩ ⟨show _ ≤ mc by first | omega | (dsimp only; omega), show _ ≤ ms by first | omega | (dsimp only; omega)⟩ (Nat.le_of_ble_eq_true rfl) dJ7_copyOfRange_39247_13 (fun u H locs hw hW => ?_)
    exact vs_rret u hC hr (.inr ⟨_, rfl⟩) hlk hW rfl hw (show _ ≤ mc by first | omega | (dsimp only; omega)) (show _ ≤ ms by first | omega | (dsimp only; omega)) dJ7_copyOfRange_39247_16
set_option maxHeartbeats 4000000 in
set_option maxRecDepth 100000 in
theorem c_J0_init_db425 (l : Launch) (g : vs_G) (jd : Nat → Nat) (a b q cap N : Nat) (ml : Int) (f : Int → Int) (wr : va_W) (mc ms : Nat) (hf : vs_by f cap) (hN : N ≤ cap ∧ cap ≤ 60000) (hm : 1 ≤ mc ∧ N ≤ ms) : vs_JV l yJ0_init_db425 (Cond.code yJ0_init_db425 cJ0_init_db425 5 none :: vs_ws) { frames := 3, cells := mc, slots := ms, locals := 107 } g jd [.ref a, .ref b, .null] (vs_tB g b q ml (N : Int) cap f ++ ([(a, .inr (0, [.null, .int (vs_I 0), .int (vs_I 0), .int (vs_I 0)]))] ++ wr)) (fun (u : Nat × (Int → Int)) => vs_tB g b q ml (N : Int) cap f ++ (vs_tS g a u.1 N u.2 (.int (vs_I 0), .int (vs_I 0)) ++ wr)) (fun (u : Nat × (Int → Int)) => ∀ j : Int, 0 ≤ j → j < (N : Int) → u.2 j = f j) mc ms := by
  refine vs_ofJ (y := yJ0_init_db425) (cc := cJ0_init_db425) (maxL := 5) (ret := none) (as := [.ref a, .ref b, .null]) (Wo := vs_tB g b q ml (N : Int) cap f ++ ([(a, .inr (0, [.null, .int (vs_I 0), .int (vs_I 0), .int (vs_I 0)]))] ++ wr)) (mc := mc) (ms := ms) (Qc := fun A => vs_QV g A (fun (u : Nat × (Int → Int)) => vs_tB g b q ml (N : Int) cap f ++ (vs_tS g a u.1 N u.2 (.int (vs_I 0), .int (vs_I 0)) ++ wr)) (fun (u : Nat × (Int → Int)) => ∀ j : Int, 0 ≤ j → j < (N : Int) → u.2 j = f j)) (by decide +kernel) (Nat.le_of_ble_eq_true rfl) (fun p e s m below meth c A ls hC hr hlk hin hW hJ hl => ?_)
  have hC : CallFix p m c cJ0_init_db425 5 s _ vs_ws RJ0 := hC
  have hl : lv_has ls 5 [(0, .ref a), (1, .ref b), (2, .null)] := hl
  refine vs_aload_n hC hl 0 dJ0_init_db425_0 rfl rfl ?_
  refine vs_objInit hC hl.1 vm_J0_1 dJ0_init_db425_1 (Nat.le_of_ble_eq_true rfl) (Nat.le_of_ble_eq_true rfl) ?_
  refine vs_aload_n hC hl 1 dJ0_init_db425_4 rfl rfl ?_
  refine vs_jcallUR [] hC hW hJ 0 rfl rfl vkU_J5_getValue_6d5f1 vm_J0_552 (c_J5_getValue_6d5f1 l g jd b q cap ml (N : Int) f ([(a, .inr (0, [.null, .int (vs_I 0), .int (vs_I 0), .int (vs_I 0)]))] ++ wr)) rfl hl.1 rfl ⟨rfl, rfl⟩ ⟨Nat.le_of_ble_eq_true rfl, Nat.le_of_ble_eq_true rfl⟩ ⟨show _ ≤ mc by first | omega | (dsimp only; omega), show _ ≤ ms by first | omega | (dsimp only; omega)⟩ (Nat.le_of_ble_eq_true rfl) dJ0_init_db425_5 (fun _ H locs hw hW => ?_)
  refine vs_astore_n (L' := [(0, .ref a), (1, .ref b), (2, .null), (3, .ref q)]) hC hl [1, 2, 3, 0] dJ0_init_db425_8 rfl (by decide) rfl (fun ls hl => ?_)
  refine vs_aload_n hC hl 1 dJ0_init_db425_9 rfl rfl ?_
  refine vs_jcallLen [] hC hW hJ 0 rfl rfl (c_J4_length_8abf5 l g jd b q cap ml (N : Int) f ([(a, .inr (0, [.null, .int (vs_I 0), .int (vs_I 0), .int (vs_I 0)]))] ++ wr)) rfl hl.1 rfl ⟨rfl, rfl⟩ ⟨Nat.le_of_ble_eq_true rfl, Nat.le_of_ble_eq_true rfl⟩ ⟨show _ ≤ mc by first | omega | (dsimp only; omega), show _ ≤ ms by first | omega | (dsimp only; omega)⟩ (Nat.le_of_ble_eq_true rfl) dJ0_init_db425_10 (fun v1 _ H locs hw hW => ?_)
  subst hw
  refine vs_istore (L' := [(0, .ref a), (1, .ref b), (2, .null), (3, .ref q), (4, .int (vs_I (N : Int)))]) hC hl [1, 2, 3, 4, 0] dJ0_init_db425_13 (by decide) rfl (fun ls hl => ?_)
  refine vs_aload_n hC hl 1 dJ0_init_db425_15 rfl rfl ?_
  refine vs_jcallUI [] hC hW hJ 0 rfl rfl vkU_J5_isLatin1_aae02 vm_J0_1047 (c_J5_isLatin1_aae02 l g jd b q cap ml (N : Int) f ([(a, .inr (0, [.null, .int (vs_I 0), .int (vs_I 0), .int (vs_I 0)]))] ++ wr)) rfl hl.1 rfl ⟨rfl, rfl⟩ ⟨Nat.le_of_ble_eq_true rfl, Nat.le_of_ble_eq_true rfl⟩ ⟨show _ ≤ mc by first | omega | (dsimp only; omega), show _ ≤ ms by first | omega | (dsimp only; omega)⟩ (Nat.le_of_ble_eq_true rfl) dJ0_init_db425_16 (fun v1 _ H locs hw hW => ?_)
  subst hw
  refine vs_if_eq hC 41 ⟨by omega, by omega⟩ dJ0_init_db425_19 (by decide) (fun hc => absurd hc (by decide)) (fun hc => ?_)
  refine vs_aload_n hC hl 0 dJ0_init_db425_22 rfl rfl ?_
  refine vs_iconst hC dJ0_init_db425_23 ?_
  refine vs_putF (Wo' := vs_tB g b q ml (N : Int) cap f ++ ([(a, .inr (0, [.null, .int (vs_I 0), .int (vs_I 0), .int (vs_I 0)]))] ++ wr)) hC hW 2 rfl rfl vs_inJ0 tyJ0_ok nmJ0 1 (by decide) vf_J0_15 rfl (by rw [hin]; rfl) rfl rfl rfl (Nat.le_of_ble_eq_true rfl) rfl dJ0_init_db425_24 (fun H locs hW => ?_)
  refine vs_aload_n hC hl 0 dJ0_init_db425_27 rfl rfl ?_
  refine vs_aload_n hC hl 3 dJ0_init_db425_28 rfl rfl ?_
  refine vs_iconst hC dJ0_init_db425_29 ?_
  refine vs_iload hC hl 4 dJ0_init_db425_30 rfl ?_
  refine vs_jcallSR [.ref q, .int (vs_I 0), .int (vs_I (N : Int))] hC hW hJ vk_J7_copyOfRange_39247 vm_J0_54 (c_J7_copyOfRange_39247 l g jd q cap N 1 f (vs_tB g b q ml (N : Int) cap f ++ ([(a, .inr (0, [.null, .int (vs_I 0), .int (vs_I 0), .int (vs_I 0)]))] ++ wr)) mc ms rfl hf hN hm) rfl hl.1 rfl ⟨rfl, rfl⟩ ⟨Nat.le_of_ble_eq_true rfl, Nat.le_of_ble_eq_true rfl⟩ ⟨show _ ≤ mc by first | omega | (dsimp only; omega), show _ ≤ ms by first | omega | (dsimp only; omega)⟩ (Nat.le_of_ble_eq_true rfl) dJ0_init_db425_32 (fun u H locs hw hW => ?_)
  refine vs_putF (Wo' := [(u.1, .inl (g.2 6, N, .inl (vs_en (u.2))))] ++ (vs_tB g b q ml (N : Int) cap f ++ ([(a, .inr (0, [.ref (u.1), .int (vs_I 0), .int (vs_I 0), .int (vs_I 0)]))] ++ wr))) hC hW 3 rfl rfl vs_inJ0 tyJ0_ok nmJ0 0 (by decide) vf_J0_9 rfl (by rw [hin]; rfl) rfl rfl rfl (Nat.le_of_ble_eq_true rfl) rfl dJ0_init_db425_35 (fun H locs hW => ?_)
  refine vs_goto hC 97 dJ0_init_db425_38 (by decide) ?_
  have hW := vs_Wd.perm2 hW (vs_pS (X := vs_tB g b q ml (N : Int) cap f) (Y := [(a, .inr (0, [.ref u.1, .int (vs_I 0), .int (vs_I 0), .int (vs_I 0)]))]) (r := wr))
  exact vs_vret u hC hr hlk hW rfl hw (show _ ≤ mc by first | omega | (dsimp only; omega)) (show _ ≤ ms by first | omega | (dsimp only; omega)) dJ0_init_db425_97
set_option maxHeartbeats 4000000 in
set_option maxRecDepth 100000 in
theorem c_J0_init_81219 (l : Launch) (g : vs_G) (jd : Nat → Nat) (a b q cap N : Nat) (ml : Int) (f : Int → Int) (wr : va_W) (mc ms : Nat) (hf : vs_by f cap) (hN : N ≤ cap ∧ cap ≤ 60000) (hm : 1 ≤ mc ∧ N ≤ ms) : vs_JV l yJ0_init_81219 (Cond.code yJ0_init_81219 cJ0_init_81219 2 none :: vs_ws) { frames := 4, cells := mc, slots := ms, locals := 131 } g jd [.ref a, .ref b] (vs_tB g b q ml (N : Int) cap f ++ ([(a, .inr (0, [.null, .int (vs_I 0), .int (vs_I 0), .int (vs_I 0)]))] ++ wr)) (fun (u : Nat × (Int → Int)) => vs_tB g b q ml (N : Int) cap f ++ (vs_tS g a u.1 N u.2 (.int (vs_I 0), .int (vs_I 0)) ++ wr)) (fun (u : Nat × (Int → Int)) => ∀ j : Int, 0 ≤ j → j < (N : Int) → u.2 j = f j) mc ms := by
  refine vs_ofJ (y := yJ0_init_81219) (cc := cJ0_init_81219) (maxL := 2) (ret := none) (as := [.ref a, .ref b]) (Wo := vs_tB g b q ml (N : Int) cap f ++ ([(a, .inr (0, [.null, .int (vs_I 0), .int (vs_I 0), .int (vs_I 0)]))] ++ wr)) (mc := mc) (ms := ms) (Qc := fun A => vs_QV g A (fun (u : Nat × (Int → Int)) => vs_tB g b q ml (N : Int) cap f ++ (vs_tS g a u.1 N u.2 (.int (vs_I 0), .int (vs_I 0)) ++ wr)) (fun (u : Nat × (Int → Int)) => ∀ j : Int, 0 ≤ j → j < (N : Int) → u.2 j = f j)) (by decide +kernel) (Nat.le_of_ble_eq_true rfl) (fun p e s m below meth c A ls hC hr hlk hin hW hJ hl => ?_)
  have hC : CallFix p m c cJ0_init_81219 2 s _ vs_ws RJ0 := hC
  have hl : lv_has ls 2 [(0, .ref a), (1, .ref b)] := hl
  refine vs_aload_n hC hl 0 dJ0_init_81219_0 rfl rfl ?_
  refine vs_aload_n hC hl 1 dJ0_init_81219_1 rfl rfl ?_
  refine vs_null hC dJ0_init_81219_2 ?_
  refine vs_jcallIV [.ref b, .null] hC hW hJ vkI_J0_init_db425 vm_J0_489 (c_J0_init_db425 l g jd a b q cap N ml f wr mc ms hf hN hm) rfl hl.1 rfl ⟨rfl, rfl⟩ ⟨Nat.le_of_ble_eq_true rfl, Nat.le_of_ble_eq_true rfl⟩ ⟨show _ ≤ mc by first | omega | (dsimp only; omega), show _ ≤ ms by first | omega | (dsimp only; omega)⟩ (Nat.le_of_ble_eq_true rfl) dJ0_init_81219_3 (fun u H locs hw hW => ?_)
  exact vs_vret u hC hr hlk hW rfl hw (show _ ≤ mc by first | omega | (dsimp only; omega)) (show _ ≤ ms by first | omega | (dsimp only; omega)) dJ0_init_81219_6
set_option maxHeartbeats 4000000 in
set_option maxRecDepth 100000 in
theorem c_J4_toString_0e30d (l : Launch) (g : vs_G) (jd : Nat → Nat) (b q cap N : Nat) (ml : Int) (f : Int → Int) (wr : va_W) (mc ms : Nat) (hf : vs_by f cap) (hN : N ≤ cap ∧ cap ≤ 60000) (hm : 2 ≤ mc ∧ N + 4 ≤ ms) : vs_JR l yJ4_toString_0e30d (Cond.code yJ4_toString_0e30d cJ4_toString_0e30d 1 (some (.object "java/lang/String")) :: vs_ws) { frames := 5, cells := mc, slots := ms, locals := 152 } g jd [.ref b] (vs_tB g b q ml (N : Int) cap f ++ wr) (fun (u : Nat × (Nat × (Int → Int))) => vs_tB g b q ml (N : Int) cap f ++ (vs_tS g u.1 u.2.1 N u.2.2 (.int (vs_I 0), .int (vs_I 0)) ++ wr)) (fun (u : Nat × (Nat × (Int → Int))) => u.1) (fun (u : Nat × (Nat × (Int → Int))) => ∀ j : Int, 0 ≤ j → j < (N : Int) → u.2.2 j = f j) mc ms := by
  refine vs_ofJ (y := yJ4_toString_0e30d) (cc := cJ4_toString_0e30d) (maxL := 1) (ret := (some (.object "java/lang/String"))) (as := [.ref b]) (Wo := vs_tB g b q ml (N : Int) cap f ++ wr) (mc := mc) (ms := ms) (Qc := fun A => vs_QR g A (fun (u : Nat × (Nat × (Int → Int))) => vs_tB g b q ml (N : Int) cap f ++ (vs_tS g u.1 u.2.1 N u.2.2 (.int (vs_I 0), .int (vs_I 0)) ++ wr)) (fun (u : Nat × (Nat × (Int → Int))) => u.1) (fun (u : Nat × (Nat × (Int → Int))) => ∀ j : Int, 0 ≤ j → j < (N : Int) → u.2.2 j = f j)) (by decide +kernel) (Nat.le_of_ble_eq_true rfl) (fun p e s m below meth c A ls hC hr hlk hin hW hJ hl => ?_)
  have hC : CallFix p m c cJ4_toString_0e30d 1 s _ vs_ws RJ4 := hC
  have hl : lv_has ls 1 [(0, .ref b)] := hl
  refine vs_newST (x := vs_tB g b q ml (N : Int) cap f) (r := wr) hC hW vl_J4_18 (show _ ≤ mc by omega) (show _ ≤ ms by first | omega | (dsimp only; omega)) dJ4_toString_0e30d_0 (fun a H hW => ?_)
  have hW : vs_Wd g A s.heap (vs_tB g b q ml (N : Int) cap f ++ ([(a, .inr (0, [.null, .int (vs_I 0), .int (vs_I 0), .int (vs_I 0)]))] ++ wr)) H _ s := hW
  refine vs_dup hC dJ4_toString_0e30d_3 rfl ?_
  refine vs_aload_n hC hl 0 dJ4_toString_0e30d_4 rfl rfl ?_
  refine vs_jcallIV [.ref b] hC hW hJ vkI_J0_init_81219 vm_J4_137 (c_J0_init_81219 l g jd a b q cap N ml f wr 1 N hf hN ⟨by omega, by omega⟩) rfl hl.1 rfl ⟨rfl, rfl⟩ ⟨Nat.le_of_ble_eq_true rfl, Nat.le_of_ble_eq_true rfl⟩ ⟨show _ ≤ mc by first | omega | (dsimp only; omega), show _ ≤ ms by first | omega | (dsimp only; omega)⟩ (Nat.le_of_ble_eq_true rfl) dJ4_toString_0e30d_5 (fun u H locs hw hW => ?_)
  exact vs_rret (a, u) hC hr (.inl ⟨_, rfl⟩) hlk hW rfl hw (show _ ≤ mc by first | omega | (dsimp only; omega)) (show _ ≤ ms by first | omega | (dsimp only; omega)) dJ4_toString_0e30d_8
set_option maxHeartbeats 4000000 in
set_option maxRecDepth 100000 in
theorem c_J0_coder_7d493 (l : Launch) (g : vs_G) (jd : Nat → Nat) (a q N : Nat) (f : Int → Int) (hz : Value × Value) (wr : va_W) : vs_JI l yJ0_coder_7d493 (Cond.code yJ0_coder_7d493 cJ0_coder_7d493 1 (some .byte) :: vs_ws) { frames := 0, cells := 0, slots := 0, locals := 40 } g jd [.ref a] (vs_tS g a q N f hz ++ wr) (fun (_ : Unit) => vs_tS g a q N f hz ++ wr) (fun v (_ : Unit) => v = 0) 0 0 := by
  refine vs_ofJ (y := yJ0_coder_7d493) (cc := cJ0_coder_7d493) (maxL := 1) (ret := (some .byte)) (as := [.ref a]) (Wo := vs_tS g a q N f hz ++ wr) (mc := 0) (ms := 0) (Qc := fun A => vs_QI g A (fun (_ : Unit) => vs_tS g a q N f hz ++ wr) (fun v (_ : Unit) => v = 0)) (by decide +kernel) (Nat.le_of_ble_eq_true rfl) (fun p e s m below meth c A ls hC hr hlk hin hW hJ hl => ?_)
  have hC : CallFix p m c cJ0_coder_7d493 1 s _ vs_ws RJ0 := hC
  have hl : lv_has ls 1 [(0, .ref a)] := hl
  refine vs_gets hC hW hJ.1 vz_J0_38 dJ0_coder_7d493_0 ?_
  refine vs_if_eq hC 13 ⟨by omega, by omega⟩ dJ0_coder_7d493_3 (by decide) (fun hc => absurd hc (by decide)) (fun hc => ?_)
  refine vs_aload_n hC hl 0 dJ0_coder_7d493_6 rfl rfl ?_
  refine vs_get hC hW 0 rfl rfl vs_inJ0 1 (by decide) vf_J0_15 rfl dJ0_coder_7d493_7 ?_
  refine vs_goto hC 14 dJ0_coder_7d493_10 (by decide) ?_
  exact vs_bret () hC hr hlk hW rfl ⟨by decide, rfl⟩ (Nat.le_of_ble_eq_true rfl) (Nat.le_of_ble_eq_true rfl) dJ0_coder_7d493_14
set_option maxHeartbeats 4000000 in
set_option maxRecDepth 100000 in
theorem c_J0_isLatin1_aae02 (l : Launch) (g : vs_G) (jd : Nat → Nat) (a q N : Nat) (f : Int → Int) (hz : Value × Value) (wr : va_W) : vs_JI l yJ0_isLatin1_aae02 (Cond.code yJ0_isLatin1_aae02 cJ0_isLatin1_aae02 1 (some .boolean) :: vs_ws) { frames := 0, cells := 0, slots := 0, locals := 40 } g jd [.ref a] (vs_tS g a q N f hz ++ wr) (fun (_ : Unit) => vs_tS g a q N f hz ++ wr) (fun v (_ : Unit) => v = 1) 0 0 := by
  refine vs_ofJ (y := yJ0_isLatin1_aae02) (cc := cJ0_isLatin1_aae02) (maxL := 1) (ret := (some .boolean)) (as := [.ref a]) (Wo := vs_tS g a q N f hz ++ wr) (mc := 0) (ms := 0) (Qc := fun A => vs_QI g A (fun (_ : Unit) => vs_tS g a q N f hz ++ wr) (fun v (_ : Unit) => v = 1)) (by decide +kernel) (Nat.le_of_ble_eq_true rfl) (fun p e s m below meth c A ls hC hr hlk hin hW hJ hl => ?_)
  have hC : CallFix p m c cJ0_isLatin1_aae02 1 s _ vs_ws RJ0 := hC
  have hl : lv_has ls 1 [(0, .ref a)] := hl
  refine vs_gets hC hW hJ.1 vz_J0_38 dJ0_isLatin1_aae02_0 ?_
  refine vs_if_eq hC 17 ⟨by omega, by omega⟩ dJ0_isLatin1_aae02_3 (by decide) (fun hc => absurd hc (by decide)) (fun hc => ?_)
  refine vs_aload_n hC hl 0 dJ0_isLatin1_aae02_6 rfl rfl ?_
  refine vs_get hC hW 0 rfl rfl vs_inJ0 1 (by decide) vf_J0_15 rfl dJ0_isLatin1_aae02_7 ?_
  refine vs_if_ne hC 17 ⟨by omega, by omega⟩ dJ0_isLatin1_aae02_10 (by decide) (fun hc => absurd hc (by decide)) (fun hc => ?_)
  refine vs_iconst hC dJ0_isLatin1_aae02_13 ?_
  refine vs_goto hC 18 dJ0_isLatin1_aae02_14 (by decide) ?_
  exact vs_zret () hC hr hlk hW rfl ⟨Or.inr rfl, rfl⟩ (Nat.le_of_ble_eq_true rfl) (Nat.le_of_ble_eq_true rfl) dJ0_isLatin1_aae02_18
set_option maxHeartbeats 4000000 in
set_option maxRecDepth 100000 in
theorem c_J0_length_8abf5 (l : Launch) (g : vs_G) (jd : Nat → Nat) (a q N : Nat) (f : Int → Int) (hz : Value × Value) (wr : va_W) : vs_JI l yJ0_length_8abf5 (Cond.code yJ0_length_8abf5 cJ0_length_8abf5 1 (some .int) :: vs_ws) { frames := 1, cells := 0, slots := 0, locals := 60 } g jd [.ref a] (vs_tS g a q N f hz ++ wr) (fun (_ : Unit) => vs_tS g a q N f hz ++ wr) (fun v (_ : Unit) => v = (N : Int)) 0 0 := by
  refine vs_ofJ (y := yJ0_length_8abf5) (cc := cJ0_length_8abf5) (maxL := 1) (ret := (some .int)) (as := [.ref a]) (Wo := vs_tS g a q N f hz ++ wr) (mc := 0) (ms := 0) (Qc := fun A => vs_QI g A (fun (_ : Unit) => vs_tS g a q N f hz ++ wr) (fun v (_ : Unit) => v = (N : Int))) (by decide +kernel) (Nat.le_of_ble_eq_true rfl) (fun p e s m below meth c A ls hC hr hlk hin hW hJ hl => ?_)
  have hC : CallFix p m c cJ0_length_8abf5 1 s _ vs_ws RJ0 := hC
  have hl : lv_has ls 1 [(0, .ref a)] := hl
  refine vs_aload_n hC hl 0 dJ0_length_8abf5_0 rfl rfl ?_
  refine vs_get hC hW 0 rfl rfl vs_inJ0 0 (by decide) vf_J0_9 rfl dJ0_length_8abf5_1 ?_
  refine vs_alenN hC hW 1 rfl dJ0_length_8abf5_4 ?_
  refine vs_aload_n hC hl 0 dJ0_length_8abf5_5 rfl rfl ?_
  refine vs_jcallVI [] hC hW hJ 0 rfl rfl vk_J0_coder_7d493 vm_J0_335 (c_J0_coder_7d493 l g jd a q N f hz wr) rfl hl.1 rfl ⟨rfl, rfl⟩ ⟨Nat.le_of_ble_eq_true rfl, Nat.le_of_ble_eq_true rfl⟩ ⟨Nat.le_of_ble_eq_true rfl, Nat.le_of_ble_eq_true rfl⟩ (Nat.le_of_ble_eq_true rfl) dJ0_length_8abf5_6 (fun v1 _ H locs hw hW => ?_)
  subst hw
  refine vs_ishr0 hC dJ0_length_8abf5_9 ?_
  exact vs_iret () hC hr hlk hW rfl rfl (Nat.le_of_ble_eq_true rfl) (Nat.le_of_ble_eq_true rfl) dJ0_length_8abf5_10
set_option maxHeartbeats 4000000 in
set_option maxRecDepth 100000 in
theorem c_J1_charAt_3b067 (l : Launch) (g : vs_G) (jd : Nat → Nat) (a q N : Nat) (f : Int → Int) (hz : Value × Value) (wr : va_W) (x : Int) (hx : 0 ≤ x ∧ x < (N : Int) ∧ N ≤ 60000) (hfx : 0 ≤ f x ∧ f x < 256) : vs_JI l yJ1_charAt_3b067 (Cond.code yJ1_charAt_3b067 cJ1_charAt_3b067 2 (some .char) :: vs_ws) { frames := 2, cells := 0, slots := 0, locals := 83 } g jd [.ref q, .int (vs_I x)] (vs_tS g a q N f hz ++ wr) (fun (_ : Unit) => vs_tS g a q N f hz ++ wr) (fun v (_ : Unit) => v = f x) 0 0 := by
  refine vs_ofJ (y := yJ1_charAt_3b067) (cc := cJ1_charAt_3b067) (maxL := 2) (ret := (some .char)) (as := [.ref q, .int (vs_I x)]) (Wo := vs_tS g a q N f hz ++ wr) (mc := 0) (ms := 0) (Qc := fun A => vs_QI g A (fun (_ : Unit) => vs_tS g a q N f hz ++ wr) (fun v (_ : Unit) => v = f x)) (by decide +kernel) (Nat.le_of_ble_eq_true rfl) (fun p e s m below meth c A ls hC hr hlk hin hW hJ hl => ?_)
  have hC : CallFix p m c cJ1_charAt_3b067 2 s _ vs_ws RJ1 := hC
  have hl : lv_has ls 2 [(0, .ref q), (1, .int (vs_I x))] := hl
  refine vs_iload_n hC hl 1 dJ1_charAt_3b067_0 rfl rfl ?_
  refine vs_aload_n hC hl 0 dJ1_charAt_3b067_1 rfl rfl ?_
  refine vs_alenN hC hW 1 rfl dJ1_charAt_3b067_2 ?_
  refine vs_jcallSV [.int (vs_I x), .int (vs_I (N : Int))] hC hW hJ vk_J0_checkIndex_df160 vm_J1_9 (c_J0_checkIndex_df160 l g jd x (N : Int) (vs_tS g a q N f hz ++ wr) (by omega)) rfl hl.1 rfl ⟨rfl, rfl⟩ ⟨Nat.le_of_ble_eq_true rfl, Nat.le_of_ble_eq_true rfl⟩ ⟨Nat.le_of_ble_eq_true rfl, Nat.le_of_ble_eq_true rfl⟩ (Nat.le_of_ble_eq_true rfl) dJ1_charAt_3b067_3 (fun _ H locs hw hW => ?_)
  refine vs_aload_n hC hl 0 dJ1_charAt_3b067_6 rfl rfl ?_
  refine vs_iload_n hC hl 1 dJ1_charAt_3b067_7 rfl rfl ?_
  refine vs_baldN hC hW 1 rfl (by omega) dJ1_charAt_3b067_8 ?_
  refine vs_sipush hC dJ1_charAt_3b067_9 (by decide +kernel) ?_
  refine vs_iand255 hC hfx dJ1_charAt_3b067_12 ?_
  refine vs_i2c hC dJ1_charAt_3b067_13 (by omega) ?_
  exact vs_cret () hC hr hlk hW rfl ⟨by omega, rfl⟩ (Nat.le_of_ble_eq_true rfl) (Nat.le_of_ble_eq_true rfl) dJ1_charAt_3b067_14
set_option maxHeartbeats 4000000 in
set_option maxRecDepth 100000 in
theorem c_J0_charAt_5068e (l : Launch) (g : vs_G) (jd : Nat → Nat) (a q N : Nat) (f : Int → Int) (hz : Value × Value) (wr : va_W) (x : Int) (hx : 0 ≤ x ∧ x < (N : Int) ∧ N ≤ 60000) (hfx : 0 ≤ f x ∧ f x < 256) : vs_JI l yJ0_charAt_5068e (Cond.code yJ0_charAt_5068e cJ0_charAt_5068e 2 (some .char) :: vs_ws) { frames := 3, cells := 0, slots := 0, locals := 104 } g jd [.ref a, .int (vs_I x)] (vs_tS g a q N f hz ++ wr) (fun (_ : Unit) => vs_tS g a q N f hz ++ wr) (fun v (_ : Unit) => v = f x) 0 0 := by
  refine vs_ofJ (y := yJ0_charAt_5068e) (cc := cJ0_charAt_5068e) (maxL := 2) (ret := (some .char)) (as := [.ref a, .int (vs_I x)]) (Wo := vs_tS g a q N f hz ++ wr) (mc := 0) (ms := 0) (Qc := fun A => vs_QI g A (fun (_ : Unit) => vs_tS g a q N f hz ++ wr) (fun v (_ : Unit) => v = f x)) (by decide +kernel) (Nat.le_of_ble_eq_true rfl) (fun p e s m below meth c A ls hC hr hlk hin hW hJ hl => ?_)
  have hC : CallFix p m c cJ0_charAt_5068e 2 s _ vs_ws RJ0 := hC
  have hl : lv_has ls 2 [(0, .ref a), (1, .int (vs_I x))] := hl
  refine vs_aload_n hC hl 0 dJ0_charAt_5068e_0 rfl rfl ?_
  refine vs_jcallVI [] hC hW hJ 0 rfl rfl vk_J0_isLatin1_aae02 vm_J0_492 (c_J0_isLatin1_aae02 l g jd a q N f hz wr) rfl hl.1 rfl ⟨rfl, rfl⟩ ⟨Nat.le_of_ble_eq_true rfl, Nat.le_of_ble_eq_true rfl⟩ ⟨Nat.le_of_ble_eq_true rfl, Nat.le_of_ble_eq_true rfl⟩ (Nat.le_of_ble_eq_true rfl) dJ0_charAt_5068e_1 (fun v1 _ H locs hw hW => ?_)
  subst hw
  refine vs_if_eq hC 16 ⟨by omega, by omega⟩ dJ0_charAt_5068e_4 (by decide) (fun hc => absurd hc (by decide)) (fun hc => ?_)
  refine vs_aload_n hC hl 0 dJ0_charAt_5068e_7 rfl rfl ?_
  refine vs_get hC hW 0 rfl rfl vs_inJ0 0 (by decide) vf_J0_9 rfl dJ0_charAt_5068e_8 ?_
  refine vs_iload_n hC hl 1 dJ0_charAt_5068e_11 rfl rfl ?_
  refine vs_jcallSI [.ref q, .int (vs_I x)] hC hW hJ vk_J1_charAt_3b067 vm_J0_495 (c_J1_charAt_3b067 l g jd a q N f hz wr x hx hfx) rfl hl.1 rfl ⟨rfl, rfl⟩ ⟨Nat.le_of_ble_eq_true rfl, Nat.le_of_ble_eq_true rfl⟩ ⟨Nat.le_of_ble_eq_true rfl, Nat.le_of_ble_eq_true rfl⟩ (Nat.le_of_ble_eq_true rfl) dJ0_charAt_5068e_12 (fun v1 _ H locs hw hW => ?_)
  subst hw
  exact vs_cret () hC hr hlk hW rfl ⟨by omega, rfl⟩ (Nat.le_of_ble_eq_true rfl) (Nat.le_of_ble_eq_true rfl) dJ0_charAt_5068e_15
