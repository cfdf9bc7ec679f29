/-! the shapes of the worlds -/
def vs_W0 (g : vs_G) (a : Nat → Nat) (S : vs_St) : va_W := [(a 0, .inr (4, [.int (vs_I (S 0 0)), .ref (a 1), .ref (a 2), .ref (a 3), .ref (a 4), .ref (a 5), .ref (a 6), .ref (a 7), .int (vs_I (S 8 0)), .int (vs_I (S 9 0)), .ref (a 10), .ref (a 11), .ref (a 12), .ref (a 13)])), (a 1, .inl (g.2 0, 4, .inl (vs_en (S 1)))), (a 2, .inl (g.2 0, 4, .inl (vs_en (S 2)))), (a 3, .inl (g.2 0, 4, .inl (vs_en (S 3)))), (a 4, .inl (g.2 0, 4, .inl (vs_en (S 4)))), (a 5, .inl (g.2 0, 4, .inl (vs_en (S 5)))), (a 6, .inl (g.2 0, 4, .inl (vs_en (S 6)))), (a 7, .inl (g.2 0, 1200, .inl (vs_en (S 7)))), (a 10, .inl (g.2 0, 300, .inl (vs_en (S 10)))), (a 11, .inl (g.2 1, 300, .inl (vs_en (S 11)))), (a 12, .inl (g.2 0, 300, .inl (vs_en (S 12)))), (a 13, .inl (g.2 2, 300, .inl (vs_en (S 13))))]
def vs_W1 (g : vs_G) (a : Nat → Nat) (S : vs_St) : va_W := [(a 0, .inr (5, [.int (vs_I (S 0 0)), .ref (a 1), .ref (a 2), .ref (a 3), .ref (a 4), .ref (a 5), .ref (a 6), .ref (a 7), .ref (a 8), .ref (a 9), .int (vs_I (S 10 0)), .ref (a 11), .ref (a 12)])), (a 1, .inl (g.2 0, 8, .inl (vs_en (S 1)))), (a 2, .inl (g.2 0, 8, .inl (vs_en (S 2)))), (a 3, .inl (g.2 2, 8, .inl (vs_en (S 3)))), (a 4, .inl (g.2 0, 256, .inl (vs_en (S 4)))), (a 5, .inl (g.2 1, 256, .inl (vs_en (S 5)))), (a 6, .inl (g.2 0, 4, .inl (vs_en (S 6)))), (a 7, .inl (g.2 0, 400, .inl (vs_en (S 7)))), (a 8, .inl (g.2 0, 400, .inl (vs_en (S 8)))), (a 9, .inl (g.2 0, 1200, .inl (vs_en (S 9)))), (a 11, .inl (g.2 0, 400, .inl (vs_en (S 11)))), (a 12, .inl (g.2 0, 400, .inl (vs_en (S 12))))]
def vs_W3h (g : vs_G) (a r q : Nat → Nat) (S : vs_St) : va_W := [(a 0, .inr (7, [.int (vs_I (S 0 0)), .ref (a 1), .ref (a 2), .ref (a 3), .ref (a 4), .ref (a 5), .ref (a 6), .int (vs_I (S 7 0)), .ref (a 8), .ref (a 9), .ref (a 10), .ref (a 11), .ref (a 12), .ref (a 13), .ref (a 14), .int (vs_I (S 15 0)), .ref (a 16), .ref (a 17), .ref (a 18), .ref (a 19), .ref (a 20), .ref (a 21), .ref (a 22), .ref (a 23), .ref (a 24), .ref (a 25), .ref (a 26), .int (vs_I (S 27 0)), .int (vs_I (S 28 0)), .int (vs_I (S 29 0)), .int (vs_I (S 30 0)), .int (vs_I (S 31 0)), .ref (a 32)])), (a 1, .inl (g.2 0, 8, .inl (vs_en (S 1)))), (a 2, .inl (g.2 2, 8, .inl (vs_en (S 2)))), (a 3, .inl (g.2 0, 256, .inl (vs_en (S 3)))), (a 4, .inl (g.2 0, 256, .inl (vs_en (S 4)))), (a 5, .inl (g.2 1, 256, .inl (vs_en (S 5)))), (a 6, .inl (g.2 1, 256, .inl (vs_en (S 6)))), (a 8, .inl (g.2 3, 400, .inr (.inr (.inr (.inr (fun i => if i < 400 then some (r i) else none)))))), (a 9, .inl (g.2 3, 400, .inr (.inr (.inr (.inr (fun i => if i < 400 then some (q i) else none)))))), (a 10, .inl (g.2 0, 400, .inl (vs_en (S 10)))), (a 11, .inl (g.2 0, 400, .inl (vs_en (S 11)))), (a 12, .inl (g.2 0, 400, .inl (vs_en (S 12)))), (a 13, .inl (g.2 0, 400, .inl (vs_en (S 13)))), (a 14, .inl (g.2 1, 400, .inl (vs_en (S 14)))), (a 16, .inl (g.2 0, 4, .inl (vs_en (S 16)))), (a 17, .inl (g.2 0, 4, .inl (vs_en (S 17)))), (a 18, .inl (g.2 0, 4, .inl (vs_en (S 18)))), (a 19, .inl (g.2 0, 4, .inl (vs_en (S 19)))), (a 20, .inl (g.2 0, 4, .inl (vs_en (S 20)))), (a 21, .inl (g.2 0, 4, .inl (vs_en (S 21)))), (a 22, .inl (g.2 0, 4, .inl (vs_en (S 22)))), (a 23, .inl (g.2 0, 300, .inl (vs_en (S 23)))), (a 24, .inl (g.2 0, 300, .inl (vs_en (S 24)))), (a 25, .inl (g.2 0, 300, .inl (vs_en (S 25)))), (a 26, .inl (g.2 2, 300, .inl (vs_en (S 26))))]
def vs_row (f : Int → Int) (b : Int) : Int → Int := fun c => if 0 ≤ c ∧ c < 3 then f (3 * b + c) else 0
def vs_rows (g : vs_G) (r : Nat → Nat) (f : Int → Int) : va_W := (List.range 400).map (fun i => (r i, .inl (g.2 0, 3, .inl (vs_en (vs_row f (i : Int))))))
def vs_W3 (g : vs_G) (a r q : Nat → Nat) (S : vs_St) : va_W := vs_W3h g a r q S ++ (vs_rows g r (S 8) ++ vs_rows g q (S 9))
def vs_W2 (h s t k n : Nat) (S : vs_St) : va_W := [(h, .inr (6, [.ref s, .ref t, .ref k, .ref n, .int (vs_I (S 4 0)), .int (vs_I (S 5 0)), .int (vs_I (S 6 0))]))]
section VSR2
variable {p : Program} {l : Launch} {e : Env} {R : Room} {s : State} {m : MethodId} {args : Array Value} {below : List Frame} {meth : Method} {c : Code} {H : Heap} {locs : List Loc} {cells slots : Nat} {Q : State → Prop}
variable {cc : ByteArray} {pc nL : Nat} {ls : Array Slot} {rest : List Value} {own : String} {g : vs_G} {A : Nat → Prop} {H0 : Heap} {Wo : va_W} {a : Nat}
theorem vs_name {e9 : Int} (k : ∀ v : Int, v = e9 → W p l e R s m args below meth c H locs cells slots Q (F0 m pc ls (.int (vs_I v) :: rest))) : W p l e R s m args below meth c H locs cells slots Q (F0 m pc ls (.int (vs_I e9) :: rest)) := k e9 rfl
theorem vs_loop {V : Type} {J : V → Prop} {μ : V → Nat} (mkW : V → va_W) (mkL : V → List (Nat × Value))
    (step : ∀ v, J v → (∀ v', J v' ∧ μ v' < μ v → ∀ (H : Heap) (locs : List Loc) (ls : Array Slot), vs_Wd g A H0 (mkW v') H locs s → lv_has ls nL (mkL v') → W p l e R s m args below meth c H locs cells slots Q (F0 m pc ls [])) →
      ∀ (H : Heap) (locs : List Loc) (ls : Array Slot), vs_Wd g A H0 (mkW v) H locs s → lv_has ls nL (mkL v) → W p l e R s m args below meth c H locs cells slots Q (F0 m pc ls []))
    (v0 : V) (hJ : J v0) (hW : vs_Wd g A H0 (mkW v0) H locs s) (hl : lv_has ls nL (mkL v0)) : W p l e R s m args below meth c H locs cells slots Q (F0 m pc ls []) := by
  have K : ∀ (n : Nat) (v : V), J v → μ v < n → ∀ (H : Heap) (locs : List Loc) (ls : Array Slot), vs_Wd g A H0 (mkW v) H locs s → lv_has ls nL (mkL v) → W p l e R s m args below meth c H locs cells slots Q (F0 m pc ls []) := by
    intro n
    induction n with
    | zero => intro v _ h; exact absurd h (Nat.not_lt_zero _)
    | succ n ih => intro v hv h; exact step v hv (fun v' h' => ih v' h'.1 (by have := h'.2; omega))
  exact K (μ v0 + 1) v0 hJ (Nat.lt_succ_self _) H locs ls hW hl
theorem vs_mmin (hC : CallFix p m c cc nL s args vs_ws own) {x y : Int} (hx : vs_R x) (hy : vs_R y) (hls : ls.size = nL) {index : Nat} (hl : Cond.methodLink own index Lib.Math.min.name ∈ vs_ws) (h1 : 1 ≤ R.frames) (h2 : (rest.map fun v => v.category).sum + 13 ≤ R.locals) (h3 : cells ≤ R.cells) (h4 : slots ≤ R.slots) (hdg : decode cc pc = .ok (.invokestatic index, 3))
    (kk : W p l e R s m args below meth c H locs cells slots Q (F0 m (pc + 3) ls (.int (vs_I (min x y)) :: rest))) : W p l e R s m args below meth c H locs cells slots Q (F0 m pc ls (.int (vs_I y) :: .int (vs_I x) :: rest)) := by
  refine va_mmin hC.1 hC.2.1 (by rw [hC.2.2.1, hls]) hC.2.2.2.1 (hC.2.2.2.2 _ hl) (hC.2.2.2.2 _ vs_min1) (hC.2.2.2.2 _ vs_mini) (hC.2.2.2.2 _ vs_min2) h1 h2 h3 h4 hdg ?_
  have e1 : (if vs_I y < vs_I x then vs_I y else vs_I x) = vs_I (min x y) := by
    by_cases q : y < x
    · rw [if_pos ((vs_I_lt hy hx).mpr q)]; congr 1; omega
    · rw [if_neg (fun z => q ((vs_I_lt hy hx).mp z))]; congr 1; omega
  rw [e1]; exact kk
theorem vs_mmax (hC : CallFix p m c cc nL s args vs_ws own) {x y : Int} (hx : vs_R x) (hy : vs_R y) (hls : ls.size = nL) {index : Nat} (hl : Cond.methodLink own index Lib.Math.max.name ∈ vs_ws) (h1 : 1 ≤ R.frames) (h2 : (rest.map fun v => v.category).sum + 13 ≤ R.locals) (h3 : cells ≤ R.cells) (h4 : slots ≤ R.slots) (hdg : decode cc pc = .ok (.invokestatic index, 3))
    (kk : W p l e R s m args below meth c H locs cells slots Q (F0 m (pc + 3) ls (.int (vs_I (max x y)) :: rest))) : W p l e R s m args below meth c H locs cells slots Q (F0 m pc ls (.int (vs_I y) :: .int (vs_I x) :: rest)) := by
  refine va_mmax hC.1 hC.2.1 (by rw [hC.2.2.1, hls]) hC.2.2.2.1 (hC.2.2.2.2 _ hl) (hC.2.2.2.2 _ vs_max1) (hC.2.2.2.2 _ vs_mini) (hC.2.2.2.2 _ vs_max2) h1 h2 h3 h4 hdg ?_
  have e1 : (if vs_I x < vs_I y then vs_I y else vs_I x) = vs_I (max x y) := by
    by_cases q : x < y
    · rw [if_pos ((vs_I_lt hx hy).mpr q)]; congr 1; omega
    · rw [if_neg (fun z => q ((vs_I_lt hx hy).mp z))]; congr 1; omega
  rw [e1]; exact kk
theorem vs_aald2 (hC : CallFix p m c cc nL s args vs_ws own) (hW : vs_Wd g A H0 Wo H locs s) (q0 : Nat) {r : Nat → Nat} {n : Nat} (he : Wo[q0]? = some (a, .inl (g.2 3, n, .inr (.inr (.inr (.inr (fun i => if i < n then some (r i) else none))))))) (hn : n ≤ 2147483647) {x : Int} (hx : 0 ≤ x ∧ x < n) (hdg : decode cc pc = .ok (.aaload, 1))
    (kk : W p l e R s m args below meth c H locs cells slots Q (F0 m (pc + 1) ls (.ref (r (Int.toNat x)) :: rest))) : W p l e R s m args below meth c H locs cells slots Q (F0 m pc ls (.int (vs_I x) :: .ref a :: rest)) := by
  have hin : vp_in (vs_I x) n := vs_I_in hx.1 hx.2 hn
  have hx2 : (vs_I x).toNatClampNeg = x.toNat := vs_I_nat hx.1 (by omega)
  have hlt : (vs_I x).toNatClampNeg < n := by omega
  refine W.aald (v := va_rf (if (vs_I x).toNatClampNeg < n then some (r (vs_I x).toNatClampNeg) else none)) (ty := .array .int) hC.1 hC.2.1 (hW.2.1 q0 _ he) ((hW.1.1.2 3 _ rfl).1 n (fun j => va_rf (if j < n then some (r j) else none))) rfl (fun q => by cases q) (by show ¬ (_ < 0 ∨ (arrV _ _ _).slots.size ≤ _); rw [arrV_size]; exact hin) (by show (arrV _ _ _).slots[_]? = _; rw [arrV_read _ _ hlt]) rfl rfl hdg ?_
  rw [if_pos hlt, hx2]
  exact kk
theorem vs_iald2 (hC : CallFix p m c cc nL s args vs_ws own) (hW : vs_Wd g A H0 Wo H locs s) (q0 : Nat) {f : Int → Int} {b : Int} (he : Wo[q0]? = some (a, .inl (g.2 0, 3, .inl (vs_en (vs_row f b))))) {x : Int} (hx : 0 ≤ x ∧ x < 3) (hdg : decode cc pc = .ok (.iaload, 1))
    (kk : W p l e R s m args below meth c H locs cells slots Q (F0 m (pc + 1) ls (.int (vs_I (f (3 * b + x))) :: rest))) : W p l e R s m args below meth c H locs cells slots Q (F0 m pc ls (.int (vs_I x) :: .ref a :: rest)) := by
  refine vs_iald hC hW q0 he (by decide) hx hdg ?_
  unfold vs_row
  rw [if_pos hx]
  exact kk
theorem vs_row_up (f : Int → Int) (b k x : Int) (hk : 0 ≤ k ∧ k < 3) : vs_up (vs_row f b) k x = vs_row (vs_up f (3 * b + k) x) b := by
  funext c
  unfold vs_up vs_row
  by_cases q : c = k
  · subst q; rw [if_pos rfl, if_pos hk]; exact (if_pos rfl).symm
  · rw [if_neg q]
    by_cases h : 0 ≤ c ∧ c < 3
    · rw [if_pos h, if_pos h]; exact (if_neg (by omega)).symm
    · rw [if_neg h, if_neg h]
theorem vs_row_ne (f : Int → Int) {b b' k : Int} (x : Int) (hk : 0 ≤ k ∧ k < 3) (hb : b ≠ b') : vs_row (vs_up f (3 * b + k) x) b' = vs_row f b' := by
  funext c
  unfold vs_row vs_up
  by_cases h : 0 ≤ c ∧ c < 3
  · rw [if_pos h, if_pos h, if_neg (by omega)]
  · rw [if_neg h, if_neg h]
theorem vs_rows_len (g : vs_G) (r : Nat → Nat) (f : Int → Int) : (vs_rows g r f).length = 400 := by simp [vs_rows]
theorem vs_rows_nat (g : vs_G) (r : Nat → Nat) (f : Int → Int) {b : Nat} (h : b < 400) : (vs_rows g r f)[b]? = some (r b, .inl (g.2 0, 3, .inl (vs_en (vs_row f (b : Int))))) := by
  simp [vs_rows, h]
theorem vs_rows_at (g : vs_G) (r : Nat → Nat) (f : Int → Int) {b : Int} (h : 0 ≤ b ∧ b < 400) : (vs_rows g r f)[b.toNat]? = some (r b.toNat, .inl (g.2 0, 3, .inl (vs_en (vs_row f b)))) := by
  rw [vs_rows_nat g r f (by omega), Int.toNat_of_nonneg h.1]
theorem vs_rows_st (g : vs_G) (r : Nat → Nat) (f : Int → Int) {b k x : Int} (h : 0 ≤ b ∧ b < 400) (hk : 0 ≤ k ∧ k < 3) : (vs_rows g r f).set b.toNat (r b.toNat, .inl (g.2 0, 3, .inl (vs_en (vs_up (vs_row f b) k x)))) = vs_rows g r (vs_up f (3 * b + k) x) := by
  apply List.ext_getElem?
  intro i
  rw [List.getElem?_set]
  by_cases e : b.toNat = i
  · subst e
    rw [if_pos rfl, if_pos (by rw [vs_rows_len]; omega), vs_rows_at g r _ h, vs_row_up f b k x hk]
  · rw [if_neg e]
    by_cases hi : i < 400
    · rw [vs_rows_nat g r f hi, vs_rows_nat g r _ hi, vs_row_ne f x hk (by omega)]
    · rw [List.getElem?_eq_none (by rw [vs_rows_len]; omega), List.getElem?_eq_none (by rw [vs_rows_len]; omega)]
theorem vs_W3h_len (g : vs_G) (a r q : Nat → Nat) (S : vs_St) : (vs_W3h g a r q S).length = 25 := rfl
theorem vs_rowat8 {g : vs_G} {a r q : Nat → Nat} {S : vs_St} {wr : va_W} {b : Int} (h : 0 ≤ b ∧ b < 400) : (vs_W3 g a r q S ++ wr)[25 + b.toNat]? = some (r b.toNat, .inl (g.2 0, 3, .inl (vs_en (vs_row (S 8) b)))) := by
  unfold vs_W3
  rw [List.append_assoc, List.getElem?_append_right (by rw [vs_W3h_len]; omega), vs_W3h_len, List.append_assoc, List.getElem?_append_left (by rw [vs_rows_len]; omega), show 25 + b.toNat - 25 = b.toNat by omega]
  exact vs_rows_at g r _ h
theorem vs_rowat9 {g : vs_G} {a r q : Nat → Nat} {S : vs_St} {wr : va_W} {b : Int} (h : 0 ≤ b ∧ b < 400) : (vs_W3 g a r q S ++ wr)[425 + b.toNat]? = some (q b.toNat, .inl (g.2 0, 3, .inl (vs_en (vs_row (S 9) b)))) := by
  unfold vs_W3
  rw [List.append_assoc, List.getElem?_append_right (by rw [vs_W3h_len]; omega), vs_W3h_len, List.append_assoc, List.getElem?_append_right (by rw [vs_rows_len]; omega), vs_rows_len, List.getElem?_append_left (by rw [vs_rows_len]; omega), show 425 + b.toNat - 25 - 400 = b.toNat by omega]
  exact vs_rows_at g q _ h
theorem vs_rowst8 {g : vs_G} {a r q : Nat → Nat} {S : vs_St} {wr : va_W} {b k x : Int} (h : 0 ≤ b ∧ b < 400) (hk : 0 ≤ k ∧ k < 3) : (vs_W3 g a r q S ++ wr).set (25 + b.toNat) (r b.toNat, .inl (g.2 0, 3, .inl (vs_en (vs_up (vs_row (S 8) b) k x)))) = vs_W3 g a r q (vs_st S 8 (3 * b + k) x) ++ wr := by
  unfold vs_W3
  rw [List.append_assoc, List.set_append_right _ _ (by rw [vs_W3h_len]; omega), vs_W3h_len, List.append_assoc, List.set_append_left _ _ (by rw [vs_rows_len]; omega), show 25 + b.toNat - 25 = b.toNat by omega, vs_rows_st g r _ h hk, vs_st_same, vs_st_ne S (j := 9) (by decide), List.append_assoc, List.append_assoc]
  rfl
theorem vs_rowst9 {g : vs_G} {a r q : Nat → Nat} {S : vs_St} {wr : va_W} {b k x : Int} (h : 0 ≤ b ∧ b < 400) (hk : 0 ≤ k ∧ k < 3) : (vs_W3 g a r q S ++ wr).set (425 + b.toNat) (q b.toNat, .inl (g.2 0, 3, .inl (vs_en (vs_up (vs_row (S 9) b) k x)))) = vs_W3 g a r q (vs_st S 9 (3 * b + k) x) ++ wr := by
  unfold vs_W3
  rw [List.append_assoc, List.set_append_right _ _ (by rw [vs_W3h_len]; omega), vs_W3h_len, List.append_assoc, List.set_append_right _ _ (by rw [vs_rows_len]; omega), vs_rows_len, List.set_append_left _ _ (by rw [vs_rows_len]; omega), show 425 + b.toNat - 25 - 400 = b.toNat by omega, vs_rows_st g q _ h hk, vs_st_same, vs_st_ne S (j := 8) (by decide), List.append_assoc, List.append_assoc]
  rfl
end VSR2
