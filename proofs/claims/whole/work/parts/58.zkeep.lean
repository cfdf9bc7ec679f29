/-! pure part: what the reference keeps and lays back; states that agree in all that counts -/
section VZ8
variable {M S : vs_St}
def vz_cp (M : vs_St) (c0 c1 : Nat) (n : Int) : vs_St := fun c => cond (Nat.beq c c0) (fun e => if 0 ≤ e ∧ e < n then M c1 e else M c0 e) (M c)
theorem vz_cp_ne (M : vs_St) (c0 c1 : Nat) (n : Int) {c : Nat} (h : c ≠ c0) : vz_cp M c0 c1 n c = M c := by
  unfold vz_cp
  cases hb : Nat.beq c c0
  · rfl
  · exact absurd (Nat.eq_of_beq_eq_true hb) h
theorem vz_cp_eq (M : vs_St) (c0 c1 : Nat) (n e : Int) : vz_cp M c0 c1 n c0 e = if 0 ≤ e ∧ e < n then M c1 e else M c0 e := by
  unfold vz_cp; rw [Nat.beq_refl]; rfl
theorem vz_cp0 (M : vs_St) (c0 c1 : Nat) : vz_cp M c0 c1 0 = M := by
  funext c
  by_cases h : c = c0
  · subst h; funext e; rw [vz_cp_eq, if_neg (by omega)]
  · exact vz_cp_ne M c0 c1 0 h
theorem vz_cp_step (M : vs_St) (c0 c1 : Nat) {n : Int} (hn : 0 ≤ n) : vs_st (vz_cp M c0 c1 n) c0 n (M c1 n) = vz_cp M c0 c1 (n + 1) := by
  funext c
  by_cases h : c = c0
  · subst h
    rw [vs_st_same]
    funext e
    unfold vs_up
    rw [vz_cp_eq, vz_cp_eq]
    by_cases q : e = n
    · subst q; rw [if_pos rfl, if_pos (by omega)]
    · rw [if_neg q]
      by_cases w : 0 ≤ e ∧ e < n
      · rw [if_pos w, if_pos (by omega)]
      · rw [if_neg w, if_neg (by omega)]
  · rw [vs_st_ne _ h, vz_cp_ne _ _ _ _ h, vz_cp_ne _ _ _ _ h]
theorem vz_cp_st (X : vs_St) {c0 c1 c : Nat} (n i y : Int) (h0 : c ≠ c0) (h1 : c1 ≠ c) : vs_st (vz_cp X c0 c1 n) c i y = vz_cp (vs_st X c i y) c0 c1 n := by
  funext c'
  by_cases h : c' = c
  · subst h
    rw [vs_st_same, vz_cp_ne _ _ _ _ h0, vz_cp_ne _ _ _ _ h0, vs_st_same]
  · rw [vs_st_ne _ h]
    by_cases q : c' = c0
    · subst q
      funext e
      rw [vz_cp_eq, vz_cp_eq, vs_st_ne _ h1, vs_st_ne _ h]
    · rw [vz_cp_ne _ _ _ _ q, vz_cp_ne _ _ _ _ q, vs_st_ne _ h]
def vz_keeps (M : vs_St) : vs_St := vz_cp (vz_cp (vz_cp (vz_cp M 4 3 256) 6 5 256) 11 10 400) 9 8 1200
def vz_lay (M : vs_St) : vs_St := vz_cp (vz_cp (vz_cp (vz_cp M 3 4 256) 5 6 256) 10 11 400) 8 9 1200
theorem q_keepsAll (hr : ∀ s : Int, 0 ≤ s → s < 256 → M 5 s = 0 ∨ M 5 s = 1) {post : vs_St → Prop} (k : post (vz_keeps M)) : wX3_keepsAll M post := by
  unfold wX3_keepsAll
  refine ⟨fun i M' => 0 ≤ i ∧ i ≤ 256 ∧ M' = vz_cp (vz_cp M 4 3 i) 6 5 i, fun i _ => (257 - i).toNat, ⟨by omega, by omega, by rw [vz_cp0, vz_cp0]⟩, ?_⟩
  rintro i M' ⟨i0, i1, rfl⟩
  unfold lX3_keepsAll_2
  refine ⟨⟨by omega, by omega⟩, fun h => ?_, fun h => ⟨⟨i0, h⟩, ⟨i0, h⟩, fun S5 e5 => ⟨⟨i0, h⟩, ⟨i0, h⟩, ?_, fun S6 e6 => ⟨⟨by omega, by omega, ?_⟩, by first | omega | (dsimp only; omega)⟩⟩⟩⟩
  · have e : i = 256 := by omega
    subst e
    refine ⟨fun b M' => 0 ≤ b ∧ b ≤ 400 ∧ M' = vz_cp (vz_cp (vz_cp (vz_cp M 4 3 256) 6 5 256) 11 10 b) 9 8 (3 * b), fun b _ => (401 - b).toNat, ⟨by omega, by omega, by rw [show (3 * 0 : Int) = 0 from rfl, vz_cp0, vz_cp0]⟩, ?_⟩
    rintro b M' ⟨b0, b1, rfl⟩
    unfold lX3_keepsAll_41
    refine ⟨⟨by omega, by omega⟩, fun h => ?_, fun h => ⟨⟨b0, h⟩, ⟨b0, h⟩, fun S1 e1 => ?_⟩⟩
    · have e : b = 400 := by omega
      subst e; exact k
    · have e2 : S1 = vz_cp (vz_cp (vz_cp (vz_cp M 4 3 256) 6 5 256) 11 10 (b + 1)) 9 8 (3 * b) := by
        rw [e1, vz_cp_st _ _ _ _ (by decide) (by decide), ← vz_cp_step _ _ _ b0]
        rfl
      refine ⟨fun j M' => 0 ≤ j ∧ j ≤ 3 ∧ M' = vz_cp (vz_cp (vz_cp (vz_cp M 4 3 256) 6 5 256) 11 10 (b + 1)) 9 8 (3 * b + j), fun j _ => (4 - j).toNat, ⟨by omega, by omega, by rw [Int.add_zero]; exact e2⟩, ?_⟩
      rintro j M' ⟨j0, j1, rfl⟩
      unfold lX3_keepsAll_62
      refine ⟨⟨by omega, by omega⟩, fun w => ⟨⟨by omega, by omega, ?_⟩, by first | omega | (dsimp only; omega)⟩, fun w => ⟨⟨b0, h⟩, ⟨b0, h⟩, ⟨j0, w⟩, ⟨j0, w⟩, fun S4 e4 => ⟨⟨by omega, by omega, ?_⟩, by first | omega | (dsimp only; omega)⟩⟩⟩
      · have e : j = 3 := by omega
        subst e
        rw [show 3 * b + 3 = 3 * (b + 1) by omega]
      · rw [e4, ← Int.add_assoc, ← vz_cp_step _ _ _ (by omega : 0 ≤ 3 * b + j)]
        rfl
  · rw [e5]; exact hr i i0 h
  · rw [e6, e5, vz_cp_st _ _ _ _ (by decide) (by decide), ← vz_cp_step _ 6 5 i0, ← vz_cp_step _ 4 3 i0]
    rfl
theorem q_laysBack (hr : ∀ s : Int, 0 ≤ s → s < 256 → M 6 s = 0 ∨ M 6 s = 1) {post : vs_St → Prop} (k : post (vz_lay M)) : wX3_laysBack M post := by
  unfold wX3_laysBack
  refine ⟨fun i M' => 0 ≤ i ∧ i ≤ 256 ∧ M' = vz_cp (vz_cp M 3 4 i) 5 6 i, fun i _ => (257 - i).toNat, ⟨by omega, by omega, by rw [vz_cp0, vz_cp0]⟩, ?_⟩
  rintro i M' ⟨i0, i1, rfl⟩
  unfold lX3_laysBack_2
  refine ⟨⟨by omega, by omega⟩, fun h => ?_, fun h => ⟨⟨i0, h⟩, ⟨i0, h⟩, fun S5 e5 => ⟨⟨i0, h⟩, ⟨i0, h⟩, ?_, fun S6 e6 => ⟨⟨by omega, by omega, ?_⟩, by first | omega | (dsimp only; omega)⟩⟩⟩⟩
  · have e : i = 256 := by omega
    subst e
    refine ⟨fun b M' => 0 ≤ b ∧ b ≤ 400 ∧ M' = vz_cp (vz_cp (vz_cp (vz_cp M 3 4 256) 5 6 256) 10 11 b) 8 9 (3 * b), fun b _ => (401 - b).toNat, ⟨by omega, by omega, by rw [show (3 * 0 : Int) = 0 from rfl, vz_cp0, vz_cp0]⟩, ?_⟩
    rintro b M' ⟨b0, b1, rfl⟩
    unfold lX3_laysBack_41
    refine ⟨⟨by omega, by omega⟩, fun h => ?_, fun h => ⟨⟨b0, h⟩, ⟨b0, h⟩, fun S1 e1 => ?_⟩⟩
    · have e : b = 400 := by omega
      subst e; exact k
    · have e2 : S1 = vz_cp (vz_cp (vz_cp (vz_cp M 3 4 256) 5 6 256) 10 11 (b + 1)) 8 9 (3 * b) := by
        rw [e1, vz_cp_st _ _ _ _ (by decide) (by decide), ← vz_cp_step _ _ _ b0]
        rfl
      refine ⟨fun j M' => 0 ≤ j ∧ j ≤ 3 ∧ M' = vz_cp (vz_cp (vz_cp (vz_cp M 3 4 256) 5 6 256) 10 11 (b + 1)) 8 9 (3 * b + j), fun j _ => (4 - j).toNat, ⟨by omega, by omega, by rw [Int.add_zero]; exact e2⟩, ?_⟩
      rintro j M' ⟨j0, j1, rfl⟩
      unfold lX3_laysBack_62
      refine ⟨⟨by omega, by omega⟩, fun w => ⟨⟨by omega, by omega, ?_⟩, by first | omega | (dsimp only; omega)⟩, fun w => ⟨⟨b0, h⟩, ⟨b0, h⟩, ⟨j0, w⟩, ⟨j0, w⟩, fun S4 e4 => ⟨⟨by omega, by omega, ?_⟩, by first | omega | (dsimp only; omega)⟩⟩⟩
      · have e : j = 3 := by omega
        subst e
        rw [show 3 * b + 3 = 3 * (b + 1) by omega]
      · rw [e4, ← Int.add_assoc, ← vz_cp_step _ _ _ (by omega : 0 ≤ 3 * b + j)]
        rfl
  · rw [e5]; exact hr i i0 h
  · rw [e6, e5, vz_cp_st _ _ _ _ (by decide) (by decide), ← vz_cp_step _ 5 6 i0, ← vz_cp_step _ 3 4 i0]
    rfl
/-- two states that agree in all that counts -/
def vz_ag (M M' : vs_St) : Prop :=
  (∀ c : Nat, c ≠ 3 → c ≠ 5 → c ≠ 8 → c ≠ 10 → c ≠ 4 → c ≠ 6 → c ≠ 9 → c ≠ 11 → M' c = M c) ∧ (∀ s : Int, 0 ≤ s → s < 32 * M 7 0 → M' 3 s = M 3 s) ∧ (∀ s : Int, 0 ≤ s → s < 256 → M' 5 s = M 5 s) ∧ (∀ b : Int, 0 ≤ b → b < 400 → M' 10 b = M 10 b) ∧ (∀ b k : Int, 0 ≤ b → b < 400 → 0 ≤ k → k < M 10 b → M' 8 (3 * b + k) = M 8 (3 * b + k))
theorem vz_ag.used {M' : vs_St} (I : vI M) (h : vz_ag M M') {d : Int} (d0 : 0 ≤ d) (d1 : d < M 7 0) : vz_used M' d = vz_used M d := by
  have hs := I.sz d d0 d1
  have e1 := h.1 1 (by decide) (by decide) (by decide) (by decide) (by decide) (by decide) (by decide) (by decide)
  unfold vz_used
  rw [e1]
  exact vz_cnt_ext (fun j j0 j1 => by rw [h.2.1 _ (by omega) (by omega)])
theorem vI_ag {M' : vs_St} (I : vI M) (h : vz_ag M M') : vI M' := by
  have hd := I.dk
  have e1 := h.1 1 (by decide) (by decide) (by decide) (by decide) (by decide) (by decide) (by decide) (by decide)
  have e2 := h.1 2 (by decide) (by decide) (by decide) (by decide) (by decide) (by decide) (by decide) (by decide)
  have e7 := h.1 7 (by decide) (by decide) (by decide) (by decide) (by decide) (by decide) (by decide) (by decide)
  unfold vI
  rw [e1, e2, e7]
  refine ⟨I.dk, I.sz, I.stt, fun b a0 a1 => ?_, fun b k a0 a1 k0 k1 => ?_, fun b k k' a0 a1 k0 k1 k2 => ?_, fun s s0 s1 => ?_, fun s s0 s1 => ?_, ?_⟩
  · rw [h.2.2.2.1 b a0 a1]; exact I.mn b a0 a1
  · rw [h.2.2.2.1 b a0 a1] at k1
    have hc := I.cp b k a0 a1 k0 k1
    rw [h.2.2.2.2 b k a0 a1 k0 k1, h.2.1 _ hc.1 hc.2.1]
    exact hc
  · rw [h.2.2.2.1 b a0 a1] at k2
    rw [h.2.2.2.2 b k a0 a1 k0 (by omega), h.2.2.2.2 b k' a0 a1 (by omega) k2]
    exact I.ds b k k' a0 a1 k0 k1 k2
  · rw [h.2.1 s s0 s1]
    rcases I.hd s s0 s1 with z | ⟨z0, z1, k, k0, k1, k2⟩
    · exact Or.inl z
    · refine Or.inr ⟨z0, z1, k, k0, ?_, ?_⟩
      · rw [h.2.2.2.1 _ z0 z1]; exact k1
      · rw [h.2.2.2.2 _ k z0 z1 k0 k1]; exact k2
  · rw [h.2.2.1 s s0 s1]; exact I.rt s s0 s1
  · rw [vz_sum_ext (f := fun b => M' 10 b) (g := fun b => M 10 b) (n := 400) (fun b a0 a1 => h.2.2.2.1 b a0 a1), vz_sum_ext (f := fun d => vz_used M' d) (g := fun d => vz_used M d) (fun d d0 d1 => h.used I d0 (by omega))]
    exact I.sm
theorem vS_ag {M' : vs_St} (I : vI M) (h : vz_ag M M') (r : vS M S) : vS M' S := by
  have hd := I.dk
  have e1 := h.1 1 (by decide) (by decide) (by decide) (by decide) (by decide) (by decide) (by decide) (by decide)
  have e2 := h.1 2 (by decide) (by decide) (by decide) (by decide) (by decide) (by decide) (by decide) (by decide)
  have e7 := h.1 7 (by decide) (by decide) (by decide) (by decide) (by decide) (by decide) (by decide) (by decide)
  have e16 := h.1 16 (by decide) (by decide) (by decide) (by decide) (by decide) (by decide) (by decide) (by decide)
  have e14 := h.1 14 (by decide) (by decide) (by decide) (by decide) (by decide) (by decide) (by decide) (by decide)
  have e12 := h.1 12 (by decide) (by decide) (by decide) (by decide) (by decide) (by decide) (by decide) (by decide)
  have e15 := h.1 15 (by decide) (by decide) (by decide) (by decide) (by decide) (by decide) (by decide) (by decide)
  have e13 := h.1 13 (by decide) (by decide) (by decide) (by decide) (by decide) (by decide) (by decide) (by decide)
  unfold vS
  rw [e1, e2, e7, e16, e14, e12, e15, e13]
  refine ⟨r.dk, r.sz, fun d d0 d1 => ?_, r.us0, r.stt, r.st0, fun s s0 s1 => ?_, r.hd0, fun s s0 s1 => ?_, r.rt0, r.wn, r.vl, fun b a0 a1 => ?_, fun b k a0 a1 k0 k1 => ?_, r.wr, r.od⟩
  · rw [h.used I d0 d1]; exact r.us d d0 d1
  · rw [h.2.1 s s0 s1]; exact r.hd s s0 s1
  · rw [h.2.1 s s0 s1, h.2.2.1 s s0 (by omega)]; exact r.rt s s0 s1
  · rw [h.2.2.2.1 b a0 a1]; exact r.mn b a0 a1
  · rw [h.2.2.2.1 b a0 a1] at k1
    rw [h.2.2.2.2 b k a0 a1 k0 k1]; exact r.cp b k a0 a1 k0 k1
theorem vO_ag {M' : vs_St} (h : vz_ag M M') (O : vO M) : vO M' := by
  have e16 := h.1 16 (by decide) (by decide) (by decide) (by decide) (by decide) (by decide) (by decide) (by decide)
  have e14 := h.1 14 (by decide) (by decide) (by decide) (by decide) (by decide) (by decide) (by decide) (by decide)
  have e12 := h.1 12 (by decide) (by decide) (by decide) (by decide) (by decide) (by decide) (by decide) (by decide)
  have e15 := h.1 15 (by decide) (by decide) (by decide) (by decide) (by decide) (by decide) (by decide) (by decide)
  have e13 := h.1 13 (by decide) (by decide) (by decide) (by decide) (by decide) (by decide) (by decide) (by decide)
  unfold vO
  rw [e12, e13, e14, e15, e16]
  exact O
theorem vM_ag {M' : vs_St} (h : vz_ag M M') (V : vM M) : vM M' := by
  have e14 := h.1 14 (by decide) (by decide) (by decide) (by decide) (by decide) (by decide) (by decide) (by decide)
  intro b a0 a1 k
  rw [h.2.2.2.1 b a0 a1] at k
  rw [e14]; exact V b a0 a1 k
theorem vz_ag_keeps (M : vs_St) : vz_ag M (vz_keeps M) := by
  refine ⟨fun c h3 h5 h8 h10 h4 h6 h9 h11 => ?_, fun _ _ _ => rfl, fun _ _ _ => rfl, fun _ _ _ => rfl, fun _ _ _ _ _ _ => rfl⟩
  unfold vz_keeps
  rw [vz_cp_ne _ _ _ _ h9, vz_cp_ne _ _ _ _ h11, vz_cp_ne _ _ _ _ h6, vz_cp_ne _ _ _ _ h4]
/-- what was kept of M lies in X, whatever else X is: laid back, it agrees with M -/
theorem vz_ag_lay {X : vs_St} (I : vI M) (hf : ∀ c : Nat, c ≠ 3 → c ≠ 5 → c ≠ 8 → c ≠ 10 → X c = vz_keeps M c) : vz_ag M (vz_lay X) := by
  have hd := I.dk
  have e4 := hf 4 (by decide) (by decide) (by decide) (by decide)
  have e6 := hf 6 (by decide) (by decide) (by decide) (by decide)
  have e9 := hf 9 (by decide) (by decide) (by decide) (by decide)
  have e11 := hf 11 (by decide) (by decide) (by decide) (by decide)
  refine ⟨fun c h3 h5 h8 h10 h4 h6 h9 h11 => ?_, fun s s0 s1 => ?_, fun s s0 s1 => ?_, fun b b0 b1 => ?_, fun b k b0 b1 k0 k1 => ?_⟩
  · unfold vz_lay
    rw [vz_cp_ne _ _ _ _ h8, vz_cp_ne _ _ _ _ h10, vz_cp_ne _ _ _ _ h5, vz_cp_ne _ _ _ _ h3, hf c h3 h5 h8 h10]
    exact (vz_ag_keeps M).1 c h3 h5 h8 h10 h4 h6 h9 h11
  · show (if 0 ≤ s ∧ s < 256 then X 4 s else _) = _
    rw [if_pos (by omega), e4]
    show (if 0 ≤ s ∧ s < 256 then M 3 s else _) = _
    rw [if_pos (by omega)]
  · show (if 0 ≤ s ∧ s < 256 then X 6 s else _) = _
    rw [if_pos (by omega), e6]
    show (if 0 ≤ s ∧ s < 256 then M 5 s else _) = _
    rw [if_pos (by omega)]
  · show (if 0 ≤ b ∧ b < 400 then X 11 b else _) = _
    rw [if_pos (by omega), e11]
    show (if 0 ≤ b ∧ b < 400 then M 10 b else _) = _
    rw [if_pos (by omega)]
  · have hm := I.mn b b0 b1
    show (if 0 ≤ 3 * b + k ∧ 3 * b + k < 1200 then X 9 (3 * b + k) else _) = _
    rw [if_pos (by omega), e9]
    show (if 0 ≤ 3 * b + k ∧ 3 * b + k < 1200 then M 8 (3 * b + k) else _) = _
    rw [if_pos (by omega)]
theorem vz_kept6 {X : vs_St} (I : vI M) (hf : ∀ c : Nat, c ≠ 3 → c ≠ 5 → c ≠ 8 → c ≠ 10 → X c = vz_keeps M c) : ∀ s : Int, 0 ≤ s → s < 256 → X 6 s = 0 ∨ X 6 s = 1 := by
  intro s s0 s1
  have e6 := hf 6 (by decide) (by decide) (by decide) (by decide)
  have e : X 6 s = M 5 s := by
    rw [e6]
    show (if 0 ≤ s ∧ s < 256 then M 5 s else _) = _
    rw [if_pos (by omega)]
  rw [e]; exact I.rt s s0 s1
end VZ8
