/-! pure part: a copy is put, a copy is taken away: both sides -/
section VZ5
variable {M S : vs_St}
def vz_can0 (M : vs_St) (b s : Int) : Prop := (0 ≤ s ∧ s < 32 * M 7 0 ∧ s % 32 < M 1 (s / 32)) ∧ M 3 s < 0 ∧ M 2 (s / 32) ≠ 102 ∧ ¬ vz_has M (s / 32) b
def vz_can (M : vs_St) (b s : Int) : Prop := vz_can0 M b s ∧ M 10 b < 3
theorem vz_place_spec (I : vI M) {b : Int} : vz_place M b = -1 ∨ (0 ≤ vz_place M b ∧ vz_can0 M b (vz_place M b) ∧ vz_open M b (vz_place M b / 32)) := by
  have hd := I.dk
  have hbd := vz_best_bd M b (M 7 0).toNat
  unfold vz_place
  by_cases q : vz_best M b (M 7 0).toNat < 0
  · rw [if_pos q]; exact Or.inl rfl
  · rw [if_neg q]
    right
    have ho := vz_best_open M b (M 7 0).toNat (by omega)
    have hs := I.sz (vz_best M b (M 7 0).toNat) (by omega) (by omega)
    obtain ⟨f0, f1, f2, f3⟩ := vz_first_spec I (by omega : 0 ≤ vz_best M b (M 7 0).toNat) (by omega) ho.2.1
    have e : vz_first M (32 * vz_best M b (M 7 0).toNat) 32 / 32 = vz_best M b (M 7 0).toNat := by omega
    unfold vz_can0
    rw [e]
    refine ⟨by omega, ⟨⟨by omega, by omega, by omega⟩, f2, ?_, ho.2.2⟩, ho⟩
    rw [ho.1]; omega
theorem vz_place_none (I : vI M) {b : Int} : vz_place M b < 0 ↔ ∀ d : Int, 0 ≤ d → d < M 7 0 → ¬ vz_open M b d := by
  have hd := I.dk
  have hbd := vz_best_bd M b (M 7 0).toNat
  have e : vz_place M b < 0 ↔ vz_best M b (M 7 0).toNat < 0 := by
    unfold vz_place
    by_cases q : vz_best M b (M 7 0).toNat < 0
    · rw [if_pos q]; exact ⟨fun _ => q, fun _ => by omega⟩
    · rw [if_neg q]
      have ho := vz_best_open M b (M 7 0).toNat (by omega)
      obtain ⟨f0, f1, f2, f3⟩ := vz_first_spec I (by omega : 0 ≤ vz_best M b (M 7 0).toNat) (by omega) ho.2.1
      exact ⟨fun z => by omega, fun z => absurd z q⟩
  have key : ∀ n : Nat, vz_best M b n < 0 ↔ ∀ d : Int, 0 ≤ d → d < n → ¬ vz_open M b d := by
    intro n
    induction n with
    | zero => exact ⟨fun _ d a c => by omega, fun _ => by show (-1 : Int) < 0; omega⟩
    | succ n ih =>
      constructor
      · intro h d a c o
        by_cases q : vz_best M b n < 0
        · by_cases z : d = n
          · subst z
            have e2 : vz_best M b (n + 1) = n := vz_bst1 o (Or.inl q)
            omega
          · exact ih.mp q d a (by omega) o
        · have : ¬ vz_best M b (n + 1) < 0 := by
            show ¬ vz_bst M b n (vz_best M b n) < 0
            unfold vz_bst
            split <;> omega
          exact this h
      · intro h
        have q := ih.mpr (fun d a c => h d a (by omega))
        have e2 : vz_best M b (n + 1) = vz_best M b n := vz_bst0 (fun z => h n (by omega) (by omega) z.1)
        omega
  rw [e, key]
  exact ⟨fun h d a c => h d a (by omega), fun h d a c => h d a (by omega)⟩
-- what is read of a put
theorem vz_p3 (M : vs_St) (b s i : Int) : vz_puts M b s 3 i = if i = s then b else M 3 i := rfl
theorem vz_p5 (M : vs_St) (b s i : Int) : vz_puts M b s 5 i = if i = s then 0 else M 5 i := rfl
theorem vz_p8 (M : vs_St) (b s i : Int) : vz_puts M b s 8 i = if i = 3 * b + M 10 b then s else M 8 i := rfl
theorem vz_p10 (M : vs_St) (b s i : Int) : vz_puts M b s 10 i = if i = b then M 10 b + 1 else M 10 i := rfl
theorem vz_p1 (M : vs_St) (b s : Int) : vz_puts M b s 1 = M 1 := rfl
theorem vz_p2 (M : vs_St) (b s : Int) : vz_puts M b s 2 = M 2 := rfl
theorem vz_p7 (M : vs_St) (b s : Int) : vz_puts M b s 7 = M 7 := rfl
theorem vz_used_puts (I : vI M) {b s : Int} (h0 : 0 ≤ b) (c : vz_can M b s) {d : Int} (d0 : 0 ≤ d) (d1 : d < M 7 0) : vz_used (vz_puts M b s) d = vz_used M d + (if d = s / 32 then 1 else 0) := by
  have hs := I.sz d d0 d1
  obtain ⟨⟨⟨c0, c1, c2⟩, c3, c4, c5⟩, c6⟩ := c
  unfold vz_used
  rw [vz_p1]
  by_cases e : d = s / 32
  · rw [if_pos e]
    refine vz_cnt_up (j := s % 32) (by omega) (by rw [e]; omega) ?_ ?_ (fun i i0 i1 ne => ?_)
    · rw [show 32 * d + s % 32 = s by omega]; omega
    · show 0 ≤ vz_puts M b s 3 _
      rw [vz_p3, if_pos (by omega)]; exact h0
    · show 0 ≤ vz_puts M b s 3 _ ↔ _
      rw [vz_p3, if_neg (by omega)]
  · rw [if_neg e, Int.add_zero]
    refine vz_cnt_ext (fun i i0 i1 => ?_)
    show 0 ≤ vz_puts M b s 3 _ ↔ _
    rw [vz_p3, if_neg (by omega)]
theorem vI_puts (I : vI M) {b s : Int} (h0 : 0 ≤ b) (h1 : b < 400) (c : vz_can M b s) : vI (vz_puts M b s) := by
  have hc := c
  obtain ⟨⟨⟨c0, c1, c2⟩, c3, c4, c5⟩, c6⟩ := c
  have hd := I.dk
  have hn := I.mn b h0 h1
  refine ⟨I.dk, I.sz, I.stt, fun b' a0 a1 => ?_, fun b' k a0 a1 k0 k1 => ?_, fun b' k k' a0 a1 k0 k1 k2 => ?_, fun s' a0 a1 => ?_, fun s' a0 a1 => ?_, ?_⟩
  · have := I.mn b' a0 a1
    rw [vz_p10]; split <;> omega
  · rw [vz_p10] at k1
    rw [vz_p8, vz_p7, vz_p1, vz_p2, vz_p3]
    by_cases e : 3 * b' + k = 3 * b + M 10 b
    · have hm := I.mn b' a0 a1
      have eb : b' = b := by
        by_cases z : b' = b
        · exact z
        · rw [if_neg z] at k1; omega
      subst eb
      rw [if_pos e, if_pos rfl]
      exact ⟨c0, c1, c2, rfl, c4⟩
    · rw [if_neg e]
      have hk : k < M 10 b' := by
        by_cases z : b' = b
        · subst z; rw [if_pos rfl] at k1; omega
        · rwa [if_neg z] at k1
      have old := I.cp b' k a0 a1 k0 hk
      rw [if_neg (by intro z; rw [z] at old; omega)]
      exact old
  · rw [vz_p10] at k2
    rw [vz_p8, vz_p8]
    by_cases z : b' = b
    · subst z
      rw [if_pos rfl] at k2
      rw [if_neg (by omega : ¬ 3 * b' + k = 3 * b' + M 10 b')]
      by_cases e : 3 * b' + k' = 3 * b' + M 10 b'
      · rw [if_pos e]
        intro z
        exact c5 ⟨k, k0, by omega, z⟩
      · rw [if_neg e]; exact I.ds b' k k' a0 a1 k0 k1 (by omega)
    · rw [if_neg z] at k2
      have hm := I.mn b' a0 a1
      rw [if_neg (by omega), if_neg (by omega)]
      exact I.ds b' k k' a0 a1 k0 k1 k2
  · rw [vz_p3]
    by_cases e : s' = s
    · subst e
      rw [if_pos rfl]
      refine Or.inr ⟨h0, h1, M 10 b, hn.1, ?_, ?_⟩
      · rw [vz_p10, if_pos rfl]; omega
      · rw [vz_p8, if_pos rfl]
    · rw [if_neg e]
      rcases I.hd s' a0 a1 with z | ⟨z0, z1, k, k0, k1, k2⟩
      · exact Or.inl z
      · refine Or.inr ⟨z0, z1, k, k0, ?_, ?_⟩
        · rw [vz_p10]
          by_cases w : M 3 s' = b
          · rw [if_pos w]; rw [w] at k1; omega
          · rw [if_neg w]; exact k1
        · have hm := I.mn _ z0 z1
          rw [vz_p8, if_neg ?_]
          · exact k2
          · intro w
            have : M 3 s' = b := by omega
            rw [this] at k1; omega
  · rw [vz_p5]; split
    · exact Or.inl rfl
    · exact I.rt s' a0 a1
  · have e1 : vz_sum (fun b' => vz_puts M b s 10 b') 400 = vz_sum (fun b' => M 10 b') 400 + 1 := by
      rw [vz_sum_upd (f := fun b' => M 10 b') (n := 400) h0 h1 (fun i i0 i1 ne => by show vz_puts M b s 10 i = _; rw [vz_p10, if_neg ne])]
      show _ + (vz_puts M b s 10 b - M 10 b) = _
      rw [vz_p10, if_pos rfl]; omega
    have e2 : vz_sum (fun d => vz_used (vz_puts M b s) d) (M 7 0).toNat = vz_sum (fun d => vz_used M d) (M 7 0).toNat + 1 := by
      rw [vz_sum_upd (f := fun d => vz_used M d) (j := s / 32) (by omega) (by omega) (fun i i0 i1 ne => by
        show vz_used (vz_puts M b s) i = _
        rw [vz_used_puts I h0 hc i0 (by omega), if_neg ne]; omega)]
      show _ + (vz_used (vz_puts M b s) (s / 32) - vz_used M (s / 32)) = _
      rw [vz_used_puts I h0 hc (by omega) (by omega), if_pos rfl]; omega
    show vz_sum (fun b' => vz_puts M b s 10 b') 400 = vz_sum (fun d => vz_used (vz_puts M b s) d) (M 7 0).toNat
    rw [e1, e2, I.sm]
theorem vS_puts (I : vI M) (r : vS M S) {b s : Int} (h0 : 0 ≤ b) (h1 : b < 400) (c : vz_can M b s) : vS (vz_puts M b s) (vs_st (vs_st (vs_st (vs_st (vs_st S 4 s b) 5 s 0) 2 (s / 32) (S 2 (s / 32) + 1)) 9 (b * 3 + S 8 b) s) 8 b (S 8 b + 1)) := by
  have hc := c
  obtain ⟨⟨⟨c0, c1, c2⟩, c3, c4, c5⟩, c6⟩ := c
  have hd := I.dk
  have hn := I.mn b h0 h1
  have e8 := r.mn b h0 h1
  refine ⟨r.dk, r.sz, fun d d0 d1 => ?_, fun d d0 d1 => ?_, r.stt, r.st0, fun i i0 i1 => ?_, fun i i0 i1 => ?_, fun i i0 i1 => ?_, fun i i0 i1 => ?_, r.wn, r.vl, fun i i0 i1 => ?_, fun b' k a0 a1 k0 k1 => ?_, r.wr, r.od⟩
  · rw [vz_used_puts I h0 hc d0 d1]
    show (if d = s / 32 then S 2 (s / 32) + 1 else S 2 d) = _
    by_cases e : d = s / 32
    · rw [if_pos e, if_pos e, ← e, r.us d d0 d1]
    · rw [if_neg e, if_neg e, r.us d d0 d1, Int.add_zero]
  · show (if d = s / 32 then S 2 (s / 32) + 1 else S 2 d) = 0
    have d0 : M 7 0 ≤ d := d0
    rw [if_neg (by omega), r.us0 d d0 d1]
  · show (if i = s then b else S 4 i) = if i = s then b else M 3 i
    rw [r.hd i i0 i1]
  · show (if i = s then b else S 4 i) = -1
    have i0 : 32 * M 7 0 ≤ i := i0
    rw [if_neg (by omega), r.hd0 i i0 i1]
  · show (if i = s then 0 else S 5 i) = if (if i = s then b else M 3 i) < 0 then 0 else (if i = s then 0 else M 5 i)
    by_cases e : i = s
    · rw [if_pos e, if_pos e, if_pos e, if_neg (by omega)]
    · rw [if_neg e, if_neg e, if_neg e, r.rt i i0 i1]
  · show (if i = s then 0 else S 5 i) = 0
    have i0 : 32 * M 7 0 ≤ i := i0
    rw [if_neg (by omega), r.rt0 i i0 i1]
  · show (if i = b then S 8 b + 1 else S 8 i) = if i = b then M 10 b + 1 else M 10 i
    rw [r.mn i i0 i1, e8]
  · rw [vz_p10] at k1
    show (if b' * 3 + k = b * 3 + S 8 b then s else S 9 (b' * 3 + k)) = if 3 * b' + k = 3 * b + M 10 b then s else M 8 (3 * b' + k)
    rw [e8]
    by_cases e : 3 * b' + k = 3 * b + M 10 b
    · rw [if_pos e, if_pos (by omega)]
    · rw [if_neg e, if_neg (by omega)]
      have hk : k < M 10 b' := by
        by_cases z : b' = b
        · subst z; rw [if_pos rfl] at k1; omega
        · rwa [if_neg z] at k1
      exact r.cp b' k a0 a1 k0 hk
theorem p_addCopy (I : vI M) (r : vS M S) {b s : Int} (h0 : 0 ≤ b) (h1 : b < 400) (c : vz_can M b s) {post : vs_St → Prop} (k : ∀ S', vS (vz_puts M b s) S' → post S') : wX1_addCopy S b s post := by
  have hr := vS_puts I r h0 h1 c
  obtain ⟨⟨⟨c0, c1, c2⟩, c3, c4, c5⟩, c6⟩ := c
  have hd := I.dk
  have hn := I.mn b h0 h1
  have e8 := r.mn b h0 h1
  unfold wX1_addCopy
  refine ⟨⟨c0, by omega⟩, fun S1 e1 => ⟨⟨c0, by omega⟩, fun S2 e2 => ⟨⟨c0, by omega⟩, ⟨by omega, by omega⟩, ⟨by omega, by omega⟩, fun S3 e3 => ?_⟩⟩⟩
  subst e1; subst e2; subst e3
  have e9 : vs_st (vs_st (vs_st S 4 s b) 5 s 0) 2 (s / 32) (vs_st (vs_st S 4 s b) 5 s 0 2 (s / 32) + 1) 8 b = M 10 b := e8
  rw [e9]
  refine ⟨⟨h0, h1⟩, ⟨by omega, by omega⟩, fun S4 e4 => ⟨⟨h0, h1⟩, ⟨h0, h1⟩, fun S5 e5 => ?_⟩⟩
  subst e4; subst e5
  rw [e8] at hr
  have e10 : vs_st (vs_st (vs_st (vs_st S 4 s b) 5 s 0) 2 (s / 32) (vs_st (vs_st S 4 s b) 5 s 0 2 (s / 32) + 1)) 9 (b * 3 + M 10 b) s 8 b = M 10 b := e8
  rw [e10]
  exact k _ hr
theorem q_puts (I : vI M) {b s : Int} (h0 : 0 ≤ b) (h1 : b < 400) (c : vz_can M b s) {post : vs_St → Prop} (k : post (vz_puts M b s)) : wX3_puts M b s post := by
  obtain ⟨⟨⟨c0, c1, c2⟩, c3, c4, c5⟩, c6⟩ := c
  have hd := I.dk
  have hn := I.mn b h0 h1
  unfold wX3_puts
  refine ⟨⟨c0, by omega⟩, fun S1 e1 => ⟨⟨c0, by omega⟩, fun S2 e2 => ?_⟩⟩
  subst e1; subst e2
  have e9 : vs_st (vs_st M 3 s b) 5 s 0 10 b = M 10 b := rfl
  rw [e9]
  refine ⟨⟨h0, h1⟩, ⟨h0, h1⟩, ⟨by omega, by omega⟩, fun S4 e4 => ⟨⟨h0, h1⟩, ⟨h0, h1⟩, fun S5 e5 => ?_⟩⟩
  subst e4; subst e5
  exact k
-- a copy is taken away
theorem vz_t3 (M : vs_St) (b i e : Int) : vz_takes M b i 3 e = if e = M 8 (3 * b + i) then -1 else M 3 e := rfl
theorem vz_t10 (M : vs_St) (b i e : Int) : vz_takes M b i 10 e = if e = b then M 10 b - 1 else M 10 e := rfl
theorem vz_t8 (M : vs_St) (b i e : Int) : vz_takes M b i 8 e = if 3 * b + i ≤ e ∧ e < 3 * b + (M 10 b - 1) then M 8 (e + 1) else M 8 e := rfl
theorem vz_t1 (M : vs_St) (b i : Int) : vz_takes M b i 1 = M 1 := rfl
theorem vz_t2 (M : vs_St) (b i : Int) : vz_takes M b i 2 = M 2 := rfl
theorem vz_t5 (M : vs_St) (b i : Int) : vz_takes M b i 5 = M 5 := rfl
theorem vz_t7 (M : vs_St) (b i : Int) : vz_takes M b i 7 = M 7 := rfl
theorem vz_used_takes (I : vI M) {b i : Int} (h0 : 0 ≤ b) (h1 : b < 400) (i0 : 0 ≤ i) (i1 : i < M 10 b) {d : Int} (d0 : 0 ≤ d) (d1 : d < M 7 0) : vz_used (vz_takes M b i) d = vz_used M d - (if d = M 8 (3 * b + i) / 32 then 1 else 0) := by
  have hs := I.sz d d0 d1
  have hc := I.cp b i h0 h1 i0 i1
  unfold vz_used
  rw [vz_t1]
  by_cases e : d = M 8 (3 * b + i) / 32
  · rw [if_pos e]
    refine vz_cnt_dn (j := M 8 (3 * b + i) % 32) (by omega) (by rw [e]; omega) ?_ ?_ (fun j j0 j1 ne => ?_)
    · rw [show 32 * d + M 8 (3 * b + i) % 32 = M 8 (3 * b + i) by omega]; omega
    · show ¬ 0 ≤ vz_takes M b i 3 _
      rw [vz_t3, if_pos (by omega)]; omega
    · show 0 ≤ vz_takes M b i 3 _ ↔ _
      rw [vz_t3, if_neg (by omega)]
  · rw [if_neg e, Int.sub_zero]
    refine vz_cnt_ext (fun j j0 j1 => ?_)
    show 0 ≤ vz_takes M b i 3 _ ↔ _
    rw [vz_t3, if_neg (by omega)]
/-- the copies of a block, when one is gone -/
theorem vz_t8b (M : vs_St) {b i k : Int} (k1 : k < M 10 b - 1) : vz_takes M b i 8 (3 * b + k) = if k < i then M 8 (3 * b + k) else M 8 (3 * b + (k + 1)) := by
  rw [vz_t8]
  by_cases e : k < i
  · rw [if_pos e, if_neg (by omega)]
  · rw [if_neg e, if_pos (by omega), show 3 * b + k + 1 = 3 * b + (k + 1) by omega]
theorem vz_t8o (I : vI M) {b i b' k : Int} (h0 : 0 ≤ b) (h1 : b < 400) (i0 : 0 ≤ i) (h : b' ≠ b) (k0 : 0 ≤ k) (k1 : k < 3) : vz_takes M b i 8 (3 * b' + k) = M 8 (3 * b' + k) := by
  have := I.mn b h0 h1
  rw [vz_t8, if_neg (by omega)]
theorem vI_takes (I : vI M) {b i : Int} (h0 : 0 ≤ b) (h1 : b < 400) (i0 : 0 ≤ i) (i1 : i < M 10 b) : vI (vz_takes M b i) := by
  have hd := I.dk
  have hn := I.mn b h0 h1
  have hc := I.cp b i h0 h1 i0 i1
  -- two copies of a block lie apart
  have hne : ∀ k : Int, 0 ≤ k → k < M 10 b → k ≠ i → M 8 (3 * b + k) ≠ M 8 (3 * b + i) := by
    intro k k0 k1 ne e
    rcases Int.lt_or_le k i with z | z
    · exact I.ds b k i h0 h1 k0 z i1 (by rw [e])
    · exact I.ds b i k h0 h1 i0 (by omega) k1 (by rw [e])
  refine ⟨I.dk, I.sz, I.stt, fun b' a0 a1 => ?_, fun b' k a0 a1 k0 k1 => ?_, fun b' k k' a0 a1 k0 k1 k2 => ?_, fun s' a0 a1 => ?_, I.rt, ?_⟩
  · have := I.mn b' a0 a1
    rw [vz_t10]; split <;> omega
  · rw [vz_t10] at k1
    rw [vz_t7, vz_t1, vz_t2, vz_t3]
    by_cases z : b' = b
    · subst z
      rw [if_pos rfl] at k1
      rw [vz_t8b M k1]
      by_cases w : k < i
      · rw [if_pos w, if_neg (hne k k0 (by omega) (by omega))]
        exact I.cp b' k a0 a1 k0 (by omega)
      · rw [if_neg w, if_neg (hne (k + 1) (by omega) (by omega) (by omega))]
        exact I.cp b' (k + 1) a0 a1 (by omega) (by omega)
    · rw [if_neg z] at k1
      have hm := I.mn b' a0 a1
      rw [vz_t8o I h0 h1 i0 z k0 (by omega)]
      have old := I.cp b' k a0 a1 k0 k1
      rw [if_neg (by intro w; rw [w] at old; omega)]
      exact old
  · rw [vz_t10] at k2
    by_cases z : b' = b
    · subst z
      rw [if_pos rfl] at k2
      rw [vz_t8b M (by omega : k < M 10 b' - 1), vz_t8b M k2]
      by_cases w : k < i
      · rw [if_pos w]
        by_cases w' : k' < i
        · rw [if_pos w']; exact I.ds b' k k' a0 a1 k0 k1 (by omega)
        · rw [if_neg w']; exact I.ds b' k (k' + 1) a0 a1 k0 (by omega) (by omega)
      · rw [if_neg w, if_neg (by omega)]; exact I.ds b' (k + 1) (k' + 1) a0 a1 (by omega) (by omega) (by omega)
    · rw [if_neg z] at k2
      have hm := I.mn b' a0 a1
      rw [vz_t8o I h0 h1 i0 z k0 (by omega), vz_t8o I h0 h1 i0 z (by omega) (by omega)]
      exact I.ds b' k k' a0 a1 k0 k1 k2
  · rw [vz_t3]
    by_cases e : s' = M 8 (3 * b + i)
    · rw [if_pos e]; exact Or.inl rfl
    · rw [if_neg e]
      rcases I.hd s' a0 a1 with z | ⟨z0, z1, k, k0, k1, k2⟩
      · exact Or.inl z
      · right
        refine ⟨z0, z1, ?_⟩
        rw [vz_t10]
        by_cases w : M 3 s' = b
        · rw [if_pos w]
          rw [w] at k1 k2
          have ki : k ≠ i := by intro q; rw [q] at k2; exact e k2.symm
          rw [w]
          by_cases y : k < i
          · refine ⟨k, k0, by omega, ?_⟩
            rw [vz_t8b M (by omega), if_pos y]; exact k2
          · refine ⟨k - 1, by omega, by omega, ?_⟩
            rw [vz_t8b M (by omega), if_neg (by omega), show k - 1 + 1 = k by omega]; exact k2
        · rw [if_neg w]
          have hm := I.mn _ z0 z1
          refine ⟨k, k0, k1, ?_⟩
          rw [vz_t8o I h0 h1 i0 w k0 (by omega)]; exact k2
  · have e1 : vz_sum (fun b' => vz_takes M b i 10 b') 400 = vz_sum (fun b' => M 10 b') 400 - 1 := by
      rw [vz_sum_upd (f := fun b' => M 10 b') (n := 400) h0 h1 (fun i' i0 i1 ne => by show vz_takes M b i 10 i' = _; rw [vz_t10, if_neg ne])]
      show _ + (vz_takes M b i 10 b - M 10 b) = _
      rw [vz_t10, if_pos rfl]; omega
    have e2 : vz_sum (fun d => vz_used (vz_takes M b i) d) (M 7 0).toNat = vz_sum (fun d => vz_used M d) (M 7 0).toNat - 1 := by
      rw [vz_sum_upd (f := fun d => vz_used M d) (j := M 8 (3 * b + i) / 32) (by omega) (by omega) (fun j j0 j1 ne => by
        show vz_used (vz_takes M b i) j = _
        rw [vz_used_takes I h0 h1 i0 i1 j0 (by omega), if_neg ne]; omega)]
      show _ + (vz_used (vz_takes M b i) (M 8 (3 * b + i) / 32) - vz_used M (M 8 (3 * b + i) / 32)) = _
      rw [vz_used_takes I h0 h1 i0 i1 (by omega) (by omega), if_pos rfl]; omega
    show vz_sum (fun b' => vz_takes M b i 10 b') 400 = vz_sum (fun d => vz_used (vz_takes M b i) d) (M 7 0).toNat
    rw [e1, e2, I.sm]
theorem vS_takes (I : vI M) (r : vS M S) {b i : Int} (h0 : 0 ≤ b) (h1 : b < 400) (i0 : 0 ≤ i) (i1 : i < M 10 b) : vS (vz_takes M b i) (vz_sh (vs_st (vs_st (vs_st (vs_st S 4 (M 8 (3 * b + i)) (-1)) 5 (M 8 (3 * b + i)) 0) 2 (M 8 (3 * b + i) / 32) (S 2 (M 8 (3 * b + i) / 32) - 1)) 8 b (S 8 b - 1)) 9 (b * 3) i (M 10 b - 1)) := by
  have hd := I.dk
  have hn := I.mn b h0 h1
  have hc := I.cp b i h0 h1 i0 i1
  have e8 := r.mn b h0 h1
  refine ⟨r.dk, r.sz, fun d d0 d1 => ?_, fun d d0 d1 => ?_, r.stt, r.st0, fun j j0 j1 => ?_, fun j j0 j1 => ?_, fun j j0 j1 => ?_, fun j j0 j1 => ?_, r.wn, r.vl, fun j j0 j1 => ?_, fun b' k a0 a1 k0 k1 => ?_, r.wr, r.od⟩
  · rw [vz_used_takes I h0 h1 i0 i1 d0 d1]
    show (if d = M 8 (3 * b + i) / 32 then S 2 (M 8 (3 * b + i) / 32) - 1 else S 2 d) = _
    by_cases e : d = M 8 (3 * b + i) / 32
    · rw [if_pos e, if_pos e, ← e, r.us d d0 d1]
    · rw [if_neg e, if_neg e, r.us d d0 d1, Int.sub_zero]
  · show (if d = M 8 (3 * b + i) / 32 then S 2 (M 8 (3 * b + i) / 32) - 1 else S 2 d) = 0
    have d0 : M 7 0 ≤ d := d0
    rw [if_neg (by omega), r.us0 d d0 d1]
  · show (if j = M 8 (3 * b + i) then -1 else S 4 j) = if j = M 8 (3 * b + i) then -1 else M 3 j
    rw [r.hd j j0 j1]
  · show (if j = M 8 (3 * b + i) then -1 else S 4 j) = -1
    have j0 : 32 * M 7 0 ≤ j := j0
    rw [if_neg (by omega), r.hd0 j j0 j1]
  · show (if j = M 8 (3 * b + i) then 0 else S 5 j) = if (if j = M 8 (3 * b + i) then -1 else M 3 j) < 0 then 0 else M 5 j
    by_cases e : j = M 8 (3 * b + i)
    · rw [if_pos e, if_pos e, if_pos (by omega)]
    · rw [if_neg e, if_neg e, r.rt j j0 j1]
  · show (if j = M 8 (3 * b + i) then 0 else S 5 j) = 0
    have j0 : 32 * M 7 0 ≤ j := j0
    rw [if_neg (by omega), r.rt0 j j0 j1]
  · show (if j = b then S 8 b - 1 else S 8 j) = if j = b then M 10 b - 1 else M 10 j
    rw [r.mn j j0 j1, e8]
  · rw [vz_t10] at k1
    show (if b * 3 + i ≤ b' * 3 + k ∧ b' * 3 + k < b * 3 + (M 10 b - 1) then S 9 (b' * 3 + k + 1) else S 9 (b' * 3 + k)) = _
    by_cases z : b' = b
    · subst z
      rw [if_pos rfl] at k1
      rw [vz_t8b M k1]
      by_cases w : k < i
      · rw [if_pos w, if_neg (by omega)]
        exact r.cp b' k a0 a1 k0 (by omega)
      · rw [if_neg w, if_pos (by omega), show b' * 3 + k + 1 = b' * 3 + (k + 1) by omega]
        exact r.cp b' (k + 1) a0 a1 (by omega) (by omega)
    · rw [if_neg z] at k1
      have hm := I.mn b' a0 a1
      rw [vz_t8o I h0 h1 i0 z k0 (by omega), if_neg (by omega)]
      exact r.cp b' k a0 a1 k0 k1
theorem vz_sh0 (M : vs_St) (c0 : Nat) (a i n : Int) (h : n ≤ i) : vz_sh M c0 a i n = M := by
  funext c
  unfold vz_sh
  cases hb : Nat.beq c c0
  · rfl
  · have := Nat.eq_of_beq_eq_true hb
    subst this
    funext e
    show vz_shf _ _ _ _ e = _
    unfold vz_shf
    rw [if_neg (by omega)]
theorem vz_sh_step (M : vs_St) (c0 : Nat) (a i n : Int) (h : i ≤ n) : vs_st (vz_sh M c0 a i n) c0 (a + n) (vz_sh M c0 a i n c0 (a + n + 1)) = vz_sh M c0 a i (n + 1) := by
  funext c
  by_cases e : c = c0
  · subst e
    rw [vs_st_same]
    funext j
    have e1 : ∀ m x : Int, vz_sh M c a i m c x = vz_shf (M c) a i m x := by
      intro m x; unfold vz_sh; rw [Nat.beq_refl]; rfl
    unfold vs_up
    rw [e1, e1, e1]
    unfold vz_shf
    by_cases q : j = a + n
    · rw [if_pos q, if_neg (by omega), if_pos (by omega), q]
    · rw [if_neg q]
      by_cases w : a + i ≤ j ∧ j < a + n
      · rw [if_pos w, if_pos (by omega)]
      · rw [if_neg w, if_neg (by omega)]
  · rw [vs_st_ne _ e]
    have hb : Nat.beq c c0 = false := by
      cases hb : Nat.beq c c0
      · rfl
      · exact absurd (Nat.eq_of_beq_eq_true hb) e
    unfold vz_sh
    rw [hb]; rfl
theorem p_removeCopy (I : vI M) (r : vS M S) {b i : Int} (h0 : 0 ≤ b) (h1 : b < 400) (i0 : 0 ≤ i) (i1 : i < M 10 b) {post : vs_St → Prop} (k : ∀ S', vS (vz_takes M b i) S' → post S') : wX1_removeCopy S b i post := by
  have hr := vS_takes I r h0 h1 i0 i1
  have hd := I.dk
  have hn := I.mn b h0 h1
  have hc := I.cp b i h0 h1 i0 i1
  have e8 := r.mn b h0 h1
  unfold wX1_removeCopy
  refine p_addressOf I r h0 h1 i0 i1 ⟨⟨by omega, by omega⟩, fun S2 e2 => ⟨⟨by omega, by omega⟩, fun S3 e3 => ⟨⟨by omega, by omega⟩, ⟨by omega, by omega⟩, ⟨by omega, by omega⟩, fun S4 e4 => ⟨⟨h0, h1⟩, ⟨h0, h1⟩, fun S5 e5 v6 hv => ?_⟩⟩⟩⟩
  subst hv
  have e6 : S5 = vs_st (vs_st (vs_st (vs_st S 4 (M 8 (3 * b + i)) (-1)) 5 (M 8 (3 * b + i)) 0) 2 (M 8 (3 * b + i) / 32) (S 2 (M 8 (3 * b + i) / 32) - 1)) 8 b (S 8 b - 1) := by
    subst e2; subst e3; subst e4; subst e5; rfl
  rw [← e6] at hr
  have e7 : S5 8 b = M 10 b - 1 := by
    rw [e6]
    show (if b = b then S 8 b - 1 else _) = _
    rw [if_pos rfl, e8]
  refine ⟨fun j S' => i ≤ j ∧ j ≤ M 10 b - 1 ∧ S' = vz_sh S5 9 (b * 3) i j, fun j _ => (M 10 b - j).toNat, ⟨by omega, by omega, (vz_sh0 S5 9 (b * 3) i i (by omega)).symm⟩, ?_⟩
  rintro j S' ⟨j0, j1, e9⟩
  unfold lX1_removeCopy_52
  have e10 : S' 8 b = M 10 b - 1 := by rw [e9]; exact e7
  rw [e10]
  refine ⟨⟨h0, h1⟩, ⟨by omega, by omega⟩, ⟨by omega, by omega⟩, fun h => ?_, fun h => ⟨⟨by omega, by omega⟩, ⟨by omega, by omega⟩, fun S7 e11 => ⟨⟨by omega, by omega, ?_⟩, by first | omega | (dsimp only; omega)⟩⟩⟩
  · have : j = M 10 b - 1 := by omega
    rw [this] at e9
    rw [← e9] at hr
    exact k _ hr
  · rw [e11, e9]; exact vz_sh_step S5 9 (b * 3) i j j0
theorem q_takes (I : vI M) {b i : Int} (h0 : 0 ≤ b) (h1 : b < 400) (i0 : 0 ≤ i) (i1 : i < M 10 b) {post : vs_St → Prop} (k : post (vz_takes M b i)) : wX3_takes M b i post := by
  have hd := I.dk
  have hn := I.mn b h0 h1
  have hc := I.cp b i h0 h1 i0 i1
  unfold wX3_takes
  refine ⟨⟨h0, h1⟩, ⟨by omega, by omega⟩, ⟨by omega, by omega⟩, fun S2 e2 => ⟨⟨h0, h1⟩, ⟨h0, h1⟩, fun S3 e3 => ?_⟩⟩
  have e6 : S3 = vs_st (vs_st M 3 (M 8 (3 * b + i)) (-1)) 10 b (M 10 b - 1) := by subst e2; subst e3; rfl
  have e7 : S3 10 b = M 10 b - 1 := by
    rw [e6]
    show (if b = b then M 10 b - 1 else _) = _
    rw [if_pos rfl]
  unfold vz_takes at k
  rw [← e6] at k
  refine ⟨fun j S' => i ≤ j ∧ j ≤ M 10 b - 1 ∧ S' = vz_sh S3 8 (3 * b) i j, fun j _ => (M 10 b - j).toNat, ⟨by omega, by omega, (vz_sh0 S3 8 (3 * b) i i (by omega)).symm⟩, ?_⟩
  rintro j S' ⟨j0, j1, e9⟩
  unfold lX3_takes_26
  have e10 : S' 10 b = M 10 b - 1 := by rw [e9]; exact e7
  rw [e10]
  refine ⟨⟨h0, h1⟩, ⟨by omega, by omega⟩, ⟨by omega, by omega⟩, fun h => ?_, fun h => ⟨⟨h0, h1⟩, ⟨h0, h1⟩, ⟨by omega, by omega⟩, ⟨by omega, by omega⟩, fun S7 e11 => ⟨⟨by omega, by omega, ?_⟩, by first | omega | (dsimp only; omega)⟩⟩⟩
  · have : j = M 10 b - 1 := by omega
    rw [this] at e9
    rw [← e9] at k
    exact k
  · rw [e11, e9, show 3 * b + (j + 1) = 3 * b + j + 1 by omega]; exact vz_sh_step S3 8 (3 * b) i j j0
end VZ5
