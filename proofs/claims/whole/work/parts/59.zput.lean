/-! pure part: a value is put: both sides -/
section VZ9
variable {M S : vs_St}
/-- M, with some copies of the block b taken away -/
def vz_sp (M : vs_St) (b : Int) (M' : vs_St) : Prop :=
  (∀ c : Nat, c ≠ 3 → c ≠ 5 → c ≠ 8 → c ≠ 10 → c ≠ 4 → c ≠ 6 → c ≠ 9 → c ≠ 11 → M' c = M c) ∧ (∀ s : Int, 0 ≤ s → s < 256 → M' 5 s = M 5 s) ∧ (∀ b' : Int, 0 ≤ b' → b' < 400 → b' ≠ b → M' 10 b' = M 10 b' ∧ ∀ k : Int, 0 ≤ k → k < 3 → M' 8 (3 * b' + k) = M 8 (3 * b' + k)) ∧ (∀ s : Int, 0 ≤ s → s < 32 * M 7 0 → M' 3 s = M 3 s ∨ (M 3 s = b ∧ M' 3 s = -1))
theorem vz_sp.refl (M : vs_St) (b : Int) : vz_sp M b M := ⟨fun _ _ _ _ _ _ _ _ _ => rfl, fun _ _ _ => rfl, fun _ _ _ _ => ⟨rfl, fun _ _ _ => rfl⟩, fun _ _ _ => Or.inl rfl⟩
theorem vz_sp.takes {M' : vs_St} {b i : Int} (h : vz_sp M b M') (I : vI M') (h0 : 0 ≤ b) (h1 : b < 400) (i0 : 0 ≤ i) (i1 : i < M' 10 b) : vz_sp M b (vz_takes M' b i) := by
  have hc := I.cp b i h0 h1 i0 i1
  have e7 := h.1 7 (by decide) (by decide) (by decide) (by decide) (by decide) (by decide) (by decide) (by decide)
  rw [e7] at hc
  refine ⟨fun c h3 h5 h8 h10 h4 h6 h9 h11 => ?_, h.2.1, fun b' a0 a1 ne => ⟨?_, fun k k0 k1 => ?_⟩, fun s s0 s1 => ?_⟩
  · rw [vz_fr_takes M' b i c h3 h5 h8 h10]; exact h.1 c h3 h5 h8 h10 h4 h6 h9 h11
  · rw [vz_t10, if_neg ne]; exact (h.2.2.1 b' a0 a1 ne).1
  · rw [vz_t8o I h0 h1 i0 ne k0 k1]; exact (h.2.2.1 b' a0 a1 ne).2 k k0 k1
  · rw [vz_t3]
    by_cases e : s = M' 8 (3 * b + i)
    · rw [if_pos e]
      right
      refine ⟨?_, rfl⟩
      rcases h.2.2.2 s s0 s1 with z | z
      · rw [← z, e]; exact hc.2.2.2.1
      · exact z.1
    · rw [if_neg e]; exact h.2.2.2 s s0 s1
/-- all copies of b gone: that is one state, in all that counts -/
theorem vz_sp.ag {M1 M2 : vs_St} {b : Int} (h1 : vz_sp M b M1) (h2 : vz_sp M b M2) (I1 : vI M1) (I2 : vI M2) (z1 : M1 10 b = 0) (z2 : M2 10 b = 0) : vz_ag M1 M2 := by
  have e7 := h1.1 7 (by decide) (by decide) (by decide) (by decide) (by decide) (by decide) (by decide) (by decide)
  have e7' := h2.1 7 (by decide) (by decide) (by decide) (by decide) (by decide) (by decide) (by decide) (by decide)
  have gone : ∀ {M' : vs_St}, vz_sp M b M' → vI M' → M' 10 b = 0 → ∀ s : Int, 0 ≤ s → s < 32 * M 7 0 → M' 3 s = if M 3 s = b then -1 else M 3 s := by
    intro M' h I z s s0 s1
    have e := h.1 7 (by decide) (by decide) (by decide) (by decide) (by decide) (by decide) (by decide) (by decide)
    by_cases q : M 3 s = b
    · rw [if_pos q]
      rcases h.2.2.2 s s0 s1 with w | w
      · rcases I.hd s s0 (by rw [e]; exact s1) with y | ⟨y0, y1, k, k0, k1, k2⟩
        · exact y
        · rw [w, q, z] at k1; omega
      · exact w.2
    · rw [if_neg q]
      rcases h.2.2.2 s s0 s1 with w | w
      · exact w
      · exact absurd w.1 q
  refine ⟨fun c h3 h5 h8 h10 h4 h6 h9 h11 => ?_, fun s s0 s1 => ?_, fun s s0 s1 => ?_, fun b' a0 a1 => ?_, fun b' k a0 a1 k0 k1 => ?_⟩
  · rw [h1.1 c h3 h5 h8 h10 h4 h6 h9 h11, h2.1 c h3 h5 h8 h10 h4 h6 h9 h11]
  · rw [e7] at s1
    rw [gone h1 I1 z1 s s0 s1, gone h2 I2 z2 s s0 s1]
  · rw [h1.2.1 s s0 s1, h2.2.1 s s0 s1]
  · by_cases e : b' = b
    · subst e; rw [z1, z2]
    · rw [(h1.2.2.1 b' a0 a1 e).1, (h2.2.2.1 b' a0 a1 e).1]
  · by_cases e : b' = b
    · subst e; rw [z1] at k1; omega
    · have hm := I1.mn b' a0 a1
      rw [(h1.2.2.1 b' a0 a1 e).2 k k0 (by omega), (h2.2.2.1 b' a0 a1 e).2 k k0 (by omega)]
theorem p_removeCopies (I : vI M) (r : vS M S) {b : Int} (h0 : 0 ≤ b) (h1 : b < 400) {post : vs_St → Prop} (k : ∀ S', (∀ M2, vI M2 → vz_sp M b M2 → M2 10 b = 0 → vS M2 S') → post S') : wX1_removeCopies S b post := by
  unfold wX1_removeCopies
  have hn := I.mn b h0 h1
  refine ⟨⟨h0, h1⟩, fun v1 hv => ?_⟩
  rw [r.mn b h0 h1] at hv
  subst hv
  refine ⟨fun x S' => -1 ≤ x ∧ x ≤ 2 ∧ ∃ M', vI M' ∧ vS M' S' ∧ M' 10 b = x + 1 ∧ vz_sp M b M', fun x _ => (x + 1).toNat, ⟨by omega, by omega, M, I, r, by omega, vz_sp.refl M b⟩, ?_⟩
  rintro x S' ⟨x0, x1, M', I', r', e, h⟩
  unfold lX1_removeCopies_9
  refine ⟨⟨by omega, by omega⟩, fun q => ?_, fun q => p_removeCopy I' r' h0 h1 q (by omega) (fun S2 h2 => ⟨⟨by omega, by omega, vz_takes M' b x, vI_takes I' h0 h1 q (by omega), h2, ?_, h.takes I' h0 h1 q (by omega)⟩, by first | omega | (dsimp only; omega)⟩)⟩
  · exact k S' (fun M2 I2 s2 z2 => vS_ag I' (h.ag s2 I' I2 (by omega) z2) r')
  · rw [vz_t10, if_pos rfl]; omega
def vz_strip (b : Int) (M : vs_St) (n : Nat) : vs_St := vz_it (fun _ x => vz_takes x b 0) n M
theorem vz_strip_s (b : Int) (M : vs_St) (n : Nat) : vz_strip b M (n + 1) = vz_takes (vz_strip b M n) b 0 := rfl
theorem vz_strip_ok (I : vI M) {b : Int} (h0 : 0 ≤ b) (h1 : b < 400) : ∀ n : Nat, (n : Int) ≤ M 10 b → vI (vz_strip b M n) ∧ vz_sp M b (vz_strip b M n) ∧ vz_fr M (vz_strip b M n) ∧ vz_strip b M n 10 b = M 10 b - n ∧ vz_strip b M n 5 = M 5
  | 0, _ => ⟨I, vz_sp.refl M b, vz_fr.refl M, by show M 10 b = M 10 b - ((0 : Nat) : Int); omega, rfl⟩
  | n + 1, hn => by
    obtain ⟨a, s, f, c, e⟩ := vz_strip_ok I h0 h1 n (by omega)
    rw [vz_strip_s]
    exact ⟨vI_takes a h0 h1 (by omega) (by omega), s.takes a h0 h1 (by omega) (by omega), f.trans (vz_fr_takes _ _ _), by rw [vz_t10, if_pos rfl]; omega, e⟩
/-- the places for a block that has no copy -/
noncomputable def vz_cand (M : vs_St) (b : Int) : Int := vz_cnt (fun d => vz_open M b d) (M 7 0).toNat
theorem vz_cand_place (I : vI M) {b : Int} : 0 ≤ vz_place M b ↔ 0 < vz_cand M b := by
  have hd := I.dk
  have hn := vz_place_none I (b := b)
  have hb := vz_cnt_bd (fun d => vz_open M b d) (M 7 0).toNat
  unfold vz_cand
  constructor
  · intro h
    rcases Classical.em (vz_cnt (fun d => vz_open M b d) (M 7 0).toNat = 0) with q | q
    · have : vz_place M b < 0 := hn.mpr (fun d d0 d1 o => by
        have := vz_cnt_1 (p := fun d => vz_open M b d) (n := (M 7 0).toNat) d0 (by omega) o
        omega)
      omega
    · omega
  · intro h
    obtain ⟨d, d0, d1, o⟩ := vz_cnt_pos (p := fun d => vz_open M b d) (n := (M 7 0).toNat) (by omega)
    rcases Int.lt_or_le (vz_place M b) 0 with q | q
    · exact absurd o (hn.mp q d d0 (by omega))
    · exact q
theorem vz_cand_puts (I : vI M) {b s : Int} (h0 : 0 ≤ b) (h1 : b < 400) (c : vz_can M b s) (o : vz_open M b (s / 32)) : vz_cand (vz_puts M b s) b = vz_cand M b - 1 := by
  have hc := c
  obtain ⟨⟨⟨c0, c1, c2⟩, c3, c4, c5⟩, c6⟩ := c
  have hn := I.mn b h0 h1
  unfold vz_cand
  rw [vz_p7]
  refine vz_cnt_dn (j := s / 32) (by omega) (by omega) o ?_ (fun d d0 d1 ne => ?_)
  · rintro ⟨_, _, z⟩
    refine z ⟨M 10 b, hn.1, ?_, ?_⟩
    · rw [vz_p10, if_pos rfl]; omega
    · rw [vz_p8, if_pos rfl]
  · unfold vz_open
    rw [vz_p2, vz_p1, vz_used_puts I h0 hc d0 (by omega), if_neg ne, Int.add_zero]
    have hh : vz_has (vz_puts M b s) d b ↔ vz_has M d b := by
      constructor
      · rintro ⟨k, k0, k1, k2⟩
        rw [vz_p10, if_pos rfl] at k1
        rw [vz_p8] at k2
        by_cases e : 3 * b + k = 3 * b + M 10 b
        · rw [if_pos e] at k2; exact absurd k2.symm ne
        · rw [if_neg e] at k2; exact ⟨k, k0, by omega, k2⟩
      · rintro ⟨k, k0, k1, k2⟩
        refine ⟨k, k0, ?_, ?_⟩
        · rw [vz_p10, if_pos rfl]; omega
        · rw [vz_p8, if_neg (by omega)]; exact k2
    rw [hh]
/-- how many places are found -/
theorem vz_comp_cnt (I : vI M) (O : vO M) {b : Int} (h0 : 0 ≤ b) (h1 : b < 400) (z : M 10 b = 0) : ∀ k : Nat, (vz_comp b (M 16 (b / 100)) 0 M k).1 + vz_cand (vz_comp b (M 16 (b / 100)) 0 M k).2 b = vz_cand M b ∧ ((vz_comp b (M 16 (b / 100)) 0 M k).1 = k ∨ (vz_comp b (M 16 (b / 100)) 0 M k).1 = M 16 (b / 100) ∨ vz_cand (vz_comp b (M 16 (b / 100)) 0 M k).2 b = 0) ∧ vz_good (vz_comp b (M 16 (b / 100)) 0 M k).2 b = (vz_comp b (M 16 (b / 100)) 0 M k).1
  | 0 => by
    refine ⟨?_, Or.inl rfl, ?_⟩
    · show 0 + vz_cand M b = _; omega
    · show vz_good M b = 0
      unfold vz_good
      rw [z]; rfl
  | k + 1 => by
    obtain ⟨e, d, g⟩ := vz_comp_cnt I O h0 h1 z k
    obtain ⟨a, f, n0, n1, n2, m, _⟩ := vz_comp_ok I O h0 h1 (M 16 (b / 100)) 0 k
    have e16 := f 16 (by decide) (by decide) (by decide) (by decide)
    have hw := O.wn (b / 100) (by omega) (by omega)
    have hp := vz_cand_place a (b := b)
    have hb := vz_cnt_bd (fun d => vz_open (vz_comp b (M 16 (b / 100)) 0 M k).2 b d) ((vz_comp b (M 16 (b / 100)) 0 M k).2 7 0).toNat
    have hb : 0 ≤ vz_cand (vz_comp b (M 16 (b / 100)) 0 M k).2 b := hb.1
    rw [vz_comp_s]
    unfold vz_cstep
    by_cases q : (vz_comp b (M 16 (b / 100)) 0 M k).1 < M 16 (b / 100) ∧ (vz_comp b (M 16 (b / 100)) 0 M k).2 10 b < (vz_comp b (M 16 (b / 100)) 0 M k).2 16 (b / 100) ∧ 0 ≤ vz_place (vz_comp b (M 16 (b / 100)) 0 M k).2 b
    · rw [if_pos q]
      have hs := vz_place_spec a (b := b)
      have hs : vz_can (vz_comp b (M 16 (b / 100)) 0 M k).2 b (vz_place (vz_comp b (M 16 (b / 100)) 0 M k).2 b) ∧ vz_open (vz_comp b (M 16 (b / 100)) 0 M k).2 b (vz_place (vz_comp b (M 16 (b / 100)) 0 M k).2 b / 32) := by
        rcases hs with y | y
        · omega
        · exact ⟨⟨y.2.1, by omega⟩, y.2.2⟩
      refine ⟨?_, ?_, ?_⟩
      · show (vz_comp b (M 16 (b / 100)) 0 M k).1 + 1 + vz_cand (vz_puts _ _ _) b = _
        rw [vz_cand_puts a h0 h1 hs.1 hs.2]; omega
      · left
        show (vz_comp b (M 16 (b / 100)) 0 M k).1 + 1 = ((k + 1 : Nat) : Int)
        have := hp.mp q.2.2
        omega
      · show vz_good (vz_puts _ _ _) b = (vz_comp b (M 16 (b / 100)) 0 M k).1 + 1
        rw [vz_good_puts a h0 h1 hs.1 h0 h1, if_pos rfl, g]
    · rw [if_neg q]
      refine ⟨e, ?_, g⟩
      right
      rcases Int.lt_or_le (vz_comp b (M 16 (b / 100)) 0 M k).1 (M 16 (b / 100)) with y | y
      · right
        have : ¬ 0 ≤ vz_place (vz_comp b (M 16 (b / 100)) 0 M k).2 b := fun w => q ⟨y, by rw [e16]; omega, w⟩
        have := mt hp.mpr this
        omega
      · left; omega
theorem vz_comp_done (I : vI M) (O : vO M) {b : Int} (h0 : 0 ≤ b) (h1 : b < 400) (z : M 10 b = 0) : (vz_comp b (M 16 (b / 100)) 0 M 3).1 = M 16 (b / 100) ↔ M 16 (b / 100) ≤ vz_cand M b := by
  obtain ⟨e, d, _⟩ := vz_comp_cnt I O h0 h1 z 3
  obtain ⟨a, f, n0, n1, n2, m, _⟩ := vz_comp_ok I O h0 h1 (M 16 (b / 100)) 0 3
  have hw := O.wn (b / 100) (by omega) (by omega)
  have hb : 0 ≤ vz_cand (vz_comp b (M 16 (b / 100)) 0 M 3).2 b := (vz_cnt_bd _ _).1
  constructor
  · intro q; omega
  · intro q
    rcases d with d | d | d <;> omega
/-- the places of M without the block's copies, counted in M -/
theorem vz_cand_sp {M2 : vs_St} (I : vI M) {b : Int} (h0 : 0 ≤ b) (h1 : b < 400) (h : vz_sp M b M2) (I2 : vI M2) (z : M2 10 b = 0) : vz_cand M2 b = vz_cnt (fun d => M 2 d = 115 ∧ (vz_used M d ≠ M 1 d ∨ vz_has M d b)) (M 7 0).toNat := by
  have hd := I.dk
  have e7 := h.1 7 (by decide) (by decide) (by decide) (by decide) (by decide) (by decide) (by decide) (by decide)
  have e1 := h.1 1 (by decide) (by decide) (by decide) (by decide) (by decide) (by decide) (by decide) (by decide)
  have e2 := h.1 2 (by decide) (by decide) (by decide) (by decide) (by decide) (by decide) (by decide) (by decide)
  unfold vz_cand
  rw [e7]
  refine vz_cnt_ext (fun d d0 d1 => ?_)
  have hs := I.sz d d0 (by omega)
  have nh : ¬ vz_has M2 d b := by
    rintro ⟨k, k0, k1, _⟩
    rw [z] at k1; omega
  unfold vz_open
  rw [e1, e2]
  rcases Classical.em (vz_has M d b) with q | q
  · refine ⟨fun y => ⟨y.1, Or.inr q⟩, fun y => ⟨y.1, ?_, nh⟩⟩
    obtain ⟨k, k0, k1, k2⟩ := q
    have hc := I.cp b k h0 h1 k0 k1
    have hlt : vz_used M2 d < ((M 1 d).toNat : Int) := by
      unfold vz_used
      rw [e1]
      refine vz_cnt_le (j := M 8 (3 * b + k) % 32) (by omega) (by rw [k2] at hc; omega) ?_
      rw [show 32 * d + M 8 (3 * b + k) % 32 = M 8 (3 * b + k) by omega]
      rcases I2.hd (M 8 (3 * b + k)) hc.1 (by rw [e7]; exact hc.2.1) with w | ⟨w0, w1, j, j0, j1, _⟩
      · omega
      · rcases h.2.2.2 _ hc.1 hc.2.1 with y | y
        · rw [y, hc.2.2.2.1, z] at j1; omega
        · omega
    omega
  · have eu : vz_used M2 d = vz_used M d := by
      unfold vz_used
      rw [e1]
      refine vz_cnt_ext (fun j j0 j1 => ?_)
      rcases h.2.2.2 (32 * d + j) (by omega) (by omega) with y | y
      · rw [y]
      · exfalso
        rcases I.hd (32 * d + j) (by omega) (by omega) with w | ⟨w0, w1, k, k0, k1, k2⟩
        · omega
        · rw [y.1] at k1 k2
          exact q ⟨k, k0, k1, by omega⟩
    rw [eu]
    exact ⟨fun y => ⟨y.1, Or.inl y.2.1⟩, fun y => ⟨y.1, y.2.elim id (fun w => absurd w q), nh⟩⟩
theorem vz_comp_oth {b lim n : Int} (M : vs_St) {b' : Int} (ne : b' ≠ b) : ∀ k : Nat, (vz_comp b lim n M k).2 10 b' = M 10 b'
  | 0 => rfl
  | k + 1 => by
    rw [vz_comp_s]
    unfold vz_cstep
    split
    · show vz_puts _ _ _ 10 b' = _
      rw [vz_p10, if_neg ne]; exact vz_comp_oth M ne k
    · exact vz_comp_oth M ne k
-- good again
def vz_ren (M : vs_St) (b : Int) (n : Nat) : vs_St := vz_it (fun k x => vs_st x 5 (x 8 (3 * b + (k : Int))) 0) n M
theorem vz_ren_s (M : vs_St) (b : Int) {k : Int} (h : 0 ≤ k) : vz_ren M b (k + 1).toNat = vs_st (vz_ren M b k.toNat) 5 (M 8 (3 * b + k)) 0 := by
  have e : ∀ n : Nat, vz_ren M b n 8 = M 8 := by
    intro n
    induction n with
    | zero => rfl
    | succ n ih => exact ih
  rw [show (k + 1).toNat = k.toNat + 1 by omega]
  show vs_st (vz_ren M b k.toNat) 5 (vz_ren M b k.toNat 8 (3 * b + (k.toNat : Int))) 0 = _
  rw [e, Int.toNat_of_nonneg h]
theorem vz_ren_ne (M : vs_St) (b : Int) {c : Nat} (h : c ≠ 5) : ∀ n : Nat, vz_ren M b n c = M c
  | 0 => rfl
  | n + 1 => by
    show vs_st (vz_ren M b n) 5 _ 0 c = M c
    rw [vs_st_ne _ h]; exact vz_ren_ne M b h n
theorem vI_rt0 (I : vI M) {s : Int} : vI (vs_st M 5 s 0) := by
  refine ⟨I.dk, I.sz, I.stt, I.mn, I.cp, I.ds, I.hd, fun s' a0 a1 => ?_, I.sm⟩
  show (if s' = s then 0 else M 5 s') = 0 ∨ (if s' = s then 0 else M 5 s') = 1
  split
  · exact Or.inl rfl
  · exact I.rt s' a0 a1
theorem vS_rt0 (I : vI M) (r : vS M S) {s : Int} : vS (vs_st M 5 s 0) (vs_st S 5 s 0) := by
  refine ⟨r.dk, r.sz, r.us, r.us0, r.stt, r.st0, r.hd, r.hd0, fun i i0 i1 => ?_, fun i i0 i1 => ?_, r.wn, r.vl, r.mn, r.cp, r.wr, r.od⟩
  · show (if i = s then 0 else S 5 i) = if M 3 i < 0 then 0 else (if i = s then 0 else M 5 i)
    by_cases e : i = s
    · rw [if_pos e, if_pos e]; split <;> rfl
    · rw [if_neg e, if_neg e]; exact r.rt i i0 i1
  · show (if i = s then 0 else S 5 i) = 0
    split
    · rfl
    · exact r.rt0 i i0 i1
theorem vI_ren (I : vI M) (b : Int) : ∀ n : Nat, vI (vz_ren M b n)
  | 0 => I
  | n + 1 => vI_rt0 (vI_ren I b n)
theorem p_renewCopies (I : vI M) (r : vS M S) {b : Int} (h0 : 0 ≤ b) (h1 : b < 400) {post : vs_St → Prop} (k : ∀ S', vS (vz_ren M b (M 10 b).toNat) S' → post S') : wX1_renewCopies S b post := by
  unfold wX1_renewCopies
  have hn := I.mn b h0 h1
  refine ⟨fun i S' => 0 ≤ i ∧ i ≤ M 10 b ∧ vS (vz_ren M b i.toNat) S', fun i _ => (4 - i).toNat, ⟨by omega, by omega, r⟩, ?_⟩
  rintro i S' ⟨i0, i1, hr⟩
  have a := vI_ren I b i.toNat
  have e8 := vz_ren_ne M b (by decide : (8 : Nat) ≠ 5) i.toNat
  have e10 := vz_ren_ne M b (by decide : (10 : Nat) ≠ 5) i.toNat
  unfold lX1_renewCopies_2
  rw [hr.mn b h0 h1, e10]
  refine ⟨⟨h0, h1⟩, ⟨by omega, by omega⟩, ⟨by omega, by omega⟩, fun h => ?_, fun h => p_addressOf a hr h0 h1 i0 (by rw [e10]; exact h) ?_⟩
  · have e : i = M 10 b := by omega
    rw [e] at hr
    exact k S' hr
  · have hc := I.cp b i h0 h1 i0 h
    have hd := I.dk
    rw [e8]
    refine ⟨⟨by omega, by omega⟩, fun S2 e2 => ⟨⟨by omega, by omega, ?_⟩, by first | omega | (dsimp only; omega)⟩⟩
    rw [e2, vz_ren_s M b i0]
    exact vS_rt0 a hr
theorem q_ren (I : vI M) {b v : Int} (h0 : 0 ≤ b) (h1 : b < 400) {post : Int → vs_St → Prop} (k : post 1 (vs_st (vz_ren M b (M 10 b).toNat) 12 b v)) :
    ∃ (J29 : Int → vs_St → Prop) (μ29 : Int → vs_St → Nat), J29 0 M ∧ ∀ (y29_0 : Int) (y29_1 : vs_St), J29 y29_0 y29_1 → lX3_writes_29 b v (fun z29_0 z29_1 => J29 z29_0 z29_1 ∧ μ29 z29_0 z29_1 < μ29 y29_0 y29_1) post y29_0 y29_1 := by
  have hn := I.mn b h0 h1
  refine ⟨fun i S' => 0 ≤ i ∧ i ≤ M 10 b ∧ S' = vz_ren M b i.toNat, fun i _ => (4 - i).toNat, ⟨by omega, by omega, rfl⟩, ?_⟩
  rintro i S' ⟨i0, i1, rfl⟩
  have e8 := vz_ren_ne M b (by decide : (8 : Nat) ≠ 5) i.toNat
  have e10 := vz_ren_ne M b (by decide : (10 : Nat) ≠ 5) i.toNat
  unfold lX3_writes_29
  rw [e10, e8]
  refine ⟨⟨h0, h1⟩, ⟨by omega, by omega⟩, ⟨by omega, by omega⟩, fun h => ⟨⟨h0, h1⟩, fun S3 e3 => ?_⟩, fun h => ?_⟩
  · have e : i = M 10 b := by omega
    rw [e3, e]; exact k
  · have hc := I.cp b i h0 h1 i0 h
    have hd := I.dk
    refine ⟨⟨h0, h1⟩, ⟨by omega, by omega⟩, ⟨by omega, by omega⟩, fun S5 e5 => ⟨⟨by omega, by omega, ?_⟩, by first | omega | (dsimp only; omega)⟩⟩
    rw [e5, vz_ren_s M b i0]
end VZ9
