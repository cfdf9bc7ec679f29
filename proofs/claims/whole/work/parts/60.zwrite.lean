/-! pure part: writing a value: both sides -/
section VZA
variable {M S : vs_St}
noncomputable def vz_nw (M : vs_St) (b : Int) : Int × vs_St := vz_comp b (M 16 (b / 100)) 0 (vz_strip b (vz_keeps M) (M 10 b).toNat) 3
def vz_od (M : vs_St) (b : Int) : vs_St := if M 14 b = 0 then vs_st (vs_st (vs_st M 13 (M 15 0) b) 15 0 (M 15 0 + 1)) 14 b 1 else vs_st M 14 b 1
noncomputable def vz_wr (M : vs_St) (b v : Int) : Int × vs_St :=
  if vz_good M b ≠ 0 then (1, vs_st (vz_ren M b (M 10 b).toNat) 12 b v)
  else if (vz_nw M b).1 = M 16 (b / 100) then (1, vs_st (vz_ren (vz_od (vz_nw M b).2 b) b ((vz_od (vz_nw M b).2 b) 10 b).toNat) 12 b v)
  else (0, vz_lay (vz_nw M b).2)
theorem vz_room (O : vO M) {b : Int} (h0 : 0 ≤ b) (h1 : b < 400) (h : M 14 b = 0) : M 15 0 < 400 := by
  have hw := O.wr
  have := vz_cnt_le (p := fun b => M 14 b ≠ 0) (n := 400) h0 h1 (fun q => q h)
  omega
/-- what is known of the state after the new copies -/
theorem vz_nw_ok (I : vI M) (O : vO M) {b : Int} (h0 : 0 ≤ b) (h1 : b < 400) : vI (vz_strip b (vz_keeps M) (M 10 b).toNat) ∧ vO (vz_strip b (vz_keeps M) (M 10 b).toNat) ∧ vz_sp M b (vz_strip b (vz_keeps M) (M 10 b).toNat) ∧ (vz_strip b (vz_keeps M) (M 10 b).toNat) 10 b = 0 ∧ vz_fr (vz_keeps M) (vz_strip b (vz_keeps M) (M 10 b).toNat) ∧ (vz_strip b (vz_keeps M) (M 10 b).toNat) 16 = M 16 := by
  have hn := I.mn b h0 h1
  have ag := vz_ag_keeps M
  have IK := vI_ag I ag
  have ek : vz_keeps M 10 b = M 10 b := rfl
  obtain ⟨a, s, f, c, e⟩ := vz_strip_ok IK h0 h1 (M 10 b).toNat (by rw [ek]; omega)
  refine ⟨a, vO_fr f (vO_ag ag O), ⟨fun c h3 h5 h8 h10 h4 h6 h9 h11 => ?_, fun s' s0 s1 => ?_, fun b' a0 a1 ne => ⟨?_, fun k k0 k1 => ?_⟩, fun s' s0 s1 => ?_⟩, by rw [c, ek]; omega, f, ?_⟩
  · rw [s.1 c h3 h5 h8 h10 h4 h6 h9 h11]; exact ag.1 c h3 h5 h8 h10 h4 h6 h9 h11
  · rw [s.2.1 s' s0 s1]; rfl
  · rw [(s.2.2.1 b' a0 a1 ne).1]; rfl
  · rw [(s.2.2.1 b' a0 a1 ne).2 k k0 k1]; rfl
  · exact s.2.2.2 s' s0 s1
  · rw [f 16 (by decide) (by decide) (by decide) (by decide)]
    exact ag.1 16 (by decide) (by decide) (by decide) (by decide) (by decide) (by decide) (by decide) (by decide)
theorem q_putsAnew (I : vI M) (O : vO M) {b : Int} (h0 : 0 ≤ b) (h1 : b < 400) {post : Int → vs_St → Prop} (k1 : (vz_nw M b).1 = M 16 (b / 100) → post 1 (vz_od (vz_nw M b).2 b)) (k0 : (vz_nw M b).1 ≠ M 16 (b / 100) → post 0 (vz_lay (vz_nw M b).2)) : wX3_putsAnew M b post := by
  unfold wX3_putsAnew
  have hn := I.mn b h0 h1
  have IK := vI_ag I (vz_ag_keeps M)
  have ek : vz_keeps M 10 b = M 10 b := rfl
  obtain ⟨a2, O2, s2, z2, f2, e16⟩ := vz_nw_ok I O h0 h1
  have hw := O.wn (b / 100) (by omega) (by omega)
  refine q_keepsAll I.rt ⟨fun S' => ∃ n : Nat, (n : Int) ≤ M 10 b ∧ S' = vz_strip b (vz_keeps M) n, fun S' => (S' 10 b).toNat, ⟨0, by omega, rfl⟩, ?_⟩
  rintro S' ⟨n, n1, rfl⟩
  obtain ⟨a, s, f, c, e⟩ := vz_strip_ok IK h0 h1 n (by rw [ek]; omega)
  rw [ek] at c
  unfold lX3_putsAnew_4
  refine ⟨⟨h0, h1⟩, ⟨by omega, by omega⟩, fun h => ?_, fun h => q_takes a h0 h1 (by omega) (by omega) ⟨⟨n + 1, by omega, rfl⟩, ?_⟩⟩
  · have en : n = (M 10 b).toNat := by omega
    subst en
    unfold vz_nw at k0 k1
    rw [← e16] at k0 k1
    have e14 : (vz_strip b (vz_keeps M) (M 10 b).toNat) 14 = M 14 := s2.1 14 (by decide) (by decide) (by decide) (by decide) (by decide) (by decide) (by decide) (by decide)
    have e15 : (vz_strip b (vz_keeps M) (M 10 b).toNat) 15 = M 15 := s2.1 15 (by decide) (by decide) (by decide) (by decide) (by decide) (by decide) (by decide) (by decide)
    have fl := vz_kept6 (X := vz_strip b (vz_keeps M) (M 10 b).toNat) I f2
    rw [← e16] at hw
    generalize vz_strip b (vz_keeps M) (M 10 b).toNat = M2 at *
    refine ⟨fun x S' => 0 ≤ x ∧ x ≤ 3 ∧ vz_comp b (M2 16 (b / 100)) 0 M2 x.toNat = (x, S'), fun x _ => (4 - x).toNat, ⟨by omega, by omega, rfl⟩, ?_⟩
    rintro x S' ⟨x0, x1, e⟩
    obtain ⟨a', f', n0, n1, n2, m, _⟩ := vz_comp_ok a2 O2 h0 h1 (M2 16 (b / 100)) 0 x.toNat
    rw [e] at a' f' n0 n1 n2 m
    have a' : vI S' := a'
    have f' : vz_fr M2 S' := f'
    have n2 : x ≤ 0 ∨ x ≤ M2 16 (b / 100) := n2
    have m : S' 10 b = M2 10 b + (x - 0) := m
    have g16 := f' 16 (by decide) (by decide) (by decide) (by decide)
    have g14 := f' 14 (by decide) (by decide) (by decide) (by decide)
    have g15 := f' 15 (by decide) (by decide) (by decide) (by decide)
    have stuck : ¬ (x < M2 16 (b / 100) ∧ S' 10 b < S' 16 (b / 100) ∧ 0 ≤ vz_place S' b) → vz_comp b (M2 16 (b / 100)) 0 M2 3 = (x, S') := by
      intro q
      rw [← e]
      exact vz_comp_end b (M2 16 (b / 100)) 0 M2 (by omega) (by rw [e]; unfold vz_cstep; exact if_neg q)
    unfold lX3_putsAnew_24
    rw [g16, g14, g15]
    refine ⟨⟨h0, by omega⟩, ⟨by omega, by omega⟩, ⟨by omega, by omega⟩, ⟨by omega, by omega⟩, fun q => ?_, fun q => q_place a' h0 h1 ?_⟩
    · have ec := stuck (fun w => by omega)
      rw [ec] at k1
      have k1 := k1 (by show x = _; omega)
      have k1 : post 1 (vz_od S' b) := k1
      unfold vz_od at k1
      rw [g14, g15] at k1
      have hwb := O2.wb b h0 h1
      refine ⟨⟨h0, h1⟩, ⟨by omega, by omega⟩, fun w => ⟨⟨h0, h1⟩, fun S2 e2 => ?_⟩, fun w => ⟨?_, fun S3 e3 S4 e4 => ⟨⟨h0, h1⟩, fun S5 e5 => ?_⟩⟩⟩
      · rw [if_neg w] at k1; rw [e2]; exact k1
      · have := vz_room O2 h0 h1 w
        have := O2.wr
        omega
      · rw [if_pos w] at k1
        subst e3; subst e4; subst e5
        have g15' : vs_st S' 13 (M2 15 0) b 15 0 = M2 15 0 := by show S' 15 0 = _; rw [g15]
        rw [g15']; exact k1
    · have hp := vz_place_spec a' (b := b)
      have hq : vs_R (vz_place S' b) := by
        rcases hp with z | z
        · rw [z]; exact ⟨by omega, by omega⟩
        · have := a'.dk; have := z.2.1.1; exact ⟨by omega, by omega⟩
      refine ⟨hq, fun w => ?_, fun w => q_laysBack (vz_kept6 I (fun c h3 h5 h8 h10 => (f' c h3 h5 h8 h10).trans (f2 c h3 h5 h8 h10))) ?_⟩
      · have hc : vz_can S' b (vz_place S' b) := by
          rcases hp with z | z
          · omega
          · exact ⟨z.2.1, by omega⟩
        refine q_puts a' h0 h1 hc ⟨⟨by omega, by omega, ?_⟩, by first | omega | (dsimp only; omega)⟩
        rw [show (x + 1).toNat = x.toNat + 1 by omega, vz_comp_s, e]
        unfold vz_cstep
        exact if_pos ⟨q, by show S' 10 b < S' 16 (b / 100); rw [g16]; omega, w⟩
      · have ec := stuck (fun y => by omega)
        rw [ec] at k0
        exact k0 (by show x ≠ _; omega)
  · show (vz_takes (vz_strip b (vz_keeps M) n) b 0 10 b).toNat < (vz_strip b (vz_keeps M) n 10 b).toNat
    rw [vz_t10, if_pos rfl]; omega
theorem q_writes (I : vI M) (O : vO M) (V : vM M) {b v : Int} (h0 : 0 ≤ b) (h1 : b < 400) {post : Int → vs_St → Prop} (k : post (vz_wr M b v).1 (vz_wr M b v).2) : wX3_writes M b v post := by
  unfold wX3_writes
  have hwb := O.wb b h0 h1
  have hn := I.mn b h0 h1
  have anew : vz_good M b = 0 → wX3_putsAnew M b (fun r1 S2 => (vs_R r1) ∧ (¬ r1 = 0 → ∃ (J29 : Int → vs_St → Prop) (μ29 : Int → vs_St → Nat), J29 0 S2 ∧ ∀ (y29_0 : Int) (y29_1 : vs_St), J29 y29_0 y29_1 → lX3_writes_29 b v (fun z29_0 z29_1 => J29 z29_0 z29_1 ∧ μ29 z29_0 z29_1 < μ29 y29_0 y29_1) post y29_0 y29_1) ∧ (r1 = 0 → post 0 S2)) := by
    intro q
    obtain ⟨a2, O2, s2, z2, f2, e16⟩ := vz_nw_ok I O h0 h1
    obtain ⟨a', f', n0, n1, n2, m, _⟩ := vz_comp_ok a2 O2 h0 h1 (M 16 (b / 100)) 0 3
    refine q_putsAnew I O h0 h1 (fun w => ⟨⟨by omega, by omega⟩, fun _ => ?_, fun z => absurd z (by omega)⟩) (fun w => ⟨⟨by omega, by omega⟩, fun z => absurd rfl z, fun _ => ?_⟩)
    · unfold vz_wr at k
      rw [if_neg (by omega), if_pos w] at k
      have ao : vI (vz_od (vz_nw M b).2 b) := by
        have a' : vI (vz_nw M b).2 := a'
        unfold vz_od
        split <;> exact a'
      exact q_ren ao h0 h1 k
    · unfold vz_wr at k
      rw [if_neg (by omega), if_neg w] at k
      exact k
  refine ⟨⟨h0, h1⟩, ⟨by omega, by omega⟩, fun q => anew ?_, fun q => q_lost I O h0 h1 ⟨vz_bR _, fun w => ?_, fun w => anew (vz_bp.mp w).2⟩⟩
  · have hz : M 10 b = 0 := by
      rcases Int.lt_or_le 0 (M 10 b) with z | z
      · exact absurd q (V b h0 h1 z)
      · omega
    unfold vz_good; rw [hz]; rfl
  · have hg : vz_good M b ≠ 0 := fun z => vz_bn.mp w ⟨q, z⟩
    unfold vz_wr at k
    rw [if_pos hg] at k
    exact q_ren I h0 h1 k
-- what the value is set in
theorem vS_val (r : vS M S) {b v : Int} (h : M 14 b ≠ 0) : vS (vs_st M 12 b v) (vs_st S 7 b v) := by
  refine ⟨r.dk, r.sz, r.us, r.us0, r.stt, r.st0, r.hd, r.hd0, r.rt, r.rt0, r.wn, fun b' a0 a1 => ?_, r.mn, r.cp, r.wr, r.od⟩
  show (if b' = b then v else S 7 b') = if M 14 b' = 0 then -1 else (if b' = b then v else M 12 b')
  by_cases e : b' = b
  · subst e; rw [if_pos rfl, if_pos rfl, if_neg h]
  · rw [if_neg e, if_neg e]; exact r.vl b' a0 a1
theorem vS_ord (O : vO M) (r : vS M S) {b v : Int} (h : M 14 b = 0) : vS (vs_st (vz_od M b) 12 b v) (vs_st (vs_st (vs_st S 11 (M 15 0) b) 10 0 (M 15 0 + 1)) 7 b v) := by
  unfold vz_od
  rw [if_pos h]
  refine ⟨r.dk, r.sz, r.us, r.us0, r.stt, r.st0, r.hd, r.hd0, r.rt, r.rt0, r.wn, fun b' a0 a1 => ?_, r.mn, r.cp, rfl, fun i i0 i1 => ?_⟩
  · show (if b' = b then v else S 7 b') = if (if b' = b then 1 else M 14 b') = 0 then -1 else (if b' = b then v else M 12 b')
    by_cases e : b' = b
    · subst e; rw [if_pos rfl, if_pos rfl, if_pos rfl, if_neg (by omega)]
    · rw [if_neg e, if_neg e, if_neg e]; exact r.vl b' a0 a1
  · show (if i = M 15 0 then b else S 11 i) = if i = M 15 0 then b else M 13 i
    have i1 : i < M 15 0 + 1 := i1
    by_cases e : i = M 15 0
    · rw [if_pos e, if_pos e]
    · rw [if_neg e, if_neg e]; exact r.od i i0 (by omega)
theorem vO_val (O : vO M) {b v : Int} (hv : 0 ≤ v ∧ v ≤ 9999) : vO (vs_st M 12 b v) := by
  refine ⟨O.wr, O.od, O.oi, O.on, O.wb, fun b' a0 a1 w => ?_, O.wn⟩
  show 0 ≤ (if b' = b then v else M 12 b') ∧ (if b' = b then v else M 12 b') ≤ 9999
  split
  · exact hv
  · exact O.vl b' a0 a1 w
theorem vO_ord (O : vO M) {b v : Int} (h0 : 0 ≤ b) (h1 : b < 400) (h : M 14 b = 0) (hv : 0 ≤ v ∧ v ≤ 9999) : vO (vs_st (vz_od M b) 12 b v) := by
  have hw := O.wr
  unfold vz_od
  rw [if_pos h]
  refine ⟨⟨?_, ?_⟩, fun i i0 i1 => ?_, fun i j i0 i1 i2 => ?_, fun b' a0 a1 w => ?_, fun b' a0 a1 => ?_, fun b' a0 a1 w => ?_, O.wn⟩
  · show 0 ≤ M 15 0 + 1; omega
  · show M 15 0 + 1 = vz_cnt (fun b' => (if b' = b then 1 else M 14 b') ≠ 0) 400
    rw [vz_cnt_up (p := fun b' => M 14 b' ≠ 0) (j := b) (n := 400) h0 h1 (fun q => q h) (by show (if b = b then (1 : Int) else M 14 b) ≠ 0; rw [if_pos rfl]; omega) (fun i i0 i1 ne => by show (if i = b then (1 : Int) else M 14 i) ≠ 0 ↔ _; rw [if_neg ne])]
    omega
  · have i1 : i < M 15 0 + 1 := i1
    show 0 ≤ (if i = M 15 0 then b else M 13 i) ∧ (if i = M 15 0 then b else M 13 i) < 400 ∧ (if (if i = M 15 0 then b else M 13 i) = b then (1 : Int) else M 14 (if i = M 15 0 then b else M 13 i)) ≠ 0
    by_cases e : i = M 15 0
    · rw [if_pos e, if_pos rfl]; exact ⟨h0, h1, by omega⟩
    · rw [if_neg e]
      have := O.od i i0 (by omega)
      refine ⟨this.1, this.2.1, ?_⟩
      split
      · omega
      · exact this.2.2
  · have i2 : j < M 15 0 + 1 := i2
    show (if i = M 15 0 then b else M 13 i) ≠ (if j = M 15 0 then b else M 13 j)
    rw [if_neg (by omega)]
    have := O.od i i0 (by omega)
    by_cases e : j = M 15 0
    · rw [if_pos e]; intro z; rw [z] at this; exact this.2.2 h
    · rw [if_neg e]; exact O.oi i j i0 i1 (by omega)
  · have w : (if b' = b then (1 : Int) else M 14 b') ≠ 0 := w
    show ∃ i : Int, 0 ≤ i ∧ i < M 15 0 + 1 ∧ (if i = M 15 0 then b else M 13 i) = b'
    by_cases e : b' = b
    · exact ⟨M 15 0, hw.1, by omega, by rw [if_pos rfl, e]⟩
    · rw [if_neg e] at w
      obtain ⟨i, i0, i1, i2⟩ := O.on b' a0 a1 w
      exact ⟨i, i0, by omega, by rw [if_neg (by omega)]; exact i2⟩
  · show (if b' = b then (1 : Int) else M 14 b') = 0 ∨ (if b' = b then (1 : Int) else M 14 b') = 1
    split
    · exact Or.inr rfl
    · exact O.wb b' a0 a1
  · have w : (if b' = b then (1 : Int) else M 14 b') ≠ 0 := w
    show 0 ≤ (if b' = b then v else M 12 b') ∧ (if b' = b then v else M 12 b') ≤ 9999
    by_cases e : b' = b
    · rw [if_pos e]; exact hv
    · rw [if_neg e] at w ⊢; exact O.vl b' a0 a1 w
theorem vO_eq {M' : vs_St} (O : vO M) (e12 : M' 12 = M 12) (e13 : M' 13 = M 13) (e14 : M' 14 = M 14) (e15 : M' 15 = M 15) (e16 : M' 16 = M 16) : vO M' := by
  unfold vO
  rw [e12, e13, e14, e15, e16]
  exact O
theorem vz_ren_id {b : Int} : ∀ {n : Nat}, (∀ k : Int, 0 ≤ k → k < n → M 5 (M 8 (3 * b + k)) = 0) → vz_ren M b n = M
  | 0, _ => rfl
  | n + 1, h => by
    show vs_st (vz_ren M b n) 5 (vz_ren M b n 8 (3 * b + (n : Int))) 0 = M
    rw [vz_ren_id (n := n) (fun k k0 k1 => h k k0 (by omega))]
    funext c
    by_cases e : c = 5
    · subst e
      rw [vs_st_same]
      funext i
      unfold vs_up
      by_cases q : i = M 8 (3 * b + (n : Int))
      · rw [if_pos q, q]; exact (h n (by omega) (by omega)).symm
      · rw [if_neg q]
    · exact vs_st_ne _ e _ _
theorem vz_all_good (I : vI M) {b : Int} (h0 : 0 ≤ b) (h1 : b < 400) (h : vz_good M b = M 10 b) : ∀ k : Int, 0 ≤ k → k < M 10 b → M 5 (M 8 (3 * b + k)) = 0 := by
  intro k k0 k1
  have hn := I.mn b h0 h1
  rcases Classical.em (M 5 (M 8 (3 * b + k)) = 0) with q | q
  · exact q
  · have := vz_cnt_le (p := fun k => M 5 (M 8 (3 * b + k)) = 0) (n := (M 10 b).toNat) k0 (by omega) q
    unfold vz_good at h
    omega
/-- what is known of the state after a write -/
def vz_keep (M M' : vs_St) : Prop := ∀ c : Nat, c ≠ 3 → c ≠ 5 → c ≠ 8 → c ≠ 10 → c ≠ 4 → c ≠ 6 → c ≠ 9 → c ≠ 11 → c ≠ 12 → c ≠ 13 → c ≠ 14 → c ≠ 15 → M' c = M c
theorem vz_nw_facts (I : vI M) (O : vO M) {b : Int} (h0 : 0 ≤ b) (h1 : b < 400) : vI (vz_nw M b).2 ∧ vO (vz_nw M b).2 ∧ (∀ c : Nat, c ≠ 3 → c ≠ 5 → c ≠ 8 → c ≠ 10 → (vz_nw M b).2 c = vz_keeps M c) ∧ (vz_nw M b).2 14 = M 14 ∧ (vz_nw M b).2 15 = M 15 ∧ (∀ b' : Int, 0 ≤ b' → b' < 400 → b' ≠ b → (vz_nw M b).2 10 b' = M 10 b') ∧ vz_good (vz_nw M b).2 b = (vz_nw M b).2 10 b ∧ 0 ≤ (vz_nw M b).1 ∧ (vz_nw M b).2 10 b = (vz_nw M b).1 := by
  obtain ⟨a2, O2, s2, z2, f2, e16⟩ := vz_nw_ok I O h0 h1
  obtain ⟨a', f', n0, n1, n2, m, _⟩ := vz_comp_ok a2 O2 h0 h1 (M 16 (b / 100)) 0 3
  have g := (vz_comp_cnt a2 O2 h0 h1 z2 3).2.2
  rw [e16] at g
  have f := f2.trans f'
  refine ⟨a', vO_fr f' O2, f, ?_, ?_, fun b' a0 a1 ne => ?_, ?_, n0, ?_⟩
  · unfold vz_nw; rw [f 14 (by decide) (by decide) (by decide) (by decide)]; rfl
  · unfold vz_nw; rw [f 15 (by decide) (by decide) (by decide) (by decide)]; rfl
  · unfold vz_nw; rw [vz_comp_oth _ ne]; exact (s2.2.2.1 b' a0 a1 ne).1
  · unfold vz_nw; rw [g, m, z2]; omega
  · unfold vz_nw; rw [m, z2]; omega
theorem vz_od_c (M : vs_St) (b : Int) {c : Nat} (h13 : c ≠ 13) (h14 : c ≠ 14) (h15 : c ≠ 15) : vz_od M b c = M c := by
  unfold vz_od
  split
  · rw [vs_st_ne _ h14, vs_st_ne _ h15, vs_st_ne _ h13]
  · rw [vs_st_ne _ h14]
theorem vI_eq {M' : vs_St} (I : vI M) (h : ∀ c : Nat, c = 1 ∨ c = 2 ∨ c = 3 ∨ c = 5 ∨ c = 7 ∨ c = 8 ∨ c = 10 → M' c = M c) : vI M' := by
  unfold vI vz_used
  rw [h 1 (by decide), h 2 (by decide), h 3 (by decide), h 5 (by decide), h 7 (by decide), h 8 (by decide), h 10 (by decide)]
  exact I
theorem vz_wr_ok (I : vI M) (O : vO M) (V : vM M) {b v : Int} (h0 : 0 ≤ b) (h1 : b < 400) (hv : 0 ≤ v ∧ v ≤ 9999) : vI (vz_wr M b v).2 ∧ vO (vz_wr M b v).2 ∧ vM (vz_wr M b v).2 ∧ vz_keep M (vz_wr M b v).2 ∧ ((vz_wr M b v).1 = 0 ∨ (vz_wr M b v).1 = 1) := by
  obtain ⟨a, o, f, e14, e15, oth, gg, _, _⟩ := vz_nw_facts I O h0 h1
  have hn := I.mn b h0 h1
  unfold vz_wr
  by_cases g : vz_good M b ≠ 0
  · rw [if_pos g]
    have e : ∀ c : Nat, c ≠ 5 → vz_ren M b (M 10 b).toNat c = M c := fun c h => vz_ren_ne M b h _
    refine ⟨vI_eq (vI_ren I b _) (fun c h => by rcases h with h | h | h | h | h | h | h <;> subst h <;> rfl), vO_val (vO_eq O (e 12 (by decide)) (e 13 (by decide)) (e 14 (by decide)) (e 15 (by decide)) (e 16 (by decide))) hv, fun b' a0 a1 k => ?_, fun c h3 h5 h8 h10 h4 h6 h9 h11 h12 h13 h14 h15 => ?_, Or.inr rfl⟩
    · have k : 0 < vz_ren M b (M 10 b).toNat 10 b' := k
      show vz_ren M b (M 10 b).toNat 14 b' ≠ 0
      rw [e 10 (by decide)] at k
      rw [e 14 (by decide)]
      exact V b' a0 a1 k
    · show vs_st _ 12 b v c = M c
      rw [vs_st_ne _ h12, e c h5]
  · rw [if_neg g]
    by_cases w : (vz_nw M b).1 = M 16 (b / 100)
    · rw [if_pos w]
      have eo : ∀ c : Nat, c ≠ 13 → c ≠ 14 → c ≠ 15 → vz_od (vz_nw M b).2 b c = (vz_nw M b).2 c := fun c p q r => vz_od_c _ _ p q r
      have ao : vI (vz_od (vz_nw M b).2 b) := vI_eq a (fun c h => by rcases h with h | h | h | h | h | h | h <;> subst h <;> exact eo _ (by decide) (by decide) (by decide))
      have id : vz_ren (vz_od (vz_nw M b).2 b) b (vz_od (vz_nw M b).2 b 10 b).toNat = vz_od (vz_nw M b).2 b := vz_ren_id (fun k k0 k1 => by
        have hm := ao.mn b h0 h1
        rw [eo 5 (by decide) (by decide) (by decide), eo 8 (by decide) (by decide) (by decide)]
        rw [eo 10 (by decide) (by decide) (by decide)] at k1 hm
        exact vz_all_good a h0 h1 gg k k0 (by omega))
      show vI (vs_st (vz_ren (vz_od (vz_nw M b).2 b) b (vz_od (vz_nw M b).2 b 10 b).toNat) 12 b v) ∧ vO (vs_st (vz_ren (vz_od (vz_nw M b).2 b) b (vz_od (vz_nw M b).2 b 10 b).toNat) 12 b v) ∧ vM (vs_st (vz_ren (vz_od (vz_nw M b).2 b) b (vz_od (vz_nw M b).2 b 10 b).toNat) 12 b v) ∧ vz_keep M (vs_st (vz_ren (vz_od (vz_nw M b).2 b) b (vz_od (vz_nw M b).2 b 10 b).toNat) 12 b v) ∧ ((1 : Int) = 0 ∨ (1 : Int) = 1)
      rw [id]
      refine ⟨vI_eq ao (fun c h => by rcases h with h | h | h | h | h | h | h <;> subst h <;> rfl), ?_, fun b' a0 a1 k => ?_, fun c h3 h5 h8 h10 h4 h6 h9 h11 h12 h13 h14 h15 => ?_, Or.inr rfl⟩
      · by_cases q : (vz_nw M b).2 14 b = 0
        · exact vO_ord o h0 h1 q hv
        · have e : vO (vz_od (vz_nw M b).2 b) := by
            have e14 : vz_od (vz_nw M b).2 b 14 = (vz_nw M b).2 14 := by
              unfold vz_od
              rw [if_neg q, vs_st_same]
              funext i
              unfold vs_up
              by_cases z : i = b
              · rw [if_pos z, z]
                rcases o.wb b h0 h1 with y | y
                · exact absurd y q
                · exact y.symm
              · rw [if_neg z]
            have e13 : vz_od (vz_nw M b).2 b 13 = (vz_nw M b).2 13 := by unfold vz_od; rw [if_neg q]; rfl
            have e15 : vz_od (vz_nw M b).2 b 15 = (vz_nw M b).2 15 := by unfold vz_od; rw [if_neg q]; rfl
            exact vO_eq o (eo 12 (by decide) (by decide) (by decide)) e13 e14 e15 (eo 16 (by decide) (by decide) (by decide))
          exact vO_val e hv
      · have k : 0 < vz_od (vz_nw M b).2 b 10 b' := k
        show vz_od (vz_nw M b).2 b 14 b' ≠ 0
        rw [eo 10 (by decide) (by decide) (by decide)] at k
        by_cases z : b' = b
        · subst z
          unfold vz_od
          split
          · show (if b' = b' then (1 : Int) else _) ≠ 0
            rw [if_pos rfl]; omega
          · show (if b' = b' then (1 : Int) else _) ≠ 0
            rw [if_pos rfl]; omega
        · rw [oth b' a0 a1 z] at k
          have := V b' a0 a1 k
          unfold vz_od
          split
          · show (if b' = b then (1 : Int) else (vz_nw M b).2 14 b') ≠ 0
            rw [if_neg z, e14]; exact this
          · show (if b' = b then (1 : Int) else (vz_nw M b).2 14 b') ≠ 0
            rw [if_neg z, e14]; exact this
      · show vs_st _ 12 b v c = M c
        rw [vs_st_ne _ h12, eo c h13 h14 h15, f c h3 h5 h8 h10]
        exact (vz_ag_keeps M).1 c h3 h5 h8 h10 h4 h6 h9 h11
    · rw [if_neg w]
      have ag := vz_ag_lay I f
      exact ⟨vI_ag I ag, vO_ag ag O, vM_ag ag V, fun c h3 h5 h8 h10 h4 h6 h9 h11 h12 h13 h14 h15 => ag.1 c h3 h5 h8 h10 h4 h6 h9 h11, Or.inl rfl⟩
theorem p_putValue (I : vI M) (O : vO M) (V : vM M) (r : vS M S) {b v : Int} (h0 : 0 ≤ b) (h1 : b < 400) {post : Int → vs_St → Prop} (k : ∀ S', vS (vz_wr M b v).2 S' → post (vz_wr M b v).1 S') : wX1_putValue S b v post := by
  obtain ⟨a, o, f, e14, e15, oth, gg, n0, nm⟩ := vz_nw_facts I O h0 h1
  obtain ⟨a2, O2, s2, z2, f2, e16⟩ := vz_nw_ok I O h0 h1
  have hn := I.mn b h0 h1
  have hw := O.wn (b / 100) (by omega) (by omega)
  have hcb := vz_cnt_bd (fun d => M 2 d = 115 ∧ (vz_used M d ≠ M 1 d ∨ vz_has M d b)) (M 7 0).toNat
  have hd := I.dk
  unfold wX1_putValue
  refine p_disksWithGood I r h0 h1 (fun m hm => ?_)
  have hr := hm.rg
  have hz := vz_hasG_z I h0 h1 hm
  refine ⟨⟨by omega, by omega⟩, fun q => p_countPlacesAnew I r h0 h1 (p_wantedOf O r h0 h1 ⟨⟨by omega, by omega⟩, ⟨by omega, by omega⟩, fun w => ?_, fun w => p_removeCopies I r h0 h1 (fun S4 h4 => ?_)⟩), fun q => p_renewCopies I r h0 h1 (fun S12 h12 => ?_)⟩
  · have hg : ¬ vz_good M b ≠ 0 := fun z => z (hz.mp q)
    have hdone := vz_comp_done a2 O2 h0 h1 z2
    rw [vz_cand_sp I h0 h1 s2 a2 z2, e16] at hdone
    have hne : ¬ (vz_nw M b).1 = M 16 (b / 100) := fun z => by have := hdone.mp z; omega
    unfold vz_wr at k
    rw [if_neg hg, if_neg hne] at k
    exact k S (vS_ag I (vz_ag_lay I f) r)
  · have hg : ¬ vz_good M b ≠ 0 := fun z => z (hz.mp q)
    have hdone := vz_comp_done a2 O2 h0 h1 z2
    rw [vz_cand_sp I h0 h1 s2 a2 z2, e16] at hdone
    have hne : (vz_nw M b).1 = M 16 (b / 100) := hdone.mpr w
    unfold vz_wr at k
    rw [if_neg hg, if_pos hne] at k
    have r4 := h4 _ a2 s2 z2
    refine p_wantedOf O2 r4 h0 h1 ?_
    rw [e16]
    refine p_completeBlock a2 O2 r4 h0 h1 ⟨by omega, by omega⟩ (fun S7 h7 => ?_)
    have h7 : vS (vz_nw M b).2 S7 := h7
    have hvl := vz_vl o h7 h0 h1
    have eo : ∀ c : Nat, c ≠ 13 → c ≠ 14 → c ≠ 15 → vz_od (vz_nw M b).2 b c = (vz_nw M b).2 c := fun c p q r => vz_od_c _ _ p q r
    have id : vz_ren (vz_od (vz_nw M b).2 b) b (vz_od (vz_nw M b).2 b 10 b).toNat = vz_od (vz_nw M b).2 b := vz_ren_id (fun k k0 k1 => by
      rw [eo 5 (by decide) (by decide) (by decide), eo 8 (by decide) (by decide) (by decide)]
      rw [eo 10 (by decide) (by decide) (by decide)] at k1
      exact vz_all_good a h0 h1 gg k k0 (by omega))
    have k : ∀ S' : vs_St, vS (vs_st (vz_ren (vz_od (vz_nw M b).2 b) b (vz_od (vz_nw M b).2 b 10 b).toNat) 12 b v) S' → post 1 S' := k
    rw [id] at k
    refine ⟨⟨h0, h1⟩, hvl.1, fun z => ⟨⟨h0, h1⟩, fun S8 e8 => ?_⟩, fun z => ?_⟩
    · rw [e8]
      have nz : (vz_nw M b).2 14 b ≠ 0 := fun y => z (hvl.2.mpr y)
      refine k _ ?_
      have e : vz_od (vz_nw M b).2 b = (vz_nw M b).2 := by
        unfold vz_od
        rw [if_neg nz]
        funext c
        by_cases e : c = 14
        · subst e
          rw [vs_st_same]
          funext i
          unfold vs_up
          by_cases z : i = b
          · rw [if_pos z, z]
            rcases o.wb b h0 h1 with y | y
            · exact absurd y nz
            · exact y.symm
          · rw [if_neg z]
        · exact vs_st_ne _ e _ _
      rw [e]
      exact vS_val h7 nz
    · have nz : (vz_nw M b).2 14 b = 0 := hvl.2.mp z
      have hroom := vz_room o h0 h1 nz
      have := o.wr
      rw [h7.wr]
      refine ⟨⟨by omega, by omega⟩, fun S9 e9 S10 e10 => ⟨⟨h0, h1⟩, fun S11 e11 => k _ ?_⟩⟩
      subst e9; subst e10; subst e11
      have e10 : vs_st S7 11 ((vz_nw M b).2 15 0) b 10 0 = (vz_nw M b).2 15 0 := h7.wr
      rw [e10]
      exact vS_ord o h7 nz
  · have hg : vz_good M b ≠ 0 := fun z => q (hz.mpr z)
    unfold vz_wr at k
    rw [if_pos hg] at k
    have hpos : 0 < M 10 b := by
      rcases Int.lt_or_le 0 (M 10 b) with z | z
      · exact z
      · exact absurd (by unfold vz_good; rw [show M 10 b = 0 by omega]; rfl) hg
    have e : ∀ c : Nat, c ≠ 5 → vz_ren M b (M 10 b).toNat c = M c := fun c h => vz_ren_ne M b h _
    have nz : vz_ren M b (M 10 b).toNat 14 b ≠ 0 := by rw [e 14 (by decide)]; exact V b h0 h1 hpos
    have oo : vO (vz_ren M b (M 10 b).toNat) := vO_eq O (e 12 (by decide)) (e 13 (by decide)) (e 14 (by decide)) (e 15 (by decide)) (e 16 (by decide))
    have hvl := vz_vl oo h12 h0 h1
    refine ⟨⟨h0, h1⟩, hvl.1, fun z => ⟨⟨h0, h1⟩, fun S13 e13 => ?_⟩, fun z => absurd (hvl.2.mp z) nz⟩
    rw [e13]
    exact k _ (vS_val h12 nz)
end VZA
