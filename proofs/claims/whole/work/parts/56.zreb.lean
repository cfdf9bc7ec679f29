/-! pure part: a block is completed, its copies are moved, all is rebuilt: both sides -/
section VZ6
variable {M S : vs_St}
def vz_fr (M M' : vs_St) : Prop := ∀ c : Nat, c ≠ 3 → c ≠ 5 → c ≠ 8 → c ≠ 10 → M' c = M c
theorem vz_fr.refl (M : vs_St) : vz_fr M M := fun _ _ _ _ _ => rfl
theorem vz_fr.trans {M M' M'' : vs_St} (h : vz_fr M M') (h' : vz_fr M' M'') : vz_fr M M'' := fun c a b d e => (h' c a b d e).trans (h c a b d e)
theorem vz_sh_ne (M : vs_St) (c0 : Nat) (a i n : Int) {c : Nat} (h : c ≠ c0) : vz_sh M c0 a i n c = M c := by
  unfold vz_sh
  cases hb : Nat.beq c c0
  · rfl
  · exact absurd (Nat.eq_of_beq_eq_true hb) h
theorem vz_fr_puts (M : vs_St) (b s : Int) : vz_fr M (vz_puts M b s) := by
  intro c h3 h5 h8 h10
  unfold vz_puts
  rw [vs_st_ne _ h10, vs_st_ne _ h8, vs_st_ne _ h5, vs_st_ne _ h3]
theorem vz_fr_takes (M : vs_St) (b i : Int) : vz_fr M (vz_takes M b i) := by
  intro c h3 h5 h8 h10
  unfold vz_takes
  rw [vz_sh_ne _ _ _ _ _ h8, vs_st_ne _ h10, vs_st_ne _ h3]
theorem vO_fr {M' : vs_St} (F : vz_fr M M') (O : vO M) : vO M' := by
  have e12 := F 12 (by decide) (by decide) (by decide) (by decide)
  have e13 := F 13 (by decide) (by decide) (by decide) (by decide)
  have e14 := F 14 (by decide) (by decide) (by decide) (by decide)
  have e15 := F 15 (by decide) (by decide) (by decide) (by decide)
  have e16 := F 16 (by decide) (by decide) (by decide) (by decide)
  unfold vO
  rw [e12, e13, e14, e15, e16]
  exact O
theorem vz_can_takes (I : vI M) {b i s : Int} (h0 : 0 ≤ b) (h1 : b < 400) (i0 : 0 ≤ i) (i1 : i < M 10 b) (c : vz_can0 M b s) : vz_can (vz_takes M b i) b s := by
  obtain ⟨⟨c0, c1, c2⟩, c3, c4, c5⟩ := c
  have hn := I.mn b h0 h1
  have hc := I.cp b i h0 h1 i0 i1
  refine ⟨⟨⟨c0, c1, c2⟩, ?_, c4, ?_⟩, ?_⟩
  · rw [vz_t3]; split <;> omega
  · rintro ⟨k, k0, k1, k2⟩
    rw [vz_t10, if_pos rfl] at k1
    rw [vz_t8b M k1] at k2
    by_cases w : k < i
    · rw [if_pos w] at k2; exact c5 ⟨k, k0, by omega, k2⟩
    · rw [if_neg w] at k2; exact c5 ⟨k + 1, by omega, by omega, k2⟩
  · rw [vz_t10, if_pos rfl]; omega
/-- the good copies, after a put -/
theorem vz_good_puts (I : vI M) {b s : Int} (h0 : 0 ≤ b) (h1 : b < 400) (c : vz_can M b s) {b' : Int} (a0 : 0 ≤ b') (a1 : b' < 400) : vz_good (vz_puts M b s) b' = vz_good M b' + (if b' = b then 1 else 0) := by
  have hc := c
  obtain ⟨⟨⟨c0, c1, c2⟩, c3, c4, c5⟩, c6⟩ := c
  have hm := I.mn b' a0 a1
  have hmb := I.mn b h0 h1
  have hold : ∀ k : Int, 0 ≤ k → k < M 10 b' → (vz_puts M b s 5 (vz_puts M b s 8 (3 * b' + k)) = 0 ↔ M 5 (M 8 (3 * b' + k)) = 0) := by
    intro k k0 k1
    have old := I.cp b' k a0 a1 k0 k1
    rw [vz_p8, if_neg ?_, vz_p5, if_neg ?_]
    · intro z; rw [z] at old; omega
    · intro z
      have : b' = b := by omega
      subst this; omega
  unfold vz_good
  by_cases e : b' = b
  · subst e
    rw [vz_p10, if_pos rfl, if_pos rfl, vz_cnt_step _ hm.1, vz_b1]
    · refine congrArg (· + 1) (vz_cnt_ext (fun k k0 k1 => hold k k0 (by omega)))
    · rw [vz_p8, if_pos rfl, vz_p5, if_pos rfl]
  · rw [vz_p10, if_neg e, if_neg e, Int.add_zero]
    exact vz_cnt_ext (fun k k0 k1 => hold k k0 (by omega))
noncomputable def vz_cstep (b lim : Int) (x : Int × vs_St) : Int × vs_St :=
  if x.1 < lim ∧ x.2 10 b < x.2 16 (b / 100) ∧ 0 ≤ vz_place x.2 b then (x.1 + 1, vz_puts x.2 b (vz_place x.2 b)) else x
noncomputable def vz_comp (b lim : Int) (n : Int) (M : vs_St) (k : Nat) : Int × vs_St := vz_it (fun _ => vz_cstep b lim) k (n, M)
theorem vz_comp_s (b lim n : Int) (M : vs_St) (k : Nat) : vz_comp b lim n M (k + 1) = vz_cstep b lim (vz_comp b lim n M k) := rfl
/-- with a count that begins later -/
theorem vz_comp_sh (b lim n : Int) (M : vs_St) : ∀ k : Nat, vz_comp b lim n M k = (n + (vz_comp b (lim - n) 0 M k).1, (vz_comp b (lim - n) 0 M k).2)
  | 0 => by show (n, M) = (n + 0, M); rw [Int.add_zero]
  | k + 1 => by
    rw [vz_comp_s, vz_comp_s, vz_comp_sh b lim n M k]
    unfold vz_cstep
    by_cases q : (vz_comp b (lim - n) 0 M k).1 < lim - n ∧ (vz_comp b (lim - n) 0 M k).2 10 b < (vz_comp b (lim - n) 0 M k).2 16 (b / 100) ∧ 0 ≤ vz_place (vz_comp b (lim - n) 0 M k).2 b
    · rw [if_pos q, if_pos ⟨by show n + _ < lim; omega, q.2⟩]
      show (n + _ + 1, _) = (n + (_ + 1), _)
      rw [Int.add_assoc]
    · rw [if_neg q, if_neg (fun z => q ⟨by have : n + _ < lim := z.1; omega, z.2⟩)]
theorem vz_comp_ok (I : vI M) (O : vO M) {b : Int} (h0 : 0 ≤ b) (h1 : b < 400) (lim n : Int) : ∀ k : Nat, vI (vz_comp b lim n M k).2 ∧ vz_fr M (vz_comp b lim n M k).2 ∧ n ≤ (vz_comp b lim n M k).1 ∧ (vz_comp b lim n M k).1 ≤ n + k ∧ ((vz_comp b lim n M k).1 ≤ n ∨ (vz_comp b lim n M k).1 ≤ lim) ∧ (vz_comp b lim n M k).2 10 b = M 10 b + ((vz_comp b lim n M k).1 - n) ∧ vz_good M b ≤ vz_good (vz_comp b lim n M k).2 b
  | 0 => ⟨I, vz_fr.refl M, by show n ≤ n; omega, by show n ≤ n + ((0 : Nat) : Int); omega, Or.inl (by show n ≤ n; omega), by show M 10 b = M 10 b + (n - n); omega, by show vz_good M b ≤ vz_good M b; omega⟩
  | k + 1 => by
    obtain ⟨a, f, c, d, e, g, j⟩ := vz_comp_ok I O h0 h1 lim n k
    rw [vz_comp_s]
    unfold vz_cstep
    by_cases q : (vz_comp b lim n M k).1 < lim ∧ (vz_comp b lim n M k).2 10 b < (vz_comp b lim n M k).2 16 (b / 100) ∧ 0 ≤ vz_place (vz_comp b lim n M k).2 b
    · rw [if_pos q]
      have hw := (vO_fr f O).wn (b / 100) (by omega) (by omega)
      have hc : vz_can (vz_comp b lim n M k).2 b (vz_place (vz_comp b lim n M k).2 b) := by
        rcases vz_place_spec a (b := b) with z | z
        · omega
        · exact ⟨z.2.1, by omega⟩
      refine ⟨vI_puts a h0 h1 hc, f.trans (vz_fr_puts _ _ _), ?_, ?_, ?_, ?_, ?_⟩
      · show n ≤ _ + 1; omega
      · show _ + 1 ≤ n + ((k + 1 : Nat) : Int); omega
      · show _ + 1 ≤ n ∨ _ + 1 ≤ lim; omega
      · show vz_puts _ _ _ 10 b = M 10 b + (_ + 1 - n)
        rw [vz_p10, if_pos rfl]; omega
      · show _ ≤ vz_good (vz_puts _ _ _) b
        rw [vz_good_puts a h0 h1 hc h0 h1, if_pos rfl]; omega
    · rw [if_neg q]
      exact ⟨a, f, c, by omega, e, g, j⟩
theorem vz_comp_end (b lim n : Int) (M : vs_St) {j : Nat} (hj : j ≤ 3) (h : vz_cstep b lim (vz_comp b lim n M j) = vz_comp b lim n M j) : vz_comp b lim n M 3 = vz_comp b lim n M j :=
  vz_it_end hj (fun _ _ => h)
theorem p_completeBlock (I : vI M) (O : vO M) (r : vS M S) {b lim : Int} (h0 : 0 ≤ b) (h1 : b < 400) (hl : vs_R lim) {post : Int → vs_St → Prop} (k : ∀ S', vS (vz_comp b lim 0 M 3).2 S' → post (vz_comp b lim 0 M 3).1 S') : wX1_completeBlock S b lim post := by
  unfold wX1_completeBlock
  have hn := I.mn b h0 h1
  have hw := O.wn (b / 100) (by omega) (by omega)
  refine p_wantedOf O r h0 h1 ⟨⟨h0, h1⟩, ?_, hl, fun v2 hv => ?_⟩
  · rw [r.mn b h0 h1]; exact ⟨by omega, by omega⟩
  rw [r.mn b h0 h1] at hv
  refine ⟨fun j S' => 0 ≤ j ∧ j ≤ 3 ∧ (j = 0 ∨ j ≤ v2) ∧ (vz_comp b lim 0 M j.toNat).1 = j ∧ vS (vz_comp b lim 0 M j.toNat).2 S', fun j _ => (4 - j).toNat, ⟨by omega, by omega, Or.inl rfl, rfl, r⟩, ?_⟩
  rintro j S' ⟨j0, j1, j2, j3, j4⟩
  obtain ⟨a, f, _, _, _, g, _⟩ := vz_comp_ok I O h0 h1 lim 0 j.toNat
  have e16 := f 16 (by decide) (by decide) (by decide) (by decide)
  have stuck : ¬ ((vz_comp b lim 0 M j.toNat).1 < lim ∧ (vz_comp b lim 0 M j.toNat).2 10 b < (vz_comp b lim 0 M j.toNat).2 16 (b / 100) ∧ 0 ≤ vz_place (vz_comp b lim 0 M j.toNat).2 b) → post j S' := by
    intro q
    have e := vz_comp_end b lim 0 M (j := j.toNat) (by omega) (by unfold vz_cstep; rw [if_neg q])
    rw [e, j3] at k
    exact k S' j4
  unfold lX1_completeBlock_20
  have hv2 : v2 ≤ 3 := by omega
  refine ⟨⟨by omega, by omega⟩, ?_, fun h => ⟨?_, ?_⟩, fun h => ?_⟩
  · have := hl.1; exact ⟨by omega, by omega⟩
  · have := hl.1; exact ⟨by omega, by omega⟩
  · have e : max v2 0 = j := by omega
    rw [e]
    refine stuck (fun z => ?_)
    have := z.1
    have := z.2.1
    rw [e16] at this
    omega
  · refine p_disksWithCopy a j4 h0 h1 (fun m hm => p_findPlace a j4 h0 h1 hm ?_)
    have hp := vz_place_spec a (b := b)
    have hq : vs_R (vz_place (vz_comp b lim 0 M j.toNat).2 b) := by
      rcases hp with z | z
      · rw [z]; exact ⟨by omega, by omega⟩
      · have := a.dk; have := z.2.1.1; exact ⟨by omega, by omega⟩
    refine ⟨hq, fun q => ?_, fun q => stuck (fun z => by have := z.2.2; omega)⟩
    rcases hp with z | z
    · exact absurd z q
    · have hc : vz_can (vz_comp b lim 0 M j.toNat).2 b (vz_place (vz_comp b lim 0 M j.toNat).2 b) := ⟨z.2.1, by omega⟩
      refine p_addCopy a j4 h0 h1 hc (fun S5 h5 => ?_)
      have e : vz_comp b lim 0 M (j + 1).toNat = ((vz_comp b lim 0 M j.toNat).1 + 1, vz_puts (vz_comp b lim 0 M j.toNat).2 b (vz_place (vz_comp b lim 0 M j.toNat).2 b)) := by
        rw [show (j + 1).toNat = j.toNat + 1 by omega, vz_comp_s]
        unfold vz_cstep
        rw [if_pos ⟨by omega, by rw [e16]; omega, z.1⟩]
      refine ⟨⟨by omega, by omega, Or.inr (by omega), ?_, ?_⟩, by first | omega | (dsimp only; omega)⟩
      · rw [e]; show _ + 1 = _; omega
      · rw [e]; exact h5
/-- the reference's loop over the places of one block -/
theorem q_complete (I : vI M) (O : vO M) {b lim n : Int} (h0 : 0 ≤ b) (h1 : b < 400) (hw : M 14 b ≠ 0) (hl : vs_R lim) (hn : 0 ≤ n ∧ n ≤ 100000) {K4 : Int → Int → vs_St → Prop} {post : Int → vs_St → Prop} {x3 : Int}
    (kL : vz_lost M b → K4 n (x3 + 1) M) (kN : ¬ vz_lost M b → K4 (vz_comp b lim n M 3).1 (x3 + 1) (vz_comp b lim n M 3).2) :
    ∃ (J20 : Int → vs_St → Prop) (μ20 : Int → vs_St → Nat), J20 n M ∧ ∀ (y20_0 : Int) (y20_1 : vs_St), J20 y20_0 y20_1 → lX3_rebuilds_20 lim x3 b K4 (fun z20_0 z20_1 => J20 z20_0 z20_1 ∧ μ20 z20_0 z20_1 < μ20 y20_0 y20_1) post y20_0 y20_1 := by
  refine ⟨fun x S => n ≤ x ∧ x ≤ n + 3 ∧ vz_comp b lim n M (x - n).toNat = (x, S) ∧ (vz_lost M b → x = n), fun x _ => (n + 4 - x).toNat, ⟨by omega, by omega, by rw [Int.sub_self]; rfl, fun _ => rfl⟩, ?_⟩
  rintro x S ⟨y0, y1, y2, y3⟩
  obtain ⟨a, f, _, _, _, g, gd⟩ := vz_comp_ok I O h0 h1 lim n (x - n).toNat
  rw [y2] at a f g gd
  have a : vI S := a
  have f : vz_fr M S := f
  have g : S 10 b = M 10 b + (x - n) := g
  have gd : vz_good M b ≤ vz_good S b := gd
  have e16 := f 16 (by decide) (by decide) (by decide) (by decide)
  have e14 := f 14 (by decide) (by decide) (by decide) (by decide)
  have OS := vO_fr f O
  have hw3 := O.wn (b / 100) (by omega) (by omega)
  have hnn := I.mn b h0 h1
  have hg := vz_good_bd I h0 h1
  have hlost : vz_lost S b → vz_lost M b := fun z => ⟨hw, by have := z.2; omega⟩
  have stuck : (vz_lost M b ∨ ¬ (x < lim ∧ S 10 b < S 16 (b / 100) ∧ 0 ≤ vz_place S b)) → K4 x (x3 + 1) S := by
    intro q
    rcases Classical.em (vz_lost M b) with z | z
    · have e := y3 z
      subst e
      rw [Int.sub_self] at y2
      have e : S = M := (congrArg Prod.snd y2).symm
      rw [e]; exact kL z
    · have q : ¬ (x < lim ∧ S 10 b < S 16 (b / 100) ∧ 0 ≤ vz_place S b) := q.elim (fun w => absurd w z) id
      have e := vz_comp_end b lim n M (j := (x - n).toNat) (by omega) (by rw [y2]; unfold vz_cstep; exact if_neg q)
      have kN := kN z
      rw [e, y2] at kN
      exact kN
  unfold lX3_rebuilds_20
  refine ⟨⟨by omega, by omega⟩, hl, fun h => stuck (Or.inr (fun z => by omega)), fun h => q_degraded a OS h0 h1 ⟨vz_bR _, fun q => stuck (Or.inr (fun z => vz_bn.mp q ⟨by rw [e14]; exact hw, z.2.1⟩)), fun q => q_lost a OS h0 h1 ⟨vz_bR _, fun w => stuck (Or.inl (hlost (vz_bp.mp w))), fun w => q_place a h0 h1 ?_⟩⟩⟩
  have hp := vz_place_spec a (b := b)
  have hq : vs_R (vz_place S b) := by
    rcases hp with z | z
    · rw [z]; exact ⟨by omega, by omega⟩
    · have := a.dk; have := z.2.1.1; exact ⟨by omega, by omega⟩
  have hdg := vz_bp.mp q
  refine ⟨hq, fun y => stuck (Or.inr (fun z => by omega)), fun y => q_place a h0 h1 ?_⟩
  have hc : vz_can S b (vz_place S b) := by
    rcases hp with z | z
    · omega
    · exact ⟨z.2.1, by have := hdg.2; rw [e16] at this; omega⟩
  refine q_puts a h0 h1 hc ⟨⟨by omega, ?_, ?_, fun z => ?_⟩, by first | omega | (dsimp only; omega)⟩
  · have := hdg.2; rw [e16] at this; omega
  · rw [show (x + 1 - n).toNat = (x - n).toNat + 1 by omega, vz_comp_s, y2]
    unfold vz_cstep
    exact if_pos ⟨h, hdg.2, y⟩
  · have hnl := vz_bn.mp w
    exfalso
    have e := y3 z
    subst e
    rw [Int.sub_self] at y2
    have e : S = M := (congrArg Prod.snd y2).symm
    rw [e] at hnl; exact hnl z
-- moves
noncomputable def vz_mstep (b lim : Int) (x : Int × Int × vs_St) : Int × Int × vs_St :=
  if x.1 < lim then (if x.2.2 2 (x.2.2 8 (3 * b + x.2.1) / 32) = 119 ∧ 0 ≤ vz_place x.2.2 b then (x.1 + 1, x.2.1, vz_puts (vz_takes x.2.2 b x.2.1) b (vz_place x.2.2 b)) else (x.1, x.2.1 + 1, x.2.2)) else x
noncomputable def vz_mv (b lim : Int) (M : vs_St) (k : Nat) : Int × Int × vs_St := vz_it (fun _ => vz_mstep b lim) k (0, 0, M)
theorem vz_mv_s (b lim : Int) (M : vs_St) (k : Nat) : vz_mv b lim M (k + 1) = vz_mstep b lim (vz_mv b lim M k) := rfl
theorem vz_mv_ok (I : vI M) {b : Int} (h0 : 0 ≤ b) (h1 : b < 400) (lim : Int) : ∀ k : Nat, (k : Int) ≤ M 10 b → vI (vz_mv b lim M k).2.2 ∧ vz_fr M (vz_mv b lim M k).2.2 ∧ 0 ≤ (vz_mv b lim M k).1 ∧ 0 ≤ (vz_mv b lim M k).2.1 ∧ (vz_mv b lim M k).1 + (vz_mv b lim M k).2.1 ≤ k ∧ ((vz_mv b lim M k).1 ≤ 0 ∨ (vz_mv b lim M k).1 ≤ lim) ∧ (vz_mv b lim M k).2.2 10 b = M 10 b
  | 0, _ => ⟨I, vz_fr.refl M, by show (0 : Int) ≤ 0; omega, by show (0 : Int) ≤ 0; omega, by show (0 : Int) + 0 ≤ ((0 : Nat) : Int); omega, Or.inl (by show (0 : Int) ≤ 0; omega), rfl⟩
  | k + 1, hk => by
    obtain ⟨a, f, c, d, e, g, j⟩ := vz_mv_ok I h0 h1 lim k (by omega)
    rw [vz_mv_s]
    unfold vz_mstep
    by_cases q : (vz_mv b lim M k).1 < lim
    · rw [if_pos q]
      by_cases w : (vz_mv b lim M k).2.2 2 ((vz_mv b lim M k).2.2 8 (3 * b + (vz_mv b lim M k).2.1) / 32) = 119 ∧ 0 ≤ vz_place (vz_mv b lim M k).2.2 b
      · rw [if_pos w]
        have hc : vz_can0 (vz_mv b lim M k).2.2 b (vz_place (vz_mv b lim M k).2.2 b) := by
          rcases vz_place_spec a (b := b) with z | z
          · omega
          · exact z.2.1
        refine ⟨vI_puts (vI_takes a h0 h1 d (by omega)) h0 h1 (vz_can_takes a h0 h1 d (by omega) hc), (f.trans (vz_fr_takes _ _ _)).trans (vz_fr_puts _ _ _), ?_, d, ?_, ?_, ?_⟩
        · show 0 ≤ _ + 1; omega
        · show (vz_mv b lim M k).1 + 1 + (vz_mv b lim M k).2.1 ≤ ((k + 1 : Nat) : Int); omega
        · show _ + 1 ≤ 0 ∨ _ + 1 ≤ lim; omega
        · show vz_puts _ _ _ 10 b = M 10 b
          rw [vz_p10, if_pos rfl, vz_t10, if_pos rfl]; omega
      · rw [if_neg w]
        exact ⟨a, f, c, by show 0 ≤ _ + 1; omega, by show (vz_mv b lim M k).1 + ((vz_mv b lim M k).2.1 + 1) ≤ ((k + 1 : Nat) : Int); omega, g, j⟩
    · rw [if_neg q]
      exact ⟨a, f, c, d, by omega, g, j⟩
theorem p_emptyWarned (I : vI M) (r : vS M S) {b lim : Int} (h0 : 0 ≤ b) (h1 : b < 400) (hl : vs_R lim) {post : Int → vs_St → Prop} (k : ∀ S', vS (vz_mv b lim M (M 10 b).toNat).2.2 S' → post (vz_mv b lim M (M 10 b).toNat).1 S') : wX1_emptyWarnedDisks S b lim post := by
  unfold wX1_emptyWarnedDisks
  have hn := I.mn b h0 h1
  refine ⟨⟨h0, h1⟩, fun v1 hv => ?_⟩
  rw [r.mn b h0 h1] at hv
  subst hv
  refine ⟨fun c i n S' => 0 ≤ n ∧ n ≤ M 10 b ∧ (vz_mv b lim M n.toNat).1 = c ∧ (vz_mv b lim M n.toNat).2.1 = i ∧ vS (vz_mv b lim M n.toNat).2.2 S', fun _ _ n _ => (4 - n).toNat, ⟨by omega, by omega, rfl, rfl, r⟩, ?_⟩
  rintro c i n S' ⟨n0, n1, rfl, rfl, hr⟩
  obtain ⟨a, f, c0, d, e, g, j⟩ := vz_mv_ok I h0 h1 lim n.toNat (by omega)
  unfold lX1_emptyWarnedDisks_16
  refine ⟨⟨by omega, by omega⟩, ⟨by omega, by omega⟩, fun h => ?_, fun h => ⟨⟨by omega, by omega⟩, hl, fun q => ?_, fun q => ?_⟩⟩
  · have e : n = M 10 b := by omega
    rw [e] at hr ⊢
    exact k S' hr
  · have e : vz_mv b lim M (M 10 b).toNat = vz_mv b lim M n.toNat := vz_it_end (by omega) (fun _ _ => by
      show vz_mstep b lim (vz_mv b lim M n.toNat) = vz_mv b lim M n.toNat
      unfold vz_mstep; rw [if_neg (by omega)])
    rw [e] at k
    exact k S' hr
  · have hc := a.cp b (vz_mv b lim M n.toNat).2.1 h0 h1 d (by omega)
    have hd := a.dk
    have st := a.stt ((vz_mv b lim M n.toNat).2.2 8 (3 * b + (vz_mv b lim M n.toNat).2.1) / 32) (by omega) (by omega)
    have en : (n + 1).toNat = n.toNat + 1 := by omega
    have skip : ¬ ((vz_mv b lim M n.toNat).2.2 2 ((vz_mv b lim M n.toNat).2.2 8 (3 * b + (vz_mv b lim M n.toNat).2.1) / 32) = 119 ∧ 0 ≤ vz_place (vz_mv b lim M n.toNat).2.2 b) → vz_mv b lim M (n + 1).toNat = ((vz_mv b lim M n.toNat).1, (vz_mv b lim M n.toNat).2.1 + 1, (vz_mv b lim M n.toNat).2.2) := by
      intro w
      rw [en, vz_mv_s]
      unfold vz_mstep
      rw [if_pos q, if_neg w]
    have skip2 : ¬ ((vz_mv b lim M n.toNat).2.2 2 ((vz_mv b lim M n.toNat).2.2 8 (3 * b + (vz_mv b lim M n.toNat).2.1) / 32) = 119 ∧ 0 ≤ vz_place (vz_mv b lim M n.toNat).2.2 b) → (0 ≤ n + 1 ∧ n + 1 ≤ M 10 b ∧ (vz_mv b lim M (n + 1).toNat).1 = (vz_mv b lim M n.toNat).1 ∧ (vz_mv b lim M (n + 1).toNat).2.1 = (vz_mv b lim M n.toNat).2.1 + 1 ∧ vS (vz_mv b lim M (n + 1).toNat).2.2 S') ∧ (4 - (n + 1)).toNat < (4 - n).toNat := by
      intro w
      rw [skip w]
      exact ⟨⟨by omega, by omega, rfl, rfl, hr⟩, by first | omega | (dsimp only; omega)⟩
    refine p_addressOf a hr h0 h1 d (by omega) ⟨⟨by omega, by omega⟩, fun v3 hv3 => ?_⟩
    subst hv3
    rw [hr.stt _ (by omega) (by omega)]
    refine ⟨⟨by omega, by omega⟩, ⟨by omega, by omega⟩, fun w v4 hv4 => ?_, fun w => ?_⟩
    · subst hv4
      exact ⟨⟨by omega, by omega⟩, fun z => absurd rfl z, fun _ => skip2 (fun z => w z.1)⟩
    · refine p_disksWithCopy a hr h0 h1 (fun m hm => p_findPlace a hr h0 h1 hm ?_)
      have hp := vz_place_spec a (b := b)
      have hq : vs_R (vz_place (vz_mv b lim M n.toNat).2.2 b) := by
        rcases hp with z | z
        · rw [z]; exact ⟨by omega, by omega⟩
        · have := z.2.1.1; exact ⟨by omega, by omega⟩
      refine ⟨hq, fun y => ?_, fun y => skip2 (fun z => by have := z.2; omega)⟩
      have hp : 0 ≤ vz_place (vz_mv b lim M n.toNat).2.2 b ∧ vz_can0 (vz_mv b lim M n.toNat).2.2 b (vz_place (vz_mv b lim M n.toNat).2.2 b) := by
        rcases hp with z | z
        · exact absurd z y
        · exact ⟨z.1, z.2.1⟩
      have I2 := vI_takes a h0 h1 d (by omega : (vz_mv b lim M n.toNat).2.1 < (vz_mv b lim M n.toNat).2.2 10 b)
      refine p_removeCopy a hr h0 h1 d (by omega) (fun S5 h5 => p_addCopy I2 h5 h0 h1 (vz_can_takes a h0 h1 d (by omega) hp.2) (fun S6 h6 => ?_))
      have e2 : vz_mv b lim M (n + 1).toNat = ((vz_mv b lim M n.toNat).1 + 1, (vz_mv b lim M n.toNat).2.1, vz_puts (vz_takes (vz_mv b lim M n.toNat).2.2 b (vz_mv b lim M n.toNat).2.1) b (vz_place (vz_mv b lim M n.toNat).2.2 b)) := by
        rw [en, vz_mv_s]
        unfold vz_mstep
        rw [if_pos q, if_pos ⟨w, hp.1⟩]
      show (0 ≤ n + 1 ∧ n + 1 ≤ M 10 b ∧ (vz_mv b lim M (n + 1).toNat).1 = (vz_mv b lim M n.toNat).1 + 1 ∧ (vz_mv b lim M (n + 1).toNat).2.1 = (vz_mv b lim M n.toNat).2.1 ∧ vS (vz_mv b lim M (n + 1).toNat).2.2 S6) ∧ (4 - (n + 1)).toNat < (4 - n).toNat
      rw [e2]
      exact ⟨⟨by omega, by omega, rfl, rfl, h6⟩, by first | omega | (dsimp only; omega)⟩
theorem q_moves (I : vI M) {b lim : Int} (h0 : 0 ≤ b) (h1 : b < 400) (hl : vs_R lim) {post : Int → vs_St → Prop} (k : post (vz_mv b lim M (M 10 b).toNat).1 (vz_mv b lim M (M 10 b).toNat).2.2) : wX3_moves M b lim post := by
  unfold wX3_moves
  have hn := I.mn b h0 h1
  refine ⟨⟨h0, h1⟩, fun v1 hv => ?_⟩
  subst hv
  refine ⟨fun c i l S' => 0 ≤ l ∧ l ≤ M 10 b ∧ vz_mv b lim M (M 10 b - l).toNat = (c, i, S'), fun _ _ l _ => l.toNat, ⟨by omega, by omega, by rw [Int.sub_self]; rfl⟩, ?_⟩
  rintro c i l S' ⟨l0, l1, he⟩
  obtain ⟨a, f, c0, d, e, g, j⟩ := vz_mv_ok I h0 h1 lim (M 10 b - l).toNat (by omega)
  rw [he] at a f c0 d e g j
  have a : vI S' := a
  have c0 : 0 ≤ c := c0
  have d : 0 ≤ i := d
  have e : c + i ≤ ((M 10 b - l).toNat : Int) := e
  have j : S' 10 b = M 10 b := j
  unfold lX3_moves_13
  refine ⟨⟨by omega, by omega⟩, fun h => ?_, fun h => ⟨⟨by omega, by omega⟩, hl, fun q => ?_, fun q => ?_⟩⟩
  · have e : l = 0 := by omega
    rw [e, Int.sub_zero] at he
    rw [he] at k
    exact k
  · have e : vz_mv b lim M (M 10 b).toNat = vz_mv b lim M (M 10 b - l).toNat := vz_it_end (by omega) (fun _ _ => by
      show vz_mstep b lim (vz_mv b lim M (M 10 b - l).toNat) = vz_mv b lim M (M 10 b - l).toNat
      rw [he]; unfold vz_mstep; exact if_neg (by show ¬ c < lim; omega))
    rw [e, he] at k
    exact k
  · have hc := a.cp b i h0 h1 d (by omega)
    have hd := a.dk
    have st := a.stt (S' 8 (3 * b + i) / 32) (by omega) (by omega)
    have en : (M 10 b - (l + (-1))).toNat = (M 10 b - l).toNat + 1 := by omega
    have skip : ¬ (S' 2 (S' 8 (3 * b + i) / 32) = 119 ∧ 0 ≤ vz_place S' b) → (0 ≤ l + (-1) ∧ l + (-1) ≤ M 10 b ∧ vz_mv b lim M (M 10 b - (l + (-1))).toNat = (c, i + 1, S')) ∧ (l + (-1)).toNat < l.toNat := by
      intro w
      refine ⟨⟨by omega, by omega, ?_⟩, by first | omega | (dsimp only; omega)⟩
      rw [en, vz_mv_s, he]
      unfold vz_mstep
      rw [if_pos q, if_neg w]
    refine ⟨⟨h0, h1⟩, ⟨by omega, by omega⟩, ⟨by omega, by omega⟩, ⟨by omega, by omega⟩, ⟨by omega, by omega⟩, fun w v3 hv3 => ?_, fun w => q_place a h0 h1 ?_⟩
    · subst hv3
      exact ⟨⟨by omega, by omega⟩, fun z => by omega, fun _ => skip (fun z => w z.1)⟩
    · have hp := vz_place_spec a (b := b)
      have hq : vs_R (vz_place S' b) := by
        rcases hp with z | z
        · rw [z]; exact ⟨by omega, by omega⟩
        · have := z.2.1.1; exact ⟨by omega, by omega⟩
      refine ⟨hq, fun y => ?_, fun y => skip (fun z => by omega)⟩
      have hp : vz_can0 S' b (vz_place S' b) := by
        rcases hp with z | z
        · omega
        · exact z.2.1
      refine q_takes a h0 h1 d (by omega) (q_puts (vI_takes a h0 h1 d (by omega)) h0 h1 (vz_can_takes a h0 h1 d (by omega) hp) ⟨⟨by omega, by omega, ?_⟩, by first | omega | (dsimp only; omega)⟩)
      rw [en, vz_mv_s, he]
      unfold vz_mstep
      rw [if_pos q, if_pos ⟨w, y⟩]
end VZ6
