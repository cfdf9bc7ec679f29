/-! pure part: the rebuilding: both sides -/
section VZ7
variable {M S : vs_St}
noncomputable def vz_r1 (most : Int) (k : Nat) (x : Int × vs_St) : Int × vs_St := @ite (Int × vs_St) (vz_lost x.2 (x.2 13 k)) (Classical.propDecidable _) x (vz_comp (x.2 13 k) most x.1 x.2 3)
noncomputable def vz_r2 (most : Int) (k : Nat) (x : Int × vs_St) : Int × vs_St := @ite (Int × vs_St) (vz_lost x.2 (x.2 13 k)) (Classical.propDecidable _) x (x.1 + (vz_mv (x.2 13 k) (most - x.1) x.2 (x.2 10 (x.2 13 k)).toNat).1, (vz_mv (x.2 13 k) (most - x.1) x.2 (x.2 10 (x.2 13 k)).toNat).2.2)
noncomputable def vz_R1 (most : Int) (M : vs_St) (k : Nat) : Int × vs_St := vz_it (vz_r1 most) k (0, M)
noncomputable def vz_R2 (most : Int) (n : Int) (M : vs_St) (k : Nat) : Int × vs_St := vz_it (vz_r2 most) k (n, M)
noncomputable def vz_reb (most : Int) (M : vs_St) : Int × vs_St := vz_R2 most (vz_R1 most M (M 15 0).toNat).1 (vz_R1 most M (M 15 0).toNat).2 (M 15 0).toNat
theorem vz_r1L {most : Int} {k : Nat} {x : Int × vs_St} (h : vz_lost x.2 (x.2 13 k)) : vz_r1 most k x = x := by unfold vz_r1; exact if_pos h
theorem vz_r1N {most : Int} {k : Nat} {x : Int × vs_St} (h : ¬ vz_lost x.2 (x.2 13 k)) : vz_r1 most k x = vz_comp (x.2 13 k) most x.1 x.2 3 := by unfold vz_r1; exact if_neg h
theorem vz_r2L {most : Int} {k : Nat} {x : Int × vs_St} (h : vz_lost x.2 (x.2 13 k)) : vz_r2 most k x = x := by unfold vz_r2; exact if_pos h
theorem vz_r2N {most : Int} {k : Nat} {x : Int × vs_St} (h : ¬ vz_lost x.2 (x.2 13 k)) : vz_r2 most k x = (x.1 + (vz_mv (x.2 13 k) (most - x.1) x.2 (x.2 10 (x.2 13 k)).toNat).1, (vz_mv (x.2 13 k) (most - x.1) x.2 (x.2 10 (x.2 13 k)).toNat).2.2) := by unfold vz_r2; exact if_neg h
theorem vz_R1_s (most : Int) (M : vs_St) (k : Nat) : vz_R1 most M (k + 1) = vz_r1 most k (vz_R1 most M k) := rfl
theorem vz_R2_s (most n : Int) (M : vs_St) (k : Nat) : vz_R2 most n M (k + 1) = vz_r2 most k (vz_R2 most n M k) := rfl
theorem vz_comp_full {b lim n : Int} {M : vs_St} (h : lim ≤ n) : vz_comp b lim n M 3 = (n, M) :=
  vz_comp_end b lim n M (j := 0) (by omega) (by show vz_cstep b lim (n, M) = (n, M); unfold vz_cstep; exact if_neg (by rintro ⟨z, _⟩; have z : n < lim := z; omega))
theorem vz_mv_full {b lim : Int} {M : vs_St} (h : lim ≤ 0) (k : Nat) : vz_mv b lim M k = (0, 0, M) :=
  vz_it_end (n := 0) (by omega) (fun _ _ => by show vz_mstep b lim (0, 0, M) = (0, 0, M); unfold vz_mstep; exact if_neg (by show ¬ (0 : Int) < lim; omega))
theorem vz_r1F {most : Int} {k : Nat} {x : Int × vs_St} (h : most ≤ x.1) : vz_r1 most k x = x := by
  rcases Classical.em (vz_lost x.2 (x.2 13 k)) with q | q
  · exact vz_r1L q
  · rw [vz_r1N q, vz_comp_full h]
theorem vz_r2F {most : Int} {k : Nat} {x : Int × vs_St} (h : most ≤ x.1) : vz_r2 most k x = x := by
  rcases Classical.em (vz_lost x.2 (x.2 13 k)) with q | q
  · exact vz_r2L q
  · rw [vz_r2N q, vz_mv_full (by omega)]
    show (x.1 + 0, x.2) = x
    rw [Int.add_zero]
theorem vz_R1_ok (I : vI M) (O : vO M) (most : Int) : ∀ k : Nat, (k : Int) ≤ M 15 0 → vI (vz_R1 most M k).2 ∧ vz_fr M (vz_R1 most M k).2 ∧ 0 ≤ (vz_R1 most M k).1 ∧ (vz_R1 most M k).1 ≤ 3 * k ∧ ((vz_R1 most M k).1 ≤ 0 ∨ (vz_R1 most M k).1 ≤ most)
  | 0, _ => ⟨I, vz_fr.refl M, by show (0 : Int) ≤ 0; omega, by show (0 : Int) ≤ 3 * ((0 : Nat) : Int); omega, Or.inl (by show (0 : Int) ≤ 0; omega)⟩
  | k + 1, hk => by
    obtain ⟨a, f, c, d, e⟩ := vz_R1_ok I O most k (by omega)
    have OS := vO_fr f O
    have e15 := f 15 (by decide) (by decide) (by decide) (by decide)
    have ho := OS.od k (by omega) (by rw [e15]; omega)
    rw [vz_R1_s]
    rcases Classical.em (vz_lost (vz_R1 most M k).2 ((vz_R1 most M k).2 13 k)) with q | q
    · rw [vz_r1L q]; exact ⟨a, f, c, by omega, e⟩
    · rw [vz_r1N q]
      obtain ⟨a2, f2, c2, d2, e2, _, _⟩ := vz_comp_ok a OS ho.1 ho.2.1 most (vz_R1 most M k).1 3
      exact ⟨a2, f.trans f2, by omega, by omega, by omega⟩
theorem vz_R2_ok (I : vI M) (O : vO M) (most n : Int) : ∀ k : Nat, (k : Int) ≤ M 15 0 → vI (vz_R2 most n M k).2 ∧ vz_fr M (vz_R2 most n M k).2 ∧ n ≤ (vz_R2 most n M k).1 ∧ (vz_R2 most n M k).1 ≤ n + 3 * k ∧ ((vz_R2 most n M k).1 ≤ n ∨ (vz_R2 most n M k).1 ≤ most)
  | 0, _ => ⟨I, vz_fr.refl M, by show n ≤ n; omega, by show n ≤ n + 3 * ((0 : Nat) : Int); omega, Or.inl (by show n ≤ n; omega)⟩
  | k + 1, hk => by
    obtain ⟨a, f, c, d, e⟩ := vz_R2_ok I O most n k (by omega)
    have OS := vO_fr f O
    have e15 := f 15 (by decide) (by decide) (by decide) (by decide)
    have ho := OS.od k (by omega) (by rw [e15]; omega)
    rw [vz_R2_s]
    rcases Classical.em (vz_lost (vz_R2 most n M k).2 ((vz_R2 most n M k).2 13 k)) with q | q
    · rw [vz_r2L q]; exact ⟨a, f, c, by omega, e⟩
    · rw [vz_r2N q]
      have hm := a.mn _ ho.1 ho.2.1
      obtain ⟨a2, f2, c2, d2, e2, g2, _⟩ := vz_mv_ok a ho.1 ho.2.1 (most - (vz_R2 most n M k).1) ((vz_R2 most n M k).2 10 ((vz_R2 most n M k).2 13 k)).toNat (by omega)
      exact ⟨a2, f.trans f2, by show n ≤ _ + _; omega, by show _ + _ ≤ n + 3 * ((k + 1 : Nat) : Int); omega, by show _ + _ ≤ n ∨ _ + _ ≤ most; omega⟩
theorem vz_reb_ok (I : vI M) (O : vO M) (most : Int) : vI (vz_reb most M).2 ∧ vz_fr M (vz_reb most M).2 ∧ 0 ≤ (vz_reb most M).1 ∧ (vz_reb most M).1 ≤ 2400 ∧ ((vz_reb most M).1 ≤ 0 ∨ (vz_reb most M).1 ≤ most) := by
  have hw := O.wr
  have hb := vz_cnt_bd (fun b => M 14 b ≠ 0) 400
  obtain ⟨a, f, c, d, e⟩ := vz_R1_ok I O most (M 15 0).toNat (by omega)
  have e15 := f 15 (by decide) (by decide) (by decide) (by decide)
  obtain ⟨a2, f2, c2, d2, e2⟩ := vz_R2_ok a (vO_fr f O) most (vz_R1 most M (M 15 0).toNat).1 (M 15 0).toNat (by rw [e15]; omega)
  exact ⟨a2, f.trans f2, by unfold vz_reb; omega, by unfold vz_reb; omega, by unfold vz_reb; omega⟩
theorem vz_wbd (O : vO M) : 0 ≤ M 15 0 ∧ M 15 0 ≤ 400 := by
  have hw := O.wr
  have hb := vz_cnt_bd (fun b => M 14 b ≠ 0) 400
  omega
theorem p_rebuild2 (I : vI M) (O : vO M) {most n : Int} (hm : 0 ≤ most ∧ most ≤ 1000000) (hn : 0 ≤ n ∧ n ≤ 10000) (r : vS M S) {K4 : Int → Int → vs_St → Prop} {post : Int → vs_St → Prop} (k : ∀ S', vS (vz_R2 most n M (M 15 0).toNat).2 S' → post (vz_R2 most n M (M 15 0).toNat).1 S') :
    ∃ (J54 : Int → Int → vs_St → Prop) (μ54 : Int → Int → vs_St → Nat), J54 n 0 S ∧ ∀ (y54_0 : Int) (y54_1 : Int) (y54_2 : vs_St), J54 y54_0 y54_1 y54_2 → lX1_rebuild_54 most K4 (fun z54_0 z54_1 z54_2 => J54 z54_0 z54_1 z54_2 ∧ μ54 z54_0 z54_1 z54_2 < μ54 y54_0 y54_1 y54_2) post y54_0 y54_1 y54_2 := by
  have hw := vz_wbd O
  refine ⟨fun c i S' => 0 ≤ i ∧ i ≤ M 15 0 ∧ (vz_R2 most n M i.toNat).1 = c ∧ vS (vz_R2 most n M i.toNat).2 S', fun _ i _ => (401 - i).toNat, ⟨by omega, by omega, rfl, r⟩, ?_⟩
  rintro c i S' ⟨i0, i1, rfl, hr⟩
  obtain ⟨a, f, c0, d, e⟩ := vz_R2_ok I O most n i.toNat (by omega)
  have OS := vO_fr f O
  have e15 := f 15 (by decide) (by decide) (by decide) (by decide)
  unfold lX1_rebuild_54
  rw [hr.wr, e15]
  refine ⟨⟨by omega, by omega⟩, ⟨by omega, by omega⟩, fun h => ?_, fun h => ⟨⟨by omega, by omega⟩, ⟨by omega, by omega⟩, fun q => ?_, fun q => ?_⟩⟩
  · have e : i = M 15 0 := by omega
    rw [e] at hr ⊢
    exact k S' hr
  · have e : vz_R2 most n M (M 15 0).toNat = vz_R2 most n M i.toNat := vz_it_end (by omega) (fun j _ => vz_r2F q)
    rw [e] at k
    exact k S' hr
  · have ho := OS.od i i0 (by rw [e15]; exact h)
    rw [hr.od i i0 (by rw [e15]; exact h)]
    have es : vz_R2 most n M (i + 1).toNat = vz_r2 most i.toNat (vz_R2 most n M i.toNat) := by rw [show (i + 1).toNat = i.toNat + 1 by omega]; rfl
    have ei : ((i.toNat : Nat) : Int) = i := Int.toNat_of_nonneg i0
    refine ⟨⟨by omega, by omega⟩, p_hasLost a OS hr ho.1 ho.2.1 ⟨vz_bR _, fun w => ⟨⟨by omega, by omega, ?_⟩, by first | omega | (dsimp only; omega)⟩, fun w => ⟨⟨by omega, by omega⟩, p_emptyWarned a hr ho.1 ho.2.1 ⟨by omega, by omega⟩ (fun S3 h3 v4 hv => ⟨⟨by omega, by omega, ?_⟩, by first | omega | (dsimp only; omega)⟩)⟩⟩⟩
    · rw [es, vz_r2L (by rw [ei]; exact vz_bp.mp w)]
      exact ⟨rfl, hr⟩
    · rw [es, vz_r2N (by rw [ei]; exact vz_bn.mp w), ei]
      exact ⟨hv.symm, h3⟩
theorem p_rebuild (I : vI M) (O : vO M) {most : Int} (hm : 0 ≤ most ∧ most ≤ 1000000) (r : vS M S) {post : Int → vs_St → Prop} (k : ∀ S', vS (vz_reb most M).2 S' → post (vz_reb most M).1 S') : wX1_rebuild S most post := by
  unfold wX1_rebuild
  have hw := vz_wbd O
  refine ⟨fun c i S' => 0 ≤ i ∧ i ≤ M 15 0 ∧ (vz_R1 most M i.toNat).1 = c ∧ vS (vz_R1 most M i.toNat).2 S', fun _ i _ => (401 - i).toNat, ⟨by omega, by omega, rfl, r⟩, ?_⟩
  rintro c i S' ⟨i0, i1, rfl, hr⟩
  obtain ⟨a, f, c0, d, e⟩ := vz_R1_ok I O most i.toNat (by omega)
  have OS := vO_fr f O
  have e15 := f 15 (by decide) (by decide) (by decide) (by decide)
  have fin : vz_R1 most M (M 15 0).toNat = vz_R1 most M i.toNat → ∀ K4 : Int → Int → vs_St → Prop, ∃ (J54 : Int → Int → vs_St → Prop) (μ54 : Int → Int → vs_St → Nat), J54 (vz_R1 most M i.toNat).1 0 S' ∧ ∀ (y54_0 : Int) (y54_1 : Int) (y54_2 : vs_St), J54 y54_0 y54_1 y54_2 → lX1_rebuild_54 most K4 (fun z54_0 z54_1 z54_2 => J54 z54_0 z54_1 z54_2 ∧ μ54 z54_0 z54_1 z54_2 < μ54 y54_0 y54_1 y54_2) post y54_0 y54_1 y54_2 := by
    intro q K4
    refine p_rebuild2 a OS hm ⟨c0, by omega⟩ hr (fun S2 h2 => ?_)
    unfold vz_reb at k
    rw [q] at k
    rw [e15] at h2 ⊢
    exact k S2 h2
  unfold lX1_rebuild_4
  rw [hr.wr, e15]
  refine ⟨⟨by omega, by omega⟩, ⟨by omega, by omega⟩, fun h => ?_, fun h => ⟨⟨by omega, by omega⟩, ⟨by omega, by omega⟩, fun q => ?_, fun q => ?_⟩⟩
  · exact fin (by rw [show i = M 15 0 by omega]) _
  · exact fin (vz_it_end (by omega) (fun j _ => vz_r1F q)) _
  · have ho := OS.od i i0 (by rw [e15]; exact h)
    rw [hr.od i i0 (by rw [e15]; exact h)]
    have es : vz_R1 most M (i + 1).toNat = vz_r1 most i.toNat (vz_R1 most M i.toNat) := by rw [show (i + 1).toNat = i.toNat + 1 by omega]; rfl
    have ei : ((i.toNat : Nat) : Int) = i := Int.toNat_of_nonneg i0
    refine ⟨⟨by omega, by omega⟩, p_hasLost a OS hr ho.1 ho.2.1 ⟨vz_bR _, fun w => ⟨⟨by omega, by omega, ?_⟩, by first | omega | (dsimp only; omega)⟩, fun w => ⟨⟨by omega, by omega⟩, p_completeBlock a OS hr ho.1 ho.2.1 ⟨by omega, by omega⟩ (fun S3 h3 v4 hv => ⟨⟨by omega, by omega, ?_⟩, by first | omega | (dsimp only; omega)⟩)⟩⟩⟩
    · rw [es, vz_r1L (by rw [ei]; exact vz_bp.mp w)]
      exact ⟨rfl, hr⟩
    · rw [es, vz_r1N (by rw [ei]; exact vz_bn.mp w), ei, vz_comp_sh]
      exact ⟨hv.symm, h3⟩
theorem q_rebuilds2 (I : vI M) (O : vO M) {most n : Int} (hm : 0 ≤ most ∧ most ≤ 1000000) (hn : 0 ≤ n ∧ n ≤ 10000) {K4 : Int → Int → vs_St → Prop} {post : Int → vs_St → Prop} (k : post (vz_R2 most n M (M 15 0).toNat).1 (vz_R2 most n M (M 15 0).toNat).2) :
    ∃ (J78 : Int → Int → vs_St → Prop) (μ78 : Int → Int → vs_St → Nat), J78 n 0 M ∧ ∀ (y78_0 : Int) (y78_1 : Int) (y78_2 : vs_St), J78 y78_0 y78_1 y78_2 → lX3_rebuilds_78 most K4 (fun z78_0 z78_1 z78_2 => J78 z78_0 z78_1 z78_2 ∧ μ78 z78_0 z78_1 z78_2 < μ78 y78_0 y78_1 y78_2) post y78_0 y78_1 y78_2 := by
  have hw := vz_wbd O
  refine ⟨fun c i S' => 0 ≤ i ∧ i ≤ M 15 0 ∧ vz_R2 most n M i.toNat = (c, S'), fun _ i _ => (401 - i).toNat, ⟨by omega, by omega, rfl⟩, ?_⟩
  rintro c i S' ⟨i0, i1, he⟩
  obtain ⟨a, f, c0, d, e⟩ := vz_R2_ok I O most n i.toNat (by omega)
  rw [he] at a f c0 d e
  have a : vI S' := a
  have f : vz_fr M S' := f
  have c0 : n ≤ c := c0
  have d : c ≤ n + 3 * (i.toNat : Int) := d
  have OS := vO_fr f O
  have e15 := f 15 (by decide) (by decide) (by decide) (by decide)
  unfold lX3_rebuilds_78
  rw [e15]
  refine ⟨⟨by omega, by omega⟩, ⟨by omega, by omega⟩, fun h => ?_, fun h => ?_⟩
  · have e : i = M 15 0 := by omega
    rw [e] at he
    rw [he] at k
    exact k
  · have ho := OS.od i i0 (by rw [e15]; exact h)
    have es : vz_R2 most n M (i + 1).toNat = vz_r2 most i.toNat (vz_R2 most n M i.toNat) := by rw [show (i + 1).toNat = i.toNat + 1 by omega]; rfl
    have ei : ((i.toNat : Nat) : Int) = i := Int.toNat_of_nonneg i0
    refine ⟨⟨by omega, by omega⟩, q_lost a OS ho.1 ho.2.1 ⟨vz_bR _, fun w => ⟨⟨by omega, by omega, ?_⟩, by first | omega | (dsimp only; omega)⟩, fun w => ⟨⟨by omega, by omega⟩, q_moves a ho.1 ho.2.1 ⟨by omega, by omega⟩ (fun v4 hv => ⟨⟨by omega, by omega, ?_⟩, by first | omega | (dsimp only; omega)⟩)⟩⟩⟩
    · rw [es, he, vz_r2L (by rw [ei]; exact vz_bp.mp w)]
    · rw [es, he, vz_r2N (by rw [ei]; exact vz_bn.mp w), ei, hv]
theorem q_rebuilds (I : vI M) (O : vO M) {most : Int} (hm : 0 ≤ most ∧ most ≤ 1000000) {post : Int → vs_St → Prop} (k : post (vz_reb most M).1 (vz_reb most M).2) : wX3_rebuilds M most post := by
  unfold wX3_rebuilds
  have hw := vz_wbd O
  refine ⟨fun c i S' => 0 ≤ i ∧ i ≤ M 15 0 ∧ vz_R1 most M i.toNat = (c, S'), fun _ i _ => (401 - i).toNat, ⟨by omega, by omega, rfl⟩, ?_⟩
  rintro c i S' ⟨i0, i1, he⟩
  obtain ⟨a, f, c0, d, e⟩ := vz_R1_ok I O most i.toNat (by omega)
  rw [he] at a f c0 d e
  have a : vI S' := a
  have f : vz_fr M S' := f
  have c0 : 0 ≤ c := c0
  have d : c ≤ 3 * (i.toNat : Int) := d
  have OS := vO_fr f O
  have e15 := f 15 (by decide) (by decide) (by decide) (by decide)
  unfold lX3_rebuilds_4
  rw [e15]
  refine ⟨⟨by omega, by omega⟩, ⟨by omega, by omega⟩, fun h => ?_, fun h => ⟨⟨by omega, by omega⟩, fun v5 hv => ?_⟩⟩
  · have e : i = M 15 0 := by omega
    rw [e] at he
    refine q_rebuilds2 a OS hm ⟨c0, by omega⟩ ?_
    unfold vz_reb at k
    rw [he] at k
    rw [e15]; exact k
  · have ho := OS.od i i0 (by rw [e15]; exact h)
    have es : vz_R1 most M (i + 1).toNat = vz_r1 most i.toNat (vz_R1 most M i.toNat) := by rw [show (i + 1).toNat = i.toNat + 1 by omega]; rfl
    have ei : ((i.toNat : Nat) : Int) = i := Int.toNat_of_nonneg i0
    rw [← hv] at ho
    refine q_complete a OS ho.1 ho.2.1 ho.2.2 ⟨by omega, by omega⟩ ⟨c0, by omega⟩ (fun w => ⟨⟨by omega, by omega, ?_⟩, by first | omega | (dsimp only; omega)⟩) (fun w => ⟨⟨by omega, by omega, ?_⟩, by first | omega | (dsimp only; omega)⟩)
    · rw [es, he, vz_r1L (by rw [ei]; show vz_lost S' (S' 13 i); rw [← hv]; exact w)]
    · rw [es, he, vz_r1N (by rw [ei]; show ¬ vz_lost S' (S' 13 i); rw [← hv]; exact w), ei]
      show vz_comp (S' 13 i) most c S' 3 = _
      rw [← hv]
-- a limit that is never reached
theorem vz_comp_lim {b m m' n : Int} {M : vs_St} (h : n + 3 ≤ m) (h' : n + 3 ≤ m') : ∀ k : Nat, k ≤ 3 → vz_comp b m n M k = vz_comp b m' n M k ∧ (vz_comp b m n M k).1 ≤ n + k
  | 0, _ => ⟨rfl, by show n ≤ n + ((0 : Nat) : Int); omega⟩
  | k + 1, hk => by
    obtain ⟨e, c⟩ := vz_comp_lim (b := b) (M := M) h h' k (by omega)
    rw [vz_comp_s, vz_comp_s, ← e]
    unfold vz_cstep
    by_cases q : (vz_comp b m n M k).2 10 b < (vz_comp b m n M k).2 16 (b / 100) ∧ 0 ≤ vz_place (vz_comp b m n M k).2 b
    · rw [if_pos ⟨by omega, q⟩, if_pos ⟨by omega, q⟩]
      exact ⟨rfl, by show _ + 1 ≤ n + ((k + 1 : Nat) : Int); omega⟩
    · rw [if_neg (fun z => q z.2), if_neg (fun z => q z.2)]
      exact ⟨rfl, by omega⟩
theorem vz_mv_lim {b m m' : Int} {M : vs_St} (h : 3 ≤ m) (h' : 3 ≤ m') : ∀ k : Nat, k ≤ 3 → vz_mv b m M k = vz_mv b m' M k ∧ (vz_mv b m M k).1 ≤ k
  | 0, _ => ⟨rfl, by show (0 : Int) ≤ ((0 : Nat) : Int); omega⟩
  | k + 1, hk => by
    obtain ⟨e, c⟩ := vz_mv_lim (b := b) (M := M) h h' k (by omega)
    rw [vz_mv_s, vz_mv_s, ← e]
    unfold vz_mstep
    have p1 : (vz_mv b m M k).1 < m := by omega
    have p2 : (vz_mv b m M k).1 < m' := by omega
    rw [if_pos p1, if_pos p2]
    refine ⟨rfl, ?_⟩
    split
    · show _ + 1 ≤ ((k + 1 : Nat) : Int); omega
    · show _ ≤ ((k + 1 : Nat) : Int); omega
theorem vz_reb_lim (I : vI M) (O : vO M) {m m' : Int} (h : 2400 ≤ m) (h' : 2400 ≤ m') : vz_reb m M = vz_reb m' M := by
  have hw := vz_wbd O
  have s1 : ∀ k : Nat, (k : Int) ≤ M 15 0 → vz_R1 m M k = vz_R1 m' M k := by
    intro k
    induction k with
    | zero => intro _; rfl
    | succ k ih =>
      intro hk
      have e := ih (by omega)
      obtain ⟨a, f, c0, d, _⟩ := vz_R1_ok I O m k (by omega)
      rw [vz_R1_s, vz_R1_s, ← e]
      rcases Classical.em (vz_lost (vz_R1 m M k).2 ((vz_R1 m M k).2 13 k)) with q | q
      · rw [vz_r1L q, vz_r1L q]
      · rw [vz_r1N q, vz_r1N q]
        exact (vz_comp_lim (by omega) (by omega) 3 (by omega)).1
  have hN := s1 (M 15 0).toNat (by omega)
  obtain ⟨a, f, c0, d, _⟩ := vz_R1_ok I O m (M 15 0).toNat (by omega)
  have OS := vO_fr f O
  have e15 := f 15 (by decide) (by decide) (by decide) (by decide)
  unfold vz_reb
  rw [← hN]
  have s2 : ∀ k : Nat, (k : Int) ≤ M 15 0 → vz_R2 m (vz_R1 m M (M 15 0).toNat).1 (vz_R1 m M (M 15 0).toNat).2 k = vz_R2 m' (vz_R1 m M (M 15 0).toNat).1 (vz_R1 m M (M 15 0).toNat).2 k := by
    intro k
    induction k with
    | zero => intro _; rfl
    | succ k ih =>
      intro hk
      have e := ih (by omega)
      obtain ⟨a2, f2, c2, d2, _⟩ := vz_R2_ok a OS m (vz_R1 m M (M 15 0).toNat).1 k (by rw [e15]; omega)
      have ho := (vO_fr f2 OS).od k (by omega) (by rw [f2 15 (by decide) (by decide) (by decide) (by decide), e15]; omega)
      have hm := a2.mn _ ho.1 ho.2.1
      rw [vz_R2_s, vz_R2_s, ← e]
      rcases Classical.em (vz_lost (vz_R2 m (vz_R1 m M (M 15 0).toNat).1 (vz_R1 m M (M 15 0).toNat).2 k).2 ((vz_R2 m (vz_R1 m M (M 15 0).toNat).1 (vz_R1 m M (M 15 0).toNat).2 k).2 13 k)) with q | q
      · rw [vz_r2L q, vz_r2L q]
      · rw [vz_r2N q, vz_r2N q, (vz_mv_lim (m := m - (vz_R2 m (vz_R1 m M (M 15 0).toNat).1 (vz_R1 m M (M 15 0).toNat).2 k).1) (m' := m' - (vz_R2 m (vz_R1 m M (M 15 0).toNat).1 (vz_R1 m M (M 15 0).toNat).2 k).1) (by omega) (by omega) _ (by omega)).1]
  exact s2 _ (by omega)
end VZ7
