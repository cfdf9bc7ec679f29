/-! pure part: more cases that only read; by program (wip/whole/pure/p67.py) -/
section VZH
variable {M S K V T O : vs_St}

theorem okc_18 : vs_okc_18 vZ := by
  intro V S T K O M B LN i p1 p2 p3 h1 h2 h3 Z
  obtain ⟨Y, L⟩ := Z
  have Y0 := vY_0 Y 0
  have Y1 := vY_0 Y 1
  have htn := Y.A.Q.tn
  unfold wcase_18 wL_copiesOf wX2_copiesOf wX3_copiesOf
  refine p_checkBlock Y h1 h2 (fun d0 d1 d2 d3 => ?_) (fun hn => ⟨fun _ => q_isNone Y.A.Q.tn h1 h2 (fun z0 z1 z2 z3 => absurd ⟨z0, z1, z2, z3⟩ hn) (fun _ => ⟨vR1, fun z => by omega, fun _ => w_ex (vz_00 M 1) (by omega) vR1 ⟨Y1, L⟩⟩), rfl⟩)
  have eb : p1 * 100 + p2 = 100 * p1 + p2 := by omega
  have b0 : 0 ≤ 100 * p1 + p2 := by omega
  have b1 : 100 * p1 + p2 < 400 := by omega
  unfold wX2_blockId
  rw [eb]
  have hm := Y.A.I.mn _ b0 b1
  dsimp only
  rw [Y.r.mn _ b0 b1]
  refine ⟨⟨b0, b1⟩, ⟨by omega, by omega⟩, fun O2 e2 => ?_⟩
  refine q_isNone Y.A.Q.tn h1 h2 (fun _ _ _ _ => ⟨vs_R0, fun _ => ?_, fun z => absurd rfl z⟩) (fun z => absurd ⟨d0, d1, d2, d3⟩ z)
  exact ⟨⟨b0, b1⟩, w_ok (vz_00 M 0) ⟨by show _ ≤ M 10 _; omega, by show M 10 _ ≤ _; omega⟩ (by rw [e2, vz_00]; rfl) ⟨Y0, L⟩⟩

theorem okc_19 : vs_okc_19 vZ := by
  intro V S T K O M B LN i p1 p2 p3 h1 h2 h3 Z
  obtain ⟨Y, L⟩ := Z
  have Y0 := vY_0 Y 0
  have Y1 := vY_0 Y 1
  have htn := Y.A.Q.tn
  unfold wcase_19 wL_copiesByDisks wX2_copiesByDisks wX3_copiesByDisks
  refine p_checkBlock Y h1 h2 (fun d0 d1 d2 d3 => ?_) (fun hn => ⟨fun _ => q_isNone Y.A.Q.tn h1 h2 (fun z0 z1 z2 z3 => absurd ⟨z0, z1, z2, z3⟩ hn) (fun _ => ⟨vR1, fun z => by omega, fun _ => w_ex (vz_00 M 1) (by omega) vR1 ⟨Y1, L⟩⟩), rfl⟩)
  have eb : p1 * 100 + p2 = 100 * p1 + p2 := by omega
  have b0 : 0 ≤ 100 * p1 + p2 := by omega
  have b1 : 100 * p1 + p2 < 400 := by omega
  unfold wX2_blockId
  rw [eb]
  have hd := Y.A.I.dk
  have hcb := vz_cnt_bd (fun s => M 3 s = 100 * p1 + p2) (32 * M 7 0).toNat
  refine p_countInSlots Y.A.I Y.r b0 b1 ⟨⟨by omega, by omega⟩, fun O2 e2 => ?_⟩
  refine q_isNone Y.A.Q.tn h1 h2 (fun _ _ _ _ => ⟨vs_R0, fun _ => ?_, fun z => absurd rfl z⟩) (fun z => absurd ⟨d0, d1, d2, d3⟩ z)
  refine ⟨fun m i => 0 ≤ i ∧ i ≤ 32 * M 7 0 ∧ m = vz_cnt (fun s => M 3 s = 100 * p1 + p2) i.toNat, fun _ i => (257 - i).toNat, ⟨by omega, by omega, rfl⟩, ?_⟩
  rintro m i ⟨i0, i1, rfl⟩
  show lX3_copiesByDisks_16 (vs_st M 0 0 0) p1 p2 _ _ _ _
  unfold lX3_copiesByDisks_16
  show (vs_R i) ∧ (vs_R (32 * M 7 0)) ∧ (32 * M 7 0 ≤ i → _) ∧ (i < 32 * M 7 0 → (0 ≤ i ∧ i < 256) ∧ (vs_R (M 3 i)) ∧ (vs_R (100 * p1 + p2)) ∧ (¬ M 3 i = 100 * p1 + p2 → ∀ v3 : Int, v3 = _ → _) ∧ (M 3 i = 100 * p1 + p2 → ∀ v4 : Int, v4 = _ → _))
  refine ⟨⟨by omega, by omega⟩, ⟨by omega, by omega⟩, fun h => ?_, fun h => ⟨⟨i0, by omega⟩, vz_M3R Y.A.I i0 h, ⟨by omega, by omega⟩, fun q v e => ⟨⟨by omega, by omega, ?_⟩, by first | omega | (dsimp only; omega)⟩, fun q v e => ⟨⟨by omega, by omega, ?_⟩, by first | omega | (dsimp only; omega)⟩⟩⟩
  · have e : i = 32 * M 7 0 := by omega
    rw [e]
    exact w_ok (vz_00 M 0) ⟨by omega, by omega⟩ (by rw [e2, vz_00]) ⟨Y0, L⟩
  · rw [vz_cnt_step _ i0, vz_b0 q, e]
  · rw [vz_cnt_step _ i0, vz_b1 q, e]

theorem okc_20 : vs_okc_20 vZ := by
  intro V S T K O M B LN i p1 p2 p3 h1 h2 h3 Z
  obtain ⟨Y, L⟩ := Z
  have Y0 := vY_0 Y 0
  have Y1 := vY_0 Y 1
  have htn := Y.A.Q.tn
  unfold wcase_20 wL_diskOfCopy wX2_diskOfCopy wX3_diskOfCopy
  refine p_checkBlock Y h1 h2 (fun d0 d1 d2 d3 => ?_) (fun hn => ⟨fun _ => q_isNone Y.A.Q.tn h1 h2 (fun z0 z1 z2 z3 => absurd ⟨z0, z1, z2, z3⟩ hn) (fun _ => ⟨vR1, fun z => by omega, fun _ => w_ex (vz_00 M 1) (by omega) vR1 ⟨Y1, L⟩⟩), fun z => by omega, Or.inl rfl⟩)
  have eb : p1 * 100 + p2 = 100 * p1 + p2 := by omega
  have b0 : 0 ≤ 100 * p1 + p2 := by omega
  have b1 : 100 * p1 + p2 < 400 := by omega
  unfold wX2_blockId
  rw [eb]
  have Y2 := vY_0 Y0 2
  have hm := Y.A.I.mn _ b0 b1
  have hd := Y.A.I.dk
  dsimp only
  rw [Y.r.mn _ b0 b1]
  have no : ¬ (0 ≤ p3 ∧ p3 < M 10 (100 * p1 + p2)) → ∀ {P : Prop}, False ∨ True := fun _ _ => Or.inr trivial
  refine ⟨h3, fun q => ⟨fun z => by omega, fun _ => ?_, Or.inr rfl⟩, fun q => ⟨⟨b0, b1⟩, h3, ⟨by omega, by omega⟩, fun w => ?_, fun w => ⟨fun z => by omega, fun _ => ?_, Or.inr rfl⟩⟩⟩
  · refine q_isNone Y.A.Q.tn h1 h2 (fun _ _ _ _ => ⟨vs_R0, fun _ => ⟨⟨b0, b1⟩, q_isBetween h3 ⟨by omega, by omega⟩ ⟨by show _ ≤ M 10 _ - 1; omega, by show M 10 _ - 1 ≤ _; omega⟩ ⟨vz_bR _, fun _ => q_fails (w_ex (vz_00 _ 2) (by omega) vR2 ⟨Y2, L⟩), fun z => ?_⟩⟩, fun z => absurd rfl z⟩) (fun z => absurd ⟨d0, d1, d2, d3⟩ z)
    have := vz_bp.mp z
    omega
  · have hc := Y.A.I.cp _ p3 b0 b1 q w
    refine p_addressOf Y.A.I Y.r b0 b1 q w ⟨⟨by omega, by omega⟩, ⟨by omega, by omega⟩, fun O2 e2 => ?_⟩
    refine q_isNone Y.A.Q.tn h1 h2 (fun _ _ _ _ => ⟨vs_R0, fun _ => ⟨⟨b0, b1⟩, q_isBetween h3 ⟨by omega, by omega⟩ ⟨by show _ ≤ M 10 _ - 1; omega, by show M 10 _ - 1 ≤ _; omega⟩ ⟨vz_bR _, fun z => ?_, fun _ => ⟨⟨b0, b1⟩, ⟨q, by omega⟩, ⟨by show 0 ≤ M 8 _; omega, by show M 8 _ ≤ _; omega⟩, w_ok (vz_00 M 0) ⟨by show _ ≤ M 8 _ / 32; omega, by show M 8 _ / 32 ≤ _; omega⟩ (by rw [e2, vz_00]; rfl) ⟨Y0, L⟩⟩⟩⟩, fun z => absurd rfl z⟩) (fun z => absurd ⟨d0, d1, d2, d3⟩ z)
    have z := vz_bn.mp z
    exact absurd ⟨q, by show p3 ≤ M 10 _ - 1; omega⟩ z
  · refine q_isNone Y.A.Q.tn h1 h2 (fun _ _ _ _ => ⟨vs_R0, fun _ => ⟨⟨b0, b1⟩, q_isBetween h3 ⟨by omega, by omega⟩ ⟨by show _ ≤ M 10 _ - 1; omega, by show M 10 _ - 1 ≤ _; omega⟩ ⟨vz_bR _, fun _ => q_fails (w_ex (vz_00 _ 2) (by omega) vR2 ⟨Y2, L⟩), fun z => ?_⟩⟩, fun z => absurd rfl z⟩) (fun z => absurd ⟨d0, d1, d2, d3⟩ z)
    have z : 0 ≤ p3 ∧ p3 ≤ M 10 (100 * p1 + p2) - 1 := vz_bp.mp z
    omega

theorem okc_21 : vs_okc_21 vZ := by
  intro V S T K O M B LN i p1 p2 p3 h1 h2 h3 Z
  obtain ⟨Y, L⟩ := Z
  have Y0 := vY_0 Y 0
  have Y1 := vY_0 Y 1
  have htn := Y.A.Q.tn
  unfold wcase_21 wL_valueOf wX2_valueOf wX3_valueOf
  refine p_checkBlock Y h1 h2 (fun d0 d1 d2 d3 => ?_) (fun hn => ⟨fun _ => q_isNone Y.A.Q.tn h1 h2 (fun z0 z1 z2 z3 => absurd ⟨z0, z1, z2, z3⟩ hn) (fun _ => ⟨vR1, fun z => by omega, fun _ => w_ex (vz_00 M 1) (by omega) vR1 ⟨Y1, L⟩⟩), fun z => by omega, Or.inl rfl⟩)
  have eb : p1 * 100 + p2 = 100 * p1 + p2 := by omega
  have b0 : 0 ≤ 100 * p1 + p2 := by omega
  have b1 : 100 * p1 + p2 < 400 := by omega
  unfold wX2_blockId
  rw [eb]
  have Y2 := vY_0 Y0 2
  refine p_disksWithGood Y.A.I Y.r b0 b1 (fun m hm => ?_)
  have hr := hm.rg
  have hz := vz_hasG_z Y.A.I b0 b1 hm
  have hg := vz_good_bd Y.A.I b0 b1
  have eg : vz_good (vs_st M 0 0 0) (100 * p1 + p2) = vz_good M (100 * p1 + p2) := rfl
  refine ⟨⟨by omega, by omega⟩, fun q => ⟨⟨b0, b1⟩, ?_⟩, fun q => ⟨fun z => by omega, fun _ => ?_, Or.inr rfl⟩⟩
  · have g1 : vz_good M (100 * p1 + p2) ≠ 0 := fun e => q (hz.mpr e)
    have hpos : 0 < M 10 (100 * p1 + p2) := by
      have hm := Y.A.I.mn _ b0 b1
      rcases Int.lt_or_le 0 (M 10 (100 * p1 + p2)) with e | e
      · exact e
      · exact absurd (by unfold vz_good; rw [show M 10 (100 * p1 + p2) = 0 by omega]; rfl) g1
    have h14 := Y.A.V _ b0 b1 hpos
    have h12 := Y.A.O.vl _ b0 b1 h14
    rw [Y.r.vl _ b0 b1, if_neg h14]
    refine ⟨⟨by omega, by omega⟩, fun O2 e2 => q_isNone Y.A.Q.tn h1 h2 (fun _ _ _ _ => ⟨vs_R0, fun _ => q_goodOf Y0.A.I b0 b1 ?_, fun z => absurd rfl z⟩) (fun z => absurd ⟨d0, d1, d2, d3⟩ z)⟩
    rw [eg]
    exact ⟨⟨by omega, by omega⟩, fun z => by omega, fun _ => ⟨⟨b0, b1⟩, w_ok (vz_00 M 0) ⟨by show _ ≤ M 12 _; omega, by show M 12 _ ≤ _; omega⟩ (by rw [e2, vz_00]; rfl) ⟨Y0, L⟩⟩⟩
  · refine q_isNone Y.A.Q.tn h1 h2 (fun _ _ _ _ => ⟨vs_R0, fun _ => q_goodOf Y0.A.I b0 b1 ?_, fun z => absurd rfl z⟩) (fun z => absurd ⟨d0, d1, d2, d3⟩ z)
    rw [eg, hz.mp q]
    exact ⟨vs_R0, fun _ => q_fails (w_ex (vz_00 _ 2) (by omega) vR2 ⟨Y2, L⟩), fun z => by omega⟩

theorem okc_22 : vs_okc_22 vZ := by
  intro V S T K O M B LN i p1 p2 p3 h1 h2 h3 Z
  obtain ⟨Y, L⟩ := Z
  have Y0 := vY_0 Y 0
  have Y1 := vY_0 Y 1
  have htn := Y.A.Q.tn
  unfold wcase_22 wL_isLost wX2_isLost wX3_isLost
  refine p_checkBlock Y h1 h2 (fun d0 d1 d2 d3 => ?_) (fun hn => ⟨fun _ => q_isNone Y.A.Q.tn h1 h2 (fun z0 z1 z2 z3 => absurd ⟨z0, z1, z2, z3⟩ hn) (fun _ => ⟨vR1, fun _ => w_ex (vz_00 M 1) (by omega) vR1 ⟨Y1, L⟩, fun z => by omega⟩), rfl⟩)
  have eb : p1 * 100 + p2 = 100 * p1 + p2 := by omega
  have b0 : 0 ≤ 100 * p1 + p2 := by omega
  have b1 : 100 * p1 + p2 < 400 := by omega
  unfold wX2_blockId
  rw [eb]
  refine p_hasLost Y.A.I Y.A.O Y.r b0 b1 ⟨vz_b01 _, vz_bR _, fun q O2 e2 => ?_, fun q O2 e2 => ?_⟩
  · refine q_isNone Y.A.Q.tn h1 h2 (fun _ _ _ _ => ⟨vs_R0, fun z => absurd rfl z, fun _ => q_lost Y0.A.I Y0.A.O b0 b1 ⟨vz_bR _, fun _ => w_okb (vz_00 M 0) (Or.inl rfl) (by rw [e2, vz_00]) ⟨Y0, L⟩, fun z => absurd (vz_bp.mp z) (vz_bn.mp q)⟩⟩) (fun z => absurd ⟨d0, d1, d2, d3⟩ z)
  · refine q_isNone Y.A.Q.tn h1 h2 (fun _ _ _ _ => ⟨vs_R0, fun z => absurd rfl z, fun _ => q_lost Y0.A.I Y0.A.O b0 b1 ⟨vz_bR _, fun z => absurd (vz_bp.mp q) (vz_bn.mp z), fun _ => w_okb (vz_00 M 0) (Or.inr rfl) (by rw [e2, vz_00]) ⟨Y0, L⟩⟩⟩) (fun z => absurd ⟨d0, d1, d2, d3⟩ z)

theorem okc_23 : vs_okc_23 vZ := by
  intro V S T K O M B LN i p1 p2 p3 h1 h2 h3 Z
  obtain ⟨Y, L⟩ := Z
  have Y0 := vY_0 Y 0
  have Y1 := vY_0 Y 1
  have hw := vz_wbd Y.A.O
  have hcb := vz_cnt_bd (fun i => vz_lost M (M 13 i)) (M 15 0).toNat
  have hco : ∀ i : Int, 0 ≤ i → i < M 15 0 → (vz_lost (vs_st M 0 0 0) (M 13 i) ↔ vz_lost M (M 13 i)) := by
    intro i i0 i1
    exact Iff.rfl
  unfold wcase_23 wX2_lostBlocks wX3_lostBlocks
  refine p_countLost Y.A.I Y.A.O Y.r (fun S1 e1 => ?_)
  subst e1
  refine ⟨fun m i => 0 ≤ i ∧ i ≤ M 15 0 ∧ m = vz_cnt (fun i => vz_lost M (M 13 i)) i.toNat, fun _ i => (401 - i).toNat, ⟨by omega, by omega, rfl⟩, ?_⟩
  rintro m i ⟨i0, i1, rfl⟩
  unfold lX3_lostBlocks_9
  show (vs_R i) ∧ (vs_R (M 15 0)) ∧ (M 15 0 ≤ i → _) ∧ (i < M 15 0 → (0 ≤ i ∧ i < 400) ∧ wX3_lost (vs_st M 0 0 0) (M 13 i) _)
  refine ⟨⟨by omega, by omega⟩, ⟨by omega, by omega⟩, fun h => ?_, fun h => ?_⟩
  · have e : i = M 15 0 := by omega
    rw [e]
    exact w_eq rfl ⟨by omega, by omega⟩ ⟨Y0, L⟩
  · have ho := Y.A.O.od i i0 h
    refine ⟨⟨i0, by omega⟩, q_lost Y0.A.I Y0.A.O ho.1 ho.2.1 ⟨vz_bR _, fun q v e => ⟨⟨by omega, by omega, ?_⟩, by first | omega | (dsimp only; omega)⟩, fun q v e => ⟨⟨by omega, by omega, ?_⟩, by first | omega | (dsimp only; omega)⟩⟩⟩
    · rw [vz_cnt_step _ i0, vz_b0 (fun z => vz_bn.mp q ((hco i i0 h).mpr z)), e]
    · rw [vz_cnt_step _ i0, vz_b1 ((hco i i0 h).mp (vz_bp.mp q)), e]

theorem okc_24 : vs_okc_24 vZ := by
  intro V S T K O M B LN i p1 p2 p3 h1 h2 h3 Z
  obtain ⟨Y, L⟩ := Z
  have Y0 := vY_0 Y 0
  have Y1 := vY_0 Y 1
  have hw := vz_wbd Y.A.O
  have hcb := vz_cnt_bd (fun i => M 10 (M 13 i) < M 16 (M 13 i / 100)) (M 15 0).toNat
  have hco : ∀ i : Int, 0 ≤ i → i < M 15 0 → (vz_degr (vs_st M 0 0 0) (M 13 i) ↔ M 10 (M 13 i) < M 16 (M 13 i / 100)) := by
    intro i i0 i1
    exact ⟨fun z => z.2, fun z => ⟨(Y.A.O.od i i0 i1).2.2, z⟩⟩
  unfold wcase_24 wX2_degradedBlocks wX3_degradedBlocks
  refine p_countDegraded Y.A.I Y.A.O Y.r (fun S1 e1 => ?_)
  subst e1
  refine ⟨fun m i => 0 ≤ i ∧ i ≤ M 15 0 ∧ m = vz_cnt (fun i => M 10 (M 13 i) < M 16 (M 13 i / 100)) i.toNat, fun _ i => (401 - i).toNat, ⟨by omega, by omega, rfl⟩, ?_⟩
  rintro m i ⟨i0, i1, rfl⟩
  unfold lX3_degradedBlocks_9
  show (vs_R i) ∧ (vs_R (M 15 0)) ∧ (M 15 0 ≤ i → _) ∧ (i < M 15 0 → (0 ≤ i ∧ i < 400) ∧ wX3_degraded (vs_st M 0 0 0) (M 13 i) _)
  refine ⟨⟨by omega, by omega⟩, ⟨by omega, by omega⟩, fun h => ?_, fun h => ?_⟩
  · have e : i = M 15 0 := by omega
    rw [e]
    exact w_eq rfl ⟨by omega, by omega⟩ ⟨Y0, L⟩
  · have ho := Y.A.O.od i i0 h
    refine ⟨⟨i0, by omega⟩, q_degraded Y0.A.I Y0.A.O ho.1 ho.2.1 ⟨vz_bR _, fun q v e => ⟨⟨by omega, by omega, ?_⟩, by first | omega | (dsimp only; omega)⟩, fun q v e => ⟨⟨by omega, by omega, ?_⟩, by first | omega | (dsimp only; omega)⟩⟩⟩
    · rw [vz_cnt_step _ i0, vz_b0 (fun z => vz_bn.mp q ((hco i i0 h).mpr z)), e]
    · rw [vz_cnt_step _ i0, vz_b1 ((hco i i0 h).mp (vz_bp.mp q)), e]

theorem okc_32 : vs_okc_32 vZ := by
  intro V S T K O M B LN i p1 p2 p3 h1 h2 h3 Z
  obtain ⟨Y, L⟩ := Z
  have Y0 := vY_0 Y 0
  have Y1 := vY_0 Y 1
  have hdk := Y.A.I.dk
  unfold wcase_32 wL_rottenOn wX2_rottenOn wX3_rottenOn
  refine p_checkDisk Y h1 (fun d0 d1 => ?_) (fun hn => ⟨fun _ => q_isNoDisk Y.A.I.dk h1 (fun z0 z1 => absurd ⟨z0, z1⟩ hn) (fun _ => ⟨vR1, fun z => by omega, fun _ => w_ex (vz_00 M 1) (by omega) vR1 ⟨Y1, L⟩⟩), rfl⟩)
  have hs := Y.A.I.sz p1 d0 d1
  have hcb := vz_cnt_bd (fun j => 0 ≤ M 3 (32 * p1 + j) ∧ M 5 (32 * p1 + j) ≠ 0) (M 1 p1).toNat
  have h5 : ∀ s : Int, 0 ≤ s → s < 32 * M 7 0 → vs_R (S 5 s) ∧ (¬ S 5 s = 0 ↔ 0 ≤ M 3 s ∧ M 5 s ≠ 0) := by
    intro s s0 s1
    have hr := Y.A.I.rt s s0 (by omega)
    rw [Y.r.rt s s0 s1]
    by_cases q : M 3 s < 0
    · rw [if_pos q]; exact ⟨vs_R0, fun z => absurd rfl z, fun z => by omega⟩
    · rw [if_neg q]; exact ⟨⟨by omega, by omega⟩, fun z => ⟨by omega, z⟩, fun z => z.2⟩
  unfold wX1_countRotten
  intro v1 hv
  subst hv
  refine ⟨fun m i => p1 * 32 ≤ i ∧ i ≤ p1 * 32 + M 1 p1 ∧ m = vz_cnt (fun j => 0 ≤ M 3 (32 * p1 + j) ∧ M 5 (32 * p1 + j) ≠ 0) (i - p1 * 32).toNat, fun _ i => (400 - i).toNat, ⟨by omega, by omega, by rw [Int.sub_self]; rfl⟩, ?_⟩
  rintro m i ⟨i0, i1, rfl⟩
  unfold lX1_countRotten_10
  rw [Y.r.sz p1 d0 d1]
  have es : ∀ i : Int, p1 * 32 ≤ i → (i + 1 - p1 * 32).toNat = ((i - p1 * 32) + 1).toNat := by intro i h; congr 1; omega
  have ei : ∀ i : Int, 32 * p1 + (i - p1 * 32) = i := by intro i; omega
  refine ⟨⟨d0, by omega⟩, ⟨by omega, by omega⟩, ⟨by omega, by omega⟩, fun h => ?_, fun h => ⟨⟨by omega, by omega⟩, (h5 i (by omega) (by omega)).1, fun q => ⟨⟨by omega, by omega, ?_⟩, by first | omega | (dsimp only; omega)⟩, fun q => ⟨⟨by omega, by omega, ?_⟩, by first | omega | (dsimp only; omega)⟩⟩⟩
  · have e : i - p1 * 32 = M 1 p1 := by omega
    rw [e]
    refine ⟨⟨by omega, by omega⟩, fun O2 e2 => ?_⟩
    refine q_isNoDisk Y.A.I.dk h1 (fun _ _ => ⟨vs_R0, fun _ v3 hv3 => ?_, fun z => absurd rfl z⟩) (fun z => absurd ⟨d0, d1⟩ z)
    subst hv3
    refine ⟨fun m i => p1 * 32 ≤ i ∧ i ≤ p1 * 32 + M 1 p1 ∧ m = vz_cnt (fun j => 0 ≤ M 3 (32 * p1 + j) ∧ M 5 (32 * p1 + j) ≠ 0) (i - p1 * 32).toNat, fun _ i => (400 - i).toNat, ⟨by omega, by omega, by rw [show 32 * p1 - p1 * 32 = 0 by omega]; rfl⟩, ?_⟩
    rintro m i ⟨i0, i1, rfl⟩
    unfold lX3_rottenOn_17
    show (0 ≤ p1 ∧ p1 < 8) ∧ (vs_R i) ∧ (vs_R (32 * p1 + M 1 p1)) ∧ (32 * p1 + M 1 p1 ≤ i → _) ∧ (i < 32 * p1 + M 1 p1 → (0 ≤ i ∧ i < 256) ∧ (vs_R (M 3 i)) ∧ (M 3 i < 0 → ∀ v4 : Int, v4 = _ → _) ∧ (0 ≤ M 3 i → (0 ≤ i ∧ i < 256) ∧ (vs_R (M 5 i)) ∧ (M 5 i = 0 → ∀ v5 : Int, v5 = _ → _) ∧ (¬ M 5 i = 0 → ∀ v6 : Int, v6 = _ → _)))
    refine ⟨⟨d0, by omega⟩, ⟨by omega, by omega⟩, ⟨by omega, by omega⟩, fun h => ?_, fun h => ?_⟩
    · have e : i - p1 * 32 = M 1 p1 := by omega
      rw [e]
      exact w_ok (vz_00 M 0) ⟨by omega, by omega⟩ (by rw [e2, vz_00]) ⟨Y0, L⟩
    · have hr := Y.A.I.rt i (by omega) (by omega)
      refine ⟨⟨by omega, by omega⟩, vz_M3R Y.A.I (by omega) (by omega), fun q v e => ⟨⟨by omega, by omega, ?_⟩, by first | omega | (dsimp only; omega)⟩, fun q => ⟨⟨by omega, by omega⟩, ⟨by omega, by omega⟩, fun w v e => ⟨⟨by omega, by omega, ?_⟩, by first | omega | (dsimp only; omega)⟩, fun w v e => ⟨⟨by omega, by omega, ?_⟩, by first | omega | (dsimp only; omega)⟩⟩⟩
      · rw [es i i0, vz_cnt_step _ (by omega), ei, vz_b0 (fun z => by omega), e]
      · rw [es i i0, vz_cnt_step _ (by omega), ei, vz_b0 (fun z => z.2 w), e]
      · rw [es i i0, vz_cnt_step _ (by omega), ei, vz_b1 ⟨q, w⟩, e]
  · rw [es i i0, vz_cnt_step _ (by omega), ei, vz_b0 (fun z => ((h5 i (by omega) (by omega)).2.mpr z) q), Int.add_zero]
  · rw [es i i0, vz_cnt_step _ (by omega), ei, vz_b1 ((h5 i (by omega) (by omega)).2.mp q)]
end VZH
