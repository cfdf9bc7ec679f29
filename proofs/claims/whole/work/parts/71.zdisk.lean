/-! pure part: replace, warn, rot, scrub, openRebuilds -/
section VZL
variable {M S K V T O : vs_St}
theorem vI_st2 (I : vI M) {d z : Int} (hz : z = 115 ∨ z = 119 ∨ z = 102) (hf : z = 102 → ∀ b k : Int, 0 ≤ b → b < 400 → 0 ≤ k → k < M 10 b → M 8 (3 * b + k) / 32 ≠ d) : vI (vs_st M 2 d z) := by
  refine ⟨I.dk, I.sz, fun d' d0 d1 => ?_, I.mn, fun b k a0 a1 k0 k1 => ?_, I.ds, I.hd, I.rt, I.sm⟩
  · show (if d' = d then z else M 2 d') = 115 ∨ (if d' = d then z else M 2 d') = 119 ∨ (if d' = d then z else M 2 d') = 102
    split
    · exact hz
    · exact I.stt d' d0 d1
  · have hc := I.cp b k a0 a1 k0 k1
    refine ⟨hc.1, hc.2.1, hc.2.2.1, hc.2.2.2.1, ?_⟩
    show (if M 8 (3 * b + k) / 32 = d then z else M 2 (M 8 (3 * b + k) / 32)) ≠ 102
    by_cases e : M 8 (3 * b + k) / 32 = d
    · rw [if_pos e]; intro w; exact hf w b k a0 a1 k0 k1 e
    · rw [if_neg e]; exact hc.2.2.2.2
theorem vS_st2 (r : vS M S) {d z : Int} (d1 : d < M 7 0) : vS (vs_st M 2 d z) (vs_st S 3 d z) := by
  refine ⟨r.dk, r.sz, r.us, r.us0, fun d' a0 a1 => ?_, fun d' a0 a1 => ?_, r.hd, r.hd0, r.rt, r.rt0, r.wn, r.vl, r.mn, r.cp, r.wr, r.od⟩
  · show (if d' = d then z else S 3 d') = if d' = d then z else M 2 d'
    rw [r.stt d' a0 a1]
  · have a0 : M 7 0 ≤ d' := a0
    show (if d' = d then z else S 3 d') = 0
    rw [if_neg (by omega)]; exact r.st0 d' a0 a1
theorem vY_st2 (Y : vY M V S K) {d z : Int} (hz : z = 115 ∨ z = 119) (d1 : d < M 7 0) : vY (vs_st M 2 d z) V (vs_st S 3 d z) K :=
  ⟨⟨vI_st2 Y.A.I (by omega) (fun e => by omega), vO_eq Y.A.O rfl rfl rfl rfl rfl, Y.A.V, Y.A.Q, Y.A.T, Y.A.P⟩, Y.C, vS_st2 Y.r d1, vK_kq Y.k (fun c h => vs_st_ne _ (by intro e; subst e; exact nomatch h) _ _), Y.v⟩
theorem okc_28 : vs_okc_28 vZ := by
  intro V S T K O M B LN i p1 p2 p3 h1 h2 h3 Z
  obtain ⟨Y, L⟩ := Z
  have Y0 := vY_0 Y 0
  have Y1 := vY_0 Y 1
  have Y2 := vY_0 Y0 2
  have hdk := Y.A.I.dk
  unfold wcase_28 wL_replace wX2_replace wX3_replace
  refine p_checkDisk Y h1 (fun d0 d1 => ?_) (fun hn => ⟨fun _ => q_isNoDisk Y.A.I.dk h1 (fun z0 z1 => absurd ⟨z0, z1⟩ hn) (fun _ => ⟨vR1, fun z => by omega, fun _ => w_ex (vz_00 M 1) (by omega) vR1 ⟨Y1, L⟩⟩), fun z => by omega, Or.inl rfl⟩)
  have hs := Y.A.I.stt p1 d0 d1
  rw [Y.r.stt p1 d0 d1]
  refine ⟨⟨d0, by omega⟩, ⟨by omega, by omega⟩, fun q => ⟨⟨d0, by omega⟩, fun S1 e1 => ?_⟩, fun q => ⟨fun z => by omega, fun _ => ?_, Or.inr rfl⟩⟩
  · subst e1
    have Yn := vY_st2 Y0 (z := 115) (Or.inl rfl) d1
    refine p_disksInState Yn.A.I Yn.r ⟨by omega, by omega⟩ (fun m hm => hm.cnt ?_)
    have ec : vz_cnt (fun d => d < vs_st (vs_st M 0 0 0) 2 p1 115 7 0 ∧ vs_st (vs_st M 0 0 0) 2 p1 115 2 d = 115) 8 = vz_cnt (fun d => vs_st (vs_st M 0 0 0) 2 p1 115 2 d = 115) (M 7 0).toNat := vz_cnt_tail (by omega) (fun i i0 i1 => ⟨fun z => z.2, fun z => ⟨by show i < M 7 0; omega, z⟩⟩) (fun i i0 i1 z => by
      have z : i < M 7 0 := z.1
      omega)
    rw [ec]
    have hcb := vz_cnt_bd (fun d => vs_st (vs_st M 0 0 0) 2 p1 115 2 d = 115) (M 7 0).toNat
    refine ⟨⟨by omega, by omega⟩, fun O2 e2 => q_isNoDisk Y.A.I.dk h1 (fun _ _ => ⟨vs_R0, fun _ => ⟨⟨d0, by omega⟩, ⟨by show _ ≤ M 2 p1; omega, by show M 2 p1 ≤ _; omega⟩, fun _ => ⟨⟨d0, by omega⟩, fun S3 e3 => ?_⟩, fun z => absurd q z⟩, fun z => absurd rfl z⟩) (fun z => absurd ⟨d0, d1⟩ z)⟩
    subst e3
    unfold wX3_sound
    refine ⟨fun m i => 0 ≤ i ∧ i ≤ M 7 0 ∧ m = vz_cnt (fun d => vs_st (vs_st M 0 0 0) 2 p1 115 2 d = 115) i.toNat, fun _ i => (9 - i).toNat, ⟨by omega, by omega, rfl⟩, ?_⟩
    rintro m i ⟨i0, i1, rfl⟩
    unfold lX3_sound_4
    refine ⟨⟨by omega, by omega⟩, ⟨by show _ ≤ M 7 0; omega, by show M 7 0 ≤ _; omega⟩, fun h => ?_, fun h => ?_⟩
    · have h : M 7 0 ≤ i := h
      have e : i = M 7 0 := by omega
      rw [e]
      exact w_ok (vz_00 M 0) ⟨by omega, by omega⟩ (by rw [e2, vz_00]) ⟨Yn, L⟩
    · have h : i < M 7 0 := h
      have hi := Yn.A.I.stt i i0 h
      refine ⟨⟨i0, by omega⟩, ⟨by omega, by omega⟩, fun w v e => ⟨⟨by omega, by omega, ?_⟩, by first | omega | (dsimp only; omega)⟩, fun w v e => ⟨⟨by omega, by omega, ?_⟩, by first | omega | (dsimp only; omega)⟩⟩
      · rw [vz_cnt_step _ i0, vz_b0 w, e]
      · rw [vz_cnt_step _ i0, vz_b1 w, e]
  · exact q_isNoDisk Y.A.I.dk h1 (fun _ _ => ⟨vs_R0, fun _ => ⟨⟨d0, by omega⟩, ⟨by show _ ≤ M 2 p1; omega, by show M 2 p1 ≤ _; omega⟩, fun z => absurd z q, fun _ => q_fails (w_ex (vz_00 _ 2) (by omega) vR2 ⟨Y2, L⟩)⟩, fun z => absurd rfl z⟩) (fun z => absurd ⟨d0, d1⟩ z)
theorem okc_29 : vs_okc_29 vZ := by
  intro V S T K O M B LN i p1 p2 p3 h1 h2 h3 Z
  obtain ⟨Y, L⟩ := Z
  have Y0 := vY_0 Y 0
  have Y1 := vY_0 Y 1
  have Y2 := vY_0 Y0 2
  have hdk := Y.A.I.dk
  unfold wcase_29 wL_warn wX2_warn wX3_warn
  refine p_checkDisk Y h1 (fun d0 d1 => ?_) (fun hn => ⟨fun _ => q_isNoDisk Y.A.I.dk h1 (fun z0 z1 => absurd ⟨z0, z1⟩ hn) (fun _ => ⟨vR1, fun z => by omega, fun _ => w_ex (vz_00 M 1) (by omega) vR1 ⟨Y1, L⟩⟩), fun z => by omega, Or.inl rfl⟩)
  have hs := Y.A.I.stt p1 d0 d1
  have hz := Y.A.I.sz p1 d0 d1
  have hu := vz_used_bd Y.A.I d0 d1
  rw [Y.r.stt p1 d0 d1]
  refine ⟨⟨d0, by omega⟩, ⟨by omega, by omega⟩, fun q => ⟨⟨d0, by omega⟩, fun S1 e1 => ⟨⟨d0, by omega⟩, ?_⟩⟩, fun q => ⟨fun z => by omega, fun _ => ?_, Or.inr rfl⟩⟩
  · subst e1
    have Yn := vY_st2 Y0 (z := 119) (Or.inr rfl) d1
    have e2 : vs_st S 3 p1 119 2 p1 = vz_used M p1 := Y.r.us p1 d0 d1
    rw [e2]
    refine ⟨⟨by omega, by omega⟩, fun O2 e2 => q_isNoDisk Y.A.I.dk h1 (fun _ _ => ⟨vs_R0, fun _ => ⟨⟨d0, by omega⟩, ⟨by show _ ≤ M 2 p1; omega, by show M 2 p1 ≤ _; omega⟩, fun _ => ⟨⟨d0, by omega⟩, fun S3 e3 => ?_⟩, fun z => absurd q z⟩, fun z => absurd rfl z⟩) (fun z => absurd ⟨d0, d1⟩ z)⟩
    subst e3
    refine q_usedOf Yn.A.I d0 d1 ?_
    exact w_ok (vz_00 M 0) ⟨by show _ ≤ vz_used M p1; omega, by show vz_used M p1 ≤ _; omega⟩ (by rw [e2, vz_00]; rfl) ⟨Yn, L⟩
  · exact q_isNoDisk Y.A.I.dk h1 (fun _ _ => ⟨vs_R0, fun _ => ⟨⟨d0, by omega⟩, ⟨by show _ ≤ M 2 p1; omega, by show M 2 p1 ≤ _; omega⟩, fun z => absurd z q, fun _ => q_fails (w_ex (vz_00 _ 2) (by omega) vR2 ⟨Y2, L⟩)⟩, fun z => absurd rfl z⟩) (fun z => absurd ⟨d0, d1⟩ z)
-- rot
theorem vY_rt1 (Y : vY M V S K) {s : Int} (s0 : 0 ≤ s) (s1 : s < 32 * M 7 0) (hs : 0 ≤ M 3 s) : vY (vs_st M 5 s 1) V (vs_st S 5 s 1) K := by
  have I := Y.A.I
  have r := Y.r
  refine ⟨⟨⟨I.dk, I.sz, I.stt, I.mn, I.cp, I.ds, I.hd, fun s' a0 a1 => ?_, I.sm⟩, vO_eq Y.A.O rfl rfl rfl rfl rfl, Y.A.V, Y.A.Q, Y.A.T, Y.A.P⟩, Y.C, ⟨r.dk, r.sz, r.us, r.us0, r.stt, r.st0, r.hd, r.hd0, fun i i0 i1 => ?_, fun i i0 i1 => ?_, r.wn, r.vl, r.mn, r.cp, r.wr, r.od⟩, vK_kq Y.k (fun c h => vs_st_ne _ (by intro e; subst e; exact nomatch h) _ _), Y.v⟩
  · show (if s' = s then 1 else M 5 s') = 0 ∨ (if s' = s then 1 else M 5 s') = 1
    split
    · exact Or.inr rfl
    · exact I.rt s' a0 a1
  · show (if i = s then 1 else S 5 i) = if M 3 i < 0 then 0 else (if i = s then 1 else M 5 i)
    by_cases e : i = s
    · subst e; rw [if_pos rfl, if_pos rfl, if_neg (by omega)]
    · rw [if_neg e, if_neg e]; exact r.rt i i0 i1
  · have i0 : 32 * M 7 0 ≤ i := i0
    show (if i = s then 1 else S 5 i) = 0
    rw [if_neg (by omega)]; exact r.rt0 i i0 i1
theorem okc_30 : vs_okc_30 vZ := by
  intro V S T K O M B LN i p1 p2 p3 h1 h2 h3 Z
  obtain ⟨Y, L⟩ := Z
  have Y0 := vY_0 Y 0
  have Y1 := vY_0 Y 1
  have Y2 := vY_0 Y 2
  have hdk := Y.A.I.dk
  have c1 := vz_00 M 1
  have c2 := vz_00 M 2
  have c0 := vz_00 M 0
  unfold wcase_30 wL_rot wX2_rot wX3_rot
  refine p_checkDisk Y h1 (fun d0 d1 => ?_) (fun hn => ⟨fun _ => q_isDisk Y.A.I.dk h1 ⟨vz_bR _, fun _ S2 e2 => ?_, fun z => absurd (vz_bp.mp z) hn⟩, fun z => by omega, Or.inl rfl⟩)
  · have hs := Y.A.I.sz p1 d0 d1
    rw [Y.r.sz p1 d0 d1]
    have bad : ¬ (0 ≤ p2 ∧ p2 ≤ M 1 p1 - 1) → ∀ {post : Int → vs_St → Prop}, post 0 (vs_st M 0 0 1) → wX3_isDisk M p1 (fun r1 => (vs_R r1) ∧ (r1 = 0 → ∀ S2 : vs_St, S2 = vs_st M 0 0 1 → (vs_R (S2 0 0)) ∧ ((S2 0 0) ≤ 0 → (0 ≤ (32 * p1) + p2 ∧ (32 * p1) + p2 < 256) ∧ ∀ v3 : Int, v3 = S2 5 ((32 * p1) + p2) → (0 ≤ (32 * p1) + p2 ∧ (32 * p1) + p2 < 256) ∧ ∀ S4 : vs_St, S4 = vs_st S2 5 ((32 * p1) + p2) 1 → (v3 = 0 ∨ v3 = 1) ∧ post v3 S4) ∧ (0 < (S2 0 0) → post 0 S2)) ∧ (¬ r1 = 0 → (0 ≤ p1 ∧ p1 < 8) ∧ wX3_isBetween p2 0 ((M 1 p1) - 1) (fun r5 => (vs_R r5) ∧ (¬ r5 = 0 → (0 ≤ (32 * p1) + p2 ∧ (32 * p1) + p2 < 256) ∧ (vs_R (M 3 ((32 * p1) + p2))) ∧ (0 ≤ (M 3 ((32 * p1) + p2)) → ∀ S6 : vs_St, S6 = vs_st M 0 0 0 → (vs_R (S6 0 0)) ∧ ((S6 0 0) ≤ 0 → (0 ≤ (32 * p1) + p2 ∧ (32 * p1) + p2 < 256) ∧ ∀ v7 : Int, v7 = S6 5 ((32 * p1) + p2) → (0 ≤ (32 * p1) + p2 ∧ (32 * p1) + p2 < 256) ∧ ∀ S8 : vs_St, S8 = vs_st S6 5 ((32 * p1) + p2) 1 → (v7 = 0 ∨ v7 = 1) ∧ post v7 S8) ∧ (0 < (S6 0 0) → post 0 S6)) ∧ ((M 3 ((32 * p1) + p2)) < 0 → ∀ S9 : vs_St, S9 = vs_st M 0 0 2 → (vs_R (S9 0 0)) ∧ ((S9 0 0) ≤ 0 → (0 ≤ (32 * p1) + p2 ∧ (32 * p1) + p2 < 256) ∧ ∀ v10 : Int, v10 = S9 5 ((32 * p1) + p2) → (0 ≤ (32 * p1) + p2 ∧ (32 * p1) + p2 < 256) ∧ ∀ S11 : vs_St, S11 = vs_st S9 5 ((32 * p1) + p2) 1 → (v10 = 0 ∨ v10 = 1) ∧ post v10 S11) ∧ (0 < (S9 0 0) → post 0 S9))) ∧ (r5 = 0 → ∀ S12 : vs_St, S12 = vs_st M 0 0 1 → (vs_R (S12 0 0)) ∧ ((S12 0 0) ≤ 0 → (0 ≤ (32 * p1) + p2 ∧ (32 * p1) + p2 < 256) ∧ ∀ v13 : Int, v13 = S12 5 ((32 * p1) + p2) → (0 ≤ (32 * p1) + p2 ∧ (32 * p1) + p2 < 256) ∧ ∀ S14 : vs_St, S14 = vs_st S12 5 ((32 * p1) + p2) 1 → (v13 = 0 ∨ v13 = 1) ∧ post v13 S14) ∧ (0 < (S12 0 0) → post 0 S12))))) := by
      intro q post k
      refine q_isDisk Y.A.I.dk h1 ⟨vz_bR _, fun z => absurd ⟨d0, d1⟩ (vz_bn.mp z), fun _ => ⟨⟨d0, by omega⟩, q_isBetween h2 ⟨by omega, by omega⟩ ⟨by omega, by omega⟩ ⟨vz_bR _, fun z => absurd (vz_bp.mp z) q, fun _ S12 e => ?_⟩⟩⟩
      subst e
      rw [c1]
      exact ⟨vR1, fun z => by omega, fun _ => k⟩
    refine ⟨h2, fun q => ⟨fun _ => bad (by omega) (w_ex c1 (by omega) vR1 ⟨Y1, L⟩), fun z => by omega, Or.inl rfl⟩, fun q => ⟨⟨d0, by omega⟩, h2, ⟨by omega, by omega⟩, fun w v1 e1 => ?_, fun w => ⟨fun _ => bad (by omega) (w_ex c1 (by omega) vR1 ⟨Y1, L⟩), fun z => by omega, Or.inl rfl⟩⟩⟩
    have e1 : v1 = 32 * p1 + p2 := by omega
    subst e1
    have hR := vz_M3R Y.A.I (s := 32 * p1 + p2) (by omega) (by omega)
    have hr := Y.A.I.rt (32 * p1 + p2) (by omega) (by omega)
    have hh := Y.A.I.hd (32 * p1 + p2) (by omega) (by omega)
    rw [Y.r.hd (32 * p1 + p2) (by omega) (by omega), Y.r.rt (32 * p1 + p2) (by omega) (by omega)]
    refine ⟨⟨by omega, by omega⟩, hR, fun y => ⟨⟨by omega, by omega⟩, fun v2 e2 => ⟨⟨by omega, by omega⟩, fun S3 e3 => ?_⟩⟩, fun y => ⟨fun z => by omega, fun _ => ?_, Or.inr rfl⟩⟩
    · have hpos : 0 ≤ M 3 (32 * p1 + p2) := by rcases hh with z | ⟨z, _⟩ <;> omega
      rw [if_neg (by omega)] at e2
      subst e2
      have Yn := vY_rt1 Y0 (s := 32 * p1 + p2) (by omega) (by show 32 * p1 + p2 < 32 * M 7 0; omega) hpos
      refine ⟨hr, ⟨by omega, by omega⟩, fun z O2 eO => ?_, fun z O2 eO => ?_⟩
      · refine q_isDisk Y.A.I.dk h1 ⟨vz_bR _, fun z => absurd ⟨d0, d1⟩ (vz_bn.mp z), fun _ => ⟨⟨d0, by omega⟩, q_isBetween h2 ⟨by omega, by omega⟩ ⟨by omega, by omega⟩ ⟨vz_bR _, fun _ => ⟨⟨by omega, by omega⟩, hR, fun _ S6 e6 => ?_, fun z => by omega⟩, fun z => absurd ⟨q, by omega⟩ (vz_bn.mp z)⟩⟩⟩
        subst e6
        rw [c0]
        refine ⟨vs_R0, fun _ => ⟨⟨by omega, by omega⟩, fun v7 e7 => ⟨⟨by omega, by omega⟩, fun S8 e8 => ?_⟩⟩, fun z => by omega⟩
        have e7 : v7 = M 5 (32 * p1 + p2) := e7
        subst e7
        subst e8
        exact ⟨hr, w_okb c0 hr (by rw [eO, vz_00, z]) (by subst e3; exact ⟨Yn, L⟩)⟩
      · refine q_isDisk Y.A.I.dk h1 ⟨vz_bR _, fun z => absurd ⟨d0, d1⟩ (vz_bn.mp z), fun _ => ⟨⟨d0, by omega⟩, q_isBetween h2 ⟨by omega, by omega⟩ ⟨by omega, by omega⟩ ⟨vz_bR _, fun _ => ⟨⟨by omega, by omega⟩, hR, fun _ S6 e6 => ?_, fun z => by omega⟩, fun z => absurd ⟨q, by omega⟩ (vz_bn.mp z)⟩⟩⟩
        subst e6
        rw [c0]
        refine ⟨vs_R0, fun _ => ⟨⟨by omega, by omega⟩, fun v7 e7 => ⟨⟨by omega, by omega⟩, fun S8 e8 => ?_⟩⟩, fun z => by omega⟩
        have e7 : v7 = M 5 (32 * p1 + p2) := e7
        subst e7
        subst e8
        exact ⟨hr, w_okb c0 hr (by rw [eO, vz_00]; exact hr.elim (fun y => absurd y z) (fun y => y.symm)) (by subst e3; exact ⟨Yn, L⟩)⟩
    · exact q_isDisk Y.A.I.dk h1 ⟨vz_bR _, fun z => absurd ⟨d0, d1⟩ (vz_bn.mp z), fun _ => ⟨⟨d0, by omega⟩, q_isBetween h2 ⟨by omega, by omega⟩ ⟨by omega, by omega⟩ ⟨vz_bR _, fun _ => ⟨⟨by omega, by omega⟩, hR, fun z => by omega, fun _ S9 e9 => by
        subst e9
        rw [c2]
        exact ⟨vR2, fun z => by omega, fun _ => w_ex c2 (by omega) vR2 ⟨Y2, L⟩⟩⟩, fun z => absurd ⟨q, by omega⟩ (vz_bn.mp z)⟩⟩⟩
  · subst e2
    rw [c1]
    exact ⟨vR1, fun z => by omega, fun _ => w_ex c1 (by omega) vR1 ⟨Y1, L⟩⟩
-- scrub
noncomputable def vz_scs (d : Int) (j : Nat) (x : Int × vs_St) : Int × vs_St :=
  if 0 ≤ x.2 3 (32 * d + j) ∧ x.2 5 (32 * d + j) ≠ 0 ∧ vz_good x.2 (x.2 3 (32 * d + j)) ≠ 0 then (x.1 + 1, vs_st x.2 5 (32 * d + j) 0) else x
noncomputable def vz_sc (d : Int) (M : vs_St) (k : Nat) : Int × vs_St := vz_it (vz_scs d) k (0, M)
theorem vz_sc_ok (I : vI M) (d : Int) : ∀ k : Nat, vI (vz_sc d M k).2 ∧ (∀ c : Nat, c ≠ 5 → (vz_sc d M k).2 c = M c) ∧ 0 ≤ (vz_sc d M k).1 ∧ (vz_sc d M k).1 ≤ k
  | 0 => ⟨I, fun _ _ => rfl, by show (0 : Int) ≤ 0; omega, by show (0 : Int) ≤ ((0 : Nat) : Int); omega⟩
  | k + 1 => by
    obtain ⟨a, f, c, e⟩ := vz_sc_ok I d k
    show vI (vz_scs d k (vz_sc d M k)).2 ∧ (∀ c : Nat, c ≠ 5 → (vz_scs d k (vz_sc d M k)).2 c = M c) ∧ 0 ≤ (vz_scs d k (vz_sc d M k)).1 ∧ (vz_scs d k (vz_sc d M k)).1 ≤ ((k + 1 : Nat) : Int)
    unfold vz_scs
    split
    · exact ⟨vI_rt0 a, fun c h => by show vs_st _ 5 _ 0 c = _; rw [vs_st_ne _ h]; exact f c h, by show 0 ≤ _ + 1; omega, by show _ + 1 ≤ ((k + 1 : Nat) : Int); omega⟩
    · exact ⟨a, f, c, by omega⟩
theorem vY_sc (Y : vY M V S K) {d : Int} {k : Nat} {S' : vs_St} (r : vS (vz_sc d M k).2 S') : vY (vz_sc d M k).2 V S' K := by
  obtain ⟨a, f, _, _⟩ := vz_sc_ok Y.A.I d k
  have fk : ∀ c : Nat, vz_ck c = true → (vz_sc d M k).2 c = M c := fun c h => f c (by intro e; subst e; exact nomatch h)
  refine ⟨⟨a, vO_eq Y.A.O (f 12 (by decide)) (f 13 (by decide)) (f 14 (by decide)) (f 15 (by decide)) (f 16 (by decide)), ?_, ?_, ?_, ?_⟩, ?_, r, vK_kq Y.k fk, ?_⟩
  · unfold vM; rw [f 10 (by decide), f 14 (by decide)]; exact Y.A.V
  · unfold vQ; rw [f 27 (by decide), f 28 (by decide), f 23 (by decide), f 24 (by decide), f 26 (by decide)]; exact Y.A.Q
  · rw [f 27 (by decide), f 16 (by decide)]; exact Y.A.T
  · rw [f 17 (by decide)]; exact Y.A.P
  · unfold vC; rw [f 29 (by decide), f 30 (by decide), f 31 (by decide), f 19 (by decide), f 20 (by decide)]; exact Y.C
  · unfold vV; rw [f 29 (by decide), f 30 (by decide), f 31 (by decide)]; exact Y.v
theorem p_healDisk (A : vA M) (r : vS M S) {d : Int} (d0 : 0 ≤ d) (d1 : d < M 7 0) {post : Int → vs_St → Prop} (k : ∀ S', vS (vz_sc d M (M 1 d).toNat).2 S' → post (vz_sc d M (M 1 d).toNat).1 S') : wX1_healDisk S d post := by
  unfold wX1_healDisk
  have hd := A.I.dk
  have hs := A.I.sz d d0 d1
  intro v1 hv
  subst hv
  refine ⟨fun n i S' => d * 32 ≤ i ∧ i ≤ d * 32 + M 1 d ∧ (vz_sc d M (i - d * 32).toNat).1 = n ∧ vS (vz_sc d M (i - d * 32).toNat).2 S', fun _ i _ => (400 - i).toNat, ⟨by omega, by omega, by rw [Int.sub_self]; rfl, by rw [Int.sub_self]; exact r⟩, ?_⟩
  rintro n i S' ⟨i0, i1, rfl, hr⟩
  obtain ⟨a, f, c, e⟩ := vz_sc_ok A.I d (i - d * 32).toNat
  have f7 := f 7 (by decide)
  have f1 := f 1 (by decide)
  have f3 := f 3 (by decide)
  have hr1 := hr.sz d d0 (by rw [f7]; exact d1)
  unfold lX1_healDisk_10
  rw [hr1, f1]
  refine ⟨⟨d0, by omega⟩, ⟨by omega, by omega⟩, ⟨by omega, by omega⟩, fun h => ?_, fun h => ⟨⟨by omega, by omega⟩, fun v2 e2 => ?_⟩⟩
  · have ei : i - d * 32 = M 1 d := by omega
    rw [ei] at hr ⊢
    exact k S' hr
  · have es : vz_sc d M (i + 1 - d * 32).toNat = vz_scs d (i - d * 32).toNat (vz_sc d M (i - d * 32).toNat) := by rw [show (i + 1 - d * 32).toNat = (i - d * 32).toNat + 1 by omega]; rfl
    have ej : 32 * d + (((i - d * 32).toNat : Nat) : Int) = i := by omega
    have hh := A.I.hd i (by omega) (by omega)
    have hR := vz_M3R A.I (s := i) (by omega) (by omega)
    have h5 := a.rt i (by omega) (by omega)
    rw [hr.hd i (by omega) (by rw [f7]; omega), f3] at e2
    rw [hr.rt i (by omega) (by rw [f7]; omega), f3]
    subst e2
    have skip : ¬ (0 ≤ (vz_sc d M (i - d * 32).toNat).2 3 i ∧ (vz_sc d M (i - d * 32).toNat).2 5 i ≠ 0 ∧ vz_good (vz_sc d M (i - d * 32).toNat).2 ((vz_sc d M (i - d * 32).toNat).2 3 i) ≠ 0) → (d * 32 ≤ i + 1 ∧ i + 1 ≤ d * 32 + M 1 d ∧ (vz_sc d M (i + 1 - d * 32).toNat).1 = (vz_sc d M (i - d * 32).toNat).1 ∧ vS (vz_sc d M (i + 1 - d * 32).toNat).2 S') ∧ (400 - (i + 1)).toNat < (400 - i).toNat := by
      intro q
      have : vz_sc d M (i + 1 - d * 32).toNat = vz_sc d M (i - d * 32).toNat := by
        rw [es]; unfold vz_scs; rw [ej]; exact if_neg q
      rw [this]
      exact ⟨⟨by omega, by omega, rfl, hr⟩, by omega⟩
    refine ⟨hR, fun q => skip (fun z => by rw [f3] at z; omega), fun q => ?_⟩
    have hpos : 0 ≤ M 3 i ∧ M 3 i < 400 := by
      rcases hh with z | ⟨z0, z1, _⟩
      · exact absurd z q
      · exact ⟨z0, z1⟩
    rw [if_neg (by omega)]
    refine ⟨⟨by omega, by omega⟩, ⟨by omega, by omega⟩, fun w => skip (fun z => z.2.1 w), fun w => p_disksWithGood a hr hpos.1 hpos.2 (fun m hm => ?_)⟩
    have hmr := hm.rg
    have hz := vz_hasG_z a hpos.1 hpos.2 hm
    refine ⟨⟨by omega, by omega⟩, fun y => skip (fun z => by rw [f3] at z; exact z.2.2 (hz.mp y)), fun y => ⟨⟨by omega, by omega⟩, fun S4 e4 => ?_⟩⟩
    have this : vz_sc d M (i + 1 - d * 32).toNat = ((vz_sc d M (i - d * 32).toNat).1 + 1, vs_st (vz_sc d M (i - d * 32).toNat).2 5 i 0) := by
      rw [es]; unfold vz_scs; rw [ej]; exact if_pos ⟨by rw [f3]; exact hpos.1, w, by rw [f3]; exact fun z => y (hz.mpr z)⟩
    show (d * 32 ≤ i + 1 ∧ i + 1 ≤ d * 32 + M 1 d ∧ (vz_sc d M (i + 1 - d * 32).toNat).1 = (vz_sc d M (i - d * 32).toNat).1 + 1 ∧ vS (vz_sc d M (i + 1 - d * 32).toNat).2 S4) ∧ (400 - (i + 1)).toNat < (400 - i).toNat
    rw [this, e4]
    exact ⟨⟨by omega, by omega, rfl, vS_rt0 a hr⟩, by omega⟩
theorem okc_31 : vs_okc_31 vZ := by
  intro V S T K O M B LN i p1 p2 p3 h1 h2 h3 Z
  obtain ⟨Y, L⟩ := Z
  have Y0 := vY_0 Y 0
  have Y1 := vY_0 Y 1
  have Y2 := vY_0 Y0 2
  have hdk := Y.A.I.dk
  unfold wcase_31 wL_scrub wX2_scrub wX3_scrub
  refine p_checkDisk Y h1 (fun d0 d1 => ?_) (fun hn => ⟨fun _ => q_isNoDisk Y.A.I.dk h1 (fun z0 z1 => absurd ⟨z0, z1⟩ hn) (fun _ => ⟨vR1, fun z => by omega, fun _ => w_ex (vz_00 M 1) (by omega) vR1 ⟨Y1, L⟩⟩), fun z => by omega, Or.inl rfl⟩)
  have hs := Y.A.I.stt p1 d0 d1
  have hz := Y.A.I.sz p1 d0 d1
  refine p_checkNotFailed Y d0 d1 (fun q => ?_) (fun q => ⟨fun z => by omega, fun _ => ?_, Or.inr rfl⟩)
  · refine p_healDisk Y0.A Y0.r d0 d1 (fun S' r' => ?_)
    obtain ⟨a, f, c, e⟩ := vz_sc_ok Y0.A.I p1 (M 1 p1).toNat
    have Yn := vY_sc Y0 (d := p1) (k := (M 1 p1).toNat) r'
    have c' : 0 ≤ (vz_sc p1 (vs_st M 0 0 0) (vs_st M 0 0 0 1 p1).toNat).1 := c
    have e' : (vz_sc p1 (vs_st M 0 0 0) (vs_st M 0 0 0 1 p1).toNat).1 ≤ ((M 1 p1).toNat : Int) := e
    refine ⟨⟨by omega, by omega⟩, fun O2 e2 => q_isNoDisk Y.A.I.dk h1 (fun _ _ => ⟨vs_R0, fun _ => ⟨⟨d0, by omega⟩, ⟨by show _ ≤ M 2 p1; omega, by show M 2 p1 ≤ _; omega⟩, fun _ v3 hv3 => ?_, fun z => absurd z q⟩, fun z => absurd rfl z⟩) (fun z => absurd ⟨d0, d1⟩ z)⟩
    subst hv3
    refine ⟨fun n i S' => 32 * p1 ≤ i ∧ i ≤ 32 * p1 + M 1 p1 ∧ vz_sc p1 (vs_st M 0 0 0) (i - 32 * p1).toNat = (n, S'), fun _ i _ => (400 - i).toNat, ⟨by omega, by omega, by rw [Int.sub_self]; rfl⟩, ?_⟩
    rintro n i S2 ⟨i0, i1, he⟩
    obtain ⟨a2, f2, c2, e2'⟩ := vz_sc_ok Y0.A.I p1 (i - 32 * p1).toNat
    rw [he] at a2 f2 c2 e2'
    have a2 : vI S2 := a2
    have f2 : ∀ c : Nat, c ≠ 5 → S2 c = vs_st M 0 0 0 c := f2
    have g1 : S2 1 = M 1 := f2 1 (by decide)
    have g3 : S2 3 = M 3 := f2 3 (by decide)
    have O2' : vO S2 := vO_eq Y0.A.O (f2 12 (by decide)) (f2 13 (by decide)) (f2 14 (by decide)) (f2 15 (by decide)) (f2 16 (by decide))
    unfold lX3_scrub_34
    rw [g1, g3]
    refine ⟨⟨d0, by omega⟩, ⟨by omega, by omega⟩, ⟨by omega, by omega⟩, fun h => ?_, fun h => ?_⟩
    · have ei : i - 32 * p1 = M 1 p1 := by omega
      rw [ei] at he
      have he' : vz_sc p1 (vs_st M 0 0 0) (vs_st M 0 0 0 1 p1).toNat = (n, S2) := he
      rw [he] at Yn
      rw [he'] at e2 r' c' e'
      have c' : 0 ≤ n := c'
      have e' : n ≤ ((M 1 p1).toNat : Int) := e'
      exact w_ok (by show S2 0 0 = 0; rw [f2 0 (by decide)]; exact vz_00 M 0) ⟨by omega, by omega⟩ (by rw [e2, vz_00]) ⟨Yn, L.1, by
        have : vz_waitA S2 = vz_waitA M := by
          unfold vz_waitA
          rw [f2 26 (by decide), f2 28 (by decide)]; rfl
        rw [this]; exact L.2⟩
    · have es : vz_sc p1 (vs_st M 0 0 0) (i + 1 - 32 * p1).toNat = vz_scs p1 (i - 32 * p1).toNat (n, S2) := by rw [show (i + 1 - 32 * p1).toNat = (i - 32 * p1).toNat + 1 by omega, ← he]; rfl
      have ej : 32 * p1 + (((i - 32 * p1).toNat : Nat) : Int) = i := by omega
      have hh := Y.A.I.hd i (by omega) (by omega)
      have hR := vz_M3R Y.A.I (s := i) (by omega) (by omega)
      have h5 := a2.rt i (by omega) (by omega)
      have skip : ¬ (0 ≤ S2 3 i ∧ S2 5 i ≠ 0 ∧ vz_good S2 (S2 3 i) ≠ 0) → (32 * p1 ≤ i + 1 ∧ i + 1 ≤ 32 * p1 + M 1 p1 ∧ vz_sc p1 (vs_st M 0 0 0) (i + 1 - 32 * p1).toNat = (n, S2)) ∧ (400 - (i + 1)).toNat < (400 - i).toNat := by
        intro q
        refine ⟨⟨by omega, by omega, ?_⟩, by omega⟩
        rw [es]; unfold vz_scs; rw [ej]; exact if_neg q
      refine ⟨⟨by omega, by omega⟩, hR, fun w => skip (fun z => by rw [g3] at z; omega), fun w => ⟨⟨by omega, by omega⟩, ⟨by omega, by omega⟩, fun y => skip (fun z => z.2.1 y), fun y => ⟨⟨by omega, by omega⟩, ?_⟩⟩⟩
      have hb : M 3 i < 400 ∧ 0 < M 10 (M 3 i) := by
        rcases hh with z | ⟨_, z1, k, k0, k1, _⟩
        · omega
        · exact ⟨z1, by omega⟩
      have h14 : S2 14 (M 3 i) ≠ 0 := by rw [f2 14 (by decide)]; exact Y.A.V _ w hb.1 hb.2
      refine q_lost a2 O2' w hb.1 ⟨vz_bR _, fun x => ⟨⟨by omega, by omega⟩, fun S5 e5 => ⟨⟨by omega, by omega, ?_⟩, by first | omega | (dsimp only; omega)⟩⟩, fun x => skip (fun z => by rw [g3] at z; exact z.2.2 (vz_bp.mp x).2)⟩
      rw [es, e5]
      unfold vz_scs
      rw [ej]
      exact if_pos ⟨by show 0 ≤ S2 3 i; rw [g3]; exact w, y, by show vz_good S2 (S2 3 i) ≠ 0; rw [g3]; exact fun z => vz_bn.mp x ⟨h14, z⟩⟩
  · exact q_isNoDisk Y.A.I.dk h1 (fun _ _ => ⟨vs_R0, fun _ => ⟨⟨d0, by omega⟩, ⟨by show _ ≤ M 2 p1; omega, by show M 2 p1 ≤ _; omega⟩, fun z => absurd q z, fun _ => q_fails (w_ex (vz_00 _ 2) (by omega) vR2 ⟨Y2, L⟩)⟩, fun z => absurd rfl z⟩) (fun z => absurd ⟨d0, d1⟩ z)
end VZL
