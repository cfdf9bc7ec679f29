/-! pure part: fractions -/
section VZN
variable {M S K V T O : vs_St}
theorem vz_Ine {x : Int} (h0 : 1 ≤ x) (h1 : x ≤ 100000) : vs_I x ≠ 0 := vs_nz (by omega) (by omega)
theorem vz_n64 {a b : Int} (h0 : 1 ≤ b) (h1 : b ≤ 100000) : vf_n64 (FP.ddiv (FP.i2d (vs_I a)) (FP.i2d (vs_I b))) := by
  have hz : ¬ FP.Core.DZero (FP.i2d (vs_I b)) := fun q => FP.Core.i2d_ne_zero (vz_Ine h0 h1) ((FP.Core.zero_bits2 _).mp q)
  have fa := FP.Core.i2d_fin (vs_I a)
  have na : FP.Core.dIsNaN (FP.i2d (vs_I a)) = false := by
    rw [FP.Core.notNaN_iff]
    obtain ⟨_, _, _, h⟩ := fa
    intro e
    have h : FP.Core.val64 (FP.i2d (vs_I a)) = _ := h
    rw [h] at e; exact FP.Core.Datum.noConfusion e
  exact vs_n64 (FP.Core.ddiv_out na (FP.Core.i2d_fin (vs_I b)) hz)
theorem vz_fnan {a b : Int} (h0 : 1 ≤ b) (h1 : b ≤ 100000) : FP.Core.fIsNaN (FP.fdiv (FP.i2f (vs_I a)) (FP.i2f (vs_I b))) = false := by
  have hz : ¬ FP.Core.FZero (FP.i2f (vs_I b)) := fun q => FP.Core.i2f_ne_zero (vz_Ine h0 h1) ((FP.Core.zero_bits232 _).mp q)
  have fa := FP.Core.i2f_fin (vs_I a)
  have na : FP.Core.fIsNaN (FP.i2f (vs_I a)) = false := by
    rw [FP.Core.notNaN_iff32]
    obtain ⟨_, _, _, h⟩ := fa
    intro e
    have h : FP.Core.val32 (FP.i2f (vs_I a)) = _ := h
    rw [h] at e; exact FP.Core.Datum.noConfusion e
  exact FP.Core.fdiv_out na (FP.Core.i2f_fin (vs_I b)) hz
theorem vz_dR (x y : UInt64) : vs_R (vs_dcmp x y) := vs_R32 _
theorem vz_fR (x y : UInt32) : vs_R (vs_fcmp x y) := vs_R32 _
end VZN
section VZN2
variable {M S K V T O : vs_St}
theorem vz_f2d {a : UInt32} (h : FP.Core.fIsNaN a = false) : FP.Core.dIsNaN (FP.f2d a) = false := by
  unfold FP.f2d
  rw [if_neg (by rw [h]; decide)]
  exact FP.Core.f2d_out h
theorem vz_dself {x : UInt64} (h : FP.Core.dIsNaN x = false) : vs_dcmp x x = 0 := by
  have e : FP.dcmp x x = some .eq := FP.Core.dcmp_self ((FP.Core.notNaN_iff _).mp h)
  unfold vs_dcmp
  rw [e]; rfl
theorem vz_upd0 (D : Nat → UInt64) (r : UInt64) : vf_upd D 0 r 0 = r := if_pos rfl
theorem p_countCopies (A : vA M) (r : vS M S) {post : Int → Prop} (k : post (vz_sum (fun i => M 10 (M 13 i)) (M 15 0).toNat)) : wX1_countCopies S post := by
  unfold wX1_countCopies
  have hw := vz_wbd A.O
  refine ⟨fun m i => 0 ≤ i ∧ i ≤ M 15 0 ∧ m = vz_sum (fun i => M 10 (M 13 i)) i.toNat, fun _ i => (401 - i).toNat, ⟨by omega, by omega, rfl⟩, ?_⟩
  rintro m i ⟨i0, i1, rfl⟩
  unfold lX1_countCopies_4
  rw [r.wr]
  refine ⟨⟨by omega, by omega⟩, ⟨by omega, by omega⟩, fun h => ?_, fun h => ?_⟩
  · have e : i = M 15 0 := by omega
    rw [e]; exact k
  · have ho := A.O.od i i0 h
    rw [r.od i i0 h, r.mn _ ho.1 ho.2.1]
    exact ⟨⟨i0, by omega⟩, ⟨ho.1, ho.2.1⟩, fun v e => ⟨⟨by omega, by omega, by rw [vz_sum_step _ i0, e]⟩, by first | omega | (dsimp only; omega)⟩⟩
theorem okc_35 : vs_okc_35 vZ := by
  intro V S T K O M B LN D i p1 p2 p3 h1 h2 h3 Z
  obtain ⟨Y, L⟩ := Z
  have Y0 := vY_0 Y 0
  have Y1 := vY_0 Y0 1
  have hw := vz_wbd Y.A.O
  have hsum := vz_sum_bd (f := fun i => M 10 (M 13 i)) (c := 3) (n := (M 15 0).toNat) (fun i i0 i1 => by
    have ho := Y.A.O.od i i0 (by omega)
    exact Y.A.I.mn _ ho.1 ho.2.1)
  unfold wcase_35 wL_meanCopies wX2_meanCopies
  rw [Y.r.wr]
  have ref : ∀ {post : UInt64 → vs_St → Prop}, (M 15 0 ≠ 0 → post (FP.ddiv (FP.i2d (vs_I (vz_sum (fun i => M 10 (M 13 i)) (M 15 0).toNat))) (FP.i2d (vs_I (M 15 0)))) (vs_st M 0 0 0)) → (M 15 0 = 0 → post (FP.i2d (vs_I 0)) (vs_st (vs_st M 0 0 0) 0 0 1)) → wX3_meanCopies M post := by
    intro post k1 k0 S1 e1
    subst e1
    refine ⟨fun m i => 0 ≤ i ∧ i ≤ M 15 0 ∧ m = vz_sum (fun i => M 10 (M 13 i)) i.toNat, fun _ i => (401 - i).toNat, ⟨by omega, by omega, rfl⟩, ?_⟩
    rintro m i ⟨i0, i1, rfl⟩
    unfold lX3_meanCopies_9
    refine ⟨⟨by omega, by omega⟩, ⟨by show _ ≤ M 15 0; omega, by show M 15 0 ≤ _; omega⟩, fun h => ⟨⟨by show _ ≤ M 15 0; omega, by show M 15 0 ≤ _; omega⟩, fun w => ?_, fun w => q_fails (k0 w)⟩, fun h => ?_⟩
    · have h : M 15 0 ≤ i := h
      have w : ¬ M 15 0 = 0 := w
      have e : i = M 15 0 := by omega
      rw [e]
      exact ⟨vz_n64 (by show 1 ≤ M 15 0; omega) (by show M 15 0 ≤ _; omega), k1 w⟩
    · have h : i < M 15 0 := h
      have ho := Y.A.O.od i i0 h
      exact ⟨⟨i0, by omega⟩, ⟨ho.1, ho.2.1⟩, fun v e => ⟨⟨by omega, by omega, by rw [vz_sum_step _ i0, e]; rfl⟩, by first | omega | (dsimp only; omega)⟩⟩
  refine ⟨⟨by omega, by omega⟩, fun q => p_countCopies Y.A Y.r ⟨vz_n64 (by omega) (by omega), fun D2 e2 => ref (fun _ => ?_) (fun z => absurd z q)⟩, fun q => ⟨fun _ => ref (fun z => absurd q z) (fun _ => ?_), rfl⟩⟩
  · have e0 : D2 0 = FP.ddiv (FP.i2d (vs_I (vz_sum (fun i => M 10 (M 13 i)) (M 15 0).toNat))) (FP.i2d (vs_I (M 15 0))) := by rw [e2]; exact vz_upd0 _ _
    unfold wX3_thrown
    rw [vz_00, e0]
    exact ⟨vs_R0, vs_R0, fun _ => ⟨vs_R0, fun z => absurd rfl z, fun _ => ⟨vz_dR _ _, fun _ => ⟨Y0, L⟩, fun z => ⟨vz_dR _ _, fun y => z y, fun _ => ⟨vz_dR _ _, fun _ => ⟨Y0, L⟩, fun y => z y⟩⟩⟩⟩, fun z => z rfl⟩
  · exact w_ex (vz_00 _ 1) (by omega) vR1 ⟨Y1, L⟩
/-- all copies, counted by blocks and by disks -/
theorem vz_all (A : vA M) : vz_sum (fun i => M 10 (M 13 i)) (M 15 0).toNat = vz_sum (fun d => if M 2 d = 102 then 0 else vz_used M d) (M 7 0).toNat := by
  have hw := vz_wbd A.O
  have hd := A.I.dk
  have e1 := vz_sum_img (c := fun i => M 13 i) (f := fun b => M 10 b) (N := 400) (m := (M 15 0).toNat) (fun k a b => by
    have ho := A.O.od k a (by omega)
    exact ⟨ho.1, ho.2.1⟩) (fun k k' a b c => A.O.oi k k' a b (by omega))
  have e1 : vz_sum (fun i => M 10 (M 13 i)) (M 15 0).toNat = _ := e1
  rw [e1, vz_sum_ext (n := 400) (g := fun b => M 10 b) (fun b b0 b1 => ?_), A.I.sm]
  · refine vz_sum_ext (fun d d0 d1 => ?_)
    by_cases q : M 2 d = 102
    · show vz_used M d = if M 2 d = 102 then 0 else vz_used M d
      rw [if_pos q]
      unfold vz_used
      have hs := A.I.sz d d0 (by omega)
      refine vz_cnt_0 (fun j j0 j1 w => ?_)
      obtain ⟨k, k0, k1, k2, k3⟩ := vz_at A.I (s := 32 * d + j) (by omega) (by omega) w
      have hc := A.I.cp _ k w k3 k0 k1
      rw [k2, show (32 * d + j) / 32 = d by omega] at hc
      exact hc.2.2.2.2 q
    · show vz_used M d = if M 2 d = 102 then 0 else vz_used M d
      rw [if_neg q]
  · show vz_b _ * M 10 b = M 10 b
    have hm := A.I.mn b b0 b1
    rcases Classical.em (0 < M 10 b) with q | q
    · obtain ⟨i, i0, i1, i2⟩ := A.O.on b b0 b1 (A.V b b0 b1 q)
      rw [vz_b1 ⟨i, i0, by omega, i2⟩, Int.one_mul]
    · rw [show M 10 b = 0 by omega, Int.mul_zero]
theorem p_countSlots (A : vA M) (r : vS M S) {post : Int → Prop} (k : post (vz_sum (fun d => if M 2 d = 102 then 0 else M 1 d) (M 7 0).toNat)) : wX1_countSlots S post := by
  unfold wX1_countSlots
  have hd := A.I.dk
  refine ⟨fun m i => 0 ≤ i ∧ i ≤ M 7 0 ∧ m = vz_sum (fun d => if M 2 d = 102 then 0 else M 1 d) i.toNat, fun _ i => (9 - i).toNat, ⟨by omega, by omega, rfl⟩, ?_⟩
  rintro m i ⟨i0, i1, rfl⟩
  unfold lX1_countSlots_4
  rw [r.dk]
  refine ⟨⟨by omega, by omega⟩, ⟨by omega, by omega⟩, fun h => ?_, fun h => ?_⟩
  · have e : i = M 7 0 := by omega
    rw [e]; exact k
  · have hs := A.I.stt i i0 h
    rw [r.stt i i0 h, r.sz i i0 h]
    refine ⟨⟨i0, by omega⟩, ⟨by omega, by omega⟩, fun q => ⟨⟨by omega, by omega, ?_⟩, by first | omega | (dsimp only; omega)⟩, fun q => ⟨⟨i0, by omega⟩, fun v e => ⟨⟨by omega, by omega, ?_⟩, by first | omega | (dsimp only; omega)⟩⟩⟩
    · rw [vz_sum_step _ i0, if_pos q, Int.add_zero]
    · rw [vz_sum_step _ i0, if_neg q, e]
theorem okc_36 : vs_okc_36 vZ := by
  intro V S T K O M B LN D i p1 p2 p3 h1 h2 h3 Z
  obtain ⟨Y, L⟩ := Z
  have Y0 := vY_0 Y 0
  have Y1 := vY_0 Y0 1
  have hd := Y.A.I.dk
  have hall := vz_all Y.A
  have hsl := vz_sum_bd (f := fun d => if M 2 d = 102 then 0 else M 1 d) (c := 32) (n := (M 7 0).toNat) (fun i i0 i1 => by
    have := Y.A.I.sz i i0 (by omega)
    show 0 ≤ (if M 2 i = 102 then 0 else M 1 i) ∧ (if M 2 i = 102 then 0 else M 1 i) ≤ 32
    split <;> omega)
  unfold wcase_36 wL_usedShare wX2_usedShare
  have ref : ∀ {post : UInt32 → vs_St → Prop}, (vz_sum (fun d => if M 2 d = 102 then 0 else M 1 d) (M 7 0).toNat ≠ 0 → post (FP.fdiv (FP.i2f (vs_I (vz_sum (fun d => if M 2 d = 102 then 0 else vz_used M d) (M 7 0).toNat))) (FP.i2f (vs_I (vz_sum (fun d => if M 2 d = 102 then 0 else M 1 d) (M 7 0).toNat)))) (vs_st M 0 0 0)) → (vz_sum (fun d => if M 2 d = 102 then 0 else M 1 d) (M 7 0).toNat = 0 → post (FP.i2f (vs_I 0)) (vs_st (vs_st M 0 0 0) 0 0 1)) → wX3_usedShare M post := by
    intro post k1 k0 S1 e1
    subst e1
    refine ⟨fun u a i => 0 ≤ i ∧ i ≤ M 7 0 ∧ u = vz_sum (fun d => if M 2 d = 102 then 0 else vz_used M d) i.toNat ∧ a = vz_sum (fun d => if M 2 d = 102 then 0 else M 1 d) i.toNat, fun _ _ i => (9 - i).toNat, ⟨by omega, by omega, rfl, rfl⟩, ?_⟩
    rintro u a i ⟨i0, i1, rfl, rfl⟩
    unfold lX3_usedShare_11
    have hsi := vz_sum_bd (f := fun d => if M 2 d = 102 then 0 else M 1 d) (c := 32) (n := i.toNat) (fun j j0 j1 => by
      have := Y.A.I.sz j j0 (by omega)
      show 0 ≤ (if M 2 j = 102 then 0 else M 1 j) ∧ (if M 2 j = 102 then 0 else M 1 j) ≤ 32
      split <;> omega)
    refine ⟨⟨by omega, by omega⟩, ⟨by show _ ≤ M 7 0; omega, by show M 7 0 ≤ _; omega⟩, fun h => ⟨⟨by omega, by omega⟩, fun w => ?_, fun w => ?_⟩, fun h => ?_⟩
    · have h : M 7 0 ≤ i := h
      have e : i = M 7 0 := by omega
      rw [e] at w ⊢
      exact ⟨vs_n32 (vz_fnan (by omega) (by omega)), k1 w⟩
    · have h : M 7 0 ≤ i := h
      have e : i = M 7 0 := by omega
      rw [e] at w
      exact q_fails (k0 w)
    · have h : i < M 7 0 := h
      have hs := Y.A.I.stt i i0 h
      have hR : vs_R (M 2 i) := ⟨by omega, by omega⟩
      show (0 ≤ i ∧ i < 8) ∧ (vs_R (M 2 i)) ∧ (¬ M 2 i = 102 → wX3_usedOf (vs_st M 0 0 0) i _) ∧ (M 2 i = 102 → _)
      refine ⟨⟨i0, by omega⟩, hR, fun q => q_usedOf Y0.A.I i0 h (fun v e => ⟨⟨i0, by omega⟩, hR, fun _ => ⟨⟨i0, by omega⟩, fun v6 e6 => ⟨⟨by omega, by omega, ?_, ?_⟩, by first | omega | (dsimp only; omega)⟩⟩, fun z => absurd z q⟩), fun q v e => ⟨⟨i0, by omega⟩, hR, fun z => absurd q z, fun _ v7 e7 => ⟨⟨by omega, by omega, ?_, ?_⟩, by first | omega | (dsimp only; omega)⟩⟩⟩
      · rw [vz_sum_step _ i0, if_neg q, e]; rfl
      · rw [vz_sum_step _ i0, if_neg q, e6]; rfl
      · rw [vz_sum_step _ i0, if_pos q, e]
      · rw [vz_sum_step _ i0, if_pos q, e7]
  refine p_countSlots Y.A Y.r ⟨⟨by omega, by omega⟩, fun q => p_countCopies Y.A Y.r ?_, fun q => ⟨fun _ => ref (fun z => absurd q z) (fun _ => w_ex (vz_00 _ 1) (by omega) vR1 ⟨Y1, L⟩), rfl⟩⟩
  rw [hall]
  have nn := vz_fnan (a := vz_sum (fun d => if M 2 d = 102 then 0 else vz_used M d) (M 7 0).toNat) (b := vz_sum (fun d => if M 2 d = 102 then 0 else M 1 d) (M 7 0).toNat) (by omega) (by omega)
  have nd := vz_f2d nn
  refine ⟨vs_n32 nn, vs_n64 nd, fun D2 e2 => ref (fun _ => ?_) (fun z => absurd z q)⟩
  have e0 : D2 0 = FP.f2d (FP.fdiv (FP.i2f (vs_I (vz_sum (fun d => if M 2 d = 102 then 0 else vz_used M d) (M 7 0).toNat))) (FP.i2f (vs_I (vz_sum (fun d => if M 2 d = 102 then 0 else M 1 d) (M 7 0).toNat)))) := by rw [e2]; exact vz_upd0 _ _
  have self := vz_dself nd
  unfold wX3_thrown
  rw [vz_00, e0]
  exact ⟨vs_R0, vs_R0, fun _ => ⟨vs_R0, fun z => absurd rfl z, fun _ => ⟨vs_n64 nd, vz_dR _ _, fun _ => ⟨Y0, L⟩, fun z => absurd self z⟩⟩, fun z => z rfl⟩
end VZN2
