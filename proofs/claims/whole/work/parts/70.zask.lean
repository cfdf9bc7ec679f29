/-! pure part: a request is made; a pass; a disk is replaced, warned of, a copy rots -/
section VZK
variable {M S K V T O : vs_St}
def vz_ask (M : vs_St) (b w : Int) : vs_St := vs_st (vs_st (vs_st (vs_st M 23 (M 28 0) b) 24 (M 28 0) w) 26 (M 28 0) 119) 28 0 (M 28 0 + 1)
theorem vK_ask (Q : vQ M) (k : vK M K) {t b w g x : Int} (hn : M 28 0 < 300) (t0 : 0 ≤ t) (t1 : t < 4) (hb : b / 100 = t) (hg : g = if w < 0 then 0 else 1) (hx : 0 ≤ w → x = w) :
    vK (vz_ask M b w) (vs_st (vs_st (vs_st (vs_st (vs_st (vs_st (vs_st (vs_st K 10 (M 28 0) b) 11 (M 28 0) g) 12 (M 28 0) x) 13 (M 28 0) 119) 7 (t * 300 + K 2 t) (M 28 0)) 2 t (K 2 t + 1)) 9 0 (K 9 0 + 1)) 8 0 (M 28 0 + 1)) := by
  have hq := Q.rq
  have hnt := k.qn t t0 t1
  have m28 : vz_ask M b w 28 0 = M 28 0 + 1 := rfl
  have m26 : ∀ i : Int, vz_ask M b w 26 i = if i = M 28 0 then 119 else M 26 i := fun _ => rfl
  have m23 : ∀ i : Int, vz_ask M b w 23 i = if i = M 28 0 then b else M 23 i := fun _ => rfl
  have m24 : ∀ i : Int, vz_ask M b w 24 i = if i = M 28 0 then w else M 24 i := fun _ => rfl
  have mW : ∀ t' i : Int, vz_W (vz_ask M b w) t' i ↔ (i = M 28 0 ∧ t' = t) ∨ (i ≠ M 28 0 ∧ vz_W M t' i) := by
    intro t' i
    unfold vz_W
    rw [m26, m23]
    by_cases e : i = M 28 0
    · rw [if_pos e, if_pos e]
      exact ⟨fun z => Or.inl ⟨e, by rw [← hb]; exact z.2.symm⟩, fun z => z.elim (fun y => ⟨rfl, by rw [hb]; exact y.2.symm⟩) (fun y => absurd e y.1)⟩
    · rw [if_neg e, if_neg e]
      exact ⟨fun z => Or.inr ⟨e, z⟩, fun z => z.elim (fun y => absurd y.1 e) (fun y => y.2)⟩
  have k2' : ∀ t' : Int, vs_st (vs_st (vs_st (vs_st (vs_st (vs_st (vs_st (vs_st K 10 (M 28 0) b) 11 (M 28 0) g) 12 (M 28 0) x) 13 (M 28 0) 119) 7 (t * 300 + K 2 t) (M 28 0)) 2 t (K 2 t + 1)) 9 0 (K 9 0 + 1)) 8 0 (M 28 0 + 1) 2 t' = if t' = t then K 2 t + 1 else K 2 t' := fun _ => rfl
  have k3' : ∀ t' : Int, vs_st (vs_st (vs_st (vs_st (vs_st (vs_st (vs_st (vs_st K 10 (M 28 0) b) 11 (M 28 0) g) 12 (M 28 0) x) 13 (M 28 0) 119) 7 (t * 300 + K 2 t) (M 28 0)) 2 t (K 2 t + 1)) 9 0 (K 9 0 + 1)) 8 0 (M 28 0 + 1) 3 t' = K 3 t' := fun _ => rfl
  have k7' : ∀ i : Int, vs_st (vs_st (vs_st (vs_st (vs_st (vs_st (vs_st (vs_st K 10 (M 28 0) b) 11 (M 28 0) g) 12 (M 28 0) x) 13 (M 28 0) 119) 7 (t * 300 + K 2 t) (M 28 0)) 2 t (K 2 t + 1)) 9 0 (K 9 0 + 1)) 8 0 (M 28 0 + 1) 7 i = if i = t * 300 + K 2 t then M 28 0 else K 7 i := fun _ => rfl
  have k7o : ∀ t' j : Int, 0 ≤ t' → t' < 4 → 0 ≤ j → j < K 2 t' → ¬ t' * 300 + j = t * 300 + K 2 t := by
    intro t' j a0 a1 j0 j1 e
    have := k.qn t' a0 a1
    have : t' = t := by omega
    subst this; omega
  unfold vK
  rw [m28]
  refine ⟨k.tn, k.pr, k.sv, k.cr, k.br, rfl, fun i a0 a1 => ?_, fun i a0 a1 => ?_, fun i a0 a1 a2 => ?_, fun i a0 a1 a2 a3 => ?_, fun i a0 a1 => ?_, ?_, fun t' a0 a1 => ?_, fun t' a0 a1 => ?_, fun t' j a0 a1 j0 j1 => ?_, fun t' j j' a0 a1 j0 j1 j2 => ?_, fun t' i a0 a1 i0 i1 i2 => ?_⟩
  · rw [m23]
    show (if i = M 28 0 then b else K 10 i) = _
    by_cases e : i = M 28 0
    · rw [if_pos e, if_pos e]
    · rw [if_neg e, if_neg e]; exact k.bl i a0 (by omega)
  · rw [m24]
    show (if i = M 28 0 then g else K 11 i) = _
    by_cases e : i = M 28 0
    · rw [if_pos e, if_pos e]; exact hg
    · rw [if_neg e, if_neg e]; exact k.iw i a0 (by omega)
  · rw [m24] at a2 ⊢
    show (if i = M 28 0 then x else K 12 i) = _
    by_cases e : i = M 28 0
    · rw [if_pos e] at a2
      rw [if_pos e, if_pos e]; exact hx a2
    · rw [if_neg e] at a2
      rw [if_neg e, if_neg e]; exact k.vw i a0 (by omega) a2
  · rw [m24] at a2
    rw [m26] at a3
    show (if i = M 28 0 then x else K 12 i) = M 25 i ∧ 0 ≤ M 25 i ∧ M 25 i ≤ 9999
    by_cases e : i = M 28 0
    · rw [if_pos e] at a3; omega
    · rw [if_neg e] at a2 a3 ⊢; exact k.va i a0 (by omega) a2 a3
  · rw [m26]
    show (if i = M 28 0 then 119 else K 13 i) = _
    by_cases e : i = M 28 0
    · rw [if_pos e, if_pos e]
    · rw [if_neg e, if_neg e]; exact k.stt i a0 (by omega)
  · show K 9 0 + 1 = _
    unfold vz_waitA
    rw [m28, vz_cnt_step _ hq.1, vz_b1 (by rw [m26, if_pos rfl]), k.wt]
    unfold vz_waitA
    rw [vz_cnt_ext (p := fun r => M 26 r = 119) (q := fun r => vz_ask M b w 26 r = 119) (fun i i0 i1 => by rw [m26, if_neg (by omega)])]
  · rw [k2', k3']
    have := k.qn t' a0 a1
    by_cases e : t' = t
    · rw [if_pos e, ← e]; omega
    · rw [if_neg e]; omega
  · rw [k2', k3']
    unfold vz_wait
    rw [m28, vz_cnt_step _ hq.1]
    rw [vz_cnt_ext (p := vz_W (vz_ask M b w) t') (q := vz_W M t') (fun i i0 i1 => (mW t' i).trans ⟨fun z => z.elim (fun y => by omega) (fun y => y.2), fun z => Or.inr ⟨by omega, z⟩⟩)]
    have := k.qw t' a0 a1
    unfold vz_wait at this
    by_cases e : t' = t
    · rw [if_pos e, vz_b1 ((mW t' _).mpr (Or.inl ⟨rfl, e⟩)), ← e]; omega
    · rw [if_neg e, vz_b0 (fun z => ((mW t' _).mp z).elim (fun y => e y.2) (fun y => y.1 rfl))]; omega
  · rw [k3'] at j0
    rw [k2'] at j1
    rw [k7']
    by_cases e : t' * 300 + j = t * 300 + K 2 t
    · rw [if_pos e]
      have et : t' = t := by
        have := k.qn t' a0 a1
        by_cases z : t' = t
        · exact z
        · rw [if_neg z] at j1; omega
      exact ⟨⟨hq.1, by omega⟩, (mW _ _).mpr (Or.inl ⟨rfl, et⟩)⟩
    · rw [if_neg e]
      have j1 : j < K 2 t' := by
        by_cases z : t' = t
        · rw [if_pos z] at j1; subst z; omega
        · rwa [if_neg z] at j1
      have := k.qa t' j a0 a1 j0 j1
      exact ⟨⟨this.1.1, by omega⟩, (mW _ _).mpr (Or.inr ⟨by omega, this.2⟩)⟩
  · rw [k3'] at j0
    rw [k2'] at j2
    have hn' := k.qn t' a0 a1
    have jl : j < K 2 t' := by
      by_cases z : t' = t
      · rw [if_pos z] at j2; subst z; omega
      · rw [if_neg z] at j2; omega
    have hj := k.qa t' j a0 a1 j0 jl
    rw [k7', k7', if_neg (k7o t' j a0 a1 (by omega) jl)]
    by_cases e : t' * 300 + j' = t * 300 + K 2 t
    · rw [if_pos e]; exact hj.1.2
    · rw [if_neg e]
      refine k.qo t' j j' a0 a1 j0 j1 ?_
      by_cases z : t' = t
      · rw [if_pos z] at j2; subst z; omega
      · rwa [if_neg z] at j2
  · rcases (mW t' i).mp i2 with ⟨e1, e2⟩ | ⟨e1, e2⟩
    · subst e2
      exact ⟨K 2 t', by rw [k3']; omega, by rw [k2', if_pos rfl]; omega, by rw [k7', if_pos rfl]; exact e1.symm⟩
    · obtain ⟨j, j0, j1, j2⟩ := k.qc t' i a0 a1 i0 (by omega) e2
      have hn' := k.qn t' a0 a1
      refine ⟨j, by rw [k3']; exact j0, ?_, ?_⟩
      · rw [k2']
        by_cases z : t' = t
        · rw [if_pos z]; subst z; omega
        · rw [if_neg z]; exact j1
      · rw [k7', if_neg (k7o t' j a0 a1 (by omega) j1)]; exact j2
theorem vA_ask (A : vA M) {b w : Int} (hn : M 28 0 < 300) (hb : 0 ≤ b ∧ b < 100 * M 27 0) (hw : -1 ≤ w ∧ w ≤ 9999) : vA (vz_ask M b w) := by
  have hq := A.Q.rq
  refine ⟨A.I, vO_eq A.O rfl rfl rfl rfl rfl, A.V, ⟨A.Q.tn, ?_, fun r r0 r1 => ?_, fun r r0 r1 => ?_, fun r r0 r1 => ?_⟩, A.T, A.P⟩
  · show 0 ≤ M 28 0 + 1 ∧ M 28 0 + 1 ≤ 300; omega
  · have r1 : r < M 28 0 + 1 := r1
    show 0 ≤ (if r = M 28 0 then b else M 23 r) ∧ (if r = M 28 0 then b else M 23 r) < 100 * M 27 0
    by_cases e : r = M 28 0
    · rw [if_pos e]; exact hb
    · rw [if_neg e]; exact A.Q.bl r r0 (by omega)
  · have r1 : r < M 28 0 + 1 := r1
    show -1 ≤ (if r = M 28 0 then w else M 24 r) ∧ (if r = M 28 0 then w else M 24 r) ≤ 9999
    by_cases e : r = M 28 0
    · rw [if_pos e]; exact hw
    · rw [if_neg e]; exact A.Q.nw r r0 (by omega)
  · have r1 : r < M 28 0 + 1 := r1
    show (if r = M 28 0 then 119 else M 26 r) = 119 ∨ (if r = M 28 0 then 119 else M 26 r) = 100 ∨ (if r = M 28 0 then 119 else M 26 r) = 120
    by_cases e : r = M 28 0
    · rw [if_pos e]; exact Or.inl rfl
    · rw [if_neg e]; exact A.Q.stt r r0 (by omega)
theorem vz_waitA_ask (Q : vQ M) (b w : Int) : vz_waitA (vz_ask M b w) = vz_waitA M + 1 := by
  have hq := Q.rq
  unfold vz_waitA
  show vz_cnt (fun r => (if r = M 28 0 then 119 else M 26 r) = 119) (M 28 0 + 1).toNat = _
  rw [vz_cnt_step _ hq.1, vz_b1 (by rw [if_pos rfl]), vz_cnt_ext (p := fun r => (if r = M 28 0 then 119 else M 26 r) = 119) (q := fun r => M 26 r = 119) (fun i i0 i1 => by rw [if_neg (by omega)])]
theorem q_asks (Q : vQ M) {b w x : Int} {post : Int → vs_St → Prop} (k1 : vz_waitA M = 40 ∨ M 28 0 = 300 → post 0 (vs_st M 0 0 x)) (k0 : vz_waitA M ≠ 40 → M 28 0 < 300 → post (M 28 0 + 1 - 1) (vz_ask M b w)) : wX3_asks M b w x post := by
  have hq := Q.rq
  have hc := vz_cnt_bd (fun r => M 26 r = 119) (M 28 0).toNat
  unfold wX3_asks
  refine q_waitingAll Q ⟨⟨by unfold vz_waitA; omega, by unfold vz_waitA; omega⟩, fun z => q_fails (k1 (Or.inl z)), fun z => ⟨⟨by omega, by omega⟩, fun y => ⟨⟨hq.1, by omega⟩, fun S4 e4 => ?_⟩, fun y => q_fails (k1 (Or.inr y))⟩⟩
  subst e4
  refine ⟨⟨hq.1, by show M 28 0 < 300; omega⟩, fun S5 e5 => ?_⟩
  subst e5
  refine ⟨⟨hq.1, by show M 28 0 < 300; omega⟩, fun S6 e6 S7 e7 => ?_⟩
  subst e6; subst e7
  exact k0 z (by omega)
theorem p_checkRoom (Y : vY M V S K) {post : Prop} {px : Nat → Prop} (k0 : vz_waitA M < 40 → M 28 0 < 300 → post) (k1 : 40 ≤ vz_waitA M ∨ 300 ≤ M 28 0 → px 2) : wX2_checkRoomForRequest V S T K post px := by
  have hq := Y.A.Q.rq
  have hc := vz_cnt_bd (fun r => M 26 r = 119) (M 28 0).toNat
  unfold wX2_checkRoomForRequest
  rw [Y.k.wt, Y.k.rq]
  exact ⟨⟨by unfold vz_waitA; omega, by unfold vz_waitA; omega⟩, fun h => ⟨⟨by omega, by omega⟩, fun h2 => k0 h h2, fun h2 => k1 (Or.inr h2)⟩, fun h => k1 (Or.inl h)⟩
theorem p_enqueue (Y : vY M V S K) {t b g w x : Int} (hn : M 28 0 < 300) (t0 : 0 ≤ t) (t1 : t < 4) (hb : b / 100 = t) (hg : g = if w < 0 then 0 else 1) (hx : 0 ≤ w → x = w) {post : Int → vs_St → Prop} (k : ∀ K', vK (vz_ask M b w) K' → post (M 28 0) K') : wX0_enqueue K t b g x post := by
  have hq := Y.A.Q.rq
  have hnt := Y.k.qn t t0 t1
  have hg2 : g = 0 ∨ g = 1 := by rw [hg]; split <;> simp
  have kk := vK_ask Y.A.Q Y.k hn t0 t1 hb hg hx
  unfold wX0_enqueue
  intro v1 e1
  rw [Y.k.rq] at e1
  subst e1
  refine ⟨⟨hq.1, hn⟩, fun S2 e2 => ⟨⟨hq.1, hn⟩, hg2, fun S3 e3 => ⟨⟨hq.1, hn⟩, fun S4 e4 => ⟨⟨hq.1, hn⟩, fun S5 e5 => ?_⟩⟩⟩⟩
  subst e2; subst e3; subst e4; subst e5
  refine ⟨⟨t0, t1⟩, ⟨by show 0 ≤ t * 300 + K 2 t; omega, by show t * 300 + K 2 t < 1200; omega⟩, fun S6 e6 => ?_⟩
  subst e6
  refine ⟨⟨t0, t1⟩, ⟨t0, t1⟩, fun S7 e7 S8 e8 S9 e9 => ?_⟩
  subst e7; subst e8; subst e9
  refine k _ ?_
  have e8 : K 8 0 = M 28 0 := Y.k.rq
  have := kk
  rw [← e8] at this ⊢
  exact this
theorem okc_7 : vs_okc_7 vZ := by
  intro V S T K O M B LN i p1 p2 p3 h1 h2 h3 Z
  obtain ⟨Y, L⟩ := Z
  have Y0 := vY_0 Y 0
  have Y1 := vY_0 Y 1
  have Y2 := vY_0 Y0 2
  have htn := Y.A.Q.tn
  have hq := Y.A.Q.rq
  unfold wcase_7 wL_read wX2_read wX3_read
  refine p_checkBlock Y h1 h2 (fun d0 d1 d2 d3 => ?_) (fun hn => ⟨fun _ => q_isNone Y.A.Q.tn h1 h2 (fun z0 z1 z2 z3 => absurd ⟨z0, z1, z2, z3⟩ hn) (fun _ => ⟨vR1, fun z => by omega, fun _ => w_ex (vz_00 M 1) (by omega) vR1 ⟨Y1, L⟩⟩), fun z => by omega, Or.inl rfl⟩)
  have eb : p1 * 100 + p2 = 100 * p1 + p2 := by omega
  refine p_checkRoom Y (fun q w => ?_) (fun q => ⟨fun z => by omega, fun _ => ?_, Or.inr rfl⟩)
  · unfold wX2_blockId
    rw [eb]
    refine p_enqueue Y0 (w := -1) w d0 (by omega) (by omega) (by rw [if_pos (by omega)]) (fun z => by omega) (fun K' k' => ⟨⟨by show _ ≤ M 28 0; omega, by show M 28 0 ≤ _; omega⟩, fun O2 e2 => ?_⟩)
    refine q_isNone Y.A.Q.tn h1 h2 (fun _ _ _ _ => ⟨vs_R0, fun _ => q_asks Y0.A.Q (fun z => ?_) (fun _ _ => ?_), fun z => absurd rfl z⟩) (fun z => absurd ⟨d0, d1, d2, d3⟩ z)
    · have z : vz_waitA M = 40 ∨ M 28 0 = 300 := z
      omega
    · exact w_ok (vz_00 M 0) ⟨by show _ ≤ M 28 0 + 1 - 1; omega, by show M 28 0 + 1 - 1 ≤ _; omega⟩ (by rw [e2, vz_00]; show M 28 0 = M 28 0 + 1 - 1; omega) ⟨⟨vA_ask Y0.A w ⟨by omega, by show _ < 100 * M 27 0; omega⟩ ⟨by omega, by omega⟩, Y.C, vS_k2 Y0.r (fun c h => by
        have n (k : Nat) (hk : vz_cs k = false) : c ≠ k := by
          intro e; subst e; rw [h] at hk; exact nomatch hk
        unfold vz_ask
        rw [vs_st_ne _ (n 28 rfl), vs_st_ne _ (n 26 rfl), vs_st_ne _ (n 24 rfl), vs_st_ne _ (n 23 rfl)]), k', Y.v⟩, L.1, by rw [vz_waitA_ask Y0.A.Q]; show vz_waitA M + 1 ≤ 40; omega⟩
  · have q : vz_waitA M = 40 ∨ M 28 0 = 300 := by have := L.2; omega
    exact q_isNone Y.A.Q.tn h1 h2 (fun _ _ _ _ => ⟨vs_R0, fun _ => q_asks Y0.A.Q (fun z => w_ex (vz_00 _ 2) (by omega) vR2 ⟨Y2, L⟩) (fun z1 z2 => by
      have z1 : vz_waitA M ≠ 40 := z1
      have z2 : M 28 0 < 300 := z2
      omega), fun z => absurd rfl z⟩) (fun z => absurd ⟨d0, d1, d2, d3⟩ z)
theorem okc_8 : vs_okc_8 vZ := by
  intro V S T K O M B LN i p1 p2 p3 h1 h2 h3 Z
  obtain ⟨Y, L⟩ := Z
  have Y0 := vY_0 Y 0
  have Y1 := vY_0 Y 1
  have Y2 := vY_0 Y0 2
  have Y3 := vY_0 Y0 3
  have htn := Y.A.Q.tn
  have hq := Y.A.Q.rq
  unfold wcase_8 wL_write wX2_write wX3_write
  refine p_checkBlock Y h1 h2 (fun d0 d1 d2 d3 => ?_) (fun hn => ⟨fun _ => q_isNone Y.A.Q.tn h1 h2 (fun z0 z1 z2 z3 => absurd ⟨z0, z1, z2, z3⟩ hn) (fun _ => ⟨vR1, fun z => by omega, fun _ => w_ex (vz_00 M 1) (by omega) vR1 ⟨Y1, L⟩⟩), fun z => by omega, fun z => by omega, Or.inl rfl⟩)
  have eb : p1 * 100 + p2 = 100 * p1 + p2 := by omega
  refine ⟨h3, fun q => ⟨fun z => by omega, fun _ => ?_, fun z => by omega, Or.inr (Or.inl rfl)⟩, fun q => ⟨h3, fun w => p_checkRoom Y (fun y x => ?_) (fun y => ⟨fun z => by omega, fun z => by omega, fun _ => ?_, Or.inr (Or.inr rfl)⟩), fun w => ⟨fun z => by omega, fun _ => ?_, fun z => by omega, Or.inr (Or.inl rfl)⟩⟩⟩
  · exact q_isNone Y.A.Q.tn h1 h2 (fun _ _ _ _ => ⟨vs_R0, fun _ => q_isBetween h3 ⟨by omega, by omega⟩ ⟨by omega, by omega⟩ ⟨vz_bR _, fun _ => q_fails (w_ex (vz_00 _ 2) (by omega) vR2 ⟨Y2, L⟩), fun z => by have := vz_bp.mp z; omega⟩, fun z => absurd rfl z⟩) (fun z => absurd ⟨d0, d1, d2, d3⟩ z)
  · unfold wX2_blockId
    rw [eb]
    refine p_enqueue Y0 (w := p3) x d0 (by omega) (by omega) (by rw [if_neg (by omega)]) (fun z => rfl) (fun K' k' => ⟨⟨by show _ ≤ M 28 0; omega, by show M 28 0 ≤ _; omega⟩, fun O2 e2 => ?_⟩)
    refine q_isNone Y.A.Q.tn h1 h2 (fun _ _ _ _ => ⟨vs_R0, fun _ => q_isBetween h3 ⟨by omega, by omega⟩ ⟨by omega, by omega⟩ ⟨vz_bR _, fun z => absurd ⟨q, w⟩ (vz_bn.mp z), fun _ => q_asks Y0.A.Q (fun z => ?_) (fun _ _ => ?_)⟩, fun z => absurd rfl z⟩) (fun z => absurd ⟨d0, d1, d2, d3⟩ z)
    · have z : vz_waitA M = 40 ∨ M 28 0 = 300 := z
      omega
    · exact w_ok (vz_00 M 0) ⟨by show _ ≤ M 28 0 + 1 - 1; omega, by show M 28 0 + 1 - 1 ≤ _; omega⟩ (by rw [e2, vz_00]; show M 28 0 = M 28 0 + 1 - 1; omega) ⟨⟨vA_ask Y0.A x ⟨by omega, by show _ < 100 * M 27 0; omega⟩ ⟨by omega, by omega⟩, Y.C, vS_k2 Y0.r (fun c h => by
        have n (k : Nat) (hk : vz_cs k = false) : c ≠ k := by
          intro e; subst e; rw [h] at hk; exact nomatch hk
        unfold vz_ask
        rw [vs_st_ne _ (n 28 rfl), vs_st_ne _ (n 26 rfl), vs_st_ne _ (n 24 rfl), vs_st_ne _ (n 23 rfl)]), k', Y.v⟩, L.1, by rw [vz_waitA_ask Y0.A.Q]; show vz_waitA M + 1 ≤ 40; omega⟩
  · have y : vz_waitA M = 40 ∨ M 28 0 = 300 := by have := L.2; omega
    exact q_isNone Y.A.Q.tn h1 h2 (fun _ _ _ _ => ⟨vs_R0, fun _ => q_isBetween h3 ⟨by omega, by omega⟩ ⟨by omega, by omega⟩ ⟨vz_bR _, fun z => absurd ⟨q, w⟩ (vz_bn.mp z), fun _ => q_asks Y0.A.Q (fun z => w_ex (vz_00 _ 3) (by omega) vR3 ⟨Y3, L⟩) (fun z1 z2 => by
      have z1 : vz_waitA M ≠ 40 := z1
      have z2 : M 28 0 < 300 := z2
      omega)⟩, fun z => absurd rfl z⟩) (fun z => absurd ⟨d0, d1, d2, d3⟩ z)
  · exact q_isNone Y.A.Q.tn h1 h2 (fun _ _ _ _ => ⟨vs_R0, fun _ => q_isBetween h3 ⟨by omega, by omega⟩ ⟨by omega, by omega⟩ ⟨vz_bR _, fun _ => q_fails (w_ex (vz_00 _ 2) (by omega) vR2 ⟨Y2, L⟩), fun z => by have := vz_bp.mp z; omega⟩, fun z => absurd rfl z⟩) (fun z => absurd ⟨d0, d1, d2, d3⟩ z)
-- waiting requests never grow in number along a tick
def vz_wl (M M' : vs_St) : Prop := M' 28 = M 28 ∧ ∀ i : Int, M' 26 i = 119 → M 26 i = 119
theorem vz_wl.trans {M M' M'' : vs_St} (h : vz_wl M M') (h' : vz_wl M' M'') : vz_wl M M'' := ⟨h'.1.trans h.1, fun i q => h.2 i (h'.2 i q)⟩
theorem vz_wl.eq {M' : vs_St} (h28 : M' 28 = M 28) (h26 : M' 26 = M 26) : vz_wl M M' := ⟨h28, fun i q => by rw [h26] at q; exact q⟩
theorem vz_wl.le {M' : vs_St} (h : vz_wl M M') : vz_waitA M' ≤ vz_waitA M := by
  unfold vz_waitA
  rw [h.1]
  exact vz_cnt_imp (fun i _ _ q => h.2 i q)
theorem vz_wl_srv (A : vA M) {r : Int} (r0 : 0 ≤ r) (r1 : r < M 28 0) : vz_wl M (vz_srv M r) := by
  have hb := A.Q.bl r r0 r1
  have ht := A.Q.tn
  have hw := A.Q.nw r r0 r1
  have fin : ∀ {X : vs_St} {b z : Int}, X 28 = M 28 → X 26 = M 26 → z ≠ 119 → vz_wl M (vz_fin X r b z) := by
    intro X b z h28 h26 hz
    refine ⟨h28, fun i q => ?_⟩
    have q : (if i = r then z else X 26 i) = 119 := q
    by_cases e : i = r
    · rw [if_pos e] at q; exact absurd q hz
    · rw [if_neg e, h26] at q; exact q
  unfold vz_srv
  by_cases q : M 24 r < 0
  · rw [if_pos q]; exact fin rfl rfl (by split <;> omega)
  · rw [if_neg q]
    obtain ⟨a, o, v, kp, _⟩ := vz_wr_ok A.I A.O A.V hb.1 (by omega : M 23 r < 400) (v := M 24 r) ⟨by omega, hw.2⟩
    exact fin (kp 28 (by decide) (by decide) (by decide) (by decide) (by decide) (by decide) (by decide) (by decide) (by decide) (by decide) (by decide) (by decide)) (kp 26 (by decide) (by decide) (by decide) (by decide) (by decide) (by decide) (by decide) (by decide) (by decide) (by decide) (by decide) (by decide)) (by split <;> omega)
theorem vz_wl_inr (A : vA M) {l : Int} (hl : 0 ≤ l) : ∀ k : Nat, (k : Int) ≤ M 27 0 → vz_wl M (vz_inr l M k).2.2
  | 0, _ => vz_wl.eq rfl rfl
  | k + 1, hk => by
    obtain ⟨a, f, c, d⟩ := vz_inr_ok A hl k (by omega)
    have ih := vz_wl_inr A hl k (by omega)
    show vz_wl M (vz_ostep k (vz_inr l M k)).2.2
    unfold vz_ostep
    by_cases q : 0 ≤ vz_old (vz_inr l M k).2.2 k ∧ vz_cost (vz_inr l M k).2.2 k ≤ (vz_inr l M k).1
    · rw [if_pos q]
      have ho : vz_old (vz_inr l M k).2.2 k < (vz_inr l M k).2.2 28 0 := by
        rcases vz_old_spec a.Q k with ⟨e, _⟩ | ⟨_, e, _⟩
        · omega
        · exact e
      exact ih.trans (vz_wl_srv a q.1 ho)
    · rw [if_neg q]; exact ih
theorem vz_wl_rnds (A : vA M) {l : Int} (hl : 0 ≤ l) : ∀ k : Nat, vz_wl M (vz_rnds l M k).2.2
  | 0 => vz_wl.eq rfl rfl
  | k + 1 => by
    obtain ⟨a, f, c, d⟩ := vz_rnds_ok A hl k
    have htn := a.Q.tn
    have ih := vz_wl_rnds A hl k
    exact ih.trans (vz_wl_inr a c ((vz_rnds l M k).2.2 27 0).toNat (by omega))
theorem vz_wl_tick (A : vA M) (C : vC M) : vz_wl M (vz_tick M) := by
  obtain ⟨A1, h29, A2, f, hn, A3, A4, f4⟩ := vz_tick_st A C
  have h1 : vz_wl M (vz_k1 M) := vz_wl.eq (vz_bg_ne M (by decide) (by decide) _) (vz_bg_ne M (by decide) (by decide) _)
  have h2 : vz_wl (vz_k1 M) (vz_k2 M).2 := vz_wl.eq (f 28 (by decide) (by decide) (by decide) (by decide)) (f 26 (by decide) (by decide) (by decide) (by decide))
  have h3 : vz_wl (vz_k2 M).2 (vz_k3 M) := vz_wl.eq rfl rfl
  have h4 : vz_wl (vz_k3 M) (vz_k4 M) := vz_wl_rnds A3 (by omega) 21
  have h5 : vz_wl (vz_k4 M) (vz_tick M) := vz_wl.eq (vz_cd_ne _ (by decide) (by decide) _) (vz_cd_ne _ (by decide) (by decide) _)
  exact ((h1.trans h2).trans (h3.trans h4)).trans h5
theorem vz_wl_pass (A : vA M) (C : vC M) : ∀ n : Nat, M 30 0 + n ≤ 9999 → (∀ j : Nat, j < n → vz_D22 (vz_pass M j)) → vz_wl M (vz_pass M n)
  | 0, _, _ => vz_wl.eq rfl rfl
  | n + 1, hn, D => by
    obtain ⟨a, c, e, g⟩ := vz_pass_ok A C n (by omega) (fun j h => D j (by omega))
    rw [vz_pass_s]
    exact (vz_wl_pass A C n (by omega) (fun j h => D j (by omega))).trans (vz_wl_tick a c)
theorem okc_15 : vs_okc_15 vZ := by
  intro V S T K O M B LN i p1 p2 p3 h1 h2 h3 Z
  obtain ⟨Y, L⟩ := Z
  have Y0 := vY_0 Y 0
  have Y1 := vY_0 Y0 1
  have Y2 := vY_0 Y0 2
  have hc := Y.C.2.1
  unfold wcase_15 wL_pass
  refine p_pass Y0.A Y0.C Y0.r Y0.k Y0.v h1 (fun q1 q2 q3 D V' S' K' r' k' v' => ?_) (fun q => ⟨fun _ => q_pass Y0.A Y0.C h1 (fun z1 z2 _ => absurd ⟨z1, z2⟩ q) (fun _ => w_ex (vz_00 _ 1) (by omega) vR1 ⟨Y1, L⟩) (fun z1 z2 _ => absurd ⟨z1, z2⟩ q), fun z => by omega, Or.inl rfl⟩) (fun q1 q2 q3 => ⟨fun z => by omega, fun _ => q_pass Y0.A Y0.C h1 (fun _ _ z => ?_) (fun z => absurd ⟨q1, q2⟩ z) (fun _ _ _ => w_ex (vz_00 _ 2) (by omega) vR2 ⟨Y2, L⟩), Or.inr rfl⟩)
  · have q3 : M 30 0 + p1 ≤ 9999 := q3
    obtain ⟨a, c, e, g⟩ := vz_pass_ok Y0.A Y0.C p1.toNat (by show M 30 0 + _ ≤ 9999; omega) (fun j h => D j (by omega))
    have e : vz_pass (vs_st M 0 0 0) p1.toNat 30 0 = M 30 0 + p1.toNat := e
    have wl := (vz_wl_pass Y0.A Y0.C p1.toNat (by show M 30 0 + _ ≤ 9999; omega) (fun j h => D j (by omega))).le
    have wl : vz_waitA (vz_pass (vs_st M 0 0 0) p1.toNat) ≤ vz_waitA M := wl
    have hL := L.2
    refine ⟨⟨by omega, by omega⟩, fun O2 e2 => q_pass Y0.A Y0.C h1 (fun _ _ _ => ⟨D, w_ok (by rw [g]; exact vz_00 M 0) ⟨by omega, by omega⟩ (by rw [e2, vz_00]) ⟨⟨a, c, r', k', v'⟩, L.1, by omega⟩⟩) (fun z => absurd ⟨q1, q2⟩ z) (fun _ _ z => ?_)⟩
    have z : 9999 < M 30 0 + p1 := z
    omega
  · have q3 : 9999 < M 30 0 + p1 := q3
    have z : M 30 0 + p1 ≤ 9999 := z
    omega
end VZK
