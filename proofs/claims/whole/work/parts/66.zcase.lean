/-! pure part: the relation of both sides, and the cases that only read; by program (wip/whole/pure/p66.py) -/
def vY (M V S K : vs_St) : Prop :=
  (vA M) ∧
  (vC M) ∧
  (vS M S) ∧
  (vK M K) ∧
  (vV M V)
theorem vY.A {M V S K : vs_St} (h : vY M V S K) : vA M := h.1
theorem vY.C {M V S K : vs_St} (h : vY M V S K) : vC M := h.2.1
theorem vY.r {M V S K : vs_St} (h : vY M V S K) : vS M S := h.2.2.1
theorem vY.k {M V S K : vs_St} (h : vY M V S K) : vK M K := h.2.2.2.1
theorem vY.v {M V S K : vs_St} (h : vY M V S K) : vV M V := h.2.2.2.2

def vL (B : vs_TT) (LN : vs_LN) : Prop := vs_lnN LN = B.1 ∧ vs_tk B ∧ ∀ j : Int, 0 ≤ j → j < B.1 → vs_lnF LN j = B.2.2 j ∧ 0 ≤ B.2.2 j ∧ B.2.2 j < 256
def vZ : vs_RR := fun V S _ K M B LN => vY M V S K ∧ vL B LN ∧ vz_waitA M ≤ 40
section VZG
variable {M S K V T O : vs_St}
theorem vY_0 (Y : vY M V S K) (n : Int) : vY (vs_st M 0 0 n) V S K :=
  ⟨vA_kq Y.A (fun c h => vs_st_ne _ (by intro e; subst e; exact nomatch h) _ _), Y.C, vS_kq Y.r (fun c h => vs_st_ne _ (by intro e; subst e; exact nomatch h) _ _), vK_kq Y.k (fun c h => vs_st_ne _ (by intro e; subst e; exact nomatch h) _ _), Y.v⟩
theorem vz_00 (M : vs_St) (n : Int) : vs_st M 0 0 n 0 0 = n := by rw [vz_rd, if_pos rfl, if_pos rfl]
theorem vz_cmp0 (x : Int) : vs_cmp x x = 0 := by unfold vs_cmp; rw [if_neg (by omega), if_pos rfl]
theorem w_ok {M5 O3 : vs_St} {r4 : Int} {P : Prop} (hM : M5 0 0 = 0) (hr : vs_R r4) (ho : O3 0 0 = r4) (p : P) :
    wX3_thrown M5 (fun r6 => (vs_R r6) ∧ (vs_R 0) ∧ (r6 = 0 → (vs_R 0) ∧ (¬ (0 : Int) = 0 → P) ∧ ((0 : Int) = 0 → (vs_R r4) ∧ (vs_R (O3 0 0)) ∧ (vs_R r4) ∧ (vs_R (vs_cmp (O3 0 0) r4)) ∧ ((vs_cmp (O3 0 0) r4) = 0 → P) ∧ (¬ (vs_cmp (O3 0 0) r4) = 0 → False))) ∧ (¬ r6 = 0 → False)) := by
  unfold wX3_thrown
  rw [hM, ho, vz_cmp0]
  exact ⟨vs_R0, vs_R0, fun _ => ⟨vs_R0, fun _ => p, fun _ => ⟨hr, hr, hr, vs_R0, fun _ => p, fun z => z rfl⟩⟩, fun z => z rfl⟩
theorem w_okb {M5 O3 : vs_St} {r4 : Int} {P : Prop} (hM : M5 0 0 = 0) (hr : r4 = 0 ∨ r4 = 1) (ho : O3 0 0 = r4) (p : P) :
    wX3_thrown M5 (fun r6 => (vs_R r6) ∧ (vs_R 0) ∧ (r6 = 0 → (vs_R 0) ∧ (¬ (0 : Int) = 0 → P) ∧ ((0 : Int) = 0 → (vs_R r4) ∧ (r4 = 0 → (vs_R (O3 0 0)) ∧ (vs_R (vs_cmp (O3 0 0) 0)) ∧ ((vs_cmp (O3 0 0) 0) = 0 → P) ∧ (¬ (vs_cmp (O3 0 0) 0) = 0 → False)) ∧ (¬ r4 = 0 → (vs_R (O3 0 0)) ∧ (vs_R (vs_cmp (O3 0 0) 1)) ∧ ((vs_cmp (O3 0 0) 1) = 0 → P) ∧ (¬ (vs_cmp (O3 0 0) 1) = 0 → False)))) ∧ (¬ r6 = 0 → False)) := by
  unfold wX3_thrown
  rw [hM, ho]
  have h1 : vs_R 1 := ⟨by omega, by omega⟩
  rcases hr with hr | hr
  · subst hr
    rw [vz_cmp0]
    exact ⟨vs_R0, vs_R0, fun _ => ⟨vs_R0, fun _ => p, fun _ => ⟨vs_R0, fun _ => ⟨vs_R0, vs_R0, fun _ => p, fun z => z rfl⟩, fun z => absurd rfl z⟩⟩, fun z => z rfl⟩
  · subst hr
    rw [vz_cmp0]
    exact ⟨vs_R0, vs_R0, fun _ => ⟨vs_R0, fun _ => p, fun _ => ⟨h1, fun z => by omega, fun _ => ⟨h1, vs_R0, fun _ => p, fun z => z rfl⟩⟩⟩, fun z => z rfl⟩
theorem w_ex {M5 : vs_St} {k : Int} {P Q : Prop} (hM : M5 0 0 = k) (hk : k ≠ 0) (hr : vs_R k) (p : P) :
    wX3_thrown M5 (fun r6 => (vs_R r6) ∧ (vs_R k) ∧ (r6 = k → (vs_R k) ∧ (¬ k = 0 → P) ∧ (k = 0 → Q)) ∧ (¬ r6 = k → False)) := by
  unfold wX3_thrown
  rw [hM]
  exact ⟨hr, hr, fun _ => ⟨hr, fun _ => p, fun z => absurd z hk⟩, fun z => z rfl⟩
theorem w_eq {x y : Int} {P : Prop} (h : x = y) (hr : vs_R y) (p : P) : (vs_R x) ∧ (vs_R y) ∧ (x = y → P) ∧ (¬ x = y → False) := by
  rw [h]; exact ⟨hr, hr, fun _ => p, fun z => z rfl⟩
theorem vR1 : vs_R 1 := ⟨by omega, by omega⟩
theorem vR2 : vs_R 2 := ⟨by omega, by omega⟩
theorem vR3 : vs_R 3 := ⟨by omega, by omega⟩
theorem p_checkDisk (Y : vY M V S K) {x : Int} (hx : vs_R x) {post : Prop} {px : Nat → Prop} (k1 : 0 ≤ x → x < M 7 0 → post) (k2 : ¬ (0 ≤ x ∧ x < M 7 0) → px 3) : wX2_checkDisk V S T K x post px := by
  have hd := Y.A.I.dk
  unfold wX2_checkDisk
  rw [Y.r.dk]
  exact ⟨hx, fun h => k2 (by omega), fun h => ⟨hx, ⟨by omega, by omega⟩, fun h2 => k1 h h2, fun h2 => k2 (by omega)⟩⟩
theorem p_checkTenant (Y : vY M V S K) {x : Int} (hx : vs_R x) {post : Prop} {px : Nat → Prop} (k1 : 0 ≤ x → x < M 27 0 → post) (k2 : ¬ (0 ≤ x ∧ x < M 27 0) → px 3) : wX2_checkTenant V S T K x post px := by
  have hd := Y.A.Q.tn
  unfold wX2_checkTenant
  rw [Y.k.tn]
  exact ⟨hx, fun h => k2 (by omega), fun h => ⟨hx, ⟨by omega, by omega⟩, fun h2 => k1 h h2, fun h2 => k2 (by omega)⟩⟩
theorem p_checkRequest (Y : vY M V S K) {x : Int} (hx : vs_R x) {post : Prop} {px : Nat → Prop} (k1 : 0 ≤ x → x < M 28 0 → post) (k2 : ¬ (0 ≤ x ∧ x < M 28 0) → px 3) : wX2_checkRequest V S T K x post px := by
  have hd := Y.A.Q.rq
  unfold wX2_checkRequest
  rw [Y.k.rq]
  exact ⟨hx, fun h => k2 (by omega), fun h => ⟨hx, ⟨by omega, by omega⟩, fun h2 => k1 h h2, fun h2 => k2 (by omega)⟩⟩
theorem p_checkBlock (Y : vY M V S K) {x y : Int} (hx : vs_R x) (hy : vs_R y) {post : Prop} {px : Nat → Prop} (k1 : 0 ≤ x → x < M 27 0 → 0 ≤ y → y < 100 → post) (k2 : ¬ (0 ≤ x ∧ x < M 27 0 ∧ 0 ≤ y ∧ y < 100) → px 3) : wX2_checkBlock V S T K x y post px := by
  unfold wX2_checkBlock
  exact p_checkTenant Y hx (fun h0 h1 => ⟨hy, fun h => k2 (by omega), fun h => ⟨hy, fun h2 => k1 h0 h1 h h2, fun h2 => k2 (by omega)⟩⟩) (fun h => k2 (fun z => h ⟨z.1, z.2.1⟩))
theorem p_checkLosses {x : Int} (hx : vs_R x) {post : Prop} {px : Nat → Prop} (k1 : 0 ≤ x → x ≤ 3 → post) (k2 : ¬ (0 ≤ x ∧ x ≤ 3) → px 1) : wX2_checkLosses x post px := by
  unfold wX2_checkLosses
  exact ⟨hx, fun h => k2 (by omega), fun h => ⟨hx, fun h2 => k1 h h2, fun h2 => k2 (by omega)⟩⟩
theorem p_checkNotFailed (Y : vY M V S K) {x : Int} (h0 : 0 ≤ x) (h1 : x < M 7 0) {post : Prop} {px : Nat → Prop} (k1 : M 2 x ≠ 102 → post) (k2 : M 2 x = 102 → px 2) : wX2_checkNotFailed V S T K x post px := by
  have hd := Y.A.I.dk
  have hs := Y.A.I.stt x h0 h1
  unfold wX2_checkNotFailed
  rw [Y.r.stt x h0 h1]
  exact ⟨⟨h0, by omega⟩, ⟨by omega, by omega⟩, k1, k2⟩
-- the cases without a refusal

theorem okc_1 : vs_okc_1 vZ := by
  intro V S T K O M B LN i p1 p2 p3 h1 h2 h3 Z
  obtain ⟨Y, L⟩ := Z
  have Y0 := vY_0 Y 0
  have Y1 := vY_0 Y 1
  unfold wcase_1 wX2_diskCount
  intro S1 e1
  subst e1
  exact w_eq Y.r.dk (by have := Y.A.I.dk; exact ⟨by show _ ≤ M 7 0; omega, by show M 7 0 ≤ _; omega⟩) ⟨Y0, L⟩

theorem okc_5 : vs_okc_5 vZ := by
  intro V S T K O M B LN i p1 p2 p3 h1 h2 h3 Z
  obtain ⟨Y, L⟩ := Z
  have Y0 := vY_0 Y 0
  have Y1 := vY_0 Y 1
  unfold wcase_5 wX2_tenantCount
  intro S1 e1
  subst e1
  exact w_eq Y.k.tn (by have := Y.A.Q.tn; exact ⟨by show _ ≤ M 27 0; omega, by show M 27 0 ≤ _; omega⟩) ⟨Y0, L⟩

theorem okc_16 : vs_okc_16 vZ := by
  intro V S T K O M B LN i p1 p2 p3 h1 h2 h3 Z
  obtain ⟨Y, L⟩ := Z
  have Y0 := vY_0 Y 0
  have Y1 := vY_0 Y 1
  unfold wcase_16 wX2_clock
  intro S1 e1
  subst e1
  exact w_eq Y.v.2.1 (by have := Y.C.2.1; exact ⟨by show _ ≤ M 30 0; omega, by show M 30 0 ≤ _; omega⟩) ⟨Y0, L⟩

theorem okc_33 : vs_okc_33 vZ := by
  intro V S T K O M B LN i p1 p2 p3 h1 h2 h3 Z
  obtain ⟨Y, L⟩ := Z
  have Y0 := vY_0 Y 0
  have Y1 := vY_0 Y 1
  unfold wcase_33 wX2_rebuilt
  intro S1 e1
  subst e1
  exact w_eq Y.v.2.2 (by have := Y.C.2.1; have := Y.C.2.2.1; exact ⟨by show _ ≤ M 31 0; omega, by show M 31 0 ≤ _; omega⟩) ⟨Y0, L⟩

theorem okc_37_dummy : True := trivial

theorem okc_2 : vs_okc_2 vZ := by
  intro V S T K O M B LN i p1 p2 p3 h1 h2 h3 Z
  obtain ⟨Y, L⟩ := Z
  have Y0 := vY_0 Y 0
  have Y1 := vY_0 Y 1
  have hdk := Y.A.I.dk
  have htn := Y.A.Q.tn
  have hrq := Y.A.Q.rq
  have hck := Y.C.2.1
  unfold wcase_2 wL_diskState wX2_diskState wX3_diskState
  refine p_checkDisk Y h1 (fun d0 d1 => ?_) (fun hn => ⟨fun _ => q_isNoDisk Y.A.I.dk h1 (fun z0 z1 => absurd ⟨z0, z1⟩ hn) (fun _ => ⟨vR1, fun z => by omega, fun _ => w_ex (vz_00 M 1) (by omega) vR1 ⟨Y1, L⟩⟩), rfl⟩)
  have hs := Y.A.I.stt p1 d0 d1
  rw [Y.r.stt p1 d0 d1]
  refine ⟨⟨d0, by omega⟩, ⟨by omega, by omega⟩, ⟨by omega, by omega⟩, fun O2 e2 => ?_⟩
  refine q_isNoDisk Y.A.I.dk h1 (fun _ _ => ⟨vs_R0, fun _ => ?_, fun z => absurd rfl z⟩) (fun z => absurd ⟨d0, d1⟩ z)
  exact ⟨⟨d0, by omega⟩, ⟨by show 0 ≤ M 2 p1; omega, by show M 2 p1 < _; omega⟩, w_ok (vz_00 M 0) ⟨by show _ ≤ M 2 p1; omega, by show M 2 p1 ≤ _; omega⟩ (by rw [e2, vz_00]; rfl) ⟨Y0, L⟩⟩

theorem okc_3 : vs_okc_3 vZ := by
  intro V S T K O M B LN i p1 p2 p3 h1 h2 h3 Z
  obtain ⟨Y, L⟩ := Z
  have Y0 := vY_0 Y 0
  have Y1 := vY_0 Y 1
  have hdk := Y.A.I.dk
  have htn := Y.A.Q.tn
  have hrq := Y.A.Q.rq
  have hck := Y.C.2.1
  unfold wcase_3 wL_usedOn wX2_usedOn wX3_usedOn
  refine p_checkDisk Y h1 (fun d0 d1 => ?_) (fun hn => ⟨fun _ => q_isNoDisk Y.A.I.dk h1 (fun z0 z1 => absurd ⟨z0, z1⟩ hn) (fun _ => ⟨vR1, fun z => by omega, fun _ => w_ex (vz_00 M 1) (by omega) vR1 ⟨Y1, L⟩⟩), rfl⟩)
  have hs := Y.A.I.sz p1 d0 d1
  have hu := vz_used_bd Y.A.I d0 d1
  rw [Y.r.us p1 d0 d1]
  refine ⟨⟨d0, by omega⟩, ⟨by omega, by omega⟩, fun O2 e2 => ?_⟩
  refine q_isNoDisk Y.A.I.dk h1 (fun _ _ => ⟨vs_R0, fun _ => ?_, fun z => absurd rfl z⟩) (fun z => absurd ⟨d0, d1⟩ z)
  refine q_usedOf Y0.A.I d0 d1 ?_
  exact w_ok (vz_00 M 0) ⟨by show _ ≤ vz_used M p1; omega, by show vz_used M p1 ≤ _; omega⟩ (by rw [e2, vz_00]; rfl) ⟨Y0, L⟩

theorem okc_9 : vs_okc_9 vZ := by
  intro V S T K O M B LN i p1 p2 p3 h1 h2 h3 Z
  obtain ⟨Y, L⟩ := Z
  have Y0 := vY_0 Y 0
  have Y1 := vY_0 Y 1
  have hdk := Y.A.I.dk
  have htn := Y.A.Q.tn
  have hrq := Y.A.Q.rq
  have hck := Y.C.2.1
  unfold wcase_9 wL_stateOf wX2_stateOf wX3_stateOf
  refine p_checkRequest Y h1 (fun d0 d1 => ?_) (fun hn => ⟨fun _ => q_isNoRequest Y.A.Q.rq h1 (fun z0 z1 => absurd ⟨z0, z1⟩ hn) (fun _ => ⟨vR1, fun z => by omega, fun _ => w_ex (vz_00 M 1) (by omega) vR1 ⟨Y1, L⟩⟩), rfl⟩)
  have hs := Y.A.Q.stt p1 d0 d1
  rw [Y.k.stt p1 d0 d1]
  refine ⟨⟨d0, by omega⟩, ⟨by omega, by omega⟩, ⟨by omega, by omega⟩, fun O2 e2 => ?_⟩
  refine q_isNoRequest Y.A.Q.rq h1 (fun _ _ => ⟨vs_R0, fun _ => ?_, fun z => absurd rfl z⟩) (fun z => absurd ⟨d0, d1⟩ z)
  exact ⟨⟨d0, by omega⟩, ⟨by show 0 ≤ M 26 p1; omega, by show M 26 p1 < _; omega⟩, w_ok (vz_00 M 0) ⟨by show _ ≤ M 26 p1; omega, by show M 26 p1 ≤ _; omega⟩ (by rw [e2, vz_00]; rfl) ⟨Y0, L⟩⟩

theorem okc_12 : vs_okc_12 vZ := by
  intro V S T K O M B LN i p1 p2 p3 h1 h2 h3 Z
  obtain ⟨Y, L⟩ := Z
  have Y0 := vY_0 Y 0
  have Y1 := vY_0 Y 1
  have hdk := Y.A.I.dk
  have htn := Y.A.Q.tn
  have hrq := Y.A.Q.rq
  have hck := Y.C.2.1
  unfold wcase_12 wL_servedOf wX2_servedOf wX3_servedOf
  refine p_checkTenant Y h1 (fun d0 d1 => ?_) (fun hn => ⟨fun _ => q_isNobody Y.A.Q.tn h1 (fun z0 z1 => absurd ⟨z0, z1⟩ hn) (fun _ => ⟨vR1, fun z => by omega, fun _ => w_ex (vz_00 M 1) (by omega) vR1 ⟨Y1, L⟩⟩), rfl⟩)
  have hs := Y.k.sv p1 d0 (by omega)
  have hq := Y.k.qn p1 d0 (by omega)
  rw [hs]
  refine ⟨⟨d0, by omega⟩, ⟨by omega, by omega⟩, fun O2 e2 => ?_⟩
  refine q_isNobody Y.A.Q.tn h1 (fun _ _ => ⟨vs_R0, fun _ => ?_, fun z => absurd rfl z⟩) (fun z => absurd ⟨d0, d1⟩ z)
  exact ⟨⟨d0, by omega⟩, w_ok (vz_00 M 0) ⟨by show _ ≤ M 18 p1; omega, by show M 18 p1 ≤ _; omega⟩ (by rw [e2, vz_00]; rfl) ⟨Y0, L⟩⟩

theorem okc_13 : vs_okc_13 vZ := by
  intro V S T K O M B LN i p1 p2 p3 h1 h2 h3 Z
  obtain ⟨Y, L⟩ := Z
  have Y0 := vY_0 Y 0
  have Y1 := vY_0 Y 1
  have hdk := Y.A.I.dk
  have htn := Y.A.Q.tn
  have hrq := Y.A.Q.rq
  have hck := Y.C.2.1
  unfold wcase_13 wL_creditsOf wX2_creditsOf wX3_creditsOf
  refine p_checkTenant Y h1 (fun d0 d1 => ?_) (fun hn => ⟨fun _ => q_isNobody Y.A.Q.tn h1 (fun z0 z1 => absurd ⟨z0, z1⟩ hn) (fun _ => ⟨vR1, fun z => by omega, fun _ => w_ex (vz_00 M 1) (by omega) vR1 ⟨Y1, L⟩⟩), rfl⟩)
  have hs := Y.k.cr p1 d0 (by omega)
  have hq := Y.C.2.2.2 p1 d0 (by omega)
  rw [hs]
  refine ⟨⟨d0, by omega⟩, ⟨by omega, by omega⟩, fun O2 e2 => ?_⟩
  refine q_isNobody Y.A.Q.tn h1 (fun _ _ => ⟨vs_R0, fun _ => ?_, fun z => absurd rfl z⟩) (fun z => absurd ⟨d0, d1⟩ z)
  exact ⟨⟨d0, by omega⟩, w_ok (vz_00 M 0) ⟨by show _ ≤ M 19 p1; omega, by show M 19 p1 ≤ _; omega⟩ (by rw [e2, vz_00]; rfl) ⟨Y0, L⟩⟩

theorem okc_14 : vs_okc_14 vZ := by
  intro V S T K O M B LN i p1 p2 p3 h1 h2 h3 Z
  obtain ⟨Y, L⟩ := Z
  have Y0 := vY_0 Y 0
  have Y1 := vY_0 Y 1
  have hdk := Y.A.I.dk
  have htn := Y.A.Q.tn
  have hrq := Y.A.Q.rq
  have hck := Y.C.2.1
  unfold wcase_14 wL_breachesOf wX2_breachesOf wX3_breachesOf
  refine p_checkTenant Y h1 (fun d0 d1 => ?_) (fun hn => ⟨fun _ => q_isNobody Y.A.Q.tn h1 (fun z0 z1 => absurd ⟨z0, z1⟩ hn) (fun _ => ⟨vR1, fun z => by omega, fun _ => w_ex (vz_00 M 1) (by omega) vR1 ⟨Y1, L⟩⟩), rfl⟩)
  have hs := Y.k.br p1 d0 (by omega)
  have hq := Y.C.2.2.2 p1 d0 (by omega)
  rw [hs]
  refine ⟨⟨d0, by omega⟩, ⟨by omega, by omega⟩, fun O2 e2 => ?_⟩
  refine q_isNobody Y.A.Q.tn h1 (fun _ _ => ⟨vs_R0, fun _ => ?_, fun z => absurd rfl z⟩) (fun z => absurd ⟨d0, d1⟩ z)
  exact ⟨⟨d0, by omega⟩, w_ok (vz_00 M 0) ⟨by show _ ≤ M 20 p1; omega, by show M 20 p1 ≤ _; omega⟩ (by rw [e2, vz_00]; rfl) ⟨Y0, L⟩⟩

theorem okc_11 : vs_okc_11 vZ := by
  intro V S T K O M B LN i p1 p2 p3 h1 h2 h3 Z
  obtain ⟨Y, L⟩ := Z
  have Y0 := vY_0 Y 0
  have Y1 := vY_0 Y 1
  have hdk := Y.A.I.dk
  have htn := Y.A.Q.tn
  have hrq := Y.A.Q.rq
  have hck := Y.C.2.1
  unfold wcase_11 wL_waitingOf wX2_waitingOf wX3_waitingOf
  refine p_checkTenant Y h1 (fun d0 d1 => ?_) (fun hn => ⟨fun _ => q_isNobody Y.A.Q.tn h1 (fun z0 z1 => absurd ⟨z0, z1⟩ hn) (fun _ => ⟨vR1, fun z => by omega, fun _ => w_ex (vz_00 M 1) (by omega) vR1 ⟨Y1, L⟩⟩), rfl⟩)
  have hs := Y.k.qw p1 d0 (by omega)
  have hq := Y.k.qn p1 d0 (by omega)
  unfold wX0_countWaiting
  refine ⟨⟨d0, by omega⟩, ⟨d0, by omega⟩, ⟨by omega, by omega⟩, fun O2 e2 => ?_⟩
  refine q_isNobody Y.A.Q.tn h1 (fun _ _ => ⟨vs_R0, fun _ => ?_, fun z => absurd rfl z⟩) (fun z => absurd ⟨d0, d1⟩ z)
  refine q_waitingMany Y0.A.Q d0 (by omega) ?_
  have e : vz_wait (vs_st M 0 0 0) p1 = K 2 p1 - K 3 p1 := by rw [hs]; rfl
  rw [e]
  exact w_ok (vz_00 M 0) ⟨by omega, by omega⟩ (by rw [e2, vz_00]) ⟨Y0, L⟩

theorem okc_17 : vs_okc_17 vZ := by
  intro V S T K O M B LN i p1 p2 p3 h1 h2 h3 Z
  obtain ⟨Y, L⟩ := Z
  have Y0 := vY_0 Y 0
  have Y1 := vY_0 Y 1
  have hdk := Y.A.I.dk
  have htn := Y.A.Q.tn
  have hrq := Y.A.Q.rq
  have hck := Y.C.2.1
  unfold wcase_17 wL_blocksOf wX2_blocksOf wX3_blocksOf
  refine p_checkTenant Y h1 (fun d0 d1 => ?_) (fun hn => ⟨fun _ => q_isNobody Y.A.Q.tn h1 (fun z0 z1 => absurd ⟨z0, z1⟩ hn) (fun _ => ⟨vR1, fun z => by omega, fun _ => w_ex (vz_00 M 1) (by omega) vR1 ⟨Y1, L⟩⟩), rfl⟩)
  have hw := vz_wbd Y.A.O
  have hcb := vz_cnt_bd (fun i => M 13 i / 100 = p1) (M 15 0).toNat
  refine p_countWritten Y.A.O Y.r h1 ⟨⟨by omega, by omega⟩, fun O2 e2 => ?_⟩
  refine q_isNobody Y.A.Q.tn h1 (fun _ _ => ⟨vs_R0, fun _ => ?_, fun z => absurd rfl z⟩) (fun z => absurd ⟨d0, d1⟩ z)
  refine ⟨fun m i => 0 ≤ i ∧ i ≤ M 15 0 ∧ m = vz_cnt (fun i => M 13 i / 100 = p1) i.toNat, fun _ i => (401 - i).toNat, ⟨by omega, by omega, rfl⟩, ?_⟩
  rintro m i ⟨i0, i1, rfl⟩
  show lX3_blocksOf_14 (vs_st M 0 0 0) p1 _ _ _ _
  unfold lX3_blocksOf_14
  refine ⟨⟨by omega, by omega⟩, ⟨by show _ ≤ M 15 0; omega, by show M 15 0 ≤ _; omega⟩, fun h => ?_, fun h => ?_⟩
  · have h : M 15 0 ≤ i := h
    have e : i = M 15 0 := by omega
    rw [e]
    exact w_ok (vz_00 M 0) ⟨by omega, by omega⟩ (by rw [e2, vz_00]) ⟨Y0, L⟩
  · have h : i < M 15 0 := h
    have ho := Y.A.O.od i i0 h
    show (0 ≤ i ∧ i < 400) ∧ (0 ≤ M 13 i ∧ M 13 i ≤ 2147483647) ∧ (vs_R (M 13 i / 100)) ∧ (vs_R p1) ∧ (¬ M 13 i / 100 = p1 → ∀ v3 : Int, v3 = _ → _) ∧ (M 13 i / 100 = p1 → ∀ v4 : Int, v4 = _ → _)
    refine ⟨⟨by omega, by omega⟩, ⟨by omega, by omega⟩, ⟨by omega, by omega⟩, h1, fun q v e => ⟨⟨by omega, by omega, ?_⟩, by first | omega | (dsimp only; omega)⟩, fun q v e => ⟨⟨by omega, by omega, ?_⟩, by first | omega | (dsimp only; omega)⟩⟩
    · rw [vz_cnt_step _ i0, vz_b0 q, e]
    · rw [vz_cnt_step _ i0, vz_b1 q, e]

theorem okc_10 : vs_okc_10 vZ := by
  intro V S T K O M B LN i p1 p2 p3 h1 h2 h3 Z
  obtain ⟨Y, L⟩ := Z
  have Y0 := vY_0 Y 0
  have Y1 := vY_0 Y 1
  have hrq := Y.A.Q.rq
  have Y2 := vY_0 Y0 2
  unfold wcase_10 wL_answerTo wX2_answerTo wX3_answerTo
  refine p_checkRequest Y h1 (fun d0 d1 => ?_) (fun hn => ⟨fun _ => q_isNoRequest Y.A.Q.rq h1 (fun z0 z1 => absurd ⟨z0, z1⟩ hn) (fun _ => ⟨vR1, fun z => by omega, fun _ => w_ex (vz_00 M 1) (by omega) vR1 ⟨Y1, L⟩⟩), fun z => by omega, Or.inl rfl⟩)
  have hs := Y.A.Q.stt p1 d0 d1
  have hw := Y.A.Q.nw p1 d0 d1
  rw [Y.k.iw p1 d0 d1, Y.k.stt p1 d0 d1]
  have no : (0 ≤ M 24 p1 ∨ ¬ M 26 p1 = 100) → wX3_isNoRequest M p1 (fun r1 S2 => (vs_R r1) ∧ (r1 = 0 → (0 ≤ p1 ∧ p1 < 300) ∧ (vs_R (S2 24 p1)) ∧ (0 ≤ (S2 24 p1) → wX3_fails S2 2 (fun r3 S4 => wX3_thrown S4 (fun r5 => (vs_R r5) ∧ (vs_R 2) ∧ (r5 = 2 → (vs_R 2) ∧ (¬ (2 : Int) = 0 → vZ V S T K S4 B LN) ∧ ((2 : Int) = 0 → (vs_R r3) ∧ (vs_R (O 0 0)) ∧ (vs_R r3) ∧ (vs_R (vs_cmp (O 0 0) r3)) ∧ ((vs_cmp (O 0 0) r3) = 0 → vZ V S T K S4 B LN) ∧ (¬ (vs_cmp (O 0 0) r3) = 0 → False))) ∧ (¬ r5 = 2 → False)))) ∧ ((S2 24 p1) < 0 → (0 ≤ p1 ∧ p1 < 300) ∧ (vs_R (S2 26 p1)) ∧ (¬ (S2 26 p1) = 100 → wX3_fails S2 2 (fun r5 S6 => wX3_thrown S6 (fun r5_1 => (vs_R r5_1) ∧ (vs_R 2) ∧ (r5_1 = 2 → (vs_R 2) ∧ (¬ (2 : Int) = 0 → vZ V S T K S6 B LN) ∧ ((2 : Int) = 0 → (vs_R r5) ∧ (vs_R (O 0 0)) ∧ (vs_R r5) ∧ (vs_R (vs_cmp (O 0 0) r5)) ∧ ((vs_cmp (O 0 0) r5) = 0 → vZ V S T K S6 B LN) ∧ (¬ (vs_cmp (O 0 0) r5) = 0 → False))) ∧ (¬ r5_1 = 2 → False)))) ∧ ((S2 26 p1) = 100 → (0 ≤ p1 ∧ p1 < 300) ∧ wX3_thrown S2 (fun r5 => (vs_R r5) ∧ (vs_R 2) ∧ (r5 = 2 → (vs_R 2) ∧ (¬ (2 : Int) = 0 → vZ V S T K S2 B LN) ∧ ((2 : Int) = 0 → (vs_R (S2 25 p1)) ∧ (vs_R (O 0 0)) ∧ (vs_R (S2 25 p1)) ∧ (vs_R (vs_cmp (O 0 0) (S2 25 p1))) ∧ ((vs_cmp (O 0 0) (S2 25 p1)) = 0 → vZ V S T K S2 B LN) ∧ (¬ (vs_cmp (O 0 0) (S2 25 p1)) = 0 → False))) ∧ (¬ r5 = 2 → False))))) ∧ (¬ r1 = 0 → wX3_thrown S2 (fun r5 => (vs_R r5) ∧ (vs_R 2) ∧ (r5 = 2 → (vs_R 2) ∧ (¬ (2 : Int) = 0 → vZ V S T K S2 B LN) ∧ ((2 : Int) = 0 → (vs_R 0) ∧ (vs_R (O 0 0)) ∧ (vs_R 0) ∧ (vs_R (vs_cmp (O 0 0) 0)) ∧ ((vs_cmp (O 0 0) 0) = 0 → vZ V S T K S2 B LN) ∧ (¬ (vs_cmp (O 0 0) 0) = 0 → False))) ∧ (¬ r5 = 2 → False)))) := by
    intro q
    refine q_isNoRequest Y.A.Q.rq h1 (fun _ _ => ⟨vs_R0, fun _ => ⟨⟨d0, by omega⟩, ⟨by show _ ≤ M 24 p1; omega, by show M 24 p1 ≤ _; omega⟩, fun w => q_fails (w_ex (vz_00 _ 2) (by omega) vR2 ⟨Y2, L⟩), fun w => ⟨⟨d0, by omega⟩, ⟨by show _ ≤ M 26 p1; omega, by show M 26 p1 ≤ _; omega⟩, fun y => q_fails (w_ex (vz_00 _ 2) (by omega) vR2 ⟨Y2, L⟩), fun y => ?_⟩⟩, fun z => absurd rfl z⟩) (fun z => absurd ⟨d0, d1⟩ z)
    have w : M 24 p1 < 0 := w
    have y : M 26 p1 = 100 := y
    omega
  refine ⟨⟨d0, by omega⟩, ?_, fun q => ⟨fun z => by omega, fun _ => no ?_, Or.inr rfl⟩, fun q => ⟨⟨d0, by omega⟩, ⟨by omega, by omega⟩, fun w => ⟨⟨d0, by omega⟩, ?_⟩, fun w => ⟨fun z => by omega, fun _ => no (Or.inr w), Or.inr rfl⟩⟩⟩
  · split <;> exact ⟨by omega, by omega⟩
  · by_cases z : M 24 p1 < 0
    · rw [if_pos z] at q; exact absurd rfl q
    · exact Or.inl (by omega)
  · have z : M 24 p1 < 0 := by
      by_cases z : M 24 p1 < 0
      · exact z
      · rw [if_neg z] at q; omega
    have ha := Y.k.va p1 d0 d1 z w
    rw [ha.1]
    refine ⟨⟨by omega, by omega⟩, fun O2 e2 => q_isNoRequest Y.A.Q.rq h1 (fun _ _ => ⟨vs_R0, fun _ => ⟨⟨d0, by omega⟩, ⟨by show _ ≤ M 24 p1; omega, by show M 24 p1 ≤ _; omega⟩, fun w2 => ?_, fun _ => ⟨⟨d0, by omega⟩, ⟨by show _ ≤ M 26 p1; omega, by show M 26 p1 ≤ _; omega⟩, fun y => absurd w y, fun _ => ⟨⟨d0, by omega⟩, w_ok (vz_00 M 0) ⟨by show _ ≤ M 25 p1; omega, by show M 25 p1 ≤ _; omega⟩ (by rw [e2, vz_00]; rfl) ⟨Y0, L⟩⟩⟩⟩, fun z => absurd rfl z⟩) (fun z => absurd ⟨d0, d1⟩ z)⟩
    have w2 : 0 ≤ M 24 p1 := w2
    omega
end VZG
