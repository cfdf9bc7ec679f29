/-! pure part: the desk and the serving: both sides; by program (wip/whole/pure/p61.py) -/
def vA (M : vs_St) : Prop :=
  (vI M) ∧
  (vO M) ∧
  (vM M) ∧
  (vQ M) ∧
  (∀ t : Int, 0 ≤ t → t < M 27 0 → 1 ≤ M 16 t) ∧
  (∀ t : Int, 0 ≤ t → t < 4 → 0 ≤ M 17 t ∧ M 17 t ≤ 20)
theorem vA.I {M : vs_St} (h : vA M) : vI M := h.1
theorem vA.O {M : vs_St} (h : vA M) : vO M := h.2.1
theorem vA.V {M : vs_St} (h : vA M) : vM M := h.2.2.1
theorem vA.Q {M : vs_St} (h : vA M) : vQ M := h.2.2.2.1
theorem vA.T {M : vs_St} (h : vA M) : ∀ t : Int, 0 ≤ t → t < M 27 0 → 1 ≤ M 16 t := h.2.2.2.2.1
theorem vA.P {M : vs_St} (h : vA M) : ∀ t : Int, 0 ≤ t → t < 4 → 0 ≤ M 17 t ∧ M 17 t ≤ 20 := h.2.2.2.2.2

def vK (M K : vs_St) : Prop :=
  (K 0 0 = M 27 0) ∧
  (∀ t : Int, 0 ≤ t → t < 4 → K 1 t = M 17 t) ∧
  (∀ t : Int, 0 ≤ t → t < 4 → K 3 t = M 18 t) ∧
  (∀ t : Int, 0 ≤ t → t < 4 → K 5 t = M 19 t) ∧
  (∀ t : Int, 0 ≤ t → t < 4 → K 6 t = M 20 t) ∧
  (K 8 0 = M 28 0) ∧
  (∀ r : Int, 0 ≤ r → r < M 28 0 → K 10 r = M 23 r) ∧
  (∀ r : Int, 0 ≤ r → r < M 28 0 → K 11 r = if M 24 r < 0 then 0 else 1) ∧
  (∀ r : Int, 0 ≤ r → r < M 28 0 → 0 ≤ M 24 r → K 12 r = M 24 r) ∧
  (∀ r : Int, 0 ≤ r → r < M 28 0 → M 24 r < 0 → M 26 r = 100 → K 12 r = M 25 r ∧ 0 ≤ M 25 r ∧ M 25 r ≤ 9999) ∧
  (∀ r : Int, 0 ≤ r → r < M 28 0 → K 13 r = M 26 r) ∧
  (K 9 0 = vz_waitA M) ∧
  (∀ t : Int, 0 ≤ t → t < 4 → 0 ≤ K 3 t ∧ K 3 t ≤ K 2 t ∧ K 2 t ≤ M 28 0) ∧
  (∀ t : Int, 0 ≤ t → t < 4 → K 2 t - K 3 t = vz_wait M t) ∧
  (∀ t j : Int, 0 ≤ t → t < 4 → K 3 t ≤ j → j < K 2 t → (0 ≤ K 7 (t * 300 + j) ∧ K 7 (t * 300 + j) < M 28 0) ∧ vz_W M t (K 7 (t * 300 + j))) ∧
  (∀ t j j' : Int, 0 ≤ t → t < 4 → K 3 t ≤ j → j < j' → j' < K 2 t → K 7 (t * 300 + j) < K 7 (t * 300 + j')) ∧
  (∀ t r : Int, 0 ≤ t → t < 4 → 0 ≤ r → r < M 28 0 → vz_W M t r → ∃ j : Int, K 3 t ≤ j ∧ j < K 2 t ∧ K 7 (t * 300 + j) = r)
theorem vK.tn {M K : vs_St} (h : vK M K) : K 0 0 = M 27 0 := h.1
theorem vK.pr {M K : vs_St} (h : vK M K) : ∀ t : Int, 0 ≤ t → t < 4 → K 1 t = M 17 t := h.2.1
theorem vK.sv {M K : vs_St} (h : vK M K) : ∀ t : Int, 0 ≤ t → t < 4 → K 3 t = M 18 t := h.2.2.1
theorem vK.cr {M K : vs_St} (h : vK M K) : ∀ t : Int, 0 ≤ t → t < 4 → K 5 t = M 19 t := h.2.2.2.1
theorem vK.br {M K : vs_St} (h : vK M K) : ∀ t : Int, 0 ≤ t → t < 4 → K 6 t = M 20 t := h.2.2.2.2.1
theorem vK.rq {M K : vs_St} (h : vK M K) : K 8 0 = M 28 0 := h.2.2.2.2.2.1
theorem vK.bl {M K : vs_St} (h : vK M K) : ∀ r : Int, 0 ≤ r → r < M 28 0 → K 10 r = M 23 r := h.2.2.2.2.2.2.1
theorem vK.iw {M K : vs_St} (h : vK M K) : ∀ r : Int, 0 ≤ r → r < M 28 0 → K 11 r = if M 24 r < 0 then 0 else 1 := h.2.2.2.2.2.2.2.1
theorem vK.vw {M K : vs_St} (h : vK M K) : ∀ r : Int, 0 ≤ r → r < M 28 0 → 0 ≤ M 24 r → K 12 r = M 24 r := h.2.2.2.2.2.2.2.2.1
theorem vK.va {M K : vs_St} (h : vK M K) : ∀ r : Int, 0 ≤ r → r < M 28 0 → M 24 r < 0 → M 26 r = 100 → K 12 r = M 25 r ∧ 0 ≤ M 25 r ∧ M 25 r ≤ 9999 := h.2.2.2.2.2.2.2.2.2.1
theorem vK.stt {M K : vs_St} (h : vK M K) : ∀ r : Int, 0 ≤ r → r < M 28 0 → K 13 r = M 26 r := h.2.2.2.2.2.2.2.2.2.2.1
theorem vK.wt {M K : vs_St} (h : vK M K) : K 9 0 = vz_waitA M := h.2.2.2.2.2.2.2.2.2.2.2.1
theorem vK.qn {M K : vs_St} (h : vK M K) : ∀ t : Int, 0 ≤ t → t < 4 → 0 ≤ K 3 t ∧ K 3 t ≤ K 2 t ∧ K 2 t ≤ M 28 0 := h.2.2.2.2.2.2.2.2.2.2.2.2.1
theorem vK.qw {M K : vs_St} (h : vK M K) : ∀ t : Int, 0 ≤ t → t < 4 → K 2 t - K 3 t = vz_wait M t := h.2.2.2.2.2.2.2.2.2.2.2.2.2.1
theorem vK.qa {M K : vs_St} (h : vK M K) : ∀ t j : Int, 0 ≤ t → t < 4 → K 3 t ≤ j → j < K 2 t → (0 ≤ K 7 (t * 300 + j) ∧ K 7 (t * 300 + j) < M 28 0) ∧ vz_W M t (K 7 (t * 300 + j)) := h.2.2.2.2.2.2.2.2.2.2.2.2.2.2.1
theorem vK.qo {M K : vs_St} (h : vK M K) : ∀ t j j' : Int, 0 ≤ t → t < 4 → K 3 t ≤ j → j < j' → j' < K 2 t → K 7 (t * 300 + j) < K 7 (t * 300 + j') := h.2.2.2.2.2.2.2.2.2.2.2.2.2.2.2.1
theorem vK.qc {M K : vs_St} (h : vK M K) : ∀ t r : Int, 0 ≤ t → t < 4 → 0 ≤ r → r < M 28 0 → vz_W M t r → ∃ j : Int, K 3 t ≤ j ∧ j < K 2 t ∧ K 7 (t * 300 + j) = r := h.2.2.2.2.2.2.2.2.2.2.2.2.2.2.2.2

def vD (M K : vs_St) : Prop := ∀ t : Int, 0 ≤ t → t < M 27 0 → K 4 t = K 3 t - M 22 t + min (M 17 t) (M 21 t) ∧ 0 ≤ M 22 t ∧ M 22 t ≤ M 18 t ∧ 0 ≤ M 21 t ∧ M 21 t ≤ 300
section VZB
variable {M S K : vs_St}
theorem vz_old_K (Q : vQ M) (k : vK M K) {t : Int} (t0 : 0 ≤ t) (t1 : t < 4) : (K 3 t = K 2 t ∧ vz_old M t = -1) ∨ (K 3 t < K 2 t ∧ vz_old M t = K 7 (t * 300 + K 3 t)) := by
  have hn := k.qn t t0 t1
  have hs := vz_old_spec Q t
  rcases Int.lt_or_le (K 3 t) (K 2 t) with h | h
  · right
    refine ⟨h, ?_⟩
    have ha := k.qa t (K 3 t) t0 t1 (Int.le_refl _) h
    rcases hs with ⟨_, z⟩ | ⟨z0, z1, z2, z3⟩
    · exact absurd ha.2 (z _ ha.1.1 ha.1.2)
    · obtain ⟨j, j0, j1, j2⟩ := k.qc t _ t0 t1 z0 z1 z2
      by_cases e : j = K 3 t
      · rw [← j2, e]
      · have := k.qo t (K 3 t) j t0 t1 (Int.le_refl _) (by omega) j1
        rw [j2] at this
        exact absurd ha.2 (z3 _ ha.1.1 this)
  · left
    refine ⟨by omega, ?_⟩
    rcases hs with ⟨z, _⟩ | ⟨z0, z1, z2, z3⟩
    · exact z
    · obtain ⟨j, j0, j1, j2⟩ := k.qc t _ t0 t1 z0 z1 z2
      omega
def vz_fin (X : vs_St) (r b z : Int) : vs_St := vs_st (vs_st (vs_st (vs_st X 25 r (X 12 b)) 26 r z) 18 (b / 100) (X 18 (b / 100) + 1)) 22 (b / 100) (X 22 (b / 100) + 1)
noncomputable def vz_srv (M : vs_St) (r : Int) : vs_St :=
  if M 24 r < 0 then vz_fin M r (M 23 r) (if 0 < vz_good M (M 23 r) then 100 else 120)
  else vz_fin (vz_wr M (M 23 r) (M 24 r)).2 r (M 23 r) (if (vz_wr M (M 23 r) (M 24 r)).1 = 0 then 120 else 100)
theorem vz_fin_c (X : vs_St) (r b z : Int) {c : Nat} (h1 : c ≠ 25) (h2 : c ≠ 26) (h3 : c ≠ 18) (h4 : c ≠ 22) : vz_fin X r b z c = X c := by
  unfold vz_fin
  rw [vs_st_ne _ h4, vs_st_ne _ h3, vs_st_ne _ h2, vs_st_ne _ h1]
theorem q_serves (A : vA M) {r : Int} (r0 : 0 ≤ r) (r1 : r < M 28 0) {post : vs_St → Prop} (k : post (vz_srv M r)) : wX3_serves M r post := by
  unfold wX3_serves
  have hq := A.Q.rq
  have ht := A.Q.tn
  have hb := A.Q.bl r r0 r1
  have hw := A.Q.nw r r0 r1
  have b1 : M 23 r < 400 := by omega
  refine ⟨⟨r0, by omega⟩, fun v1 hv => ?_⟩
  subst hv
  refine ⟨⟨r0, by omega⟩, ⟨by omega, by omega⟩, fun q => ⟨⟨r0, by omega⟩, q_writes A.I A.O A.V hb.1 b1 ⟨⟨hb.1, b1⟩, ⟨r0, by omega⟩, fun S4 e4 => ?_⟩⟩, fun q => q_goodOf A.I hb.1 b1 ?_⟩
  · unfold vz_srv at k
    rw [if_neg (by omega)] at k
    have ok := (vz_wr_ok A.I A.O A.V hb.1 b1 (v := M 24 r) ⟨q, hw.2⟩).2.2.2.2
    refine ⟨⟨by omega, by omega⟩, fun w => ⟨⟨r0, by omega⟩, fun S5 e5 => ⟨⟨hb.1, by omega⟩, ⟨by omega, by omega⟩, ⟨by omega, by omega⟩, fun S6 e6 => ⟨⟨hb.1, by omega⟩, ⟨by omega, by omega⟩, ⟨by omega, by omega⟩, fun S7 e7 => ?_⟩⟩⟩, fun w => ⟨⟨r0, by omega⟩, fun S5 e5 => ⟨⟨hb.1, by omega⟩, ⟨by omega, by omega⟩, ⟨by omega, by omega⟩, fun S6 e6 => ⟨⟨hb.1, by omega⟩, ⟨by omega, by omega⟩, ⟨by omega, by omega⟩, fun S7 e7 => ?_⟩⟩⟩⟩
    · rw [if_pos w] at k
      subst e4; subst e5; subst e6; subst e7; exact k
    · rw [if_neg w] at k
      subst e4; subst e5; subst e6; subst e7; exact k
  · unfold vz_srv at k
    rw [if_pos q] at k
    have hg := vz_good_bd A.I hb.1 b1
    refine ⟨⟨by omega, by omega⟩, fun w => ⟨⟨hb.1, b1⟩, ⟨r0, by omega⟩, fun S4 e4 => ⟨⟨r0, by omega⟩, fun S5 e5 => ⟨⟨hb.1, by omega⟩, ⟨by omega, by omega⟩, ⟨by omega, by omega⟩, fun S6 e6 => ⟨⟨hb.1, by omega⟩, ⟨by omega, by omega⟩, ⟨by omega, by omega⟩, fun S7 e7 => ?_⟩⟩⟩⟩, fun w => ⟨⟨hb.1, b1⟩, ⟨r0, by omega⟩, fun S4 e4 => ⟨⟨r0, by omega⟩, fun S5 e5 => ⟨⟨hb.1, by omega⟩, ⟨by omega, by omega⟩, ⟨by omega, by omega⟩, fun S6 e6 => ⟨⟨hb.1, by omega⟩, ⟨by omega, by omega⟩, ⟨by omega, by omega⟩, fun S7 e7 => ?_⟩⟩⟩⟩⟩
    · rw [if_neg (by omega)] at k
      subst e4; subst e5; subst e6; subst e7; exact k
    · rw [if_pos w] at k
      subst e4; subst e5; subst e6; subst e7; exact k
/-- the desk after one request is served -/
theorem vK_fin (Q : vQ M) (k : vK M K) {X K4 : vs_St} {r z t : Int} (hX : vz_keep M X) (t0 : 0 ≤ t) (t1 : t < 4) (ht : K 3 t < K 2 t) (hr : r = K 7 (t * 300 + K 3 t)) (hz : z = 100 ∨ z = 120)
    (e12 : ∀ i : Int, i ≠ r → K4 12 i = K 12 i) (ec : ∀ c : Nat, c ≠ 12 → K4 c = K c) (w : 0 ≤ M 24 r → K4 12 r = M 24 r) (rd : M 24 r < 0 → z = 100 → K4 12 r = X 12 (M 23 r) ∧ 0 ≤ X 12 (M 23 r) ∧ X 12 (M 23 r) ≤ 9999) :
    vK (vz_fin X r (M 23 r) z) (vs_st (vs_st (vs_st K4 13 r z) 3 t (K4 3 t + 1)) 9 0 (K4 9 0 - 1)) := by
  have ha := k.qa t (K 3 t) t0 t1 (Int.le_refl _) ht
  rw [← hr] at ha
  obtain ⟨⟨r0, r1⟩, rw1, rw2⟩ := ha
  have hn := k.qn t t0 t1
  have x (c : Nat) (h3 : c ≠ 3) (h5 : c ≠ 5) (h8 : c ≠ 8) (h10 : c ≠ 10) (h4 : c ≠ 4) (h6 : c ≠ 6) (h9 : c ≠ 9) (h11 : c ≠ 11) (h12 : c ≠ 12) (h13 : c ≠ 13) (h14 : c ≠ 14) (h15 : c ≠ 15) : X c = M c := hX c h3 h5 h8 h10 h4 h6 h9 h11 h12 h13 h14 h15
  have x17 := x 17 (by decide) (by decide) (by decide) (by decide) (by decide) (by decide) (by decide) (by decide) (by decide) (by decide) (by decide) (by decide)
  have x18 := x 18 (by decide) (by decide) (by decide) (by decide) (by decide) (by decide) (by decide) (by decide) (by decide) (by decide) (by decide) (by decide)
  have x19 := x 19 (by decide) (by decide) (by decide) (by decide) (by decide) (by decide) (by decide) (by decide) (by decide) (by decide) (by decide) (by decide)
  have x20 := x 20 (by decide) (by decide) (by decide) (by decide) (by decide) (by decide) (by decide) (by decide) (by decide) (by decide) (by decide) (by decide)
  have x23 := x 23 (by decide) (by decide) (by decide) (by decide) (by decide) (by decide) (by decide) (by decide) (by decide) (by decide) (by decide) (by decide)
  have x24 := x 24 (by decide) (by decide) (by decide) (by decide) (by decide) (by decide) (by decide) (by decide) (by decide) (by decide) (by decide) (by decide)
  have x25 := x 25 (by decide) (by decide) (by decide) (by decide) (by decide) (by decide) (by decide) (by decide) (by decide) (by decide) (by decide) (by decide)
  have x26 := x 26 (by decide) (by decide) (by decide) (by decide) (by decide) (by decide) (by decide) (by decide) (by decide) (by decide) (by decide) (by decide)
  have x27 := x 27 (by decide) (by decide) (by decide) (by decide) (by decide) (by decide) (by decide) (by decide) (by decide) (by decide) (by decide) (by decide)
  have x28 := x 28 (by decide) (by decide) (by decide) (by decide) (by decide) (by decide) (by decide) (by decide) (by decide) (by decide) (by decide) (by decide)
  have m27 : vz_fin X r (M 23 r) z 27 0 = M 27 0 := by show X 27 0 = _; rw [x27]
  have m28 : vz_fin X r (M 23 r) z 28 0 = M 28 0 := by show X 28 0 = _; rw [x28]
  have m26 : ∀ i : Int, vz_fin X r (M 23 r) z 26 i = if i = r then z else M 26 i := by intro i; show (if i = r then z else X 26 i) = _; rw [x26]
  have m24 : ∀ i : Int, vz_fin X r (M 23 r) z 24 i = M 24 i := by intro i; show X 24 i = _; rw [x24]
  have m23 : ∀ i : Int, vz_fin X r (M 23 r) z 23 i = M 23 i := by intro i; show X 23 i = _; rw [x23]
  have m25 : ∀ i : Int, vz_fin X r (M 23 r) z 25 i = if i = r then X 12 (M 23 r) else M 25 i := by intro i; show (if i = r then X 12 (M 23 r) else X 25 i) = _; rw [x25]
  have mW : ∀ t' i : Int, vz_W (vz_fin X r (M 23 r) z) t' i ↔ (i ≠ r ∧ vz_W M t' i) := by
    intro t' i
    unfold vz_W
    rw [m26, m23]
    by_cases e : i = r
    · rw [if_pos e]
      exact ⟨fun q => by omega, fun q => absurd e q.1⟩
    · rw [if_neg e]
      exact ⟨fun q => ⟨e, q⟩, fun q => q.2⟩
  have k3 : K4 3 = K 3 := ec 3 (by decide)
  have k2 : K4 2 = K 2 := ec 2 (by decide)
  have k7 : K4 7 = K 7 := ec 7 (by decide)
  have k3' : ∀ t' : Int, vs_st (vs_st (vs_st K4 13 r z) 3 t (K4 3 t + 1)) 9 0 (K4 9 0 - 1) 3 t' = if t' = t then K 3 t + 1 else K 3 t' := by
    intro t'; show (if t' = t then K4 3 t + 1 else K4 3 t') = _; rw [k3]
  have k2' : ∀ t' : Int, vs_st (vs_st (vs_st K4 13 r z) 3 t (K4 3 t + 1)) 9 0 (K4 9 0 - 1) 2 t' = K 2 t' := by intro t'; show K4 2 t' = _; rw [k2]
  have k7' : ∀ i : Int, vs_st (vs_st (vs_st K4 13 r z) 3 t (K4 3 t + 1)) 9 0 (K4 9 0 - 1) 7 i = K 7 i := by intro i; show K4 7 i = _; rw [k7]
  have hq := Q.rq
  unfold vK
  rw [m27, m28]
  refine ⟨?_, fun t' a0 a1 => ?_, fun t' a0 a1 => ?_, fun t' a0 a1 => ?_, fun t' a0 a1 => ?_, ?_, fun i a0 a1 => ?_, fun i a0 a1 => ?_, fun i a0 a1 a2 => ?_, fun i a0 a1 a2 a3 => ?_, fun i a0 a1 => ?_, ?_, fun t' a0 a1 => ?_, fun t' a0 a1 => ?_, fun t' j a0 a1 j0 j1 => ?_, fun t' j j' a0 a1 j0 j1 j2 => ?_, fun t' i a0 a1 i0 i1 i2 => ?_⟩
  · show K4 0 0 = _; rw [ec 0 (by decide)]; exact k.tn
  · show K4 1 t' = X 17 t'; rw [ec 1 (by decide), x17]; exact k.pr t' a0 a1
  · rw [k3']
    show _ = if t' = M 23 r / 100 then X 18 (M 23 r / 100) + 1 else X 18 t'
    rw [x18, rw2, k.sv t t0 t1, k.sv t' a0 a1]
  · show K4 5 t' = X 19 t'; rw [ec 5 (by decide), x19]; exact k.cr t' a0 a1
  · show K4 6 t' = X 20 t'; rw [ec 6 (by decide), x20]; exact k.br t' a0 a1
  · show K4 8 0 = _; rw [ec 8 (by decide)]; exact k.rq
  · rw [m23]; show K4 10 i = _; rw [ec 10 (by decide)]; exact k.bl i a0 a1
  · rw [m24]; show K4 11 i = _; rw [ec 11 (by decide)]; exact k.iw i a0 a1
  · rw [m24] at a2 ⊢
    show K4 12 i = _
    by_cases e : i = r
    · subst e; exact w a2
    · rw [e12 i e]; exact k.vw i a0 a1 a2
  · rw [m24] at a2
    rw [m26] at a3
    rw [m25]
    show K4 12 i = _ ∧ _
    by_cases e : i = r
    · rw [if_pos e] at a3 ⊢
      subst e
      exact rd a2 a3
    · rw [if_neg e] at a3 ⊢
      rw [e12 i e]; exact k.va i a0 a1 a2 a3
  · rw [m26]
    show (if i = r then z else K4 13 i) = _
    rw [ec 13 (by decide), k.stt i a0 a1]
  · show K4 9 0 - 1 = _
    rw [ec 9 (by decide), k.wt]
    unfold vz_waitA
    rw [m28]
    rw [vz_cnt_dn (p := fun r => M 26 r = 119) (q := fun i => vz_fin X r (M 23 r) z 26 i = 119) (j := r) r0 (by omega) rw1 (by rw [m26, if_pos rfl]; omega) (fun i i0 i1 ne => by rw [m26, if_neg ne])]
  · rw [k3', k2']
    have := k.qn t' a0 a1
    by_cases e : t' = t
    · subst e; rw [if_pos rfl]; omega
    · rw [if_neg e]; exact this
  · rw [k3', k2']
    unfold vz_wait
    rw [m28]
    by_cases e : t' = t
    · subst e
      rw [if_pos rfl, vz_cnt_dn (p := vz_W M t') (q := vz_W (vz_fin X r (M 23 r) z) t') (j := r) r0 (by omega) ⟨rw1, rw2⟩ (fun y => ((mW _ _).mp y).1 rfl) (fun i i0 i1 ne => (mW _ _).trans ⟨fun y => y.2, fun y => ⟨ne, y⟩⟩)]
      have := k.qw t' a0 a1
      unfold vz_wait at this
      omega
    · rw [if_neg e, vz_cnt_ext (p := vz_W (vz_fin X r (M 23 r) z) t') (q := vz_W M t') (fun i i0 i1 => (mW _ _).trans ⟨fun y => y.2, fun y => ⟨fun y2 => by subst y2; exact e (y.2.symm.trans rw2), y⟩⟩)]
      exact k.qw t' a0 a1
  · rw [k3'] at j0
    rw [k2'] at j1
    rw [k7', mW]
    by_cases e : t' = t
    · subst e
      rw [if_pos rfl] at j0
      have := k.qa t' j a0 a1 (by omega) j1
      have lt := k.qo t' (K 3 t') j a0 a1 (Int.le_refl _) (by omega) j1
      rw [← hr] at lt
      exact ⟨this.1, by omega, this.2⟩
    · rw [if_neg e] at j0
      have := k.qa t' j a0 a1 j0 j1
      refine ⟨this.1, fun y => ?_, this.2⟩
      rw [y] at this
      exact e (this.2.2.symm.trans rw2)
  · rw [k3'] at j0
    rw [k2'] at j2
    rw [k7', k7']
    refine k.qo t' j j' a0 a1 ?_ j1 j2
    by_cases e : t' = t
    · subst e; rw [if_pos rfl] at j0; omega
    · rw [if_neg e] at j0; exact j0
  · have i3 := (mW _ _).mp i2
    obtain ⟨j, j0, j1, j2⟩ := k.qc t' i a0 a1 i0 i1 i3.2
    refine ⟨j, ?_, ?_, ?_⟩
    · rw [k3']
      by_cases e : t' = t
      · subst e
        rw [if_pos rfl]
        by_cases e2 : j = K 3 t'
        · rw [e2, ← hr] at j2; exact absurd j2.symm i3.1
        · omega
      · rw [if_neg e]; exact j0
    · rw [k2']; exact j1
    · rw [k7']; exact j2
theorem vA_fin (A : vA M) {X : vs_St} {r z b : Int} (hX : vz_keep M X) (I : vI X) (O : vO X) (V : vM X) (hz : z = 100 ∨ z = 120) : vA (vz_fin X r b z) := by
  have e (c : Nat) (h3 : c ≠ 3) (h5 : c ≠ 5) (h8 : c ≠ 8) (h10 : c ≠ 10) (h4 : c ≠ 4) (h6 : c ≠ 6) (h9 : c ≠ 9) (h11 : c ≠ 11) (h12 : c ≠ 12) (h13 : c ≠ 13) (h14 : c ≠ 14) (h15 : c ≠ 15) : X c = M c := hX c h3 h5 h8 h10 h4 h6 h9 h11 h12 h13 h14 h15
  have x16 := e 16 (by decide) (by decide) (by decide) (by decide) (by decide) (by decide) (by decide) (by decide) (by decide) (by decide) (by decide) (by decide)
  have x17 := e 17 (by decide) (by decide) (by decide) (by decide) (by decide) (by decide) (by decide) (by decide) (by decide) (by decide) (by decide) (by decide)
  have x23 := e 23 (by decide) (by decide) (by decide) (by decide) (by decide) (by decide) (by decide) (by decide) (by decide) (by decide) (by decide) (by decide)
  have x24 := e 24 (by decide) (by decide) (by decide) (by decide) (by decide) (by decide) (by decide) (by decide) (by decide) (by decide) (by decide) (by decide)
  have x26 := e 26 (by decide) (by decide) (by decide) (by decide) (by decide) (by decide) (by decide) (by decide) (by decide) (by decide) (by decide) (by decide)
  have x27 := e 27 (by decide) (by decide) (by decide) (by decide) (by decide) (by decide) (by decide) (by decide) (by decide) (by decide) (by decide) (by decide)
  have x28 := e 28 (by decide) (by decide) (by decide) (by decide) (by decide) (by decide) (by decide) (by decide) (by decide) (by decide) (by decide) (by decide)
  refine ⟨vI_eq I (fun c h => by rcases h with h | h | h | h | h | h | h <;> subst h <;> rfl), vO_eq O rfl rfl rfl rfl rfl, V, ⟨?_, ?_, fun i i0 i1 => ?_, fun i i0 i1 => ?_, fun i i0 i1 => ?_⟩, fun t t0 t1 => ?_, fun t t0 t1 => ?_⟩
  · show 0 ≤ X 27 0 ∧ X 27 0 ≤ 4; rw [x27]; exact A.Q.tn
  · show 0 ≤ X 28 0 ∧ X 28 0 ≤ 300; rw [x28]; exact A.Q.rq
  · have i1 : i < X 28 0 := i1
    rw [x28] at i1
    show 0 ≤ X 23 i ∧ X 23 i < 100 * X 27 0
    rw [x23, x27]; exact A.Q.bl i i0 i1
  · have i1 : i < X 28 0 := i1
    rw [x28] at i1
    show -1 ≤ X 24 i ∧ X 24 i ≤ 9999
    rw [x24]; exact A.Q.nw i i0 i1
  · have i1 : i < X 28 0 := i1
    rw [x28] at i1
    show (if i = r then z else X 26 i) = 119 ∨ (if i = r then z else X 26 i) = 100 ∨ (if i = r then z else X 26 i) = 120
    rw [x26]
    split
    · omega
    · exact A.Q.stt i i0 i1
  · have t1 : t < X 27 0 := t1
    show 1 ≤ X 16 t
    rw [x27] at t1
    rw [x16]; exact A.T t t0 t1
  · show 0 ≤ X 17 t ∧ X 17 t ≤ 20
    rw [x17]; exact A.P t t0 t1
theorem vD_fin (Q : vQ M) (D : vD M K) {X K4 : vs_St} {r z t : Int} (hX : vz_keep M X) (ht : M 23 r / 100 = t) (ec : ∀ c : Nat, c ≠ 12 → K4 c = K c) :
    vD (vz_fin X r (M 23 r) z) (vs_st (vs_st (vs_st K4 13 r z) 3 t (K4 3 t + 1)) 9 0 (K4 9 0 - 1)) := by
  have e (c : Nat) (h3 : c ≠ 3) (h5 : c ≠ 5) (h8 : c ≠ 8) (h10 : c ≠ 10) (h4 : c ≠ 4) (h6 : c ≠ 6) (h9 : c ≠ 9) (h11 : c ≠ 11) (h12 : c ≠ 12) (h13 : c ≠ 13) (h14 : c ≠ 14) (h15 : c ≠ 15) : X c = M c := hX c h3 h5 h8 h10 h4 h6 h9 h11 h12 h13 h14 h15
  have x17 := e 17 (by decide) (by decide) (by decide) (by decide) (by decide) (by decide) (by decide) (by decide) (by decide) (by decide) (by decide) (by decide)
  have x18 := e 18 (by decide) (by decide) (by decide) (by decide) (by decide) (by decide) (by decide) (by decide) (by decide) (by decide) (by decide) (by decide)
  have x21 := e 21 (by decide) (by decide) (by decide) (by decide) (by decide) (by decide) (by decide) (by decide) (by decide) (by decide) (by decide) (by decide)
  have x22 := e 22 (by decide) (by decide) (by decide) (by decide) (by decide) (by decide) (by decide) (by decide) (by decide) (by decide) (by decide) (by decide)
  have x27 := e 27 (by decide) (by decide) (by decide) (by decide) (by decide) (by decide) (by decide) (by decide) (by decide) (by decide) (by decide) (by decide)
  intro t' a0 a1
  have a1 : t' < X 27 0 := a1
  rw [x27] at a1
  have := D t' a0 a1
  show K4 4 t' = (if t' = t then K4 3 t + 1 else K4 3 t') - (if t' = M 23 r / 100 then X 22 (M 23 r / 100) + 1 else X 22 t') + min (X 17 t') (X 21 t') ∧ 0 ≤ (if t' = M 23 r / 100 then X 22 (M 23 r / 100) + 1 else X 22 t') ∧ (if t' = M 23 r / 100 then X 22 (M 23 r / 100) + 1 else X 22 t') ≤ (if t' = M 23 r / 100 then X 18 (M 23 r / 100) + 1 else X 18 t') ∧ 0 ≤ X 21 t' ∧ X 21 t' ≤ 300
  rw [ht, x17, x18, x21, x22, ec 4 (by decide), ec 3 (by decide)]
  by_cases q : t' = t
  · subst q; rw [if_pos rfl, if_pos rfl, if_pos rfl]; omega
  · rw [if_neg q, if_neg q, if_neg q]; exact this
end VZB
