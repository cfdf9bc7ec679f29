/-! pure part: what the reference answers, its reads; by program (wip/whole/pure/p54.py) -/
def vz_W (M : vs_St) (t r : Int) : Prop := M 26 r = 119 ∧ M 23 r / 100 = t
noncomputable def vz_wait (M : vs_St) (t : Int) : Int := vz_cnt (vz_W M t) (M 28 0).toNat
noncomputable def vz_waitA (M : vs_St) : Int := vz_cnt (fun r => M 26 r = 119) (M 28 0).toNat
noncomputable def vz_oldN (M : vs_St) (t : Int) : Nat → Int
  | 0 => -1
  | n + 1 => if 0 ≤ vz_oldN M t n then vz_oldN M t n else @ite Int (vz_W M t (n : Int)) (Classical.propDecidable _) (n : Int) (-1)
noncomputable def vz_old (M : vs_St) (t : Int) : Int := vz_oldN M t (M 28 0).toNat

def vQ (M : vs_St) : Prop :=
  (0 ≤ M 27 0 ∧ M 27 0 ≤ 4) ∧
  (0 ≤ M 28 0 ∧ M 28 0 ≤ 300) ∧
  (∀ r : Int, 0 ≤ r → r < M 28 0 → 0 ≤ M 23 r ∧ M 23 r < 100 * M 27 0) ∧
  (∀ r : Int, 0 ≤ r → r < M 28 0 → -1 ≤ M 24 r ∧ M 24 r ≤ 9999) ∧
  (∀ r : Int, 0 ≤ r → r < M 28 0 → M 26 r = 119 ∨ M 26 r = 100 ∨ M 26 r = 120)
theorem vQ.tn {M : vs_St} (h : vQ M) : 0 ≤ M 27 0 ∧ M 27 0 ≤ 4 := h.1
theorem vQ.rq {M : vs_St} (h : vQ M) : 0 ≤ M 28 0 ∧ M 28 0 ≤ 300 := h.2.1
theorem vQ.bl {M : vs_St} (h : vQ M) : ∀ r : Int, 0 ≤ r → r < M 28 0 → 0 ≤ M 23 r ∧ M 23 r < 100 * M 27 0 := h.2.2.1
theorem vQ.nw {M : vs_St} (h : vQ M) : ∀ r : Int, 0 ≤ r → r < M 28 0 → -1 ≤ M 24 r ∧ M 24 r ≤ 9999 := h.2.2.2.1
theorem vQ.stt {M : vs_St} (h : vQ M) : ∀ r : Int, 0 ≤ r → r < M 28 0 → M 26 r = 119 ∨ M 26 r = 100 ∨ M 26 r = 120 := h.2.2.2.2

section VZ3
variable {M : vs_St}
theorem q_isBetween {x a b : Int} (hx : vs_R x) (ha : vs_R a) (hb : vs_R b) {post : Int → Prop} (k : post (vz_b (a ≤ x ∧ x ≤ b))) : wX3_isBetween x a b post := by
  unfold wX3_isBetween
  refine ⟨ha, hx, fun h => ?_, fun h => ⟨hx, hb, fun h2 => ?_, fun h2 => ?_⟩⟩
  · rw [vz_b0 (by omega)] at k; exact k
  · rw [vz_b0 (by omega)] at k; exact k
  · rw [vz_b1 ⟨h, h2⟩] at k; exact k
theorem q_fails {x : Int} {post : Int → vs_St → Prop} (k : post 0 (vs_st M 0 0 x)) : wX3_fails M x post := by
  intro S1 h; subst h; exact k
theorem vz_bR (p : Prop) : vs_R (vz_b p) := by rcases vz_b01 p with h | h <;> rw [h] <;> exact ⟨by omega, by omega⟩
theorem vz_bn {p : Prop} : vz_b p = 0 ↔ ¬ p := ⟨fun h q => by rw [vz_b1 q] at h; omega, fun h => vz_b0 h⟩
theorem vz_bp {p : Prop} : ¬ vz_b p = 0 ↔ p := ⟨fun h => by rcases Classical.em p with q | q; exact q; exact absurd (vz_b0 q) h, fun h => by rw [vz_b1 h]; omega⟩

theorem q_isDisk (I : 0 ≤ M 7 0 ∧ M 7 0 ≤ 8) {x : Int} (hx : vs_R x) {post : Int → Prop} (k : post (vz_b (0 ≤ x ∧ x < M 7 0))) : wX3_isDisk M x post := by
  unfold wX3_isDisk
  refine q_isBetween hx ⟨by omega, by omega⟩ ⟨by omega, by omega⟩ ⟨vz_b01 _, ?_⟩
  rw [vz_bc (q := 0 ≤ x ∧ x < M 7 0) ⟨fun h => ⟨h.1, by omega⟩, fun h => ⟨h.1, by omega⟩⟩]; exact k
theorem q_isNoDisk (I : 0 ≤ M 7 0 ∧ M 7 0 ≤ 8) {x : Int} (hx : vs_R x) {post : Int → vs_St → Prop} (k1 : 0 ≤ x → x < M 7 0 → post 0 (vs_st M 0 0 0)) (k2 : ¬ (0 ≤ x ∧ x < M 7 0) → post 1 (vs_st M 0 0 1)) : wX3_isNoDisk M x post := by
  unfold wX3_isNoDisk
  refine q_isDisk I hx ⟨vz_bR _, fun q S2 h2 => ?_, fun q S2 h2 => ?_⟩
  · subst h2
    have e : vs_st M 0 0 1 0 0 = 1 := by rw [vz_rd, if_pos rfl, if_pos rfl]
    rw [e]
    exact ⟨⟨by omega, by omega⟩, fun w => by omega, fun _ => k2 (vz_bn.mp q)⟩
  · subst h2
    have e : vs_st M 0 0 0 0 0 = 0 := by rw [vz_rd, if_pos rfl, if_pos rfl]
    rw [e]
    have := vz_bp.mp q
    exact ⟨⟨by omega, by omega⟩, fun _ => k1 this.1 this.2, fun w => by omega⟩

theorem q_isTenant (I : 0 ≤ M 27 0 ∧ M 27 0 ≤ 4) {x : Int} (hx : vs_R x) {post : Int → Prop} (k : post (vz_b (0 ≤ x ∧ x < M 27 0))) : wX3_isTenant M x post := by
  unfold wX3_isTenant
  refine q_isBetween hx ⟨by omega, by omega⟩ ⟨by omega, by omega⟩ ⟨vz_b01 _, ?_⟩
  rw [vz_bc (q := 0 ≤ x ∧ x < M 27 0) ⟨fun h => ⟨h.1, by omega⟩, fun h => ⟨h.1, by omega⟩⟩]; exact k
theorem q_isNobody (I : 0 ≤ M 27 0 ∧ M 27 0 ≤ 4) {x : Int} (hx : vs_R x) {post : Int → vs_St → Prop} (k1 : 0 ≤ x → x < M 27 0 → post 0 (vs_st M 0 0 0)) (k2 : ¬ (0 ≤ x ∧ x < M 27 0) → post 1 (vs_st M 0 0 1)) : wX3_isNobody M x post := by
  unfold wX3_isNobody
  refine q_isTenant I hx ⟨vz_bR _, fun q S2 h2 => ?_, fun q S2 h2 => ?_⟩
  · subst h2
    have e : vs_st M 0 0 1 0 0 = 1 := by rw [vz_rd, if_pos rfl, if_pos rfl]
    rw [e]
    exact ⟨⟨by omega, by omega⟩, fun w => by omega, fun _ => k2 (vz_bn.mp q)⟩
  · subst h2
    have e : vs_st M 0 0 0 0 0 = 0 := by rw [vz_rd, if_pos rfl, if_pos rfl]
    rw [e]
    have := vz_bp.mp q
    exact ⟨⟨by omega, by omega⟩, fun _ => k1 this.1 this.2, fun w => by omega⟩

theorem q_isRequest (I : 0 ≤ M 28 0 ∧ M 28 0 ≤ 300) {x : Int} (hx : vs_R x) {post : Int → Prop} (k : post (vz_b (0 ≤ x ∧ x < M 28 0))) : wX3_isRequest M x post := by
  unfold wX3_isRequest
  refine q_isBetween hx ⟨by omega, by omega⟩ ⟨by omega, by omega⟩ ⟨vz_b01 _, ?_⟩
  rw [vz_bc (q := 0 ≤ x ∧ x < M 28 0) ⟨fun h => ⟨h.1, by omega⟩, fun h => ⟨h.1, by omega⟩⟩]; exact k
theorem q_isNoRequest (I : 0 ≤ M 28 0 ∧ M 28 0 ≤ 300) {x : Int} (hx : vs_R x) {post : Int → vs_St → Prop} (k1 : 0 ≤ x → x < M 28 0 → post 0 (vs_st M 0 0 0)) (k2 : ¬ (0 ≤ x ∧ x < M 28 0) → post 1 (vs_st M 0 0 1)) : wX3_isNoRequest M x post := by
  unfold wX3_isNoRequest
  refine q_isRequest I hx ⟨vz_bR _, fun q S2 h2 => ?_, fun q S2 h2 => ?_⟩
  · subst h2
    have e : vs_st M 0 0 1 0 0 = 1 := by rw [vz_rd, if_pos rfl, if_pos rfl]
    rw [e]
    exact ⟨⟨by omega, by omega⟩, fun w => by omega, fun _ => k2 (vz_bn.mp q)⟩
  · subst h2
    have e : vs_st M 0 0 0 0 0 = 0 := by rw [vz_rd, if_pos rfl, if_pos rfl]
    rw [e]
    have := vz_bp.mp q
    exact ⟨⟨by omega, by omega⟩, fun _ => k1 this.1 this.2, fun w => by omega⟩

theorem q_isNone (I : 0 ≤ M 27 0 ∧ M 27 0 ≤ 4) {x y : Int} (hx : vs_R x) (hy : vs_R y) {post : Int → vs_St → Prop} (k1 : 0 ≤ x → x < M 27 0 → 0 ≤ y → y < 100 → post 0 (vs_st M 0 0 0)) (k2 : ¬ (0 ≤ x ∧ x < M 27 0 ∧ 0 ≤ y ∧ y < 100) → post 1 (vs_st M 0 0 1)) : wX3_isNone M x y post := by
  unfold wX3_isNone
  have e : vs_st M 0 0 1 0 0 = 1 := by rw [vz_rd, if_pos rfl, if_pos rfl]
  have e0 : vs_st M 0 0 0 0 0 = 0 := by rw [vz_rd, if_pos rfl, if_pos rfl]
  refine q_isTenant I hx ⟨vz_bR _, fun q S2 h2 => ?_, fun q => ?_⟩
  · subst h2
    rw [e]
    have := vz_bn.mp q
    exact ⟨⟨by omega, by omega⟩, fun w => by omega, fun _ => k2 (fun z => this ⟨z.1, z.2.1⟩)⟩
  · have hq := vz_bp.mp q
    refine q_isBetween hy ⟨by omega, by omega⟩ ⟨by omega, by omega⟩ ⟨vz_bR _, fun w S2 h2 => ?_, fun w S2 h2 => ?_⟩
    · subst h2
      rw [e]
      have := vz_bn.mp w
      exact ⟨⟨by omega, by omega⟩, fun w => by omega, fun _ => k2 (fun z => this ⟨z.2.2.1, by omega⟩)⟩
    · subst h2
      rw [e0]
      have := vz_bp.mp w
      exact ⟨⟨by omega, by omega⟩, fun _ => k1 hq.1 hq.2 this.1 (by omega), fun w => by omega⟩
theorem vz_M3R (I : vI M) {s : Int} (h0 : 0 ≤ s) (h1 : s < 32 * M 7 0) : vs_R (M 3 s) := by
  rcases I.hd s h0 h1 with z | ⟨z, z1, _⟩
  · exact ⟨by omega, by omega⟩
  · exact ⟨by omega, by omega⟩
theorem q_usedOf (I : vI M) {d : Int} (h0 : 0 ≤ d) (h1 : d < M 7 0) {post : Int → Prop} (k : post (vz_used M d)) : wX3_usedOf M d post := by
  unfold wX3_usedOf
  have hd := I.dk
  have hs := I.sz d h0 h1
  refine ⟨fun m i => 0 ≤ i ∧ i ≤ M 1 d ∧ m = vz_cnt (fun j => 0 ≤ M 3 (32 * d + j)) i.toNat, fun _ i => (M 1 d - i).toNat, ⟨by omega, by omega, rfl⟩, ?_⟩
  rintro m i ⟨i0, i1, rfl⟩
  unfold lX3_usedOf_4
  refine ⟨⟨by omega, by omega⟩, ⟨by omega, by omega⟩, ⟨by omega, by omega⟩, fun h => ?_, fun h => ⟨⟨by omega, by omega⟩, vz_M3R I (by omega) (by omega), fun q v hv => ?_, fun q v hv => ?_⟩⟩
  · have e : i = M 1 d := by omega
    rw [e]; exact k
  · subst hv
    refine ⟨⟨by omega, by omega, ?_⟩, by first | omega | (dsimp only; omega)⟩
    rw [vz_cnt_step _ i0, vz_b1 q]
  · subst hv
    refine ⟨⟨by omega, by omega, ?_⟩, by first | omega | (dsimp only; omega)⟩
    rw [vz_cnt_step _ i0, vz_b0 (by omega)]
theorem q_has (I : vI M) {d b : Int} (hd : vs_R d) (h0 : 0 ≤ b) (h1 : b < 400) {post : Int → Prop} (k : post (vz_b (vz_has M d b))) : wX3_has M d b post := by
  unfold wX3_has
  have hn := I.mn b h0 h1
  have hk := I.dk
  refine ⟨fun i => 0 ≤ i ∧ i ≤ M 10 b ∧ ∀ j : Int, 0 ≤ j → j < i → M 8 (3 * b + j) / 32 ≠ d, fun i => (M 10 b - i).toNat, ⟨by omega, by omega, fun j a c => by omega⟩, ?_⟩
  rintro i ⟨i0, i1, hi⟩
  unfold lX3_has_2
  refine ⟨⟨h0, h1⟩, ⟨by omega, by omega⟩, ⟨by omega, by omega⟩, fun h => ?_, fun h => ?_⟩
  · rw [vz_b0 (by rintro ⟨j, a, c, e⟩; exact hi j a (by omega) e)] at k; exact k
  · have hc := I.cp b i h0 h1 i0 h
    refine ⟨⟨h0, h1⟩, ⟨by omega, by omega⟩, ⟨by omega, by omega⟩, ⟨by omega, by omega⟩, hd, fun q => ⟨⟨by omega, by omega, fun j a c => ?_⟩, by first | omega | (dsimp only; omega)⟩, fun q => ?_⟩
    · by_cases e : j = i
      · subst e; exact q
      · exact hi j a (by omega)
    · rw [vz_b1 ⟨i, i0, h, q⟩] at k; exact k
theorem q_place (I : vI M) {b : Int} (h0 : 0 ≤ b) (h1 : b < 400) {post : Int → Prop} (k : post (vz_place M b)) : wX3_place M b post := by
  unfold wX3_place
  have hk := I.dk
  intro v1 hv
  subst hv
  refine ⟨fun p i => 0 ≤ i ∧ i ≤ M 7 0 ∧ p = vz_best M b i.toNat, fun _ i => (M 7 0 - i).toNat, ⟨by omega, by omega, rfl⟩, ?_⟩
  rintro p i ⟨i0, i1, hp⟩
  unfold lX3_place_4
  have hbd := vz_best_bd M b i.toNat
  rw [← hp] at hbd
  refine ⟨⟨by omega, by omega⟩, ⟨by omega, by omega⟩, fun h => ⟨⟨by omega, by omega⟩, fun q v2 hv2 => ?_, fun q => ?_⟩, fun h => ?_⟩
  · have e : i = M 7 0 := by omega
    rw [e] at hp
    subst hv2
    have ho := vz_best_open M b (M 7 0).toNat (by omega)
    rw [← hp] at ho
    have hs := I.sz p q (by omega)
    obtain ⟨f0, f1, f2, f3⟩ := vz_first_spec I q (by omega) ho.2.1
    unfold vz_place at k
    rw [← hp, if_neg (by omega)] at k
    refine ⟨fun j => 32 * p ≤ j ∧ j ≤ vz_first M (32 * p) 32, fun j => (vz_first M (32 * p) 32 - j).toNat, ⟨by omega, by omega⟩, ?_⟩
    rintro j ⟨j0, j1⟩
    unfold lX3_place_99
    refine ⟨⟨by omega, by omega⟩, vz_M3R I (by omega) (by omega), fun w => ?_, fun w => ?_⟩
    · have : j = vz_first M (32 * p) 32 := by
        rcases Int.lt_or_le j (vz_first M (32 * p) 32) with z | z
        · exact absurd w (f3 j j0 z)
        · omega
      rw [this]; exact k
    · have : j ≠ vz_first M (32 * p) 32 := by
        intro e
        rw [← e] at f2
        omega
      exact ⟨⟨by omega, by omega⟩, by first | omega | (dsimp only; omega)⟩
  · have e : i = M 7 0 := by omega
    rw [e] at hp
    unfold vz_place at k
    rw [← hp, if_pos q] at k
    exact k
  · have hs := I.stt i i0 h
    have hz := I.sz i i0 h
    have hu := vz_used_bd I i0 h
    have skip : ¬ (vz_open M b i ∧ (p < 0 ∨ M 1 p - vz_used M p < M 1 i - vz_used M i)) → p = vz_best M b (i + 1).toNat := by
      intro q
      rw [vz_best_step M b i0, ← hp, vz_bst0 q]
    have take : vz_open M b i → (p < 0 ∨ M 1 p - vz_used M p < M 1 i - vz_used M i) → i = vz_best M b (i + 1).toNat := by
      intro q q2
      rw [vz_best_step M b i0, ← hp, vz_bst1 q q2]
    refine ⟨⟨by omega, by omega⟩, ⟨by omega, by omega⟩, fun q => ⟨⟨by omega, by omega, skip (fun z => q z.1.1)⟩, by first | omega | (dsimp only; omega)⟩, fun q => q_usedOf I i0 h ⟨⟨by omega, by omega⟩, ⟨by omega, by omega⟩, ⟨by omega, by omega⟩, fun w => ⟨⟨by omega, by omega, skip (fun z => z.1.2.1 w)⟩, by first | omega | (dsimp only; omega)⟩, fun w => q_has I ⟨by omega, by omega⟩ h0 h1 ⟨vz_bR _, fun y => ⟨⟨by omega, by omega⟩, fun x => ⟨⟨by omega, by omega, take ⟨q, w, vz_bn.mp y⟩ (Or.inl x)⟩, by first | omega | (dsimp only; omega)⟩, fun x => ⟨⟨by omega, by omega⟩, q_usedOf I i0 h ⟨⟨by omega, by omega⟩, q_usedOf I x (by omega) ?_⟩⟩⟩, fun y => ⟨⟨by omega, by omega, skip (fun z => z.1.2.2 (vz_bp.mp y))⟩, by first | omega | (dsimp only; omega)⟩⟩⟩⟩
    have hu2 := vz_used_bd I x (by omega)
    have hz2 := I.sz p x (by omega)
    refine ⟨⟨by omega, by omega⟩, ⟨by omega, by omega⟩, fun e => ⟨⟨by omega, by omega, skip ?_⟩, by first | omega | (dsimp only; omega)⟩, fun e => ⟨⟨by omega, by omega, take ⟨q, w, vz_bn.mp y⟩ (Or.inr e)⟩, by first | omega | (dsimp only; omega)⟩⟩
    rintro ⟨_, z | z⟩ <;> omega
theorem q_goodOf (I : vI M) {b : Int} (h0 : 0 ≤ b) (h1 : b < 400) {post : Int → Prop} (k : post (vz_good M b)) : wX3_goodOf M b post := by
  unfold wX3_goodOf
  have hn := I.mn b h0 h1
  have hk := I.dk
  refine ⟨fun m i => 0 ≤ i ∧ i ≤ M 10 b ∧ m = vz_cnt (fun k => M 5 (M 8 (3 * b + k)) = 0) i.toNat, fun _ i => (M 10 b - i).toNat, ⟨by omega, by omega, rfl⟩, ?_⟩
  rintro m i ⟨i0, i1, rfl⟩
  unfold lX3_goodOf_4
  refine ⟨⟨by omega, by omega⟩, ⟨by omega, by omega⟩, ⟨by omega, by omega⟩, fun h => ?_, fun h => ?_⟩
  · have e : i = M 10 b := by omega
    rw [e]; exact k
  · have hc := I.cp b i h0 h1 i0 h
    have hr := I.rt (M 8 (3 * b + i)) hc.1 (by omega)
    refine ⟨⟨by omega, by omega⟩, ⟨by omega, by omega⟩, ⟨by omega, by omega⟩, ⟨by omega, by omega⟩, fun q v hv => ?_, fun q v hv => ?_⟩
    · subst hv
      refine ⟨⟨by omega, by omega, ?_⟩, by first | omega | (dsimp only; omega)⟩
      rw [vz_cnt_step _ i0, vz_b1 q]
    · subst hv
      refine ⟨⟨by omega, by omega, ?_⟩, by first | omega | (dsimp only; omega)⟩
      rw [vz_cnt_step _ i0, vz_b0 q]
theorem q_lost (I : vI M) (O : vO M) {b : Int} (h0 : 0 ≤ b) (h1 : b < 400) {post : Int → Prop} (k : post (vz_b (vz_lost M b))) : wX3_lost M b post := by
  unfold wX3_lost
  have hw := O.wb b h0 h1
  have hg := vz_good_bd I h0 h1
  refine ⟨⟨h0, h1⟩, ⟨by omega, by omega⟩, fun q => ?_, fun q => q_goodOf I h0 h1 ⟨⟨by omega, by omega⟩, fun w => ?_, fun w => ?_⟩⟩
  · rw [vz_b0 (fun z => z.1 q)] at k; exact k
  · rw [vz_b0 (fun z => w z.2)] at k; exact k
  · rw [vz_b1 ⟨q, w⟩] at k; exact k
theorem q_degraded (I : vI M) (O : vO M) {b : Int} (h0 : 0 ≤ b) (h1 : b < 400) {post : Int → Prop} (k : post (vz_b (vz_degr M b))) : wX3_degraded M b post := by
  unfold wX3_degraded
  have hw := O.wb b h0 h1
  have hn := I.mn b h0 h1
  have hq := O.wn (b / 100) (by omega) (by omega)
  refine ⟨⟨h0, h1⟩, ⟨by omega, by omega⟩, fun q => ?_, fun q => ⟨⟨h0, h1⟩, ⟨by omega, by omega⟩, ⟨by omega, by omega⟩, ⟨by omega, by omega⟩, ⟨by omega, by omega⟩, fun w => ?_, fun w => ?_⟩⟩
  · rw [vz_b0 (fun z => z.1 q)] at k; exact k
  · rw [vz_b0 (fun z => by have := z.2; omega)] at k; exact k
  · rw [vz_b1 ⟨q, w⟩] at k; exact k
theorem q_waitingMany (Q : vQ M) {t : Int} (h0 : 0 ≤ t) (ht : t ≤ 2147483647) {post : Int → Prop} (k : post (vz_wait M t)) : wX3_waitingMany M t post := by
  unfold wX3_waitingMany
  have hq := Q.rq
  have hn := Q.tn
  refine ⟨fun m i => 0 ≤ i ∧ i ≤ M 28 0 ∧ m = vz_cnt (vz_W M t) i.toNat, fun _ i => (M 28 0 - i).toNat, ⟨by omega, by omega, rfl⟩, ?_⟩
  rintro m i ⟨i0, i1, rfl⟩
  unfold lX3_waitingMany_4
  refine ⟨⟨by omega, by omega⟩, ⟨by omega, by omega⟩, fun h => ?_, fun h => ?_⟩
  · have e : i = M 28 0 := by omega
    rw [e]; exact k
  · have hs := Q.stt i i0 h
    have hb := Q.bl i i0 h
    refine ⟨⟨by omega, by omega⟩, ⟨by omega, by omega⟩, fun q v hv => ?_, fun q => ⟨⟨by omega, by omega⟩, fun w => by omega, fun w => ⟨⟨by omega, by omega⟩, ⟨by omega, by omega⟩, ⟨by omega, by omega⟩, ⟨by omega, by omega⟩, fun y v hv => ?_, fun y v hv => ?_⟩⟩⟩
    · subst hv
      refine ⟨⟨by omega, by omega, ?_⟩, by first | omega | (dsimp only; omega)⟩
      rw [vz_cnt_step _ i0, vz_b0 (fun z => q z.1)]
    · subst hv
      refine ⟨⟨by omega, by omega, ?_⟩, by first | omega | (dsimp only; omega)⟩
      rw [vz_cnt_step _ i0, vz_b0 (fun z => y z.2)]
    · subst hv
      refine ⟨⟨by omega, by omega, ?_⟩, by first | omega | (dsimp only; omega)⟩
      rw [vz_cnt_step _ i0, vz_b1 ⟨q, y⟩]
theorem q_waitingAll (Q : vQ M) {post : Int → Prop} (k : post (vz_waitA M)) : wX3_waitingMany M (-1) post := by
  unfold wX3_waitingMany
  have hq := Q.rq
  refine ⟨fun m i => 0 ≤ i ∧ i ≤ M 28 0 ∧ m = vz_cnt (fun r => M 26 r = 119) i.toNat, fun _ i => (M 28 0 - i).toNat, ⟨by omega, by omega, rfl⟩, ?_⟩
  rintro m i ⟨i0, i1, rfl⟩
  unfold lX3_waitingMany_4
  refine ⟨⟨by omega, by omega⟩, ⟨by omega, by omega⟩, fun h => ?_, fun h => ?_⟩
  · have e : i = M 28 0 := by omega
    rw [e]; exact k
  · have hs := Q.stt i i0 h
    refine ⟨⟨by omega, by omega⟩, ⟨by omega, by omega⟩, fun q v hv => ?_, fun q => ⟨⟨by omega, by omega⟩, fun w v hv => ?_, fun w => by omega⟩⟩
    · subst hv
      refine ⟨⟨by omega, by omega, ?_⟩, by first | omega | (dsimp only; omega)⟩
      rw [vz_cnt_step _ i0, vz_b0 q]
    · subst hv
      refine ⟨⟨by omega, by omega, ?_⟩, by first | omega | (dsimp only; omega)⟩
      rw [vz_cnt_step _ i0, vz_b1 q]
theorem vz_oldN_step (M : vs_St) (t : Int) {i : Int} (h : 0 ≤ i) (hn : vz_oldN M t i.toNat < 0) : vz_oldN M t (i + 1).toNat = @ite Int (vz_W M t i) (Classical.propDecidable _) i (-1) := by
  have e : (i + 1).toNat = i.toNat + 1 := by omega
  rw [e]
  show (if 0 ≤ vz_oldN M t i.toNat then vz_oldN M t i.toNat else @ite Int (vz_W M t (i.toNat : Int)) (Classical.propDecidable _) (i.toNat : Int) (-1)) = _
  rw [if_neg (by omega), Int.toNat_of_nonneg h]
theorem vz_oldN_keep (M : vs_St) (t : Int) {n : Nat} (h : 0 ≤ vz_oldN M t n) : ∀ k : Nat, vz_oldN M t (n + k) = vz_oldN M t n
  | 0 => rfl
  | k + 1 => by
    show (if 0 ≤ vz_oldN M t (n + k) then vz_oldN M t (n + k) else _) = _
    rw [vz_oldN_keep M t h k, if_pos h]
theorem vz_oldN_spec (M : vs_St) (t : Int) : ∀ n : Nat, (vz_oldN M t n = -1 ∧ ∀ r : Int, 0 ≤ r → r < n → ¬ vz_W M t r) ∨ (0 ≤ vz_oldN M t n ∧ vz_oldN M t n < n ∧ vz_W M t (vz_oldN M t n) ∧ ∀ r : Int, 0 ≤ r → r < vz_oldN M t n → ¬ vz_W M t r)
  | 0 => Or.inl ⟨rfl, fun r a b => by omega⟩
  | n + 1 => by
    rcases vz_oldN_spec M t n with ⟨h, h2⟩ | ⟨h, h1, h2, h3⟩
    · have e : vz_oldN M t (n + 1) = @ite Int (vz_W M t (n : Int)) (Classical.propDecidable _) (n : Int) (-1) := by
        show (if 0 ≤ vz_oldN M t n then vz_oldN M t n else _) = _
        rw [if_neg (by omega)]
      rcases Classical.em (vz_W M t (n : Int)) with q | q
      · have e2 : vz_oldN M t (n + 1) = n := by rw [e]; exact if_pos q
        right
        rw [e2]
        exact ⟨by omega, by omega, q, h2⟩
      · have e2 : vz_oldN M t (n + 1) = -1 := by rw [e]; exact if_neg q
        left
        refine ⟨e2, fun r a b => ?_⟩
        by_cases z : r = n
        · subst z; exact q
        · exact h2 r a (by omega)
    · right
      rw [vz_oldN_keep M t h 1]
      exact ⟨h, by omega, h2, h3⟩
theorem vz_old_spec (Q : vQ M) (t : Int) : (vz_old M t = -1 ∧ ∀ r : Int, 0 ≤ r → r < M 28 0 → ¬ vz_W M t r) ∨ (0 ≤ vz_old M t ∧ vz_old M t < M 28 0 ∧ vz_W M t (vz_old M t) ∧ ∀ r : Int, 0 ≤ r → r < vz_old M t → ¬ vz_W M t r) := by
  have hq := Q.rq
  rcases vz_oldN_spec M t (M 28 0).toNat with ⟨h, h2⟩ | ⟨h, h1, h2, h3⟩
  · exact Or.inl ⟨h, fun r a b => h2 r a (by omega)⟩
  · exact Or.inr ⟨h, by unfold vz_old; omega, h2, h3⟩
theorem q_oldestOf (Q : vQ M) {t : Int} (ht : vs_R t) {post : Int → Prop} (k : post (vz_old M t)) : wX3_oldestOf M t post := by
  unfold wX3_oldestOf
  have hq := Q.rq
  have hn := Q.tn
  have hsp := vz_old_spec Q t
  refine ⟨fun i => 0 ≤ i ∧ i ≤ M 28 0 ∧ ∀ r : Int, 0 ≤ r → r < i → ¬ vz_W M t r, fun i => (M 28 0 - i).toNat, ⟨by omega, by omega, fun r a b => by omega⟩, ?_⟩
  rintro i ⟨i0, i1, hi⟩
  unfold lX3_oldestOf_2
  refine ⟨⟨by omega, by omega⟩, ⟨by omega, by omega⟩, fun h => ?_, fun h => ?_⟩
  · rcases hsp with ⟨e, _⟩ | ⟨a, b, c, _⟩
    · rw [e] at k; exact k
    · exact absurd c (hi _ a (by omega))
  · have hs := Q.stt i i0 h
    have hb := Q.bl i i0 h
    have next : ¬ vz_W M t i → ∀ r : Int, 0 ≤ r → r < i + 1 → ¬ vz_W M t r := by
      intro q r a b
      by_cases z : r = i
      · subst z; exact q
      · exact hi r a (by omega)
    refine ⟨⟨by omega, by omega⟩, ⟨by omega, by omega⟩, fun q => ⟨⟨by omega, by omega, next (fun z => q z.1)⟩, by first | omega | (dsimp only; omega)⟩, fun q => ⟨⟨by omega, by omega⟩, ⟨by omega, by omega⟩, ⟨by omega, by omega⟩, ht, fun y => ⟨⟨by omega, by omega, next (fun z => y z.2)⟩, by first | omega | (dsimp only; omega)⟩, fun y => ?_⟩⟩
    rcases hsp with ⟨_, e⟩ | ⟨a, b, c, e⟩
    · exact absurd ⟨q, y⟩ (e i i0 h)
    · have : vz_old M t = i := by
        rcases Int.lt_trichotomy (vz_old M t) i with z | z | z
        · exact absurd c (hi _ a z)
        · exact z
        · exact absurd ⟨q, y⟩ (e i i0 z)
      rw [this] at k; exact k
end VZ3
