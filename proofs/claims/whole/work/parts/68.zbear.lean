/-! pure part: bearing losses; the class's own check -/
section VZI
variable {M S K V T O : vs_St}
def vz_bears (M : vs_St) (l : Int) : Prop := ∀ i : Int, 0 ≤ i → i < M 15 0 → vz_good M (M 13 i) = 0 ∨ l < vz_good M (M 13 i)
theorem p_bearsByCounting (A : vA M) (r : vS M S) {l : Int} (hl : vs_R l) {post : Int → Prop} (k : post (vz_b (vz_bears M l))) : wX1_bearsByCounting S l post := by
  unfold wX1_bearsByCounting
  have hw := vz_wbd A.O
  refine ⟨fun i => 0 ≤ i ∧ i ≤ M 15 0 ∧ ∀ j : Int, 0 ≤ j → j < i → vz_good M (M 13 j) = 0 ∨ l < vz_good M (M 13 j), fun i => (401 - i).toNat, ⟨by omega, by omega, fun j a b => by omega⟩, ?_⟩
  rintro i ⟨i0, i1, hi⟩
  unfold lX1_bearsByCounting_2
  rw [r.wr]
  refine ⟨⟨by omega, by omega⟩, ⟨by omega, by omega⟩, fun h => ?_, fun h => ?_⟩
  · rw [vz_b1 (show vz_bears M l from fun j a b => hi j a (by omega))] at k; exact k
  · have ho := A.O.od i i0 h
    have hg := vz_good_bd A.I ho.1 ho.2.1
    have next : (vz_good M (M 13 i) = 0 ∨ l < vz_good M (M 13 i)) → ∀ j : Int, 0 ≤ j → j < i + 1 → vz_good M (M 13 j) = 0 ∨ l < vz_good M (M 13 j) := by
      intro q j a b
      by_cases e : j = i
      · subst e; exact q
      · exact hi j a (by omega)
    rw [r.od i i0 h]
    refine ⟨⟨i0, by omega⟩, p_disksWithGood A.I r ho.1 ho.2.1 (fun m hm => hm.cnt ?_)⟩
    rw [vz_hasG_cnt A.I ho.1 ho.2.1]
    refine ⟨⟨by omega, by omega⟩, fun q => ⟨⟨by omega, by omega, next (Or.inl q)⟩, by first | omega | (dsimp only; omega)⟩, fun q => ⟨⟨by omega, by omega⟩, hl, fun w => ⟨⟨by omega, by omega, next (Or.inr w)⟩, by first | omega | (dsimp only; omega)⟩, fun w => ?_⟩⟩
    rw [vz_b0 (fun z => by rcases z i i0 h with y | y <;> omega)] at k; exact k
theorem q_doesBear (A : vA (vs_st M 0 0 0)) {l : Int} (hl : vs_R l) {post : Int → vs_St → Prop} (k1 : 0 ≤ l → l ≤ 3 → post (vz_b (vz_bears M l)) (vs_st M 0 0 0)) (k2 : ¬ (0 ≤ l ∧ l ≤ 3) → post 0 (vs_st M 0 0 1)) : wX3_doesBear M l post := by
  unfold wX3_doesBear
  have hw := vz_wbd A.O
  refine q_isBetween hl ⟨by omega, by omega⟩ ⟨by omega, by omega⟩ ⟨vz_bR _, fun q S2 e2 => ?_, fun q S5 e5 => ?_⟩
  · subst e2
    rw [vz_00]
    exact ⟨vR1, fun z => by omega, fun _ => k2 (vz_bn.mp q)⟩
  · subst e5
    rw [vz_00]
    have hq := vz_bp.mp q
    have k1 := k1 hq.1 hq.2
    refine ⟨vs_R0, fun _ => ⟨fun i => 0 ≤ i ∧ i ≤ M 15 0 ∧ ∀ j : Int, 0 ≤ j → j < i → vz_good M (M 13 j) = 0 ∨ l < vz_good M (M 13 j), fun i => (401 - i).toNat, ⟨by omega, hw.1, fun j a b => by omega⟩, ?_⟩, fun z => by omega⟩
    rintro i ⟨i0, i1, hi⟩
    have hw2 : 0 ≤ M 15 0 ∧ M 15 0 ≤ 400 := hw
    unfold lX3_doesBear_29
    refine ⟨⟨by omega, by omega⟩, ⟨by show _ ≤ M 15 0; omega, by show M 15 0 ≤ _; omega⟩, fun h => ?_, fun h => ?_⟩
    · have h : M 15 0 ≤ i := h
      rw [vz_b1 (show vz_bears M l from fun j a b => hi j a (by omega))] at k1; exact k1
    · have h : i < M 15 0 := h
      have ho := A.O.od i i0 h
      have hg := vz_good_bd A.I ho.1 ho.2.1
      have hg : 0 ≤ vz_good M (M 13 i) ∧ vz_good M (M 13 i) ≤ 3 := hg
      have next : (vz_good M (M 13 i) = 0 ∨ l < vz_good M (M 13 i)) → ∀ j : Int, 0 ≤ j → j < i + 1 → vz_good M (M 13 j) = 0 ∨ l < vz_good M (M 13 j) := by
        intro q j a b
        by_cases e : j = i
        · subst e; exact q
        · exact hi j a (by omega)
      refine ⟨⟨i0, by omega⟩, q_lost A.I A.O ho.1 ho.2.1 ⟨vz_bR _, fun w => ⟨⟨by omega, by omega, next (Or.inl (vz_bp.mp w).2)⟩, by first | omega | (dsimp only; omega)⟩, fun w => ⟨⟨i0, by omega⟩, q_goodOf A.I ho.1 ho.2.1 ?_⟩⟩⟩
      have nz : vz_good M (M 13 i) ≠ 0 := fun e => vz_bn.mp w ⟨ho.2.2, e⟩
      show (vs_R (vz_good M (M 13 i))) ∧ (vs_R l) ∧ (l < vz_good M (M 13 i) → _) ∧ (vz_good M (M 13 i) ≤ l → _)
      refine ⟨⟨by omega, by omega⟩, hl, fun y => ⟨⟨by omega, by omega, next (Or.inr y)⟩, by first | omega | (dsimp only; omega)⟩, fun y => ?_⟩
      rw [vz_b0 (fun z => by rcases z i i0 h with x | x <;> omega)] at k1; exact k1
theorem okc_25 : vs_okc_25 vZ := by
  intro V S T K O M B LN i p1 p2 p3 h1 h2 h3 Z
  obtain ⟨Y, L⟩ := Z
  have Y0 := vY_0 Y 0
  have Y1 := vY_0 Y 1
  unfold wcase_25 wL_doesBear wX2_doesBear
  refine p_checkLosses h1 (fun d0 d1 => ?_) (fun hn => ⟨fun _ => q_doesBear Y0.A h1 (fun z0 z1 => absurd ⟨z0, z1⟩ hn) (fun _ => w_ex (vz_00 M 1) (by omega) vR1 ⟨Y1, L⟩), rfl⟩)
  refine p_bearsByCounting Y.A Y.r h1 ⟨vz_b01 _, vz_bR _, fun q O2 e2 => ?_, fun q O2 e2 => ?_⟩
  · refine q_doesBear Y0.A h1 (fun _ _ => ?_) (fun z => absurd ⟨d0, d1⟩ z)
    rw [q]
    exact w_okb (vz_00 M 0) (Or.inl rfl) (by rw [e2, vz_00]) ⟨Y0, L⟩
  · refine q_doesBear Y0.A h1 (fun _ _ => ?_) (fun z => absurd ⟨d0, d1⟩ z)
    rw [vz_b1 (vz_bp.mp q)]
    exact w_okb (vz_00 M 0) (Or.inr rfl) (by rw [e2, vz_00]) ⟨Y0, L⟩
-- sets of disks
theorem vz_between {G U : Int → Prop} {N : Nat} (hGU : ∀ d : Int, 0 ≤ d → d < N → G d → U d) : ∀ (j : Nat) {G' : Int → Prop} {m : Int}, (∀ d : Int, 0 ≤ d → d < N → G d → G' d) → (∀ d : Int, 0 ≤ d → d < N → G' d → U d) → m = vz_cnt G' N + j → m ≤ vz_cnt U N → ∃ P : Int → Prop, (∀ d : Int, 0 ≤ d → d < N → G d → P d) ∧ (∀ d : Int, 0 ≤ d → d < N → P d → U d) ∧ vz_cnt P N = m
  | 0, G', m, h1, h2, e, _ => ⟨G', h1, h2, by omega⟩
  | j + 1, G', m, h1, h2, e, hm => by
    rcases Classical.em (∃ d : Int, 0 ≤ d ∧ d < N ∧ U d ∧ ¬ G' d) with ⟨d, d0, d1, d2, d3⟩ | q
    · have ec : vz_cnt (fun x => G' x ∨ x = d) N = vz_cnt G' N + 1 := vz_cnt_up d0 d1 d3 (Or.inr rfl) (fun i _ _ ne => ⟨fun z => z.elim id (fun y => absurd y ne), Or.inl⟩)
      exact vz_between hGU j (G' := fun x => G' x ∨ x = d) (m := m) (fun x a b c => Or.inl (h1 x a b c)) (fun x a b c => c.elim (h2 x a b) (fun y => by rw [y]; exact d2)) (by omega) hm
    · have : vz_cnt U N ≤ vz_cnt G' N := vz_cnt_imp (fun i a b c => by
        rcases Classical.em (G' i) with z | z
        · exact z
        · exact absurd ⟨i, a, b, c, z⟩ q)
      omega
theorem vz_cnt_split (r a : Int → Prop) : ∀ n : Nat, vz_cnt (fun d => r d ∧ a d) n + vz_cnt (fun d => r d ∧ ¬ a d) n = vz_cnt r n
  | 0 => rfl
  | n + 1 => by
    have ih := vz_cnt_split r a n
    have e1 : vz_cnt (fun d => r d ∧ a d) (n + 1) = vz_cnt (fun d => r d ∧ a d) n + vz_b (r n ∧ a n) := rfl
    have e2 : vz_cnt (fun d => r d ∧ ¬ a d) (n + 1) = vz_cnt (fun d => r d ∧ ¬ a d) n + vz_b (r n ∧ ¬ a n) := rfl
    have e3 : vz_cnt r (n + 1) = vz_cnt r n + vz_b (r n) := rfl
    rcases Classical.em (r (n : Int)) with q | q
    · rcases Classical.em (a (n : Int)) with w | w
      · rw [vz_b1 ⟨q, w⟩] at e1; rw [vz_b0 (fun z => z.2 w)] at e2; rw [vz_b1 q] at e3; omega
      · rw [vz_b0 (fun z => w z.2)] at e1; rw [vz_b1 ⟨q, w⟩] at e2; rw [vz_b1 q] at e3; omega
    · rw [vz_b0 (fun z => q z.1)] at e1; rw [vz_b0 (fun z => q z.1)] at e2; rw [vz_b0 q] at e3; omega
theorem vz_cnt_lt {D : Int} {n : Nat} (h0 : 0 ≤ D) (h1 : D ≤ n) : vz_cnt (fun d => d < D) n = D := by
  have := vz_cnt_img (c := fun k => k) (N := n) (m := D.toNat) (fun k a b => ⟨a, by show k < (n : Int); omega⟩) (fun k k' a b c => by show k ≠ k'; omega)
  rw [← vz_cnt_ext (p := fun s => ∃ k : Int, 0 ≤ k ∧ k < (D.toNat : Int) ∧ k = s) (q := fun d => d < D) (n := n) (fun i a b => ⟨fun ⟨k, k0, k1, k2⟩ => by omega, fun z => ⟨i, a, by omega, rfl⟩⟩)]
  rw [this]; omega
theorem vS_12 (r : vS M S) (i x : Int) : vS M (vs_st S 12 i x) := ⟨r.dk, r.sz, r.us, r.us0, r.stt, r.st0, r.hd, r.hd0, r.rt, r.rt0, r.wn, r.vl, r.mn, r.cp, r.wr, r.od⟩
def vz_G (M S : vs_St) : Prop := ∀ i : Int, 0 ≤ i → i < M 15 0 → vz_mask (S 12 i) (fun d => vz_hasG M d (M 13 i))
theorem p_doesLose (A : vA M) (r : vS M S) (G : vz_G M S) {y : Int} {Q : Int → Prop} (hy : vz_mask y Q) {post : Int → Prop} (k : post (vz_b (∃ i : Int, 0 ≤ i ∧ i < M 15 0 ∧ vz_good M (M 13 i) ≠ 0 ∧ ∀ d : Int, 0 ≤ d → d < 8 → vz_hasG M d (M 13 i) → Q d))) : wX1_doesLose S y post := by
  unfold wX1_doesLose
  have hw := vz_wbd A.O
  refine ⟨fun i => 0 ≤ i ∧ i ≤ M 15 0 ∧ ∀ j : Int, 0 ≤ j → j < i → ¬ (vz_good M (M 13 j) ≠ 0 ∧ ∀ d : Int, 0 ≤ d → d < 8 → vz_hasG M d (M 13 j) → Q d), fun i => (401 - i).toNat, ⟨by omega, by omega, fun j a b => by omega⟩, ?_⟩
  rintro i ⟨i0, i1, hi⟩
  unfold lX1_doesLose_2
  rw [r.wr]
  refine ⟨⟨by omega, by omega⟩, ⟨by omega, by omega⟩, fun h => ?_, fun h => ?_⟩
  · rw [vz_b0 (fun ⟨j, a, b, c⟩ => hi j a (by omega) c)] at k; exact k
  · have ho := A.O.od i i0 h
    have hg := G i i0 h
    have hr := hg.rg
    have hz := vz_hasG_z A.I ho.1 ho.2.1 hg
    have hs := hg.sub hy
    have hsr := hs.rg
    have next : ¬ (vz_good M (M 13 i) ≠ 0 ∧ ∀ d : Int, 0 ≤ d → d < 8 → vz_hasG M d (M 13 i) → Q d) → ∀ j : Int, 0 ≤ j → j < i + 1 → ¬ (vz_good M (M 13 j) ≠ 0 ∧ ∀ d : Int, 0 ≤ d → d < 8 → vz_hasG M d (M 13 j) → Q d) := by
      intro q j a b
      by_cases e : j = i
      · subst e; exact q
      · exact hi j a (by omega)
    refine ⟨⟨i0, by omega⟩, ⟨by omega, by omega⟩, fun q => ⟨⟨by omega, by omega, next (fun z => z.1 (hz.mp q))⟩, by first | omega | (dsimp only; omega)⟩, fun q => ⟨⟨i0, by omega⟩, ⟨by omega, by omega⟩, fun w => ⟨⟨by omega, by omega, next (fun z => w (hs.z.mpr (fun d a b c => c.2 (z.2 d a b c.1))))⟩, by first | omega | (dsimp only; omega)⟩, fun w => ?_⟩⟩
    have hx : ∃ i : Int, 0 ≤ i ∧ i < M 15 0 ∧ vz_good M (M 13 i) ≠ 0 ∧ ∀ d : Int, 0 ≤ d → d < 8 → vz_hasG M d (M 13 i) → Q d := ⟨i, i0, h, fun z => q (hz.mpr z), fun d a b c => by
      rcases Classical.em (Q d) with z | z
      · exact z
      · exact absurd ⟨c, z⟩ (hs.z.mp w d a b)⟩
    rw [vz_b1 hx] at k
    exact k
theorem p_bearsByTrying (A : vA M) (r : vS M S) {l : Int} (l0 : 0 ≤ l) (l3 : l ≤ 3) {post : Int → vs_St → Prop} (k : ∀ S', vS M S' → post (vz_b (vz_bears M l)) S') : wX1_bearsByTrying S l post := by
  unfold wX1_bearsByTrying
  have hw := vz_wbd A.O
  have hd := A.I.dk
  refine ⟨fun i S' => 0 ≤ i ∧ i ≤ M 15 0 ∧ vS M S' ∧ ∀ j : Int, 0 ≤ j → j < i → vz_mask (S' 12 j) (fun d => vz_hasG M d (M 13 j)), fun i _ => (401 - i).toNat, ⟨by omega, by omega, r, fun j a b => by omega⟩, ?_⟩
  rintro i S' ⟨i0, i1, hr, hi⟩
  unfold lX1_bearsByTrying_2
  rw [hr.wr]
  refine ⟨⟨by omega, by omega⟩, ⟨by omega, by omega⟩, fun h => ?_, fun h => ?_⟩
  · have G : vz_G M S' := fun j a b => hi j a (by omega)
    have k := k S' hr
    refine p_disksInState A.I hr ⟨by omega, by omega⟩ (fun f hf => hf.cnt ?_)
    have hF := vz_cnt_bd (fun d => d < M 7 0 ∧ M 2 d = 102) 8
    have hsplit := vz_cnt_split (fun d => d < M 7 0) (fun d => M 2 d = 102) 8
    rw [vz_cnt_lt hd.1 (by omega)] at hsplit
    have hU := vz_cnt_bd (fun d => d < M 7 0 ∧ ¬ M 2 d = 102) 8
    rw [hr.dk]
    refine ⟨⟨by omega, by omega⟩, ⟨by omega, by omega⟩, fun v3 hv3 => ?_⟩
    obtain ⟨sh, shb⟩ := vz_shlR hd.1 hd.2
    generalize hP2 : 2 ^ (M 7 0).toNat = PP at sh shb
    have cover : ∀ i : Int, 0 ≤ i → i < M 15 0 → ∀ d : Int, 0 ≤ d → d < 8 → vz_hasG M d (M 13 i) → d < M 7 0 ∧ ¬ M 2 d = 102 := by
      intro i i0 i1 d d0 d1 q
      have ho := A.O.od i i0 i1
      obtain ⟨kk, k0, k1, k2, _⟩ := q
      have hc := A.I.cp _ kk ho.1 ho.2.1 k0 k1
      rw [k2] at hc
      exact ⟨by omega, hc.2.2.2.2⟩
    refine ⟨fun c => 0 ≤ c ∧ c ≤ vs_shl 1 (M 7 0) ∧ ∀ n : Nat, (n : Int) < c → ¬ ((∀ d : Int, 0 ≤ d → d < 8 → ¬ (n.testBit d.toNat = true ∧ d < M 7 0 ∧ M 2 d = 102)) ∧ vz_cnt (fun d => n.testBit d.toNat = true) 8 = v3 ∧ ∃ i : Int, 0 ≤ i ∧ i < M 15 0 ∧ vz_good M (M 13 i) ≠ 0 ∧ ∀ d : Int, 0 ≤ d → d < 8 → vz_hasG M d (M 13 i) → n.testBit d.toNat = true), fun c => (257 - c).toNat, ⟨by omega, by omega, fun n hn => by omega⟩, ?_⟩
    rintro c ⟨c0, c1, hc⟩
    unfold lX1_bearsByTrying_56
    rw [hr.dk]
    refine ⟨⟨by omega, by omega⟩, ⟨by omega, by omega⟩, fun q => ?_, fun q => ?_⟩
    · -- no choice loses: every block bears
      have hall : vz_bears M l := by
        intro i i0 i1
        rcases Classical.em (vz_good M (M 13 i) = 0 ∨ l < vz_good M (M 13 i)) with z | z
        · exact z
        · exfalso
          have ho := A.O.od i i0 i1
          have hg := vz_good_bd A.I ho.1 ho.2.1
          have hgc := vz_hasG_cnt A.I ho.1 ho.2.1
          have hle : vz_cnt (fun d => vz_hasG M d (M 13 i)) 8 ≤ vz_cnt (fun d => d < M 7 0 ∧ ¬ M 2 d = 102) 8 := vz_cnt_imp (fun d a b c => cover i i0 i1 d a (by omega) c)
          obtain ⟨P, P1, P2, P3⟩ := vz_between (G := fun d => vz_hasG M d (M 13 i)) (U := fun d => d < M 7 0 ∧ ¬ M 2 d = 102) (N := 8) (fun d a b c => cover i i0 i1 d a (by omega) c) (v3 - vz_good M (M 13 i)).toNat (G' := fun d => vz_hasG M d (M 13 i)) (m := v3) (fun d a b c => c) (fun d a b c => cover i i0 i1 d a (by omega) c) (by rw [hgc]; omega) (by omega)
          obtain ⟨n, n1, n2⟩ := vz_mask_ex P (M 7 0).toNat (by omega)
          rw [hP2] at n1
          have n8 : n < 256 := by omega
          have tb : ∀ d : Int, 0 ≤ d → d < 8 → (n.testBit d.toNat = true ↔ P d) := by
            intro d a b
            obtain ⟨n', h1, h2, h3⟩ := n2
            have : n' = n := by omega
            subst this
            have := h3 d.toNat (by omega)
            rw [Int.toNat_of_nonneg a] at this
            rw [this]
            exact ⟨fun z => z.2, fun z => ⟨by have := (P2 d a (by omega) z).1; omega, z⟩⟩
          refine hc n (by omega) ⟨fun d a b z => ?_, ?_, i, i0, i1, fun e => z (Or.inl e), fun d a b w => (tb d a b).mpr (P1 d a (by omega) w)⟩
          · exact (P2 d a (by omega) ((tb d a b).mp z.1)).2 z.2.2
          · rw [← P3]; exact vz_cnt_ext (fun d a b => tb d a (by omega))
      rw [vz_b1 hall] at k
      exact k
    · obtain ⟨n, rfl⟩ : ∃ n : Nat, c = (n : Int) := ⟨c.toNat, by omega⟩
      have hm := vz_mask_of (n := n) (by omega)
      have ha := hm.and hf
      have har := ha.rg
      have hcb := vz_cnt_bd (fun d => n.testBit d.toNat = true) 8
      have next : ¬ ((∀ d : Int, 0 ≤ d → d < 8 → ¬ (n.testBit d.toNat = true ∧ d < M 7 0 ∧ M 2 d = 102)) ∧ vz_cnt (fun d => n.testBit d.toNat = true) 8 = v3 ∧ ∃ i : Int, 0 ≤ i ∧ i < M 15 0 ∧ vz_good M (M 13 i) ≠ 0 ∧ ∀ d : Int, 0 ≤ d → d < 8 → vz_hasG M d (M 13 i) → n.testBit d.toNat = true) → ∀ n' : Nat, (n' : Int) < (n : Int) + 1 → ¬ ((∀ d : Int, 0 ≤ d → d < 8 → ¬ (n'.testBit d.toNat = true ∧ d < M 7 0 ∧ M 2 d = 102)) ∧ vz_cnt (fun d => n'.testBit d.toNat = true) 8 = v3 ∧ ∃ i : Int, 0 ≤ i ∧ i < M 15 0 ∧ vz_good M (M 13 i) ≠ 0 ∧ ∀ d : Int, 0 ≤ d → d < 8 → vz_hasG M d (M 13 i) → n'.testBit d.toNat = true) := by
        intro w n' hn'
        by_cases e : n' = n
        · subst e; exact w
        · exact hc n' (by omega)
      refine ⟨⟨by omega, by omega⟩, fun w => ⟨⟨by omega, by omega, next (fun z => w (ha.z.mpr z.1))⟩, by first | omega | (dsimp only; omega)⟩, fun w => hm.cnt ⟨⟨by omega, by omega⟩, ⟨by omega, by omega⟩, fun y => ⟨⟨by omega, by omega, next (fun z => y z.2.1)⟩, by first | omega | (dsimp only; omega)⟩, fun y => p_doesLose A hr G hm ⟨vz_bR _, fun x => ⟨⟨by omega, by omega, next (fun z => vz_bn.mp x z.2.2)⟩, by first | omega | (dsimp only; omega)⟩, fun x => ?_⟩⟩⟩
      obtain ⟨i, i0, i1, i2, i3⟩ := vz_bp.mp x
      have ho := A.O.od i i0 i1
      have hgc := vz_hasG_cnt A.I ho.1 ho.2.1
      have hle : vz_cnt (fun d => vz_hasG M d (M 13 i)) 8 ≤ vz_cnt (fun d => n.testBit d.toNat = true) 8 := vz_cnt_imp (fun d a b c => i3 d a (by omega) c)
      clear next hc x
      have hll : vz_good M (M 13 i) ≤ l := by omega
      have hnb : ¬ vz_bears M l := by
        intro z
        rcases z i i0 i1 with u | u
        · exact i2 u
        · omega
      rw [vz_b0 hnb] at k
      exact k
  · have ho := A.O.od i i0 h
    rw [hr.od i i0 h]
    refine ⟨⟨i0, by omega⟩, p_disksWithGood A.I hr ho.1 ho.2.1 (fun m hm => ⟨⟨i0, by omega⟩, fun S7 e7 => ⟨⟨by omega, by omega, by rw [e7]; exact vS_12 hr _ _, fun j a b => ?_⟩, by first | omega | (dsimp only; omega)⟩⟩)⟩
    rw [e7]
    show vz_mask (if j = i then m else S' 12 j) _
    by_cases e : j = i
    · rw [if_pos e, e]; exact hm
    · rw [if_neg e]; exact hi j a (by omega)
theorem okc_26 : vs_okc_26 vZ := by
  intro V S T K O M B LN i p1 p2 p3 h1 h2 h3 Z
  obtain ⟨Y, L⟩ := Z
  have Y0 := vY_0 Y 0
  have Y1 := vY_0 Y 1
  unfold wcase_26 wL_doesBearByTrying wX2_doesBearByTrying wX3_doesBearByTrying
  refine p_checkLosses h1 (fun d0 d1 => ?_) (fun hn => ⟨fun _ => q_doesBear Y0.A h1 (fun z0 z1 => absurd ⟨z0, z1⟩ hn) (fun _ => ⟨Or.inl rfl, w_ex (vz_00 M 1) (by omega) vR1 ⟨Y1, L⟩⟩), rfl⟩)
  refine p_bearsByTrying Y.A Y.r d0 d1 (fun S' r' => ⟨vz_b01 _, vz_bR _, fun q O2 e2 => ?_, fun q O2 e2 => ?_⟩)
  · refine q_doesBear Y0.A h1 (fun _ _ => ⟨vz_b01 _, ?_⟩) (fun z => absurd ⟨d0, d1⟩ z)
    rw [q]
    exact w_okb (vz_00 M 0) (Or.inl rfl) (by rw [e2, vz_00]) ⟨vY_0 ⟨Y.A, Y.C, r', Y.k, Y.v⟩ 0, L⟩
  · refine q_doesBear Y0.A h1 (fun _ _ => ⟨vz_b01 _, ?_⟩) (fun z => absurd ⟨d0, d1⟩ z)
    rw [vz_b1 (vz_bp.mp q)]
    exact w_okb (vz_00 M 0) (Or.inr rfl) (by rw [e2, vz_00]) ⟨vY_0 ⟨Y.A, Y.C, r', Y.k, Y.v⟩ 0, L⟩
theorem p_agrees (A : vA M) (r : vS M S) {post : Int → Prop} (k : post 1) : wX1_agreesWithDisks S post := by
  unfold wX1_agreesWithDisks
  have hw := vz_wbd A.O
  have hd := A.I.dk
  refine p_disksInState A.I r ⟨by omega, by omega⟩ (fun f hf => ⟨fun i => 0 ≤ i ∧ i ≤ M 15 0, fun i => (401 - i).toNat, ⟨by omega, by omega⟩, ?_⟩)
  rintro i ⟨i0, i1⟩
  unfold lX1_agreesWithDisks_9
  rw [r.wr]
  refine ⟨⟨by omega, by omega⟩, ⟨by omega, by omega⟩, fun _ => k, fun h => ⟨⟨i0, by omega⟩, fun v2 hv => ?_⟩⟩
  rw [r.od i i0 h] at hv
  have ho := A.O.od i i0 h
  rw [← hv] at ho
  have hn := A.I.mn v2 ho.1 ho.2.1
  refine p_disksWithCopy A.I r ho.1 ho.2.1 (fun m hm => ⟨⟨ho.1, ho.2.1⟩, p_countInSlots A.I r ho.1 ho.2.1 ?_⟩)
  have e1 : vz_cnt (fun s => M 3 s = v2) (32 * M 7 0).toNat = M 10 v2 := by
    have := vz_cnt_img (c := fun k => M 8 (3 * v2 + k)) (N := (32 * M 7 0).toNat) (m := (M 10 v2).toNat) (fun k a b => by
      have hc := A.I.cp v2 k ho.1 ho.2.1 a (by omega)
      show 0 ≤ M 8 (3 * v2 + k) ∧ M 8 (3 * v2 + k) < _
      omega) (fun k k' a b c => by
      have := A.I.ds v2 k k' ho.1 ho.2.1 a b (by omega)
      show M 8 (3 * v2 + k) ≠ M 8 (3 * v2 + k')
      intro e; rw [e] at this; exact this rfl)
    rw [← vz_cnt_ext (p := fun s => ∃ k : Int, 0 ≤ k ∧ k < ((M 10 v2).toNat : Int) ∧ M 8 (3 * v2 + k) = s) (fun s a b => ?_), this]
    · omega
    · constructor
      · rintro ⟨k, k0, k1, k2⟩
        rw [← k2]; exact (A.I.cp v2 k ho.1 ho.2.1 k0 (by omega)).2.2.2.1
      · intro e
        rcases A.I.hd s a (by omega) with z | ⟨z0, z1, k, k0, k1, k2⟩
        · omega
        · rw [e] at k1 k2; exact ⟨k, k0, by omega, k2⟩
  have e2 : vz_cnt (fun d => vz_has M d v2) 8 = M 10 v2 := by
    have := vz_cnt_img (c := fun k => M 8 (3 * v2 + k) / 32) (N := 8) (m := (M 10 v2).toNat) (fun k a b => by
      have hc := A.I.cp v2 k ho.1 ho.2.1 a (by omega)
      show 0 ≤ M 8 (3 * v2 + k) / 32 ∧ M 8 (3 * v2 + k) / 32 < ((8 : Nat) : Int)
      omega) (fun k k' a b c => A.I.ds v2 k k' ho.1 ho.2.1 a b (by omega))
    rw [← vz_cnt_ext (p := fun s => ∃ k : Int, 0 ≤ k ∧ k < ((M 10 v2).toNat : Int) ∧ M 8 (3 * v2 + k) / 32 = s) (fun s a b => ⟨fun ⟨k, k0, k1, k2⟩ => ⟨k, k0, by omega, k2⟩, fun ⟨k, k0, k1, k2⟩ => ⟨k, k0, by omega, k2⟩⟩), this]
    omega
  rw [e1, r.mn v2 ho.1 ho.2.1]
  have ha := hm.and hf
  have har := ha.rg
  refine ⟨⟨by omega, by omega⟩, ⟨by omega, by omega⟩, fun z => absurd rfl z, fun _ => hm.cnt ?_⟩
  rw [e2]
  refine ⟨⟨ho.1, ho.2.1⟩, ⟨by omega, by omega⟩, ⟨by omega, by omega⟩, fun z => absurd rfl z, fun _ => ⟨⟨by omega, by omega⟩, fun _ => ⟨⟨by omega, by omega⟩, by first | omega | (dsimp only; omega)⟩, fun z => ?_⟩⟩
  exfalso
  refine z (ha.z.mpr (fun d d0 d1 q => ?_))
  obtain ⟨⟨kk, k0, k1, k2⟩, _, q2⟩ := q
  have hc := A.I.cp v2 kk ho.1 ho.2.1 k0 k1
  rw [k2] at hc
  exact hc.2.2.2.2 q2
theorem okc_37 : vs_okc_37 vZ := by
  intro V S T K O M B LN i p1 p2 p3 h1 h2 h3 Z
  obtain ⟨Y, L⟩ := Z
  have Y0 := vY_0 Y 0
  unfold wcase_37 wX2_isConsistent wX3_isConsistent
  refine p_agrees Y.A Y.r ⟨Or.inr rfl, fun S1 e1 => ?_⟩
  subst e1
  exact w_eq rfl vR1 ⟨Y0, L⟩
end VZI
