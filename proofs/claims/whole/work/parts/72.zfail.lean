/-! pure part: openRebuilds; a disk fails -/
section VZM
variable {M S K V T O : vs_St}
theorem vY_ag (Y : vY M V S K) {M' : vs_St} (h : vz_ag M M') : vY M' V S K ∧ vz_waitA M' = vz_waitA M ∧ M' 0 = M 0 := by
  have e (c : Nat) (h3 : c ≠ 3) (h5 : c ≠ 5) (h8 : c ≠ 8) (h10 : c ≠ 10) (h4 : c ≠ 4) (h6 : c ≠ 6) (h9 : c ≠ 9) (h11 : c ≠ 11) : M' c = M c := h.1 c h3 h5 h8 h10 h4 h6 h9 h11
  have f16 := e 16 (by decide) (by decide) (by decide) (by decide) (by decide) (by decide) (by decide) (by decide)
  have f17 := e 17 (by decide) (by decide) (by decide) (by decide) (by decide) (by decide) (by decide) (by decide)
  have f19 := e 19 (by decide) (by decide) (by decide) (by decide) (by decide) (by decide) (by decide) (by decide)
  have f20 := e 20 (by decide) (by decide) (by decide) (by decide) (by decide) (by decide) (by decide) (by decide)
  have f23 := e 23 (by decide) (by decide) (by decide) (by decide) (by decide) (by decide) (by decide) (by decide)
  have f24 := e 24 (by decide) (by decide) (by decide) (by decide) (by decide) (by decide) (by decide) (by decide)
  have f26 := e 26 (by decide) (by decide) (by decide) (by decide) (by decide) (by decide) (by decide) (by decide)
  have f27 := e 27 (by decide) (by decide) (by decide) (by decide) (by decide) (by decide) (by decide) (by decide)
  have f28 := e 28 (by decide) (by decide) (by decide) (by decide) (by decide) (by decide) (by decide) (by decide)
  have f29 := e 29 (by decide) (by decide) (by decide) (by decide) (by decide) (by decide) (by decide) (by decide)
  have f30 := e 30 (by decide) (by decide) (by decide) (by decide) (by decide) (by decide) (by decide) (by decide)
  have f31 := e 31 (by decide) (by decide) (by decide) (by decide) (by decide) (by decide) (by decide) (by decide)
  refine ⟨⟨⟨vI_ag Y.A.I h, vO_ag h Y.A.O, vM_ag h Y.A.V, ?_, ?_, ?_⟩, ?_, vS_ag Y.A.I h Y.r, vK_kq Y.k (fun c hc => ?_), ?_⟩, ?_, e 0 (by decide) (by decide) (by decide) (by decide) (by decide) (by decide) (by decide) (by decide)⟩
  · unfold vQ; rw [f27, f28, f23, f24, f26]; exact Y.A.Q
  · rw [f27, f16]; exact Y.A.T
  · rw [f17]; exact Y.A.P
  · unfold vC; rw [f29, f30, f31, f19, f20]; exact Y.C
  · have n (k : Nat) (hk : vz_ck k = false) : c ≠ k := by
      intro e; subst e; rw [hc] at hk; exact nomatch hk
    exact e c (n 3 rfl) (n 5 rfl) (n 8 rfl) (n 10 rfl) (n 4 rfl) (n 6 rfl) (n 9 rfl) (n 11 rfl)
  · unfold vV; rw [f29, f30, f31]; exact Y.v
  · unfold vz_waitA; rw [f26, f28]
def vz_pt (S T : vs_St) : Prop := T 0 0 = S 0 0 ∧ T 10 0 = S 10 0 ∧ (∀ i : Int, 0 ≤ i → i < 8 → T 1 i = S 1 i ∧ T 2 i = S 2 i ∧ T 3 i = S 3 i) ∧ (∀ i : Int, 0 ≤ i → i < 256 → T 4 i = S 4 i ∧ T 5 i = S 5 i) ∧ (∀ i : Int, 0 ≤ i → i < 4 → T 6 i = S 6 i) ∧ (∀ i : Int, 0 ≤ i → i < 400 → T 7 i = S 7 i ∧ T 8 i = S 8 i ∧ T 11 i = S 11 i) ∧ (∀ i : Int, 0 ≤ i → i < 1200 → T 9 i = S 9 i)
theorem vS_pt (I : vI M) (O : vO M) (r : vS M S) {T : vs_St} (h : vz_pt S T) : vS M T := by
  have hd := I.dk
  have hw := vz_wbd O
  obtain ⟨p0, p10, p1, p4, p6, p7, p9⟩ := h
  refine ⟨p0.trans r.dk, fun d d0 d1 => ?_, fun d d0 d1 => ?_, fun d d0 d1 => ?_, fun d d0 d1 => ?_, fun d d0 d1 => ?_, fun s s0 s1 => ?_, fun s s0 s1 => ?_, fun s s0 s1 => ?_, fun s s0 s1 => ?_, fun t t0 t1 => ?_, fun b b0 b1 => ?_, fun b b0 b1 => ?_, fun b k b0 b1 k0 k1 => ?_, p10.trans r.wr, fun i i0 i1 => ?_⟩
  · rw [(p1 d d0 (by omega)).1]; exact r.sz d d0 d1
  · rw [(p1 d d0 (by omega)).2.1]; exact r.us d d0 d1
  · rw [(p1 d (by omega) d1).2.1]; exact r.us0 d d0 d1
  · rw [(p1 d d0 (by omega)).2.2]; exact r.stt d d0 d1
  · rw [(p1 d (by omega) d1).2.2]; exact r.st0 d d0 d1
  · rw [(p4 s s0 (by omega)).1]; exact r.hd s s0 s1
  · rw [(p4 s (by omega) s1).1]; exact r.hd0 s s0 s1
  · rw [(p4 s s0 (by omega)).2]; exact r.rt s s0 s1
  · rw [(p4 s (by omega) s1).2]; exact r.rt0 s s0 s1
  · rw [p6 t t0 t1]; exact r.wn t t0 t1
  · rw [(p7 b b0 b1).1]; exact r.vl b b0 b1
  · rw [(p7 b b0 b1).2.1]; exact r.mn b b0 b1
  · have hm := I.mn b b0 b1
    rw [p9 _ (by omega) (by omega)]; exact r.cp b k b0 b1 k0 k1
  · rw [(p7 i i0 (by omega)).2.2]; exact r.od i i0 i1
theorem p_copyFrom (A : vA M) (r : vS M S) {post : vs_St → Prop} (k : ∀ T1, vS M T1 → post T1) : wX1_copyFrom T S post := by
  have hd := A.I.dk
  have b5 : ∀ s : Int, 0 ≤ s → s < 256 → S 5 s = 0 ∨ S 5 s = 1 := by
    intro s s0 s1
    by_cases q : s < 32 * M 7 0
    · rw [r.rt s s0 q]
      split
      · exact Or.inl rfl
      · exact A.I.rt s s0 s1
    · rw [r.rt0 s (by omega) s1]; exact Or.inl rfl
  have b3 : ∀ d : Int, 0 ≤ d → d < 8 → 0 ≤ S 3 d ∧ S 3 d < 65536 := by
    intro d d0 d1
    by_cases q : d < M 7 0
    · rw [r.stt d d0 q]
      have := A.I.stt d d0 q
      omega
    · rw [r.st0 d (by omega) d1]; omega
  unfold wX1_copyFrom
  intro S1 e1 S2 e2
  refine ⟨fun i T' => 0 ≤ i ∧ i ≤ 8 ∧ T' 0 0 = S 0 0 ∧ T' 10 0 = S 10 0 ∧ ∀ d : Int, 0 ≤ d → d < i → T' 1 d = S 1 d ∧ T' 2 d = S 2 d ∧ T' 3 d = S 3 d, fun i _ => (9 - i).toNat, ⟨by omega, by omega, by subst e2; subst e1; rfl, by subst e2; subst e1; rfl, fun d a b => by omega⟩, ?_⟩
  rintro i T' ⟨i0, i1, t0, t10, td⟩
  unfold lX1_copyFrom_18
  refine ⟨⟨by omega, by omega⟩, fun h => ?_, fun h => ⟨⟨i0, h⟩, ⟨i0, h⟩, fun S10 e10 => ⟨⟨i0, h⟩, ⟨i0, h⟩, fun S11 e11 => ⟨⟨i0, h⟩, ⟨i0, h⟩, b3 i i0 h, fun S12 e12 => ⟨⟨by omega, by omega, ?_, ?_, fun d a b => ?_⟩, by first | omega | (dsimp only; omega)⟩⟩⟩⟩⟩
  · refine ⟨fun j T2 => 0 ≤ j ∧ j ≤ 256 ∧ T2 0 0 = S 0 0 ∧ T2 10 0 = S 10 0 ∧ (∀ d : Int, 0 ≤ d → d < 8 → T2 1 d = S 1 d ∧ T2 2 d = S 2 d ∧ T2 3 d = S 3 d) ∧ ∀ s : Int, 0 ≤ s → s < j → T2 5 s = S 5 s, fun j _ => (257 - j).toNat, ⟨by omega, by omega, t0, t10, fun d a b => td d a (by omega), fun s a b => by omega⟩, ?_⟩
    rintro j T2 ⟨j0, j1, u0, u10, ud, u5⟩
    unfold lX1_copyFrom_68
    refine ⟨⟨by omega, by omega⟩, fun q S3 e3 S4 e4 S5 e5 S6 e6 S7 e7 S8 e8 => ?_, fun q => ⟨⟨j0, q⟩, ⟨j0, q⟩, b5 j j0 q, fun S9 e9 => ⟨⟨by omega, by omega, ?_, ?_, fun d a b => ?_, fun s a b => ?_⟩, by first | omega | (dsimp only; omega)⟩⟩⟩
    · refine k _ (vS_pt A.I A.O r ?_)
      subst e8; subst e7; subst e6; subst e5; subst e4; subst e3
      refine ⟨u0, u10, ud, fun s a b => ⟨?_, u5 s a (by omega)⟩, fun t a b => ?_, fun b' a b => ⟨?_, ?_, ?_⟩, fun x a b => ?_⟩
      · show (if 0 ≤ s ∧ s < 256 then S 4 s else T2 4 s) = _; rw [if_pos ⟨a, b⟩]
      · show (if 0 ≤ t ∧ t < 4 then S 6 t else T2 6 t) = _; rw [if_pos ⟨a, b⟩]
      · show (if 0 ≤ b' ∧ b' < 400 then S 7 b' else T2 7 b') = _; rw [if_pos ⟨a, b⟩]
      · show (if 0 ≤ b' ∧ b' < 400 then S 8 b' else T2 8 b') = _; rw [if_pos ⟨a, b⟩]
      · show (if 0 ≤ b' ∧ b' < 400 then S 11 b' else T2 11 b') = _; rw [if_pos ⟨a, b⟩]
      · show (if 0 ≤ x ∧ x < 1200 then S 9 x else T2 9 x) = _; rw [if_pos ⟨a, b⟩]
    · rw [e9]; exact u0
    · rw [e9]; exact u10
    · rw [e9]; exact ud d a b
    · rw [e9]
      show (if s = j then S 5 j else T2 5 s) = _
      by_cases e : s = j
      · rw [if_pos e, e]
      · rw [if_neg e]; exact u5 s a (by omega)
  · subst e12; subst e11; subst e10; exact t0
  · subst e12; subst e11; subst e10; exact t10
  · subst e12; subst e11; subst e10
    show (if d = i then S 1 i else T' 1 d) = _ ∧ (if d = i then S 2 i else T' 2 d) = _ ∧ (if d = i then S 3 i else T' 3 d) = _
    by_cases e : d = i
    · rw [if_pos e, if_pos e, if_pos e, e]; exact ⟨rfl, rfl, rfl⟩
    · rw [if_neg e, if_neg e, if_neg e]; exact td d a (by omega)
theorem okc_34 : vs_okc_34 vZ := by
  intro V S T K O M B LN i p1 p2 p3 h1 h2 h3 Z
  obtain ⟨Y, L⟩ := Z
  have Y0 := vY_0 Y 0
  have ag := vz_ag_keeps (vs_st M 0 0 0)
  obtain ⟨YK, _, _⟩ := vY_ag Y0 ag
  unfold wcase_34 wX2_openRebuilds
  refine p_copyFrom YK.A YK.r (fun T1 r1 => p_rebuild YK.A.I YK.A.O (by omega) r1 (fun T3 r3 => ?_))
  intro S1 e1
  subst e1
  refine q_keepsAll Y0.A.I.rt ?_
  rw [vz_reb_lim YK.A.I YK.A.O (m := 1000000) (m' := 10000) (by omega) (by omega)]
  refine q_rebuilds YK.A.I YK.A.O (by omega) ?_
  obtain ⟨a, f, c, d, e⟩ := vz_reb_ok YK.A.I YK.A.O 10000
  refine q_laysBack (vz_kept6 Y0.A.I f) ?_
  obtain ⟨YL, wl, z0⟩ := vY_ag Y0 (vz_ag_lay Y0.A.I f)
  exact w_eq rfl ⟨by omega, by omega⟩ ⟨YL, L.1, by rw [wl]; exact L.2⟩
-- a disk fails
def vz_fd (M : vs_St) (d : Int) (D : Int → Prop) (M' : vs_St) : Prop :=
  (∀ c : Nat, c ≠ 3 → c ≠ 8 → c ≠ 10 → M' c = M c) ∧
  (∀ b : Int, 0 ≤ b → b < 400 → (¬ D b ∨ ¬ vz_has M d b) → M' 10 b = M 10 b ∧ ∀ k : Int, 0 ≤ k → k < M 10 b → M' 8 (3 * b + k) = M 8 (3 * b + k)) ∧
  (∀ b k0 : Int, 0 ≤ b → b < 400 → D b → 0 ≤ k0 → k0 < M 10 b → M 8 (3 * b + k0) / 32 = d → M' 10 b = M 10 b - 1 ∧ ∀ k : Int, 0 ≤ k → k < M 10 b - 1 → M' 8 (3 * b + k) = if k < k0 then M 8 (3 * b + k) else M 8 (3 * b + (k + 1))) ∧
  (∀ s : Int, 0 ≤ s → s < 32 * M 7 0 → ((s / 32 = d ∧ 0 ≤ M 3 s ∧ D (M 3 s)) → M' 3 s = -1) ∧ (¬ (s / 32 = d ∧ 0 ≤ M 3 s ∧ D (M 3 s)) → M' 3 s = M 3 s))
theorem vz_fd_0 (M : vs_St) (d : Int) : vz_fd M d (fun _ => False) M :=
  ⟨fun _ _ _ _ => rfl, fun _ _ _ _ => ⟨rfl, fun _ _ _ => rfl⟩, fun _ _ _ _ h => absurd h id, fun _ _ _ => ⟨fun h => absurd h.2.2 id, fun _ => rfl⟩⟩
/-- what stands in a slot of the disk has a copy there -/
theorem vz_at (I : vI M) {s : Int} (s0 : 0 ≤ s) (s1 : s < 32 * M 7 0) (h : 0 ≤ M 3 s) : ∃ k : Int, 0 ≤ k ∧ k < M 10 (M 3 s) ∧ M 8 (3 * M 3 s + k) = s ∧ M 3 s < 400 := by
  rcases I.hd s s0 s1 with z | ⟨_, z1, k, k0, k1, k2⟩
  · omega
  · exact ⟨k, k0, k1, k2, z1⟩
theorem vz_fd.to {d : Int} {D D' : Int → Prop} {M' : vs_St} (I : vI M) (h : vz_fd M d D M') (e : ∀ b : Int, 0 ≤ b → b < 400 → vz_has M d b → (D' b ↔ D b)) : vz_fd M d D' M' := by
  refine ⟨h.1, fun b b0 b1 q => h.2.1 b b0 b1 ?_, fun b k0 b0 b1 q a0 a1 a2 => h.2.2.1 b k0 b0 b1 ((e b b0 b1 ⟨k0, a0, a1, a2⟩).mp q) a0 a1 a2, fun s s0 s1 => ?_⟩
  · rcases Classical.em (vz_has M d b) with w | w
    · exact q.elim (fun z => Or.inl (fun y => z ((e b b0 b1 w).mpr y))) Or.inr
    · exact Or.inr w
  · have h3 := h.2.2.2 s s0 s1
    have ee : s / 32 = d → 0 ≤ M 3 s → (D' (M 3 s) ↔ D (M 3 s)) := by
      intro a b
      obtain ⟨k, k0, k1, k2, k3⟩ := vz_at I s0 s1 b
      exact e _ b k3 ⟨k, k0, k1, by rw [k2]; exact a⟩
    exact ⟨fun q => h3.1 ⟨q.1, q.2.1, (ee q.1 q.2.1).mp q.2.2⟩, fun q => h3.2 (fun z => q ⟨z.1, z.2.1, (ee z.1 z.2.1).mpr z.2.2⟩)⟩
theorem vz_uniq (I : vI M) {b k k' : Int} (b0 : 0 ≤ b) (b1 : b < 400) (k0 : 0 ≤ k) (k1 : k < M 10 b) (k0' : 0 ≤ k') (k1' : k' < M 10 b) (e : M 8 (3 * b + k) / 32 = M 8 (3 * b + k') / 32) : k = k' := by
  rcases Int.lt_trichotomy k k' with z | z | z
  · exact absurd e (I.ds b k k' b0 b1 k0 z k1')
  · exact z
  · exact absurd e.symm (I.ds b k' k b0 b1 k0' z k1)
theorem vz_fd.step {d : Int} {D : Int → Prop} {M' : vs_St} (I : vI M) (I' : vI M') (h : vz_fd M d D M') {b k0 : Int} (b0 : 0 ≤ b) (b1 : b < 400) (hD : ¬ D b) (a0 : 0 ≤ k0) (a1 : k0 < M 10 b) (a2 : M 8 (3 * b + k0) / 32 = d) : vz_fd M d (fun x => D x ∨ x = b) (vz_takes M' b k0) := by
  have hb := h.2.1 b b0 b1 (Or.inl hD)
  have hn := I.mn b b0 b1
  have ec := hb.2 k0 a0 a1
  have hc := I.cp b k0 b0 b1 a0 a1
  refine ⟨fun c h3 h8 h10 => ?_, fun b' c0 c1 q => ?_, fun b' k1 c0 c1 q e0 e1 e2 => ?_, fun s s0 s1 => ?_⟩
  · have : vz_takes M' b k0 c = M' c := by
      unfold vz_takes
      rw [vz_sh_ne _ _ _ _ _ h8, vs_st_ne _ h10, vs_st_ne _ h3]
    rw [this]; exact h.1 c h3 h8 h10
  · have ne : b' ≠ b := by
      intro e
      subst e
      rcases q with q | q
      · exact q (Or.inr rfl)
      · exact q ⟨k0, a0, a1, a2⟩
    have old := h.2.1 b' c0 c1 (q.elim (fun z => Or.inl (fun y => z (Or.inl y))) Or.inr)
    refine ⟨by rw [vz_t10, if_neg ne]; exact old.1, fun k e0 e1 => ?_⟩
    have hm := I.mn b' c0 c1
    rw [vz_t8o I' b0 b1 a0 ne e0 (by omega)]; exact old.2 k e0 e1
  · by_cases ne : b' = b
    · subst ne
      have ek : k1 = k0 := vz_uniq I c0 c1 e0 e1 a0 a1 (by rw [e2, a2])
      subst ek
      refine ⟨by rw [vz_t10, if_pos rfl, hb.1], fun k f0 f1 => ?_⟩
      rw [vz_t8b M' (by rw [hb.1]; exact f1)]
      split
      · exact hb.2 k f0 (by omega)
      · exact hb.2 (k + 1) (by omega) (by omega)
    · have hD' : D b' := q.elim id (fun z => absurd z ne)
      have old := h.2.2.1 b' k1 c0 c1 hD' e0 e1 e2
      have hm := I.mn b' c0 c1
      refine ⟨by rw [vz_t10, if_neg ne]; exact old.1, fun k f0 f1 => ?_⟩
      rw [vz_t8o I' b0 b1 a0 ne f0 (by omega)]; exact old.2 k f0 f1
  · have h3 := h.2.2.2 s s0 s1
    rw [vz_t3, ec]
    constructor
    · rintro ⟨f1, f2, f3⟩
      by_cases e : s = M 8 (3 * b + k0)
      · rw [if_pos e]
      · rw [if_neg e]
        rcases f3 with f3 | f3
        · exact h3.1 ⟨f1, f2, f3⟩
        · exfalso
          obtain ⟨k, e0, e1, e2, _⟩ := vz_at I s0 s1 f2
          rw [f3] at e1 e2
          have : k = k0 := vz_uniq I b0 b1 e0 e1 a0 a1 (by rw [e2, a2]; exact f1)
          rw [this] at e2
          exact e e2.symm
    · intro q
      have ne : ¬ s = M 8 (3 * b + k0) := by
        intro e
        refine q ⟨by rw [e]; exact a2, ?_, Or.inr ?_⟩
        · rw [e, hc.2.2.2.1]; exact b0
        · rw [e]; exact hc.2.2.2.1
      rw [if_neg ne]
      exact h3.2 (fun z => q ⟨z.1, z.2.1, Or.inl z.2.2⟩)
/-- all copies on the disk gone: that is one state -/
theorem vz_fd.ag {d : Int} {M1 M2 : vs_St} (I : vI M) (h1 : vz_fd M d (fun _ => True) M1) (h2 : vz_fd M d (fun _ => True) M2) (I1 : vI M1) : vz_ag M1 M2 := by
  have e7 := h1.1 7 (by decide) (by decide) (by decide)
  refine ⟨fun c h3 h5 h8 h10 h4 h6 h9 h11 => by rw [h1.1 c h3 h8 h10, h2.1 c h3 h8 h10], fun s s0 s1 => ?_, fun s s0 s1 => by rw [h1.1 5 (by decide) (by decide) (by decide), h2.1 5 (by decide) (by decide) (by decide)], fun b b0 b1 => ?_, fun b k b0 b1 k0 k1 => ?_⟩
  · rw [e7] at s1
    have g1 := h1.2.2.2 s s0 s1
    have g2 := h2.2.2.2 s s0 s1
    rcases Classical.em (s / 32 = d ∧ 0 ≤ M 3 s ∧ True) with q | q
    · rw [g1.1 q, g2.1 q]
    · rw [g1.2 q, g2.2 q]
  · rcases Classical.em (vz_has M d b) with ⟨k0, a0, a1, a2⟩ | q
    · rw [(h1.2.2.1 b k0 b0 b1 trivial a0 a1 a2).1, (h2.2.2.1 b k0 b0 b1 trivial a0 a1 a2).1]
    · rw [(h1.2.1 b b0 b1 (Or.inr q)).1, (h2.2.1 b b0 b1 (Or.inr q)).1]
  · rcases Classical.em (vz_has M d b) with ⟨k', a0, a1, a2⟩ | q
    · have g1 := h1.2.2.1 b k' b0 b1 trivial a0 a1 a2
      have g2 := h2.2.2.1 b k' b0 b1 trivial a0 a1 a2
      rw [g1.1] at k1
      rw [g1.2 k k0 k1, g2.2 k k0 k1]
    · have g1 := h1.2.1 b b0 b1 (Or.inr q)
      have g2 := h2.2.1 b b0 b1 (Or.inr q)
      rw [g1.1] at k1
      rw [g1.2 k k0 k1, g2.2 k k0 k1]
theorem p_removeCopyAt {M' : vs_St} (I : vI M') (r : vS M' S) {s : Int} (s0 : 0 ≤ s) (s1 : s < 32 * M' 7 0) (h : 0 ≤ M' 3 s) {post : vs_St → Prop} (k : ∀ k0 : Int, 0 ≤ k0 → k0 < M' 10 (M' 3 s) → M' 8 (3 * M' 3 s + k0) = s → ∀ S', vS (vz_takes M' (M' 3 s) k0) S' → post S') : wX1_removeCopyAt S s post := by
  obtain ⟨k1, a0, a1, a2, b1⟩ := vz_at I s0 s1 h
  have hd := I.dk
  have hn := I.mn _ h b1
  unfold wX1_removeCopyAt
  rw [r.hd s s0 s1]
  refine ⟨⟨s0, by omega⟩, fun v1 hv => ?_⟩
  subst hv
  refine ⟨fun j => 0 ≤ j ∧ j ≤ k1, fun j => (4 - j).toNat, ⟨by omega, by omega⟩, ?_⟩
  rintro j ⟨j0, j1⟩
  unfold lX1_removeCopyAt_9
  rw [r.mn _ h b1]
  refine ⟨⟨h, b1⟩, ⟨by omega, by omega⟩, ⟨by omega, by omega⟩, fun q => by omega, fun q => p_addressOf I r h b1 j0 q ?_⟩
  have hc := I.cp _ j h b1 j0 q
  refine ⟨⟨by omega, by omega⟩, ⟨by omega, by omega⟩, fun w => ⟨⟨by omega, ?_⟩, by first | omega | (dsimp only; omega)⟩, fun w => p_removeCopy I r h b1 j0 q (fun S3 h3 => k j j0 q w S3 h3)⟩
  have : j ≠ k1 := by intro e; rw [e] at w; exact w a2
  omega
theorem p_breakDisk (A : vA M) (r : vS M S) {d : Int} (d0 : 0 ≤ d) (d1 : d < M 7 0) {post : Int → vs_St → Prop} (k : ∀ S', (∀ M2, vI M2 → vz_fd M d (fun _ => True) M2 → vS M2 S') → post (vz_used M d) (vs_st S' 3 d 102)) : wX1_breakDisk S d post := by
  unfold wX1_breakDisk
  have I := A.I
  have hd := I.dk
  have hs := I.sz d d0 d1
  refine ⟨⟨d0, by omega⟩, fun v1 e1 v2 e2 => ?_⟩
  rw [r.us d d0 d1] at e1
  subst e1; subst e2
  refine ⟨fun a S' => d * 32 ≤ a ∧ a ≤ d * 32 + M 1 d ∧ ∃ M', vI M' ∧ vS M' S' ∧ vz_fd M d (fun b => ∃ k0 : Int, 0 ≤ k0 ∧ k0 < M 10 b ∧ M 8 (3 * b + k0) / 32 = d ∧ M 8 (3 * b + k0) < a) M', fun a _ => (400 - a).toNat, ⟨by omega, by omega, M, I, r, (vz_fd_0 M d).to I (fun b b0 b1 _ => ⟨fun ⟨k0, _, _, c2, c3⟩ => by omega, fun z => absurd z id⟩)⟩, ?_⟩
  rintro a S' ⟨a0, a1, M', I', r', h⟩
  have e7 := h.1 7 (by decide) (by decide) (by decide)
  have e1' := h.1 1 (by decide) (by decide) (by decide)
  unfold lX1_breakDisk_15
  rw [r'.sz d d0 (by rw [e7]; exact d1), e1']
  refine ⟨⟨d0, by omega⟩, ⟨by omega, by omega⟩, ⟨by omega, by omega⟩, fun q => ⟨⟨d0, by omega⟩, fun S3 e3 => ?_⟩, fun q => ?_⟩
  · rw [e3]
    have hall : vz_fd M d (fun _ => True) M' := h.to I (fun b b0 b1 ⟨k0, c0, c1, c2⟩ => ⟨fun _ => ⟨k0, c0, c1, c2, by
      have hc := I.cp b k0 b0 b1 c0 c1
      rw [c2] at hc
      omega⟩, fun _ => trivial⟩)
    exact k S' (fun M2 I2 h2 => vS_ag I' (hall.ag I h2 I') r')
  · have s0 : 0 ≤ a := by omega
    have s1 : a < 32 * M 7 0 := by omega
    have s1' : a < 32 * M' 7 0 := by rw [e7]; exact s1
    have hh := h.2.2.2 a s0 s1
    have hR := vz_M3R I' s0 s1'
    rw [r'.hd a s0 s1']
    refine ⟨⟨s0, by omega⟩, hR, fun w => ⟨⟨by omega, by omega, M', I', r', h.to I (fun b b0 b1 hb => ?_)⟩, by first | omega | (dsimp only; omega)⟩, fun w => ?_⟩
    · constructor
      · rintro ⟨k0, c0, c1, c2, c3⟩
        refine ⟨k0, c0, c1, c2, ?_⟩
        by_cases e : M 8 (3 * b + k0) = a
        · exfalso
          have hc := I.cp b k0 b0 b1 c0 c1
          rw [e] at hc c2
          have := hh.2 (fun z => by
            obtain ⟨k', f0, f1, f2, f3⟩ := z.2.2
            rw [hc.2.2.2.1] at f1 f2 f3
            have : k' = k0 := vz_uniq I b0 b1 f0 f1 c0 c1 (by rw [f2, e, c2])
            rw [this] at f3; omega)
          rw [hc.2.2.2.1, w] at this
          omega
        · omega
      · rintro ⟨k0, c0, c1, c2, c3⟩
        exact ⟨k0, c0, c1, c2, by omega⟩
    · have hpos : 0 ≤ M' 3 a := by
        rcases I'.hd a s0 s1' with z | ⟨z, _⟩
        · exact absurd z w
        · exact z
      -- it is what M holds there, and not done yet
      have hM : ¬ (a / 32 = d ∧ 0 ≤ M 3 a ∧ ∃ k0 : Int, 0 ≤ k0 ∧ k0 < M 10 (M 3 a) ∧ M 8 (3 * M 3 a + k0) / 32 = d ∧ M 8 (3 * M 3 a + k0) < a) := by
        intro z
        have := hh.1 z
        omega
      have eM : M' 3 a = M 3 a := hh.2 hM
      refine p_removeCopyAt I' r' s0 s1' hpos (fun k0 c0 c1 c2 S4 h4 => ⟨⟨by omega, by omega, vz_takes M' (M' 3 a) k0, vI_takes I' hpos ?_ c0 c1, h4, ?_⟩, by first | omega | (dsimp only; omega)⟩)
      · rcases I'.hd a s0 s1' with z | ⟨_, z, _⟩
        · omega
        · exact z
      · rw [eM] at c1 c2 hpos ⊢
        obtain ⟨k1, g0, g1, g2, g3⟩ := vz_at I s0 s1 hpos
        have nD : ¬ (∃ k0 : Int, 0 ≤ k0 ∧ k0 < M 10 (M 3 a) ∧ M 8 (3 * M 3 a + k0) / 32 = d ∧ M 8 (3 * M 3 a + k0) < a) := fun z => hM ⟨by omega, hpos, z⟩
        have same := h.2.1 (M 3 a) hpos g3 (Or.inl nD)
        rw [same.1] at c1
        rw [same.2 k0 c0 c1] at c2
        have ek : k0 = k1 := vz_uniq I hpos g3 c0 c1 g0 g1 (by rw [c2, g2])
        refine (h.step I I' hpos g3 nD c0 c1 (by rw [c2]; omega)).to I (fun b b0 b1 hb => ?_)
        constructor
        · rintro ⟨k', f0, f1, f2, f3⟩
          by_cases e : M 8 (3 * b + k') = a
          · right
            have hc := I.cp b k' b0 b1 f0 f1
            rw [e] at hc
            exact hc.2.2.2.1.symm
          · exact Or.inl ⟨k', f0, f1, f2, by omega⟩
        · rintro (⟨k', f0, f1, f2, f3⟩ | e)
          · exact ⟨k', f0, f1, f2, by omega⟩
          · subst e
            exact ⟨k0, c0, c1, by rw [c2]; omega, by rw [c2]; omega⟩
/-- the reference's loops -/
theorem q_failLoop (A : vA M) {d x2 : Int} (d0 : 0 ≤ d) (d1 : d < M 7 0) (hx : vs_R x2) {post : Int → vs_St → Prop} (k : ∀ M2, vI M2 → vz_fd M d (fun _ => True) M2 → post x2 (vs_st M2 2 d 102)) :
    ∃ (J35 : Int → vs_St → Prop) (μ35 : Int → vs_St → Nat), J35 0 M ∧ ∀ (y35_0 : Int) (y35_1 : vs_St), J35 y35_0 y35_1 → lX3_fail_35 d x2 (fun z35_0 z35_1 => J35 z35_0 z35_1 ∧ μ35 z35_0 z35_1 < μ35 y35_0 y35_1) post y35_0 y35_1 := by
  have I := A.I
  have hd := I.dk
  have hw := vz_wbd A.O
  refine ⟨fun n M' => 0 ≤ n ∧ n ≤ M 15 0 ∧ vI M' ∧ vz_fd M d (fun b => ∃ i : Int, 0 ≤ i ∧ i < n ∧ M 13 i = b) M', fun n _ => (401 - n).toNat, ⟨by omega, by omega, I, (vz_fd_0 M d).to I (fun b _ _ _ => ⟨fun ⟨i, _, _, _⟩ => by omega, fun z => absurd z id⟩)⟩, ?_⟩
  rintro n M' ⟨n0, n1, I', h⟩
  have e15 := h.1 15 (by decide) (by decide) (by decide)
  have e13 := h.1 13 (by decide) (by decide) (by decide)
  unfold lX3_fail_35
  rw [e15, e13]
  refine ⟨⟨by omega, by omega⟩, ⟨by omega, by omega⟩, fun q => ⟨⟨d0, by omega⟩, fun S4 e4 => ?_⟩, fun q => ⟨⟨n0, by omega⟩, fun v5 e5 => ?_⟩⟩
  · rw [e4]
    refine k M' I' (h.to I (fun b b0 b1 ⟨k0, c0, c1, _⟩ => ⟨fun _ => ?_, fun _ => trivial⟩))
    obtain ⟨i, i0, i1, i2⟩ := A.O.on b b0 b1 (A.V b b0 b1 (by omega))
    exact ⟨i, i0, by omega, i2⟩
  · have ho := A.O.od n n0 q
    rw [← e5] at ho
    have hn := I.mn v5 ho.1 ho.2.1
    have hn' := I'.mn v5 ho.1 ho.2.1
    have nD : ¬ ∃ i : Int, 0 ≤ i ∧ i < n ∧ M 13 i = v5 := by
      rintro ⟨i, i0, i1, i2⟩
      exact A.O.oi i n i0 i1 q (by rw [i2, e5])
    have same := h.2.1 v5 ho.1 ho.2.1 (Or.inl nD)
    rw [same.1]
    refine ⟨⟨ho.1, ho.2.1⟩, fun v6 e6 => ⟨fun x M2 => -1 ≤ x ∧ x ≤ 2 ∧ vI M2 ∧ ((vz_fd M d (fun b => ∃ i : Int, 0 ≤ i ∧ i < n ∧ M 13 i = b) M2 ∧ x < M 10 v5 ∧ ∀ k : Int, x < k → k < M 10 v5 → M 8 (3 * v5 + k) / 32 ≠ d) ∨ (vz_fd M d (fun b => (∃ i : Int, 0 ≤ i ∧ i < n ∧ M 13 i = b) ∨ b = v5) M2 ∧ ∃ k0 : Int, x < k0 ∧ 0 ≤ k0 ∧ k0 < M 10 v5 ∧ M 8 (3 * v5 + k0) / 32 = d)), fun x _ => (x + 1).toNat, ⟨by omega, by omega, I', Or.inl ⟨h, by omega, fun k _ _ => by omega⟩⟩, ?_⟩⟩
    rintro x M2 ⟨x0, x1, I2, hh⟩
    have hDD : ∀ b : Int, ((∃ i : Int, 0 ≤ i ∧ i < n + 1 ∧ M 13 i = b) ↔ (∃ i : Int, 0 ≤ i ∧ i < n ∧ M 13 i = b) ∨ b = v5) := by
      intro b
      constructor
      · rintro ⟨i, i0, i1, i2⟩
        by_cases e : i = n
        · subst e; exact Or.inr (by rw [e5]; exact i2.symm)
        · exact Or.inl ⟨i, i0, by omega, i2⟩
      · rintro (⟨i, i0, i1, i2⟩ | e)
        · exact ⟨i, i0, by omega, i2⟩
        · exact ⟨n, n0, by omega, by rw [e, e5]⟩
    unfold lX3_fail_62
    refine ⟨⟨by omega, by omega⟩, fun w => ⟨⟨by omega, by omega, I2, ?_⟩, by first | omega | (dsimp only; omega)⟩, fun w => ?_⟩
    · rcases hh with ⟨g, _, g2⟩ | ⟨g, _⟩
      · refine g.to I (fun b b0 b1 ⟨k0, c0, c1, c2⟩ => (hDD b).trans ⟨fun z => z.elim id (fun e => ?_), Or.inl⟩)
        subst e
        exact absurd c2 (g2 k0 (by omega) c1)
      · exact g.to I (fun b _ _ _ => hDD b)
    · rcases hh with ⟨g, g1, g2⟩ | ⟨g, k0, c0, c1, c2, c3⟩
      · have sm := g.2.1 v5 ho.1 ho.2.1 (Or.inl nD)
        have ec := sm.2 x w g1
        have hc := I.cp v5 x ho.1 ho.2.1 w g1
        rw [ec]
        refine ⟨⟨ho.1, ho.2.1⟩, ⟨w, by omega⟩, ⟨by omega, by omega⟩, ⟨by omega, by omega⟩, ⟨by omega, by omega⟩, fun y => ⟨⟨by omega, by omega, I2, Or.inl ⟨g, by omega, fun k k0 k1 => ?_⟩⟩, by first | omega | (dsimp only; omega)⟩, fun y => q_takes I2 ho.1 ho.2.1 w (by rw [sm.1]; exact g1) ⟨⟨by omega, by omega, vI_takes I2 ho.1 ho.2.1 w (by rw [sm.1]; exact g1), Or.inr ⟨g.step I I2 ho.1 ho.2.1 nD w g1 y, x, by omega, w, g1, y⟩⟩, by first | omega | (dsimp only; omega)⟩⟩
        by_cases e : k = x
        · subst e; exact y
        · exact g2 k (by omega) k1
      · have sm := g.2.2.1 v5 k0 ho.1 ho.2.1 (Or.inr rfl) c1 c2 c3
        have ec := sm.2 x w (by omega)
        rw [if_pos c0] at ec
        have hc := I.cp v5 x ho.1 ho.2.1 w (by omega)
        have ne : M 8 (3 * v5 + x) / 32 ≠ d := fun y => by
          have := vz_uniq I ho.1 ho.2.1 w (by omega) c1 c2 (by rw [y, c3])
          omega
        rw [ec]
        exact ⟨⟨ho.1, ho.2.1⟩, ⟨w, by omega⟩, ⟨by omega, by omega⟩, ⟨by omega, by omega⟩, ⟨by omega, by omega⟩, fun y => ⟨⟨by omega, by omega, I2, Or.inr ⟨g, k0, by omega, c1, c2, c3⟩⟩, by first | omega | (dsimp only; omega)⟩, fun y => absurd y ne⟩
theorem okc_27 : vs_okc_27 vZ := by
  intro V S T K O M B LN i p1 p2 p3 h1 h2 h3 Z
  obtain ⟨Y, L⟩ := Z
  have Y0 := vY_0 Y 0
  have Y1 := vY_0 Y 1
  have Y2 := vY_0 Y0 2
  have hdk := Y.A.I.dk
  unfold wcase_27 wL_fail wX2_fail wX3_fail
  refine p_checkDisk Y h1 (fun d0 d1 => ?_) (fun hn => ⟨fun _ => q_isNoDisk Y.A.I.dk h1 (fun z0 z1 => absurd ⟨z0, z1⟩ hn) (fun _ => ⟨vR1, fun z => by omega, fun _ => w_ex (vz_00 M 1) (by omega) vR1 ⟨Y1, L⟩⟩), fun z => by omega, Or.inl rfl⟩)
  have hs := Y.A.I.stt p1 d0 d1
  have hz := Y.A.I.sz p1 d0 d1
  have hu := vz_used_bd Y.A.I d0 d1
  refine p_checkNotFailed Y d0 d1 (fun q => ?_) (fun q => ⟨fun z => by omega, fun _ => ?_, Or.inr rfl⟩)
  · refine p_breakDisk Y0.A Y0.r d0 d1 (fun S' hS => ?_)
    have eu : vz_used (vs_st M 0 0 0) p1 = vz_used M p1 := rfl
    rw [eu]
    refine ⟨⟨by omega, by omega⟩, fun O2 e2 => q_isNoDisk Y.A.I.dk h1 (fun _ _ => ⟨vs_R0, fun _ => ⟨⟨d0, by omega⟩, ⟨by show _ ≤ M 2 p1; omega, by show M 2 p1 ≤ _; omega⟩, fun _ => q_usedOf Y0.A.I d0 d1 ?_, fun z => absurd z q⟩, fun z => absurd rfl z⟩) (fun z => absurd ⟨d0, d1⟩ z)⟩
    rw [eu]
    refine q_failLoop Y0.A d0 d1 ⟨by omega, by omega⟩ (fun M2 I2 h2 => ?_)
    have f (c : Nat) (a3 : c ≠ 3) (a8 : c ≠ 8) (a10 : c ≠ 10) : M2 c = vs_st M 0 0 0 c := h2.1 c a3 a8 a10
    have r2 := hS M2 I2 h2
    -- no copy stands on the disk any more
    have none : ∀ b k : Int, 0 ≤ b → b < 400 → 0 ≤ k → k < M2 10 b → M2 8 (3 * b + k) / 32 ≠ p1 := by
      intro b k b0 b1 k0 k1
      rcases Classical.em (vz_has (vs_st M 0 0 0) p1 b) with ⟨k', c0, c1, c2⟩ | w
      · have g := h2.2.2.1 b k' b0 b1 trivial c0 c1 c2
        rw [g.1] at k1
        rw [g.2 k k0 k1]
        split
        · intro e
          have := vz_uniq Y0.A.I b0 b1 k0 (by omega) c0 c1 (by rw [e, c2])
          omega
        · intro e
          have := vz_uniq Y0.A.I b0 b1 (by omega : 0 ≤ k + 1) (by omega) c0 c1 (by rw [e, c2])
          omega
      · have g := h2.2.1 b b0 b1 (Or.inr w)
        rw [g.1] at k1
        rw [g.2 k k0 k1]
        intro e
        exact w ⟨k, k0, k1, e⟩
    refine w_ok (by show M2 0 0 = 0; rw [f 0 (by decide) (by decide) (by decide)]; exact vz_00 M 0) ⟨by omega, by omega⟩ (by rw [e2, vz_00]) ⟨⟨⟨vI_st2 I2 (by omega) (fun _ => none), ?_, ?_, ?_, ?_, ?_⟩, ?_, vS_st2 r2 (by rw [f 7 (by decide) (by decide) (by decide)]; exact d1), ?_, ?_⟩, L.1, ?_⟩
    · exact vO_eq Y0.A.O (f 12 (by decide) (by decide) (by decide)) (f 13 (by decide) (by decide) (by decide)) (f 14 (by decide) (by decide) (by decide)) (f 15 (by decide) (by decide) (by decide)) (f 16 (by decide) (by decide) (by decide))
    · intro b b0 b1 hp
      have hp : 0 < M2 10 b := hp
      show M2 14 b ≠ 0
      rw [f 14 (by decide) (by decide) (by decide)]
      refine Y.A.V b b0 b1 ?_
      rcases Classical.em (vz_has (vs_st M 0 0 0) p1 b) with ⟨k', c0, c1, c2⟩ | w
      · have c1 : k' < M 10 b := c1
        omega
      · have g : M2 10 b = M 10 b := (h2.2.1 b b0 b1 (Or.inr w)).1
        omega
    · show vQ M2
      unfold vQ
      rw [f 27 (by decide) (by decide) (by decide), f 28 (by decide) (by decide) (by decide), f 23 (by decide) (by decide) (by decide), f 24 (by decide) (by decide) (by decide), f 26 (by decide) (by decide) (by decide)]; exact Y0.A.Q
    · show ∀ t : Int, 0 ≤ t → t < M2 27 0 → 1 ≤ M2 16 t
      rw [f 27 (by decide) (by decide) (by decide), f 16 (by decide) (by decide) (by decide)]; exact Y0.A.T
    · show ∀ t : Int, 0 ≤ t → t < 4 → 0 ≤ M2 17 t ∧ M2 17 t ≤ 20
      rw [f 17 (by decide) (by decide) (by decide)]; exact Y0.A.P
    · show vC M2
      unfold vC
      rw [f 29 (by decide) (by decide) (by decide), f 30 (by decide) (by decide) (by decide), f 31 (by decide) (by decide) (by decide), f 19 (by decide) (by decide) (by decide), f 20 (by decide) (by decide) (by decide)]; exact Y0.C
    · refine vK_kq Y0.k (fun c hc => ?_)
      have n (k : Nat) (hk : vz_ck k = false) : c ≠ k := by
        intro e; subst e; rw [hc] at hk; exact nomatch hk
      rw [vs_st_ne _ (n 2 rfl)]
      exact f c (n 3 rfl) (n 8 rfl) (n 10 rfl)
    · show vV M2 V
      unfold vV
      rw [f 29 (by decide) (by decide) (by decide), f 30 (by decide) (by decide) (by decide), f 31 (by decide) (by decide) (by decide)]; exact Y0.v
    · show vz_waitA M2 ≤ 40
      unfold vz_waitA
      rw [f 26 (by decide) (by decide) (by decide), f 28 (by decide) (by decide) (by decide)]
      exact L.2
  · exact q_isNoDisk Y.A.I.dk h1 (fun _ _ => ⟨vs_R0, fun _ => ⟨⟨d0, by omega⟩, ⟨by show _ ≤ M 2 p1; omega, by show M 2 p1 ≤ _; omega⟩, fun z => absurd q z, fun _ => q_fails (w_ex (vz_00 _ 2) (by omega) vR2 ⟨Y2, L⟩)⟩, fun z => absurd rfl z⟩) (fun z => absurd ⟨d0, d1⟩ z)
end VZM
