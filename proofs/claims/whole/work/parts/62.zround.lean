/-! pure part: the rounds of serving: both sides -/
section VZC
variable {M S K : vs_St}
def vz_ch (c : Nat) : Bool := [3, 4, 5, 6, 8, 9, 10, 11, 12, 13, 14, 15, 18, 22, 25, 26].contains c
def vz_kp (M M' : vs_St) : Prop := ∀ c : Nat, vz_ch c = false → M' c = M c
theorem vz_kp.refl (M : vs_St) : vz_kp M M := fun _ _ => rfl
theorem vz_kp.trans {M M' M'' : vs_St} (h : vz_kp M M') (h' : vz_kp M' M'') : vz_kp M M'' := fun c a => (h' c a).trans (h c a)
theorem vz_kp_fin {X : vs_St} {r b z : Int} (hX : vz_keep M X) : vz_kp M (vz_fin X r b z) := by
  intro c h
  have n (k : Nat) (hk : vz_ch k = true) : c ≠ k := by
    intro e; subst e; rw [h] at hk; exact nomatch hk
  rw [vz_fin_c X r b z (n 25 rfl) (n 26 rfl) (n 18 rfl) (n 22 rfl)]
  exact hX c (n 3 rfl) (n 5 rfl) (n 8 rfl) (n 10 rfl) (n 4 rfl) (n 6 rfl) (n 9 rfl) (n 11 rfl) (n 12 rfl) (n 13 rfl) (n 14 rfl) (n 15 rfl)
theorem vz_srv_ok (A : vA M) {r : Int} (r0 : 0 ≤ r) (r1 : r < M 28 0) : vA (vz_srv M r) ∧ vz_kp M (vz_srv M r) := by
  have hb := A.Q.bl r r0 r1
  have ht := A.Q.tn
  have hw := A.Q.nw r r0 r1
  unfold vz_srv
  by_cases q : M 24 r < 0
  · rw [if_pos q]
    exact ⟨vA_fin A (fun _ _ _ _ _ _ _ _ _ _ _ _ _ => rfl) A.I A.O A.V (by split <;> simp), vz_kp_fin (fun _ _ _ _ _ _ _ _ _ _ _ _ _ => rfl)⟩
  · rw [if_neg q]
    obtain ⟨a, o, v, kp, _⟩ := vz_wr_ok A.I A.O A.V hb.1 (by omega : M 23 r < 400) (v := M 24 r) ⟨by omega, hw.2⟩
    exact ⟨vA_fin A kp a o v (by split <;> simp), vz_kp_fin kp⟩
noncomputable def vz_cost (M : vs_St) (t : Int) : Int := if M 24 (vz_old M t) < 0 then 1 else M 16 t
noncomputable def vz_ostep (t : Nat) (x : Int × Int × vs_St) : Int × Int × vs_St :=
  if 0 ≤ vz_old x.2.2 t ∧ vz_cost x.2.2 t ≤ x.1 then (x.1 - vz_cost x.2.2 t, 1, vz_srv x.2.2 (vz_old x.2.2 t)) else x
theorem p_markServed {r t x3 : Int} (r0 : 0 ≤ r) (r1 : r < 300) (t0 : 0 ≤ t) (t1 : t < 4) (hx : vs_R x3) {post : vs_St → Prop} (k : post (vs_st (vs_st (vs_st K 13 r (if x3 = 0 then 120 else 100)) 3 t (K 3 t + 1)) 9 0 (K 9 0 - 1))) : wX0_markServed K t r x3 post := by
  unfold wX0_markServed
  refine ⟨hx, fun q => ⟨⟨r0, r1⟩, fun S1 e1 => ⟨⟨t0, t1⟩, ⟨t0, t1⟩, fun S2 e2 S3 e3 => ?_⟩⟩, fun q => ⟨⟨r0, r1⟩, fun S1 e1 => ⟨⟨t0, t1⟩, ⟨t0, t1⟩, fun S2 e2 S3 e3 => ?_⟩⟩⟩
  · rw [if_pos q] at k; subst e1; subst e2; subst e3; exact k
  · rw [if_neg q] at k; subst e1; subst e2; subst e3; exact k
theorem p_serveOldest {V T : vs_St} (A : vA M) (r : vS M S) (k : vK M K) (D : vD M K) {t l : Int} (t0 : 0 ≤ t) (t1 : t < M 27 0) (hl : 0 ≤ l ∧ l ≤ 20) {post : Int → vs_St → vs_St → Prop}
    (k1 : 0 ≤ vz_old M t ∧ vz_cost M t ≤ l → ∀ S' K', vS (vz_srv M (vz_old M t)) S' → vK (vz_srv M (vz_old M t)) K' → vD (vz_srv M (vz_old M t)) K' → post (vz_cost M t) S' K')
    (k0 : ¬ (0 ≤ vz_old M t ∧ vz_cost M t ≤ l) → post 0 S K) : wX2_serveOldest V S T K t l post := by
  have htn := A.Q.tn
  have hrq := A.Q.rq
  have t4 : t < 4 := by omega
  have hn := k.qn t t0 t4
  have hT := A.T t t0 t1
  have hw3 := A.O.wn t t0 t4
  unfold wX2_serveOldest wX0_countWaiting
  refine ⟨⟨t0, t4⟩, ⟨t0, t4⟩, ⟨by omega, by omega⟩, fun q => ?_, fun q => ?_⟩
  · rcases vz_old_K A.Q k t0 t4 with ⟨z, _⟩ | ⟨z, eo⟩
    · omega
    have ha := k.qa t (K 3 t) t0 t4 (Int.le_refl _) z
    rw [← eo] at ha
    obtain ⟨⟨r0, r1⟩, w1, w2⟩ := ha
    have hb := A.Q.bl _ r0 r1
    have hw := A.Q.nw _ r0 r1
    have b1 : M 23 (vz_old M t) < 400 := by omega
    unfold wX0_oldestWaiting
    refine ⟨⟨t0, t4⟩, ⟨by omega, by omega⟩, ?_⟩
    rw [← eo]
    have read : M 24 (vz_old M t) < 0 → 1 ≤ l → wX2_serveRead V S T K (vz_old M t) (fun r3 K4 => wX0_markServed K4 t (vz_old M t) r3 (fun K5 => post (vz_cost M t) S K5)) := by
      intro y hc
      have ec1 : vz_cost M t = 1 := by unfold vz_cost; rw [if_pos y]
      have k1 := k1 ⟨r0, by omega⟩
      unfold vz_srv at k1
      rw [if_pos y] at k1
      unfold wX2_serveRead
      rw [k.bl _ r0 r1]
      refine ⟨⟨r0, by omega⟩, fun v1 hv => ?_⟩
      subst hv
      refine p_disksWithGood A.I r hb.1 b1 (fun m hm => ?_)
      have hr := hm.rg
      have hz := vz_hasG_z A.I hb.1 b1 hm
      have hg := vz_good_bd A.I hb.1 b1
      refine ⟨⟨by omega, by omega⟩, fun g => ⟨⟨hb.1, b1⟩, ⟨r0, by omega⟩, fun K3 e3 => p_markServed r0 (by omega) t0 t4 ⟨by omega, by omega⟩ ?_⟩, fun g => p_markServed r0 (by omega) t0 t4 ⟨by omega, by omega⟩ ?_⟩
      · have g1 : vz_good M (M 23 (vz_old M t)) ≠ 0 := fun e => g (hz.mpr e)
        rw [if_pos (by omega)] at k1
        have hpos : 0 < M 10 (M 23 (vz_old M t)) := by
          have hm := A.I.mn _ hb.1 b1
          rcases Int.lt_or_le 0 (M 10 (M 23 (vz_old M t))) with e | e
          · exact e
          · exact absurd (by unfold vz_good; rw [show M 10 (M 23 (vz_old M t)) = 0 by omega]; rfl) g1
        have h14 := A.V _ hb.1 b1 hpos
        have h12 := A.O.vl _ hb.1 b1 h14
        have e7 : S 7 (M 23 (vz_old M t)) = M 12 (M 23 (vz_old M t)) := by rw [r.vl _ hb.1 b1, if_neg h14]
        rw [if_neg (by omega)]
        have ec : ∀ c : Nat, c ≠ 12 → K3 c = K c := fun c h => by rw [e3, vs_st_ne _ h]
        have e12 : ∀ i : Int, i ≠ vz_old M t → K3 12 i = K 12 i := fun i h => by rw [e3]; show (if i = vz_old M t then _ else _) = _; rw [if_neg h]
        have er : K3 12 (vz_old M t) = M 12 (M 23 (vz_old M t)) := by rw [e3]; show (if vz_old M t = vz_old M t then _ else _) = _; rw [if_pos rfl, e7]
        refine k1 S _ ?_ (vK_fin A.Q k (fun _ _ _ _ _ _ _ _ _ _ _ _ _ => rfl) t0 t4 z eo (Or.inl rfl) e12 ec (fun y2 => by omega) (fun _ _ => ⟨er, h12⟩)) (vD_fin A.Q D (fun _ _ _ _ _ _ _ _ _ _ _ _ _ => rfl) w2 ec)
        exact r
      · have g1 : vz_good M (M 23 (vz_old M t)) = 0 := hz.mp g
        rw [if_neg (by omega)] at k1
        rw [if_pos rfl]
        refine k1 S _ ?_ (vK_fin A.Q k (fun _ _ _ _ _ _ _ _ _ _ _ _ _ => rfl) t0 t4 z eo (Or.inr rfl) (fun _ _ => rfl) (fun _ _ => rfl) (fun y2 => by omega) (fun _ y2 => by omega)) (vD_fin A.Q D (fun _ _ _ _ _ _ _ _ _ _ _ _ _ => rfl) w2 (fun _ _ => rfl))
        exact r
    have write : ¬ M 24 (vz_old M t) < 0 → M 16 t ≤ l → wX1_putValue S (K 10 (vz_old M t)) (K 12 (vz_old M t)) (fun r13 S14 => wX0_markServed K t (vz_old M t) r13 (fun K15 => post (vz_cost M t) S14 K15)) := by
      intro y hc
      have ec1 : vz_cost M t = M 16 t := by unfold vz_cost; rw [if_neg y]
      have k1 := k1 ⟨r0, by omega⟩
      unfold vz_srv at k1
      rw [if_neg y] at k1
      rw [k.bl _ r0 r1, k.vw _ r0 r1 (by omega)]
      obtain ⟨a, o, v, kp, p01⟩ := vz_wr_ok A.I A.O A.V hb.1 b1 (v := M 24 (vz_old M t)) ⟨by omega, hw.2⟩
      refine p_putValue A.I A.O A.V r hb.1 b1 (fun S' h' => p_markServed r0 (by omega) t0 t4 ⟨by omega, by omega⟩ ?_)
      refine k1 S' _ ?_ (vK_fin A.Q k kp t0 t4 z eo (by split <;> simp) (fun _ _ => rfl) (fun _ _ => rfl) (fun _ => k.vw _ r0 r1 (by omega)) (fun y2 _ => by omega)) (vD_fin A.Q D kp w2 (fun _ _ => rfl))
      exact h'
    have hiw := k.iw _ r0 r1
    dsimp only
    rw [hiw, r.wn t t0 t4]
    by_cases y : M 24 (vz_old M t) < 0
    · have ec1 : vz_cost M t = 1 := by unfold vz_cost; rw [if_pos y]
      rw [if_pos y]
      refine ⟨⟨r0, by omega⟩, ⟨by omega, by omega⟩, fun _ => ⟨⟨by omega, by omega⟩, fun c => ⟨⟨r0, by omega⟩, ⟨by omega, by omega⟩, fun _ => ?_, fun e => absurd rfl e⟩, fun c => k0 (fun e => by omega)⟩, fun e => absurd rfl e⟩
      have := read y c
      rw [ec1] at this
      exact this
    · have ec1 : vz_cost M t = M 16 t := by unfold vz_cost; rw [if_neg y]
      rw [if_neg y]
      refine ⟨⟨r0, by omega⟩, ⟨by omega, by omega⟩, fun e => by omega, fun _ => ⟨⟨t0, t4⟩, fun v9 e9 => ?_⟩⟩
      subst e9
      refine ⟨⟨by omega, by omega⟩, ⟨by omega, by omega⟩, fun c => ⟨⟨r0, by omega⟩, ⟨by omega, by omega⟩, fun e => by omega, fun _ => ⟨⟨r0, by omega⟩, ⟨r0, by omega⟩, ?_⟩⟩, fun c => k0 (fun e => by omega)⟩
      have := write y c
      rw [ec1] at this
      exact this
  · rcases vz_old_K A.Q k t0 t4 with ⟨_, e⟩ | ⟨z, _⟩
    · exact k0 (fun w => by omega)
    · omega
noncomputable def vz_inr (l : Int) (M : vs_St) (k : Nat) : Int × Int × vs_St := vz_it vz_ostep k (l, 0, M)
noncomputable def vz_rnd (x : Int × Int × vs_St) : Int × Int × vs_St := vz_inr x.1 x.2.2 (x.2.2 27 0).toNat
noncomputable def vz_rnds (l : Int) (M : vs_St) (k : Nat) : Int × Int × vs_St := vz_it (fun _ => vz_rnd) k (l, 1, M)
theorem vz_inr_ok (A : vA M) {l : Int} (hl : 0 ≤ l) : ∀ k : Nat, (k : Int) ≤ M 27 0 → vA (vz_inr l M k).2.2 ∧ vz_kp M (vz_inr l M k).2.2 ∧ 0 ≤ (vz_inr l M k).1 ∧ (((vz_inr l M k).2.1 = 0 ∧ (vz_inr l M k).1 = l ∧ (vz_inr l M k).2.2 = M) ∨ ((vz_inr l M k).2.1 = 1 ∧ (vz_inr l M k).1 < l))
  | 0, _ => ⟨A, vz_kp.refl M, hl, Or.inl ⟨rfl, rfl, rfl⟩⟩
  | k + 1, hk => by
    obtain ⟨a, f, c, d⟩ := vz_inr_ok A hl k (by omega)
    show vA (vz_ostep k (vz_inr l M k)).2.2 ∧ vz_kp M (vz_ostep k (vz_inr l M k)).2.2 ∧ 0 ≤ (vz_ostep k (vz_inr l M k)).1 ∧ (((vz_ostep k (vz_inr l M k)).2.1 = 0 ∧ (vz_ostep k (vz_inr l M k)).1 = l ∧ (vz_ostep k (vz_inr l M k)).2.2 = M) ∨ ((vz_ostep k (vz_inr l M k)).2.1 = 1 ∧ (vz_ostep k (vz_inr l M k)).1 < l))
    unfold vz_ostep
    by_cases q : 0 ≤ vz_old (vz_inr l M k).2.2 k ∧ vz_cost (vz_inr l M k).2.2 k ≤ (vz_inr l M k).1
    · rw [if_pos q]
      have e27 := f 27 rfl
      have hT := a.T k (by omega) (by rw [e27]; omega)
      have hc : 1 ≤ vz_cost (vz_inr l M k).2.2 k := by unfold vz_cost; split <;> omega
      have ho : vz_old (vz_inr l M k).2.2 k < (vz_inr l M k).2.2 28 0 := by
        rcases vz_old_spec a.Q k with ⟨e, _⟩ | ⟨_, e, _⟩
        · omega
        · exact e
      obtain ⟨a2, f2⟩ := vz_srv_ok a q.1 ho
      refine ⟨a2, f.trans f2, by show 0 ≤ _ - _; omega, Or.inr ⟨rfl, ?_⟩⟩
      show (vz_inr l M k).1 - _ < l
      rcases d with d | d <;> omega
    · rw [if_neg q]; exact ⟨a, f, c, d⟩
theorem vz_rnd_ok (A : vA M) {l fl : Int} (hl : 0 ≤ l) : vA (vz_rnd (l, fl, M)).2.2 ∧ vz_kp M (vz_rnd (l, fl, M)).2.2 ∧ 0 ≤ (vz_rnd (l, fl, M)).1 ∧ (((vz_rnd (l, fl, M)).2.1 = 0 ∧ (vz_rnd (l, fl, M)).1 = l ∧ (vz_rnd (l, fl, M)).2.2 = M) ∨ ((vz_rnd (l, fl, M)).2.1 = 1 ∧ (vz_rnd (l, fl, M)).1 < l)) := by
  have := A.Q.tn
  exact vz_inr_ok A hl (M 27 0).toNat (by omega)
theorem vz_rnds_ok (A : vA M) {l : Int} (hl : 0 ≤ l) : ∀ k : Nat, vA (vz_rnds l M k).2.2 ∧ vz_kp M (vz_rnds l M k).2.2 ∧ 0 ≤ (vz_rnds l M k).1 ∧ (vz_rnds l M k).1 ≤ l
  | 0 => ⟨A, vz_kp.refl M, hl, Int.le_refl _⟩
  | k + 1 => by
    obtain ⟨a, f, c, d⟩ := vz_rnds_ok A hl k
    obtain ⟨a2, f2, c2, d2⟩ := vz_rnd_ok a (fl := (vz_rnds l M k).2.1) c
    exact ⟨a2, f.trans f2, c2, by show (vz_rnd ((vz_rnds l M k).1, (vz_rnds l M k).2.1, (vz_rnds l M k).2.2)).1 ≤ l; rcases d2 with d2 | d2 <;> omega⟩
theorem vz_rnd_same {x y : Int × Int × vs_St} (h1 : x.1 = y.1) (h2 : x.2.2 = y.2.2) : vz_rnd x = vz_rnd y := by unfold vz_rnd; rw [h1, h2]
theorem p_serveRounds {V T : vs_St} (A : vA M) (r : vS M S) (k : vK M K) (D : vD M K) {l : Int} (hl : 0 ≤ l ∧ l ≤ 20) {post : vs_St → vs_St → Prop}
    (kk : ∀ S' K', vS (vz_rnds l M 21).2.2 S' → vK (vz_rnds l M 21).2.2 K' → vD (vz_rnds l M 21).2.2 K' → post S' K') : wX2_serveRounds V S T K l post := by
  unfold wX2_serveRounds
  have htn := A.Q.tn
  refine ⟨fun x n S' K' => 0 ≤ n ∧ n ≤ 21 ∧ (vz_rnds l M n.toNat).1 = x ∧ vS (vz_rnds l M n.toNat).2.2 S' ∧ vK (vz_rnds l M n.toNat).2.2 K' ∧ vD (vz_rnds l M n.toNat).2.2 K', fun _ n _ _ => (22 - n).toNat, ⟨by omega, by omega, rfl, r, k, D⟩, ?_⟩
  rintro x n S' K' ⟨n0, n1, ex, hr, hk, hD⟩
  obtain ⟨a, f, c, d⟩ := vz_rnds_ok A hl.1 n.toNat
  have e27 := f 27 rfl
  unfold lX2_serveRounds_4
  refine ⟨⟨by omega, by omega⟩, fun h => ?_, fun h => ?_⟩
  · have e : n.toNat = 21 := by omega
    rw [e] at hr hk hD
    exact kk S' K' hr hk hD
  · have es : vz_rnds l M (n.toNat + 1) = vz_rnd (vz_rnds l M n.toNat) := rfl
    have er : vz_rnd (vz_rnds l M n.toNat) = vz_inr x (vz_rnds l M n.toNat).2.2 (M 27 0).toNat := by unfold vz_rnd; rw [e27, ex]
    generalize (vz_rnds l M n.toNat).2.2 = N at *
    refine ⟨fun y t S2 K2 => 0 ≤ t ∧ t ≤ M 27 0 ∧ (vz_inr x N t.toNat).1 = y ∧ vS (vz_inr x N t.toNat).2.2 S2 ∧ vK (vz_inr x N t.toNat).2.2 K2 ∧ vD (vz_inr x N t.toNat).2.2 K2, fun _ t _ _ => (5 - t).toNat, ⟨by omega, by omega, rfl, hr, hk, hD⟩, ?_⟩
    rintro y t S2 K2 ⟨t0, t1, ey, hr2, hk2, hD2⟩
    obtain ⟨a2, f2, c2, d2⟩ := vz_inr_ok a (l := x) (by omega) t.toNat (by rw [e27]; omega)
    have e27' := f2 27 rfl
    unfold lX2_serveRounds_16
    rw [hk2.tn, e27', e27]
    refine ⟨⟨by omega, by omega⟩, ⟨by omega, by omega⟩, fun q => ⟨⟨by omega, by omega⟩, ⟨by omega, by omega⟩, fun w => ?_, fun w => ?_⟩, fun q => ?_⟩
    · have et : t = M 27 0 := by omega
      rw [et, ← er, ← es] at ey hr2 hk2 hD2
      refine ⟨⟨by omega, by omega, ?_, ?_, ?_, ?_⟩, by first | omega | (dsimp only; omega)⟩
      · rw [show (n + 1).toNat = n.toNat + 1 by omega]; exact ey
      · rw [show (n + 1).toNat = n.toNat + 1 by omega]; exact hr2
      · rw [show (n + 1).toNat = n.toNat + 1 by omega]; exact hk2
      · rw [show (n + 1).toNat = n.toNat + 1 by omega]; exact hD2
    · have et : t = M 27 0 := by omega
      rw [et] at d2
      rw [et, ← er, ← es] at ey hr2 hk2 hD2
      rw [← er] at d2
      have fix : vz_rnds l M 21 = vz_rnds l M (n.toNat + 1) := vz_it_end (by omega) (fun _ _ => by
        show vz_rnd (vz_rnds l M (n.toNat + 1)) = vz_rnds l M (n.toNat + 1)
        rw [es] at ey ⊢
        rcases d2 with ⟨_, u, v⟩ | ⟨_, u⟩
        · have : vz_rnd (vz_rnd (vz_rnds l M n.toNat)) = vz_inr x N (M 27 0).toNat := by
            unfold vz_rnd at u v ⊢
            rw [u, v, e27]
          rw [this, er]
        · omega)
      rw [← fix] at hr2 hk2 hD2
      exact kk S2 K2 hr2 hk2 hD2
    · have en : vz_inr x N (t + 1).toNat = vz_ostep t.toNat (vz_inr x N t.toNat) := by rw [show (t + 1).toNat = t.toNat + 1 by omega]; rfl
      have et : ((t.toNat : Nat) : Int) = t := Int.toNat_of_nonneg t0
      have hy : 0 ≤ y ∧ y ≤ 20 := by rcases d2 with d2 | d2 <;> omega
      refine p_serveOldest a2 hr2 hk2 hD2 t0 (by rw [e27', e27]; exact q) hy (fun w S3 K3 h3 k3 D3 v4 e4 => ?_) (fun w v4 e4 => ?_)
      · have e5 : vz_inr x N (t + 1).toNat = (y - vz_cost (vz_inr x N t.toNat).2.2 t, 1, vz_srv (vz_inr x N t.toNat).2.2 (vz_old (vz_inr x N t.toNat).2.2 t)) := by
          rw [en]; unfold vz_ostep; rw [et, if_pos (by rw [ey]; exact w), ey]
        refine ⟨⟨by omega, by omega, ?_, ?_, ?_, ?_⟩, by first | omega | (dsimp only; omega)⟩
        · rw [e5]; exact e4.symm
        · rw [e5]; exact h3
        · rw [e5]; exact k3
        · rw [e5]; exact D3
      · have e5 : vz_inr x N (t + 1).toNat = vz_inr x N t.toNat := by
          rw [en]; unfold vz_ostep; rw [et, if_neg (by rw [ey]; exact w)]
        refine ⟨⟨by omega, by omega, ?_, ?_, ?_, ?_⟩, by first | omega | (dsimp only; omega)⟩
        · rw [e5, ey]; omega
        · rw [e5]; exact hr2
        · rw [e5]; exact hk2
        · rw [e5]; exact hD2
theorem q_servesAll (A : vA M) {l : Int} (hl : 0 ≤ l ∧ l ≤ 20) {post : vs_St → Prop} (k : post (vz_rnds l M 21).2.2) : wX3_servesAll M l post := by
  unfold wX3_servesAll
  have htn := A.Q.tn
  refine ⟨fun x fl S' => (fl = 0 ∨ fl = 1) ∧ ∃ j : Nat, j ≤ 21 ∧ vz_rnds l M j = (x, fl, S') ∧ (fl = 1 → x + j ≤ 20) ∧ (fl = 0 → vz_rnd (x, fl, S') = (x, fl, S')), fun x fl _ => (2 * x + fl).toNat, ⟨Or.inr rfl, 0, by omega, rfl, fun _ => by omega, fun z => by omega⟩, ?_⟩
  rintro x fl S' ⟨h01, j, j1, ej, h1, h0⟩
  obtain ⟨a, f, c, d⟩ := vz_rnds_ok A hl.1 j
  rw [ej] at a f c d
  have a : vA S' := a
  have f : vz_kp M S' := f
  have c : 0 ≤ x := c
  have d : x ≤ l := d
  have e27 := f 27 rfl
  unfold lX3_servesAll_4
  refine ⟨⟨by omega, by omega⟩, fun z => ?_, fun z => ?_⟩
  · have fix : vz_rnds l M 21 = vz_rnds l M j := vz_it_end j1 (fun _ _ => by
      show vz_rnd (vz_rnds l M j) = vz_rnds l M j
      rw [ej]; exact h0 z)
    rw [fix, ej] at k
    exact k
  · have f1 : fl = 1 := by omega
    subst f1
    have h1 := h1 rfl
    refine ⟨fun y g t S2 => 0 ≤ t ∧ t ≤ M 27 0 ∧ vz_inr x S' t.toNat = (y, g, S2), fun _ _ t _ => (5 - t).toNat, ⟨by omega, by omega, rfl⟩, ?_⟩
    rintro y g t S2 ⟨t0, t1, et⟩
    obtain ⟨a2, f2, c2, d2⟩ := vz_inr_ok a (l := x) c t.toNat (by show _ ≤ S' 27 0; rw [e27]; omega)
    rw [et] at a2 f2 c2 d2
    have a2 : vA S2 := a2
    have f2 : vz_kp S' S2 := f2
    have c2 : 0 ≤ y := c2
    have d2 : (g = 0 ∧ y = x ∧ S2 = S') ∨ (g = 1 ∧ y < x) := d2
    have e27' := f2 27 rfl
    unfold lX3_servesAll_13
    rw [e27', e27]
    refine ⟨⟨by omega, by omega⟩, ⟨by omega, by omega⟩, fun q => ?_, fun q => ?_⟩
    · have ett : t = M 27 0 := by omega
      have er : vz_rnd (x, 1, S') = (y, g, S2) := by
        unfold vz_rnd
        show vz_inr x S' (S' 27 0).toNat = _
        rw [e27, ← ett]; exact et
      refine ⟨⟨by omega, j + 1, by omega, ?_, fun w => ?_, fun w => ?_⟩, ?_⟩
      · show vz_rnd (vz_rnds l M j) = _
        rw [ej]; exact er
      · rcases d2 with d2 | d2 <;> omega
      · rcases d2 with ⟨_, u, v⟩ | ⟨u, _⟩
        · rw [u, v] at er ⊢
          rw [← er]
          exact vz_rnd_same (by rw [er]) (by rw [er])
        · omega
      · show (2 * y + g).toNat < (2 * x + 1).toNat
        rcases d2 with d2 | d2 <;> omega
    · have en : vz_inr x S' (t + 1).toNat = vz_ostep t.toNat (y, g, S2) := by rw [show (t + 1).toNat = t.toNat + 1 by omega, ← et]; rfl
      have ett : ((t.toNat : Nat) : Int) = t := Int.toNat_of_nonneg t0
      have hT := a2.T t t0 (by rw [e27', e27]; exact q)
      have hw3 := a2.O.wn t t0 (by omega)
      have hrq := a2.Q.rq
      refine q_oldestOf a2.Q ⟨by omega, by omega⟩ ?_
      have hsp := vz_old_spec a2.Q t
      have hso : -1 ≤ vz_old S2 t ∧ vz_old S2 t < 300 := by
        rcases hsp with ⟨e, _⟩ | ⟨e, e2, _⟩ <;> omega
      have skip : ¬ (0 ≤ vz_old S2 t ∧ vz_cost S2 t ≤ y) → (0 ≤ t + 1 ∧ t + 1 ≤ M 27 0 ∧ vz_inr x S' (t + 1).toNat = (y, g, S2)) ∧ (5 - (t + 1)).toNat < (5 - t).toNat := by
        intro w
        refine ⟨⟨by omega, by omega, ?_⟩, by omega⟩
        rw [en]; unfold vz_ostep; rw [ett]; exact if_neg w
      have take : 0 ≤ vz_old S2 t → vz_cost S2 t ≤ y → ∀ S3 v3, S3 = vz_srv S2 (vz_old S2 t) → v3 = y - vz_cost S2 t → (0 ≤ t + 1 ∧ t + 1 ≤ M 27 0 ∧ vz_inr x S' (t + 1).toNat = (v3, 1, S3)) ∧ (5 - (t + 1)).toNat < (5 - t).toNat := by
        intro w w2 S3 v3 e3 ev
        refine ⟨⟨by omega, by omega, ?_⟩, by omega⟩
        rw [en, e3, ev]; unfold vz_ostep; rw [ett]; exact if_pos ⟨w, w2⟩
      refine ⟨⟨by omega, by omega⟩, fun w => ?_, fun w => skip (fun e => by omega)⟩
      have r1 : vz_old S2 t < S2 28 0 := by rcases hsp with ⟨e, _⟩ | ⟨e, e2, _⟩ <;> omega
      have hw := a2.Q.nw _ w r1
      refine ⟨⟨w, by omega⟩, ⟨by omega, by omega⟩, fun u => ⟨⟨t0, by omega⟩, fun v2 e2 => ?_⟩, fun u => ⟨⟨by omega, by omega⟩, fun y2 v5 e5 => ?_, fun y2 => ?_⟩⟩
      · have ec : vz_cost S2 t = S2 16 t := by unfold vz_cost; rw [if_neg (by omega)]
        subst e2
        refine ⟨⟨by omega, by omega⟩, ⟨by omega, by omega⟩, fun y2 v3 e3 => q_serves a2 w r1 (take w (by omega) _ _ rfl (by omega)), fun y2 => skip (fun e => by omega)⟩
      · have ec : vz_cost S2 t = 1 := by unfold vz_cost; rw [if_pos u]
        exact q_serves a2 w r1 (take w (by omega) _ _ rfl (by omega))
      · have ec : vz_cost S2 t = 1 := by unfold vz_cost; rw [if_pos u]
        exact skip (fun e => by omega)
end VZC
