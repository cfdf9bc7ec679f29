/-! pure part: ticks and passes, run on both sides -/
section VZE
variable {M S K V : vs_St}
theorem vz_fr_ca {M' : vs_St} (f : vz_fr M M') : ∀ c : Nat, vz_ck c = true → M' c = M c := by
  intro c h
  have n (k : Nat) (hk : vz_ck k = false) : c ≠ k := by
    intro e; subst e; rw [h] at hk; exact nomatch hk
  exact f c (n 3 rfl) (n 5 rfl) (n 8 rfl) (n 10 rfl)
theorem vA_fr {M' : vs_St} (A : vA M) (f : vz_fr M M') (I : vI M') (h : vM M') : vA M' := by
  have e (c : Nat) (h3 : c ≠ 3) (h5 : c ≠ 5) (h8 : c ≠ 8) (h10 : c ≠ 10) : M' c = M c := f c h3 h5 h8 h10
  refine ⟨I, vO_fr f A.O, h, ?_, ?_, ?_⟩
  · unfold vQ; rw [e 27 (by decide) (by decide) (by decide) (by decide), e 28 (by decide) (by decide) (by decide) (by decide), e 23 (by decide) (by decide) (by decide) (by decide), e 24 (by decide) (by decide) (by decide) (by decide), e 26 (by decide) (by decide) (by decide) (by decide)]; exact A.Q
  · rw [e 27 (by decide) (by decide) (by decide) (by decide), e 16 (by decide) (by decide) (by decide) (by decide)]; exact A.T
  · rw [e 17 (by decide) (by decide) (by decide) (by decide)]; exact A.P
theorem vz_k1_ca (M : vs_St) : ∀ c : Nat, vz_ca c = true → vz_k1 M c = M c := by
  intro c h
  have n (k : Nat) (hk : vz_ca k = false) : c ≠ k := by
    intro e; subst e; rw [h] at hk; exact nomatch hk
  exact vz_bg_ne M (n 21 rfl) (n 22 rfl) _
theorem vz_k1_ck (M : vs_St) : ∀ c : Nat, vz_ck c = true → vz_k1 M c = M c := by
  intro c h
  have n (k : Nat) (hk : vz_ck k = false) : c ≠ k := by
    intro e; subst e; rw [h] at hk; exact nomatch hk
  exact vz_bg_ne M (n 21 rfl) (n 22 rfl) _
/-- what is known of the states along a tick -/
theorem vz_tick_st (A : vA M) (C : vC M) : vA (vz_k1 M) ∧ (0 ≤ vz_k1 M 29 0 / 2 ∧ vz_k1 M 29 0 / 2 ≤ 10) ∧ vA (vz_k2 M).2 ∧ vz_fr (vz_k1 M) (vz_k2 M).2 ∧ (0 ≤ (vz_k2 M).1 ∧ (vz_k2 M).1 ≤ 10) ∧ vA (vz_k3 M) ∧ vA (vz_k4 M) ∧ vz_kp (vz_k3 M) (vz_k4 M) := by
  have A1 := vA_kq A (vz_k1_ca M)
  have e29 : vz_k1 M 29 = M 29 := vz_bg_ne M (by decide) (by decide) _
  have hC := C.1
  have h29 : 0 ≤ vz_k1 M 29 0 / 2 ∧ vz_k1 M 29 0 / 2 ≤ 10 := by rw [e29]; omega
  obtain ⟨a, f, c, d, e⟩ := vz_reb_ok A1.I A1.O (vz_k1 M 29 0 / 2)
  have A2 : vA (vz_k2 M).2 := vA_fr A1 f a (vz_reb_vM A1.I A1.O A1.V _)
  have hn : 0 ≤ (vz_k2 M).1 ∧ (vz_k2 M).1 ≤ 10 := by
    have c : 0 ≤ (vz_k2 M).1 := c
    have e : (vz_k2 M).1 ≤ 0 ∨ (vz_k2 M).1 ≤ vz_k1 M 29 0 / 2 := e
    omega
  have A3 : vA (vz_k3 M) := vA_kq A2 (fun c h => vs_st_ne _ (by intro e; subst e; exact nomatch h) _ _)
  obtain ⟨a4, f4, _, _⟩ := vz_rnds_ok A3 (l := 20 - 2 * (vz_k2 M).1) (by omega) 21
  exact ⟨A1, h29, A2, f, hn, A3, a4, f4⟩
theorem vz_tick_c (A : vA M) (C : vC M) : (∀ c : Nat, c = 0 ∨ c = 7 ∨ c = 17 ∨ c = 19 ∨ c = 20 ∨ c = 27 ∨ c = 28 ∨ c = 29 ∨ c = 30 → vz_k4 M c = M c) ∧ vz_k4 M 31 0 = M 31 0 + (vz_k2 M).1 := by
  obtain ⟨A1, h29, A2, f, hn, A3, A4, f4⟩ := vz_tick_st A C
  constructor
  · intro c h
    have e1 : vz_k4 M c = vz_k3 M c := f4 c (by rcases h with h | h | h | h | h | h | h | h | h <;> subst h <;> rfl)
    have e2 : vz_k3 M c = (vz_k2 M).2 c := vs_st_ne _ (by omega) _ _
    have e3 : (vz_k2 M).2 c = vz_k1 M c := f c (by omega) (by omega) (by omega) (by omega)
    have e4 : vz_k1 M c = M c := vz_bg_ne M (by omega) (by omega) _
    rw [e1, e2, e3, e4]
  · have e1 : vz_k4 M 31 = vz_k3 M 31 := f4 31 rfl
    have e3 : (vz_k2 M).2 31 = vz_k1 M 31 := f 31 (by decide) (by decide) (by decide) (by decide)
    have e4 : vz_k1 M 31 = M 31 := vz_bg_ne M (by decide) (by decide) _
    rw [e1]
    show (if (0 : Int) = 0 then (vz_k2 M).2 31 0 + (vz_k2 M).1 else (vz_k2 M).2 31 0) = _
    rw [if_pos rfl, e3, e4]
theorem vz_crd_bd {N : vs_St} {k : Nat} {n : Int} (h17 : ∀ t : Int, 0 ≤ t → t < 4 → N 17 t ≤ 20) (h22 : ∀ t : Int, 0 ≤ t → t < k → 0 ≤ N 22 t) (hk : (k : Int) ≤ 4) (h : ∀ t : Int, 0 ≤ t → t < 4 → (0 ≤ N 19 t ∧ N 19 t ≤ 20 * n) ∧ 0 ≤ N 20 t ∧ N 20 t ≤ n) : ∀ t : Int, 0 ≤ t → t < 4 → (0 ≤ vz_cd N k 19 t ∧ vz_cd N k 19 t ≤ 20 * (n + 1)) ∧ 0 ≤ vz_cd N k 20 t ∧ vz_cd N k 20 t ≤ n + 1 := by
  have key : ∀ j : Nat, j ≤ k → ∀ t : Int, 0 ≤ t → t < 4 → ((j : Int) ≤ t → vz_cd N j 19 t = N 19 t ∧ vz_cd N j 20 t = N 20 t) ∧ (t < j → (0 ≤ vz_cd N j 19 t ∧ vz_cd N j 19 t ≤ 20 * (n + 1)) ∧ 0 ≤ vz_cd N j 20 t ∧ vz_cd N j 20 t ≤ n + 1) := by
    intro j
    induction j with
    | zero => intro _ t t0 t1; exact ⟨fun _ => ⟨rfl, rfl⟩, fun z => by omega⟩
    | succ j ih =>
      intro hj t t0 t1
      have q := ih (by omega) t t0 t1
      have qj := (ih (by omega) j (by omega) (by omega)).1 (Int.le_refl _)
      have hb := h j (by omega) (by omega)
      have e17 : vz_cd N j 17 = N 17 := vz_cd_ne N (by decide) (by decide) j
      have e21 : vz_cd N j 21 = N 21 := vz_cd_ne N (by decide) (by decide) j
      have e22 : vz_cd N j 22 = N 22 := vz_cd_ne N (by decide) (by decide) j
      have hl : 0 ≤ vz_lk (vz_cd N j) j ∧ vz_lk (vz_cd N j) j ≤ 20 := by
        unfold vz_lk
        rw [e17, e21, e22]
        have := h17 j (by omega) (by omega)
        have := h22 j (by omega) (by omega)
        omega
      show ((((j + 1 : Nat) : Int) ≤ t → (if t = (j : Int) then vz_cd N j 19 j + vz_lk (vz_cd N j) j else vz_cd N j 19 t) = _ ∧ (if t = (j : Int) then vz_cd N j 20 j + (if vz_lk (vz_cd N j) j ≤ 0 then 0 else 1) else vz_cd N j 20 t) = _) ∧ (t < ((j + 1 : Nat) : Int) → (0 ≤ (if t = (j : Int) then vz_cd N j 19 j + vz_lk (vz_cd N j) j else vz_cd N j 19 t) ∧ (if t = (j : Int) then vz_cd N j 19 j + vz_lk (vz_cd N j) j else vz_cd N j 19 t) ≤ _) ∧ 0 ≤ (if t = (j : Int) then vz_cd N j 20 j + (if vz_lk (vz_cd N j) j ≤ 0 then 0 else 1) else vz_cd N j 20 t) ∧ (if t = (j : Int) then vz_cd N j 20 j + (if vz_lk (vz_cd N j) j ≤ 0 then 0 else 1) else vz_cd N j 20 t) ≤ _))
      by_cases e : t = j
      · rw [if_pos e, if_pos e, qj.1, qj.2]
        refine ⟨fun z => by omega, fun _ => ⟨by omega, ?_⟩⟩
        split <;> omega
      · rw [if_neg e, if_neg e]
        exact ⟨fun z => q.1 (by omega), fun z => q.2 (by omega)⟩
  intro t t0 t1
  have q := key k (Nat.le_refl _) t t0 t1
  have hb := h t t0 t1
  rcases Int.lt_or_le t k with z | z
  · exact q.2 z
  · rw [(q.1 z).1, (q.1 z).2]; omega
theorem vz_cd_ca (N : vs_St) (k : Nat) : ∀ c : Nat, vz_ca c = true → vz_cd N k c = N c := by
  intro c h
  have n (k : Nat) (hk : vz_ca k = false) : c ≠ k := by
    intro e; subst e; rw [h] at hk; exact nomatch hk
  exact vz_cd_ne N (n 19 rfl) (n 20 rfl) _
def vz_D22 (M : vs_St) : Prop := ∀ t : Int, 0 ≤ t → t < M 27 0 → (0 ≤ vz_k4 M 22 t ∧ vz_k4 M 22 t ≤ 300) ∧ 0 ≤ vz_k4 M 21 t ∧ vz_k4 M 21 t ≤ 300
/-- the class's ends of a tick -/
theorem p_beginTick (A : vA M) (k : vK M K) {post : vs_St → Prop} (kk : ∀ K1, vK (vz_k1 M) K1 → vD (vz_k1 M) K1 → post K1) : wX0_beginTick K post := by
  unfold wX0_beginTick
  have htn := A.Q.tn
  have hrq := A.Q.rq
  refine ⟨fun t K' => 0 ≤ t ∧ t ≤ M 27 0 ∧ (∀ c : Nat, c ≠ 4 → K' c = K c) ∧ ∀ t' : Int, 0 ≤ t' → t' < t → K' 4 t' = K 3 t' + min (K 1 t') (K 2 t' - K 3 t'), fun t _ => (5 - t).toNat, ⟨by omega, by omega, fun _ _ => rfl, fun t' a b => by omega⟩, ?_⟩
  rintro t K' ⟨t0, t1, hc, h4⟩
  unfold lX0_beginTick_2 wX0_countWaiting
  rw [hc 0 (by decide), hc 1 (by decide), hc 2 (by decide), hc 3 (by decide), k.tn]
  refine ⟨⟨by omega, by omega⟩, ⟨by omega, by omega⟩, fun h => ?_, fun h => ?_⟩
  · have et : t = M 27 0 := by omega
    have ck := vz_k1_ck M
    refine kk K' (vK_kk (vK_kq k ck) hc) (fun t' a0 a1 => ?_)
    have e27 : vz_k1 M 27 = M 27 := ck 27 rfl
    rw [e27] at a1
    have hv := vz_bg_v M (M 27 0).toNat t' a0 (by omega)
    have hv1 : vz_k1 M 21 t' = vz_wait M t' := hv.1
    have hv2 : vz_k1 M 22 t' = 0 := hv.2
    have hn := k.qn t' a0 (by omega)
    rw [hv1, hv2, ck 17 rfl, ck 18 rfl, h4 t' a0 (by omega), hc 3 (by decide), ← k.pr t' a0 (by omega), ← k.qw t' a0 (by omega), ← k.sv t' a0 (by omega)]
    omega
  · have hn := k.qn t t0 (by omega)
    have hp := A.P t t0 (by omega)
    rw [k.pr t t0 (by omega)]
    refine ⟨⟨t0, by omega⟩, ⟨t0, by omega⟩, ⟨t0, by omega⟩, ⟨t0, by omega⟩, ⟨by omega, by omega⟩, ⟨by omega, by omega⟩, ⟨t0, by omega⟩, fun S2 e2 => ⟨⟨by omega, by omega, fun c q => ?_, fun t' a0 a1 => ?_⟩, by first | omega | (dsimp only; omega)⟩⟩
    · rw [e2, vs_st_ne _ q]; exact hc c q
    · rw [e2]
      show (if t' = t then _ else K' 4 t') = _
      by_cases e : t' = t
      · rw [if_pos e, e, k.pr t t0 (by omega)]
      · rw [if_neg e]; exact h4 t' a0 (by omega)
theorem p_giveCredits {N : vs_St} (A : vA N) (k : vK N K) (D : vD N K) {post : vs_St → Prop} (kk : ∀ K1, vK (vz_cd N (N 27 0).toNat) K1 → post K1) : wX0_giveCredits K post := by
  unfold wX0_giveCredits
  have htn := A.Q.tn
  have hrq := A.Q.rq
  refine ⟨fun t K' => 0 ≤ t ∧ t ≤ N 27 0 ∧ vK (vz_cd N t.toNat) K' ∧ K' 4 = K 4 ∧ K' 3 = K 3, fun t _ => (5 - t).toNat, ⟨by omega, by omega, k, rfl, rfl⟩, ?_⟩
  rintro t K' ⟨t0, t1, hk, h4, h3⟩
  have e27 : vz_cd N t.toNat 27 = N 27 := vz_cd_ne N (by decide) (by decide) _
  have e17 : vz_cd N t.toNat 17 = N 17 := vz_cd_ne N (by decide) (by decide) _
  have e21 : vz_cd N t.toNat 21 = N 21 := vz_cd_ne N (by decide) (by decide) _
  have e22 : vz_cd N t.toNat 22 = N 22 := vz_cd_ne N (by decide) (by decide) _
  unfold lX0_giveCredits_2
  rw [hk.tn, e27, h4, h3]
  refine ⟨⟨by omega, by omega⟩, ⟨by omega, by omega⟩, fun h => ?_, fun h => ?_⟩
  · have et : t = N 27 0 := by omega
    rw [et] at hk
    exact kk K' hk
  · have d := D t t0 h
    have hp := A.P t t0 (by omega)
    have hn := k.qn t t0 (by omega)
    have hs := k.sv t t0 (by omega)
    have ett : ((t.toNat : Nat) : Int) = t := Int.toNat_of_nonneg t0
    have es : vz_cd N (t + 1).toNat = vs_st (vs_st (vz_cd N t.toNat) 19 t (vz_cd N t.toNat 19 t + vz_lk (vz_cd N t.toNat) t)) 20 t (vz_cd N t.toNat 20 t + (if vz_lk (vz_cd N t.toNat) t ≤ 0 then 0 else 1)) := by
      rw [show (t + 1).toNat = t.toNat + 1 by omega]
      show vz_crd t.toNat (vz_cd N t.toNat) = _
      unfold vz_crd
      rw [ett]
    have el : vz_lk (vz_cd N t.toNat) t = max 0 (min (N 17 t) (N 21 t) - N 22 t) := by unfold vz_lk; rw [e17, e21, e22]
    refine ⟨⟨t0, by omega⟩, ⟨t0, by omega⟩, fun v1 e1 => ⟨⟨by omega, by omega⟩, fun q => ⟨⟨by omega, by omega, ?_, h4, h3⟩, by first | omega | (dsimp only; omega)⟩, fun q => ⟨⟨t0, by omega⟩, ⟨t0, by omega⟩, fun S2 e2 => ⟨⟨t0, by omega⟩, ⟨t0, by omega⟩, fun S3 e3 => ⟨⟨by omega, by omega, ?_, ?_, ?_⟩, by first | omega | (dsimp only; omega)⟩⟩⟩⟩⟩
    · have el0 : vz_lk (vz_cd N t.toNat) t = 0 := by omega
      have en : vz_cd N (t + 1).toNat = vz_cd N t.toNat := by
        rw [es, el0, if_pos (by omega), Int.add_zero, Int.add_zero]
        funext c
        by_cases c20 : c = 20
        · subst c20
          rw [vs_st_same]
          funext i
          unfold vs_up
          rw [vs_st_ne _ (by decide)]
          by_cases z : i = t
          · rw [if_pos z, z]
          · rw [if_neg z]
        · rw [vs_st_ne _ c20]
          by_cases c19 : c = 19
          · subst c19
            rw [vs_st_same]
            funext i
            unfold vs_up
            by_cases z : i = t
            · rw [if_pos z, z]
            · rw [if_neg z]
          · rw [vs_st_ne _ c19]
      rw [en]; exact hk
    · have el1 : vz_lk (vz_cd N t.toNat) t = v1 := by omega
      rw [es, el1, if_neg (by omega)]
      subst e3; subst e2
      refine ⟨hk.tn, hk.pr, hk.sv, fun t' a0 a1 => ?_, fun t' a0 a1 => ?_, hk.rq, hk.bl, hk.iw, hk.vw, hk.va, hk.stt, hk.wt, hk.qn, hk.qw, hk.qa, hk.qo, hk.qc⟩
      · show (if t' = t then K' 5 t + v1 else K' 5 t') = if t' = t then vz_cd N t.toNat 19 t + v1 else vz_cd N t.toNat 19 t'
        rw [hk.cr t' a0 a1, hk.cr t t0 (by omega)]
      · show (if t' = t then K' 6 t + 1 else K' 6 t') = if t' = t then vz_cd N t.toNat 20 t + 1 else vz_cd N t.toNat 20 t'
        rw [hk.br t' a0 a1, hk.br t t0 (by omega)]
    · rw [e3, e2]; exact h4
    · rw [e3, e2]; exact h3
theorem p_tick {T : vs_St} (A : vA M) (C : vC M) (r : vS M S) (k : vK M K) (v : vV M V) {post : vs_St → vs_St → vs_St → Prop} (kk : vz_D22 M → ∀ V' S' K', vS (vz_tick M) S' → vK (vz_tick M) K' → vV (vz_tick M) V' → post V' S' K') :
    wX0_beginTick K (fun K1 => (0 ≤ V 4 0 ∧ V 4 0 ≤ 2147483647) ∧ wX1_rebuild S ((V 4 0) / 2) (fun r2 S3 => ∀ V4 : vs_St, V4 = vs_st V 6 0 ((V 6 0) + r2) → wX2_serveRounds V4 S3 T K1 (20 - (r2 * 2)) (fun S5 K6 => wX0_giveCredits K6 (fun K7 => ∀ V8 : vs_St, V8 = vs_st V4 5 0 ((V4 5 0) + 1) → post V8 S5 K7)))) := by
  obtain ⟨A1, h29, A2, f, hn, A3, A4, f4⟩ := vz_tick_st A C
  obtain ⟨hc, h31⟩ := vz_tick_c A C
  have e29 : vz_k1 M 29 = M 29 := vz_bg_ne M (by decide) (by decide) _
  have hC := C.1
  refine p_beginTick A k (fun K1 k1 D1 => ⟨by rw [v.1]; omega, ?_⟩)
  have r1 : vS (vz_k1 M) S := vS_kq r (vz_k1_ca M)
  rw [v.1, ← e29]
  refine p_rebuild A1.I A1.O (by omega) r1 (fun S3 r3 V4 e4 => ?_)
  have r3 : vS (vz_k3 M) S3 := vS_kq (M := (vz_k2 M).2) r3 (fun c h => vs_st_ne _ (by intro e; subst e; exact nomatch h) _ _)
  have ck2 := vz_fr_ca f
  have k3 : vK (vz_k3 M) K1 := vK_kq (vK_kq k1 ck2) (fun c h => vs_st_ne _ (by intro e; subst e; exact nomatch h) _ _)
  have D3 : vD (vz_k3 M) K1 := by
    unfold vD
    have e (c : Nat) (h31 : c ≠ 31) (h3 : c ≠ 3) (h5 : c ≠ 5) (h8 : c ≠ 8) (h10 : c ≠ 10) : vz_k3 M c = vz_k1 M c := by
      show vs_st (vz_k2 M).2 31 0 _ c = _
      rw [vs_st_ne _ h31]; exact f c h3 h5 h8 h10
    rw [e 27 (by decide) (by decide) (by decide) (by decide) (by decide), e 22 (by decide) (by decide) (by decide) (by decide) (by decide), e 17 (by decide) (by decide) (by decide) (by decide) (by decide), e 21 (by decide) (by decide) (by decide) (by decide) (by decide), e 18 (by decide) (by decide) (by decide) (by decide) (by decide)]
    exact D1
  have el : 20 - (vz_reb (vz_k1 M 29 0 / 2) (vz_k1 M)).1 * 2 = 20 - 2 * (vz_k2 M).1 := by
    show 20 - (vz_k2 M).1 * 2 = _
    omega
  rw [el]
  refine p_serveRounds A3 r3 k3 D3 (by omega) (fun S5 K6 r5 k6 D6 => ?_)
  have r5 : vS (vz_k4 M) S5 := r5
  have k6 : vK (vz_k4 M) K6 := k6
  have D6 : vD (vz_k4 M) K6 := D6
  refine p_giveCredits A4 k6 D6 (fun K7 k7 V8 e8 => ?_)
  rw [hc 27 (by simp)] at k7
  have k7 : vK (vz_k5 M) K7 := k7
  have n30 : ∀ c : Nat, vz_ca c = true → c ≠ 30 := by intro c h e; subst e; exact nomatch h
  have n30' : ∀ c : Nat, vz_ck c = true → c ≠ 30 := by intro c h e; subst e; exact nomatch h
  have d22 : vz_D22 M := by
    intro t t0 t1
    have htn := A.Q.tn
    have d := D6 t t0 (by rw [hc 27 (by simp)]; exact t1)
    have q := k6.qn t t0 (by omega)
    have q2 := k6.sv t t0 (by omega)
    have q3 := A4.Q.rq
    omega
  refine kk d22 V8 S5 K7 (vS_kq (vS_kq r5 (vz_cd_ca (vz_k4 M) (M 27 0).toNat)) (fun c h => vs_st_ne _ (n30 c h) _ _)) (vK_kq k7 (fun c h => vs_st_ne _ (n30' c h) _ _)) ⟨?_, ?_, ?_⟩
  · rw [e8, e4]
    show V 4 0 = vz_cd (vz_k4 M) _ 29 0
    rw [vz_cd_ne _ (by decide) (by decide), hc 29 (by simp)]; exact v.1
  · rw [e8, e4]
    show V 5 0 + 1 = vz_cd (vz_k4 M) _ 30 0 + 1
    rw [vz_cd_ne _ (by decide) (by decide), hc 30 (by simp), v.2.1]
  · rw [e8, e4]
    show V 6 0 + (vz_k2 M).1 = vz_cd (vz_k4 M) _ 31 0
    rw [vz_cd_ne _ (by decide) (by decide), h31, v.2.2]
theorem vz_tick_ok (A : vA M) (C : vC M) (hck : M 30 0 < 9999) (D : vz_D22 M) : vA (vz_tick M) ∧ vC (vz_tick M) ∧ vz_tick M 30 0 = M 30 0 + 1 ∧ vz_tick M 0 = M 0 := by
  obtain ⟨A1, h29, A2, f, hn, A3, A4, f4⟩ := vz_tick_st A C
  obtain ⟨hc, h31⟩ := vz_tick_c A C
  obtain ⟨c1, c2, c3, c4⟩ := C
  have htn := A.Q.tn
  have n30 : ∀ c : Nat, vz_ca c = true → c ≠ 30 := by intro c h e; subst e; exact nomatch h
  have e30 : vz_tick M 30 0 = M 30 0 + 1 := by
    show vz_cd (vz_k4 M) _ 30 0 + 1 = _
    rw [vz_cd_ne _ (by decide) (by decide), hc 30 (by simp)]
  refine ⟨vA_kq (vA_kq A4 (vz_cd_ca (vz_k4 M) (M 27 0).toNat)) (fun c h => vs_st_ne _ (n30 c h) _ _), ⟨?_, ?_, ?_, ?_⟩, e30, ?_⟩
  · show 0 ≤ vz_cd (vz_k4 M) _ 29 0 ∧ vz_cd (vz_k4 M) _ 29 0 ≤ 20
    rw [vz_cd_ne _ (by decide) (by decide), hc 29 (by simp)]; exact c1
  · rw [e30]; omega
  · rw [e30]
    show 0 ≤ vz_cd (vz_k4 M) _ 31 0 ∧ vz_cd (vz_k4 M) _ 31 0 ≤ _
    rw [vz_cd_ne _ (by decide) (by decide), h31]; omega
  · rw [e30]
    have h17 : ∀ t : Int, 0 ≤ t → t < 4 → vz_k4 M 17 t ≤ 20 := by
      intro t t0 t1
      rw [hc 17 (by simp)]; exact (A.P t t0 t1).2
    exact vz_crd_bd (N := vz_k4 M) (k := (M 27 0).toNat) (n := M 30 0) h17 (fun t t0 t1 => (D t t0 (by omega)).1.1) (by omega) (fun t t0 t1 => by rw [hc 19 (by simp), hc 20 (by simp)]; exact c4 t t0 t1)
  · show vz_cd (vz_k4 M) _ 0 = _
    rw [vz_cd_ne _ (by decide) (by decide), hc 0 (by simp)]
end VZE
