/-! pure part: the reference's tick; a pass -/
section VZF
variable {M S K V : vs_St}
theorem q_ticks (A : vA M) (C : vC M) (D : vz_D22 M) {post : vs_St → Prop} (k : post (vz_tick M)) : wX3_ticks M post := by
  obtain ⟨A1, h29, A2, f, hn, A3, A4, f4⟩ := vz_tick_st A C
  obtain ⟨hc, h31⟩ := vz_tick_c A C
  unfold wX3_ticks
  have htn := A.Q.tn
  refine ⟨fun t S' => 0 ≤ t ∧ t ≤ M 27 0 ∧ S' = vz_bg M t.toNat, fun t _ => (5 - t).toNat, ⟨by omega, by omega, rfl⟩, ?_⟩
  rintro t S' ⟨t0, t1, rfl⟩
  have e27 : vz_bg M t.toNat 27 = M 27 := vz_bg_ne M (by decide) (by decide) _
  have Ab : vA (vz_bg M t.toNat) := vA_kq A (fun c h => by
    have n (k : Nat) (hk : vz_ca k = false) : c ≠ k := by
      intro e; subst e; rw [h] at hk; exact nomatch hk
    exact vz_bg_ne M (n 21 rfl) (n 22 rfl) _)
  unfold lX3_ticks_2
  rw [e27]
  refine ⟨⟨by omega, by omega⟩, ⟨by omega, by omega⟩, fun h => ?_, fun h => ?_⟩
  · have et : t = M 27 0 := by omega
    rw [et]
    show (0 ≤ vz_k1 M 29 0 ∧ vz_k1 M 29 0 ≤ 2147483647) ∧ wX3_rebuilds (vz_k1 M) (vz_k1 M 29 0 / 2) _
    refine ⟨by omega, q_rebuilds A1.I A1.O (by omega) (fun S3 e3 => ?_)⟩
    have e3 : S3 = vz_k3 M := e3
    subst e3
    show wX3_servesAll (vz_k3 M) (20 - 2 * (vz_k2 M).1) _
    refine q_servesAll A3 (by omega) ?_
    show ∃ (J67 : Int → vs_St → Prop) (μ67 : Int → vs_St → Nat), J67 0 (vz_k4 M) ∧ _
    refine ⟨fun t S' => 0 ≤ t ∧ t ≤ M 27 0 ∧ S' = vz_cd (vz_k4 M) t.toNat, fun t _ => (5 - t).toNat, ⟨by omega, by omega, rfl⟩, ?_⟩
    rintro u S' ⟨u0, u1, rfl⟩
    have c27 : vz_cd (vz_k4 M) u.toNat 27 = M 27 := (vz_cd_ne _ (by decide) (by decide) _).trans (hc 27 (by simp))
    have c17 : vz_cd (vz_k4 M) u.toNat 17 = M 17 := (vz_cd_ne _ (by decide) (by decide) _).trans (hc 17 (by simp))
    have c21 : vz_cd (vz_k4 M) u.toNat 21 = vz_k4 M 21 := vz_cd_ne _ (by decide) (by decide) _
    have c22 : vz_cd (vz_k4 M) u.toNat 22 = vz_k4 M 22 := vz_cd_ne _ (by decide) (by decide) _
    unfold lX3_ticks_67
    rw [c27]
    refine ⟨⟨by omega, by omega⟩, ⟨by omega, by omega⟩, fun q S5 e5 => ?_, fun q => ?_⟩
    · have eu : u = M 27 0 := by omega
      subst e5
      rw [eu]; exact k
    · have d := D u u0 q
      have hp := A.P u u0 (by omega)
      have euu : ((u.toNat : Nat) : Int) = u := Int.toNat_of_nonneg u0
      have es : vz_cd (vz_k4 M) (u + 1).toNat = vs_st (vs_st (vz_cd (vz_k4 M) u.toNat) 19 u (vz_cd (vz_k4 M) u.toNat 19 u + vz_lk (vz_cd (vz_k4 M) u.toNat) u)) 20 u (vz_cd (vz_k4 M) u.toNat 20 u + (if vz_lk (vz_cd (vz_k4 M) u.toNat) u ≤ 0 then 0 else 1)) := by
        rw [show (u + 1).toNat = u.toNat + 1 by omega]
        show vz_crd u.toNat (vz_cd (vz_k4 M) u.toNat) = _
        unfold vz_crd
        rw [euu]
      have el : vz_lk (vz_cd (vz_k4 M) u.toNat) u = max 0 (min (M 17 u) (vz_k4 M 21 u) - vz_k4 M 22 u) := by unfold vz_lk; rw [c17, c21, c22]
      rw [c17, c21, c22]
      refine ⟨⟨u0, by omega⟩, ⟨u0, by omega⟩, ⟨by omega, by omega⟩, ⟨by omega, by omega⟩, ⟨u0, by omega⟩, ⟨by omega, by omega⟩, fun v6 e6 => ⟨⟨u0, by omega⟩, ⟨u0, by omega⟩, fun S7 e7 => ⟨⟨u0, by omega⟩, ⟨by omega, by omega⟩, fun w => ⟨⟨u0, by omega⟩, fun S8 e8 => ⟨⟨by omega, by omega, ?_⟩, by first | omega | (dsimp only; omega)⟩⟩, fun w => ⟨⟨u0, by omega⟩, fun S9 e9 => ⟨⟨by omega, by omega, ?_⟩, by first | omega | (dsimp only; omega)⟩⟩⟩⟩⟩
      · rw [← el] at e6
        rw [es, ← e6, if_pos w, e8, e7]
        rfl
      · rw [← el] at e6
        rw [es, ← e6, if_neg (by omega), e9, e7]
        rfl
  · refine q_waitingMany Ab.Q t0 (by omega) ⟨⟨t0, by omega⟩, fun S11 e11 => ⟨⟨t0, by omega⟩, fun S12 e12 => ⟨⟨by omega, by omega, ?_⟩, by first | omega | (dsimp only; omega)⟩⟩⟩
    have ett : ((t.toNat : Nat) : Int) = t := Int.toNat_of_nonneg t0
    rw [show (t + 1).toNat = t.toNat + 1 by omega, e12, e11]
    show _ = vz_beg t.toNat (vz_bg M t.toNat)
    unfold vz_beg
    rw [ett]
noncomputable def vz_pass (M : vs_St) (n : Nat) : vs_St := vz_it (fun _ => vz_tick) n M
theorem vz_pass_s (M : vs_St) (n : Nat) : vz_pass M (n + 1) = vz_tick (vz_pass M n) := rfl
theorem vz_pass_ok (A : vA M) (C : vC M) : ∀ n : Nat, M 30 0 + n ≤ 9999 → (∀ j : Nat, j < n → vz_D22 (vz_pass M j)) → vA (vz_pass M n) ∧ vC (vz_pass M n) ∧ vz_pass M n 30 0 = M 30 0 + n ∧ vz_pass M n 0 = M 0
  | 0, _, _ => ⟨A, C, by show M 30 0 = M 30 0 + ((0 : Nat) : Int); omega, rfl⟩
  | n + 1, hn, D => by
    obtain ⟨a, c, e, g⟩ := vz_pass_ok A C n (by omega) (fun j h => D j (by omega))
    obtain ⟨a2, c2, e2, g2⟩ := vz_tick_ok a c (by omega) (D n (by omega))
    rw [vz_pass_s]
    exact ⟨a2, c2, by rw [e2, e]; omega, g2.trans g⟩
theorem p_pass {T : vs_St} (A : vA M) (C : vC M) (r : vS M S) (k : vK M K) (v : vV M V) {x : Int} (hx : vs_R x) {post : Int → vs_St → vs_St → vs_St → Prop} {px : Nat → Prop}
    (kk : 1 ≤ x → x ≤ 50 → M 30 0 + x ≤ 9999 → (∀ j : Nat, (j : Int) < x → vz_D22 (vz_pass M j)) → ∀ V' S' K', vS (vz_pass M x.toNat) S' → vK (vz_pass M x.toNat) K' → vV (vz_pass M x.toNat) V' → post (vz_pass M x.toNat 30 0) V' S' K')
    (k1 : ¬ (1 ≤ x ∧ x ≤ 50) → px 1) (k2 : 1 ≤ x → x ≤ 50 → 9999 < M 30 0 + x → px 2) : wX2_pass V S T K x post px := by
  unfold wX2_pass
  have hc := C.2.1
  refine ⟨hx, fun h => k1 (by omega), fun h => ⟨hx, fun h2 => ⟨hx, ?_, fun h3 => ?_, fun h3 => ?_⟩, fun h2 => k1 (by omega)⟩⟩
  · rw [v.2.1]; exact ⟨by omega, by omega⟩
  · rw [v.2.1] at h3
    refine ⟨fun n V' S' K' => 0 ≤ n ∧ n ≤ x ∧ (∀ j : Nat, (j : Int) < n → vz_D22 (vz_pass M j)) ∧ vS (vz_pass M n.toNat) S' ∧ vK (vz_pass M n.toNat) K' ∧ vV (vz_pass M n.toNat) V', fun n _ _ _ => (51 - n).toNat, ⟨by omega, by omega, fun j hj => by omega, r, k, v⟩, ?_⟩
    rintro n V' S' K' ⟨n0, n1, D, hr, hk, hv⟩
    obtain ⟨a, c, e, _⟩ := vz_pass_ok A C n.toNat (by omega) (fun j h => D j (by omega))
    unfold lX2_pass_45
    refine ⟨⟨by omega, by omega⟩, hx, fun q => ?_, fun q => p_tick a c hr hk hv (fun d V2 S2 K2 r2 k2 v2 => ⟨⟨by omega, by omega, fun j hj => ?_, ?_, ?_, ?_⟩, by first | omega | (dsimp only; omega)⟩)⟩
    · have en : n = x := by omega
      rw [en] at D hr hk hv
      rw [hv.2.1]
      exact kk h h2 (by omega) D V' S' K' hr hk hv
    · by_cases z : (j : Int) < n
      · exact D j z
      · have : j = n.toNat := by omega
        rw [this]; exact d
    · rw [show (n + 1).toNat = n.toNat + 1 by omega]; exact r2
    · rw [show (n + 1).toNat = n.toNat + 1 by omega]; exact k2
    · rw [show (n + 1).toNat = n.toNat + 1 by omega]; exact v2
  · rw [v.2.1] at h3
    exact k2 h h2 (by omega)
theorem q_pass (A : vA (vs_st M 0 0 0)) (C : vC (vs_st M 0 0 0)) {x : Int} (hx : vs_R x) {post : Int → vs_St → Prop}
    (kk : 1 ≤ x → x ≤ 50 → M 30 0 + x ≤ 9999 → (∀ j : Nat, (j : Int) < x → vz_D22 (vz_pass (vs_st M 0 0 0) j)) ∧ post (vz_pass (vs_st M 0 0 0) x.toNat 30 0) (vz_pass (vs_st M 0 0 0) x.toNat))
    (k1 : ¬ (1 ≤ x ∧ x ≤ 50) → post 0 (vs_st (vs_st M 0 0 0) 0 0 1)) (k2 : 1 ≤ x → x ≤ 50 → 9999 < M 30 0 + x → post 0 (vs_st (vs_st M 0 0 0) 0 0 2)) : wX3_pass M x post := by
  unfold wX3_pass
  intro S1 e1
  subst e1
  have hc : 0 ≤ M 30 0 ∧ M 30 0 ≤ 9999 := C.2.1
  have e30 : vs_st M 0 0 0 30 0 = M 30 0 := rfl
  rw [e30]
  refine q_isBetween hx ⟨by omega, by omega⟩ ⟨by omega, by omega⟩ ⟨vz_bR _, fun q => ?_, fun q => q_fails (k1 (vz_bn.mp q))⟩
  have hq := vz_bp.mp q
  refine ⟨⟨by omega, by omega⟩, fun w => ?_, fun w => q_fails (k2 hq.1 hq.2 w)⟩
  obtain ⟨D, kk⟩ := kk hq.1 hq.2 w
  refine ⟨fun n S' => 0 ≤ n ∧ n ≤ x ∧ S' = vz_pass (vs_st M 0 0 0) n.toNat, fun n _ => (51 - n).toNat, ⟨by omega, by omega, rfl⟩, ?_⟩
  rintro n S' ⟨n0, n1, rfl⟩
  obtain ⟨a, c, e, _⟩ := vz_pass_ok A C n.toNat (by rw [e30]; omega) (fun j h => D j (by omega))
  unfold lX3_pass_41
  refine ⟨⟨by omega, by omega⟩, hx, fun q => ?_, fun q => q_ticks a c (D n.toNat (by omega)) ⟨⟨by omega, by omega, ?_⟩, by first | omega | (dsimp only; omega)⟩⟩
  · have en : n = x := by omega
    rw [en]; exact kk
  · rw [show (n + 1).toNat = n.toNat + 1 by omega]; rfl
end VZF
