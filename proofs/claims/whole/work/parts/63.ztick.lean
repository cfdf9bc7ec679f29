/-! pure part: a tick, and a pass of ticks: both sides -/
section VZD
variable {M S K V : vs_St}
theorem vM_puts (h : vM M) {b s : Int} (hb : M 14 b ≠ 0) : vM (vz_puts M b s) := by
  intro b' a0 a1 k
  rw [vz_p10] at k
  show M 14 b' ≠ 0
  by_cases e : b' = b
  · rw [e]; exact hb
  · rw [if_neg e] at k; exact h b' a0 a1 k
theorem vM_takes (h : vM M) {b i : Int} : vM (vz_takes M b i) := by
  intro b' a0 a1 k
  rw [vz_t10] at k
  show M 14 b' ≠ 0
  by_cases e : b' = b
  · rw [if_pos e] at k; subst e; exact h b' a0 a1 (by omega)
  · rw [if_neg e] at k; exact h b' a0 a1 k
theorem vz_comp_vM (h : vM M) {b : Int} (hb : M 14 b ≠ 0) (lim n : Int) : ∀ k : Nat, vM (vz_comp b lim n M k).2 ∧ (vz_comp b lim n M k).2 14 = M 14
  | 0 => ⟨h, rfl⟩
  | k + 1 => by
    obtain ⟨a, e⟩ := vz_comp_vM h hb lim n k
    rw [vz_comp_s]
    unfold vz_cstep
    split
    · exact ⟨vM_puts a (by rw [e]; exact hb), e⟩
    · exact ⟨a, e⟩
theorem vz_mv_vM (h : vM M) {b : Int} (hb : M 14 b ≠ 0) (lim : Int) : ∀ k : Nat, vM (vz_mv b lim M k).2.2 ∧ (vz_mv b lim M k).2.2 14 = M 14
  | 0 => ⟨h, rfl⟩
  | k + 1 => by
    obtain ⟨a, e⟩ := vz_mv_vM h hb lim k
    rw [vz_mv_s]
    unfold vz_mstep
    split
    · split
      · exact ⟨vM_puts (vM_takes a) (by show (vz_mv b lim M k).2.2 14 b ≠ 0; rw [e]; exact hb), e⟩
      · exact ⟨a, e⟩
    · exact ⟨a, e⟩
theorem vz_R1_vM (I : vI M) (O : vO M) (h : vM M) (most : Int) : ∀ k : Nat, (k : Int) ≤ M 15 0 → vM (vz_R1 most M k).2
  | 0, _ => h
  | k + 1, hk => by
    obtain ⟨a, f, c, d, e⟩ := vz_R1_ok I O most k (by omega)
    have ih := vz_R1_vM I O h most k (by omega)
    have OS := vO_fr f O
    have e15 := f 15 (by decide) (by decide) (by decide) (by decide)
    have ho := OS.od k (by omega) (by rw [e15]; omega)
    rw [vz_R1_s]
    rcases Classical.em (vz_lost (vz_R1 most M k).2 ((vz_R1 most M k).2 13 k)) with q | q
    · rw [vz_r1L q]; exact ih
    · rw [vz_r1N q]; exact (vz_comp_vM ih ho.2.2 _ _ _).1
theorem vz_R2_vM (I : vI M) (O : vO M) (h : vM M) (most n : Int) : ∀ k : Nat, (k : Int) ≤ M 15 0 → vM (vz_R2 most n M k).2
  | 0, _ => h
  | k + 1, hk => by
    obtain ⟨a, f, c, d, e⟩ := vz_R2_ok I O most n k (by omega)
    have ih := vz_R2_vM I O h most n k (by omega)
    have OS := vO_fr f O
    have e15 := f 15 (by decide) (by decide) (by decide) (by decide)
    have ho := OS.od k (by omega) (by rw [e15]; omega)
    rw [vz_R2_s]
    rcases Classical.em (vz_lost (vz_R2 most n M k).2 ((vz_R2 most n M k).2 13 k)) with q | q
    · rw [vz_r2L q]; exact ih
    · rw [vz_r2N q]; exact (vz_mv_vM ih ho.2.2 _ _).1
theorem vz_reb_vM (I : vI M) (O : vO M) (h : vM M) (most : Int) : vM (vz_reb most M).2 := by
  have hw := vz_wbd O
  obtain ⟨a, f, c, d, e⟩ := vz_R1_ok I O most (M 15 0).toNat (by omega)
  have e15 := f 15 (by decide) (by decide) (by decide) (by decide)
  exact vz_R2_vM a (vO_fr f O) (vz_R1_vM I O h most _ (by omega)) most _ _ (by rw [e15]; omega)
def vz_ca (c : Nat) : Bool := [1, 2, 3, 5, 7, 8, 10, 12, 13, 14, 15, 16, 17, 23, 24, 26, 27, 28].contains c
def vz_ck (c : Nat) : Bool := [17, 18, 19, 20, 23, 24, 25, 26, 27, 28].contains c
theorem vA_kq {M' : vs_St} (A : vA M) (h : ∀ c : Nat, vz_ca c = true → M' c = M c) : vA M' := by
  refine ⟨vI_eq A.I (fun c q => by rcases q with q | q | q | q | q | q | q <;> subst q <;> exact h _ rfl), vO_eq A.O (h 12 rfl) (h 13 rfl) (h 14 rfl) (h 15 rfl) (h 16 rfl), ?_, ?_, ?_, ?_⟩
  · unfold vM; rw [h 10 rfl, h 14 rfl]; exact A.V
  · unfold vQ; rw [h 27 rfl, h 28 rfl, h 23 rfl, h 24 rfl, h 26 rfl]; exact A.Q
  · rw [h 27 rfl, h 16 rfl]; exact A.T
  · rw [h 17 rfl]; exact A.P
theorem vS_kq {M' : vs_St} (r : vS M S) (h : ∀ c : Nat, vz_ca c = true → M' c = M c) : vS M' S := by
  unfold vS vz_used
  rw [h 7 rfl, h 1 rfl, h 2 rfl, h 3 rfl, h 5 rfl, h 16 rfl, h 14 rfl, h 12 rfl, h 10 rfl, h 8 rfl, h 15 rfl, h 13 rfl]
  exact r
theorem vK_kq {M' : vs_St} (k : vK M K) (h : ∀ c : Nat, vz_ck c = true → M' c = M c) : vK M' K := by
  unfold vK vz_waitA vz_wait vz_W
  rw [h 27 rfl, h 17 rfl, h 18 rfl, h 19 rfl, h 20 rfl, h 28 rfl, h 23 rfl, h 24 rfl, h 26 rfl, h 25 rfl]
  exact k
theorem vK_kk {K' : vs_St} (k : vK M K) (h : ∀ c : Nat, c ≠ 4 → K' c = K c) : vK M K' := by
  unfold vK
  rw [h 0 (by decide), h 1 (by decide), h 3 (by decide), h 5 (by decide), h 6 (by decide), h 8 (by decide), h 10 (by decide), h 11 (by decide), h 12 (by decide), h 13 (by decide), h 9 (by decide), h 2 (by decide), h 7 (by decide)]
  exact k
def vC (M : vs_St) : Prop := (0 ≤ M 29 0 ∧ M 29 0 ≤ 20) ∧ (0 ≤ M 30 0 ∧ M 30 0 ≤ 9999) ∧ (0 ≤ M 31 0 ∧ M 31 0 ≤ 10 * M 30 0) ∧ ∀ t : Int, 0 ≤ t → t < 4 → (0 ≤ M 19 t ∧ M 19 t ≤ 20 * M 30 0) ∧ 0 ≤ M 20 t ∧ M 20 t ≤ M 30 0
def vV (M V : vs_St) : Prop := V 4 0 = M 29 0 ∧ V 5 0 = M 30 0 ∧ V 6 0 = M 31 0
noncomputable def vz_beg (t : Nat) (x : vs_St) : vs_St := vs_st (vs_st x 21 (t : Int) (vz_wait x t)) 22 (t : Int) 0
def vz_lk (x : vs_St) (t : Int) : Int := max 0 (min (x 17 t) (x 21 t) - x 22 t)
def vz_crd (t : Nat) (x : vs_St) : vs_St := vs_st (vs_st x 19 (t : Int) (x 19 t + vz_lk x t)) 20 (t : Int) (x 20 t + (if vz_lk x t ≤ 0 then 0 else 1))
noncomputable def vz_bg (M : vs_St) (k : Nat) : vs_St := vz_it vz_beg k M
def vz_cd (M : vs_St) (k : Nat) : vs_St := vz_it vz_crd k M
theorem vz_bg_ne (M : vs_St) {c : Nat} (h1 : c ≠ 21) (h2 : c ≠ 22) : ∀ k : Nat, vz_bg M k c = M c
  | 0 => rfl
  | k + 1 => by
    show vs_st (vs_st (vz_bg M k) 21 _ _) 22 _ _ c = _
    rw [vs_st_ne _ h2, vs_st_ne _ h1]; exact vz_bg_ne M h1 h2 k
theorem vz_cd_ne (M : vs_St) {c : Nat} (h1 : c ≠ 19) (h2 : c ≠ 20) : ∀ k : Nat, vz_cd M k c = M c
  | 0 => rfl
  | k + 1 => by
    show vs_st (vs_st (vz_cd M k) 19 _ _) 20 _ _ c = _
    rw [vs_st_ne _ h2, vs_st_ne _ h1]; exact vz_cd_ne M h1 h2 k
theorem vz_wait_eq {M' : vs_St} (h26 : M' 26 = M 26) (h23 : M' 23 = M 23) (h28 : M' 28 = M 28) (t : Int) : vz_wait M' t = vz_wait M t := by
  unfold vz_wait vz_W; rw [h26, h23, h28]
theorem vz_bg_v (M : vs_St) : ∀ k : Nat, ∀ t : Int, 0 ≤ t → t < k → vz_bg M k 21 t = vz_wait M t ∧ vz_bg M k 22 t = 0
  | 0, t, h0, h1 => by omega
  | k + 1, t, h0, h1 => by
    have ew : vz_wait (vz_bg M k) k = vz_wait M k := vz_wait_eq (vz_bg_ne M (by decide) (by decide) k) (vz_bg_ne M (by decide) (by decide) k) (vz_bg_ne M (by decide) (by decide) k) _
    show (if t = (k : Int) then vz_wait (vz_bg M k) k else vz_bg M k 21 t) = _ ∧ (if t = (k : Int) then 0 else vz_bg M k 22 t) = 0
    by_cases e : t = k
    · rw [if_pos e, if_pos e, ew, e]; exact ⟨rfl, rfl⟩
    · rw [if_neg e, if_neg e]; exact vz_bg_v M k t h0 (by omega)
noncomputable def vz_k1 (M : vs_St) : vs_St := vz_bg M (M 27 0).toNat
noncomputable def vz_k2 (M : vs_St) : Int × vs_St := vz_reb (vz_k1 M 29 0 / 2) (vz_k1 M)
noncomputable def vz_k3 (M : vs_St) : vs_St := vs_st (vz_k2 M).2 31 0 ((vz_k2 M).2 31 0 + (vz_k2 M).1)
noncomputable def vz_k4 (M : vs_St) : vs_St := (vz_rnds (20 - 2 * (vz_k2 M).1) (vz_k3 M) 21).2.2
noncomputable def vz_k5 (M : vs_St) : vs_St := vz_cd (vz_k4 M) (M 27 0).toNat
noncomputable def vz_tick (M : vs_St) : vs_St := vs_st (vz_k5 M) 30 0 (vz_k5 M 30 0 + 1)
end VZD
