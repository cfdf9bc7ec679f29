/-! pure part: the line -/
section VZO
variable {M S K V T O : vs_St}
def vz_tq (T T' : vs_TT) : Prop := T.1 = T'.1 ∧ ∀ j : Int, 0 ≤ j → j < T.1 → T.2.2 j = T'.2.2 j ∧ 0 ≤ T.2.2 j ∧ T.2.2 j < 128
theorem vz_gf {T : vs_TT} (h : vs_tk T) (k : Int) {j : Int} (j0 : 0 ≤ j) (j1 : j < T.1) : vs_gf T.2.1 k T.2.2 j = T.2.2 j := by
  have hT := h.1
  unfold vs_gf
  split
  · rfl
  · unfold vs_cpB
    rw [if_pos (by omega)]
theorem vz_tq_aC {T T' : vs_TT} (q : vz_tq T T') (h : vs_tk T) (h' : vs_tk T') {x : Int} (hx : 0 ≤ x ∧ x < 128) : vz_tq (vs_aC x T) (vs_aC x T') := by
  refine ⟨by show T.1 + 1 = T'.1 + 1; rw [q.1], fun j j0 j1 => ?_⟩
  have j1 : j < T.1 + 1 := j1
  show vs_up (vs_gf T.2.1 (T.1 + 1) T.2.2) T.1 x j = vs_up (vs_gf T'.2.1 (T'.1 + 1) T'.2.2) T'.1 x j ∧ 0 ≤ vs_up (vs_gf T.2.1 (T.1 + 1) T.2.2) T.1 x j ∧ vs_up (vs_gf T.2.1 (T.1 + 1) T.2.2) T.1 x j < 128
  unfold vs_up
  by_cases e : j = T.1
  · rw [if_pos e, if_pos (by rw [← q.1]; exact e)]; exact ⟨rfl, hx.1, hx.2⟩
  · have hq := q.1
    rw [if_neg e, if_neg (by omega), vz_gf h _ j0 (by omega), vz_gf h' _ j0 (by omega)]
    exact q.2 j j0 (by omega)
theorem vz_tq_aI {T T' : vs_TT} (q : vz_tq T T') (h : vs_tk T) (h' : vs_tk T') {x : Int} (hx : 0 ≤ x ∧ x < 100) : vz_tq (vs_aI x T) (vs_aI x T') := by
  have hq := q.1
  have hT := h.1
  refine ⟨by show T.1 + vs_dg x = T'.1 + vs_dg x; rw [q.1], fun j j0 j1 => ?_⟩
  have j1 : j < T.1 + vs_dg x := j1
  show vs_gc x (T.1 + vs_dg x) (vs_gf T.2.1 (T.1 + vs_dg x) T.2.2) j = vs_gc x (T'.1 + vs_dg x) (vs_gf T'.2.1 (T'.1 + vs_dg x) T'.2.2) j ∧ 0 ≤ vs_gc x (T.1 + vs_dg x) (vs_gf T.2.1 (T.1 + vs_dg x) T.2.2) j ∧ vs_gc x (T.1 + vs_dg x) (vs_gf T.2.1 (T.1 + vs_dg x) T.2.2) j < 128
  rw [← hq]
  by_cases e : x < 10
  · have dgx : vs_dg x = 1 := if_pos e
    have eg : ∀ (i : Int) (f : Int → Int), vs_gc x i f = vs_up f (i - 1) (x + 48) := fun i f => if_pos e
    rw [eg, eg, dgx]
    rw [dgx] at j1
    unfold vs_up
    by_cases w : j = T.1 + 1 - 1
    · rw [if_pos w, if_pos w]; omega
    · rw [if_neg w, if_neg w, vz_gf h _ j0 (by omega), vz_gf h' _ j0 (by omega)]
      exact q.2 j j0 (by omega)
  · have dgx : vs_dg x = 2 := if_neg e
    have eg : ∀ (i : Int) (f : Int → Int), vs_gc x i f = vs_up (vs_up f (i - 1) (x % 10 + 48)) (i - 2) (x / 10 + 48) := fun i f => if_neg e
    rw [eg, eg, dgx]
    rw [dgx] at j1
    unfold vs_up
    by_cases w : j = T.1 + 2 - 2
    · rw [if_pos w, if_pos w]; omega
    · by_cases w2 : j = T.1 + 2 - 1
      · rw [if_neg w, if_neg w, if_pos w2, if_pos w2]; omega
      · rw [if_neg w, if_neg w, if_neg w2, if_neg w2, vz_gf h _ j0 (by omega), vz_gf h' _ j0 (by omega)]
        exact q.2 j j0 (by omega)
theorem vz_aC1 (x : Int) (T : vs_TT) : (vs_aC x T).1 = T.1 + 1 := rfl
theorem vz_aI1 (x : Int) (T : vs_TT) : (vs_aI x T).1 ≤ T.1 + 2 := by
  show T.1 + vs_dg x ≤ _
  have := vs_dg12 x
  omega
theorem vz_tq_c4 {T T' : vs_TT} (q : vz_tq T T') (h : vs_tk T) (h' : vs_tk T') (hn : T.1 ≤ 190) {v : Int} (hv : 0 ≤ v ∧ v < 1000) : vz_tq (vs_c4 v T) (vs_c4 v T') ∧ vs_tk (vs_c4 v T) ∧ vs_tk (vs_c4 v T') ∧ (vs_c4 v T).1 ≤ T.1 + 6 := by
  have hq := q.1
  have c : (0 : Int) ≤ 32 ∧ (32 : Int) < 128 := by omega
  have c2 : (0 : Int) ≤ 46 ∧ (46 : Int) < 128 := by omega
  have q1 := vz_tq_aC q h h' c
  have k1 := vs_aC_k h (by omega) c
  have k1' := vs_aC_k h' (by omega) c
  have n1 := vz_aC1 32 T
  have n1' := q1.1
  have d1 : 0 ≤ v / 100 ∧ v / 100 < 100 := by omega
  have q2 := vz_tq_aI q1 k1 k1' d1
  have k2 := vs_aI_k k1 (by omega) d1
  have k2' := vs_aI_k k1' (by omega) d1
  have n2 := vz_aI1 (v / 100) (vs_aC 32 T)
  have n2' := q2.1
  have q3 := vz_tq_aC q2 k2 k2' c2
  have k3 := vs_aC_k k2 (by omega) c2
  have k3' := vs_aC_k k2' (by omega) c2
  have n3 := vz_aC1 46 (vs_aI (v / 100) (vs_aC 32 T))
  have n3' := q3.1
  have d2 : 0 ≤ v % 100 ∧ v % 100 < 100 := by omega
  have q4 := vz_tq_aI q3 k3 k3' d2
  have n4 := vz_aI1 (v % 100) (vs_aC 46 (vs_aI (v / 100) (vs_aC 32 T)))
  exact ⟨q4, vs_aI_k k3 (by omega) d2, vs_aI_k k3' (by omega) d2, by unfold vs_c4; omega⟩
theorem vz_tq_cp {T T' : vs_TT} (q : vz_tq T T') (h : vs_tk T) (h' : vs_tk T') (hn : T.1 ≤ 190) {v r : Int} (hv : 0 ≤ v ∧ v < 1000) : vz_tq (vs_cp v r T) (vs_cp v r T') := by
  obtain ⟨q4, k4, k4', n4⟩ := vz_tq_c4 q h h' hn hv
  unfold vs_cp
  split
  · exact q4
  · exact vz_tq_aC q4 k4 k4' (by omega)
theorem vz_tq_fw {H R H' R' : Int → Int} {i0 : Int} {T T' : vs_TT} (q : vz_tq T T') (h : vs_tk T) (h' : vs_tk T') (hn : T.1 = 1) : ∀ j : Nat, j ≤ 32 → (∀ i : Nat, i < 32 → vs_slotok H R (i0 + i)) → (∀ i : Nat, i < 32 → vs_slotok H' R' (i0 + i)) → (∀ i : Nat, i < j → H (i0 + i) = H' (i0 + i) ∧ (H (i0 + i) ≠ -1 → R (i0 + i) = R' (i0 + i))) → vz_tq (vs_fw H R i0 j T) (vs_fw H' R' i0 j T')
  | 0, _, _, _, _ => q
  | j + 1, hj, s, s', e => by
    have ih := vz_tq_fw q h h' hn j (by omega) s s' (fun i hi => e i (by omega))
    have ej := e j (by omega)
    have kk := vs_fw_k h hn j (by omega) (fun i hi => s i (by omega))
    have kk' := vs_fw_k h' (by rw [← q.1]; exact hn) j (by omega) (fun i hi => s' i (by omega))
    show vz_tq (if H (i0 + j) = -1 then vs_fw H R i0 j T else vs_cp (H (i0 + j)) (R (i0 + j)) (vs_fw H R i0 j T)) (if H' (i0 + j) = -1 then vs_fw H' R' i0 j T' else vs_cp (H' (i0 + j)) (R' (i0 + j)) (vs_fw H' R' i0 j T'))
    rw [← ej.1]
    by_cases w : H (i0 + j) = -1
    · rw [if_pos w, if_pos w]; exact ih
    · rw [if_neg w, if_neg w, ← ej.2 w]
      have hs := s j (by omega)
      refine vz_tq_cp ih kk.1 kk'.1 (by omega) ?_
      rcases hs.1 with z | z
      · exact absurd z w
      · exact z
theorem vz_tk0 {B : vs_TT} (h : vs_tk B) : vs_tk (0, B.2) := ⟨⟨Int.le_refl _, by show (0 : Int) ≤ (B.2.1 : Int); omega⟩, h.2.1, h.2.2⟩
theorem vz_tk16 : vs_tk (0, 16, fun _ => 0) := ⟨⟨Int.le_refl _, by show (0 : Int) ≤ ((16 : Nat) : Int); omega⟩, by show (16 : Nat) ≤ 404; omega, fun j _ _ => by show -128 ≤ (0 : Int) ∧ (0 : Int) < 128; omega⟩
/-- what both sides write of a disk -/
theorem vz_lines (A : vA M) (r : vS M S) {B : vs_TT} (hB : vs_tk B) {d : Int} (d0 : 0 ≤ d) (d1 : d < M 7 0) :
    (∀ i : Nat, i < 32 → vs_slotok (S 4) (S 5) (d * 32 + i)) ∧ (∀ i : Nat, i < 32 → vs_slotok (M 3) (M 5) (32 * d + i)) ∧ vz_tq (vs_wl (S 3 d) (S 1 d) (S 4) (S 5) (d * 32) B) (vs_wl (M 2 d) (M 1 d) (M 3) (M 5) (32 * d) (0, 16, fun _ => 0)) ∧ vs_tk (vs_wl (S 3 d) (S 1 d) (S 4) (S 5) (d * 32) B) ∧ (vs_wl (S 3 d) (S 1 d) (S 4) (S 5) (d * 32) B).1 ≤ 1 + 6 * 32 := by
  have hd := A.I.dk
  have hs := A.I.sz d d0 d1
  have hst := A.I.stt d d0 d1
  have ok : ∀ i : Nat, i < 32 → vs_slotok (M 3) (M 5) (32 * d + i) := by
    intro i hi
    refine ⟨?_, A.I.rt _ (by omega) (by omega)⟩
    rcases A.I.hd (32 * d + i) (by omega) (by omega) with z | ⟨z0, z1, _⟩
    · exact Or.inl z
    · exact Or.inr ⟨z0, by omega⟩
  have ok2 : ∀ i : Nat, i < 32 → vs_slotok (S 4) (S 5) (32 * d + i) := by
    intro i hi
    have := ok i hi
    refine ⟨by rw [r.hd _ (by omega) (by omega)]; exact this.1, ?_⟩
    rw [r.rt _ (by omega) (by omega)]
    split
    · exact Or.inl rfl
    · exact this.2
  have e : d * 32 = 32 * d := by omega
  rw [e, r.stt d d0 d1, r.sz d d0 d1]
  have cz : 0 ≤ M 2 d ∧ M 2 d < 128 := by omega
  have q0 : vz_tq (0, B.2) (0, 16, fun _ => 0) := ⟨rfl, fun j j0 j1 => by
    have j1 : j < 0 := j1
    omega⟩
  have q1 := vz_tq_aC q0 (vz_tk0 hB) vz_tk16 cz
  have k1 := vs_aC_k (vz_tk0 hB) (by show (0 : Int) ≤ 200; omega) cz
  have k1' := vs_aC_k vz_tk16 (by show (0 : Int) ≤ 200; omega) cz
  have n1 : (vs_aC (M 2 d) (0, B.2)).1 = 1 := rfl
  have kk := vs_fw_k (H := S 4) (R := S 5) (i0 := 32 * d) k1 n1 (M 1 d).toNat (by omega) (fun i hi => ok2 i (by omega))
  refine ⟨ok2, ok, ?_, kk.1, by unfold vs_wl; omega⟩
  unfold vs_wl
  refine vz_tq_fw q1 k1 k1' n1 (M 1 d).toNat (by omega) ok2 ok (fun i hi => ⟨r.hd _ (by omega) (by omega), fun w => ?_⟩)
  rw [r.hd _ (by omega) (by omega)] at w
  rw [r.rt _ (by omega) (by omega), if_neg ?_]
  have := (ok i (by omega)).1
  omega
theorem okc_38 : vs_okc_38 vZ := by
  intro V S T K O M B LN p1 h1 Z
  obtain ⟨Y, L, W⟩ := Z
  have Y0 := vY_0 Y 0
  have Y1 := vY_0 Y 1
  have hdk := Y.A.I.dk
  unfold wcase_38 wL_writeDisk wX2_writeDisk wX3_writeDisk
  refine p_checkDisk Y h1 (fun d0 d1 => ?_) (fun hn => ⟨fun _ => q_isNoDisk Y.A.I.dk h1 (fun z0 z1 => absurd ⟨z0, z1⟩ hn) (fun _ => ⟨vR1, fun z => by omega, fun _ => ?_⟩), rfl⟩)
  · obtain ⟨ok, ok', q, kB, len⟩ := vz_lines Y.A Y.r L.2.1 d0 d1
    have hs := Y.A.I.sz p1 d0 d1
    have hst := Y.A.I.stt p1 d0 d1
    have s1 := Y.r.sz p1 d0 d1
    have s3 := Y.r.stt p1 d0 d1
    unfold vs_wdp
    have lb := kB.1
    refine ⟨⟨d0, by omega⟩, ⟨by omega, by omega⟩, ⟨by omega, by omega⟩, ok, ⟨by omega, by omega⟩, fun O2 e2 => ?_⟩
    refine q_isNoDisk Y.A.I.dk h1 (fun _ _ => ⟨vs_R0, fun _ => ?_, fun z => absurd rfl z⟩) (fun z => absurd ⟨d0, d1⟩ z)
    unfold vs_wdq
    have qq := q.1
    refine ⟨⟨d0, by omega⟩, ⟨by show 0 ≤ M 2 p1; omega, by show M 2 p1 < 128; omega⟩, ⟨by show 0 ≤ M 1 p1; omega, by show M 1 p1 ≤ 32; omega⟩, ok', ?_⟩
    have fin : ∀ LN' : vs_LN, vs_lnS (some (vs_wl (M 2 p1) (M 1 p1) (M 3) (M 5) (32 * p1) (0, 16, fun _ => 0))) LN LN' → vZ V S T K (vs_st M 0 0 0) (vs_wl (S 3 p1) (S 1 p1) (S 4) (S 5) (p1 * 32) B) LN' := by
      rintro LN' ⟨l1, l2⟩
      refine ⟨Y0, ⟨l1.trans qq.symm, kB, fun j j0 j1 => ?_⟩, W⟩
      have := q.2 j j0 j1
      exact ⟨by rw [l2 j j0 (by rw [← qq]; exact j1), this.1], this.2.1, by omega⟩
    unfold wX3_thrown
    have e0 : O2 0 0 = (vs_wl (M 2 p1) (M 1 p1) (M 3) (M 5) (32 * p1) (0, 16, fun _ => 0)).1 := by rw [e2, vz_00, qq]
    have hR : vs_R (vs_wl (M 2 p1) (M 1 p1) (M 3) (M 5) (32 * p1) (0, 16, fun _ => 0)).1 := ⟨by omega, by omega⟩
    dsimp only
    rw [vz_00, e0]
    refine ⟨vs_R0, vs_R0, fun _ => ⟨fun z => absurd rfl z, fun _ => ⟨hR, hR, ?_⟩⟩, fun z => z rfl⟩
    show (vs_R (vs_cmp (vs_wl (M 2 p1) (M 1 p1) (M 3) (M 5) (32 * p1) (0, 16, fun _ => 0)).1 (vs_wl (M 2 p1) (M 1 p1) (M 3) (M 5) (32 * p1) (0, 16, fun _ => 0)).1)) ∧ ((vs_cmp (vs_wl (M 2 p1) (M 1 p1) (M 3) (M 5) (32 * p1) (0, 16, fun _ => 0)).1 (vs_wl (M 2 p1) (M 1 p1) (M 3) (M 5) (32 * p1) (0, 16, fun _ => 0)).1) = 0 → _) ∧ (¬ (vs_cmp (vs_wl (M 2 p1) (M 1 p1) (M 3) (M 5) (32 * p1) (0, 16, fun _ => 0)).1 (vs_wl (M 2 p1) (M 1 p1) (M 3) (M 5) (32 * p1) (0, 16, fun _ => 0)).1) = 0 → False)
    rw [vz_cmp0]
    exact ⟨vs_R0, fun _ => fin, fun z => z rfl⟩
  · unfold wX3_thrown
    dsimp only
    rw [vz_00]
    refine ⟨vR1, vR1, fun _ => ⟨fun _ LN' hl => ?_, fun z => by omega⟩, fun z => z rfl⟩
    have hl : LN' = LN := hl
    subst hl
    exact ⟨Y1, L, W⟩
theorem okc_39 : vs_okc_39 vZ := by
  intro V S T K O M B LN p1 h1 Z
  obtain ⟨Y, L, W⟩ := Z
  have Y0 := vY_0 Y 0
  have Y1 := vY_0 Y0 1
  have lb := L.2.1.1
  have lc := L.2.1.2.1
  unfold wcase_39 wL_lineAt wX2_lineAt wX3_lineAt
  rw [L.1]
  refine ⟨h1, fun h => ?_, fun h => ⟨fun _ => q_isBetween h1 ⟨by omega, by omega⟩ ⟨by omega, by omega⟩ ⟨vz_bR _, fun _ => q_fails ⟨by omega, ?_⟩, fun z => ?_⟩, rfl⟩⟩
  · have hj := L.2.2 p1 h.1 h.2
    refine ⟨⟨by omega, by omega⟩, ⟨by omega, by omega⟩, fun O2 e2 => q_isBetween h1 ⟨by omega, by omega⟩ ⟨by omega, by omega⟩ ⟨vz_bR _, fun z => absurd ⟨h.1, by omega⟩ (vz_bn.mp z), fun _ => ⟨h, by rw [hj.1]; exact hj.2, ?_⟩⟩⟩
    unfold wX3_thrown
    have e0 : O2 0 0 = vs_lnF LN p1 := by rw [e2, vz_00, hj.1]
    have hR : vs_R (vs_lnF LN p1) := by rw [hj.1]; exact ⟨by omega, by omega⟩
    dsimp only
    rw [vz_00, e0, vz_cmp0]
    exact ⟨vs_R0, vs_R0, fun _ => ⟨fun z => absurd rfl z, fun _ => ⟨hR, hR, vs_R0, fun _ => ⟨Y0, L, W⟩, fun z => z rfl⟩⟩, fun z => z rfl⟩
  · unfold wX3_thrown
    dsimp only
    rw [vz_00]
    exact ⟨vR1, vR1, fun _ => ⟨fun _ => ⟨Y1, L, W⟩, fun z => by omega⟩, fun z => z rfl⟩
  · have := vz_bp.mp z
    omega
end VZO
