/-! pure part: what the class's store answers, its reads -/
section VZ1
variable {M S : vs_St}
theorem p_disksInState (I : vI M) (r : vS M S) {x : Int} (hx : vs_R x) {post : Int → Prop} (k : ∀ m, vz_mask m (fun d => d < M 7 0 ∧ M 2 d = x) → post m) : wX1_disksInState S x post := by
  unfold wX1_disksInState
  have hd := I.dk
  refine ⟨fun m i => 0 ≤ i ∧ i ≤ M 7 0 ∧ vz_mask m (fun d => d < i ∧ M 2 d = x), fun _ i => (M 7 0 - i).toNat, ⟨by omega, by omega, vz_mask_0 (fun d a b c => by omega)⟩, ?_⟩
  rintro m i ⟨h0, h1, hm⟩
  unfold lX1_disksInState_4
  rw [r.dk]
  refine ⟨⟨by omega, by omega⟩, ⟨by omega, by omega⟩, fun h => ?_, fun h => ?_⟩
  · have e : i = M 7 0 := by omega
    rw [e] at hm
    exact k m hm
  · have hs := I.stt i h0 h
    rw [r.stt i h0 h]
    refine ⟨⟨h0, by omega⟩, ⟨by omega, by omega⟩, hx, fun q => ⟨⟨by omega, by omega, hm.to (fun d a b => ?_)⟩, by first | omega | (dsimp only; omega)⟩, fun q v1 hv => ?_⟩
    · constructor
      · rintro ⟨u, v⟩; exact ⟨by omega, v⟩
      · rintro ⟨u, v⟩
        refine ⟨?_, v⟩
        by_cases e : d = i
        · subst e; exact absurd v q
        · omega
    · subst hv
      refine ⟨⟨by omega, by omega, hm.or h0 (by omega) (fun d a b => ?_)⟩, by first | omega | (dsimp only; omega)⟩
      constructor
      · rintro ⟨u, v⟩
        by_cases e : d = i
        · exact Or.inr e
        · exact Or.inl ⟨by omega, v⟩
      · rintro (⟨u, v⟩ | e)
        · exact ⟨by omega, v⟩
        · subst e; exact ⟨by omega, q⟩
theorem p_addressOf (I : vI M) (r : vS M S) {b j : Int} (h0 : 0 ≤ b) (h1 : b < 400) (j0 : 0 ≤ j) (j1 : j < M 10 b) {post : Int → Prop} (k : post (M 8 (3 * b + j))) : wX1_addressOf S b j post := by
  unfold wX1_addressOf
  have := I.mn b h0 h1
  rw [r.cp b j h0 h1 j0 j1]
  exact ⟨⟨by omega, by omega⟩, k⟩
theorem p_wantedOf (O : vO M) (r : vS M S) {b : Int} (h0 : 0 ≤ b) (h1 : b < 400) {post : Int → Prop} (k : post (M 16 (b / 100))) : wX1_wantedOf S b post := by
  unfold wX1_wantedOf
  rw [r.wn _ (by omega) (by omega)]
  exact ⟨⟨by omega, by omega⟩, ⟨by omega, by omega⟩, k⟩
theorem p_disksWithCopy (I : vI M) (r : vS M S) {b : Int} (h0 : 0 ≤ b) (h1 : b < 400) {post : Int → Prop} (k : ∀ m, vz_mask m (fun d => vz_has M d b) → post m) : wX1_disksWithCopy S b post := by
  unfold wX1_disksWithCopy
  have hn := I.mn b h0 h1
  refine ⟨fun m i => 0 ≤ i ∧ i ≤ M 10 b ∧ vz_mask m (fun d => ∃ k : Int, 0 ≤ k ∧ k < i ∧ M 8 (3 * b + k) / 32 = d), fun _ i => (M 10 b - i).toNat, ⟨by omega, by omega, vz_mask_0 (fun d a b ⟨c, _⟩ => by omega)⟩, ?_⟩
  rintro m i ⟨i0, i1, hm⟩
  unfold lX1_disksWithCopy_4
  rw [r.mn b h0 h1]
  refine ⟨⟨by omega, by omega⟩, ⟨by omega, by omega⟩, ⟨by omega, by omega⟩, fun h => ?_, fun h => ?_⟩
  · have e : i = M 10 b := by omega
    rw [e] at hm
    exact k m hm
  · have hc := I.cp b i h0 h1 i0 h
    have hd := I.dk
    refine p_addressOf I r h0 h1 i0 h ⟨⟨by omega, by omega⟩, fun v hv => ?_⟩
    subst hv
    refine ⟨⟨by omega, by omega, hm.or (by omega) (by omega) (fun d a b => ?_)⟩, by first | omega | (dsimp only; omega)⟩
    constructor
    · rintro ⟨u, u0, u1, u2⟩
      by_cases e : u = i
      · subst e; exact Or.inr u2.symm
      · exact Or.inl ⟨u, u0, by omega, u2⟩
    · rintro (⟨u, u0, u1, u2⟩ | e)
      · exact ⟨u, u0, by omega, u2⟩
      · exact ⟨i, i0, by omega, e.symm⟩
def vz_hasG (M : vs_St) (d b : Int) : Prop := ∃ k : Int, 0 ≤ k ∧ k < M 10 b ∧ M 8 (3 * b + k) / 32 = d ∧ M 5 (M 8 (3 * b + k)) = 0
theorem vz_S5 (I : vI M) (r : vS M S) {b j : Int} (h0 : 0 ≤ b) (h1 : b < 400) (j0 : 0 ≤ j) (j1 : j < M 10 b) : S 5 (M 8 (3 * b + j)) = M 5 (M 8 (3 * b + j)) := by
  have hc := I.cp b j h0 h1 j0 j1
  rw [r.rt _ hc.1 hc.2.1, hc.2.2.2.1, if_neg (by omega)]
theorem p_disksWithGood (I : vI M) (r : vS M S) {b : Int} (h0 : 0 ≤ b) (h1 : b < 400) {post : Int → Prop} (k : ∀ m, vz_mask m (fun d => vz_hasG M d b) → post m) : wX1_disksWithGoodCopy S b post := by
  unfold wX1_disksWithGoodCopy
  have hn := I.mn b h0 h1
  refine ⟨fun m i => 0 ≤ i ∧ i ≤ M 10 b ∧ vz_mask m (fun d => ∃ k : Int, 0 ≤ k ∧ k < i ∧ M 8 (3 * b + k) / 32 = d ∧ M 5 (M 8 (3 * b + k)) = 0), fun _ i => (M 10 b - i).toNat, ⟨by omega, by omega, vz_mask_0 (fun d a b ⟨c, _⟩ => by omega)⟩, ?_⟩
  rintro m i ⟨i0, i1, hm⟩
  unfold lX1_disksWithGoodCopy_4
  rw [r.mn b h0 h1]
  refine ⟨⟨by omega, by omega⟩, ⟨by omega, by omega⟩, ⟨by omega, by omega⟩, fun h => ?_, fun h => ?_⟩
  · have e : i = M 10 b := by omega
    rw [e] at hm
    exact k m hm
  · have hc := I.cp b i h0 h1 i0 h
    have hd := I.dk
    have hr := I.rt (M 8 (3 * b + i)) hc.1 (by omega)
    refine p_addressOf I r h0 h1 i0 h ?_
    rw [vz_S5 I r h0 h1 i0 h]
    refine ⟨⟨by omega, by omega⟩, ⟨by omega, by omega⟩, fun q => ⟨⟨by omega, by omega, hm.to (fun d a b => ?_)⟩, by first | omega | (dsimp only; omega)⟩, fun q => ⟨⟨by omega, by omega⟩, fun v hv => ?_⟩⟩
    · constructor
      · rintro ⟨u, u0, u1, u2⟩; exact ⟨u, u0, by omega, u2⟩
      · rintro ⟨u, u0, u1, u2, u3⟩
        refine ⟨u, u0, ?_, u2, u3⟩
        by_cases e : u = i
        · subst e; exact absurd u3 q
        · omega
    · subst hv
      refine ⟨⟨by omega, by omega, hm.or (by omega) (by omega) (fun d a b => ?_)⟩, by first | omega | (dsimp only; omega)⟩
      constructor
      · rintro ⟨u, u0, u1, u2, u3⟩
        by_cases e : u = i
        · subst e; exact Or.inr u2.symm
        · exact Or.inl ⟨u, u0, by omega, u2, u3⟩
      · rintro (⟨u, u0, u1, u2⟩ | e)
        · exact ⟨u, u0, by omega, u2⟩
        · exact ⟨i, i0, by omega, e.symm, q⟩
/-- the disks with a good copy are as many as the good copies -/
theorem vz_hasG_cnt (I : vI M) {b : Int} (h0 : 0 ≤ b) (h1 : b < 400) : vz_cnt (fun d => vz_hasG M d b) 8 = vz_good M b := by
  have hn := I.mn b h0 h1
  have hd := I.dk
  unfold vz_good
  rw [← vz_cnt_im2 (c := fun k => M 8 (3 * b + k) / 32) (q := fun k => M 5 (M 8 (3 * b + k)) = 0) (N := 8) (m := (M 10 b).toNat) (fun k a c => by
    have hc := I.cp b k h0 h1 a (by omega)
    show 0 ≤ M 8 (3 * b + k) / 32 ∧ M 8 (3 * b + k) / 32 < ((8 : Nat) : Int)
    omega) (fun k k' a c d => I.ds b k k' h0 h1 a c (by omega))]
  refine vz_cnt_ext (fun i a c => ?_)
  unfold vz_hasG
  constructor
  · rintro ⟨u, u0, u1, u2⟩; exact ⟨u, u0, by omega, u2⟩
  · rintro ⟨u, u0, u1, u2⟩; exact ⟨u, u0, by omega, u2⟩
theorem vz_hasG_z (I : vI M) {b : Int} (h0 : 0 ≤ b) (h1 : b < 400) {m : Int} (hm : vz_mask m (fun d => vz_hasG M d b)) : m = 0 ↔ vz_good M b = 0 := by
  rw [hm.z, ← vz_hasG_cnt I h0 h1]
  constructor
  · intro h; exact vz_cnt_0 (fun i a c => h i a (by omega))
  · intro h d a c q
    have := vz_cnt_1 (p := fun d => vz_hasG M d b) (n := 8) a (by omega) q
    omega
theorem vz_good_bd (I : vI M) {b : Int} (h0 : 0 ≤ b) (h1 : b < 400) : 0 ≤ vz_good M b ∧ vz_good M b ≤ 3 := by
  have hn := I.mn b h0 h1
  have := vz_cnt_bd (fun k => M 5 (M 8 (3 * b + k)) = 0) (M 10 b).toNat
  unfold vz_good
  omega
theorem vz_vl (O : vO M) (r : vS M S) {b : Int} (h0 : 0 ≤ b) (h1 : b < 400) : vs_R (S 7 b) ∧ (S 7 b = -1 ↔ M 14 b = 0) := by
  rw [r.vl b h0 h1]
  by_cases q : M 14 b = 0
  · rw [if_pos q]; exact ⟨⟨by omega, by omega⟩, fun _ => q, fun _ => rfl⟩
  · rw [if_neg q]
    have := O.vl b h0 h1 q
    exact ⟨⟨by omega, by omega⟩, fun z => by omega, fun z => absurd z q⟩
theorem p_hasLost (I : vI M) (O : vO M) (r : vS M S) {b : Int} (h0 : 0 ≤ b) (h1 : b < 400) {post : Int → Prop} (k : post (vz_b (vz_lost M b))) : wX1_hasLost S b post := by
  unfold wX1_hasLost
  have hv := vz_vl O r h0 h1
  refine ⟨⟨h0, h1⟩, hv.1, fun q => ?_, fun q => ?_⟩
  · rw [vz_b0 (fun z => z.1 (hv.2.mp q))] at k; exact k
  · refine p_disksWithGood I r h0 h1 (fun m hm => ?_)
    have hr := hm.rg
    have hz := vz_hasG_z I h0 h1 hm
    refine ⟨⟨by omega, by omega⟩, fun w => ?_, fun w => ?_⟩
    · rw [vz_b0 (fun z => w (hz.mpr z.2))] at k; exact k
    · rw [vz_b1 ⟨fun z => q (hv.2.mpr z), hz.mp w⟩] at k; exact k
theorem p_countWritten (O : vO M) (r : vS M S) {t : Int} (ht : vs_R t) {post : Int → Prop} (k : post (vz_cnt (fun i => M 13 i / 100 = t) (M 15 0).toNat)) : wX1_countWritten S t post := by
  unfold wX1_countWritten
  have hw := O.wr
  have hb := vz_cnt_bd (fun b => M 14 b ≠ 0) 400
  refine ⟨fun m i => 0 ≤ i ∧ i ≤ M 15 0 ∧ m = vz_cnt (fun i => M 13 i / 100 = t) i.toNat, fun _ i => (M 15 0 - i).toNat, ⟨by omega, by omega, rfl⟩, ?_⟩
  rintro m i ⟨i0, i1, rfl⟩
  unfold lX1_countWritten_4
  rw [r.wr]
  refine ⟨⟨by omega, by omega⟩, ⟨by omega, by omega⟩, fun h => ?_, fun h => ?_⟩
  · have e : i = M 15 0 := by omega
    rw [e]; exact k
  · have ho := O.od i i0 h
    rw [r.od i i0 h]
    refine ⟨⟨by omega, by omega⟩, ⟨by omega, by omega⟩, ⟨by omega, by omega⟩, ht, fun q => ⟨⟨by omega, by omega, ?_⟩, by first | omega | (dsimp only; omega)⟩, fun q => ⟨⟨by omega, by omega, ?_⟩, by first | omega | (dsimp only; omega)⟩⟩
    · rw [vz_cnt_step _ i0, vz_b0 q, Int.add_zero]
    · rw [vz_cnt_step _ i0, vz_b1 q]
theorem p_countLost (I : vI M) (O : vO M) (r : vS M S) {post : Int → Prop} (k : post (vz_cnt (fun i => vz_lost M (M 13 i)) (M 15 0).toNat)) : wX1_countLost S post := by
  unfold wX1_countLost
  have hw := O.wr
  have hb := vz_cnt_bd (fun b => M 14 b ≠ 0) 400
  refine ⟨fun m i => 0 ≤ i ∧ i ≤ M 15 0 ∧ m = vz_cnt (fun i => vz_lost M (M 13 i)) i.toNat, fun _ i => (M 15 0 - i).toNat, ⟨by omega, by omega, rfl⟩, ?_⟩
  rintro m i ⟨i0, i1, rfl⟩
  unfold lX1_countLost_4
  rw [r.wr]
  refine ⟨⟨by omega, by omega⟩, ⟨by omega, by omega⟩, fun h => ?_, fun h => ?_⟩
  · have e : i = M 15 0 := by omega
    rw [e]; exact k
  · have ho := O.od i i0 h
    rw [r.od i i0 h]
    refine ⟨⟨by omega, by omega⟩, p_hasLost I O r ho.1 ho.2.1 ?_⟩
    have hb := vz_b01 (vz_lost M (M 13 i))
    refine ⟨⟨by omega, by omega⟩, fun q => ⟨⟨by omega, by omega, ?_⟩, by first | omega | (dsimp only; omega)⟩, fun q => ⟨⟨by omega, by omega, ?_⟩, by first | omega | (dsimp only; omega)⟩⟩
    · rw [vz_cnt_step _ i0, q, Int.add_zero]
    · rw [vz_cnt_step _ i0]; omega
theorem p_countDegraded (I : vI M) (O : vO M) (r : vS M S) {post : Int → Prop} (k : post (vz_cnt (fun i => M 10 (M 13 i) < M 16 (M 13 i / 100)) (M 15 0).toNat)) : wX1_countDegraded S post := by
  unfold wX1_countDegraded
  have hw := O.wr
  have hb := vz_cnt_bd (fun b => M 14 b ≠ 0) 400
  refine ⟨fun m i => 0 ≤ i ∧ i ≤ M 15 0 ∧ m = vz_cnt (fun i => M 10 (M 13 i) < M 16 (M 13 i / 100)) i.toNat, fun _ i => (M 15 0 - i).toNat, ⟨by omega, by omega, rfl⟩, ?_⟩
  rintro m i ⟨i0, i1, rfl⟩
  unfold lX1_countDegraded_4
  rw [r.wr]
  refine ⟨⟨by omega, by omega⟩, ⟨by omega, by omega⟩, fun h => ?_, fun h => ?_⟩
  · have e : i = M 15 0 := by omega
    rw [e]; exact k
  · have ho := O.od i i0 h
    rw [r.od i i0 h, r.mn _ ho.1 ho.2.1]
    have hm := I.mn _ ho.1 ho.2.1
    have hq := O.wn (M 13 i / 100) (by omega) (by omega)
    refine ⟨⟨by omega, by omega⟩, ⟨by omega, by omega⟩, ⟨by omega, by omega⟩, p_wantedOf O r ho.1 ho.2.1 ⟨⟨by omega, by omega⟩, ⟨by omega, by omega⟩, fun q => ⟨⟨by omega, by omega, ?_⟩, by first | omega | (dsimp only; omega)⟩, fun q => ⟨⟨by omega, by omega, ?_⟩, by first | omega | (dsimp only; omega)⟩⟩⟩
    · rw [vz_cnt_step _ i0, vz_b0 (by omega), Int.add_zero]
    · rw [vz_cnt_step _ i0, vz_b1 q]
/-- the slots that no disk has hold nothing -/
theorem vz_cnt_tail {p q : Int → Prop} {m n : Nat} (h : m ≤ n) (h1 : ∀ i : Int, 0 ≤ i → i < m → (q i ↔ p i)) (h2 : ∀ i : Int, (m : Int) ≤ i → i < n → ¬ q i) : vz_cnt q n = vz_cnt p m := by
  have : ∀ k : Nat, m + k ≤ n → vz_cnt q (m + k) = vz_cnt p m := by
    intro k
    induction k with
    | zero => intro _; exact vz_cnt_ext h1
    | succ k ih =>
      intro hk
      have e : vz_cnt q (m + k + 1) = vz_cnt q (m + k) + vz_b (q ((m + k : Nat) : Int)) := rfl
      show vz_cnt q (m + k + 1) = _
      rw [e, ih (by omega), vz_b0 (h2 _ (by omega) (by omega))]; omega
  have := this (n - m) (by omega)
  rwa [show m + (n - m) = n by omega] at this
theorem p_countInSlots (I : vI M) (r : vS M S) {b : Int} (h0 : 0 ≤ b) (h1 : b < 400) {post : Int → Prop} (k : post (vz_cnt (fun s => M 3 s = b) (32 * M 7 0).toNat)) : wX1_countInSlots S b post := by
  unfold wX1_countInSlots
  have hd := I.dk
  have hR : ∀ s : Int, 0 ≤ s → s < 256 → vs_R (S 4 s) := by
    intro s a c
    by_cases q : s < 32 * M 7 0
    · rw [r.hd s a q]
      have := I.hd s a q
      rcases this with z | ⟨z, z1, _⟩
      · exact ⟨by omega, by omega⟩
      · exact ⟨by omega, by omega⟩
    · rw [r.hd0 s (by omega) c]; exact ⟨by omega, by omega⟩
  refine ⟨fun m i => 0 ≤ i ∧ i ≤ 256 ∧ m = vz_cnt (fun s => S 4 s = b) i.toNat, fun _ i => (256 - i).toNat, ⟨by omega, by omega, rfl⟩, ?_⟩
  rintro m i ⟨i0, i1, rfl⟩
  unfold lX1_countInSlots_4
  refine ⟨⟨by omega, by omega⟩, fun h => ?_, fun h => ⟨⟨by omega, by omega⟩, hR i i0 h, ⟨by omega, by omega⟩, fun q => ⟨⟨by omega, by omega, ?_⟩, by first | omega | (dsimp only; omega)⟩, fun q => ⟨⟨by omega, by omega, ?_⟩, by first | omega | (dsimp only; omega)⟩⟩⟩
  · have e : i.toNat = 256 := by omega
    rw [e, vz_cnt_tail (p := fun s => M 3 s = b) (m := (32 * M 7 0).toNat) (by omega) (fun s a c => by rw [r.hd s a (by omega)]) (fun s a c q => by rw [r.hd0 s (by omega) (by omega)] at q; omega)]
    exact k
  · rw [vz_cnt_step _ i0, vz_b0 q, Int.add_zero]
  · rw [vz_cnt_step _ i0, vz_b1 q]
theorem vz_used_bd (I : vI M) {d : Int} (h0 : 0 ≤ d) (h1 : d < M 7 0) : 0 ≤ vz_used M d ∧ vz_used M d ≤ M 1 d := by
  have hs := I.sz d h0 h1
  have := vz_cnt_bd (fun j => 0 ≤ M 3 (32 * d + j)) (M 1 d).toNat
  unfold vz_used
  omega
theorem p_freeOn (I : vI M) (r : vS M S) {d : Int} (h0 : 0 ≤ d) (h1 : d < M 7 0) {post : Int → Prop} (k : post (M 1 d - vz_used M d)) : wX1_freeOn S d post := by
  unfold wX1_freeOn
  have hd := I.dk
  rw [r.sz d h0 h1, r.us d h0 h1]
  exact ⟨⟨by omega, by omega⟩, ⟨by omega, by omega⟩, k⟩
theorem vz_first_eq : ∀ {n : Nat} {a s : Int}, a ≤ s → s < a + n → (∀ i : Int, a ≤ i → i < s → ¬ M 3 i < 0) → M 3 s < 0 → vz_first M a n = s
  | 0, a, s, h, h1, _, _ => by omega
  | n + 1, a, s, h, h1, h2, h3 => by
    show (if M 3 a < 0 then a else vz_first M (a + 1) n) = s
    by_cases e : a = s
    · subst e; rw [if_pos h3]
    · rw [if_neg (h2 a (by omega) (by omega))]
      exact vz_first_eq (by omega) (by omega) (fun i a b => h2 i (by omega) b) h3
/-- a disk that isn't full has a free slot -/
theorem vz_free_ex (I : vI M) {d : Int} (h0 : 0 ≤ d) (h1 : d < M 7 0) (h : vz_used M d ≠ M 1 d) : ∃ j : Int, 0 ≤ j ∧ j < M 1 d ∧ M 3 (32 * d + j) < 0 := by
  have hb := vz_used_bd I h0 h1
  have hs := I.sz d h0 h1
  obtain ⟨j, a, b, c⟩ := vz_cnt_ex (p := fun j => 0 ≤ M 3 (32 * d + j)) (n := (M 1 d).toNat) (by unfold vz_used at hb h; omega)
  exact ⟨j, a, by omega, by omega⟩
/-- the first free slot, with what is known of it -/
theorem vz_first_spec (I : vI M) {d : Int} (h0 : 0 ≤ d) (h1 : d < M 7 0) (h : vz_used M d ≠ M 1 d) : 32 * d ≤ vz_first M (32 * d) 32 ∧ vz_first M (32 * d) 32 < 32 * d + M 1 d ∧ M 3 (vz_first M (32 * d) 32) < 0 ∧ ∀ i : Int, 32 * d ≤ i → i < vz_first M (32 * d) 32 → ¬ M 3 i < 0 := by
  have hs := I.sz d h0 h1
  obtain ⟨j, a, b, c⟩ := vz_free_ex I h0 h1 h
  -- the least one
  have least : ∀ n : Nat, (∃ j : Int, 0 ≤ j ∧ j < n ∧ M 3 (32 * d + j) < 0) → ∃ j : Int, 0 ≤ j ∧ j < n ∧ M 3 (32 * d + j) < 0 ∧ ∀ i : Int, 0 ≤ i → i < j → ¬ M 3 (32 * d + i) < 0 := by
    intro n
    induction n with
    | zero => rintro ⟨j, a, b, _⟩; omega
    | succ n ih =>
      rintro ⟨j, a, b, c⟩
      rcases Classical.em (∃ j : Int, 0 ≤ j ∧ j < n ∧ M 3 (32 * d + j) < 0) with q | q
      · obtain ⟨j, a, b, c, e⟩ := ih q
        exact ⟨j, a, by omega, c, e⟩
      · refine ⟨j, a, b, c, fun i i0 i1 i2 => q ⟨i, i0, by omega, i2⟩⟩
  obtain ⟨j, a, b, c, e⟩ := least (M 1 d).toNat ⟨j, a, by omega, c⟩
  have e1 : vz_first M (32 * d) 32 = 32 * d + j := vz_first_eq (by omega) (by omega) (fun i i0 i1 => by
    have := e (i - 32 * d) (by omega) (by omega)
    rwa [show 32 * d + (i - 32 * d) = i by omega] at this) c
  rw [e1]
  refine ⟨by omega, by omega, c, fun i i0 i1 => ?_⟩
  have := e (i - 32 * d) (by omega) (by omega)
  rwa [show 32 * d + (i - 32 * d) = i by omega] at this
theorem p_firstFreeOn (I : vI M) (r : vS M S) {d : Int} (h0 : 0 ≤ d) (h1 : d < M 7 0) (hf : vz_used M d ≠ M 1 d) {post : Int → Prop} (k : post (vz_first M (32 * d) 32)) : wX1_firstFreeOn S d post := by
  unfold wX1_firstFreeOn
  have hd := I.dk
  have hs := I.sz d h0 h1
  obtain ⟨f0, f1, f2, f3⟩ := vz_first_spec I h0 h1 hf
  intro v1 hv
  subst hv
  refine ⟨fun i => d * 32 ≤ i ∧ i ≤ vz_first M (32 * d) 32, fun i => (vz_first M (32 * d) 32 - i).toNat, ⟨by omega, by omega⟩, ?_⟩
  rintro i ⟨i0, i1⟩
  unfold lX1_firstFreeOn_7
  rw [r.sz d h0 h1]
  refine ⟨⟨by omega, by omega⟩, ⟨by omega, by omega⟩, ⟨by omega, by omega⟩, fun h => by omega, fun h => ?_⟩
  have hR := I.hd i (by omega) (by omega)
  rw [r.hd i (by omega) (by omega)]
  refine ⟨⟨by omega, by omega⟩, ?_, fun q => ?_, fun q => ?_⟩
  · rcases hR with z | ⟨z, z1, _⟩
    · exact ⟨by omega, by omega⟩
    · exact ⟨by omega, by omega⟩
  · have : i ≠ vz_first M (32 * d) 32 := by
      intro e
      rw [← e] at f2
      rcases hR with z | ⟨z, z1, _⟩ <;> omega
    exact ⟨⟨by omega, by omega⟩, by first | omega | (dsimp only; omega)⟩
  · have : i = vz_first M (32 * d) 32 := by
      rcases Int.lt_or_le i (vz_first M (32 * d) 32) with z | z
      · exact absurd (by omega : M 3 i < 0) (f3 i (by omega) z)
      · omega
    rw [this]; exact k
theorem vz_best_bd (M : vs_St) (b : Int) : ∀ n : Nat, -1 ≤ vz_best M b n ∧ vz_best M b n < n
  | 0 => by show (-1 : Int) ≤ -1 ∧ (-1 : Int) < ((0 : Nat) : Int); omega
  | n + 1 => by
    have := vz_best_bd M b n
    show -1 ≤ vz_bst M b n (vz_best M b n) ∧ vz_bst M b n (vz_best M b n) < ((n + 1 : Nat) : Int)
    unfold vz_bst
    split <;> omega
theorem vz_bst1 {b d p : Int} (h : vz_open M b d) (h2 : p < 0 ∨ M 1 p - vz_used M p < M 1 d - vz_used M d) : vz_bst M b d p = d := by unfold vz_bst; exact if_pos ⟨h, h2⟩
theorem vz_bst0 {b d p : Int} (h : ¬ (vz_open M b d ∧ (p < 0 ∨ M 1 p - vz_used M p < M 1 d - vz_used M d))) : vz_bst M b d p = p := by unfold vz_bst; exact if_neg h
theorem vz_best_open (M : vs_St) (b : Int) : ∀ n : Nat, 0 ≤ vz_best M b n → vz_open M b (vz_best M b n)
  | 0, h => by
    have : (-1 : Int) ≥ 0 := h
    omega
  | n + 1, h => by
    rcases Classical.em (vz_open M b n ∧ (vz_best M b n < 0 ∨ M 1 (vz_best M b n) - vz_used M (vz_best M b n) < M 1 n - vz_used M n)) with q | q
    · show vz_open M b (vz_bst M b n (vz_best M b n))
      rw [vz_bst1 q.1 q.2]; exact q.1
    · have e : vz_best M b (n + 1) = vz_best M b n := vz_bst0 q
      rw [e] at h ⊢
      exact vz_best_open M b n h
theorem vz_best_step (M : vs_St) (b : Int) {i : Int} (h : 0 ≤ i) : vz_best M b (i + 1).toNat = vz_bst M b i (vz_best M b i.toNat) := by
  have e : (i + 1).toNat = i.toNat + 1 := by omega
  rw [e]
  show vz_bst M b (i.toNat : Int) _ = _
  rw [Int.toNat_of_nonneg h]
theorem p_findPlace (I : vI M) (r : vS M S) {b m : Int} (h0 : 0 ≤ b) (h1 : b < 400) (hm : vz_mask m (fun d => vz_has M d b)) {post : Int → Prop} (k : post (vz_place M b)) : wX1_findPlace S m post := by
  unfold wX1_findPlace
  have hd := I.dk
  intro v1 hv
  subst hv
  refine ⟨fun p f i => 0 ≤ i ∧ i ≤ M 7 0 ∧ p = vz_best M b i.toNat ∧ (p < 0 → f = 0) ∧ (0 ≤ p → f = M 1 p - vz_used M p ∧ 0 < f ∧ f ≤ 32), fun _ _ i => (M 7 0 - i).toNat, ⟨by omega, by omega, rfl, fun _ => rfl, fun z => by omega⟩, ?_⟩
  rintro p f i ⟨i0, i1, hp, hf, hf2⟩
  unfold lX1_findPlace_7
  have hbd := vz_best_bd M b i.toNat
  rw [← hp] at hbd
  rw [r.dk]
  refine ⟨⟨by omega, by omega⟩, ⟨by omega, by omega⟩, fun h => ?_, fun h => ?_⟩
  · have e : i = M 7 0 := by omega
    rw [e] at hp
    refine ⟨⟨by omega, by omega⟩, fun q => ?_, fun q => ?_⟩
    · have hp0 : 0 ≤ p := by omega
      have ho := vz_best_open M b (M 7 0).toNat (by omega)
      rw [← hp] at ho
      refine p_firstFreeOn I r (by omega) (by omega) ho.2.1 ?_
      unfold vz_place at k
      rw [← hp, if_neg (by omega)] at k
      exact k
    · unfold vz_place at k
      rw [← hp, if_pos (by omega)] at k
      exact k
  · have hs := I.stt i i0 h
    have hz := I.sz i i0 h
    have hu := vz_used_bd I i0 h
    have skip : ¬ (vz_open M b i ∧ (p < 0 ∨ M 1 p - vz_used M p < M 1 i - vz_used M i)) → p = vz_best M b (i + 1).toNat := by
      intro q
      rw [vz_best_step M b i0, ← hp, vz_bst0 q]
    rw [r.stt i i0 h]
    refine ⟨⟨by omega, by omega⟩, ⟨by omega, by omega⟩, fun q => ⟨⟨by omega, by omega, skip (fun z => q z.1.1), hf, hf2⟩, by first | omega | (dsimp only; omega)⟩, fun q => ?_⟩
    rw [hm.bit i0 (by omega)]
    have hb := vz_b01 (vz_has M i b)
    refine ⟨⟨by omega, by omega⟩, fun w => ⟨⟨by omega, by omega, skip (fun z => w (vz_b0 z.1.2.2)), hf, hf2⟩, by first | omega | (dsimp only; omega)⟩, fun w => ?_⟩
    have hno : ¬ vz_has M i b := fun z => by rw [vz_b1 z] at w; omega
    refine p_freeOn I r i0 h ⟨⟨by omega, by omega⟩, ?_, fun z => ⟨⟨by omega, by omega, skip ?_, hf, hf2⟩, by first | omega | (dsimp only; omega)⟩, fun z => ?_⟩
    · rcases Int.lt_or_le p 0 with y | y
      · rw [hf y]; exact ⟨by omega, by omega⟩
      · have := hf2 y; exact ⟨by omega, by omega⟩
    · rintro ⟨⟨_, y2, _⟩, y | y⟩
      · have := hf y; omega
      · rcases Int.lt_or_le p 0 with x | x
        · have := hf x; omega
        · have := hf2 x; omega
    · refine p_freeOn I r i0 h ⟨⟨by omega, by omega, ?_, fun y => by omega, fun y => ⟨rfl, ?_, by omega⟩⟩, by first | omega | (dsimp only; omega)⟩
      · rw [vz_best_step M b i0, ← hp, vz_bst1 ⟨q, ?_, hno⟩ ?_]
        · rcases Int.lt_or_le p 0 with x | x
          · have := hf x; omega
          · have := hf2 x; omega
        · rcases Int.lt_or_le p 0 with x | x
          · exact Or.inl x
          · have := hf2 x; exact Or.inr (by omega)
      · rcases Int.lt_or_le p 0 with x | x
        · have := hf x; omega
        · have := hf2 x; omega
theorem p_countPlacesAnew (I : vI M) (r : vS M S) {b : Int} (h0 : 0 ≤ b) (h1 : b < 400) {post : Int → Prop} (k : post (vz_cnt (fun d => M 2 d = 115 ∧ (vz_used M d ≠ M 1 d ∨ vz_has M d b)) (M 7 0).toNat)) : wX1_countPlacesAnew S b post := by
  unfold wX1_countPlacesAnew
  have hd := I.dk
  refine p_disksWithCopy I r h0 h1 (fun m hm => ?_)
  refine ⟨fun c i => 0 ≤ i ∧ i ≤ M 7 0 ∧ c = vz_cnt (fun d => M 2 d = 115 ∧ (vz_used M d ≠ M 1 d ∨ vz_has M d b)) i.toNat, fun _ i => (M 7 0 - i).toNat, ⟨by omega, by omega, rfl⟩, ?_⟩
  rintro c i ⟨i0, i1, rfl⟩
  unfold lX1_countPlacesAnew_11
  rw [r.dk]
  refine ⟨⟨by omega, by omega⟩, ⟨by omega, by omega⟩, fun h => ?_, fun h => ?_⟩
  · have e : i = M 7 0 := by omega
    rw [e]; exact k
  · have hs := I.stt i i0 h
    have hz := I.sz i i0 h
    have hu := vz_used_bd I i0 h
    have hb := vz_b01 (vz_has M i b)
    have no : ¬ (M 2 i = 115 ∧ (vz_used M i ≠ M 1 i ∨ vz_has M i b)) → vz_cnt (fun d => M 2 d = 115 ∧ (vz_used M d ≠ M 1 d ∨ vz_has M d b)) i.toNat = vz_cnt (fun d => M 2 d = 115 ∧ (vz_used M d ≠ M 1 d ∨ vz_has M d b)) (i + 1).toNat := by
      intro q; rw [vz_cnt_step _ i0, vz_b0 q, Int.add_zero]
    have yes : (M 2 i = 115 ∧ (vz_used M i ≠ M 1 i ∨ vz_has M i b)) → vz_cnt (fun d => M 2 d = 115 ∧ (vz_used M d ≠ M 1 d ∨ vz_has M d b)) i.toNat + 1 = vz_cnt (fun d => M 2 d = 115 ∧ (vz_used M d ≠ M 1 d ∨ vz_has M d b)) (i + 1).toNat := by
      intro q; rw [vz_cnt_step _ i0, vz_b1 q]
    refine p_freeOn I r i0 h ?_
    rw [r.stt i i0 h, hm.bit i0 (by omega)]
    refine ⟨⟨by omega, by omega⟩, fun q => ⟨⟨by omega, by omega⟩, ⟨by omega, by omega⟩, fun w => ⟨⟨by omega, by omega, no (fun z => w z.1)⟩, by first | omega | (dsimp only; omega)⟩, fun w => ⟨⟨by omega, by omega, yes ⟨w, Or.inl (by omega)⟩⟩, by first | omega | (dsimp only; omega)⟩⟩, fun q => ⟨⟨by omega, by omega⟩, fun w => ⟨⟨by omega, by omega⟩, ⟨by omega, by omega⟩, fun y => ⟨⟨by omega, by omega, no (fun z => y z.1)⟩, by first | omega | (dsimp only; omega)⟩, fun y => ⟨⟨by omega, by omega, no ?_⟩, by first | omega | (dsimp only; omega)⟩⟩, fun w => ⟨⟨by omega, by omega⟩, ⟨by omega, by omega⟩, fun y => ⟨⟨by omega, by omega, no (fun z => y z.1)⟩, by first | omega | (dsimp only; omega)⟩, fun y => ⟨⟨by omega, by omega, yes ⟨y, Or.inr ?_⟩⟩, by first | omega | (dsimp only; omega)⟩⟩⟩⟩
    · rintro ⟨_, z | z⟩
      · omega
      · rw [vz_b1 z] at w; omega
    · rcases hb with z | z
      · exact absurd z w
      · exact vz_bi z
end VZ1
