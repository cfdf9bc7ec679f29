/-! pure part: the cases that change the state, but not the copies -/
section VZJ
variable {M S K V T O : vs_St}
def vz_cs (c : Nat) : Bool := [1, 2, 3, 5, 7, 8, 10, 12, 13, 14, 15, 16].contains c
theorem vS_k2 {M' : vs_St} (r : vS M S) (h : ∀ c : Nat, vz_cs c = true → M' c = M c) : vS M' S := by
  unfold vS vz_used
  rw [h 7 rfl, h 1 rfl, h 2 rfl, h 3 rfl, h 5 rfl, h 16 rfl, h 14 rfl, h 12 rfl, h 10 rfl, h 8 rfl, h 15 rfl, h 13 rfl]
  exact r
-- a new disk
def vz_fl (M : vs_St) (a n : Int) : vs_St := fun c => cond (Nat.beq c 3) (fun e => if a ≤ e ∧ e < a + n then -1 else M 3 e) (M c)
def vz_dk (M : vs_St) (x : Int) : vs_St := vs_st (vz_fl (vs_st (vs_st M 1 (M 7 0) x) 2 (M 7 0) 115) (32 * M 7 0) 32) 7 0 (M 7 0 + 1)
theorem vz_fl_step (M : vs_St) {a n : Int} (hn : 0 ≤ n) : vs_st (vz_fl M a n) 3 (a + n) (-1) = vz_fl M a (n + 1) := by
  funext c
  by_cases h : c = 3
  · subst h
    rw [vs_st_same]
    funext e
    show (if e = a + n then -1 else if a ≤ e ∧ e < a + n then -1 else M 3 e) = if a ≤ e ∧ e < a + (n + 1) then -1 else M 3 e
    by_cases q : e = a + n
    · rw [if_pos q, if_pos (by omega)]
    · rw [if_neg q]
      by_cases w : a ≤ e ∧ e < a + n
      · rw [if_pos w, if_pos (by omega)]
      · rw [if_neg w, if_neg (by omega)]
  · rw [vs_st_ne _ h]
    have hb : Nat.beq c 3 = false := by
      cases hb : Nat.beq c 3
      · rfl
      · exact absurd (Nat.eq_of_beq_eq_true hb) h
    unfold vz_fl
    rw [hb]; rfl
theorem vz_fl0 (M : vs_St) (a : Int) : vz_fl M a 0 = M := by
  funext c
  unfold vz_fl
  cases hb : Nat.beq c 3
  · rfl
  · have := Nat.eq_of_beq_eq_true hb
    subst this
    funext e
    show (if a ≤ e ∧ e < a + 0 then -1 else M 3 e) = _
    rw [if_neg (by omega)]
theorem vz_used_dk {x : Int} {d : Int} (d1 : d < M 7 0) (h1 : M 1 d ≤ 32) : vz_used (vz_dk M x) d = vz_used M d := by
  unfold vz_used
  have e1 : vz_dk M x 1 d = M 1 d := by show (if d = M 7 0 then x else M 1 d) = _; rw [if_neg (by omega)]
  rw [e1]
  refine vz_cnt_ext (fun j j0 j1 => ?_)
  show 0 ≤ (if 32 * M 7 0 ≤ 32 * d + j ∧ 32 * d + j < 32 * M 7 0 + 32 then -1 else M 3 (32 * d + j)) ↔ _
  rw [if_neg (by omega)]
theorem vz_used_dk0 {x : Int} (hx : x ≤ 32) : vz_used (vz_dk M x) (M 7 0) = 0 := by
  unfold vz_used
  have e1 : vz_dk M x 1 (M 7 0) = x := by show (if M 7 0 = M 7 0 then x else M 1 (M 7 0)) = _; rw [if_pos rfl]
  rw [e1]
  refine vz_cnt_0 (fun j j0 j1 => ?_)
  show ¬ 0 ≤ (if 32 * M 7 0 ≤ 32 * M 7 0 + j ∧ 32 * M 7 0 + j < 32 * M 7 0 + 32 then -1 else M 3 (32 * M 7 0 + j))
  rw [if_pos (by omega)]; omega
theorem vI_dk (I : vI M) {x : Int} (hD : M 7 0 < 8) (hx : 1 ≤ x ∧ x ≤ 32) : vI (vz_dk M x) := by
  have hd := I.dk
  refine ⟨?_, fun d d0 d1 => ?_, fun d d0 d1 => ?_, I.mn, fun b k a0 a1 k0 k1 => ?_, I.ds, fun s s0 s1 => ?_, I.rt, ?_⟩
  · show 0 ≤ M 7 0 + 1 ∧ M 7 0 + 1 ≤ 8; omega
  · have d1 : d < M 7 0 + 1 := d1
    show 1 ≤ (if d = M 7 0 then x else M 1 d) ∧ (if d = M 7 0 then x else M 1 d) ≤ 32
    by_cases e : d = M 7 0
    · rw [if_pos e]; exact hx
    · rw [if_neg e]; exact I.sz d d0 (by omega)
  · have d1 : d < M 7 0 + 1 := d1
    show (if d = M 7 0 then 115 else M 2 d) = 115 ∨ (if d = M 7 0 then 115 else M 2 d) = 119 ∨ (if d = M 7 0 then 115 else M 2 d) = 102
    by_cases e : d = M 7 0
    · rw [if_pos e]; exact Or.inl rfl
    · rw [if_neg e]; exact I.stt d d0 (by omega)
  · have hc := I.cp b k a0 a1 k0 k1
    show 0 ≤ M 8 (3 * b + k) ∧ M 8 (3 * b + k) < 32 * (M 7 0 + 1) ∧ M 8 (3 * b + k) % 32 < (if M 8 (3 * b + k) / 32 = M 7 0 then x else M 1 (M 8 (3 * b + k) / 32)) ∧ (if 32 * M 7 0 ≤ M 8 (3 * b + k) ∧ M 8 (3 * b + k) < 32 * M 7 0 + 32 then -1 else M 3 (M 8 (3 * b + k))) = b ∧ (if M 8 (3 * b + k) / 32 = M 7 0 then 115 else M 2 (M 8 (3 * b + k) / 32)) ≠ 102
    rw [if_neg (by omega), if_neg (by omega), if_neg (by omega)]
    exact ⟨hc.1, by omega, hc.2.2⟩
  · have s1 : s < 32 * (M 7 0 + 1) := s1
    show (if 32 * M 7 0 ≤ s ∧ s < 32 * M 7 0 + 32 then -1 else M 3 s) = -1 ∨ (0 ≤ (if 32 * M 7 0 ≤ s ∧ s < 32 * M 7 0 + 32 then -1 else M 3 s) ∧ (if 32 * M 7 0 ≤ s ∧ s < 32 * M 7 0 + 32 then -1 else M 3 s) < 400 ∧ ∃ k : Int, 0 ≤ k ∧ k < M 10 (if 32 * M 7 0 ≤ s ∧ s < 32 * M 7 0 + 32 then -1 else M 3 s) ∧ M 8 (3 * (if 32 * M 7 0 ≤ s ∧ s < 32 * M 7 0 + 32 then -1 else M 3 s) + k) = s)
    by_cases e : 32 * M 7 0 ≤ s
    · rw [if_pos (by omega)]; exact Or.inl rfl
    · rw [if_neg (by omega)]; exact I.hd s s0 (by omega)
  · show vz_sum (fun b => M 10 b) 400 = vz_sum (fun d => vz_used (vz_dk M x) d) (M 7 0 + 1).toNat
    rw [vz_sum_step _ hd.1, vz_used_dk0 hx.2, Int.add_zero, vz_sum_ext (f := fun d => vz_used (vz_dk M x) d) (g := fun d => vz_used M d) (fun d d0 d1 => vz_used_dk (by omega) (I.sz d d0 (by omega)).2)]
    exact I.sm
theorem vS_dk (I : vI M) (r : vS M S) {x : Int} (hD : M 7 0 < 8) (hx : 1 ≤ x ∧ x ≤ 32) : vS (vz_dk M x) (vs_st (vs_st (vs_st S 1 (M 7 0) x) 3 (M 7 0) 115) 0 0 (M 7 0 + 1)) := by
  have hd := I.dk
  refine ⟨rfl, fun d d0 d1 => ?_, fun d d0 d1 => ?_, fun d d0 d1 => ?_, fun d d0 d1 => ?_, fun d d0 d1 => ?_, fun s s0 s1 => ?_, fun s s0 s1 => ?_, fun s s0 s1 => ?_, fun s s0 s1 => ?_, r.wn, r.vl, r.mn, r.cp, r.wr, r.od⟩
  · have d1 : d < M 7 0 + 1 := d1
    show (if d = M 7 0 then x else S 1 d) = if d = M 7 0 then x else M 1 d
    by_cases e : d = M 7 0
    · rw [if_pos e, if_pos e]
    · rw [if_neg e, if_neg e]; exact r.sz d d0 (by omega)
  · have d1 : d < M 7 0 + 1 := d1
    show S 2 d = _
    by_cases e : d = M 7 0
    · rw [e, vz_used_dk0 hx.2]; exact r.us0 _ (by omega) hD
    · rw [vz_used_dk (by omega) (I.sz d d0 (by omega)).2]; exact r.us d d0 (by omega)
  · have d0 : M 7 0 + 1 ≤ d := d0
    exact r.us0 d (by omega) d1
  · have d1 : d < M 7 0 + 1 := d1
    show (if d = M 7 0 then 115 else S 3 d) = if d = M 7 0 then 115 else M 2 d
    by_cases e : d = M 7 0
    · rw [if_pos e, if_pos e]
    · rw [if_neg e, if_neg e]; exact r.stt d d0 (by omega)
  · have d0 : M 7 0 + 1 ≤ d := d0
    show (if d = M 7 0 then 115 else S 3 d) = 0
    rw [if_neg (by omega)]; exact r.st0 d (by omega) d1
  · have s1 : s < 32 * (M 7 0 + 1) := s1
    show S 4 s = if 32 * M 7 0 ≤ s ∧ s < 32 * M 7 0 + 32 then -1 else M 3 s
    by_cases e : 32 * M 7 0 ≤ s
    · rw [if_pos (by omega)]; exact r.hd0 s e (by omega)
    · rw [if_neg (by omega)]; exact r.hd s s0 (by omega)
  · have s0 : 32 * (M 7 0 + 1) ≤ s := s0
    exact r.hd0 s (by omega) s1
  · have s1 : s < 32 * (M 7 0 + 1) := s1
    show S 5 s = if (if 32 * M 7 0 ≤ s ∧ s < 32 * M 7 0 + 32 then -1 else M 3 s) < 0 then 0 else M 5 s
    by_cases e : 32 * M 7 0 ≤ s
    · rw [show (if 32 * M 7 0 ≤ s ∧ s < 32 * M 7 0 + 32 then (-1 : Int) else M 3 s) = -1 from if_pos ⟨e, by omega⟩, if_pos (by omega)]; exact r.rt0 s e (by omega)
    · rw [show (if 32 * M 7 0 ≤ s ∧ s < 32 * M 7 0 + 32 then (-1 : Int) else M 3 s) = M 3 s from if_neg (by omega)]; exact r.rt s s0 (by omega)
  · have s0 : 32 * (M 7 0 + 1) ≤ s := s0
    exact r.rt0 s (by omega) s1
theorem okc_0 : vs_okc_0 vZ := by
  intro V S T K O M B LN i p1 p2 p3 h1 h2 h3 Z
  obtain ⟨Y, L⟩ := Z
  have Y0 := vY_0 Y 0
  have Y1 := vY_0 Y0 1
  have Y2 := vY_0 Y0 2
  have hd := Y.A.I.dk
  have ref1 : ∀ {post : Int → vs_St → Prop}, ¬ (1 ≤ p1 ∧ p1 ≤ 32) → post 0 (vs_st (vs_st M 0 0 0) 0 0 1) → wX3_addDisk M p1 post := by
    intro post q k S1 e1
    subst e1
    exact q_isBetween h1 ⟨by omega, by omega⟩ ⟨by omega, by omega⟩ ⟨vz_bR _, fun z => absurd (vz_bp.mp z) q, fun _ => q_fails k⟩
  have ref2 : ∀ {post : Int → vs_St → Prop}, (1 ≤ p1 ∧ p1 ≤ 32) → M 7 0 = 8 → post 0 (vs_st (vs_st M 0 0 0) 0 0 2) → wX3_addDisk M p1 post := by
    intro post q w k S1 e1
    subst e1
    exact q_isBetween h1 ⟨by omega, by omega⟩ ⟨by omega, by omega⟩ ⟨vz_bR _, fun _ => ⟨⟨by show _ ≤ M 7 0; omega, by show M 7 0 ≤ _; omega⟩, fun z => absurd w z, fun _ => q_fails k⟩, fun z => absurd q (vz_bn.mp z)⟩
  have ref0 : ∀ {post : Int → vs_St → Prop}, (1 ≤ p1 ∧ p1 ≤ 32) → M 7 0 < 8 → post (M 7 0 + 1 - 1) (vz_dk (vs_st M 0 0 0) p1) → wX3_addDisk M p1 post := by
    intro post q w k S1 e1
    subst e1
    refine q_isBetween h1 ⟨by omega, by omega⟩ ⟨by omega, by omega⟩ ⟨vz_bR _, fun _ => ⟨⟨by show _ ≤ M 7 0; omega, by show M 7 0 ≤ _; omega⟩, fun _ => ⟨⟨hd.1, w⟩, fun S3 e3 => ⟨?_, fun S4 e4 => ?_⟩⟩, fun z => ?_⟩, fun z => absurd q (vz_bn.mp z)⟩
    · subst e3; exact ⟨hd.1, w⟩
    · have e4 : S4 = vs_st (vs_st (vs_st M 0 0 0) 1 (M 7 0) p1) 2 (M 7 0) 115 := by subst e3; exact e4
      refine ⟨fun x S' => 0 ≤ x ∧ x ≤ 32 ∧ S' = vz_fl S4 (32 * M 7 0) x, fun x _ => (33 - x).toNat, ⟨by omega, by omega, (vz_fl0 _ _).symm⟩, ?_⟩
      rintro x S' ⟨x0, x1, e5⟩
      unfold lX3_addDisk_59
      have e7 : S' 7 0 = M 7 0 := by rw [e5, e4]; rfl
      rw [e7]
      refine ⟨⟨by omega, by omega⟩, fun z S5 e6 => ?_, fun z => ⟨⟨by omega, by omega⟩, fun S6 e6 => ⟨⟨by omega, by omega, ?_⟩, by first | omega | (dsimp only; omega)⟩⟩⟩
      · have ex : x = 32 := by omega
        subst e6
        rw [e5, ex, e4]
        exact k
      · rw [e6, e5]; exact vz_fl_step S4 x0
    · have z : M 7 0 = 8 := z
      omega
  unfold wcase_0 wL_addDisk wX2_addDisk wX1_installDisk
  refine ⟨h1, fun q => ⟨fun _ => ref1 (by omega) (w_ex (vz_00 _ 1) (by omega) vR1 ⟨Y1, L⟩), fun z => by omega, Or.inl rfl⟩, fun q => ⟨h1, fun w => ?_, fun w => ⟨fun _ => ref1 (by omega) (w_ex (vz_00 _ 1) (by omega) vR1 ⟨Y1, L⟩), fun z => by omega, Or.inl rfl⟩⟩⟩
  rw [Y.r.dk]
  refine ⟨⟨by omega, by omega⟩, fun y => ⟨⟨hd.1, y⟩, fun S1 e1 => ?_⟩, fun y => ⟨fun z => by omega, fun _ => ref2 ⟨q, w⟩ (by omega) (w_ex (vz_00 _ 2) (by omega) vR2 ⟨Y2, L⟩), Or.inr rfl⟩⟩
  have e10 : S1 0 0 = M 7 0 := by subst e1; exact Y.r.dk
  rw [e10]
  refine ⟨⟨hd.1, y⟩, fun S2 e2 S3 e3 => ?_⟩
  have e20 : S2 0 0 = M 7 0 := by rw [e2]; exact e10
  rw [e20] at e3 ⊢
  refine ⟨⟨by omega, by omega⟩, fun O2 eO => ref0 ⟨q, w⟩ y (w_ok (vz_00 M 0) ⟨by omega, by omega⟩ (by rw [eO, vz_00]; omega) ⟨⟨?_, Y.C, ?_, ?_, Y.v⟩, L⟩)⟩
  · exact ⟨vI_dk Y0.A.I y ⟨q, w⟩, vO_eq Y0.A.O rfl rfl rfl rfl rfl, Y0.A.V, Y0.A.Q, Y0.A.T, Y0.A.P⟩
  · subst e3; subst e2; subst e1
    exact vS_dk Y0.A.I Y0.r y ⟨q, w⟩
  · exact vK_kq Y0.k (fun c h => by
      have n (k : Nat) (hk : vz_ck k = false) : c ≠ k := by
        intro e; subst e; rw [h] at hk; exact nomatch hk
      show vs_st (vz_fl _ _ _) 7 0 _ c = _
      rw [vs_st_ne _ (n 7 rfl)]
      have hb : Nat.beq c 3 = false := by
        cases hb : Nat.beq c 3
        · rfl
        · exact absurd (Nat.eq_of_beq_eq_true hb) (n 3 rfl)
      unfold vz_fl
      rw [hb]
      show vs_st (vs_st _ 1 _ _) 2 _ _ c = _
      rw [vs_st_ne _ (n 2 rfl), vs_st_ne _ (n 1 rfl)])
theorem okc_4 : vs_okc_4 vZ := by
  intro V S T K O M B LN i p1 p2 p3 h1 h2 h3 Z
  obtain ⟨Y, L⟩ := Z
  have Y0 := vY_0 Y 0
  have Y1 := vY_0 Y0 1
  have Y2 := vY_0 Y0 2
  have ht := Y.A.Q.tn
  have ref1 : ∀ {post : Int → vs_St → Prop}, ¬ ((1 ≤ p1 ∧ p1 ≤ 3) ∧ (0 ≤ p2 ∧ p2 ≤ 20)) → post 0 (vs_st (vs_st M 0 0 0) 0 0 1) → wX3_addTenant M p1 p2 post := by
    intro post q k S1 e1
    subst e1
    exact q_isBetween h1 ⟨by omega, by omega⟩ ⟨by omega, by omega⟩ ⟨vz_bR _, fun _ => q_fails k, fun z => q_isBetween h2 ⟨by omega, by omega⟩ ⟨by omega, by omega⟩ ⟨vz_bR _, fun w => absurd ⟨vz_bp.mp z, vz_bp.mp w⟩ q, fun _ => q_fails k⟩⟩
  have refG : ∀ {post : Int → vs_St → Prop}, (1 ≤ p1 ∧ p1 ≤ 3) → (0 ≤ p2 ∧ p2 ≤ 20) → (M 27 0 = 4 → post 0 (vs_st (vs_st M 0 0 0) 0 0 2)) → (M 27 0 < 4 → post (M 27 0 + 1 - 1) (vs_st (vs_st (vs_st (vs_st M 0 0 0) 16 (M 27 0) p1) 17 (M 27 0) p2) 27 0 (M 27 0 + 1))) → wX3_addTenant M p1 p2 post := by
    intro post q w k4 k S1 e1
    subst e1
    refine q_isBetween h1 ⟨by omega, by omega⟩ ⟨by omega, by omega⟩ ⟨vz_bR _, fun z => absurd q (vz_bn.mp z), fun _ => q_isBetween h2 ⟨by omega, by omega⟩ ⟨by omega, by omega⟩ ⟨vz_bR _, fun _ => ⟨⟨by show _ ≤ M 27 0; omega, by show M 27 0 ≤ _; omega⟩, fun y => ?_, fun y => q_fails (k4 y)⟩, fun z => absurd w (vz_bn.mp z)⟩⟩
    have y : ¬ M 27 0 = 4 := y
    refine ⟨⟨ht.1, by show M 27 0 < 4; omega⟩, fun S6 e6 => ?_⟩
    subst e6
    refine ⟨⟨ht.1, by show M 27 0 < 4; omega⟩, fun S7 e7 S8 e8 => ?_⟩
    subst e7; subst e8
    exact k (by omega)
  have bad1 : ¬ ((1 ≤ p1 ∧ p1 ≤ 3) ∧ (0 ≤ p2 ∧ p2 ≤ 20)) → True := fun _ => trivial
  unfold wcase_4 wL_addTenant wX2_addTenant wX0_admitTenant
  refine ⟨h1, fun q => ⟨fun _ => ref1 (by omega) (w_ex (vz_00 _ 1) (by omega) vR1 ⟨Y1, L⟩), fun z => by omega, Or.inl rfl⟩, fun q => ⟨h1, fun w => ⟨h2, fun y => ⟨fun _ => ref1 (by omega) (w_ex (vz_00 _ 1) (by omega) vR1 ⟨Y1, L⟩), fun z => by omega, Or.inl rfl⟩, fun y => ⟨h2, fun x => ?_, fun x => ⟨fun _ => ref1 (by omega) (w_ex (vz_00 _ 1) (by omega) vR1 ⟨Y1, L⟩), fun z => by omega, Or.inl rfl⟩⟩⟩, fun w => ⟨fun _ => ref1 (by omega) (w_ex (vz_00 _ 1) (by omega) vR1 ⟨Y1, L⟩), fun z => by omega, Or.inl rfl⟩⟩⟩
  rw [Y.k.tn]
  refine ⟨⟨by omega, by omega⟩, fun u => ⟨⟨ht.1, u⟩, fun K1 e1 K2 e2 => ?_⟩, fun u => ⟨fun z => by omega, fun _ => refG ⟨q, w⟩ ⟨y, x⟩ (fun _ => w_ex (vz_00 _ 2) (by omega) vR2 ⟨Y2, L⟩) (fun z => by omega), Or.inr rfl⟩⟩
  have e10 : K1 0 0 = M 27 0 := by subst e1; exact Y.k.tn
  rw [e10] at e2 ⊢
  refine ⟨⟨ht.1, u⟩, fun S3 e3 => ⟨⟨by omega, by omega⟩, fun O2 eO => refG ⟨q, w⟩ ⟨y, x⟩ (fun z => by omega) (fun _ => w_ok (vz_00 M 0) ⟨by omega, by omega⟩ (by rw [eO, vz_00]; omega) ⟨⟨⟨Y0.A.I, ?_, Y0.A.V, ?_, fun t t0 t1 => ?_, fun t t0 t1 => ?_⟩, Y.C, ?_, ?_, Y.v⟩, L⟩)⟩⟩
  · refine ⟨Y.A.O.wr, Y.A.O.od, Y.A.O.oi, Y.A.O.on, Y.A.O.wb, Y.A.O.vl, fun t t0 t1 => ?_⟩
    show 0 ≤ (if t = M 27 0 then p1 else M 16 t) ∧ (if t = M 27 0 then p1 else M 16 t) ≤ 3
    split
    · omega
    · exact Y.A.O.wn t t0 t1
  · refine ⟨?_, Y.A.Q.rq, fun r r0 r1 => ?_, Y.A.Q.nw, Y.A.Q.stt⟩
    · show 0 ≤ M 27 0 + 1 ∧ M 27 0 + 1 ≤ 4; omega
    · have := Y.A.Q.bl r r0 r1
      show 0 ≤ M 23 r ∧ M 23 r < 100 * (M 27 0 + 1)
      omega
  · have t1 : t < M 27 0 + 1 := t1
    show 1 ≤ (if t = M 27 0 then p1 else M 16 t)
    by_cases e : t = M 27 0
    · rw [if_pos e]; exact q
    · rw [if_neg e]; exact Y.A.T t t0 (by omega)
  · show 0 ≤ (if t = M 27 0 then p2 else M 17 t) ∧ (if t = M 27 0 then p2 else M 17 t) ≤ 20
    split
    · exact ⟨y, x⟩
    · exact Y.A.P t t0 t1
  · subst e3
    have r := Y.r
    refine ⟨r.dk, r.sz, r.us, r.us0, r.stt, r.st0, r.hd, r.hd0, r.rt, r.rt0, fun t t0 t1 => ?_, r.vl, r.mn, r.cp, r.wr, r.od⟩
    show (if t = M 27 0 then p1 else S 6 t) = if t = M 27 0 then p1 else M 16 t
    rw [r.wn t t0 t1]
  · subst e2; subst e1
    have k := Y.k
    refine ⟨rfl, fun t t0 t1 => ?_, k.sv, k.cr, k.br, k.rq, k.bl, k.iw, k.vw, k.va, k.stt, k.wt, k.qn, k.qw, k.qa, k.qo, k.qc⟩
    show (if t = M 27 0 then p2 else K 1 t) = if t = M 27 0 then p2 else M 17 t
    rw [k.pr t t0 t1]
theorem okc_6 : vs_okc_6 vZ := by
  intro V S T K O M B LN i p1 p2 p3 h1 h2 h3 Z
  obtain ⟨Y, L⟩ := Z
  have Y0 := vY_0 Y 0
  have Y1 := vY_0 Y0 1
  have hc := Y.C.1
  have ref1 : ∀ {post : Int → vs_St → Prop}, ¬ (0 ≤ p1 ∧ p1 ≤ 20) → post 0 (vs_st (vs_st M 0 0 0) 0 0 1) → wX3_setHurry M p1 post := by
    intro post q k S1 e1
    subst e1
    exact q_isBetween h1 ⟨by omega, by omega⟩ ⟨by omega, by omega⟩ ⟨vz_bR _, fun z => absurd (vz_bp.mp z) q, fun _ => q_fails k⟩
  unfold wcase_6 wL_setHurry wX2_setHurry
  refine ⟨h1, fun q => ⟨fun _ => ref1 (by omega) (w_ex (vz_00 _ 1) (by omega) vR1 ⟨Y1, L⟩), rfl⟩, fun q => ⟨h1, fun w v1 e1 V2 e2 => ?_, fun w => ⟨fun _ => ref1 (by omega) (w_ex (vz_00 _ 1) (by omega) vR1 ⟨Y1, L⟩), rfl⟩⟩⟩
  rw [Y.v.1] at e1
  subst e1
  refine ⟨⟨by omega, by omega⟩, fun O2 eO S1 e1 => ?_⟩
  subst e1
  refine q_isBetween h1 ⟨by omega, by omega⟩ ⟨by omega, by omega⟩ ⟨vz_bR _, fun _ v3 e3 S4 e4 => ?_, fun z => absurd ⟨q, w⟩ (vz_bn.mp z)⟩
  have e3 : v3 = M 29 0 := e3
  subst e3
  subst e4
  refine w_ok (vz_00 M 0) ⟨by omega, by omega⟩ (by rw [eO, vz_00]) ⟨⟨?_, ⟨⟨?_, ?_⟩, Y.C.2⟩, ?_, ?_, ?_, by rw [e2]; exact Y.v.2.1, by rw [e2]; exact Y.v.2.2⟩, L⟩
  · exact vA_kq Y0.A (fun c h => vs_st_ne _ (by intro e; subst e; exact nomatch h) _ _)
  · show 0 ≤ (if (0 : Int) = 0 then p1 else M 29 0); rw [if_pos rfl]; exact q
  · show (if (0 : Int) = 0 then p1 else M 29 0) ≤ 20; rw [if_pos rfl]; exact w
  · exact vS_kq Y0.r (fun c h => vs_st_ne _ (by intro e; subst e; exact nomatch h) _ _)
  · exact vK_kq Y0.k (fun c h => vs_st_ne _ (by intro e; subst e; exact nomatch h) _ _)
  · rw [e2]; rfl
end VZJ
