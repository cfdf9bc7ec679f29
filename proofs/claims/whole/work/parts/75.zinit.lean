/-! pure part: the relation holds at the start -/
theorem vz_init_M (c : Nat) (h : c ≠ 29) (i : Int) : vs_M0 c i = 0 := by
  unfold vs_M0
  rw [vs_st_ne _ h]; rfl
theorem vZ_start (T : vs_St) : vZ vs_V0 vs_S0 T vs_Z vs_M0 (0, 16, fun _ => 0) none := by
  have z (c : Nat) (h : c ≠ 29) (i : Int) : vs_M0 c i = 0 := vz_init_M c h i
  have z7 := z 7 (by decide) 0
  have z15 := z 15 (by decide) 0
  have z27 := z 27 (by decide) 0
  have z28 := z 28 (by decide) 0
  have z30 := z 30 (by decide) 0
  have z31 := z 31 (by decide) 0
  have z29 : vs_M0 29 0 = 10 := by
    show (if (0 : Int) = 0 then (10 : Int) else 0) = 10
    rw [if_pos rfl]
  have zW : ∀ p : Int → Prop, vz_cnt p (vs_M0 28 0).toNat = 0 := by intro p; rw [z28]; rfl
  refine ⟨⟨⟨⟨?_, ?_, ?_, ?_, ?_, ?_, ?_, ?_, ?_⟩, ⟨?_, ?_, ?_, ?_, ?_, ?_, ?_⟩, ?_, ⟨?_, ?_, ?_, ?_, ?_⟩, ?_, ?_⟩, ⟨?_, ?_, ?_, ?_⟩, ⟨?_, ?_, ?_, ?_, ?_, ?_, ?_, ?_, ?_, ?_, ?_, ?_, ?_, ?_, ?_, ?_⟩, ⟨?_, ?_, ?_, ?_, ?_, ?_, ?_, ?_, ?_, ?_, ?_, ?_, ?_, ?_, ?_, ?_, ?_⟩, ⟨?_, ?_, ?_⟩⟩, ⟨rfl, vz_tk16, fun j j0 j1 => ?_⟩, ?_⟩
  -- vI
  · omega
  · intro d d0 d1; omega
  · intro d d0 d1; omega
  · intro b b0 b1; rw [z 10 (by decide)]; omega
  · intro b k b0 b1 k0 k1; rw [z 10 (by decide)] at k1; omega
  · intro b k k' b0 b1 k0 k1 k2; rw [z 10 (by decide)] at k2; omega
  · intro s s0 s1; omega
  · intro s s0 s1; exact Or.inl (z 5 (by decide) s)
  · rw [z7]
    rw [vz_sum_ext (f := fun b => vs_M0 10 b) (g := fun _ => 0) (n := 400) (fun b _ _ => z 10 (by decide) b)]
    have : ∀ n : Nat, vz_sum (fun _ => 0) n = 0 := by
      intro n
      induction n with
      | zero => rfl
      | succ n ih => show vz_sum (fun _ => 0) n + 0 = 0; omega
    rw [this]; rfl
  -- vO
  · rw [z15, vz_cnt_0 (fun b _ _ q => q (z 14 (by decide) b))]; omega
  · intro i i0 i1; omega
  · intro i j i0 i1 i2; omega
  · intro b b0 b1 q; exact absurd (z 14 (by decide) b) q
  · intro b b0 b1; exact Or.inl (z 14 (by decide) b)
  · intro b b0 b1 q; exact absurd (z 14 (by decide) b) q
  · intro t t0 t1; rw [z 16 (by decide)]; omega
  -- vM
  · intro b b0 b1 q; rw [z 10 (by decide)] at q; omega
  -- vQ
  · omega
  · omega
  · intro r r0 r1; omega
  · intro r r0 r1; omega
  · intro r r0 r1; omega
  · intro t t0 t1; omega
  · intro t t0 t1; rw [z 17 (by decide)]; omega
  -- vC
  · omega
  · omega
  · omega
  · intro t t0 t1; rw [z 19 (by decide), z 20 (by decide), z30]; omega
  -- vS
  · rw [z7]; rfl
  · intro d d0 d1; omega
  · intro d d0 d1; omega
  · intro d d0 d1; rfl
  · intro d d0 d1; omega
  · intro d d0 d1; rfl
  · intro s s0 s1; omega
  · intro s s0 s1
    show (if 0 ≤ s ∧ s < ((256 : Nat) : Int) then (-1 : Int) else 0) = -1
    rw [if_pos (by omega)]
  · intro s s0 s1; omega
  · intro s s0 s1; rfl
  · intro t t0 t1; rw [z 16 (by decide)]; rfl
  · intro b b0 b1
    rw [if_pos (z 14 (by decide) b)]
    show (if 0 ≤ b ∧ b < ((400 : Nat) : Int) then (-1 : Int) else 0) = -1
    rw [if_pos (by omega)]
  · intro b b0 b1; rw [z 10 (by decide)]; rfl
  · intro b k b0 b1 k0 k1; rw [z 10 (by decide)] at k1; omega
  · rw [z15]; rfl
  · intro i i0 i1; omega
  -- vK
  · rw [z27]; rfl
  · intro t t0 t1; rw [z 17 (by decide)]; rfl
  · intro t t0 t1; rw [z 18 (by decide)]; rfl
  · intro t t0 t1; rw [z 19 (by decide)]; rfl
  · intro t t0 t1; rw [z 20 (by decide)]; rfl
  · rw [z28]; rfl
  · intro r r0 r1; omega
  · intro r r0 r1; omega
  · intro r r0 r1; omega
  · intro r r0 r1; omega
  · intro r r0 r1; omega
  · unfold vz_waitA; rw [zW]; rfl
  · intro t t0 t1; rw [z28]; show (0 : Int) ≤ 0 ∧ (0 : Int) ≤ 0 ∧ (0 : Int) ≤ 0; omega
  · intro t t0 t1; unfold vz_wait; rw [zW]; rfl
  · intro t j t0 t1 j0 j1
    have j0 : (0 : Int) ≤ j := j0
    have j1 : j < (0 : Int) := j1
    omega
  · intro t j j' t0 t1 j0 j1 j2
    have j0 : (0 : Int) ≤ j := j0
    have j2 : j' < (0 : Int) := j2
    omega
  · intro t r t0 t1 r0 r1; omega
  -- vV
  · rw [z29]; show (if (0 : Int) = 0 then (10 : Int) else 0) = 10; rw [if_pos rfl]
  · rw [z30]; rfl
  · rw [z31]; rfl
  -- vL
  · have j1 : j < (0 : Int) := j1
    omega
  · unfold vz_waitA; rw [zW]; omega
