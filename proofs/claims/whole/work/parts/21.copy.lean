/-! copyFrom, openRebuilds, by program -/
def lX1_copyFrom_68 (O : vs_St) (K18 : Int → vs_St → Prop) (K68 : Int → vs_St → Prop) (post : vs_St → Prop) (x2 : Int) (S : vs_St) : Prop :=
  (vs_R x2) ∧ (256 ≤ x2 → ∀ S3 : vs_St, S3 = vs_cpy S 4 (O 4) 256 → ∀ S4 : vs_St, S4 = vs_cpy S3 6 (O 6) 4 → ∀ S5 : vs_St, S5 = vs_cpy S4 7 (O 7) 400 → ∀ S6 : vs_St, S6 = vs_cpy S5 8 (O 8) 400 → ∀ S7 : vs_St, S7 = vs_cpy S6 9 (O 9) 1200 → ∀ S8 : vs_St, S8 = vs_cpy S7 11 (O 11) 400 → post S8) ∧ (x2 < 256 → (0 ≤ x2 ∧ x2 < 256) ∧ (0 ≤ x2 ∧ x2 < 256) ∧ (O 5 x2 = 0 ∨ O 5 x2 = 1) ∧ ∀ S9 : vs_St, S9 = vs_st S 5 x2 (O 5 x2) → K68 (x2 + 1) S9)
def lX1_copyFrom_18 (O : vs_St) (K18 : Int → vs_St → Prop) (post : vs_St → Prop) (x2 : Int) (S : vs_St) : Prop :=
  (vs_R x2) ∧ (8 ≤ x2 → ∃ (J68 : Int → vs_St → Prop) (μ68 : Int → vs_St → Nat), J68 0 S ∧ ∀ (y68_0 : Int) (y68_1 : vs_St), J68 y68_0 y68_1 → lX1_copyFrom_68 O K18 (fun z68_0 z68_1 => J68 z68_0 z68_1 ∧ μ68 z68_0 z68_1 < μ68 y68_0 y68_1) post y68_0 y68_1) ∧ (x2 < 8 → (0 ≤ x2 ∧ x2 < 8) ∧ (0 ≤ x2 ∧ x2 < 8) ∧ ∀ S10 : vs_St, S10 = vs_st S 1 x2 (O 1 x2) → (0 ≤ x2 ∧ x2 < 8) ∧ (0 ≤ x2 ∧ x2 < 8) ∧ ∀ S11 : vs_St, S11 = vs_st S10 2 x2 (O 2 x2) → (0 ≤ x2 ∧ x2 < 8) ∧ (0 ≤ x2 ∧ x2 < 8) ∧ (0 ≤ O 3 x2 ∧ O 3 x2 < 65536) ∧ ∀ S12 : vs_St, S12 = vs_st S11 3 x2 (O 3 x2) → K18 (x2 + 1) S12)
def wX1_copyFrom (S O : vs_St) (post : vs_St → Prop) : Prop :=
  ∀ S1 : vs_St, S1 = vs_st S 0 0 (O 0 0) → ∀ S2 : vs_St, S2 = vs_st S1 10 0 (O 10 0) → ∃ (J18 : Int → vs_St → Prop) (μ18 : Int → vs_St → Nat), J18 0 S2 ∧ ∀ (y18_0 : Int) (y18_1 : vs_St), J18 y18_0 y18_1 → lX1_copyFrom_18 O (fun z18_0 z18_1 => J18 z18_0 z18_1 ∧ μ18 z18_0 z18_1 < μ18 y18_0 y18_1) post y18_0 y18_1
def wX2_openRebuilds (V S T K : vs_St) (post : Int → vs_St → Prop) : Prop :=
  wX1_copyFrom T S (fun T1 => wX1_rebuild T1 1000000 (fun r2 T3 => post r2 T3))
set_option maxHeartbeats 4000000 in
set_option maxRecDepth 100000 in
theorem c_X1_copyFrom (l : Launch) (g : vs_G) (a b : Nat → Nat) (wr : va_W) (S O : vs_St) (post : vs_St → Prop) (hw : wX1_copyFrom S O post) : vs_MV l yX1_copyFrom (Cond.code yX1_copyFrom cX1_copyFrom 3 none :: vs_ws) { frames := 1, cells := 0, slots := 0, locals := 40 } g [.ref (a 0), .ref (b 0)] (vs_W1 g a S ++ (vs_W1 g b O ++ wr)) (fun (S' : vs_St) => vs_W1 g a S' ++ (vs_W1 g b O ++ wr)) post 0 0 := by
  refine vs_ofW (Qc := fun A => vs_QV g A (fun (S' : vs_St) => vs_W1 g a S' ++ (vs_W1 g b O ++ wr)) post) (by decide +kernel) (Nat.le_of_ble_eq_true rfl) (fun p e s m below meth c A ls hC hr hlk hW hl => ?_)
  have hC : CallFix p m c cX1_copyFrom 3 s _ vs_ws RX1 := hC
  have hl : lv_has ls 3 [(0, .ref (a 0)), (1, .ref (b 0))] := hl
  unfold wX1_copyFrom at hw
  refine vs_aload_n hC hl 0 dX1_copyFrom_0 rfl rfl ?_
  refine vs_aload_n hC hl 1 dX1_copyFrom_1 rfl rfl ?_
  refine vs_get hC hW 12 rfl rfl vs_inX1 0 (by decide) vf_X1_53 rfl dX1_copyFrom_2 ?_
  obtain ⟨S1, hS1⟩ : ∃ z : vs_St, z = vs_st S 0 0 (O 0 0) := ⟨_, rfl⟩
  have hw := hw S1 hS1
  refine vs_put (Wo' := vs_W1 g a S1 ++ (vs_W1 g b O ++ wr)) hC hW 0 rfl rfl vs_inX1 tyX1_ok nmX1 0 (by decide) vf_X1_53 rfl rfl (Nat.le_of_ble_eq_true rfl) (by rw [hS1]; rfl) dX1_copyFrom_5 (fun H locs hW => ?_)
  refine vs_aload_n hC hl 0 dX1_copyFrom_8 rfl rfl ?_
  refine vs_aload_n hC hl 1 dX1_copyFrom_9 rfl rfl ?_
  refine vs_get hC hW 12 rfl rfl vs_inX1 10 (by decide) vf_X1_57 rfl dX1_copyFrom_10 ?_
  obtain ⟨S2, hS2⟩ : ∃ z : vs_St, z = vs_st S1 10 0 (O 10 0) := ⟨_, rfl⟩
  have hw := hw S2 hS2
  refine vs_put (Wo' := vs_W1 g a S2 ++ (vs_W1 g b O ++ wr)) hC hW 0 rfl rfl vs_inX1 tyX1_ok nmX1 10 (by decide) vf_X1_57 rfl rfl (Nat.le_of_ble_eq_true rfl) (by rw [hS2]; rfl) dX1_copyFrom_13 (fun H locs hW => ?_)
  refine vs_iconst hC dX1_copyFrom_16 ?_
  refine vs_istore_n (L' := [(0, .ref (a 0)), (1, .ref (b 0)), (2, .int (vs_I 0))]) hC hl [1, 2, 0] dX1_copyFrom_17 rfl (by decide) rfl (fun ls hl => ?_)
  obtain ⟨J3, μ3, hJ, hB3⟩ := hw
  refine vs_loop (V := Int × vs_St) (J := fun v => J3 v.1 v.2) (μ := fun v => μ3 v.1 v.2) (fun v => vs_W1 g a v.2 ++ (vs_W1 g b O ++ wr)) (fun v => [(0, .ref (a 0)), (1, .ref (b 0)), (2, .int (vs_I v.1))]) (fun v hJ ih3 H locs ls hW hl => ?_) (0, S2) hJ hW (lv_sub hl [0, 1, 2] rfl)
  obtain ⟨v4, S5⟩ := v
  have hw := hB3 v4 S5 hJ
  have hW : vs_Wd g A _ (vs_W1 g a S5 ++ (vs_W1 g b O ++ wr)) _ _ s := hW
  have hl : lv_has ls 3 [(0, .ref (a 0)), (1, .ref (b 0)), (2, .int (vs_I v4))] := hl
  clear hJ
  unfold lX1_copyFrom_18 at hw
  refine vs_iload_n hC hl 2 dX1_copyFrom_18 rfl rfl ?_
  refine vs_bipush hC dX1_copyFrom_19 (by decide +kernel) ?_
  obtain ⟨hx, hw⟩ := hw
  obtain ⟨hwt, hwf⟩ := hw
  refine vs_icmp_ge hC 66 hx ⟨by decide, by decide⟩ dX1_copyFrom_21 (by decide) (fun hc => ?_) (fun hc => ?_)
  · have hw := hwt hc
    clear hwt hwf hc
    refine vs_iconst hC dX1_copyFrom_66 ?_
    refine vs_istore_n (L' := [(0, .ref (a 0)), (1, .ref (b 0)), (2, .int (vs_I 0))]) hC hl [1, 2, 0] dX1_copyFrom_67 rfl (by decide) rfl (fun ls hl => ?_)
    obtain ⟨J6, μ6, hJ, hB6⟩ := hw
    refine vs_loop (V := Int × vs_St) (J := fun v => J6 v.1 v.2) (μ := fun v => μ6 v.1 v.2) (fun v => vs_W1 g a v.2 ++ (vs_W1 g b O ++ wr)) (fun v => [(0, .ref (a 0)), (1, .ref (b 0)), (2, .int (vs_I v.1))]) (fun v hJ ih6 H locs ls hW hl => ?_) (0, S5) hJ hW (lv_sub hl [0, 1, 2] rfl)
    obtain ⟨v7, S8⟩ := v
    have hw := hB6 v7 S8 hJ
    have hW : vs_Wd g A _ (vs_W1 g a S8 ++ (vs_W1 g b O ++ wr)) _ _ s := hW
    have hl : lv_has ls 3 [(0, .ref (a 0)), (1, .ref (b 0)), (2, .int (vs_I v7))] := hl
    clear hJ
    unfold lX1_copyFrom_68 at hw
    refine vs_iload_n hC hl 2 dX1_copyFrom_68 rfl rfl ?_
    refine vs_sipush hC dX1_copyFrom_69 (by decide +kernel) ?_
    obtain ⟨hx, hw⟩ := hw
    obtain ⟨hwt, hwf⟩ := hw
    refine vs_icmp_ge hC 93 hx ⟨by decide, by decide⟩ dX1_copyFrom_72 (by decide) (fun hc => ?_) (fun hc => ?_)
    · have hw := hwt hc
      clear hwt hwf hc
      refine vs_aload_n hC hl 1 dX1_copyFrom_93 rfl rfl ?_
      refine vs_get hC hW 12 rfl rfl vs_inX1 4 (by decide) vf_X1_22 rfl dX1_copyFrom_94 ?_
      refine vs_iconst hC dX1_copyFrom_97 ?_
      refine vs_aload_n hC hl 0 dX1_copyFrom_98 rfl rfl ?_
      refine vs_get hC hW 0 rfl rfl vs_inX1 4 (by decide) vf_X1_22 rfl dX1_copyFrom_99 ?_
      refine vs_iconst hC dX1_copyFrom_102 ?_
      refine vs_sipush hC dX1_copyFrom_103 (by decide +kernel) ?_
      obtain ⟨S9, hS9⟩ : ∃ z : vs_St, z = vs_cpy S8 4 (O 4) 256 := ⟨_, rfl⟩
      have hw := hw S9 hS9
      refine vs_acopy (Wo' := vs_W1 g a S9 ++ (vs_W1 g b O ++ wr)) hC hW 16 4 rfl rfl rfl (by decide) hl.1 vm_X1_60 (by rw [hS9]; rfl) (Nat.le_of_ble_eq_true rfl) (Nat.le_of_ble_eq_true rfl) dX1_copyFrom_106 (fun H locs hW => ?_)
      refine vs_aload_n hC hl 1 dX1_copyFrom_109 rfl rfl ?_
      refine vs_get hC hW 12 rfl rfl vs_inX1 6 (by decide) vf_X1_29 rfl dX1_copyFrom_110 ?_
      refine vs_iconst hC dX1_copyFrom_113 ?_
      refine vs_aload_n hC hl 0 dX1_copyFrom_114 rfl rfl ?_
      refine vs_get hC hW 0 rfl rfl vs_inX1 6 (by decide) vf_X1_29 rfl dX1_copyFrom_115 ?_
      refine vs_iconst hC dX1_copyFrom_118 ?_
      refine vs_iconst hC dX1_copyFrom_119 ?_
      obtain ⟨S10, hS10⟩ : ∃ z : vs_St, z = vs_cpy S9 6 (O 6) 4 := ⟨_, rfl⟩
      have hw := hw S10 hS10
      refine vs_acopy (Wo' := vs_W1 g a S10 ++ (vs_W1 g b O ++ wr)) hC hW 18 6 rfl rfl rfl (by decide) hl.1 vm_X1_60 (by rw [hS10]; rfl) (Nat.le_of_ble_eq_true rfl) (Nat.le_of_ble_eq_true rfl) dX1_copyFrom_120 (fun H locs hW => ?_)
      refine vs_aload_n hC hl 1 dX1_copyFrom_123 rfl rfl ?_
      refine vs_get hC hW 12 rfl rfl vs_inX1 7 (by decide) vf_X1_32 rfl dX1_copyFrom_124 ?_
      refine vs_iconst hC dX1_copyFrom_127 ?_
      refine vs_aload_n hC hl 0 dX1_copyFrom_128 rfl rfl ?_
      refine vs_get hC hW 0 rfl rfl vs_inX1 7 (by decide) vf_X1_32 rfl dX1_copyFrom_129 ?_
      refine vs_iconst hC dX1_copyFrom_132 ?_
      refine vs_sipush hC dX1_copyFrom_133 (by decide +kernel) ?_
      obtain ⟨S11, hS11⟩ : ∃ z : vs_St, z = vs_cpy S10 7 (O 7) 400 := ⟨_, rfl⟩
      have hw := hw S11 hS11
      refine vs_acopy (Wo' := vs_W1 g a S11 ++ (vs_W1 g b O ++ wr)) hC hW 19 7 rfl rfl rfl (by decide) hl.1 vm_X1_60 (by rw [hS11]; rfl) (Nat.le_of_ble_eq_true rfl) (Nat.le_of_ble_eq_true rfl) dX1_copyFrom_136 (fun H locs hW => ?_)
      refine vs_aload_n hC hl 1 dX1_copyFrom_139 rfl rfl ?_
      refine vs_get hC hW 12 rfl rfl vs_inX1 8 (by decide) vf_X1_35 rfl dX1_copyFrom_140 ?_
      refine vs_iconst hC dX1_copyFrom_143 ?_
      refine vs_aload_n hC hl 0 dX1_copyFrom_144 rfl rfl ?_
      refine vs_get hC hW 0 rfl rfl vs_inX1 8 (by decide) vf_X1_35 rfl dX1_copyFrom_145 ?_
      refine vs_iconst hC dX1_copyFrom_148 ?_
      refine vs_sipush hC dX1_copyFrom_149 (by decide +kernel) ?_
      obtain ⟨S12, hS12⟩ : ∃ z : vs_St, z = vs_cpy S11 8 (O 8) 400 := ⟨_, rfl⟩
      have hw := hw S12 hS12
      refine vs_acopy (Wo' := vs_W1 g a S12 ++ (vs_W1 g b O ++ wr)) hC hW 20 8 rfl rfl rfl (by decide) hl.1 vm_X1_60 (by rw [hS12]; rfl) (Nat.le_of_ble_eq_true rfl) (Nat.le_of_ble_eq_true rfl) dX1_copyFrom_152 (fun H locs hW => ?_)
      refine vs_aload_n hC hl 1 dX1_copyFrom_155 rfl rfl ?_
      refine vs_get hC hW 12 rfl rfl vs_inX1 9 (by decide) vf_X1_38 rfl dX1_copyFrom_156 ?_
      refine vs_iconst hC dX1_copyFrom_159 ?_
      refine vs_aload_n hC hl 0 dX1_copyFrom_160 rfl rfl ?_
      refine vs_get hC hW 0 rfl rfl vs_inX1 9 (by decide) vf_X1_38 rfl dX1_copyFrom_161 ?_
      refine vs_iconst hC dX1_copyFrom_164 ?_
      refine vs_sipush hC dX1_copyFrom_165 (by decide +kernel) ?_
      obtain ⟨S13, hS13⟩ : ∃ z : vs_St, z = vs_cpy S12 9 (O 9) 1200 := ⟨_, rfl⟩
      have hw := hw S13 hS13
      refine vs_acopy (Wo' := vs_W1 g a S13 ++ (vs_W1 g b O ++ wr)) hC hW 21 9 rfl rfl rfl (by decide) hl.1 vm_X1_60 (by rw [hS13]; rfl) (Nat.le_of_ble_eq_true rfl) (Nat.le_of_ble_eq_true rfl) dX1_copyFrom_168 (fun H locs hW => ?_)
      refine vs_aload_n hC hl 1 dX1_copyFrom_171 rfl rfl ?_
      refine vs_get hC hW 12 rfl rfl vs_inX1 11 (by decide) vf_X1_41 rfl dX1_copyFrom_172 ?_
      refine vs_iconst hC dX1_copyFrom_175 ?_
      refine vs_aload_n hC hl 0 dX1_copyFrom_176 rfl rfl ?_
      refine vs_get hC hW 0 rfl rfl vs_inX1 11 (by decide) vf_X1_41 rfl dX1_copyFrom_177 ?_
      refine vs_iconst hC dX1_copyFrom_180 ?_
      refine vs_sipush hC dX1_copyFrom_181 (by decide +kernel) ?_
      obtain ⟨S14, hS14⟩ : ∃ z : vs_St, z = vs_cpy S13 11 (O 11) 400 := ⟨_, rfl⟩
      have hw := hw S14 hS14
      refine vs_acopy (Wo' := vs_W1 g a S14 ++ (vs_W1 g b O ++ wr)) hC hW 22 10 rfl rfl rfl (by decide) hl.1 vm_X1_60 (by rw [hS14]; rfl) (Nat.le_of_ble_eq_true rfl) (Nat.le_of_ble_eq_true rfl) dX1_copyFrom_184 (fun H locs hW => ?_)
      exact vs_vret (S14) hC hr hlk hW rfl hw (Nat.le_of_ble_eq_true rfl) (Nat.le_of_ble_eq_true rfl) dX1_copyFrom_187
    · have hw := hwf hc
      clear hwt hwf hc
      refine vs_aload_n hC hl 0 dX1_copyFrom_75 rfl rfl ?_
      refine vs_get hC hW 0 rfl rfl vs_inX1 5 (by decide) vf_X1_25 rfl dX1_copyFrom_76 ?_
      refine vs_iload_n hC hl 2 dX1_copyFrom_79 rfl rfl ?_
      refine vs_aload_n hC hl 1 dX1_copyFrom_80 rfl rfl ?_
      refine vs_get hC hW 12 rfl rfl vs_inX1 5 (by decide) vf_X1_25 rfl dX1_copyFrom_81 ?_
      refine vs_iload_n hC hl 2 dX1_copyFrom_84 rfl rfl ?_
      obtain ⟨hi, hw⟩ := hw
      refine vs_zald hC hW 17 rfl (by decide) hi dX1_copyFrom_85 ?_
      obtain ⟨hi, hw⟩ := hw
      obtain ⟨hy, hw⟩ := hw
      obtain ⟨S15, hS15⟩ : ∃ z : vs_St, z = vs_st S8 5 v7 (O 5 v7) := ⟨_, rfl⟩
      have hw := hw S15 hS15
      refine vs_zast (Wo' := vs_W1 g a S15 ++ (vs_W1 g b O ++ wr)) hC hW 5 rfl (by decide) hi hy (by rw [hS15]; rfl) dX1_copyFrom_86 (fun H locs hW => ?_)
      refine vs_iinc (L' := [(0, .ref (a 0)), (1, .ref (b 0)), (2, .int (vs_I (v7 + 1)))]) hC hl 2 [1, 2, 0] dX1_copyFrom_87 rfl (by decide) rfl (fun ls hl => ?_)
      refine vs_goto hC 68 dX1_copyFrom_90 (by decide) ?_
      exact ih6 (v7 + 1, S15) hw _ _ _ hW (lv_sub hl [0, 1, 2] rfl)
  · have hw := hwf hc
    clear hwt hwf hc
    refine vs_aload_n hC hl 0 dX1_copyFrom_24 rfl rfl ?_
    refine vs_get hC hW 0 rfl rfl vs_inX1 1 (by decide) vf_X1_9 rfl dX1_copyFrom_25 ?_
    refine vs_iload_n hC hl 2 dX1_copyFrom_28 rfl rfl ?_
    refine vs_aload_n hC hl 1 dX1_copyFrom_29 rfl rfl ?_
    refine vs_get hC hW 12 rfl rfl vs_inX1 1 (by decide) vf_X1_9 rfl dX1_copyFrom_30 ?_
    refine vs_iload_n hC hl 2 dX1_copyFrom_33 rfl rfl ?_
    obtain ⟨hi, hw⟩ := hw
    refine vs_iald hC hW 13 rfl (by decide) hi dX1_copyFrom_34 ?_
    obtain ⟨hi, hw⟩ := hw
    obtain ⟨S16, hS16⟩ : ∃ z : vs_St, z = vs_st S5 1 v4 (O 1 v4) := ⟨_, rfl⟩
    have hw := hw S16 hS16
    refine vs_iast (Wo' := vs_W1 g a S16 ++ (vs_W1 g b O ++ wr)) hC hW 1 rfl (by decide) hi (by rw [hS16]; rfl) dX1_copyFrom_35 (fun H locs hW => ?_)
    refine vs_aload_n hC hl 0 dX1_copyFrom_36 rfl rfl ?_
    refine vs_get hC hW 0 rfl rfl vs_inX1 2 (by decide) vf_X1_15 rfl dX1_copyFrom_37 ?_
    refine vs_iload_n hC hl 2 dX1_copyFrom_40 rfl rfl ?_
    refine vs_aload_n hC hl 1 dX1_copyFrom_41 rfl rfl ?_
    refine vs_get hC hW 12 rfl rfl vs_inX1 2 (by decide) vf_X1_15 rfl dX1_copyFrom_42 ?_
    refine vs_iload_n hC hl 2 dX1_copyFrom_45 rfl rfl ?_
    obtain ⟨hi, hw⟩ := hw
    refine vs_iald hC hW 14 rfl (by decide) hi dX1_copyFrom_46 ?_
    obtain ⟨hi, hw⟩ := hw
    obtain ⟨S17, hS17⟩ : ∃ z : vs_St, z = vs_st S16 2 v4 (O 2 v4) := ⟨_, rfl⟩
    have hw := hw S17 hS17
    refine vs_iast (Wo' := vs_W1 g a S17 ++ (vs_W1 g b O ++ wr)) hC hW 2 rfl (by decide) hi (by rw [hS17]; rfl) dX1_copyFrom_47 (fun H locs hW => ?_)
    refine vs_aload_n hC hl 0 dX1_copyFrom_48 rfl rfl ?_
    refine vs_get hC hW 0 rfl rfl vs_inX1 3 (by decide) vf_X1_18 rfl dX1_copyFrom_49 ?_
    refine vs_iload_n hC hl 2 dX1_copyFrom_52 rfl rfl ?_
    refine vs_aload_n hC hl 1 dX1_copyFrom_53 rfl rfl ?_
    refine vs_get hC hW 12 rfl rfl vs_inX1 3 (by decide) vf_X1_18 rfl dX1_copyFrom_54 ?_
    refine vs_iload_n hC hl 2 dX1_copyFrom_57 rfl rfl ?_
    obtain ⟨hi, hw⟩ := hw
    refine vs_cald hC hW 15 rfl (by decide) hi dX1_copyFrom_58 ?_
    obtain ⟨hi, hw⟩ := hw
    obtain ⟨hy, hw⟩ := hw
    obtain ⟨S18, hS18⟩ : ∃ z : vs_St, z = vs_st S17 3 v4 (O 3 v4) := ⟨_, rfl⟩
    have hw := hw S18 hS18
    refine vs_cast (Wo' := vs_W1 g a S18 ++ (vs_W1 g b O ++ wr)) hC hW 3 rfl (by decide) hi hy (by rw [hS18]; rfl) dX1_copyFrom_59 (fun H locs hW => ?_)
    refine vs_iinc (L' := [(0, .ref (a 0)), (1, .ref (b 0)), (2, .int (vs_I (v4 + 1)))]) hC hl 2 [1, 2, 0] dX1_copyFrom_60 rfl (by decide) rfl (fun ls hl => ?_)
    refine vs_goto hC 18 dX1_copyFrom_63 (by decide) ?_
    exact ih3 (v4 + 1, S18) hw _ _ _ hW (lv_sub hl [0, 1, 2] rfl)
set_option maxHeartbeats 4000000 in
set_option maxRecDepth 100000 in
theorem c_X2_openRebuilds (l : Launch) (g : vs_G) (h0 n0 : Nat) (aS aT aK : Nat → Nat) (wr : va_W) (V S T K : vs_St) (post : Int → vs_St → Prop) (hw : wX2_openRebuilds V S T K post) : vs_MI l yX2_openRebuilds (Cond.code yX2_openRebuilds cX2_openRebuilds 1 (some .int) :: vs_ws) { frames := 4, cells := 0, slots := 0, locals := 99 } g [.ref h0] (vs_W2 h0 (aS 0) (aT 0) (aK 0) n0 V ++ (vs_W1 g aS S ++ (vs_W1 g aT T ++ (vs_W0 g aK K ++ wr)))) (fun (u : vs_St) => vs_W2 h0 (aS 0) (aT 0) (aK 0) n0 V ++ (vs_W1 g aS S ++ (vs_W1 g aT u ++ (vs_W0 g aK K ++ wr)))) post 0 0 := by
  refine vs_ofW (Qc := fun A => vs_QI g A (fun (u : vs_St) => vs_W2 h0 (aS 0) (aT 0) (aK 0) n0 V ++ (vs_W1 g aS S ++ (vs_W1 g aT u ++ (vs_W0 g aK K ++ wr)))) post) (by decide +kernel) (Nat.le_of_ble_eq_true rfl) (fun p e s m below meth c A ls hC hr hlk hW hl => ?_)
  have hC : CallFix p m c cX2_openRebuilds 1 s _ vs_ws RX2 := hC
  have hl : lv_has ls 1 [(0, .ref h0)] := hl
  unfold wX2_openRebuilds at hw
  refine vs_aload_n hC hl 0 dX2_openRebuilds_0 rfl rfl ?_
  refine vs_get hC hW 0 rfl rfl vs_inX2 1 (by decide) vf_X2_16 rfl dX2_openRebuilds_1 ?_
  refine vs_aload_n hC hl 0 dX2_openRebuilds_4 rfl rfl ?_
  refine vs_get hC hW 0 rfl rfl vs_inX2 0 (by decide) vf_X2_12 rfl dX2_openRebuilds_5 ?_
  have hW : vs_Wd g A _ (vs_W1 g aT T ++ (vs_W1 g aS S ++ (vs_W2 h0 (aS 0) (aT 0) (aK 0) n0 V ++ (vs_W0 g aK K ++ wr)))) _ _ s := vs_Wd.perm hW (List.Perm.trans vs_p3 (List.Perm.append_left _ vs_p2))
  refine vs_callNV [.ref (aS 0)] hC hW 0 rfl rfl vk_X1_copyFrom vo_X2_236 (c_X1_copyFrom l g aT aS (vs_W2 h0 (aS 0) (aT 0) (aK 0) n0 V ++ (vs_W0 g aK K ++ wr)) T S _ hw) rfl hl.1 rfl ⟨rfl, rfl⟩ ⟨Nat.le_of_ble_eq_true rfl, Nat.le_of_ble_eq_true rfl⟩ ⟨Nat.le_of_ble_eq_true rfl, Nat.le_of_ble_eq_true rfl⟩ (Nat.le_of_ble_eq_true rfl) dX2_openRebuilds_8 (fun T1 H locs hw hW => ?_)
  have hW : vs_Wd g A _ (vs_W1 g aT T1 ++ (vs_W1 g aS S ++ (vs_W2 h0 (aS 0) (aT 0) (aK 0) n0 V ++ (vs_W0 g aK K ++ wr)))) _ _ s := hW
  have hW : vs_Wd g A _ (vs_W2 h0 (aS 0) (aT 0) (aK 0) n0 V ++ (vs_W1 g aS S ++ (vs_W1 g aT T1 ++ (vs_W0 g aK K ++ wr)))) _ _ s := vs_Wd.perm hW (List.Perm.symm (List.Perm.trans vs_p3 (List.Perm.append_left _ vs_p2)))
  refine vs_aload_n hC hl 0 dX2_openRebuilds_11 rfl rfl ?_
  refine vs_get hC hW 0 rfl rfl vs_inX2 1 (by decide) vf_X2_16 rfl dX2_openRebuilds_12 ?_
  refine vs_ldc (n := 1000000) hC dX2_openRebuilds_15 vc_X2_240 (by decide +kernel) ?_
  have hW : vs_Wd g A _ (vs_W1 g aT T1 ++ (vs_W2 h0 (aS 0) (aT 0) (aK 0) n0 V ++ (vs_W1 g aS S ++ (vs_W0 g aK K ++ wr)))) _ _ s := vs_Wd.perm hW vs_p3
  refine vs_callNI [.int (vs_I 1000000)] hC hW 0 rfl rfl vk_X1_rebuild vo_X2_143 (c_X1_rebuild l g aT (vs_W2 h0 (aS 0) (aT 0) (aK 0) n0 V ++ (vs_W1 g aS S ++ (vs_W0 g aK K ++ wr))) T1 1000000 _ hw) rfl hl.1 rfl ⟨rfl, rfl⟩ ⟨Nat.le_of_ble_eq_true rfl, Nat.le_of_ble_eq_true rfl⟩ ⟨Nat.le_of_ble_eq_true rfl, Nat.le_of_ble_eq_true rfl⟩ (Nat.le_of_ble_eq_true rfl) dX2_openRebuilds_17 (fun r2 T3 H locs hw hW => ?_)
  have hW : vs_Wd g A _ (vs_W1 g aT T3 ++ (vs_W2 h0 (aS 0) (aT 0) (aK 0) n0 V ++ (vs_W1 g aS S ++ (vs_W0 g aK K ++ wr)))) _ _ s := hW
  have hW : vs_Wd g A _ (vs_W2 h0 (aS 0) (aT 0) (aK 0) n0 V ++ (vs_W1 g aS S ++ (vs_W1 g aT T3 ++ (vs_W0 g aK K ++ wr)))) _ _ s := vs_Wd.perm hW (List.Perm.symm vs_p3)
  exact vs_iret (T3) hC hr hlk hW rfl hw (Nat.le_of_ble_eq_true rfl) (Nat.le_of_ble_eq_true rfl) dX2_openRebuilds_20
