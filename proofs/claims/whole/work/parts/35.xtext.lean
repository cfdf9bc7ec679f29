/-! the text methods of the class and of the reference -/
abbrev vs_TT : Type := Int × Nat × (Int → Int)
def vs_tT (g : vs_G) (b q : Nat) (ml : Int) (T : vs_TT) : va_W := vs_tB g b q ml T.1 T.2.1 T.2.2
def vs_aC (x : Int) (T : vs_TT) : vs_TT := (T.1 + 1, vs_gr T.2.1 (T.1 + 1), vs_up (vs_gf T.2.1 (T.1 + 1) T.2.2) T.1 x)
def vs_aI (x : Int) (T : vs_TT) : vs_TT := (T.1 + vs_dg x, vs_gr T.2.1 (T.1 + vs_dg x), vs_gc x (T.1 + vs_dg x) (vs_gf T.2.1 (T.1 + vs_dg x) T.2.2))
def vs_tk (T : vs_TT) : Prop := (0 ≤ T.1 ∧ T.1 ≤ (T.2.1 : Int)) ∧ T.2.1 ≤ 404 ∧ vs_by T.2.2 T.2.1
def vs_rc (T : vs_TT) (k : Int) : Nat := if T.1 + k ≤ (T.2.1 : Int) then 0 else 1
def vs_rs (T : vs_TT) (k : Int) : Nat := if T.1 + k ≤ (T.2.1 : Int) then 0 else 2 * T.2.1 + 2
theorem vs_rcs {T : vs_TT} (k : Int) : vs_rc T k + T.2.1 ≤ vs_gr T.2.1 (T.1 + k) ∧ vs_rs T k + 2 * T.2.1 ≤ 2 * vs_gr T.2.1 (T.1 + k) ∧ T.2.1 ≤ vs_gr T.2.1 (T.1 + k) := by
  unfold vs_rc vs_rs vs_gr
  by_cases q : T.1 + k ≤ (T.2.1 : Int)
  · rw [if_pos q, if_pos q, if_pos q]; omega
  · rw [if_neg q, if_neg q, if_neg q]; omega
theorem vs_rhm {T : vs_TT} (k : Int) : T.1 + k ≤ (T.2.1 : Int) ∨ (1 ≤ vs_rc T k ∧ 2 * T.2.1 + 2 ≤ vs_rs T k) := by
  unfold vs_rc vs_rs
  by_cases q : T.1 + k ≤ (T.2.1 : Int)
  · exact .inl q
  · rw [if_neg q, if_neg q]; exact .inr ⟨by omega, by omega⟩
theorem vs_dg12 (x : Int) : vs_dg x = 1 ∨ vs_dg x = 2 := by unfold vs_dg; split <;> omega
theorem vs_dg1 {x : Int} (h : x < 10) : vs_dg x = 1 := if_pos h
theorem vs_aC_k {T : vs_TT} (h : vs_tk T) (hn : T.1 ≤ 200) {x : Int} (hx : 0 ≤ x ∧ x < 128) : vs_tk (vs_aC x T) := by
  obtain ⟨⟨h0, h1⟩, h2, h3⟩ := h
  have h4 := vs_gr1 (cap := T.2.1) (k := T.1 + 1) (by omega)
  refine ⟨⟨by show 0 ≤ T.1 + 1; omega, h4.1⟩, ?_, vs_by_up (vs_by_gf h3 _) (by omega)⟩
  show vs_gr T.2.1 (T.1 + 1) ≤ 404
  unfold vs_gr
  split <;> omega
theorem vs_by_gc {f : Int → Int} {n i x : Int} (h : vs_by f n) (hx : 0 ≤ x ∧ x < 100) : vs_by (vs_gc x i f) n := by
  unfold vs_gc
  split
  · exact vs_by_up h (by omega)
  · exact vs_by_up (vs_by_up h (by omega)) (by omega)
theorem vs_aI_k {T : vs_TT} (h : vs_tk T) (hn : T.1 ≤ 200) {x : Int} (hx : 0 ≤ x ∧ x < 100) : vs_tk (vs_aI x T) := by
  obtain ⟨⟨h0, h1⟩, h2, h3⟩ := h
  have hd := vs_dg12 x
  have h4 := vs_gr1 (cap := T.2.1) (k := T.1 + vs_dg x) (by omega)
  refine ⟨⟨by show 0 ≤ T.1 + vs_dg x; omega, h4.1⟩, ?_, vs_by_gc (vs_by_gf h3 _) hx⟩
  show vs_gr T.2.1 (T.1 + vs_dg x) ≤ 404
  unfold vs_gr
  split <;> omega
def vs_c4 (v : Int) (T : vs_TT) : vs_TT := vs_aI (v % 100) (vs_aC 46 (vs_aI (v / 100) (vs_aC 32 T)))
def vs_cp (v r : Int) (T : vs_TT) : vs_TT := if r = 0 then vs_c4 v T else vs_aC 33 (vs_c4 v T)
theorem c_appC (l : Launch) (g : vs_G) (jd : Nat → Nat) (b q : Nat) (ml : Int) (T : vs_TT) (wr : va_W) (x : Int) (hT : vs_tk T) (hx : 0 ≤ x ∧ x < 128) : vs_JR l yJ4_append_cf468 (Cond.code yJ4_append_cf468 cJ4_append_cf468 2 (some (.object "java/lang/StringBuilder")) :: vs_ws) { frames := 5, cells := vs_rc T 1, slots := vs_rs T 1, locals := 151 } g jd [.ref b, .int (vs_I x)] (vs_tT g b q ml T ++ wr) (fun (u : Nat) => vs_tT g b u ml (vs_aC x T) ++ wr) (fun _ => b) (fun _ => True) (vs_rc T 1) (vs_rs T 1) :=
  c_J4_append_cf468 l g jd b q T.2.1 ml T.1 T.2.2 wr x (vs_rc T 1) (vs_rs T 1) (by have := hT.2.1; omega) hT.2.2 hT.1 hx (vs_rhm 1)
theorem c_appI (l : Launch) (g : vs_G) (jd : Nat → Nat) (b q : Nat) (ml : Int) (T : vs_TT) (wr : va_W) (x : Int) (hT : vs_tk T) (hx : 0 ≤ x ∧ x < 100) : vs_JR l yJ4_append_bf812 (Cond.code yJ4_append_bf812 cJ4_append_bf812 2 (some (.object "java/lang/StringBuilder")) :: vs_ws) { frames := 5, cells := vs_rc T (vs_dg x), slots := vs_rs T (vs_dg x), locals := 153 } g jd [.ref b, .int (vs_I x)] (vs_tT g b q ml T ++ wr) (fun (u : Nat) => vs_tT g b u ml (vs_aI x T) ++ wr) (fun _ => b) (fun _ => True) (vs_rc T (vs_dg x)) (vs_rs T (vs_dg x)) :=
  c_J4_append_bf812 l g jd b q T.2.1 ml T.1 T.2.2 wr x (vs_rc T (vs_dg x)) (vs_rs T (vs_dg x)) (by have := hT.2.1; omega) hT.2.2 hT.1 hx (vs_rhm (vs_dg x))
set_option maxHeartbeats 4000000 in
set_option maxRecDepth 100000 in
theorem c_X2_appendCopy (l : Launch) (g : vs_G) (jd : Nat → Nat) (b q h : Nat) (aS aT aK : Nat → Nat) (ml : Int) (T : vs_TT) (V : vs_St) (wr : va_W) (v r9 : Int) (mc ms : Nat) (kT : vs_tk T) (hn : T.1 ≤ 190) (hv : 0 ≤ v ∧ v < 10000) (hr9 : r9 = 0 ∨ r9 = 1) (hm : (vs_cp v r9 T).2.1 ≤ mc + T.2.1 ∧ 2 * (vs_cp v r9 T).2.1 ≤ ms + 2 * T.2.1) : vs_JV l yX2_appendCopy (Cond.code yX2_appendCopy cX2_appendCopy 3 none :: vs_ws) { frames := 6, cells := mc, slots := ms, locals := 174 } g jd [.ref h, .int (vs_I v), .int (vs_I r9)] (vs_tT g b q ml T ++ (vs_W2 h (aS 0) (aT 0) (aK 0) b V ++ wr)) (fun (u : Nat) => vs_tT g b u ml (vs_cp v r9 T) ++ (vs_W2 h (aS 0) (aT 0) (aK 0) b V ++ wr)) (fun _ => True) mc ms := by
  refine vs_ofJ (y := yX2_appendCopy) (cc := cX2_appendCopy) (maxL := 3) (ret := none) (as := [.ref h, .int (vs_I v), .int (vs_I r9)]) (Wo := vs_tT g b q ml T ++ (vs_W2 h (aS 0) (aT 0) (aK 0) b V ++ wr)) (mc := mc) (ms := ms) (Qc := fun A => vs_QV g A (fun (u : Nat) => vs_tT g b u ml (vs_cp v r9 T) ++ (vs_W2 h (aS 0) (aT 0) (aK 0) b V ++ wr)) (fun _ => True)) (by decide +kernel) (Nat.le_of_ble_eq_true rfl) (fun p e s m below meth c A ls hC hr hlk hin hW hJ hl => ?_)
  have hC : CallFix p m c cX2_appendCopy 3 s _ vs_ws RX2 := hC
  have hl : lv_has ls 3 [(0, .ref h), (1, .int (vs_I v)), (2, .int (vs_I r9))] := hl
  rcases hr9 with rfl | rfl
  · obtain ⟨T1, eT1⟩ : ∃ z, z = vs_aC 32 T := ⟨_, rfl⟩
    have kT1 : vs_tk T1 := by rw [eT1]; exact vs_aC_k kT (by omega) (by omega)
    have nT1 : T1.1 = T.1 + 1 := by rw [eT1]; rfl
    have rT1 : vs_rc T 1 + T.2.1 ≤ T1.2.1 ∧ vs_rs T 1 + 2 * T.2.1 ≤ 2 * T1.2.1 ∧ T.2.1 ≤ T1.2.1 := by rw [eT1]; exact vs_rcs (T := T) 1
    obtain ⟨T2, eT2⟩ : ∃ z, z = vs_aI (v / 100) T1 := ⟨_, rfl⟩
    have dT2 := vs_dg12 (v / 100)
    have kT2 : vs_tk T2 := by rw [eT2]; exact vs_aI_k kT1 (by omega) (by omega)
    have nT2 : T2.1 = T1.1 + (vs_dg (v / 100)) := by rw [eT2]; rfl
    have rT2 : vs_rc T1 (vs_dg (v / 100)) + T1.2.1 ≤ T2.2.1 ∧ vs_rs T1 (vs_dg (v / 100)) + 2 * T1.2.1 ≤ 2 * T2.2.1 ∧ T1.2.1 ≤ T2.2.1 := by rw [eT2]; exact vs_rcs (T := T1) (vs_dg (v / 100))
    obtain ⟨T3, eT3⟩ : ∃ z, z = vs_aC 46 T2 := ⟨_, rfl⟩
    have kT3 : vs_tk T3 := by rw [eT3]; exact vs_aC_k kT2 (by omega) (by omega)
    have nT3 : T3.1 = T2.1 + 1 := by rw [eT3]; rfl
    have rT3 : vs_rc T2 1 + T2.2.1 ≤ T3.2.1 ∧ vs_rs T2 1 + 2 * T2.2.1 ≤ 2 * T3.2.1 ∧ T2.2.1 ≤ T3.2.1 := by rw [eT3]; exact vs_rcs (T := T2) 1
    obtain ⟨T4, eT4⟩ : ∃ z, z = vs_aI (v % 100) T3 := ⟨_, rfl⟩
    have dT4 := vs_dg12 (v % 100)
    have kT4 : vs_tk T4 := by rw [eT4]; exact vs_aI_k kT3 (by omega) (by omega)
    have nT4 : T4.1 = T3.1 + (vs_dg (v % 100)) := by rw [eT4]; rfl
    have rT4 : vs_rc T3 (vs_dg (v % 100)) + T3.2.1 ≤ T4.2.1 ∧ vs_rs T3 (vs_dg (v % 100)) + 2 * T3.2.1 ≤ 2 * T4.2.1 ∧ T3.2.1 ≤ T4.2.1 := by rw [eT4]; exact vs_rcs (T := T3) (vs_dg (v % 100))
    have ez : T4 = vs_c4 v T := by rw [eT4, eT3, eT2, eT1]; rfl
    have ef : T4 = vs_cp v 0 T := by unfold vs_cp; rw [if_pos rfl]; exact ez
    rw [← ef] at hm
    refine vs_aload_n hC hl 0 dX2_appendCopy_0 rfl rfl ?_
    refine vs_get hC hW 2 rfl rfl vs_inX2 3 (by decide) vf_X2_29 rfl dX2_appendCopy_1 ?_
    refine vs_bipush hC dX2_appendCopy_4 (by decide +kernel) ?_
    refine vs_jcallVR [.int (vs_I 32)] hC hW hJ 0 rfl rfl vk_J4_append_cf468 vm_X2_264 (c_appC l g jd b q ml T (vs_W2 h (aS 0) (aT 0) (aK 0) b V ++ wr) 32 kT (by omega)) rfl hl.1 rfl ⟨rfl, rfl⟩ ⟨Nat.le_of_ble_eq_true rfl, Nat.le_of_ble_eq_true rfl⟩ ⟨show _ ≤ mc by first | omega | (dsimp only; omega), show _ ≤ ms by first | omega | (dsimp only; omega)⟩ (Nat.le_of_ble_eq_true rfl) dX2_appendCopy_6 (fun qT1 H locs hw hW => ?_)
    rw [← eT1] at hW
    refine vs_pop hC dX2_appendCopy_9 rfl ?_
    refine vs_aload_n hC hl 0 dX2_appendCopy_10 rfl rfl ?_
    refine vs_get hC hW 2 rfl rfl vs_inX2 3 (by decide) vf_X2_29 rfl dX2_appendCopy_11 ?_
    refine vs_iload_n hC hl 1 dX2_appendCopy_14 rfl rfl ?_
    refine vs_bipush hC dX2_appendCopy_15 (by decide +kernel) ?_
    refine vs_idiv hC dX2_appendCopy_17 ⟨by omega, by omega, by decide, by decide⟩ ?_
    refine vs_jcallVR [.int (vs_I (v / 100))] hC hW hJ 0 rfl rfl vk_J4_append_bf812 vm_X2_303 (c_appI l g jd b qT1 ml T1 (vs_W2 h (aS 0) (aT 0) (aK 0) b V ++ wr) (v / 100) kT1 (by omega)) rfl hl.1 rfl ⟨rfl, rfl⟩ ⟨Nat.le_of_ble_eq_true rfl, Nat.le_of_ble_eq_true rfl⟩ ⟨show _ ≤ mc by first | omega | (dsimp only; omega), show _ ≤ ms by first | omega | (dsimp only; omega)⟩ (Nat.le_of_ble_eq_true rfl) dX2_appendCopy_18 (fun qT2 H locs hw hW => ?_)
    rw [← eT2] at hW
    refine vs_pop hC dX2_appendCopy_21 rfl ?_
    refine vs_aload_n hC hl 0 dX2_appendCopy_22 rfl rfl ?_
    refine vs_get hC hW 2 rfl rfl vs_inX2 3 (by decide) vf_X2_29 rfl dX2_appendCopy_23 ?_
    refine vs_bipush hC dX2_appendCopy_26 (by decide +kernel) ?_
    refine vs_jcallVR [.int (vs_I 46)] hC hW hJ 0 rfl rfl vk_J4_append_cf468 vm_X2_264 (c_appC l g jd b qT2 ml T2 (vs_W2 h (aS 0) (aT 0) (aK 0) b V ++ wr) 46 kT2 (by omega)) rfl hl.1 rfl ⟨rfl, rfl⟩ ⟨Nat.le_of_ble_eq_true rfl, Nat.le_of_ble_eq_true rfl⟩ ⟨show _ ≤ mc by first | omega | (dsimp only; omega), show _ ≤ ms by first | omega | (dsimp only; omega)⟩ (Nat.le_of_ble_eq_true rfl) dX2_appendCopy_28 (fun qT3 H locs hw hW => ?_)
    rw [← eT3] at hW
    refine vs_pop hC dX2_appendCopy_31 rfl ?_
    refine vs_aload_n hC hl 0 dX2_appendCopy_32 rfl rfl ?_
    refine vs_get hC hW 2 rfl rfl vs_inX2 3 (by decide) vf_X2_29 rfl dX2_appendCopy_33 ?_
    refine vs_iload_n hC hl 1 dX2_appendCopy_36 rfl rfl ?_
    refine vs_bipush hC dX2_appendCopy_37 (by decide +kernel) ?_
    refine vs_irem hC dX2_appendCopy_39 ⟨by omega, by omega, by decide, by decide⟩ ?_
    refine vs_jcallVR [.int (vs_I (v % 100))] hC hW hJ 0 rfl rfl vk_J4_append_bf812 vm_X2_303 (c_appI l g jd b qT3 ml T3 (vs_W2 h (aS 0) (aT 0) (aK 0) b V ++ wr) (v % 100) kT3 (by omega)) rfl hl.1 rfl ⟨rfl, rfl⟩ ⟨Nat.le_of_ble_eq_true rfl, Nat.le_of_ble_eq_true rfl⟩ ⟨show _ ≤ mc by first | omega | (dsimp only; omega), show _ ≤ ms by first | omega | (dsimp only; omega)⟩ (Nat.le_of_ble_eq_true rfl) dX2_appendCopy_40 (fun qT4 H locs hw hW => ?_)
    rw [← eT4] at hW
    refine vs_pop hC dX2_appendCopy_43 rfl ?_
    refine vs_iload_n hC hl 2 dX2_appendCopy_44 rfl rfl ?_
    refine vs_if_eq hC 58 ⟨by omega, by omega⟩ dX2_appendCopy_45 (by decide) (fun hc => ?_) (fun hc => absurd hc (by decide))
    exact vs_vret qT4 hC hr hlk hW (by rw [← ef]) trivial (show _ ≤ mc by first | omega | (dsimp only; omega)) (show _ ≤ ms by first | omega | (dsimp only; omega)) dX2_appendCopy_58
  · obtain ⟨T1, eT1⟩ : ∃ z, z = vs_aC 32 T := ⟨_, rfl⟩
    have kT1 : vs_tk T1 := by rw [eT1]; exact vs_aC_k kT (by omega) (by omega)
    have nT1 : T1.1 = T.1 + 1 := by rw [eT1]; rfl
    have rT1 : vs_rc T 1 + T.2.1 ≤ T1.2.1 ∧ vs_rs T 1 + 2 * T.2.1 ≤ 2 * T1.2.1 ∧ T.2.1 ≤ T1.2.1 := by rw [eT1]; exact vs_rcs (T := T) 1
    obtain ⟨T2, eT2⟩ : ∃ z, z = vs_aI (v / 100) T1 := ⟨_, rfl⟩
    have dT2 := vs_dg12 (v / 100)
    have kT2 : vs_tk T2 := by rw [eT2]; exact vs_aI_k kT1 (by omega) (by omega)
    have nT2 : T2.1 = T1.1 + (vs_dg (v / 100)) := by rw [eT2]; rfl
    have rT2 : vs_rc T1 (vs_dg (v / 100)) + T1.2.1 ≤ T2.2.1 ∧ vs_rs T1 (vs_dg (v / 100)) + 2 * T1.2.1 ≤ 2 * T2.2.1 ∧ T1.2.1 ≤ T2.2.1 := by rw [eT2]; exact vs_rcs (T := T1) (vs_dg (v / 100))
    obtain ⟨T3, eT3⟩ : ∃ z, z = vs_aC 46 T2 := ⟨_, rfl⟩
    have kT3 : vs_tk T3 := by rw [eT3]; exact vs_aC_k kT2 (by omega) (by omega)
    have nT3 : T3.1 = T2.1 + 1 := by rw [eT3]; rfl
    have rT3 : vs_rc T2 1 + T2.2.1 ≤ T3.2.1 ∧ vs_rs T2 1 + 2 * T2.2.1 ≤ 2 * T3.2.1 ∧ T2.2.1 ≤ T3.2.1 := by rw [eT3]; exact vs_rcs (T := T2) 1
    obtain ⟨T4, eT4⟩ : ∃ z, z = vs_aI (v % 100) T3 := ⟨_, rfl⟩
    have dT4 := vs_dg12 (v % 100)
    have kT4 : vs_tk T4 := by rw [eT4]; exact vs_aI_k kT3 (by omega) (by omega)
    have nT4 : T4.1 = T3.1 + (vs_dg (v % 100)) := by rw [eT4]; rfl
    have rT4 : vs_rc T3 (vs_dg (v % 100)) + T3.2.1 ≤ T4.2.1 ∧ vs_rs T3 (vs_dg (v % 100)) + 2 * T3.2.1 ≤ 2 * T4.2.1 ∧ T3.2.1 ≤ T4.2.1 := by rw [eT4]; exact vs_rcs (T := T3) (vs_dg (v % 100))
    have ez : T4 = vs_c4 v T := by rw [eT4, eT3, eT2, eT1]; rfl
    obtain ⟨T5, eT5⟩ : ∃ z, z = vs_aC 33 T4 := ⟨_, rfl⟩
    have kT5 : vs_tk T5 := by rw [eT5]; exact vs_aC_k kT4 (by omega) (by omega)
    have nT5 : T5.1 = T4.1 + 1 := by rw [eT5]; rfl
    have rT5 : vs_rc T4 1 + T4.2.1 ≤ T5.2.1 ∧ vs_rs T4 1 + 2 * T4.2.1 ≤ 2 * T5.2.1 ∧ T4.2.1 ≤ T5.2.1 := by rw [eT5]; exact vs_rcs (T := T4) 1
    have ef : T5 = vs_cp v 1 T := by unfold vs_cp; rw [if_neg (by decide)]; rw [← ez]; exact eT5
    rw [← ef] at hm
    refine vs_aload_n hC hl 0 dX2_appendCopy_0 rfl rfl ?_
    refine vs_get hC hW 2 rfl rfl vs_inX2 3 (by decide) vf_X2_29 rfl dX2_appendCopy_1 ?_
    refine vs_bipush hC dX2_appendCopy_4 (by decide +kernel) ?_
    refine vs_jcallVR [.int (vs_I 32)] hC hW hJ 0 rfl rfl vk_J4_append_cf468 vm_X2_264 (c_appC l g jd b q ml T (vs_W2 h (aS 0) (aT 0) (aK 0) b V ++ wr) 32 kT (by omega)) rfl hl.1 rfl ⟨rfl, rfl⟩ ⟨Nat.le_of_ble_eq_true rfl, Nat.le_of_ble_eq_true rfl⟩ ⟨show _ ≤ mc by first | omega | (dsimp only; omega), show _ ≤ ms by first | omega | (dsimp only; omega)⟩ (Nat.le_of_ble_eq_true rfl) dX2_appendCopy_6 (fun qT1 H locs hw hW => ?_)
    rw [← eT1] at hW
    refine vs_pop hC dX2_appendCopy_9 rfl ?_
    refine vs_aload_n hC hl 0 dX2_appendCopy_10 rfl rfl ?_
    refine vs_get hC hW 2 rfl rfl vs_inX2 3 (by decide) vf_X2_29 rfl dX2_appendCopy_11 ?_
    refine vs_iload_n hC hl 1 dX2_appendCopy_14 rfl rfl ?_
    refine vs_bipush hC dX2_appendCopy_15 (by decide +kernel) ?_
    refine vs_idiv hC dX2_appendCopy_17 ⟨by omega, by omega, by decide, by decide⟩ ?_
    refine vs_jcallVR [.int (vs_I (v / 100))] hC hW hJ 0 rfl rfl vk_J4_append_bf812 vm_X2_303 (c_appI l g jd b qT1 ml T1 (vs_W2 h (aS 0) (aT 0) (aK 0) b V ++ wr) (v / 100) kT1 (by omega)) rfl hl.1 rfl ⟨rfl, rfl⟩ ⟨Nat.le_of_ble_eq_true rfl, Nat.le_of_ble_eq_true rfl⟩ ⟨show _ ≤ mc by first | omega | (dsimp only; omega), show _ ≤ ms by first | omega | (dsimp only; omega)⟩ (Nat.le_of_ble_eq_true rfl) dX2_appendCopy_18 (fun qT2 H locs hw hW => ?_)
    rw [← eT2] at hW
    refine vs_pop hC dX2_appendCopy_21 rfl ?_
    refine vs_aload_n hC hl 0 dX2_appendCopy_22 rfl rfl ?_
    refine vs_get hC hW 2 rfl rfl vs_inX2 3 (by decide) vf_X2_29 rfl dX2_appendCopy_23 ?_
    refine vs_bipush hC dX2_appendCopy_26 (by decide +kernel) ?_
    refine vs_jcallVR [.int (vs_I 46)] hC hW hJ 0 rfl rfl vk_J4_append_cf468 vm_X2_264 (c_appC l g jd b qT2 ml T2 (vs_W2 h (aS 0) (aT 0) (aK 0) b V ++ wr) 46 kT2 (by omega)) rfl hl.1 rfl ⟨rfl, rfl⟩ ⟨Nat.le_of_ble_eq_true rfl, Nat.le_of_ble_eq_true rfl⟩ ⟨show _ ≤ mc by first | omega | (dsimp only; omega), show _ ≤ ms by first | omega | (dsimp only; omega)⟩ (Nat.le_of_ble_eq_true rfl) dX2_appendCopy_28 (fun qT3 H locs hw hW => ?_)
    rw [← eT3] at hW
    refine vs_pop hC dX2_appendCopy_31 rfl ?_
    refine vs_aload_n hC hl 0 dX2_appendCopy_32 rfl rfl ?_
    refine vs_get hC hW 2 rfl rfl vs_inX2 3 (by decide) vf_X2_29 rfl dX2_appendCopy_33 ?_
    refine vs_iload_n hC hl 1 dX2_appendCopy_36 rfl rfl ?_
    refine vs_bipush hC dX2_appendCopy_37 (by decide +kernel) ?_
    refine vs_irem hC dX2_appendCopy_39 ⟨by omega, by omega, by decide, by decide⟩ ?_
    refine vs_jcallVR [.int (vs_I (v % 100))] hC hW hJ 0 rfl rfl vk_J4_append_bf812 vm_X2_303 (c_appI l g jd b qT3 ml T3 (vs_W2 h (aS 0) (aT 0) (aK 0) b V ++ wr) (v % 100) kT3 (by omega)) rfl hl.1 rfl ⟨rfl, rfl⟩ ⟨Nat.le_of_ble_eq_true rfl, Nat.le_of_ble_eq_true rfl⟩ ⟨show _ ≤ mc by first | omega | (dsimp only; omega), show _ ≤ ms by first | omega | (dsimp only; omega)⟩ (Nat.le_of_ble_eq_true rfl) dX2_appendCopy_40 (fun qT4 H locs hw hW => ?_)
    rw [← eT4] at hW
    refine vs_pop hC dX2_appendCopy_43 rfl ?_
    refine vs_iload_n hC hl 2 dX2_appendCopy_44 rfl rfl ?_
    refine vs_if_eq hC 58 ⟨by omega, by omega⟩ dX2_appendCopy_45 (by decide) (fun hc => absurd hc (by decide)) (fun hc => ?_)
    refine vs_aload_n hC hl 0 dX2_appendCopy_48 rfl rfl ?_
    refine vs_get hC hW 2 rfl rfl vs_inX2 3 (by decide) vf_X2_29 rfl dX2_appendCopy_49 ?_
    refine vs_bipush hC dX2_appendCopy_52 (by decide +kernel) ?_
    refine vs_jcallVR [.int (vs_I 33)] hC hW hJ 0 rfl rfl vk_J4_append_cf468 vm_X2_264 (c_appC l g jd b qT4 ml T4 (vs_W2 h (aS 0) (aT 0) (aK 0) b V ++ wr) 33 kT4 (by omega)) rfl hl.1 rfl ⟨rfl, rfl⟩ ⟨Nat.le_of_ble_eq_true rfl, Nat.le_of_ble_eq_true rfl⟩ ⟨show _ ≤ mc by first | omega | (dsimp only; omega), show _ ≤ ms by first | omega | (dsimp only; omega)⟩ (Nat.le_of_ble_eq_true rfl) dX2_appendCopy_54 (fun qT5 H locs hw hW => ?_)
    rw [← eT5] at hW
    refine vs_pop hC dX2_appendCopy_57 rfl ?_
    exact vs_vret qT5 hC hr hlk hW (by rw [← ef]) trivial (show _ ≤ mc by first | omega | (dsimp only; omega)) (show _ ≤ ms by first | omega | (dsimp only; omega)) dX2_appendCopy_58
theorem vs_cp_k {T : vs_TT} (h : vs_tk T) (hn : T.1 ≤ 190) {v r : Int} (hv : 0 ≤ v ∧ v < 1000) (hr : r = 0 ∨ r = 1) : vs_tk (vs_cp v r T) ∧ (T.1 ≤ (vs_cp v r T).1 ∧ (vs_cp v r T).1 ≤ T.1 + 6) ∧ T.2.1 ≤ (vs_cp v r T).2.1 := by
  have d2 := vs_dg1 (x := v / 100) (by omega)
  have d4 := vs_dg12 (v % 100)
  have k1 := vs_aC_k h (by omega) (x := 32) (by decide)
  have n1 : (vs_aC 32 T).1 = T.1 + 1 := rfl
  have r1 : T.2.1 ≤ (vs_aC 32 T).2.1 := (vs_rcs (T := T) 1).2.2
  generalize hT1 : vs_aC 32 T = T1 at k1 n1 r1
  have k2 := vs_aI_k k1 (by omega) (x := v / 100) (by omega)
  have n2 : (vs_aI (v / 100) T1).1 = T1.1 + vs_dg (v / 100) := rfl
  have r2 : T1.2.1 ≤ (vs_aI (v / 100) T1).2.1 := (vs_rcs (T := T1) (vs_dg (v / 100))).2.2
  generalize hT2 : vs_aI (v / 100) T1 = T2 at k2 n2 r2
  have k3 := vs_aC_k k2 (by omega) (x := 46) (by decide)
  have n3 : (vs_aC 46 T2).1 = T2.1 + 1 := rfl
  have r3 : T2.2.1 ≤ (vs_aC 46 T2).2.1 := (vs_rcs (T := T2) 1).2.2
  generalize hT3 : vs_aC 46 T2 = T3 at k3 n3 r3
  have k4 := vs_aI_k k3 (by omega) (x := v % 100) (by omega)
  have n4 : (vs_aI (v % 100) T3).1 = T3.1 + vs_dg (v % 100) := rfl
  have r4 : T3.2.1 ≤ (vs_aI (v % 100) T3).2.1 := (vs_rcs (T := T3) (vs_dg (v % 100))).2.2
  have e4 : vs_c4 v T = vs_aI (v % 100) T3 := by unfold vs_c4; rw [hT1, hT2, hT3]
  rw [← e4] at k4 n4 r4
  unfold vs_cp
  rcases hr with rfl | rfl
  · rw [if_pos rfl]; exact ⟨k4, ⟨by omega, by omega⟩, by omega⟩
  · rw [if_neg (by decide)]
    have k5 := vs_aC_k k4 (by omega) (x := 33) (by decide)
    have n5 : (vs_aC 33 (vs_c4 v T)).1 = (vs_c4 v T).1 + 1 := rfl
    have r5 : (vs_c4 v T).2.1 ≤ (vs_aC 33 (vs_c4 v T)).2.1 := (vs_rcs (T := vs_c4 v T) 1).2.2
    exact ⟨k5, ⟨by omega, by omega⟩, by omega⟩
def vs_fw (H R : Int → Int) (i0 : Int) : Nat → vs_TT → vs_TT
  | 0, T => T
  | j + 1, T => if H (i0 + j) = -1 then vs_fw H R i0 j T else vs_cp (H (i0 + j)) (R (i0 + j)) (vs_fw H R i0 j T)
def vs_slotok (H R : Int → Int) (i : Int) : Prop := (H i = -1 ∨ (0 ≤ H i ∧ H i < 1000)) ∧ (R i = 0 ∨ R i = 1)
theorem vs_fw_k {H R : Int → Int} {i0 : Int} {T : vs_TT} (h : vs_tk T) (hn : T.1 = 1) : ∀ j : Nat, j ≤ 32 → (∀ i : Nat, i < j → vs_slotok H R (i0 + i)) → vs_tk (vs_fw H R i0 j T) ∧ (vs_fw H R i0 j T).1 ≤ 1 + 6 * j ∧ T.2.1 ≤ (vs_fw H R i0 j T).2.1 := by
  intro j
  induction j with
  | zero => intro _ _; exact ⟨h, by show T.1 ≤ _; omega, Nat.le_refl _⟩
  | succ j ih =>
    intro hj hs
    obtain ⟨k1, n1, r1⟩ := ih (by omega) (fun i hi => hs i (by omega))
    have h1 := hs j (by omega)
    show vs_tk (if H (i0 + j) = -1 then vs_fw H R i0 j T else vs_cp (H (i0 + j)) (R (i0 + j)) (vs_fw H R i0 j T)) ∧ (if H (i0 + j) = -1 then vs_fw H R i0 j T else vs_cp (H (i0 + j)) (R (i0 + j)) (vs_fw H R i0 j T)).1 ≤ _ ∧ _ ≤ (if H (i0 + j) = -1 then vs_fw H R i0 j T else vs_cp (H (i0 + j)) (R (i0 + j)) (vs_fw H R i0 j T)).2.1
    by_cases q : H (i0 + j) = -1
    · rw [if_pos q]; exact ⟨k1, by omega, r1⟩
    · rw [if_neg q]
      obtain ⟨k2, n2, r2⟩ := vs_cp_k k1 (by omega) (v := H (i0 + j)) (r := R (i0 + j)) (by have := h1.1; omega) h1.2
      exact ⟨k2, by omega, by omega⟩
/-- the text of a disk -/
def vs_wl (z n : Int) (H R : Int → Int) (i0 : Int) (B : vs_TT) : vs_TT := vs_fw H R i0 n.toNat (vs_aC z (0, B.2))
def vs_wdp (S : vs_St) (B : vs_TT) (d : Int) (post : Int → vs_TT → Prop) : Prop :=
  (0 ≤ d ∧ d < 8) ∧ (0 ≤ S 3 d ∧ S 3 d < 128) ∧ (0 ≤ S 1 d ∧ S 1 d ≤ 32) ∧ (∀ i : Nat, i < 32 → vs_slotok (S 4) (S 5) (d * 32 + i)) ∧ post (vs_wl (S 3 d) (S 1 d) (S 4) (S 5) (d * 32) B).1 (vs_wl (S 3 d) (S 1 d) (S 4) (S 5) (d * 32) B)
def wX2_writeDisk (V S T K : vs_St) (B : vs_TT) (d : Int) (post : Int → vs_TT → Prop) (px : Nat → Prop) : Prop := wX2_checkDisk V S T K d (vs_wdp S B d post) px
theorem vs_pF {B V S T K r : va_W} : List.Perm (B ++ (V ++ (S ++ (T ++ (K ++ r))))) (V ++ (S ++ (T ++ (K ++ (B ++ r))))) :=
  ((List.perm_append_comm_assoc B V (S ++ (T ++ (K ++ r)))).trans (List.Perm.append_left V ((List.perm_append_comm_assoc B S (T ++ (K ++ r))).trans (List.Perm.append_left S ((List.perm_append_comm_assoc B T (K ++ r)).trans (List.Perm.append_left T (List.perm_append_comm_assoc B K r)))))))
section VSX9
variable {p : Program} {l : Launch} {e : Env} {R : Room} {s : State} {m : MethodId} {args : Array Value} {below : List Frame} {meth : Method} {c : Code} {H : Heap} {locs : List Loc} {cells slots : Nat} {Q : State → Prop}
variable {cc : ByteArray} {pc nL : Nat} {ls : Array Slot} {rest : List Value} {own : String} {g : vs_G} {A : Nat → Prop} {H0 : Heap} {Wo : va_W} {a : Nat}
theorem vs_loopC {V : Type} {J : V → Nat → Nat → Prop} {μ : V → Nat} (mkW : V → va_W) (mkL : V → List (Nat × Value))
    (step : ∀ v c1 s1, J v c1 s1 → (∀ v' c2 s2, J v' c2 s2 ∧ μ v' < μ v → ∀ (H : Heap) (locs : List Loc) (ls : Array Slot), vs_Wd g A H0 (mkW v') H locs s → lv_has ls nL (mkL v') → W p l e R s m args below meth c H locs c2 s2 Q (F0 m pc ls [])) →
      ∀ (H : Heap) (locs : List Loc) (ls : Array Slot), vs_Wd g A H0 (mkW v) H locs s → lv_has ls nL (mkL v) → W p l e R s m args below meth c H locs c1 s1 Q (F0 m pc ls []))
    (v0 : V) (hJ : J v0 cells slots) (hW : vs_Wd g A H0 (mkW v0) H locs s) (hl : lv_has ls nL (mkL v0)) : W p l e R s m args below meth c H locs cells slots Q (F0 m pc ls []) := by
  have K : ∀ (n : Nat) (v : V) (c1 s1 : Nat), J v c1 s1 → μ v < n → ∀ (H : Heap) (locs : List Loc) (ls : Array Slot), vs_Wd g A H0 (mkW v) H locs s → lv_has ls nL (mkL v) → W p l e R s m args below meth c H locs c1 s1 Q (F0 m pc ls []) := by
    intro n
    induction n with
    | zero => intro v _ _ _ h; exact absurd h (Nat.not_lt_zero _)
    | succ n ih => intro v c1 s1 hv h; exact step v c1 s1 hv (fun v' c2 s2 h' => ih v' c2 s2 h'.1 (by have := h'.2; omega))
  exact K (μ v0 + 1) v0 cells slots hJ (Nat.lt_succ_self _) H locs ls hW hl
end VSX9
set_option maxHeartbeats 4000000 in
set_option maxRecDepth 100000 in
theorem c_X2_writeDisk (l : Launch) (hst : l.stackTraces = false) (g : vs_G) (sd : Nat → Nat) (h b q : Nat) (aS aT aK : Nat → Nat) (ml : Int) (B : vs_TT) (wr : va_W) (V S T K : vs_St) (d : Int) (post : Int → vs_TT → Prop) (px : Nat → Prop) (kB : vs_tk B) (hw : wX2_writeDisk V S T K B d post px) : vs_XI l yX2_writeDisk (Cond.code yX2_writeDisk cX2_writeDisk 4 (some .int) :: vs_ws) { frames := 7, cells := 420, slots := 860, locals := 196 } g sd [.ref h, .int (vs_I d)] (vs_tT g b q ml B ++ (vs_W2 h (aS 0) (aT 0) (aK 0) b V ++ (vs_W1 g aS S ++ (vs_W1 g aT T ++ (vs_W0 g aK K ++ wr))))) (fun (u : Nat × Int × vs_TT) => vs_tT g b u.1 u.2.1 u.2.2 ++ (vs_W2 h (aS 0) (aT 0) (aK 0) b V ++ (vs_W1 g aS S ++ (vs_W1 g aT T ++ (vs_W0 g aK K ++ wr))))) (fun v (u : Nat × Int × vs_TT) => (vs_tk u.2.2 ∧ u.2.2.1 ≤ 193) ∧ post v u.2.2) px 420 860 := by
  refine vs_ofX (y := yX2_writeDisk) (cc := cX2_writeDisk) (maxL := 4) (ret := (some .int)) (as := [.ref h, .int (vs_I d)]) (Wo := vs_tT g b q ml B ++ (vs_W2 h (aS 0) (aT 0) (aK 0) b V ++ (vs_W1 g aS S ++ (vs_W1 g aT T ++ (vs_W0 g aK K ++ wr))))) (mc := 420) (ms := 860) (Qc := fun A => vs_QI g A (fun (u : Nat × Int × vs_TT) => vs_tT g b u.1 u.2.1 u.2.2 ++ (vs_W2 h (aS 0) (aT 0) (aK 0) b V ++ (vs_W1 g aS S ++ (vs_W1 g aT T ++ (vs_W0 g aK K ++ wr))))) (fun v (u : Nat × Int × vs_TT) => (vs_tk u.2.2 ∧ u.2.2.1 ≤ 193) ∧ post v u.2.2)) (XC := fun A => vs_QX g A (vs_tT g b q ml B ++ (vs_W2 h (aS 0) (aT 0) (aK 0) b V ++ (vs_W1 g aS S ++ (vs_W1 g aT T ++ (vs_W0 g aK K ++ wr))))) px) (by decide +kernel) (Nat.le_of_ble_eq_true rfl) (fun p e s m below meth c A ls hC hr hlk ht hW hX hl => ?_)
  have hC : CallFix p m c cX2_writeDisk 4 s _ vs_ws RX2 := hC
  have hl : lv_has ls 4 [(0, .ref h), (1, .int (vs_I d))] := hl
  have hJ := hX.2.2.2.2.2.2
  unfold wX2_writeDisk at hw
  refine vs_aload_n hC hl 0 dX2_writeDisk_0 rfl rfl ?_
  refine vs_iload_n hC hl 1 dX2_writeDisk_1 rfl rfl ?_
  have hW := vs_Wd.perm2 hW vs_pF
  refine vs_xcallVV [.int (vs_I d)] hC hW hX 0 rfl rfl vk_X2_checkDisk vm_X2_56 (c_X2_checkDisk l hst g sd h b aS aT aK (vs_tT g b q ml B ++ wr) V S T K d _ _ hw) rfl hl.1 rfl ⟨rfl, rfl⟩ ⟨Nat.le_of_ble_eq_true rfl, Nat.le_of_ble_eq_true rfl⟩ ⟨Nat.le_of_ble_eq_true rfl, Nat.le_of_ble_eq_true rfl⟩ (Nat.le_of_ble_eq_true rfl) dX2_writeDisk_2 (fun k ce q9 H locs hp hW hq hv hcl => vs_pass hlk ht (vs_Wd.perm2 hW (List.Perm.symm vs_pF)) hp hq hv hcl (Nat.le_of_ble_eq_true rfl) (Nat.le_of_ble_eq_true rfl)) (fun _ H locs hw hW => ?_)
  have hW := vs_Wd.perm2 hW (List.Perm.symm vs_pF)
  obtain ⟨hd, hz, hsz, hok, hpost⟩ := hw
  refine vs_aload_n hC hl 0 dX2_writeDisk_5 rfl rfl ?_
  refine vs_get hC hW 2 rfl rfl vs_inX2 3 (by decide) vf_X2_29 rfl dX2_writeDisk_6 ?_
  refine vs_iconst hC dX2_writeDisk_9 ?_
  refine vs_jcallVV [.int (vs_I 0)] hC hW hJ 0 rfl rfl vk_J4_setLength_d00df vm_X2_261 (c_J4_setLength_d00df l g (vs_jd sd) b q B.2.1 ml B.1 B.2.2 (vs_W2 h (aS 0) (aT 0) (aK 0) b V ++ (vs_W1 g aS S ++ (vs_W1 g aT T ++ (vs_W0 g aK K ++ wr)))) (by have := kB.2.1; omega) kB.2.2 kB.1) rfl hl.1 rfl ⟨rfl, rfl⟩ ⟨Nat.le_of_ble_eq_true rfl, Nat.le_of_ble_eq_true rfl⟩ ⟨show _ ≤ 420 by first | omega | (dsimp only; omega), show _ ≤ 860 by first | omega | (dsimp only; omega)⟩ (Nat.le_of_ble_eq_true rfl) dX2_writeDisk_10 (fun z H locs hw hW => ?_)
  have hW : vs_Wd g A s.heap (vs_tT g b q z (0, B.2) ++ (vs_W2 h (aS 0) (aT 0) (aK 0) b V ++ (vs_W1 g aS S ++ (vs_W1 g aT T ++ (vs_W0 g aK K ++ wr))))) _ _ s := hW
  have k0 : vs_tk (0, B.2) := ⟨⟨by show (0 : Int) ≤ 0; decide, by show (0 : Int) ≤ (B.2.1 : Int); omega⟩, kB.2⟩
  refine vs_aload_n hC hl 0 dX2_writeDisk_13 rfl rfl ?_
  refine vs_get hC hW 2 rfl rfl vs_inX2 3 (by decide) vf_X2_29 rfl dX2_writeDisk_14 ?_
  refine vs_aload_n hC hl 0 dX2_writeDisk_17 rfl rfl ?_
  refine vs_get hC hW 2 rfl rfl vs_inX2 0 (by decide) vf_X2_12 rfl dX2_writeDisk_18 ?_
  refine vs_getN hC hW 3 rfl rfl vs_inX1 3 (by decide) vn_X2_60 rfl dX2_writeDisk_21 ?_
  refine vs_iload_n hC hl 1 dX2_writeDisk_24 rfl rfl ?_
  refine vs_cald hC hW 6 rfl (by decide) (by omega) dX2_writeDisk_25 ?_
  obtain ⟨T0, e0⟩ : ∃ y, y = vs_aC (S 3 d) (0, B.2) := ⟨_, rfl⟩
  have kT0 : vs_tk T0 := by rw [e0]; exact vs_aC_k k0 (by show (0 : Int) ≤ 200; decide) hz
  have nT0 : T0.1 = 1 := by rw [e0]; rfl
  have rT0 : vs_rc (0, B.2) 1 + B.2.1 ≤ T0.2.1 ∧ vs_rs (0, B.2) 1 + 2 * B.2.1 ≤ 2 * T0.2.1 ∧ B.2.1 ≤ T0.2.1 := by rw [e0]; exact vs_rcs (T := (0, B.2)) 1
  have hcT0 := kT0.2.1
  refine vs_jcallVR [.int (vs_I (S 3 d))] hC hW hJ 0 rfl rfl vk_J4_append_cf468 vm_X2_264 (c_appC l g (vs_jd sd) b q z (0, B.2) (vs_W2 h (aS 0) (aT 0) (aK 0) b V ++ (vs_W1 g aS S ++ (vs_W1 g aT T ++ (vs_W0 g aK K ++ wr)))) (S 3 d) k0 hz) rfl hl.1 rfl ⟨rfl, rfl⟩ ⟨Nat.le_of_ble_eq_true rfl, Nat.le_of_ble_eq_true rfl⟩ ⟨show _ ≤ 420 by first | omega | (dsimp only; omega), show _ ≤ 860 by first | omega | (dsimp only; omega)⟩ (Nat.le_of_ble_eq_true rfl) dX2_writeDisk_26 (fun q1 H locs hw hW => ?_)
  rw [← e0] at hW
  refine vs_pop hC dX2_writeDisk_29 rfl ?_
  refine vs_iload_n hC hl 1 dX2_writeDisk_30 rfl rfl ?_
  refine vs_bipush hC dX2_writeDisk_31 (by decide +kernel) ?_
  refine vs_imul hC dX2_writeDisk_33 ?_
  refine vs_istore_n (L' := [(0, .ref h), (1, .int (vs_I d)), (2, .int (vs_I (d * 32)))]) hC hl [1, 2, 0] dX2_writeDisk_34 rfl (by decide) rfl (fun ls hl => ?_)
  refine vs_iload_n hC hl 2 dX2_writeDisk_35 rfl rfl ?_
  refine vs_istore_n (L' := [(0, .ref h), (1, .int (vs_I d)), (2, .int (vs_I (d * 32))), (3, .int (vs_I (d * 32)))]) hC hl [1, 2, 3, 0] dX2_writeDisk_36 rfl (by decide) rfl (fun ls hl => ?_)
  obtain ⟨N, hN⟩ : ∃ N : Nat, S 1 d = (N : Int) := ⟨(S 1 d).toNat, by omega⟩
  have hfw : ∀ j : Nat, j ≤ 32 → vs_tk (vs_fw (S 4) (S 5) (d * 32) j T0) ∧ (vs_fw (S 4) (S 5) (d * 32) j T0).1 ≤ 1 + 6 * j ∧ T0.2.1 ≤ (vs_fw (S 4) (S 5) (d * 32) j T0).2.1 := fun j hj => vs_fw_k kT0 nT0 j hj (fun i hi => hok i (by omega))
  refine vs_loopC (V := Nat × Nat) (J := fun v c1 s1 => v.1 ≤ N ∧ c1 + B.2.1 ≤ 1 + (vs_fw (S 4) (S 5) (d * 32) v.1 T0).2.1 ∧ s1 + 2 * B.2.1 ≤ 6 + 2 * (vs_fw (S 4) (S 5) (d * 32) v.1 T0).2.1) (μ := fun v => N - v.1) (fun v => vs_tT g b v.2 z (vs_fw (S 4) (S 5) (d * 32) v.1 T0) ++ (vs_W2 h (aS 0) (aT 0) (aK 0) b V ++ (vs_W1 g aS S ++ (vs_W1 g aT T ++ (vs_W0 g aK K ++ wr))))) (fun v => [(0, .ref h), (1, .int (vs_I d)), (2, .int (vs_I (d * 32))), (3, .int (vs_I (d * 32 + (v.1 : Int))))]) (fun v c1 s1 hJv ih H locs ls hW hl => ?_) (0, q1) ⟨Nat.zero_le _, ?_, ?_⟩ hW (lv_sub hl [0, 1, 2, 3] (by rw [show d * 32 + (((0 : Nat), q1).1 : Int) = d * 32 from by show d * 32 + ((0 : Nat) : Int) = _; omega]; rfl))
  · obtain ⟨j, q2⟩ := v
    obtain ⟨hj, hc1, hs1⟩ := hJv
    have hj : j ≤ N := hj
    have hc1 : c1 + B.2.1 ≤ 1 + (vs_fw (S 4) (S 5) (d * 32) j T0).2.1 := hc1
    have hs1 : s1 + 2 * B.2.1 ≤ 6 + 2 * (vs_fw (S 4) (S 5) (d * 32) j T0).2.1 := hs1
    have hW : vs_Wd g A s.heap (vs_tT g b q2 z (vs_fw (S 4) (S 5) (d * 32) j T0) ++ (vs_W2 h (aS 0) (aT 0) (aK 0) b V ++ (vs_W1 g aS S ++ (vs_W1 g aT T ++ (vs_W0 g aK K ++ wr))))) H locs s := hW
    have hl : lv_has ls 4 [(0, .ref h), (1, .int (vs_I d)), (2, .int (vs_I (d * 32))), (3, .int (vs_I (d * 32 + (j : Int))))] := hl
    obtain ⟨kj, nj, rj⟩ := hfw j (by omega)
    have hcj := kj.2.1
    refine vs_iload_n hC hl 3 dX2_writeDisk_37 rfl rfl ?_
    refine vs_iload_n hC hl 2 dX2_writeDisk_38 rfl rfl ?_
    refine vs_aload_n hC hl 0 dX2_writeDisk_39 rfl rfl ?_
    refine vs_get hC hW 2 rfl rfl vs_inX2 0 (by decide) vf_X2_12 rfl dX2_writeDisk_40 ?_
    refine vs_getN hC hW 3 rfl rfl vs_inX1 1 (by decide) vn_X2_214 rfl dX2_writeDisk_43 ?_
    refine vs_iload_n hC hl 1 dX2_writeDisk_46 rfl rfl ?_
    refine vs_iald hC hW 4 rfl (by decide) (by omega) dX2_writeDisk_47 ?_
    refine vs_iadd hC dX2_writeDisk_48 ?_
    refine vs_icmp_ge hC 93 ⟨by omega, by omega⟩ ⟨by omega, by omega⟩ dX2_writeDisk_49 (by decide) (fun hc => ?_) (fun hc => ?_)
    · refine vs_aload_n hC hl 0 dX2_writeDisk_93 rfl rfl ?_
      refine vs_get hC hW 2 rfl rfl vs_inX2 3 (by decide) vf_X2_29 rfl dX2_writeDisk_94 ?_
      refine vs_jcallVI [] hC hW hJ 0 rfl rfl vk_J4_length_8abf5 vm_X2_272 (c_J4_length_8abf5 l g (vs_jd sd) b q2 (vs_fw (S 4) (S 5) (d * 32) j T0).2.1 z (vs_fw (S 4) (S 5) (d * 32) j T0).1 (vs_fw (S 4) (S 5) (d * 32) j T0).2.2 (vs_W2 h (aS 0) (aT 0) (aK 0) b V ++ (vs_W1 g aS S ++ (vs_W1 g aT T ++ (vs_W0 g aK K ++ wr))))) rfl hl.1 rfl ⟨rfl, rfl⟩ ⟨Nat.le_of_ble_eq_true rfl, Nat.le_of_ble_eq_true rfl⟩ ⟨show _ ≤ 420 by first | omega | (dsimp only; omega), show _ ≤ 860 by first | omega | (dsimp only; omega)⟩ (Nat.le_of_ble_eq_true rfl) dX2_writeDisk_97 (fun v1 _ H locs hw hW => ?_)
      subst hw
      have ej : j = N := by omega
      subst ej
      have ew : vs_wl (S 3 d) (S 1 d) (S 4) (S 5) (d * 32) B = (vs_fw (S 4) (S 5) (d * 32) j T0) := by unfold vs_wl; rw [hN, Int.toNat_natCast, e0]
      rw [ew] at hpost
      exact vx_ret (vs_iret (q2, z, (vs_fw (S 4) (S 5) (d * 32) j T0)) hC hr hlk hW rfl ⟨⟨kj, (by omega : (vs_fw (S 4) (S 5) (d * 32) j T0).1 ≤ 193)⟩, hpost⟩ (show _ ≤ 420 by first | omega | (dsimp only; omega)) (show _ ≤ 860 by first | omega | (dsimp only; omega)) dX2_writeDisk_100)
    · have hok1 := hok j (by omega)
      refine vs_aload_n hC hl 0 dX2_writeDisk_52 rfl rfl ?_
      refine vs_get hC hW 2 rfl rfl vs_inX2 0 (by decide) vf_X2_12 rfl dX2_writeDisk_53 ?_
      refine vs_getN hC hW 3 rfl rfl vs_inX1 4 (by decide) vn_X2_222 rfl dX2_writeDisk_56 ?_
      refine vs_iload_n hC hl 3 dX2_writeDisk_59 rfl rfl ?_
      refine vs_iald hC hW 7 rfl (by decide) (by omega) dX2_writeDisk_60 ?_
      refine vs_iconst hC dX2_writeDisk_61 ?_
      refine vs_icmp_eq hC 87 ?_ ⟨by omega, by omega⟩ dX2_writeDisk_62 (by decide) (fun hc => ?_) (fun hc => ?_)
      · have := hok1.1; exact ⟨by omega, by omega⟩
      · refine vs_iinc (L' := [(0, .ref h), (1, .int (vs_I d)), (2, .int (vs_I (d * 32))), (3, .int (vs_I (d * 32 + (j : Int) + 1)))]) hC hl 3 [1, 2, 3, 0] dX2_writeDisk_87 rfl (by decide) rfl (fun ls hl => ?_)
        refine vs_goto hC 37 dX2_writeDisk_90 (by decide) ?_
        have ef : (vs_fw (S 4) (S 5) (d * 32) (j + 1) T0) = (vs_fw (S 4) (S 5) (d * 32) j T0) := if_pos hc
        refine ih (j + 1, q2) _ _ ⟨⟨by show j + 1 ≤ N; omega, ?_, ?_⟩, by show N - (j + 1) < N - j; omega⟩ _ _ _ ?_ (by rw [show d * 32 + (((j + 1, q2) : Nat × Nat).1 : Int) = d * 32 + (j : Int) + 1 from by show d * 32 + ((j + 1 : Nat) : Int) = _; omega]; exact hl)
        · show _ + B.2.1 ≤ 1 + (vs_fw (S 4) (S 5) (d * 32) (j + 1) T0).2.1; rw [ef]; first | omega | (dsimp only; omega)
        · show _ + 2 * B.2.1 ≤ 6 + 2 * (vs_fw (S 4) (S 5) (d * 32) (j + 1) T0).2.1; rw [ef]; first | omega | (dsimp only; omega)
        · show vs_Wd g A s.heap (vs_tT g b q2 z (vs_fw (S 4) (S 5) (d * 32) (j + 1) T0) ++ (vs_W2 h (aS 0) (aT 0) (aK 0) b V ++ (vs_W1 g aS S ++ (vs_W1 g aT T ++ (vs_W0 g aK K ++ wr))))) _ _ s; rw [ef]; exact hW
      · obtain ⟨kc, nc, rc⟩ := vs_cp_k kj (by omega) (v := S 4 (d * 32 + (j : Int))) (r := S 5 (d * 32 + (j : Int))) (by have := hok1.1; omega) hok1.2
        have hcc := kc.2.1
        refine vs_aload_n hC hl 0 dX2_writeDisk_65 rfl rfl ?_
        refine vs_aload_n hC hl 0 dX2_writeDisk_66 rfl rfl ?_
        refine vs_get hC hW 2 rfl rfl vs_inX2 0 (by decide) vf_X2_12 rfl dX2_writeDisk_67 ?_
        refine vs_getN hC hW 3 rfl rfl vs_inX1 4 (by decide) vn_X2_222 rfl dX2_writeDisk_70 ?_
        refine vs_iload_n hC hl 3 dX2_writeDisk_73 rfl rfl ?_
        refine vs_iald hC hW 7 rfl (by decide) (by omega) dX2_writeDisk_74 ?_
        refine vs_aload_n hC hl 0 dX2_writeDisk_75 rfl rfl ?_
        refine vs_get hC hW 2 rfl rfl vs_inX2 0 (by decide) vf_X2_12 rfl dX2_writeDisk_76 ?_
        refine vs_getN hC hW 3 rfl rfl vs_inX1 5 (by decide) vn_X2_227 rfl dX2_writeDisk_79 ?_
        refine vs_iload_n hC hl 3 dX2_writeDisk_82 rfl rfl ?_
        refine vs_zald hC hW 8 rfl (by decide) (by omega) dX2_writeDisk_83 ?_
        refine vs_jcallVV [.int (vs_I (S 4 (d * 32 + (j : Int)))), .int (vs_I (S 5 (d * 32 + (j : Int))))] hC hW hJ 2 rfl rfl vk_X2_appendCopy vm_X2_268 (c_X2_appendCopy l g (vs_jd sd) b q2 h aS aT aK z (vs_fw (S 4) (S 5) (d * 32) j T0) V (vs_W1 g aS S ++ (vs_W1 g aT T ++ (vs_W0 g aK K ++ wr))) (S 4 (d * 32 + (j : Int))) (S 5 (d * 32 + (j : Int))) ((vs_cp (S 4 (d * 32 + (j : Int))) (S 5 (d * 32 + (j : Int))) (vs_fw (S 4) (S 5) (d * 32) j T0)).2.1 - (vs_fw (S 4) (S 5) (d * 32) j T0).2.1) (2 * (vs_cp (S 4 (d * 32 + (j : Int))) (S 5 (d * 32 + (j : Int))) (vs_fw (S 4) (S 5) (d * 32) j T0)).2.1 - 2 * (vs_fw (S 4) (S 5) (d * 32) j T0).2.1) kj (by omega) (by have := hok1.1; omega) hok1.2 ⟨by omega, by omega⟩) rfl hl.1 rfl ⟨rfl, rfl⟩ ⟨Nat.le_of_ble_eq_true rfl, Nat.le_of_ble_eq_true rfl⟩ ⟨show _ ≤ 420 by first | omega | (dsimp only; omega), show _ ≤ 860 by first | omega | (dsimp only; omega)⟩ (Nat.le_of_ble_eq_true rfl) dX2_writeDisk_84 (fun q3 H locs hw hW => ?_)
        refine vs_iinc (L' := [(0, .ref h), (1, .int (vs_I d)), (2, .int (vs_I (d * 32))), (3, .int (vs_I (d * 32 + (j : Int) + 1)))]) hC hl 3 [1, 2, 3, 0] dX2_writeDisk_87 rfl (by decide) rfl (fun ls hl => ?_)
        refine vs_goto hC 37 dX2_writeDisk_90 (by decide) ?_
        have ef : (vs_fw (S 4) (S 5) (d * 32) (j + 1) T0) = vs_cp (S 4 (d * 32 + (j : Int))) (S 5 (d * 32 + (j : Int))) (vs_fw (S 4) (S 5) (d * 32) j T0) := if_neg hc
        refine ih (j + 1, q3) _ _ ⟨⟨by show j + 1 ≤ N; omega, ?_, ?_⟩, by show N - (j + 1) < N - j; omega⟩ _ _ _ ?_ (by rw [show d * 32 + (((j + 1, q3) : Nat × Nat).1 : Int) = d * 32 + (j : Int) + 1 from by show d * 32 + ((j + 1 : Nat) : Int) = _; omega]; exact hl)
        · show _ + B.2.1 ≤ 1 + (vs_fw (S 4) (S 5) (d * 32) (j + 1) T0).2.1; rw [ef]; first | omega | (dsimp only; omega)
        · show _ + 2 * B.2.1 ≤ 6 + 2 * (vs_fw (S 4) (S 5) (d * 32) (j + 1) T0).2.1; rw [ef]; first | omega | (dsimp only; omega)
        · show vs_Wd g A s.heap (vs_tT g b q3 z (vs_fw (S 4) (S 5) (d * 32) (j + 1) T0) ++ (vs_W2 h (aS 0) (aT 0) (aK 0) b V ++ (vs_W1 g aS S ++ (vs_W1 g aT T ++ (vs_W0 g aK K ++ wr))))) _ _ s; rw [ef]; exact hW
  · show _ + B.2.1 ≤ 1 + T0.2.1; first | omega | (dsimp only; omega)
  · show _ + 2 * B.2.1 ≤ 6 + 2 * T0.2.1; first | omega | (dsimp only; omega)
def wX2_lineAt (B : vs_TT) (x : Int) (post : Int → Prop) (px : Nat → Prop) : Prop := vs_R x ∧ (0 ≤ x ∧ x < B.1 → (0 ≤ B.2.2 x ∧ B.2.2 x < 256) ∧ post (B.2.2 x)) ∧ (x < 0 ∨ B.1 ≤ x → px 3)
set_option maxHeartbeats 4000000 in
set_option maxRecDepth 100000 in
theorem c_X2_lineAt (l : Launch) (hst : l.stackTraces = false) (g : vs_G) (sd : Nat → Nat) (h b q : Nat) (aS aT aK : Nat → Nat) (ml : Int) (B : vs_TT) (wr : va_W) (V S T K : vs_St) (x : Int) (post : Int → Prop) (px : Nat → Prop) (kB : vs_tk B) (hw : wX2_lineAt B x post px) : vs_XI l yX2_lineAt (Cond.code yX2_lineAt cX2_lineAt 2 (some .char) :: vs_ws) { frames := 6, cells := 1, slots := 6, locals := 128 } g sd [.ref h, .int (vs_I x)] (vs_tT g b q ml B ++ (vs_W2 h (aS 0) (aT 0) (aK 0) b V ++ (vs_W1 g aS S ++ (vs_W1 g aT T ++ (vs_W0 g aK K ++ wr))))) (fun (_ : Unit) => vs_tT g b q ml B ++ (vs_W2 h (aS 0) (aT 0) (aK 0) b V ++ (vs_W1 g aS S ++ (vs_W1 g aT T ++ (vs_W0 g aK K ++ wr))))) (fun v (_ : Unit) => post v) px 1 6 := by
  refine vs_ofX (y := yX2_lineAt) (cc := cX2_lineAt) (maxL := 2) (ret := (some .char)) (as := [.ref h, .int (vs_I x)]) (Wo := vs_tT g b q ml B ++ (vs_W2 h (aS 0) (aT 0) (aK 0) b V ++ (vs_W1 g aS S ++ (vs_W1 g aT T ++ (vs_W0 g aK K ++ wr))))) (mc := 1) (ms := 6) (Qc := fun A => vs_QI g A (fun (_ : Unit) => vs_tT g b q ml B ++ (vs_W2 h (aS 0) (aT 0) (aK 0) b V ++ (vs_W1 g aS S ++ (vs_W1 g aT T ++ (vs_W0 g aK K ++ wr))))) (fun v (_ : Unit) => post v)) (XC := fun A => vs_QX g A (vs_tT g b q ml B ++ (vs_W2 h (aS 0) (aT 0) (aK 0) b V ++ (vs_W1 g aS S ++ (vs_W1 g aT T ++ (vs_W0 g aK K ++ wr))))) px) (by decide +kernel) (Nat.le_of_ble_eq_true rfl) (fun p e s m below meth c A ls hC hr hlk ht hW hX hl => ?_)
  have hC : CallFix p m c cX2_lineAt 2 s _ vs_ws RX2 := hC
  have hl : lv_has ls 2 [(0, .ref h), (1, .int (vs_I x))] := hl
  have hJ := hX.2.2.2.2.2.2
  obtain ⟨hx, hw2, hw3⟩ := hw
  obtain ⟨⟨hn0, hn1⟩, hcap, hby⟩ := id kB
  refine vs_iload_n hC hl 1 dX2_lineAt_0 rfl rfl ?_
  refine vs_if_lt hC 15 hx dX2_lineAt_1 (by decide) (fun hc => ?_) (fun hc => ?_)
  · exact vs_throwW 3 18 hC hst hlk ht hW hX vs_ex3 rfl hl.1 (hw3 (by omega)) dX2_lineAt_15 dX2_lineAt_18 dX2_lineAt_19 dX2_lineAt_22 dX2_lineAt_25 (Nat.le_of_ble_eq_true rfl) (Nat.le_of_ble_eq_true rfl) (Nat.le_of_ble_eq_true rfl) (Nat.le_of_ble_eq_true rfl) (Nat.le_of_ble_eq_true rfl) (Nat.le_of_ble_eq_true rfl)
  · refine vs_iload_n hC hl 1 dX2_lineAt_4 rfl rfl ?_
    refine vs_aload_n hC hl 0 dX2_lineAt_5 rfl rfl ?_
    refine vs_get hC hW 2 rfl rfl vs_inX2 3 (by decide) vf_X2_29 rfl dX2_lineAt_6 ?_
    refine vs_jcallVI [] hC hW hJ 0 rfl rfl vk_J4_length_8abf5 vm_X2_272 (c_J4_length_8abf5 l g (vs_jd sd) b q B.2.1 ml B.1 B.2.2 (vs_W2 h (aS 0) (aT 0) (aK 0) b V ++ (vs_W1 g aS S ++ (vs_W1 g aT T ++ (vs_W0 g aK K ++ wr))))) rfl hl.1 rfl ⟨rfl, rfl⟩ ⟨Nat.le_of_ble_eq_true rfl, Nat.le_of_ble_eq_true rfl⟩ ⟨Nat.le_of_ble_eq_true rfl, Nat.le_of_ble_eq_true rfl⟩ (Nat.le_of_ble_eq_true rfl) dX2_lineAt_9 (fun v1 _ H locs hw hW => ?_)
    subst hw
    have hW : vs_Wd g A s.heap (vs_tT g b q ml B ++ (vs_W2 h (aS 0) (aT 0) (aK 0) b V ++ (vs_W1 g aS S ++ (vs_W1 g aT T ++ (vs_W0 g aK K ++ wr))))) _ _ s := hW
    refine vs_icmp_lt hC 26 hx ⟨by omega, by omega⟩ dX2_lineAt_12 (by decide) (fun hc => ?_) (fun hc => ?_)
    · refine vs_aload_n hC hl 0 dX2_lineAt_26 rfl rfl ?_
      refine vs_get hC hW 2 rfl rfl vs_inX2 3 (by decide) vf_X2_29 rfl dX2_lineAt_27 ?_
      refine vs_iload_n hC hl 1 dX2_lineAt_30 rfl rfl ?_
      refine vs_jcallVI [.int (vs_I x)] hC hW hJ 0 rfl rfl vk_J4_charAt_5068e vm_X2_277 (c_J4_charAt_5068e l g (vs_jd sd) b q B.2.1 ml B.1 B.2.2 (vs_W2 h (aS 0) (aT 0) (aK 0) b V ++ (vs_W1 g aS S ++ (vs_W1 g aT T ++ (vs_W0 g aK K ++ wr)))) x (by omega) hn1 ⟨by omega, by omega⟩ (hw2 ⟨by omega, by omega⟩).1) rfl hl.1 rfl ⟨rfl, rfl⟩ ⟨Nat.le_of_ble_eq_true rfl, Nat.le_of_ble_eq_true rfl⟩ ⟨Nat.le_of_ble_eq_true rfl, Nat.le_of_ble_eq_true rfl⟩ (Nat.le_of_ble_eq_true rfl) dX2_lineAt_31 (fun v1 _ H locs hw hW => ?_)
      subst hw
      have hfx := hw2 ⟨by omega, by omega⟩
      exact vx_ret (vs_cret () hC hr hlk hW rfl ⟨⟨hfx.1.1, by omega⟩, hfx.2⟩ (Nat.le_of_ble_eq_true rfl) (Nat.le_of_ble_eq_true rfl) dX2_lineAt_34)
    · exact vs_throwW 3 18 hC hst hlk ht hW hX vs_ex3 rfl hl.1 (hw3 (by omega)) dX2_lineAt_15 dX2_lineAt_18 dX2_lineAt_19 dX2_lineAt_22 dX2_lineAt_25 (Nat.le_of_ble_eq_true rfl) (Nat.le_of_ble_eq_true rfl) (Nat.le_of_ble_eq_true rfl) (Nat.le_of_ble_eq_true rfl) (Nat.le_of_ble_eq_true rfl) (Nat.le_of_ble_eq_true rfl)
