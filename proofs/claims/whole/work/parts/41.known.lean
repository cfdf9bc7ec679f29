/-! what holds at the start: the classes, the arrays, the nest mates -/
set_option maxRecDepth 20000 in
theorem vs_knJ0 {s : State} {b : Nat} (hts : ∀ w ∈ lw_tbl, w.before #[Value.ref b] s = true) : ∃ (cC : ClassId) (iS : Nat → Nat), u_Kn s RJ0 TJ0 4 cC iS := by
  have hin : ∀ w ∈ u_ws RJ0 TJ0 4, w ∈ lw_tbl := by
    have h : u_ws RJ0 TJ0 4 = ([539, 541, 1164, 1166] : List Nat).filterMap (fun i => lw_tbl[i]?) := by decide +kernel
    intro w hw
    rw [h] at hw
    obtain ⟨i, -, hi⟩ := List.mem_filterMap.mp hw
    exact List.mem_of_getElem? hi
  exact u_known (n := 4) hts hin (hts (.instantiable RJ0 4) (List.mem_of_getElem? (i := 538) (by decide +kernel)))
set_option maxRecDepth 20000 in
theorem vs_knJ4 {s : State} {b : Nat} (hts : ∀ w ∈ lw_tbl, w.before #[Value.ref b] s = true) : ∃ (cC : ClassId) (iS : Nat → Nat), u_Kn s RJ4 TJ4 4 cC iS := by
  have hin : ∀ w ∈ u_ws RJ4 TJ4 4, w ∈ lw_tbl := by
    have h : u_ws RJ4 TJ4 4 = ([260, 262, 264, 266] : List Nat).filterMap (fun i => lw_tbl[i]?) := by decide +kernel
    intro w hw
    rw [h] at hw
    obtain ⟨i, -, hi⟩ := List.mem_filterMap.mp hw
    exact List.mem_of_getElem? hi
  exact u_known (n := 4) hts hin (hts (.instantiable RJ4 4) (List.mem_of_getElem? (i := 238) (by decide +kernel)))
set_option maxRecDepth 20000 in
theorem vs_knJx00060 {s : State} {b : Nat} (hts : ∀ w ∈ lw_tbl, w.before #[Value.ref b] s = true) : ∃ (cC : ClassId) (iS : Nat → Nat), u_Kn s RJx00060 TJx00060 6 cC iS := by
  have hin : ∀ w ∈ u_ws RJx00060 TJx00060 6, w ∈ lw_tbl := by
    have h : u_ws RJx00060 TJx00060 6 = ([527, 528, 529, 530, 531, 532] : List Nat).filterMap (fun i => lw_tbl[i]?) := by decide +kernel
    intro w hw
    rw [h] at hw
    obtain ⟨i, -, hi⟩ := List.mem_filterMap.mp hw
    exact List.mem_of_getElem? hi
  exact u_known (n := 6) hts hin (hts (.instantiable RJx00060 6) (List.mem_of_getElem? (i := 520) (by decide +kernel)))
set_option maxRecDepth 20000 in
theorem vs_knJx7c733 {s : State} {b : Nat} (hts : ∀ w ∈ lw_tbl, w.before #[Value.ref b] s = true) : ∃ (cC : ClassId) (iS : Nat → Nat), u_Kn s RJx7c733 TJx7c733 6 cC iS := by
  have hin : ∀ w ∈ u_ws RJx7c733 TJx7c733 6, w ∈ lw_tbl := by
    have h : u_ws RJx7c733 TJx7c733 6 = ([1170, 1171, 1172, 1173, 1174, 1175] : List Nat).filterMap (fun i => lw_tbl[i]?) := by decide +kernel
    intro w hw
    rw [h] at hw
    obtain ⟨i, -, hi⟩ := List.mem_filterMap.mp hw
    exact List.mem_of_getElem? hi
  exact u_known (n := 6) hts hin (hts (.instantiable RJx7c733 6) (List.mem_of_getElem? (i := 960) (by decide +kernel)))
set_option maxRecDepth 20000 in
theorem vs_knX0 {s : State} {b : Nat} (hts : ∀ w ∈ lw_tbl, w.before #[Value.ref b] s = true) : ∃ (cC : ClassId) (iS : Nat → Nat), u_Kn s RX0 TX0 14 cC iS := by
  have hin : ∀ w ∈ u_ws RX0 TX0 14, w ∈ lw_tbl := by
    have h : u_ws RX0 TX0 14 = ([208, 210, 212, 214, 216, 218, 220, 222, 224, 226, 228, 230, 232, 234] : List Nat).filterMap (fun i => lw_tbl[i]?) := by decide +kernel
    intro w hw
    rw [h] at hw
    obtain ⟨i, -, hi⟩ := List.mem_filterMap.mp hw
    exact List.mem_of_getElem? hi
  exact u_known (n := 14) hts hin (hts (.instantiable RX0 14) (List.mem_of_getElem? (i := 179) (by decide +kernel)))
set_option maxRecDepth 20000 in
theorem vs_knX1 {s : State} {b : Nat} (hts : ∀ w ∈ lw_tbl, w.before #[Value.ref b] s = true) : ∃ (cC : ClassId) (iS : Nat → Nat), u_Kn s RX1 TX1 13 cC iS := by
  have hin : ∀ w ∈ u_ws RX1 TX1 13, w ∈ lw_tbl := by
    have h : u_ws RX1 TX1 13 = ([148, 150, 152, 154, 156, 158, 160, 162, 164, 166, 168, 170, 172] : List Nat).filterMap (fun i => lw_tbl[i]?) := by decide +kernel
    intro w hw
    rw [h] at hw
    obtain ⟨i, -, hi⟩ := List.mem_filterMap.mp hw
    exact List.mem_of_getElem? hi
  exact u_known (n := 13) hts hin (hts (.instantiable RX1 13) (List.mem_of_getElem? (i := 117) (by decide +kernel)))
set_option maxRecDepth 20000 in
theorem vs_knX2 {s : State} {b : Nat} (hts : ∀ w ∈ lw_tbl, w.before #[Value.ref b] s = true) : ∃ (cC : ClassId) (iS : Nat → Nat), u_Kn s RX2 TX2 7 cC iS := by
  have hin : ∀ w ∈ u_ws RX2 TX2 7, w ∈ lw_tbl := by
    have h : u_ws RX2 TX2 7 = ([277, 279, 281, 283, 285, 287, 289] : List Nat).filterMap (fun i => lw_tbl[i]?) := by decide +kernel
    intro w hw
    rw [h] at hw
    obtain ⟨i, -, hi⟩ := List.mem_filterMap.mp hw
    exact List.mem_of_getElem? hi
  exact u_known (n := 7) hts hin (hts (.instantiable RX2 7) (List.mem_of_getElem? (i := 109) (by decide +kernel)))
set_option maxRecDepth 20000 in
theorem vs_knX3 {s : State} {b : Nat} (hts : ∀ w ∈ lw_tbl, w.before #[Value.ref b] s = true) : ∃ (cC : ClassId) (iS : Nat → Nat), u_Kn s RX3 TX3 33 cC iS := by
  have hin : ∀ w ∈ u_ws RX3 TX3 33, w ∈ lw_tbl := by
    have h : u_ws RX3 TX3 33 = ([1291, 1293, 1295, 1297, 1299, 1301, 1303, 1305, 1307, 1309, 1311, 1313, 1315, 1317, 1319, 1321, 1323, 1325, 1327, 1329, 1331, 1333, 1335, 1337, 1339, 1341, 1343, 1345, 1347, 1349, 1351, 1353, 1355] : List Nat).filterMap (fun i => lw_tbl[i]?) := by decide +kernel
    intro w hw
    rw [h] at hw
    obtain ⟨i, -, hi⟩ := List.mem_filterMap.mp hw
    exact List.mem_of_getElem? hi
  exact u_known (n := 33) hts hin (hts (.instantiable RX3 33) (List.mem_of_getElem? (i := 1250) (by decide +kernel)))
theorem vs_Kstart {s : State} {b : Nat} (hts : ∀ w ∈ lw_tbl, w.before #[Value.ref b] s = true) : ∃ g : vs_G, vs_K g s := by
  obtain ⟨c0, i0, h0⟩ := vs_knJ0 hts
  obtain ⟨c1, i1, h1⟩ := vs_knJ4 hts
  obtain ⟨c2, i2, h2⟩ := vs_knJx00060 hts
  obtain ⟨c3, i3, h3⟩ := vs_knJx7c733 hts
  obtain ⟨c4, i4, h4⟩ := vs_knX0 hts
  obtain ⟨c5, i5, h5⟩ := vs_knX1 hts
  obtain ⟨c6, i6, h6⟩ := vs_knX2 hts
  obtain ⟨c7, i7, h7⟩ := vs_knX3 hts
  obtain ⟨aI, xI, yI⟩ := vs_arrK (hts _ (vs_ws_in vs_arI))
  obtain ⟨aZ, xZ, yZ⟩ := vs_arrK (hts _ (vs_ws_in vs_arZ))
  obtain ⟨aC, xC, yC⟩ := vs_arrK (hts _ (vs_ws_in vs_arC))
  obtain ⟨aL, xL, yL⟩ := vs_arrK (hts _ (vs_ws_in vs_arL))
  obtain ⟨aD, xD, yD⟩ := vs_arrK (hts _ (vs_ws_in vs_arD))
  obtain ⟨aB, xB, yB⟩ := vs_arrK (hts _ (vs_ws_in vs_arB))
  obtain ⟨aA, xA, yA⟩ := vs_arrKK (s := s) (by
    have h : (Cond.arrayOver (.array .int)).before #[Value.ref b] s = true := hts _ (List.mem_of_getElem? (i := 1256) (by decide +kernel))
    exact h)
  refine ⟨((fun k => [c0, c1, c2, c3, c4, c5, c6, c7].getD k 0, fun k => [i0, i1, i2, i3, i4, i5, i6, i7].getD k (fun _ => 0)), fun k => [aI, aZ, aC, aA, aL, aD, aB].getD k 0), ⟨fun c q hq => ?_, fun k q hq => ?_⟩, fun q hq => va_tabs rfl rfl (hts _ (vs_nF_in q hq)), fun q hq => va_tabs rfl rfl (hts _ (vs_nM_in q hq))⟩
  · match c, hq with
    | 0, hq => cases hq; exact h0
    | 1, hq => cases hq; exact h1
    | 2, hq => cases hq; exact h2
    | 3, hq => cases hq; exact h3
    | 4, hq => cases hq; exact h4
    | 5, hq => cases hq; exact h5
    | 6, hq => cases hq; exact h6
    | 7, hq => cases hq; exact h7
    | k + 8, hq => simp [vwCl] at hq
  · match k, hq with
    | 0, hq => cases hq; exact ⟨xI, yI⟩
    | 1, hq => cases hq; exact ⟨xZ, yZ⟩
    | 2, hq => cases hq; exact ⟨xC, yC⟩
    | 3, hq => cases hq; exact ⟨xA, yA⟩
    | 4, hq => cases hq; exact ⟨xL, yL⟩
    | 5, hq => cases hq; exact ⟨xD, yD⟩
    | 6, hq => cases hq; exact ⟨xB, yB⟩
    | k + 7, hq => simp [vs_T] at hq
