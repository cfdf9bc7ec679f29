/-! the words that serve every method alike -/
def vs_ws : List Cond := lw_tbl.filter goodWord
theorem vs_mem {w : Cond} (i : Nat) (h : lw_tbl[i]? = some w) (hg : goodWord w = true) : w ∈ vs_ws := List.mem_filter.mpr ⟨List.mem_of_getElem? h, hg⟩
theorem vs_ws_in {w : Cond} (h : w ∈ vs_ws) : w ∈ lw_tbl := (List.mem_filter.mp h).1
theorem vs_ws_good {w : Cond} (h : w ∈ vs_ws) : (w.onTables && w.keeps) = true ∨ ∃ ty, w = .arrayClass ty := good_of_word (List.mem_filter.mp h).2
theorem vs_good {ws : List Cond} (h : ∀ w ∈ ws, w ∈ vs_ws) : GoodIn vs_ws ws := fun w hw => ⟨h w hw, vs_ws_good (h w hw)⟩
theorem vs_subw (ws : List Cond) (ps : List Nat) (hp : ws = ps.filterMap (fun i => lw_tbl[i]?)) (h : ws.all goodWord = true) : ∀ w ∈ ws, w ∈ vs_ws := by
  intro w hw
  have h1 := List.all_eq_true.mp h w hw
  rw [hp] at hw
  obtain ⟨i, -, hi⟩ := List.mem_filterMap.mp hw
  exact vs_mem i hi h1
/-- what the tables say of a method that is called by its own name -/
def vs_lk (y : MethodName) (bytes : ByteArray) (maxL : Nat) (ret : Option FieldType) (n : Nat) : Prop :=
  (Cond.instanceMethod y ∈ vs_ws ∧ Cond.selects y.cls y y ∈ vs_ws) ∧ Cond.initialized y.cls ∈ vs_ws ∧ Cond.code y bytes maxL ret ∈ vs_ws ∧ y.cls ≠ "java/lang/invoke/MethodHandle" ∧ y.cls ≠ "java/lang/invoke/VarHandle" ∧ (parseMethodDescriptor y.desc).map (fun d => d.parameters.length) = some n
def vs_lkS (y : MethodName) (bytes : ByteArray) (maxL : Nat) (ret : Option FieldType) (n : Nat) : Prop :=
  Cond.static y ∈ vs_ws ∧ Cond.initialized y.cls ∈ vs_ws ∧ Cond.code y bytes maxL ret ∈ vs_ws ∧ y.cls ≠ "java/lang/invoke/MethodHandle" ∧ y.cls ≠ "java/lang/invoke/VarHandle" ∧ (parseMethodDescriptor y.desc).map (fun d => d.parameters.length) = some n
set_option maxRecDepth 20000 in
theorem vs_inX0 : ∀ w ∈ u_ws RX0 TX0 14, w ∈ vs_ws := vs_subw _ [208, 210, 212, 214, 216, 218, 220, 222, 224, 226, 228, 230, 232, 234] (by decide +kernel) (by decide +kernel)
set_option maxRecDepth 20000 in
theorem vs_inX1 : ∀ w ∈ u_ws RX1 TX1 13, w ∈ vs_ws := vs_subw _ [148, 150, 152, 154, 156, 158, 160, 162, 164, 166, 168, 170, 172] (by decide +kernel) (by decide +kernel)
set_option maxRecDepth 20000 in
theorem vs_inX2 : ∀ w ∈ u_ws RX2 TX2 7, w ∈ vs_ws := vs_subw _ [277, 279, 281, 283, 285, 287, 289] (by decide +kernel) (by decide +kernel)
set_option maxRecDepth 20000 in
theorem vs_inX3 : ∀ w ∈ u_ws RX3 TX3 33, w ∈ vs_ws := vs_subw _ [1291, 1293, 1295, 1297, 1299, 1301, 1303, 1305, 1307, 1309, 1311, 1313, 1315, 1317, 1319, 1321, 1323, 1325, 1327, 1329, 1331, 1333, 1335, 1337, 1339, 1341, 1343, 1345, 1347, 1349, 1351, 1353, 1355] (by decide +kernel) (by decide +kernel)
set_option maxRecDepth 20000 in
theorem vs_inJ4 : ∀ w ∈ u_ws RJ4 TJ4 4, w ∈ vs_ws := vs_subw _ [260, 262, 264, 266] (by decide +kernel) (by decide +kernel)
set_option maxRecDepth 20000 in
theorem vs_inJ0 : ∀ w ∈ u_ws RJ0 TJ0 4, w ∈ vs_ws := vs_subw _ [539, 541, 1164, 1166] (by decide +kernel) (by decide +kernel)
theorem vf_X2_12 : Cond.fieldLink RX2 12 RX2 (TX2 0).2.1 (TX2 0).2.2.1 ∈ vs_ws := vs_mem 270 (by decide +kernel) (by decide +kernel)
theorem vf_X2_16 : Cond.fieldLink RX2 16 RX2 (TX2 1).2.1 (TX2 1).2.2.1 ∈ vs_ws := vs_mem 271 (by decide +kernel) (by decide +kernel)
theorem vf_X2_22 : Cond.fieldLink RX2 22 RX2 (TX2 2).2.1 (TX2 2).2.2.1 ∈ vs_ws := vs_mem 272 (by decide +kernel) (by decide +kernel)
theorem vf_X2_29 : Cond.fieldLink RX2 29 RX2 (TX2 3).2.1 (TX2 3).2.2.1 ∈ vs_ws := vs_mem 273 (by decide +kernel) (by decide +kernel)
theorem vf_X2_33 : Cond.fieldLink RX2 33 RX2 (TX2 4).2.1 (TX2 4).2.2.1 ∈ vs_ws := vs_mem 274 (by decide +kernel) (by decide +kernel)
theorem vf_X2_135 : Cond.fieldLink RX2 135 RX2 (TX2 5).2.1 (TX2 5).2.2.1 ∈ vs_ws := vs_mem 275 (by decide +kernel) (by decide +kernel)
theorem vf_X2_146 : Cond.fieldLink RX2 146 RX2 (TX2 6).2.1 (TX2 6).2.2.1 ∈ vs_ws := vs_mem 276 (by decide +kernel) (by decide +kernel)
theorem vf_X0_9 : Cond.fieldLink RX0 9 RX0 (TX0 1).2.1 (TX0 1).2.2.1 ∈ vs_ws := vs_mem 186 (by decide +kernel) (by decide +kernel)
theorem vf_X0_15 : Cond.fieldLink RX0 15 RX0 (TX0 2).2.1 (TX0 2).2.2.1 ∈ vs_ws := vs_mem 187 (by decide +kernel) (by decide +kernel)
theorem vf_X0_18 : Cond.fieldLink RX0 18 RX0 (TX0 3).2.1 (TX0 3).2.2.1 ∈ vs_ws := vs_mem 188 (by decide +kernel) (by decide +kernel)
theorem vf_X0_21 : Cond.fieldLink RX0 21 RX0 (TX0 4).2.1 (TX0 4).2.2.1 ∈ vs_ws := vs_mem 190 (by decide +kernel) (by decide +kernel)
theorem vf_X0_24 : Cond.fieldLink RX0 24 RX0 (TX0 5).2.1 (TX0 5).2.2.1 ∈ vs_ws := vs_mem 191 (by decide +kernel) (by decide +kernel)
theorem vf_X0_27 : Cond.fieldLink RX0 27 RX0 (TX0 6).2.1 (TX0 6).2.2.1 ∈ vs_ws := vs_mem 193 (by decide +kernel) (by decide +kernel)
theorem vf_X0_30 : Cond.fieldLink RX0 30 RX0 (TX0 7).2.1 (TX0 7).2.2.1 ∈ vs_ws := vs_mem 195 (by decide +kernel) (by decide +kernel)
theorem vf_X0_33 : Cond.fieldLink RX0 33 RX0 (TX0 10).2.1 (TX0 10).2.2.1 ∈ vs_ws := vs_mem 200 (by decide +kernel) (by decide +kernel)
theorem vf_X0_36 : Cond.fieldLink RX0 36 RX0 (TX0 11).2.1 (TX0 11).2.2.1 ∈ vs_ws := vs_mem 202 (by decide +kernel) (by decide +kernel)
theorem vf_X0_40 : Cond.fieldLink RX0 40 RX0 (TX0 12).2.1 (TX0 12).2.2.1 ∈ vs_ws := vs_mem 204 (by decide +kernel) (by decide +kernel)
theorem vf_X0_43 : Cond.fieldLink RX0 43 RX0 (TX0 13).2.1 (TX0 13).2.2.1 ∈ vs_ws := vs_mem 206 (by decide +kernel) (by decide +kernel)
theorem vf_X0_47 : Cond.fieldLink RX0 47 RX0 (TX0 0).2.1 (TX0 0).2.2.1 ∈ vs_ws := vs_mem 184 (by decide +kernel) (by decide +kernel)
theorem vf_X0_51 : Cond.fieldLink RX0 51 RX0 (TX0 8).2.1 (TX0 8).2.2.1 ∈ vs_ws := vs_mem 196 (by decide +kernel) (by decide +kernel)
theorem vf_X0_54 : Cond.fieldLink RX0 54 RX0 (TX0 9).2.1 (TX0 9).2.2.1 ∈ vs_ws := vs_mem 198 (by decide +kernel) (by decide +kernel)
theorem vf_X1_9 : Cond.fieldLink RX1 9 RX1 (TX1 1).2.1 (TX1 1).2.2.1 ∈ vs_ws := vs_mem 127 (by decide +kernel) (by decide +kernel)
theorem vf_X1_15 : Cond.fieldLink RX1 15 RX1 (TX1 2).2.1 (TX1 2).2.2.1 ∈ vs_ws := vs_mem 129 (by decide +kernel) (by decide +kernel)
theorem vf_X1_18 : Cond.fieldLink RX1 18 RX1 (TX1 3).2.1 (TX1 3).2.2.1 ∈ vs_ws := vs_mem 131 (by decide +kernel) (by decide +kernel)
theorem vf_X1_22 : Cond.fieldLink RX1 22 RX1 (TX1 4).2.1 (TX1 4).2.2.1 ∈ vs_ws := vs_mem 133 (by decide +kernel) (by decide +kernel)
theorem vf_X1_25 : Cond.fieldLink RX1 25 RX1 (TX1 5).2.1 (TX1 5).2.2.1 ∈ vs_ws := vs_mem 135 (by decide +kernel) (by decide +kernel)
theorem vf_X1_29 : Cond.fieldLink RX1 29 RX1 (TX1 6).2.1 (TX1 6).2.2.1 ∈ vs_ws := vs_mem 137 (by decide +kernel) (by decide +kernel)
theorem vf_X1_32 : Cond.fieldLink RX1 32 RX1 (TX1 7).2.1 (TX1 7).2.2.1 ∈ vs_ws := vs_mem 139 (by decide +kernel) (by decide +kernel)
theorem vf_X1_35 : Cond.fieldLink RX1 35 RX1 (TX1 8).2.1 (TX1 8).2.2.1 ∈ vs_ws := vs_mem 141 (by decide +kernel) (by decide +kernel)
theorem vf_X1_38 : Cond.fieldLink RX1 38 RX1 (TX1 9).2.1 (TX1 9).2.2.1 ∈ vs_ws := vs_mem 143 (by decide +kernel) (by decide +kernel)
theorem vf_X1_41 : Cond.fieldLink RX1 41 RX1 (TX1 11).2.1 (TX1 11).2.2.1 ∈ vs_ws := vs_mem 146 (by decide +kernel) (by decide +kernel)
theorem vf_X1_44 : Cond.fieldLink RX1 44 RX1 (TX1 12).2.1 (TX1 12).2.2.1 ∈ vs_ws := vs_mem 147 (by decide +kernel) (by decide +kernel)
theorem vf_X1_53 : Cond.fieldLink RX1 53 RX1 (TX1 0).2.1 (TX1 0).2.2.1 ∈ vs_ws := vs_mem 125 (by decide +kernel) (by decide +kernel)
theorem vf_X1_57 : Cond.fieldLink RX1 57 RX1 (TX1 10).2.1 (TX1 10).2.2.1 ∈ vs_ws := vs_mem 144 (by decide +kernel) (by decide +kernel)
theorem vf_X3_9 : Cond.fieldLink RX3 9 RX3 (TX3 1).2.1 (TX3 1).2.2.1 ∈ vs_ws := vs_mem 1259 (by decide +kernel) (by decide +kernel)
theorem vf_X3_13 : Cond.fieldLink RX3 13 RX3 (TX3 2).2.1 (TX3 2).2.2.1 ∈ vs_ws := vs_mem 1260 (by decide +kernel) (by decide +kernel)
theorem vf_X3_17 : Cond.fieldLink RX3 17 RX3 (TX3 3).2.1 (TX3 3).2.2.1 ∈ vs_ws := vs_mem 1261 (by decide +kernel) (by decide +kernel)
theorem vf_X3_20 : Cond.fieldLink RX3 20 RX3 (TX3 4).2.1 (TX3 4).2.2.1 ∈ vs_ws := vs_mem 1262 (by decide +kernel) (by decide +kernel)
theorem vf_X3_23 : Cond.fieldLink RX3 23 RX3 (TX3 5).2.1 (TX3 5).2.2.1 ∈ vs_ws := vs_mem 1263 (by decide +kernel) (by decide +kernel)
theorem vf_X3_27 : Cond.fieldLink RX3 27 RX3 (TX3 6).2.1 (TX3 6).2.2.1 ∈ vs_ws := vs_mem 1264 (by decide +kernel) (by decide +kernel)
theorem vf_X3_32 : Cond.fieldLink RX3 32 RX3 (TX3 8).2.1 (TX3 8).2.2.1 ∈ vs_ws := vs_mem 1266 (by decide +kernel) (by decide +kernel)
theorem vf_X3_35 : Cond.fieldLink RX3 35 RX3 (TX3 9).2.1 (TX3 9).2.2.1 ∈ vs_ws := vs_mem 1267 (by decide +kernel) (by decide +kernel)
theorem vf_X3_38 : Cond.fieldLink RX3 38 RX3 (TX3 10).2.1 (TX3 10).2.2.1 ∈ vs_ws := vs_mem 1268 (by decide +kernel) (by decide +kernel)
theorem vf_X3_41 : Cond.fieldLink RX3 41 RX3 (TX3 11).2.1 (TX3 11).2.2.1 ∈ vs_ws := vs_mem 1269 (by decide +kernel) (by decide +kernel)
theorem vf_X3_44 : Cond.fieldLink RX3 44 RX3 (TX3 12).2.1 (TX3 12).2.2.1 ∈ vs_ws := vs_mem 1270 (by decide +kernel) (by decide +kernel)
theorem vf_X3_47 : Cond.fieldLink RX3 47 RX3 (TX3 13).2.1 (TX3 13).2.2.1 ∈ vs_ws := vs_mem 1271 (by decide +kernel) (by decide +kernel)
theorem vf_X3_50 : Cond.fieldLink RX3 50 RX3 (TX3 14).2.1 (TX3 14).2.2.1 ∈ vs_ws := vs_mem 1272 (by decide +kernel) (by decide +kernel)
theorem vf_X3_53 : Cond.fieldLink RX3 53 RX3 (TX3 16).2.1 (TX3 16).2.2.1 ∈ vs_ws := vs_mem 1274 (by decide +kernel) (by decide +kernel)
theorem vf_X3_56 : Cond.fieldLink RX3 56 RX3 (TX3 17).2.1 (TX3 17).2.2.1 ∈ vs_ws := vs_mem 1275 (by decide +kernel) (by decide +kernel)
theorem vf_X3_59 : Cond.fieldLink RX3 59 RX3 (TX3 18).2.1 (TX3 18).2.2.1 ∈ vs_ws := vs_mem 1276 (by decide +kernel) (by decide +kernel)
theorem vf_X3_62 : Cond.fieldLink RX3 62 RX3 (TX3 19).2.1 (TX3 19).2.2.1 ∈ vs_ws := vs_mem 1277 (by decide +kernel) (by decide +kernel)
theorem vf_X3_65 : Cond.fieldLink RX3 65 RX3 (TX3 20).2.1 (TX3 20).2.2.1 ∈ vs_ws := vs_mem 1278 (by decide +kernel) (by decide +kernel)
theorem vf_X3_68 : Cond.fieldLink RX3 68 RX3 (TX3 21).2.1 (TX3 21).2.2.1 ∈ vs_ws := vs_mem 1279 (by decide +kernel) (by decide +kernel)
theorem vf_X3_71 : Cond.fieldLink RX3 71 RX3 (TX3 22).2.1 (TX3 22).2.2.1 ∈ vs_ws := vs_mem 1280 (by decide +kernel) (by decide +kernel)
theorem vf_X3_74 : Cond.fieldLink RX3 74 RX3 (TX3 23).2.1 (TX3 23).2.2.1 ∈ vs_ws := vs_mem 1281 (by decide +kernel) (by decide +kernel)
theorem vf_X3_77 : Cond.fieldLink RX3 77 RX3 (TX3 24).2.1 (TX3 24).2.2.1 ∈ vs_ws := vs_mem 1282 (by decide +kernel) (by decide +kernel)
theorem vf_X3_80 : Cond.fieldLink RX3 80 RX3 (TX3 25).2.1 (TX3 25).2.2.1 ∈ vs_ws := vs_mem 1283 (by decide +kernel) (by decide +kernel)
theorem vf_X3_83 : Cond.fieldLink RX3 83 RX3 (TX3 26).2.1 (TX3 26).2.2.1 ∈ vs_ws := vs_mem 1284 (by decide +kernel) (by decide +kernel)
theorem vf_X3_86 : Cond.fieldLink RX3 86 RX3 (TX3 29).2.1 (TX3 29).2.2.1 ∈ vs_ws := vs_mem 1287 (by decide +kernel) (by decide +kernel)
theorem vf_X3_92 : Cond.fieldLink RX3 92 RX3 (TX3 32).2.1 (TX3 32).2.2.1 ∈ vs_ws := vs_mem 1290 (by decide +kernel) (by decide +kernel)
theorem vf_X3_96 : Cond.fieldLink RX3 96 RX3 (TX3 0).2.1 (TX3 0).2.2.1 ∈ vs_ws := vs_mem 1258 (by decide +kernel) (by decide +kernel)
theorem vf_X3_99 : Cond.fieldLink RX3 99 RX3 (TX3 7).2.1 (TX3 7).2.2.1 ∈ vs_ws := vs_mem 1265 (by decide +kernel) (by decide +kernel)
theorem vf_X3_106 : Cond.fieldLink RX3 106 RX3 (TX3 27).2.1 (TX3 27).2.2.1 ∈ vs_ws := vs_mem 1285 (by decide +kernel) (by decide +kernel)
theorem vf_X3_109 : Cond.fieldLink RX3 109 RX3 (TX3 28).2.1 (TX3 28).2.2.1 ∈ vs_ws := vs_mem 1286 (by decide +kernel) (by decide +kernel)
theorem vf_X3_171 : Cond.fieldLink RX3 171 RX3 (TX3 15).2.1 (TX3 15).2.2.1 ∈ vs_ws := vs_mem 1273 (by decide +kernel) (by decide +kernel)
theorem vf_X3_200 : Cond.fieldLink RX3 200 RX3 (TX3 31).2.1 (TX3 31).2.2.1 ∈ vs_ws := vs_mem 1289 (by decide +kernel) (by decide +kernel)
theorem vf_X3_214 : Cond.fieldLink RX3 214 RX3 (TX3 30).2.1 (TX3 30).2.2.1 ∈ vs_ws := vs_mem 1288 (by decide +kernel) (by decide +kernel)
/-! the links to private members of nest mates: they are premises of their own (they stand in no method's words) -/
def vs_nF : List (String × Nat × String × String × String × String) := [(RX2, 44, RX1, (TX1 0).2.1, (TX1 0).2.2.1, RX2), (RX2, 60, RX1, (TX1 3).2.1, (TX1 3).2.2.1, RX2), (RX2, 64, RX1, (TX1 2).2.1, (TX1 2).2.2.1, RX2), (RX2, 72, RX0, (TX0 0).2.1, (TX0 0).2.2.1, RX2), (RX2, 80, RX1, (TX1 6).2.1, (TX1 6).2.2.1, RX2), (RX2, 105, RX0, (TX0 13).2.1, (TX0 13).2.2.1, RX2), (RX2, 106, RX0, (TX0 11).2.1, (TX0 11).2.2.1, RX2), (RX2, 115, RX0, (TX0 12).2.1, (TX0 12).2.2.1, RX2), (RX2, 124, RX0, (TX0 3).2.1, (TX0 3).2.2.1, RX2), (RX2, 127, RX0, (TX0 5).2.1, (TX0 5).2.2.1, RX2), (RX2, 130, RX0, (TX0 6).2.1, (TX0 6).2.2.1, RX2), (RX2, 158, RX1, (TX1 8).2.1, (TX1 8).2.2.1, RX2), (RX2, 174, RX1, (TX1 7).2.1, (TX1 7).2.2.1, RX2), (RX2, 214, RX1, (TX1 1).2.1, (TX1 1).2.2.1, RX2), (RX2, 222, RX1, (TX1 4).2.1, (TX1 4).2.2.1, RX2), (RX2, 227, RX1, (TX1 5).2.1, (TX1 5).2.2.1, RX2), (RX2, 241, RX1, (TX1 10).2.1, (TX1 10).2.2.1, RX2), (RX2, 289, RX0, (TX0 8).2.1, (TX0 8).2.2.1, RX2), (RX2, 294, RX0, (TX0 9).2.1, (TX0 9).2.2.1, RX2), (RX2, 312, RX0, (TX0 10).2.1, (TX0 10).2.2.1, RX2)]
def vs_nM : List (String × Nat × MethodName × String) := [(RX2, 11, yX1_init, RX2), (RX2, 21, yX0_init, RX2), (RX2, 52, yX1_installDisk, RX2), (RX2, 77, yX0_admitTenant, RX2), (RX2, 96, yX0_enqueue, RX2), (RX2, 121, yX0_countWaiting, RX2), (RX2, 140, yX0_beginTick, RX2), (RX2, 143, yX1_rebuild, RX2), (RX2, 152, yX0_giveCredits, RX2), (RX2, 155, yX1_countWritten, RX2), (RX2, 161, yX1_countInSlots, RX2), (RX2, 166, yX1_addressOf, RX2), (RX2, 169, yX1_disksWithGoodCopy, RX2), (RX2, 175, yX1_hasLost, RX2), (RX2, 179, yX1_countLost, RX2), (RX2, 183, yX1_countDegraded, RX2), (RX2, 189, yX1_bearsByCounting, RX2), (RX2, 192, yX1_bearsByTrying, RX2), (RX2, 198, yX1_breakDisk, RX2), (RX2, 203, yX1_disksInState, RX2), (RX2, 230, yX1_healDisk, RX2), (RX2, 233, yX1_countRotten, RX2), (RX2, 236, yX1_copyFrom, RX2), (RX2, 249, yX1_countCopies, RX2), (RX2, 252, yX1_countSlots, RX2), (RX2, 257, yX1_agreesWithDisks, RX2), (RX2, 309, yX0_oldestWaiting, RX2), (RX2, 315, yX1_putValue, RX2), (RX2, 322, yX0_markServed, RX2)]
theorem vs_nF_in : ∀ q ∈ vs_nF, Cond.fieldLinkNest q.1 q.2.1 q.2.2.1 q.2.2.2.1 q.2.2.2.2.1 q.2.2.2.2.2 ∈ lw_tbl := by
  have h : vs_nF.map (fun q => Cond.fieldLinkNest q.1 q.2.1 q.2.2.1 q.2.2.2.1 q.2.2.2.2.1 q.2.2.2.2.2) = ([126, 132, 130, 185, 138, 207, 203, 205, 189, 192, 194, 142, 140, 128, 134, 136, 145, 197, 199, 201] : List Nat).filterMap (fun i => lw_tbl[i]?) := by decide +kernel
  intro q hq
  have h1 := List.mem_map_of_mem (f := fun q : String × Nat × String × String × String × String => Cond.fieldLinkNest q.1 q.2.1 q.2.2.1 q.2.2.2.1 q.2.2.2.2.1 q.2.2.2.2.2) hq
  rw [h] at h1
  obtain ⟨i, -, hi⟩ := List.mem_filterMap.mp h1
  exact List.mem_of_getElem? hi
theorem vs_nM_in : ∀ q ∈ vs_nM, Cond.methodLinkNest q.1 q.2.1 q.2.2.1 q.2.2.2 ∈ lw_tbl := by
  have h : vs_nM.map (fun q => Cond.methodLinkNest q.1 q.2.1 q.2.2.1 q.2.2.2) = ([118, 180, 512, 581, 619, 674, 708, 352, 751, 762, 780, 789, 746, 805, 308, 328, 817, 828, 848, 864, 890, 901, 344, 929, 940, 398, 722, 726, 747] : List Nat).filterMap (fun i => lw_tbl[i]?) := by decide +kernel
  intro q hq
  have h1 := List.mem_map_of_mem (f := fun q : String × Nat × MethodName × String => Cond.methodLinkNest q.1 q.2.1 q.2.2.1 q.2.2.2) hq
  rw [h] at h1
  obtain ⟨i, -, hi⟩ := List.mem_filterMap.mp h1
  exact List.mem_of_getElem? hi
theorem vn_X2_44 : (RX2, 44, RX1, (TX1 0).2.1, (TX1 0).2.2.1, RX2) ∈ vs_nF := List.mem_of_getElem? (i := 0) rfl
theorem vn_X2_60 : (RX2, 60, RX1, (TX1 3).2.1, (TX1 3).2.2.1, RX2) ∈ vs_nF := List.mem_of_getElem? (i := 1) rfl
theorem vn_X2_64 : (RX2, 64, RX1, (TX1 2).2.1, (TX1 2).2.2.1, RX2) ∈ vs_nF := List.mem_of_getElem? (i := 2) rfl
theorem vn_X2_72 : (RX2, 72, RX0, (TX0 0).2.1, (TX0 0).2.2.1, RX2) ∈ vs_nF := List.mem_of_getElem? (i := 3) rfl
theorem vn_X2_80 : (RX2, 80, RX1, (TX1 6).2.1, (TX1 6).2.2.1, RX2) ∈ vs_nF := List.mem_of_getElem? (i := 4) rfl
theorem vn_X2_105 : (RX2, 105, RX0, (TX0 13).2.1, (TX0 13).2.2.1, RX2) ∈ vs_nF := List.mem_of_getElem? (i := 5) rfl
theorem vn_X2_106 : (RX2, 106, RX0, (TX0 11).2.1, (TX0 11).2.2.1, RX2) ∈ vs_nF := List.mem_of_getElem? (i := 6) rfl
theorem vn_X2_115 : (RX2, 115, RX0, (TX0 12).2.1, (TX0 12).2.2.1, RX2) ∈ vs_nF := List.mem_of_getElem? (i := 7) rfl
theorem vn_X2_124 : (RX2, 124, RX0, (TX0 3).2.1, (TX0 3).2.2.1, RX2) ∈ vs_nF := List.mem_of_getElem? (i := 8) rfl
theorem vn_X2_127 : (RX2, 127, RX0, (TX0 5).2.1, (TX0 5).2.2.1, RX2) ∈ vs_nF := List.mem_of_getElem? (i := 9) rfl
theorem vn_X2_130 : (RX2, 130, RX0, (TX0 6).2.1, (TX0 6).2.2.1, RX2) ∈ vs_nF := List.mem_of_getElem? (i := 10) rfl
theorem vn_X2_158 : (RX2, 158, RX1, (TX1 8).2.1, (TX1 8).2.2.1, RX2) ∈ vs_nF := List.mem_of_getElem? (i := 11) rfl
theorem vn_X2_174 : (RX2, 174, RX1, (TX1 7).2.1, (TX1 7).2.2.1, RX2) ∈ vs_nF := List.mem_of_getElem? (i := 12) rfl
theorem vn_X2_214 : (RX2, 214, RX1, (TX1 1).2.1, (TX1 1).2.2.1, RX2) ∈ vs_nF := List.mem_of_getElem? (i := 13) rfl
theorem vn_X2_222 : (RX2, 222, RX1, (TX1 4).2.1, (TX1 4).2.2.1, RX2) ∈ vs_nF := List.mem_of_getElem? (i := 14) rfl
theorem vn_X2_227 : (RX2, 227, RX1, (TX1 5).2.1, (TX1 5).2.2.1, RX2) ∈ vs_nF := List.mem_of_getElem? (i := 15) rfl
theorem vn_X2_241 : (RX2, 241, RX1, (TX1 10).2.1, (TX1 10).2.2.1, RX2) ∈ vs_nF := List.mem_of_getElem? (i := 16) rfl
theorem vn_X2_289 : (RX2, 289, RX0, (TX0 8).2.1, (TX0 8).2.2.1, RX2) ∈ vs_nF := List.mem_of_getElem? (i := 17) rfl
theorem vn_X2_294 : (RX2, 294, RX0, (TX0 9).2.1, (TX0 9).2.2.1, RX2) ∈ vs_nF := List.mem_of_getElem? (i := 18) rfl
theorem vn_X2_312 : (RX2, 312, RX0, (TX0 10).2.1, (TX0 10).2.2.1, RX2) ∈ vs_nF := List.mem_of_getElem? (i := 19) rfl
theorem vo_X2_11 : (RX2, 11, yX1_init, RX2) ∈ vs_nM := List.mem_of_getElem? (i := 0) rfl
theorem vo_X2_21 : (RX2, 21, yX0_init, RX2) ∈ vs_nM := List.mem_of_getElem? (i := 1) rfl
theorem vo_X2_52 : (RX2, 52, yX1_installDisk, RX2) ∈ vs_nM := List.mem_of_getElem? (i := 2) rfl
theorem vo_X2_77 : (RX2, 77, yX0_admitTenant, RX2) ∈ vs_nM := List.mem_of_getElem? (i := 3) rfl
theorem vo_X2_96 : (RX2, 96, yX0_enqueue, RX2) ∈ vs_nM := List.mem_of_getElem? (i := 4) rfl
theorem vo_X2_121 : (RX2, 121, yX0_countWaiting, RX2) ∈ vs_nM := List.mem_of_getElem? (i := 5) rfl
theorem vo_X2_140 : (RX2, 140, yX0_beginTick, RX2) ∈ vs_nM := List.mem_of_getElem? (i := 6) rfl
theorem vo_X2_143 : (RX2, 143, yX1_rebuild, RX2) ∈ vs_nM := List.mem_of_getElem? (i := 7) rfl
theorem vo_X2_152 : (RX2, 152, yX0_giveCredits, RX2) ∈ vs_nM := List.mem_of_getElem? (i := 8) rfl
theorem vo_X2_155 : (RX2, 155, yX1_countWritten, RX2) ∈ vs_nM := List.mem_of_getElem? (i := 9) rfl
theorem vo_X2_161 : (RX2, 161, yX1_countInSlots, RX2) ∈ vs_nM := List.mem_of_getElem? (i := 10) rfl
theorem vo_X2_166 : (RX2, 166, yX1_addressOf, RX2) ∈ vs_nM := List.mem_of_getElem? (i := 11) rfl
theorem vo_X2_169 : (RX2, 169, yX1_disksWithGoodCopy, RX2) ∈ vs_nM := List.mem_of_getElem? (i := 12) rfl
theorem vo_X2_175 : (RX2, 175, yX1_hasLost, RX2) ∈ vs_nM := List.mem_of_getElem? (i := 13) rfl
theorem vo_X2_179 : (RX2, 179, yX1_countLost, RX2) ∈ vs_nM := List.mem_of_getElem? (i := 14) rfl
theorem vo_X2_183 : (RX2, 183, yX1_countDegraded, RX2) ∈ vs_nM := List.mem_of_getElem? (i := 15) rfl
theorem vo_X2_189 : (RX2, 189, yX1_bearsByCounting, RX2) ∈ vs_nM := List.mem_of_getElem? (i := 16) rfl
theorem vo_X2_192 : (RX2, 192, yX1_bearsByTrying, RX2) ∈ vs_nM := List.mem_of_getElem? (i := 17) rfl
theorem vo_X2_198 : (RX2, 198, yX1_breakDisk, RX2) ∈ vs_nM := List.mem_of_getElem? (i := 18) rfl
theorem vo_X2_203 : (RX2, 203, yX1_disksInState, RX2) ∈ vs_nM := List.mem_of_getElem? (i := 19) rfl
theorem vo_X2_230 : (RX2, 230, yX1_healDisk, RX2) ∈ vs_nM := List.mem_of_getElem? (i := 20) rfl
theorem vo_X2_233 : (RX2, 233, yX1_countRotten, RX2) ∈ vs_nM := List.mem_of_getElem? (i := 21) rfl
theorem vo_X2_236 : (RX2, 236, yX1_copyFrom, RX2) ∈ vs_nM := List.mem_of_getElem? (i := 22) rfl
theorem vo_X2_249 : (RX2, 249, yX1_countCopies, RX2) ∈ vs_nM := List.mem_of_getElem? (i := 23) rfl
theorem vo_X2_252 : (RX2, 252, yX1_countSlots, RX2) ∈ vs_nM := List.mem_of_getElem? (i := 24) rfl
theorem vo_X2_257 : (RX2, 257, yX1_agreesWithDisks, RX2) ∈ vs_nM := List.mem_of_getElem? (i := 25) rfl
theorem vo_X2_309 : (RX2, 309, yX0_oldestWaiting, RX2) ∈ vs_nM := List.mem_of_getElem? (i := 26) rfl
theorem vo_X2_315 : (RX2, 315, yX1_putValue, RX2) ∈ vs_nM := List.mem_of_getElem? (i := 27) rfl
theorem vo_X2_322 : (RX2, 322, yX0_markServed, RX2) ∈ vs_nM := List.mem_of_getElem? (i := 28) rfl
theorem vm_X2_28 : Cond.methodLink RX2 28 yJ4_init_da8c8 ∈ vs_ws := vs_mem 239 (by decide +kernel) (by decide +kernel)
theorem vm_X2_56 : Cond.methodLink RX2 56 yX2_checkDisk ∈ vs_ws := vs_mem 547 (by decide +kernel) (by decide +kernel)
theorem vm_X2_85 : Cond.methodLink RX2 85 yX2_checkBlock ∈ vs_ws := vs_mem 600 (by decide +kernel) (by decide +kernel)
theorem vm_X2_89 : Cond.methodLink RX2 89 yX2_checkRoomForRequest ∈ vs_ws := vs_mem 610 (by decide +kernel) (by decide +kernel)
theorem vm_X2_92 : Cond.methodLink RX2 92 yX2_blockId ∈ vs_ws := vs_mem 616 (by decide +kernel) (by decide +kernel)
theorem vm_X2_102 : Cond.methodLink RX2 102 yX2_checkRequest ∈ vs_ws := vs_mem 638 (by decide +kernel) (by decide +kernel)
theorem vm_X2_118 : Cond.methodLink RX2 118 yX2_checkTenant ∈ vs_ws := vs_mem 604 (by decide +kernel) (by decide +kernel)
theorem vm_X2_149 : Cond.methodLink RX2 149 yX2_serveRounds ∈ vs_ws := vs_mem 714 (by decide +kernel) (by decide +kernel)
theorem vm_X2_186 : Cond.methodLink RX2 186 yX2_checkLosses ∈ vs_ws := vs_mem 813 (by decide +kernel) (by decide +kernel)
theorem vm_X2_195 : Cond.methodLink RX2 195 yX2_checkNotFailed ∈ vs_ws := vs_mem 843 (by decide +kernel) (by decide +kernel)
theorem vm_X2_207 : Cond.methodLink RX2 207 yJ6_bitCount_0f7a4 ∈ vs_ws := vs_mem 865 (by decide +kernel) (by decide +kernel)
theorem vm_X2_261 : Cond.methodLink RX2 261 yJ4_setLength_d00df ∈ vs_ws := vs_mem 952 (by decide +kernel) (by decide +kernel)
theorem vm_X2_264 : Cond.methodLink RX2 264 yJ4_append_cf468 ∈ vs_ws := vs_mem 1203 (by decide +kernel) (by decide +kernel)
theorem vm_X2_268 : Cond.methodLink RX2 268 yX2_appendCopy ∈ vs_ws := vs_mem 1225 (by decide +kernel) (by decide +kernel)
theorem vm_X2_272 : Cond.methodLink RX2 272 yJ4_length_8abf5 ∈ vs_ws := vs_mem 1230 (by decide +kernel) (by decide +kernel)
theorem vm_X2_277 : Cond.methodLink RX2 277 yJ4_charAt_5068e ∈ vs_ws := vs_mem 1239 (by decide +kernel) (by decide +kernel)
theorem vm_X2_303 : Cond.methodLink RX2 303 yJ4_append_bf812 ∈ vs_ws := vs_mem 1229 (by decide +kernel) (by decide +kernel)
theorem vm_X2_306 : Cond.methodLink RX2 306 yX2_serveOldest ∈ vs_ws := vs_mem 718 (by decide +kernel) (by decide +kernel)
theorem vm_X2_319 : Cond.methodLink RX2 319 yX2_serveRead ∈ vs_ws := vs_mem 742 (by decide +kernel) (by decide +kernel)
theorem vm_X0_57 : Cond.methodLink RX0 57 yX0_countWaiting ∈ vs_ws := vs_mem 712 (by decide +kernel) (by decide +kernel)
theorem vm_X1_47 : Cond.methodLink RX1 47 yJ7_fill_53178 ∈ vs_ws := vs_mem 122 (by decide +kernel) (by decide +kernel)
theorem vm_X1_66 : Cond.methodLink RX1 66 yX1_addressOf ∈ vs_ws := vs_mem 320 (by decide +kernel) (by decide +kernel)
theorem vm_X1_70 : Cond.methodLink RX1 70 yX1_disksWithGoodCopy ∈ vs_ws := vs_mem 316 (by decide +kernel) (by decide +kernel)
theorem vm_X1_74 : Cond.methodLink RX1 74 yX1_hasLost ∈ vs_ws := vs_mem 312 (by decide +kernel) (by decide +kernel)
theorem vm_X1_78 : Cond.methodLink RX1 78 yX1_wantedOf ∈ vs_ws := vs_mem 332 (by decide +kernel) (by decide +kernel)
theorem vm_X1_81 : Cond.methodLink RX1 81 yX1_freeOn ∈ vs_ws := vs_mem 371 (by decide +kernel) (by decide +kernel)
theorem vm_X1_84 : Cond.methodLink RX1 84 yX1_firstFreeOn ∈ vs_ws := vs_mem 375 (by decide +kernel) (by decide +kernel)
theorem vm_X1_87 : Cond.methodLink RX1 87 yX1_renewCopies ∈ vs_ws := vs_mem 730 (by decide +kernel) (by decide +kernel)
theorem vm_X1_91 : Cond.methodLink RX1 91 yX1_countPlacesAnew ∈ vs_ws := vs_mem 734 (by decide +kernel) (by decide +kernel)
theorem vm_X1_94 : Cond.methodLink RX1 94 yX1_removeCopies ∈ vs_ws := vs_mem 738 (by decide +kernel) (by decide +kernel)
theorem vm_X1_97 : Cond.methodLink RX1 97 yX1_completeBlock ∈ vs_ws := vs_mem 356 (by decide +kernel) (by decide +kernel)
theorem vm_X1_100 : Cond.methodLink RX1 100 yX1_disksWithCopy ∈ vs_ws := vs_mem 363 (by decide +kernel) (by decide +kernel)
theorem vm_X1_103 : Cond.methodLink RX1 103 yX1_removeCopy ∈ vs_ws := vs_mem 390 (by decide +kernel) (by decide +kernel)
theorem vm_X1_107 : Cond.methodLink RX1 107 yX1_emptyWarnedDisks ∈ vs_ws := vs_mem 386 (by decide +kernel) (by decide +kernel)
theorem vm_X1_115 : Cond.methodLink RX1 115 yX1_findPlace ∈ vs_ws := vs_mem 367 (by decide +kernel) (by decide +kernel)
theorem vm_X1_118 : Cond.methodLink RX1 118 yX1_addCopy ∈ vs_ws := vs_mem 379 (by decide +kernel) (by decide +kernel)
theorem vm_X1_124 : Cond.methodLink RX1 124 yX1_removeCopyAt ∈ vs_ws := vs_mem 852 (by decide +kernel) (by decide +kernel)
theorem vm_X1_127 : Cond.methodLink RX1 127 yJ6_bitCount_0f7a4 ∈ vs_ws := vs_mem 410 (by decide +kernel) (by decide +kernel)
theorem vm_X1_132 : Cond.methodLink RX1 132 yX1_disksInState ∈ vs_ws := vs_mem 402 (by decide +kernel) (by decide +kernel)
theorem vm_X1_136 : Cond.methodLink RX1 136 yX1_doesLose ∈ vs_ws := vs_mem 832 (by decide +kernel) (by decide +kernel)
theorem vm_X1_139 : Cond.methodLink RX1 139 yX1_countInSlots ∈ vs_ws := vs_mem 406 (by decide +kernel) (by decide +kernel)
theorem vm_L_7 : Cond.methodLink RL 7 yX2_addDisk ∈ vs_ws := vs_mem 421 (by decide +kernel) (by decide +kernel)
theorem vm_L_17 : Cond.methodLink RL 17 yX2_diskState ∈ vs_ws := vs_mem 543 (by decide +kernel) (by decide +kernel)
theorem vm_L_23 : Cond.methodLink RL 23 yX2_usedOn ∈ vs_ws := vs_mem 567 (by decide +kernel) (by decide +kernel)
theorem vm_L_26 : Cond.methodLink RL 26 yX2_addTenant ∈ vs_ws := vs_mem 574 (by decide +kernel) (by decide +kernel)
theorem vm_L_30 : Cond.methodLink RL 30 yX2_setHurry ∈ vs_ws := vs_mem 588 (by decide +kernel) (by decide +kernel)
theorem vm_L_33 : Cond.methodLink RL 33 yX2_read ∈ vs_ws := vs_mem 596 (by decide +kernel) (by decide +kernel)
theorem vm_L_36 : Cond.methodLink RL 36 yX2_write ∈ vs_ws := vs_mem 626 (by decide +kernel) (by decide +kernel)
theorem vm_L_40 : Cond.methodLink RL 40 yX2_stateOf ∈ vs_ws := vs_mem 634 (by decide +kernel) (by decide +kernel)
theorem vm_L_43 : Cond.methodLink RL 43 yX2_answerTo ∈ vs_ws := vs_mem 647 (by decide +kernel) (by decide +kernel)
theorem vm_L_48 : Cond.methodLink RL 48 yX2_waitingOf ∈ vs_ws := vs_mem 670 (by decide +kernel) (by decide +kernel)
theorem vm_L_51 : Cond.methodLink RL 51 yX2_servedOf ∈ vs_ws := vs_mem 681 (by decide +kernel) (by decide +kernel)
theorem vm_L_54 : Cond.methodLink RL 54 yX2_creditsOf ∈ vs_ws := vs_mem 688 (by decide +kernel) (by decide +kernel)
theorem vm_L_57 : Cond.methodLink RL 57 yX2_breachesOf ∈ vs_ws := vs_mem 695 (by decide +kernel) (by decide +kernel)
theorem vm_L_60 : Cond.methodLink RL 60 yX2_pass ∈ vs_ws := vs_mem 702 (by decide +kernel) (by decide +kernel)
theorem vm_L_63 : Cond.methodLink RL 63 yX2_blocksOf ∈ vs_ws := vs_mem 758 (by decide +kernel) (by decide +kernel)
theorem vm_L_66 : Cond.methodLink RL 66 yX2_copiesOf ∈ vs_ws := vs_mem 769 (by decide +kernel) (by decide +kernel)
theorem vm_L_69 : Cond.methodLink RL 69 yX2_copiesByDisks ∈ vs_ws := vs_mem 776 (by decide +kernel) (by decide +kernel)
theorem vm_L_72 : Cond.methodLink RL 72 yX2_diskOfCopy ∈ vs_ws := vs_mem 784 (by decide +kernel) (by decide +kernel)
theorem vm_L_75 : Cond.methodLink RL 75 yX2_valueOf ∈ vs_ws := vs_mem 793 (by decide +kernel) (by decide +kernel)
theorem vm_L_78 : Cond.methodLink RL 78 yX2_isLost ∈ vs_ws := vs_mem 801 (by decide +kernel) (by decide +kernel)
theorem vm_L_82 : Cond.methodLink RL 82 yX2_doesBear ∈ vs_ws := vs_mem 809 (by decide +kernel) (by decide +kernel)
theorem vm_L_86 : Cond.methodLink RL 86 yX2_doesBearByTrying ∈ vs_ws := vs_mem 824 (by decide +kernel) (by decide +kernel)
theorem vm_L_89 : Cond.methodLink RL 89 yX2_fail ∈ vs_ws := vs_mem 839 (by decide +kernel) (by decide +kernel)
theorem vm_L_92 : Cond.methodLink RL 92 yX2_replace ∈ vs_ws := vs_mem 859 (by decide +kernel) (by decide +kernel)
theorem vm_L_95 : Cond.methodLink RL 95 yX2_warn ∈ vs_ws := vs_mem 869 (by decide +kernel) (by decide +kernel)
theorem vm_L_98 : Cond.methodLink RL 98 yX2_rot ∈ vs_ws := vs_mem 877 (by decide +kernel) (by decide +kernel)
theorem vm_L_101 : Cond.methodLink RL 101 yX2_scrub ∈ vs_ws := vs_mem 886 (by decide +kernel) (by decide +kernel)
theorem vm_L_104 : Cond.methodLink RL 104 yX2_rottenOn ∈ vs_ws := vs_mem 897 (by decide +kernel) (by decide +kernel)
theorem vm_L_107 : Cond.methodLink RL 107 yX2_meanCopies ∈ vs_ws := vs_mem 922 (by decide +kernel) (by decide +kernel)
theorem vm_L_113 : Cond.methodLink RL 113 yX2_usedShare ∈ vs_ws := vs_mem 936 (by decide +kernel) (by decide +kernel)
theorem vm_L_117 : Cond.methodLink RL 117 yX2_writeDisk ∈ vs_ws := vs_mem 948 (by decide +kernel) (by decide +kernel)
theorem vm_L_120 : Cond.methodLink RL 120 yX2_lineAt ∈ vs_ws := vs_mem 1234 (by decide +kernel) (by decide +kernel)
theorem vm_L_123 : Cond.methodLink RL 123 yX2_init ∈ vs_ws := vs_mem 110 (by decide +kernel) (by decide +kernel)
theorem vm_L_126 : Cond.methodLink RL 126 yX3_init ∈ vs_ws := vs_mem 1251 (by decide +kernel) (by decide +kernel)
theorem vm_L_127 : Cond.methodLink RL 127 yL_addDisk ∈ vs_ws := vs_mem 416 (by decide +kernel) (by decide +kernel)
theorem vm_L_132 : Cond.methodLink RL 132 yX3_addDisk ∈ vs_ws := vs_mem 1362 (by decide +kernel) (by decide +kernel)
theorem vm_L_133 : Cond.methodLink RL 133 yX3_thrown ∈ vs_ws := vs_mem 1358 (by decide +kernel) (by decide +kernel)
theorem vm_L_137 : Cond.methodLink RL 137 yX2_diskCount ∈ vs_ws := vs_mem 292 (by decide +kernel) (by decide +kernel)
theorem vm_L_140 : Cond.methodLink RL 140 yX3_diskCount ∈ vs_ws := vs_mem 1373 (by decide +kernel) (by decide +kernel)
theorem vm_L_141 : Cond.methodLink RL 141 yL_diskState ∈ vs_ws := vs_mem 516 (by decide +kernel) (by decide +kernel)
theorem vm_L_143 : Cond.methodLink RL 143 yX3_diskState ∈ vs_ws := vs_mem 1377 (by decide +kernel) (by decide +kernel)
theorem vm_L_144 : Cond.methodLink RL 144 yL_usedOn ∈ vs_ws := vs_mem 564 (by decide +kernel) (by decide +kernel)
theorem vm_L_146 : Cond.methodLink RL 146 yX3_usedOn ∈ vs_ws := vs_mem 1389 (by decide +kernel) (by decide +kernel)
theorem vm_L_147 : Cond.methodLink RL 147 yL_addTenant ∈ vs_ws := vs_mem 571 (by decide +kernel) (by decide +kernel)
theorem vm_L_150 : Cond.methodLink RL 150 yX3_addTenant ∈ vs_ws := vs_mem 1397 (by decide +kernel) (by decide +kernel)
theorem vm_L_151 : Cond.methodLink RL 151 yX2_tenantCount ∈ vs_ws := vs_mem 296 (by decide +kernel) (by decide +kernel)
theorem vm_L_154 : Cond.methodLink RL 154 yX3_tenantCount ∈ vs_ws := vs_mem 1401 (by decide +kernel) (by decide +kernel)
theorem vm_L_155 : Cond.methodLink RL 155 yL_setHurry ∈ vs_ws := vs_mem 585 (by decide +kernel) (by decide +kernel)
theorem vm_L_157 : Cond.methodLink RL 157 yX3_setHurry ∈ vs_ws := vs_mem 1405 (by decide +kernel) (by decide +kernel)
theorem vm_L_158 : Cond.methodLink RL 158 yL_read ∈ vs_ws := vs_mem 593 (by decide +kernel) (by decide +kernel)
theorem vm_L_160 : Cond.methodLink RL 160 yX3_read ∈ vs_ws := vs_mem 1409 (by decide +kernel) (by decide +kernel)
theorem vm_L_161 : Cond.methodLink RL 161 yL_write ∈ vs_ws := vs_mem 623 (by decide +kernel) (by decide +kernel)
theorem vm_L_164 : Cond.methodLink RL 164 yX3_write ∈ vs_ws := vs_mem 1429 (by decide +kernel) (by decide +kernel)
theorem vm_L_165 : Cond.methodLink RL 165 yL_stateOf ∈ vs_ws := vs_mem 631 (by decide +kernel) (by decide +kernel)
theorem vm_L_167 : Cond.methodLink RL 167 yX3_stateOf ∈ vs_ws := vs_mem 1433 (by decide +kernel) (by decide +kernel)
theorem vm_L_168 : Cond.methodLink RL 168 yL_answerTo ∈ vs_ws := vs_mem 643 (by decide +kernel) (by decide +kernel)
theorem vm_L_170 : Cond.methodLink RL 170 yX3_answerTo ∈ vs_ws := vs_mem 1445 (by decide +kernel) (by decide +kernel)
theorem vm_L_171 : Cond.methodLink RL 171 yL_waitingOf ∈ vs_ws := vs_mem 667 (by decide +kernel) (by decide +kernel)
theorem vm_L_173 : Cond.methodLink RL 173 yX3_waitingOf ∈ vs_ws := vs_mem 1449 (by decide +kernel) (by decide +kernel)
theorem vm_L_174 : Cond.methodLink RL 174 yL_servedOf ∈ vs_ws := vs_mem 678 (by decide +kernel) (by decide +kernel)
theorem vm_L_176 : Cond.methodLink RL 176 yX3_servedOf ∈ vs_ws := vs_mem 1457 (by decide +kernel) (by decide +kernel)
theorem vm_L_177 : Cond.methodLink RL 177 yL_creditsOf ∈ vs_ws := vs_mem 685 (by decide +kernel) (by decide +kernel)
theorem vm_L_179 : Cond.methodLink RL 179 yX3_creditsOf ∈ vs_ws := vs_mem 1461 (by decide +kernel) (by decide +kernel)
theorem vm_L_180 : Cond.methodLink RL 180 yL_breachesOf ∈ vs_ws := vs_mem 692 (by decide +kernel) (by decide +kernel)
theorem vm_L_182 : Cond.methodLink RL 182 yX3_breachesOf ∈ vs_ws := vs_mem 1465 (by decide +kernel) (by decide +kernel)
theorem vm_L_183 : Cond.methodLink RL 183 yL_pass ∈ vs_ws := vs_mem 699 (by decide +kernel) (by decide +kernel)
theorem vm_L_185 : Cond.methodLink RL 185 yX3_pass ∈ vs_ws := vs_mem 1469 (by decide +kernel) (by decide +kernel)
theorem vm_L_186 : Cond.methodLink RL 186 yX2_clock ∈ vs_ws := vs_mem 300 (by decide +kernel) (by decide +kernel)
theorem vm_L_189 : Cond.methodLink RL 189 yX3_clock ∈ vs_ws := vs_mem 1543 (by decide +kernel) (by decide +kernel)
theorem vm_L_190 : Cond.methodLink RL 190 yL_blocksOf ∈ vs_ws := vs_mem 755 (by decide +kernel) (by decide +kernel)
theorem vm_L_192 : Cond.methodLink RL 192 yX3_blocksOf ∈ vs_ws := vs_mem 1547 (by decide +kernel) (by decide +kernel)
theorem vm_L_193 : Cond.methodLink RL 193 yL_copiesOf ∈ vs_ws := vs_mem 766 (by decide +kernel) (by decide +kernel)
theorem vm_L_195 : Cond.methodLink RL 195 yX3_copiesOf ∈ vs_ws := vs_mem 1551 (by decide +kernel) (by decide +kernel)
theorem vm_L_196 : Cond.methodLink RL 196 yL_copiesByDisks ∈ vs_ws := vs_mem 773 (by decide +kernel) (by decide +kernel)
theorem vm_L_198 : Cond.methodLink RL 198 yX3_copiesByDisks ∈ vs_ws := vs_mem 1555 (by decide +kernel) (by decide +kernel)
theorem vm_L_199 : Cond.methodLink RL 199 yL_diskOfCopy ∈ vs_ws := vs_mem 781 (by decide +kernel) (by decide +kernel)
theorem vm_L_201 : Cond.methodLink RL 201 yX3_diskOfCopy ∈ vs_ws := vs_mem 1559 (by decide +kernel) (by decide +kernel)
theorem vm_L_202 : Cond.methodLink RL 202 yL_valueOf ∈ vs_ws := vs_mem 790 (by decide +kernel) (by decide +kernel)
theorem vm_L_204 : Cond.methodLink RL 204 yX3_valueOf ∈ vs_ws := vs_mem 1563 (by decide +kernel) (by decide +kernel)
theorem vm_L_205 : Cond.methodLink RL 205 yL_isLost ∈ vs_ws := vs_mem 798 (by decide +kernel) (by decide +kernel)
theorem vm_L_207 : Cond.methodLink RL 207 yX3_isLost ∈ vs_ws := vs_mem 1567 (by decide +kernel) (by decide +kernel)
theorem vm_L_208 : Cond.methodLink RL 208 yX2_lostBlocks ∈ vs_ws := vs_mem 304 (by decide +kernel) (by decide +kernel)
theorem vm_L_211 : Cond.methodLink RL 211 yX3_lostBlocks ∈ vs_ws := vs_mem 1571 (by decide +kernel) (by decide +kernel)
theorem vm_L_212 : Cond.methodLink RL 212 yX2_degradedBlocks ∈ vs_ws := vs_mem 324 (by decide +kernel) (by decide +kernel)
theorem vm_L_215 : Cond.methodLink RL 215 yX3_degradedBlocks ∈ vs_ws := vs_mem 1575 (by decide +kernel) (by decide +kernel)
theorem vm_L_216 : Cond.methodLink RL 216 yL_doesBear ∈ vs_ws := vs_mem 806 (by decide +kernel) (by decide +kernel)
theorem vm_L_218 : Cond.methodLink RL 218 yX3_doesBear ∈ vs_ws := vs_mem 1579 (by decide +kernel) (by decide +kernel)
theorem vm_L_219 : Cond.methodLink RL 219 yL_doesBearByTrying ∈ vs_ws := vs_mem 821 (by decide +kernel) (by decide +kernel)
theorem vm_L_221 : Cond.methodLink RL 221 yX3_doesBearByTrying ∈ vs_ws := vs_mem 1583 (by decide +kernel) (by decide +kernel)
theorem vm_L_222 : Cond.methodLink RL 222 yL_fail ∈ vs_ws := vs_mem 836 (by decide +kernel) (by decide +kernel)
theorem vm_L_224 : Cond.methodLink RL 224 yX3_fail ∈ vs_ws := vs_mem 1588 (by decide +kernel) (by decide +kernel)
theorem vm_L_225 : Cond.methodLink RL 225 yL_replace ∈ vs_ws := vs_mem 856 (by decide +kernel) (by decide +kernel)
theorem vm_L_227 : Cond.methodLink RL 227 yX3_replace ∈ vs_ws := vs_mem 1592 (by decide +kernel) (by decide +kernel)
theorem vm_L_228 : Cond.methodLink RL 228 yL_warn ∈ vs_ws := vs_mem 866 (by decide +kernel) (by decide +kernel)
theorem vm_L_230 : Cond.methodLink RL 230 yX3_warn ∈ vs_ws := vs_mem 1600 (by decide +kernel) (by decide +kernel)
theorem vm_L_231 : Cond.methodLink RL 231 yL_rot ∈ vs_ws := vs_mem 874 (by decide +kernel) (by decide +kernel)
theorem vm_L_233 : Cond.methodLink RL 233 yX3_rot ∈ vs_ws := vs_mem 1604 (by decide +kernel) (by decide +kernel)
theorem vm_L_234 : Cond.methodLink RL 234 yL_scrub ∈ vs_ws := vs_mem 883 (by decide +kernel) (by decide +kernel)
theorem vm_L_236 : Cond.methodLink RL 236 yX3_scrub ∈ vs_ws := vs_mem 1608 (by decide +kernel) (by decide +kernel)
theorem vm_L_237 : Cond.methodLink RL 237 yL_rottenOn ∈ vs_ws := vs_mem 894 (by decide +kernel) (by decide +kernel)
theorem vm_L_239 : Cond.methodLink RL 239 yX3_rottenOn ∈ vs_ws := vs_mem 1612 (by decide +kernel) (by decide +kernel)
theorem vm_L_240 : Cond.methodLink RL 240 yX2_rebuilt ∈ vs_ws := vs_mem 336 (by decide +kernel) (by decide +kernel)
theorem vm_L_243 : Cond.methodLink RL 243 yX3_rebuilt ∈ vs_ws := vs_mem 1616 (by decide +kernel) (by decide +kernel)
theorem vm_L_244 : Cond.methodLink RL 244 yX2_openRebuilds ∈ vs_ws := vs_mem 340 (by decide +kernel) (by decide +kernel)
theorem vm_L_247 : Cond.methodLink RL 247 yX3_openRebuilds ∈ vs_ws := vs_mem 1620 (by decide +kernel) (by decide +kernel)
theorem vm_L_248 : Cond.methodLink RL 248 yL_meanCopies ∈ vs_ws := vs_mem 905 (by decide +kernel) (by decide +kernel)
theorem vm_L_251 : Cond.methodLink RL 251 yX3_meanCopies ∈ vs_ws := vs_mem 1624 (by decide +kernel) (by decide +kernel)
theorem vm_L_252 : Cond.methodLink RL 252 yL_usedShare ∈ vs_ws := vs_mem 933 (by decide +kernel) (by decide +kernel)
theorem vm_L_254 : Cond.methodLink RL 254 yX3_usedShare ∈ vs_ws := vs_mem 1628 (by decide +kernel) (by decide +kernel)
theorem vm_L_255 : Cond.methodLink RL 255 yX2_isConsistent ∈ vs_ws := vs_mem 394 (by decide +kernel) (by decide +kernel)
theorem vm_L_259 : Cond.methodLink RL 259 yX3_isConsistent ∈ vs_ws := vs_mem 1632 (by decide +kernel) (by decide +kernel)
theorem vm_L_260 : Cond.methodLink RL 260 yL_writeDisk ∈ vs_ws := vs_mem 945 (by decide +kernel) (by decide +kernel)
theorem vm_L_262 : Cond.methodLink RL 262 yX3_writeDisk ∈ vs_ws := vs_mem 1636 (by decide +kernel) (by decide +kernel)
theorem vm_L_263 : Cond.methodLink RL 263 yL_lineAt ∈ vs_ws := vs_mem 1231 (by decide +kernel) (by decide +kernel)
theorem vm_L_265 : Cond.methodLink RL 265 yX3_lineAt ∈ vs_ws := vs_mem 1646 (by decide +kernel) (by decide +kernel)
theorem vm_X3_102 : Cond.methodLink RX3 102 yX3_isBetween ∈ vs_ws := vs_mem 1366 (by decide +kernel) (by decide +kernel)
theorem vm_X3_112 : Cond.methodLink RX3 112 yX3_usedOf ∈ vs_ws := vs_mem 1393 (by decide +kernel) (by decide +kernel)
theorem vm_X3_116 : Cond.methodLink RX3 116 yX3_has ∈ vs_ws := vs_mem 1497 (by decide +kernel) (by decide +kernel)
theorem vm_X3_120 : Cond.methodLink RX3 120 yX3_goodOf ∈ vs_ws := vs_mem 1489 (by decide +kernel) (by decide +kernel)
theorem vm_X3_123 : Cond.methodLink RX3 123 yX3_fails ∈ vs_ws := vs_mem 1369 (by decide +kernel) (by decide +kernel)
theorem vm_X3_126 : Cond.methodLink RX3 126 yX3_isDisk ∈ vs_ws := vs_mem 1385 (by decide +kernel) (by decide +kernel)
theorem vm_X3_130 : Cond.methodLink RX3 130 yX3_isNoDisk ∈ vs_ws := vs_mem 1381 (by decide +kernel) (by decide +kernel)
theorem vm_X3_133 : Cond.methodLink RX3 133 yX3_isTenant ∈ vs_ws := vs_mem 1417 (by decide +kernel) (by decide +kernel)
theorem vm_X3_136 : Cond.methodLink RX3 136 yX3_waitingMany ∈ vs_ws := vs_mem 1425 (by decide +kernel) (by decide +kernel)
theorem vm_X3_139 : Cond.methodLink RX3 139 yX3_isNone ∈ vs_ws := vs_mem 1413 (by decide +kernel) (by decide +kernel)
theorem vm_X3_142 : Cond.methodLink RX3 142 yX3_asks ∈ vs_ws := vs_mem 1421 (by decide +kernel) (by decide +kernel)
theorem vm_X3_146 : Cond.methodLink RX3 146 yX3_isRequest ∈ vs_ws := vs_mem 1441 (by decide +kernel) (by decide +kernel)
theorem vm_X3_149 : Cond.methodLink RX3 149 yX3_isNoRequest ∈ vs_ws := vs_mem 1437 (by decide +kernel) (by decide +kernel)
theorem vm_X3_152 : Cond.methodLink RX3 152 yX3_isNobody ∈ vs_ws := vs_mem 1453 (by decide +kernel) (by decide +kernel)
theorem vm_X3_155 : Cond.methodLink RX3 155 yX3_keepsAll ∈ vs_ws := vs_mem 1533 (by decide +kernel) (by decide +kernel)
theorem vm_X3_158 : Cond.methodLink RX3 158 yX3_takes ∈ vs_ws := vs_mem 1509 (by decide +kernel) (by decide +kernel)
theorem vm_X3_162 : Cond.methodLink RX3 162 yX3_place ∈ vs_ws := vs_mem 1493 (by decide +kernel) (by decide +kernel)
theorem vm_X3_165 : Cond.methodLink RX3 165 yX3_laysBack ∈ vs_ws := vs_mem 1537 (by decide +kernel) (by decide +kernel)
theorem vm_X3_168 : Cond.methodLink RX3 168 yX3_puts ∈ vs_ws := vs_mem 1501 (by decide +kernel) (by decide +kernel)
theorem vm_X3_174 : Cond.methodLink RX3 174 yX3_lost ∈ vs_ws := vs_mem 1485 (by decide +kernel) (by decide +kernel)
theorem vm_X3_177 : Cond.methodLink RX3 177 yX3_putsAnew ∈ vs_ws := vs_mem 1529 (by decide +kernel) (by decide +kernel)
theorem vm_X3_180 : Cond.methodLink RX3 180 yX3_writes ∈ vs_ws := vs_mem 1525 (by decide +kernel) (by decide +kernel)
theorem vm_X3_183 : Cond.methodLink RX3 183 yX3_oldestOf ∈ vs_ws := vs_mem 1517 (by decide +kernel) (by decide +kernel)
theorem vm_X3_186 : Cond.methodLink RX3 186 yX3_serves ∈ vs_ws := vs_mem 1521 (by decide +kernel) (by decide +kernel)
theorem vm_X3_190 : Cond.methodLink RX3 190 yX3_degraded ∈ vs_ws := vs_mem 1481 (by decide +kernel) (by decide +kernel)
theorem vm_X3_193 : Cond.methodLink RX3 193 yX3_moves ∈ vs_ws := vs_mem 1505 (by decide +kernel) (by decide +kernel)
theorem vm_X3_197 : Cond.methodLink RX3 197 yX3_rebuilds ∈ vs_ws := vs_mem 1477 (by decide +kernel) (by decide +kernel)
theorem vm_X3_203 : Cond.methodLink RX3 203 yX3_servesAll ∈ vs_ws := vs_mem 1513 (by decide +kernel) (by decide +kernel)
theorem vm_X3_217 : Cond.methodLink RX3 217 yX3_ticks ∈ vs_ws := vs_mem 1473 (by decide +kernel) (by decide +kernel)
theorem vm_X3_220 : Cond.methodLink RX3 220 yX3_doesBear ∈ vs_ws := vs_mem 1587 (by decide +kernel) (by decide +kernel)
theorem vm_X3_223 : Cond.methodLink RX3 223 yX3_sound ∈ vs_ws := vs_mem 1596 (by decide +kernel) (by decide +kernel)
theorem vm_X3_229 : Cond.methodLink RX3 229 yJ4_init_da8c8 ∈ vs_ws := vs_mem 1641 (by decide +kernel) (by decide +kernel)
theorem vm_X3_230 : Cond.methodLink RX3 230 yJ4_append_cf468 ∈ vs_ws := vs_mem 1642 (by decide +kernel) (by decide +kernel)
theorem vm_X3_234 : Cond.methodLink RX3 234 yJ4_append_bf812 ∈ vs_ws := vs_mem 1643 (by decide +kernel) (by decide +kernel)
theorem vm_X3_237 : Cond.methodLink RX3 237 yJ4_toString_0e30d ∈ vs_ws := vs_mem 1644 (by decide +kernel) (by decide +kernel)
theorem vm_X3_241 : Cond.methodLink RX3 241 yJ0_length_8abf5 ∈ vs_ws := vs_mem 1645 (by decide +kernel) (by decide +kernel)
theorem vm_X3_246 : Cond.methodLink RX3 246 yJ0_charAt_5068e ∈ vs_ws := vs_mem 1650 (by decide +kernel) (by decide +kernel)
theorem vc_X2_240 : Cond.constant RX2 240 (1000000) ∈ vs_ws := vs_mem 351 (by decide +kernel) (by decide +kernel)
theorem vc_J5_39 : Cond.constant RJ5 39 (2147483647) ∈ vs_ws := vs_mem 994 (by decide +kernel) (by decide +kernel)
theorem vc_J6_265 : Cond.constant RJ6 265 (1431655765) ∈ vs_ws := vs_mem 413 (by decide +kernel) (by decide +kernel)
theorem vc_J6_266 : Cond.constant RJ6 266 (858993459) ∈ vs_ws := vs_mem 414 (by decide +kernel) (by decide +kernel)
theorem vc_J6_267 : Cond.constant RJ6 267 (252645135) ∈ vs_ws := vs_mem 415 (by decide +kernel) (by decide +kernel)
theorem vc_J2_20 : Cond.constant RJ2 20 (1073741823) ∈ vs_ws := vs_mem 254 (by decide +kernel) (by decide +kernel)
theorem vc_J8_200 : Cond.constant RJ8 200 (2147483639) ∈ vs_ws := vs_mem 990 (by decide +kernel) (by decide +kernel)
theorem vk_X2_diskCount : vs_lk yX2_diskCount cX2_diskCount 1 (some .int) 0 := ⟨⟨vs_mem 293 (by decide +kernel) (by decide +kernel), vs_mem 294 (by decide +kernel) (by decide +kernel)⟩, vs_mem 82 (by decide +kernel) (by decide +kernel), vs_mem 295 (by decide +kernel) (by decide +kernel), by decide +kernel, by decide +kernel, by decide +kernel⟩
theorem vk_X2_tenantCount : vs_lk yX2_tenantCount cX2_tenantCount 1 (some .int) 0 := ⟨⟨vs_mem 297 (by decide +kernel) (by decide +kernel), vs_mem 298 (by decide +kernel) (by decide +kernel)⟩, vs_mem 82 (by decide +kernel) (by decide +kernel), vs_mem 299 (by decide +kernel) (by decide +kernel), by decide +kernel, by decide +kernel, by decide +kernel⟩
theorem vk_X2_clock : vs_lk yX2_clock cX2_clock 1 (some .int) 0 := ⟨⟨vs_mem 301 (by decide +kernel) (by decide +kernel), vs_mem 302 (by decide +kernel) (by decide +kernel)⟩, vs_mem 82 (by decide +kernel) (by decide +kernel), vs_mem 303 (by decide +kernel) (by decide +kernel), by decide +kernel, by decide +kernel, by decide +kernel⟩
theorem vk_X2_lostBlocks : vs_lk yX2_lostBlocks cX2_lostBlocks 1 (some .int) 0 := ⟨⟨vs_mem 305 (by decide +kernel) (by decide +kernel), vs_mem 306 (by decide +kernel) (by decide +kernel)⟩, vs_mem 82 (by decide +kernel) (by decide +kernel), vs_mem 307 (by decide +kernel) (by decide +kernel), by decide +kernel, by decide +kernel, by decide +kernel⟩
theorem vk_X1_countLost : vs_lk yX1_countLost cX1_countLost 3 (some .int) 0 := ⟨⟨vs_mem 310 (by decide +kernel) (by decide +kernel), vs_mem 0 (by decide +kernel) (by decide +kernel)⟩, vs_mem 83 (by decide +kernel) (by decide +kernel), vs_mem 311 (by decide +kernel) (by decide +kernel), by decide +kernel, by decide +kernel, by decide +kernel⟩
theorem vk_X1_hasLost : vs_lk yX1_hasLost cX1_hasLost 2 (some .boolean) 1 := ⟨⟨vs_mem 314 (by decide +kernel) (by decide +kernel), vs_mem 1 (by decide +kernel) (by decide +kernel)⟩, vs_mem 83 (by decide +kernel) (by decide +kernel), vs_mem 315 (by decide +kernel) (by decide +kernel), by decide +kernel, by decide +kernel, by decide +kernel⟩
theorem vk_X1_disksWithGoodCopy : vs_lk yX1_disksWithGoodCopy cX1_disksWithGoodCopy 5 (some .int) 1 := ⟨⟨vs_mem 318 (by decide +kernel) (by decide +kernel), vs_mem 2 (by decide +kernel) (by decide +kernel)⟩, vs_mem 83 (by decide +kernel) (by decide +kernel), vs_mem 319 (by decide +kernel) (by decide +kernel), by decide +kernel, by decide +kernel, by decide +kernel⟩
theorem vk_X1_addressOf : vs_lk yX1_addressOf cX1_addressOf 3 (some .int) 2 := ⟨⟨vs_mem 322 (by decide +kernel) (by decide +kernel), vs_mem 3 (by decide +kernel) (by decide +kernel)⟩, vs_mem 83 (by decide +kernel) (by decide +kernel), vs_mem 323 (by decide +kernel) (by decide +kernel), by decide +kernel, by decide +kernel, by decide +kernel⟩
theorem vk_X2_degradedBlocks : vs_lk yX2_degradedBlocks cX2_degradedBlocks 1 (some .int) 0 := ⟨⟨vs_mem 325 (by decide +kernel) (by decide +kernel), vs_mem 326 (by decide +kernel) (by decide +kernel)⟩, vs_mem 82 (by decide +kernel) (by decide +kernel), vs_mem 327 (by decide +kernel) (by decide +kernel), by decide +kernel, by decide +kernel, by decide +kernel⟩
theorem vk_X1_countDegraded : vs_lk yX1_countDegraded cX1_countDegraded 3 (some .int) 0 := ⟨⟨vs_mem 330 (by decide +kernel) (by decide +kernel), vs_mem 4 (by decide +kernel) (by decide +kernel)⟩, vs_mem 83 (by decide +kernel) (by decide +kernel), vs_mem 331 (by decide +kernel) (by decide +kernel), by decide +kernel, by decide +kernel, by decide +kernel⟩
theorem vk_X1_wantedOf : vs_lk yX1_wantedOf cX1_wantedOf 2 (some .int) 1 := ⟨⟨vs_mem 334 (by decide +kernel) (by decide +kernel), vs_mem 5 (by decide +kernel) (by decide +kernel)⟩, vs_mem 83 (by decide +kernel) (by decide +kernel), vs_mem 335 (by decide +kernel) (by decide +kernel), by decide +kernel, by decide +kernel, by decide +kernel⟩
theorem vk_X2_rebuilt : vs_lk yX2_rebuilt cX2_rebuilt 1 (some .int) 0 := ⟨⟨vs_mem 337 (by decide +kernel) (by decide +kernel), vs_mem 338 (by decide +kernel) (by decide +kernel)⟩, vs_mem 82 (by decide +kernel) (by decide +kernel), vs_mem 339 (by decide +kernel) (by decide +kernel), by decide +kernel, by decide +kernel, by decide +kernel⟩
theorem vk_X2_openRebuilds : vs_lk yX2_openRebuilds cX2_openRebuilds 1 (some .int) 0 := ⟨⟨vs_mem 341 (by decide +kernel) (by decide +kernel), vs_mem 342 (by decide +kernel) (by decide +kernel)⟩, vs_mem 82 (by decide +kernel) (by decide +kernel), vs_mem 343 (by decide +kernel) (by decide +kernel), by decide +kernel, by decide +kernel, by decide +kernel⟩
theorem vk_X1_copyFrom : vs_lk yX1_copyFrom cX1_copyFrom 3 none 1 := ⟨⟨vs_mem 346 (by decide +kernel) (by decide +kernel), vs_mem 6 (by decide +kernel) (by decide +kernel)⟩, vs_mem 83 (by decide +kernel) (by decide +kernel), vs_mem 347 (by decide +kernel) (by decide +kernel), by decide +kernel, by decide +kernel, by decide +kernel⟩
theorem vk_X1_rebuild : vs_lk yX1_rebuild cX1_rebuild 4 (some .int) 1 := ⟨⟨vs_mem 354 (by decide +kernel) (by decide +kernel), vs_mem 7 (by decide +kernel) (by decide +kernel)⟩, vs_mem 83 (by decide +kernel) (by decide +kernel), vs_mem 355 (by decide +kernel) (by decide +kernel), by decide +kernel, by decide +kernel, by decide +kernel⟩
theorem vk_X1_completeBlock : vs_lk yX1_completeBlock cX1_completeBlock 6 (some .int) 2 := ⟨⟨vs_mem 358 (by decide +kernel) (by decide +kernel), vs_mem 8 (by decide +kernel) (by decide +kernel)⟩, vs_mem 83 (by decide +kernel) (by decide +kernel), vs_mem 359 (by decide +kernel) (by decide +kernel), by decide +kernel, by decide +kernel, by decide +kernel⟩
theorem vk_X1_disksWithCopy : vs_lk yX1_disksWithCopy cX1_disksWithCopy 4 (some .int) 1 := ⟨⟨vs_mem 365 (by decide +kernel) (by decide +kernel), vs_mem 9 (by decide +kernel) (by decide +kernel)⟩, vs_mem 83 (by decide +kernel) (by decide +kernel), vs_mem 366 (by decide +kernel) (by decide +kernel), by decide +kernel, by decide +kernel, by decide +kernel⟩
theorem vk_X1_findPlace : vs_lk yX1_findPlace cX1_findPlace 6 (some .int) 1 := ⟨⟨vs_mem 369 (by decide +kernel) (by decide +kernel), vs_mem 10 (by decide +kernel) (by decide +kernel)⟩, vs_mem 83 (by decide +kernel) (by decide +kernel), vs_mem 370 (by decide +kernel) (by decide +kernel), by decide +kernel, by decide +kernel, by decide +kernel⟩
theorem vk_X1_freeOn : vs_lk yX1_freeOn cX1_freeOn 2 (some .int) 1 := ⟨⟨vs_mem 373 (by decide +kernel) (by decide +kernel), vs_mem 11 (by decide +kernel) (by decide +kernel)⟩, vs_mem 83 (by decide +kernel) (by decide +kernel), vs_mem 374 (by decide +kernel) (by decide +kernel), by decide +kernel, by decide +kernel, by decide +kernel⟩
theorem vk_X1_firstFreeOn : vs_lk yX1_firstFreeOn cX1_firstFreeOn 4 (some .int) 1 := ⟨⟨vs_mem 377 (by decide +kernel) (by decide +kernel), vs_mem 12 (by decide +kernel) (by decide +kernel)⟩, vs_mem 83 (by decide +kernel) (by decide +kernel), vs_mem 378 (by decide +kernel) (by decide +kernel), by decide +kernel, by decide +kernel, by decide +kernel⟩
theorem vk_X1_addCopy : vs_lk yX1_addCopy cX1_addCopy 3 none 2 := ⟨⟨vs_mem 381 (by decide +kernel) (by decide +kernel), vs_mem 13 (by decide +kernel) (by decide +kernel)⟩, vs_mem 83 (by decide +kernel) (by decide +kernel), vs_mem 382 (by decide +kernel) (by decide +kernel), by decide +kernel, by decide +kernel, by decide +kernel⟩
theorem vk_X1_emptyWarnedDisks : vs_lk yX1_emptyWarnedDisks cX1_emptyWarnedDisks 9 (some .int) 2 := ⟨⟨vs_mem 388 (by decide +kernel) (by decide +kernel), vs_mem 14 (by decide +kernel) (by decide +kernel)⟩, vs_mem 83 (by decide +kernel) (by decide +kernel), vs_mem 389 (by decide +kernel) (by decide +kernel), by decide +kernel, by decide +kernel, by decide +kernel⟩
theorem vk_X1_removeCopy : vs_lk yX1_removeCopy cX1_removeCopy 6 none 2 := ⟨⟨vs_mem 392 (by decide +kernel) (by decide +kernel), vs_mem 15 (by decide +kernel) (by decide +kernel)⟩, vs_mem 83 (by decide +kernel) (by decide +kernel), vs_mem 393 (by decide +kernel) (by decide +kernel), by decide +kernel, by decide +kernel, by decide +kernel⟩
theorem vk_X2_isConsistent : vs_lk yX2_isConsistent cX2_isConsistent 1 (some .boolean) 0 := ⟨⟨vs_mem 395 (by decide +kernel) (by decide +kernel), vs_mem 396 (by decide +kernel) (by decide +kernel)⟩, vs_mem 82 (by decide +kernel) (by decide +kernel), vs_mem 397 (by decide +kernel) (by decide +kernel), by decide +kernel, by decide +kernel, by decide +kernel⟩
theorem vk_X1_agreesWithDisks : vs_lk yX1_agreesWithDisks cX1_agreesWithDisks 6 (some .boolean) 0 := ⟨⟨vs_mem 400 (by decide +kernel) (by decide +kernel), vs_mem 16 (by decide +kernel) (by decide +kernel)⟩, vs_mem 83 (by decide +kernel) (by decide +kernel), vs_mem 401 (by decide +kernel) (by decide +kernel), by decide +kernel, by decide +kernel, by decide +kernel⟩
theorem vk_X1_disksInState : vs_lk yX1_disksInState cX1_disksInState 4 (some .int) 1 := ⟨⟨vs_mem 404 (by decide +kernel) (by decide +kernel), vs_mem 17 (by decide +kernel) (by decide +kernel)⟩, vs_mem 83 (by decide +kernel) (by decide +kernel), vs_mem 405 (by decide +kernel) (by decide +kernel), by decide +kernel, by decide +kernel, by decide +kernel⟩
theorem vk_X1_countInSlots : vs_lk yX1_countInSlots cX1_countInSlots 4 (some .int) 1 := ⟨⟨vs_mem 408 (by decide +kernel) (by decide +kernel), vs_mem 18 (by decide +kernel) (by decide +kernel)⟩, vs_mem 83 (by decide +kernel) (by decide +kernel), vs_mem 409 (by decide +kernel) (by decide +kernel), by decide +kernel, by decide +kernel, by decide +kernel⟩
theorem vk_J6_bitCount_0f7a4 : vs_lkS yJ6_bitCount_0f7a4 cJ6_bitCount_0f7a4 1 (some .int) 1 := ⟨vs_mem 411 (by decide +kernel) (by decide +kernel), vs_mem 101 (by decide +kernel) (by decide +kernel), vs_mem 412 (by decide +kernel) (by decide +kernel), by decide +kernel, by decide +kernel, by decide +kernel⟩
theorem vk_X2_addDisk : vs_lk yX2_addDisk cX2_addDisk 2 (some .int) 1 := ⟨⟨vs_mem 422 (by decide +kernel) (by decide +kernel), vs_mem 423 (by decide +kernel) (by decide +kernel)⟩, vs_mem 82 (by decide +kernel) (by decide +kernel), vs_mem 424 (by decide +kernel) (by decide +kernel), by decide +kernel, by decide +kernel, by decide +kernel⟩
theorem vk_X1_installDisk : vs_lk yX1_installDisk cX1_installDisk 2 (some .int) 1 := ⟨⟨vs_mem 514 (by decide +kernel) (by decide +kernel), vs_mem 20 (by decide +kernel) (by decide +kernel)⟩, vs_mem 83 (by decide +kernel) (by decide +kernel), vs_mem 515 (by decide +kernel) (by decide +kernel), by decide +kernel, by decide +kernel, by decide +kernel⟩
theorem vk_X2_diskState : vs_lk yX2_diskState cX2_diskState 2 (some .char) 1 := ⟨⟨vs_mem 544 (by decide +kernel) (by decide +kernel), vs_mem 545 (by decide +kernel) (by decide +kernel)⟩, vs_mem 82 (by decide +kernel) (by decide +kernel), vs_mem 546 (by decide +kernel) (by decide +kernel), by decide +kernel, by decide +kernel, by decide +kernel⟩
theorem vk_X2_checkDisk : vs_lk yX2_checkDisk cX2_checkDisk 2 none 1 := ⟨⟨vs_mem 549 (by decide +kernel) (by decide +kernel), vs_mem 21 (by decide +kernel) (by decide +kernel)⟩, vs_mem 82 (by decide +kernel) (by decide +kernel), vs_mem 550 (by decide +kernel) (by decide +kernel), by decide +kernel, by decide +kernel, by decide +kernel⟩
theorem vk_X2_usedOn : vs_lk yX2_usedOn cX2_usedOn 2 (some .int) 1 := ⟨⟨vs_mem 568 (by decide +kernel) (by decide +kernel), vs_mem 569 (by decide +kernel) (by decide +kernel)⟩, vs_mem 82 (by decide +kernel) (by decide +kernel), vs_mem 570 (by decide +kernel) (by decide +kernel), by decide +kernel, by decide +kernel, by decide +kernel⟩
theorem vk_X2_addTenant : vs_lk yX2_addTenant cX2_addTenant 4 (some .int) 2 := ⟨⟨vs_mem 575 (by decide +kernel) (by decide +kernel), vs_mem 576 (by decide +kernel) (by decide +kernel)⟩, vs_mem 82 (by decide +kernel) (by decide +kernel), vs_mem 577 (by decide +kernel) (by decide +kernel), by decide +kernel, by decide +kernel, by decide +kernel⟩
theorem vk_X0_admitTenant : vs_lk yX0_admitTenant cX0_admitTenant 2 (some .int) 1 := ⟨⟨vs_mem 583 (by decide +kernel) (by decide +kernel), vs_mem 22 (by decide +kernel) (by decide +kernel)⟩, vs_mem 85 (by decide +kernel) (by decide +kernel), vs_mem 584 (by decide +kernel) (by decide +kernel), by decide +kernel, by decide +kernel, by decide +kernel⟩
theorem vk_X2_setHurry : vs_lk yX2_setHurry cX2_setHurry 3 (some .int) 1 := ⟨⟨vs_mem 589 (by decide +kernel) (by decide +kernel), vs_mem 590 (by decide +kernel) (by decide +kernel)⟩, vs_mem 82 (by decide +kernel) (by decide +kernel), vs_mem 591 (by decide +kernel) (by decide +kernel), by decide +kernel, by decide +kernel, by decide +kernel⟩
theorem vk_X2_read : vs_lk yX2_read cX2_read 3 (some .int) 2 := ⟨⟨vs_mem 597 (by decide +kernel) (by decide +kernel), vs_mem 598 (by decide +kernel) (by decide +kernel)⟩, vs_mem 82 (by decide +kernel) (by decide +kernel), vs_mem 599 (by decide +kernel) (by decide +kernel), by decide +kernel, by decide +kernel, by decide +kernel⟩
theorem vk_X2_checkBlock : vs_lk yX2_checkBlock cX2_checkBlock 3 none 2 := ⟨⟨vs_mem 602 (by decide +kernel) (by decide +kernel), vs_mem 23 (by decide +kernel) (by decide +kernel)⟩, vs_mem 82 (by decide +kernel) (by decide +kernel), vs_mem 603 (by decide +kernel) (by decide +kernel), by decide +kernel, by decide +kernel, by decide +kernel⟩
theorem vk_X2_checkTenant : vs_lk yX2_checkTenant cX2_checkTenant 2 none 1 := ⟨⟨vs_mem 606 (by decide +kernel) (by decide +kernel), vs_mem 24 (by decide +kernel) (by decide +kernel)⟩, vs_mem 82 (by decide +kernel) (by decide +kernel), vs_mem 607 (by decide +kernel) (by decide +kernel), by decide +kernel, by decide +kernel, by decide +kernel⟩
theorem vk_X2_checkRoomForRequest : vs_lk yX2_checkRoomForRequest cX2_checkRoomForRequest 1 none 0 := ⟨⟨vs_mem 612 (by decide +kernel) (by decide +kernel), vs_mem 25 (by decide +kernel) (by decide +kernel)⟩, vs_mem 82 (by decide +kernel) (by decide +kernel), vs_mem 613 (by decide +kernel) (by decide +kernel), by decide +kernel, by decide +kernel, by decide +kernel⟩
theorem vk_X2_blockId : vs_lkS yX2_blockId cX2_blockId 2 (some .int) 2 := ⟨vs_mem 617 (by decide +kernel) (by decide +kernel), vs_mem 82 (by decide +kernel) (by decide +kernel), vs_mem 618 (by decide +kernel) (by decide +kernel), by decide +kernel, by decide +kernel, by decide +kernel⟩
theorem vk_X0_enqueue : vs_lk yX0_enqueue cX0_enqueue 6 (some .int) 4 := ⟨⟨vs_mem 621 (by decide +kernel) (by decide +kernel), vs_mem 26 (by decide +kernel) (by decide +kernel)⟩, vs_mem 85 (by decide +kernel) (by decide +kernel), vs_mem 622 (by decide +kernel) (by decide +kernel), by decide +kernel, by decide +kernel, by decide +kernel⟩
theorem vk_X2_write : vs_lk yX2_write cX2_write 4 (some .int) 3 := ⟨⟨vs_mem 627 (by decide +kernel) (by decide +kernel), vs_mem 628 (by decide +kernel) (by decide +kernel)⟩, vs_mem 82 (by decide +kernel) (by decide +kernel), vs_mem 629 (by decide +kernel) (by decide +kernel), by decide +kernel, by decide +kernel, by decide +kernel⟩
theorem vk_X2_stateOf : vs_lk yX2_stateOf cX2_stateOf 2 (some .char) 1 := ⟨⟨vs_mem 635 (by decide +kernel) (by decide +kernel), vs_mem 636 (by decide +kernel) (by decide +kernel)⟩, vs_mem 82 (by decide +kernel) (by decide +kernel), vs_mem 637 (by decide +kernel) (by decide +kernel), by decide +kernel, by decide +kernel, by decide +kernel⟩
theorem vk_X2_checkRequest : vs_lk yX2_checkRequest cX2_checkRequest 2 none 1 := ⟨⟨vs_mem 640 (by decide +kernel) (by decide +kernel), vs_mem 27 (by decide +kernel) (by decide +kernel)⟩, vs_mem 82 (by decide +kernel) (by decide +kernel), vs_mem 641 (by decide +kernel) (by decide +kernel), by decide +kernel, by decide +kernel, by decide +kernel⟩
theorem vk_X2_answerTo : vs_lk yX2_answerTo cX2_answerTo 2 (some .int) 1 := ⟨⟨vs_mem 648 (by decide +kernel) (by decide +kernel), vs_mem 649 (by decide +kernel) (by decide +kernel)⟩, vs_mem 82 (by decide +kernel) (by decide +kernel), vs_mem 650 (by decide +kernel) (by decide +kernel), by decide +kernel, by decide +kernel, by decide +kernel⟩
theorem vk_X2_waitingOf : vs_lk yX2_waitingOf cX2_waitingOf 2 (some .int) 1 := ⟨⟨vs_mem 671 (by decide +kernel) (by decide +kernel), vs_mem 672 (by decide +kernel) (by decide +kernel)⟩, vs_mem 82 (by decide +kernel) (by decide +kernel), vs_mem 673 (by decide +kernel) (by decide +kernel), by decide +kernel, by decide +kernel, by decide +kernel⟩
theorem vk_X0_countWaiting : vs_lk yX0_countWaiting cX0_countWaiting 2 (some .int) 1 := ⟨⟨vs_mem 676 (by decide +kernel) (by decide +kernel), vs_mem 28 (by decide +kernel) (by decide +kernel)⟩, vs_mem 85 (by decide +kernel) (by decide +kernel), vs_mem 677 (by decide +kernel) (by decide +kernel), by decide +kernel, by decide +kernel, by decide +kernel⟩
theorem vk_X2_servedOf : vs_lk yX2_servedOf cX2_servedOf 2 (some .int) 1 := ⟨⟨vs_mem 682 (by decide +kernel) (by decide +kernel), vs_mem 683 (by decide +kernel) (by decide +kernel)⟩, vs_mem 82 (by decide +kernel) (by decide +kernel), vs_mem 684 (by decide +kernel) (by decide +kernel), by decide +kernel, by decide +kernel, by decide +kernel⟩
theorem vk_X2_creditsOf : vs_lk yX2_creditsOf cX2_creditsOf 2 (some .int) 1 := ⟨⟨vs_mem 689 (by decide +kernel) (by decide +kernel), vs_mem 690 (by decide +kernel) (by decide +kernel)⟩, vs_mem 82 (by decide +kernel) (by decide +kernel), vs_mem 691 (by decide +kernel) (by decide +kernel), by decide +kernel, by decide +kernel, by decide +kernel⟩
theorem vk_X2_breachesOf : vs_lk yX2_breachesOf cX2_breachesOf 2 (some .int) 1 := ⟨⟨vs_mem 696 (by decide +kernel) (by decide +kernel), vs_mem 697 (by decide +kernel) (by decide +kernel)⟩, vs_mem 82 (by decide +kernel) (by decide +kernel), vs_mem 698 (by decide +kernel) (by decide +kernel), by decide +kernel, by decide +kernel, by decide +kernel⟩
theorem vk_X2_pass : vs_lk yX2_pass cX2_pass 4 (some .int) 1 := ⟨⟨vs_mem 703 (by decide +kernel) (by decide +kernel), vs_mem 704 (by decide +kernel) (by decide +kernel)⟩, vs_mem 82 (by decide +kernel) (by decide +kernel), vs_mem 705 (by decide +kernel) (by decide +kernel), by decide +kernel, by decide +kernel, by decide +kernel⟩
theorem vk_X0_beginTick : vs_lk yX0_beginTick cX0_beginTick 2 none 0 := ⟨⟨vs_mem 710 (by decide +kernel) (by decide +kernel), vs_mem 29 (by decide +kernel) (by decide +kernel)⟩, vs_mem 85 (by decide +kernel) (by decide +kernel), vs_mem 711 (by decide +kernel) (by decide +kernel), by decide +kernel, by decide +kernel, by decide +kernel⟩
theorem vk_X2_serveRounds : vs_lk yX2_serveRounds cX2_serveRounds 6 none 1 := ⟨⟨vs_mem 716 (by decide +kernel) (by decide +kernel), vs_mem 30 (by decide +kernel) (by decide +kernel)⟩, vs_mem 82 (by decide +kernel) (by decide +kernel), vs_mem 717 (by decide +kernel) (by decide +kernel), by decide +kernel, by decide +kernel, by decide +kernel⟩
theorem vk_X2_serveOldest : vs_lk yX2_serveOldest cX2_serveOldest 6 (some .int) 2 := ⟨⟨vs_mem 720 (by decide +kernel) (by decide +kernel), vs_mem 31 (by decide +kernel) (by decide +kernel)⟩, vs_mem 82 (by decide +kernel) (by decide +kernel), vs_mem 721 (by decide +kernel) (by decide +kernel), by decide +kernel, by decide +kernel, by decide +kernel⟩
theorem vk_X0_oldestWaiting : vs_lk yX0_oldestWaiting cX0_oldestWaiting 2 (some .int) 1 := ⟨⟨vs_mem 724 (by decide +kernel) (by decide +kernel), vs_mem 32 (by decide +kernel) (by decide +kernel)⟩, vs_mem 85 (by decide +kernel) (by decide +kernel), vs_mem 725 (by decide +kernel) (by decide +kernel), by decide +kernel, by decide +kernel, by decide +kernel⟩
theorem vk_X1_putValue : vs_lk yX1_putValue cX1_putValue 3 (some .boolean) 2 := ⟨⟨vs_mem 728 (by decide +kernel) (by decide +kernel), vs_mem 33 (by decide +kernel) (by decide +kernel)⟩, vs_mem 83 (by decide +kernel) (by decide +kernel), vs_mem 729 (by decide +kernel) (by decide +kernel), by decide +kernel, by decide +kernel, by decide +kernel⟩
theorem vk_X1_renewCopies : vs_lk yX1_renewCopies cX1_renewCopies 3 none 1 := ⟨⟨vs_mem 732 (by decide +kernel) (by decide +kernel), vs_mem 34 (by decide +kernel) (by decide +kernel)⟩, vs_mem 83 (by decide +kernel) (by decide +kernel), vs_mem 733 (by decide +kernel) (by decide +kernel), by decide +kernel, by decide +kernel, by decide +kernel⟩
theorem vk_X1_countPlacesAnew : vs_lk yX1_countPlacesAnew cX1_countPlacesAnew 6 (some .int) 1 := ⟨⟨vs_mem 736 (by decide +kernel) (by decide +kernel), vs_mem 35 (by decide +kernel) (by decide +kernel)⟩, vs_mem 83 (by decide +kernel) (by decide +kernel), vs_mem 737 (by decide +kernel) (by decide +kernel), by decide +kernel, by decide +kernel, by decide +kernel⟩
theorem vk_X1_removeCopies : vs_lk yX1_removeCopies cX1_removeCopies 3 none 1 := ⟨⟨vs_mem 740 (by decide +kernel) (by decide +kernel), vs_mem 36 (by decide +kernel) (by decide +kernel)⟩, vs_mem 83 (by decide +kernel) (by decide +kernel), vs_mem 741 (by decide +kernel) (by decide +kernel), by decide +kernel, by decide +kernel, by decide +kernel⟩
theorem vk_X2_serveRead : vs_lk yX2_serveRead cX2_serveRead 3 (some .boolean) 1 := ⟨⟨vs_mem 744 (by decide +kernel) (by decide +kernel), vs_mem 37 (by decide +kernel) (by decide +kernel)⟩, vs_mem 82 (by decide +kernel) (by decide +kernel), vs_mem 745 (by decide +kernel) (by decide +kernel), by decide +kernel, by decide +kernel, by decide +kernel⟩
theorem vk_X0_markServed : vs_lk yX0_markServed cX0_markServed 4 none 3 := ⟨⟨vs_mem 749 (by decide +kernel) (by decide +kernel), vs_mem 38 (by decide +kernel) (by decide +kernel)⟩, vs_mem 85 (by decide +kernel) (by decide +kernel), vs_mem 750 (by decide +kernel) (by decide +kernel), by decide +kernel, by decide +kernel, by decide +kernel⟩
theorem vk_X0_giveCredits : vs_lk yX0_giveCredits cX0_giveCredits 3 none 0 := ⟨⟨vs_mem 753 (by decide +kernel) (by decide +kernel), vs_mem 39 (by decide +kernel) (by decide +kernel)⟩, vs_mem 85 (by decide +kernel) (by decide +kernel), vs_mem 754 (by decide +kernel) (by decide +kernel), by decide +kernel, by decide +kernel, by decide +kernel⟩
theorem vk_X2_blocksOf : vs_lk yX2_blocksOf cX2_blocksOf 2 (some .int) 1 := ⟨⟨vs_mem 759 (by decide +kernel) (by decide +kernel), vs_mem 760 (by decide +kernel) (by decide +kernel)⟩, vs_mem 82 (by decide +kernel) (by decide +kernel), vs_mem 761 (by decide +kernel) (by decide +kernel), by decide +kernel, by decide +kernel, by decide +kernel⟩
theorem vk_X1_countWritten : vs_lk yX1_countWritten cX1_countWritten 4 (some .int) 1 := ⟨⟨vs_mem 764 (by decide +kernel) (by decide +kernel), vs_mem 40 (by decide +kernel) (by decide +kernel)⟩, vs_mem 83 (by decide +kernel) (by decide +kernel), vs_mem 765 (by decide +kernel) (by decide +kernel), by decide +kernel, by decide +kernel, by decide +kernel⟩
theorem vk_X2_copiesOf : vs_lk yX2_copiesOf cX2_copiesOf 3 (some .int) 2 := ⟨⟨vs_mem 770 (by decide +kernel) (by decide +kernel), vs_mem 771 (by decide +kernel) (by decide +kernel)⟩, vs_mem 82 (by decide +kernel) (by decide +kernel), vs_mem 772 (by decide +kernel) (by decide +kernel), by decide +kernel, by decide +kernel, by decide +kernel⟩
theorem vk_X2_copiesByDisks : vs_lk yX2_copiesByDisks cX2_copiesByDisks 3 (some .int) 2 := ⟨⟨vs_mem 777 (by decide +kernel) (by decide +kernel), vs_mem 778 (by decide +kernel) (by decide +kernel)⟩, vs_mem 82 (by decide +kernel) (by decide +kernel), vs_mem 779 (by decide +kernel) (by decide +kernel), by decide +kernel, by decide +kernel, by decide +kernel⟩
theorem vk_X2_diskOfCopy : vs_lk yX2_diskOfCopy cX2_diskOfCopy 5 (some .int) 3 := ⟨⟨vs_mem 785 (by decide +kernel) (by decide +kernel), vs_mem 786 (by decide +kernel) (by decide +kernel)⟩, vs_mem 82 (by decide +kernel) (by decide +kernel), vs_mem 787 (by decide +kernel) (by decide +kernel), by decide +kernel, by decide +kernel, by decide +kernel⟩
theorem vk_X2_valueOf : vs_lk yX2_valueOf cX2_valueOf 4 (some .int) 2 := ⟨⟨vs_mem 794 (by decide +kernel) (by decide +kernel), vs_mem 795 (by decide +kernel) (by decide +kernel)⟩, vs_mem 82 (by decide +kernel) (by decide +kernel), vs_mem 796 (by decide +kernel) (by decide +kernel), by decide +kernel, by decide +kernel, by decide +kernel⟩
theorem vk_X2_isLost : vs_lk yX2_isLost cX2_isLost 3 (some .boolean) 2 := ⟨⟨vs_mem 802 (by decide +kernel) (by decide +kernel), vs_mem 803 (by decide +kernel) (by decide +kernel)⟩, vs_mem 82 (by decide +kernel) (by decide +kernel), vs_mem 804 (by decide +kernel) (by decide +kernel), by decide +kernel, by decide +kernel, by decide +kernel⟩
theorem vk_X2_doesBear : vs_lk yX2_doesBear cX2_doesBear 2 (some .boolean) 1 := ⟨⟨vs_mem 810 (by decide +kernel) (by decide +kernel), vs_mem 811 (by decide +kernel) (by decide +kernel)⟩, vs_mem 82 (by decide +kernel) (by decide +kernel), vs_mem 812 (by decide +kernel) (by decide +kernel), by decide +kernel, by decide +kernel, by decide +kernel⟩
theorem vk_X2_checkLosses : vs_lkS yX2_checkLosses cX2_checkLosses 1 none 1 := ⟨vs_mem 814 (by decide +kernel) (by decide +kernel), vs_mem 82 (by decide +kernel) (by decide +kernel), vs_mem 815 (by decide +kernel) (by decide +kernel), by decide +kernel, by decide +kernel, by decide +kernel⟩
theorem vk_X1_bearsByCounting : vs_lk yX1_bearsByCounting cX1_bearsByCounting 4 (some .boolean) 1 := ⟨⟨vs_mem 819 (by decide +kernel) (by decide +kernel), vs_mem 41 (by decide +kernel) (by decide +kernel)⟩, vs_mem 83 (by decide +kernel) (by decide +kernel), vs_mem 820 (by decide +kernel) (by decide +kernel), by decide +kernel, by decide +kernel, by decide +kernel⟩
theorem vk_X2_doesBearByTrying : vs_lk yX2_doesBearByTrying cX2_doesBearByTrying 2 (some .boolean) 1 := ⟨⟨vs_mem 825 (by decide +kernel) (by decide +kernel), vs_mem 826 (by decide +kernel) (by decide +kernel)⟩, vs_mem 82 (by decide +kernel) (by decide +kernel), vs_mem 827 (by decide +kernel) (by decide +kernel), by decide +kernel, by decide +kernel, by decide +kernel⟩
theorem vk_X1_bearsByTrying : vs_lk yX1_bearsByTrying cX1_bearsByTrying 6 (some .boolean) 1 := ⟨⟨vs_mem 830 (by decide +kernel) (by decide +kernel), vs_mem 42 (by decide +kernel) (by decide +kernel)⟩, vs_mem 83 (by decide +kernel) (by decide +kernel), vs_mem 831 (by decide +kernel) (by decide +kernel), by decide +kernel, by decide +kernel, by decide +kernel⟩
theorem vk_X1_doesLose : vs_lk yX1_doesLose cX1_doesLose 3 (some .boolean) 1 := ⟨⟨vs_mem 834 (by decide +kernel) (by decide +kernel), vs_mem 43 (by decide +kernel) (by decide +kernel)⟩, vs_mem 83 (by decide +kernel) (by decide +kernel), vs_mem 835 (by decide +kernel) (by decide +kernel), by decide +kernel, by decide +kernel, by decide +kernel⟩
theorem vk_X2_fail : vs_lk yX2_fail cX2_fail 2 (some .int) 1 := ⟨⟨vs_mem 840 (by decide +kernel) (by decide +kernel), vs_mem 841 (by decide +kernel) (by decide +kernel)⟩, vs_mem 82 (by decide +kernel) (by decide +kernel), vs_mem 842 (by decide +kernel) (by decide +kernel), by decide +kernel, by decide +kernel, by decide +kernel⟩
theorem vk_X2_checkNotFailed : vs_lk yX2_checkNotFailed cX2_checkNotFailed 2 none 1 := ⟨⟨vs_mem 845 (by decide +kernel) (by decide +kernel), vs_mem 44 (by decide +kernel) (by decide +kernel)⟩, vs_mem 82 (by decide +kernel) (by decide +kernel), vs_mem 846 (by decide +kernel) (by decide +kernel), by decide +kernel, by decide +kernel, by decide +kernel⟩
theorem vk_X1_breakDisk : vs_lk yX1_breakDisk cX1_breakDisk 5 (some .int) 1 := ⟨⟨vs_mem 850 (by decide +kernel) (by decide +kernel), vs_mem 45 (by decide +kernel) (by decide +kernel)⟩, vs_mem 83 (by decide +kernel) (by decide +kernel), vs_mem 851 (by decide +kernel) (by decide +kernel), by decide +kernel, by decide +kernel, by decide +kernel⟩
theorem vk_X1_removeCopyAt : vs_lk yX1_removeCopyAt cX1_removeCopyAt 4 none 1 := ⟨⟨vs_mem 854 (by decide +kernel) (by decide +kernel), vs_mem 46 (by decide +kernel) (by decide +kernel)⟩, vs_mem 83 (by decide +kernel) (by decide +kernel), vs_mem 855 (by decide +kernel) (by decide +kernel), by decide +kernel, by decide +kernel, by decide +kernel⟩
theorem vk_X2_replace : vs_lk yX2_replace cX2_replace 2 (some .int) 1 := ⟨⟨vs_mem 860 (by decide +kernel) (by decide +kernel), vs_mem 861 (by decide +kernel) (by decide +kernel)⟩, vs_mem 82 (by decide +kernel) (by decide +kernel), vs_mem 862 (by decide +kernel) (by decide +kernel), by decide +kernel, by decide +kernel, by decide +kernel⟩
theorem vk_X2_warn : vs_lk yX2_warn cX2_warn 2 (some .int) 1 := ⟨⟨vs_mem 870 (by decide +kernel) (by decide +kernel), vs_mem 871 (by decide +kernel) (by decide +kernel)⟩, vs_mem 82 (by decide +kernel) (by decide +kernel), vs_mem 872 (by decide +kernel) (by decide +kernel), by decide +kernel, by decide +kernel, by decide +kernel⟩
theorem vk_X2_rot : vs_lk yX2_rot cX2_rot 5 (some .boolean) 2 := ⟨⟨vs_mem 878 (by decide +kernel) (by decide +kernel), vs_mem 879 (by decide +kernel) (by decide +kernel)⟩, vs_mem 82 (by decide +kernel) (by decide +kernel), vs_mem 880 (by decide +kernel) (by decide +kernel), by decide +kernel, by decide +kernel, by decide +kernel⟩
theorem vk_X2_scrub : vs_lk yX2_scrub cX2_scrub 2 (some .int) 1 := ⟨⟨vs_mem 887 (by decide +kernel) (by decide +kernel), vs_mem 888 (by decide +kernel) (by decide +kernel)⟩, vs_mem 82 (by decide +kernel) (by decide +kernel), vs_mem 889 (by decide +kernel) (by decide +kernel), by decide +kernel, by decide +kernel, by decide +kernel⟩
theorem vk_X1_healDisk : vs_lk yX1_healDisk cX1_healDisk 6 (some .int) 1 := ⟨⟨vs_mem 892 (by decide +kernel) (by decide +kernel), vs_mem 47 (by decide +kernel) (by decide +kernel)⟩, vs_mem 83 (by decide +kernel) (by decide +kernel), vs_mem 893 (by decide +kernel) (by decide +kernel), by decide +kernel, by decide +kernel, by decide +kernel⟩
theorem vk_X2_rottenOn : vs_lk yX2_rottenOn cX2_rottenOn 2 (some .int) 1 := ⟨⟨vs_mem 898 (by decide +kernel) (by decide +kernel), vs_mem 899 (by decide +kernel) (by decide +kernel)⟩, vs_mem 82 (by decide +kernel) (by decide +kernel), vs_mem 900 (by decide +kernel) (by decide +kernel), by decide +kernel, by decide +kernel, by decide +kernel⟩
theorem vk_X1_countRotten : vs_lk yX1_countRotten cX1_countRotten 5 (some .int) 1 := ⟨⟨vs_mem 903 (by decide +kernel) (by decide +kernel), vs_mem 48 (by decide +kernel) (by decide +kernel)⟩, vs_mem 83 (by decide +kernel) (by decide +kernel), vs_mem 904 (by decide +kernel) (by decide +kernel), by decide +kernel, by decide +kernel, by decide +kernel⟩
theorem vk_X2_meanCopies : vs_lk yX2_meanCopies cX2_meanCopies 1 (some .double) 0 := ⟨⟨vs_mem 923 (by decide +kernel) (by decide +kernel), vs_mem 924 (by decide +kernel) (by decide +kernel)⟩, vs_mem 82 (by decide +kernel) (by decide +kernel), vs_mem 925 (by decide +kernel) (by decide +kernel), by decide +kernel, by decide +kernel, by decide +kernel⟩
theorem vk_X1_countCopies : vs_lk yX1_countCopies cX1_countCopies 3 (some .int) 0 := ⟨⟨vs_mem 931 (by decide +kernel) (by decide +kernel), vs_mem 49 (by decide +kernel) (by decide +kernel)⟩, vs_mem 83 (by decide +kernel) (by decide +kernel), vs_mem 932 (by decide +kernel) (by decide +kernel), by decide +kernel, by decide +kernel, by decide +kernel⟩
theorem vk_X2_usedShare : vs_lk yX2_usedShare cX2_usedShare 2 (some .float) 0 := ⟨⟨vs_mem 937 (by decide +kernel) (by decide +kernel), vs_mem 938 (by decide +kernel) (by decide +kernel)⟩, vs_mem 82 (by decide +kernel) (by decide +kernel), vs_mem 939 (by decide +kernel) (by decide +kernel), by decide +kernel, by decide +kernel, by decide +kernel⟩
theorem vk_X1_countSlots : vs_lk yX1_countSlots cX1_countSlots 3 (some .int) 0 := ⟨⟨vs_mem 942 (by decide +kernel) (by decide +kernel), vs_mem 50 (by decide +kernel) (by decide +kernel)⟩, vs_mem 83 (by decide +kernel) (by decide +kernel), vs_mem 943 (by decide +kernel) (by decide +kernel), by decide +kernel, by decide +kernel, by decide +kernel⟩
theorem vk_X2_writeDisk : vs_lk yX2_writeDisk cX2_writeDisk 4 (some .int) 1 := ⟨⟨vs_mem 949 (by decide +kernel) (by decide +kernel), vs_mem 950 (by decide +kernel) (by decide +kernel)⟩, vs_mem 82 (by decide +kernel) (by decide +kernel), vs_mem 951 (by decide +kernel) (by decide +kernel), by decide +kernel, by decide +kernel, by decide +kernel⟩
theorem vk_X2_appendCopy : vs_lk yX2_appendCopy cX2_appendCopy 3 none 2 := ⟨⟨vs_mem 1227 (by decide +kernel) (by decide +kernel), vs_mem 51 (by decide +kernel) (by decide +kernel)⟩, vs_mem 82 (by decide +kernel) (by decide +kernel), vs_mem 1228 (by decide +kernel) (by decide +kernel), by decide +kernel, by decide +kernel, by decide +kernel⟩
theorem vk_X2_lineAt : vs_lk yX2_lineAt cX2_lineAt 2 (some .char) 1 := ⟨⟨vs_mem 1235 (by decide +kernel) (by decide +kernel), vs_mem 1236 (by decide +kernel) (by decide +kernel)⟩, vs_mem 82 (by decide +kernel) (by decide +kernel), vs_mem 1237 (by decide +kernel) (by decide +kernel), by decide +kernel, by decide +kernel, by decide +kernel⟩
theorem vk_X3_thrown : vs_lk yX3_thrown cX3_thrown 1 (some .int) 0 := ⟨⟨vs_mem 1359 (by decide +kernel) (by decide +kernel), vs_mem 1360 (by decide +kernel) (by decide +kernel)⟩, vs_mem 90 (by decide +kernel) (by decide +kernel), vs_mem 1361 (by decide +kernel) (by decide +kernel), by decide +kernel, by decide +kernel, by decide +kernel⟩
theorem vk_X3_addDisk : vs_lk yX3_addDisk cX3_addDisk 3 (some .int) 1 := ⟨⟨vs_mem 1363 (by decide +kernel) (by decide +kernel), vs_mem 1364 (by decide +kernel) (by decide +kernel)⟩, vs_mem 90 (by decide +kernel) (by decide +kernel), vs_mem 1365 (by decide +kernel) (by decide +kernel), by decide +kernel, by decide +kernel, by decide +kernel⟩
theorem vk_X3_isBetween : vs_lkS yX3_isBetween cX3_isBetween 3 (some .boolean) 3 := ⟨vs_mem 1367 (by decide +kernel) (by decide +kernel), vs_mem 90 (by decide +kernel) (by decide +kernel), vs_mem 1368 (by decide +kernel) (by decide +kernel), by decide +kernel, by decide +kernel, by decide +kernel⟩
theorem vk_X3_fails : vs_lk yX3_fails cX3_fails 2 (some .int) 1 := ⟨⟨vs_mem 1371 (by decide +kernel) (by decide +kernel), vs_mem 52 (by decide +kernel) (by decide +kernel)⟩, vs_mem 90 (by decide +kernel) (by decide +kernel), vs_mem 1372 (by decide +kernel) (by decide +kernel), by decide +kernel, by decide +kernel, by decide +kernel⟩
theorem vk_X3_diskCount : vs_lk yX3_diskCount cX3_diskCount 1 (some .int) 0 := ⟨⟨vs_mem 1374 (by decide +kernel) (by decide +kernel), vs_mem 1375 (by decide +kernel) (by decide +kernel)⟩, vs_mem 90 (by decide +kernel) (by decide +kernel), vs_mem 1376 (by decide +kernel) (by decide +kernel), by decide +kernel, by decide +kernel, by decide +kernel⟩
theorem vk_X3_diskState : vs_lk yX3_diskState cX3_diskState 2 (some .char) 1 := ⟨⟨vs_mem 1378 (by decide +kernel) (by decide +kernel), vs_mem 1379 (by decide +kernel) (by decide +kernel)⟩, vs_mem 90 (by decide +kernel) (by decide +kernel), vs_mem 1380 (by decide +kernel) (by decide +kernel), by decide +kernel, by decide +kernel, by decide +kernel⟩
theorem vk_X3_isNoDisk : vs_lk yX3_isNoDisk cX3_isNoDisk 2 (some .boolean) 1 := ⟨⟨vs_mem 1383 (by decide +kernel) (by decide +kernel), vs_mem 53 (by decide +kernel) (by decide +kernel)⟩, vs_mem 90 (by decide +kernel) (by decide +kernel), vs_mem 1384 (by decide +kernel) (by decide +kernel), by decide +kernel, by decide +kernel, by decide +kernel⟩
theorem vk_X3_isDisk : vs_lk yX3_isDisk cX3_isDisk 2 (some .boolean) 1 := ⟨⟨vs_mem 1387 (by decide +kernel) (by decide +kernel), vs_mem 54 (by decide +kernel) (by decide +kernel)⟩, vs_mem 90 (by decide +kernel) (by decide +kernel), vs_mem 1388 (by decide +kernel) (by decide +kernel), by decide +kernel, by decide +kernel, by decide +kernel⟩
theorem vk_X3_usedOn : vs_lk yX3_usedOn cX3_usedOn 2 (some .int) 1 := ⟨⟨vs_mem 1390 (by decide +kernel) (by decide +kernel), vs_mem 1391 (by decide +kernel) (by decide +kernel)⟩, vs_mem 90 (by decide +kernel) (by decide +kernel), vs_mem 1392 (by decide +kernel) (by decide +kernel), by decide +kernel, by decide +kernel, by decide +kernel⟩
theorem vk_X3_usedOf : vs_lk yX3_usedOf cX3_usedOf 4 (some .int) 1 := ⟨⟨vs_mem 1395 (by decide +kernel) (by decide +kernel), vs_mem 55 (by decide +kernel) (by decide +kernel)⟩, vs_mem 90 (by decide +kernel) (by decide +kernel), vs_mem 1396 (by decide +kernel) (by decide +kernel), by decide +kernel, by decide +kernel, by decide +kernel⟩
theorem vk_X3_addTenant : vs_lk yX3_addTenant cX3_addTenant 3 (some .int) 2 := ⟨⟨vs_mem 1398 (by decide +kernel) (by decide +kernel), vs_mem 1399 (by decide +kernel) (by decide +kernel)⟩, vs_mem 90 (by decide +kernel) (by decide +kernel), vs_mem 1400 (by decide +kernel) (by decide +kernel), by decide +kernel, by decide +kernel, by decide +kernel⟩
theorem vk_X3_tenantCount : vs_lk yX3_tenantCount cX3_tenantCount 1 (some .int) 0 := ⟨⟨vs_mem 1402 (by decide +kernel) (by decide +kernel), vs_mem 1403 (by decide +kernel) (by decide +kernel)⟩, vs_mem 90 (by decide +kernel) (by decide +kernel), vs_mem 1404 (by decide +kernel) (by decide +kernel), by decide +kernel, by decide +kernel, by decide +kernel⟩
theorem vk_X3_setHurry : vs_lk yX3_setHurry cX3_setHurry 3 (some .int) 1 := ⟨⟨vs_mem 1406 (by decide +kernel) (by decide +kernel), vs_mem 1407 (by decide +kernel) (by decide +kernel)⟩, vs_mem 90 (by decide +kernel) (by decide +kernel), vs_mem 1408 (by decide +kernel) (by decide +kernel), by decide +kernel, by decide +kernel, by decide +kernel⟩
theorem vk_X3_read : vs_lk yX3_read cX3_read 3 (some .int) 2 := ⟨⟨vs_mem 1410 (by decide +kernel) (by decide +kernel), vs_mem 1411 (by decide +kernel) (by decide +kernel)⟩, vs_mem 90 (by decide +kernel) (by decide +kernel), vs_mem 1412 (by decide +kernel) (by decide +kernel), by decide +kernel, by decide +kernel, by decide +kernel⟩
theorem vk_X3_isNone : vs_lk yX3_isNone cX3_isNone 3 (some .boolean) 2 := ⟨⟨vs_mem 1415 (by decide +kernel) (by decide +kernel), vs_mem 56 (by decide +kernel) (by decide +kernel)⟩, vs_mem 90 (by decide +kernel) (by decide +kernel), vs_mem 1416 (by decide +kernel) (by decide +kernel), by decide +kernel, by decide +kernel, by decide +kernel⟩
theorem vk_X3_isTenant : vs_lk yX3_isTenant cX3_isTenant 2 (some .boolean) 1 := ⟨⟨vs_mem 1419 (by decide +kernel) (by decide +kernel), vs_mem 57 (by decide +kernel) (by decide +kernel)⟩, vs_mem 90 (by decide +kernel) (by decide +kernel), vs_mem 1420 (by decide +kernel) (by decide +kernel), by decide +kernel, by decide +kernel, by decide +kernel⟩
theorem vk_X3_asks : vs_lk yX3_asks cX3_asks 4 (some .int) 3 := ⟨⟨vs_mem 1423 (by decide +kernel) (by decide +kernel), vs_mem 58 (by decide +kernel) (by decide +kernel)⟩, vs_mem 90 (by decide +kernel) (by decide +kernel), vs_mem 1424 (by decide +kernel) (by decide +kernel), by decide +kernel, by decide +kernel, by decide +kernel⟩
theorem vk_X3_waitingMany : vs_lk yX3_waitingMany cX3_waitingMany 4 (some .int) 1 := ⟨⟨vs_mem 1427 (by decide +kernel) (by decide +kernel), vs_mem 59 (by decide +kernel) (by decide +kernel)⟩, vs_mem 90 (by decide +kernel) (by decide +kernel), vs_mem 1428 (by decide +kernel) (by decide +kernel), by decide +kernel, by decide +kernel, by decide +kernel⟩
theorem vk_X3_write : vs_lk yX3_write cX3_write 4 (some .int) 3 := ⟨⟨vs_mem 1430 (by decide +kernel) (by decide +kernel), vs_mem 1431 (by decide +kernel) (by decide +kernel)⟩, vs_mem 90 (by decide +kernel) (by decide +kernel), vs_mem 1432 (by decide +kernel) (by decide +kernel), by decide +kernel, by decide +kernel, by decide +kernel⟩
theorem vk_X3_stateOf : vs_lk yX3_stateOf cX3_stateOf 2 (some .char) 1 := ⟨⟨vs_mem 1434 (by decide +kernel) (by decide +kernel), vs_mem 1435 (by decide +kernel) (by decide +kernel)⟩, vs_mem 90 (by decide +kernel) (by decide +kernel), vs_mem 1436 (by decide +kernel) (by decide +kernel), by decide +kernel, by decide +kernel, by decide +kernel⟩
theorem vk_X3_isNoRequest : vs_lk yX3_isNoRequest cX3_isNoRequest 2 (some .boolean) 1 := ⟨⟨vs_mem 1439 (by decide +kernel) (by decide +kernel), vs_mem 60 (by decide +kernel) (by decide +kernel)⟩, vs_mem 90 (by decide +kernel) (by decide +kernel), vs_mem 1440 (by decide +kernel) (by decide +kernel), by decide +kernel, by decide +kernel, by decide +kernel⟩
theorem vk_X3_isRequest : vs_lk yX3_isRequest cX3_isRequest 2 (some .boolean) 1 := ⟨⟨vs_mem 1443 (by decide +kernel) (by decide +kernel), vs_mem 61 (by decide +kernel) (by decide +kernel)⟩, vs_mem 90 (by decide +kernel) (by decide +kernel), vs_mem 1444 (by decide +kernel) (by decide +kernel), by decide +kernel, by decide +kernel, by decide +kernel⟩
theorem vk_X3_answerTo : vs_lk yX3_answerTo cX3_answerTo 2 (some .int) 1 := ⟨⟨vs_mem 1446 (by decide +kernel) (by decide +kernel), vs_mem 1447 (by decide +kernel) (by decide +kernel)⟩, vs_mem 90 (by decide +kernel) (by decide +kernel), vs_mem 1448 (by decide +kernel) (by decide +kernel), by decide +kernel, by decide +kernel, by decide +kernel⟩
theorem vk_X3_waitingOf : vs_lk yX3_waitingOf cX3_waitingOf 2 (some .int) 1 := ⟨⟨vs_mem 1450 (by decide +kernel) (by decide +kernel), vs_mem 1451 (by decide +kernel) (by decide +kernel)⟩, vs_mem 90 (by decide +kernel) (by decide +kernel), vs_mem 1452 (by decide +kernel) (by decide +kernel), by decide +kernel, by decide +kernel, by decide +kernel⟩
theorem vk_X3_isNobody : vs_lk yX3_isNobody cX3_isNobody 2 (some .boolean) 1 := ⟨⟨vs_mem 1455 (by decide +kernel) (by decide +kernel), vs_mem 62 (by decide +kernel) (by decide +kernel)⟩, vs_mem 90 (by decide +kernel) (by decide +kernel), vs_mem 1456 (by decide +kernel) (by decide +kernel), by decide +kernel, by decide +kernel, by decide +kernel⟩
theorem vk_X3_servedOf : vs_lk yX3_servedOf cX3_servedOf 2 (some .int) 1 := ⟨⟨vs_mem 1458 (by decide +kernel) (by decide +kernel), vs_mem 1459 (by decide +kernel) (by decide +kernel)⟩, vs_mem 90 (by decide +kernel) (by decide +kernel), vs_mem 1460 (by decide +kernel) (by decide +kernel), by decide +kernel, by decide +kernel, by decide +kernel⟩
theorem vk_X3_creditsOf : vs_lk yX3_creditsOf cX3_creditsOf 2 (some .int) 1 := ⟨⟨vs_mem 1462 (by decide +kernel) (by decide +kernel), vs_mem 1463 (by decide +kernel) (by decide +kernel)⟩, vs_mem 90 (by decide +kernel) (by decide +kernel), vs_mem 1464 (by decide +kernel) (by decide +kernel), by decide +kernel, by decide +kernel, by decide +kernel⟩
theorem vk_X3_breachesOf : vs_lk yX3_breachesOf cX3_breachesOf 2 (some .int) 1 := ⟨⟨vs_mem 1466 (by decide +kernel) (by decide +kernel), vs_mem 1467 (by decide +kernel) (by decide +kernel)⟩, vs_mem 90 (by decide +kernel) (by decide +kernel), vs_mem 1468 (by decide +kernel) (by decide +kernel), by decide +kernel, by decide +kernel, by decide +kernel⟩
theorem vk_X3_pass : vs_lk yX3_pass cX3_pass 3 (some .int) 1 := ⟨⟨vs_mem 1470 (by decide +kernel) (by decide +kernel), vs_mem 1471 (by decide +kernel) (by decide +kernel)⟩, vs_mem 90 (by decide +kernel) (by decide +kernel), vs_mem 1472 (by decide +kernel) (by decide +kernel), by decide +kernel, by decide +kernel, by decide +kernel⟩
theorem vk_X3_ticks : vs_lk yX3_ticks cX3_ticks 4 none 0 := ⟨⟨vs_mem 1475 (by decide +kernel) (by decide +kernel), vs_mem 63 (by decide +kernel) (by decide +kernel)⟩, vs_mem 90 (by decide +kernel) (by decide +kernel), vs_mem 1476 (by decide +kernel) (by decide +kernel), by decide +kernel, by decide +kernel, by decide +kernel⟩
theorem vk_X3_rebuilds : vs_lk yX3_rebuilds cX3_rebuilds 5 (some .int) 1 := ⟨⟨vs_mem 1479 (by decide +kernel) (by decide +kernel), vs_mem 64 (by decide +kernel) (by decide +kernel)⟩, vs_mem 90 (by decide +kernel) (by decide +kernel), vs_mem 1480 (by decide +kernel) (by decide +kernel), by decide +kernel, by decide +kernel, by decide +kernel⟩
theorem vk_X3_degraded : vs_lk yX3_degraded cX3_degraded 2 (some .boolean) 1 := ⟨⟨vs_mem 1483 (by decide +kernel) (by decide +kernel), vs_mem 65 (by decide +kernel) (by decide +kernel)⟩, vs_mem 90 (by decide +kernel) (by decide +kernel), vs_mem 1484 (by decide +kernel) (by decide +kernel), by decide +kernel, by decide +kernel, by decide +kernel⟩
theorem vk_X3_lost : vs_lk yX3_lost cX3_lost 2 (some .boolean) 1 := ⟨⟨vs_mem 1487 (by decide +kernel) (by decide +kernel), vs_mem 66 (by decide +kernel) (by decide +kernel)⟩, vs_mem 90 (by decide +kernel) (by decide +kernel), vs_mem 1488 (by decide +kernel) (by decide +kernel), by decide +kernel, by decide +kernel, by decide +kernel⟩
theorem vk_X3_goodOf : vs_lk yX3_goodOf cX3_goodOf 4 (some .int) 1 := ⟨⟨vs_mem 1491 (by decide +kernel) (by decide +kernel), vs_mem 67 (by decide +kernel) (by decide +kernel)⟩, vs_mem 90 (by decide +kernel) (by decide +kernel), vs_mem 1492 (by decide +kernel) (by decide +kernel), by decide +kernel, by decide +kernel, by decide +kernel⟩
theorem vk_X3_place : vs_lk yX3_place cX3_place 4 (some .int) 1 := ⟨⟨vs_mem 1495 (by decide +kernel) (by decide +kernel), vs_mem 68 (by decide +kernel) (by decide +kernel)⟩, vs_mem 90 (by decide +kernel) (by decide +kernel), vs_mem 1496 (by decide +kernel) (by decide +kernel), by decide +kernel, by decide +kernel, by decide +kernel⟩
theorem vk_X3_has : vs_lk yX3_has cX3_has 4 (some .boolean) 2 := ⟨⟨vs_mem 1499 (by decide +kernel) (by decide +kernel), vs_mem 69 (by decide +kernel) (by decide +kernel)⟩, vs_mem 90 (by decide +kernel) (by decide +kernel), vs_mem 1500 (by decide +kernel) (by decide +kernel), by decide +kernel, by decide +kernel, by decide +kernel⟩
theorem vk_X3_puts : vs_lk yX3_puts cX3_puts 3 none 2 := ⟨⟨vs_mem 1503 (by decide +kernel) (by decide +kernel), vs_mem 70 (by decide +kernel) (by decide +kernel)⟩, vs_mem 90 (by decide +kernel) (by decide +kernel), vs_mem 1504 (by decide +kernel) (by decide +kernel), by decide +kernel, by decide +kernel, by decide +kernel⟩
theorem vk_X3_moves : vs_lk yX3_moves cX3_moves 7 (some .int) 2 := ⟨⟨vs_mem 1507 (by decide +kernel) (by decide +kernel), vs_mem 71 (by decide +kernel) (by decide +kernel)⟩, vs_mem 90 (by decide +kernel) (by decide +kernel), vs_mem 1508 (by decide +kernel) (by decide +kernel), by decide +kernel, by decide +kernel, by decide +kernel⟩
theorem vk_X3_takes : vs_lk yX3_takes cX3_takes 4 none 2 := ⟨⟨vs_mem 1511 (by decide +kernel) (by decide +kernel), vs_mem 72 (by decide +kernel) (by decide +kernel)⟩, vs_mem 90 (by decide +kernel) (by decide +kernel), vs_mem 1512 (by decide +kernel) (by decide +kernel), by decide +kernel, by decide +kernel, by decide +kernel⟩
theorem vk_X3_servesAll : vs_lk yX3_servesAll cX3_servesAll 7 none 1 := ⟨⟨vs_mem 1515 (by decide +kernel) (by decide +kernel), vs_mem 73 (by decide +kernel) (by decide +kernel)⟩, vs_mem 90 (by decide +kernel) (by decide +kernel), vs_mem 1516 (by decide +kernel) (by decide +kernel), by decide +kernel, by decide +kernel, by decide +kernel⟩
theorem vk_X3_oldestOf : vs_lk yX3_oldestOf cX3_oldestOf 3 (some .int) 1 := ⟨⟨vs_mem 1519 (by decide +kernel) (by decide +kernel), vs_mem 74 (by decide +kernel) (by decide +kernel)⟩, vs_mem 90 (by decide +kernel) (by decide +kernel), vs_mem 1520 (by decide +kernel) (by decide +kernel), by decide +kernel, by decide +kernel, by decide +kernel⟩
theorem vk_X3_serves : vs_lk yX3_serves cX3_serves 4 none 1 := ⟨⟨vs_mem 1523 (by decide +kernel) (by decide +kernel), vs_mem 75 (by decide +kernel) (by decide +kernel)⟩, vs_mem 90 (by decide +kernel) (by decide +kernel), vs_mem 1524 (by decide +kernel) (by decide +kernel), by decide +kernel, by decide +kernel, by decide +kernel⟩
theorem vk_X3_writes : vs_lk yX3_writes cX3_writes 4 (some .boolean) 2 := ⟨⟨vs_mem 1527 (by decide +kernel) (by decide +kernel), vs_mem 76 (by decide +kernel) (by decide +kernel)⟩, vs_mem 90 (by decide +kernel) (by decide +kernel), vs_mem 1528 (by decide +kernel) (by decide +kernel), by decide +kernel, by decide +kernel, by decide +kernel⟩
theorem vk_X3_putsAnew : vs_lk yX3_putsAnew cX3_putsAnew 4 (some .boolean) 1 := ⟨⟨vs_mem 1531 (by decide +kernel) (by decide +kernel), vs_mem 77 (by decide +kernel) (by decide +kernel)⟩, vs_mem 90 (by decide +kernel) (by decide +kernel), vs_mem 1532 (by decide +kernel) (by decide +kernel), by decide +kernel, by decide +kernel, by decide +kernel⟩
theorem vk_X3_keepsAll : vs_lk yX3_keepsAll cX3_keepsAll 3 none 0 := ⟨⟨vs_mem 1535 (by decide +kernel) (by decide +kernel), vs_mem 78 (by decide +kernel) (by decide +kernel)⟩, vs_mem 90 (by decide +kernel) (by decide +kernel), vs_mem 1536 (by decide +kernel) (by decide +kernel), by decide +kernel, by decide +kernel, by decide +kernel⟩
theorem vk_X3_laysBack : vs_lk yX3_laysBack cX3_laysBack 3 none 0 := ⟨⟨vs_mem 1539 (by decide +kernel) (by decide +kernel), vs_mem 79 (by decide +kernel) (by decide +kernel)⟩, vs_mem 90 (by decide +kernel) (by decide +kernel), vs_mem 1540 (by decide +kernel) (by decide +kernel), by decide +kernel, by decide +kernel, by decide +kernel⟩
theorem vk_X3_clock : vs_lk yX3_clock cX3_clock 1 (some .int) 0 := ⟨⟨vs_mem 1544 (by decide +kernel) (by decide +kernel), vs_mem 1545 (by decide +kernel) (by decide +kernel)⟩, vs_mem 90 (by decide +kernel) (by decide +kernel), vs_mem 1546 (by decide +kernel) (by decide +kernel), by decide +kernel, by decide +kernel, by decide +kernel⟩
theorem vk_X3_blocksOf : vs_lk yX3_blocksOf cX3_blocksOf 4 (some .int) 1 := ⟨⟨vs_mem 1548 (by decide +kernel) (by decide +kernel), vs_mem 1549 (by decide +kernel) (by decide +kernel)⟩, vs_mem 90 (by decide +kernel) (by decide +kernel), vs_mem 1550 (by decide +kernel) (by decide +kernel), by decide +kernel, by decide +kernel, by decide +kernel⟩
theorem vk_X3_copiesOf : vs_lk yX3_copiesOf cX3_copiesOf 3 (some .int) 2 := ⟨⟨vs_mem 1552 (by decide +kernel) (by decide +kernel), vs_mem 1553 (by decide +kernel) (by decide +kernel)⟩, vs_mem 90 (by decide +kernel) (by decide +kernel), vs_mem 1554 (by decide +kernel) (by decide +kernel), by decide +kernel, by decide +kernel, by decide +kernel⟩
theorem vk_X3_copiesByDisks : vs_lk yX3_copiesByDisks cX3_copiesByDisks 5 (some .int) 2 := ⟨⟨vs_mem 1556 (by decide +kernel) (by decide +kernel), vs_mem 1557 (by decide +kernel) (by decide +kernel)⟩, vs_mem 90 (by decide +kernel) (by decide +kernel), vs_mem 1558 (by decide +kernel) (by decide +kernel), by decide +kernel, by decide +kernel, by decide +kernel⟩
theorem vk_X3_diskOfCopy : vs_lk yX3_diskOfCopy cX3_diskOfCopy 4 (some .int) 3 := ⟨⟨vs_mem 1560 (by decide +kernel) (by decide +kernel), vs_mem 1561 (by decide +kernel) (by decide +kernel)⟩, vs_mem 90 (by decide +kernel) (by decide +kernel), vs_mem 1562 (by decide +kernel) (by decide +kernel), by decide +kernel, by decide +kernel, by decide +kernel⟩
theorem vk_X3_valueOf : vs_lk yX3_valueOf cX3_valueOf 3 (some .int) 2 := ⟨⟨vs_mem 1564 (by decide +kernel) (by decide +kernel), vs_mem 1565 (by decide +kernel) (by decide +kernel)⟩, vs_mem 90 (by decide +kernel) (by decide +kernel), vs_mem 1566 (by decide +kernel) (by decide +kernel), by decide +kernel, by decide +kernel, by decide +kernel⟩
theorem vk_X3_isLost : vs_lk yX3_isLost cX3_isLost 3 (some .boolean) 2 := ⟨⟨vs_mem 1568 (by decide +kernel) (by decide +kernel), vs_mem 1569 (by decide +kernel) (by decide +kernel)⟩, vs_mem 90 (by decide +kernel) (by decide +kernel), vs_mem 1570 (by decide +kernel) (by decide +kernel), by decide +kernel, by decide +kernel, by decide +kernel⟩
theorem vk_X3_lostBlocks : vs_lk yX3_lostBlocks cX3_lostBlocks 3 (some .int) 0 := ⟨⟨vs_mem 1572 (by decide +kernel) (by decide +kernel), vs_mem 1573 (by decide +kernel) (by decide +kernel)⟩, vs_mem 90 (by decide +kernel) (by decide +kernel), vs_mem 1574 (by decide +kernel) (by decide +kernel), by decide +kernel, by decide +kernel, by decide +kernel⟩
theorem vk_X3_degradedBlocks : vs_lk yX3_degradedBlocks cX3_degradedBlocks 3 (some .int) 0 := ⟨⟨vs_mem 1576 (by decide +kernel) (by decide +kernel), vs_mem 1577 (by decide +kernel) (by decide +kernel)⟩, vs_mem 90 (by decide +kernel) (by decide +kernel), vs_mem 1578 (by decide +kernel) (by decide +kernel), by decide +kernel, by decide +kernel, by decide +kernel⟩
theorem vk_X3_doesBear : vs_lk yX3_doesBear cX3_doesBear 3 (some .boolean) 1 := ⟨⟨vs_mem 1580 (by decide +kernel) (by decide +kernel), vs_mem 1581 (by decide +kernel) (by decide +kernel)⟩, vs_mem 90 (by decide +kernel) (by decide +kernel), vs_mem 1582 (by decide +kernel) (by decide +kernel), by decide +kernel, by decide +kernel, by decide +kernel⟩
theorem vk_X3_doesBearByTrying : vs_lk yX3_doesBearByTrying cX3_doesBearByTrying 2 (some .boolean) 1 := ⟨⟨vs_mem 1584 (by decide +kernel) (by decide +kernel), vs_mem 1585 (by decide +kernel) (by decide +kernel)⟩, vs_mem 90 (by decide +kernel) (by decide +kernel), vs_mem 1586 (by decide +kernel) (by decide +kernel), by decide +kernel, by decide +kernel, by decide +kernel⟩
theorem vk_X3_fail : vs_lk yX3_fail cX3_fail 6 (some .int) 1 := ⟨⟨vs_mem 1589 (by decide +kernel) (by decide +kernel), vs_mem 1590 (by decide +kernel) (by decide +kernel)⟩, vs_mem 90 (by decide +kernel) (by decide +kernel), vs_mem 1591 (by decide +kernel) (by decide +kernel), by decide +kernel, by decide +kernel, by decide +kernel⟩
theorem vk_X3_replace : vs_lk yX3_replace cX3_replace 2 (some .int) 1 := ⟨⟨vs_mem 1593 (by decide +kernel) (by decide +kernel), vs_mem 1594 (by decide +kernel) (by decide +kernel)⟩, vs_mem 90 (by decide +kernel) (by decide +kernel), vs_mem 1595 (by decide +kernel) (by decide +kernel), by decide +kernel, by decide +kernel, by decide +kernel⟩
theorem vk_X3_sound : vs_lk yX3_sound cX3_sound 3 (some .int) 0 := ⟨⟨vs_mem 1598 (by decide +kernel) (by decide +kernel), vs_mem 80 (by decide +kernel) (by decide +kernel)⟩, vs_mem 90 (by decide +kernel) (by decide +kernel), vs_mem 1599 (by decide +kernel) (by decide +kernel), by decide +kernel, by decide +kernel, by decide +kernel⟩
theorem vk_X3_warn : vs_lk yX3_warn cX3_warn 2 (some .int) 1 := ⟨⟨vs_mem 1601 (by decide +kernel) (by decide +kernel), vs_mem 1602 (by decide +kernel) (by decide +kernel)⟩, vs_mem 90 (by decide +kernel) (by decide +kernel), vs_mem 1603 (by decide +kernel) (by decide +kernel), by decide +kernel, by decide +kernel, by decide +kernel⟩
theorem vk_X3_rot : vs_lk yX3_rot cX3_rot 4 (some .boolean) 2 := ⟨⟨vs_mem 1605 (by decide +kernel) (by decide +kernel), vs_mem 1606 (by decide +kernel) (by decide +kernel)⟩, vs_mem 90 (by decide +kernel) (by decide +kernel), vs_mem 1607 (by decide +kernel) (by decide +kernel), by decide +kernel, by decide +kernel, by decide +kernel⟩
theorem vk_X3_scrub : vs_lk yX3_scrub cX3_scrub 4 (some .int) 1 := ⟨⟨vs_mem 1609 (by decide +kernel) (by decide +kernel), vs_mem 1610 (by decide +kernel) (by decide +kernel)⟩, vs_mem 90 (by decide +kernel) (by decide +kernel), vs_mem 1611 (by decide +kernel) (by decide +kernel), by decide +kernel, by decide +kernel, by decide +kernel⟩
theorem vk_X3_rottenOn : vs_lk yX3_rottenOn cX3_rottenOn 4 (some .int) 1 := ⟨⟨vs_mem 1613 (by decide +kernel) (by decide +kernel), vs_mem 1614 (by decide +kernel) (by decide +kernel)⟩, vs_mem 90 (by decide +kernel) (by decide +kernel), vs_mem 1615 (by decide +kernel) (by decide +kernel), by decide +kernel, by decide +kernel, by decide +kernel⟩
theorem vk_X3_rebuilt : vs_lk yX3_rebuilt cX3_rebuilt 1 (some .int) 0 := ⟨⟨vs_mem 1617 (by decide +kernel) (by decide +kernel), vs_mem 1618 (by decide +kernel) (by decide +kernel)⟩, vs_mem 90 (by decide +kernel) (by decide +kernel), vs_mem 1619 (by decide +kernel) (by decide +kernel), by decide +kernel, by decide +kernel, by decide +kernel⟩
theorem vk_X3_openRebuilds : vs_lk yX3_openRebuilds cX3_openRebuilds 2 (some .int) 0 := ⟨⟨vs_mem 1621 (by decide +kernel) (by decide +kernel), vs_mem 1622 (by decide +kernel) (by decide +kernel)⟩, vs_mem 90 (by decide +kernel) (by decide +kernel), vs_mem 1623 (by decide +kernel) (by decide +kernel), by decide +kernel, by decide +kernel, by decide +kernel⟩
theorem vk_X3_meanCopies : vs_lk yX3_meanCopies cX3_meanCopies 3 (some .double) 0 := ⟨⟨vs_mem 1625 (by decide +kernel) (by decide +kernel), vs_mem 1626 (by decide +kernel) (by decide +kernel)⟩, vs_mem 90 (by decide +kernel) (by decide +kernel), vs_mem 1627 (by decide +kernel) (by decide +kernel), by decide +kernel, by decide +kernel, by decide +kernel⟩
theorem vk_X3_usedShare : vs_lk yX3_usedShare cX3_usedShare 4 (some .float) 0 := ⟨⟨vs_mem 1629 (by decide +kernel) (by decide +kernel), vs_mem 1630 (by decide +kernel) (by decide +kernel)⟩, vs_mem 90 (by decide +kernel) (by decide +kernel), vs_mem 1631 (by decide +kernel) (by decide +kernel), by decide +kernel, by decide +kernel, by decide +kernel⟩
theorem vk_X3_isConsistent : vs_lk yX3_isConsistent cX3_isConsistent 1 (some .boolean) 0 := ⟨⟨vs_mem 1633 (by decide +kernel) (by decide +kernel), vs_mem 1634 (by decide +kernel) (by decide +kernel)⟩, vs_mem 90 (by decide +kernel) (by decide +kernel), vs_mem 1635 (by decide +kernel) (by decide +kernel), by decide +kernel, by decide +kernel, by decide +kernel⟩
theorem vk_X3_writeDisk : vs_lk yX3_writeDisk cX3_writeDisk 4 (some .int) 1 := ⟨⟨vs_mem 1637 (by decide +kernel) (by decide +kernel), vs_mem 1638 (by decide +kernel) (by decide +kernel)⟩, vs_mem 90 (by decide +kernel) (by decide +kernel), vs_mem 1639 (by decide +kernel) (by decide +kernel), by decide +kernel, by decide +kernel, by decide +kernel⟩
theorem vk_X3_lineAt : vs_lk yX3_lineAt cX3_lineAt 2 (some .char) 1 := ⟨⟨vs_mem 1647 (by decide +kernel) (by decide +kernel), vs_mem 1648 (by decide +kernel) (by decide +kernel)⟩, vs_mem 90 (by decide +kernel) (by decide +kernel), vs_mem 1649 (by decide +kernel) (by decide +kernel), by decide +kernel, by decide +kernel, by decide +kernel⟩
theorem vs_min1 : Cond.static Lib.Math.min.name ∈ vs_ws := vs_mem 361 (by decide +kernel) (by decide +kernel)
theorem vs_min2 : Cond.code Lib.Math.min.name Lib.Math.min.code 2 (some .int) ∈ vs_ws := vs_mem 362 (by decide +kernel) (by decide +kernel)
theorem vs_max1 : Cond.static Lib.Math.max.name ∈ vs_ws := vs_mem 384 (by decide +kernel) (by decide +kernel)
theorem vs_max2 : Cond.code Lib.Math.max.name Lib.Math.max.code 2 (some .int) ∈ vs_ws := vs_mem 385 (by decide +kernel) (by decide +kernel)
theorem vs_mini : Cond.initialized "java/lang/Math" ∈ vs_ws := vs_mem 99 (by decide +kernel) (by decide +kernel)
theorem vm_X0_61 : Cond.methodLink RX0 61 Lib.Math.min.name ∈ vs_ws := vs_mem 713 (by decide +kernel) (by decide +kernel)
theorem vm_X1_110 : Cond.methodLink RX1 110 Lib.Math.min.name ∈ vs_ws := vs_mem 360 (by decide +kernel) (by decide +kernel)
theorem vm_X1_121 : Cond.methodLink RX1 121 Lib.Math.max.name ∈ vs_ws := vs_mem 383 (by decide +kernel) (by decide +kernel)
theorem vm_X3_206 : Cond.methodLink RX3 206 Lib.Math.min.name ∈ vs_ws := vs_mem 1541 (by decide +kernel) (by decide +kernel)
theorem vm_X3_211 : Cond.methodLink RX3 211 Lib.Math.max.name ∈ vs_ws := vs_mem 1542 (by decide +kernel) (by decide +kernel)
