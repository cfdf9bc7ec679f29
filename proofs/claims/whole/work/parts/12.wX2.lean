/-! what each method of class X2 asks and answers, by program -/
def wX2_addDisk (V S T K : vs_St) (x1 : Int) (post : Int → vs_St → Prop) (px : Nat → Prop) : Prop :=
  (vs_R x1) ∧ (x1 < 1 → px 1) ∧ (1 ≤ x1 → (vs_R x1) ∧ (x1 ≤ 32 → (vs_R (S 0 0)) ∧ ((S 0 0) < 8 → wX1_installDisk S x1 (fun r1 S2 => post r1 S2)) ∧ (8 ≤ (S 0 0) → px 2)) ∧ (32 < x1 → px 1))
def wX2_diskCount (V S T K : vs_St) (post : Int → Prop) : Prop :=
  post (S 0 0)
def wX2_checkDisk (V S T K : vs_St) (x1 : Int) (post : Prop) (px : Nat → Prop) : Prop :=
  (vs_R x1) ∧ (x1 < 0 → px 3) ∧ (0 ≤ x1 → (vs_R x1) ∧ (vs_R (S 0 0)) ∧ (x1 < S 0 0 → post) ∧ (S 0 0 ≤ x1 → px 3))
def wX2_diskState (V S T K : vs_St) (x1 : Int) (post : Int → Prop) (px : Nat → Prop) : Prop :=
  wX2_checkDisk V S T K x1 ((0 ≤ x1 ∧ x1 < 8) ∧ (0 ≤ S 3 x1 ∧ S 3 x1 < 65536) ∧ post (S 3 x1)) px
def wX2_usedOn (V S T K : vs_St) (x1 : Int) (post : Int → Prop) (px : Nat → Prop) : Prop :=
  wX2_checkDisk V S T K x1 ((0 ≤ x1 ∧ x1 < 8) ∧ post (S 2 x1)) px
def wX2_addTenant (V S T K : vs_St) (x1 : Int) (x2 : Int) (post : Int → vs_St → vs_St → Prop) (px : Nat → Prop) : Prop :=
  (vs_R x1) ∧ (x1 < 1 → px 1) ∧ (1 ≤ x1 → (vs_R x1) ∧ (x1 ≤ 3 → (vs_R x2) ∧ (x2 < 0 → px 1) ∧ (0 ≤ x2 → (vs_R x2) ∧ (x2 ≤ 20 → (vs_R (K 0 0)) ∧ ((K 0 0) < 4 → wX0_admitTenant K x2 (fun r1 K2 => (0 ≤ r1 ∧ r1 < 4) ∧ ∀ S3 : vs_St, S3 = vs_st S 6 r1 x1 → post r1 S3 K2)) ∧ (4 ≤ (K 0 0) → px 2)) ∧ (20 < x2 → px 1))) ∧ (3 < x1 → px 1))
def wX2_tenantCount (V S T K : vs_St) (post : Int → Prop) : Prop :=
  post (K 0 0)
def wX2_setHurry (V S T K : vs_St) (x1 : Int) (post : Int → vs_St → Prop) (px : Nat → Prop) : Prop :=
  (vs_R x1) ∧ (x1 < 0 → px 1) ∧ (0 ≤ x1 → (vs_R x1) ∧ (x1 ≤ 20 → ∀ v1 : Int, v1 = V 4 0 → ∀ V2 : vs_St, V2 = vs_st V 4 0 x1 → post v1 V2) ∧ (20 < x1 → px 1))
def wX2_checkTenant (V S T K : vs_St) (x1 : Int) (post : Prop) (px : Nat → Prop) : Prop :=
  (vs_R x1) ∧ (x1 < 0 → px 3) ∧ (0 ≤ x1 → (vs_R x1) ∧ (vs_R (K 0 0)) ∧ (x1 < K 0 0 → post) ∧ (K 0 0 ≤ x1 → px 3))
def wX2_checkBlock (V S T K : vs_St) (x1 : Int) (x2 : Int) (post : Prop) (px : Nat → Prop) : Prop :=
  wX2_checkTenant V S T K x1 ((vs_R x2) ∧ (x2 < 0 → px 3) ∧ (0 ≤ x2 → (vs_R x2) ∧ (x2 < 100 → post) ∧ (100 ≤ x2 → px 3))) px
def wX2_checkRoomForRequest (V S T K : vs_St) (post : Prop) (px : Nat → Prop) : Prop :=
  (vs_R (K 9 0)) ∧ ((K 9 0) < 40 → (vs_R (K 8 0)) ∧ ((K 8 0) < 300 → post) ∧ (300 ≤ (K 8 0) → px 2)) ∧ (40 ≤ (K 9 0) → px 2)
def wX2_blockId (x0 : Int) (x1 : Int) (post : Int → Prop) : Prop :=
  post ((x0 * 100) + x1)
def wX2_read (V S T K : vs_St) (x1 : Int) (x2 : Int) (post : Int → vs_St → Prop) (px : Nat → Prop) : Prop :=
  wX2_checkBlock V S T K x1 x2 (wX2_checkRoomForRequest V S T K (wX2_blockId x1 x2 (fun r1 => wX0_enqueue K x1 r1 0 0 (fun r2 K3 => post r2 K3))) px) px
def wX2_write (V S T K : vs_St) (x1 : Int) (x2 : Int) (x3 : Int) (post : Int → vs_St → Prop) (px : Nat → Prop) : Prop :=
  wX2_checkBlock V S T K x1 x2 ((vs_R x3) ∧ (x3 < 0 → px 1) ∧ (0 ≤ x3 → (vs_R x3) ∧ (x3 ≤ 9999 → wX2_checkRoomForRequest V S T K (wX2_blockId x1 x2 (fun r1 => wX0_enqueue K x1 r1 1 x3 (fun r2 K3 => post r2 K3))) px) ∧ (9999 < x3 → px 1))) px
def wX2_checkRequest (V S T K : vs_St) (x1 : Int) (post : Prop) (px : Nat → Prop) : Prop :=
  (vs_R x1) ∧ (x1 < 0 → px 3) ∧ (0 ≤ x1 → (vs_R x1) ∧ (vs_R (K 8 0)) ∧ (x1 < K 8 0 → post) ∧ (K 8 0 ≤ x1 → px 3))
def wX2_stateOf (V S T K : vs_St) (x1 : Int) (post : Int → Prop) (px : Nat → Prop) : Prop :=
  wX2_checkRequest V S T K x1 ((0 ≤ x1 ∧ x1 < 300) ∧ (0 ≤ K 13 x1 ∧ K 13 x1 < 65536) ∧ post (K 13 x1)) px
def wX2_answerTo (V S T K : vs_St) (x1 : Int) (post : Int → Prop) (px : Nat → Prop) : Prop :=
  wX2_checkRequest V S T K x1 ((0 ≤ x1 ∧ x1 < 300) ∧ (vs_R (K 11 x1)) ∧ (¬ (K 11 x1) = 0 → px 4) ∧ ((K 11 x1) = 0 → (0 ≤ x1 ∧ x1 < 300) ∧ (vs_R (K 13 x1)) ∧ ((K 13 x1) = 100 → (0 ≤ x1 ∧ x1 < 300) ∧ post (K 12 x1)) ∧ (¬ (K 13 x1) = 100 → px 4))) px
def wX2_waitingOf (V S T K : vs_St) (x1 : Int) (post : Int → Prop) (px : Nat → Prop) : Prop :=
  wX2_checkTenant V S T K x1 (wX0_countWaiting K x1 (fun r1 => post r1)) px
def wX2_servedOf (V S T K : vs_St) (x1 : Int) (post : Int → Prop) (px : Nat → Prop) : Prop :=
  wX2_checkTenant V S T K x1 ((0 ≤ x1 ∧ x1 < 4) ∧ post (K 3 x1)) px
def wX2_creditsOf (V S T K : vs_St) (x1 : Int) (post : Int → Prop) (px : Nat → Prop) : Prop :=
  wX2_checkTenant V S T K x1 ((0 ≤ x1 ∧ x1 < 4) ∧ post (K 5 x1)) px
def wX2_breachesOf (V S T K : vs_St) (x1 : Int) (post : Int → Prop) (px : Nat → Prop) : Prop :=
  wX2_checkTenant V S T K x1 ((0 ≤ x1 ∧ x1 < 4) ∧ post (K 6 x1)) px
def wX2_serveRead (V S T K : vs_St) (x1 : Int) (post : Int → vs_St → Prop) : Prop :=
  (0 ≤ x1 ∧ x1 < 300) ∧ ∀ v1 : Int, v1 = K 10 x1 → wX1_disksWithGoodCopy S v1 (fun r2 => (vs_R r2) ∧ (¬ r2 = 0 → (0 ≤ v1 ∧ v1 < 400) ∧ (0 ≤ x1 ∧ x1 < 300) ∧ ∀ K3 : vs_St, K3 = vs_st K 12 x1 (S 7 v1) → post 1 K3) ∧ (r2 = 0 → post 0 K))
def wX2_serveOldest (V S T K : vs_St) (x1 : Int) (x2 : Int) (post : Int → vs_St → vs_St → Prop) : Prop :=
  wX0_countWaiting K x1 (fun r1 => (vs_R r1) ∧ (¬ r1 = 0 → wX0_oldestWaiting K x1 (fun r2 => (0 ≤ r2 ∧ r2 < 300) ∧ (vs_R (K 11 r2)) ∧ ((K 11 r2) = 0 → (vs_R x2) ∧ (1 ≤ x2 → (0 ≤ r2 ∧ r2 < 300) ∧ (vs_R (K 11 r2)) ∧ ((K 11 r2) = 0 → wX2_serveRead V S T K r2 (fun r3 K4 => wX0_markServed K4 x1 r2 r3 (fun K5 => post 1 S K5))) ∧ (¬ (K 11 r2) = 0 → (0 ≤ r2 ∧ r2 < 300) ∧ (0 ≤ r2 ∧ r2 < 300) ∧ wX1_putValue S (K 10 r2) (K 12 r2) (fun r6 S7 => wX0_markServed K x1 r2 r6 (fun K8 => post 1 S7 K8)))) ∧ (x2 < 1 → post 0 S K)) ∧ (¬ (K 11 r2) = 0 → (0 ≤ x1 ∧ x1 < 4) ∧ ∀ v9 : Int, v9 = S 6 x1 → (vs_R v9) ∧ (vs_R x2) ∧ (v9 ≤ x2 → (0 ≤ r2 ∧ r2 < 300) ∧ (vs_R (K 11 r2)) ∧ ((K 11 r2) = 0 → wX2_serveRead V S T K r2 (fun r10 K11 => wX0_markServed K11 x1 r2 r10 (fun K12 => post v9 S K12))) ∧ (¬ (K 11 r2) = 0 → (0 ≤ r2 ∧ r2 < 300) ∧ (0 ≤ r2 ∧ r2 < 300) ∧ wX1_putValue S (K 10 r2) (K 12 r2) (fun r13 S14 => wX0_markServed K x1 r2 r13 (fun K15 => post v9 S14 K15)))) ∧ (x2 < v9 → post 0 S K)))) ∧ (r1 = 0 → post 0 S K))
def lX2_serveRounds_16 (V : vs_St) (T : vs_St) (x3 : Int) (x4 : Int) (K4 : Int → Int → vs_St → vs_St → Prop) (K16 : Int → Int → vs_St → vs_St → Prop) (post : vs_St → vs_St → Prop) (x2 : Int) (x5 : Int) (S : vs_St) (K : vs_St) : Prop :=
  (vs_R x5) ∧ (vs_R (K 0 0)) ∧ (K 0 0 ≤ x5 → (vs_R x2) ∧ (vs_R x4) ∧ (¬ x2 = x4 → K4 x2 (x3 + 1) S K) ∧ (x2 = x4 → post S K)) ∧ (x5 < K 0 0 → wX2_serveOldest V S T K x5 x2 (fun r1 S2 K3 => ∀ v4 : Int, v4 = x2 - r1 → K16 v4 (x5 + 1) S2 K3))
def lX2_serveRounds_4 (V : vs_St) (T : vs_St) (K4 : Int → Int → vs_St → vs_St → Prop) (post : vs_St → vs_St → Prop) (x2 : Int) (x3 : Int) (S : vs_St) (K : vs_St) : Prop :=
  (vs_R x3) ∧ (20 < x3 → post S K) ∧ (x3 ≤ 20 → ∃ (J16 : Int → Int → vs_St → vs_St → Prop) (μ16 : Int → Int → vs_St → vs_St → Nat), J16 x2 0 S K ∧ ∀ (y16_0 : Int) (y16_1 : Int) (y16_2 : vs_St) (y16_3 : vs_St), J16 y16_0 y16_1 y16_2 y16_3 → lX2_serveRounds_16 V T x3 x2 K4 (fun z16_0 z16_1 z16_2 z16_3 => J16 z16_0 z16_1 z16_2 z16_3 ∧ μ16 z16_0 z16_1 z16_2 z16_3 < μ16 y16_0 y16_1 y16_2 y16_3) post y16_0 y16_1 y16_2 y16_3)
def wX2_serveRounds (V S T K : vs_St) (x1 : Int) (post : vs_St → vs_St → Prop) : Prop :=
  ∃ (J4 : Int → Int → vs_St → vs_St → Prop) (μ4 : Int → Int → vs_St → vs_St → Nat), J4 x1 0 S K ∧ ∀ (y4_0 : Int) (y4_1 : Int) (y4_2 : vs_St) (y4_3 : vs_St), J4 y4_0 y4_1 y4_2 y4_3 → lX2_serveRounds_4 V T (fun z4_0 z4_1 z4_2 z4_3 => J4 z4_0 z4_1 z4_2 z4_3 ∧ μ4 z4_0 z4_1 z4_2 z4_3 < μ4 y4_0 y4_1 y4_2 y4_3) post y4_0 y4_1 y4_2 y4_3
def lX2_pass_45 (T : vs_St) (x1 : Int) (K45 : Int → vs_St → vs_St → vs_St → Prop) (post : Int → vs_St → vs_St → vs_St → Prop) (px : Nat → Prop) (x2 : Int) (V : vs_St) (S : vs_St) (K : vs_St) : Prop :=
  (vs_R x2) ∧ (vs_R x1) ∧ (x1 ≤ x2 → post (V 5 0) V S K) ∧ (x2 < x1 → wX0_beginTick K (fun K1 => (0 ≤ V 4 0 ∧ V 4 0 ≤ 2147483647) ∧ wX1_rebuild S ((V 4 0) / 2) (fun r2 S3 => ∀ V4 : vs_St, V4 = vs_st V 6 0 ((V 6 0) + r2) → wX2_serveRounds V4 S3 T K1 (20 - (r2 * 2)) (fun S5 K6 => wX0_giveCredits K6 (fun K7 => ∀ V8 : vs_St, V8 = vs_st V4 5 0 ((V4 5 0) + 1) → K45 (x2 + 1) V8 S5 K7)))))
def wX2_pass (V S T K : vs_St) (x1 : Int) (post : Int → vs_St → vs_St → vs_St → Prop) (px : Nat → Prop) : Prop :=
  (vs_R x1) ∧ (x1 < 1 → px 1) ∧ (1 ≤ x1 → (vs_R x1) ∧ (x1 ≤ 50 → (vs_R x1) ∧ (vs_R (9999 - (V 5 0))) ∧ (x1 ≤ 9999 - (V 5 0) → ∃ (J45 : Int → vs_St → vs_St → vs_St → Prop) (μ45 : Int → vs_St → vs_St → vs_St → Nat), J45 0 V S K ∧ ∀ (y45_0 : Int) (y45_1 : vs_St) (y45_2 : vs_St) (y45_3 : vs_St), J45 y45_0 y45_1 y45_2 y45_3 → lX2_pass_45 T x1 (fun z45_0 z45_1 z45_2 z45_3 => J45 z45_0 z45_1 z45_2 z45_3 ∧ μ45 z45_0 z45_1 z45_2 z45_3 < μ45 y45_0 y45_1 y45_2 y45_3) post px y45_0 y45_1 y45_2 y45_3) ∧ (9999 - (V 5 0) < x1 → px 2)) ∧ (50 < x1 → px 1))
def wX2_clock (V S T K : vs_St) (post : Int → Prop) : Prop :=
  post (V 5 0)
def wX2_blocksOf (V S T K : vs_St) (x1 : Int) (post : Int → Prop) (px : Nat → Prop) : Prop :=
  wX2_checkTenant V S T K x1 (wX1_countWritten S x1 (fun r1 => post r1)) px
def wX2_copiesOf (V S T K : vs_St) (x1 : Int) (x2 : Int) (post : Int → Prop) (px : Nat → Prop) : Prop :=
  wX2_checkBlock V S T K x1 x2 (wX2_blockId x1 x2 (fun r1 => (0 ≤ r1 ∧ r1 < 400) ∧ post (S 8 r1))) px
def wX2_copiesByDisks (V S T K : vs_St) (x1 : Int) (x2 : Int) (post : Int → Prop) (px : Nat → Prop) : Prop :=
  wX2_checkBlock V S T K x1 x2 (wX2_blockId x1 x2 (fun r1 => wX1_countInSlots S r1 (fun r2 => post r2))) px
def wX2_diskOfCopy (V S T K : vs_St) (x1 : Int) (x2 : Int) (x3 : Int) (post : Int → Prop) (px : Nat → Prop) : Prop :=
  wX2_checkBlock V S T K x1 x2 (wX2_blockId x1 x2 (fun r1 => (vs_R x3) ∧ (x3 < 0 → px 4) ∧ (0 ≤ x3 → (0 ≤ r1 ∧ r1 < 400) ∧ (vs_R x3) ∧ (vs_R (S 8 r1)) ∧ (x3 < S 8 r1 → wX1_addressOf S r1 x3 (fun r2 => (0 ≤ r2 ∧ r2 ≤ 2147483647) ∧ post (r2 / 32))) ∧ (S 8 r1 ≤ x3 → px 4)))) px
def wX2_valueOf (V S T K : vs_St) (x1 : Int) (x2 : Int) (post : Int → Prop) (px : Nat → Prop) : Prop :=
  wX2_checkBlock V S T K x1 x2 (wX2_blockId x1 x2 (fun r1 => wX1_disksWithGoodCopy S r1 (fun r2 => (vs_R r2) ∧ (¬ r2 = 0 → (0 ≤ r1 ∧ r1 < 400) ∧ post (S 7 r1)) ∧ (r2 = 0 → px 4)))) px
def wX2_isLost (V S T K : vs_St) (x1 : Int) (x2 : Int) (post : Int → Prop) (px : Nat → Prop) : Prop :=
  wX2_checkBlock V S T K x1 x2 (wX2_blockId x1 x2 (fun r1 => wX1_hasLost S r1 (fun r2 => (r2 = 0 ∨ r2 = 1) ∧ post r2))) px
def wX2_lostBlocks (V S T K : vs_St) (post : Int → Prop) : Prop :=
  wX1_countLost S (fun r1 => post r1)
def wX2_degradedBlocks (V S T K : vs_St) (post : Int → Prop) : Prop :=
  wX1_countDegraded S (fun r1 => post r1)
def wX2_checkLosses (x0 : Int) (post : Prop) (px : Nat → Prop) : Prop :=
  (vs_R x0) ∧ (x0 < 0 → px 1) ∧ (0 ≤ x0 → (vs_R x0) ∧ (x0 ≤ 3 → post) ∧ (3 < x0 → px 1))
def wX2_doesBear (V S T K : vs_St) (x1 : Int) (post : Int → Prop) (px : Nat → Prop) : Prop :=
  wX2_checkLosses x1 (wX1_bearsByCounting S x1 (fun r1 => (r1 = 0 ∨ r1 = 1) ∧ post r1)) px
def wX2_doesBearByTrying (V S T K : vs_St) (x1 : Int) (post : Int → vs_St → Prop) (px : Nat → Prop) : Prop :=
  wX2_checkLosses x1 (wX1_bearsByTrying S x1 (fun r1 S2 => (r1 = 0 ∨ r1 = 1) ∧ post r1 S2)) px
def wX2_checkNotFailed (V S T K : vs_St) (x1 : Int) (post : Prop) (px : Nat → Prop) : Prop :=
  (0 ≤ x1 ∧ x1 < 8) ∧ (vs_R (S 3 x1)) ∧ (¬ (S 3 x1) = 102 → post) ∧ ((S 3 x1) = 102 → px 2)
def wX2_fail (V S T K : vs_St) (x1 : Int) (post : Int → vs_St → Prop) (px : Nat → Prop) : Prop :=
  wX2_checkDisk V S T K x1 (wX2_checkNotFailed V S T K x1 (wX1_breakDisk S x1 (fun r1 S2 => post r1 S2)) px) px
def wX2_replace (V S T K : vs_St) (x1 : Int) (post : Int → vs_St → Prop) (px : Nat → Prop) : Prop :=
  wX2_checkDisk V S T K x1 ((0 ≤ x1 ∧ x1 < 8) ∧ (vs_R (S 3 x1)) ∧ ((S 3 x1) = 102 → (0 ≤ x1 ∧ x1 < 8) ∧ ∀ S1 : vs_St, S1 = vs_st S 3 x1 115 → wX1_disksInState S1 115 (fun r2 => wJ6_bitCount_0f7a4 r2 (fun r3 => post r3 S1))) ∧ (¬ (S 3 x1) = 102 → px 2)) px
def wX2_warn (V S T K : vs_St) (x1 : Int) (post : Int → vs_St → Prop) (px : Nat → Prop) : Prop :=
  wX2_checkDisk V S T K x1 ((0 ≤ x1 ∧ x1 < 8) ∧ (vs_R (S 3 x1)) ∧ ((S 3 x1) = 115 → (0 ≤ x1 ∧ x1 < 8) ∧ ∀ S1 : vs_St, S1 = vs_st S 3 x1 119 → (0 ≤ x1 ∧ x1 < 8) ∧ post (S1 2 x1) S1) ∧ (¬ (S 3 x1) = 115 → px 2)) px
def wX2_rot (V S T K : vs_St) (x1 : Int) (x2 : Int) (post : Int → vs_St → Prop) (px : Nat → Prop) : Prop :=
  wX2_checkDisk V S T K x1 ((vs_R x2) ∧ (x2 < 0 → px 3) ∧ (0 ≤ x2 → (0 ≤ x1 ∧ x1 < 8) ∧ (vs_R x2) ∧ (vs_R (S 1 x1)) ∧ (x2 < S 1 x1 → ∀ v1 : Int, v1 = (x1 * 32) + x2 → (0 ≤ v1 ∧ v1 < 256) ∧ (vs_R (S 4 v1)) ∧ (¬ (S 4 v1) = (-1) → (0 ≤ v1 ∧ v1 < 256) ∧ ∀ v2 : Int, v2 = S 5 v1 → (0 ≤ v1 ∧ v1 < 256) ∧ ∀ S3 : vs_St, S3 = vs_st S 5 v1 1 → (v2 = 0 ∨ v2 = 1) ∧ post v2 S3) ∧ ((S 4 v1) = (-1) → px 4)) ∧ (S 1 x1 ≤ x2 → px 3))) px
def wX2_scrub (V S T K : vs_St) (x1 : Int) (post : Int → vs_St → Prop) (px : Nat → Prop) : Prop :=
  wX2_checkDisk V S T K x1 (wX2_checkNotFailed V S T K x1 (wX1_healDisk S x1 (fun r1 S2 => post r1 S2)) px) px
def wX2_rottenOn (V S T K : vs_St) (x1 : Int) (post : Int → Prop) (px : Nat → Prop) : Prop :=
  wX2_checkDisk V S T K x1 (wX1_countRotten S x1 (fun r1 => post r1)) px
def wX2_rebuilt (V S T K : vs_St) (post : Int → Prop) : Prop :=
  post (V 6 0)
def wX2_isConsistent (V S T K : vs_St) (post : Int → Prop) : Prop :=
  wX1_agreesWithDisks S (fun r1 => (r1 = 0 ∨ r1 = 1) ∧ post r1)
