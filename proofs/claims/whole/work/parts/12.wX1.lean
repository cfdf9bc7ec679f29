/-! what each method of class X1 asks and answers, by program -/
def wX1_installDisk (S : vs_St) (x1 : Int) (post : Int → vs_St → Prop) : Prop :=
  (0 ≤ S 0 0 ∧ S 0 0 < 8) ∧ ∀ S1 : vs_St, S1 = vs_st S 1 (S 0 0) x1 → (0 ≤ S1 0 0 ∧ S1 0 0 < 8) ∧ ∀ S2 : vs_St, S2 = vs_st S1 3 (S1 0 0) 115 → ∀ S3 : vs_St, S3 = vs_st S2 0 0 ((S2 0 0) + 1) → post (S2 0 0) S3
def lX1_disksInState_4 (S : vs_St) (x1 : Int) (K4 : Int → Int → Prop) (post : Int → Prop) (x2 : Int) (x3 : Int) : Prop :=
  (vs_R x3) ∧ (vs_R (S 0 0)) ∧ (S 0 0 ≤ x3 → post x2) ∧ (x3 < S 0 0 → (0 ≤ x3 ∧ x3 < 8) ∧ (vs_R (S 3 x3)) ∧ (vs_R x1) ∧ (¬ (S 3 x3) = x1 → K4 x2 (x3 + 1)) ∧ ((S 3 x3) = x1 → ∀ v1 : Int, v1 = vs_or x2 (vs_shl 1 x3) → K4 v1 (x3 + 1)))
def wX1_disksInState (S : vs_St) (x1 : Int) (post : Int → Prop) : Prop :=
  ∃ (J4 : Int → Int → Prop) (μ4 : Int → Int → Nat), J4 0 0 ∧ ∀ (y4_0 : Int) (y4_1 : Int), J4 y4_0 y4_1 → lX1_disksInState_4 S x1 (fun z4_0 z4_1 => J4 z4_0 z4_1 ∧ μ4 z4_0 z4_1 < μ4 y4_0 y4_1) post y4_0 y4_1
def wX1_wantedOf (S : vs_St) (x1 : Int) (post : Int → Prop) : Prop :=
  (0 ≤ x1 ∧ x1 ≤ 2147483647) ∧ (0 ≤ x1 / 100 ∧ x1 / 100 < 4) ∧ post (S 6 (x1 / 100))
def wX1_addressOf (S : vs_St) (x1 : Int) (x2 : Int) (post : Int → Prop) : Prop :=
  (0 ≤ (x1 * 3) + x2 ∧ (x1 * 3) + x2 < 1200) ∧ post (S 9 ((x1 * 3) + x2))
def lX1_disksWithCopy_4 (S : vs_St) (x1 : Int) (K4 : Int → Int → Prop) (post : Int → Prop) (x2 : Int) (x3 : Int) : Prop :=
  (0 ≤ x1 ∧ x1 < 400) ∧ (vs_R x3) ∧ (vs_R (S 8 x1)) ∧ (S 8 x1 ≤ x3 → post x2) ∧ (x3 < S 8 x1 → wX1_addressOf S x1 x3 (fun r1 => (0 ≤ r1 ∧ r1 ≤ 2147483647) ∧ ∀ v2 : Int, v2 = vs_or x2 (vs_shl 1 (r1 / 32)) → K4 v2 (x3 + 1)))
def wX1_disksWithCopy (S : vs_St) (x1 : Int) (post : Int → Prop) : Prop :=
  ∃ (J4 : Int → Int → Prop) (μ4 : Int → Int → Nat), J4 0 0 ∧ ∀ (y4_0 : Int) (y4_1 : Int), J4 y4_0 y4_1 → lX1_disksWithCopy_4 S x1 (fun z4_0 z4_1 => J4 z4_0 z4_1 ∧ μ4 z4_0 z4_1 < μ4 y4_0 y4_1) post y4_0 y4_1
def lX1_disksWithGoodCopy_4 (S : vs_St) (x1 : Int) (K4 : Int → Int → Prop) (post : Int → Prop) (x2 : Int) (x3 : Int) : Prop :=
  (0 ≤ x1 ∧ x1 < 400) ∧ (vs_R x3) ∧ (vs_R (S 8 x1)) ∧ (S 8 x1 ≤ x3 → post x2) ∧ (x3 < S 8 x1 → wX1_addressOf S x1 x3 (fun r1 => (0 ≤ r1 ∧ r1 < 256) ∧ (vs_R (S 5 r1)) ∧ (¬ (S 5 r1) = 0 → K4 x2 (x3 + 1)) ∧ ((S 5 r1) = 0 → (0 ≤ r1 ∧ r1 ≤ 2147483647) ∧ ∀ v2 : Int, v2 = vs_or x2 (vs_shl 1 (r1 / 32)) → K4 v2 (x3 + 1))))
def wX1_disksWithGoodCopy (S : vs_St) (x1 : Int) (post : Int → Prop) : Prop :=
  ∃ (J4 : Int → Int → Prop) (μ4 : Int → Int → Nat), J4 0 0 ∧ ∀ (y4_0 : Int) (y4_1 : Int), J4 y4_0 y4_1 → lX1_disksWithGoodCopy_4 S x1 (fun z4_0 z4_1 => J4 z4_0 z4_1 ∧ μ4 z4_0 z4_1 < μ4 y4_0 y4_1) post y4_0 y4_1
def wX1_hasLost (S : vs_St) (x1 : Int) (post : Int → Prop) : Prop :=
  (0 ≤ x1 ∧ x1 < 400) ∧ (vs_R (S 7 x1)) ∧ ((S 7 x1) = (-1) → post 0) ∧ (¬ (S 7 x1) = (-1) → wX1_disksWithGoodCopy S x1 (fun r1 => (vs_R r1) ∧ (¬ r1 = 0 → post 0) ∧ (r1 = 0 → post 1)))
def lX1_countWritten_4 (S : vs_St) (x1 : Int) (K4 : Int → Int → Prop) (post : Int → Prop) (x2 : Int) (x3 : Int) : Prop :=
  (vs_R x3) ∧ (vs_R (S 10 0)) ∧ (S 10 0 ≤ x3 → post x2) ∧ (x3 < S 10 0 → (0 ≤ x3 ∧ x3 < 400) ∧ (0 ≤ S 11 x3 ∧ S 11 x3 ≤ 2147483647) ∧ (vs_R ((S 11 x3) / 100)) ∧ (vs_R x1) ∧ (¬ ((S 11 x3) / 100) = x1 → K4 x2 (x3 + 1)) ∧ (((S 11 x3) / 100) = x1 → K4 (x2 + 1) (x3 + 1)))
def wX1_countWritten (S : vs_St) (x1 : Int) (post : Int → Prop) : Prop :=
  ∃ (J4 : Int → Int → Prop) (μ4 : Int → Int → Nat), J4 0 0 ∧ ∀ (y4_0 : Int) (y4_1 : Int), J4 y4_0 y4_1 → lX1_countWritten_4 S x1 (fun z4_0 z4_1 => J4 z4_0 z4_1 ∧ μ4 z4_0 z4_1 < μ4 y4_0 y4_1) post y4_0 y4_1
def lX1_countLost_4 (S : vs_St) (K4 : Int → Int → Prop) (post : Int → Prop) (x1 : Int) (x2 : Int) : Prop :=
  (vs_R x2) ∧ (vs_R (S 10 0)) ∧ (S 10 0 ≤ x2 → post x1) ∧ (x2 < S 10 0 → (0 ≤ x2 ∧ x2 < 400) ∧ wX1_hasLost S (S 11 x2) (fun r1 => (vs_R r1) ∧ (r1 = 0 → K4 x1 (x2 + 1)) ∧ (¬ r1 = 0 → K4 (x1 + 1) (x2 + 1))))
def wX1_countLost (S : vs_St) (post : Int → Prop) : Prop :=
  ∃ (J4 : Int → Int → Prop) (μ4 : Int → Int → Nat), J4 0 0 ∧ ∀ (y4_0 : Int) (y4_1 : Int), J4 y4_0 y4_1 → lX1_countLost_4 S (fun z4_0 z4_1 => J4 z4_0 z4_1 ∧ μ4 z4_0 z4_1 < μ4 y4_0 y4_1) post y4_0 y4_1
def lX1_countDegraded_4 (S : vs_St) (K4 : Int → Int → Prop) (post : Int → Prop) (x1 : Int) (x2 : Int) : Prop :=
  (vs_R x2) ∧ (vs_R (S 10 0)) ∧ (S 10 0 ≤ x2 → post x1) ∧ (x2 < S 10 0 → (0 ≤ x2 ∧ x2 < 400) ∧ (0 ≤ S 11 x2 ∧ S 11 x2 < 400) ∧ (0 ≤ x2 ∧ x2 < 400) ∧ wX1_wantedOf S (S 11 x2) (fun r1 => (vs_R (S 8 (S 11 x2))) ∧ (vs_R r1) ∧ (r1 ≤ (S 8 (S 11 x2)) → K4 x1 (x2 + 1)) ∧ ((S 8 (S 11 x2)) < r1 → K4 (x1 + 1) (x2 + 1))))
def wX1_countDegraded (S : vs_St) (post : Int → Prop) : Prop :=
  ∃ (J4 : Int → Int → Prop) (μ4 : Int → Int → Nat), J4 0 0 ∧ ∀ (y4_0 : Int) (y4_1 : Int), J4 y4_0 y4_1 → lX1_countDegraded_4 S (fun z4_0 z4_1 => J4 z4_0 z4_1 ∧ μ4 z4_0 z4_1 < μ4 y4_0 y4_1) post y4_0 y4_1
def lX1_countInSlots_4 (S : vs_St) (x1 : Int) (K4 : Int → Int → Prop) (post : Int → Prop) (x2 : Int) (x3 : Int) : Prop :=
  (vs_R x3) ∧ (256 ≤ x3 → post x2) ∧ (x3 < 256 → (0 ≤ x3 ∧ x3 < 256) ∧ (vs_R (S 4 x3)) ∧ (vs_R x1) ∧ (¬ (S 4 x3) = x1 → K4 x2 (x3 + 1)) ∧ ((S 4 x3) = x1 → K4 (x2 + 1) (x3 + 1)))
def wX1_countInSlots (S : vs_St) (x1 : Int) (post : Int → Prop) : Prop :=
  ∃ (J4 : Int → Int → Prop) (μ4 : Int → Int → Nat), J4 0 0 ∧ ∀ (y4_0 : Int) (y4_1 : Int), J4 y4_0 y4_1 → lX1_countInSlots_4 S x1 (fun z4_0 z4_1 => J4 z4_0 z4_1 ∧ μ4 z4_0 z4_1 < μ4 y4_0 y4_1) post y4_0 y4_1
def wX1_freeOn (S : vs_St) (x1 : Int) (post : Int → Prop) : Prop :=
  (0 ≤ x1 ∧ x1 < 8) ∧ (0 ≤ x1 ∧ x1 < 8) ∧ post ((S 1 x1) - (S 2 x1))
def lX1_firstFreeOn_7 (S : vs_St) (x1 : Int) (x2 : Int) (K7 : Int → Prop) (post : Int → Prop) (x3 : Int) : Prop :=
  (0 ≤ x1 ∧ x1 < 8) ∧ (vs_R x3) ∧ (vs_R (x2 + (S 1 x1))) ∧ (x2 + (S 1 x1) ≤ x3 → post (-1)) ∧ (x3 < x2 + (S 1 x1) → (0 ≤ x3 ∧ x3 < 256) ∧ (vs_R (S 4 x3)) ∧ (¬ (S 4 x3) = (-1) → K7 (x3 + 1)) ∧ ((S 4 x3) = (-1) → post x3))
def wX1_firstFreeOn (S : vs_St) (x1 : Int) (post : Int → Prop) : Prop :=
  ∀ v1 : Int, v1 = x1 * 32 → ∃ (J7 : Int → Prop) (μ7 : Int → Nat), J7 v1 ∧ ∀ (y7_0 : Int), J7 y7_0 → lX1_firstFreeOn_7 S x1 v1 (fun z7_0 => J7 z7_0 ∧ μ7 z7_0 < μ7 y7_0) post y7_0
def lX1_findPlace_7 (S : vs_St) (x1 : Int) (K7 : Int → Int → Int → Prop) (post : Int → Prop) (x2 : Int) (x3 : Int) (x4 : Int) : Prop :=
  (vs_R x4) ∧ (vs_R (S 0 0)) ∧ (S 0 0 ≤ x4 → (vs_R x2) ∧ (¬ x2 = (-1) → wX1_firstFreeOn S x2 (fun r2 => post r2)) ∧ (x2 = (-1) → post (-1))) ∧ (x4 < S 0 0 → (0 ≤ x4 ∧ x4 < 8) ∧ (vs_R (S 3 x4)) ∧ (¬ (S 3 x4) = 115 → K7 x2 x3 (x4 + 1)) ∧ ((S 3 x4) = 115 → (vs_R (vs_and (vs_shr x1 x4) 1)) ∧ (¬ (vs_and (vs_shr x1 x4) 1) = 0 → K7 x2 x3 (x4 + 1)) ∧ ((vs_and (vs_shr x1 x4) 1) = 0 → wX1_freeOn S x4 (fun r3 => (vs_R r3) ∧ (vs_R x3) ∧ (r3 ≤ x3 → K7 x2 x3 (x4 + 1)) ∧ (x3 < r3 → wX1_freeOn S x4 (fun r4 => K7 x4 r4 (x4 + 1)))))))
def wX1_findPlace (S : vs_St) (x1 : Int) (post : Int → Prop) : Prop :=
  ∀ v1 : Int, v1 = (-1) → ∃ (J7 : Int → Int → Int → Prop) (μ7 : Int → Int → Int → Nat), J7 v1 0 0 ∧ ∀ (y7_0 : Int) (y7_1 : Int) (y7_2 : Int), J7 y7_0 y7_1 y7_2 → lX1_findPlace_7 S x1 (fun z7_0 z7_1 z7_2 => J7 z7_0 z7_1 z7_2 ∧ μ7 z7_0 z7_1 z7_2 < μ7 y7_0 y7_1 y7_2) post y7_0 y7_1 y7_2
def wX1_addCopy (S : vs_St) (x1 : Int) (x2 : Int) (post : vs_St → Prop) : Prop :=
  (0 ≤ x2 ∧ x2 < 256) ∧ ∀ S1 : vs_St, S1 = vs_st S 4 x2 x1 → (0 ≤ x2 ∧ x2 < 256) ∧ ∀ S2 : vs_St, S2 = vs_st S1 5 x2 0 → (0 ≤ x2 ∧ x2 ≤ 2147483647) ∧ (0 ≤ x2 / 32 ∧ x2 / 32 < 8) ∧ (0 ≤ x2 / 32 ∧ x2 / 32 < 8) ∧ ∀ S3 : vs_St, S3 = vs_st S2 2 (x2 / 32) ((S2 2 (x2 / 32)) + 1) → (0 ≤ x1 ∧ x1 < 400) ∧ (0 ≤ (x1 * 3) + (S3 8 x1) ∧ (x1 * 3) + (S3 8 x1) < 1200) ∧ ∀ S4 : vs_St, S4 = vs_st S3 9 ((x1 * 3) + (S3 8 x1)) x2 → (0 ≤ x1 ∧ x1 < 400) ∧ (0 ≤ x1 ∧ x1 < 400) ∧ ∀ S5 : vs_St, S5 = vs_st S4 8 x1 ((S4 8 x1) + 1) → post S5
def lX1_removeCopy_52 (x1 : Int) (x4 : Int) (K52 : Int → vs_St → Prop) (post : vs_St → Prop) (x5 : Int) (S : vs_St) : Prop :=
  (0 ≤ x1 ∧ x1 < 400) ∧ (vs_R x5) ∧ (vs_R (S 8 x1)) ∧ (S 8 x1 ≤ x5 → post S) ∧ (x5 < S 8 x1 → (0 ≤ (x4 + x5) + 1 ∧ (x4 + x5) + 1 < 1200) ∧ (0 ≤ x4 + x5 ∧ x4 + x5 < 1200) ∧ ∀ S7 : vs_St, S7 = vs_st S 9 (x4 + x5) (S 9 ((x4 + x5) + 1)) → K52 (x5 + 1) S7)
def wX1_removeCopy (S : vs_St) (x1 : Int) (x2 : Int) (post : vs_St → Prop) : Prop :=
  wX1_addressOf S x1 x2 (fun r1 => (0 ≤ r1 ∧ r1 < 256) ∧ ∀ S2 : vs_St, S2 = vs_st S 4 r1 (-1) → (0 ≤ r1 ∧ r1 < 256) ∧ ∀ S3 : vs_St, S3 = vs_st S2 5 r1 0 → (0 ≤ r1 ∧ r1 ≤ 2147483647) ∧ (0 ≤ r1 / 32 ∧ r1 / 32 < 8) ∧ (0 ≤ r1 / 32 ∧ r1 / 32 < 8) ∧ ∀ S4 : vs_St, S4 = vs_st S3 2 (r1 / 32) ((S3 2 (r1 / 32)) - 1) → (0 ≤ x1 ∧ x1 < 400) ∧ (0 ≤ x1 ∧ x1 < 400) ∧ ∀ S5 : vs_St, S5 = vs_st S4 8 x1 ((S4 8 x1) - 1) → ∀ v6 : Int, v6 = x1 * 3 → ∃ (J52 : Int → vs_St → Prop) (μ52 : Int → vs_St → Nat), J52 x2 S5 ∧ ∀ (y52_0 : Int) (y52_1 : vs_St), J52 y52_0 y52_1 → lX1_removeCopy_52 x1 v6 (fun z52_0 z52_1 => J52 z52_0 z52_1 ∧ μ52 z52_0 z52_1 < μ52 y52_0 y52_1) post y52_0 y52_1)
def lX1_renewCopies_2 (x1 : Int) (K2 : Int → vs_St → Prop) (post : vs_St → Prop) (x2 : Int) (S : vs_St) : Prop :=
  (0 ≤ x1 ∧ x1 < 400) ∧ (vs_R x2) ∧ (vs_R (S 8 x1)) ∧ (S 8 x1 ≤ x2 → post S) ∧ (x2 < S 8 x1 → wX1_addressOf S x1 x2 (fun r1 => (0 ≤ r1 ∧ r1 < 256) ∧ ∀ S2 : vs_St, S2 = vs_st S 5 r1 0 → K2 (x2 + 1) S2))
def wX1_renewCopies (S : vs_St) (x1 : Int) (post : vs_St → Prop) : Prop :=
  ∃ (J2 : Int → vs_St → Prop) (μ2 : Int → vs_St → Nat), J2 0 S ∧ ∀ (y2_0 : Int) (y2_1 : vs_St), J2 y2_0 y2_1 → lX1_renewCopies_2 x1 (fun z2_0 z2_1 => J2 z2_0 z2_1 ∧ μ2 z2_0 z2_1 < μ2 y2_0 y2_1) post y2_0 y2_1
def lX1_countPlacesAnew_11 (S : vs_St) (x2 : Int) (K11 : Int → Int → Prop) (post : Int → Prop) (x3 : Int) (x4 : Int) : Prop :=
  (vs_R x4) ∧ (vs_R (S 0 0)) ∧ (S 0 0 ≤ x4 → post x3) ∧ (x4 < S 0 0 → wX1_freeOn S x4 (fun r2 => (vs_R r2) ∧ (0 < r2 → (0 ≤ x4 ∧ x4 < 8) ∧ (vs_R (S 3 x4)) ∧ (¬ (S 3 x4) = 115 → K11 x3 (x4 + 1)) ∧ ((S 3 x4) = 115 → K11 (x3 + 1) (x4 + 1))) ∧ (r2 ≤ 0 → (vs_R (vs_and (vs_shr x2 x4) 1)) ∧ ((vs_and (vs_shr x2 x4) 1) = 0 → (0 ≤ x4 ∧ x4 < 8) ∧ (vs_R (S 3 x4)) ∧ (¬ (S 3 x4) = 115 → K11 x3 (x4 + 1)) ∧ ((S 3 x4) = 115 → K11 x3 (x4 + 1))) ∧ (¬ (vs_and (vs_shr x2 x4) 1) = 0 → (0 ≤ x4 ∧ x4 < 8) ∧ (vs_R (S 3 x4)) ∧ (¬ (S 3 x4) = 115 → K11 x3 (x4 + 1)) ∧ ((S 3 x4) = 115 → K11 (x3 + 1) (x4 + 1))))))
def wX1_countPlacesAnew (S : vs_St) (x1 : Int) (post : Int → Prop) : Prop :=
  wX1_disksWithCopy S x1 (fun r1 => ∃ (J11 : Int → Int → Prop) (μ11 : Int → Int → Nat), J11 0 0 ∧ ∀ (y11_0 : Int) (y11_1 : Int), J11 y11_0 y11_1 → lX1_countPlacesAnew_11 S r1 (fun z11_0 z11_1 => J11 z11_0 z11_1 ∧ μ11 z11_0 z11_1 < μ11 y11_0 y11_1) post y11_0 y11_1)
def lX1_removeCopies_9 (x1 : Int) (K9 : Int → vs_St → Prop) (post : vs_St → Prop) (x2 : Int) (S : vs_St) : Prop :=
  (vs_R x2) ∧ (x2 < 0 → post S) ∧ (0 ≤ x2 → wX1_removeCopy S x1 x2 (fun S2 => K9 (x2 + (-1)) S2))
def wX1_removeCopies (S : vs_St) (x1 : Int) (post : vs_St → Prop) : Prop :=
  (0 ≤ x1 ∧ x1 < 400) ∧ ∀ v1 : Int, v1 = (S 8 x1) - 1 → ∃ (J9 : Int → vs_St → Prop) (μ9 : Int → vs_St → Nat), J9 v1 S ∧ ∀ (y9_0 : Int) (y9_1 : vs_St), J9 y9_0 y9_1 → lX1_removeCopies_9 x1 (fun z9_0 z9_1 => J9 z9_0 z9_1 ∧ μ9 z9_0 z9_1 < μ9 y9_0 y9_1) post y9_0 y9_1
def lX1_completeBlock_20 (x1 : Int) (x3 : Int) (K20 : Int → vs_St → Prop) (post : Int → vs_St → Prop) (x4 : Int) (S : vs_St) : Prop :=
  (vs_R x4) ∧ (vs_R x3) ∧ (x3 ≤ x4 → (vs_R x3) ∧ post (max x3 0) S) ∧ (x4 < x3 → wX1_disksWithCopy S x1 (fun r3 => wX1_findPlace S r3 (fun r4 => (vs_R r4) ∧ (¬ r4 = (-1) → wX1_addCopy S x1 r4 (fun S5 => K20 (x4 + 1) S5)) ∧ (r4 = (-1) → post x4 S))))
def wX1_completeBlock (S : vs_St) (x1 : Int) (x2 : Int) (post : Int → vs_St → Prop) : Prop :=
  wX1_wantedOf S x1 (fun r1 => (0 ≤ x1 ∧ x1 < 400) ∧ (vs_R (r1 - (S 8 x1))) ∧ (vs_R x2) ∧ ∀ v2 : Int, v2 = min (r1 - (S 8 x1)) x2 → ∃ (J20 : Int → vs_St → Prop) (μ20 : Int → vs_St → Nat), J20 0 S ∧ ∀ (y20_0 : Int) (y20_1 : vs_St), J20 y20_0 y20_1 → lX1_completeBlock_20 x1 v2 (fun z20_0 z20_1 => J20 z20_0 z20_1 ∧ μ20 z20_0 z20_1 < μ20 y20_0 y20_1) post y20_0 y20_1)
def wX1_putValue (S : vs_St) (x1 : Int) (x2 : Int) (post : Int → vs_St → Prop) : Prop :=
  wX1_disksWithGoodCopy S x1 (fun r1 => (vs_R r1) ∧ (r1 = 0 → wX1_countPlacesAnew S x1 (fun r2 => wX1_wantedOf S x1 (fun r3 => (vs_R r2) ∧ (vs_R r3) ∧ (r2 < r3 → post 0 S) ∧ (r3 ≤ r2 → wX1_removeCopies S x1 (fun S4 => wX1_wantedOf S4 x1 (fun r5 => wX1_completeBlock S4 x1 r5 (fun r6 S7 => (0 ≤ x1 ∧ x1 < 400) ∧ (vs_R (S7 7 x1)) ∧ (¬ (S7 7 x1) = (-1) → (0 ≤ x1 ∧ x1 < 400) ∧ ∀ S8 : vs_St, S8 = vs_st S7 7 x1 x2 → post 1 S8) ∧ ((S7 7 x1) = (-1) → (0 ≤ S7 10 0 ∧ S7 10 0 < 400) ∧ ∀ S9 : vs_St, S9 = vs_st S7 11 (S7 10 0) x1 → ∀ S10 : vs_St, S10 = vs_st S9 10 0 ((S9 10 0) + 1) → (0 ≤ x1 ∧ x1 < 400) ∧ ∀ S11 : vs_St, S11 = vs_st S10 7 x1 x2 → post 1 S11)))))))) ∧ (¬ r1 = 0 → wX1_renewCopies S x1 (fun S12 => (0 ≤ x1 ∧ x1 < 400) ∧ (vs_R (S12 7 x1)) ∧ (¬ (S12 7 x1) = (-1) → (0 ≤ x1 ∧ x1 < 400) ∧ ∀ S13 : vs_St, S13 = vs_st S12 7 x1 x2 → post 1 S13) ∧ ((S12 7 x1) = (-1) → (0 ≤ S12 10 0 ∧ S12 10 0 < 400) ∧ ∀ S14 : vs_St, S14 = vs_st S12 11 (S12 10 0) x1 → ∀ S15 : vs_St, S15 = vs_st S14 10 0 ((S14 10 0) + 1) → (0 ≤ x1 ∧ x1 < 400) ∧ ∀ S16 : vs_St, S16 = vs_st S15 7 x1 x2 → post 1 S16))))
def lX1_emptyWarnedDisks_16 (x1 : Int) (x2 : Int) (x5 : Int) (K16 : Int → Int → Int → vs_St → Prop) (post : Int → vs_St → Prop) (x3 : Int) (x4 : Int) (x6 : Int) (S : vs_St) : Prop :=
  (vs_R x6) ∧ (vs_R x5) ∧ (x5 ≤ x6 → post x3 S) ∧ (x6 < x5 → (vs_R x3) ∧ (vs_R x2) ∧ (x2 ≤ x3 → post x3 S) ∧ (x3 < x2 → wX1_addressOf S x1 x4 (fun r2 => (0 ≤ r2 ∧ r2 ≤ 2147483647) ∧ ∀ v3 : Int, v3 = r2 / 32 → (0 ≤ v3 ∧ v3 < 8) ∧ (vs_R (S 3 v3)) ∧ (¬ (S 3 v3) = 119 → ∀ v4 : Int, v4 = (-1) → (vs_R v4) ∧ (¬ v4 = (-1) → wX1_removeCopy S x1 x4 (fun S5 => wX1_addCopy S5 x1 v4 (fun S6 => K16 (x3 + 1) x4 (x6 + 1) S6))) ∧ (v4 = (-1) → K16 x3 (x4 + 1) (x6 + 1) S)) ∧ ((S 3 v3) = 119 → wX1_disksWithCopy S x1 (fun r7 => wX1_findPlace S r7 (fun r8 => (vs_R r8) ∧ (¬ r8 = (-1) → wX1_removeCopy S x1 x4 (fun S9 => wX1_addCopy S9 x1 r8 (fun S10 => K16 (x3 + 1) x4 (x6 + 1) S10))) ∧ (r8 = (-1) → K16 x3 (x4 + 1) (x6 + 1) S)))))))
def wX1_emptyWarnedDisks (S : vs_St) (x1 : Int) (x2 : Int) (post : Int → vs_St → Prop) : Prop :=
  (0 ≤ x1 ∧ x1 < 400) ∧ ∀ v1 : Int, v1 = S 8 x1 → ∃ (J16 : Int → Int → Int → vs_St → Prop) (μ16 : Int → Int → Int → vs_St → Nat), J16 0 0 0 S ∧ ∀ (y16_0 : Int) (y16_1 : Int) (y16_2 : Int) (y16_3 : vs_St), J16 y16_0 y16_1 y16_2 y16_3 → lX1_emptyWarnedDisks_16 x1 x2 v1 (fun z16_0 z16_1 z16_2 z16_3 => J16 z16_0 z16_1 z16_2 z16_3 ∧ μ16 z16_0 z16_1 z16_2 z16_3 < μ16 y16_0 y16_1 y16_2 y16_3) post y16_0 y16_1 y16_2 y16_3
def lX1_rebuild_54 (x1 : Int) (K4 : Int → Int → vs_St → Prop) (K54 : Int → Int → vs_St → Prop) (post : Int → vs_St → Prop) (x2 : Int) (x3 : Int) (S : vs_St) : Prop :=
  (vs_R x3) ∧ (vs_R (S 10 0)) ∧ (S 10 0 ≤ x3 → post x2 S) ∧ (x3 < S 10 0 → (vs_R x2) ∧ (vs_R x1) ∧ (x1 ≤ x2 → post x2 S) ∧ (x2 < x1 → (0 ≤ x3 ∧ x3 < 400) ∧ wX1_hasLost S (S 11 x3) (fun r1 => (vs_R r1) ∧ (¬ r1 = 0 → K54 x2 (x3 + 1) S) ∧ (r1 = 0 → (0 ≤ x3 ∧ x3 < 400) ∧ wX1_emptyWarnedDisks S (S 11 x3) (x1 - x2) (fun r2 S3 => ∀ v4 : Int, v4 = x2 + r2 → K54 v4 (x3 + 1) S3)))))
def lX1_rebuild_4 (x1 : Int) (K4 : Int → Int → vs_St → Prop) (post : Int → vs_St → Prop) (x2 : Int) (x3 : Int) (S : vs_St) : Prop :=
  (vs_R x3) ∧ (vs_R (S 10 0)) ∧ (S 10 0 ≤ x3 → ∃ (J54 : Int → Int → vs_St → Prop) (μ54 : Int → Int → vs_St → Nat), J54 x2 0 S ∧ ∀ (y54_0 : Int) (y54_1 : Int) (y54_2 : vs_St), J54 y54_0 y54_1 y54_2 → lX1_rebuild_54 x1 K4 (fun z54_0 z54_1 z54_2 => J54 z54_0 z54_1 z54_2 ∧ μ54 z54_0 z54_1 z54_2 < μ54 y54_0 y54_1 y54_2) post y54_0 y54_1 y54_2) ∧ (x3 < S 10 0 → (vs_R x2) ∧ (vs_R x1) ∧ (x1 ≤ x2 → ∃ (J54 : Int → Int → vs_St → Prop) (μ54 : Int → Int → vs_St → Nat), J54 x2 0 S ∧ ∀ (y54_0 : Int) (y54_1 : Int) (y54_2 : vs_St), J54 y54_0 y54_1 y54_2 → lX1_rebuild_54 x1 K4 (fun z54_0 z54_1 z54_2 => J54 z54_0 z54_1 z54_2 ∧ μ54 z54_0 z54_1 z54_2 < μ54 y54_0 y54_1 y54_2) post y54_0 y54_1 y54_2) ∧ (x2 < x1 → (0 ≤ x3 ∧ x3 < 400) ∧ wX1_hasLost S (S 11 x3) (fun r5 => (vs_R r5) ∧ (¬ r5 = 0 → K4 x2 (x3 + 1) S) ∧ (r5 = 0 → (0 ≤ x3 ∧ x3 < 400) ∧ wX1_completeBlock S (S 11 x3) (x1 - x2) (fun r6 S7 => ∀ v8 : Int, v8 = x2 + r6 → K4 v8 (x3 + 1) S7)))))
def wX1_rebuild (S : vs_St) (x1 : Int) (post : Int → vs_St → Prop) : Prop :=
  ∃ (J4 : Int → Int → vs_St → Prop) (μ4 : Int → Int → vs_St → Nat), J4 0 0 S ∧ ∀ (y4_0 : Int) (y4_1 : Int) (y4_2 : vs_St), J4 y4_0 y4_1 y4_2 → lX1_rebuild_4 x1 (fun z4_0 z4_1 z4_2 => J4 z4_0 z4_1 z4_2 ∧ μ4 z4_0 z4_1 z4_2 < μ4 y4_0 y4_1 y4_2) post y4_0 y4_1 y4_2
def lX1_removeCopyAt_9 (S : vs_St) (x1 : Int) (x2 : Int) (K9 : Int → Prop) (post : vs_St → Prop) (x3 : Int) : Prop :=
  (0 ≤ x2 ∧ x2 < 400) ∧ (vs_R x3) ∧ (vs_R (S 8 x2)) ∧ (S 8 x2 ≤ x3 → post S) ∧ (x3 < S 8 x2 → wX1_addressOf S x2 x3 (fun r2 => (vs_R r2) ∧ (vs_R x1) ∧ (¬ r2 = x1 → K9 (x3 + 1)) ∧ (r2 = x1 → wX1_removeCopy S x2 x3 (fun S3 => post S3))))
def wX1_removeCopyAt (S : vs_St) (x1 : Int) (post : vs_St → Prop) : Prop :=
  (0 ≤ x1 ∧ x1 < 256) ∧ ∀ v1 : Int, v1 = S 4 x1 → ∃ (J9 : Int → Prop) (μ9 : Int → Nat), J9 0 ∧ ∀ (y9_0 : Int), J9 y9_0 → lX1_removeCopyAt_9 S x1 v1 (fun z9_0 => J9 z9_0 ∧ μ9 z9_0 < μ9 y9_0) post y9_0
def lX1_breakDisk_15 (x1 : Int) (x2 : Int) (x3 : Int) (K15 : Int → vs_St → Prop) (post : Int → vs_St → Prop) (x4 : Int) (S : vs_St) : Prop :=
  (0 ≤ x1 ∧ x1 < 8) ∧ (vs_R x4) ∧ (vs_R (x3 + (S 1 x1))) ∧ (x3 + (S 1 x1) ≤ x4 → (0 ≤ x1 ∧ x1 < 8) ∧ ∀ S3 : vs_St, S3 = vs_st S 3 x1 102 → post x2 S3) ∧ (x4 < x3 + (S 1 x1) → (0 ≤ x4 ∧ x4 < 256) ∧ (vs_R (S 4 x4)) ∧ ((S 4 x4) = (-1) → K15 (x4 + 1) S) ∧ (¬ (S 4 x4) = (-1) → wX1_removeCopyAt S x4 (fun S4 => K15 (x4 + 1) S4)))
def wX1_breakDisk (S : vs_St) (x1 : Int) (post : Int → vs_St → Prop) : Prop :=
  (0 ≤ x1 ∧ x1 < 8) ∧ ∀ v1 : Int, v1 = S 2 x1 → ∀ v2 : Int, v2 = x1 * 32 → ∃ (J15 : Int → vs_St → Prop) (μ15 : Int → vs_St → Nat), J15 v2 S ∧ ∀ (y15_0 : Int) (y15_1 : vs_St), J15 y15_0 y15_1 → lX1_breakDisk_15 x1 v1 v2 (fun z15_0 z15_1 => J15 z15_0 z15_1 ∧ μ15 z15_0 z15_1 < μ15 y15_0 y15_1) post y15_0 y15_1
def lX1_healDisk_10 (x1 : Int) (x3 : Int) (K10 : Int → Int → vs_St → Prop) (post : Int → vs_St → Prop) (x2 : Int) (x4 : Int) (S : vs_St) : Prop :=
  (0 ≤ x1 ∧ x1 < 8) ∧ (vs_R x4) ∧ (vs_R (x3 + (S 1 x1))) ∧ (x3 + (S 1 x1) ≤ x4 → post x2 S) ∧ (x4 < x3 + (S 1 x1) → (0 ≤ x4 ∧ x4 < 256) ∧ ∀ v2 : Int, v2 = S 4 x4 → (vs_R v2) ∧ (v2 = (-1) → K10 x2 (x4 + 1) S) ∧ (¬ v2 = (-1) → (0 ≤ x4 ∧ x4 < 256) ∧ (vs_R (S 5 x4)) ∧ ((S 5 x4) = 0 → K10 x2 (x4 + 1) S) ∧ (¬ (S 5 x4) = 0 → wX1_disksWithGoodCopy S v2 (fun r3 => (vs_R r3) ∧ (r3 = 0 → K10 x2 (x4 + 1) S) ∧ (¬ r3 = 0 → (0 ≤ x4 ∧ x4 < 256) ∧ ∀ S4 : vs_St, S4 = vs_st S 5 x4 0 → K10 (x2 + 1) (x4 + 1) S4)))))
def wX1_healDisk (S : vs_St) (x1 : Int) (post : Int → vs_St → Prop) : Prop :=
  ∀ v1 : Int, v1 = x1 * 32 → ∃ (J10 : Int → Int → vs_St → Prop) (μ10 : Int → Int → vs_St → Nat), J10 0 v1 S ∧ ∀ (y10_0 : Int) (y10_1 : Int) (y10_2 : vs_St), J10 y10_0 y10_1 y10_2 → lX1_healDisk_10 x1 v1 (fun z10_0 z10_1 z10_2 => J10 z10_0 z10_1 z10_2 ∧ μ10 z10_0 z10_1 z10_2 < μ10 y10_0 y10_1 y10_2) post y10_0 y10_1 y10_2
def lX1_countRotten_10 (S : vs_St) (x1 : Int) (x3 : Int) (K10 : Int → Int → Prop) (post : Int → Prop) (x2 : Int) (x4 : Int) : Prop :=
  (0 ≤ x1 ∧ x1 < 8) ∧ (vs_R x4) ∧ (vs_R (x3 + (S 1 x1))) ∧ (x3 + (S 1 x1) ≤ x4 → post x2) ∧ (x4 < x3 + (S 1 x1) → (0 ≤ x4 ∧ x4 < 256) ∧ (vs_R (S 5 x4)) ∧ ((S 5 x4) = 0 → K10 x2 (x4 + 1)) ∧ (¬ (S 5 x4) = 0 → K10 (x2 + 1) (x4 + 1)))
def wX1_countRotten (S : vs_St) (x1 : Int) (post : Int → Prop) : Prop :=
  ∀ v1 : Int, v1 = x1 * 32 → ∃ (J10 : Int → Int → Prop) (μ10 : Int → Int → Nat), J10 0 v1 ∧ ∀ (y10_0 : Int) (y10_1 : Int), J10 y10_0 y10_1 → lX1_countRotten_10 S x1 v1 (fun z10_0 z10_1 => J10 z10_0 z10_1 ∧ μ10 z10_0 z10_1 < μ10 y10_0 y10_1) post y10_0 y10_1
def lX1_bearsByCounting_2 (S : vs_St) (x1 : Int) (K2 : Int → Prop) (post : Int → Prop) (x2 : Int) : Prop :=
  (vs_R x2) ∧ (vs_R (S 10 0)) ∧ (S 10 0 ≤ x2 → post 1) ∧ (x2 < S 10 0 → (0 ≤ x2 ∧ x2 < 400) ∧ wX1_disksWithGoodCopy S (S 11 x2) (fun r1 => wJ6_bitCount_0f7a4 r1 (fun r2 => (vs_R r2) ∧ (r2 = 0 → K2 (x2 + 1)) ∧ (¬ r2 = 0 → (vs_R r2) ∧ (vs_R x1) ∧ (x1 < r2 → K2 (x2 + 1)) ∧ (r2 ≤ x1 → post 0)))))
def wX1_bearsByCounting (S : vs_St) (x1 : Int) (post : Int → Prop) : Prop :=
  ∃ (J2 : Int → Prop) (μ2 : Int → Nat), J2 0 ∧ ∀ (y2_0 : Int), J2 y2_0 → lX1_bearsByCounting_2 S x1 (fun z2_0 => J2 z2_0 ∧ μ2 z2_0 < μ2 y2_0) post y2_0
def lX1_doesLose_2 (S : vs_St) (x1 : Int) (K2 : Int → Prop) (post : Int → Prop) (x2 : Int) : Prop :=
  (vs_R x2) ∧ (vs_R (S 10 0)) ∧ (S 10 0 ≤ x2 → post 0) ∧ (x2 < S 10 0 → (0 ≤ x2 ∧ x2 < 400) ∧ (vs_R (S 12 x2)) ∧ ((S 12 x2) = 0 → K2 (x2 + 1)) ∧ (¬ (S 12 x2) = 0 → (0 ≤ x2 ∧ x2 < 400) ∧ (vs_R (vs_and (S 12 x2) (vs_xor x1 (-1)))) ∧ (¬ (vs_and (S 12 x2) (vs_xor x1 (-1))) = 0 → K2 (x2 + 1)) ∧ ((vs_and (S 12 x2) (vs_xor x1 (-1))) = 0 → post 1)))
def wX1_doesLose (S : vs_St) (x1 : Int) (post : Int → Prop) : Prop :=
  ∃ (J2 : Int → Prop) (μ2 : Int → Nat), J2 0 ∧ ∀ (y2_0 : Int), J2 y2_0 → lX1_doesLose_2 S x1 (fun z2_0 => J2 z2_0 ∧ μ2 z2_0 < μ2 y2_0) post y2_0
def lX1_bearsByTrying_56 (S : vs_St) (x2 : Int) (x3 : Int) (K2 : Int → vs_St → Prop) (K56 : Int → Prop) (post : Int → vs_St → Prop) (x4 : Int) : Prop :=
  (vs_R x4) ∧ (vs_R (vs_shl 1 (S 0 0))) ∧ (vs_shl 1 (S 0 0) ≤ x4 → post 1 S) ∧ (x4 < vs_shl 1 (S 0 0) → (vs_R (vs_and x4 x2)) ∧ (¬ (vs_and x4 x2) = 0 → K56 (x4 + 1)) ∧ ((vs_and x4 x2) = 0 → wJ6_bitCount_0f7a4 x4 (fun r4 => (vs_R r4) ∧ (vs_R x3) ∧ (¬ r4 = x3 → K56 (x4 + 1)) ∧ (r4 = x3 → wX1_doesLose S x4 (fun r5 => (vs_R r5) ∧ (r5 = 0 → K56 (x4 + 1)) ∧ (¬ r5 = 0 → post 0 S))))))
def lX1_bearsByTrying_2 (x1 : Int) (K2 : Int → vs_St → Prop) (post : Int → vs_St → Prop) (x2 : Int) (S : vs_St) : Prop :=
  (vs_R x2) ∧ (vs_R (S 10 0)) ∧ (S 10 0 ≤ x2 → wX1_disksInState S 102 (fun r1 => wJ6_bitCount_0f7a4 r1 (fun r2 => (vs_R x1) ∧ (vs_R ((S 0 0) - r2)) ∧ ∀ v3 : Int, v3 = min x1 ((S 0 0) - r2) → ∃ (J56 : Int → Prop) (μ56 : Int → Nat), J56 0 ∧ ∀ (y56_0 : Int), J56 y56_0 → lX1_bearsByTrying_56 S r1 v3 K2 (fun z56_0 => J56 z56_0 ∧ μ56 z56_0 < μ56 y56_0) post y56_0))) ∧ (x2 < S 10 0 → (0 ≤ x2 ∧ x2 < 400) ∧ wX1_disksWithGoodCopy S (S 11 x2) (fun r6 => (0 ≤ x2 ∧ x2 < 400) ∧ ∀ S7 : vs_St, S7 = vs_st S 12 x2 r6 → K2 (x2 + 1) S7))
def wX1_bearsByTrying (S : vs_St) (x1 : Int) (post : Int → vs_St → Prop) : Prop :=
  ∃ (J2 : Int → vs_St → Prop) (μ2 : Int → vs_St → Nat), J2 0 S ∧ ∀ (y2_0 : Int) (y2_1 : vs_St), J2 y2_0 y2_1 → lX1_bearsByTrying_2 x1 (fun z2_0 z2_1 => J2 z2_0 z2_1 ∧ μ2 z2_0 z2_1 < μ2 y2_0 y2_1) post y2_0 y2_1
def lX1_countCopies_4 (S : vs_St) (K4 : Int → Int → Prop) (post : Int → Prop) (x1 : Int) (x2 : Int) : Prop :=
  (vs_R x2) ∧ (vs_R (S 10 0)) ∧ (S 10 0 ≤ x2 → post x1) ∧ (x2 < S 10 0 → (0 ≤ x2 ∧ x2 < 400) ∧ (0 ≤ S 11 x2 ∧ S 11 x2 < 400) ∧ ∀ v1 : Int, v1 = x1 + (S 8 (S 11 x2)) → K4 v1 (x2 + 1))
def wX1_countCopies (S : vs_St) (post : Int → Prop) : Prop :=
  ∃ (J4 : Int → Int → Prop) (μ4 : Int → Int → Nat), J4 0 0 ∧ ∀ (y4_0 : Int) (y4_1 : Int), J4 y4_0 y4_1 → lX1_countCopies_4 S (fun z4_0 z4_1 => J4 z4_0 z4_1 ∧ μ4 z4_0 z4_1 < μ4 y4_0 y4_1) post y4_0 y4_1
def lX1_countSlots_4 (S : vs_St) (K4 : Int → Int → Prop) (post : Int → Prop) (x1 : Int) (x2 : Int) : Prop :=
  (vs_R x2) ∧ (vs_R (S 0 0)) ∧ (S 0 0 ≤ x2 → post x1) ∧ (x2 < S 0 0 → (0 ≤ x2 ∧ x2 < 8) ∧ (vs_R (S 3 x2)) ∧ ((S 3 x2) = 102 → K4 x1 (x2 + 1)) ∧ (¬ (S 3 x2) = 102 → (0 ≤ x2 ∧ x2 < 8) ∧ ∀ v1 : Int, v1 = x1 + (S 1 x2) → K4 v1 (x2 + 1)))
def wX1_countSlots (S : vs_St) (post : Int → Prop) : Prop :=
  ∃ (J4 : Int → Int → Prop) (μ4 : Int → Int → Nat), J4 0 0 ∧ ∀ (y4_0 : Int) (y4_1 : Int), J4 y4_0 y4_1 → lX1_countSlots_4 S (fun z4_0 z4_1 => J4 z4_0 z4_1 ∧ μ4 z4_0 z4_1 < μ4 y4_0 y4_1) post y4_0 y4_1
def lX1_agreesWithDisks_9 (S : vs_St) (x1 : Int) (K9 : Int → Prop) (post : Int → Prop) (x2 : Int) : Prop :=
  (vs_R x2) ∧ (vs_R (S 10 0)) ∧ (S 10 0 ≤ x2 → post 1) ∧ (x2 < S 10 0 → (0 ≤ x2 ∧ x2 < 400) ∧ ∀ v2 : Int, v2 = S 11 x2 → wX1_disksWithCopy S v2 (fun r3 => (0 ≤ v2 ∧ v2 < 400) ∧ wX1_countInSlots S v2 (fun r4 => (vs_R (S 8 v2)) ∧ (vs_R r4) ∧ (¬ (S 8 v2) = r4 → post 0) ∧ ((S 8 v2) = r4 → wJ6_bitCount_0f7a4 r3 (fun r5 => (0 ≤ v2 ∧ v2 < 400) ∧ (vs_R r5) ∧ (vs_R (S 8 v2)) ∧ (¬ r5 = S 8 v2 → post 0) ∧ (r5 = S 8 v2 → (vs_R (vs_and r3 x1)) ∧ ((vs_and r3 x1) = 0 → K9 (x2 + 1)) ∧ (¬ (vs_and r3 x1) = 0 → post 0)))))))
def wX1_agreesWithDisks (S : vs_St) (post : Int → Prop) : Prop :=
  wX1_disksInState S 102 (fun r1 => ∃ (J9 : Int → Prop) (μ9 : Int → Nat), J9 0 ∧ ∀ (y9_0 : Int), J9 y9_0 → lX1_agreesWithDisks_9 S r1 (fun z9_0 => J9 z9_0 ∧ μ9 z9_0 < μ9 y9_0) post y9_0)
