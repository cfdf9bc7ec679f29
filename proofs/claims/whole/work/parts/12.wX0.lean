/-! what each method of class X0 asks and answers, by program -/
def wJ6_bitCount_0f7a4 (x0 : Int) (post : Int → Prop) : Prop :=
  ∀ v1 : Int, v1 = x0 - (vs_and (vs_ushr x0 1) 1431655765) → ∀ v2 : Int, v2 = (vs_and v1 858993459) + (vs_and (vs_ushr v1 2) 858993459) → ∀ v3 : Int, v3 = vs_and (v2 + (vs_ushr v2 4)) 252645135 → ∀ v4 : Int, v4 = v3 + (vs_ushr v3 8) → ∀ v5 : Int, v5 = v4 + (vs_ushr v4 16) → post (vs_and v5 63)
def wX0_admitTenant (S : vs_St) (x1 : Int) (post : Int → vs_St → Prop) : Prop :=
  (0 ≤ S 0 0 ∧ S 0 0 < 4) ∧ ∀ S1 : vs_St, S1 = vs_st S 1 (S 0 0) x1 → ∀ S2 : vs_St, S2 = vs_st S1 0 0 ((S1 0 0) + 1) → post (S1 0 0) S2
def wX0_enqueue (S : vs_St) (x1 : Int) (x2 : Int) (x3 : Int) (x4 : Int) (post : Int → vs_St → Prop) : Prop :=
  ∀ v1 : Int, v1 = S 8 0 → (0 ≤ v1 ∧ v1 < 300) ∧ ∀ S2 : vs_St, S2 = vs_st S 10 v1 x2 → (0 ≤ v1 ∧ v1 < 300) ∧ (x3 = 0 ∨ x3 = 1) ∧ ∀ S3 : vs_St, S3 = vs_st S2 11 v1 x3 → (0 ≤ v1 ∧ v1 < 300) ∧ ∀ S4 : vs_St, S4 = vs_st S3 12 v1 x4 → (0 ≤ v1 ∧ v1 < 300) ∧ ∀ S5 : vs_St, S5 = vs_st S4 13 v1 119 → (0 ≤ x1 ∧ x1 < 4) ∧ (0 ≤ (x1 * 300) + (S5 2 x1) ∧ (x1 * 300) + (S5 2 x1) < 1200) ∧ ∀ S6 : vs_St, S6 = vs_st S5 7 ((x1 * 300) + (S5 2 x1)) v1 → (0 ≤ x1 ∧ x1 < 4) ∧ (0 ≤ x1 ∧ x1 < 4) ∧ ∀ S7 : vs_St, S7 = vs_st S6 2 x1 ((S6 2 x1) + 1) → ∀ S8 : vs_St, S8 = vs_st S7 9 0 ((S7 9 0) + 1) → ∀ S9 : vs_St, S9 = vs_st S8 8 0 ((S8 8 0) + 1) → post v1 S9
def wX0_countWaiting (S : vs_St) (x1 : Int) (post : Int → Prop) : Prop :=
  (0 ≤ x1 ∧ x1 < 4) ∧ (0 ≤ x1 ∧ x1 < 4) ∧ post ((S 2 x1) - (S 3 x1))
def wX0_oldestWaiting (S : vs_St) (x1 : Int) (post : Int → Prop) : Prop :=
  (0 ≤ x1 ∧ x1 < 4) ∧ (0 ≤ (x1 * 300) + (S 3 x1) ∧ (x1 * 300) + (S 3 x1) < 1200) ∧ post (S 7 ((x1 * 300) + (S 3 x1)))
def wX0_markServed (S : vs_St) (x1 : Int) (x2 : Int) (x3 : Int) (post : vs_St → Prop) : Prop :=
  (vs_R x3) ∧ (x3 = 0 → (0 ≤ x2 ∧ x2 < 300) ∧ ∀ S1 : vs_St, S1 = vs_st S 13 x2 120 → (0 ≤ x1 ∧ x1 < 4) ∧ (0 ≤ x1 ∧ x1 < 4) ∧ ∀ S2 : vs_St, S2 = vs_st S1 3 x1 ((S1 3 x1) + 1) → ∀ S3 : vs_St, S3 = vs_st S2 9 0 ((S2 9 0) - 1) → post S3) ∧ (¬ x3 = 0 → (0 ≤ x2 ∧ x2 < 300) ∧ ∀ S4 : vs_St, S4 = vs_st S 13 x2 100 → (0 ≤ x1 ∧ x1 < 4) ∧ (0 ≤ x1 ∧ x1 < 4) ∧ ∀ S5 : vs_St, S5 = vs_st S4 3 x1 ((S4 3 x1) + 1) → ∀ S6 : vs_St, S6 = vs_st S5 9 0 ((S5 9 0) - 1) → post S6)
def lX0_beginTick_2 (K2 : Int → vs_St → Prop) (post : vs_St → Prop) (x1 : Int) (S : vs_St) : Prop :=
  (vs_R x1) ∧ (vs_R (S 0 0)) ∧ (S 0 0 ≤ x1 → post S) ∧ (x1 < S 0 0 → (0 ≤ x1 ∧ x1 < 4) ∧ (0 ≤ x1 ∧ x1 < 4) ∧ wX0_countWaiting S x1 (fun r1 => (vs_R (S 1 x1)) ∧ (vs_R r1) ∧ (0 ≤ x1 ∧ x1 < 4) ∧ ∀ S2 : vs_St, S2 = vs_st S 4 x1 ((S 3 x1) + (min (S 1 x1) r1)) → K2 (x1 + 1) S2))
def wX0_beginTick (S : vs_St) (post : vs_St → Prop) : Prop :=
  ∃ (J2 : Int → vs_St → Prop) (μ2 : Int → vs_St → Nat), J2 0 S ∧ ∀ (y2_0 : Int) (y2_1 : vs_St), J2 y2_0 y2_1 → lX0_beginTick_2  (fun z2_0 z2_1 => J2 z2_0 z2_1 ∧ μ2 z2_0 z2_1 < μ2 y2_0 y2_1) post y2_0 y2_1
def lX0_giveCredits_2 (K2 : Int → vs_St → Prop) (post : vs_St → Prop) (x1 : Int) (S : vs_St) : Prop :=
  (vs_R x1) ∧ (vs_R (S 0 0)) ∧ (S 0 0 ≤ x1 → post S) ∧ (x1 < S 0 0 → (0 ≤ x1 ∧ x1 < 4) ∧ (0 ≤ x1 ∧ x1 < 4) ∧ ∀ v1 : Int, v1 = (S 4 x1) - (S 3 x1) → (vs_R v1) ∧ (v1 ≤ 0 → K2 (x1 + 1) S) ∧ (0 < v1 → (0 ≤ x1 ∧ x1 < 4) ∧ (0 ≤ x1 ∧ x1 < 4) ∧ ∀ S2 : vs_St, S2 = vs_st S 5 x1 ((S 5 x1) + v1) → (0 ≤ x1 ∧ x1 < 4) ∧ (0 ≤ x1 ∧ x1 < 4) ∧ ∀ S3 : vs_St, S3 = vs_st S2 6 x1 ((S2 6 x1) + 1) → K2 (x1 + 1) S3))
def wX0_giveCredits (S : vs_St) (post : vs_St → Prop) : Prop :=
  ∃ (J2 : Int → vs_St → Prop) (μ2 : Int → vs_St → Nat), J2 0 S ∧ ∀ (y2_0 : Int) (y2_1 : vs_St), J2 y2_0 y2_1 → lX0_giveCredits_2  (fun z2_0 z2_1 => J2 z2_0 z2_1 ∧ μ2 z2_0 z2_1 < μ2 y2_0 y2_1) post y2_0 y2_1
