/-! the law's helpers: what they ask, by program -/
def wL_addDisk (V S T K : vs_St) (O : vs_St) (x1 : Int) (post : Int → vs_St → vs_St → Prop) : Prop :=
  wX2_addDisk V S T K x1 (fun r1 S2 => (vs_R r1) ∧ ∀ O3 : vs_St, O3 = vs_st O 0 0 r1 → post 0 S2 O3) (fun k => (k = 1 → post 1 S O) ∧ (k = 2 → post 2 S O) ∧ (k = 1 ∨ k = 2))
def wL_diskState (V S T K : vs_St) (O : vs_St) (x1 : Int) (post : Int → vs_St → Prop) : Prop :=
  wX2_diskState V S T K x1 (fun r1 => (vs_R r1) ∧ ∀ O2 : vs_St, O2 = vs_st O 0 0 r1 → post 0 O2) (fun k => (k = 3 → post 1 O) ∧ (k = 3))
def wL_usedOn (V S T K : vs_St) (O : vs_St) (x1 : Int) (post : Int → vs_St → Prop) : Prop :=
  wX2_usedOn V S T K x1 (fun r1 => (vs_R r1) ∧ ∀ O2 : vs_St, O2 = vs_st O 0 0 r1 → post 0 O2) (fun k => (k = 3 → post 1 O) ∧ (k = 3))
def wL_addTenant (V S T K : vs_St) (O : vs_St) (x1 : Int) (x2 : Int) (post : Int → vs_St → vs_St → vs_St → Prop) : Prop :=
  wX2_addTenant V S T K x1 x2 (fun r1 S2 K3 => (vs_R r1) ∧ ∀ O4 : vs_St, O4 = vs_st O 0 0 r1 → post 0 S2 K3 O4) (fun k => (k = 1 → post 1 S K O) ∧ (k = 2 → post 2 S K O) ∧ (k = 1 ∨ k = 2))
def wL_setHurry (V S T K : vs_St) (O : vs_St) (x1 : Int) (post : Int → vs_St → vs_St → Prop) : Prop :=
  wX2_setHurry V S T K x1 (fun r1 V2 => (vs_R r1) ∧ ∀ O3 : vs_St, O3 = vs_st O 0 0 r1 → post 0 V2 O3) (fun k => (k = 1 → post 1 V O) ∧ (k = 1))
def wL_read (V S T K : vs_St) (O : vs_St) (x1 : Int) (x2 : Int) (post : Int → vs_St → vs_St → Prop) : Prop :=
  wX2_read V S T K x1 x2 (fun r1 K2 => (vs_R r1) ∧ ∀ O3 : vs_St, O3 = vs_st O 0 0 r1 → post 0 K2 O3) (fun k => (k = 3 → post 1 K O) ∧ (k = 2 → post 2 K O) ∧ (k = 3 ∨ k = 2))
def wL_write (V S T K : vs_St) (O : vs_St) (x1 : Int) (x2 : Int) (x3 : Int) (post : Int → vs_St → vs_St → Prop) : Prop :=
  wX2_write V S T K x1 x2 x3 (fun r1 K2 => (vs_R r1) ∧ ∀ O3 : vs_St, O3 = vs_st O 0 0 r1 → post 0 K2 O3) (fun k => (k = 3 → post 1 K O) ∧ (k = 1 → post 2 K O) ∧ (k = 2 → post 3 K O) ∧ (k = 3 ∨ k = 1 ∨ k = 2))
def wL_stateOf (V S T K : vs_St) (O : vs_St) (x1 : Int) (post : Int → vs_St → Prop) : Prop :=
  wX2_stateOf V S T K x1 (fun r1 => (vs_R r1) ∧ ∀ O2 : vs_St, O2 = vs_st O 0 0 r1 → post 0 O2) (fun k => (k = 3 → post 1 O) ∧ (k = 3))
def wL_answerTo (V S T K : vs_St) (O : vs_St) (x1 : Int) (post : Int → vs_St → Prop) : Prop :=
  wX2_answerTo V S T K x1 (fun r1 => (vs_R r1) ∧ ∀ O2 : vs_St, O2 = vs_st O 0 0 r1 → post 0 O2) (fun k => (k = 3 → post 1 O) ∧ (k = 4 → post 2 O) ∧ (k = 3 ∨ k = 4))
def wL_waitingOf (V S T K : vs_St) (O : vs_St) (x1 : Int) (post : Int → vs_St → Prop) : Prop :=
  wX2_waitingOf V S T K x1 (fun r1 => (vs_R r1) ∧ ∀ O2 : vs_St, O2 = vs_st O 0 0 r1 → post 0 O2) (fun k => (k = 3 → post 1 O) ∧ (k = 3))
def wL_servedOf (V S T K : vs_St) (O : vs_St) (x1 : Int) (post : Int → vs_St → Prop) : Prop :=
  wX2_servedOf V S T K x1 (fun r1 => (vs_R r1) ∧ ∀ O2 : vs_St, O2 = vs_st O 0 0 r1 → post 0 O2) (fun k => (k = 3 → post 1 O) ∧ (k = 3))
def wL_creditsOf (V S T K : vs_St) (O : vs_St) (x1 : Int) (post : Int → vs_St → Prop) : Prop :=
  wX2_creditsOf V S T K x1 (fun r1 => (vs_R r1) ∧ ∀ O2 : vs_St, O2 = vs_st O 0 0 r1 → post 0 O2) (fun k => (k = 3 → post 1 O) ∧ (k = 3))
def wL_breachesOf (V S T K : vs_St) (O : vs_St) (x1 : Int) (post : Int → vs_St → Prop) : Prop :=
  wX2_breachesOf V S T K x1 (fun r1 => (vs_R r1) ∧ ∀ O2 : vs_St, O2 = vs_st O 0 0 r1 → post 0 O2) (fun k => (k = 3 → post 1 O) ∧ (k = 3))
def wL_pass (V S T K : vs_St) (O : vs_St) (x1 : Int) (post : Int → vs_St → vs_St → vs_St → vs_St → Prop) : Prop :=
  wX2_pass V S T K x1 (fun r1 V2 S3 K4 => (vs_R r1) ∧ ∀ O5 : vs_St, O5 = vs_st O 0 0 r1 → post 0 V2 S3 K4 O5) (fun k => (k = 1 → post 1 V S K O) ∧ (k = 2 → post 2 V S K O) ∧ (k = 1 ∨ k = 2))
def wL_blocksOf (V S T K : vs_St) (O : vs_St) (x1 : Int) (post : Int → vs_St → Prop) : Prop :=
  wX2_blocksOf V S T K x1 (fun r1 => (vs_R r1) ∧ ∀ O2 : vs_St, O2 = vs_st O 0 0 r1 → post 0 O2) (fun k => (k = 3 → post 1 O) ∧ (k = 3))
def wL_copiesOf (V S T K : vs_St) (O : vs_St) (x1 : Int) (x2 : Int) (post : Int → vs_St → Prop) : Prop :=
  wX2_copiesOf V S T K x1 x2 (fun r1 => (vs_R r1) ∧ ∀ O2 : vs_St, O2 = vs_st O 0 0 r1 → post 0 O2) (fun k => (k = 3 → post 1 O) ∧ (k = 3))
def wL_copiesByDisks (V S T K : vs_St) (O : vs_St) (x1 : Int) (x2 : Int) (post : Int → vs_St → Prop) : Prop :=
  wX2_copiesByDisks V S T K x1 x2 (fun r1 => (vs_R r1) ∧ ∀ O2 : vs_St, O2 = vs_st O 0 0 r1 → post 0 O2) (fun k => (k = 3 → post 1 O) ∧ (k = 3))
def wL_diskOfCopy (V S T K : vs_St) (O : vs_St) (x1 : Int) (x2 : Int) (x3 : Int) (post : Int → vs_St → Prop) : Prop :=
  wX2_diskOfCopy V S T K x1 x2 x3 (fun r1 => (vs_R r1) ∧ ∀ O2 : vs_St, O2 = vs_st O 0 0 r1 → post 0 O2) (fun k => (k = 3 → post 1 O) ∧ (k = 4 → post 2 O) ∧ (k = 3 ∨ k = 4))
def wL_valueOf (V S T K : vs_St) (O : vs_St) (x1 : Int) (x2 : Int) (post : Int → vs_St → Prop) : Prop :=
  wX2_valueOf V S T K x1 x2 (fun r1 => (vs_R r1) ∧ ∀ O2 : vs_St, O2 = vs_st O 0 0 r1 → post 0 O2) (fun k => (k = 3 → post 1 O) ∧ (k = 4 → post 2 O) ∧ (k = 3 ∨ k = 4))
def wL_isLost (V S T K : vs_St) (O : vs_St) (x1 : Int) (x2 : Int) (post : Int → vs_St → Prop) : Prop :=
  wX2_isLost V S T K x1 x2 (fun r1 => (vs_R r1) ∧ (r1 = 0 → ∀ O2 : vs_St, O2 = vs_st O 0 0 0 → post 0 O2) ∧ (¬ r1 = 0 → ∀ O3 : vs_St, O3 = vs_st O 0 0 1 → post 0 O3)) (fun k => (k = 3 → post 1 O) ∧ (k = 3))
def wL_doesBear (V S T K : vs_St) (O : vs_St) (x1 : Int) (post : Int → vs_St → Prop) : Prop :=
  wX2_doesBear V S T K x1 (fun r1 => (vs_R r1) ∧ (r1 = 0 → ∀ O2 : vs_St, O2 = vs_st O 0 0 0 → post 0 O2) ∧ (¬ r1 = 0 → ∀ O3 : vs_St, O3 = vs_st O 0 0 1 → post 0 O3)) (fun k => (k = 1 → post 1 O) ∧ (k = 1))
def wL_doesBearByTrying (V S T K : vs_St) (O : vs_St) (x1 : Int) (post : Int → vs_St → vs_St → Prop) : Prop :=
  wX2_doesBearByTrying V S T K x1 (fun r1 S2 => (vs_R r1) ∧ (r1 = 0 → ∀ O3 : vs_St, O3 = vs_st O 0 0 0 → post 0 S2 O3) ∧ (¬ r1 = 0 → ∀ O4 : vs_St, O4 = vs_st O 0 0 1 → post 0 S2 O4)) (fun k => (k = 1 → post 1 S O) ∧ (k = 1))
def wL_fail (V S T K : vs_St) (O : vs_St) (x1 : Int) (post : Int → vs_St → vs_St → Prop) : Prop :=
  wX2_fail V S T K x1 (fun r1 S2 => (vs_R r1) ∧ ∀ O3 : vs_St, O3 = vs_st O 0 0 r1 → post 0 S2 O3) (fun k => (k = 3 → post 1 S O) ∧ (k = 2 → post 2 S O) ∧ (k = 3 ∨ k = 2))
def wL_replace (V S T K : vs_St) (O : vs_St) (x1 : Int) (post : Int → vs_St → vs_St → Prop) : Prop :=
  wX2_replace V S T K x1 (fun r1 S2 => (vs_R r1) ∧ ∀ O3 : vs_St, O3 = vs_st O 0 0 r1 → post 0 S2 O3) (fun k => (k = 3 → post 1 S O) ∧ (k = 2 → post 2 S O) ∧ (k = 3 ∨ k = 2))
def wL_warn (V S T K : vs_St) (O : vs_St) (x1 : Int) (post : Int → vs_St → vs_St → Prop) : Prop :=
  wX2_warn V S T K x1 (fun r1 S2 => (vs_R r1) ∧ ∀ O3 : vs_St, O3 = vs_st O 0 0 r1 → post 0 S2 O3) (fun k => (k = 3 → post 1 S O) ∧ (k = 2 → post 2 S O) ∧ (k = 3 ∨ k = 2))
def wL_rot (V S T K : vs_St) (O : vs_St) (x1 : Int) (x2 : Int) (post : Int → vs_St → vs_St → Prop) : Prop :=
  wX2_rot V S T K x1 x2 (fun r1 S2 => (vs_R r1) ∧ (r1 = 0 → ∀ O3 : vs_St, O3 = vs_st O 0 0 0 → post 0 S2 O3) ∧ (¬ r1 = 0 → ∀ O4 : vs_St, O4 = vs_st O 0 0 1 → post 0 S2 O4)) (fun k => (k = 3 → post 1 S O) ∧ (k = 4 → post 2 S O) ∧ (k = 3 ∨ k = 4))
def wL_scrub (V S T K : vs_St) (O : vs_St) (x1 : Int) (post : Int → vs_St → vs_St → Prop) : Prop :=
  wX2_scrub V S T K x1 (fun r1 S2 => (vs_R r1) ∧ ∀ O3 : vs_St, O3 = vs_st O 0 0 r1 → post 0 S2 O3) (fun k => (k = 3 → post 1 S O) ∧ (k = 2 → post 2 S O) ∧ (k = 3 ∨ k = 2))
def wL_rottenOn (V S T K : vs_St) (O : vs_St) (x1 : Int) (post : Int → vs_St → Prop) : Prop :=
  wX2_rottenOn V S T K x1 (fun r1 => (vs_R r1) ∧ ∀ O2 : vs_St, O2 = vs_st O 0 0 r1 → post 0 O2) (fun k => (k = 3 → post 1 O) ∧ (k = 3))
