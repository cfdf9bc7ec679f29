/-! pure part: what the store is, in the words of the reference, and how the class holds it; by program (wip/whole/pure/p51.py) -/
noncomputable def vz_used (M : vs_St) (d : Int) : Int := vz_cnt (fun j => 0 ≤ M 3 (32 * d + j)) (M 1 d).toNat
def vz_has (M : vs_St) (d b : Int) : Prop := ∃ k : Int, 0 ≤ k ∧ k < M 10 b ∧ M 8 (3 * b + k) / 32 = d
noncomputable def vz_good (M : vs_St) (b : Int) : Int := vz_cnt (fun k => M 5 (M 8 (3 * b + k)) = 0) (M 10 b).toNat
def vz_lost (M : vs_St) (b : Int) : Prop := M 14 b ≠ 0 ∧ vz_good M b = 0
def vz_degr (M : vs_St) (b : Int) : Prop := M 14 b ≠ 0 ∧ M 10 b < M 16 (b / 100)
def vz_open (M : vs_St) (b d : Int) : Prop := M 2 d = 115 ∧ vz_used M d ≠ M 1 d ∧ ¬ vz_has M d b
noncomputable def vz_bst (M : vs_St) (b d p : Int) : Int := @ite Int (vz_open M b d ∧ (p < 0 ∨ M 1 p - vz_used M p < M 1 d - vz_used M d)) (Classical.propDecidable _) d p
noncomputable def vz_best (M : vs_St) (b : Int) : Nat → Int
  | 0 => -1
  | n + 1 => vz_bst M b (n : Int) (vz_best M b n)
def vz_first (M : vs_St) (a : Int) : Nat → Int
  | 0 => a
  | n + 1 => if M 3 a < 0 then a else vz_first M (a + 1) n
noncomputable def vz_place (M : vs_St) (b : Int) : Int := if vz_best M b (M 7 0).toNat < 0 then -1 else vz_first M (32 * vz_best M b (M 7 0).toNat) 32
def vz_puts (M : vs_St) (b s : Int) : vs_St := vs_st (vs_st (vs_st (vs_st M 3 s b) 5 s 0) 8 (3 * b + M 10 b) s) 10 b (M 10 b + 1)
def vz_shf (f : Int → Int) (a i n : Int) : Int → Int := fun e => if a + i ≤ e ∧ e < a + n then f (e + 1) else f e
def vz_sh (M : vs_St) (c0 : Nat) (a i n : Int) : vs_St := fun c => cond (Nat.beq c c0) (vz_shf (M c0) a i n) (M c)
def vz_takes (M : vs_St) (b i : Int) : vs_St := vz_sh (vs_st (vs_st M 3 (M 8 (3 * b + i)) (-1)) 10 b (M 10 b - 1)) 8 (3 * b) i (M 10 b - 1)

def vI (M : vs_St) : Prop :=
  (0 ≤ M 7 0 ∧ M 7 0 ≤ 8) ∧
  (∀ d : Int, 0 ≤ d → d < M 7 0 → 1 ≤ M 1 d ∧ M 1 d ≤ 32) ∧
  (∀ d : Int, 0 ≤ d → d < M 7 0 → M 2 d = 115 ∨ M 2 d = 119 ∨ M 2 d = 102) ∧
  (∀ b : Int, 0 ≤ b → b < 400 → 0 ≤ M 10 b ∧ M 10 b ≤ 3) ∧
  (∀ b k : Int, 0 ≤ b → b < 400 → 0 ≤ k → k < M 10 b → 0 ≤ M 8 (3 * b + k) ∧ M 8 (3 * b + k) < 32 * M 7 0 ∧ M 8 (3 * b + k) % 32 < M 1 (M 8 (3 * b + k) / 32) ∧ M 3 (M 8 (3 * b + k)) = b ∧ M 2 (M 8 (3 * b + k) / 32) ≠ 102) ∧
  (∀ b k k' : Int, 0 ≤ b → b < 400 → 0 ≤ k → k < k' → k' < M 10 b → M 8 (3 * b + k) / 32 ≠ M 8 (3 * b + k') / 32) ∧
  (∀ s : Int, 0 ≤ s → s < 32 * M 7 0 → M 3 s = -1 ∨ (0 ≤ M 3 s ∧ M 3 s < 400 ∧ ∃ k : Int, 0 ≤ k ∧ k < M 10 (M 3 s) ∧ M 8 (3 * M 3 s + k) = s)) ∧
  (∀ s : Int, 0 ≤ s → s < 256 → M 5 s = 0 ∨ M 5 s = 1) ∧
  (vz_sum (fun b => M 10 b) 400 = vz_sum (fun d => vz_used M d) (M 7 0).toNat)
theorem vI.dk {M : vs_St} (h : vI M) : 0 ≤ M 7 0 ∧ M 7 0 ≤ 8 := h.1
theorem vI.sz {M : vs_St} (h : vI M) : ∀ d : Int, 0 ≤ d → d < M 7 0 → 1 ≤ M 1 d ∧ M 1 d ≤ 32 := h.2.1
theorem vI.stt {M : vs_St} (h : vI M) : ∀ d : Int, 0 ≤ d → d < M 7 0 → M 2 d = 115 ∨ M 2 d = 119 ∨ M 2 d = 102 := h.2.2.1
theorem vI.mn {M : vs_St} (h : vI M) : ∀ b : Int, 0 ≤ b → b < 400 → 0 ≤ M 10 b ∧ M 10 b ≤ 3 := h.2.2.2.1
theorem vI.cp {M : vs_St} (h : vI M) : ∀ b k : Int, 0 ≤ b → b < 400 → 0 ≤ k → k < M 10 b → 0 ≤ M 8 (3 * b + k) ∧ M 8 (3 * b + k) < 32 * M 7 0 ∧ M 8 (3 * b + k) % 32 < M 1 (M 8 (3 * b + k) / 32) ∧ M 3 (M 8 (3 * b + k)) = b ∧ M 2 (M 8 (3 * b + k) / 32) ≠ 102 := h.2.2.2.2.1
theorem vI.ds {M : vs_St} (h : vI M) : ∀ b k k' : Int, 0 ≤ b → b < 400 → 0 ≤ k → k < k' → k' < M 10 b → M 8 (3 * b + k) / 32 ≠ M 8 (3 * b + k') / 32 := h.2.2.2.2.2.1
theorem vI.hd {M : vs_St} (h : vI M) : ∀ s : Int, 0 ≤ s → s < 32 * M 7 0 → M 3 s = -1 ∨ (0 ≤ M 3 s ∧ M 3 s < 400 ∧ ∃ k : Int, 0 ≤ k ∧ k < M 10 (M 3 s) ∧ M 8 (3 * M 3 s + k) = s) := h.2.2.2.2.2.2.1
theorem vI.rt {M : vs_St} (h : vI M) : ∀ s : Int, 0 ≤ s → s < 256 → M 5 s = 0 ∨ M 5 s = 1 := h.2.2.2.2.2.2.2.1
theorem vI.sm {M : vs_St} (h : vI M) : vz_sum (fun b => M 10 b) 400 = vz_sum (fun d => vz_used M d) (M 7 0).toNat := h.2.2.2.2.2.2.2.2

def vO (M : vs_St) : Prop :=
  (0 ≤ M 15 0 ∧ M 15 0 = vz_cnt (fun b => M 14 b ≠ 0) 400) ∧
  (∀ i : Int, 0 ≤ i → i < M 15 0 → 0 ≤ M 13 i ∧ M 13 i < 400 ∧ M 14 (M 13 i) ≠ 0) ∧
  (∀ i j : Int, 0 ≤ i → i < j → j < M 15 0 → M 13 i ≠ M 13 j) ∧
  (∀ b : Int, 0 ≤ b → b < 400 → M 14 b ≠ 0 → ∃ i : Int, 0 ≤ i ∧ i < M 15 0 ∧ M 13 i = b) ∧
  (∀ b : Int, 0 ≤ b → b < 400 → M 14 b = 0 ∨ M 14 b = 1) ∧
  (∀ b : Int, 0 ≤ b → b < 400 → M 14 b ≠ 0 → 0 ≤ M 12 b ∧ M 12 b ≤ 9999) ∧
  (∀ t : Int, 0 ≤ t → t < 4 → 0 ≤ M 16 t ∧ M 16 t ≤ 3)
theorem vO.wr {M : vs_St} (h : vO M) : 0 ≤ M 15 0 ∧ M 15 0 = vz_cnt (fun b => M 14 b ≠ 0) 400 := h.1
theorem vO.od {M : vs_St} (h : vO M) : ∀ i : Int, 0 ≤ i → i < M 15 0 → 0 ≤ M 13 i ∧ M 13 i < 400 ∧ M 14 (M 13 i) ≠ 0 := h.2.1
theorem vO.oi {M : vs_St} (h : vO M) : ∀ i j : Int, 0 ≤ i → i < j → j < M 15 0 → M 13 i ≠ M 13 j := h.2.2.1
theorem vO.on {M : vs_St} (h : vO M) : ∀ b : Int, 0 ≤ b → b < 400 → M 14 b ≠ 0 → ∃ i : Int, 0 ≤ i ∧ i < M 15 0 ∧ M 13 i = b := h.2.2.2.1
theorem vO.wb {M : vs_St} (h : vO M) : ∀ b : Int, 0 ≤ b → b < 400 → M 14 b = 0 ∨ M 14 b = 1 := h.2.2.2.2.1
theorem vO.vl {M : vs_St} (h : vO M) : ∀ b : Int, 0 ≤ b → b < 400 → M 14 b ≠ 0 → 0 ≤ M 12 b ∧ M 12 b ≤ 9999 := h.2.2.2.2.2.1
theorem vO.wn {M : vs_St} (h : vO M) : ∀ t : Int, 0 ≤ t → t < 4 → 0 ≤ M 16 t ∧ M 16 t ≤ 3 := h.2.2.2.2.2.2

def vM (M : vs_St) : Prop := ∀ b : Int, 0 ≤ b → b < 400 → 0 < M 10 b → M 14 b ≠ 0

def vS (M S : vs_St) : Prop :=
  (S 0 0 = M 7 0) ∧
  (∀ d : Int, 0 ≤ d → d < M 7 0 → S 1 d = M 1 d) ∧
  (∀ d : Int, 0 ≤ d → d < M 7 0 → S 2 d = vz_used M d) ∧
  (∀ d : Int, M 7 0 ≤ d → d < 8 → S 2 d = 0) ∧
  (∀ d : Int, 0 ≤ d → d < M 7 0 → S 3 d = M 2 d) ∧
  (∀ d : Int, M 7 0 ≤ d → d < 8 → S 3 d = 0) ∧
  (∀ s : Int, 0 ≤ s → s < 32 * M 7 0 → S 4 s = M 3 s) ∧
  (∀ s : Int, 32 * M 7 0 ≤ s → s < 256 → S 4 s = -1) ∧
  (∀ s : Int, 0 ≤ s → s < 32 * M 7 0 → S 5 s = if M 3 s < 0 then 0 else M 5 s) ∧
  (∀ s : Int, 32 * M 7 0 ≤ s → s < 256 → S 5 s = 0) ∧
  (∀ t : Int, 0 ≤ t → t < 4 → S 6 t = M 16 t) ∧
  (∀ b : Int, 0 ≤ b → b < 400 → S 7 b = if M 14 b = 0 then -1 else M 12 b) ∧
  (∀ b : Int, 0 ≤ b → b < 400 → S 8 b = M 10 b) ∧
  (∀ b k : Int, 0 ≤ b → b < 400 → 0 ≤ k → k < M 10 b → S 9 (b * 3 + k) = M 8 (3 * b + k)) ∧
  (S 10 0 = M 15 0) ∧
  (∀ i : Int, 0 ≤ i → i < M 15 0 → S 11 i = M 13 i)
theorem vS.dk {M S : vs_St} (h : vS M S) : S 0 0 = M 7 0 := h.1
theorem vS.sz {M S : vs_St} (h : vS M S) : ∀ d : Int, 0 ≤ d → d < M 7 0 → S 1 d = M 1 d := h.2.1
theorem vS.us {M S : vs_St} (h : vS M S) : ∀ d : Int, 0 ≤ d → d < M 7 0 → S 2 d = vz_used M d := h.2.2.1
theorem vS.us0 {M S : vs_St} (h : vS M S) : ∀ d : Int, M 7 0 ≤ d → d < 8 → S 2 d = 0 := h.2.2.2.1
theorem vS.stt {M S : vs_St} (h : vS M S) : ∀ d : Int, 0 ≤ d → d < M 7 0 → S 3 d = M 2 d := h.2.2.2.2.1
theorem vS.st0 {M S : vs_St} (h : vS M S) : ∀ d : Int, M 7 0 ≤ d → d < 8 → S 3 d = 0 := h.2.2.2.2.2.1
theorem vS.hd {M S : vs_St} (h : vS M S) : ∀ s : Int, 0 ≤ s → s < 32 * M 7 0 → S 4 s = M 3 s := h.2.2.2.2.2.2.1
theorem vS.hd0 {M S : vs_St} (h : vS M S) : ∀ s : Int, 32 * M 7 0 ≤ s → s < 256 → S 4 s = -1 := h.2.2.2.2.2.2.2.1
theorem vS.rt {M S : vs_St} (h : vS M S) : ∀ s : Int, 0 ≤ s → s < 32 * M 7 0 → S 5 s = if M 3 s < 0 then 0 else M 5 s := h.2.2.2.2.2.2.2.2.1
theorem vS.rt0 {M S : vs_St} (h : vS M S) : ∀ s : Int, 32 * M 7 0 ≤ s → s < 256 → S 5 s = 0 := h.2.2.2.2.2.2.2.2.2.1
theorem vS.wn {M S : vs_St} (h : vS M S) : ∀ t : Int, 0 ≤ t → t < 4 → S 6 t = M 16 t := h.2.2.2.2.2.2.2.2.2.2.1
theorem vS.vl {M S : vs_St} (h : vS M S) : ∀ b : Int, 0 ≤ b → b < 400 → S 7 b = if M 14 b = 0 then -1 else M 12 b := h.2.2.2.2.2.2.2.2.2.2.2.1
theorem vS.mn {M S : vs_St} (h : vS M S) : ∀ b : Int, 0 ≤ b → b < 400 → S 8 b = M 10 b := h.2.2.2.2.2.2.2.2.2.2.2.2.1
theorem vS.cp {M S : vs_St} (h : vS M S) : ∀ b k : Int, 0 ≤ b → b < 400 → 0 ≤ k → k < M 10 b → S 9 (b * 3 + k) = M 8 (3 * b + k) := h.2.2.2.2.2.2.2.2.2.2.2.2.2.1
theorem vS.wr {M S : vs_St} (h : vS M S) : S 10 0 = M 15 0 := h.2.2.2.2.2.2.2.2.2.2.2.2.2.2.1
theorem vS.od {M S : vs_St} (h : vS M S) : ∀ i : Int, 0 ≤ i → i < M 15 0 → S 11 i = M 13 i := h.2.2.2.2.2.2.2.2.2.2.2.2.2.2.2
