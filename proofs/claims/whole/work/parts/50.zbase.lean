/-! pure part: counts, sums, iterations, reads of a state -/
theorem vz_R {x : Int} (h : -2147483648 ≤ x ∧ x ≤ 2147483647) : vs_R x := h
theorem vz_rd (S : vs_St) (k : Nat) (e x : Int) (c : Nat) (i : Int) : vs_st S k e x c i = if c = k then (if i = e then x else S c i) else S c i := by
  by_cases h : c = k
  · subst h; rw [vs_st_same, if_pos rfl]; rfl
  · rw [vs_st_ne S h, if_neg h]
noncomputable def vz_b (p : Prop) : Int := @ite Int p (Classical.propDecidable p) 1 0
theorem vz_b1 {p : Prop} (h : p) : vz_b p = 1 := by unfold vz_b; exact if_pos h
theorem vz_b0 {p : Prop} (h : ¬ p) : vz_b p = 0 := by unfold vz_b; exact if_neg h
theorem vz_b01 (p : Prop) : vz_b p = 0 ∨ vz_b p = 1 := by
  rcases Classical.em p with h | h
  · exact Or.inr (vz_b1 h)
  · exact Or.inl (vz_b0 h)
theorem vz_bc {p q : Prop} (h : p ↔ q) : vz_b p = vz_b q := by rw [propext h]
theorem vz_bi {p : Prop} (h : vz_b p = 1) : p := by
  rcases Classical.em p with q | q
  · exact q
  · rw [vz_b0 q] at h; omega
noncomputable def vz_sum (f : Int → Int) : Nat → Int
  | 0 => 0
  | n + 1 => vz_sum f n + f (n : Int)
noncomputable def vz_cnt (p : Int → Prop) (n : Nat) : Int := vz_sum (fun i => vz_b (p i)) n
theorem vz_sum_step (f : Int → Int) {i : Int} (h : 0 ≤ i) : vz_sum f (i + 1).toNat = vz_sum f i.toNat + f i := by
  have e : (i + 1).toNat = i.toNat + 1 := by omega
  rw [e]
  show vz_sum f i.toNat + f (i.toNat : Int) = _
  rw [Int.toNat_of_nonneg h]
theorem vz_cnt_step (p : Int → Prop) {i : Int} (h : 0 ≤ i) : vz_cnt p (i + 1).toNat = vz_cnt p i.toNat + vz_b (p i) := vz_sum_step _ h
theorem vz_sum_ext {f g : Int → Int} : ∀ {n : Nat}, (∀ i : Int, 0 ≤ i → i < n → f i = g i) → vz_sum f n = vz_sum g n
  | 0, _ => rfl
  | n + 1, h => by
    show vz_sum f n + f n = vz_sum g n + g n
    rw [vz_sum_ext (n := n) (fun i h0 h1 => h i h0 (by omega)), h n (by omega) (by omega)]
theorem vz_cnt_ext {p q : Int → Prop} {n : Nat} (h : ∀ i : Int, 0 ≤ i → i < n → (p i ↔ q i)) : vz_cnt p n = vz_cnt q n :=
  vz_sum_ext (fun i h0 h1 => vz_bc (h i h0 h1))
theorem vz_sum_upd {f g : Int → Int} {j : Int} : ∀ {n : Nat}, 0 ≤ j → j < n → (∀ i : Int, 0 ≤ i → i < n → i ≠ j → g i = f i) → vz_sum g n = vz_sum f n + (g j - f j)
  | 0, h0, h1, _ => by omega
  | n + 1, h0, h1, h => by
    show vz_sum g n + g n = vz_sum f n + f n + (g j - f j)
    by_cases e : j = n
    · rw [vz_sum_ext (f := g) (g := f) (n := n) (fun i q0 q1 => h i q0 (by omega) (by omega)), e]; omega
    · rw [vz_sum_upd (n := n) h0 (by omega) (fun i q0 q1 q2 => h i q0 (by omega) q2), h n (by omega) (by omega) (by omega)]; omega
theorem vz_cnt_up {p q : Int → Prop} {j : Int} {n : Nat} (h0 : 0 ≤ j) (h1 : j < n) (hp : ¬ p j) (hq : q j) (h : ∀ i : Int, 0 ≤ i → i < n → i ≠ j → (q i ↔ p i)) : vz_cnt q n = vz_cnt p n + 1 := by
  unfold vz_cnt
  rw [vz_sum_upd (f := fun i => vz_b (p i)) h0 h1 (fun i a b c => vz_bc (h i a b c)), vz_b0 hp, vz_b1 hq]; omega
theorem vz_cnt_dn {p q : Int → Prop} {j : Int} {n : Nat} (h0 : 0 ≤ j) (h1 : j < n) (hp : p j) (hq : ¬ q j) (h : ∀ i : Int, 0 ≤ i → i < n → i ≠ j → (q i ↔ p i)) : vz_cnt q n = vz_cnt p n - 1 := by
  have := vz_cnt_up (p := q) (q := p) h0 h1 hq hp (fun i a b c => (h i a b c).symm)
  omega
theorem vz_cnt_bd (p : Int → Prop) : ∀ n : Nat, 0 ≤ vz_cnt p n ∧ vz_cnt p n ≤ n
  | 0 => by show (0 : Int) ≤ 0 ∧ (0 : Int) ≤ ((0 : Nat) : Int); omega
  | n + 1 => by
    have h := vz_cnt_bd p n
    have e : vz_cnt p (n + 1) = vz_cnt p n + vz_b (p n) := rfl
    rcases vz_b01 (p n) with q | q <;> omega
theorem vz_cnt_ex {p : Int → Prop} : ∀ {n : Nat}, vz_cnt p n < n → ∃ j : Int, 0 ≤ j ∧ j < n ∧ ¬ p j
  | 0, h => by
    have := (vz_cnt_bd p 0).1
    omega
  | n + 1, h => by
    have e : vz_cnt p (n + 1) = vz_cnt p n + vz_b (p n) := rfl
    rcases Classical.em (p n) with q | q
    · rw [vz_b1 q] at e
      obtain ⟨j, a, b, c⟩ := vz_cnt_ex (p := p) (n := n) (by omega)
      exact ⟨j, a, by omega, c⟩
    · exact ⟨n, by omega, by omega, q⟩
theorem vz_cnt_le {p : Int → Prop} {n : Nat} {j : Int} (h0 : 0 ≤ j) (h1 : j < n) (hp : ¬ p j) : vz_cnt p n < n := by
  have e : vz_cnt (fun i => p i ∨ i = j) n = vz_cnt p n + 1 := vz_cnt_up h0 h1 hp (Or.inr rfl) (fun i _ _ c => ⟨fun h => h.elim id (fun q => absurd q c), Or.inl⟩)
  have := (vz_cnt_bd (fun i => p i ∨ i = j) n).2
  omega
theorem vz_cnt_0 {p : Int → Prop} {n : Nat} (h : ∀ i : Int, 0 ≤ i → i < n → ¬ p i) : vz_cnt p n = 0 := by
  have : ∀ m : Nat, m ≤ n → vz_cnt p m = 0 := by
    intro m
    induction m with
    | zero => intro _; rfl
    | succ k ih =>
      intro hk
      have e : vz_cnt p (k + 1) = vz_cnt p k + vz_b (p k) := rfl
      rw [e, ih (by omega), vz_b0 (h k (by omega) (by omega))]; rfl
  exact this n (Nat.le_refl n)
theorem vz_cnt_pos {p : Int → Prop} {n : Nat} (h : vz_cnt p n ≠ 0) : ∃ j : Int, 0 ≤ j ∧ j < n ∧ p j := by
  rcases Classical.em (∃ j : Int, 0 ≤ j ∧ j < n ∧ p j) with q | q
  · exact q
  · exact absurd (vz_cnt_0 (fun i a b c => q ⟨i, a, b, c⟩)) h
theorem vz_cnt_1 {p : Int → Prop} {n : Nat} {j : Int} (h0 : 0 ≤ j) (h1 : j < n) (hp : p j) : 1 ≤ vz_cnt p n := by
  have e : vz_cnt p n = vz_cnt (fun i => p i ∧ i ≠ j) n + 1 := vz_cnt_up (p := fun i => p i ∧ i ≠ j) h0 h1 (fun q => q.2 rfl) hp (fun i _ _ c => ⟨fun h => ⟨h, c⟩, fun h => h.1⟩)
  have := (vz_cnt_bd (fun i => p i ∧ i ≠ j) n).1
  omega
theorem vz_cnt_mono {p : Int → Prop} {m : Nat} : ∀ {n : Nat}, m ≤ n → vz_cnt p m ≤ vz_cnt p n
  | 0, h => by have : m = 0 := by omega
               subst this; exact Int.le_refl _
  | n + 1, h => by
    by_cases e : m = n + 1
    · subst e; exact Int.le_refl _
    · have := vz_cnt_mono (p := p) (m := m) (n := n) (by omega)
      have e : vz_cnt p (n + 1) = vz_cnt p n + vz_b (p n) := rfl
      rcases vz_b01 (p n) with q | q <;> omega
theorem vz_cnt_imp {p q : Int → Prop} : ∀ {n : Nat}, (∀ i : Int, 0 ≤ i → i < n → p i → q i) → vz_cnt p n ≤ vz_cnt q n
  | 0, _ => Int.le_refl _
  | n + 1, h => by
    have := vz_cnt_imp (p := p) (q := q) (n := n) (fun i a b c => h i a (by omega) c)
    have e : vz_cnt p (n + 1) = vz_cnt p n + vz_b (p n) := rfl
    have e2 : vz_cnt q (n + 1) = vz_cnt q n + vz_b (q n) := rfl
    rcases Classical.em (p n) with z | z
    · rw [vz_b1 z] at e; rw [vz_b1 (h n (by omega) (by omega) z)] at e2; omega
    · rw [vz_b0 z] at e; rcases vz_b01 (q n) with w | w <;> omega
/-- a row of different places, counted among all places -/
theorem vz_cnt_img {c : Int → Int} {N : Nat} : ∀ {m : Nat}, (∀ k : Int, 0 ≤ k → k < m → 0 ≤ c k ∧ c k < N) → (∀ k k' : Int, 0 ≤ k → k < k' → k' < m → c k ≠ c k') → vz_cnt (fun s => ∃ k : Int, 0 ≤ k ∧ k < m ∧ c k = s) N = m
  | 0, _, _ => vz_cnt_0 (fun i _ _ ⟨k, h0, h1, _⟩ => by omega)
  | m + 1, h, hi => by
    have ih := vz_cnt_img (c := c) (N := N) (m := m) (fun k a b => h k a (by omega)) (fun k k' a b d => hi k k' a b (by omega))
    have hm := h m (by omega) (by omega)
    rw [vz_cnt_up (p := fun s => ∃ k : Int, 0 ≤ k ∧ k < m ∧ c k = s) (q := fun s => ∃ k : Int, 0 ≤ k ∧ k < ((m + 1 : Nat) : Int) ∧ c k = s) (j := c m) hm.1 hm.2, ih]
    · omega
    · rintro ⟨k, h0, h1, h2⟩
      exact hi k m h0 h1 (by omega) h2
    · exact ⟨m, by omega, by omega, rfl⟩
    · intro i a b ne
      constructor
      · rintro ⟨k, h0, h1, h2⟩
        refine ⟨k, h0, ?_, h2⟩
        by_cases e : k = m
        · subst e; exact absurd h2.symm ne
        · omega
      · rintro ⟨k, h0, h1, h2⟩
        exact ⟨k, h0, by omega, h2⟩
/-- a sum along a row of different places -/
theorem vz_sum_img {c : Int → Int} {f : Int → Int} {N : Nat} : ∀ {m : Nat}, (∀ k : Int, 0 ≤ k → k < m → 0 ≤ c k ∧ c k < N) → (∀ k k' : Int, 0 ≤ k → k < k' → k' < m → c k ≠ c k') → vz_sum (fun k => f (c k)) m = vz_sum (fun b => vz_b (∃ k : Int, 0 ≤ k ∧ k < m ∧ c k = b) * f b) N
  | 0, _, _ => by
    rw [vz_sum_ext (n := N) (f := fun b => vz_b (∃ k : Int, 0 ≤ k ∧ k < ((0 : Nat) : Int) ∧ c k = b) * f b) (g := fun _ => 0) (fun i _ _ => by
      show vz_b _ * f i = 0
      rw [vz_b0 (by rintro ⟨k, h0, h1, _⟩; omega)]; omega)]
    have : ∀ n : Nat, vz_sum (fun _ => 0) n = 0 := by
      intro n
      induction n with
      | zero => rfl
      | succ n ih => show vz_sum (fun _ => 0) n + 0 = 0; omega
    rw [this]; rfl
  | m + 1, h, hi => by
    have ih := vz_sum_img (c := c) (f := f) (N := N) (m := m) (fun k a b => h k a (by omega)) (fun k k' a b d => hi k k' a b (by omega))
    have hm := h m (by omega) (by omega)
    show vz_sum (fun k => f (c k)) m + f (c m) = _
    rw [vz_sum_upd (g := fun b => vz_b (∃ k : Int, 0 ≤ k ∧ k < ((m + 1 : Nat) : Int) ∧ c k = b) * f b) (f := fun b => vz_b (∃ k : Int, 0 ≤ k ∧ k < (m : Int) ∧ c k = b) * f b) hm.1 hm.2, ih]
    · show _ = _ + (vz_b (∃ k : Int, 0 ≤ k ∧ k < ((m + 1 : Nat) : Int) ∧ c k = c m) * f (c m) - vz_b (∃ k : Int, 0 ≤ k ∧ k < (m : Int) ∧ c k = c m) * f (c m))
      rw [vz_b1 ⟨m, by omega, by omega, rfl⟩, vz_b0 (by rintro ⟨k, h0, h1, h2⟩; exact hi k m h0 h1 (by omega) h2)]
      omega
    · intro i a b ne
      show vz_b _ * f i = vz_b _ * f i
      rw [vz_bc]
      constructor
      · rintro ⟨k, h0, h1, h2⟩
        refine ⟨k, h0, ?_, h2⟩
        by_cases e : k = m
        · subst e; exact absurd h2.symm ne
        · omega
      · rintro ⟨k, h0, h1, h2⟩
        exact ⟨k, h0, by omega, h2⟩
theorem vz_sum_bd {f : Int → Int} {c : Int} : ∀ {n : Nat}, (∀ i : Int, 0 ≤ i → i < n → 0 ≤ f i ∧ f i ≤ c) → 0 ≤ vz_sum f n ∧ vz_sum f n ≤ c * n
  | 0, _ => by show (0 : Int) ≤ 0 ∧ (0 : Int) ≤ c * ((0 : Nat) : Int); omega
  | n + 1, h => by
    have := vz_sum_bd (f := f) (c := c) (n := n) (fun i a b => h i a (by omega))
    have hn := h n (by omega) (by omega)
    show 0 ≤ vz_sum f n + f n ∧ vz_sum f n + f n ≤ c * ((n + 1 : Nat) : Int)
    have e : c * ((n + 1 : Nat) : Int) = c * n + c := by rw [Int.natCast_add, Int.mul_add]; show c * n + c * 1 = _; rw [Int.mul_one]
    omega
/-- steps, one after the other -/
def vz_it {α : Type} (f : Nat → α → α) : Nat → α → α
  | 0, a => a
  | n + 1, a => f n (vz_it f n a)
theorem vz_it_stay {α : Type} {f : Nat → α → α} {a : α} {n : Nat} : ∀ {k : Nat}, (∀ j : Nat, n ≤ j → f j (vz_it f n a) = vz_it f n a) → vz_it f (n + k) a = vz_it f n a
  | 0, _ => rfl
  | k + 1, h => by
    show f (n + k) (vz_it f (n + k) a) = _
    rw [vz_it_stay (k := k) h, h _ (by omega)]
theorem vz_it_end {α : Type} {f : Nat → α → α} {a : α} {n N : Nat} (hn : n ≤ N) (h : ∀ j : Nat, n ≤ j → f j (vz_it f n a) = vz_it f n a) : vz_it f N a = vz_it f n a := by
  have := vz_it_stay (k := N - n) h
  rwa [show n + (N - n) = N by omega] at this
theorem vz_cnt_im2 {c : Int → Int} {q : Int → Prop} {N : Nat} : ∀ {m : Nat}, (∀ k : Int, 0 ≤ k → k < m → 0 ≤ c k ∧ c k < N) → (∀ k k' : Int, 0 ≤ k → k < k' → k' < m → c k ≠ c k') → vz_cnt (fun s => ∃ k : Int, 0 ≤ k ∧ k < m ∧ c k = s ∧ q k) N = vz_cnt q m
  | 0, _, _ => vz_cnt_0 (fun i _ _ ⟨k, h0, h1, _⟩ => by omega)
  | m + 1, h, hi => by
    have ih := vz_cnt_im2 (c := c) (q := q) (N := N) (m := m) (fun k a b => h k a (by omega)) (fun k k' a b d => hi k k' a b (by omega))
    have hm := h m (by omega) (by omega)
    have e : vz_cnt q (m + 1) = vz_cnt q m + vz_b (q m) := rfl
    rcases Classical.em (q (m : Int)) with w | w
    · rw [e, vz_b1 w, ← ih]
      refine vz_cnt_up (j := c m) hm.1 hm.2 ?_ ⟨m, by omega, by omega, rfl, w⟩ (fun i a b ne => ?_)
      · rintro ⟨k, h0, h1, h2, _⟩
        exact hi k m h0 h1 (by omega) h2
      · constructor
        · rintro ⟨k, h0, h1, h2, h3⟩
          refine ⟨k, h0, ?_, h2, h3⟩
          by_cases e : k = m
          · subst e; exact absurd h2.symm ne
          · omega
        · rintro ⟨k, h0, h1, h2, h3⟩
          exact ⟨k, h0, by omega, h2, h3⟩
    · rw [e, vz_b0 w, ← ih, Int.add_zero]
      refine vz_cnt_ext (fun i a b => ?_)
      constructor
      · rintro ⟨k, h0, h1, h2, h3⟩
        refine ⟨k, h0, ?_, h2, h3⟩
        by_cases e : k = m
        · subst e; exact absurd h3 w
        · omega
      · rintro ⟨k, h0, h1, h2, h3⟩
        exact ⟨k, h0, by omega, h2, h3⟩
theorem vz_sum0 (f : Int → Int) : vz_sum f (0 : Int).toNat = 0 := rfl
theorem vz_cnt0 (p : Int → Prop) : vz_cnt p (0 : Int).toNat = 0 := rfl
