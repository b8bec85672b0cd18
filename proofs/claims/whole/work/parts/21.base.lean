/-! ===== frames, loops, sets of six as numbers ===== -/
def sA (L : List Nat) (A A' : Nat → Nat → Int32) : Prop := ∀ o, o ∉ L → A' o = A o
def sF (L : List Nat) (F F' : Nat → Nat → Int32) : Prop := ∀ o k, o * 100 + k ∉ L → F' o k = F o k
theorem sA.rf {L : List Nat} {A : Nat → Nat → Int32} : sA L A A := fun _ _ => rfl
theorem sF.rf {L : List Nat} {F : Nat → Nat → Int32} : sF L F F := fun _ _ _ => rfl
theorem sA.tr {L : List Nat} {A B C : Nat → Nat → Int32} (h : sA L A B) (g : sA L B C) : sA L A C := fun o ho => (g o ho).trans (h o ho)
theorem sF.tr {L : List Nat} {A B C : Nat → Nat → Int32} (h : sF L A B) (g : sF L B C) : sF L A C := fun o k ho => (g o k ho).trans (h o k ho)
theorem sA.mono {L L' : List Nat} {A B : Nat → Nat → Int32} (h : sA L A B) (hs : ∀ x ∈ L, x ∈ L') : sA L' A B := fun o ho => h o (fun z => ho (hs o z))
theorem sF.mono {L L' : List Nat} {A B : Nat → Nat → Int32} (h : sF L A B) (hs : ∀ x ∈ L, x ∈ L') : sF L' A B := fun o k ho => h o k (fun z => ho (hs _ z))
theorem sA.up {L : List Nat} {A : Nat → Nat → Int32} {o : Nat} {g : Nat → Int32} (h : o ∈ L) : sA L A (va_up A o g) := fun x hx => by
  unfold va_up
  rw [if_neg (fun e : x = o => hx (by rw [e]; exact h))]
theorem sF.up {L : List Nat} {F : Nat → Nat → Int32} {o k : Nat} {v : Int32} (h : o * 100 + k ∈ L) : sF L F (uF F o k v) := fun x j hx => by
  unfold uF va_up upd
  by_cases e : x = o
  · subst e
    rw [if_pos rfl]
    by_cases e2 : j = k
    · subst e2; exact absurd h hx
    · rw [if_neg e2]
  · rw [if_neg e]
theorem uF_s (F : Nat → Nat → Int32) (o k : Nat) (v : Int32) : uF F o k v o k = v := by simp [uF, va_up, upd]
theorem uF_n (F : Nat → Nat → Int32) {o k o' k' : Nat} (v : Int32) (h : ¬ (o' = o ∧ k' = k)) : uF F o k v o' k' = F o' k' := by
  unfold uF va_up upd
  by_cases e : o' = o
  · subst e
    rw [if_pos rfl, if_neg (fun e2 => h ⟨rfl, e2⟩)]
  · rw [if_neg e]
theorem va_up_s {α : Type} (A : Nat → α) (o : Nat) (g : α) : va_up A o g o = g := va_up_self A o g
theorem va_up_n {α : Type} (A : Nat → α) {o o' : Nat} (g : α) (h : o' ≠ o) : va_up A o g o' = A o' := by simp [va_up, h]
theorem va_up_id {α : Type} (A : Nat → α) (o : Nat) : va_up A o (A o) = A := by
  funext x
  unfold va_up
  by_cases h : x = o
  · rw [if_pos h, h]
  · rw [if_neg h]
/-- a loop that counts up: what it comes to -/
theorem lp_ex {α : Type} (I : Nat → α → Prop) (E : Nat → α → xa_R → Prop) (N : Nat) (step : ∀ k a, k < N → I k a → ∃ a', I (k + 1) a' ∧ ∀ q, E (k + 1) a' q → E k a q) : ∀ m k a, k + m = N → I k a → ∃ a', I N a' ∧ ∀ q, E N a' q → E k a q := by
  intro m
  induction m with
  | zero =>
    intro k a hk hI
    have : k = N := by omega
    subst this
    exact ⟨a, hI, fun q h => h⟩
  | succ m ih =>
    intro k a hk hI
    obtain ⟨a1, h1, g1⟩ := step k a (by omega) hI
    obtain ⟨a2, h2, g2⟩ := ih (k + 1) a1 (by omega) h1
    exact ⟨a2, h2, fun q h => g1 q (g2 q h)⟩
/-- a loop whose states are known beforehand -/
theorem lp_to {E : Nat → xa_R → Prop} (N : Nat) (step : ∀ k, k < N → ∀ q, E (k + 1) q → E k q) : ∀ q, E N q → E 0 q := by
  intro q h
  have key : ∀ m k, k + m = N → E k q := by
    intro m
    induction m with
    | zero => intro k hk; rw [show k = N by omega]; exact h
    | succ m ih => intro k hk; exact step k (by omega) q (ih (k + 1) (by omega))
  exact key N 0 (Nat.zero_add N)
/-- a set of the first n numbers as a number -/
def bmn (f : Nat → Bool) : Nat → Nat
  | 0 => 0
  | k + 1 => bmn f k + (bif f k then 2 ^ k else 0)
abbrev bm (f : Nat → Bool) : Nat := bmn f 6
theorem bmn_lt (f : Nat → Bool) : ∀ n, bmn f n < 2 ^ n := by
  intro n
  induction n with
  | zero => simp [bmn]
  | succ n ih =>
    simp only [bmn, Nat.pow_succ]
    cases f n <;> simp <;> omega
theorem bm_lt (f : Nat → Bool) : bm f < 64 := bmn_lt f 6
theorem bmn_bit (f : Nat → Bool) : ∀ n t, (bmn f n).testBit t = (decide (t < n) && f t) := by
  intro n
  induction n with
  | zero => intro t; simp [bmn]
  | succ n ih =>
    intro t
    simp only [bmn]
    have hlt := bmn_lt f n
    cases hf : f n with
    | false =>
      simp only [cond_false, Nat.add_zero, ih]
      by_cases h : t < n
      · simp [h, Nat.lt_succ_of_lt h]
      · by_cases h2 : t = n
        · subst h2; simp [hf]
        · have h3 : ¬ t < n + 1 := by omega
          simp [h, h3]
    | true =>
      simp only [cond_true]
      rw [Nat.add_comm]
      by_cases h : t < n
      · rw [Nat.testBit_two_pow_add_gt h, ih]
        simp [h, Nat.lt_succ_of_lt h]
      · by_cases h2 : t = n
        · subst h2
          rw [Nat.testBit_two_pow_add_eq, ih]
          simp [hf]
        · have h3 : ¬ t < n + 1 := by omega
          rw [Nat.testBit_lt_two_pow (Nat.lt_of_lt_of_le (show 2 ^ n + bmn f n < 2 ^ (n + 1) by rw [Nat.pow_succ]; omega) (Nat.pow_le_pow_right (by decide) (by omega)))]
          simp [h3]
theorem bm_bit (f : Nat → Bool) {t : Nat} (ht : t < 6) : (bm f).testBit t = f t := by
  rw [bmn_bit]; simp [ht]
theorem bm_ext {a b : Nat} (ha : a < 64) (hb : b < 64) (h : ∀ t, t < 6 → a.testBit t = b.testBit t) : a = b := by
  apply Nat.eq_of_testBit_eq
  intro t
  by_cases ht : t < 6
  · exact h t ht
  · have h1 : a < 2 ^ t := Nat.lt_of_lt_of_le ha (by have : 2 ^ 6 ≤ 2 ^ t := Nat.pow_le_pow_right (by decide) (by omega); omega)
    have h2 : b < 2 ^ t := Nat.lt_of_lt_of_le hb (by have : 2 ^ 6 ≤ 2 ^ t := Nat.pow_le_pow_right (by decide) (by omega); omega)
    rw [Nat.testBit_lt_two_pow h1, Nat.testBit_lt_two_pow h2]
theorem bm_of {a : Nat} (ha : a < 64) : bm (fun t => a.testBit t) = a := bm_ext (bm_lt _) ha (fun t ht => by rw [bm_bit _ ht])
theorem bm_congr {f g : Nat → Bool} (h : ∀ t, t < 6 → f t = g t) : bm f = bm g := bm_ext (bm_lt _) (bm_lt _) (fun t ht => by rw [bm_bit _ ht, bm_bit _ ht, h t ht])
theorem tab2 {P : Nat → Nat → Prop} {N M : Nat} {dc : ∀ i j, Decidable (P i j)} (h : (List.range N).all (fun i => (List.range M).all fun j => @decide (P i j) (dc i j)) = true) {i j : Nat} (hi : i < N) (hj : j < M) : P i j := by
  have h1 := List.all_eq_true.mp h i (List.mem_range.mpr hi)
  exact @of_decide_eq_true _ (dc i j) (List.all_eq_true.mp h1 j (List.mem_range.mpr hj))
