/-! ===== plans made small: what is reached ===== -/
def one (w : Nat → Nat) (s t : Nat) : Bool := decide (w (6 * s + t) = 0) && decide (w (6 * t + s) = 0)
/-- the least of those that are one with s, of s and the j before it -/
def lf (w : Nat → Nat) (s : Nat) : Nat → Nat
  | 0 => s
  | j + 1 => bif one w s (s - 1 - j) then s - 1 - j else lf w s j
theorem lf_le (w : Nat → Nat) (s : Nat) : ∀ j, lf w s j ≤ s := by
  intro j
  induction j with
  | zero => exact Nat.le_refl s
  | succ j ih =>
    simp only [lf]
    cases one w s (s - 1 - j)
    · exact ih
    · show s - 1 - j ≤ s
      omega
def lst (n : Nat) (w : Nat → Nat) (s : Nat) : Nat := if s < n then lf w s s else s
theorem lst_le (n : Nat) (w : Nat → Nat) (s : Nat) : lst n w s ≤ s := by
  unfold lst
  split
  · exact lf_le w s s
  · exact Nat.le_refl s
def nxt (g : Nat → Nat → Nat → Nat) (ls : Nat → Nat) (s t : Nat) : Bool := (List.range 3).any fun l => (List.range 6).any fun t' => decide (1 ≤ g s l t') && (t == ls t')
def stp (g : Nat → Nat → Nat → Nat) (ls : Nat → Nat) (s : Nat) (u : Nat → Bool) : Nat → Bool := fun t => u t || (u s && nxt g ls s t)
def trn (g : Nat → Nat → Nat → Nat) (ls : Nat → Nat) : Nat → (Nat → Bool) → Nat → Bool
  | 0, u => u
  | s + 1, u => stp g ls s (trn g ls s u)
def rch (g : Nat → Nat → Nat → Nat) (ls : Nat → Nat) (n : Nat) : Nat → Nat → Bool
  | 0 => fun t => t == 0
  | m + 1 => trn g ls n (rch g ls n m)
section RCH
variable {g : Nat → Nat → Nat → Nat} {ls : Nat → Nat} {n : Nat}
theorem trn_le {u : Nat → Bool} {t : Nat} (h : u t = true) : ∀ k, trn g ls k u t = true := by
  intro k
  induction k with
  | zero => exact h
  | succ k ih => simp only [trn, stp]; rw [ih]; rfl
theorem trn_mono {u : Nat → Bool} {t k : Nat} (h : trn g ls k u t = true) : ∀ m, trn g ls (k + m) u t = true := by
  intro m
  induction m with
  | zero => exact h
  | succ m ih =>
    show trn g ls (k + m + 1) u t = true
    simp only [trn, stp]
    rw [ih]
    rfl
theorem nxt_in (hg : GW n g) (hl : ∀ t, ls t ≤ t) {s t : Nat} (h : nxt g ls s t = true) : t < n := by
  obtain ⟨l, -, h⟩ := List.any_eq_true.mp h
  obtain ⟨t', -, h⟩ := List.any_eq_true.mp h
  simp only [Bool.and_eq_true, decide_eq_true_eq, beq_iff_eq] at h
  have h1 := ((hg.2 s l t').2 (by omega)).2.2
  have h2 := hl t'
  omega
theorem trn_in (hg : GW n g) (hl : ∀ t, ls t ≤ t) {u : Nat → Bool} (hu : ∀ t, u t = true → t < n) : ∀ k t, trn g ls k u t = true → t < n := by
  intro k
  induction k with
  | zero => exact hu
  | succ k ih =>
    intro t h
    simp only [trn, stp, Bool.or_eq_true, Bool.and_eq_true] at h
    rcases h with h | ⟨-, h⟩
    · exact ih t h
    · exact nxt_in hg hl h
theorem rch_in (hg : GW n g) (hl : ∀ t, ls t ≤ t) : ∀ m t, rch g ls n m t = true → t < n := by
  intro m
  induction m with
  | zero =>
    intro t h
    have : t = 0 := by simpa [rch] using h
    have := hg.1.1
    omega
  | succ m ih => exact trn_in hg hl ih n
theorem rch_ext (hg : GW n g) (hl : ∀ t, ls t ≤ t) {m m' : Nat} (h : bm (rch g ls n m) = bm (rch g ls n m')) : rch g ls n m = rch g ls n m' := by
  funext t
  by_cases ht : t < 6
  · rw [← bm_bit (rch g ls n m) ht, ← bm_bit (rch g ls n m') ht, h]
  · have e : ∀ m, rch g ls n m t = false := fun m => by
      cases hr : rch g ls n m t with
      | false => rfl
      | true => have := rch_in hg hl m t hr; have := hg.1.2; omega
    rw [e, e]
theorem rch_keep {m : Nat} (h : rch g ls n (m + 1) = rch g ls n m) : ∀ k, rch g ls n (m + k) = rch g ls n m := by
  intro k
  induction k with
  | zero => rfl
  | succ k ih =>
    show trn g ls n (rch g ls n (m + k)) = _
    rw [ih]
    exact h
theorem rch_cnt (hg : GW n g) (hl : ∀ t, ls t ≤ t) : ∀ m, (∃ m0, m0 < m ∧ rch g ls n (m0 + 1) = rch g ls n m0) ∨ m + 1 ≤ cnt (rch g ls n m) 6 := by
  intro m
  induction m with
  | zero => right; show 0 + 1 ≤ cnt (fun t => t == 0) 6; decide
  | succ m ih =>
    rcases ih with ⟨m0, h1, h2⟩ | ih
    · exact Or.inl ⟨m0, by omega, h2⟩
    · by_cases e : rch g ls n (m + 1) = rch g ls n m
      · exact Or.inl ⟨m, by omega, e⟩
      · right
        have h3 : ∃ t, t < 6 ∧ rch g ls n m t = false ∧ rch g ls n (m + 1) t = true := by
          refine Classical.byContradiction fun hn => e ?_
          funext t
          cases ht : rch g ls n (m + 1) t with
          | false =>
            cases h4 : rch g ls n m t with
            | false => rfl
            | true => rw [← ht]; exact (trn_le h4 n)
          | true =>
            have h6 := rch_in hg hl _ t ht
            have := hg.1.2
            cases h4 : rch g ls n m t with
            | true => rfl
            | false => exact absurd ⟨t, by omega, h4, ht⟩ hn
        have := cnt_lt (f := rch g ls n m) (g := rch g ls n (m + 1)) 6 (fun k _ hk => trn_le hk n) h3
        omega
theorem rch_fix (hg : GW n g) (hl : ∀ t, ls t ≤ t) : rch g ls n 7 = rch g ls n 6 := by
  rcases rch_cnt hg hl 6 with ⟨m0, h1, h2⟩ | h
  · have h3 := rch_keep h2 (7 - m0)
    have h4 := rch_keep h2 (6 - m0)
    rw [show m0 + (7 - m0) = 7 by omega] at h3
    rw [show m0 + (6 - m0) = 6 by omega] at h4
    rw [h3, h4]
  · have := cnt_le (rch g ls n 6) 6
    omega
/-- what is reached is closed -/
theorem rch_cl (hg : GW n g) (hl : ∀ t, ls t ≤ t) {s t : Nat} (hs : rch g ls n 6 s = true) (h : nxt g ls s t = true) : rch g ls n 6 t = true := by
  have hsn := rch_in hg hl 6 s hs
  rw [← rch_fix hg hl]
  show trn g ls n (rch g ls n 6) t = true
  have h1 : trn g ls (s + 1) (rch g ls n 6) t = true := by
    simp only [trn, stp]
    rw [trn_le hs s, h]
    simp
  have := trn_mono h1 (n - (s + 1))
  rwa [show s + 1 + (n - (s + 1)) = n by omega] at this
end RCH
/-- the arrows, carried over one after the other -/
def cst (g : Nat → Nat → Nat → Nat) (ls : Nat → Nat) (u : Nat → Bool) (K : Nat) (a : Nat → Nat → Nat → Nat) : Nat → Nat → Nat → Nat := bif u (K / 18) then gset a (cnt u (K / 18)) (K / 6 % 3) (cnt u (ls (K % 6))) (max (a (cnt u (K / 18)) (K / 6 % 3) (cnt u (ls (K % 6)))) (g (K / 18) (K / 6 % 3) (K % 6))) else a
def cfo (g : Nat → Nat → Nat → Nat) (ls : Nat → Nat) (u : Nat → Bool) : Nat → Nat → Nat → Nat → Nat
  | 0 => fun _ _ _ => 0
  | K + 1 => cst g ls u K (cfo g ls u K)
theorem gset_same (a : Nat → Nat → Nat → Nat) (s l t : Nat) : gset a s l t (max (a s l t) 0) = a := by
  funext x y z
  unfold gset
  split
  · rename_i h
    obtain ⟨rfl, rfl, rfl⟩ := h
    omega
  · rfl
theorem cst_0 {g : Nat → Nat → Nat → Nat} {ls : Nat → Nat} {u : Nat → Bool} {K : Nat} {a : Nat → Nat → Nat → Nat} (h : u (K / 18) = false ∨ g (K / 18) (K / 6 % 3) (K % 6) = 0) : cst g ls u K a = a := by
  unfold cst
  rcases h with h | h
  · rw [h]; rfl
  · rw [h, gset_same]
    cases u (K / 18) <;> rfl
theorem cfo_skip {g : Nat → Nat → Nat → Nat} {ls : Nat → Nat} {u : Nat → Bool} {K : Nat} : ∀ m, (∀ k, K ≤ k → k < K + m → u (k / 18) = false ∨ g (k / 18) (k / 6 % 3) (k % 6) = 0) → cfo g ls u (K + m) = cfo g ls u K := by
  intro m
  induction m with
  | zero => intro _; rfl
  | succ m ih =>
    intro h
    show cst g ls u (K + m) (cfo g ls u (K + m)) = _
    rw [cst_0 (h (K + m) (by omega) (by omega))]
    exact ih (fun k h1 h2 => h k h1 (by omega))
theorem cnt_mono (f : Nat → Bool) {a b : Nat} (h : a ≤ b) : cnt f a ≤ cnt f b := by
  obtain ⟨c, rfl⟩ : ∃ c, b = a + c := ⟨b - a, by omega⟩
  clear h
  induction c with
  | zero => exact Nat.le_refl _
  | succ c ih =>
    show cnt f a ≤ cnt f (a + c) + _
    omega
theorem cnt_rank {f : Nat → Bool} {s N : Nat} (h : f s = true) (hs : s < N) : cnt f s < cnt f N := by
  have h1 := cnt_mono f (show s + 1 ≤ N from hs)
  simp only [cnt, h, cond_true] at h1
  omega
theorem cfo_wf {g : Nat → Nat → Nat → Nat} {ls : Nat → Nat} {n : Nat} (hg : GW n g) (hl : ∀ t, ls t ≤ t) : GW (cnt (rch g ls n 6) 6) (cfo g ls (rch g ls n 6) 108) := by
  obtain ⟨u, hu⟩ : ∃ u, u = rch g ls n 6 := ⟨_, rfl⟩
  have hn := hg.1.2
  have h0 : u 0 = true := by
    rw [hu]
    have key : ∀ m, rch g ls n m 0 = true := by
      intro m
      induction m with
      | zero => rfl
      | succ m ih => exact trn_le ih n
    exact key 6
  rw [← hu]
  refine ⟨⟨by have := cnt_rank h0 (show 0 < 6 by decide); omega, cnt_le u 6⟩, ?_⟩
  have key : ∀ K, K ≤ 108 → ∀ a b c, cfo g ls u K a b c ≤ 2 ∧ (cfo g ls u K a b c ≠ 0 → a < cnt u 6 ∧ b < 3 ∧ c < cnt u 6) := by
    intro K
    induction K with
    | zero => intro _ a b c; exact ⟨Nat.zero_le _, fun h => absurd rfl h⟩
    | succ K ih =>
      intro hK a b c
      have ih := ih (by omega)
      show cst g ls u K (cfo g ls u K) a b c ≤ 2 ∧ (cst g ls u K (cfo g ls u K) a b c ≠ 0 → _)
      by_cases e : u (K / 18) = false ∨ g (K / 18) (K / 6 % 3) (K % 6) = 0
      · rw [cst_0 e]
        exact ih a b c
      · have e1 : u (K / 18) = true := by
          cases h : u (K / 18) with
          | true => rfl
          | false => exact absurd (Or.inl h) e
        have e2 : g (K / 18) (K / 6 % 3) (K % 6) ≠ 0 := fun z => e (Or.inr z)
        obtain ⟨q1, q2⟩ := hg.2 (K / 18) (K / 6 % 3) (K % 6)
        have q3 := q2 e2
        unfold cst
        rw [e1, cond_true]
        unfold gset
        split
        · rename_i h
          obtain ⟨rfl, rfl, rfl⟩ := h
          refine ⟨by have := (ih (cnt u (K / 18)) (K / 6 % 3) (cnt u (ls (K % 6)))).1; omega, fun _ => ⟨cnt_rank e1 (by omega), by omega, cnt_rank ?_ (by have := hl (K % 6); omega)⟩⟩
          rw [hu]
          rw [hu] at e1
          refine rch_cl hg hl e1 ?_
          unfold nxt
          refine List.any_eq_true.mpr ⟨K / 6 % 3, List.mem_range.mpr (by omega), List.any_eq_true.mpr ⟨K % 6, List.mem_range.mpr (by omega), ?_⟩⟩
          simp only [Bool.and_eq_true, decide_eq_true_eq, beq_iff_eq]
          exact ⟨by omega, trivial⟩
        · exact ih a b c
  exact key 108 (Nat.le_refl _)
