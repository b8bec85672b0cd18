/-! ===== what the rounds are ===== -/
/-- which pairs stand: of states, and not gone -/
def rs (n1 n2 : Nat) (w : Nat → Nat) (s t : Nat) : Bool := decide (s < n1) && decide (t < n2) && decide (w (6 * s + t) = 0)
/-- by which side a pair has to go at a letter -/
def sd (g1 g2 : Nat → Nat → Nat → Nat) (r : Nat → Nat → Bool) (s t l : Nat) : Nat :=
  bif lack r (fun x => decide (1 ≤ g1 s l x)) (fun y => decide (1 ≤ g2 t l y)) 6 then 1 else bif lack (fun a b => r b a) (fun y => decide (2 ≤ g2 t l y)) (fun x => decide (2 ≤ g1 s l x)) 6 then 2 else 0
/-- the first letter with a side, of the letters from l on -/
def fl (f : Nat → Nat) : Nat := if f 0 ≠ 0 then 0 else if f 1 ≠ 0 then 1 else 2
def hg (f : Nat → Nat) : Bool := decide (f 0 ≠ 0) || decide (f 1 ≠ 0) || decide (f 2 ≠ 0)
def gok (n1 n2 : Nat) (g1 g2 : Nat → Nat → Nat → Nat) (w : Nat → Nat) (k : Nat) : Bool := rs n1 n2 w (k / 6) (k % 6) && hg (sd g1 g2 (rs n1 n2 w) (k / 6) (k % 6))
/-- one round -/
def w1 (n1 n2 : Nat) (g1 g2 : Nat → Nat → Nat → Nat) (R : Nat) (w : Nat → Nat) (k : Nat) : Nat := bif gok n1 n2 g1 g2 w k then R else w k
def wR (n1 n2 : Nat) (g1 g2 : Nat → Nat → Nat → Nat) : Nat → Nat → Nat
  | 0 => fun _ => 0
  | R + 1 => w1 n1 n2 g1 g2 (R + 1) (wR n1 n2 g1 g2 R)
theorem sd_le (g1 g2 : Nat → Nat → Nat → Nat) (r : Nat → Nat → Bool) (s t l : Nat) : sd g1 g2 r s t l ≤ 2 := by
  unfold sd
  cases lack r (fun x => decide (1 ≤ g1 s l x)) (fun y => decide (1 ≤ g2 t l y)) 6 <;> cases lack (fun a b => r b a) (fun y => decide (2 ≤ g2 t l y)) (fun x => decide (2 ≤ g1 s l x)) 6 <;> simp
section RS
variable {n1 n2 : Nat} {g1 g2 : Nat → Nat → Nat → Nat}
theorem wR_le : ∀ R k, wR n1 n2 g1 g2 R k ≤ R := by
  intro R
  induction R with
  | zero => intro k; exact Nat.le_refl 0
  | succ R ih =>
    intro k
    show w1 n1 n2 g1 g2 (R + 1) _ k ≤ _
    unfold w1
    have := ih k
    cases gok n1 n2 g1 g2 (wR n1 n2 g1 g2 R) k <;> simp <;> omega
theorem lack_congr {r r' : Nat → Nat → Bool} {f g f' g' : Nat → Bool} : ∀ n, n ≤ 6 → (∀ a b, a < 6 → b < 6 → r a b = r' a b) → (∀ a, a < 6 → f a = f' a) → (∀ a, a < 6 → g a = g' a) → lack r f g n = lack r' f' g' n := by
  intro n
  induction n with
  | zero => intros; rfl
  | succ n ih =>
    intro hn hr hf hg
    simp only [lack]
    rw [ih (by omega) hr hf hg, hf n (by omega)]
    congr 3
    rw [Bool.eq_iff_iff, List.any_eq_true, List.any_eq_true]
    constructor
    · rintro ⟨x, hx, h⟩
      exact ⟨x, hx, by rw [← hg x (List.mem_range.mp hx), ← hr n x (by omega) (List.mem_range.mp hx)]; exact h⟩
    · rintro ⟨x, hx, h⟩
      exact ⟨x, hx, by rw [hg x (List.mem_range.mp hx), hr n x (by omega) (List.mem_range.mp hx)]; exact h⟩
theorem sd_congr {r r' : Nat → Nat → Bool} (h : ∀ a b, a < 6 → b < 6 → r a b = r' a b) (s t l : Nat) : sd g1 g2 r s t l = sd g1 g2 r' s t l := by
  unfold sd
  rw [lack_congr 6 (Nat.le_refl 6) h (fun _ _ => rfl) (fun _ _ => rfl), lack_congr (r := fun a b => r b a) (r' := fun a b => r' b a) 6 (Nat.le_refl 6) (fun a b ha hb => h b a hb ha) (fun _ _ => rfl) (fun _ _ => rfl)]
theorem rs_congr {w w' : Nat → Nat} (h : ∀ k, k < 36 → (w k = 0 ↔ w' k = 0)) : ∀ a b, a < 6 → b < 6 → rs n1 n2 w a b = rs n1 n2 w' a b := by
  intro a b ha hb
  unfold rs
  rw [decide_eq_decide.mpr (h (6 * a + b) (by omega))]
theorem gok_congr {w w' : Nat → Nat} (h : ∀ k, k < 36 → (w k = 0 ↔ w' k = 0)) {k : Nat} (hk : k < 36) : gok n1 n2 g1 g2 w k = gok n1 n2 g1 g2 w' k := by
  have hr := rs_congr (n1 := n1) (n2 := n2) h
  unfold gok
  rw [hr _ _ (by omega) (by omega)]
  congr 1
  unfold hg
  rw [sd_congr hr, sd_congr hr, sd_congr hr]
/-- none goes: nothing changes any more -/
theorem wR_fix {R : Nat} (h : ∀ k, k < 36 → gok n1 n2 g1 g2 (wR n1 n2 g1 g2 R) k = false) : ∀ m k, k < 36 → wR n1 n2 g1 g2 (R + m) k = wR n1 n2 g1 g2 R k := by
  intro m
  induction m with
  | zero => intro k _; rfl
  | succ m ih =>
    intro k hk
    show w1 n1 n2 g1 g2 (R + m + 1) (wR n1 n2 g1 g2 (R + m)) k = _
    unfold w1
    rw [gok_congr (w' := wR n1 n2 g1 g2 R) (fun j hj => by rw [ih j hj]) hk, h k hk, cond_false, ih k hk]
/-- once gone, gone in that round -/
theorem wR_keep {R k : Nat} (h : wR n1 n2 g1 g2 R k ≠ 0) : ∀ m, wR n1 n2 g1 g2 (R + m) k = wR n1 n2 g1 g2 R k := by
  intro m
  induction m with
  | zero => rfl
  | succ m ih =>
    show w1 n1 n2 g1 g2 (R + m + 1) (wR n1 n2 g1 g2 (R + m)) k = _
    unfold w1 gok rs
    rw [show 6 * (k / 6) + k % 6 = k by omega, ih]
    simp [h]
/-- how many pairs stand -/
theorem cnt_lt {f g : Nat → Bool} : ∀ n, (∀ k, k < n → f k = true → g k = true) → (∃ k, k < n ∧ f k = false ∧ g k = true) → cnt f n < cnt g n := by
  intro n
  induction n with
  | zero => rintro - ⟨k, hk, -⟩; omega
  | succ n ih =>
    intro h hx
    simp only [cnt]
    have hle : ∀ n, (∀ k, k < n → f k = true → g k = true) → cnt f n ≤ cnt g n := by
      intro n
      induction n with
      | zero => intro _; exact Nat.le_refl 0
      | succ n ih2 =>
        intro h
        simp only [cnt]
        have h1 := ih2 (fun k hk => h k (by omega))
        cases hf : f n with
        | true => rw [h n (by omega) hf]; simp; exact h1
        | false => cases g n <;> simp <;> omega
    have h1 := hle n (fun k hk => h k (by omega))
    obtain ⟨k, hk, hf, hg⟩ := hx
    by_cases e : k = n
    · subst e
      rw [hf, hg]
      simp
      omega
    · have h2 := ih (fun k hk => h k (by omega)) ⟨k, by omega, hf, hg⟩
      cases hf2 : f n with
      | true => rw [h n (by omega) hf2]; simp; exact h2
      | false => cases g n <;> simp <;> omega
theorem wR_cnt : ∀ R, (∃ R0, R0 < R ∧ ∀ k, k < 36 → gok n1 n2 g1 g2 (wR n1 n2 g1 g2 R0) k = false) ∨ cnt (fun k => decide (wR n1 n2 g1 g2 R k = 0)) 36 + R ≤ 36 := by
  intro R
  induction R with
  | zero => right; have := cnt_le (fun k => decide (wR n1 n2 g1 g2 0 k = 0)) 36; omega
  | succ R ih =>
    rcases ih with ⟨R0, h1, h2⟩ | ih
    · exact Or.inl ⟨R0, by omega, h2⟩
    · by_cases hn : ∀ k, k < 36 → gok n1 n2 g1 g2 (wR n1 n2 g1 g2 R) k = false
      · exact Or.inl ⟨R, by omega, hn⟩
      · right
        obtain ⟨k, hk⟩ := Classical.not_forall.mp hn
        obtain ⟨hk36, hk⟩ := Classical.not_imp.mp hk
        have hk' : gok n1 n2 g1 g2 (wR n1 n2 g1 g2 R) k = true := by simpa using hk
        have h3 := cnt_lt (f := fun k => decide (wR n1 n2 g1 g2 (R + 1) k = 0)) (g := fun k => decide (wR n1 n2 g1 g2 R k = 0)) 36 (fun j _ hj => by
            have hj' : w1 n1 n2 g1 g2 (R + 1) (wR n1 n2 g1 g2 R) j = 0 := of_decide_eq_true hj
            unfold w1 at hj'
            cases hgj : gok n1 n2 g1 g2 (wR n1 n2 g1 g2 R) j with
            | true => rw [hgj] at hj'; simp at hj'
            | false => rw [hgj] at hj'; exact decide_eq_true hj') ⟨k, hk36, by
            apply decide_eq_false
            show ¬ w1 n1 n2 g1 g2 (R + 1) (wR n1 n2 g1 g2 R) k = 0
            unfold w1
            rw [hk']
            simp, by
            unfold gok rs at hk'
            simp only [Bool.and_eq_true, decide_eq_true_eq] at hk'
            rw [show 6 * (k / 6) + k % 6 = k by omega] at hk'
            exact decide_eq_true hk'.1.2⟩
        omega
/-- after 36 rounds none goes -/
theorem wR_end : ∀ k, k < 36 → gok n1 n2 g1 g2 (wR n1 n2 g1 g2 36) k = false := by
  intro k hk
  rcases wR_cnt (n1 := n1) (n2 := n2) (g1 := g1) (g2 := g2) 37 with ⟨R0, h1, h2⟩ | h
  · have h3 := wR_fix h2 (36 - R0)
    rw [show R0 + (36 - R0) = 36 by omega] at h3
    rw [gok_congr (w' := wR n1 n2 g1 g2 R0) (fun j hj => by rw [h3 j hj]) hk]
    exact h2 k hk
  · omega
/-- the end of all rounds -/
abbrev wE (n1 n2 : Nat) (g1 g2 : Nat → Nat → Nat → Nat) : Nat → Nat := wR n1 n2 g1 g2 37
theorem wE_of {R : Nat} (hR : R ≤ 37) (h : ∀ k, k < 36 → gok n1 n2 g1 g2 (wR n1 n2 g1 g2 R) k = false) {k : Nat} (hk : k < 36) : wE n1 n2 g1 g2 k = wR n1 n2 g1 g2 R k := by
  have := wR_fix h (37 - R) k hk
  rwa [show R + (37 - R) = 37 by omega] at this
/-- the letter and the side by which the first pair went -/
def whyL (n1 n2 : Nat) (g1 g2 : Nat → Nat → Nat → Nat) : Nat := fl (sd g1 g2 (rs n1 n2 (wR n1 n2 g1 g2 (wE n1 n2 g1 g2 0 - 1))) 0 0)
def whyS (n1 n2 : Nat) (g1 g2 : Nat → Nat → Nat → Nat) : Nat := sd g1 g2 (rs n1 n2 (wR n1 n2 g1 g2 (wE n1 n2 g1 g2 0 - 1))) 0 0 (whyL n1 n2 g1 g2)
end RS
