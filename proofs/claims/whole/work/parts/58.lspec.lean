/-! ===== tokens: what they are ===== -/
/-- the byte at a place, 256 where there is none -/
def bt (T : Nat) (t : Nat → Nat) (j : Nat) : Nat := if j < T then t j else 256
def bI (b : Nat) : Int32 := if b < 256 then nI b else -1
def isD (b : Nat) : Bool := decide (48 ≤ b) && decide (b ≤ 57)
def isW (b : Nat) : Bool := decide (97 ≤ b) && decide (b ≤ 122)
/-- where a run ends -/
def runP (P : Nat → Bool) : Nat → Nat → Nat
  | 0, p => p
  | m + 1, p => bif P p then runP P m (p + 1) else p
section LX
variable (T : Nat) (t : Nat → Nat)
def runS (p : Nat) : Nat := runP (fun j => bt T t j == 32) (T - p) p
def runD (p : Nat) : Nat := runP (fun j => isD (bt T t j)) (T - p) p
def runW (p : Nat) : Nat := runP (fun j => isW (bt T t j)) (T - p) p
/-- a number, held at 100 -/
def nvC (j : Nat) : Nat → Nat
  | 0 => 0
  | m + 1 => min (nvC j m * 10 + bt T t (j + m) - 48) 100
def nvM (j : Nat) : Nat → Nat
  | 0 => 0
  | m + 1 => if nvM j m > 99 then nvM j m else 10 * nvM j m + bt T t (j + m) - 48
def wrd (j m : Nat) : Nat := if m = 6 ∧ (bt T t j = 115 ∧ bt T t (j + 1) = 116 ∧ bt T t (j + 2) = 97) ∧ (bt T t (j + 3) = 116 ∧ bt T t (j + 4) = 101 ∧ bt T t (j + 5) = 115) then 4 else if m = 3 ∧ bt T t j = 109 ∧ bt T t (j + 1) = 97 ∧ bt T t (j + 2) = 121 then 5 else if m = 4 ∧ (bt T t j = 109 ∧ bt T t (j + 1) = 117 ∧ bt T t (j + 2) = 115) ∧ bt T t (j + 3) = 116 then 6 else 1
/-- the token that begins at a place: its kind, its worth, its end -/
def lex (j : Nat) : Nat × Nat × Nat :=
  if isD (bt T t j) = true then (if nvC T t j (runD T t j - j) > 99 ∨ (1 < runD T t j - j ∧ bt T t j = 48) then 1 else 2, nvC T t j (runD T t j - j), runD T t j)
  else if isW (bt T t j) = true then (if runW T t j - j = 1 ∧ bt T t j < 100 then (3, bt T t j - 97, runW T t j) else (wrd T t j (runW T t j - j), 0, runW T t j))
  else (if sgn (bt T t j) = true then bt T t j else 1, 0, j + 1)
/-- where the search for token i begins; where it stands -/
def tst : Nat → Nat
  | 0 => 0
  | i + 1 => if runS T t (tst i) < T then (lex T t (runS T t (tst i))).2.2 else T
def tpl (i : Nat) : Nat := runS T t (tst T t i)
def tki (i : Nat) : Nat := if tpl T t i < T then (lex T t (tpl T t i)).1 else 0
def two (i : Nat) : Nat := if tpl T t i < T then (lex T t (tpl T t i)).2.1 else 0
end LX
section LY
variable {T : Nat} {t : Nat → Nat}
theorem runP_ge (P : Nat → Bool) : ∀ m p, p ≤ runP P m p ∧ runP P m p ≤ p + m := by
  intro m
  induction m with
  | zero => intro p; exact ⟨Nat.le_refl _, Nat.le_refl _⟩
  | succ m ih =>
    intro p
    simp only [runP]
    have := ih (p + 1)
    cases P p
    · exact ⟨Nat.le_refl _, by show p ≤ _; omega⟩
    · exact ⟨by show p ≤ runP P m (p + 1); omega, by show runP P m (p + 1) ≤ _; omega⟩
theorem runP_in (P : Nat → Bool) : ∀ m p j, p ≤ j → j < runP P m p → P j = true := by
  intro m
  induction m with
  | zero => intro p j h1 h2; simp only [runP] at h2; omega
  | succ m ih =>
    intro p j h1 h2
    simp only [runP] at h2
    cases e : P p with
    | false => rw [e] at h2; simp only [cond_false] at h2; omega
    | true =>
      rw [e] at h2
      by_cases hj : j = p
      · subst hj; exact e
      · exact ih (p + 1) j (by omega) h2
theorem bt_out {j : Nat} (h : T ≤ j) : bt T t j = 256 := if_neg (by omega)
theorem runP_first {P : Nat → Bool} {m p : Nat} (hm : 0 < m) (h : P p = true) : p < runP P m p := by
  obtain ⟨k, rfl⟩ : ∃ k, m = k + 1 := ⟨m - 1, by omega⟩
  simp only [runP, h, cond_true]
  have := (runP_ge P k (p + 1)).1
  omega
theorem lex_end {j : Nat} (hj : j < T) : j < (lex T t j).2.2 ∧ (lex T t j).2.2 ≤ T := by
  unfold lex
  split
  · rename_i h
    refine ⟨runP_first (by omega) h, ?_⟩
    have := (runP_ge (fun j => isD (bt T t j)) (T - j) j).2
    show runP (fun j => isD (bt T t j)) (T - j) j ≤ T
    omega
  · split
    · rename_i h
      have h1 : j < runW T t j := runP_first (by omega) h
      have h2 := (runP_ge (fun j => isW (bt T t j)) (T - j) j).2
      have h3 : runW T t j ≤ T := by
        show runP (fun j => isW (bt T t j)) (T - j) j ≤ T
        omega
      split
      · exact ⟨h1, h3⟩
      · exact ⟨h1, h3⟩
    · exact ⟨Nat.lt_succ_self j, hj⟩
theorem tst_le : ∀ i, tst T t i ≤ T := by
  intro i
  induction i with
  | zero => exact Nat.zero_le _
  | succ i ih =>
    simp only [tst]
    split
    · rename_i h
      exact (lex_end h).2
    · exact Nat.le_refl _
theorem tpl_le (i : Nat) : tst T t i ≤ tpl T t i ∧ tpl T t i ≤ T := by
  have h1 := runP_ge (fun j => bt T t j == 32) (T - tst T t i) (tst T t i)
  have h2 := tst_le (T := T) (t := t) i
  exact ⟨h1.1, by show runP (fun j => bt T t j == 32) (T - tst T t i) (tst T t i) ≤ T; omega⟩
theorem tst_s (i : Nat) (h : tpl T t i < T) : tst T t (i + 1) = (lex T t (tpl T t i)).2.2 := by
  show (if runS T t (tst T t i) < T then (lex T t (runS T t (tst T t i))).2.2 else T) = _
  exact if_pos h
theorem tst_lt (i : Nat) (h : tpl T t i < T) : tst T t i < tst T t (i + 1) := by
  rw [tst_s i h]
  have := (tpl_le (T := T) (t := t) i).1
  have := (lex_end (t := t) h).1
  omega
/-- the last token -/
theorem tok_end : ∃ N, N ≤ T ∧ tpl T t N = T ∧ ∀ i, i < N → tpl T t i < T := by
  have key : ∀ m, (∃ N, N ≤ m ∧ tpl T t N = T ∧ ∀ i, i < N → tpl T t i < T) ∨ ((∀ i, i ≤ m → tpl T t i < T) ∧ m ≤ tst T t m) := by
    intro m
    induction m with
    | zero =>
      by_cases h : tpl T t 0 < T
      · exact Or.inr ⟨fun i hi => by rw [show i = 0 by omega]; exact h, Nat.zero_le _⟩
      · exact Or.inl ⟨0, Nat.le_refl _, by have := (tpl_le (T := T) (t := t) 0).2; omega, fun i hi => by omega⟩
    | succ m ih =>
      rcases ih with ⟨N, h1, h2, h3⟩ | ⟨h1, h2⟩
      · exact Or.inl ⟨N, by omega, h2, h3⟩
      · have h4 := tst_lt m (h1 m (Nat.le_refl m))
        by_cases h : tpl T t (m + 1) < T
        · exact Or.inr ⟨fun i hi => by
            by_cases e : i = m + 1
            · subst e; exact h
            · exact h1 i (by omega), by omega⟩
        · exact Or.inl ⟨m + 1, Nat.le_refl _, by have := (tpl_le (T := T) (t := t) (m + 1)).2; omega, fun i hi => h1 i (by omega)⟩
  rcases key T with ⟨N, h1, h2, h3⟩ | ⟨h1, h2⟩
  · exact ⟨N, h1, h2, h3⟩
  · have := h1 T (Nat.le_refl T)
    have := (tpl_le (T := T) (t := t) T).1
    omega
/-- after the last token there is the same -/
theorem tst_end {N : Nat} (h : tpl T t N = T) : tst T t (N + 1) = T ∧ tpl T t (N + 1) = T := by
  have e : tst T t (N + 1) = T := by
    show (if runS T t (tst T t N) < T then _ else T) = _
    rw [if_neg (by have : runS T t (tst T t N) = T := h; omega)]
  refine ⟨e, ?_⟩
  have := tpl_le (T := T) (t := t) (N + 1)
  omega
theorem nv_rel (j : Nat) : ∀ m, (∀ k, k < m → isD (bt T t (j + k)) = true) → (nvC T t j m = nvM T t j m ∧ nvM T t j m ≤ 99) ∨ (nvC T t j m = 100 ∧ 99 < nvM T t j m) := by
  intro m
  induction m with
  | zero => intro _; left; exact ⟨rfl, Nat.zero_le _⟩
  | succ m ih =>
    intro hd
    have hb := hd m (by omega)
    unfold isD at hb
    simp only [Bool.and_eq_true, decide_eq_true_eq] at hb
    rcases ih (fun k hk => hd k (by omega)) with ⟨h1, h2⟩ | ⟨h1, h2⟩
    · simp only [nvC, nvM]
      rw [if_neg (by omega), h1]
      by_cases h : 10 * nvM T t j m + bt T t (j + m) - 48 ≤ 99
      · left; omega
      · right; omega
    · right
      simp only [nvC, nvM]
      rw [if_pos (by omega), h1]
      omega
theorem nv_le (j : Nat) : ∀ m, nvC T t j m ≤ 100 := by
  intro m
  cases m with
  | zero => exact Nat.zero_le _
  | succ m => simp only [nvC]; omega
theorem runP_stop {P : Nat → Bool} (hP : ∀ j, T ≤ j → P j = false) : ∀ m p, T ≤ p + m → P (runP P m p) = false := by
  intro m
  induction m with
  | zero => intro p h; exact hP p h
  | succ m ih =>
    intro p h
    simp only [runP]
    cases e : P p with
    | false => exact e
    | true => exact ih (p + 1) (by omega)
theorem isD_256 : isD 256 = false := by decide
theorem isW_256 : isW 256 = false := by decide
theorem runD_stop (p : Nat) (hp : p ≤ T) : isD (bt T t (runD T t p)) = false := runP_stop (T := T) (P := fun j => isD (bt T t j)) (fun j hj => by show isD (bt T t j) = false; rw [bt_out hj]; exact isD_256) (T - p) p (by omega)
theorem runW_stop (p : Nat) (hp : p ≤ T) : isW (bt T t (runW T t p)) = false := runP_stop (T := T) (P := fun j => isW (bt T t j)) (fun j hj => by show isW (bt T t j) = false; rw [bt_out hj]; exact isW_256) (T - p) p (by omega)
end LY
