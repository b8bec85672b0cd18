/-! ===== sets on ints ===== -/
set_option maxRecDepth 100000 in
theorem bi_tab : (List.range 64).all (fun m => (List.range 6).all fun t => decide (bi (nI m) t = m.testBit t)) = true := by decide +kernel
theorem bi_nI {m t : Nat} (hm : m < 64) (ht : t < 6) : bi (nI m) t = m.testBit t := tab2 bi_tab hm ht
set_option maxRecDepth 100000 in
theorem orb_tab : (List.range 64).all (fun m => (List.range 6).all fun t => decide (nI m ||| ((1 : Int32) <<< (nI t &&& 31)) = nI (m ||| 2 ^ t))) = true := by decide +kernel
theorem orb_nI {m t : Nat} (hm : m < 64) (ht : t < 6) : nI m ||| ((1 : Int32) <<< (nI t &&& 31)) = nI (m ||| 2 ^ t) := tab2 orb_tab hm ht
set_option maxRecDepth 100000 in
theorem clb_tab : (List.range 64).all (fun m => (List.range 6).all fun t => decide (nI m &&& (((1 : Int32) <<< (nI t &&& 31)) ^^^ (-1)) = nI (m &&& (63 ^^^ 2 ^ t)))) = true := by decide +kernel
theorem clb_nI {m t : Nat} (hm : m < 64) (ht : t < 6) : nI m &&& (((1 : Int32) <<< (nI t &&& 31)) ^^^ (-1)) = nI (m &&& (63 ^^^ 2 ^ t)) := tab2 clb_tab hm ht
set_option maxRecDepth 100000 in
theorem or_tab : (List.range 64).all (fun m => (List.range 64).all fun t => decide (nI m ||| nI t = nI (m ||| t))) = true := by decide +kernel
theorem or_nI {m t : Nat} (hm : m < 64) (ht : t < 64) : nI m ||| nI t = nI (m ||| t) := tab2 or_tab hm ht
set_option maxRecDepth 100000 in
theorem and_tab : (List.range 64).all (fun m => (List.range 64).all fun t => decide (nI m &&& nI t = nI (m &&& t))) = true := by decide +kernel
theorem and_nI {m t : Nat} (hm : m < 64) (ht : t < 64) : nI m &&& nI t = nI (m &&& t) := tab2 and_tab hm ht
theorem two_pow_lt {t : Nat} (ht : t < 6) : 2 ^ t < 64 := Nat.pow_lt_pow_right (by decide) ht
theorem bm_or (f g : Nat → Bool) : bm f ||| bm g = bm (fun t => f t || g t) := bm_ext (Nat.or_lt_two_pow (n := 6) (bm_lt f) (bm_lt g)) (bm_lt _) (fun t ht => by rw [Nat.testBit_or, bm_bit _ ht, bm_bit _ ht, bm_bit _ ht])
theorem bm_and (f g : Nat → Bool) : bm f &&& bm g = bm (fun t => f t && g t) := bm_ext (Nat.and_lt_two_pow (n := 6) _ (bm_lt g)) (bm_lt _) (fun t ht => by rw [Nat.testBit_and, bm_bit _ ht, bm_bit _ ht, bm_bit _ ht])
theorem bm_one {k : Nat} (hk : k < 6) : 2 ^ k = bm (fun t => t == k) := bm_ext (two_pow_lt hk) (bm_lt _) (fun t ht => by
  rw [Nat.testBit_two_pow, bm_bit _ ht]
  by_cases e : k = t
  · subst e; simp
  · have e2 : ¬ t = k := fun z => e z.symm
    simp [e, e2])
theorem bm_orb (f : Nat → Bool) {k : Nat} (hk : k < 6) : bm f ||| 2 ^ k = bm (fun t => f t || t == k) := by rw [bm_one hk, bm_or]
theorem bm_clb (f : Nat → Bool) {k : Nat} (hk : k < 6) : bm f &&& (63 ^^^ 2 ^ k) = bm (fun t => f t && !(t == k)) := bm_ext (Nat.and_lt_two_pow (n := 6) _ (Nat.xor_lt_two_pow (n := 6) (by decide) (two_pow_lt hk))) (bm_lt _) (fun t ht => by
  rw [Nat.testBit_and, Nat.testBit_xor, bm_bit _ ht, bm_bit _ ht, Nat.testBit_two_pow]
  have h63 : (63 : Nat).testBit t = true := by
    have := Nat.testBit_two_pow_sub_one 6 t
    simpa [ht] using this
  rw [h63]
  by_cases e : k = t
  · subst e; simp
  · have e2 : ¬ t = k := fun z => e z.symm
    simp [e, e2])
theorem bi_bm (f : Nat → Bool) {t : Nat} (ht : t < 6) : bi (nI (bm f)) t = f t := by rw [bi_nI (bm_lt f) ht, bm_bit _ ht]
theorem or_bm (f g : Nat → Bool) : nI (bm f) ||| nI (bm g) = nI (bm (fun t => f t || g t)) := by rw [or_nI (bm_lt f) (bm_lt g), bm_or]
theorem and_bm (f g : Nat → Bool) : nI (bm f) &&& nI (bm g) = nI (bm (fun t => f t && g t)) := by rw [and_nI (bm_lt f) (bm_lt g), bm_and]
theorem orb_bm (f : Nat → Bool) {t : Nat} (ht : t < 6) : nI (bm f) ||| ((1 : Int32) <<< (nI t &&& 31)) = nI (bm (fun k => f k || k == t)) := by rw [orb_nI (bm_lt f) ht, bm_orb f ht]
theorem clb_bm (f : Nat → Bool) {t : Nat} (ht : t < 6) : nI (bm f) &&& (((1 : Int32) <<< (nI t &&& 31)) ^^^ (-1)) = nI (bm (fun k => f k && !(k == t))) := by rw [clb_nI (bm_lt f) ht, bm_clb f ht]
theorem bm_zero : bm (fun _ => false) = 0 := rfl
theorem bm_eq0 {f : Nat → Bool} : bm f = 0 ↔ ∀ t, t < 6 → f t = false := by
  constructor
  · intro h t ht
    rw [← bm_bit f ht, h, Nat.zero_testBit]
  · intro h
    rw [← bm_zero]
    exact bm_congr h
theorem nI_bm0 {f : Nat → Bool} : nI (bm f) = 0 ↔ ∀ t, t < 6 → f t = false := by
  rw [← bm_eq0, ← nI_0]
  exact nI_eq (by have := bm_lt f; omega) (by decide)
/-- how many -/
def cnt (f : Nat → Bool) : Nat → Nat
  | 0 => 0
  | k + 1 => cnt f k + (bif f k then 1 else 0)
theorem cnt_le (f : Nat → Bool) : ∀ n, cnt f n ≤ n := by
  intro n
  induction n with
  | zero => exact Nat.le_refl 0
  | succ n ih => simp only [cnt]; cases f n <;> simp <;> omega
theorem cnt_congr {f g : Nat → Bool} : ∀ n, (∀ t, t < n → f t = g t) → cnt f n = cnt g n := by
  intro n
  induction n with
  | zero => intro _; rfl
  | succ n ih => intro h; simp only [cnt]; rw [ih (fun t ht => h t (by omega)), h n (by omega)]
