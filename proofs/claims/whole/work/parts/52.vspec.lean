/-! ===== what a saying is worth ===== -/
section VSP
variable (n : Nat) (g : Nat → Nat → Nat → Nat)
def sV (l : Nat) (v : Nat → Nat) (s : Nat) : Nat := bif (List.range 6).any (fun t => decide (2 ≤ g s l t) && decide (2 ≤ v t)) then 2 else bif (List.range 6).any (fun t => decide (1 ≤ g s l t) && decide (1 ≤ v t)) then 1 else 0
def eV (l : Nat) (v : Nat → Nat) (s : Nat) : Nat := bif (List.range 6).any (fun t => decide (1 ≤ g s l t) && !(decide (2 ≤ v t))) then (bif (List.range 6).any (fun t => decide (2 ≤ g s l t) && !(decide (1 ≤ v t))) then 0 else 1) else 2
def sk1 (z : Bool) (c h : Nat) (S : Nat → Nat → Nat) : Nat → Nat → Nat := fun b s =>
  if c ≤ 1 then (if b = h then 2 * c else S b s)
  else if c = 2 then (if b = h - 1 then 2 - S b s else S b s)
  else if c = 3 then (if b = h - 2 then min (S b s) (S (h - 1) s) else S b s)
  else if c = 4 then (if b = h - 2 then max (S b s) (S (h - 1) s) else S b s)
  else if c < 8 then (if b = h - 1 then (if s < n then sV g (c - 5) (S b) s else bif z then 0 else S b s) else S b s)
  else (if b = h - 1 then (if s < n then eV g (c - 8) (S b) s else bif z then 0 else S b s) else S b s)
def sk (z : Bool) (cs : Nat → Nat) : Nat → Nat → Nat → Nat
  | 0 => fun _ _ => 0
  | k + 1 => sk1 n g z (cs k) (hgt cs k) (sk z cs k)
end VSP
section VSQ
variable {n : Nat} {g : Nat → Nat → Nat → Nat}
theorem sV_le (l : Nat) (v : Nat → Nat) (s : Nat) : sV g l v s ≤ 2 := by
  unfold sV
  cases (List.range 6).any (fun t => decide (2 ≤ g s l t) && decide (2 ≤ v t)) <;> cases (List.range 6).any (fun t => decide (1 ≤ g s l t) && decide (1 ≤ v t)) <;> simp
theorem eV_le (l : Nat) (v : Nat → Nat) (s : Nat) : eV g l v s ≤ 2 := by
  unfold eV
  cases (List.range 6).any (fun t => decide (1 ≤ g s l t) && !(decide (2 ≤ v t))) <;> cases (List.range 6).any (fun t => decide (2 ≤ g s l t) && !(decide (1 ≤ v t))) <;> simp
theorem sk_le {z : Bool} {cs : Nat → Nat} : ∀ k b s, sk n g z cs k b s ≤ 2 := by
  intro k
  induction k with
  | zero => intro b s; exact Nat.zero_le _
  | succ k ih =>
    intro b s
    show sk1 n g z (cs k) (hgt cs k) (sk n g z cs k) b s ≤ 2
    unfold sk1
    have h1 := ih b s
    have h2 := ih (hgt cs k - 1) s
    have h3 := sV_le (g := g) (cs k - 5) (sk n g z cs k b) s
    have h4 := eV_le (g := g) (cs k - 8) (sk n g z cs k b) s
    have h5 : (bif z then 0 else sk n g z cs k b s) ≤ 2 := by cases z <;> simp <;> exact h1
    split
    · split <;> omega
    · split
      · split <;> omega
      · split
        · split <;> omega
        · split
          · split <;> omega
          · split
            · split
              · split <;> omega
              · omega
            · split
              · split <;> omega
              · omega
theorem sV_congr (hg : GW n g) {l : Nat} {v w : Nat → Nat} (h : ∀ t, t < n → v t = w t) (s : Nat) : sV g l v s = sV g l w s := by
  have key : ∀ (m : Nat) (p q : Nat → Bool), (∀ t, t < n → p t = q t) → 1 ≤ m → (List.range 6).any (fun t => decide (m ≤ g s l t) && p t) = (List.range 6).any (fun t => decide (m ≤ g s l t) && q t) := fun m p q hpq hm => any_congr (fun t _ => by
    by_cases e : m ≤ g s l t
    · rw [hpq t (((hg.2 s l t).2 (by omega)).2.2)]
    · simp [e])
  unfold sV
  rw [key 2 (fun t => decide (2 ≤ v t)) (fun t => decide (2 ≤ w t)) (fun t ht => by rw [h t ht]) (by omega), key 1 (fun t => decide (1 ≤ v t)) (fun t => decide (1 ≤ w t)) (fun t ht => by rw [h t ht]) (by omega)]
theorem eV_congr (hg : GW n g) {l : Nat} {v w : Nat → Nat} (h : ∀ t, t < n → v t = w t) (s : Nat) : eV g l v s = eV g l w s := by
  have key : ∀ (m : Nat) (p q : Nat → Bool), (∀ t, t < n → p t = q t) → 1 ≤ m → (List.range 6).any (fun t => decide (m ≤ g s l t) && p t) = (List.range 6).any (fun t => decide (m ≤ g s l t) && q t) := fun m p q hpq hm => any_congr (fun t _ => by
    by_cases e : m ≤ g s l t
    · rw [hpq t (((hg.2 s l t).2 (by omega)).2.2)]
    · simp [e])
  unfold eV
  rw [key 1 (fun t => !(decide (2 ≤ v t))) (fun t => !(decide (2 ≤ w t))) (fun t ht => by rw [h t ht]) (by omega), key 2 (fun t => !(decide (1 ≤ v t))) (fun t => !(decide (1 ≤ w t))) (fun t ht => by rw [h t ht]) (by omega)]
/-- both count alike where there are states -/
theorem sk_agree (hg : GW n g) {cs : Nat → Nat} : ∀ k b s, s < n → sk n g true cs k b s = sk n g false cs k b s := by
  intro k
  induction k with
  | zero => intros; rfl
  | succ k ih =>
    intro b s hs
    show sk1 n g true (cs k) (hgt cs k) (sk n g true cs k) b s = sk1 n g false (cs k) (hgt cs k) (sk n g false cs k) b s
    unfold sk1
    rw [ih b s hs, ih (hgt cs k - 1) s hs, if_pos hs, if_pos hs, if_pos hs, if_pos hs, sV_congr hg (ih b) s, eV_congr hg (ih b) s]
theorem hgt_le {w : Nat × Nat × (Nat → Nat)} (hw : WS w) : ∀ k, k ≤ w.1 → hgt w.2.2 k ≤ 24 := by
  intro k
  induction k with
  | zero => intro _; exact Nat.zero_le _
  | succ k ih =>
    intro hk
    have h1 := ih (by omega)
    obtain ⟨-, -, h2, -⟩ := hw
    obtain ⟨a, b, c, e⟩ := h2 k (by omega)
    show (if w.2.2 k ≤ 1 then hgt w.2.2 k + 1 else if w.2.2 k = 3 ∨ w.2.2 k = 4 then hgt w.2.2 k - 1 else hgt w.2.2 k) ≤ 24
    split
    · rename_i h
      have := e h
      omega
    · split <;> omega
end VSQ
/-! ===== values as numbers of twelve bits ===== -/
def e12 (v : Nat → Nat) : Nat := bmn (fun s => if s < 6 then decide (1 ≤ v s) else decide (2 ≤ v (s - 6))) 12
theorem bmn_split (f : Nat → Bool) : ∀ m, bmn f (6 + m) = bmn f 6 + 64 * bmn (fun s => f (6 + s)) m := by
  intro m
  induction m with
  | zero => rfl
  | succ m ih =>
    show bmn f (6 + m) + (bif f (6 + m) then 2 ^ (6 + m) else 0) = bmn f 6 + 64 * (bmn (fun s => f (6 + s)) m + (bif f (6 + m) then 2 ^ m else 0))
    rw [ih, Nat.pow_add]
    cases f (6 + m)
    · simp
    · simp only [cond_true]
      omega
theorem bmn_ext {n a b : Nat} (ha : a < 2 ^ n) (hb : b < 2 ^ n) (h : ∀ t, t < n → a.testBit t = b.testBit t) : a = b := by
  apply Nat.eq_of_testBit_eq
  intro t
  by_cases ht : t < n
  · exact h t ht
  · have h0 : 2 ^ n ≤ 2 ^ t := Nat.pow_le_pow_right (by decide) (by omega)
    rw [Nat.testBit_lt_two_pow (Nat.lt_of_lt_of_le ha h0), Nat.testBit_lt_two_pow (Nat.lt_of_lt_of_le hb h0)]
theorem bmn_and (f g : Nat → Bool) (n : Nat) : bmn f n &&& bmn g n = bmn (fun t => f t && g t) n := bmn_ext (Nat.and_lt_two_pow _ (bmn_lt g n)) (bmn_lt _ n) (fun t ht => by rw [Nat.testBit_and, bmn_bit, bmn_bit, bmn_bit]; simp [ht])
theorem bmn_or (f g : Nat → Bool) (n : Nat) : bmn f n ||| bmn g n = bmn (fun t => f t || g t) n := bmn_ext (Nat.or_lt_two_pow (bmn_lt f n) (bmn_lt g n)) (bmn_lt _ n) (fun t ht => by rw [Nat.testBit_or, bmn_bit, bmn_bit, bmn_bit]; simp [ht])
theorem bmn_congr {f g : Nat → Bool} {n : Nat} (h : ∀ t, t < n → f t = g t) : bmn f n = bmn g n := bmn_ext (bmn_lt f n) (bmn_lt g n) (fun t ht => by rw [bmn_bit, bmn_bit, h t ht])
theorem e12_eq (v : Nat → Nat) : e12 v = bm (fun s => decide (1 ≤ v s)) + 64 * bm (fun s => decide (2 ≤ v s)) := by
  unfold e12
  rw [show (12 : Nat) = 6 + 6 from rfl, bmn_split]
  rw [bmn_congr (n := 6) (f := fun s => if s < 6 then decide (1 ≤ v s) else decide (2 ≤ v (s - 6))) (g := fun s => decide (1 ≤ v s)) (fun t ht => if_pos ht)]
  rw [bmn_congr (n := 6) (f := fun s => if 6 + s < 6 then decide (1 ≤ v (6 + s)) else decide (2 ≤ v (6 + s - 6))) (g := fun s => decide (2 ≤ v s)) (fun t ht => by rw [if_neg (by omega), show 6 + t - 6 = t by omega])]
theorem nI_and (x y : Nat) : nI x &&& nI y = nI (x &&& y) := by
  apply Int32.toBitVec_inj.mp
  rw [Int32.toBitVec_and]
  show BitVec.ofNat 32 x &&& BitVec.ofNat 32 y = BitVec.ofNat 32 (x &&& y)
  rw [BitVec.ofNat_and]
theorem nI_or (x y : Nat) : nI x ||| nI y = nI (x ||| y) := by
  apply Int32.toBitVec_inj.mp
  rw [Int32.toBitVec_or]
  show BitVec.ofNat 32 x ||| BitVec.ofNat 32 y = BitVec.ofNat 32 (x ||| y)
  rw [BitVec.ofNat_or]
theorem e12_and (v w : Nat → Nat) : nI (e12 v) &&& nI (e12 w) = nI (e12 (fun s => min (v s) (w s))) := by
  rw [nI_and]
  unfold e12
  rw [bmn_and]
  refine congrArg nI (bmn_congr fun t _ => ?_)
  split
  · rw [← Bool.decide_and]
    exact decide_eq_decide.mpr (by dsimp only; omega)
  · rw [← Bool.decide_and]
    exact decide_eq_decide.mpr (by dsimp only; omega)
theorem e12_or (v w : Nat → Nat) : nI (e12 v) ||| nI (e12 w) = nI (e12 (fun s => max (v s) (w s))) := by
  rw [nI_or]
  unfold e12
  rw [bmn_or]
  refine congrArg nI (bmn_congr fun t _ => ?_)
  split
  · rw [← Bool.decide_or]
    exact decide_eq_decide.mpr (by dsimp only; omega)
  · rw [← Bool.decide_or]
    exact decide_eq_decide.mpr (by dsimp only; omega)
set_option maxRecDepth 100000 in
theorem vf_tab : (List.range 64).all (fun a => (List.range 64).all fun b => decide ((nI a &&& 63) ||| ((nI b &&& 63) <<< ((6 : Int32) &&& 31)) = nI (a + 64 * b))) = true := by decide +kernel
set_option maxRecDepth 100000 in
theorem vn_tab : (List.range 64).all (fun a => (List.range 64).all fun b => decide (((nI a ^^^ (-1)) &&& 63) ||| (((nI b ^^^ (-1)) &&& 63) <<< ((6 : Int32) &&& 31)) = nI ((63 ^^^ a) + 64 * (63 ^^^ b)))) = true := by decide +kernel
set_option maxRecDepth 100000 in
theorem so_tab : (List.range 64).all (fun a => (List.range 64).all fun b => decide (nI (a + 64 * b) &&& 63 = nI a ∧ (nI (a + 64 * b) >>> ((6 : Int32) &&& 31)) &&& 63 = nI b)) = true := by decide +kernel
set_option maxRecDepth 100000 in
theorem an_tab : (List.range 64).all (fun a => (List.range 64).all fun b => decide (nI a &&& (nI b ^^^ (-1)) = nI (a &&& (63 ^^^ b)))) = true := by decide +kernel
theorem bm_not (f : Nat → Bool) : 63 ^^^ bm f = bm (fun t => !(f t)) := bm_ext (Nat.xor_lt_two_pow (n := 6) (by decide) (bm_lt f)) (bm_lt _) (fun t ht => by
  have h63 : (63 : Nat).testBit t = true := by
    have := Nat.testBit_two_pow_sub_one 6 t
    simpa [ht] using this
  rw [Nat.testBit_xor, bm_bit _ ht, bm_bit _ ht, h63]
  simp)
theorem andn_bm (f g : Nat → Bool) : nI (bm f) &&& (nI (bm g) ^^^ (-1)) = nI (bm (fun t => f t && !(g t))) := by
  rw [tab2 an_tab (bm_lt f) (bm_lt g), bm_not, bm_and]
