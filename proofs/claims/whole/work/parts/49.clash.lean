/-! ===== the model: what clashes ===== -/
def WJ (A : Nat → Nat → Int32) (n1 n2 : Nat) (r : Nat → Nat → Bool) : Prop := ∀ a b, a < n1 → b < n2 → A 70 (6 * a + b) = z01 (!(r a b))
section CLM
variable {Y : Nat × (Nat → Int32)} {F A : Nat → Nat → Int32} {i j n1 n2 : Nat} {g1 g2 : Nat → Nat → Nat → Nat} {r : Nat → Nat → Bool} (d : Nat)
def cM1 (n1 n2 : Nat) (g1 g2 : Nat → Nat → Nat → Nat) (r : Nat → Nat → Bool) (s t l : Nat) : Bool := (List.range n1).any fun a => decide (2 ≤ g1 s l a) && !((List.range n2).any fun b => decide (1 ≤ g2 t l b) && r a b)
def cM2 (n1 n2 : Nat) (g1 g2 : Nat → Nat → Nat → Nat) (r : Nat → Nat → Bool) (s t l : Nat) : Bool := (List.range n2).any fun b => decide (2 ≤ g2 t l b) && !((List.range n1).any fun a => decide (1 ≤ g1 s l a) && r a b)
theorem clx_M (h1 : GW n1 g1) (h2 : GW n2 g2) (s t l : Nat) : clx g1 g2 r s t l = (cM1 n1 n2 g1 g2 r s t l || cM2 n1 n2 g1 g2 r s t l) := by
  unfold clx cM1 cM2
  congr 1
  · rw [lack_any, any_shrink h1.1.2 (fun k _ hk => by
      simp only [Bool.and_eq_true, decide_eq_true_eq] at hk
      exact ((h1.2 s l k).2 (by omega)).2.2)]
    refine any_congr fun a ha => ?_
    congr 2
    exact any_shrink h2.1.2 (fun k _ hk => by
      simp only [Bool.and_eq_true, decide_eq_true_eq] at hk
      exact ((h2.2 t l k).2 (by omega)).2.2)
  · rw [lack_any, any_shrink h2.1.2 (fun k _ hk => by
      simp only [Bool.and_eq_true, decide_eq_true_eq] at hk
      exact ((h2.2 t l k).2 (by omega)).2.2)]
    refine any_congr fun b hb => ?_
    congr 2
    exact any_shrink h1.1.2 (fun k _ hk => by
      simp only [Bool.and_eq_true, decide_eq_true_eq] at hk
      exact ((h1.2 s l k).2 (by omega)).2.2)
set_option maxRecDepth 20000 in
theorem c_Mo_isClash (hi : i < 8) (hj : j < 8) (hm1 : MP A i n1 g1) (hm2 : MP A j n2 g2) (hw1 : GW n1 g1) (hw2 : GW n2 g2) (hr : WJ A n1 n2 r) {s t : Nat} (hs : s < 6) (ht : t < 6) : xa_rn xa_ms (d + 3) n_Mo_isClash [.ref 62, .int (nI i), .int (nI s), .int (nI j), .int (nI t), .int 0] (hp Y F A) (some (.int (z01 (clh g1 g2 r s t)))) (hp Y F A) := by
  have hn1 := hw1.1.2
  have hn2 := hw2.1.2
  -- the first loops
  have in1 : ∀ l, l < 3 → ∀ a, a < n1 → ∀ (acc : Bool) x, (∀ v9 v10 : Value, ev (d + 2) t_Mo_isClash 15 [.ref 62, .int (nI i), .int (nI s), .int (nI j), .int (nI t), .int 0, .int (z01 (acc || (decide (2 ≤ g1 s l a) && !((List.range n2).any fun b => decide (1 ≤ g2 t l b) && r a b)))), .int (nI l), .int (nI a + 1), v9, v10] [] (hp Y F A) x) → ∀ v9 v10 : Value, ev (d + 2) t_Mo_isClash 15 [.ref 62, .int (nI i), .int (nI s), .int (nI j), .int (nI t), .int 0, .int (z01 acc), .int (nI l), .int (nI a), v9, v10] [] (hp Y F A) x := by
    intro l hl a ha acc x hx v9 v10
    have hle := (hw1.2 s l a).1
    have inner : ∀ m0 : Bool, m0 = decide (g1 s l a < 2) → ev (d + 2) t_Mo_isClash 50 [.ref 62, .int (nI i), .int (nI s), .int (nI j), .int (nI t), .int 0, .int (z01 acc), .int (nI l), .int (nI a), .int (z01 m0), .int 0] [] (hp Y F A) x := by
      intro m0 hm0
      have h1 := lp_to (E := fun b x => ev (d + 2) t_Mo_isClash 50 [.ref 62, .int (nI i), .int (nI s), .int (nI j), .int (nI t), .int 0, .int (z01 acc), .int (nI l), .int (nI a), .int (z01 (m0 || (List.range b).any fun b => decide (1 ≤ g2 t l b) && r a b)), .int (nI b)] [] (hp Y F A) x) n2 (fun b hb x hx => by
        rw [nI_succ, anyB, ← Bool.or_assoc, ← z01_or] at hx
        have hle2 := (hw2.2 t l b).1
        repeat (first | refine ev_np [] rfl rfl rfl ?_ | refine ev_grs [] rfl rfl (by rfl) (by rfl) ?_)
        refine ev_an rfl (by rfl) rfl hj rfl ?_
        rw [hm2.1]
        repeat (refine ev_np [] rfl rfl rfl ?_)
        refine ev_ie (nI_ge hb (by omega)) ?_
        repeat (refine ev_np [] rfl rfl rfl ?_)
        refine ev_vc rfl (by rfl) (by rfl) rfl (c_Mo_of d hj hm2 ht hl (by omega)) ?_
        repeat (refine ev_np [] rfl rfl rfl ?_)
        by_cases e : 1 ≤ g2 t l b
        · rw [decide_eq_true e, Bool.true_and] at hx
          refine ev_ie (nI_nle (by omega) (by omega)) ?_
          repeat (first | refine ev_np [] rfl rfl rfl ?_ | refine ev_grs [] rfl rfl (by rfl) (by rfl) ?_)
          refine ev_an rfl (by rfl) (ix6 a b) (by omega) rfl ?_
          rw [hr a b ha hb]
          cases hrk : r a b with
          | true =>
            rw [hrk] at hx
            repeat (refine ev_np [50] rfl rfl rfl ?_)
            exact hx
          | false =>
            rw [hrk] at hx
            repeat (refine ev_np [50] rfl rfl rfl ?_)
            exact hx
        · rw [decide_eq_false e, Bool.false_and] at hx
          refine ev_it (by rw [show g2 t l b = 0 by omega]; exact Int32.le_refl _) ?_
          repeat (refine ev_np [50] rfl rfl rfl ?_)
          exact hx) x (by
        repeat (first | refine ev_np [] rfl rfl rfl ?_ | refine ev_grs [] rfl rfl (by rfl) (by rfl) ?_)
        refine ev_an rfl (by rfl) rfl hj rfl ?_
        rw [hm2.1]
        repeat (refine ev_np [] rfl rfl rfl ?_)
        refine ev_it (nI_le (Nat.le_refl _) (by omega)) ?_
        rw [← z01_or] at hx
        rw [hm0]
        have e3 : (!(decide (g1 s l a < 2) || (List.range n2).any fun b => decide (1 ≤ g2 t l b) && r a b)) = (decide (2 ≤ g1 s l a) && !((List.range n2).any fun b => decide (1 ≤ g2 t l b) && r a b)) := by
          rw [Bool.not_or]
          congr 1
          by_cases h : 2 ≤ g1 s l a
          · simp [h]
          · simp [h]; omega
        rw [← e3] at hx
        cases h9 : (decide (g1 s l a < 2) || (List.range n2).any fun b => decide (1 ≤ g2 t l b) && r a b) with
        | true =>
          rw [h9] at hx
          repeat (refine ev_np [15] rfl rfl rfl ?_)
          exact hx _ _
        | false =>
          rw [h9] at hx
          repeat (refine ev_np [15] rfl rfl rfl ?_)
          exact hx _ _)
      simp only [List.range_zero, List.any_nil, Bool.or_false] at h1
      exact h1
    repeat (first | refine ev_np [] rfl rfl rfl ?_ | refine ev_grs [] rfl rfl (by rfl) (by rfl) ?_)
    refine ev_an rfl (by rfl) rfl hi rfl ?_
    rw [hm1.1]
    repeat (refine ev_np [] rfl rfl rfl ?_)
    refine ev_ie (nI_ge ha (by omega)) ?_
    repeat (refine ev_np [] rfl rfl rfl ?_)
    refine ev_vc rfl (by rfl) (by rfl) rfl (c_Mo_of d hi hm1 hs hl (by omega)) ?_
    repeat (refine ev_np [] rfl rfl rfl ?_)
    by_cases e : g1 s l a < 2
    · refine ev_ie (nI_ge (b := 2) e (by omega)) ?_
      repeat (refine ev_np [50] rfl rfl rfl ?_)
      exact inner true (by simp [e])
    · refine ev_it (nI_le (a := 2) (by omega) (by omega)) ?_
      repeat (refine ev_np [50] rfl rfl rfl ?_)
      exact inner false (by simp [e])
  -- the second loops
  have in2 : ∀ l, l < 3 → ∀ b, b < n2 → ∀ (acc : Bool) x, (∀ v9 v10 : Value, ev (d + 2) t_Mo_isClash 133 [.ref 62, .int (nI i), .int (nI s), .int (nI j), .int (nI t), .int 0, .int (z01 (acc || (decide (2 ≤ g2 t l b) && !((List.range n1).any fun a => decide (1 ≤ g1 s l a) && r a b)))), .int (nI l), .int (nI b + 1), v9, v10] [] (hp Y F A) x) → ∀ v9 v10 : Value, ev (d + 2) t_Mo_isClash 133 [.ref 62, .int (nI i), .int (nI s), .int (nI j), .int (nI t), .int 0, .int (z01 acc), .int (nI l), .int (nI b), v9, v10] [] (hp Y F A) x := by
    intro l hl b hb acc x hx v9 v10
    have hle := (hw2.2 t l b).1
    have inner : ∀ m0 : Bool, m0 = decide (g2 t l b < 2) → ev (d + 2) t_Mo_isClash 169 [.ref 62, .int (nI i), .int (nI s), .int (nI j), .int (nI t), .int 0, .int (z01 acc), .int (nI l), .int (nI b), .int (z01 m0), .int 0] [] (hp Y F A) x := by
      intro m0 hm0
      have h1 := lp_to (E := fun a x => ev (d + 2) t_Mo_isClash 169 [.ref 62, .int (nI i), .int (nI s), .int (nI j), .int (nI t), .int 0, .int (z01 acc), .int (nI l), .int (nI b), .int (z01 (m0 || (List.range a).any fun a => decide (1 ≤ g1 s l a) && r a b)), .int (nI a)] [] (hp Y F A) x) n1 (fun a ha x hx => by
        rw [nI_succ, anyB, ← Bool.or_assoc, ← z01_or] at hx
        have hle2 := (hw1.2 s l a).1
        repeat (first | refine ev_np [] rfl rfl rfl ?_ | refine ev_grs [] rfl rfl (by rfl) (by rfl) ?_)
        refine ev_an rfl (by rfl) rfl hi rfl ?_
        rw [hm1.1]
        repeat (refine ev_np [] rfl rfl rfl ?_)
        refine ev_ie (nI_ge ha (by omega)) ?_
        repeat (refine ev_np [] rfl rfl rfl ?_)
        refine ev_vc rfl (by rfl) (by rfl) rfl (c_Mo_of d hi hm1 hs hl (by omega)) ?_
        repeat (refine ev_np [] rfl rfl rfl ?_)
        by_cases e : 1 ≤ g1 s l a
        · rw [decide_eq_true e, Bool.true_and] at hx
          refine ev_ie (nI_nle (by omega) (by omega)) ?_
          repeat (first | refine ev_np [] rfl rfl rfl ?_ | refine ev_grs [] rfl rfl (by rfl) (by rfl) ?_)
          refine ev_an rfl (by rfl) (ix6 a b) (by omega) rfl ?_
          rw [hr a b ha hb]
          cases hrk : r a b with
          | true =>
            rw [hrk] at hx
            repeat (refine ev_np [169] rfl rfl rfl ?_)
            exact hx
          | false =>
            rw [hrk] at hx
            repeat (refine ev_np [169] rfl rfl rfl ?_)
            exact hx
        · rw [decide_eq_false e, Bool.false_and] at hx
          refine ev_it (by rw [show g1 s l a = 0 by omega]; exact Int32.le_refl _) ?_
          repeat (refine ev_np [169] rfl rfl rfl ?_)
          exact hx) x (by
        repeat (first | refine ev_np [] rfl rfl rfl ?_ | refine ev_grs [] rfl rfl (by rfl) (by rfl) ?_)
        refine ev_an rfl (by rfl) rfl hi rfl ?_
        rw [hm1.1]
        repeat (refine ev_np [] rfl rfl rfl ?_)
        refine ev_it (nI_le (Nat.le_refl _) (by omega)) ?_
        rw [← z01_or] at hx
        rw [hm0]
        have e3 : (!(decide (g2 t l b < 2) || (List.range n1).any fun a => decide (1 ≤ g1 s l a) && r a b)) = (decide (2 ≤ g2 t l b) && !((List.range n1).any fun a => decide (1 ≤ g1 s l a) && r a b)) := by
          rw [Bool.not_or]
          congr 1
          by_cases h : 2 ≤ g2 t l b
          · simp [h]
          · simp [h]; omega
        rw [← e3] at hx
        cases h9 : (decide (g2 t l b < 2) || (List.range n1).any fun a => decide (1 ≤ g1 s l a) && r a b) with
        | true =>
          rw [h9] at hx
          repeat (refine ev_np [133] rfl rfl rfl ?_)
          exact hx _ _
        | false =>
          rw [h9] at hx
          repeat (refine ev_np [133] rfl rfl rfl ?_)
          exact hx _ _)
      simp only [List.range_zero, List.any_nil, Bool.or_false] at h1
      exact h1
    repeat (first | refine ev_np [] rfl rfl rfl ?_ | refine ev_grs [] rfl rfl (by rfl) (by rfl) ?_)
    refine ev_an rfl (by rfl) rfl hj rfl ?_
    rw [hm2.1]
    repeat (refine ev_np [] rfl rfl rfl ?_)
    refine ev_ie (nI_ge hb (by omega)) ?_
    repeat (refine ev_np [] rfl rfl rfl ?_)
    refine ev_vc rfl (by rfl) (by rfl) rfl (c_Mo_of d hj hm2 ht hl (by omega)) ?_
    repeat (refine ev_np [] rfl rfl rfl ?_)
    by_cases e : g2 t l b < 2
    · refine ev_ie (nI_ge (b := 2) e (by omega)) ?_
      repeat (refine ev_np [169] rfl rfl rfl ?_)
      exact inner true (by simp [e])
    · refine ev_it (nI_le (a := 2) (by omega) (by omega)) ?_
      repeat (refine ev_np [169] rfl rfl rfl ?_)
      exact inner false (by simp [e])
  refine rn_in m_Mo_isClash rfl ⟨rfl, rfl⟩ ?_
  show ev _ t_Mo_isClash 0 [.ref 62, .int (nI i), .int (nI s), .int (nI j), .int (nI t), .int 0, .float 0, .float 0, .float 0, .float 0, .float 0] [] _ _
  repeat (refine ev_np [6] rfl rfl rfl ?_)
  have key := lp_to (E := fun l x => ∀ v8 v9 v10 : Value, ev (d + 2) t_Mo_isClash 6 [.ref 62, .int (nI i), .int (nI s), .int (nI j), .int (nI t), .int 0, .int (z01 ((List.range l).any (clx g1 g2 r s t))), .int (nI l), v8, v9, v10] [] (hp Y F A) x) 3 (fun l hl x hx => by
    intro v8 v9 v10
    rw [nI_succ, anyB, clx_M hw1 hw2, ← Bool.or_assoc] at hx
    obtain ⟨acc, hacc⟩ : ∃ acc, acc = (List.range l).any (clx g1 g2 r s t) := ⟨_, rfl⟩
    rw [← hacc] at hx ⊢
    repeat (refine ev_np [] rfl rfl rfl ?_)
    refine ev_ie (nI_ge (b := 3) hl (by omega)) ?_
    repeat (refine ev_np [15] rfl rfl rfl ?_)
    have h1 := lp_to (E := fun a x => ∀ v9 v10 : Value, ev (d + 2) t_Mo_isClash 15 [.ref 62, .int (nI i), .int (nI s), .int (nI j), .int (nI t), .int 0, .int (z01 (acc || (List.range a).any fun a => decide (2 ≤ g1 s l a) && !((List.range n2).any fun b => decide (1 ≤ g2 t l b) && r a b))), .int (nI l), .int (nI a), v9, v10] [] (hp Y F A) x) n1 (fun a ha x hx => by
      rw [nI_succ, anyB, ← Bool.or_assoc] at hx
      exact in1 l hl a ha _ x hx) x (by
      intro v9 v10
      repeat (first | refine ev_np [] rfl rfl rfl ?_ | refine ev_grs [] rfl rfl (by rfl) (by rfl) ?_)
      refine ev_an rfl (by rfl) rfl hi rfl ?_
      rw [hm1.1]
      repeat (refine ev_np [] rfl rfl rfl ?_)
      refine ev_it (nI_le (Nat.le_refl _) (by omega)) ?_
      repeat (refine ev_np [133] rfl rfl rfl ?_)
      have h2 := lp_to (E := fun b x => ∀ v9 v10 : Value, ev (d + 2) t_Mo_isClash 133 [.ref 62, .int (nI i), .int (nI s), .int (nI j), .int (nI t), .int 0, .int (z01 ((acc || cM1 n1 n2 g1 g2 r s t l) || (List.range b).any fun b => decide (2 ≤ g2 t l b) && !((List.range n1).any fun a => decide (1 ≤ g1 s l a) && r a b))), .int (nI l), .int (nI b), v9, v10] [] (hp Y F A) x) n2 (fun b hb x hx => by
        rw [nI_succ, anyB, ← Bool.or_assoc] at hx
        exact in2 l hl b hb _ x hx) x (by
        intro v9 v10
        repeat (first | refine ev_np [] rfl rfl rfl ?_ | refine ev_grs [] rfl rfl (by rfl) (by rfl) ?_)
        refine ev_an rfl (by rfl) rfl hj rfl ?_
        rw [hm2.1]
        repeat (refine ev_np [] rfl rfl rfl ?_)
        refine ev_it (nI_le (Nat.le_refl _) (by omega)) ?_
        repeat (refine ev_np [6] rfl rfl rfl ?_)
        exact hx _ _ _)
      simp only [List.range_zero, List.any_nil, Bool.or_false] at h2
      exact h2 _ _)
    simp only [List.range_zero, List.any_nil, Bool.or_false] at h1
    exact h1 _ _) (some (.int (z01 (clh g1 g2 r s t))), hp Y F A) (by
    intro v8 v9 v10
    repeat (refine ev_np [] rfl rfl rfl ?_)
    exact ev_rz rfl rfl (z01_b _))
  exact key _ _ _
theorem WJ.drop (h : WJ A n1 n2 r) {s t : Nat} (ht : t < n2) (hn2 : n2 ≤ 6) : WJ (va_up A 70 (upd (A 70) (6 * s + t) 1)) n1 n2 (fun a b => r a b && !(a == s && b == t)) := by
  intro a b ha hb
  rw [va_up_s]
  by_cases e : a = s ∧ b = t
  · obtain ⟨rfl, rfl⟩ := e
    rw [pk_us]
    simp [z01]
  · rw [pk_un (by omega), h a b ha hb]
    have : (a == s && b == t) = false := by
      cases h : (a == s && b == t) with
      | false => rfl
      | true =>
        simp only [Bool.and_eq_true, beq_iff_eq] at h
        exact absurd h e
    dsimp only
    rw [this]
    simp
/-- one pass -/
theorem c_Mo_pass (hi : i < 8) (hj : j < 8) (hm1 : MP A i n1 g1) (hm2 : MP A j n2 g2) (hw1 : GW n1 g1) (hw2 : GW n2 g2) (hin : ∀ a b, r a b = true → a < n1 ∧ b < n2) (hr : WJ A n1 n2 r) : ∃ A', sA [70] A A' ∧ WJ A' n1 n2 (dfo g1 g2 36 r) ∧ ∀ x, (∀ v4 v5 : Value, ev (d + 4) t_Mo_clash 115 [.ref 62, .int (nI i), .int (nI j), .int (z01 (mor g1 g2 36 r)), v4, v5] [] (hp Y F A') x) → ∀ v5 : Value, ev (d + 4) t_Mo_clash 32 [.ref 62, .int (nI i), .int (nI j), .int 0, .int 0, v5] [] (hp Y F A) x := by
  have hn1 := hw1.1.2
  have hn2 := hw2.1.2
  obtain ⟨A1, ⟨i1, i2⟩, h3⟩ := lp_ex (α := Nat → Nat → Int32) (fun s B => sA [70] A B ∧ WJ B n1 n2 (dfo g1 g2 (6 * s) r)) (fun s B x => ∀ v5 : Value, ev (d + 4) t_Mo_clash 32 [.ref 62, .int (nI i), .int (nI j), .int (z01 (mor g1 g2 (6 * s) r)), .int (nI s), v5] [] (hp Y F B) x) n1 (fun s B hs hI => by
    obtain ⟨i1, i2⟩ := hI
    obtain ⟨B1, ⟨j1, j2⟩, h3⟩ := lp_ex (α := Nat → Nat → Int32) (fun t C => sA [70] A C ∧ WJ C n1 n2 (dfo g1 g2 (6 * s + t) r)) (fun t C x => ev (d + 4) t_Mo_clash 46 [.ref 62, .int (nI i), .int (nI j), .int (z01 (mor g1 g2 (6 * s + t) r)), .int (nI s), .int (nI t)] [] (hp Y F C) x) n2 (fun t C ht hI => by
      obtain ⟨j1, j2⟩ := hI
      have mp1 : MP C i n1 g1 := hm1.frame (j1 _ (by decide)) (j1 _ (by decide))
      have mp2 : MP C j n2 g2 := hm2.frame (j1 _ (by decide)) (j1 _ (by decide))
      have e6 : (6 * s + t) / 6 = s := by omega
      have e7 : (6 * s + t) % 6 = t := by omega
      have eD : dfo g1 g2 (6 * s + (t + 1)) r = dst g1 g2 (6 * s + t) (dfo g1 g2 (6 * s + t) r) := rfl
      have eM : mor g1 g2 (6 * s + (t + 1)) r = (mor g1 g2 (6 * s + t) r || dgo g1 g2 (dfo g1 g2 (6 * s + t) r) (6 * s + t)) := by
        show mor g1 g2 (6 * s + t + 1) r = _
        unfold mor
        rw [anyB]
      have head : ∀ x, ev (d + 4) t_Mo_clash 70 [.ref 62, .int (nI i), .int (nI j), .int (z01 (mor g1 g2 (6 * s + t) r)), .int (nI s), .int (nI t)] [.int (z01 (!(dfo g1 g2 (6 * s + t) r s t)))] (hp Y F C) x → ev (d + 4) t_Mo_clash 46 [.ref 62, .int (nI i), .int (nI j), .int (z01 (mor g1 g2 (6 * s + t) r)), .int (nI s), .int (nI t)] [] (hp Y F C) x := by
        intro x hx
        repeat (first | refine ev_np [] rfl rfl rfl ?_ | refine ev_grs [] rfl rfl (by rfl) (by rfl) ?_)
        refine ev_an rfl (by rfl) rfl hj rfl ?_
        rw [mp2.1]
        repeat (refine ev_np [] rfl rfl rfl ?_)
        refine ev_ie (nI_ge ht (by omega)) ?_
        repeat (first | refine ev_np [] rfl rfl rfl ?_ | refine ev_grs [] rfl rfl (by rfl) (by rfl) ?_)
        refine ev_an rfl (by rfl) (ix6 s t) (by omega) rfl ?_
        rw [j2 s t hs ht]
        exact hx
      cases h1 : dfo g1 g2 (6 * s + t) r s t with
      | false =>
        have hd : dgo g1 g2 (dfo g1 g2 (6 * s + t) r) (6 * s + t) = false := by unfold dgo; rw [e6, e7, h1]; rfl
        rw [eD, eM, hd]
        refine ⟨C, ⟨j1, ?_⟩, fun x hx => head x ?_⟩
        · unfold dst
          rw [hd]
          exact j2
        · rw [h1]
          rw [nI_succ, Bool.or_false] at hx
          repeat (refine ev_np [46] rfl rfl rfl ?_)
          exact hx
      | true =>
        cases h2 : clh g1 g2 (dfo g1 g2 (6 * s + t) r) s t with
        | false =>
          have hd : dgo g1 g2 (dfo g1 g2 (6 * s + t) r) (6 * s + t) = false := by unfold dgo; rw [e6, e7, h2, Bool.and_false]
          rw [eD, eM, hd]
          refine ⟨C, ⟨j1, ?_⟩, fun x hx => head x ?_⟩
          · unfold dst
            rw [hd]
            exact j2
          · rw [h1]
            rw [nI_succ, Bool.or_false] at hx
            repeat (refine ev_np [] rfl rfl rfl ?_)
            refine ev_vc rfl (by rfl) (by rfl) rfl (c_Mo_isClash (d + 1) hi hj mp1 mp2 hw1 hw2 j2 (by omega) (by omega)) ?_
            rw [h2]
            repeat (refine ev_np [46] rfl rfl rfl ?_)
            exact hx
        | true =>
          have hd : dgo g1 g2 (dfo g1 g2 (6 * s + t) r) (6 * s + t) = true := by unfold dgo; rw [e6, e7, h1, h2]; rfl
          rw [eD, eM, hd]
          refine ⟨va_up C 70 (upd (C 70) (6 * s + t) 1), ⟨j1.tr (sA.up (by decide)), ?_⟩, fun x hx => head x ?_⟩
          · unfold dst
            rw [hd, e6, e7]
            exact j2.drop ht hn2
          · rw [h1]
            rw [nI_succ, Bool.or_true] at hx
            repeat (refine ev_np [] rfl rfl rfl ?_)
            refine ev_vc rfl (by rfl) (by rfl) rfl (c_Mo_isClash (d + 1) hi hj mp1 mp2 hw1 hw2 j2 (by omega) (by omega)) ?_
            rw [h2]
            repeat (first | refine ev_np [] rfl rfl rfl ?_ | refine ev_grs [] rfl rfl (by rfl) (by rfl) ?_)
            refine ev_am rfl (by rfl) (ix6 s t) (by omega) rfl ?_
            repeat (refine ev_np [46] rfl rfl rfl ?_)
            exact hx) n2 0 B (Nat.zero_add n2) ⟨i1, i2⟩
    have sk := dfo_skip (g1 := g1) (g2 := g2) (r := r) (K := 6 * s + n2) (6 - n2) (fun k h1 h2 => by
      cases e : r (k / 6) (k % 6) with
      | false => rfl
      | true => have := hin _ _ e; omega)
    rw [show 6 * s + n2 + (6 - n2) = 6 * (s + 1) by omega] at sk
    refine ⟨B1, ⟨j1, by rw [sk.1]; exact j2⟩, fun x hx v5 => ?_⟩
    repeat (first | refine ev_np [] rfl rfl rfl ?_ | refine ev_grs [] rfl rfl (by rfl) (by rfl) ?_)
    refine ev_an rfl (by rfl) rfl hi rfl ?_
    rw [i1 64 (by decide), hm1.1]
    repeat (refine ev_np [] rfl rfl rfl ?_)
    refine ev_ie (nI_ge hs (by omega)) ?_
    repeat (refine ev_np [46] rfl rfl rfl ?_)
    refine h3 x ?_
    rw [nI_succ, sk.2] at hx
    repeat (first | refine ev_np [] rfl rfl rfl ?_ | refine ev_grs [] rfl rfl (by rfl) (by rfl) ?_)
    refine ev_an rfl (by rfl) rfl hj rfl ?_
    rw [j1 64 (by decide), hm2.1]
    repeat (refine ev_np [] rfl rfl rfl ?_)
    refine ev_it (nI_le (Nat.le_refl _) (by omega)) ?_
    repeat (refine ev_np [32] rfl rfl rfl ?_)
    exact hx _) n1 0 A (Nat.zero_add n1) ⟨sA.rf, hr⟩
  have sk := dfo_skip (g1 := g1) (g2 := g2) (r := r) (K := 6 * n1) (36 - 6 * n1) (fun k h1 h2 => by
    cases e : r (k / 6) (k % 6) with
    | false => rfl
    | true => have := hin _ _ e; omega)
  rw [show 6 * n1 + (36 - 6 * n1) = 36 by omega] at sk
  refine ⟨A1, i1, by rw [sk.1]; exact i2, fun x hx v5 => h3 x (fun v5 => ?_) v5⟩
  rw [sk.2] at hx
  repeat (first | refine ev_np [] rfl rfl rfl ?_ | refine ev_grs [] rfl rfl (by rfl) (by rfl) ?_)
  refine ev_an rfl (by rfl) rfl hi rfl ?_
  rw [i1 64 (by decide), hm1.1]
  repeat (refine ev_np [] rfl rfl rfl ?_)
  refine ev_it (nI_le (Nat.le_refl _) (by omega)) ?_
  exact hx _ _
theorem c_Mo_clash (hi : i < 8) (hj : j < 8) (hm1 : MP A i n1 g1) (hm2 : MP A j n2 g2) (hw1 : GW n1 g1) (hw2 : GW n2 g2) : ∃ A', xa_rn xa_ms (d + 5) n_Mo_clash [.ref 62, .int (nI i), .int (nI j)] (hp Y F A) none (hp Y F A') ∧ sA [70] A A' ∧ WJ A' n1 n2 (dR n1 n2 g1 g2 37) := by
  obtain ⟨A1, ⟨a1, a2⟩, a3⟩ := lp_ex (α := Nat → Nat → Int32) (fun k B => sA [70] A B ∧ ∀ z, z < k → B 70 z = 0) (fun k B x => ∀ v4 v5 : Value, ev (d + 4) t_Mo_clash 2 [.ref 62, .int (nI i), .int (nI j), .int (nI k), v4, v5] [] (hp Y F B) x) 36 (fun k B hk hI => by
    obtain ⟨i1, i2⟩ := hI
    refine ⟨va_up B 70 (upd (B 70) k 0), ⟨i1.tr (sA.up (by decide)), fun z hz => ?_⟩, fun x hx v4 v5 => ?_⟩
    · rw [va_up_s]
      by_cases e : z = k
      · subst e; rw [pk_us]
      · rw [pk_un e]; exact i2 z (by omega)
    · rw [nI_succ] at hx
      repeat (refine ev_np [] rfl rfl rfl ?_)
      refine ev_ie (nI_ge (b := 36) hk (by omega)) ?_
      repeat (first | refine ev_np [] rfl rfl rfl ?_ | refine ev_grs [] rfl rfl (by rfl) (by rfl) ?_)
      refine ev_am rfl (by rfl) rfl hk rfl ?_
      repeat (refine ev_np [2] rfl rfl rfl ?_)
      exact hx _ _) 36 0 A rfl ⟨sA.rf, fun z hz => by omega⟩
  have w0 : WJ A1 n1 n2 (dR n1 n2 g1 g2 0) := fun a b ha hb => by
    rw [a2 _ (by have := hw1.1.2; have := hw2.1.2; omega)]
    show 0 = z01 (!(decide (a < n1) && decide (b < n2)))
    rw [decide_eq_true ha, decide_eq_true hb]
    rfl
  obtain ⟨m0, hm0, hme⟩ := dR_end (n1 := n1) (n2 := n2) (g1 := g1) (g2 := g2)
  have loop : ∀ c m B, m + c = m0 → sA [70] A B → WJ B n1 n2 (dR n1 n2 g1 g2 m) → ∃ A', sA [70] A A' ∧ WJ A' n1 n2 (dR n1 n2 g1 g2 37) ∧ ∀ v4 v5 : Value, ev (d + 4) t_Mo_clash 23 [.ref 62, .int (nI i), .int (nI j), .int 1, v4, v5] [] (hp Y F B) (none, hp Y F A') := by
    intro c
    induction c with
    | zero =>
      intro m B hm h1 h2
      have : m = m0 := by omega
      subst this
      obtain ⟨B1, b1, b2, b3⟩ := c_Mo_pass (Y := Y) (F := F) (A := B) d hi hj (hm1.frame (h1 _ (by decide)) (h1 _ (by decide))) (hm2.frame (h1 _ (by decide)) (h1 _ (by decide))) hw1 hw2 (fun a b h => dR_in m h) h2
      rw [dfo_same 36 hme, dR_37 (by omega) hme] at b2
      refine ⟨B1, h1.tr b1, b2, fun v4 v5 => ?_⟩
      repeat (refine ev_np [32] rfl rfl rfl ?_)
      refine b3 _ (fun v4 v5 => ?_) _
      rw [hme]
      repeat (refine ev_np [] rfl rfl rfl ?_)
      exact ev_rv rfl
    | succ c ih =>
      intro m B hm h1 h2
      obtain ⟨B1, b1, b2, b3⟩ := c_Mo_pass (Y := Y) (F := F) (A := B) d hi hj (hm1.frame (h1 _ (by decide)) (h1 _ (by decide))) (hm2.frame (h1 _ (by decide)) (h1 _ (by decide))) hw1 hw2 (fun a b h => dR_in m h) h2
      cases hmor : mor g1 g2 36 (dR n1 n2 g1 g2 m) with
      | false =>
        rw [dfo_same 36 hmor, dR_37 (by omega) hmor] at b2
        refine ⟨B1, h1.tr b1, b2, fun v4 v5 => ?_⟩
        repeat (refine ev_np [32] rfl rfl rfl ?_)
        refine b3 _ (fun v4 v5 => ?_) _
        rw [hmor]
        repeat (refine ev_np [] rfl rfl rfl ?_)
        exact ev_rv rfl
      | true =>
        obtain ⟨A', e1, e2, e3⟩ := ih (m + 1) B1 (by omega) (h1.tr b1) b2
        refine ⟨A', e1, e2, fun v4 v5 => ?_⟩
        repeat (refine ev_np [32] rfl rfl rfl ?_)
        refine b3 _ (fun v4 v5 => ?_) _
        rw [hmor]
        repeat (refine ev_np [23] rfl rfl rfl ?_)
        exact e3 _ _
  obtain ⟨A', e1, e2, e3⟩ := loop m0 0 A1 (Nat.zero_add m0) a1 w0
  refine ⟨A', ?_, e1, e2⟩
  refine rn_in m_Mo_clash rfl ⟨rfl, rfl⟩ ?_
  show ev _ t_Mo_clash 0 [.ref 62, .int (nI i), .int (nI j), .float 0, .float 0, .float 0] [] _ _
  repeat (refine ev_np [2] rfl rfl rfl ?_)
  refine a3 _ (fun v4 v5 => ?_) _ _
  repeat (refine ev_np [23] rfl rfl rfl ?_)
  exact e3 _ _
end CLM
