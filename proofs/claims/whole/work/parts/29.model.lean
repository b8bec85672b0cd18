/-! ===== the model: plans, sides ===== -/
def MP (A : Nat → Nat → Int32) (i n : Nat) (g : Nat → Nat → Nat → Nat) : Prop := A 64 i = nI n ∧ ∀ s l t, s < 6 → l < 3 → t < 6 → A 63 (108 * i + 18 * s + 6 * l + t) = nI (g s l t)
theorem MP.frame {A A' : Nat → Nat → Int32} {i n : Nat} {g : Nat → Nat → Nat → Nat} (h : MP A i n g) (h1 : A' 63 = A 63) (h2 : A' 64 = A 64) : MP A' i n g := ⟨by rw [h2]; exact h.1, fun s l t hs hl ht => by rw [h1]; exact h.2 s l t hs hl ht⟩
theorem any_shrink {f : Nat → Bool} {n m : Nat} (hnm : n ≤ m) (h : ∀ k, k < m → f k = true → k < n) : (List.range m).any f = (List.range n).any f := by
  rw [Bool.eq_iff_iff, List.any_eq_true, List.any_eq_true]
  constructor
  · rintro ⟨k, hk, hf⟩
    exact ⟨k, List.mem_range.mpr (h k (List.mem_range.mp hk) hf), hf⟩
  · rintro ⟨k, hk, hf⟩
    exact ⟨k, List.mem_range.mpr (Nat.lt_of_lt_of_le (List.mem_range.mp hk) hnm), hf⟩
theorem any_congr {f g : Nat → Bool} {n : Nat} (h : ∀ k, k < n → f k = g k) : (List.range n).any f = (List.range n).any g := by
  rw [Bool.eq_iff_iff, List.any_eq_true, List.any_eq_true]
  constructor
  · rintro ⟨k, hk, hf⟩
    exact ⟨k, hk, by rw [← h k (List.mem_range.mp hk)]; exact hf⟩
  · rintro ⟨k, hk, hf⟩
    exact ⟨k, hk, by rw [h k (List.mem_range.mp hk)]; exact hf⟩
theorem lack_any (r : Nat → Nat → Bool) (f g : Nat → Bool) : ∀ n, lack r f g n = (List.range n).any (fun k => f k && !((List.range 6).any fun t => g t && r k t)) := by
  intro n
  induction n with
  | zero => rfl
  | succ n ih => rw [anyB]; simp only [lack]; rw [ih]
def sM (n1 n2 : Nat) (g1 g2 : Nat → Nat → Nat → Nat) (r : Nat → Nat → Bool) (s t l : Nat) : Nat :=
  bif (List.range n1).any (fun a => decide (1 ≤ g1 s l a) && !((List.range n2).any fun b => decide (1 ≤ g2 t l b) && r a b)) then 1 else bif (List.range n2).any (fun b => decide (2 ≤ g2 t l b) && !((List.range n1).any fun a => decide (2 ≤ g1 s l a) && r a b)) then 2 else 0
theorem sM_eq {n1 n2 : Nat} {g1 g2 : Nat → Nat → Nat → Nat} (h1 : GW n1 g1) (h2 : GW n2 g2) {r r' : Nat → Nat → Bool} (hr : ∀ a b, a < n1 → b < n2 → r a b = r' a b) (s t l : Nat) : sd g1 g2 r s t l = sM n1 n2 g1 g2 r' s t l := by
  unfold sd sM
  have e1 : lack r (fun x => decide (1 ≤ g1 s l x)) (fun y => decide (1 ≤ g2 t l y)) 6 = (List.range n1).any (fun a => decide (1 ≤ g1 s l a) && !((List.range n2).any fun b => decide (1 ≤ g2 t l b) && r' a b)) := by
    rw [lack_any, any_shrink h1.1.2 (fun k _ hk => by
      simp only [Bool.and_eq_true, decide_eq_true_eq] at hk
      exact ((h1.2 s l k).2 (by omega)).1 |> fun _ => ((h1.2 s l k).2 (by omega)).2.2)]
    refine any_congr fun a ha => ?_
    congr 2
    rw [any_shrink h2.1.2 (fun k _ hk => by
      simp only [Bool.and_eq_true, decide_eq_true_eq] at hk
      exact ((h2.2 t l k).2 (by omega)).2.2)]
    exact any_congr fun b hb => by rw [hr a b ha hb]
  have e2 : lack (fun a b => r b a) (fun y => decide (2 ≤ g2 t l y)) (fun x => decide (2 ≤ g1 s l x)) 6 = (List.range n2).any (fun b => decide (2 ≤ g2 t l b) && !((List.range n1).any fun a => decide (2 ≤ g1 s l a) && r' a b)) := by
    rw [lack_any, any_shrink h2.1.2 (fun k _ hk => by
      simp only [Bool.and_eq_true, decide_eq_true_eq] at hk
      exact ((h2.2 t l k).2 (by omega)).2.2)]
    refine any_congr fun b hb => ?_
    congr 2
    rw [any_shrink h1.1.2 (fun k _ hk => by
      simp only [Bool.and_eq_true, decide_eq_true_eq] at hk
      exact ((h1.2 s l k).2 (by omega)).2.2)]
    exact any_congr fun a ha => by rw [hr a b ha hb]
  rw [e1, e2]
theorem z01_or (a b : Bool) : z01 a ||| z01 b = z01 (a || b) := by cases a <;> cases b <;> decide
theorem z01_b (b : Bool) : z01 b = 0 ∨ z01 b = 1 := by cases b <;> simp [z01]
section MODEL
variable {Y : Nat × (Nat → Int32)} {F A : Nat → Nat → Int32} (d : Nat)
theorem at_nI (i s l t : Nat) : 108 * nI i + 18 * nI s + 6 * nI l + nI t = nI (108 * i + 18 * s + 6 * l + t) := by
  rw [show (108 : Int32) = nI 108 from rfl, show (18 : Int32) = nI 18 from rfl, show (6 : Int32) = nI 6 from rfl, pk_mul, pk_mul, pk_mul, nI_add, nI_add, nI_add]
theorem c_Mo_at (i s l t : Nat) {h : xa_H} : xa_rn xa_ms (d + 1) n_Mo_at [.int (nI i), .int (nI s), .int (nI l), .int (nI t)] h (some (.int (nI (108 * i + 18 * s + 6 * l + t)))) h := by
  refine rn_in m_Mo_at rfl ⟨rfl, rfl⟩ ?_
  show ev _ t_Mo_at 0 [.int (nI i), .int (nI s), .int (nI l), .int (nI t)] [] _ _
  repeat (refine ev_np [] rfl rfl rfl ?_)
  exact ev_ri rfl (at_nI i s l t)
theorem c_Mo_of {i n : Nat} {g : Nat → Nat → Nat → Nat} (hi : i < 8) (hm : MP A i n g) {s l t : Nat} (hs : s < 6) (hl : l < 3) (ht : t < 6) : xa_rn xa_ms (d + 2) n_Mo_of [.ref 62, .int (nI i), .int (nI s), .int (nI l), .int (nI t)] (hp Y F A) (some (.int (nI (g s l t)))) (hp Y F A) := by
  refine rn_in m_Mo_of rfl ⟨rfl, rfl⟩ ?_
  show ev _ t_Mo_of 0 [.ref 62, .int (nI i), .int (nI s), .int (nI l), .int (nI t)] [] _ _
  repeat (refine ev_np [] rfl rfl rfl ?_)
  refine ev_gr rfl (by rfl) (by rfl) ?_
  repeat (refine ev_np [] rfl rfl rfl ?_)
  refine ev_ca rfl (c_Mo_at d i s l t) ?_
  refine ev_an rfl (by rfl) rfl (by omega) rfl ?_
  exact ev_ri rfl (hm.2 s l t hs hl ht)
theorem c_Mo_isThere {w : Nat → Nat} (hw : WE A 70 w) (hwl : ∀ k, w k < 1000) {s t R : Nat} (hs : s < 6) (ht : t < 6) (hR : R < 1000) : xa_rn xa_ms (d + 1) n_Mo_isThere [.ref 62, .int (nI s), .int (nI t), .int (nI R)] (hp Y F A) (some (.int (z01 (decide (w (6 * s + t) = 0) || decide (R ≤ w (6 * s + t)))))) (hp Y F A) := by
  have hl := hwl (6 * s + t)
  have hix : 6 * nI s + nI t = nI (6 * s + t) := by rw [show (6 : Int32) = nI 6 from rfl, pk_mul, nI_add]
  refine rn_in m_Mo_isThere rfl ⟨rfl, rfl⟩ ?_
  show ev _ t_Mo_isThere 0 [.ref 62, .int (nI s), .int (nI t), .int (nI R)] [] _ _
  repeat (refine ev_np [] rfl rfl rfl ?_)
  refine ev_gr rfl (by rfl) (by rfl) ?_
  repeat (refine ev_np [] rfl rfl rfl ?_)
  refine ev_an rfl (by rfl) (j := 6 * s + t) hix (by omega) rfl ?_
  rw [hw _ (by omega)]
  repeat (refine ev_np [] rfl rfl rfl ?_)
  by_cases e : w (6 * s + t) = 0
  · rw [e]
    repeat (refine ev_np [] rfl rfl rfl ?_)
    exact ev_rz rfl rfl (Or.inr rfl)
  · refine ev_ie (nI_ne0 (by omega) (by omega)) ?_
    repeat (refine ev_np [] rfl rfl rfl ?_)
    refine ev_gr rfl (by rfl) (by rfl) ?_
    repeat (refine ev_np [] rfl rfl rfl ?_)
    refine ev_an rfl (by rfl) (j := 6 * s + t) hix (by omega) rfl ?_
    rw [hw _ (by omega)]
    repeat (refine ev_np [] rfl rfl rfl ?_)
    by_cases e2 : R ≤ w (6 * s + t)
    · refine ev_ie (nI_nlt e2 (by omega)) ?_
      repeat (refine ev_np [] rfl rfl rfl ?_)
      exact ev_rz rfl (by simp [e2, z01]) (z01_b _)
    · refine ev_it (nI_lt (by omega) (by omega)) ?_
      repeat (refine ev_np [] rfl rfl rfl ?_)
      exact ev_rz rfl (by simp [e, e2, z01]) (z01_b _)
theorem c_Mo_why {i j n1 n2 : Nat} {g1 g2 : Nat → Nat → Nat → Nat} (hi : i < 8) (hj : j < 8) (hm1 : MP A i n1 g1) (hm2 : MP A j n2 g2) (hn1 : n1 ≤ 6) (hn2 : n2 ≤ 6) (hg1 : ∀ s l t, g1 s l t ≤ 2) (hg2 : ∀ s l t, g2 s l t ≤ 2) {w : Nat → Nat} (hw : WE A 70 w) (hwl : ∀ k, w k < 1000) {s t l R : Nat} (hs : s < 6) (ht : t < 6) (hl : l < 3) (hR : R < 1000) : xa_rn xa_ms (d + 3) n_Mo_why [.ref 62, .int (nI i), .int (nI s), .int (nI j), .int (nI t), .int (nI l), .int (nI R)] (hp Y F A) (some (.int (nI (sM n1 n2 g1 g2 (fun a b => decide (w (6 * a + b) = 0) || decide (R ≤ w (6 * a + b))) s t l)))) (hp Y F A) := by
  obtain ⟨r, hr⟩ : ∃ r : Nat → Nat → Bool, r = fun a b => decide (w (6 * a + b) = 0) || decide (R ≤ w (6 * a + b)) := ⟨_, rfl⟩
  have hthere : ∀ {a b : Nat}, a < 6 → b < 6 → xa_rn xa_ms (d + 2) n_Mo_isThere [.ref 62, .int (nI a), .int (nI b), .int (nI R)] (hp Y F A) (some (.int (z01 (r a b)))) (hp Y F A) := fun ha hb => by rw [hr]; exact c_Mo_isThere (d + 1) hw hwl ha hb hR
  rw [← hr]
  obtain ⟨Z, hZ⟩ : ∃ Z, Z = sM n1 n2 g1 g2 r s t l := ⟨_, rfl⟩
  rw [← hZ]
  -- the first inner loop
  have in1 : ∀ a, a < n1 → ∀ q0 (v7 : Value), (∀ v10 : Value, ev (d + 2) t_Mo_why 94 [.ref 62, .int (nI i), .int (nI s), .int (nI j), .int (nI t), .int (nI l), .int (nI R), v7, .int (nI a), .int (z01 (decide (g1 s l a = 0) || (List.range n2).any fun b => decide (1 ≤ g2 t l b) && r a b)), v10] [] (hp Y F A) q0) → ev (d + 2) t_Mo_why 40 [.ref 62, .int (nI i), .int (nI s), .int (nI j), .int (nI t), .int (nI l), .int (nI R), v7, .int (nI a), .int (z01 (decide (g1 s l a = 0))), .int 0] [] (hp Y F A) q0 := by
    intro a ha q0 v7 h
    have h1 := lp_to (E := fun k q => ev (d + 2) t_Mo_why 40 [.ref 62, .int (nI i), .int (nI s), .int (nI j), .int (nI t), .int (nI l), .int (nI R), v7, .int (nI a), .int (z01 (decide (g1 s l a = 0) || (List.range k).any fun b => decide (1 ≤ g2 t l b) && r a b)), .int (nI k)] [] (hp Y F A) q) n2 (fun k hk q hq => by
      rw [nI_succ, anyB, ← Bool.or_assoc, ← z01_or] at hq
      repeat (refine ev_np [] rfl rfl rfl ?_)
      refine ev_gr rfl (by rfl) (by rfl) ?_
      repeat (refine ev_np [] rfl rfl rfl ?_)
      refine ev_an rfl (by rfl) rfl (by omega) rfl ?_
      rw [hm2.1]
      repeat (refine ev_np [] rfl rfl rfl ?_)
      refine ev_ie (nI_ge hk (by omega)) ?_
      repeat (refine ev_np [] rfl rfl rfl ?_)
      refine ev_vc rfl (by rfl) (by rfl) rfl (c_Mo_of d hj hm2 ht hl (by omega)) ?_
      repeat (refine ev_np [] rfl rfl rfl ?_)
      have hg := hg2 t l k
      by_cases e : 1 ≤ g2 t l k
      · refine ev_ie (nI_nle (by omega) (by omega)) ?_
        repeat (refine ev_np [] rfl rfl rfl ?_)
        refine ev_vc rfl (by rfl) (by rfl) rfl (hthere (by omega) (by omega)) ?_
        rw [decide_eq_true e, Bool.true_and] at hq
        cases hrk : r a k with
        | true =>
          rw [hrk] at hq
          repeat (refine ev_np [40] rfl rfl rfl ?_)
          exact hq
        | false =>
          rw [hrk] at hq
          repeat (refine ev_np [40] rfl rfl rfl ?_)
          exact hq
      · refine ev_it (by rw [show g2 t l k = 0 by omega]; exact Int32.le_refl _) ?_
        rw [decide_eq_false e, Bool.false_and] at hq
        repeat (refine ev_np [40] rfl rfl rfl ?_)
        exact hq) q0 (by
      repeat (refine ev_np [] rfl rfl rfl ?_)
      refine ev_gr rfl (by rfl) (by rfl) ?_
      repeat (refine ev_np [] rfl rfl rfl ?_)
      refine ev_an rfl (by rfl) rfl (by omega) rfl ?_
      rw [hm2.1]
      repeat (refine ev_np [] rfl rfl rfl ?_)
      refine ev_it (nI_le (Nat.le_refl _) (by omega)) ?_
      exact h _)
    simp only [List.range_zero, List.any_nil, Bool.or_false] at h1
    exact h1
  -- the second inner loop
  have in2 : ∀ b, b < n2 → ∀ q0 (v7 : Value), (∀ v10 : Value, ev (d + 2) t_Mo_why 200 [.ref 62, .int (nI i), .int (nI s), .int (nI j), .int (nI t), .int (nI l), .int (nI R), v7, .int (nI b), .int (z01 (decide (g2 t l b < 2) || (List.range n1).any fun a => decide (2 ≤ g1 s l a) && r a b)), v10] [] (hp Y F A) q0) → ev (d + 2) t_Mo_why 146 [.ref 62, .int (nI i), .int (nI s), .int (nI j), .int (nI t), .int (nI l), .int (nI R), v7, .int (nI b), .int (z01 (decide (g2 t l b < 2))), .int 0] [] (hp Y F A) q0 := by
    intro b hb q0 v7 h
    have h1 := lp_to (E := fun k q => ev (d + 2) t_Mo_why 146 [.ref 62, .int (nI i), .int (nI s), .int (nI j), .int (nI t), .int (nI l), .int (nI R), v7, .int (nI b), .int (z01 (decide (g2 t l b < 2) || (List.range k).any fun a => decide (2 ≤ g1 s l a) && r a b)), .int (nI k)] [] (hp Y F A) q) n1 (fun k hk q hq => by
      rw [nI_succ, anyB, ← Bool.or_assoc, ← z01_or] at hq
      repeat (refine ev_np [] rfl rfl rfl ?_)
      refine ev_gr rfl (by rfl) (by rfl) ?_
      repeat (refine ev_np [] rfl rfl rfl ?_)
      refine ev_an rfl (by rfl) rfl (by omega) rfl ?_
      rw [hm1.1]
      repeat (refine ev_np [] rfl rfl rfl ?_)
      refine ev_ie (nI_ge hk (by omega)) ?_
      repeat (refine ev_np [] rfl rfl rfl ?_)
      refine ev_vc rfl (by rfl) (by rfl) rfl (c_Mo_of d hi hm1 hs hl (by omega)) ?_
      repeat (refine ev_np [] rfl rfl rfl ?_)
      have hg := hg1 s l k
      by_cases e : 2 ≤ g1 s l k
      · have e2 : g1 s l k = 2 := by omega
        rw [e2]
        refine ev_ie (fun z => z rfl) ?_
        repeat (refine ev_np [] rfl rfl rfl ?_)
        refine ev_vc rfl (by rfl) (by rfl) rfl (hthere (by omega) (by omega)) ?_
        rw [decide_eq_true e, Bool.true_and] at hq
        cases hrk : r k b with
        | true =>
          rw [hrk] at hq
          repeat (refine ev_np [146] rfl rfl rfl ?_)
          exact hq
        | false =>
          rw [hrk] at hq
          repeat (refine ev_np [146] rfl rfl rfl ?_)
          exact hq
      · refine ev_it (fun z => e (by have := (nI_eq (a := g1 s l k) (b := 2) (by omega) (by omega)).mp z; omega)) ?_
        rw [decide_eq_false e, Bool.false_and] at hq
        repeat (refine ev_np [146] rfl rfl rfl ?_)
        exact hq) q0 (by
      repeat (refine ev_np [] rfl rfl rfl ?_)
      refine ev_gr rfl (by rfl) (by rfl) ?_
      repeat (refine ev_np [] rfl rfl rfl ?_)
      refine ev_an rfl (by rfl) rfl (by omega) rfl ?_
      rw [hm1.1]
      repeat (refine ev_np [] rfl rfl rfl ?_)
      refine ev_it (nI_le (Nat.le_refl _) (by omega)) ?_
      exact h _)
    simp only [List.range_zero, List.any_nil, Bool.or_false] at h1
    exact h1
  -- the second loop and the end
  have two : ∀ (v8 v9 v10 : Value), (List.range n1).any (fun a => decide (1 ≤ g1 s l a) && !((List.range n2).any fun b => decide (1 ≤ g2 t l b) && r a b)) = false → ev (d + 2) t_Mo_why 107 [.ref 62, .int (nI i), .int (nI s), .int (nI j), .int (nI t), .int (nI l), .int (nI R), .int 0, v8, v9, v10] [] (hp Y F A) (some (.int (nI Z)), hp Y F A) := by
    intro v8 v9 v10 hfst
    repeat (refine ev_np [110] rfl rfl rfl ?_)
    have h1 := lp_to (E := fun k q => ∀ v9 v10 : Value, ev (d + 2) t_Mo_why 110 [.ref 62, .int (nI i), .int (nI s), .int (nI j), .int (nI t), .int (nI l), .int (nI R), .int (z01 ((List.range k).any (fun b => decide (2 ≤ g2 t l b) && !((List.range n1).any fun a => decide (2 ≤ g1 s l a) && r a b)))), .int (nI k), v9, v10] [] (hp Y F A) q) n2 (fun k hk q hq => by
      intro v9 v10
      rw [nI_succ, anyB, ← z01_or] at hq
      repeat (refine ev_np [] rfl rfl rfl ?_)
      refine ev_gr rfl (by rfl) (by rfl) ?_
      repeat (refine ev_np [] rfl rfl rfl ?_)
      refine ev_an rfl (by rfl) rfl (by omega) rfl ?_
      rw [hm2.1]
      repeat (refine ev_np [] rfl rfl rfl ?_)
      refine ev_ie (nI_ge hk (by omega)) ?_
      repeat (refine ev_np [] rfl rfl rfl ?_)
      refine ev_vc rfl (by rfl) (by rfl) rfl (c_Mo_of d hj hm2 ht hl (by omega)) ?_
      repeat (refine ev_np [] rfl rfl rfl ?_)
      have hg := hg2 t l k
      have back : ∀ (b : Bool) (v10 : Value), b = (decide (g2 t l k < 2) || (List.range n1).any fun a => decide (2 ≤ g1 s l a) && r a k) → ev (d + 2) t_Mo_why 200 [.ref 62, .int (nI i), .int (nI s), .int (nI j), .int (nI t), .int (nI l), .int (nI R), .int (z01 ((List.range k).any (fun b => decide (2 ≤ g2 t l b) && !((List.range n1).any fun a => decide (2 ≤ g1 s l a) && r a b)))), .int (nI k), .int (z01 b), v10] [] (hp Y F A) q := by
        intro b v10 hb
        have hbb : (decide (2 ≤ g2 t l k) && !((List.range n1).any fun a => decide (2 ≤ g1 s l a) && r a k)) = !b := by
          rw [hb, Bool.not_or]
          congr 1
          by_cases z : 2 ≤ g2 t l k
          · simp [z, show ¬ g2 t l k < 2 by omega]
          · simp [z, show g2 t l k < 2 by omega]
        rw [hbb] at hq
        cases b with
        | true =>
          repeat (refine ev_np [110] rfl rfl rfl ?_)
          exact hq _ _
        | false =>
          repeat (refine ev_np [110] rfl rfl rfl ?_)
          exact hq _ _
      by_cases e : 2 ≤ g2 t l k
      · refine ev_it (by rw [show g2 t l k = 2 by omega]; exact Int32.le_refl _) ?_
        repeat (refine ev_np [146] rfl rfl rfl ?_)
        have h9 := in2 k hk q (.int (z01 ((List.range k).any (fun b => decide (2 ≤ g2 t l b) && !((List.range n1).any fun a => decide (2 ≤ g1 s l a) && r a b))))) (fun v10 => back _ v10 rfl)
        rw [decide_eq_false (show ¬ g2 t l k < 2 by omega)] at h9
        exact h9
      · refine ev_ie (nI_ge (b := 2) (by omega) (by omega)) ?_
        repeat (refine ev_np [146] rfl rfl rfl ?_)
        have h9 := in2 k hk q (.int (z01 ((List.range k).any (fun b => decide (2 ≤ g2 t l b) && !((List.range n1).any fun a => decide (2 ≤ g1 s l a) && r a b))))) (fun v10 => back _ v10 rfl)
        rw [decide_eq_true (show g2 t l k < 2 by omega)] at h9
        exact h9) (some (.int (nI Z)), hp Y F A) (by
      intro v9 v10
      repeat (refine ev_np [] rfl rfl rfl ?_)
      refine ev_gr rfl (by rfl) (by rfl) ?_
      repeat (refine ev_np [] rfl rfl rfl ?_)
      refine ev_an rfl (by rfl) rfl (by omega) rfl ?_
      rw [hm2.1]
      repeat (refine ev_np [] rfl rfl rfl ?_)
      refine ev_it (nI_le (Nat.le_refl _) (by omega)) ?_
      have hZ2 : Z = bif (List.range n2).any (fun b => decide (2 ≤ g2 t l b) && !((List.range n1).any fun a => decide (2 ≤ g1 s l a) && r a b)) then 2 else 0 := by
        rw [hZ]
        unfold sM
        rw [hfst]
        rfl
      rw [hZ2]
      cases (List.range n2).any (fun b => decide (2 ≤ g2 t l b) && !((List.range n1).any fun a => decide (2 ≤ g1 s l a) && r a b)) with
      | true =>
        repeat (refine ev_np [] rfl rfl rfl ?_)
        exact ev_ri rfl rfl
      | false =>
        repeat (refine ev_np [] rfl rfl rfl ?_)
        exact ev_ri rfl rfl)
    exact h1 v9 v10
  -- the first loop
  have one : ∀ m k (v9 v10 : Value), k + m = n1 → (List.range k).any (fun a => decide (1 ≤ g1 s l a) && !((List.range n2).any fun b => decide (1 ≤ g2 t l b) && r a b)) = false → ev (d + 2) t_Mo_why 6 [.ref 62, .int (nI i), .int (nI s), .int (nI j), .int (nI t), .int (nI l), .int (nI R), .int 0, .int (nI k), v9, v10] [] (hp Y F A) (some (.int (nI Z)), hp Y F A) := by
    intro m
    induction m with
    | zero =>
      intro k v9 v10 hk hno
      have : k = n1 := by omega
      subst this
      repeat (refine ev_np [] rfl rfl rfl ?_)
      refine ev_gr rfl (by rfl) (by rfl) ?_
      repeat (refine ev_np [] rfl rfl rfl ?_)
      refine ev_an rfl (by rfl) rfl (by omega) rfl ?_
      rw [hm1.1]
      repeat (refine ev_np [] rfl rfl rfl ?_)
      refine ev_it (nI_le (Nat.le_refl _) (by omega)) ?_
      exact two _ _ _ hno
    | succ m ih =>
      intro k v9 v10 hk hno
      have hk1 : k < n1 := by omega
      have hg := hg1 s l k
      repeat (refine ev_np [] rfl rfl rfl ?_)
      refine ev_gr rfl (by rfl) (by rfl) ?_
      repeat (refine ev_np [] rfl rfl rfl ?_)
      refine ev_an rfl (by rfl) rfl (by omega) rfl ?_
      rw [hm1.1]
      repeat (refine ev_np [] rfl rfl rfl ?_)
      refine ev_ie (nI_ge hk1 (by omega)) ?_
      repeat (refine ev_np [] rfl rfl rfl ?_)
      refine ev_vc rfl (by rfl) (by rfl) rfl (c_Mo_of d hi hm1 hs hl (by omega)) ?_
      repeat (refine ev_np [] rfl rfl rfl ?_)
      have back : ∀ (b : Bool) (v10 : Value), b = (decide (g1 s l k = 0) || (List.range n2).any fun b => decide (1 ≤ g2 t l b) && r k b) → ev (d + 2) t_Mo_why 94 [.ref 62, .int (nI i), .int (nI s), .int (nI j), .int (nI t), .int (nI l), .int (nI R), .int 0, .int (nI k), .int (z01 b), v10] [] (hp Y F A) (some (.int (nI Z)), hp Y F A) := by
        intro b v10 hb
        have hbb : (decide (1 ≤ g1 s l k) && !((List.range n2).any fun b => decide (1 ≤ g2 t l b) && r k b)) = !b := by
          rw [hb, Bool.not_or]
          congr 1
          by_cases z : 1 ≤ g1 s l k
          · simp [z, show ¬ g1 s l k = 0 by omega]
          · simp [z, show g1 s l k = 0 by omega]
        cases b with
        | true =>
          have h9 := ih (k + 1) (.int (z01 true)) v10 (by omega) (by rw [anyB, hno, hbb]; rfl)
          rw [nI_succ] at h9
          repeat (refine ev_np [6] rfl rfl rfl ?_)
          exact h9
        | false =>
          have hall : (List.range n1).any (fun a => decide (1 ≤ g1 s l a) && !((List.range n2).any fun b => decide (1 ≤ g2 t l b) && r a b)) = true := List.any_eq_true.mpr ⟨k, List.mem_range.mpr hk1, hbb⟩
          have hZ1 : Z = 1 := by
            rw [hZ]
            unfold sM
            rw [hall]
            rfl
          rw [hZ1]
          repeat (refine ev_np [] rfl rfl rfl ?_)
          exact ev_ri rfl rfl
      by_cases e : g1 s l k = 0
      · rw [e]
        refine ev_ie (fun z => z rfl) ?_
        repeat (refine ev_np [40] rfl rfl rfl ?_)
        have h9 := in1 k hk1 (some (.int (nI Z)), hp Y F A) (.int 0) (fun v10 => back _ v10 rfl)
        rw [decide_eq_true e] at h9
        exact h9
      · refine ev_it (nI_ne0 (by omega) (by omega)) ?_
        repeat (refine ev_np [40] rfl rfl rfl ?_)
        have h9 := in1 k hk1 (some (.int (nI Z)), hp Y F A) (.int 0) (fun v10 => back _ v10 rfl)
        rw [decide_eq_false e] at h9
        exact h9
  refine rn_in m_Mo_why rfl ⟨rfl, rfl⟩ ?_
  show ev _ t_Mo_why 0 [.ref 62, .int (nI i), .int (nI s), .int (nI j), .int (nI t), .int (nI l), .int (nI R), .float 0, .float 0, .float 0, .float 0] [] _ _
  repeat (refine ev_np [6] rfl rfl rfl ?_)
  exact one n1 0 _ _ (by omega) rfl
end MODEL
