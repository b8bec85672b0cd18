/-! ===== class Plan: what it holds, its writes ===== -/
/-- the plan at p has n states and the arrows g -/
def CP (F A : Nat → Nat → Int32) (p n : Nat) (g : Nat → Nat → Nat → Nat) : Prop := F p 0 = nI n ∧ ∀ s l, s < 6 → l < 3 → A (p + 1) (3 * s + l) = nI (bm (fun t => decide (1 ≤ g s l t))) ∧ A (p + 2) (3 * s + l) = nI (bm (fun t => decide (2 ≤ g s l t)))
/-- a plan: its states, its arrows -/
def GW (n : Nat) (g : Nat → Nat → Nat → Nat) : Prop := (1 ≤ n ∧ n ≤ 6) ∧ ∀ s l t, g s l t ≤ 2 ∧ (g s l t ≠ 0 → s < n ∧ l < 3 ∧ t < n)
def gset (g : Nat → Nat → Nat → Nat) (s l t v : Nat) : Nat → Nat → Nat → Nat := fun a b c => if a = s ∧ b = l ∧ c = t then v else g a b c
def lo_is2 (e : Option lo_E) : Bool := match e with
  | some (.inr (2, _)) => true
  | _ => false
theorem PL_in {p : Nat} (h : PL p) : p = 11 ∨ p = 14 ∨ p = 17 ∨ p = 20 ∨ p = 23 ∨ p = 26 ∨ p = 29 ∨ p = 59 := by
  have h1 := lo_at_lt h.1
  have key : ∀ q, q < 73 → lo_is2 (lo_at q) = true → q = 11 ∨ q = 14 ∨ q = 17 ∨ q = 20 ∨ q = 23 ∨ q = 26 ∨ q = 29 ∨ q = 59 := by decide +kernel
  exact key p h1.2 (by rw [h.1]; rfl)
theorem PL_mk {p : Nat} (h : p = 11 ∨ p = 14 ∨ p = 17 ∨ p = 20 ∨ p = 23 ∨ p = 26 ∨ p = 29 ∨ p = 59) : PL p := by
  rcases h with rfl | rfl | rfl | rfl | rfl | rfl | rfl | rfl <;> exact ⟨rfl, rfl, rfl⟩
theorem CP.frame {F A F' A' : Nat → Nat → Int32} {p n : Nat} {g : Nat → Nat → Nat → Nat} (h : CP F A p n g) (h0 : F' p 0 = F p 0) (h1 : A' (p + 1) = A (p + 1)) (h2 : A' (p + 2) = A (p + 2)) : CP F' A' p n g := ⟨h0.trans h.1, fun s l hs hl => by rw [h1, h2]; exact h.2 s l hs hl⟩
theorem CP.congr {F A : Nat → Nat → Int32} {p n : Nat} {g g' : Nat → Nat → Nat → Nat} (h : CP F A p n g) (he : ∀ s l t, s < 6 → l < 3 → t < 6 → g s l t = g' s l t) : CP F A p n g' := ⟨h.1, fun s l hs hl => by
  obtain ⟨a, b⟩ := h.2 s l hs hl
  refine ⟨a.trans ?_, b.trans ?_⟩
  · rw [bm_congr (fun t ht => by rw [he s l t hs hl ht])]
  · rw [bm_congr (fun t ht => by rw [he s l t hs hl ht])]⟩
section PLAN2
variable {Y : Nat × (Nat → Int32)} {F A : Nat → Nat → Int32} {p : Nat} (d : Nat)
theorem c_Plan_at (hp0 : PL p) {n : Nat} {g : Nat → Nat → Nat → Nat} (hc : CP F A p n g) {s l t : Nat} (hs : s < 6) (hl : l < 3) (ht : t < 6) (hg : g s l t ≤ 2) : xa_rn xa_ms (d + 3) n_Plan_at [.ref p, .int (nI s), .int (nI l), .int (nI t)] (hp Y F A) (some (.int (nI (g s l t)))) (hp Y F A) := by
  obtain ⟨h1, h2⟩ := hc.2 s l hs hl
  refine rn_in m_Plan_at rfl ⟨rfl, rfl⟩ ?_
  show ev _ t_Plan_at 0 [.ref p, .int (nI s), .int (nI l), .int (nI t)] [] _ _
  repeat (refine ev_np [] rfl rfl rfl ?_)
  refine ev_vc rfl rfl hp0.1 rfl (c_Plan_mustFrom d hp0 hs hl) ?_
  repeat (refine ev_np [] rfl rfl rfl ?_)
  refine ev_ca rfl (c_MM_inSet (d + 1)) ?_
  rw [h2, bi_bm _ ht]
  by_cases hg2 : 2 ≤ g s l t
  · rw [decide_eq_true hg2]
    repeat (refine ev_np [] rfl rfl rfl ?_)
    exact ev_ri rfl (by rw [show g s l t = 2 by omega]; rfl)
  · rw [decide_eq_false hg2]
    repeat (refine ev_np [] rfl rfl rfl ?_)
    refine ev_vc rfl rfl hp0.1 rfl (c_Plan_anyFrom d hp0 hs hl) ?_
    repeat (refine ev_np [] rfl rfl rfl ?_)
    refine ev_ca rfl (c_MM_inSet (d + 1)) ?_
    rw [h1, bi_bm _ ht]
    by_cases hg1 : 1 ≤ g s l t
    · rw [decide_eq_true hg1]
      repeat (refine ev_np [] rfl rfl rfl ?_)
      exact ev_ri rfl (by rw [show g s l t = 1 by omega]; rfl)
    · rw [decide_eq_false hg1]
      repeat (refine ev_np [] rfl rfl rfl ?_)
      exact ev_ri rfl (by rw [show g s l t = 0 by omega]; rfl)
theorem pl_ix {s l s' l' : Nat} (hl : l < 3) (hl' : l' < 3) : 3 * s' + l' = 3 * s + l ↔ s' = s ∧ l' = l := by omega
/-- an arrow becomes v where v is more -/
theorem c_Plan_raise (hp0 : PL p) {n : Nat} {g : Nat → Nat → Nat → Nat} (hc : CP F A p n g) {s l t v : Nat} (hs : s < 6) (hl : l < 3) (ht : t < 6) (hv : v ≤ 2) : ∃ A', xa_rn xa_ms (d + 2) n_Plan_raise [.ref p, .int (nI s), .int (nI l), .int (nI t), .int (nI v)] (hp Y F A) none (hp Y F A') ∧ sA [p + 1, p + 2] A A' ∧ CP F A' p n (gset g s l t (max (g s l t) v)) := by
  obtain ⟨h1, h2⟩ := hc.2 s l hs hl
  have hp12 : ¬ p + 2 = p + 1 := by omega
  have hp21 : ¬ p + 1 = p + 2 := by omega
  have key : ∀ (A' : Nat → Nat → Int32), (∀ j, A' (p + 1) j = if j = 3 * s + l ∧ 1 ≤ v then nI (bm (fun k => decide (1 ≤ g s l k) || k == t)) else A (p + 1) j) → (∀ j, A' (p + 2) j = if j = 3 * s + l ∧ 2 ≤ v then nI (bm (fun k => decide (2 ≤ g s l k) || k == t)) else A (p + 2) j) → CP F A' p n (gset g s l t (max (g s l t) v)) := by
    intro A' e1 e2
    refine ⟨hc.1, fun s' l' hs' hl' => ?_⟩
    obtain ⟨q1, q2⟩ := hc.2 s' l' hs' hl'
    rw [e1, e2, q1, q2]
    by_cases he : s' = s ∧ l' = l
    · obtain ⟨rfl, rfl⟩ := he
      simp only [true_and]
      constructor
      · split <;> refine congrArg nI (bm_congr fun k _ => ?_) <;> unfold gset <;> by_cases hk : k = t <;> simp [hk] <;> first | omega | (rw [hk] at *; omega)
      · split <;> refine congrArg nI (bm_congr fun k _ => ?_) <;> unfold gset <;> by_cases hk : k = t <;> simp [hk] <;> first | omega | (rw [hk] at *; omega)
    · have hne : ¬ 3 * s' + l' = 3 * s + l := fun z => he ((pl_ix hl hl').mp z)
      have hgs : ∀ k, gset g s l t (max (g s l t) v) s' l' k = g s' l' k := fun k => by
        unfold gset
        rw [if_neg (fun z => he ⟨z.1, z.2.1⟩)]
      rw [if_neg (fun z => hne z.1), if_neg (fun z => hne z.1)]
      simp only [hgs]
      exact ⟨trivial, trivial⟩
  by_cases hv1 : 1 ≤ v
  · by_cases hv2 : 2 ≤ v
    · refine ⟨va_up (va_up A (p + 1) (upd (A (p + 1)) (3 * s + l) (A (p + 1) (3 * s + l) ||| ((1 : Int32) <<< (nI t &&& 31))))) (p + 2) (upd (A (p + 2)) (3 * s + l) (A (p + 2) (3 * s + l) ||| ((1 : Int32) <<< (nI t &&& 31)))), ?_, (sA.up (by simp)).tr (sA.up (by simp)), key _ (fun j => ?_) (fun j => ?_)⟩
      · refine rn_in m_Plan_raise rfl ⟨rfl, rfl⟩ ?_
        show ev _ t_Plan_raise 0 [.ref p, .int (nI s), .int (nI l), .int (nI t), .int (nI v)] [] _ _
        repeat (refine ev_np [] rfl rfl rfl ?_)
        refine ev_ca rfl (c_Plan_isSpot d hs hl) ?_
        repeat (refine ev_np [] rfl rfl rfl ?_)
        refine ev_ie (nI_nlt (a := v) (b := 1) hv1 (by omega)) ?_
        repeat (refine ev_np [] rfl rfl rfl ?_)
        refine ev_gr rfl hp0.1 rfl ?_
        repeat (refine ev_np [] rfl rfl rfl ?_)
        refine ev_an rfl hp0.2.1 (nI_3 s l) (by omega) rfl ?_
        repeat (refine ev_np [] rfl rfl rfl ?_)
        refine ev_am rfl hp0.2.1 (nI_3 s l) (by omega) rfl ?_
        repeat (refine ev_np [] rfl rfl rfl ?_)
        refine ev_ie (nI_nlt (a := v) (b := 2) hv2 (by omega)) ?_
        repeat (refine ev_np [] rfl rfl rfl ?_)
        refine ev_gr rfl hp0.1 rfl ?_
        repeat (refine ev_np [] rfl rfl rfl ?_)
        refine ev_an rfl hp0.2.2 (nI_3 s l) (by omega) rfl ?_
        repeat (refine ev_np [] rfl rfl rfl ?_)
        refine ev_am rfl hp0.2.2 (nI_3 s l) (by omega) rfl ?_
        rw [va_up_n _ _ hp12]
        exact ev_rv rfl
      · rw [va_up_n _ _ hp21, va_up_s, h1, orb_bm _ ht]
        simp [upd, hv1]
      · rw [va_up_s, h2, orb_bm _ ht]
        simp [upd, hv2]
    · refine ⟨va_up A (p + 1) (upd (A (p + 1)) (3 * s + l) (A (p + 1) (3 * s + l) ||| ((1 : Int32) <<< (nI t &&& 31)))), ?_, sA.up (by simp), key _ (fun j => ?_) (fun j => ?_)⟩
      · refine rn_in m_Plan_raise rfl ⟨rfl, rfl⟩ ?_
        show ev _ t_Plan_raise 0 [.ref p, .int (nI s), .int (nI l), .int (nI t), .int (nI v)] [] _ _
        repeat (refine ev_np [] rfl rfl rfl ?_)
        refine ev_ca rfl (c_Plan_isSpot d hs hl) ?_
        repeat (refine ev_np [] rfl rfl rfl ?_)
        refine ev_ie (nI_nlt (a := v) (b := 1) hv1 (by omega)) ?_
        repeat (refine ev_np [] rfl rfl rfl ?_)
        refine ev_gr rfl hp0.1 rfl ?_
        repeat (refine ev_np [] rfl rfl rfl ?_)
        refine ev_an rfl hp0.2.1 (nI_3 s l) (by omega) rfl ?_
        repeat (refine ev_np [] rfl rfl rfl ?_)
        refine ev_am rfl hp0.2.1 (nI_3 s l) (by omega) rfl ?_
        repeat (refine ev_np [] rfl rfl rfl ?_)
        refine ev_it (nI_lt (a := v) (b := 2) (by omega) (by omega)) ?_
        exact ev_rv rfl
      · rw [va_up_s, h1, orb_bm _ ht]
        simp [upd, hv1]
      · rw [va_up_n _ _ hp12]
        simp [hv2]
  · refine ⟨A, ?_, sA.rf, key _ (fun j => by simp [hv1]) (fun j => by simp [show ¬ 2 ≤ v by omega])⟩
    refine rn_in m_Plan_raise rfl ⟨rfl, rfl⟩ ?_
    show ev _ t_Plan_raise 0 [.ref p, .int (nI s), .int (nI l), .int (nI t), .int (nI v)] [] _ _
    repeat (refine ev_np [] rfl rfl rfl ?_)
    refine ev_ca rfl (c_Plan_isSpot d hs hl) ?_
    repeat (refine ev_np [] rfl rfl rfl ?_)
    refine ev_it (nI_lt (a := v) (b := 1) (by omega) (by omega)) ?_
    repeat (refine ev_np [] rfl rfl rfl ?_)
    refine ev_it (nI_lt (a := v) (b := 2) (by omega) (by omega)) ?_
    exact ev_rv rfl
end PLAN2
