/-! ===== the model's walks ===== -/
section WALKM
variable {Y : Nat × (Nat → Int32)} {F A : Nat → Nat → Int32} {n : Nat} {g : Nat → Nat → Nat → Nat} {u : Nat → Bool} (d : Nat)
theorem c_Mo_onward (hu : F 62 23 = nI (bm u)) (hm : MP A 7 n g) (hg : GW n g) {l : Nat} (hl : l < 3) : xa_rn xa_ms (d + 3) n_Mo_onward [.ref 62, .int (nI l)] (hp Y F A) (some (.int (nI (bm (nx g u l))))) (hp Y F A) := by
  have hn := hg.1.2
  have hres : bm (nx g u l) = bm (fun t => (List.range n).any (fun s => u s && decide (1 ≤ g s l t))) := by
    refine bm_congr fun t _ => ?_
    unfold nx
    exact any_shrink hn (fun s _ h => by
      simp only [Bool.and_eq_true, decide_eq_true_eq] at h
      exact ((hg.2 s l t).2 (by omega)).1)
  rw [hres]
  refine rn_in m_Mo_onward rfl ⟨rfl, rfl⟩ ?_
  show ev _ t_Mo_onward 0 [.ref 62, .int (nI l), .float 0, .float 0, .float 0] [] _ _
  repeat (refine ev_np [4] rfl rfl rfl ?_)
  have key := lp_to (E := fun k q => ∀ v4 : Value, ev (d + 2) t_Mo_onward 4 [.ref 62, .int (nI l), .int (nI (bm (fun t => (List.range k).any (fun s => u s && decide (1 ≤ g s l t))))), .int (nI k), v4] [] (hp Y F A) q) n (fun k hk q hq => by
    intro v4
    rw [nI_succ] at hq
    simp only [anyB] at hq
    repeat (refine ev_np [] rfl rfl rfl ?_)
    refine ev_gr rfl (by rfl) (by rfl) ?_
    repeat (refine ev_np [] rfl rfl rfl ?_)
    refine ev_an rfl (by rfl) (j := 7) rfl (by decide) rfl ?_
    rw [hm.1]
    repeat (refine ev_np [] rfl rfl rfl ?_)
    refine ev_ie (nI_ge hk (by omega)) ?_
    repeat (refine ev_np [18] rfl rfl rfl ?_)
    cases huk : u k with
    | false =>
      simp only [huk, Bool.false_and, Bool.or_false] at hq
      repeat (refine ev_np [] rfl rfl rfl ?_)
      refine ev_gr rfl (by rfl) (by rfl) ?_
      repeat (refine ev_np [] rfl rfl rfl ?_)
      refine ev_an rfl (by rfl) (j := 7) rfl (by decide) rfl ?_
      rw [hm.1]
      repeat (refine ev_np [] rfl rfl rfl ?_)
      refine ev_ie (nI_ge (a := 0) (by have := hg.1.1; omega) (by omega)) ?_
      repeat (refine ev_np [] rfl rfl rfl ?_)
      refine ev_gi rfl (by rfl) (by rfl) ?_
      repeat (refine ev_np [] rfl rfl rfl ?_)
      rw [hu, sh_bm _ (by omega), huk]
      repeat (refine ev_np [4] rfl rfl rfl ?_)
      exact hq _
    | true =>
      simp only [huk, Bool.true_and] at hq
      have h1 := lp_to (E := fun b q => ev (d + 2) t_Mo_onward 18 [.ref 62, .int (nI l), .int (nI (bm (fun t => (List.range k).any (fun s => u s && decide (1 ≤ g s l t)) || (decide (t < b) && decide (1 ≤ g k l t))))), .int (nI k), .int (nI b)] [] (hp Y F A) q) n (fun b hb q hq => by
        rw [nI_succ] at hq
        repeat (refine ev_np [] rfl rfl rfl ?_)
        refine ev_gr rfl (by rfl) (by rfl) ?_
        repeat (refine ev_np [] rfl rfl rfl ?_)
        refine ev_an rfl (by rfl) (j := 7) rfl (by decide) rfl ?_
        rw [hm.1]
        repeat (refine ev_np [] rfl rfl rfl ?_)
        refine ev_ie (nI_ge hb (by omega)) ?_
        repeat (refine ev_np [] rfl rfl rfl ?_)
        refine ev_gi rfl (by rfl) (by rfl) ?_
        repeat (refine ev_np [] rfl rfl rfl ?_)
        rw [hu, sh_bm _ (by omega), huk]
        repeat (refine ev_np [] rfl rfl rfl ?_)
        refine ev_vc rfl (by rfl) (by rfl) rfl (c_Mo_of d (i := 7) (by decide) hm (by omega) hl (by omega)) ?_
        repeat (refine ev_np [] rfl rfl rfl ?_)
        have hgle := (hg.2 k l b).1
        by_cases e : 1 ≤ g k l b
        · refine ev_ie (nI_nle (by omega) (by omega)) ?_
          repeat (refine ev_np [18] rfl rfl rfl ?_)
          rw [orb_bm _ (by omega)]
          rw [bm_congr (g := fun t => ((List.range k).any (fun s => u s && decide (1 ≤ g s l t)) || (decide (t < b) && decide (1 ≤ g k l t))) || t == b) (fun t _ => by
            by_cases h1 : t = b
            · subst h1; simp [e]
            · rw [dlt h1]; simp [h1])] at hq
          exact hq
        · refine ev_it (by rw [show g k l b = 0 by omega]; exact Int32.le_refl _) ?_
          repeat (refine ev_np [18] rfl rfl rfl ?_)
          have e0 : nI (bm (fun t => (List.range k).any (fun s => u s && decide (1 ≤ g s l t)) || (decide (t < b) && decide (1 ≤ g k l t)))) ||| 0 = nI (bm (fun t => (List.range k).any (fun s => u s && decide (1 ≤ g s l t)) || (decide (t < b) && decide (1 ≤ g k l t)))) := by
            rw [show (0 : Int32) = nI (bm (fun _ => false)) from rfl, or_bm]
            simp
          rw [e0]
          rw [bm_congr (g := fun t => (List.range k).any (fun s => u s && decide (1 ≤ g s l t)) || (decide (t < b) && decide (1 ≤ g k l t))) (fun t _ => by
            by_cases h1 : t = b
            · subst h1; simp [e]
            · rw [dlt h1])] at hq
          exact hq) q (by
        repeat (refine ev_np [] rfl rfl rfl ?_)
        refine ev_gr rfl (by rfl) (by rfl) ?_
        repeat (refine ev_np [] rfl rfl rfl ?_)
        refine ev_an rfl (by rfl) (j := 7) rfl (by decide) rfl ?_
        rw [hm.1]
        repeat (refine ev_np [] rfl rfl rfl ?_)
        refine ev_it (nI_le (Nat.le_refl _) (by omega)) ?_
        repeat (refine ev_np [4] rfl rfl rfl ?_)
        rw [bm_congr (g := fun t => (List.range k).any (fun s => u s && decide (1 ≤ g s l t)) || decide (1 ≤ g k l t)) (fun t _ => by
          by_cases h1 : 1 ≤ g k l t
          · have := ((hg.2 k l t).2 (by omega)).2.2
            simp [h1, this]
          · simp [h1])]
        exact hq _)
      simp only [Nat.not_lt_zero, decide_false, Bool.false_and, Bool.or_false] at h1
      exact h1) (some (.int (nI (bm (fun t => (List.range n).any (fun s => u s && decide (1 ≤ g s l t)))))), hp Y F A) (by
    intro v4
    repeat (refine ev_np [] rfl rfl rfl ?_)
    refine ev_gr rfl (by rfl) (by rfl) ?_
    repeat (refine ev_np [] rfl rfl rfl ?_)
    refine ev_an rfl (by rfl) (j := 7) rfl (by decide) rfl ?_
    rw [hm.1]
    repeat (refine ev_np [] rfl rfl rfl ?_)
    refine ev_it (nI_le (Nat.le_refl _) (by omega)) ?_
    repeat (refine ev_np [] rfl rfl rfl ?_)
    exact ev_ri rfl rfl)
  exact key _
theorem all_B (f : Nat → Bool) (n : Nat) : (List.range (n + 1)).all f = ((List.range n).all f && f n) := by
  rw [List.range_succ, List.all_append]
  simp
theorem z01_and (a b : Bool) : z01 a &&& z01 b = z01 (a && b) := by cases a <;> cases b <;> decide
theorem c_Mo_isSure (hu : F 62 23 = nI (bm u)) (hun : ∀ s, s < 6 → u s = true → s < n) (hm : MP A 7 n g) (hg : GW n g) {l : Nat} (hl : l < 3) : xa_rn xa_ms (d + 3) n_Mo_isSure [.ref 62, .int (nI l)] (hp Y F A) (some (.int (z01 (sure g u l)))) (hp Y F A) := by
  have hn := hg.1.2
  have hres : sure g u l = (List.range n).all (fun s => !(u s) || (List.range n).any (fun t => decide (2 ≤ g s l t))) := by
    unfold sure
    rw [Bool.eq_iff_iff, List.all_eq_true, List.all_eq_true]
    have hin : ∀ s, (List.range 6).any (fun t => decide (2 ≤ g s l t)) = (List.range n).any (fun t => decide (2 ≤ g s l t)) := fun s => any_shrink hn (fun t _ h => ((hg.2 s l t).2 (by simp at h; omega)).2.2)
    constructor
    · intro h s hs
      have := h s (List.mem_range.mpr (Nat.lt_of_lt_of_le (List.mem_range.mp hs) hn))
      rw [hin] at this
      exact this
    · intro h s hs
      rw [hin]
      by_cases hus : u s = true
      · exact h s (List.mem_range.mpr (hun s (List.mem_range.mp hs) hus))
      · simp [hus]
  rw [hres]
  refine rn_in m_Mo_isSure rfl ⟨rfl, rfl⟩ ?_
  show ev _ t_Mo_isSure 0 [.ref 62, .int (nI l), .float 0, .float 0, .float 0, .float 0] [] _ _
  repeat (refine ev_np [4] rfl rfl rfl ?_)
  have key := lp_to (E := fun k q => ∀ v4 v5 : Value, ev (d + 2) t_Mo_isSure 4 [.ref 62, .int (nI l), .int (z01 ((List.range k).all (fun s => !(u s) || (List.range n).any (fun t => decide (2 ≤ g s l t))))), .int (nI k), v4, v5] [] (hp Y F A) q) n (fun k hk q hq => by
    intro v4 v5
    rw [nI_succ, all_B, ← z01_and] at hq
    repeat (refine ev_np [] rfl rfl rfl ?_)
    refine ev_gr rfl (by rfl) (by rfl) ?_
    repeat (refine ev_np [] rfl rfl rfl ?_)
    refine ev_an rfl (by rfl) (j := 7) rfl (by decide) rfl ?_
    rw [hm.1]
    repeat (refine ev_np [] rfl rfl rfl ?_)
    refine ev_ie (nI_ge hk (by omega)) ?_
    repeat (refine ev_np [] rfl rfl rfl ?_)
    refine ev_gi rfl (by rfl) (by rfl) ?_
    repeat (refine ev_np [] rfl rfl rfl ?_)
    rw [hu, sh_bm _ (by omega)]
    have inner : ∀ b0 : Bool, b0 = !(u k) → ev (d + 2) t_Mo_isSure 36 [.ref 62, .int (nI l), .int (z01 ((List.range k).all (fun s => !(u s) || (List.range n).any (fun t => decide (2 ≤ g s l t))))), .int (nI k), .int (z01 b0), .int 0] [] (hp Y F A) q := by
      intro b0 hb0
      have h1 := lp_to (E := fun b q => ev (d + 2) t_Mo_isSure 36 [.ref 62, .int (nI l), .int (z01 ((List.range k).all (fun s => !(u s) || (List.range n).any (fun t => decide (2 ≤ g s l t))))), .int (nI k), .int (z01 (b0 || (List.range b).any (fun t => decide (2 ≤ g k l t)))), .int (nI b)] [] (hp Y F A) q) n (fun b hb q hq => by
        rw [nI_succ, anyB, ← Bool.or_assoc, ← z01_or] at hq
        repeat (refine ev_np [] rfl rfl rfl ?_)
        refine ev_gr rfl (by rfl) (by rfl) ?_
        repeat (refine ev_np [] rfl rfl rfl ?_)
        refine ev_an rfl (by rfl) (j := 7) rfl (by decide) rfl ?_
        rw [hm.1]
        repeat (refine ev_np [] rfl rfl rfl ?_)
        refine ev_ie (nI_ge hb (by omega)) ?_
        repeat (refine ev_np [] rfl rfl rfl ?_)
        refine ev_vc rfl (by rfl) (by rfl) rfl (c_Mo_of d (i := 7) (by decide) hm (by omega) hl (by omega)) ?_
        repeat (refine ev_np [] rfl rfl rfl ?_)
        have hgle := (hg.2 k l b).1
        by_cases e : 2 ≤ g k l b
        · have e2 : g k l b = 2 := by omega
          rw [decide_eq_true e] at hq
          rw [e2]
          refine ev_ie (fun z => z rfl) ?_
          repeat (refine ev_np [36] rfl rfl rfl ?_)
          exact hq
        · rw [decide_eq_false e] at hq
          refine ev_it (fun z => e (by have := (nI_eq (a := g k l b) (b := 2) (by omega) (by omega)).mp z; omega)) ?_
          repeat (refine ev_np [36] rfl rfl rfl ?_)
          exact hq) q (by
        repeat (refine ev_np [] rfl rfl rfl ?_)
        refine ev_gr rfl (by rfl) (by rfl) ?_
        repeat (refine ev_np [] rfl rfl rfl ?_)
        refine ev_an rfl (by rfl) (j := 7) rfl (by decide) rfl ?_
        rw [hm.1]
        repeat (refine ev_np [] rfl rfl rfl ?_)
        refine ev_it (nI_le (Nat.le_refl _) (by omega)) ?_
        repeat (refine ev_np [4] rfl rfl rfl ?_)
        rw [hb0]
        exact hq _ _)
      simp only [List.range_zero, List.any_nil, Bool.or_false] at h1
      exact h1
    cases huk : u k with
    | true =>
      repeat (refine ev_np [36] rfl rfl rfl ?_)
      exact inner false (by rw [huk]; rfl)
    | false =>
      repeat (refine ev_np [36] rfl rfl rfl ?_)
      exact inner true (by rw [huk]; rfl)) (some (.int (z01 ((List.range n).all (fun s => !(u s) || (List.range n).any (fun t => decide (2 ≤ g s l t)))))), hp Y F A) (by
    intro v4 v5
    repeat (refine ev_np [] rfl rfl rfl ?_)
    refine ev_gr rfl (by rfl) (by rfl) ?_
    repeat (refine ev_np [] rfl rfl rfl ?_)
    refine ev_an rfl (by rfl) (j := 7) rfl (by decide) rfl ?_
    rw [hm.1]
    repeat (refine ev_np [] rfl rfl rfl ?_)
    refine ev_it (nI_le (Nat.le_refl _) (by omega)) ?_
    repeat (refine ev_np [] rfl rfl rfl ?_)
    exact ev_rz rfl rfl (z01_b _))
  exact key _ _
theorem c_Mo_ones (f : Nat → Bool) {h : xa_H} : xa_rn xa_ms (d + 1) n_Mo_ones [.int (nI (bm f))] h (some (.int (nI (cnt f 6)))) h := by
  refine rn_in m_Mo_ones rfl ⟨rfl, rfl⟩ ?_
  show ev _ t_Mo_ones 0 [.int (nI (bm f)), .float 0, .float 0] [] _ _
  repeat (refine ev_np [4] rfl rfl rfl ?_)
  refine lp_to (E := fun k q => ev d t_Mo_ones 4 [.int (nI (bm f)), .int (nI (cnt f k)), .int (nI k)] [] h q) 6 (fun k hk q hq => ?_) _ ?_
  · rw [nI_succ] at hq
    repeat (refine ev_np [] rfl rfl rfl ?_)
    refine ev_ie (nI_ge (b := 6) hk (by omega)) ?_
    repeat (refine ev_np [4] rfl rfl rfl ?_)
    have e : nI (cnt f k) + ((nI (bm f) >>> (nI k &&& 31)) &&& 1) = nI (cnt f (k + 1)) := by
      rw [sh_bm _ hk]
      simp only [cnt]
      cases f k
      · simp [z01]
      · simp [z01, nI_1]
    rw [e]
    exact hq
  · repeat (refine ev_np [] rfl rfl rfl ?_)
    exact ev_ri rfl rfl
end WALKM
