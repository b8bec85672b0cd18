/-! ===== class Saying: values ===== -/
section SAY
variable {Y : Nat × (Nat → Int32)} {F A : Nat → Nat → Int32} {p n : Nat} {g : Nat → Nat → Nat → Nat} (d : Nat)
theorem c_Saying_someOf (v : Nat → Nat) {h : xa_H} : xa_rn xa_ms (d + 1) n_Saying_someOf [.int (nI (e12 v))] h (some (.int (nI (bm (fun s => decide (1 ≤ v s)))))) h := by
  refine rn_in m_Saying_someOf rfl ⟨rfl, rfl⟩ ?_
  show ev _ t_Saying_someOf 0 [.int (nI (e12 v))] [] _ _
  repeat (refine ev_np [] rfl rfl rfl ?_)
  refine ev_ri rfl ?_
  rw [e12_eq]
  exact (tab2 so_tab (bm_lt _) (bm_lt _)).1
theorem c_Saying_soOf (v : Nat → Nat) {h : xa_H} : xa_rn xa_ms (d + 1) n_Saying_soOf [.int (nI (e12 v))] h (some (.int (nI (bm (fun s => decide (2 ≤ v s)))))) h := by
  refine rn_in m_Saying_soOf rfl ⟨rfl, rfl⟩ ?_
  show ev _ t_Saying_soOf 0 [.int (nI (e12 v))] [] _ _
  repeat (refine ev_np [] rfl rfl rfl ?_)
  refine ev_ri rfl ?_
  rw [e12_eq]
  exact (tab2 so_tab (bm_lt _) (bm_lt _)).2
theorem c_Saying_valuesFrom (v : Nat → Nat) {h : xa_H} : xa_rn xa_ms (d + 1) n_Saying_valuesFrom [.int (nI (bm (fun s => decide (1 ≤ v s)))), .int (nI (bm (fun s => decide (2 ≤ v s))))] h (some (.int (nI (e12 v)))) h := by
  refine rn_in m_Saying_valuesFrom rfl ⟨rfl, rfl⟩ ?_
  show ev _ t_Saying_valuesFrom 0 [.int (nI (bm (fun s => decide (1 ≤ v s)))), .int (nI (bm (fun s => decide (2 ≤ v s))))] [] _ _
  repeat (refine ev_np [] rfl rfl rfl ?_)
  refine ev_ri rfl ?_
  rw [e12_eq]
  exact tab2 vf_tab (bm_lt _) (bm_lt _)
theorem c_Saying_valuesFromN (v : Nat → Nat) (hv : ∀ s, v s ≤ 2) {h : xa_H} : xa_rn xa_ms (d + 1) n_Saying_valuesFrom [.int (nI (bm (fun s => decide (2 ≤ v s))) ^^^ (-1)), .int (nI (bm (fun s => decide (1 ≤ v s))) ^^^ (-1))] h (some (.int (nI (e12 (fun s => 2 - v s))))) h := by
  refine rn_in m_Saying_valuesFrom rfl ⟨rfl, rfl⟩ ?_
  show ev _ t_Saying_valuesFrom 0 [.int (nI (bm (fun s => decide (2 ≤ v s))) ^^^ (-1)), .int (nI (bm (fun s => decide (1 ≤ v s))) ^^^ (-1))] [] _ _
  repeat (refine ev_np [] rfl rfl rfl ?_)
  refine ev_ri rfl ?_
  rw [e12_eq, tab2 vn_tab (bm_lt _) (bm_lt _), bm_not, bm_not]
  rw [bm_congr (f := fun t => !(decide (2 ≤ v t))) (g := fun s => decide (1 ≤ 2 - v s)) (fun t _ => by
    rw [← decide_not]
    exact decide_eq_decide.mpr (by have := hv t; omega))]
  rw [bm_congr (f := fun t => !(decide (1 ≤ v t))) (g := fun s => decide (2 ≤ 2 - v s)) (fun t _ => by
    rw [← decide_not]
    exact decide_eq_decide.mpr (by have := hv t; omega))]
theorem c_Saying_valueOf (v : Nat → Nat) (hv : ∀ s, v s ≤ 2) {s : Nat} (hs : s < 6) {h : xa_H} : xa_rn xa_ms (d + 2) n_Saying_valueOf [.int (nI (e12 v)), .int (nI s)] h (some (.int (nI (v s)))) h := by
  have := hv s
  refine rn_in m_Saying_valueOf rfl ⟨rfl, rfl⟩ ?_
  show ev _ t_Saying_valueOf 0 [.int (nI (e12 v)), .int (nI s)] [] _ _
  repeat (refine ev_np [] rfl rfl rfl ?_)
  refine ev_ca rfl (c_Saying_soOf d v) ?_
  repeat (refine ev_np [] rfl rfl rfl ?_)
  refine ev_ca rfl (c_MM_inSet d) ?_
  rw [bi_bm _ hs]
  by_cases e : 2 ≤ v s
  · rw [decide_eq_true e]
    repeat (refine ev_np [] rfl rfl rfl ?_)
    exact ev_ri rfl (by rw [show v s = 2 by omega]; rfl)
  · rw [decide_eq_false e]
    repeat (refine ev_np [] rfl rfl rfl ?_)
    refine ev_ca rfl (c_Saying_someOf d v) ?_
    repeat (refine ev_np [] rfl rfl rfl ?_)
    refine ev_ca rfl (c_MM_inSet d) ?_
    rw [bi_bm _ hs]
    by_cases e2 : 1 ≤ v s
    · rw [decide_eq_true e2]
      repeat (refine ev_np [] rfl rfl rfl ?_)
      exact ev_ri rfl (by rw [show v s = 1 by omega]; rfl)
    · rw [decide_eq_false e2]
      repeat (refine ev_np [] rfl rfl rfl ?_)
      exact ev_ri rfl (by rw [show v s = 0 by omega]; rfl)
theorem sV1 (l : Nat) (v : Nat → Nat) (s : Nat) : decide (1 ≤ sV g l v s) = (List.range 6).any (fun t => decide (1 ≤ g s l t) && decide (1 ≤ v t)) := by
  unfold sV
  cases h1 : (List.range 6).any (fun t => decide (2 ≤ g s l t) && decide (2 ≤ v t)) with
  | true =>
    obtain ⟨t, ht, h⟩ := List.any_eq_true.mp h1
    simp only [Bool.and_eq_true, decide_eq_true_eq] at h
    have : (List.range 6).any (fun t => decide (1 ≤ g s l t) && decide (1 ≤ v t)) = true := List.any_eq_true.mpr ⟨t, ht, by simp only [Bool.and_eq_true, decide_eq_true_eq]; omega⟩
    rw [this]
    rfl
  | false => cases (List.range 6).any (fun t => decide (1 ≤ g s l t) && decide (1 ≤ v t)) <;> rfl
theorem sV2 (l : Nat) (v : Nat → Nat) (s : Nat) : decide (2 ≤ sV g l v s) = (List.range 6).any (fun t => decide (2 ≤ g s l t) && decide (2 ≤ v t)) := by
  unfold sV
  cases (List.range 6).any (fun t => decide (2 ≤ g s l t) && decide (2 ≤ v t)) <;> cases (List.range 6).any (fun t => decide (1 ≤ g s l t) && decide (1 ≤ v t)) <;> rfl
theorem eV2 (l : Nat) (v : Nat → Nat) (s : Nat) : decide (2 ≤ eV g l v s) = !((List.range 6).any (fun t => decide (1 ≤ g s l t) && !(decide (2 ≤ v t)))) := by
  unfold eV
  cases (List.range 6).any (fun t => decide (1 ≤ g s l t) && !(decide (2 ≤ v t))) <;> cases (List.range 6).any (fun t => decide (2 ≤ g s l t) && !(decide (1 ≤ v t))) <;> rfl
theorem eV1 (l : Nat) (v : Nat → Nat) (s : Nat) : decide (1 ≤ eV g l v s) = !((List.range 6).any (fun t => decide (2 ≤ g s l t) && !(decide (1 ≤ v t)))) := by
  unfold eV
  cases h1 : (List.range 6).any (fun t => decide (2 ≤ g s l t) && !(decide (1 ≤ v t))) with
  | true =>
    obtain ⟨t, ht, h⟩ := List.any_eq_true.mp h1
    simp only [Bool.and_eq_true, decide_eq_true_eq, Bool.not_eq_true', decide_eq_false_iff_not] at h
    have : (List.range 6).any (fun t => decide (1 ≤ g s l t) && !(decide (2 ≤ v t))) = true := List.any_eq_true.mpr ⟨t, ht, by simp only [Bool.and_eq_true, decide_eq_true_eq, Bool.not_eq_true', decide_eq_false_iff_not]; omega⟩
    rw [this]
    rfl
  | false => cases (List.range 6).any (fun t => decide (1 ≤ g s l t) && !(decide (2 ≤ v t))) <;> rfl
/-- by states that there are -/
def inN (n : Nat) (f : Nat → Nat) : Nat → Nat := fun s => if s < n then f s else 0
theorem inN_d {n m : Nat} (hm : 1 ≤ m) (f : Nat → Nat) (s : Nat) : decide (m ≤ inN n f s) = (decide (s < n) && decide (m ≤ f s)) := by
  unfold inN
  by_cases h : s < n
  · simp [h]
  · rw [if_neg h, decide_eq_false h, Bool.false_and]
    exact decide_eq_false (by omega)
theorem c_Saying_overSome (hp0 : PL p) (hc : CP F A p n g) (hn : n ≤ 6) {l : Nat} (hl : l < 3) (v : Nat → Nat) : xa_rn xa_ms (d + 3) n_Saying_overSome [.int (nI l), .int (nI (e12 v)), .ref p] (hp Y F A) (some (.int (nI (e12 (inN n (sV g l v)))))) (hp Y F A) := by
  have t1 := bm_congr (fun s _ => inN_d (n := n) (show 1 ≤ 1 by decide) (sV g l v) s)
  have t2 := bm_congr (fun s _ => inN_d (n := n) (show 1 ≤ 2 by decide) (sV g l v) s)
  refine rn_in m_Saying_overSome rfl ⟨rfl, rfl⟩ ?_
  show ev _ t_Saying_overSome 0 [.int (nI l), .int (nI (e12 v)), .ref p, .float 0, .float 0, .float 0] [] _ _
  repeat (refine ev_np [8] rfl rfl rfl ?_)
  refine lp_to (E := fun k q => ev (d + 2) t_Saying_overSome 8 [.int (nI l), .int (nI (e12 v)), .ref p, .int (nI (bm (fun s => decide (s < k) && decide (1 ≤ sV g l v s)))), .int (nI (bm (fun s => decide (s < k) && decide (2 ≤ sV g l v s)))), .int (nI k)] [] (hp Y F A) q) n (fun k hk q hq => ?_) _ ?_
  · rw [nI_succ] at hq
    have second : ∀ a : Int32, a = nI (bm (fun s => decide (s < k + 1) && decide (1 ≤ sV g l v s))) → ev (d + 2) t_Saying_overSome 39 [.int (nI l), .int (nI (e12 v)), .ref p, .int a, .int (nI (bm (fun s => decide (s < k) && decide (2 ≤ sV g l v s)))), .int (nI k)] [] (hp Y F A) q := by
      intro a ha
      rw [ha]
      repeat (refine ev_np [] rfl rfl rfl ?_)
      refine ev_vc rfl (by rfl) hp0.1 rfl (c_Plan_mustFrom d hp0 (by omega) hl) ?_
      rw [(hc.2 k l (by omega) hl).2]
      repeat (refine ev_np [] rfl rfl rfl ?_)
      refine ev_ca rfl (c_Saying_soOf (d + 1) v) ?_
      repeat (refine ev_np [] rfl rfl rfl ?_)
      rw [and_bm]
      have e0 := sV2 (g := g) l v k
      cases h : (List.range 6).any (fun t => decide (2 ≤ g k l t) && decide (2 ≤ v t)) with
      | true =>
        rw [h] at e0
        refine ev_ie (fun z => ?_) ?_
        · have := (any6 _).mp (bm_eq0.mpr (nI_bm0.mp z))
          rw [h] at this
          cases this
        repeat (refine ev_np [8] rfl rfl rfl ?_)
        rw [orb_bm _ (by omega)]
        rw [bm_congr (f := fun s => decide (s < k + 1) && decide (2 ≤ sV g l v s)) (g := fun s => (decide (s < k) && decide (2 ≤ sV g l v s)) || s == k) (fun s _ => by
          by_cases h1 : s = k
          · subst h1; rw [e0]; simp
          · rw [dlt h1]; simp [h1])] at hq
        exact hq
      | false =>
        rw [h] at e0
        refine ev_it ?_ ?_
        · rw [(any6 _).mpr h]; exact nI_0
        repeat (refine ev_np [8] rfl rfl rfl ?_)
        rw [bm_congr (f := fun s => decide (s < k + 1) && decide (2 ≤ sV g l v s)) (g := fun s => decide (s < k) && decide (2 ≤ sV g l v s)) (fun s _ => by
          by_cases h1 : s = k
          · subst h1; rw [e0]; simp
          · rw [dlt h1])] at hq
        exact hq
    repeat (refine ev_np [] rfl rfl rfl ?_)
    refine ev_vc rfl (by rfl) hp0.1 rfl (c_Plan_size (d + 1) hp0) ?_
    rw [hc.1]
    repeat (refine ev_np [] rfl rfl rfl ?_)
    refine ev_ie (nI_ge hk (by omega)) ?_
    repeat (refine ev_np [] rfl rfl rfl ?_)
    refine ev_vc rfl (by rfl) hp0.1 rfl (c_Plan_anyFrom d hp0 (by omega) hl) ?_
    rw [(hc.2 k l (by omega) hl).1]
    repeat (refine ev_np [] rfl rfl rfl ?_)
    refine ev_ca rfl (c_Saying_someOf (d + 1) v) ?_
    repeat (refine ev_np [] rfl rfl rfl ?_)
    rw [and_bm]
    have e0 := sV1 (g := g) l v k
    cases h : (List.range 6).any (fun t => decide (1 ≤ g k l t) && decide (1 ≤ v t)) with
    | true =>
      rw [h] at e0
      refine ev_ie (fun z => ?_) ?_
      · have := (any6 _).mp (bm_eq0.mpr (nI_bm0.mp z))
        rw [h] at this
        cases this
      repeat (refine ev_np [39] rfl rfl rfl ?_)
      refine second _ ?_
      rw [orb_bm _ (by omega)]
      refine congrArg nI (bm_congr (fun s _ => ?_))
      by_cases h1 : s = k
      · subst h1; rw [e0]; simp
      · rw [dlt h1]; simp [h1]
    | false =>
      rw [h] at e0
      refine ev_it ?_ ?_
      · rw [(any6 _).mpr h]; exact nI_0
      refine second _ ?_
      refine congrArg nI (bm_congr (fun s _ => ?_))
      by_cases h1 : s = k
      · subst h1; rw [e0]; simp
      · rw [dlt h1]
  · repeat (refine ev_np [] rfl rfl rfl ?_)
    refine ev_vc rfl (by rfl) hp0.1 rfl (c_Plan_size (d + 1) hp0) ?_
    rw [hc.1]
    repeat (refine ev_np [] rfl rfl rfl ?_)
    refine ev_it (nI_le (Nat.le_refl _) (by omega)) ?_
    repeat (refine ev_np [] rfl rfl rfl ?_)
    rw [← t1, ← t2]
    refine ev_ca rfl (c_Saying_valuesFrom (d + 1) (inN n (sV g l v))) ?_
    exact ev_ri rfl rfl
theorem c_Saying_overEach (hp0 : PL p) (hc : CP F A p n g) (hn : n ≤ 6) {l : Nat} (hl : l < 3) (v : Nat → Nat) : xa_rn xa_ms (d + 3) n_Saying_overEach [.int (nI l), .int (nI (e12 v)), .ref p] (hp Y F A) (some (.int (nI (e12 (inN n (eV g l v)))))) (hp Y F A) := by
  have t1 := bm_congr (fun s _ => inN_d (n := n) (show 1 ≤ 1 by decide) (eV g l v) s)
  have t2 := bm_congr (fun s _ => inN_d (n := n) (show 1 ≤ 2 by decide) (eV g l v) s)
  refine rn_in m_Saying_overEach rfl ⟨rfl, rfl⟩ ?_
  show ev _ t_Saying_overEach 0 [.int (nI l), .int (nI (e12 v)), .ref p, .float 0, .float 0, .float 0] [] _ _
  repeat (refine ev_np [8] rfl rfl rfl ?_)
  refine lp_to (E := fun k q => ev (d + 2) t_Saying_overEach 8 [.int (nI l), .int (nI (e12 v)), .ref p, .int (nI (bm (fun s => decide (s < k) && decide (1 ≤ eV g l v s)))), .int (nI (bm (fun s => decide (s < k) && decide (2 ≤ eV g l v s)))), .int (nI k)] [] (hp Y F A) q) n (fun k hk q hq => ?_) _ ?_
  · rw [nI_succ] at hq
    have second : ∀ a : Int32, a = nI (bm (fun s => decide (s < k + 1) && decide (1 ≤ eV g l v s))) → ev (d + 2) t_Saying_overEach 41 [.int (nI l), .int (nI (e12 v)), .ref p, .int a, .int (nI (bm (fun s => decide (s < k) && decide (2 ≤ eV g l v s)))), .int (nI k)] [] (hp Y F A) q := by
      intro a ha
      rw [ha]
      repeat (refine ev_np [] rfl rfl rfl ?_)
      refine ev_vc rfl (by rfl) hp0.1 rfl (c_Plan_anyFrom d hp0 (by omega) hl) ?_
      rw [(hc.2 k l (by omega) hl).1]
      repeat (refine ev_np [] rfl rfl rfl ?_)
      refine ev_ca rfl (c_Saying_soOf (d + 1) v) ?_
      repeat (refine ev_np [] rfl rfl rfl ?_)
      rw [andn_bm]
      have e0 := eV2 (g := g) l v k
      cases h : (List.range 6).any (fun t => decide (1 ≤ g k l t) && !(decide (2 ≤ v t))) with
      | true =>
        rw [h] at e0
        refine ev_it (fun z => ?_) ?_
        · have := (any6 _).mp (bm_eq0.mpr (nI_bm0.mp z))
          rw [h] at this
          cases this
        repeat (refine ev_np [8] rfl rfl rfl ?_)
        rw [bm_congr (f := fun s => decide (s < k + 1) && decide (2 ≤ eV g l v s)) (g := fun s => decide (s < k) && decide (2 ≤ eV g l v s)) (fun s _ => by
          by_cases h1 : s = k
          · subst h1; rw [e0]; simp
          · rw [dlt h1])] at hq
        exact hq
      | false =>
        rw [h] at e0
        refine ev_ie (fun z => z ?_) ?_
        · rw [(any6 _).mpr h]; exact nI_0
        repeat (refine ev_np [8] rfl rfl rfl ?_)
        rw [orb_bm _ (by omega)]
        rw [bm_congr (f := fun s => decide (s < k + 1) && decide (2 ≤ eV g l v s)) (g := fun s => (decide (s < k) && decide (2 ≤ eV g l v s)) || s == k) (fun s _ => by
          by_cases h1 : s = k
          · subst h1; rw [e0]; simp
          · rw [dlt h1]; simp [h1])] at hq
        exact hq
    repeat (refine ev_np [] rfl rfl rfl ?_)
    refine ev_vc rfl (by rfl) hp0.1 rfl (c_Plan_size (d + 1) hp0) ?_
    rw [hc.1]
    repeat (refine ev_np [] rfl rfl rfl ?_)
    refine ev_ie (nI_ge hk (by omega)) ?_
    repeat (refine ev_np [] rfl rfl rfl ?_)
    refine ev_vc rfl (by rfl) hp0.1 rfl (c_Plan_mustFrom d hp0 (by omega) hl) ?_
    rw [(hc.2 k l (by omega) hl).2]
    repeat (refine ev_np [] rfl rfl rfl ?_)
    refine ev_ca rfl (c_Saying_someOf (d + 1) v) ?_
    repeat (refine ev_np [] rfl rfl rfl ?_)
    rw [andn_bm]
    have e0 := eV1 (g := g) l v k
    cases h : (List.range 6).any (fun t => decide (2 ≤ g k l t) && !(decide (1 ≤ v t))) with
    | true =>
      rw [h] at e0
      refine ev_it (fun z => ?_) ?_
      · have := (any6 _).mp (bm_eq0.mpr (nI_bm0.mp z))
        rw [h] at this
        cases this
      refine second _ ?_
      refine congrArg nI (bm_congr (fun s _ => ?_))
      by_cases h1 : s = k
      · subst h1; rw [e0]; simp
      · rw [dlt h1]
    | false =>
      rw [h] at e0
      refine ev_ie (fun z => z ?_) ?_
      · rw [(any6 _).mpr h]; exact nI_0
      repeat (refine ev_np [41] rfl rfl rfl ?_)
      refine second _ ?_
      rw [orb_bm _ (by omega)]
      refine congrArg nI (bm_congr (fun s _ => ?_))
      by_cases h1 : s = k
      · subst h1; rw [e0]; simp
      · rw [dlt h1]; simp [h1]
  · repeat (refine ev_np [] rfl rfl rfl ?_)
    refine ev_vc rfl (by rfl) hp0.1 rfl (c_Plan_size (d + 1) hp0) ?_
    rw [hc.1]
    repeat (refine ev_np [] rfl rfl rfl ?_)
    refine ev_it (nI_le (Nat.le_refl _) (by omega)) ?_
    repeat (refine ev_np [] rfl rfl rfl ?_)
    rw [← t1, ← t2]
    refine ev_ca rfl (c_Saying_valuesFrom (d + 1) (inN n (eV g l v))) ?_
    exact ev_ri rfl rfl
end SAY
