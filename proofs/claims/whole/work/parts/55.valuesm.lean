/-! ===== the model: values ===== -/
section VM
variable {Y : Nat × (Nat → Int32)} {F A : Nat → Nat → Int32} {i n : Nat} {g : Nat → Nat → Nat → Nat} (d : Nat)
def sVk (g : Nat → Nat → Nat → Nat) (l : Nat) (v : Nat → Nat) (s k : Nat) : Nat := bif (List.range k).any (fun t => decide (2 ≤ g s l t) && decide (2 ≤ v t)) then 2 else bif (List.range k).any (fun t => decide (1 ≤ g s l t) && decide (1 ≤ v t)) then 1 else 0
def eVk (g : Nat → Nat → Nat → Nat) (l : Nat) (v : Nat → Nat) (s k : Nat) : Nat := bif (List.range k).any (fun t => decide (1 ≤ g s l t) && !(decide (2 ≤ v t))) then (bif (List.range k).any (fun t => decide (2 ≤ g s l t) && !(decide (1 ≤ v t))) then 0 else 1) else 2
theorem sVk_6 (hg : GW n g) (l : Nat) (v : Nat → Nat) (s : Nat) : sVk g l v s n = sV g l v s := by
  unfold sVk sV
  rw [any_shrink (f := fun t => decide (2 ≤ g s l t) && decide (2 ≤ v t)) hg.1.2 (fun t _ h => by
    simp only [Bool.and_eq_true, decide_eq_true_eq] at h
    exact ((hg.2 s l t).2 (by omega)).2.2), any_shrink (f := fun t => decide (1 ≤ g s l t) && decide (1 ≤ v t)) hg.1.2 (fun t _ h => by
    simp only [Bool.and_eq_true, decide_eq_true_eq] at h
    exact ((hg.2 s l t).2 (by omega)).2.2)]
theorem eVk_6 (hg : GW n g) (l : Nat) (v : Nat → Nat) (s : Nat) : eVk g l v s n = eV g l v s := by
  unfold eVk eV
  rw [any_shrink (f := fun t => decide (1 ≤ g s l t) && !(decide (2 ≤ v t))) hg.1.2 (fun t _ h => by
    simp only [Bool.and_eq_true, decide_eq_true_eq] at h
    exact ((hg.2 s l t).2 (by omega)).2.2), any_shrink (f := fun t => decide (2 ≤ g s l t) && !(decide (1 ≤ v t))) hg.1.2 (fun t _ h => by
    simp only [Bool.and_eq_true, decide_eq_true_eq] at h
    exact ((hg.2 s l t).2 (by omega)).2.2)]
theorem sVk_s {l : Nat} {v : Nat → Nat} {s k : Nat} (hg : g s l k ≤ 2) (hv : v k ≤ 2) : sVk g l v s (k + 1) = if g s l k = 0 then sVk g l v s k else max (if g s l k = 1 ∧ 1 < v k then 1 else v k) (sVk g l v s k) := by
  unfold sVk
  rw [anyB, anyB]
  have h1 : g s l k = 0 ∨ g s l k = 1 ∨ g s l k = 2 := by omega
  have h2 : v k = 0 ∨ v k = 1 ∨ v k = 2 := by omega
  rcases h1 with h1 | h1 | h1 <;> rcases h2 with h2 | h2 | h2 <;> rw [h1, h2] <;> cases (List.range k).any (fun t => decide (2 ≤ g s l t) && decide (2 ≤ v t)) <;> cases (List.range k).any (fun t => decide (1 ≤ g s l t) && decide (1 ≤ v t)) <;> rfl
theorem eVk_s {l : Nat} {v : Nat → Nat} {s k : Nat} (hg : g s l k ≤ 2) (hv : v k ≤ 2) : eVk g l v s (k + 1) = if g s l k = 0 then eVk g l v s k else min (if g s l k = 1 ∧ v k < 1 then 1 else v k) (eVk g l v s k) := by
  have hle : (List.range k).any (fun t => decide (2 ≤ g s l t) && !(decide (1 ≤ v t))) = true → (List.range k).any (fun t => decide (1 ≤ g s l t) && !(decide (2 ≤ v t))) = true := fun h => by
    obtain ⟨t, ht, h⟩ := List.any_eq_true.mp h
    simp only [Bool.and_eq_true, decide_eq_true_eq, Bool.not_eq_true', decide_eq_false_iff_not] at h
    exact List.any_eq_true.mpr ⟨t, ht, by simp only [Bool.and_eq_true, decide_eq_true_eq, Bool.not_eq_true', decide_eq_false_iff_not]; omega⟩
  unfold eVk
  rw [anyB, anyB]
  have h1 : g s l k = 0 ∨ g s l k = 1 ∨ g s l k = 2 := by omega
  have h2 : v k = 0 ∨ v k = 1 ∨ v k = 2 := by omega
  cases e1 : (List.range k).any (fun t => decide (1 ≤ g s l t) && !(decide (2 ≤ v t))) <;> cases e2 : (List.range k).any (fun t => decide (2 ≤ g s l t) && !(decide (1 ≤ v t)))
  · rcases h1 with h1 | h1 | h1 <;> rcases h2 with h2 | h2 | h2 <;> rw [h1, h2] <;> rfl
  · have := hle e2
    rw [e1] at this
    cases this
  · rcases h1 with h1 | h1 | h1 <;> rcases h2 with h2 | h2 | h2 <;> rw [h1, h2] <;> rfl
  · rcases h1 with h1 | h1 | h1 <;> rcases h2 with h2 | h2 | h2 <;> rw [h1, h2] <;> rfl
theorem sVk_le (l : Nat) (v : Nat → Nat) (s k : Nat) : sVk g l v s k ≤ 2 := by
  unfold sVk
  cases (List.range k).any (fun t => decide (2 ≤ g s l t) && decide (2 ≤ v t)) <;> cases (List.range k).any (fun t => decide (1 ≤ g s l t) && decide (1 ≤ v t)) <;> simp
theorem eVk_le (l : Nat) (v : Nat → Nat) (s k : Nat) : eVk g l v s k ≤ 2 := by
  unfold eVk
  cases (List.range k).any (fun t => decide (1 ≤ g s l t) && !(decide (2 ≤ v t))) <;> cases (List.range k).any (fun t => decide (2 ≤ g s l t) && !(decide (1 ≤ v t))) <;> simp
theorem c_Mo_goingTo (hi : i < 8) (hm : MP A i n g) (hg : GW n g) {s l fr : Nat} (hs : s < 6) (hl : l < 3) (hfr : fr + 6 ≤ 180) {v : Nat → Nat} (hv : ∀ t, v t ≤ 2) (hA : ∀ t, t < n → A 69 (fr + t) = nI (v t)) (b : Bool) : xa_rn xa_ms (d + 3) n_Mo_goingTo [.ref 62, .int (nI i), .int (nI s), .int (nI l), .int (z01 b), .int (nI fr)] (hp Y F A) (some (.int (nI (bif b then eV g l v s else sV g l v s)))) (hp Y F A) := by
  have hn := hg.1.2
  have hres : (bif b then eV g l v s else sV g l v s) = (bif b then eVk g l v s n else sVk g l v s n) := by rw [eVk_6 hg, sVk_6 hg]
  rw [hres]
  refine rn_in m_Mo_goingTo rfl ⟨rfl, rfl⟩ ?_
  show ev _ t_Mo_goingTo 0 [.ref 62, .int (nI i), .int (nI s), .int (nI l), .int (z01 b), .int (nI fr), .float 0, .float 0, .float 0, .float 0] [] _ _
  have key := lp_to (E := fun k q => ∀ v8 v9 : Value, ev (d + 2) t_Mo_goingTo 15 [.ref 62, .int (nI i), .int (nI s), .int (nI l), .int (z01 b), .int (nI fr), .int (nI (bif b then eVk g l v s k else sVk g l v s k)), .int (nI k), v8, v9] [] (hp Y F A) q) n (fun k hk q hq => by
    intro v8 v9
    rw [nI_succ] at hq
    have hgk := (hg.2 s l k).1
    have hvk := hv k
    have l1 := eVk_le (g := g) l v s k
    have l2 := sVk_le (g := g) l v s k
    rw [eVk_s hgk hvk, sVk_s hgk hvk] at hq
    repeat (first | refine ev_np [] rfl rfl rfl ?_ | refine ev_grs [] rfl rfl (by rfl) (by rfl) ?_)
    refine ev_an rfl (by rfl) rfl hi rfl ?_
    rw [hm.1]
    repeat (refine ev_np [] rfl rfl rfl ?_)
    refine ev_ie (nI_ge hk (by omega)) ?_
    repeat (refine ev_np [] rfl rfl rfl ?_)
    refine ev_vc rfl (by rfl) (by rfl) rfl (c_Mo_of d hi hm hs hl (by omega)) ?_
    repeat (first | refine ev_np [] rfl rfl rfl ?_ | refine ev_grs [] rfl rfl (by rfl) (by rfl) ?_)
    refine ev_an rfl (by rfl) (j := fr + k) (by rw [nI_add]) (by omega) rfl ?_
    rw [hA k hk]
    obtain ⟨x, hx⟩ : ∃ x, x = g s l k := ⟨_, rfl⟩
    obtain ⟨y, hy⟩ : ∃ y, y = v k := ⟨_, rfl⟩
    obtain ⟨a, ha⟩ : ∃ a, a = eVk g l v s k := ⟨_, rfl⟩
    obtain ⟨c, hc⟩ : ∃ c, c = sVk g l v s k := ⟨_, rfl⟩
    rw [← hx, ← hy, ← ha, ← hc] at hq ⊢
    rw [← hx] at hgk
    rw [← hy] at hvk
    rw [← ha] at l1
    rw [← hc] at l2
    have h1 : x = 0 ∨ x = 1 ∨ x = 2 := by omega
    have h2 : y = 0 ∨ y = 1 ∨ y = 2 := by omega
    have h3 : a = 0 ∨ a = 1 ∨ a = 2 := by omega
    have h4 : c = 0 ∨ c = 1 ∨ c = 2 := by omega
    clear hx hy ha hc
    cases b with
    | true =>
      rcases h1 with rfl | rfl | rfl <;> rcases h2 with rfl | rfl | rfl <;> rcases h3 with rfl | rfl | rfl <;> (repeat (refine ev_np [15] rfl rfl rfl ?_)) <;> exact hq _ _
    | false =>
      rcases h1 with rfl | rfl | rfl <;> rcases h2 with rfl | rfl | rfl <;> rcases h4 with rfl | rfl | rfl <;> (repeat (refine ev_np [15] rfl rfl rfl ?_)) <;> exact hq _ _) (some (.int (nI (bif b then eVk g l v s n else sVk g l v s n))), hp Y F A) (by
    intro v8 v9
    repeat (first | refine ev_np [] rfl rfl rfl ?_ | refine ev_grs [] rfl rfl (by rfl) (by rfl) ?_)
    refine ev_an rfl (by rfl) rfl hi rfl ?_
    rw [hm.1]
    repeat (refine ev_np [] rfl rfl rfl ?_)
    refine ev_it (nI_le (Nat.le_refl _) (by omega)) ?_
    repeat (refine ev_np [] rfl rfl rfl ?_)
    exact ev_ri rfl rfl)
  cases b with
  | true =>
    repeat (refine ev_np [15] rfl rfl rfl ?_)
    exact key _ _
  | false =>
    repeat (refine ev_np [15] rfl rfl rfl ?_)
    exact key _ _
end VM
