/-! ===== the model's smalls ===== -/
section DV
variable {d : Nat} {tb : List xa_I} {pc : Nat} {ls r : List Value} {q : xa_R} {h : xa_H}
theorem ev_dv {len a b : Nat} {l : List Nat} {cv : Int32} (hi : xa_lk tb pc = some (.idiv, len, l, cv)) (ha : a < 2 ^ 31) (h0 : 0 < b) (hb : b < 2 ^ 31) (kk : ev d tb (pc + len) ls (.int (nI (a / b)) :: r) h q) : ev d tb pc ls (.int (nI b) :: .int (nI a) :: r) h q := by
  refine ev_nx (?_ : xa_one tb pc ls (.int (nI b) :: .int (nI a) :: r) h = some (.inl (pc + len, ls, .int (nI (a / b)) :: r, h))) kk
  unfold xa_one
  rw [hi]
  show (match (if nI b = 0 then none else some (Value.int (nI a / nI b) :: r)) with
    | some st' => xa_nx (pc + len) ls st' h
    | none => none) = _
  rw [if_neg (nI_ne0 h0 hb), pk_div ha h0 hb]
  rfl
theorem ev_rm {len a b : Nat} {l : List Nat} {cv : Int32} (hi : xa_lk tb pc = some (.irem, len, l, cv)) (ha : a < 2 ^ 31) (h0 : 0 < b) (hb : b < 2 ^ 31) (kk : ev d tb (pc + len) ls (.int (nI (a % b)) :: r) h q) : ev d tb pc ls (.int (nI b) :: .int (nI a) :: r) h q := by
  refine ev_nx (?_ : xa_one tb pc ls (.int (nI b) :: .int (nI a) :: r) h = some (.inl (pc + len, ls, .int (nI (a % b)) :: r, h))) kk
  unfold xa_one
  rw [hi]
  show (match (if nI b = 0 then none else some (Value.int (nI a - nI a / nI b * nI b) :: r)) with
    | some st' => xa_nx (pc + len) ls st' h
    | none => none) = _
  rw [if_neg (nI_ne0 h0 hb), pk_rem ha h0 hb]
  rfl
end DV
section SMA
variable {Y : Nat × (Nat → Int32)} {F A : Nat → Nat → Int32} {n : Nat} {g : Nat → Nat → Nat → Nat} (d : Nat)
theorem c_Mo_empties {i : Nat} (hi : i < 8) (N : Nat) : ∃ A', xa_rn xa_ms (d + 1) n_Mo_empties [.ref 62, .int (nI i), .int (nI N)] (hp Y F A) none (hp Y F A') ∧ sA [63, 64] A A' ∧ MP A' i N (fun _ _ _ => 0) ∧ (∀ i' n' g', i' < 8 → i' ≠ i → MP A i' n' g' → MP A' i' n' g') := by
  have hix : ∀ (a k : Nat), 108 * nI a + nI k = nI (108 * a + k) := fun a k => by rw [show (108 : Int32) = nI 108 from rfl, pk_mul, nI_add]
  obtain ⟨A1, ⟨h1, h2⟩, h3⟩ := lp_ex (α := Nat → Nat → Int32) (fun k B => sA [63] A B ∧ ∀ z, B 63 z = if 108 * i ≤ z ∧ z < 108 * i + k then 0 else A 63 z) (fun k B q => ev d t_Mo_empties 2 [.ref 62, .int (nI i), .int (nI N), .int (nI k)] [] (hp Y F B) q) 108 (fun k B hk hI => by
    obtain ⟨hs, hz⟩ := hI
    refine ⟨va_up B 63 (upd (B 63) (108 * i + k) 0), ⟨hs.tr (sA.up (by decide)), fun z => ?_⟩, fun q hq => ?_⟩
    · rw [va_up_s]
      unfold upd
      by_cases e : z = 108 * i + k
      · rw [if_pos e, if_pos (by omega)]
      · rw [if_neg e, hz]
        by_cases e2 : 108 * i ≤ z ∧ z < 108 * i + k
        · rw [if_pos e2, if_pos (by omega)]
        · rw [if_neg e2, if_neg (by omega)]
    · repeat (refine ev_np [] rfl rfl rfl ?_)
      refine ev_ie (nI_ge (b := 108) hk (by omega)) ?_
      repeat (first | refine ev_np [] rfl rfl rfl ?_ | refine ev_grs [] rfl rfl (by rfl) (by rfl) ?_)
      refine ev_am rfl (by rfl) (hix i k) (by omega) rfl ?_
      repeat (refine ev_np [2] rfl rfl rfl ?_)
      rw [nI_succ] at hq
      exact hq) 108 0 A rfl ⟨sA.rf, fun z => by rw [if_neg (by omega)]⟩
  have h64 : A1 64 = A 64 := h1 64 (by decide)
  obtain ⟨A2, hA2⟩ : ∃ A2, A2 = va_up A1 64 (upd (A1 64) i (nI N)) := ⟨_, rfl⟩
  have e63 : A2 63 = A1 63 := by rw [hA2]; exact va_up_n _ _ (by decide)
  have e64 : ∀ z, A2 64 z = if z = i then nI N else A 64 z := fun z => by
    rw [hA2, va_up_s, h64]
    rfl
  refine ⟨A2, ?_, (h1.mono (by decide)).tr (by rw [hA2]; exact sA.up (by decide)), ⟨by rw [e64, if_pos rfl], fun s l t hs hl ht => ?_⟩, fun i' n' g' hi' hne hm' => ⟨by rw [e64, if_neg hne]; exact hm'.1, fun s l t hs hl ht => ?_⟩⟩
  · refine rn_in m_Mo_empties rfl ⟨rfl, rfl⟩ ?_
    show ev _ t_Mo_empties 0 [.ref 62, .int (nI i), .int (nI N), .float 0] [] _ _
    repeat (refine ev_np [2] rfl rfl rfl ?_)
    refine h3 _ ?_
    repeat (first | refine ev_np [] rfl rfl rfl ?_ | refine ev_grs [] rfl rfl (by rfl) (by rfl) ?_)
    refine ev_am rfl (by rfl) rfl hi rfl ?_
    rw [← hA2]
    exact ev_rv rfl
  · rw [e63, h2, if_pos (by omega)]
    rfl
  · rw [e63, h2, if_neg (by omega)]
    exact hm'.2 s l t hs hl ht
theorem nxt_k (hg : GW n g) (ls : Nat → Nat) (s t : Nat) : (List.range (3 * n)).any (fun k => decide (1 ≤ g s (k / n) (k % n)) && (t == ls (k % n))) = nxt g ls s t := by
  have hn := hg.1
  unfold nxt
  rw [Bool.eq_iff_iff, List.any_eq_true, List.any_eq_true]
  constructor
  · rintro ⟨k, hk, h⟩
    have hk := List.mem_range.mp hk
    have h1 : k % n < n := Nat.mod_lt _ (by omega)
    refine ⟨k / n, List.mem_range.mpr (Nat.div_lt_of_lt_mul (by rw [Nat.mul_comm]; exact hk)), List.any_eq_true.mpr ⟨k % n, List.mem_range.mpr (by omega), h⟩⟩
  · rintro ⟨l, hl, h⟩
    obtain ⟨t', ht', h⟩ := List.any_eq_true.mp h
    have hl := List.mem_range.mp hl
    have h2 := h
    simp only [Bool.and_eq_true, decide_eq_true_eq] at h2
    have ht : t' < n := ((hg.2 s l t').2 (by omega)).2.2
    have e1 : (n * l + t') / n = l := by rw [Nat.mul_add_div (by omega), Nat.div_eq_of_lt ht]; rfl
    have e2 : (n * l + t') % n = t' := by rw [Nat.mul_add_mod, Nat.mod_eq_of_lt ht]
    refine ⟨n * l + t', List.mem_range.mpr ?_, by rw [e1, e2]; exact h⟩
    have : n * l ≤ n * 2 := Nat.mul_le_mul_left n (by omega)
    omega
theorem ix6 (s t : Nat) : 6 * nI s + nI t = nI (6 * s + t) := by rw [show (6 : Int32) = nI 6 from rfl, pk_mul, nI_add]
/-- the queue: of each state the least that is one with it -/
theorem c_Mo_least {i : Nat} (hn : n ≤ 6) {w : Nat → Nat} (hw : WE A 70 w) (hwl : ∀ k, w k < 1000) : ∃ A', sA [71] A A' ∧ (∀ s, s < n → A' 71 s = nI (lst n w s)) ∧ ∀ q, (∀ v3 v4 v5 v6 v7 v8 v9 v10 : Value, ev (d + 1) t_Mo_smalls 96 [.ref 62, .int (nI i), .int (nI n), v3, v4, v5, v6, v7, v8, v9, v10] [] (hp Y F A') q) → ∀ v4 v5 v6 v7 v8 v9 v10 : Value, ev (d + 1) t_Mo_smalls 15 [.ref 62, .int (nI i), .int (nI n), .int 0, v4, v5, v6, v7, v8, v9, v10] [] (hp Y F A) q := by
  obtain ⟨A1, ⟨i1, i2⟩, h3⟩ := lp_ex (α := Nat → Nat → Int32) (fun s B => sA [71] A B ∧ ∀ k, k < s → B 71 k = nI (lst n w k)) (fun s B q => ∀ v4 v5 v6 v7 v8 v9 v10 : Value, ev (d + 1) t_Mo_smalls 15 [.ref 62, .int (nI i), .int (nI n), .int (nI s), v4, v5, v6, v7, v8, v9, v10] [] (hp Y F B) q) n (fun s B hs hI => by
    obtain ⟨i1, i2⟩ := hI
    obtain ⟨B1, ⟨j1, j2, j3⟩, h3⟩ := lp_ex (α := Nat → Nat → Int32) (fun j C => sA [71] A C ∧ (∀ k, k < s → C 71 k = nI (lst n w k)) ∧ C 71 s = nI (lf w s j)) (fun j C q => ∀ v5 v6 v7 v8 v9 v10 : Value, ev (d + 1) t_Mo_smalls 32 [.ref 62, .int (nI i), .int (nI n), .int (nI s), .int (kv s j), v5, v6, v7, v8, v9, v10] [] (hp Y F C) q) s (fun j C hj hI => by
      obtain ⟨j1, j2, j3⟩ := hI
      have hwC : WE C 70 w := fun k hk => by rw [j1 70 (by decide)]; exact hw k hk
      have l1 := hwl (6 * s + (s - 1 - j))
      have l2 := hwl (6 * (s - 1 - j) + s)
      refine ⟨va_up C 71 (upd (C 71) s (nI (lf w s (j + 1)))), ⟨j1.tr (sA.up (by decide)), fun k hk => ?_, ?_⟩, fun q hq v5 v6 v7 v8 v9 v10 => ?_⟩
      · rw [va_up_s, pk_un (by omega)]
        exact j2 k hk
      · rw [va_up_s, pk_us]
      · rw [← kv_s hj, kv_lt hj] at hq
        rw [kv_lt hj]
        repeat (refine ev_np [] rfl rfl rfl ?_)
        refine ev_ie (nI_pos (by omega)) ?_
        repeat (first | refine ev_np [] rfl rfl rfl ?_ | refine ev_grs [] rfl rfl (by rfl) (by rfl) ?_)
        refine ev_an rfl (by rfl) (ix6 s (s - 1 - j)) (by omega) rfl ?_
        rw [hwC _ (by omega)]
        have lst2 : ev (d + 1) t_Mo_smalls 77 [.ref 62, .int (nI i), .int (nI n), .int (nI s), .int (nI (s - 1 - j)), v5, v6, v7, v8, v9, v10] [.int (nI s), .ref 71] (hp Y F C) q ∨ one w s (s - 1 - j) = true := by
          cases ho : one w s (s - 1 - j) with
          | true => exact Or.inr rfl
          | false =>
            left
            repeat (first | refine ev_np [] rfl rfl rfl ?_ | refine ev_grs [] rfl rfl (by rfl) (by rfl) ?_)
            refine ev_an rfl (by rfl) rfl (by omega) rfl ?_
            refine ev_am rfl (by rfl) rfl (by omega) rfl ?_
            repeat (refine ev_np [32] rfl rfl rfl ?_)
            rw [j3]
            rw [show lf w s (j + 1) = lf w s j by simp only [lf, ho, cond_false]] at hq
            exact hq _ _ _ _ _ _
        by_cases e1 : w (6 * s + (s - 1 - j)) = 0
        · rw [e1]
          repeat (first | refine ev_np [] rfl rfl rfl ?_ | refine ev_grs [] rfl rfl (by rfl) (by rfl) ?_)
          refine ev_an rfl (by rfl) (ix6 (s - 1 - j) s) (by omega) rfl ?_
          rw [hwC _ (by omega)]
          by_cases e2 : w (6 * (s - 1 - j) + s) = 0
          · rw [e2]
            repeat (refine ev_np [] rfl rfl rfl ?_)
            refine ev_am rfl (by rfl) rfl (by omega) rfl ?_
            repeat (refine ev_np [32] rfl rfl rfl ?_)
            rw [show lf w s (j + 1) = s - 1 - j by simp only [lf, show one w s (s - 1 - j) = true by simp [one, e1, e2], cond_true]] at hq
            exact hq _ _ _ _ _ _
          · repeat (refine ev_np [] rfl rfl rfl ?_)
            refine ev_it (nI_ne0 (by omega) (by omega)) ?_
            exact lst2.resolve_right (by simp [one, e2])
        · repeat (refine ev_np [] rfl rfl rfl ?_)
          refine ev_it (nI_ne0 (by omega) (by omega)) ?_
          exact lst2.resolve_right (by simp [one, e1])) s 0 (va_up B 71 (upd (B 71) s (nI s))) (Nat.zero_add s) ⟨i1.tr (sA.up (by decide)), fun k hk => by rw [va_up_s, pk_un (by omega)]; exact i2 k hk, by rw [va_up_s, pk_us]; rfl⟩
    refine ⟨B1, ⟨j1, fun k hk => ?_⟩, fun q hq v4 v5 v6 v7 v8 v9 v10 => ?_⟩
    · by_cases e : k = s
      · subst e
        rw [j3, lst, if_pos hs]
      · exact j2 k (by omega)
    · repeat (refine ev_np [] rfl rfl rfl ?_)
      refine ev_ie (nI_ge hs (by omega)) ?_
      repeat (first | refine ev_np [] rfl rfl rfl ?_ | refine ev_grs [] rfl rfl (by rfl) (by rfl) ?_)
      refine ev_am rfl (by rfl) rfl (by omega) rfl ?_
      repeat (refine ev_np [32] rfl rfl rfl ?_)
      rw [kv_00]
      refine h3 q (fun v5 v6 v7 v8 v9 v10 => ?_) _ _ _ _ _ _
      rw [kv_end]
      rw [nI_succ] at hq
      repeat (refine ev_np [15] rfl rfl rfl ?_)
      exact hq _ _ _ _ _ _ _) n 0 A (Nat.zero_add n) ⟨sA.rf, fun k hk => by omega⟩
  refine ⟨A1, i1, i2, fun q hq v4 v5 v6 v7 v8 v9 v10 => h3 q (fun v4 v5 v6 v7 v8 v9 v10 => ?_) v4 v5 v6 v7 v8 v9 v10⟩
  repeat (refine ev_np [] rfl rfl rfl ?_)
  refine ev_it (nI_le (Nat.le_refl _) (by omega)) ?_
  exact hq _ _ _ _ _ _ _ _
/-- what is reached -/
theorem c_Mo_reach {i : Nat} (hi : i < 8) (hm : MP A i n g) (hg : GW n g) {ls : Nat → Nat} (hl : ∀ t, ls t ≤ t) (h71 : ∀ t, t < n → A 71 t = nI (ls t)) : ∀ q, (∀ (x4 : Int32) (v5 v6 v7 v8 v9 v10 : Value), ev (d + 2) t_Mo_smalls 191 [.ref 62, .int (nI i), .int (nI n), .int (nI (bm (rch g ls n 6))), .int x4, v5, v6, v7, v8, v9, v10] [] (hp Y F A) q) → ∀ v3 v4 v5 v6 v7 v8 v9 v10 : Value, ev (d + 2) t_Mo_smalls 96 [.ref 62, .int (nI i), .int (nI n), v3, v4, v5, v6, v7, v8, v9, v10] [] (hp Y F A) q := by
  intro q hend v3 v4 v5 v6 v7 v8 v9 v10
  have hn := hg.1
  have h3n : 3 * nI n = nI (3 * n) := by rw [show (3 : Int32) = nI 3 from rfl, pk_mul]
  -- one turn
  have turn : ∀ m, (∀ v5 v6 v7 v8 v9 v10 : Value, ev (d + 2) t_Mo_smalls 101 [.ref 62, .int (nI i), .int (nI n), .int (nI (bm (rch g ls n (m + 1)))), .int (nI (bm (rch g ls n m))), v5, v6, v7, v8, v9, v10] [] (hp Y F A) q) → ∀ v4 v5 v6 v7 v8 v9 v10 : Value, ev (d + 2) t_Mo_smalls 107 [.ref 62, .int (nI i), .int (nI n), .int (nI (bm (rch g ls n m))), v4, v5, v6, v7, v8, v9, v10] [] (hp Y F A) q := by
    intro m hq v4 v5 v6 v7 v8 v9 v10
    repeat (refine ev_np [113] rfl rfl rfl ?_)
    have key := lp_to (E := fun s q => ∀ v6 v7 v8 v9 v10 : Value, ev (d + 2) t_Mo_smalls 113 [.ref 62, .int (nI i), .int (nI n), .int (nI (bm (trn g ls s (rch g ls n m)))), .int (nI (bm (rch g ls n m))), .int (nI s), v6, v7, v8, v9, v10] [] (hp Y F A) q) n (fun s hs q hq => by
      intro v6 v7 v8 v9 v10
      rw [nI_succ] at hq
      have e : ∀ t, trn g ls (s + 1) (rch g ls n m) t = (trn g ls s (rch g ls n m) t || (trn g ls s (rch g ls n m) s && nxt g ls s t)) := fun t => rfl
      obtain ⟨U, hU⟩ : ∃ U, U = trn g ls s (rch g ls n m) := ⟨_, rfl⟩
      rw [← hU] at e ⊢
      repeat (refine ev_np [] rfl rfl rfl ?_)
      refine ev_ie (nI_ge hs (by omega)) ?_
      repeat (refine ev_np [122] rfl rfl rfl ?_)
      cases hus : U s with
      | false =>
        repeat (refine ev_np [] rfl rfl rfl ?_)
        rw [h3n]
        refine ev_ie (nI_ge (a := 0) (by omega) (by omega)) ?_
        repeat (refine ev_np [] rfl rfl rfl ?_)
        rw [sh_bm _ (by omega), hus]
        repeat (refine ev_np [113] rfl rfl rfl ?_)
        rw [bm_congr (f := trn g ls (s + 1) (rch g ls n m)) (g := U) (fun t _ => by rw [e, hus, Bool.false_and, Bool.or_false])] at hq
        exact hq _ _ _ _ _
      | true =>
        have h1 := lp_to (E := fun k q => ∀ v7 v8 v9 v10 : Value, ev (d + 2) t_Mo_smalls 122 [.ref 62, .int (nI i), .int (nI n), .int (nI (bm (fun t => U t || (List.range k).any (fun k => decide (1 ≤ g s (k / n) (k % n)) && (t == ls (k % n)))))), .int (nI (bm (rch g ls n m))), .int (nI s), .int (nI k), v7, v8, v9, v10] [] (hp Y F A) q) (3 * n) (fun k hk q hq => by
          intro v7 v8 v9 v10
          have hk3 : k / n < 3 := Nat.div_lt_of_lt_mul (by rw [Nat.mul_comm]; exact hk)
          have hkn : k % n < n := Nat.mod_lt _ (by omega)
          have hlk := hl (k % n)
          rw [nI_succ] at hq
          repeat (refine ev_np [] rfl rfl rfl ?_)
          rw [h3n]
          refine ev_ie (nI_ge hk (by omega)) ?_
          repeat (refine ev_np [] rfl rfl rfl ?_)
          rw [sh_bm _ (by omega), hus, Bool.true_or]
          repeat (refine ev_np [] rfl rfl rfl ?_)
          refine ev_dv rfl (by omega) (by omega) (by omega) ?_
          repeat (refine ev_np [] rfl rfl rfl ?_)
          refine ev_rm rfl (by omega) (by omega) (by omega) ?_
          refine ev_vc rfl (by rfl) (by rfl) rfl (c_Mo_of d hi hm (by omega) hk3 (by omega)) ?_
          repeat (refine ev_np [] rfl rfl rfl ?_)
          have hle := (hg.2 s (k / n) (k % n)).1
          by_cases e1 : 1 ≤ g s (k / n) (k % n)
          · refine ev_ie (nI_nle (by omega) (by omega)) ?_
            repeat (first | refine ev_np [] rfl rfl rfl ?_ | refine ev_grs [] rfl rfl (by rfl) (by rfl) ?_)
            refine ev_rm rfl (by omega) (by omega) (by omega) ?_
            refine ev_an rfl (by rfl) rfl (by omega) rfl ?_
            rw [h71 _ hkn]
            repeat (refine ev_np [122] rfl rfl rfl ?_)
            rw [orb_bm _ (by omega)]
            rw [bm_congr (g := fun t => (U t || (List.range k).any (fun k => decide (1 ≤ g s (k / n) (k % n)) && (t == ls (k % n)))) || t == ls (k % n)) (fun t _ => by
              rw [anyB _ k, decide_eq_true e1, Bool.true_and, Bool.or_assoc])] at hq
            exact hq _ _ _ _
          · refine ev_it (by rw [show g s (k / n) (k % n) = 0 by omega]; exact Int32.le_refl _) ?_
            repeat (refine ev_np [122] rfl rfl rfl ?_)
            rw [or0]
            rw [bm_congr (g := fun t => U t || (List.range k).any (fun k => decide (1 ≤ g s (k / n) (k % n)) && (t == ls (k % n)))) (fun t _ => by
              rw [anyB _ k, decide_eq_false e1, Bool.false_and, Bool.or_false])] at hq
            exact hq _ _ _ _) q (by
          intro v7 v8 v9 v10
          repeat (refine ev_np [] rfl rfl rfl ?_)
          rw [h3n]
          refine ev_it (nI_le (Nat.le_refl _) (by omega)) ?_
          repeat (refine ev_np [113] rfl rfl rfl ?_)
          rw [bm_congr (f := trn g ls (s + 1) (rch g ls n m)) (g := fun t => U t || (List.range (3 * n)).any (fun k => decide (1 ≤ g s (k / n) (k % n)) && (t == ls (k % n)))) (fun t _ => by rw [e, hus, Bool.true_and, nxt_k hg])] at hq
          exact hq _ _ _ _ _)
        simp only [List.range_zero, List.any_nil, Bool.or_false] at h1
        exact h1 _ _ _ _) q (by
      intro v6 v7 v8 v9 v10
      repeat (refine ev_np [] rfl rfl rfl ?_)
      refine ev_it (nI_le (Nat.le_refl _) (by omega)) ?_
      repeat (refine ev_np [101] rfl rfl rfl ?_)
      exact hq _ _ _ _ _ _)
    exact key _ _ _ _ _
  have loop : ∀ c m, m + c = 6 → ∀ v5 v6 v7 v8 v9 v10 : Value, ev (d + 2) t_Mo_smalls 101 [.ref 62, .int (nI i), .int (nI n), .int (nI (bm (rch g ls n (m + 1)))), .int (nI (bm (rch g ls n m))), v5, v6, v7, v8, v9, v10] [] (hp Y F A) q := by
    intro c
    induction c with
    | zero =>
      intro m hm v5 v6 v7 v8 v9 v10
      have : m = 6 := by omega
      subst this
      rw [rch_fix hg hl]
      repeat (refine ev_np [] rfl rfl rfl ?_)
      refine ev_it rfl ?_
      exact hend _ _ _ _ _ _ _
    | succ c ih =>
      intro m hm v5 v6 v7 v8 v9 v10
      have b1 := bm_lt (rch g ls n m)
      have b2 := bm_lt (rch g ls n (m + 1))
      by_cases e : bm (rch g ls n m) = bm (rch g ls n (m + 1))
      · have e2 := rch_ext hg hl e
        have e3 := rch_keep e2.symm (6 - m)
        rw [show m + (6 - m) = 6 by omega] at e3
        rw [← e2, ← e3]
        repeat (refine ev_np [] rfl rfl rfl ?_)
        refine ev_it rfl ?_
        exact hend _ _ _ _ _ _ _
      · repeat (refine ev_np [] rfl rfl rfl ?_)
        refine ev_ie (fun z => e ((nI_eq (by omega) (by omega)).mp z)) ?_
        exact turn (m + 1) (fun v5 v6 v7 v8 v9 v10 => ih (m + 1) (by omega) v5 v6 v7 v8 v9 v10) _ _ _ _ _ _ _
  repeat (refine ev_np [107] rfl rfl rfl ?_)
  exact turn 0 (fun v5 v6 v7 v8 v9 v10 => loop 6 0 rfl v5 v6 v7 v8 v9 v10) _ _ _ _ _ _ _
end SMA
