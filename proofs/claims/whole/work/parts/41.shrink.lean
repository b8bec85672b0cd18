/-! ===== class Shrinker ===== -/
section SHR
variable {Y : Nat × (Nat → Int32)} {F A : Nat → Nat → Int32} {p n : Nat} {g : Nat → Nat → Nat → Nat} (d : Nat)
theorem kv_lt {n m : Nat} (h : m < n) : kv n m = nI (n - 1 - m) := if_pos h
theorem kv_end (n : Nat) : kv n n = -1 := if_neg (by omega)
theorem kv_0 {n : Nat} (h : 1 ≤ n) : nI n - 1 = kv n 0 := by
  rw [nI_m1 h, kv_lt (by omega)]
  rfl
theorem kv_00 (n : Nat) : nI n - 1 = kv n 0 := by
  by_cases h : 1 ≤ n
  · exact kv_0 h
  · rw [show n = 0 by omega]
    decide
theorem c_Shrinker_findLeast (hp0 : PL p) (hc : CP F A p n g) (hn : n ≤ 6) {w : Nat → Nat} (hw : WE A 49 w) (hwl : ∀ k, w k < 1000) : ∃ A', xa_rn xa_ms (d + 3) n_Shrinker_findLeast [.ref 50, .ref p, .ref 45] (hp Y F A) none (hp Y F A') ∧ sA [51] A A' ∧ ∀ s, s < 6 → A' 51 s = nI (lst n w s) := by
  have hp51 : ¬ p + 1 = 51 ∧ ¬ p + 2 = 51 := by
    rcases PL_in hp0 with rfl | rfl | rfl | rfl | rfl | rfl | rfl | rfl <;> decide
  obtain ⟨A1, ⟨i1, i2⟩, h3⟩ := lp_ex (α := Nat → Nat → Int32) (fun s B => sA [51] A B ∧ ∀ k, k < s → B 51 k = nI (lst n w k)) (fun s B q => ∀ v4 : Value, ev (d + 2) t_Shrinker_findLeast 2 [.ref 50, .ref p, .ref 45, .int (nI s), v4] [] (hp Y F B) q) 6 (fun s B hs hI => by
    obtain ⟨i1, i2⟩ := hI
    obtain ⟨B1, ⟨j1, j2, j3⟩, h3⟩ := lp_ex (α := Nat → Nat → Int32) (fun j C => sA [51] A C ∧ (∀ k, k < s → C 51 k = nI (lst n w k)) ∧ C 51 s = nI (if s < n then lf w s j else s)) (fun j C q => ev (d + 2) t_Shrinker_findLeast 20 [.ref 50, .ref p, .ref 45, .int (nI s), .int (kv s j)] [] (hp Y F C) q) s (fun j C hj hI => by
      obtain ⟨j1, j2, j3⟩ := hI
      have hcC : CP F C p n g := hc.frame rfl (j1 _ (by simp [hp51.1])) (j1 _ (by simp [hp51.2]))
      have hwC : WE C 49 w := fun k hk => by rw [j1 49 (by decide)]; exact hw k hk
      have head : ∀ q, ev (d + 2) t_Shrinker_findLeast 30 [.ref 50, .ref p, .ref 45, .int (nI s), .int (nI (s - 1 - j))] [.int (nI n), .int (nI s)] (hp Y F C) q → ev (d + 2) t_Shrinker_findLeast 20 [.ref 50, .ref p, .ref 45, .int (nI s), .int (kv s j)] [] (hp Y F C) q := by
        intro q hq
        rw [kv_lt hj]
        repeat (refine ev_np [] rfl rfl rfl ?_)
        refine ev_ie (nI_pos (by omega)) ?_
        repeat (refine ev_np [] rfl rfl rfl ?_)
        refine ev_vc rfl (by rfl) hp0.1 rfl (c_Plan_size (d + 1) hp0) ?_
        rw [hcC.1]
        exact hq
      by_cases hsn : s < n
      · cases ho : one w s (s - 1 - j) with
        | true =>
          refine ⟨va_up C 51 (upd (C 51) s (nI (s - 1 - j))), ⟨j1.tr (sA.up (by decide)), fun k hk => ?_, ?_⟩, fun q hq => head q ?_⟩
          · rw [va_up_s, pk_un (by omega)]
            exact j2 k hk
          · rw [va_up_s, pk_us, if_pos hsn]
            simp only [lf, ho, cond_true]
          · rw [← kv_s hj, kv_lt hj] at hq
            repeat (refine ev_np [] rfl rfl rfl ?_)
            refine ev_ie (nI_ge hsn (by omega)) ?_
            repeat (refine ev_np [] rfl rfl rfl ?_)
            refine ev_vc rfl (by rfl) (by rfl) rfl (c_Rounds_areOne d hwC hwl hs (show s - 1 - j < 6 by omega)) ?_
            rw [show (decide (w (6 * s + (s - 1 - j)) = 0) && decide (w (6 * (s - 1 - j) + s) = 0)) = true from ho]
            repeat (first | refine ev_np [] rfl rfl rfl ?_ | refine ev_grs [] rfl rfl (by rfl) (by rfl) ?_)
            refine ev_am rfl (by rfl) rfl hs rfl ?_
            repeat (refine ev_np [20] rfl rfl rfl ?_)
            exact hq
        | false =>
          refine ⟨C, ⟨j1, j2, ?_⟩, fun q hq => head q ?_⟩
          · rw [j3, if_pos hsn, if_pos hsn]
            simp only [lf, ho, cond_false]
          · rw [← kv_s hj, kv_lt hj] at hq
            repeat (refine ev_np [] rfl rfl rfl ?_)
            refine ev_ie (nI_ge hsn (by omega)) ?_
            repeat (refine ev_np [] rfl rfl rfl ?_)
            refine ev_vc rfl (by rfl) (by rfl) rfl (c_Rounds_areOne d hwC hwl hs (show s - 1 - j < 6 by omega)) ?_
            rw [show (decide (w (6 * s + (s - 1 - j)) = 0) && decide (w (6 * (s - 1 - j) + s) = 0)) = false from ho]
            repeat (refine ev_np [20] rfl rfl rfl ?_)
            exact hq
      · refine ⟨C, ⟨j1, j2, ?_⟩, fun q hq => head q ?_⟩
        · rw [j3, if_neg hsn, if_neg hsn]
        · rw [← kv_s hj, kv_lt hj] at hq
          repeat (refine ev_np [] rfl rfl rfl ?_)
          refine ev_it (nI_le (by omega) (by omega)) ?_
          repeat (refine ev_np [20] rfl rfl rfl ?_)
          exact hq) s 0 (va_up B 51 (upd (B 51) s (nI s))) (Nat.zero_add s) ⟨i1.tr (sA.up (by decide)), fun k hk => by rw [va_up_s, pk_un (by omega)]; exact i2 k hk, by
        rw [va_up_s, pk_us]
        split <;> rfl⟩
    refine ⟨B1, ⟨j1, fun k hk => ?_⟩, fun q hq v4 => ?_⟩
    · by_cases e : k = s
      · subst e
        rw [j3]
        rfl
      · exact j2 k (by omega)
    · repeat (refine ev_np [] rfl rfl rfl ?_)
      refine ev_ie (nI_ge (b := 6) hs (by omega)) ?_
      repeat (first | refine ev_np [] rfl rfl rfl ?_ | refine ev_grs [] rfl rfl (by rfl) (by rfl) ?_)
      refine ev_am rfl (by rfl) rfl hs rfl ?_
      repeat (refine ev_np [20] rfl rfl rfl ?_)
      rw [kv_00]
      refine h3 q ?_
      rw [kv_end]
      rw [nI_succ] at hq
      repeat (refine ev_np [2] rfl rfl rfl ?_)
      exact hq _) 6 0 A rfl ⟨sA.rf, fun k hk => by omega⟩
  refine ⟨A1, ?_, i1, i2⟩
  refine rn_in m_Shrinker_findLeast rfl ⟨rfl, rfl⟩ ?_
  show ev _ t_Shrinker_findLeast 0 [.ref 50, .ref p, .ref 45, .float 0, .float 0] [] _ _
  repeat (refine ev_np [2] rfl rfl rfl ?_)
  refine h3 _ (fun v4 => ?_) _
  repeat (refine ev_np [] rfl rfl rfl ?_)
  exact ev_rv rfl
theorem c_Shrinker_nextOf (hp0 : PL p) (hc : CP F A p n g) {ls : Nat → Nat} (hl : ∀ t, ls t ≤ t) (h51 : ∀ t, t < 6 → A 51 t = nI (ls t)) {s : Nat} (hs : s < 6) : xa_rn xa_ms (d + 3) n_Shrinker_nextOf [.ref 50, .ref p, .int (nI s)] (hp Y F A) (some (.int (nI (bm (nxt g ls s))))) (hp Y F A) := by
  refine rn_in m_Shrinker_nextOf rfl ⟨rfl, rfl⟩ ?_
  show ev _ t_Shrinker_nextOf 0 [.ref 50, .ref p, .int (nI s), .float 0, .float 0, .float 0, .float 0] [] _ _
  repeat (refine ev_np [5] rfl rfl rfl ?_)
  have key := lp_to (E := fun l q => ∀ v5 v6 : Value, ev (d + 2) t_Shrinker_nextOf 5 [.ref 50, .ref p, .int (nI s), .int (nI (bm (fun t => (List.range l).any fun l => (List.range 6).any fun t' => decide (1 ≤ g s l t') && (t == ls t')))), .int (nI l), v5, v6] [] (hp Y F A) q) 3 (fun l hl3 q hq => by
    intro v5 v6
    rw [nI_succ] at hq
    simp only [anyB _ l] at hq
    repeat (refine ev_np [] rfl rfl rfl ?_)
    refine ev_ie (nI_ge (b := 3) hl3 (by omega)) ?_
    repeat (refine ev_np [] rfl rfl rfl ?_)
    refine ev_vc rfl (by rfl) hp0.1 rfl (c_Plan_anyFrom d hp0 hs hl3) ?_
    rw [(hc.2 s l hs hl3).1]
    repeat (refine ev_np [23] rfl rfl rfl ?_)
    have h1 := lp_to (E := fun k q => ev (d + 2) t_Shrinker_nextOf 23 [.ref 50, .ref p, .int (nI s), .int (nI (bm (fun t => ((List.range l).any fun l => (List.range 6).any fun t' => decide (1 ≤ g s l t') && (t == ls t')) || ((List.range k).any fun t' => decide (1 ≤ g s l t') && (t == ls t'))))), .int (nI l), .int (nI (bm (fun t => decide (1 ≤ g s l t)))), .int (nI k)] [] (hp Y F A) q) 6 (fun k hk q hq => by
      rw [nI_succ] at hq
      repeat (refine ev_np [] rfl rfl rfl ?_)
      refine ev_ie (nI_ge (b := 6) hk (by omega)) ?_
      repeat (refine ev_np [] rfl rfl rfl ?_)
      refine ev_ca rfl (c_MM_inSet (d + 1)) ?_
      rw [bi_bm _ hk]
      have hlk := hl k
      by_cases e : 1 ≤ g s l k
      · rw [decide_eq_true e]
        repeat (first | refine ev_np [] rfl rfl rfl ?_ | refine ev_grs [] rfl rfl (by rfl) (by rfl) ?_)
        refine ev_an rfl (by rfl) rfl hk rfl ?_
        rw [h51 k hk]
        repeat (refine ev_np [23] rfl rfl rfl ?_)
        rw [orb_bm _ (by omega)]
        rw [bm_congr (g := fun t => (((List.range l).any fun l => (List.range 6).any fun t' => decide (1 ≤ g s l t') && (t == ls t')) || ((List.range k).any fun t' => decide (1 ≤ g s l t') && (t == ls t'))) || t == ls k) (fun t _ => by
          rw [anyB _ k, decide_eq_true e, Bool.true_and, Bool.or_assoc])] at hq
        exact hq
      · rw [decide_eq_false e]
        repeat (refine ev_np [23] rfl rfl rfl ?_)
        rw [bm_congr (g := fun t => ((List.range l).any fun l => (List.range 6).any fun t' => decide (1 ≤ g s l t') && (t == ls t')) || ((List.range k).any fun t' => decide (1 ≤ g s l t') && (t == ls t'))) (fun t _ => by
          rw [anyB _ k, decide_eq_false e, Bool.false_and, Bool.or_false])] at hq
        exact hq) q (by
      repeat (refine ev_np [5] rfl rfl rfl ?_)
      exact hq _ _)
    simp only [List.range_zero, List.any_nil, Bool.or_false] at h1
    exact h1) (some (.int (nI (bm (nxt g ls s)))), hp Y F A) (by
    intro v5 v6
    repeat (refine ev_np [] rfl rfl rfl ?_)
    exact ev_ri rfl rfl)
  exact key _ _
theorem c_Shrinker_reachedIn (hp0 : PL p) (hc : CP F A p n g) (hn : n ≤ 6) {ls : Nat → Nat} (hl : ∀ t, ls t ≤ t) (h51 : ∀ t, t < 6 → A 51 t = nI (ls t)) : xa_rn xa_ms (d + 4) n_Shrinker_reachedIn [.ref 50, .ref p] (hp Y F A) (some (.int (nI (bm (rch g ls n 6))))) (hp Y F A) := by
  refine rn_in m_Shrinker_reachedIn rfl ⟨rfl, rfl⟩ ?_
  show ev _ t_Shrinker_reachedIn 0 [.ref 50, .ref p, .float 0, .float 0, .float 0] [] _ _
  repeat (refine ev_np [4] rfl rfl rfl ?_)
  have key := lp_to (E := fun m q => ∀ v4 : Value, ev (d + 3) t_Shrinker_reachedIn 4 [.ref 50, .ref p, .int (nI (bm (rch g ls n m))), .int (nI m), v4] [] (hp Y F A) q) 6 (fun m hm q hq => by
    intro v4
    rw [nI_succ] at hq
    repeat (refine ev_np [] rfl rfl rfl ?_)
    refine ev_ie (nI_ge (b := 6) hm (by omega)) ?_
    repeat (refine ev_np [13] rfl rfl rfl ?_)
    refine lp_to (E := fun s q => ev (d + 3) t_Shrinker_reachedIn 13 [.ref 50, .ref p, .int (nI (bm (trn g ls s (rch g ls n m)))), .int (nI m), .int (nI s)] [] (hp Y F A) q) n (fun s hs q hq => ?_) q ?_
    · rw [nI_succ] at hq
      have e : ∀ t, trn g ls (s + 1) (rch g ls n m) t = (trn g ls s (rch g ls n m) t || (trn g ls s (rch g ls n m) s && nxt g ls s t)) := fun t => rfl
      repeat (refine ev_np [] rfl rfl rfl ?_)
      refine ev_vc rfl (by rfl) hp0.1 rfl (c_Plan_size (d + 2) hp0) ?_
      rw [hc.1]
      repeat (refine ev_np [] rfl rfl rfl ?_)
      refine ev_ie (nI_ge hs (by omega)) ?_
      repeat (refine ev_np [] rfl rfl rfl ?_)
      refine ev_ca rfl (c_MM_inSet (d + 2)) ?_
      rw [bi_bm _ (by omega)]
      cases hu : trn g ls s (rch g ls n m) s with
      | true =>
        repeat (refine ev_np [] rfl rfl rfl ?_)
        refine ev_vc rfl (by rfl) (by rfl) rfl (c_Shrinker_nextOf d hp0 hc hl h51 (by omega)) ?_
        repeat (refine ev_np [13] rfl rfl rfl ?_)
        rw [or_bm]
        rw [bm_congr (f := trn g ls (s + 1) (rch g ls n m)) (g := fun t => trn g ls s (rch g ls n m) t || nxt g ls s t) (fun t _ => by rw [e, hu, Bool.true_and])] at hq
        exact hq
      | false =>
        repeat (refine ev_np [13] rfl rfl rfl ?_)
        rw [bm_congr (f := trn g ls (s + 1) (rch g ls n m)) (g := trn g ls s (rch g ls n m)) (fun t _ => by rw [e, hu, Bool.false_and, Bool.or_false])] at hq
        exact hq
    · repeat (refine ev_np [] rfl rfl rfl ?_)
      refine ev_vc rfl (by rfl) hp0.1 rfl (c_Plan_size (d + 2) hp0) ?_
      rw [hc.1]
      repeat (refine ev_np [] rfl rfl rfl ?_)
      refine ev_it (nI_le (Nat.le_refl _) (by omega)) ?_
      repeat (refine ev_np [4] rfl rfl rfl ?_)
      exact hq _) (some (.int (nI (bm (rch g ls n 6)))), hp Y F A) (by
    intro v4
    repeat (refine ev_np [] rfl rfl rfl ?_)
    exact ev_ri rfl rfl)
  exact key _
theorem cnt_low (u : Nat → Bool) {s : Nat} : ∀ m, s ≤ m → cnt (fun t => u t && decide (t < s)) m = cnt u s := by
  intro m hm
  obtain ⟨c, rfl⟩ : ∃ c, m = s + c := ⟨m - s, by omega⟩
  clear hm
  induction c with
  | zero => exact cnt_congr s (fun t ht => by simp [ht])
  | succ c ih =>
    show cnt (fun t => u t && decide (t < s)) (s + c) + _ = _
    rw [ih]
    simp [show ¬ s + c < s by omega]
theorem c_Shrinker_rankIn (u : Nat → Bool) {s : Nat} (hs : s < 6) {h : xa_H} : xa_rn xa_ms (d + 2) n_Shrinker_rankIn [.int (nI (bm u)), .int (nI s)] h (some (.int (nI (cnt u s)))) h := by
  refine rn_in m_Shrinker_rankIn rfl ⟨rfl, rfl⟩ ?_
  show ev _ t_Shrinker_rankIn 0 [.int (nI (bm u)), .int (nI s)] [] _ _
  repeat (refine ev_np [] rfl rfl rfl ?_)
  rw [low_bm (by omega), and_bm]
  refine ev_ca rfl (c_Int_bitCount d _) ?_
  exact ev_ri rfl (by rw [cnt_low u 6 (by omega)])
theorem PL29 : PL 29 := PL_mk (by simp)
theorem c_Shrinker_carryArrows (hp0 : PL p) (hp29 : p ≠ 29) (hc : CP F A p n g) (hg : ∀ s l t, g s l t ≤ 2) {ls : Nat → Nat} (hl : ∀ t, ls t ≤ t) (h51 : ∀ t, t < 6 → A 51 t = nI (ls t)) {u : Nat → Bool} {s N : Nat} (hs : s < 6) (hus : u s = true) (h29 : CP F A 29 N (cfo g ls u (18 * s))) (hN : ∀ K a b c, cfo g ls u K a b c ≤ 2) : ∃ A', xa_rn xa_ms (d + 4) n_Shrinker_carryArrows [.ref 50, .ref p, .int (nI s), .int (nI (bm u)), .ref 29] (hp Y F A) none (hp Y F A') ∧ sA [30, 31] A A' ∧ CP F A' 29 N (cfo g ls u (18 * s + 18)) := by
  have hpq : (¬ p + 1 = 30 ∧ ¬ p + 1 = 31) ∧ (¬ p + 2 = 30 ∧ ¬ p + 2 = 31) := by
    rcases PL_in hp0 with rfl | rfl | rfl | rfl | rfl | rfl | rfl | rfl <;> first | decide | exact absurd rfl hp29
  obtain ⟨A1, ⟨i1, i2⟩, h3⟩ := lp_ex (α := Nat → Nat → Int32) (fun l B => sA [30, 31] A B ∧ CP F B 29 N (cfo g ls u (18 * s + 6 * l))) (fun l B q => ∀ v6 : Value, ev (d + 3) t_Shrinker_carryArrows 3 [.ref 50, .ref p, .int (nI s), .int (nI (bm u)), .ref 29, .int (nI l), v6] [] (hp Y F B) q) 3 (fun l B hl3 hI => by
    obtain ⟨i1, i2⟩ := hI
    obtain ⟨B1, ⟨j1, j2⟩, h3⟩ := lp_ex (α := Nat → Nat → Int32) (fun t C => sA [30, 31] A C ∧ CP F C 29 N (cfo g ls u (18 * s + 6 * l + t))) (fun t C q => ev (d + 3) t_Shrinker_carryArrows 12 [.ref 50, .ref p, .int (nI s), .int (nI (bm u)), .ref 29, .int (nI l), .int (nI t)] [] (hp Y F C) q) 6 (fun t C ht hI => by
      obtain ⟨j1, j2⟩ := hI
      have hcC : CP F C p n g := hc.frame rfl (j1 _ (by simp [hpq.1])) (j1 _ (by simp [hpq.2]))
      have r1 : cnt u s < 6 := by have := cnt_le u s; omega
      have hlt := hl t
      have r2 : cnt u (ls t) < 6 := by have := cnt_le u (ls t); omega
      obtain ⟨C1, b1, b2, b3⟩ := c_Plan_raise (Y := Y) (d + 1) PL29 j2 (s := cnt u s) (l := l) (t := cnt u (ls t)) (v := g s l t) r1 hl3 r2 (hg s l t)
      refine ⟨C1, ⟨j1.tr b2, ?_⟩, fun q hq => ?_⟩
      · have e : cfo g ls u (18 * s + 6 * l + (t + 1)) = gset (cfo g ls u (18 * s + 6 * l + t)) (cnt u s) l (cnt u (ls t)) (max (cfo g ls u (18 * s + 6 * l + t) (cnt u s) l (cnt u (ls t))) (g s l t)) := by
          show cst g ls u (18 * s + 6 * l + t) _ = _
          unfold cst
          rw [show (18 * s + 6 * l + t) / 18 = s by omega, show (18 * s + 6 * l + t) / 6 % 3 = l by omega, show (18 * s + 6 * l + t) % 6 = t by omega, hus]
          rfl
        rw [e]
        exact b3
      · rw [nI_succ] at hq
        repeat (refine ev_np [] rfl rfl rfl ?_)
        refine ev_ie (nI_ge (b := 6) ht (by omega)) ?_
        repeat (refine ev_np [] rfl rfl rfl ?_)
        refine ev_ca rfl (c_Shrinker_rankIn (d + 1) u hs) ?_
        repeat (first | refine ev_np [] rfl rfl rfl ?_ | refine ev_grs [] rfl rfl (by rfl) (by rfl) ?_)
        refine ev_an rfl (by rfl) rfl ht rfl ?_
        rw [j1 51 (by decide), h51 t ht]
        refine ev_ca rfl (c_Shrinker_rankIn (d + 1) u (by omega)) ?_
        repeat (refine ev_np [] rfl rfl rfl ?_)
        refine ev_vc rfl (by rfl) hp0.1 rfl (c_Plan_at d hp0 hcC hs hl3 ht (hg s l t)) ?_
        refine ev_vc rfl (by rfl) PL29.1 rfl b1 ?_
        repeat (refine ev_np [12] rfl rfl rfl ?_)
        exact hq) 6 0 B rfl ⟨i1, i2⟩
    refine ⟨B1, ⟨j1, by rw [show 18 * s + 6 * (l + 1) = 18 * s + 6 * l + 6 by omega]; exact j2⟩, fun q hq v6 => ?_⟩
    rw [nI_succ] at hq
    repeat (refine ev_np [] rfl rfl rfl ?_)
    refine ev_ie (nI_ge (b := 3) hl3 (by omega)) ?_
    repeat (refine ev_np [12] rfl rfl rfl ?_)
    refine h3 q ?_
    repeat (refine ev_np [3] rfl rfl rfl ?_)
    exact hq _) 3 0 A rfl ⟨sA.rf, h29⟩
  refine ⟨A1, ?_, i1, i2⟩
  refine rn_in m_Shrinker_carryArrows rfl ⟨rfl, rfl⟩ ?_
  show ev _ t_Shrinker_carryArrows 0 [.ref 50, .ref p, .int (nI s), .int (nI (bm u)), .ref 29, .float 0, .float 0] [] _ _
  repeat (refine ev_np [3] rfl rfl rfl ?_)
  refine h3 _ (fun v6 => ?_) _
  repeat (refine ev_np [] rfl rfl rfl ?_)
  exact ev_rv rfl
theorem cfo_le {g : Nat → Nat → Nat → Nat} (hg : ∀ s l t, g s l t ≤ 2) (ls : Nat → Nat) (u : Nat → Bool) : ∀ K a b c, cfo g ls u K a b c ≤ 2 := by
  intro K
  induction K with
  | zero => intros; exact Nat.zero_le _
  | succ K ih =>
    intro a b c
    show cst g ls u K (cfo g ls u K) a b c ≤ 2
    unfold cst
    cases u (K / 18)
    · exact ih a b c
    · show gset _ _ _ _ _ a b c ≤ 2
      unfold gset
      split
      · have := ih (cnt u (K / 18)) (K / 6 % 3) (cnt u (ls (K % 6)))
        have := hg (K / 18) (K / 6 % 3) (K % 6)
        omega
      · exact ih a b c
theorem c_Shrinker_shrink (hp0 : PL p) (hp29 : p ≠ 29) (hc : CP F A p n g) (hg : GW n g) {w : Nat → Nat} (hw : WE A 49 w) (hwl : ∀ k, w k < 1000) : ∃ F' A', xa_rn xa_ms (d + 5) n_Shrinker_shrink [.ref 50, .ref p, .ref 45, .ref 29] (hp Y F A) none (hp Y F' A') ∧ sA [51, 30, 31] A A' ∧ sF [2900] F F' ∧ CP F' A' 29 (cnt (rch g (lst n w) n 6) 6) (cfo g (lst n w) (rch g (lst n w) n 6) 108) := by
  have hn := hg.1.2
  have hpq : ¬ p = 29 ∧ (¬ p + 1 = 30 ∧ ¬ p + 1 = 31 ∧ ¬ p + 1 = 51) ∧ (¬ p + 2 = 30 ∧ ¬ p + 2 = 31 ∧ ¬ p + 2 = 51) := by
    rcases PL_in hp0 with rfl | rfl | rfl | rfl | rfl | rfl | rfl | rfl <;> first | decide | exact absurd rfl hp29
  obtain ⟨ls, hls⟩ : ∃ ls, ls = lst n w := ⟨_, rfl⟩
  have hl : ∀ t, ls t ≤ t := fun t => by rw [hls]; exact lst_le n w t
  rw [← hls]
  obtain ⟨A1, a1, a2, a3⟩ := c_Shrinker_findLeast (Y := Y) (d + 1) hp0 hc hn hw hwl
  rw [← hls] at a3
  have hc1 : CP F A1 p n g := hc.frame rfl (a2 _ (by simp [hpq.2.1])) (a2 _ (by simp [hpq.2.2]))
  have a4 := c_Shrinker_reachedIn (Y := Y) d hp0 hc1 hn hl a3
  obtain ⟨u, hu⟩ : ∃ u, u = rch g ls n 6 := ⟨_, rfl⟩
  have hwf := cfo_wf hg hl
  rw [← hu] at a4 hwf ⊢
  obtain ⟨F2, A2, b1, b2, b3, b4⟩ := c_Plan_reset (Y := Y) (F := F) (A := A1) (d + 2) PL29 hwf.1.1 hwf.1.2
  have hc2 : CP F2 A2 p n g := hc1.frame (b3 _ _ (by simp; omega)) (b2 _ (by simp [hpq.2.1])) (b2 _ (by simp [hpq.2.2]))
  have a3' : ∀ t, t < 6 → A2 51 t = nI (ls t) := fun t ht => by rw [b2 51 (by decide)]; exact a3 t ht
  obtain ⟨A3, ⟨c1, c2⟩, c3⟩ := lp_ex (α := Nat → Nat → Int32) (fun s B => sA [30, 31] A2 B ∧ CP F2 B 29 (cnt u 6) (cfo g ls u (18 * s))) (fun s B q => ev (d + 4) t_Shrinker_shrink 25 [.ref 50, .ref p, .ref 45, .ref 29, .int (nI (bm u)), .int (nI s)] [] (hp Y F2 B) q) n (fun s B hs hI => by
    obtain ⟨i1, i2⟩ := hI
    have hcB : CP F2 B p n g := hc2.frame rfl (i1 _ (by simp [hpq.2.1])) (i1 _ (by simp [hpq.2.2]))
    have h51B : ∀ t, t < 6 → B 51 t = nI (ls t) := fun t ht => by rw [i1 51 (by decide)]; exact a3' t ht
    have head : ∀ q, ev (d + 4) t_Shrinker_shrink 41 [.ref 50, .ref p, .ref 45, .ref 29, .int (nI (bm u)), .int (nI s)] [.int (z01 (u s))] (hp Y F2 B) q → ev (d + 4) t_Shrinker_shrink 25 [.ref 50, .ref p, .ref 45, .ref 29, .int (nI (bm u)), .int (nI s)] [] (hp Y F2 B) q := by
      intro q hq
      repeat (refine ev_np [] rfl rfl rfl ?_)
      refine ev_vc rfl (by rfl) hp0.1 rfl (c_Plan_size (d + 3) hp0) ?_
      rw [hcB.1]
      repeat (refine ev_np [] rfl rfl rfl ?_)
      refine ev_ie (nI_ge hs (by omega)) ?_
      repeat (refine ev_np [] rfl rfl rfl ?_)
      refine ev_ca rfl (c_MM_inSet (d + 3)) ?_
      rw [bi_bm _ (by omega)]
      exact hq
    cases hus : u s with
    | true =>
      obtain ⟨B1, e1, e2, e3⟩ := c_Shrinker_carryArrows (Y := Y) d hp0 hp29 hcB (fun s l t => (hg.2 s l t).1) hl h51B (u := u) (s := s) (by omega) hus i2 (cfo_le (fun s l t => (hg.2 s l t).1) ls u)
      refine ⟨B1, ⟨i1.tr e2, by rw [show 18 * (s + 1) = 18 * s + 18 by omega]; exact e3⟩, fun q hq => head q ?_⟩
      rw [hus]
      repeat (refine ev_np [] rfl rfl rfl ?_)
      refine ev_vc rfl (by rfl) (by rfl) rfl (e1) ?_
      rw [nI_succ] at hq
      repeat (refine ev_np [25] rfl rfl rfl ?_)
      exact hq
    | false =>
      refine ⟨B, ⟨i1, ?_⟩, fun q hq => head q ?_⟩
      · rw [show 18 * (s + 1) = 18 * s + 18 by omega, cfo_skip 18 (fun k h1 h2 => Or.inl (by rw [show k / 18 = s by omega]; exact hus))]
        exact i2
      · rw [hus]
        rw [nI_succ] at hq
        repeat (refine ev_np [25] rfl rfl rfl ?_)
        exact hq) n 0 A2 (Nat.zero_add n) ⟨sA.rf, b4⟩
  have hcE : CP F2 A3 p n g := hc2.frame rfl (c1 _ (by simp [hpq.2.1])) (c1 _ (by simp [hpq.2.2]))
  refine ⟨F2, A3, ?_, (a2.mono (by decide)).tr ((b2.mono (by decide)).tr (c1.mono (by decide))), b3, ?_⟩
  · refine rn_in m_Shrinker_shrink rfl ⟨rfl, rfl⟩ ?_
    show ev _ t_Shrinker_shrink 0 [.ref 50, .ref p, .ref 45, .ref 29, .float 0, .float 0] [] _ _
    repeat (refine ev_np [] rfl rfl rfl ?_)
    refine ev_vc rfl (by rfl) (by rfl) rfl (a1) ?_
    repeat (refine ev_np [] rfl rfl rfl ?_)
    refine ev_vc rfl (by rfl) (by rfl) rfl (a4) ?_
    repeat (refine ev_np [] rfl rfl rfl ?_)
    refine ev_ca rfl (c_Int_bitCount (d + 3) u) ?_
    refine ev_vc rfl (by rfl) PL29.1 rfl b1 ?_
    repeat (refine ev_np [25] rfl rfl rfl ?_)
    refine c3 _ ?_
    repeat (refine ev_np [] rfl rfl rfl ?_)
    refine ev_vc rfl (by rfl) hp0.1 rfl (c_Plan_size (d + 3) hp0) ?_
    rw [hcE.1]
    repeat (refine ev_np [] rfl rfl rfl ?_)
    refine ev_it (nI_le (Nat.le_refl _) (by omega)) ?_
    exact ev_rv rfl
  · rw [show (108 : Nat) = 18 * n + (108 - 18 * n) by omega, cfo_skip (108 - 18 * n) (fun k h1 h2 => Or.inl (by
      cases hk : u (k / 18) with
      | false => rfl
      | true =>
        rw [hu] at hk
        have := rch_in hg hl 6 _ hk
        omega))]
    exact c2
end SHR
