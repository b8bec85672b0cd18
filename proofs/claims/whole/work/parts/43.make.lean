/-! ===== the model's smalls, its end; call: make ===== -/
section SMB
variable {Y : Nat × (Nat → Int32)} {F A : Nat → Nat → Int32} {n : Nat} {g : Nat → Nat → Nat → Nat} (d : Nat)
theorem cnt_in {u : Nat → Bool} {n : Nat} (hu : ∀ t, u t = true → t < n) : ∀ m, n ≤ m → cnt u m = cnt u n := by
  intro m hm
  obtain ⟨c, rfl⟩ : ∃ c, m = n + c := ⟨m - n, by omega⟩
  clear hm
  induction c with
  | zero => rfl
  | succ c ih =>
    show cnt u (n + c) + _ = _
    rw [ih]
    cases h : u (n + c) with
    | false => rfl
    | true => have := hu _ h; omega
set_option maxRecDepth 20000 in
theorem c_Mo_numb {i : Nat} (hn : n ≤ 6) (u : Nat → Bool) : ∃ A', sA [72] A A' ∧ (∀ s, s < n → A' 72 s = nI (cnt u s)) ∧ ∀ q, (∀ (x4 : Int32) (v6 v7 v8 v9 v10 : Value), ev (d + 1) t_Mo_smalls 238 [.ref 62, .int (nI i), .int (nI n), .int (nI (bm u)), .int x4, .int (nI (cnt u n)), v6, v7, v8, v9, v10] [] (hp Y F A') q) → ∀ (x4 : Int32) (v5 v6 v7 v8 v9 v10 : Value), ev (d + 1) t_Mo_smalls 191 [.ref 62, .int (nI i), .int (nI n), .int (nI (bm u)), .int x4, v5, v6, v7, v8, v9, v10] [] (hp Y F A) q := by
  obtain ⟨A1, ⟨i1, i2⟩, h3⟩ := lp_ex (α := Nat → Nat → Int32) (fun s B => sA [72] A B ∧ ∀ k, k < s → B 72 k = nI (cnt u k)) (fun s B q => ∀ (x4 : Int32) (v7 v8 v9 v10 : Value), ev (d + 1) t_Mo_smalls 197 [.ref 62, .int (nI i), .int (nI n), .int (nI (bm u)), .int x4, .int (nI (cnt u s)), .int (nI s), v7, v8, v9, v10] [] (hp Y F B) q) n (fun s B hs hI => by
    obtain ⟨i1, i2⟩ := hI
    refine ⟨va_up B 72 (upd (B 72) s (nI (cnt u s))), ⟨i1.tr (sA.up (by decide)), fun k hk => ?_⟩, fun q hq v4 v7 v8 v9 v10 => ?_⟩
    · rw [va_up_s]
      by_cases e : k = s
      · subst e; rw [pk_us]
      · rw [pk_un e]; exact i2 k (by omega)
    · rw [nI_succ s] at hq
      repeat (refine ev_np [] rfl rfl rfl ?_)
      refine ev_ie (nI_ge hs (by omega)) ?_
      repeat (first | refine ev_np [] rfl rfl rfl ?_ | refine ev_grs [] rfl rfl (by rfl) (by rfl) ?_)
      refine ev_am rfl (by rfl) rfl (by omega) rfl ?_
      repeat (refine ev_np [] rfl rfl rfl ?_)
      rw [sh_bm _ (by omega)]
      cases hus : u s with
      | true =>
        repeat (refine ev_np [197] rfl rfl rfl ?_)
        rw [nI_1]
        rw [show cnt u (s + 1) = cnt u s + 1 by simp only [cnt, hus, cond_true]] at hq
        exact hq _ _ _ _ _
      | false =>
        repeat (refine ev_np [197] rfl rfl rfl ?_)
        rw [show ∀ a : Int32, a + 0 = a from Int32.add_zero]
        rw [show cnt u (s + 1) = cnt u s by simp only [cnt, hus, cond_false]; rfl] at hq
        exact hq _ _ _ _ _) n 0 A (Nat.zero_add n) ⟨sA.rf, fun k hk => by omega⟩
  refine ⟨A1, i1, i2, fun q hq v4 v5 v6 v7 v8 v9 v10 => ?_⟩
  repeat (refine ev_np [197] rfl rfl rfl ?_)
  refine h3 q (fun v4 v7 v8 v9 v10 => ?_) _ _ _ _ _
  repeat (refine ev_np [] rfl rfl rfl ?_)
  refine ev_it (nI_le (Nat.le_refl _) (by omega)) ?_
  exact hq _ _ _ _ _ _
set_option maxRecDepth 20000 in
theorem c_Mo_carry {i N : Nat} (hi : i < 6) (hm : MP A i n g) (hg : GW n g) {ls : Nat → Nat} (hl : ∀ t, ls t ≤ t) (h71 : ∀ t, t < n → A 71 t = nI (ls t)) {u : Nat → Bool} (h72 : ∀ t, t < n → A 72 t = nI (cnt u t)) (h6 : MP A 6 N (fun _ _ _ => 0)) : ∃ A', sA [63] A A' ∧ MP A' 6 N (cfo g ls u (18 * n)) ∧ (∀ i' n' g', i' < 8 → i' ≠ 6 → MP A i' n' g' → MP A' i' n' g') ∧ ∀ q, (∀ v4 v5 v6 v7 v8 v9 v10 : Value, ev (d + 2) t_Mo_smalls 375 [.ref 62, .int (nI i), .int (nI n), .int (nI (bm u)), v4, v5, v6, v7, v8, v9, v10] [] (hp Y F A') q) → ∀ (v4 : Value) (x5 : Int32) (v7 v8 v9 v10 : Value), ev (d + 2) t_Mo_smalls 249 [.ref 62, .int (nI i), .int (nI n), .int (nI (bm u)), v4, .int x5, .int 0, v7, v8, v9, v10] [] (hp Y F A) q := by
  have hn := hg.1
  have h3n : 3 * nI n = nI (3 * n) := by rw [show (3 : Int32) = nI 3 from rfl, pk_mul]
  have hle2 : ∀ K a b c, cfo g ls u K a b c ≤ 2 := cfo_le (fun s l t => (hg.2 s l t).1) ls u
  obtain ⟨A1, ⟨i1, i2, i3⟩, h3⟩ := lp_ex (α := Nat → Nat → Int32) (fun s B => sA [63] A B ∧ MP B 6 N (cfo g ls u (18 * s)) ∧ (∀ i' n' g', i' < 8 → i' ≠ 6 → MP A i' n' g' → MP B i' n' g')) (fun s B q => ∀ (v4 : Value) (x5 : Int32) (v7 v8 v9 v10 : Value), ev (d + 2) t_Mo_smalls 249 [.ref 62, .int (nI i), .int (nI n), .int (nI (bm u)), v4, .int x5, .int (nI s), v7, v8, v9, v10] [] (hp Y F B) q) n (fun s B hs hI => by
    obtain ⟨i1, i2, i3⟩ := hI
    cases hus : u s with
    | false =>
      refine ⟨B, ⟨i1, ?_, i3⟩, fun q hq v4 v5 v7 v8 v9 v10 => ?_⟩
      · rw [show 18 * (s + 1) = 18 * s + 18 by omega, cfo_skip 18 (fun k h1 h2 => Or.inl (by rw [show k / 18 = s by omega]; exact hus))]
        exact i2
      · rw [nI_succ] at hq
        repeat (refine ev_np [] rfl rfl rfl ?_)
        refine ev_ie (nI_ge hs (by omega)) ?_
        repeat (refine ev_np [] rfl rfl rfl ?_)
        rw [h3n]
        refine ev_ie (nI_ge (a := 0) (by omega) (by omega)) ?_
        repeat (refine ev_np [] rfl rfl rfl ?_)
        rw [sh_bm _ (by omega), hus]
        repeat (refine ev_np [249] rfl rfl rfl ?_)
        exact hq _ _ _ _ _ _
    | true =>
      obtain ⟨B1, ⟨j1, j2, j3⟩, h3⟩ := lp_ex (α := Nat → Nat → Int32) (fun k C => sA [63] A C ∧ MP C 6 N (cfo g ls u (18 * s + 6 * (k / n) + k % n)) ∧ (∀ i' n' g', i' < 8 → i' ≠ 6 → MP A i' n' g' → MP C i' n' g')) (fun k C q => ∀ (v4 : Value) (x5 : Int32) (v8 v9 v10 : Value), ev (d + 2) t_Mo_smalls 258 [.ref 62, .int (nI i), .int (nI n), .int (nI (bm u)), v4, .int x5, .int (nI s), .int (nI k), v8, v9, v10] [] (hp Y F C) q) (3 * n) (fun k C hk hI => by
        obtain ⟨j1, j2, j3⟩ := hI
        have hk3 : k / n < 3 := Nat.div_lt_of_lt_mul (by rw [Nat.mul_comm]; exact hk)
        have hkn : k % n < n := Nat.mod_lt _ (by omega)
        have hlk := hl (k % n)
        have hle := (hg.2 s (k / n) (k % n)).1
        obtain ⟨K, hK⟩ : ∃ K, K = 18 * s + 6 * (k / n) + k % n := ⟨_, rfl⟩
        have k1 : K / 18 = s := by omega
        have k2 : K / 6 % 3 = k / n := by omega
        have k3 : K % 6 = k % n := by omega
        -- the next place
        have nextK : cfo g ls u (18 * s + 6 * ((k + 1) / n) + (k + 1) % n) = cfo g ls u (K + 1) := by
          by_cases e : k % n + 1 < n
          · have e1 : (k + 1) / n = k / n := by
              have h1 := Nat.div_add_mod k n
              have h2 : k + 1 = n * (k / n) + (k % n + 1) := by omega
              rw [h2, Nat.mul_add_div (by omega), Nat.div_eq_of_lt e]
              rfl
            have e2 : (k + 1) % n = k % n + 1 := by
              have h1 := Nat.div_add_mod k n
              have h2 : k + 1 = n * (k / n) + (k % n + 1) := by omega
              rw [h2, Nat.mul_add_mod, Nat.mod_eq_of_lt e]
            rw [e1, e2, hK]
            rfl
          · have h0 : k % n + 1 = n := by omega
            have h1 := Nat.div_add_mod k n
            have h2 : k + 1 = n * (k / n + 1) := by rw [Nat.mul_add]; omega
            have e1 : (k + 1) / n = k / n + 1 := by rw [h2]; exact Nat.mul_div_cancel_left _ (by omega)
            have e2 : (k + 1) % n = 0 := by rw [h2]; exact Nat.mul_mod_right _ _
            rw [e1, e2, show 18 * s + 6 * (k / n + 1) + 0 = K + 1 + (6 - n) by omega]
            exact cfo_skip (6 - n) (fun z z1 z2 => Or.inr (by
              have q0 := hg.2 (z / 18) (z / 6 % 3) (z % 6)
              refine Classical.byContradiction fun hne => ?_
              have := (q0.2 hne).2.2
              omega))
        have hcs : cfo g ls u (K + 1) = gset (cfo g ls u K) (cnt u s) (k / n) (cnt u (ls (k % n))) (max (cfo g ls u K (cnt u s) (k / n) (cnt u (ls (k % n)))) (g s (k / n) (k % n))) := by
          show cst g ls u K _ = _
          unfold cst
          rw [k1, k2, k3, hus]
          rfl
        rw [nextK]
        rw [← hK] at j2
        have r1 : cnt u s < 6 := by have := cnt_le u s; omega
        have r2 : cnt u (ls (k % n)) < 6 := by have := cnt_le u (ls (k % n)); omega
        have head : ∀ q (v4 v5 v8 v9 v10 : Value), ev (d + 2) t_Mo_smalls 297 [.ref 62, .int (nI i), .int (nI n), .int (nI (bm u)), v4, v5, .int (nI s), .int (nI k), .int (nI (k % n)), .int (nI (g s (k / n) (k % n))), v10] [] (hp Y F C) q → ev (d + 2) t_Mo_smalls 258 [.ref 62, .int (nI i), .int (nI n), .int (nI (bm u)), v4, v5, .int (nI s), .int (nI k), v8, v9, v10] [] (hp Y F C) q := by
          intro q v4 v5 v8 v9 v10 hq
          repeat (refine ev_np [] rfl rfl rfl ?_)
          rw [h3n]
          refine ev_ie (nI_ge hk (by omega)) ?_
          repeat (refine ev_np [] rfl rfl rfl ?_)
          rw [sh_bm _ (by omega), hus]
          repeat (refine ev_np [] rfl rfl rfl ?_)
          refine ev_rm rfl (by omega) (by omega) (by omega) ?_
          repeat (refine ev_np [] rfl rfl rfl ?_)
          refine ev_dv rfl (by omega) (by omega) (by omega) ?_
          repeat (refine ev_np [] rfl rfl rfl ?_)
          refine ev_vc rfl (by rfl) (by rfl) rfl (c_Mo_of d (by omega) (j3 i n g (by omega) (by omega) hm) (by omega) hk3 (by omega)) ?_
          repeat (refine ev_np [297] rfl rfl rfl ?_)
          exact hq
        by_cases e1 : g s (k / n) (k % n) = 0
        · have hsame : cfo g ls u (K + 1) = cfo g ls u K := cst_0 (Or.inr (by rw [k1, k2, k3]; exact e1))
          rw [hsame]
          refine ⟨C, ⟨j1, j2, j3⟩, fun q hq v4 v5 v8 v9 v10 => head q _ _ _ _ _ ?_⟩
          rw [nI_succ] at hq
          rw [e1]
          repeat (refine ev_np [258] rfl rfl rfl ?_)
          exact hq _ _ _ _ _
        · obtain ⟨acc, hacc⟩ : ∃ acc, acc = cfo g ls u K (cnt u s) (k / n) (cnt u (ls (k % n))) := ⟨_, rfl⟩
          have hacc2 : acc ≤ 2 := by rw [hacc]; exact hle2 _ _ _ _
          have hat := j2.2 (cnt u s) (k / n) (cnt u (ls (k % n))) r1 hk3 r2
          rw [← hacc] at hat
          refine ⟨va_up C 63 (upd (C 63) (108 * 6 + 18 * cnt u s + 6 * (k / n) + cnt u (ls (k % n))) (nI (max acc (g s (k / n) (k % n))))), ⟨j1.tr (sA.up (by decide)), ?_, fun i' n' g' h8 h6' hm' => (j3 i' n' g' h8 h6' hm').keep h6' _ r1 hk3 r2⟩, fun q hq v4 v5 v8 v9 v10 => head q _ _ _ _ _ ?_⟩
          · rw [hcs, ← hacc]
            exact j2.put r1 hk3 r2
          · rw [nI_succ] at hq
            repeat (refine ev_np [] rfl rfl rfl ?_)
            refine ev_ie (nI_nle (by omega) (by omega)) ?_
            repeat (first | refine ev_np [] rfl rfl rfl ?_ | refine ev_grs [] rfl rfl (by rfl) (by rfl) ?_)
            refine ev_an rfl (by rfl) rfl (by omega) rfl ?_
            rw [j1 72 (by decide), h72 s hs]
            repeat (refine ev_np [] rfl rfl rfl ?_)
            refine ev_dv rfl (by omega) (by omega) (by omega) ?_
            repeat (first | refine ev_np [] rfl rfl rfl ?_ | refine ev_grs [] rfl rfl (by rfl) (by rfl) ?_)
            refine ev_an rfl (by rfl) rfl (by omega) rfl ?_
            rw [j1 71 (by decide), h71 _ hkn]
            refine ev_an rfl (by rfl) rfl (by omega) rfl ?_
            rw [j1 72 (by decide), h72 _ (by omega)]
            refine ev_ca rfl (c_Mo_at (d + 1) 6 (cnt u s) (k / n) (cnt u (ls (k % n)))) ?_
            repeat (first | refine ev_np [] rfl rfl rfl ?_ | refine ev_grs [] rfl rfl (by rfl) (by rfl) ?_)
            refine ev_an rfl (by rfl) rfl (by omega) rfl ?_
            rw [hat]
            repeat (refine ev_np [] rfl rfl rfl ?_)
            by_cases e2 : acc < g s (k / n) (k % n)
            · refine ev_ie (nI_ge e2 (by omega)) ?_
              repeat (refine ev_np [] rfl rfl rfl ?_)
              refine ev_am rfl (by rfl) rfl (by omega) rfl ?_
              repeat (refine ev_np [258] rfl rfl rfl ?_)
              rw [show max acc (g s (k / n) (k % n)) = g s (k / n) (k % n) by omega] at hq
              exact hq _ _ _ _ _
            · refine ev_it (nI_le (by omega) (by omega)) ?_
              repeat (first | refine ev_np [] rfl rfl rfl ?_ | refine ev_grs [] rfl rfl (by rfl) (by rfl) ?_)
              refine ev_an rfl (by rfl) rfl (by omega) rfl ?_
              rw [hat]
              refine ev_am rfl (by rfl) rfl (by omega) rfl ?_
              repeat (refine ev_np [258] rfl rfl rfl ?_)
              rw [show max acc (g s (k / n) (k % n)) = acc by omega] at hq
              exact hq _ _ _ _ _) (3 * n) 0 B (Nat.zero_add _) ⟨i1, by rw [Nat.zero_div, Nat.zero_mod]; exact i2, i3⟩
      refine ⟨B1, ⟨j1, ?_, j3⟩, fun q hq v4 v5 v7 v8 v9 v10 => ?_⟩
      · rw [show 18 * s + 6 * (3 * n / n) + 3 * n % n = 18 * (s + 1) by rw [Nat.mul_div_cancel _ (by omega), Nat.mul_mod_left]; omega] at j2
        exact j2
      · repeat (refine ev_np [] rfl rfl rfl ?_)
        refine ev_ie (nI_ge hs (by omega)) ?_
        repeat (refine ev_np [258] rfl rfl rfl ?_)
        refine h3 q (fun v4 v5 v8 v9 v10 => ?_) _ _ _ _ _
        rw [nI_succ] at hq
        repeat (refine ev_np [] rfl rfl rfl ?_)
        rw [h3n]
        refine ev_it (nI_le (Nat.le_refl _) (by omega)) ?_
        repeat (refine ev_np [249] rfl rfl rfl ?_)
        exact hq _ _ _ _ _ _) n 0 A (Nat.zero_add n) ⟨sA.rf, h6, fun _ _ _ _ _ h => h⟩
  refine ⟨A1, i1, i2, i3, fun q hq v4 v5 v7 v8 v9 v10 => h3 q (fun v4 v5 v7 v8 v9 v10 => ?_) _ _ _ _ _ _⟩
  repeat (refine ev_np [] rfl rfl rfl ?_)
  refine ev_it (nI_le (Nat.le_refl _) (by omega)) ?_
  exact hq _ _ _ _ _ _ _
set_option maxRecDepth 20000 in
theorem c_Mo_smalls {i : Nat} (hi : i < 6) (hm : MP A i n g) (hg : GW n g) : ∃ A', xa_rn xa_ms (d + 5) n_Mo_smalls [.ref 62, .int (nI i)] (hp Y F A) none (hp Y F A') ∧ sA [63, 64, 70, 71, 72] A A' ∧ (∀ i' n' g', i' < 8 → i' ≠ 6 → MP A i' n' g' → MP A' i' n' g') ∧ MP A' 6 (cnt (rch g (lst n (wE n n g g)) n 6) 6) (cfo g (lst n (wE n n g g)) (rch g (lst n (wE n n g g)) n 6) 108) := by
  have hn := hg.1
  obtain ⟨ls, hls⟩ : ∃ ls, ls = lst n (wE n n g g) := ⟨_, rfl⟩
  have hl : ∀ t, ls t ≤ t := fun t => by rw [hls]; exact lst_le n _ t
  rw [← hls]
  obtain ⟨u, hu⟩ : ∃ u, u = rch g ls n 6 := ⟨_, rfl⟩
  have hui : ∀ t, u t = true → t < n := fun t ht => rch_in hg hl 6 t (by rw [← hu]; exact ht)
  rw [← hu]
  obtain ⟨A1, a1, a2, a3⟩ := c_Mo_goes (Y := Y) (F := F) d (i := i) (j := i) (by omega) (by omega) hm hm hg hg
  obtain ⟨A2, b1, b2, b3⟩ := c_Mo_least (Y := Y) (F := F) (A := A1) (d + 3) (i := i) hn.2 a3 (wE_lt n n g g)
  rw [← hls] at b2
  have k2 : ∀ i' n' g', MP A i' n' g' → MP A2 i' n' g' := fun i' n' g' h => h.frame (by rw [b1 63 (by decide), a2 63 (by decide)]) (by rw [b1 64 (by decide), a2 64 (by decide)])
  have c3 := c_Mo_reach (Y := Y) (F := F) (A := A2) (d + 2) (i := i) (by omega) (k2 _ _ _ hm) hg hl b2
  rw [← hu] at c3
  obtain ⟨A3, d1, d2, d3⟩ := c_Mo_numb (Y := Y) (F := F) (A := A2) (d + 3) (i := i) hn.2 u
  have k3 : ∀ i' n' g', MP A i' n' g' → MP A3 i' n' g' := fun i' n' g' h => (k2 _ _ _ h).frame (d1 63 (by decide)) (d1 64 (by decide))
  obtain ⟨A4, e1, e2, e3, e4⟩ := c_Mo_empties (Y := Y) (F := F) (A := A3) (d + 3) (i := 6) (by decide) (cnt u n)
  have k4 : ∀ i' n' g', i' < 8 → i' ≠ 6 → MP A i' n' g' → MP A4 i' n' g' := fun i' n' g' h8 h6 h => e4 _ _ _ h8 h6 (k3 _ _ _ h)
  obtain ⟨A5, f1, f2, f3, f4⟩ := c_Mo_carry (Y := Y) (F := F) (A := A4) (d + 2) hi (k4 _ _ _ (by omega) (by omega) hm) hg hl (u := u) (fun t ht => by rw [e2 71 (by decide), d1 71 (by decide)]; exact b2 t ht) (fun t ht => by rw [e2 72 (by decide)]; exact d2 t ht) e3
  refine ⟨A5, ?_, (a2.mono (by decide)).tr ((b1.mono (by decide)).tr ((d1.mono (by decide)).tr ((e2.mono (by decide)).tr (f1.mono (by decide))))), fun i' n' g' h8 h6 h => f3 _ _ _ h8 h6 (k4 _ _ _ h8 h6 h), ?_⟩
  · refine rn_in m_Mo_smalls rfl ⟨rfl, rfl⟩ ?_
    show ev _ t_Mo_smalls 0 [.ref 62, .int (nI i), .float 0, .float 0, .float 0, .float 0, .float 0, .float 0, .float 0, .float 0, .float 0] [] _ _
    repeat (refine ev_np [] rfl rfl rfl ?_)
    refine ev_vc rfl (by rfl) (by rfl) rfl (a1) ?_
    repeat (first | refine ev_np [] rfl rfl rfl ?_ | refine ev_grs [] rfl rfl (by rfl) (by rfl) ?_)
    refine ev_an rfl (by rfl) rfl (by omega) rfl ?_
    rw [a2 64 (by decide), hm.1]
    repeat (refine ev_np [15] rfl rfl rfl ?_)
    refine b3 _ (fun v3 v4 v5 v6 v7 v8 v9 v10 => ?_) _ _ _ _ _ _ _
    refine c3 _ (fun v4 v5 v6 v7 v8 v9 v10 => ?_) _ _ _ _ _ _ _ _
    refine d3 _ (fun v4 v6 v7 v8 v9 v10 => ?_) _ _ _ _ _ _ _
    repeat (refine ev_np [] rfl rfl rfl ?_)
    refine ev_vc rfl (by rfl) (by rfl) rfl (e1) ?_
    repeat (refine ev_np [249] rfl rfl rfl ?_)
    refine f4 _ (fun v4 v5 v6 v7 v8 v9 v10 => ?_) _ _ _ _ _ _
    exact ev_rv rfl
  · rw [cnt_in hui 6 hn.2, show (108 : Nat) = 18 * n + (108 - 18 * n) by omega, cfo_skip (108 - 18 * n) (fun k h1 h2 => Or.inl (by
      cases hk : u (k / 18) with
      | false => rfl
      | true =>
        have := hui _ hk
        omega))]
    exact f2
end SMB
