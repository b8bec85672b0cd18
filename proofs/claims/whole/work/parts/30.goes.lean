/-! ===== the model's rounds ===== -/
section GOES
variable {Y : Nat × (Nat → Int32)} {F A : Nat → Nat → Int32} {i j n1 n2 : Nat} {g1 g2 : Nat → Nat → Nat → Nat} (d : Nat)
/-- in the midst of a round: the pairs before m are done -/
def JM (A : Nat → Nat → Int32) (n1 n2 : Nat) (g1 g2 : Nat → Nat → Nat → Nat) (R : Nat) (w : Nat → Nat) (m : Nat) (C : Nat → Nat → Int32) (more : Bool) : Prop := sA [70] A C ∧ (∀ k, k < 36 → C 70 k = nI (if k < m then w1 n1 n2 g1 g2 R w k else w k)) ∧ more = (List.range m).any (gok n1 n2 g1 g2 w)
theorem JM.bump {R : Nat} {w : Nat → Nat} {m : Nat} {C : Nat → Nat → Int32} {more : Bool} (h : JM A n1 n2 g1 g2 R w m C more) (hg : gok n1 n2 g1 g2 w m = false) : JM A n1 n2 g1 g2 R w (m + 1) C more := by
  obtain ⟨h1, h2, h3⟩ := h
  refine ⟨h1, fun k hk => ?_, by rw [anyB, hg, h3]; simp⟩
  rw [h2 k hk]
  by_cases e : k = m
  · subst e
    have : w1 n1 n2 g1 g2 R w k = w k := by unfold w1; rw [hg]; rfl
    simp [this]
  · by_cases e2 : k < m
    · simp [e2, show k < m + 1 by omega]
    · simp [e2, show ¬ k < m + 1 by omega]
theorem gok_out {w : Nat → Nat} {s t : Nat} (ht6 : t < 6) (ht : n2 ≤ t) : gok n1 n2 g1 g2 w (6 * s + t) = false := by
  unfold gok rs
  rw [show (6 * s + t) / 6 = s by omega, show (6 * s + t) % 6 = t by omega]
  simp [show ¬ t < n2 by omega]
theorem gok_out1 {w : Nat → Nat} {s t : Nat} (ht6 : t < 6) (hs : n1 ≤ s) : gok n1 n2 g1 g2 w (6 * s + t) = false := by
  unfold gok rs
  rw [show (6 * s + t) / 6 = s by omega, show (6 * s + t) % 6 = t by omega]
  simp [show ¬ s < n1 by omega]
theorem JM.bumps {R : Nat} {w : Nat → Nat} {C : Nat → Nat → Int32} {more : Bool} (e : Nat) : ∀ (c m : Nat), m + c = e → (∀ k, m ≤ k → k < e → gok n1 n2 g1 g2 w k = false) → JM A n1 n2 g1 g2 R w m C more → JM A n1 n2 g1 g2 R w e C more := by
  intro c
  induction c with
  | zero => intro m hm _ h; rw [show e = m by omega]; exact h
  | succ c ih => intro m hm hk h; exact ih (m + 1) (by omega) (fun k h1 h2 => hk k (by omega) h2) (h.bump (hk m (Nat.le_refl m) (by omega)))
theorem hg_or (f : Nat → Nat) : hg f = (List.range 3).any (fun l => decide (f l ≠ 0)) := by
  unfold hg
  simp [List.range_succ, Bool.or_assoc]
set_option maxHeartbeats 2000000 in
theorem c_Mo_round (hi : i < 8) (hj : j < 8) (hm1 : MP A i n1 g1) (hm2 : MP A j n2 g2) (hw1 : GW n1 g1) (hw2 : GW n2 g2) {R : Nat} (hR : R < 900) {w : Nat → Nat} (hw : WE A 70 w) (hwl : ∀ k, w k < R) : ∃ A', sA [70] A A' ∧ WE A' 70 (w1 n1 n2 g1 g2 R w) ∧ ∀ q0 (v5 v6 v7 v8 : Value), (∀ v5 v6 v7 v8 : Value, ev (d + 3) t_Mo_goes 26 [.ref 62, .int (nI i), .int (nI j), .int (z01 ((List.range 36).any (gok n1 n2 g1 g2 w))), .int (nI (R + 1)), v5, v6, v7, v8] [] (hp Y F A') q0) → ev (d + 3) t_Mo_goes 26 [.ref 62, .int (nI i), .int (nI j), .int 1, .int (nI R), v5, v6, v7, v8] [] (hp Y F A) q0 := by
  have hn1 := hw1.1.2
  have hn2 := hw2.1.2
  -- one pair
  have pair : ∀ s t, s < n1 → t < n2 → ∀ C more, JM A n1 n2 g1 g2 R w (6 * s + t) C more → ∃ C' more', JM A n1 n2 g1 g2 R w (6 * s + t + 1) C' more' ∧ ∀ q0 (v7 v8 : Value), (∀ v7 v8 : Value, ev (d + 3) t_Mo_goes 143 [.ref 62, .int (nI i), .int (nI j), .int (z01 more'), .int (nI R), .int (nI s), .int (nI t), v7, v8] [] (hp Y F C') q0) → ev (d + 3) t_Mo_goes 60 [.ref 62, .int (nI i), .int (nI j), .int (z01 more), .int (nI R), .int (nI s), .int (nI t), v7, v8] [] (hp Y F C) q0 := by
    intro s t hs ht C more hJ
    obtain ⟨j1, j2, j3⟩ := id hJ
    have hm1' : MP C i n1 g1 := hm1.frame (j1 63 (by decide)) (j1 64 (by decide))
    have hm2' : MP C j n2 g2 := hm2.frame (j1 63 (by decide)) (j1 64 (by decide))
    have hix : 6 * nI s + nI t = nI (6 * s + t) := by rw [show (6 : Int32) = nI 6 from rfl, pk_mul, nI_add]
    obtain ⟨w', hw'⟩ : ∃ w' : Nat → Nat, w' = fun k => if k < 6 * s + t then w1 n1 n2 g1 g2 R w k else w k := ⟨_, rfl⟩
    have hw'W : WE C 70 w' := fun k hk => by rw [j2 k hk, hw']
    have hw'l : ∀ k, w' k < 1000 := fun k => by
      rw [hw']
      have := hwl k
      dsimp only
      unfold w1
      split
      · cases gok n1 n2 g1 g2 w k <;> simp <;> omega
      · omega
    have hth : ∀ a b, (decide (w' (6 * a + b) = 0) || decide (R ≤ w' (6 * a + b))) = decide (w (6 * a + b) = 0) := by
      intro a b
      have h1 := hwl (6 * a + b)
      by_cases e : 6 * a + b < 6 * s + t
      · have hv : w' (6 * a + b) = w1 n1 n2 g1 g2 R w (6 * a + b) := by rw [hw']; exact if_pos e
        rw [hv]
        unfold w1
        cases hgo : gok n1 n2 g1 g2 w (6 * a + b) with
        | true =>
          have h0 : w (6 * a + b) = 0 := by
            unfold gok rs at hgo
            simp only [Bool.and_eq_true, decide_eq_true_eq] at hgo
            rw [show 6 * ((6 * a + b) / 6) + (6 * a + b) % 6 = 6 * a + b by omega] at hgo
            exact hgo.1.2
          simp [h0]
        | false => simp [show ¬ R ≤ w (6 * a + b) by omega]
      · have hv : w' (6 * a + b) = w (6 * a + b) := by rw [hw']; exact if_neg e
        rw [hv]
        simp [show ¬ R ≤ w (6 * a + b) by omega]
    have hsd : ∀ l, sM n1 n2 g1 g2 (fun a b => decide (w' (6 * a + b) = 0) || decide (R ≤ w' (6 * a + b))) s t l = sd g1 g2 (rs n1 n2 w) s t l := fun l => (sM_eq hw1 hw2 (fun a b ha hb => by rw [hth]; unfold rs; simp [ha, hb]) s t l).symm
    have hwst : C 70 (6 * s + t) = nI (w (6 * s + t)) := by rw [j2 _ (by omega)]; simp
    have hgk : gok n1 n2 g1 g2 w (6 * s + t) = (decide (w (6 * s + t) = 0) && hg (sd g1 g2 (rs n1 n2 w) s t)) := by
      unfold gok
      rw [show (6 * s + t) / 6 = s by omega, show (6 * s + t) % 6 = t by omega]
      congr 1
      unfold rs
      simp [hs, ht]
    have hlt := hwl (6 * s + t)
    -- the letters
    have letters : ∀ q0 (v8 : Value), (∀ v8 : Value, ev (d + 3) t_Mo_goes 121 [.ref 62, .int (nI i), .int (nI j), .int (z01 more), .int (nI R), .int (nI s), .int (nI t), .int (z01 (gok n1 n2 g1 g2 w (6 * s + t))), v8] [] (hp Y F C) q0) → ev (d + 3) t_Mo_goes 66 [.ref 62, .int (nI i), .int (nI j), .int (z01 more), .int (nI R), .int (nI s), .int (nI t), .int 0, .int 0] [] (hp Y F C) q0 := by
      intro q0 v8 h
      by_cases e0 : w (6 * s + t) = 0
      · have h1 := lp_to (E := fun l q => ev (d + 3) t_Mo_goes 66 [.ref 62, .int (nI i), .int (nI j), .int (z01 more), .int (nI R), .int (nI s), .int (nI t), .int (z01 ((List.range l).any (fun l => decide (sd g1 g2 (rs n1 n2 w) s t l ≠ 0)))), .int (nI l)] [] (hp Y F C) q) 3 (fun l hl q hq => by
          rw [nI_succ, anyB, ← z01_or] at hq
          repeat (refine ev_np [] rfl rfl rfl ?_)
          refine ev_ie (nI_ge (b := 3) hl (by omega)) ?_
          repeat (refine ev_np [] rfl rfl rfl ?_)
          refine ev_gr rfl (by rfl) (by rfl) ?_
          repeat (refine ev_np [] rfl rfl rfl ?_)
          refine ev_an rfl (by rfl) (j := 6 * s + t) hix (by omega) rfl ?_
          rw [hwst, e0]
          repeat (refine ev_np [] rfl rfl rfl ?_)
          have hc9 := c_Mo_why (Y := Y) (F := F) d hi hj hm1' hm2' hn1 hn2 (fun s l t => (hw1.2 s l t).1) (fun s l t => (hw2.2 s l t).1) hw'W hw'l (s := s) (t := t) (l := l) (R := R) (by omega) (by omega) hl (by omega)
          rw [hsd] at hc9
          refine ev_vc rfl (by rfl) (by rfl) rfl (hc9) ?_
          repeat (refine ev_np [] rfl rfl rfl ?_)
          have hle := sd_le g1 g2 (rs n1 n2 w) s t l
          by_cases e : sd g1 g2 (rs n1 n2 w) s t l = 0
          · rw [e]
            rw [decide_eq_false (fun z => z e)] at hq
            repeat (refine ev_np [66] rfl rfl rfl ?_)
            exact hq
          · refine ev_ie (nI_nle (by omega) (by omega)) ?_
            rw [decide_eq_true e] at hq
            repeat (refine ev_np [66] rfl rfl rfl ?_)
            exact hq) q0 (by
          repeat (refine ev_np [121] rfl rfl rfl ?_)
          have h9 := h (.int (nI 3))
          rw [hgk, hg_or, decide_eq_true e0, Bool.true_and] at h9
          exact h9)
        exact h1
      · have hgf : gok n1 n2 g1 g2 w (6 * s + t) = false := by rw [hgk]; simp [e0]
        rw [hgf] at h
        repeat (refine ev_np [] rfl rfl rfl ?_)
        refine ev_gr rfl (by rfl) (by rfl) ?_
        repeat (refine ev_np [] rfl rfl rfl ?_)
        refine ev_an rfl (by rfl) (j := 6 * s + t) hix (by omega) rfl ?_
        rw [hwst]
        repeat (refine ev_np [] rfl rfl rfl ?_)
        refine ev_it (nI_ne0 (by omega) (by omega)) ?_
        exact h _
    cases hgo : gok n1 n2 g1 g2 w (6 * s + t) with
    | false =>
      refine ⟨C, more, hJ.bump hgo, fun q0 v7 v8 h => ?_⟩
      repeat (refine ev_np [66] rfl rfl rfl ?_)
      refine letters q0 v8 (fun v8 => ?_)
      rw [hgo]
      repeat (refine ev_np [143] rfl rfl rfl ?_)
      exact h _ _
    | true =>
      refine ⟨va_up C 70 (upd (C 70) (6 * s + t) (nI R)), true, ⟨j1.tr (sA.up (by decide)), fun k hk => ?_, by rw [anyB, hgo]; simp⟩, fun q0 v7 v8 h => ?_⟩
      · have e9 : va_up C 70 (upd (C 70) (6 * s + t) (nI R)) 70 = upd (C 70) (6 * s + t) (nI R) := va_up_s _ _ _
        rw [e9]
        unfold upd
        by_cases e : k = 6 * s + t
        · subst e
          have : w1 n1 n2 g1 g2 R w (6 * s + t) = R := by unfold w1; rw [hgo]; rfl
          simp [this]
        · rw [if_neg e, j2 k hk]
          by_cases e2 : k < 6 * s + t
          · simp [e2, show k < 6 * s + t + 1 by omega]
          · simp [e2, show ¬ k < 6 * s + t + 1 by omega]
      · repeat (refine ev_np [66] rfl rfl rfl ?_)
        refine letters q0 v8 (fun v8 => ?_)
        rw [hgo]
        repeat (refine ev_np [] rfl rfl rfl ?_)
        refine ev_gr rfl (by rfl) (by rfl) ?_
        repeat (refine ev_np [] rfl rfl rfl ?_)
        refine ev_am rfl (by rfl) hix (by omega) rfl ?_
        repeat (refine ev_np [143] rfl rfl rfl ?_)
        exact h _ _
  -- a row of pairs
  have row : ∀ s, s < n1 → ∀ C more, JM A n1 n2 g1 g2 R w (6 * s) C more → ∃ C' more', JM A n1 n2 g1 g2 R w (6 * (s + 1)) C' more' ∧ ∀ q0 (v6 v7 v8 : Value), (∀ v6 v7 v8 : Value, ev (d + 3) t_Mo_goes 149 [.ref 62, .int (nI i), .int (nI j), .int (z01 more'), .int (nI R), .int (nI s), v6, v7, v8] [] (hp Y F C') q0) → ev (d + 3) t_Mo_goes 49 [.ref 62, .int (nI i), .int (nI j), .int (z01 more), .int (nI R), .int (nI s), .int 0, v7, v8] [] (hp Y F C) q0 := by
    intro s hs C more hJ
    obtain ⟨⟨C', more'⟩, h1, h2⟩ := lp_ex (α := (Nat → Nat → Int32) × Bool) (fun t X => JM A n1 n2 g1 g2 R w (6 * s + t) X.1 X.2) (fun t X q0 => ∀ v7 v8 : Value, ev (d + 3) t_Mo_goes 49 [.ref 62, .int (nI i), .int (nI j), .int (z01 X.2), .int (nI R), .int (nI s), .int (nI t), v7, v8] [] (hp Y F X.1) q0) n2 (fun t X ht hI => by
      obtain ⟨C1, m1⟩ := X
      dsimp only at hI ⊢
      obtain ⟨C2, m2, k1, k2⟩ := pair s t hs ht C1 m1 hI
      refine ⟨(C2, m2), k1, fun q0 h v7 v8 => ?_⟩
      dsimp only at h
      have h64 : C1 64 j = nI n2 := by rw [hI.1 64 (by decide)]; exact hm2.1
      repeat (refine ev_np [] rfl rfl rfl ?_)
      refine ev_gr rfl (by rfl) (by rfl) ?_
      repeat (refine ev_np [] rfl rfl rfl ?_)
      refine ev_an rfl (by rfl) rfl (by omega) rfl ?_
      rw [h64]
      repeat (refine ev_np [] rfl rfl rfl ?_)
      refine ev_ie (nI_ge ht (by omega)) ?_
      refine k2 q0 v7 v8 (fun v7 v8 => ?_)
      repeat (refine ev_np [49] rfl rfl rfl ?_)
      have h9 := h v7 v8
      rw [nI_succ] at h9
      exact h9) n2 0 (C, more) (by omega) hJ
    dsimp only at h1 h2
    refine ⟨C', more', JM.bumps (6 * (s + 1)) (6 - n2) (6 * s + n2) (by omega) (fun k h3 h4 => ?_) h1, fun q0 v6 v7 v8 h => ?_⟩
    · rw [show k = 6 * s + (k - 6 * s) by omega]
      exact gok_out (by omega) (by omega)
    · refine h2 q0 (fun v7 v8 => ?_) v7 v8
      have h64 : C' 64 j = nI n2 := by rw [h1.1 64 (by decide)]; exact hm2.1
      repeat (refine ev_np [] rfl rfl rfl ?_)
      refine ev_gr rfl (by rfl) (by rfl) ?_
      repeat (refine ev_np [] rfl rfl rfl ?_)
      refine ev_an rfl (by rfl) rfl (by omega) rfl ?_
      rw [h64]
      repeat (refine ev_np [] rfl rfl rfl ?_)
      refine ev_it (nI_le (Nat.le_refl _) (by omega)) ?_
      exact h _ _ _
  obtain ⟨⟨C', more'⟩, h1, h2⟩ := lp_ex (α := (Nat → Nat → Int32) × Bool) (fun s X => JM A n1 n2 g1 g2 R w (6 * s) X.1 X.2) (fun s X q0 => ∀ v6 v7 v8 : Value, ev (d + 3) t_Mo_goes 35 [.ref 62, .int (nI i), .int (nI j), .int (z01 X.2), .int (nI R), .int (nI s), v6, v7, v8] [] (hp Y F X.1) q0) n1 (fun s X hs hI => by
    obtain ⟨C1, m1⟩ := X
    dsimp only at hI ⊢
    obtain ⟨C2, m2, k1, k2⟩ := row s hs C1 m1 hI
    refine ⟨(C2, m2), k1, fun q0 h v6 v7 v8 => ?_⟩
    dsimp only at h
    have h64 : C1 64 i = nI n1 := by rw [hI.1 64 (by decide)]; exact hm1.1
    repeat (refine ev_np [] rfl rfl rfl ?_)
    refine ev_gr rfl (by rfl) (by rfl) ?_
    repeat (refine ev_np [] rfl rfl rfl ?_)
    refine ev_an rfl (by rfl) rfl (by omega) rfl ?_
    rw [h64]
    repeat (refine ev_np [] rfl rfl rfl ?_)
    refine ev_ie (nI_ge hs (by omega)) ?_
    repeat (refine ev_np [49] rfl rfl rfl ?_)
    refine k2 q0 (.int 0) v7 v8 (fun v6 v7 v8 => ?_)
    repeat (refine ev_np [35] rfl rfl rfl ?_)
    have h9 := h v6 v7 v8
    rw [nI_succ] at h9
    exact h9) n1 0 (A, false) (by omega) ⟨sA.rf, fun k hk => by show A 70 k = _; rw [hw k hk]; simp, rfl⟩
  dsimp only at h1 h2
  have hJ := JM.bumps 36 (36 - 6 * n1) (6 * n1) (by omega) (fun k h3 h4 => by
    rw [show k = 6 * (k / 6) + k % 6 by omega]
    exact gok_out1 (by omega) (by omega)) h1
  obtain ⟨j1, j2, j3⟩ := hJ
  refine ⟨C', j1, fun k hk => by rw [j2 k hk]; simp [hk], fun q0 v5 v6 v7 v8 h => ?_⟩
  repeat (refine ev_np [35] rfl rfl rfl ?_)
  refine h2 q0 (fun v6 v7 v8 => ?_) v6 v7 v8
  have h64 : C' 64 i = nI n1 := by rw [j1 64 (by decide)]; exact hm1.1
  repeat (refine ev_np [] rfl rfl rfl ?_)
  refine ev_gr rfl (by rfl) (by rfl) ?_
  repeat (refine ev_np [] rfl rfl rfl ?_)
  refine ev_an rfl (by rfl) rfl (by omega) rfl ?_
  rw [h64]
  repeat (refine ev_np [] rfl rfl rfl ?_)
  refine ev_it (nI_le (Nat.le_refl _) (by omega)) ?_
  repeat (refine ev_np [26] rfl rfl rfl ?_)
  rw [← j3, nI_succ] at h
  exact h _ _ _ _
theorem c_Mo_goes (hi : i < 8) (hj : j < 8) (hm1 : MP A i n1 g1) (hm2 : MP A j n2 g2) (hw1 : GW n1 g1) (hw2 : GW n2 g2) : ∃ A', xa_rn xa_ms (d + 4) n_Mo_goes [.ref 62, .int (nI i), .int (nI j)] (hp Y F A) none (hp Y F A') ∧ sA [70] A A' ∧ WE A' 70 (wE n1 n2 g1 g2) := by
  obtain ⟨A2, hA2⟩ : ∃ A2, A2 = va_up A 70 (fun j => if j < 36 then 0 else A 70 j) := ⟨_, rfl⟩
  have sA2 : sA [70] A A2 := by rw [hA2]; exact sA.up (by decide)
  have fill : ∀ q0, (∀ v3 : Value, ev (d + 3) t_Mo_goes 21 [.ref 62, .int (nI i), .int (nI j), v3, .float 0, .float 0, .float 0, .float 0, .float 0] [] (hp Y F A2) q0) → ev (d + 3) t_Mo_goes 2 [.ref 62, .int (nI i), .int (nI j), .int 0, .float 0, .float 0, .float 0, .float 0, .float 0] [] (hp Y F A) q0 := by
    intro q0 h
    have h0 : A = va_up A 70 (fun j => if j < 0 then 0 else A 70 j) := by
      have : (fun j => if j < 0 then 0 else A 70 j) = A 70 := by funext j; simp
      rw [this, va_up_id]
    refine (congrArg (fun B => ev (d + 3) t_Mo_goes 2 [.ref 62, .int (nI i), .int (nI j), .int 0, .float 0, .float 0, .float 0, .float 0, .float 0] [] (hp Y F B) q0) h0).mpr ?_
    refine lp_to (E := fun k q => ev (d + 3) t_Mo_goes 2 [.ref 62, .int (nI i), .int (nI j), .int (nI k), .float 0, .float 0, .float 0, .float 0, .float 0] [] (hp Y F (va_up A 70 (fun j => if j < k then 0 else A 70 j))) q) 36 (fun k hk q hq => ?_) _ ?_
    · repeat (refine ev_np [] rfl rfl rfl ?_)
      refine ev_ie (nI_ge (b := 36) hk (by omega)) ?_
      repeat (refine ev_np [] rfl rfl rfl ?_)
      refine ev_gr rfl (by rfl) (by rfl) ?_
      repeat (refine ev_np [] rfl rfl rfl ?_)
      refine ev_am rfl (by rfl) rfl hk rfl ?_
      repeat (refine ev_np [2] rfl rfl rfl ?_)
      rw [bx_uu, va_up_s]
      have e1 : upd (fun j => if j < k then 0 else A 70 j) k 0 = fun j => if j < k + 1 then 0 else A 70 j := by
        funext j
        unfold upd
        by_cases e : j = k
        · simp [e]
        · by_cases e2 : j < k
          · simp [e, e2, show j < k + 1 by omega]
          · simp [e, e2, show ¬ j < k + 1 by omega]
      rw [e1]
      rw [nI_succ] at hq
      exact hq
    · repeat (refine ev_np [21] rfl rfl rfl ?_)
      rw [← hA2]
      exact h _
  have key : ∀ m R (C : Nat → Nat → Int32) (more : Bool), R + m = 37 → sA [70] A C → WE C 70 (wR n1 n2 g1 g2 R) → (more = true ∧ R < 37 ∨ ∃ R0, R = R0 + 1 ∧ more = (List.range 36).any (gok n1 n2 g1 g2 (wR n1 n2 g1 g2 R0))) → ∃ A', sA [70] A A' ∧ WE A' 70 (wE n1 n2 g1 g2) ∧ ∀ q0 (v5 v6 v7 v8 : Value), (∀ v3 v4 v5 v6 v7 v8 : Value, ev (d + 3) t_Mo_goes 161 [.ref 62, .int (nI i), .int (nI j), v3, v4, v5, v6, v7, v8] [] (hp Y F A') q0) → ev (d + 3) t_Mo_goes 26 [.ref 62, .int (nI i), .int (nI j), .int (z01 more), .int (nI (R + 1)), v5, v6, v7, v8] [] (hp Y F C) q0 := by
    intro m
    induction m with
    | zero =>
      intro R C more hR hsA hW hmore
      have hR37 : R = 37 := by omega
      subst hR37
      have hmf : more = false := by
        rcases hmore with ⟨-, h⟩ | ⟨R0, h1, h2⟩
        · omega
        · have : R0 = 36 := by omega
          subst this
          rw [h2]
          cases hz : (List.range 36).any (gok n1 n2 g1 g2 (wR n1 n2 g1 g2 36)) with
          | false => rfl
          | true =>
            obtain ⟨k, hk, hk2⟩ := List.any_eq_true.mp hz
            rw [wR_end k (List.mem_range.mp hk)] at hk2
            cases hk2
      subst hmf
      refine ⟨C, hsA, hW, fun q0 v5 v6 v7 v8 h => ?_⟩
      repeat (refine ev_np [161] rfl rfl rfl ?_)
      exact h _ _ _ _ _ _
    | succ m ih =>
      intro R C more hR hsA hW hmore
      cases more with
      | false =>
        rcases hmore with ⟨h, -⟩ | ⟨R0, rfl, hno⟩
        · cases h
        · have hno := any_false hno.symm
          have hE : ∀ k, k < 36 → wE n1 n2 g1 g2 k = wR n1 n2 g1 g2 (R0 + 1) k := fun k hk => by rw [wE_of (by omega) hno hk]; exact (wR_fix hno 1 k hk).symm
          refine ⟨C, hsA, fun k hk => by rw [hE k hk]; exact hW k hk, fun q0 v5 v6 v7 v8 h => ?_⟩
          repeat (refine ev_np [161] rfl rfl rfl ?_)
          exact h _ _ _ _ _ _
      | true =>
        have hm1' : MP C i n1 g1 := hm1.frame (hsA 63 (by decide)) (hsA 64 (by decide))
        have hm2' : MP C j n2 g2 := hm2.frame (hsA 63 (by decide)) (hsA 64 (by decide))
        obtain ⟨C', b1, b2, b3⟩ := c_Mo_round (Y := Y) (F := F) d hi hj hm1' hm2' hw1 hw2 (R := R + 1) (by omega) hW (fun k => by have := wR_le (n1 := n1) (n2 := n2) (g1 := g1) (g2 := g2) R k; omega)
        obtain ⟨A', c1, c2, c3⟩ := ih (R + 1) C' _ (by omega) (hsA.tr b1) b2 (Or.inr ⟨R, rfl, rfl⟩)
        exact ⟨A', c1, c2, fun q0 v5 v6 v7 v8 h => b3 q0 v5 v6 v7 v8 (fun v5 v6 v7 v8 => c3 q0 v5 v6 v7 v8 h)⟩
  obtain ⟨A', c1, c2, c3⟩ := key 37 0 A2 true rfl sA2 (fun k hk => by rw [hA2, va_up_s]; simp [hk, wR, nI_0]) (Or.inl ⟨rfl, by decide⟩)
  refine ⟨A', ?_, c1, c2⟩
  refine rn_in m_Mo_goes rfl ⟨rfl, rfl⟩ ?_
  show ev _ t_Mo_goes 0 [.ref 62, .int (nI i), .int (nI j), .float 0, .float 0, .float 0, .float 0, .float 0, .float 0] [] _ _
  repeat (refine ev_np [2] rfl rfl rfl ?_)
  refine fill _ (fun v3 => ?_)
  repeat (refine ev_np [26] rfl rfl rfl ?_)
  refine c3 _ _ _ _ _ (fun v3 v4 v5 v6 v7 v8 => ?_)
  exact ev_rv rfl
end GOES
