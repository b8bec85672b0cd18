/-! ===== calls: go, walk, count, states ===== -/
section OPS3
variable {S : SP}
def sGo (S : SP) (l : Nat) : SP := (S.1, S.2.1, S.2.2.1, (S.2.2.2.1, nx S.2.2.2.1.2 S.2.2.2.2.1 l, S.2.2.2.2.2 + 1))
theorem op_go (W : Wf S) (x : Int32) : OP n_MM_go n_Mo_go [.int x] S := by
  obtain ⟨wg, wu, wk⟩ := W.2.2.2
  rcases let3 x with hx | ⟨l, hl, rfl⟩
  · refine op_ro W (-1) (fun Y F A hC => ?_) (fun Y F A hM => ?_)
    · refine rn_in m_MM_go rfl ⟨rfl, rfl⟩ ?_
      show ev _ t_MM_go 0 [.ref 9, .int x] [] _ _
      repeat (refine ev_np [] rfl rfl rfl ?_)
      refine ev_ca rfl (c_MM_noLetterT 78 hx) ?_
      repeat (refine ev_np [] rfl rfl rfl ?_)
      exact ev_ri rfl rfl
    · refine rn_in m_Mo_go rfl ⟨rfl, rfl⟩ ?_
      show ev _ t_Mo_go 0 [.ref 62, .int x, .float 0] [] _ _
      repeat (refine ev_np [] rfl rfl rfl ?_)
      refine ev_pf rfl (by rfl) ⟨by rfl, by rfl⟩ ?_
      repeat (refine ev_np [] rfl rfl rfl ?_)
      refine ev_ca rfl (c_Mo_in 78 _ _ _) ?_
      rw [show (2 : Int32) = nI 2 from rfl, in_T (N := 2) (by omega) hx]
      repeat (refine ev_np [] rfl rfl rfl ?_)
      exact ev_ri rfl rfl
  · obtain ⟨g, hg⟩ : ∃ g, g = S.2.2.2.1.2 := ⟨_, rfl⟩
    obtain ⟨u, hu⟩ : ∃ u, u = S.2.2.2.2.1 := ⟨_, rfl⟩
    obtain ⟨k, hk⟩ : ∃ k, k = S.2.2.2.2.2 := ⟨_, rfl⟩
    have hlt := bm_lt (nx g u l)
    by_cases e : bm (nx g u l) = 0 ∨ k = 200
    · refine op_ro W (if bm (nx g u l) = 0 then -2 else -3) (fun Y F A hC => ?_) (fun Y F A hM => ?_)
      · obtain ⟨d1, d2, d3⟩ := hC.2.2.2
        have h1 := c_Walker_step (Y := Y) 75 d2 d1 hl d3 wk
        rw [← hg, ← hu, ← hk, if_pos e] at h1
        refine rn_in m_MM_go rfl ⟨rfl, rfl⟩ ?_
        show ev _ t_MM_go 0 [.ref 9, .int (nI l)] [] _ _
        repeat (refine ev_np [] rfl rfl rfl ?_)
        refine ev_ca rfl (c_MM_noLetterF 78 hl) ?_
        repeat (first | refine ev_np [] rfl rfl rfl ?_ | refine ev_grs [] rfl rfl (by rfl) (by rfl) ?_)
        refine ev_vc rfl (by rfl) (by rfl) rfl (h1) ?_
        refine ev_ri rfl ?_
        by_cases e1 : bm (nx g u l) = 0
        · rw [if_pos e1, if_pos e1]
        · rw [if_neg e1, if_neg e1, if_pos (e.resolve_left e1)]
      · have hM0 := hM.thrown 0
        obtain ⟨d1, d2, d3⟩ := hM0.2.2.2
        refine rn_in m_Mo_go rfl ⟨rfl, rfl⟩ ?_
        show ev _ t_Mo_go 0 [.ref 62, .int (nI l), .float 0] [] _ _
        repeat (refine ev_np [] rfl rfl rfl ?_)
        refine ev_pf rfl (by rfl) ⟨by rfl, by rfl⟩ ?_
        repeat (refine ev_np [] rfl rfl rfl ?_)
        refine ev_ca rfl (c_Mo_in 78 _ _ _) ?_
        rw [show (2 : Int32) = nI 2 from rfl, in_F (N := 2) (by omega) (by omega)]
        repeat (refine ev_np [] rfl rfl rfl ?_)
        refine ev_vc rfl (by rfl) (by rfl) rfl (c_Mo_onward 76 d2 d1 wg hl) ?_
        rw [← hg, ← hu]
        by_cases e1 : bm (nx g u l) = 0
        · rw [if_pos e1, e1]
          repeat (refine ev_np [] rfl rfl rfl ?_)
          exact ev_ri rfl rfl
        · repeat (refine ev_np [] rfl rfl rfl ?_)
          refine ev_it (nI_ne0 (by omega) (by omega)) ?_
          repeat (refine ev_np [] rfl rfl rfl ?_)
          refine ev_gi rfl (by rfl) (by rfl) ?_
          rw [d3, ← hk, e.resolve_left e1, if_neg e1]
          repeat (refine ev_np [] rfl rfl rfl ?_)
          exact ev_ri rfl rfl
    · have e1 : ¬ bm (nx g u l) = 0 := fun z => e (Or.inl z)
      have e2 : ¬ k = 200 := fun z => e (Or.inr z)
      refine ⟨nI (cnt (nx g u l) 6), sGo S l, ⟨W.1, W.2.1, W.2.2.1, wg, fun s _ hs => ?_, ?_⟩, fun Y F A hC => ?_, fun Y F A hM => ?_⟩
      · obtain ⟨a, -, ha⟩ := List.any_eq_true.mp hs
        simp only [Bool.and_eq_true, decide_eq_true_eq] at ha
        exact ((wg.2 a l s).2 (by omega)).2.2
      · show S.2.2.2.2.2 + 1 ≤ 200
        omega
      · obtain ⟨d1, d2, d3⟩ := hC.2.2.2
        have h1 := c_Walker_step (Y := Y) 75 d2 d1 hl d3 wk
        rw [← hg, ← hu, ← hk, if_neg e, if_neg e1, if_neg e2] at h1
        refine ⟨uF (uF F 58 1 (nI (bm (nx g u l)))) 58 2 (nI (k + 1)), A, ?_, ?_, KM.of (LF := [5801, 5802]) ((sF.up (by decide)).tr (sF.up (by decide))) (sA.rf (L := [])) ⟨rfl, rfl⟩⟩
        · refine rn_in m_MM_go rfl ⟨rfl, rfl⟩ ?_
          show ev _ t_MM_go 0 [.ref 9, .int (nI l)] [] _ _
          repeat (refine ev_np [] rfl rfl rfl ?_)
          refine ev_ca rfl (c_MM_noLetterF 78 hl) ?_
          repeat (first | refine ev_np [] rfl rfl rfl ?_ | refine ev_grs [] rfl rfl (by rfl) (by rfl) ?_)
          refine ev_vc rfl (by rfl) (by rfl) rfl (h1) ?_
          exact ev_ri rfl rfl
        · obtain ⟨⟨a1, a2⟩, b, ⟨c1, c2, c3⟩, -⟩ := hC
          exact ⟨⟨by rw [uF_n _ _ (by decide), uF_n _ _ (by decide)]; exact a1, a2⟩, fun i hi => (b i hi).frame (by rw [uF_n _ _ (by omega), uF_n _ _ (by omega)]) rfl rfl, ⟨by rw [uF_n _ _ (by decide), uF_n _ _ (by decide)]; exact c1, by rw [uF_n _ _ (by decide), uF_n _ _ (by decide)]; exact c2, c3⟩, d1.frame (by rw [uF_n _ _ (by decide), uF_n _ _ (by decide)]) rfl rfl, by rw [uF_n _ _ (by decide), uF_s, hg, hu]; rfl, by rw [uF_s, hk]; rfl⟩
      · have hM0 := hM.thrown 0
        obtain ⟨d1, d2, d3⟩ := hM0.2.2.2
        refine ⟨uF (uF (uF F 62 0 0) 62 23 (nI (bm (nx g u l)))) 62 24 (nI k + 1), A, ?_, ?_, ((KC.fld F A 0 0).tr (KC.fld _ _ _ _)).tr (KC.fld _ _ _ _)⟩
        · refine rn_in m_Mo_go rfl ⟨rfl, rfl⟩ ?_
          show ev _ t_Mo_go 0 [.ref 62, .int (nI l), .float 0] [] _ _
          repeat (refine ev_np [] rfl rfl rfl ?_)
          refine ev_pf rfl (by rfl) ⟨by rfl, by rfl⟩ ?_
          repeat (refine ev_np [] rfl rfl rfl ?_)
          refine ev_ca rfl (c_Mo_in 78 _ _ _) ?_
          rw [show (2 : Int32) = nI 2 from rfl, in_F (N := 2) (by omega) (by omega)]
          repeat (refine ev_np [] rfl rfl rfl ?_)
          refine ev_vc rfl (by rfl) (by rfl) rfl (c_Mo_onward 76 d2 d1 wg hl) ?_
          rw [← hg, ← hu]
          repeat (refine ev_np [] rfl rfl rfl ?_)
          refine ev_it (nI_ne0 (by omega) (by omega)) ?_
          repeat (refine ev_np [] rfl rfl rfl ?_)
          refine ev_gi rfl (by rfl) (by rfl) ?_
          rw [d3, ← hk]
          repeat (refine ev_np [] rfl rfl rfl ?_)
          refine ev_it (fun z => e2 ((nI_eq (a := k) (b := 200) (by omega) (by omega)).mp z)) ?_
          repeat (refine ev_np [] rfl rfl rfl ?_)
          refine ev_pf rfl (by rfl) ⟨by rfl, by rfl⟩ ?_
          repeat (refine ev_np [] rfl rfl rfl ?_)
          refine ev_gi rfl (by rfl) (by rfl) ?_
          rw [uF_n _ _ (by decide), d3, ← hk]
          repeat (refine ev_np [] rfl rfl rfl ?_)
          refine ev_pf rfl (by rfl) ⟨by rfl, by rfl⟩ ?_
          repeat (refine ev_np [] rfl rfl rfl ?_)
          refine ev_ca rfl (c_Mo_ones 78 (nx g u l)) ?_
          exact ev_ri rfl rfl
        · obtain ⟨⟨a1, a2⟩, b, ⟨c1, c2, c3⟩, -⟩ := hM0
          exact ⟨⟨by rw [uF_n _ _ (by decide), uF_n _ _ (by decide)]; exact a1, a2⟩, b, ⟨by rw [uF_n _ _ (by decide), uF_n _ _ (by decide)]; exact c1, by rw [uF_n _ _ (by decide), uF_n _ _ (by decide)]; exact c2, c3⟩, d1, by rw [uF_n _ _ (by decide), uF_s, hg, hu]; rfl, by rw [uF_s, hk]; exact (nI_succ _).symm⟩
theorem ix4 (x : Int32) {n : Nat} (hn : n < 1000) : (x < 0 ∨ nI n ≤ x) ∨ ∃ k, k < n ∧ x = nI k := by
  rcases pk_ix x (n := n) (by omega) with h | h | h
  · exact Or.inl (Or.inl h)
  · exact Or.inl (Or.inr h)
  · exact Or.inr h
theorem out_le {x : Int32} {n : Nat} (hn : n < 1000) (h : x < 0 ∨ nI (n + 1) ≤ x) (c : ¬ x < 0) : ¬ x ≤ nI n := by
  rcases h with h | h
  · exact absurd h c
  · intro z
    rw [Int32.le_iff_toInt_le, nI_toInt (by omega)] at h z
    omega
theorem out_ne {x : Int32} {n k : Nat} (hn : n < 1000) (hk : k < n) (h : x < 0 ∨ nI n ≤ x) : ¬ x = nI k := by
  rintro rfl
  rcases h with h | h
  · exact nI_pos (by omega) h
  · exact nI_ge hk (by omega) h
/-- both tests of an argument fail -/
theorem or0 (f : Nat → Bool) : nI (bm f) ||| 0 = nI (bm f) := by
  rw [show (0 : Int32) = nI (bm (fun _ => false)) from rfl, or_bm]
  simp
theorem op_walk (W : Wf S) (x : Int32) : OP n_MM_walk n_Mo_walk [.int x] S := by
  obtain ⟨wg, wu, wk⟩ := W.2.2.2
  obtain ⟨may, hmay⟩ : ∃ may : Nat → Bool, may = fun l => decide (bm (nx S.2.2.2.1.2 S.2.2.2.2.1 l) ≠ 0) := ⟨_, rfl⟩
  obtain ⟨must, hmust⟩ : ∃ must : Nat → Bool, must = fun l => sure S.2.2.2.1.2 S.2.2.2.2.1 l := ⟨_, rfl⟩
  have model : ∀ Y F A, RM F A S → ∀ r, (∀ v4 : Value, ev 79 t_Mo_walk 64 [.ref 62, .int x, .int (nI (bm fun l => decide (l < 3) && may l)), .int (nI (bm fun l => decide (l < 3) && must l)), v4] [] (hp Y (uF F 62 0 0) A) (some (.int r), hp Y (uF F 62 0 0) A)) → xa_rn xa_ms 80 n_Mo_walk [.ref 62, .int x] (hp Y F A) (some (.int r)) (hp Y (uF F 62 0 0) A) := by
    intro Y F A hM r hr
    have hM0 := hM.thrown 0
    obtain ⟨d1, d2, d3⟩ := hM0.2.2.2
    refine rn_in m_Mo_walk rfl ⟨rfl, rfl⟩ ?_
    show ev _ t_Mo_walk 0 [.ref 62, .int x, .float 0, .float 0, .float 0] [] _ _
    repeat (refine ev_np [] rfl rfl rfl ?_)
    refine ev_pf rfl (by rfl) ⟨by rfl, by rfl⟩ ?_
    repeat (refine ev_np [12] rfl rfl rfl ?_)
    refine lp_to (E := fun k q => ev 79 t_Mo_walk 12 [.ref 62, .int x, .int (nI (bm fun l => decide (l < k) && may l)), .int (nI (bm fun l => decide (l < k) && must l)), .int (nI k)] [] (hp Y (uF F 62 0 0) A) q) 3 (fun k hk q hq => ?_) _ ?_
    · rw [nI_succ] at hq
      repeat (refine ev_np [] rfl rfl rfl ?_)
      refine ev_ie (nI_ge (b := 3) hk (by omega)) ?_
      repeat (refine ev_np [] rfl rfl rfl ?_)
      refine ev_vc rfl (by rfl) (by rfl) rfl (c_Mo_onward 76 d2 d1 wg hk) ?_
      have hlt := bm_lt (nx S.2.2.2.1.2 S.2.2.2.2.1 k)
      have step2 : ∀ a : Int32, a = nI (bm fun l => decide (l < k + 1) && may l) → ev 79 t_Mo_walk 38 [.ref 62, .int x, .int a, .int (nI (bm fun l => decide (l < k) && must l)), .int (nI k)] [] (hp Y (uF F 62 0 0) A) q := by
        intro a ha
        repeat (refine ev_np [] rfl rfl rfl ?_)
        refine ev_vc rfl (by rfl) (by rfl) rfl (c_Mo_isSure 76 d2 wu d1 wg hk) ?_
        rw [← show must k = sure S.2.2.2.1.2 S.2.2.2.2.1 k by rw [hmust]]
        rw [ha]
        cases e : must k with
        | false =>
          repeat (refine ev_np [12] rfl rfl rfl ?_)
          rw [or0]
          rw [bm_congr (f := fun l => decide (l < k + 1) && must l) (g := fun l => decide (l < k) && must l) (fun l _ => by
            by_cases h1 : l = k
            · subst h1; simp [e]
            · rw [dlt h1])] at hq
          exact hq
        | true =>
          repeat (refine ev_np [12] rfl rfl rfl ?_)
          rw [orb_bm _ (by omega)]
          rw [bm_congr (f := fun l => decide (l < k + 1) && must l) (g := fun l => (decide (l < k) && must l) || l == k) (fun l _ => by
            by_cases h1 : l = k
            · subst h1; simp [e]
            · rw [dlt h1]
              simp [h1])] at hq
          exact hq
      by_cases e : bm (nx S.2.2.2.1.2 S.2.2.2.2.1 k) = 0
      · rw [e]
        repeat (refine ev_np [38] rfl rfl rfl ?_)
        refine step2 _ ?_
        rw [or0]
        refine congrArg nI (bm_congr fun l _ => ?_)
        by_cases h1 : l = k
        · subst h1; simp [hmay, e]
        · rw [dlt h1]
      · repeat (refine ev_np [] rfl rfl rfl ?_)
        refine ev_ie (nI_ne0 (by omega) (by omega)) ?_
        repeat (refine ev_np [38] rfl rfl rfl ?_)
        refine step2 _ ?_
        rw [orb_bm _ (by omega)]
        refine congrArg nI (bm_congr fun l _ => ?_)
        by_cases h1 : l = k
        · subst h1; simp [hmay, e]
        · rw [dlt h1]
          simp [h1]
    · repeat (refine ev_np [64] rfl rfl rfl ?_)
      exact hr _
  rcases ix4 x (n := 4) (by decide) with hx | ⟨k, hk, rfl⟩
  · refine op_ro W (-1) (fun Y F A hC => ?_) (fun Y F A hM => model Y F A hM _ (fun v4 => ?_))
    · refine rn_in m_MM_walk rfl ⟨rfl, rfl⟩ ?_
      show ev _ t_MM_walk 0 [.ref 9, .int x] [] _ _
      repeat (refine ev_np [] rfl rfl rfl ?_)
      refine ev_if (fun c => ?_) (fun c => ?_)
      · repeat (refine ev_np [] rfl rfl rfl ?_)
        exact ev_ri rfl rfl
      · repeat (refine ev_np [] rfl rfl rfl ?_)
        refine ev_ie (out_le (n := 3) (by decide) hx c) ?_
        repeat (refine ev_np [] rfl rfl rfl ?_)
        exact ev_ri rfl rfl
    · repeat (refine ev_np [] rfl rfl rfl ?_)
      refine ev_it (out_ne (n := 4) (k := 0) (by decide) (by decide) hx) ?_
      repeat (refine ev_np [] rfl rfl rfl ?_)
      refine ev_it (out_ne (n := 4) (k := 1) (by decide) (by decide) hx) ?_
      repeat (refine ev_np [] rfl rfl rfl ?_)
      refine ev_it (out_ne (n := 4) (k := 2) (by decide) (by decide) hx) ?_
      repeat (refine ev_np [] rfl rfl rfl ?_)
      refine ev_it (out_ne (n := 4) (k := 3) (by decide) (by decide) hx) ?_
      repeat (refine ev_np [] rfl rfl rfl ?_)
      exact ev_ri rfl rfl
  · have h4 : k = 0 ∨ k = 1 ∨ k = 2 ∨ k = 3 := by omega
    rcases h4 with rfl | rfl | rfl | rfl
    · refine op_ro W (nI (bm S.2.2.2.2.1)) (fun Y F A hC => ?_) (fun Y F A hM => model Y F A hM _ (fun v4 => ?_))
      · refine rn_in m_MM_walk rfl ⟨rfl, rfl⟩ ?_
        show ev _ t_MM_walk 0 [.ref 9, .int (nI 0)] [] _ _
        repeat (first | refine ev_np [] rfl rfl rfl ?_ | refine ev_grs [] rfl rfl (by rfl) (by rfl) ?_)
        refine ev_vc rfl (by rfl) (by rfl) rfl (?_ : xa_rn xa_ms 79 n_Walker_where [.ref 58] (hp Y F A) (some (.int (F 58 1))) (hp Y F A)) ?_
        · refine rn_in m_Walker_where rfl ⟨rfl, rfl⟩ ?_
          show ev _ t_Walker_where 0 [.ref 58] [] _ _
          repeat (refine ev_np [] rfl rfl rfl ?_)
          refine ev_gi rfl (by rfl) (by rfl) ?_
          exact ev_ri rfl rfl
        · exact ev_ri rfl hC.2.2.2.2.1
      · repeat (refine ev_np [] rfl rfl rfl ?_)
        refine ev_gi rfl (by rfl) (by rfl) ?_
        repeat (refine ev_np [] rfl rfl rfl ?_)
        exact ev_ri rfl (hM.thrown 0).2.2.2.2.1
    · refine op_ro W (nI (bm fun l => decide (l < 3) && may l)) (fun Y F A hC => ?_) (fun Y F A hM => model Y F A hM _ (fun v4 => ?_))
      · refine rn_in m_MM_walk rfl ⟨rfl, rfl⟩ ?_
        show ev _ t_MM_walk 0 [.ref 9, .int (nI 1)] [] _ _
        repeat (first | refine ev_np [] rfl rfl rfl ?_ | refine ev_grs [] rfl rfl (by rfl) (by rfl) ?_)
        refine ev_vc rfl (by rfl) (by rfl) rfl (c_Walker_mayCome 75 hC.2.2.2.2.1 hC.2.2.2.1) ?_
        exact ev_ri rfl (by rw [hmay])
      · repeat (refine ev_np [] rfl rfl rfl ?_)
        exact ev_ri rfl rfl
    · refine op_ro W (nI (bm fun l => decide (l < 3) && must l)) (fun Y F A hC => ?_) (fun Y F A hM => model Y F A hM _ (fun v4 => ?_))
      · refine rn_in m_MM_walk rfl ⟨rfl, rfl⟩ ?_
        show ev _ t_MM_walk 0 [.ref 9, .int (nI 2)] [] _ _
        repeat (first | refine ev_np [] rfl rfl rfl ?_ | refine ev_grs [] rfl rfl (by rfl) (by rfl) ?_)
        refine ev_vc rfl (by rfl) (by rfl) rfl (c_Walker_mustBeThere 75 hC.2.2.2.2.1 hC.2.2.2.1) ?_
        repeat (refine ev_np [] rfl rfl rfl ?_)
        exact ev_ri rfl (by rw [hmust])
      · repeat (refine ev_np [] rfl rfl rfl ?_)
        exact ev_ri rfl rfl
    · refine op_ro W (nI S.2.2.2.2.2) (fun Y F A hC => ?_) (fun Y F A hM => model Y F A hM _ (fun v4 => ?_))
      · refine rn_in m_MM_walk rfl ⟨rfl, rfl⟩ ?_
        show ev _ t_MM_walk 0 [.ref 9, .int (nI 3)] [] _ _
        repeat (first | refine ev_np [] rfl rfl rfl ?_ | refine ev_grs [] rfl rfl (by rfl) (by rfl) ?_)
        refine ev_vc rfl (by rfl) (by rfl) rfl (?_ : xa_rn xa_ms 79 n_Walker_gone [.ref 58] (hp Y F A) (some (.int (F 58 2))) (hp Y F A)) ?_
        · refine rn_in m_Walker_gone rfl ⟨rfl, rfl⟩ ?_
          show ev _ t_Walker_gone 0 [.ref 58] [] _ _
          repeat (refine ev_np [] rfl rfl rfl ?_)
          refine ev_gi rfl (by rfl) (by rfl) ?_
          exact ev_ri rfl rfl
        · exact ev_ri rfl hC.2.2.2.2.2
      · repeat (refine ev_np [] rfl rfl rfl ?_)
        refine ev_gi rfl (by rfl) (by rfl) ?_
        repeat (refine ev_np [] rfl rfl rfl ?_)
        exact ev_ri rfl (hM.thrown 0).2.2.2.2.2
/-- a sum -/
def sumN (f : Nat → Nat) : Nat → Nat
  | 0 => 0
  | k + 1 => sumN f k + f k
theorem op_count (W : Wf S) (x : Int32) : OP n_MM_count n_Mo_count [.int x] S := by
  have model : ∀ Y F A, RM F A S → ∀ r, (∀ v4 : Value, ev 79 t_Mo_count 30 [.ref 62, .int x, .int (nI (sumN (fun i => (S.2.1 i).1) 6)), v4] [] (hp Y (uF F 62 0 0) A) (some (.int r), hp Y (uF F 62 0 0) A)) → xa_rn xa_ms 80 n_Mo_count [.ref 62, .int x] (hp Y F A) (some (.int r)) (hp Y (uF F 62 0 0) A) := by
    intro Y F A hM r hr
    refine rn_in m_Mo_count rfl ⟨rfl, rfl⟩ ?_
    show ev _ t_Mo_count 0 [.ref 62, .int x, .float 0, .float 0] [] _ _
    repeat (refine ev_np [] rfl rfl rfl ?_)
    refine ev_pf rfl (by rfl) ⟨by rfl, by rfl⟩ ?_
    repeat (refine ev_np [9] rfl rfl rfl ?_)
    refine lp_to (E := fun k q => ev 79 t_Mo_count 9 [.ref 62, .int x, .int (nI (sumN (fun i => (S.2.1 i).1) k)), .int (nI k)] [] (hp Y (uF F 62 0 0) A) q) 6 (fun k hk q hq => ?_) _ ?_
    · repeat (refine ev_np [] rfl rfl rfl ?_)
      refine ev_ie (nI_ge (b := 6) hk (by omega)) ?_
      repeat (first | refine ev_np [] rfl rfl rfl ?_ | refine ev_grs [] rfl rfl (by rfl) (by rfl) ?_)
      refine ev_an rfl (by rfl) rfl (by omega) rfl ?_
      rw [(hM.2.1 k hk).1]
      repeat (refine ev_np [9] rfl rfl rfl ?_)
      rw [nI_add]
      rw [nI_succ] at hq
      exact hq
    · repeat (refine ev_np [30] rfl rfl rfl ?_)
      exact hr _
  rcases ix4 x (n := 3) (by decide) with hx | ⟨k, hk, rfl⟩
  · refine op_ro W (-1) (fun Y F A hC => ?_) (fun Y F A hM => model Y F A hM _ (fun v4 => ?_))
    · refine rn_in m_MM_count rfl ⟨rfl, rfl⟩ ?_
      show ev _ t_MM_count 0 [.ref 9, .int x] [] _ _
      repeat (refine ev_np [] rfl rfl rfl ?_)
      refine ev_if (fun c => ?_) (fun c => ?_)
      · repeat (refine ev_np [] rfl rfl rfl ?_)
        exact ev_ri rfl rfl
      · repeat (refine ev_np [] rfl rfl rfl ?_)
        refine ev_ie (out_le (n := 2) (by decide) hx c) ?_
        repeat (refine ev_np [] rfl rfl rfl ?_)
        exact ev_ri rfl rfl
    · repeat (refine ev_np [] rfl rfl rfl ?_)
      refine ev_it (out_ne (n := 3) (k := 0) (by decide) (by decide) hx) ?_
      repeat (refine ev_np [] rfl rfl rfl ?_)
      refine ev_it (out_ne (n := 3) (k := 1) (by decide) (by decide) hx) ?_
      repeat (refine ev_np [] rfl rfl rfl ?_)
      refine ev_it (out_ne (n := 3) (k := 2) (by decide) (by decide) hx) ?_
      repeat (refine ev_np [] rfl rfl rfl ?_)
      exact ev_ri rfl rfl
  · have h4 : k = 0 ∨ k = 1 ∨ k = 2 := by omega
    rcases h4 with rfl | rfl | rfl
    · refine op_ro W (nI (sumN (fun i => (S.2.1 i).1) 6)) (fun Y F A hC => ?_) (fun Y F A hM => model Y F A hM _ (fun v4 => ?_))
      · refine rn_in m_MM_count rfl ⟨rfl, rfl⟩ ?_
        show ev _ t_MM_count 0 [.ref 9, .int (nI 0)] [] _ _
        repeat (first | refine ev_np [] rfl rfl rfl ?_ | refine ev_grs [] rfl rfl (by rfl) (by rfl) ?_)
        refine ev_vc rfl (by rfl) (by rfl) rfl (?_ : xa_rn xa_ms 79 n_MM_statesOfAll [.ref 9] (hp Y F A) (some (.int (nI (sumN (fun i => (S.2.1 i).1) 6)))) (hp Y F A)) ?_
        · refine rn_in m_MM_statesOfAll rfl ⟨rfl, rfl⟩ ?_
          show ev _ t_MM_statesOfAll 0 [.ref 9, .float 0, .float 0] [] _ _
          repeat (refine ev_np [4] rfl rfl rfl ?_)
          refine lp_to (E := fun k q => ev 78 t_MM_statesOfAll 4 [.ref 9, .int (nI (sumN (fun i => (S.2.1 i).1) k)), .int (nI k)] [] (hp Y F A) q) 6 (fun k hk q hq => ?_) _ ?_
          · repeat (refine ev_np [] rfl rfl rfl ?_)
            refine ev_ie (nI_ge (b := 6) hk (by omega)) ?_
            repeat (first | refine ev_np [] rfl rfl rfl ?_ | refine ev_grs [] rfl rfl (by rfl) (by rfl) ?_)
            refine ev_aa rfl hk ?_
            refine ev_vc rfl (by rfl) (PLi hk).1 rfl (c_Plan_size 77 (PLi hk)) ?_
            rw [(hC.2.1 k hk).1]
            repeat (refine ev_np [4] rfl rfl rfl ?_)
            rw [nI_add]
            rw [nI_succ] at hq
            exact hq
          · repeat (refine ev_np [] rfl rfl rfl ?_)
            exact ev_ri rfl rfl
        · exact ev_ri rfl rfl
      · repeat (refine ev_np [] rfl rfl rfl ?_)
        exact ev_ri rfl rfl
    · refine op_ro W (nI S.1.1) (fun Y F A hC => ?_) (fun Y F A hM => model Y F A hM _ (fun v4 => ?_))
      · refine rn_in m_MM_count rfl ⟨rfl, rfl⟩ ?_
        show ev _ t_MM_count 0 [.ref 9, .int (nI 1)] [] _ _
        repeat (first | refine ev_np [] rfl rfl rfl ?_ | refine ev_grs [] rfl rfl (by rfl) (by rfl) ?_)
        refine ev_vc rfl (by rfl) (by rfl) rfl (c_Text_size 78) ?_
        repeat (refine ev_np [] rfl rfl rfl ?_)
        exact ev_ri rfl hC.1.1
      · repeat (refine ev_np [] rfl rfl rfl ?_)
        refine ev_gi rfl (by rfl) (by rfl) ?_
        repeat (refine ev_np [] rfl rfl rfl ?_)
        exact ev_ri rfl (hM.thrown 0).1.1
    · refine op_ro W (nI S.2.2.1.2.1) (fun Y F A hC => ?_) (fun Y F A hM => model Y F A hM _ (fun v4 => ?_))
      · refine rn_in m_MM_count rfl ⟨rfl, rfl⟩ ?_
        show ev _ t_MM_count 0 [.ref 9, .int (nI 2)] [] _ _
        repeat (first | refine ev_np [] rfl rfl rfl ?_ | refine ev_grs [] rfl rfl (by rfl) (by rfl) ?_)
        refine ev_vc rfl (by rfl) (by rfl) rfl (?_ : xa_rn xa_ms 79 n_Saying_bits [.ref 39] (hp Y F A) (some (.int (F 39 2))) (hp Y F A)) ?_
        · refine rn_in m_Saying_bits rfl ⟨rfl, rfl⟩ ?_
          show ev _ t_Saying_bits 0 [.ref 39] [] _ _
          repeat (refine ev_np [] rfl rfl rfl ?_)
          refine ev_gi rfl (by rfl) (by rfl) ?_
          exact ev_ri rfl rfl
        · exact ev_ri rfl hC.2.2.1.2.1
      · repeat (refine ev_np [] rfl rfl rfl ?_)
        refine ev_gi rfl (by rfl) (by rfl) ?_
        repeat (refine ev_np [] rfl rfl rfl ?_)
        exact ev_ri rfl (hM.thrown 0).2.2.1.2.1
theorem cnt_blk (f : Nat → Nat → Bool) : ∀ j, cnt (fun k => f (k / 6) (k % 6)) (6 * j) = sumN (fun b => cnt (f b) 6) j := by
  intro j
  induction j with
  | zero => rfl
  | succ j ih =>
    rw [show 6 * (j + 1) = 6 * j + 1 + 1 + 1 + 1 + 1 + 1 by omega]
    rw [show sumN (fun b => cnt (f b) 6) (j + 1) = sumN (fun b => cnt (f b) 6) j + cnt (f j) 6 from rfl, ← ih]
    simp only [cnt]
    have e : ∀ c, c < 6 → (6 * j + c) / 6 = j ∧ (6 * j + c) % 6 = c := fun c hc => by omega
    rw [show 6 * j + 1 + 1 + 1 + 1 + 1 = 6 * j + 5 by omega, show 6 * j + 1 + 1 + 1 + 1 = 6 * j + 4 by omega, show 6 * j + 1 + 1 + 1 = 6 * j + 3 by omega, show 6 * j + 1 + 1 = 6 * j + 2 by omega]
    rw [(e 5 (by omega)).1, (e 5 (by omega)).2, (e 4 (by omega)).1, (e 4 (by omega)).2, (e 3 (by omega)).1, (e 3 (by omega)).2, (e 2 (by omega)).1, (e 2 (by omega)).2, (e 1 (by omega)).1, (e 1 (by omega)).2, show 6 * j / 6 = j by omega, show 6 * j % 6 = 0 by omega]
    omega
/-- all arrows in a row -/
def gk (g : Nat → Nat → Nat → Nat) (k : Nat) : Nat := g (k / 6 / 3) (k / 6 % 3) (k % 6)
theorem c_Plan_bitsOf {Y : Nat × (Nat → Int32)} {F A : Nat → Nat → Int32} (d : Nat) {o : Nat} {g : Nat → Nat → Nat → Nat} {v : Nat} (ho : lo_at o = some (.inl 18)) (h : ∀ s l, s < 6 → l < 3 → A o (3 * s + l) = nI (bm (fun t => decide (v ≤ g s l t)))) : xa_rn xa_ms (d + 2) n_Plan_bitsOf [.ref o] (hp Y F A) (some (.int (nI (cnt (fun k => decide (v ≤ gk g k)) 108)))) (hp Y F A) := by
  have e : cnt (fun k => decide (v ≤ gk g k)) 108 = sumN (fun b => cnt (fun t => decide (v ≤ g (b / 3) (b % 3) t)) 6) 18 := cnt_blk (fun b t => decide (v ≤ g (b / 3) (b % 3) t)) 18
  rw [e]
  refine rn_in m_Plan_bitsOf rfl ⟨rfl, rfl⟩ ?_
  show ev _ t_Plan_bitsOf 0 [.ref o, .float 0, .float 0, .float 0, .float 0, .float 0] [] _ _
  repeat (refine ev_np [] rfl rfl rfl ?_)
  refine ev_ln rfl ho ?_
  repeat (refine ev_np [10] rfl rfl rfl ?_)
  have key := lp_to (E := fun k q => ∀ v5 : Value, ev (d + 1) t_Plan_bitsOf 10 [.ref o, .int (nI (sumN (fun b => cnt (fun t => decide (v ≤ g (b / 3) (b % 3) t)) 6) k)), .ref o, .int (nI 18), .int (nI k), v5] [] (hp Y F A) q) 18 (fun k hk q hq => by
    intro v5
    repeat (refine ev_np [] rfl rfl rfl ?_)
    refine ev_ie (nI_ge (b := 18) hk (by omega)) ?_
    repeat (refine ev_np [] rfl rfl rfl ?_)
    refine ev_an rfl ho rfl hk rfl ?_
    rw [show A o k = nI (bm (fun t => decide (v ≤ g (k / 3) (k % 3) t))) by rw [← h (k / 3) (k % 3) (by omega) (by omega)]; congr 1; omega]
    repeat (refine ev_np [] rfl rfl rfl ?_)
    refine ev_ca rfl (c_Int_bitCount d _) ?_
    repeat (refine ev_np [10] rfl rfl rfl ?_)
    rw [nI_add]
    rw [nI_succ k] at hq
    exact hq _) (some (.int (nI (sumN (fun b => cnt (fun t => decide (v ≤ g (b / 3) (b % 3) t)) 6) 18))), hp Y F A) (by
    intro v5
    repeat (refine ev_np [] rfl rfl rfl ?_)
    exact ev_ri rfl rfl)
  exact key _
theorem cnt_split (f : Nat → Nat) : ∀ n, cnt (fun k => decide (1 ≤ f k)) n = cnt (fun k => decide (2 ≤ f k)) n + cnt (fun k => decide (f k = 1)) n := by
  intro n
  induction n with
  | zero => rfl
  | succ n ih =>
    simp only [cnt]
    rw [ih]
    by_cases h1 : 1 ≤ f n
    · by_cases h2 : 2 ≤ f n
      · simp [h1, h2, show ¬ f n = 1 by omega]; omega
      · simp [h1, h2, show f n = 1 by omega]; omega
    · simp [h1, show ¬ 2 ≤ f n by omega, show ¬ f n = 1 by omega]
theorem c_Mo_many {Y : Nat × (Nat → Int32)} {F A : Nat → Nat → Int32} (d : Nat) {i n v : Nat} {g : Nat → Nat → Nat → Nat} (hi : i < 8) (hm : MP A i n g) (hg : ∀ s l t, g s l t ≤ 2) (hv : v ≤ 2) : xa_rn xa_ms (d + 1) n_Mo_many [.ref 62, .int (nI i), .int (nI v)] (hp Y F A) (some (.int (nI (cnt (fun k => decide (gk g k = v)) 108)))) (hp Y F A) := by
  have hix : ∀ (a k : Nat), 108 * nI a + nI k = nI (108 * a + k) := fun a k => by rw [show (108 : Int32) = nI 108 from rfl, pk_mul, nI_add]
  refine rn_in m_Mo_many rfl ⟨rfl, rfl⟩ ?_
  show ev _ t_Mo_many 0 [.ref 62, .int (nI i), .int (nI v), .float 0, .float 0] [] _ _
  repeat (refine ev_np [5] rfl rfl rfl ?_)
  refine lp_to (E := fun k q => ev d t_Mo_many 5 [.ref 62, .int (nI i), .int (nI v), .int (nI (cnt (fun k => decide (gk g k = v)) k)), .int (nI k)] [] (hp Y F A) q) 108 (fun k hk q hq => ?_) _ ?_
  · rw [nI_succ] at hq
    repeat (refine ev_np [] rfl rfl rfl ?_)
    refine ev_ie (nI_ge (b := 108) hk (by omega)) ?_
    repeat (first | refine ev_np [] rfl rfl rfl ?_ | refine ev_grs [] rfl rfl (by rfl) (by rfl) ?_)
    refine ev_an rfl (by rfl) (hix i k) (by omega) rfl ?_
    have e : A 63 (108 * i + k) = nI (gk g k) := by
      unfold gk
      rw [← hm.2 (k / 6 / 3) (k / 6 % 3) (k % 6) (by omega) (by omega) (by omega)]
      congr 1
      omega
    have hle : gk g k ≤ 2 := hg _ _ _
    rw [e]
    repeat (refine ev_np [] rfl rfl rfl ?_)
    simp only [cnt] at hq
    by_cases h1 : gk g k = v
    · rw [decide_eq_true h1] at hq
      refine ev_ie (fun z => z (by rw [h1])) ?_
      repeat (refine ev_np [5] rfl rfl rfl ?_)
      rw [nI_1]
      exact hq
    · rw [decide_eq_false h1] at hq
      refine ev_it (fun z => h1 ((nI_eq (by omega) (by omega)).mp z)) ?_
      repeat (refine ev_np [5] rfl rfl rfl ?_)
      rw [show ∀ a : Int32, a + 0 = a from Int32.add_zero]
      exact hq
  · repeat (refine ev_np [] rfl rfl rfl ?_)
    exact ev_ri rfl rfl
theorem op_states (W : Wf S) (x y : Int32) : OP n_MM_states n_Mo_states [.int x, .int y] S := by
  rcases ix4 x (n := 6) (by decide) with hx | ⟨i, hi, rfl⟩
  · refine op_ro W (-1) (fun Y F A hC => ?_) (fun Y F A hM => ?_)
    · refine rn_in m_MM_states rfl ⟨rfl, rfl⟩ ?_
      show ev _ t_MM_states 0 [.ref 9, .int x, .int y] [] _ _
      repeat (refine ev_np [] rfl rfl rfl ?_)
      refine ev_ca rfl (c_MM_noPlanT 78 hx) ?_
      repeat (refine ev_np [] rfl rfl rfl ?_)
      exact ev_ri rfl rfl
    · refine rn_in m_Mo_states rfl ⟨rfl, rfl⟩ ?_
      show ev _ t_Mo_states 0 [.ref 62, .int x, .int y] [] _ _
      repeat (refine ev_np [] rfl rfl rfl ?_)
      refine ev_pf rfl (by rfl) ⟨by rfl, by rfl⟩ ?_
      repeat (refine ev_np [] rfl rfl rfl ?_)
      refine ev_ca rfl (c_Mo_isPlanF 77 hx) ?_
      repeat (refine ev_np [] rfl rfl rfl ?_)
      exact ev_ri rfl rfl
  · obtain ⟨wn, wg⟩ := W.2.1 i hi
    rcases let3 y with hy | ⟨k, hk, rfl⟩
    · refine op_ro W (-1) (fun Y F A hC => ?_) (fun Y F A hM => ?_)
      · refine rn_in m_MM_states rfl ⟨rfl, rfl⟩ ?_
        show ev _ t_MM_states 0 [.ref 9, .int (nI i), .int y] [] _ _
        repeat (refine ev_np [] rfl rfl rfl ?_)
        refine ev_ca rfl (c_MM_noPlanF 78 hi) ?_
        repeat (refine ev_np [] rfl rfl rfl ?_)
        refine ev_if (fun c => ?_) (fun c => ?_)
        · repeat (refine ev_np [] rfl rfl rfl ?_)
          exact ev_ri rfl rfl
        · repeat (refine ev_np [] rfl rfl rfl ?_)
          refine ev_ie (out_le (n := 2) (by decide) hy c) ?_
          repeat (refine ev_np [] rfl rfl rfl ?_)
          exact ev_ri rfl rfl
      · refine rn_in m_Mo_states rfl ⟨rfl, rfl⟩ ?_
        show ev _ t_Mo_states 0 [.ref 62, .int (nI i), .int y] [] _ _
        repeat (refine ev_np [] rfl rfl rfl ?_)
        refine ev_pf rfl (by rfl) ⟨by rfl, by rfl⟩ ?_
        repeat (refine ev_np [] rfl rfl rfl ?_)
        refine ev_ca rfl (c_Mo_isPlanT 77 hi) ?_
        repeat (refine ev_np [] rfl rfl rfl ?_)
        refine ev_ca rfl (c_Mo_in 78 _ _ _) ?_
        rw [show (2 : Int32) = nI 2 from rfl, in_T (N := 2) (by omega) hy]
        repeat (refine ev_np [] rfl rfl rfl ?_)
        exact ev_ri rfl rfl
    · have model : ∀ Y F A, RM F A S → ∀ r, ev 79 t_Mo_states 25 [.ref 62, .int (nI i), .int (nI k)] [] (hp Y (uF F 62 0 0) A) (some (.int r), hp Y (uF F 62 0 0) A) → xa_rn xa_ms 80 n_Mo_states [.ref 62, .int (nI i), .int (nI k)] (hp Y F A) (some (.int r)) (hp Y (uF F 62 0 0) A) := by
        intro Y F A hM r hr
        refine rn_in m_Mo_states rfl ⟨rfl, rfl⟩ ?_
        show ev _ t_Mo_states 0 [.ref 62, .int (nI i), .int (nI k)] [] _ _
        repeat (refine ev_np [] rfl rfl rfl ?_)
        refine ev_pf rfl (by rfl) ⟨by rfl, by rfl⟩ ?_
        repeat (refine ev_np [] rfl rfl rfl ?_)
        refine ev_ca rfl (c_Mo_isPlanT 77 hi) ?_
        repeat (refine ev_np [] rfl rfl rfl ?_)
        refine ev_ca rfl (c_Mo_in 78 _ _ _) ?_
        rw [show (2 : Int32) = nI 2 from rfl, in_F (N := 2) (by omega) (by omega)]
        repeat (refine ev_np [25] rfl rfl rfl ?_)
        exact hr
      have clas : ∀ Y F A, RC F A S → ∀ r, ev 79 t_MM_states 18 [.ref 9, .int (nI i), .int (nI k)] [] (hp Y F A) (some (.int r), hp Y F A) → xa_rn xa_ms 80 n_MM_states [.ref 9, .int (nI i), .int (nI k)] (hp Y F A) (some (.int r)) (hp Y F A) := by
        intro Y F A hM r hr
        refine rn_in m_MM_states rfl ⟨rfl, rfl⟩ ?_
        show ev _ t_MM_states 0 [.ref 9, .int (nI i), .int (nI k)] [] _ _
        repeat (refine ev_np [] rfl rfl rfl ?_)
        refine ev_ca rfl (c_MM_noPlanF 78 hi) ?_
        repeat (refine ev_np [] rfl rfl rfl ?_)
        refine ev_ie (nI_pos (by omega)) ?_
        repeat (refine ev_np [] rfl rfl rfl ?_)
        refine ev_it (nI_le (b := 2) (by omega) (by omega)) ?_
        exact hr
      have h4 : k = 0 ∨ k = 1 ∨ k = 2 := by omega
      rcases h4 with rfl | rfl | rfl
      · refine op_ro W (nI (S.2.1 i).1) (fun Y F A hC => clas Y F A hC _ ?_) (fun Y F A hM => model Y F A hM _ ?_)
        · repeat (first | refine ev_np [] rfl rfl rfl ?_ | refine ev_grs [] rfl rfl (by rfl) (by rfl) ?_)
          refine ev_aa rfl hi ?_
          refine ev_vc rfl (by rfl) (PLi hi).1 rfl (c_Plan_size 78 (PLi hi)) ?_
          exact ev_ri rfl (hC.2.1 i hi).1
        · repeat (first | refine ev_np [] rfl rfl rfl ?_ | refine ev_grs [] rfl rfl (by rfl) (by rfl) ?_)
          refine ev_an rfl (by rfl) rfl (by omega) rfl ?_
          repeat (refine ev_np [] rfl rfl rfl ?_)
          exact ev_ri rfl (hM.2.1 i hi).1
      · refine op_ro W (nI (cnt (fun k => decide (2 ≤ gk (S.2.1 i).2 k)) 108)) (fun Y F A hC => clas Y F A hC _ ?_) (fun Y F A hM => model Y F A hM _ ?_)
        · repeat (first | refine ev_np [] rfl rfl rfl ?_ | refine ev_grs [] rfl rfl (by rfl) (by rfl) ?_)
          refine ev_aa rfl hi ?_
          refine ev_vc rfl (by rfl) (PLi hi).1 rfl (?_ : xa_rn xa_ms 79 n_Plan_musts [.ref (11 + 3 * i)] (hp Y F A) (some (.int (nI (cnt (fun k => decide (2 ≤ gk (S.2.1 i).2 k)) 108)))) (hp Y F A)) ?_
          · refine rn_in m_Plan_musts rfl ⟨rfl, rfl⟩ ?_
            show ev _ t_Plan_musts 0 [.ref (11 + 3 * i)] [] _ _
            repeat (refine ev_np [] rfl rfl rfl ?_)
            refine ev_gr rfl (PLi hi).1 rfl ?_
            refine ev_ca rfl (c_Plan_bitsOf 76 (PLi hi).2.2 (fun s l hs hl => ((hC.2.1 i hi).2 s l hs hl).2)) ?_
            exact ev_ri rfl rfl
          · repeat (refine ev_np [] rfl rfl rfl ?_)
            exact ev_ri rfl rfl
        · repeat (refine ev_np [] rfl rfl rfl ?_)
          refine ev_vc rfl (by rfl) (by rfl) rfl (c_Mo_many (v := 2) 78 (by omega) (hM.2.1 i hi) (fun s l t => (wg s l t).1) (by omega)) ?_
          refine ev_ri rfl (congrArg nI (cnt_congr _ fun t _ => ?_))
          have : gk (S.2.1 i).2 t ≤ 2 := (wg _ _ _).1
          exact decide_eq_decide.mpr (by omega)
      · refine op_ro W (nI (cnt (fun k => decide (gk (S.2.1 i).2 k = 1)) 108)) (fun Y F A hC => clas Y F A hC _ ?_) (fun Y F A hM => model Y F A hM _ ?_)
        · repeat (first | refine ev_np [] rfl rfl rfl ?_ | refine ev_grs [] rfl rfl (by rfl) (by rfl) ?_)
          refine ev_aa rfl hi ?_
          refine ev_vc rfl (by rfl) (PLi hi).1 rfl (?_ : xa_rn xa_ms 79 n_Plan_choices [.ref (11 + 3 * i)] (hp Y F A) (some (.int (nI (cnt (fun k => decide (gk (S.2.1 i).2 k = 1)) 108)))) (hp Y F A)) ?_
          · refine rn_in m_Plan_choices rfl ⟨rfl, rfl⟩ ?_
            show ev _ t_Plan_choices 0 [.ref (11 + 3 * i)] [] _ _
            repeat (refine ev_np [] rfl rfl rfl ?_)
            refine ev_gr rfl (PLi hi).1 rfl ?_
            refine ev_ca rfl (c_Plan_bitsOf 76 (PLi hi).2.1 (fun s l hs hl => ((hC.2.1 i hi).2 s l hs hl).1)) ?_
            repeat (refine ev_np [] rfl rfl rfl ?_)
            refine ev_gr rfl (PLi hi).1 rfl ?_
            refine ev_ca rfl (c_Plan_bitsOf 76 (PLi hi).2.2 (fun s l hs hl => ((hC.2.1 i hi).2 s l hs hl).2)) ?_
            repeat (refine ev_np [] rfl rfl rfl ?_)
            refine ev_ri rfl ?_
            rw [cnt_split, ← nI_add]
            rw [Int32.add_comm, Int32.add_sub_cancel]
          · exact ev_ri rfl rfl
        · repeat (refine ev_np [] rfl rfl rfl ?_)
          refine ev_vc rfl (by rfl) (by rfl) rfl (c_Mo_many (v := 1) 78 (by omega) (hM.2.1 i hi) (fun s l t => (wg s l t).1) (by omega)) ?_
          exact ev_ri rfl rfl
end OPS3
