/-! ===== calls: stricter, stays, alike ===== -/
section OPS4
variable {S : SP}
/-- the class's scratch is written -/
theorem RC.keep {F A F' A' : Nat → Nat → Int32} (h : RC F A S) {LA LF : List Nat} (hA : sA LA A A') (hF : sF LF F F') (hk : (LA.all fun x => Nat.blt 28 x && !(x == 33) && !(x == 40) && !(x == 60) && !(x == 61)) = true ∧ (LF.all fun x => Nat.blt 2800 x && !(x == 3201) && !(x == 3901) && !(x == 3902) && !(x == 5801) && !(x == 5802) && !(x == 5900)) = true) : RC F' A' S := by
  obtain ⟨⟨a1, a2⟩, b, ⟨c1, c2, c3⟩, d1, d2, d3⟩ := h
  have kA : ∀ o, o = 33 ∨ o = 40 ∨ o = 60 ∨ o = 61 ∨ o < 29 → A' o = A o := fun o ho => hA o (fun z => by
    have := List.all_eq_true.mp hk.1 o z
    simp only [Bool.and_eq_true, Bool.not_eq_true', beq_eq_false_iff_ne] at this
    have h2 := Nat.le_of_ble_eq_true this.1.1.1.1
    omega)
  have kF : ∀ o k, o * 100 + k = 3201 ∨ o * 100 + k = 3901 ∨ o * 100 + k = 3902 ∨ o * 100 + k = 5801 ∨ o * 100 + k = 5802 ∨ o * 100 + k = 5900 ∨ o * 100 + k < 2801 → F' o k = F o k := fun o k ho => hF o k (fun z => by
    have := List.all_eq_true.mp hk.2 _ z
    simp only [Bool.and_eq_true, Bool.not_eq_true', beq_eq_false_iff_ne] at this
    have h2 := Nat.le_of_ble_eq_true this.1.1.1.1.1.1
    omega)
  exact ⟨⟨by rw [kF 32 1 (by omega)]; exact a1, by rw [kA 33 (by omega)]; exact a2⟩, fun k hk => (b k hk).frame (kF _ 0 (by omega)) (kA _ (by omega)) (kA _ (by omega)), ⟨by rw [kF 39 1 (by omega)]; exact c1, by rw [kF 39 2 (by omega)]; exact c2, by rw [kA 40 (by omega)]; exact c3⟩, d1.frame (kF 59 0 (by omega)) (kA 60 (by omega)) (kA 61 (by omega)), by rw [kF 58 1 (by omega)]; exact d2, by rw [kF 58 2 (by omega)]; exact d3⟩
theorem RM.keep {F A F' A' : Nat → Nat → Int32} (h : RM F A S) {LA LF : List Nat} (hA : sA LA A A') (hF : sF LF F F') (hk : (LA.all fun x => !(x == 63) && !(x == 64) && !(x == 65) && !(x == 66)) = true ∧ (LF.all fun x => !(x == 6204) && !(x == 6212) && !(x == 6214) && !(x == 6223) && !(x == 6224)) = true) : RM F' A' S := by
  obtain ⟨⟨a1, a2⟩, b, ⟨c1, c2, c3⟩, d1, d2, d3⟩ := h
  have kA : ∀ o, o = 63 ∨ o = 64 ∨ o = 65 ∨ o = 66 → A' o = A o := fun o ho => hA o (fun z => by
    have := List.all_eq_true.mp hk.1 o z
    simp only [Bool.and_eq_true, Bool.not_eq_true', beq_eq_false_iff_ne] at this
    omega)
  have kF : ∀ o k, o * 100 + k = 6204 ∨ o * 100 + k = 6212 ∨ o * 100 + k = 6214 ∨ o * 100 + k = 6223 ∨ o * 100 + k = 6224 → F' o k = F o k := fun o k ho => hF o k (fun z => by
    have := List.all_eq_true.mp hk.2 _ z
    simp only [Bool.and_eq_true, Bool.not_eq_true', beq_eq_false_iff_ne] at this
    omega)
  exact ⟨⟨by rw [kF 62 4 (by omega)]; exact a1, by rw [kA 65 (by omega)]; exact a2⟩, fun k hk => (b k hk).frame (kA 63 (by omega)) (kA 64 (by omega)), ⟨by rw [kF 62 12 (by omega)]; exact c1, by rw [kF 62 14 (by omega)]; exact c2, by rw [kA 66 (by omega)]; exact c3⟩, d1.frame (kA 63 (by omega)) (kA 64 (by omega)), by rw [kF 62 23 (by omega)]; exact d2, by rw [kF 62 24 (by omega)]; exact d3⟩
/-- a call that writes scratch alone -/
theorem op_sc {mc mm : Nat} {as : List Value} {S : SP} (W : Wf S) (r : Int32) (hc : ∀ Y F A, RC F A S → ∃ F' A' LA LF, xa_rn xa_ms 80 mc (.ref 9 :: as) (hp Y F A) (some (.int r)) (hp Y F' A') ∧ sA LA A A' ∧ sF LF F F' ∧ (LA.all fun x => Nat.blt x 62 && (Nat.blt 28 x && !(x == 33) && !(x == 40) && !(x == 60) && !(x == 61))) = true ∧ (LF.all fun x => Nat.blt x 6200 && (Nat.blt 2800 x && !(x == 3201) && !(x == 3901) && !(x == 3902) && !(x == 5801) && !(x == 5802) && !(x == 5900))) = true) (hm : ∀ Y F A, RM F A S → ∃ A' LA, xa_rn xa_ms 80 mm (.ref 62 :: as) (hp Y F A) (some (.int r)) (hp Y (uF F 62 0 0) A') ∧ sA LA A A' ∧ (LA.all fun x => Nat.ble 62 x && (!(x == 63) && !(x == 64) && !(x == 65) && !(x == 66))) = true) : OP mc mm as S := by
  refine ⟨r, S, W, fun Y F A hC => ?_, fun Y F A hM => ?_⟩
  · obtain ⟨F', A', LA, LF, h1, h2, h3, h4, h5⟩ := hc Y F A hC
    have k4 : ∀ x ∈ LA, _ := fun x hx => Bool.and_eq_true .. ▸ List.all_eq_true.mp h4 x hx
    have k5 : ∀ x ∈ LF, _ := fun x hx => Bool.and_eq_true .. ▸ List.all_eq_true.mp h5 x hx
    exact ⟨F', A', h1, hC.keep h2 h3 ⟨List.all_eq_true.mpr fun x hx => (k4 x hx).2, List.all_eq_true.mpr fun x hx => (k5 x hx).2⟩, KM.of h3 h2 ⟨List.all_eq_true.mpr fun x hx => (k5 x hx).1, List.all_eq_true.mpr fun x hx => (k4 x hx).1⟩⟩
  · obtain ⟨A', LA, h1, h2, h4⟩ := hm Y F A hM
    have k4 : ∀ x ∈ LA, _ := fun x hx => Bool.and_eq_true .. ▸ List.all_eq_true.mp h4 x hx
    exact ⟨_, A', h1, (hM.thrown 0).keep h2 (sF.rf (L := [])) ⟨List.all_eq_true.mpr fun x hx => (k4 x hx).2, rfl⟩, (KC.fld F A 0 0).tr (KC.sA h2 (List.all_eq_true.mpr fun x hx => (k4 x hx).1))⟩
section RSP
variable {n1 n2 : Nat} {g1 g2 : Nat → Nat → Nat → Nat}
theorem wR_go : ∀ N {k R : Nat}, R ≠ 0 → wR n1 n2 g1 g2 N k = R → gok n1 n2 g1 g2 (wR n1 n2 g1 g2 (R - 1)) k = true ∧ R ≤ N := by
  intro N
  induction N with
  | zero => intro k R h0 h; exact absurd h.symm h0
  | succ N ih =>
    intro k R h0 h
    have h' : w1 n1 n2 g1 g2 (N + 1) (wR n1 n2 g1 g2 N) k = R := h
    unfold w1 at h'
    cases e : gok n1 n2 g1 g2 (wR n1 n2 g1 g2 N) k with
    | true =>
      rw [e] at h'
      have : R = N + 1 := h'.symm
      subst this
      exact ⟨e, Nat.le_refl _⟩
    | false =>
      rw [e] at h'
      obtain ⟨a, b⟩ := ih h0 h'
      exact ⟨a, by omega⟩
theorem wR_at {R : Nat} (hR : R ≤ 37) (k : Nat) : wR n1 n2 g1 g2 R k = 0 ↔ wE n1 n2 g1 g2 k = 0 ∨ R + 1 ≤ wE n1 n2 g1 g2 k := by
  constructor
  · intro h
    have key : ∀ m, wR n1 n2 g1 g2 (R + m) k = 0 ∨ R + 1 ≤ wR n1 n2 g1 g2 (R + m) k := by
      intro m
      induction m with
      | zero => exact Or.inl h
      | succ m ih =>
        show w1 n1 n2 g1 g2 (R + m + 1) (wR n1 n2 g1 g2 (R + m)) k = 0 ∨ R + 1 ≤ w1 n1 n2 g1 g2 (R + m + 1) (wR n1 n2 g1 g2 (R + m)) k
        unfold w1
        cases gok n1 n2 g1 g2 (wR n1 n2 g1 g2 (R + m)) k
        · exact ih
        · right
          show R + 1 ≤ R + m + 1
          omega
    have := key (37 - R)
    rwa [show R + (37 - R) = 37 by omega] at this
  · intro h
    refine Classical.byContradiction fun h0 => ?_
    have h1 := wR_keep h0 (37 - R)
    rw [show R + (37 - R) = 37 by omega] at h1
    have h2 := wR_le (n1 := n1) (n2 := n2) (g1 := g1) (g2 := g2) R k
    unfold wE at h
    omega
end RSP
theorem wE_lt (n1 n2 : Nat) (g1 g2 : Nat → Nat → Nat → Nat) (k : Nat) : wE n1 n2 g1 g2 k < 1000 := by
  have := wR_le (n1 := n1) (n2 := n2) (g1 := g1) (g2 := g2) 37 k
  unfold wE
  omega
theorem op_alike (W : Wf S) (x y : Int32) : OP n_MM_alike n_Mo_alike [.int x, .int y] S := by
  rcases ix4 x (n := 6) (by decide) with hx | ⟨i, hi, rfl⟩
  · refine op_ro W (-1) (fun Y F A hC => ?_) (fun Y F A hM => ?_)
    · refine rn_in m_MM_alike rfl ⟨rfl, rfl⟩ ?_
      show ev _ t_MM_alike 0 [.ref 9, .int x, .int y] [] _ _
      repeat (refine ev_np [] rfl rfl rfl ?_)
      refine ev_ca rfl (c_MM_noPlanT 78 hx) ?_
      repeat (refine ev_np [] rfl rfl rfl ?_)
      exact ev_ri rfl rfl
    · refine rn_in m_Mo_alike rfl ⟨rfl, rfl⟩ ?_
      show ev _ t_Mo_alike 0 [.ref 62, .int x, .int y, .float 0] [] _ _
      repeat (refine ev_np [] rfl rfl rfl ?_)
      refine ev_pf rfl (by rfl) ⟨by rfl, by rfl⟩ ?_
      repeat (refine ev_np [] rfl rfl rfl ?_)
      refine ev_ca rfl (c_Mo_isPlanF 77 hx) ?_
      repeat (refine ev_np [] rfl rfl rfl ?_)
      exact ev_ri rfl rfl
  rcases ix4 y (n := 6) (by decide) with hy | ⟨j, hj, rfl⟩
  · refine op_ro W (-1) (fun Y F A hC => ?_) (fun Y F A hM => ?_)
    · refine rn_in m_MM_alike rfl ⟨rfl, rfl⟩ ?_
      show ev _ t_MM_alike 0 [.ref 9, .int (nI i), .int y] [] _ _
      repeat (refine ev_np [] rfl rfl rfl ?_)
      refine ev_ca rfl (c_MM_noPlanF 78 hi) ?_
      repeat (refine ev_np [] rfl rfl rfl ?_)
      refine ev_ca rfl (c_MM_noPlanT 78 hy) ?_
      repeat (refine ev_np [] rfl rfl rfl ?_)
      exact ev_ri rfl rfl
    · refine rn_in m_Mo_alike rfl ⟨rfl, rfl⟩ ?_
      show ev _ t_Mo_alike 0 [.ref 62, .int (nI i), .int y, .float 0] [] _ _
      repeat (refine ev_np [] rfl rfl rfl ?_)
      refine ev_pf rfl (by rfl) ⟨by rfl, by rfl⟩ ?_
      repeat (refine ev_np [] rfl rfl rfl ?_)
      refine ev_ca rfl (c_Mo_isPlanT 77 hi) ?_
      repeat (refine ev_np [] rfl rfl rfl ?_)
      refine ev_ca rfl (c_Mo_isPlanF 77 hy) ?_
      repeat (refine ev_np [] rfl rfl rfl ?_)
      exact ev_ri rfl rfl
  have wi := W.2.1 i hi
  have wj := W.2.1 j hj
  obtain ⟨a, ha⟩ : ∃ a, a = wE (S.2.1 i).1 (S.2.1 j).1 (S.2.1 i).2 (S.2.1 j).2 0 := ⟨_, rfl⟩
  obtain ⟨b, hb⟩ : ∃ b, b = wE (S.2.1 j).1 (S.2.1 i).1 (S.2.1 j).2 (S.2.1 i).2 0 := ⟨_, rfl⟩
  have la : a < 1000 := by rw [ha]; exact wE_lt ..
  have lb : b < 1000 := by rw [hb]; exact wE_lt ..
  refine op_sc W (z01 (decide (a = 0) && decide (b = 0))) (fun Y F A hC => ?_) (fun Y F A hM => ?_)
  · obtain ⟨F1, A1, b1, b2, b3, b4, -⟩ := c_Rounds_play (Y := Y) 73 (PLi hi) (PLi hj) (hC.2.1 i hi) (hC.2.1 j hj) wi.1 wj.1
    rw [← ha] at b1
    have hC1 := hC.keep b2 b3 ⟨rfl, rfl⟩
    obtain ⟨F2, A2, c1, c2, c3, c4, -⟩ := c_Rounds_play (Y := Y) 73 (PLi hj) (PLi hi) (hC1.2.1 j hj) (hC1.2.1 i hi) wj.1 wi.1
    rw [← hb] at c1
    have start : ∀ q, (ev 79 t_MM_alike 35 [.ref 9, .int (nI i), .int (nI j)] [.int (z01 (decide (a = 0)))] (hp Y F1 A1) q) → ev 79 t_MM_alike 0 [.ref 9, .int (nI i), .int (nI j)] [] (hp Y F A) q := by
      intro q hq
      repeat (refine ev_np [] rfl rfl rfl ?_)
      refine ev_ca rfl (c_MM_noPlanF 78 hi) ?_
      repeat (refine ev_np [] rfl rfl rfl ?_)
      refine ev_ca rfl (c_MM_noPlanF 78 hj) ?_
      repeat (first | refine ev_np [] rfl rfl rfl ?_ | refine ev_grs [] rfl rfl (by rfl) (by rfl) ?_)
      refine ev_aa rfl hi ?_
      repeat (first | refine ev_np [] rfl rfl rfl ?_ | refine ev_grs [] rfl rfl (by rfl) (by rfl) ?_)
      refine ev_aa rfl hj ?_
      refine ev_vc rfl (by rfl) (by rfl) rfl (b1) ?_
      exact hq
    by_cases e1 : a = 0
    · refine ⟨F2, A2, [47, 48, 49], [4502, 4503], ?_, b2.tr c2, b3.tr c3, rfl, rfl⟩
      refine rn_in m_MM_alike rfl ⟨rfl, rfl⟩ ?_
      show ev _ t_MM_alike 0 [.ref 9, .int (nI i), .int (nI j)] [] _ _
      refine start _ ?_
      rw [decide_eq_true e1]
      repeat (first | refine ev_np [] rfl rfl rfl ?_ | refine ev_grs [] rfl rfl (by rfl) (by rfl) ?_)
      refine ev_aa rfl hj ?_
      repeat (first | refine ev_np [] rfl rfl rfl ?_ | refine ev_grs [] rfl rfl (by rfl) (by rfl) ?_)
      refine ev_aa rfl hi ?_
      refine ev_vc rfl (by rfl) (by rfl) rfl (c1) ?_
      by_cases e2 : b = 0
      · rw [decide_eq_true e2]
        repeat (refine ev_np [] rfl rfl rfl ?_)
        exact ev_ri rfl rfl
      · rw [decide_eq_false e2]
        repeat (refine ev_np [] rfl rfl rfl ?_)
        exact ev_ri rfl rfl
    · refine ⟨F1, A1, [47, 48, 49], [4502, 4503], ?_, b2, b3, rfl, rfl⟩
      refine rn_in m_MM_alike rfl ⟨rfl, rfl⟩ ?_
      show ev _ t_MM_alike 0 [.ref 9, .int (nI i), .int (nI j)] [] _ _
      refine start _ ?_
      rw [decide_eq_false e1]
      repeat (refine ev_np [] rfl rfl rfl ?_)
      exact ev_ri rfl rfl
  · have hM0 := hM.thrown 0
    obtain ⟨A1, b1, b2, b3⟩ := c_Mo_goes (Y := Y) (F := uF F 62 0 0) 75 (i := i) (j := j) (by omega) (by omega) (hM0.2.1 i hi) (hM0.2.1 j hj) wi wj
    have hM1 := hM0.keep b2 (sF.rf (L := [])) ⟨rfl, rfl⟩
    obtain ⟨A2, c1, c2, c3⟩ := c_Mo_goes (Y := Y) (F := uF F 62 0 0) 75 (i := j) (j := i) (by omega) (by omega) (hM1.2.1 j hj) (hM1.2.1 i hi) wj wi
    refine ⟨A2, [70], ?_, b2.tr c2, rfl⟩
    refine rn_in m_Mo_alike rfl ⟨rfl, rfl⟩ ?_
    show ev _ t_Mo_alike 0 [.ref 62, .int (nI i), .int (nI j), .float 0] [] _ _
    repeat (refine ev_np [] rfl rfl rfl ?_)
    refine ev_pf rfl (by rfl) ⟨by rfl, by rfl⟩ ?_
    repeat (refine ev_np [] rfl rfl rfl ?_)
    refine ev_ca rfl (c_Mo_isPlanT 77 hi) ?_
    repeat (refine ev_np [] rfl rfl rfl ?_)
    refine ev_ca rfl (c_Mo_isPlanT 77 hj) ?_
    repeat (refine ev_np [] rfl rfl rfl ?_)
    refine ev_vc rfl (by rfl) (by rfl) rfl (b1) ?_
    repeat (first | refine ev_np [] rfl rfl rfl ?_ | refine ev_grs [] rfl rfl (by rfl) (by rfl) ?_)
    refine ev_an rfl (by rfl) (j := 0) rfl (by decide) rfl ?_
    rw [b3 0 (by decide), ← ha]
    by_cases e1 : a = 0
    · rw [e1]
      repeat (refine ev_np [] rfl rfl rfl ?_)
      refine ev_vc rfl (by rfl) (by rfl) rfl (c1) ?_
      repeat (first | refine ev_np [] rfl rfl rfl ?_ | refine ev_grs [] rfl rfl (by rfl) (by rfl) ?_)
      refine ev_an rfl (by rfl) (j := 0) rfl (by decide) rfl ?_
      rw [c3 0 (by decide), ← hb]
      by_cases e2 : b = 0
      · rw [e2]
        repeat (refine ev_np [] rfl rfl rfl ?_)
        exact ev_ri rfl rfl
      · repeat (refine ev_np [] rfl rfl rfl ?_)
        refine ev_it (nI_ne0 (by omega) (by omega)) ?_
        repeat (refine ev_np [] rfl rfl rfl ?_)
        exact ev_ri rfl (by rw [decide_eq_false e2]; rfl)
    · repeat (refine ev_np [] rfl rfl rfl ?_)
      refine ev_it (nI_ne0 (by omega) (by omega)) ?_
      repeat (refine ev_np [] rfl rfl rfl ?_)
      refine ev_vc rfl (by rfl) (by rfl) rfl (c1) ?_
      repeat (refine ev_np [] rfl rfl rfl ?_)
      exact ev_ri rfl (by rw [decide_eq_false e1]; rfl)
theorem op_stays (W : Wf S) (x y u v : Int32) : OP n_MM_stays n_Mo_stays [.int x, .int y, .int u, .int v] S := by
  by_cases h1 : St S x y
  · obtain ⟨i, s, hi, hs, rfl, rfl⟩ := h1
    by_cases h2 : St S u v
    · obtain ⟨j, t, hj, ht, rfl, rfl⟩ := h2
      have wi := W.2.1 i hi
      have wj := W.2.1 j hj
      have hs6 : s < 6 := by have := wi.1.2; omega
      have ht6 : t < 6 := by have := wj.1.2; omega
      refine op_sc W (nI (wE (S.2.1 i).1 (S.2.1 j).1 (S.2.1 i).2 (S.2.1 j).2 (6 * s + t))) (fun Y F A hC => ?_) (fun Y F A hM => ?_)
      · obtain ⟨F1, A1, b1, b2, b3, b4, -⟩ := c_Rounds_play (Y := Y) 73 (PLi hi) (PLi hj) (hC.2.1 i hi) (hC.2.1 j hj) wi.1 wj.1
        refine ⟨F1, A1, [47, 48, 49], [4502, 4503], ?_, b2, b3, rfl, rfl⟩
        refine rn_in m_MM_stays rfl ⟨rfl, rfl⟩ ?_
        show ev _ t_MM_stays 0 [.ref 9, .int (nI i), .int (nI s), .int (nI j), .int (nI t)] [] _ _
        repeat (refine ev_np [] rfl rfl rfl ?_)
        refine ev_vc rfl (by rfl) (by rfl) rfl (c_MM_noStateF 77 hC W hi hs) ?_
        repeat (refine ev_np [] rfl rfl rfl ?_)
        refine ev_vc rfl (by rfl) (by rfl) rfl (c_MM_noStateF 77 hC W hj ht) ?_
        repeat (first | refine ev_np [] rfl rfl rfl ?_ | refine ev_grs [] rfl rfl (by rfl) (by rfl) ?_)
        refine ev_aa rfl hi ?_
        repeat (first | refine ev_np [] rfl rfl rfl ?_ | refine ev_grs [] rfl rfl (by rfl) (by rfl) ?_)
        refine ev_aa rfl hj ?_
        refine ev_vc rfl (by rfl) (by rfl) rfl (b1) ?_
        repeat (first | refine ev_np [] rfl rfl rfl ?_ | refine ev_grs [] rfl rfl (by rfl) (by rfl) ?_)
        refine ev_vc rfl (by rfl) (by rfl) rfl (c_Rounds_roundOf 78 b4 hs6 ht6) ?_
        exact ev_ri rfl rfl
      · have hM0 := hM.thrown 0
        obtain ⟨A1, b1, b2, b3⟩ := c_Mo_goes (Y := Y) (F := uF F 62 0 0) 75 (i := i) (j := j) (by omega) (by omega) (hM0.2.1 i hi) (hM0.2.1 j hj) wi wj
        refine ⟨A1, [70], ?_, b2, rfl⟩
        refine rn_in m_Mo_stays rfl ⟨rfl, rfl⟩ ?_
        show ev _ t_Mo_stays 0 [.ref 62, .int (nI i), .int (nI s), .int (nI j), .int (nI t)] [] _ _
        repeat (refine ev_np [] rfl rfl rfl ?_)
        refine ev_pf rfl (by rfl) ⟨by rfl, by rfl⟩ ?_
        repeat (refine ev_np [] rfl rfl rfl ?_)
        refine ev_vc rfl (by rfl) (by rfl) rfl (c_Mo_isStateT 76 hM0 W hi hs) ?_
        repeat (refine ev_np [] rfl rfl rfl ?_)
        refine ev_vc rfl (by rfl) (by rfl) rfl (c_Mo_isStateT 76 hM0 W hj ht) ?_
        repeat (refine ev_np [] rfl rfl rfl ?_)
        refine ev_vc rfl (by rfl) (by rfl) rfl (b1) ?_
        repeat (first | refine ev_np [] rfl rfl rfl ?_ | refine ev_grs [] rfl rfl (by rfl) (by rfl) ?_)
        refine ev_an rfl (by rfl) (j := 6 * s + t) (by rw [show (6 : Int32) = nI 6 from rfl, pk_mul, nI_add]) (by omega) rfl ?_
        exact ev_ri rfl (b3 _ (by omega))
    · refine op_ro W (-1) (fun Y F A hC => ?_) (fun Y F A hM => ?_)
      · refine rn_in m_MM_stays rfl ⟨rfl, rfl⟩ ?_
        show ev _ t_MM_stays 0 [.ref 9, .int (nI i), .int (nI s), .int u, .int v] [] _ _
        repeat (refine ev_np [] rfl rfl rfl ?_)
        refine ev_vc rfl (by rfl) (by rfl) rfl (c_MM_noStateF 77 hC W hi hs) ?_
        repeat (refine ev_np [] rfl rfl rfl ?_)
        refine ev_vc rfl (by rfl) (by rfl) rfl (c_MM_noStateT 77 hC W h2) ?_
        repeat (refine ev_np [] rfl rfl rfl ?_)
        exact ev_ri rfl rfl
      · have hM0 := hM.thrown 0
        refine rn_in m_Mo_stays rfl ⟨rfl, rfl⟩ ?_
        show ev _ t_Mo_stays 0 [.ref 62, .int (nI i), .int (nI s), .int u, .int v] [] _ _
        repeat (refine ev_np [] rfl rfl rfl ?_)
        refine ev_pf rfl (by rfl) ⟨by rfl, by rfl⟩ ?_
        repeat (refine ev_np [] rfl rfl rfl ?_)
        refine ev_vc rfl (by rfl) (by rfl) rfl (c_Mo_isStateT 76 hM0 W hi hs) ?_
        repeat (refine ev_np [] rfl rfl rfl ?_)
        refine ev_vc rfl (by rfl) (by rfl) rfl (c_Mo_isStateF 76 hM0 W h2) ?_
        repeat (refine ev_np [] rfl rfl rfl ?_)
        exact ev_ri rfl rfl
  · refine op_ro W (-1) (fun Y F A hC => ?_) (fun Y F A hM => ?_)
    · refine rn_in m_MM_stays rfl ⟨rfl, rfl⟩ ?_
      show ev _ t_MM_stays 0 [.ref 9, .int x, .int y, .int u, .int v] [] _ _
      repeat (refine ev_np [] rfl rfl rfl ?_)
      refine ev_vc rfl (by rfl) (by rfl) rfl (c_MM_noStateT 77 hC W h1) ?_
      repeat (refine ev_np [] rfl rfl rfl ?_)
      exact ev_ri rfl rfl
    · have hM0 := hM.thrown 0
      refine rn_in m_Mo_stays rfl ⟨rfl, rfl⟩ ?_
      show ev _ t_Mo_stays 0 [.ref 62, .int x, .int y, .int u, .int v] [] _ _
      repeat (refine ev_np [] rfl rfl rfl ?_)
      refine ev_pf rfl (by rfl) ⟨by rfl, by rfl⟩ ?_
      repeat (refine ev_np [] rfl rfl rfl ?_)
      refine ev_vc rfl (by rfl) (by rfl) rfl (c_Mo_isStateF 76 hM0 W h1) ?_
      repeat (refine ev_np [] rfl rfl rfl ?_)
      exact ev_ri rfl rfl
theorem op_stricter (W : Wf S) (x y z : Int32) : OP n_MM_stricter n_Mo_stricter [.int x, .int y, .int z] S := by
  rcases ix4 x (n := 6) (by decide) with hx | ⟨i, hi, rfl⟩
  · refine op_ro W (-1) (fun Y F A hC => ?_) (fun Y F A hM => ?_)
    · refine rn_in m_MM_stricter rfl ⟨rfl, rfl⟩ ?_
      show ev _ t_MM_stricter 0 [.ref 9, .int x, .int y, .int z, .float 0] [] _ _
      repeat (refine ev_np [] rfl rfl rfl ?_)
      refine ev_ca rfl (c_MM_noPlanT 78 hx) ?_
      repeat (refine ev_np [] rfl rfl rfl ?_)
      exact ev_ri rfl rfl
    · refine rn_in m_Mo_stricter rfl ⟨rfl, rfl⟩ ?_
      show ev _ t_Mo_stricter 0 [.ref 62, .int x, .int y, .int z, .float 0, .float 0, .float 0] [] _ _
      repeat (refine ev_np [] rfl rfl rfl ?_)
      refine ev_pf rfl (by rfl) ⟨by rfl, by rfl⟩ ?_
      repeat (refine ev_np [] rfl rfl rfl ?_)
      refine ev_ca rfl (c_Mo_isPlanF 77 hx) ?_
      repeat (refine ev_np [] rfl rfl rfl ?_)
      exact ev_ri rfl rfl
  rcases ix4 y (n := 6) (by decide) with hy | ⟨j, hj, rfl⟩
  · refine op_ro W (-1) (fun Y F A hC => ?_) (fun Y F A hM => ?_)
    · refine rn_in m_MM_stricter rfl ⟨rfl, rfl⟩ ?_
      show ev _ t_MM_stricter 0 [.ref 9, .int (nI i), .int y, .int z, .float 0] [] _ _
      repeat (refine ev_np [] rfl rfl rfl ?_)
      refine ev_ca rfl (c_MM_noPlanF 78 hi) ?_
      repeat (refine ev_np [] rfl rfl rfl ?_)
      refine ev_ca rfl (c_MM_noPlanT 78 hy) ?_
      repeat (refine ev_np [] rfl rfl rfl ?_)
      exact ev_ri rfl rfl
    · refine rn_in m_Mo_stricter rfl ⟨rfl, rfl⟩ ?_
      show ev _ t_Mo_stricter 0 [.ref 62, .int (nI i), .int y, .int z, .float 0, .float 0, .float 0] [] _ _
      repeat (refine ev_np [] rfl rfl rfl ?_)
      refine ev_pf rfl (by rfl) ⟨by rfl, by rfl⟩ ?_
      repeat (refine ev_np [] rfl rfl rfl ?_)
      refine ev_ca rfl (c_Mo_isPlanT 77 hi) ?_
      repeat (refine ev_np [] rfl rfl rfl ?_)
      refine ev_ca rfl (c_Mo_isPlanF 77 hy) ?_
      repeat (refine ev_np [] rfl rfl rfl ?_)
      exact ev_ri rfl rfl
  rcases ix4 z (n := 4) (by decide) with hz | ⟨k, hk, rfl⟩
  · refine op_ro W (-1) (fun Y F A hC => ?_) (fun Y F A hM => ?_)
    · refine rn_in m_MM_stricter rfl ⟨rfl, rfl⟩ ?_
      show ev _ t_MM_stricter 0 [.ref 9, .int (nI i), .int (nI j), .int z, .float 0] [] _ _
      repeat (refine ev_np [] rfl rfl rfl ?_)
      refine ev_ca rfl (c_MM_noPlanF 78 hi) ?_
      repeat (refine ev_np [] rfl rfl rfl ?_)
      refine ev_ca rfl (c_MM_noPlanF 78 hj) ?_
      repeat (refine ev_np [] rfl rfl rfl ?_)
      refine ev_if (fun c => ?_) (fun c => ?_)
      · repeat (refine ev_np [] rfl rfl rfl ?_)
        exact ev_ri rfl rfl
      · repeat (refine ev_np [] rfl rfl rfl ?_)
        refine ev_ie (out_le (n := 3) (by decide) hz c) ?_
        repeat (refine ev_np [] rfl rfl rfl ?_)
        exact ev_ri rfl rfl
    · refine rn_in m_Mo_stricter rfl ⟨rfl, rfl⟩ ?_
      show ev _ t_Mo_stricter 0 [.ref 62, .int (nI i), .int (nI j), .int z, .float 0, .float 0, .float 0] [] _ _
      repeat (refine ev_np [] rfl rfl rfl ?_)
      refine ev_pf rfl (by rfl) ⟨by rfl, by rfl⟩ ?_
      repeat (refine ev_np [] rfl rfl rfl ?_)
      refine ev_ca rfl (c_Mo_isPlanT 77 hi) ?_
      repeat (refine ev_np [] rfl rfl rfl ?_)
      refine ev_ca rfl (c_Mo_isPlanT 77 hj) ?_
      repeat (refine ev_np [] rfl rfl rfl ?_)
      refine ev_ca rfl (c_Mo_in 78 _ _ _) ?_
      rw [show (3 : Int32) = nI 3 from rfl, in_T (N := 3) (by omega) hz]
      repeat (refine ev_np [] rfl rfl rfl ?_)
      exact ev_ri rfl rfl
  have wi := W.2.1 i hi
  have wj := W.2.1 j hj
  obtain ⟨n1, hn1⟩ : ∃ a, a = (S.2.1 i).1 := ⟨_, rfl⟩
  obtain ⟨n2, hn2⟩ : ∃ a, a = (S.2.1 j).1 := ⟨_, rfl⟩
  obtain ⟨g1, hg1⟩ : ∃ a, a = (S.2.1 i).2 := ⟨_, rfl⟩
  obtain ⟨g2, hg2⟩ : ∃ a, a = (S.2.1 j).2 := ⟨_, rfl⟩
  rw [← hn1, ← hg1] at wi
  rw [← hn2, ← hg2] at wj
  obtain ⟨R, hR⟩ : ∃ R, R = wE n1 n2 g1 g2 0 := ⟨_, rfl⟩
  have lR : R < 1000 := by rw [hR]; exact wE_lt ..
  have lR37 : R ≤ 37 := by rw [hR]; exact wR_le 37 0
  obtain ⟨f, hf⟩ : ∃ f : Nat → Nat, f = sd g1 g2 (rs n1 n2 (wR n1 n2 g1 g2 (R - 1))) 0 0 := ⟨_, rfl⟩
  have fle : ∀ l, f l ≤ 2 := fun l => by rw [hf]; exact sd_le ..
  -- the class
  have clas : ∀ Y F A, RC F A S → ∃ F' A', sA [47, 48, 49] A A' ∧ sF [4502, 4503] F F' ∧ WE A' 49 (wE n1 n2 g1 g2) ∧ F' 45 2 = (if R = 0 then -9 else nI (fl f)) ∧ F' 45 3 = (if R = 0 then 0 else nI (f (fl f))) ∧ ∀ r, ev 79 t_MM_stricter 46 [.ref 9, .int (nI i), .int (nI j), .int (nI k), .int (z01 (decide (R = 0)))] [] (hp Y F' A') (some (.int r), hp Y F' A') → xa_rn xa_ms 80 n_MM_stricter [.ref 9, .int (nI i), .int (nI j), .int (nI k)] (hp Y F A) (some (.int r)) (hp Y F' A') := by
    intro Y F A hC
    obtain ⟨F1, A1, b1, b2, b3, b4, b5⟩ := c_Rounds_play (Y := Y) 73 (PLi hi) (PLi hj) (hC.2.1 i hi) (hC.2.1 j hj) (by rw [← hn1]; exact wi.1) (by rw [← hn2]; exact wj.1)
    rw [← hn1, ← hn2, ← hg1, ← hg2] at b1 b4 b5
    obtain ⟨b5, b6⟩ := b5
    rw [show wR n1 n2 g1 g2 37 0 = R from hR.symm, ← hf] at b5 b6
    rw [← hR] at b1
    refine ⟨F1, A1, b2, b3, b4, b5, b6, fun r hr => ?_⟩
    refine rn_in m_MM_stricter rfl ⟨rfl, rfl⟩ ?_
    show ev _ t_MM_stricter 0 [.ref 9, .int (nI i), .int (nI j), .int (nI k), .float 0] [] _ _
    repeat (refine ev_np [] rfl rfl rfl ?_)
    refine ev_ca rfl (c_MM_noPlanF 78 hi) ?_
    repeat (refine ev_np [] rfl rfl rfl ?_)
    refine ev_ca rfl (c_MM_noPlanF 78 hj) ?_
    repeat (refine ev_np [] rfl rfl rfl ?_)
    refine ev_ie (nI_pos (by omega)) ?_
    repeat (refine ev_np [] rfl rfl rfl ?_)
    refine ev_it (nI_le (b := 3) (by omega) (by omega)) ?_
    repeat (first | refine ev_np [] rfl rfl rfl ?_ | refine ev_grs [] rfl rfl (by rfl) (by rfl) ?_)
    refine ev_aa rfl hi ?_
    repeat (first | refine ev_np [] rfl rfl rfl ?_ | refine ev_grs [] rfl rfl (by rfl) (by rfl) ?_)
    refine ev_aa rfl hj ?_
    refine ev_vc rfl (by rfl) (by rfl) rfl (b1) ?_
    repeat (refine ev_np [46] rfl rfl rfl ?_)
    exact hr
  have model : ∀ Y F A, RM F A S → ∃ A', sA [70] A A' ∧ WE A' 70 (wE n1 n2 g1 g2) ∧ ∀ r, ev 79 t_Mo_stricter 44 [.ref 62, .int (nI i), .int (nI j), .int (nI k), .int (nI R), .float 0, .float 0] [] (hp Y (uF F 62 0 0) A') (some (.int r), hp Y (uF F 62 0 0) A') → xa_rn xa_ms 80 n_Mo_stricter [.ref 62, .int (nI i), .int (nI j), .int (nI k)] (hp Y F A) (some (.int r)) (hp Y (uF F 62 0 0) A') := by
    intro Y F A hM
    have hM0 := hM.thrown 0
    obtain ⟨A1, b1, b2, b3⟩ := c_Mo_goes (Y := Y) (F := uF F 62 0 0) 75 (i := i) (j := j) (by omega) (by omega) (hM0.2.1 i hi) (hM0.2.1 j hj) (by rw [← hn1, ← hg1]; exact wi) (by rw [← hn2, ← hg2]; exact wj)
    rw [← hn1, ← hn2, ← hg1, ← hg2] at b3
    refine ⟨A1, b2, b3, fun r hr => ?_⟩
    refine rn_in m_Mo_stricter rfl ⟨rfl, rfl⟩ ?_
    show ev _ t_Mo_stricter 0 [.ref 62, .int (nI i), .int (nI j), .int (nI k), .float 0, .float 0, .float 0] [] _ _
    repeat (refine ev_np [] rfl rfl rfl ?_)
    refine ev_pf rfl (by rfl) ⟨by rfl, by rfl⟩ ?_
    repeat (refine ev_np [] rfl rfl rfl ?_)
    refine ev_ca rfl (c_Mo_isPlanT 77 hi) ?_
    repeat (refine ev_np [] rfl rfl rfl ?_)
    refine ev_ca rfl (c_Mo_isPlanT 77 hj) ?_
    repeat (refine ev_np [] rfl rfl rfl ?_)
    refine ev_ca rfl (c_Mo_in 78 _ _ _) ?_
    rw [show (3 : Int32) = nI 3 from rfl, in_F (N := 3) (by omega) (by omega)]
    repeat (refine ev_np [] rfl rfl rfl ?_)
    refine ev_vc rfl (by rfl) (by rfl) rfl (b1) ?_
    repeat (first | refine ev_np [] rfl rfl rfl ?_ | refine ev_grs [] rfl rfl (by rfl) (by rfl) ?_)
    refine ev_an rfl (by rfl) (j := 0) rfl (by decide) rfl ?_
    rw [b3 0 (by decide), ← hR]
    repeat (refine ev_np [44] rfl rfl rfl ?_)
    exact hr
  have why : ∀ Y F A l, RM F A S → WE A 70 (wE n1 n2 g1 g2) → l < 3 → R ≠ 0 → xa_rn xa_ms 79 n_Mo_why [.ref 62, .int (nI i), .int 0, .int (nI j), .int 0, .int (nI l), .int (nI R)] (hp Y F A) (some (.int (nI (f l)))) (hp Y F A) := by
    intro Y F A l hM hw hl hR0
    have h1 := c_Mo_why (Y := Y) (F := F) (A := A) 76 (i := i) (j := j) (by omega) (by omega) (hM.2.1 i hi) (hM.2.1 j hj) (by rw [← hn1]; exact wi.1.2) (by rw [← hn2]; exact wj.1.2) (by rw [← hg1]; exact fun s l t => (wi.2 s l t).1) (by rw [← hg2]; exact fun s l t => (wj.2 s l t).1) hw (wE_lt n1 n2 g1 g2) (s := 0) (t := 0) (l := l) (R := R) (by decide) (by decide) hl lR
    rw [← hn1, ← hn2, ← hg1, ← hg2] at h1
    rw [← sM_eq wi wj (r := rs n1 n2 (wR n1 n2 g1 g2 (R - 1))) (r' := fun a b => decide (wE n1 n2 g1 g2 (6 * a + b) = 0) || decide (R ≤ wE n1 n2 g1 g2 (6 * a + b))) (fun a b ha hb => by
      unfold rs
      rw [decide_eq_true ha, decide_eq_true hb]
      have := wR_at (n1 := n1) (n2 := n2) (g1 := g1) (g2 := g2) (R := R - 1) (by omega) (6 * a + b)
      rw [show R - 1 + 1 = R by omega] at this
      rw [decide_eq_decide.mpr this, Bool.decide_or]
      rfl), ← hf] at h1
    exact h1
  have hhg : R ≠ 0 → hg f = true := by
    intro h0
    obtain ⟨h1, -⟩ := wR_go 37 h0 hR.symm
    unfold gok at h1
    rw [Bool.and_eq_true] at h1
    rw [hf]
    exact h1.2
  have h4 : k = 0 ∨ k = 1 ∨ k = 2 ∨ k = 3 := by omega
  rcases h4 with rfl | rfl | h23
  · refine op_sc W (z01 (decide (R = 0))) (fun Y F A hC => ?_) (fun Y F A hM => ?_)
    · obtain ⟨F1, A1, a1, a2, a3, a4, a5, a6⟩ := clas Y F A hC
      refine ⟨F1, A1, [47, 48, 49], [4502, 4503], a6 _ ?_, a1, a2, rfl, rfl⟩
      cases decide (R = 0) with
      | true =>
        repeat (refine ev_np [] rfl rfl rfl ?_)
        exact ev_ri rfl rfl
      | false =>
        repeat (refine ev_np [] rfl rfl rfl ?_)
        exact ev_ri rfl rfl
    · obtain ⟨A1, a1, a2, a3⟩ := model Y F A hM
      refine ⟨A1, [70], a3 _ ?_, a1, rfl⟩
      repeat (refine ev_np [] rfl rfl rfl ?_)
      by_cases e : R = 0
      · rw [e]
        repeat (refine ev_np [] rfl rfl rfl ?_)
        exact ev_ri rfl rfl
      · refine ev_it (nI_ne0 (by omega) (by omega)) ?_
        repeat (refine ev_np [] rfl rfl rfl ?_)
        exact ev_ri rfl (by rw [decide_eq_false e]; rfl)
  · refine op_sc W (nI R) (fun Y F A hC => ?_) (fun Y F A hM => ?_)
    · obtain ⟨F1, A1, a1, a2, a3, a4, a5, a6⟩ := clas Y F A hC
      refine ⟨F1, A1, [47, 48, 49], [4502, 4503], a6 _ ?_, a1, a2, rfl, rfl⟩
      repeat (first | refine ev_np [] rfl rfl rfl ?_ | refine ev_grs [] rfl rfl (by rfl) (by rfl) ?_)
      refine ev_vc rfl (by rfl) (by rfl) rfl (c_Rounds_roundOf 78 a3 (s := 0) (t := 0) (by decide) (by decide)) ?_
      exact ev_ri rfl (by rw [hR])
    · obtain ⟨A1, a1, a2, a3⟩ := model Y F A hM
      refine ⟨A1, [70], a3 _ ?_, a1, rfl⟩
      repeat (refine ev_np [] rfl rfl rfl ?_)
      exact ev_ri rfl rfl
  · have hk2 : 2 ≤ k := by omega
    refine op_sc W (if R = 0 then (if k = 2 then -9 else 0) else (if k = 2 then nI (fl f) else nI (f (fl f)))) (fun Y F A hC => ?_) (fun Y F A hM => ?_)
    · obtain ⟨F1, A1, a1, a2, a3, a4, a5, a6⟩ := clas Y F A hC
      refine ⟨F1, A1, [47, 48, 49], [4502, 4503], a6 _ ?_, a1, a2, rfl, rfl⟩
      rcases h23 with rfl | rfl
      · repeat (first | refine ev_np [] rfl rfl rfl ?_ | refine ev_grs [] rfl rfl (by rfl) (by rfl) ?_)
        refine ev_vc rfl (by rfl) (by rfl) rfl (?_ : xa_rn xa_ms 79 n_Rounds_whyLetter [.ref 45] (hp Y F1 A1) (some (.int (F1 45 2))) (hp Y F1 A1)) ?_
        · refine rn_in m_Rounds_whyLetter rfl ⟨rfl, rfl⟩ ?_
          show ev _ t_Rounds_whyLetter 0 [.ref 45] [] _ _
          repeat (refine ev_np [] rfl rfl rfl ?_)
          refine ev_gi rfl (by rfl) (by rfl) ?_
          exact ev_ri rfl rfl
        · repeat (refine ev_np [] rfl rfl rfl ?_)
          refine ev_ri rfl ?_
          rw [a4]
          rfl
      · repeat (first | refine ev_np [] rfl rfl rfl ?_ | refine ev_grs [] rfl rfl (by rfl) (by rfl) ?_)
        refine ev_vc rfl (by rfl) (by rfl) rfl (?_ : xa_rn xa_ms 79 n_Rounds_whySide [.ref 45] (hp Y F1 A1) (some (.int (F1 45 3))) (hp Y F1 A1)) ?_
        · refine rn_in m_Rounds_whySide rfl ⟨rfl, rfl⟩ ?_
          show ev _ t_Rounds_whySide 0 [.ref 45] [] _ _
          repeat (refine ev_np [] rfl rfl rfl ?_)
          refine ev_gi rfl (by rfl) (by rfl) ?_
          exact ev_ri rfl rfl
        · refine ev_ri rfl ?_
          rw [a5]
          rfl
    · obtain ⟨A1, a1, a2, a3⟩ := model Y F A hM
      refine ⟨A1, [70], a3 _ ?_, a1, rfl⟩
      have hM1 := (hM.thrown 0).keep a1 (sF.rf (L := [])) ⟨rfl, rfl⟩
      repeat (refine ev_np [] rfl rfl rfl ?_)
      refine ev_it (nI_le (a := 2) hk2 (by omega)) ?_
      repeat (refine ev_np [73] rfl rfl rfl ?_)
      by_cases e : R = 0
      · rw [e, if_pos rfl]
        rcases h23 with rfl | rfl
        · repeat (refine ev_np [] rfl rfl rfl ?_)
          exact ev_ri rfl rfl
        · repeat (refine ev_np [] rfl rfl rfl ?_)
          exact ev_ri rfl rfl
      · rw [if_neg e]
        have fin : ∀ l, l < 3 → f l ≠ 0 → fl f = l → ∀ v6 : Value, ev 79 t_Mo_stricter 73 [.ref 62, .int (nI i), .int (nI j), .int (nI k), .int (nI R), .int (nI l), v6] [] (hp Y (uF F 62 0 0) A1) (some (.int (if k = 2 then nI (fl f) else nI (f (fl f)))), hp Y (uF F 62 0 0) A1) := by
          intro l hl h0 hfl v6
          have := fle l
          rw [hfl]
          repeat (refine ev_np [] rfl rfl rfl ?_)
          refine ev_ie (nI_ge (b := 3) hl (by omega)) ?_
          repeat (refine ev_np [] rfl rfl rfl ?_)
          refine ev_ie (nI_nle (by omega) (by omega)) ?_
          repeat (refine ev_np [] rfl rfl rfl ?_)
          refine ev_vc rfl (by rfl) (by rfl) rfl (why Y _ A1 l hM1 a2 hl e) ?_
          repeat (refine ev_np [] rfl rfl rfl ?_)
          refine ev_ie (nI_nle (by omega) (by omega)) ?_
          rcases h23 with rfl | rfl
          · repeat (refine ev_np [] rfl rfl rfl ?_)
            exact ev_ri rfl rfl
          · repeat (refine ev_np [] rfl rfl rfl ?_)
            exact ev_ri rfl rfl
        have skip : ∀ l, l < 3 → f l = 0 → ∀ (v6 : Value) q, (∀ v6 : Value, ev 79 t_Mo_stricter 73 [.ref 62, .int (nI i), .int (nI j), .int (nI k), .int (nI R), .int (nI (l + 1)), v6] [] (hp Y (uF F 62 0 0) A1) q) → ev 79 t_Mo_stricter 73 [.ref 62, .int (nI i), .int (nI j), .int (nI k), .int (nI R), .int (nI l), v6] [] (hp Y (uF F 62 0 0) A1) q := by
          intro l hl h0 v6 q hq
          rw [nI_succ] at hq
          repeat (refine ev_np [] rfl rfl rfl ?_)
          refine ev_ie (nI_ge (b := 3) hl (by omega)) ?_
          repeat (refine ev_np [] rfl rfl rfl ?_)
          refine ev_ie (nI_nle (by omega) (by omega)) ?_
          repeat (refine ev_np [] rfl rfl rfl ?_)
          refine ev_vc rfl (by rfl) (by rfl) rfl (why Y _ A1 l hM1 a2 hl e) ?_
          rw [h0]
          repeat (refine ev_np [73] rfl rfl rfl ?_)
          exact hq _
        have hh := hhg e
        by_cases f0 : f 0 = 0
        · refine skip 0 (by decide) f0 _ _ (fun v6 => ?_)
          by_cases f1 : f 1 = 0
          · refine skip 1 (by decide) f1 _ _ (fun v6 => ?_)
            refine fin 2 (by decide) ?_ ?_ _
            · unfold hg at hh
              simpa [f0, f1] using hh
            · simp [fl, f0, f1]
          · exact fin 1 (by decide) f1 (by simp [fl, f0, f1]) _
        · exact fin 0 (by decide) f0 (by simp [fl, f0]) _
end OPS4
