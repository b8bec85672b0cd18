/-! ===== the model: join, its loops; call: join ===== -/
section JM2
variable {Y : Nat × (Nat → Int32)} {F A : Nat → Nat → Int32} {i j n1 n2 : Nat} {g1 g2 : Nat → Nat → Nat → Nat} {r : Nat → Nat → Bool} {ao : Bool} (d : Nat)
theorem jK_skip {n l K : Nat} {st : JS} : ∀ m, (∀ k, K ≤ k → k < K + m → r (k / 6) (k % 6) = false) → jK g1 g2 r ao n l (K + m) st = jK g1 g2 r ao n l K st := by
  intro m
  induction m with
  | zero => intro _; rfl
  | succ m ih =>
    intro h
    show js g1 g2 r ao n l (K + m) (jK g1 g2 r ao n l (K + m) st) = _
    rw [js_0 (by unfold jc; rw [h (K + m) (by omega) (by omega), Bool.and_false])]
    exact ih (fun k h1 h2 => h k h1 (by omega))
def KP (A A' : Nat → Nat → Int32) : Prop := ∀ i' n' g', i' < 8 → i' ≠ 6 → MP A i' n' g' → MP A' i' n' g'
theorem KP.rf {A : Nat → Nat → Int32} : KP A A := fun _ _ _ _ _ h => h
theorem KP.tr {A B C : Nat → Nat → Int32} (h : KP A B) (g : KP B C) : KP A C := fun i n g' h8 h6 hm => g i n g' h8 h6 (h i n g' h8 h6 hm)
set_option maxRecDepth 20000 in
theorem c_joinL (hi : i < 6) (hj : j < 6) (hm1 : MP A i n1 g1) (hm2 : MP A j n2 g2) (hw1 : GW n1 g1) (hw2 : GW n2 g2) (hin : ∀ a b, r a b = true → a < n1 ∧ b < n2) (hr : WJ A n1 n2 r) {st : JS} {to n l Q : Nat} (hJ : jI st ((n * 3 + l) * 36)) (hnP : n < st.1) (hQ : st.2.2.1 n = Q) (hl : l < 3) (hmj : MJ A st) : ∃ A', sA [63, 71, 72] A A' ∧ MJ A' (jK g1 g2 r ao n l 36 st) ∧ KP A A' ∧ (jK g1 g2 r ao n l 36 st).2.2.1 n = Q ∧ ∀ x, (∀ v10 v11 v12 v13 v14 v15 : Value, ev (d + 2) t_Mo_join 155 [.ref 62, .int (nI i), .int (nI j), .int (z01 ao), .int (nI to), .int (nI (jK g1 g2 r ao n l 36 st).1), .int (nI n), .int (nI (Q / 6)), .int (nI (Q % 6)), .int (nI l + 1), v10, v11, v12, v13, v14, v15] [] (hp Y F A') x) → ∀ v10 v11 v12 v13 v14 v15 : Value, ev (d + 2) t_Mo_join 155 [.ref 62, .int (nI i), .int (nI j), .int (z01 ao), .int (nI to), .int (nI st.1), .int (nI n), .int (nI (Q / 6)), .int (nI (Q % 6)), .int (nI l), v10, v11, v12, v13, v14, v15] [] (hp Y F A) x := by
  have hn1 := hw1.1.2
  have hn2 := hw2.1.2
  have hg1 : ∀ s l t, g1 s l t ≤ 2 := fun s l t => (hw1.2 s l t).1
  have hg2 : ∀ s l t, g2 s l t ≤ 2 := fun s l t => (hw2.2 s l t).1
  obtain ⟨A1, ⟨i1, i2, i3, i4⟩, h3⟩ := lp_ex (α := Nat → Nat → Int32) (fun s2 B => sA [63, 71, 72] A B ∧ MJ B (jK g1 g2 r ao n l (6 * s2) st) ∧ KP A B ∧ (jK g1 g2 r ao n l (6 * s2) st).2.2.1 n = Q) (fun s2 B x => ∀ v11 v12 v13 v14 v15 : Value, ev (d + 2) t_Mo_join 164 [.ref 62, .int (nI i), .int (nI j), .int (z01 ao), .int (nI to), .int (nI (jK g1 g2 r ao n l (6 * s2) st).1), .int (nI n), .int (nI (Q / 6)), .int (nI (Q % 6)), .int (nI l), .int (nI s2), v11, v12, v13, v14, v15] [] (hp Y F B) x) n1 (fun s2 B hs2 hI => by
    obtain ⟨i1, i2, i3, i4⟩ := hI
    obtain ⟨B1, ⟨j1, j2, j3, j4⟩, h3⟩ := lp_ex (α := Nat → Nat → Int32) (fun t2 C => sA [63, 71, 72] A C ∧ MJ C (jK g1 g2 r ao n l (6 * s2 + t2) st) ∧ KP A C ∧ (jK g1 g2 r ao n l (6 * s2 + t2) st).2.2.1 n = Q) (fun t2 C x => ∀ v12 v13 v14 v15 : Value, ev (d + 2) t_Mo_join 178 [.ref 62, .int (nI i), .int (nI j), .int (z01 ao), .int (nI to), .int (nI (jK g1 g2 r ao n l (6 * s2 + t2) st).1), .int (nI n), .int (nI (Q / 6)), .int (nI (Q % 6)), .int (nI l), .int (nI s2), .int (nI t2), v12, v13, v14, v15] [] (hp Y F C) x) n2 (fun t2 C ht2 hI => by
      obtain ⟨j1, j2, j3, j4⟩ := hI
      obtain ⟨hJK, hmK⟩ := jK_I (r := r) (ao := ao) hg1 hg2 hJ hl (6 * s2 + t2) (by omega)
      have hrC : WJ C n1 n2 r := fun a b ha hb => by rw [j1 70 (by decide)]; exact hr a b ha hb
      obtain ⟨C1, b1, b2, b3, b4, b5⟩ := c_join1 (Y := Y) (F := F) (A := C) (ao := ao) d (i := i) (j := j) (by omega) (by omega) (j3 _ _ _ (by omega) (by omega) hm1) (j3 _ _ _ (by omega) (by omega) hm2) hw1 hw2 hrC (to := to) hJK (Nat.lt_of_lt_of_le hnP hmK) j4 hl hs2 ht2 j2
      refine ⟨C1, ⟨j1.tr b1, b2, j3.tr b3, b4⟩, fun x hx => b5 x ?_⟩
      rw [nI_succ] at hx
      exact hx) n2 0 B (Nat.zero_add n2) ⟨i1, i2, i3, i4⟩
    have sk := jK_skip (g1 := g1) (g2 := g2) (r := r) (ao := ao) (n := n) (l := l) (K := 6 * s2 + n2) (st := st) (6 - n2) (fun k h1 h2 => by
      cases e : r (k / 6) (k % 6) with
      | false => rfl
      | true => have := hin _ _ e; omega)
    rw [show 6 * s2 + n2 + (6 - n2) = 6 * (s2 + 1) by omega] at sk
    rw [sk]
    refine ⟨B1, ⟨j1, j2, j3, j4⟩, fun x hx v11 v12 v13 v14 v15 => ?_⟩
    rw [nI_succ] at hx
    repeat (first | refine ev_np [] rfl rfl rfl ?_ | refine ev_grs [] rfl rfl (by rfl) (by rfl) ?_)
    refine ev_an rfl (by rfl) rfl (by omega) rfl ?_
    rw [i1 64 (by decide) |> fun _ => (i3 _ _ _ (by omega) (by omega) hm1).1]
    repeat (refine ev_np [] rfl rfl rfl ?_)
    refine ev_ie (nI_ge hs2 (by omega)) ?_
    repeat (refine ev_np [178] rfl rfl rfl ?_)
    refine h3 x (fun v12 v13 v14 v15 => ?_) _ _ _ _
    repeat (first | refine ev_np [] rfl rfl rfl ?_ | refine ev_grs [] rfl rfl (by rfl) (by rfl) ?_)
    refine ev_an rfl (by rfl) rfl (by omega) rfl ?_
    rw [(j3 _ _ _ (by omega) (by omega) hm2).1]
    repeat (refine ev_np [] rfl rfl rfl ?_)
    refine ev_it (nI_le (Nat.le_refl _) (by omega)) ?_
    repeat (refine ev_np [164] rfl rfl rfl ?_)
    exact hx _ _ _ _ _) n1 0 A (Nat.zero_add n1) ⟨sA.rf, hmj, KP.rf, hQ⟩
  have sk := jK_skip (g1 := g1) (g2 := g2) (r := r) (ao := ao) (n := n) (l := l) (K := 6 * n1) (st := st) (36 - 6 * n1) (fun k h1 h2 => by
    cases e : r (k / 6) (k % 6) with
    | false => rfl
    | true => have := hin _ _ e; omega)
  rw [show 6 * n1 + (36 - 6 * n1) = 36 by omega] at sk
  rw [sk]
  refine ⟨A1, i1, i2, i3, i4, fun x hx v10 v11 v12 v13 v14 v15 => ?_⟩
  repeat (refine ev_np [] rfl rfl rfl ?_)
  refine ev_ie (nI_ge (b := 3) hl (by omega)) ?_
  repeat (refine ev_np [164] rfl rfl rfl ?_)
  refine h3 x (fun v11 v12 v13 v14 v15 => ?_) _ _ _ _ _
  repeat (first | refine ev_np [] rfl rfl rfl ?_ | refine ev_grs [] rfl rfl (by rfl) (by rfl) ?_)
  refine ev_an rfl (by rfl) rfl (by omega) rfl ?_
  rw [(i3 _ _ _ (by omega) (by omega) hm1).1]
  repeat (refine ev_np [] rfl rfl rfl ?_)
  refine ev_it (nI_le (Nat.le_refl _) (by omega)) ?_
  repeat (refine ev_np [155] rfl rfl rfl ?_)
  exact hx _ _ _ _ _ _
set_option maxRecDepth 20000 in
theorem c_joinN (hi : i < 6) (hj : j < 6) (hm1 : MP A i n1 g1) (hm2 : MP A j n2 g2) (hw1 : GW n1 g1) (hw2 : GW n2 g2) (hin : ∀ a b, r a b = true → a < n1 ∧ b < n2) (hr : WJ A n1 n2 r) {to e : Nat} (he1 : (jN g1 g2 r ao e js0).1 ≤ e) (he2 : ∀ n, n < e → n < (jN g1 g2 r ao n js0).1) (he36 : e ≤ 36) (hmj : MJ A js0) : ∃ A', sA [63, 71, 72] A A' ∧ MJ A' (jN g1 g2 r ao e js0) ∧ KP A A' ∧ ∀ x, (∀ v6 v7 v8 v9 v10 v11 v12 v13 v14 v15 : Value, ev (d + 2) t_Mo_join 387 [.ref 62, .int (nI i), .int (nI j), .int (z01 ao), .int (nI to), .int (nI (jN g1 g2 r ao e js0).1), v6, v7, v8, v9, v10, v11, v12, v13, v14, v15] [] (hp Y F A') x) → ∀ v7 v8 v9 v10 v11 v12 v13 v14 v15 : Value, ev (d + 2) t_Mo_join 121 [.ref 62, .int (nI i), .int (nI j), .int (z01 ao), .int (nI to), .int (nI 1), .int (nI 0), v7, v8, v9, v10, v11, v12, v13, v14, v15] [] (hp Y F A) x := by
  have hg1 : ∀ s l t, g1 s l t ≤ 2 := fun s l t => (hw1.2 s l t).1
  have hg2 : ∀ s l t, g2 s l t ≤ 2 := fun s l t => (hw2.2 s l t).1
  obtain ⟨A1, ⟨i1, i2, i3⟩, h3⟩ := lp_ex (α := Nat → Nat → Int32) (fun n B => sA [63, 71, 72] A B ∧ MJ B (jN g1 g2 r ao n js0) ∧ KP A B) (fun n B x => ∀ v7 v8 v9 v10 v11 v12 v13 v14 v15 : Value, ev (d + 2) t_Mo_join 121 [.ref 62, .int (nI i), .int (nI j), .int (z01 ao), .int (nI to), .int (nI (jN g1 g2 r ao n js0).1), .int (nI n), v7, v8, v9, v10, v11, v12, v13, v14, v15] [] (hp Y F B) x) e (fun n B hn hI => by
    obtain ⟨i1, i2, i3⟩ := hI
    have hnP := he2 n hn
    have hJn := jN_I (r := r) (ao := ao) hg1 hg2 n
    have hP36 := jP _ hJn
    have hq36 := (hJn.2.1 n hnP).1
    obtain ⟨Q, hQ⟩ : ∃ Q, Q = (jN g1 g2 r ao n js0).2.2.1 n := ⟨_, rfl⟩
    obtain ⟨B1, ⟨j1, j2, j3, j4⟩, h3⟩ := lp_ex (α := Nat → Nat → Int32) (fun l C => sA [63, 71, 72] A C ∧ MJ C (jL g1 g2 r ao n l (jN g1 g2 r ao n js0)) ∧ KP A C ∧ (jL g1 g2 r ao n l (jN g1 g2 r ao n js0)).2.2.1 n = Q) (fun l C x => ∀ v10 v11 v12 v13 v14 v15 : Value, ev (d + 2) t_Mo_join 155 [.ref 62, .int (nI i), .int (nI j), .int (z01 ao), .int (nI to), .int (nI (jL g1 g2 r ao n l (jN g1 g2 r ao n js0)).1), .int (nI n), .int (nI (Q / 6)), .int (nI (Q % 6)), .int (nI l), v10, v11, v12, v13, v14, v15] [] (hp Y F C) x) 3 (fun l C hl hI => by
      obtain ⟨j1, j2, j3, j4⟩ := hI
      obtain ⟨hJL, hmL⟩ := jL_I (r := r) (ao := ao) hg1 hg2 hJn l (by omega)
      have hrC : WJ C n1 n2 r := fun a b ha hb => by rw [j1 70 (by decide)]; exact hr a b ha hb
      obtain ⟨C1, b1, b2, b3, b4, b5⟩ := c_joinL (Y := Y) (F := F) (A := C) (ao := ao) d hi hj (j3 _ _ _ (by omega) (by omega) hm1) (j3 _ _ _ (by omega) (by omega) hm2) hw1 hw2 hin hrC (to := to) hJL (Nat.lt_of_lt_of_le hnP hmL) j4 hl j2
      refine ⟨C1, ⟨j1.tr b1, b2, j3.tr b3, b4⟩, fun x hx => b5 x ?_⟩
      rw [nI_succ] at hx
      exact hx) 3 0 B rfl ⟨i1, i2, i3, hQ.symm⟩
    refine ⟨B1, ⟨j1, j2, j3⟩, fun x hx v7 v8 v9 v10 v11 v12 v13 v14 v15 => ?_⟩
    rw [nI_succ n] at hx
    have h71 := i2.2.1 n hnP
    rw [← hQ] at h71
    repeat (refine ev_np [] rfl rfl rfl ?_)
    refine ev_ie (nI_ge hnP (by omega)) ?_
    repeat (first | refine ev_np [] rfl rfl rfl ?_ | refine ev_grs [] rfl rfl (by rfl) (by rfl) ?_)
    refine ev_an rfl (by rfl) rfl (by omega) rfl ?_
    rw [h71]
    repeat (first | refine ev_np [] rfl rfl rfl ?_ | refine ev_grs [] rfl rfl (by rfl) (by rfl) ?_)
    refine ev_an rfl (by rfl) rfl (by omega) rfl ?_
    rw [h71]
    repeat (refine ev_np [155] rfl rfl rfl ?_)
    rw [rm6 (k := Q) (by omega), dv6 (k := Q) (by omega)]
    refine h3 x (fun v10 v11 v12 v13 v14 v15 => ?_) _ _ _ _ _ _
    repeat (refine ev_np [121] rfl rfl rfl ?_)
    exact hx _ _ _ _ _ _ _ _ _) e 0 A (Nat.zero_add e) ⟨sA.rf, hmj, KP.rf⟩
  refine ⟨A1, i1, i2, i3, fun x hx v7 v8 v9 v10 v11 v12 v13 v14 v15 => h3 x (fun v7 v8 v9 v10 v11 v12 v13 v14 v15 => ?_) _ _ _ _ _ _ _ _ _⟩
  repeat (refine ev_np [] rfl rfl rfl ?_)
  refine ev_it (nI_le he1 (by omega)) ?_
  exact hx _ _ _ _ _ _ _ _ _ _
end JM2
section OPJ
variable {S : SP}
theorem RM.keep6 {F A A' : Nat → Nat → Int32} (h : RM F A S) {LA : List Nat} (hA : sA (63 :: 64 :: LA) A A') (hk : (LA.all fun x => !(x == 65) && !(x == 66)) = true) (hm : KP A A') : RM F A' S := by
  obtain ⟨⟨a1, a2⟩, b, ⟨c1, c2, c3⟩, d1, d2, d3⟩ := h
  have kA : ∀ o, o = 65 ∨ o = 66 → A' o = A o := fun o ho => hA o (fun z => by
    simp only [List.mem_cons] at z
    rcases z with z | z | z
    · omega
    · omega
    · have := List.all_eq_true.mp hk o z
      simp only [Bool.and_eq_true, Bool.not_eq_true', beq_eq_false_iff_ne] at this
      omega)
  exact ⟨⟨a1, by rw [kA 65 (by omega)]; exact a2⟩, fun k hk => hm k _ _ (by omega) (by omega) (b k hk), ⟨c1, c2, by rw [kA 66 (by omega)]; exact c3⟩, hm 7 _ _ (by omega) (by omega) d1, d2, d3⟩
set_option maxRecDepth 20000 in
theorem op_join (W : Wf S) (x y z u : Int32) : OP n_MM_join n_Mo_join [.int x, .int y, .int z, .int u] S := by
  -- refused
  have bad : ∀ {x y z u : Int32}, (x < 0 ∨ 6 ≤ x) ∨ (y < 0 ∨ 6 ≤ y) ∨ (z < 0 ∨ 2 ≤ z) ∨ (u < 0 ∨ 6 ≤ u) → OP n_MM_join n_Mo_join [.int x, .int y, .int z, .int u] S := by
    intro x y z u hb
    refine op_ro W (-1) (fun Y F A hC => ?_) (fun Y F A hM => ?_)
    · refine rn_in m_MM_join rfl ⟨rfl, rfl⟩ ?_
      show ev _ t_MM_join 0 [.ref 9, .int x, .int y, .int z, .int u, .float 0] [] _ _
      repeat (refine ev_np [] rfl rfl rfl ?_)
      rcases ix4 x (n := 6) (by decide) with hx | ⟨i, hi, rfl⟩
      · refine ev_ca rfl (c_MM_noPlanT 78 hx) ?_
        repeat (refine ev_np [] rfl rfl rfl ?_)
        exact ev_ri rfl rfl
      refine ev_ca rfl (c_MM_noPlanF 78 hi) ?_
      repeat (refine ev_np [] rfl rfl rfl ?_)
      rcases ix4 y (n := 6) (by decide) with hy | ⟨j, hj, rfl⟩
      · refine ev_ca rfl (c_MM_noPlanT 78 hy) ?_
        repeat (refine ev_np [] rfl rfl rfl ?_)
        exact ev_ri rfl rfl
      refine ev_ca rfl (c_MM_noPlanF 78 hj) ?_
      repeat (refine ev_np [] rfl rfl rfl ?_)
      rcases ix4 u (n := 6) (by decide) with hu | ⟨to, hto, rfl⟩
      · refine ev_ca rfl (c_MM_noPlanT 78 hu) ?_
        repeat (refine ev_np [] rfl rfl rfl ?_)
        exact ev_ri rfl rfl
      refine ev_ca rfl (c_MM_noPlanF 78 hto) ?_
      repeat (refine ev_np [] rfl rfl rfl ?_)
      have hz : z < 0 ∨ nI 2 ≤ z := by
        rcases hb with h | h | h | h
        · rcases h with h | h
          · exact absurd h (nI_pos (by omega))
          · exact absurd h (nI_ge (b := 6) hi (by omega))
        · rcases h with h | h
          · exact absurd h (nI_pos (by omega))
          · exact absurd h (nI_ge (b := 6) hj (by omega))
        · exact h
        · rcases h with h | h
          · exact absurd h (nI_pos (by omega))
          · exact absurd h (nI_ge (b := 6) hto (by omega))
      refine ev_if (fun c => ?_) (fun c => ?_)
      · repeat (refine ev_np [] rfl rfl rfl ?_)
        exact ev_ri rfl rfl
      · repeat (refine ev_np [] rfl rfl rfl ?_)
        refine ev_ie (out_le (n := 1) (by decide) hz c) ?_
        repeat (refine ev_np [] rfl rfl rfl ?_)
        exact ev_ri rfl rfl
    · refine rn_in m_Mo_join rfl ⟨rfl, rfl⟩ ?_
      show ev _ t_Mo_join 0 [.ref 62, .int x, .int y, .int z, .int u, .float 0, .float 0, .float 0, .float 0, .float 0, .float 0, .float 0, .float 0, .float 0, .float 0, .float 0] [] _ _
      repeat (refine ev_np [] rfl rfl rfl ?_)
      refine ev_pf rfl (by rfl) ⟨by rfl, by rfl⟩ ?_
      repeat (refine ev_np [] rfl rfl rfl ?_)
      rcases ix4 x (n := 6) (by decide) with hx | ⟨i, hi, rfl⟩
      · refine ev_ca rfl (c_Mo_isPlanF 77 hx) ?_
        repeat (refine ev_np [] rfl rfl rfl ?_)
        exact ev_ri rfl rfl
      refine ev_ca rfl (c_Mo_isPlanT 77 hi) ?_
      repeat (refine ev_np [] rfl rfl rfl ?_)
      rcases ix4 y (n := 6) (by decide) with hy | ⟨j, hj, rfl⟩
      · refine ev_ca rfl (c_Mo_isPlanF 77 hy) ?_
        repeat (refine ev_np [] rfl rfl rfl ?_)
        exact ev_ri rfl rfl
      refine ev_ca rfl (c_Mo_isPlanT 77 hj) ?_
      repeat (refine ev_np [] rfl rfl rfl ?_)
      refine ev_ca rfl (c_Mo_in 78 _ _ _) ?_
      rcases ix4 z (n := 2) (by decide) with hz | ⟨k, hk, rfl⟩
      · rw [show (1 : Int32) = nI 1 from rfl, in_T (N := 1) (by omega) hz]
        repeat (refine ev_np [] rfl rfl rfl ?_)
        exact ev_ri rfl rfl
      rw [show (1 : Int32) = nI 1 from rfl, in_F (N := 1) (by omega) (by omega)]
      repeat (refine ev_np [] rfl rfl rfl ?_)
      have hu : u < 0 ∨ 6 ≤ u := by
        rcases hb with h | h | h | h
        · rcases h with h | h
          · exact absurd h (nI_pos (by omega))
          · exact absurd h (nI_ge (b := 6) hi (by omega))
        · rcases h with h | h
          · exact absurd h (nI_pos (by omega))
          · exact absurd h (nI_ge (b := 6) hj (by omega))
        · rcases h with h | h
          · exact absurd h (nI_pos (by omega))
          · exact absurd h (nI_ge (b := 2) hk (by omega))
        · exact h
      refine ev_ca rfl (c_Mo_isPlanF 77 hu) ?_
      repeat (refine ev_np [] rfl rfl rfl ?_)
      exact ev_ri rfl rfl
  rcases ix4 x (n := 6) (by decide) with hx | ⟨i, hi, rfl⟩
  · exact bad (Or.inl hx)
  rcases ix4 y (n := 6) (by decide) with hy | ⟨j, hj, rfl⟩
  · exact bad (Or.inr (Or.inl hy))
  rcases ix4 z (n := 2) (by decide) with hz | ⟨k, hk, rfl⟩
  · exact bad (Or.inr (Or.inr (Or.inl hz)))
  rcases ix4 u (n := 6) (by decide) with hu | ⟨to, hto, rfl⟩
  · exact bad (Or.inr (Or.inr (Or.inr hu)))
  obtain ⟨ao, hao⟩ : ∃ ao : Bool, nI k = z01 ao := by
    have : k = 0 ∨ k = 1 := by omega
    rcases this with rfl | rfl
    · exact ⟨false, rfl⟩
    · exact ⟨true, rfl⟩
  rw [hao]
  have wi := W.2.1 i hi
  have wj := W.2.1 j hj
  obtain ⟨n1, hn1⟩ : ∃ a, a = (S.2.1 i).1 := ⟨_, rfl⟩
  obtain ⟨n2, hn2⟩ : ∃ a, a = (S.2.1 j).1 := ⟨_, rfl⟩
  obtain ⟨g1, hg1⟩ : ∃ a, a = (S.2.1 i).2 := ⟨_, rfl⟩
  obtain ⟨g2, hg2⟩ : ∃ a, a = (S.2.1 j).2 := ⟨_, rfl⟩
  rw [← hn1, ← hg1] at wi
  rw [← hn2, ← hg2] at wj
  have hl1 : ∀ s l t, g1 s l t ≤ 2 := fun s l t => (wi.2 s l t).1
  have hl2 : ∀ s l t, g2 s l t ≤ 2 := fun s l t => (wj.2 s l t).1
  obtain ⟨e, he36, he1, he2⟩ := jN_end (r := jr n1 n2 g1 g2 ao) (ao := ao) hl1 hl2
  obtain ⟨r, hr⟩ : ∃ r, r = jr n1 n2 g1 g2 ao := ⟨_, rfl⟩
  obtain ⟨P, hP⟩ : ∃ P, P = (jN g1 g2 (jr n1 n2 g1 g2 ao) ao e js0).1 := ⟨_, rfl⟩
  obtain ⟨G, hG⟩ : ∃ G, G = (jN g1 g2 (jr n1 n2 g1 g2 ao) ao e js0).2.2.2 := ⟨_, rfl⟩
  have hP36 : P ≤ 36 := by rw [hP]; exact jP _ (jN_I hl1 hl2 e)
  have hP1 : 1 ≤ P := by rw [hP]; exact (jN_I (r := jr n1 n2 g1 g2 ao) (ao := ao) hl1 hl2 e).2.2.2.1
  have hin : ∀ a b, r a b = true → a < n1 ∧ b < n2 := fun a b h => by rw [hr] at h; exact dR_in _ h
  -- the class
  have clas : ∀ Y F A, RC F A S → ∃ F' A', sA [30, 31, 54, 55, 56, 57] A A' ∧ sF [2900, 5203] F F' ∧ (r 0 0 = true ∧ P ≤ 6 → CP F' A' 29 P G) ∧ ∀ x, ev 79 t_MM_join 66 [.ref 9, .int (nI i), .int (nI j), .int (z01 ao), .int (nI to), .float 0] [.int (if r 0 0 = true then (if P ≤ 6 then nI P else -3) else -2)] (hp Y F' A') x → ev 79 t_MM_join 0 [.ref 9, .int (nI i), .int (nI j), .int (z01 ao), .int (nI to), .float 0] [] (hp Y F A) x := by
    intro Y F A hC
    have hci := hC.2.1 i hi
    have hcj := hC.2.1 j hj
    rw [← hn1, ← hg1] at hci
    rw [← hn2, ← hg2] at hcj
    obtain ⟨F1, A1, a1, a2, a3, a4⟩ := c_Joiner_combine (Y := Y) (ao := ao) 72 (PLi hi) (PLi hj) (by omega) (by omega) hci hcj wi wj he1 he2
    rw [← hP, ← hG, ← hr] at a3
    rw [← hP, ← hr] at a4
    refine ⟨F1, A1, a1, a2, a3, fun x hx => ?_⟩
    repeat (refine ev_np [] rfl rfl rfl ?_)
    refine ev_ca rfl (c_MM_noPlanF 78 hi) ?_
    repeat (refine ev_np [] rfl rfl rfl ?_)
    refine ev_ca rfl (c_MM_noPlanF 78 hj) ?_
    repeat (refine ev_np [] rfl rfl rfl ?_)
    refine ev_ca rfl (c_MM_noPlanF 78 hto) ?_
    cases ao with
    | false =>
      repeat (first | refine ev_np [] rfl rfl rfl ?_ | refine ev_grs [] rfl rfl (by rfl) (by rfl) ?_)
      refine ev_aa rfl hi ?_
      repeat (first | refine ev_np [] rfl rfl rfl ?_ | refine ev_grs [] rfl rfl (by rfl) (by rfl) ?_)
      refine ev_aa rfl hj ?_
      repeat (first | refine ev_np [] rfl rfl rfl ?_ | refine ev_grs [] rfl rfl (by rfl) (by rfl) ?_)
      refine ev_vc rfl (by rfl) (by rfl) rfl (a4) ?_
      exact hx
    | true =>
      repeat (first | refine ev_np [] rfl rfl rfl ?_ | refine ev_grs [] rfl rfl (by rfl) (by rfl) ?_)
      refine ev_aa rfl hi ?_
      repeat (first | refine ev_np [] rfl rfl rfl ?_ | refine ev_grs [] rfl rfl (by rfl) (by rfl) ?_)
      refine ev_aa rfl hj ?_
      repeat (first | refine ev_np [] rfl rfl rfl ?_ | refine ev_grs [] rfl rfl (by rfl) (by rfl) ?_)
      refine ev_vc rfl (by rfl) (by rfl) rfl (a4) ?_
      exact hx
  -- the model
  have model : ∀ Y F A, RM F A S → ∃ A', sA [70, 72] A A' ∧ WJ A' n1 n2 r ∧ (∀ K, K < 36 → A' 72 K = -9) ∧ ∀ x, (∀ x5 : Int32, ev 79 t_Mo_join 82 [.ref 62, .int (nI i), .int (nI j), .int (z01 ao), .int (nI to), .int x5, .float 0, .float 0, .float 0, .float 0, .float 0, .float 0, .float 0, .float 0, .float 0, .float 0] [] (hp Y (uF F 62 0 0) A') x) → ev 79 t_Mo_join 0 [.ref 62, .int (nI i), .int (nI j), .int (z01 ao), .int (nI to), .float 0, .float 0, .float 0, .float 0, .float 0, .float 0, .float 0, .float 0, .float 0, .float 0, .float 0] [] (hp Y F A) x := by
    intro Y F A hM
    have hM0 := hM.thrown 0
    obtain ⟨A1, ⟨a1, a2, a3⟩, a4⟩ := lp_ex (α := Nat → Nat → Int32) (fun k B => sA [70, 72] A B ∧ (∀ z, z < k → B 70 z = 0) ∧ (∀ z, z < k → B 72 z = -9)) (fun k B x => ev 79 t_Mo_join 41 [.ref 62, .int (nI i), .int (nI j), .int (z01 ao), .int (nI to), .int (nI k), .float 0, .float 0, .float 0, .float 0, .float 0, .float 0, .float 0, .float 0, .float 0, .float 0] [] (hp Y (uF F 62 0 0) B) x) 36 (fun k B hk hI => by
      obtain ⟨i1, i2, i3⟩ := hI
      refine ⟨va_up (va_up B 70 (upd (B 70) k 0)) 72 (upd (B 72) k (-9)), ⟨i1.tr ((sA.up (by decide)).tr (sA.up (by decide))), fun z hz => ?_, fun z hz => ?_⟩, fun x hx => ?_⟩
      · rw [va_up_n _ _ (by decide), va_up_s]
        by_cases e : z = k
        · subst e; rw [pk_us]
        · rw [pk_un e]; exact i2 z (by omega)
      · rw [va_up_s]
        by_cases e : z = k
        · subst e; rw [pk_us]
        · rw [pk_un e]; exact i3 z (by omega)
      · rw [nI_succ] at hx
        repeat (refine ev_np [] rfl rfl rfl ?_)
        refine ev_ie (nI_ge (b := 36) hk (by omega)) ?_
        repeat (first | refine ev_np [] rfl rfl rfl ?_ | refine ev_grs [] rfl rfl (by rfl) (by rfl) ?_)
        refine ev_am rfl (by rfl) rfl hk rfl ?_
        repeat (first | refine ev_np [] rfl rfl rfl ?_ | refine ev_grs [] rfl rfl (by rfl) (by rfl) ?_)
        refine ev_am rfl (by rfl) rfl hk rfl ?_
        repeat (refine ev_np [41] rfl rfl rfl ?_)
        exact hx) 36 0 A rfl ⟨sA.rf, fun z hz => by omega, fun z hz => by omega⟩
    have head : ∀ x, ev 79 t_Mo_join 71 [.ref 62, .int (nI i), .int (nI j), .int (z01 ao), .int (nI to), .int (nI 36), .float 0, .float 0, .float 0, .float 0, .float 0, .float 0, .float 0, .float 0, .float 0, .float 0] [] (hp Y (uF F 62 0 0) A1) x → ev 79 t_Mo_join 0 [.ref 62, .int (nI i), .int (nI j), .int (z01 ao), .int (nI to), .float 0, .float 0, .float 0, .float 0, .float 0, .float 0, .float 0, .float 0, .float 0, .float 0, .float 0] [] (hp Y F A) x := by
      intro x hx
      repeat (refine ev_np [] rfl rfl rfl ?_)
      refine ev_pf rfl (by rfl) ⟨by rfl, by rfl⟩ ?_
      repeat (refine ev_np [] rfl rfl rfl ?_)
      refine ev_ca rfl (c_Mo_isPlanT 77 hi) ?_
      repeat (refine ev_np [] rfl rfl rfl ?_)
      refine ev_ca rfl (c_Mo_isPlanT 77 hj) ?_
      repeat (refine ev_np [] rfl rfl rfl ?_)
      refine ev_ca rfl (c_Mo_in 78 _ _ _) ?_
      rw [show (decide (¬ z01 ao < 0) && decide (¬ (1 : Int32) < z01 ao)) = true by cases ao <;> decide]
      repeat (refine ev_np [] rfl rfl rfl ?_)
      refine ev_ca rfl (c_Mo_isPlanT 77 hto) ?_
      repeat (refine ev_np [41] rfl rfl rfl ?_)
      refine a4 x ?_
      repeat (refine ev_np [71] rfl rfl rfl ?_)
      exact hx
    cases ao with
    | false =>
      refine ⟨A1, a1, ?_, a3, fun x hx => head x ?_⟩
      · intro a b ha hb
        have := wi.1.2
        have := wj.1.2
        rw [a2 _ (by omega), hr]
        show 0 = z01 (!(decide (a < n1) && decide (b < n2)))
        rw [decide_eq_true ha, decide_eq_true hb]
        rfl
      · repeat (refine ev_np [82] rfl rfl rfl ?_)
        exact hx _
    | true =>
      have hmi := hM0.2.1 i hi
      have hmj := hM0.2.1 j hj
      rw [← hn1, ← hg1] at hmi
      rw [← hn2, ← hg2] at hmj
      obtain ⟨A2, b1, b2, b3⟩ := c_Mo_clash (Y := Y) (F := uF F 62 0 0) (A := A1) 74 (i := i) (j := j) (by omega) (by omega) (hmi.frame (a1 _ (by decide)) (a1 _ (by decide))) (hmj.frame (a1 _ (by decide)) (a1 _ (by decide))) wi wj
      refine ⟨A2, a1.tr (b2.mono (by decide)), by rw [hr]; exact b3, fun K hK => by rw [b2 72 (by decide)]; exact a3 K hK, fun x hx => head x ?_⟩
      repeat (refine ev_np [] rfl rfl rfl ?_)
      refine ev_vc rfl (by rfl) (by rfl) rfl (b1) ?_
      exact hx _
  have h00n : 0 < n1 ∧ 0 < n2 := ⟨wi.1.1, wj.1.1⟩
  cases h00 : r 0 0 with
  | false =>
    refine ⟨-2, S, W, fun Y F A hC => ?_, fun Y F A hM => ?_⟩
    · obtain ⟨F1, A1, a1, a2, a3, a4⟩ := clas Y F A hC
      refine ⟨F1, A1, ?_, hC.keep a1 a2 ⟨rfl, rfl⟩, KM.of a2 a1 ⟨rfl, rfl⟩⟩
      refine rn_in m_MM_join rfl ⟨rfl, rfl⟩ ?_
      show ev _ t_MM_join 0 [.ref 9, .int (nI i), .int (nI j), .int (z01 ao), .int (nI to), .float 0] [] _ _
      refine a4 _ ?_
      rw [h00, if_neg (by decide)]
      repeat (refine ev_np [] rfl rfl rfl ?_)
      exact ev_ri rfl rfl
    · obtain ⟨A1, a1, a2, a3, a4⟩ := model Y F A hM
      refine ⟨uF F 62 0 0, A1, ?_, (hM.thrown 0).keep a1 (sF.rf (L := [])) ⟨rfl, rfl⟩, (KC.fld F A 0 0).tr (KC.sA a1 rfl)⟩
      refine rn_in m_Mo_join rfl ⟨rfl, rfl⟩ ?_
      show ev _ t_Mo_join 0 [.ref 62, .int (nI i), .int (nI j), .int (z01 ao), .int (nI to), .float 0, .float 0, .float 0, .float 0, .float 0, .float 0, .float 0, .float 0, .float 0, .float 0, .float 0] [] _ _
      refine a4 _ (fun x5 => ?_)
      repeat (first | refine ev_np [] rfl rfl rfl ?_ | refine ev_grs [] rfl rfl (by rfl) (by rfl) ?_)
      refine ev_an rfl (by rfl) (j := 0) rfl (by decide) rfl ?_
      rw [show A1 70 0 = z01 true from (a2 0 0 h00n.1 h00n.2).trans (by rw [h00]; rfl)]
      repeat (refine ev_np [] rfl rfl rfl ?_)
      exact ev_ri rfl rfl
  | true =>
    -- the model goes on
    have model2 : ∀ Y F A, RM F A S → ∃ A', sA (63 :: 64 :: [70, 71, 72]) A A' ∧ MP A' 6 1 G ∧ KP A A' ∧ ∀ x, (∀ v6 v7 v8 v9 v10 v11 v12 v13 v14 v15 : Value, ev 79 t_Mo_join 387 [.ref 62, .int (nI i), .int (nI j), .int (z01 ao), .int (nI to), .int (nI P), v6, v7, v8, v9, v10, v11, v12, v13, v14, v15] [] (hp Y (uF F 62 0 0) A') x) → ev 79 t_Mo_join 0 [.ref 62, .int (nI i), .int (nI j), .int (z01 ao), .int (nI to), .float 0, .float 0, .float 0, .float 0, .float 0, .float 0, .float 0, .float 0, .float 0, .float 0, .float 0] [] (hp Y F A) x := by
      intro Y F A hM
      have hM0 := hM.thrown 0
      have hmi := hM0.2.1 i hi
      have hmj := hM0.2.1 j hj
      rw [← hn1, ← hg1] at hmi
      rw [← hn2, ← hg2] at hmj
      obtain ⟨A1, a1, a2, a3, a4⟩ := model Y F A hM
      have kp1 : KP A A1 := fun _ _ _ _ _ h => h.frame (a1 _ (by decide)) (a1 _ (by decide))
      obtain ⟨A2, b1, b2, b3, b4⟩ := c_Mo_empties (Y := Y) (F := uF F 62 0 0) (A := A1) 78 (i := 6) (by decide) 1
      have kp2 : KP A A2 := kp1.tr b4
      obtain ⟨A3, hA3⟩ : ∃ A3, A3 = va_up (va_up A2 72 (upd (A2 72) 0 0)) 71 (upd (A2 71) 0 0) := ⟨_, rfl⟩
      have s3 : sA [71, 72] A2 A3 := by rw [hA3]; exact (sA.up (by decide)).tr (sA.up (by decide))
      have kp3 : KP A A3 := kp2.tr (fun _ _ _ _ _ h => h.frame (s3 _ (by decide)) (s3 _ (by decide)))
      have mj3 : MJ A3 js0 := by
        refine ⟨fun K hK => ?_, fun b hb => ?_, b3.frame (s3 _ (by decide)) (s3 _ (by decide))⟩
        · rw [hA3, va_up_n _ _ (by decide), va_up_s]
          by_cases e : K = 0
          · subst e; rw [pk_us]; rfl
          · have e2 : js0.2.1 K = 0 := if_neg e
            rw [pk_un e, if_pos e2, b2 72 (by decide)]
            exact a3 K hK
        · have : b = 0 := by have : b < 1 := hb; omega
          subst this
          rw [hA3, va_up_s, pk_us]
          rfl
      have wj3 : WJ A3 n1 n2 r := fun a b ha hb => by rw [s3 70 (by decide), b2 70 (by decide)]; exact a2 a b ha hb
      obtain ⟨A4, c1, c2, c3, c4⟩ := c_joinN (Y := Y) (F := uF F 62 0 0) (A := A3) (ao := ao) (r := r) 77 hi hj (kp3 _ _ _ (by omega) (by omega) hmi) (kp3 _ _ _ (by omega) (by omega) hmj) wi wj hin wj3 (to := to) (e := e) (by rw [hr]; exact he1) (by rw [hr]; exact he2) he36 mj3
      rw [hr, ← hP] at c4
      rw [hr] at c2
      refine ⟨A4, (a1.mono (by decide)).tr ((b2 |> fun (_ : sA [63, 64] A1 A2) => b2.mono (by decide)).tr ((s3.mono (by decide)).tr (c1.mono (by decide)))), by rw [hG]; exact c2.2.2, kp3.tr c3, fun x hx => a4 x (fun x5 => ?_)⟩
      repeat (first | refine ev_np [] rfl rfl rfl ?_ | refine ev_grs [] rfl rfl (by rfl) (by rfl) ?_)
      refine ev_an rfl (by rfl) (j := 0) rfl (by decide) rfl ?_
      rw [show A1 70 0 = z01 false from (a2 0 0 h00n.1 h00n.2).trans (by rw [h00]; rfl)]
      repeat (refine ev_np [] rfl rfl rfl ?_)
      refine ev_vc rfl (by rfl) (by rfl) rfl (b1) ?_
      repeat (first | refine ev_np [] rfl rfl rfl ?_ | refine ev_grs [] rfl rfl (by rfl) (by rfl) ?_)
      refine ev_am rfl (by rfl) (j := 0) rfl (by decide) rfl ?_
      repeat (first | refine ev_np [] rfl rfl rfl ?_ | refine ev_grs [] rfl rfl (by rfl) (by rfl) ?_)
      refine ev_am rfl (by rfl) (j := 0) rfl (by decide) rfl ?_
      rw [va_up_n _ _ (by decide), ← hA3]
      repeat (refine ev_np [121] rfl rfl rfl ?_)
      exact c4 x hx _ _ _ _ _ _ _ _ _
    by_cases hP6 : P ≤ 6
    · have hwf : GW P G := by rw [hP, hG]; exact jN_wf hl1 hl2 he2 (by rw [← hP]; exact hP6)
      refine ⟨nI P, sPlan S to (P, G), sPlan_wf W hwf, fun Y F A hC => ?_, fun Y F A hM => ?_⟩
      · obtain ⟨F1, A1, a1, a2, a3, a4⟩ := clas Y F A hC
        obtain ⟨F2, A2, b1, b2, b3, b4⟩ := c_Plan_become (Y := Y) 78 (PLi hto) PL29 (a3 ⟨h00, hP6⟩)
        have sa : sA ((11 + 3 * to + 1) :: (11 + 3 * to + 2) :: [30, 31, 54, 55, 56, 57]) A A2 := (a1.mono (by simp)).tr (b2.mono (by simp))
        have sf : sF ((11 + 3 * to) * 100 :: [2900, 5203]) F F2 := (a2.mono (by simp)).tr (b3.mono (by simp))
        refine ⟨F2, A2, ?_, hC.plan hto sa sf ⟨rfl, rfl⟩ b4, KM.of2 sf sa (fun x hx => by simp at hx; omega) (fun x hx => by simp at hx; omega)⟩
        refine rn_in m_MM_join rfl ⟨rfl, rfl⟩ ?_
        show ev _ t_MM_join 0 [.ref 9, .int (nI i), .int (nI j), .int (z01 ao), .int (nI to), .float 0] [] _ _
        refine a4 _ ?_
        rw [h00, if_pos rfl, if_pos hP6]
        repeat (refine ev_np [] rfl rfl rfl ?_)
        refine ev_ie (nI_nle (by omega) (by omega)) ?_
        repeat (first | refine ev_np [] rfl rfl rfl ?_ | refine ev_grs [] rfl rfl (by rfl) (by rfl) ?_)
        refine ev_aa rfl hto ?_
        repeat (first | refine ev_np [] rfl rfl rfl ?_ | refine ev_grs [] rfl rfl (by rfl) (by rfl) ?_)
        refine ev_vc rfl (by rfl) (PLi hto).1 rfl b1 ?_
        repeat (refine ev_np [] rfl rfl rfl ?_)
        exact ev_ri rfl rfl
      · obtain ⟨A1, a1, a2, a3, a4⟩ := model2 Y F A hM
        obtain ⟨A2, hA2⟩ : ∃ A2, A2 = va_up A1 64 (upd (A1 64) 6 (nI P)) := ⟨_, rfl⟩
        have m6 : MP A2 6 P G := by
          refine ⟨by rw [hA2, va_up_s, pk_us], fun s l t hs hl ht => ?_⟩
          rw [hA2, va_up_n _ _ (by decide)]
          exact a2.2 s l t hs hl ht
        have k2 : KP A A2 := a3.tr (fun i' n' g' _ h6 h => by
          refine ⟨by rw [hA2, va_up_s, pk_un h6]; exact h.1, fun s l t hs hl ht => ?_⟩
          rw [hA2, va_up_n _ _ (by decide)]
          exact h.2 s l t hs hl ht)
        obtain ⟨A3, b1, b2, b3, b4⟩ := c_Mo_copies (Y := Y) (F := uF F 62 0 0) (A := A2) 78 (i := 6) (j := to) (by decide) (by omega) m6
        have sa : sA (63 :: 64 :: [70, 71, 72]) A A3 := a1.tr ((show sA (63 :: 64 :: [70, 71, 72]) A1 A2 by rw [hA2]; exact sA.up (by decide)).tr (b2.mono (by decide)))
        refine ⟨uF F 62 0 0, A3, ?_, (hM.thrown 0).plan sa rfl (fun k n g h8 hkj hk6 h => b4 _ _ _ h8 hkj (k2 _ _ _ h8 hk6 h)) hto b3, (KC.fld F A 0 0).tr (KC.sA sa rfl)⟩
        refine rn_in m_Mo_join rfl ⟨rfl, rfl⟩ ?_
        show ev _ t_Mo_join 0 [.ref 62, .int (nI i), .int (nI j), .int (z01 ao), .int (nI to), .float 0, .float 0, .float 0, .float 0, .float 0, .float 0, .float 0, .float 0, .float 0, .float 0, .float 0] [] _ _
        refine a4 _ (fun v6 v7 v8 v9 v10 v11 v12 v13 v14 v15 => ?_)
        repeat (refine ev_np [] rfl rfl rfl ?_)
        refine ev_it (nI_le (b := 6) hP6 (by omega)) ?_
        repeat (first | refine ev_np [] rfl rfl rfl ?_ | refine ev_grs [] rfl rfl (by rfl) (by rfl) ?_)
        refine ev_am rfl (by rfl) (j := 6) rfl (by decide) rfl ?_
        rw [← hA2]
        repeat (refine ev_np [] rfl rfl rfl ?_)
        refine ev_vc rfl (by rfl) (by rfl) rfl (b1) ?_
        repeat (refine ev_np [] rfl rfl rfl ?_)
        exact ev_ri rfl rfl
    · refine ⟨-3, S, W, fun Y F A hC => ?_, fun Y F A hM => ?_⟩
      · obtain ⟨F1, A1, a1, a2, a3, a4⟩ := clas Y F A hC
        refine ⟨F1, A1, ?_, hC.keep a1 a2 ⟨rfl, rfl⟩, KM.of a2 a1 ⟨rfl, rfl⟩⟩
        refine rn_in m_MM_join rfl ⟨rfl, rfl⟩ ?_
        show ev _ t_MM_join 0 [.ref 9, .int (nI i), .int (nI j), .int (z01 ao), .int (nI to), .float 0] [] _ _
        refine a4 _ ?_
        rw [h00, if_pos rfl, if_neg hP6]
        repeat (refine ev_np [] rfl rfl rfl ?_)
        exact ev_ri rfl rfl
      · obtain ⟨A1, a1, a2, a3, a4⟩ := model2 Y F A hM
        refine ⟨uF F 62 0 0, A1, ?_, (hM.thrown 0).keep6 a1 rfl a3, (KC.fld F A 0 0).tr (KC.sA a1 rfl)⟩
        refine rn_in m_Mo_join rfl ⟨rfl, rfl⟩ ?_
        show ev _ t_Mo_join 0 [.ref 62, .int (nI i), .int (nI j), .int (z01 ao), .int (nI to), .float 0, .float 0, .float 0, .float 0, .float 0, .float 0, .float 0, .float 0, .float 0, .float 0, .float 0] [] _ _
        refine a4 _ (fun v6 v7 v8 v9 v10 v11 v12 v13 v14 v15 => ?_)
        repeat (refine ev_np [] rfl rfl rfl ?_)
        refine ev_ie (nI_ge (a := 6) (by omega) (by omega)) ?_
        repeat (refine ev_np [] rfl rfl rfl ?_)
        exact ev_ri rfl rfl
end OPJ
