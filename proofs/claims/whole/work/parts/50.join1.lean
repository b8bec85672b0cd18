/-! ===== the model: join ===== -/
def MJ (A : Nat → Nat → Int32) (st : JS) : Prop := (∀ K, K < 36 → A 72 K = if st.2.1 K = 0 then -9 else nI (st.2.1 K - 1)) ∧ (∀ b, b < st.1 → A 71 b = nI (st.2.2.1 b)) ∧ MP A 6 1 st.2.2.2
section JM1
variable {Y : Nat × (Nat → Int32)} {F A : Nat → Nat → Int32} {i j n1 n2 : Nat} {g1 g2 : Nat → Nat → Nat → Nat} {r : Nat → Nat → Bool} {ao : Bool} (d : Nat)
theorem nI_n9 {m : Nat} (h : m < 1000) : ¬ nI m = -9 := fun z => nI_pos (show m < 2 ^ 31 by omega) (by rw [z]; decide)
theorem MP.out {A : Nat → Nat → Int32} {i n : Nat} {g : Nat → Nat → Nat → Nat} (h : MP A i n g) {s l t v : Nat} (ho : 6 ≤ s ∨ 6 ≤ t) : MP A i n (gset g s l t v) := ⟨h.1, fun a b c ha hb hc => by
  rw [show gset g s l t v a b c = g a b c from if_neg (by omega)]
  exact h.2 a b c ha hb hc⟩
set_option maxRecDepth 20000 in
/-- the tail of a step: the arrow -/
theorem c_join0 (hi : i < 8) (hj : j < 8) {to P n Q l s2 t2 x1 x2 b K N : Nat} {G : Nat → Nat → Nat → Nat} (hl : l < 3) (hK : K = 6 * s2 + t2) (hK36 : K < 36) (l1 : x1 ≤ 2) (l2 : x2 ≤ 2) (hb : b < 1000) (hn : n < 1000) (h72 : A 72 K = nI b) (h6 : MP A 6 N G) : ∃ A', sA [63] A A' ∧ MP A' 6 N (gset G n l b (jv ao x1 x2)) ∧ (∀ i' n' g', i' < 8 → i' ≠ 6 → MP A i' n' g' → MP A' i' n' g') ∧ ∀ x (v15 : Value), (∀ v12 v13 v14 v15 : Value, ev (d + 2) t_Mo_join 178 [.ref 62, .int (nI i), .int (nI j), .int (z01 ao), .int (nI to), .int (nI P), .int (nI n), .int (nI (Q / 6)), .int (nI (Q % 6)), .int (nI l), .int (nI s2), .int (nI t2 + 1), v12, v13, v14, v15] [] (hp Y F A') x) → ev (d + 2) t_Mo_join 278 [.ref 62, .int (nI i), .int (nI j), .int (z01 ao), .int (nI to), .int (nI P), .int (nI n), .int (nI (Q / 6)), .int (nI (Q % 6)), .int (nI l), .int (nI s2), .int (nI t2), .int (nI x1), .int (nI x2), .int (nI K), v15] [] (hp Y F A) x := by
  -- the choice
  have ch : ∃ les : Bool, (bif les then x1 else x2) = jv ao x1 x2 ∧ ∀ x (v15 : Value), ev (d + 2) t_Mo_join 311 [.ref 62, .int (nI i), .int (nI j), .int (z01 ao), .int (nI to), .int (nI P), .int (nI n), .int (nI (Q / 6)), .int (nI (Q % 6)), .int (nI l), .int (nI s2), .int (nI t2), .int (nI x1), .int (nI x2), .int (nI K), .int (z01 les)] [] (hp Y F A) x → ev (d + 2) t_Mo_join 278 [.ref 62, .int (nI i), .int (nI j), .int (z01 ao), .int (nI to), .int (nI P), .int (nI n), .int (nI (Q / 6)), .int (nI (Q % 6)), .int (nI l), .int (nI s2), .int (nI t2), .int (nI x1), .int (nI x2), .int (nI K), v15] [] (hp Y F A) x := by
    cases ao with
    | false =>
      by_cases e : x1 < x2
      · refine ⟨true, ?_, fun x v15 hx => ?_⟩
        · show x1 = min x1 x2
          omega
        · repeat (refine ev_np [] rfl rfl rfl ?_)
          refine ev_ie (nI_ge e (by omega)) ?_
          repeat (refine ev_np [311] rfl rfl rfl ?_)
          exact hx
      · refine ⟨false, ?_, fun x v15 hx => ?_⟩
        · show x2 = min x1 x2
          omega
        · repeat (refine ev_np [] rfl rfl rfl ?_)
          refine ev_it (nI_le (by omega) (by omega)) ?_
          repeat (refine ev_np [311] rfl rfl rfl ?_)
          exact hx
    | true =>
      by_cases e : x2 < x1
      · refine ⟨true, ?_, fun x v15 hx => ?_⟩
        · show x1 = max x1 x2
          omega
        · repeat (refine ev_np [] rfl rfl rfl ?_)
          refine ev_ie (nI_ge e (by omega)) ?_
          repeat (refine ev_np [311] rfl rfl rfl ?_)
          exact hx
      · refine ⟨false, ?_, fun x v15 hx => ?_⟩
        · show x2 = max x1 x2
          omega
        · repeat (refine ev_np [] rfl rfl rfl ?_)
          refine ev_it (nI_le (by omega) (by omega)) ?_
          repeat (refine ev_np [311] rfl rfl rfl ?_)
          exact hx
  obtain ⟨les, hles, run1⟩ := ch
  by_cases hn6 : n < 6
  · by_cases hb6 : b < 6
    · refine ⟨va_up A 63 (upd (A 63) (108 * 6 + 18 * n + 6 * l + b) (nI (jv ao x1 x2))), sA.up (by decide), h6.put hn6 hl hb6, fun i' n' g' _ h6' h => h.keep h6' _ hn6 hl hb6, fun x v15 hx => run1 x v15 ?_⟩
      rw [← hles] at hx
      repeat (refine ev_np [] rfl rfl rfl ?_)
      refine ev_ie (nI_ge (b := 6) hn6 (by omega)) ?_
      repeat (first | refine ev_np [] rfl rfl rfl ?_ | refine ev_grs [] rfl rfl (by rfl) (by rfl) ?_)
      refine ev_an rfl (by rfl) rfl hK36 rfl ?_
      rw [h72]
      repeat (refine ev_np [] rfl rfl rfl ?_)
      refine ev_ie (nI_ge (b := 6) hb6 (by omega)) ?_
      repeat (first | refine ev_np [] rfl rfl rfl ?_ | refine ev_grs [] rfl rfl (by rfl) (by rfl) ?_)
      refine ev_an rfl (by rfl) rfl hK36 rfl ?_
      rw [h72]
      refine ev_ca rfl (c_Mo_at (d + 1) 6 n l b) ?_
      cases les with
      | true =>
        repeat (refine ev_np [] rfl rfl rfl ?_)
        refine ev_am rfl (by rfl) rfl (by omega) rfl ?_
        repeat (refine ev_np [178] rfl rfl rfl ?_)
        exact hx _ _ _ _
      | false =>
        repeat (refine ev_np [] rfl rfl rfl ?_)
        refine ev_am rfl (by rfl) rfl (by omega) rfl ?_
        repeat (refine ev_np [178] rfl rfl rfl ?_)
        exact hx _ _ _ _
    · refine ⟨A, sA.rf, h6.out (Or.inr (by omega)), fun _ _ _ _ _ h => h, fun x v15 hx => run1 x v15 ?_⟩
      repeat (refine ev_np [] rfl rfl rfl ?_)
      refine ev_ie (nI_ge (b := 6) hn6 (by omega)) ?_
      repeat (first | refine ev_np [] rfl rfl rfl ?_ | refine ev_grs [] rfl rfl (by rfl) (by rfl) ?_)
      refine ev_an rfl (by rfl) rfl hK36 rfl ?_
      rw [h72]
      repeat (refine ev_np [] rfl rfl rfl ?_)
      refine ev_it (nI_le (a := 6) (by omega) (by omega)) ?_
      repeat (refine ev_np [178] rfl rfl rfl ?_)
      exact hx _ _ _ _
  · refine ⟨A, sA.rf, h6.out (Or.inl (by omega)), fun _ _ _ _ _ h => h, fun x v15 hx => run1 x v15 ?_⟩
    repeat (refine ev_np [] rfl rfl rfl ?_)
    refine ev_it (nI_le (a := 6) (by omega) (by omega)) ?_
    repeat (refine ev_np [178] rfl rfl rfl ?_)
    exact hx _ _ _ _
set_option maxRecDepth 20000 in
theorem c_join1 (hi : i < 8) (hj : j < 8) (hm1 : MP A i n1 g1) (hm2 : MP A j n2 g2) (hw1 : GW n1 g1) (hw2 : GW n2 g2) (hr : WJ A n1 n2 r) {st : JS} {to n l s2 t2 Q : Nat} (hJ : jI st ((n * 3 + l) * 36 + (6 * s2 + t2))) (hnP : n < st.1) (hQ : st.2.2.1 n = Q) (hl : l < 3) (hs2 : s2 < n1) (ht2 : t2 < n2) (hmj : MJ A st) : ∃ A', sA [63, 71, 72] A A' ∧ MJ A' (js g1 g2 r ao n l (6 * s2 + t2) st) ∧ (∀ i' n' g', i' < 8 → i' ≠ 6 → MP A i' n' g' → MP A' i' n' g') ∧ (js g1 g2 r ao n l (6 * s2 + t2) st).2.2.1 n = Q ∧ ∀ x, (∀ v12 v13 v14 v15 : Value, ev (d + 2) t_Mo_join 178 [.ref 62, .int (nI i), .int (nI j), .int (z01 ao), .int (nI to), .int (nI (js g1 g2 r ao n l (6 * s2 + t2) st).1), .int (nI n), .int (nI (Q / 6)), .int (nI (Q % 6)), .int (nI l), .int (nI s2), .int (nI t2 + 1), v12, v13, v14, v15] [] (hp Y F A') x) → ∀ v12 v13 v14 v15 : Value, ev (d + 2) t_Mo_join 178 [.ref 62, .int (nI i), .int (nI j), .int (z01 ao), .int (nI to), .int (nI st.1), .int (nI n), .int (nI (Q / 6)), .int (nI (Q % 6)), .int (nI l), .int (nI s2), .int (nI t2), v12, v13, v14, v15] [] (hp Y F A) x := by
  have hn1 := hw1.1.2
  have hn2 := hw2.1.2
  have hq36 := (hJ.2.1 n hnP).1
  have hP36 := jP st hJ
  obtain ⟨K, hK⟩ : ∃ K, K = 6 * s2 + t2 := ⟨_, rfl⟩
  have hK36 : K < 36 := by omega
  have k1 : K / 6 = s2 := by omega
  have k2 : K % 6 = t2 := by omega
  obtain ⟨x1, hx1⟩ : ∃ x1, x1 = g1 (Q / 6) l s2 := ⟨_, rfl⟩
  obtain ⟨x2, hx2⟩ : ∃ x2, x2 = g2 (Q % 6) l t2 := ⟨_, rfl⟩
  have l1 : x1 ≤ 2 := by rw [hx1]; exact (hw1.2 _ _ _).1
  have l2 : x2 ≤ 2 := by rw [hx2]; exact (hw2.2 _ _ _).1
  rw [← hK] at hJ ⊢
  have hjc : jc g1 g2 r n l K st = (decide (1 ≤ x1) && decide (1 ≤ x2) && r s2 t2) := by
    unfold jc
    rw [hQ, k1, k2, hx1, hx2]
  have hjw : jw g1 g2 ao n l K st = jv ao x1 x2 := by
    unfold jw
    rw [hQ, k1, k2, hx1, hx2]
  have head : ∀ x, (∀ v15 : Value, ev (d + 2) t_Mo_join 225 [.ref 62, .int (nI i), .int (nI j), .int (z01 ao), .int (nI to), .int (nI st.1), .int (nI n), .int (nI (Q / 6)), .int (nI (Q % 6)), .int (nI l), .int (nI s2), .int (nI t2), .int (nI x1), .int (nI x2), .int (nI K), v15] [] (hp Y F A) x) → ∀ v12 v13 v14 v15 : Value, ev (d + 2) t_Mo_join 178 [.ref 62, .int (nI i), .int (nI j), .int (z01 ao), .int (nI to), .int (nI st.1), .int (nI n), .int (nI (Q / 6)), .int (nI (Q % 6)), .int (nI l), .int (nI s2), .int (nI t2), v12, v13, v14, v15] [] (hp Y F A) x := by
    intro x hx v12 v13 v14 v15
    repeat (first | refine ev_np [] rfl rfl rfl ?_ | refine ev_grs [] rfl rfl (by rfl) (by rfl) ?_)
    refine ev_an rfl (by rfl) rfl hj rfl ?_
    rw [hm2.1]
    repeat (refine ev_np [] rfl rfl rfl ?_)
    refine ev_ie (nI_ge ht2 (by omega)) ?_
    repeat (refine ev_np [] rfl rfl rfl ?_)
    refine ev_vc rfl (by rfl) (by rfl) rfl (c_Mo_of d hi hm1 (by omega) hl (by omega)) ?_
    rw [← hx1]
    repeat (refine ev_np [] rfl rfl rfl ?_)
    refine ev_vc rfl (by rfl) (by rfl) rfl (c_Mo_of d hj hm2 (by omega) hl (by omega)) ?_
    rw [← hx2]
    repeat (refine ev_np [225] rfl rfl rfl ?_)
    rw [ix6, ← hK]
    exact hx _
  cases hjb : jc g1 g2 r n l K st with
  | false =>
    rw [js_0 hjb]
    refine ⟨A, sA.rf, hmj, fun _ _ _ _ _ h => h, hQ, fun x hx v12 v13 v14 v15 => head x (fun v15 => ?_) _ _ _ _⟩
    repeat (refine ev_np [] rfl rfl rfl ?_)
    by_cases e1 : 1 ≤ x1
    · refine ev_ie (nI_nle (by omega) (by omega)) ?_
      repeat (refine ev_np [] rfl rfl rfl ?_)
      by_cases e2 : 1 ≤ x2
      · refine ev_ie (nI_nle (by omega) (by omega)) ?_
        repeat (first | refine ev_np [] rfl rfl rfl ?_ | refine ev_grs [] rfl rfl (by rfl) (by rfl) ?_)
        refine ev_an rfl (by rfl) rfl hK36 rfl ?_
        have er : r s2 t2 = false := by
          rw [hjc] at hjb
          simpa [e1, e2] using hjb
        have := hr s2 t2 hs2 ht2
        rw [← hK, er] at this
        rw [this]
        repeat (refine ev_np [178] rfl rfl rfl ?_)
        exact hx _ _ _ _
      · refine ev_it (by rw [show x2 = 0 by omega]; exact Int32.le_refl _) ?_
        repeat (refine ev_np [178] rfl rfl rfl ?_)
        exact hx _ _ _ _
    · refine ev_it (by rw [show x1 = 0 by omega]; exact Int32.le_refl _) ?_
      repeat (refine ev_np [178] rfl rfl rfl ?_)
      exact hx _ _ _ _
  | true =>
    have h12 : (1 ≤ x1 ∧ 1 ≤ x2) ∧ r s2 t2 = true := by
      rw [hjc] at hjb
      simp only [Bool.and_eq_true, decide_eq_true_eq] at hjb
      exact hjb
    have hjs : js g1 g2 r ao n l K st = ((ja K st).1, (ja K st).2.1, (ja K st).2.2.1, gset (ja K st).2.2.2 n l ((ja K st).2.1 K - 1) (jv ao x1 x2)) := by
      unfold js
      rw [hjb, hjw]
      rfl
    obtain ⟨q1, q2, q3, q4, q5⟩ := ja_I hJ hK36
    -- a number is given
    have numb : ∃ A1, sA [71, 72] A A1 ∧ (∀ K', K' < 36 → A1 72 K' = if (ja K st).2.1 K' = 0 then -9 else nI ((ja K st).2.1 K' - 1)) ∧ (∀ b, b < (ja K st).1 → A1 71 b = nI ((ja K st).2.2.1 b)) ∧ ∀ x, (∀ v15 : Value, ev (d + 2) t_Mo_join 278 [.ref 62, .int (nI i), .int (nI j), .int (z01 ao), .int (nI to), .int (nI (ja K st).1), .int (nI n), .int (nI (Q / 6)), .int (nI (Q % 6)), .int (nI l), .int (nI s2), .int (nI t2), .int (nI x1), .int (nI x2), .int (nI K), v15] [] (hp Y F A1) x) → ∀ v15 : Value, ev (d + 2) t_Mo_join 225 [.ref 62, .int (nI i), .int (nI j), .int (z01 ao), .int (nI to), .int (nI st.1), .int (nI n), .int (nI (Q / 6)), .int (nI (Q % 6)), .int (nI l), .int (nI s2), .int (nI t2), .int (nI x1), .int (nI x2), .int (nI K), v15] [] (hp Y F A) x := by
      have h70 := hr s2 t2 hs2 ht2
      rw [← hK, h12.2] at h70
      have hd2 : ∀ x (v15 : Value), ev (d + 2) t_Mo_join 252 [.ref 62, .int (nI i), .int (nI j), .int (z01 ao), .int (nI to), .int (nI st.1), .int (nI n), .int (nI (Q / 6)), .int (nI (Q % 6)), .int (nI l), .int (nI s2), .int (nI t2), .int (nI x1), .int (nI x2), .int (nI K), v15] [.int (A 72 K)] (hp Y F A) x → ev (d + 2) t_Mo_join 225 [.ref 62, .int (nI i), .int (nI j), .int (z01 ao), .int (nI to), .int (nI st.1), .int (nI n), .int (nI (Q / 6)), .int (nI (Q % 6)), .int (nI l), .int (nI s2), .int (nI t2), .int (nI x1), .int (nI x2), .int (nI K), v15] [] (hp Y F A) x := by
        intro x v15 hx
        repeat (refine ev_np [] rfl rfl rfl ?_)
        refine ev_ie (nI_nle (by omega) (by omega)) ?_
        repeat (refine ev_np [] rfl rfl rfl ?_)
        refine ev_ie (nI_nle (by omega) (by omega)) ?_
        repeat (first | refine ev_np [] rfl rfl rfl ?_ | refine ev_grs [] rfl rfl (by rfl) (by rfl) ?_)
        refine ev_an rfl (by rfl) rfl hK36 rfl ?_
        rw [h70]
        repeat (first | refine ev_np [] rfl rfl rfl ?_ | refine ev_grs [] rfl rfl (by rfl) (by rfl) ?_)
        refine ev_an rfl (by rfl) rfl hK36 rfl ?_
        exact hx
      by_cases e0 : st.2.1 K = 0
      · have eJ : ja K st = (st.1 + 1, upN st.2.1 K (st.1 + 1), upN st.2.2.1 st.1 K, st.2.2.2) := if_pos e0
        have hA : A 72 K = -9 := by rw [hmj.1 K hK36, if_pos e0]
        have hP := jP2 hJ hK36 e0
        rw [eJ]
        refine ⟨va_up (va_up A 72 (upd (A 72) K (nI st.1))) 71 (upd (A 71) st.1 (nI K)), (sA.up (by decide)).tr (sA.up (by decide)), fun K' hK' => ?_, fun b hb' => ?_, fun x hx v15 => hd2 x v15 ?_⟩
        · rw [va_up_n _ _ (by decide), va_up_s]
          show upd (A 72) K (nI st.1) K' = if upN st.2.1 K (st.1 + 1) K' = 0 then -9 else nI (upN st.2.1 K (st.1 + 1) K' - 1)
          by_cases e : K' = K
          · subst e
            rw [pk_us, show upN st.2.1 K' (st.1 + 1) K' = st.1 + 1 from if_pos rfl, if_neg (by omega)]
            rfl
          · rw [pk_un e, show upN st.2.1 K (st.1 + 1) K' = st.2.1 K' from if_neg e]
            exact hmj.1 K' hK'
        · rw [va_up_s]
          show upd (A 71) st.1 (nI K) b = nI (upN st.2.2.1 st.1 K b)
          have hb' : b < st.1 + 1 := hb'
          by_cases e : b = st.1
          · subst e
            rw [pk_us, show upN st.2.2.1 st.1 K st.1 = K from if_pos rfl]
          · rw [pk_un e, show upN st.2.2.1 st.1 K b = st.2.2.1 b from if_neg e]
            exact hmj.2.1 b (by omega)
        · rw [hA]
          rw [show nI (st.1 + 1, upN st.2.1 K (st.1 + 1), upN st.2.2.1 st.1 K, st.2.2.2).1 = nI st.1 + 1 from nI_succ _] at hx
          repeat (first | refine ev_np [] rfl rfl rfl ?_ | refine ev_grs [] rfl rfl (by rfl) (by rfl) ?_)
          refine ev_am rfl (by rfl) rfl hK36 rfl ?_
          repeat (first | refine ev_np [] rfl rfl rfl ?_ | refine ev_grs [] rfl rfl (by rfl) (by rfl) ?_)
          refine ev_am rfl (by rfl) rfl (by omega) rfl ?_
          repeat (refine ev_np [278] rfl rfl rfl ?_)
          exact hx _
      · have eJ : ja K st = st := if_neg e0
        have hA : A 72 K = nI (st.2.1 K - 1) := by rw [hmj.1 K hK36, if_neg e0]
        have hb := (hJ.1 K hK36 e0).1
        rw [eJ]
        refine ⟨A, sA.rf, hmj.1, hmj.2.1, fun x hx v15 => hd2 x v15 ?_⟩
        rw [hA]
        repeat (refine ev_np [] rfl rfl rfl ?_)
        refine ev_it (nI_n9 (by omega)) ?_
        exact hx _
    obtain ⟨A1, a1, a2, a3, a4⟩ := numb
    have hb := (q1.1 K hK36 q3).1
    have hPj := jP _ q1
    obtain ⟨A2, b1, b2, b3, b4⟩ := c_join0 (Y := Y) (F := F) (A := A1) (ao := ao) d hi hj (to := to) (P := (ja K st).1) (n := n) (Q := Q) (l := l) (s2 := s2) (t2 := t2) (x1 := x1) (x2 := x2) (b := (ja K st).2.1 K - 1) hl hK hK36 l1 l2 (by omega) (by omega) (by rw [a2 K hK36, if_neg q3]) (N := 1) (G := (ja K st).2.2.2) (by rw [q4]; exact hmj.2.2.frame (a1 _ (by decide)) (a1 _ (by decide)))
    rw [hjs]
    refine ⟨A2, (a1.mono (by decide)).tr (b1.mono (by decide)), ⟨fun K' hK' => by rw [b1 72 (by decide)]; exact a2 K' hK', fun b hb => by rw [b1 71 (by decide)]; exact a3 b hb, b2⟩, fun i' n' g' h8 h6 h => b3 _ _ _ h8 h6 (h.frame (a1 _ (by decide)) (a1 _ (by decide))), ?_, fun x hx v12 v13 v14 v15 => head x (a4 x (fun v15 => b4 x v15 hx)) _ _ _ _⟩
    show (ja K st).2.2.1 n = Q
    rw [q5 n hnP]
    exact hQ
end JM1
