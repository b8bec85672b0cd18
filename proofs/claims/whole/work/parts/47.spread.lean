/-! ===== class Joiner: numbers, arrows ===== -/
/-- what the joiner holds -/
def CJ (F A : Nat → Nat → Int32) (st : JS) : Prop := F 52 3 = nI st.1 ∧ (∀ K, K < 36 → A 56 K = if st.2.1 K = 0 then -1 else nI (st.2.1 K - 1)) ∧ (∀ b, b < st.1 → A 57 b = nI (st.2.2.1 b))
section SPR
variable {Y : Nat × (Nat → Int32)} {F A : Nat → Nat → Int32} {p q n1 n2 : Nat} {g1 g2 : Nat → Nat → Nat → Nat} {r : Nat → Nat → Bool} {ao : Bool} (d : Nat)
theorem CJ.frame {F' A' : Nat → Nat → Int32} {st : JS} (h : CJ F A st) (h1 : F' 52 3 = F 52 3) (h2 : A' 56 = A 56) (h3 : A' 57 = A 57) : CJ F' A' st := ⟨h1.trans h.1, by rw [h2]; exact h.2.1, by rw [h3]; exact h.2.2⟩
theorem c_Joiner_numberOf {st : JS} (h : CJ F A st) (hP : st.1 ≤ 6) {s t : Nat} (hs : s < 6) (ht : t < 6) (hb : st.2.1 (6 * s + t) ≤ st.1) : ((ja (6 * s + t) st).1 ≤ 6 → ∃ F' A', xa_rn xa_ms (d + 1) n_Joiner_numberOf [.ref 52, .int (nI s), .int (nI t)] (hp Y F A) (some (.int (nI ((ja (6 * s + t) st).2.1 (6 * s + t) - 1)))) (hp Y F' A') ∧ sA [56, 57] A A' ∧ sF [5203] F F' ∧ CJ F' A' (ja (6 * s + t) st)) ∧ (¬ (ja (6 * s + t) st).1 ≤ 6 → xa_rn xa_ms (d + 1) n_Joiner_numberOf [.ref 52, .int (nI s), .int (nI t)] (hp Y F A) (some (.int (-1))) (hp Y F A)) := by
  obtain ⟨K, hK⟩ : ∃ K, K = 6 * s + t := ⟨_, rfl⟩
  have hK36 : K < 36 := by omega
  have eK : nI s * 6 + nI t = nI K := by rw [show (6 : Int32) = nI 6 from rfl, pk_mul, nI_add, Nat.mul_comm, hK]
  rw [← hK] at hb ⊢
  have head : ∀ x, ev d t_Joiner_numberOf 28 [.ref 52, .int (nI s), .int (nI t), .int (nI K)] [.int (A 56 K)] (hp Y F A) x → ev d t_Joiner_numberOf 0 [.ref 52, .int (nI s), .int (nI t), .float 0] [] (hp Y F A) x := by
    intro x hx
    repeat (refine ev_np [] rfl rfl rfl ?_)
    rw [eK]
    refine ev_ie (nI_pos (by omega)) ?_
    repeat (first | refine ev_np [] rfl rfl rfl ?_ | refine ev_grs [] rfl rfl (by rfl) (by rfl) ?_)
    refine ev_ln rfl (by rfl) ?_
    repeat (refine ev_np [] rfl rfl rfl ?_)
    refine ev_it (nI_lt hK36 (by omega)) ?_
    repeat (first | refine ev_np [] rfl rfl rfl ?_ | refine ev_grs [] rfl rfl (by rfl) (by rfl) ?_)
    refine ev_an rfl (by rfl) rfl hK36 rfl ?_
    exact hx
  by_cases e0 : st.2.1 K = 0
  · have eJ : ja K st = (st.1 + 1, upN st.2.1 K (st.1 + 1), upN st.2.2.1 st.1 K, st.2.2.2) := if_pos e0
    have hA : A 56 K = -1 := by rw [h.2.1 K hK36, if_pos e0]
    rw [eJ]
    constructor
    · intro h6
      have h6 : st.1 + 1 ≤ 6 := h6
      refine ⟨uF F 52 3 (nI st.1 + 1), va_up (va_up A 56 (upd (A 56) K (nI st.1))) 57 (upd (A 57) st.1 (nI K)), ?_, (sA.up (by decide)).tr (sA.up (by decide)), sF.up (by decide), ⟨by rw [uF_s, nI_1], fun K' hK' => ?_, fun b hb' => ?_⟩⟩
      · refine rn_in m_Joiner_numberOf rfl ⟨rfl, rfl⟩ ?_
        show ev _ t_Joiner_numberOf 0 [.ref 52, .int (nI s), .int (nI t), .float 0] [] _ _
        refine head _ ?_
        rw [hA]
        repeat (refine ev_np [] rfl rfl rfl ?_)
        refine ev_gi rfl (by rfl) (by rfl) ?_
        rw [h.1]
        repeat (refine ev_np [] rfl rfl rfl ?_)
        refine ev_ie (nI_ge (b := 6) (by omega) (by omega)) ?_
        repeat (first | refine ev_np [] rfl rfl rfl ?_ | refine ev_grs [] rfl rfl (by rfl) (by rfl) ?_)
        refine ev_gi rfl (by rfl) (by rfl) ?_
        rw [h.1]
        refine ev_am rfl (by rfl) rfl hK36 rfl ?_
        repeat (first | refine ev_np [] rfl rfl rfl ?_ | refine ev_grs [] rfl rfl (by rfl) (by rfl) ?_)
        refine ev_gi rfl (by rfl) (by rfl) ?_
        rw [h.1]
        repeat (refine ev_np [] rfl rfl rfl ?_)
        refine ev_am rfl (by rfl) rfl (by omega) rfl ?_
        repeat (refine ev_np [] rfl rfl rfl ?_)
        refine ev_gi rfl (by rfl) (by rfl) ?_
        rw [h.1]
        repeat (refine ev_np [] rfl rfl rfl ?_)
        refine ev_pf rfl (by rfl) ⟨by rfl, by rfl⟩ ?_
        repeat (first | refine ev_np [] rfl rfl rfl ?_ | refine ev_grs [] rfl rfl (by rfl) (by rfl) ?_)
        refine ev_an rfl (by rfl) rfl hK36 rfl ?_
        refine ev_ri rfl ?_
        rw [va_up_n _ _ (by decide), va_up_s, pk_us]
        show nI st.1 = nI (upN st.2.1 K (st.1 + 1) K - 1)
        rw [show upN st.2.1 K (st.1 + 1) K = st.1 + 1 from if_pos rfl]
        rfl
      · rw [va_up_n _ _ (by decide), va_up_s]
        show upd (A 56) K (nI st.1) K' = if upN st.2.1 K (st.1 + 1) K' = 0 then -1 else nI (upN st.2.1 K (st.1 + 1) K' - 1)
        by_cases e : K' = K
        · subst e
          rw [pk_us, show upN st.2.1 K' (st.1 + 1) K' = st.1 + 1 from if_pos rfl, if_neg (by omega)]
          rfl
        · rw [pk_un e, show upN st.2.1 K (st.1 + 1) K' = st.2.1 K' from if_neg e]
          exact h.2.1 K' hK'
      · rw [va_up_s]
        show upd (A 57) st.1 (nI K) b = nI (upN st.2.2.1 st.1 K b)
        have hb' : b < st.1 + 1 := hb'
        by_cases e : b = st.1
        · subst e
          rw [pk_us, show upN st.2.2.1 st.1 K st.1 = K from if_pos rfl]
        · rw [pk_un e, show upN st.2.2.1 st.1 K b = st.2.2.1 b from if_neg e]
          exact h.2.2 b (by omega)
    · intro h6
      have h6 : ¬ st.1 + 1 ≤ 6 := h6
      refine rn_in m_Joiner_numberOf rfl ⟨rfl, rfl⟩ ?_
      show ev _ t_Joiner_numberOf 0 [.ref 52, .int (nI s), .int (nI t), .float 0] [] _ _
      refine head _ ?_
      rw [hA]
      repeat (refine ev_np [] rfl rfl rfl ?_)
      refine ev_gi rfl (by rfl) (by rfl) ?_
      rw [h.1]
      repeat (refine ev_np [] rfl rfl rfl ?_)
      refine ev_it (nI_le (a := 6) (by omega) (by omega)) ?_
      repeat (first | refine ev_np [] rfl rfl rfl ?_ | refine ev_grs [] rfl rfl (by rfl) (by rfl) ?_)
      refine ev_an rfl (by rfl) rfl hK36 rfl ?_
      exact ev_ri rfl hA
  · have eJ : ja K st = st := if_neg e0
    have hA : A 56 K = nI (st.2.1 K - 1) := by rw [h.2.1 K hK36, if_neg e0]
    rw [eJ]
    refine ⟨fun _ => ⟨F, A, ?_, sA.rf, sF.rf, h⟩, fun h6 => absurd hP h6⟩
    refine rn_in m_Joiner_numberOf rfl ⟨rfl, rfl⟩ ?_
    show ev _ t_Joiner_numberOf 0 [.ref 52, .int (nI s), .int (nI t), .float 0] [] _ _
    refine head _ ?_
    rw [hA]
    repeat (refine ev_np [] rfl rfl rfl ?_)
    refine ev_it (nI_pos' (by omega)) ?_
    repeat (first | refine ev_np [] rfl rfl rfl ?_ | refine ev_grs [] rfl rfl (by rfl) (by rfl) ?_)
    refine ev_an rfl (by rfl) rfl hK36 rfl ?_
    exact ev_ri rfl hA
theorem c_Joiner_arrowOf {x y : Nat} (hx : x ≤ 2) (hy : y ≤ 2) (ao : Bool) {h : xa_H} : xa_rn xa_ms (d + 1) n_Joiner_arrowOf [.int (nI x), .int (nI y), .int (z01 ao)] h (some (.int (nI (if 1 ≤ x ∧ 1 ≤ y then jv ao x y else 0)))) h := by
  have hx3 : x = 0 ∨ x = 1 ∨ x = 2 := by omega
  have hy3 : y = 0 ∨ y = 1 ∨ y = 2 := by omega
  refine rn_in m_Joiner_arrowOf rfl ⟨rfl, rfl⟩ ?_
  show ev _ t_Joiner_arrowOf 0 [.int (nI x), .int (nI y), .int (z01 ao), .float 0] [] _ _
  rcases hx3 with rfl | rfl | rfl <;> rcases hy3 with rfl | rfl | rfl <;> cases ao <;> (repeat (refine ev_np [] rfl rfl rfl ?_)) <;> exact ev_ri rfl rfl
theorem PL_J (hp0 : PL p) (h29 : p ≠ 29) : (¬ p + 1 = 30 ∧ ¬ p + 1 = 31 ∧ ¬ p + 1 = 56 ∧ ¬ p + 1 = 57) ∧ (¬ p + 2 = 30 ∧ ¬ p + 2 = 31 ∧ ¬ p + 2 = 56 ∧ ¬ p + 2 = 57) ∧ ¬ p * 100 = 5203 := by
  rcases PL_in hp0 with rfl | rfl | rfl | rfl | rfl | rfl | rfl | rfl <;> first | decide | exact absurd rfl h29
/-- one pair at one letter -/
theorem c_spread1 (hp0 : PL p) (hq0 : PL q) (hcp : CP F A p n1 g1) (hcq : CP F A q n2 g2) (hg1 : ∀ s l t, g1 s l t ≤ 2) (hg2 : ∀ s l t, g2 s l t ≤ 2) (hr : CR A 53 r) {st : JS} {n l K : Nat} (hJ : jI st ((n * 3 + l) * 36 + K)) (hnP : n < st.1) (hP : st.1 ≤ 6) (hl : l < 3) (hK : K < 36) (hcj : CJ F A st) (h29 : CP F A 29 6 st.2.2.2) : ((js g1 g2 r ao n l K st).1 ≤ 6 → ∃ F' A', sA [30, 31, 56, 57] A A' ∧ sF [5203] F F' ∧ CJ F' A' (js g1 g2 r ao n l K st) ∧ CP F' A' 29 6 (js g1 g2 r ao n l K st).2.2.2 ∧ ∀ x (v8 v9 v10 v11 : Value), (∀ v8 v9 v10 v11 : Value, ev (d + 3) t_Joiner_spread 12 [.ref 52, .ref p, .ref q, .int (z01 ao), .int (nI n), .ref 29, .int (nI l), .int (nI K + 1), v8, v9, v10, v11] [] (hp Y F' A') x) → ev (d + 3) t_Joiner_spread 12 [.ref 52, .ref p, .ref q, .int (z01 ao), .int (nI n), .ref 29, .int (nI l), .int (nI K), v8, v9, v10, v11] [] (hp Y F A) x) ∧ (¬ (js g1 g2 r ao n l K st).1 ≤ 6 → ∀ v8 v9 v10 v11 : Value, ev (d + 3) t_Joiner_spread 12 [.ref 52, .ref p, .ref q, .int (z01 ao), .int (nI n), .ref 29, .int (nI l), .int (nI K), v8, v9, v10, v11] [] (hp Y F A) (some (.int 0), hp Y F A)) := by
  have hq36 := (hJ.2.1 n hnP).1
  obtain ⟨x1, hx1⟩ : ∃ x1, x1 = g1 (st.2.2.1 n / 6) l (K / 6) := ⟨_, rfl⟩
  obtain ⟨x2, hx2⟩ : ∃ x2, x2 = g2 (st.2.2.1 n % 6) l (K % 6) := ⟨_, rfl⟩
  have l1 : x1 ≤ 2 := by rw [hx1]; exact hg1 _ _ _
  have l2 : x2 ≤ 2 := by rw [hx2]; exact hg2 _ _ _
  obtain ⟨v, hv⟩ : ∃ v, v = if 1 ≤ x1 ∧ 1 ≤ x2 then jv ao x1 x2 else 0 := ⟨_, rfl⟩
  have lv : v ≤ 2 := by
    rw [hv]
    split
    · exact jv_le l1 l2
    · omega
  have head : ∀ x (v8 v9 v10 v11 : Value), (∀ v11 : Value, ev (d + 3) t_Joiner_spread 75 [.ref 52, .ref p, .ref q, .int (z01 ao), .int (nI n), .ref 29, .int (nI l), .int (nI K), .int (nI (K / 6)), .int (nI (K % 6)), .int (nI v), v11] [] (hp Y F A) x) → ev (d + 3) t_Joiner_spread 12 [.ref 52, .ref p, .ref q, .int (z01 ao), .int (nI n), .ref 29, .int (nI l), .int (nI K), v8, v9, v10, v11] [] (hp Y F A) x := by
    intro x v8 v9 v10 v11 hx
    repeat (refine ev_np [] rfl rfl rfl ?_)
    refine ev_ie (nI_ge (b := 36) hK (by omega)) ?_
    repeat (first | refine ev_np [] rfl rfl rfl ?_ | refine ev_grs [] rfl rfl (by rfl) (by rfl) ?_)
    refine ev_an rfl (by rfl) rfl (by omega) rfl ?_
    rw [hcj.2.2 n hnP]
    repeat (refine ev_np [] rfl rfl rfl ?_)
    rw [rm6 (k := K) (by omega), dv6 (k := K) (by omega), dv6 (k := st.2.2.1 n) (by omega)]
    refine ev_vc rfl (by rfl) hp0.1 rfl (c_Plan_at d hp0 hcp (by omega) hl (by omega) (hg1 _ _ _)) ?_
    repeat (first | refine ev_np [] rfl rfl rfl ?_ | refine ev_grs [] rfl rfl (by rfl) (by rfl) ?_)
    refine ev_an rfl (by rfl) rfl (by omega) rfl ?_
    rw [hcj.2.2 n hnP]
    repeat (refine ev_np [] rfl rfl rfl ?_)
    rw [rm6 (k := st.2.2.1 n) (by omega)]
    refine ev_vc rfl (by rfl) hq0.1 rfl (c_Plan_at d hq0 hcq (by omega) hl (by omega) (hg2 _ _ _)) ?_
    rw [← hx1, ← hx2]
    repeat (refine ev_np [] rfl rfl rfl ?_)
    refine ev_ca rfl (c_Joiner_arrowOf (d + 2) l1 l2 ao) ?_
    rw [← hv]
    repeat (refine ev_np [75] rfl rfl rfl ?_)
    exact hx _
  have hjc : jc g1 g2 r n l K st = (decide (1 ≤ x1) && decide (1 ≤ x2) && r (K / 6) (K % 6)) := by
    unfold jc
    rw [hx1, hx2]
  have hv0 : v = 0 ↔ ¬ (1 ≤ x1 ∧ 1 ≤ x2) := by
    rw [hv]
    split
    · rename_i e
      unfold jv
      constructor
      · intro z
        cases ao
        · have z : min x1 x2 = 0 := z
          omega
        · have z : max x1 x2 = 0 := z
          omega
      · exact fun z => absurd e z
    · rename_i e
      exact ⟨fun _ => e, fun _ => rfl⟩
  have tail0 : jc g1 g2 r n l K st = false → ∀ x (v8 v9 v10 v11 : Value), (∀ v8 v9 v10 v11 : Value, ev (d + 3) t_Joiner_spread 12 [.ref 52, .ref p, .ref q, .int (z01 ao), .int (nI n), .ref 29, .int (nI l), .int (nI K + 1), v8, v9, v10, v11] [] (hp Y F A) x) → ev (d + 3) t_Joiner_spread 12 [.ref 52, .ref p, .ref q, .int (z01 ao), .int (nI n), .ref 29, .int (nI l), .int (nI K), v8, v9, v10, v11] [] (hp Y F A) x := by
    intro hj x v8 v9 v10 v11 hx
    refine head x _ _ _ _ (fun v11 => ?_)
    by_cases e : v = 0
    · rw [e]
      repeat (refine ev_np [12] rfl rfl rfl ?_)
      exact hx _ _ _ _
    · repeat (refine ev_np [] rfl rfl rfl ?_)
      refine ev_ie (nI_nle (by omega) (by omega)) ?_
      repeat (first | refine ev_np [] rfl rfl rfl ?_ | refine ev_grs [] rfl rfl (by rfl) (by rfl) ?_)
      refine ev_vc rfl (by rfl) (by rfl) rfl (c_Pairs_has (d + 1) PR53 hr (by omega) (by omega)) ?_
      have e2 : r (K / 6) (K % 6) = false := by
        have h12 : 1 ≤ x1 ∧ 1 ≤ x2 := Classical.not_not.mp (fun z => e (hv0.mpr z))
        rw [hjc] at hj
        simpa [h12.1, h12.2] using hj
      rw [e2]
      repeat (refine ev_np [12] rfl rfl rfl ?_)
      exact hx _ _ _ _
  cases hj : jc g1 g2 r n l K st with
  | false =>
    rw [js_0 hj]
    exact ⟨fun _ => ⟨F, A, sA.rf, sF.rf, hcj, h29, tail0 hj⟩, fun z => absurd hP z⟩
  | true =>
    have h12 : (1 ≤ x1 ∧ 1 ≤ x2) ∧ r (K / 6) (K % 6) = true := by
      rw [hjc] at hj
      simp only [Bool.and_eq_true, decide_eq_true_eq] at hj
      exact hj
    have hvn : v ≠ 0 := fun z => (hv0.mp z) h12.1
    have hvw : v = jw g1 g2 ao n l K st := by
      rw [hv, if_pos h12.1]
      unfold jw
      rw [hx1, hx2]
    have hjs : js g1 g2 r ao n l K st = ((ja K st).1, (ja K st).2.1, (ja K st).2.2.1, gset (ja K st).2.2.2 n l ((ja K st).2.1 K - 1) v) := by
      unfold js
      rw [hj, ← hvw]
      rfl
    obtain ⟨q1, q2, q3, q4, q5⟩ := ja_I hJ hK
    have hnum : st.2.1 (6 * (K / 6) + K % 6) ≤ st.1 := by
      rw [show 6 * (K / 6) + K % 6 = K by omega]
      by_cases e : st.2.1 K = 0
      · omega
      · exact (hJ.1 K hK e).1
    obtain ⟨m1, m2⟩ := c_Joiner_numberOf (Y := Y) (d + 2) hcj hP (s := K / 6) (t := K % 6) (by omega) (by omega) hnum
    rw [show 6 * (K / 6) + K % 6 = K by omega] at m1 m2
    have head2 : ∀ x (v8 v9 v10 v11 : Value), (∀ v11 : Value, ev (d + 3) t_Joiner_spread 99 [.ref 52, .ref p, .ref q, .int (z01 ao), .int (nI n), .ref 29, .int (nI l), .int (nI K), .int (nI (K / 6)), .int (nI (K % 6)), .int (nI v), v11] [.int (nI (K % 6)), .int (nI (K / 6)), .ref 52] (hp Y F A) x) → ev (d + 3) t_Joiner_spread 12 [.ref 52, .ref p, .ref q, .int (z01 ao), .int (nI n), .ref 29, .int (nI l), .int (nI K), v8, v9, v10, v11] [] (hp Y F A) x := by
      intro x v8 v9 v10 v11 hx
      refine head x _ _ _ _ (fun v11 => ?_)
      repeat (refine ev_np [] rfl rfl rfl ?_)
      refine ev_ie (nI_nle (by omega) (by omega)) ?_
      repeat (first | refine ev_np [] rfl rfl rfl ?_ | refine ev_grs [] rfl rfl (by rfl) (by rfl) ?_)
      refine ev_vc rfl (by rfl) (by rfl) rfl (c_Pairs_has (d + 1) PR53 hr (by omega) (by omega)) ?_
      rw [h12.2]
      repeat (refine ev_np [99] rfl rfl rfl ?_)
      exact hx _
    rw [hjs]
    constructor
    · intro h6
      obtain ⟨F1, A1, b1, b2, b3, b4⟩ := m1 h6
      have h6 : (ja K st).1 ≤ 6 := h6
      have hto := (q1.1 K hK q3).1
      have h291 : CP F1 A1 29 6 (ja K st).2.2.2 := by
        rw [q4]
        exact h29.frame (b3 _ _ (by decide)) (b2 _ (by decide)) (b2 _ (by decide))
      obtain ⟨A2, c1, c2, c3⟩ := c_Plan_raise (Y := Y) (d + 1) PL29 h291 (s := n) (l := l) (t := (ja K st).2.1 K - 1) (v := v) (by omega) hl (by omega) lv
      rw [jold hJ hK, Nat.zero_max] at c3
      refine ⟨F1, A2, (b2.mono (by decide)).tr (c2.mono (by decide)), b3, b4.frame rfl (c2 _ (by decide)) (c2 _ (by decide)), c3, fun x v8 v9 v10 v11 hx => head2 x _ _ _ _ (fun v11 => ?_)⟩
      refine ev_vc rfl (by rfl) (by rfl) rfl (b1) ?_
      repeat (refine ev_np [] rfl rfl rfl ?_)
      refine ev_it (nI_pos' (by omega)) ?_
      repeat (refine ev_np [] rfl rfl rfl ?_)
      refine ev_vc rfl (by rfl) PL29.1 rfl c1 ?_
      repeat (refine ev_np [12] rfl rfl rfl ?_)
      exact hx _ _ _ _
    · intro h6 v8 v9 v10 v11
      refine head2 _ _ _ _ _ (fun v11 => ?_)
      refine ev_vc rfl (by rfl) (by rfl) rfl (m2 h6) ?_
      repeat (refine ev_np [] rfl rfl rfl ?_)
      exact ev_rz rfl rfl (Or.inl rfl)
end SPR
