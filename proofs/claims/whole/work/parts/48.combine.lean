/-! ===== class Joiner: spread, combine ===== -/
section COM
variable {Y : Nat × (Nat → Int32)} {F A : Nat → Nat → Int32} {p q n1 n2 : Nat} {g1 g2 : Nat → Nat → Nat → Nat} {r : Nat → Nat → Bool} {ao : Bool} (d : Nat)
theorem jK_mono (hg1 : ∀ s l t, g1 s l t ≤ 2) (hg2 : ∀ s l t, g2 s l t ≤ 2) {st : JS} {n l K : Nat} (h : jI st ((n * 3 + l) * 36)) (hl : l < 3) : ∀ m, K + m ≤ 36 → (jK g1 g2 r ao n l K st).1 ≤ (jK g1 g2 r ao n l (K + m) st).1 := by
  intro m
  induction m with
  | zero => exact fun _ => Nat.le_refl _
  | succ m ih => exact fun hm => Nat.le_trans (ih (by omega)) (js_I hg1 hg2 (jK_I hg1 hg2 h hl (K + m) (by omega)).1 hl (by omega)).2
theorem jL_mono (hg1 : ∀ s l t, g1 s l t ≤ 2) (hg2 : ∀ s l t, g2 s l t ≤ 2) {st : JS} {n l : Nat} (h : jI st (n * 108)) : ∀ m, l + m ≤ 3 → (jL g1 g2 r ao n l st).1 ≤ (jL g1 g2 r ao n (l + m) st).1 := by
  intro m
  induction m with
  | zero => exact fun _ => Nat.le_refl _
  | succ m ih => exact fun hm => Nat.le_trans (ih (by omega)) (jK_I hg1 hg2 (jL_I hg1 hg2 h (l + m) (by omega)).1 (by omega) 36 (Nat.le_refl _)).2
theorem c_Joiner_spread (hp0 : PL p) (hq0 : PL q) (hp29 : p ≠ 29) (hq29 : q ≠ 29) (hcp : CP F A p n1 g1) (hcq : CP F A q n2 g2) (hg1 : ∀ s l t, g1 s l t ≤ 2) (hg2 : ∀ s l t, g2 s l t ≤ 2) (hr : CR A 53 r) {st : JS} {n : Nat} (hJ : jI st (n * 108)) (hnP : n < st.1) (hP : st.1 ≤ 6) (hcj : CJ F A st) (h29 : CP F A 29 6 st.2.2.2) : ((jL g1 g2 r ao n 3 st).1 ≤ 6 → ∃ F' A', xa_rn xa_ms (d + 4) n_Joiner_spread [.ref 52, .ref p, .ref q, .int (z01 ao), .int (nI n), .ref 29] (hp Y F A) (some (.int 1)) (hp Y F' A') ∧ sA [30, 31, 56, 57] A A' ∧ sF [5203] F F' ∧ CJ F' A' (jL g1 g2 r ao n 3 st) ∧ CP F' A' 29 6 (jL g1 g2 r ao n 3 st).2.2.2) ∧ (¬ (jL g1 g2 r ao n 3 st).1 ≤ 6 → ∃ F' A', xa_rn xa_ms (d + 4) n_Joiner_spread [.ref 52, .ref p, .ref q, .int (z01 ao), .int (nI n), .ref 29] (hp Y F A) (some (.int 0)) (hp Y F' A') ∧ sA [30, 31, 56, 57] A A' ∧ sF [5203] F F') := by
  have hpJ := PL_J hp0 hp29
  have hqJ := PL_J hq0 hq29
  have inK : ∀ l, l < 3 → ∀ c K F1 A1, K + c = 36 → sA [30, 31, 56, 57] A A1 → sF [5203] F F1 → CJ F1 A1 (jK g1 g2 r ao n l K (jL g1 g2 r ao n l st)) → CP F1 A1 29 6 (jK g1 g2 r ao n l K (jL g1 g2 r ao n l st)).2.2.2 → (jK g1 g2 r ao n l K (jL g1 g2 r ao n l st)).1 ≤ 6 → ((jL g1 g2 r ao n (l + 1) st).1 ≤ 6 → ∃ F2 A2, sA [30, 31, 56, 57] A A2 ∧ sF [5203] F F2 ∧ CJ F2 A2 (jL g1 g2 r ao n (l + 1) st) ∧ CP F2 A2 29 6 (jL g1 g2 r ao n (l + 1) st).2.2.2 ∧ ∀ x, (∀ v8 v9 v10 v11 : Value, ev (d + 3) t_Joiner_spread 12 [.ref 52, .ref p, .ref q, .int (z01 ao), .int (nI n), .ref 29, .int (nI l), .int (nI 36), v8, v9, v10, v11] [] (hp Y F2 A2) x) → ∀ v8 v9 v10 v11 : Value, ev (d + 3) t_Joiner_spread 12 [.ref 52, .ref p, .ref q, .int (z01 ao), .int (nI n), .ref 29, .int (nI l), .int (nI K), v8, v9, v10, v11] [] (hp Y F1 A1) x) ∧ (¬ (jL g1 g2 r ao n (l + 1) st).1 ≤ 6 → ∃ F2 A2, sA [30, 31, 56, 57] A A2 ∧ sF [5203] F F2 ∧ ∀ v8 v9 v10 v11 : Value, ev (d + 3) t_Joiner_spread 12 [.ref 52, .ref p, .ref q, .int (z01 ao), .int (nI n), .ref 29, .int (nI l), .int (nI K), v8, v9, v10, v11] [] (hp Y F1 A1) (some (.int 0), hp Y F2 A2)) := by
    intro l hl c
    obtain ⟨hJl, hml⟩ := jL_I (r := r) (ao := ao) hg1 hg2 hJ l (by omega)
    induction c with
    | zero =>
      intro K F1 A1 hK h1 h2 h3 h4 h5
      have : K = 36 := by omega
      subst this
      exact ⟨fun _ => ⟨F1, A1, h1, h2, h3, h4, fun x hx => hx⟩, fun z => absurd h5 z⟩
    | succ c ih =>
      intro K F1 A1 hK h1 h2 h3 h4 h5
      obtain ⟨hJK, hmK⟩ := jK_I (r := r) (ao := ao) hg1 hg2 hJl hl K (by omega)
      have cp1 : CP F1 A1 p n1 g1 := hcp.frame (h2 _ _ (by simpa using hpJ.2.2)) (h1 _ (by simp [hpJ.1])) (h1 _ (by simp [hpJ.2.1]))
      have cq1 : CP F1 A1 q n2 g2 := hcq.frame (h2 _ _ (by simpa using hqJ.2.2)) (h1 _ (by simp [hqJ.1])) (h1 _ (by simp [hqJ.2.1]))
      have cr1 : CR A1 53 r := hr.frame (h1 _ (by decide)) (h1 _ (by decide))
      obtain ⟨m1, m2⟩ := c_spread1 (Y := Y) d hp0 hq0 cp1 cq1 hg1 hg2 cr1 (ao := ao) hJK (Nat.lt_of_lt_of_le (Nat.lt_of_lt_of_le hnP hml) hmK) h5 hl (by omega) h3 h4
      by_cases h6 : (js g1 g2 r ao n l K (jK g1 g2 r ao n l K (jL g1 g2 r ao n l st))).1 ≤ 6
      · obtain ⟨F2, A2, a1, a2, a3, a4, a5⟩ := m1 h6
        obtain ⟨e1, e2⟩ := ih (K + 1) F2 A2 (by omega) (h1.tr a1) (h2.tr a2) a3 a4 h6
        refine ⟨fun z => ?_, fun z => ?_⟩
        · obtain ⟨F3, A3, b1, b2, b3, b4, b5⟩ := e1 z
          refine ⟨F3, A3, b1, b2, b3, b4, fun x hx v8 v9 v10 v11 => a5 x _ _ _ _ (fun v8 v9 v10 v11 => ?_)⟩
          rw [nI_1]
          exact b5 x hx _ _ _ _
        · obtain ⟨F3, A3, b1, b2, b3⟩ := e2 z
          refine ⟨F3, A3, b1, b2, fun v8 v9 v10 v11 => a5 _ _ _ _ _ (fun v8 v9 v10 v11 => ?_)⟩
          rw [nI_1]
          exact b3 _ _ _ _
      · have hm := jK_mono (r := r) (ao := ao) hg1 hg2 hJl hl (K := K + 1) (36 - (K + 1)) (by omega)
        rw [show K + 1 + (36 - (K + 1)) = 36 by omega] at hm
        have hm2 : (js g1 g2 r ao n l K (jK g1 g2 r ao n l K (jL g1 g2 r ao n l st))).1 ≤ (jL g1 g2 r ao n (l + 1) st).1 := hm
        exact ⟨fun z => absurd (Nat.le_trans hm2 z) h6, fun _ => ⟨F1, A1, h1, h2, m2 h6⟩⟩
  have inL : ∀ c l F1 A1, l + c = 3 → sA [30, 31, 56, 57] A A1 → sF [5203] F F1 → CJ F1 A1 (jL g1 g2 r ao n l st) → CP F1 A1 29 6 (jL g1 g2 r ao n l st).2.2.2 → (jL g1 g2 r ao n l st).1 ≤ 6 → ((jL g1 g2 r ao n 3 st).1 ≤ 6 → ∃ F2 A2, sA [30, 31, 56, 57] A A2 ∧ sF [5203] F F2 ∧ CJ F2 A2 (jL g1 g2 r ao n 3 st) ∧ CP F2 A2 29 6 (jL g1 g2 r ao n 3 st).2.2.2 ∧ ∀ v7 v8 v9 v10 v11 : Value, ev (d + 3) t_Joiner_spread 3 [.ref 52, .ref p, .ref q, .int (z01 ao), .int (nI n), .ref 29, .int (nI l), v7, v8, v9, v10, v11] [] (hp Y F1 A1) (some (.int 1), hp Y F2 A2)) ∧ (¬ (jL g1 g2 r ao n 3 st).1 ≤ 6 → ∃ F2 A2, sA [30, 31, 56, 57] A A2 ∧ sF [5203] F F2 ∧ ∀ v7 v8 v9 v10 v11 : Value, ev (d + 3) t_Joiner_spread 3 [.ref 52, .ref p, .ref q, .int (z01 ao), .int (nI n), .ref 29, .int (nI l), v7, v8, v9, v10, v11] [] (hp Y F1 A1) (some (.int 0), hp Y F2 A2)) := by
    intro c
    induction c with
    | zero =>
      intro l F1 A1 hl h1 h2 h3 h4 h5
      have : l = 3 := by omega
      subst this
      refine ⟨fun _ => ⟨F1, A1, h1, h2, h3, h4, fun v7 v8 v9 v10 v11 => ?_⟩, fun z => absurd h5 z⟩
      repeat (refine ev_np [] rfl rfl rfl ?_)
      exact ev_rz rfl rfl (Or.inr rfl)
    | succ c ih =>
      intro l F1 A1 hl h1 h2 h3 h4 h5
      have hl3 : l < 3 := by omega
      obtain ⟨m1, m2⟩ := inK l hl3 36 0 F1 A1 rfl h1 h2 h3 h4 h5
      by_cases h6 : (jL g1 g2 r ao n (l + 1) st).1 ≤ 6
      · obtain ⟨F2, A2, a1, a2, a3, a4, a5⟩ := m1 h6
        obtain ⟨e1, e2⟩ := ih (l + 1) F2 A2 (by omega) a1 a2 a3 a4 h6
        rw [nI_succ] at e1 e2
        refine ⟨fun z => ?_, fun z => ?_⟩
        · obtain ⟨F3, A3, b1, b2, b3, b4, b5⟩ := e1 z
          refine ⟨F3, A3, b1, b2, b3, b4, fun v7 v8 v9 v10 v11 => ?_⟩
          repeat (refine ev_np [] rfl rfl rfl ?_)
          refine ev_ie (nI_ge (b := 3) hl3 (by omega)) ?_
          repeat (refine ev_np [12] rfl rfl rfl ?_)
          refine a5 _ (fun v8 v9 v10 v11 => ?_) _ _ _ _
          repeat (refine ev_np [3] rfl rfl rfl ?_)
          exact b5 _ _ _ _ _
        · obtain ⟨F3, A3, b1, b2, b5⟩ := e2 z
          refine ⟨F3, A3, b1, b2, fun v7 v8 v9 v10 v11 => ?_⟩
          repeat (refine ev_np [] rfl rfl rfl ?_)
          refine ev_ie (nI_ge (b := 3) hl3 (by omega)) ?_
          repeat (refine ev_np [12] rfl rfl rfl ?_)
          refine a5 _ (fun v8 v9 v10 v11 => ?_) _ _ _ _
          repeat (refine ev_np [3] rfl rfl rfl ?_)
          exact b5 _ _ _ _ _
      · have hm := jL_mono (r := r) (ao := ao) hg1 hg2 hJ (l := l + 1) (3 - (l + 1)) (by omega)
        rw [show l + 1 + (3 - (l + 1)) = 3 by omega] at hm
        refine ⟨fun z => absurd (Nat.le_trans hm z) h6, fun _ => ?_⟩
        obtain ⟨F2, A2, a1, a2, a3⟩ := m2 h6
        refine ⟨F2, A2, a1, a2, fun v7 v8 v9 v10 v11 => ?_⟩
        repeat (refine ev_np [] rfl rfl rfl ?_)
        refine ev_ie (nI_ge (b := 3) hl3 (by omega)) ?_
        repeat (refine ev_np [12] rfl rfl rfl ?_)
        exact a3 _ _ _ _
  obtain ⟨e1, e2⟩ := inL 3 0 F A rfl sA.rf sF.rf hcj h29 hP
  refine ⟨fun z => ?_, fun z => ?_⟩
  · obtain ⟨F2, A2, a1, a2, a3, a4, a5⟩ := e1 z
    refine ⟨F2, A2, ?_, a1, a2, a3, a4⟩
    refine rn_in m_Joiner_spread rfl ⟨rfl, rfl⟩ ?_
    show ev _ t_Joiner_spread 0 [.ref 52, .ref p, .ref q, .int (z01 ao), .int (nI n), .ref 29, .float 0, .float 0, .float 0, .float 0, .float 0, .float 0] [] _ _
    repeat (refine ev_np [3] rfl rfl rfl ?_)
    exact a5 _ _ _ _ _
  · obtain ⟨F2, A2, a1, a2, a5⟩ := e2 z
    refine ⟨F2, A2, ?_, a1, a2⟩
    refine rn_in m_Joiner_spread rfl ⟨rfl, rfl⟩ ?_
    show ev _ t_Joiner_spread 0 [.ref 52, .ref p, .ref q, .int (z01 ao), .int (nI n), .ref 29, .float 0, .float 0, .float 0, .float 0, .float 0, .float 0] [] _ _
    repeat (refine ev_np [3] rfl rfl rfl ?_)
    exact a5 _ _ _ _ _
theorem PL_J2 (hp0 : PL p) (h29 : p ≠ 29) : (¬ p + 1 = 30 ∧ ¬ p + 1 = 31 ∧ ¬ p + 1 = 54 ∧ ¬ p + 1 = 55 ∧ ¬ p + 1 = 56 ∧ ¬ p + 1 = 57) ∧ (¬ p + 2 = 30 ∧ ¬ p + 2 = 31 ∧ ¬ p + 2 = 54 ∧ ¬ p + 2 = 55 ∧ ¬ p + 2 = 56 ∧ ¬ p + 2 = 57) ∧ (¬ p * 100 = 2900 ∧ ¬ p * 100 = 5203) := by
  rcases PL_in hp0 with rfl | rfl | rfl | rfl | rfl | rfl | rfl | rfl <;> first | decide | exact absurd rfl h29
/-- which pairs stand -/
abbrev jr (n1 n2 : Nat) (g1 g2 : Nat → Nat → Nat → Nat) (ao : Bool) : Nat → Nat → Bool := dR n1 n2 g1 g2 (bif ao then 37 else 0)
theorem c_Joiner_combine (hp0 : PL p) (hq0 : PL q) (hp29 : p ≠ 29) (hq29 : q ≠ 29) (hcp : CP F A p n1 g1) (hcq : CP F A q n2 g2) (hw1 : GW n1 g1) (hw2 : GW n2 g2) {e : Nat} (he1 : (jN g1 g2 (jr n1 n2 g1 g2 ao) ao e js0).1 ≤ e) (he2 : ∀ n, n < e → n < (jN g1 g2 (jr n1 n2 g1 g2 ao) ao n js0).1) : ∃ F' A', sA [30, 31, 54, 55, 56, 57] A A' ∧ sF [2900, 5203] F F' ∧ (jr n1 n2 g1 g2 ao 0 0 = true ∧ (jN g1 g2 (jr n1 n2 g1 g2 ao) ao e js0).1 ≤ 6 → CP F' A' 29 (jN g1 g2 (jr n1 n2 g1 g2 ao) ao e js0).1 (jN g1 g2 (jr n1 n2 g1 g2 ao) ao e js0).2.2.2) ∧ xa_rn xa_ms (d + 7) n_Joiner_combine [.ref 52, .ref p, .ref q, .int (z01 ao), .ref 29] (hp Y F A) (some (.int (if jr n1 n2 g1 g2 ao 0 0 = true then (if (jN g1 g2 (jr n1 n2 g1 g2 ao) ao e js0).1 ≤ 6 then nI (jN g1 g2 (jr n1 n2 g1 g2 ao) ao e js0).1 else -3) else -2))) (hp Y F' A') := by
  have hg1 : ∀ s l t, g1 s l t ≤ 2 := fun s l t => (hw1.2 s l t).1
  have hg2 : ∀ s l t, g2 s l t ≤ 2 := fun s l t => (hw2.2 s l t).1
  have hpJ := PL_J2 hp0 hp29
  have hqJ := PL_J2 hq0 hq29
  obtain ⟨r, hr⟩ : ∃ r, r = jr n1 n2 g1 g2 ao := ⟨_, rfl⟩
  rw [← hr] at he1 he2 ⊢
  obtain ⟨A1, a1, a2, a3⟩ := c_Pairs_fill (Y := Y) (F := F) (A := A) (d + 5) PR53 hw1.1.2 hw2.1.2
  -- the clashes
  obtain ⟨A2, b1, b2, b3⟩ : ∃ A2, sA [54, 55] A A2 ∧ CR A2 53 r ∧ ∀ x, ev (d + 6) t_Joiner_combine 25 [.ref 52, .ref p, .ref q, .int (z01 ao), .ref 29, .float 0] [] (hp Y F A2) x → ev (d + 6) t_Joiner_combine 0 [.ref 52, .ref p, .ref q, .int (z01 ao), .ref 29, .float 0] [] (hp Y F A) x := by
    have head : ∀ x, ev (d + 6) t_Joiner_combine 15 [.ref 52, .ref p, .ref q, .int (z01 ao), .ref 29, .float 0] [] (hp Y F A1) x → ev (d + 6) t_Joiner_combine 0 [.ref 52, .ref p, .ref q, .int (z01 ao), .ref 29, .float 0] [] (hp Y F A) x := by
      intro x hx
      repeat (first | refine ev_np [] rfl rfl rfl ?_ | refine ev_grs [] rfl rfl (by rfl) (by rfl) ?_)
      refine ev_vc rfl (by rfl) hp0.1 rfl (c_Plan_size (d + 5) hp0) ?_
      repeat (refine ev_np [] rfl rfl rfl ?_)
      refine ev_vc rfl (by rfl) hq0.1 rfl (c_Plan_size (d + 5) hq0) ?_
      rw [hcp.1, hcq.1]
      refine ev_vc rfl (by rfl) (by rfl) rfl (a1) ?_
      exact hx
    cases ao with
    | false =>
      refine ⟨A1, a2, by rw [hr]; exact a3, fun x hx => head x ?_⟩
      repeat (refine ev_np [25] rfl rfl rfl ?_)
      exact hx
    | true =>
      have cp1 : CP F A1 p n1 g1 := hcp.frame rfl (a2 _ (by simp [hpJ.1])) (a2 _ (by simp [hpJ.2.1]))
      have cq1 : CP F A1 q n2 g2 := hcq.frame rfl (a2 _ (by simp [hqJ.1])) (a2 _ (by simp [hqJ.2.1]))
      obtain ⟨A2, c1, c2, c3⟩ := c_Joiner_dropClashes (Y := Y) (d + 1) hp0 hq0 cp1 cq1 hw1.1.2 hw2.1.2 a3
      refine ⟨A2, a2.tr c2, by rw [hr]; exact c3, fun x hx => head x ?_⟩
      repeat (refine ev_np [] rfl rfl rfl ?_)
      refine ev_vc rfl (by rfl) (by rfl) rfl (c1) ?_
      exact hx
  cases h00 : r 0 0 with
  | false =>
    refine ⟨F, A2, b1.mono (by decide), sF.rf, fun z => absurd z.1 (by decide), ?_⟩
    rw [if_neg (by decide)]
    refine rn_in m_Joiner_combine rfl ⟨rfl, rfl⟩ ?_
    show ev _ t_Joiner_combine 0 [.ref 52, .ref p, .ref q, .int (z01 ao), .ref 29, .float 0] [] _ _
    refine b3 _ ?_
    repeat (first | refine ev_np [] rfl rfl rfl ?_ | refine ev_grs [] rfl rfl (by rfl) (by rfl) ?_)
    refine ev_vc rfl (by rfl) (by rfl) rfl (c_Pairs_has (d + 4) PR53 b2 (s := 0) (t := 0) (by decide) (by decide)) ?_
    rw [h00]
    repeat (refine ev_np [] rfl rfl rfl ?_)
    exact ev_ri rfl rfl
  | true =>
    rw [if_pos rfl]
    -- a new start
    obtain ⟨F3, hF3⟩ : ∃ F3, F3 = uF F 52 3 0 := ⟨_, rfl⟩
    obtain ⟨A3, hA3⟩ : ∃ A3, A3 = va_up A2 56 (fun j => if j < 36 then -1 else A2 56 j) := ⟨_, rfl⟩
    have hcj3 : CJ F3 A3 (0, fun _ => 0, fun _ => 0, fun _ _ _ => 0) := ⟨by rw [hF3, uF_s]; exact nI_0.symm, fun K hK => by rw [hA3, va_up_s, if_pos hK]; rfl, fun b hb => absurd hb (Nat.not_lt_zero b)⟩
    obtain ⟨m1, -⟩ := c_Joiner_numberOf (Y := Y) (d + 5) hcj3 (Nat.zero_le 6) (s := 0) (t := 0) (by decide) (by decide) (Nat.le_refl 0)
    obtain ⟨F4, A4, c1, c2, c3, c4⟩ := m1 (by decide)
    have hcj4 : CJ F4 A4 js0 := by
      refine ⟨c4.1, fun K hK => ?_, fun b hb => ?_⟩
      · rw [c4.2.1 K hK]
        rfl
      · have : b = 0 := by have : b < 1 := hb; omega
        subst this
        exact c4.2.2 0 (by decide)
    obtain ⟨F5, A5, e1, e2, e3, e4⟩ := c_Plan_reset (Y := Y) (F := F4) (A := A4) (d + 4) PL29 (n := 6) (by decide) (by decide)
    have hcj5 : CJ F5 A5 js0 := hcj4.frame (e3 _ _ (by decide)) (e2 _ (by decide)) (e2 _ (by decide))
    have sa5 : sA [30, 31, 54, 55, 56, 57] A A5 := (b1.mono (by decide)).tr ((show sA [30, 31, 54, 55, 56, 57] A2 A3 by rw [hA3]; exact sA.up (by decide)).tr ((c2.mono (by decide)).tr (e2.mono (by decide))))
    have sf5 : sF [2900, 5203] F F5 := (show sF [2900, 5203] F F3 by rw [hF3]; exact sF.up (by decide)).tr ((c3.mono (by decide)).tr (e3.mono (by decide)))
    have cr5 : CR A5 53 r := (b2.frame (A' := A3) (by rw [hA3]; exact va_up_n _ _ (by decide)) (by rw [hA3]; exact va_up_n _ _ (by decide))).frame (by rw [e2 _ (by decide), c2 _ (by decide)]) (by rw [e2 _ (by decide), c2 _ (by decide)])
    have loop : ∀ c n F1 A1, n + c = e → sA [30, 31, 54, 55, 56, 57] A A1 → sF [2900, 5203] F F1 → CR A1 53 r → CJ F1 A1 (jN g1 g2 r ao n js0) → CP F1 A1 29 6 (jN g1 g2 r ao n js0).2.2.2 → (jN g1 g2 r ao n js0).1 ≤ 6 → ∃ F2 A2, sA [30, 31, 54, 55, 56, 57] A A2 ∧ sF [2900, 5203] F F2 ∧ ((jN g1 g2 r ao e js0).1 ≤ 6 → CP F2 A2 29 (jN g1 g2 r ao e js0).1 (jN g1 g2 r ao e js0).2.2.2) ∧ ev (d + 6) t_Joiner_combine 70 [.ref 52, .ref p, .ref q, .int (z01 ao), .ref 29, .int (nI n)] [] (hp Y F1 A1) (some (.int (if (jN g1 g2 r ao e js0).1 ≤ 6 then nI (jN g1 g2 r ao e js0).1 else -3)), hp Y F2 A2) := by
      intro c
      induction c with
      | zero =>
        intro n F1 A1 hn h1 h2 h3 h4 h5 h6
        have : n = e := by omega
        subst this
        have hP1 := (jN_I (r := r) (ao := ao) hg1 hg2 n).2.2.2.1
        refine ⟨uF F1 29 0 (nI (jN g1 g2 r ao n js0).1), A1, h1, h2.tr (sF.up (by decide)), fun _ => ⟨uF_s _ _ _ _, h5.2⟩, ?_⟩
        rw [if_pos h6]
        have fin : ev (d + 6) t_Joiner_combine 109 [.ref 52, .ref p, .ref q, .int (z01 ao), .ref 29, .int (nI n)] [] (hp Y F1 A1) (some (.int (nI (jN g1 g2 r ao n js0).1)), hp Y (uF F1 29 0 (nI (jN g1 g2 r ao n js0).1)) A1) := by
          repeat (refine ev_np [] rfl rfl rfl ?_)
          refine ev_gi rfl (by rfl) (by rfl) ?_
          rw [h4.1]
          refine ev_vc rfl (by rfl) PL29.1 rfl (c_Plan_resize (d + 5) PL29 hP1 h6) ?_
          repeat (refine ev_np [] rfl rfl rfl ?_)
          refine ev_gi rfl (by rfl) (by rfl) ?_
          rw [uF_n _ _ (by decide), h4.1]
          exact ev_ri rfl rfl
        have hee : n ≤ 36 ∨ 36 < n := by omega
        have hn31 : n < 2 ^ 31 := by
          rcases hee with h | h
          · omega
          · have := he2 36 h
            have := jP _ (jN_I (r := r) (ao := ao) hg1 hg2 36)
            omega
        repeat (refine ev_np [] rfl rfl rfl ?_)
        by_cases h : 6 ≤ n
        · refine ev_it (nI_le (a := 6) h hn31) ?_
          exact fin
        · refine ev_ie (nI_ge (b := 6) (by omega) (by omega)) ?_
          repeat (refine ev_np [] rfl rfl rfl ?_)
          refine ev_gi rfl (by rfl) (by rfl) ?_
          rw [h4.1]
          repeat (refine ev_np [] rfl rfl rfl ?_)
          refine ev_it (nI_le he1 hn31) ?_
          exact fin
      | succ c ih =>
        intro n F1 A1 hn h1 h2 h3 h4 h5 h6
        have hnP := he2 n (by omega)
        have cp1 : CP F1 A1 p n1 g1 := hcp.frame (h2 _ _ (by simpa using hpJ.2.2)) (h1 _ (by simp [hpJ.1])) (h1 _ (by simp [hpJ.2.1]))
        have cq1 : CP F1 A1 q n2 g2 := hcq.frame (h2 _ _ (by simpa using hqJ.2.2)) (h1 _ (by simp [hqJ.1])) (h1 _ (by simp [hqJ.2.1]))
        obtain ⟨s1, s2⟩ := c_Joiner_spread (Y := Y) (d + 2) hp0 hq0 hp29 hq29 cp1 cq1 hg1 hg2 h3 (ao := ao) (jN_I hg1 hg2 n) hnP h6 h4 h5
        have head : ∀ x, ev (d + 6) t_Joiner_combine 94 [.ref 52, .ref p, .ref q, .int (z01 ao), .ref 29, .int (nI n)] [.ref 29, .int (nI n), .int (z01 ao), .ref q, .ref p, .ref 52] (hp Y F1 A1) x → ev (d + 6) t_Joiner_combine 70 [.ref 52, .ref p, .ref q, .int (z01 ao), .ref 29, .int (nI n)] [] (hp Y F1 A1) x := by
          intro x hx
          repeat (refine ev_np [] rfl rfl rfl ?_)
          refine ev_ie (nI_ge (b := 6) (by omega) (by omega)) ?_
          repeat (refine ev_np [] rfl rfl rfl ?_)
          refine ev_gi rfl (by rfl) (by rfl) ?_
          rw [h4.1]
          repeat (refine ev_np [] rfl rfl rfl ?_)
          refine ev_ie (nI_ge hnP (by omega)) ?_
          repeat (refine ev_np [94] rfl rfl rfl ?_)
          exact hx
        by_cases hL : (jL g1 g2 r ao n 3 (jN g1 g2 r ao n js0)).1 ≤ 6
        · obtain ⟨F2, A2, u1, u2, u3, u4, u5⟩ := s1 hL
          obtain ⟨F3, A3, w1, w2, w3, w4⟩ := ih (n + 1) F2 A2 (by omega) (h1.tr (u2.mono (by decide))) (h2.tr (u3.mono (by decide))) (h3.frame (u2 _ (by decide)) (u2 _ (by decide))) u4 u5 hL
          refine ⟨F3, A3, w1, w2, w3, head _ ?_⟩
          rw [nI_succ] at w4
          refine ev_vc rfl (by rfl) (by rfl) rfl (u1) ?_
          repeat (refine ev_np [70] rfl rfl rfl ?_)
          exact w4
        · obtain ⟨F2, A2, u1, u2, u3⟩ := s2 hL
          have hm := jN_mono (r := r) (ao := ao) hg1 hg2 (n := n + 1) (e - (n + 1))
          rw [show n + 1 + (e - (n + 1)) = e by omega] at hm
          have hbad : ¬ (jN g1 g2 r ao e js0).1 ≤ 6 := fun z => hL (Nat.le_trans hm z)
          refine ⟨F2, A2, h1.tr (u2.mono (by decide)), h2.tr (u3.mono (by decide)), fun z => absurd z hbad, head _ ?_⟩
          rw [if_neg hbad]
          refine ev_vc rfl (by rfl) (by rfl) rfl (u1) ?_
          repeat (refine ev_np [] rfl rfl rfl ?_)
          exact ev_ri rfl rfl
    obtain ⟨F6, A6, w1, w2, w3, w4⟩ := loop e 0 F5 A5 (Nat.zero_add e) sa5 sf5 cr5 hcj5 e4 (show (1 : Nat) ≤ 6 by decide)
    refine ⟨F6, A6, w1, w2, fun z => w3 z.2, ?_⟩
    refine rn_in m_Joiner_combine rfl ⟨rfl, rfl⟩ ?_
    show ev _ t_Joiner_combine 0 [.ref 52, .ref p, .ref q, .int (z01 ao), .ref 29, .float 0] [] _ _
    refine b3 _ ?_
    repeat (first | refine ev_np [] rfl rfl rfl ?_ | refine ev_grs [] rfl rfl (by rfl) (by rfl) ?_)
    refine ev_vc rfl (by rfl) (by rfl) rfl (c_Pairs_has (d + 4) PR53 b2 (s := 0) (t := 0) (by decide) (by decide)) ?_
    rw [h00]
    repeat (refine ev_np [] rfl rfl rfl ?_)
    refine ev_pf rfl (by rfl) ⟨by rfl, by rfl⟩ ?_
    rw [← hF3]
    repeat (first | refine ev_np [] rfl rfl rfl ?_ | refine ev_grs [] rfl rfl (by rfl) (by rfl) ?_)
    refine ev_ca rfl (c_Arr_fill (d + 5) (v := 56) (n := 36) rfl (by decide) (-1)) ?_
    rw [← hA3]
    repeat (refine ev_np [] rfl rfl rfl ?_)
    refine ev_vc rfl (by rfl) (by rfl) rfl (c1) ?_
    repeat (refine ev_np [] rfl rfl rfl ?_)
    refine ev_vc rfl (by rfl) PL29.1 rfl e1 ?_
    repeat (refine ev_np [70] rfl rfl rfl ?_)
    exact w4
end COM
