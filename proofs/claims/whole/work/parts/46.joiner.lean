/-! ===== class Joiner: clashes ===== -/
section JOI
variable {Y : Nat × (Nat → Int32)} {F A : Nat → Nat → Int32} {p q n1 n2 : Nat} {g1 g2 : Nat → Nat → Nat → Nat} (d : Nat)
theorem c_Joiner_clashes (hp0 : PL p) (hq0 : PL q) (hcp : CP F A p n1 g1) (hcq : CP F A q n2 g2) {r : Nat → Nat → Bool} (hc : CR A 53 r) {s t : Nat} (hs : s < 6) (ht : t < 6) : xa_rn xa_ms (d + 3) n_Joiner_clashes [.ref 52, .ref p, .ref q, .int (nI s), .int (nI t)] (hp Y F A) (some (.int (z01 (clh g1 g2 r s t)))) (hp Y F A) := by
  refine rn_in m_Joiner_clashes rfl ⟨rfl, rfl⟩ ?_
  show ev _ t_Joiner_clashes 0 [.ref 52, .ref p, .ref q, .int (nI s), .int (nI t), .float 0] [] _ _
  repeat (refine ev_np [3] rfl rfl rfl ?_)
  have key : ∀ m k, k + m = 3 → (List.range k).any (clx g1 g2 r s t) = false → ev (d + 2) t_Joiner_clashes 3 [.ref 52, .ref p, .ref q, .int (nI s), .int (nI t), .int (nI k)] [] (hp Y F A) (some (.int (z01 (clh g1 g2 r s t))), hp Y F A) := by
    intro m
    induction m with
    | zero =>
      intro k hk h
      have : k = 3 := by omega
      subst this
      rw [show clh g1 g2 r s t = false from h]
      repeat (refine ev_np [] rfl rfl rfl ?_)
      exact ev_rz rfl rfl (Or.inl rfl)
    | succ m ih =>
      intro k hk h
      have hk3 : k < 3 := by omega
      have yes : clx g1 g2 r s t k = true → clh g1 g2 r s t = true := fun h => List.any_eq_true.mpr ⟨k, List.mem_range.mpr hk3, h⟩
      repeat (refine ev_np [] rfl rfl rfl ?_)
      refine ev_ie (nI_ge (b := 3) hk3 (by omega)) ?_
      repeat (first | refine ev_np [] rfl rfl rfl ?_ | refine ev_grs [] rfl rfl (by rfl) (by rfl) ?_)
      refine ev_vc rfl (by rfl) hp0.1 rfl (c_Plan_mustFrom d hp0 hs hk3) ?_
      rw [(hcp.2 s k hs hk3).2]
      repeat (refine ev_np [] rfl rfl rfl ?_)
      refine ev_vc rfl (by rfl) hq0.1 rfl (c_Plan_anyFrom d hq0 ht hk3) ?_
      rw [(hcq.2 t k ht hk3).1]
      refine ev_vc rfl (by rfl) (by rfl) rfl (c_Pairs_leftLacks d PR53 hc _ _) ?_
      cases e1 : lack r (fun x => decide (2 ≤ g1 s k x)) (fun y => decide (1 ≤ g2 t k y)) 6 with
      | true =>
        rw [yes (by unfold clx; rw [e1]; rfl)]
        repeat (refine ev_np [] rfl rfl rfl ?_)
        exact ev_rz rfl rfl (Or.inr rfl)
      | false =>
        repeat (first | refine ev_np [] rfl rfl rfl ?_ | refine ev_grs [] rfl rfl (by rfl) (by rfl) ?_)
        refine ev_vc rfl (by rfl) hq0.1 rfl (c_Plan_mustFrom d hq0 ht hk3) ?_
        rw [(hcq.2 t k ht hk3).2]
        repeat (refine ev_np [] rfl rfl rfl ?_)
        refine ev_vc rfl (by rfl) hp0.1 rfl (c_Plan_anyFrom d hp0 hs hk3) ?_
        rw [(hcp.2 s k hs hk3).1]
        refine ev_vc rfl (by rfl) (by rfl) rfl (c_Pairs_rightLacks d PR53 hc _ _) ?_
        cases e2 : lack (fun a b => r b a) (fun y => decide (2 ≤ g2 t k y)) (fun x => decide (1 ≤ g1 s k x)) 6 with
        | true =>
          rw [yes (by unfold clx; rw [e1, e2]; rfl)]
          repeat (refine ev_np [] rfl rfl rfl ?_)
          exact ev_rz rfl rfl (Or.inr rfl)
        | false =>
          repeat (refine ev_np [3] rfl rfl rfl ?_)
          rw [nI_1]
          exact ih (k + 1) (by omega) (by rw [anyB, h]; unfold clx; rw [e1, e2]; rfl)
  exact key 3 0 rfl rfl
theorem dfo_skip {r : Nat → Nat → Bool} {K : Nat} : ∀ m, (∀ k, K ≤ k → k < K + m → r (k / 6) (k % 6) = false) → dfo g1 g2 (K + m) r = dfo g1 g2 K r ∧ mor g1 g2 (K + m) r = mor g1 g2 K r := by
  intro m
  induction m with
  | zero => intro _; exact ⟨rfl, rfl⟩
  | succ m ih =>
    intro h
    obtain ⟨a, b⟩ := ih (fun k h1 h2 => h k h1 (by omega))
    have e : dgo g1 g2 (dfo g1 g2 (K + m) r) (K + m) = false := by
      unfold dgo
      cases e : dfo g1 g2 (K + m) r ((K + m) / 6) ((K + m) % 6) with
      | false => rfl
      | true => have := dfo_le _ e; rw [h (K + m) (by omega) (by omega)] at this; cases this
    constructor
    · show dst g1 g2 (K + m) (dfo g1 g2 (K + m) r) = _
      unfold dst
      rw [e]
      exact a
    · show mor g1 g2 (K + m + 1) r = _
      unfold mor
      rw [anyB, e]
      unfold mor at b
      rw [b, Bool.or_false]
theorem PL_53 (hp0 : PL p) : (¬ p + 1 = 54 ∧ ¬ p + 1 = 55) ∧ (¬ p + 2 = 54 ∧ ¬ p + 2 = 55) := by
  rcases PL_in hp0 with rfl | rfl | rfl | rfl | rfl | rfl | rfl | rfl <;> decide
theorem c_Joiner_dropSome (hp0 : PL p) (hq0 : PL q) (hcp : CP F A p n1 g1) (hcq : CP F A q n2 g2) (hn1 : n1 ≤ 6) (hn2 : n2 ≤ 6) {r : Nat → Nat → Bool} (hr : ∀ a b, r a b = true → a < n1 ∧ b < n2) (hc : CR A 53 r) : ∃ A', xa_rn xa_ms (d + 4) n_Joiner_dropSome [.ref 52, .ref p, .ref q] (hp Y F A) (some (.int (z01 (mor g1 g2 36 r)))) (hp Y F A') ∧ sA [54, 55] A A' ∧ CR A' 53 (dfo g1 g2 36 r) := by
  have hp53 := PL_53 hp0
  have hq53 := PL_53 hq0
  obtain ⟨A1, ⟨i1, i2⟩, h3⟩ := lp_ex (α := Nat → Nat → Int32) (fun s B => sA [54, 55] A B ∧ CR B 53 (dfo g1 g2 (6 * s) r)) (fun s B x => ∀ v5 : Value, ev (d + 3) t_Joiner_dropSome 5 [.ref 52, .ref p, .ref q, .int (z01 (mor g1 g2 (6 * s) r)), .int (nI s), v5] [] (hp Y F B) x) n1 (fun s B hs hI => by
    obtain ⟨i1, i2⟩ := hI
    obtain ⟨B1, ⟨j1, j2⟩, h3⟩ := lp_ex (α := Nat → Nat → Int32) (fun t C => sA [54, 55] A C ∧ CR C 53 (dfo g1 g2 (6 * s + t) r)) (fun t C x => ev (d + 3) t_Joiner_dropSome 17 [.ref 52, .ref p, .ref q, .int (z01 (mor g1 g2 (6 * s + t) r)), .int (nI s), .int (nI t)] [] (hp Y F C) x) n2 (fun t C ht hI => by
      obtain ⟨j1, j2⟩ := hI
      have cp1 : CP F C p n1 g1 := hcp.frame rfl (j1 _ (by simp [hp53.1])) (j1 _ (by simp [hp53.2]))
      have cq1 : CP F C q n2 g2 := hcq.frame rfl (j1 _ (by simp [hq53.1])) (j1 _ (by simp [hq53.2]))
      have e6 : (6 * s + t) / 6 = s := by omega
      have e7 : (6 * s + t) % 6 = t := by omega
      have eD : dfo g1 g2 (6 * s + (t + 1)) r = dst g1 g2 (6 * s + t) (dfo g1 g2 (6 * s + t) r) := rfl
      have eM : mor g1 g2 (6 * s + (t + 1)) r = (mor g1 g2 (6 * s + t) r || dgo g1 g2 (dfo g1 g2 (6 * s + t) r) (6 * s + t)) := by
        show mor g1 g2 (6 * s + t + 1) r = _
        unfold mor
        rw [anyB]
      have head : ∀ x, ev (d + 3) t_Joiner_dropSome 37 [.ref 52, .ref p, .ref q, .int (z01 (mor g1 g2 (6 * s + t) r)), .int (nI s), .int (nI t)] [.int (z01 (dfo g1 g2 (6 * s + t) r s t))] (hp Y F C) x → ev (d + 3) t_Joiner_dropSome 17 [.ref 52, .ref p, .ref q, .int (z01 (mor g1 g2 (6 * s + t) r)), .int (nI s), .int (nI t)] [] (hp Y F C) x := by
        intro x hx
        repeat (refine ev_np [] rfl rfl rfl ?_)
        refine ev_vc rfl (by rfl) hq0.1 rfl (c_Plan_size (d + 2) hq0) ?_
        rw [cq1.1]
        repeat (refine ev_np [] rfl rfl rfl ?_)
        refine ev_ie (nI_ge ht (by omega)) ?_
        repeat (first | refine ev_np [] rfl rfl rfl ?_ | refine ev_grs [] rfl rfl (by rfl) (by rfl) ?_)
        refine ev_vc rfl (by rfl) (by rfl) rfl (c_Pairs_has (d + 1) PR53 j2 (by omega) (by omega)) ?_
        exact hx
      cases h1 : dfo g1 g2 (6 * s + t) r s t with
      | false =>
        have hd : dgo g1 g2 (dfo g1 g2 (6 * s + t) r) (6 * s + t) = false := by unfold dgo; rw [e6, e7, h1]; rfl
        rw [eD, eM, hd]
        refine ⟨C, ⟨j1, ?_⟩, fun x hx => head x ?_⟩
        · unfold dst
          rw [hd]
          exact j2
        · rw [h1]
          rw [nI_succ, Bool.or_false] at hx
          repeat (refine ev_np [17] rfl rfl rfl ?_)
          exact hx
      | true =>
        cases h2 : clh g1 g2 (dfo g1 g2 (6 * s + t) r) s t with
        | false =>
          have hd : dgo g1 g2 (dfo g1 g2 (6 * s + t) r) (6 * s + t) = false := by unfold dgo; rw [e6, e7, h2, Bool.and_false]
          rw [eD, eM, hd]
          refine ⟨C, ⟨j1, ?_⟩, fun x hx => head x ?_⟩
          · unfold dst
            rw [hd]
            exact j2
          · rw [h1]
            rw [nI_succ, Bool.or_false] at hx
            repeat (refine ev_np [] rfl rfl rfl ?_)
            refine ev_vc rfl (by rfl) (by rfl) rfl (c_Joiner_clashes d hp0 hq0 cp1 cq1 j2 (by omega) (by omega)) ?_
            rw [h2]
            repeat (refine ev_np [17] rfl rfl rfl ?_)
            exact hx
        | true =>
          have hd : dgo g1 g2 (dfo g1 g2 (6 * s + t) r) (6 * s + t) = true := by unfold dgo; rw [e6, e7, h1, h2]; rfl
          obtain ⟨C1, b1, b2, b3⟩ := c_Pairs_drop (Y := Y) (F := F) (d + 1) PR53 j2 (s := s) (t := t) (by omega) (by omega)
          rw [eD, eM, hd]
          refine ⟨C1, ⟨j1.tr b2, ?_⟩, fun x hx => head x ?_⟩
          · unfold dst
            rw [hd, e6, e7]
            exact b3
          · rw [h1]
            rw [nI_succ, Bool.or_true] at hx
            repeat (refine ev_np [] rfl rfl rfl ?_)
            refine ev_vc rfl (by rfl) (by rfl) rfl (c_Joiner_clashes d hp0 hq0 cp1 cq1 j2 (by omega) (by omega)) ?_
            rw [h2]
            repeat (first | refine ev_np [] rfl rfl rfl ?_ | refine ev_grs [] rfl rfl (by rfl) (by rfl) ?_)
            refine ev_vc rfl (by rfl) (by rfl) rfl (b1) ?_
            repeat (refine ev_np [17] rfl rfl rfl ?_)
            exact hx) n2 0 B (Nat.zero_add n2) ⟨i1, i2⟩
    have sk := dfo_skip (g1 := g1) (g2 := g2) (r := r) (K := 6 * s + n2) (6 - n2) (fun k h1 h2 => by
      cases e : r (k / 6) (k % 6) with
      | false => rfl
      | true => have := hr _ _ e; omega)
    rw [show 6 * s + n2 + (6 - n2) = 6 * (s + 1) by omega] at sk
    refine ⟨B1, ⟨j1, by rw [sk.1]; exact j2⟩, fun x hx v5 => ?_⟩
    have cp1 : CP F B p n1 g1 := hcp.frame rfl (i1 _ (by simp [hp53.1])) (i1 _ (by simp [hp53.2]))
    have cq1 : CP F B1 q n2 g2 := hcq.frame rfl (j1 _ (by simp [hq53.1])) (j1 _ (by simp [hq53.2]))
    repeat (refine ev_np [] rfl rfl rfl ?_)
    refine ev_vc rfl (by rfl) hp0.1 rfl (c_Plan_size (d + 2) hp0) ?_
    rw [cp1.1]
    repeat (refine ev_np [] rfl rfl rfl ?_)
    refine ev_ie (nI_ge hs (by omega)) ?_
    repeat (refine ev_np [17] rfl rfl rfl ?_)
    refine h3 x ?_
    rw [nI_succ, sk.2] at hx
    repeat (refine ev_np [] rfl rfl rfl ?_)
    refine ev_vc rfl (by rfl) hq0.1 rfl (c_Plan_size (d + 2) hq0) ?_
    rw [cq1.1]
    repeat (refine ev_np [] rfl rfl rfl ?_)
    refine ev_it (nI_le (Nat.le_refl _) (by omega)) ?_
    repeat (refine ev_np [5] rfl rfl rfl ?_)
    exact hx _) n1 0 A (Nat.zero_add n1) ⟨sA.rf, hc⟩
  have sk := dfo_skip (g1 := g1) (g2 := g2) (r := r) (K := 6 * n1) (36 - 6 * n1) (fun k h1 h2 => by
    cases e : r (k / 6) (k % 6) with
    | false => rfl
    | true => have := hr _ _ e; omega)
  rw [show 6 * n1 + (36 - 6 * n1) = 36 by omega] at sk
  refine ⟨A1, ?_, i1, by rw [sk.1]; exact i2⟩
  have cp1 : CP F A1 p n1 g1 := hcp.frame rfl (i1 _ (by simp [hp53.1])) (i1 _ (by simp [hp53.2]))
  rw [sk.2]
  refine rn_in m_Joiner_dropSome rfl ⟨rfl, rfl⟩ ?_
  show ev _ t_Joiner_dropSome 0 [.ref 52, .ref p, .ref q, .float 0, .float 0, .float 0] [] _ _
  repeat (refine ev_np [5] rfl rfl rfl ?_)
  refine h3 _ (fun v5 => ?_) _
  repeat (refine ev_np [] rfl rfl rfl ?_)
  refine ev_vc rfl (by rfl) hp0.1 rfl (c_Plan_size (d + 2) hp0) ?_
  rw [cp1.1]
  repeat (refine ev_np [] rfl rfl rfl ?_)
  refine ev_it (nI_le (Nat.le_refl _) (by omega)) ?_
  repeat (refine ev_np [] rfl rfl rfl ?_)
  exact ev_rz rfl rfl (z01_b _)
theorem c_Joiner_dropClashes (hp0 : PL p) (hq0 : PL q) (hcp : CP F A p n1 g1) (hcq : CP F A q n2 g2) (hn1 : n1 ≤ 6) (hn2 : n2 ≤ 6) (hc : CR A 53 (dR n1 n2 g1 g2 0)) : ∃ A', xa_rn xa_ms (d + 5) n_Joiner_dropClashes [.ref 52, .ref p, .ref q] (hp Y F A) none (hp Y F A') ∧ sA [54, 55] A A' ∧ CR A' 53 (dR n1 n2 g1 g2 37) := by
  have hp53 := PL_53 hp0
  have hq53 := PL_53 hq0
  have key : ∀ c m B more, m + c = 37 → sA [54, 55] A B → CR B 53 (dR n1 n2 g1 g2 m) → (more = false → dR n1 n2 g1 g2 m = dR n1 n2 g1 g2 37) → ∃ A', sA [54, 55] A A' ∧ CR A' 53 (dR n1 n2 g1 g2 37) ∧ ev (d + 4) t_Joiner_dropClashes 5 [.ref 52, .ref p, .ref q, .int (z01 more), .int (nI m)] [] (hp Y F B) (none, hp Y F A') := by
    intro c
    induction c with
    | zero =>
      intro m B more hm h1 h2 h3
      have : m = 37 := by omega
      subst this
      refine ⟨B, h1, h2, ?_⟩
      cases more
      · repeat (refine ev_np [] rfl rfl rfl ?_)
        exact ev_rv rfl
      · repeat (refine ev_np [] rfl rfl rfl ?_)
        exact ev_rv rfl
    | succ c ih =>
      intro m B more hm h1 h2 h3
      cases more with
      | false =>
        refine ⟨B, h1, by rw [← h3 rfl]; exact h2, ?_⟩
        repeat (refine ev_np [] rfl rfl rfl ?_)
        exact ev_rv rfl
      | true =>
        have cp1 : CP F B p n1 g1 := hcp.frame rfl (h1 _ (by simp [hp53.1])) (h1 _ (by simp [hp53.2]))
        have cq1 : CP F B q n2 g2 := hcq.frame rfl (h1 _ (by simp [hq53.1])) (h1 _ (by simp [hq53.2]))
        obtain ⟨B1, b1, b2, b3⟩ := c_Joiner_dropSome (Y := Y) d hp0 hq0 cp1 cq1 hn1 hn2 (r := dR n1 n2 g1 g2 m) (fun a b h => dR_in m h) h2
        obtain ⟨A', a1, a2, a3⟩ := ih (m + 1) B1 (mor g1 g2 36 (dR n1 n2 g1 g2 m)) (by omega) (h1.tr b2) b3 (fun e => by
          rw [← dR_37 (m := m) (by omega) e]
          exact dfo_same 36 e)
        refine ⟨A', a1, a2, ?_⟩
        rw [nI_succ] at a3
        repeat (refine ev_np [] rfl rfl rfl ?_)
        refine ev_ie (nI_nlt (a := 36) (by omega) (by omega)) ?_
        repeat (refine ev_np [] rfl rfl rfl ?_)
        refine ev_vc rfl (by rfl) (by rfl) rfl (b1) ?_
        repeat (refine ev_np [5] rfl rfl rfl ?_)
        exact a3
  obtain ⟨A', a1, a2, a3⟩ := key 37 0 A true rfl sA.rf hc (fun h => by cases h)
  refine ⟨A', ?_, a1, a2⟩
  refine rn_in m_Joiner_dropClashes rfl ⟨rfl, rfl⟩ ?_
  show ev _ t_Joiner_dropClashes 0 [.ref 52, .ref p, .ref q, .float 0, .float 0] [] _ _
  repeat (refine ev_np [5] rfl rfl rfl ?_)
  exact a3
end JOI
