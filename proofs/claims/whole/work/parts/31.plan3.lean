/-! ===== class Plan: the other writes, the counts ===== -/
section CPY
variable {d : Nat} {tb : List xa_I} {pc : Nat} {ls r : List Value} {q : xa_R} {Y : Nat × (Nat → Int32)} {F A : Nat → Nat → Int32} {a b n : Nat}
/-- an array is copied whole -/
theorem ev_cp {idx len : Nat} {l : List Nat} {cv : Int32} (hi : xa_lk tb pc = some (.invokestatic idx, len, 2 :: l, cv)) (hb : lo_at b = some (.inl n)) (ha : lo_at a = some (.inl n)) (hn : Nat.blt n 1000 = true) (hr : xa_room r = true) (kk : ev d tb (pc + len) ls r (hp Y F (va_up A a (va_cpy (A b) (A a) 0 0 n))) q) : ev d tb pc ls (.int (nI n) :: .int 0 :: .ref a :: .int 0 :: .ref b :: r) (hp Y F A) q := by
  have hn' : n < 1000 := Nat.le_of_ble_eq_true hn
  have hc : (nI n).toNatClampNeg = n := nI_clamp (by omega)
  have h0 : (0 : Int32).toNatClampNeg = 0 := rfl
  refine ev_nx (?_ : xa_one tb pc ls (.int (nI n) :: .int 0 :: .ref a :: .int 0 :: .ref b :: r) (hp Y F A) = some (.inl (pc + len, ls, r, hp Y F (va_up A a (va_cpy (A b) (A a) 0 0 n))))) kk
  unfold xa_one
  rw [hi]
  show xa_copy (pc + len) ls (.int (nI n) :: .int 0 :: .ref a :: .int 0 :: .ref b :: r) (hp Y F A) = _
  unfold xa_copy
  simp only [hp_get ha, hp_get hb, lo_cell, hc, h0]
  rw [if_pos ⟨⟨trivial, trivial⟩, ⟨by decide, by decide, nI_pos (by omega)⟩, by omega, by omega, hr⟩, hp_setA ha]
  rfl
end CPY
section PLAN3
variable {Y : Nat × (Nat → Int32)} {F A : Nat → Nat → Int32} {p q : Nat} (d : Nat)
theorem PL_ne {p : Nat} (h : PL p) : p < 100 := by have := (lo_at_lt h.1).2; omega
theorem c_Plan_become (hp0 : PL p) (hq0 : PL q) {n : Nat} {g : Nat → Nat → Nat → Nat} (hc : CP F A q n g) : ∃ F' A', xa_rn xa_ms (d + 1) n_Plan_become [.ref p, .ref q] (hp Y F A) none (hp Y F' A') ∧ sA [p + 1, p + 2] A A' ∧ sF [p * 100] F F' ∧ CP F' A' p n g := by
  have n12 : ¬ p + 1 = p + 2 := by omega
  have n21 : ¬ p + 2 = p + 1 := by omega
  have hq21 : q + 2 ≠ p + 1 := by
    rcases PL_in hp0 with rfl | rfl | rfl | rfl | rfl | rfl | rfl | rfl <;> rcases PL_in hq0 with rfl | rfl | rfl | rfl | rfl | rfl | rfl | rfl <;> decide
  refine ⟨uF F p 0 (F q 0), va_up (va_up A (p + 1) (va_cpy (A (q + 1)) (A (p + 1)) 0 0 18)) (p + 2) (va_cpy (A (q + 2)) (A (p + 2)) 0 0 18), ?_, (sA.up (by simp)).tr (sA.up (by simp)), sF.up (by simp), ⟨by rw [uF_s]; exact hc.1, fun s l hs hl => ?_⟩⟩
  · refine rn_in m_Plan_become rfl ⟨rfl, rfl⟩ ?_
    show ev _ t_Plan_become 0 [.ref p, .ref q] [] _ _
    repeat (refine ev_np [] rfl rfl rfl ?_)
    refine ev_gi rfl hq0.1 rfl ?_
    refine ev_pf rfl hp0.1 ⟨rfl, rfl⟩ ?_
    repeat (refine ev_np [] rfl rfl rfl ?_)
    refine ev_gr rfl hq0.1 rfl ?_
    repeat (refine ev_np [] rfl rfl rfl ?_)
    refine ev_gr rfl hp0.1 rfl ?_
    repeat (refine ev_np [] rfl rfl rfl ?_)
    refine ev_gr rfl hp0.1 rfl ?_
    refine ev_ln rfl hp0.2.1 ?_
    refine ev_cp rfl hq0.2.1 hp0.2.1 rfl rfl ?_
    repeat (refine ev_np [] rfl rfl rfl ?_)
    refine ev_gr rfl hq0.1 rfl ?_
    repeat (refine ev_np [] rfl rfl rfl ?_)
    refine ev_gr rfl hp0.1 rfl ?_
    repeat (refine ev_np [] rfl rfl rfl ?_)
    refine ev_gr rfl hp0.1 rfl ?_
    refine ev_ln rfl hp0.2.2 ?_
    refine ev_cp rfl hq0.2.2 hp0.2.2 rfl rfl ?_
    rw [va_up_n _ _ n21, va_up_n _ _ hq21]
    exact ev_rv rfl
  · rw [va_up_n _ _ n12, va_up_s, va_up_s]
    unfold va_cpy
    rw [if_pos (by omega), if_pos (by omega), show 0 + (3 * s + l - 0) = 3 * s + l by omega]
    exact hc.2 s l hs hl
theorem c_Plan_resize (hp0 : PL p) {n : Nat} (h1 : 1 ≤ n) (h6 : n ≤ 6) : xa_rn xa_ms (d + 1) n_Plan_resize [.ref p, .int (nI n)] (hp Y F A) none (hp Y (uF F p 0 (nI n)) A) := by
  have e1 : (if (6 : Int32) < nI n then (6 : Int32) else nI n) = nI n := if_neg (nI_nlt (a := 6) h6 (by omega))
  have e2 : (if (1 : Int32) < nI n then nI n else (1 : Int32)) = nI n := by
    by_cases e : n = 1
    · subst e; rfl
    · exact if_pos (nI_lt (a := 1) (by omega) (by omega))
  refine rn_in m_Plan_resize rfl ⟨rfl, rfl⟩ ?_
  show ev _ t_Plan_resize 0 [.ref p, .int (nI n)] [] _ _
  repeat (refine ev_np [] rfl rfl rfl ?_)
  rw [e1, e2]
  refine ev_pf rfl hp0.1 ⟨rfl, rfl⟩ ?_
  exact ev_rv rfl
theorem c_Plan_reset (hp0 : PL p) {n : Nat} (h1 : 1 ≤ n) (h6 : n ≤ 6) : ∃ F' A', xa_rn xa_ms (d + 2) n_Plan_reset [.ref p, .int (nI n)] (hp Y F A) none (hp Y F' A') ∧ sA [p + 1, p + 2] A A' ∧ sF [p * 100] F F' ∧ CP F' A' p n (fun _ _ _ => 0) := by
  have n12 : ¬ p + 1 = p + 2 := by omega
  have n21 : ¬ p + 2 = p + 1 := by omega
  refine ⟨uF F p 0 (nI n), va_up (va_up A (p + 1) (fun j => if j < 18 then 0 else A (p + 1) j)) (p + 2) (fun j => if j < 18 then 0 else A (p + 2) j), ?_, (sA.up (by simp)).tr (sA.up (by simp)), sF.up (by simp), ⟨by rw [uF_s], fun s l hs hl => ?_⟩⟩
  · refine rn_in m_Plan_reset rfl ⟨rfl, rfl⟩ ?_
    show ev _ t_Plan_reset 0 [.ref p, .int (nI n)] [] _ _
    repeat (refine ev_np [] rfl rfl rfl ?_)
    refine ev_vc rfl rfl hp0.1 rfl (c_Plan_resize d hp0 h1 h6) ?_
    repeat (refine ev_np [] rfl rfl rfl ?_)
    refine ev_gr rfl hp0.1 rfl ?_
    repeat (refine ev_np [] rfl rfl rfl ?_)
    refine ev_ca rfl (c_Arr_fill d hp0.2.1 (by decide) 0) ?_
    repeat (refine ev_np [] rfl rfl rfl ?_)
    refine ev_gr rfl hp0.1 rfl ?_
    repeat (refine ev_np [] rfl rfl rfl ?_)
    refine ev_ca rfl (c_Arr_fill d hp0.2.2 (by decide) 0) ?_
    rw [va_up_n _ _ n21]
    exact ev_rv rfl
  · rw [va_up_n _ _ n12, va_up_s, va_up_s]
    rw [if_pos (by omega), if_pos (by omega)]
    exact ⟨rfl, rfl⟩
/-- an arrow becomes v -/
theorem c_Plan_lay (hp0 : PL p) {n : Nat} {g : Nat → Nat → Nat → Nat} (hc : CP F A p n g) {s l t v : Nat} (hs : s < 6) (hl : l < 3) (ht : t < 6) (hv : v ≤ 2) : ∃ A', xa_rn xa_ms (d + 3) n_Plan_lay [.ref p, .int (nI s), .int (nI l), .int (nI t), .int (nI v)] (hp Y F A) none (hp Y F A') ∧ sA [p + 1, p + 2] A A' ∧ CP F A' p n (gset g s l t v) := by
  have n12 : ¬ p + 1 = p + 2 := by omega
  have n21 : ¬ p + 2 = p + 1 := by omega
  obtain ⟨q1, q2⟩ := hc.2 s l hs hl
  obtain ⟨A1, hA1⟩ : ∃ A1, A1 = va_up (va_up A (p + 1) (upd (A (p + 1)) (3 * s + l) (A (p + 1) (3 * s + l) &&& (((1 : Int32) <<< (nI t &&& 31)) ^^^ (-1))))) (p + 2) (upd (A (p + 2)) (3 * s + l) (A (p + 2) (3 * s + l) &&& (((1 : Int32) <<< (nI t &&& 31)) ^^^ (-1)))) := ⟨_, rfl⟩
  have hsA : sA [p + 1, p + 2] A A1 := by rw [hA1]; exact (sA.up (by simp)).tr (sA.up (by simp))
  have hcp1 : CP F A1 p n (gset g s l t 0) := by
    refine ⟨hc.1, fun s' l' hs' hl' => ?_⟩
    obtain ⟨r1, r2⟩ := hc.2 s' l' hs' hl'
    rw [hA1, va_up_n _ _ n12, va_up_s, va_up_s]
    unfold upd
    by_cases he : s' = s ∧ l' = l
    · obtain ⟨rfl, rfl⟩ := he
      rw [if_pos rfl, if_pos rfl, q1, q2, clb_bm _ ht, clb_bm _ ht]
      constructor
      · refine congrArg nI (bm_congr fun k _ => ?_)
        unfold gset
        by_cases hk : k = t <;> simp [hk]
      · refine congrArg nI (bm_congr fun k _ => ?_)
        unfold gset
        by_cases hk : k = t <;> simp [hk]
    · have hne : ¬ 3 * s' + l' = 3 * s + l := fun z => he ((pl_ix hl hl').mp z)
      rw [if_neg hne, if_neg hne, r1, r2]
      have hgs : ∀ k, gset g s l t 0 s' l' k = g s' l' k := fun k => by
        unfold gset
        rw [if_neg (fun z => he ⟨z.1, z.2.1⟩)]
      simp only [hgs]
      exact ⟨trivial, trivial⟩
  obtain ⟨A2, b1, b2, b3⟩ := c_Plan_raise (Y := Y) d hp0 hcp1 hs hl ht hv
  refine ⟨A2, ?_, hsA.tr b2, b3.congr (fun s' l' t' _ _ _ => ?_)⟩
  · refine rn_in m_Plan_lay rfl ⟨rfl, rfl⟩ ?_
    show ev _ t_Plan_lay 0 [.ref p, .int (nI s), .int (nI l), .int (nI t), .int (nI v)] [] _ _
    repeat (refine ev_np [] rfl rfl rfl ?_)
    refine ev_ca rfl (c_Plan_isSpot (d + 1) hs hl) ?_
    repeat (refine ev_np [] rfl rfl rfl ?_)
    refine ev_gr rfl hp0.1 rfl ?_
    repeat (refine ev_np [] rfl rfl rfl ?_)
    refine ev_an rfl hp0.2.1 (nI_3 s l) (by omega) rfl ?_
    repeat (refine ev_np [] rfl rfl rfl ?_)
    refine ev_am rfl hp0.2.1 (nI_3 s l) (by omega) rfl ?_
    repeat (refine ev_np [] rfl rfl rfl ?_)
    refine ev_gr rfl hp0.1 rfl ?_
    repeat (refine ev_np [] rfl rfl rfl ?_)
    refine ev_an rfl hp0.2.2 (nI_3 s l) (by omega) rfl ?_
    repeat (refine ev_np [] rfl rfl rfl ?_)
    refine ev_am rfl hp0.2.2 (nI_3 s l) (by omega) rfl ?_
    rw [va_up_n _ _ n21, ← hA1]
    repeat (refine ev_np [] rfl rfl rfl ?_)
    refine ev_vc rfl rfl hp0.1 rfl b1 ?_
    exact ev_rv rfl
  · unfold gset
    by_cases he : s' = s ∧ l' = l ∧ t' = t
    · rw [if_pos he, if_pos he]
      simp
    · rw [if_neg he, if_neg he, if_neg he]
def gset2 (g : Nat → Nat → Nat → Nat) (v : Nat) : Nat → Nat → Nat → Nat := fun a b c => if g a b c = 1 then v else g a b c
theorem c_Plan_settle (hp0 : PL p) {n : Nat} {g : Nat → Nat → Nat → Nat} (hc : CP F A p n g) (b : Bool) : ∃ A', xa_rn xa_ms (d + 1) n_Plan_settle [.ref p, .int (z01 b)] (hp Y F A) none (hp Y F A') ∧ sA [p + 1, p + 2] A A' ∧ CP F A' p n (gset2 g (bif b then 2 else 0)) := by
  have n12 : ¬ p + 1 = p + 2 := by omega
  have n21 : ¬ p + 2 = p + 1 := by omega
  obtain ⟨A', ⟨h1, h2⟩, h3⟩ := lp_ex (α := Nat → Nat → Int32) (fun k B => sA [p + 1, p + 2] A B ∧ ∀ j, B (p + 1) j = (if j < k ∧ b = false then A (p + 2) j else A (p + 1) j) ∧ B (p + 2) j = (if j < k ∧ b = true then A (p + 1) j else A (p + 2) j)) (fun k B q => ev d t_Plan_settle 2 [.ref p, .int (z01 b), .int (nI k)] [] (hp Y F B) q) 18 (fun k B hk hI => by
    obtain ⟨hs, hj⟩ := hI
    cases b with
    | true =>
      refine ⟨va_up B (p + 2) (upd (B (p + 2)) k (B (p + 1) k)), ⟨hs.tr (sA.up (by simp)), fun j => ⟨?_, ?_⟩⟩, fun q hq => ?_⟩
      · rw [va_up_n _ _ n12, (hj j).1]; simp
      · rw [va_up_s]
        unfold upd
        by_cases e : j = k
        · subst e; rw [if_pos rfl, (hj j).1]; simp
        · rw [if_neg e, (hj j).2]
          by_cases e2 : j < k
          · simp [e2, show j < k + 1 by omega]
          · simp [e2, show ¬ j < k + 1 by omega]
      · repeat (refine ev_np [] rfl rfl rfl ?_)
        refine ev_ie (nI_ge (b := 18) hk (by omega)) ?_
        repeat (refine ev_np [] rfl rfl rfl ?_)
        refine ev_gr rfl hp0.1 rfl ?_
        repeat (refine ev_np [] rfl rfl rfl ?_)
        refine ev_gr rfl hp0.1 rfl ?_
        repeat (refine ev_np [] rfl rfl rfl ?_)
        refine ev_an rfl hp0.2.1 rfl hk rfl ?_
        refine ev_am rfl hp0.2.2 rfl hk rfl ?_
        repeat (refine ev_np [2] rfl rfl rfl ?_)
        rw [nI_succ] at hq
        exact hq
    | false =>
      refine ⟨va_up B (p + 1) (upd (B (p + 1)) k (B (p + 2) k)), ⟨hs.tr (sA.up (by simp)), fun j => ⟨?_, ?_⟩⟩, fun q hq => ?_⟩
      · rw [va_up_s]
        unfold upd
        by_cases e : j = k
        · subst e; rw [if_pos rfl, (hj j).2]; simp
        · rw [if_neg e, (hj j).1]
          by_cases e2 : j < k
          · simp [e2, show j < k + 1 by omega]
          · simp [e2, show ¬ j < k + 1 by omega]
      · rw [va_up_n _ _ n21, (hj j).2]; simp
      · repeat (refine ev_np [] rfl rfl rfl ?_)
        refine ev_ie (nI_ge (b := 18) hk (by omega)) ?_
        repeat (refine ev_np [] rfl rfl rfl ?_)
        refine ev_gr rfl hp0.1 rfl ?_
        repeat (refine ev_np [] rfl rfl rfl ?_)
        refine ev_gr rfl hp0.1 rfl ?_
        repeat (refine ev_np [] rfl rfl rfl ?_)
        refine ev_an rfl hp0.2.2 rfl hk rfl ?_
        refine ev_am rfl hp0.2.1 rfl hk rfl ?_
        repeat (refine ev_np [2] rfl rfl rfl ?_)
        rw [nI_succ] at hq
        exact hq) 18 0 A rfl ⟨sA.rf, fun j => by simp⟩
  refine ⟨A', ?_, h1, hc.1, fun s l hs hl => ?_⟩
  · refine rn_in m_Plan_settle rfl ⟨rfl, rfl⟩ ?_
    show ev _ t_Plan_settle 0 [.ref p, .int (z01 b), .float 0] [] _ _
    repeat (refine ev_np [2] rfl rfl rfl ?_)
    refine h3 _ ?_
    repeat (refine ev_np [] rfl rfl rfl ?_)
    exact ev_rv rfl
  · obtain ⟨q1, q2⟩ := hc.2 s l hs hl
    rw [(h2 _).1, (h2 _).2, q1, q2]
    cases b with
    | true =>
      rw [if_neg (by simp), if_pos ⟨by omega, rfl⟩]
      constructor
      · refine congrArg nI (bm_congr fun k _ => decide_eq_decide.mpr ?_)
        unfold gset2
        split <;> (try simp) <;> omega
      · refine congrArg nI (bm_congr fun k _ => decide_eq_decide.mpr ?_)
        unfold gset2
        split <;> (try simp) <;> omega
    | false =>
      rw [if_pos ⟨by omega, rfl⟩, if_neg (by simp)]
      constructor
      · refine congrArg nI (bm_congr fun k _ => decide_eq_decide.mpr ?_)
        unfold gset2
        split <;> (try simp) <;> omega
      · refine congrArg nI (bm_congr fun k _ => decide_eq_decide.mpr ?_)
        unfold gset2
        split <;> (try simp) <;> omega
end PLAN3
