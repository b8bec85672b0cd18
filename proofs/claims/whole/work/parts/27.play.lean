/-! ===== fills; a round; all rounds ===== -/
section FILL
variable {Y : Nat × (Nat → Int32)} {F A : Nat → Nat → Int32} (d : Nat)
theorem c_Arr_fill {v n : Nat} (hv : lo_at v = some (.inl n)) (hn : n < 1000) (x : Int32) : xa_rn xa_ms (d + 1) n_Arr_fill [.ref v, .int x] (hp Y F A) none (hp Y F (va_up A v (fun j => if j < n then x else A v j))) := by
  refine rn_in m_Arr_fill rfl ⟨rfl, rfl⟩ ?_
  show ev _ t_Arr_fill 0 [.ref v, .int x, .float 0, .float 0] [] _ _
  repeat (refine ev_np [] rfl rfl rfl ?_)
  refine ev_ln rfl hv ?_
  repeat (refine ev_np [5] rfl rfl rfl ?_)
  have h0 : A = va_up A v (fun j => if j < 0 then x else A v j) := by
    have : (fun j => if j < 0 then x else A v j) = A v := by funext j; simp
    rw [this, va_up_id]
  refine (congrArg (fun B => ev d t_Arr_fill 5 [.ref v, .int x, .int 0, .int (nI n)] [] (hp Y F B) _) h0).mpr ?_
  refine lp_to (E := fun k q => ev d t_Arr_fill 5 [.ref v, .int x, .int (nI k), .int (nI n)] [] (hp Y F (va_up A v (fun j => if j < k then x else A v j))) q) n (fun k hk q hq => ?_) _ ?_
  · repeat (refine ev_np [] rfl rfl rfl ?_)
    refine ev_ie (nI_ge hk (by omega)) ?_
    repeat (refine ev_np [] rfl rfl rfl ?_)
    refine ev_am rfl hv rfl hk (by simp [Nat.blt]; omega) ?_
    repeat (refine ev_np [5] rfl rfl rfl ?_)
    rw [bx_uu, va_up_s]
    have e1 : upd (fun j => if j < k then x else A v j) k x = fun j => if j < k + 1 then x else A v j := by
      funext j
      unfold upd
      by_cases e : j = k
      · simp [e]
      · by_cases e2 : j < k
        · simp [e, e2, show j < k + 1 by omega]
        · simp [e, e2, show ¬ j < k + 1 by omega]
    rw [e1]
    rw [nI_succ] at hq
    exact hq
  · repeat (refine ev_np [] rfl rfl rfl ?_)
    refine ev_it (nI_le (Nat.le_refl n) (by omega)) ?_
    exact ev_rv rfl
theorem low_tab : (List.range 7).all (fun n => (List.range 1).all fun _ => decide (((1 : Int32) <<< (nI n &&& 31)) - 1 = nI (bm (fun t => decide (t < n))))) = true := by decide +kernel
theorem low_bm {n : Nat} (h : n ≤ 6) : ((1 : Int32) <<< (nI n &&& 31)) - 1 = nI (bm (fun t => decide (t < n))) := tab2 (P := fun n _ => ((1 : Int32) <<< (nI n &&& 31)) - 1 = nI (bm (fun t => decide (t < n)))) low_tab (show n < 7 by omega) (show 0 < 1 by decide)
theorem c_Pairs_fill {o : Nat} (hp0 : PR o) {n1 n2 : Nat} (h1 : n1 ≤ 6) (h2 : n2 ≤ 6) : ∃ A', xa_rn xa_ms (d + 1) n_Pairs_fill [.ref o, .int (nI n1), .int (nI n2)] (hp Y F A) none (hp Y F A') ∧ sA [o + 1, o + 2] A A' ∧ CR A' o (fun s t => decide (s < n1) && decide (t < n2)) := by
  have n12 : ¬ o + 1 = o + 2 := by omega
  have n21 : ¬ o + 2 = o + 1 := by omega
  have hz : ∀ (b : Nat → Bool), (0 : Int32) = nI (bm (fun t => false && b t)) := fun b => rfl
  obtain ⟨A', ⟨g1, g2⟩, g3⟩ := lp_ex (α := Nat → Nat → Int32) (fun k B => sA [o + 1, o + 2] A B ∧ ∀ j, j < k → B (o + 1) j = nI (bm (fun t => decide (j < n1) && decide (t < n2))) ∧ B (o + 2) j = nI (bm (fun s => decide (s < n1) && decide (j < n2)))) (fun k B q => ev d t_Pairs_fill 2 [.ref o, .int (nI n1), .int (nI n2), .int (nI k)] [] (hp Y F B) q) 6 (fun k B hk hI => by
    obtain ⟨hs, hr⟩ := hI
    refine ⟨va_up (va_up B (o + 1) (upd (B (o + 1)) k (nI (bm (fun t => decide (k < n1) && decide (t < n2)))))) (o + 2) (upd (B (o + 2)) k (nI (bm (fun s => decide (s < n1) && decide (k < n2))))), ⟨hs.tr ((sA.up (by simp)).tr (sA.up (by simp))), fun j hj => ?_⟩, fun q hq => ?_⟩
    · rw [va_up_n _ _ n12, va_up_s, va_up_s]
      unfold upd
      by_cases e : j = k
      · subst e; simp
      · rw [if_neg e, if_neg e]; exact hr j (by omega)
    · repeat (refine ev_np [] rfl rfl rfl ?_)
      refine ev_ie (nI_ge (b := 6) hk (by omega)) ?_
      repeat (refine ev_np [] rfl rfl rfl ?_)
      refine ev_gr rfl hp0.2.1 rfl ?_
      repeat (refine ev_np [] rfl rfl rfl ?_)
      have hsecond : ∀ (v : Int32), v = nI (bm (fun t => decide (k < n1) && decide (t < n2))) → ev d t_Pairs_fill 27 [.ref o, .int (nI n1), .int (nI n2), .int (nI k)] [.int v, .int (nI k), .ref (o + 1)] (hp Y F B) q := by
        intro v hv
        subst hv
        refine ev_am rfl hp0.2.2.1 rfl hk rfl ?_
        repeat (refine ev_np [] rfl rfl rfl ?_)
        refine ev_gr rfl hp0.2.1 rfl ?_
        repeat (refine ev_np [] rfl rfl rfl ?_)
        have hthird : ∀ (v : Int32), v = nI (bm (fun s => decide (s < n1) && decide (k < n2))) → ev d t_Pairs_fill 47 [.ref o, .int (nI n1), .int (nI n2), .int (nI k)] [.int v, .int (nI k), .ref (o + 2)] (hp Y F (va_up B (o + 1) (upd (B (o + 1)) k (nI (bm (fun t => decide (k < n1) && decide (t < n2))))))) q := by
          intro v hv
          subst hv
          refine ev_am rfl hp0.2.2.2 rfl hk rfl ?_
          repeat (refine ev_np [2] rfl rfl rfl ?_)
          rw [va_up_n _ _ n21]
          rw [nI_succ] at hq
          exact hq
        by_cases hk2 : k < n2
        · refine ev_ie (nI_ge hk2 (by omega)) ?_
          repeat (refine ev_np [] rfl rfl rfl ?_)
          exact hthird _ (by rw [low_bm h1]; exact congrArg nI (bm_congr fun t _ => by simp [hk2]))
        · refine ev_it (nI_le (by omega) (by omega)) ?_
          repeat (refine ev_np [] rfl rfl rfl ?_)
          exact hthird _ (by rw [show (0 : Int32) = nI (bm (fun _ => false)) from rfl]; exact congrArg nI (bm_congr fun t _ => by simp [hk2]))
      by_cases hk1 : k < n1
      · refine ev_ie (nI_ge hk1 (by omega)) ?_
        repeat (refine ev_np [] rfl rfl rfl ?_)
        exact hsecond _ (by rw [low_bm h2]; exact congrArg nI (bm_congr fun t _ => by simp [hk1]))
      · refine ev_it (nI_le (by omega) (by omega)) ?_
        repeat (refine ev_np [] rfl rfl rfl ?_)
        exact hsecond _ (by rw [show (0 : Int32) = nI (bm (fun _ => false)) from rfl]; exact congrArg nI (bm_congr fun t _ => by simp [hk1]))) 6 0 A rfl ⟨sA.rf, fun j hj => by omega⟩
  refine ⟨A', ?_, g1, fun k hk => g2 k hk⟩
  refine rn_in m_Pairs_fill rfl ⟨rfl, rfl⟩ ?_
  show ev _ t_Pairs_fill 0 [.ref o, .int (nI n1), .int (nI n2), .float 0] [] _ _
  repeat (refine ev_np [2] rfl rfl rfl ?_)
  refine g3 _ ?_
  repeat (refine ev_np [] rfl rfl rfl ?_)
  exact ev_rv rfl
end FILL
section PLAY
variable {Y : Nat × (Nat → Int32)} {F A : Nat → Nat → Int32} {p q n1 n2 : Nat} {g1 g2 : Nat → Nat → Nat → Nat} (d : Nat)
/-- what the rounds hold -/
def WE (A : Nat → Nat → Int32) (o : Nat) (w : Nat → Nat) : Prop := ∀ k, k < 36 → A o k = nI (w k)
theorem anyB (f : Nat → Bool) (n : Nat) : (List.range (n + 1)).any f = ((List.range n).any f || f n) := by
  rw [List.range_succ, List.any_append]
  simp
theorem gF_sF (F : Nat → Nat → Int32) (s t : Nat) (f : Nat → Nat) : sF [4502, 4503] F (gF F s t f) := by
  unfold gF
  split
  · exact (sF.up (by decide)).tr (sF.up (by decide))
  · exact sF.rf
theorem c_Rounds_playOne (hp0 : PL p) (hq0 : PL q) (hcp : CP F A p n1 g1) (hcq : CP F A q n2 g2) {R : Nat} (hR : R < 900) {w : Nat → Nat} (hw : WE A 49 w) (hwl : ∀ k, w k < R) (hc : CR A 46 (rs n1 n2 w)) : ∃ F' A', xa_rn xa_ms (d + 5) n_Rounds_playOne [.ref 45, .ref p, .ref q, .int (nI R)] (hp Y F A) (some (.int (z01 ((List.range 36).any (gok n1 n2 g1 g2 w))))) (hp Y F' A') ∧ sA [47, 48, 49] A A' ∧ sF [4502, 4503] F F' ∧ WE A' 49 (w1 n1 n2 g1 g2 R w) ∧ CR A' 46 (rs n1 n2 (w1 n1 n2 g1 g2 R w)) ∧ F' = (if gok n1 n2 g1 g2 w 0 = true then gF F 0 0 (sd g1 g2 (rs n1 n2 w) 0 0) else F) := by
  obtain ⟨⟨F1, A1⟩, ⟨h1, h2, h3⟩, h4⟩ := lp_ex (α := (Nat → Nat → Int32) × (Nat → Nat → Int32)) (fun k X => sA [49] A X.2 ∧ X.1 = (if 0 < k ∧ gok n1 n2 g1 g2 w 0 = true then gF F 0 0 (sd g1 g2 (rs n1 n2 w) 0 0) else F) ∧ ∀ j, j < 36 → X.2 49 j = nI (if j < k then w1 n1 n2 g1 g2 R w j else w j)) (fun k X q0 => ∀ v6 v7 : Value, ev (d + 4) t_Rounds_playOne 6 [.ref 45, .ref p, .ref q, .int (nI R), .int (z01 ((List.range k).any (gok n1 n2 g1 g2 w))), .int (nI k), v6, v7] [] (hp Y X.1 X.2) q0) 36 (fun k X hk hI => by
    obtain ⟨B, C⟩ := X
    obtain ⟨hs, hF, hW⟩ := hI
    dsimp only at hs hF hW
    have hsF : sF [4502, 4503] F B := by
      rw [hF]
      split
      · exact gF_sF F 0 0 _
      · exact sF.rf
    have hcp' : CP B C p n1 g1 := hcp.keep hp0 hsF hs rfl
    have hcq' : CP B C q n2 g2 := hcq.keep hq0 hsF hs rfl
    have hc' : CR C 46 (rs n1 n2 w) := hc.frame (hs 47 (by decide)) (hs 48 (by decide))
    have hgk : gok n1 n2 g1 g2 w k = (rs n1 n2 w (k / 6) (k % 6) && hg (sd g1 g2 (rs n1 n2 w) (k / 6) (k % 6))) := rfl
    have hlen : ∀ (q0 : xa_R) (v6 v7 : Value) (a : Int32), (ev (d + 4) t_Rounds_playOne 44 [.ref 45, .ref p, .ref q, .int (nI R), .int a, .int (nI k), .int (nI (k / 6)), .int (nI (k % 6))] [] (hp Y B C) q0 ∨ rs n1 n2 w (k / 6) (k % 6) = false) → (ev (d + 4) t_Rounds_playOne 68 [.ref 45, .ref p, .ref q, .int (nI R), .int a, .int (nI k), .int (nI (k / 6)), .int (nI (k % 6))] [] (hp Y B C) q0 ∨ rs n1 n2 w (k / 6) (k % 6) = true) → ev (d + 4) t_Rounds_playOne 6 [.ref 45, .ref p, .ref q, .int (nI R), .int a, .int (nI k), v6, v7] [] (hp Y B C) q0 := by
      intro q0 v6 v7 a hA hB
      repeat (refine ev_np [] rfl rfl rfl ?_)
      refine ev_gr rfl (by rfl) (by rfl) ?_
      repeat (refine ev_np [] rfl rfl rfl ?_)
      refine ev_ln rfl (by rfl) ?_
      repeat (refine ev_np [] rfl rfl rfl ?_)
      refine ev_ie (nI_ge (b := 36) hk (by omega)) ?_
      repeat (refine ev_np [] rfl rfl rfl ?_)
      rw [rm6 (by omega), dv6 (by omega)]
      refine ev_gr rfl (by rfl) (by rfl) ?_
      repeat (refine ev_np [] rfl rfl rfl ?_)
      refine ev_vc rfl (by rfl) (by rfl) rfl (c_Pairs_has (d + 2) PR46 hc' (by omega) (by omega)) ?_
      cases hr : rs n1 n2 w (k / 6) (k % 6) with
      | true =>
        rcases hA with h | h
        · repeat (refine ev_np [44] rfl rfl rfl ?_)
          exact h
        · rw [hr] at h; cases h
      | false =>
        rcases hB with h | h
        · repeat (refine ev_np [68] rfl rfl rfl ?_)
          exact h
        · rw [hr] at h; cases h
    have hback : ∀ (q0 : xa_R) (a : Int32) (B C : Nat → Nat → Int32), (∀ v6 v7 : Value, ev (d + 4) t_Rounds_playOne 6 [.ref 45, .ref p, .ref q, .int (nI R), .int a, .int (nI (k + 1)), v6, v7] [] (hp Y B C) q0) → ev (d + 4) t_Rounds_playOne 68 [.ref 45, .ref p, .ref q, .int (nI R), .int a, .int (nI k), .int (nI (k / 6)), .int (nI (k % 6))] [] (hp Y B C) q0 := by
      intro q0 a B C h
      repeat (refine ev_np [6] rfl rfl rfl ?_)
      have h9 := h (.int (nI (k / 6))) (.int (nI (k % 6)))
      rw [nI_succ] at h9
      exact h9
    have hFn : ∀ (G : Nat → Nat → Int32), (k ≠ 0 → G = B) → (k = 0 → G = (if gok n1 n2 g1 g2 w 0 = true then gF F 0 0 (sd g1 g2 (rs n1 n2 w) 0 0) else F)) → G = (if 0 < k + 1 ∧ gok n1 n2 g1 g2 w 0 = true then gF F 0 0 (sd g1 g2 (rs n1 n2 w) 0 0) else F) := by
      intro G hG1 hG2
      by_cases e : k = 0
      · rw [hG2 e]; simp
      · rw [hG1 e, hF]; simp [show 0 < k by omega]
    cases hgo : gok n1 n2 g1 g2 w k with
    | false =>
      have hwk : w1 n1 n2 g1 g2 R w k = w k := by unfold w1; rw [hgo]; rfl
      have hWn : ∀ j, j < 36 → C 49 j = nI (if j < k + 1 then w1 n1 n2 g1 g2 R w j else w j) := by
        intro j hj
        rw [hW j hj]
        by_cases e : j = k
        · subst e; simp [hwk]
        · by_cases e2 : j < k
          · simp [e2, show j < k + 1 by omega]
          · simp [e2, show ¬ j < k + 1 by omega]
      have hany : (List.range (k + 1)).any (gok n1 n2 g1 g2 w) = (List.range k).any (gok n1 n2 g1 g2 w) := by rw [anyB, hgo]; simp
      cases hr : rs n1 n2 w (k / 6) (k % 6) with
      | false =>
        refine ⟨(B, C), ⟨hs, hFn B (fun _ => rfl) (fun e => by rw [hF]; subst e; rw [hgo]; simp), hWn⟩, fun q0 h v6 v7 => ?_⟩
        rw [hany] at h
        exact hlen q0 v6 v7 _ (Or.inr hr) (Or.inl (hback q0 _ B C h))
      | true =>
        rw [hgk, hr, Bool.true_and] at hgo
        have hgF0 : gF B (k / 6) (k % 6) (sd g1 g2 (rs n1 n2 w) (k / 6) (k % 6)) = B := by unfold gF; rw [hgo]; simp
        refine ⟨(B, C), ⟨hs, hFn B (fun _ => rfl) (fun e => by rw [hF]; subst e; simp [gok, hgo]), hWn⟩, fun q0 h v6 v7 => ?_⟩
        rw [hany] at h
        refine hlen q0 v6 v7 _ (Or.inl ?_) (Or.inr hr)
        repeat (refine ev_np [] rfl rfl rfl ?_)
        have hc9 := c_Rounds_hasToGo (Y := Y) d hp0 hq0 hcp' hcq' hc' (s := k / 6) (t := k % 6) (by omega) (by omega)
        rw [hgF0, hgo] at hc9
        refine ev_vc rfl (by rfl) (by rfl) rfl (hc9) ?_
        repeat (refine ev_np [68] rfl rfl rfl ?_)
        exact hback q0 _ B C h
    | true =>
      have hwk : w1 n1 n2 g1 g2 R w k = R := by unfold w1; rw [hgo]; rfl
      have hany : (List.range (k + 1)).any (gok n1 n2 g1 g2 w) = true := by rw [anyB, hgo]; simp
      rw [hgk, Bool.and_eq_true] at hgo
      refine ⟨(gF B (k / 6) (k % 6) (sd g1 g2 (rs n1 n2 w) (k / 6) (k % 6)), va_up C 49 (upd (C 49) k (nI R))), ⟨hs.tr (sA.up (by decide)), hFn _ (fun e => ?_) (fun e => ?_), fun j hj => ?_⟩, fun q0 h v6 v7 => ?_⟩
      · unfold gF
        rw [if_neg (fun z => e (by omega))]
      · subst e
        rw [hF]
        simp [gok, hgo.1, hgo.2]
      · have e9 : va_up C 49 (upd (C 49) k (nI R)) 49 = upd (C 49) k (nI R) := va_up_s _ _ _
        show va_up C 49 (upd (C 49) k (nI R)) 49 j = _
        rw [e9]
        unfold upd
        by_cases e : j = k
        · subst e; simp [hwk]
        · rw [if_neg e, hW j hj]
          by_cases e2 : j < k
          · simp [e2, show j < k + 1 by omega]
          · simp [e2, show ¬ j < k + 1 by omega]
      · rw [hany] at h
        refine hlen q0 v6 v7 _ (Or.inl ?_) (Or.inr hgo.1)
        repeat (refine ev_np [] rfl rfl rfl ?_)
        have hc9 := c_Rounds_hasToGo (Y := Y) d hp0 hq0 hcp' hcq' hc' (s := k / 6) (t := k % 6) (by omega) (by omega)
        rw [hgo.2] at hc9
        refine ev_vc rfl (by rfl) (by rfl) rfl (hc9) ?_
        repeat (refine ev_np [] rfl rfl rfl ?_)
        refine ev_gr rfl (by rfl) (by rfl) ?_
        repeat (refine ev_np [] rfl rfl rfl ?_)
        refine ev_am rfl (by rfl) rfl hk rfl ?_
        repeat (refine ev_np [68] rfl rfl rfl ?_)
        exact hback q0 1 _ _ h) 36 0 (F, A) rfl ⟨sA.rf, by simp, fun j hj => by show A 49 j = _; rw [hw j hj]; simp⟩
  dsimp only at h1 h2 h3 h4
  have hW1 : ∀ k, k < 36 → A1 49 k = nI (w1 n1 n2 g1 g2 R w k) := fun k hk => by rw [h3 k hk]; simp [hk]
  have hw1l : ∀ k, w1 n1 n2 g1 g2 R w k < 1000 := fun k => by
    unfold w1
    have := hwl k
    cases gok n1 n2 g1 g2 w k <;> simp <;> omega
  have hc1 : CR A1 46 (rs n1 n2 w) := hc.frame (h1 47 (by decide)) (h1 48 (by decide))
  obtain ⟨A2, k1, k2, k3⟩ := c_Rounds_dropThoseOf (Y := Y) (F := F1) (d := d + 1) (R := R) (by omega) (fun k hk => ⟨hW1 k hk, hw1l k⟩) hc1
  have hsF : sF [4502, 4503] F F1 := by
    rw [h2]
    split
    · exact gF_sF F 0 0 _
    · exact sF.rf
  refine ⟨F1, A2, ?_, (h1.mono (by decide)).tr (k2.mono (by decide)), hsF, fun k hk => by rw [k2 49 (by decide)]; exact hW1 k hk, k3.congr (fun s t hs ht => ?_), by rw [h2]; simp⟩
  · refine rn_in m_Rounds_playOne rfl ⟨rfl, rfl⟩ ?_
    show ev _ t_Rounds_playOne 0 [.ref 45, .ref p, .ref q, .int (nI R), .float 0, .float 0, .float 0, .float 0] [] _ _
    repeat (refine ev_np [6] rfl rfl rfl ?_)
    refine h4 _ ?_ (.float 0) (.float 0)
    intro v6 v7
    repeat (refine ev_np [] rfl rfl rfl ?_)
    refine ev_gr rfl (by rfl) (by rfl) ?_
    repeat (refine ev_np [] rfl rfl rfl ?_)
    refine ev_ln rfl (by rfl) ?_
    repeat (refine ev_np [] rfl rfl rfl ?_)
    refine ev_vc rfl (by rfl) (by rfl) rfl (k1) ?_
    repeat (refine ev_np [] rfl rfl rfl ?_)
    exact ev_rz rfl rfl (by cases (List.range 36).any (gok n1 n2 g1 g2 w) <;> simp [z01])
  · have h0 := hwl (6 * s + t)
    cases hgo : gok n1 n2 g1 g2 w (6 * s + t) with
    | true =>
      have e1 : w1 n1 n2 g1 g2 R w (6 * s + t) = R := by unfold w1; rw [hgo]; rfl
      have e2 : rs n1 n2 (w1 n1 n2 g1 g2 R w) s t = false := by
        unfold rs
        rw [e1]
        simp [show ¬ R = 0 by omega]
      rw [e2, e1]
      simp
    | false =>
      have e1 : w1 n1 n2 g1 g2 R w (6 * s + t) = w (6 * s + t) := by unfold w1; rw [hgo]; rfl
      have e2 : rs n1 n2 (w1 n1 n2 g1 g2 R w) s t = rs n1 n2 w s t := by
        unfold rs
        rw [e1]
      rw [e2, e1]
      simp [show ¬ w (6 * s + t) = R by omega]
end PLAY
