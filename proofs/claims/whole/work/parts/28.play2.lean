/-! ===== all rounds ===== -/
section PLAY2
variable {Y : Nat × (Nat → Int32)} {F A : Nat → Nat → Int32} {p q n1 n2 : Nat} {g1 g2 : Nat → Nat → Nat → Nat} (d : Nat)
/-- what stands of the letter and the side after R rounds -/
def YF (n1 n2 : Nat) (g1 g2 : Nat → Nat → Nat → Nat) (R : Nat) (F : Nat → Nat → Int32) : Prop :=
  F 45 2 = (if wR n1 n2 g1 g2 R 0 = 0 then -9 else nI (fl (sd g1 g2 (rs n1 n2 (wR n1 n2 g1 g2 (wR n1 n2 g1 g2 R 0 - 1))) 0 0))) ∧
  F 45 3 = (if wR n1 n2 g1 g2 R 0 = 0 then 0 else nI (sd g1 g2 (rs n1 n2 (wR n1 n2 g1 g2 (wR n1 n2 g1 g2 R 0 - 1))) 0 0 (fl (sd g1 g2 (rs n1 n2 (wR n1 n2 g1 g2 (wR n1 n2 g1 g2 R 0 - 1))) 0 0))))
theorem YF.step {R : Nat} (h : YF n1 n2 g1 g2 R F) {F' : Nat → Nat → Int32} (hF : F' = (if gok n1 n2 g1 g2 (wR n1 n2 g1 g2 R) 0 = true then gF F 0 0 (sd g1 g2 (rs n1 n2 (wR n1 n2 g1 g2 R)) 0 0) else F)) : YF n1 n2 g1 g2 (R + 1) F' := by
  have hw : wR n1 n2 g1 g2 (R + 1) 0 = bif gok n1 n2 g1 g2 (wR n1 n2 g1 g2 R) 0 then R + 1 else wR n1 n2 g1 g2 R 0 := rfl
  unfold YF
  rw [hw]
  cases hgo : gok n1 n2 g1 g2 (wR n1 n2 g1 g2 R) 0 with
  | false =>
    rw [hgo] at hF
    simp only [Bool.false_eq_true, if_false] at hF
    subst hF
    exact h
  | true =>
    rw [hgo] at hF
    simp only [if_true] at hF
    have h2 : hg (sd g1 g2 (rs n1 n2 (wR n1 n2 g1 g2 R)) 0 0) = true := by
      unfold gok at hgo
      rw [Bool.and_eq_true] at hgo
      exact hgo.2
    have h3 : F' = uF (uF F 45 2 (nI (fl (sd g1 g2 (rs n1 n2 (wR n1 n2 g1 g2 R)) 0 0)))) 45 3 (nI (sd g1 g2 (rs n1 n2 (wR n1 n2 g1 g2 R)) 0 0 (fl (sd g1 g2 (rs n1 n2 (wR n1 n2 g1 g2 R)) 0 0)))) := by
      rw [hF]
      unfold gF
      rw [h2]
      simp
    simp only [cond_true, Nat.add_sub_cancel]
    rw [if_neg (by omega), if_neg (by omega), h3, uF_s, uF_n _ _ (by omega), uF_s]
    exact ⟨rfl, rfl⟩
theorem any_false {f : Nat → Bool} {n : Nat} (h : (List.range n).any f = false) : ∀ k, k < n → f k = false := by
  intro k hk
  have := List.any_eq_false.mp h k (List.mem_range.mpr hk)
  simpa using this
theorem c_Rounds_play (hp0 : PL p) (hq0 : PL q) (hcp : CP F A p n1 g1) (hcq : CP F A q n2 g2) (h1 : 1 ≤ n1 ∧ n1 ≤ 6) (h2 : 1 ≤ n2 ∧ n2 ≤ 6) : ∃ F' A', xa_rn xa_ms (d + 6) n_Rounds_play [.ref 45, .ref p, .ref q] (hp Y F A) (some (.int (z01 (decide (wE n1 n2 g1 g2 0 = 0))))) (hp Y F' A') ∧ sA [47, 48, 49] A A' ∧ sF [4502, 4503] F F' ∧ WE A' 49 (wE n1 n2 g1 g2) ∧ YF n1 n2 g1 g2 37 F' := by
  obtain ⟨A1, a1, a2, a3⟩ := c_Pairs_fill (Y := Y) (F := F) (A := A) (d := d + 4) PR46 h1.2 h2.2
  obtain ⟨A2, hA2⟩ : ∃ A2, A2 = va_up A1 49 (fun j => if j < 36 then 0 else A1 49 j) := ⟨_, rfl⟩
  obtain ⟨F2, hF2⟩ : ∃ F2, F2 = uF (uF F 45 2 (-9)) 45 3 0 := ⟨_, rfl⟩
  have sA2 : sA [47, 48, 49] A A2 := (a2.mono (by decide)).tr (by rw [hA2]; exact sA.up (by decide))
  have sF2 : sF [4502, 4503] F F2 := by rw [hF2]; exact (sF.up (by decide)).tr (sF.up (by decide))
  have key : ∀ m R (B C : Nat → Nat → Int32) (more : Bool), R + m = 37 → sA [47, 48, 49] A C → sF [4502, 4503] F B → WE C 49 (wR n1 n2 g1 g2 R) → CR C 46 (rs n1 n2 (wR n1 n2 g1 g2 R)) → YF n1 n2 g1 g2 R B → (more = false → ∃ R0, R = R0 + 1 ∧ ∀ k, k < 36 → gok n1 n2 g1 g2 (wR n1 n2 g1 g2 R0) k = false) → ∃ F' A', sA [47, 48, 49] A A' ∧ sF [4502, 4503] F F' ∧ WE A' 49 (wE n1 n2 g1 g2) ∧ CR A' 46 (rs n1 n2 (wE n1 n2 g1 g2)) ∧ YF n1 n2 g1 g2 37 F' ∧ ∀ q0, (∀ v3 v4 : Value, ev (d + 5) t_Rounds_play 65 [.ref 45, .ref p, .ref q, v3, v4] [] (hp Y F' A') q0) → ev (d + 5) t_Rounds_play 39 [.ref 45, .ref p, .ref q, .int (z01 more), .int (nI (R + 1))] [] (hp Y B C) q0 := by
    intro m
    induction m with
    | zero =>
      intro R B C more hR hsA hsF hW hC hY hmore
      have hR37 : R = 37 := by omega
      subst hR37
      refine ⟨B, C, hsA, hsF, hW, hC, hY, fun q0 h => ?_⟩
      cases more with
      | false =>
        repeat (refine ev_np [65] rfl rfl rfl ?_)
        exact h _ _
      | true =>
        repeat (refine ev_np [65] rfl rfl rfl ?_)
        exact h _ _
    | succ m ih =>
      intro R B C more hR hsA hsF hW hC hY hmore
      cases more with
      | false =>
        obtain ⟨R0, rfl, hno⟩ := hmore rfl
        have hE : ∀ k, k < 36 → wE n1 n2 g1 g2 k = wR n1 n2 g1 g2 R0 k := fun k hk => wE_of (by omega) hno hk
        have hE1 : ∀ k, k < 36 → wR n1 n2 g1 g2 (R0 + 1) k = wR n1 n2 g1 g2 R0 k := fun k hk => wR_fix hno 1 k hk
        refine ⟨B, C, hsA, hsF, fun k hk => by rw [hE k hk, ← hE1 k hk]; exact hW k hk, hC.congr (rs_congr fun k hk => by rw [hE k hk, hE1 k hk]), ?_, fun q0 h => ?_⟩
        · unfold YF at hY ⊢
          rw [show wR n1 n2 g1 g2 37 0 = wR n1 n2 g1 g2 (R0 + 1) 0 by rw [hE1 0 (by decide)]; exact hE 0 (by decide)]
          exact hY
        · repeat (refine ev_np [65] rfl rfl rfl ?_)
          exact h _ _
      | true =>
        have hcp' : CP B C p n1 g1 := hcp.keep hp0 hsF hsA rfl
        have hcq' : CP B C q n2 g2 := hcq.keep hq0 hsF hsA rfl
        obtain ⟨B', C', b1, b2, b3, b4, b5, b6⟩ := c_Rounds_playOne (Y := Y) d hp0 hq0 hcp' hcq' (R := R + 1) (by omega) hW (fun k => by have := wR_le (n1 := n1) (n2 := n2) (g1 := g1) (g2 := g2) R k; omega) hC
        obtain ⟨F', A', c1, c2, c3, c4, c5, c6⟩ := ih (R + 1) B' C' _ (by omega) (hsA.tr b2) (hsF.tr b3) b4 b5 (hY.step b6) (fun hz => ⟨R, rfl, any_false hz⟩)
        refine ⟨F', A', c1, c2, c3, c4, c5, fun q0 h => ?_⟩
        repeat (refine ev_np [] rfl rfl rfl ?_)
        refine ev_ie (nI_nlt (a := 37) (b := R + 1) (by omega) (by omega)) ?_
        repeat (refine ev_np [] rfl rfl rfl ?_)
        refine ev_vc rfl (by rfl) (by rfl) rfl (b1) ?_
        repeat (refine ev_np [39] rfl rfl rfl ?_)
        have h9 := c6 q0 h
        rw [nI_succ (R + 1)] at h9
        exact h9
  obtain ⟨F', A', c1, c2, c3, c4, c5, c6⟩ := key 37 0 F2 A2 true rfl sA2 sF2 (fun k hk => by rw [hA2, va_up_s]; simp [hk, wR, nI_0]) ((a3.frame (by rw [hA2]; exact va_up_n _ _ (by decide)) (by rw [hA2]; exact va_up_n _ _ (by decide))).congr (fun s t _ _ => by simp [rs, wR])) (by
    unfold YF
    rw [hF2, uF_s, uF_n _ _ (by decide), uF_s]
    simp [wR]) (fun z => by cases z)
  have e00 : rs n1 n2 (wE n1 n2 g1 g2) 0 0 = decide (wE n1 n2 g1 g2 0 = 0) := by
    unfold rs
    simp [show 0 < n1 by omega, show 0 < n2 by omega]
  refine ⟨F', A', ?_, c1, c2, c3, c5⟩
  refine rn_in m_Rounds_play rfl ⟨rfl, rfl⟩ ?_
  show ev _ t_Rounds_play 0 [.ref 45, .ref p, .ref q, .float 0, .float 0] [] _ _
  repeat (refine ev_np [] rfl rfl rfl ?_)
  refine ev_gr rfl (by rfl) (by rfl) ?_
  repeat (refine ev_np [] rfl rfl rfl ?_)
  refine ev_vc rfl rfl hp0.1 rfl (c_Plan_size (d + 4) hp0) ?_
  repeat (refine ev_np [] rfl rfl rfl ?_)
  refine ev_vc rfl rfl hq0.1 rfl (c_Plan_size (d + 4) hq0) ?_
  rw [hcp.1, hcq.1]
  refine ev_vc rfl (by rfl) (by rfl) rfl (a1) ?_
  repeat (refine ev_np [] rfl rfl rfl ?_)
  refine ev_gr rfl (by rfl) (by rfl) ?_
  repeat (refine ev_np [] rfl rfl rfl ?_)
  refine ev_ca rfl (c_Arr_fill (d + 4) (v := 49) (n := 36) rfl (by decide) 0) ?_
  rw [← hA2]
  repeat (refine ev_np [] rfl rfl rfl ?_)
  refine ev_pf rfl (by rfl) ⟨by rfl, by rfl⟩ ?_
  repeat (refine ev_np [] rfl rfl rfl ?_)
  refine ev_pf rfl (by rfl) ⟨by rfl, by rfl⟩ ?_
  rw [← hF2]
  repeat (refine ev_np [39] rfl rfl rfl ?_)
  refine c6 _ ?_
  intro v3 v4
  repeat (refine ev_np [] rfl rfl rfl ?_)
  refine ev_gr rfl (by rfl) (by rfl) ?_
  repeat (refine ev_np [] rfl rfl rfl ?_)
  refine ev_vc rfl (by rfl) (by rfl) rfl (c_Pairs_has (d + 3) PR46 c4 (s := 0) (t := 0) (by decide) (by decide)) ?_
  rw [e00]
  exact ev_rz rfl rfl (by cases decide (wE n1 n2 g1 g2 0 = 0) <;> simp [z01])
theorem c_Rounds_roundOf {w : Nat → Nat} (hw : WE A 49 w) {s t : Nat} (hs : s < 6) (ht : t < 6) : xa_rn xa_ms (d + 1) n_Rounds_roundOf [.ref 45, .int (nI s), .int (nI t)] (hp Y F A) (some (.int (nI (w (6 * s + t))))) (hp Y F A) := by
  refine rn_in m_Rounds_roundOf rfl ⟨rfl, rfl⟩ ?_
  show ev _ t_Rounds_roundOf 0 [.ref 45, .int (nI s), .int (nI t)] [] _ _
  repeat (refine ev_np [] rfl rfl rfl ?_)
  refine ev_ie (nI_pos (by omega)) ?_
  repeat (refine ev_np [] rfl rfl rfl ?_)
  refine ev_ie (nI_ge (b := 6) hs (by omega)) ?_
  repeat (refine ev_np [] rfl rfl rfl ?_)
  refine ev_ie (nI_pos (by omega)) ?_
  repeat (refine ev_np [] rfl rfl rfl ?_)
  refine ev_it (nI_lt (b := 6) ht (by omega)) ?_
  repeat (refine ev_np [] rfl rfl rfl ?_)
  refine ev_gr rfl (by rfl) (by rfl) ?_
  repeat (refine ev_np [] rfl rfl rfl ?_)
  refine ev_an rfl (by rfl) (j := 6 * s + t) (by rw [show (6 : Int32) = nI 6 from rfl, pk_mul, nI_add, Nat.mul_comm]) (by omega) rfl ?_
  exact ev_ri rfl (hw _ (by omega))
theorem c_Rounds_areOne {w : Nat → Nat} (hw : WE A 49 w) (hwl : ∀ k, w k < 1000) {s t : Nat} (hs : s < 6) (ht : t < 6) : xa_rn xa_ms (d + 2) n_Rounds_areOne [.ref 45, .int (nI s), .int (nI t)] (hp Y F A) (some (.int (z01 (decide (w (6 * s + t) = 0) && decide (w (6 * t + s) = 0))))) (hp Y F A) := by
  refine rn_in m_Rounds_areOne rfl ⟨rfl, rfl⟩ ?_
  show ev _ t_Rounds_areOne 0 [.ref 45, .int (nI s), .int (nI t)] [] _ _
  repeat (refine ev_np [] rfl rfl rfl ?_)
  refine ev_vc rfl (by rfl) (by rfl) rfl (c_Rounds_roundOf d hw hs ht) ?_
  have l1 := hwl (6 * s + t)
  have l2 := hwl (6 * t + s)
  by_cases e1 : w (6 * s + t) = 0
  · rw [e1]
    repeat (refine ev_np [] rfl rfl rfl ?_)
    refine ev_vc rfl (by rfl) (by rfl) rfl (c_Rounds_roundOf d hw ht hs) ?_
    by_cases e2 : w (6 * t + s) = 0
    · rw [e2]
      repeat (refine ev_np [] rfl rfl rfl ?_)
      exact ev_rz rfl rfl (Or.inr rfl)
    · repeat (refine ev_np [] rfl rfl rfl ?_)
      refine ev_it (nI_ne0 (by omega) (by omega)) ?_
      repeat (refine ev_np [] rfl rfl rfl ?_)
      exact ev_rz rfl (by simp [e2, z01]) (by simp [e2, z01])
  · repeat (refine ev_np [] rfl rfl rfl ?_)
    refine ev_it (nI_ne0 (by omega) (by omega)) ?_
    repeat (refine ev_np [] rfl rfl rfl ?_)
    exact ev_rz rfl (by simp [e1, z01]) (by simp [e1, z01])
end PLAY2
