/-! ===== the model's wantsUnit: brackets, refusals ===== -/
section MWX
variable {Y : Nat × (Nat → Int32)} {F A : Nat → Nat → Int32} {T N : Nat} {t : Nat → Nat} {i : Nat} {σ out : List Nat} (d : Nat)
theorem wu_head (ht : ∀ j, t j < 256) (h : ME F A T t i σ out) (h38 : tki T t i ≠ 38) (h124 : tki T t i ≠ 124) : ∀ q, ev (d + 6) t_Mo_wantsUnit 147 [.ref 62, .int (z01 false), .float 0] [] (hp Y F A) q → xa_rn xa_ms (d + 7) n_Mo_wantsUnit [.ref 62, .int (z01 false)] (hp Y F A) q.1 q.2 := by
  intro q hq
  refine rn_in m_Mo_wantsUnit rfl ⟨rfl, rfl⟩ ?_
  show ev _ t_Mo_wantsUnit 0 [.ref 62, .int (z01 false), .float 0] [] _ _
  repeat (refine ev_np [] rfl rfl rfl ?_)
  refine ev_vc rfl (by rfl) (by rfl) rfl (c_Mo_isSign (d + 4) ht h.1.2 (c := 38) (by decide) (by decide)) ?_
  rw [show (none : Option Nat).isNone = true from rfl, Bool.true_and, decide_eq_false h38]
  repeat (refine ev_np [] rfl rfl rfl ?_)
  refine ev_vc rfl (by rfl) (by rfl) rfl (c_Mo_isSign (d + 4) ht h.1.2 (c := 124) (by decide) (by decide)) ?_
  rw [show (none : Option Nat).isNone = true from rfl, Bool.true_and, decide_eq_false h124]
  repeat (refine ev_np [147] rfl rfl rfl ?_)
  exact hq
set_option maxRecDepth 20000 in
theorem wu_close (hN : TN T t N) (hT : T ≤ 300) (ht : ∀ j, t j < 256) (h : ME F A T t i σ out) (mi : MI N (i, σ, out, false)) (h41 : tki T t i = 41) (h11 : 11 ∈ σ) : ∃ F' A', xa_rn xa_ms (d + 7) n_Mo_wantsUnit [.ref 62, .int (z01 false)] (hp Y F A) (some (.int (z01 false))) (hp Y F' A') ∧ frM F A F' A' ∧ ME F' A' T t (i + 1) (settle (popP σ out).1 (popP σ out).2).1 (settle (popP σ out).1 (popP σ out).2).2 := by
  obtain ⟨l1, l2⟩ := mi.ln hN hT
  have m6 := mi.2.2.2.2.1
  dsimp only at m6
  obtain ⟨x, x1, x2⟩ := c_Mo_bracket (Y := Y) (F := F) (A := A) (d + 5) h.2.2.1 h.2.2.2.1 m6 (by omega)
  obtain ⟨F1, A1, a1, a2, a3⟩ := wu_par (Y := Y) d (.int (z01 false)) (.float 0) σ out F A _ _ h.2 m6 h11 (by omega) (by omega)
  obtain ⟨p1, p2, p3, p4, p5, p6⟩ := popP_f σ out m6 h11 (mi.2.2.2.2.2.2 rfl) mi.2.2.2.2.2.1
  obtain ⟨σ', hσ⟩ : ∃ σ', σ' = (popP σ out).1 := ⟨_, rfl⟩
  obtain ⟨out', ho⟩ : ∃ out', out' = (popP σ out).2 := ⟨_, rfl⟩
  rw [← hσ, ← ho] at a2 p1
  rw [← hσ] at p3 p5 p6
  have hls := len_cb σ
  have hls' := len_cb σ'
  rw [← ho] at p2
  rw [← hσ, ← ho]
  have a17 : F1 62 17 = nI (σ'.length + 1) := a2.2.1
  have a18 : F1 62 18 = nI (cnts σ' + 1) := by rw [p6]; exact a2.2.2.2
  obtain ⟨F2, hF2⟩ : ∃ F2, F2 = uF (uF F1 62 17 (nI σ'.length)) 62 18 (nI (cnts σ')) := ⟨_, rfl⟩
  have s2 : sF [6213, 6217, 6218] F F2 := (a1.1.mono (by decide)).tr (by rw [hF2]; exact (sF.up (by decide)).tr (sF.up (by decide)))
  have t2 : TM F2 A1 T t := h.1.1.frame (s2 62 4 (by decide)) (a1.2 65 (by decide))
  have pd2 : PD F2 A1 σ' out' (cnts σ') (nbit out') := by
    obtain ⟨⟨k1, k2, k3⟩, k4, k5, k6⟩ := a2
    rw [p2]
    exact ⟨⟨by rw [hF2, uF_n _ _ (by decide), uF_n _ _ (by decide)]; exact k1, k2, by rw [hF2, uF_n _ _ (by decide), uF_n _ _ (by decide)]; exact k3⟩, by rw [hF2, uF_n _ _ (by decide), uF_s], k5.2, by rw [hF2, uF_s]⟩
  obtain ⟨F3, b1, b2, b3⟩ := c_Mo_advances (Y := Y) (d + 2) t2 (i := i + 1) (by rw [s2 62 5 (by decide)]; exact h.1.2.2.1)
  have hel : ∀ c, c ∈ σ' → 2 ≤ c ∧ c ≤ 11 := fun c hc => m6 c (p3 c hc)
  obtain ⟨F4, A4, c1, c2, c3⟩ := c_Mo_settles (Y := Y) (d + 4) σ' out' F3 A1 (nbit out') (pd2.tk (b2.mono (by decide))) hel (by omega) (by omega)
  have hnb : nbit (settle σ' out').2 = nbit out' := (settle_f σ' out' hel).1.2.1
  have fr4 : sF [6205, 6206, 6207, 6208, 6209, 6213, 6215, 6217, 6218] F F4 := (s2.mono (by decide)).tr ((b2.mono (by decide)).tr (c2.1.mono (by decide)))
  refine ⟨F4, A4, wu_head d ht h (by omega) (by omega) (some (.int (z01 false)), _) ?_, ⟨fr4, (a1.2.mono (by decide)).tr (c2.2.mono (by decide))⟩, ⟨⟨h.1.1.frame (fr4 62 4 (by decide)) ((c2.2 65 (by decide)).trans (a1.2 65 (by decide))), ?_, b3.frame (c2.1 62 5 (by decide)) (c2.1 62 6 (by decide)) (c2.1 62 7 (by decide)) (c2.1 62 8 (by decide))⟩, by rw [hnb]; exact c3⟩⟩
  · repeat (refine ev_np [] rfl rfl rfl ?_)
    refine ev_vc rfl (by rfl) (by rfl) rfl (c_Mo_isSign (d + 4) ht h.1.2 (c := 41) (by decide) (by decide)) ?_
    rw [show (none : Option Nat).isNone = true from rfl, Bool.true_and, decide_eq_true h41]
    repeat (refine ev_np [] rfl rfl rfl ?_)
    refine ev_vc rfl (by rfl) (by rfl) rfl (x1) ?_
    repeat (refine ev_np [] rfl rfl rfl ?_)
    refine ev_ie (fun z => x2.mp z h11) ?_
    refine a3 _ ?_
    repeat (refine ev_np [] rfl rfl rfl ?_)
    refine ev_gi rfl (by rfl) (by rfl) ?_
    rw [a17]
    repeat (refine ev_np [] rfl rfl rfl ?_)
    rw [nI_pred]
    refine ev_pf rfl (by rfl) ⟨by rfl, by rfl⟩ ?_
    repeat (refine ev_np [] rfl rfl rfl ?_)
    refine ev_gi rfl (by rfl) (by rfl) ?_
    rw [uF_n _ _ (by decide), a18]
    repeat (refine ev_np [] rfl rfl rfl ?_)
    rw [nI_pred]
    refine ev_pf rfl (by rfl) ⟨by rfl, by rfl⟩ ?_
    rw [← hF2]
    repeat (refine ev_np [] rfl rfl rfl ?_)
    refine ev_vc rfl (by rfl) (by rfl) rfl (b1) ?_
    repeat (refine ev_np [] rfl rfl rfl ?_)
    refine ev_vc rfl (by rfl) (by rfl) rfl (c1) ?_
    repeat (refine ev_np [] rfl rfl rfl ?_)
    exact ev_rz rfl rfl (z01_b _)
  · rw [c2.1 62 9 (by decide), b2 62 9 (by decide), s2 62 9 (by decide)]
    exact h.1.2.1
theorem wu_no (hN : TN T t N) (hT : T ≤ 300) (ht : ∀ j, t j < 256) (h : ME F A T t i σ out) (mi : MI N (i, σ, out, false)) (h38 : tki T t i ≠ 38) (h124 : tki T t i ≠ 124) (h41 : ¬ (tki T t i = 41 ∧ 11 ∈ σ)) : ∃ F' A', xa_rn xa_ms (d + 7) n_Mo_wantsUnit [.ref 62, .int (z01 false)] (hp Y F A) (some (.int (z01 false))) (hp Y F' A') ∧ frM F A F' A' ∧ F' 62 9 = nI (tpl T t i) := by
  obtain ⟨l1, l2⟩ := mi.ln hN hT
  have m6 := mi.2.2.2.2.1
  dsimp only at m6
  obtain ⟨x, x1, x2⟩ := c_Mo_bracket (Y := Y) (F := F) (A := A) (d + 5) h.2.2.1 h.2.2.2.1 m6 (by omega)
  obtain ⟨F1, r, a1, a2, a3, a4⟩ := c_Mo_takes (Y := Y) (d + 1) h.1.1 h.1.2 false
  refine ⟨F1, A, wu_head d ht h h38 h124 (some (.int (z01 false)), _) ?_, frM.tk a2, a3.1⟩
  have fin : ev (d + 6) t_Mo_wantsUnit 237 [.ref 62, .int (z01 false), .float 0] [] (hp Y F A) (some (.int (z01 false)), hp Y F1 A) := by
    repeat (refine ev_np [] rfl rfl rfl ?_)
    refine ev_vc rfl (by rfl) (by rfl) rfl a1 ?_
    repeat (refine ev_np [] rfl rfl rfl ?_)
    exact ev_rz rfl rfl (z01_b _)
  repeat (refine ev_np [] rfl rfl rfl ?_)
  refine ev_vc rfl (by rfl) (by rfl) rfl (c_Mo_isSign (d + 4) ht h.1.2 (c := 41) (by decide) (by decide)) ?_
  rw [show (none : Option Nat).isNone = true from rfl, Bool.true_and]
  by_cases e : tki T t i = 41
  · rw [decide_eq_true e]
    repeat (refine ev_np [] rfl rfl rfl ?_)
    refine ev_vc rfl (by rfl) (by rfl) rfl (x1) ?_
    repeat (refine ev_np [] rfl rfl rfl ?_)
    refine ev_it (x2.mpr (fun z => h41 ⟨e, z⟩)) ?_
    exact fin
  · rw [decide_eq_false e]
    repeat (refine ev_np [237] rfl rfl rfl ?_)
    exact fin
/-- a turn of the model's loop -/
theorem wu_all (hN : TN T t N) (hT : T ≤ 300) (ht : ∀ j, t j < 256) {w : Bool} (h : ME F A T t i σ out) (mi : MI N (i, σ, out, w)) (hz : w = false → tki T t i ≠ 0) : (∀ s', mstep T t (i, σ, out, w) = .inl s' → ∃ F' A', xa_rn xa_ms (d + 7) n_Mo_wantsUnit [.ref 62, .int (z01 w)] (hp Y F A) (some (.int (z01 s'.2.2.2))) (hp Y F' A') ∧ frM F A F' A' ∧ ME F' A' T t s'.1 s'.2.1 s'.2.2.1) ∧ (∀ f, mstep T t (i, σ, out, w) = .inr f → ∃ F' A' b, xa_rn xa_ms (d + 7) n_Mo_wantsUnit [.ref 62, .int (z01 w)] (hp Y F A) (some (.int (z01 b))) (hp Y F' A') ∧ frM F A F' A' ∧ F' 62 9 = nI (tpl T t f)) := by
  cases w with
  | true => exact wu_true d hN hT ht h mi
  | false =>
    have h0 := hz rfl
    have hst : mstep T t (i, σ, out, false) = mst0 T t i σ out := rfl
    rw [hst]
    by_cases h38 : tki T t i = 38
    · have e : mst0 T t i σ out = .inl (i + 1, 3 :: (popA σ out).1, (popA σ out).2, true) := by unfold mst0; rw [if_neg (fun z => h0 z.1), if_pos h38]
      rw [e]
      refine ⟨fun s' hm => ?_, fun f hm => by cases hm⟩
      cases hm
      obtain ⟨F1, A1, a1, a2, a3⟩ := wu_bin (Y := Y) d hN hT ht h mi false h38
      rw [popX_A] at a3
      exact ⟨F1, A1, a1, a2, a3⟩
    by_cases h124 : tki T t i = 124
    · have e : mst0 T t i σ out = .inl (i + 1, 4 :: (popO σ out).1, (popO σ out).2, true) := by unfold mst0; rw [if_neg (fun z => h0 z.1), if_neg h38, if_pos h124]
      rw [e]
      refine ⟨fun s' hm => ?_, fun f hm => by cases hm⟩
      cases hm
      obtain ⟨F1, A1, a1, a2, a3⟩ := wu_bin (Y := Y) d hN hT ht h mi true h124
      rw [popX_O] at a3
      exact ⟨F1, A1, a1, a2, a3⟩
    by_cases h41 : tki T t i = 41 ∧ 11 ∈ σ
    · have e : mst0 T t i σ out = .inl (i + 1, (settle (popP σ out).1 (popP σ out).2).1, (settle (popP σ out).1 (popP σ out).2).2, false) := by unfold mst0; rw [if_neg (fun z => h0 z.1), if_neg h38, if_neg h124, if_pos h41]
      rw [e]
      refine ⟨fun s' hm => ?_, fun f hm => by cases hm⟩
      cases hm
      exact wu_close (Y := Y) d hN hT ht h mi h41.1 h41.2
    · have e : mst0 T t i σ out = .inr i := by unfold mst0; rw [if_neg (fun z => h0 z.1), if_neg h38, if_neg h124, if_neg h41]
      rw [e]
      refine ⟨fun s' hm => (by cases hm), fun f hm => ?_⟩
      cases hm
      obtain ⟨F1, A1, a1, a2, a3⟩ := wu_no (Y := Y) d hN hT ht h mi h38 h124 h41
      exact ⟨F1, A1, false, a1, a2, a3⟩
end MWX
