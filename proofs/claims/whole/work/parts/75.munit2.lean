/-! ===== the model's unit, all of it ===== -/
section MUO
variable {Y : Nat × (Nat → Int32)} {F A : Nat → Nat → Int32} {T N : Nat} {t : Nat → Nat} {i : Nat} {σ out : List Nat} (d : Nat)
theorem frM.tk {F' : Nat → Nat → Int32} (h : sF [6205, 6206, 6207, 6208, 6209] F F') : frM F A F' A := ⟨h.mono (by decide), sA.rf⟩
/-- a sign of one token is laid down -/
theorem mu_one (hN : TN T t N) (hT : T ≤ 300) (ht : ∀ j, t j < 256) (h : ME F A T t i σ out) (mi : MI N (i, σ, out, true)) (h10 : cnts σ ≠ 10) {c : Nat} (hc : tki T t i = 33 ∧ c = 2 ∨ tki T t i = 40 ∧ c = 11) : ∃ F' A', xa_rn xa_ms (d + 6) n_Mo_unit [.ref 62] (hp Y F A) none (hp Y F' A') ∧ frM F A F' A' ∧ ME F' A' T t (i + 1) (c :: σ) out := by
  obtain ⟨l1, l2⟩ := mi.ln hN hT
  obtain ⟨F2, s2, t2, p2, r2⟩ := mu_pre (Y := Y) d hN hT h mi h10 (by omega)
  obtain ⟨q1, q2⟩ := mu_push (Y := Y) (c := c) d p2 (by omega) (.int (z01 (decide (tki T t i = 60)))) (.int (z01 (decide (tki T t i = 91)))) (.float 0)
  have hen : tki T t i = encs c := by
    rcases hc with ⟨e1, e2⟩ | ⟨e1, e2⟩
    · rw [e1, e2]; rfl
    · rw [e1, e2]; rfl
  have hcn : cnts (c :: σ) = cnts σ + 1 := by
    simp only [cnts]
    rw [if_neg (by omega)]
  refine ⟨uF F2 62 17 (nI (σ.length + 1)), va_up A 68 (upd (A 68) σ.length (nI (encs c))), mu_head d h ht mi.2.2.1 (fun z => by omega) (none, _) (mu_sign d h ht _ ?_), ⟨(s2.mono (by decide)).tr (sF.up (by decide)), sA.up (by decide)⟩, ⟨⟨t2.1.frame (uF_n _ _ (by decide)) (va_up_n _ _ (by decide)), t2.2.frame (uF_n _ _ (by decide)) (uF_n _ _ (by decide)) (uF_n _ _ (by decide)) (uF_n _ _ (by decide)) (uF_n _ _ (by decide))⟩, by rw [hcn]; exact q2⟩⟩
  rw [decide_eq_true (show tki T t i = 60 ∨ tki T t i = 91 ∨ tki T t i = 33 ∨ tki T t i = 40 by omega)]
  refine r2 _ _ _ ?_
  rw [hen] at q1 ⊢
  rw [decide_eq_false (show ¬ encs c = 60 by omega), decide_eq_false (show ¬ encs c = 91 by omega)] at q1 ⊢
  repeat (refine ev_np [198] rfl rfl rfl ?_)
  exact q1
set_option maxRecDepth 20000 in
/-- an arrow's sign: three tokens -/
theorem mu_arr (hN : TN T t N) (hT : T ≤ 300) (ht : ∀ j, t j < 256) (h : ME F A T t i σ out) (mi : MI N (i, σ, out, true)) (h10 : cnts σ ≠ 10) {c k : Nat} (hc : tki T t i = 60 ∧ c = 62 ∧ k = 5 ∨ tki T t i = 91 ∧ c = 93 ∧ k = 8) : (∀ s', mar T t i σ out c k = .inl s' → ∃ F' A', xa_rn xa_ms (d + 6) n_Mo_unit [.ref 62] (hp Y F A) none (hp Y F' A') ∧ frM F A F' A' ∧ ME F' A' T t s'.1 s'.2.1 s'.2.2.1 ∧ s'.2.2.1 = out ∧ s'.2.2.2 = true) ∧ (∀ f, mar T t i σ out c k = .inr f → ∃ F' A', xa_rn xa_ms (d + 6) n_Mo_unit [.ref 62] (hp Y F A) none (hp Y F' A') ∧ frM F A F' A' ∧ F' 62 9 = nI (tpl T t f) ∧ F' 62 13 = nI out.length) := by
  obtain ⟨l1, l2⟩ := mi.ln hN hT
  obtain ⟨F2, s2, t2, p2, r2⟩ := mu_pre (Y := Y) d hN hT h mi h10 (by omega)
  obtain ⟨b, hb⟩ : ∃ b, b = decide (tki T t (i + 1) = 3) := ⟨_, rfl⟩
  have hb2 : decide (F2 62 6 = nI 1) = b := by
    rw [hb, vl_tok t2.2 (by decide)]
    exact decide_eq_decide.mpr (mtk_iff _).2.1
  obtain ⟨F3, r, a1, a2, a3, a4⟩ := c_Mo_takes2 (Y := Y) d t2.1 t2.2 b
  obtain ⟨b', hb'⟩ : ∃ b', b' = ((wst none b (tpl T t (i + 1))).isNone && decide (tki T t (i + 1 + 1) = c)) := ⟨_, rfl⟩
  obtain ⟨F4, r', c1, c2, c3, c4⟩ := c_Mo_takes2 (Y := Y) d a3.1 a3.2 b'
  have hs : xa_rn xa_ms (d + 5) n_Mo_isSign [.ref 62, .int (nI c)] (hp Y F3 A) (some (.int (z01 b'))) (hp Y F3 A) := by
    rw [hb']
    exact c_Mo_isSign (d + 3) ht a3.2 (by omega) (by omega)
  have p4 : PD F4 A σ out (cnts σ + 1) (nbit out) := (p2.tk a2).tk c2
  have fr4 : sF [6205, 6206, 6207, 6208, 6209, 6213, 6215, 6217, 6218] F F4 := (s2.mono (by decide)).tr ((a2.mono (by decide)).tr (c2.mono (by decide)))
  -- the run up to the last write
  have run : ∀ q, ev (d + 5) t_Mo_unit 198 [.ref 62, .int (z01 (decide (tki T t i = 60))), .int (z01 (decide (tki T t i = 91))), .int ((if k = 5 then 300 else 310) + r), .int r] [] (hp Y F4 A) q → xa_rn xa_ms (d + 6) n_Mo_unit [.ref 62] (hp Y F A) q.1 q.2 := by
    intro q hq
    refine mu_head d h ht mi.2.2.1 (fun z => by omega) q (mu_sign d h ht _ ?_)
    rw [decide_eq_true (show tki T t i = 60 ∨ tki T t i = 91 ∨ tki T t i = 33 ∨ tki T t i = 40 by omega)]
    refine r2 _ _ _ ?_
    have mid : ∀ x3 : Int32, ev (d + 5) t_Mo_unit 142 [.ref 62, .int (z01 (decide (tki T t i = 60))), .int (z01 (decide (tki T t i = 91))), .int x3, .float 0] [] (hp Y F2 A) q := by
      intro x3
      have tk : ev (d + 5) t_Mo_unit 156 [.ref 62, .int (z01 (decide (tki T t i = 60))), .int (z01 (decide (tki T t i = 91))), .int x3, .float 0] [.int (z01 b), .ref 62] (hp Y F2 A) q := by
        refine ev_vc rfl (by rfl) (by rfl) rfl (a1) ?_
        rcases hc with ⟨e1, e2, e3⟩ | ⟨e1, e2, e3⟩
        · rw [e2] at hs
          rw [if_pos e3] at hq
          rw [decide_eq_true e1] at hq ⊢
          repeat (refine ev_np [] rfl rfl rfl ?_)
          refine ev_vc rfl (by rfl) (by rfl) rfl (hs) ?_
          refine ev_vc rfl (by rfl) (by rfl) rfl (c1) ?_
          repeat (refine ev_np [198] rfl rfl rfl ?_)
          exact hq
        · rw [e2] at hs
          rw [if_neg (by omega)] at hq
          rw [decide_eq_false (show ¬ tki T t i = 60 by omega)] at hq ⊢
          repeat (refine ev_np [] rfl rfl rfl ?_)
          refine ev_vc rfl (by rfl) (by rfl) rfl (hs) ?_
          refine ev_vc rfl (by rfl) (by rfl) rfl (c1) ?_
          repeat (refine ev_np [198] rfl rfl rfl ?_)
          exact hq
      repeat (refine ev_np [] rfl rfl rfl ?_)
      refine ev_gi rfl (by rfl) (by rfl) ?_
      repeat (refine ev_np [] rfl rfl rfl ?_)
      by_cases e : F2 62 6 = nI 1
      · rw [decide_eq_true e] at hb2
        rw [← hb2] at tk
        refine ev_ie (fun z => z e) ?_
        repeat (refine ev_np [156] rfl rfl rfl ?_)
        exact tk
      · rw [decide_eq_false e] at hb2
        rw [← hb2] at tk
        refine ev_it e ?_
        repeat (refine ev_np [156] rfl rfl rfl ?_)
        exact tk
    rcases hc with ⟨e1, e2, e3⟩ | ⟨e1, e2, e3⟩
    · rw [decide_eq_true e1] at mid ⊢
      repeat (refine ev_np [142] rfl rfl rfl ?_)
      exact mid _
    · rw [decide_eq_false (show ¬ tki T t i = 60 by omega), decide_eq_true e1] at mid ⊢
      repeat (refine ev_np [142] rfl rfl rfl ?_)
      exact mid _
  constructor
  · intro s' hm
    unfold mar at hm
    split at hm
    · rename_i h3
      split at hm
      · rename_i h4
        cases hm
        have hl3 := lett h3
        have b1 : b = true := by rw [hb, decide_eq_true h3]
        have w1 : wst none b (tpl T t (i + 1)) = none := by rw [b1]; rfl
        have b2 : b' = true := by rw [hb', w1, decide_eq_true (show tki T t (i + 1 + 1) = c from h4)]; rfl
        have hr : r = nI (two T t (i + 1)) := by
          rw [a4 rfl b1]
          exact t2.2.2.2.2.2.1 (Or.inr h3)
        have hen : (if k = 5 then (300 : Int32) else 310) + r = nI (encs (k + two T t (i + 1))) := by
          obtain ⟨g1, g2⟩ := enc_arr hl3
          rw [hr]
          have he : encs (k + two T t (i + 1)) = enc (k + two T t (i + 1)) := by
            unfold encs
            rw [if_neg (by omega)]
          rw [he]
          rcases hc with ⟨e1, e2, e3⟩ | ⟨e1, e2, e3⟩
          · rw [if_pos e3, e3, g1]
            exact nI_add 300 _
          · rw [if_neg (by omega), e3, g2]
            exact nI_add 310 _
        have hcn : cnts ((k + two T t (i + 1)) :: σ) = cnts σ + 1 := by
          simp only [cnts]
          rw [if_neg (by omega)]
        obtain ⟨q1, q2⟩ := mu_push (Y := Y) (c := k + two T t (i + 1)) d p4 (by omega) (.int (z01 (decide (tki T t i = 60)))) (.int (z01 (decide (tki T t i = 91)))) (.int r)
        have w2 : wst (wst none b (tpl T t (i + 1))) b' (tpl T t (i + 1 + 1)) = none := by rw [w1, b2]; rfl
        rw [w2] at c3
        refine ⟨uF F4 62 17 (nI (σ.length + 1)), va_up A 68 (upd (A 68) σ.length (nI (encs (k + two T t (i + 1))))), run (none, _) (by rw [hen]; exact q1), ⟨fr4.tr (sF.up (by decide)), sA.up (by decide)⟩, ⟨⟨c3.1.frame (uF_n _ _ (by decide)) (va_up_n _ _ (by decide)), c3.2.frame (uF_n _ _ (by decide)) (uF_n _ _ (by decide)) (uF_n _ _ (by decide)) (uF_n _ _ (by decide)) (uF_n _ _ (by decide))⟩, by rw [hcn]; exact q2⟩, rfl, rfl⟩
      · cases hm
    · cases hm
  · intro f hm
    have hf : wst (wst none b (tpl T t (i + 1))) b' (tpl T t (i + 1 + 1)) = some (tpl T t f) := by
      unfold mar at hm
      split at hm
      · rename_i h3
        have b1 : b = true := by rw [hb, decide_eq_true h3]
        have w1 : wst none b (tpl T t (i + 1)) = none := by rw [b1]; rfl
        split at hm
        · cases hm
        · rename_i h4
          cases hm
          have b2 : b' = false := by rw [hb', w1, decide_eq_false (show ¬ tki T t (i + 1 + 1) = c from h4)]; rfl
          rw [w1, b2]
          rfl
      · rename_i h3
        cases hm
        have b1 : b = false := by rw [hb, decide_eq_false h3]
        rw [b1]
        rfl
    rw [hf] at c3
    obtain ⟨xx, hx⟩ : ∃ xx, xx = (if k = 5 then (300 : Int32) else 310) + r := ⟨_, rfl⟩
    refine ⟨uF F4 62 17 (nI (σ.length + 1)), va_up A 68 (upd (A 68) σ.length xx), run (none, _) ?_, ⟨fr4.tr (sF.up (by decide)), sA.up (by decide)⟩, by rw [uF_n _ _ (by decide)]; exact c3.2.1, by rw [uF_n _ _ (by decide)]; exact p4.1.1⟩
    have k4 := p4.2.1
    rw [← hx]
    repeat (first | refine ev_np [] rfl rfl rfl ?_ | refine ev_grs [] rfl rfl (by rfl) (by rfl) ?_)
    refine ev_gi rfl (by rfl) (by rfl) ?_
    rw [k4]
    repeat (refine ev_np [] rfl rfl rfl ?_)
    refine ev_am rfl (by rfl) rfl (by omega) rfl ?_
    repeat (refine ev_np [] rfl rfl rfl ?_)
    refine ev_gi rfl (by rfl) (by rfl) ?_
    rw [k4]
    repeat (refine ev_np [] rfl rfl rfl ?_)
    refine ev_pf rfl (by rfl) ⟨by rfl, by rfl⟩ ?_
    rw [nI_1]
    exact ev_rv rfl
/-- what a unit comes to -/
theorem mu_all (hN : TN T t N) (hT : T ≤ 300) (ht : ∀ j, t j < 256) (h : ME F A T t i σ out) (mi : MI N (i, σ, out, true)) : (∀ s', mst1 T t i σ out = .inl s' → ∃ F' A', xa_rn xa_ms (d + 6) n_Mo_unit [.ref 62] (hp Y F A) none (hp Y F' A') ∧ frM F A F' A' ∧ ME F' A' T t s'.1 s'.2.1 s'.2.2.1 ∧ (s'.2.2.2 = true → s'.2.2.1 = out) ∧ (s'.2.2.2 = false → out.length < s'.2.2.1.length)) ∧ (∀ f, mst1 T t i σ out = .inr f → ∃ F' A', xa_rn xa_ms (d + 6) n_Mo_unit [.ref 62] (hp Y F A) none (hp Y F' A') ∧ frM F A F' A' ∧ F' 62 9 = nI (tpl T t f) ∧ F' 62 13 = nI out.length) := by
  have hc10 : cnts σ ≤ 10 := mi.2.1
  have hb24 : nbit out ≤ 24 := mi.2.2.1
  by_cases hn : tki T t i = 2 ∧ two T t i < 2 ∧ nbit out < 24
  · have e : mst1 T t i σ out = .inl (i + 1, (settle σ (out ++ [two T t i])).1, (settle σ (out ++ [two T t i])).2, false) := by unfold mst1; rw [if_pos hn]
    constructor
    · intro s' hm
      rw [e] at hm
      cases hm
      obtain ⟨F1, A1, a1, a2, a3, a4⟩ := mu_num (Y := Y) d hN hT h mi hn
      refine ⟨F1, A1, a1, a2, a3, fun z => (by cases z), fun _ => ?_⟩
      have := (settle_f σ (out ++ [two T t i]) mi.2.2.2.2.1).2.2.2
      simp at this
      exact this
    · intro f hm
      rw [e] at hm
      cases hm
  have bad : ((cnts σ = 10) ∨ ¬ (tki T t i = 60 ∨ tki T t i = 91 ∨ tki T t i = 33 ∨ tki T t i = 40)) → ∃ F' A', xa_rn xa_ms (d + 6) n_Mo_unit [.ref 62] (hp Y F A) none (hp Y F' A') ∧ frM F A F' A' ∧ F' 62 9 = nI (tpl T t i) ∧ F' 62 13 = nI out.length := by
    intro hbad
    obtain ⟨F1, a1, a2, a3⟩ := mu_bad (Y := Y) d h (.int (z01 (decide (tki T t i = 60)))) (.int (z01 (decide (tki T t i = 91))))
    refine ⟨F1, A, mu_head d h ht hb24 hn (none, _) (mu_sign d h ht _ ?_), frM.tk a1, a2, by rw [a1 62 13 (by decide)]; exact h.2.1.1⟩
    by_cases e : tki T t i = 60 ∨ tki T t i = 91 ∨ tki T t i = 33 ∨ tki T t i = 40
    · rw [decide_eq_true e]
      have e10 : cnts σ = 10 := hbad.resolve_right (fun z => z e)
      repeat (refine ev_np [] rfl rfl rfl ?_)
      refine ev_gi rfl (by rfl) (by rfl) ?_
      rw [h.2.2.2.2, e10]
      repeat (refine ev_np [108] rfl rfl rfl ?_)
      exact a3
    · rw [decide_eq_false e]
      exact a3
  by_cases h10 : cnts σ = 10
  · have e : mst1 T t i σ out = .inr i := by unfold mst1; rw [if_neg hn, if_pos h10]
    constructor
    · intro s' hm
      rw [e] at hm
      cases hm
    · intro f hm
      rw [e] at hm
      cases hm
      exact bad (Or.inl h10)
  by_cases h33 : tki T t i = 33
  · have e : mst1 T t i σ out = .inl (i + 1, 2 :: σ, out, true) := by rw [mst_ne (by omega) h10, if_pos h33]
    constructor
    · intro s' hm
      rw [e] at hm
      cases hm
      obtain ⟨F1, A1, a1, a2, a3⟩ := mu_one (Y := Y) d hN hT ht h mi h10 (c := 2) (Or.inl ⟨h33, rfl⟩)
      exact ⟨F1, A1, a1, a2, a3, fun _ => rfl, fun z => by cases z⟩
    · intro f hm
      rw [e] at hm
      cases hm
  by_cases h40 : tki T t i = 40
  · have e : mst1 T t i σ out = .inl (i + 1, 11 :: σ, out, true) := by rw [mst_ne (by omega) h10, if_neg h33, if_pos h40]
    constructor
    · intro s' hm
      rw [e] at hm
      cases hm
      obtain ⟨F1, A1, a1, a2, a3⟩ := mu_one (Y := Y) d hN hT ht h mi h10 (c := 11) (Or.inr ⟨h40, rfl⟩)
      exact ⟨F1, A1, a1, a2, a3, fun _ => rfl, fun z => by cases z⟩
    · intro f hm
      rw [e] at hm
      cases hm
  by_cases h60 : tki T t i = 60
  · have e : mst1 T t i σ out = mar T t i σ out 62 5 := by rw [mst_ne (by omega) h10, if_neg h33, if_neg h40, if_pos h60]
    obtain ⟨g1, g2⟩ := mu_arr (Y := Y) d hN hT ht h mi h10 (c := 62) (k := 5) (Or.inl ⟨h60, rfl, rfl⟩)
    constructor
    · intro s' hm
      rw [e] at hm
      obtain ⟨F1, A1, a1, a2, a3, a4, a5⟩ := g1 s' hm
      exact ⟨F1, A1, a1, a2, a3, fun _ => a4, fun z => by rw [a5] at z; cases z⟩
    · intro f hm
      rw [e] at hm
      exact g2 f hm
  by_cases h91 : tki T t i = 91
  · have e : mst1 T t i σ out = mar T t i σ out 93 8 := by rw [mst_ne (by omega) h10, if_neg h33, if_neg h40, if_neg h60, if_pos h91]
    obtain ⟨g1, g2⟩ := mu_arr (Y := Y) d hN hT ht h mi h10 (c := 93) (k := 8) (Or.inr ⟨h91, rfl, rfl⟩)
    constructor
    · intro s' hm
      rw [e] at hm
      obtain ⟨F1, A1, a1, a2, a3, a4, a5⟩ := g1 s' hm
      exact ⟨F1, A1, a1, a2, a3, fun _ => a4, fun z => by rw [a5] at z; cases z⟩
    · intro f hm
      rw [e] at hm
      exact g2 f hm
  · have e : mst1 T t i σ out = .inr i := by
      unfold mst1
      rw [if_neg hn, if_neg h10, if_neg h33, if_neg h40, if_neg h60, if_neg h91]
    constructor
    · intro s' hm
      rw [e] at hm
      cases hm
    · intro f hm
      rw [e] at hm
      cases hm
      exact bad (Or.inr (fun z => by omega))
end MUO
