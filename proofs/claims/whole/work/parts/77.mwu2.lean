/-! ===== the model's wantsUnit, all of it ===== -/
section MWV
variable {Y : Nat × (Nat → Int32)} {F A : Nat → Nat → Int32} {T N : Nat} {t : Nat → Nat} {i : Nat} {σ out : List Nat} (d : Nat)
theorem wu_true (hN : TN T t N) (hT : T ≤ 300) (ht : ∀ j, t j < 256) (h : ME F A T t i σ out) (mi : MI N (i, σ, out, true)) : (∀ s', mst1 T t i σ out = .inl s' → ∃ F' A', xa_rn xa_ms (d + 7) n_Mo_wantsUnit [.ref 62, .int (z01 true)] (hp Y F A) (some (.int (z01 s'.2.2.2))) (hp Y F' A') ∧ frM F A F' A' ∧ ME F' A' T t s'.1 s'.2.1 s'.2.2.1) ∧ (∀ f, mst1 T t i σ out = .inr f → ∃ F' A' b, xa_rn xa_ms (d + 7) n_Mo_wantsUnit [.ref 62, .int (z01 true)] (hp Y F A) (some (.int (z01 b))) (hp Y F' A') ∧ frM F A F' A' ∧ F' 62 9 = nI (tpl T t f)) := by
  obtain ⟨l1, l2⟩ := mi.ln hN hT
  obtain ⟨g1, g2⟩ := mu_all (Y := Y) d hN hT ht h mi
  have h13 := h.2.1.1
  have fin : ∀ (F' A' : Nat → Nat → Int32) (n : Nat), n < 1000 → F' 62 13 = nI n → xa_rn xa_ms (d + 6) n_Mo_unit [.ref 62] (hp Y F A) none (hp Y F' A') → xa_rn xa_ms (d + 7) n_Mo_wantsUnit [.ref 62, .int (z01 true)] (hp Y F A) (some (.int (z01 (decide (n = out.length))))) (hp Y F' A') := by
    intro F' A' n hn hF hr
    refine rn_in m_Mo_wantsUnit rfl ⟨rfl, rfl⟩ ?_
    show ev _ t_Mo_wantsUnit 0 [.ref 62, .int (z01 true), .float 0] [] _ _
    repeat (refine ev_np [] rfl rfl rfl ?_)
    refine ev_gi rfl (by rfl) (by rfl) ?_
    rw [h13]
    repeat (refine ev_np [] rfl rfl rfl ?_)
    refine ev_vc rfl (by rfl) (by rfl) rfl (hr) ?_
    repeat (refine ev_np [] rfl rfl rfl ?_)
    refine ev_gi rfl (by rfl) (by rfl) ?_
    rw [hF]
    repeat (refine ev_np [] rfl rfl rfl ?_)
    by_cases e : n = out.length
    · refine ev_ie (fun z => z (by rw [e])) ?_
      repeat (refine ev_np [] rfl rfl rfl ?_)
      exact ev_rz rfl (by rw [decide_eq_true e]; rfl) (z01_b _)
    · refine ev_it (fun z => e ((nI_eq (by omega) (by omega)).mp z)) ?_
      repeat (refine ev_np [] rfl rfl rfl ?_)
      exact ev_rz rfl (by rw [decide_eq_false e]; rfl) (z01_b _)
  constructor
  · intro s' hm
    obtain ⟨F1, A1, a1, a2, a3, a4, a5⟩ := g1 s' hm
    have mi' : MI N s' := mi_step hN mi (show mstep T t (i, σ, out, true) = .inl s' from hm)
    have l3 := (MI.ln (i := s'.1) (σ := s'.2.1) (out := s'.2.2.1) (w := s'.2.2.2) hN hT mi').2
    have := fin F1 A1 s'.2.2.1.length (by omega) a3.2.1.1 a1
    refine ⟨F1, A1, ?_, a2, a3⟩
    have e : decide (s'.2.2.1.length = out.length) = s'.2.2.2 := by
      cases hw : s'.2.2.2 with
      | true => rw [a4 hw]; simp
      | false =>
        have := a5 hw
        exact decide_eq_false (by omega)
    rw [e] at this
    exact this
  · intro f hm
    obtain ⟨F1, A1, a1, a2, a3, a4⟩ := g2 f hm
    exact ⟨F1, A1, _, fin F1 A1 out.length (by omega) a4 a1, a2, a3⟩
set_option maxRecDepth 20000 in
theorem wu_bin (hN : TN T t N) (hT : T ≤ 300) (ht : ∀ j, t j < 256) (h : ME F A T t i σ out) (mi : MI N (i, σ, out, false)) (o : Bool) (hk : tki T t i = bif o then 124 else 38) : ∃ F' A', xa_rn xa_ms (d + 7) n_Mo_wantsUnit [.ref 62, .int (z01 false)] (hp Y F A) (some (.int (z01 true))) (hp Y F' A') ∧ frM F A F' A' ∧ ME F' A' T t (i + 1) ((bif o then 4 else 3) :: (popX o σ out).1) (popX o σ out).2 := by
  obtain ⟨l1, l2⟩ := mi.ln hN hT
  obtain ⟨⟨htm, hmw⟩, hpd⟩ := h
  obtain ⟨F1, A1, a1, a2, a3⟩ := wu_pop (Y := Y) d o (.int (z01 false)) σ out F A _ _ hpd mi.2.2.2.2.1 (by omega) (by omega)
  obtain ⟨⟨f1, f2, f3, f4, f5⟩, f6, f7⟩ := popX_f o σ out mi.2.2.2.2.1
  obtain ⟨σ', hσ⟩ : ∃ σ', σ' = (popX o σ out).1 := ⟨_, rfl⟩
  obtain ⟨out', ho⟩ : ∃ out', out' = (popX o σ out).2 := ⟨_, rfl⟩
  rw [← hσ, ← ho] at a2 f1
  rw [← hσ] at f6
  rw [← ho] at f2
  rw [← hσ, ← ho]
  obtain ⟨c, hc⟩ : ∃ c, c = bif o then 4 else 3 := ⟨_, rfl⟩
  rw [← hc]
  have hen : nI (bif o then 124 else 38) = nI (encs c) := by rw [hc]; cases o <;> rfl
  have hl64 : σ'.length < 64 := by
    have := len_cb σ'
    have := mi.2.1
    have hb : nbit out ≤ 24 := mi.2.2.1
    have h5 : bins σ + 1 ≤ nbit out := mi.2.2.2.1
    have h6 : bins σ' ≤ bins σ := by rw [hσ]; exact f5
    have h3 : cnts σ ≤ 10 := mi.2.1
    omega
  obtain ⟨A2, hA2⟩ : ∃ A2, A2 = va_up A1 68 (upd (A1 68) σ'.length (nI (encs c))) := ⟨_, rfl⟩
  obtain ⟨F2, hF2⟩ : ∃ F2, F2 = uF F1 62 17 (nI (σ'.length + 1)) := ⟨_, rfl⟩
  have sA2 : sA [67, 68] A A2 := (a1.2.mono (by decide)).tr (by rw [hA2]; exact sA.up (by decide))
  have sF2 : sF [6213, 6217] F F2 := a1.1.tr (by rw [hF2]; exact sF.up (by decide))
  have t2 : TM F2 A2 T t := htm.frame (sF2 62 4 (by decide)) (sA2 65 (by decide))
  have hcc : cnts (c :: σ') = cnts σ' := by
    simp only [cnts]
    rw [if_pos (by rw [hc]; cases o <;> simp)]
    rfl
  have p2 : PD F2 A2 (c :: σ') out' (cnts (c :: σ')) (nbit out') := by
    obtain ⟨⟨k1, k2, k3⟩, k4, k5, k6⟩ := a2
    rw [hcc, f6, f2]
    refine ⟨⟨by rw [hF2, uF_n _ _ (by decide)]; exact k1, k2.frame (by rw [hA2]; exact va_up_n _ _ (by decide)), by rw [hF2, uF_n _ _ (by decide)]; exact k3⟩, by rw [hF2, uF_s]; rfl, k5.push (by rw [hA2, va_up_s, pk_us]) (fun k hk => by rw [hA2, va_up_s, pk_un hk]), by rw [hF2, uF_n _ _ (by decide)]; exact k6⟩
  obtain ⟨F3, b1, b2, b3⟩ := c_Mo_advances (Y := Y) (d + 2) t2 (i := i + 1) (by rw [sF2 62 5 (by decide)]; exact hmw.2.1)
  refine ⟨F3, A2, ?_, ⟨(sF2.mono (by decide)).tr (b2.mono (by decide)), sA2⟩, ⟨⟨t2.frame (b2 62 4 (by decide)) rfl, by rw [b2 62 9 (by decide), sF2 62 9 (by decide)]; exact hmw.1, b3⟩, p2.tk (b2.mono (by decide))⟩⟩
  have hv : F 62 8 = nI (bif o then 124 else 38) := by
    rw [hmw.2.2.2.2.2 (by rw [hk]; cases o <;> decide), hk]
  have tail : ev (d + 6) t_Mo_wantsUnit 45 [.ref 62, .int (z01 false), .float 0] [] (hp Y F A) (some (.int (z01 true)), hp Y F3 A2) := by
    repeat (refine ev_np [] rfl rfl rfl ?_)
    refine ev_gi rfl (by rfl) (by rfl) ?_
    rw [hv]
    repeat (refine ev_np [50] rfl rfl rfl ?_)
    refine a3 _ ?_
    rw [hen]
    repeat (first | refine ev_np [] rfl rfl rfl ?_ | refine ev_grs [] rfl rfl (by rfl) (by rfl) ?_)
    refine ev_gi rfl (by rfl) (by rfl) ?_
    rw [a2.2.1]
    repeat (refine ev_np [] rfl rfl rfl ?_)
    refine ev_am rfl (by rfl) rfl hl64 rfl ?_
    rw [← hA2]
    repeat (refine ev_np [] rfl rfl rfl ?_)
    refine ev_gi rfl (by rfl) (by rfl) ?_
    rw [a2.2.1]
    repeat (refine ev_np [] rfl rfl rfl ?_)
    refine ev_pf rfl (by rfl) ⟨by rfl, by rfl⟩ ?_
    rw [nI_1, ← hF2]
    repeat (refine ev_np [] rfl rfl rfl ?_)
    refine ev_vc rfl (by rfl) (by rfl) rfl (b1) ?_
    repeat (refine ev_np [] rfl rfl rfl ?_)
    exact ev_rz rfl rfl (z01_b _)
  refine rn_in m_Mo_wantsUnit rfl ⟨rfl, rfl⟩ ?_
  show ev _ t_Mo_wantsUnit 0 [.ref 62, .int (z01 false), .float 0] [] _ _
  repeat (refine ev_np [] rfl rfl rfl ?_)
  refine ev_vc rfl (by rfl) (by rfl) rfl (c_Mo_isSign (d + 4) ht hmw (c := 38) (by decide) (by decide)) ?_
  rw [show (none : Option Nat).isNone = true from rfl, Bool.true_and, hk]
  cases o with
  | false =>
    repeat (refine ev_np [45] rfl rfl rfl ?_)
    exact tail
  | true =>
    repeat (refine ev_np [] rfl rfl rfl ?_)
    refine ev_vc rfl (by rfl) (by rfl) rfl (c_Mo_isSign (d + 4) ht hmw (c := 124) (by decide) (by decide)) ?_
    rw [show (none : Option Nat).isNone = true from rfl, Bool.true_and, hk]
    repeat (refine ev_np [45] rfl rfl rfl ?_)
    exact tail
end MWV
