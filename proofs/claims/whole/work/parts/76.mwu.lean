/-! ===== the model's wantsUnit ===== -/
section MWU
variable {Y : Nat × (Nat → Int32)} {T N : Nat} {t : Nat → Nat} (d : Nat)
/-- signs that bind as much go over -/
theorem wu_pop (o : Bool) (x1 : Value) : ∀ (σ out : List Nat) (F A : Nat → Nat → Int32) (op nb : Nat), PD F A σ out op nb → (∀ c, c ∈ σ → 2 ≤ c ∧ c ≤ 11) → out.length + σ.length ≤ 310 → σ.length < 64 → ∃ F' A', (sF [6213, 6217] F F' ∧ sA [67] A A') ∧ PD F' A' (popX o σ out).1 (popX o σ out).2 op nb ∧ ∀ q, ev (d + 6) t_Mo_wantsUnit 121 [.ref 62, x1, .int (nI (bif o then 124 else 38))] [] (hp Y F' A') q → ev (d + 6) t_Mo_wantsUnit 50 [.ref 62, x1, .int (nI (bif o then 124 else 38))] [] (hp Y F A) q := by
  intro σ
  induction σ with
  | nil =>
    intro out F A op nb h _ _ _
    refine ⟨F, A, ⟨sF.rf, sA.rf⟩, h, fun q hq => ?_⟩
    repeat (refine ev_np [] rfl rfl rfl ?_)
    refine ev_gi rfl (by rfl) (by rfl) ?_
    rw [h.2.1]
    repeat (refine ev_np [121] rfl rfl rfl ?_)
    exact hq
  | cons c σ ih =>
    intro out F A op nb h hc hl h64
    obtain ⟨c2, c11⟩ := hc c (by simp)
    have hen := encs_le c
    obtain ⟨q1, q2, q3⟩ := encs_is c2 c11
    have h17 : F 62 17 = nI (σ.length + 1) := h.2.1
    have h68 : A 68 σ.length = nI (encs c) := h.2.2.1.1
    have hl64 : σ.length < 64 := by simp at h64; omega
    have top : ∀ q, ev (d + 6) t_Mo_wantsUnit 70 [.ref 62, x1, .int (nI (bif o then 124 else 38))] [.int 38, .int (nI (encs c))] (hp Y F A) q → ev (d + 6) t_Mo_wantsUnit 50 [.ref 62, x1, .int (nI (bif o then 124 else 38))] [] (hp Y F A) q := by
      intro q hq
      repeat (refine ev_np [] rfl rfl rfl ?_)
      refine ev_gi rfl (by rfl) (by rfl) ?_
      rw [h17]
      repeat (refine ev_np [] rfl rfl rfl ?_)
      refine ev_ie (nI_nle (by omega) (by omega)) ?_
      repeat (first | refine ev_np [] rfl rfl rfl ?_ | refine ev_grs [] rfl rfl (by rfl) (by rfl) ?_)
      refine ev_gi rfl (by rfl) (by rfl) ?_
      rw [h17]
      repeat (refine ev_np [] rfl rfl rfl ?_)
      rw [nI_pred]
      refine ev_an rfl (by rfl) rfl hl64 rfl ?_
      rw [h68]
      repeat (refine ev_np [70] rfl rfl rfl ?_)
      exact hq
    have two : ∀ q, c ≠ 3 → ev (d + 6) t_Mo_wantsUnit 86 [.ref 62, x1, .int (nI (bif o then 124 else 38))] [.int 124, .int (nI (encs c))] (hp Y F A) q → ev (d + 6) t_Mo_wantsUnit 50 [.ref 62, x1, .int (nI (bif o then 124 else 38))] [] (hp Y F A) q := by
      intro q e3 hq
      refine top q ?_
      repeat (refine ev_np [] rfl rfl rfl ?_)
      refine ev_ie (fun z => e3 (q2.mp ((nI_eq (b := 38) (by omega) (by omega)).mp z))) ?_
      repeat (first | refine ev_np [] rfl rfl rfl ?_ | refine ev_grs [] rfl rfl (by rfl) (by rfl) ?_)
      refine ev_gi rfl (by rfl) (by rfl) ?_
      rw [h17]
      repeat (refine ev_np [] rfl rfl rfl ?_)
      rw [nI_pred]
      refine ev_an rfl (by rfl) rfl hl64 rfl ?_
      rw [h68]
      repeat (refine ev_np [86] rfl rfl rfl ?_)
      exact hq
    by_cases e : c = 3 ∨ (c = 4 ∧ o = true)
    · have hs : popX o (c :: σ) out = popX o σ (out ++ [c]) := by simp only [popX]; rw [if_pos e]
      have hp1 := h.pp (by omega)
      obtain ⟨G, hG⟩ : ∃ G, G = uF F 62 17 (nI σ.length) := ⟨_, rfl⟩
      have g13 : G 62 13 = nI out.length := by rw [hG, uF_n _ _ (by decide)]; exact h.1.1
      have g17 : G 62 17 = nI σ.length := by rw [hG, uF_s]
      rw [← hG] at hp1
      obtain ⟨F3, A3, a1, a2, a3⟩ := ih (out ++ [c]) _ _ op nb hp1 (fun x hx => hc x (by simp [hx])) (by simp at hl ⊢; omega) hl64
      have sG : sF [6213, 6217] F (uF G 62 13 (nI (out.length + 1))) := by rw [hG]; exact (sF.up (by decide)).tr (sF.up (by decide))
      rw [hs]
      refine ⟨F3, A3, ⟨sG.tr a1.1, (sA.up (by decide)).tr a1.2⟩, a2, fun q hq => ?_⟩
      have pop : ev (d + 6) t_Mo_wantsUnit 95 [.ref 62, x1, .int (nI (bif o then 124 else 38))] [] (hp Y F A) q := by
        repeat (refine ev_np [] rfl rfl rfl ?_)
        refine ev_gi rfl (by rfl) (by rfl) ?_
        rw [h17]
        repeat (refine ev_np [] rfl rfl rfl ?_)
        rw [nI_pred]
        refine ev_pf rfl (by rfl) ⟨by rfl, by rfl⟩ ?_
        rw [← hG]
        repeat (first | refine ev_np [] rfl rfl rfl ?_ | refine ev_grs [] rfl rfl (by rfl) (by rfl) ?_)
        refine ev_gi rfl (by rfl) (by rfl) ?_
        rw [g17]
        refine ev_an rfl (by rfl) rfl hl64 rfl ?_
        rw [h68]
        refine ev_vc rfl (by rfl) (by rfl) rfl (c_Mo_puts (d + 5) g13 (by simp at hl; omega) (nI (encs c))) ?_
        repeat (refine ev_np [50] rfl rfl rfl ?_)
        exact a3 q hq
      by_cases e3 : c = 3
      · refine top q ?_
        repeat (refine ev_np [] rfl rfl rfl ?_)
        refine ev_it (by rw [q2.mpr e3]; rfl) ?_
        exact pop
      · have e4 : c = 4 ∧ o = true := e.resolve_left e3
        refine two q e3 ?_
        repeat (refine ev_np [] rfl rfl rfl ?_)
        refine ev_ie (fun z => z (by rw [q3.mpr e4.1]; rfl)) ?_
        rw [e4.2] at pop ⊢
        repeat (refine ev_np [95] rfl rfl rfl ?_)
        exact pop
    · have hs : popX o (c :: σ) out = (c :: σ, out) := by simp only [popX]; rw [if_neg e]
      rw [hs]
      refine ⟨F, A, ⟨sF.rf, sA.rf⟩, h, fun q hq => two q (fun z => e (Or.inl z)) ?_⟩
      repeat (refine ev_np [] rfl rfl rfl ?_)
      by_cases e4 : c = 4
      · have ho : o = false := by
          cases o with
          | false => rfl
          | true => exact absurd (Or.inr ⟨e4, rfl⟩) e
        refine ev_ie (fun z => z (by rw [q3.mpr e4]; rfl)) ?_
        rw [ho] at hq ⊢
        repeat (refine ev_np [121] rfl rfl rfl ?_)
        exact hq
      · refine ev_it (fun z => e4 (q3.mp ((nI_eq (b := 124) (by omega) (by omega)).mp z))) ?_
        exact hq
/-- down to the bracket -/
theorem wu_par (x1 x2 : Value) : ∀ (σ out : List Nat) (F A : Nat → Nat → Int32) (op nb : Nat), PD F A σ out op nb → (∀ c, c ∈ σ → 2 ≤ c ∧ c ≤ 11) → 11 ∈ σ → out.length + σ.length ≤ 310 → σ.length < 64 → ∃ F' A', (sF [6213, 6217] F F' ∧ sA [67] A A') ∧ PD F' A' (11 :: (popP σ out).1) (popP σ out).2 op nb ∧ ∀ q, ev (d + 6) t_Mo_wantsUnit 207 [.ref 62, x1, x2] [] (hp Y F' A') q → ev (d + 6) t_Mo_wantsUnit 165 [.ref 62, x1, x2] [] (hp Y F A) q := by
  intro σ
  induction σ with
  | nil =>
    intro out F A op nb h _ hm
    cases hm
  | cons c σ ih =>
    intro out F A op nb h hc hm hl h64
    obtain ⟨c2, c11⟩ := hc c (by simp)
    have hen := encs_le c
    obtain ⟨q1, q2, q3⟩ := encs_is c2 c11
    have h17 : F 62 17 = nI (σ.length + 1) := h.2.1
    have h68 : A 68 σ.length = nI (encs c) := h.2.2.1.1
    have hl64 : σ.length < 64 := by simp at h64; omega
    by_cases e : c = 11
    · have hs : popP (c :: σ) out = (σ, out) := by simp only [popP]; rw [if_pos e]
      rw [hs]
      refine ⟨F, A, ⟨sF.rf, sA.rf⟩, by rw [← e]; exact h, fun q hq => ?_⟩
      repeat (first | refine ev_np [] rfl rfl rfl ?_ | refine ev_grs [] rfl rfl (by rfl) (by rfl) ?_)
      refine ev_gi rfl (by rfl) (by rfl) ?_
      rw [h17]
      repeat (refine ev_np [] rfl rfl rfl ?_)
      rw [nI_pred]
      refine ev_an rfl (by rfl) rfl hl64 rfl ?_
      rw [h68]
      repeat (refine ev_np [] rfl rfl rfl ?_)
      refine ev_it (by rw [q1.mpr e]; rfl) ?_
      exact hq
    · have hs : popP (c :: σ) out = popP σ (out ++ [c]) := by simp only [popP]; rw [if_neg e]
      have hm2 : 11 ∈ σ := by
        rcases List.mem_cons.mp hm with z | z
        · exact absurd z.symm e
        · exact z
      have hp1 := h.pp e
      obtain ⟨G, hG⟩ : ∃ G, G = uF F 62 17 (nI σ.length) := ⟨_, rfl⟩
      have g13 : G 62 13 = nI out.length := by rw [hG, uF_n _ _ (by decide)]; exact h.1.1
      have g17 : G 62 17 = nI σ.length := by rw [hG, uF_s]
      rw [← hG] at hp1
      obtain ⟨F3, A3, a1, a2, a3⟩ := ih (out ++ [c]) _ _ op nb hp1 (fun x hx => hc x (by simp [hx])) hm2 (by simp at hl ⊢; omega) hl64
      have sG : sF [6213, 6217] F (uF G 62 13 (nI (out.length + 1))) := by rw [hG]; exact (sF.up (by decide)).tr (sF.up (by decide))
      rw [hs]
      refine ⟨F3, A3, ⟨sG.tr a1.1, (sA.up (by decide)).tr a1.2⟩, a2, fun q hq => ?_⟩
      repeat (first | refine ev_np [] rfl rfl rfl ?_ | refine ev_grs [] rfl rfl (by rfl) (by rfl) ?_)
      refine ev_gi rfl (by rfl) (by rfl) ?_
      rw [h17]
      repeat (refine ev_np [] rfl rfl rfl ?_)
      rw [nI_pred]
      refine ev_an rfl (by rfl) rfl hl64 rfl ?_
      rw [h68]
      repeat (refine ev_np [] rfl rfl rfl ?_)
      refine ev_ie (fun z => e (q1.mp ((nI_eq (b := 40) (by omega) (by omega)).mp z))) ?_
      repeat (refine ev_np [] rfl rfl rfl ?_)
      refine ev_gi rfl (by rfl) (by rfl) ?_
      rw [h17]
      repeat (refine ev_np [] rfl rfl rfl ?_)
      rw [nI_pred]
      refine ev_pf rfl (by rfl) ⟨by rfl, by rfl⟩ ?_
      rw [← hG]
      repeat (first | refine ev_np [] rfl rfl rfl ?_ | refine ev_grs [] rfl rfl (by rfl) (by rfl) ?_)
      refine ev_gi rfl (by rfl) (by rfl) ?_
      rw [g17]
      refine ev_an rfl (by rfl) rfl hl64 rfl ?_
      rw [h68]
      refine ev_vc rfl (by rfl) (by rfl) rfl (c_Mo_puts (d + 5) g13 (by simp at hl; omega) (nI (encs c))) ?_
      repeat (refine ev_np [165] rfl rfl rfl ?_)
      exact a3 q hq
end MWU
