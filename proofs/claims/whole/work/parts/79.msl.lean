/-! ===== the model's say: its loop, what is put over ===== -/
theorem relO.fl {τ out2 out : List Nat} (h : relO τ out2 out) : out = out2 ++ τ ∧ nbit out = nbit out2 ∧ ∀ c, c ∈ τ → 2 ≤ c ∧ c ≤ 10 := by
  rcases h with ⟨rfl, rfl⟩ | ⟨rfl, rfl⟩ | ⟨rfl, rfl⟩ | ⟨rfl, rfl⟩
  · exact ⟨by simp, rfl, fun c hc => by cases hc⟩
  · exact ⟨rfl, by rw [nbit_app]; rfl, fun c hc => by simp at hc; omega⟩
  · exact ⟨rfl, by rw [nbit_app]; rfl, fun c hc => by simp at hc; omega⟩
  · exact ⟨by simp, by rw [nbit_app, nbit_app]; rfl, fun c hc => by simp at hc; omega⟩
section MSL
variable {Y : Nat × (Nat → Int32)} {F A : Nat → Nat → Int32} {T N : Nat} {t : Nat → Nat} {i : Nat} {σ out : List Nat} (d : Nat)
theorem ms_begin (h : TM F A T t) : ∃ F0, sF [6200, 6205, 6206, 6207, 6208, 6209, 6213, 6215, 6217, 6218] F F0 ∧ ME F0 A T t 0 [] [] ∧ ∀ q, ev (d + 7) t_Mo_say 31 [.ref 62, .int (z01 true), .float 0] [] (hp Y F0 A) q → xa_rn xa_ms (d + 8) n_Mo_say [.ref 62] (hp Y F A) q.1 q.2 := by
  obtain ⟨G, hG⟩ : ∃ G, G = uF (uF (uF (uF (uF F 62 0 0) 62 13 0) 62 15 0) 62 17 0) 62 18 0 := ⟨_, rfl⟩
  have s0 : sF [6200, 6205, 6206, 6207, 6208, 6209, 6213, 6215, 6217, 6218] F G := by rw [hG]; exact (sF.up (by decide)).tr ((sF.up (by decide)).tr ((sF.up (by decide)).tr ((sF.up (by decide)).tr (sF.up (by decide)))))
  have tG : TM G A T t := h.frame (s0 62 4 (by decide)) rfl
  obtain ⟨F1, a1, a2, a3⟩ := c_Mo_begins (Y := Y) (d + 2) tG
  have g13 : G 62 13 = 0 := by rw [hG, uF_n _ _ (by decide), uF_n _ _ (by decide), uF_n _ _ (by decide), uF_s]
  have g15 : G 62 15 = 0 := by rw [hG, uF_n _ _ (by decide), uF_n _ _ (by decide), uF_s]
  have g17 : G 62 17 = 0 := by rw [hG, uF_n _ _ (by decide), uF_s]
  have g18 : G 62 18 = 0 := by rw [hG, uF_s]
  refine ⟨F1, s0.tr (a2.mono (by decide)), ⟨⟨tG.frame (a2 62 4 (by decide)) rfl, a3⟩, ⟨by rw [a2 62 13 (by decide), g13]; exact nI_0.symm, fun k hk => absurd hk (Nat.not_lt_zero k), by rw [a2 62 15 (by decide), g15]; exact nI_0.symm⟩, by rw [a2 62 17 (by decide), g17]; exact nI_0.symm, trivial, by rw [a2 62 18 (by decide), g18]; exact nI_0.symm⟩, fun q hq => ?_⟩
  refine rn_in m_Mo_say rfl ⟨rfl, rfl⟩ ?_
  show ev _ t_Mo_say 0 [.ref 62, .float 0, .float 0] [] _ _
  repeat (refine ev_np [] rfl rfl rfl ?_)
  refine ev_pf rfl (by rfl) ⟨by rfl, by rfl⟩ ?_
  repeat (refine ev_np [] rfl rfl rfl ?_)
  refine ev_pf rfl (by rfl) ⟨by rfl, by rfl⟩ ?_
  repeat (refine ev_np [] rfl rfl rfl ?_)
  refine ev_pf rfl (by rfl) ⟨by rfl, by rfl⟩ ?_
  repeat (refine ev_np [] rfl rfl rfl ?_)
  refine ev_pf rfl (by rfl) ⟨by rfl, by rfl⟩ ?_
  repeat (refine ev_np [] rfl rfl rfl ?_)
  refine ev_pf rfl (by rfl) ⟨by rfl, by rfl⟩ ?_
  rw [← hG]
  repeat (refine ev_np [] rfl rfl rfl ?_)
  refine ev_vc rfl (by rfl) (by rfl) rfl (a1) ?_
  repeat (refine ev_np [31] rfl rfl rfl ?_)
  exact hq
/-- a turn -/
theorem ms_turn {w b : Bool} {F' A' : Nat → Nat → Int32} (h : ME F A T t i σ out) (hz : w = false → tki T t i ≠ 0) (c : xa_rn xa_ms (d + 7) n_Mo_wantsUnit [.ref 62, .int (z01 w)] (hp Y F A) (some (.int (z01 b))) (hp Y F' A')) (v2 : Value) : ∀ q, ev (d + 7) t_Mo_say 31 [.ref 62, .int (z01 b), v2] [] (hp Y F' A') q → ev (d + 7) t_Mo_say 31 [.ref 62, .int (z01 w), v2] [] (hp Y F A) q := by
  intro q hq
  cases w with
  | true =>
    repeat (refine ev_np [] rfl rfl rfl ?_)
    refine ev_vc rfl (by rfl) (by rfl) rfl (c_Mo_isWell (d + 6) h.1.2) ?_
    repeat (refine ev_np [] rfl rfl rfl ?_)
    refine ev_vc rfl (by rfl) (by rfl) rfl (c) ?_
    repeat (refine ev_np [31] rfl rfl rfl ?_)
    exact hq
  | false =>
    repeat (refine ev_np [] rfl rfl rfl ?_)
    refine ev_vc rfl (by rfl) (by rfl) rfl (c_Mo_isWell (d + 6) h.1.2) ?_
    repeat (refine ev_np [] rfl rfl rfl ?_)
    refine ev_gi rfl (by rfl) (by rfl) ?_
    repeat (refine ev_np [] rfl rfl rfl ?_)
    refine ev_ie (fun z => hz rfl ((mtk_iff _).1.mp ((h.1.2.2.tok (c := 0) (by decide)).mp z))) ?_
    repeat (refine ev_np [] rfl rfl rfl ?_)
    refine ev_vc rfl (by rfl) (by rfl) rfl (c) ?_
    repeat (refine ev_np [31] rfl rfl rfl ?_)
    exact hq
theorem ms_loop (hN : TN T t N) (hT : T ≤ 300) (ht : ∀ j, t j < 256) {s s' : MSt} (hr : Rch T t s s') (v2 : Value) : ∀ F A, ME F A T t s.1 s.2.1 s.2.2.1 → MI N s → ∃ F' A', frM F A F' A' ∧ ME F' A' T t s'.1 s'.2.1 s'.2.2.1 ∧ MI N s' ∧ ∀ q, ev (d + 7) t_Mo_say 31 [.ref 62, .int (z01 s'.2.2.2), v2] [] (hp Y F' A') q → ev (d + 7) t_Mo_say 31 [.ref 62, .int (z01 s.2.2.2), v2] [] (hp Y F A) q := by
  refine hr (fun s => ∀ F A, ME F A T t s.1 s.2.1 s.2.2.1 → MI N s → ∃ F' A', frM F A F' A' ∧ ME F' A' T t s'.1 s'.2.1 s'.2.2.1 ∧ MI N s' ∧ ∀ q, ev (d + 7) t_Mo_say 31 [.ref 62, .int (z01 s'.2.2.2), v2] [] (hp Y F' A') q → ev (d + 7) t_Mo_say 31 [.ref 62, .int (z01 s.2.2.2), v2] [] (hp Y F A) q) (fun F A h mi => ⟨F, A, frM.rf, h, mi, fun q hq => hq⟩) ?_
  intro a b hab ih F A h mi
  obtain ⟨i, σ, out, w⟩ := a
  by_cases hz : w = false ∧ tki T t i = 0
  · obtain ⟨hw, h0⟩ := hz
    subst hw
    have e : mst0 T t i σ out = .inl b := hab
    unfold mst0 at e
    by_cases h11 : 11 ∈ σ
    · rw [if_neg (fun z => z.2 h11), if_neg (by omega), if_neg (by omega), if_neg (fun z => by have := z.1; omega)] at e
      cases e
    · rw [if_pos ⟨h0, h11⟩] at e
      cases e
      exact ih F A h mi
  · have hz2 : w = false → tki T t i ≠ 0 := fun hw h0 => hz ⟨hw, h0⟩
    obtain ⟨F1, A1, c1, c2, c3⟩ := (wu_all (Y := Y) d hN hT ht h mi hz2).1 b hab
    obtain ⟨F2, A2, e1, e2, e3, e4⟩ := ih F1 A1 c3 (mi_step hN mi hab)
    exact ⟨F2, A2, c2.tr e1, e2, e3, fun q hq => ms_turn d h hz2 c1 v2 q (e4 q hq)⟩
theorem ms_fault (hN : TN T t N) (hT : T ≤ 300) (ht : ∀ j, t j < 256) {s : MSt} {f : Nat} (hf : Flt T t s f) (v2 : Value) : ∀ F A, ME F A T t s.1 s.2.1 s.2.2.1 → MI N s → ∃ F' A', frM F A F' A' ∧ ev (d + 7) t_Mo_say 31 [.ref 62, .int (z01 s.2.2.2), v2] [] (hp Y F A) (some (.int (-10 - nI (tpl T t f))), hp Y F' A') := by
  refine hf (fun s => ∀ F A, ME F A T t s.1 s.2.1 s.2.2.1 → MI N s → ∃ F' A', frM F A F' A' ∧ ev (d + 7) t_Mo_say 31 [.ref 62, .int (z01 s.2.2.2), v2] [] (hp Y F A) (some (.int (-10 - nI (tpl T t f))), hp Y F' A')) ?_ ?_
  · intro a hab F A h mi
    obtain ⟨i, σ, out, w⟩ := a
    by_cases hz : w = false ∧ tki T t i = 0
    · obtain ⟨hw, h0⟩ := hz
      subst hw
      have e : mst0 T t i σ out = .inr f := hab
      unfold mst0 at e
      by_cases h11 : 11 ∈ σ
      · rw [if_neg (fun z => z.2 h11), if_neg (by omega), if_neg (by omega), if_neg (fun z => by have := z.1; omega)] at e
        have ei : f = i := by cases e; rfl
        rw [ei]
        obtain ⟨l1, l2⟩ := mi.ln hN hT
        have m6 := mi.2.2.2.2.1
        dsimp only at m6 h
        obtain ⟨x, x1, x2⟩ := c_Mo_bracket (Y := Y) (F := F) (A := A) (d + 6) h.2.2.1 h.2.2.2.1 m6 (by omega)
        have h7 : F 62 7 = nI (tpl T t i) := h.1.2.2.2.2.1
        have hw9 : MW (uF F 62 9 (nI (tpl T t i))) T t i (some (tpl T t i)) := ⟨uF_s _ _ _ _, by have := (tpl_le (T := T) (t := t) i).2; omega⟩
        refine ⟨uF F 62 9 (nI (tpl T t i)), A, ⟨sF.up (by decide), sA.rf⟩, ?_⟩
        dsimp only
        repeat (refine ev_np [] rfl rfl rfl ?_)
        refine ev_vc rfl (by rfl) (by rfl) rfl (c_Mo_isWell (d + 6) h.1.2) ?_
        repeat (refine ev_np [] rfl rfl rfl ?_)
        refine ev_gi rfl (by rfl) (by rfl) ?_
        repeat (refine ev_np [] rfl rfl rfl ?_)
        refine ev_it ((h.1.2.2.tok (c := 0) (by decide)).mpr ((mtk_iff _).1.mpr h0)) ?_
        repeat (refine ev_np [] rfl rfl rfl ?_)
        refine ev_vc rfl (by rfl) (by rfl) rfl (c_Mo_isWell (d + 6) h.1.2) ?_
        repeat (refine ev_np [] rfl rfl rfl ?_)
        refine ev_vc rfl (by rfl) (by rfl) rfl (x1) ?_
        repeat (refine ev_np [] rfl rfl rfl ?_)
        refine ev_ie (fun z => x2.mp z h11) ?_
        repeat (refine ev_np [] rfl rfl rfl ?_)
        refine ev_gi rfl (by rfl) (by rfl) ?_
        rw [h7]
        refine ev_pf rfl (by rfl) ⟨by rfl, by rfl⟩ ?_
        repeat (refine ev_np [] rfl rfl rfl ?_)
        refine ev_vc rfl (by rfl) (by rfl) rfl (c_Mo_isWell (d + 6) hw9) ?_
        repeat (refine ev_np [] rfl rfl rfl ?_)
        refine ev_gi rfl (by rfl) (by rfl) ?_
        rw [uF_s]
        repeat (refine ev_np [] rfl rfl rfl ?_)
        exact ev_ri rfl rfl
      · rw [if_pos ⟨h0, h11⟩] at e
        cases e
    · have hz2 : w = false → tki T t i ≠ 0 := fun hw h0 => hz ⟨hw, h0⟩
      obtain ⟨F1, A1, b, c1, c2, c3⟩ := (wu_all (Y := Y) d hN hT ht h mi hz2).2 f hab
      have hw9 : MW F1 T t i (some (tpl T t f)) := ⟨c3, by have := (tpl_le (T := T) (t := t) f).2; omega⟩
      refine ⟨F1, A1, c2, ms_turn d h hz2 c1 v2 _ ?_⟩
      repeat (refine ev_np [] rfl rfl rfl ?_)
      refine ev_vc rfl (by rfl) (by rfl) rfl (c_Mo_isWell (d + 6) hw9) ?_
      repeat (refine ev_np [] rfl rfl rfl ?_)
      refine ev_vc rfl (by rfl) (by rfl) rfl (c_Mo_isWell (d + 6) hw9) ?_
      repeat (refine ev_np [] rfl rfl rfl ?_)
      refine ev_vc rfl (by rfl) (by rfl) rfl (c_Mo_isWell (d + 6) hw9) ?_
      repeat (refine ev_np [] rfl rfl rfl ?_)
      refine ev_gi rfl (by rfl) (by rfl) ?_
      rw [c3]
      repeat (refine ev_np [] rfl rfl rfl ?_)
      exact ev_ri rfl rfl
  · intro a b hab ih F A h mi
    obtain ⟨i, σ, out, w⟩ := a
    by_cases hz : w = false ∧ tki T t i = 0
    · obtain ⟨hw, h0⟩ := hz
      subst hw
      have e : mst0 T t i σ out = .inl b := hab
      unfold mst0 at e
      by_cases h11 : 11 ∈ σ
      · rw [if_neg (fun z => z.2 h11), if_neg (by omega), if_neg (by omega), if_neg (fun z => by have := z.1; omega)] at e
        cases e
      · rw [if_pos ⟨h0, h11⟩] at e
        cases e
        exact ih F A h mi
    · have hz2 : w = false → tki T t i ≠ 0 := fun hw h0 => hz ⟨hw, h0⟩
      obtain ⟨F1, A1, c1, c2, c3⟩ := (wu_all (Y := Y) d hN hT ht h mi hz2).1 b hab
      obtain ⟨F2, A2, e1, e2⟩ := ih F1 A1 c3 (mi_step hN mi hab)
      exact ⟨F2, A2, c2.tr e1, ms_turn d h hz2 c1 v2 _ e2⟩
/-- the loop's end, all well -/
theorem ms_exit (h : ME F A T t i σ out) (h0 : tki T t i = 0) (h11 : 11 ∉ σ) (hc : ∀ c, c ∈ σ → 2 ≤ c ∧ c ≤ 11) (h64 : σ.length < 64) (v2 : Value) : ∀ q, ev (d + 7) t_Mo_say 97 [.ref 62, .int (z01 false), v2] [] (hp Y F A) q → ev (d + 7) t_Mo_say 31 [.ref 62, .int (z01 false), v2] [] (hp Y F A) q := by
  intro q hq
  obtain ⟨x, x1, x2⟩ := c_Mo_bracket (Y := Y) (F := F) (A := A) (d + 6) h.2.2.1 h.2.2.2.1 hc h64
  repeat (refine ev_np [] rfl rfl rfl ?_)
  refine ev_vc rfl (by rfl) (by rfl) rfl (c_Mo_isWell (d + 6) h.1.2) ?_
  repeat (refine ev_np [] rfl rfl rfl ?_)
  refine ev_gi rfl (by rfl) (by rfl) ?_
  repeat (refine ev_np [] rfl rfl rfl ?_)
  refine ev_it ((h.1.2.2.tok (c := 0) (by decide)).mpr ((mtk_iff _).1.mpr h0)) ?_
  repeat (refine ev_np [] rfl rfl rfl ?_)
  refine ev_vc rfl (by rfl) (by rfl) rfl (c_Mo_isWell (d + 6) h.1.2) ?_
  repeat (refine ev_np [] rfl rfl rfl ?_)
  refine ev_vc rfl (by rfl) (by rfl) rfl (x1) ?_
  repeat (refine ev_np [] rfl rfl rfl ?_)
  refine ev_it (x2.mpr h11) ?_
  repeat (refine ev_np [] rfl rfl rfl ?_)
  refine ev_vc rfl (by rfl) (by rfl) rfl (c_Mo_isWell (d + 6) h.1.2) ?_
  repeat (refine ev_np [97] rfl rfl rfl ?_)
  exact hq
theorem ms_flush (v1 v2 : Value) : ∀ (σ out : List Nat) (F A : Nat → Nat → Int32) (op nb : Nat), PD F A σ out op nb → (∀ c, c ∈ σ → 2 ≤ c ∧ c ≤ 10) → out.length + σ.length ≤ 310 → σ.length < 64 → ∃ F' A', (sF [6213, 6217] F F' ∧ sA [67] A A') ∧ PD F' A' [] (out ++ σ) op nb ∧ ∀ q, ev (d + 7) t_Mo_say 130 [.ref 62, v1, v2] [] (hp Y F' A') q → ev (d + 7) t_Mo_say 97 [.ref 62, v1, v2] [] (hp Y F A) q := by
  intro σ
  induction σ with
  | nil =>
    intro out F A op nb h _ _ _
    refine ⟨F, A, ⟨sF.rf, sA.rf⟩, by rw [List.append_nil]; exact h, fun q hq => ?_⟩
    repeat (refine ev_np [] rfl rfl rfl ?_)
    refine ev_gi rfl (by rfl) (by rfl) ?_
    rw [h.2.1]
    repeat (refine ev_np [130] rfl rfl rfl ?_)
    exact hq
  | cons c σ ih =>
    intro out F A op nb h hc hl h64
    obtain ⟨c2, c10⟩ := hc c (by simp)
    have h17 : F 62 17 = nI (σ.length + 1) := h.2.1
    have h68 : A 68 σ.length = nI (encs c) := h.2.2.1.1
    have hl64 : σ.length < 64 := by simp at h64; omega
    have hp1 := h.pp (by omega)
    obtain ⟨G, hG⟩ : ∃ G, G = uF F 62 17 (nI σ.length) := ⟨_, rfl⟩
    have g13 : G 62 13 = nI out.length := by rw [hG, uF_n _ _ (by decide)]; exact h.1.1
    have g17 : G 62 17 = nI σ.length := by rw [hG, uF_s]
    rw [← hG] at hp1
    obtain ⟨F3, A3, a1, a2, a3⟩ := ih (out ++ [c]) _ _ op nb hp1 (fun x hx => hc x (by simp [hx])) (by simp at hl ⊢; omega) hl64
    have sG : sF [6213, 6217] F (uF G 62 13 (nI (out.length + 1))) := by rw [hG]; exact (sF.up (by decide)).tr (sF.up (by decide))
    refine ⟨F3, A3, ⟨sG.tr a1.1, (sA.up (by decide)).tr a1.2⟩, by rw [show out ++ c :: σ = out ++ [c] ++ σ by simp]; exact a2, fun q hq => ?_⟩
    repeat (refine ev_np [] rfl rfl rfl ?_)
    refine ev_gi rfl (by rfl) (by rfl) ?_
    rw [h17]
    repeat (refine ev_np [] rfl rfl rfl ?_)
    refine ev_ie (nI_nle (by omega) (by omega)) ?_
    repeat (refine ev_np [] rfl rfl rfl ?_)
    refine ev_gi rfl (by rfl) (by rfl) ?_
    rw [h17]
    repeat (refine ev_np [] rfl rfl rfl ?_)
    rw [nI_pred]
    refine ev_pf rfl (by rfl) ⟨by rfl, by rfl⟩ ?_
    rw [← hG]
    repeat (first | refine ev_np [] rfl rfl rfl ?_ | refine ev_grs [] rfl rfl (by rfl) (by rfl) ?_)
    refine ev_gi rfl (by rfl) (by rfl) ?_
    rw [g17]
    refine ev_an rfl (by rfl) rfl hl64 rfl ?_
    rw [h68]
    refine ev_vc rfl (by rfl) (by rfl) rfl (c_Mo_puts (d + 6) g13 (by simp at hl; omega) (nI (encs c))) ?_
    repeat (refine ev_np [97] rfl rfl rfl ?_)
    exact a3 q hq
theorem ms_copy {n : Nat} (h13 : F 62 13 = nI n) (hn : n ≤ 320) (x1 : Int32) (v2 : Value) : ∃ A', sA [66] A A' ∧ (∀ j, j < n → A' 66 j = A 67 j) ∧ ∀ q, (∀ v, ev (d + 7) t_Mo_say 158 [.ref 62, .int x1, v] [] (hp Y F A') q) → ev (d + 7) t_Mo_say 130 [.ref 62, .int x1, v2] [] (hp Y F A) q := by
  obtain ⟨A', ⟨i1, i2⟩, r⟩ := lp_ex (α := Nat → Nat → Int32) (fun k B => sA [66] A B ∧ ∀ j, j < k → B 66 j = A 67 j) (fun k B q => ev (d + 7) t_Mo_say 132 [.ref 62, .int x1, .int (nI k)] [] (hp Y F B) q) n (fun k B hk hI => by
    obtain ⟨hs, hj⟩ := hI
    refine ⟨va_up B 66 (upd (B 66) k (A 67 k)), ⟨hs.tr (sA.up (by decide)), fun j hj' => ?_⟩, fun q hq => ?_⟩
    · rw [va_up_s]
      unfold upd
      by_cases e : j = k
      · rw [if_pos e, e]
      · rw [if_neg e]
        exact hj j (by omega)
    · rw [nI_succ] at hq
      repeat (refine ev_np [] rfl rfl rfl ?_)
      refine ev_gi rfl (by rfl) (by rfl) ?_
      rw [h13]
      repeat (refine ev_np [] rfl rfl rfl ?_)
      refine ev_ie (nI_ge hk (by omega)) ?_
      repeat (first | refine ev_np [] rfl rfl rfl ?_ | refine ev_grs [] rfl rfl (by rfl) (by rfl) ?_)
      refine ev_an rfl (by rfl) rfl (by omega) rfl ?_
      rw [hs 67 (by decide)]
      refine ev_am rfl (by rfl) rfl (by omega) rfl ?_
      repeat (refine ev_np [132] rfl rfl rfl ?_)
      exact hq) n 0 A (Nat.zero_add _) ⟨sA.rf, fun j hj => absurd hj (Nat.not_lt_zero j)⟩
  refine ⟨A', i1, i2, fun q hq => ?_⟩
  repeat (refine ev_np [132] rfl rfl rfl ?_)
  refine r _ ?_
  repeat (refine ev_np [] rfl rfl rfl ?_)
  refine ev_gi rfl (by rfl) (by rfl) ?_
  rw [h13]
  repeat (refine ev_np [] rfl rfl rfl ?_)
  refine ev_it (nI_le (Nat.le_refl _) (by omega)) ?_
  exact hq _
end MSL
