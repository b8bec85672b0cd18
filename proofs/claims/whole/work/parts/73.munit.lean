/-! ===== the model's unit ===== -/
def nopre (σ : List Nat) : Prop := match σ with
  | [] => True
  | c :: _ => c = 3 ∨ c = 4 ∨ c = 11
def oks : List Nat → Prop
  | [] => True
  | c :: σ => (c = 3 ∨ c = 4 → nopre σ) ∧ oks σ
def MI (N : Nat) (s : MSt) : Prop := (s.1 ≤ N ∧ s.2.2.1.length + s.2.1.length ≤ s.1) ∧ cnts s.2.1 ≤ 10 ∧ nbit s.2.2.1 ≤ 24 ∧ bins s.2.1 + (bif s.2.2.2 then 0 else 1) ≤ nbit s.2.2.1 ∧ (∀ c, c ∈ s.2.1 → 2 ≤ c ∧ c ≤ 11) ∧ oks s.2.1 ∧ (s.2.2.2 = false → nopre s.2.1)
def ME (F A : Nat → Nat → Int32) (T : Nat) (t : Nat → Nat) (i : Nat) (σ out : List Nat) : Prop := (TM F A T t ∧ MW F T t i none) ∧ PD F A σ out (cnts σ) (nbit out)
def frM (F A F' A' : Nat → Nat → Int32) : Prop := sF [6205, 6206, 6207, 6208, 6209, 6213, 6215, 6217, 6218] F F' ∧ sA [67, 68] A A'
theorem frM.tr {F A F' A' F2 A2 : Nat → Nat → Int32} (h : frM F A F' A') (g : frM F' A' F2 A2) : frM F A F2 A2 := ⟨h.1.tr g.1, h.2.tr g.2⟩
theorem frM.rf {F A : Nat → Nat → Int32} : frM F A F A := ⟨sF.rf, sA.rf⟩
theorem enc_arr {x : Nat} (h : x ≤ 2) : enc (5 + x) = 300 + x ∧ enc (8 + x) = 310 + x := by
  have : x = 0 ∨ x = 1 ∨ x = 2 := by omega
  rcases this with rfl | rfl | rfl <;> decide
theorem enc_bit {x : Nat} (h : x < 2) : enc x = x := by
  have : x = 0 ∨ x = 1 := by omega
  rcases this with rfl | rfl <;> decide
section MUN
variable {Y : Nat × (Nat → Int32)} {F A : Nat → Nat → Int32} {T N : Nat} {t : Nat → Nat} {i : Nat} {σ out : List Nat} (d : Nat)
theorem MI.ln (hN : TN T t N) (hT : T ≤ 300) {w : Bool} (h : MI N (i, σ, out, w)) : σ.length ≤ 34 ∧ out.length + σ.length ≤ 300 := by
  obtain ⟨⟨h1, h2⟩, h3, h4, h5, h6⟩ := h
  have h1 : i ≤ N := h1
  have h2 : out.length + σ.length ≤ i := h2
  have h3 : cnts σ ≤ 10 := h3
  have h4 : nbit out ≤ 24 := h4
  have h5 : bins σ + (bif w then 0 else 1) ≤ nbit out := h5
  have := len_cb σ
  have := hN.1
  omega
/-- the state stays when tokens alone are read -/
theorem PD.tk {F' : Nat → Nat → Int32} {op nb : Nat} (h : PD F A σ out op nb) (hF : sF [6205, 6206, 6207, 6208, 6209] F F') : PD F' A σ out op nb := h.frame (hF 62 13 (by decide)) (hF 62 15 (by decide)) (hF 62 17 (by decide)) (hF 62 18 (by decide)) rfl rfl
set_option maxRecDepth 20000 in
theorem mu_num (hN : TN T t N) (hT : T ≤ 300) (h : ME F A T t i σ out) (mi : MI N (i, σ, out, true)) (hn : tki T t i = 2 ∧ two T t i < 2 ∧ nbit out < 24) : ∃ F' A', xa_rn xa_ms (d + 6) n_Mo_unit [.ref 62] (hp Y F A) none (hp Y F' A') ∧ frM F A F' A' ∧ ME F' A' T t (i + 1) (settle σ (out ++ [two T t i])).1 (settle σ (out ++ [two T t i])).2 ∧ F' 62 13 = nI (settle σ (out ++ [two T t i])).2.length := by
  obtain ⟨h2, h3, h4⟩ := hn
  obtain ⟨l1, l2⟩ := mi.ln hN hT
  obtain ⟨⟨htm, hmw⟩, hpd⟩ := h
  have hv : F 62 8 = nI (two T t i) := hmw.2.2.2.2.1 (Or.inl h2)
  obtain ⟨A1, hA1⟩ : ∃ A1, A1 = va_up A 67 (upd (A 67) out.length (nI (two T t i))) := ⟨_, rfl⟩
  obtain ⟨F1, hF1⟩ : ∃ F1, F1 = uF F 62 13 (nI (out.length + 1)) := ⟨_, rfl⟩
  obtain ⟨F2, hF2⟩ : ∃ F2, F2 = uF F1 62 15 (nI (nbit out + 1)) := ⟨_, rfl⟩
  have s2 : sF [6213, 6215] F F2 := by rw [hF2, hF1]; exact (sF.up (by decide)).tr (sF.up (by decide))
  have sa1 : sA [67] A A1 := by rw [hA1]; exact sA.up (by decide)
  have t2 : TM F2 A1 T t := htm.frame (s2 62 4 (by decide)) (sa1 65 (by decide))
  have hb1 : nbit (out ++ [two T t i]) = nbit out + 1 := by rw [nbit_app, if_pos (by omega)]
  have p2 : PD F2 A1 σ (out ++ [two T t i]) (cnts σ) (nbit out + 1) := by
    obtain ⟨⟨k1, k2, k3⟩, k4, k5, k6⟩ := hpd
    refine ⟨⟨by rw [hF2, uF_n _ _ (by decide), hF1, uF_s, List.length_append]; rfl, k2.put (by rw [hA1, va_up_s, pk_us, enc_bit h3]) (fun k hk => by rw [hA1, va_up_s, pk_un hk]), by rw [hF2, uF_s]⟩, by rw [s2 62 17 (by decide)]; exact k4, k5.frame (fun k _ => by rw [sa1 68 (by decide)]), by rw [s2 62 18 (by decide)]; exact k6⟩
  obtain ⟨F3, a1, a2, a3⟩ := c_Mo_advances (Y := Y) (d + 1) t2 (i := i + 1) (by rw [s2 62 5 (by decide)]; exact hmw.2.1)
  have p3 := p2.tk (a2.mono (by decide))
  obtain ⟨F4, A4, b1, b2, b3⟩ := c_Mo_settles (Y := Y) (d + 3) σ (out ++ [two T t i]) F3 A1 (nbit out + 1) p3 mi.2.2.2.2.1 (by simp; omega) (by omega)
  have fr4 : sF [6205, 6206, 6207, 6208, 6209, 6213, 6215, 6217, 6218] F F4 := (s2.mono (by decide)).tr ((a2.mono (by decide)).tr (b2.1.mono (by decide)))
  have hnb : nbit (settle σ (out ++ [two T t i])).2 = nbit out + 1 := by
    have : ∀ (σ out : List Nat), (∀ c, c ∈ σ → 2 ≤ c ∧ c ≤ 11) → nbit (settle σ out).2 = nbit out := by
      intro σ
      induction σ with
      | nil => intro out _; rfl
      | cons c σ ih =>
        intro out hc
        simp only [settle]
        split
        · rfl
        · rw [ih _ (fun x hx => hc x (by simp [hx])), nbit_app, if_neg (by have := hc c (by simp); omega)]
          rfl
    rw [this σ _ mi.2.2.2.2.1, hb1]
  refine ⟨F4, A4, ?_, ⟨fr4, (sa1.mono (by decide)).tr (b2.2.mono (by decide))⟩, ⟨⟨htm.frame (fr4 62 4 (by decide)) ((b2.2 65 (by decide)).trans (sa1 65 (by decide))), ?_, ?_⟩, by rw [hnb]; exact b3⟩, b3.1.1⟩
  · have q13 := hpd.1.1
    have q15 := hpd.1.2.2
    refine rn_in m_Mo_unit rfl ⟨rfl, rfl⟩ ?_
    show ev _ t_Mo_unit 0 [.ref 62, .float 0, .float 0, .float 0, .float 0] [] _ _
    repeat (refine ev_np [] rfl rfl rfl ?_)
    refine ev_vc rfl (by rfl) (by rfl) rfl (c_Mo_isWell (d + 4) hmw) ?_
    repeat (refine ev_np [] rfl rfl rfl ?_)
    refine ev_gi rfl (by rfl) (by rfl) ?_
    rw [hmw.2.2.1, h2]
    repeat (refine ev_np [] rfl rfl rfl ?_)
    refine ev_gi rfl (by rfl) (by rfl) ?_
    rw [hv]
    repeat (refine ev_np [] rfl rfl rfl ?_)
    refine ev_ie (nI_ge (b := 2) h3 (by omega)) ?_
    repeat (refine ev_np [] rfl rfl rfl ?_)
    refine ev_gi rfl (by rfl) (by rfl) ?_
    rw [q15]
    repeat (refine ev_np [] rfl rfl rfl ?_)
    refine ev_ie (nI_ge (b := 24) h4 (by omega)) ?_
    repeat (refine ev_np [] rfl rfl rfl ?_)
    refine ev_gi rfl (by rfl) (by rfl) ?_
    rw [hv]
    refine ev_vc rfl (by rfl) (by rfl) rfl (c_Mo_puts (d + 4) q13 (by omega) (nI (two T t i))) ?_
    rw [← hA1, ← hF1]
    repeat (refine ev_np [] rfl rfl rfl ?_)
    refine ev_gi rfl (by rfl) (by rfl) ?_
    rw [show F1 62 15 = nI (nbit out) by rw [hF1, uF_n _ _ (by decide)]; exact q15]
    repeat (refine ev_np [] rfl rfl rfl ?_)
    refine ev_pf rfl (by rfl) ⟨by rfl, by rfl⟩ ?_
    rw [nI_1, ← hF2]
    repeat (refine ev_np [] rfl rfl rfl ?_)
    refine ev_vc rfl (by rfl) (by rfl) rfl (a1) ?_
    repeat (refine ev_np [] rfl rfl rfl ?_)
    refine ev_vc rfl (by rfl) (by rfl) rfl (b1) ?_
    exact ev_rv rfl
  · rw [b2.1 62 9 (by decide), a2 62 9 (by decide), s2 62 9 (by decide)]
    exact hmw.1
  · exact a3.frame (b2.1 62 5 (by decide)) (b2.1 62 6 (by decide)) (b2.1 62 7 (by decide)) (b2.1 62 8 (by decide))
set_option maxRecDepth 20000 in
theorem mu_head (h : ME F A T t i σ out) (ht : ∀ j, t j < 256) (hb : nbit out ≤ 24) (hn : ¬ (tki T t i = 2 ∧ two T t i < 2 ∧ nbit out < 24)) : ∀ q, ev (d + 5) t_Mo_unit 59 [.ref 62, .float 0, .float 0, .float 0, .float 0] [] (hp Y F A) q → xa_rn xa_ms (d + 6) n_Mo_unit [.ref 62] (hp Y F A) q.1 q.2 := by
  intro q hq
  obtain ⟨⟨htm, hmw⟩, hpd⟩ := h
  have q15 := hpd.1.2.2
  have hw := (tok_b (T := T) (t := t) i ht).2
  refine rn_in m_Mo_unit rfl ⟨rfl, rfl⟩ ?_
  show ev _ t_Mo_unit 0 [.ref 62, .float 0, .float 0, .float 0, .float 0] [] _ _
  repeat (refine ev_np [] rfl rfl rfl ?_)
  refine ev_vc rfl (by rfl) (by rfl) rfl (c_Mo_isWell (d + 4) hmw) ?_
  repeat (refine ev_np [] rfl rfl rfl ?_)
  refine ev_gi rfl (by rfl) (by rfl) ?_
  repeat (refine ev_np [] rfl rfl rfl ?_)
  by_cases h2 : tki T t i = 2
  · refine ev_ie (fun z => z ((hmw.2.tok (c := 5) (by decide)).mpr ((mtk_iff _).2.2.2.2.2.1.mpr h2))) ?_
    repeat (refine ev_np [] rfl rfl rfl ?_)
    refine ev_gi rfl (by rfl) (by rfl) ?_
    rw [hmw.2.2.2.2.1 (Or.inl h2)]
    repeat (refine ev_np [] rfl rfl rfl ?_)
    by_cases h3 : two T t i < 2
    · refine ev_ie (nI_ge (b := 2) h3 (by omega)) ?_
      repeat (refine ev_np [] rfl rfl rfl ?_)
      refine ev_gi rfl (by rfl) (by rfl) ?_
      rw [q15]
      repeat (refine ev_np [] rfl rfl rfl ?_)
      refine ev_it (nI_le (a := 24) (Nat.le_of_not_lt fun z => hn ⟨h2, h3, z⟩) (by omega)) ?_
      exact hq
    · refine ev_it (nI_le (a := 2) (by omega) (by omega)) ?_
      exact hq
  · refine ev_it (fun z => h2 ((mtk_iff _).2.2.2.2.2.1.mp ((hmw.2.tok (c := 5) (by decide)).mp z))) ?_
    exact hq
/-- which sign it is -/
theorem mu_sign (h : ME F A T t i σ out) (ht : ∀ j, t j < 256) : ∀ q, ev (d + 5) t_Mo_unit (bif decide (tki T t i = 60 ∨ tki T t i = 91 ∨ tki T t i = 33 ∨ tki T t i = 40) then 99 else 108) [.ref 62, .int (z01 (decide (tki T t i = 60))), .int (z01 (decide (tki T t i = 91))), .float 0, .float 0] [] (hp Y F A) q → ev (d + 5) t_Mo_unit 59 [.ref 62, .float 0, .float 0, .float 0, .float 0] [] (hp Y F A) q := by
  intro q hq
  obtain ⟨⟨htm, hmw⟩, hpd⟩ := h
  repeat (refine ev_np [] rfl rfl rfl ?_)
  refine ev_vc rfl (by rfl) (by rfl) rfl (c_Mo_isSign (d + 3) ht hmw (c := 60) (by decide) (by decide)) ?_
  repeat (refine ev_np [] rfl rfl rfl ?_)
  refine ev_vc rfl (by rfl) (by rfl) rfl (c_Mo_isSign (d + 3) ht hmw (c := 91) (by decide) (by decide)) ?_
  rw [show (none : Option Nat).isNone = true from rfl, Bool.true_and, Bool.true_and]
  by_cases e60 : tki T t i = 60
  · rw [decide_eq_true (Or.inl e60)] at hq
    rw [decide_eq_true e60] at hq ⊢
    repeat (refine ev_np [99] rfl rfl rfl ?_)
    exact hq
  · rw [decide_eq_false e60] at hq ⊢
    by_cases e91 : tki T t i = 91
    · rw [decide_eq_true (Or.inr (Or.inl e91))] at hq
      rw [decide_eq_true e91] at hq ⊢
      repeat (refine ev_np [99] rfl rfl rfl ?_)
      exact hq
    · rw [decide_eq_false e91] at hq ⊢
      repeat (refine ev_np [] rfl rfl rfl ?_)
      refine ev_vc rfl (by rfl) (by rfl) rfl (c_Mo_isSign (d + 3) ht hmw (c := 33) (by decide) (by decide)) ?_
      rw [show (none : Option Nat).isNone = true from rfl, Bool.true_and]
      by_cases e33 : tki T t i = 33
      · rw [decide_eq_true (Or.inr (Or.inr (Or.inl e33)))] at hq
        rw [decide_eq_true e33]
        repeat (refine ev_np [99] rfl rfl rfl ?_)
        exact hq
      · rw [decide_eq_false e33]
        repeat (refine ev_np [] rfl rfl rfl ?_)
        refine ev_vc rfl (by rfl) (by rfl) rfl (c_Mo_isSign (d + 3) ht hmw (c := 40) (by decide) (by decide)) ?_
        rw [show (none : Option Nat).isNone = true from rfl, Bool.true_and]
        by_cases e40 : tki T t i = 40
        · rw [decide_eq_true (Or.inr (Or.inr (Or.inr e40)))] at hq
          rw [decide_eq_true e40]
          repeat (refine ev_np [99] rfl rfl rfl ?_)
          exact hq
        · rw [decide_eq_false (fun z => by omega)] at hq
          rw [decide_eq_false e40]
          repeat (refine ev_np [108] rfl rfl rfl ?_)
          exact hq
/-- it is refused -/
theorem mu_bad (h : ME F A T t i σ out) (v1 v2 : Value) : ∃ F', sF [6205, 6206, 6207, 6208, 6209] F F' ∧ F' 62 9 = nI (tpl T t i) ∧ ev (d + 5) t_Mo_unit 108 [.ref 62, v1, v2, .float 0, .float 0] [] (hp Y F A) (none, hp Y F' A) := by
  obtain ⟨F1, r, a1, a2, a3, a4⟩ := c_Mo_takes (Y := Y) d h.1.1 h.1.2 false
  refine ⟨F1, a2, a3.1, ?_⟩
  repeat (refine ev_np [] rfl rfl rfl ?_)
  refine ev_vc rfl (by rfl) (by rfl) rfl a1 ?_
  repeat (refine ev_np [] rfl rfl rfl ?_)
  exact ev_rv rfl
/-- a sign is laid down -/
theorem SR.push {A' : Nat → Nat → Int32} {c : Nat} (h : SR A σ) (h1 : A' 68 σ.length = nI (encs c)) (h2 : ∀ k, k ≠ σ.length → A' 68 k = A 68 k) : SR A' (c :: σ) := ⟨h1, h.frame (fun k hk => h2 k (by omega))⟩
set_option maxRecDepth 20000 in
theorem mu_pre (hN : TN T t N) (hT : T ≤ 300) (h : ME F A T t i σ out) (mi : MI N (i, σ, out, true)) (h10 : cnts σ ≠ 10) (h7 : 7 ≤ tki T t i) : ∃ F2, sF [6205, 6206, 6207, 6208, 6218] F F2 ∧ (TM F2 A T t ∧ MW F2 T t (i + 1) none) ∧ PD F2 A σ out (cnts σ + 1) (nbit out) ∧ ∀ (x1 x2 : Int32) q, ev (d + 5) t_Mo_unit 134 [.ref 62, .int x1, .int x2, .int (nI (tki T t i)), .float 0] [] (hp Y F2 A) q → ev (d + 5) t_Mo_unit 99 [.ref 62, .int x1, .int x2, .float 0, .float 0] [] (hp Y F A) q := by
  obtain ⟨⟨htm, hmw⟩, hpd⟩ := h
  have hc10 : cnts σ ≤ 10 := mi.2.1
  obtain ⟨F1, hF1⟩ : ∃ F1, F1 = uF F 62 18 (nI (cnts σ + 1)) := ⟨_, rfl⟩
  have s1 : sF [6218] F F1 := by rw [hF1]; exact sF.up (by decide)
  have t1 : TM F1 A T t := htm.frame (s1 62 4 (by decide)) rfl
  obtain ⟨F2, a1, a2, a3⟩ := c_Mo_advances (Y := Y) (d + 1) t1 (i := i + 1) (by rw [s1 62 5 (by decide)]; exact hmw.2.1)
  have fr : sF [6205, 6206, 6207, 6208, 6218] F F2 := (s1.mono (by decide)).tr (a2.mono (by decide))
  refine ⟨F2, fr, ⟨htm.frame (fr 62 4 (by decide)) rfl, by rw [fr 62 9 (by decide)]; exact hmw.1, a3⟩, ?_, fun x1 x2 q hq => ?_⟩
  · obtain ⟨⟨k1, k2, k3⟩, k4, k5, k6⟩ := hpd
    exact ⟨⟨(fr 62 13 (by decide)).trans k1, k2, (fr 62 15 (by decide)).trans k3⟩, (fr 62 17 (by decide)).trans k4, k5, by rw [a2 62 18 (by decide), hF1, uF_s]⟩
  · repeat (refine ev_np [] rfl rfl rfl ?_)
    refine ev_gi rfl (by rfl) (by rfl) ?_
    rw [hpd.2.2.2]
    repeat (refine ev_np [] rfl rfl rfl ?_)
    refine ev_it (fun z => h10 ((nI_eq (b := 10) (by omega) (by omega)).mp z)) ?_
    repeat (refine ev_np [] rfl rfl rfl ?_)
    refine ev_gi rfl (by rfl) (by rfl) ?_
    rw [hmw.2.2.2.2.2 h7]
    repeat (refine ev_np [] rfl rfl rfl ?_)
    refine ev_gi rfl (by rfl) (by rfl) ?_
    rw [hpd.2.2.2]
    repeat (refine ev_np [] rfl rfl rfl ?_)
    refine ev_pf rfl (by rfl) ⟨by rfl, by rfl⟩ ?_
    rw [nI_1, ← hF1]
    repeat (refine ev_np [] rfl rfl rfl ?_)
    refine ev_vc rfl (by rfl) (by rfl) rfl (a1) ?_
    exact hq
theorem mu_push {F2 : Nat → Nat → Int32} {c : Nat} (hp2 : PD F2 A σ out (cnts σ + 1) (nbit out)) (h64 : σ.length < 64) (v1 v2 v4 : Value) : ev (d + 5) t_Mo_unit 198 [.ref 62, v1, v2, .int (nI (encs c)), v4] [] (hp Y F2 A) (none, hp Y (uF F2 62 17 (nI (σ.length + 1))) (va_up A 68 (upd (A 68) σ.length (nI (encs c))))) ∧ PD (uF F2 62 17 (nI (σ.length + 1))) (va_up A 68 (upd (A 68) σ.length (nI (encs c)))) (c :: σ) out (cnts σ + 1) (nbit out) := by
  obtain ⟨⟨k1, k2, k3⟩, k4, k5, k6⟩ := hp2
  refine ⟨?_, ⟨⟨by rw [uF_n _ _ (by decide)]; exact k1, k2.frame (va_up_n _ _ (by decide)), by rw [uF_n _ _ (by decide)]; exact k3⟩, by rw [uF_s]; rfl, k5.push (by rw [va_up_s, pk_us]) (fun k hk => by rw [va_up_s, pk_un hk]), by rw [uF_n _ _ (by decide)]; exact k6⟩⟩
  repeat (first | refine ev_np [] rfl rfl rfl ?_ | refine ev_grs [] rfl rfl (by rfl) (by rfl) ?_)
  refine ev_gi rfl (by rfl) (by rfl) ?_
  rw [k4]
  repeat (refine ev_np [] rfl rfl rfl ?_)
  refine ev_am rfl (by rfl) rfl h64 rfl ?_
  repeat (refine ev_np [] rfl rfl rfl ?_)
  refine ev_gi rfl (by rfl) (by rfl) ?_
  rw [k4]
  repeat (refine ev_np [] rfl rfl rfl ?_)
  refine ev_pf rfl (by rfl) ⟨by rfl, by rfl⟩ ?_
  rw [nI_1]
  exact ev_rv rfl
end MUN
