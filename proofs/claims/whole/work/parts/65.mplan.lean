/-! ===== the model reads a plan ===== -/
section MPL
variable {Y : Nat × (Nat → Int32)} {F A : Nat → Nat → Int32} {T : Nat} {t : Nat → Nat} {i : Nat} {w : Option Nat} (d : Nat)
/-- the model's state of reading: the text, the token, the fault -/
def MV (F A : Nat → Nat → Int32) (T : Nat) (t : Nat → Nat) (i : Nat) (w : Option Nat) : Prop := TM F A T t ∧ MW F T t i w
theorem MV.fr {A' : Nat → Nat → Int32} (h : MV F A T t i w) (h65 : A' 65 = A 65) : MV F A' T t i w := ⟨h.1.frame rfl h65, h.2⟩
theorem vl_tok (h : MW F T t i none) {c : Nat} (hc : c < 100) : decide (F 62 6 = nI c) = decide (mtk (tki T t i) = c) := by
  have := h.2.tok hc
  by_cases e : mtk (tki T t i) = c
  · rw [decide_eq_true e, decide_eq_true (this.mpr e)]
  · rw [decide_eq_false e, decide_eq_false (fun z => e (this.mp z))]
/-- the sites of plan: from one takes to the next -/
theorem mp_s1 (h : MV F A T t i w) : ∃ F' b, sF [6205, 6206, 6207, 6208, 6209] F F' ∧ (w = none → b = hb0 T t i) ∧ MV F' A T t (i + 1) (wst w b (tpl T t i)) ∧ ∀ (x : Value) (v2 v3 v4 v5 v6 v7 v8 : Value) q, ev (d + 5) t_Mo_plan 38 [.ref 62, x, v2, v3, v4, v5, v6, v7, v8] [] (hp Y F' A) q → ev (d + 5) t_Mo_plan 20 [.ref 62, x, v2, v3, v4, v5, v6, v7, v8] [] (hp Y F A) q := by
  obtain ⟨b, hb⟩ : ∃ b, b = decide (F 62 6 = nI 2) := ⟨_, rfl⟩
  obtain ⟨F1, r, a1, a2, a3, a4⟩ := c_Mo_takes2 (Y := Y) d h.1 h.2 b
  refine ⟨F1, b, a2, fun hw => ?_, a3, fun x v2 v3 v4 v5 v6 v7 v8 q hq => ?_⟩
  · subst hw
    rw [hb, vl_tok h.2 (by decide)]
    unfold hb0
    exact decide_eq_decide.mpr (mtk_iff _).2.2.1
  · have fin : ev (d + 5) t_Mo_plan 34 [.ref 62, x, v2, v3, v4, v5, v6, v7, v8] [.int (z01 b), .ref 62] (hp Y F A) q := by
      refine ev_vc rfl (by rfl) (by rfl) rfl (a1) ?_
      repeat (refine ev_np [38] rfl rfl rfl ?_)
      exact hq
    repeat (refine ev_np [] rfl rfl rfl ?_)
    refine ev_gi rfl (by rfl) (by rfl) ?_
    repeat (refine ev_np [] rfl rfl rfl ?_)
    by_cases e : F 62 6 = nI 2
    · rw [decide_eq_true e] at hb
      rw [hb] at fin
      refine ev_ie (fun z => z e) ?_
      repeat (refine ev_np [34] rfl rfl rfl ?_)
      exact fin
    · rw [decide_eq_false e] at hb
      rw [hb] at fin
      refine ev_it e ?_
      repeat (refine ev_np [34] rfl rfl rfl ?_)
      exact fin
theorem mp_s2 (ht : ∀ j, t j < 256) (h : MV F A T t i w) : ∃ F' b r, sF [6205, 6206, 6207, 6208, 6209] F F' ∧ (w = none → b = hb1 T t i) ∧ MV F' A T t (i + 1) (wst w b (tpl T t i)) ∧ (w = none → b = true → r = nI (two T t i)) ∧ ∀ (x : Value) (x2 : Int32) (v3 v4 v5 v6 v7 v8 : Value) q, ev (d + 5) t_Mo_plan 69 [.ref 62, x, .int x2, .int r, v4, v5, v6, v7, v8] [] (hp Y F' A) q → ev (d + 5) t_Mo_plan 38 [.ref 62, x, .int x2, v3, v4, v5, v6, v7, v8] [] (hp Y F A) q := by
  obtain ⟨b, hb⟩ : ∃ b, b = (decide (F 62 6 = nI 5) && (decide (¬ F 62 8 < 1) && decide (¬ (6 : Int32) < F 62 8))) := ⟨_, rfl⟩
  obtain ⟨F1, r, a1, a2, a3, a4⟩ := c_Mo_takes2 (Y := Y) d h.1 h.2 b
  have hbn : w = none → b = hb1 T t i := fun hw => by
    subst hw
    rw [hb, vl_tok h.2 (by decide)]
    unfold hb1
    by_cases e : tki T t i = 2
    · have e5 : mtk (tki T t i) = 5 := (mtk_iff _).2.2.2.2.2.1.mpr e
      have htw := (tok_b (T := T) (t := t) i ht).2
      rw [decide_eq_true e5, h.2.2.2.2.2.1 (Or.inl e), Bool.true_and]
      rw [Bool.eq_iff_iff]
      simp only [Bool.and_eq_true, decide_eq_true_eq]
      rw [show (1 : Int32) = nI 1 from rfl, show (6 : Int32) = nI 6 from rfl, nI_ltI (by omega) (by omega), nI_ltI (by omega) (by omega)]
      omega
    · rw [decide_eq_false (fun z => e ((mtk_iff _).2.2.2.2.2.1.mp z)), Bool.false_and, decide_eq_false (fun z => e z.1)]
  refine ⟨F1, b, r, a2, hbn, a3, fun hw h1 => ?_, fun x x2 v3 v4 v5 v6 v7 v8 q hq => ?_⟩
  · rw [a4 hw h1]
    subst hw
    have := hbn rfl
    rw [h1] at this
    unfold hb1 at this
    exact h.2.2.2.2.2.1 (Or.inl (of_decide_eq_true this.symm).1)
  · have fin : ev (d + 5) t_Mo_plan 65 [.ref 62, x, .int x2, v3, v4, v5, v6, v7, v8] [.int (z01 b), .ref 62] (hp Y F A) q := by
      refine ev_vc rfl (by rfl) (by rfl) rfl (a1) ?_
      repeat (refine ev_np [69] rfl rfl rfl ?_)
      exact hq
    repeat (refine ev_np [] rfl rfl rfl ?_)
    refine ev_gi rfl (by rfl) (by rfl) ?_
    repeat (refine ev_np [] rfl rfl rfl ?_)
    by_cases e : F 62 6 = nI 5
    · rw [decide_eq_true e, Bool.true_and] at hb
      refine ev_ie (fun z => z e) ?_
      repeat (refine ev_np [] rfl rfl rfl ?_)
      refine ev_gi rfl (by rfl) (by rfl) ?_
      repeat (refine ev_np [] rfl rfl rfl ?_)
      refine ev_ca rfl (c_Mo_in (d + 4) (F 62 8) 1 6) ?_
      rw [← hb]
      cases hb2 : b with
      | true =>
        rw [hb2] at fin
        repeat (refine ev_np [65] rfl rfl rfl ?_)
        exact fin
      | false =>
        rw [hb2] at fin
        repeat (refine ev_np [65] rfl rfl rfl ?_)
        exact fin
    · rw [decide_eq_false e, Bool.false_and] at hb
      rw [hb] at fin
      refine ev_it e ?_
      repeat (refine ev_np [65] rfl rfl rfl ?_)
      exact fin
theorem mp_s3 (h : MV F A T t i w) : ∃ F' b, sF [6205, 6206, 6207, 6208, 6209] F F' ∧ (w = none → b = pb4 T t i) ∧ MV F' A T t (i + 1) (wst w b (tpl T t i)) ∧ ∀ (x v2 v3 v4 v5 v6 v7 v8 : Value) q, ev (d + 5) t_Mo_plan 80 [.ref 62, x, v2, v3, v4, v5, v6, v7, v8] [] (hp Y F' A) q → ev (d + 5) t_Mo_plan 69 [.ref 62, x, v2, v3, v4, v5, v6, v7, v8] [] (hp Y F A) q := by
  obtain ⟨b, hb⟩ : ∃ b, b = (w.isNone && decide (tki T t i = 59)) := ⟨_, rfl⟩
  obtain ⟨F1, r, a1, a2, a3, a4⟩ := c_Mo_takes2 (Y := Y) d h.1 h.2 b
  refine ⟨F1, b, a2, fun hw => ?_, a3, fun x v2 v3 v4 v5 v6 v7 v8 q hq => ?_⟩
  · subst hw
    rw [hb]
    rfl
  · repeat (refine ev_np [] rfl rfl rfl ?_)
    refine ev_vc rfl (by rfl) (by rfl) rfl (c_Mo_isSign (d + 3) h.1.2.2.2 h.2 (c := 59) (by decide) (by decide)) ?_
    rw [← hb]
    refine ev_vc rfl (by rfl) (by rfl) rfl (a1) ?_
    repeat (refine ev_np [80] rfl rfl rfl ?_)
    exact hq
theorem mp_s4 (h : MV F A T t i w) : ∃ F' b, sF [6205, 6206, 6207, 6208, 6209] F F' ∧ (w = none → b = pb0 T t i) ∧ MV F' A T t (i + 1) (wst w b (tpl T t i)) ∧ ∀ (x v2 v3 v4 v5 v6 v7 v8 : Value) q, ev (d + 5) t_Mo_plan 142 [.ref 62, x, v2, v3, v4, v5, v6, v7, v8] [] (hp Y F' A) q → ev (d + 5) t_Mo_plan 116 [.ref 62, x, v2, v3, v4, v5, v6, v7, v8] [] (hp Y F A) q := by
  obtain ⟨b, hb⟩ : ∃ b, b = (decide (F 62 6 = nI 3) || decide (F 62 6 = nI 4)) := ⟨_, rfl⟩
  obtain ⟨F1, r, a1, a2, a3, a4⟩ := c_Mo_takes2 (Y := Y) d h.1 h.2 b
  refine ⟨F1, b, a2, fun hw => ?_, a3, fun x v2 v3 v4 v5 v6 v7 v8 q hq => ?_⟩
  · subst hw
    rw [hb, vl_tok h.2 (by decide), vl_tok h.2 (by decide)]
    unfold pb0
    rw [Bool.eq_iff_iff]
    simp only [Bool.or_eq_true, decide_eq_true_eq]
    have := mtk_iff (tki T t i)
    omega
  · have fin : ev (d + 5) t_Mo_plan 138 [.ref 62, x, v2, v3, v4, v5, v6, v7, v8] [.int (z01 b), .ref 62] (hp Y F A) q := by
      refine ev_vc rfl (by rfl) (by rfl) rfl (a1) ?_
      repeat (refine ev_np [142] rfl rfl rfl ?_)
      exact hq
    repeat (refine ev_np [] rfl rfl rfl ?_)
    refine ev_gi rfl (by rfl) (by rfl) ?_
    repeat (refine ev_np [] rfl rfl rfl ?_)
    by_cases e : F 62 6 = nI 3
    · rw [decide_eq_true e] at hb
      rw [hb] at fin
      refine ev_it e ?_
      repeat (refine ev_np [138] rfl rfl rfl ?_)
      exact fin
    · rw [decide_eq_false e, Bool.false_or] at hb
      refine ev_ie e ?_
      repeat (refine ev_np [] rfl rfl rfl ?_)
      refine ev_gi rfl (by rfl) (by rfl) ?_
      repeat (refine ev_np [] rfl rfl rfl ?_)
      by_cases e4 : F 62 6 = nI 4
      · rw [decide_eq_true e4] at hb
        rw [hb] at fin
        refine ev_ie (fun z => z e4) ?_
        repeat (refine ev_np [138] rfl rfl rfl ?_)
        exact fin
      · rw [decide_eq_false e4] at hb
        rw [hb] at fin
        refine ev_it e4 ?_
        repeat (refine ev_np [138] rfl rfl rfl ?_)
        exact fin
theorem mp_c1 {n : Nat} (hn : n ≤ 6) (ht : ∀ j, t j < 256) (h : MW F T t i none) : (decide (F 62 6 = nI 5) && decide (F 62 8 < nI n)) = pb1 T t n i := by
  rw [vl_tok h (by decide)]
  unfold pb1
  by_cases e : tki T t i = 2
  · have e5 : mtk (tki T t i) = 5 := (mtk_iff _).2.2.2.2.2.1.mpr e
    have htw := (tok_b (T := T) (t := t) i ht).2
    rw [decide_eq_true e5, h.2.2.2.2.1 (Or.inl e), Bool.true_and]
    rw [Bool.eq_iff_iff]
    simp only [decide_eq_true_eq]
    rw [nI_ltI (by omega) (by omega)]
    omega
  · rw [decide_eq_false (fun z => e ((mtk_iff _).2.2.2.2.2.1.mp z)), Bool.false_and, decide_eq_false (fun z => e z.1)]
theorem mp_s5 {n : Nat} (hn : n ≤ 6) (ht : ∀ j, t j < 256) (h : MV F A T t i w) : ∃ F' b r, sF [6205, 6206, 6207, 6208, 6209] F F' ∧ (w = none → b = pb1 T t n i) ∧ MV F' A T t (i + 1) (wst w b (tpl T t i)) ∧ (w = none → b = true → r = nI (two T t i)) ∧ ∀ (x v2 : Value) (x4 : Int32) (v5 v6 v7 v8 : Value) q, ev (d + 5) t_Mo_plan 169 [.ref 62, x, v2, .int (nI n), .int x4, .int r, v6, v7, v8] [] (hp Y F' A) q → ev (d + 5) t_Mo_plan 142 [.ref 62, x, v2, .int (nI n), .int x4, v5, v6, v7, v8] [] (hp Y F A) q := by
  obtain ⟨b, hb⟩ : ∃ b, b = (decide (F 62 6 = nI 5) && decide (F 62 8 < nI n)) := ⟨_, rfl⟩
  obtain ⟨F1, r, a1, a2, a3, a4⟩ := c_Mo_takes2 (Y := Y) d h.1 h.2 b
  have hbn : w = none → b = pb1 T t n i := fun hw => by
    subst hw
    rw [hb, mp_c1 hn ht h.2]
  refine ⟨F1, b, r, a2, hbn, a3, fun hw h1 => ?_, fun x v2 x4 v5 v6 v7 v8 q hq => ?_⟩
  · rw [a4 hw h1]
    subst hw
    have := hbn rfl
    rw [h1] at this
    unfold pb1 at this
    exact h.2.2.2.2.2.1 (Or.inl (of_decide_eq_true this.symm).1)
  · have fin : ev (d + 5) t_Mo_plan 164 [.ref 62, x, v2, .int (nI n), .int x4, v5, v6, v7, v8] [.int (z01 b), .ref 62] (hp Y F A) q := by
      refine ev_vc rfl (by rfl) (by rfl) rfl (a1) ?_
      repeat (refine ev_np [169] rfl rfl rfl ?_)
      exact hq
    repeat (refine ev_np [] rfl rfl rfl ?_)
    refine ev_gi rfl (by rfl) (by rfl) ?_
    repeat (refine ev_np [] rfl rfl rfl ?_)
    by_cases e : F 62 6 = nI 5
    · rw [decide_eq_true e, Bool.true_and] at hb
      refine ev_ie (fun z => z e) ?_
      repeat (refine ev_np [] rfl rfl rfl ?_)
      refine ev_gi rfl (by rfl) (by rfl) ?_
      repeat (refine ev_np [] rfl rfl rfl ?_)
      by_cases e2 : F 62 8 < nI n
      · rw [decide_eq_true e2] at hb
        rw [hb] at fin
        refine ev_ie (Int32.not_le.mpr e2) ?_
        repeat (refine ev_np [164] rfl rfl rfl ?_)
        exact fin
      · rw [decide_eq_false e2] at hb
        rw [hb] at fin
        refine ev_it (Int32.not_lt.mp e2) ?_
        repeat (refine ev_np [164] rfl rfl rfl ?_)
        exact fin
    · rw [decide_eq_false e, Bool.false_and] at hb
      rw [hb] at fin
      refine ev_it e ?_
      repeat (refine ev_np [164] rfl rfl rfl ?_)
      exact fin
theorem mp_s6 (h : MV F A T t i w) : ∃ F' b r, sF [6205, 6206, 6207, 6208, 6209] F F' ∧ (w = none → b = pb2 T t i) ∧ MV F' A T t (i + 1) (wst w b (tpl T t i)) ∧ (w = none → b = true → r = nI (two T t i)) ∧ ∀ (x v2 v3 v4 : Value) (x5 : Int32) (v6 v7 v8 : Value) q, ev (d + 5) t_Mo_plan 188 [.ref 62, x, v2, v3, v4, .int x5, .int r, v7, v8] [] (hp Y F' A) q → ev (d + 5) t_Mo_plan 169 [.ref 62, x, v2, v3, v4, .int x5, v6, v7, v8] [] (hp Y F A) q := by
  obtain ⟨b, hb⟩ : ∃ b, b = decide (F 62 6 = nI 1) := ⟨_, rfl⟩
  obtain ⟨F1, r, a1, a2, a3, a4⟩ := c_Mo_takes2 (Y := Y) d h.1 h.2 b
  have hbn : w = none → b = pb2 T t i := fun hw => by
    subst hw
    rw [hb, vl_tok h.2 (by decide)]
    unfold pb2
    exact decide_eq_decide.mpr (mtk_iff _).2.1
  refine ⟨F1, b, r, a2, hbn, a3, fun hw h1 => ?_, fun x v2 v3 v4 x5 v6 v7 v8 q hq => ?_⟩
  · rw [a4 hw h1]
    subst hw
    have := hbn rfl
    rw [h1] at this
    unfold pb2 at this
    exact h.2.2.2.2.2.1 (Or.inr (of_decide_eq_true this.symm))
  · have fin : ev (d + 5) t_Mo_plan 183 [.ref 62, x, v2, v3, v4, .int x5, v6, v7, v8] [.int (z01 b), .ref 62] (hp Y F A) q := by
      refine ev_vc rfl (by rfl) (by rfl) rfl (a1) ?_
      repeat (refine ev_np [188] rfl rfl rfl ?_)
      exact hq
    repeat (refine ev_np [] rfl rfl rfl ?_)
    refine ev_gi rfl (by rfl) (by rfl) ?_
    repeat (refine ev_np [] rfl rfl rfl ?_)
    by_cases e : F 62 6 = nI 1
    · rw [decide_eq_true e] at hb
      rw [hb] at fin
      refine ev_ie (fun z => z e) ?_
      repeat (refine ev_np [183] rfl rfl rfl ?_)
      exact fin
    · rw [decide_eq_false e] at hb
      rw [hb] at fin
      refine ev_it e ?_
      repeat (refine ev_np [183] rfl rfl rfl ?_)
      exact fin
theorem mp_s7 {n : Nat} (hn : n ≤ 6) (ht : ∀ j, t j < 256) (h : MV F A T t i w) : ∃ F' b r, sF [6205, 6206, 6207, 6208, 6209] F F' ∧ (w = none → b = pb1 T t n i) ∧ MV F' A T t (i + 1) (wst w b (tpl T t i)) ∧ (w = none → b = true → r = nI (two T t i)) ∧ ∀ (x v2 v4 v5 : Value) (x6 : Int32) (v7 v8 : Value) q, ev (d + 5) t_Mo_plan 215 [.ref 62, x, v2, .int (nI n), v4, v5, .int x6, .int r, v8] [] (hp Y F' A) q → ev (d + 5) t_Mo_plan 188 [.ref 62, x, v2, .int (nI n), v4, v5, .int x6, v7, v8] [] (hp Y F A) q := by
  obtain ⟨b, hb⟩ : ∃ b, b = (decide (F 62 6 = nI 5) && decide (F 62 8 < nI n)) := ⟨_, rfl⟩
  obtain ⟨F1, r, a1, a2, a3, a4⟩ := c_Mo_takes2 (Y := Y) d h.1 h.2 b
  have hbn : w = none → b = pb1 T t n i := fun hw => by
    subst hw
    rw [hb, mp_c1 hn ht h.2]
  refine ⟨F1, b, r, a2, hbn, a3, fun hw h1 => ?_, fun x v2 v4 v5 x6 v7 v8 q hq => ?_⟩
  · rw [a4 hw h1]
    subst hw
    have := hbn rfl
    rw [h1] at this
    unfold pb1 at this
    exact h.2.2.2.2.2.1 (Or.inl (of_decide_eq_true this.symm).1)
  · have fin : ev (d + 5) t_Mo_plan 210 [.ref 62, x, v2, .int (nI n), v4, v5, .int x6, v7, v8] [.int (z01 b), .ref 62] (hp Y F A) q := by
      refine ev_vc rfl (by rfl) (by rfl) rfl (a1) ?_
      repeat (refine ev_np [215] rfl rfl rfl ?_)
      exact hq
    repeat (refine ev_np [] rfl rfl rfl ?_)
    refine ev_gi rfl (by rfl) (by rfl) ?_
    repeat (refine ev_np [] rfl rfl rfl ?_)
    by_cases e : F 62 6 = nI 5
    · rw [decide_eq_true e, Bool.true_and] at hb
      refine ev_ie (fun z => z e) ?_
      repeat (refine ev_np [] rfl rfl rfl ?_)
      refine ev_gi rfl (by rfl) (by rfl) ?_
      repeat (refine ev_np [] rfl rfl rfl ?_)
      by_cases e2 : F 62 8 < nI n
      · rw [decide_eq_true e2] at hb
        rw [hb] at fin
        refine ev_ie (Int32.not_le.mpr e2) ?_
        repeat (refine ev_np [210] rfl rfl rfl ?_)
        exact fin
      · rw [decide_eq_false e2] at hb
        rw [hb] at fin
        refine ev_it (Int32.not_lt.mp e2) ?_
        repeat (refine ev_np [210] rfl rfl rfl ?_)
        exact fin
    · rw [decide_eq_false e, Bool.false_and] at hb
      rw [hb] at fin
      refine ev_it e ?_
      repeat (refine ev_np [210] rfl rfl rfl ?_)
      exact fin
theorem mp_s8 (h : MV F A T t i w) : ∃ F' b, sF [6205, 6206, 6207, 6208, 6209] F F' ∧ (w = none → b = pb4 T t i) ∧ MV F' A T t (i + 1) (wst w b (tpl T t i)) ∧ ∀ (x v2 v3 v4 v5 v6 v7 v8 : Value) q, ev (d + 5) t_Mo_plan 226 [.ref 62, x, v2, v3, v4, v5, v6, v7, v8] [] (hp Y F' A) q → ev (d + 5) t_Mo_plan 215 [.ref 62, x, v2, v3, v4, v5, v6, v7, v8] [] (hp Y F A) q := by
  obtain ⟨b, hb⟩ : ∃ b, b = (w.isNone && decide (tki T t i = 59)) := ⟨_, rfl⟩
  obtain ⟨F1, r, a1, a2, a3, a4⟩ := c_Mo_takes2 (Y := Y) d h.1 h.2 b
  refine ⟨F1, b, a2, fun hw => ?_, a3, fun x v2 v3 v4 v5 v6 v7 v8 q hq => ?_⟩
  · subst hw
    rw [hb]
    rfl
  · repeat (refine ev_np [] rfl rfl rfl ?_)
    refine ev_vc rfl (by rfl) (by rfl) rfl (c_Mo_isSign (d + 3) h.1.2.2.2 h.2 (c := 59) (by decide) (by decide)) ?_
    rw [← hb]
    refine ev_vc rfl (by rfl) (by rfl) rfl (a1) ?_
    repeat (refine ev_np [226] rfl rfl rfl ?_)
    exact hq
end MPL
