/-! ===== the model takes tokens ===== -/
/-- well, at token i; or its fault is known -/
def MW (F : Nat → Nat → Int32) (T : Nat) (t : Nat → Nat) (i : Nat) (w : Option Nat) : Prop := match w with
  | none => F 62 9 = -1 ∧ MT F T t i
  | some f => F 62 9 = nI f ∧ f ≤ 300
def wst (w : Option Nat) (b : Bool) (p : Nat) : Option Nat := match w with
  | some f => some f
  | none => bif b then none else some p
theorem wst_congr {w : Option Nat} {b b' : Bool} {p : Nat} (h : w = none → b = b') : wst w b p = wst w b' p := by
  cases w with
  | none => rw [h rfl]
  | some f => rfl
theorem mtk_iff (k : Nat) : (mtk k = 0 ↔ k = 0) ∧ (mtk k = 1 ↔ k = 3) ∧ (mtk k = 2 ↔ k = 4) ∧ (mtk k = 3 ↔ k = 5) ∧ (mtk k = 4 ↔ k = 6) ∧ (mtk k = 5 ↔ k = 2) ∧ (mtk k = 6 ↔ 7 ≤ k) ∧ mtk k ≤ 7 := by
  match k with
  | 0 => decide
  | 1 => decide
  | 2 => decide
  | 3 => decide
  | 4 => decide
  | 5 => decide
  | 6 => decide
  | k + 7 =>
    have : mtk (k + 7) = 6 := rfl
    rw [this]
    omega
section TKM
variable {Y : Nat × (Nat → Int32)} {F A : Nat → Nat → Int32} {T : Nat} {t : Nat → Nat} {i : Nat} {w : Option Nat} (d : Nat)
theorem MT.tok (h : MT F T t i) {c : Nat} (hc : c < 100) : F 62 6 = nI c ↔ mtk (tki T t i) = c := by
  rw [h.2.1]
  have := (mtk_iff (tki T t i)).2.2.2.2.2.2.2
  exact nI_eq (by omega) (by omega)
theorem MT.frame {F' : Nat → Nat → Int32} (h : MT F T t i) (h5 : F' 62 5 = F 62 5) (h6 : F' 62 6 = F 62 6) (h7 : F' 62 7 = F 62 7) (h8 : F' 62 8 = F 62 8) : MT F' T t i := by
  unfold MT
  rw [h5, h6, h7, h8]
  exact h
theorem MW.frame {F' : Nat → Nat → Int32} (h : MW F T t i w) (h5 : F' 62 5 = F 62 5) (h6 : F' 62 6 = F 62 6) (h7 : F' 62 7 = F 62 7) (h8 : F' 62 8 = F 62 8) (h9 : F' 62 9 = F 62 9) : MW F' T t i w := by
  cases w with
  | none => exact ⟨h9.trans h.1, h.2.frame h5 h6 h7 h8⟩
  | some f => exact ⟨h9.trans h.1, h.2⟩
theorem c_Mo_isWell (hw : MW F T t i w) : xa_rn xa_ms (d + 1) n_Mo_isWell [.ref 62] (hp Y F A) (some (.int (z01 w.isNone))) (hp Y F A) := by
  refine rn_in m_Mo_isWell rfl ⟨rfl, rfl⟩ ?_
  show ev _ t_Mo_isWell 0 [.ref 62] [] _ _
  repeat (refine ev_np [] rfl rfl rfl ?_)
  refine ev_gi rfl (by rfl) (by rfl) ?_
  cases w with
  | none =>
    rw [hw.1]
    repeat (refine ev_np [] rfl rfl rfl ?_)
    exact ev_rz rfl rfl (z01_b _)
  | some f =>
    have := hw.2
    rw [hw.1]
    repeat (refine ev_np [] rfl rfl rfl ?_)
    refine ev_it (nI_pos' (by omega)) ?_
    repeat (refine ev_np [] rfl rfl rfl ?_)
    exact ev_rz rfl rfl (z01_b _)
theorem c_Mo_isSign (ht : ∀ j, t j < 256) (hw : MW F T t i w) {c : Nat} (h7 : 7 ≤ c) (hc : c < 256) : xa_rn xa_ms (d + 2) n_Mo_isSign [.ref 62, .int (nI c)] (hp Y F A) (some (.int (z01 (w.isNone && decide (tki T t i = c))))) (hp Y F A) := by
  refine rn_in m_Mo_isSign rfl ⟨rfl, rfl⟩ ?_
  show ev _ t_Mo_isSign 0 [.ref 62, .int (nI c)] [] _ _
  repeat (refine ev_np [] rfl rfl rfl ?_)
  refine ev_vc rfl (by rfl) (by rfl) rfl (c_Mo_isWell d hw) ?_
  cases w with
  | some f =>
    repeat (refine ev_np [] rfl rfl rfl ?_)
    exact ev_rz rfl rfl (z01_b _)
  | none =>
    have hm := hw.2
    have htk := (tok_b (T := T) (t := t) i ht).1
    repeat (refine ev_np [] rfl rfl rfl ?_)
    refine ev_gi rfl (by rfl) (by rfl) ?_
    repeat (refine ev_np [] rfl rfl rfl ?_)
    by_cases e : 7 ≤ tki T t i
    · refine ev_ie (fun z => z ((hm.tok (c := 6) (by decide)).mpr ((mtk_iff _).2.2.2.2.2.2.1.mpr e))) ?_
      repeat (refine ev_np [] rfl rfl rfl ?_)
      refine ev_gi rfl (by rfl) (by rfl) ?_
      rw [hm.2.2.2.2 e]
      repeat (refine ev_np [] rfl rfl rfl ?_)
      by_cases e2 : tki T t i = c
      · refine ev_ie (fun z => z (by rw [e2])) ?_
        repeat (refine ev_np [] rfl rfl rfl ?_)
        exact ev_rz rfl (by rw [decide_eq_true e2]; rfl) (z01_b _)
      · refine ev_it (fun z => e2 ((nI_eq (by omega) (by omega)).mp z)) ?_
        repeat (refine ev_np [] rfl rfl rfl ?_)
        exact ev_rz rfl (by rw [decide_eq_false e2]; rfl) (z01_b _)
    · refine ev_it (fun z => e ((mtk_iff _).2.2.2.2.2.2.1.mp ((hm.tok (c := 6) (by decide)).mp z))) ?_
      repeat (refine ev_np [] rfl rfl rfl ?_)
      exact ev_rz rfl (by rw [decide_eq_false (by omega)]; rfl) (z01_b _)
theorem c_Mo_takes (h : TM F A T t) (hw : MW F T t i w) (b : Bool) : ∃ F' r, xa_rn xa_ms (d + 5) n_Mo_takes [.ref 62, .int (z01 b)] (hp Y F A) (some (.int r)) (hp Y F' A) ∧ sF [6205, 6206, 6207, 6208, 6209] F F' ∧ MW F' T t (i + 1) (wst w b (tpl T t i)) ∧ (w = none → b = true → r = F 62 8) := by
  cases w with
  | some f =>
    refine ⟨F, 0, ?_, sF.rf, hw, fun z => by cases z⟩
    refine rn_in m_Mo_takes rfl ⟨rfl, rfl⟩ ?_
    show ev _ t_Mo_takes 0 [.ref 62, .int (z01 b), .float 0] [] _ _
    repeat (refine ev_np [] rfl rfl rfl ?_)
    refine ev_vc rfl (by rfl) (by rfl) rfl (c_Mo_isWell (d + 3) hw) ?_
    repeat (refine ev_np [] rfl rfl rfl ?_)
    exact ev_ri rfl rfl
  | none =>
    cases b with
    | false =>
      have hle := (tpl_le (T := T) (t := t) i).2
      have hT := h.2.2.1
      refine ⟨uF F 62 9 (nI (tpl T t i)), 0, ?_, sF.up (by decide), ⟨uF_s _ _ _ _, by omega⟩, fun _ z => by cases z⟩
      refine rn_in m_Mo_takes rfl ⟨rfl, rfl⟩ ?_
      show ev _ t_Mo_takes 0 [.ref 62, .int (z01 false), .float 0] [] _ _
      repeat (refine ev_np [] rfl rfl rfl ?_)
      refine ev_vc rfl (by rfl) (by rfl) rfl (c_Mo_isWell (d + 3) hw) ?_
      repeat (refine ev_np [] rfl rfl rfl ?_)
      refine ev_gi rfl (by rfl) (by rfl) ?_
      rw [hw.2.2.2.1]
      refine ev_pf rfl (by rfl) ⟨by rfl, by rfl⟩ ?_
      repeat (refine ev_np [] rfl rfl rfl ?_)
      exact ev_ri rfl rfl
    | true =>
      obtain ⟨F1, a1, a2, a3⟩ := c_Mo_advances (Y := Y) d h (i := i + 1) hw.2.1
      refine ⟨F1, F 62 8, ?_, a2.mono (by decide), ⟨by rw [a2 62 9 (by decide)]; exact hw.1, a3⟩, fun _ _ => rfl⟩
      refine rn_in m_Mo_takes rfl ⟨rfl, rfl⟩ ?_
      show ev _ t_Mo_takes 0 [.ref 62, .int (z01 true), .float 0] [] _ _
      repeat (refine ev_np [] rfl rfl rfl ?_)
      refine ev_vc rfl (by rfl) (by rfl) rfl (c_Mo_isWell (d + 3) hw) ?_
      repeat (refine ev_np [] rfl rfl rfl ?_)
      refine ev_gi rfl (by rfl) (by rfl) ?_
      repeat (refine ev_np [] rfl rfl rfl ?_)
      refine ev_vc rfl (by rfl) (by rfl) rfl (a1) ?_
      repeat (refine ev_np [] rfl rfl rfl ?_)
      exact ev_ri rfl rfl
theorem c_Mo_begins (h : TM F A T t) : ∃ F', xa_rn xa_ms (d + 5) n_Mo_begins [.ref 62] (hp Y F A) none (hp Y F' A) ∧ sF [6205, 6206, 6207, 6208, 6209] F F' ∧ MW F' T t 0 none := by
  obtain ⟨G, hG⟩ : ∃ G, G = uF (uF F 62 9 (-1)) 62 5 0 := ⟨_, rfl⟩
  have s0 : sF [6205, 6206, 6207, 6208, 6209] F G := by rw [hG]; exact (sF.up (by decide)).tr (sF.up (by decide))
  have tG : TM G A T t := h.frame (s0 62 4 (by decide)) rfl
  obtain ⟨F1, a1, a2, a3⟩ := c_Mo_advances (Y := Y) d tG (i := 0) (by rw [hG, uF_s]; exact nI_0.symm)
  refine ⟨F1, ?_, s0.tr (a2.mono (by decide)), ?_, a3⟩
  · refine rn_in m_Mo_begins rfl ⟨rfl, rfl⟩ ?_
    show ev _ t_Mo_begins 0 [.ref 62] [] _ _
    repeat (refine ev_np [] rfl rfl rfl ?_)
    refine ev_pf rfl (by rfl) ⟨by rfl, by rfl⟩ ?_
    repeat (refine ev_np [] rfl rfl rfl ?_)
    refine ev_pf rfl (by rfl) ⟨by rfl, by rfl⟩ ?_
    repeat (refine ev_np [] rfl rfl rfl ?_)
    rw [← hG]
    refine ev_vc rfl (by rfl) (by rfl) rfl (a1) ?_
    exact ev_rv rfl
  · rw [a2 62 9 (by decide), hG, uF_n _ _ (by decide), uF_s]
theorem c_Mo_takes2 (h : TM F A T t) (hw : MW F T t i w) (b : Bool) : ∃ F' r, xa_rn xa_ms (d + 5) n_Mo_takes [.ref 62, .int (z01 b)] (hp Y F A) (some (.int r)) (hp Y F' A) ∧ sF [6205, 6206, 6207, 6208, 6209] F F' ∧ (TM F' A T t ∧ MW F' T t (i + 1) (wst w b (tpl T t i))) ∧ (w = none → b = true → r = F 62 8) := by
  obtain ⟨F1, r, a1, a2, a3, a4⟩ := c_Mo_takes (Y := Y) d h hw b
  exact ⟨F1, r, a1, a2, ⟨h.frame (a2 62 4 (by decide)) rfl, a3⟩, a4⟩
end TKM
/-! ===== a plan's text: what it is ===== -/
section PTX
variable (T : Nat) (t : Nat → Nat)
def pb0 (i : Nat) : Bool := decide (tki T t i = 5 ∨ tki T t i = 6)
def pb1 (n i : Nat) : Bool := decide (tki T t i = 2 ∧ two T t i < n)
def pb2 (i : Nat) : Bool := decide (tki T t i = 3)
def pb4 (i : Nat) : Bool := decide (tki T t i = 59)
def hb0 (i : Nat) : Bool := decide (tki T t i = 4)
def hb1 (i : Nat) : Bool := decide (tki T t i = 2 ∧ 1 ≤ two T t i ∧ two T t i ≤ 6)
/-- where the head is at fault; where an item is -/
def hdw : Option Nat := wst (wst (wst none (hb0 T t 0) (tpl T t 0)) (hb1 T t 1) (tpl T t 1)) (pb4 T t 2) (tpl T t 2)
def itw (n i : Nat) : Option Nat := wst (wst (wst (wst (wst none (pb0 T t i) (tpl T t i)) (pb1 T t n (i + 1)) (tpl T t (i + 1))) (pb2 T t (i + 2)) (tpl T t (i + 2))) (pb1 T t n (i + 3)) (tpl T t (i + 3))) (pb4 T t (i + 4)) (tpl T t (i + 4))
/-- the arrows after k items -/
def pgr : Nat → Nat → Nat → Nat → Nat
  | 0 => fun _ _ _ => 0
  | k + 1 => gset (pgr k) (two T t (3 + 5 * k + 1)) (two T t (3 + 5 * k + 2)) (two T t (3 + 5 * k + 3)) (max (pgr k (two T t (3 + 5 * k + 1)) (two T t (3 + 5 * k + 2)) (two T t (3 + 5 * k + 3))) (if tki T t (3 + 5 * k) = 6 then 2 else 1))
end PTX
section PTY
variable {T : Nat} {t : Nat → Nat}
theorem itw_none {n i : Nat} : itw T t n i = none ↔ pb0 T t i = true ∧ pb1 T t n (i + 1) = true ∧ pb2 T t (i + 2) = true ∧ pb1 T t n (i + 3) = true ∧ pb4 T t (i + 4) = true := by
  unfold itw
  cases pb0 T t i <;> cases pb1 T t n (i + 1) <;> cases pb2 T t (i + 2) <;> cases pb1 T t n (i + 3) <;> cases pb4 T t (i + 4) <;> simp [wst]
theorem hdw_none : hdw T t = none ↔ hb0 T t 0 = true ∧ hb1 T t 1 = true ∧ pb4 T t 2 = true := by
  unfold hdw
  cases hb0 T t 0 <;> cases hb1 T t 1 <;> cases pb4 T t 2 <;> simp [wst]
theorem lett {i : Nat} (h : tki T t i = 3) : two T t i ≤ 2 := by
  unfold tki at h
  unfold two
  split
  · rename_i hlt
    rw [if_pos hlt] at h
    unfold lex at h ⊢
    split
    · rename_i hd
      rw [if_pos hd] at h
      dsimp only at h
      split at h <;> omega
    · rename_i hd
      rw [if_neg hd] at h
      split
      · rename_i hw
        rw [if_pos hw] at h
        split
        · rename_i hc
          show bt T t (tpl T t i) - 97 ≤ 2
          omega
        · exact Nat.zero_le _
      · exact Nat.zero_le _
  · exact Nat.zero_le _
/-- how many items there are, or at which one it fails -/
theorem items_end {n N : Nat} (hN : TN T t N) : ∃ k, 3 + 5 * k ≤ N + 3 ∧ (∀ j, j < k → tki T t (3 + 5 * j) ≠ 0 ∧ itw T t n (3 + 5 * j) = none) ∧ (tki T t (3 + 5 * k) = 0 ∨ (tki T t (3 + 5 * k) ≠ 0 ∧ itw T t n (3 + 5 * k) ≠ none)) := by
  have hend : ∀ m, tki T t (N + m) = 0 := by
    intro m
    have : tpl T t (N + m) = T := by
      induction m with
      | zero => exact hN.2.1
      | succ m ih => exact (tst_end ih).2
    unfold tki
    rw [if_neg (by omega)]
  have key : ∀ m k, N ≤ 3 + 5 * k + m → (∀ j, j < k → tki T t (3 + 5 * j) ≠ 0 ∧ itw T t n (3 + 5 * j) = none) → 3 + 5 * k ≤ N + 3 → ∃ k, 3 + 5 * k ≤ N + 3 ∧ (∀ j, j < k → tki T t (3 + 5 * j) ≠ 0 ∧ itw T t n (3 + 5 * j) = none) ∧ (tki T t (3 + 5 * k) = 0 ∨ (tki T t (3 + 5 * k) ≠ 0 ∧ itw T t n (3 + 5 * k) ≠ none)) := by
    intro m
    induction m with
    | zero =>
      intro k h1 h2 h3
      refine ⟨k, h3, h2, Or.inl ?_⟩
      rw [show 3 + 5 * k = N + (3 + 5 * k - N) by omega]
      exact hend _
    | succ m ih =>
      intro k h1 h2 h3
      by_cases e : tki T t (3 + 5 * k) = 0
      · exact ⟨k, h3, h2, Or.inl e⟩
      · by_cases e2 : itw T t n (3 + 5 * k) = none
        · have hlt : 3 + 5 * k + 4 < N := by
            refine Classical.byContradiction fun hne => ?_
            have h4 := (itw_none.mp e2).2.2.2.2
            unfold pb4 at h4
            have h4 := of_decide_eq_true h4
            rw [show 3 + 5 * k + 4 = N + (3 + 5 * k + 4 - N) by omega, hend] at h4
            cases h4
          exact ih (k + 1) (by omega) (fun j hj => by
            by_cases ej : j = k
            · subst ej; exact ⟨e, e2⟩
            · exact h2 j (by omega)) (by omega)
        · exact ⟨k, h3, h2, Or.inr ⟨e, e2⟩⟩
  exact key N 0 (by omega) (fun j hj => by omega) (by omega)
theorem pgr_wf {n : Nat} (hn : 1 ≤ n ∧ n ≤ 6) : ∀ k, (∀ j, j < k → itw T t n (3 + 5 * j) = none) → GW n (pgr T t k) := by
  intro k
  induction k with
  | zero => intro _; exact ⟨hn, fun s l t => ⟨Nat.zero_le _, fun z => absurd rfl z⟩⟩
  | succ k ih =>
    intro h
    have ih := ih (fun j hj => h j (by omega))
    obtain ⟨a0, a1, a2, a3, a4⟩ := itw_none.mp (h k (by omega))
    unfold pb1 at a1 a3
    unfold pb2 at a2
    have a1 := of_decide_eq_true a1
    have a2 := lett (of_decide_eq_true a2)
    have a3 := of_decide_eq_true a3
    refine ⟨hn, fun s l u => ?_⟩
    simp only [pgr]
    unfold gset
    have h2 := ih.2
    split
    · rename_i e
      have := (h2 (two T t (3 + 5 * k + 1)) (two T t (3 + 5 * k + 2)) (two T t (3 + 5 * k + 3))).1
      refine ⟨?_, fun _ => ?_⟩
      · split <;> omega
      · rw [e.1, e.2.1, e.2.2]
        exact ⟨a1.2, by omega, a3.2⟩
    · exact h2 s l u
end PTY
