/-! ===== class Tokens: all of them, one after the other ===== -/
/-- the last token is N -/
def TN (T : Nat) (t : Nat → Nat) (N : Nat) : Prop := N ≤ T ∧ tpl T t N = T ∧ ∀ i, i < N → tpl T t i < T
def TK (F A : Nat → Nat → Int32) (T : Nat) (t : Nat → Nat) (N i : Nat) : Prop := (F 35 3 = nI (N + 1) ∧ F 35 4 = nI i) ∧ TA A T t (N + 1) ∧ i ≤ N ∧ N ≤ 300 ∧ TN T t N
section SPL
variable {Y : Nat × (Nat → Int32)} {F A : Nat → Nat → Int32} {T N : Nat} {t : Nat → Nat} (d : Nat)
theorem tk_end (h : TN T t N) : tki T t N = 0 ∧ two T t N = 0 := by
  unfold tki two
  rw [if_neg (by rw [h.2.1]; omega), if_neg (by rw [h.2.1]; omega)]
  exact ⟨rfl, rfl⟩
theorem runS_t {p : Nat} (hp : p < T) (h : bt T t p = 32) : runS T t p = runS T t (p + 1) := by
  unfold runS
  rw [show T - p = (T - (p + 1)) + 1 by omega]
  simp only [runP, h]
  rfl
theorem runS_f {p : Nat} (h : ¬ bt T t p = 32) : runS T t p = p := by
  unfold runS
  cases T - p with
  | zero => rfl
  | succ m =>
    simp only [runP]
    rw [show (bt T t p == 32) = false by simpa using h]
    rfl
theorem c_Tokens_split (h : TX F A T t) (hN : TN T t N) : ∃ F' A', xa_rn xa_ms (d + 9) n_Tokens_split [.ref 35, .ref 32] (hp Y F A) none (hp Y F' A') ∧ sA [36, 37, 38] A A' ∧ sF [3503, 3504] F F' ∧ TK F' A' T t N 0 := by
  have hT := h.2.2.1
  have loop : ∀ m place i k F1 A1, T ≤ place + m → place ≤ T → k + (T - place) ≤ 300 → i ≤ N → runS T t place = tpl T t i → F1 35 3 = nI i → F1 35 4 = 0 → TA A1 T t i → sA [36, 37, 38] A A1 → sF [3503, 3504] F F1 → ∃ F' A', sA [36, 37, 38] A A' ∧ sF [3503, 3504] F F' ∧ TK F' A' T t N 0 ∧ ev (d + 8) t_Tokens_split 14 [.ref 35, .ref 32, .int (nI place), .int (nI k)] [] (hp Y F1 A1) (none, hp Y F' A') := by
    intro m
    induction m with
    | zero =>
      intro place i k F1 A1 h1 h2 h3 h4 h5 h6 h7 h8 h9 h10
      have e : place = T := by omega
      subst e
      have hiN : i = N := by
        refine Classical.byContradiction fun hne => ?_
        have := hN.2.2 i (by omega)
        rw [← h5] at this
        have := (runP_ge (fun j => bt place t j == 32) (place - place) place).1
        have : runS place t place = runP (fun j => bt place t j == 32) (place - place) place := rfl
        omega
      subst hiN
      have hx1 : TX F1 A1 place t := h.frame (h10 32 1 (by decide)) (h9 33 (by decide))
      obtain ⟨F2, A2, b1, b2, b3, b4, b5, b6⟩ := c_Tokens_keep (Y := Y) (F := F1) (A := A1) (d + 7) (s := i) (by have := hN.1; omega) h6 0 (nI place) 0
      obtain ⟨z1, z2⟩ := tk_end hN
      refine ⟨F2, A2, h9.tr b2, h10.tr (b3.mono (by decide)), ⟨⟨b4, by rw [b3 35 4 (by decide), h7]; exact nI_0.symm⟩, h8.more ⟨by rw [b5.1, z1]; exact nI_0.symm, by rw [b5.2.1, hN.2.1], by rw [b5.2.2, z2]; exact nI_0.symm⟩ b6, Nat.zero_le _, by have := hN.1; omega, hN⟩, ?_⟩
      have tail : ev (d + 8) t_Tokens_split 58 [.ref 35, .ref 32, .int (nI place), .int (nI k)] [] (hp Y F1 A1) (none, hp Y F2 A2) := by
        repeat (refine ev_np [] rfl rfl rfl ?_)
        refine ev_vc rfl (by rfl) (by rfl) rfl (c_Text_size (d + 7)) ?_
        rw [hx1.1]
        repeat (refine ev_np [] rfl rfl rfl ?_)
        refine ev_vc rfl (by rfl) (by rfl) rfl (b1) ?_
        exact ev_rv rfl
      repeat (refine ev_np [] rfl rfl rfl ?_)
      by_cases hk : 300 ≤ k
      · refine ev_it (nI_le (a := 300) hk (by omega)) ?_
        exact tail
      · refine ev_ie (nI_ge (b := 300) (by omega) (by omega)) ?_
        repeat (refine ev_np [] rfl rfl rfl ?_)
        refine ev_vc rfl (by rfl) (by rfl) rfl (c_Text_size (d + 7)) ?_
        rw [hx1.1]
        repeat (refine ev_np [] rfl rfl rfl ?_)
        refine ev_it (nI_le (Nat.le_refl _) (by omega)) ?_
        exact tail
    | succ m ih =>
      intro place i k F1 A1 h1 h2 h3 h4 h5 h6 h7 h8 h9 h10
      by_cases e : place = T
      · exact ih place i k F1 A1 (by omega) h2 h3 h4 h5 h6 h7 h8 h9 h10
      · have hpT : place < T := by omega
        have hx1 : TX F1 A1 T t := h.frame (h10 32 1 (by decide)) (h9 33 (by decide))
        have head : ∀ q, ev (d + 8) t_Tokens_split 34 [.ref 35, .ref 32, .int (nI place), .int (nI k)] [.int (bI (bt T t place))] (hp Y F1 A1) q → ev (d + 8) t_Tokens_split 14 [.ref 35, .ref 32, .int (nI place), .int (nI k)] [] (hp Y F1 A1) q := by
          intro q hq
          repeat (refine ev_np [] rfl rfl rfl ?_)
          refine ev_ie (nI_ge (b := 300) (by omega) (by omega)) ?_
          repeat (refine ev_np [] rfl rfl rfl ?_)
          refine ev_vc rfl (by rfl) (by rfl) rfl (c_Text_size (d + 7)) ?_
          rw [hx1.1]
          repeat (refine ev_np [] rfl rfl rfl ?_)
          refine ev_ie (nI_ge hpT (by omega)) ?_
          repeat (refine ev_np [] rfl rfl rfl ?_)
          refine ev_vc rfl (by rfl) (by rfl) rfl (c_Text_byteAt (d + 7) hx1 (j := place) (by omega)) ?_
          exact hq
        by_cases hsp : bt T t place = 32
        · obtain ⟨F2, A2, c1, c2, c3, c4⟩ := ih (place + 1) i (k + 1) F1 A1 (by omega) (by omega) (by omega) h4 (by rw [← runS_t hpT hsp]; exact h5) h6 h7 h8 h9 h10
          refine ⟨F2, A2, c1, c2, c3, head _ ?_⟩
          rw [nI_succ place, nI_succ k] at c4
          rw [hsp]
          repeat (refine ev_np [14] rfl rfl rfl ?_)
          exact c4
        · have htp : tpl T t i = place := by rw [← h5]; exact runS_f hsp
          have hiN : i < N := by
            refine Classical.byContradiction fun hne => ?_
            have : i = N := by omega
            subst this
            have := hN.2.1
            omega
          obtain ⟨F2, A2, b1, b2, b3, b4, b5⟩ := c_Tokens_cut (Y := Y) d hx1 (s := i) (j := place) (by have := hN.1; omega) h6 hpT htp h8
          have hlt := tst_lt (T := T) (t := t) i (by omega)
          have hle := tst_le (T := T) (t := t) (i + 1)
          have hgt : place < tst T t (i + 1) := by
            rw [tst_s i (by omega), htp]
            exact (lex_end hpT).1
          obtain ⟨F3, A3, c1, c2, c3, c4⟩ := ih (tst T t (i + 1)) (i + 1) (k + 1) F2 A2 (by omega) hle (by omega) (by omega) rfl b4 (by rw [b3 35 4 (by decide)]; exact h7) b5 (h9.tr b2) (h10.tr (b3.mono (by decide)))
          refine ⟨F3, A3, c1, c2, c3, head _ ?_⟩
          rw [nI_succ k] at c4
          repeat (refine ev_np [] rfl rfl rfl ?_)
          refine ev_it (fun z => hsp ((bI_inj (bt_le hx1 _) (c := 32) (by decide)).mp z)) ?_
          repeat (refine ev_np [] rfl rfl rfl ?_)
          refine ev_vc rfl (by rfl) (by rfl) rfl (b1) ?_
          repeat (refine ev_np [14] rfl rfl rfl ?_)
          exact c4
  obtain ⟨F2, A2, c1, c2, c3, c4⟩ := loop T 0 0 0 (uF (uF F 35 3 0) 35 4 0) A (by omega) (Nat.zero_le _) (by omega) (Nat.zero_le _) rfl (by rw [uF_n _ _ (by decide), uF_s]; exact nI_0.symm) (uF_s _ _ _ _) (fun x hx => absurd hx (Nat.not_lt_zero x)) sA.rf ((sF.up (by decide)).tr (sF.up (by decide)))
  refine ⟨F2, A2, ?_, c1, c2, c3⟩
  refine rn_in m_Tokens_split rfl ⟨rfl, rfl⟩ ?_
  show ev _ t_Tokens_split 0 [.ref 35, .ref 32, .float 0, .float 0] [] _ _
  repeat (refine ev_np [] rfl rfl rfl ?_)
  refine ev_pf rfl (by rfl) ⟨by rfl, by rfl⟩ ?_
  repeat (refine ev_np [] rfl rfl rfl ?_)
  refine ev_pf rfl (by rfl) ⟨by rfl, by rfl⟩ ?_
  repeat (refine ev_np [14] rfl rfl rfl ?_)
  exact c4
theorem lex_b (j : Nat) (ht : ∀ j, t j < 256) : (lex T t j).1 < 256 ∧ (lex T t j).2.1 ≤ 100 := by
  have hb : bt T t j ≤ 256 := by
    unfold bt
    split
    · have := ht j; omega
    · exact Nat.le_refl _
  have hn := nv_le (T := T) (t := t) j (runD T t j - j)
  unfold lex
  split
  · refine ⟨?_, hn⟩
    show (if _ then 1 else 2) < 256
    split <;> omega
  · split
    · split
      · rename_i h1 h2 h3
        exact ⟨by show 3 < 256; decide, by show bt T t j - 97 ≤ 100; omega⟩
      · refine ⟨?_, Nat.zero_le _⟩
        show wrd T t j _ < 256
        unfold wrd
        split
        · omega
        · split
          · omega
          · split <;> omega
    · refine ⟨?_, Nat.zero_le _⟩
      show (if sgn (bt T t j) = true then bt T t j else 1) < 256
      split
      · rename_i h1 h2 h3
        have : bt T t j ≠ 256 := fun z => by rw [z] at h3; revert h3; decide
        omega
      · omega
theorem tok_b (i : Nat) (ht : ∀ j, t j < 256) : tki T t i < 256 ∧ two T t i ≤ 100 := by
  unfold tki two
  split
  · exact lex_b _ ht
  · exact ⟨by decide, by decide⟩
theorem c_Tokens_kind {i : Nat} (h : TK F A T t N i) : xa_rn xa_ms (d + 1) n_Tokens_kind [.ref 35] (hp Y F A) (some (.int (nI (tki T t i)))) (hp Y F A) := by
  obtain ⟨⟨h1, h2⟩, h3, h4, h5, h6⟩ := h
  refine rn_in m_Tokens_kind rfl ⟨rfl, rfl⟩ ?_
  show ev _ t_Tokens_kind 0 [.ref 35] [] _ _
  repeat (refine ev_np [] rfl rfl rfl ?_)
  refine ev_gi rfl (by rfl) (by rfl) ?_
  rw [h2]
  repeat (refine ev_np [] rfl rfl rfl ?_)
  refine ev_gi rfl (by rfl) (by rfl) ?_
  rw [h1]
  repeat (refine ev_np [] rfl rfl rfl ?_)
  refine ev_ie (nI_ge (by omega) (by omega)) ?_
  repeat (first | refine ev_np [] rfl rfl rfl ?_ | refine ev_grs [] rfl rfl (by rfl) (by rfl) ?_)
  refine ev_gi rfl (by rfl) (by rfl) ?_
  rw [h2]
  refine ev_an rfl (by rfl) rfl (by omega) rfl ?_
  rw [(h3 i (by omega)).1]
  repeat (refine ev_np [] rfl rfl rfl ?_)
  exact ev_ri rfl rfl
theorem c_Tokens_place {i : Nat} (h : TK F A T t N i) : xa_rn xa_ms (d + 1) n_Tokens_place [.ref 35] (hp Y F A) (some (.int (nI (tpl T t i)))) (hp Y F A) := by
  obtain ⟨⟨h1, h2⟩, h3, h4, h5, h6⟩ := h
  refine rn_in m_Tokens_place rfl ⟨rfl, rfl⟩ ?_
  show ev _ t_Tokens_place 0 [.ref 35] [] _ _
  repeat (refine ev_np [] rfl rfl rfl ?_)
  refine ev_gi rfl (by rfl) (by rfl) ?_
  rw [h2]
  repeat (refine ev_np [] rfl rfl rfl ?_)
  refine ev_gi rfl (by rfl) (by rfl) ?_
  rw [h1]
  repeat (refine ev_np [] rfl rfl rfl ?_)
  refine ev_ie (nI_ge (by omega) (by omega)) ?_
  repeat (first | refine ev_np [] rfl rfl rfl ?_ | refine ev_grs [] rfl rfl (by rfl) (by rfl) ?_)
  refine ev_gi rfl (by rfl) (by rfl) ?_
  rw [h2]
  refine ev_an rfl (by rfl) rfl (by omega) rfl ?_
  rw [(h3 i (by omega)).2.1]
  repeat (refine ev_np [] rfl rfl rfl ?_)
  exact ev_ri rfl rfl
theorem TK.step {i : Nat} (h : TK F A T t N i) (hi : i < N) : TK (uF F 35 4 (nI (i + 1))) A T t N (i + 1) := by
  obtain ⟨⟨h1, h2⟩, h3, h4, h5, h6⟩ := h
  exact ⟨⟨by rw [uF_n _ _ (by decide)]; exact h1, uF_s _ _ _ _⟩, h3, hi, h5, h6⟩
theorem TK.lt {i : Nat} (h : TK F A T t N i) (hk : tki T t i ≠ 0) : i < N := by
  have h4 := h.2.2.1
  refine Classical.byContradiction fun hne => ?_
  have : i = N := by omega
  subst this
  exact hk (tk_end h.2.2.2.2).1
theorem c_Tokens_advance {i : Nat} (h : TK F A T t N i) (hi : i < N) : xa_rn xa_ms (d + 1) n_Tokens_advance [.ref 35] (hp Y F A) none (hp Y (uF F 35 4 (nI (i + 1))) A) := by
  obtain ⟨⟨h1, h2⟩, h3, h4, h5, h6⟩ := h
  refine rn_in m_Tokens_advance rfl ⟨rfl, rfl⟩ ?_
  show ev _ t_Tokens_advance 0 [.ref 35] [] _ _
  repeat (refine ev_np [] rfl rfl rfl ?_)
  refine ev_gi rfl (by rfl) (by rfl) ?_
  rw [h2]
  repeat (refine ev_np [] rfl rfl rfl ?_)
  refine ev_gi rfl (by rfl) (by rfl) ?_
  rw [h1]
  repeat (refine ev_np [] rfl rfl rfl ?_)
  rw [nI_pred]
  refine ev_ie (nI_ge hi (by omega)) ?_
  repeat (refine ev_np [] rfl rfl rfl ?_)
  refine ev_gi rfl (by rfl) (by rfl) ?_
  rw [h2]
  repeat (refine ev_np [] rfl rfl rfl ?_)
  refine ev_pf rfl (by rfl) ⟨by rfl, by rfl⟩ ?_
  rw [nI_1]
  exact ev_rv rfl
theorem c_Tokens_takeT {i k : Nat} (h : TK F A T t N i) (hk : tki T t i = k) (h0 : k ≠ 0) : xa_rn xa_ms (d + 2) n_Tokens_take [.ref 35, .int (nI k)] (hp Y F A) (some (.int 1)) (hp Y (uF F 35 4 (nI (i + 1))) A) := by
  refine rn_in m_Tokens_take rfl ⟨rfl, rfl⟩ ?_
  show ev _ t_Tokens_take 0 [.ref 35, .int (nI k)] [] _ _
  repeat (refine ev_np [] rfl rfl rfl ?_)
  refine ev_vc rfl (by rfl) (by rfl) rfl (c_Tokens_kind d h) ?_
  rw [hk]
  repeat (refine ev_np [] rfl rfl rfl ?_)
  refine ev_it rfl ?_
  repeat (refine ev_np [] rfl rfl rfl ?_)
  refine ev_vc rfl (by rfl) (by rfl) rfl (c_Tokens_advance d h (h.lt (by rw [hk]; exact h0))) ?_
  repeat (refine ev_np [] rfl rfl rfl ?_)
  exact ev_rz rfl rfl (Or.inr rfl)
theorem c_Tokens_takeF {i k : Nat} (h : TK F A T t N i) (ht : ∀ j, t j < 256) (hk : tki T t i ≠ k) (h9 : k < 1000) : xa_rn xa_ms (d + 2) n_Tokens_take [.ref 35, .int (nI k)] (hp Y F A) (some (.int 0)) (hp Y F A) := by
  have := (tok_b (T := T) (t := t) i ht).1
  refine rn_in m_Tokens_take rfl ⟨rfl, rfl⟩ ?_
  show ev _ t_Tokens_take 0 [.ref 35, .int (nI k)] [] _ _
  repeat (refine ev_np [] rfl rfl rfl ?_)
  refine ev_vc rfl (by rfl) (by rfl) rfl (c_Tokens_kind d h) ?_
  repeat (refine ev_np [] rfl rfl rfl ?_)
  refine ev_ie (fun z => hk ((nI_eq (by omega) (by omega)).mp z)) ?_
  repeat (refine ev_np [] rfl rfl rfl ?_)
  exact ev_rz rfl rfl (Or.inl rfl)
theorem c_takeWorth0 {i k a b : Nat} (h : TK F A T t N i) : ∀ q, ev (d + 1) t_Tokens_takeWorth 30 [.ref 35, .int (nI k), .int (nI a), .int (nI b), .int (nI (two T t i))] [.int (nI (tki T t i))] (hp Y F A) q → ev (d + 1) t_Tokens_takeWorth 0 [.ref 35, .int (nI k), .int (nI a), .int (nI b), .float 0] [] (hp Y F A) q := by
  intro q hq
  obtain ⟨⟨h1, h2⟩, h3, h4, h5, h6⟩ := id h
  repeat (refine ev_np [] rfl rfl rfl ?_)
  refine ev_gi rfl (by rfl) (by rfl) ?_
  rw [h2]
  repeat (refine ev_np [] rfl rfl rfl ?_)
  refine ev_gi rfl (by rfl) (by rfl) ?_
  rw [h1]
  repeat (refine ev_np [] rfl rfl rfl ?_)
  refine ev_ie (nI_ge (by omega) (by omega)) ?_
  repeat (first | refine ev_np [] rfl rfl rfl ?_ | refine ev_grs [] rfl rfl (by rfl) (by rfl) ?_)
  refine ev_gi rfl (by rfl) (by rfl) ?_
  rw [h2]
  refine ev_an rfl (by rfl) rfl (by omega) rfl ?_
  rw [(h3 i (by omega)).2.2]
  repeat (refine ev_np [] rfl rfl rfl ?_)
  refine ev_vc rfl (by rfl) (by rfl) rfl (c_Tokens_kind d h) ?_
  exact hq
theorem c_Tokens_worthT {i k a b : Nat} (h : TK F A T t N i) (ht : ∀ j, t j < 256) (hk : tki T t i = k) (h0 : k ≠ 0) (ha : a ≤ two T t i) (hb : two T t i ≤ b) (hb9 : b < 1000) : xa_rn xa_ms (d + 2) n_Tokens_takeWorth [.ref 35, .int (nI k), .int (nI a), .int (nI b)] (hp Y F A) (some (.int (nI (two T t i)))) (hp Y (uF F 35 4 (nI (i + 1))) A) := by
  have := (tok_b (T := T) (t := t) i ht).2
  refine rn_in m_Tokens_takeWorth rfl ⟨rfl, rfl⟩ ?_
  show ev _ t_Tokens_takeWorth 0 [.ref 35, .int (nI k), .int (nI a), .int (nI b), .float 0] [] _ _
  refine c_takeWorth0 d h _ ?_
  rw [hk]
  repeat (refine ev_np [] rfl rfl rfl ?_)
  refine ev_ie (fun z => z rfl) ?_
  repeat (refine ev_np [] rfl rfl rfl ?_)
  refine ev_ie (nI_nlt ha (by omega)) ?_
  repeat (refine ev_np [] rfl rfl rfl ?_)
  refine ev_it (nI_le hb (by omega)) ?_
  repeat (refine ev_np [] rfl rfl rfl ?_)
  refine ev_vc rfl (by rfl) (by rfl) rfl (c_Tokens_advance d h (h.lt (by rw [hk]; exact h0))) ?_
  repeat (refine ev_np [] rfl rfl rfl ?_)
  exact ev_ri rfl rfl
theorem c_Tokens_worthF {i k a b : Nat} (h : TK F A T t N i) (ht : ∀ j, t j < 256) (hk : ¬ (tki T t i = k ∧ a ≤ two T t i ∧ two T t i ≤ b)) (hk9 : k < 1000) (ha9 : a < 1000) (hb9 : b < 1000) : xa_rn xa_ms (d + 2) n_Tokens_takeWorth [.ref 35, .int (nI k), .int (nI a), .int (nI b)] (hp Y F A) (some (.int (-1))) (hp Y F A) := by
  obtain ⟨q1, q2⟩ := tok_b (T := T) (t := t) i ht
  refine rn_in m_Tokens_takeWorth rfl ⟨rfl, rfl⟩ ?_
  show ev _ t_Tokens_takeWorth 0 [.ref 35, .int (nI k), .int (nI a), .int (nI b), .float 0] [] _ _
  refine c_takeWorth0 d h _ ?_
  repeat (refine ev_np [] rfl rfl rfl ?_)
  by_cases e1 : tki T t i = k
  · rw [e1]
    refine ev_ie (fun z => z rfl) ?_
    repeat (refine ev_np [] rfl rfl rfl ?_)
    by_cases e2 : a ≤ two T t i
    · refine ev_ie (nI_nlt e2 (by omega)) ?_
      repeat (refine ev_np [] rfl rfl rfl ?_)
      refine ev_ie (nI_ge (by omega) (by omega)) ?_
      repeat (refine ev_np [] rfl rfl rfl ?_)
      exact ev_ri rfl rfl
    · refine ev_it (nI_lt (by omega) (by omega)) ?_
      repeat (refine ev_np [] rfl rfl rfl ?_)
      exact ev_ri rfl rfl
  · refine ev_it (fun z => e1 ((nI_eq (by omega) (by omega)).mp z)) ?_
    repeat (refine ev_np [] rfl rfl rfl ?_)
    exact ev_ri rfl rfl
end SPL
