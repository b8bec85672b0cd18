/-! ===== class Text, Tokens ===== -/
def TX (F A : Nat → Nat → Int32) (T : Nat) (t : Nat → Nat) : Prop := F 32 1 = nI T ∧ (∀ j, j < T → A 33 j = nI (t j)) ∧ T ≤ 300 ∧ ∀ j, t j < 256
section LXC
variable {Y : Nat × (Nat → Int32)} {F A : Nat → Nat → Int32} {T : Nat} {t : Nat → Nat} (d : Nat)
theorem TX.frame {F' A' : Nat → Nat → Int32} (h : TX F A T t) (h1 : F' 32 1 = F 32 1) (h2 : A' 33 = A 33) : TX F' A' T t := ⟨h1.trans h.1, by rw [h2]; exact h.2.1, h.2.2⟩
theorem bt_le (h : TX F A T t) (j : Nat) : bt T t j ≤ 256 := by
  unfold bt
  split
  · have := h.2.2.2 j; omega
  · exact Nat.le_refl _
theorem c_Text_byteAt (h : TX F A T t) {j : Nat} (hj : j < 1000) : xa_rn xa_ms (d + 1) n_Text_byteAt [.ref 32, .int (nI j)] (hp Y F A) (some (.int (bI (bt T t j)))) (hp Y F A) := by
  have hT := h.2.2.1
  refine rn_in m_Text_byteAt rfl ⟨rfl, rfl⟩ ?_
  show ev _ t_Text_byteAt 0 [.ref 32, .int (nI j)] [] _ _
  repeat (refine ev_np [] rfl rfl rfl ?_)
  refine ev_ie (nI_pos (by omega)) ?_
  repeat (refine ev_np [] rfl rfl rfl ?_)
  refine ev_gi rfl (by rfl) (by rfl) ?_
  rw [h.1]
  repeat (refine ev_np [] rfl rfl rfl ?_)
  by_cases e : j < T
  · refine ev_ie (nI_ge e (by omega)) ?_
    repeat (first | refine ev_np [] rfl rfl rfl ?_ | refine ev_grs [] rfl rfl (by rfl) (by rfl) ?_)
    refine ev_an rfl (by rfl) rfl (by omega) rfl ?_
    rw [h.2.1 j e]
    repeat (refine ev_np [] rfl rfl rfl ?_)
    refine ev_ri rfl ?_
    unfold bI bt
    rw [if_pos e, if_pos (h.2.2.2 j)]
  · refine ev_it (nI_le (by omega) (by omega)) ?_
    repeat (refine ev_np [] rfl rfl rfl ?_)
    refine ev_ri rfl ?_
    unfold bI bt
    rw [if_neg e]
    rfl
theorem bI_lt {b : Nat} (hb : b < 256) : bI b = nI b := if_pos hb
theorem bI_256 : bI 256 = -1 := rfl
theorem c_Tokens_isDigit {b : Nat} (hb : b ≤ 256) {h : xa_H} : xa_rn xa_ms (d + 1) n_Tokens_isDigit [.int (bI b)] h (some (.int (z01 (isD b)))) h := by
  refine rn_in m_Tokens_isDigit rfl ⟨rfl, rfl⟩ ?_
  show ev _ t_Tokens_isDigit 0 [.int (bI b)] [] _ _
  by_cases e : b = 256
  · subst e
    repeat (refine ev_np [] rfl rfl rfl ?_)
    exact ev_rz rfl rfl (z01_b _)
  rw [bI_lt (by omega)]
  repeat (refine ev_np [] rfl rfl rfl ?_)
  by_cases e1 : 48 ≤ b
  · refine ev_ie (nI_nlt (b := 48) e1 (by omega)) ?_
    repeat (refine ev_np [] rfl rfl rfl ?_)
    by_cases e2 : b ≤ 57
    · refine ev_ie (nI_nlt (a := 57) e2 (by omega)) ?_
      repeat (refine ev_np [] rfl rfl rfl ?_)
      exact ev_rz rfl (by simp [isD, e1, e2, z01]) (z01_b _)
    · refine ev_it (nI_lt (a := 57) (by omega) (by omega)) ?_
      repeat (refine ev_np [] rfl rfl rfl ?_)
      exact ev_rz rfl (by simp [isD, e2, z01]) (z01_b _)
  · refine ev_it (nI_lt (b := 48) (by omega) (by omega)) ?_
    repeat (refine ev_np [] rfl rfl rfl ?_)
    exact ev_rz rfl (by simp [isD, e1, z01]) (z01_b _)
theorem c_Tokens_isWordLetter {b : Nat} (hb : b ≤ 256) {h : xa_H} : xa_rn xa_ms (d + 1) n_Tokens_isWordLetter [.int (bI b)] h (some (.int (z01 (isW b)))) h := by
  refine rn_in m_Tokens_isWordLetter rfl ⟨rfl, rfl⟩ ?_
  show ev _ t_Tokens_isWordLetter 0 [.int (bI b)] [] _ _
  by_cases e : b = 256
  · subst e
    repeat (refine ev_np [] rfl rfl rfl ?_)
    exact ev_rz rfl rfl (z01_b _)
  rw [bI_lt (by omega)]
  repeat (refine ev_np [] rfl rfl rfl ?_)
  by_cases e1 : 97 ≤ b
  · refine ev_ie (nI_nlt (b := 97) e1 (by omega)) ?_
    repeat (refine ev_np [] rfl rfl rfl ?_)
    by_cases e2 : b ≤ 122
    · refine ev_ie (nI_nlt (a := 122) e2 (by omega)) ?_
      repeat (refine ev_np [] rfl rfl rfl ?_)
      exact ev_rz rfl (by simp [isW, e1, e2, z01]) (z01_b _)
    · refine ev_it (nI_lt (a := 122) (by omega) (by omega)) ?_
      repeat (refine ev_np [] rfl rfl rfl ?_)
      exact ev_rz rfl (by simp [isW, e2, z01]) (z01_b _)
  · refine ev_it (nI_lt (b := 97) (by omega) (by omega)) ?_
    repeat (refine ev_np [] rfl rfl rfl ?_)
    exact ev_rz rfl (by simp [isW, e1, z01]) (z01_b _)
theorem bI_inj {b c : Nat} (hb : b ≤ 256) (hc : c < 256) : bI b = nI c ↔ b = c := by
  by_cases e : b = 256
  · subst e
    rw [bI_256]
    constructor
    · intro z
      exact absurd (show nI c < 0 by rw [← z]; decide) (nI_pos (by omega))
    · intro z; omega
  · rw [bI_lt (by omega)]
    exact nI_eq (by omega) (by omega)
/-- whether a word stands there -/
theorem c_Text_spells (h : TX F A T t) {o v n : Nat} {f : Nat → Int32} (hs : SO (hp Y F A) o v n f) {c : Nat → Nat} (hf : ∀ k, k < n → f k = nI (c k) ∧ c k < 256) {a e : Nat} (ha : a ≤ e) (he : e < 500) (hn : n ≤ 100) : xa_rn xa_ms (d + 5) n_Text_spells [.ref 32, .int (nI a), .int (nI e), .ref o] (hp Y F A) (some (.int (z01 (decide (e - a = n) && (List.range n).all (fun k => decide (bt T t (a + k) = c k)))))) (hp Y F A) := by
  refine rn_in m_Text_spells rfl ⟨rfl, rfl⟩ ?_
  show ev _ t_Text_spells 0 [.ref 32, .int (nI a), .int (nI e), .ref o, .float 0] [] _ _
  repeat (refine ev_np [] rfl rfl rfl ?_)
  refine ev_vh rfl rfl hs.1 rfl (c_Str_length (d + 2) hs) ?_
  rw [pk_sub ha]
  repeat (refine ev_np [] rfl rfl rfl ?_)
  by_cases en : e - a = n
  · rw [decide_eq_true en, Bool.true_and]
    refine ev_it (by rw [en]; rfl) ?_
    repeat (refine ev_np [15] rfl rfl rfl ?_)
    have key : ∀ m k, k + m = n → (List.range k).all (fun k => decide (bt T t (a + k) = c k)) = true → ev (d + 4) t_Text_spells 15 [.ref 32, .int (nI a), .int (nI e), .ref o, .int (nI k)] [] (hp Y F A) (some (.int (z01 ((List.range n).all (fun k => decide (bt T t (a + k) = c k))))), hp Y F A) := by
      intro m
      induction m with
      | zero =>
        intro k hk hall
        have : k = n := by omega
        subst this
        rw [hall]
        repeat (refine ev_np [] rfl rfl rfl ?_)
        refine ev_vh rfl rfl hs.1 rfl (c_Str_length (d + 2) hs) ?_
        repeat (refine ev_np [] rfl rfl rfl ?_)
        refine ev_it (nI_le (Nat.le_refl _) (by omega)) ?_
        repeat (refine ev_np [] rfl rfl rfl ?_)
        exact ev_rz rfl rfl (Or.inr rfl)
      | succ m ih =>
        intro k hk hall
        obtain ⟨q1, q2⟩ := hf k (by omega)
        repeat (refine ev_np [] rfl rfl rfl ?_)
        refine ev_vh rfl rfl hs.1 rfl (c_Str_length (d + 2) hs) ?_
        repeat (refine ev_np [] rfl rfl rfl ?_)
        refine ev_ie (nI_ge (by omega) (by omega)) ?_
        repeat (refine ev_np [] rfl rfl rfl ?_)
        rw [nI_add]
        refine ev_vc rfl (by rfl) (by rfl) rfl (c_Text_byteAt (d + 3) h (j := a + k) (by omega)) ?_
        repeat (refine ev_np [] rfl rfl rfl ?_)
        refine ev_vh rfl rfl hs.1 rfl (c_Str_charAt d hs (by omega) q1 q2) ?_
        repeat (refine ev_np [] rfl rfl rfl ?_)
        by_cases e2 : bt T t (a + k) = c k
        · refine ev_it ((bI_inj (bt_le h _) q2).mpr e2) ?_
          repeat (refine ev_np [15] rfl rfl rfl ?_)
          rw [nI_1]
          exact ih (k + 1) (by omega) (by rw [all_B, hall, decide_eq_true e2]; rfl)
        · refine ev_ie (fun z => e2 ((bI_inj (bt_le h _) q2).mp z)) ?_
          have : (List.range n).all (fun k => decide (bt T t (a + k) = c k)) = false := by
            cases hh : (List.range n).all (fun k => decide (bt T t (a + k) = c k)) with
            | false => rfl
            | true =>
              have := List.all_eq_true.mp hh k (List.mem_range.mpr (by omega))
              exact absurd (of_decide_eq_true this) e2
          rw [this]
          repeat (refine ev_np [] rfl rfl rfl ?_)
          exact ev_rz rfl rfl (Or.inl rfl)
    exact key n 0 (Nat.zero_add n) rfl
  · rw [decide_eq_false en, Bool.false_and]
    refine ev_ie (fun z => en ((nI_eq (by omega) (by omega)).mp z)) ?_
    repeat (refine ev_np [] rfl rfl rfl ?_)
    exact ev_rz rfl rfl (Or.inl rfl)
theorem c_Tokens_kindOfWord (h : TX F A T t) {a e : Nat} (ha : a ≤ e) (he : e < 500) : xa_rn xa_ms (d + 6) n_Tokens_kindOfWord [.ref 32, .int (nI a), .int (nI e)] (hp Y F A) (some (.int (nI (wrd T t a (e - a))))) (hp Y F A) := by
  have s1 := c_Text_spells (Y := Y) d h SO1 (c := fun k => ([115, 116, 97, 116, 101, 115] : List Nat).getD k 0) (fun k hk => by
    have : k = 0 ∨ k = 1 ∨ k = 2 ∨ k = 3 ∨ k = 4 ∨ k = 5 := by omega
    rcases this with rfl | rfl | rfl | rfl | rfl | rfl <;> exact ⟨rfl, by decide⟩) ha he (by decide)
  have s2 := c_Text_spells (Y := Y) d h SO2 (c := fun k => ([109, 97, 121] : List Nat).getD k 0) (fun k hk => by
    have : k = 0 ∨ k = 1 ∨ k = 2 := by omega
    rcases this with rfl | rfl | rfl <;> exact ⟨rfl, by decide⟩) ha he (by decide)
  have s3 := c_Text_spells (Y := Y) d h SO3 (c := fun k => ([109, 117, 115, 116] : List Nat).getD k 0) (fun k hk => by
    have : k = 0 ∨ k = 1 ∨ k = 2 ∨ k = 3 := by omega
    rcases this with rfl | rfl | rfl | rfl <;> exact ⟨rfl, by decide⟩) ha he (by decide)
  have b1 : (decide (e - a = 6) && (List.range 6).all (fun k => decide (bt T t (a + k) = ([115, 116, 97, 116, 101, 115] : List Nat).getD k 0))) = decide (e - a = 6 ∧ (bt T t a = 115 ∧ bt T t (a + 1) = 116 ∧ bt T t (a + 2) = 97) ∧ (bt T t (a + 3) = 116 ∧ bt T t (a + 4) = 101 ∧ bt T t (a + 5) = 115)) := by
    simp [List.range_succ, Bool.and_assoc]
  have b2 : (decide (e - a = 3) && (List.range 3).all (fun k => decide (bt T t (a + k) = ([109, 97, 121] : List Nat).getD k 0))) = decide (e - a = 3 ∧ bt T t a = 109 ∧ bt T t (a + 1) = 97 ∧ bt T t (a + 2) = 121) := by
    simp [List.range_succ, Bool.and_assoc]
  have b3 : (decide (e - a = 4) && (List.range 4).all (fun k => decide (bt T t (a + k) = ([109, 117, 115, 116] : List Nat).getD k 0))) = decide (e - a = 4 ∧ (bt T t a = 109 ∧ bt T t (a + 1) = 117 ∧ bt T t (a + 2) = 115) ∧ bt T t (a + 3) = 116) := by
    simp [List.range_succ, Bool.and_assoc]
  rw [b1] at s1
  rw [b2] at s2
  rw [b3] at s3
  refine rn_in m_Tokens_kindOfWord rfl ⟨rfl, rfl⟩ ?_
  show ev _ t_Tokens_kindOfWord 0 [.ref 32, .int (nI a), .int (nI e)] [] _ _
  repeat (refine ev_np [] rfl rfl rfl ?_)
  refine ev_vc rfl (by rfl) (by rfl) rfl (s1) ?_
  unfold wrd
  by_cases e1 : e - a = 6 ∧ (bt T t a = 115 ∧ bt T t (a + 1) = 116 ∧ bt T t (a + 2) = 97) ∧ (bt T t (a + 3) = 116 ∧ bt T t (a + 4) = 101 ∧ bt T t (a + 5) = 115)
  · rw [decide_eq_true e1, if_pos e1]
    repeat (refine ev_np [] rfl rfl rfl ?_)
    exact ev_ri rfl rfl
  · rw [decide_eq_false e1, if_neg e1]
    repeat (refine ev_np [] rfl rfl rfl ?_)
    refine ev_vc rfl (by rfl) (by rfl) rfl (s2) ?_
    by_cases e2 : e - a = 3 ∧ bt T t a = 109 ∧ bt T t (a + 1) = 97 ∧ bt T t (a + 2) = 121
    · rw [decide_eq_true e2, if_pos e2]
      repeat (refine ev_np [] rfl rfl rfl ?_)
      exact ev_ri rfl rfl
    · rw [decide_eq_false e2, if_neg e2]
      repeat (refine ev_np [] rfl rfl rfl ?_)
      refine ev_vc rfl (by rfl) (by rfl) rfl (s3) ?_
      by_cases e3 : e - a = 4 ∧ (bt T t a = 109 ∧ bt T t (a + 1) = 117 ∧ bt T t (a + 2) = 115) ∧ bt T t (a + 3) = 116
      · rw [decide_eq_true e3, if_pos e3]
        repeat (refine ev_np [] rfl rfl rfl ?_)
        exact ev_ri rfl rfl
      · rw [decide_eq_false e3, if_neg e3]
        repeat (refine ev_np [] rfl rfl rfl ?_)
        exact ev_ri rfl rfl
/-- a token is kept -/
theorem c_Tokens_keep {s : Nat} (hs : s ≤ 300) (hF : F 35 3 = nI s) (k p w : Int32) : ∃ F' A', xa_rn xa_ms (d + 1) n_Tokens_keep [.ref 35, .int k, .int p, .int w] (hp Y F A) none (hp Y F' A') ∧ sA [36, 37, 38] A A' ∧ sF [3503] F F' ∧ F' 35 3 = nI (s + 1) ∧ (A' 36 s = k ∧ A' 37 s = p ∧ A' 38 s = w) ∧ (∀ x, x ≠ s → A' 36 x = A 36 x ∧ A' 37 x = A 37 x ∧ A' 38 x = A 38 x) := by
  refine ⟨uF F 35 3 (nI s + 1), va_up (va_up (va_up A 36 (upd (A 36) s k)) 37 (upd (A 37) s p)) 38 (upd (A 38) s w), ?_, (sA.up (by decide)).tr ((sA.up (by decide)).tr (sA.up (by decide))), sF.up (by decide), by rw [uF_s, nI_1], ⟨?_, ?_, ?_⟩, fun x hx => ⟨?_, ?_, ?_⟩⟩
  · refine rn_in m_Tokens_keep rfl ⟨rfl, rfl⟩ ?_
    show ev _ t_Tokens_keep 0 [.ref 35, .int k, .int p, .int w] [] _ _
    repeat (refine ev_np [] rfl rfl rfl ?_)
    refine ev_gi rfl (by rfl) (by rfl) ?_
    rw [hF]
    repeat (refine ev_np [] rfl rfl rfl ?_)
    refine ev_ie (nI_nlt (a := 300) hs (by omega)) ?_
    repeat (first | refine ev_np [] rfl rfl rfl ?_ | refine ev_grs [] rfl rfl (by rfl) (by rfl) ?_)
    refine ev_gi rfl (by rfl) (by rfl) ?_
    rw [hF]
    repeat (refine ev_np [] rfl rfl rfl ?_)
    refine ev_am rfl (by rfl) rfl (by omega) rfl ?_
    repeat (first | refine ev_np [] rfl rfl rfl ?_ | refine ev_grs [] rfl rfl (by rfl) (by rfl) ?_)
    refine ev_gi rfl (by rfl) (by rfl) ?_
    rw [hF]
    repeat (refine ev_np [] rfl rfl rfl ?_)
    refine ev_am rfl (by rfl) rfl (by omega) rfl ?_
    repeat (first | refine ev_np [] rfl rfl rfl ?_ | refine ev_grs [] rfl rfl (by rfl) (by rfl) ?_)
    refine ev_gi rfl (by rfl) (by rfl) ?_
    rw [hF]
    repeat (refine ev_np [] rfl rfl rfl ?_)
    refine ev_am rfl (by rfl) rfl (by omega) rfl ?_
    repeat (refine ev_np [] rfl rfl rfl ?_)
    refine ev_gi rfl (by rfl) (by rfl) ?_
    rw [hF]
    repeat (refine ev_np [] rfl rfl rfl ?_)
    refine ev_pf rfl (by rfl) ⟨by rfl, by rfl⟩ ?_
    exact ev_rv rfl
  · rw [va_up_n _ _ (by decide), va_up_n _ _ (by decide), va_up_s, pk_us]
  · rw [va_up_n _ _ (by decide), va_up_s, pk_us]
  · rw [va_up_s, pk_us]
  · rw [va_up_n _ _ (by decide), va_up_n _ _ (by decide), va_up_s, pk_un hx]
  · rw [va_up_n _ _ (by decide), va_up_s, pk_un hx]
  · rw [va_up_s, pk_un hx]
/-- the first s tokens stand there -/
def TA (A : Nat → Nat → Int32) (T : Nat) (t : Nat → Nat) (s : Nat) : Prop := ∀ x, x < s → A 36 x = nI (tki T t x) ∧ A 37 x = nI (tpl T t x) ∧ A 38 x = nI (two T t x)
theorem TA.more {A' : Nat → Nat → Int32} {s : Nat} (h : TA A T t s) (h1 : A' 36 s = nI (tki T t s) ∧ A' 37 s = nI (tpl T t s) ∧ A' 38 s = nI (two T t s)) (h2 : ∀ x, x ≠ s → A' 36 x = A 36 x ∧ A' 37 x = A 37 x ∧ A' 38 x = A 38 x) : TA A' T t (s + 1) := by
  intro x hx
  by_cases e : x = s
  · subst e; exact h1
  · obtain ⟨a, b, c⟩ := h2 x e
    rw [a, b, c]
    exact h x (by omega)
set_option maxRecDepth 20000 in
set_option maxHeartbeats 2000000 in
theorem c_Tokens_cut (h : TX F A T t) {s j : Nat} (hs : s ≤ 300) (hF : F 35 3 = nI s) (hj : j < T) (hpl : tpl T t s = j) (hta : TA A T t s) : ∃ F' A', xa_rn xa_ms (d + 8) n_Tokens_cut [.ref 35, .ref 32, .int (nI j)] (hp Y F A) (some (.int (nI (tst T t (s + 1))))) (hp Y F' A') ∧ sA [36, 37, 38] A A' ∧ sF [3503] F F' ∧ F' 35 3 = nI (s + 1) ∧ TA A' T t (s + 1) := by
  have hT := h.2.2.1
  have hlx : tst T t (s + 1) = (lex T t j).2.2 := by rw [tst_s s (by omega), hpl]
  have hki : tki T t s = (lex T t j).1 := by unfold tki; rw [hpl, if_pos hj]
  have hwo : two T t s = (lex T t j).2.1 := by unfold two; rw [hpl, if_pos hj]
  obtain ⟨en1, en2⟩ := lex_end (t := t) hj
  have hb := bt_le h j
  have hb256 : bt T t j < 256 := by unfold bt; rw [if_pos hj]; exact h.2.2.2 j
  obtain ⟨k, hk⟩ : ∃ k, k = (lex T t j).1 := ⟨_, rfl⟩
  obtain ⟨w, hw⟩ : ∃ w, w = (lex T t j).2.1 := ⟨_, rfl⟩
  obtain ⟨e, he⟩ : ∃ e, e = (lex T t j).2.2 := ⟨_, rfl⟩
  obtain ⟨F1, A1, a1, a2, a3, a4, a5, a6⟩ := c_Tokens_keep (Y := Y) (F := F) (A := A) (d + 5) hs hF (nI k) (nI j) (nI w)
  obtain ⟨F2, A2, b1, b2, b3, b4, b5, b6⟩ := c_Tokens_keep (Y := Y) (F := F) (A := A) (d + 6) hs hF (nI k) (nI j) (nI w)
  rw [hlx, ← he]
  by_cases hD : isD (bt T t j) = true
  · -- a number
    have hlex : lex T t j = (if nvC T t j (runD T t j - j) > 99 ∨ (1 < runD T t j - j ∧ bt T t j = 48) then 1 else 2, nvC T t j (runD T t j - j), runD T t j) := by unfold lex; rw [if_pos hD]
    have heD : e = runD T t j := by rw [he, hlex]
    have hwD : w = nvC T t j (e - j) := by rw [hw, heD, hlex]
    have hkD : k = if w > 99 ∨ (1 < e - j ∧ bt T t j = 48) then 1 else 2 := by rw [hk, hwD, heD, hlex]
    have hw100 : w ≤ 100 := by rw [hwD]; exact nv_le j _
    refine ⟨F1, A1, ?_, a2, a3, a4, hta.more ⟨by rw [a5.1, hki, hk], by rw [a5.2.1, hpl], by rw [a5.2.2, hwo, hw]⟩ a6⟩
    have hcn : xa_rn xa_ms (d + 7) n_Tokens_cutNumber [.ref 35, .ref 32, .int (nI j)] (hp Y F A) (some (.int (nI e))) (hp Y F1 A1) := by
      refine rn_in m_Tokens_cutNumber rfl ⟨rfl, rfl⟩ ?_
      show ev _ t_Tokens_cutNumber 0 [.ref 35, .ref 32, .int (nI j), .float 0, .float 0, .float 0] [] _ _
      repeat (refine ev_np [5] rfl rfl rfl ?_)
      have hin : ∀ m, m < e - j → isD (bt T t (j + m)) = true := fun m hm => runP_in (fun j => isD (bt T t j)) (T - j) j (j + m) (by omega) (by have : e = runP (fun j => isD (bt T t j)) (T - j) j := heD; omega)
      have key := lp_to (E := fun m q => ev (d + 6) t_Tokens_cutNumber 5 [.ref 35, .ref 32, .int (nI j), .int (nI (nvC T t j m)), .int (nI (j + m)), .float 0] [] (hp Y F A) q) (e - j) (fun m hm q hq => by
        have hd := hin m hm
        have hd2 := hd
        unfold isD at hd2
        simp only [Bool.and_eq_true, decide_eq_true_eq] at hd2
        have hnv := nv_le (T := T) (t := t) j m
        rw [show j + (m + 1) = j + m + 1 from rfl, nI_succ (j + m)] at hq
        simp only [nvC] at hq
        repeat (refine ev_np [] rfl rfl rfl ?_)
        refine ev_ie (nI_ge (b := 300) (by omega) (by omega)) ?_
        repeat (refine ev_np [] rfl rfl rfl ?_)
        refine ev_vc rfl (by rfl) (by rfl) rfl (c_Text_byteAt (d + 5) h (j := j + m) (by omega)) ?_
        repeat (refine ev_np [] rfl rfl rfl ?_)
        refine ev_ca rfl (c_Tokens_isDigit (d + 5) (bt_le h _)) ?_
        rw [hd]
        repeat (refine ev_np [] rfl rfl rfl ?_)
        refine ev_vc rfl (by rfl) (by rfl) rfl (c_Text_byteAt (d + 5) h (j := j + m) (by omega)) ?_
        rw [bI_lt (by omega)]
        repeat (refine ev_np [5] rfl rfl rfl ?_)
        have ea : nI (nvC T t j m) * 10 + nI (bt T t (j + m)) - 48 = nI (nvC T t j m * 10 + bt T t (j + m) - 48) := by
          rw [show (10 : Int32) = nI 10 from rfl, pk_mul, nI_add]
          exact pk_sub (b := 48) (by omega)
        rw [ea]
        have eb : (if (100 : Int32) < nI (nvC T t j m * 10 + bt T t (j + m) - 48) then (100 : Int32) else nI (nvC T t j m * 10 + bt T t (j + m) - 48)) = nI (min (nvC T t j m * 10 + bt T t (j + m) - 48) 100) := by
          by_cases hc : 100 < nvC T t j m * 10 + bt T t (j + m) - 48
          · rw [if_pos (show (100 : Int32) < nI (nvC T t j m * 10 + bt T t (j + m) - 48) from nI_lt (a := 100) hc (by omega)), show min (nvC T t j m * 10 + bt T t (j + m) - 48) 100 = 100 by omega]
            rfl
          · rw [if_neg (show ¬ (100 : Int32) < nI (nvC T t j m * 10 + bt T t (j + m) - 48) from nI_nlt (a := 100) (by omega) (by omega)), show min (nvC T t j m * 10 + bt T t (j + m) - 48) 100 = nvC T t j m * 10 + bt T t (j + m) - 48 by omega]
        rw [eb]
        exact hq) (some (.int (nI e)), hp Y F1 A1) (by
        rw [← hwD, show j + (e - j) = e by omega]
        have tail : ev (d + 6) t_Tokens_cutNumber 51 [.ref 35, .ref 32, .int (nI j), .int (nI w), .int (nI e), .float 0] [] (hp Y F A) (some (.int (nI e)), hp Y F1 A1) := by
          have tail2 : ∀ z : Bool, z = (decide (1 < e - j) && decide (bt T t j = 48)) → ev (d + 6) t_Tokens_cutNumber 76 [.ref 35, .ref 32, .int (nI j), .int (nI w), .int (nI e), .int (z01 z)] [] (hp Y F A) (some (.int (nI e)), hp Y F1 A1) := by
            intro z hz
            by_cases hw9 : w > 99
            · rw [if_pos (Or.inl hw9)] at hkD
              rw [hkD] at a1
              repeat (refine ev_np [] rfl rfl rfl ?_)
              refine ev_it (nI_lt (a := 99) hw9 (by omega)) ?_
              repeat (refine ev_np [] rfl rfl rfl ?_)
              refine ev_vc rfl (by rfl) (by rfl) rfl (a1) ?_
              repeat (refine ev_np [] rfl rfl rfl ?_)
              exact ev_ri rfl rfl
            · repeat (refine ev_np [] rfl rfl rfl ?_)
              refine ev_ie (nI_nlt (a := 99) (by omega) (by omega)) ?_
              cases hz1 : z with
              | true =>
                rw [hz1] at hz
                have hz2 : 1 < e - j ∧ bt T t j = 48 := by simpa using hz.symm
                rw [if_pos (Or.inr hz2)] at hkD
                rw [hkD] at a1
                repeat (refine ev_np [] rfl rfl rfl ?_)
                refine ev_vc rfl (by rfl) (by rfl) rfl (a1) ?_
                repeat (refine ev_np [] rfl rfl rfl ?_)
                exact ev_ri rfl rfl
              | false =>
                rw [hz1] at hz
                have hz2 : ¬ (1 < e - j ∧ bt T t j = 48) := fun zz => by simp [zz.1, zz.2] at hz
                rw [if_neg (fun zz => zz.elim hw9 hz2)] at hkD
                rw [hkD] at a1
                repeat (refine ev_np [] rfl rfl rfl ?_)
                refine ev_vc rfl (by rfl) (by rfl) rfl (a1) ?_
                repeat (refine ev_np [] rfl rfl rfl ?_)
                exact ev_ri rfl rfl
          repeat (refine ev_np [] rfl rfl rfl ?_)
          rw [pk_sub (by omega)]
          by_cases h1 : 1 < e - j
          · refine ev_ie (nI_ge (a := 1) h1 (by omega)) ?_
            repeat (refine ev_np [] rfl rfl rfl ?_)
            refine ev_vc rfl (by rfl) (by rfl) rfl (c_Text_byteAt (d + 5) h (j := j) (by omega)) ?_
            repeat (refine ev_np [] rfl rfl rfl ?_)
            by_cases h2 : bt T t j = 48
            · refine ev_ie (fun z => z ((bI_inj hb (c := 48) (by decide)).mpr h2)) ?_
              repeat (refine ev_np [76] rfl rfl rfl ?_)
              exact tail2 true (by simp [h1, h2])
            · refine ev_it (fun z => h2 ((bI_inj hb (c := 48) (by decide)).mp z)) ?_
              repeat (refine ev_np [76] rfl rfl rfl ?_)
              exact tail2 false (by simp [h2])
          · refine ev_it (nI_le (b := 1) (by omega) (by omega)) ?_
            repeat (refine ev_np [76] rfl rfl rfl ?_)
            exact tail2 false (by simp [h1])
        by_cases h300 : e < 300
        · repeat (refine ev_np [] rfl rfl rfl ?_)
          refine ev_ie (nI_ge (b := 300) h300 (by omega)) ?_
          repeat (refine ev_np [] rfl rfl rfl ?_)
          refine ev_vc rfl (by rfl) (by rfl) rfl (c_Text_byteAt (d + 5) h (j := e) (by omega)) ?_
          repeat (refine ev_np [] rfl rfl rfl ?_)
          refine ev_ca rfl (c_Tokens_isDigit (d + 5) (bt_le h _)) ?_
          rw [show isD (bt T t e) = false by rw [heD]; exact runD_stop j (by omega)]
          repeat (refine ev_np [51] rfl rfl rfl ?_)
          exact tail
        · repeat (refine ev_np [] rfl rfl rfl ?_)
          refine ev_it (nI_le (a := 300) (by omega) (by omega)) ?_
          exact tail)
      exact key
    refine rn_in m_Tokens_cut rfl ⟨rfl, rfl⟩ ?_
    show ev _ t_Tokens_cut 0 [.ref 35, .ref 32, .int (nI j), .float 0] [] _ _
    repeat (refine ev_np [] rfl rfl rfl ?_)
    refine ev_vc rfl (by rfl) (by rfl) rfl (c_Text_byteAt (d + 6) h (j := j) (by omega)) ?_
    repeat (refine ev_np [] rfl rfl rfl ?_)
    refine ev_ca rfl (c_Tokens_isDigit (d + 6) hb) ?_
    rw [hD]
    repeat (refine ev_np [] rfl rfl rfl ?_)
    refine ev_vc rfl (by rfl) (by rfl) rfl (hcn) ?_
    exact ev_ri rfl rfl
  · have hD' : isD (bt T t j) = false := by simpa using hD
    by_cases hW : isW (bt T t j) = true
    · -- a word
      have hlex : lex T t j = (if runW T t j - j = 1 ∧ bt T t j < 100 then (3, bt T t j - 97, runW T t j) else (wrd T t j (runW T t j - j), 0, runW T t j)) := by unfold lex; rw [if_neg hD, if_pos hW]
      have heW : e = runW T t j := by
        rw [he, hlex]
        split <;> rfl
      have hW2 := hW
      unfold isW at hW2
      simp only [Bool.and_eq_true, decide_eq_true_eq] at hW2
      refine ⟨F1, A1, ?_, a2, a3, a4, hta.more ⟨by rw [a5.1, hki, hk], by rw [a5.2.1, hpl], by rw [a5.2.2, hwo, hw]⟩ a6⟩
      have hcw : xa_rn xa_ms (d + 7) n_Tokens_cutWord [.ref 35, .ref 32, .int (nI j)] (hp Y F A) (some (.int (nI e))) (hp Y F1 A1) := by
        refine rn_in m_Tokens_cutWord rfl ⟨rfl, rfl⟩ ?_
        show ev _ t_Tokens_cutWord 0 [.ref 35, .ref 32, .int (nI j), .float 0, .float 0] [] _ _
        repeat (refine ev_np [2] rfl rfl rfl ?_)
        have hin : ∀ m, m < e - j → isW (bt T t (j + m)) = true := fun m hm => runP_in (fun j => isW (bt T t j)) (T - j) j (j + m) (by omega) (by have : e = runP (fun j => isW (bt T t j)) (T - j) j := heW; omega)
        have key := lp_to (E := fun m q => ev (d + 6) t_Tokens_cutWord 2 [.ref 35, .ref 32, .int (nI j), .int (nI (j + m)), .float 0] [] (hp Y F A) q) (e - j) (fun m hm q hq => by
          have hd := hin m hm
          rw [show j + (m + 1) = j + m + 1 from rfl, nI_succ (j + m)] at hq
          repeat (refine ev_np [] rfl rfl rfl ?_)
          refine ev_ie (nI_ge (b := 300) (by omega) (by omega)) ?_
          repeat (refine ev_np [] rfl rfl rfl ?_)
          refine ev_vc rfl (by rfl) (by rfl) rfl (c_Text_byteAt (d + 5) h (j := j + m) (by omega)) ?_
          repeat (refine ev_np [] rfl rfl rfl ?_)
          refine ev_ca rfl (c_Tokens_isWordLetter (d + 5) (bt_le h _)) ?_
          rw [hd]
          repeat (refine ev_np [2] rfl rfl rfl ?_)
          exact hq) (some (.int (nI e)), hp Y F1 A1) (by
          rw [show j + (e - j) = e by omega]
          have tail : ev (d + 6) t_Tokens_cutWord 26 [.ref 35, .ref 32, .int (nI j), .int (nI e), .float 0] [] (hp Y F A) (some (.int (nI e)), hp Y F1 A1) := by
            have slow : ¬ (e - j = 1 ∧ bt T t j < 100) → ∀ x4 : Int32, ev (d + 6) t_Tokens_cutWord 60 [.ref 35, .ref 32, .int (nI j), .int (nI e), .int x4] [] (hp Y F A) (some (.int (nI e)), hp Y F1 A1) := by
              intro hno x4
              rw [← heW, if_neg hno] at hlex
              have hk1 : k = wrd T t j (e - j) := by rw [hk, hlex]
              have hw1 : w = 0 := by rw [hw, hlex]
              rw [hk1, hw1] at a1
              repeat (refine ev_np [] rfl rfl rfl ?_)
              refine ev_ca rfl (c_Tokens_kindOfWord d h (a := j) (e := e) (by omega) (by omega)) ?_
              repeat (refine ev_np [] rfl rfl rfl ?_)
              refine ev_vc rfl (by rfl) (by rfl) rfl (a1) ?_
              repeat (refine ev_np [] rfl rfl rfl ?_)
              exact ev_ri rfl rfl
            repeat (refine ev_np [] rfl rfl rfl ?_)
            refine ev_vc rfl (by rfl) (by rfl) rfl (c_Text_byteAt (d + 5) h (j := j) (by omega)) ?_
            rw [bI_lt hb256]
            repeat (refine ev_np [] rfl rfl rfl ?_)
            rw [pk_sub (a := e) (b := j) (by omega), show nI (bt T t j) - 97 = nI (bt T t j - 97) from pk_sub (b := 97) (by omega)]
            by_cases h1 : e - j = 1
            · rw [h1]
              repeat (refine ev_np [] rfl rfl rfl ?_)
              by_cases h2 : bt T t j < 100
              · rw [← heW, if_pos ⟨h1, h2⟩] at hlex
                have hk1 : k = 3 := by rw [hk, hlex]
                have hw1 : w = bt T t j - 97 := by rw [hw, hlex]
                rw [hk1, hw1] at a1
                refine ev_ie (nI_ge (b := 3) (by omega) (by omega)) ?_
                repeat (refine ev_np [] rfl rfl rfl ?_)
                refine ev_vc rfl (by rfl) (by rfl) rfl (a1) ?_
                repeat (refine ev_np [] rfl rfl rfl ?_)
                exact ev_ri rfl rfl
              · refine ev_it (nI_le (a := 3) (by omega) (by omega)) ?_
                exact slow (fun z => h2 z.2) _
            · refine ev_it (fun z => h1 ((nI_eq (b := 1) (by omega) (by omega)).mp z)) ?_
              exact slow (fun z => h1 z.1) _
          by_cases h300 : e < 300
          · repeat (refine ev_np [] rfl rfl rfl ?_)
            refine ev_ie (nI_ge (b := 300) h300 (by omega)) ?_
            repeat (refine ev_np [] rfl rfl rfl ?_)
            refine ev_vc rfl (by rfl) (by rfl) rfl (c_Text_byteAt (d + 5) h (j := e) (by omega)) ?_
            repeat (refine ev_np [] rfl rfl rfl ?_)
            refine ev_ca rfl (c_Tokens_isWordLetter (d + 5) (bt_le h _)) ?_
            rw [show isW (bt T t e) = false by rw [heW]; exact runW_stop j (by omega)]
            repeat (refine ev_np [26] rfl rfl rfl ?_)
            exact tail
          · repeat (refine ev_np [] rfl rfl rfl ?_)
            refine ev_it (nI_le (a := 300) (by omega) (by omega)) ?_
            exact tail)
        exact key
      refine rn_in m_Tokens_cut rfl ⟨rfl, rfl⟩ ?_
      show ev _ t_Tokens_cut 0 [.ref 35, .ref 32, .int (nI j), .float 0] [] _ _
      repeat (refine ev_np [] rfl rfl rfl ?_)
      refine ev_vc rfl (by rfl) (by rfl) rfl (c_Text_byteAt (d + 6) h (j := j) (by omega)) ?_
      repeat (refine ev_np [] rfl rfl rfl ?_)
      refine ev_ca rfl (c_Tokens_isDigit (d + 6) hb) ?_
      rw [hD']
      repeat (refine ev_np [] rfl rfl rfl ?_)
      refine ev_ca rfl (c_Tokens_isWordLetter (d + 6) hb) ?_
      rw [hW]
      repeat (refine ev_np [] rfl rfl rfl ?_)
      refine ev_vc rfl (by rfl) (by rfl) rfl (hcw) ?_
      exact ev_ri rfl rfl
    · have hW' : isW (bt T t j) = false := by simpa using hW
      have hlex : lex T t j = (if sgn (bt T t j) = true then bt T t j else 1, 0, j + 1) := by unfold lex; rw [if_neg hD, if_neg hW]
      have he1 : e = j + 1 := by rw [he, hlex]
      have hw1 : w = 0 := by rw [hw, hlex]
      have hk1 : k = if sgn (bt T t j) = true then bt T t j else 1 := by rw [hk, hlex]
      obtain ⟨x, hx1, hx2⟩ := c_Str_indexOf (d + 1) (SO4 (Y := Y) (F := F) (A := A)) hb256
      refine ⟨F2, A2, ?_, b2, b3, b4, hta.more ⟨by rw [b5.1, hki, hk], by rw [b5.2.1, hpl], by rw [b5.2.2, hwo, hw]⟩ b6⟩
      rw [hw1] at b1
      rw [he1]
      refine rn_in m_Tokens_cut rfl ⟨rfl, rfl⟩ ?_
      show ev _ t_Tokens_cut 0 [.ref 35, .ref 32, .int (nI j), .float 0] [] _ _
      repeat (refine ev_np [] rfl rfl rfl ?_)
      refine ev_vc rfl (by rfl) (by rfl) rfl (c_Text_byteAt (d + 6) h (j := j) (by omega)) ?_
      repeat (refine ev_np [] rfl rfl rfl ?_)
      refine ev_ca rfl (c_Tokens_isDigit (d + 6) hb) ?_
      rw [hD']
      repeat (refine ev_np [] rfl rfl rfl ?_)
      refine ev_ca rfl (c_Tokens_isWordLetter (d + 6) hb) ?_
      rw [hW', bI_lt hb256]
      repeat (refine ev_np [] rfl rfl rfl ?_)
      rw [(ch_eq hb256).2]
      refine ev_vh rfl rfl SO4.1 rfl hx2 ?_
      repeat (refine ev_np [] rfl rfl rfl ?_)
      cases hsg : sgn (bt T t j) with
      | true =>
        rw [hsg, if_pos rfl] at hk1
        rw [hk1] at b1
        refine ev_ie (fun z => by have := hx1.mp z; rw [hsg] at this; cases this) ?_
        repeat (refine ev_np [] rfl rfl rfl ?_)
        refine ev_vc rfl (by rfl) (by rfl) rfl (b1) ?_
        repeat (refine ev_np [] rfl rfl rfl ?_)
        rw [nI_1]
        exact ev_ri rfl rfl
      | false =>
        rw [hsg, if_neg (by decide)] at hk1
        rw [hk1] at b1
        refine ev_it (hx1.mpr hsg) ?_
        repeat (refine ev_np [] rfl rfl rfl ?_)
        refine ev_vc rfl (by rfl) (by rfl) rfl (b1) ?_
        repeat (refine ev_np [] rfl rfl rfl ?_)
        rw [nI_1]
        exact ev_ri rfl rfl
end LXC
