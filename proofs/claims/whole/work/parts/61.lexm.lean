/-! ===== the model's tokens ===== -/
def TM (F A : Nat → Nat → Int32) (T : Nat) (t : Nat → Nat) : Prop := F 62 4 = nI T ∧ (∀ j, j < T → A 65 j = nI (t j)) ∧ T ≤ 300 ∧ ∀ j, t j < 256
def mtk (k : Nat) : Nat := match k with
  | 0 => 0
  | 1 => 7
  | 2 => 5
  | 3 => 1
  | 4 => 2
  | 5 => 3
  | 6 => 4
  | _ => 6
/-- the model stands at token i -/
def MT (F : Nat → Nat → Int32) (T : Nat) (t : Nat → Nat) (i : Nat) : Prop := F 62 5 = nI (tst T t (i + 1)) ∧ F 62 6 = nI (mtk (tki T t i)) ∧ F 62 7 = nI (tpl T t i) ∧ (tki T t i = 2 ∨ tki T t i = 3 → F 62 8 = nI (two T t i)) ∧ (7 ≤ tki T t i → F 62 8 = nI (tki T t i))
set_option maxRecDepth 100000 in
theorem inW_tab : (List.range 257).all (fun b => (List.range 1).all fun _ => decide ((decide (¬ bI b < 97) && decide (¬ (122 : Int32) < bI b)) = isW b)) = true := by decide +kernel
theorem inW {b : Nat} (hb : b ≤ 256) : (decide (¬ bI b < 97) && decide (¬ (122 : Int32) < bI b)) = isW b := tab2 (P := fun b _ => (decide (¬ bI b < 97) && decide (¬ (122 : Int32) < bI b)) = isW b) (j := 0) inW_tab (by omega) (by decide)
set_option maxRecDepth 100000 in
theorem inD_tab : (List.range 257).all (fun b => (List.range 1).all fun _ => decide ((decide (¬ bI b < 48) && decide (¬ (57 : Int32) < bI b)) = isD b)) = true := by decide +kernel
theorem inD {b : Nat} (hb : b ≤ 256) : (decide (¬ bI b < 48) && decide (¬ (57 : Int32) < bI b)) = isD b := tab2 (P := fun b _ => (decide (¬ bI b < 48) && decide (¬ (57 : Int32) < bI b)) = isD b) (j := 0) inD_tab (by omega) (by decide)
set_option maxRecDepth 100000 in
theorem sgn_tab : (List.range 257).all (fun b => (List.range 1).all fun _ => decide (sgn b = true → mtk b = 6 ∧ 33 ≤ b)) = true := by decide +kernel
theorem sgn_m {b : Nat} (hb : b ≤ 256) : sgn b = true → mtk b = 6 ∧ 33 ≤ b := tab2 (P := fun b _ => sgn b = true → mtk b = 6 ∧ 33 ≤ b) (j := 0) sgn_tab (by omega) (by decide)
section LXM
variable {Y : Nat × (Nat → Int32)} {F A : Nat → Nat → Int32} {T : Nat} {t : Nat → Nat} (d : Nat)
theorem TM.frame {F' A' : Nat → Nat → Int32} (h : TM F A T t) (h1 : F' 62 4 = F 62 4) (h2 : A' 65 = A 65) : TM F' A' T t := ⟨h1.trans h.1, by rw [h2]; exact h.2.1, h.2.2⟩
theorem TM.bt_le (h : TM F A T t) (j : Nat) : bt T t j ≤ 256 := by
  unfold bt
  split
  · have := h.2.2.2 j; omega
  · exact Nat.le_refl _
theorem c_Mo_byteAt (h : TM F A T t) {j : Nat} (hj : j < 1000) : xa_rn xa_ms (d + 1) n_Mo_byteAt [.ref 62, .int (nI j)] (hp Y F A) (some (.int (bI (bt T t j)))) (hp Y F A) := by
  have hT := h.2.2.1
  refine rn_in m_Mo_byteAt rfl ⟨rfl, rfl⟩ ?_
  show ev _ t_Mo_byteAt 0 [.ref 62, .int (nI j)] [] _ _
  repeat (refine ev_np [] rfl rfl rfl ?_)
  refine ev_gi rfl (by rfl) (by rfl) ?_
  rw [h.1]
  repeat (refine ev_np [] rfl rfl rfl ?_)
  by_cases e : j < T
  · refine ev_ie (nI_ge e (by omega)) ?_
    repeat (first | refine ev_np [] rfl rfl rfl ?_ | refine ev_grs [] rfl rfl (by rfl) (by rfl) ?_)
    refine ev_an rfl (by rfl) rfl (by omega) rfl ?_
    rw [h.2.1 j e]
    repeat (refine ev_np [] rfl rfl rfl ?_)
    refine ev_ri rfl ?_
    unfold bI bt
    rw [if_pos e, if_pos (h.2.2.2 j)]
  · refine ev_it (nI_le (by omega) (by omega)) ?_
    repeat (refine ev_np [] rfl rfl rfl ?_)
    refine ev_ri rfl ?_
    unfold bI bt
    rw [if_neg e]
    rfl
theorem c_Mo_isWord (h : TM F A T t) {j a b c : Nat} (hj : j < 900) (ha : a < 256) (hb : b < 256) (hc : c < 256) : xa_rn xa_ms (d + 2) n_Mo_isWord [.ref 62, .int (nI j), .int (nI a), .int (nI b), .int (nI c)] (hp Y F A) (some (.int (z01 (decide (bt T t j = a ∧ bt T t (j + 1) = b ∧ bt T t (j + 2) = c))))) (hp Y F A) := by
  refine rn_in m_Mo_isWord rfl ⟨rfl, rfl⟩ ?_
  show ev _ t_Mo_isWord 0 [.ref 62, .int (nI j), .int (nI a), .int (nI b), .int (nI c)] [] _ _
  repeat (refine ev_np [] rfl rfl rfl ?_)
  refine ev_vc rfl (by rfl) (by rfl) rfl (c_Mo_byteAt d h (j := j) (by omega)) ?_
  repeat (refine ev_np [] rfl rfl rfl ?_)
  by_cases e1 : bt T t j = a
  · refine ev_ie (fun z => z ((bI_inj (h.bt_le _) ha).mpr e1)) ?_
    repeat (refine ev_np [] rfl rfl rfl ?_)
    rw [nI_1]
    refine ev_vc rfl (by rfl) (by rfl) rfl (c_Mo_byteAt d h (j := j + 1) (by omega)) ?_
    repeat (refine ev_np [] rfl rfl rfl ?_)
    by_cases e2 : bt T t (j + 1) = b
    · refine ev_ie (fun z => z ((bI_inj (h.bt_le _) hb).mpr e2)) ?_
      repeat (refine ev_np [] rfl rfl rfl ?_)
      rw [show nI j + 2 = nI (j + 2) from nI_add j 2]
      refine ev_vc rfl (by rfl) (by rfl) rfl (c_Mo_byteAt d h (j := j + 2) (by omega)) ?_
      repeat (refine ev_np [] rfl rfl rfl ?_)
      by_cases e3 : bt T t (j + 2) = c
      · refine ev_ie (fun z => z ((bI_inj (h.bt_le _) hc).mpr e3)) ?_
        repeat (refine ev_np [] rfl rfl rfl ?_)
        exact ev_rz rfl (by rw [decide_eq_true ⟨e1, e2, e3⟩]; rfl) (z01_b _)
      · refine ev_it (fun z => e3 ((bI_inj (h.bt_le _) hc).mp z)) ?_
        repeat (refine ev_np [] rfl rfl rfl ?_)
        exact ev_rz rfl (by rw [decide_eq_false (fun z => e3 z.2.2)]; rfl) (z01_b _)
    · refine ev_it (fun z => e2 ((bI_inj (h.bt_le _) hb).mp z)) ?_
      repeat (refine ev_np [] rfl rfl rfl ?_)
      exact ev_rz rfl (by rw [decide_eq_false (fun z => e2 z.2.1)]; rfl) (z01_b _)
  · refine ev_it (fun z => e1 ((bI_inj (h.bt_le _) ha).mp z)) ?_
    repeat (refine ev_np [] rfl rfl rfl ?_)
    exact ev_rz rfl (by rw [decide_eq_false (fun z => e1 z.1)]; rfl) (z01_b _)
theorem c_Mo_words (h : TM F A T t) {j m : Nat} (hj : j < T) (hpl : F 62 7 = nI j) (hm : m ≤ 300) (h97 : 97 ≤ bt T t j) : ∃ F', xa_rn xa_ms (d + 3) n_Mo_words [.ref 62, .int (nI m)] (hp Y F A) none (hp Y F' A) ∧ sF [6206, 6208] F F' ∧ F' 62 6 = nI (mtk (if m = 1 ∧ bt T t j < 100 then 3 else wrd T t j m)) ∧ (m = 1 ∧ bt T t j < 100 → F' 62 8 = nI (bt T t j - 97)) := by
  have hT := h.2.2.1
  have hb : t j = bt T t j := (if_pos hj).symm
  have hb256 : bt T t j < 256 := by rw [← hb]; exact h.2.2.2 j
  obtain ⟨F1, hF1⟩ : ∃ F1, F1 = uF F 62 6 7 := ⟨_, rfl⟩
  have s1 : sF [6206, 6208] F F1 := by rw [hF1]; exact sF.up (by decide)
  have t1 : TM F1 A T t := h.frame (s1 62 4 (by decide)) rfl
  have p1 : F1 62 7 = nI j := (s1 62 7 (by decide)).trans hpl
  have head : ∀ q, ev (d + 2) t_Mo_words 16 [.ref 62, .int (nI m), .int (nI (bt T t j))] [] (hp Y F1 A) q → xa_rn xa_ms (d + 3) n_Mo_words [.ref 62, .int (nI m)] (hp Y F A) q.1 q.2 := by
    intro q hq
    refine rn_in m_Mo_words rfl ⟨rfl, rfl⟩ ?_
    show ev _ t_Mo_words 0 [.ref 62, .int (nI m), .float 0] [] _ _
    repeat (first | refine ev_np [] rfl rfl rfl ?_ | refine ev_grs [] rfl rfl (by rfl) (by rfl) ?_)
    refine ev_gi rfl (by rfl) (by rfl) ?_
    rw [hpl]
    refine ev_an rfl (by rfl) rfl (by omega) rfl ?_
    rw [h.2.1 j hj, hb]
    repeat (refine ev_np [] rfl rfl rfl ?_)
    refine ev_pf rfl (by rfl) ⟨by rfl, by rfl⟩ ?_
    rw [← hF1]
    exact hq
  have hbig : ∀ q, m ≠ 3 → m ≠ 4 → m ≠ 6 → ev (d + 2) t_Mo_words 165 [.ref 62, .int (nI m), .int (nI (bt T t j))] [] (hp Y F1 A) q → ev (d + 2) t_Mo_words 43 [.ref 62, .int (nI m), .int (nI (bt T t j))] [] (hp Y F1 A) q := by
    intro q e3 e4 e6 hq
    repeat (refine ev_np [] rfl rfl rfl ?_)
    refine ev_it (fun z => e3 ((nI_eq (b := 3) (by omega) (by omega)).mp z)) ?_
    repeat (refine ev_np [] rfl rfl rfl ?_)
    refine ev_it (fun z => e4 ((nI_eq (b := 4) (by omega) (by omega)).mp z)) ?_
    repeat (refine ev_np [] rfl rfl rfl ?_)
    refine ev_it (fun z => e6 ((nI_eq (b := 6) (by omega) (by omega)).mp z)) ?_
    exact hq
  by_cases e1 : m = 1
  · by_cases e2 : bt T t j < 100
    · refine ⟨uF (uF F1 62 6 1) 62 8 (nI (bt T t j - 97)), head (none, _) ?_, s1.tr ((sF.up (by decide)).tr (sF.up (by decide))), ?_, fun _ => uF_s _ _ _ _⟩
      · rw [e1]
        repeat (refine ev_np [] rfl rfl rfl ?_)
        refine ev_ie (nI_ge (b := 100) e2 (by omega)) ?_
        repeat (refine ev_np [] rfl rfl rfl ?_)
        refine ev_pf rfl (by rfl) ⟨by rfl, by rfl⟩ ?_
        repeat (refine ev_np [] rfl rfl rfl ?_)
        refine ev_pf rfl (by rfl) ⟨by rfl, by rfl⟩ ?_
        rw [show nI (bt T t j) - 97 = nI (bt T t j - 97) from pk_sub (b := 97) h97]
        repeat (refine ev_np [] rfl rfl rfl ?_)
        exact ev_rv rfl
      · rw [uF_n _ _ (by decide), uF_s, if_pos ⟨e1, e2⟩]
        rfl
    · have hw : wrd T t j m = 1 := by unfold wrd; rw [if_neg (by omega), if_neg (by omega), if_neg (by omega)]
      refine ⟨F1, head (none, _) ?_, s1, ?_, fun z => absurd z.2 e2⟩
      · rw [e1]
        repeat (refine ev_np [] rfl rfl rfl ?_)
        refine ev_it (nI_le (a := 100) (by omega) (by omega)) ?_
        rw [← e1]
        refine hbig _ (by omega) (by omega) (by omega) ?_
        exact ev_rv rfl
      · rw [if_neg (fun z => e2 z.2), hw, hF1, uF_s]
        rfl
  · have hne : ¬ (m = 1 ∧ bt T t j < 100) := fun z => e1 z.1
    have hd2 : ∀ q, ev (d + 2) t_Mo_words 43 [.ref 62, .int (nI m), .int (nI (bt T t j))] [] (hp Y F1 A) q → xa_rn xa_ms (d + 3) n_Mo_words [.ref 62, .int (nI m)] (hp Y F A) q.1 q.2 := by
      intro q hq
      refine head q ?_
      repeat (refine ev_np [] rfl rfl rfl ?_)
      refine ev_it (fun z => e1 ((nI_eq (b := 1) (by omega) (by omega)).mp z)) ?_
      exact hq
    rw [if_neg hne]
    by_cases e3 : m = 3
    · by_cases w3 : bt T t j = 109 ∧ bt T t (j + 1) = 97 ∧ bt T t (j + 2) = 121
      · refine ⟨uF F1 62 6 3, hd2 (none, _) ?_, s1.tr (sF.up (by decide)), ?_, fun z => absurd z hne⟩
        · rw [e3]
          repeat (refine ev_np [] rfl rfl rfl ?_)
          refine ev_gi rfl (by rfl) (by rfl) ?_
          rw [p1]
          repeat (refine ev_np [] rfl rfl rfl ?_)
          refine ev_vc rfl (by rfl) (by rfl) rfl (c_Mo_isWord d t1 (j := j) (a := 109) (b := 97) (c := 121) (by omega) (by decide) (by decide) (by decide)) ?_
          rw [decide_eq_true w3]
          repeat (refine ev_np [] rfl rfl rfl ?_)
          refine ev_pf rfl (by rfl) ⟨by rfl, by rfl⟩ ?_
          repeat (refine ev_np [] rfl rfl rfl ?_)
          exact ev_rv rfl
        · rw [uF_s]
          unfold wrd
          rw [if_neg (by omega), if_pos ⟨e3, w3⟩]
          rfl
      · refine ⟨F1, hd2 (none, _) ?_, s1, ?_, fun z => absurd z hne⟩
        · rw [e3]
          repeat (refine ev_np [] rfl rfl rfl ?_)
          refine ev_gi rfl (by rfl) (by rfl) ?_
          rw [p1]
          repeat (refine ev_np [] rfl rfl rfl ?_)
          refine ev_vc rfl (by rfl) (by rfl) rfl (c_Mo_isWord d t1 (j := j) (a := 109) (b := 97) (c := 121) (by omega) (by decide) (by decide) (by decide)) ?_
          rw [decide_eq_false w3]
          repeat (refine ev_np [] rfl rfl rfl ?_)
          exact ev_rv rfl
        · unfold wrd
          rw [if_neg (by omega), if_neg (fun z => w3 z.2), if_neg (by omega), hF1, uF_s]
          rfl
    · by_cases e4 : m = 4
      · by_cases w4 : bt T t j = 109 ∧ bt T t (j + 1) = 117 ∧ bt T t (j + 2) = 115
        · by_cases w5 : bt T t (j + 3) = 116
          · refine ⟨uF F1 62 6 4, hd2 (none, _) ?_, s1.tr (sF.up (by decide)), ?_, fun z => absurd z hne⟩
            · rw [e4]
              repeat (refine ev_np [] rfl rfl rfl ?_)
              refine ev_gi rfl (by rfl) (by rfl) ?_
              rw [p1]
              repeat (refine ev_np [] rfl rfl rfl ?_)
              refine ev_vc rfl (by rfl) (by rfl) rfl (c_Mo_isWord d t1 (j := j) (a := 109) (b := 117) (c := 115) (by omega) (by decide) (by decide) (by decide)) ?_
              rw [decide_eq_true w4]
              repeat (refine ev_np [] rfl rfl rfl ?_)
              refine ev_gi rfl (by rfl) (by rfl) ?_
              rw [p1]
              repeat (refine ev_np [] rfl rfl rfl ?_)
              rw [show nI j + 3 = nI (j + 3) from nI_add j 3]
              refine ev_vc rfl (by rfl) (by rfl) rfl (c_Mo_byteAt (d + 1) t1 (j := j + 3) (by omega)) ?_
              rw [w5]
              repeat (refine ev_np [] rfl rfl rfl ?_)
              refine ev_pf rfl (by rfl) ⟨by rfl, by rfl⟩ ?_
              repeat (refine ev_np [] rfl rfl rfl ?_)
              exact ev_rv rfl
            · rw [uF_s]
              unfold wrd
              rw [if_neg (by omega), if_neg (by omega), if_pos ⟨e4, w4, w5⟩]
              rfl
          · refine ⟨F1, hd2 (none, _) ?_, s1, ?_, fun z => absurd z hne⟩
            · rw [e4]
              repeat (refine ev_np [] rfl rfl rfl ?_)
              refine ev_gi rfl (by rfl) (by rfl) ?_
              rw [p1]
              repeat (refine ev_np [] rfl rfl rfl ?_)
              refine ev_vc rfl (by rfl) (by rfl) rfl (c_Mo_isWord d t1 (j := j) (a := 109) (b := 117) (c := 115) (by omega) (by decide) (by decide) (by decide)) ?_
              rw [decide_eq_true w4]
              repeat (refine ev_np [] rfl rfl rfl ?_)
              refine ev_gi rfl (by rfl) (by rfl) ?_
              rw [p1]
              repeat (refine ev_np [] rfl rfl rfl ?_)
              rw [show nI j + 3 = nI (j + 3) from nI_add j 3]
              refine ev_vc rfl (by rfl) (by rfl) rfl (c_Mo_byteAt (d + 1) t1 (j := j + 3) (by omega)) ?_
              repeat (refine ev_np [] rfl rfl rfl ?_)
              refine ev_it (fun z => w5 ((bI_inj (h.bt_le _) (c := 116) (by decide)).mp z)) ?_
              repeat (refine ev_np [] rfl rfl rfl ?_)
              exact ev_rv rfl
            · unfold wrd
              rw [if_neg (by omega), if_neg (by omega), if_neg (fun z => w5 z.2.2), hF1, uF_s]
              rfl
        · refine ⟨F1, hd2 (none, _) ?_, s1, ?_, fun z => absurd z hne⟩
          · rw [e4]
            repeat (refine ev_np [] rfl rfl rfl ?_)
            refine ev_gi rfl (by rfl) (by rfl) ?_
            rw [p1]
            repeat (refine ev_np [] rfl rfl rfl ?_)
            refine ev_vc rfl (by rfl) (by rfl) rfl (c_Mo_isWord d t1 (j := j) (a := 109) (b := 117) (c := 115) (by omega) (by decide) (by decide) (by decide)) ?_
            rw [decide_eq_false w4]
            repeat (refine ev_np [] rfl rfl rfl ?_)
            exact ev_rv rfl
          · unfold wrd
            rw [if_neg (by omega), if_neg (by omega), if_neg (fun z => w4 z.2.1), hF1, uF_s]
            rfl
      · by_cases e6 : m = 6
        · by_cases w4 : bt T t j = 115 ∧ bt T t (j + 1) = 116 ∧ bt T t (j + 2) = 97
          · by_cases w5 : bt T t (j + 3) = 116 ∧ bt T t (j + 4) = 101 ∧ bt T t (j + 5) = 115
            · refine ⟨uF F1 62 6 2, hd2 (none, _) ?_, s1.tr (sF.up (by decide)), ?_, fun z => absurd z hne⟩
              · rw [e6]
                repeat (refine ev_np [] rfl rfl rfl ?_)
                refine ev_gi rfl (by rfl) (by rfl) ?_
                rw [p1]
                repeat (refine ev_np [] rfl rfl rfl ?_)
                refine ev_vc rfl (by rfl) (by rfl) rfl (c_Mo_isWord d t1 (j := j) (a := 115) (b := 116) (c := 97) (by omega) (by decide) (by decide) (by decide)) ?_
                rw [decide_eq_true w4]
                repeat (refine ev_np [] rfl rfl rfl ?_)
                refine ev_gi rfl (by rfl) (by rfl) ?_
                rw [p1]
                repeat (refine ev_np [] rfl rfl rfl ?_)
                rw [show nI j + 3 = nI (j + 3) from nI_add j 3]
                refine ev_vc rfl (by rfl) (by rfl) rfl (c_Mo_isWord d t1 (j := j + 3) (a := 116) (b := 101) (c := 115) (by omega) (by decide) (by decide) (by decide)) ?_
                rw [show j + 3 + 1 = j + 4 from rfl, show j + 3 + 2 = j + 5 from rfl, decide_eq_true w5]
                repeat (refine ev_np [] rfl rfl rfl ?_)
                refine ev_pf rfl (by rfl) ⟨by rfl, by rfl⟩ ?_
                exact ev_rv rfl
              · rw [uF_s]
                unfold wrd
                rw [if_pos ⟨e6, w4, w5⟩]
                rfl
            · refine ⟨F1, hd2 (none, _) ?_, s1, ?_, fun z => absurd z hne⟩
              · rw [e6]
                repeat (refine ev_np [] rfl rfl rfl ?_)
                refine ev_gi rfl (by rfl) (by rfl) ?_
                rw [p1]
                repeat (refine ev_np [] rfl rfl rfl ?_)
                refine ev_vc rfl (by rfl) (by rfl) rfl (c_Mo_isWord d t1 (j := j) (a := 115) (b := 116) (c := 97) (by omega) (by decide) (by decide) (by decide)) ?_
                rw [decide_eq_true w4]
                repeat (refine ev_np [] rfl rfl rfl ?_)
                refine ev_gi rfl (by rfl) (by rfl) ?_
                rw [p1]
                repeat (refine ev_np [] rfl rfl rfl ?_)
                rw [show nI j + 3 = nI (j + 3) from nI_add j 3]
                refine ev_vc rfl (by rfl) (by rfl) rfl (c_Mo_isWord d t1 (j := j + 3) (a := 116) (b := 101) (c := 115) (by omega) (by decide) (by decide) (by decide)) ?_
                rw [show j + 3 + 1 = j + 4 from rfl, show j + 3 + 2 = j + 5 from rfl, decide_eq_false w5]
                repeat (refine ev_np [] rfl rfl rfl ?_)
                exact ev_rv rfl
              · unfold wrd
                rw [if_neg (fun z => w5 z.2.2), if_neg (by omega), if_neg (by omega), hF1, uF_s]
                rfl
          · refine ⟨F1, hd2 (none, _) ?_, s1, ?_, fun z => absurd z hne⟩
            · rw [e6]
              repeat (refine ev_np [] rfl rfl rfl ?_)
              refine ev_gi rfl (by rfl) (by rfl) ?_
              rw [p1]
              repeat (refine ev_np [] rfl rfl rfl ?_)
              refine ev_vc rfl (by rfl) (by rfl) rfl (c_Mo_isWord d t1 (j := j) (a := 115) (b := 116) (c := 97) (by omega) (by decide) (by decide) (by decide)) ?_
              rw [decide_eq_false w4]
              repeat (refine ev_np [] rfl rfl rfl ?_)
              exact ev_rv rfl
            · unfold wrd
              rw [if_neg (fun z => w4 z.2.1), if_neg (by omega), if_neg (by omega), hF1, uF_s]
              rfl
        · refine ⟨F1, hd2 (none, _) ?_, s1, ?_, fun z => absurd z hne⟩
          · refine hbig _ e3 e4 e6 ?_
            exact ev_rv rfl
          · unfold wrd
            rw [if_neg (by omega), if_neg (by omega), if_neg (by omega), hF1, uF_s]
            rfl
end LXM
