/-! ===== the model comes to its next token ===== -/
section LXN
variable {Y : Nat × (Nat → Int32)} {F A : Nat → Nat → Int32} {T : Nat} {t : Nat → Nat} (d : Nat)
theorem nvM_le (j : Nat) : ∀ m, (∀ k, k < m → isD (bt T t (j + k)) = true) → nvM T t j m ≤ 999 := by
  intro m
  induction m with
  | zero => intro _; exact Nat.zero_le _
  | succ m ih =>
    intro hd
    have hb := hd m (by omega)
    unfold isD at hb
    simp only [Bool.and_eq_true, decide_eq_true_eq] at hb
    have := ih (fun k hk => hd k (by omega))
    simp only [nvM]
    split <;> omega
set_option maxRecDepth 20000 in
/-- blanks are passed by; where it stands is kept -/
theorem adv_head (h : TM F A T t) {i : Nat} (hn : F 62 5 = nI (tst T t i)) : ∃ F1, sF [6205, 6207] F F1 ∧ F1 62 5 = nI (tpl T t i) ∧ F1 62 7 = nI (tpl T t i) ∧ ∀ q, ev (d + 3) t_Mo_advances 43 [.ref 62, .int (bI (bt T t (tpl T t i))), .float 0] [] (hp Y F1 A) q → ev (d + 3) t_Mo_advances 0 [.ref 62, .float 0, .float 0] [] (hp Y F A) q := by
  have hT := h.2.2.1
  obtain ⟨p, hpe⟩ : ∃ p, p = tst T t i := ⟨_, rfl⟩
  obtain ⟨e, he⟩ : ∃ e, e = tpl T t i := ⟨_, rfl⟩
  have hle := tpl_le (T := T) (t := t) i
  rw [← hpe, ← he] at hle
  have heR : e = runP (fun j => bt T t j == 32) (T - p) p := by rw [he, hpe]; rfl
  obtain ⟨F1, ⟨s1, v1⟩, r1⟩ := lp_ex (α := Nat → Nat → Int32) (fun k G => sF [6205, 6207] F G ∧ G 62 5 = nI (p + k)) (fun k G q => ev (d + 3) t_Mo_advances 0 [.ref 62, .float 0, .float 0] [] (hp Y G A) q) (e - p) (fun k G hk hI => by
    obtain ⟨a1, a2⟩ := hI
    have hsp : bt T t (p + k) = 32 := by
      have := runP_in (fun j => bt T t j == 32) (T - p) p (p + k) (by omega) (by omega)
      simpa using this
    refine ⟨uF G 62 5 (nI (p + (k + 1))), ⟨a1.tr (sF.up (by decide)), uF_s _ _ _ _⟩, fun q hq => ?_⟩
    have tG : TM G A T t := h.frame (a1 62 4 (by decide)) rfl
    repeat (refine ev_np [] rfl rfl rfl ?_)
    refine ev_gi rfl (by rfl) (by rfl) ?_
    rw [a2]
    refine ev_vc rfl (by rfl) (by rfl) rfl (c_Mo_byteAt (d + 2) tG (j := p + k) (by omega)) ?_
    rw [hsp]
    repeat (refine ev_np [] rfl rfl rfl ?_)
    refine ev_gi rfl (by rfl) (by rfl) ?_
    rw [a2]
    repeat (refine ev_np [] rfl rfl rfl ?_)
    refine ev_pf rfl (by rfl) ⟨by rfl, by rfl⟩ ?_
    rw [nI_1]
    repeat (refine ev_np [0] rfl rfl rfl ?_)
    exact hq) (e - p) 0 F (by omega) ⟨sF.rf, by rw [hn, hpe]; rfl⟩
  rw [show p + (e - p) = e by omega] at v1
  refine ⟨uF F1 62 7 (nI e), s1.tr (sF.up (by decide)), by rw [uF_n _ _ (by decide), v1, he], by rw [uF_s, he], fun q hq => r1 q ?_⟩
  rw [← he] at hq
  have t1 : TM F1 A T t := h.frame (s1 62 4 (by decide)) rfl
  have t2 : TM (uF F1 62 7 (nI e)) A T t := t1.frame (uF_n _ _ (by decide)) rfl
  have hns : ¬ bt T t e = 32 := by
    have := runP_stop (T := T) (P := fun j => bt T t j == 32) (fun j hj => by show (bt T t j == 32) = false; rw [bt_out hj]; rfl) (T - p) p (by omega)
    rw [← heR] at this
    simpa using this
  repeat (refine ev_np [] rfl rfl rfl ?_)
  refine ev_gi rfl (by rfl) (by rfl) ?_
  rw [v1]
  refine ev_vc rfl (by rfl) (by rfl) rfl (c_Mo_byteAt (d + 2) t1 (j := e) (by omega)) ?_
  repeat (refine ev_np [] rfl rfl rfl ?_)
  refine ev_it (fun z => hns ((bI_inj (h.bt_le _) (c := 32) (by decide)).mp z)) ?_
  repeat (refine ev_np [] rfl rfl rfl ?_)
  refine ev_gi rfl (by rfl) (by rfl) ?_
  rw [v1]
  refine ev_pf rfl (by rfl) ⟨by rfl, by rfl⟩ ?_
  repeat (refine ev_np [] rfl rfl rfl ?_)
  refine ev_gi rfl (by rfl) (by rfl) ?_
  rw [uF_n _ _ (by decide), v1]
  refine ev_vc rfl (by rfl) (by rfl) rfl (c_Mo_byteAt (d + 2) t2 (j := e) (by omega)) ?_
  repeat (refine ev_np [43] rfl rfl rfl ?_)
  exact hq
set_option maxRecDepth 20000 in
/-- a token that is a word -/
theorem adv_word (h : TM F A T t) {j : Nat} (hj : j < T) (h5 : F 62 5 = nI j) (h7 : F 62 7 = nI j) (hW : isW (bt T t j) = true) : ∃ F1, sF [6205, 6206, 6208] F F1 ∧ F1 62 5 = nI (runW T t j) ∧ F1 62 6 = nI (mtk (if runW T t j - j = 1 ∧ bt T t j < 100 then 3 else wrd T t j (runW T t j - j))) ∧ (runW T t j - j = 1 ∧ bt T t j < 100 → F1 62 8 = nI (bt T t j - 97)) ∧ ev (d + 3) t_Mo_advances 43 [.ref 62, .int (bI (bt T t j)), .float 0] [] (hp Y F A) (none, hp Y F1 A) := by
  have hT := h.2.2.1
  obtain ⟨e, he⟩ : ∃ e, e = runW T t j := ⟨_, rfl⟩
  have hge := runP_ge (fun j => isW (bt T t j)) (T - j) j
  have heR : e = runP (fun j => isW (bt T t j)) (T - j) j := he
  rw [← heR] at hge
  have hb256 : bt T t j < 256 := by unfold bt; rw [if_pos hj]; exact h.2.2.2 j
  have h97 : 97 ≤ bt T t j := by
    unfold isW at hW
    simp only [Bool.and_eq_true, decide_eq_true_eq] at hW
    exact hW.1
  obtain ⟨F1, ⟨s1, v1⟩, r1⟩ := lp_ex (α := Nat → Nat → Int32) (fun k G => sF [6205, 6206, 6208] F G ∧ G 62 5 = nI (j + k) ∧ G 62 7 = nI j) (fun k G q => ev (d + 3) t_Mo_advances 66 [.ref 62, .int (bI (bt T t j)), .float 0] [] (hp Y G A) q) (e - j) (fun k G hk hI => by
    obtain ⟨a1, a2, a3⟩ := hI
    have hsp : isW (bt T t (j + k)) = true := runP_in (fun j => isW (bt T t j)) (T - j) j (j + k) (by omega) (by omega)
    refine ⟨uF G 62 5 (nI (j + (k + 1))), ⟨a1.tr (sF.up (by decide)), uF_s _ _ _ _, by rw [uF_n _ _ (by decide)]; exact a3⟩, fun q hq => ?_⟩
    have tG : TM G A T t := h.frame (a1 62 4 (by decide)) rfl
    repeat (refine ev_np [] rfl rfl rfl ?_)
    refine ev_gi rfl (by rfl) (by rfl) ?_
    rw [a2]
    refine ev_vc rfl (by rfl) (by rfl) rfl (c_Mo_byteAt (d + 2) tG (j := j + k) (by omega)) ?_
    repeat (refine ev_np [] rfl rfl rfl ?_)
    refine ev_ca rfl (c_Mo_in (d + 2) (bI (bt T t (j + k))) 97 122) ?_
    rw [inW (h.bt_le _), hsp]
    repeat (refine ev_np [] rfl rfl rfl ?_)
    refine ev_gi rfl (by rfl) (by rfl) ?_
    rw [a2]
    repeat (refine ev_np [] rfl rfl rfl ?_)
    refine ev_pf rfl (by rfl) ⟨by rfl, by rfl⟩ ?_
    rw [nI_1]
    repeat (refine ev_np [66] rfl rfl rfl ?_)
    exact hq) (e - j) 0 F (by omega) ⟨sF.rf, h5, h7⟩
  obtain ⟨v1, v2⟩ := v1
  rw [show j + (e - j) = e by omega] at v1
  have t1 : TM F1 A T t := h.frame (s1 62 4 (by decide)) rfl
  obtain ⟨F2, b1, b2, b3, b4⟩ := c_Mo_words (Y := Y) d t1 (j := j) (m := e - j) hj v2 (by omega) h97
  rw [← he]
  refine ⟨F2, s1.tr (b2.mono (by decide)), (b2 62 5 (by decide)).trans v1, b3, b4, ?_⟩
  repeat (refine ev_np [] rfl rfl rfl ?_)
  refine ev_it (by rw [bI_lt hb256]; exact nI_pos' (by omega)) ?_
  repeat (refine ev_np [] rfl rfl rfl ?_)
  refine ev_ca rfl (c_Mo_in (d + 2) (bI (bt T t j)) 97 122) ?_
  rw [inW (h.bt_le _), hW]
  repeat (refine ev_np [66] rfl rfl rfl ?_)
  refine r1 _ ?_
  repeat (refine ev_np [] rfl rfl rfl ?_)
  refine ev_gi rfl (by rfl) (by rfl) ?_
  rw [v1]
  refine ev_vc rfl (by rfl) (by rfl) rfl (c_Mo_byteAt (d + 2) t1 (j := e) (by omega)) ?_
  repeat (refine ev_np [] rfl rfl rfl ?_)
  refine ev_ca rfl (c_Mo_in (d + 2) (bI (bt T t e)) 97 122) ?_
  rw [inW (h.bt_le _), show isW (bt T t e) = false by rw [he]; exact runW_stop j (by omega)]
  repeat (refine ev_np [] rfl rfl rfl ?_)
  refine ev_gi rfl (by rfl) (by rfl) ?_
  rw [v1]
  repeat (refine ev_np [] rfl rfl rfl ?_)
  refine ev_gi rfl (by rfl) (by rfl) ?_
  rw [v2]
  repeat (refine ev_np [] rfl rfl rfl ?_)
  rw [pk_sub (by omega)]
  refine ev_vc rfl (by rfl) (by rfl) rfl (b1) ?_
  repeat (refine ev_np [] rfl rfl rfl ?_)
  exact ev_rv rfl
set_option maxRecDepth 20000 in
/-- a token that is a number -/
theorem adv_num (h : TM F A T t) {j : Nat} (hj : j < T) (h5 : F 62 5 = nI j) (h7 : F 62 7 = nI j) (hD : isD (bt T t j) = true) : ∃ F1, sF [6205, 6206, 6208] F F1 ∧ F1 62 5 = nI (runD T t j) ∧ F1 62 6 = nI (mtk (if nvC T t j (runD T t j - j) > 99 ∨ (1 < runD T t j - j ∧ bt T t j = 48) then 1 else 2)) ∧ (¬ (nvC T t j (runD T t j - j) > 99 ∨ (1 < runD T t j - j ∧ bt T t j = 48)) → F1 62 8 = nI (nvC T t j (runD T t j - j))) ∧ ev (d + 3) t_Mo_advances 43 [.ref 62, .int (bI (bt T t j)), .float 0] [] (hp Y F A) (none, hp Y F1 A) := by
  have hT := h.2.2.1
  obtain ⟨e, he⟩ : ∃ e, e = runD T t j := ⟨_, rfl⟩
  have hge := runP_ge (fun j => isD (bt T t j)) (T - j) j
  have heR : e = runP (fun j => isD (bt T t j)) (T - j) j := he
  rw [← heR] at hge
  have hb256 : bt T t j < 256 := by unfold bt; rw [if_pos hj]; exact h.2.2.2 j
  have hW' : isW (bt T t j) = false := by
    unfold isD at hD
    simp only [Bool.and_eq_true, decide_eq_true_eq] at hD
    unfold isW
    rw [decide_eq_false (by omega)]
    rfl
  have hin : ∀ m, m < e - j → isD (bt T t (j + m)) = true := fun m hm => runP_in (fun j => isD (bt T t j)) (T - j) j (j + m) (by omega) (by omega)
  obtain ⟨F1, ⟨s1, v1⟩, r1⟩ := lp_ex (α := Nat → Nat → Int32) (fun k G => sF [6205, 6206, 6208] F G ∧ G 62 5 = nI (j + k) ∧ G 62 7 = nI j ∧ G 62 8 = nI (nvM T t j k)) (fun k G q => ev (d + 3) t_Mo_advances 129 [.ref 62, .int (bI (bt T t j)), .float 0] [] (hp Y G A) q) (e - j) (fun k G hk hI => by
    obtain ⟨a1, a2, a3, a4⟩ := hI
    have hsp := hin k hk
    have hsp2 := hsp
    unfold isD at hsp2
    simp only [Bool.and_eq_true, decide_eq_true_eq] at hsp2
    have hnv := nvM_le (T := T) (t := t) j k (fun m hm => hin m (by omega))
    refine ⟨uF (uF G 62 8 (nI (nvM T t j (k + 1)))) 62 5 (nI (j + (k + 1))), ⟨a1.tr ((sF.up (by decide)).tr (sF.up (by decide))), uF_s _ _ _ _, by rw [uF_n _ _ (by decide), uF_n _ _ (by decide)]; exact a3, by rw [uF_n _ _ (by decide), uF_s]⟩, fun q hq => ?_⟩
    have tG : TM G A T t := h.frame (a1 62 4 (by decide)) rfl
    have fin : ev (d + 3) t_Mo_advances 183 [.ref 62, .int (bI (bt T t j)), .float 0] [.int (nI (nvM T t j (k + 1))), .ref 62] (hp Y G A) q := by
      refine ev_pf rfl (by rfl) ⟨by rfl, by rfl⟩ ?_
      repeat (refine ev_np [] rfl rfl rfl ?_)
      refine ev_gi rfl (by rfl) (by rfl) ?_
      rw [uF_n _ _ (by decide), a2]
      repeat (refine ev_np [] rfl rfl rfl ?_)
      refine ev_pf rfl (by rfl) ⟨by rfl, by rfl⟩ ?_
      rw [nI_1]
      repeat (refine ev_np [129] rfl rfl rfl ?_)
      exact hq
    repeat (refine ev_np [] rfl rfl rfl ?_)
    refine ev_gi rfl (by rfl) (by rfl) ?_
    rw [a2]
    refine ev_vc rfl (by rfl) (by rfl) rfl (c_Mo_byteAt (d + 2) tG (j := j + k) (by omega)) ?_
    repeat (refine ev_np [] rfl rfl rfl ?_)
    refine ev_ca rfl (c_Mo_in (d + 2) (bI (bt T t (j + k))) 48 57) ?_
    rw [inD (h.bt_le _), hsp]
    repeat (refine ev_np [] rfl rfl rfl ?_)
    refine ev_gi rfl (by rfl) (by rfl) ?_
    rw [a4]
    repeat (refine ev_np [] rfl rfl rfl ?_)
    by_cases e9 : nvM T t j k > 99
    · refine ev_ie (nI_ge (a := 99) e9 (by omega)) ?_
      repeat (refine ev_np [] rfl rfl rfl ?_)
      refine ev_gi rfl (by rfl) (by rfl) ?_
      rw [a4]
      repeat (refine ev_np [183] rfl rfl rfl ?_)
      rw [show nvM T t j (k + 1) = nvM T t j k by simp only [nvM]; rw [if_pos e9]] at fin
      exact fin
    · refine ev_it (nI_le (b := 99) (by omega) (by omega)) ?_
      repeat (refine ev_np [] rfl rfl rfl ?_)
      refine ev_gi rfl (by rfl) (by rfl) ?_
      rw [a4]
      repeat (refine ev_np [] rfl rfl rfl ?_)
      refine ev_gi rfl (by rfl) (by rfl) ?_
      rw [a2]
      refine ev_vc rfl (by rfl) (by rfl) rfl (c_Mo_byteAt (d + 2) tG (j := j + k) (by omega)) ?_
      rw [bI_lt (b := bt T t (j + k)) (by omega)]
      repeat (refine ev_np [183] rfl rfl rfl ?_)
      rw [show (10 : Int32) * nI (nvM T t j k) + nI (bt T t (j + k)) - 48 = nI (nvM T t j (k + 1)) by
        simp only [nvM]
        rw [if_neg e9, show (10 : Int32) = nI 10 from rfl, pk_mul, nI_add]
        exact pk_sub (b := 48) (by omega)]
      exact fin) (e - j) 0 (uF F 62 8 0) (by omega) ⟨sF.up (by decide), by rw [uF_n _ _ (by decide)]; exact h5, by rw [uF_n _ _ (by decide)]; exact h7, by rw [uF_s]; exact nI_0.symm⟩
  obtain ⟨v1, v2, v3⟩ := v1
  rw [show j + (e - j) = e by omega] at v1
  have t1 : TM F1 A T t := h.frame (s1 62 4 (by decide)) rfl
  have hnv := nvM_le (T := T) (t := t) j (e - j) hin
  have hrel := nv_rel (T := T) (t := t) j (e - j) hin
  rw [← he]
  have head : ∀ q, ev (d + 3) t_Mo_advances 206 [.ref 62, .int (nI (bt T t j)), .float 0] [.int 99, .int (nI (nvM T t j (e - j))), .ref 62] (hp Y F1 A) q → ev (d + 3) t_Mo_advances 43 [.ref 62, .int (bI (bt T t j)), .float 0] [] (hp Y F A) q := by
    intro q hq
    repeat (refine ev_np [] rfl rfl rfl ?_)
    refine ev_it (by rw [bI_lt hb256]; exact nI_pos' (by omega)) ?_
    repeat (refine ev_np [] rfl rfl rfl ?_)
    refine ev_ca rfl (c_Mo_in (d + 2) (bI (bt T t j)) 97 122) ?_
    rw [inW (h.bt_le _), hW']
    repeat (refine ev_np [] rfl rfl rfl ?_)
    refine ev_ca rfl (c_Mo_in (d + 2) (bI (bt T t j)) 48 57) ?_
    rw [inD (h.bt_le _), hD]
    repeat (refine ev_np [] rfl rfl rfl ?_)
    refine ev_pf rfl (by rfl) ⟨by rfl, by rfl⟩ ?_
    repeat (refine ev_np [129] rfl rfl rfl ?_)
    refine r1 _ ?_
    repeat (refine ev_np [] rfl rfl rfl ?_)
    refine ev_gi rfl (by rfl) (by rfl) ?_
    rw [v1]
    refine ev_vc rfl (by rfl) (by rfl) rfl (c_Mo_byteAt (d + 2) t1 (j := e) (by omega)) ?_
    repeat (refine ev_np [] rfl rfl rfl ?_)
    refine ev_ca rfl (c_Mo_in (d + 2) (bI (bt T t e)) 48 57) ?_
    rw [inD (h.bt_le _), show isD (bt T t e) = false by rw [he]; exact runD_stop j (by omega), bI_lt hb256]
    repeat (refine ev_np [] rfl rfl rfl ?_)
    refine ev_gi rfl (by rfl) (by rfl) ?_
    rw [v3]
    repeat (refine ev_np [206] rfl rfl rfl ?_)
    exact hq
  by_cases hw : nvC T t j (e - j) > 99 ∨ (1 < e - j ∧ bt T t j = 48)
  · refine ⟨uF F1 62 6 7, s1.tr (sF.up (by decide)), by rw [uF_n _ _ (by decide)]; exact v1, by rw [uF_s, if_pos hw]; rfl, fun z => absurd hw z, head _ ?_⟩
    by_cases e9 : 99 < nvM T t j (e - j)
    · repeat (refine ev_np [] rfl rfl rfl ?_)
      refine ev_it (nI_lt (a := 99) e9 (by omega)) ?_
      repeat (refine ev_np [] rfl rfl rfl ?_)
      refine ev_pf rfl (by rfl) ⟨by rfl, by rfl⟩ ?_
      repeat (refine ev_np [] rfl rfl rfl ?_)
      exact ev_rv rfl
    · have hw2 : 1 < e - j ∧ bt T t j = 48 := by
        rcases hw with hw | hw
        · omega
        · exact hw
      repeat (refine ev_np [] rfl rfl rfl ?_)
      refine ev_ie (nI_nlt (a := 99) (by omega) (by omega)) ?_
      rw [hw2.2]
      repeat (refine ev_np [] rfl rfl rfl ?_)
      refine ev_gi rfl (by rfl) (by rfl) ?_
      rw [v1]
      repeat (refine ev_np [] rfl rfl rfl ?_)
      refine ev_gi rfl (by rfl) (by rfl) ?_
      rw [v2]
      repeat (refine ev_np [] rfl rfl rfl ?_)
      rw [pk_sub (by omega)]
      refine ev_ie (nI_ge (a := 1) hw2.1 (by omega)) ?_
      repeat (refine ev_np [] rfl rfl rfl ?_)
      refine ev_pf rfl (by rfl) ⟨by rfl, by rfl⟩ ?_
      repeat (refine ev_np [] rfl rfl rfl ?_)
      exact ev_rv rfl
  · refine ⟨uF F1 62 6 5, s1.tr (sF.up (by decide)), by rw [uF_n _ _ (by decide)]; exact v1, by rw [uF_s, if_neg hw]; rfl, fun z => ?_, head _ ?_⟩
    · rw [uF_n _ _ (by decide), v3]
      rcases hrel with hr | hr
      · rw [hr.1]
      · exact absurd (Or.inl (by omega)) hw
    · have e9 : nvM T t j (e - j) ≤ 99 := by
        rcases hrel with hr | hr
        · exact hr.2
        · exact absurd (Or.inl (by omega)) hw
      repeat (refine ev_np [] rfl rfl rfl ?_)
      refine ev_ie (nI_nlt (a := 99) (by omega) (by omega)) ?_
      repeat (refine ev_np [] rfl rfl rfl ?_)
      by_cases e48 : bt T t j = 48
      · refine ev_ie (fun z => z ((nI_eq (b := 48) (by omega) (by omega)).mpr e48)) ?_
        repeat (refine ev_np [] rfl rfl rfl ?_)
        refine ev_gi rfl (by rfl) (by rfl) ?_
        rw [v1]
        repeat (refine ev_np [] rfl rfl rfl ?_)
        refine ev_gi rfl (by rfl) (by rfl) ?_
        rw [v2]
        repeat (refine ev_np [] rfl rfl rfl ?_)
        rw [pk_sub (by omega)]
        refine ev_it (nI_le (b := 1) (Nat.le_of_not_lt fun z => hw (Or.inr ⟨z, e48⟩)) (by omega)) ?_
        repeat (refine ev_np [] rfl rfl rfl ?_)
        refine ev_pf rfl (by rfl) ⟨by rfl, by rfl⟩ ?_
        repeat (refine ev_np [] rfl rfl rfl ?_)
        exact ev_rv rfl
      · refine ev_it (fun z => e48 ((nI_eq (b := 48) (by omega) (by omega)).mp z)) ?_
        repeat (refine ev_np [] rfl rfl rfl ?_)
        refine ev_pf rfl (by rfl) ⟨by rfl, by rfl⟩ ?_
        repeat (refine ev_np [] rfl rfl rfl ?_)
        exact ev_rv rfl
set_option maxRecDepth 20000 in
/-- any other byte -/
theorem adv_sign (h : TM F A T t) {j : Nat} (hj : j < T) (h5 : F 62 5 = nI j) (hD : isD (bt T t j) = false) (hW : isW (bt T t j) = false) : ∃ F1, sF [6205, 6206, 6208] F F1 ∧ F1 62 5 = nI (j + 1) ∧ F1 62 6 = nI (if sgn (bt T t j) = true then 6 else 7) ∧ F1 62 8 = nI (bt T t j) ∧ ev (d + 3) t_Mo_advances 43 [.ref 62, .int (bI (bt T t j)), .float 0] [] (hp Y F A) (none, hp Y F1 A) := by
  have hT := h.2.2.1
  have hb256 : bt T t j < 256 := by unfold bt; rw [if_pos hj]; exact h.2.2.2 j
  obtain ⟨b, hb⟩ : ∃ b, b = bt T t j := ⟨_, rfl⟩
  have head : ∀ q, ev (d + 3) t_Mo_advances 255 [.ref 62, .int (nI b), .float 0] [] (hp Y (uF (uF F 62 5 (nI (j + 1))) 62 8 (nI b)) A) q → ev (d + 3) t_Mo_advances 43 [.ref 62, .int (bI (bt T t j)), .float 0] [] (hp Y F A) q := by
    intro q hq
    repeat (refine ev_np [] rfl rfl rfl ?_)
    refine ev_it (by rw [bI_lt hb256]; exact nI_pos' (by omega)) ?_
    repeat (refine ev_np [] rfl rfl rfl ?_)
    refine ev_ca rfl (c_Mo_in (d + 2) (bI (bt T t j)) 97 122) ?_
    rw [inW (h.bt_le _), hW]
    repeat (refine ev_np [] rfl rfl rfl ?_)
    refine ev_ca rfl (c_Mo_in (d + 2) (bI (bt T t j)) 48 57) ?_
    rw [inD (h.bt_le _), hD, bI_lt hb256, ← hb]
    repeat (refine ev_np [] rfl rfl rfl ?_)
    refine ev_gi rfl (by rfl) (by rfl) ?_
    rw [h5]
    repeat (refine ev_np [] rfl rfl rfl ?_)
    refine ev_pf rfl (by rfl) ⟨by rfl, by rfl⟩ ?_
    rw [nI_1]
    repeat (refine ev_np [] rfl rfl rfl ?_)
    refine ev_pf rfl (by rfl) ⟨by rfl, by rfl⟩ ?_
    exact hq
  rw [← hb] at hb256
  cases hs : sgn b with
  | true =>
    refine ⟨uF (uF (uF F 62 5 (nI (j + 1))) 62 8 (nI b)) 62 6 6, (sF.up (by decide)).tr ((sF.up (by decide)).tr (sF.up (by decide))), by rw [uF_n _ _ (by decide), uF_n _ _ (by decide), uF_s], by rw [uF_s, ← hb, hs]; rfl, by rw [uF_n _ _ (by decide), uF_s, hb], head _ ?_⟩
    have fin : ev (d + 3) t_Mo_advances 315 [.ref 62, .int (nI b), .float 0] [] (hp Y (uF (uF F 62 5 (nI (j + 1))) 62 8 (nI b)) A) (none, hp Y (uF (uF (uF F 62 5 (nI (j + 1))) 62 8 (nI b)) 62 6 6) A) := by
      repeat (refine ev_np [] rfl rfl rfl ?_)
      refine ev_pf rfl (by rfl) ⟨by rfl, by rfl⟩ ?_
      exact ev_rv rfl
    have hs2 : b = 59 ∨ b = 124 ∨ b = 38 ∨ b = 33 ∨ b = 40 ∨ b = 41 ∨ b = 60 ∨ b = 62 ∨ b = 91 ∨ b = 93 := by
      simp [sgn] at hs
      omega
    rcases hs2 with e | e | e | e | e | e | e | e | e | e <;> (rw [e] at fin ⊢; repeat (refine ev_np [315] rfl rfl rfl ?_)) <;> exact fin
  | false =>
    refine ⟨uF (uF (uF F 62 5 (nI (j + 1))) 62 8 (nI b)) 62 6 7, (sF.up (by decide)).tr ((sF.up (by decide)).tr (sF.up (by decide))), by rw [uF_n _ _ (by decide), uF_n _ _ (by decide), uF_s], by rw [uF_s, ← hb, hs]; rfl, by rw [uF_n _ _ (by decide), uF_s, hb], head _ ?_⟩
    have hs2 : b ≠ 59 ∧ b ≠ 124 ∧ b ≠ 38 ∧ b ≠ 33 ∧ b ≠ 40 ∧ b ≠ 41 ∧ b ≠ 60 ∧ b ≠ 62 ∧ b ≠ 91 ∧ b ≠ 93 := by
      simp [sgn] at hs
      omega
    obtain ⟨n1, n2, n3, n4, n5, n6, n7, n8, n9, n10⟩ := hs2
    repeat (refine ev_np [] rfl rfl rfl ?_)
    refine ev_ie (fun z => n1 ((nI_eq (b := 59) (by omega) (by omega)).mp z)) ?_
    repeat (refine ev_np [] rfl rfl rfl ?_)
    refine ev_ie (fun z => n2 ((nI_eq (b := 124) (by omega) (by omega)).mp z)) ?_
    repeat (refine ev_np [] rfl rfl rfl ?_)
    refine ev_ie (fun z => n3 ((nI_eq (b := 38) (by omega) (by omega)).mp z)) ?_
    repeat (refine ev_np [] rfl rfl rfl ?_)
    refine ev_ie (fun z => n4 ((nI_eq (b := 33) (by omega) (by omega)).mp z)) ?_
    repeat (refine ev_np [] rfl rfl rfl ?_)
    refine ev_ie (fun z => n5 ((nI_eq (b := 40) (by omega) (by omega)).mp z)) ?_
    repeat (refine ev_np [] rfl rfl rfl ?_)
    refine ev_ie (fun z => n6 ((nI_eq (b := 41) (by omega) (by omega)).mp z)) ?_
    repeat (refine ev_np [] rfl rfl rfl ?_)
    refine ev_ie (fun z => n7 ((nI_eq (b := 60) (by omega) (by omega)).mp z)) ?_
    repeat (refine ev_np [] rfl rfl rfl ?_)
    refine ev_ie (fun z => n8 ((nI_eq (b := 62) (by omega) (by omega)).mp z)) ?_
    repeat (refine ev_np [] rfl rfl rfl ?_)
    refine ev_ie (fun z => n9 ((nI_eq (b := 91) (by omega) (by omega)).mp z)) ?_
    repeat (refine ev_np [] rfl rfl rfl ?_)
    refine ev_it (fun z => n10 ((nI_eq (b := 93) (by omega) (by omega)).mp z)) ?_
    repeat (refine ev_np [] rfl rfl rfl ?_)
    refine ev_pf rfl (by rfl) ⟨by rfl, by rfl⟩ ?_
    exact ev_rv rfl
set_option maxRecDepth 20000 in
theorem c_Mo_advances (h : TM F A T t) {i : Nat} (hn : F 62 5 = nI (tst T t i)) : ∃ F', xa_rn xa_ms (d + 4) n_Mo_advances [.ref 62] (hp Y F A) none (hp Y F' A) ∧ sF [6205, 6206, 6207, 6208] F F' ∧ MT F' T t i := by
  obtain ⟨F1, s1, v5, v7, r1⟩ := adv_head (Y := Y) d h hn
  have t1 : TM F1 A T t := h.frame (s1 62 4 (by decide)) rfl
  have go : ∀ F2, ev (d + 3) t_Mo_advances 43 [.ref 62, .int (bI (bt T t (tpl T t i))), .float 0] [] (hp Y F1 A) (none, hp Y F2 A) → xa_rn xa_ms (d + 4) n_Mo_advances [.ref 62] (hp Y F A) none (hp Y F2 A) := by
    intro F2 hq
    refine rn_in m_Mo_advances rfl ⟨rfl, rfl⟩ ?_
    show ev _ t_Mo_advances 0 [.ref 62, .float 0, .float 0] [] _ _
    exact r1 _ hq
  obtain ⟨j, hj⟩ : ∃ j, j = tpl T t i := ⟨_, rfl⟩
  have hle := (tpl_le (T := T) (t := t) i).2
  rw [← hj] at hle v5 v7 go
  by_cases hT : j < T
  · have hTi : tpl T t i < T := by omega
    have hlx : tst T t (i + 1) = (lex T t j).2.2 := by rw [tst_s i hTi, hj]
    have hki : tki T t i = (lex T t j).1 := by unfold tki; rw [if_pos hTi, hj]
    have hwo : two T t i = (lex T t j).2.1 := by unfold two; rw [if_pos hTi, hj]
    by_cases hD : isD (bt T t j) = true
    · have hlex : lex T t j = (if nvC T t j (runD T t j - j) > 99 ∨ (1 < runD T t j - j ∧ bt T t j = 48) then 1 else 2, nvC T t j (runD T t j - j), runD T t j) := by unfold lex; rw [if_pos hD]
      obtain ⟨F2, b1, b2, b3, b4, b5⟩ := adv_num (Y := Y) d t1 hT v5 v7 hD
      refine ⟨F2, go F2 b5, (s1.mono (by decide)).tr (b1.mono (by decide)), by rw [hlx, hlex]; exact b2, by rw [hki, hlex]; exact b3, by rw [b1 62 7 (by decide), v7, hj], fun z => ?_, fun z => ?_⟩
      · rw [hwo, hlex]
        refine b4 fun zz => ?_
        rw [hki, hlex] at z
        simp only [if_pos zz] at z
        omega
      · exfalso
        rw [hki, hlex] at z
        dsimp only at z
        split at z <;> omega
    · by_cases hW : isW (bt T t j) = true
      · have hlex : lex T t j = (if runW T t j - j = 1 ∧ bt T t j < 100 then (3, bt T t j - 97, runW T t j) else (wrd T t j (runW T t j - j), 0, runW T t j)) := by unfold lex; rw [if_neg hD, if_pos hW]
        have hlex1 : (lex T t j).1 = if runW T t j - j = 1 ∧ bt T t j < 100 then 3 else wrd T t j (runW T t j - j) := by rw [hlex]; split <;> rfl
        have hlex3 : (lex T t j).2.2 = runW T t j := by rw [hlex]; split <;> rfl
        have hwr : ∀ m, wrd T t j m = 1 ∨ wrd T t j m = 4 ∨ wrd T t j m = 5 ∨ wrd T t j m = 6 := by
          intro m
          unfold wrd
          split
          · omega
          · split
            · omega
            · split <;> omega
        obtain ⟨F2, b1, b2, b3, b4, b5⟩ := adv_word (Y := Y) d t1 hT v5 v7 hW
        refine ⟨F2, go F2 b5, (s1.mono (by decide)).tr (b1.mono (by decide)), by rw [hlx, hlex3]; exact b2, by rw [hki, hlex1]; exact b3, by rw [b1 62 7 (by decide), v7, hj], fun z => ?_, fun z => ?_⟩
        · rw [hki, hlex1] at z
          have hc : runW T t j - j = 1 ∧ bt T t j < 100 := by
            refine Classical.byContradiction fun zz => ?_
            rw [if_neg zz] at z
            have := hwr (runW T t j - j)
            omega
          rw [hwo, hlex, if_pos hc]
          exact b4 hc
        · exfalso
          rw [hki, hlex1] at z
          have := hwr (runW T t j - j)
          split at z <;> omega
      · have hlex : lex T t j = (if sgn (bt T t j) = true then bt T t j else 1, 0, j + 1) := by unfold lex; rw [if_neg hD, if_neg hW]
        obtain ⟨F2, b1, b2, b3, b4, b5⟩ := adv_sign (Y := Y) d t1 hT v5 (by simpa using hD) (by simpa using hW)
        have hsm := sgn_m (h.bt_le j)
        refine ⟨F2, go F2 b5, (s1.mono (by decide)).tr (b1.mono (by decide)), by rw [hlx, hlex]; exact b2, ?_, by rw [b1 62 7 (by decide), v7, hj], fun z => ?_, fun z => ?_⟩
        · rw [hki, hlex, b3]
          dsimp only
          by_cases hs : sgn (bt T t j) = true
          · rw [if_pos hs, if_pos hs, (hsm hs).1]
          · rw [if_neg hs, if_neg hs]
            rfl
        · exfalso
          rw [hki, hlex] at z
          dsimp only at z
          by_cases hs : sgn (bt T t j) = true
          · rw [if_pos hs] at z
            have := (hsm hs).2
            omega
          · rw [if_neg hs] at z
            omega
        · rw [hki, hlex] at z ⊢
          dsimp only at z ⊢
          by_cases hs : sgn (bt T t j) = true
          · rw [if_pos hs]
            exact b4
          · rw [if_neg hs] at z
            omega
  · have ejT : j = T := by omega
    have hki : tki T t i = 0 := by unfold tki; rw [if_neg (by omega)]
    refine ⟨uF F1 62 6 0, go _ ?_, (s1.mono (by decide)).tr (sF.up (by decide)), ?_, by rw [uF_s, hki]; rfl, by rw [uF_n _ _ (by decide), v7, hj], fun z => by omega, fun z => by omega⟩
    · rw [bt_out (by omega)]
      repeat (refine ev_np [] rfl rfl rfl ?_)
      refine ev_pf rfl (by rfl) ⟨by rfl, by rfl⟩ ?_
      repeat (refine ev_np [] rfl rfl rfl ?_)
      exact ev_rv rfl
    · rw [uF_n _ _ (by decide), v5, ejT]
      show _ = nI (if runS T t (tst T t i) < T then (lex T t (runS T t (tst T t i))).2.2 else T)
      rw [if_neg]
      show ¬ tpl T t i < T
      omega
end LXN
