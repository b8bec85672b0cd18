/-! ===== class Reader: units, boths ===== -/
section RSZ
variable {T N : Nat} {t : Nat → Nat}
/-- the signs of a unit, one after the other -/
theorem un_head {Y : Nat × (Nat → Int32)} {F A : Nat → Nat → Int32} (d : Nat) (ht : ∀ j, t j < 256) {op i : Nat} {out : List Nat} (hop : op < 10) (hc : CE F A T t N i out) (h2 : tki T t i ≠ 2) : ∀ q, ev (d + 3) t_Reader_readUnit 25 [.ref 34, .ref 42, .int (nI op)] [] (hp Y F A) q → xa_rn xa_ms (d + 4) n_Reader_readUnit [.ref 34, .ref 42, .int (nI op)] (hp Y F A) q.1 q.2 := by
  intro q hq
  have htk := (tok_b (T := T) (t := t) i ht).1
  refine rn_in m_Reader_readUnit rfl ⟨rfl, rfl⟩ ?_
  show ev _ t_Reader_readUnit 0 [.ref 34, .ref 42, .int (nI op)] [] _ _
  repeat (first | refine ev_np [] rfl rfl rfl ?_ | refine ev_grs [] rfl rfl (by rfl) (by rfl) ?_)
  refine ev_vc rfl (by rfl) (by rfl) rfl (c_Tokens_kind (d + 2) hc.1) ?_
  repeat (refine ev_np [] rfl rfl rfl ?_)
  refine ev_it (fun z => h2 ((nI_eq (b := 2) (by omega) (by omega)).mp z)) ?_
  repeat (refine ev_np [] rfl rfl rfl ?_)
  refine ev_it (nI_lt (b := 10) hop (by omega)) ?_
  exact hq
theorem un_no1 {Y : Nat × (Nat → Int32)} {F A : Nat → Nat → Int32} (d : Nat) (ht : ∀ j, t j < 256) {op i : Nat} {out : List Nat} (hc : CE F A T t N i out) (h : tki T t i ≠ 33) : ∀ q, ev (d + 3) t_Reader_readUnit 46 [.ref 34, .ref 42, .int (nI op)] [] (hp Y F A) q → ev (d + 3) t_Reader_readUnit 25 [.ref 34, .ref 42, .int (nI op)] [] (hp Y F A) q := by
  intro q hq
  repeat (first | refine ev_np [] rfl rfl rfl ?_ | refine ev_grs [] rfl rfl (by rfl) (by rfl) ?_)
  refine ev_vc rfl (by rfl) (by rfl) rfl (c_Tokens_takeF (d + 1) hc.1 ht (k := 33) h (by decide)) ?_
  repeat (refine ev_np [46] rfl rfl rfl ?_)
  exact hq
theorem un_no2 {Y : Nat × (Nat → Int32)} {F A : Nat → Nat → Int32} (d : Nat) (ht : ∀ j, t j < 256) {op i : Nat} {out : List Nat} (hc : CE F A T t N i out) (h : tki T t i ≠ 40) : ∀ q, ev (d + 3) t_Reader_readUnit 87 [.ref 34, .ref 42, .int (nI op)] [] (hp Y F A) q → ev (d + 3) t_Reader_readUnit 46 [.ref 34, .ref 42, .int (nI op)] [] (hp Y F A) q := by
  intro q hq
  repeat (first | refine ev_np [] rfl rfl rfl ?_ | refine ev_grs [] rfl rfl (by rfl) (by rfl) ?_)
  refine ev_vc rfl (by rfl) (by rfl) rfl (c_Tokens_takeF (d + 1) hc.1 ht (k := 40) h (by decide)) ?_
  repeat (refine ev_np [87] rfl rfl rfl ?_)
  exact hq
theorem un_no3 {Y : Nat × (Nat → Int32)} {F A : Nat → Nat → Int32} (d : Nat) (ht : ∀ j, t j < 256) {op i : Nat} {out : List Nat} (hc : CE F A T t N i out) (h : tki T t i ≠ 60) : ∀ q, ev (d + 3) t_Reader_readUnit 111 [.ref 34, .ref 42, .int (nI op)] [] (hp Y F A) q → ev (d + 3) t_Reader_readUnit 87 [.ref 34, .ref 42, .int (nI op)] [] (hp Y F A) q := by
  intro q hq
  repeat (first | refine ev_np [] rfl rfl rfl ?_ | refine ev_grs [] rfl rfl (by rfl) (by rfl) ?_)
  refine ev_vc rfl (by rfl) (by rfl) rfl (c_Tokens_takeF (d + 1) hc.1 ht (k := 60) h (by decide)) ?_
  repeat (refine ev_np [111] rfl rfl rfl ?_)
  exact hq
theorem RN.wk {mi D i i' : Nat} {as : List Value} {out out' : List Nat} {b : Bool} {f g : Nat → Nat} (h : RN T t N mi as f i out b i' out') (hg : ∀ d, ∃ d', g d = f d') : RN T t N mi as g i out b i' out' := by
  intro d Y F A hc
  obtain ⟨d', e⟩ := hg d
  obtain ⟨F1, A1, a1, a2, a3⟩ := h d' Y F A hc
  exact ⟨F1, A1, by rw [e]; exact a1, a2, a3⟩
/-- a unit with an arrow -/
theorem unit_arr (hN : TN T t N) (hT : T ≤ 300) (ht : ∀ j, t j < 256) {op D i : Nat} {out : List Nat} (hop : op < 10) (hU : UOK T t N (op + 1) D) (hi : i ≤ N) (hl : out.length ≤ i) (hb : nbit out ≤ 24) (c k s : Nat) (hc : c = 62 ∧ k = 5 ∧ s = 60 ∨ c = 93 ∧ k = 8 ∧ s = 91) (hs : tki T t i = s)
    (go : ∀ b i' out', RN T t N n_Reader_readArrow [.ref 34, .ref 42, .int (nI k), .int (nI c), .int (nI (op + 1))] (fun d => d + D + 6) (i + 1) out b i' out' → RN T t N n_Reader_readUnit [.ref 34, .ref 42, .int (nI op)] (fun d => d + (D + 3) + 4) i out b i' out') : UC T t N op (D + 3) i out := by
  have hiN := tk_lt hN hi (by omega)
  have hN3 := hN.1
  have m1 : ∀ σ, cnts σ = op → mstep T t (i, σ, out, true) = mar T t i σ out c k := by
    intro σ hσ
    show mst1 T t i σ out = _
    rw [mst_ne (by omega) (by omega)]
    rcases hc with ⟨rfl, rfl, rfl⟩ | ⟨rfl, rfl, rfl⟩
    · rw [if_neg (by omega), if_neg (by omega), if_pos hs]
    · rw [if_neg (by omega), if_neg (by omega), if_neg (by omega), if_pos hs]
  have hwk : ∀ d : Nat, ∃ d', d + D + 6 = d' + D + 5 := fun d => ⟨d + 1, by omega⟩
  by_cases h3 : tki T t (i + 1) = 3
  · have hi1 := tk_lt hN (i := i + 1) hiN (by omega)
    have hl3 := lett h3
    by_cases h4 : tki T t (i + 2) = c
    · have hi2 := tk_lt hN (i := i + 2) hi1 (by omega)
      obtain ⟨b, i', out', r1, r2, r3⟩ := hU (i + 3) out hi2 (by omega) hb
      have hcf : k + two T t (i + 1) = 2 ∨ (5 ≤ k + two T t (i + 1) ∧ k + two T t (i + 1) ≤ 10) := by omega
      have hm2 : ∀ σ, cnts σ = op → mstep T t (i, σ, out, true) = .inl (i + 3, (k + two T t (i + 1)) :: σ, out, true) := by
        intro σ hσ
        rw [m1 σ hσ]
        unfold mar
        rw [if_pos h3, if_pos h4]
      have hcn : ∀ σ, cnts σ = op → cnts ((k + two T t (i + 1)) :: σ) = op + 1 := by
        intro σ hσ
        simp only [cnts]
        rw [if_neg (by omega), hσ]
      have hr := go b i' _ ((rn_arr3 hN ht h3 (by omega) (by omega) (k := k) (by omega) h4 r1 (fun z => ⟨(r2 z).1.ln (j := i) (by omega) hl (by omega), (r2 z).1.2.2.1⟩)).wk (D := D) hwk)
      refine ⟨b, i', _, hr, fun z => ?_, fun z σ hσ => Flt.st (hm2 σ hσ) (r3 z _ (hcn σ hσ))⟩
      subst z
      obtain ⟨r4, r5⟩ := r2 rfl
      refine ⟨r4.u hcf (by omega), fun σ hσ => Rch.st (hm2 σ hσ) ?_⟩
      have := r5 _ (hcn σ hσ)
      rw [settleP hcf] at this
      exact this
    · refine ⟨false, i + 1 + 1, out, go false (i + 1 + 1) out ((rn_arr2 hN ht h3 (by omega) h4).wk (D := D) hwk), fun z => (by cases z), fun _ σ hσ => Flt.at ?_⟩
      rw [m1 σ hσ]
      unfold mar
      rw [if_pos h3, if_neg h4]
  · refine ⟨false, i + 1, out, go false (i + 1) out ((rn_arr1 ht h3).wk (D := D) hwk), fun z => (by cases z), fun _ σ hσ => Flt.at ?_⟩
    rw [m1 σ hσ]
    unfold mar
    rw [if_neg h3]
theorem unit_ok (hN : TN T t N) (hT : T ≤ 300) (ht : ∀ j, t j < 256) {op D : Nat} (hop : op < 10) (hU : UOK T t N (op + 1) D) (hB : BSOK T t N (op + 1) D) : UOK T t N op (D + 3) := by
  intro i out hi hl hb
  have hN3 := hN.1
  by_cases h2 : tki T t i = 2
  · exact unit_A hN hT ht hi hl hb h2
  by_cases h33 : tki T t i = 33
  · have hiN := tk_lt hN hi (by omega)
    obtain ⟨b, i', out', r1, r2, r3⟩ := hU (i + 1) out hiN (by omega) hb
    have hm : ∀ σ, cnts σ = op → mstep T t (i, σ, out, true) = .inl (i + 1, 2 :: σ, out, true) := by
      intro σ hσ
      show mst1 T t i σ out = _
      rw [mst_ne h2 (by omega), if_pos h33]
    have hcn : ∀ σ, cnts σ = op → cnts (2 :: σ) = op + 1 := fun σ hσ => by
      simp only [cnts]
      rw [if_neg (by omega), hσ]
    have hr := rn_not r1 (fun z => ⟨(r2 z).1.ln (j := i) (by omega) hl (by omega), (r2 z).1.2.2.1⟩)
    refine ⟨b, i', bif b then out' ++ [2] else out', fun d Y F A hc => ?_, fun z => ?_, fun z σ hσ => Flt.st (hm σ hσ) (r3 z _ (hcn σ hσ))⟩
    · obtain ⟨F1, A1, a1, a2, a3⟩ := hr (d + 1) Y _ A (hc.step hiN)
      refine ⟨F1, A1, un_head (d + D + 3) ht hop hc h2 (some (.int (z01 b)), _) ?_, fr_st a2, a3⟩
      have a1 : xa_rn xa_ms (d + D + 6) n_Reader_readNot [.ref 34, .ref 42, .int (nI (op + 1))] (hp Y (uF F 35 4 (nI (i + 1))) A) (some (.int (z01 b))) (hp Y F1 A1) := by
        rw [show d + D + 6 = d + 1 + D + 5 by omega]
        exact a1
      repeat (first | refine ev_np [] rfl rfl rfl ?_ | refine ev_grs [] rfl rfl (by rfl) (by rfl) ?_)
      refine ev_vc rfl (by rfl) (by rfl) rfl (c_Tokens_takeT (d + D + 4) hc.1 h33 (by decide)) ?_
      repeat (refine ev_np [] rfl rfl rfl ?_)
      rw [nI_1]
      refine ev_vc rfl (by rfl) (by rfl) rfl (a1) ?_
      exact ev_rz rfl rfl (z01_b _)
    · subst z
      obtain ⟨r4, r5⟩ := r2 rfl
      refine ⟨r4.u (Or.inl rfl) (by omega), fun σ hσ => Rch.st (hm σ hσ) ?_⟩
      have := r5 _ (hcn σ hσ)
      rw [settleP (Or.inl rfl)] at this
      exact this
  by_cases h40 : tki T t i = 40
  · have hiN := tk_lt hN hi (by omega)
    obtain ⟨b, i', out', r1, r2, r3⟩ := hB (i + 1) out hiN (by omega) hb
    have hm : ∀ σ, cnts σ = op → mstep T t (i, σ, out, true) = .inl (i + 1, 11 :: σ, out, true) := by
      intro σ hσ
      show mst1 T t i σ out = _
      rw [mst_ne h2 (by omega), if_neg h33, if_pos h40]
    have hcn : ∀ σ, cnts σ = op → cnts (11 :: σ) = op + 1 := fun σ hσ => by
      simp only [cnts]
      rw [if_neg (by omega), hσ]
    have head : ∀ d Y F A, CE F A T t N i out → ∃ F1 A1, (sA [43] A A1 ∧ sF [3504, 4201, 4202] F F1) ∧ CE F1 A1 T t N i' out' ∧ ∀ q, ev (d + D + 6) t_Reader_readUnit 66 [.ref 34, .ref 42, .int (nI op)] [.int (z01 b)] (hp Y F1 A1) q → xa_rn xa_ms (d + D + 7) n_Reader_readUnit [.ref 34, .ref 42, .int (nI op)] (hp Y F A) q.1 q.2 := by
      intro d Y F A hc
      obtain ⟨F1, A1, a1, a2, a3⟩ := r1 d Y _ A (hc.step hiN)
      refine ⟨F1, A1, fr_st a2, a3, fun q hq => un_head (d + D + 3) ht hop hc h2 q (un_no1 (d + D + 3) ht hc h33 q ?_)⟩
      dsimp only at a1
      repeat (first | refine ev_np [] rfl rfl rfl ?_ | refine ev_grs [] rfl rfl (by rfl) (by rfl) ?_)
      refine ev_vc rfl (by rfl) (by rfl) rfl (c_Tokens_takeT (d + D + 4) hc.1 h40 (by decide)) ?_
      repeat (refine ev_np [] rfl rfl rfl ?_)
      rw [nI_1]
      refine ev_vc rfl (by rfl) (by rfl) rfl (a1) ?_
      exact hq
    cases b with
    | false =>
      refine ⟨false, i', out', fun d Y F A hc => ?_, fun z => (by cases z), fun z σ hσ => Flt.st (hm σ hσ) (r3 rfl _ (hcn σ hσ) rfl)⟩
      obtain ⟨F1, A1, a2, a3, a4⟩ := head d Y F A hc
      refine ⟨F1, A1, a4 (some (.int (z01 false)), _) ?_, a2, a3⟩
      repeat (refine ev_np [] rfl rfl rfl ?_)
      exact ev_rz rfl rfl (z01_b _)
    | true =>
      obtain ⟨r4, r5, τ, out2, r6, r7⟩ := r2 rfl
      by_cases h41 : tki T t i' = 41
      · have hiN' := tk_lt hN r4.1.2 (by omega)
        refine ⟨true, i' + 1, out', fun d Y F A hc => ?_, fun _ => ⟨⟨⟨by have := r4.1.1; omega, hiN'⟩, by have := r4.2.1; omega, r4.2.2⟩, fun σ hσ => Rch.st (hm σ hσ) ((r7 _ (hcn σ hσ) rfl).tr (Rch.st ?_ (Rch.rf _)))⟩, fun z => by cases z⟩
        · obtain ⟨F1, A1, a2, a3, a4⟩ := head d Y F A hc
          refine ⟨uF F1 35 4 (nI (i' + 1)), A1, a4 (some (.int (z01 true)), _) ?_, ⟨a2.1, a2.2.tr (sF.up (by decide))⟩, a3.step hiN'⟩
          repeat (first | refine ev_np [] rfl rfl rfl ?_ | refine ev_grs [] rfl rfl (by rfl) (by rfl) ?_)
          refine ev_vc rfl (by rfl) (by rfl) rfl (c_Tokens_takeT (d + D + 4) a3.1 h41 (by decide)) ?_
          repeat (refine ev_np [] rfl rfl rfl ?_)
          exact ev_rz rfl rfl (z01_b _)
        · show mst0 T t i' (τ ++ 11 :: σ) out2 = _
          unfold mst0
          rw [if_neg (fun z => by omega), if_neg r5.1, if_neg r5.2, if_pos ⟨h41, by simp⟩, r6.par]
      · refine ⟨false, i', out', fun d Y F A hc => ?_, fun z => (by cases z), fun z σ hσ => Flt.st (hm σ hσ) ((r7 _ (hcn σ hσ) rfl).flt (Flt.at ?_))⟩
        · obtain ⟨F1, A1, a2, a3, a4⟩ := head d Y F A hc
          refine ⟨F1, A1, a4 (some (.int (z01 false)), _) ?_, a2, a3⟩
          repeat (first | refine ev_np [] rfl rfl rfl ?_ | refine ev_grs [] rfl rfl (by rfl) (by rfl) ?_)
          refine ev_vc rfl (by rfl) (by rfl) rfl (c_Tokens_takeF (d + D + 4) a3.1 ht (k := 41) h41 (by decide)) ?_
          repeat (refine ev_np [] rfl rfl rfl ?_)
          exact ev_rz rfl rfl (z01_b _)
        · show mst0 T t i' (τ ++ 11 :: σ) out2 = _
          unfold mst0
          rw [if_neg (fun z => z.2 (by simp)), if_neg r5.1, if_neg r5.2, if_neg (fun z => h41 z.1)]
  by_cases h60 : tki T t i = 60
  · have hiN := tk_lt hN hi (by omega)
    refine unit_arr hN hT ht hop hU hi hl hb 62 5 60 (Or.inl ⟨rfl, rfl, rfl⟩) h60 (fun b i' out' hr d Y F A hc => ?_)
    obtain ⟨F1, A1, a1, a2, a3⟩ := hr d Y _ A (hc.step hiN)
    refine ⟨F1, A1, un_head (d + D + 3) ht hop hc h2 (some (.int (z01 b)), _) (un_no1 (d + D + 3) ht hc h33 _ (un_no2 (d + D + 3) ht hc h40 _ ?_)), fr_st a2, a3⟩
    dsimp only at a1
    repeat (first | refine ev_np [] rfl rfl rfl ?_ | refine ev_grs [] rfl rfl (by rfl) (by rfl) ?_)
    refine ev_vc rfl (by rfl) (by rfl) rfl (c_Tokens_takeT (d + D + 4) hc.1 h60 (by decide)) ?_
    repeat (refine ev_np [] rfl rfl rfl ?_)
    rw [nI_1]
    refine ev_vc rfl (by rfl) (by rfl) rfl (a1) ?_
    exact ev_rz rfl rfl (z01_b _)
  by_cases h91 : tki T t i = 91
  · have hiN := tk_lt hN hi (by omega)
    refine unit_arr hN hT ht hop hU hi hl hb 93 8 91 (Or.inr ⟨rfl, rfl, rfl⟩) h91 (fun b i' out' hr d Y F A hc => ?_)
    obtain ⟨F1, A1, a1, a2, a3⟩ := hr d Y _ A (hc.step hiN)
    refine ⟨F1, A1, un_head (d + D + 3) ht hop hc h2 (some (.int (z01 b)), _) (un_no1 (d + D + 3) ht hc h33 _ (un_no2 (d + D + 3) ht hc h40 _ (un_no3 (d + D + 3) ht hc h60 _ ?_))), fr_st a2, a3⟩
    dsimp only at a1
    repeat (first | refine ev_np [] rfl rfl rfl ?_ | refine ev_grs [] rfl rfl (by rfl) (by rfl) ?_)
    refine ev_vc rfl (by rfl) (by rfl) rfl (c_Tokens_takeT (d + D + 4) hc.1 h91 (by decide)) ?_
    repeat (refine ev_np [] rfl rfl rfl ?_)
    rw [nI_1]
    refine ev_vc rfl (by rfl) (by rfl) rfl (a1) ?_
    cases b with
    | true =>
      repeat (refine ev_np [] rfl rfl rfl ?_)
      exact ev_rz rfl rfl (z01_b _)
    | false =>
      repeat (refine ev_np [] rfl rfl rfl ?_)
      exact ev_rz rfl rfl (z01_b _)
  · refine ⟨false, i, out, fun d Y F A hc => ⟨F, A, un_head (d + D + 3) ht hop hc h2 (some (.int (z01 false)), _) (un_no1 (d + D + 3) ht hc h33 _ (un_no2 (d + D + 3) ht hc h40 _ (un_no3 (d + D + 3) ht hc h60 _ ?_))), fr_rf, hc⟩, fun z => (by cases z), fun _ σ hσ => Flt.at ?_⟩
    · repeat (first | refine ev_np [] rfl rfl rfl ?_ | refine ev_grs [] rfl rfl (by rfl) (by rfl) ?_)
      refine ev_vc rfl (by rfl) (by rfl) rfl (c_Tokens_takeF (d + D + 4) hc.1 ht (k := 91) h91 (by decide)) ?_
      repeat (refine ev_np [] rfl rfl rfl ?_)
      exact ev_rz rfl rfl (z01_b _)
    · show mst1 T t i σ out = _
      rw [mst_ne h2 (by omega), if_neg h33, if_neg h40, if_neg h60, if_neg h91]
end RSZ
