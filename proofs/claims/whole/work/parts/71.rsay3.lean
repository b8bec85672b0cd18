/-! ===== class Reader: boths, the whole saying ===== -/
section RSB
variable {T N : Nat} {t : Nat → Nat}
def LX (N i : Nat) (out : List Nat) (i' : Nat) (out' : List Nat) : Prop := (i ≤ i' ∧ i' ≤ N) ∧ out'.length + i ≤ out.length + i' ∧ nbit out' ≤ 24 ∧ ∃ ext, out' = out ++ ext ∧ ∀ h, hrun (h + 1) ext = some (h + 1)
theorem LX.rf {i : Nat} {out : List Nat} (hi : i ≤ N) (hb : nbit out ≤ 24) : LX N i out i out := ⟨⟨Nat.le_refl _, hi⟩, Nat.le_refl _, hb, [], by simp, fun h => rfl⟩
/-- a sign between, and a part more -/
theorem LX.more {c i i2 i' : Nat} {out out3 out' : List Nat} (hc : c = 3 ∨ c = 4) (h : SX N (i + 1) out i2 out3) (g : LX N i2 (out3 ++ [c]) i' out') : LX N i out i' out' := by
  obtain ⟨⟨h1, h2⟩, h3, h4, e1, h5, h6⟩ := h
  obtain ⟨⟨g1, g2⟩, g3, g4, e2, g5, g6⟩ := g
  rw [List.length_append] at g3
  simp at g3
  refine ⟨⟨by omega, g2⟩, by omega, g4, e1 ++ [c] ++ e2, by rw [g5, h5]; simp, fun k => ?_⟩
  rw [hrun_app, hrun_app, h6]
  show (hrun (k + 1 + 1) [c]).bind _ = _
  simp only [hrun]
  rw [if_neg (by omega), if_pos hc, if_pos (by omega)]
  exact g6 k
theorem SX.more {i i1 i' : Nat} {out out1 out' : List Nat} (h : SX N i out i1 out1) (g : LX N i1 out1 i' out') : SX N i out i' out' := by
  obtain ⟨⟨h1, h2⟩, h3, h4, e1, h5, h6⟩ := h
  obtain ⟨⟨g1, g2⟩, g3, g4, e2, g5, g6⟩ := g
  refine ⟨⟨by omega, g2⟩, by omega, g4, e1 ++ e2, by rw [g5, h5]; simp, fun k => ?_⟩
  rw [hrun_app, h6]
  exact g6 k
theorem both_loop (hN : TN T t N) (hT : T ≤ 300) (ht : ∀ j, t j < 256) {op D : Nat} (hU : UOK T t N op D) : ∀ fuel i1 out1 τ out2 k, N ≤ i1 + fuel → i1 ≤ N → out1.length ≤ i1 → nbit out1 ≤ 24 → k ≤ i1 → relA τ out2 out1 → ∃ b i' out', (∀ d Y F A, CE F A T t N i1 out1 → ∃ F' A', ev (d + D + 4) t_Reader_readBoth 13 [.ref 34, .ref 42, .int (nI op), .int (nI k)] [] (hp Y F A) (some (.int (z01 b)), hp Y F' A') ∧ (sA [43] A A' ∧ sF [3504, 4201, 4202] F F') ∧ CE F' A' T t N i' out') ∧ (b = true → LX N i1 out1 i' out' ∧ tki T t i' ≠ 38 ∧ ∃ τ' out2', relA τ' out2' out' ∧ ∀ σ, cnts σ = op → hd1 σ → Rch T t (i1, τ ++ σ, out2, false) (i', τ' ++ σ, out2', false)) ∧ (b = false → ∀ σ, cnts σ = op → hd1 σ → Flt T t (i1, τ ++ σ, out2, false) i') := by
  have hN3 := hN.1
  intro fuel
  induction fuel with
  | zero =>
    intro i1 out1 τ out2 k hf hi hl hb hk hr
    have h38 : tki T t i1 ≠ 38 := by rw [show i1 = N by omega, (tk_end hN).1]; decide
    refine ⟨true, i1, out1, fun d Y F A hc => ⟨F, A, ?_, fr_rf, hc⟩, fun _ => ⟨LX.rf hi hb, h38, τ, out2, hr, fun σ _ _ => Rch.rf _⟩, fun z => by cases z⟩
    repeat (refine ev_np [] rfl rfl rfl ?_)
    by_cases e : 300 ≤ k
    · refine ev_it (nI_le (a := 300) e (by omega)) ?_
      repeat (refine ev_np [] rfl rfl rfl ?_)
      exact ev_rz rfl rfl (z01_b _)
    · refine ev_ie (nI_ge (b := 300) (by omega) (by omega)) ?_
      repeat (first | refine ev_np [] rfl rfl rfl ?_ | refine ev_grs [] rfl rfl (by rfl) (by rfl) ?_)
      refine ev_vc rfl (by rfl) (by rfl) rfl (c_Tokens_takeF (d + D + 2) hc.1 ht (k := 38) h38 (by decide)) ?_
      repeat (refine ev_np [] rfl rfl rfl ?_)
      exact ev_rz rfl rfl (z01_b _)
  | succ fuel ih =>
    intro i1 out1 τ out2 k hf hi hl hb hk hr
    by_cases h38 : tki T t i1 = 38
    · have hiN := tk_lt hN hi (by omega)
      obtain ⟨b, i2, out3, r1, r2, r3⟩ := hU (i1 + 1) out1 hiN (by omega) hb
      have hm : ∀ σ, hd1 σ → mstep T t (i1, τ ++ σ, out2, false) = .inl (i1 + 1, 3 :: σ, out1, true) := by
        intro σ hd
        show mst0 T t i1 (τ ++ σ) out2 = _
        unfold mst0
        rw [if_neg (fun z => by omega), if_pos h38, hr.pop hd]
      have hcn : ∀ σ, cnts σ = op → cnts (3 :: σ) = op := fun σ hσ => by show cnts σ + 0 = op; exact hσ
      have head : ∀ d Y F A, CE F A T t N i1 out1 → ∃ F1 A1, (sA [43] A A1 ∧ sF [3504, 4201, 4202] F F1) ∧ CE F1 A1 T t N i2 out3 ∧ ∀ q, ev (d + D + 4) t_Reader_readBoth 38 [.ref 34, .ref 42, .int (nI op), .int (nI k)] [.int (z01 b)] (hp Y F1 A1) q → ev (d + D + 4) t_Reader_readBoth 13 [.ref 34, .ref 42, .int (nI op), .int (nI k)] [] (hp Y F A) q := by
        intro d Y F A hc
        obtain ⟨F1, A1, a1, a2, a3⟩ := r1 d Y _ A (hc.step hiN)
        refine ⟨F1, A1, fr_st a2, a3, fun q hq => ?_⟩
        dsimp only at a1
        repeat (refine ev_np [] rfl rfl rfl ?_)
        refine ev_ie (nI_ge (b := 300) (by omega) (by omega)) ?_
        repeat (first | refine ev_np [] rfl rfl rfl ?_ | refine ev_grs [] rfl rfl (by rfl) (by rfl) ?_)
        refine ev_vc rfl (by rfl) (by rfl) rfl (c_Tokens_takeT (d + D + 2) hc.1 h38 (by decide)) ?_
        repeat (refine ev_np [] rfl rfl rfl ?_)
        refine ev_vc rfl (by rfl) (by rfl) rfl (a1) ?_
        exact hq
      cases b with
      | false =>
        refine ⟨false, i2, out3, fun d Y F A hc => ?_, fun z => (by cases z), fun z σ hσ hd => Flt.st (hm σ hd) (r3 rfl _ (hcn σ hσ))⟩
        obtain ⟨F1, A1, a2, a3, a4⟩ := head d Y F A hc
        refine ⟨F1, A1, a4 _ ?_, a2, a3⟩
        repeat (refine ev_np [] rfl rfl rfl ?_)
        exact ev_rz rfl rfl (z01_b _)
      | true =>
        obtain ⟨r4, r5⟩ := r2 rfl
        have hlen : out3.length + 1 ≤ i2 := by have := r4.2.1; omega
        have hi2 := r4.1
        obtain ⟨b', i', out', s1, s2, s3⟩ := ih i2 (out3 ++ [3]) [3] out3 (k + 1) (by omega) r4.1.2 (by simp; omega) (by rw [nbit_app, if_neg (by omega)]; exact r4.2.2.1) (by omega) (Or.inr ⟨rfl, rfl⟩)
        have hst : ∀ σ, cnts σ = op → hd1 σ → Rch T t (i1, τ ++ σ, out2, false) (i2, [3] ++ σ, out3, false) := fun σ hσ hd => Rch.st (hm σ hd) (by
          have := r5 _ (hcn σ hσ)
          rw [settle3] at this
          exact this)
        refine ⟨b', i', out', fun d Y F A hc => ?_, fun z => ?_, fun z σ hσ hd => (hst σ hσ hd).flt (s3 z σ hσ hd)⟩
        · obtain ⟨F1, A1, a2, a3, a4⟩ := head d Y F A hc
          obtain ⟨F2, A2, b1, b2, b3⟩ := ce_add (Y := Y) (d + D + 3) a3 (c := 3) (by omega) r4.2.2.1 (by decide)
          obtain ⟨F3, A3, c1, c2, c3⟩ := s1 d Y F2 A2 b3
          refine ⟨F3, A3, a4 _ ?_, fr_tr a2 (fr_tr b2 c2), c3⟩
          rw [nI_succ] at c1
          repeat (refine ev_np [] rfl rfl rfl ?_)
          refine ev_vc rfl (by rfl) (by rfl) rfl (b1) ?_
          repeat (refine ev_np [13] rfl rfl rfl ?_)
          exact c1
        · obtain ⟨s4, s5, τ', out2', s6, s7⟩ := s2 z
          exact ⟨LX.more (Or.inl rfl) r4 s4, s5, τ', out2', s6, fun σ hσ hd => (hst σ hσ hd).tr (s7 σ hσ hd)⟩
    · refine ⟨true, i1, out1, fun d Y F A hc => ⟨F, A, ?_, fr_rf, hc⟩, fun _ => ⟨LX.rf hi hb, h38, τ, out2, hr, fun σ _ _ => Rch.rf _⟩, fun z => by cases z⟩
      repeat (refine ev_np [] rfl rfl rfl ?_)
      by_cases e : 300 ≤ k
      · refine ev_it (nI_le (a := 300) e (by omega)) ?_
        repeat (refine ev_np [] rfl rfl rfl ?_)
        exact ev_rz rfl rfl (z01_b _)
      · refine ev_ie (nI_ge (b := 300) (by omega) (by omega)) ?_
        repeat (first | refine ev_np [] rfl rfl rfl ?_ | refine ev_grs [] rfl rfl (by rfl) (by rfl) ?_)
        refine ev_vc rfl (by rfl) (by rfl) rfl (c_Tokens_takeF (d + D + 2) hc.1 ht (k := 38) h38 (by decide)) ?_
        repeat (refine ev_np [] rfl rfl rfl ?_)
        exact ev_rz rfl rfl (z01_b _)
theorem both_ok (hN : TN T t N) (hT : T ≤ 300) (ht : ∀ j, t j < 256) {op D : Nat} (hU : UOK T t N op D) : BOK T t N op D := by
  intro i out hi hl hb
  obtain ⟨b, i1, out1, r1, r2, r3⟩ := hU i out hi hl hb
  cases b with
  | false =>
    refine ⟨false, i1, out1, fun d Y F A hc => ?_, fun z => (by cases z), fun z σ hσ hd => r3 rfl σ hσ⟩
    obtain ⟨F1, A1, a1, a2, a3⟩ := r1 d Y F A hc
    refine ⟨F1, A1, ?_, a2, a3⟩
    dsimp only at a1 ⊢
    refine rn_in m_Reader_readBoth rfl ⟨rfl, rfl⟩ ?_
    show ev _ t_Reader_readBoth 0 [.ref 34, .ref 42, .int (nI op), .float 0] [] _ _
    repeat (refine ev_np [] rfl rfl rfl ?_)
    refine ev_vc rfl (by rfl) (by rfl) rfl (a1) ?_
    repeat (refine ev_np [] rfl rfl rfl ?_)
    exact ev_rz rfl rfl (z01_b _)
  | true =>
    obtain ⟨r4, r5⟩ := r2 rfl
    have hlen : out1.length ≤ i1 := by have := r4.2.1; have := r4.1; omega
    obtain ⟨b', i', out', s1, s2, s3⟩ := both_loop hN hT ht hU N i1 out1 [] out1 0 (by omega) r4.1.2 hlen r4.2.2.1 (Nat.zero_le _) (Or.inl ⟨rfl, rfl⟩)
    have hst : ∀ σ, cnts σ = op → hd1 σ → Rch T t (i, σ, out, true) (i1, [] ++ σ, out1, false) := fun σ hσ hd => by
      have := r5 σ hσ
      rw [settle1 hd] at this
      exact this
    refine ⟨b', i', out', fun d Y F A hc => ?_, fun z => ?_, fun z σ hσ hd => (hst σ hσ hd).flt (s3 z σ hσ hd)⟩
    · obtain ⟨F1, A1, a1, a2, a3⟩ := r1 d Y F A hc
      obtain ⟨F3, A3, c1, c2, c3⟩ := s1 d Y F1 A1 a3
      refine ⟨F3, A3, ?_, fr_tr a2 c2, c3⟩
      dsimp only at a1 ⊢
      refine rn_in m_Reader_readBoth rfl ⟨rfl, rfl⟩ ?_
      show ev _ t_Reader_readBoth 0 [.ref 34, .ref 42, .int (nI op), .float 0] [] _ _
      repeat (refine ev_np [] rfl rfl rfl ?_)
      refine ev_vc rfl (by rfl) (by rfl) rfl (a1) ?_
      repeat (refine ev_np [13] rfl rfl rfl ?_)
      exact c1
    · obtain ⟨s4, s5, τ', out2', s6, s7⟩ := s2 z
      exact ⟨r4.more s4, s5, τ', out2', s6, fun σ hσ hd => (hst σ hσ hd).tr (s7 σ hσ hd)⟩
theorem boths_loop (hN : TN T t N) (hT : T ≤ 300) (ht : ∀ j, t j < 256) {op D : Nat} (hU : BOK T t N op D) : ∀ fuel i1 out1 τ out2 k, N ≤ i1 + fuel → i1 ≤ N → out1.length ≤ i1 → nbit out1 ≤ 24 → k ≤ i1 → tki T t i1 ≠ 38 → relO τ out2 out1 → ∃ b i' out', (∀ d Y F A, CE F A T t N i1 out1 → ∃ F' A', ev (d + D + 5) t_Reader_readBoths 13 [.ref 34, .ref 42, .int (nI op), .int (nI k)] [] (hp Y F A) (some (.int (z01 b)), hp Y F' A') ∧ (sA [43] A A' ∧ sF [3504, 4201, 4202] F F') ∧ CE F' A' T t N i' out') ∧ (b = true → LX N i1 out1 i' out' ∧ (tki T t i' ≠ 38 ∧ tki T t i' ≠ 124) ∧ ∃ τ' out2', relO τ' out2' out' ∧ ∀ σ, cnts σ = op → hd2 σ → Rch T t (i1, τ ++ σ, out2, false) (i', τ' ++ σ, out2', false)) ∧ (b = false → ∀ σ, cnts σ = op → hd2 σ → Flt T t (i1, τ ++ σ, out2, false) i') := by
  have hN3 := hN.1
  intro fuel
  induction fuel with
  | zero =>
    intro i1 out1 τ out2 k hf hi hl hb hk h38 hr
    have h124 : tki T t i1 ≠ 124 := by rw [show i1 = N by omega, (tk_end hN).1]; decide
    refine ⟨true, i1, out1, fun d Y F A hc => ⟨F, A, ?_, fr_rf, hc⟩, fun _ => ⟨LX.rf hi hb, ⟨h38, h124⟩, τ, out2, hr, fun σ _ _ => Rch.rf _⟩, fun z => by cases z⟩
    repeat (refine ev_np [] rfl rfl rfl ?_)
    by_cases e : 300 ≤ k
    · refine ev_it (nI_le (a := 300) e (by omega)) ?_
      repeat (refine ev_np [] rfl rfl rfl ?_)
      exact ev_rz rfl rfl (z01_b _)
    · refine ev_ie (nI_ge (b := 300) (by omega) (by omega)) ?_
      repeat (first | refine ev_np [] rfl rfl rfl ?_ | refine ev_grs [] rfl rfl (by rfl) (by rfl) ?_)
      refine ev_vc rfl (by rfl) (by rfl) rfl (c_Tokens_takeF (d + D + 3) hc.1 ht (k := 124) h124 (by decide)) ?_
      repeat (refine ev_np [] rfl rfl rfl ?_)
      exact ev_rz rfl rfl (z01_b _)
  | succ fuel ih =>
    intro i1 out1 τ out2 k hf hi hl hb hk h38 hr
    by_cases h124 : tki T t i1 = 124
    · have hiN := tk_lt hN hi (by omega)
      obtain ⟨b, i2, out3, r1, r2, r3⟩ := hU (i1 + 1) out1 hiN (by omega) hb
      have hm : ∀ σ, hd2 σ → mstep T t (i1, τ ++ σ, out2, false) = .inl (i1 + 1, 4 :: σ, out1, true) := by
        intro σ hd
        show mst0 T t i1 (τ ++ σ) out2 = _
        unfold mst0
        rw [if_neg (fun z => by omega), if_neg h38, if_pos h124, hr.pop hd]
      have hcn : ∀ σ, cnts σ = op → cnts (4 :: σ) = op := fun σ hσ => by show cnts σ + 0 = op; exact hσ
      have head : ∀ d Y F A, CE F A T t N i1 out1 → ∃ F1 A1, (sA [43] A A1 ∧ sF [3504, 4201, 4202] F F1) ∧ CE F1 A1 T t N i2 out3 ∧ ∀ q, ev (d + D + 5) t_Reader_readBoths 38 [.ref 34, .ref 42, .int (nI op), .int (nI k)] [.int (z01 b)] (hp Y F1 A1) q → ev (d + D + 5) t_Reader_readBoths 13 [.ref 34, .ref 42, .int (nI op), .int (nI k)] [] (hp Y F A) q := by
        intro d Y F A hc
        obtain ⟨F1, A1, a1, a2, a3⟩ := r1 d Y _ A (hc.step hiN)
        refine ⟨F1, A1, fr_st a2, a3, fun q hq => ?_⟩
        dsimp only at a1
        repeat (refine ev_np [] rfl rfl rfl ?_)
        refine ev_ie (nI_ge (b := 300) (by omega) (by omega)) ?_
        repeat (first | refine ev_np [] rfl rfl rfl ?_ | refine ev_grs [] rfl rfl (by rfl) (by rfl) ?_)
        refine ev_vc rfl (by rfl) (by rfl) rfl (c_Tokens_takeT (d + D + 3) hc.1 h124 (by decide)) ?_
        repeat (refine ev_np [] rfl rfl rfl ?_)
        refine ev_vc rfl (by rfl) (by rfl) rfl (a1) ?_
        exact hq
      cases b with
      | false =>
        refine ⟨false, i2, out3, fun d Y F A hc => ?_, fun z => (by cases z), fun z σ hσ hd => Flt.st (hm σ hd) (r3 rfl _ (hcn σ hσ) (Or.inl rfl))⟩
        obtain ⟨F1, A1, a2, a3, a4⟩ := head d Y F A hc
        refine ⟨F1, A1, a4 _ ?_, a2, a3⟩
        repeat (refine ev_np [] rfl rfl rfl ?_)
        exact ev_rz rfl rfl (z01_b _)
      | true =>
        obtain ⟨r4, r5, τ1, out4, r6, r7⟩ := r2 rfl
        have hlen : out3.length + 1 ≤ i2 := by have := r4.2.1; omega
        have hi2 := r4.1
        obtain ⟨b', i', out', s1, s2, s3⟩ := ih i2 (out3 ++ [4]) (τ1 ++ [4]) out4 (k + 1) (by omega) r4.1.2 (by simp; omega) (by rw [nbit_app, if_neg (by omega)]; exact r4.2.2.1) (by omega) r5 r6.o4
        have hst : ∀ σ, cnts σ = op → hd2 σ → Rch T t (i1, τ ++ σ, out2, false) (i2, τ1 ++ [4] ++ σ, out4, false) := fun σ hσ hd => Rch.st (hm σ hd) (by
          have := r7 _ (hcn σ hσ) (Or.inl rfl)
          rw [show τ1 ++ [4] ++ σ = τ1 ++ 4 :: σ by simp]
          exact this)
        refine ⟨b', i', out', fun d Y F A hc => ?_, fun z => ?_, fun z σ hσ hd => (hst σ hσ hd).flt (s3 z σ hσ hd)⟩
        · obtain ⟨F1, A1, a2, a3, a4⟩ := head d Y F A hc
          obtain ⟨F2, A2, b1, b2, b3⟩ := ce_add (Y := Y) (d + D + 4) a3 (c := 4) (by omega) r4.2.2.1 (by decide)
          obtain ⟨F3, A3, c1, c2, c3⟩ := s1 d Y F2 A2 b3
          refine ⟨F3, A3, a4 _ ?_, fr_tr a2 (fr_tr b2 c2), c3⟩
          rw [nI_succ] at c1
          repeat (refine ev_np [] rfl rfl rfl ?_)
          refine ev_vc rfl (by rfl) (by rfl) rfl (b1) ?_
          repeat (refine ev_np [13] rfl rfl rfl ?_)
          exact c1
        · obtain ⟨s4, s5, τ', out2', s6, s7⟩ := s2 z
          exact ⟨LX.more (Or.inr rfl) r4 s4, s5, τ', out2', s6, fun σ hσ hd => (hst σ hσ hd).tr (s7 σ hσ hd)⟩
    · refine ⟨true, i1, out1, fun d Y F A hc => ⟨F, A, ?_, fr_rf, hc⟩, fun _ => ⟨LX.rf hi hb, ⟨h38, h124⟩, τ, out2, hr, fun σ _ _ => Rch.rf _⟩, fun z => by cases z⟩
      repeat (refine ev_np [] rfl rfl rfl ?_)
      by_cases e : 300 ≤ k
      · refine ev_it (nI_le (a := 300) e (by omega)) ?_
        repeat (refine ev_np [] rfl rfl rfl ?_)
        exact ev_rz rfl rfl (z01_b _)
      · refine ev_ie (nI_ge (b := 300) (by omega) (by omega)) ?_
        repeat (first | refine ev_np [] rfl rfl rfl ?_ | refine ev_grs [] rfl rfl (by rfl) (by rfl) ?_)
        refine ev_vc rfl (by rfl) (by rfl) rfl (c_Tokens_takeF (d + D + 3) hc.1 ht (k := 124) h124 (by decide)) ?_
        repeat (refine ev_np [] rfl rfl rfl ?_)
        exact ev_rz rfl rfl (z01_b _)
theorem boths_ok (hN : TN T t N) (hT : T ≤ 300) (ht : ∀ j, t j < 256) {op D : Nat} (hU : BOK T t N op D) : BSOK T t N op D := by
  intro i out hi hl hb
  obtain ⟨b, i1, out1, r1, r2, r3⟩ := hU i out hi hl hb
  cases b with
  | false =>
    refine ⟨false, i1, out1, fun d Y F A hc => ?_, fun z => (by cases z), fun z σ hσ hd => r3 rfl σ hσ hd.w⟩
    obtain ⟨F1, A1, a1, a2, a3⟩ := r1 d Y F A hc
    refine ⟨F1, A1, ?_, a2, a3⟩
    dsimp only at a1 ⊢
    refine rn_in m_Reader_readBoths rfl ⟨rfl, rfl⟩ ?_
    show ev _ t_Reader_readBoths 0 [.ref 34, .ref 42, .int (nI op), .float 0] [] _ _
    repeat (refine ev_np [] rfl rfl rfl ?_)
    refine ev_vc rfl (by rfl) (by rfl) rfl (a1) ?_
    repeat (refine ev_np [] rfl rfl rfl ?_)
    exact ev_rz rfl rfl (z01_b _)
  | true =>
    obtain ⟨r4, r5, τ1, out4, r6, r7⟩ := r2 rfl
    have hlen : out1.length ≤ i1 := by have := r4.2.1; have := r4.1; omega
    obtain ⟨b', i', out', s1, s2, s3⟩ := boths_loop hN hT ht hU N i1 out1 τ1 out4 0 (by omega) r4.1.2 hlen r4.2.2.1 (Nat.zero_le _) r5 r6.o
    refine ⟨b', i', out', fun d Y F A hc => ?_, fun z => ?_, fun z σ hσ hd => (r7 σ hσ hd.w).flt (s3 z σ hσ hd)⟩
    · obtain ⟨F1, A1, a1, a2, a3⟩ := r1 d Y F A hc
      obtain ⟨F3, A3, c1, c2, c3⟩ := s1 d Y F1 A1 a3
      refine ⟨F3, A3, ?_, fr_tr a2 c2, c3⟩
      dsimp only at a1 ⊢
      refine rn_in m_Reader_readBoths rfl ⟨rfl, rfl⟩ ?_
      show ev _ t_Reader_readBoths 0 [.ref 34, .ref 42, .int (nI op), .float 0] [] _ _
      repeat (refine ev_np [] rfl rfl rfl ?_)
      refine ev_vc rfl (by rfl) (by rfl) rfl (a1) ?_
      repeat (refine ev_np [13] rfl rfl rfl ?_)
      exact c1
    · obtain ⟨s4, s5, τ', out2', s6, s7⟩ := s2 z
      exact ⟨r4.more s4, s5, τ', out2', s6, fun σ hσ hd => (r7 σ hσ hd.w).tr (s7 σ hσ hd)⟩
theorem all_ok (hN : TN T t N) (hT : T ≤ 300) (ht : ∀ j, t j < 256) : ∀ m, m ≤ 10 → UOK T t N (10 - m) (3 * m) ∧ BSOK T t N (10 - m) (3 * m) := by
  intro m
  induction m with
  | zero =>
    intro _
    have := unit_10 hN hT ht 0
    exact ⟨this, boths_ok hN hT ht (both_ok hN hT ht this)⟩
  | succ m ih =>
    intro hm
    obtain ⟨h1, h2⟩ := ih (by omega)
    rw [show 10 - m = 10 - (m + 1) + 1 by omega] at h1 h2
    have := unit_ok hN hT ht (op := 10 - (m + 1)) (by omega) h1 h2
    exact ⟨this, boths_ok hN hT ht (both_ok hN hT ht this)⟩
/-- what a saying's text comes to: its steps; or the token of its fault -/
theorem say_pure (hN : TN T t N) (hT : T ≤ 300) (ht : ∀ j, t j < 256) : (∃ i' out', tki T t i' = 0 ∧ SX N 0 [] i' out' ∧ (∃ τ out2, relO τ out2 out' ∧ Rch T t (0, [], [], true) (i', τ, out2, false)) ∧ ∀ d Y F A, TX F A T t → ∃ F' A', xa_rn xa_ms (d + 37) n_Reader_readSaying [.ref 34, .ref 32, .ref 42] (hp Y F A) (some (.int (nI (nbit out')))) (hp Y F' A') ∧ sA [36, 37, 38, 43] A A' ∧ sF [3503, 3504, 4201, 4202] F F' ∧ CY F' A' out') ∨ (∃ i', Flt T t (0, [], [], true) i' ∧ ∀ d Y F A, TX F A T t → ∃ F' A', xa_rn xa_ms (d + 37) n_Reader_readSaying [.ref 34, .ref 32, .ref 42] (hp Y F A) (some (.int (-10 - nI (tpl T t i')))) (hp Y F' A') ∧ sA [36, 37, 38, 43] A A' ∧ sF [3503, 3504, 4201, 4202] F F') := by
  obtain ⟨b, i', out', r1, r2, r3⟩ := (all_ok hN hT ht 10 (Nat.le_refl _)).2 0 [] (Nat.zero_le _) (Nat.le_refl _) (Nat.zero_le _)
  have htk := (tok_b (T := T) (t := t) i' ht).1
  have head : ∀ d Y F A, TX F A T t → ∃ F1 A1, (sA [36, 37, 38, 43] A A1 ∧ sF [3503, 3504, 4201, 4202] F F1) ∧ CE F1 A1 T t N i' out' ∧ ∀ q, ev (d + 36) t_Reader_readSaying 18 [.ref 34, .ref 32, .ref 42] [.int (z01 b)] (hp Y F1 A1) q → xa_rn xa_ms (d + 37) n_Reader_readSaying [.ref 34, .ref 32, .ref 42] (hp Y F A) q.1 q.2 := by
    intro d Y F A hx
    obtain ⟨F0, A0, z1, z2, z3, z4⟩ := c_Tokens_split (Y := Y) (d + 27) hx hN
    obtain ⟨F1, y1, y2, y3⟩ := c_Saying_reset (Y := Y) (F := F0) (A := A0) (d + 35)
    obtain ⟨F2, A2, a1, a2, a3⟩ := r1 d Y F1 A0 ⟨z4.frame (y2 35 3 (by decide)) (y2 35 4 (by decide)) rfl rfl rfl, y3⟩
    refine ⟨F2, A2, ⟨(z2.mono (by decide)).tr (a2.1.mono (by decide)), (z3.mono (by decide)).tr ((y2.mono (by decide)).tr (a2.2.mono (by decide)))⟩, a3, fun q hq => ?_⟩
    have a1 : xa_rn xa_ms (d + 36) n_Reader_readBoths [.ref 34, .ref 42, .int 0] (hp Y F1 A0) (some (.int (z01 b))) (hp Y F2 A2) := a1
    refine rn_in m_Reader_readSaying rfl ⟨rfl, rfl⟩ ?_
    show ev _ t_Reader_readSaying 0 [.ref 34, .ref 32, .ref 42] [] _ _
    repeat (first | refine ev_np [] rfl rfl rfl ?_ | refine ev_grs [] rfl rfl (by rfl) (by rfl) ?_)
    refine ev_vc rfl (by rfl) (by rfl) rfl (z1) ?_
    repeat (refine ev_np [] rfl rfl rfl ?_)
    refine ev_vc rfl (by rfl) (by rfl) rfl (y1) ?_
    repeat (refine ev_np [] rfl rfl rfl ?_)
    refine ev_vc rfl (by rfl) (by rfl) rfl (a1) ?_
    exact hq
  cases b with
  | false =>
    right
    refine ⟨i', r3 rfl [] rfl trivial, fun d Y F A hx => ?_⟩
    obtain ⟨F1, A1, a2, a3, a4⟩ := head d Y F A hx
    refine ⟨F1, A1, a4 (some (.int (-10 - nI (tpl T t i'))), _) ?_, a2.1, a2.2⟩
    repeat (first | refine ev_np [] rfl rfl rfl ?_ | refine ev_grs [] rfl rfl (by rfl) (by rfl) ?_)
    refine ev_vc rfl (by rfl) (by rfl) rfl (c_Tokens_place (d + 35) a3.1) ?_
    repeat (refine ev_np [] rfl rfl rfl ?_)
    exact ev_ri rfl rfl
  | true =>
    obtain ⟨r4, r5, τ, out2, r6, r7⟩ := r2 rfl
    have hR := r7 [] rfl trivial
    rw [List.append_nil] at hR
    by_cases h0 : tki T t i' = 0
    · left
      refine ⟨i', out', h0, r4, ⟨τ, out2, r6, hR⟩, fun d Y F A hx => ?_⟩
      obtain ⟨F1, A1, a2, a3, a4⟩ := head d Y F A hx
      refine ⟨F1, A1, a4 (some (.int (nI (nbit out'))), _) ?_, a2.1, a2.2, a3.2⟩
      repeat (first | refine ev_np [] rfl rfl rfl ?_ | refine ev_grs [] rfl rfl (by rfl) (by rfl) ?_)
      refine ev_vc rfl (by rfl) (by rfl) rfl (c_Tokens_kind (d + 35) a3.1) ?_
      rw [h0]
      repeat (refine ev_np [] rfl rfl rfl ?_)
      refine ev_vc rfl (by rfl) (by rfl) rfl (c_Saying_bits (d + 35) a3.2) ?_
      exact ev_ri rfl rfl
    · right
      refine ⟨i', hR.flt (Flt.at ?_), fun d Y F A hx => ?_⟩
      · show mst0 T t i' τ out2 = _
        unfold mst0
        rw [if_neg (fun z => h0 z.1), if_neg r5.1, if_neg r5.2, if_neg (fun z => r6.no z.2)]
      · obtain ⟨F1, A1, a2, a3, a4⟩ := head d Y F A hx
        refine ⟨F1, A1, a4 (some (.int (-10 - nI (tpl T t i'))), _) ?_, a2.1, a2.2⟩
        repeat (first | refine ev_np [] rfl rfl rfl ?_ | refine ev_grs [] rfl rfl (by rfl) (by rfl) ?_)
        refine ev_vc rfl (by rfl) (by rfl) rfl (c_Tokens_kind (d + 35) a3.1) ?_
        repeat (refine ev_np [] rfl rfl rfl ?_)
        refine ev_ie (fun z => h0 ((nI_eq (b := 0) (by omega) (by omega)).mp z)) ?_
        repeat (first | refine ev_np [] rfl rfl rfl ?_ | refine ev_grs [] rfl rfl (by rfl) (by rfl) ?_)
        refine ev_vc rfl (by rfl) (by rfl) rfl (c_Tokens_place (d + 35) a3.1) ?_
        repeat (refine ev_np [] rfl rfl rfl ?_)
        exact ev_ri rfl rfl
end RSB
