/-! ===== class Reader: sayings ===== -/
def CE (F A : Nat → Nat → Int32) (T : Nat) (t : Nat → Nat) (N i : Nat) (out : List Nat) : Prop := TK F A T t N i ∧ CY F A out
/-- a reader's method, from one token and what is put to others -/
def RN (T : Nat) (t : Nat → Nat) (N mi : Nat) (as : List Value) (dep : Nat → Nat) (i : Nat) (out : List Nat) (b : Bool) (i' : Nat) (out' : List Nat) : Prop := ∀ d Y F A, CE F A T t N i out → ∃ F' A', xa_rn xa_ms (dep d) mi as (hp Y F A) (some (.int (z01 b))) (hp Y F' A') ∧ (sA [43] A A' ∧ sF [3504, 4201, 4202] F F') ∧ CE F' A' T t N i' out'
def SX (N i : Nat) (out : List Nat) (i' : Nat) (out' : List Nat) : Prop := (i < i' ∧ i' ≤ N) ∧ out'.length + i ≤ out.length + i' ∧ nbit out' ≤ 24 ∧ ∃ ext, out' = out ++ ext ∧ ∀ h, hrun h ext = some (h + 1)
def UC (T : Nat) (t : Nat → Nat) (N op D i : Nat) (out : List Nat) : Prop := ∃ b i' out', RN T t N n_Reader_readUnit [.ref 34, .ref 42, .int (nI op)] (fun d => d + D + 4) i out b i' out' ∧ (b = true → SX N i out i' out' ∧ ∀ σ, cnts σ = op → Rch T t (i, σ, out, true) (i', (settle σ out').1, (settle σ out').2, false)) ∧ (b = false → ∀ σ, cnts σ = op → Flt T t (i, σ, out, true) i')
def UOK (T : Nat) (t : Nat → Nat) (N op D : Nat) : Prop := ∀ i out, i ≤ N → out.length ≤ i → nbit out ≤ 24 → UC T t N op D i out
def BOK (T : Nat) (t : Nat → Nat) (N op D : Nat) : Prop := ∀ i out, i ≤ N → out.length ≤ i → nbit out ≤ 24 → ∃ b i' out', RN T t N n_Reader_readBoth [.ref 34, .ref 42, .int (nI op)] (fun d => d + D + 5) i out b i' out' ∧ (b = true → SX N i out i' out' ∧ tki T t i' ≠ 38 ∧ ∃ τ out2, relA τ out2 out' ∧ ∀ σ, cnts σ = op → hd1 σ → Rch T t (i, σ, out, true) (i', τ ++ σ, out2, false)) ∧ (b = false → ∀ σ, cnts σ = op → hd1 σ → Flt T t (i, σ, out, true) i')
def BSOK (T : Nat) (t : Nat → Nat) (N op D : Nat) : Prop := ∀ i out, i ≤ N → out.length ≤ i → nbit out ≤ 24 → ∃ b i' out', RN T t N n_Reader_readBoths [.ref 34, .ref 42, .int (nI op)] (fun d => d + D + 6) i out b i' out' ∧ (b = true → SX N i out i' out' ∧ (tki T t i' ≠ 38 ∧ tki T t i' ≠ 124) ∧ ∃ τ out2, relO τ out2 out' ∧ ∀ σ, cnts σ = op → hd2 σ → Rch T t (i, σ, out, true) (i', τ ++ σ, out2, false)) ∧ (b = false → ∀ σ, cnts σ = op → hd2 σ → Flt T t (i, σ, out, true) i')
section RSY
variable {T N : Nat} {t : Nat → Nat}
theorem CE.step {F A : Nat → Nat → Int32} {i : Nat} {out : List Nat} (h : CE F A T t N i out) (hi : i < N) : CE (uF F 35 4 (nI (i + 1))) A T t N (i + 1) out := ⟨h.1.step hi, h.2.frame (uF_n _ _ (by decide)) (uF_n _ _ (by decide)) rfl⟩
theorem CE.step2 {F A : Nat → Nat → Int32} {i k : Nat} {out : List Nat} (h : CE F A T t N i out) (hk : tki T t i = k) (h0 : k ≠ 0) : CE (uF F 35 4 (nI (i + 1))) A T t N (i + 1) out := h.step (h.1.lt (by rw [hk]; exact h0))
theorem tk_lt (hN : TN T t N) {i : Nat} (hi : i ≤ N) (h : tki T t i ≠ 0) : i < N := by
  refine Classical.byContradiction fun hne => ?_
  have : i = N := by omega
  subst this
  exact h (tk_end hN).1
/-- a step is put -/
theorem ce_add {Y : Nat × (Nat → Int32)} {F A : Nat → Nat → Int32} (d : Nat) {i c : Nat} {out : List Nat} (h : CE F A T t N i out) (hl : out.length < 300) (hb : nbit out ≤ 24) (hc : c < 1000) : ∃ F' A', xa_rn xa_ms (d + 1) n_Saying_add [.ref 42, .int (nI c)] (hp Y F A) none (hp Y F' A') ∧ (sA [43] A A' ∧ sF [3504, 4201, 4202] F F') ∧ CE F' A' T t N i (out ++ [c]) := by
  obtain ⟨F1, A1, a1, a2, a3, a4⟩ := c_Saying_add (Y := Y) d h.2 hl (by omega) hc
  exact ⟨F1, A1, a1, ⟨a2, a3.mono (by decide)⟩, h.1.frame (a3 35 3 (by decide)) (a3 35 4 (by decide)) (a2 36 (by decide)) (a2 37 (by decide)) (a2 38 (by decide)), a4⟩
theorem fr_st {F F' A A' : Nat → Nat → Int32} {v : Int32} (h : sA [43] A A' ∧ sF [3504, 4201, 4202] (uF F 35 4 v) F') : sA [43] A A' ∧ sF [3504, 4201, 4202] F F' := ⟨h.1, (sF.up (by decide)).tr h.2⟩
theorem fr_tr {F F' F2 A A' A2 : Nat → Nat → Int32} (h : sA [43] A A' ∧ sF [3504, 4201, 4202] F F') (g : sA [43] A' A2 ∧ sF [3504, 4201, 4202] F' F2) : sA [43] A A2 ∧ sF [3504, 4201, 4202] F F2 := ⟨h.1.tr g.1, h.2.tr g.2⟩
theorem fr_rf {F A : Nat → Nat → Int32} : sA [43] A A ∧ sF [3504, 4201, 4202] F F := ⟨sA.rf, sF.rf⟩
theorem hrun_1 {c : Nat} (h : c ≤ 1) (k : Nat) : hrun k [c] = some (k + 1) := by
  simp only [hrun]
  rw [if_pos h]
theorem hrun_u {c : Nat} (h : c = 2 ∨ (5 ≤ c ∧ c ≤ 10)) {ext : List Nat} (he : ∀ k, hrun k ext = some (k + 1)) (k : Nat) : hrun k (ext ++ [c]) = some (k + 1) := by
  rw [hrun_app, he]
  show hrun (k + 1) [c] = _
  simp only [hrun]
  rw [if_neg (by omega), if_neg (by omega), if_pos (by omega), if_pos (by omega)]
theorem SX.u {c : Nat} (h : c = 2 ∨ (5 ≤ c ∧ c ≤ 10)) {i i' j : Nat} {out out' : List Nat} (hs : SX N i out i' out') (hj : j < i) : SX N j out i' (out' ++ [c]) := by
  obtain ⟨⟨h1, h2⟩, h3, h4, ext, h5, h6⟩ := hs
  refine ⟨⟨by omega, h2⟩, by rw [List.length_append]; simp; omega, by rw [nbit_app, if_neg (by omega)]; exact h4, ext ++ [c], by rw [h5, List.append_assoc], hrun_u h h6⟩
theorem SX.ln {i i' j : Nat} {out out' : List Nat} (hs : SX N i out i' out') (hj : j < i) (hl : out.length ≤ j) (hN : N ≤ 300) : out'.length < 300 := by
  have h1 := hs.1
  have h2 := hs.2.1
  omega
/-- a unit that is a number -/
theorem unit_A (hN : TN T t N) (hT : T ≤ 300) (ht : ∀ j, t j < 256) {op D i : Nat} {out : List Nat} (hi : i ≤ N) (hl : out.length ≤ i) (hb : nbit out ≤ 24) (h2 : tki T t i = 2) : UC T t N op D i out := by
  have hiN := tk_lt hN hi (by omega)
  have hN3 := hN.1
  have hw := (tok_b (T := T) (t := t) i ht).2
  have head : ∀ d Y F A, CE F A T t N i out → ∀ r h', xa_rn xa_ms (d + D + 3) n_Reader_readBit [.ref 34, .ref 42] (hp Y F A) (some (.int (z01 r))) h' → xa_rn xa_ms (d + D + 4) n_Reader_readUnit [.ref 34, .ref 42, .int (nI op)] (hp Y F A) (some (.int (z01 r))) h' := by
    intro d Y F A hc r h' hr
    refine rn_in m_Reader_readUnit rfl ⟨rfl, rfl⟩ ?_
    show ev _ t_Reader_readUnit 0 [.ref 34, .ref 42, .int (nI op)] [] _ _
    repeat (first | refine ev_np [] rfl rfl rfl ?_ | refine ev_grs [] rfl rfl (by rfl) (by rfl) ?_)
    refine ev_vc rfl (by rfl) (by rfl) rfl (c_Tokens_kind (d + D + 2) hc.1) ?_
    rw [h2]
    repeat (refine ev_np [] rfl rfl rfl ?_)
    refine ev_vc rfl (by rfl) (by rfl) rfl (hr) ?_
    exact ev_rz rfl rfl (z01_b _)
  by_cases hok : nbit out < 24 ∧ two T t i < 2
  · refine ⟨true, i + 1, out ++ [two T t i], fun d Y F A hc => ?_, fun _ => ⟨⟨⟨by omega, hiN⟩, by simp; omega, by rw [nbit_app, if_pos (by omega)]; omega, [two T t i], rfl, hrun_1 (by omega)⟩, fun σ hσ => Rch.st (b := (i + 1, (settle σ (out ++ [two T t i])).1, (settle σ (out ++ [two T t i])).2, false)) ?_ (Rch.rf _)⟩, fun z => by cases z⟩
    · obtain ⟨F1, A1, a1, a2, a3⟩ := ce_add (Y := Y) (d + D + 1) (hc.step hiN) (c := two T t i) (by omega) hb (by omega)
      refine ⟨F1, A1, head d Y F A hc true _ ?_, fr_st a2, a3⟩
      refine rn_in m_Reader_readBit rfl ⟨rfl, rfl⟩ ?_
      show ev _ t_Reader_readBit 0 [.ref 34, .ref 42, .float 0] [] _ _
      repeat (refine ev_np [] rfl rfl rfl ?_)
      refine ev_vc rfl (by rfl) (by rfl) rfl (c_Saying_bits (d + D + 1) hc.2) ?_
      repeat (refine ev_np [] rfl rfl rfl ?_)
      refine ev_it (nI_lt (b := 24) hok.1 (by omega)) ?_
      repeat (first | refine ev_np [] rfl rfl rfl ?_ | refine ev_grs [] rfl rfl (by rfl) (by rfl) ?_)
      refine ev_vc rfl (by rfl) (by rfl) rfl (c_Tokens_worthT (d + D) hc.1 ht (k := 2) (a := 0) (b := 1) h2 (by decide) (Nat.zero_le _) (by omega) (by decide)) ?_
      repeat (refine ev_np [] rfl rfl rfl ?_)
      refine ev_it (nI_pos' (by omega)) ?_
      repeat (refine ev_np [] rfl rfl rfl ?_)
      by_cases e1 : two T t i = 1
      · rw [e1] at a1 ⊢
        repeat (refine ev_np [] rfl rfl rfl ?_)
        refine ev_vc rfl (by rfl) (by rfl) rfl (a1) ?_
        repeat (refine ev_np [] rfl rfl rfl ?_)
        exact ev_rz rfl rfl (z01_b _)
      · have e0 : two T t i = 0 := by omega
        rw [e0] at a1 ⊢
        repeat (refine ev_np [] rfl rfl rfl ?_)
        refine ev_vc rfl (by rfl) (by rfl) rfl (a1) ?_
        repeat (refine ev_np [] rfl rfl rfl ?_)
        exact ev_rz rfl rfl (z01_b _)
    · show mst1 T t i σ out = _
      unfold mst1
      rw [if_pos ⟨h2, hok.2, hok.1⟩]
  · refine ⟨false, i, out, fun d Y F A hc => ⟨F, A, head d Y F A hc false _ ?_, fr_rf, hc⟩, fun z => (by cases z), fun _ σ hσ => Flt.at ?_⟩
    · refine rn_in m_Reader_readBit rfl ⟨rfl, rfl⟩ ?_
      show ev _ t_Reader_readBit 0 [.ref 34, .ref 42, .float 0] [] _ _
      repeat (refine ev_np [] rfl rfl rfl ?_)
      refine ev_vc rfl (by rfl) (by rfl) rfl (c_Saying_bits (d + D + 1) hc.2) ?_
      repeat (refine ev_np [] rfl rfl rfl ?_)
      by_cases e : nbit out < 24
      · refine ev_it (nI_lt (b := 24) e (by omega)) ?_
        repeat (first | refine ev_np [] rfl rfl rfl ?_ | refine ev_grs [] rfl rfl (by rfl) (by rfl) ?_)
        refine ev_vc rfl (by rfl) (by rfl) rfl (c_Tokens_worthF (d + D) hc.1 ht (k := 2) (a := 0) (b := 1) (fun z => hok ⟨e, by omega⟩) (by decide) (by decide) (by decide)) ?_
        repeat (refine ev_np [] rfl rfl rfl ?_)
        exact ev_rz rfl rfl (z01_b _)
      · refine ev_ie (nI_nlt (b := 24) (by omega) (by omega)) ?_
        repeat (refine ev_np [] rfl rfl rfl ?_)
        exact ev_rz rfl rfl (z01_b _)
    · show mst1 T t i σ out = _
      unfold mst1
      rw [if_neg (fun z => hok ⟨z.2.2, z.2.1⟩)]
      split
      · rfl
      · rw [if_neg (by omega), if_neg (by omega), if_neg (by omega), if_neg (by omega)]
/-- no more may open -/
theorem unit_10 (hN : TN T t N) (hT : T ≤ 300) (ht : ∀ j, t j < 256) (D : Nat) : UOK T t N 10 D := by
  intro i out hi hl hb
  by_cases h2 : tki T t i = 2
  · exact unit_A hN hT ht hi hl hb h2
  have htk := (tok_b (T := T) (t := t) i ht).1
  refine ⟨false, i, out, fun d Y F A hc => ⟨F, A, ?_, fr_rf, hc⟩, fun z => (by cases z), fun _ σ hσ => Flt.at ?_⟩
  · dsimp only
    refine rn_in m_Reader_readUnit rfl ⟨rfl, rfl⟩ ?_
    show ev _ t_Reader_readUnit 0 [.ref 34, .ref 42, .int (nI 10)] [] _ _
    repeat (first | refine ev_np [] rfl rfl rfl ?_ | refine ev_grs [] rfl rfl (by rfl) (by rfl) ?_)
    refine ev_vc rfl (by rfl) (by rfl) rfl (c_Tokens_kind (d + D + 2) hc.1) ?_
    repeat (refine ev_np [] rfl rfl rfl ?_)
    refine ev_it (fun z => h2 ((nI_eq (b := 2) (by omega) (by omega)).mp z)) ?_
    repeat (refine ev_np [] rfl rfl rfl ?_)
    exact ev_rz rfl rfl (z01_b _)
  · show mst1 T t i σ out = _
    unfold mst1
    rw [if_neg (fun z => h2 z.1), if_pos hσ]
theorem rn_not {op D i i' : Nat} {out out' : List Nat} {b : Bool} (h : RN T t N n_Reader_readUnit [.ref 34, .ref 42, .int (nI op)] (fun d => d + D + 4) i out b i' out') (hl : b = true → out'.length < 300 ∧ nbit out' ≤ 24) : RN T t N n_Reader_readNot [.ref 34, .ref 42, .int (nI op)] (fun d => d + D + 5) i out b i' (bif b then out' ++ [2] else out') := by
  intro d Y F A hc
  obtain ⟨F1, A1, a1, a2, a3⟩ := h d Y F A hc
  cases b with
  | false =>
    refine ⟨F1, A1, ?_, a2, a3⟩
    dsimp only at a1 ⊢
    refine rn_in m_Reader_readNot rfl ⟨rfl, rfl⟩ ?_
    show ev _ t_Reader_readNot 0 [.ref 34, .ref 42, .int (nI op)] [] _ _
    repeat (refine ev_np [] rfl rfl rfl ?_)
    refine ev_vc rfl (by rfl) (by rfl) rfl (a1) ?_
    repeat (refine ev_np [] rfl rfl rfl ?_)
    exact ev_rz rfl rfl (z01_b _)
  | true =>
    obtain ⟨l1, l2⟩ := hl rfl
    obtain ⟨F2, A2, b1, b2, b3⟩ := ce_add (Y := Y) (d + D + 3) a3 (c := 2) l1 l2 (by decide)
    refine ⟨F2, A2, ?_, fr_tr a2 b2, b3⟩
    dsimp only at a1 ⊢
    refine rn_in m_Reader_readNot rfl ⟨rfl, rfl⟩ ?_
    show ev _ t_Reader_readNot 0 [.ref 34, .ref 42, .int (nI op)] [] _ _
    repeat (refine ev_np [] rfl rfl rfl ?_)
    refine ev_vc rfl (by rfl) (by rfl) rfl (a1) ?_
    repeat (refine ev_np [] rfl rfl rfl ?_)
    refine ev_vc rfl (by rfl) (by rfl) rfl (b1) ?_
    repeat (refine ev_np [] rfl rfl rfl ?_)
    exact ev_rz rfl rfl (z01_b _)
theorem rn_arr1 (ht : ∀ j, t j < 256) {op D i c k : Nat} {out : List Nat} (h3 : tki T t i ≠ 3) : RN T t N n_Reader_readArrow [.ref 34, .ref 42, .int (nI k), .int (nI c), .int (nI op)] (fun d => d + D + 5) i out false i out := by
  intro d Y F A hc
  refine ⟨F, A, ?_, fr_rf, hc⟩
  dsimp only
  refine rn_in m_Reader_readArrow rfl ⟨rfl, rfl⟩ ?_
  show ev _ t_Reader_readArrow 0 [.ref 34, .ref 42, .int (nI k), .int (nI c), .int (nI op), .float 0] [] _ _
  repeat (first | refine ev_np [] rfl rfl rfl ?_ | refine ev_grs [] rfl rfl (by rfl) (by rfl) ?_)
  refine ev_vc rfl (by rfl) (by rfl) rfl (c_Tokens_worthF (d + D + 2) hc.1 ht (k := 3) (a := 0) (b := 2) (fun z => h3 z.1) (by decide) (by decide) (by decide)) ?_
  repeat (refine ev_np [] rfl rfl rfl ?_)
  exact ev_rz rfl rfl (z01_b _)
theorem rn_arr2 (hN : TN T t N) (ht : ∀ j, t j < 256) {op D i c k : Nat} {out : List Nat} (h3 : tki T t i = 3) (hc9 : c < 256) (h4 : tki T t (i + 1) ≠ c) : RN T t N n_Reader_readArrow [.ref 34, .ref 42, .int (nI k), .int (nI c), .int (nI op)] (fun d => d + D + 5) i out false (i + 1) out := by
  intro d Y F A hc
  have hl := lett h3
  have h1 := hc.step2 h3 (by decide)
  refine ⟨_, A, ?_, fr_st fr_rf, h1⟩
  dsimp only
  refine rn_in m_Reader_readArrow rfl ⟨rfl, rfl⟩ ?_
  show ev _ t_Reader_readArrow 0 [.ref 34, .ref 42, .int (nI k), .int (nI c), .int (nI op), .float 0] [] _ _
  repeat (first | refine ev_np [] rfl rfl rfl ?_ | refine ev_grs [] rfl rfl (by rfl) (by rfl) ?_)
  refine ev_vc rfl (by rfl) (by rfl) rfl (c_Tokens_worthT (d + D + 2) hc.1 ht (k := 3) (a := 0) (b := 2) h3 (by decide) (Nat.zero_le _) hl (by decide)) ?_
  repeat (refine ev_np [] rfl rfl rfl ?_)
  refine ev_ie (nI_pos (by omega)) ?_
  repeat (first | refine ev_np [] rfl rfl rfl ?_ | refine ev_grs [] rfl rfl (by rfl) (by rfl) ?_)
  refine ev_vc rfl (by rfl) (by rfl) rfl (c_Tokens_takeF (d + D + 2) h1.1 ht (k := c) h4 (by omega)) ?_
  repeat (refine ev_np [] rfl rfl rfl ?_)
  exact ev_rz rfl rfl (z01_b _)
theorem rn_arr3 (hN : TN T t N) (ht : ∀ j, t j < 256) {op D i i' c k : Nat} {out out' : List Nat} {b : Bool} (h3 : tki T t i = 3) (hc9 : c < 256) (hc0 : c ≠ 0) (hk : k ≤ 100) (h4 : tki T t (i + 1) = c) (h : RN T t N n_Reader_readUnit [.ref 34, .ref 42, .int (nI op)] (fun d => d + D + 4) (i + 2) out b i' out') (hl : b = true → out'.length < 300 ∧ nbit out' ≤ 24) : RN T t N n_Reader_readArrow [.ref 34, .ref 42, .int (nI k), .int (nI c), .int (nI op)] (fun d => d + D + 5) i out b i' (bif b then out' ++ [k + two T t i] else out') := by
  intro d Y F A hc
  have hl2 := lett h3
  have h1 := hc.step2 h3 (by decide)
  have h2 := h1.step2 h4 hc0
  obtain ⟨F1, A1, a1, a2, a3⟩ := h d Y _ A h2
  have head : ∀ q, ev (d + D + 4) t_Reader_readArrow 28 [.ref 34, .ref 42, .int (nI k), .int (nI c), .int (nI op), .int (nI (two T t i))] [] (hp Y (uF (uF F 35 4 (nI (i + 1))) 35 4 (nI (i + 1 + 1))) A) q → xa_rn xa_ms (d + D + 5) n_Reader_readArrow [.ref 34, .ref 42, .int (nI k), .int (nI c), .int (nI op)] (hp Y F A) q.1 q.2 := by
    intro q hq
    refine rn_in m_Reader_readArrow rfl ⟨rfl, rfl⟩ ?_
    show ev _ t_Reader_readArrow 0 [.ref 34, .ref 42, .int (nI k), .int (nI c), .int (nI op), .float 0] [] _ _
    repeat (first | refine ev_np [] rfl rfl rfl ?_ | refine ev_grs [] rfl rfl (by rfl) (by rfl) ?_)
    refine ev_vc rfl (by rfl) (by rfl) rfl (c_Tokens_worthT (d + D + 2) hc.1 ht (k := 3) (a := 0) (b := 2) h3 (by decide) (Nat.zero_le _) hl2 (by decide)) ?_
    repeat (refine ev_np [] rfl rfl rfl ?_)
    refine ev_ie (nI_pos (by omega)) ?_
    repeat (first | refine ev_np [] rfl rfl rfl ?_ | refine ev_grs [] rfl rfl (by rfl) (by rfl) ?_)
    refine ev_vc rfl (by rfl) (by rfl) rfl (c_Tokens_takeT (d + D + 2) h1.1 (k := c) h4 hc0) ?_
    repeat (refine ev_np [28] rfl rfl rfl ?_)
    exact hq
  cases b with
  | false =>
    refine ⟨F1, A1, head (_, _) ?_, fr_st (fr_st a2), a3⟩
    dsimp only at a1 ⊢
    repeat (refine ev_np [] rfl rfl rfl ?_)
    refine ev_vc rfl (by rfl) (by rfl) rfl (a1) ?_
    repeat (refine ev_np [] rfl rfl rfl ?_)
    exact ev_rz rfl rfl (z01_b _)
  | true =>
    obtain ⟨l1, l2⟩ := hl rfl
    obtain ⟨F2, A2, b1, b2, b3⟩ := ce_add (Y := Y) (d + D + 3) a3 (c := k + two T t i) l1 l2 (by omega)
    refine ⟨F2, A2, head (_, _) ?_, fr_st (fr_st (fr_tr a2 b2)), b3⟩
    dsimp only at a1 ⊢
    repeat (refine ev_np [] rfl rfl rfl ?_)
    refine ev_vc rfl (by rfl) (by rfl) rfl (a1) ?_
    repeat (refine ev_np [] rfl rfl rfl ?_)
    rw [nI_add]
    refine ev_vc rfl (by rfl) (by rfl) rfl (b1) ?_
    repeat (refine ev_np [] rfl rfl rfl ?_)
    exact ev_rz rfl rfl (z01_b _)
theorem mst_ne {i : Nat} {σ out : List Nat} (h2 : tki T t i ≠ 2) (h10 : cnts σ ≠ 10) : mst1 T t i σ out = (if tki T t i = 33 then .inl (i + 1, 2 :: σ, out, true) else if tki T t i = 40 then .inl (i + 1, 11 :: σ, out, true) else if tki T t i = 60 then mar T t i σ out 62 5 else if tki T t i = 91 then mar T t i σ out 93 8 else .inr i) := by
  unfold mst1
  rw [if_neg (fun z => h2 z.1), if_neg h10]
end RSY
