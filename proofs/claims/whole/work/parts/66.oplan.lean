/-! ===== call: plan ===== -/
section MPI
variable {Y : Nat × (Nat → Int32)} {F A : Nat → Nat → Int32} {T : Nat} {t : Nat → Nat} {i : Nat} (d : Nat)
theorem sF5 {F F' : Nat → Nat → Int32} {L : List Nat} (h : sF [6205, 6206, 6207, 6208, 6209] F F') (hL : (([6205, 6206, 6207, 6208, 6209] : List Nat).all fun x => L.contains x) = true) : sF L F F' := h.mono (fun x hx => by
  have := List.all_eq_true.mp hL x hx
  simpa using this)
theorem nI_all (x : Int32) : ∃ n, x = nI n := ⟨x.toBitVec.toNat, by
  unfold nI
  apply Int32.toBitVec_inj.mp
  simp⟩
/-- one item of the model -/
theorem mp_item {n k : Nat} (hn : n ≤ 6) (h : MV F A T t i none) (h0 : tki T t i ≠ 0) : ∃ F' x4 x5 x6 x7, sF [6205, 6206, 6207, 6208, 6209] F F' ∧ MV F' A T t (i + 5) (itw T t n i) ∧ (itw T t n i = none → x4 = nI (if tki T t i = 6 then 2 else 1) ∧ x5 = nI (two T t (i + 1)) ∧ x6 = nI (two T t (i + 2)) ∧ x7 = nI (two T t (i + 3))) ∧ ∀ (x : Int32) (v4 v5 v6 v7 v8 : Value) q, ev (d + 5) t_Mo_plan 226 [.ref 62, .int x, .int (nI k), .int (nI n), .int x4, .int x5, .int x6, .int x7, v8] [] (hp Y F' A) q → ev (d + 5) t_Mo_plan 87 [.ref 62, .int x, .int (nI k), .int (nI n), v4, v5, v6, v7, v8] [] (hp Y F A) q := by
  have ht := h.1.2.2.2
  obtain ⟨x4, hx4⟩ : ∃ x4, x4 = nI (if tki T t i = 6 then 2 else 1) := ⟨_, rfl⟩
  obtain ⟨F1, b0, a1, a2, a3, a4⟩ := mp_s4 (Y := Y) d h
  obtain ⟨F2, b1, x5, c1, c2, c3, c4, c5⟩ := mp_s5 (Y := Y) d hn ht a3
  obtain ⟨F3, b2, x6, e1, e2, e3, e4, e5⟩ := mp_s6 (Y := Y) d c3
  obtain ⟨F4, b3, x7, g1, g2, g3, g4, g5⟩ := mp_s7 (Y := Y) d hn ht e3
  obtain ⟨F5, b4, k1, k2, k3, k4⟩ := mp_s8 (Y := Y) d g3
  have w1 : wst none b0 (tpl T t i) = wst none (pb0 T t i) (tpl T t i) := wst_congr a2
  have w2 := wst_congr (p := tpl T t (i + 1)) c2
  have w3 := wst_congr (p := tpl T t (i + 1 + 1)) e2
  have w4 := wst_congr (p := tpl T t (i + 1 + 1 + 1)) g2
  have w5 := wst_congr (p := tpl T t (i + 1 + 1 + 1 + 1)) k2
  have hfull : wst (wst (wst (wst (wst none b0 (tpl T t i)) b1 (tpl T t (i + 1))) b2 (tpl T t (i + 1 + 1))) b3 (tpl T t (i + 1 + 1 + 1))) b4 (tpl T t (i + 1 + 1 + 1 + 1)) = itw T t n i := by
    rw [w5, w4, w3, w2, w1]
    rfl
  refine ⟨F5, x4, x5, x6, x7, (((a1.tr c1).tr e1).tr g1).tr k1, by rw [← hfull]; exact k3, fun z => ?_, fun x v4 v5 v6 v7 v8 q hq => ?_⟩
  · obtain ⟨z0, z1, z2, z3, z4⟩ := itw_none.mp z
    have u0 : b0 = true := by rw [a2 rfl, z0]
    have n1 : wst none b0 (tpl T t i) = none := by rw [u0]; rfl
    have u1 : b1 = true := by rw [c2 n1, z1]
    have n2 : wst (wst none b0 (tpl T t i)) b1 (tpl T t (i + 1)) = none := by rw [n1, u1]; rfl
    have u2 : b2 = true := by rw [e2 n2]; exact z2
    have n3 : wst (wst (wst none b0 (tpl T t i)) b1 (tpl T t (i + 1))) b2 (tpl T t (i + 1 + 1)) = none := by rw [n2, u2]; rfl
    have u3 : b3 = true := by rw [g2 n3]; exact z3
    exact ⟨hx4, c4 n1 u1, e4 n2 u2, g4 n3 u3⟩
  · have hmt := h.2.2
    have hm := mtk_iff (tki T t i)
    have tail : ev (d + 5) t_Mo_plan 116 [.ref 62, .int x, .int (nI k), .int (nI n), .int x4, v5, v6, v7, v8] [] (hp Y F A) q := a4 _ _ _ _ _ _ _ _ q (c5 _ _ _ _ _ _ _ q (e5 _ _ _ _ _ _ _ _ q (g5 _ _ _ _ _ _ _ q (k4 _ _ _ _ _ _ _ _ q hq))))
    repeat (refine ev_np [] rfl rfl rfl ?_)
    refine ev_vc rfl (by rfl) (by rfl) rfl (c_Mo_isWell (d + 4) h.2) ?_
    repeat (refine ev_np [] rfl rfl rfl ?_)
    refine ev_gi rfl (by rfl) (by rfl) ?_
    repeat (refine ev_np [] rfl rfl rfl ?_)
    refine ev_ie (fun z => h0 (hm.1.mp ((hmt.tok (c := 0) (by decide)).mp z))) ?_
    repeat (refine ev_np [] rfl rfl rfl ?_)
    refine ev_gi rfl (by rfl) (by rfl) ?_
    repeat (refine ev_np [] rfl rfl rfl ?_)
    by_cases e : tki T t i = 6
    · rw [if_pos e] at hx4
      rw [hx4] at tail
      refine ev_ie (fun z => z ((hmt.tok (c := 4) (by decide)).mpr (hm.2.2.2.2.1.mpr e))) ?_
      repeat (refine ev_np [116] rfl rfl rfl ?_)
      exact tail
    · rw [if_neg e] at hx4
      rw [hx4] at tail
      refine ev_it (fun z => e (hm.2.2.2.2.1.mp ((hmt.tok (c := 4) (by decide)).mp z))) ?_
      repeat (refine ev_np [116] rfl rfl rfl ?_)
      exact tail
/-- the head of the model -/
theorem mp_head (h : TM F A T t) (x : Int32) : ∃ F' A' x3, sF [6205, 6206, 6207, 6208, 6209] F F' ∧ sA [63, 64] A A' ∧ KP A A' ∧ MV F' A' T t 3 (hdw T t) ∧ (hdw T t = none → x3 = nI (two T t 1) ∧ MP A' 6 (two T t 1) (fun _ _ _ => 0)) ∧ ∀ q, ev (d + 5) t_Mo_plan 87 [.ref 62, .int x, .int (nI 0), .int x3, .float 0, .float 0, .float 0, .float 0, .float 0] [] (hp Y F' A') q → ev (d + 5) t_Mo_plan 14 [.ref 62, .int x, .float 0, .float 0, .float 0, .float 0, .float 0, .float 0, .float 0] [] (hp Y F A) q := by
  obtain ⟨F0, z1, z2, z3⟩ := c_Mo_begins (Y := Y) d h
  have v0 : MV F0 A T t 0 none := ⟨h.frame (z2 62 4 (by decide)) rfl, z3⟩
  have ht := h.2.2.2
  obtain ⟨F1, b0, a1, a2, a3, a4⟩ := mp_s1 (Y := Y) d v0
  obtain ⟨F2, b1, x3, c1, c2, c3, c4, c5⟩ := mp_s2 (Y := Y) d ht a3
  obtain ⟨F3, b2, e1, e2, e3, e4⟩ := mp_s3 (Y := Y) d c3
  have w1 : wst none b0 (tpl T t 0) = wst none (hb0 T t 0) (tpl T t 0) := wst_congr a2
  have w2 := wst_congr (p := tpl T t (0 + 1)) c2
  have w3 := wst_congr (p := tpl T t (0 + 1 + 1)) e2
  have hfull : wst (wst (wst none b0 (tpl T t 0)) b1 (tpl T t (0 + 1))) b2 (tpl T t (0 + 1 + 1)) = hdw T t := by
    rw [w3, w2, w1]
    rfl
  obtain ⟨n3, hn3⟩ := nI_all x3
  obtain ⟨A1, g1, g2, g3, g4⟩ := c_Mo_empties (Y := Y) (F := F3) (A := A) (d + 4) (i := 6) (by decide) n3
  refine ⟨F3, A1, x3, ((z2.tr a1).tr c1).tr e1, g2, fun i' n' g' h8 h6 hm => g4 i' n' g' h8 h6 hm, by rw [← hfull]; exact e3.fr (g2 65 (by decide)), fun z => ?_, fun q hq => ?_⟩
  · obtain ⟨z0, z1, z2⟩ := hdw_none.mp z
    have u0 : b0 = true := by rw [a2 rfl, z0]
    have n1 : wst none b0 (tpl T t 0) = none := by rw [u0]; rfl
    have u1 : b1 = true := by rw [c2 n1]; exact z1
    have hx : x3 = nI (two T t 1) := c4 n1 u1
    refine ⟨hx, ?_⟩
    have := g3
    refine ⟨?_, this.2⟩
    rw [this.1, ← hn3, hx]
  · rw [← hn3] at g1
    repeat (refine ev_np [] rfl rfl rfl ?_)
    refine ev_vc rfl (by rfl) (by rfl) rfl (z1) ?_
    refine a4 _ _ _ _ _ _ _ _ q (c5 _ _ _ _ _ _ _ _ q (e4 _ _ _ _ _ _ _ _ q ?_))
    repeat (refine ev_np [] rfl rfl rfl ?_)
    refine ev_vc rfl (by rfl) (by rfl) rfl (g1) ?_
    exact hq
set_option maxRecDepth 20000 in
theorem mp_loop {n : Nat} (hn : n ≤ 6) (h : MV F A T t 3 none) (hm : MP A 6 n (fun _ _ _ => 0)) (x : Int32) (k : Nat) (hall : ∀ j, j < k → tki T t (3 + 5 * j) ≠ 0 ∧ itw T t n (3 + 5 * j) = none) : ∃ F' A', sF [6205, 6206, 6207, 6208, 6209] F F' ∧ sA [63, 64] A A' ∧ KP A A' ∧ MV F' A' T t (3 + 5 * k) none ∧ MP A' 6 n (pgr T t k) ∧ ∀ q, (∀ v4 v5 v6 v7 v8 : Value, ev (d + 5) t_Mo_plan 87 [.ref 62, .int x, .int (nI k), .int (nI n), v4, v5, v6, v7, v8] [] (hp Y F' A') q) → ∀ v4 v5 v6 v7 v8 : Value, ev (d + 5) t_Mo_plan 87 [.ref 62, .int x, .int (nI 0), .int (nI n), v4, v5, v6, v7, v8] [] (hp Y F A) q := by
  obtain ⟨⟨G, B⟩, ⟨i1, i2, i3, i4, i5⟩, i6⟩ := lp_ex (α := (Nat → Nat → Int32) × (Nat → Nat → Int32)) (fun k a => sF [6205, 6206, 6207, 6208, 6209] F a.1 ∧ sA [63, 64] A a.2 ∧ KP A a.2 ∧ MV a.1 a.2 T t (3 + 5 * k) none ∧ MP a.2 6 n (pgr T t k)) (fun k a q => ∀ v4 v5 v6 v7 v8 : Value, ev (d + 5) t_Mo_plan 87 [.ref 62, .int x, .int (nI k), .int (nI n), v4, v5, v6, v7, v8] [] (hp Y a.1 a.2) q) k (fun j a hj hI => by
    obtain ⟨G, B⟩ := a
    obtain ⟨i1, i2, i3, i4, i5⟩ := hI
    dsimp only at i1 i2 i3 i4 i5
    obtain ⟨h1, h2⟩ := hall j hj
    obtain ⟨z0, z1, z2, z3, z4⟩ := itw_none.mp h2
    unfold pb1 at z1 z3
    unfold pb2 at z2
    have s6 := (of_decide_eq_true z1).2
    have l3 := lett (of_decide_eq_true z2)
    have t6 := (of_decide_eq_true z3).2
    obtain ⟨s, hs⟩ : ∃ s, s = two T t (3 + 5 * j + 1) := ⟨_, rfl⟩
    obtain ⟨l, hl⟩ : ∃ l, l = two T t (3 + 5 * j + 2) := ⟨_, rfl⟩
    obtain ⟨u, hu⟩ : ∃ u, u = two T t (3 + 5 * j + 3) := ⟨_, rfl⟩
    obtain ⟨v, hv⟩ : ∃ v, v = if tki T t (3 + 5 * j) = 6 then 2 else 1 := ⟨_, rfl⟩
    rw [← hs] at s6
    rw [← hl] at l3
    rw [← hu] at t6
    have hv2 : v ≤ 2 := by rw [hv]; split <;> omega
    have hg := (pgr_wf (T := T) (t := t) (n := n) ⟨by omega, hn⟩ j (fun j' hj' => (hall j' (by omega)).2)).2 s l u
    have hA := i5.2 s l u (by omega) (by omega) (by omega)
    have hstep : pgr T t (j + 1) = gset (pgr T t j) s l u (max (pgr T t j s l u) v) := by rw [hs, hl, hu, hv]; rfl
    have keep : ∀ z : Int32, KP B (va_up B 63 (upd (B 63) (108 * 6 + 18 * s + 6 * l + u) z)) := fun z i' n' g' _ h6 hm => hm.keep h6 z (by omega) (by omega) (by omega)
    obtain ⟨B2, hB2⟩ : ∃ B2, B2 = va_up B 63 (upd (B 63) (108 * 6 + 18 * s + 6 * l + u) (nI (max (pgr T t j s l u) v))) := ⟨_, rfl⟩
    have sB : sA [63, 64] B B2 := by rw [hB2]; exact sA.up (by decide)
    obtain ⟨G1, x4, x5, x6, x7, a1, a2, a3, a4⟩ := mp_item (Y := Y) (k := j) d hn i4 h1
    obtain ⟨q4, q5, q6, q7⟩ := a3 h2
    rw [← hv] at q4
    rw [← hs] at q5
    rw [← hl] at q6
    rw [← hu] at q7
    rw [h2] at a2
    refine ⟨(G1, B2), ⟨i1.tr a1, i2.tr sB, i3.tr (by rw [hB2]; exact keep _), a2.fr (sB 65 (by decide)), ?_⟩, fun q hq v4 v5 v6 v7 v8 => ?_⟩
    · dsimp only
      rw [hstep, hB2]
      exact i5.put (by omega) (by omega) (by omega)
    · refine a4 _ _ _ _ _ _ q ?_
      rw [q4, q5, q6, q7]
      dsimp only at hq
      rw [nI_succ] at hq
      repeat (refine ev_np [] rfl rfl rfl ?_)
      refine ev_vc rfl (by rfl) (by rfl) rfl (c_Mo_isWell (d + 4) a2.2) ?_
      repeat (refine ev_np [] rfl rfl rfl ?_)
      refine ev_ca rfl (c_Mo_at (d + 4) 6 s l u) ?_
      repeat (first | refine ev_np [] rfl rfl rfl ?_ | refine ev_grs [] rfl rfl (by rfl) (by rfl) ?_)
      refine ev_an rfl (by rfl) rfl (by omega) rfl ?_
      rw [hA]
      repeat (refine ev_np [] rfl rfl rfl ?_)
      by_cases e : pgr T t j s l u < v
      · refine ev_ie (nI_ge e (by omega)) ?_
        repeat (refine ev_np [] rfl rfl rfl ?_)
        refine ev_am rfl (by rfl) rfl (by omega) rfl ?_
        rw [show max (pgr T t j s l u) v = v by omega] at hB2
        rw [← hB2]
        repeat (refine ev_np [87] rfl rfl rfl ?_)
        exact hq _ _ _ _ _
      · refine ev_it (nI_le (by omega) (by omega)) ?_
        repeat (first | refine ev_np [] rfl rfl rfl ?_ | refine ev_grs [] rfl rfl (by rfl) (by rfl) ?_)
        refine ev_an rfl (by rfl) rfl (by omega) rfl ?_
        rw [hA]
        refine ev_am rfl (by rfl) rfl (by omega) rfl ?_
        rw [show max (pgr T t j s l u) v = pgr T t j s l u by omega] at hB2
        rw [← hB2]
        repeat (refine ev_np [87] rfl rfl rfl ?_)
        exact hq _ _ _ _ _) k 0 (F, A) (Nat.zero_add k) ⟨sF.rf, sA.rf, KP.rf, h, hm⟩
  exact ⟨G, B, i1, i2, i3, i4, i5, i6⟩
set_option maxRecDepth 20000 in
/-- the model reads a plan -/
theorem c_mplan (h : TM F A T t) {r : Nat ⊕ Nat} (hr : ptx T t r) (x : Int32) : ∃ F' A', sF [6205, 6206, 6207, 6208, 6209] F F' ∧ sA [63, 64] A A' ∧ KP A A' ∧ (match r with
    | .inl k => MP A' 6 (two T t 1) (pgr T t k) ∧ ∀ q, (∀ v3 v4 v5 v6 v7 v8 : Value, ev (d + 5) t_Mo_plan 298 [.ref 62, .int x, .int (nI k), v3, v4, v5, v6, v7, v8] [] (hp Y F' A') q) → ev (d + 5) t_Mo_plan 14 [.ref 62, .int x, .float 0, .float 0, .float 0, .float 0, .float 0, .float 0, .float 0] [] (hp Y F A) q
    | .inr f => ev (d + 5) t_Mo_plan 14 [.ref 62, .int x, .float 0, .float 0, .float 0, .float 0, .float 0, .float 0, .float 0] [] (hp Y F A) (some (.int (-10 - nI f)), hp Y F' A')) := by
  obtain ⟨F1, A1, x3, a1, a2, a3, a4, a5, a6⟩ := mp_head (Y := Y) d h x
  have bad : ∀ (F2 A2 : Nat → Nat → Int32) f i v2 v3 v4 v5 v6 v7 v8, MV F2 A2 T t i (some f) → ev (d + 5) t_Mo_plan 87 [.ref 62, .int x, v2, v3, v4, v5, v6, v7, v8] [] (hp Y F2 A2) (some (.int (-10 - nI f)), hp Y F2 A2) := by
    intro F2 A2 f i v2 v3 v4 v5 v6 v7 v8 hv
    repeat (refine ev_np [] rfl rfl rfl ?_)
    refine ev_vc rfl (by rfl) (by rfl) rfl (c_Mo_isWell (d + 4) hv.2) ?_
    repeat (refine ev_np [] rfl rfl rfl ?_)
    refine ev_vc rfl (by rfl) (by rfl) rfl (c_Mo_isWell (d + 4) hv.2) ?_
    repeat (refine ev_np [] rfl rfl rfl ?_)
    refine ev_gi rfl (by rfl) (by rfl) ?_
    rw [hv.2.1]
    repeat (refine ev_np [] rfl rfl rfl ?_)
    exact ev_ri rfl rfl
  have good : hdw T t = none → ∀ k, (∀ j, j < k → tki T t (3 + 5 * j) ≠ 0 ∧ itw T t (two T t 1) (3 + 5 * j) = none) → ∃ F' A', sF [6205, 6206, 6207, 6208, 6209] F F' ∧ sA [63, 64] A A' ∧ KP A A' ∧ MV F' A' T t (3 + 5 * k) none ∧ MP A' 6 (two T t 1) (pgr T t k) ∧ ∀ q, (∀ v4 v5 v6 v7 v8 : Value, ev (d + 5) t_Mo_plan 87 [.ref 62, .int x, .int (nI k), .int (nI (two T t 1)), v4, v5, v6, v7, v8] [] (hp Y F' A') q) → ev (d + 5) t_Mo_plan 14 [.ref 62, .int x, .float 0, .float 0, .float 0, .float 0, .float 0, .float 0, .float 0] [] (hp Y F A) q := by
    intro hd k hall
    rw [hd] at a4
    obtain ⟨b1, b2⟩ := a5 hd
    obtain ⟨F2, A2, c1, c2, c3, c4, c5, c6⟩ := mp_loop (Y := Y) d (hd_n hd).2 a4 b2 x k hall
    refine ⟨F2, A2, a1.tr c1, a2.tr c2, a3.tr c3, c4, c5, fun q hq => a6 q ?_⟩
    rw [b1]
    exact c6 q hq _ _ _ _ _
  cases r with
  | inl k =>
    obtain ⟨hd, hk, hall, hend⟩ := hr
    obtain ⟨F2, A2, c1, c2, c3, c4, c5, c6⟩ := good hd k hall
    refine ⟨F2, A2, c1, c2, c3, c5, fun q hq => c6 q (fun v4 v5 v6 v7 v8 => ?_)⟩
    repeat (refine ev_np [] rfl rfl rfl ?_)
    refine ev_vc rfl (by rfl) (by rfl) rfl (c_Mo_isWell (d + 4) c4.2) ?_
    repeat (refine ev_np [] rfl rfl rfl ?_)
    refine ev_gi rfl (by rfl) (by rfl) ?_
    rw [c4.2.2.2.1, hend]
    repeat (refine ev_np [] rfl rfl rfl ?_)
    refine ev_vc rfl (by rfl) (by rfl) rfl (c_Mo_isWell (d + 4) c4.2) ?_
    repeat (refine ev_np [298] rfl rfl rfl ?_)
    exact hq _ _ _ _ _ _
  | inr f =>
    obtain ⟨hf, hr⟩ := hr
    rcases hr with hr | ⟨hd, k, hk, hall, h0, hw⟩
    · rw [hr] at a4
      exact ⟨F1, A1, a1, a2, a3, a6 _ (bad F1 A1 f 3 _ _ _ _ _ _ _ a4)⟩
    · obtain ⟨F2, A2, c1, c2, c3, c4, c5, c6⟩ := good hd k hall
      obtain ⟨F3, x4, x5, x6, x7, g1, g2, g3, g4⟩ := mp_item (Y := Y) (k := k) d (hd_n hd).2 c4 h0
      rw [hw] at g2
      refine ⟨F3, A2, c1.tr g1, c2, c3, c6 _ (fun v4 v5 v6 v7 v8 => g4 _ _ _ _ _ _ _ ?_)⟩
      have hb := bad F3 A2 f (3 + 5 * k + 5) (.int (nI k + 1)) (.int (nI (two T t 1))) (.int x4) (.int x5) (.int x6) (.int x7) v8 g2
      repeat (refine ev_np [] rfl rfl rfl ?_)
      refine ev_vc rfl (by rfl) (by rfl) rfl (c_Mo_isWell (d + 4) g2.2) ?_
      repeat (refine ev_np [87] rfl rfl rfl ?_)
      exact hb
end MPI
