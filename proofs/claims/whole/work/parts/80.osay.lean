/-! ===== call: say ===== -/
theorem hgt_run (cs : Nat → Nat) : ∀ (l : List Nat) (h k e : Nat), (∀ j, j < l.length → cs (k + j) = l.getD j 0) → hgt cs k = h → hrun h l = some e → hgt cs (k + l.length) = e ∧ ∀ j, j < l.length → (cs (k + j) ≤ 10 ∧ (2 ≤ cs (k + j) → 1 ≤ hgt cs (k + j)) ∧ (cs (k + j) = 3 ∨ cs (k + j) = 4 → 2 ≤ hgt cs (k + j)) ∧ (cs (k + j) ≤ 1 → hgt cs (k + j) < h + nbit l)) := by
  intro l
  induction l with
  | nil =>
    intro h k e _ hk hr
    simp only [hrun] at hr
    cases hr
    exact ⟨hk, fun j hj => absurd hj (Nat.not_lt_zero j)⟩
  | cons c l ih =>
    intro h k e hc hk hr
    have c0 : cs k = c := hc 0 (by simp)
    have hs : hgt cs (k + 1) = if c ≤ 1 then h + 1 else if c = 3 ∨ c = 4 then h - 1 else h := by
      show (if cs k ≤ 1 then hgt cs k + 1 else if cs k = 3 ∨ cs k = 4 then hgt cs k - 1 else hgt cs k) = _
      rw [c0, hk]
    have hc' : ∀ j, j < l.length → cs (k + 1 + j) = l.getD j 0 := fun j hj => by
      rw [show k + 1 + j = k + (j + 1) by omega]
      exact hc (j + 1) (by simp; omega)
    have key : ∀ h', hgt cs (k + 1) = h' → hrun h' l = some e → h' + nbit l ≤ h + nbit (c :: l) → (c ≤ 10 ∧ (2 ≤ c → 1 ≤ h) ∧ (c = 3 ∨ c = 4 → 2 ≤ h) ∧ (c ≤ 1 → h < h + nbit (c :: l))) → hgt cs (k + (c :: l).length) = e ∧ ∀ j, j < (c :: l).length → (cs (k + j) ≤ 10 ∧ (2 ≤ cs (k + j) → 1 ≤ hgt cs (k + j)) ∧ (cs (k + j) = 3 ∨ cs (k + j) = 4 → 2 ≤ hgt cs (k + j)) ∧ (cs (k + j) ≤ 1 → hgt cs (k + j) < h + nbit (c :: l))) := by
      intro h' q1 q2 q3 q4
      obtain ⟨r1, r2⟩ := ih h' (k + 1) e hc' q1 q2
      have el : k + (c :: l).length = k + 1 + l.length := by rw [List.length_cons]; omega
      refine ⟨by rw [el]; exact r1, fun j hj => ?_⟩
      cases j with
      | zero => rw [Nat.add_zero, c0, hk]; exact q4
      | succ j =>
        have h2 := r2 j (by rw [List.length_cons] at hj; omega)
        rw [show k + 1 + j = k + (j + 1) by omega] at h2
        exact ⟨h2.1, h2.2.1, h2.2.2.1, fun z => Nat.lt_of_lt_of_le (h2.2.2.2 z) q3⟩
    have hnb : nbit (c :: l) = nbit l + (if c ≤ 1 then 1 else 0) := rfl
    simp only [hrun] at hr
    split at hr
    · rename_i e1
      rw [if_pos e1] at hs hnb
      exact key (h + 1) hs hr (by omega) ⟨by omega, fun z => by omega, fun z => by omega, fun _ => by omega⟩
    · rename_i e1
      rw [if_neg e1] at hs hnb
      split at hr
      · rename_i e3
        rw [if_pos e3] at hs
        split at hr
        · rename_i e2
          exact key (h - 1) hs hr (by omega) ⟨by omega, fun _ => by omega, fun _ => e2, fun z => by omega⟩
        · cases hr
      · rename_i e3
        rw [if_neg e3] at hs
        split at hr
        · rename_i e10
          split at hr
          · rename_i e2
            exact key h hs hr (by omega) ⟨e10, fun _ => e2, fun z => absurd z e3, fun z => by omega⟩
          · cases hr
        · cases hr
theorem ws_out {N i : Nat} {out : List Nat} (h : SX N 0 [] i out) (hN : N ≤ 300) : WS (out.length, nbit out, fun k => out.getD k 0) := by
  obtain ⟨⟨h1, h2⟩, h3, h4, ext, h5, h6⟩ := h
  have e : out = ext := h5
  have hr := h6 0
  rw [← e] at hr
  obtain ⟨r1, r2⟩ := hgt_run (fun k => out.getD k 0) out 0 0 (0 + 1) (fun j _ => by rw [Nat.zero_add]) rfl hr
  rw [Nat.zero_add] at r1
  have hl : 1 ≤ out.length := by
    cases hz : out with
    | nil => rw [hz] at hr; cases hr
    | cons c l => rw [List.length_cons]; omega
  refine ⟨⟨hl, ?_⟩, h4, fun k hk => ?_, r1⟩
  · simp at h3
    dsimp only
    omega
  · have := r2 k hk
    rw [Nat.zero_add] at this
    refine ⟨this.1, this.2.1, this.2.2.1, fun z => ?_⟩
    have := this.2.2.2 z
    dsimp only at this ⊢
    omega
section OSAY
variable {S : SP}
def sSay (S : SP) (y : Nat × Nat × (Nat → Nat)) : SP := (S.1, S.2.1, y, S.2.2.2)
theorem sSay_wf (W : Wf S) {y : Nat × Nat × (Nat → Nat)} (h : WS y) : Wf (sSay S y) := ⟨W.1, W.2.1, h, W.2.2.2⟩
theorem RC.say {F A F' A' : Nat → Nat → Int32} (h : RC F A S) {y : Nat × Nat × (Nat → Nat)} (hA : sA [36, 37, 38, 40, 43] A A') (hF : sF [3503, 3504, 3901, 3902, 4201, 4202] F F') (hy : F' 39 1 = nI y.1 ∧ F' 39 2 = nI y.2.1 ∧ ∀ k, k < y.1 → A' 40 k = nI (y.2.2 k)) : RC F' A' (sSay S y) := by
  obtain ⟨⟨a1, a2⟩, b, -, d1, d2, d3⟩ := h
  refine ⟨⟨by rw [hF 32 1 (by decide)]; exact a1, by rw [hA 33 (by decide)]; exact a2⟩, fun i hi => (b i hi).frame (hF _ 0 (fun z => by simp at z; omega)) (hA _ (fun z => by simp at z; omega)) (hA _ (fun z => by simp at z; omega)), hy, d1.frame (hF 59 0 (by decide)) (hA 60 (by decide)) (hA 61 (by decide)), by rw [hF 58 1 (by decide)]; exact d2, by rw [hF 58 2 (by decide)]; exact d3⟩
theorem RM.say {F A F' A' : Nat → Nat → Int32} (h : RM F A S) {y : Nat × Nat × (Nat → Nat)} (hA : sA [66, 67, 68] A A') (hF : sF [6200, 6205, 6206, 6207, 6208, 6209, 6212, 6213, 6214, 6215, 6217, 6218] F F') (hy : F' 62 12 = nI y.1 ∧ F' 62 14 = nI y.2.1 ∧ ∀ k, k < y.1 → A' 66 k = nI (enc (y.2.2 k))) : RM F' A' (sSay S y) := by
  obtain ⟨⟨a1, a2⟩, b, -, d1, d2, d3⟩ := h
  refine ⟨⟨by rw [hF 62 4 (by decide)]; exact a1, by rw [hA 65 (by decide)]; exact a2⟩, fun i hi => (b i hi).frame (hA 63 (by decide)) (hA 64 (by decide)), hy, d1.frame (hA 63 (by decide)) (hA 64 (by decide)), by rw [hF 62 23 (by decide)]; exact d2, by rw [hF 62 24 (by decide)]; exact d3⟩
theorem c_Saying_become {Y : Nat × (Nat → Int32)} {F A : Nat → Nat → Int32} (d : Nat) {out : List Nat} (h : CY F A out) : xa_rn xa_ms (d + 1) n_Saying_become [.ref 39, .ref 42] (hp Y F A) none (hp Y (uF (uF F 39 1 (nI out.length)) 39 2 (nI (nbit out))) (va_up A 40 (va_cpy (A 43) (A 40) 0 0 300))) := by
  refine rn_in m_Saying_become rfl ⟨rfl, rfl⟩ ?_
  show ev _ t_Saying_become 0 [.ref 39, .ref 42] [] _ _
  repeat (refine ev_np [] rfl rfl rfl ?_)
  refine ev_gi rfl (by rfl) (by rfl) ?_
  rw [h.1]
  refine ev_pf rfl (by rfl) ⟨by rfl, by rfl⟩ ?_
  repeat (refine ev_np [] rfl rfl rfl ?_)
  refine ev_gi rfl (by rfl) (by rfl) ?_
  rw [uF_n _ _ (by decide), h.2.1]
  refine ev_pf rfl (by rfl) ⟨by rfl, by rfl⟩ ?_
  repeat (first | refine ev_np [] rfl rfl rfl ?_ | refine ev_grs [] rfl rfl (by rfl) (by rfl) ?_)
  refine ev_ln rfl (by rfl) ?_
  refine ev_cp rfl (by rfl) (by rfl) rfl rfl ?_
  exact ev_rv rfl
theorem mi_0 (N : Nat) : MI N (0, [], [], true) := ⟨⟨Nat.zero_le _, Nat.le_refl _⟩, Nat.zero_le _, Nat.zero_le _, Nat.le_refl _, fun c hc => (by cases hc), trivial, fun z => by cases z⟩
set_option maxRecDepth 20000 in
theorem op_say (W : Wf S) : OP n_MM_say n_Mo_say [] S := by
  obtain ⟨N, hN⟩ : ∃ N, TN S.1.1 S.1.2 N := tok_end
  have hT := W.1.1
  have ht := W.1.2
  have hN3 : N ≤ 300 := Nat.le_trans hN.1 hT
  have tx : ∀ F A, RC F A S → TX F A S.1.1 S.1.2 := fun F A hC => ⟨hC.1.1, hC.1.2, W.1.1, W.1.2⟩
  have tm : ∀ F A, RM F A S → TM F A S.1.1 S.1.2 := fun F A hM => ⟨hM.1.1, hM.1.2, W.1.1, W.1.2⟩
  rcases say_pure hN hT ht with ⟨i', out', h0, hsx, ⟨τ, out2, hro, hR⟩, hcl⟩ | ⟨i', hF, hcl⟩
  · have hws := ws_out hsx hN3
    obtain ⟨f1, f2, f3⟩ := hro.fl
    have hnb : nbit out' ≤ 24 := hws.2.1
    have hl : out'.length ≤ 300 := hws.1.2
    refine ⟨nI (nbit out'), sClear (sSay S (out'.length, nbit out', fun k => out'.getD k 0)), sClear_wf (sSay_wf W hws), fun Y F A hC => ?_, fun Y F A hM => ?_⟩
    · obtain ⟨F1, A1, a1, a2, a3, a4⟩ := hcl 42 Y F A (tx F A hC)
      obtain ⟨F2, hF2⟩ : ∃ F2, F2 = uF (uF F1 39 1 (nI out'.length)) 39 2 (nI (nbit out')) := ⟨_, rfl⟩
      obtain ⟨A2, hA2⟩ : ∃ A2, A2 = va_up A1 40 (va_cpy (A1 43) (A1 40) 0 0 300) := ⟨_, rfl⟩
      have sa : sA [36, 37, 38, 40, 43] A A2 := (a2.mono (by decide)).tr (by rw [hA2]; exact sA.up (by decide))
      have sf : sF [3503, 3504, 3901, 3902, 4201, 4202] F F2 := (a3.mono (by decide)).tr (by rw [hF2]; exact (sF.up (by decide)).tr (sF.up (by decide)))
      have sf2 : sF [3503, 3504, 3901, 3902, 4201, 4202, 3201] F (uF F2 32 1 0) := (sf.mono (by decide)).tr (sF.up (by decide))
      have b1 := c_Saying_become (Y := Y) 78 a4
      rw [← hF2, ← hA2] at b1
      have hy : F2 39 1 = nI out'.length ∧ F2 39 2 = nI (nbit out') ∧ ∀ k, k < out'.length → A2 40 k = nI (out'.getD k 0) := by
        refine ⟨by rw [hF2, uF_n _ _ (by decide), uF_s], by rw [hF2, uF_s], fun k hk => ?_⟩
        rw [hA2, va_up_s]
        unfold va_cpy
        rw [if_pos (by omega), show 0 + (k - 0) = k by omega]
        exact a4.2.2 k hk
      refine ⟨uF F2 32 1 0, A2, ?_, (hC.say sa sf hy).clear, KM.of sf2 sa ⟨rfl, rfl⟩⟩
      refine rn_in m_MM_say rfl ⟨rfl, rfl⟩ ?_
      show ev _ t_MM_say 0 [.ref 9, .float 0] [] _ _
      repeat (first | refine ev_np [] rfl rfl rfl ?_ | refine ev_grs [] rfl rfl (by rfl) (by rfl) ?_)
      refine ev_vc rfl (by rfl) (by rfl) rfl (a1) ?_
      repeat (refine ev_np [] rfl rfl rfl ?_)
      refine ev_ie (nI_pos (by omega)) ?_
      repeat (first | refine ev_np [] rfl rfl rfl ?_ | refine ev_grs [] rfl rfl (by rfl) (by rfl) ?_)
      refine ev_vc rfl (by rfl) (by rfl) rfl (b1) ?_
      repeat (first | refine ev_np [] rfl rfl rfl ?_ | refine ev_grs [] rfl rfl (by rfl) (by rfl) ?_)
      refine ev_vc rfl (by rfl) (by rfl) rfl (c_Text_drain 78) ?_
      repeat (refine ev_np [] rfl rfl rfl ?_)
      exact ev_ri rfl rfl
    · obtain ⟨F0, b1, b2, b3⟩ := ms_begin (Y := Y) 72 (tm F A hM)
      obtain ⟨F1, A1, c1, c2, c3, c4⟩ := ms_loop (Y := Y) 72 hN hT ht hR (.float 0) F0 A b2 (mi_0 N)
      obtain ⟨l1, l2⟩ := c3.ln hN hT
      have m6 := c3.2.2.2.2.1
      dsimp only at m6 c2 c4
      obtain ⟨F2, A2, e1, e2, e3⟩ := ms_flush (Y := Y) 72 (.int (z01 false)) (.float 0) τ out2 F1 A1 _ _ c2.2 f3 (by omega) (by omega)
      rw [← f1, ← f2] at e2
      have n13 : F2 62 13 = nI out'.length := e2.1.1
      have n15 : F2 62 15 = nI (nbit out') := e2.1.2.2
      obtain ⟨A3, g1, g2, g3⟩ := ms_copy (Y := Y) (F := F2) (A := A2) 72 n13 (by omega) (z01 false) (.float 0)
      obtain ⟨F3, hF3⟩ : ∃ F3, F3 = uF (uF F2 62 12 (nI out'.length)) 62 14 (nI (nbit out')) := ⟨_, rfl⟩
      have sa : sA [66, 67, 68] A A3 := (c1.2.mono (by decide)).tr ((e1.2.mono (by decide)).tr (g1.mono (by decide)))
      have sf : sF [6200, 6205, 6206, 6207, 6208, 6209, 6212, 6213, 6214, 6215, 6217, 6218] F F3 := (b1.mono (by decide)).tr ((c1.1.mono (by decide)).tr ((e1.1.mono (by decide)).tr (by rw [hF3]; exact (sF.up (by decide)).tr (sF.up (by decide)))))
      have sf2 : sF [6200, 6204, 6205, 6206, 6207, 6208, 6209, 6212, 6213, 6214, 6215, 6217, 6218] F (uF F3 62 4 0) := (sf.mono (by decide)).tr (sF.up (by decide))
      obtain ⟨G, k1, k2, k3⟩ := nrm sf2 rfl
      have hy : F3 62 12 = nI out'.length ∧ F3 62 14 = nI (nbit out') ∧ ∀ k, k < out'.length → A3 66 k = nI (enc (out'.getD k 0)) := by
        refine ⟨by rw [hF3, uF_n _ _ (by decide), uF_s], by rw [hF3, uF_s], fun k hk => ?_⟩
        rw [g2 k hk]
        exact e2.1.2.1 k hk
      have hR2 := hM.say (y := (out'.length, nbit out', fun k => out'.getD k 0)) sa sf hy
      refine ⟨G, A3, ?_, hR2.clear.f62 k2, fun o ho => ⟨sa o (fun z => by simp at z; omega), k3 o ho⟩⟩
      rw [← k1]
      refine b3 (some (.int (nI (nbit out'))), _) (c4 _ (ms_exit 72 c2 h0 hro.no m6 (by omega) (.float 0) _ (e3 _ (g3 _ (fun v => ?_)))))
      repeat (refine ev_np [] rfl rfl rfl ?_)
      refine ev_gi rfl (by rfl) (by rfl) ?_
      rw [n13]
      refine ev_pf rfl (by rfl) ⟨by rfl, by rfl⟩ ?_
      repeat (refine ev_np [] rfl rfl rfl ?_)
      refine ev_gi rfl (by rfl) (by rfl) ?_
      rw [uF_n _ _ (by decide), n15]
      refine ev_pf rfl (by rfl) ⟨by rfl, by rfl⟩ ?_
      rw [← hF3]
      repeat (refine ev_np [] rfl rfl rfl ?_)
      refine ev_pf rfl (by rfl) ⟨by rfl, by rfl⟩ ?_
      repeat (refine ev_np [] rfl rfl rfl ?_)
      refine ev_gi rfl (by rfl) (by rfl) ?_
      exact ev_ri rfl (by rw [uF_n _ _ (by decide)]; exact hy.2.1)
  · have hf3 : tpl S.1.1 S.1.2 i' ≤ 300 := Nat.le_trans (tpl_le (T := S.1.1) (t := S.1.2) i').2 hT
    obtain ⟨rr, hrr⟩ : ∃ rr : Int32, rr = -10 - nI (tpl S.1.1 S.1.2 i') := ⟨_, rfl⟩
    have hf : rr < 0 := by rw [hrr]; exact flt_neg hf3
    refine ⟨rr, S, W, fun Y F A hC => ?_, fun Y F A hM => ?_⟩
    · obtain ⟨F1, A1, a1, a2, a3⟩ := hcl 42 Y F A (tx F A hC)
      rw [← hrr] at a1
      refine ⟨F1, A1, ?_, hC.keep a2 a3 ⟨rfl, rfl⟩, KM.of a3 a2 ⟨rfl, rfl⟩⟩
      refine rn_in m_MM_say rfl ⟨rfl, rfl⟩ ?_
      show ev _ t_MM_say 0 [.ref 9, .float 0] [] _ _
      repeat (first | refine ev_np [] rfl rfl rfl ?_ | refine ev_grs [] rfl rfl (by rfl) (by rfl) ?_)
      refine ev_vc rfl (by rfl) (by rfl) rfl (a1) ?_
      repeat (refine ev_np [] rfl rfl rfl ?_)
      refine ev_it hf ?_
      repeat (refine ev_np [] rfl rfl rfl ?_)
      exact ev_ri rfl rfl
    · obtain ⟨F0, b1, b2, b3⟩ := ms_begin (Y := Y) 72 (tm F A hM)
      obtain ⟨F1, A1, c1, c2⟩ := ms_fault (Y := Y) 72 hN hT ht hF (.float 0) F0 A b2 (mi_0 N)
      have sf2 : sF [6200, 6205, 6206, 6207, 6208, 6209, 6213, 6215, 6217, 6218] F F1 := b1.tr (c1.1.mono (by decide))
      obtain ⟨G, k1, k2, k3⟩ := nrm sf2 rfl
      have hR1 : RM F1 A1 S := hM.keep c1.2 sf2 ⟨rfl, rfl⟩
      refine ⟨G, A1, ?_, hR1.f62 k2, fun o ho => ⟨c1.2 o (fun z => by simp at z; omega), k3 o ho⟩⟩
      rw [← k1, hrr]
      exact b3 (some (.int _), _) c2
end OSAY
