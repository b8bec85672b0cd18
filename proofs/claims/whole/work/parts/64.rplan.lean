/-! ===== class Reader: plans ===== -/
section RPL
variable {Y : Nat × (Nat → Int32)} {F A : Nat → Nat → Int32} {T N : Nat} {t : Nat → Nat} (d : Nat)
theorem TK.frame {F' A' : Nat → Nat → Int32} {i : Nat} (h : TK F A T t N i) (h3 : F' 35 3 = F 35 3) (h4 : F' 35 4 = F 35 4) (h36 : A' 36 = A 36) (h37 : A' 37 = A 37) (h38 : A' 38 = A 38) : TK F' A' T t N i := by
  obtain ⟨⟨a1, a2⟩, a3, a4, a5, a6⟩ := h
  exact ⟨⟨h3.trans a1, h4.trans a2⟩, fun x hx => by rw [h36, h37, h38]; exact a3 x hx, a4, a5, a6⟩
theorem sF_step (F : Nat → Nat → Int32) (v : Int32) : sF [3504] F (uF F 35 4 v) := sF.up (by decide)
theorem CP.tok {n : Nat} {g : Nat → Nat → Nat → Nat} (h : CP F A 29 n g) (v : Int32) : CP (uF F 35 4 v) A 29 n g := h.frame (uF_n _ _ (by decide)) rfl rfl
theorem c_readHead (ht : ∀ j, t j < 256) (h : TK F A T t N 0) : (hdw T t = none → ∃ F' A', xa_rn xa_ms (d + 4) n_Reader_readHead [.ref 34, .ref 29] (hp Y F A) (some (.int 1)) (hp Y F' A') ∧ sA [30, 31] A A' ∧ sF [3504, 2900] F F' ∧ TK F' A' T t N 3 ∧ CP F' A' 29 (two T t 1) (fun _ _ _ => 0)) ∧ (∀ f, hdw T t = some f → ∃ F' i, xa_rn xa_ms (d + 4) n_Reader_readHead [.ref 34, .ref 29] (hp Y F A) (some (.int 0)) (hp Y F' A) ∧ sF [3504, 2900] F F' ∧ TK F' A T t N i ∧ tpl T t i = f) := by
  by_cases b0 : tki T t 0 = 4
  · have h1 : TK (uF F 35 4 (nI 1)) A T t N 1 := h.step (h.lt (by omega))
    by_cases b1 : tki T t 1 = 2 ∧ 1 ≤ two T t 1 ∧ two T t 1 ≤ 6
    · have h2 : TK (uF (uF F 35 4 (nI 1)) 35 4 (nI 2)) A T t N 2 := h1.step (h1.lt (by omega))
      by_cases b2 : tki T t 2 = 59
      · have h3 : TK (uF (uF (uF F 35 4 (nI 1)) 35 4 (nI 2)) 35 4 (nI 3)) A T t N 3 := h2.step (h2.lt (by omega))
        obtain ⟨F1, A1, a1, a2, a3, a4⟩ := c_Plan_reset (Y := Y) (F := uF (uF (uF F 35 4 (nI 1)) 35 4 (nI 2)) 35 4 (nI 3)) (A := A) (d + 1) PL29 (n := two T t 1) b1.2.1 b1.2.2
        refine ⟨fun _ => ⟨F1, A1, ?_, a2.mono (by decide), (((sF_step _ _).tr (sF_step _ _)).tr (sF_step _ _)).mono (by decide) |>.tr (a3.mono (by decide)), h3.frame (a3 35 3 (by decide)) (a3 35 4 (by decide)) (a2 36 (by decide)) (a2 37 (by decide)) (a2 38 (by decide)), a4⟩, fun f z => ?_⟩
        · refine rn_in m_Reader_readHead rfl ⟨rfl, rfl⟩ ?_
          show ev _ t_Reader_readHead 0 [.ref 34, .ref 29, .float 0] [] _ _
          repeat (first | refine ev_np [] rfl rfl rfl ?_ | refine ev_grs [] rfl rfl (by rfl) (by rfl) ?_)
          refine ev_vc rfl (by rfl) (by rfl) rfl (c_Tokens_takeT (d + 1) h b0 (by decide)) ?_
          repeat (first | refine ev_np [] rfl rfl rfl ?_ | refine ev_grs [] rfl rfl (by rfl) (by rfl) ?_)
          refine ev_vc rfl (by rfl) (by rfl) rfl (c_Tokens_worthT (d + 1) h1 ht b1.1 (by decide) b1.2.1 b1.2.2 (by decide)) ?_
          repeat (refine ev_np [] rfl rfl rfl ?_)
          refine ev_ie (nI_pos (by omega)) ?_
          repeat (first | refine ev_np [] rfl rfl rfl ?_ | refine ev_grs [] rfl rfl (by rfl) (by rfl) ?_)
          refine ev_vc rfl (by rfl) (by rfl) rfl (c_Tokens_takeT (d + 1) h2 b2 (by decide)) ?_
          repeat (refine ev_np [] rfl rfl rfl ?_)
          refine ev_vc rfl (by rfl) PL29.1 rfl a1 ?_
          repeat (refine ev_np [] rfl rfl rfl ?_)
          exact ev_rz rfl rfl (Or.inr rfl)
        · rw [hdw_none.mpr ⟨decide_eq_true b0, decide_eq_true b1, decide_eq_true b2⟩] at z
          cases z
      · have hw : hdw T t = some (tpl T t 2) := by
          unfold hdw hb0 hb1 pb4
          rw [decide_eq_true b0, decide_eq_true b1, decide_eq_false b2]
          rfl
        refine ⟨fun z => (by rw [hw] at z; cases z), fun f z => ⟨_, 2, ?_, ((sF_step _ _).tr (sF_step _ _)).mono (by decide), h2, by rw [hw] at z; exact Option.some.inj z⟩⟩
        refine rn_in m_Reader_readHead rfl ⟨rfl, rfl⟩ ?_
        show ev _ t_Reader_readHead 0 [.ref 34, .ref 29, .float 0] [] _ _
        repeat (first | refine ev_np [] rfl rfl rfl ?_ | refine ev_grs [] rfl rfl (by rfl) (by rfl) ?_)
        refine ev_vc rfl (by rfl) (by rfl) rfl (c_Tokens_takeT (d + 1) h b0 (by decide)) ?_
        repeat (first | refine ev_np [] rfl rfl rfl ?_ | refine ev_grs [] rfl rfl (by rfl) (by rfl) ?_)
        refine ev_vc rfl (by rfl) (by rfl) rfl (c_Tokens_worthT (d + 1) h1 ht b1.1 (by decide) b1.2.1 b1.2.2 (by decide)) ?_
        repeat (refine ev_np [] rfl rfl rfl ?_)
        refine ev_ie (nI_pos (by omega)) ?_
        repeat (first | refine ev_np [] rfl rfl rfl ?_ | refine ev_grs [] rfl rfl (by rfl) (by rfl) ?_)
        refine ev_vc rfl (by rfl) (by rfl) rfl (c_Tokens_takeF (d + 1) h2 ht (k := 59) b2 (by decide)) ?_
        repeat (refine ev_np [] rfl rfl rfl ?_)
        exact ev_rz rfl rfl (Or.inl rfl)
    · have hw : hdw T t = some (tpl T t 1) := by
        unfold hdw hb0 hb1 pb4
        rw [decide_eq_true b0, decide_eq_false b1]
        rfl
      refine ⟨fun z => (by rw [hw] at z; cases z), fun f z => ⟨_, 1, ?_, (sF_step _ _).mono (by decide), h1, by rw [hw] at z; exact Option.some.inj z⟩⟩
      refine rn_in m_Reader_readHead rfl ⟨rfl, rfl⟩ ?_
      show ev _ t_Reader_readHead 0 [.ref 34, .ref 29, .float 0] [] _ _
      repeat (first | refine ev_np [] rfl rfl rfl ?_ | refine ev_grs [] rfl rfl (by rfl) (by rfl) ?_)
      refine ev_vc rfl (by rfl) (by rfl) rfl (c_Tokens_takeT (d + 1) h b0 (by decide)) ?_
      repeat (first | refine ev_np [] rfl rfl rfl ?_ | refine ev_grs [] rfl rfl (by rfl) (by rfl) ?_)
      refine ev_vc rfl (by rfl) (by rfl) rfl (c_Tokens_worthF (d + 1) h1 ht (k := 2) (a := 1) (b := 6) b1 (by decide) (by decide) (by decide)) ?_
      repeat (refine ev_np [] rfl rfl rfl ?_)
      exact ev_rz rfl rfl (Or.inl rfl)
  · have hw : hdw T t = some (tpl T t 0) := by
      unfold hdw hb0 hb1 pb4
      rw [decide_eq_false b0]
      rfl
    refine ⟨fun z => (by rw [hw] at z; cases z), fun f z => ⟨F, 0, ?_, sF.rf, h, by rw [hw] at z; exact Option.some.inj z⟩⟩
    refine rn_in m_Reader_readHead rfl ⟨rfl, rfl⟩ ?_
    show ev _ t_Reader_readHead 0 [.ref 34, .ref 29, .float 0] [] _ _
    repeat (first | refine ev_np [] rfl rfl rfl ?_ | refine ev_grs [] rfl rfl (by rfl) (by rfl) ?_)
    refine ev_vc rfl (by rfl) (by rfl) rfl (c_Tokens_takeF (d + 1) h ht (k := 4) b0 (by decide)) ?_
    repeat (refine ev_np [] rfl rfl rfl ?_)
    exact ev_rz rfl rfl (Or.inl rfl)
theorem c_readItem (ht : ∀ j, t j < 256) {i n : Nat} {g : Nat → Nat → Nat → Nat} (h : TK F A T t N i) (hc : CP F A 29 n g) (hn : 1 ≤ n ∧ n ≤ 6) : (itw T t n i = none → ∃ F' A', xa_rn xa_ms (d + 4) n_Reader_readItem [.ref 34, .ref 29] (hp Y F A) (some (.int 1)) (hp Y F' A') ∧ sA [30, 31] A A' ∧ sF [3504, 2900] F F' ∧ TK F' A' T t N (i + 5) ∧ CP F' A' 29 n (gset g (two T t (i + 1)) (two T t (i + 2)) (two T t (i + 3)) (max (g (two T t (i + 1)) (two T t (i + 2)) (two T t (i + 3))) (if tki T t i = 6 then 2 else 1)))) ∧ (∀ f, itw T t n i = some f → ∃ F' i', xa_rn xa_ms (d + 4) n_Reader_readItem [.ref 34, .ref 29] (hp Y F A) (some (.int 0)) (hp Y F' A) ∧ sF [3504, 2900] F F' ∧ TK F' A T t N i' ∧ tpl T t i' = f) := by
  obtain ⟨v, hv⟩ : ∃ v, v = if tki T t i = 6 then 2 else 1 := ⟨_, rfl⟩
  rw [← hv]
  have hv2 : v ≤ 2 := by rw [hv]; split <;> omega
  have htk := (tok_b (T := T) (t := t) i ht).1
  have head0 : ∀ q, ev (d + 3) t_Reader_readItem 18 [.ref 34, .ref 29, .int (nI v), .float 0, .float 0, .float 0] [] (hp Y F A) q → xa_rn xa_ms (d + 4) n_Reader_readItem [.ref 34, .ref 29] (hp Y F A) q.1 q.2 := by
    intro q hq
    refine rn_in m_Reader_readItem rfl ⟨rfl, rfl⟩ ?_
    show ev _ t_Reader_readItem 0 [.ref 34, .ref 29, .float 0, .float 0, .float 0, .float 0] [] _ _
    repeat (first | refine ev_np [] rfl rfl rfl ?_ | refine ev_grs [] rfl rfl (by rfl) (by rfl) ?_)
    refine ev_vc rfl (by rfl) (by rfl) rfl (c_Tokens_kind (d + 2) h) ?_
    repeat (refine ev_np [] rfl rfl rfl ?_)
    by_cases e : tki T t i = 6
    · rw [if_pos e] at hv
      rw [hv] at hq
      refine ev_ie (fun z => z (by rw [e]; rfl)) ?_
      repeat (refine ev_np [18] rfl rfl rfl ?_)
      exact hq
    · rw [if_neg e] at hv
      rw [hv] at hq
      refine ev_it (fun z => e ((nI_eq (b := 6) (by omega) (by omega)).mp z)) ?_
      repeat (refine ev_np [18] rfl rfl rfl ?_)
      exact hq
  by_cases b0 : tki T t i = 5 ∨ tki T t i = 6
  · have h1 := h.step (h.lt (by omega))
    have head1 : ∀ q, ev (d + 3) t_Reader_readItem 43 [.ref 34, .ref 29, .int (nI v), .float 0, .float 0, .float 0] [] (hp Y (uF F 35 4 (nI (i + 1))) A) q → xa_rn xa_ms (d + 4) n_Reader_readItem [.ref 34, .ref 29] (hp Y F A) q.1 q.2 := by
      intro q hq
      refine head0 q ?_
      by_cases e : tki T t i = 5
      · repeat (first | refine ev_np [] rfl rfl rfl ?_ | refine ev_grs [] rfl rfl (by rfl) (by rfl) ?_)
        refine ev_vc rfl (by rfl) (by rfl) rfl (c_Tokens_takeT (d + 1) h e (by decide)) ?_
        repeat (refine ev_np [43] rfl rfl rfl ?_)
        exact hq
      · have e6 : tki T t i = 6 := by omega
        repeat (first | refine ev_np [] rfl rfl rfl ?_ | refine ev_grs [] rfl rfl (by rfl) (by rfl) ?_)
        refine ev_vc rfl (by rfl) (by rfl) rfl (c_Tokens_takeF (d + 1) h ht (k := 5) e (by decide)) ?_
        repeat (first | refine ev_np [] rfl rfl rfl ?_ | refine ev_grs [] rfl rfl (by rfl) (by rfl) ?_)
        refine ev_vc rfl (by rfl) (by rfl) rfl (c_Tokens_takeT (d + 1) h e6 (by decide)) ?_
        repeat (refine ev_np [43] rfl rfl rfl ?_)
        exact hq
    have hc1 := hc.tok (nI (i + 1))
    have hsz : nI n - 1 = nI (n - 1) := nI_m1 hn.1
    by_cases b1 : tki T t (i + 1) = 2 ∧ two T t (i + 1) < n
    · have h2 := h1.step (h1.lt (by omega))
      have hc2 := hc1.tok (nI (i + 1 + 1))
      have head2 : ∀ q, ev (d + 3) t_Reader_readItem 65 [.ref 34, .ref 29, .int (nI v), .int (nI (two T t (i + 1))), .float 0, .float 0] [] (hp Y (uF (uF F 35 4 (nI (i + 1))) 35 4 (nI (i + 1 + 1))) A) q → xa_rn xa_ms (d + 4) n_Reader_readItem [.ref 34, .ref 29] (hp Y F A) q.1 q.2 := by
        intro q hq
        refine head1 q ?_
        repeat (first | refine ev_np [] rfl rfl rfl ?_ | refine ev_grs [] rfl rfl (by rfl) (by rfl) ?_)
        refine ev_vc rfl (by rfl) PL29.1 rfl (c_Plan_size (d + 2) PL29) ?_
        rw [hc1.1]
        repeat (refine ev_np [] rfl rfl rfl ?_)
        rw [hsz]
        refine ev_vc rfl (by rfl) (by rfl) rfl (c_Tokens_worthT (d + 1) h1 ht (k := 2) (a := 0) (b := n - 1) b1.1 (by decide) (Nat.zero_le _) (by omega) (by omega)) ?_
        repeat (refine ev_np [] rfl rfl rfl ?_)
        refine ev_it (nI_pos' (by omega)) ?_
        exact hq
      by_cases b2 : tki T t (i + 2) = 3
      · have hl2 := lett b2
        have h3 := h2.step (h2.lt (by show tki T t (i + 2) ≠ 0; omega))
        have hc3 := hc2.tok (nI (i + 1 + 1 + 1))
        have head3 : ∀ q, ev (d + 3) t_Reader_readItem 84 [.ref 34, .ref 29, .int (nI v), .int (nI (two T t (i + 1))), .int (nI (two T t (i + 2))), .float 0] [] (hp Y (uF (uF (uF F 35 4 (nI (i + 1))) 35 4 (nI (i + 1 + 1))) 35 4 (nI (i + 1 + 1 + 1))) A) q → xa_rn xa_ms (d + 4) n_Reader_readItem [.ref 34, .ref 29] (hp Y F A) q.1 q.2 := by
          intro q hq
          refine head2 q ?_
          repeat (first | refine ev_np [] rfl rfl rfl ?_ | refine ev_grs [] rfl rfl (by rfl) (by rfl) ?_)
          refine ev_vc rfl (by rfl) (by rfl) rfl (c_Tokens_worthT (d + 1) h2 ht (k := 3) (a := 0) (b := 2) b2 (by decide) (Nat.zero_le _) hl2 (by decide)) ?_
          repeat (refine ev_np [] rfl rfl rfl ?_)
          refine ev_it (nI_pos' (by show two T t (i + 2) < 2 ^ 31; omega)) ?_
          exact hq
        by_cases b3 : tki T t (i + 3) = 2 ∧ two T t (i + 3) < n
        · have h4 := h3.step (h3.lt (by show tki T t (i + 3) ≠ 0; omega))
          have hc4 := hc3.tok (nI (i + 1 + 1 + 1 + 1))
          have head4 : ∀ q, ev (d + 3) t_Reader_readItem 106 [.ref 34, .ref 29, .int (nI v), .int (nI (two T t (i + 1))), .int (nI (two T t (i + 2))), .int (nI (two T t (i + 3)))] [] (hp Y (uF (uF (uF (uF F 35 4 (nI (i + 1))) 35 4 (nI (i + 1 + 1))) 35 4 (nI (i + 1 + 1 + 1))) 35 4 (nI (i + 1 + 1 + 1 + 1))) A) q → xa_rn xa_ms (d + 4) n_Reader_readItem [.ref 34, .ref 29] (hp Y F A) q.1 q.2 := by
            intro q hq
            refine head3 q ?_
            repeat (first | refine ev_np [] rfl rfl rfl ?_ | refine ev_grs [] rfl rfl (by rfl) (by rfl) ?_)
            refine ev_vc rfl (by rfl) PL29.1 rfl (c_Plan_size (d + 2) PL29) ?_
            rw [hc3.1]
            repeat (refine ev_np [] rfl rfl rfl ?_)
            rw [hsz]
            refine ev_vc rfl (by rfl) (by rfl) rfl (c_Tokens_worthT (d + 1) h3 ht (k := 2) (a := 0) (b := n - 1) b3.1 (by decide) (Nat.zero_le _) (by show two T t (i + 3) ≤ n - 1; omega) (by omega)) ?_
            repeat (refine ev_np [] rfl rfl rfl ?_)
            refine ev_ie (nI_pos (by show two T t (i + 3) < 2 ^ 31; omega)) ?_
            exact hq
          by_cases b4 : tki T t (i + 4) = 59
          · have h5 := h4.step (h4.lt (by show tki T t (i + 4) ≠ 0; omega))
            have hc5 := hc4.tok (nI (i + 1 + 1 + 1 + 1 + 1))
            obtain ⟨A1, a1, a2, a3⟩ := c_Plan_raise (Y := Y) (d + 1) PL29 hc5 (s := two T t (i + 1)) (l := two T t (i + 2)) (t := two T t (i + 3)) (v := v) (by omega) (by omega) (by omega) hv2
            refine ⟨fun _ => ⟨_, A1, head4 (some (.int 1), _) ?_, a2.mono (by decide), (((((sF_step _ _).tr (sF_step _ _)).tr (sF_step _ _)).tr (sF_step _ _)).tr (sF_step _ _)).mono (by decide), h5.frame rfl rfl (a2 36 (by decide)) (a2 37 (by decide)) (a2 38 (by decide)), a3⟩, fun f z => ?_⟩
            · repeat (first | refine ev_np [] rfl rfl rfl ?_ | refine ev_grs [] rfl rfl (by rfl) (by rfl) ?_)
              refine ev_vc rfl (by rfl) (by rfl) rfl (c_Tokens_takeT (d + 1) h4 (k := 59) b4 (by decide)) ?_
              repeat (refine ev_np [] rfl rfl rfl ?_)
              refine ev_vc rfl (by rfl) PL29.1 rfl a1 ?_
              repeat (refine ev_np [] rfl rfl rfl ?_)
              exact ev_rz rfl rfl (Or.inr rfl)
            · rw [itw_none.mpr ⟨decide_eq_true b0, decide_eq_true b1, decide_eq_true b2, decide_eq_true b3, decide_eq_true b4⟩] at z
              cases z
          · have hw : itw T t n i = some (tpl T t (i + 4)) := by
              unfold itw pb0 pb1 pb2 pb4
              rw [decide_eq_true b0, decide_eq_true b1, decide_eq_true b2, decide_eq_true b3, decide_eq_false b4]
              rfl
            refine ⟨fun z => (by rw [hw] at z; cases z), fun f z => ⟨_, i + 4, head4 (some (.int 0), _) ?_, ((((sF_step _ _).tr (sF_step _ _)).tr (sF_step _ _)).tr (sF_step _ _)).mono (by decide), h4, by rw [hw] at z; exact Option.some.inj z⟩⟩
            repeat (first | refine ev_np [] rfl rfl rfl ?_ | refine ev_grs [] rfl rfl (by rfl) (by rfl) ?_)
            refine ev_vc rfl (by rfl) (by rfl) rfl (c_Tokens_takeF (d + 1) h4 ht (k := 59) b4 (by decide)) ?_
            repeat (refine ev_np [] rfl rfl rfl ?_)
            exact ev_rz rfl rfl (Or.inl rfl)
        · have hw : itw T t n i = some (tpl T t (i + 3)) := by
            unfold itw pb0 pb1 pb2 pb4
            rw [decide_eq_true b0, decide_eq_true b1, decide_eq_true b2, decide_eq_false b3]
            rfl
          refine ⟨fun z => (by rw [hw] at z; cases z), fun f z => ⟨_, i + 3, head3 (some (.int 0), _) ?_, (((sF_step _ _).tr (sF_step _ _)).tr (sF_step _ _)).mono (by decide), h3, by rw [hw] at z; exact Option.some.inj z⟩⟩
          repeat (first | refine ev_np [] rfl rfl rfl ?_ | refine ev_grs [] rfl rfl (by rfl) (by rfl) ?_)
          refine ev_vc rfl (by rfl) PL29.1 rfl (c_Plan_size (d + 2) PL29) ?_
          rw [hc3.1]
          repeat (refine ev_np [] rfl rfl rfl ?_)
          rw [hsz]
          refine ev_vc rfl (by rfl) (by rfl) rfl (c_Tokens_worthF (d + 1) h3 ht (k := 2) (a := 0) (b := n - 1) (fun z => b3 ⟨z.1, by have := z.2.2; show two T t (i + 3) < n; have : two T t (i + 3) ≤ n - 1 := this; omega⟩) (by decide) (by decide) (by omega)) ?_
          repeat (refine ev_np [] rfl rfl rfl ?_)
          exact ev_rz rfl rfl (Or.inl rfl)
      · have hw : itw T t n i = some (tpl T t (i + 2)) := by
          unfold itw pb0 pb1 pb2 pb4
          rw [decide_eq_true b0, decide_eq_true b1, decide_eq_false b2]
          rfl
        refine ⟨fun z => (by rw [hw] at z; cases z), fun f z => ⟨_, i + 2, head2 (some (.int 0), _) ?_, ((sF_step _ _).tr (sF_step _ _)).mono (by decide), h2, by rw [hw] at z; exact Option.some.inj z⟩⟩
        repeat (first | refine ev_np [] rfl rfl rfl ?_ | refine ev_grs [] rfl rfl (by rfl) (by rfl) ?_)
        refine ev_vc rfl (by rfl) (by rfl) rfl (c_Tokens_worthF (d + 1) h2 ht (k := 3) (a := 0) (b := 2) (fun z => b2 z.1) (by decide) (by decide) (by decide)) ?_
        repeat (refine ev_np [] rfl rfl rfl ?_)
        exact ev_rz rfl rfl (Or.inl rfl)
    · have hw : itw T t n i = some (tpl T t (i + 1)) := by
        unfold itw pb0 pb1 pb2 pb4
        rw [decide_eq_true b0, decide_eq_false b1]
        rfl
      refine ⟨fun z => (by rw [hw] at z; cases z), fun f z => ⟨_, i + 1, head1 (some (.int 0), _) ?_, (sF_step _ _).mono (by decide), h1, by rw [hw] at z; exact Option.some.inj z⟩⟩
      repeat (first | refine ev_np [] rfl rfl rfl ?_ | refine ev_grs [] rfl rfl (by rfl) (by rfl) ?_)
      refine ev_vc rfl (by rfl) PL29.1 rfl (c_Plan_size (d + 2) PL29) ?_
      rw [hc1.1]
      repeat (refine ev_np [] rfl rfl rfl ?_)
      rw [hsz]
      refine ev_vc rfl (by rfl) (by rfl) rfl (c_Tokens_worthF (d + 1) h1 ht (k := 2) (a := 0) (b := n - 1) (fun z => b1 ⟨z.1, by omega⟩) (by decide) (by decide) (by omega)) ?_
      repeat (refine ev_np [] rfl rfl rfl ?_)
      exact ev_rz rfl rfl (Or.inl rfl)
  · have hw : itw T t n i = some (tpl T t i) := by
      unfold itw pb0 pb1 pb2 pb4
      rw [decide_eq_false b0]
      rfl
    refine ⟨fun z => (by rw [hw] at z; cases z), fun f z => ⟨F, i, head0 (some (.int 0), _) ?_, sF.rf, h, by rw [hw] at z; exact Option.some.inj z⟩⟩
    repeat (first | refine ev_np [] rfl rfl rfl ?_ | refine ev_grs [] rfl rfl (by rfl) (by rfl) ?_)
    refine ev_vc rfl (by rfl) (by rfl) rfl (c_Tokens_takeF (d + 1) h ht (k := 5) (fun z => b0 (Or.inl z)) (by decide)) ?_
    repeat (first | refine ev_np [] rfl rfl rfl ?_ | refine ev_grs [] rfl rfl (by rfl) (by rfl) ?_)
    refine ev_vc rfl (by rfl) (by rfl) rfl (c_Tokens_takeF (d + 1) h ht (k := 6) (fun z => b0 (Or.inr z)) (by decide)) ?_
    repeat (refine ev_np [] rfl rfl rfl ?_)
    exact ev_rz rfl rfl (Or.inl rfl)
/-- what a plan's text comes to: its items; or its fault -/
def ptx (T : Nat) (t : Nat → Nat) (r : Nat ⊕ Nat) : Prop := match r with
  | .inl k => hdw T t = none ∧ 3 + 5 * k ≤ 303 ∧ (∀ j, j < k → tki T t (3 + 5 * j) ≠ 0 ∧ itw T t (two T t 1) (3 + 5 * j) = none) ∧ tki T t (3 + 5 * k) = 0
  | .inr f => f ≤ 300 ∧ (hdw T t = some f ∨ (hdw T t = none ∧ ∃ k, 3 + 5 * k ≤ 303 ∧ (∀ j, j < k → tki T t (3 + 5 * j) ≠ 0 ∧ itw T t (two T t 1) (3 + 5 * j) = none) ∧ tki T t (3 + 5 * k) ≠ 0 ∧ itw T t (two T t 1) (3 + 5 * k) = some f))
theorem wst_le {w : Option Nat} {b : Bool} {i : Nat} (h : ∀ f, w = some f → f ≤ T) : ∀ f, wst w b (tpl T t i) = some f → f ≤ T := by
  intro f hf
  cases w with
  | some g => exact h f hf
  | none =>
    cases b with
    | true => cases hf
    | false => cases hf; exact (tpl_le (T := T) (t := t) i).2
theorem itw_le {n i : Nat} : ∀ f, itw T t n i = some f → f ≤ T := wst_le (wst_le (wst_le (wst_le (wst_le (fun f z => by cases z)))))
theorem hdw_le : ∀ f, hdw T t = some f → f ≤ T := wst_le (wst_le (wst_le (fun f z => by cases z)))
theorem ptx_ex (hN : TN T t N) (hT : T ≤ 300) : ∃ r, ptx T t r := by
  cases h : hdw T t with
  | some f => exact ⟨.inr f, by have := hdw_le f h; omega, Or.inl h⟩
  | none =>
    obtain ⟨k, h1, h2, h3⟩ := items_end (n := two T t 1) hN
    have := hN.1
    rcases h3 with h3 | ⟨h3, h4⟩
    · exact ⟨.inl k, h, by omega, h2, h3⟩
    · cases h5 : itw T t (two T t 1) (3 + 5 * k) with
      | none => exact absurd h5 h4
      | some f => exact ⟨.inr f, by have := itw_le f h5; omega, Or.inr ⟨h, k, by omega, h2, h3, h5⟩⟩
theorem hd_n (h : hdw T t = none) : 1 ≤ two T t 1 ∧ two T t 1 ≤ 6 := by
  have h1 := (hdw_none.mp h).2.1
  unfold hb1 at h1
  exact (of_decide_eq_true h1).2
theorem c_readPlan (hx : TX F A T t) (hN : TN T t N) {r : Nat ⊕ Nat} (hr : ptx T t r) : ∃ F' A', xa_rn xa_ms (d + 10) n_Reader_readPlan [.ref 34, .ref 32, .ref 29] (hp Y F A) (some (.int (match r with
    | .inl k => nI k
    | .inr f => -10 - nI f))) (hp Y F' A') ∧ sA [36, 37, 38, 30, 31] A A' ∧ sF [3503, 3504, 2900] F F' ∧ (∀ k, r = .inl k → CP F' A' 29 (two T t 1) (pgr T t k)) := by
  have ht := hx.2.2.2
  obtain ⟨F0, A0, z1, z2, z3, z4⟩ := c_Tokens_split (Y := Y) d hx hN
  have head0 : ∀ q, ev (d + 9) t_Reader_readPlan 8 [.ref 34, .ref 32, .ref 29, .float 0] [] (hp Y F0 A0) q → xa_rn xa_ms (d + 10) n_Reader_readPlan [.ref 34, .ref 32, .ref 29] (hp Y F A) q.1 q.2 := by
    intro q hq
    refine rn_in m_Reader_readPlan rfl ⟨rfl, rfl⟩ ?_
    show ev _ t_Reader_readPlan 0 [.ref 34, .ref 32, .ref 29, .float 0] [] _ _
    repeat (first | refine ev_np [] rfl rfl rfl ?_ | refine ev_grs [] rfl rfl (by rfl) (by rfl) ?_)
    refine ev_vc rfl (by rfl) (by rfl) rfl (z1) ?_
    exact hq
  obtain ⟨y1, y2⟩ := c_readHead (Y := Y) (d + 5) ht z4
  have badh : ∀ f, hdw T t = some f → ∃ F', xa_rn xa_ms (d + 10) n_Reader_readPlan [.ref 34, .ref 32, .ref 29] (hp Y F A) (some (.int (-10 - nI f))) (hp Y F' A0) ∧ sF [3503, 3504, 2900] F F' := by
    intro f hf
    obtain ⟨F1, i, b1, b2, b3, b4⟩ := y2 f hf
    refine ⟨F1, head0 (some (.int (-10 - nI f)), _) ?_, (z3.mono (by decide)).tr (b2.mono (by decide))⟩
    repeat (refine ev_np [] rfl rfl rfl ?_)
    refine ev_vc rfl (by rfl) (by rfl) rfl (b1) ?_
    repeat (first | refine ev_np [] rfl rfl rfl ?_ | refine ev_grs [] rfl rfl (by rfl) (by rfl) ?_)
    refine ev_vc rfl (by rfl) (by rfl) rfl (c_Tokens_place (d + 8) b3) ?_
    rw [b4]
    repeat (refine ev_np [] rfl rfl rfl ?_)
    exact ev_ri rfl rfl
  have items : hdw T t = none → ∀ k, 3 + 5 * k ≤ 303 → (∀ j, j < k → tki T t (3 + 5 * j) ≠ 0 ∧ itw T t (two T t 1) (3 + 5 * j) = none) → ∃ F1 A1, sA [36, 37, 38, 30, 31] A A1 ∧ sF [3503, 3504, 2900] F F1 ∧ TK F1 A1 T t N (3 + 5 * k) ∧ CP F1 A1 29 (two T t 1) (pgr T t k) ∧ ∀ q, ev (d + 9) t_Reader_readPlan 29 [.ref 34, .ref 32, .ref 29, .int (nI k)] [] (hp Y F1 A1) q → xa_rn xa_ms (d + 10) n_Reader_readPlan [.ref 34, .ref 32, .ref 29] (hp Y F A) q.1 q.2 := by
    intro hd k hk hall
    obtain ⟨F1, A1, b1, b2, b3, b4, b5⟩ := y1 hd
    have hn := hd_n hd
    obtain ⟨⟨G, B⟩, ⟨i1, i2, i3, i4⟩, i5⟩ := lp_ex (α := (Nat → Nat → Int32) × (Nat → Nat → Int32)) (fun k a => sA [36, 37, 38, 30, 31] A a.2 ∧ sF [3503, 3504, 2900] F a.1 ∧ TK a.1 a.2 T t N (3 + 5 * k) ∧ CP a.1 a.2 29 (two T t 1) (pgr T t k)) (fun k a q => ev (d + 9) t_Reader_readPlan 29 [.ref 34, .ref 32, .ref 29, .int (nI k)] [] (hp Y a.1 a.2) q) k (fun j a hj hI => by
      obtain ⟨G, B⟩ := a
      obtain ⟨i1, i2, i3, i4⟩ := hI
      dsimp only at i1 i2 i3 i4
      obtain ⟨h1, h2⟩ := hall j hj
      have htk := (tok_b (T := T) (t := t) (3 + 5 * j) ht).1
      obtain ⟨c1, c2⟩ := c_readItem (Y := Y) (d + 5) ht i3 i4 hn
      obtain ⟨F2, A2, d1, d2, d3, d4, d5⟩ := c1 h2
      refine ⟨(F2, A2), ⟨i1.tr (d2.mono (by decide)), i2.tr (d3.mono (by decide)), d4, d5⟩, fun q hq => ?_⟩
      dsimp only at hq ⊢
      rw [nI_succ] at hq
      repeat (refine ev_np [] rfl rfl rfl ?_)
      refine ev_ie (nI_ge (b := 300) (by omega) (by omega)) ?_
      repeat (first | refine ev_np [] rfl rfl rfl ?_ | refine ev_grs [] rfl rfl (by rfl) (by rfl) ?_)
      refine ev_vc rfl (by rfl) (by rfl) rfl (c_Tokens_kind (d + 8) i3) ?_
      repeat (refine ev_np [] rfl rfl rfl ?_)
      refine ev_ie (fun z => h1 ((nI_eq (b := 0) (by omega) (by omega)).mp z)) ?_
      repeat (refine ev_np [] rfl rfl rfl ?_)
      refine ev_vc rfl (by rfl) (by rfl) rfl (d1) ?_
      repeat (refine ev_np [29] rfl rfl rfl ?_)
      exact hq) k 0 (F1, A1) (Nat.zero_add k) ⟨(z2.mono (by decide)).tr (b2.mono (by decide)), (z3.mono (by decide)).tr (b3.mono (by decide)), b4, b5⟩
    dsimp only at i1 i2 i3 i4 i5
    refine ⟨G, B, i1, i2, i3, i4, fun q hq => head0 q ?_⟩
    repeat (refine ev_np [] rfl rfl rfl ?_)
    refine ev_vc rfl (by rfl) (by rfl) rfl (b1) ?_
    repeat (refine ev_np [29] rfl rfl rfl ?_)
    exact i5 q hq
  cases r with
  | inl k =>
    obtain ⟨hd, hk, hall, hend⟩ := hr
    obtain ⟨F1, A1, c1, c2, c3, c4, c5⟩ := items hd k hk hall
    refine ⟨F1, A1, c5 (some (.int (nI k)), _) ?_, c1, c2, fun k' e => by cases e; exact c4⟩
    repeat (refine ev_np [] rfl rfl rfl ?_)
    by_cases e : 300 ≤ k
    · refine ev_it (nI_le (a := 300) e (by omega)) ?_
      repeat (refine ev_np [] rfl rfl rfl ?_)
      exact ev_ri rfl rfl
    · refine ev_ie (nI_ge (b := 300) (by omega) (by omega)) ?_
      repeat (first | refine ev_np [] rfl rfl rfl ?_ | refine ev_grs [] rfl rfl (by rfl) (by rfl) ?_)
      refine ev_vc rfl (by rfl) (by rfl) rfl (c_Tokens_kind (d + 8) c3) ?_
      rw [hend]
      repeat (refine ev_np [] rfl rfl rfl ?_)
      exact ev_ri rfl rfl
  | inr f =>
    obtain ⟨hf, hr⟩ := hr
    rcases hr with hr | ⟨hd, k, hk, hall, h0, hw⟩
    · obtain ⟨F1, b1, b2⟩ := badh f hr
      exact ⟨F1, A0, b1, z2.mono (by decide), b2, fun k z => by cases z⟩
    · obtain ⟨F1, A1, c1, c2, c3, c4, c5⟩ := items hd k hk hall
      have htk := (tok_b (T := T) (t := t) (3 + 5 * k) ht).1
      obtain ⟨e1, e2⟩ := c_readItem (Y := Y) (d + 5) ht c3 c4 (hd_n hd)
      obtain ⟨F2, i', g1, g2, g3, g4⟩ := e2 f hw
      refine ⟨F2, A1, c5 (some (.int (-10 - nI f)), _) ?_, c1, c2.tr (g2.mono (by decide)), fun k z => by cases z⟩
      repeat (refine ev_np [] rfl rfl rfl ?_)
      refine ev_ie (nI_ge (b := 300) (by omega) (by omega)) ?_
      repeat (first | refine ev_np [] rfl rfl rfl ?_ | refine ev_grs [] rfl rfl (by rfl) (by rfl) ?_)
      refine ev_vc rfl (by rfl) (by rfl) rfl (c_Tokens_kind (d + 8) c3) ?_
      repeat (refine ev_np [] rfl rfl rfl ?_)
      refine ev_ie (fun z => h0 ((nI_eq (b := 0) (by omega) (by omega)).mp z)) ?_
      repeat (refine ev_np [] rfl rfl rfl ?_)
      refine ev_vc rfl (by rfl) (by rfl) rfl (g1) ?_
      repeat (first | refine ev_np [] rfl rfl rfl ?_ | refine ev_grs [] rfl rfl (by rfl) (by rfl) ?_)
      refine ev_vc rfl (by rfl) (by rfl) rfl (c_Tokens_place (d + 8) g3) ?_
      rw [g4]
      repeat (refine ev_np [] rfl rfl rfl ?_)
      exact ev_ri rfl rfl
end RPL
