/-! ===== calls: clear, begin, go, walk, count, arrow, put ===== -/
/-- both answer alike and come to the same state -/
def OP (mc mm : Nat) (as : List Value) (S : SP) : Prop := ∃ (r : Int32) (S' : SP), Wf S' ∧ (∀ Y F A, RC F A S → ∃ F' A', xa_rn xa_ms 80 mc (.ref 9 :: as) (hp Y F A) (some (.int r)) (hp Y F' A') ∧ RC F' A' S' ∧ KM F A F' A') ∧ (∀ Y F A, RM F A S → ∃ F' A', xa_rn xa_ms 80 mm (.ref 62 :: as) (hp Y F A) (some (.int r)) (hp Y F' A') ∧ RM F' A' S' ∧ KC F A F' A')
section OPS1
variable {S : SP}
theorem c_Text_size {Y : Nat × (Nat → Int32)} {F A : Nat → Nat → Int32} (d : Nat) : xa_rn xa_ms (d + 1) n_Text_size [.ref 32] (hp Y F A) (some (.int (F 32 1))) (hp Y F A) := by
  refine rn_in m_Text_size rfl ⟨rfl, rfl⟩ ?_
  show ev _ t_Text_size 0 [.ref 32] [] _ _
  repeat (refine ev_np [] rfl rfl rfl ?_)
  refine ev_gi rfl (by rfl) (by rfl) ?_
  exact ev_ri rfl rfl
theorem c_Text_drain {Y : Nat × (Nat → Int32)} {F A : Nat → Nat → Int32} (d : Nat) : xa_rn xa_ms (d + 1) n_Text_drain [.ref 32] (hp Y F A) (some (.int (F 32 1))) (hp Y (uF F 32 1 0) A) := by
  refine rn_in m_Text_drain rfl ⟨rfl, rfl⟩ ?_
  show ev _ t_Text_drain 0 [.ref 32, .float 0] [] _ _
  repeat (refine ev_np [] rfl rfl rfl ?_)
  refine ev_gi rfl (by rfl) (by rfl) ?_
  repeat (refine ev_np [] rfl rfl rfl ?_)
  refine ev_pf rfl (by rfl) ⟨by rfl, by rfl⟩ ?_
  repeat (refine ev_np [] rfl rfl rfl ?_)
  exact ev_ri rfl rfl
/-- the text is emptied -/
def sClear (S : SP) : SP := ((0, S.1.2), S.2)
theorem sClear_wf (W : Wf S) : Wf (sClear S) := ⟨⟨Nat.zero_le _, W.1.2⟩, W.2⟩
theorem RC.clear {F A : Nat → Nat → Int32} (h : RC F A S) : RC (uF F 32 1 0) A (sClear S) := by
  obtain ⟨⟨a1, a2⟩, b, ⟨c1, c2, c3⟩, d1, d2, d3⟩ := h
  refine ⟨⟨by rw [uF_s]; exact nI_0.symm, fun j hj => absurd hj (Nat.not_lt_zero j)⟩, fun i hi => (b i hi).frame (uF_n _ _ (by omega)) rfl rfl, ⟨by rw [uF_n _ _ (by decide)]; exact c1, by rw [uF_n _ _ (by decide)]; exact c2, c3⟩, d1.frame (uF_n _ _ (by decide)) rfl rfl, by rw [uF_n _ _ (by decide)]; exact d2, by rw [uF_n _ _ (by decide)]; exact d3⟩
theorem RM.clear {F A : Nat → Nat → Int32} (h : RM F A S) : RM (uF F 62 4 0) A (sClear S) := by
  obtain ⟨⟨a1, a2⟩, b, ⟨c1, c2, c3⟩, d1, d2, d3⟩ := h
  exact ⟨⟨by rw [uF_s]; exact nI_0.symm, fun j hj => absurd hj (Nat.not_lt_zero j)⟩, b, ⟨by rw [uF_n _ _ (by decide)]; exact c1, by rw [uF_n _ _ (by decide)]; exact c2, c3⟩, d1, by rw [uF_n _ _ (by decide)]; exact d2, by rw [uF_n _ _ (by decide)]; exact d3⟩
theorem op_clear (W : Wf S) : OP n_MM_clear n_Mo_clear [] S := by
  refine ⟨nI S.1.1, sClear S, sClear_wf W, fun Y F A hC => ⟨uF F 32 1 0, A, ?_, hC.clear, KM.of (sF.up (L := [3201]) (by decide)) (sA.rf (L := [])) ⟨rfl, rfl⟩⟩, fun Y F A hM => ⟨uF (uF F 62 0 0) 62 4 0, A, ?_, (hM.thrown 0).clear, (KC.fld F A 0 0).tr (KC.fld _ A 4 0)⟩⟩
  · refine rn_in m_MM_clear rfl ⟨rfl, rfl⟩ ?_
    show ev _ t_MM_clear 0 [.ref 9] [] _ _
    repeat (refine ev_np [] rfl rfl rfl ?_)
    refine ev_gr rfl (by rfl) (by rfl) ?_
    refine ev_vc rfl (by rfl) (by rfl) rfl (c_Text_drain 78) ?_
    exact ev_ri rfl hC.1.1
  · refine rn_in m_Mo_clear rfl ⟨rfl, rfl⟩ ?_
    show ev _ t_Mo_clear 0 [.ref 62, .float 0] [] _ _
    repeat (refine ev_np [] rfl rfl rfl ?_)
    refine ev_pf rfl (by rfl) ⟨by rfl, by rfl⟩ ?_
    repeat (refine ev_np [] rfl rfl rfl ?_)
    refine ev_gi rfl (by rfl) (by rfl) ?_
    rw [uF_n _ _ (by decide), hM.1.1]
    repeat (refine ev_np [] rfl rfl rfl ?_)
    refine ev_pf rfl (by rfl) ⟨by rfl, by rfl⟩ ?_
    repeat (refine ev_np [] rfl rfl rfl ?_)
    exact ev_ri rfl rfl
theorem c_Mo_copies {Y : Nat × (Nat → Int32)} {F A : Nat → Nat → Int32} (d : Nat) {i j n : Nat} {g : Nat → Nat → Nat → Nat} (hi : i < 8) (hj : j < 8) (hm : MP A i n g) : ∃ A', xa_rn xa_ms (d + 1) n_Mo_copies [.ref 62, .int (nI i), .int (nI j)] (hp Y F A) none (hp Y F A') ∧ sA [63, 64] A A' ∧ MP A' j n g ∧ (∀ i' n' g', i' < 8 → i' ≠ j → MP A i' n' g' → MP A' i' n' g') := by
  have hix : ∀ (a k : Nat), 108 * nI a + nI k = nI (108 * a + k) := fun a k => by rw [show (108 : Int32) = nI 108 from rfl, pk_mul, nI_add]
  obtain ⟨A1, ⟨h1, h2⟩, h3⟩ := lp_ex (α := Nat → Nat → Int32) (fun k B => sA [63] A B ∧ ∀ z, B 63 z = if 108 * j ≤ z ∧ z < 108 * j + k then A 63 (108 * i + (z - 108 * j)) else A 63 z) (fun k B q => ev d t_Mo_copies 2 [.ref 62, .int (nI i), .int (nI j), .int (nI k)] [] (hp Y F B) q) 108 (fun k B hk hI => by
    obtain ⟨hs, hz⟩ := hI
    refine ⟨va_up B 63 (upd (B 63) (108 * j + k) (B 63 (108 * i + k))), ⟨hs.tr (sA.up (by decide)), fun z => ?_⟩, fun q hq => ?_⟩
    · rw [va_up_s]
      unfold upd
      by_cases e : z = 108 * j + k
      · subst e
        rw [if_pos rfl, hz]
        by_cases e3 : i = j
        · subst e3
          split
          · omega
          · rw [if_pos (by omega)]
            congr 1
            omega
        · rw [if_neg (by omega), if_pos (by omega)]
          congr 1
          omega
      · rw [if_neg e, hz]
        by_cases e2 : 108 * j ≤ z ∧ z < 108 * j + k
        · rw [if_pos e2, if_pos (by omega)]
        · rw [if_neg e2, if_neg (by omega)]
    · repeat (refine ev_np [] rfl rfl rfl ?_)
      refine ev_ie (nI_ge (b := 108) hk (by omega)) ?_
      repeat (refine ev_np [] rfl rfl rfl ?_)
      refine ev_gr rfl (by rfl) (by rfl) ?_
      repeat (refine ev_np [] rfl rfl rfl ?_)
      refine ev_gr rfl (by rfl) (by rfl) ?_
      repeat (refine ev_np [] rfl rfl rfl ?_)
      refine ev_an rfl (by rfl) (hix i k) (by omega) rfl ?_
      refine ev_am rfl (by rfl) (hix j k) (by omega) rfl ?_
      repeat (refine ev_np [2] rfl rfl rfl ?_)
      rw [nI_succ] at hq
      exact hq) 108 0 A rfl ⟨sA.rf, fun z => by rw [if_neg (by omega)]⟩
  have h64 : A1 64 = A 64 := h1 64 (by decide)
  obtain ⟨A2, hA2⟩ : ∃ A2, A2 = va_up A1 64 (upd (A1 64) j (A1 64 i)) := ⟨_, rfl⟩
  have e63 : A2 63 = A1 63 := by rw [hA2]; exact va_up_n _ _ (by decide)
  have e64 : ∀ z, A2 64 z = if z = j then A 64 i else A 64 z := fun z => by
    rw [hA2, va_up_s, h64]
    rfl
  refine ⟨A2, ?_, (h1.mono (by decide)).tr (by rw [hA2]; exact sA.up (by decide)), ⟨by rw [e64, if_pos rfl]; exact hm.1, fun s l t hs hl ht => ?_⟩, fun i' n' g' hi' hne hm' => ⟨by rw [e64, if_neg hne]; exact hm'.1, fun s l t hs hl ht => ?_⟩⟩
  · refine rn_in m_Mo_copies rfl ⟨rfl, rfl⟩ ?_
    show ev _ t_Mo_copies 0 [.ref 62, .int (nI i), .int (nI j), .float 0] [] _ _
    repeat (refine ev_np [2] rfl rfl rfl ?_)
    refine h3 _ ?_
    repeat (refine ev_np [] rfl rfl rfl ?_)
    refine ev_gr rfl (by rfl) (by rfl) ?_
    repeat (refine ev_np [] rfl rfl rfl ?_)
    refine ev_gr rfl (by rfl) (by rfl) ?_
    repeat (refine ev_np [] rfl rfl rfl ?_)
    refine ev_an rfl (by rfl) rfl hi rfl ?_
    refine ev_am rfl (by rfl) rfl hj rfl ?_
    rw [← hA2]
    exact ev_rv rfl
  · rw [e63, h2, if_pos (by omega)]
    have := hm.2 s l t hs hl ht
    rw [← this]
    congr 1
    omega
  · rw [e63, h2, if_neg (by omega)]
    exact hm'.2 s l t hs hl ht
def sBegin (S : SP) (i : Nat) : SP := (S.1, S.2.1, S.2.2.1, (S.2.1 i, (fun s => s == 0), 0))
theorem op_begin (W : Wf S) (x : Int32) : OP n_MM_begin n_Mo_begin [.int x] S := by
  rcases pk_ix x (n := 6) (by decide) with hx | hx | ⟨i, hi, rfl⟩
  · refine ⟨-1, S, W, fun Y F A hC => ⟨F, A, ?_, hC, KM.rf⟩, fun Y F A hM => ⟨uF F 62 0 0, A, ?_, hM.thrown 0, KC.fld F A 0 0⟩⟩
    · refine rn_in m_MM_begin rfl ⟨rfl, rfl⟩ ?_
      show ev _ t_MM_begin 0 [.ref 9, .int x] [] _ _
      repeat (refine ev_np [] rfl rfl rfl ?_)
      refine ev_ca rfl (c_MM_noPlanT 78 (Or.inl hx)) ?_
      repeat (refine ev_np [] rfl rfl rfl ?_)
      exact ev_ri rfl rfl
    · refine rn_in m_Mo_begin rfl ⟨rfl, rfl⟩ ?_
      show ev _ t_Mo_begin 0 [.ref 62, .int x, .float 0] [] _ _
      repeat (refine ev_np [] rfl rfl rfl ?_)
      refine ev_pf rfl (by rfl) ⟨by rfl, by rfl⟩ ?_
      repeat (refine ev_np [] rfl rfl rfl ?_)
      refine ev_ca rfl (c_Mo_isPlanF 77 (Or.inl hx)) ?_
      repeat (refine ev_np [] rfl rfl rfl ?_)
      exact ev_ri rfl rfl
  · refine ⟨-1, S, W, fun Y F A hC => ⟨F, A, ?_, hC, KM.rf⟩, fun Y F A hM => ⟨uF F 62 0 0, A, ?_, hM.thrown 0, KC.fld F A 0 0⟩⟩
    · refine rn_in m_MM_begin rfl ⟨rfl, rfl⟩ ?_
      show ev _ t_MM_begin 0 [.ref 9, .int x] [] _ _
      repeat (refine ev_np [] rfl rfl rfl ?_)
      refine ev_ca rfl (c_MM_noPlanT 78 (Or.inr hx)) ?_
      repeat (refine ev_np [] rfl rfl rfl ?_)
      exact ev_ri rfl rfl
    · refine rn_in m_Mo_begin rfl ⟨rfl, rfl⟩ ?_
      show ev _ t_Mo_begin 0 [.ref 62, .int x, .float 0] [] _ _
      repeat (refine ev_np [] rfl rfl rfl ?_)
      refine ev_pf rfl (by rfl) ⟨by rfl, by rfl⟩ ?_
      repeat (refine ev_np [] rfl rfl rfl ?_)
      refine ev_ca rfl (c_Mo_isPlanF 77 (Or.inr hx)) ?_
      repeat (refine ev_np [] rfl rfl rfl ?_)
      exact ev_ri rfl rfl
  · refine ⟨nI S.2.2.2.2.2, sBegin S i, ⟨W.1, W.2.1, W.2.2.1, W.2.1 i hi, fun s _ hs => ?_, Nat.zero_le _⟩, fun Y F A hC => ?_, fun Y F A hM => ?_⟩
    · have : s = 0 := by simpa [sBegin] using hs
      have := (W.2.1 i hi).1.1
      show s < (S.2.1 i).1
      omega
    · obtain ⟨F', A', b1, b2, b3, b4, b5, b6⟩ := c_Walker_restart (Y := Y) 77 (PLi hi) (hC.2.1 i hi) hC.2.2.2.2.2
      refine ⟨F', A', ?_, ?_, KM.of b3 b2 ⟨rfl, rfl⟩⟩
      · refine rn_in m_MM_begin rfl ⟨rfl, rfl⟩ ?_
        show ev _ t_MM_begin 0 [.ref 9, .int (nI i)] [] _ _
        repeat (refine ev_np [] rfl rfl rfl ?_)
        refine ev_ca rfl (c_MM_noPlanF 78 hi) ?_
        repeat (refine ev_np [] rfl rfl rfl ?_)
        refine ev_gr rfl (by rfl) (by rfl) ?_
        repeat (refine ev_np [] rfl rfl rfl ?_)
        refine ev_gr rfl (by rfl) (by rfl) ?_
        repeat (refine ev_np [] rfl rfl rfl ?_)
        refine ev_aa rfl hi ?_
        refine ev_vc rfl (by rfl) (by rfl) rfl (b1) ?_
        exact ev_ri rfl rfl
      · obtain ⟨⟨a1, a2⟩, b, ⟨c1, c2, c3⟩, -⟩ := hC
        exact ⟨⟨by rw [b3 32 1 (by decide)]; exact a1, by rw [b2 33 (by decide)]; exact a2⟩, fun k hk => (b k hk).frame (b3 _ _ (by simp; omega)) (b2 _ (by simp; omega)) (b2 _ (by simp; omega)), ⟨by rw [b3 39 1 (by decide)]; exact c1, by rw [b3 39 2 (by decide)]; exact c2, by rw [b2 40 (by decide)]; exact c3⟩, b4, by rw [b5]; rfl, by rw [b6]; exact nI_0.symm⟩
    · have hM0 := hM.thrown 0
      obtain ⟨A', b1, b2, b3, b4⟩ := c_Mo_copies (Y := Y) (F := uF F 62 0 0) 78 (i := i) (j := 7) (by omega) (by decide) (hM0.2.1 i hi)
      refine ⟨uF (uF (uF F 62 0 0) 62 23 1) 62 24 0, A', ?_, ?_, ((KC.fld F A 0 0).tr (KC.sA b2 rfl)).tr ((KC.fld _ A' 23 1).tr (KC.fld _ A' 24 0))⟩
      · refine rn_in m_Mo_begin rfl ⟨rfl, rfl⟩ ?_
        show ev _ t_Mo_begin 0 [.ref 62, .int (nI i), .float 0] [] _ _
        repeat (refine ev_np [] rfl rfl rfl ?_)
        refine ev_pf rfl (by rfl) ⟨by rfl, by rfl⟩ ?_
        repeat (refine ev_np [] rfl rfl rfl ?_)
        refine ev_ca rfl (c_Mo_isPlanT 77 hi) ?_
        repeat (refine ev_np [] rfl rfl rfl ?_)
        refine ev_vc rfl (by rfl) (by rfl) rfl (b1) ?_
        repeat (refine ev_np [] rfl rfl rfl ?_)
        refine ev_pf rfl (by rfl) ⟨by rfl, by rfl⟩ ?_
        repeat (refine ev_np [] rfl rfl rfl ?_)
        refine ev_gi rfl (by rfl) (by rfl) ?_
        rw [uF_n _ _ (by decide), hM0.2.2.2.2.2]
        repeat (refine ev_np [] rfl rfl rfl ?_)
        refine ev_pf rfl (by rfl) ⟨by rfl, by rfl⟩ ?_
        repeat (refine ev_np [] rfl rfl rfl ?_)
        exact ev_ri rfl rfl
      · obtain ⟨⟨a1, a2⟩, b, ⟨c1, c2, c3⟩, -⟩ := hM0
        exact ⟨⟨by rw [uF_n _ _ (by decide), uF_n _ _ (by decide)]; exact a1, by rw [b2 65 (by decide)]; exact a2⟩, fun k hk => b4 k _ _ (by omega) (by omega) (b k hk), ⟨by rw [uF_n _ _ (by decide), uF_n _ _ (by decide)]; exact c1, by rw [uF_n _ _ (by decide), uF_n _ _ (by decide)]; exact c2, by rw [b2 66 (by decide)]; exact c3⟩, b3, by rw [uF_n _ _ (by decide), uF_s]; rfl, by rw [uF_s]; exact nI_0.symm⟩
end OPS1
