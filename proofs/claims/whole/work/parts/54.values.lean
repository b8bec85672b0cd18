/-! ===== class Saying: its stack ===== -/
def CS (F A : Nat → Nat → Int32) (S : Nat → Nat → Nat) (h : Nat) : Prop := F 39 4 = nI h ∧ ∀ b, b < h → A 41 b = nI (e12 (S b))
def tpx (c h : Nat) : Nat := if c ≤ 1 then h else if c = 3 ∨ c = 4 then h - 2 else h - 1
section VAL
variable {Y : Nat × (Nat → Int32)} {F A : Nat → Nat → Int32} {p n : Nat} {g : Nat → Nat → Nat → Nat} (d : Nat)
theorem c_Saying_pop {h : Nat} (hF : F 39 4 = nI (h + 1)) (hh : h < 24) : xa_rn xa_ms (d + 1) n_Saying_pop [.ref 39] (hp Y F A) (some (.int (A 41 h))) (hp Y (uF F 39 4 (nI h)) A) := by
  refine rn_in m_Saying_pop rfl ⟨rfl, rfl⟩ ?_
  show ev _ t_Saying_pop 0 [.ref 39] [] _ _
  repeat (refine ev_np [] rfl rfl rfl ?_)
  refine ev_gi rfl (by rfl) (by rfl) ?_
  rw [hF]
  repeat (refine ev_np [] rfl rfl rfl ?_)
  refine ev_it (nI_lt (a := 0) (by omega) (by omega)) ?_
  repeat (refine ev_np [] rfl rfl rfl ?_)
  refine ev_gi rfl (by rfl) (by rfl) ?_
  rw [hF]
  repeat (refine ev_np [] rfl rfl rfl ?_)
  rw [nI_pred]
  refine ev_pf rfl (by rfl) ⟨by rfl, by rfl⟩ ?_
  repeat (first | refine ev_np [] rfl rfl rfl ?_ | refine ev_grs [] rfl rfl (by rfl) (by rfl) ?_)
  refine ev_gi rfl (by rfl) (by rfl) ?_
  rw [uF_s]
  refine ev_an rfl (by rfl) rfl (by omega) rfl ?_
  exact ev_ri rfl rfl
theorem c_Saying_push {h : Nat} (hF : F 39 4 = nI h) (hh : h < 24) (x : Int32) : xa_rn xa_ms (d + 1) n_Saying_push [.ref 39, .int x] (hp Y F A) none (hp Y (uF F 39 4 (nI (h + 1))) (va_up A 41 (upd (A 41) h x))) := by
  refine rn_in m_Saying_push rfl ⟨rfl, rfl⟩ ?_
  show ev _ t_Saying_push 0 [.ref 39, .int x] [] _ _
  repeat (refine ev_np [] rfl rfl rfl ?_)
  refine ev_gi rfl (by rfl) (by rfl) ?_
  rw [hF]
  repeat (refine ev_np [] rfl rfl rfl ?_)
  refine ev_ie (nI_ge (b := 24) hh (by omega)) ?_
  repeat (first | refine ev_np [] rfl rfl rfl ?_ | refine ev_grs [] rfl rfl (by rfl) (by rfl) ?_)
  refine ev_gi rfl (by rfl) (by rfl) ?_
  rw [hF]
  repeat (refine ev_np [] rfl rfl rfl ?_)
  refine ev_am rfl (by rfl) rfl (by omega) rfl ?_
  repeat (refine ev_np [] rfl rfl rfl ?_)
  refine ev_gi rfl (by rfl) (by rfl) ?_
  rw [hF]
  repeat (refine ev_np [] rfl rfl rfl ?_)
  refine ev_pf rfl (by rfl) ⟨by rfl, by rfl⟩ ?_
  rw [nI_1]
  exact ev_rv rfl
theorem uF_uF (F : Nat → Nat → Int32) (o k : Nat) (a b : Int32) : uF (uF F o k a) o k b = uF F o k b := by
  funext x y
  by_cases h : x = o ∧ y = k
  · obtain ⟨rfl, rfl⟩ := h
    rw [uF_s, uF_s]
  · rw [uF_n _ _ h, uF_n _ _ h, uF_n _ _ h]
theorem uF_id {F : Nat → Nat → Int32} {o k : Nat} {a : Int32} (h : F o k = a) : uF F o k a = F := by
  funext x y
  by_cases e : x = o ∧ y = k
  · obtain ⟨rfl, rfl⟩ := e
    rw [uF_s, h]
  · rw [uF_n _ _ e]
theorem c_Saying_valuesOf (hp0 : PL p) (hp39 : p ≠ 39) (hc : CP F A p n g) (hn : n ≤ 6) {S : Nat → Nat → Nat} {h c : Nat} (hS : ∀ b s, S b s ≤ 2) (hcs : CS F A S h) (hh : h ≤ 24) (hc10 : c ≤ 10) (h1 : 2 ≤ c → 1 ≤ h) (h2 : c = 3 ∨ c = 4 → 2 ≤ h) : xa_rn xa_ms (d + 4) n_Saying_valuesOf [.ref 39, .int (nI c), .ref p] (hp Y F A) (some (.int (nI (e12 (sk1 n g true c h S (tpx c h)))))) (hp Y (uF F 39 4 (nI (tpx c h))) A) := by
  have hcp : ∀ x, CP (uF F 39 4 x) A p n g := fun x => hc.frame (uF_n _ _ (fun z => hp39 z.1)) rfl rfl
  -- the first pop
  have pop1 : 1 ≤ h → xa_rn xa_ms (d + 3) n_Saying_pop [.ref 39] (hp Y F A) (some (.int (nI (e12 (S (h - 1)))))) (hp Y (uF F 39 4 (nI (h - 1))) A) := fun h1 => by
    have := c_Saying_pop (Y := Y) (A := A) (d + 2) (h := h - 1) (by rw [show h - 1 + 1 = h by omega]; exact hcs.1) (by omega)
    rw [hcs.2 (h - 1) (by omega)] at this
    exact this
  have pop2 : 2 ≤ h → xa_rn xa_ms (d + 3) n_Saying_pop [.ref 39] (hp Y (uF F 39 4 (nI (h - 1))) A) (some (.int (nI (e12 (S (h - 2)))))) (hp Y (uF F 39 4 (nI (h - 2))) A) := fun h2 => by
    have := c_Saying_pop (Y := Y) (F := uF F 39 4 (nI (h - 1))) (A := A) (d + 2) (h := h - 2) (by rw [uF_s, show h - 2 + 1 = h - 1 by omega]) (by omega)
    rw [hcs.2 (h - 2) (by omega), uF_uF] at this
    exact this
  refine rn_in m_Saying_valuesOf rfl ⟨rfl, rfl⟩ ?_
  show ev _ t_Saying_valuesOf 0 [.ref 39, .int (nI c), .ref p, .float 0] [] _ _
  have c11 : c = 0 ∨ c = 1 ∨ c = 2 ∨ c = 3 ∨ c = 4 ∨ (5 ≤ c ∧ c < 8) ∨ (8 ≤ c ∧ c ≤ 10) := by omega
  rcases c11 with rfl | rfl | rfl | rfl | rfl | hcc | hcc
  · rw [show tpx 0 h = h from rfl, uF_id hcs.1, show sk1 n g true 0 h S h = (fun _ => 0) by funext s; unfold sk1; rw [if_pos (by decide), if_pos rfl]]
    repeat (refine ev_np [] rfl rfl rfl ?_)
    refine ev_ca rfl (c_Saying_valuesFrom (d + 2) (fun _ => 0)) ?_
    exact ev_ri rfl rfl
  · rw [show tpx 1 h = h from rfl, uF_id hcs.1, show sk1 n g true 1 h S h = (fun _ => 2) by funext s; unfold sk1; rw [if_pos (by decide), if_pos rfl]]
    repeat (refine ev_np [] rfl rfl rfl ?_)
    refine ev_ca rfl (c_Saying_valuesFrom (d + 2) (fun _ => 2)) ?_
    exact ev_ri rfl rfl
  · rw [show tpx 2 h = h - 1 from rfl, show sk1 n g true 2 h S (h - 1) = (fun s => 2 - S (h - 1) s) by funext s; unfold sk1; rw [if_neg (by decide), if_pos rfl, if_pos rfl]]
    repeat (refine ev_np [] rfl rfl rfl ?_)
    refine ev_vc rfl (by rfl) (by rfl) rfl (pop1 (h1 (by decide))) ?_
    repeat (refine ev_np [] rfl rfl rfl ?_)
    refine ev_ca rfl (c_Saying_soOf (d + 2) _) ?_
    repeat (refine ev_np [] rfl rfl rfl ?_)
    refine ev_ca rfl (c_Saying_someOf (d + 2) _) ?_
    repeat (refine ev_np [] rfl rfl rfl ?_)
    refine ev_ca rfl (c_Saying_valuesFromN (d + 2) (S (h - 1)) (hS (h - 1))) ?_
    exact ev_ri rfl rfl
  · rw [show tpx 3 h = h - 2 from rfl, show sk1 n g true 3 h S (h - 2) = (fun s => min (S (h - 2) s) (S (h - 1) s)) by funext s; unfold sk1; rw [if_neg (by decide), if_neg (by decide), if_pos rfl, if_pos rfl]]
    repeat (refine ev_np [] rfl rfl rfl ?_)
    refine ev_vc rfl (by rfl) (by rfl) rfl (pop1 (h1 (by decide))) ?_
    repeat (refine ev_np [] rfl rfl rfl ?_)
    refine ev_vc rfl (by rfl) (by rfl) rfl (pop2 (h2 (Or.inl rfl))) ?_
    repeat (refine ev_np [] rfl rfl rfl ?_)
    exact ev_ri rfl (e12_and _ _)
  · rw [show tpx 4 h = h - 2 from rfl, show sk1 n g true 4 h S (h - 2) = (fun s => max (S (h - 2) s) (S (h - 1) s)) by funext s; unfold sk1; rw [if_neg (by decide), if_neg (by decide), if_neg (by decide), if_pos rfl, if_pos rfl]]
    repeat (refine ev_np [] rfl rfl rfl ?_)
    refine ev_vc rfl (by rfl) (by rfl) rfl (pop1 (h1 (by decide))) ?_
    repeat (refine ev_np [] rfl rfl rfl ?_)
    refine ev_vc rfl (by rfl) (by rfl) rfl (pop2 (h2 (Or.inr rfl))) ?_
    repeat (refine ev_np [] rfl rfl rfl ?_)
    exact ev_ri rfl (e12_or _ _)
  · rw [show tpx c h = h - 1 by unfold tpx; rw [if_neg (by omega), if_neg (by omega)], show sk1 n g true c h S (h - 1) = inN n (sV g (c - 5) (S (h - 1))) by
      funext s
      unfold sk1 inN
      rw [if_neg (by omega), if_neg (by omega), if_neg (by omega), if_neg (by omega), if_pos hcc.2, if_pos rfl]
      rfl]
    repeat (refine ev_np [] rfl rfl rfl ?_)
    refine ev_it (fun z => by have := (nI_eq (a := c) (b := 0) (by omega) (by omega)).mp z; omega) ?_
    repeat (refine ev_np [] rfl rfl rfl ?_)
    refine ev_it (fun z => by have := (nI_eq (a := c) (b := 1) (by omega) (by omega)).mp z; omega) ?_
    repeat (refine ev_np [] rfl rfl rfl ?_)
    refine ev_vc rfl (by rfl) (by rfl) rfl (pop1 (h1 (by omega))) ?_
    repeat (refine ev_np [] rfl rfl rfl ?_)
    refine ev_it (fun z => by have := (nI_eq (a := c) (b := 2) (by omega) (by omega)).mp z; omega) ?_
    repeat (refine ev_np [] rfl rfl rfl ?_)
    refine ev_it (fun z => by have := (nI_eq (a := c) (b := 3) (by omega) (by omega)).mp z; omega) ?_
    repeat (refine ev_np [] rfl rfl rfl ?_)
    refine ev_it (fun z => by have := (nI_eq (a := c) (b := 4) (by omega) (by omega)).mp z; omega) ?_
    repeat (refine ev_np [] rfl rfl rfl ?_)
    refine ev_ie (nI_ge (b := 8) hcc.2 (by omega)) ?_
    repeat (refine ev_np [] rfl rfl rfl ?_)
    rw [show nI c - 5 = nI (c - 5) from pk_sub (b := 5) hcc.1]
    refine ev_ca rfl (c_Saying_overSome d hp0 (hcp _) hn (show c - 5 < 3 by omega) (S (h - 1))) ?_
    repeat (refine ev_np [] rfl rfl rfl ?_)
    exact ev_ri rfl rfl
  · rw [show tpx c h = h - 1 by unfold tpx; rw [if_neg (by omega), if_neg (by omega)], show sk1 n g true c h S (h - 1) = inN n (eV g (c - 8) (S (h - 1))) by
      funext s
      unfold sk1 inN
      rw [if_neg (by omega), if_neg (by omega), if_neg (by omega), if_neg (by omega), if_neg (by omega), if_pos rfl]
      rfl]
    repeat (refine ev_np [] rfl rfl rfl ?_)
    refine ev_it (fun z => by have := (nI_eq (a := c) (b := 0) (by omega) (by omega)).mp z; omega) ?_
    repeat (refine ev_np [] rfl rfl rfl ?_)
    refine ev_it (fun z => by have := (nI_eq (a := c) (b := 1) (by omega) (by omega)).mp z; omega) ?_
    repeat (refine ev_np [] rfl rfl rfl ?_)
    refine ev_vc rfl (by rfl) (by rfl) rfl (pop1 (h1 (by omega))) ?_
    repeat (refine ev_np [] rfl rfl rfl ?_)
    refine ev_it (fun z => by have := (nI_eq (a := c) (b := 2) (by omega) (by omega)).mp z; omega) ?_
    repeat (refine ev_np [] rfl rfl rfl ?_)
    refine ev_it (fun z => by have := (nI_eq (a := c) (b := 3) (by omega) (by omega)).mp z; omega) ?_
    repeat (refine ev_np [] rfl rfl rfl ?_)
    refine ev_it (fun z => by have := (nI_eq (a := c) (b := 4) (by omega) (by omega)).mp z; omega) ?_
    repeat (refine ev_np [] rfl rfl rfl ?_)
    refine ev_it (nI_le (a := 8) hcc.1 (by omega)) ?_
    repeat (refine ev_np [] rfl rfl rfl ?_)
    rw [show nI c - 8 = nI (c - 8) from pk_sub (b := 8) hcc.1]
    refine ev_ca rfl (c_Saying_overEach d hp0 (hcp _) hn (show c - 8 < 3 by omega) (S (h - 1))) ?_
    exact ev_ri rfl rfl
theorem hgt_s {cs : Nat → Nat} {k : Nat} (h1 : 2 ≤ cs k → 1 ≤ hgt cs k) (h2 : cs k = 3 ∨ cs k = 4 → 2 ≤ hgt cs k) : hgt cs (k + 1) = tpx (cs k) (hgt cs k) + 1 := by
  show (if cs k ≤ 1 then hgt cs k + 1 else if cs k = 3 ∨ cs k = 4 then hgt cs k - 1 else hgt cs k) = _
  unfold tpx
  split
  · rfl
  · rename_i h
    have := h1 (by omega)
    split
    · rename_i h'
      have := h2 h'
      omega
    · omega
theorem sk1_n {z : Bool} {c h b : Nat} {S : Nat → Nat → Nat} (hb : b ≠ tpx c h) : sk1 n g z c h S b = S b := by
  funext s
  unfold sk1
  unfold tpx at hb
  split
  · rename_i h0
    rw [if_pos h0] at hb
    rw [if_neg hb]
  · rename_i h0
    rw [if_neg h0] at hb
    split
    · rename_i h1
      rw [if_neg (by omega)] at hb
      rw [if_neg hb]
    · rename_i h1
      split
      · rename_i h2
        rw [if_pos (Or.inl h2)] at hb
        rw [if_neg hb]
      · rename_i h2
        split
        · rename_i h3
          rw [if_pos (Or.inr h3)] at hb
          rw [if_neg hb]
        · rename_i h3
          rw [if_neg (by omega)] at hb
          split <;> first | rfl | rw [if_neg hb]
theorem c_Saying_valuesIn (hp0 : PL p) (hc : CP F A p n g) (hn : n ≤ 6) {w : Nat × Nat × (Nat → Nat)} (hw : WS w) (hF : F 39 1 = nI w.1) (hA : ∀ k, k < w.1 → A 40 k = nI (w.2.2 k)) : ∃ F' A', xa_rn xa_ms (d + 5) n_Saying_valuesIn [.ref 39, .ref p] (hp Y F A) (some (.int (nI (e12 (sk n g true w.2.2 w.1 0))))) (hp Y F' A') ∧ sA [41] A A' ∧ sF [3904] F F' := by
  have hpx : ¬ p = 39 ∧ ¬ p + 1 = 41 ∧ ¬ p + 2 = 41 ∧ ¬ p * 100 = 3904 := by
    rcases PL_in hp0 with rfl | rfl | rfl | rfl | rfl | rfl | rfl | rfl <;> decide
  obtain ⟨⟨F1, A1⟩, ⟨i1, i2, i3⟩, h3⟩ := lp_ex (α := (Nat → Nat → Int32) × (Nat → Nat → Int32)) (fun k B => sA [41] A B.2 ∧ sF [3904] F B.1 ∧ CS B.1 B.2 (sk n g true w.2.2 k) (hgt w.2.2 k)) (fun k B q => ev (d + 4) t_Saying_valuesIn 7 [.ref 39, .ref p, .int (nI k)] [] (hp Y B.1 B.2) q) w.1 (fun k B hk hI => by
    obtain ⟨i1, i2, i3⟩ := hI
    have hh := hgt_le hw k (by omega)
    obtain ⟨q1, q2, q3, q4⟩ := hw.2.2.1 k hk
    have hcB : CP B.1 B.2 p n g := hc.frame (i2 _ _ (by simpa using hpx.2.2.2)) (i1 _ (by simpa using hpx.2.1)) (i1 _ (by simpa using hpx.2.2.1))
    have hv := c_Saying_valuesOf (Y := Y) d hp0 hpx.1 hcB hn (sk_le k) i3 hh q1 q2 q3
    have htp : tpx (w.2.2 k) (hgt w.2.2 k) < 24 := by
      unfold tpx
      split
      · rename_i h
        exact q4 h
      · rename_i h
        have := q2 (by omega)
        split <;> omega
    have hpu := c_Saying_push (Y := Y) (F := uF B.1 39 4 (nI (tpx (w.2.2 k) (hgt w.2.2 k)))) (A := B.2) (d + 3) (uF_s _ _ _ _) htp (nI (e12 (sk1 n g true (w.2.2 k) (hgt w.2.2 k) (sk n g true w.2.2 k) (tpx (w.2.2 k) (hgt w.2.2 k)))))
    rw [uF_uF] at hpu
    refine ⟨(uF B.1 39 4 (nI (tpx (w.2.2 k) (hgt w.2.2 k) + 1)), va_up B.2 41 (upd (B.2 41) (tpx (w.2.2 k) (hgt w.2.2 k)) (nI (e12 (sk1 n g true (w.2.2 k) (hgt w.2.2 k) (sk n g true w.2.2 k) (tpx (w.2.2 k) (hgt w.2.2 k))))))), ⟨i1.tr (sA.up (by decide)), i2.tr (sF.up (by decide)), ?_, fun b hb => ?_⟩, fun q hq => ?_⟩
    rotate_left 2
    · rw [nI_succ] at hq
      repeat (refine ev_np [] rfl rfl rfl ?_)
      refine ev_gi rfl (by rfl) (by rfl) ?_
      rw [i2 39 1 (by decide), hF]
      repeat (refine ev_np [] rfl rfl rfl ?_)
      refine ev_ie (nI_ge hk (by have := hw.1.2; omega)) ?_
      repeat (first | refine ev_np [] rfl rfl rfl ?_ | refine ev_grs [] rfl rfl (by rfl) (by rfl) ?_)
      refine ev_an rfl (by rfl) rfl (by have := hw.1.2; omega) rfl ?_
      rw [i1 40 (by decide), hA k hk]
      repeat (refine ev_np [] rfl rfl rfl ?_)
      refine ev_vc rfl (by rfl) (by rfl) rfl (hv) ?_
      refine ev_vc rfl (by rfl) (by rfl) rfl (hpu) ?_
      repeat (refine ev_np [7] rfl rfl rfl ?_)
      exact hq
    · dsimp only
      rw [uF_s, hgt_s q2 q3]
    · dsimp only
      rw [va_up_s]
      rw [hgt_s q2 q3] at hb
      show _ = nI (e12 (sk1 n g true (w.2.2 k) (hgt w.2.2 k) (sk n g true w.2.2 k) b))
      by_cases e : b = tpx (w.2.2 k) (hgt w.2.2 k)
      · rw [e, pk_us]
      · rw [pk_un e, sk1_n e]
        refine i3.2 b ?_
        have : tpx (w.2.2 k) (hgt w.2.2 k) ≤ hgt w.2.2 k := by
          unfold tpx
          split
          · exact Nat.le_refl _
          · split <;> omega
        omega) w.1 0 (uF F 39 4 0, A) (Nat.zero_add _) ⟨sA.rf, sF.up (by decide), by dsimp only; rw [uF_s]; exact nI_0.symm, fun b hb => absurd hb (Nat.not_lt_zero b)⟩
  dsimp only at i1 i2 i3 h3
  have hpo := c_Saying_pop (Y := Y) (F := F1) (A := A1) (d + 3) (h := 0) (by rw [i3.1, hw.2.2.2]) (by decide)
  rw [i3.2 0 (by rw [hw.2.2.2]; decide)] at hpo
  refine ⟨uF F1 39 4 (nI 0), A1, ?_, i1, i2.tr (sF.up (by decide))⟩
  refine rn_in m_Saying_valuesIn rfl ⟨rfl, rfl⟩ ?_
  show ev _ t_Saying_valuesIn 0 [.ref 39, .ref p, .float 0] [] _ _
  repeat (refine ev_np [] rfl rfl rfl ?_)
  refine ev_pf rfl (by rfl) ⟨by rfl, by rfl⟩ ?_
  repeat (refine ev_np [7] rfl rfl rfl ?_)
  refine h3 _ ?_
  repeat (refine ev_np [] rfl rfl rfl ?_)
  refine ev_gi rfl (by rfl) (by rfl) ?_
  rw [i2 39 1 (by decide), hF]
  repeat (refine ev_np [] rfl rfl rfl ?_)
  refine ev_it (nI_le (Nat.le_refl _) (by have := hw.1.2; omega)) ?_
  repeat (refine ev_np [] rfl rfl rfl ?_)
  refine ev_vc rfl (by rfl) (by rfl) rfl (hpo) ?_
  exact ev_ri rfl rfl
end VAL
