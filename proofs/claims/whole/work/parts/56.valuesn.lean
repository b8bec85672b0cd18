/-! ===== the model: values, step by step ===== -/
def MS (A : Nat → Nat → Int32) (S : Nat → Nat → Nat) (h : Nat) : Prop := ∀ b s, b < h → s < 6 → A 69 (6 * b + s) = nI (S b s)
section VN
variable {Y : Nat × (Nat → Int32)} {F A : Nat → Nat → Int32} {i n : Nat} {g : Nat → Nat → Nat → Nat} (d : Nat)
theorem m6 (h : Nat) : nI (6 * (h + 1)) + (-6) = nI (6 * h) := by
  have e : nI (6 * (h + 1)) = nI (6 * h) + 6 := by rw [show (6 : Int32) = nI 6 from rfl, nI_add, Nat.mul_add]
  rw [e, Int32.add_assoc, show (6 : Int32) + (-6) = 0 by decide, Int32.add_zero]
theorem m6s {h : Nat} (h1 : 1 ≤ h) : nI (6 * h) - 6 = nI (6 * (h - 1)) := by
  rw [show (6 : Int32) = nI 6 from rfl, pk_sub (by omega)]
  congr 1
  omega
/-- one row is written -/
theorem MS.row {A' : Nat → Nat → Int32} {S S' : Nat → Nat → Nat} {h h' b0 m : Nat} (hs : MS A S h) (hz : ∀ z, A' 69 z = if 6 * b0 ≤ z ∧ z < 6 * b0 + m then nI (S' b0 (z - 6 * b0)) else A 69 z) (hm : m ≤ 6) (hh : h' ≤ h ∨ h' ≤ b0 + 1 ∧ b0 ≤ h) (hk : ∀ b, b < h' → b ≠ b0 → S' b = S b) (hr : ∀ s, m ≤ s → s < 6 → b0 < h' → b0 < h ∧ S' b0 s = S b0 s) : MS A' S' h' := by
  intro b s hb hs6
  rw [hz]
  by_cases e : b = b0
  · subst e
    by_cases e2 : s < m
    · rw [if_pos (by omega), show 6 * b + s - 6 * b = s by omega]
    · rw [if_neg (by omega)]
      obtain ⟨q1, q2⟩ := hr s (by omega) hs6 hb
      rw [q2]
      exact hs b s q1 hs6
  · rw [if_neg (by omega), hk b hb e]
    exact hs b s (by omega) hs6
theorem enc_ge {c : Nat} (h : 5 ≤ c) (h10 : c ≤ 10) : enc c = if c < 8 then 300 + (c - 5) else 310 + (c - 8) := by
  have : c = 5 ∨ c = 6 ∨ c = 7 ∨ c = 8 ∨ c = 9 ∨ c = 10 := by omega
  rcases this with rfl | rfl | rfl | rfl | rfl | rfl <;> rfl
set_option maxRecDepth 20000 in
theorem c_Mo_vstep (hi : i < 8) (hm : MP A i n g) (hg : GW n g) {S : Nat → Nat → Nat} {h c k : Nat} (hS : ∀ b s, S b s ≤ 2) (hms : MS A S h) (hh : h ≤ 24) (hc10 : c ≤ 10) (h1 : 2 ≤ c → 1 ≤ h) (h2 : c = 3 ∨ c = 4 → 2 ≤ h) (h3 : c ≤ 1 → h < 24) : ∃ A', sA [69, 72] A A' ∧ MS A' (sk1 n g false c h S) (tpx c h + 1) ∧ ∀ q, (∀ v4 v5 v6 v7 : Value, ev (d + 4) t_Mo_values 315 [.ref 62, .int (nI i), .int (nI (6 * (tpx c h + 1))), .int (nI k), v4, v5, v6, v7] [] (hp Y F A') q) → ∀ v5 v6 v7 : Value, ev (d + 4) t_Mo_values 20 [.ref 62, .int (nI i), .int (nI (6 * h)), .int (nI k), .int (nI (enc c)), v5, v6, v7] [] (hp Y F A) q := by
  have hn := hg.1.2
  have c11 : c = 0 ∨ c = 1 ∨ c = 2 ∨ c = 3 ∨ c = 4 ∨ 5 ≤ c := by omega
  -- 0 and 1
  have push : ∀ c, c ≤ 1 → c = 0 ∨ c = 1 → h < 24 → ∃ A', sA [69, 72] A A' ∧ MS A' (sk1 n g false c h S) (h + 1) ∧ ∀ q, (∀ v4 v5 v6 v7 : Value, ev (d + 4) t_Mo_values 315 [.ref 62, .int (nI i), .int (nI (6 * (h + 1))), .int (nI k), v4, v5, v6, v7] [] (hp Y F A') q) → ∀ v5 v6 v7 : Value, ev (d + 4) t_Mo_values 26 [.ref 62, .int (nI i), .int (nI (6 * h)), .int (nI k), .int (nI c), v5, v6, v7] [] (hp Y F A) q := by
    intro c hc1 hc01 hh24
    obtain ⟨A1, ⟨i1, i2⟩, i3⟩ := lp_ex (α := Nat → Nat → Int32) (fun s B => sA [69, 72] A B ∧ ∀ z, B 69 z = if 6 * h ≤ z ∧ z < 6 * h + s then nI (sk1 n g false c h S h (z - 6 * h)) else A 69 z) (fun s B q => ∀ v6 v7 : Value, ev (d + 4) t_Mo_values 29 [.ref 62, .int (nI i), .int (nI (6 * h)), .int (nI k), .int (nI c), .int (nI s), v6, v7] [] (hp Y F B) q) 6 (fun s B hs hI => by
      obtain ⟨i1, i2⟩ := hI
      refine ⟨va_up B 69 (upd (B 69) (6 * h + s) (nI (2 * c))), ⟨i1.tr (sA.up (by decide)), fun z => ?_⟩, fun q hq v6 v7 => ?_⟩
      · rw [va_up_s]
        by_cases e : z = 6 * h + s
        · rw [e, pk_us, if_pos (by omega)]
          unfold sk1
          rw [if_pos hc1, if_pos rfl]
        · rw [pk_un e, i2]
          by_cases e2 : 6 * h ≤ z ∧ z < 6 * h + s
          · rw [if_pos e2, if_pos (by omega)]
          · rw [if_neg e2, if_neg (by omega)]
      · rw [nI_succ] at hq
        repeat (refine ev_np [] rfl rfl rfl ?_)
        refine ev_ie (nI_ge (b := 6) hs (by omega)) ?_
        repeat (first | refine ev_np [] rfl rfl rfl ?_ | refine ev_grs [] rfl rfl (by rfl) (by rfl) ?_)
        refine ev_am rfl (by rfl) (j := 6 * h + s) (by rw [nI_add]) (by omega) rfl ?_
        repeat (refine ev_np [29] rfl rfl rfl ?_)
        rw [show 2 * nI c = nI (2 * c) by rw [show (2 : Int32) = nI 2 from rfl, pk_mul]]
        exact hq _ _) 6 0 A rfl ⟨sA.rf, fun z => by rw [if_neg (by omega)]⟩
    refine ⟨A1, i1, hms.row (b0 := h) (m := 6) i2 (Nat.le_refl 6) (Or.inr ⟨Nat.le_refl _, Nat.le_refl _⟩) (fun b hb e => sk1_n (by rw [show tpx c h = h from if_pos hc1]; exact e)) (fun s h6 h6' => by omega), fun q hq v5 v6 v7 => ?_⟩
    repeat (refine ev_np [29] rfl rfl rfl ?_)
    refine i3 q (fun v6 v7 => ?_) _ _
    repeat (refine ev_np [315] rfl rfl rfl ?_)
    rw [show nI (6 * h) + 6 = nI (6 * (h + 1)) by rw [show (6 : Int32) = nI 6 from rfl, nI_add, Nat.mul_add]]
    exact hq _ _ _ _
  -- and, or
  have both : ∀ c, c = 3 ∨ c = 4 → 2 ≤ h → ∃ A', sA [69, 72] A A' ∧ MS A' (sk1 n g false c h S) (h - 2 + 1) ∧ ∀ q, (∀ v4 v5 v6 v7 : Value, ev (d + 4) t_Mo_values 315 [.ref 62, .int (nI i), .int (nI (6 * (h - 2 + 1))), .int (nI k), v4, v5, v6, v7] [] (hp Y F A') q) → ∀ v5 v6 v7 : Value, ev (d + 4) t_Mo_values 75 [.ref 62, .int (nI i), .int (nI (6 * h)), .int (nI k), .int (nI (enc c)), v5, v6, v7] [] (hp Y F A) q := by
    intro c hc34 hh2
    have htp : tpx c h = h - 2 := by unfold tpx; rw [if_neg (by omega), if_pos hc34]
    obtain ⟨A1, ⟨i1, i2⟩, i3⟩ := lp_ex (α := Nat → Nat → Int32) (fun s B => sA [69, 72] A B ∧ ∀ z, B 69 z = if 6 * (h - 2) ≤ z ∧ z < 6 * (h - 2) + s then nI (sk1 n g false c h S (h - 2) (z - 6 * (h - 2))) else A 69 z) (fun s B q => ∀ v6 v7 : Value, ev (d + 4) t_Mo_values 81 [.ref 62, .int (nI i), .int (nI (6 * (h - 1))), .int (nI k), .int (nI (enc c)), .int (nI s), v6, v7] [] (hp Y F B) q) 6 (fun s B hs hI => by
      obtain ⟨i1, i2⟩ := hI
      obtain ⟨a, ha⟩ : ∃ a, a = S (h - 2) s := ⟨_, rfl⟩
      obtain ⟨b, hb⟩ : ∃ b, b = S (h - 1) s := ⟨_, rfl⟩
      have la : a ≤ 2 := by rw [ha]; exact hS _ _
      have lb : b ≤ 2 := by rw [hb]; exact hS _ _
      have ra : B 69 (6 * (h - 2) + s) = nI a := by
        rw [i2, if_neg (by omega), ha]
        exact hms (h - 2) s (by omega) hs
      have rb : B 69 (6 * (h - 1) + s) = nI b := by
        rw [i2, if_neg (by omega), hb]
        exact hms (h - 1) s (by omega) hs
      have ix1 : nI (6 * (h - 1)) - 6 + nI s = nI (6 * (h - 2) + s) := by
        rw [m6s (by omega), nI_add, show h - 1 - 1 = h - 2 by omega]
      refine ⟨va_up B 69 (upd (B 69) (6 * (h - 2) + s) (nI (sk1 n g false c h S (h - 2) s))), ⟨i1.tr (sA.up (by decide)), fun z => ?_⟩, fun q hq v6 v7 => ?_⟩
      · rw [va_up_s]
        by_cases e : z = 6 * (h - 2) + s
        · rw [e, pk_us, if_pos (by omega), show 6 * (h - 2) + s - 6 * (h - 2) = s by omega]
        · rw [pk_un e, i2]
          by_cases e2 : 6 * (h - 2) ≤ z ∧ z < 6 * (h - 2) + s
          · rw [if_pos e2, if_pos (by omega)]
          · rw [if_neg e2, if_neg (by omega)]
      · rw [nI_succ] at hq
        repeat (refine ev_np [] rfl rfl rfl ?_)
        refine ev_ie (nI_ge (b := 6) hs (by omega)) ?_
        repeat (first | refine ev_np [] rfl rfl rfl ?_ | refine ev_grs [] rfl rfl (by rfl) (by rfl) ?_)
        refine ev_an rfl (by rfl) ix1 (by omega) rfl ?_
        rw [ra]
        repeat (first | refine ev_np [] rfl rfl rfl ?_ | refine ev_grs [] rfl rfl (by rfl) (by rfl) ?_)
        refine ev_an rfl (by rfl) (j := 6 * (h - 1) + s) (by rw [nI_add]) (by omega) rfl ?_
        rw [rb]
        repeat (first | refine ev_np [] rfl rfl rfl ?_ | refine ev_grs [] rfl rfl (by rfl) (by rfl) ?_)
        rcases hc34 with rfl | rfl
        · have ev3 : sk1 n g false 3 h S (h - 2) s = min a b := by
            unfold sk1
            rw [if_neg (by decide), if_neg (by decide), if_pos rfl, if_pos rfl, ha, hb]
          rw [ev3] at hq
          by_cases e : a < b
          · refine ev_ie (nI_ge e (by omega)) ?_
            repeat (refine ev_np [] rfl rfl rfl ?_)
            refine ev_am rfl (by rfl) ix1 (by omega) rfl ?_
            repeat (refine ev_np [81] rfl rfl rfl ?_)
            rw [show min a b = a by omega] at hq
            exact hq _ _
          · refine ev_it (nI_le (by omega) (by omega)) ?_
            repeat (refine ev_np [] rfl rfl rfl ?_)
            refine ev_am rfl (by rfl) ix1 (by omega) rfl ?_
            repeat (refine ev_np [81] rfl rfl rfl ?_)
            rw [show min a b = b by omega] at hq
            exact hq _ _
        · have ev3 : sk1 n g false 4 h S (h - 2) s = max a b := by
            unfold sk1
            rw [if_neg (by decide), if_neg (by decide), if_neg (by decide), if_pos rfl, if_pos rfl, ha, hb]
          rw [ev3] at hq
          by_cases e : a < b
          · refine ev_ie (nI_ge e (by omega)) ?_
            repeat (refine ev_np [] rfl rfl rfl ?_)
            refine ev_am rfl (by rfl) ix1 (by omega) rfl ?_
            repeat (refine ev_np [81] rfl rfl rfl ?_)
            rw [show max a b = b by omega] at hq
            exact hq _ _
          · refine ev_it (nI_le (by omega) (by omega)) ?_
            repeat (refine ev_np [] rfl rfl rfl ?_)
            refine ev_am rfl (by rfl) ix1 (by omega) rfl ?_
            repeat (refine ev_np [81] rfl rfl rfl ?_)
            rw [show max a b = a by omega] at hq
            exact hq _ _) 6 0 A rfl ⟨sA.rf, fun z => by rw [if_neg (by omega)]⟩
    refine ⟨A1, i1, hms.row (b0 := h - 2) (m := 6) i2 (Nat.le_refl 6) (Or.inl (by omega)) (fun b hb e => sk1_n (by rw [htp]; exact e)) (fun s h6 h6' => by omega), fun q hq v5 v6 v7 => ?_⟩
    repeat (refine ev_np [81] rfl rfl rfl ?_)
    rw [show nI (6 * h) + (-6) = nI (6 * (h - 1)) by rw [show 6 * h = 6 * (h - 1 + 1) by omega]; exact m6 (h - 1)]
    refine i3 q (fun v6 v7 => ?_) _ _
    repeat (refine ev_np [315] rfl rfl rfl ?_)
    rw [show h - 2 + 1 = h - 1 by omega] at hq
    exact hq _ _ _ _
  rcases c11 with rfl | rfl | rfl | rfl | rfl | hc5
  · obtain ⟨A1, a1, a2, a3⟩ := push 0 (by decide) (Or.inl rfl) (h3 (by decide))
    refine ⟨A1, a1, a2, fun q hq v5 v6 v7 => ?_⟩
    repeat (refine ev_np [26] rfl rfl rfl ?_)
    exact a3 q hq _ _ _
  · obtain ⟨A1, a1, a2, a3⟩ := push 1 (by decide) (Or.inr rfl) (h3 (by decide))
    refine ⟨A1, a1, a2, fun q hq v5 v6 v7 => ?_⟩
    repeat (refine ev_np [26] rfl rfl rfl ?_)
    exact a3 q hq _ _ _
  · -- not
    have hh1 := h1 (by decide)
    have ix1 : ∀ s, nI (6 * h) - 6 + nI s = nI (6 * (h - 1) + s) := fun s => by rw [m6s hh1, nI_add]
    obtain ⟨A1, ⟨i1, i2⟩, i3⟩ := lp_ex (α := Nat → Nat → Int32) (fun s B => sA [69, 72] A B ∧ ∀ z, B 69 z = if 6 * (h - 1) ≤ z ∧ z < 6 * (h - 1) + s then nI (sk1 n g false 2 h S (h - 1) (z - 6 * (h - 1))) else A 69 z) (fun s B q => ∀ v6 v7 : Value, ev (d + 4) t_Mo_values 178 [.ref 62, .int (nI i), .int (nI (6 * h)), .int (nI k), .int (nI (enc 2)), .int (nI s), v6, v7] [] (hp Y F B) q) 6 (fun s B hs hI => by
      obtain ⟨i1, i2⟩ := hI
      have ls := hS (h - 1) s
      refine ⟨va_up B 69 (upd (B 69) (6 * (h - 1) + s) (nI (2 - S (h - 1) s))), ⟨i1.tr (sA.up (by decide)), fun z => ?_⟩, fun q hq v6 v7 => ?_⟩
      · rw [va_up_s]
        by_cases e : z = 6 * (h - 1) + s
        · rw [e, pk_us, if_pos (by omega), show 6 * (h - 1) + s - 6 * (h - 1) = s by omega]
          unfold sk1
          rw [if_neg (by decide), if_pos rfl, if_pos rfl]
        · rw [pk_un e, i2]
          by_cases e2 : 6 * (h - 1) ≤ z ∧ z < 6 * (h - 1) + s
          · rw [if_pos e2, if_pos (by omega)]
          · rw [if_neg e2, if_neg (by omega)]
      · rw [nI_succ s] at hq
        repeat (refine ev_np [] rfl rfl rfl ?_)
        refine ev_ie (nI_ge (b := 6) hs (by omega)) ?_
        repeat (first | refine ev_np [] rfl rfl rfl ?_ | refine ev_grs [] rfl rfl (by rfl) (by rfl) ?_)
        refine ev_an rfl (by rfl) (ix1 s) (by omega) rfl ?_
        rw [i2, if_neg (by omega), hms (h - 1) s (by omega) hs]
        repeat (refine ev_np [] rfl rfl rfl ?_)
        refine ev_am rfl (by rfl) (ix1 s) (by omega) rfl ?_
        repeat (refine ev_np [178] rfl rfl rfl ?_)
        rw [show (2 : Int32) - nI (S (h - 1) s) = nI (2 - S (h - 1) s) from pk_sub (a := 2) ls]
        exact hq _ _) 6 0 A rfl ⟨sA.rf, fun z => by rw [if_neg (by omega)]⟩
    refine ⟨A1, i1, hms.row (b0 := h - 1) (m := 6) i2 (Nat.le_refl 6) (Or.inl (by show h - 1 + 1 ≤ h; omega)) (fun b hb e => sk1_n e) (fun s h6 h6' => by omega), fun q hq v5 v6 v7 => ?_⟩
    repeat (refine ev_np [178] rfl rfl rfl ?_)
    refine i3 q (fun v6 v7 => ?_) _ _
    repeat (refine ev_np [315] rfl rfl rfl ?_)
    rw [show tpx 2 h + 1 = h from (by show h - 1 + 1 = h; omega)] at hq
    exact hq _ _ _ _
  · obtain ⟨A1, a1, a2, a3⟩ := both 3 (Or.inl rfl) (h2 (Or.inl rfl))
    refine ⟨A1, a1, a2, fun q hq v5 v6 v7 => ?_⟩
    repeat (refine ev_np [75] rfl rfl rfl ?_)
    exact a3 q hq _ _ _
  · obtain ⟨A1, a1, a2, a3⟩ := both 4 (Or.inr rfl) (h2 (Or.inr rfl))
    refine ⟨A1, a1, a2, fun q hq v5 v6 v7 => ?_⟩
    repeat (refine ev_np [75] rfl rfl rfl ?_)
    exact a3 q hq _ _ _
  · -- over arrows
    have hh1 := h1 (by omega)
    have htp : tpx c h = h - 1 := by unfold tpx; rw [if_neg (by omega), if_neg (by omega)]
    have ix1 : ∀ s, nI (6 * h) - 6 + nI s = nI (6 * (h - 1) + s) := fun s => by rw [m6s hh1, nI_add]
    obtain ⟨b, l, hl, hrem, hlt, hval⟩ : ∃ (b : Bool) (l : Nat), l < 3 ∧ enc c % 10 = l ∧ (310 ≤ enc c ↔ b = true) ∧ ∀ s, s < n → sk1 n g false c h S (h - 1) s = (bif b then eV g l (S (h - 1)) s else sV g l (S (h - 1)) s) := by
      by_cases h8 : c < 8
      · refine ⟨false, c - 5, by omega, by rw [enc_ge hc5 hc10, if_pos h8]; omega, by rw [enc_ge hc5 hc10, if_pos h8]; exact ⟨fun z => by omega, fun z => by cases z⟩, fun s hs => ?_⟩
        unfold sk1
        rw [if_neg (by omega), if_neg (by omega), if_neg (by omega), if_neg (by omega), if_pos h8, if_pos rfl, if_pos hs]
        rfl
      · refine ⟨true, c - 8, by omega, by rw [enc_ge hc5 hc10, if_neg h8]; omega, by rw [enc_ge hc5 hc10, if_neg h8]; exact ⟨fun _ => rfl, fun _ => by omega⟩, fun s hs => ?_⟩
        unfold sk1
        rw [if_neg (by omega), if_neg (by omega), if_neg (by omega), if_neg (by omega), if_neg h8, if_pos rfl, if_pos hs]
        rfl
    have henc : 300 ≤ enc c ∧ enc c ≤ 312 := by
      rw [enc_ge hc5 hc10]
      split <;> omega
    obtain ⟨w, hw⟩ : ∃ w, w = enc c := ⟨_, rfl⟩
    rw [← hw] at hrem hlt henc ⊢
    obtain ⟨A1, ⟨i1, i2⟩, i3⟩ := lp_ex (α := Nat → Nat → Int32) (fun s B => sA [72] A B ∧ ∀ z, z < s → B 72 z = nI (sk1 n g false c h S (h - 1) z)) (fun s B q => ∀ v6 v7 : Value, ev (d + 4) t_Mo_values 223 [.ref 62, .int (nI i), .int (nI (6 * h)), .int (nI k), .int (nI w), .int (nI s), v6, v7] [] (hp Y F B) q) n (fun s B hs hI => by
      obtain ⟨i1, i2⟩ := hI
      refine ⟨va_up B 72 (upd (B 72) s (nI (sk1 n g false c h S (h - 1) s))), ⟨i1.tr (sA.up (by decide)), fun z hz => ?_⟩, fun q hq v6 v7 => ?_⟩
      · rw [va_up_s]
        by_cases e : z = s
        · rw [e, pk_us]
        · rw [pk_un e]
          exact i2 z (by omega)
      · rw [nI_succ] at hq
        have hgo := c_Mo_goingTo (Y := Y) (F := F) (A := B) (d + 1) hi (hm.frame (i1 _ (by decide)) (i1 _ (by decide))) hg (s := s) (l := l) (fr := 6 * (h - 1)) (by omega) hl (by omega) (v := S (h - 1)) (hS (h - 1)) (fun t ht => by rw [i1 69 (by decide)]; exact hms (h - 1) t (by omega) (by omega)) b
        rw [← hval s hs] at hgo
        repeat (first | refine ev_np [] rfl rfl rfl ?_ | refine ev_grs [] rfl rfl (by rfl) (by rfl) ?_)
        refine ev_an rfl (by rfl) rfl hi rfl ?_
        rw [i1 64 (by decide), hm.1]
        repeat (refine ev_np [] rfl rfl rfl ?_)
        refine ev_ie (nI_ge hs (by omega)) ?_
        repeat (first | refine ev_np [] rfl rfl rfl ?_ | refine ev_grs [] rfl rfl (by rfl) (by rfl) ?_)
        rw [show nI w - nI w / 10 * 10 = nI l by rw [← hrem]; exact pk_rem (d := 10) (by omega) (by omega) (by omega)]
        cases b with
        | true =>
          refine ev_ie (nI_nlt (b := 310) (hlt.mpr rfl) (by omega)) ?_
          repeat (refine ev_np [] rfl rfl rfl ?_)
          rw [m6s hh1]
          refine ev_vc rfl (by rfl) (by rfl) rfl (hgo) ?_
          refine ev_am rfl (by rfl) rfl (by omega) rfl ?_
          repeat (refine ev_np [223] rfl rfl rfl ?_)
          exact hq _ _
        | false =>
          refine ev_it (nI_lt (b := 310) (by
            refine Classical.byContradiction fun z => ?_
            have := hlt.mp (by omega)
            cases this) (by omega)) ?_
          repeat (refine ev_np [] rfl rfl rfl ?_)
          rw [m6s hh1]
          refine ev_vc rfl (by rfl) (by rfl) rfl (hgo) ?_
          refine ev_am rfl (by rfl) rfl (by omega) rfl ?_
          repeat (refine ev_np [223] rfl rfl rfl ?_)
          exact hq _ _) n 0 A (Nat.zero_add n) ⟨sA.rf, fun z hz => by omega⟩
    obtain ⟨A2, ⟨j1, j2⟩, j3⟩ := lp_ex (α := Nat → Nat → Int32) (fun s B => sA [69] A1 B ∧ ∀ z, B 69 z = if 6 * (h - 1) ≤ z ∧ z < 6 * (h - 1) + s then nI (sk1 n g false c h S (h - 1) (z - 6 * (h - 1))) else A 69 z) (fun s B q => ∀ v6 v7 : Value, ev (d + 4) t_Mo_values 279 [.ref 62, .int (nI i), .int (nI (6 * h)), .int (nI k), .int (nI w), .int (nI s), v6, v7] [] (hp Y F B) q) n (fun s B hs hI => by
      obtain ⟨j1, j2⟩ := hI
      refine ⟨va_up B 69 (upd (B 69) (6 * (h - 1) + s) (nI (sk1 n g false c h S (h - 1) s))), ⟨j1.tr (sA.up (by decide)), fun z => ?_⟩, fun q hq v6 v7 => ?_⟩
      · rw [va_up_s]
        by_cases e : z = 6 * (h - 1) + s
        · rw [e, pk_us, if_pos (by omega), show 6 * (h - 1) + s - 6 * (h - 1) = s by omega]
        · rw [pk_un e, j2]
          by_cases e2 : 6 * (h - 1) ≤ z ∧ z < 6 * (h - 1) + s
          · rw [if_pos e2, if_pos (by omega)]
          · rw [if_neg e2, if_neg (by omega)]
      · rw [nI_succ] at hq
        repeat (first | refine ev_np [] rfl rfl rfl ?_ | refine ev_grs [] rfl rfl (by rfl) (by rfl) ?_)
        refine ev_an rfl (by rfl) rfl hi rfl ?_
        rw [j1 64 (by decide), i1 64 (by decide), hm.1]
        repeat (refine ev_np [] rfl rfl rfl ?_)
        refine ev_ie (nI_ge hs (by omega)) ?_
        repeat (first | refine ev_np [] rfl rfl rfl ?_ | refine ev_grs [] rfl rfl (by rfl) (by rfl) ?_)
        refine ev_an rfl (by rfl) rfl (by omega) rfl ?_
        rw [j1 72 (by decide), i2 s hs]
        refine ev_am rfl (by rfl) (ix1 s) (by omega) rfl ?_
        repeat (refine ev_np [279] rfl rfl rfl ?_)
        exact hq _ _) n 0 A1 (Nat.zero_add n) ⟨sA.rf, fun z => by rw [if_neg (by omega), i1 69 (by decide)]⟩
    refine ⟨A2, (i1.mono (by decide)).tr (j1.mono (by decide)), hms.row (b0 := h - 1) (m := n) j2 hn (Or.inl (by rw [htp]; omega)) (fun b hb e => sk1_n (by rw [htp]; exact e)) (fun s hs hs6 _ => ⟨by omega, ?_⟩), fun q hq v5 v6 v7 => ?_⟩
    · unfold sk1
      rw [if_neg (by omega), if_neg (by omega), if_neg (by omega), if_neg (by omega)]
      split
      · rw [if_pos rfl, if_neg (by omega)]; rfl
      · rw [if_pos rfl, if_neg (by omega)]; rfl
    · repeat (refine ev_np [] rfl rfl rfl ?_)
      refine ev_it (nI_le (a := 2) (by omega) (by omega)) ?_
      repeat (refine ev_np [] rfl rfl rfl ?_)
      refine ev_ie (fun z => by have := (nI_eq (a := w) (b := 38) (by omega) (by omega)).mp z; omega) ?_
      repeat (refine ev_np [] rfl rfl rfl ?_)
      refine ev_it (fun z => by have := (nI_eq (a := w) (b := 124) (by omega) (by omega)).mp z; omega) ?_
      repeat (refine ev_np [] rfl rfl rfl ?_)
      refine ev_it (fun z => by have := (nI_eq (a := w) (b := 33) (by omega) (by omega)).mp z; omega) ?_
      repeat (refine ev_np [223] rfl rfl rfl ?_)
      refine i3 q (fun v6 v7 => ?_) _ _
      repeat (first | refine ev_np [] rfl rfl rfl ?_ | refine ev_grs [] rfl rfl (by rfl) (by rfl) ?_)
      refine ev_an rfl (by rfl) rfl hi rfl ?_
      rw [i1 64 (by decide), hm.1]
      repeat (refine ev_np [] rfl rfl rfl ?_)
      refine ev_it (nI_le (Nat.le_refl _) (by omega)) ?_
      repeat (refine ev_np [279] rfl rfl rfl ?_)
      refine j3 q (fun v6 v7 => ?_) _ _
      repeat (first | refine ev_np [] rfl rfl rfl ?_ | refine ev_grs [] rfl rfl (by rfl) (by rfl) ?_)
      refine ev_an rfl (by rfl) rfl hi rfl ?_
      rw [j1 64 (by decide), i1 64 (by decide), hm.1]
      repeat (refine ev_np [] rfl rfl rfl ?_)
      refine ev_it (nI_le (Nat.le_refl _) (by omega)) ?_
      rw [htp, show h - 1 + 1 = h by omega] at hq
      exact hq _ _ _ _
set_option maxRecDepth 20000 in
theorem c_Mo_values (hi : i < 8) (hm : MP A i n g) (hg : GW n g) {w : Nat × Nat × (Nat → Nat)} (hw : WS w) (hF : F 62 12 = nI w.1) (hA : ∀ k, k < w.1 → A 66 k = nI (enc (w.2.2 k))) : ∃ A', xa_rn xa_ms (d + 5) n_Mo_values [.ref 62, .int (nI i)] (hp Y F A) none (hp Y F A') ∧ sA [69, 72] A A' ∧ ∀ s, s < 6 → A' 69 s = nI (sk n g false w.2.2 w.1 0 s) := by
  obtain ⟨A1, ⟨i1, i2⟩, h3⟩ := lp_ex (α := Nat → Nat → Int32) (fun k B => sA [69, 72] A B ∧ MS B (sk n g false w.2.2 k) (hgt w.2.2 k)) (fun k B q => ∀ v4 v5 v6 v7 : Value, ev (d + 4) t_Mo_values 4 [.ref 62, .int (nI i), .int (nI (6 * hgt w.2.2 k)), .int (nI k), v4, v5, v6, v7] [] (hp Y F B) q) w.1 (fun k B hk hI => by
    obtain ⟨i1, i2⟩ := hI
    have hh := hgt_le hw k (by omega)
    have h300 := hw.1.2
    obtain ⟨q1, q2, q3, q4⟩ := hw.2.2.1 k hk
    obtain ⟨B1, b1, b2, b3⟩ := c_Mo_vstep (Y := Y) (F := F) (A := B) d hi (hm.frame (i1 _ (by decide)) (i1 _ (by decide))) hg (k := k) (sk_le k) i2 hh q1 q2 q3 q4
    rw [← hgt_s q2 q3] at b2 b3
    refine ⟨B1, ⟨i1.tr b1, b2⟩, fun q hq v4 v5 v6 v7 => ?_⟩
    rw [nI_succ k] at hq
    repeat (refine ev_np [] rfl rfl rfl ?_)
    refine ev_gi rfl (by rfl) (by rfl) ?_
    rw [hF]
    repeat (refine ev_np [] rfl rfl rfl ?_)
    refine ev_ie (nI_ge hk (by omega)) ?_
    repeat (first | refine ev_np [] rfl rfl rfl ?_ | refine ev_grs [] rfl rfl (by rfl) (by rfl) ?_)
    refine ev_an rfl (by rfl) rfl (by omega) rfl ?_
    rw [i1 66 (by decide), hA k hk]
    repeat (refine ev_np [20] rfl rfl rfl ?_)
    refine b3 q (fun v4 v5 v6 v7 => ?_) _ _ _
    repeat (refine ev_np [4] rfl rfl rfl ?_)
    exact hq _ _ _ _) w.1 0 A (Nat.zero_add _) ⟨sA.rf, fun b s hb => absurd hb (Nat.not_lt_zero b)⟩
  refine ⟨A1, ?_, i1, fun s hs => ?_⟩
  · refine rn_in m_Mo_values rfl ⟨rfl, rfl⟩ ?_
    show ev _ t_Mo_values 0 [.ref 62, .int (nI i), .float 0, .float 0, .float 0, .float 0, .float 0, .float 0] [] _ _
    repeat (refine ev_np [4] rfl rfl rfl ?_)
    refine h3 _ (fun v4 v5 v6 v7 => ?_) _ _ _ _
    repeat (refine ev_np [] rfl rfl rfl ?_)
    refine ev_gi rfl (by rfl) (by rfl) ?_
    rw [hF]
    repeat (refine ev_np [] rfl rfl rfl ?_)
    refine ev_it (nI_le (Nat.le_refl _) (by have := hw.1.2; omega)) ?_
    exact ev_rv rfl
  · have := i2 0 s (by rw [hw.2.2.2]; decide) hs
    rw [Nat.mul_zero, Nat.zero_add] at this
    exact this
end VN
section OPV
variable {S : SP}
theorem op_value (W : Wf S) (x y : Int32) : OP n_MM_value n_Mo_value [.int x, .int y] S := by
  by_cases h : St S x y
  · obtain ⟨i, s, hi, hs, rfl, rfl⟩ := h
    have wi := W.2.1 i hi
    have hs6 : s < 6 := by have := wi.1.2; omega
    refine op_sc W (nI (sk (S.2.1 i).1 (S.2.1 i).2 true S.2.2.1.2.2 S.2.2.1.1 0 s)) (fun Y F A hC => ?_) (fun Y F A hM => ?_)
    · obtain ⟨F1, A1, b1, b2, b3⟩ := c_Saying_valuesIn (Y := Y) 74 (PLi hi) (hC.2.1 i hi) wi.1.2 W.2.2.1 hC.2.2.1.1 hC.2.2.1.2.2
      refine ⟨F1, A1, [41], [3904], ?_, b2, b3, rfl, rfl⟩
      refine rn_in m_MM_value rfl ⟨rfl, rfl⟩ ?_
      show ev _ t_MM_value 0 [.ref 9, .int (nI i), .int (nI s)] [] _ _
      repeat (refine ev_np [] rfl rfl rfl ?_)
      refine ev_vc rfl (by rfl) (by rfl) rfl (c_MM_noStateF 77 hC W hi hs) ?_
      repeat (first | refine ev_np [] rfl rfl rfl ?_ | refine ev_grs [] rfl rfl (by rfl) (by rfl) ?_)
      refine ev_aa rfl hi ?_
      refine ev_vc rfl (by rfl) (by rfl) rfl (b1) ?_
      repeat (refine ev_np [] rfl rfl rfl ?_)
      refine ev_ca rfl (c_Saying_valueOf 77 _ (fun s => sk_le _ _ s) hs6) ?_
      exact ev_ri rfl rfl
    · have hM0 := hM.thrown 0
      obtain ⟨A1, b1, b2, b3⟩ := c_Mo_values (Y := Y) (F := uF F 62 0 0) 74 (i := i) (by omega) (hM0.2.1 i hi) wi W.2.2.1 hM0.2.2.1.1 hM0.2.2.1.2.2
      refine ⟨A1, [69, 72], ?_, b2, rfl⟩
      refine rn_in m_Mo_value rfl ⟨rfl, rfl⟩ ?_
      show ev _ t_Mo_value 0 [.ref 62, .int (nI i), .int (nI s)] [] _ _
      repeat (refine ev_np [] rfl rfl rfl ?_)
      refine ev_pf rfl (by rfl) ⟨by rfl, by rfl⟩ ?_
      repeat (refine ev_np [] rfl rfl rfl ?_)
      refine ev_vc rfl (by rfl) (by rfl) rfl (c_Mo_isStateT 76 hM0 W hi hs) ?_
      repeat (refine ev_np [] rfl rfl rfl ?_)
      refine ev_vc rfl (by rfl) (by rfl) rfl (b1) ?_
      repeat (first | refine ev_np [] rfl rfl rfl ?_ | refine ev_grs [] rfl rfl (by rfl) (by rfl) ?_)
      refine ev_an rfl (by rfl) rfl (by omega) rfl ?_
      exact ev_ri rfl (by rw [b3 s hs6, sk_agree wi _ _ _ hs])
  · refine op_ro W (-1) (fun Y F A hC => ?_) (fun Y F A hM => ?_)
    · refine rn_in m_MM_value rfl ⟨rfl, rfl⟩ ?_
      show ev _ t_MM_value 0 [.ref 9, .int x, .int y] [] _ _
      repeat (refine ev_np [] rfl rfl rfl ?_)
      refine ev_vc rfl (by rfl) (by rfl) rfl (c_MM_noStateT 77 hC W h) ?_
      repeat (refine ev_np [] rfl rfl rfl ?_)
      exact ev_ri rfl rfl
    · have hM0 := hM.thrown 0
      refine rn_in m_Mo_value rfl ⟨rfl, rfl⟩ ?_
      show ev _ t_Mo_value 0 [.ref 62, .int x, .int y] [] _ _
      repeat (refine ev_np [] rfl rfl rfl ?_)
      refine ev_pf rfl (by rfl) ⟨by rfl, by rfl⟩ ?_
      repeat (refine ev_np [] rfl rfl rfl ?_)
      refine ev_vc rfl (by rfl) (by rfl) rfl (c_Mo_isStateF 76 hM0 W h) ?_
      repeat (refine ev_np [] rfl rfl rfl ?_)
      exact ev_ri rfl rfl
theorem op_how (W : Wf S) (x y : Int32) : OP n_MM_how n_Mo_how [.int x, .int y] S := by
  rcases ix4 x (n := 6) (by decide) with hx | ⟨i, hi, rfl⟩
  · refine op_ro W (-1) (fun Y F A hC => ?_) (fun Y F A hM => ?_)
    · refine rn_in m_MM_how rfl ⟨rfl, rfl⟩ ?_
      show ev _ t_MM_how 0 [.ref 9, .int x, .int y, .float 0, .float 0, .float 0] [] _ _
      repeat (refine ev_np [] rfl rfl rfl ?_)
      refine ev_ca rfl (c_MM_noPlanT 78 hx) ?_
      repeat (refine ev_np [] rfl rfl rfl ?_)
      exact ev_ri rfl rfl
    · refine rn_in m_Mo_how rfl ⟨rfl, rfl⟩ ?_
      show ev _ t_Mo_how 0 [.ref 62, .int x, .int y, .float 0, .float 0] [] _ _
      repeat (refine ev_np [] rfl rfl rfl ?_)
      refine ev_pf rfl (by rfl) ⟨by rfl, by rfl⟩ ?_
      repeat (refine ev_np [] rfl rfl rfl ?_)
      refine ev_ca rfl (c_Mo_isPlanF 77 hx) ?_
      repeat (refine ev_np [] rfl rfl rfl ?_)
      exact ev_ri rfl rfl
  rcases let3 y with hy | ⟨v, hv, rfl⟩
  · refine op_ro W (-1) (fun Y F A hC => ?_) (fun Y F A hM => ?_)
    · refine rn_in m_MM_how rfl ⟨rfl, rfl⟩ ?_
      show ev _ t_MM_how 0 [.ref 9, .int (nI i), .int y, .float 0, .float 0, .float 0] [] _ _
      repeat (refine ev_np [] rfl rfl rfl ?_)
      refine ev_ca rfl (c_MM_noPlanF 78 hi) ?_
      repeat (refine ev_np [] rfl rfl rfl ?_)
      refine ev_if (fun c => ?_) (fun c => ?_)
      · repeat (refine ev_np [] rfl rfl rfl ?_)
        exact ev_ri rfl rfl
      · repeat (refine ev_np [] rfl rfl rfl ?_)
        refine ev_ie (out_le (n := 2) (by decide) hy c) ?_
        repeat (refine ev_np [] rfl rfl rfl ?_)
        exact ev_ri rfl rfl
    · refine rn_in m_Mo_how rfl ⟨rfl, rfl⟩ ?_
      show ev _ t_Mo_how 0 [.ref 62, .int (nI i), .int y, .float 0, .float 0] [] _ _
      repeat (refine ev_np [] rfl rfl rfl ?_)
      refine ev_pf rfl (by rfl) ⟨by rfl, by rfl⟩ ?_
      repeat (refine ev_np [] rfl rfl rfl ?_)
      refine ev_ca rfl (c_Mo_isPlanT 77 hi) ?_
      repeat (refine ev_np [] rfl rfl rfl ?_)
      refine ev_ca rfl (c_Mo_in 78 _ _ _) ?_
      rw [show (2 : Int32) = nI 2 from rfl, in_T (N := 2) (by omega) hy]
      repeat (refine ev_np [] rfl rfl rfl ?_)
      exact ev_ri rfl rfl
  have wi := W.2.1 i hi
  obtain ⟨n, hn⟩ : ∃ n, n = (S.2.1 i).1 := ⟨_, rfl⟩
  have hn6 : n ≤ 6 := by rw [hn]; exact wi.1.2
  obtain ⟨f, hf⟩ : ∃ f : Nat → Nat, f = sk (S.2.1 i).1 (S.2.1 i).2 true S.2.2.1.2.2 S.2.2.1.1 0 := ⟨_, rfl⟩
  have hf2 : ∀ s, f s ≤ 2 := fun s => by rw [hf]; exact sk_le _ _ s
  refine op_sc W (nI (cnt (fun s => decide (f s = v)) n)) (fun Y F A hC => ?_) (fun Y F A hM => ?_)
  · obtain ⟨F1, A1, b1, b2, b3⟩ := c_Saying_valuesIn (Y := Y) 74 (PLi hi) (hC.2.1 i hi) wi.1.2 W.2.2.1 hC.2.2.1.1 hC.2.2.1.2.2
    have hC1 := hC.keep b2 b3 ⟨rfl, rfl⟩
    rw [← hf] at b1
    refine ⟨F1, A1, [41], [3904], ?_, b2, b3, rfl, rfl⟩
    refine rn_in m_MM_how rfl ⟨rfl, rfl⟩ ?_
    show ev _ t_MM_how 0 [.ref 9, .int (nI i), .int (nI v), .float 0, .float 0, .float 0] [] _ _
    repeat (refine ev_np [] rfl rfl rfl ?_)
    refine ev_ca rfl (c_MM_noPlanF 78 hi) ?_
    repeat (refine ev_np [] rfl rfl rfl ?_)
    refine ev_ie (nI_pos (by omega)) ?_
    repeat (refine ev_np [] rfl rfl rfl ?_)
    refine ev_it (nI_le (b := 2) (by omega) (by omega)) ?_
    repeat (first | refine ev_np [] rfl rfl rfl ?_ | refine ev_grs [] rfl rfl (by rfl) (by rfl) ?_)
    refine ev_aa rfl hi ?_
    refine ev_vc rfl (by rfl) (by rfl) rfl (b1) ?_
    repeat (refine ev_np [38] rfl rfl rfl ?_)
    refine lp_to (E := fun k q => ev 79 t_MM_how 38 [.ref 9, .int (nI i), .int (nI v), .int (nI (e12 f)), .int (nI (cnt (fun s => decide (f s = v)) k)), .int (nI k)] [] (hp Y F1 A1) q) n (fun k hk q hq => ?_) _ ?_
    · rw [nI_succ k] at hq
      simp only [cnt] at hq
      have := hf2 k
      repeat (first | refine ev_np [] rfl rfl rfl ?_ | refine ev_grs [] rfl rfl (by rfl) (by rfl) ?_)
      refine ev_aa rfl hi ?_
      refine ev_vc rfl (by rfl) (PLi hi).1 rfl (c_Plan_size 78 (PLi hi)) ?_
      rw [(hC1.2.1 i hi).1, ← hn]
      repeat (refine ev_np [] rfl rfl rfl ?_)
      refine ev_ie (nI_ge hk (by omega)) ?_
      repeat (refine ev_np [] rfl rfl rfl ?_)
      refine ev_ca rfl (c_Saying_valueOf 77 f hf2 (by omega)) ?_
      repeat (refine ev_np [] rfl rfl rfl ?_)
      by_cases e : f k = v
      · rw [decide_eq_true e] at hq
        refine ev_ie (fun z => z (by rw [e])) ?_
        repeat (refine ev_np [38] rfl rfl rfl ?_)
        rw [nI_1]
        exact hq
      · rw [decide_eq_false e] at hq
        refine ev_it (fun z => e ((nI_eq (by omega) (by omega)).mp z)) ?_
        repeat (refine ev_np [38] rfl rfl rfl ?_)
        rw [show ∀ a : Int32, a + 0 = a from Int32.add_zero]
        exact hq
    · repeat (first | refine ev_np [] rfl rfl rfl ?_ | refine ev_grs [] rfl rfl (by rfl) (by rfl) ?_)
      refine ev_aa rfl hi ?_
      refine ev_vc rfl (by rfl) (PLi hi).1 rfl (c_Plan_size 78 (PLi hi)) ?_
      rw [(hC1.2.1 i hi).1, ← hn]
      repeat (refine ev_np [] rfl rfl rfl ?_)
      refine ev_it (nI_le (Nat.le_refl _) (by omega)) ?_
      repeat (refine ev_np [] rfl rfl rfl ?_)
      exact ev_ri rfl rfl
  · have hM0 := hM.thrown 0
    obtain ⟨A1, b1, b2, b3⟩ := c_Mo_values (Y := Y) (F := uF F 62 0 0) 74 (i := i) (by omega) (hM0.2.1 i hi) wi W.2.2.1 hM0.2.2.1.1 hM0.2.2.1.2.2
    have hfm : ∀ s, s < n → A1 69 s = nI (f s) := fun s hs => by rw [b3 s (by omega), hf, sk_agree wi _ _ _ (by rw [← hn]; exact hs)]
    refine ⟨A1, [69, 72], ?_, b2, rfl⟩
    refine rn_in m_Mo_how rfl ⟨rfl, rfl⟩ ?_
    show ev _ t_Mo_how 0 [.ref 62, .int (nI i), .int (nI v), .float 0, .float 0] [] _ _
    repeat (refine ev_np [] rfl rfl rfl ?_)
    refine ev_pf rfl (by rfl) ⟨by rfl, by rfl⟩ ?_
    repeat (refine ev_np [] rfl rfl rfl ?_)
    refine ev_ca rfl (c_Mo_isPlanT 77 hi) ?_
    repeat (refine ev_np [] rfl rfl rfl ?_)
    refine ev_ca rfl (c_Mo_in 78 _ _ _) ?_
    rw [show (2 : Int32) = nI 2 from rfl, in_F (N := 2) (by omega) (by omega)]
    repeat (refine ev_np [] rfl rfl rfl ?_)
    refine ev_vc rfl (by rfl) (by rfl) rfl (b1) ?_
    repeat (refine ev_np [33] rfl rfl rfl ?_)
    refine lp_to (E := fun k q => ev 79 t_Mo_how 33 [.ref 62, .int (nI i), .int (nI v), .int (nI (cnt (fun s => decide (f s = v)) k)), .int (nI k)] [] (hp Y (uF F 62 0 0) A1) q) n (fun k hk q hq => ?_) _ ?_
    · rw [nI_succ k] at hq
      simp only [cnt] at hq
      have := hf2 k
      repeat (first | refine ev_np [] rfl rfl rfl ?_ | refine ev_grs [] rfl rfl (by rfl) (by rfl) ?_)
      refine ev_an rfl (by rfl) rfl (by omega) rfl ?_
      rw [b2 64 (by decide), (hM0.2.1 i hi).1, ← hn]
      repeat (refine ev_np [] rfl rfl rfl ?_)
      refine ev_ie (nI_ge hk (by omega)) ?_
      repeat (first | refine ev_np [] rfl rfl rfl ?_ | refine ev_grs [] rfl rfl (by rfl) (by rfl) ?_)
      refine ev_an rfl (by rfl) rfl (by omega) rfl ?_
      rw [hfm k hk]
      repeat (refine ev_np [] rfl rfl rfl ?_)
      by_cases e : f k = v
      · rw [decide_eq_true e] at hq
        refine ev_ie (fun z => z (by rw [e])) ?_
        repeat (refine ev_np [33] rfl rfl rfl ?_)
        rw [nI_1]
        exact hq
      · rw [decide_eq_false e] at hq
        refine ev_it (fun z => e ((nI_eq (by omega) (by omega)).mp z)) ?_
        repeat (refine ev_np [33] rfl rfl rfl ?_)
        rw [show ∀ a : Int32, a + 0 = a from Int32.add_zero]
        exact hq
    · repeat (first | refine ev_np [] rfl rfl rfl ?_ | refine ev_grs [] rfl rfl (by rfl) (by rfl) ?_)
      refine ev_an rfl (by rfl) rfl (by omega) rfl ?_
      rw [b2 64 (by decide), (hM0.2.1 i hi).1, ← hn]
      repeat (refine ev_np [] rfl rfl rfl ?_)
      refine ev_it (nI_le (Nat.le_refl _) (by omega)) ?_
      repeat (refine ev_np [] rfl rfl rfl ?_)
      exact ev_ri rfl rfl
end OPV
