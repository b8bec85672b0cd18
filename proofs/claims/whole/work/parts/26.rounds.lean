/-! ===== class Rounds (at 45; its pairs at 46, went at 49) ===== -/
theorem dv {k e : Nat} (hk : k < 1000) (h0 : 0 < e) (he : e < 1000) : nI k / nI e = nI (k / e) := pk_div (by omega) h0 (by omega)
theorem rm {k e : Nat} (hk : k < 1000) (h0 : 0 < e) (he : e < 1000) : nI k - nI k / nI e * nI e = nI (k % e) := pk_rem (by omega) h0 (by omega)
theorem dv6 {k : Nat} (hk : k < 1000) : nI k / 6 = nI (k / 6) := dv (e := 6) hk (by decide) (by decide)
theorem rm6 {k : Nat} (hk : k < 1000) : nI k - nI k / 6 * 6 = nI (k % 6) := rm (e := 6) hk (by decide) (by decide)
/-- the cells of plans aren't among these -/
def plF (LF LA : List Nat) : Bool := [11, 14, 17, 20, 23, 26, 29, 59].all fun p => !(LF.contains (p * 100)) && !(LA.contains (p + 1)) && !(LA.contains (p + 2))
theorem CP.keep {F A F' A' : Nat → Nat → Int32} {p n : Nat} {g : Nat → Nat → Nat → Nat} {LF LA : List Nat} (h : CP F A p n g) (hp0 : PL p) (hF : sF LF F F') (hA : sA LA A A') (hk : plF LF LA = true) : CP F' A' p n g := by
  have h1 : (!(LF.contains (p * 100)) && !(LA.contains (p + 1)) && !(LA.contains (p + 2))) = true := List.all_eq_true.mp hk p (by
    rcases PL_in hp0 with rfl | rfl | rfl | rfl | rfl | rfl | rfl | rfl <;> decide)
  simp only [Bool.and_eq_true, Bool.not_eq_true', List.contains_eq_mem, decide_eq_false_iff_not] at h1
  exact h.frame (hF p 0 h1.1.1) (hA _ h1.1.2) (hA _ h1.2)
section ROUNDS
variable {Y : Nat × (Nat → Int32)} {F A : Nat → Nat → Int32} {p q n1 n2 : Nat} {g1 g2 : Nat → Nat → Nat → Nat} (d : Nat)
theorem c_Rounds_sideOf (hp0 : PL p) (hq0 : PL q) (hcp : CP F A p n1 g1) (hcq : CP F A q n2 g2) {r : Nat → Nat → Bool} (hc : CR A 46 r) {s t l : Nat} (hs : s < 6) (ht : t < 6) (hl : l < 3) : xa_rn xa_ms (d + 3) n_Rounds_sideOf [.ref 45, .ref p, .ref q, .int (nI s), .int (nI t), .int (nI l)] (hp Y F A) (some (.int (nI (sd g1 g2 r s t l)))) (hp Y F A) := by
  refine rn_in m_Rounds_sideOf rfl ⟨rfl, rfl⟩ ?_
  show ev _ t_Rounds_sideOf 0 [.ref 45, .ref p, .ref q, .int (nI s), .int (nI t), .int (nI l)] [] _ _
  repeat (refine ev_np [] rfl rfl rfl ?_)
  refine ev_gr rfl (by rfl) (by rfl) ?_
  repeat (refine ev_np [] rfl rfl rfl ?_)
  refine ev_vc rfl rfl hp0.1 rfl (c_Plan_anyFrom d hp0 hs hl) ?_
  repeat (refine ev_np [] rfl rfl rfl ?_)
  refine ev_vc rfl rfl hq0.1 rfl (c_Plan_anyFrom d hq0 ht hl) ?_
  rw [(hcp.2 s l hs hl).1, (hcq.2 t l ht hl).1]
  refine ev_vc rfl rfl PR46.2.1 rfl (c_Pairs_leftLacks d PR46 hc _ _) ?_
  unfold sd
  cases lack r (fun x => decide (1 ≤ g1 s l x)) (fun y => decide (1 ≤ g2 t l y)) 6 with
  | true =>
    repeat (refine ev_np [] rfl rfl rfl ?_)
    exact ev_ri rfl rfl
  | false =>
    repeat (refine ev_np [] rfl rfl rfl ?_)
    refine ev_gr rfl (by rfl) (by rfl) ?_
    repeat (refine ev_np [] rfl rfl rfl ?_)
    refine ev_vc rfl rfl hq0.1 rfl (c_Plan_mustFrom d hq0 ht hl) ?_
    repeat (refine ev_np [] rfl rfl rfl ?_)
    refine ev_vc rfl rfl hp0.1 rfl (c_Plan_mustFrom d hp0 hs hl) ?_
    rw [(hcp.2 s l hs hl).2, (hcq.2 t l ht hl).2]
    refine ev_vc rfl rfl PR46.2.1 rfl (c_Pairs_rightLacks d PR46 hc _ _) ?_
    cases lack (fun a b => r b a) (fun y => decide (2 ≤ g2 t l y)) (fun x => decide (2 ≤ g1 s l x)) 6 with
    | true =>
      repeat (refine ev_np [] rfl rfl rfl ?_)
      exact ev_ri rfl rfl
    | false =>
      repeat (refine ev_np [] rfl rfl rfl ?_)
      exact ev_ri rfl rfl
theorem hg_iff {f : Nat → Nat} : hg f = true ↔ ∃ l, l < 3 ∧ f l ≠ 0 := by
  unfold hg
  simp only [Bool.or_eq_true, decide_eq_true_eq]
  constructor
  · rintro ((h | h) | h)
    · exact ⟨0, by omega, h⟩
    · exact ⟨1, by omega, h⟩
    · exact ⟨2, by omega, h⟩
  · rintro ⟨l, hl, h⟩
    rcases (show l = 0 ∨ l = 1 ∨ l = 2 by omega) with rfl | rfl | rfl
    · exact Or.inl (Or.inl h)
    · exact Or.inl (Or.inr h)
    · exact Or.inr h
theorem fl_eq {f : Nat → Nat} {l : Nat} (hl : l < 3) (h : f l ≠ 0) (h0 : ∀ j, j < l → f j = 0) : fl f = l := by
  unfold fl
  rcases (show l = 0 ∨ l = 1 ∨ l = 2 by omega) with rfl | rfl | rfl
  · rw [if_pos h]
  · rw [if_neg (by simp [h0 0 (by omega)]), if_pos h]
  · rw [if_neg (by simp [h0 0 (by omega)]), if_neg (by simp [h0 1 (by omega)])]
/-- what hasToGo leaves of the letter and the side -/
def gF (F : Nat → Nat → Int32) (s t : Nat) (f : Nat → Nat) : Nat → Nat → Int32 := if s = 0 ∧ t = 0 ∧ hg f = true then uF (uF F 45 2 (nI (fl f))) 45 3 (nI (f (fl f))) else F
theorem c_Rounds_hasToGo (hp0 : PL p) (hq0 : PL q) (hcp : CP F A p n1 g1) (hcq : CP F A q n2 g2) {r : Nat → Nat → Bool} (hc : CR A 46 r) {s t : Nat} (hs : s < 6) (ht : t < 6) : xa_rn xa_ms (d + 4) n_Rounds_hasToGo [.ref 45, .ref p, .ref q, .int (nI s), .int (nI t)] (hp Y F A) (some (.int (z01 (hg (sd g1 g2 r s t))))) (hp Y (gF F s t (sd g1 g2 r s t)) A) := by
  refine rn_in m_Rounds_hasToGo rfl ⟨rfl, rfl⟩ ?_
  show ev _ t_Rounds_hasToGo 0 [.ref 45, .ref p, .ref q, .int (nI s), .int (nI t), .float 0, .float 0] [] _ _
  repeat (refine ev_np [3] rfl rfl rfl ?_)
  have key : ∀ m l (v6 : Value), l + m = 3 → (∀ j, j < l → sd g1 g2 r s t j = 0) → ev (d + 3) t_Rounds_hasToGo 3 [.ref 45, .ref p, .ref q, .int (nI s), .int (nI t), .int (nI l), v6] [] (hp Y F A) (some (.int (z01 (hg (sd g1 g2 r s t)))), hp Y (gF F s t (sd g1 g2 r s t)) A) := by
    intro m
    induction m with
    | zero =>
      intro l v6 hl h0
      have hl3 : l = 3 := by omega
      subst hl3
      have hno : hg (sd g1 g2 r s t) = false := by
        cases hz : hg (sd g1 g2 r s t) with
        | false => rfl
        | true =>
          obtain ⟨l, hl, h⟩ := hg_iff.mp hz
          exact absurd (h0 l hl) h
      have hgF : gF F s t (sd g1 g2 r s t) = F := by unfold gF; rw [hno]; simp
      rw [hno, hgF]
      repeat (refine ev_np [] rfl rfl rfl ?_)
      exact ev_rz rfl rfl (Or.inl rfl)
    | succ m ih =>
      intro l v6 hl h0
      have hl3 : l < 3 := by omega
      repeat (refine ev_np [] rfl rfl rfl ?_)
      refine ev_ie (nI_ge (b := 3) hl3 (by omega)) ?_
      repeat (refine ev_np [] rfl rfl rfl ?_)
      refine ev_vc rfl (by rfl) (by rfl) rfl (c_Rounds_sideOf d hp0 hq0 hcp hcq hc hs ht hl3) ?_
      repeat (refine ev_np [] rfl rfl rfl ?_)
      have hle := sd_le g1 g2 r s t l
      by_cases hz : sd g1 g2 r s t l = 0
      · rw [hz]
        repeat (refine ev_np [3] rfl rfl rfl ?_)
        have h9 := ih (l + 1) (.int (nI 0)) (by omega) (fun j hj => by
          by_cases e : j = l
          · rw [e]; exact hz
          · exact h0 j (by omega))
        rw [nI_succ] at h9
        exact h9
      · have hyes : hg (sd g1 g2 r s t) = true := hg_iff.mpr ⟨l, hl3, hz⟩
        have hfl : fl (sd g1 g2 r s t) = l := fl_eq hl3 hz h0
        rw [hyes]
        refine ev_ie (nI_ne0 (by omega) (by omega)) ?_
        repeat (refine ev_np [] rfl rfl rfl ?_)
        by_cases hs0 : s = 0
        · subst hs0
          refine ev_ie (fun z => z rfl) ?_
          repeat (refine ev_np [] rfl rfl rfl ?_)
          by_cases ht0 : t = 0
          · subst ht0
            have hgF : gF F 0 0 (sd g1 g2 r 0 0) = uF (uF F 45 2 (nI l)) 45 3 (nI (sd g1 g2 r 0 0 l)) := by unfold gF; rw [hyes, hfl]; simp
            rw [hgF]
            refine ev_ie (fun z => z rfl) ?_
            repeat (refine ev_np [] rfl rfl rfl ?_)
            refine ev_pf rfl (by rfl) ⟨by rfl, by rfl⟩ ?_
            repeat (refine ev_np [] rfl rfl rfl ?_)
            refine ev_pf rfl (by rfl) ⟨by rfl, by rfl⟩ ?_
            repeat (refine ev_np [] rfl rfl rfl ?_)
            exact ev_rz rfl rfl (Or.inr rfl)
          · have hgF : gF F 0 t (sd g1 g2 r 0 t) = F := by unfold gF; simp [ht0]
            rw [hgF]
            refine ev_it (nI_ne0 (by omega) (by omega)) ?_
            repeat (refine ev_np [] rfl rfl rfl ?_)
            exact ev_rz rfl rfl (Or.inr rfl)
        · have hgF : gF F s t (sd g1 g2 r s t) = F := by unfold gF; simp [hs0]
          rw [hgF]
          refine ev_it (nI_ne0 (by omega) (by omega)) ?_
          repeat (refine ev_np [] rfl rfl rfl ?_)
          exact ev_rz rfl rfl (Or.inr rfl)
  exact key 3 0 (.float 0) rfl (fun j hj => by omega)
theorem c_Rounds_dropThoseOf {R : Nat} (hR : R < 1000) {w : Nat → Nat} (hw : ∀ k, k < 36 → A 49 k = nI (w k) ∧ w k < 1000) {r : Nat → Nat → Bool} (hc : CR A 46 r) : ∃ A', xa_rn xa_ms (d + 3) n_Rounds_dropThoseOf [.ref 45, .int (nI R)] (hp Y F A) none (hp Y F A') ∧ sA [47, 48] A A' ∧ CR A' 46 (fun s t => r s t && !(decide (w (6 * s + t) = R))) := by
  obtain ⟨A', ⟨h1, h2⟩, h3⟩ := lp_ex (α := Nat → Nat → Int32) (fun k B => sA [47, 48] A B ∧ CR B 46 (fun s t => r s t && !(decide (6 * s + t < k) && decide (w (6 * s + t) = R)))) (fun k B q => ev (d + 2) t_Rounds_dropThoseOf 2 [.ref 45, .int (nI R), .int (nI k)] [] (hp Y F B) q) 36 (fun k B hk hI => by
    obtain ⟨hs, hr⟩ := hI
    have hw49 : B 49 = A 49 := hs 49 (by decide)
    have hst : ∀ {x y : Bool}, (x && !(y && y)) = (x && !y) := by intro x y; cases x <;> cases y <;> rfl
    by_cases e : w k = R
    · obtain ⟨B', h1, h2, h3⟩ := c_Pairs_drop (Y := Y) (F := F) (A := B) (d := d) PR46 hr (s := k / 6) (t := k % 6) (by omega) (by omega)
      refine ⟨B', ⟨hs.tr h2, h3.congr (fun s t hs ht => ?_)⟩, fun q hq => ?_⟩
      · by_cases e2 : 6 * s + t = k
        · subst e2
          rw [show (6 * s + t) / 6 = s by omega, show (6 * s + t) % 6 = t by omega]
          simp [e]
        · have e3 : ¬ (s = k / 6 ∧ t = k % 6) := fun z => e2 (by omega)
          have e4 : (s == k / 6 && t == k % 6) = false := by
            cases hz : (s == k / 6 && t == k % 6) with
            | false => rfl
            | true => simp at hz; exact absurd hz e3
          rw [e4]
          have e5 : decide (6 * s + t < k + 1) = decide (6 * s + t < k) := decide_eq_decide.mpr (by omega)
          rw [e5]
          simp
      · repeat (refine ev_np [] rfl rfl rfl ?_)
        refine ev_gr rfl (by rfl) (by rfl) ?_
        repeat (refine ev_np [] rfl rfl rfl ?_)
        refine ev_ln rfl (by rfl) ?_
        repeat (refine ev_np [] rfl rfl rfl ?_)
        refine ev_ie (nI_ge (b := 36) hk (by omega)) ?_
        repeat (refine ev_np [] rfl rfl rfl ?_)
        refine ev_gr rfl (by rfl) (by rfl) ?_
        repeat (refine ev_np [] rfl rfl rfl ?_)
        refine ev_an rfl (by rfl) rfl hk rfl ?_
        rw [hw49, (hw k hk).1, e]
        repeat (refine ev_np [] rfl rfl rfl ?_)
        refine ev_ie (fun z => z rfl) ?_
        repeat (refine ev_np [] rfl rfl rfl ?_)
        refine ev_gr rfl (by rfl) (by rfl) ?_
        repeat (refine ev_np [] rfl rfl rfl ?_)
        rw [rm6 (by omega), dv6 (by omega)]
        refine ev_vc rfl (by rfl) (by rfl) rfl (h1) ?_
        repeat (refine ev_np [2] rfl rfl rfl ?_)
        rw [nI_succ] at hq
        exact hq
    · refine ⟨B, ⟨hs, hr.congr (fun s t hs ht => ?_)⟩, fun q hq => ?_⟩
      · by_cases e2 : 6 * s + t = k
        · have e6 : ¬ w (6 * s + t) = R := by rw [e2]; exact e
          simp [e6]
        · have e5 : decide (6 * s + t < k + 1) = decide (6 * s + t < k) := decide_eq_decide.mpr (by omega)
          rw [e5]
      · repeat (refine ev_np [] rfl rfl rfl ?_)
        refine ev_gr rfl (by rfl) (by rfl) ?_
        repeat (refine ev_np [] rfl rfl rfl ?_)
        refine ev_ln rfl (by rfl) ?_
        repeat (refine ev_np [] rfl rfl rfl ?_)
        refine ev_ie (nI_ge (b := 36) hk (by omega)) ?_
        repeat (refine ev_np [] rfl rfl rfl ?_)
        refine ev_gr rfl (by rfl) (by rfl) ?_
        repeat (refine ev_np [] rfl rfl rfl ?_)
        refine ev_an rfl (by rfl) rfl hk rfl ?_
        rw [hw49, (hw k hk).1]
        repeat (refine ev_np [] rfl rfl rfl ?_)
        refine ev_it (fun z => e ((nI_eq (by have := (hw k hk).2; omega) (by omega)).mp z)) ?_
        repeat (refine ev_np [2] rfl rfl rfl ?_)
        rw [nI_succ] at hq
        exact hq) 36 0 A rfl ⟨sA.rf, hc.congr (fun s t _ _ => by simp)⟩
  refine ⟨A', ?_, h1, h2.congr (fun s t hs ht => ?_)⟩
  · refine rn_in m_Rounds_dropThoseOf rfl ⟨rfl, rfl⟩ ?_
    show ev _ t_Rounds_dropThoseOf 0 [.ref 45, .int (nI R), .float 0] [] _ _
    repeat (refine ev_np [2] rfl rfl rfl ?_)
    refine h3 _ ?_
    repeat (refine ev_np [] rfl rfl rfl ?_)
    refine ev_gr rfl (by rfl) (by rfl) ?_
    repeat (refine ev_np [] rfl rfl rfl ?_)
    refine ev_ln rfl (by rfl) ?_
    repeat (refine ev_np [] rfl rfl rfl ?_)
    exact ev_rv rfl
  · have : 6 * s + t < 36 := by omega
    simp [this]
end ROUNDS
