/-! ===== walks: class Walker (at 58, its ground at 59), the model's ===== -/
theorem dlt {l k : Nat} (h : ¬ l = k) : decide (l < k + 1) = decide (l < k) := decide_eq_decide.mpr (by omega)
def nx (g : Nat → Nat → Nat → Nat) (u : Nat → Bool) (l : Nat) : Nat → Bool := fun t => (List.range 6).any (fun s => u s && decide (1 ≤ g s l t))
def sure (g : Nat → Nat → Nat → Nat) (u : Nat → Bool) (l : Nat) : Bool := (List.range 6).all (fun s => !(u s) || (List.range 6).any (fun t => decide (2 ≤ g s l t)))
set_option maxRecDepth 100000 in
theorem sh_tab : (List.range 64).all (fun m => (List.range 6).all fun t => decide ((nI m >>> (nI t &&& 31)) &&& 1 = z01 (m.testBit t))) = true := by decide +kernel
theorem sh_bm (f : Nat → Bool) {t : Nat} (ht : t < 6) : (nI (bm f) >>> (nI t &&& 31)) &&& 1 = z01 (f t) := by
  have := tab2 sh_tab (bm_lt f) ht
  rw [this, bm_bit _ ht]
def bcf (x : Int32) : Int32 :=
  let a := x - ((x.toUInt32 >>> ((1 : Int32).toUInt32 &&& Int32.toUInt32 31)).toInt32 &&& 1431655765)
  let b := (a &&& 858993459) + ((a.toUInt32 >>> ((2 : Int32).toUInt32 &&& Int32.toUInt32 31)).toInt32 &&& 858993459)
  let c := (b + (b.toUInt32 >>> ((4 : Int32).toUInt32 &&& Int32.toUInt32 31)).toInt32) &&& 252645135
  let e := c + (c.toUInt32 >>> ((8 : Int32).toUInt32 &&& Int32.toUInt32 31)).toInt32
  let f := e + (e.toUInt32 >>> ((16 : Int32).toUInt32 &&& Int32.toUInt32 31)).toInt32
  f &&& 63
set_option maxRecDepth 100000 in
theorem bc_tab : (List.range 64).all (fun m => (List.range 1).all fun _ => decide (bcf (nI m) = nI (cnt (fun t => m.testBit t) 6))) = true := by decide +kernel
theorem bc_bm (f : Nat → Bool) : bcf (nI (bm f)) = nI (cnt f 6) := by
  have := tab2 (P := fun m _ => bcf (nI m) = nI (cnt (fun t => m.testBit t) 6)) bc_tab (bm_lt f) (show 0 < 1 by decide)
  rw [this, cnt_congr 6 (fun t ht => bm_bit f ht)]
theorem c_Int_bitCount (d : Nat) (f : Nat → Bool) {h : xa_H} : xa_rn xa_ms (d + 1) n_Int_bitCount [.int (nI (bm f))] h (some (.int (nI (cnt f 6)))) h := by
  refine rn_in m_Int_bitCount rfl ⟨rfl, rfl⟩ ?_
  show ev _ t_Int_bitCount 0 [.int (nI (bm f))] [] _ _
  repeat (refine ev_np [] rfl rfl rfl ?_)
  exact ev_ri rfl (bc_bm f)
section WALK
variable {Y : Nat × (Nat → Int32)} {F A : Nat → Nat → Int32} {n : Nat} {g : Nat → Nat → Nat → Nat} {u : Nat → Bool} (d : Nat)
theorem PL59 : PL 59 := PL_mk (by simp)
theorem c_Walker_nextBy (hu : F 58 1 = nI (bm u)) (hc : CP F A 59 n g) {l : Nat} (hl : l < 3) : xa_rn xa_ms (d + 3) n_Walker_nextBy [.ref 58, .int (nI l)] (hp Y F A) (some (.int (nI (bm (nx g u l))))) (hp Y F A) := by
  refine rn_in m_Walker_nextBy rfl ⟨rfl, rfl⟩ ?_
  show ev _ t_Walker_nextBy 0 [.ref 58, .int (nI l), .float 0, .float 0] [] _ _
  repeat (refine ev_np [4] rfl rfl rfl ?_)
  refine lp_to (E := fun k q => ev (d + 2) t_Walker_nextBy 4 [.ref 58, .int (nI l), .int (nI (bm (fun t => (List.range k).any (fun s => u s && decide (1 ≤ g s l t))))), .int (nI k)] [] (hp Y F A) q) 6 (fun k hk q hq => ?_) _ ?_
  · rw [nI_succ] at hq
    simp only [anyB] at hq
    repeat (refine ev_np [] rfl rfl rfl ?_)
    refine ev_ie (nI_ge (b := 6) hk (by omega)) ?_
    repeat (refine ev_np [] rfl rfl rfl ?_)
    refine ev_gi rfl (by rfl) (by rfl) ?_
    repeat (refine ev_np [] rfl rfl rfl ?_)
    refine ev_ca rfl (c_MM_inSet (d + 1)) ?_
    rw [hu, bi_bm _ hk]
    cases huk : u k with
    | true =>
      repeat (refine ev_np [] rfl rfl rfl ?_)
      refine ev_gr rfl (by rfl) (by rfl) ?_
      repeat (refine ev_np [] rfl rfl rfl ?_)
      refine ev_vc rfl (by rfl) PL59.1 rfl (c_Plan_anyFrom d PL59 hk hl) ?_
      rw [(hc.2 k l hk hl).1]
      repeat (refine ev_np [4] rfl rfl rfl ?_)
      rw [or_bm]
      simp only [huk, Bool.true_and] at hq
      exact hq
    | false =>
      repeat (refine ev_np [4] rfl rfl rfl ?_)
      simp only [huk, Bool.false_and, Bool.or_false] at hq
      exact hq
  · repeat (refine ev_np [] rfl rfl rfl ?_)
    exact ev_ri rfl rfl
theorem c_Walker_isInAll (hu : F 58 1 = nI (bm u)) (hc : CP F A 59 n g) {l : Nat} (hl : l < 3) : xa_rn xa_ms (d + 3) n_Walker_isInAll [.ref 58, .int (nI l)] (hp Y F A) (some (.int (z01 (sure g u l)))) (hp Y F A) := by
  refine rn_in m_Walker_isInAll rfl ⟨rfl, rfl⟩ ?_
  show ev _ t_Walker_isInAll 0 [.ref 58, .int (nI l), .float 0] [] _ _
  repeat (refine ev_np [2] rfl rfl rfl ?_)
  have key : ∀ m k, k + m = 6 → (∀ s, s < k → (!(u s) || (List.range 6).any (fun t => decide (2 ≤ g s l t))) = true) → ev (d + 2) t_Walker_isInAll 2 [.ref 58, .int (nI l), .int (nI k)] [] (hp Y F A) (some (.int (z01 (sure g u l))), hp Y F A) := by
    intro m
    induction m with
    | zero =>
      intro k hk hall
      have hk6 : k = 6 := by omega
      subst hk6
      have hs : sure g u l = true := List.all_eq_true.mpr (fun s hs => hall s (List.mem_range.mp hs))
      rw [hs]
      repeat (refine ev_np [] rfl rfl rfl ?_)
      exact ev_rz rfl rfl (Or.inr rfl)
    | succ m ih =>
      intro k hk hall
      have hk6 : k < 6 := by omega
      have next : (!(u k) || (List.range 6).any (fun t => decide (2 ≤ g k l t))) = true → ev (d + 2) t_Walker_isInAll 33 [.ref 58, .int (nI l), .int (nI k)] [] (hp Y F A) (some (.int (z01 (sure g u l))), hp Y F A) := by
        intro hk2
        repeat (refine ev_np [2] rfl rfl rfl ?_)
        have h9 := ih (k + 1) (by omega) (fun s hs => by
          by_cases e : s = k
          · rw [e]; exact hk2
          · exact hall s (by omega))
        rw [nI_succ] at h9
        exact h9
      repeat (refine ev_np [] rfl rfl rfl ?_)
      refine ev_ie (nI_ge (b := 6) hk6 (by omega)) ?_
      repeat (refine ev_np [] rfl rfl rfl ?_)
      refine ev_gi rfl (by rfl) (by rfl) ?_
      repeat (refine ev_np [] rfl rfl rfl ?_)
      refine ev_ca rfl (c_MM_inSet (d + 1)) ?_
      rw [hu, bi_bm _ hk6]
      cases huk : u k with
      | false =>
        repeat (refine ev_np [33] rfl rfl rfl ?_)
        exact next (by rw [huk]; rfl)
      | true =>
        repeat (refine ev_np [] rfl rfl rfl ?_)
        refine ev_gr rfl (by rfl) (by rfl) ?_
        repeat (refine ev_np [] rfl rfl rfl ?_)
        refine ev_vc rfl (by rfl) PL59.1 rfl (c_Plan_mustFrom d PL59 hk6 hl) ?_
        rw [(hc.2 k l hk6 hl).2]
        repeat (refine ev_np [] rfl rfl rfl ?_)
        refine ev_if (fun c => ?_) (fun c => ?_)
        · refine next ?_
          rw [huk]
          show (List.range 6).any (fun t => decide (2 ≤ g k l t)) = true
          cases hz : (List.range 6).any (fun t => decide (2 ≤ g k l t)) with
          | true => rfl
          | false => exact absurd (by rw [(any6 _).mpr hz]; rfl) c
        · have hz : (List.range 6).any (fun t => decide (2 ≤ g k l t)) = false := (any6 _).mp (bm_eq0.mpr (nI_bm0.mp (Classical.not_not.mp c)))
          have hs : sure g u l = false := by
            cases hs : sure g u l with
            | false => rfl
            | true =>
              have := List.all_eq_true.mp hs k (List.mem_range.mpr hk6)
              rw [huk, hz] at this
              cases this
          rw [hs]
          repeat (refine ev_np [] rfl rfl rfl ?_)
          exact ev_rz rfl rfl (Or.inl rfl)
  exact key 6 0 rfl (fun s hs => by omega)
/-- letters, as bits -/
theorem c_Walker_mayCome (hu : F 58 1 = nI (bm u)) (hc : CP F A 59 n g) : xa_rn xa_ms (d + 4) n_Walker_mayCome [.ref 58] (hp Y F A) (some (.int (nI (bm (fun l => decide (l < 3) && decide (bm (nx g u l) ≠ 0)))))) (hp Y F A) := by
  refine rn_in m_Walker_mayCome rfl ⟨rfl, rfl⟩ ?_
  show ev _ t_Walker_mayCome 0 [.ref 58, .float 0, .float 0] [] _ _
  repeat (refine ev_np [4] rfl rfl rfl ?_)
  refine lp_to (E := fun k q => ev (d + 3) t_Walker_mayCome 4 [.ref 58, .int (nI (bm (fun l => decide (l < k) && decide (bm (nx g u l) ≠ 0)))), .int (nI k)] [] (hp Y F A) q) 3 (fun k hk q hq => ?_) _ ?_
  · rw [nI_succ] at hq
    repeat (refine ev_np [] rfl rfl rfl ?_)
    refine ev_ie (nI_ge (b := 3) hk (by omega)) ?_
    repeat (refine ev_np [] rfl rfl rfl ?_)
    refine ev_vc rfl (by rfl) (by rfl) rfl (c_Walker_nextBy d hu hc hk) ?_
    repeat (refine ev_np [] rfl rfl rfl ?_)
    have hlt := bm_lt (nx g u k)
    by_cases e : bm (nx g u k) = 0
    · rw [e]
      repeat (refine ev_np [4] rfl rfl rfl ?_)
      rw [bm_congr (g := fun l => decide (l < k) && decide (bm (nx g u l) ≠ 0)) (fun l _ => by
        by_cases h1 : l = k
        · subst h1; simp [e]
        · rw [dlt h1])] at hq
      exact hq
    · refine ev_ie (nI_ne0 (by omega) (by omega)) ?_
      repeat (refine ev_np [4] rfl rfl rfl ?_)
      rw [orb_bm _ (by omega)]
      rw [bm_congr (g := fun l => (decide (l < k) && decide (bm (nx g u l) ≠ 0)) || l == k) (fun l _ => by
        by_cases h1 : l = k
        · subst h1; simp [e]
        · rw [dlt h1]
          simp [h1])] at hq
      exact hq
  · repeat (refine ev_np [] rfl rfl rfl ?_)
    exact ev_ri rfl rfl
theorem c_Walker_mustBeThere (hu : F 58 1 = nI (bm u)) (hc : CP F A 59 n g) : xa_rn xa_ms (d + 4) n_Walker_mustBeThere [.ref 58] (hp Y F A) (some (.int (nI (bm (fun l => decide (l < 3) && sure g u l))))) (hp Y F A) := by
  refine rn_in m_Walker_mustBeThere rfl ⟨rfl, rfl⟩ ?_
  show ev _ t_Walker_mustBeThere 0 [.ref 58, .float 0, .float 0] [] _ _
  repeat (refine ev_np [4] rfl rfl rfl ?_)
  refine lp_to (E := fun k q => ev (d + 3) t_Walker_mustBeThere 4 [.ref 58, .int (nI (bm (fun l => decide (l < k) && sure g u l))), .int (nI k)] [] (hp Y F A) q) 3 (fun k hk q hq => ?_) _ ?_
  · rw [nI_succ] at hq
    repeat (refine ev_np [] rfl rfl rfl ?_)
    refine ev_ie (nI_ge (b := 3) hk (by omega)) ?_
    repeat (refine ev_np [] rfl rfl rfl ?_)
    refine ev_vc rfl (by rfl) (by rfl) rfl (c_Walker_isInAll d hu hc hk) ?_
    cases e : sure g u k with
    | false =>
      repeat (refine ev_np [4] rfl rfl rfl ?_)
      rw [bm_congr (g := fun l => decide (l < k) && sure g u l) (fun l _ => by
        by_cases h1 : l = k
        · subst h1; simp [e]
        · rw [dlt h1])] at hq
      exact hq
    | true =>
      repeat (refine ev_np [4] rfl rfl rfl ?_)
      rw [orb_bm _ (by omega)]
      rw [bm_congr (g := fun l => (decide (l < k) && sure g u l) || l == k) (fun l _ => by
        by_cases h1 : l = k
        · subst h1; simp [e]
        · rw [dlt h1]
          simp [h1])] at hq
      exact hq
  · repeat (refine ev_np [] rfl rfl rfl ?_)
    exact ev_ri rfl rfl
/-- a letter is gone -/
theorem c_Walker_step (hu : F 58 1 = nI (bm u)) (hc : CP F A 59 n g) {l k : Nat} (hl : l < 3) (hk : F 58 2 = nI k) (hk2 : k ≤ 200) : xa_rn xa_ms (d + 4) n_Walker_step [.ref 58, .int (nI l)] (hp Y F A) (some (.int (if bm (nx g u l) = 0 then -2 else if k = 200 then -3 else nI (cnt (nx g u l) 6)))) (hp Y (if bm (nx g u l) = 0 ∨ k = 200 then F else uF (uF F 58 1 (nI (bm (nx g u l)))) 58 2 (nI (k + 1))) A) := by
  have hlt := bm_lt (nx g u l)
  refine rn_in m_Walker_step rfl ⟨rfl, rfl⟩ ?_
  show ev _ t_Walker_step 0 [.ref 58, .int (nI l), .float 0] [] _ _
  repeat (refine ev_np [] rfl rfl rfl ?_)
  refine ev_vc rfl (by rfl) (by rfl) rfl (c_Walker_nextBy d hu hc hl) ?_
  repeat (refine ev_np [] rfl rfl rfl ?_)
  by_cases e : bm (nx g u l) = 0
  · rw [if_pos e, if_pos (Or.inl e), e]
    repeat (refine ev_np [] rfl rfl rfl ?_)
    exact ev_ri rfl rfl
  · rw [if_neg e]
    refine ev_it (nI_ne0 (by omega) (by omega)) ?_
    repeat (refine ev_np [] rfl rfl rfl ?_)
    refine ev_gi rfl (by rfl) (by rfl) ?_
    rw [hk]
    repeat (refine ev_np [] rfl rfl rfl ?_)
    by_cases e2 : k = 200
    · rw [if_pos e2, if_pos (Or.inr e2), e2]
      repeat (refine ev_np [] rfl rfl rfl ?_)
      exact ev_ri rfl rfl
    · rw [if_neg e2, if_neg (show ¬ (bm (nx g u l) = 0 ∨ k = 200) from fun z => z.elim e e2)]
      refine ev_it (nI_lt (b := 200) (by omega) (by omega)) ?_
      repeat (refine ev_np [] rfl rfl rfl ?_)
      refine ev_pf rfl (by rfl) ⟨by rfl, by rfl⟩ ?_
      repeat (refine ev_np [] rfl rfl rfl ?_)
      refine ev_gi rfl (by rfl) (by rfl) ?_
      rw [uF_n _ _ (by decide), hk]
      repeat (refine ev_np [] rfl rfl rfl ?_)
      refine ev_pf rfl (by rfl) ⟨by rfl, by rfl⟩ ?_
      repeat (refine ev_np [] rfl rfl rfl ?_)
      refine ev_gi rfl (by rfl) (by rfl) ?_
      rw [uF_n _ _ (by decide), uF_s]
      refine ev_ca rfl (c_Int_bitCount (d + 2) (nx g u l)) ?_
      rw [nI_succ]
      exact ev_ri rfl rfl
theorem c_Walker_restart {p k : Nat} (hp0 : PL p) (hc : CP F A p n g) (hk : F 58 2 = nI k) : ∃ F' A', xa_rn xa_ms (d + 2) n_Walker_restart [.ref 58, .ref p] (hp Y F A) (some (.int (nI k))) (hp Y F' A') ∧ sA [60, 61] A A' ∧ sF [5900, 5801, 5802] F F' ∧ CP F' A' 59 n g ∧ F' 58 1 = 1 ∧ F' 58 2 = 0 := by
  obtain ⟨F1, A1, b1, b2, b3, b4⟩ := c_Plan_become (Y := Y) d PL59 hp0 hc
  refine ⟨uF (uF F1 58 1 1) 58 2 0, A1, ?_, b2, (b3.mono (by decide)).tr ((sF.up (by decide)).tr (sF.up (by decide))), b4.frame (by rw [uF_n _ _ (by decide), uF_n _ _ (by decide)]) rfl rfl, by rw [uF_n _ _ (by decide), uF_s], by rw [uF_s]⟩
  refine rn_in m_Walker_restart rfl ⟨rfl, rfl⟩ ?_
  show ev _ t_Walker_restart 0 [.ref 58, .ref p, .float 0] [] _ _
  repeat (refine ev_np [] rfl rfl rfl ?_)
  refine ev_gi rfl (by rfl) (by rfl) ?_
  rw [hk]
  repeat (refine ev_np [] rfl rfl rfl ?_)
  refine ev_gr rfl (by rfl) (by rfl) ?_
  repeat (refine ev_np [] rfl rfl rfl ?_)
  refine ev_vc rfl (by rfl) PL59.1 rfl b1 ?_
  repeat (refine ev_np [] rfl rfl rfl ?_)
  refine ev_pf rfl (by rfl) ⟨by rfl, by rfl⟩ ?_
  repeat (refine ev_np [] rfl rfl rfl ?_)
  refine ev_pf rfl (by rfl) ⟨by rfl, by rfl⟩ ?_
  repeat (refine ev_np [] rfl rfl rfl ?_)
  exact ev_ri rfl rfl
end WALK
