/-! ===== calls: go, walk, count, arrow, put ===== -/
section EWS
variable {d : Nat} {tb : List xa_I} {pc : Nat} {ls r : List Value} {q : xa_R} {Y : Nat × (Nat → Int32)} {F A : Nat → Nat → Int32} {o : Nat}
theorem ev_grs (stop : List Nat) {idx len ci k j : Nat} {l : List Nat} {cv : Int32} {sp : List (Nat ⊕ Nat)} (_ : stop.any (Nat.beq pc) = false) (hi : xa_lk tb pc = some (.getfield idx, len, ci :: k :: l, cv)) (ho : lo_at o = some (.inr (ci, sp))) (hx : sp[k]? = some (.inr j)) (kk : ev d tb (pc + len) ls (.ref j :: r) (hp Y F A) q) : ev d tb pc ls (.ref o :: r) (hp Y F A) q := ev_gr hi ho hx kk
end EWS
theorem nI_m1 {n : Nat} (h : 1 ≤ n) : nI n - 1 = nI (n - 1) := by
  rw [← nI_pred (n - 1), show n - 1 + 1 = n by omega]
/-- a call that only reads -/
theorem op_ro {mc mm : Nat} {as : List Value} {S : SP} (W : Wf S) (r : Int32) (hc : ∀ Y F A, RC F A S → xa_rn xa_ms 80 mc (.ref 9 :: as) (hp Y F A) (some (.int r)) (hp Y F A)) (hm : ∀ Y F A, RM F A S → xa_rn xa_ms 80 mm (.ref 62 :: as) (hp Y F A) (some (.int r)) (hp Y (uF F 62 0 0) A)) : OP mc mm as S := ⟨r, S, W, fun Y F A hC => ⟨F, A, hc Y F A hC, hC, KM.rf⟩, fun Y F A hM => ⟨uF F 62 0 0, A, hm Y F A hM, hM.thrown 0, KC.fld F A 0 0⟩⟩
/-- a state of a plan -/
def St (S : SP) (x y : Int32) : Prop := ∃ i s, i < 6 ∧ s < (S.2.1 i).1 ∧ x = nI i ∧ y = nI s
section STS
variable {Y : Nat × (Nat → Int32)} {F A : Nat → Nat → Int32} {S : SP} (d : Nat)
theorem c_MM_noStateF (hC : RC F A S) (W : Wf S) {i s : Nat} (hi : i < 6) (hs : s < (S.2.1 i).1) : xa_rn xa_ms (d + 2) n_MM_noState [.ref 9, .int (nI i), .int (nI s)] (hp Y F A) (some (.int 0)) (hp Y F A) := by
  have hn := (W.2.1 i hi).1.2
  refine rn_in m_MM_noState rfl ⟨rfl, rfl⟩ ?_
  show ev _ t_MM_noState 0 [.ref 9, .int (nI i), .int (nI s)] [] _ _
  repeat (refine ev_np [] rfl rfl rfl ?_)
  refine ev_ca rfl (c_MM_noPlanF d hi) ?_
  repeat (refine ev_np [] rfl rfl rfl ?_)
  refine ev_ie (nI_pos (by omega)) ?_
  repeat (first | refine ev_np [] rfl rfl rfl ?_ | refine ev_grs [] rfl rfl (by rfl) (by rfl) ?_)
  refine ev_aa rfl hi ?_
  refine ev_vc rfl (by rfl) (PLi hi).1 rfl (c_Plan_size d (PLi hi)) ?_
  rw [(hC.2.1 i hi).1]
  repeat (refine ev_np [] rfl rfl rfl ?_)
  refine ev_it (nI_lt hs (by omega)) ?_
  repeat (refine ev_np [] rfl rfl rfl ?_)
  exact ev_rz rfl rfl (Or.inl rfl)
theorem c_MM_noStateT (hC : RC F A S) {x y : Int32} (W : Wf S) (h : ¬ St S x y) : xa_rn xa_ms (d + 2) n_MM_noState [.ref 9, .int x, .int y] (hp Y F A) (some (.int 1)) (hp Y F A) := by
  refine rn_in m_MM_noState rfl ⟨rfl, rfl⟩ ?_
  show ev _ t_MM_noState 0 [.ref 9, .int x, .int y] [] _ _
  rcases pk_ix x (n := 6) (by decide) with hx | hx | ⟨i, hi, rfl⟩
  · repeat (refine ev_np [] rfl rfl rfl ?_)
    refine ev_ca rfl (c_MM_noPlanT d (Or.inl hx)) ?_
    repeat (refine ev_np [] rfl rfl rfl ?_)
    exact ev_rz rfl rfl (Or.inr rfl)
  · repeat (refine ev_np [] rfl rfl rfl ?_)
    refine ev_ca rfl (c_MM_noPlanT d (Or.inr hx)) ?_
    repeat (refine ev_np [] rfl rfl rfl ?_)
    exact ev_rz rfl rfl (Or.inr rfl)
  · have hn := (W.2.1 i hi).1.2
    repeat (refine ev_np [] rfl rfl rfl ?_)
    refine ev_ca rfl (c_MM_noPlanF d hi) ?_
    repeat (refine ev_np [] rfl rfl rfl ?_)
    rcases pk_ix y (n := (S.2.1 i).1) (by omega) with hy | hy | ⟨s, hs, rfl⟩
    · refine ev_it hy ?_
      repeat (refine ev_np [] rfl rfl rfl ?_)
      exact ev_rz rfl rfl (Or.inr rfl)
    · refine ev_if (fun c => ?_) (fun c => ?_)
      · repeat (refine ev_np [] rfl rfl rfl ?_)
        exact ev_rz rfl rfl (Or.inr rfl)
      repeat (first | refine ev_np [] rfl rfl rfl ?_ | refine ev_grs [] rfl rfl (by rfl) (by rfl) ?_)
      refine ev_aa rfl hi ?_
      refine ev_vc rfl (by rfl) (PLi hi).1 rfl (c_Plan_size d (PLi hi)) ?_
      rw [(hC.2.1 i hi).1]
      repeat (refine ev_np [] rfl rfl rfl ?_)
      refine ev_ie (Int32.not_lt.mpr hy) ?_
      repeat (refine ev_np [] rfl rfl rfl ?_)
      exact ev_rz rfl rfl (Or.inr rfl)
    · exact absurd ⟨i, s, hi, hs, rfl, rfl⟩ h
theorem c_Mo_isStateT (hM : RM F A S) (W : Wf S) {i s : Nat} (hi : i < 6) (hs : s < (S.2.1 i).1) : xa_rn xa_ms (d + 3) n_Mo_isState [.ref 62, .int (nI i), .int (nI s)] (hp Y F A) (some (.int 1)) (hp Y F A) := by
  have hn := (W.2.1 i hi).1.2
  refine rn_in m_Mo_isState rfl ⟨rfl, rfl⟩ ?_
  show ev _ t_Mo_isState 0 [.ref 62, .int (nI i), .int (nI s)] [] _ _
  repeat (refine ev_np [] rfl rfl rfl ?_)
  refine ev_ca rfl (c_Mo_isPlanT d hi) ?_
  repeat (first | refine ev_np [] rfl rfl rfl ?_ | refine ev_grs [] rfl rfl (by rfl) (by rfl) ?_)
  refine ev_an rfl (by rfl) rfl (by omega) rfl ?_
  rw [(hM.2.1 i hi).1]
  repeat (refine ev_np [] rfl rfl rfl ?_)
  refine ev_ca rfl (c_Mo_in (d + 1) _ _ _) ?_
  rw [show nI (S.2.1 i).1 - 1 = nI ((S.2.1 i).1 - 1) from nI_m1 (by omega), in_F (by omega) (by omega)]
  repeat (refine ev_np [] rfl rfl rfl ?_)
  exact ev_rz rfl rfl (Or.inr rfl)
theorem c_Mo_isStateF (hM : RM F A S) (W : Wf S) {x y : Int32} (h : ¬ St S x y) : xa_rn xa_ms (d + 3) n_Mo_isState [.ref 62, .int x, .int y] (hp Y F A) (some (.int 0)) (hp Y F A) := by
  refine rn_in m_Mo_isState rfl ⟨rfl, rfl⟩ ?_
  show ev _ t_Mo_isState 0 [.ref 62, .int x, .int y] [] _ _
  rcases pk_ix x (n := 6) (by decide) with hx | hx | ⟨i, hi, rfl⟩
  · repeat (refine ev_np [] rfl rfl rfl ?_)
    refine ev_ca rfl (c_Mo_isPlanF d (Or.inl hx)) ?_
    repeat (refine ev_np [] rfl rfl rfl ?_)
    exact ev_rz rfl rfl (Or.inl rfl)
  · repeat (refine ev_np [] rfl rfl rfl ?_)
    refine ev_ca rfl (c_Mo_isPlanF d (Or.inr hx)) ?_
    repeat (refine ev_np [] rfl rfl rfl ?_)
    exact ev_rz rfl rfl (Or.inl rfl)
  · have hn := (W.2.1 i hi).1
    repeat (refine ev_np [] rfl rfl rfl ?_)
    refine ev_ca rfl (c_Mo_isPlanT d hi) ?_
    repeat (first | refine ev_np [] rfl rfl rfl ?_ | refine ev_grs [] rfl rfl (by rfl) (by rfl) ?_)
    refine ev_an rfl (by rfl) rfl (by omega) rfl ?_
    rw [(hM.2.1 i hi).1]
    repeat (refine ev_np [] rfl rfl rfl ?_)
    refine ev_ca rfl (c_Mo_in (d + 1) _ _ _) ?_
    have e : (decide (¬ y < 0) && decide (¬ nI ((S.2.1 i).1 - 1) < y)) = false := by
      rcases pk_ix y (n := (S.2.1 i).1) (by omega) with hy | hy | ⟨s, hs, rfl⟩
      · exact in_T (by omega) (Or.inl hy)
      · exact in_T (by omega) (Or.inr (by rw [show (S.2.1 i).1 - 1 + 1 = (S.2.1 i).1 by omega]; exact hy))
      · exact absurd ⟨i, s, hi, hs, rfl, rfl⟩ h
    rw [show nI (S.2.1 i).1 - 1 = nI ((S.2.1 i).1 - 1) from nI_m1 (by omega), e]
    repeat (refine ev_np [] rfl rfl rfl ?_)
    exact ev_rz rfl rfl (Or.inl rfl)
/-- an arrow's place -/
def Ar (S : SP) (x y l z : Int32) : Prop := ∃ i s k t, i < 6 ∧ s < (S.2.1 i).1 ∧ k < 3 ∧ t < (S.2.1 i).1 ∧ x = nI i ∧ y = nI s ∧ l = nI k ∧ z = nI t
theorem c_MM_noArrowF (hC : RC F A S) (W : Wf S) {i s k t : Nat} (hi : i < 6) (hs : s < (S.2.1 i).1) (hk : k < 3) (ht : t < (S.2.1 i).1) : xa_rn xa_ms (d + 3) n_MM_noArrow [.ref 9, .int (nI i), .int (nI s), .int (nI k), .int (nI t)] (hp Y F A) (some (.int 0)) (hp Y F A) := by
  refine rn_in m_MM_noArrow rfl ⟨rfl, rfl⟩ ?_
  show ev _ t_MM_noArrow 0 [.ref 9, .int (nI i), .int (nI s), .int (nI k), .int (nI t)] [] _ _
  repeat (refine ev_np [] rfl rfl rfl ?_)
  refine ev_vc rfl (by rfl) (by rfl) rfl (c_MM_noStateF d hC W hi hs) ?_
  repeat (refine ev_np [] rfl rfl rfl ?_)
  refine ev_ca rfl (c_MM_noLetterF (d + 1) hk) ?_
  repeat (refine ev_np [] rfl rfl rfl ?_)
  refine ev_vc rfl (by rfl) (by rfl) rfl (c_MM_noStateF d hC W hi ht) ?_
  repeat (refine ev_np [] rfl rfl rfl ?_)
  exact ev_rz rfl rfl (Or.inl rfl)
theorem let3 (l : Int32) : (l < 0 ∨ 3 ≤ l) ∨ ∃ k, k < 3 ∧ l = nI k := by
  rcases pk_ix l (n := 3) (by decide) with h | h | h
  · exact Or.inl (Or.inl h)
  · exact Or.inl (Or.inr h)
  · exact Or.inr h
theorem c_MM_noArrowT (hC : RC F A S) (W : Wf S) {x y l z : Int32} (h : ¬ Ar S x y l z) : xa_rn xa_ms (d + 3) n_MM_noArrow [.ref 9, .int x, .int y, .int l, .int z] (hp Y F A) (some (.int 1)) (hp Y F A) := by
  refine rn_in m_MM_noArrow rfl ⟨rfl, rfl⟩ ?_
  show ev _ t_MM_noArrow 0 [.ref 9, .int x, .int y, .int l, .int z] [] _ _
  repeat (refine ev_np [] rfl rfl rfl ?_)
  by_cases h1 : St S x y
  · obtain ⟨i, s, hi, hs, rfl, rfl⟩ := h1
    refine ev_vc rfl (by rfl) (by rfl) rfl (c_MM_noStateF d hC W hi hs) ?_
    repeat (refine ev_np [] rfl rfl rfl ?_)
    rcases let3 l with hl | ⟨k, hk, rfl⟩
    · refine ev_ca rfl (c_MM_noLetterT (d + 1) hl) ?_
      repeat (refine ev_np [] rfl rfl rfl ?_)
      exact ev_rz rfl rfl (Or.inr rfl)
    · refine ev_ca rfl (c_MM_noLetterF (d + 1) hk) ?_
      repeat (refine ev_np [] rfl rfl rfl ?_)
      by_cases h2 : St S (nI i) z
      · obtain ⟨i', t, hi', ht, e, rfl⟩ := h2
        have : i = i' := (nI_eq (by omega) (by omega)).mp e
        subst this
        exact absurd ⟨i, s, k, t, hi, hs, hk, ht, rfl, rfl, rfl, rfl⟩ h
      · refine ev_vc rfl (by rfl) (by rfl) rfl (c_MM_noStateT d hC W h2) ?_
        repeat (refine ev_np [] rfl rfl rfl ?_)
        exact ev_rz rfl rfl (Or.inr rfl)
  · refine ev_vc rfl (by rfl) (by rfl) rfl (c_MM_noStateT d hC W h1) ?_
    repeat (refine ev_np [] rfl rfl rfl ?_)
    exact ev_rz rfl rfl (Or.inr rfl)
end STS
section OPS2
variable {S : SP}
theorem op_arrow (W : Wf S) (x y l z : Int32) : OP n_MM_arrow n_Mo_arrow [.int x, .int y, .int l, .int z] S := by
  by_cases h : Ar S x y l z
  · obtain ⟨i, s, k, t, hi, hs, hk, ht, rfl, rfl, rfl, rfl⟩ := h
    have hn := (W.2.1 i hi).1.2
    refine op_ro W (nI ((S.2.1 i).2 s k t)) (fun Y F A hC => ?_) (fun Y F A hM => ?_)
    · refine rn_in m_MM_arrow rfl ⟨rfl, rfl⟩ ?_
      show ev _ t_MM_arrow 0 [.ref 9, .int (nI i), .int (nI s), .int (nI k), .int (nI t)] [] _ _
      repeat (refine ev_np [] rfl rfl rfl ?_)
      refine ev_vc rfl (by rfl) (by rfl) rfl (c_MM_noArrowF 76 hC W hi hs hk ht) ?_
      repeat (first | refine ev_np [] rfl rfl rfl ?_ | refine ev_grs [] rfl rfl (by rfl) (by rfl) ?_)
      refine ev_aa rfl hi ?_
      repeat (refine ev_np [] rfl rfl rfl ?_)
      refine ev_vc rfl (by rfl) (PLi hi).1 rfl (c_Plan_at 76 (PLi hi) (hC.2.1 i hi) (by omega) hk (by omega) ((W.2.1 i hi).2 s k t).1) ?_
      exact ev_ri rfl rfl
    · have hM0 := hM.thrown 0
      refine rn_in m_Mo_arrow rfl ⟨rfl, rfl⟩ ?_
      show ev _ t_Mo_arrow 0 [.ref 62, .int (nI i), .int (nI s), .int (nI k), .int (nI t)] [] _ _
      repeat (refine ev_np [] rfl rfl rfl ?_)
      refine ev_pf rfl (by rfl) ⟨by rfl, by rfl⟩ ?_
      repeat (refine ev_np [] rfl rfl rfl ?_)
      refine ev_vc rfl (by rfl) (by rfl) rfl (c_Mo_isStateT 76 hM0 W hi hs) ?_
      repeat (refine ev_np [] rfl rfl rfl ?_)
      refine ev_ca rfl (c_Mo_in 78 _ _ _) ?_
      rw [show (2 : Int32) = nI 2 from rfl, in_F (N := 2) (by omega) (by omega)]
      repeat (refine ev_np [] rfl rfl rfl ?_)
      refine ev_vc rfl (by rfl) (by rfl) rfl (c_Mo_isStateT 76 hM0 W hi ht) ?_
      repeat (refine ev_np [] rfl rfl rfl ?_)
      refine ev_vc rfl (by rfl) (by rfl) rfl (c_Mo_of 77 (by omega) (hM0.2.1 i hi) (by omega) hk (by omega)) ?_
      repeat (refine ev_np [] rfl rfl rfl ?_)
      exact ev_ri rfl rfl
  · refine op_ro W (-1) (fun Y F A hC => ?_) (fun Y F A hM => ?_)
    · refine rn_in m_MM_arrow rfl ⟨rfl, rfl⟩ ?_
      show ev _ t_MM_arrow 0 [.ref 9, .int x, .int y, .int l, .int z] [] _ _
      repeat (refine ev_np [] rfl rfl rfl ?_)
      refine ev_vc rfl (by rfl) (by rfl) rfl (c_MM_noArrowT 76 hC W h) ?_
      repeat (refine ev_np [] rfl rfl rfl ?_)
      exact ev_ri rfl rfl
    · have hM0 := hM.thrown 0
      refine rn_in m_Mo_arrow rfl ⟨rfl, rfl⟩ ?_
      show ev _ t_Mo_arrow 0 [.ref 62, .int x, .int y, .int l, .int z] [] _ _
      repeat (refine ev_np [] rfl rfl rfl ?_)
      refine ev_pf rfl (by rfl) ⟨by rfl, by rfl⟩ ?_
      repeat (refine ev_np [] rfl rfl rfl ?_)
      by_cases h1 : St S x y
      · obtain ⟨i, s, hi, hs, rfl, rfl⟩ := h1
        refine ev_vc rfl (by rfl) (by rfl) rfl (c_Mo_isStateT 76 hM0 W hi hs) ?_
        repeat (refine ev_np [] rfl rfl rfl ?_)
        refine ev_ca rfl (c_Mo_in 78 _ _ _) ?_
        rcases let3 l with hl | ⟨k, hk, rfl⟩
        · rw [show (2 : Int32) = nI 2 from rfl, in_T (N := 2) (by omega) hl]
          repeat (refine ev_np [] rfl rfl rfl ?_)
          exact ev_ri rfl rfl
        · rw [show (2 : Int32) = nI 2 from rfl, in_F (N := 2) (by omega) (by omega)]
          repeat (refine ev_np [] rfl rfl rfl ?_)
          by_cases h2 : St S (nI i) z
          · obtain ⟨i', t, hi', ht, e, rfl⟩ := h2
            have : i = i' := (nI_eq (by omega) (by omega)).mp e
            subst this
            exact absurd ⟨i, s, k, t, hi, hs, hk, ht, rfl, rfl, rfl, rfl⟩ h
          · refine ev_vc rfl (by rfl) (by rfl) rfl (c_Mo_isStateF 76 hM0 W h2) ?_
            repeat (refine ev_np [] rfl rfl rfl ?_)
            exact ev_ri rfl rfl
      · refine ev_vc rfl (by rfl) (by rfl) rfl (c_Mo_isStateF 76 hM0 W h1) ?_
        repeat (refine ev_np [] rfl rfl rfl ?_)
        exact ev_ri rfl rfl
theorem gset_wf {n : Nat} {g : Nat → Nat → Nat → Nat} (h : GW n g) {s l t v : Nat} (hs : s < n) (hl : l < 3) (ht : t < n) (hv : v ≤ 2) : GW n (gset g s l t v) := by
  refine ⟨h.1, fun a b c => ?_⟩
  unfold gset
  split
  · rename_i e
    obtain ⟨rfl, rfl, rfl⟩ := e
    exact ⟨hv, fun _ => ⟨hs, hl, ht⟩⟩
  · exact h.2 a b c
/-- one plan is another -/
def sPlan (S : SP) (i : Nat) (p : PLN) : SP := (S.1, fun k => if k = i then p else S.2.1 k, S.2.2)
theorem sPlan_wf (W : Wf S) {i : Nat} {p : PLN} (h : GW p.1 p.2) : Wf (sPlan S i p) := by
  refine ⟨W.1, fun k hk => ?_, W.2.2⟩
  show GW (if k = i then p else S.2.1 k).1 (if k = i then p else S.2.1 k).2
  split
  · exact h
  · exact W.2.1 k hk
theorem sPlan_s (S : SP) (i : Nat) (p : PLN) : (sPlan S i p).2.1 i = p := if_pos rfl
theorem sPlan_n (S : SP) {i k : Nat} (p : PLN) (h : k ≠ i) : (sPlan S i p).2.1 k = S.2.1 k := if_neg h
/-- the class's plan i has changed, and none of what it keeps else -/
theorem RC.plan {F A F' A' : Nat → Nat → Int32} (h : RC F A S) {i : Nat} {p : PLN} (hi : i < 6) {LA LF : List Nat} (hA : sA ((11 + 3 * i + 1) :: (11 + 3 * i + 2) :: LA) A A') (hF : sF ((11 + 3 * i) * 100 :: LF) F F') (hk : (LA.all fun x => Nat.blt 28 x && !(x == 33) && !(x == 40) && !(x == 60) && !(x == 61)) = true ∧ (LF.all fun x => Nat.blt 2800 x && !(x == 3201) && !(x == 3901) && !(x == 3902) && !(x == 5801) && !(x == 5802) && !(x == 5900)) = true) (hp : CP F' A' (11 + 3 * i) p.1 p.2) : RC F' A' (sPlan S i p) := by
  obtain ⟨⟨a1, a2⟩, b, ⟨c1, c2, c3⟩, d1, d2, d3⟩ := h
  have kA : ∀ o, o = 33 ∨ o = 40 ∨ o = 60 ∨ o = 61 ∨ (o < 29 ∧ o ≠ 11 + 3 * i + 1 ∧ o ≠ 11 + 3 * i + 2) → A' o = A o := fun o ho => hA o (fun z => by
    simp only [List.mem_cons] at z
    rcases z with z | z | z
    · omega
    · omega
    · have := List.all_eq_true.mp hk.1 o z
      simp only [Bool.and_eq_true, Bool.not_eq_true', beq_eq_false_iff_ne] at this
      have h2 := Nat.le_of_ble_eq_true this.1.1.1.1
      omega)
  have kF : ∀ o k, o * 100 + k = 3201 ∨ o * 100 + k = 3901 ∨ o * 100 + k = 3902 ∨ o * 100 + k = 5801 ∨ o * 100 + k = 5802 ∨ o * 100 + k = 5900 ∨ (o * 100 + k < 2801 ∧ o * 100 + k ≠ (11 + 3 * i) * 100) → F' o k = F o k := fun o k ho => hF o k (fun z => by
    simp only [List.mem_cons] at z
    rcases z with z | z
    · omega
    · have := List.all_eq_true.mp hk.2 _ z
      simp only [Bool.and_eq_true, Bool.not_eq_true', beq_eq_false_iff_ne] at this
      have h2 := Nat.le_of_ble_eq_true this.1.1.1.1.1.1
      omega)
  refine ⟨⟨by rw [kF 32 1 (by omega)]; exact a1, by rw [kA 33 (by omega)]; exact a2⟩, fun k hk => ?_, ⟨by rw [kF 39 1 (by omega)]; exact c1, by rw [kF 39 2 (by omega)]; exact c2, by rw [kA 40 (by omega)]; exact c3⟩, d1.frame (kF 59 0 (by omega)) (kA 60 (by omega)) (kA 61 (by omega)), by rw [kF 58 1 (by omega)]; exact d2, by rw [kF 58 2 (by omega)]; exact d3⟩
  by_cases e : k = i
  · subst e
    rw [sPlan_s]
    exact hp
  · rw [sPlan_n _ _ e]
    exact (b k hk).frame (kF _ 0 (by omega)) (kA _ (by omega)) (kA _ (by omega))
/-- so the model's -/
theorem RM.plan {F A A' : Nat → Nat → Int32} (h : RM F A S) {i : Nat} {p : PLN} {LA : List Nat} (hA : sA (63 :: 64 :: LA) A A') (hk : (LA.all fun x => !(x == 65) && !(x == 66)) = true) (hm : ∀ k n g, k < 8 → k ≠ i → k ≠ 6 → MP A k n g → MP A' k n g) (hi : i < 6) (hp : MP A' i p.1 p.2) : RM F A' (sPlan S i p) := by
  obtain ⟨⟨a1, a2⟩, b, ⟨c1, c2, c3⟩, d1, d2, d3⟩ := h
  have kA : ∀ o, o = 65 ∨ o = 66 → A' o = A o := fun o ho => hA o (fun z => by
    simp only [List.mem_cons] at z
    rcases z with z | z | z
    · omega
    · omega
    · have := List.all_eq_true.mp hk o z
      simp only [Bool.and_eq_true, Bool.not_eq_true', beq_eq_false_iff_ne] at this
      omega)
  refine ⟨⟨a1, by rw [kA 65 (by omega)]; exact a2⟩, fun k hk => ?_, ⟨c1, c2, by rw [kA 66 (by omega)]; exact c3⟩, hm 7 _ _ (by omega) (by omega) (by omega) d1, d2, d3⟩
  by_cases e : k = i
  · subst e
    rw [sPlan_s]
    exact hp
  · rw [sPlan_n _ _ e]
    exact hm k _ _ (by omega) e (by omega) (b k hk)
/-- one arrow of the model -/
theorem MP.put {A : Nat → Nat → Int32} {i n : Nat} {g : Nat → Nat → Nat → Nat} (h : MP A i n g) {s l t v : Nat} (hs : s < 6) (hl : l < 3) (ht : t < 6) : MP (va_up A 63 (upd (A 63) (108 * i + 18 * s + 6 * l + t) (nI v))) i n (gset g s l t v) := by
  refine ⟨by rw [va_up_n _ _ (by decide)]; exact h.1, fun a b c ha hb hc => ?_⟩
  rw [va_up_s]
  unfold upd gset
  by_cases e : a = s ∧ b = l ∧ c = t
  · rw [if_pos e, if_pos (by omega)]
  · rw [if_neg e, if_neg (by omega)]
    exact h.2 a b c ha hb hc
theorem MP.keep {A : Nat → Nat → Int32} {i j n : Nat} {g : Nat → Nat → Nat → Nat} (h : MP A j n g) (hij : j ≠ i) {s l t : Nat} (v : Int32) (hs : s < 6) (hl : l < 3) (ht : t < 6) : MP (va_up A 63 (upd (A 63) (108 * i + 18 * s + 6 * l + t) v)) j n g := by
  refine ⟨by rw [va_up_n _ _ (by decide)]; exact h.1, fun a b c ha hb hc => ?_⟩
  rw [va_up_s]
  unfold upd
  rw [if_neg (by omega)]
  exact h.2 a b c ha hb hc
theorem op_put (W : Wf S) (x y l z v : Int32) : OP n_MM_put n_Mo_put [.int x, .int y, .int l, .int z, .int v] S := by
  by_cases h : Ar S x y l z
  · obtain ⟨i, s, k, t, hi, hs, hk, ht, rfl, rfl, rfl, rfl⟩ := h
    have hn := (W.2.1 i hi).1.2
    rcases let3 v with hv | ⟨v, hv, rfl⟩
    · refine op_ro W (-1) (fun Y F A hC => ?_) (fun Y F A hM => ?_)
      · refine rn_in m_MM_put rfl ⟨rfl, rfl⟩ ?_
        show ev _ t_MM_put 0 [.ref 9, .int (nI i), .int (nI s), .int (nI k), .int (nI t), .int v, .float 0] [] _ _
        repeat (refine ev_np [] rfl rfl rfl ?_)
        refine ev_vc rfl (by rfl) (by rfl) rfl (c_MM_noArrowF 76 hC W hi hs hk ht) ?_
        repeat (refine ev_np [] rfl rfl rfl ?_)
        refine ev_if (fun c => ?_) (fun c => ?_)
        · repeat (refine ev_np [] rfl rfl rfl ?_)
          exact ev_ri rfl rfl
        · repeat (refine ev_np [] rfl rfl rfl ?_)
          refine ev_ie (fun z => ?_) ?_
          · rcases hv with hv | hv
            · exact c hv
            · exact absurd (show v ≤ 2 from z) (by rw [Int32.le_iff_toInt_le] at *; have := hv; simp at *; omega)
          repeat (refine ev_np [] rfl rfl rfl ?_)
          exact ev_ri rfl rfl
      · have hM0 := hM.thrown 0
        refine rn_in m_Mo_put rfl ⟨rfl, rfl⟩ ?_
        show ev _ t_Mo_put 0 [.ref 62, .int (nI i), .int (nI s), .int (nI k), .int (nI t), .int v, .float 0] [] _ _
        repeat (refine ev_np [] rfl rfl rfl ?_)
        refine ev_pf rfl (by rfl) ⟨by rfl, by rfl⟩ ?_
        repeat (refine ev_np [] rfl rfl rfl ?_)
        refine ev_vc rfl (by rfl) (by rfl) rfl (c_Mo_isStateT 76 hM0 W hi hs) ?_
        repeat (refine ev_np [] rfl rfl rfl ?_)
        refine ev_ca rfl (c_Mo_in 78 _ _ _) ?_
        rw [show (2 : Int32) = nI 2 from rfl, in_F (N := 2) (by omega) (by omega)]
        repeat (refine ev_np [] rfl rfl rfl ?_)
        refine ev_vc rfl (by rfl) (by rfl) rfl (c_Mo_isStateT 76 hM0 W hi ht) ?_
        repeat (refine ev_np [] rfl rfl rfl ?_)
        refine ev_ca rfl (c_Mo_in 78 _ _ _) ?_
        rw [show (2 : Int32) = nI 2 from rfl, in_T (N := 2) (by omega) hv]
        repeat (refine ev_np [] rfl rfl rfl ?_)
        exact ev_ri rfl rfl
    · refine ⟨nI ((S.2.1 i).2 s k t), sPlan S i ((S.2.1 i).1, gset (S.2.1 i).2 s k t v), sPlan_wf W (gset_wf (W.2.1 i hi) hs hk ht (by omega)), fun Y F A hC => ?_, fun Y F A hM => ?_⟩
      · obtain ⟨A', b1, b2, b3⟩ := c_Plan_lay (Y := Y) 76 (PLi hi) (hC.2.1 i hi) (s := s) (l := k) (t := t) (v := v) (by omega) hk (by omega) (by omega)
        refine ⟨F, A', ?_, hC.plan (LA := []) (LF := []) hi b2 sF.rf ⟨rfl, rfl⟩ b3, ?_⟩
        · refine rn_in m_MM_put rfl ⟨rfl, rfl⟩ ?_
          show ev _ t_MM_put 0 [.ref 9, .int (nI i), .int (nI s), .int (nI k), .int (nI t), .int (nI v), .float 0] [] _ _
          repeat (refine ev_np [] rfl rfl rfl ?_)
          refine ev_vc rfl (by rfl) (by rfl) rfl (c_MM_noArrowF 76 hC W hi hs hk ht) ?_
          repeat (refine ev_np [] rfl rfl rfl ?_)
          refine ev_ie (nI_pos (by omega)) ?_
          repeat (refine ev_np [] rfl rfl rfl ?_)
          refine ev_it (nI_le (b := 2) (by omega) (by omega)) ?_
          repeat (first | refine ev_np [] rfl rfl rfl ?_ | refine ev_grs [] rfl rfl (by rfl) (by rfl) ?_)
          refine ev_aa rfl hi ?_
          repeat (refine ev_np [] rfl rfl rfl ?_)
          refine ev_vc rfl (by rfl) (PLi hi).1 rfl (c_Plan_at 76 (PLi hi) (hC.2.1 i hi) (by omega) hk (by omega) ((W.2.1 i hi).2 s k t).1) ?_
          repeat (first | refine ev_np [] rfl rfl rfl ?_ | refine ev_grs [] rfl rfl (by rfl) (by rfl) ?_)
          refine ev_aa rfl hi ?_
          repeat (refine ev_np [] rfl rfl rfl ?_)
          refine ev_vc rfl (by rfl) (PLi hi).1 rfl b1 ?_
          repeat (refine ev_np [] rfl rfl rfl ?_)
          exact ev_ri rfl rfl
        · intro o ho
          exact ⟨b2 o (by simp; omega), rfl⟩
      · have hM0 := hM.thrown 0
        refine ⟨uF F 62 0 0, va_up A 63 (upd (A 63) (108 * i + 18 * s + 6 * k + t) (nI v)), ?_, hM0.plan (LA := []) (sA.up (by decide)) rfl (fun j n g _ hj _ h => h.keep hj (nI v) (by omega) hk (by omega)) hi ((hM0.2.1 i hi).put (by omega) hk (by omega)), (KC.fld F A 0 0).tr (KC.upA _ _ (by decide) _)⟩
        refine rn_in m_Mo_put rfl ⟨rfl, rfl⟩ ?_
        show ev _ t_Mo_put 0 [.ref 62, .int (nI i), .int (nI s), .int (nI k), .int (nI t), .int (nI v), .float 0] [] _ _
        repeat (refine ev_np [] rfl rfl rfl ?_)
        refine ev_pf rfl (by rfl) ⟨by rfl, by rfl⟩ ?_
        repeat (refine ev_np [] rfl rfl rfl ?_)
        refine ev_vc rfl (by rfl) (by rfl) rfl (c_Mo_isStateT 76 hM0 W hi hs) ?_
        repeat (refine ev_np [] rfl rfl rfl ?_)
        refine ev_ca rfl (c_Mo_in 78 _ _ _) ?_
        rw [show (2 : Int32) = nI 2 from rfl, in_F (N := 2) (by omega) (by omega)]
        repeat (refine ev_np [] rfl rfl rfl ?_)
        refine ev_vc rfl (by rfl) (by rfl) rfl (c_Mo_isStateT 76 hM0 W hi ht) ?_
        repeat (refine ev_np [] rfl rfl rfl ?_)
        refine ev_ca rfl (c_Mo_in 78 _ _ _) ?_
        rw [show (2 : Int32) = nI 2 from rfl, in_F (N := 2) (by omega) (by omega)]
        repeat (refine ev_np [] rfl rfl rfl ?_)
        refine ev_vc rfl (by rfl) (by rfl) rfl (c_Mo_of 77 (by omega) (hM0.2.1 i hi) (by omega) hk (by omega)) ?_
        repeat (first | refine ev_np [] rfl rfl rfl ?_ | refine ev_grs [] rfl rfl (by rfl) (by rfl) ?_)
        refine ev_ca rfl (c_Mo_at 78 i s k t) ?_
        repeat (refine ev_np [] rfl rfl rfl ?_)
        refine ev_am rfl (by rfl) rfl (by omega) rfl ?_
        repeat (refine ev_np [] rfl rfl rfl ?_)
        exact ev_ri rfl rfl
  · refine op_ro W (-1) (fun Y F A hC => ?_) (fun Y F A hM => ?_)
    · refine rn_in m_MM_put rfl ⟨rfl, rfl⟩ ?_
      show ev _ t_MM_put 0 [.ref 9, .int x, .int y, .int l, .int z, .int v, .float 0] [] _ _
      repeat (refine ev_np [] rfl rfl rfl ?_)
      refine ev_vc rfl (by rfl) (by rfl) rfl (c_MM_noArrowT 76 hC W h) ?_
      repeat (refine ev_np [] rfl rfl rfl ?_)
      exact ev_ri rfl rfl
    · have hM0 := hM.thrown 0
      refine rn_in m_Mo_put rfl ⟨rfl, rfl⟩ ?_
      show ev _ t_Mo_put 0 [.ref 62, .int x, .int y, .int l, .int z, .int v, .float 0] [] _ _
      repeat (refine ev_np [] rfl rfl rfl ?_)
      refine ev_pf rfl (by rfl) ⟨by rfl, by rfl⟩ ?_
      repeat (refine ev_np [] rfl rfl rfl ?_)
      by_cases h1 : St S x y
      · obtain ⟨i, s, hi, hs, rfl, rfl⟩ := h1
        refine ev_vc rfl (by rfl) (by rfl) rfl (c_Mo_isStateT 76 hM0 W hi hs) ?_
        repeat (refine ev_np [] rfl rfl rfl ?_)
        refine ev_ca rfl (c_Mo_in 78 _ _ _) ?_
        rcases let3 l with hl | ⟨k, hk, rfl⟩
        · rw [show (2 : Int32) = nI 2 from rfl, in_T (N := 2) (by omega) hl]
          repeat (refine ev_np [] rfl rfl rfl ?_)
          exact ev_ri rfl rfl
        · rw [show (2 : Int32) = nI 2 from rfl, in_F (N := 2) (by omega) (by omega)]
          repeat (refine ev_np [] rfl rfl rfl ?_)
          by_cases h2 : St S (nI i) z
          · obtain ⟨i', t, hi', ht, e, rfl⟩ := h2
            have : i = i' := (nI_eq (by omega) (by omega)).mp e
            subst this
            exact absurd ⟨i, s, k, t, hi, hs, hk, ht, rfl, rfl, rfl, rfl⟩ h
          · refine ev_vc rfl (by rfl) (by rfl) rfl (c_Mo_isStateF 76 hM0 W h2) ?_
            repeat (refine ev_np [] rfl rfl rfl ?_)
            exact ev_ri rfl rfl
      · refine ev_vc rfl (by rfl) (by rfl) rfl (c_Mo_isStateF 76 hM0 W h1) ?_
        repeat (refine ev_np [] rfl rfl rfl ?_)
        exact ev_ri rfl rfl
end OPS2
