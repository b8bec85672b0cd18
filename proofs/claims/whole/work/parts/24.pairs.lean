/-! ===== class Pairs (at 46 and 53) ===== -/
/-- a Pairs object at o: its sets by a relation -/
def PR (o : Nat) : Prop := (o = 46 ∨ o = 53) ∧ lo_at o = some (.inr (1, [.inr (o + 1), .inr (o + 2)])) ∧ lo_at (o + 1) = some (.inl 6) ∧ lo_at (o + 2) = some (.inl 6)
theorem PR46 : PR 46 := ⟨Or.inl rfl, rfl, rfl, rfl⟩
theorem PR53 : PR 53 := ⟨Or.inr rfl, rfl, rfl, rfl⟩
def CR (A : Nat → Nat → Int32) (o : Nat) (r : Nat → Nat → Bool) : Prop := ∀ k, k < 6 → A (o + 1) k = nI (bm (fun t => r k t)) ∧ A (o + 2) k = nI (bm (fun s => r s k))
theorem CR.frame {A A' : Nat → Nat → Int32} {o : Nat} {r : Nat → Nat → Bool} (h : CR A o r) (h1 : A' (o + 1) = A (o + 1)) (h2 : A' (o + 2) = A (o + 2)) : CR A' o r := fun k hk => by rw [h1, h2]; exact h k hk
theorem CR.congr {A : Nat → Nat → Int32} {o : Nat} {r r' : Nat → Nat → Bool} (h : CR A o r) (he : ∀ s t, s < 6 → t < 6 → r s t = r' s t) : CR A o r' := fun k hk => by
  obtain ⟨a, b⟩ := h k hk
  exact ⟨a.trans (congrArg nI (bm_congr fun t ht => he k t hk ht)), b.trans (congrArg nI (bm_congr fun t ht => he t k ht hk))⟩
section PAIRS
variable {Y : Nat × (Nat → Int32)} {F A : Nat → Nat → Int32} {o : Nat} (d : Nat)
theorem c_Pairs_isPair {s t : Nat} (hs : s < 6) (ht : t < 6) {h : xa_H} : xa_rn xa_ms (d + 1) n_Pairs_isPair [.int (nI s), .int (nI t)] h (some (.int 1)) h := by
  refine rn_in m_Pairs_isPair rfl ⟨rfl, rfl⟩ ?_
  show ev _ t_Pairs_isPair 0 [.int (nI s), .int (nI t)] [] _ _
  repeat (refine ev_np [] rfl rfl rfl ?_)
  refine ev_ie (nI_pos (by omega)) ?_
  repeat (refine ev_np [] rfl rfl rfl ?_)
  refine ev_ie (nI_ge (b := 6) hs (by omega)) ?_
  repeat (refine ev_np [] rfl rfl rfl ?_)
  refine ev_ie (nI_pos (by omega)) ?_
  repeat (refine ev_np [] rfl rfl rfl ?_)
  refine ev_ie (nI_ge (b := 6) ht (by omega)) ?_
  repeat (refine ev_np [] rfl rfl rfl ?_)
  exact ev_rz rfl rfl (Or.inr rfl)
theorem c_Pairs_has (hp0 : PR o) {r : Nat → Nat → Bool} (hc : CR A o r) {s t : Nat} (hs : s < 6) (ht : t < 6) : xa_rn xa_ms (d + 2) n_Pairs_has [.ref o, .int (nI s), .int (nI t)] (hp Y F A) (some (.int (z01 (r s t)))) (hp Y F A) := by
  refine rn_in m_Pairs_has rfl ⟨rfl, rfl⟩ ?_
  show ev _ t_Pairs_has 0 [.ref o, .int (nI s), .int (nI t)] [] _ _
  repeat (refine ev_np [] rfl rfl rfl ?_)
  refine ev_ca rfl (c_Pairs_isPair d hs ht) ?_
  repeat (refine ev_np [] rfl rfl rfl ?_)
  refine ev_gr rfl hp0.2.1 rfl ?_
  repeat (refine ev_np [] rfl rfl rfl ?_)
  refine ev_an rfl hp0.2.2.1 rfl hs rfl ?_
  repeat (refine ev_np [] rfl rfl rfl ?_)
  refine ev_ca rfl (c_MM_inSet d) ?_
  rw [(hc s hs).1, bi_bm _ ht]
  cases r s t with
  | true =>
    repeat (refine ev_np [] rfl rfl rfl ?_)
    exact ev_rz rfl rfl (Or.inr rfl)
  | false =>
    repeat (refine ev_np [] rfl rfl rfl ?_)
    exact ev_rz rfl rfl (Or.inl rfl)
theorem c_Pairs_drop (hp0 : PR o) {r : Nat → Nat → Bool} (hc : CR A o r) {s t : Nat} (hs : s < 6) (ht : t < 6) : ∃ A', xa_rn xa_ms (d + 2) n_Pairs_drop [.ref o, .int (nI s), .int (nI t)] (hp Y F A) none (hp Y F A') ∧ sA [o + 1, o + 2] A A' ∧ CR A' o (fun a b => r a b && !(a == s && b == t)) := by
  have n12 : ¬ o + 1 = o + 2 := by omega
  have n21 : ¬ o + 2 = o + 1 := by omega
  refine ⟨va_up (va_up A (o + 1) (upd (A (o + 1)) s (A (o + 1) s &&& (((1 : Int32) <<< (nI t &&& 31)) ^^^ (-1))))) (o + 2) (upd (A (o + 2)) t (A (o + 2) t &&& (((1 : Int32) <<< (nI s &&& 31)) ^^^ (-1)))), ?_, (sA.up (by simp)).tr (sA.up (by simp)), fun k hk => ⟨?_, ?_⟩⟩
  · refine rn_in m_Pairs_drop rfl ⟨rfl, rfl⟩ ?_
    show ev _ t_Pairs_drop 0 [.ref o, .int (nI s), .int (nI t)] [] _ _
    repeat (refine ev_np [] rfl rfl rfl ?_)
    refine ev_ca rfl (c_Pairs_isPair d hs ht) ?_
    repeat (refine ev_np [] rfl rfl rfl ?_)
    refine ev_gr rfl hp0.2.1 rfl ?_
    repeat (refine ev_np [] rfl rfl rfl ?_)
    refine ev_an rfl hp0.2.2.1 rfl hs rfl ?_
    repeat (refine ev_np [] rfl rfl rfl ?_)
    refine ev_am rfl hp0.2.2.1 rfl hs rfl ?_
    repeat (refine ev_np [] rfl rfl rfl ?_)
    refine ev_gr rfl hp0.2.1 rfl ?_
    repeat (refine ev_np [] rfl rfl rfl ?_)
    refine ev_an rfl hp0.2.2.2 rfl ht rfl ?_
    repeat (refine ev_np [] rfl rfl rfl ?_)
    refine ev_am rfl hp0.2.2.2 rfl ht rfl ?_
    rw [va_up_n _ _ n21]
    exact ev_rv rfl
  · rw [va_up_n _ _ n12, va_up_s]
    unfold upd
    by_cases e : k = s
    · subst e
      rw [if_pos rfl, (hc k hk).1, clb_bm _ ht]
      refine congrArg nI (bm_congr fun b _ => ?_)
      simp
    · rw [if_neg e, (hc k hk).1]
      refine congrArg nI (bm_congr fun b _ => ?_)
      simp [e]
  · rw [va_up_s]
    unfold upd
    by_cases e : k = t
    · subst e
      rw [if_pos rfl, (hc k hk).2, clb_bm _ hs]
      refine congrArg nI (bm_congr fun b _ => ?_)
      simp
    · rw [if_neg e, (hc k hk).2]
      refine congrArg nI (bm_congr fun b _ => ?_)
      simp [e]
/-- some k below n of the first set is met with none of the second -/
def lack (r : Nat → Nat → Bool) (f g : Nat → Bool) : Nat → Bool
  | 0 => false
  | n + 1 => lack r f g n || (f n && !((List.range 6).any fun t => g t && r n t))
theorem any6 (f : Nat → Bool) : bm f = 0 ↔ (List.range 6).any f = false := by
  rw [bm_eq0]
  simp [List.any_eq_false, List.mem_range]
theorem c_Pairs_lacks {v : Nat} (hv : lo_at v = some (.inl 6)) {r : Nat → Nat → Bool} (hc : ∀ k, k < 6 → A v k = nI (bm (fun t => r k t))) (f g : Nat → Bool) : xa_rn xa_ms (d + 1) n_Pairs_lacks [.ref v, .int (nI (bm f)), .int (nI (bm g))] (hp Y F A) (some (.int (z01 (lack r f g 6)))) (hp Y F A) := by
  refine rn_in m_Pairs_lacks rfl ⟨rfl, rfl⟩ ?_
  show ev _ t_Pairs_lacks 0 [.ref v, .int (nI (bm f)), .int (nI (bm g)), .float 0] [] _ _
  repeat (refine ev_np [2] rfl rfl rfl ?_)
  have key : ∀ m k, k + m = 6 → (lack r f g k = true → False) → ev d t_Pairs_lacks 2 [.ref v, .int (nI (bm f)), .int (nI (bm g)), .int (nI k)] [] (hp Y F A) (some (.int (z01 (lack r f g 6))), hp Y F A) := by
    intro m
    induction m with
    | zero =>
      intro k hk hno
      have hk6 : k = 6 := by omega
      subst hk6
      repeat (refine ev_np [] rfl rfl rfl ?_)
      refine ev_ln rfl hv ?_
      repeat (refine ev_np [] rfl rfl rfl ?_)
      exact ev_rz rfl (by cases hz : lack r f g 6 with | true => exact (hno hz).elim | false => rfl) (by cases hz : lack r f g 6 with | true => exact (hno hz).elim | false => exact Or.inl rfl)
    | succ m ih =>
      intro k hk hno
      have hk6 : k < 6 := by omega
      have hmono : ∀ j, k < j → lack r f g (k + 1) = true → lack r f g j = true := by
        intro j hj ht
        induction j with
        | zero => omega
        | succ j ihj =>
          by_cases e : k = j
          · subst e; exact ht
          · simp only [lack]; rw [ihj (by omega)]; rfl
      repeat (refine ev_np [] rfl rfl rfl ?_)
      refine ev_ln rfl hv ?_
      repeat (refine ev_np [] rfl rfl rfl ?_)
      refine ev_ie (nI_ge (b := 6) hk6 (by omega)) ?_
      repeat (refine ev_np [] rfl rfl rfl ?_)
      refine ev_an rfl hv rfl hk6 rfl ?_
      rw [hc k hk6]
      repeat (refine ev_np [] rfl rfl rfl ?_)
      rw [and_bm]
      have hb : bi (nI (bm f)) k = f k := bi_bm f hk6
      have hnext : ev d t_Pairs_lacks 26 [.ref v, .int (nI (bm f)), .int (nI (bm g)), .int (nI k)] [] (hp Y F A) (some (.int (z01 (lack r f g 6))), hp Y F A) ∨ lack r f g (k + 1) = true := by
        cases hz : lack r f g (k + 1) with
        | true => exact Or.inr rfl
        | false =>
          left
          repeat (refine ev_np [2] rfl rfl rfl ?_)
          have h9 := ih (k + 1) (by omega) (fun z => by rw [hz] at z; cases z)
          rw [nI_succ] at h9
          exact h9
      have hand : bm (fun t => r k t && g t) = 0 ↔ ((List.range 6).any fun t => g t && r k t) = false := by
        rw [any6]
        simp only [Bool.and_comm]
      have hfn : lack r f g k = false := by cases hz : lack r f g k with | true => exact (hno hz).elim | false => rfl
      refine ev_if (fun c => ?_) (fun c => ?_)
      · rcases hnext with h | h
        · exact h
        · exfalso
          simp only [lack, hfn, Bool.false_or, Bool.and_eq_true, Bool.not_eq_true'] at h
          exact c (by rw [hand.mpr h.2]; rfl)
      · have c' : bm (fun t => r k t && g t) = 0 := by
          have c2 : nI (bm fun t => r k t && g t) = 0 := Classical.not_not.mp c
          exact bm_eq0.mpr (nI_bm0.mp c2)
        repeat (refine ev_np [] rfl rfl rfl ?_)
        refine ev_if (fun c2 => ?_) (fun c2 => ?_)
        · rcases hnext with h | h
          · exact h
          · exfalso
            simp only [lack, hfn, Bool.false_or, Bool.and_eq_true, Bool.not_eq_true'] at h
            rw [← hb] at h
            exact (of_decide_eq_true h.1) c2
        · have hf : f k = true := by rw [← hb]; exact decide_eq_true c2
          have hl : lack r f g 6 = true := hmono 6 hk6 (by simp only [lack, hfn, hf, hand.mp c']; rfl)
          rw [hl]
          repeat (refine ev_np [] rfl rfl rfl ?_)
          exact ev_rz rfl rfl (Or.inr rfl)
  exact key 6 0 rfl (fun z => by cases z)
theorem c_Pairs_leftLacks (hp0 : PR o) {r : Nat → Nat → Bool} (hc : CR A o r) (f g : Nat → Bool) : xa_rn xa_ms (d + 2) n_Pairs_leftLacks [.ref o, .int (nI (bm f)), .int (nI (bm g))] (hp Y F A) (some (.int (z01 (lack r f g 6)))) (hp Y F A) := by
  refine rn_in m_Pairs_leftLacks rfl ⟨rfl, rfl⟩ ?_
  show ev _ t_Pairs_leftLacks 0 [.ref o, .int (nI (bm f)), .int (nI (bm g))] [] _ _
  repeat (refine ev_np [] rfl rfl rfl ?_)
  refine ev_gr rfl hp0.2.1 rfl ?_
  repeat (refine ev_np [] rfl rfl rfl ?_)
  refine ev_ca rfl (c_Pairs_lacks d hp0.2.2.1 (fun k hk => (hc k hk).1) f g) ?_
  exact ev_rz rfl rfl (by cases lack r f g 6 <;> simp [z01])
theorem c_Pairs_rightLacks (hp0 : PR o) {r : Nat → Nat → Bool} (hc : CR A o r) (f g : Nat → Bool) : xa_rn xa_ms (d + 2) n_Pairs_rightLacks [.ref o, .int (nI (bm f)), .int (nI (bm g))] (hp Y F A) (some (.int (z01 (lack (fun a b => r b a) f g 6)))) (hp Y F A) := by
  refine rn_in m_Pairs_rightLacks rfl ⟨rfl, rfl⟩ ?_
  show ev _ t_Pairs_rightLacks 0 [.ref o, .int (nI (bm f)), .int (nI (bm g))] [] _ _
  repeat (refine ev_np [] rfl rfl rfl ?_)
  refine ev_gr rfl hp0.2.1 rfl ?_
  repeat (refine ev_np [] rfl rfl rfl ?_)
  refine ev_ca rfl (c_Pairs_lacks d hp0.2.2.2 (r := fun a b => r b a) (fun k hk => (hc k hk).2) f g) ?_
  exact ev_rz rfl rfl (by cases lack (fun a b => r b a) f g 6 <;> simp [z01])
end PAIRS
