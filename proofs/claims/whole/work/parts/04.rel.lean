/-! ===== how the small machine's states stand for the machine's ===== -/
def xa_v (tr : Nat → Nat) (fmt : Value) (v : Value) : Value := match v with
  | .ref k => .ref (tr k)
  | .retAddr _ => fmt
  | v => v
def xa_L (tr : Nat → Nat) (fmt : Value) (nL : Nat) (ls : List Value) (rl : Array Slot) : Prop := ls.length = nL ∧ rl.size = nL ∧ lv_wf rl ∧ ∀ (k : Nat) (v : Value), ls[k]? = some v → xa_kn v = true → rl[k]? = some (.val (xa_v tr fmt v))
/-- the listed locals, as the kit's rows take them -/
def xa_pl (tr : Nat → Nat) (fmt : Value) (ls : List Value) : List (Nat × Value) := (List.range ls.length).filterMap fun k => match ls[k]? with
  | some v => if xa_kn v = true then some (k, xa_v tr fmt v) else none
  | none => none
theorem xa_pl_mem {tr : Nat → Nat} {fmt : Value} {ls : List Value} {q : Nat × Value} : q ∈ xa_pl tr fmt ls ↔ ∃ v, ls[q.1]? = some v ∧ xa_kn v = true ∧ q.2 = xa_v tr fmt v := by
  unfold xa_pl
  rw [List.mem_filterMap]
  constructor
  · rintro ⟨k, hk, he⟩
    cases hv : ls[k]? with
    | none => simp [hv] at he
    | some v =>
      by_cases hn : xa_kn v = true
      · simp [hv, hn] at he
        subst he
        exact ⟨v, hv, hn, rfl⟩
      · simp [hv, hn] at he
  · rintro ⟨v, hv, hn, he⟩
    refine ⟨q.1, ?_, ?_⟩
    · exact List.mem_range.mpr (List.getElem?_eq_some_iff.mp hv).1
    · simp [hv, hn, ← he]
theorem xa_L.has {tr : Nat → Nat} {fmt : Value} {nL : Nat} {ls : List Value} {rl : Array Slot} (h : xa_L tr fmt nL ls rl) : lv_has rl nL (xa_pl tr fmt ls) := by
  refine ⟨h.2.1, h.2.2.1, fun q hq => ?_⟩
  obtain ⟨v, h1, h2, h3⟩ := xa_pl_mem.mp hq
  rw [h3]
  exact h.2.2.2 _ _ h1 h2
theorem xa_cat {tr : Nat → Nat} {fmt : Value} (hf : fmt.category = 1) (v : Value) : (xa_v tr fmt v).category = v.category := by
  cases v <;> first | rfl | exact hf
theorem xa_cats {tr : Nat → Nat} {fmt : Value} (hf : fmt.category = 1) (r : List Value) : ((r.map (xa_v tr fmt)).map fun v => v.category).sum = (r.map fun v => v.category).sum := by
  rw [List.map_map]
  congr 1
  apply List.map_congr_left
  intro v _
  exact xa_cat hf v
theorem xa_L.store {tr : Nat → Nat} {fmt : Value} {nL : Nat} {ls : List Value} {rl rl' : Array Slot} {i : Nat} {v : Value} (hf : fmt.category = 1) (h : xa_L tr fmt nL ls rl) (hfr : xa_free ls i = true) (h' : lv_has rl' nL ((i, xa_v tr fmt v) :: (xa_pl tr fmt ls).filter (fun q => !(q.1 == i) && !(q.1 + 1 == i && q.2.category == 2)))) : xa_L tr fmt nL (ls.set i v) rl' := by
  refine ⟨by rw [List.length_set]; exact h.1, h'.1, h'.2.1, fun k w hk hn => ?_⟩
  by_cases hki : k = i
  · subst hki
    have hlt : k < ls.length := by
      have := (List.getElem?_eq_some_iff.mp hk).1
      rwa [List.length_set] at this
    rw [List.getElem?_set_self hlt] at hk
    cases hk
    exact h'.2.2 (k, xa_v tr fmt v) List.mem_cons_self
  · rw [List.getElem?_set_ne (fun e => hki e.symm)] at hk
    refine h'.2.2 (k, xa_v tr fmt w) (List.mem_cons_of_mem _ (List.mem_filter.mpr ⟨xa_pl_mem.mpr ⟨w, hk, hn, rfl⟩, ?_⟩))
    simp only [Bool.and_eq_true, Bool.not_eq_true', beq_eq_false_iff_ne, ne_eq, Bool.and_eq_false_iff]
    refine ⟨hki, ?_⟩
    by_cases hk1 : k + 1 = i
    · right
      intro hc
      subst hk1
      rw [xa_cat hf] at hc
      unfold xa_free at hfr
      simp only [Bool.and_eq_true, hk] at hfr
      cases w <;> simp [Value.category] at hc
      · simp at hfr
      · simp [xa_kn] at hn
    · exact Or.inl hk1
theorem xa_free_lt {ls : List Value} {i : Nat} (h : xa_free ls i = true) : i < ls.length := by
  cases i with
  | zero => exact Nat.le_of_ble_eq_true h
  | succ j =>
    unfold xa_free at h
    simp only [Bool.and_eq_true] at h
    exact Nat.le_of_ble_eq_true h.1
/-- refs of the plans' array -/
def xa_rf (tr : Nat → Nat) (fs : List Value) : Nat → Option Nat := fun j => match fs[j]? with
  | some (.ref k) => some (tr k)
  | _ => none
/-- what a cell is on the machine's heap -/
def xa_cell (D : va_G) (cI cP : ClassId) (tr : Nat → Nat) (fmt : Value) (A : Nat → Prop) (U : State) (H : Heap) (k : Nat) (c : xa_C) : Prop := match c with
  | .inl (kd, n, f) => (kd = 0 ∧ A (tr k) ∧ H[tr k]? = some (vp_cell cI (n, .inl f))) ∨ (kd = 1 ∧ va_T .byte (tr k) n (fun j => .int (f j)) A U H) ∨ (kd = 2 ∧ va_T .int (tr k) n (fun j => .int (f j)) A U H)
  | .inr (ci, fs) => (ci = 50 ∧ A (tr k) ∧ H[tr k]? = some (vp_cell cP (fs.length, .inr (.inr (.inr (.inr (xa_rf tr fs))))))) ∨ (ci = 60 ∧ va_O "java/lang/String" (tr k) A U H ∧ (∀ v, fs[0]? = some v → va_OF "java/lang/String" "value" "[B" (xa_v tr fmt v) (tr k) A U H) ∧ ∀ v, fs[1]? = some v → va_OF "java/lang/String" "coder" "B" (xa_v tr fmt v) (tr k) A U H) ∨ (ci < 12 ∧ A (tr k) ∧ va_at D vwCl (tr k, .inr (ci, fs.map (xa_v tr fmt))) H)
def xa_HR (D : va_G) (cI cP : ClassId) (tr : Nat → Nat) (fmt : Value) (A : Nat → Prop) (U : State) (h : xa_H) (H : Heap) : Prop := H.size = tr h.length ∧ 9 ≤ h.length ∧ ∀ (k : Nat) (c : xa_C), h[k]? = some c → xa_cell D cI cP tr fmt A U H k c
/-- where the cells lie: the first nine are old, the others one behind the other from b0 on -/
def xa_tr (tr : Nat → Nat) (b0 : Nat) : Prop := (∀ k, 9 ≤ k → tr k = b0 + (k - 9)) ∧ ∀ k, k < 9 → tr k < b0
theorem xa_tr.inj {tr : Nat → Nat} {b0 j k : Nat} (h : xa_tr tr b0) (hk : b0 ≤ tr k) (e : tr j = tr k) : j = k := by
  have hk9 : 9 ≤ k := by
    rcases Nat.lt_or_ge k 9 with q | q
    · have := h.2 k q; omega
    · exact q
  have hj9 : 9 ≤ j := by
    rcases Nat.lt_or_ge j 9 with q | q
    · have := h.2 j q; omega
    · exact q
  rw [h.1 j hj9, h.1 k hk9] at e
  omega
section XA1
variable {D : va_G} {cI cP : ClassId} {tr : Nat → Nat} {fmt : Value} {b0 : Nat} {U : State} {h : xa_H} {H H1 : Heap}
theorem xa_cell.lt {A : Nat → Prop} {k : Nat} {c : xa_C} (hc : xa_cell D cI cP tr fmt A U H k c) : tr k < H.size := by
  obtain ⟨kd, n, f⟩ | ⟨ci, fs⟩ := c
  · rcases hc with ⟨-, -, h⟩ | ⟨-, ⟨_, h, -⟩⟩ | ⟨-, ⟨_, h, -⟩⟩
    · exact (Array.getElem?_eq_some_iff.mp h).1
    · exact (Array.getElem?_eq_some_iff.mp h).1
    · exact (Array.getElem?_eq_some_iff.mp h).1
  · rcases hc with ⟨-, -, h⟩ | ⟨-, ⟨_, h, -⟩, -⟩ | ⟨-, -, h⟩
    · exact (Array.getElem?_eq_some_iff.mp h).1
    · exact (Array.getElem?_eq_some_iff.mp h).1
    · exact h.lt
theorem xa_cell.kept {A : Nat → Prop} {k : Nat} {c : xa_C} (hc : xa_cell D cI cP tr fmt A U H k c) (hq : H1[tr k]? = H[tr k]?) (ho : ∀ a : Nat, a < H.size → ¬ A a → H1[a]? = H[a]?) : xa_cell D cI cP tr fmt A U H1 k c := by
  obtain ⟨kd, n, f⟩ | ⟨ci, fs⟩ := c
  · rcases hc with ⟨h1, h2, h⟩ | ⟨h1, h⟩ | ⟨h1, h⟩
    · exact Or.inl ⟨h1, h2, hq.trans h⟩
    · exact Or.inr (Or.inl ⟨h1, h.kept ho⟩)
    · exact Or.inr (Or.inr ⟨h1, h.kept ho⟩)
  · rcases hc with ⟨h1, h2, h⟩ | ⟨h1, h2, h3, h4⟩ | ⟨h1, h2, h⟩
    · exact Or.inl ⟨h1, h2, hq.trans h⟩
    · exact Or.inr (Or.inl ⟨h1, h2.kept ho, fun v hv => (h3 v hv).kept ho, fun v hv => (h4 v hv).kept ho⟩)
    · exact Or.inr (Or.inr ⟨h1, h2, h.kept hq⟩)
theorem xa_cell.moved {A : Nat → Prop} {u : State} {k : Nat} {c : xa_C} (hvm : u.vm.Alike U.vm) (hc : xa_cell D cI cP tr fmt A u H k c) : xa_cell D cI cP tr fmt A U H k c := by
  obtain ⟨kd, n, f⟩ | ⟨ci, fs⟩ := c
  · rcases hc with h | ⟨h1, h⟩ | ⟨h1, h⟩
    · exact Or.inl h
    · exact Or.inr (Or.inl ⟨h1, va_T.moved hvm h⟩)
    · exact Or.inr (Or.inr ⟨h1, va_T.moved hvm h⟩)
  · rcases hc with h | ⟨h1, h2, h3, h4⟩ | h
    · exact Or.inl h
    · exact Or.inr (Or.inl ⟨h1, va_O.moved hvm h2, fun v hv => va_OF.moved hvm (h3 v hv), fun v hv => va_OF.moved hvm (h4 v hv)⟩)
    · exact Or.inr (Or.inr h)
theorem xa_HR.moved {A : Nat → Prop} {u : State} (hvm : u.vm.Alike U.vm) (hR : xa_HR D cI cP tr fmt A u h H) : xa_HR D cI cP tr fmt A U h H := ⟨hR.1, hR.2.1, fun k c hk => (hR.2.2 k c hk).moved hvm⟩
theorem xa_HR.set (hT : xa_tr tr b0) (hR : xa_HR D cI cP tr fmt (fun q => b0 ≤ q) U h H) {k : Nat} {c : xa_C} (hA : b0 ≤ tr k) (z : H1.size = H.size) (oq : ∀ q : Nat, q ≠ tr k → H1[q]? = H[q]?) (hc : xa_cell D cI cP tr fmt (fun q => b0 ≤ q) U H1 k c) : xa_HR D cI cP tr fmt (fun q => b0 ≤ q) U (h.set k c) H1 := by
  refine ⟨by rw [z, List.length_set]; exact hR.1, by rw [List.length_set]; exact hR.2.1, fun j c' hj => ?_⟩
  by_cases e : j = k
  · subst e
    have hlt : j < h.length := by
      have := (List.getElem?_eq_some_iff.mp hj).1
      rwa [List.length_set] at this
    rw [List.getElem?_set_self hlt] at hj
    cases hj
    exact hc
  · rw [List.getElem?_set_ne (fun q => e q.symm)] at hj
    exact (hR.2.2 j c' hj).kept (oq _ (fun q => e (hT.inj hA q))) (fun a _ ha => oq a (fun q => ha (by rw [q]; exact hA)))
theorem xa_HR.push (hT : xa_tr tr b0) (hR : xa_HR D cI cP tr fmt (fun q => b0 ≤ q) U h H) {c : xa_C} (z : H1.size = H.size + 1) (oq : ∀ q : Nat, q < H.size → H1[q]? = H[q]?) (hc : xa_cell D cI cP tr fmt (fun q => b0 ≤ q) U H1 h.length c) : xa_HR D cI cP tr fmt (fun q => b0 ≤ q) U (h ++ [c]) H1 := by
  refine ⟨?_, by rw [List.length_append]; have := hR.2.1; omega, fun j c' hj => ?_⟩
  · rw [z, hR.1, List.length_append, List.length_singleton, hT.1 _ hR.2.1, hT.1 _ (by have := hR.2.1; omega)]
    have := hR.2.1
    omega
  · by_cases e : j < h.length
    · rw [List.getElem?_append_left e] at hj
      have hc' := hR.2.2 j c' hj
      exact hc'.kept (oq _ hc'.lt) (fun a ha _ => oq a ha)
    · rw [List.getElem?_append_right (by omega)] at hj
      have hz : j - h.length < 1 := (List.getElem?_eq_some_iff.mp hj).1
      have hz0 : j - h.length = 0 := by omega
      rw [hz0] at hj
      cases hj
      have : j = h.length := by omega
      subst this
      exact hc
theorem xa_HR.top (hT : xa_tr tr b0) (hR : xa_HR D cI cP tr fmt (fun q => b0 ≤ q) U h H) : b0 ≤ tr h.length := by
  rw [hT.1 _ hR.2.1]
  omega
end XA1
/-- slots of a cell, of all cells -/
def xa_s1 (c : xa_C) : Nat := match c with
  | .inl (_, n, _) => n
  | .inr (_, fs) => fs.length
def xa_sl (h : xa_H) : Nat := (h.map xa_s1).sum
theorem xa_sl_app (h : xa_H) (c : xa_C) : xa_sl (h ++ [c]) = xa_sl h + xa_s1 c := by
  simp [xa_sl]
theorem xa_sl_set {h : xa_H} {k : Nat} {c c' : xa_C} (hk : h[k]? = some c) (he : xa_s1 c' = xa_s1 c) : xa_sl (h.set k c') = xa_sl h := by
  induction h generalizing k with
  | nil => simp at hk
  | cons a as ih =>
    cases k with
    | zero =>
      simp at hk
      subst hk
      simp [xa_sl, he]
    | succ k =>
      simp at hk
      have := ih hk
      simp [xa_sl] at this ⊢
      omega
