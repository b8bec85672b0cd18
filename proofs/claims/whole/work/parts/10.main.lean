/-! ===== the small machine's runs hold on the machine ===== -/
theorem xa_lk_mem {tb : List xa_I} {pc : Nat} {q : Jvm.ClassFile.Instr × Nat × List Nat × Int32} (h : xa_lk tb pc = some q) : (pc, q) ∈ tb := by
  induction tb with
  | nil => simp [xa_lk] at h
  | cons e es ih =>
    unfold xa_lk at h
    cases hb : Nat.beq e.1 pc with
    | true =>
      rw [hb] at h
      simp only [cond_true, Option.some.injEq] at h
      have := Nat.eq_of_beq_eq_true hb
      subst this
      subst h
      exact List.mem_cons_self
    | false =>
      rw [hb] at h
      exact List.mem_cons_of_mem _ (ih h)
section XA7
variable {i : Jvm.ClassFile.Instr} {len pc : Nat} {a : List Nat} {cv : Int32} {ls st : List Value} {h : xa_H}
set_option maxHeartbeats 4000000 in
theorem xa_mono {σ : xa_S} (hs : xa_step i len a cv pc ls st h = some (.inl σ)) : h.length ≤ σ.2.2.2.length ∧ xa_sl h ≤ xa_sl σ.2.2.2 := by
  cases i with
  | putfield k =>
    change xa_putf _ _ _ _ _ _ _ = _ at hs
    unfold xa_putf at hs
    split at hs
    · split at hs
      · rename_i ho
        split at hs
        · cases hs
          dsimp only
          rw [List.length_set, xa_sl_set ho (by simp [xa_s1])]
          exact ⟨Nat.le_refl _, Nat.le_refl _⟩
        · cases hs
      · cases hs
    · cases hs
  | iastore =>
    change xa_iast _ _ _ _ = _ at hs
    unfold xa_iast at hs
    split at hs
    · split at hs
      · rename_i kd n f ho
        split at hs
        · cases hs
          dsimp only
          rw [List.length_set, xa_sl_set ho (by simp [xa_s1])]
          exact ⟨Nat.le_refl _, Nat.le_refl _⟩
        · cases hs
      · cases hs
    · cases hs
  | aastore =>
    change xa_aast _ _ _ _ = _ at hs
    unfold xa_aast at hs
    split at hs
    · split at hs
      · rename_i ho hv
        split at hs
        · cases hs
          dsimp only
          rw [List.length_set, xa_sl_set ho (by simp [xa_s1])]
          exact ⟨Nat.le_refl _, Nat.le_refl _⟩
        · cases hs
      · cases hs
    · cases hs
  | newarray t =>
    change xa_newa _ _ _ _ = _ at hs
    unfold xa_newa at hs
    split at hs
    · split at hs
      · cases hs
        dsimp only
        rw [List.length_append, xa_sl_app]
        exact ⟨Nat.le_add_right _ _, Nat.le_add_right _ _⟩
      · cases hs
    · cases hs
  | anewarray t =>
    change xa_newq _ _ _ _ = _ at hs
    unfold xa_newq at hs
    split at hs
    · split at hs
      · cases hs
        dsimp only
        rw [List.length_append, xa_sl_app]
        exact ⟨Nat.le_add_right _ _, Nat.le_add_right _ _⟩
      · cases hs
    · cases hs
  | new k =>
    change xa_new _ _ _ _ _ = _ at hs
    unfold xa_new at hs
    cases hs
    dsimp only
    rw [List.length_append, xa_sl_app]
    exact ⟨Nat.le_add_right _ _, Nat.le_add_right _ _⟩
  | invokestatic k =>
    unfold xa_step at hs
    dsimp only at hs
    split at hs
    · unfold xa_copy at hs
      split at hs
      · split at hs
        · rename_i k0 m0 f k1 m1 g hb0 ha0
          split at hs
          · cases hs
            dsimp only
            rw [List.length_set, xa_sl_set ha0 (by simp [xa_s1])]
            exact ⟨Nat.le_refl _, Nat.le_refl _⟩
          · cases hs
        · cases hs
      · cases hs
    · unfold xa_max at hs
      repeat' split at hs
      all_goals first | (cases hs; exact ⟨Nat.le_refl _, Nat.le_refl _⟩) | cases hs
    · unfold xa_min at hs
      repeat' split at hs
      all_goals first | (cases hs; exact ⟨Nat.le_refl _, Nat.le_refl _⟩) | cases hs
    · unfold xa_call at hs
      split at hs <;> cases hs
  | invokevirtual k =>
    change xa_vcall _ _ _ _ _ _ _ = _ at hs
    unfold xa_vcall xa_call at hs
    repeat' split at hs
    all_goals cases hs
  | invokespecial k =>
    unfold xa_step at hs
    dsimp only at hs
    split at hs
    · unfold xa_oinit at hs
      repeat' split at hs
      all_goals first | (cases hs; exact ⟨Nat.le_refl _, Nat.le_refl _⟩) | cases hs
    · unfold xa_icall xa_call at hs
      repeat' split at hs
      all_goals cases hs
  | _ =>
    unfold xa_step at hs
    dsimp only at hs
    first
      | (split at hs
         · cases hs; exact ⟨Nat.le_refl _, Nat.le_refl _⟩
         · cases hs)
      | (split at hs <;> cases hs)
      | (cases hs; exact ⟨Nat.le_refl _, Nat.le_refl _⟩)
      | (simp only [xa_ldi, xa_ldl, xa_lda, xa_sti, xa_sta, xa_inc, xa_if1, xa_if2, xa_sw, xa_getf, xa_iald, xa_bald, xa_alen, xa_aald, xa_gets, xa_ldc, xa_nx] at hs
         repeat' split at hs
         all_goals first | (cases hs; exact ⟨Nat.le_refl _, Nat.le_refl _⟩) | cases hs)
set_option maxHeartbeats 4000000 in
theorem xa_retf {r : xa_R} (hs : xa_step i len a cv pc ls st h = some (.inr (.inl r))) : (i = .ireturn ∧ ∃ v, st = [.int v] ∧ r = (some (.int v), h)) ∨ (i = .return_ ∧ st = [] ∧ r = (none, h)) := by
  cases i with
  | ireturn =>
    unfold xa_step at hs
    dsimp only at hs
    split at hs
    · cases hs
      exact Or.inl ⟨rfl, _, rfl, rfl⟩
    · cases hs
  | return_ =>
    unfold xa_step at hs
    dsimp only at hs
    split at hs
    · cases hs
      exact Or.inr ⟨rfl, rfl, rfl⟩
    · cases hs
  | _ =>
    exfalso
    unfold xa_step at hs
    dsimp only at hs
    first
      | (split at hs <;> cases hs; done)
      | (cases hs; done)
      | (simp only [xa_ldi, xa_ldl, xa_lda, xa_sti, xa_sta, xa_inc, xa_if1, xa_if2, xa_sw, xa_getf, xa_putf, xa_iald, xa_bald, xa_iast, xa_alen, xa_newa, xa_newq, xa_new, xa_aald, xa_aast, xa_gets, xa_ldc, xa_copy, xa_max, xa_min, xa_call, xa_vcall, xa_icall, xa_oinit, xa_nx] at hs
         repeat' split at hs
         all_goals cases hs)
set_option maxHeartbeats 4000000 in
theorem xa_callf {mi : Nat} {as : List Value} {f : Nat × List Value × List Value} (hs : xa_step i len a cv pc ls st h = some (.inr (.inr (mi, as, f)))) : mi = a.getD 1 0 ∧ ((∃ k, i = .invokestatic k ∧ (a.getD 0 0 ≠ 2 ∧ a.getD 0 0 ≠ 3 ∧ a.getD 0 0 ≠ 4) ∧ xa_call (pc + len) (a.getD 1 0) (a.getD 2 0) ls st = some (.inr (.inr (mi, as, f)))) ∨ (∃ k, i = .invokevirtual k ∧ xa_vcall (pc + len) (a.getD 1 0) (a.getD 2 0) (a.getD 3 0) ls st h = some (.inr (.inr (mi, as, f)))) ∨ (∃ k, i = .invokespecial k ∧ a.getD 0 0 ≠ 9 ∧ xa_icall (pc + len) (a.getD 1 0) (a.getD 2 0) ls st = some (.inr (.inr (mi, as, f))))) := by
  cases i with
  | invokestatic k =>
    unfold xa_step at hs
    dsimp only at hs
    split at hs
    · exfalso
      simp only [xa_copy, xa_nx] at hs
      repeat' split at hs
      all_goals cases hs
    · exfalso
      simp only [xa_max, xa_nx] at hs
      repeat' split at hs
      all_goals cases hs
    · exfalso
      simp only [xa_min, xa_nx] at hs
      repeat' split at hs
      all_goals cases hs
    · rename_i h2 h3 h4
      have hs' := hs
      unfold xa_call at hs'
      split at hs'
      · cases hs'
        exact ⟨rfl, Or.inl ⟨k, rfl, ⟨h2, h3, h4⟩, hs⟩⟩
      · cases hs'
  | invokevirtual k =>
    have hs1 : xa_vcall (pc + len) (a.getD 1 0) (a.getD 2 0) (a.getD 3 0) ls st h = some (.inr (.inr (mi, as, f))) := hs
    have hs' := hs1
    unfold xa_vcall xa_call at hs'
    repeat' split at hs'
    all_goals first | (cases hs'; exact ⟨rfl, Or.inr (Or.inl ⟨k, rfl, hs1⟩)⟩) | cases hs'
  | invokespecial k =>
    unfold xa_step at hs
    dsimp only at hs
    split at hs
    · exfalso
      simp only [xa_oinit, xa_nx] at hs
      repeat' split at hs
      all_goals cases hs
    · rename_i h9
      have hs' := hs
      unfold xa_icall xa_call at hs'
      repeat' split at hs'
      all_goals first | (cases hs'; exact ⟨rfl, Or.inr (Or.inr ⟨k, rfl, h9, hs⟩)⟩) | cases hs'
  | _ =>
    exfalso
    unfold xa_step at hs
    dsimp only at hs
    first
      | (split at hs <;> cases hs; done)
      | (cases hs; done)
      | (simp only [xa_ldi, xa_ldl, xa_lda, xa_sti, xa_sta, xa_inc, xa_if1, xa_if2, xa_sw, xa_getf, xa_putf, xa_iald, xa_bald, xa_iast, xa_alen, xa_newa, xa_newq, xa_new, xa_aald, xa_aast, xa_gets, xa_ldc, xa_nx] at hs
         repeat' split at hs
         all_goals cases hs)
end XA7
