/-! ===== one step, a method, all methods ===== -/
theorem xa_df_v (tr : Nat → Nat) (fmt : Value) : ∀ ci, (xa_df ci).map (xa_v tr fmt) = xa_df ci := by
  intro ci
  unfold xa_df
  split <;> rfl
section XA8
variable {p : Program} {l : Launch} {e : Env} {R : Room} {s : State} {m : MethodId} {args : Array Value} {below : List Frame} {meth : Method} {c : Code} {Q : State → Prop} {D : va_G} {cI cP : ClassId} {tr : Nat → Nat} {fmt : Value} {b0 nL n0 s0 : Nat} {cc : ByteArray} {ms : List xa_M} {y : MethodName} {ret : Option FieldType} {pc len : Nat} {a : List Nat} {cv : Int32} {ls st : List Value} {h : xa_H} {σ : xa_S} {i : Jvm.ClassFile.Instr}
set_option maxHeartbeats 8000000 in
theorem xs_next (hx : p.tables.exec = Jvm.exec) (hb : c.code = cc) (hml : c.maxLocals = nL) (hf : fmt.category = 1) (hown : s.vm.findClass y.cls = some m.cls) (hnm : y.name = "<init>" → meth.name = y.name) (hts : ∀ w ∈ xa_gw, w.before args s = true) (hI : xa_Inv D cI cP tr fmt (fun q => b0 ≤ q) s) (hT : xa_tr tr b0) (hRf : 1 ≤ R.frames) (hRl : 64 ≤ R.locals)
    (hok : xa_okB ms y ret pc i len a cv = true) (hdg : decode cc pc = .ok (i, len)) (hs : xa_step i len a cv pc ls st h = some (.inl σ)) (hRc0 : h.length ≤ n0 + R.cells) (hRs0 : xa_sl h ≤ s0 + R.slots) (hRc : σ.2.2.2.length ≤ n0 + R.cells) (hRs : xa_sl σ.2.2.2 ≤ s0 + R.slots) (kk : xa_WW p l e R s m args below meth c Q D cI cP tr fmt b0 nL n0 s0 σ) : xa_WW p l e R s m args below meth c Q D cI cP tr fmt b0 nL n0 s0 (pc, ls, st, h) := by
  cases i with
  | iload k =>
    obtain ⟨rfl, h2⟩ : len = 2 ∧ a.getD 0 0 = k := of_decide_eq_true hok
    exact xs_ldi (k := a.getD 0 0) (n2 := pc + 2) (fun hl k2 => lv_iload hx hb (by rw [hdg, h2]) hl k2) hs kk
  | iload_n k =>
    obtain ⟨rfl, h2⟩ : len = 1 ∧ (k : Nat) = a.getD 0 0 := of_decide_eq_true hok
    exact xs_ldi (k := a.getD 0 0) (n2 := pc + 1) (fun hl k2 => lv_iload_n hx hb hdg h2 hl k2) hs kk
  | lload_n k =>
    obtain ⟨rfl, h2⟩ : len = 1 ∧ (k : Nat) = a.getD 0 0 := of_decide_eq_true hok
    exact xs_ldl (k := a.getD 0 0) (n2 := pc + 1) (fun hl k2 => lv_lload_n hx hb hdg h2 hl k2) hs kk
  | aload k =>
    obtain ⟨rfl, h2⟩ : len = 2 ∧ a.getD 0 0 = k := of_decide_eq_true hok
    exact xs_lda (k := a.getD 0 0) (n2 := pc + 2) (fun hl k2 => lv_aload hx hb (by rw [hdg, h2]) hl k2) hs kk
  | aload_n k =>
    obtain ⟨rfl, h2⟩ : len = 1 ∧ (k : Nat) = a.getD 0 0 := of_decide_eq_true hok
    exact xs_lda (k := a.getD 0 0) (n2 := pc + 1) (fun hl k2 => lv_aload_n hx hb hdg h2 hl k2) hs kk
  | istore k =>
    obtain ⟨rfl, h2⟩ : len = 2 ∧ a.getD 0 0 = k := of_decide_eq_true hok
    exact xs_sti (k := a.getD 0 0) (n2 := pc + 2) hf (fun hl hk k2 => lv_istore hx hb (by rw [hdg, h2]) hl hk rfl k2) hs kk
  | istore_n k =>
    obtain ⟨rfl, h2⟩ : len = 1 ∧ (k : Nat) = a.getD 0 0 := of_decide_eq_true hok
    exact xs_sti (k := a.getD 0 0) (n2 := pc + 1) hf (fun hl hk k2 => lv_istore_n hx hb hdg h2 hl hk rfl k2) hs kk
  | astore_n k =>
    obtain ⟨rfl, h2⟩ : len = 1 ∧ (k : Nat) = a.getD 0 0 := of_decide_eq_true hok
    exact xs_sta (k := a.getD 0 0) (n2 := pc + 1) hf (fun hl hk k2 => lv_astore_n hx hb hdg h2 hl hk rfl k2) hs kk
  | iinc k n =>
    obtain ⟨rfl, h2, h3⟩ : len = 3 ∧ a.getD 0 0 = k ∧ Int32.ofInt n = cv := of_decide_eq_true hok
    exact xs_inc (k := a.getD 0 0) hf hx hb rfl h3 (by rw [hdg, h2]) hs kk
  | goto off =>
    obtain ⟨rfl, h2⟩ : len = 3 ∧ (pc : Int) + off = ((a.getD 0 0 : Nat) : Int) := of_decide_eq_true hok
    cases hs
    intro rl H locs cells slots hl hR hS hc1 hc2
    exact lv_goto hx hb hdg h2 (kk rl H locs cells slots hl hR hS hc1 hc2)
  | ifCond cd off =>
    obtain ⟨rfl, h2⟩ : len = 3 ∧ (pc : Int) + off = ((a.getD 0 0 : Nat) : Int) := of_decide_eq_true hok
    exact xs_if1 hx hb hdg h2 hs kk
  | if_icmp cd off =>
    obtain ⟨rfl, h2⟩ : len = 3 ∧ (pc : Int) + off = ((a.getD 0 0 : Nat) : Int) := of_decide_eq_true hok
    exact xs_if2 hx hb hdg h2 hs kk
  | tableswitch d lo hi offs =>
    unfold xa_okB at hok
    simp only [Bool.and_eq_true, decide_eq_true_eq] at hok
    obtain ⟨⟨h1, h2, h3⟩, h4⟩ := hok
    refine xs_sw hx hb h1 h2 h3 (fun j hj => ?_) hdg hs kk
    have h5 := List.all_eq_true.mp h4 j (List.mem_range.mpr hj)
    cases ho : offs[j]? with
    | none => rw [ho] at h5; cases h5
    | some off => rw [ho] at h5; exact ⟨off, rfl, of_decide_eq_true h5⟩
  | getfield k =>
    unfold xa_okB at hok
    simp only [Bool.and_eq_true, decide_eq_true_eq] at hok
    obtain ⟨rfl, h2⟩ := hok
    refine xs_getf (ci := a.getD 0 0) (fk := a.getD 1 0) hx hb hown hts hI ?_ hdg hs kk
    split at h2
    · rename_i h60
      refine Or.inl ⟨h60, ?_⟩
      split at h2
      · rename_i h0
        exact Or.inl ⟨h0, xa_in_gw h2⟩
      · rename_i h0
        exact Or.inr ⟨h0, xa_in_gw h2⟩
      · cases h2
    · simp only [Bool.and_eq_true, decide_eq_true_eq] at h2
      refine Or.inr ⟨h2.1, ?_⟩
      have h3 := h2.2
      split at h3
      · rename_i q hq
        simp only [Bool.and_eq_true, decide_eq_true_eq] at h3
        exact ⟨q, hq, h3.1, xa_in_gw h3.2⟩
      · cases h3
  | putfield k =>
    unfold xa_okB at hok
    simp only [Bool.and_eq_true, decide_eq_true_eq] at hok
    obtain ⟨⟨rfl, h12⟩, h2⟩ := hok
    split at h2
    · rename_i q hq
      simp only [Bool.and_eq_true, decide_eq_true_eq] at h2
      obtain ⟨⟨⟨h3, h4⟩, h5⟩, h6⟩ := h2
      split at h5
      · rename_i ty hty
        refine xs_putf (ci := a.getD 0 0) (fk := a.getD 1 0) (kd := a.getD 2 0) hx hb hown hts hI hT h12 hq h3 (xa_in_gw h4) hty ?_ ?_ hdg hs kk
        · intro v hv
          split at h5
          · rename_i h0
            have hti : ty = .int := of_decide_eq_true h5
            subst hti
            rw [h0] at hv
            cases v <;> first | exact ⟨rfl, rfl⟩ | (simp [xa_kd] at hv)
          · rename_i h0
            cases v with
            | int x => exact absurd (Nat.eq_of_beq_eq_true hv) h0
            | ref x => cases ty <;> first | exact ⟨rfl, rfl⟩ | (simp [xa_isref] at h5)
            | _ => simp [xa_kd] at hv
        · intro hfn
          rw [if_pos hfn] at h6
          have h7 := of_decide_eq_true h6
          exact ⟨(hnm h7.1).trans h7.1, h7.2⟩
      · cases h5
    · cases h2
  | iaload =>
    obtain rfl : len = 1 := of_decide_eq_true hok
    exact xs_iald hx hb hI hdg hs kk
  | baload =>
    obtain rfl : len = 1 := of_decide_eq_true hok
    exact xs_bald hx hb hdg hs kk
  | iastore =>
    obtain rfl : len = 1 := of_decide_eq_true hok
    exact xs_iast hx hb hI hT hdg hs kk
  | arraylength =>
    obtain rfl : len = 1 := of_decide_eq_true hok
    exact xs_alen hx hb hI hdg hs kk
  | aaload =>
    obtain rfl : len = 1 := of_decide_eq_true hok
    exact xs_aald hx hb hI hdg hs kk
  | aastore =>
    obtain rfl : len = 1 := of_decide_eq_true hok
    exact xs_aast hx hb hI hT hdg hs kk
  | newarray t =>
    unfold xa_okB at hok
    simp only [Bool.and_eq_true, decide_eq_true_eq] at hok
    obtain ⟨⟨rfl, rfl⟩, h2⟩ := hok
    exact xs_newa hx hb hts hI hT (xa_in_gw h2) hdg hs hRc hRs kk
  | anewarray k =>
    unfold xa_okB at hok
    simp only [Bool.and_eq_true, decide_eq_true_eq] at hok
    obtain ⟨rfl, h2⟩ := hok
    exact xs_newq hx hb hown hts hI hT (xa_in_gw h2) hdg hs hRc hRs kk
  | new k =>
    unfold xa_okB at hok
    simp only [Bool.and_eq_true, decide_eq_true_eq] at hok
    obtain ⟨rfl, h2⟩ := hok
    split at h2
    · rename_i q hq
      simp only [Bool.and_eq_true, decide_eq_true_eq] at h2
      obtain ⟨⟨⟨⟨h3, h4⟩, h5⟩, h6⟩, h7⟩ := h2
      have h12 : a.getD 0 0 < 12 := (List.getElem?_eq_some_iff.mp hq).1
      refine xs_new (ci := a.getD 0 0) hx hb hown hts hI hT h12 hq (xa_in_gw h3) (xa_in_gw h4) (xa_in_gw h5) h6 (fun j hj => ?_) hdg hs hRc hRs kk
      have h8 := List.all_eq_true.mp h7 j (List.mem_range.mpr hj)
      rw [xa_df_v]
      unfold xa_ty
      cases hp : parseFieldDescriptor (q.2.1 j).2.2.1 with
      | none => rw [hp] at h8; cases h8
      | some ty => rw [hp] at h8; exact of_decide_eq_true h8
    · cases h2
  | getstatic k =>
    unfold xa_okB at hok
    simp only [Bool.and_eq_true, decide_eq_true_eq] at hok
    obtain ⟨rfl, h2⟩ := hok
    refine xs_gets (which := a.getD 0 0) hx hb hown hts hI ?_ ?_ hdg hs kk
    · intro h0
      rw [h0] at h2
      exact xa_in_gw h2
    · intro h0
      split at h2
      · rename_i h1; exact absurd h1 h0
      · exact xa_in_gw h2
  | ldc k =>
    unfold xa_okB at hok
    simp only [Bool.and_eq_true, decide_eq_true_eq] at hok
    obtain ⟨rfl, h2⟩ := hok
    refine xs_ldc (which := a.getD 0 0) hx hb hown hts hI ?_ ?_ hdg hs kk
    · intro h0
      rw [h0] at h2
      exact xa_in_gw h2
    · intro j h0
      rw [h0] at h2
      try dsimp only at h2
      simp only [Bool.and_eq_true, decide_eq_true_eq, List.any_eq_true] at h2
      obtain ⟨h3, ⟨q1, q2, q3⟩, h4, h5, h6⟩ := h2
      dsimp only at h5 h6
      subst h5
      subst h6
      exact ⟨h3, q2, h4⟩
  | invokestatic k =>
    unfold xa_okB at hok
    simp only [Bool.and_eq_true, decide_eq_true_eq] at hok
    obtain ⟨rfl, h2⟩ := hok
    unfold xa_step at hs
    dsimp only at hs
    split at hs
    · rename_i h0
      rw [h0] at h2
      try dsimp only at h2
      simp only [Bool.and_eq_true] at h2
      exact xs_copy hx hb hml hf hown hts hI hT (xa_in_gw h2.1.1.1) (xa_in_gw h2.1.1.2) (xa_in_gw h2.1.2) (xa_in_gw h2.2) hRf hRl hdg hs kk
    · rename_i h0
      rw [h0] at h2
      try dsimp only at h2
      simp only [Bool.and_eq_true] at h2
      exact xs_max hx hb hml hf hown hts (xa_in_gw h2.1.1.1) (xa_in_gw h2.1.1.2) (xa_in_gw h2.1.2) (xa_in_gw h2.2) hRf hRl hRc0 hRs0 hdg hs kk
    · rename_i h0
      rw [h0] at h2
      try dsimp only at h2
      simp only [Bool.and_eq_true] at h2
      exact xs_min hx hb hml hf hown hts (xa_in_gw h2.1.1.1) (xa_in_gw h2.1.1.2) (xa_in_gw h2.1.2) (xa_in_gw h2.2) hRf hRl hRc0 hRs0 hdg hs kk
    · unfold xa_call at hs
      split at hs <;> cases hs
  | invokevirtual k =>
    exfalso
    change xa_vcall _ _ _ _ _ _ _ = _ at hs
    unfold xa_vcall xa_call at hs
    repeat' split at hs
    all_goals cases hs
  | invokespecial k =>
    unfold xa_okB at hok
    simp only [Bool.and_eq_true, decide_eq_true_eq] at hok
    obtain ⟨rfl, h2⟩ := hok
    unfold xa_step at hs
    dsimp only at hs
    split at hs
    · rename_i h0
      rw [h0] at h2
      try dsimp only at h2
      simp only [Bool.and_eq_true] at h2
      exact xs_oinit hx hb hml hf hown hts (xa_in_gw h2.1.1) (xa_in_gw h2.1.2) (xa_in_gw h2.2) hRf hRl hdg hs kk
    · unfold xa_icall xa_call at hs
      repeat' split at hs
      all_goals cases hs
  | ireturn =>
    exfalso
    unfold xa_step at hs
    dsimp only at hs
    split at hs <;> cases hs
  | return_ =>
    exfalso
    unfold xa_step at hs
    dsimp only at hs
    split at hs <;> cases hs
  | _ =>
    unfold xa_step at hs
    dsimp only at hs
    split at hs
    · rename_i st' hst
      cases hs
      intro rl H locs cells slots hl hR hS hc1 hc2
      exact xs_alu (own := y.cls) (len := len) (a := a) (cv := cv) hx hb hown hts (by exact hok) hdg hst (kk rl H locs cells slots hl hR hS hc1 hc2)
    · cases hs
/-- an entry of a table, with its bytes -/
def xa_okI (ms : List xa_M) (y : MethodName) (cc : ByteArray) (ret : Option FieldType) (q : xa_I) : Bool := decide (decode cc q.1 = .ok (q.2.1, q.2.2.1)) && xa_okB ms y ret q.1 q.2.1 q.2.2.1 q.2.2.2.1 q.2.2.2.2
theorem xa_narrow {k : Nat} {v : Int32} (hr : match k with
    | 0 => ret = some .int
    | 1 => ret = some .boolean
    | 2 => ret = some .char
    | _ => ret = some .byte) (h : xa_rok k v) : ∃ ty, ret = some ty ∧ narrow ty (.int v) = .int v := by
  unfold xa_rok at h
  split at h
  · exact ⟨.int, hr, rfl⟩
  · refine ⟨.boolean, hr, ?_⟩
    rcases h with rfl | rfl <;> decide +kernel
  · refine ⟨.char, hr, ?_⟩
    show Value.int _ = _
    congr 1
  · rename_i k0 k1 k2
    match k, k0, k1, k2, hr with
    | 0, k0, _, _, _ => exact absurd rfl k0
    | 1, _, k1, _, _ => exact absurd rfl k1
    | 2, _, _, k2, _ => exact absurd rfl k2
    | k + 3, _, _, _, hr => exact ⟨.byte, hr, by rw [narrow_byte, h]⟩
end XA8
