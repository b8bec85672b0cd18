/-! ===== a method's run, and all methods by the depth of calls ===== -/
section XA9
variable {p : Program} {l : Launch} {e : Env} {R : Room} {s : State} {m : MethodId} {args : Array Value} {below : List Frame} {meth : Method} {c : Code} {Q : State → Prop} {D : va_G} {cI cP : ClassId} {tr : Nat → Nat} {fmt : Value} {b0 nL n0 s0 : Nat} {cc : ByteArray} {ms : List xa_M} {y : MethodName} {ret : Option FieldType}
set_option maxHeartbeats 4000000 in
theorem xs_main {d : Nat} {C : Nat → List Value → xa_H → Option Value → xa_H → Prop} {tb : List xa_I} {q : xa_R} (hx : p.tables.exec = Jvm.exec) (hb : c.code = cc) (hml : c.maxLocals = nL) (hf : fmt.category = 1) (hown : s.vm.findClass y.cls = some m.cls) (hnm : y.name = "<init>" → meth.name = y.name) (hts : ∀ w ∈ xa_gw, w.before args s = true) (hI : xa_Inv D cI cP tr fmt (fun q => b0 ≤ q) s) (hT : xa_tr tr b0) (hRf : d + 1 ≤ R.frames) (hRl : 64 * (d + 1) ≤ R.locals)
    (hms : ∀ M ∈ ms, xa_okC M = true) (htb : ∀ w ∈ tb, w.2.1 = .nop ∨ xa_okI ms y cc ret w = true)
    (hC : ∀ mi as h r h', C mi as h r h' → (h.length ≤ h'.length ∧ xa_sl h ≤ xa_sl h') ∧ ∀ M, ms[mi]? = some M → xa_Met l D cI cP tr fmt b0 d M as h r h')
    (hRc : q.2.length ≤ n0 + R.cells) (hRs : xa_sl q.2 ≤ s0 + R.slots)
    (hfin1 : ∀ (pc : Nat) (rl : Array Slot) (H : Heap) (locs : List Loc) (cells slots : Nat) (v : Int32) (ty : FieldType), decode cc pc = .ok (.ireturn, 1) → xa_HR D cI cP tr fmt (fun q => b0 ≤ q) s q.2 H → va_S (fun q => b0 ≤ q) s.heap H locs → n0 + cells = q.2.length → s0 + slots = xa_sl q.2 → q.1 = some (.int v) → ret = some ty → narrow ty (.int v) = .int v → W p l e R s m args below meth c H locs cells slots Q (F0 m pc rl [.int v]))
    (hfin2 : ∀ (pc : Nat) (rl : Array Slot) (H : Heap) (locs : List Loc) (cells slots : Nat), decode cc pc = .ok (.return_, 1) → xa_HR D cI cP tr fmt (fun q => b0 ≤ q) s q.2 H → va_S (fun q => b0 ≤ q) s.heap H locs → n0 + cells = q.2.length → s0 + slots = xa_sl q.2 → q.1 = none → ret = none → W p l e R s m args below meth c H locs cells slots Q (F0 m pc rl [])) :
    ∀ (n : Nat) (σ : xa_S), xa_ev C tb n σ q → (σ.2.2.2.length ≤ q.2.length ∧ xa_sl σ.2.2.2 ≤ xa_sl q.2) ∧ xa_WW p l e R s m args below meth c Q D cI cP tr fmt b0 nL n0 s0 σ := by
  intro n
  induction n with
  | zero => intro σ h; exact h.elim
  | succ n ih =>
    intro σ hev
    obtain ⟨pc, ls, st, h⟩ := σ
    unfold xa_ev at hev
    split at hev
    · exact hev.elim
    · rename_i i len a cv hlk
      have hok := htb _ (xa_lk_mem hlk)
      rcases hok with hnop | hok
      · have hnop : i = .nop := hnop
        subst hnop
        exact hev.elim
      unfold xa_okI at hok
      simp only [Bool.and_eq_true, decide_eq_true_eq] at hok
      obtain ⟨hdg, hok⟩ := hok
      split at hev
      · exact hev.elim
      · rename_i σ' hst
        obtain ⟨hm, hW⟩ := ih σ' hev
        have hm2 := xa_mono hst
        refine ⟨⟨Nat.le_trans hm2.1 hm.1, Nat.le_trans hm2.2 hm.2⟩, ?_⟩
        exact xs_next hx hb hml hf hown hnm hts hI hT (by omega) (by omega) hok hdg hst (by have := Nat.le_trans hm2.1 hm.1; omega) (by have := Nat.le_trans hm2.2 hm.2; omega) (by have := hm.1; omega) (by have := hm.2; omega) hW
      · rename_i r hst
        obtain ⟨hfine, rfl⟩ := hev
        rcases xa_retf hst with ⟨rfl, v, rfl, rfl⟩ | ⟨rfl, rfl, rfl⟩
        · refine ⟨⟨Nat.le_refl _, Nat.le_refl _⟩, ?_⟩
          intro rl H locs cells slots hl hR hS hc1 hc2
          unfold xa_okB at hok
          simp only [Bool.and_eq_true, decide_eq_true_eq] at hok
          obtain ⟨rfl, hok⟩ := hok
          obtain ⟨ty, ht1, ht2⟩ := xa_narrow (k := a.getD 0 0) (v := v) (ret := ret) (by
            generalize a.getD 0 0 = k at hok ⊢
            match k, hok with
            | 0, hok => have h9 : ret = some .int := of_decide_eq_true hok; exact h9
            | 1, hok => have h9 : ret = some .boolean := of_decide_eq_true hok; exact h9
            | 2, hok => have h9 : ret = some .char := of_decide_eq_true hok; exact h9
            | k + 3, hok => have h9 : ret = some .byte := of_decide_eq_true hok; exact h9) hfine
          exact hfin1 pc rl H locs cells slots v ty hdg hR hS hc1 hc2 rfl ht1 ht2
        · refine ⟨⟨Nat.le_refl _, Nat.le_refl _⟩, ?_⟩
          intro rl H locs cells slots hl hR hS hc1 hc2
          obtain ⟨rfl, h2⟩ : len = 1 ∧ ret = none := of_decide_eq_true hok
          exact hfin2 pc rl H locs cells slots hdg hR hS hc1 hc2 rfl h2
      · rename_i mi as pc' ls' st' hst
        obtain ⟨r, h', hc, hev⟩ := hev
        obtain ⟨⟨hm1, hm2⟩, hMet⟩ := hC mi as h r h' hc
        obtain ⟨⟨hm3, hm4⟩, hW⟩ := ih _ hev
        dsimp only at hm3 hm4
        refine ⟨⟨Nat.le_trans hm1 hm3, Nat.le_trans hm2 hm4⟩, ?_⟩
        obtain ⟨rfl, hcase⟩ := xa_callf hst
        rcases hcase with ⟨k, rfl, ⟨n2, n3, n4⟩, hcall⟩ | ⟨k, rfl, hcall⟩ | ⟨k, rfl, n9, hcall⟩
        · unfold xa_okB at hok
          simp only [Bool.and_eq_true, decide_eq_true_eq] at hok
          obtain ⟨rfl, hok⟩ := hok
          unfold xa_call at hcall
          split at hcall
          · rename_i hcc
            cases hcall
            split at hok
            · rename_i z; exact absurd z n2
            · rename_i z; exact absurd z n3
            · rename_i z; exact absurd z n4
            · split at hok
              · rename_i M hM
                simp only [Bool.and_eq_true] at hok
                exact xs_calls false hx hb hml hf hown hts hI (xa_cw_of (hms M (List.mem_of_getElem? hM))) hok.1.1 (fun _ => xa_in_gw hok.1.2) (fun z => by cases z) (xa_in_gw hok.2) hRf hRl (hMet M hM) hm1 hm2 (by omega) (by omega) (Nat.le_of_ble_eq_true hcc.1) hcc.2 hdg hW
              · cases hok
            · split at hok
              · rename_i M hM
                simp only [Bool.and_eq_true, decide_eq_true_eq] at hok
                exact xs_calls true hx hb hml hf hown hts hI (xa_cw_of (hms M (List.mem_of_getElem? hM))) hok.1.1 (fun z => by cases z) (fun _ => xa_nest_of hok.1.2) (xa_in_gw hok.2) hRf hRl (hMet M hM) hm1 hm2 (by omega) (by omega) (Nat.le_of_ble_eq_true hcc.1) hcc.2 hdg hW
              · cases hok
            · cases hok
          · cases hcall
        · unfold xa_okB at hok
          simp only [Bool.and_eq_true, decide_eq_true_eq] at hok
          obtain ⟨rfl, hok⟩ := hok
          unfold xa_vcall xa_call at hcall
          split at hcall
          · rename_i o ho
            split at hcall
            · rename_i ci fs hcell
              split at hcall
              · rename_i hci
                split at hcall
                · rename_i hcc
                  cases hcall
                  split at hok
                  · rename_i M hM
                    simp only [Bool.and_eq_true] at hok
                    obtain ⟨⟨⟨⟨h1, h2⟩, h3⟩, h4⟩, h5⟩ := hok
                    refine xs_callv hx hb hml hf hown hts hI (xa_cw_of (hms M (List.mem_of_getElem? hM))) h1 (xa_in_gw h2) (xa_in_gw h3) (xa_in_gw h4) (ci := ci) ?_ hRf hRl (hMet M hM) hm1 hm2 (by omega) (by omega) ho hcell hcc.2 hdg hW
                    split at h5
                    · rename_i z
                      exact Or.inl ⟨hci.trans z, of_decide_eq_true h5⟩
                    · simp only [Bool.and_eq_true, decide_eq_true_eq] at h5
                      refine Or.inr ⟨by rw [hci]; exact h5.1, ?_⟩
                      have h6 := h5.2
                      split at h6
                      · rename_i q hq
                        exact ⟨q, by rw [hci]; exact hq, of_decide_eq_true h6⟩
                      · cases h6
                  · cases hok
                · cases hcall
              · cases hcall
            · cases hcall
          · cases hcall
        · unfold xa_okB at hok
          simp only [Bool.and_eq_true, decide_eq_true_eq] at hok
          obtain ⟨rfl, hok⟩ := hok
          unfold xa_icall xa_call at hcall
          split at hcall
          · rename_i o ho
            split at hcall
            · rename_i hcc
              cases hcall
              split at hok
              · rename_i z; exact absurd z n9
              · split at hok
                · rename_i M hM
                  simp only [Bool.and_eq_true, decide_eq_true_eq] at hok
                  exact xs_calli false hx hb hml hf hown hts hI (xa_cw_of (hms M (List.mem_of_getElem? hM))) hok.1.1.1 (fun _ => xa_in_gw hok.1.1.2) (fun z => by cases z) (xa_in_gw hok.1.2) hok.2.1 hok.2.2 hRf hRl (hMet M hM) hm1 hm2 (by omega) (by omega) ho hcc.2 hdg hW
                · cases hok
              · split at hok
                · rename_i M hM
                  simp only [Bool.and_eq_true, decide_eq_true_eq] at hok
                  exact xs_calli true hx hb hml hf hown hts hI (xa_cw_of (hms M (List.mem_of_getElem? hM))) hok.1.1.1 (fun z => by cases z) (fun _ => xa_nest_of hok.1.1.2) (xa_in_gw hok.1.2) hok.2.1 hok.2.2 hRf hRl (hMet M hM) hm1 hm2 (by omega) (by omega) ho hcc.2 hdg hW
                · cases hok
              · cases hok
            · cases hcall
          · cases hcall
end XA9
/-- a method and its table -/
def xa_okT (ms : List xa_M) (M : xa_M) : Bool := plainName M.1.cls && xa_okC M && M.2.2.2.2.all (fun w => (match w.2.1 with
  | .nop => true
  | _ => false) || xa_okI ms M.1 M.2.1 M.2.2.2.1 w)
theorem xa_okT_tb {ms : List xa_M} {M : xa_M} (htb : M.2.2.2.2.all (fun w => (match w.2.1 with
  | .nop => true
  | _ => false) || xa_okI ms M.1 M.2.1 M.2.2.2.1 w) = true) : ∀ w ∈ M.2.2.2.2, w.2.1 = .nop ∨ xa_okI ms M.1 M.2.1 M.2.2.2.1 w = true := by
  intro w hw
  have h1 := List.all_eq_true.mp htb w hw
  rcases Bool.or_eq_true _ _ ▸ h1 with h2 | h2
  · left
    split at h2
    · assumption
    · cases h2
  · exact Or.inr h2
theorem xa_okT_c {ms : List xa_M} {M : xa_M} (h : xa_okT ms M = true) : xa_okC M = true := by
  unfold xa_okT at h
  simp only [Bool.and_eq_true] at h
  exact h.1.2
/-- the slots that arguments take -/
theorem xa_en_sl {tr : Nat → Nat} {fmt : Value} (hf : fmt.category = 1) : ∀ (as : List Value) (j k : Nat) (v : Value), (∀ v ∈ as, xa_kn v = true) → (as.flatMap xa_ar)[k]? = some v → xa_kn v = true → (j + k, xa_v tr fmt v) ∈ lv_args j (as.map (xa_v tr fmt)) := by
  intro as
  induction as with
  | nil => intro j k v _ h; simp at h
  | cons w ws ih =>
    intro j k v hd h hn
    have hd' : ∀ v ∈ ws, xa_kn v = true := fun v hv => hd v (List.mem_cons_of_mem _ hv)
    have hw := hd w List.mem_cons_self
    rw [List.map_cons]
    unfold lv_args
    rw [xa_cat hf]
    rw [List.flatMap_cons] at h
    by_cases hl : ∃ x, w = .long x
    · obtain ⟨x, rfl⟩ := hl
      match k, h with
      | 0, h =>
        simp [xa_ar] at h
        subst h
        exact List.mem_cons_self
      | 1, h =>
        simp [xa_ar] at h
        subst h
        simp [xa_kn] at hn
      | k + 2, h =>
        refine List.mem_cons_of_mem _ ?_
        have h' := ih (j + 2) k v hd' (by simpa [xa_ar] using h) hn
        rw [show j + (k + 2) = j + 2 + k by omega]
        simpa [Value.category] using h'
    · have he : xa_ar w = [w] := by
        cases w <;> first | rfl | exact absurd ⟨_, rfl⟩ hl
      have hc : w.category ≠ 2 := by
        cases w <;> first | (simp [Value.category]; done) | exact absurd ⟨_, rfl⟩ hl | (simp [xa_kn] at hw)
      rw [he] at h
      rw [if_neg hc]
      match k, h with
      | 0, h =>
        simp at h
        subst h
        exact List.mem_cons_self
      | k + 1, h =>
        refine List.mem_cons_of_mem _ ?_
        have h' := ih (j + 1) k v hd' (by simpa using h) hn
        rw [show j + (k + 1) = j + 1 + k by omega]
        exact h'
theorem xa_en_len {tr : Nat → Nat} {fmt : Value} (hf : fmt.category = 1) : ∀ (as : List Value), (∀ v ∈ as, xa_kn v = true) → (lg_sl (as.map (xa_v tr fmt))).length = (as.flatMap xa_ar).length := by
  intro as
  induction as with
  | nil => intro _; rfl
  | cons w ws ih =>
    intro hd
    have hw := hd w List.mem_cons_self
    have h1 := ih (fun v hv => hd v (List.mem_cons_of_mem _ hv))
    unfold lg_sl at h1 ⊢
    rw [List.map_cons, List.flatMap_cons, List.flatMap_cons, List.length_append, List.length_append, h1, xa_cat hf]
    congr 1
    cases w <;> first | rfl | (simp [xa_kn] at hw)
theorem xa_entry {tr : Nat → Nat} {fmt : Value} (hf : fmt.category = 1) {as : List Value} {n : Nat} (hlen : (xa_en as n).length = n) (hd : as.all xa_kn = true) : xa_L tr fmt n (xa_en as n) ((lg_sl (as.map (xa_v tr fmt)) ++ List.replicate (n - (lg_sl (as.map (xa_v tr fmt))).length) Slot.unset).toArray) := by
  have hd' : ∀ v ∈ as, xa_kn v = true := fun v hv => List.all_eq_true.mp hd v hv
  have hle : (lg_sl (as.map (xa_v tr fmt))).length ≤ n := by
    rw [xa_en_len hf as hd']
    unfold xa_en at hlen
    rw [List.length_append, List.length_replicate] at hlen
    omega
  have h := lv_entry (as.map (xa_v tr fmt)) hle
  refine ⟨hlen, h.1, h.2.1, fun k v hk hn => ?_⟩
  unfold xa_en at hk
  by_cases hlt : k < (as.flatMap xa_ar).length
  · rw [List.getElem?_append_left hlt] at hk
    have := xa_en_sl (tr := tr) (fmt := fmt) hf as 0 k v hd' hk hn
    rw [Nat.zero_add] at this
    exact h.2.2 _ this
  · rw [List.getElem?_append_right (by omega)] at hk
    have := (List.mem_replicate.mp (List.mem_of_getElem? hk)).2
    subst this
    simp [xa_kn] at hn
theorem xa_evmono {C : Nat → List Value → xa_H → Option Value → xa_H → Prop} {tb : List xa_I} (hC : ∀ mi as h r h', C mi as h r h' → h.length ≤ h'.length ∧ xa_sl h ≤ xa_sl h') : ∀ (n : Nat) (σ : xa_S) (q : xa_R), xa_ev C tb n σ q → σ.2.2.2.length ≤ q.2.length ∧ xa_sl σ.2.2.2 ≤ xa_sl q.2 := by
  intro n
  induction n with
  | zero => intro σ q h; exact h.elim
  | succ n ih =>
    intro σ q hev
    obtain ⟨pc, ls, st, h⟩ := σ
    unfold xa_ev at hev
    split at hev
    · exact hev.elim
    · split at hev
      · exact hev.elim
      · rename_i σ' hst
        have h1 := ih σ' q hev
        have h2 := xa_mono hst
        exact ⟨Nat.le_trans h2.1 h1.1, Nat.le_trans h2.2 h1.2⟩
      · rename_i r hst
        obtain ⟨-, rfl⟩ := hev
        rcases xa_retf hst with ⟨-, v, -, rfl⟩ | ⟨-, -, rfl⟩
        · exact ⟨Nat.le_refl _, Nat.le_refl _⟩
        · exact ⟨Nat.le_refl _, Nat.le_refl _⟩
      · obtain ⟨r, h', hc, hev⟩ := hev
        have h1 := hC _ _ _ _ _ hc
        have h2 := ih _ q hev
        exact ⟨Nat.le_trans h1.1 h2.1, Nat.le_trans h1.2 h2.2⟩
theorem xa_rnmono {ms : List xa_M} : ∀ (d mi : Nat) (as : List Value) (h : xa_H) (r : Option Value) (h' : xa_H), xa_rn ms d mi as h r h' → h.length ≤ h'.length ∧ xa_sl h ≤ xa_sl h' := by
  intro d
  induction d with
  | zero => intro mi as h r h' hr; exact hr.elim
  | succ d ih =>
    intro mi as h r h' hr
    obtain ⟨M, n, hM, -, hev⟩ := hr
    exact xa_evmono ih n _ _ hev
set_option maxHeartbeats 4000000 in
theorem xa_sound {l : Launch} {D : va_G} {cI cP : ClassId} {tr : Nat → Nat} {fmt : Value} {b0 : Nat} {ms : List xa_M} (hms : ∀ M ∈ ms, xa_okT ms M = true) (hf : fmt.category = 1) (hT : xa_tr tr b0) :
    ∀ (d mi : Nat) (as : List Value) (h : xa_H) (r : Option Value) (h' : xa_H), xa_rn ms d mi as h r h' → (h.length ≤ h'.length ∧ xa_sl h ≤ xa_sl h') ∧ ∀ M, ms[mi]? = some M → xa_Met l D cI cP tr fmt b0 d M as h r h' := by
  intro d
  induction d with
  | zero => intro mi as h r h' hr; exact hr.elim
  | succ d ih =>
    intro mi as h r h' hr
    obtain ⟨M, n, hM, ⟨hlen, hkn⟩, hev⟩ := hr
    have hokT := hms M (List.mem_of_getElem? hM)
    unfold xa_okT at hokT
    simp only [Bool.and_eq_true] at hokT
    obtain ⟨⟨hpl, -⟩, htb⟩ := hokT
    have htb' : ∀ w ∈ M.2.2.2.2, w.2.1 = .nop ∨ xa_okI ms M.1 M.2.1 M.2.2.2.1 w = true := xa_okT_tb htb
    have hmc : ∀ M ∈ ms, xa_okC M = true := fun M hM => xa_okT_c (hms M hM)
    refine ⟨?_, ?_⟩
    · exact xa_rnmono (d + 1) mi as h r h' ⟨M, n, hM, ⟨hlen, hkn⟩, hev⟩
    · intro M2 hM2
      have e2 : M2 = M := Option.some.inj (hM2.symm.trans hM)
      subst e2
      unfold xa_Met
      refine Met.ofW (cc := M2.2.1) (maxL := M2.2.2.1) (ret := M2.2.2.2.1) hpl rfl ?_
      intro p e s m args below meth c s₁ B hml hv
      obtain ⟨rfl, hHR, hI⟩ := hv
      have hts0 := atoms_spec (ws := .code M2.1 M2.2.1 M2.2.2.1 M2.2.2.2.1 :: xa_gw) B.pre
      have hts : ∀ w ∈ xa_gw, w.before (as.map (xa_v tr fmt)).toArray s = true := fun w hw => hts0 w (List.mem_cons_of_mem _ hw)
      have hown : s.vm.findClass M2.1.cls = some m.cls := findClass_of_methodNamed B.named
      have hnm : meth.name = M2.1.name := (name_of_methodNamed B.named B.method).1
      have hlocks := B.notSynchronized
      have hr := B.returns
      rw [lg_entry_eq]
      have hL := xa_entry (tr := tr) hf hlen hkn
      have main := xs_main (p := p) (l := l) (e := e) (R := xa_rm (d + 1) (h'.length - h.length) (xa_sl h' - xa_sl h)) (s := s) (m := m) (args := (as.map (xa_v tr fmt)).toArray) (below := below) (meth := meth) (c := c) (Q := MQ below (xa_Qc D cI cP tr fmt b0 r h') (as.map (xa_v tr fmt)).toArray s (h'.length - h.length) (xa_sl h' - xa_sl h) (fun q => b0 ≤ q)) (n0 := h.length) (s0 := xa_sl h) (d := d) (q := (r, h')) B.exec B.bytes hml hf hown (fun _ => hnm) hts hI hT (Nat.le_refl _) (Nat.le_refl _) hmc htb' ih
        (by show h'.length ≤ h.length + (h'.length - h.length); omega) (by show xa_sl h' ≤ xa_sl h + (xa_sl h' - xa_sl h); omega)
        (by
          intro pc rl H locs cells slots v ty hdg hR hS hc1 hc2 hq hty hn
          dsimp only at hR hc1 hc2 hq
          have e1 : cells = h'.length - h.length := by omega
          have e2 : slots = xa_sl h' - xa_sl h := by omega
          subst e1
          subst e2
          subst hq
          exact W.zret B.exec B.bytes (hr.trans hty) hn (fun t ht hW => ⟨rfl, by rw [ht]; exact hR.moved hW.alike, hS.F ht⟩) hS.2.2 hdg)
        (by
          intro pc rl H locs cells slots hdg hR hS hc1 hc2 hq hty
          dsimp only at hR hc1 hc2 hq
          have e1 : cells = h'.length - h.length := by omega
          have e2 : slots = xa_sl h' - xa_sl h := by omega
          subst e1
          subst e2
          subst hq
          exact W.vret B.exec B.bytes (hr.trans hty) (fun t ht hW => ⟨rfl, by rw [ht]; exact hR.moved hW.alike, hS.F ht⟩) hS.2.2 hdg)
        n _ hev
      exact main.2 _ s.heap [] 0 0 hL hHR va_S.rf rfl rfl
