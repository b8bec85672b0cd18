/-! ===== the array of plans, copies, statics, constants, switches ===== -/
theorem xa_rf_null (tr : Nat → Nat) (n : Nat) : xa_rf tr (List.replicate n .null) = fun _ => none := by
  funext j
  unfold xa_rf
  by_cases h : j < n
  · rw [List.getElem?_replicate_of_lt h]
  · rw [List.getElem?_eq_none (by simpa using h)]
section XA5
variable {p : Program} {l : Launch} {e : Env} {R : Room} {s : State} {m : MethodId} {args : Array Value} {below : List Frame} {meth : Method} {c : Code} {Q : State → Prop} {D : va_G} {cI cP : ClassId} {tr : Nat → Nat} {fmt : Value} {b0 nL n0 s0 : Nat} {cc : ByteArray} {own : String} {pc k : Nat} {ls st : List Value} {h : xa_H} {σ : xa_S}
theorem xs_newq (hx : p.tables.exec = Jvm.exec) (hb : c.code = cc) (hown : s.vm.findClass own = some m.cls) (hts : ∀ w ∈ xa_gw, w.before args s = true) (hI : xa_Inv D cI cP tr fmt (fun q => b0 ≤ q) s) (hT : xa_tr tr b0) (hw : Cond.classLink own k "MayMust$Plan" ∈ xa_gw)
    (hdg : decode cc pc = .ok (.anewarray k, 3)) (hs : xa_newq (pc + 3) ls st h = some (.inl σ)) (hRc : σ.2.2.2.length ≤ n0 + R.cells) (hRs : xa_sl σ.2.2.2 ≤ s0 + R.slots) (kk : xa_WW p l e R s m args below meth c Q D cI cP tr fmt b0 nL n0 s0 σ) : xa_WW p l e R s m args below meth c Q D cI cP tr fmt b0 nL n0 s0 (pc, ls, st, h) := by
  intro rl H locs cells slots hl hR hS hc1 hc2
  unfold xa_newq at hs
  split at hs
  · rename_i n r
    split at hs
    · rename_i hcc
      cases hs
      dsimp only at hRc hRs hc1 hc2
      rw [List.length_append, List.length_singleton] at hRc
      rw [xa_sl_app] at hRs
      have hs1 : xa_s1 (.inr (50, List.replicate n.toNatClampNeg .null)) = n.toNatClampNeg := List.length_replicate
      rw [hs1] at hRs
      refine W.anew hx hb hown (hts _ hw) (va_AO.use hI.2.2.1) rfl hdg rfl hcc.1 (by have := hcc.2; omega) (by omega) (by omega) fun cA kA comp f1 f2 f3 f4 => ?_
      have hcA : cA = cP := by
        obtain ⟨_, _, -, -, -, h2⟩ := (hI.1.2 1 _ rfl).2
        exact Option.some.inj (f1.symm.trans h2)
      subst hcA
      generalize hH1 : H.push ({ cls := cA, slots := Array.replicate n.toNatClampNeg .null, vm := .none } : Cell) = H1
      have z1 : H1.size = H.size + 1 := by rw [← hH1, Array.size_push]
      have e1 : H1[H.size]? = some (arrV cA n.toNatClampNeg (fun _ => .null)) := by rw [← hH1, Array.getElem?_push_size, ← arrV_new]
      have o1 : ∀ q : Nat, q < H.size → H1[q]? = H[q]? := fun q hq => by rw [← hH1, Array.getElem?_push, if_neg (Nat.ne_of_lt hq)]
      have hb1 : b0 ≤ tr h.length := hR.top hT
      have e2 : H1[tr h.length]? = some (vp_cell cA ((List.replicate n.toNatClampNeg Value.null).length, .inr (.inr (.inr (.inr (xa_rf tr (List.replicate n.toNatClampNeg .null))))))) := by
        rw [← hR.1, xa_rf_null, List.length_replicate]; exact e1
      have key := kk rl H1 locs (cells + 1) (slots + n.toNatClampNeg) hl (hR.push hT z1 o1 (Or.inl ⟨rfl, hb1, e2⟩)) ⟨Nat.le_trans hS.1 (by omega), fun x h1 h2 => (o1 x (Nat.lt_of_lt_of_le h1 hS.1)).trans (hS.2.1 x h1 h2), hS.2.2⟩ (by rw [List.length_append, List.length_singleton]; omega) (by rw [xa_sl_app, hs1]; omega)
      rw [hR.1]
      exact key
    · cases hs
  · cases hs
theorem xs_aald (hx : p.tables.exec = Jvm.exec) (hb : c.code = cc) (hI : xa_Inv D cI cP tr fmt (fun q => b0 ≤ q) s)
    (hdg : decode cc pc = .ok (.aaload, 1)) (hs : xa_aald (pc + 1) ls st h = some (.inl σ)) (kk : xa_WW p l e R s m args below meth c Q D cI cP tr fmt b0 nL n0 s0 σ) : xa_WW p l e R s m args below meth c Q D cI cP tr fmt b0 nL n0 s0 (pc, ls, st, h) := by
  intro rl H locs cells slots hl hR hS hc1 hc2
  unfold xa_aald at hs
  split at hs
  · rename_i i o r
    split at hs
    · rename_i c2 fs ho
      split at hs
      · rename_i hcc
        split at hs
        · rename_i q hq
          cases hs
          have kk := kk rl H locs cells slots hl hR hS hc1 hc2
          obtain ⟨rfl, h0⟩ := hcc
          rcases hR.2.2 o _ ho with ⟨-, hA, hat⟩ | ⟨h1, -⟩ | ⟨h1, -⟩
          · have hlt : i.toNatClampNeg < fs.length := (List.getElem?_eq_some_iff.mp hq).1
            refine W.aald (v := .ref (tr q)) (ty := .object "MayMust$Plan") hx hb hat ((hI.1.2 1 _ rfl).1 fs.length (fun j => va_rf (xa_rf tr fs j))) rfl (fun q => by cases q) (by show ¬ (i < 0 ∨ (arrV _ _ _).slots.size ≤ _); rw [arrV_size]; rintro (q1 | q1); exact h0 q1; omega) (by show (arrV _ _ _).slots[_]? = _; rw [arrV_read _ _ hlt]; simp [xa_rf, hq, va_rf]) rfl rfl hdg kk
          · omega
          · omega
        · cases hs
      · cases hs
    · cases hs
  · cases hs
theorem xs_aast (hx : p.tables.exec = Jvm.exec) (hb : c.code = cc) (hI : xa_Inv D cI cP tr fmt (fun q => b0 ≤ q) s) (hT : xa_tr tr b0)
    (hdg : decode cc pc = .ok (.aastore, 1)) (hs : xa_aast (pc + 1) ls st h = some (.inl σ)) (kk : xa_WW p l e R s m args below meth c Q D cI cP tr fmt b0 nL n0 s0 σ) : xa_WW p l e R s m args below meth c Q D cI cP tr fmt b0 nL n0 s0 (pc, ls, st, h) := by
  intro rl H locs cells slots hl hR hS hc1 hc2
  unfold xa_aast at hs
  split at hs
  · rename_i v i o r
    split at hs
    · rename_i c2 fs c3 fs3 ho hv
      split at hs
      · rename_i hcc
        cases hs
        obtain ⟨⟨rfl, rfl⟩, h0, hlt⟩ := hcc
        rcases hR.2.2 o _ ho with ⟨-, hA, hat⟩ | ⟨h1, -⟩ | ⟨h1, -⟩
        · rcases hR.2.2 v _ hv with ⟨h1, -⟩ | ⟨h1, -⟩ | ⟨-, hAv, hav⟩
          · omega
          · omega
          · have hcl : vwCl[2]? = some (RX2, TX2, 3) := rfl
            obtain ⟨r', hr', cellV, g1, g2, g3, -⟩ := hav
            have hcls := (hI.1.1 2 _ hcl).2
            obtain ⟨kA, comp, k1, k2, k3, -⟩ := (hI.1.2 1 _ rfl).2
            have hcomp : comp = D.1 2 := Option.some.inj (k3.symm.trans hcls.1)
            subst hcomp
            obtain ⟨kC, hkC, -⟩ := id hcls.2
            refine W.aast hx hb hat (fun q h => by cases h) (fun h => by cases h) k1 k2 rfl hkC ⟨h0, by show _ < (arrV _ _ _).slots.size; rw [arrV_size]; exact hlt⟩ g1 (fun q h => by rw [g3] at h; cases h) (by rw [g2]; exact hkC) (by rw [g2]; exact va_assign hcls) rfl rfl hdg fun H1 e1 z oq => ?_
            refine kk rl H1 _ cells slots hl (hR.set hT hA z oq (Or.inl ⟨rfl, hA, ?_⟩)) (hS.put z oq hA) (by rw [List.length_set]; exact hc1) (by rw [xa_sl_set (c' := .inr (50, fs.set i.toNatClampNeg (.ref v))) ho (by simp [xa_s1])]; exact hc2)
            rw [e1, vp_cell_q, vp_cell_q, arrV_store, List.length_set]
            congr 2
            funext q
            by_cases hq : q = i.toNatClampNeg
            · subst hq
              simp [updV, xa_rf, va_rf, hlt]
            · simp [updV, xa_rf, hq, List.getElem?_set_ne (fun e => hq e.symm)]
        · omega
        · omega
      · cases hs
    · cases hs
  · cases hs
theorem xs_gets {which : Nat} (hx : p.tables.exec = Jvm.exec) (hb : c.code = cc) (hown : s.vm.findClass own = some m.cls) (hts : ∀ w ∈ xa_gw, w.before args s = true) (hI : xa_Inv D cI cP tr fmt (fun q => b0 ≤ q) s)
    (hw0 : which = 0 → Cond.fieldLink own k "java/lang/String" "COMPACT_STRINGS" "Z" ∈ xa_gw) (hw1 : which ≠ 0 → Cond.fieldLink own k "jdk/internal/util/Preconditions" "SIOOBE_FORMATTER" "Ljava/util/function/BiFunction;" ∈ xa_gw)
    (hdg : decode cc pc = .ok (.getstatic k, 3)) (hs : xa_gets (pc + 3) which ls st h = some (.inl σ)) (kk : xa_WW p l e R s m args below meth c Q D cI cP tr fmt b0 nL n0 s0 σ) : xa_WW p l e R s m args below meth c Q D cI cP tr fmt b0 nL n0 s0 (pc, ls, st, h) := by
  intro rl H locs cells slots hl hR hS hc1 hc2
  unfold xa_gets at hs
  split at hs
  · cases hs
    exact va_gets hx hb hI.2.2.2.1 hS hown (hts _ (hw0 rfl)) (fun _ h9 => h9) hdg (kk rl H locs cells slots hl hR hS hc1 hc2)
  · rename_i hne
    cases hs
    exact va_gets hx hb hI.2.2.2.2.1 hS hown (hts _ (hw1 hne)) (fun _ h9 => h9) hdg (kk rl H locs cells slots hl hR hS hc1 hc2)
theorem xs_ldc {which : Nat} {cv : Int32} (hx : p.tables.exec = Jvm.exec) (hb : c.code = cc) (hown : s.vm.findClass own = some m.cls) (hts : ∀ w ∈ xa_gw, w.before args s = true) (hI : xa_Inv D cI cP tr fmt (fun q => b0 ≤ q) s)
    (hw0 : which = 0 → Cond.constant own k cv ∈ xa_gw) (hw1 : ∀ j, which = j + 1 → own = "MayMust$Tokens" ∧ ∃ tx, (k, tx, j + 1) ∈ xa_strs)
    (hdg : decode cc pc = .ok (.ldc k, 2)) (hs : xa_ldc (pc + 2) which cv ls st h = some (.inl σ)) (kk : xa_WW p l e R s m args below meth c Q D cI cP tr fmt b0 nL n0 s0 σ) : xa_WW p l e R s m args below meth c Q D cI cP tr fmt b0 nL n0 s0 (pc, ls, st, h) := by
  intro rl H locs cells slots hl hR hS hc1 hc2
  unfold xa_ldc at hs
  split at hs
  · cases hs
    exact lv_ldc hx hb hown (hts _ (hw0 rfl)) hdg (kk rl H locs cells slots hl hR hS hc1 hc2)
  · rename_i j
    cases hs
    obtain ⟨rfl, tx, hm⟩ := hw1 j rfl
    exact va_ldcS hx hb hown (hI.2.2.2.2.2 _ hm) hdg (kk rl H locs cells slots hl hR hS hc1 hc2)
theorem xs_sum (hf : fmt.category = 1) {r : List Value} (hr : xa_room r = true) : ((r.map (xa_v tr fmt)).map fun v => v.category).sum ≤ 8 := by
  rw [xa_cats hf]
  exact Nat.le_of_ble_eq_true hr
theorem xs_oinit (hx : p.tables.exec = Jvm.exec) (hb : c.code = cc) (hml : c.maxLocals = nL) (hf : fmt.category = 1) (hown : s.vm.findClass own = some m.cls) (hts : ∀ w ∈ xa_gw, w.before args s = true) (hw1 : Cond.methodLink own k objectInit ∈ xa_gw) (hw2 : Cond.instanceMethod objectInit ∈ xa_gw) (hw3 : Cond.code objectInit ⟨#[0xb1]⟩ 1 none ∈ xa_gw) (hRf : 1 ≤ R.frames) (hRl : 64 ≤ R.locals)
    (hdg : decode cc pc = .ok (.invokespecial k, 3)) (hs : xa_oinit (pc + 3) ls st h = some (.inl σ)) (kk : xa_WW p l e R s m args below meth c Q D cI cP tr fmt b0 nL n0 s0 σ) : xa_WW p l e R s m args below meth c Q D cI cP tr fmt b0 nL n0 s0 (pc, ls, st, h) := by
  intro rl H locs cells slots hl hR hS hc1 hc2
  unfold xa_oinit at hs
  split at hs
  · rename_i o r
    split at hs
    · rename_i hr
      cases hs
      have kk := kk rl H locs cells slots hl hR hS hc1 hc2
      have h8 := xs_sum (tr := tr) hf hr
      exact W.objInit hx hb hown (hts _ hw1) (hts _ hw2) (hts _ hw3) rfl (hl.2.1.trans hml.symm) rfl hdg hRf (by show 2 * 0 + _ + 12 ≤ _; omega) kk
    · cases hs
  · cases hs
theorem xs_max (hx : p.tables.exec = Jvm.exec) (hb : c.code = cc) (hml : c.maxLocals = nL) (hf : fmt.category = 1) (hown : s.vm.findClass own = some m.cls) (hts : ∀ w ∈ xa_gw, w.before args s = true) (hw1 : Cond.methodLink own k Lib.Math.max.name ∈ xa_gw) (hw2 : Cond.static Lib.Math.max.name ∈ xa_gw) (hw3 : Cond.initialized "java/lang/Math" ∈ xa_gw) (hw4 : Cond.code Lib.Math.max.name Lib.Math.max.code 2 (some .int) ∈ xa_gw) (hRf : 1 ≤ R.frames) (hRl : 64 ≤ R.locals) (hRc : h.length ≤ n0 + R.cells) (hRs : xa_sl h ≤ s0 + R.slots)
    (hdg : decode cc pc = .ok (.invokestatic k, 3)) (hs : xa_max (pc + 3) ls st h = some (.inl σ)) (kk : xa_WW p l e R s m args below meth c Q D cI cP tr fmt b0 nL n0 s0 σ) : xa_WW p l e R s m args below meth c Q D cI cP tr fmt b0 nL n0 s0 (pc, ls, st, h) := by
  intro rl H locs cells slots hl hR hS hc1 hc2
  unfold xa_max at hs
  split at hs
  · rename_i y x r
    split at hs
    · rename_i hr
      cases hs
      have h8 := xs_sum (tr := tr) hf hr
      dsimp only at hc1 hc2
      exact va_mmax hx hb (hml.trans hl.2.1.symm) hown (hts _ hw1) (hts _ hw2) (hts _ hw3) (hts _ hw4) hRf (by omega) (by omega) (by omega) hdg (kk rl H locs cells slots hl hR hS hc1 hc2)
    · cases hs
  · cases hs
theorem xs_min (hx : p.tables.exec = Jvm.exec) (hb : c.code = cc) (hml : c.maxLocals = nL) (hf : fmt.category = 1) (hown : s.vm.findClass own = some m.cls) (hts : ∀ w ∈ xa_gw, w.before args s = true) (hw1 : Cond.methodLink own k Lib.Math.min.name ∈ xa_gw) (hw2 : Cond.static Lib.Math.min.name ∈ xa_gw) (hw3 : Cond.initialized "java/lang/Math" ∈ xa_gw) (hw4 : Cond.code Lib.Math.min.name Lib.Math.min.code 2 (some .int) ∈ xa_gw) (hRf : 1 ≤ R.frames) (hRl : 64 ≤ R.locals) (hRc : h.length ≤ n0 + R.cells) (hRs : xa_sl h ≤ s0 + R.slots)
    (hdg : decode cc pc = .ok (.invokestatic k, 3)) (hs : xa_min (pc + 3) ls st h = some (.inl σ)) (kk : xa_WW p l e R s m args below meth c Q D cI cP tr fmt b0 nL n0 s0 σ) : xa_WW p l e R s m args below meth c Q D cI cP tr fmt b0 nL n0 s0 (pc, ls, st, h) := by
  intro rl H locs cells slots hl hR hS hc1 hc2
  unfold xa_min at hs
  split at hs
  · rename_i y x r
    split at hs
    · rename_i hr
      cases hs
      have h8 := xs_sum (tr := tr) hf hr
      dsimp only at hc1 hc2
      exact va_mmin hx hb (hml.trans hl.2.1.symm) hown (hts _ hw1) (hts _ hw2) (hts _ hw3) (hts _ hw4) hRf (by omega) (by omega) (by omega) hdg (kk rl H locs cells slots hl hR hS hc1 hc2)
    · cases hs
  · cases hs
theorem xs_copy (hx : p.tables.exec = Jvm.exec) (hb : c.code = cc) (hml : c.maxLocals = nL) (hf : fmt.category = 1) (hown : s.vm.findClass own = some m.cls) (hts : ∀ w ∈ xa_gw, w.before args s = true) (hI : xa_Inv D cI cP tr fmt (fun q => b0 ≤ q) s) (hT : xa_tr tr b0) (hw1 : Cond.methodLink own k arraycopyName ∈ xa_gw) (hw2 : Cond.native arraycopyName ∈ xa_gw) (hw3 : Cond.static arraycopyName ∈ xa_gw) (hw4 : Cond.initialized "java/lang/System" ∈ xa_gw) (hRf : 1 ≤ R.frames) (hRl : 64 ≤ R.locals)
    (hdg : decode cc pc = .ok (.invokestatic k, 3)) (hs : xa_copy (pc + 3) ls st h = some (.inl σ)) (kk : xa_WW p l e R s m args below meth c Q D cI cP tr fmt b0 nL n0 s0 σ) : xa_WW p l e R s m args below meth c Q D cI cP tr fmt b0 nL n0 s0 (pc, ls, st, h) := by
  have nn : ∀ z : Int32, ¬ z < 0 → z.toInt = (z.toNatClampNeg : Int) := by
    intro z hz
    have hz0 : (0 : Int) ≤ z.toInt := by
      have := Int32.not_lt.mp hz
      simpa using Int32.le_iff_toInt_le.mp this
    show z.toInt = ((z.toInt.toNat : Nat) : Int)
    omega
  intro rl H locs cells slots hl hR hS hc1 hc2
  unfold xa_copy at hs
  split at hs
  · rename_i n dp a sp b r
    split at hs
    · rename_i k0 m0 f k1 m1 g hb0 ha0
      split at hs
      · rename_i hcc
        cases hs
        obtain ⟨⟨rfl, rfl⟩, ⟨h1, h2, h3⟩, h4, h5, hr⟩ := hcc
        have h8 := xs_sum (tr := tr) hf hr
        rcases hR.2.2 b _ hb0 with ⟨-, hAb, hcb⟩ | ⟨q, -⟩ | ⟨q, -⟩
        · rcases hR.2.2 a _ ha0 with ⟨-, hAa, hca⟩ | ⟨q, -⟩ | ⟨q, -⟩
          · intro T hTT X
            obtain ⟨-, k0, hk0, cm0, hkk0⟩ := (hI.1.2 0 _ rfl).1 m0 (fun j => .int (f j))
            obtain ⟨-, k1, hk1, cm1, hkk1⟩ := (hI.1.2 0 _ rfl).1 m1 (fun j => .int (g j))
            obtain ⟨vm', X', step⟩ := X.arraycopy hx hown (hts _ hw1) (hts _ hw2) (hts _ hw3) (hts _ hw4) (src := tr b) (dst := tr a) (cs := vp_cell cI (m0, .inl f)) (cd := vp_cell cI (m1, .inl g)) (srcPos := sp) (destPos := dp) (n := n) (by rw [hTT]; exact hcb) (by rw [hTT]; exact hca)
              (fun _ h => by cases h) (fun _ h => by cases h) (fun h => by cases h) (fun h => by cases h) hk0 hk1 hkk0 hkk1 (by simp [refKind]) h1 h2 h3
              (by rw [nn sp h1, nn n h3]; show ¬ _ > ((arrV cI m0 (fun j => .int (f j))).slots.size : Int); rw [arrV_size]; omega)
              (by rw [nn dp h2, nn n h3]; show ¬ _ > ((arrV cI m1 (fun j => .int (g j))).slots.size : Int); rw [arrV_size]; omega)
              (fun vm₁ _ i hi => by
                have e9 : (vp_cell cI (m0, .inl f)).slots.getD (sp.toNatClampNeg + i) .null = .int (f (sp.toNatClampNeg + i)) := by
                  show (arrV cI m0 (fun j => .int (f j))).slots.getD _ _ = _
                  rw [Array.getD_eq_getD_getElem?, arrV_read _ _ (by omega)]
                  rfl
                refine ⟨?_, ?_⟩
                · rw [e9]
                  rfl
                · rw [e9]
                  exact trivial)
              (g := F0 m pc rl ((Value.int n :: Value.int dp :: Value.ref a :: Value.int sp :: Value.ref b :: r).map (xa_v tr fmt))) rfl (by rw [hml]; exact hl.2.1) (rest := r.map (xa_v tr fmt)) rfl (by rw [hb]; exact hdg) hRf (by show 2 * 0 + _ + _ ≤ _; have h7 : nativeFrameWords "java/lang/System" "arraycopy" 5 = 7 := (by decide +kernel); omega)
            have e1 : copied (vp_cell cI (m0, .inl f)) (vp_cell cI (m1, .inl g)) sp dp n = vp_cell cI (m1, .inl (va_cpy f g sp.toNatClampNeg dp.toNatClampNeg n.toNatClampNeg)) := va_copied (fun z => .int z) cI cI f g h4
            rw [e1] at X' step
            have hla : tr a < H.size := (Array.getElem?_eq_some_iff.mp hca).1
            have hheap : ((T.setVm vm').setCell (tr a) (vp_cell cI (m1, .inl (va_cpy f g sp.toNatClampNeg dp.toNatClampNeg n.toNatClampNeg)))).heap = H.setIfInBounds (tr a) (vp_cell cI (m1, .inl (va_cpy f g sp.toNatClampNeg dp.toNatClampNeg n.toNatClampNeg))) := by rw [← hTT]; rfl
            have oq : ∀ q : Nat, q ≠ tr a → (H.setIfInBounds (tr a) (vp_cell cI (m1, .inl (va_cpy f g sp.toNatClampNeg dp.toNatClampNeg n.toNatClampNeg))))[q]? = H[q]? := fun q hq => by simp [Array.getElem?_setIfInBounds, Ne.symm hq]
            have zq : (H.setIfInBounds (tr a) (vp_cell cI (m1, .inl (va_cpy f g sp.toNatClampNeg dp.toNatClampNeg n.toNatClampNeg)))).size = H.size := by simp
            obtain ⟨t, a1, b1⟩ := kk rl _ _ cells slots hl (hR.set hT hAa zq oq (Or.inl ⟨rfl, hAa, show (H.setIfInBounds (tr a) _)[tr a]? = some _ by simp [Array.getElem?_setIfInBounds, hla]⟩)) ⟨by rw [zq]; exact hS.1, fun q g1 g2 => by
                rw [oq q (fun e => g2 (by rw [e]; exact hAa))]
                exact hS.2.1 q g1 g2, fun q hq => by
                rcases List.mem_append.mp hq with h | h
                · exact hS.2.2 q h
                · obtain ⟨z, -, hz⟩ := List.mem_map.mp h
                  rw [← hz]
                  exact hAa⟩ (by rw [List.length_set]; exact hc1) (by rw [xa_sl_set (c' := .inl (0, m1, va_cpy f g sp.toNatClampNeg dp.toNatClampNeg n.toNatClampNeg)) ha0 rfl]; exact hc2) _ hheap X'
            exact ⟨t, step t a1, b1⟩
          · omega
          · omega
        · omega
        · omega
      · cases hs
    · cases hs
  · cases hs
theorem xs_sw {a : List Nat} {d lo hi : Int} {offs : Array Int} {len : Nat} (hx : p.tables.exec = Jvm.exec) (hb : c.code = cc) (h1 : lo = 0) (h2 : hi = (a.length : Int) - 2) (h3 : (pc : Int) + d = ((a.getD 0 0 : Nat) : Int)) (h4 : ∀ j, j < a.length - 1 → ∃ off, offs[j]? = some off ∧ (pc : Int) + off = ((a.getD (j + 1) 0 : Nat) : Int))
    (hdg : decode cc pc = .ok (.tableswitch d lo hi offs, len)) (hs : xa_sw a ls st h = some (.inl σ)) (kk : xa_WW p l e R s m args below meth c Q D cI cP tr fmt b0 nL n0 s0 σ) : xa_WW p l e R s m args below meth c Q D cI cP tr fmt b0 nL n0 s0 (pc, ls, st, h) := by
  intro rl H locs cells slots hl hR hS hc1 hc2
  unfold xa_sw at hs
  split at hs
  · rename_i x r
    split at hs
    · rename_i hc
      cases hs
      exact lv_tableOut hx hb hdg (by rw [h1, h2]; exact hc) h3 (kk rl H locs cells slots hl hR hS hc1 hc2)
    · rename_i hc
      cases hs
      have hc' : ¬ x.toInt < 0 ∧ ¬ (a.length : Int) - 2 < x.toInt := ⟨fun q => hc (Or.inl q), fun q => hc (Or.inr q)⟩
      obtain ⟨off, ho, ht⟩ := h4 x.toInt.toNat (by omega)
      exact lv_tableIn hx hb hdg (by rw [h1]; exact hc'.1) (by rw [h2]; exact hc'.2) (by rw [h1, Int.sub_zero]; exact ho) ht (kk rl H locs cells slots hl hR hS hc1 hc2)
  · cases hs
end XA5
