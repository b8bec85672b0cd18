/-! ===== the instructions that see cells ===== -/
def xa_ty (q : vw_C) (k : Nat) : FieldType := (parseFieldDescriptor (q.2.1 k).2.2.1).getD .int
def xa_clsok (x : vw_C × List Nat) : Bool := let q := x.1
  decide ((u_ws q.1 q.2.1 q.2.2) = x.2.filterMap (fun k => lw_tbl[k]?)) && (u_ws q.1 q.2.1 q.2.2).all goodWord && (List.range q.2.2).all (fun k => (parseFieldDescriptor (q.2.1 k).2.2.1).isSome) && decide (∀ a, a < q.2.2 → ∀ b, b < q.2.2 → a ≠ b → (q.2.1 a).2.1 ≠ (q.2.1 b).2.1)
set_option maxRecDepth 100000 in
theorem xa_clsoks : (vwCl.zip xa_clsp).all xa_clsok = true := by decide +kernel
theorem xa_cls {ci : Nat} {q : vw_C} (h : vwCl[ci]? = some q) : (∀ w ∈ u_ws q.1 q.2.1 q.2.2, w ∈ xa_gw) ∧ (∀ k, k < q.2.2 → parseFieldDescriptor (q.2.1 k).2.2.1 = some (xa_ty q k)) ∧ ∀ a, a < q.2.2 → ∀ b, b < q.2.2 → a ≠ b → (q.2.1 a).2.1 ≠ (q.2.1 b).2.1 := by
  have hlt : ci < 12 := (List.getElem?_eq_some_iff.mp h).1
  obtain ⟨ps, hps⟩ : ∃ ps, xa_clsp[ci]? = some ps := ⟨_, List.getElem?_eq_getElem (show ci < xa_clsp.length from hlt)⟩
  have h1 := List.all_eq_true.mp xa_clsoks (q, ps) (List.mem_of_getElem? (i := ci) (by rw [List.getElem?_zip_eq_some]; exact ⟨h, hps⟩))
  unfold xa_clsok at h1
  simp only [Bool.and_eq_true, decide_eq_true_eq] at h1
  obtain ⟨⟨⟨h2, h2b⟩, h3⟩, h4⟩ := h1
  refine ⟨fun w hw => ?_, fun k hk => ?_, h4⟩
  · have hg := List.all_eq_true.mp h2b w hw
    rw [h2] at hw
    obtain ⟨j, -, hj⟩ := List.mem_filterMap.mp hw
    exact List.mem_filter.mpr ⟨List.mem_of_getElem? hj, hg⟩
  have h5 := List.all_eq_true.mp h3 k (List.mem_range.mpr hk)
  unfold xa_ty
  cases hp : parseFieldDescriptor (q.2.1 k).2.2.1 with
  | none => simp [hp] at h5
  | some t => rfl
theorem xa_P1 {D : va_G} {e : Nat × va_E} {H : Heap} (h : va_at D vwCl e H) : va_P D vwCl [e] H := by
  intro k q hk
  cases k with
  | zero => cases hk; exact h
  | succ k => simp at hk
section XA4
variable {p : Program} {l : Launch} {e : Env} {R : Room} {s : State} {m : MethodId} {args : Array Value} {below : List Frame} {meth : Method} {c : Code} {Q : State → Prop} {D : va_G} {cI cP : ClassId} {tr : Nat → Nat} {fmt : Value} {b0 nL n0 s0 : Nat} {cc : ByteArray} {own : String} {pc k : Nat} {ls st : List Value} {h : xa_H} {σ : xa_S}
theorem xs_getf {ci fk : Nat} (hx : p.tables.exec = Jvm.exec) (hb : c.code = cc) (hown : s.vm.findClass own = some m.cls) (hts : ∀ w ∈ xa_gw, w.before args s = true) (hI : xa_Inv D cI cP tr fmt (fun q => b0 ≤ q) s)
    (hok : (ci = 60 ∧ ((fk = 0 ∧ Cond.fieldLink own k "java/lang/String" "value" "[B" ∈ xa_gw) ∨ (fk = 1 ∧ Cond.fieldLink own k "java/lang/String" "coder" "B" ∈ xa_gw))) ∨ (ci < 12 ∧ ∃ q, vwCl[ci]? = some q ∧ fk < q.2.2 ∧ Cond.fieldLink own k (q.2.1 fk).1 (q.2.1 fk).2.1 (q.2.1 fk).2.2.1 ∈ xa_gw))
    (hdg : decode cc pc = .ok (.getfield k, 3)) (hs : xa_getf (pc + 3) ci fk ls st h = some (.inl σ)) (kk : xa_WW p l e R s m args below meth c Q D cI cP tr fmt b0 nL n0 s0 σ) : xa_WW p l e R s m args below meth c Q D cI cP tr fmt b0 nL n0 s0 (pc, ls, st, h) := by
  intro rl H locs cells slots hl hR hS hc1 hc2
  unfold xa_getf at hs
  split at hs
  · rename_i o r
    split at hs
    · rename_i c2 fs ho
      split at hs
      · rename_i hcc
        split at hs
        · rename_i v hv
          cases hs
          have kk := kk rl H locs cells slots hl hR hS hc1 hc2
          have hcell := hR.2.2 o _ ho
          subst hcc
          rcases hok with ⟨h60, hok⟩ | ⟨h12, q, hq, hfk, hlink⟩
          · rcases hcell with ⟨h50, -⟩ | ⟨-, hO, hV, hC⟩ | ⟨h12, -⟩
            · omega
            · have hmv : ∀ {v : Value} {nm d : String}, va_OF "java/lang/String" nm d v (tr o) (fun q => b0 ≤ q) s H → ∃ (cf : ClassId) (k : Class) (i : Nat) (f : Field) (cell : Cell), s.fieldFound? "java/lang/String" nm d = some (cf, k, i, f) ∧ f.isStatic = false ∧ H[tr o]? = some cell ∧ cell.vm ≠ .unknown ∧ cell.slots[f.slot]? = some v := by
                intro v nm d hh
                obtain ⟨cf, k, i, f, cell, g1, g2, g3, g4, g5, g6⟩ := hh
                exact ⟨cf, k, i, f, cell, g1, g2, g3, g4, g5⟩
              rcases hok with ⟨rfl, hlink⟩ | ⟨rfl, hlink⟩
              · obtain ⟨cf, k, i, f, cell, g1, g2, g3, g4, g5⟩ := hmv (hV v hv)
                exact W.getf hx hb hown (hts _ hlink) g1 g2 g3 g4 g5 rfl rfl hdg kk
              · obtain ⟨cf, k, i, f, cell, g1, g2, g3, g4, g5⟩ := hmv (hC v hv)
                exact W.getf hx hb hown (hts _ hlink) g1 g2 g3 g4 g5 rfl rfl hdg kk
            · omega
          · rcases hcell with ⟨h50, -⟩ | ⟨h60, -⟩ | ⟨-, -, hat⟩
            · omega
            · omega
            · exact va_get (C := q.1) (T := q.2.1) (N := q.2.2) (v := xa_v tr fmt v) hx hb hts (xa_cls hq).1 hown hI.1 (xa_P1 hat) 0 rfl hq fk hfk (hts _ hlink) (fun _ h9 => h9) (by rw [List.getElem?_map, hv]; rfl) hdg kk
        · cases hs
      · cases hs
    · cases hs
  · cases hs
theorem xs_putf {ci fk kd : Nat} (hx : p.tables.exec = Jvm.exec) (hb : c.code = cc) (hown : s.vm.findClass own = some m.cls) (hts : ∀ w ∈ xa_gw, w.before args s = true) (hI : xa_Inv D cI cP tr fmt (fun q => b0 ≤ q) s) (hT : xa_tr tr b0) {q : vw_C} {ty : FieldType} (h12 : ci < 12) (hq : vwCl[ci]? = some q) (hfk : fk < q.2.2) (hlink : Cond.fieldLink own k (q.2.1 fk).1 (q.2.1 fk).2.1 (q.2.1 fk).2.2.1 ∈ xa_gw) (hd : parseFieldDescriptor (q.2.1 fk).2.2.1 = some ty) (hty : ∀ v, xa_kd kd v = true → narrow ty (xa_v tr fmt v) = xa_v tr fmt v ∧ fits ty (xa_v tr fmt v) = true) (hfin : (q.2.1 fk).2.2.2 = true → meth.name = "<init>" ∧ (q.2.1 fk).1 = own)
    (hdg : decode cc pc = .ok (.putfield k, 3)) (hs : xa_putf (pc + 3) ci fk kd ls st h = some (.inl σ)) (kk : xa_WW p l e R s m args below meth c Q D cI cP tr fmt b0 nL n0 s0 σ) : xa_WW p l e R s m args below meth c Q D cI cP tr fmt b0 nL n0 s0 (pc, ls, st, h) := by
  intro rl H locs cells slots hl hR hS hc1 hc2
  unfold xa_putf at hs
  split at hs
  · rename_i v o r
    split at hs
    · rename_i c2 fs ho
      split at hs
      · rename_i hcc
        cases hs
        obtain ⟨rfl, hlen, hkd⟩ := hcc
        obtain ⟨hn, hfit⟩ := hty v hkd
        obtain ⟨hin, hty0, hnm⟩ := xa_cls hq
        have hK := hI.1
        rcases hR.2.2 o _ ho with ⟨h50, -⟩ | ⟨h60, -⟩ | ⟨-, hA, hat⟩
        · omega
        · omega
        · have hap := va_apart (own := own) hts hin (xa_ty q) hty0 hnm hK hq
          obtain ⟨r', h1, cell, q1, q2, q3, q4⟩ := hat
          have hr : q = r' := Option.some.inj (hq.symm.trans h1)
          subst hr
          obtain ⟨hSl, hfc, kC, hkC, hkind⟩ := hK.1 c2 _ hq
          obtain ⟨cf, kf, fi, f, hi, hsl⟩ := hSl fk hfk
          have hst := (u_facts hfc hkC (u_lays hts hin hfk) hi).1
          have hfin2 : ∀ (H' : Heap), H'[tr o]? = some (cell.setSlot f.slot (xa_v tr fmt v)) → H'.size = H.size → (∀ q : Nat, q ≠ tr o → H'[q]? = H[q]?) → W p l e R s m args below meth c H' (locs ++ [⟨tr o, f.slot⟩]) cells slots Q (F0 m (pc + 3) rl (r.map (xa_v tr fmt))) := by
            intro H' e1 e2 e3
            rw [hsl] at e1
            refine kk rl H' _ cells slots hl (hR.set hT hA e2 e3 (Or.inr (Or.inr ⟨h12, hA, _, hq, t_OB.to (V := updV (vp_V (fs.map (xa_v tr fmt))) fk (xa_v tr fmt v)) ⟨_, e1, q2, q3, t_set q4 hap hfk _⟩ (fun j _ => ?_)⟩))) (hS.put e2 e3 hA) (by rw [List.length_set]; exact hc1) (by rw [xa_sl_set ho (by simp [xa_s1])]; exact hc2)
            have := vp_updV_set (fs := fs.map (xa_v tr fmt)) (k := fk) (by rw [List.length_map]; exact hlen) (xa_v tr fmt v) j
            rw [this]
            simp [List.map_set]
          by_cases hfn : (q.2.1 fk).2.2.2 = true
          · obtain ⟨hi1, hi2⟩ := hfin hfn
            have hlay := hts _ (hin _ (u_in_lay hfk))
            unfold u_lay at hlay
            rw [if_pos hfn] at hlay
            have hcf : m.cls = cf := by
              obtain ⟨_, _, c', _, _, _, -, -, hf', -, -, -, hown2, -⟩ := Cond.laysFinal_spec hlay
              have e1 : c' = cf := by have := hi.symm.trans hf'; simp at this; exact this.1.symm
              rw [hi2] at hown2
              rw [← e1]; exact Option.some.inj (hown.symm.trans hown2)
            have h6 := u_fits hfc hkC hkind (Or.inr hlay) hi hd hn hfit
            exact W.putFinK hx hb hown (hts _ hlink) hi hst hcf hi1 (by rw [q2]; exact h6) q1 q3 (by rw [hsl]; exact k2_hasslot (q4 fk hfk)) rfl rfl hdg hfin2
          · have hlay := hts _ (hin _ (u_in_lay hfk))
            unfold u_lay at hlay
            rw [if_neg hfn] at hlay
            have h6 := u_store hfc hkC hkind hlay hi hd hn hfit
            exact W.putK hx hb (f := f) ⟨hown, hts _ hlink, ⟨_, _, _, hi⟩, hst⟩ (by rw [q2]; exact h6) q1 q3 (by rw [hsl]; exact k2_hasslot (q4 fk hfk)) rfl rfl hdg hfin2
      · cases hs
    · cases hs
  · cases hs
theorem xs_iald (hx : p.tables.exec = Jvm.exec) (hb : c.code = cc) (hI : xa_Inv D cI cP tr fmt (fun q => b0 ≤ q) s)
    (hdg : decode cc pc = .ok (.iaload, 1)) (hs : xa_iald (pc + 1) ls st h = some (.inl σ)) (kk : xa_WW p l e R s m args below meth c Q D cI cP tr fmt b0 nL n0 s0 σ) : xa_WW p l e R s m args below meth c Q D cI cP tr fmt b0 nL n0 s0 (pc, ls, st, h) := by
  intro rl H locs cells slots hl hR hS hc1 hc2
  unfold xa_iald at hs
  split at hs
  · rename_i i o r
    split at hs
    · rename_i kd n f ho
      split at hs
      · rename_i hcc
        cases hs
        have kk := kk rl H locs cells slots hl hR hS hc1 hc2
        obtain ⟨hkd, hin⟩ := hcc
        rcases hR.2.2 o _ ho with ⟨-, hA, hat⟩ | ⟨h1, -⟩ | ⟨-, hT⟩
        · have hlt : i.toNatClampNeg < n := Nat.not_le.mp fun q => hin (Or.inr q)
          exact W.iald (v := .int (f i.toNatClampNeg)) hx hb hat ((hI.1.2 0 _ rfl).1 n (fun j => .int (f j))) (fun q => by cases q) (by show ¬ (i < 0 ∨ (arrV _ _ _).slots.size ≤ _); rw [arrV_size]; exact hin) (by show (arrV _ _ _).slots[_]? = _; rw [arrV_read _ _ hlt]) rfl rfl hdg kk
        · omega
        · obtain ⟨cell, h1, h2, h3, h4, h5, h6, h7⟩ := hT
          have hlt : i.toNatClampNeg < n := Nat.not_le.mp fun q => hin (Or.inr q)
          have hin' : ¬ (i < 0 ∨ cell.slots.size ≤ i.toNatClampNeg) := by
            intro q
            rcases q with q | q
            · exact hin (Or.inl q)
            · omega
          exact W.iald (v := .int (f i.toNatClampNeg)) hx hb h1 h2 h3 hin' (by rw [h6 _ hlt]) rfl rfl hdg kk
      · cases hs
    · cases hs
  · cases hs
theorem xs_bald (hx : p.tables.exec = Jvm.exec) (hb : c.code = cc)
    (hdg : decode cc pc = .ok (.baload, 1)) (hs : xa_bald (pc + 1) ls st h = some (.inl σ)) (kk : xa_WW p l e R s m args below meth c Q D cI cP tr fmt b0 nL n0 s0 σ) : xa_WW p l e R s m args below meth c Q D cI cP tr fmt b0 nL n0 s0 (pc, ls, st, h) := by
  intro rl H locs cells slots hl hR hS hc1 hc2
  unfold xa_bald at hs
  split at hs
  · rename_i i o r
    split at hs
    · rename_i kd n f ho
      split at hs
      · rename_i hcc
        cases hs
        have kk := kk rl H locs cells slots hl hR hS hc1 hc2
        obtain ⟨hkd, hin⟩ := hcc
        rcases hR.2.2 o _ ho with ⟨h1, -⟩ | ⟨-, hT⟩ | ⟨h1, -⟩
        · omega
        · obtain ⟨cell, h1, h2, h3, h4, h5, h6, h7⟩ := hT
          have hlt : i.toNatClampNeg < n := Nat.not_le.mp fun q => hin (Or.inr q)
          have hin' : ¬ (i < 0 ∨ cell.slots.size ≤ i.toNatClampNeg) := by
            intro q
            rcases q with q | q
            · exact hin (Or.inl q)
            · omega
          exact W.bald (v := .int (f i.toNatClampNeg)) hx hb h1 h2 h3 hin' (by rw [h6 _ hlt]) rfl rfl hdg kk
        · omega
      · cases hs
    · cases hs
  · cases hs
theorem xs_alen (hx : p.tables.exec = Jvm.exec) (hb : c.code = cc) (hI : xa_Inv D cI cP tr fmt (fun q => b0 ≤ q) s)
    (hdg : decode cc pc = .ok (.arraylength, 1)) (hs : xa_alen (pc + 1) ls st h = some (.inl σ)) (kk : xa_WW p l e R s m args below meth c Q D cI cP tr fmt b0 nL n0 s0 σ) : xa_WW p l e R s m args below meth c Q D cI cP tr fmt b0 nL n0 s0 (pc, ls, st, h) := by
  intro rl H locs cells slots hl hR hS hc1 hc2
  unfold xa_alen at hs
  split at hs
  · rename_i o r
    split at hs
    · rename_i kd n f ho
      cases hs
      have kk := kk rl H locs cells slots hl hR hS hc1 hc2
      rcases hR.2.2 o _ ho with ⟨-, hA, hat⟩ | ⟨h1, hT⟩ | ⟨-, hT⟩
      · exact W.alen (n := nI n) hx hb hat ((hI.1.2 0 _ rfl).1 n (fun j => .int (f j))) (by show (arrV _ _ _).slots.size.toInt32 = _; rw [arrV_size]; rfl) rfl rfl hdg kk
      · obtain ⟨cell, h1, h2, h3, h4, h5, h6, h7⟩ := hT
        exact W.alen (n := nI n) hx hb h1 h2 h5 rfl rfl hdg kk
      · obtain ⟨cell, h1, h2, h3, h4, h5, h6, h7⟩ := hT
        exact W.alen (n := nI n) hx hb h1 h2 h5 rfl rfl hdg kk
    · cases hs
  · cases hs
theorem xs_iast (hx : p.tables.exec = Jvm.exec) (hb : c.code = cc) (hI : xa_Inv D cI cP tr fmt (fun q => b0 ≤ q) s) (hT : xa_tr tr b0)
    (hdg : decode cc pc = .ok (.iastore, 1)) (hs : xa_iast (pc + 1) ls st h = some (.inl σ)) (kk : xa_WW p l e R s m args below meth c Q D cI cP tr fmt b0 nL n0 s0 σ) : xa_WW p l e R s m args below meth c Q D cI cP tr fmt b0 nL n0 s0 (pc, ls, st, h) := by
  intro rl H locs cells slots hl hR hS hc1 hc2
  unfold xa_iast at hs
  split at hs
  · rename_i x i o r
    split at hs
    · rename_i kd n f ho
      split at hs
      · rename_i hcc
        cases hs
        obtain ⟨rfl, hin⟩ := hcc
        rcases hR.2.2 o _ ho with ⟨-, hA, hat⟩ | ⟨h1, -⟩ | ⟨h1, -⟩
        · refine W.iast hx hb hat ((hI.1.2 0 _ rfl).1 n (fun j => .int (f j))) (fun q => by cases q) (by show ¬ (i < 0 ∨ (arrV _ _ _).slots.size ≤ _); rw [arrV_size]; exact hin) rfl rfl hdg fun H1 e1 z oq => ?_
          refine kk rl H1 _ cells slots hl (hR.set hT hA z oq (Or.inl ⟨rfl, hA, ?_⟩)) (hS.put z oq hA) (by rw [List.length_set]; exact hc1) (by rw [xa_sl_set (c' := .inl (0, n, upd f i.toNatClampNeg x)) ho rfl]; exact hc2)
          rw [e1, vp_cell_i, vp_cell_i, arrV_store]
          congr 2
          funext q
          by_cases hq : q = i.toNatClampNeg
          · subst hq
            simp [updV, upd]
          · simp [updV, upd, hq]
        · omega
        · omega
      · cases hs
    · cases hs
  · cases hs
theorem xs_newa (hx : p.tables.exec = Jvm.exec) (hb : c.code = cc) (hts : ∀ w ∈ xa_gw, w.before args s = true) (hI : xa_Inv D cI cP tr fmt (fun q => b0 ≤ q) s) (hT : xa_tr tr b0) (hw : Cond.arrayClass .int ∈ xa_gw)
    (hdg : decode cc pc = .ok (.newarray .int, 2)) (hs : xa_newa (pc + 2) ls st h = some (.inl σ)) (hRc : σ.2.2.2.length ≤ n0 + R.cells) (hRs : xa_sl σ.2.2.2 ≤ s0 + R.slots) (kk : xa_WW p l e R s m args below meth c Q D cI cP tr fmt b0 nL n0 s0 σ) : xa_WW p l e R s m args below meth c Q D cI cP tr fmt b0 nL n0 s0 (pc, ls, st, h) := by
  intro rl H locs cells slots hl hR hS hc1 hc2
  unfold xa_newa at hs
  split at hs
  · rename_i n r
    split at hs
    · rename_i hcc
      cases hs
      dsimp only at hRc hRs hc1 hc2
      rw [List.length_append, List.length_singleton] at hRc
      rw [xa_sl_app] at hRs
      have hs1 : xa_s1 (.inl (0, n.toNatClampNeg, fun _ => 0)) = n.toNatClampNeg := rfl
      rw [hs1] at hRs
      refine va_newaK (atype := .int) hx hb (hts _ hw) rfl hdg rfl hcc.1 rfl (by show _ * 4 ≤ _; have := hcc.2; omega) (by omega) (by omega) rfl fun H1 cA e1 z1 o1 hAr hNm => ?_
      have hcA : cA = cI := by
        have h2 : s.vm.findClass ("[" ++ FieldType.int.toString) = some cI := (hI.1.2 0 _ rfl).2
        exact Option.some.inj (hNm.symm.trans h2)
      subst hcA
      have hb1 : b0 ≤ tr h.length := hR.top hT
      have e2 : H1[tr h.length]? = some (vp_cell cA (n.toNatClampNeg, .inl fun _ => 0)) := by rw [← hR.1]; exact e1
      have key := kk rl H1 locs (cells + 1) (slots + n.toNatClampNeg) hl (hR.push hT z1 o1 (Or.inl ⟨rfl, hb1, e2⟩)) ⟨Nat.le_trans hS.1 (by omega), fun x h1 h2 => (o1 x (Nat.lt_of_lt_of_le h1 hS.1)).trans (hS.2.1 x h1 h2), hS.2.2⟩ (by rw [List.length_append, List.length_singleton]; omega) (by rw [xa_sl_app, hs1]; omega)
      rw [hR.1]
      exact key
    · cases hs
  · cases hs
theorem xs_new {ci : Nat} {q : vw_C} (hx : p.tables.exec = Jvm.exec) (hb : c.code = cc) (hown : s.vm.findClass own = some m.cls) (hts : ∀ w ∈ xa_gw, w.before args s = true) (hI : xa_Inv D cI cP tr fmt (fun q => b0 ≤ q) s) (hT : xa_tr tr b0) (h12 : ci < 12) (hq : vwCl[ci]? = some q) (hw1 : Cond.classLink own k q.1 ∈ xa_gw) (hw2 : Cond.instantiable q.1 q.2.2 ∈ xa_gw) (hw3 : Cond.initialized q.1 ∈ xa_gw) (hdl : (xa_df ci).length = q.2.2) (hdf : ∀ j, j < q.2.2 → defaultValue (xa_ty q j) = vp_V ((xa_df ci).map (xa_v tr fmt)) j)
    (hdg : decode cc pc = .ok (.new k, 3)) (hs : xa_new (pc + 3) ci ls st h = some (.inl σ)) (hRc : σ.2.2.2.length ≤ n0 + R.cells) (hRs : xa_sl σ.2.2.2 ≤ s0 + R.slots) (kk : xa_WW p l e R s m args below meth c Q D cI cP tr fmt b0 nL n0 s0 σ) : xa_WW p l e R s m args below meth c Q D cI cP tr fmt b0 nL n0 s0 (pc, ls, st, h) := by
  intro rl H locs cells slots hl hR hS hc1 hc2
  unfold xa_new at hs
  cases hs
  dsimp only at hRc hRs hc1 hc2
  rw [List.length_append, List.length_singleton] at hRc
  rw [xa_sl_app] at hRs
  have hs1 : xa_s1 (.inr (ci, xa_df ci)) = q.2.2 := hdl
  rw [hs1] at hRs
  have hKn := hI.1.1 ci _ hq
  refine W.newcK hx hb hown (hts _ hw1) (hts _ hw2) (hts _ hw3) rfl hdg (by omega) (by omega) hKn.2.1 rfl fun H1 kC hkC e1 z1 o1 => ?_
  have hb1 : b0 ≤ tr h.length := hR.top hT
  have hat : va_at D vwCl (tr h.length, .inr (ci, (xa_df ci).map (xa_v tr fmt))) H1 := by
    rw [← hR.1]
    exact ⟨_, hq, (u_born (xa_ty q) hts (xa_cls hq).1 hKn hkC e1 (xa_cls hq).2.1).to hdf⟩
  have key := kk rl H1 locs (cells + 1) (slots + q.2.2) hl (hR.push hT z1 o1 (Or.inr (Or.inr ⟨h12, hb1, hat⟩))) ⟨Nat.le_trans hS.1 (by omega), fun x h1 h2 => (o1 x (Nat.lt_of_lt_of_le h1 hS.1)).trans (hS.2.1 x h1 h2), hS.2.2⟩ (by rw [List.length_append, List.length_singleton]; omega) (by rw [xa_sl_app, hs1]; omega)
  rw [hR.1]
  exact key
end XA4
