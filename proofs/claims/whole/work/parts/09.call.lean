/-! ===== calls ===== -/
def xa_Pc (D : va_G) (cI cP : ClassId) (tr : Nat → Nat) (fmt : Value) (b0 : Nat) (as : List Value) (h : xa_H) : Array Value → State → Prop := fun v U => v = (as.map (xa_v tr fmt)).toArray ∧ xa_HR D cI cP tr fmt (fun q => b0 ≤ q) U h U.heap ∧ xa_Inv D cI cP tr fmt (fun q => b0 ≤ q) U
def xa_Qc (D : va_G) (cI cP : ClassId) (tr : Nat → Nat) (fmt : Value) (b0 : Nat) (r : Option Value) (h : xa_H) : Array Value → State → Outcome → State → Prop := fun _ st oc t => oc = .returned (r.map (xa_v tr fmt)) ∧ xa_HR D cI cP tr fmt (fun q => b0 ≤ q) t h t.heap ∧ va_F (fun q => b0 ≤ q) st t
def xa_rm (d mc ms : Nat) : Room := { frames := d, cells := mc, slots := ms, locals := 64 * d }
/-- what a call of the small machine gives on the machine -/
def xa_Met (l : Launch) (D : va_G) (cI cP : ClassId) (tr : Nat → Nat) (fmt : Value) (b0 d : Nat) (M : xa_M) (as : List Value) (h : xa_H) (r : Option Value) (h' : xa_H) : Prop :=
  Met l M.1 (.code M.1 M.2.1 M.2.2.1 M.2.2.2.1 :: xa_gw) (xa_rm d (h'.length - h.length) (xa_sl h' - xa_sl h)) (xa_Pc D cI cP tr fmt b0 as h) (xa_Qc D cI cP tr fmt b0 r h') (h'.length - h.length) (xa_sl h' - xa_sl h) (fun q => b0 ≤ q)
theorem xa_split {α : Type} {st : List α} {n : Nat} {v : α} (h : st[n]? = some v) : st = st.take n ++ v :: st.drop (n + 1) := by
  induction st generalizing n with
  | nil => simp at h
  | cons a as ih =>
    cases n with
    | zero => simp at h; subst h; simp
    | succ n =>
      simp at h
      simp
      exact ih h
theorem xa_take1 {α : Type} {st : List α} {n : Nat} {v : α} (h : st[n]? = some v) : (st.take (n + 1)).reverse = v :: (st.take n).reverse := by
  rw [List.take_add_one, h]
  simp
section XA6
variable {p : Program} {l : Launch} {e : Env} {R : Room} {s : State} {m : MethodId} {args : Array Value} {below : List Frame} {meth : Method} {c : Code} {Q : State → Prop} {D : va_G} {cI cP : ClassId} {tr : Nat → Nat} {fmt : Value} {b0 nL n0 s0 : Nat} {cc : ByteArray} {own : String} {pc k : Nat} {ls st : List Value} {h : xa_H} {σ : xa_S}
theorem xa_blind {as : List Value} : FrameBlind (xa_Pc D cI cP tr fmt b0 as h) := by
  intro a U g mk hP
  obtain ⟨h1, h2, h3⟩ := hP
  exact ⟨h1, xa_HR.moved (u := U) (U := U.calling g mk a) (Vm.Alike.refl U.vm) h2, xa_Inv.same (s := U) (U := U.calling g mk a) rfl rfl h3⟩
theorem xa_pre {as : List Value} {H : Heap} {locs : List Loc} (hI : xa_Inv D cI cP tr fmt (fun q => b0 ≤ q) s) (hR : xa_HR D cI cP tr fmt (fun q => b0 ≤ q) s h H) (hS : va_S (fun q => b0 ≤ q) s.heap H locs) {U : State} (hU : U.heap = H) (hW : s.WarmedH U.vm) : xa_Pc D cI cP tr fmt b0 as h (as.map (xa_v tr fmt)).toArray U :=
  ⟨rfl, by rw [hU]; exact hR.moved hW.alike, hI.to hW (fun a ha hna => by rw [hU]; exact hS.2.1 a ha hna)⟩
theorem xa_after {r : Option Value} {h' : xa_H} {rl : Array Slot} {H : Heap} {locs : List Loc} {cells slots mc ms : Nat} {st0 : List Value} {as : Array Value} (hl : xa_L tr fmt nL ls rl) (hS : va_S (fun q => b0 ≤ q) s.heap H locs) (hc1 : n0 + (cells + mc) = h'.length) (hc2 : s0 + (slots + ms) = xa_sl h')
    (hr : va_Run p l e R s m args below meth c H locs cells slots mc ms (F0 m pc rl st0) (st.map (xa_v tr fmt)) (xa_Qc D cI cP tr fmt b0 r h' as) (fun q => b0 ≤ q))
    (kk : xa_WW p l e R s m args below meth c Q D cI cP tr fmt b0 nL n0 s0 (pc + 3, ls, r.toList ++ st, h')) : W p l e R s m args below meth c H locs cells slots Q (F0 m pc rl st0) := by
  intro T hT X
  obtain ⟨v, st₀, t, T', L, h0, X', hL, e1, e2, ⟨hv, hHR, hF⟩, go⟩ := hr T hT X
  have hv' : v = r.map (xa_v tr fmt) := Outcome.returned.inj hv
  subst hv'
  have hal : t.vm.Alike s.vm := by rw [← e2]; exact X'.warmed.alike.symm
  have hS' : va_S (fun q => b0 ≤ q) s.heap T'.heap (locs ++ L) := by
    rw [e1]
    obtain ⟨f1, f2⟩ := hF
    rw [h0] at f1 f2
    refine ⟨Nat.le_trans hS.1 f1, fun q q1 q2 => (f2 q (Nat.lt_of_lt_of_le q1 hS.1) q2).trans (hS.2.1 q q1 q2), fun q hq => ?_⟩
    rcases List.mem_append.mp hq with z | z
    · exact hS.2.2 q z
    · exact hL q z
  have hW := kk rl T'.heap (locs ++ L) (cells + mc) (slots + ms) hl (by rw [e1]; exact hHR.moved hal) hS' hc1 hc2
  have hst : (r.toList ++ st).map (xa_v tr fmt) = (r.map (xa_v tr fmt)).toList ++ st.map (xa_v tr fmt) := by
    cases r <;> rfl
  obtain ⟨t2, a1, b1⟩ := hW T' rfl X'
  refine ⟨t2, go t2 ?_, b1⟩
  rw [← hst]
  exact a1
def xa_cw (M : xa_M) : Prop := Cond.code M.1 M.2.1 M.2.2.1 M.2.2.2.1 ∈ xa_gw ∧ Cond.initialized M.1.cls ∈ xa_gw
theorem xa_cw_of {M : xa_M} (h : xa_okC M = true) : xa_cw M := by
  unfold xa_okC at h
  split at h
  · simp only [Bool.and_eq_true] at h
    exact ⟨xa_in_gw h.1, xa_in_gw h.2⟩
  · cases h
theorem xa_gw_code {M : xa_M} (h : xa_cw M) : GoodIn xa_gw (.code M.1 M.2.1 M.2.2.1 M.2.2.2.1 :: xa_gw) := by
  intro w hw
  rcases List.mem_cons.mp hw with rfl | hw
  · exact xa_gw_good _ h.1
  · exact xa_gw_good w hw
theorem xa_callB {M : xa_M} {n d mc ms : Nat} (hcw : xa_cw M) (hok : xa_okM M n = true) (hts : ∀ w ∈ xa_gw, w.before args s = true) (hw : Cond.methodLink own k M.1 ∈ xa_gw) (hRf : d + 1 ≤ R.frames) (hRl : 64 * (d + 1) ≤ R.locals) : CallB R s args own k M.1 M.2.1 M.2.2.1 M.2.2.2.1 (.code M.1 M.2.1 M.2.2.1 M.2.2.2.1 :: xa_gw) (xa_rm d mc ms) mc ms n := by
  have hG := xa_gw_code hcw
  unfold xa_okM at hok
  simp only [Bool.and_eq_true, decide_eq_true_eq] at hok
  obtain ⟨⟨h3, h4⟩, h5⟩ := hok
  have h4' := Nat.le_of_ble_eq_true h4
  exact callB_of n hts hG rfl rfl rfl (hts _ hcw.2) (hts _ hw) h3 ⟨hRf, by show 8 + (_ + 11) + 64 * d ≤ _; omega⟩
theorem xa_callN {M : xa_M} {n d mc ms : Nat} (hcw : xa_cw M) (hok : xa_okM M n = true) (hts : ∀ w ∈ xa_gw, w.before args s = true) (hI : xa_Inv D cI cP tr fmt (fun q => b0 ≤ q) s) (hw : Cond.methodLinkNest own k M.1 "MayMust" ∈ xa_nest) (hRf : d + 1 ≤ R.frames) (hRl : 64 * (d + 1) ≤ R.locals) : va_CN R s args own k M.1 "MayMust" M.2.1 M.2.2.1 M.2.2.2.1 (.code M.1 M.2.1 M.2.2.1 M.2.2.2.1 :: xa_gw) (xa_rm d mc ms) mc ms n := by
  have hG := xa_gw_code hcw
  unfold xa_okM at hok
  simp only [Bool.and_eq_true, decide_eq_true_eq] at hok
  obtain ⟨⟨h3, h4⟩, h5⟩ := hok
  have h4' := Nat.le_of_ble_eq_true h4
  exact va_cnB n hts hG rfl rfl rfl (hI.2.1 _ hw) (hts _ hcw.2) h3 ⟨hRf, by show 8 + (_ + 11) + 64 * d ≤ _; omega⟩
/-- a static call -/
theorem xs_calls {M : xa_M} {n d : Nat} {r : Option Value} {h' : xa_H} (nest : Bool) (hx : p.tables.exec = Jvm.exec) (hb : c.code = cc) (hml : c.maxLocals = nL) (hf : fmt.category = 1) (hown : s.vm.findClass own = some m.cls) (hts : ∀ w ∈ xa_gw, w.before args s = true) (hI : xa_Inv D cI cP tr fmt (fun q => b0 ≤ q) s) (hcw : xa_cw M) (hok : xa_okM M n = true) (hw1 : nest = false → Cond.methodLink own k M.1 ∈ xa_gw) (hw2 : nest = true → Cond.methodLinkNest own k M.1 "MayMust" ∈ xa_nest) (hw3 : Cond.static M.1 ∈ xa_gw) (hRf : d + 1 ≤ R.frames) (hRl : 64 * (d + 1) ≤ R.locals)
    (hM : xa_Met l D cI cP tr fmt b0 d M (st.take n).reverse h r h') (hm1 : h.length ≤ h'.length) (hm2 : xa_sl h ≤ xa_sl h') (hRc : h'.length ≤ n0 + R.cells) (hRs : xa_sl h' ≤ s0 + R.slots)
    (hn : n ≤ st.length) (hr : xa_room (st.drop n) = true) (hdg : decode cc pc = .ok (.invokestatic k, 3)) (kk : xa_WW p l e R s m args below meth c Q D cI cP tr fmt b0 nL n0 s0 (pc + 3, ls, r.toList ++ st.drop n, h')) : xa_WW p l e R s m args below meth c Q D cI cP tr fmt b0 nL n0 s0 (pc, ls, st, h) := by
  intro rl H locs cells slots hl hR hS hc1 hc2
  dsimp only at hl hR hc1 hc2 ⊢
  have h8 := xs_sum (tr := tr) hf hr
  have hst : st.map (xa_v tr fmt) = (((st.take n).reverse).map (xa_v tr fmt)).reverse ++ (st.drop n).map (xa_v tr fmt) := by
    rw [← List.map_reverse, List.reverse_reverse, ← List.map_append, List.take_append_drop]
  have hp : PreS s H (xa_Pc D cI cP tr fmt b0 (st.take n).reverse h) (((st.take n).reverse).map (xa_v tr fmt)) := ⟨xa_blind, fun U hU hW => xa_pre hI hR hS hU hW⟩
  have hlen : (((st.take n).reverse).map (xa_v tr fmt)).length = n := by simp; omega
  refine xa_after (as := (((st.take n).reverse).map (xa_v tr fmt)).toArray) (mc := h'.length - h.length) (ms := xa_sl h' - xa_sl h) hl hS (by omega) (by omega) ?_ kk
  cases nest with
  | false => exact va_runS ⟨hx, hb, hml, hown, hts⟩ hM ⟨xa_callB hcw hok hts (hw1 rfl) hRf hRl, hts _ hw3⟩ hp rfl hlen hl.2.1 hst (lv_room h8) hdg ⟨by omega, by omega⟩
  | true => exact va_runSN ⟨hx, hb, hml, hown, hts⟩ hM ⟨xa_callN hcw hok hts hI (hw2 rfl) hRf hRl, hts _ hw3, trivial⟩ hp rfl hlen hl.2.1 hst (lv_room h8) hdg ⟨by omega, by omega⟩
/-- a constructor -/
theorem xs_calli {M : xa_M} {n d o : Nat} {r : Option Value} {h' : xa_H} (nest : Bool) (hx : p.tables.exec = Jvm.exec) (hb : c.code = cc) (hml : c.maxLocals = nL) (hf : fmt.category = 1) (hown : s.vm.findClass own = some m.cls) (hts : ∀ w ∈ xa_gw, w.before args s = true) (hI : xa_Inv D cI cP tr fmt (fun q => b0 ≤ q) s) (hcw : xa_cw M) (hok : xa_okM M n = true) (hw1 : nest = false → Cond.methodLink own k M.1 ∈ xa_gw) (hw2 : nest = true → Cond.methodLinkNest own k M.1 "MayMust" ∈ xa_nest) (hw3 : Cond.instanceMethod M.1 ∈ xa_gw) (hnm : M.1.name = "<init>") (hret : M.2.2.2.1 = none) (hRf : d + 1 ≤ R.frames) (hRl : 64 * (d + 1) ≤ R.locals)
    (hM : xa_Met l D cI cP tr fmt b0 d M (st.take (n + 1)).reverse h r h') (hm1 : h.length ≤ h'.length) (hm2 : xa_sl h ≤ xa_sl h') (hRc : h'.length ≤ n0 + R.cells) (hRs : xa_sl h' ≤ s0 + R.slots)
    (ho : st[n]? = some (.ref o)) (hr : xa_room (st.drop (n + 1)) = true) (hdg : decode cc pc = .ok (.invokespecial k, 3)) (kk : xa_WW p l e R s m args below meth c Q D cI cP tr fmt b0 nL n0 s0 (pc + 3, ls, r.toList ++ st.drop (n + 1), h')) : xa_WW p l e R s m args below meth c Q D cI cP tr fmt b0 nL n0 s0 (pc, ls, st, h) := by
  intro rl H locs cells slots hl hR hS hc1 hc2
  dsimp only at hl hR hc1 hc2 ⊢
  have h8 := xs_sum (tr := tr) hf hr
  have hlt : n < st.length := (List.getElem?_eq_some_iff.mp ho).1
  rw [xa_take1 ho] at hM
  have hst : st.map (xa_v tr fmt) = (((st.take n).reverse).map (xa_v tr fmt)).reverse ++ .ref (tr o) :: (st.drop (n + 1)).map (xa_v tr fmt) := by
    have := congrArg (List.map (xa_v tr fmt)) (xa_split ho)
    rw [this, List.map_append, ← List.map_reverse, List.reverse_reverse]
    rfl
  have hp : PreS s H (xa_Pc D cI cP tr fmt b0 (.ref o :: (st.take n).reverse) h) (.ref (tr o) :: ((st.take n).reverse).map (xa_v tr fmt)) := ⟨xa_blind, fun U hU hW => xa_pre (as := .ref o :: (st.take n).reverse) hI hR hS hU hW⟩
  have hlen : (((st.take n).reverse).map (xa_v tr fmt)).length = n := by simp; omega
  obtain ⟨y, mc, mL, mr, mt⟩ := M
  dsimp only at hret hnm hw1 hw2 hw3
  subst hret
  refine xa_after (as := (Value.ref (tr o) :: ((st.take n).reverse).map (xa_v tr fmt)).toArray) (mc := h'.length - h.length) (ms := xa_sl h' - xa_sl h) hl hS (by omega) (by omega) ?_ kk
  cases nest with
  | false => exact va_runI ⟨hx, hb, hml, hown, hts⟩ hM ⟨xa_callB hcw hok hts (hw1 rfl) hRf hRl, hnm, hts _ hw3⟩ hp rfl hlen hl.2.1 hst (lv_room h8) hdg ⟨by omega, by omega⟩
  | true => exact va_runIN ⟨hx, hb, hml, hown, hts⟩ hM ⟨xa_callN hcw hok hts hI (hw2 rfl) hRf hRl, hnm, hts _ hw3⟩ hp rfl hlen hl.2.1 hst (lv_room h8) hdg ⟨by omega, by omega⟩
/-- a call of an object's method -/
theorem xs_callv {M : xa_M} {n d o ci : Nat} {fs : List Value} {r : Option Value} {h' : xa_H} (hx : p.tables.exec = Jvm.exec) (hb : c.code = cc) (hml : c.maxLocals = nL) (hf : fmt.category = 1) (hown : s.vm.findClass own = some m.cls) (hts : ∀ w ∈ xa_gw, w.before args s = true) (hI : xa_Inv D cI cP tr fmt (fun q => b0 ≤ q) s) (hcw : xa_cw M) (hok : xa_okM M n = true) (hw1 : Cond.methodLink own k M.1 ∈ xa_gw) (hw2 : Cond.instanceMethod M.1 ∈ xa_gw) (hw3 : Cond.selects M.1.cls M.1 M.1 ∈ xa_gw) (hci : (ci = 60 ∧ M.1.cls = "java/lang/String") ∨ (ci < 12 ∧ ∃ q, vwCl[ci]? = some q ∧ q.1 = M.1.cls)) (hRf : d + 1 ≤ R.frames) (hRl : 64 * (d + 1) ≤ R.locals)
    (hM : xa_Met l D cI cP tr fmt b0 d M (st.take (n + 1)).reverse h r h') (hm1 : h.length ≤ h'.length) (hm2 : xa_sl h ≤ xa_sl h') (hRc : h'.length ≤ n0 + R.cells) (hRs : xa_sl h' ≤ s0 + R.slots)
    (ho : st[n]? = some (.ref o)) (hcell : h[o]? = some (.inr (ci, fs))) (hr : xa_room (st.drop (n + 1)) = true) (hdg : decode cc pc = .ok (.invokevirtual k, 3)) (kk : xa_WW p l e R s m args below meth c Q D cI cP tr fmt b0 nL n0 s0 (pc + 3, ls, r.toList ++ st.drop (n + 1), h')) : xa_WW p l e R s m args below meth c Q D cI cP tr fmt b0 nL n0 s0 (pc, ls, st, h) := by
  intro rl H locs cells slots hl hR hS hc1 hc2
  dsimp only at hl hR hc1 hc2 ⊢
  have h8 := xs_sum (tr := tr) hf hr
  have hlt : n < st.length := (List.getElem?_eq_some_iff.mp ho).1
  rw [xa_take1 ho] at hM
  have hst : st.map (xa_v tr fmt) = (((st.take n).reverse).map (xa_v tr fmt)).reverse ++ .ref (tr o) :: (st.drop (n + 1)).map (xa_v tr fmt) := by
    have := congrArg (List.map (xa_v tr fmt)) (xa_split ho)
    rw [this, List.map_append, ← List.map_reverse, List.reverse_reverse]
    rfl
  have hrec : ∃ cellB : Cell, H[tr o]? = some cellB ∧ cellB.vm.isStatics = false ∧ s.vm.findClass M.1.cls = some cellB.cls := by
    have hc := hR.2.2 o _ hcell
    rcases hci with ⟨h60, hcl⟩ | ⟨h12, q, hq, hcl⟩
    · rcases hc with ⟨h1, -⟩ | ⟨-, ⟨cell, g1, g2, g3, -⟩, -⟩ | ⟨h1, -⟩
      · omega
      · exact ⟨cell, g1, g2, by rw [hcl]; exact g3⟩
      · omega
    · rcases hc with ⟨h1, -⟩ | ⟨h1, -⟩ | ⟨-, -, hat⟩
      · omega
      · omega
      · obtain ⟨cell, g1, g2, g3⟩ := va_recv hI.1 (xa_P1 hat) hq (q0 := 0) rfl
        exact ⟨cell, g1, g2, by rw [← hcl]; exact g3⟩
  have hp : PreV s H M.1.cls (tr o) (xa_Pc D cI cP tr fmt b0 (.ref o :: (st.take n).reverse) h) (((st.take n).reverse).map (xa_v tr fmt)) := ⟨xa_blind, hrec, fun U hU hW => xa_pre (as := .ref o :: (st.take n).reverse) hI hR hS hU hW⟩
  have hlen : (((st.take n).reverse).map (xa_v tr fmt)).length = n := by simp; omega
  refine xa_after (as := (Value.ref (tr o) :: ((st.take n).reverse).map (xa_v tr fmt)).toArray) (mc := h'.length - h.length) (ms := xa_sl h' - xa_sl h) hl hS (by omega) (by omega) ?_ kk
  exact va_runV ⟨hx, hb, hml, hown, hts⟩ hM ⟨xa_callB hcw hok hts hw1 hRf hRl, hts _ hw2, hts _ hw3⟩ hp rfl hlen hl.2.1 hst (lv_room h8) hdg ⟨by omega, by omega⟩
end XA6
