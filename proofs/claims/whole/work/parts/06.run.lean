/-! ===== what holds of a state throughout; the rows of the single instructions ===== -/
def xa_Inv (D : va_G) (cI cP : ClassId) (tr : Nat → Nat) (fmt : Value) (A : Nat → Prop) (U : State) : Prop :=
  va_K D vwCl [(cI, .int), (cP, .object "MayMust$Plan")] U ∧ (∀ w ∈ xa_nest, va_Nw w U) ∧ va_AO "MayMust$Plan" U ∧ va_Z "java/lang/String" "COMPACT_STRINGS" "Z" (.int 1) A U U.heap ∧ va_Z "jdk/internal/util/Preconditions" "SIOOBE_FORMATTER" "Ljava/util/function/BiFunction;" fmt A U U.heap ∧ ∀ q ∈ xa_strs, vk_R "MayMust$Tokens" q.1 q.2.1 (tr q.2.2) U
theorem xa_nest_form {w : Cond} (h : w ∈ xa_nest) : ∃ a i x b, w = .methodLinkNest a i x b := by
  have h1 := (List.mem_filter.mp h).2
  cases w <;> first | exact ⟨_, _, _, _, rfl⟩ | (simp at h1)
theorem xa_Inv.to {D : va_G} {cI cP : ClassId} {tr : Nat → Nat} {fmt : Value} {A : Nat → Prop} {s U : State} (hW : s.WarmedH U.vm) (hh : ∀ a : Nat, a < s.heap.size → ¬ A a → U.heap[a]? = s.heap[a]?) (h : xa_Inv D cI cP tr fmt A s) : xa_Inv D cI cP tr fmt A U := by
  obtain ⟨h1, h2, h3, h4, h5, h6⟩ := h
  refine ⟨va_K.moved hW.alike h1, fun w hw => ?_, va_AO.moved hW.alike h3, (va_Z.moved hW.alike h4).kept hh, (va_Z.moved hW.alike h5).kept hh, fun q hq => vk_R.warm hW (h6 q hq)⟩
  obtain ⟨a, i, x, b, rfl⟩ := xa_nest_form hw
  exact va_Nw.warmM hW (h2 _ hw)
theorem xa_Inv.same {D : va_G} {cI cP : ClassId} {tr : Nat → Nat} {fmt : Value} {A : Nat → Prop} {s U : State} (hv : U.vm = s.vm) (hh : U.heap = s.heap) (h : xa_Inv D cI cP tr fmt A s) : xa_Inv D cI cP tr fmt A U := by
  obtain ⟨h1, h2, h3, h4, h5, h6⟩ := h
  have hal : s.vm.Alike U.vm := by rw [hv]; exact Vm.Alike.refl _
  refine ⟨va_K.moved hal h1, fun w hw => ?_, va_AO.moved hal h3, by rw [hh]; exact va_Z.moved hal h4, by rw [hh]; exact va_Z.moved hal h5, fun q hq => vk_R.same hv (h6 q hq)⟩
  obtain ⟨a, i, x, b, rfl⟩ := xa_nest_form hw
  exact va_Nw.same rfl hv.symm (h2 _ hw)
/-- the machine at a state of the small machine comes to Q -/
def xa_WW (p : Program) (l : Launch) (e : Env) (R : Room) (s : State) (m : MethodId) (args : Array Value) (below : List Frame) (meth : Method) (c : Code) (Q : State → Prop) (D : va_G) (cI cP : ClassId) (tr : Nat → Nat) (fmt : Value) (b0 nL n0 s0 : Nat) (σ : xa_S) : Prop :=
  ∀ (rl : Array Slot) (H : Heap) (locs : List Loc) (cells slots : Nat), xa_L tr fmt nL σ.2.1 rl → xa_HR D cI cP tr fmt (fun q => b0 ≤ q) s σ.2.2.2 H → va_S (fun q => b0 ≤ q) s.heap H locs → n0 + cells = σ.2.2.2.length → s0 + slots = xa_sl σ.2.2.2 → W p l e R s m args below meth c H locs cells slots Q (F0 m σ.1 rl (σ.2.2.1.map (xa_v tr fmt)))
def xa_isref (ty : FieldType) : Bool := match ty with
  | .object _ => true
  | .array _ => true
  | _ => false
/-- a callee's parameters -/
def xa_okM (M : xa_M) (n : Nat) : Bool := decide (M.1.cls ≠ "java/lang/invoke/MethodHandle" ∧ M.1.cls ≠ "java/lang/invoke/VarHandle" ∧ (parseMethodDescriptor M.1.desc).map (fun d => d.parameters.length) = some n) && Nat.ble M.2.2.1 40 && plainName M.1.cls
/-- an entry of a table is right -/
def xa_okB (ms : List xa_M) (y : MethodName) (ret : Option FieldType) (pc : Nat) (i : Jvm.ClassFile.Instr) (len : Nat) (a : List Nat) (cv : Int32) : Bool := match i with
  | .iload k => decide (len = 2 ∧ a.getD 0 0 = k)
  | .iload_n k => decide (len = 1 ∧ (k : Nat) = a.getD 0 0)
  | .lload_n k => decide (len = 1 ∧ (k : Nat) = a.getD 0 0)
  | .aload k => decide (len = 2 ∧ a.getD 0 0 = k)
  | .aload_n k => decide (len = 1 ∧ (k : Nat) = a.getD 0 0)
  | .istore k => decide (len = 2 ∧ a.getD 0 0 = k)
  | .istore_n k => decide (len = 1 ∧ (k : Nat) = a.getD 0 0)
  | .astore_n k => decide (len = 1 ∧ (k : Nat) = a.getD 0 0)
  | .iinc k n => decide (len = 3 ∧ a.getD 0 0 = k ∧ Int32.ofInt n = cv)
  | .goto off => decide (len = 3 ∧ (pc : Int) + off = ((a.getD 0 0 : Nat) : Int))
  | .ifCond _ off => decide (len = 3 ∧ (pc : Int) + off = ((a.getD 0 0 : Nat) : Int))
  | .if_icmp _ off => decide (len = 3 ∧ (pc : Int) + off = ((a.getD 0 0 : Nat) : Int))
  | .tableswitch d lo hi offs => decide (lo = 0 ∧ hi = (a.length : Int) - 2 ∧ (pc : Int) + d = ((a.getD 0 0 : Nat) : Int)) && (List.range (a.length - 1)).all (fun j => match offs[j]? with
    | some off => decide ((pc : Int) + off = ((a.getD (j + 1) 0 : Nat) : Int))
    | none => false)
  | .getfield k => decide (len = 3) && (match a.getD 0 0 with
    | 60 => (match a.getD 1 0 with
      | 0 => xa_in (a.getD 5 0) (.fieldLink y.cls k "java/lang/String" "value" "[B")
      | 1 => xa_in (a.getD 5 0) (.fieldLink y.cls k "java/lang/String" "coder" "B")
      | _ => false)
    | ci => decide (ci < 12) && (match vwCl[ci]? with
      | some q => decide (a.getD 1 0 < q.2.2) && xa_in (a.getD 5 0) (.fieldLink y.cls k (q.2.1 (a.getD 1 0)).1 (q.2.1 (a.getD 1 0)).2.1 (q.2.1 (a.getD 1 0)).2.2.1)
      | none => false))
  | .putfield k => decide (len = 3 ∧ a.getD 0 0 < 12) && (match vwCl[a.getD 0 0]? with
      | some q => decide (a.getD 1 0 < q.2.2) && xa_in (a.getD 5 0) (.fieldLink y.cls k (q.2.1 (a.getD 1 0)).1 (q.2.1 (a.getD 1 0)).2.1 (q.2.1 (a.getD 1 0)).2.2.1) && (match parseFieldDescriptor (q.2.1 (a.getD 1 0)).2.2.1 with
        | some ty => (match a.getD 2 0 with
          | 0 => decide (ty = .int)
          | _ => xa_isref ty)
        | none => false) && (if (q.2.1 (a.getD 1 0)).2.2.2 = true then decide (y.name = "<init>" ∧ (q.2.1 (a.getD 1 0)).1 = y.cls) else true)
      | none => false)
  | .newarray t => decide (len = 2 ∧ t = .int) && xa_in (a.getD 5 0) (.arrayClass .int)
  | .anewarray k => decide (len = 3) && xa_in (a.getD 5 0) (.classLink y.cls k "MayMust$Plan")
  | .new k => decide (len = 3) && (match vwCl[a.getD 0 0]? with
      | some q => xa_in (a.getD 5 0) (.classLink y.cls k q.1) && xa_in (a.getD 6 0) (.instantiable q.1 q.2.2) && xa_in (a.getD 7 0) (.initialized q.1) && decide ((xa_df (a.getD 0 0)).length = q.2.2) && (List.range q.2.2).all (fun j => match parseFieldDescriptor (q.2.1 j).2.2.1 with
        | some ty => decide (defaultValue ty = vp_V (xa_df (a.getD 0 0)) j)
        | none => false)
      | none => false)
  | .getstatic k => decide (len = 3) && (match a.getD 0 0 with
    | 0 => xa_in (a.getD 5 0) (.fieldLink y.cls k "java/lang/String" "COMPACT_STRINGS" "Z")
    | _ => xa_in (a.getD 5 0) (.fieldLink y.cls k "jdk/internal/util/Preconditions" "SIOOBE_FORMATTER" "Ljava/util/function/BiFunction;"))
  | .ldc k => decide (len = 2) && (match a.getD 0 0 with
    | 0 => xa_in (a.getD 5 0) (.constant y.cls k cv)
    | j + 1 => decide (y.cls = "MayMust$Tokens") && xa_strs.any (fun q => decide (q.1 = k ∧ q.2.2 = j + 1)))
  | .invokestatic k => decide (len = 3) && (match a.getD 0 0 with
    | 2 => xa_in (a.getD 5 0) (.methodLink y.cls k arraycopyName) && xa_in (a.getD 6 0) (.native arraycopyName) && xa_in (a.getD 7 0) (.static arraycopyName) && xa_in (a.getD 8 0) (.initialized "java/lang/System")
    | 3 => xa_in (a.getD 5 0) (.methodLink y.cls k Lib.Math.max.name) && xa_in (a.getD 6 0) (.static Lib.Math.max.name) && xa_in (a.getD 7 0) (.initialized "java/lang/Math") && xa_in (a.getD 8 0) (.code Lib.Math.max.name Lib.Math.max.code 2 (some .int))
    | 4 => xa_in (a.getD 5 0) (.methodLink y.cls k Lib.Math.min.name) && xa_in (a.getD 6 0) (.static Lib.Math.min.name) && xa_in (a.getD 7 0) (.initialized "java/lang/Math") && xa_in (a.getD 8 0) (.code Lib.Math.min.name Lib.Math.min.code 2 (some .int))
    | 0 => (match ms[a.getD 1 0]? with
      | some M => xa_okM M (a.getD 2 0) && xa_in (a.getD 5 0) (.methodLink y.cls k M.1) && xa_in (a.getD 6 0) (.static M.1)
      | none => false)
    | 1 => (match ms[a.getD 1 0]? with
      | some M => xa_okM M (a.getD 2 0) && decide (lw_tbl[a.getD 9 0]? = some (Cond.methodLinkNest y.cls k M.1 "MayMust")) && xa_in (a.getD 5 0) (.static M.1)
      | none => false)
    | _ => false)
  | .invokevirtual k => decide (len = 3) && (match ms[a.getD 1 0]? with
      | some M => xa_okM M (a.getD 2 0) && xa_in (a.getD 5 0) (.methodLink y.cls k M.1) && xa_in (a.getD 6 0) (.instanceMethod M.1) && xa_in (a.getD 7 0) (.selects M.1.cls M.1 M.1) && (match a.getD 3 0 with
        | 60 => decide (M.1.cls = "java/lang/String")
        | ci => decide (ci < 12) && (match vwCl[ci]? with
          | some q => decide (q.1 = M.1.cls)
          | none => false))
      | none => false)
  | .invokespecial k => decide (len = 3) && (match a.getD 0 0 with
    | 9 => xa_in (a.getD 5 0) (.methodLink y.cls k objectInit) && xa_in (a.getD 6 0) (.instanceMethod objectInit) && xa_in (a.getD 7 0) (.code objectInit ⟨#[0xb1]⟩ 1 none)
    | 0 => (match ms[a.getD 1 0]? with
      | some M => xa_okM M (a.getD 2 0) && xa_in (a.getD 5 0) (.methodLink y.cls k M.1) && xa_in (a.getD 6 0) (.instanceMethod M.1) && decide (M.1.name = "<init>" ∧ M.2.2.2.1 = none)
      | none => false)
    | 1 => (match ms[a.getD 1 0]? with
      | some M => xa_okM M (a.getD 2 0) && decide (lw_tbl[a.getD 9 0]? = some (Cond.methodLinkNest y.cls k M.1 "MayMust")) && xa_in (a.getD 5 0) (.instanceMethod M.1) && decide (M.1.name = "<init>" ∧ M.2.2.2.1 = none)
      | none => false)
    | _ => false)
  | .ireturn => decide (len = 1) && (match a.getD 0 0 with
    | 0 => decide (ret = some .int)
    | 1 => decide (ret = some .boolean)
    | 2 => decide (ret = some .char)
    | _ => decide (ret = some .byte))
  | .return_ => decide (len = 1 ∧ ret = none)
  | .iaload => decide (len = 1)
  | .baload => decide (len = 1)
  | .iastore => decide (len = 1)
  | .arraylength => decide (len = 1)
  | .aaload => decide (len = 1)
  | .aastore => decide (len = 1)
  | i => xa_okA y.cls i len a cv
/-- a callee's own words, by the places that its table's first row tells -/
def xa_okC (M : xa_M) : Bool := match M.2.2.2.2 with
  | e :: _ => xa_in (e.2.2.2.1.getD 0 0) (.code M.1 M.2.1 M.2.2.1 M.2.2.2.1) && xa_in (e.2.2.2.1.getD 1 0) (.initialized M.1.cls)
  | [] => false
theorem xa_nest_of {k : Nat} {o : String} {j : Nat} {y : MethodName} {b : String} (h : lw_tbl[k]? = some (Cond.methodLinkNest o j y b)) : Cond.methodLinkNest o j y b ∈ xa_nest := List.mem_filter.mpr ⟨List.mem_of_getElem? h, rfl⟩
section XA3
variable {p : Program} {l : Launch} {e : Env} {R : Room} {s : State} {m : MethodId} {args : Array Value} {below : List Frame} {meth : Method} {c : Code} {Q : State → Prop} {D : va_G} {cI cP : ClassId} {tr : Nat → Nat} {fmt : Value} {b0 nL n0 s0 : Nat} {cc : ByteArray} {own : String} {pc k tgt : Nat} {ls st : List Value} {h : xa_H} {σ : xa_S}
theorem xs_ldi {n2 : Nat} (row : ∀ {rl : Array Slot} {H : Heap} {locs : List Loc} {cells slots : Nat} {x : Int32} {rest : List Value}, rl[k]? = some (.val (.int x)) → W p l e R s m args below meth c H locs cells slots Q (F0 m n2 rl (.int x :: rest)) → W p l e R s m args below meth c H locs cells slots Q (F0 m pc rl rest)) (hs : xa_ldi n2 k ls st h = some (.inl σ)) (kk : xa_WW p l e R s m args below meth c Q D cI cP tr fmt b0 nL n0 s0 σ) : xa_WW p l e R s m args below meth c Q D cI cP tr fmt b0 nL n0 s0 (pc, ls, st, h) := by
  intro rl H locs cells slots hl hR hS hc1 hc2
  unfold xa_ldi at hs
  split at hs
  · rename_i x hx
    cases hs
    exact row (hl.2.2.2 k _ hx rfl) (kk rl H locs cells slots hl hR hS hc1 hc2)
  · cases hs
theorem xs_ldl {n2 : Nat} (row : ∀ {rl : Array Slot} {H : Heap} {locs : List Loc} {cells slots : Nat} {x : Int64} {rest : List Value}, rl[k]? = some (.val (.long x)) → W p l e R s m args below meth c H locs cells slots Q (F0 m n2 rl (.long x :: rest)) → W p l e R s m args below meth c H locs cells slots Q (F0 m pc rl rest)) (hs : xa_ldl n2 k ls st h = some (.inl σ)) (kk : xa_WW p l e R s m args below meth c Q D cI cP tr fmt b0 nL n0 s0 σ) : xa_WW p l e R s m args below meth c Q D cI cP tr fmt b0 nL n0 s0 (pc, ls, st, h) := by
  intro rl H locs cells slots hl hR hS hc1 hc2
  unfold xa_ldl at hs
  split at hs
  · rename_i x hx
    cases hs
    exact row (hl.2.2.2 k _ hx rfl) (kk rl H locs cells slots hl hR hS hc1 hc2)
  · cases hs
theorem xs_lda {n2 : Nat} (row : ∀ {rl : Array Slot} {H : Heap} {locs : List Loc} {cells slots : Nat} {x : Nat} {rest : List Value}, rl[k]? = some (.val (.ref x)) → W p l e R s m args below meth c H locs cells slots Q (F0 m n2 rl (.ref x :: rest)) → W p l e R s m args below meth c H locs cells slots Q (F0 m pc rl rest)) (hs : xa_lda n2 k ls st h = some (.inl σ)) (kk : xa_WW p l e R s m args below meth c Q D cI cP tr fmt b0 nL n0 s0 σ) : xa_WW p l e R s m args below meth c Q D cI cP tr fmt b0 nL n0 s0 (pc, ls, st, h) := by
  intro rl H locs cells slots hl hR hS hc1 hc2
  unfold xa_lda at hs
  split at hs
  · rename_i x hx
    cases hs
    exact row (hl.2.2.2 k _ hx rfl) (kk rl H locs cells slots hl hR hS hc1 hc2)
  · cases hs
theorem xs_sti {n2 : Nat} (hf : fmt.category = 1) (row : ∀ {rl : Array Slot} {H : Heap} {locs : List Loc} {cells slots : Nat} {x : Int32} {rest : List Value} {lv : List (Nat × Value)}, lv_has rl nL lv → k < nL → (∀ ls' : Array Slot, lv_has ls' nL ((k, Value.int x) :: lv.filter (fun q => !(q.1 == k) && !(q.1 + 1 == k && q.2.category == 2))) → W p l e R s m args below meth c H locs cells slots Q (F0 m n2 ls' rest)) → W p l e R s m args below meth c H locs cells slots Q (F0 m pc rl (.int x :: rest))) (hs : xa_sti n2 k ls st h = some (.inl σ)) (kk : xa_WW p l e R s m args below meth c Q D cI cP tr fmt b0 nL n0 s0 σ) : xa_WW p l e R s m args below meth c Q D cI cP tr fmt b0 nL n0 s0 (pc, ls, st, h) := by
  intro rl H locs cells slots hl hR hS hc1 hc2
  unfold xa_sti at hs
  split at hs
  · split at hs
    · rename_i x r hfr
      cases hs
      refine row hl.has (by rw [← hl.1]; exact xa_free_lt hfr) (fun ls' h' => kk ls' H locs cells slots (hl.store hf hfr (v := .int x) h') hR hS hc1 hc2)
    · cases hs
  · cases hs
theorem xs_sta {n2 : Nat} (hf : fmt.category = 1) (row : ∀ {rl : Array Slot} {H : Heap} {locs : List Loc} {cells slots : Nat} {x : Nat} {rest : List Value} {lv : List (Nat × Value)}, lv_has rl nL lv → k < nL → (∀ ls' : Array Slot, lv_has ls' nL ((k, Value.ref x) :: lv.filter (fun q => !(q.1 == k) && !(q.1 + 1 == k && q.2.category == 2))) → W p l e R s m args below meth c H locs cells slots Q (F0 m n2 ls' rest)) → W p l e R s m args below meth c H locs cells slots Q (F0 m pc rl (.ref x :: rest))) (hs : xa_sta n2 k ls st h = some (.inl σ)) (kk : xa_WW p l e R s m args below meth c Q D cI cP tr fmt b0 nL n0 s0 σ) : xa_WW p l e R s m args below meth c Q D cI cP tr fmt b0 nL n0 s0 (pc, ls, st, h) := by
  intro rl H locs cells slots hl hR hS hc1 hc2
  unfold xa_sta at hs
  split at hs
  · split at hs
    · rename_i x r hfr
      cases hs
      refine row hl.has (by rw [← hl.1]; exact xa_free_lt hfr) (fun ls' h' => kk ls' H locs cells slots (hl.store hf hfr (v := .ref x) h') hR hS hc1 hc2)
    · cases hs
  · cases hs
theorem xs_inc {n2 : Nat} {cv : Int32} {n : Int} (hf : fmt.category = 1) (hx : p.tables.exec = Jvm.exec) (hb : c.code = cc) (hn2 : n2 = pc + 3) (hn : Int32.ofInt n = cv) (hdg : decode cc pc = .ok (.iinc k n, 3)) (hs : xa_inc n2 k cv ls st h = some (.inl σ)) (kk : xa_WW p l e R s m args below meth c Q D cI cP tr fmt b0 nL n0 s0 σ) : xa_WW p l e R s m args below meth c Q D cI cP tr fmt b0 nL n0 s0 (pc, ls, st, h) := by
  intro rl H locs cells slots hl hR hS hc1 hc2
  subst hn2
  unfold xa_inc at hs
  split at hs
  · rename_i x hx1
    split at hs
    · rename_i hfr
      cases hs
      have hm : (k, Value.int x) ∈ xa_pl tr fmt ls := xa_pl_mem.mpr ⟨_, hx1, rfl, rfl⟩
      obtain ⟨j, hj⟩ := List.getElem?_of_mem hm
      exact lv_iinc (v := x + cv) hx hb hdg hl.has hj (by rw [hn]) (by rw [← hl.1]; exact xa_free_lt hfr) rfl (fun ls' h' => kk ls' H locs cells slots (hl.store hf hfr (v := .int (x + cv)) h') hR hS hc1 hc2)
    · cases hs
  · cases hs
theorem xs_if1 {cd : Jvm.ClassFile.Cond} {off : Int} (hx : p.tables.exec = Jvm.exec) (hb : c.code = cc) (hdg : decode cc pc = .ok (.ifCond cd off, 3)) (ht : (pc : Int) + off = (tgt : Int)) (hs : xa_if1 cd (pc + 3) tgt ls st h = some (.inl σ)) (kk : xa_WW p l e R s m args below meth c Q D cI cP tr fmt b0 nL n0 s0 σ) : xa_WW p l e R s m args below meth c Q D cI cP tr fmt b0 nL n0 s0 (pc, ls, st, h) := by
  intro rl H locs cells slots hl hR hS hc1 hc2
  unfold xa_if1 at hs
  split at hs
  · rename_i x r
    cases hs
    have kk := kk rl H locs cells slots hl hR hS hc1 hc2
    cases cd with
    | eq => exact lv_if_eq hx hb hdg ht (fun q => by simpa [xa_cmp, q] using kk) (fun q => by simpa [xa_cmp, q] using kk)
    | ne => exact lv_if_ne hx hb hdg ht (fun q => by simpa [xa_cmp, q] using kk) (fun q => by simpa [xa_cmp, q] using kk)
    | lt => exact lv_if_lt hx hb hdg ht (fun q => by simpa [xa_cmp, q] using kk) (fun q => by simpa [xa_cmp, q] using kk)
    | ge => exact lv_if_ge hx hb hdg ht (fun q => by simpa [xa_cmp, q] using kk) (fun q => by simpa [xa_cmp, q] using kk)
    | gt => exact lv_if_gt hx hb hdg ht (fun q => by simpa [xa_cmp, q] using kk) (fun q => by simpa [xa_cmp, q] using kk)
    | le => exact lv_if_le hx hb hdg ht (fun q => by simpa [xa_cmp, q] using kk) (fun q => by simpa [xa_cmp, q] using kk)
  · cases hs
theorem xs_if2 {cd : Jvm.ClassFile.Cond} {off : Int} (hx : p.tables.exec = Jvm.exec) (hb : c.code = cc) (hdg : decode cc pc = .ok (.if_icmp cd off, 3)) (ht : (pc : Int) + off = (tgt : Int)) (hs : xa_if2 cd (pc + 3) tgt ls st h = some (.inl σ)) (kk : xa_WW p l e R s m args below meth c Q D cI cP tr fmt b0 nL n0 s0 σ) : xa_WW p l e R s m args below meth c Q D cI cP tr fmt b0 nL n0 s0 (pc, ls, st, h) := by
  intro rl H locs cells slots hl hR hS hc1 hc2
  unfold xa_if2 at hs
  split at hs
  · rename_i y x r
    cases hs
    have kk := kk rl H locs cells slots hl hR hS hc1 hc2
    cases cd with
    | eq => exact lv_icmp_eq hx hb hdg ht (fun q => by simpa [xa_cmp, q] using kk) (fun q => by simpa [xa_cmp, q] using kk)
    | ne => exact lv_icmp_ne hx hb hdg ht (fun q => by simpa [xa_cmp, q] using kk) (fun q => by simpa [xa_cmp, q] using kk)
    | lt => exact lv_icmp_lt hx hb hdg ht (fun q => by simpa [xa_cmp, q] using kk) (fun q => by simpa [xa_cmp, q] using kk)
    | ge => exact lv_icmp_ge hx hb hdg ht (fun q => by simpa [xa_cmp, q] using kk) (fun q => by simpa [xa_cmp, q] using kk)
    | gt => exact lv_icmp_gt hx hb hdg ht (fun q => by simpa [xa_cmp, q] using kk) (fun q => by simpa [xa_cmp, q] using kk)
    | le => exact lv_icmp_le hx hb hdg ht (fun q => by simpa [xa_cmp, q] using kk) (fun q => by simpa [xa_cmp, q] using kk)
  · cases hs
end XA3
