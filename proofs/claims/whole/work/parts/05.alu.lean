/-! ===== which words hold, and which entries of a table are right ===== -/
def xa_gw : List Cond := lw_tbl.filter goodWord
/-- a word stands at a place of the tables -/
def xa_in (k : Nat) (w : Cond) : Bool := decide (lw_tbl[k]? = some w) && goodWord w
theorem xa_in_gw {k : Nat} {w : Cond} (h : xa_in k w = true) : w ∈ xa_gw := by
  unfold xa_in at h
  simp only [Bool.and_eq_true, decide_eq_true_eq] at h
  exact List.mem_filter.mpr ⟨List.mem_of_getElem? h.1, h.2⟩
theorem xa_gw_good : GoodIn xa_gw xa_gw := fun w hw => ⟨hw, good_of_word (List.mem_filter.mp hw).2⟩
def xa_nest : List Cond := lw_tbl.filter fun w => match w with
  | .methodLinkNest _ _ _ _ => true
  | _ => false
/-- the stack's instructions -/
def xa_okA (own : String) (i : Jvm.ClassFile.Instr) (len : Nat) (a : List Nat) (cv : Int32) : Bool := match i with
  | .iconst n => decide (len = 1 ∧ Int32.ofInt n = cv)
  | .bipush n => decide (len = 2 ∧ (Int8.ofInt n).toInt32 = cv)
  | .sipush n => decide (len = 3 ∧ (Int16.ofInt n).toInt32 = cv)
  | .ldc_w k => decide (len = 3) && xa_in (a.getD 5 0) (.constant own k cv)
  | .ldc2_w k => decide (len = 3) && xa_in (a.getD 5 0) (.constantLong own k (Int64.ofNat (a.headD 0)))
  | _ => decide (len = 1)
section XA2
variable {p : Program} {l : Launch} {e : Env} {R : Room} {s : State} {m : MethodId} {args : Array Value} {below : List Frame} {meth : Method} {c : Code} {H : Heap} {locs : List Loc} {cells slots : Nat} {Q : State → Prop} {cc : ByteArray} {own : String} {tr : Nat → Nat} {fmt : Value} {pc len : Nat} {a : List Nat} {cv : Int32} {rl : Array Slot} {st st' : List Value} {i : Jvm.ClassFile.Instr}
theorem xa_c1_cat {v : Value} (h : xa_c1 v = true) : (xa_v tr fmt v).category = 1 := by
  cases v <;> first | rfl | (simp [xa_c1] at h)
set_option maxHeartbeats 4000000 in
theorem xs_alu (hx : p.tables.exec = Jvm.exec) (hb : c.code = cc) (hown : s.vm.findClass own = some m.cls) (hts : ∀ w ∈ xa_gw, w.before args s = true) (hok : xa_okA own i len a cv = true) (hdg : decode cc pc = .ok (i, len)) (hs : xa_alu i a cv st = some st')
    (kk : W p l e R s m args below meth c H locs cells slots Q (F0 m (pc + len) rl (st'.map (xa_v tr fmt)))) : W p l e R s m args below meth c H locs cells slots Q (F0 m pc rl (st.map (xa_v tr fmt))) := by
  cases i with
  | iconst n =>
    obtain ⟨rfl, h2⟩ : len = 1 ∧ Int32.ofInt n = cv := by simpa [xa_okA] using hok
    cases hs
    exact lv_iconst hx hb hdg h2 kk
  | bipush n =>
    obtain ⟨rfl, h2⟩ : len = 2 ∧ (Int8.ofInt n).toInt32 = cv := by simpa [xa_okA] using hok
    cases hs
    exact lv_bipush hx hb hdg h2 kk
  | sipush n =>
    obtain ⟨rfl, h2⟩ : len = 3 ∧ (Int16.ofInt n).toInt32 = cv := by simpa [xa_okA] using hok
    cases hs
    exact lv_sipush hx hb hdg h2 kk
  | ldc_w k =>
    obtain ⟨rfl, h2⟩ : len = 3 ∧ xa_in (a.getD 5 0) (.constant own k cv) = true := by simpa [xa_okA] using hok
    cases hs
    exact lv_ldcw hx hb hown (hts _ (xa_in_gw h2)) hdg kk
  | ldc2_w k =>
    obtain ⟨rfl, h2⟩ : len = 3 ∧ xa_in (a.getD 5 0) (.constantLong own k (Int64.ofNat (a.headD 0))) = true := by simpa [xa_okA] using hok
    cases hs
    exact lv_ldc2 hx hb hown (hts _ (xa_in_gw h2)) hdg kk
  | iadd =>
    obtain rfl : len = 1 := by simpa [xa_okA] using hok
    simp only [xa_alu] at hs
    split at hs
    · cases hs
      exact lv_iadd hx hb hdg kk
    · cases hs
  | isub =>
    obtain rfl : len = 1 := by simpa [xa_okA] using hok
    simp only [xa_alu] at hs
    split at hs
    · cases hs
      exact lv_isub hx hb hdg kk
    · cases hs
  | imul =>
    obtain rfl : len = 1 := by simpa [xa_okA] using hok
    simp only [xa_alu] at hs
    split at hs
    · cases hs
      exact lv_imul hx hb hdg kk
    · cases hs
  | iand =>
    obtain rfl : len = 1 := by simpa [xa_okA] using hok
    simp only [xa_alu] at hs
    split at hs
    · cases hs
      exact lv_iand hx hb hdg kk
    · cases hs
  | ior =>
    obtain rfl : len = 1 := by simpa [xa_okA] using hok
    simp only [xa_alu] at hs
    split at hs
    · cases hs
      exact lv_ior hx hb hdg kk
    · cases hs
  | ixor =>
    obtain rfl : len = 1 := by simpa [xa_okA] using hok
    simp only [xa_alu] at hs
    split at hs
    · cases hs
      exact lv_ixor hx hb hdg kk
    · cases hs
  | ishl =>
    obtain rfl : len = 1 := by simpa [xa_okA] using hok
    simp only [xa_alu] at hs
    split at hs
    · cases hs
      exact lv_ishl hx hb hdg kk
    · cases hs
  | ishr =>
    obtain rfl : len = 1 := by simpa [xa_okA] using hok
    simp only [xa_alu] at hs
    split at hs
    · cases hs
      exact lv_ishr hx hb hdg kk
    · cases hs
  | land =>
    obtain rfl : len = 1 := by simpa [xa_okA] using hok
    simp only [xa_alu] at hs
    split at hs
    · cases hs
      exact lv_land hx hb hdg kk
    · cases hs
  | lor =>
    obtain rfl : len = 1 := by simpa [xa_okA] using hok
    simp only [xa_alu] at hs
    split at hs
    · cases hs
      exact lv_lor hx hb hdg kk
    · cases hs
  | iushr =>
    obtain rfl : len = 1 := by simpa [xa_okA] using hok
    simp only [xa_alu] at hs
    split at hs
    · cases hs
      exact lv_iushr hx hb hdg rfl kk
    · cases hs
  | i2l =>
    obtain rfl : len = 1 := by simpa [xa_okA] using hok
    simp only [xa_alu] at hs
    split at hs
    · cases hs
      exact lv_i2l hx hb hdg rfl kk
    · cases hs
  | l2i =>
    obtain rfl : len = 1 := by simpa [xa_okA] using hok
    simp only [xa_alu] at hs
    split at hs
    · cases hs
      exact lv_l2i hx hb hdg rfl kk
    · cases hs
  | i2b =>
    obtain rfl : len = 1 := by simpa [xa_okA] using hok
    simp only [xa_alu] at hs
    split at hs
    · cases hs
      exact lv_i2b hx hb hdg rfl kk
    · cases hs
  | i2c =>
    obtain rfl : len = 1 := by simpa [xa_okA] using hok
    simp only [xa_alu] at hs
    split at hs
    · cases hs
      exact lv_i2c hx hb hdg rfl kk
    · cases hs
  | lshl =>
    obtain rfl : len = 1 := by simpa [xa_okA] using hok
    simp only [xa_alu] at hs
    split at hs
    · cases hs
      exact lv_lshl hx hb hdg rfl kk
    · cases hs
  | lshr =>
    obtain rfl : len = 1 := by simpa [xa_okA] using hok
    simp only [xa_alu] at hs
    split at hs
    · cases hs
      exact lv_lshr hx hb hdg rfl kk
    · cases hs
  | lushr =>
    obtain rfl : len = 1 := by simpa [xa_okA] using hok
    simp only [xa_alu] at hs
    split at hs
    · cases hs
      exact lv_lushr hx hb hdg rfl kk
    · cases hs
  | idiv =>
    obtain rfl : len = 1 := by simpa [xa_okA] using hok
    simp only [xa_alu] at hs
    split at hs
    · split at hs
      · cases hs
      · cases hs
        exact lv_idiv hx hb hdg (by assumption) kk
    · cases hs
  | irem =>
    obtain rfl : len = 1 := by simpa [xa_okA] using hok
    simp only [xa_alu] at hs
    split at hs
    · split at hs
      · cases hs
      · cases hs
        exact lv_irem hx hb hdg (by assumption) kk
    · cases hs
  | dup =>
    obtain rfl : len = 1 := by simpa [xa_okA] using hok
    simp only [xa_alu] at hs
    split at hs
    · split at hs
      · rename_i hc
        cases hs
        exact lv_dup hx hb hdg (xa_c1_cat hc) kk
      · cases hs
    · cases hs
  | pop =>
    obtain rfl : len = 1 := by simpa [xa_okA] using hok
    simp only [xa_alu] at hs
    split at hs
    · split at hs
      · rename_i hc
        cases hs
        exact lv_pop hx hb hdg (xa_c1_cat hc) kk
      · cases hs
    · cases hs
  | dup2 =>
    obtain rfl : len = 1 := by simpa [xa_okA] using hok
    simp only [xa_alu] at hs
    split at hs
    · split at hs
      · rename_i hc
        cases hs
        exact lv_dup2_11 hx hb hdg (xa_c1_cat hc.1) (xa_c1_cat hc.2) kk
      · cases hs
    · cases hs
  | _ => simp [xa_alu] at hs
end XA2
