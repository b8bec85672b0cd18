/-! ===== runs by rows; the made cells by a fixed layout ===== -/
def ev (d : Nat) (tb : List xa_I) (pc : Nat) (ls st : List Value) (h : xa_H) (q : xa_R) : Prop := ∃ n, xa_ev (xa_rn xa_ms d) tb n (pc, ls, st, h) q
def xa_one (tb : List xa_I) (pc : Nat) (ls st : List Value) (h : xa_H) : xa_O := match xa_lk tb pc with
  | some (i, len, a, cv) => xa_step i len a cv pc ls st h
  | none => none
section EV
variable {d : Nat} {tb : List xa_I} {pc : Nat} {ls st : List Value} {h : xa_H} {q : xa_R}
theorem ev_nx {pc' : Nat} {ls' st' : List Value} {h' : xa_H} (h1 : xa_one tb pc ls st h = some (.inl (pc', ls', st', h'))) (k : ev d tb pc' ls' st' h' q) : ev d tb pc ls st h q := by
  obtain ⟨n, k⟩ := k
  refine ⟨n + 1, ?_⟩
  unfold xa_one at h1
  unfold xa_ev
  split at h1
  · rename_i i len a cv hl
    rw [hl]
    dsimp only
    rw [h1]
    exact k
  · cases h1
/-- one more, but not at these places -/
theorem ev_ns (stop : List Nat) {pc' : Nat} {ls' st' : List Value} {h' : xa_H} (_ : stop.any (Nat.beq pc) = false) (h1 : xa_one tb pc ls st h = some (.inl (pc', ls', st', h'))) (k : ev d tb pc' ls' st' h' q) : ev d tb pc ls st h q := ev_nx h1 k
theorem ev_ca {mi : Nat} {as : List Value} {pc' : Nat} {ls' st' : List Value} {r : Option Value} {h' : xa_H} (h1 : xa_one tb pc ls st h = some (.inr (.inr (mi, as, (pc', ls', st'))))) (hc : xa_rn xa_ms d mi as h r h') (k : ev d tb pc' ls' (r.toList ++ st') h' q) : ev d tb pc ls st h q := by
  obtain ⟨n, k⟩ := k
  refine ⟨n + 1, ?_⟩
  unfold xa_one at h1
  unfold xa_ev
  split at h1
  · rename_i i len a cv hl
    rw [hl]
    dsimp only
    rw [h1]
    exact ⟨r, h', hc, k⟩
  · cases h1
theorem ev_re {i : Jvm.ClassFile.Instr} {len : Nat} {a : List Nat} {cv : Int32} {r : xa_R} (hi : xa_lk tb pc = some (i, len, a, cv)) (h1 : xa_step i len a cv pc ls st h = some (.inr (.inl r))) (hf : xa_fine i a r.1) : ev d tb pc ls st h r := by
  refine ⟨1, ?_⟩
  unfold xa_ev
  rw [hi]
  dsimp only
  rw [h1]
  exact ⟨hf, rfl⟩
/-- an int is answered -/
theorem ev_ri {len : Nat} {l : List Nat} {cv v w : Int32} (hi : xa_lk tb pc = some (.ireturn, len, 0 :: l, cv)) (he : v = w) : ev d tb pc ls [.int v] h (some (.int w), h) := by
  subst he
  exact ev_re hi rfl trivial
/-- a boolean is answered -/
theorem ev_rz {len : Nat} {l : List Nat} {cv v w : Int32} (hi : xa_lk tb pc = some (.ireturn, len, 1 :: l, cv)) (he : v = w) (hv : w = 0 ∨ w = 1) : ev d tb pc ls [.int v] h (some (.int w), h) := by
  subst he
  exact ev_re hi rfl hv
theorem ev_rv {len : Nat} {a : List Nat} {cv : Int32} (hi : xa_lk tb pc = some (.return_, len, a, cv)) : ev d tb pc ls [] h (none, h) := ev_re hi rfl trivial
def xa_cp (c : Jvm.ClassFile.Cond) (x y : Int32) : Prop := match c with
  | .eq => x = y
  | .ne => ¬ x = y
  | .lt => x < y
  | .ge => y ≤ x
  | .gt => y < x
  | .le => x ≤ y
theorem xa_cp_iff {c : Jvm.ClassFile.Cond} {x y : Int32} : xa_cmp c x y = true ↔ xa_cp c x y := by
  cases c <;> simp [xa_cmp, xa_cp]
theorem ev_if {c : Jvm.ClassFile.Cond} {x y : Int32} {t f : Nat} (h1 : xa_cp c x y → ev d tb t ls st h q) (h2 : ¬ xa_cp c x y → ev d tb f ls st h q) : ev d tb (if xa_cmp c x y = true then t else f) ls st h q := by
  by_cases hc : xa_cmp c x y = true
  · rw [if_pos hc]; exact h1 (xa_cp_iff.mp hc)
  · rw [if_neg hc]; exact h2 (fun z => hc (xa_cp_iff.mpr z))
theorem ev_it {c : Jvm.ClassFile.Cond} {x y : Int32} {t f : Nat} (hc : xa_cp c x y) (h1 : ev d tb t ls st h q) : ev d tb (if xa_cmp c x y = true then t else f) ls st h q := by
  rw [if_pos (xa_cp_iff.mpr hc)]; exact h1
theorem ev_ie {c : Jvm.ClassFile.Cond} {x y : Int32} {t f : Nat} (hc : ¬ xa_cp c x y) (h1 : ev d tb f ls st h q) : ev d tb (if xa_cmp c x y = true then t else f) ls st h q := by
  rw [if_neg (fun z => hc (xa_cp_iff.mp z))]; exact h1
end EV
theorem rn_in {d mi : Nat} {as : List Value} {h : xa_H} {r : Option Value} {h' : xa_H} (M : xa_M) (hM : xa_ms[mi]? = some M) (hl : (xa_en as M.2.2.1).length = M.2.2.1 ∧ as.all xa_kn = true) (k : ev d M.2.2.2.2 0 (xa_en as M.2.2.1) [] h (r, h')) : xa_rn xa_ms (d + 1) mi as h r h' := by
  obtain ⟨n, k⟩ := k
  exact ⟨M, n, hM, hl, k⟩
/-- a made cell: an int array of a length; or an object: its class, its fields (an int by its number, or a reference) -/
abbrev lo_E : Type := Nat ⊕ (Nat × List (Nat ⊕ Nat))
def lo_v (f : Nat → Int32) (x : Nat ⊕ Nat) : Value := match x with
  | .inl k => .int (f k)
  | .inr a => .ref a
def lo_cell (F A : Nat → Nat → Int32) (o : Nat) (e : lo_E) : xa_C := match e with
  | .inl n => .inl (0, n, A o)
  | .inr (ci, sp) => .inr (ci, sp.map (lo_v (F o)))
def lo_mk (F A : Nat → Nat → Int32) : Nat → List lo_E → xa_H
  | _, [] => []
  | o, e :: es => lo_cell F A o e :: lo_mk F A (o + 1) es
theorem lo_mk_get {F A : Nat → Nat → Int32} : ∀ (es : List lo_E) (o j : Nat), (lo_mk F A o es)[j]? = (es[j]?).map (lo_cell F A (o + j)) := by
  intro es
  induction es with
  | nil => intro o j; simp [lo_mk]
  | cons e es ih =>
    intro o j
    cases j with
    | zero => simp [lo_mk]
    | succ j =>
      simp only [lo_mk, List.getElem?_cons_succ]
      rw [ih, show o + 1 + j = o + (j + 1) by omega]
theorem lo_mk_len {F A : Nat → Nat → Int32} : ∀ (es : List lo_E) (o : Nat), (lo_mk F A o es).length = es.length := by
  intro es
  induction es with
  | nil => intro o; rfl
  | cons e es ih => intro o; simp [lo_mk, ih]
/-- the bytes of the String constants -/
def lo_by (k : Nat) : Nat → Int32 := fun j => match k with
  | 0 => ([115, 116, 97, 116, 101, 115] : List Int32).getD j 0
  | 1 => ([109, 97, 121] : List Int32).getD j 0
  | 2 => ([109, 117, 115, 116] : List Int32).getD j 0
  | _ => ([59, 124, 38, 33, 40, 41, 60, 62, 91, 93] : List Int32).getD j 0
def lo_old (Y : Nat × (Nat → Int32)) : xa_H := [.inl (2, Y.1, Y.2), .inr (60, [.ref 5, .int 0]), .inr (60, [.ref 6, .int 0]), .inr (60, [.ref 7, .int 0]), .inr (60, [.ref 8, .int 0]), .inl (1, 6, lo_by 0), .inl (1, 3, lo_by 1), .inl (1, 4, lo_by 2), .inl (1, 10, lo_by 3)]
def lo_plan (o : Nat) : List lo_E := [.inr (2, [.inl 0, .inr (o + 1), .inr (o + 2)]), .inl 18, .inl 18]
def lo_lay : List lo_E := [
  .inr (10, [.inr 10, .inr 29, .inr 32, .inr 34, .inr 39, .inr 42, .inr 45, .inr 50, .inr 52, .inr 58]),
  .inr (50, [.inr 11, .inr 14, .inr 17, .inr 20, .inr 23, .inr 26]),
  .inr (2, [.inl 0, .inr 12, .inr 13]), .inl 18, .inl 18,
  .inr (2, [.inl 0, .inr 15, .inr 16]), .inl 18, .inl 18,
  .inr (2, [.inl 0, .inr 18, .inr 19]), .inl 18, .inl 18,
  .inr (2, [.inl 0, .inr 21, .inr 22]), .inl 18, .inl 18,
  .inr (2, [.inl 0, .inr 24, .inr 25]), .inl 18, .inl 18,
  .inr (2, [.inl 0, .inr 27, .inr 28]), .inl 18, .inl 18,
  .inr (2, [.inl 0, .inr 30, .inr 31]), .inl 18, .inl 18,
  .inr (7, [.inr 33, .inl 1]), .inl 300,
  .inr (3, [.inr 35]),
  .inr (8, [.inr 36, .inr 37, .inr 38, .inl 3, .inl 4]), .inl 301, .inl 301, .inl 301,
  .inr (5, [.inr 40, .inl 1, .inl 2, .inr 41, .inl 4]), .inl 300, .inl 24,
  .inr (5, [.inr 43, .inl 1, .inl 2, .inr 44, .inl 4]), .inl 300, .inl 24,
  .inr (4, [.inr 46, .inr 49, .inl 2, .inl 3]), .inr (1, [.inr 47, .inr 48]), .inl 6, .inl 6, .inl 36,
  .inr (6, [.inr 51]), .inl 6,
  .inr (0, [.inr 53, .inr 56, .inr 57, .inl 3]), .inr (1, [.inr 54, .inr 55]), .inl 6, .inl 6, .inl 36, .inl 6,
  .inr (9, [.inr 59, .inl 1, .inl 2]), .inr (2, [.inl 0, .inr 60, .inr 61]), .inl 18, .inl 18,
  .inr (11, [.inl 0, .inr 63, .inr 64, .inr 65, .inl 4, .inl 5, .inl 6, .inl 7, .inl 8, .inl 9, .inr 66, .inr 67, .inl 12, .inl 13, .inl 14, .inl 15, .inr 68, .inl 17, .inl 18, .inr 69, .inr 70, .inr 71, .inr 72, .inl 23, .inl 24]),
  .inl 864, .inl 8, .inl 300, .inl 320, .inl 320, .inl 64, .inl 180, .inl 36, .inl 36, .inl 36]
def lo_at (o : Nat) : Option lo_E := match o with
  | 0 | 1 | 2 | 3 | 4 | 5 | 6 | 7 | 8 => none
  | k + 9 => lo_lay[k]?
/-- the heap: the old cells, the made ones with their ints -/
def hp (Y : Nat × (Nat → Int32)) (F A : Nat → Nat → Int32) : xa_H := lo_old Y ++ lo_mk F A 9 lo_lay
theorem lo_at_ge {o : Nat} {e : lo_E} (h : lo_at o = some e) : ∃ k, o = k + 9 ∧ lo_lay[k]? = some e := by
  match o, h with
  | 0, h => cases h
  | 1, h => cases h
  | 2, h => cases h
  | 3, h => cases h
  | 4, h => cases h
  | 5, h => cases h
  | 6, h => cases h
  | 7, h => cases h
  | 8, h => cases h
  | k + 9, h => exact ⟨k, rfl, h⟩
section HP
variable {Y : Nat × (Nat → Int32)} {F A : Nat → Nat → Int32} {o : Nat}
theorem hp_get {e : lo_E} (h : lo_at o = some e) : (hp Y F A)[o]? = some (lo_cell F A o e) := by
  obtain ⟨k, rfl, hk⟩ := lo_at_ge h
  unfold hp
  rw [List.getElem?_append_right (show (lo_old Y).length ≤ k + 9 from Nat.le_add_left 9 k), show k + 9 - (lo_old Y).length = k from rfl, lo_mk_get, hk, Nat.add_comm 9 k]
  rfl
theorem hp_lo {F' A' : Nat → Nat → Int32} {k : Nat} (h : k < 9) : (hp Y F A)[k]? = (hp Y F' A')[k]? := by
  unfold hp
  rw [List.getElem?_append_left (show k < (lo_old Y).length from h), List.getElem?_append_left (show k < (lo_old Y).length from h)]
theorem hp_len : (hp Y F A).length = 73 := by
  unfold hp
  rw [List.length_append, lo_mk_len]
  rfl
theorem hp_ext {F' A' : Nat → Nat → Int32} {c : xa_C} (ho : 9 ≤ o) (hlt : o < 73) (hc : ∀ e, lo_at o = some e → c = lo_cell F' A' o e) (hk : ∀ j e, j ≠ o → lo_at j = some e → lo_cell F A j e = lo_cell F' A' j e) : (hp Y F A).set o c = hp Y F' A' := by
  apply List.ext_getElem?
  intro j
  by_cases hj : j = o
  · subst hj
    rw [List.getElem?_set_self (by rw [hp_len]; exact hlt)]
    obtain ⟨k, rfl⟩ : ∃ k, j = k + 9 := ⟨j - 9, by omega⟩
    have hk : k < lo_lay.length := by show k < 64; omega
    have h1 : lo_at (k + 9) = some lo_lay[k] := List.getElem?_eq_getElem hk
    rw [hp_get h1, hc _ h1]
  · rw [List.getElem?_set_ne (fun e => hj e.symm)]
    by_cases hj9 : j < 9
    · exact hp_lo hj9
    · obtain ⟨k, rfl⟩ : ∃ k, j = k + 9 := ⟨j - 9, by omega⟩
      cases hl : lo_lay[k]? with
      | none =>
        have : 64 ≤ k := by simpa [lo_lay] using hl
        rw [List.getElem?_eq_none (by rw [hp_len]; omega), List.getElem?_eq_none (by rw [hp_len]; omega)]
      | some e =>
        have h1 : lo_at (k + 9) = some e := hl
        rw [hp_get h1, hp_get h1, hk _ _ hj h1]
theorem lo_at_lt {e : lo_E} (h : lo_at o = some e) : 9 ≤ o ∧ o < 73 := by
  obtain ⟨k, rfl, hk⟩ := lo_at_ge h
  have : k < 64 := (List.getElem?_eq_some_iff.mp hk).1
  omega
theorem hp_setA {n : Nat} {g : Nat → Int32} (h : lo_at o = some (.inl n)) : (hp Y F A).set o (.inl (0, n, g)) = hp Y F (va_up A o g) := by
  refine hp_ext (lo_at_lt h).1 (lo_at_lt h).2 (fun e he => ?_) (fun j e hj he => ?_)
  · cases h.symm.trans he
    simp [lo_cell, va_up]
  · unfold lo_cell
    split
    · simp [va_up, hj]
    · rfl
/-- a field becomes a number -/
def uF (F : Nat → Nat → Int32) (o k : Nat) (v : Int32) : Nat → Nat → Int32 := va_up F o (upd (F o) k v)
theorem hp_setF {ci k : Nat} {sp : List (Nat ⊕ Nat)} {v : Int32} (h : lo_at o = some (.inr (ci, sp))) (hk : sp[k]? = some (.inl k)) (hu : ∀ j x, sp[j]? = some x → x = .inl k → j = k) : (hp Y F A).set o (.inr (ci, (sp.map (lo_v (F o))).set k (.int v))) = hp Y (uF F o k v) A := by
  refine hp_ext (lo_at_lt h).1 (lo_at_lt h).2 (fun e he => ?_) (fun j e hj he => ?_)
  · cases h.symm.trans he
    simp only [lo_cell]
    congr 2
    apply List.ext_getElem?
    intro j
    by_cases hj : j = k
    · subst hj
      have hlt : j < sp.length := (List.getElem?_eq_some_iff.mp hk).1
      rw [List.getElem?_set_self (by simpa using hlt), List.getElem?_map, hk]
      simp [lo_v, uF, va_up, upd]
    · rw [List.getElem?_set_ne (fun e => hj e.symm), List.getElem?_map, List.getElem?_map]
      cases hs : sp[j]? with
      | none => rfl
      | some x =>
        simp only [Option.map_some]
        congr 1
        unfold lo_v
        split
        · rename_i k'
          have hkk : k' ≠ k := fun e => hj (hu j _ hs (by rw [e]))
          simp [uF, va_up, upd, hkk]
        · rfl
  · unfold lo_cell
    split
    · rfl
    · simp [uF, va_up, hj]
end HP
section EW
variable {d : Nat} {tb : List xa_I} {pc : Nat} {ls r : List Value} {q : xa_R} {Y : Nat × (Nat → Int32)} {F A : Nat → Nat → Int32} {o : Nat}
theorem ev_gf {idx len ci k : Nat} {l : List Nat} {cv : Int32} {sp : List (Nat ⊕ Nat)} {x : Nat ⊕ Nat} (hi : xa_lk tb pc = some (.getfield idx, len, ci :: k :: l, cv)) (ho : lo_at o = some (.inr (ci, sp))) (hx : sp[k]? = some x) (kk : ev d tb (pc + len) ls (lo_v (F o) x :: r) (hp Y F A) q) : ev d tb pc ls (.ref o :: r) (hp Y F A) q := by
  refine ev_nx (?_ : xa_one tb pc ls (.ref o :: r) (hp Y F A) = some (.inl (pc + len, ls, lo_v (F o) x :: r, hp Y F A))) kk
  unfold xa_one
  rw [hi]
  show xa_getf (pc + len) ci k ls (.ref o :: r) (hp Y F A) = _
  unfold xa_getf
  simp only [hp_get ho, lo_cell]
  rw [if_pos trivial, List.getElem?_map, hx]
  rfl
/-- an int field is read -/
theorem ev_gi {idx len ci k j : Nat} {l : List Nat} {cv : Int32} {sp : List (Nat ⊕ Nat)} (hi : xa_lk tb pc = some (.getfield idx, len, ci :: k :: l, cv)) (ho : lo_at o = some (.inr (ci, sp))) (hx : sp[k]? = some (.inl j)) (kk : ev d tb (pc + len) ls (.int (F o j) :: r) (hp Y F A) q) : ev d tb pc ls (.ref o :: r) (hp Y F A) q := ev_gf hi ho hx kk
/-- a reference is read -/
theorem ev_gr {idx len ci k j : Nat} {l : List Nat} {cv : Int32} {sp : List (Nat ⊕ Nat)} (hi : xa_lk tb pc = some (.getfield idx, len, ci :: k :: l, cv)) (ho : lo_at o = some (.inr (ci, sp))) (hx : sp[k]? = some (.inr j)) (kk : ev d tb (pc + len) ls (.ref j :: r) (hp Y F A) q) : ev d tb pc ls (.ref o :: r) (hp Y F A) q := ev_gf hi ho hx kk
theorem ev_pf {idx len ci k : Nat} {l : List Nat} {cv v : Int32} {sp : List (Nat ⊕ Nat)} (hi : xa_lk tb pc = some (.putfield idx, len, ci :: k :: 0 :: l, cv)) (ho : lo_at o = some (.inr (ci, sp))) (hx : sp[k]? = some (.inl k) ∧ (List.range sp.length).all (fun j => !(decide (sp[j]? = some (.inl k))) || Nat.beq j k) = true) (kk : ev d tb (pc + len) ls r (hp Y (uF F o k v) A) q) : ev d tb pc ls (.int v :: .ref o :: r) (hp Y F A) q := by
  have hu : ∀ j x, sp[j]? = some x → x = .inl k → j = k := by
    intro j x hj e
    subst e
    have h2 := List.all_eq_true.mp hx.2 j (List.mem_range.mpr (List.getElem?_eq_some_iff.mp hj).1)
    rw [hj] at h2
    simp at h2
    exact h2
  refine ev_nx (?_ : xa_one tb pc ls (.int v :: .ref o :: r) (hp Y F A) = some (.inl (pc + len, ls, r, hp Y (uF F o k v) A))) kk
  unfold xa_one
  rw [hi]
  show xa_putf (pc + len) ci k 0 ls (.int v :: .ref o :: r) (hp Y F A) = _
  unfold xa_putf
  simp only [hp_get ho, lo_cell]
  rw [if_pos ⟨trivial, by rw [List.length_map]; exact (List.getElem?_eq_some_iff.mp hx.1).1, rfl⟩, hp_setF ho hx.1 hu]
  rfl
theorem ev_al {len n : Nat} {l : List Nat} {cv i : Int32} (hi : xa_lk tb pc = some (.iaload, len, l, cv)) (ho : lo_at o = some (.inl n)) (hin : ¬ (i < 0 ∨ n ≤ i.toNatClampNeg)) (kk : ev d tb (pc + len) ls (.int (A o i.toNatClampNeg) :: r) (hp Y F A) q) : ev d tb pc ls (.int i :: .ref o :: r) (hp Y F A) q := by
  refine ev_nx (?_ : xa_one tb pc ls (.int i :: .ref o :: r) (hp Y F A) = some (.inl (pc + len, ls, .int (A o i.toNatClampNeg) :: r, hp Y F A))) kk
  unfold xa_one
  rw [hi]
  show xa_iald (pc + len) ls (.int i :: .ref o :: r) (hp Y F A) = _
  unfold xa_iald
  simp only [hp_get ho, lo_cell]
  rw [if_pos ⟨Or.inl trivial, hin⟩]
  rfl
/-- by a number -/
theorem ev_an {len n j : Nat} {l : List Nat} {cv i : Int32} (hi : xa_lk tb pc = some (.iaload, len, l, cv)) (ho : lo_at o = some (.inl n)) (hj : i = nI j) (hlt : j < n) (hn : Nat.blt n 100000 = true) (kk : ev d tb (pc + len) ls (.int (A o j) :: r) (hp Y F A) q) : ev d tb pc ls (.int i :: .ref o :: r) (hp Y F A) q := by
  have hn' : n < 100000 := Nat.le_of_ble_eq_true hn
  have hc : i.toNatClampNeg = j := by rw [hj]; exact nI_clamp (by omega)
  refine ev_al hi ho (by rw [hj]; exact nI_in hlt (by omega)) ?_
  rw [hc]
  exact kk
theorem ev_as {len n : Nat} {l : List Nat} {cv i x : Int32} (hi : xa_lk tb pc = some (.iastore, len, l, cv)) (ho : lo_at o = some (.inl n)) (hin : ¬ (i < 0 ∨ n ≤ i.toNatClampNeg)) (kk : ev d tb (pc + len) ls r (hp Y F (va_up A o (upd (A o) i.toNatClampNeg x))) q) : ev d tb pc ls (.int x :: .int i :: .ref o :: r) (hp Y F A) q := by
  refine ev_nx (?_ : xa_one tb pc ls (.int x :: .int i :: .ref o :: r) (hp Y F A) = some (.inl (pc + len, ls, r, hp Y F (va_up A o (upd (A o) i.toNatClampNeg x))))) kk
  unfold xa_one
  rw [hi]
  show xa_iast (pc + len) ls (.int x :: .int i :: .ref o :: r) (hp Y F A) = _
  unfold xa_iast
  simp only [hp_get ho, lo_cell]
  rw [if_pos ⟨trivial, hin⟩, hp_setA ho]
  rfl
theorem ev_am {len n j : Nat} {l : List Nat} {cv i x : Int32} (hi : xa_lk tb pc = some (.iastore, len, l, cv)) (ho : lo_at o = some (.inl n)) (hj : i = nI j) (hlt : j < n) (hn : Nat.blt n 100000 = true) (kk : ev d tb (pc + len) ls r (hp Y F (va_up A o (upd (A o) j x))) q) : ev d tb pc ls (.int x :: .int i :: .ref o :: r) (hp Y F A) q := by
  have hn' : n < 100000 := Nat.le_of_ble_eq_true hn
  have hc : i.toNatClampNeg = j := by rw [hj]; exact nI_clamp (by omega)
  refine ev_as hi ho (by rw [hj]; exact nI_in hlt (by omega)) ?_
  rw [hc]
  exact kk
theorem ev_ln {len n : Nat} {l : List Nat} {cv : Int32} (hi : xa_lk tb pc = some (.arraylength, len, l, cv)) (ho : lo_at o = some (.inl n)) (kk : ev d tb (pc + len) ls (.int (nI n) :: r) (hp Y F A) q) : ev d tb pc ls (.ref o :: r) (hp Y F A) q := by
  refine ev_nx (?_ : xa_one tb pc ls (.ref o :: r) (hp Y F A) = some (.inl (pc + len, ls, .int (nI n) :: r, hp Y F A))) kk
  unfold xa_one
  rw [hi]
  show xa_alen (pc + len) ls (.ref o :: r) (hp Y F A) = _
  unfold xa_alen
  simp only [hp_get ho, lo_cell]
  rfl
/-- a call of an object's method -/
theorem ev_vc {idx len z mi n ci : Nat} {l : List Nat} {cv : Int32} {sp : List (Nat ⊕ Nat)} {st : List Value} {rv : Option Value} {h' : xa_H} (hi : xa_lk tb pc = some (.invokevirtual idx, len, z :: mi :: n :: ci :: l, cv)) (hr : st[n]? = some (.ref o)) (ho : lo_at o = some (.inr (ci, sp))) (hm : xa_room (st.drop (n + 1)) = true) (hc : xa_rn xa_ms d mi (st.take (n + 1)).reverse (hp Y F A) rv h') (kk : ev d tb (pc + len) ls (rv.toList ++ st.drop (n + 1)) h' q) : ev d tb pc ls st (hp Y F A) q := by
  refine ev_ca (?_ : xa_one tb pc ls st (hp Y F A) = some (.inr (.inr (mi, (st.take (n + 1)).reverse, (pc + len, ls, st.drop (n + 1)))))) hc kk
  unfold xa_one
  rw [hi]
  show xa_vcall (pc + len) mi n ci ls st (hp Y F A) = _
  unfold xa_vcall
  simp only [hr, hp_get ho, lo_cell]
  rw [if_pos trivial]
  unfold xa_call
  rw [if_pos ⟨Nat.ble_eq_true_of_le (List.getElem?_eq_some_iff.mp hr).1, hm⟩]
end EW
