/-! ===== constructors: over any cells before ===== -/
section GV
variable {d : Nat} {tb : List xa_I} {pc : Nat} {ls st : List Value} {q : xa_R} {g l : xa_H} {n : Nat}
theorem gl_len {m : Nat} (hn : g.length = n) (hl : l.length = m) : (g ++ l).length = n + m := by rw [List.length_append, hn, hl]
theorem gl_get (hn : g.length = n) (k : Nat) : (g ++ l)[n + k]? = l[k]? := by
  rw [List.getElem?_append_right (by omega), show n + k - g.length = k by omega]
theorem gl_set (hn : g.length = n) (k : Nat) (c : xa_C) : (g ++ l).set (n + k) c = g ++ l.set k c := by
  rw [List.set_append_right _ _ (by omega), show n + k - g.length = k by omega]
theorem gv_new (hn : g.length = n) {m idx len ci : Nat} {a : List Nat} {cv : Int32} (hi : xa_lk tb pc = some (.new idx, len, ci :: a, cv)) (hl : l.length = m) (kk : ev d tb (pc + len) ls (.ref (n + m) :: st) (g ++ (l ++ [.inr (ci, xa_df ci)])) q) : ev d tb pc ls st (g ++ l) q := by
  refine ev_nx (?_ : xa_one tb pc ls st (g ++ l) = some (.inl (pc + len, ls, .ref (n + m) :: st, g ++ (l ++ [.inr (ci, xa_df ci)])))) kk
  unfold xa_one
  rw [hi]
  show xa_nx (pc + len) ls (.ref (g ++ l).length :: st) ((g ++ l) ++ [.inr (ci, xa_df ci)]) = _
  rw [List.length_append, hn, hl, List.append_assoc]
  rfl
theorem gv_na (hn : g.length = n) {m w len : Nat} {a : List Nat} {cv x : Int32} {ty : _} (hi : xa_lk tb pc = some (.newarray ty, len, a, cv)) (hx : x.toNatClampNeg = w ∧ ¬ x < 0 ∧ w ≤ 1000) (hl : l.length = m) (kk : ev d tb (pc + len) ls (.ref (n + m) :: st) (g ++ (l ++ [.inl (0, w, fun _ => 0)])) q) : ev d tb pc ls (.int x :: st) (g ++ l) q := by
  refine ev_nx (?_ : xa_one tb pc ls (.int x :: st) (g ++ l) = some (.inl (pc + len, ls, .ref (n + m) :: st, g ++ (l ++ [.inl (0, w, fun _ => 0)])))) kk
  unfold xa_one
  rw [hi]
  show (if ¬ x < 0 ∧ x.toNatClampNeg ≤ 1000 then xa_nx (pc + len) ls (.ref (g ++ l).length :: st) ((g ++ l) ++ [.inl (0, x.toNatClampNeg, fun _ => 0)]) else none) = _
  rw [if_pos ⟨hx.2.1, by rw [hx.1]; exact hx.2.2⟩, hx.1, List.length_append, hn, hl, List.append_assoc]
  rfl
theorem gv_nq (hn : g.length = n) {m w idx len : Nat} {a : List Nat} {cv x : Int32} (hi : xa_lk tb pc = some (.anewarray idx, len, a, cv)) (hx : x.toNatClampNeg = w ∧ ¬ x < 0 ∧ w ≤ 1000) (hl : l.length = m) (kk : ev d tb (pc + len) ls (.ref (n + m) :: st) (g ++ (l ++ [.inr (50, List.replicate w .null)])) q) : ev d tb pc ls (.int x :: st) (g ++ l) q := by
  refine ev_nx (?_ : xa_one tb pc ls (.int x :: st) (g ++ l) = some (.inl (pc + len, ls, .ref (n + m) :: st, g ++ (l ++ [.inr (50, List.replicate w .null)])))) kk
  unfold xa_one
  rw [hi]
  show (if ¬ x < 0 ∧ x.toNatClampNeg ≤ 1000 then xa_nx (pc + len) ls (.ref (g ++ l).length :: st) ((g ++ l) ++ [.inr (50, List.replicate x.toNatClampNeg .null)]) else none) = _
  rw [if_pos ⟨hx.2.1, by rw [hx.1]; exact hx.2.2⟩, hx.1, List.length_append, hn, hl, List.append_assoc]
  rfl
theorem gv_pf (hn : g.length = n) (k : Nat) {idx len ci j kd : Nat} {a : List Nat} {cv : Int32} {v : Value} {fs : List Value} (hi : xa_lk tb pc = some (.putfield idx, len, ci :: j :: kd :: a, cv)) (ho : l[k]? = some (.inr (ci, fs))) (hj : Nat.blt j fs.length = true) (hv : xa_kd kd v = true) (kk : ev d tb (pc + len) ls st (g ++ l.set k (.inr (ci, fs.set j v))) q) : ev d tb pc ls (v :: .ref (n + k) :: st) (g ++ l) q := by
  have e : (g ++ l)[n + k]? = some (.inr (ci, fs)) := by rw [gl_get hn]; exact ho
  refine ev_nx (?_ : xa_one tb pc ls (v :: .ref (n + k) :: st) (g ++ l) = some (.inl (pc + len, ls, st, g ++ l.set k (.inr (ci, fs.set j v))))) kk
  unfold xa_one
  rw [hi]
  show xa_putf (pc + len) ci j kd ls (v :: .ref (n + k) :: st) (g ++ l) = _
  unfold xa_putf
  simp only [e]
  rw [if_pos ⟨trivial, Nat.le_of_ble_eq_true hj, hv⟩, gl_set hn]
  rfl
theorem gv_gf (hn : g.length = n) (k : Nat) {idx len ci j : Nat} {a : List Nat} {cv : Int32} {v : Value} {fs : List Value} (hi : xa_lk tb pc = some (.getfield idx, len, ci :: j :: a, cv)) (ho : l[k]? = some (.inr (ci, fs))) (hj : fs[j]? = some v) (kk : ev d tb (pc + len) ls (v :: st) (g ++ l) q) : ev d tb pc ls (.ref (n + k) :: st) (g ++ l) q := by
  have e : (g ++ l)[n + k]? = some (.inr (ci, fs)) := by rw [gl_get hn]; exact ho
  refine ev_nx (?_ : xa_one tb pc ls (.ref (n + k) :: st) (g ++ l) = some (.inl (pc + len, ls, v :: st, g ++ l))) kk
  unfold xa_one
  rw [hi]
  show xa_getf (pc + len) ci j ls (.ref (n + k) :: st) (g ++ l) = _
  unfold xa_getf
  simp only [e]
  rw [if_pos trivial, hj]
  rfl
theorem gv_as (hn : g.length = n) (k j : Nat) {len w : Nat} {a : List Nat} {cv x i : Int32} {f : Nat → Int32} (hi : xa_lk tb pc = some (.iastore, len, a, cv)) (ho : l[k]? = some (.inl (0, w, f))) (hj : i.toNatClampNeg = j ∧ ¬ i < 0 ∧ j < w) (kk : ev d tb (pc + len) ls st (g ++ l.set k (.inl (0, w, upd f j x))) q) : ev d tb pc ls (.int x :: .int i :: .ref (n + k) :: st) (g ++ l) q := by
  have e : (g ++ l)[n + k]? = some (.inl (0, w, f)) := by rw [gl_get hn]; exact ho
  refine ev_nx (?_ : xa_one tb pc ls (.int x :: .int i :: .ref (n + k) :: st) (g ++ l) = some (.inl (pc + len, ls, st, g ++ l.set k (.inl (0, w, upd f j x))))) kk
  unfold xa_one
  rw [hi]
  show xa_iast (pc + len) ls (.int x :: .int i :: .ref (n + k) :: st) (g ++ l) = _
  unfold xa_iast
  simp only [e]
  have hj2 := hj.2.2
  rw [if_pos ⟨trivial, fun z => by
    rcases z with z | z
    · exact hj.2.1 z
    · rw [hj.1] at z; omega⟩, gl_set hn, hj.1]
  rfl
theorem gv_aa (hn : g.length = n) (k kv j : Nat) {len : Nat} {a : List Nat} {cv i : Int32} {ps fs : List Value} (hi : xa_lk tb pc = some (.aastore, len, a, cv)) (ho : l[k]? = some (.inr (50, ps))) (hv : l[kv]? = some (.inr (2, fs))) (hj : i.toNatClampNeg = j ∧ ¬ i < 0) (hl : Nat.blt j ps.length = true) (kk : ev d tb (pc + len) ls st (g ++ l.set k (.inr (50, ps.set j (.ref (n + kv))))) q) : ev d tb pc ls (.ref (n + kv) :: .int i :: .ref (n + k) :: st) (g ++ l) q := by
  have e : (g ++ l)[n + k]? = some (.inr (50, ps)) := by rw [gl_get hn]; exact ho
  have e2 : (g ++ l)[n + kv]? = some (.inr (2, fs)) := by rw [gl_get hn]; exact hv
  refine ev_nx (?_ : xa_one tb pc ls (.ref (n + kv) :: .int i :: .ref (n + k) :: st) (g ++ l) = some (.inl (pc + len, ls, st, g ++ l.set k (.inr (50, ps.set j (.ref (n + kv))))))) kk
  unfold xa_one
  rw [hi]
  show xa_aast (pc + len) ls (.ref (n + kv) :: .int i :: .ref (n + k) :: st) (g ++ l) = _
  unfold xa_aast
  simp only [e, e2]
  rw [if_pos ⟨⟨trivial, trivial⟩, hj.2, by rw [hj.1]; exact Nat.le_of_ble_eq_true hl⟩, gl_set hn, hj.1]
  rfl
theorem gv_ca {x : xa_C} {cells : xa_H} {m mi pc' : Nat} {ls' st' : List Value} (h1 : xa_one tb pc ls st (g ++ (l ++ [x])) = some (.inr (.inr (mi, [.ref (n + m)], (pc', ls', st'))))) (hc : xa_rn xa_ms d mi [.ref (n + m)] ((g ++ l) ++ [x]) none ((g ++ l) ++ cells)) (kk : ev d tb pc' ls' st' (g ++ (l ++ cells)) q) : ev d tb pc ls st (g ++ (l ++ [x])) q := by
  refine ev_ca h1 (r := none) (h' := (g ++ l) ++ cells) (by rw [← List.append_assoc]; exact hc) ?_
  rw [List.append_assoc]
  exact kk
theorem gv_vc (hn : g.length = n) (k : Nat) {idx len z mi nn ci : Nat} {a : List Nat} {cv : Int32} {fs : List Value} {l' : xa_H} (hi : xa_lk tb pc = some (.invokevirtual idx, len, z :: mi :: nn :: ci :: a, cv)) (hr : st[nn]? = some (.ref (n + k))) (ho : l[k]? = some (.inr (ci, fs))) (hm : xa_room (st.drop (nn + 1)) = true) (hc : xa_rn xa_ms d mi (st.take (nn + 1)).reverse (g ++ l) none (g ++ l')) (kk : ev d tb (pc + len) ls (st.drop (nn + 1)) (g ++ l') q) : ev d tb pc ls st (g ++ l) q := by
  have e : (g ++ l)[n + k]? = some (.inr (ci, fs)) := by rw [gl_get hn]; exact ho
  refine ev_ca (?_ : xa_one tb pc ls st (g ++ l) = some (.inr (.inr (mi, (st.take (nn + 1)).reverse, (pc + len, ls, st.drop (nn + 1)))))) hc kk
  unfold xa_one
  rw [hi]
  show xa_vcall (pc + len) mi nn ci ls st (g ++ l) = _
  unfold xa_vcall
  simp only [hr, e]
  rw [if_pos trivial]
  unfold xa_call
  rw [if_pos ⟨Nat.ble_eq_true_of_le (List.getElem?_eq_some_iff.mp hr).1, hm⟩]
/-- the same cells, written out -/
theorem gv_nm (l' : xa_H) (hl : l = l') (kk : ev d tb pc ls st (g ++ l') q) : ev d tb pc ls st (g ++ l) q := by rw [hl]; exact kk
end GV
abbrev zr (w : Nat) : xa_C := .inl (0, w, fun _ => 0)
section INI
variable {g : xa_H} {n : Nat} (d : Nat)
theorem ini_Plan (hn : g.length = n) : xa_rn xa_ms (d + 1) n_Plan_init [.ref n] (g ++ [.inr (2, xa_df 2)]) none (g ++ [.inr (2, [.int 1, .ref (n + 1), .ref (n + 2)]), zr 18, zr 18]) := by
  refine rn_in m_Plan_init rfl ⟨rfl, rfl⟩ ?_
  show ev _ t_Plan_init 0 [.ref n] [] _ _
  repeat (refine ev_np [12] rfl rfl rfl ?_)
  refine gv_pf hn 0 rfl (by rfl) (by rfl) (by rfl) ?_
  repeat (refine ev_np [12] rfl rfl rfl ?_)
  refine gv_na hn (m := 1) (w := 18) rfl (by decide) (by rfl) ?_
  refine gv_pf hn 0 rfl (by rfl) (by rfl) (by rfl) ?_
  repeat (refine ev_np [20] rfl rfl rfl ?_)
  refine gv_na hn (m := 2) (w := 18) rfl (by decide) (by rfl) ?_
  refine gv_pf hn 0 rfl (by rfl) (by rfl) (by rfl) ?_
  exact ev_rv rfl
theorem ini_Text (hn : g.length = n) : xa_rn xa_ms (d + 1) n_Text_init [.ref n] (g ++ [.inr (7, xa_df 7)]) none (g ++ [.inr (7, [.ref (n + 1), .int 0]), zr 300]) := by
  refine rn_in m_Text_init rfl ⟨rfl, rfl⟩ ?_
  show ev _ t_Text_init 0 [.ref n] [] _ _
  repeat (refine ev_np [8] rfl rfl rfl ?_)
  refine gv_na hn (m := 1) (w := 300) rfl (by decide) (by rfl) ?_
  refine gv_pf hn 0 rfl (by rfl) (by rfl) (by rfl) ?_
  repeat (refine ev_np [] rfl rfl rfl ?_)
  refine gv_pf hn 0 rfl (by rfl) (by rfl) (by rfl) ?_
  exact ev_rv rfl
theorem ini_Tokens (hn : g.length = n) : xa_rn xa_ms (d + 1) n_Tokens_init [.ref n] (g ++ [.inr (8, xa_df 8)]) none (g ++ [.inr (8, [.ref (n + 1), .ref (n + 2), .ref (n + 3), .int 0, .int 0]), zr 301, zr 301, zr 301]) := by
  refine rn_in m_Tokens_init rfl ⟨rfl, rfl⟩ ?_
  show ev _ t_Tokens_init 0 [.ref n] [] _ _
  repeat (refine ev_np [8] rfl rfl rfl ?_)
  refine gv_na hn (m := 1) (w := 301) rfl (by decide) (by rfl) ?_
  refine gv_pf hn 0 rfl (by rfl) (by rfl) (by rfl) ?_
  repeat (refine ev_np [17] rfl rfl rfl ?_)
  refine gv_na hn (m := 2) (w := 301) rfl (by decide) (by rfl) ?_
  refine gv_pf hn 0 rfl (by rfl) (by rfl) (by rfl) ?_
  repeat (refine ev_np [26] rfl rfl rfl ?_)
  refine gv_na hn (m := 3) (w := 301) rfl (by decide) (by rfl) ?_
  refine gv_pf hn 0 rfl (by rfl) (by rfl) (by rfl) ?_
  repeat (refine ev_np [] rfl rfl rfl ?_)
  refine gv_pf hn 0 rfl (by rfl) (by rfl) (by rfl) ?_
  repeat (refine ev_np [] rfl rfl rfl ?_)
  refine gv_pf hn 0 rfl (by rfl) (by rfl) (by rfl) ?_
  exact ev_rv rfl
theorem ini_Reader (hn : g.length = n) : xa_rn xa_ms (d + 2) n_Reader_init [.ref n] (g ++ [.inr (3, xa_df 3)]) none (g ++ [.inr (3, [.ref (n + 1)]), .inr (8, [.ref (n + 2), .ref (n + 3), .ref (n + 4), .int 0, .int 0]), zr 301, zr 301, zr 301]) := by
  refine rn_in m_Reader_init rfl ⟨rfl, rfl⟩ ?_
  show ev _ t_Reader_init 0 [.ref n] [] _ _
  repeat (refine ev_np [5] rfl rfl rfl ?_)
  refine gv_new hn (m := 1) rfl (by rfl) ?_
  repeat (refine ev_np [9] rfl rfl rfl ?_)
  refine gv_ca (m := 1) (by rfl) (ini_Tokens d (gl_len hn (by rfl))) ?_
  refine gv_pf hn 0 rfl (by rfl) (by rfl) (by rfl) ?_
  exact ev_rv rfl
theorem ini_Pairs (hn : g.length = n) : xa_rn xa_ms (d + 1) n_Pairs_init [.ref n] (g ++ [.inr (1, xa_df 1)]) none (g ++ [.inr (1, [.ref (n + 1), .ref (n + 2)]), zr 6, zr 6]) := by
  refine rn_in m_Pairs_init rfl ⟨rfl, rfl⟩ ?_
  show ev _ t_Pairs_init 0 [.ref n] [] _ _
  repeat (refine ev_np [7] rfl rfl rfl ?_)
  refine gv_na hn (m := 1) (w := 6) rfl (by decide) (by rfl) ?_
  refine gv_pf hn 0 rfl (by rfl) (by rfl) (by rfl) ?_
  repeat (refine ev_np [15] rfl rfl rfl ?_)
  refine gv_na hn (m := 2) (w := 6) rfl (by decide) (by rfl) ?_
  refine gv_pf hn 0 rfl (by rfl) (by rfl) (by rfl) ?_
  exact ev_rv rfl
theorem ini_Rounds (hn : g.length = n) : xa_rn xa_ms (d + 2) n_Rounds_init [.ref n] (g ++ [.inr (4, xa_df 4)]) none (g ++ [.inr (4, [.ref (n + 1), .ref (n + 4), .int (-9), .int 0]), .inr (1, [.ref (n + 2), .ref (n + 3)]), zr 6, zr 6, zr 36]) := by
  refine rn_in m_Rounds_init rfl ⟨rfl, rfl⟩ ?_
  show ev _ t_Rounds_init 0 [.ref n] [] _ _
  repeat (refine ev_np [5] rfl rfl rfl ?_)
  refine gv_new hn (m := 1) rfl (by rfl) ?_
  repeat (refine ev_np [9] rfl rfl rfl ?_)
  refine gv_ca (m := 1) (by rfl) (ini_Pairs d (gl_len hn (by rfl))) ?_
  refine gv_pf hn 0 rfl (by rfl) (by rfl) (by rfl) ?_
  repeat (refine ev_np [18] rfl rfl rfl ?_)
  refine gv_na hn (m := 4) (w := 36) rfl (by decide) (by rfl) ?_
  refine gv_pf hn 0 rfl (by rfl) (by rfl) (by rfl) ?_
  repeat (refine ev_np [] rfl rfl rfl ?_)
  refine gv_pf hn 0 rfl (by rfl) (by rfl) (by rfl) ?_
  repeat (refine ev_np [] rfl rfl rfl ?_)
  refine gv_pf hn 0 rfl (by rfl) (by rfl) (by rfl) ?_
  exact ev_rv rfl
theorem ini_Shrinker (hn : g.length = n) : xa_rn xa_ms (d + 1) n_Shrinker_init [.ref n] (g ++ [.inr (6, xa_df 6)]) none (g ++ [.inr (6, [.ref (n + 1)]), zr 6]) := by
  refine rn_in m_Shrinker_init rfl ⟨rfl, rfl⟩ ?_
  show ev _ t_Shrinker_init 0 [.ref n] [] _ _
  repeat (refine ev_np [7] rfl rfl rfl ?_)
  refine gv_na hn (m := 1) (w := 6) rfl (by decide) (by rfl) ?_
  refine gv_pf hn 0 rfl (by rfl) (by rfl) (by rfl) ?_
  exact ev_rv rfl
theorem ini_Joiner (hn : g.length = n) : xa_rn xa_ms (d + 2) n_Joiner_init [.ref n] (g ++ [.inr (0, xa_df 0)]) none (g ++ [.inr (0, [.ref (n + 1), .ref (n + 4), .ref (n + 5), .int 0]), .inr (1, [.ref (n + 2), .ref (n + 3)]), zr 6, zr 6, zr 36, zr 6]) := by
  refine rn_in m_Joiner_init rfl ⟨rfl, rfl⟩ ?_
  show ev _ t_Joiner_init 0 [.ref n] [] _ _
  repeat (refine ev_np [5] rfl rfl rfl ?_)
  refine gv_new hn (m := 1) rfl (by rfl) ?_
  repeat (refine ev_np [9] rfl rfl rfl ?_)
  refine gv_ca (m := 1) (by rfl) (ini_Pairs d (gl_len hn (by rfl))) ?_
  refine gv_pf hn 0 rfl (by rfl) (by rfl) (by rfl) ?_
  repeat (refine ev_np [18] rfl rfl rfl ?_)
  refine gv_na hn (m := 4) (w := 36) rfl (by decide) (by rfl) ?_
  refine gv_pf hn 0 rfl (by rfl) (by rfl) (by rfl) ?_
  repeat (refine ev_np [26] rfl rfl rfl ?_)
  refine gv_na hn (m := 5) (w := 6) rfl (by decide) (by rfl) ?_
  refine gv_pf hn 0 rfl (by rfl) (by rfl) (by rfl) ?_
  repeat (refine ev_np [] rfl rfl rfl ?_)
  refine gv_pf hn 0 rfl (by rfl) (by rfl) (by rfl) ?_
  exact ev_rv rfl
theorem ini_Walker (hn : g.length = n) : xa_rn xa_ms (d + 2) n_Walker_init [.ref n] (g ++ [.inr (9, xa_df 9)]) none (g ++ [.inr (9, [.ref (n + 1), .int 1, .int 0]), .inr (2, [.int 1, .ref (n + 2), .ref (n + 3)]), zr 18, zr 18]) := by
  refine rn_in m_Walker_init rfl ⟨rfl, rfl⟩ ?_
  show ev _ t_Walker_init 0 [.ref n] [] _ _
  repeat (refine ev_np [5] rfl rfl rfl ?_)
  refine gv_new hn (m := 1) rfl (by rfl) ?_
  repeat (refine ev_np [9] rfl rfl rfl ?_)
  refine gv_ca (m := 1) (by rfl) (ini_Plan d (gl_len hn (by rfl))) ?_
  refine gv_pf hn 0 rfl (by rfl) (by rfl) (by rfl) ?_
  repeat (refine ev_np [] rfl rfl rfl ?_)
  refine gv_pf hn 0 rfl (by rfl) (by rfl) (by rfl) ?_
  repeat (refine ev_np [] rfl rfl rfl ?_)
  refine gv_pf hn 0 rfl (by rfl) (by rfl) (by rfl) ?_
  exact ev_rv rfl
theorem ini_add (hn : g.length = n) : xa_rn xa_ms (d + 1) n_Saying_add [.ref n, .int 1] (g ++ [.inr (5, [.ref (n + 1), .int 0, .int 0, .ref (n + 2), .int 0]), zr 300, zr 24]) none (g ++ [.inr (5, [.ref (n + 1), .int 1, .int 1, .ref (n + 2), .int 0]), .inl (0, 300, upd (fun _ => 0) 0 1), zr 24]) := by
  refine rn_in m_Saying_add rfl ⟨rfl, rfl⟩ ?_
  show ev _ t_Saying_add 0 [.ref n, .int 1] [] _ _
  repeat (refine ev_np [] rfl rfl rfl ?_)
  refine gv_gf hn 0 rfl (by rfl) (by rfl) ?_
  repeat (refine ev_np [] rfl rfl rfl ?_)
  refine gv_gf hn 0 rfl (by rfl) (by rfl) ?_
  repeat (refine ev_np [] rfl rfl rfl ?_)
  refine gv_gf hn 0 rfl (by rfl) (by rfl) ?_
  repeat (refine ev_np [] rfl rfl rfl ?_)
  refine gv_as hn 1 0 rfl (by rfl) (by decide) ?_
  repeat (refine ev_np [] rfl rfl rfl ?_)
  refine gv_gf hn 0 rfl (by rfl) (by rfl) ?_
  repeat (refine ev_np [] rfl rfl rfl ?_)
  refine gv_pf hn 0 rfl (by rfl) (by rfl) (by rfl) ?_
  repeat (refine ev_np [] rfl rfl rfl ?_)
  refine gv_gf hn 0 rfl (by rfl) (by rfl) ?_
  repeat (refine ev_np [] rfl rfl rfl ?_)
  refine gv_pf hn 0 rfl (by rfl) (by rfl) (by rfl) ?_
  exact ev_rv rfl
theorem ini_Saying (hn : g.length = n) : xa_rn xa_ms (d + 2) n_Saying_init [.ref n] (g ++ [.inr (5, xa_df 5)]) none (g ++ [.inr (5, [.ref (n + 1), .int 1, .int 1, .ref (n + 2), .int 0]), .inl (0, 300, upd (fun _ => 0) 0 1), zr 24]) := by
  refine rn_in m_Saying_init rfl ⟨rfl, rfl⟩ ?_
  show ev _ t_Saying_init 0 [.ref n] [] _ _
  repeat (refine ev_np [8] rfl rfl rfl ?_)
  refine gv_na hn (m := 1) (w := 300) rfl (by decide) (by rfl) ?_
  refine gv_pf hn 0 rfl (by rfl) (by rfl) (by rfl) ?_
  repeat (refine ev_np [] rfl rfl rfl ?_)
  refine gv_pf hn 0 rfl (by rfl) (by rfl) (by rfl) ?_
  repeat (refine ev_np [] rfl rfl rfl ?_)
  refine gv_pf hn 0 rfl (by rfl) (by rfl) (by rfl) ?_
  repeat (refine ev_np [26] rfl rfl rfl ?_)
  refine gv_na hn (m := 2) (w := 24) rfl (by decide) (by rfl) ?_
  refine gv_pf hn 0 rfl (by rfl) (by rfl) (by rfl) ?_
  repeat (refine ev_np [] rfl rfl rfl ?_)
  refine gv_pf hn 0 rfl (by rfl) (by rfl) (by rfl) ?_
  repeat (refine ev_np [38] rfl rfl rfl ?_)
  refine gv_nm [.inr (5, [.ref (n + 1), .int 0, .int 0, .ref (n + 2), .int 0]), zr 300, zr 24] (by rfl) ?_
  refine gv_vc hn 0 rfl (by rfl) (by rfl) (by rfl) (ini_add d hn) ?_
  exact ev_rv rfl
end INI
