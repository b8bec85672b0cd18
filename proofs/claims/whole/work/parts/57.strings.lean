/-! ===== Strings: rows by cells of the heap itself ===== -/
section EH
variable {d : Nat} {tb : List xa_I} {pc : Nat} {ls r : List Value} {q : xa_R} {h : xa_H} {o : Nat}
theorem ev_gh {idx len ci k : Nat} {l : List Nat} {cv : Int32} {fs : List Value} {x : Value} (hi : xa_lk tb pc = some (.getfield idx, len, ci :: k :: l, cv)) (ho : h[o]? = some (.inr (ci, fs))) (hx : fs[k]? = some x) (kk : ev d tb (pc + len) ls (x :: r) h q) : ev d tb pc ls (.ref o :: r) h q := by
  refine ev_nx (?_ : xa_one tb pc ls (.ref o :: r) h = some (.inl (pc + len, ls, x :: r, h))) kk
  unfold xa_one
  rw [hi]
  show xa_getf (pc + len) ci k ls (.ref o :: r) h = _
  unfold xa_getf
  simp only [ho]
  rw [if_pos trivial, hx]
  rfl
theorem ev_lh {len n kd : Nat} {l : List Nat} {cv : Int32} {f : Nat → Int32} (hi : xa_lk tb pc = some (.arraylength, len, l, cv)) (ho : h[o]? = some (.inl (kd, n, f))) (kk : ev d tb (pc + len) ls (.int (nI n) :: r) h q) : ev d tb pc ls (.ref o :: r) h q := by
  refine ev_nx (?_ : xa_one tb pc ls (.ref o :: r) h = some (.inl (pc + len, ls, .int (nI n) :: r, h))) kk
  unfold xa_one
  rw [hi]
  show xa_alen (pc + len) ls (.ref o :: r) h = _
  unfold xa_alen
  simp only [ho]
  rfl
theorem ev_bh {len n j : Nat} {l : List Nat} {cv : Int32} {f : Nat → Int32} (hi : xa_lk tb pc = some (.baload, len, l, cv)) (ho : h[o]? = some (.inl (1, n, f))) (hlt : j < n) (hn : n < 1000) (kk : ev d tb (pc + len) ls (.int (f j) :: r) h q) : ev d tb pc ls (.int (nI j) :: .ref o :: r) h q := by
  have hc : (nI j).toNatClampNeg = j := nI_clamp (by omega)
  refine ev_nx (?_ : xa_one tb pc ls (.int (nI j) :: .ref o :: r) h = some (.inl (pc + len, ls, .int (f j) :: r, h))) kk
  unfold xa_one
  rw [hi]
  show xa_bald (pc + len) ls (.int (nI j) :: .ref o :: r) h = _
  unfold xa_bald
  simp only [ho]
  rw [if_pos ⟨trivial, nI_in hlt (by omega)⟩, hc]
  rfl
theorem ev_vh {idx len z mi n ci : Nat} {l : List Nat} {cv : Int32} {fs : List Value} {st : List Value} {rv : Option Value} {h' : xa_H} (hi : xa_lk tb pc = some (.invokevirtual idx, len, z :: mi :: n :: ci :: l, cv)) (hr : st[n]? = some (.ref o)) (ho : h[o]? = some (.inr (ci, fs))) (hm : xa_room (st.drop (n + 1)) = true) (hc : xa_rn xa_ms d mi (st.take (n + 1)).reverse h rv h') (kk : ev d tb (pc + len) ls (rv.toList ++ st.drop (n + 1)) h' q) : ev d tb pc ls st h q := by
  refine ev_ca (?_ : xa_one tb pc ls st h = some (.inr (.inr (mi, (st.take (n + 1)).reverse, (pc + len, ls, st.drop (n + 1)))))) hc kk
  unfold xa_one
  rw [hi]
  show xa_vcall (pc + len) mi n ci ls st h = _
  unfold xa_vcall
  simp only [hr, ho]
  rw [if_pos trivial]
  unfold xa_call
  rw [if_pos ⟨Nat.ble_eq_true_of_le (List.getElem?_eq_some_iff.mp hr).1, hm⟩]
end EH
section STR
variable {h : xa_H} {o v n : Nat} {f : Nat → Int32} (d : Nat)
/-- a String of Latin letters -/
def SO (h : xa_H) (o v n : Nat) (f : Nat → Int32) : Prop := h[o]? = some (.inr (60, [.ref v, .int 0])) ∧ h[v]? = some (.inl (1, n, f)) ∧ n < 1000
theorem c_Str_coder (hs : SO h o v n f) : xa_rn xa_ms (d + 1) n_Str_coder [.ref o] h (some (.int 0)) h := by
  refine rn_in m_Str_coder rfl ⟨rfl, rfl⟩ ?_
  show ev _ t_Str_coder 0 [.ref o] [] _ _
  repeat (refine ev_np [] rfl rfl rfl ?_)
  refine ev_gh rfl hs.1 rfl ?_
  repeat (refine ev_np [] rfl rfl rfl ?_)
  exact ev_re rfl rfl (by show ((0 : Int32).toInt8.toInt32 = 0); decide)
theorem c_Str_isLatin1 (hs : SO h o v n f) : xa_rn xa_ms (d + 1) n_Str_isLatin1 [.ref o] h (some (.int 1)) h := by
  refine rn_in m_Str_isLatin1 rfl ⟨rfl, rfl⟩ ?_
  show ev _ t_Str_isLatin1 0 [.ref o] [] _ _
  repeat (refine ev_np [] rfl rfl rfl ?_)
  refine ev_gh rfl hs.1 rfl ?_
  repeat (refine ev_np [] rfl rfl rfl ?_)
  exact ev_rz rfl rfl (Or.inr rfl)
theorem c_Str_length (hs : SO h o v n f) : xa_rn xa_ms (d + 2) n_Str_length [.ref o] h (some (.int (nI n))) h := by
  refine rn_in m_Str_length rfl ⟨rfl, rfl⟩ ?_
  show ev _ t_Str_length 0 [.ref o] [] _ _
  repeat (refine ev_np [] rfl rfl rfl ?_)
  refine ev_gh rfl hs.1 rfl ?_
  refine ev_lh rfl hs.2.1 ?_
  repeat (refine ev_np [] rfl rfl rfl ?_)
  refine ev_vh rfl rfl hs.1 rfl (c_Str_coder d hs) ?_
  repeat (refine ev_np [] rfl rfl rfl ?_)
  refine ev_ri rfl ?_
  have := hs.2.2
  show nI n >>> ((0 : Int32) &&& 31) = nI n
  rw [pk_shrN (by omega) _ 0 (by decide)]
  simp
theorem c_Pre_checkIndex {j : Nat} (hj : j < n) (hn : n < 1000) : xa_rn xa_ms (d + 1) n_Pre_checkIndex [.int (nI j), .int (nI n), .retAddr 0] h (some (.int (nI j))) h := by
  refine rn_in m_Pre_checkIndex rfl ⟨rfl, rfl⟩ ?_
  show ev _ t_Pre_checkIndex 0 [.int (nI j), .int (nI n), .retAddr 0] [] _ _
  repeat (refine ev_np [] rfl rfl rfl ?_)
  refine ev_ie (nI_pos (by omega)) ?_
  repeat (refine ev_np [] rfl rfl rfl ?_)
  refine ev_it (nI_lt hj (by omega)) ?_
  repeat (refine ev_np [] rfl rfl rfl ?_)
  exact ev_ri rfl rfl
theorem c_Str_checkIndex {j : Nat} (hj : j < n) (hn : n < 1000) : xa_rn xa_ms (d + 2) n_Str_checkIndex [.int (nI j), .int (nI n)] h none h := by
  refine rn_in m_Str_checkIndex rfl ⟨rfl, rfl⟩ ?_
  show ev _ t_Str_checkIndex 0 [.int (nI j), .int (nI n)] [] _ _
  repeat (refine ev_np [] rfl rfl rfl ?_)
  refine ev_ca rfl (c_Pre_checkIndex d hj hn) ?_
  repeat (refine ev_np [] rfl rfl rfl ?_)
  exact ev_rv rfl
set_option maxRecDepth 100000 in
theorem ch_tab : (List.range 256).all (fun c => (List.range 1).all fun _ => decide (nI c &&& 255 = nI c ∧ ((nI c).toUInt32 % 65536).toInt32 = nI c)) = true := by decide +kernel
theorem ch_eq {c : Nat} (hc : c < 256) : nI c &&& 255 = nI c ∧ ((nI c).toUInt32 % 65536).toInt32 = nI c := tab2 (P := fun c _ => nI c &&& 255 = nI c ∧ ((nI c).toUInt32 % 65536).toInt32 = nI c) (j := 0) ch_tab hc (by decide)
theorem c_Str_charAt (hs : SO h o v n f) {j c : Nat} (hj : j < n) (hf : f j = nI c) (hc : c < 256) : xa_rn xa_ms (d + 4) n_Str_charAt [.ref o, .int (nI j)] h (some (.int (nI c))) h := by
  have hlat : xa_rn xa_ms (d + 3) n_Lat_charAt [.ref v, .int (nI j)] h (some (.int (nI c))) h := by
    refine rn_in m_Lat_charAt rfl ⟨rfl, rfl⟩ ?_
    show ev _ t_Lat_charAt 0 [.ref v, .int (nI j)] [] _ _
    repeat (refine ev_np [] rfl rfl rfl ?_)
    refine ev_lh rfl hs.2.1 ?_
    refine ev_ca rfl (c_Str_checkIndex d hj hs.2.2) ?_
    repeat (refine ev_np [] rfl rfl rfl ?_)
    refine ev_bh rfl hs.2.1 hj hs.2.2 ?_
    rw [hf]
    repeat (refine ev_np [] rfl rfl rfl ?_)
    rw [(ch_eq hc).1, (ch_eq hc).2]
    exact ev_re rfl rfl (ch_eq hc).2
  refine rn_in m_Str_charAt rfl ⟨rfl, rfl⟩ ?_
  show ev _ t_Str_charAt 0 [.ref o, .int (nI j)] [] _ _
  repeat (refine ev_np [] rfl rfl rfl ?_)
  refine ev_vh rfl rfl hs.1 rfl (c_Str_isLatin1 (d + 2) hs) ?_
  repeat (refine ev_np [] rfl rfl rfl ?_)
  refine ev_gh rfl hs.1 rfl ?_
  repeat (refine ev_np [] rfl rfl rfl ?_)
  refine ev_ca rfl (hlat) ?_
  exact ev_re rfl rfl (ch_eq hc).2
/-- the signs -/
def sgn (c : Nat) : Bool := c == 59 || c == 124 || c == 38 || c == 33 || c == 40 || c == 41 || c == 60 || c == 62 || c == 91 || c == 93
set_option maxRecDepth 100000 in
theorem sg_tab : (List.range 256).all (fun c => (List.range 1).all fun _ => decide ((List.range 10).any (fun j => decide (lo_by 3 j = (nI c).toInt8.toInt32)) = sgn c)) = true := by decide +kernel
theorem sg_eq {c : Nat} (hc : c < 256) : (List.range 10).any (fun j => decide (lo_by 3 j = (nI c).toInt8.toInt32)) = sgn c := tab2 (P := fun c _ => (List.range 10).any (fun j => decide (lo_by 3 j = (nI c).toInt8.toInt32)) = sgn c) (j := 0) sg_tab hc (by decide)
theorem c_Str_indexOf (hs : SO h o v 10 (lo_by 3)) {c : Nat} (hc : c < 256) : ∃ x : Int32, (x < 0 ↔ sgn c = false) ∧ xa_rn xa_ms (d + 6) n_Str_indexOf [.ref o, .int (nI c)] h (some (.int x)) h := by
  obtain ⟨cc, hcc⟩ : ∃ cc, cc = (nI c).toInt8.toInt32 := ⟨_, rfl⟩
  have key : ∀ m k, k + m = 10 → (List.range k).any (fun j => decide (lo_by 3 j = cc)) = false → ∃ x : Int32, (x < 0 ↔ sgn c = false) ∧ ev (d + 2) t_Lat_indexOfChar 7 [.ref v, .int (nI c), .int 0, .int (nI 10), .int cc, .int (nI k)] [] h (some (.int x), h) := by
    intro m
    induction m with
    | zero =>
      intro k hk hn
      have : k = 10 := by omega
      subst this
      refine ⟨-1, ?_, ?_⟩
      · rw [← sg_eq hc, ← hcc, hn]
        decide
      · repeat (refine ev_np [] rfl rfl rfl ?_)
        exact ev_ri rfl rfl
    | succ m ih =>
      intro k hk hn
      have hk10 : k < 10 := by omega
      by_cases e : lo_by 3 k = cc
      · refine ⟨nI k, ?_, ?_⟩
        · have : sgn c = true := by
            rw [← sg_eq hc, ← hcc]
            exact List.any_eq_true.mpr ⟨k, List.mem_range.mpr hk10, decide_eq_true e⟩
          rw [this]
          exact ⟨fun z => absurd z (nI_pos (by omega)), fun z => by cases z⟩
        · repeat (refine ev_np [] rfl rfl rfl ?_)
          refine ev_ie (nI_ge (b := 10) hk10 (by omega)) ?_
          repeat (refine ev_np [] rfl rfl rfl ?_)
          refine ev_bh rfl hs.2.1 hk10 (by decide) ?_
          rw [e]
          repeat (refine ev_np [] rfl rfl rfl ?_)
          refine ev_ie (fun z => z rfl) ?_
          repeat (refine ev_np [] rfl rfl rfl ?_)
          exact ev_ri rfl rfl
      · obtain ⟨x, hx1, hx2⟩ := ih (k + 1) (by omega) (by rw [anyB, hn, decide_eq_false e]; rfl)
        refine ⟨x, hx1, ?_⟩
        rw [nI_succ k] at hx2
        repeat (refine ev_np [] rfl rfl rfl ?_)
        refine ev_ie (nI_ge (b := 10) hk10 (by omega)) ?_
        repeat (refine ev_np [] rfl rfl rfl ?_)
        refine ev_bh rfl hs.2.1 hk10 (by decide) ?_
        repeat (refine ev_np [] rfl rfl rfl ?_)
        refine ev_it e ?_
        repeat (refine ev_np [7] rfl rfl rfl ?_)
        exact hx2
  obtain ⟨x, hx1, hx2⟩ := key 10 0 rfl rfl
  refine ⟨x, hx1, ?_⟩
  have h1 : xa_rn xa_ms (d + 3) n_Lat_indexOfChar [.ref v, .int (nI c), .int 0, .int (nI 10)] h (some (.int x)) h := by
    refine rn_in m_Lat_indexOfChar rfl ⟨rfl, rfl⟩ ?_
    show ev _ t_Lat_indexOfChar 0 [.ref v, .int (nI c), .int 0, .int (nI 10), .float 0, .float 0] [] _ _
    repeat (refine ev_np [7] rfl rfl rfl ?_)
    rw [← hcc]
    exact hx2
  have h2 : xa_rn xa_ms (d + 1) n_Lat_canEncode [.int (nI c)] h (some (.int 1)) h := by
    refine rn_in m_Lat_canEncode rfl ⟨rfl, rfl⟩ ?_
    show ev _ t_Lat_canEncode 0 [.int (nI c)] [] _ _
    repeat (refine ev_np [] rfl rfl rfl ?_)
    refine ev_ie (nI_pos (by omega)) ?_
    repeat (refine ev_np [] rfl rfl rfl ?_)
    refine ev_ie (nI_nlt (a := 255) (by omega) (by omega)) ?_
    repeat (refine ev_np [] rfl rfl rfl ?_)
    exact ev_rz rfl rfl (Or.inr rfl)
  have h3 : xa_rn xa_ms (d + 4) n_Lat_indexOf [.ref v, .int (nI c), .int 0, .int (nI 10)] h (some (.int x)) h := by
    refine rn_in m_Lat_indexOf rfl ⟨rfl, rfl⟩ ?_
    show ev _ t_Lat_indexOf 0 [.ref v, .int (nI c), .int 0, .int (nI 10)] [] _ _
    repeat (refine ev_np [] rfl rfl rfl ?_)
    refine ev_ca rfl (?_ : xa_rn xa_ms (d + 3) n_Lat_canEncode [.int (nI c)] h (some (.int 1)) h) ?_
    · refine rn_in m_Lat_canEncode rfl ⟨rfl, rfl⟩ ?_
      show ev _ t_Lat_canEncode 0 [.int (nI c)] [] _ _
      repeat (refine ev_np [] rfl rfl rfl ?_)
      refine ev_ie (nI_pos (by omega)) ?_
      repeat (refine ev_np [] rfl rfl rfl ?_)
      refine ev_ie (nI_nlt (a := 255) (by omega) (by omega)) ?_
      repeat (refine ev_np [] rfl rfl rfl ?_)
      exact ev_rz rfl rfl (Or.inr rfl)
    repeat (refine ev_np [] rfl rfl rfl ?_)
    refine ev_lh rfl hs.2.1 ?_
    repeat (refine ev_np [] rfl rfl rfl ?_)
    refine ev_ca rfl (h1) ?_
    exact ev_ri rfl rfl
  have h4 : xa_rn xa_ms (d + 5) n_Str_indexOf2 [.ref o, .int (nI c), .int 0] h (some (.int x)) h := by
    refine rn_in m_Str_indexOf2 rfl ⟨rfl, rfl⟩ ?_
    show ev _ t_Str_indexOf2 0 [.ref o, .int (nI c), .int 0] [] _ _
    repeat (refine ev_np [] rfl rfl rfl ?_)
    refine ev_vh rfl rfl hs.1 rfl (c_Str_isLatin1 (d + 3) hs) ?_
    repeat (refine ev_np [] rfl rfl rfl ?_)
    refine ev_gh rfl hs.1 rfl ?_
    repeat (refine ev_np [] rfl rfl rfl ?_)
    refine ev_vh rfl rfl hs.1 rfl (c_Str_length (d + 2) hs) ?_
    refine ev_ca rfl (h3) ?_
    repeat (refine ev_np [] rfl rfl rfl ?_)
    exact ev_ri rfl rfl
  refine rn_in m_Str_indexOf rfl ⟨rfl, rfl⟩ ?_
  show ev _ t_Str_indexOf 0 [.ref o, .int (nI c)] [] _ _
  repeat (refine ev_np [] rfl rfl rfl ?_)
  refine ev_vh rfl rfl hs.1 rfl h4 ?_
  exact ev_ri rfl rfl
end STR
section SOS
variable {Y : Nat × (Nat → Int32)} {F A : Nat → Nat → Int32}
theorem SO1 : SO (hp Y F A) 1 5 6 (lo_by 0) := ⟨rfl, rfl, by decide⟩
theorem SO2 : SO (hp Y F A) 2 6 3 (lo_by 1) := ⟨rfl, rfl, by decide⟩
theorem SO3 : SO (hp Y F A) 3 7 4 (lo_by 2) := ⟨rfl, rfl, by decide⟩
theorem SO4 : SO (hp Y F A) 4 8 10 (lo_by 3) := ⟨rfl, rfl, by decide⟩
end SOS
