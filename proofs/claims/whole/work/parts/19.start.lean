/-! ===== the law's start: what the Statement gives, as the small machine has it ===== -/
def st_inst : List Nat := [223, 187, 93, 123, 181, 155, 213, 110, 129, 244, 84, 911]
set_option maxRecDepth 1000000 in
theorem st_inst_ok : (vwCl.zip st_inst).all (fun q => decide (lw_tbl[q.2]? = some (Cond.instantiable q.1.1 q.1.2.2))) = true := by decide +kernel
theorem xa_gw_sub {w : Cond} (h : w ∈ xa_gw) : w ∈ lw_tbl := (List.mem_filter.mp h).1
theorem st_inst_of {ci : Nat} {q : vw_C} (h : vwCl[ci]? = some q) : Cond.instantiable q.1 q.2.2 ∈ lw_tbl := by
  have hlt : ci < 12 := (List.getElem?_eq_some_iff.mp h).1
  obtain ⟨k, hk⟩ : ∃ k, st_inst[ci]? = some k := ⟨_, List.getElem?_eq_getElem (show ci < st_inst.length from hlt)⟩
  have h1 := List.all_eq_true.mp st_inst_ok (q, k) (List.mem_of_getElem? (i := ci) (by rw [List.getElem?_zip_eq_some]; exact ⟨h, hk⟩))
  exact List.mem_of_getElem? (of_decide_eq_true h1)
def st_k (i : Nat) : Nat := match i with
  | 0 => 81
  | 1 => 87
  | 2 => 89
  | _ => 64
def st_tm (i : Nat) : Term := .string "MayMust$Tokens" (st_k i)
def st_len : List Nat := [6, 3, 4, 10]
def st_byt : List (List Int32) := [[115, 116, 97, 116, 101, 115], [109, 97, 121], [109, 117, 115, 116], [59, 124, 38, 33, 40, 41, 60, 62, 91, 93]]
def st_tr (b b0 : Nat) (adK adV : Nat → Nat) (k : Nat) : Nat := match k with
  | 0 => b
  | 1 => adK 0
  | 2 => adK 1
  | 3 => adK 2
  | 4 => adK 3
  | 5 => adV 0
  | 6 => adV 1
  | 7 => adV 2
  | 8 => adV 3
  | k + 9 => b0 + k
theorem st_4 {P : Nat → Prop} (h0 : P 0) (h1 : P 1) (h2 : P 2) (h3 : P 3) : ∀ i, i < 4 → P i := by
  intro i hi
  match i, hi with
  | 0, _ => exact h0
  | 1, _ => exact h1
  | 2, _ => exact h2
  | 3, _ => exact h3
  | k + 4, hi => omega
set_option maxHeartbeats 4000000 in
set_option maxRecDepth 100000 in
theorem whole_of (hpure : ∀ (L : Nat) (xs : Nat → Int32), L ≤ 3072 → ∃ (d : Nat) (h' : xa_H), 64 * (d + 1) ≤ 84000 ∧ d + 1 ≤ 2048 ∧ ev d t_Law_law 0 [.ref 0, .float 0, .float 0, .float 0] [] (lo_old (L, xs)) (some (.int 1), h') ∧ h'.length ≤ 600000 ∧ xa_sl h' ≤ 7302250)
    {p : Program} {e : Env} {s : State} {m : MethodId} {below : List Frame} {meth : Method} {c : Code} (l : Launch) {b L : Nat} {xs : Nat → Int32} (hL : L ≤ 3072) (C0 : lw_At p s m meth c b L xs) : W p l e room_1 s m #[Value.ref b] below meth c s.heap [] 0 0 (lw_Z below #[Value.ref b] s) (entryFrame m ([Value.ref b] : List Value).toArray 4) := by
  obtain ⟨hx, hb, hr, hml, hown, hts, hX, hbl, hlocks, hgv⟩ := C0
  have hA : ∀ a : Nat, a < s.heap.size → ¬ (fun q : Nat => s.heap.size ≤ q) a := fun a h => Nat.not_le.mpr h
  have hg := flat_of_before _ hgv
  -- classes
  have hKn : ∀ k : Nat, ∃ z : ClassId × (Nat → Nat), ∀ q : vw_C, vwCl[k]? = some q → u_Kn s q.1 q.2.1 q.2.2 z.1 z.2 := by
    intro k
    cases hq : vwCl[k]? with
    | none => exact ⟨(0, fun _ => 0), fun q h => by cases h⟩
    | some q =>
      obtain ⟨cC, iS, h⟩ := u_known (C := q.1) (T := q.2.1) (N := q.2.2) (n := q.2.2) hts (fun w hw => xa_gw_sub ((xa_cls hq).1 w hw)) (hts _ (st_inst_of hq))
      exact ⟨(cC, iS), fun q' h' => by cases h'; exact h⟩
  obtain ⟨DD, hDD⟩ := Classical.axiomOfChoice hKn
  obtain ⟨D, hDe⟩ : ∃ D : va_G, D = (fun k => (DD k).1, fun k => (DD k).2) := ⟨_, rfl⟩
  -- arrays
  obtain ⟨cI, kI, compI, i1, i2, i3⟩ := Cond.arrayClass_spec (hts (Cond.arrayClass .int) (List.mem_of_getElem? (i := 108) (by decide +kernel)))
  have hAO : va_AO "MayMust$Plan" s := va_AO.of (hts (Cond.arrayOver (.object "MayMust$Plan")) (List.mem_of_getElem? (i := 92) (by decide +kernel)))
  obtain ⟨compP, cP, kP, p1, p2, p3, p4, p5⟩ := Cond.arrayOver_spec hAO
  have hK : va_K D vwCl [(cI, .int), (cP, .object "MayMust$Plan")] s := by
    refine ⟨fun k q hq => by rw [hDe]; exact hDD k q hq, fun k q hk => ?_⟩
    match k, hk with
    | 0, hk =>
      cases hk
      exact ⟨fun n z => ⟨fun k h => (by cases h), kI, i2, compI, i3⟩, i1⟩
    | 1, hk =>
      cases hk
      exact ⟨fun n z => ⟨fun k h => (by cases h), kP, p3, compP, p4⟩, kP, compP, p3, p4, p1, p5⟩
    | k + 2, hk => simp at hk
  -- Strings
  obtain ⟨adK, adV, hSS, hSe⟩ := vk_Sof (args := #[Value.ref b]) (s := s) (N := 4) (tm := st_tm) (len := st_len) (byt := st_byt) (A := fun q => s.heap.size ≤ q)
    (st_4 (by decide) (by decide) (by decide) (by decide))
    (st_4 (hg _ (by decide +kernel)) (hg _ (by decide +kernel)) (hg _ (by decide +kernel)) (hg _ (by decide +kernel)))
    (st_4 (hg _ (by decide +kernel)) (hg _ (by decide +kernel)) (hg _ (by decide +kernel)) (hg _ (by decide +kernel)))
    (st_4 (hg _ (by decide +kernel)) (hg _ (by decide +kernel)) (hg _ (by decide +kernel)) (hg _ (by decide +kernel)))
    (st_4 (hg _ (by decide +kernel)) (hg _ (by decide +kernel)) (hg _ (by decide +kernel)) (hg _ (by decide +kernel)))
    (fun i hi j hj => hg _ (by
      have key : (List.range 4).all (fun i => (List.range (st_len.getD i 0)).all fun j => decide (Cond.eq (.elem (.field (st_tm i) "java/lang/String" "value" "[B") (.int (Int32.ofNat j))) (.int ((st_byt.getD i []).getD j 0)) ∈ flatC (Jvm.Cond.and given_1 narrow_1))) = true := by decide +kernel
      have k1 := List.all_eq_true.mp key i (List.mem_range.mpr hi)
      exact of_decide_eq_true (List.all_eq_true.mp k1 j (List.mem_range.mpr hj))))
    (fun i j hi hj hij => by
      have key : (List.range 4).all (fun i => (List.range 4).all fun j => decide (i = j) || decide (Cond.not (Cond.eq (st_tm i) (st_tm j)) ∈ flatC (Jvm.Cond.and given_1 narrow_1)) || decide (Cond.not (Cond.eq (st_tm j) (st_tm i)) ∈ flatC (Jvm.Cond.and given_1 narrow_1))) = true := by decide +kernel
      have k1 := List.all_eq_true.mp key i (List.mem_range.mpr hi)
      have k2 := List.all_eq_true.mp k1 j (List.mem_range.mpr hj)
      simp only [Bool.or_eq_true, decide_eq_true_eq] at k2
      rcases k2 with (k2 | k2) | k2
      · exact absurd k2 hij
      · exact Or.inl (hg _ k2)
      · exact Or.inr (hg _ k2))
    hA
  -- statics
  have hZ1 : va_Z "java/lang/String" "COMPACT_STRINGS" "Z" (.int 1) (fun q => s.heap.size ≤ q) s s.heap := va_Zof (hts (Cond.laysStatic "java/lang/String" "COMPACT_STRINGS" "Z") (List.mem_of_getElem? (i := 374) (by decide +kernel))) (hts (Cond.initialized "java/lang/String") (List.mem_of_getElem? (i := 75) (by decide +kernel))) (va_eqi (hg _ (by decide +kernel))) hA
  have hZ2 := va_Zqof (hts (Cond.laysStatic "jdk/internal/util/Preconditions" "SIOOBE_FORMATTER" "Ljava/util/function/BiFunction;") (List.mem_of_getElem? (i := 391) (by decide +kernel))) (hts (Cond.initialized "jdk/internal/util/Preconditions") (List.mem_of_getElem? (i := 77) (by decide +kernel))) (hg _ (by decide +kernel)) hA
  obtain ⟨fmt, hf, hZ2⟩ : ∃ fmt : Value, fmt.category = 1 ∧ va_Z "jdk/internal/util/Preconditions" "SIOOBE_FORMATTER" "Ljava/util/function/BiFunction;" fmt (fun q => s.heap.size ≤ q) s s.heap := by
    rcases hZ2 with h | ⟨t, h⟩
    · exact ⟨.null, rfl, h⟩
    · exact ⟨.ref t, rfl, h⟩
  obtain ⟨tr, htr⟩ : ∃ tr : Nat → Nat, tr = st_tr b s.heap.size adK adV := ⟨_, rfl⟩
  have hT : xa_tr tr s.heap.size := by
    have hkl : ∀ i, i < 4 → adK i < s.heap.size := fun i hi => by
      obtain ⟨cell, h, -⟩ := (hSS.1 i hi).1
      exact (Array.getElem?_eq_some_iff.mp h).1
    have hvl : ∀ i, i < 4 → adV i < s.heap.size := fun i hi => by
      obtain ⟨cell, h, -⟩ := (hSS.1 i hi).2.2.2
      exact (Array.getElem?_eq_some_iff.mp h).1
    subst htr
    refine ⟨fun k hk => ?_, fun k hk => ?_⟩
    · match k, hk with
      | k + 9, _ => show s.heap.size + k = s.heap.size + (k + 9 - 9); omega
    · match k, hk with
      | 0, _ => exact hbl
      | 1, _ => exact hkl 0 (by decide)
      | 2, _ => exact hkl 1 (by decide)
      | 3, _ => exact hkl 2 (by decide)
      | 4, _ => exact hkl 3 (by decide)
      | 5, _ => exact hvl 0 (by decide)
      | 6, _ => exact hvl 1 (by decide)
      | 7, _ => exact hvl 2 (by decide)
      | 8, _ => exact hvl 3 (by decide)
      | k + 9, hk => omega
  have hI : xa_Inv D cI cP tr fmt (fun q => s.heap.size ≤ q) s := by
    refine ⟨hK, fun w hw => ?_, hAO, hZ1, hZ2, fun q hq => ?_⟩
    · obtain ⟨a, i, x, b, rfl⟩ := xa_nest_form hw
      exact va_Nw.of rfl (hts _ (List.mem_filter.mp hw).1)
    · subst htr
      have hq' : q = (st_k 0, "states", 1) ∨ q = (st_k 1, "may", 2) ∨ q = (st_k 2, "must", 3) ∨ q = (st_k 3, ";|&!()<>[]", 4) := by
        simpa [xa_strs, st_k] using hq
      rcases hq' with rfl | rfl | rfl | rfl
      · exact vk_R.of (A := #[Value.ref b]) (hts (Cond.stringRef "MayMust$Tokens" (st_k 0) "states") (List.mem_of_getElem? (i := 360) (by decide +kernel))) (hSe 0 (by decide))
      · exact vk_R.of (A := #[Value.ref b]) (hts (Cond.stringRef "MayMust$Tokens" (st_k 1) "may") (List.mem_of_getElem? (i := 414) (by decide +kernel))) (hSe 1 (by decide))
      · exact vk_R.of (A := #[Value.ref b]) (hts (Cond.stringRef "MayMust$Tokens" (st_k 2) "must") (List.mem_of_getElem? (i := 415) (by decide +kernel))) (hSe 2 (by decide))
      · exact vk_R.of (A := #[Value.ref b]) (hts (Cond.stringRef "MayMust$Tokens" (st_k 3) ";|&!()<>[]") (List.mem_of_getElem? (i := 416) (by decide +kernel))) (hSe 3 (by decide))
  have hscr : va_T .int b L (fun j => .int (xs j)) (fun q => s.heap.size ≤ q) s s.heap := by
    obtain ⟨scr, h1, h2, h3, h4, h5⟩ := hX
    exact ⟨scr, h1, h2, h3, Nat.le_of_eq h4.symm, by rw [h4], h5, hA b hbl⟩
  have hstr : ∀ i j k : Nat, i < 4 → tr j = adK i → tr k = adV i → xa_cell D cI cP tr fmt (fun q => s.heap.size ≤ q) s s.heap j (.inr (60, [.ref k, .int 0])) := by
    intro i j k hi hj hk
    obtain ⟨h1, h2, h3, h4⟩ := hSS.1 i hi
    refine Or.inr (Or.inl ⟨rfl, by rw [hj]; exact h1, fun v hv => ?_, fun v hv => ?_⟩)
    · cases hv
      rw [hj]
      show va_OF _ _ _ (.ref (tr k)) _ _ _ _
      rw [hk]
      exact h3
    · cases hv
      rw [hj]
      exact h2
  have hbyt : ∀ i j n : Nat, i < 4 → tr j = adV i → st_len.getD i 0 = n → (∀ z, lo_by i z = (st_byt.getD i []).getD z 0) → xa_cell D cI cP tr fmt (fun q => s.heap.size ≤ q) s s.heap j (.inl (1, n, lo_by i)) := by
    intro i j n hi hj hn hz
    obtain ⟨h1, h2, h3, h4⟩ := hSS.1 i hi
    refine Or.inr (Or.inl ⟨rfl, ?_⟩)
    rw [hj, ← hn]
    have e9 : (fun j => Value.int (lo_by i j)) = fun j => .int ((st_byt.getD i []).getD j 0) := by funext z; rw [hz]
    rw [e9]
    exact h4
  have hHR : xa_HR D cI cP tr fmt (fun q => s.heap.size ≤ q) s (lo_old (L, xs)) s.heap := by
    refine ⟨by rw [htr]; rfl, Nat.le_refl 9, fun k c hk => ?_⟩
    match k, hk with
    | 0, hk => cases hk; exact Or.inr (Or.inr ⟨rfl, by rw [htr]; exact hscr⟩)
    | 1, hk => cases hk; exact hstr 0 1 5 (by decide) (by rw [htr]; rfl) (by rw [htr]; rfl)
    | 2, hk => cases hk; exact hstr 1 2 6 (by decide) (by rw [htr]; rfl) (by rw [htr]; rfl)
    | 3, hk => cases hk; exact hstr 2 3 7 (by decide) (by rw [htr]; rfl) (by rw [htr]; rfl)
    | 4, hk => cases hk; exact hstr 3 4 8 (by decide) (by rw [htr]; rfl) (by rw [htr]; rfl)
    | 5, hk => cases hk; exact hbyt 0 5 6 (by decide) (by rw [htr]; rfl) rfl (fun z => rfl)
    | 6, hk => cases hk; exact hbyt 1 6 3 (by decide) (by rw [htr]; rfl) rfl (fun z => rfl)
    | 7, hk => cases hk; exact hbyt 2 7 4 (by decide) (by rw [htr]; rfl) rfl (fun z => rfl)
    | 8, hk => cases hk; exact hbyt 3 8 10 (by decide) (by rw [htr]; rfl) rfl (fun z => rfl)
    | k + 9, hk => simp [lo_old] at hk
  -- the run
  obtain ⟨d, h', hd1, hd2, ⟨n, hev⟩, hn1, hn2⟩ := hpure L xs hL
  have htb : ∀ w ∈ t_Law_law, w.2.1 = .nop ∨ xa_okI xa_ms x code ret w = true := xa_okT_tb (ms := xa_ms) (M := (x, code, maxLocals, ret, t_Law_law)) ok_Law
  have main := xs_main (p := p) (l := l) (e := e) (R := room_1) (s := s) (m := m) (args := #[Value.ref b]) (below := below) (meth := meth) (c := c) (Q := lw_Z below #[Value.ref b] s) (n0 := 9) (s0 := xa_sl (lo_old (L, xs))) (d := d) (q := (some (.int 1), h')) (ret := ret) (y := x) hx hb hml hf hown (fun z => absurd z (by decide)) (fun w hw => hts w (xa_gw_sub hw)) hI hT hd2 hd1 (fun M hM => xa_okT_c (xa_oks M hM)) htb (xa_sound xa_oks hf hT d)
    (by show h'.length ≤ 9 + 600000; omega) (by show xa_sl h' ≤ _ + 7302250; omega)
    (by
      intro pc rl H locs cells slots v ty hdg hR hS hc1 hc2 hq hty hn
      dsimp only at hc1 hc2 hq
      cases hq
      refine va_forget (fun q hq => hS.2.2 q hq) ?_
      refine W.widen (k := 600000) (n := 7302250) (by omega) (by omega) ?_
      exact lw_ret hx hb hr hlocks hdg)
    (by
      intro pc rl H locs cells slots hdg hR hS hc1 hc2 hq hty
      cases hq)
    n _ hev
  rw [lg_entry_eq]
  have hLe := xa_entry (tr := tr) (fmt := fmt) hf (as := [.ref 0]) (n := 4) rfl rfl
  have htr0 : [Value.ref b] = ([Value.ref 0] : List Value).map (xa_v tr fmt) := by rw [htr]; rfl
  have hfin := main.2 _ s.heap [] 0 0 hLe hHR va_S.rf rfl rfl
  rw [← htr0] at hfin
  exact hfin
