/-! ===== the law: its start, its turns ===== -/
def fld0 (o k : Nat) : Int32 := match o with
  | 11 | 14 | 17 | 20 | 23 | 26 | 29 | 59 => (match k with
    | 0 => 1
    | _ => 0)
  | 39 | 42 => (match k with
    | 1 => 1
    | 2 => 1
    | _ => 0)
  | 45 => (match k with
    | 2 => -9
    | _ => 0)
  | 58 => (match k with
    | 1 => 1
    | _ => 0)
  | 62 => (match k with
    | 12 => 1
    | 14 => 1
    | 23 => 1
    | _ => 0)
  | _ => 0
def arr0 (o : Nat) : Nat → Int32 := match o with
  | 40 => upd (fun _ => 0) 0 1
  | 43 => upd (fun _ => 0) 0 1
  | 64 => ones8
  | 66 => upd (fun _ => 0) 0 1
  | _ => fun _ => 0
def st0 : SP := ((0, fun _ => 0), (fun _ => (1, fun _ _ _ => 0)), (1, 1, fun _ => 1), ((1, fun _ _ _ => 0), (fun s => Nat.beq s 0), 0))
theorem gw0 : GW 1 (fun _ _ _ => 0) := ⟨⟨Nat.le_refl _, by decide⟩, fun s l t => ⟨Nat.zero_le _, fun h => absurd rfl h⟩⟩
theorem wf_st0 : Wf st0 := by
  refine ⟨⟨Nat.zero_le _, fun j => ?_⟩, fun i hi => gw0, ⟨⟨Nat.le_refl _, ?_⟩, ?_, fun k hk => ?_, rfl⟩, gw0, fun s hs h => ?_, Nat.zero_le _⟩
  · show 0 < 256
    decide
  · show 1 ≤ 300
    decide
  · show 1 ≤ 24
    decide
  · have hk0 : k = 0 := by
      have : k < 1 := hk
      omega
    subst hk0
    refine ⟨?_, fun h => ?_, fun h => ?_, fun h => ?_⟩
    · show 1 ≤ 10
      decide
    · have : 2 ≤ 1 := h
      omega
    · have : 1 = 3 ∨ 1 = 4 := h
      omega
    · show 0 < 24
      decide
  · show s < 1
    have : Nat.beq s 0 = true := h
    have := Nat.eq_of_beq_eq_true this
    omega
theorem cp0 {p : Nat} (h0 : fld0 p 0 = 1) (h1 : arr0 (p + 1) = fun _ => 0) (h2 : arr0 (p + 2) = fun _ => 0) : CP fld0 arr0 p 1 (fun _ _ _ => 0) := by
  refine ⟨h0, fun s l _ _ => ⟨?_, ?_⟩⟩
  · rw [h1]
    show (0 : Int32) = nI (bm (fun _ => decide (1 ≤ 0)))
    decide +kernel
  · rw [h2]
    show (0 : Int32) = nI (bm (fun _ => decide (2 ≤ 0)))
    decide +kernel
theorem rc_st0 : RC fld0 arr0 st0 := by
  refine ⟨⟨by decide +kernel, fun j hj => absurd hj (Nat.not_lt_zero j)⟩, fun i hi => ?_, ⟨by decide +kernel, by decide +kernel, fun k hk => ?_⟩, cp0 rfl rfl rfl, by decide +kernel, by decide +kernel⟩
  · match i, hi with
    | 0, _ => exact cp0 rfl rfl rfl
    | 1, _ => exact cp0 rfl rfl rfl
    | 2, _ => exact cp0 rfl rfl rfl
    | 3, _ => exact cp0 rfl rfl rfl
    | 4, _ => exact cp0 rfl rfl rfl
    | 5, _ => exact cp0 rfl rfl rfl
    | k + 6, hi => omega
  · have hk0 : k = 0 := by
      have : k < 1 := hk
      omega
    subst hk0
    decide +kernel
theorem ones8_1 {i : Nat} (h : i < 8) : arr0 64 i = 1 := by
  match i, h with
  | 0, _ => decide +kernel
  | 1, _ => decide +kernel
  | 2, _ => decide +kernel
  | 3, _ => decide +kernel
  | 4, _ => decide +kernel
  | 5, _ => decide +kernel
  | 6, _ => decide +kernel
  | 7, _ => decide +kernel
  | k + 8, h => omega
theorem mp0 {i : Nat} (h : i < 8) : MP arr0 i 1 (fun _ _ _ => 0) := by
  refine ⟨by rw [ones8_1 h]; decide +kernel, fun s l t _ _ _ => ?_⟩
  show (0 : Int32) = nI 0
  decide +kernel
theorem rm_st0 : RM fld0 arr0 st0 := by
  refine ⟨⟨by decide +kernel, fun j hj => absurd hj (Nat.not_lt_zero j)⟩, fun i hi => mp0 (by omega), ⟨by decide +kernel, by decide +kernel, fun k hk => ?_⟩, mp0 (by decide), by decide +kernel, by decide +kernel⟩
  have hk0 : k = 0 := by
    have : k < 1 := hk
    omega
  subst hk0
  decide +kernel
set_option maxRecDepth 100000 in
theorem lay0 : ([] ++ mmC (9 + 0)) ++ moC (9 + 53) = lo_mk fld0 arr0 9 lo_lay := by rfl
section LAW
variable {d : Nat} {tb : List xa_I} {pc : Nat} {ls st : List Value} {q : xa_R} {L : Nat} {xs : Nat → Int32} {F A : Nat → Nat → Int32}
/-- an int of the script -/
theorem ev_sl {len j : Nat} {a : List Nat} {cv i : Int32} (hi : xa_lk tb pc = some (.iaload, len, a, cv)) (hj : i = nI j) (hlt : j < L) (hL : L ≤ 3072) (kk : ev d tb (pc + len) ls (.int (xs j) :: st) (hp (L, xs) F A) q) : ev d tb pc ls (.int i :: .ref 0 :: st) (hp (L, xs) F A) q := by
  refine ev_nx (?_ : xa_one tb pc ls (.int i :: .ref 0 :: st) (hp (L, xs) F A) = some (.inl (pc + len, ls, .int (xs j) :: st, hp (L, xs) F A))) kk
  unfold xa_one
  rw [hi]
  show xa_iald (pc + len) ls (.int i :: .ref 0 :: st) (hp (L, xs) F A) = _
  have key : xa_iald (pc + len) ls (.int i :: .ref 0 :: st) (hp (L, xs) F A) = (if (2 = 0 ∨ 2 = 2) ∧ ¬ (i < 0 ∨ L ≤ i.toNatClampNeg) then xa_nx (pc + len) ls (.int (xs i.toNatClampNeg) :: st) (hp (L, xs) F A) else none) := rfl
  have hc : i.toNatClampNeg = j := by rw [hj]; exact nI_clamp (by omega)
  rw [key, if_pos ⟨Or.inr rfl, by rw [hj]; exact nI_in hlt (by omega)⟩, hc]
  rfl
theorem ev_sn {len : Nat} {a : List Nat} {cv : Int32} (hi : xa_lk tb pc = some (.arraylength, len, a, cv)) (kk : ev d tb (pc + len) ls (.int (nI L) :: st) (hp (L, xs) F A) q) : ev d tb pc ls (.ref 0 :: st) (hp (L, xs) F A) q := by
  refine ev_nx (?_ : xa_one tb pc ls (.ref 0 :: st) (hp (L, xs) F A) = some (.inl (pc + len, ls, .int (nI L) :: st, hp (L, xs) F A))) kk
  unfold xa_one
  rw [hi]
  rfl
theorem ev_sw {i : Jvm.ClassFile.Instr} {len j t : Nat} {ts : List Nat} {cv : Int32} {h : xa_H} (hi : xa_lk tb pc = some (i, len, ts, cv)) (hs : xa_step i len ts cv pc ls (.int (nI j) :: st) h = xa_sw ts ls (.int (nI j) :: st) h) (hj : j < 100) (ht : (if j + 1 < ts.length then ts.getD (j + 1) 0 else ts.getD 0 0) = t) (kk : ev d tb t ls st h q) : ev d tb pc ls (.int (nI j) :: st) h q := by
  refine ev_nx (?_ : xa_one tb pc ls (.int (nI j) :: st) h = some (.inl (t, ls, st, h))) kk
  unfold xa_one
  rw [hi]
  show xa_step i len ts cv pc ls (.int (nI j) :: st) h = _
  rw [hs]
  show (if (nI j).toInt < 0 ∨ (ts.length : Int) - 2 < (nI j).toInt then xa_nx (ts.getD 0 0) ls st h else xa_nx (ts.getD ((nI j).toInt.toNat + 1) 0) ls st h) = _
  rw [nI_toInt (by omega), Int.toNat_natCast]
  by_cases e : j + 1 < ts.length
  · rw [if_pos e] at ht
    rw [if_neg (by omega), ht]
    rfl
  · rw [if_neg e] at ht
    rw [if_pos (by omega), ht]
    rfl
end LAW
theorem and31 (x : Int32) : ∃ j, j < 32 ∧ x &&& 31 = nI j := by
  obtain ⟨n, hn⟩ : ∃ n, n = (x &&& 31).toBitVec.toNat := ⟨_, rfl⟩
  refine ⟨n, ?_, ?_⟩
  · have h1 : (x &&& 31).toBitVec.toNat = x.toBitVec.toNat &&& 31 := by
      rw [Int32.toBitVec_and, BitVec.toNat_and]
      rfl
    have h2 : x.toBitVec.toNat &&& 31 ≤ 31 := Nat.and_le_right
    omega
  · rw [hn]
    unfold nI
    apply Int32.toBitVec_inj.mp
    simp
theorem law_lt {L j : Nat} (hL : L ≤ 3072) (hj : j ≤ 4000) : nI L - 6 < nI j ↔ L < j + 6 := by
  have h1 : (nI L - 6).toInt = (L : Int) - 6 := pk_sub_toInt (a := L) (b := 6) (by omega) (by decide)
  rw [Int32.lt_iff_toInt_lt, h1, nI_toInt (by omega)]
  omega
section LAWS
variable {S : SP}
theorem both_ca {Y : Nat × (Nat → Int32)} {F A : Nat → Nat → Int32} {mc mm : Nat} {as : List Value} (op : OP mc mm as S) (hC : RC F A S) (hM : RM F A S) : ∃ (r : Int32) (F1 A1 F2 A2 : Nat → Nat → Int32) (S' : SP), xa_rn xa_ms 80 mc (.ref 9 :: as) (hp Y F A) (some (.int r)) (hp Y F1 A1) ∧ xa_rn xa_ms 80 mm (.ref 62 :: as) (hp Y F1 A1) (some (.int r)) (hp Y F2 A2) ∧ Wf S' ∧ RC F2 A2 S' ∧ RM F2 A2 S' := by
  obtain ⟨r, S', w, hc, hm⟩ := op
  obtain ⟨F1, A1, c1, c2, c3⟩ := hc Y F A hC
  obtain ⟨F2, A2, m1, m2, m3⟩ := hm Y F1 A1 (c3.rm hM)
  exact ⟨r, F1, A1, F2, A2, S', c1, m1, w, m3.rc c2, m2⟩
variable {L : Nat} {xs : Nat → Int32} {F A : Nat → Nat → Int32} {k : Nat} {q : xa_R}
set_option maxRecDepth 100000 in
theorem lt_type (hL : L ≤ 3072) (hk : 6 * k + 6 ≤ L) (W : Wf S) (hC : RC F A S) (hM : RM F A S) : ∃ (S' : SP) (F' A' : Nat → Nat → Int32), (Wf S' ∧ RC F' A' S' ∧ RM F' A' S') ∧ ∀ q, ev 80 t_Law_law 764 [.ref 0, .ref 9, .ref 62, .int (nI (6 * k))] [] (hp (L, xs) F' A') q → ev 80 t_Law_law 120 [.ref 0, .ref 9, .ref 62, .int (nI (6 * k))] [] (hp (L, xs) F A) q := by
  obtain ⟨r, F1, A1, F2, A2, S', c1, c2, w, hC2, hM2⟩ := both_ca (Y := (L, xs)) (op_type W (((xs (6 * k + 1)).toInt64 <<< ((32 : Int32).toInt64 &&& 63)) ||| ((xs (6 * k + 2)).toInt64 &&& Int64.ofNat 4294967295)) (xs (6 * k + 3))) hC hM
  refine ⟨S', F2, A2, ⟨w, hC2, hM2⟩, fun q hq => ?_⟩
  repeat (refine ev_np [] rfl rfl rfl ?_)
  refine ev_sl rfl (nI_add (6 * k) 1) (by omega) hL ?_
  repeat (refine ev_np [] rfl rfl rfl ?_)
  refine ev_sl rfl (nI_add (6 * k) 2) (by omega) hL ?_
  repeat (refine ev_np [] rfl rfl rfl ?_)
  refine ev_sl rfl (nI_add (6 * k) 3) (by omega) hL ?_
  refine ev_vc rfl (by rfl) (by rfl) rfl (c1) ?_
  repeat (refine ev_np [] rfl rfl rfl ?_)
  refine ev_sl rfl (nI_add (6 * k) 1) (by omega) hL ?_
  repeat (refine ev_np [] rfl rfl rfl ?_)
  refine ev_sl rfl (nI_add (6 * k) 2) (by omega) hL ?_
  repeat (refine ev_np [] rfl rfl rfl ?_)
  refine ev_sl rfl (nI_add (6 * k) 3) (by omega) hL ?_
  refine ev_vc rfl (by rfl) (by rfl) rfl (c2) ?_
  repeat (refine ev_np [] rfl rfl rfl ?_)
  refine ev_it rfl ?_
  exact hq
set_option maxRecDepth 100000 in
theorem lt_clear (hL : L ≤ 3072) (hk : 6 * k + 6 ≤ L) (W : Wf S) (hC : RC F A S) (hM : RM F A S) : ∃ (S' : SP) (F' A' : Nat → Nat → Int32), (Wf S' ∧ RC F' A' S' ∧ RM F' A' S') ∧ ∀ q, ev 80 t_Law_law 764 [.ref 0, .ref 9, .ref 62, .int (nI (6 * k))] [] (hp (L, xs) F' A') q → ev 80 t_Law_law 183 [.ref 0, .ref 9, .ref 62, .int (nI (6 * k))] [] (hp (L, xs) F A) q := by
  obtain ⟨r, F1, A1, F2, A2, S', c1, c2, w, hC2, hM2⟩ := both_ca (Y := (L, xs)) (op_clear W) hC hM
  refine ⟨S', F2, A2, ⟨w, hC2, hM2⟩, fun q hq => ?_⟩
  repeat (refine ev_np [] rfl rfl rfl ?_)
  refine ev_vc rfl (by rfl) (by rfl) rfl (c1) ?_
  repeat (refine ev_np [] rfl rfl rfl ?_)
  refine ev_vc rfl (by rfl) (by rfl) rfl (c2) ?_
  repeat (refine ev_np [] rfl rfl rfl ?_)
  refine ev_it rfl ?_
  exact hq
set_option maxRecDepth 100000 in
theorem lt_plan (hL : L ≤ 3072) (hk : 6 * k + 6 ≤ L) (W : Wf S) (hC : RC F A S) (hM : RM F A S) : ∃ (S' : SP) (F' A' : Nat → Nat → Int32), (Wf S' ∧ RC F' A' S' ∧ RM F' A' S') ∧ ∀ q, ev 80 t_Law_law 764 [.ref 0, .ref 9, .ref 62, .int (nI (6 * k))] [] (hp (L, xs) F' A') q → ev 80 t_Law_law 196 [.ref 0, .ref 9, .ref 62, .int (nI (6 * k))] [] (hp (L, xs) F A) q := by
  obtain ⟨r, F1, A1, F2, A2, S', c1, c2, w, hC2, hM2⟩ := both_ca (Y := (L, xs)) (op_plan W (xs (6 * k + 1))) hC hM
  refine ⟨S', F2, A2, ⟨w, hC2, hM2⟩, fun q hq => ?_⟩
  repeat (refine ev_np [] rfl rfl rfl ?_)
  refine ev_sl rfl (nI_add (6 * k) 1) (by omega) hL ?_
  refine ev_vc rfl (by rfl) (by rfl) rfl (c1) ?_
  repeat (refine ev_np [] rfl rfl rfl ?_)
  refine ev_sl rfl (nI_add (6 * k) 1) (by omega) hL ?_
  refine ev_vc rfl (by rfl) (by rfl) rfl (c2) ?_
  repeat (refine ev_np [] rfl rfl rfl ?_)
  refine ev_it rfl ?_
  exact hq
set_option maxRecDepth 100000 in
theorem lt_say (hL : L ≤ 3072) (hk : 6 * k + 6 ≤ L) (W : Wf S) (hC : RC F A S) (hM : RM F A S) : ∃ (S' : SP) (F' A' : Nat → Nat → Int32), (Wf S' ∧ RC F' A' S' ∧ RM F' A' S') ∧ ∀ q, ev 80 t_Law_law 764 [.ref 0, .ref 9, .ref 62, .int (nI (6 * k))] [] (hp (L, xs) F' A') q → ev 80 t_Law_law 219 [.ref 0, .ref 9, .ref 62, .int (nI (6 * k))] [] (hp (L, xs) F A) q := by
  obtain ⟨r, F1, A1, F2, A2, S', c1, c2, w, hC2, hM2⟩ := both_ca (Y := (L, xs)) (op_say W) hC hM
  refine ⟨S', F2, A2, ⟨w, hC2, hM2⟩, fun q hq => ?_⟩
  repeat (refine ev_np [] rfl rfl rfl ?_)
  refine ev_vc rfl (by rfl) (by rfl) rfl (c1) ?_
  repeat (refine ev_np [] rfl rfl rfl ?_)
  refine ev_vc rfl (by rfl) (by rfl) rfl (c2) ?_
  repeat (refine ev_np [] rfl rfl rfl ?_)
  refine ev_it rfl ?_
  exact hq
set_option maxRecDepth 100000 in
theorem lt_states (hL : L ≤ 3072) (hk : 6 * k + 6 ≤ L) (W : Wf S) (hC : RC F A S) (hM : RM F A S) : ∃ (S' : SP) (F' A' : Nat → Nat → Int32), (Wf S' ∧ RC F' A' S' ∧ RM F' A' S') ∧ ∀ q, ev 80 t_Law_law 764 [.ref 0, .ref 9, .ref 62, .int (nI (6 * k))] [] (hp (L, xs) F' A') q → ev 80 t_Law_law 232 [.ref 0, .ref 9, .ref 62, .int (nI (6 * k))] [] (hp (L, xs) F A) q := by
  obtain ⟨r, F1, A1, F2, A2, S', c1, c2, w, hC2, hM2⟩ := both_ca (Y := (L, xs)) (op_states W (xs (6 * k + 1)) (xs (6 * k + 2))) hC hM
  refine ⟨S', F2, A2, ⟨w, hC2, hM2⟩, fun q hq => ?_⟩
  repeat (refine ev_np [] rfl rfl rfl ?_)
  refine ev_sl rfl (nI_add (6 * k) 1) (by omega) hL ?_
  repeat (refine ev_np [] rfl rfl rfl ?_)
  refine ev_sl rfl (nI_add (6 * k) 2) (by omega) hL ?_
  refine ev_vc rfl (by rfl) (by rfl) rfl (c1) ?_
  repeat (refine ev_np [] rfl rfl rfl ?_)
  refine ev_sl rfl (nI_add (6 * k) 1) (by omega) hL ?_
  repeat (refine ev_np [] rfl rfl rfl ?_)
  refine ev_sl rfl (nI_add (6 * k) 2) (by omega) hL ?_
  refine ev_vc rfl (by rfl) (by rfl) rfl (c2) ?_
  repeat (refine ev_np [] rfl rfl rfl ?_)
  refine ev_it rfl ?_
  exact hq
set_option maxRecDepth 100000 in
theorem lt_arrow (hL : L ≤ 3072) (hk : 6 * k + 6 ≤ L) (W : Wf S) (hC : RC F A S) (hM : RM F A S) : ∃ (S' : SP) (F' A' : Nat → Nat → Int32), (Wf S' ∧ RC F' A' S' ∧ RM F' A' S') ∧ ∀ q, ev 80 t_Law_law 764 [.ref 0, .ref 9, .ref 62, .int (nI (6 * k))] [] (hp (L, xs) F' A') q → ev 80 t_Law_law 265 [.ref 0, .ref 9, .ref 62, .int (nI (6 * k))] [] (hp (L, xs) F A) q := by
  obtain ⟨r, F1, A1, F2, A2, S', c1, c2, w, hC2, hM2⟩ := both_ca (Y := (L, xs)) (op_arrow W (xs (6 * k + 1)) (xs (6 * k + 2)) (xs (6 * k + 3)) (xs (6 * k + 4))) hC hM
  refine ⟨S', F2, A2, ⟨w, hC2, hM2⟩, fun q hq => ?_⟩
  repeat (refine ev_np [] rfl rfl rfl ?_)
  refine ev_sl rfl (nI_add (6 * k) 1) (by omega) hL ?_
  repeat (refine ev_np [] rfl rfl rfl ?_)
  refine ev_sl rfl (nI_add (6 * k) 2) (by omega) hL ?_
  repeat (refine ev_np [] rfl rfl rfl ?_)
  refine ev_sl rfl (nI_add (6 * k) 3) (by omega) hL ?_
  repeat (refine ev_np [] rfl rfl rfl ?_)
  refine ev_sl rfl (nI_add (6 * k) 4) (by omega) hL ?_
  refine ev_vc rfl (by rfl) (by rfl) rfl (c1) ?_
  repeat (refine ev_np [] rfl rfl rfl ?_)
  refine ev_sl rfl (nI_add (6 * k) 1) (by omega) hL ?_
  repeat (refine ev_np [] rfl rfl rfl ?_)
  refine ev_sl rfl (nI_add (6 * k) 2) (by omega) hL ?_
  repeat (refine ev_np [] rfl rfl rfl ?_)
  refine ev_sl rfl (nI_add (6 * k) 3) (by omega) hL ?_
  repeat (refine ev_np [] rfl rfl rfl ?_)
  refine ev_sl rfl (nI_add (6 * k) 4) (by omega) hL ?_
  refine ev_vc rfl (by rfl) (by rfl) rfl (c2) ?_
  repeat (refine ev_np [] rfl rfl rfl ?_)
  refine ev_it rfl ?_
  exact hq
set_option maxRecDepth 100000 in
theorem lt_put (hL : L ≤ 3072) (hk : 6 * k + 6 ≤ L) (W : Wf S) (hC : RC F A S) (hM : RM F A S) : ∃ (S' : SP) (F' A' : Nat → Nat → Int32), (Wf S' ∧ RC F' A' S' ∧ RM F' A' S') ∧ ∀ q, ev 80 t_Law_law 764 [.ref 0, .ref 9, .ref 62, .int (nI (6 * k))] [] (hp (L, xs) F' A') q → ev 80 t_Law_law 318 [.ref 0, .ref 9, .ref 62, .int (nI (6 * k))] [] (hp (L, xs) F A) q := by
  obtain ⟨r, F1, A1, F2, A2, S', c1, c2, w, hC2, hM2⟩ := both_ca (Y := (L, xs)) (op_put W (xs (6 * k + 1)) (xs (6 * k + 2)) (xs (6 * k + 3)) (xs (6 * k + 4)) (xs (6 * k + 5))) hC hM
  refine ⟨S', F2, A2, ⟨w, hC2, hM2⟩, fun q hq => ?_⟩
  repeat (refine ev_np [] rfl rfl rfl ?_)
  refine ev_sl rfl (nI_add (6 * k) 1) (by omega) hL ?_
  repeat (refine ev_np [] rfl rfl rfl ?_)
  refine ev_sl rfl (nI_add (6 * k) 2) (by omega) hL ?_
  repeat (refine ev_np [] rfl rfl rfl ?_)
  refine ev_sl rfl (nI_add (6 * k) 3) (by omega) hL ?_
  repeat (refine ev_np [] rfl rfl rfl ?_)
  refine ev_sl rfl (nI_add (6 * k) 4) (by omega) hL ?_
  repeat (refine ev_np [] rfl rfl rfl ?_)
  refine ev_sl rfl (nI_add (6 * k) 5) (by omega) hL ?_
  refine ev_vc rfl (by rfl) (by rfl) rfl (c1) ?_
  repeat (refine ev_np [] rfl rfl rfl ?_)
  refine ev_sl rfl (nI_add (6 * k) 1) (by omega) hL ?_
  repeat (refine ev_np [] rfl rfl rfl ?_)
  refine ev_sl rfl (nI_add (6 * k) 2) (by omega) hL ?_
  repeat (refine ev_np [] rfl rfl rfl ?_)
  refine ev_sl rfl (nI_add (6 * k) 3) (by omega) hL ?_
  repeat (refine ev_np [] rfl rfl rfl ?_)
  refine ev_sl rfl (nI_add (6 * k) 4) (by omega) hL ?_
  repeat (refine ev_np [] rfl rfl rfl ?_)
  refine ev_sl rfl (nI_add (6 * k) 5) (by omega) hL ?_
  refine ev_vc rfl (by rfl) (by rfl) rfl (c2) ?_
  repeat (refine ev_np [] rfl rfl rfl ?_)
  refine ev_it rfl ?_
  exact hq
set_option maxRecDepth 100000 in
theorem lt_stricter (hL : L ≤ 3072) (hk : 6 * k + 6 ≤ L) (W : Wf S) (hC : RC F A S) (hM : RM F A S) : ∃ (S' : SP) (F' A' : Nat → Nat → Int32), (Wf S' ∧ RC F' A' S' ∧ RM F' A' S') ∧ ∀ q, ev 80 t_Law_law 764 [.ref 0, .ref 9, .ref 62, .int (nI (6 * k))] [] (hp (L, xs) F' A') q → ev 80 t_Law_law 381 [.ref 0, .ref 9, .ref 62, .int (nI (6 * k))] [] (hp (L, xs) F A) q := by
  obtain ⟨r, F1, A1, F2, A2, S', c1, c2, w, hC2, hM2⟩ := both_ca (Y := (L, xs)) (op_stricter W (xs (6 * k + 1)) (xs (6 * k + 2)) (xs (6 * k + 3))) hC hM
  refine ⟨S', F2, A2, ⟨w, hC2, hM2⟩, fun q hq => ?_⟩
  repeat (refine ev_np [] rfl rfl rfl ?_)
  refine ev_sl rfl (nI_add (6 * k) 1) (by omega) hL ?_
  repeat (refine ev_np [] rfl rfl rfl ?_)
  refine ev_sl rfl (nI_add (6 * k) 2) (by omega) hL ?_
  repeat (refine ev_np [] rfl rfl rfl ?_)
  refine ev_sl rfl (nI_add (6 * k) 3) (by omega) hL ?_
  refine ev_vc rfl (by rfl) (by rfl) rfl (c1) ?_
  repeat (refine ev_np [] rfl rfl rfl ?_)
  refine ev_sl rfl (nI_add (6 * k) 1) (by omega) hL ?_
  repeat (refine ev_np [] rfl rfl rfl ?_)
  refine ev_sl rfl (nI_add (6 * k) 2) (by omega) hL ?_
  repeat (refine ev_np [] rfl rfl rfl ?_)
  refine ev_sl rfl (nI_add (6 * k) 3) (by omega) hL ?_
  refine ev_vc rfl (by rfl) (by rfl) rfl (c2) ?_
  repeat (refine ev_np [] rfl rfl rfl ?_)
  refine ev_it rfl ?_
  exact hq
set_option maxRecDepth 100000 in
theorem lt_stays (hL : L ≤ 3072) (hk : 6 * k + 6 ≤ L) (W : Wf S) (hC : RC F A S) (hM : RM F A S) : ∃ (S' : SP) (F' A' : Nat → Nat → Int32), (Wf S' ∧ RC F' A' S' ∧ RM F' A' S') ∧ ∀ q, ev 80 t_Law_law 764 [.ref 0, .ref 9, .ref 62, .int (nI (6 * k))] [] (hp (L, xs) F' A') q → ev 80 t_Law_law 424 [.ref 0, .ref 9, .ref 62, .int (nI (6 * k))] [] (hp (L, xs) F A) q := by
  obtain ⟨r, F1, A1, F2, A2, S', c1, c2, w, hC2, hM2⟩ := both_ca (Y := (L, xs)) (op_stays W (xs (6 * k + 1)) (xs (6 * k + 2)) (xs (6 * k + 3)) (xs (6 * k + 4))) hC hM
  refine ⟨S', F2, A2, ⟨w, hC2, hM2⟩, fun q hq => ?_⟩
  repeat (refine ev_np [] rfl rfl rfl ?_)
  refine ev_sl rfl (nI_add (6 * k) 1) (by omega) hL ?_
  repeat (refine ev_np [] rfl rfl rfl ?_)
  refine ev_sl rfl (nI_add (6 * k) 2) (by omega) hL ?_
  repeat (refine ev_np [] rfl rfl rfl ?_)
  refine ev_sl rfl (nI_add (6 * k) 3) (by omega) hL ?_
  repeat (refine ev_np [] rfl rfl rfl ?_)
  refine ev_sl rfl (nI_add (6 * k) 4) (by omega) hL ?_
  refine ev_vc rfl (by rfl) (by rfl) rfl (c1) ?_
  repeat (refine ev_np [] rfl rfl rfl ?_)
  refine ev_sl rfl (nI_add (6 * k) 1) (by omega) hL ?_
  repeat (refine ev_np [] rfl rfl rfl ?_)
  refine ev_sl rfl (nI_add (6 * k) 2) (by omega) hL ?_
  repeat (refine ev_np [] rfl rfl rfl ?_)
  refine ev_sl rfl (nI_add (6 * k) 3) (by omega) hL ?_
  repeat (refine ev_np [] rfl rfl rfl ?_)
  refine ev_sl rfl (nI_add (6 * k) 4) (by omega) hL ?_
  refine ev_vc rfl (by rfl) (by rfl) rfl (c2) ?_
  repeat (refine ev_np [] rfl rfl rfl ?_)
  refine ev_it rfl ?_
  exact hq
set_option maxRecDepth 100000 in
theorem lt_alike (hL : L ≤ 3072) (hk : 6 * k + 6 ≤ L) (W : Wf S) (hC : RC F A S) (hM : RM F A S) : ∃ (S' : SP) (F' A' : Nat → Nat → Int32), (Wf S' ∧ RC F' A' S' ∧ RM F' A' S') ∧ ∀ q, ev 80 t_Law_law 764 [.ref 0, .ref 9, .ref 62, .int (nI (6 * k))] [] (hp (L, xs) F' A') q → ev 80 t_Law_law 477 [.ref 0, .ref 9, .ref 62, .int (nI (6 * k))] [] (hp (L, xs) F A) q := by
  obtain ⟨r, F1, A1, F2, A2, S', c1, c2, w, hC2, hM2⟩ := both_ca (Y := (L, xs)) (op_alike W (xs (6 * k + 1)) (xs (6 * k + 2))) hC hM
  refine ⟨S', F2, A2, ⟨w, hC2, hM2⟩, fun q hq => ?_⟩
  repeat (refine ev_np [] rfl rfl rfl ?_)
  refine ev_sl rfl (nI_add (6 * k) 1) (by omega) hL ?_
  repeat (refine ev_np [] rfl rfl rfl ?_)
  refine ev_sl rfl (nI_add (6 * k) 2) (by omega) hL ?_
  refine ev_vc rfl (by rfl) (by rfl) rfl (c1) ?_
  repeat (refine ev_np [] rfl rfl rfl ?_)
  refine ev_sl rfl (nI_add (6 * k) 1) (by omega) hL ?_
  repeat (refine ev_np [] rfl rfl rfl ?_)
  refine ev_sl rfl (nI_add (6 * k) 2) (by omega) hL ?_
  refine ev_vc rfl (by rfl) (by rfl) rfl (c2) ?_
  repeat (refine ev_np [] rfl rfl rfl ?_)
  refine ev_it rfl ?_
  exact hq
set_option maxRecDepth 100000 in
theorem lt_make (hL : L ≤ 3072) (hk : 6 * k + 6 ≤ L) (W : Wf S) (hC : RC F A S) (hM : RM F A S) : ∃ (S' : SP) (F' A' : Nat → Nat → Int32), (Wf S' ∧ RC F' A' S' ∧ RM F' A' S') ∧ ∀ q, ev 80 t_Law_law 764 [.ref 0, .ref 9, .ref 62, .int (nI (6 * k))] [] (hp (L, xs) F' A') q → ev 80 t_Law_law 510 [.ref 0, .ref 9, .ref 62, .int (nI (6 * k))] [] (hp (L, xs) F A) q := by
  obtain ⟨r, F1, A1, F2, A2, S', c1, c2, w, hC2, hM2⟩ := both_ca (Y := (L, xs)) (op_make W (xs (6 * k + 1)) (xs (6 * k + 2)) (xs (6 * k + 3))) hC hM
  refine ⟨S', F2, A2, ⟨w, hC2, hM2⟩, fun q hq => ?_⟩
  repeat (refine ev_np [] rfl rfl rfl ?_)
  refine ev_sl rfl (nI_add (6 * k) 1) (by omega) hL ?_
  repeat (refine ev_np [] rfl rfl rfl ?_)
  refine ev_sl rfl (nI_add (6 * k) 2) (by omega) hL ?_
  repeat (refine ev_np [] rfl rfl rfl ?_)
  refine ev_sl rfl (nI_add (6 * k) 3) (by omega) hL ?_
  refine ev_vc rfl (by rfl) (by rfl) rfl (c1) ?_
  repeat (refine ev_np [] rfl rfl rfl ?_)
  refine ev_sl rfl (nI_add (6 * k) 1) (by omega) hL ?_
  repeat (refine ev_np [] rfl rfl rfl ?_)
  refine ev_sl rfl (nI_add (6 * k) 2) (by omega) hL ?_
  repeat (refine ev_np [] rfl rfl rfl ?_)
  refine ev_sl rfl (nI_add (6 * k) 3) (by omega) hL ?_
  refine ev_vc rfl (by rfl) (by rfl) rfl (c2) ?_
  repeat (refine ev_np [] rfl rfl rfl ?_)
  refine ev_it rfl ?_
  exact hq
set_option maxRecDepth 100000 in
theorem lt_join (hL : L ≤ 3072) (hk : 6 * k + 6 ≤ L) (W : Wf S) (hC : RC F A S) (hM : RM F A S) : ∃ (S' : SP) (F' A' : Nat → Nat → Int32), (Wf S' ∧ RC F' A' S' ∧ RM F' A' S') ∧ ∀ q, ev 80 t_Law_law 764 [.ref 0, .ref 9, .ref 62, .int (nI (6 * k))] [] (hp (L, xs) F' A') q → ev 80 t_Law_law 553 [.ref 0, .ref 9, .ref 62, .int (nI (6 * k))] [] (hp (L, xs) F A) q := by
  obtain ⟨r, F1, A1, F2, A2, S', c1, c2, w, hC2, hM2⟩ := both_ca (Y := (L, xs)) (op_join W (xs (6 * k + 1)) (xs (6 * k + 2)) (xs (6 * k + 3)) (xs (6 * k + 4))) hC hM
  refine ⟨S', F2, A2, ⟨w, hC2, hM2⟩, fun q hq => ?_⟩
  repeat (refine ev_np [] rfl rfl rfl ?_)
  refine ev_sl rfl (nI_add (6 * k) 1) (by omega) hL ?_
  repeat (refine ev_np [] rfl rfl rfl ?_)
  refine ev_sl rfl (nI_add (6 * k) 2) (by omega) hL ?_
  repeat (refine ev_np [] rfl rfl rfl ?_)
  refine ev_sl rfl (nI_add (6 * k) 3) (by omega) hL ?_
  repeat (refine ev_np [] rfl rfl rfl ?_)
  refine ev_sl rfl (nI_add (6 * k) 4) (by omega) hL ?_
  refine ev_vc rfl (by rfl) (by rfl) rfl (c1) ?_
  repeat (refine ev_np [] rfl rfl rfl ?_)
  refine ev_sl rfl (nI_add (6 * k) 1) (by omega) hL ?_
  repeat (refine ev_np [] rfl rfl rfl ?_)
  refine ev_sl rfl (nI_add (6 * k) 2) (by omega) hL ?_
  repeat (refine ev_np [] rfl rfl rfl ?_)
  refine ev_sl rfl (nI_add (6 * k) 3) (by omega) hL ?_
  repeat (refine ev_np [] rfl rfl rfl ?_)
  refine ev_sl rfl (nI_add (6 * k) 4) (by omega) hL ?_
  refine ev_vc rfl (by rfl) (by rfl) rfl (c2) ?_
  repeat (refine ev_np [] rfl rfl rfl ?_)
  refine ev_it rfl ?_
  exact hq
set_option maxRecDepth 100000 in
theorem lt_value (hL : L ≤ 3072) (hk : 6 * k + 6 ≤ L) (W : Wf S) (hC : RC F A S) (hM : RM F A S) : ∃ (S' : SP) (F' A' : Nat → Nat → Int32), (Wf S' ∧ RC F' A' S' ∧ RM F' A' S') ∧ ∀ q, ev 80 t_Law_law 764 [.ref 0, .ref 9, .ref 62, .int (nI (6 * k))] [] (hp (L, xs) F' A') q → ev 80 t_Law_law 606 [.ref 0, .ref 9, .ref 62, .int (nI (6 * k))] [] (hp (L, xs) F A) q := by
  obtain ⟨r, F1, A1, F2, A2, S', c1, c2, w, hC2, hM2⟩ := both_ca (Y := (L, xs)) (op_value W (xs (6 * k + 1)) (xs (6 * k + 2))) hC hM
  refine ⟨S', F2, A2, ⟨w, hC2, hM2⟩, fun q hq => ?_⟩
  repeat (refine ev_np [] rfl rfl rfl ?_)
  refine ev_sl rfl (nI_add (6 * k) 1) (by omega) hL ?_
  repeat (refine ev_np [] rfl rfl rfl ?_)
  refine ev_sl rfl (nI_add (6 * k) 2) (by omega) hL ?_
  refine ev_vc rfl (by rfl) (by rfl) rfl (c1) ?_
  repeat (refine ev_np [] rfl rfl rfl ?_)
  refine ev_sl rfl (nI_add (6 * k) 1) (by omega) hL ?_
  repeat (refine ev_np [] rfl rfl rfl ?_)
  refine ev_sl rfl (nI_add (6 * k) 2) (by omega) hL ?_
  refine ev_vc rfl (by rfl) (by rfl) rfl (c2) ?_
  repeat (refine ev_np [] rfl rfl rfl ?_)
  refine ev_it rfl ?_
  exact hq
set_option maxRecDepth 100000 in
theorem lt_how (hL : L ≤ 3072) (hk : 6 * k + 6 ≤ L) (W : Wf S) (hC : RC F A S) (hM : RM F A S) : ∃ (S' : SP) (F' A' : Nat → Nat → Int32), (Wf S' ∧ RC F' A' S' ∧ RM F' A' S') ∧ ∀ q, ev 80 t_Law_law 764 [.ref 0, .ref 9, .ref 62, .int (nI (6 * k))] [] (hp (L, xs) F' A') q → ev 80 t_Law_law 639 [.ref 0, .ref 9, .ref 62, .int (nI (6 * k))] [] (hp (L, xs) F A) q := by
  obtain ⟨r, F1, A1, F2, A2, S', c1, c2, w, hC2, hM2⟩ := both_ca (Y := (L, xs)) (op_how W (xs (6 * k + 1)) (xs (6 * k + 2))) hC hM
  refine ⟨S', F2, A2, ⟨w, hC2, hM2⟩, fun q hq => ?_⟩
  repeat (refine ev_np [] rfl rfl rfl ?_)
  refine ev_sl rfl (nI_add (6 * k) 1) (by omega) hL ?_
  repeat (refine ev_np [] rfl rfl rfl ?_)
  refine ev_sl rfl (nI_add (6 * k) 2) (by omega) hL ?_
  refine ev_vc rfl (by rfl) (by rfl) rfl (c1) ?_
  repeat (refine ev_np [] rfl rfl rfl ?_)
  refine ev_sl rfl (nI_add (6 * k) 1) (by omega) hL ?_
  repeat (refine ev_np [] rfl rfl rfl ?_)
  refine ev_sl rfl (nI_add (6 * k) 2) (by omega) hL ?_
  refine ev_vc rfl (by rfl) (by rfl) rfl (c2) ?_
  repeat (refine ev_np [] rfl rfl rfl ?_)
  refine ev_it rfl ?_
  exact hq
set_option maxRecDepth 100000 in
theorem lt_begin (hL : L ≤ 3072) (hk : 6 * k + 6 ≤ L) (W : Wf S) (hC : RC F A S) (hM : RM F A S) : ∃ (S' : SP) (F' A' : Nat → Nat → Int32), (Wf S' ∧ RC F' A' S' ∧ RM F' A' S') ∧ ∀ q, ev 80 t_Law_law 764 [.ref 0, .ref 9, .ref 62, .int (nI (6 * k))] [] (hp (L, xs) F' A') q → ev 80 t_Law_law 672 [.ref 0, .ref 9, .ref 62, .int (nI (6 * k))] [] (hp (L, xs) F A) q := by
  obtain ⟨r, F1, A1, F2, A2, S', c1, c2, w, hC2, hM2⟩ := both_ca (Y := (L, xs)) (op_begin W (xs (6 * k + 1))) hC hM
  refine ⟨S', F2, A2, ⟨w, hC2, hM2⟩, fun q hq => ?_⟩
  repeat (refine ev_np [] rfl rfl rfl ?_)
  refine ev_sl rfl (nI_add (6 * k) 1) (by omega) hL ?_
  refine ev_vc rfl (by rfl) (by rfl) rfl (c1) ?_
  repeat (refine ev_np [] rfl rfl rfl ?_)
  refine ev_sl rfl (nI_add (6 * k) 1) (by omega) hL ?_
  refine ev_vc rfl (by rfl) (by rfl) rfl (c2) ?_
  repeat (refine ev_np [] rfl rfl rfl ?_)
  refine ev_it rfl ?_
  exact hq
set_option maxRecDepth 100000 in
theorem lt_go (hL : L ≤ 3072) (hk : 6 * k + 6 ≤ L) (W : Wf S) (hC : RC F A S) (hM : RM F A S) : ∃ (S' : SP) (F' A' : Nat → Nat → Int32), (Wf S' ∧ RC F' A' S' ∧ RM F' A' S') ∧ ∀ q, ev 80 t_Law_law 764 [.ref 0, .ref 9, .ref 62, .int (nI (6 * k))] [] (hp (L, xs) F' A') q → ev 80 t_Law_law 695 [.ref 0, .ref 9, .ref 62, .int (nI (6 * k))] [] (hp (L, xs) F A) q := by
  obtain ⟨r, F1, A1, F2, A2, S', c1, c2, w, hC2, hM2⟩ := both_ca (Y := (L, xs)) (op_go W (xs (6 * k + 1))) hC hM
  refine ⟨S', F2, A2, ⟨w, hC2, hM2⟩, fun q hq => ?_⟩
  repeat (refine ev_np [] rfl rfl rfl ?_)
  refine ev_sl rfl (nI_add (6 * k) 1) (by omega) hL ?_
  refine ev_vc rfl (by rfl) (by rfl) rfl (c1) ?_
  repeat (refine ev_np [] rfl rfl rfl ?_)
  refine ev_sl rfl (nI_add (6 * k) 1) (by omega) hL ?_
  refine ev_vc rfl (by rfl) (by rfl) rfl (c2) ?_
  repeat (refine ev_np [] rfl rfl rfl ?_)
  refine ev_it rfl ?_
  exact hq
set_option maxRecDepth 100000 in
theorem lt_walk (hL : L ≤ 3072) (hk : 6 * k + 6 ≤ L) (W : Wf S) (hC : RC F A S) (hM : RM F A S) : ∃ (S' : SP) (F' A' : Nat → Nat → Int32), (Wf S' ∧ RC F' A' S' ∧ RM F' A' S') ∧ ∀ q, ev 80 t_Law_law 764 [.ref 0, .ref 9, .ref 62, .int (nI (6 * k))] [] (hp (L, xs) F' A') q → ev 80 t_Law_law 718 [.ref 0, .ref 9, .ref 62, .int (nI (6 * k))] [] (hp (L, xs) F A) q := by
  obtain ⟨r, F1, A1, F2, A2, S', c1, c2, w, hC2, hM2⟩ := both_ca (Y := (L, xs)) (op_walk W (xs (6 * k + 1))) hC hM
  refine ⟨S', F2, A2, ⟨w, hC2, hM2⟩, fun q hq => ?_⟩
  repeat (refine ev_np [] rfl rfl rfl ?_)
  refine ev_sl rfl (nI_add (6 * k) 1) (by omega) hL ?_
  refine ev_vc rfl (by rfl) (by rfl) rfl (c1) ?_
  repeat (refine ev_np [] rfl rfl rfl ?_)
  refine ev_sl rfl (nI_add (6 * k) 1) (by omega) hL ?_
  refine ev_vc rfl (by rfl) (by rfl) rfl (c2) ?_
  repeat (refine ev_np [] rfl rfl rfl ?_)
  refine ev_it rfl ?_
  exact hq
set_option maxRecDepth 100000 in
theorem lt_count (hL : L ≤ 3072) (hk : 6 * k + 6 ≤ L) (W : Wf S) (hC : RC F A S) (hM : RM F A S) : ∃ (S' : SP) (F' A' : Nat → Nat → Int32), (Wf S' ∧ RC F' A' S' ∧ RM F' A' S') ∧ ∀ q, ev 80 t_Law_law 764 [.ref 0, .ref 9, .ref 62, .int (nI (6 * k))] [] (hp (L, xs) F' A') q → ev 80 t_Law_law 741 [.ref 0, .ref 9, .ref 62, .int (nI (6 * k))] [] (hp (L, xs) F A) q := by
  obtain ⟨r, F1, A1, F2, A2, S', c1, c2, w, hC2, hM2⟩ := both_ca (Y := (L, xs)) (op_count W (xs (6 * k + 1))) hC hM
  refine ⟨S', F2, A2, ⟨w, hC2, hM2⟩, fun q hq => ?_⟩
  repeat (refine ev_np [] rfl rfl rfl ?_)
  refine ev_sl rfl (nI_add (6 * k) 1) (by omega) hL ?_
  refine ev_vc rfl (by rfl) (by rfl) rfl (c1) ?_
  repeat (refine ev_np [] rfl rfl rfl ?_)
  refine ev_sl rfl (nI_add (6 * k) 1) (by omega) hL ?_
  refine ev_vc rfl (by rfl) (by rfl) rfl (c2) ?_
  repeat (refine ev_np [] rfl rfl rfl ?_)
  refine ev_it rfl ?_
  exact hq
set_option maxRecDepth 100000 in
theorem lw_turn (hL : L ≤ 3072) (hk : 6 * k + 6 ≤ L) (W : Wf S) (hC : RC F A S) (hM : RM F A S) : ∃ (S' : SP) (F' A' : Nat → Nat → Int32), (Wf S' ∧ RC F' A' S' ∧ RM F' A' S') ∧ ∀ q, ev 80 t_Law_law 764 [.ref 0, .ref 9, .ref 62, .int (nI (6 * k))] [] (hp (L, xs) F' A') q → ev 80 t_Law_law 27 [.ref 0, .ref 9, .ref 62, .int (nI (6 * k))] [] (hp (L, xs) F A) q := by
  have hd : ∀ q, ev 80 t_Law_law 33 [.ref 0, .ref 9, .ref 62, .int (nI (6 * k))] [.int (xs (6 * k) &&& 31)] (hp (L, xs) F A) q → ev 80 t_Law_law 27 [.ref 0, .ref 9, .ref 62, .int (nI (6 * k))] [] (hp (L, xs) F A) q := by
    intro q hq
    repeat (refine ev_np [] rfl rfl rfl ?_)
    refine ev_sl rfl rfl (by omega) hL ?_
    repeat (refine ev_np [33] rfl rfl rfl ?_)
    exact hq
  obtain ⟨j, hj, e⟩ := and31 (xs (6 * k))
  rw [e] at hd
  match j, hj with
  | 0, _ =>
    obtain ⟨S', F', A', w, r⟩ := lt_type (xs := xs) hL hk W hC hM
    exact ⟨S', F', A', w, fun q hq => hd q (ev_sw (j := 0) rfl rfl (by decide) rfl (r q hq))⟩
  | 1, _ =>
    obtain ⟨S', F', A', w, r⟩ := lt_clear (xs := xs) hL hk W hC hM
    exact ⟨S', F', A', w, fun q hq => hd q (ev_sw (j := 1) rfl rfl (by decide) rfl (r q hq))⟩
  | 2, _ =>
    obtain ⟨S', F', A', w, r⟩ := lt_plan (xs := xs) hL hk W hC hM
    exact ⟨S', F', A', w, fun q hq => hd q (ev_sw (j := 2) rfl rfl (by decide) rfl (r q hq))⟩
  | 3, _ =>
    obtain ⟨S', F', A', w, r⟩ := lt_say (xs := xs) hL hk W hC hM
    exact ⟨S', F', A', w, fun q hq => hd q (ev_sw (j := 3) rfl rfl (by decide) rfl (r q hq))⟩
  | 4, _ =>
    obtain ⟨S', F', A', w, r⟩ := lt_states (xs := xs) hL hk W hC hM
    exact ⟨S', F', A', w, fun q hq => hd q (ev_sw (j := 4) rfl rfl (by decide) rfl (r q hq))⟩
  | 5, _ =>
    obtain ⟨S', F', A', w, r⟩ := lt_arrow (xs := xs) hL hk W hC hM
    exact ⟨S', F', A', w, fun q hq => hd q (ev_sw (j := 5) rfl rfl (by decide) rfl (r q hq))⟩
  | 6, _ =>
    obtain ⟨S', F', A', w, r⟩ := lt_put (xs := xs) hL hk W hC hM
    exact ⟨S', F', A', w, fun q hq => hd q (ev_sw (j := 6) rfl rfl (by decide) rfl (r q hq))⟩
  | 7, _ =>
    obtain ⟨S', F', A', w, r⟩ := lt_stricter (xs := xs) hL hk W hC hM
    exact ⟨S', F', A', w, fun q hq => hd q (ev_sw (j := 7) rfl rfl (by decide) rfl (r q hq))⟩
  | 8, _ =>
    obtain ⟨S', F', A', w, r⟩ := lt_stays (xs := xs) hL hk W hC hM
    exact ⟨S', F', A', w, fun q hq => hd q (ev_sw (j := 8) rfl rfl (by decide) rfl (r q hq))⟩
  | 9, _ =>
    obtain ⟨S', F', A', w, r⟩ := lt_alike (xs := xs) hL hk W hC hM
    exact ⟨S', F', A', w, fun q hq => hd q (ev_sw (j := 9) rfl rfl (by decide) rfl (r q hq))⟩
  | 10, _ =>
    obtain ⟨S', F', A', w, r⟩ := lt_make (xs := xs) hL hk W hC hM
    exact ⟨S', F', A', w, fun q hq => hd q (ev_sw (j := 10) rfl rfl (by decide) rfl (r q hq))⟩
  | 11, _ =>
    obtain ⟨S', F', A', w, r⟩ := lt_join (xs := xs) hL hk W hC hM
    exact ⟨S', F', A', w, fun q hq => hd q (ev_sw (j := 11) rfl rfl (by decide) rfl (r q hq))⟩
  | 12, _ =>
    obtain ⟨S', F', A', w, r⟩ := lt_value (xs := xs) hL hk W hC hM
    exact ⟨S', F', A', w, fun q hq => hd q (ev_sw (j := 12) rfl rfl (by decide) rfl (r q hq))⟩
  | 13, _ =>
    obtain ⟨S', F', A', w, r⟩ := lt_how (xs := xs) hL hk W hC hM
    exact ⟨S', F', A', w, fun q hq => hd q (ev_sw (j := 13) rfl rfl (by decide) rfl (r q hq))⟩
  | 14, _ =>
    obtain ⟨S', F', A', w, r⟩ := lt_begin (xs := xs) hL hk W hC hM
    exact ⟨S', F', A', w, fun q hq => hd q (ev_sw (j := 14) rfl rfl (by decide) rfl (r q hq))⟩
  | 15, _ =>
    obtain ⟨S', F', A', w, r⟩ := lt_go (xs := xs) hL hk W hC hM
    exact ⟨S', F', A', w, fun q hq => hd q (ev_sw (j := 15) rfl rfl (by decide) rfl (r q hq))⟩
  | 16, _ =>
    obtain ⟨S', F', A', w, r⟩ := lt_walk (xs := xs) hL hk W hC hM
    exact ⟨S', F', A', w, fun q hq => hd q (ev_sw (j := 16) rfl rfl (by decide) rfl (r q hq))⟩
  | 17, _ =>
    obtain ⟨S', F', A', w, r⟩ := lt_count (xs := xs) hL hk W hC hM
    exact ⟨S', F', A', w, fun q hq => hd q (ev_sw (j := 17) rfl rfl (by decide) rfl (r q hq))⟩
  | j + 18, hj => exact ⟨S, F, A, ⟨W, hC, hM⟩, fun q hq => hd q (ev_sw (j := j + 18) rfl rfl (by omega) (if_neg (by show ¬ j + 18 + 1 < 19; omega)) hq)⟩
set_option maxRecDepth 100000 in
theorem lw_loop (hL : L ≤ 3072) : ∀ (m k : Nat) (S : SP) (F A : Nat → Nat → Int32), L < 6 * k + 6 + 6 * m → 6 * k ≤ L + 6 → Wf S → RC F A S → RM F A S → ∃ F' A', ev 80 t_Law_law 18 [.ref 0, .ref 9, .ref 62, .int (nI (6 * k))] [] (hp (L, xs) F A) (some (.int 1), hp (L, xs) F' A') := by
  intro m
  induction m with
  | zero =>
    intro k S F A h1 h2 W hC hM
    refine ⟨F, A, ?_⟩
    repeat (refine ev_np [] rfl rfl rfl ?_)
    refine ev_sn rfl ?_
    repeat (refine ev_np [] rfl rfl rfl ?_)
    refine ev_it ((law_lt hL (by omega)).mpr (by omega)) ?_
    repeat (refine ev_np [] rfl rfl rfl ?_)
    exact ev_rz rfl rfl (Or.inr rfl)
  | succ m ih =>
    intro k S F A h1 h2 W hC hM
    by_cases h6 : L < 6 * k + 6
    · refine ⟨F, A, ?_⟩
      repeat (refine ev_np [] rfl rfl rfl ?_)
      refine ev_sn rfl ?_
      repeat (refine ev_np [] rfl rfl rfl ?_)
      refine ev_it ((law_lt hL (by omega)).mpr (by omega)) ?_
      repeat (refine ev_np [] rfl rfl rfl ?_)
      exact ev_rz rfl rfl (Or.inr rfl)
    · obtain ⟨S', F1, A1, ⟨w, hC1, hM1⟩, r⟩ := lw_turn (xs := xs) (k := k) hL (by omega) W hC hM
      obtain ⟨F2, A2, z⟩ := ih (k + 1) S' F1 A1 (by omega) (by omega) w hC1 hM1
      refine ⟨F2, A2, ?_⟩
      rw [show 6 * (k + 1) = 6 * k + 6 by omega, ← nI_add (6 * k) 6] at z
      repeat (refine ev_np [] rfl rfl rfl ?_)
      refine ev_sn rfl ?_
      repeat (refine ev_np [] rfl rfl rfl ?_)
      refine ev_ie (fun c => h6 ((law_lt hL (by omega)).mp c)) ?_
      refine r _ ?_
      repeat (refine ev_np [18] rfl rfl rfl ?_)
      exact z
theorem sl_hp {L : Nat} (hL : L ≤ 3072) {xs : Nat → Int32} (F A : Nat → Nat → Int32) : xa_sl (hp (L, xs) F A) ≤ 7302250 := by
  have : xa_sl (hp (L, xs) F A) = L + xa_sl ((hp (0, fun _ => 0) (fun _ _ => 0) (fun _ _ => 0)).tail) := rfl
  rw [this]
  have h2 : xa_sl ((hp (0, fun _ => 0) (fun _ _ => 0) (fun _ _ => 0)).tail) ≤ 100000 := by decide +kernel
  omega
set_option maxRecDepth 100000 in
theorem hpure (L : Nat) (xs : Nat → Int32) (hL : L ≤ 3072) : ∃ (d : Nat) (h' : xa_H), 64 * (d + 1) ≤ 84000 ∧ d + 1 ≤ 2048 ∧ ev d t_Law_law 0 [.ref 0, .float 0, .float 0, .float 0] [] (lo_old (L, xs)) (some (.int 1), h') ∧ h'.length ≤ 600000 ∧ xa_sl h' ≤ 7302250 := by
  obtain ⟨F', A', r⟩ := lw_loop (xs := xs) hL 600 0 st0 fld0 arr0 (by omega) (by omega) wf_st0 rc_st0 rm_st0
  refine ⟨80, hp (L, xs) F' A', by decide, by decide, ?_, by rw [hp_len]; decide, sl_hp hL F' A'⟩
  have hn : (lo_old (L, xs)).length = 9 := rfl
  have e : lo_old (L, xs) = lo_old (L, xs) ++ [] := (List.append_nil _).symm
  rw [e]
  refine gv_new hn (m := 0) rfl (by rfl) ?_
  repeat (refine ev_np [] rfl rfl rfl ?_)
  refine gv_ca (m := 0) (by rfl) (ini_MM 77 (gl_len hn (by rfl))) ?_
  repeat (refine ev_np [8] rfl rfl rfl ?_)
  refine gv_new hn (m := 53) rfl (by rfl) ?_
  repeat (refine ev_np [] rfl rfl rfl ?_)
  refine gv_ca (m := 53) (by rfl) (ini_Mo 79 (gl_len hn (by rfl))) ?_
  repeat (refine ev_np [18] rfl rfl rfl ?_)
  refine gv_nm (lo_mk fld0 arr0 9 lo_lay) lay0 ?_
  exact r
end LAWS
