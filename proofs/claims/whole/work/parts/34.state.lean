/-! ===== the state of both, and what each call makes of it ===== -/
abbrev PLN : Type := Nat × (Nat → Nat → Nat → Nat)
/-- text (length, bytes), plans, saying (steps, bits, codes), walk (plan, states, letters gone) -/
abbrev SP : Type := (Nat × (Nat → Nat)) × (Nat → PLN) × (Nat × Nat × (Nat → Nat)) × (PLN × (Nat → Bool) × Nat)
def enc (c : Nat) : Nat := match c with
  | 0 => 0
  | 1 => 1
  | 2 => 33
  | 3 => 38
  | 4 => 124
  | 5 => 300
  | 6 => 301
  | 7 => 302
  | 8 => 310
  | 9 => 311
  | _ => 312
/-- a saying is sound: how many values lie on the stack before step k -/
def hgt (cs : Nat → Nat) : Nat → Nat
  | 0 => 0
  | k + 1 => if cs k ≤ 1 then hgt cs k + 1 else if cs k = 3 ∨ cs k = 4 then hgt cs k - 1 else hgt cs k
def WS (s : Nat × Nat × (Nat → Nat)) : Prop := (1 ≤ s.1 ∧ s.1 ≤ 300) ∧ s.2.1 ≤ 24 ∧ (∀ k, k < s.1 → s.2.2 k ≤ 10 ∧ (2 ≤ s.2.2 k → 1 ≤ hgt s.2.2 k) ∧ (s.2.2 k = 3 ∨ s.2.2 k = 4 → 2 ≤ hgt s.2.2 k) ∧ (s.2.2 k ≤ 1 → hgt s.2.2 k < 24)) ∧ hgt s.2.2 s.1 = 1
def Wf (S : SP) : Prop := (S.1.1 ≤ 300 ∧ ∀ j, S.1.2 j < 256) ∧ (∀ i, i < 6 → GW (S.2.1 i).1 (S.2.1 i).2) ∧ WS S.2.2.1 ∧ (GW S.2.2.2.1.1 S.2.2.2.1.2 ∧ (∀ s, s < 6 → S.2.2.2.2.1 s = true → s < S.2.2.2.1.1) ∧ S.2.2.2.2.2 ≤ 200)
def RC (F A : Nat → Nat → Int32) (S : SP) : Prop := (F 32 1 = nI S.1.1 ∧ ∀ j, j < S.1.1 → A 33 j = nI (S.1.2 j)) ∧ (∀ i, i < 6 → CP F A (11 + 3 * i) (S.2.1 i).1 (S.2.1 i).2) ∧ (F 39 1 = nI S.2.2.1.1 ∧ F 39 2 = nI S.2.2.1.2.1 ∧ ∀ k, k < S.2.2.1.1 → A 40 k = nI (S.2.2.1.2.2 k)) ∧ (CP F A 59 S.2.2.2.1.1 S.2.2.2.1.2 ∧ F 58 1 = nI (bm S.2.2.2.2.1) ∧ F 58 2 = nI S.2.2.2.2.2)
def RM (F A : Nat → Nat → Int32) (S : SP) : Prop := (F 62 4 = nI S.1.1 ∧ ∀ j, j < S.1.1 → A 65 j = nI (S.1.2 j)) ∧ (∀ i, i < 6 → MP A i (S.2.1 i).1 (S.2.1 i).2) ∧ (F 62 12 = nI S.2.2.1.1 ∧ F 62 14 = nI S.2.2.1.2.1 ∧ ∀ k, k < S.2.2.1.1 → A 66 k = nI (enc (S.2.2.1.2.2 k))) ∧ (MP A 7 S.2.2.2.1.1 S.2.2.2.1.2 ∧ F 62 23 = nI (bm S.2.2.2.2.1) ∧ F 62 24 = nI S.2.2.2.2.2)
def KM (F A F' A' : Nat → Nat → Int32) : Prop := ∀ o, 62 ≤ o → A' o = A o ∧ F' o = F o
def KC (F A F' A' : Nat → Nat → Int32) : Prop := ∀ o, o < 62 → A' o = A o ∧ F' o = F o
theorem KM.rm {F A F' A' : Nat → Nat → Int32} {S : SP} (h : KM F A F' A') (hM : RM F A S) : RM F' A' S := by
  obtain ⟨⟨a1, a2⟩, b, ⟨c1, c2, c3⟩, d1, d2, d3⟩ := hM
  have f := (h 62 (by decide)).2
  refine ⟨⟨by rw [f]; exact a1, by rw [(h 65 (by decide)).1]; exact a2⟩, fun i hi => (b i hi).frame (h 63 (by decide)).1 (h 64 (by decide)).1, ⟨by rw [f]; exact c1, by rw [f]; exact c2, by rw [(h 66 (by decide)).1]; exact c3⟩, d1.frame (h 63 (by decide)).1 (h 64 (by decide)).1, by rw [f]; exact d2, by rw [f]; exact d3⟩
theorem KC.rc {F A F' A' : Nat → Nat → Int32} {S : SP} (h : KC F A F' A') (hC : RC F A S) : RC F' A' S := by
  obtain ⟨⟨a1, a2⟩, b, ⟨c1, c2, c3⟩, d1, d2, d3⟩ := hC
  refine ⟨⟨by rw [(h 32 (by decide)).2]; exact a1, by rw [(h 33 (by decide)).1]; exact a2⟩, fun i hi => (b i hi).frame (by rw [(h (11 + 3 * i) (by omega)).2]) (h _ (by omega)).1 (h _ (by omega)).1, ⟨by rw [(h 39 (by decide)).2]; exact c1, by rw [(h 39 (by decide)).2]; exact c2, by rw [(h 40 (by decide)).1]; exact c3⟩, d1.frame (by rw [(h 59 (by decide)).2]) (h _ (by decide)).1 (h _ (by decide)).1, by rw [(h 58 (by decide)).2]; exact d2, by rw [(h 58 (by decide)).2]; exact d3⟩
theorem KM.of {F A F' A' : Nat → Nat → Int32} {LF LA : List Nat} (hF : sF LF F F') (hA : sA LA A A') (hk : (LF.all fun x => Nat.blt x 6200) = true ∧ (LA.all fun x => Nat.blt x 62) = true) : KM F A F' A' := by
  intro o ho
  refine ⟨hA o (fun z => ?_), ?_⟩
  · have := List.all_eq_true.mp hk.2 o z
    have := Nat.le_of_ble_eq_true this
    omega
  · funext k
    refine hF o k (fun z => ?_)
    have := List.all_eq_true.mp hk.1 _ z
    have := Nat.le_of_ble_eq_true this
    omega
theorem KC.of {F A F' A' : Nat → Nat → Int32} {LF LA : List Nat} (hF : sF LF F F') (hA : sA LA A A') (hk : (LF.all fun x => Nat.ble 6200 x && Nat.blt x 6300) = true ∧ (LA.all fun x => Nat.ble 62 x) = true) (hF2 : ∀ o, o < 62 → ∀ k, 100 ≤ k → F' o k = F o k) : KC F A F' A' := by
  intro o ho
  refine ⟨hA o (fun z => ?_), ?_⟩
  · have := List.all_eq_true.mp hk.2 o z
    have := Nat.le_of_ble_eq_true this
    omega
  · funext k
    by_cases hk9 : k < 100
    · refine hF o k (fun z => ?_)
      have := List.all_eq_true.mp hk.1 _ z
      rw [Bool.and_eq_true] at this
      have := Nat.le_of_ble_eq_true this.1
      omega
    · exact hF2 o ho k (by omega)
theorem KM.rf {F A : Nat → Nat → Int32} : KM F A F A := fun _ _ => ⟨rfl, rfl⟩
theorem KC.rf {F A : Nat → Nat → Int32} : KC F A F A := fun _ _ => ⟨rfl, rfl⟩
theorem KC.tr {F A F' A' F2 A2 : Nat → Nat → Int32} (h : KC F A F' A') (g : KC F' A' F2 A2) : KC F A F2 A2 := fun o ho => ⟨(g o ho).1.trans (h o ho).1, (g o ho).2.trans (h o ho).2⟩
theorem KM.tr {F A F' A' F2 A2 : Nat → Nat → Int32} (h : KM F A F' A') (g : KM F' A' F2 A2) : KM F A F2 A2 := fun o ho => ⟨(g o ho).1.trans (h o ho).1, (g o ho).2.trans (h o ho).2⟩
theorem KC.fld (F A : Nat → Nat → Int32) (k : Nat) (v : Int32) : KC F A (uF F 62 k v) A := fun o ho => ⟨rfl, by unfold uF; exact va_up_n _ _ (by omega)⟩
theorem KC.upA (F A : Nat → Nat → Int32) {o : Nat} (h : 62 ≤ o) (g : Nat → Int32) : KC F A F (va_up A o g) := fun x hx => ⟨va_up_n _ _ (by omega), rfl⟩
theorem KC.sA {F A A' : Nat → Nat → Int32} {L : List Nat} (h : sA L A A') (hk : (L.all fun x => Nat.ble 62 x) = true) : KC F A F A' := fun o ho => ⟨h o (fun z => by have := Nat.le_of_ble_eq_true (List.all_eq_true.mp hk o z); omega), rfl⟩
/-- the model's first write: thrown -/
theorem RM.thrown {F A : Nat → Nat → Int32} {S : SP} (h : RM F A S) (v : Int32) : RM (uF F 62 0 v) A S := by
  obtain ⟨⟨a1, a2⟩, b, ⟨c1, c2, c3⟩, d1, d2, d3⟩ := h
  exact ⟨⟨by rw [uF_n _ _ (by decide)]; exact a1, a2⟩, b, ⟨by rw [uF_n _ _ (by decide)]; exact c1, by rw [uF_n _ _ (by decide)]; exact c2, c3⟩, d1, by rw [uF_n _ _ (by decide)]; exact d2, by rw [uF_n _ _ (by decide)]; exact d3⟩
section ROWS
variable {Y : Nat × (Nat → Int32)} {F A : Nat → Nat → Int32} {d : Nat} {tb : List xa_I} {pc : Nat} {ls r : List Value} {q : xa_R}
/-- a plan out of the array of plans -/
theorem ev_aa {len i : Nat} {l : List Nat} {cv : Int32} (hi : xa_lk tb pc = some (.aaload, len, l, cv)) (h6 : i < 6) (kk : ev d tb (pc + len) ls (.ref (11 + 3 * i) :: r) (hp Y F A) q) : ev d tb pc ls (.int (nI i) :: .ref 10 :: r) (hp Y F A) q := by
  refine ev_nx (?_ : xa_one tb pc ls (.int (nI i) :: .ref 10 :: r) (hp Y F A) = some (.inl (pc + len, ls, .ref (11 + 3 * i) :: r, hp Y F A))) kk
  unfold xa_one
  rw [hi]
  show xa_aald (pc + len) ls (.int (nI i) :: .ref 10 :: r) (hp Y F A) = _
  unfold xa_aald
  have h10 : (hp Y F A)[10]? = some (.inr (50, [.ref 11, .ref 14, .ref 17, .ref 20, .ref 23, .ref 26])) := hp_get (o := 10) (by rfl)
  simp only [h10, nI_clamp (show i < 2 ^ 31 by omega)]
  rw [if_pos ⟨trivial, nI_pos (by omega)⟩]
  match i, h6 with
  | 0, _ => rfl
  | 1, _ => rfl
  | 2, _ => rfl
  | 3, _ => rfl
  | 4, _ => rfl
  | 5, _ => rfl
  | i + 6, h => omega
end ROWS
theorem PLi {i : Nat} (h : i < 6) : PL (11 + 3 * i) := PL_mk (by omega)
section PUB
variable {Y : Nat × (Nat → Int32)} {F A : Nat → Nat → Int32} {S : SP} (d : Nat)
theorem c_MM_noPlanT {x : Int32} (h : x < 0 ∨ 6 ≤ x) {h0 : xa_H} : xa_rn xa_ms (d + 1) n_MM_noPlan [.int x] h0 (some (.int 1)) h0 := by
  refine rn_in m_MM_noPlan rfl ⟨rfl, rfl⟩ ?_
  show ev _ t_MM_noPlan 0 [.int x] [] _ _
  repeat (refine ev_np [] rfl rfl rfl ?_)
  refine ev_if (fun c => ?_) (fun c => ?_)
  · repeat (refine ev_np [] rfl rfl rfl ?_)
    exact ev_rz rfl rfl (Or.inr rfl)
  · repeat (refine ev_np [] rfl rfl rfl ?_)
    refine ev_ie (fun z => ?_) ?_
    · rcases h with h | h
      · exact c h
      · exact absurd h (Int32.not_le.mpr z)
    repeat (refine ev_np [] rfl rfl rfl ?_)
    exact ev_rz rfl rfl (Or.inr rfl)
theorem c_MM_noPlanF {i : Nat} (h : i < 6) {h0 : xa_H} : xa_rn xa_ms (d + 1) n_MM_noPlan [.int (nI i)] h0 (some (.int 0)) h0 := by
  refine rn_in m_MM_noPlan rfl ⟨rfl, rfl⟩ ?_
  show ev _ t_MM_noPlan 0 [.int (nI i)] [] _ _
  repeat (refine ev_np [] rfl rfl rfl ?_)
  refine ev_ie (nI_pos (by omega)) ?_
  repeat (refine ev_np [] rfl rfl rfl ?_)
  refine ev_it (nI_lt (b := 6) h (by omega)) ?_
  repeat (refine ev_np [] rfl rfl rfl ?_)
  exact ev_rz rfl rfl (Or.inl rfl)
theorem c_MM_noLetterT {x : Int32} (h : x < 0 ∨ 3 ≤ x) {h0 : xa_H} : xa_rn xa_ms (d + 1) n_MM_noLetter [.int x] h0 (some (.int 1)) h0 := by
  refine rn_in m_MM_noLetter rfl ⟨rfl, rfl⟩ ?_
  show ev _ t_MM_noLetter 0 [.int x] [] _ _
  repeat (refine ev_np [] rfl rfl rfl ?_)
  refine ev_if (fun c => ?_) (fun c => ?_)
  · repeat (refine ev_np [] rfl rfl rfl ?_)
    exact ev_rz rfl rfl (Or.inr rfl)
  · repeat (refine ev_np [] rfl rfl rfl ?_)
    refine ev_ie (fun z => ?_) ?_
    · rcases h with h | h
      · exact c h
      · exact absurd h (Int32.not_le.mpr z)
    repeat (refine ev_np [] rfl rfl rfl ?_)
    exact ev_rz rfl rfl (Or.inr rfl)
theorem c_MM_noLetterF {i : Nat} (h : i < 3) {h0 : xa_H} : xa_rn xa_ms (d + 1) n_MM_noLetter [.int (nI i)] h0 (some (.int 0)) h0 := by
  refine rn_in m_MM_noLetter rfl ⟨rfl, rfl⟩ ?_
  show ev _ t_MM_noLetter 0 [.int (nI i)] [] _ _
  repeat (refine ev_np [] rfl rfl rfl ?_)
  refine ev_ie (nI_pos (by omega)) ?_
  repeat (refine ev_np [] rfl rfl rfl ?_)
  refine ev_it (nI_lt (b := 3) h (by omega)) ?_
  repeat (refine ev_np [] rfl rfl rfl ?_)
  exact ev_rz rfl rfl (Or.inl rfl)
theorem c_Mo_in (x a b : Int32) {h0 : xa_H} : xa_rn xa_ms (d + 1) n_Mo_in [.int x, .int a, .int b] h0 (some (.int (z01 (decide (¬ x < a) && decide (¬ b < x))))) h0 := by
  refine rn_in m_Mo_in rfl ⟨rfl, rfl⟩ ?_
  show ev _ t_Mo_in 0 [.int x, .int a, .int b] [] _ _
  repeat (refine ev_np [] rfl rfl rfl ?_)
  refine ev_if (fun c => ?_) (fun c => ?_)
  · have c : x < a := c
    repeat (refine ev_np [] rfl rfl rfl ?_)
    exact ev_rz rfl (by simp [c, z01]) (z01_b _)
  · have c : ¬ x < a := c
    repeat (refine ev_np [] rfl rfl rfl ?_)
    refine ev_if (fun c2 => ?_) (fun c2 => ?_)
    · have c2 : b < x := c2
      repeat (refine ev_np [] rfl rfl rfl ?_)
      exact ev_rz rfl (by simp [c2, z01]) (z01_b _)
    · have c2 : ¬ b < x := c2
      repeat (refine ev_np [] rfl rfl rfl ?_)
      exact ev_rz rfl (by simp [c, c2, z01]) (z01_b _)
theorem in_T {x : Int32} {N : Nat} (hN : N < 1000) (h : x < 0 ∨ nI (N + 1) ≤ x) : (decide (¬ x < 0) && decide (¬ nI N < x)) = false := by
  rcases h with h | h
  · simp [h]
  · have : nI N < x := by
      rw [Int32.lt_iff_toInt_lt, nI_toInt (by omega)]
      rw [Int32.le_iff_toInt_le, nI_toInt (by omega)] at h
      omega
    simp [this]
theorem in_F {i N : Nat} (h : i ≤ N) (hN : N < 1000) : (decide (¬ nI i < 0) && decide (¬ nI N < nI i)) = true := by
  simp [nI_pos (show i < 2 ^ 31 by omega), nI_nlt h (by omega)]
theorem c_Mo_isPlanF {x : Int32} (h : x < 0 ∨ 6 ≤ x) {h0 : xa_H} : xa_rn xa_ms (d + 2) n_Mo_isPlan [.int x] h0 (some (.int 0)) h0 := by
  refine rn_in m_Mo_isPlan rfl ⟨rfl, rfl⟩ ?_
  show ev _ t_Mo_isPlan 0 [.int x] [] _ _
  repeat (refine ev_np [] rfl rfl rfl ?_)
  refine ev_ca rfl (c_Mo_in d x 0 5) ?_
  have e := in_T (N := 5) (by decide) h
  exact ev_rz rfl (congrArg z01 e) (Or.inl rfl)
theorem c_Mo_isPlanT {i : Nat} (h : i < 6) {h0 : xa_H} : xa_rn xa_ms (d + 2) n_Mo_isPlan [.int (nI i)] h0 (some (.int 1)) h0 := by
  refine rn_in m_Mo_isPlan rfl ⟨rfl, rfl⟩ ?_
  show ev _ t_Mo_isPlan 0 [.int (nI i)] [] _ _
  repeat (refine ev_np [] rfl rfl rfl ?_)
  refine ev_ca rfl (c_Mo_in d (nI i) 0 5) ?_
  have e := in_F (i := i) (N := 5) (by omega) (by decide)
  exact ev_rz rfl (congrArg z01 e) (Or.inr rfl)
end PUB
