/-! ===== sayings: a machine of signs ===== -/
/-- open ones; signs between; 0 and 1 -/
def cnts : List Nat → Nat
  | [] => 0
  | c :: σ => cnts σ + (if c = 3 ∨ c = 4 then 0 else 1)
def bins : List Nat → Nat
  | [] => 0
  | c :: σ => bins σ + (if c = 3 ∨ c = 4 then 1 else 0)
def nbit : List Nat → Nat
  | [] => 0
  | c :: o => nbit o + (if c ≤ 1 then 1 else 0)
def settle : List Nat → List Nat → List Nat × List Nat
  | [], out => ([], out)
  | c :: σ, out => if c = 3 ∨ c = 4 ∨ c = 11 then (c :: σ, out) else settle σ (out ++ [c])
def popA : List Nat → List Nat → List Nat × List Nat
  | [], out => ([], out)
  | c :: σ, out => if c = 3 then popA σ (out ++ [c]) else (c :: σ, out)
def popO : List Nat → List Nat → List Nat × List Nat
  | [], out => ([], out)
  | c :: σ, out => if c = 3 ∨ c = 4 then popO σ (out ++ [c]) else (c :: σ, out)
def popP : List Nat → List Nat → List Nat × List Nat
  | [], out => ([], out)
  | c :: σ, out => if c = 11 then (σ, out) else popP σ (out ++ [c])
/-- token, signs, what is put, whether a unit is wanted -/
abbrev MSt : Type := Nat × List Nat × List Nat × Bool
def mar (T : Nat) (t : Nat → Nat) (i : Nat) (σ out : List Nat) (c k : Nat) : MSt ⊕ Nat :=
  if tki T t (i + 1) = 3 then (if tki T t (i + 2) = c then .inl (i + 3, (k + two T t (i + 1)) :: σ, out, true) else .inr (i + 2)) else .inr (i + 1)
def mst1 (T : Nat) (t : Nat → Nat) (i : Nat) (σ out : List Nat) : MSt ⊕ Nat :=
  if tki T t i = 2 ∧ two T t i < 2 ∧ nbit out < 24 then .inl (i + 1, (settle σ (out ++ [two T t i])).1, (settle σ (out ++ [two T t i])).2, false)
  else if cnts σ = 10 then .inr i
  else if tki T t i = 33 then .inl (i + 1, 2 :: σ, out, true)
  else if tki T t i = 40 then .inl (i + 1, 11 :: σ, out, true)
  else if tki T t i = 60 then mar T t i σ out 62 5
  else if tki T t i = 91 then mar T t i σ out 93 8
  else .inr i
def mst0 (T : Nat) (t : Nat → Nat) (i : Nat) (σ out : List Nat) : MSt ⊕ Nat :=
  if tki T t i = 0 ∧ 11 ∉ σ then .inl (i, σ, out, false)
  else if tki T t i = 38 then .inl (i + 1, 3 :: (popA σ out).1, (popA σ out).2, true)
  else if tki T t i = 124 then .inl (i + 1, 4 :: (popO σ out).1, (popO σ out).2, true)
  else if tki T t i = 41 ∧ 11 ∈ σ then .inl (i + 1, (settle (popP σ out).1 (popP σ out).2).1, (settle (popP σ out).1 (popP σ out).2).2, false)
  else .inr i
def mstep (T : Nat) (t : Nat → Nat) (s : MSt) : MSt ⊕ Nat := bif s.2.2.2 then mst1 T t s.1 s.2.1 s.2.2.1 else mst0 T t s.1 s.2.1 s.2.2.1
/-- it comes to a state; it comes to a fault -/
def Rch (T : Nat) (t : Nat → Nat) (s s' : MSt) : Prop := ∀ P : MSt → Prop, P s' → (∀ a b, mstep T t a = .inl b → P b → P a) → P s
def Flt (T : Nat) (t : Nat → Nat) (s : MSt) (f : Nat) : Prop := ∀ P : MSt → Prop, (∀ a, mstep T t a = .inr f → P a) → (∀ a b, mstep T t a = .inl b → P b → P a) → P s
/-- how many values lie on the stack -/
def hrun : Nat → List Nat → Option Nat
  | h, [] => some h
  | h, c :: cs => if c ≤ 1 then hrun (h + 1) cs else if c = 3 ∨ c = 4 then (if 2 ≤ h then hrun (h - 1) cs else none) else if c ≤ 10 then (if 1 ≤ h then hrun h cs else none) else none
section SSP
variable {T : Nat} {t : Nat → Nat}
theorem Rch.rf (s : MSt) : Rch T t s s := fun _ h _ => h
theorem Rch.tr {a b c : MSt} (h : Rch T t a b) (g : Rch T t b c) : Rch T t a c := fun P hc hs => h P (g P hc hs) hs
theorem Rch.st {a b c : MSt} (h : mstep T t a = .inl b) (g : Rch T t b c) : Rch T t a c := fun P hc hs => hs a b h (g P hc hs)
theorem Rch.flt {a b : MSt} {f : Nat} (h : Rch T t a b) (g : Flt T t b f) : Flt T t a f := fun P hc hs => h P (g P hc hs) hs
theorem Flt.st {a b : MSt} {f : Nat} (h : mstep T t a = .inl b) (g : Flt T t b f) : Flt T t a f := fun P hc hs => hs a b h (g P hc hs)
theorem Flt.at {a : MSt} {f : Nat} (h : mstep T t a = .inr f) : Flt T t a f := fun _ hc _ => hc a h
theorem hrun_app : ∀ (a b : List Nat) (h : Nat), hrun h (a ++ b) = (hrun h a).bind (fun k => hrun k b) := by
  intro a
  induction a with
  | nil => intro b h; rfl
  | cons c a ih =>
    intro b h
    show hrun h (c :: (a ++ b)) = _
    simp only [hrun]
    split
    · exact ih b (h + 1)
    · split
      · split
        · exact ih b (h - 1)
        · rfl
      · split
        · split
          · exact ih b h
          · rfl
        · rfl
theorem nbit_app (a : List Nat) (c : Nat) : nbit (a ++ [c]) = nbit a + (if c ≤ 1 then 1 else 0) := by
  induction a with
  | nil => rfl
  | cons x a ih =>
    show nbit (x :: (a ++ [c])) = _
    simp only [nbit]
    rw [ih]
    omega
/-- signs that stop prefixes -/
def hd1 (σ : List Nat) : Prop := match σ with
  | [] => True
  | c :: _ => c = 4 ∨ c = 11
def hd2 (σ : List Nat) : Prop := match σ with
  | [] => True
  | c :: _ => c = 11
theorem hd2.w {σ : List Nat} (h : hd2 σ) : hd1 σ := by
  cases σ with
  | nil => trivial
  | cons c σ => exact Or.inr h
theorem settle1 {σ : List Nat} (h : hd1 σ) (out : List Nat) : settle σ out = (σ, out) := by
  cases σ with
  | nil => rfl
  | cons c σ =>
    have h : c = 4 ∨ c = 11 := h
    simp only [settle]
    rw [if_pos (by omega)]
theorem settle3 (σ out : List Nat) : settle (3 :: σ) out = (3 :: σ, out) := rfl
theorem settleP {c : Nat} (h : c = 2 ∨ (5 ≤ c ∧ c ≤ 10)) (σ out : List Nat) : settle (c :: σ) out = settle σ (out ++ [c]) := by
  simp only [settle]
  rw [if_neg (by omega)]
theorem popA1 {σ : List Nat} (h : hd1 σ) (out : List Nat) : popA σ out = (σ, out) := by
  cases σ with
  | nil => rfl
  | cons c σ =>
    have h : c = 4 ∨ c = 11 := h
    simp only [popA]
    rw [if_neg (by omega)]
theorem popO2 {σ : List Nat} (h : hd2 σ) (out : List Nat) : popO σ out = (σ, out) := by
  cases σ with
  | nil => rfl
  | cons c σ =>
    have h : c = 11 := h
    simp only [popO]
    rw [if_neg (by omega)]
/-- what waits: signs that the class has put already -/
def relA (τ out2 out : List Nat) : Prop := (τ = [] ∧ out2 = out) ∨ (τ = [3] ∧ out = out2 ++ [3])
def relO (τ out2 out : List Nat) : Prop := (τ = [] ∧ out2 = out) ∨ (τ = [3] ∧ out = out2 ++ [3]) ∨ (τ = [4] ∧ out = out2 ++ [4]) ∨ (τ = [3, 4] ∧ out = out2 ++ [3] ++ [4])
theorem relA.o {τ out2 out : List Nat} (h : relA τ out2 out) : relO τ out2 out := by
  rcases h with h | h
  · exact Or.inl h
  · exact Or.inr (Or.inl h)
theorem relA.o4 {τ out2 out : List Nat} (h : relA τ out2 out) : relO (τ ++ [4]) out2 (out ++ [4]) := by
  rcases h with ⟨rfl, rfl⟩ | ⟨rfl, rfl⟩
  · exact Or.inr (Or.inr (Or.inl ⟨rfl, rfl⟩))
  · exact Or.inr (Or.inr (Or.inr ⟨rfl, rfl⟩))
theorem relA.pop {τ out2 out σ : List Nat} (h : relA τ out2 out) (hd : hd1 σ) : popA (τ ++ σ) out2 = (σ, out) := by
  rcases h with ⟨rfl, rfl⟩ | ⟨rfl, rfl⟩
  · exact popA1 hd _
  · exact popA1 hd _
theorem relO.pop {τ out2 out σ : List Nat} (h : relO τ out2 out) (hd : hd2 σ) : popO (τ ++ σ) out2 = (σ, out) := by
  rcases h with ⟨rfl, rfl⟩ | ⟨rfl, rfl⟩ | ⟨rfl, rfl⟩ | ⟨rfl, rfl⟩ <;> exact popO2 hd _
theorem relO.par {τ out2 out σ : List Nat} (h : relO τ out2 out) : popP (τ ++ 11 :: σ) out2 = (σ, out) := by
  rcases h with ⟨rfl, rfl⟩ | ⟨rfl, rfl⟩ | ⟨rfl, rfl⟩ | ⟨rfl, rfl⟩ <;> rfl
theorem relO.no {τ out2 out : List Nat} (h : relO τ out2 out) : 11 ∉ τ := by
  rcases h with ⟨rfl, -⟩ | ⟨rfl, -⟩ | ⟨rfl, -⟩ | ⟨rfl, -⟩ <;> decide
end SSP
/-! ===== class Saying: a step more ===== -/
def CY (F A : Nat → Nat → Int32) (out : List Nat) : Prop := F 42 1 = nI out.length ∧ F 42 2 = nI (nbit out) ∧ ∀ k, k < out.length → A 43 k = nI (out.getD k 0)
section SAD
variable {Y : Nat × (Nat → Int32)} {F A : Nat → Nat → Int32} (d : Nat)
theorem CY.frame {F' A' : Nat → Nat → Int32} {out : List Nat} (h : CY F A out) (h1 : F' 42 1 = F 42 1) (h2 : F' 42 2 = F 42 2) (h3 : A' 43 = A 43) : CY F' A' out := ⟨h1.trans h.1, h2.trans h.2.1, by rw [h3]; exact h.2.2⟩
theorem getD_app {a : List Nat} {c k : Nat} : (a ++ [c]).getD k 0 = if k < a.length then a.getD k 0 else if k = a.length then c else 0 := by
  by_cases h : k < a.length
  · rw [if_pos h, List.getD_eq_getElem?_getD, List.getElem?_append_left h, ← List.getD_eq_getElem?_getD]
  · rw [if_neg h, List.getD_eq_getElem?_getD, List.getElem?_append_right (by omega)]
    by_cases e : k = a.length
    · rw [if_pos e, e]
      simp
    · rw [if_neg e, List.getElem?_eq_none (by simp; omega)]
      rfl
theorem c_Saying_add {out : List Nat} {c : Nat} (h : CY F A out) (hl : out.length < 300) (hb : nbit out ≤ 1000) (hc : c < 1000) : ∃ F' A', xa_rn xa_ms (d + 1) n_Saying_add [.ref 42, .int (nI c)] (hp Y F A) none (hp Y F' A') ∧ sA [43] A A' ∧ sF [4201, 4202] F F' ∧ CY F' A' (out ++ [c]) := by
  obtain ⟨h1, h2, h3⟩ := h
  obtain ⟨e, he⟩ : ∃ e, e = if c ≤ 1 then 1 else 0 := ⟨_, rfl⟩
  refine ⟨uF (uF F 42 1 (nI (out.length + 1))) 42 2 (nI (nbit out + e)), va_up A 43 (upd (A 43) out.length (nI c)), ?_, sA.up (by decide), (sF.up (by decide)).tr (sF.up (by decide)), by rw [uF_n _ _ (by decide), uF_s, List.length_append]; rfl, by rw [uF_s, nbit_app, he], fun k hk => ?_⟩
  · have tail : ∀ x : Int32, x = nI e → ev d t_Saying_add 49 [.ref 42, .int (nI c)] [.int x, .int (nI (nbit out)), .ref 42] (hp Y (uF F 42 1 (nI (out.length + 1))) (va_up A 43 (upd (A 43) out.length (nI c)))) (none, hp Y (uF (uF F 42 1 (nI (out.length + 1))) 42 2 (nI (nbit out + e))) (va_up A 43 (upd (A 43) out.length (nI c)))) := by
      intro x hx
      rw [hx]
      repeat (refine ev_np [] rfl rfl rfl ?_)
      rw [nI_add]
      refine ev_pf rfl (by rfl) ⟨by rfl, by rfl⟩ ?_
      exact ev_rv rfl
    refine rn_in m_Saying_add rfl ⟨rfl, rfl⟩ ?_
    show ev _ t_Saying_add 0 [.ref 42, .int (nI c)] [] _ _
    repeat (refine ev_np [] rfl rfl rfl ?_)
    refine ev_gi rfl (by rfl) (by rfl) ?_
    rw [h1]
    repeat (refine ev_np [] rfl rfl rfl ?_)
    refine ev_ie (nI_ge (b := 300) hl (by omega)) ?_
    repeat (first | refine ev_np [] rfl rfl rfl ?_ | refine ev_grs [] rfl rfl (by rfl) (by rfl) ?_)
    refine ev_gi rfl (by rfl) (by rfl) ?_
    rw [h1]
    repeat (refine ev_np [] rfl rfl rfl ?_)
    refine ev_am rfl (by rfl) rfl hl rfl ?_
    repeat (refine ev_np [] rfl rfl rfl ?_)
    refine ev_gi rfl (by rfl) (by rfl) ?_
    rw [h1]
    repeat (refine ev_np [] rfl rfl rfl ?_)
    rw [nI_1]
    refine ev_pf rfl (by rfl) ⟨by rfl, by rfl⟩ ?_
    repeat (refine ev_np [] rfl rfl rfl ?_)
    refine ev_gi rfl (by rfl) (by rfl) ?_
    rw [uF_n _ _ (by decide), h2]
    repeat (refine ev_np [] rfl rfl rfl ?_)
    by_cases e0 : c = 0
    · refine ev_it (by rw [e0]; rfl) ?_
      repeat (refine ev_np [49] rfl rfl rfl ?_)
      exact tail 1 (by rw [he, if_pos (by omega)]; rfl)
    · refine ev_ie (fun z => e0 ((nI_eq (b := 0) (by omega) (by omega)).mp z)) ?_
      repeat (refine ev_np [] rfl rfl rfl ?_)
      by_cases e1 : c = 1
      · refine ev_ie (fun z => z (by rw [e1]; rfl)) ?_
        repeat (refine ev_np [49] rfl rfl rfl ?_)
        exact tail 1 (by rw [he, if_pos (by omega)]; rfl)
      · refine ev_it (fun z => e1 ((nI_eq (b := 1) (by omega) (by omega)).mp z)) ?_
        repeat (refine ev_np [49] rfl rfl rfl ?_)
        exact tail 0 (by rw [he, if_neg (by omega)]; rfl)
  · rw [va_up_s, getD_app]
    unfold upd
    rw [List.length_append] at hk
    by_cases e : k < out.length
    · rw [if_neg (by omega), if_pos e]
      exact h3 k e
    · have ek : k = out.length := by simp at hk; omega
      rw [if_pos ek, if_neg e, if_pos ek]
theorem c_Saying_bits {out : List Nat} (h : CY F A out) : xa_rn xa_ms (d + 1) n_Saying_bits [.ref 42] (hp Y F A) (some (.int (nI (nbit out)))) (hp Y F A) := by
  refine rn_in m_Saying_bits rfl ⟨rfl, rfl⟩ ?_
  show ev _ t_Saying_bits 0 [.ref 42] [] _ _
  repeat (refine ev_np [] rfl rfl rfl ?_)
  refine ev_gi rfl (by rfl) (by rfl) ?_
  exact ev_ri rfl h.2.1
theorem c_Saying_reset : ∃ F', xa_rn xa_ms (d + 1) n_Saying_reset [.ref 42] (hp Y F A) none (hp Y F' A) ∧ sF [4201, 4202] F F' ∧ CY F' A [] := by
  refine ⟨uF (uF F 42 1 0) 42 2 0, ?_, (sF.up (by decide)).tr (sF.up (by decide)), by rw [uF_n _ _ (by decide), uF_s]; exact nI_0.symm, by rw [uF_s]; exact nI_0.symm, fun k hk => absurd hk (Nat.not_lt_zero k)⟩
  refine rn_in m_Saying_reset rfl ⟨rfl, rfl⟩ ?_
  show ev _ t_Saying_reset 0 [.ref 42] [] _ _
  repeat (refine ev_np [] rfl rfl rfl ?_)
  refine ev_pf rfl (by rfl) ⟨by rfl, by rfl⟩ ?_
  repeat (refine ev_np [] rfl rfl rfl ?_)
  refine ev_pf rfl (by rfl) ⟨by rfl, by rfl⟩ ?_
  exact ev_rv rfl
end SAD
