/-! ===== the machine of signs keeps its bounds ===== -/
def popX (o : Bool) : List Nat → List Nat → List Nat × List Nat
  | [], out => ([], out)
  | c :: σ, out => if c = 3 ∨ (c = 4 ∧ o = true) then popX o σ (out ++ [c]) else (c :: σ, out)
theorem popX_A : ∀ σ out, popX false σ out = popA σ out := by
  intro σ
  induction σ with
  | nil => intro out; rfl
  | cons c σ ih => intro out; simp only [popX, popA]; rw [ih]; simp
theorem popX_O : ∀ σ out, popX true σ out = popO σ out := by
  intro σ
  induction σ with
  | nil => intro out; rfl
  | cons c σ ih => intro out; simp only [popX, popO]; rw [ih]; simp
def PFX (σ out σ' out' : List Nat) : Prop := out'.length + σ'.length = out.length + σ.length ∧ nbit out' = nbit out ∧ (∀ c, c ∈ σ' → c ∈ σ) ∧ (oks σ → oks σ') ∧ bins σ' ≤ bins σ
theorem PFX.rf (σ out : List Nat) : PFX σ out σ out := ⟨rfl, rfl, fun _ h => h, fun h => h, Nat.le_refl _⟩
theorem PFX.st {c : Nat} {σ out σ' out' : List Nat} (hc : 2 ≤ c) (h : PFX σ (out ++ [c]) σ' out') : PFX (c :: σ) out σ' out' := by
  obtain ⟨h1, h2, h3, h4, h5⟩ := h
  refine ⟨by simp at h1 ⊢; omega, by rw [h2, nbit_app, if_neg (by omega)]; rfl, fun x hx => by simp [h3 x hx], fun hk => h4 hk.2, ?_⟩
  simp only [bins]
  omega
theorem settle_f : ∀ (σ out : List Nat), (∀ c, c ∈ σ → 2 ≤ c ∧ c ≤ 11) → PFX σ out (settle σ out).1 (settle σ out).2 ∧ cnts (settle σ out).1 ≤ cnts σ ∧ nopre (settle σ out).1 ∧ out.length ≤ (settle σ out).2.length := by
  intro σ
  induction σ with
  | nil => intro out _; exact ⟨PFX.rf _ _, Nat.le_refl _, trivial, Nat.le_refl _⟩
  | cons c σ ih =>
    intro out hc
    simp only [settle]
    split
    · rename_i e
      exact ⟨PFX.rf _ _, Nat.le_refl _, e, Nat.le_refl _⟩
    · rename_i e
      obtain ⟨h1, h2, h3, h4⟩ := ih (out ++ [c]) (fun x hx => hc x (by simp [hx]))
      refine ⟨h1.st (hc c (by simp)).1, ?_, h3, by simp at h4; omega⟩
      simp only [cnts]
      omega
theorem popX_f (o : Bool) : ∀ (σ out : List Nat), (∀ c, c ∈ σ → 2 ≤ c ∧ c ≤ 11) → PFX σ out (popX o σ out).1 (popX o σ out).2 ∧ cnts (popX o σ out).1 = cnts σ ∧ (nopre σ → oks σ → nopre (popX o σ out).1) := by
  intro σ
  induction σ with
  | nil => intro out _; exact ⟨PFX.rf _ _, rfl, fun _ _ => trivial⟩
  | cons c σ ih =>
    intro out hc
    simp only [popX]
    split
    · rename_i e
      obtain ⟨h1, h2, h3⟩ := ih (out ++ [c]) (fun x hx => hc x (by simp [hx]))
      have e2 : c = 3 ∨ c = 4 := by
        rcases e with e | e
        · exact Or.inl e
        · exact Or.inr e.1
      refine ⟨h1.st (hc c (by simp)).1, ?_, fun _ hk => h3 (hk.1 e2) hk.2⟩
      simp only [cnts]
      rw [if_pos e2, h2]
      rfl
    · exact ⟨PFX.rf _ _, rfl, fun h _ => h⟩
theorem popP_f : ∀ (σ out : List Nat), (∀ c, c ∈ σ → 2 ≤ c ∧ c ≤ 11) → 11 ∈ σ → nopre σ → oks σ → (popP σ out).2.length + (popP σ out).1.length + 1 = out.length + σ.length ∧ nbit (popP σ out).2 = nbit out ∧ (∀ c, c ∈ (popP σ out).1 → c ∈ σ) ∧ oks (popP σ out).1 ∧ bins (popP σ out).1 ≤ bins σ ∧ cnts (popP σ out).1 + 1 = cnts σ := by
  intro σ
  induction σ with
  | nil => intro out _ h; cases h
  | cons c σ ih =>
    intro out hc hm hn hk
    simp only [popP]
    split
    · rename_i e
      refine ⟨by simp; omega, rfl, fun x hx => by simp [hx], hk.2, ?_, ?_⟩
      · simp only [bins]; omega
      · simp only [cnts]; rw [if_neg (by omega)]
    · rename_i e
      have e2 : c = 3 ∨ c = 4 := by
        have hn : c = 3 ∨ c = 4 ∨ c = 11 := hn
        omega
      have hm2 : 11 ∈ σ := by
        rcases List.mem_cons.mp hm with z | z
        · exact absurd z.symm e
        · exact z
      obtain ⟨h1, h2, h3, h4, h5, h6⟩ := ih (out ++ [c]) (fun x hx => hc x (by simp [hx])) hm2 (hk.1 e2) hk.2
      refine ⟨by simp at h1 ⊢; omega, by rw [h2, nbit_app, if_neg (by omega)]; rfl, fun x hx => by simp [h3 x hx], h4, ?_, ?_⟩
      · simp only [bins]; omega
      · simp only [cnts]; rw [if_pos e2, h6]; rfl
theorem nopre_ok {c : Nat} {σ : List Nat} (h : oks σ) (hc : c = 2 ∨ 5 ≤ c) : oks (c :: σ) := ⟨fun z => by omega, h⟩
section MIS
variable {T N : Nat} {t : Nat → Nat}
theorem mi_mar (hN : TN T t N) {i c k : Nat} {σ out : List Nat} {s' : MSt} (mi : MI N (i, σ, out, true)) (h0 : tki T t i ≠ 0) (h10 : cnts σ ≠ 10) (hc : c ≠ 0) (hk : k = 5 ∨ k = 8) (h : mar T t i σ out c k = .inl s') : MI N s' := by
  obtain ⟨⟨m1, m2⟩, m3, m4, m5, m6, m7, m8⟩ := mi
  dsimp only at m1 m2 m3 m4 m5 m6 m7
  unfold mar at h
  split at h
  · rename_i h3
    have hl := lett h3
    split at h
    · rename_i h4
      cases h
      have a1 := tk_lt hN m1 h0
      have a2 := tk_lt hN (i := i + 1) a1 (by omega)
      have a3 := tk_lt hN (i := i + 2) a2 (by omega)
      refine ⟨⟨a3, by simp; omega⟩, ?_, m4, ?_, fun x hx => ?_, nopre_ok m7 (by omega), fun z => by cases z⟩
      · simp only [cnts]; rw [if_neg (by omega)]; omega
      · simp only [bins]; rw [if_neg (by omega)]; exact m5
      · rcases List.mem_cons.mp hx with z | z
        · omega
        · exact m6 x z
    · cases h
  · cases h
theorem mi_step (hN : TN T t N) {s s' : MSt} (mi : MI N s) (h : mstep T t s = .inl s') : MI N s' := by
  obtain ⟨i, σ, out, w⟩ := s
  cases w with
  | true =>
    have h : mst1 T t i σ out = .inl s' := h
    unfold mst1 at h
    split at h
    · rename_i hn
      cases h
      obtain ⟨⟨m1, m2⟩, m3, m4, m5, m6, m7, m8⟩ := mi
      dsimp only at m1 m2 m3 m4 m5 m6 m7
      obtain ⟨⟨f1, f2, f3, f4, f5⟩, f6, f7, f8⟩ := settle_f σ (out ++ [two T t i]) m6
      rw [nbit_app, if_pos (by omega)] at f2
      refine ⟨⟨tk_lt hN m1 (by omega), by simp at f1; dsimp only; omega⟩, by dsimp only; omega, by dsimp only; omega, ?_, fun c hc => m6 c (f3 c hc), f4 m7, fun _ => f7⟩
      dsimp only
      simp only [cond_true] at m5
      simp only [cond_false]
      omega
    · split at h
      · cases h
      · rename_i h10
        split at h
        · rename_i h33
          cases h
          obtain ⟨⟨m1, m2⟩, m3, m4, m5, m6, m7, m8⟩ := mi
          dsimp only at m1 m2 m3 m4 m5 m6 m7
          refine ⟨⟨tk_lt hN m1 (by omega), by simp; omega⟩, ?_, m4, m5, fun x hx => ?_, nopre_ok m7 (by omega), fun z => by cases z⟩
          · show cnts σ + 1 ≤ 10; omega
          · rcases List.mem_cons.mp hx with z | z
            · omega
            · exact m6 x z
        · split at h
          · rename_i h40
            cases h
            obtain ⟨⟨m1, m2⟩, m3, m4, m5, m6, m7, m8⟩ := mi
            dsimp only at m1 m2 m3 m4 m5 m6 m7
            refine ⟨⟨tk_lt hN m1 (by omega), by simp; omega⟩, ?_, m4, m5, fun x hx => ?_, nopre_ok m7 (by omega), fun z => by cases z⟩
            · show cnts σ + 1 ≤ 10; omega
            · rcases List.mem_cons.mp hx with z | z
              · omega
              · exact m6 x z
          · split at h
            · rename_i h60
              exact mi_mar hN mi (by omega) h10 (by decide) (Or.inl rfl) h
            · split at h
              · rename_i h91
                exact mi_mar hN mi (by omega) h10 (by decide) (Or.inr rfl) h
              · cases h
  | false =>
    have h : mst0 T t i σ out = .inl s' := h
    have mi0 := mi
    obtain ⟨⟨m1, m2⟩, m3, m4, m5, m6, m7, m8⟩ := mi
    dsimp only at m1 m2 m3 m4 m5 m6 m7
    have m8 := m8 rfl
    dsimp only at m8
    simp only [cond_false] at m5
    unfold mst0 at h
    split at h
    · cases h
      exact mi0
    · split at h
      · rename_i h38
        cases h
        rw [← popX_A]
        obtain ⟨⟨f1, f2, f3, f4, f5⟩, f6, f7⟩ := popX_f false σ out m6
        refine ⟨⟨tk_lt hN m1 (by omega), by simp; omega⟩, by show cnts (popX false σ out).1 + 0 ≤ 10; omega, by dsimp only; omega, by show bins (popX false σ out).1 + 1 + 0 ≤ nbit (popX false σ out).2; omega, fun x hx => ?_, ⟨fun _ => f7 m8 m7, f4 m7⟩, fun z => by cases z⟩
        rcases List.mem_cons.mp hx with z | z
        · omega
        · exact m6 x (f3 x z)
      · split at h
        · rename_i h124
          cases h
          rw [← popX_O]
          obtain ⟨⟨f1, f2, f3, f4, f5⟩, f6, f7⟩ := popX_f true σ out m6
          refine ⟨⟨tk_lt hN m1 (by omega), by simp; omega⟩, by show cnts (popX true σ out).1 + 0 ≤ 10; omega, by dsimp only; omega, by show bins (popX true σ out).1 + 1 + 0 ≤ nbit (popX true σ out).2; omega, fun x hx => ?_, ⟨fun _ => f7 m8 m7, f4 m7⟩, fun z => by cases z⟩
          rcases List.mem_cons.mp hx with z | z
          · omega
          · exact m6 x (f3 x z)
        · split at h
          · rename_i h41
            cases h
            obtain ⟨p1, p2, p3, p4, p5, p6⟩ := popP_f σ out m6 h41.2 m8 m7
            obtain ⟨⟨f1, f2, f3, f4, f5⟩, f6, f7, f8⟩ := settle_f (popP σ out).1 (popP σ out).2 (fun x hx => m6 x (p3 x hx))
            refine ⟨⟨tk_lt hN m1 (by omega), by dsimp only; omega⟩, by dsimp only; omega, by dsimp only; omega, ?_, fun x hx => m6 x (p3 x (f3 x hx)), f4 p4, fun _ => f7⟩
            dsimp only
            simp only [cond_false]
            omega
          · cases h
end MIS
