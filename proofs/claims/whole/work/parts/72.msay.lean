/-! ===== the model's signs ===== -/
def encs (c : Nat) : Nat := if c = 11 then 40 else enc c
def SR (A : Nat → Nat → Int32) : List Nat → Prop
  | [] => True
  | c :: σ => A 68 σ.length = nI (encs c) ∧ SR A σ
def OR (A : Nat → Nat → Int32) (out : List Nat) : Prop := ∀ k, k < out.length → A 67 k = nI (enc (out.getD k 0))
/-- what is put, the signs, how many are open, how many of 0 and 1 -/
def PD (F A : Nat → Nat → Int32) (σ out : List Nat) (op nb : Nat) : Prop := (F 62 13 = nI out.length ∧ OR A out ∧ F 62 15 = nI nb) ∧ F 62 17 = nI σ.length ∧ SR A σ ∧ F 62 18 = nI op
theorem SR.frame {A A' : Nat → Nat → Int32} : ∀ {σ : List Nat}, SR A σ → (∀ k, k < σ.length → A' 68 k = A 68 k) → SR A' σ := by
  intro σ
  induction σ with
  | nil => intro _ _; trivial
  | cons c σ ih => intro h hk; exact ⟨(hk _ (by simp)).trans h.1, ih h.2 (fun k hk' => hk k (by simp; omega))⟩
theorem OR.frame {A A' : Nat → Nat → Int32} {out : List Nat} (h : OR A out) (hA : A' 67 = A 67) : OR A' out := fun k hk => by rw [hA]; exact h k hk
theorem OR.put {A A' : Nat → Nat → Int32} {out : List Nat} {c : Nat} (h : OR A out) (h1 : A' 67 out.length = nI (enc c)) (h2 : ∀ k, k ≠ out.length → A' 67 k = A 67 k) : OR A' (out ++ [c]) := by
  intro k hk
  rw [List.length_append] at hk
  simp at hk
  rw [getD_app]
  by_cases e : k < out.length
  · rw [if_pos e, h2 k (by omega)]
    exact h k e
  · have ek : k = out.length := by omega
    rw [if_neg e, if_pos ek, ek]
    exact h1
theorem len_cb : ∀ σ : List Nat, σ.length = cnts σ + bins σ := by
  intro σ
  induction σ with
  | nil => rfl
  | cons c σ ih =>
    simp only [List.length_cons, cnts, bins]
    split <;> omega
theorem enc_le (c : Nat) : enc c ≤ 312 := by
  unfold enc
  split <;> decide
theorem encs_le (c : Nat) : encs c ≤ 312 := by
  unfold encs
  split
  · decide
  · exact enc_le c
theorem encs_is {c : Nat} (h2 : 2 ≤ c) (h11 : c ≤ 11) : (encs c = 40 ↔ c = 11) ∧ (encs c = 38 ↔ c = 3) ∧ (encs c = 124 ↔ c = 4) := by
  have : c = 2 ∨ c = 3 ∨ c = 4 ∨ c = 5 ∨ c = 6 ∨ c = 7 ∨ c = 8 ∨ c = 9 ∨ c = 10 ∨ c = 11 := by omega
  rcases this with rfl | rfl | rfl | rfl | rfl | rfl | rfl | rfl | rfl | rfl <;> decide
section MSY
variable {Y : Nat × (Nat → Int32)} {F A : Nat → Nat → Int32} (d : Nat)
theorem c_Mo_puts {n : Nat} (hF : F 62 13 = nI n) (hn : n < 320) (x : Int32) : xa_rn xa_ms (d + 1) n_Mo_puts [.ref 62, .int x] (hp Y F A) none (hp Y (uF F 62 13 (nI (n + 1))) (va_up A 67 (upd (A 67) n x))) := by
  refine rn_in m_Mo_puts rfl ⟨rfl, rfl⟩ ?_
  show ev _ t_Mo_puts 0 [.ref 62, .int x] [] _ _
  repeat (first | refine ev_np [] rfl rfl rfl ?_ | refine ev_grs [] rfl rfl (by rfl) (by rfl) ?_)
  refine ev_gi rfl (by rfl) (by rfl) ?_
  rw [hF]
  repeat (refine ev_np [] rfl rfl rfl ?_)
  refine ev_am rfl (by rfl) rfl hn rfl ?_
  repeat (refine ev_np [] rfl rfl rfl ?_)
  refine ev_gi rfl (by rfl) (by rfl) ?_
  rw [hF]
  repeat (refine ev_np [] rfl rfl rfl ?_)
  refine ev_pf rfl (by rfl) ⟨by rfl, by rfl⟩ ?_
  rw [nI_1]
  exact ev_rv rfl
theorem PD.frame {F' A' : Nat → Nat → Int32} {σ out : List Nat} {op nb : Nat} (h : PD F A σ out op nb) (h13 : F' 62 13 = F 62 13) (h15 : F' 62 15 = F 62 15) (h17 : F' 62 17 = F 62 17) (h18 : F' 62 18 = F 62 18) (a67 : A' 67 = A 67) (a68 : A' 68 = A 68) : PD F' A' σ out op nb := ⟨⟨h13.trans h.1.1, h.1.2.1.frame a67, h15.trans h.1.2.2⟩, h17.trans h.2.1, h.2.2.1.frame (fun k _ => by rw [a68]), h18.trans h.2.2.2⟩
/-- a sign goes over -/
theorem PD.pp {σ out : List Nat} {c op nb : Nat} (h : PD F A (c :: σ) out op nb) (hc : c ≠ 11) : PD (uF (uF F 62 17 (nI σ.length)) 62 13 (nI (out.length + 1))) (va_up A 67 (upd (A 67) out.length (nI (encs c)))) σ (out ++ [c]) op nb := by
  obtain ⟨⟨h1, h2, h3⟩, h4, h5, h6⟩ := h
  refine ⟨⟨by rw [uF_s, List.length_append]; rfl, h2.put (by rw [va_up_s, pk_us]; unfold encs; rw [if_neg hc]) (fun k hk => by rw [va_up_s, pk_un hk]), by rw [uF_n _ _ (by decide), uF_n _ _ (by decide)]; exact h3⟩, by rw [uF_n _ _ (by decide), uF_s], h5.2.frame (fun k hk => by rw [va_up_n _ _ (by decide)]), by rw [uF_n _ _ (by decide), uF_n _ _ (by decide)]; exact h6⟩
theorem c_Mo_settles : ∀ (σ out : List Nat) (F A : Nat → Nat → Int32) (nb : Nat), PD F A σ out (cnts σ) nb → (∀ c, c ∈ σ → 2 ≤ c ∧ c ≤ 11) → out.length + σ.length ≤ 310 → σ.length < 64 → ∃ F' A', xa_rn xa_ms (d + 2) n_Mo_settles [.ref 62] (hp Y F A) none (hp Y F' A') ∧ (sF [6213, 6217, 6218] F F' ∧ sA [67] A A') ∧ PD F' A' (settle σ out).1 (settle σ out).2 (cnts (settle σ out).1) nb := by
  have key : ∀ (σ out : List Nat) (F A : Nat → Nat → Int32) (nb : Nat), PD F A σ out (cnts σ) nb → (∀ c, c ∈ σ → 2 ≤ c ∧ c ≤ 11) → out.length + σ.length ≤ 310 → σ.length < 64 → ∃ F' A', ev (d + 1) t_Mo_settles 0 [.ref 62] [] (hp Y F A) (none, hp Y F' A') ∧ (sF [6213, 6217, 6218] F F' ∧ sA [67] A A') ∧ PD F' A' (settle σ out).1 (settle σ out).2 (cnts (settle σ out).1) nb := by
    intro σ
    induction σ with
    | nil =>
      intro out F A nb h _ _ _
      refine ⟨F, A, ?_, ⟨sF.rf, sA.rf⟩, h⟩
      repeat (refine ev_np [] rfl rfl rfl ?_)
      refine ev_gi rfl (by rfl) (by rfl) ?_
      rw [h.2.1]
      repeat (refine ev_np [] rfl rfl rfl ?_)
      exact ev_rv rfl
    | cons c σ ih =>
      intro out F A nb h hc hl h64
      obtain ⟨c2, c11⟩ := hc c (by simp)
      have hen := encs_le c
      obtain ⟨q1, q2, q3⟩ := encs_is c2 c11
      have h17 : F 62 17 = nI (σ.length + 1) := h.2.1
      have h68 : A 68 σ.length = nI (encs c) := h.2.2.1.1
      have hl64 : σ.length < 64 := by simp at h64; omega
      by_cases e : c = 3 ∨ c = 4 ∨ c = 11
      · have hs : settle (c :: σ) out = (c :: σ, out) := by simp only [settle]; rw [if_pos e]
        rw [hs]
        refine ⟨F, A, ?_, ⟨sF.rf, sA.rf⟩, h⟩
        repeat (refine ev_np [] rfl rfl rfl ?_)
        refine ev_gi rfl (by rfl) (by rfl) ?_
        rw [h17]
        repeat (refine ev_np [] rfl rfl rfl ?_)
        refine ev_ie (nI_nle (by omega) (by omega)) ?_
        repeat (first | refine ev_np [] rfl rfl rfl ?_ | refine ev_grs [] rfl rfl (by rfl) (by rfl) ?_)
        refine ev_gi rfl (by rfl) (by rfl) ?_
        rw [h17]
        repeat (refine ev_np [] rfl rfl rfl ?_)
        rw [nI_pred]
        refine ev_an rfl (by rfl) rfl hl64 rfl ?_
        rw [h68]
        repeat (refine ev_np [] rfl rfl rfl ?_)
        by_cases e40 : c = 11
        · refine ev_it (by rw [q1.mpr e40]; rfl) ?_
          exact ev_rv rfl
        · refine ev_ie (fun z => e40 (q1.mp ((nI_eq (b := 40) (by omega) (by omega)).mp z))) ?_
          repeat (first | refine ev_np [] rfl rfl rfl ?_ | refine ev_grs [] rfl rfl (by rfl) (by rfl) ?_)
          refine ev_gi rfl (by rfl) (by rfl) ?_
          rw [h17]
          repeat (refine ev_np [] rfl rfl rfl ?_)
          rw [nI_pred]
          refine ev_an rfl (by rfl) rfl hl64 rfl ?_
          rw [h68]
          repeat (refine ev_np [] rfl rfl rfl ?_)
          by_cases e38 : c = 3
          · refine ev_it (by rw [q2.mpr e38]; rfl) ?_
            exact ev_rv rfl
          · refine ev_ie (fun z => e38 (q2.mp ((nI_eq (b := 38) (by omega) (by omega)).mp z))) ?_
            repeat (first | refine ev_np [] rfl rfl rfl ?_ | refine ev_grs [] rfl rfl (by rfl) (by rfl) ?_)
            refine ev_gi rfl (by rfl) (by rfl) ?_
            rw [h17]
            repeat (refine ev_np [] rfl rfl rfl ?_)
            rw [nI_pred]
            refine ev_an rfl (by rfl) rfl hl64 rfl ?_
            rw [h68]
            repeat (refine ev_np [] rfl rfl rfl ?_)
            refine ev_it (by rw [q3.mpr (by omega)]; rfl) ?_
            exact ev_rv rfl
      · have hs : settle (c :: σ) out = settle σ (out ++ [c]) := by simp only [settle]; rw [if_neg e]
        have hcn : cnts (c :: σ) = cnts σ + 1 := by simp only [cnts]; rw [if_neg (by omega)]
        rw [hcn] at h
        obtain ⟨G, hG⟩ : ∃ G, G = uF (uF F 62 17 (nI σ.length)) 62 18 (nI (cnts σ)) := ⟨_, rfl⟩
        have g13 : G 62 13 = nI out.length := by rw [hG, uF_n _ _ (by decide), uF_n _ _ (by decide)]; exact h.1.1
        have g17 : G 62 17 = nI σ.length := by rw [hG, uF_n _ _ (by decide), uF_s]
        have hp1 := h.pp (by omega)
        obtain ⟨F2, hF2⟩ : ∃ F2, F2 = uF G 62 13 (nI (out.length + 1)) := ⟨_, rfl⟩
        have hp2 : PD F2 (va_up A 67 (upd (A 67) out.length (nI (encs c)))) σ (out ++ [c]) (cnts σ) nb := by
          obtain ⟨⟨k1, k2, k3⟩, k4, k5, k6⟩ := hp1
          refine ⟨⟨by rw [hF2, uF_s, List.length_append]; rfl, k2, ?_⟩, by rw [hF2, uF_n _ _ (by decide), g17], k5, by rw [hF2, uF_n _ _ (by decide), hG, uF_s]⟩
          rw [hF2, uF_n _ _ (by decide), hG, uF_n _ _ (by decide), uF_n _ _ (by decide)]
          exact h.1.2.2
        have sfr : sF [6213, 6217, 6218] F F2 := by
          rw [hF2, hG]
          exact (sF.up (by decide)).tr ((sF.up (by decide)).tr (sF.up (by decide)))
        obtain ⟨F3, A3, a1, a2, a3⟩ := ih (out ++ [c]) F2 _ nb hp2 (fun x hx => hc x (by simp [hx])) (by simp at hl ⊢; omega) hl64
        rw [hs]
        refine ⟨F3, A3, ?_, ⟨sfr.tr a2.1, (sA.up (by decide)).tr a2.2⟩, a3⟩
        repeat (refine ev_np [] rfl rfl rfl ?_)
        refine ev_gi rfl (by rfl) (by rfl) ?_
        rw [h17]
        repeat (refine ev_np [] rfl rfl rfl ?_)
        refine ev_ie (nI_nle (by omega) (by omega)) ?_
        repeat (first | refine ev_np [] rfl rfl rfl ?_ | refine ev_grs [] rfl rfl (by rfl) (by rfl) ?_)
        refine ev_gi rfl (by rfl) (by rfl) ?_
        rw [h17]
        repeat (refine ev_np [] rfl rfl rfl ?_)
        rw [nI_pred]
        refine ev_an rfl (by rfl) rfl hl64 rfl ?_
        rw [h68]
        repeat (refine ev_np [] rfl rfl rfl ?_)
        refine ev_ie (fun z => e (Or.inr (Or.inr (q1.mp ((nI_eq (b := 40) (by omega) (by omega)).mp z))))) ?_
        repeat (first | refine ev_np [] rfl rfl rfl ?_ | refine ev_grs [] rfl rfl (by rfl) (by rfl) ?_)
        refine ev_gi rfl (by rfl) (by rfl) ?_
        rw [h17]
        repeat (refine ev_np [] rfl rfl rfl ?_)
        rw [nI_pred]
        refine ev_an rfl (by rfl) rfl hl64 rfl ?_
        rw [h68]
        repeat (refine ev_np [] rfl rfl rfl ?_)
        refine ev_ie (fun z => e (Or.inl (q2.mp ((nI_eq (b := 38) (by omega) (by omega)).mp z)))) ?_
        repeat (first | refine ev_np [] rfl rfl rfl ?_ | refine ev_grs [] rfl rfl (by rfl) (by rfl) ?_)
        refine ev_gi rfl (by rfl) (by rfl) ?_
        rw [h17]
        repeat (refine ev_np [] rfl rfl rfl ?_)
        rw [nI_pred]
        refine ev_an rfl (by rfl) rfl hl64 rfl ?_
        rw [h68]
        repeat (refine ev_np [] rfl rfl rfl ?_)
        refine ev_ie (fun z => e (Or.inr (Or.inl (q3.mp ((nI_eq (b := 124) (by omega) (by omega)).mp z))))) ?_
        repeat (refine ev_np [] rfl rfl rfl ?_)
        refine ev_gi rfl (by rfl) (by rfl) ?_
        rw [h17]
        repeat (refine ev_np [] rfl rfl rfl ?_)
        rw [nI_pred]
        refine ev_pf rfl (by rfl) ⟨by rfl, by rfl⟩ ?_
        repeat (refine ev_np [] rfl rfl rfl ?_)
        refine ev_gi rfl (by rfl) (by rfl) ?_
        rw [uF_n _ _ (by decide), h.2.2.2]
        repeat (refine ev_np [] rfl rfl rfl ?_)
        rw [nI_pred]
        refine ev_pf rfl (by rfl) ⟨by rfl, by rfl⟩ ?_
        rw [← hG]
        repeat (first | refine ev_np [] rfl rfl rfl ?_ | refine ev_grs [] rfl rfl (by rfl) (by rfl) ?_)
        refine ev_gi rfl (by rfl) (by rfl) ?_
        rw [g17]
        refine ev_an rfl (by rfl) rfl hl64 rfl ?_
        rw [h68]
        refine ev_vc rfl (by rfl) (by rfl) rfl (c_Mo_puts d g13 (by simp at hl; omega) (nI (encs c))) ?_
        rw [← hF2]
        repeat (refine ev_np [0] rfl rfl rfl ?_)
        exact a1
  intro σ out F A nb h1 h2 h3 h4
  obtain ⟨F', A', a1, a2, a3⟩ := key σ out F A nb h1 h2 h3 h4
  refine ⟨F', A', ?_, a2, a3⟩
  refine rn_in m_Mo_settles rfl ⟨rfl, rfl⟩ ?_
  show ev _ t_Mo_settles 0 [.ref 62] [] _ _
  exact a1
theorem SR.mem : ∀ {σ : List Nat} {A : Nat → Nat → Int32}, SR A σ → (∀ c, c ∈ σ → 2 ≤ c ∧ c ≤ 11) → ((∃ j, j < σ.length ∧ A 68 j = nI 40) ↔ 11 ∈ σ) := by
  intro σ
  induction σ with
  | nil => intro A _ _; exact ⟨fun ⟨j, h, _⟩ => absurd h (Nat.not_lt_zero j), fun h => by cases h⟩
  | cons c σ ih =>
    intro A h hc
    obtain ⟨c2, c11⟩ := hc c (by simp)
    have q := (encs_is c2 c11).1
    have hen := encs_le c
    have ih := ih h.2 (fun x hx => hc x (by simp [hx]))
    constructor
    · rintro ⟨j, hj, ha⟩
      by_cases e : j = σ.length
      · subst e
        rw [h.1] at ha
        have := q.mp ((nI_eq (by omega) (by omega)).mp ha)
        simp [this]
      · have := ih.mp ⟨j, by simp at hj; omega, ha⟩
        simp [this]
    · intro hm
      rcases List.mem_cons.mp hm with e | e
      · exact ⟨σ.length, by simp, by rw [h.1, q.mpr e.symm]⟩
      · obtain ⟨j, hj, ha⟩ := ih.mpr e
        exact ⟨j, by simp; omega, ha⟩
theorem c_Mo_bracket {σ : List Nat} (h17 : F 62 17 = nI σ.length) (hs : SR A σ) (hc : ∀ c, c ∈ σ → 2 ≤ c ∧ c ≤ 11) (h64 : σ.length < 64) : ∃ x, xa_rn xa_ms (d + 1) n_Mo_bracket [.ref 62] (hp Y F A) (some (.int x)) (hp Y F A) ∧ (x = -9 ↔ 11 ∉ σ) := by
  obtain ⟨x, hx, r⟩ := lp_ex (α := Int32) (fun k x => (x = -9 ∧ ∀ j, j < k → A 68 j ≠ nI 40) ∨ (∃ m, m < k ∧ x = nI m ∧ A 68 m = nI 40)) (fun k x q => ev d t_Mo_bracket 5 [.ref 62, .int x, .int (nI k)] [] (hp Y F A) q) σ.length (fun k x hk hI => by
    have rd : ∀ q, ev d t_Mo_bracket 21 [.ref 62, .int x, .int (nI k)] [.int 40, .int (A 68 k)] (hp Y F A) q → ev d t_Mo_bracket 5 [.ref 62, .int x, .int (nI k)] [] (hp Y F A) q := by
      intro q hq
      repeat (refine ev_np [] rfl rfl rfl ?_)
      refine ev_gi rfl (by rfl) (by rfl) ?_
      rw [h17]
      repeat (refine ev_np [] rfl rfl rfl ?_)
      refine ev_ie (nI_ge hk (by omega)) ?_
      repeat (first | refine ev_np [] rfl rfl rfl ?_ | refine ev_grs [] rfl rfl (by rfl) (by rfl) ?_)
      refine ev_an rfl (by rfl) rfl (by omega) rfl ?_
      repeat (refine ev_np [21] rfl rfl rfl ?_)
      exact hq
    by_cases e : A 68 k = nI 40
    · refine ⟨nI k, Or.inr ⟨k, by omega, rfl, e⟩, fun q hq => rd q ?_⟩
      rw [nI_succ] at hq
      repeat (refine ev_np [] rfl rfl rfl ?_)
      refine ev_ie (fun z => z e) ?_
      repeat (refine ev_np [5] rfl rfl rfl ?_)
      exact hq
    · refine ⟨x, ?_, fun q hq => rd q ?_⟩
      · rcases hI with ⟨h1, h2⟩ | ⟨m, h1, h2, h3⟩
        · exact Or.inl ⟨h1, fun j hj => by
            by_cases ej : j = k
            · subst ej; exact e
            · exact h2 j (by omega)⟩
        · exact Or.inr ⟨m, by omega, h2, h3⟩
      · rw [nI_succ] at hq
        repeat (refine ev_np [] rfl rfl rfl ?_)
        refine ev_it e ?_
        repeat (refine ev_np [5] rfl rfl rfl ?_)
        exact hq) σ.length 0 (-9) (Nat.zero_add _) (Or.inl ⟨rfl, fun j hj => absurd hj (Nat.not_lt_zero j)⟩)
  refine ⟨x, ?_, ?_⟩
  · refine rn_in m_Mo_bracket rfl ⟨rfl, rfl⟩ ?_
    show ev _ t_Mo_bracket 0 [.ref 62, .float 0, .float 0] [] _ _
    repeat (refine ev_np [5] rfl rfl rfl ?_)
    refine r _ ?_
    repeat (refine ev_np [] rfl rfl rfl ?_)
    refine ev_gi rfl (by rfl) (by rfl) ?_
    rw [h17]
    repeat (refine ev_np [] rfl rfl rfl ?_)
    refine ev_it (nI_le (Nat.le_refl _) (by omega)) ?_
    repeat (refine ev_np [] rfl rfl rfl ?_)
    exact ev_ri rfl rfl
  · rw [← hs.mem hc]
    rcases hx with ⟨h1, h2⟩ | ⟨m, h1, h2, h3⟩
    · exact ⟨fun _ ⟨j, hj, hz⟩ => h2 j hj hz, fun _ => h1⟩
    · exact ⟨fun z => absurd (h2.symm.trans z) (nI_n9 (by omega)), fun z => absurd ⟨m, h1, h3⟩ z⟩
end MSY
