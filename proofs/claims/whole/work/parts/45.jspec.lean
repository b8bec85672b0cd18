/-! ===== plans side by side: what clashes, what is come to ===== -/
section DROP
variable (n1 n2 : Nat) (g1 g2 : Nat → Nat → Nat → Nat)
def clx (r : Nat → Nat → Bool) (s t l : Nat) : Bool := lack r (fun x => decide (2 ≤ g1 s l x)) (fun y => decide (1 ≤ g2 t l y)) 6 || lack (fun a b => r b a) (fun y => decide (2 ≤ g2 t l y)) (fun x => decide (1 ≤ g1 s l x)) 6
def clh (r : Nat → Nat → Bool) (s t : Nat) : Bool := (List.range 3).any (clx g1 g2 r s t)
def dgo (r : Nat → Nat → Bool) (K : Nat) : Bool := r (K / 6) (K % 6) && clh g1 g2 r (K / 6) (K % 6)
def dst (K : Nat) (r : Nat → Nat → Bool) : Nat → Nat → Bool := bif dgo g1 g2 r K then (fun a b => r a b && !(a == K / 6 && b == K % 6)) else r
def dfo : Nat → (Nat → Nat → Bool) → Nat → Nat → Bool
  | 0, r => r
  | K + 1, r => dst g1 g2 K (dfo K r)
def mor (K : Nat) (r : Nat → Nat → Bool) : Bool := (List.range K).any (fun k => dgo g1 g2 (dfo g1 g2 k r) k)
def dR : Nat → Nat → Nat → Bool
  | 0 => fun s t => decide (s < n1) && decide (t < n2)
  | m + 1 => dfo g1 g2 36 (dR m)
end DROP
section DROP2
variable {n1 n2 : Nat} {g1 g2 : Nat → Nat → Nat → Nat}
theorem dst_le {K : Nat} {r : Nat → Nat → Bool} {a b : Nat} (h : dst g1 g2 K r a b = true) : r a b = true := by
  unfold dst at h
  cases e : dgo g1 g2 r K with
  | false => rw [e] at h; exact h
  | true =>
    rw [e] at h
    have h : (r a b && !(a == K / 6 && b == K % 6)) = true := h
    rw [Bool.and_eq_true] at h
    exact h.1
theorem dfo_le {r : Nat → Nat → Bool} {a b : Nat} : ∀ K, dfo g1 g2 K r a b = true → r a b = true := by
  intro K
  induction K with
  | zero => exact fun h => h
  | succ K ih => exact fun h => ih (dst_le h)
theorem dfo_le2 {r : Nat → Nat → Bool} {a b K : Nat} : ∀ m, dfo g1 g2 (K + m) r a b = true → dfo g1 g2 K r a b = true := by
  intro m
  induction m with
  | zero => exact fun h => h
  | succ m ih => exact fun h => ih (dst_le h)
theorem dR_in : ∀ m {a b : Nat}, dR n1 n2 g1 g2 m a b = true → a < n1 ∧ b < n2 := by
  intro m
  induction m with
  | zero => intro a b h; simpa [dR] using h
  | succ m ih => exact fun h => ih (dfo_le 36 h)
theorem dfo_same {r : Nat → Nat → Bool} : ∀ K, mor g1 g2 K r = false → dfo g1 g2 K r = r := by
  intro K
  induction K with
  | zero => intro _; rfl
  | succ K ih =>
    intro h
    unfold mor at h
    rw [anyB, Bool.or_eq_false_iff] at h
    have h1 := ih h.1
    show dst g1 g2 K (dfo g1 g2 K r) = r
    unfold dst
    rw [h.2]
    exact h1
theorem dR_keep {m : Nat} (h : mor g1 g2 36 (dR n1 n2 g1 g2 m) = false) : ∀ k, dR n1 n2 g1 g2 (m + k) = dR n1 n2 g1 g2 m := by
  intro k
  induction k with
  | zero => rfl
  | succ k ih =>
    show dfo g1 g2 36 (dR n1 n2 g1 g2 (m + k)) = _
    rw [ih]
    exact dfo_same 36 h
theorem dfo_less {r : Nat → Nat → Bool} (h : mor g1 g2 36 r = true) : cnt (fun k => dfo g1 g2 36 r (k / 6) (k % 6)) 36 < cnt (fun k => r (k / 6) (k % 6)) 36 := by
  obtain ⟨k, hk, h⟩ := List.any_eq_true.mp h
  have hk := List.mem_range.mp hk
  refine cnt_lt 36 (fun j _ hj => dfo_le 36 hj) ⟨k, hk, ?_, ?_⟩
  · cases e : dfo g1 g2 36 r (k / 6) (k % 6) with
    | false => rfl
    | true =>
      have h1 := dfo_le2 (K := k + 1) (36 - (k + 1)) (by rw [show k + 1 + (36 - (k + 1)) = 36 by omega]; exact e)
      have h2 : dst g1 g2 k (dfo g1 g2 k r) (k / 6) (k % 6) = true := h1
      unfold dst at h2
      rw [h] at h2
      simp at h2
  · unfold dgo at h
    rw [Bool.and_eq_true] at h
    exact dfo_le k h.1
theorem ar1 {a b : Nat} (h : a ≤ b) : a + 0 ≤ b := h
theorem ar2 {a b m N : Nat} (h : a < b) (g : b + m ≤ N) : a + (m + 1) ≤ N := by omega
theorem dR_cnt : ∀ m, (∃ m0, m0 < m ∧ mor g1 g2 36 (dR n1 n2 g1 g2 m0) = false) ∨ cnt (fun k => dR n1 n2 g1 g2 m (k / 6) (k % 6)) 36 + m ≤ 36 := by
  intro m
  induction m with
  | zero => right; exact ar1 (cnt_le (fun k => dR n1 n2 g1 g2 0 (k / 6) (k % 6)) 36)
  | succ m ih =>
    rcases ih with ⟨m0, h1, h2⟩ | ih
    · exact Or.inl ⟨m0, by omega, h2⟩
    · cases e : mor g1 g2 36 (dR n1 n2 g1 g2 m) with
      | false => exact Or.inl ⟨m, by omega, e⟩
      | true =>
        right
        exact ar2 (dfo_less e) ih
theorem dR_end : ∃ m0, m0 ≤ 36 ∧ mor g1 g2 36 (dR n1 n2 g1 g2 m0) = false := by
  rcases dR_cnt (n1 := n1) (n2 := n2) (g1 := g1) (g2 := g2) 37 with ⟨m0, h1, h2⟩ | h
  · exact ⟨m0, by omega, h2⟩
  · exact absurd (Nat.le_trans (Nat.le_add_left _ _) h) (by decide)
theorem dR_37 {m : Nat} (hm : m ≤ 37) (h : mor g1 g2 36 (dR n1 n2 g1 g2 m) = false) : dR n1 n2 g1 g2 m = dR n1 n2 g1 g2 37 := by
  have := dR_keep h (37 - m)
  rw [show m + (37 - m) = 37 by omega] at this
  exact this.symm
theorem dR_37e : mor g1 g2 36 (dR n1 n2 g1 g2 37) = false := by
  obtain ⟨m0, h1, h2⟩ := dR_end (n1 := n1) (n2 := n2) (g1 := g1) (g2 := g2)
  rw [← dR_37 (by omega) h2]
  exact h2
end DROP2
/-- how many pairs have numbers; a pair's number and one more, or 0; the pairs in their order; the arrows -/
abbrev JS : Type := Nat × (Nat → Nat) × (Nat → Nat) × (Nat → Nat → Nat → Nat)
def upN (f : Nat → Nat) (k v : Nat) : Nat → Nat := fun j => if j = k then v else f j
def jv (b : Bool) (x y : Nat) : Nat := bif b then max x y else min x y
section JSP
variable (g1 g2 : Nat → Nat → Nat → Nat) (r : Nat → Nat → Bool) (ao : Bool)
def jc (n l K : Nat) (st : JS) : Bool := decide (1 ≤ g1 (st.2.2.1 n / 6) l (K / 6)) && decide (1 ≤ g2 (st.2.2.1 n % 6) l (K % 6)) && r (K / 6) (K % 6)
def ja (K : Nat) (st : JS) : JS := if st.2.1 K = 0 then (st.1 + 1, upN st.2.1 K (st.1 + 1), upN st.2.2.1 st.1 K, st.2.2.2) else st
def jw (n l K : Nat) (st : JS) : Nat := jv ao (g1 (st.2.2.1 n / 6) l (K / 6)) (g2 (st.2.2.1 n % 6) l (K % 6))
def js (n l K : Nat) (st : JS) : JS := bif jc g1 g2 r n l K st then ((ja K st).1, (ja K st).2.1, (ja K st).2.2.1, gset (ja K st).2.2.2 n l ((ja K st).2.1 K - 1) (jw g1 g2 ao n l K st)) else st
def jK (n l : Nat) : Nat → JS → JS
  | 0, st => st
  | K + 1, st => js g1 g2 r ao n l K (jK n l K st)
def jL (n : Nat) : Nat → JS → JS
  | 0, st => st
  | l + 1, st => jK g1 g2 r ao n l 36 (jL n l st)
def jN : Nat → JS → JS
  | 0, st => st
  | n + 1, st => jL g1 g2 r ao n 3 (jN n st)
end JSP
def js0 : JS := (1, fun k => if k = 0 then 1 else 0, fun _ => 0, fun _ _ _ => 0)
/-- what holds at the place J -/
def jI (st : JS) (J : Nat) : Prop := (∀ K, K < 36 → st.2.1 K ≠ 0 → st.2.1 K ≤ st.1 ∧ st.2.2.1 (st.2.1 K - 1) = K) ∧ (∀ b, b < st.1 → st.2.2.1 b < 36 ∧ st.2.1 (st.2.2.1 b) = b + 1) ∧ (∀ a l b, st.2.2.2 a l b ≤ 2 ∧ (st.2.2.2 a l b ≠ 0 → b < st.1 ∧ l < 3 ∧ (a * 3 + l) * 36 + st.2.2.1 b < J)) ∧ (1 ≤ st.1 ∧ st.1 ≤ cnt (fun k => decide (st.2.1 k ≠ 0)) 36)
section JIN
variable {g1 g2 : Nat → Nat → Nat → Nat} {r : Nat → Nat → Bool} {ao : Bool}
theorem jI.mono {st : JS} {J J' : Nat} (h : jI st J) (hJ : J ≤ J') : jI st J' := ⟨h.1, h.2.1, fun a l b => ⟨(h.2.2.1 a l b).1, fun z => by obtain ⟨p, q, w⟩ := (h.2.2.1 a l b).2 z; exact ⟨p, q, by omega⟩⟩, h.2.2.2⟩
theorem ja_I {st : JS} {J K : Nat} (h : jI st J) (hK : K < 36) : jI (ja K st) J ∧ st.1 ≤ (ja K st).1 ∧ (ja K st).2.1 K ≠ 0 ∧ (ja K st).2.2.2 = st.2.2.2 ∧ (∀ b, b < st.1 → (ja K st).2.2.1 b = st.2.2.1 b) := by
  unfold ja
  split
  · rename_i e
    obtain ⟨i1, i2, i3, i4, i5⟩ := h
    refine ⟨⟨fun K' hK' => ?_, fun b hb => ?_, fun a l b => ⟨(i3 a l b).1, fun z => ?_⟩, ?_, ?_⟩, Nat.le_succ _, ?_, rfl, fun b hb => ?_⟩
    · show upN st.2.1 K (st.1 + 1) K' ≠ 0 → upN st.2.1 K (st.1 + 1) K' ≤ st.1 + 1 ∧ upN st.2.2.1 st.1 K (upN st.2.1 K (st.1 + 1) K' - 1) = K'
      by_cases eK : K' = K
      · subst eK
        rw [show upN st.2.1 K' (st.1 + 1) K' = st.1 + 1 from if_pos rfl]
        intro _
        exact ⟨Nat.le_refl _, if_pos (by omega)⟩
      · rw [show upN st.2.1 K (st.1 + 1) K' = st.2.1 K' from if_neg eK]
        intro hne
        obtain ⟨a1, a2⟩ := i1 K' hK' hne
        exact ⟨by omega, by rw [show upN st.2.2.1 st.1 K (st.2.1 K' - 1) = st.2.2.1 (st.2.1 K' - 1) from if_neg (by omega)]; exact a2⟩
    · show upN st.2.2.1 st.1 K b < 36 ∧ upN st.2.1 K (st.1 + 1) (upN st.2.2.1 st.1 K b) = b + 1
      by_cases eb : b = st.1
      · subst eb
        rw [show upN st.2.2.1 st.1 K st.1 = K from if_pos rfl]
        exact ⟨hK, if_pos rfl⟩
      · have hb : b < st.1 := by have : b < st.1 + 1 := hb; omega
        rw [show upN st.2.2.1 st.1 K b = st.2.2.1 b from if_neg eb]
        obtain ⟨a1, a2⟩ := i2 b hb
        refine ⟨a1, ?_⟩
        have : st.2.2.1 b ≠ K := fun z => by rw [z] at a2; omega
        rw [show upN st.2.1 K (st.1 + 1) (st.2.2.1 b) = st.2.1 (st.2.2.1 b) from if_neg this]
        exact a2
    · obtain ⟨p, q, w⟩ := (i3 a l b).2 z
      refine ⟨Nat.lt_succ_of_lt p, q, ?_⟩
      show (a * 3 + l) * 36 + upN st.2.2.1 st.1 K b < J
      rw [show upN st.2.2.1 st.1 K b = st.2.2.1 b from if_neg (by omega)]
      exact w
    · exact Nat.le_succ_of_le i4
    · have := cnt_lt (f := fun k => decide (st.2.1 k ≠ 0)) (g := fun k => decide (upN st.2.1 K (st.1 + 1) k ≠ 0)) 36 (fun k _ hk => by
        by_cases eK : k = K
        · subst eK
          have : st.2.1 k ≠ 0 := of_decide_eq_true hk
          exact absurd e this
        · rw [show upN st.2.1 K (st.1 + 1) k = st.2.1 k from if_neg eK]
          exact hk) ⟨K, hK, by simp [e], by simp [upN]⟩
      show st.1 + 1 ≤ _
      have e2 : cnt (fun k => decide (upN st.2.1 K (st.1 + 1) k ≠ 0)) 36 = cnt (fun k => decide ((st.1 + 1, upN st.2.1 K (st.1 + 1), upN st.2.2.1 st.1 K, st.2.2.2).2.1 k ≠ 0)) 36 := rfl
      omega
    · show upN st.2.1 K (st.1 + 1) K ≠ 0
      simp [upN]
    · exact if_neg (by omega)
  · rename_i e
    exact ⟨h, Nat.le_refl _, e, rfl, fun _ _ => rfl⟩
/-- where an arrow comes to stand there was none -/
theorem jold {st : JS} {n l K : Nat} (h : jI st ((n * 3 + l) * 36 + K)) (hK : K < 36) : (ja K st).2.2.2 n l ((ja K st).2.1 K - 1) = 0 := by
  refine Classical.byContradiction fun hne => ?_
  obtain ⟨h1, h2, h3, h4, h5⟩ := ja_I h hK
  obtain ⟨p, q, w⟩ := (h1.2.2.1 n l _).2 hne
  have := (h1.1 K hK h3).2
  omega
theorem jP (st : JS) {J : Nat} (h : jI st J) : st.1 ≤ 36 := Nat.le_trans h.2.2.2.2 (cnt_le _ 36)
theorem jP2 {st : JS} {J K : Nat} (h : jI st J) (hK : K < 36) (h0 : st.2.1 K = 0) : st.1 < 36 := by
  have h1 := cnt_lt (f := fun k => decide (st.2.1 k ≠ 0)) (g := fun _ => true) 36 (fun _ _ _ => rfl) ⟨K, hK, by simp [h0], rfl⟩
  have h2 := cnt_le (fun _ => true) 36
  have := h.2.2.2.2
  omega
theorem jv_le {b : Bool} {x y : Nat} (hx : x ≤ 2) (hy : y ≤ 2) : jv b x y ≤ 2 := by
  unfold jv
  cases b
  · show min x y ≤ 2; omega
  · show max x y ≤ 2; omega
theorem js_I (hg1 : ∀ s l t, g1 s l t ≤ 2) (hg2 : ∀ s l t, g2 s l t ≤ 2) {st : JS} {n l K : Nat} (h : jI st ((n * 3 + l) * 36 + K)) (hl : l < 3) (hK : K < 36) : jI (js g1 g2 r ao n l K st) ((n * 3 + l) * 36 + K + 1) ∧ st.1 ≤ (js g1 g2 r ao n l K st).1 := by
  unfold js
  cases jc g1 g2 r n l K st with
  | false => exact ⟨h.mono (by omega), Nat.le_refl _⟩
  | true =>
    obtain ⟨h1, h2, h3, h4, h5⟩ := ja_I h hK
    obtain ⟨i1, i2, i3, i4⟩ := h1
    refine ⟨⟨i1, i2, fun a l' b => ?_, i4⟩, h2⟩
    show gset (ja K st).2.2.2 n l ((ja K st).2.1 K - 1) (jw g1 g2 ao n l K st) a l' b ≤ 2 ∧ (gset (ja K st).2.2.2 n l ((ja K st).2.1 K - 1) (jw g1 g2 ao n l K st) a l' b ≠ 0 → b < (ja K st).1 ∧ l' < 3 ∧ (a * 3 + l') * 36 + (ja K st).2.2.1 b < (n * 3 + l) * 36 + K + 1)
    unfold gset
    split
    · rename_i e
      obtain ⟨rfl, rfl, rfl⟩ := e
      refine ⟨jv_le (hg1 _ _ _) (hg2 _ _ _), fun _ => ?_⟩
      obtain ⟨q1, q2⟩ := i1 K hK h3
      rw [q2]
      exact ⟨by omega, hl, by omega⟩
    · refine ⟨(i3 a l' b).1, fun z => ?_⟩
      obtain ⟨p, q, w⟩ := (i3 a l' b).2 z
      exact ⟨p, q, by omega⟩
theorem jK_I (hg1 : ∀ s l t, g1 s l t ≤ 2) (hg2 : ∀ s l t, g2 s l t ≤ 2) {st : JS} {n l : Nat} (h : jI st ((n * 3 + l) * 36)) (hl : l < 3) : ∀ K, K ≤ 36 → jI (jK g1 g2 r ao n l K st) ((n * 3 + l) * 36 + K) ∧ st.1 ≤ (jK g1 g2 r ao n l K st).1 := by
  intro K
  induction K with
  | zero => exact fun _ => ⟨h, Nat.le_refl _⟩
  | succ K ih =>
    intro hK
    obtain ⟨a, b⟩ := ih (by omega)
    obtain ⟨c, e⟩ := js_I (r := r) (ao := ao) hg1 hg2 a hl (by omega)
    exact ⟨c, Nat.le_trans b e⟩
theorem jL_I (hg1 : ∀ s l t, g1 s l t ≤ 2) (hg2 : ∀ s l t, g2 s l t ≤ 2) {st : JS} {n : Nat} (h : jI st (n * 108)) : ∀ l, l ≤ 3 → jI (jL g1 g2 r ao n l st) ((n * 3 + l) * 36) ∧ st.1 ≤ (jL g1 g2 r ao n l st).1 := by
  intro l
  induction l with
  | zero => exact fun _ => ⟨h.mono (by omega), Nat.le_refl _⟩
  | succ l ih =>
    intro hl
    obtain ⟨a, b⟩ := ih (by omega)
    obtain ⟨c, e⟩ := jK_I (r := r) (ao := ao) hg1 hg2 a (by omega) 36 (Nat.le_refl _)
    exact ⟨c.mono (by omega), Nat.le_trans b e⟩
theorem js0_I : jI js0 0 := by
  refine ⟨fun K _ h => ?_, fun b hb => ?_, fun a l b => ⟨Nat.zero_le _, fun h => absurd rfl h⟩, Nat.le_refl 1, by decide⟩
  · have h : (if K = 0 then 1 else 0) ≠ 0 := h
    have hK : K = 0 := by
      refine Classical.byContradiction fun e => ?_
      rw [if_neg e] at h
      exact h rfl
    subst hK
    exact ⟨Nat.le_refl 1, rfl⟩
  · have : b = 0 := by have : b < 1 := hb; omega
    subst this
    exact ⟨by decide, rfl⟩
theorem jN_I (hg1 : ∀ s l t, g1 s l t ≤ 2) (hg2 : ∀ s l t, g2 s l t ≤ 2) : ∀ n, jI (jN g1 g2 r ao n js0) (n * 108) := by
  intro n
  induction n with
  | zero => exact js0_I
  | succ n ih => exact (jL_I hg1 hg2 ih 3 (Nat.le_refl 3)).1.mono (by omega)
theorem jN_mono (hg1 : ∀ s l t, g1 s l t ≤ 2) (hg2 : ∀ s l t, g2 s l t ≤ 2) {n : Nat} : ∀ m, (jN g1 g2 r ao n js0).1 ≤ (jN g1 g2 r ao (n + m) js0).1 := by
  intro m
  induction m with
  | zero => exact Nat.le_refl _
  | succ m ih => exact Nat.le_trans ih (jL_I hg1 hg2 (jN_I hg1 hg2 (n + m)) 3 (Nat.le_refl 3)).2
/-- where all that was come to has been looked at -/
theorem jN_end (hg1 : ∀ s l t, g1 s l t ≤ 2) (hg2 : ∀ s l t, g2 s l t ≤ 2) : ∃ e, e ≤ 36 ∧ (jN g1 g2 r ao e js0).1 ≤ e ∧ ∀ n, n < e → n < (jN g1 g2 r ao n js0).1 := by
  obtain ⟨e, h1, h2⟩ := pk_least (fun n => (jN g1 g2 r ao n js0).1 ≤ n) ⟨36, jP _ (jN_I hg1 hg2 36)⟩
  refine ⟨e, ?_, h1, fun n hn => by have := h2 n hn; omega⟩
  refine Classical.byContradiction fun hc => h2 36 (by omega) (jP _ (jN_I hg1 hg2 36))
theorem jN_wf (hg1 : ∀ s l t, g1 s l t ≤ 2) (hg2 : ∀ s l t, g2 s l t ≤ 2) {e : Nat} (h1 : ∀ n, n < e → n < (jN g1 g2 r ao n js0).1) (h6 : (jN g1 g2 r ao e js0).1 ≤ 6) : GW (jN g1 g2 r ao e js0).1 (jN g1 g2 r ao e js0).2.2.2 := by
  obtain ⟨i1, i2, i3, i4, i5⟩ := jN_I (r := r) (ao := ao) hg1 hg2 e
  refine ⟨⟨i4, h6⟩, fun a l b => ⟨(i3 a l b).1, fun z => ?_⟩⟩
  obtain ⟨p, q, w⟩ := (i3 a l b).2 z
  have hae : a < e := by omega
  have h2 := h1 a hae
  have h3 := jN_mono (r := r) (ao := ao) hg1 hg2 (n := a) (e - a)
  rw [show a + (e - a) = e by omega] at h3
  exact ⟨by omega, q, p⟩
/-- a step that does nothing -/
theorem js_0 {st : JS} {n l K : Nat} (h : jc g1 g2 r n l K st = false) : js g1 g2 r ao n l K st = st := by
  unfold js
  rw [h]
  rfl
end JIN
