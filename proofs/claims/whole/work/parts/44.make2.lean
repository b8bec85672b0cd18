/-! ===== call: make ===== -/
theorem KM.of2 {F A F' A' : Nat → Nat → Int32} {LF LA : List Nat} (hF : sF LF F F') (hA : sA LA A A') (h1 : ∀ x, x ∈ LF → x < 6200) (h2 : ∀ x, x ∈ LA → x < 62) : KM F A F' A' := by
  intro o ho
  refine ⟨hA o (fun z => ?_), ?_⟩
  · have := h2 o z
    omega
  · funext k
    refine hF o k (fun z => ?_)
    have := h1 _ z
    omega
theorem gset2_wf {n : Nat} {g : Nat → Nat → Nat → Nat} (h : GW n g) {v : Nat} (hv : v ≤ 2) : GW n (gset2 g v) := by
  refine ⟨h.1, fun s l t => ?_⟩
  obtain ⟨h1, h2⟩ := h.2 s l t
  unfold gset2
  split
  · rename_i e
    exact ⟨hv, fun _ => h2 (by omega)⟩
  · exact ⟨h1, h2⟩
section MAKE
variable {S : SP}
theorem op_make (W : Wf S) (x y z : Int32) : OP n_MM_make n_Mo_make [.int x, .int y, .int z] S := by
  rcases ix4 x (n := 6) (by decide) with hx | ⟨i, hi, rfl⟩
  · refine op_ro W (-1) (fun Y F A hC => ?_) (fun Y F A hM => ?_)
    · refine rn_in m_MM_make rfl ⟨rfl, rfl⟩ ?_
      show ev _ t_MM_make 0 [.ref 9, .int x, .int y, .int z] [] _ _
      repeat (refine ev_np [] rfl rfl rfl ?_)
      refine ev_ca rfl (c_MM_noPlanT 78 hx) ?_
      repeat (refine ev_np [] rfl rfl rfl ?_)
      exact ev_ri rfl rfl
    · refine rn_in m_Mo_make rfl ⟨rfl, rfl⟩ ?_
      show ev _ t_Mo_make 0 [.ref 62, .int x, .int y, .int z, .float 0, .float 0] [] _ _
      repeat (refine ev_np [] rfl rfl rfl ?_)
      refine ev_pf rfl (by rfl) ⟨by rfl, by rfl⟩ ?_
      repeat (refine ev_np [] rfl rfl rfl ?_)
      refine ev_ca rfl (c_Mo_isPlanF 77 hx) ?_
      repeat (refine ev_np [] rfl rfl rfl ?_)
      exact ev_ri rfl rfl
  rcases ix4 z (n := 6) (by decide) with hz | ⟨j, hj, rfl⟩
  · refine op_ro W (-1) (fun Y F A hC => ?_) (fun Y F A hM => ?_)
    · refine rn_in m_MM_make rfl ⟨rfl, rfl⟩ ?_
      show ev _ t_MM_make 0 [.ref 9, .int (nI i), .int y, .int z] [] _ _
      repeat (refine ev_np [] rfl rfl rfl ?_)
      refine ev_ca rfl (c_MM_noPlanF 78 hi) ?_
      repeat (refine ev_np [] rfl rfl rfl ?_)
      refine ev_ca rfl (c_MM_noPlanT 78 hz) ?_
      repeat (refine ev_np [] rfl rfl rfl ?_)
      exact ev_ri rfl rfl
    · refine rn_in m_Mo_make rfl ⟨rfl, rfl⟩ ?_
      show ev _ t_Mo_make 0 [.ref 62, .int (nI i), .int y, .int z, .float 0, .float 0] [] _ _
      repeat (refine ev_np [] rfl rfl rfl ?_)
      refine ev_pf rfl (by rfl) ⟨by rfl, by rfl⟩ ?_
      repeat (refine ev_np [] rfl rfl rfl ?_)
      refine ev_ca rfl (c_Mo_isPlanT 77 hi) ?_
      repeat (refine ev_np [] rfl rfl rfl ?_)
      refine ev_ca rfl (c_Mo_in 78 _ _ _) ?_
      rcases let3 y with hy | ⟨k, hk, rfl⟩
      · rw [show (2 : Int32) = nI 2 from rfl, in_T (N := 2) (by omega) hy]
        repeat (refine ev_np [] rfl rfl rfl ?_)
        exact ev_ri rfl rfl
      · rw [show (2 : Int32) = nI 2 from rfl, in_F (N := 2) (by omega) (by omega)]
        repeat (refine ev_np [] rfl rfl rfl ?_)
        refine ev_ca rfl (c_Mo_isPlanF 77 hz) ?_
        repeat (refine ev_np [] rfl rfl rfl ?_)
        exact ev_ri rfl rfl
  rcases let3 y with hy | ⟨k, hk, rfl⟩
  · refine op_ro W (-1) (fun Y F A hC => ?_) (fun Y F A hM => ?_)
    · refine rn_in m_MM_make rfl ⟨rfl, rfl⟩ ?_
      show ev _ t_MM_make 0 [.ref 9, .int (nI i), .int y, .int (nI j)] [] _ _
      repeat (refine ev_np [] rfl rfl rfl ?_)
      refine ev_ca rfl (c_MM_noPlanF 78 hi) ?_
      repeat (refine ev_np [] rfl rfl rfl ?_)
      refine ev_ca rfl (c_MM_noPlanF 78 hj) ?_
      repeat (refine ev_np [] rfl rfl rfl ?_)
      refine ev_if (fun c => ?_) (fun c => ?_)
      · repeat (refine ev_np [] rfl rfl rfl ?_)
        exact ev_ri rfl rfl
      · repeat (refine ev_np [] rfl rfl rfl ?_)
        refine ev_ie (out_le (n := 2) (by decide) hy c) ?_
        repeat (refine ev_np [] rfl rfl rfl ?_)
        exact ev_ri rfl rfl
    · refine rn_in m_Mo_make rfl ⟨rfl, rfl⟩ ?_
      show ev _ t_Mo_make 0 [.ref 62, .int (nI i), .int y, .int (nI j), .float 0, .float 0] [] _ _
      repeat (refine ev_np [] rfl rfl rfl ?_)
      refine ev_pf rfl (by rfl) ⟨by rfl, by rfl⟩ ?_
      repeat (refine ev_np [] rfl rfl rfl ?_)
      refine ev_ca rfl (c_Mo_isPlanT 77 hi) ?_
      repeat (refine ev_np [] rfl rfl rfl ?_)
      refine ev_ca rfl (c_Mo_in 78 _ _ _) ?_
      rw [show (2 : Int32) = nI 2 from rfl, in_T (N := 2) (by omega) hy]
      repeat (refine ev_np [] rfl rfl rfl ?_)
      exact ev_ri rfl rfl
  have wi := W.2.1 i hi
  obtain ⟨n, hn⟩ : ∃ a, a = (S.2.1 i).1 := ⟨_, rfl⟩
  obtain ⟨g, hg⟩ : ∃ a, a = (S.2.1 i).2 := ⟨_, rfl⟩
  rw [← hn, ← hg] at wi
  have clas : ∀ Y F A, RC F A S → ∀ q, ev 79 t_MM_make 25 [.ref 9, .int (nI i), .int (nI k), .int (nI j)] [] (hp Y F A) q → ev 79 t_MM_make 0 [.ref 9, .int (nI i), .int (nI k), .int (nI j)] [] (hp Y F A) q := by
    intro Y F A hC q hq
    repeat (refine ev_np [] rfl rfl rfl ?_)
    refine ev_ca rfl (c_MM_noPlanF 78 hi) ?_
    repeat (refine ev_np [] rfl rfl rfl ?_)
    refine ev_ca rfl (c_MM_noPlanF 78 hj) ?_
    repeat (refine ev_np [] rfl rfl rfl ?_)
    refine ev_ie (nI_pos (by omega)) ?_
    repeat (refine ev_np [] rfl rfl rfl ?_)
    refine ev_it (nI_le (b := 2) (by omega) (by omega)) ?_
    exact hq
  have model : ∀ Y F A, RM F A S → ∀ q, ev 79 t_Mo_make 30 [.ref 62, .int (nI i), .int (nI k), .int (nI j), .float 0, .float 0] [] (hp Y (uF F 62 0 0) A) q → ev 79 t_Mo_make 0 [.ref 62, .int (nI i), .int (nI k), .int (nI j), .float 0, .float 0] [] (hp Y F A) q := by
    intro Y F A hM q hq
    repeat (refine ev_np [] rfl rfl rfl ?_)
    refine ev_pf rfl (by rfl) ⟨by rfl, by rfl⟩ ?_
    repeat (refine ev_np [] rfl rfl rfl ?_)
    refine ev_ca rfl (c_Mo_isPlanT 77 hi) ?_
    repeat (refine ev_np [] rfl rfl rfl ?_)
    refine ev_ca rfl (c_Mo_in 78 _ _ _) ?_
    rw [show (2 : Int32) = nI 2 from rfl, in_F (N := 2) (by omega) (by omega)]
    repeat (refine ev_np [] rfl rfl rfl ?_)
    refine ev_ca rfl (c_Mo_isPlanT 77 hj) ?_
    repeat (refine ev_np [30] rfl rfl rfl ?_)
    exact hq
  have clasE : ∀ Y F A N G, CP F A 29 N G → ∃ F' A', sA [11 + 3 * j + 1, 11 + 3 * j + 2] A A' ∧ sF [(11 + 3 * j) * 100] F F' ∧ CP F' A' (11 + 3 * j) N G ∧ ev 79 t_MM_make 104 [.ref 9, .int (nI i), .int (nI k), .int (nI j)] [] (hp Y F A) (some (.int (nI N)), hp Y F' A') := by
    intro Y F A N G hc
    obtain ⟨F1, A1, b1, b2, b3, b4⟩ := c_Plan_become (Y := Y) 78 (PLi hj) PL29 hc
    refine ⟨F1, A1, b2, b3, b4, ?_⟩
    repeat (first | refine ev_np [] rfl rfl rfl ?_ | refine ev_grs [] rfl rfl (by rfl) (by rfl) ?_)
    refine ev_aa rfl hj ?_
    repeat (first | refine ev_np [] rfl rfl rfl ?_ | refine ev_grs [] rfl rfl (by rfl) (by rfl) ?_)
    refine ev_vc rfl (by rfl) (PLi hj).1 rfl b1 ?_
    repeat (first | refine ev_np [] rfl rfl rfl ?_ | refine ev_grs [] rfl rfl (by rfl) (by rfl) ?_)
    refine ev_vc rfl (by rfl) PL29.1 rfl (c_Plan_size 78 PL29) ?_
    refine ev_ri rfl ?_
    rw [b3 29 0 (by simp; omega)]
    exact hc.1
  have modelE : ∀ Y F A N G, MP A 6 N G → ∃ A', sA [63, 64] A A' ∧ (∀ i' n' g', i' < 8 → i' ≠ j → MP A i' n' g' → MP A' i' n' g') ∧ MP A' j N G ∧ ∀ v4 v5 : Value, ev 79 t_Mo_make 105 [.ref 62, .int (nI i), .int (nI k), .int (nI j), v4, v5] [] (hp Y F A) (some (.int (nI N)), hp Y F A') := by
    intro Y F A N G hm
    obtain ⟨A1, b1, b2, b3, b4⟩ := c_Mo_copies (Y := Y) (F := F) 78 (i := 6) (j := j) (by decide) (by omega) hm
    refine ⟨A1, b2, b4, b3, fun v4 v5 => ?_⟩
    repeat (refine ev_np [] rfl rfl rfl ?_)
    refine ev_vc rfl (by rfl) (by rfl) rfl (b1) ?_
    repeat (first | refine ev_np [] rfl rfl rfl ?_ | refine ev_grs [] rfl rfl (by rfl) (by rfl) ?_)
    refine ev_an rfl (by rfl) rfl (by omega) rfl ?_
    exact ev_ri rfl b3.1
  by_cases hk2 : k = 2
  · subst hk2
    obtain ⟨N, hN⟩ : ∃ N, N = cnt (rch g (lst n (wE n n g g)) n 6) 6 := ⟨_, rfl⟩
    obtain ⟨G, hG⟩ : ∃ G, G = cfo g (lst n (wE n n g g)) (rch g (lst n (wE n n g g)) n 6) 108 := ⟨_, rfl⟩
    have hwf : GW N G := by rw [hN, hG]; exact cfo_wf wi (lst_le n _)
    refine ⟨nI N, sPlan S j (N, G), sPlan_wf W hwf, fun Y F A hC => ?_, fun Y F A hM => ?_⟩
    · have hci := hC.2.1 i hi
      rw [← hn, ← hg] at hci
      obtain ⟨F1, A1, a1, a2, a3, a4, -⟩ := c_Rounds_play (Y := Y) 73 (PLi hi) (PLi hi) hci hci wi.1 wi.1
      have hC1 := hC.keep a2 a3 ⟨rfl, rfl⟩
      have hci1 := hC1.2.1 i hi
      rw [← hn, ← hg] at hci1
      obtain ⟨F2, A2, b1, b2, b3, b4⟩ := c_Shrinker_shrink (Y := Y) 74 (PLi hi) (by omega) hci1 wi a4 (wE_lt n n g g)
      rw [← hN, ← hG] at b4
      obtain ⟨F3, A3, c1, c2, c3, c4⟩ := clasE Y F2 A2 N G b4
      have sa : sA ((11 + 3 * j + 1) :: (11 + 3 * j + 2) :: [47, 48, 49, 51, 30, 31]) A A3 := (a2.mono (by simp)).tr ((b2.mono (by simp)).tr (c1.mono (by simp)))
      have sf : sF ((11 + 3 * j) * 100 :: [4502, 4503, 2900]) F F3 := (a3.mono (by simp)).tr ((b3.mono (by simp)).tr (c2.mono (by simp)))
      refine ⟨F3, A3, ?_, hC.plan hj sa sf ⟨rfl, rfl⟩ c3, KM.of2 sf sa (fun x hx => by simp at hx; omega) (fun x hx => by simp at hx; omega)⟩
      refine rn_in m_MM_make rfl ⟨rfl, rfl⟩ ?_
      show ev _ t_MM_make 0 [.ref 9, .int (nI i), .int (nI 2), .int (nI j)] [] _ _
      refine clas Y F A hC _ ?_
      repeat (first | refine ev_np [] rfl rfl rfl ?_ | refine ev_grs [] rfl rfl (by rfl) (by rfl) ?_)
      refine ev_aa rfl hi ?_
      repeat (first | refine ev_np [] rfl rfl rfl ?_ | refine ev_grs [] rfl rfl (by rfl) (by rfl) ?_)
      refine ev_aa rfl hi ?_
      refine ev_vc rfl (by rfl) (by rfl) rfl (a1) ?_
      repeat (first | refine ev_np [] rfl rfl rfl ?_ | refine ev_grs [] rfl rfl (by rfl) (by rfl) ?_)
      refine ev_aa rfl hi ?_
      repeat (first | refine ev_np [] rfl rfl rfl ?_ | refine ev_grs [] rfl rfl (by rfl) (by rfl) ?_)
      refine ev_vc rfl (by rfl) (by rfl) rfl (b1) ?_
      repeat (refine ev_np [104] rfl rfl rfl ?_)
      exact c4
    · have hM0 := hM.thrown 0
      have hmi := hM0.2.1 i hi
      rw [← hn, ← hg] at hmi
      obtain ⟨A1, a1, a2, a3, a4⟩ := c_Mo_smalls (Y := Y) (F := uF F 62 0 0) 74 hi hmi wi
      rw [← hN, ← hG] at a4
      obtain ⟨A2, b1, b2, b3, b4⟩ := modelE Y (uF F 62 0 0) A1 N G a4
      have sa : sA (63 :: 64 :: [70, 71, 72]) A A2 := (a2.mono (by decide)).tr (b1.mono (by decide))
      refine ⟨uF F 62 0 0, A2, ?_, hM0.plan sa rfl (fun k n g h8 hkj hk6 h => b2 _ _ _ h8 hkj (a3 _ _ _ h8 hk6 h)) hj b3, (KC.fld F A 0 0).tr (KC.sA sa rfl)⟩
      refine rn_in m_Mo_make rfl ⟨rfl, rfl⟩ ?_
      show ev _ t_Mo_make 0 [.ref 62, .int (nI i), .int (nI 2), .int (nI j), .float 0, .float 0] [] _ _
      refine model Y F A hM _ ?_
      repeat (refine ev_np [] rfl rfl rfl ?_)
      refine ev_vc rfl (by rfl) (by rfl) rfl (a1) ?_
      repeat (refine ev_np [105] rfl rfl rfl ?_)
      exact b4 _ _
  · have hk1 : k < 2 := by omega
    refine ⟨nI n, sPlan S j (n, gset2 g (2 * k)), sPlan_wf W (gset2_wf wi (by omega)), fun Y F A hC => ?_, fun Y F A hM => ?_⟩
    · have hci := hC.2.1 i hi
      rw [← hn, ← hg] at hci
      obtain ⟨F1, A1, a1, a2, a3, a4⟩ := c_Plan_become (Y := Y) 78 PL29 (PLi hi) hci
      obtain ⟨A2, b1, b2, b3⟩ := c_Plan_settle (Y := Y) 78 PL29 a4 (decide (k = 1))
      rw [show (bif decide (k = 1) then 2 else 0) = 2 * k by
        by_cases e : k = 1
        · subst e; rfl
        · rw [show k = 0 by omega]; rfl] at b3
      obtain ⟨F3, A3, c1, c2, c3, c4⟩ := clasE Y F1 A2 n _ b3
      have sa : sA ((11 + 3 * j + 1) :: (11 + 3 * j + 2) :: [30, 31]) A A3 := (a2.mono (by simp)).tr ((b2.mono (by simp)).tr (c1.mono (by simp)))
      have sf : sF ((11 + 3 * j) * 100 :: [2900]) F F3 := (a3.mono (by simp)).tr (c2.mono (by simp))
      refine ⟨F3, A3, ?_, hC.plan hj sa sf ⟨rfl, rfl⟩ c3, KM.of2 sf sa (fun x hx => by simp at hx; omega) (fun x hx => by simp at hx; omega)⟩
      refine rn_in m_MM_make rfl ⟨rfl, rfl⟩ ?_
      show ev _ t_MM_make 0 [.ref 9, .int (nI i), .int (nI k), .int (nI j)] [] _ _
      refine clas Y F A hC _ ?_
      repeat (refine ev_np [] rfl rfl rfl ?_)
      refine ev_it (fun z => hk2 ((nI_eq (a := k) (b := 2) (by omega) (by omega)).mp z)) ?_
      repeat (first | refine ev_np [] rfl rfl rfl ?_ | refine ev_grs [] rfl rfl (by rfl) (by rfl) ?_)
      refine ev_aa rfl hi ?_
      refine ev_vc rfl (by rfl) PL29.1 rfl a1 ?_
      repeat (first | refine ev_np [] rfl rfl rfl ?_ | refine ev_grs [] rfl rfl (by rfl) (by rfl) ?_)
      by_cases e : k = 1
      · subst e
        repeat (refine ev_np [] rfl rfl rfl ?_)
        refine ev_vc rfl (by rfl) PL29.1 rfl b1 ?_
        exact c4
      · have : k = 0 := by omega
        subst this
        repeat (refine ev_np [] rfl rfl rfl ?_)
        refine ev_vc rfl (by rfl) PL29.1 rfl b1 ?_
        exact c4
    · have hM0 := hM.thrown 0
      have hmi := hM0.2.1 i hi
      rw [← hn, ← hg] at hmi
      obtain ⟨A1, a1, a2, a3, a4⟩ := c_Mo_copies (Y := Y) (F := uF F 62 0 0) 78 (i := i) (j := 6) (by omega) (by decide) hmi
      have hix : ∀ (a k : Nat), 108 * nI a + nI k = nI (108 * a + k) := fun a k => by rw [show (108 : Int32) = nI 108 from rfl, pk_mul, nI_add]
      have hi1 : MP A1 i n g := a4 _ _ _ (by omega) (by omega) hmi
      obtain ⟨A2, ⟨i1, i2⟩, h3⟩ := lp_ex (α := Nat → Nat → Int32) (fun m B => sA [63] A1 B ∧ ∀ z, B 63 z = if 648 ≤ z ∧ z < 648 + m then nI (gk (gset2 g (2 * k)) (z - 648)) else A1 63 z) (fun m B q => ∀ v5 : Value, ev 79 t_Mo_make 53 [.ref 62, .int (nI i), .int (nI k), .int (nI j), .int (nI m), v5] [] (hp Y (uF F 62 0 0) B) q) 108 (fun m B hm hI => by
        obtain ⟨i1, i2⟩ := hI
        have ev0 : B 63 (108 * i + m) = nI (gk g m) := by
          rw [i2, if_neg (by omega)]
          unfold gk
          rw [← hi1.2 (m / 6 / 3) (m / 6 % 3) (m % 6) (by omega) (by omega) (by omega)]
          congr 1
          omega
        have hle : gk g m ≤ 2 := (wi.2 _ _ _).1
        have hgk : gk (gset2 g (2 * k)) m = if gk g m = 1 then 2 * k else gk g m := rfl
        refine ⟨va_up B 63 (upd (B 63) (648 + m) (nI (gk (gset2 g (2 * k)) m))), ⟨i1.tr (sA.up (by decide)), fun z => ?_⟩, fun q hq v5 => ?_⟩
        · rw [va_up_s]
          unfold upd
          by_cases e : z = 648 + m
          · rw [if_pos e, if_pos (by omega), show z - 648 = m by omega]
          · rw [if_neg e, i2]
            by_cases e2 : 648 ≤ z ∧ z < 648 + m
            · rw [if_pos e2, if_pos (by omega)]
            · rw [if_neg e2, if_neg (by omega)]
        · rw [nI_succ] at hq
          repeat (refine ev_np [] rfl rfl rfl ?_)
          refine ev_ie (nI_ge (b := 108) hm (by omega)) ?_
          repeat (first | refine ev_np [] rfl rfl rfl ?_ | refine ev_grs [] rfl rfl (by rfl) (by rfl) ?_)
          refine ev_an rfl (by rfl) (hix i m) (by omega) rfl ?_
          rw [ev0]
          repeat (first | refine ev_np [] rfl rfl rfl ?_ | refine ev_grs [] rfl rfl (by rfl) (by rfl) ?_)
          by_cases e : gk g m = 1
          · rw [hgk, if_pos e] at hq
            rw [e]
            repeat (refine ev_np [] rfl rfl rfl ?_)
            refine ev_am rfl (by rfl) (j := 648 + m) (by rw [show (648 : Int32) = nI 648 from rfl, nI_add]) (by omega) rfl ?_
            repeat (refine ev_np [53] rfl rfl rfl ?_)
            rw [show 2 * nI k = nI (2 * k) by rw [show (2 : Int32) = nI 2 from rfl, pk_mul]]
            exact hq _
          · rw [hgk, if_neg e] at hq
            refine ev_it (fun z => e ((nI_eq (a := gk g m) (b := 1) (by omega) (by omega)).mp z)) ?_
            repeat (refine ev_np [] rfl rfl rfl ?_)
            refine ev_am rfl (by rfl) (j := 648 + m) (by rw [show (648 : Int32) = nI 648 from rfl, nI_add]) (by omega) rfl ?_
            repeat (refine ev_np [53] rfl rfl rfl ?_)
            exact hq _) 108 0 A1 rfl ⟨sA.rf, fun z => by rw [if_neg (by omega)]⟩
      have h6 : MP A2 6 n (gset2 g (2 * k)) := by
        refine ⟨by rw [i1 64 (by decide)]; exact a3.1, fun s l t hs hl ht => ?_⟩
        rw [i2, if_pos (by omega)]
        unfold gk
        rw [show 108 * 6 + 18 * s + 6 * l + t - 648 = 18 * s + 6 * l + t by omega, show (18 * s + 6 * l + t) / 6 / 3 = s by omega, show (18 * s + 6 * l + t) / 6 % 3 = l by omega, show (18 * s + 6 * l + t) % 6 = t by omega]
      obtain ⟨A3, b1, b2, b3, b4⟩ := modelE Y (uF F 62 0 0) A2 n (gset2 g (2 * k)) h6
      have sa : sA (63 :: 64 :: []) A A3 := a2.tr ((i1.mono (by decide)).tr (b1.mono (by decide)))
      refine ⟨uF F 62 0 0, A3, ?_, hM0.plan sa rfl (fun k' n' g' h8 hkj hk6 h => b2 _ _ _ h8 hkj ?_) hj b3, (KC.fld F A 0 0).tr (KC.sA sa rfl)⟩
      · refine rn_in m_Mo_make rfl ⟨rfl, rfl⟩ ?_
        show ev _ t_Mo_make 0 [.ref 62, .int (nI i), .int (nI k), .int (nI j), .float 0, .float 0] [] _ _
        refine model Y F A hM _ ?_
        repeat (refine ev_np [] rfl rfl rfl ?_)
        refine ev_it (fun z => hk2 ((nI_eq (a := k) (b := 2) (by omega) (by omega)).mp z)) ?_
        repeat (refine ev_np [] rfl rfl rfl ?_)
        refine ev_vc rfl (by rfl) (by rfl) rfl (a1) ?_
        repeat (refine ev_np [53] rfl rfl rfl ?_)
        refine h3 _ (fun v5 => ?_) _
        repeat (refine ev_np [105] rfl rfl rfl ?_)
        exact b4 _ _
      · have h1 := a4 _ _ _ h8 hk6 h
        refine ⟨by rw [i1 64 (by decide)]; exact h1.1, fun s l t hs hl ht => ?_⟩
        rw [i2, if_neg (by omega)]
        exact h1.2 s l t hs hl ht
end MAKE
