/-! ===== call: plan, both ===== -/
def fsm (e : lo_E) : Bool := match e with
  | .inl _ => true
  | .inr (_, sp) => sp.all (fun x => match x with
    | .inl k => Nat.blt k 100
    | .inr _ => true)
theorem lo_mk_congr {F F' A : Nat → Nat → Int32} (h : ∀ o k, k < 100 → F o k = F' o k) : ∀ (es : List lo_E) (o : Nat), es.all fsm = true → lo_mk F A o es = lo_mk F' A o es := by
  intro es
  induction es with
  | nil => intro o _; rfl
  | cons e es ih =>
    intro o he
    rw [List.all_cons, Bool.and_eq_true] at he
    simp only [lo_mk]
    rw [ih (o + 1) he.2]
    congr 1
    unfold lo_cell
    split
    · rfl
    · rename_i ci sp
      congr 2
      apply List.map_congr_left
      intro x hx
      unfold lo_v
      split
      · rename_i k
        have := List.all_eq_true.mp (show sp.all _ = true from he.1) _ hx
        rw [h o k (Nat.le_of_ble_eq_true this)]
      · rfl
theorem hp_congr {Y : Nat × (Nat → Int32)} {F F' A : Nat → Nat → Int32} (h : ∀ o k, k < 100 → F o k = F' o k) : hp Y F A = hp Y F' A := by
  unfold hp
  rw [lo_mk_congr h lo_lay 9 (by decide +kernel)]
/-- the model's fields alone have changed -/
theorem nrm {F F' : Nat → Nat → Int32} {L : List Nat} (h : sF L F F') (hk : (L.all fun x => Nat.ble 6200 x && Nat.blt x 6300) = true) : ∃ G : Nat → Nat → Int32, (∀ Y A, hp Y F' A = hp Y G A) ∧ G 62 = F' 62 ∧ ∀ o, o < 62 → G o = F o := by
  refine ⟨fun o k => if o < 62 then F o k else F' o k, fun Y A => hp_congr (fun o k hk9 => ?_), rfl, fun o ho => ?_⟩
  · by_cases ho : o < 62
    · show F' o k = if o < 62 then F o k else F' o k
      rw [if_pos ho]
      refine h o k (fun z => ?_)
      have := List.all_eq_true.mp hk _ z
      rw [Bool.and_eq_true] at this
      have := Nat.le_of_ble_eq_true this.1
      omega
    · show F' o k = if o < 62 then F o k else F' o k
      rw [if_neg ho]
  · funext k
    show (if o < 62 then F o k else F' o k) = F o k
    rw [if_pos ho]
section OPP
variable {S : SP}
theorem RM.f62 {F G A : Nat → Nat → Int32} (h : RM F A S) (e : G 62 = F 62) : RM G A S := by
  unfold RM at *
  rw [e]
  exact h
set_option maxRecDepth 100000 in
theorem flt_tab : (List.range 301).all (fun f => (List.range 1).all fun _ => decide (-10 - nI f < 0)) = true := by decide +kernel
theorem flt_neg {f : Nat} (h : f ≤ 300) : -10 - nI f < 0 := tab2 (P := fun f _ => -10 - nI f < 0) (j := 0) flt_tab (by omega) (by decide)
set_option maxRecDepth 20000 in
theorem op_plan (W : Wf S) (x : Int32) : OP n_MM_plan n_Mo_plan [.int x] S := by
  rcases ix4 x (n := 6) (by decide) with hx | ⟨i, hi, rfl⟩
  · refine op_ro W (-1) (fun Y F A hC => ?_) (fun Y F A hM => ?_)
    · refine rn_in m_MM_plan rfl ⟨rfl, rfl⟩ ?_
      show ev _ t_MM_plan 0 [.ref 9, .int x, .float 0] [] _ _
      repeat (refine ev_np [] rfl rfl rfl ?_)
      refine ev_ca rfl (c_MM_noPlanT 78 hx) ?_
      repeat (refine ev_np [] rfl rfl rfl ?_)
      exact ev_ri rfl rfl
    · refine rn_in m_Mo_plan rfl ⟨rfl, rfl⟩ ?_
      show ev _ t_Mo_plan 0 [.ref 62, .int x, .float 0, .float 0, .float 0, .float 0, .float 0, .float 0, .float 0] [] _ _
      repeat (refine ev_np [] rfl rfl rfl ?_)
      refine ev_pf rfl (by rfl) ⟨by rfl, by rfl⟩ ?_
      repeat (refine ev_np [] rfl rfl rfl ?_)
      refine ev_ca rfl (c_Mo_isPlanF 77 hx) ?_
      repeat (refine ev_np [] rfl rfl rfl ?_)
      exact ev_ri rfl rfl
  obtain ⟨N, hN⟩ : ∃ N, TN S.1.1 S.1.2 N := tok_end
  obtain ⟨r, hr⟩ := ptx_ex hN W.1.1
  have tx : ∀ F A, RC F A S → TX F A S.1.1 S.1.2 := fun F A hC => ⟨hC.1.1, hC.1.2, W.1.1, W.1.2⟩
  have tm : ∀ F A, RM F A S → TM (uF F 62 0 0) A S.1.1 S.1.2 := fun F A hM => ⟨by rw [uF_n _ _ (by decide)]; exact hM.1.1, hM.1.2, W.1.1, W.1.2⟩
  cases r with
  | inl k =>
    have hwf : GW (two S.1.1 S.1.2 1) (pgr S.1.1 S.1.2 k) := pgr_wf (hd_n hr.1) k (fun j hj => (hr.2.2.1 j hj).2)
    have hk := hr.2.1
    refine ⟨nI k, sClear (sPlan S i (two S.1.1 S.1.2 1, pgr S.1.1 S.1.2 k)), sClear_wf (sPlan_wf W hwf), fun Y F A hC => ?_, fun Y F A hM => ?_⟩
    · obtain ⟨F1, A1, a1, a2, a3, a4⟩ := c_readPlan (Y := Y) 69 (tx F A hC) hN hr
      obtain ⟨F2, A2, b1, b2, b3, b4⟩ := c_Plan_become (Y := Y) 78 (PLi hi) PL29 (a4 k rfl)
      have sa : sA ((11 + 3 * i + 1) :: (11 + 3 * i + 2) :: [36, 37, 38, 30, 31]) A A2 := (a2.mono (by simp)).tr (b2.mono (by simp))
      have sf : sF ((11 + 3 * i) * 100 :: [3503, 3504, 2900]) F F2 := (a3.mono (by simp)).tr (b3.mono (by simp))
      have sf2 : sF ((11 + 3 * i) * 100 :: [3503, 3504, 2900, 3201]) F (uF F2 32 1 0) := (sf.mono (by simp)).tr (sF.up (by simp))
      refine ⟨uF F2 32 1 0, A2, ?_, (hC.plan hi sa sf ⟨rfl, rfl⟩ b4).clear, KM.of2 sf2 sa (fun x hx => by simp at hx; omega) (fun x hx => by simp at hx; omega)⟩
      refine rn_in m_MM_plan rfl ⟨rfl, rfl⟩ ?_
      show ev _ t_MM_plan 0 [.ref 9, .int (nI i), .float 0] [] _ _
      repeat (refine ev_np [] rfl rfl rfl ?_)
      refine ev_ca rfl (c_MM_noPlanF 78 hi) ?_
      repeat (first | refine ev_np [] rfl rfl rfl ?_ | refine ev_grs [] rfl rfl (by rfl) (by rfl) ?_)
      refine ev_vc rfl (by rfl) (by rfl) rfl (a1) ?_
      repeat (refine ev_np [] rfl rfl rfl ?_)
      refine ev_ie (nI_pos (by omega)) ?_
      repeat (first | refine ev_np [] rfl rfl rfl ?_ | refine ev_grs [] rfl rfl (by rfl) (by rfl) ?_)
      refine ev_aa rfl hi ?_
      repeat (first | refine ev_np [] rfl rfl rfl ?_ | refine ev_grs [] rfl rfl (by rfl) (by rfl) ?_)
      refine ev_vc rfl (by rfl) (PLi hi).1 rfl b1 ?_
      repeat (first | refine ev_np [] rfl rfl rfl ?_ | refine ev_grs [] rfl rfl (by rfl) (by rfl) ?_)
      refine ev_vc rfl (by rfl) (by rfl) rfl (c_Text_drain 78) ?_
      repeat (refine ev_np [] rfl rfl rfl ?_)
      exact ev_ri rfl rfl
    · obtain ⟨F1, A1, a1, a2, a3, a4, a5⟩ := c_mplan (Y := Y) 74 (tm F A hM) hr (nI i)
      obtain ⟨A2, b1, b2, b3, b4⟩ := c_Mo_copies (Y := Y) (F := F1) (A := A1) 78 (i := 6) (j := i) (by decide) (by omega) a4
      have sa : sA (63 :: 64 :: []) A A2 := a2.tr b2
      have sf2 : sF [6200, 6204, 6205, 6206, 6207, 6208, 6209] F (uF F1 62 4 0) := (sF.up (by decide)).tr ((a1.mono (by decide)).tr (sF.up (by decide)))
      obtain ⟨G, g1, g2, g3⟩ := nrm sf2 rfl
      have hR1 : RM F1 A S := (hM.thrown 0).keep (sA.rf (L := [])) a1 ⟨rfl, rfl⟩
      have hR2 : RM F1 A2 (sPlan S i (two S.1.1 S.1.2 1, pgr S.1.1 S.1.2 k)) := hR1.plan sa rfl (fun k n g h8 hkj hk6 h => b4 _ _ _ h8 hkj (a3 _ _ _ h8 hk6 h)) hi b3
      refine ⟨G, A2, ?_, hR2.clear.f62 g2, fun o ho => ⟨sa o (fun z => by simp at z; omega), g3 o ho⟩⟩
      rw [← g1]
      refine rn_in m_Mo_plan rfl ⟨rfl, rfl⟩ ?_
      show ev _ t_Mo_plan 0 [.ref 62, .int (nI i), .float 0, .float 0, .float 0, .float 0, .float 0, .float 0, .float 0] [] _ _
      repeat (refine ev_np [] rfl rfl rfl ?_)
      refine ev_pf rfl (by rfl) ⟨by rfl, by rfl⟩ ?_
      repeat (refine ev_np [] rfl rfl rfl ?_)
      refine ev_ca rfl (c_Mo_isPlanT 77 hi) ?_
      repeat (refine ev_np [14] rfl rfl rfl ?_)
      refine a5 _ (fun v3 v4 v5 v6 v7 v8 => ?_)
      repeat (refine ev_np [] rfl rfl rfl ?_)
      refine ev_vc rfl (by rfl) (by rfl) rfl (b1) ?_
      repeat (refine ev_np [] rfl rfl rfl ?_)
      refine ev_pf rfl (by rfl) ⟨by rfl, by rfl⟩ ?_
      repeat (refine ev_np [] rfl rfl rfl ?_)
      exact ev_ri rfl rfl
  | inr f =>
    obtain ⟨rr, hrr⟩ : ∃ rr : Int32, rr = -10 - nI f := ⟨_, rfl⟩
    have hf : rr < 0 := by rw [hrr]; exact flt_neg hr.1
    refine ⟨rr, S, W, fun Y F A hC => ?_, fun Y F A hM => ?_⟩
    · obtain ⟨F1, A1, a1, a2, a3, a4⟩ := c_readPlan (Y := Y) 69 (tx F A hC) hN hr
      dsimp only at a1
      rw [← hrr] at a1
      refine ⟨F1, A1, ?_, hC.keep a2 a3 ⟨rfl, rfl⟩, KM.of a3 a2 ⟨rfl, rfl⟩⟩
      refine rn_in m_MM_plan rfl ⟨rfl, rfl⟩ ?_
      show ev _ t_MM_plan 0 [.ref 9, .int (nI i), .float 0] [] _ _
      repeat (refine ev_np [] rfl rfl rfl ?_)
      refine ev_ca rfl (c_MM_noPlanF 78 hi) ?_
      repeat (first | refine ev_np [] rfl rfl rfl ?_ | refine ev_grs [] rfl rfl (by rfl) (by rfl) ?_)
      refine ev_vc rfl (by rfl) (by rfl) rfl (a1) ?_
      repeat (refine ev_np [] rfl rfl rfl ?_)
      refine ev_it hf ?_
      repeat (refine ev_np [] rfl rfl rfl ?_)
      exact ev_ri rfl rfl
    · obtain ⟨F1, A1, a1, a2, a3, a4⟩ := c_mplan (Y := Y) 74 (tm F A hM) hr (nI i)
      have sf2 : sF [6200, 6205, 6206, 6207, 6208, 6209] F F1 := (sF.up (by decide)).tr (a1.mono (by decide))
      obtain ⟨G, g1, g2, g3⟩ := nrm sf2 rfl
      have hR1 : RM F1 A S := (hM.thrown 0).keep (sA.rf (L := [])) a1 ⟨rfl, rfl⟩
      have hR2 : RM F1 A1 S := hR1.keep6 (LA := []) a2 rfl a3
      refine ⟨G, A1, ?_, hR2.f62 g2, fun o ho => ⟨a2 o (fun z => by simp at z; omega), g3 o ho⟩⟩
      rw [← g1]
      refine rn_in m_Mo_plan rfl ⟨rfl, rfl⟩ ?_
      show ev _ t_Mo_plan 0 [.ref 62, .int (nI i), .float 0, .float 0, .float 0, .float 0, .float 0, .float 0, .float 0] [] _ _
      repeat (refine ev_np [] rfl rfl rfl ?_)
      refine ev_pf rfl (by rfl) ⟨by rfl, by rfl⟩ ?_
      repeat (refine ev_np [] rfl rfl rfl ?_)
      refine ev_ca rfl (c_Mo_isPlanT 77 hi) ?_
      repeat (refine ev_np [14] rfl rfl rfl ?_)
      rw [hrr]
      exact a4
end OPP
