/-! ===== call: type ===== -/
/-- the byte of a long, k from the right -/
def cby (v : Int64) (k : Nat) : Int32 := (v.toUInt64 >>> ((8 * nI k).toInt64.toUInt64 &&& Int64.toUInt64 63)).toInt64.toInt32 &&& 255
def mby (v : Int64) (k : Nat) : Int32 := ((v >>> ((8 * nI k).toInt64 &&& 63)) &&& Int64.ofNat 255).toInt32
theorem cby_n (v : Int64) (k : Nat) : ∃ j : Nat, j < 256 ∧ cby v k = nI j := pk_andE _ 8 (by decide)
theorem by_bits {x : BitVec 64} {n : Nat} (hn : n ≤ 56) : (x >>> n).setWidth 32 &&& 255#32 = ((x.sshiftRight n) &&& 255#64).setWidth 32 := by
  ext i hi
  have h1 : (255#32).getLsbD i = decide (i < 8) := by
    have := BitVec.getLsbD_ofNat 32 255 i
    rw [this, show (255 : Nat) = 2 ^ 8 - 1 from rfl, Nat.testBit_two_pow_sub_one]
    simp [hi]
  have h2 : (255#64).getLsbD i = decide (i < 8) := by
    have := BitVec.getLsbD_ofNat 64 255 i
    rw [this, show (255 : Nat) = 2 ^ 8 - 1 from rfl, Nat.testBit_two_pow_sub_one]
    simp [show i < 64 by omega]
  by_cases h8 : i < 8
  · simp [← BitVec.getLsbD_eq_getElem, h1, h2, h8, BitVec.getLsbD_sshiftRight, show i < 64 by omega, show n + i < 64 by omega, hi, show ¬ 64 ≤ i by omega]
  · simp [← BitVec.getLsbD_eq_getElem, h1, h2, h8]
theorem by_gen (v s : Int64) (t : UInt64) {n : Nat} (hn : n ≤ 56) (h1 : (s.toBitVec.smod 64#64).toNat = n) (h2 : (t.toBitVec % 64#64).toNat = n) : ((v >>> s) &&& Int64.ofNat 255).toInt32 = (v.toUInt64 >>> t).toInt64.toInt32 &&& 255 := by
  apply Int32.toBitVec_inj.mp
  rw [Int32.toBitVec_and, Int64.toBitVec_toInt32, Int64.toBitVec_toInt32, Int64.toBitVec_and, Int64.toBitVec_shiftRight, UInt64.toBitVec_toInt64, UInt64.toBitVec_shiftRight, Int64.toBitVec_toUInt64]
  rw [BitVec.signExtend_eq_setWidth_of_le _ (by decide), BitVec.signExtend_eq_setWidth_of_le _ (by decide)]
  rw [BitVec.sshiftRight_eq', show ∀ a b : BitVec 64, a >>> b = a >>> b.toNat from fun _ _ => rfl]
  have e1 : (s.toBitVec.smod (OfNat.ofNat 64)).toNat = n := h1
  have e2 : (t.toBitVec % (OfNat.ofNat 64)).toNat = n := h2
  rw [e1, e2]
  exact (by_bits hn).symm
theorem cby_mby (v : Int64) {k : Nat} (hk : k < 8) : mby v k = cby v k := by
  unfold mby cby
  have h : k = 0 ∨ k = 1 ∨ k = 2 ∨ k = 3 ∨ k = 4 ∨ k = 5 ∨ k = 6 ∨ k = 7 := by omega
  rcases h with rfl | rfl | rfl | rfl | rfl | rfl | rfl | rfl
  · exact by_gen v _ _ (n := 0) (by decide) (by decide) (by decide)
  · exact by_gen v _ _ (n := 8) (by decide) (by decide) (by decide)
  · exact by_gen v _ _ (n := 16) (by decide) (by decide) (by decide)
  · exact by_gen v _ _ (n := 24) (by decide) (by decide) (by decide)
  · exact by_gen v _ _ (n := 32) (by decide) (by decide) (by decide)
  · exact by_gen v _ _ (n := 40) (by decide) (by decide) (by decide)
  · exact by_gen v _ _ (n := 48) (by decide) (by decide) (by decide)
  · exact by_gen v _ _ (n := 56) (by decide) (by decide) (by decide)
def bN (v : Int64) (k : Nat) : Nat := (cby v k).toNatClampNeg
theorem bN_lt (v : Int64) (k : Nat) : bN v k < 256 := by
  obtain ⟨j, hj, h⟩ := cby_n v k
  unfold bN
  rw [h, nI_clamp (by omega)]
  exact hj
theorem cby_b (v : Int64) (k : Nat) : cby v k = nI (bN v k) := by
  obtain ⟨j, hj, h⟩ := cby_n v k
  unfold bN
  rw [h, nI_clamp (by omega)]
theorem n18 (x : Int32) : (x < 1 ∨ 8 < x) ∨ ∃ k, 1 ≤ k ∧ k ≤ 8 ∧ x = nI k := by
  rcases pk_ix x (n := 9) (by decide) with h | h | ⟨k, hk, rfl⟩
  · left; left
    rw [Int32.lt_iff_toInt_lt] at h ⊢
    have : (1 : Int32).toInt = 1 := by decide
    have : (0 : Int32).toInt = 0 := by decide
    omega
  · left; right
    rw [Int32.le_iff_toInt_le, nI_toInt (by omega)] at h
    rw [Int32.lt_iff_toInt_lt]
    have : (8 : Int32).toInt = 8 := by decide
    omega
  · by_cases h0 : k = 0
    · subst h0
      left; left
      decide
    · right
      exact ⟨k, by omega, by omega, rfl⟩
def kv (n m : Nat) : Int32 := if m < n then nI (n - 1 - m) else -1
theorem kv_s {n m : Nat} (h : m < n) : kv n m + (-1) = kv n (m + 1) := by
  unfold kv
  rw [if_pos h]
  by_cases h2 : m + 1 < n
  · rw [if_pos h2, show n - 1 - m = n - 1 - (m + 1) + 1 by omega, pk_m1]
  · rw [if_neg h2, show n - 1 - m = 0 by omega]
    decide
def sType (S : SP) (v : Int64) (n : Nat) : SP := ((S.1.1 + n, fun j => if S.1.1 ≤ j then bN v (n - 1 - (j - S.1.1)) else S.1.2 j), S.2)
section TYPE
variable {S : SP}
theorem sType_wf (W : Wf S) (v : Int64) {n : Nat} (h : S.1.1 + n ≤ 300) : Wf (sType S v n) := by
  refine ⟨⟨h, fun j => ?_⟩, W.2⟩
  show (if S.1.1 ≤ j then bN v (n - 1 - (j - S.1.1)) else S.1.2 j) < 256
  split
  · exact bN_lt v _
  · exact W.1.2 j
theorem c_Text_append {Y : Nat × (Nat → Int32)} {F A : Nat → Nat → Int32} (d : Nat) {T : Nat} {t : Nat → Nat} (v : Int64) {n : Nat} (h1 : 1 ≤ n) (h8 : n ≤ 8) (hT : T + n ≤ 300) (hF : F 32 1 = nI T) (hA : ∀ j, j < T → A 33 j = nI (t j)) : ∃ F' A', xa_rn xa_ms (d + 1) n_Text_append [.ref 32, .long v, .int (nI n)] (hp Y F A) (some (.int 1)) (hp Y F' A') ∧ sA [33] A A' ∧ sF [3201] F F' ∧ F' 32 1 = nI (T + n) ∧ ∀ j, j < T + n → A' 33 j = nI (if T ≤ j then bN v (n - 1 - (j - T)) else t j) := by
  obtain ⟨⟨F1, A1⟩, ⟨i1, i2, i3, i4⟩, h3⟩ := lp_ex (α := (Nat → Nat → Int32) × (Nat → Nat → Int32)) (fun m B => sA [33] A B.2 ∧ sF [3201] F B.1 ∧ B.1 32 1 = nI (T + m) ∧ ∀ j, j < T + m → B.2 33 j = nI (if T ≤ j then bN v (n - 1 - (j - T)) else t j)) (fun m B q => ev d t_Text_append 19 [.ref 32, .long v, .float 0, .int (nI n), .int (kv n m)] [] (hp Y B.1 B.2) q) n (fun m B hm hI => by
    obtain ⟨i1, i2, i3, i4⟩ := hI
    refine ⟨(uF B.1 32 1 (nI (T + m) + 1), va_up B.2 33 (upd (B.2 33) (T + m) (cby v (n - 1 - m)))), ⟨i1.tr (sA.up (by decide)), i2.tr (sF.up (by decide)), by dsimp only; rw [uF_s, nI_1]; rfl, fun j hj => ?_⟩, fun q hq => ?_⟩
    · dsimp only
      rw [va_up_s]
      unfold upd
      by_cases e : j = T + m
      · rw [if_pos e, if_pos (by omega), cby_b, show j - T = m by omega]
      · rw [if_neg e]
        exact i4 j (by omega)
    · rw [← kv_s hm, show kv n m = nI (n - 1 - m) from if_pos hm] at hq
      rw [show kv n m = nI (n - 1 - m) from if_pos hm]
      repeat (refine ev_np [] rfl rfl rfl ?_)
      refine ev_ie (nI_pos (by omega)) ?_
      repeat (first | refine ev_np [] rfl rfl rfl ?_ | refine ev_grs [] rfl rfl (by rfl) (by rfl) ?_)
      refine ev_gi rfl (by rfl) (by rfl) ?_
      rw [i3]
      repeat (refine ev_np [] rfl rfl rfl ?_)
      refine ev_am rfl (by rfl) (j := T + m) rfl (by omega) rfl ?_
      repeat (refine ev_np [] rfl rfl rfl ?_)
      refine ev_gi rfl (by rfl) (by rfl) ?_
      rw [i3]
      repeat (refine ev_np [] rfl rfl rfl ?_)
      refine ev_pf rfl (by rfl) ⟨by rfl, by rfl⟩ ?_
      repeat (refine ev_np [19] rfl rfl rfl ?_)
      exact hq) n 0 (F, A) (by omega) ⟨sA.rf, sF.rf, hF, fun j hj => by rw [if_neg (by omega)]; exact hA j hj⟩
  refine ⟨F1, A1, ?_, i1, i2, i3, i4⟩
  refine rn_in m_Text_append rfl ⟨rfl, rfl⟩ ?_
  show ev _ t_Text_append 0 [.ref 32, .long v, .float 0, .int (nI n), .float 0] [] _ _
  repeat (refine ev_np [] rfl rfl rfl ?_)
  refine ev_gi rfl (by rfl) (by rfl) ?_
  rw [hF]
  repeat (refine ev_np [] rfl rfl rfl ?_)
  refine ev_it (show nI n ≤ 300 - nI T by rw [show (300 : Int32) = nI 300 from rfl, pk_sub (by omega)]; exact nI_le (by omega) (by omega)) ?_
  repeat (refine ev_np [19] rfl rfl rfl ?_)
  rw [nI_m1 h1]
  have := h3 (some (.int 1), hp Y F1 A1)
  rw [show kv n 0 = nI (n - 1) from if_pos (by omega), show kv n n = -1 from if_neg (by omega)] at this
  refine this ?_
  repeat (refine ev_np [] rfl rfl rfl ?_)
  exact ev_rz rfl rfl (Or.inr rfl)
theorem op_type (W : Wf S) (v : Int64) (x : Int32) : OP n_MM_type n_Mo_type [.long v, .int x] S := by
  have wT := W.1.1
  rcases n18 x with hx | ⟨n, h1, h8, rfl⟩
  · refine op_ro W (-1) (fun Y F A hC => ?_) (fun Y F A hM => ?_)
    · refine rn_in m_MM_type rfl ⟨rfl, rfl⟩ ?_
      show ev _ t_MM_type 0 [.ref 9, .long v, .float 0, .int x] [] _ _
      repeat (refine ev_np [] rfl rfl rfl ?_)
      refine ev_if (fun c => ?_) (fun c => ?_)
      · repeat (refine ev_np [] rfl rfl rfl ?_)
        exact ev_ri rfl rfl
      · repeat (refine ev_np [] rfl rfl rfl ?_)
        refine ev_ie (fun z => ?_) ?_
        · rcases hx with hx | hx
          · exact c hx
          · exact absurd (show x ≤ 8 from z) (Int32.not_le.mpr hx)
        repeat (refine ev_np [] rfl rfl rfl ?_)
        exact ev_ri rfl rfl
    · refine rn_in m_Mo_type rfl ⟨rfl, rfl⟩ ?_
      show ev _ t_Mo_type 0 [.ref 62, .long v, .float 0, .int x, .float 0] [] _ _
      repeat (refine ev_np [] rfl rfl rfl ?_)
      refine ev_pf rfl (by rfl) ⟨by rfl, by rfl⟩ ?_
      repeat (refine ev_np [] rfl rfl rfl ?_)
      refine ev_ca rfl (c_Mo_in 78 _ _ _) ?_
      have e : (decide (¬ x < 1) && decide (¬ (8 : Int32) < x)) = false := by
        rcases hx with hx | hx
        · simp [hx]
        · simp [hx]
      rw [e]
      repeat (refine ev_np [] rfl rfl rfl ?_)
      exact ev_ri rfl rfl
  have e18 : (decide (¬ nI n < 1) && decide (¬ (8 : Int32) < nI n)) = true := by
    simp [show ¬ nI n < 1 from nI_nlt (b := 1) h1 (by omega), show ¬ (8 : Int32) < nI n from nI_nlt (a := 8) h8 (by omega)]
  by_cases hT : S.1.1 + n ≤ 300
  · refine ⟨nI (S.1.1 + n), sType S v n, sType_wf W v hT, fun Y F A hC => ?_, fun Y F A hM => ?_⟩
    · obtain ⟨F1, A1, b1, b2, b3, b4, b5⟩ := c_Text_append (Y := Y) 78 v h1 h8 hT hC.1.1 hC.1.2
      refine ⟨F1, A1, ?_, ?_, KM.of b3 b2 ⟨rfl, rfl⟩⟩
      · refine rn_in m_MM_type rfl ⟨rfl, rfl⟩ ?_
        show ev _ t_MM_type 0 [.ref 9, .long v, .float 0, .int (nI n)] [] _ _
        repeat (refine ev_np [] rfl rfl rfl ?_)
        refine ev_ie (nI_nlt (b := 1) h1 (by omega)) ?_
        repeat (refine ev_np [] rfl rfl rfl ?_)
        refine ev_it (nI_le (b := 8) h8 (by omega)) ?_
        repeat (first | refine ev_np [] rfl rfl rfl ?_ | refine ev_grs [] rfl rfl (by rfl) (by rfl) ?_)
        refine ev_vc rfl (by rfl) (by rfl) rfl (b1) ?_
        repeat (first | refine ev_np [] rfl rfl rfl ?_ | refine ev_grs [] rfl rfl (by rfl) (by rfl) ?_)
        refine ev_vc rfl (by rfl) (by rfl) rfl (c_Text_size 78) ?_
        repeat (refine ev_np [] rfl rfl rfl ?_)
        exact ev_ri rfl b4
      · obtain ⟨-, b, ⟨c1, c2, c3⟩, d1, d2, d3⟩ := hC
        exact ⟨⟨b4, b5⟩, fun k hk => (b k hk).frame (b3 _ _ (by simp; omega)) (b2 _ (by simp; omega)) (b2 _ (by simp; omega)), ⟨by rw [b3 39 1 (by decide)]; exact c1, by rw [b3 39 2 (by decide)]; exact c2, by rw [b2 40 (by decide)]; exact c3⟩, d1.frame (b3 _ _ (by decide)) (b2 _ (by decide)) (b2 _ (by decide)), by rw [b3 58 1 (by decide)]; exact d2, by rw [b3 58 2 (by decide)]; exact d3⟩
    · have hM0 := hM.thrown 0
      obtain ⟨⟨F1, A1⟩, ⟨i1, i2, i3, i4, i5⟩, h3⟩ := lp_ex (α := (Nat → Nat → Int32) × (Nat → Nat → Int32)) (fun m B => sA [65] A B.2 ∧ sF [6204] (uF F 62 0 0) B.1 ∧ B.1 62 4 = nI (S.1.1 + m) ∧ (∀ j, j < S.1.1 + m → B.2 65 j = nI (if S.1.1 ≤ j then bN v (n - 1 - (j - S.1.1)) else S.1.2 j)) ∧ KC (uF F 62 0 0) A B.1 B.2) (fun m B q => ev 79 t_Mo_type 37 [.ref 62, .long v, .float 0, .int (nI n), .int (kv n m)] [] (hp Y B.1 B.2) q) n (fun m B hm hI => by
        obtain ⟨i1, i2, i3, i4, i5⟩ := hI
        refine ⟨(uF B.1 62 4 (nI (S.1.1 + m) + 1), va_up B.2 65 (upd (B.2 65) (S.1.1 + m) (cby v (n - 1 - m)))), ⟨i1.tr (sA.up (by decide)), i2.tr (sF.up (by decide)), by dsimp only; rw [uF_s, nI_1]; rfl, fun j hj => ?_, i5.tr ((KC.upA _ _ (by decide) _).tr (KC.fld _ _ _ _))⟩, fun q hq => ?_⟩
        · dsimp only
          rw [va_up_s]
          unfold upd
          by_cases e : j = S.1.1 + m
          · rw [if_pos e, if_pos (by omega), cby_b, show j - S.1.1 = m by omega]
          · rw [if_neg e]
            exact i4 j (by omega)
        · rw [← kv_s hm, show kv n m = nI (n - 1 - m) from if_pos hm] at hq
          rw [show kv n m = nI (n - 1 - m) from if_pos hm]
          repeat (refine ev_np [] rfl rfl rfl ?_)
          refine ev_ie (nI_pos (by omega)) ?_
          repeat (first | refine ev_np [] rfl rfl rfl ?_ | refine ev_grs [] rfl rfl (by rfl) (by rfl) ?_)
          refine ev_gi rfl (by rfl) (by rfl) ?_
          rw [i3]
          repeat (refine ev_np [] rfl rfl rfl ?_)
          refine ev_am rfl (by rfl) (j := S.1.1 + m) rfl (by omega) rfl ?_
          repeat (refine ev_np [] rfl rfl rfl ?_)
          refine ev_gi rfl (by rfl) (by rfl) ?_
          rw [i3]
          repeat (refine ev_np [] rfl rfl rfl ?_)
          refine ev_pf rfl (by rfl) ⟨by rfl, by rfl⟩ ?_
          repeat (refine ev_np [37] rfl rfl rfl ?_)
          rw [← cby_mby v (show n - 1 - m < 8 by omega)] at hq
          exact hq) n 0 (uF F 62 0 0, A) (by omega) ⟨sA.rf, sF.rf, hM0.1.1, fun j hj => by rw [if_neg (by omega)]; exact hM0.1.2 j hj, KC.rf⟩
      dsimp only at i1 i2 i3 i4 i5 h3
      refine ⟨F1, A1, ?_, ?_, (KC.fld F A 0 0).tr i5⟩
      · refine rn_in m_Mo_type rfl ⟨rfl, rfl⟩ ?_
        show ev _ t_Mo_type 0 [.ref 62, .long v, .float 0, .int (nI n), .float 0] [] _ _
        repeat (refine ev_np [] rfl rfl rfl ?_)
        refine ev_pf rfl (by rfl) ⟨by rfl, by rfl⟩ ?_
        repeat (refine ev_np [] rfl rfl rfl ?_)
        refine ev_ca rfl (c_Mo_in 78 _ _ _) ?_
        rw [e18]
        repeat (refine ev_np [] rfl rfl rfl ?_)
        refine ev_gi rfl (by rfl) (by rfl) ?_
        rw [hM0.1.1]
        repeat (refine ev_np [] rfl rfl rfl ?_)
        refine ev_it (show nI S.1.1 + nI n ≤ 300 by rw [nI_add]; exact nI_le (b := 300) hT (by omega)) ?_
        repeat (refine ev_np [37] rfl rfl rfl ?_)
        rw [nI_m1 h1]
        have := h3 (some (.int (nI (S.1.1 + n))), hp Y F1 A1)
        rw [show kv n 0 = nI (n - 1) from if_pos (by omega), show kv n n = -1 from if_neg (by omega)] at this
        refine this ?_
        repeat (refine ev_np [] rfl rfl rfl ?_)
        refine ev_gi rfl (by rfl) (by rfl) ?_
        exact ev_ri rfl i3
      · obtain ⟨-, b, ⟨c1, c2, c3⟩, d1, d2, d3⟩ := hM0
        exact ⟨⟨i3, i4⟩, fun k hk => (b k hk).frame (i1 _ (by decide)) (i1 _ (by decide)), ⟨by rw [i2 62 12 (by decide)]; exact c1, by rw [i2 62 14 (by decide)]; exact c2, by rw [i1 66 (by decide)]; exact c3⟩, d1.frame (i1 _ (by decide)) (i1 _ (by decide)), by rw [i2 62 23 (by decide)]; exact d2, by rw [i2 62 24 (by decide)]; exact d3⟩
  · refine op_ro W (-3) (fun Y F A hC => ?_) (fun Y F A hM => ?_)
    · refine rn_in m_MM_type rfl ⟨rfl, rfl⟩ ?_
      show ev _ t_MM_type 0 [.ref 9, .long v, .float 0, .int (nI n)] [] _ _
      repeat (refine ev_np [] rfl rfl rfl ?_)
      refine ev_ie (nI_nlt (b := 1) h1 (by omega)) ?_
      repeat (refine ev_np [] rfl rfl rfl ?_)
      refine ev_it (nI_le (b := 8) h8 (by omega)) ?_
      repeat (first | refine ev_np [] rfl rfl rfl ?_ | refine ev_grs [] rfl rfl (by rfl) (by rfl) ?_)
      refine ev_vc rfl (by rfl) (by rfl) rfl (?_ : xa_rn xa_ms 79 n_Text_append [.ref 32, .long v, .int (nI n)] (hp Y F A) (some (.int 0)) (hp Y F A)) ?_
      · refine rn_in m_Text_append rfl ⟨rfl, rfl⟩ ?_
        show ev _ t_Text_append 0 [.ref 32, .long v, .float 0, .int (nI n), .float 0] [] _ _
        repeat (refine ev_np [] rfl rfl rfl ?_)
        refine ev_gi rfl (by rfl) (by rfl) ?_
        rw [hC.1.1]
        repeat (refine ev_np [] rfl rfl rfl ?_)
        refine ev_ie (show ¬ nI n ≤ 300 - nI S.1.1 by rw [show (300 : Int32) = nI 300 from rfl, pk_sub wT]; exact nI_ge (by omega) (by omega)) ?_
        repeat (refine ev_np [] rfl rfl rfl ?_)
        exact ev_rz rfl rfl (Or.inl rfl)
      · repeat (refine ev_np [] rfl rfl rfl ?_)
        exact ev_ri rfl rfl
    · have hM0 := hM.thrown 0
      refine rn_in m_Mo_type rfl ⟨rfl, rfl⟩ ?_
      show ev _ t_Mo_type 0 [.ref 62, .long v, .float 0, .int (nI n), .float 0] [] _ _
      repeat (refine ev_np [] rfl rfl rfl ?_)
      refine ev_pf rfl (by rfl) ⟨by rfl, by rfl⟩ ?_
      repeat (refine ev_np [] rfl rfl rfl ?_)
      refine ev_ca rfl (c_Mo_in 78 _ _ _) ?_
      rw [e18]
      repeat (refine ev_np [] rfl rfl rfl ?_)
      refine ev_gi rfl (by rfl) (by rfl) ?_
      rw [hM0.1.1]
      repeat (refine ev_np [] rfl rfl rfl ?_)
      refine ev_ie (show ¬ nI S.1.1 + nI n ≤ 300 by rw [nI_add]; exact nI_ge (a := 300) (by omega) (by omega)) ?_
      repeat (refine ev_np [] rfl rfl rfl ?_)
      exact ev_ri rfl rfl
end TYPE
