/-! ===== rows that stop at cells ===== -/
/-- the instruction sees no cell -/
def xa_nh (tb : List xa_I) (pc : Nat) : Bool := match xa_lk tb pc with
  | some (i, _) => (match i with
    | .getfield _ => false
    | .putfield _ => false
    | .iaload => false
    | .iastore => false
    | .aaload => false
    | .arraylength => false
    | .baload => false
    | _ => true)
  | none => false
theorem ev_np (stop : List Nat) {d : Nat} {tb : List xa_I} {pc : Nat} {ls st : List Value} {h : xa_H} {q : xa_R} {pc' : Nat} {ls' st' : List Value} {h' : xa_H} (_ : stop.any (Nat.beq pc) = false) (_ : xa_nh tb pc = true) (h1 : xa_one tb pc ls st h = some (.inl (pc', ls', st', h'))) (k : ev d tb pc' ls' st' h' q) : ev d tb pc ls st h q := ev_nx h1 k
/-! ===== class Plan: reads ===== -/
/-- a plan stands at p -/
def PL (p : Nat) : Prop := lo_at p = some (.inr (2, [.inl 0, .inr (p + 1), .inr (p + 2)])) ∧ lo_at (p + 1) = some (.inl 18) ∧ lo_at (p + 2) = some (.inl 18)
section PLAN
variable {Y : Nat × (Nat → Int32)} {F A : Nat → Nat → Int32} {p : Nat} (d : Nat)
theorem c_Plan_size (hp0 : PL p) : xa_rn xa_ms (d + 1) n_Plan_size [.ref p] (hp Y F A) (some (.int (F p 0))) (hp Y F A) := by
  refine rn_in m_Plan_size rfl ⟨rfl, rfl⟩ ?_
  show ev _ t_Plan_size 0 [.ref p] [] _ _
  repeat (refine ev_np [] rfl rfl rfl ?_)
  refine ev_gi rfl hp0.1 rfl ?_
  exact ev_ri rfl rfl
theorem c_Plan_isSpot {s l : Nat} (hs : s < 6) (hl : l < 3) {h : xa_H} : xa_rn xa_ms (d + 1) n_Plan_isSpot [.int (nI s), .int (nI l)] h (some (.int 1)) h := by
  refine rn_in m_Plan_isSpot rfl ⟨rfl, rfl⟩ ?_
  show ev _ t_Plan_isSpot 0 [.int (nI s), .int (nI l)] [] _ _
  repeat (refine ev_np [] rfl rfl rfl ?_)
  refine ev_ie (nI_pos (by omega)) ?_
  repeat (refine ev_np [] rfl rfl rfl ?_)
  refine ev_ie (nI_ge (b := 6) hs (by omega)) ?_
  repeat (refine ev_np [] rfl rfl rfl ?_)
  refine ev_ie (nI_pos (by omega)) ?_
  repeat (refine ev_np [] rfl rfl rfl ?_)
  refine ev_ie (nI_ge (b := 3) hl (by omega)) ?_
  repeat (refine ev_np [] rfl rfl rfl ?_)
  exact ev_rz rfl rfl (Or.inr rfl)
theorem nI_3 (s l : Nat) : nI s * 3 + nI l = nI (3 * s + l) := by
  rw [show (3 : Int32) = nI 3 from rfl, pk_mul, nI_add, Nat.mul_comm]
theorem c_Plan_anyFrom (hp0 : PL p) {s l : Nat} (hs : s < 6) (hl : l < 3) : xa_rn xa_ms (d + 2) n_Plan_anyFrom [.ref p, .int (nI s), .int (nI l)] (hp Y F A) (some (.int (A (p + 1) (3 * s + l)))) (hp Y F A) := by
  refine rn_in m_Plan_anyFrom rfl ⟨rfl, rfl⟩ ?_
  show ev _ t_Plan_anyFrom 0 [.ref p, .int (nI s), .int (nI l)] [] _ _
  repeat (refine ev_np [] rfl rfl rfl ?_)
  refine ev_ca rfl (c_Plan_isSpot d hs hl) ?_
  repeat (refine ev_np [] rfl rfl rfl ?_)
  refine ev_gr rfl hp0.1 rfl ?_
  repeat (refine ev_np [] rfl rfl rfl ?_)
  refine ev_an rfl hp0.2.1 (nI_3 s l) (by omega) rfl ?_
  repeat (refine ev_np [] rfl rfl rfl ?_)
  exact ev_ri rfl rfl
theorem c_Plan_mustFrom (hp0 : PL p) {s l : Nat} (hs : s < 6) (hl : l < 3) : xa_rn xa_ms (d + 2) n_Plan_mustFrom [.ref p, .int (nI s), .int (nI l)] (hp Y F A) (some (.int (A (p + 2) (3 * s + l)))) (hp Y F A) := by
  refine rn_in m_Plan_mustFrom rfl ⟨rfl, rfl⟩ ?_
  show ev _ t_Plan_mustFrom 0 [.ref p, .int (nI s), .int (nI l)] [] _ _
  repeat (refine ev_np [] rfl rfl rfl ?_)
  refine ev_ca rfl (c_Plan_isSpot d hs hl) ?_
  repeat (refine ev_np [] rfl rfl rfl ?_)
  refine ev_gr rfl hp0.1 rfl ?_
  repeat (refine ev_np [] rfl rfl rfl ?_)
  refine ev_an rfl hp0.2.2 (nI_3 s l) (by omega) rfl ?_
  repeat (refine ev_np [] rfl rfl rfl ?_)
  exact ev_ri rfl rfl
/-- the bit of a set -/
def bi (x : Int32) (t : Nat) : Bool := decide (¬ (x >>> (nI t &&& 31)) &&& 1 = 0)
def z01 (b : Bool) : Int32 := bif b then 1 else 0
theorem c_MM_inSet {x : Int32} {t : Nat} {h : xa_H} : xa_rn xa_ms (d + 1) n_MM_inSet [.int x, .int (nI t)] h (some (.int (z01 (bi x t)))) h := by
  refine rn_in m_MM_inSet rfl ⟨rfl, rfl⟩ ?_
  show ev _ t_MM_inSet 0 [.int x, .int (nI t)] [] _ _
  repeat (refine ev_np [] rfl rfl rfl ?_)
  refine ev_if (fun c => ?_) (fun c => ?_)
  · have e : bi x t = false := by simpa [bi, xa_cp] using c
    rw [e]
    repeat (refine ev_np [] rfl rfl rfl ?_)
    exact ev_rz rfl rfl (Or.inl rfl)
  · have e : bi x t = true := by simpa [bi, xa_cp] using c
    rw [e]
    repeat (refine ev_np [] rfl rfl rfl ?_)
    exact ev_rz rfl rfl (Or.inr rfl)
end PLAN
