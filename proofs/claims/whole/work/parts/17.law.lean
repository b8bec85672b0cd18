/-! ===== the law's table ===== -/
def lawf (w : xa_I) : Bool := (match w.2.1 with
  | .nop => true
  | _ => false) || xa_okI xa_ms x code ret w
set_option maxRecDepth 1000000 in
theorem ok_Law0 : ((t_Law_law.drop 0).take 30).all lawf = true := by decide +kernel
set_option maxRecDepth 1000000 in
theorem ok_Law1 : ((t_Law_law.drop 30).take 30).all lawf = true := by decide +kernel
set_option maxRecDepth 1000000 in
theorem ok_Law2 : ((t_Law_law.drop 60).take 30).all lawf = true := by decide +kernel
set_option maxRecDepth 1000000 in
theorem ok_Law3 : ((t_Law_law.drop 90).take 30).all lawf = true := by decide +kernel
set_option maxRecDepth 1000000 in
theorem ok_Law4 : ((t_Law_law.drop 120).take 30).all lawf = true := by decide +kernel
set_option maxRecDepth 1000000 in
theorem ok_Law5 : ((t_Law_law.drop 150).take 30).all lawf = true := by decide +kernel
set_option maxRecDepth 1000000 in
theorem ok_Law6 : ((t_Law_law.drop 180).take 30).all lawf = true := by decide +kernel
set_option maxRecDepth 1000000 in
theorem ok_Law7 : ((t_Law_law.drop 210).take 30).all lawf = true := by decide +kernel
set_option maxRecDepth 1000000 in
theorem ok_Law8 : ((t_Law_law.drop 240).take 30).all lawf = true := by decide +kernel
set_option maxRecDepth 1000000 in
theorem ok_Law9 : ((t_Law_law.drop 270).take 30).all lawf = true := by decide +kernel
set_option maxRecDepth 1000000 in
theorem ok_Law10 : ((t_Law_law.drop 300).take 30).all lawf = true := by decide +kernel
set_option maxRecDepth 1000000 in
theorem ok_Law11 : ((t_Law_law.drop 330).take 30).all lawf = true := by decide +kernel
set_option maxRecDepth 1000000 in
theorem ok_Law12 : ((t_Law_law.drop 360).take 30).all lawf = true := by decide +kernel
set_option maxRecDepth 1000000 in
theorem ok_Law13 : ((t_Law_law.drop 390).take 30).all lawf = true := by decide +kernel
set_option maxRecDepth 1000000 in
theorem ok_Law14 : ((t_Law_law.drop 420).take 30).all lawf = true := by decide +kernel
set_option maxRecDepth 1000000 in
theorem ok_Law15 : ((t_Law_law.drop 450).take 30).all lawf = true := by decide +kernel
set_option maxRecDepth 1000000 in
theorem ok_Law16 : ((t_Law_law.drop 480).take 30).all lawf = true := by decide +kernel
set_option maxRecDepth 1000000 in
theorem ok_Law17 : ((t_Law_law.drop 510).take 30).all lawf = true := by decide +kernel
set_option maxRecDepth 1000000 in
theorem ok_Law18 : ((t_Law_law.drop 540).take 30).all lawf = true := by decide +kernel
theorem all_ch {α : Type} {f : α → Bool} {l : List α} {c m : Nat} (hc : 0 < c) (hl : l.length ≤ c * m) (h : ∀ j, j < m → ((l.drop (c * j)).take c).all f = true) : l.all f = true := by
  rw [List.all_eq_true]
  intro w hw
  obtain ⟨i, hi, rfl⟩ := List.getElem_of_mem hw
  have hj : i / c < m := by
    rw [Nat.div_lt_iff_lt_mul hc, Nat.mul_comm]
    omega
  refine List.all_eq_true.mp (h (i / c) hj) _ ?_
  refine List.mem_of_getElem? (i := i % c) ?_
  rw [List.getElem?_take_of_lt (Nat.mod_lt i hc), List.getElem?_drop, Nat.div_add_mod, List.getElem?_eq_getElem hi]
theorem ok_Law : t_Law_law.all lawf = true := by
  refine all_ch (c := 30) (m := 19) (by decide) (by decide +kernel) (fun j hj => ?_)
  match j, hj with
  | 0, _ => exact ok_Law0
  | 1, _ => exact ok_Law1
  | 2, _ => exact ok_Law2
  | 3, _ => exact ok_Law3
  | 4, _ => exact ok_Law4
  | 5, _ => exact ok_Law5
  | 6, _ => exact ok_Law6
  | 7, _ => exact ok_Law7
  | 8, _ => exact ok_Law8
  | 9, _ => exact ok_Law9
  | 10, _ => exact ok_Law10
  | 11, _ => exact ok_Law11
  | 12, _ => exact ok_Law12
  | 13, _ => exact ok_Law13
  | 14, _ => exact ok_Law14
  | 15, _ => exact ok_Law15
  | 16, _ => exact ok_Law16
  | 17, _ => exact ok_Law17
  | 18, _ => exact ok_Law18
  | j + 19, hj => omega
