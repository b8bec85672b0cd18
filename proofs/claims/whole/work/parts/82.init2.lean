/-! ===== constructors: MayMust, the model ===== -/
section INI2
variable {g : xa_H} {n : Nat} (d : Nat)
def mmC (n : Nat) : xa_H := [.inr (10, [.ref (n + 1), .ref (n + 20), .ref (n + 23), .ref (n + 25), .ref (n + 30), .ref (n + 33), .ref (n + 36), .ref (n + 41), .ref (n + 43), .ref (n + 49)]),
  .inr (50, [.ref (n + 2), .ref (n + 5), .ref (n + 8), .ref (n + 11), .ref (n + 14), .ref (n + 17)]),
  .inr (2, [.int 1, .ref (n + 3), .ref (n + 4)]), zr 18, zr 18,
  .inr (2, [.int 1, .ref (n + 6), .ref (n + 7)]), zr 18, zr 18,
  .inr (2, [.int 1, .ref (n + 9), .ref (n + 10)]), zr 18, zr 18,
  .inr (2, [.int 1, .ref (n + 12), .ref (n + 13)]), zr 18, zr 18,
  .inr (2, [.int 1, .ref (n + 15), .ref (n + 16)]), zr 18, zr 18,
  .inr (2, [.int 1, .ref (n + 18), .ref (n + 19)]), zr 18, zr 18,
  .inr (2, [.int 1, .ref (n + 21), .ref (n + 22)]), zr 18, zr 18,
  .inr (7, [.ref (n + 24), .int 0]), zr 300,
  .inr (3, [.ref (n + 26)]), .inr (8, [.ref (n + 27), .ref (n + 28), .ref (n + 29), .int 0, .int 0]), zr 301, zr 301, zr 301,
  .inr (5, [.ref (n + 31), .int 1, .int 1, .ref (n + 32), .int 0]), .inl (0, 300, upd (fun _ => 0) 0 1), zr 24,
  .inr (5, [.ref (n + 34), .int 1, .int 1, .ref (n + 35), .int 0]), .inl (0, 300, upd (fun _ => 0) 0 1), zr 24,
  .inr (4, [.ref (n + 37), .ref (n + 40), .int (-9), .int 0]), .inr (1, [.ref (n + 38), .ref (n + 39)]), zr 6, zr 6, zr 36,
  .inr (6, [.ref (n + 42)]), zr 6,
  .inr (0, [.ref (n + 44), .ref (n + 47), .ref (n + 48), .int 0]), .inr (1, [.ref (n + 45), .ref (n + 46)]), zr 6, zr 6, zr 36, zr 6,
  .inr (9, [.ref (n + 50), .int 1, .int 0]), .inr (2, [.int 1, .ref (n + 51), .ref (n + 52)]), zr 18, zr 18]
theorem ini_MM (hn : g.length = n) : xa_rn xa_ms (d + 3) n_MM_init [.ref n] (g ++ [.inr (10, xa_df 10)]) none (g ++ mmC n) := by
  refine rn_in m_MM_init rfl ⟨rfl, rfl⟩ ?_
  show ev _ t_MM_init 0 [.ref n, .float 0] [] _ _
  repeat (refine ev_np [7] rfl rfl rfl ?_)
  refine gv_nq hn (m := 1) (w := 6) rfl (by decide) (by rfl) ?_
  refine gv_pf hn 0 rfl (by rfl) (by rfl) (by rfl) ?_
  repeat (refine ev_np [26] rfl rfl rfl ?_)
  refine gv_gf hn 0 rfl (by rfl) (by rfl) ?_
  repeat (refine ev_np [26] rfl rfl rfl ?_)
  refine gv_new hn (m := 2) rfl (by rfl) ?_
  repeat (refine ev_np [] rfl rfl rfl ?_)
  refine gv_ca (m := 2) (by rfl) (ini_Plan (d + 1) (gl_len hn (by rfl))) ?_
  refine gv_aa hn 1 2 0 rfl (by rfl) (by rfl) (by decide) (by rfl) ?_
  refine gv_nm [.inr (10, [.ref (n + 1), .null, .null, .null, .null, .null, .null, .null, .null, .null]), .inr (50, [.ref (n + 2), .null, .null, .null, .null, .null]), .inr (2, [.int 1, .ref (n + 3), .ref (n + 4)]), zr 18, zr 18] (by rfl) ?_
  repeat (refine ev_np [26] rfl rfl rfl ?_)
  refine gv_gf hn 0 rfl (by rfl) (by rfl) ?_
  repeat (refine ev_np [26] rfl rfl rfl ?_)
  refine gv_new hn (m := 5) rfl (by rfl) ?_
  repeat (refine ev_np [] rfl rfl rfl ?_)
  refine gv_ca (m := 5) (by rfl) (ini_Plan (d + 1) (gl_len hn (by rfl))) ?_
  refine gv_aa hn 1 5 1 rfl (by rfl) (by rfl) (by decide) (by rfl) ?_
  refine gv_nm [.inr (10, [.ref (n + 1), .null, .null, .null, .null, .null, .null, .null, .null, .null]), .inr (50, [.ref (n + 2), .ref (n + 5), .null, .null, .null, .null]), .inr (2, [.int 1, .ref (n + 3), .ref (n + 4)]), zr 18, zr 18, .inr (2, [.int 1, .ref (n + 6), .ref (n + 7)]), zr 18, zr 18] (by rfl) ?_
  repeat (refine ev_np [26] rfl rfl rfl ?_)
  refine gv_gf hn 0 rfl (by rfl) (by rfl) ?_
  repeat (refine ev_np [26] rfl rfl rfl ?_)
  refine gv_new hn (m := 8) rfl (by rfl) ?_
  repeat (refine ev_np [] rfl rfl rfl ?_)
  refine gv_ca (m := 8) (by rfl) (ini_Plan (d + 1) (gl_len hn (by rfl))) ?_
  refine gv_aa hn 1 8 2 rfl (by rfl) (by rfl) (by decide) (by rfl) ?_
  refine gv_nm [.inr (10, [.ref (n + 1), .null, .null, .null, .null, .null, .null, .null, .null, .null]), .inr (50, [.ref (n + 2), .ref (n + 5), .ref (n + 8), .null, .null, .null]), .inr (2, [.int 1, .ref (n + 3), .ref (n + 4)]), zr 18, zr 18, .inr (2, [.int 1, .ref (n + 6), .ref (n + 7)]), zr 18, zr 18, .inr (2, [.int 1, .ref (n + 9), .ref (n + 10)]), zr 18, zr 18] (by rfl) ?_
  repeat (refine ev_np [26] rfl rfl rfl ?_)
  refine gv_gf hn 0 rfl (by rfl) (by rfl) ?_
  repeat (refine ev_np [26] rfl rfl rfl ?_)
  refine gv_new hn (m := 11) rfl (by rfl) ?_
  repeat (refine ev_np [] rfl rfl rfl ?_)
  refine gv_ca (m := 11) (by rfl) (ini_Plan (d + 1) (gl_len hn (by rfl))) ?_
  refine gv_aa hn 1 11 3 rfl (by rfl) (by rfl) (by decide) (by rfl) ?_
  refine gv_nm [.inr (10, [.ref (n + 1), .null, .null, .null, .null, .null, .null, .null, .null, .null]), .inr (50, [.ref (n + 2), .ref (n + 5), .ref (n + 8), .ref (n + 11), .null, .null]), .inr (2, [.int 1, .ref (n + 3), .ref (n + 4)]), zr 18, zr 18, .inr (2, [.int 1, .ref (n + 6), .ref (n + 7)]), zr 18, zr 18, .inr (2, [.int 1, .ref (n + 9), .ref (n + 10)]), zr 18, zr 18, .inr (2, [.int 1, .ref (n + 12), .ref (n + 13)]), zr 18, zr 18] (by rfl) ?_
  repeat (refine ev_np [26] rfl rfl rfl ?_)
  refine gv_gf hn 0 rfl (by rfl) (by rfl) ?_
  repeat (refine ev_np [26] rfl rfl rfl ?_)
  refine gv_new hn (m := 14) rfl (by rfl) ?_
  repeat (refine ev_np [] rfl rfl rfl ?_)
  refine gv_ca (m := 14) (by rfl) (ini_Plan (d + 1) (gl_len hn (by rfl))) ?_
  refine gv_aa hn 1 14 4 rfl (by rfl) (by rfl) (by decide) (by rfl) ?_
  refine gv_nm [.inr (10, [.ref (n + 1), .null, .null, .null, .null, .null, .null, .null, .null, .null]), .inr (50, [.ref (n + 2), .ref (n + 5), .ref (n + 8), .ref (n + 11), .ref (n + 14), .null]), .inr (2, [.int 1, .ref (n + 3), .ref (n + 4)]), zr 18, zr 18, .inr (2, [.int 1, .ref (n + 6), .ref (n + 7)]), zr 18, zr 18, .inr (2, [.int 1, .ref (n + 9), .ref (n + 10)]), zr 18, zr 18, .inr (2, [.int 1, .ref (n + 12), .ref (n + 13)]), zr 18, zr 18, .inr (2, [.int 1, .ref (n + 15), .ref (n + 16)]), zr 18, zr 18] (by rfl) ?_
  repeat (refine ev_np [26] rfl rfl rfl ?_)
  refine gv_gf hn 0 rfl (by rfl) (by rfl) ?_
  repeat (refine ev_np [26] rfl rfl rfl ?_)
  refine gv_new hn (m := 17) rfl (by rfl) ?_
  repeat (refine ev_np [] rfl rfl rfl ?_)
  refine gv_ca (m := 17) (by rfl) (ini_Plan (d + 1) (gl_len hn (by rfl))) ?_
  refine gv_aa hn 1 17 5 rfl (by rfl) (by rfl) (by decide) (by rfl) ?_
  refine gv_nm [.inr (10, [.ref (n + 1), .null, .null, .null, .null, .null, .null, .null, .null, .null]), .inr (50, [.ref (n + 2), .ref (n + 5), .ref (n + 8), .ref (n + 11), .ref (n + 14), .ref (n + 17)]), .inr (2, [.int 1, .ref (n + 3), .ref (n + 4)]), zr 18, zr 18, .inr (2, [.int 1, .ref (n + 6), .ref (n + 7)]), zr 18, zr 18, .inr (2, [.int 1, .ref (n + 9), .ref (n + 10)]), zr 18, zr 18, .inr (2, [.int 1, .ref (n + 12), .ref (n + 13)]), zr 18, zr 18, .inr (2, [.int 1, .ref (n + 15), .ref (n + 16)]), zr 18, zr 18, .inr (2, [.int 1, .ref (n + 18), .ref (n + 19)]), zr 18, zr 18] (by rfl) ?_
  repeat (refine ev_np [41] rfl rfl rfl ?_)
  refine gv_new hn (m := 20) rfl (by rfl) ?_
  repeat (refine ev_np [] rfl rfl rfl ?_)
  refine gv_ca (m := 20) (by rfl) (ini_Plan (d + 1) (gl_len hn (by rfl))) ?_
  refine gv_pf hn 0 rfl (by rfl) (by rfl) (by rfl) ?_
  refine gv_nm [.inr (10, [.ref (n + 1), .ref (n + 20), .null, .null, .null, .null, .null, .null, .null, .null]), .inr (50, [.ref (n + 2), .ref (n + 5), .ref (n + 8), .ref (n + 11), .ref (n + 14), .ref (n + 17)]), .inr (2, [.int 1, .ref (n + 3), .ref (n + 4)]), zr 18, zr 18, .inr (2, [.int 1, .ref (n + 6), .ref (n + 7)]), zr 18, zr 18, .inr (2, [.int 1, .ref (n + 9), .ref (n + 10)]), zr 18, zr 18, .inr (2, [.int 1, .ref (n + 12), .ref (n + 13)]), zr 18, zr 18, .inr (2, [.int 1, .ref (n + 15), .ref (n + 16)]), zr 18, zr 18, .inr (2, [.int 1, .ref (n + 18), .ref (n + 19)]), zr 18, zr 18, .inr (2, [.int 1, .ref (n + 21), .ref (n + 22)]), zr 18, zr 18] (by rfl) ?_
  repeat (refine ev_np [52] rfl rfl rfl ?_)
  refine gv_new hn (m := 23) rfl (by rfl) ?_
  repeat (refine ev_np [] rfl rfl rfl ?_)
  refine gv_ca (m := 23) (by rfl) (ini_Text (d + 1) (gl_len hn (by rfl))) ?_
  refine gv_pf hn 0 rfl (by rfl) (by rfl) (by rfl) ?_
  refine gv_nm [.inr (10, [.ref (n + 1), .ref (n + 20), .ref (n + 23), .null, .null, .null, .null, .null, .null, .null]), .inr (50, [.ref (n + 2), .ref (n + 5), .ref (n + 8), .ref (n + 11), .ref (n + 14), .ref (n + 17)]), .inr (2, [.int 1, .ref (n + 3), .ref (n + 4)]), zr 18, zr 18, .inr (2, [.int 1, .ref (n + 6), .ref (n + 7)]), zr 18, zr 18, .inr (2, [.int 1, .ref (n + 9), .ref (n + 10)]), zr 18, zr 18, .inr (2, [.int 1, .ref (n + 12), .ref (n + 13)]), zr 18, zr 18, .inr (2, [.int 1, .ref (n + 15), .ref (n + 16)]), zr 18, zr 18, .inr (2, [.int 1, .ref (n + 18), .ref (n + 19)]), zr 18, zr 18, .inr (2, [.int 1, .ref (n + 21), .ref (n + 22)]), zr 18, zr 18, .inr (7, [.ref (n + 24), .int 0]), zr 300] (by rfl) ?_
  repeat (refine ev_np [63] rfl rfl rfl ?_)
  refine gv_new hn (m := 25) rfl (by rfl) ?_
  repeat (refine ev_np [] rfl rfl rfl ?_)
  refine gv_ca (m := 25) (by rfl) (ini_Reader d (gl_len hn (by rfl))) ?_
  refine gv_pf hn 0 rfl (by rfl) (by rfl) (by rfl) ?_
  refine gv_nm [.inr (10, [.ref (n + 1), .ref (n + 20), .ref (n + 23), .ref (n + 25), .null, .null, .null, .null, .null, .null]), .inr (50, [.ref (n + 2), .ref (n + 5), .ref (n + 8), .ref (n + 11), .ref (n + 14), .ref (n + 17)]), .inr (2, [.int 1, .ref (n + 3), .ref (n + 4)]), zr 18, zr 18, .inr (2, [.int 1, .ref (n + 6), .ref (n + 7)]), zr 18, zr 18, .inr (2, [.int 1, .ref (n + 9), .ref (n + 10)]), zr 18, zr 18, .inr (2, [.int 1, .ref (n + 12), .ref (n + 13)]), zr 18, zr 18, .inr (2, [.int 1, .ref (n + 15), .ref (n + 16)]), zr 18, zr 18, .inr (2, [.int 1, .ref (n + 18), .ref (n + 19)]), zr 18, zr 18, .inr (2, [.int 1, .ref (n + 21), .ref (n + 22)]), zr 18, zr 18, .inr (7, [.ref (n + 24), .int 0]), zr 300, .inr (3, [.ref (n + 26)]), .inr (8, [.ref (n + 27), .ref (n + 28), .ref (n + 29), .int 0, .int 0]), zr 301, zr 301, zr 301] (by rfl) ?_
  repeat (refine ev_np [74] rfl rfl rfl ?_)
  refine gv_new hn (m := 30) rfl (by rfl) ?_
  repeat (refine ev_np [] rfl rfl rfl ?_)
  refine gv_ca (m := 30) (by rfl) (ini_Saying d (gl_len hn (by rfl))) ?_
  refine gv_pf hn 0 rfl (by rfl) (by rfl) (by rfl) ?_
  refine gv_nm [.inr (10, [.ref (n + 1), .ref (n + 20), .ref (n + 23), .ref (n + 25), .ref (n + 30), .null, .null, .null, .null, .null]), .inr (50, [.ref (n + 2), .ref (n + 5), .ref (n + 8), .ref (n + 11), .ref (n + 14), .ref (n + 17)]), .inr (2, [.int 1, .ref (n + 3), .ref (n + 4)]), zr 18, zr 18, .inr (2, [.int 1, .ref (n + 6), .ref (n + 7)]), zr 18, zr 18, .inr (2, [.int 1, .ref (n + 9), .ref (n + 10)]), zr 18, zr 18, .inr (2, [.int 1, .ref (n + 12), .ref (n + 13)]), zr 18, zr 18, .inr (2, [.int 1, .ref (n + 15), .ref (n + 16)]), zr 18, zr 18, .inr (2, [.int 1, .ref (n + 18), .ref (n + 19)]), zr 18, zr 18, .inr (2, [.int 1, .ref (n + 21), .ref (n + 22)]), zr 18, zr 18, .inr (7, [.ref (n + 24), .int 0]), zr 300, .inr (3, [.ref (n + 26)]), .inr (8, [.ref (n + 27), .ref (n + 28), .ref (n + 29), .int 0, .int 0]), zr 301, zr 301, zr 301, .inr (5, [.ref (n + 31), .int 1, .int 1, .ref (n + 32), .int 0]), .inl (0, 300, upd (fun _ => 0) 0 1), zr 24] (by rfl) ?_
  repeat (refine ev_np [85] rfl rfl rfl ?_)
  refine gv_new hn (m := 33) rfl (by rfl) ?_
  repeat (refine ev_np [] rfl rfl rfl ?_)
  refine gv_ca (m := 33) (by rfl) (ini_Saying d (gl_len hn (by rfl))) ?_
  refine gv_pf hn 0 rfl (by rfl) (by rfl) (by rfl) ?_
  refine gv_nm [.inr (10, [.ref (n + 1), .ref (n + 20), .ref (n + 23), .ref (n + 25), .ref (n + 30), .ref (n + 33), .null, .null, .null, .null]), .inr (50, [.ref (n + 2), .ref (n + 5), .ref (n + 8), .ref (n + 11), .ref (n + 14), .ref (n + 17)]), .inr (2, [.int 1, .ref (n + 3), .ref (n + 4)]), zr 18, zr 18, .inr (2, [.int 1, .ref (n + 6), .ref (n + 7)]), zr 18, zr 18, .inr (2, [.int 1, .ref (n + 9), .ref (n + 10)]), zr 18, zr 18, .inr (2, [.int 1, .ref (n + 12), .ref (n + 13)]), zr 18, zr 18, .inr (2, [.int 1, .ref (n + 15), .ref (n + 16)]), zr 18, zr 18, .inr (2, [.int 1, .ref (n + 18), .ref (n + 19)]), zr 18, zr 18, .inr (2, [.int 1, .ref (n + 21), .ref (n + 22)]), zr 18, zr 18, .inr (7, [.ref (n + 24), .int 0]), zr 300, .inr (3, [.ref (n + 26)]), .inr (8, [.ref (n + 27), .ref (n + 28), .ref (n + 29), .int 0, .int 0]), zr 301, zr 301, zr 301, .inr (5, [.ref (n + 31), .int 1, .int 1, .ref (n + 32), .int 0]), .inl (0, 300, upd (fun _ => 0) 0 1), zr 24, .inr (5, [.ref (n + 34), .int 1, .int 1, .ref (n + 35), .int 0]), .inl (0, 300, upd (fun _ => 0) 0 1), zr 24] (by rfl) ?_
  repeat (refine ev_np [96] rfl rfl rfl ?_)
  refine gv_new hn (m := 36) rfl (by rfl) ?_
  repeat (refine ev_np [] rfl rfl rfl ?_)
  refine gv_ca (m := 36) (by rfl) (ini_Rounds d (gl_len hn (by rfl))) ?_
  refine gv_pf hn 0 rfl (by rfl) (by rfl) (by rfl) ?_
  refine gv_nm [.inr (10, [.ref (n + 1), .ref (n + 20), .ref (n + 23), .ref (n + 25), .ref (n + 30), .ref (n + 33), .ref (n + 36), .null, .null, .null]), .inr (50, [.ref (n + 2), .ref (n + 5), .ref (n + 8), .ref (n + 11), .ref (n + 14), .ref (n + 17)]), .inr (2, [.int 1, .ref (n + 3), .ref (n + 4)]), zr 18, zr 18, .inr (2, [.int 1, .ref (n + 6), .ref (n + 7)]), zr 18, zr 18, .inr (2, [.int 1, .ref (n + 9), .ref (n + 10)]), zr 18, zr 18, .inr (2, [.int 1, .ref (n + 12), .ref (n + 13)]), zr 18, zr 18, .inr (2, [.int 1, .ref (n + 15), .ref (n + 16)]), zr 18, zr 18, .inr (2, [.int 1, .ref (n + 18), .ref (n + 19)]), zr 18, zr 18, .inr (2, [.int 1, .ref (n + 21), .ref (n + 22)]), zr 18, zr 18, .inr (7, [.ref (n + 24), .int 0]), zr 300, .inr (3, [.ref (n + 26)]), .inr (8, [.ref (n + 27), .ref (n + 28), .ref (n + 29), .int 0, .int 0]), zr 301, zr 301, zr 301, .inr (5, [.ref (n + 31), .int 1, .int 1, .ref (n + 32), .int 0]), .inl (0, 300, upd (fun _ => 0) 0 1), zr 24, .inr (5, [.ref (n + 34), .int 1, .int 1, .ref (n + 35), .int 0]), .inl (0, 300, upd (fun _ => 0) 0 1), zr 24, .inr (4, [.ref (n + 37), .ref (n + 40), .int (-9), .int 0]), .inr (1, [.ref (n + 38), .ref (n + 39)]), zr 6, zr 6, zr 36] (by rfl) ?_
  repeat (refine ev_np [107] rfl rfl rfl ?_)
  refine gv_new hn (m := 41) rfl (by rfl) ?_
  repeat (refine ev_np [] rfl rfl rfl ?_)
  refine gv_ca (m := 41) (by rfl) (ini_Shrinker (d + 1) (gl_len hn (by rfl))) ?_
  refine gv_pf hn 0 rfl (by rfl) (by rfl) (by rfl) ?_
  refine gv_nm [.inr (10, [.ref (n + 1), .ref (n + 20), .ref (n + 23), .ref (n + 25), .ref (n + 30), .ref (n + 33), .ref (n + 36), .ref (n + 41), .null, .null]), .inr (50, [.ref (n + 2), .ref (n + 5), .ref (n + 8), .ref (n + 11), .ref (n + 14), .ref (n + 17)]), .inr (2, [.int 1, .ref (n + 3), .ref (n + 4)]), zr 18, zr 18, .inr (2, [.int 1, .ref (n + 6), .ref (n + 7)]), zr 18, zr 18, .inr (2, [.int 1, .ref (n + 9), .ref (n + 10)]), zr 18, zr 18, .inr (2, [.int 1, .ref (n + 12), .ref (n + 13)]), zr 18, zr 18, .inr (2, [.int 1, .ref (n + 15), .ref (n + 16)]), zr 18, zr 18, .inr (2, [.int 1, .ref (n + 18), .ref (n + 19)]), zr 18, zr 18, .inr (2, [.int 1, .ref (n + 21), .ref (n + 22)]), zr 18, zr 18, .inr (7, [.ref (n + 24), .int 0]), zr 300, .inr (3, [.ref (n + 26)]), .inr (8, [.ref (n + 27), .ref (n + 28), .ref (n + 29), .int 0, .int 0]), zr 301, zr 301, zr 301, .inr (5, [.ref (n + 31), .int 1, .int 1, .ref (n + 32), .int 0]), .inl (0, 300, upd (fun _ => 0) 0 1), zr 24, .inr (5, [.ref (n + 34), .int 1, .int 1, .ref (n + 35), .int 0]), .inl (0, 300, upd (fun _ => 0) 0 1), zr 24, .inr (4, [.ref (n + 37), .ref (n + 40), .int (-9), .int 0]), .inr (1, [.ref (n + 38), .ref (n + 39)]), zr 6, zr 6, zr 36, .inr (6, [.ref (n + 42)]), zr 6] (by rfl) ?_
  repeat (refine ev_np [118] rfl rfl rfl ?_)
  refine gv_new hn (m := 43) rfl (by rfl) ?_
  repeat (refine ev_np [] rfl rfl rfl ?_)
  refine gv_ca (m := 43) (by rfl) (ini_Joiner d (gl_len hn (by rfl))) ?_
  refine gv_pf hn 0 rfl (by rfl) (by rfl) (by rfl) ?_
  refine gv_nm [.inr (10, [.ref (n + 1), .ref (n + 20), .ref (n + 23), .ref (n + 25), .ref (n + 30), .ref (n + 33), .ref (n + 36), .ref (n + 41), .ref (n + 43), .null]), .inr (50, [.ref (n + 2), .ref (n + 5), .ref (n + 8), .ref (n + 11), .ref (n + 14), .ref (n + 17)]), .inr (2, [.int 1, .ref (n + 3), .ref (n + 4)]), zr 18, zr 18, .inr (2, [.int 1, .ref (n + 6), .ref (n + 7)]), zr 18, zr 18, .inr (2, [.int 1, .ref (n + 9), .ref (n + 10)]), zr 18, zr 18, .inr (2, [.int 1, .ref (n + 12), .ref (n + 13)]), zr 18, zr 18, .inr (2, [.int 1, .ref (n + 15), .ref (n + 16)]), zr 18, zr 18, .inr (2, [.int 1, .ref (n + 18), .ref (n + 19)]), zr 18, zr 18, .inr (2, [.int 1, .ref (n + 21), .ref (n + 22)]), zr 18, zr 18, .inr (7, [.ref (n + 24), .int 0]), zr 300, .inr (3, [.ref (n + 26)]), .inr (8, [.ref (n + 27), .ref (n + 28), .ref (n + 29), .int 0, .int 0]), zr 301, zr 301, zr 301, .inr (5, [.ref (n + 31), .int 1, .int 1, .ref (n + 32), .int 0]), .inl (0, 300, upd (fun _ => 0) 0 1), zr 24, .inr (5, [.ref (n + 34), .int 1, .int 1, .ref (n + 35), .int 0]), .inl (0, 300, upd (fun _ => 0) 0 1), zr 24, .inr (4, [.ref (n + 37), .ref (n + 40), .int (-9), .int 0]), .inr (1, [.ref (n + 38), .ref (n + 39)]), zr 6, zr 6, zr 36, .inr (6, [.ref (n + 42)]), zr 6, .inr (0, [.ref (n + 44), .ref (n + 47), .ref (n + 48), .int 0]), .inr (1, [.ref (n + 45), .ref (n + 46)]), zr 6, zr 6, zr 36, zr 6] (by rfl) ?_
  repeat (refine ev_np [129] rfl rfl rfl ?_)
  refine gv_new hn (m := 49) rfl (by rfl) ?_
  repeat (refine ev_np [] rfl rfl rfl ?_)
  refine gv_ca (m := 49) (by rfl) (ini_Walker d (gl_len hn (by rfl))) ?_
  refine gv_pf hn 0 rfl (by rfl) (by rfl) (by rfl) ?_
  refine gv_nm [.inr (10, [.ref (n + 1), .ref (n + 20), .ref (n + 23), .ref (n + 25), .ref (n + 30), .ref (n + 33), .ref (n + 36), .ref (n + 41), .ref (n + 43), .ref (n + 49)]), .inr (50, [.ref (n + 2), .ref (n + 5), .ref (n + 8), .ref (n + 11), .ref (n + 14), .ref (n + 17)]), .inr (2, [.int 1, .ref (n + 3), .ref (n + 4)]), zr 18, zr 18, .inr (2, [.int 1, .ref (n + 6), .ref (n + 7)]), zr 18, zr 18, .inr (2, [.int 1, .ref (n + 9), .ref (n + 10)]), zr 18, zr 18, .inr (2, [.int 1, .ref (n + 12), .ref (n + 13)]), zr 18, zr 18, .inr (2, [.int 1, .ref (n + 15), .ref (n + 16)]), zr 18, zr 18, .inr (2, [.int 1, .ref (n + 18), .ref (n + 19)]), zr 18, zr 18, .inr (2, [.int 1, .ref (n + 21), .ref (n + 22)]), zr 18, zr 18, .inr (7, [.ref (n + 24), .int 0]), zr 300, .inr (3, [.ref (n + 26)]), .inr (8, [.ref (n + 27), .ref (n + 28), .ref (n + 29), .int 0, .int 0]), zr 301, zr 301, zr 301, .inr (5, [.ref (n + 31), .int 1, .int 1, .ref (n + 32), .int 0]), .inl (0, 300, upd (fun _ => 0) 0 1), zr 24, .inr (5, [.ref (n + 34), .int 1, .int 1, .ref (n + 35), .int 0]), .inl (0, 300, upd (fun _ => 0) 0 1), zr 24, .inr (4, [.ref (n + 37), .ref (n + 40), .int (-9), .int 0]), .inr (1, [.ref (n + 38), .ref (n + 39)]), zr 6, zr 6, zr 36, .inr (6, [.ref (n + 42)]), zr 6, .inr (0, [.ref (n + 44), .ref (n + 47), .ref (n + 48), .int 0]), .inr (1, [.ref (n + 45), .ref (n + 46)]), zr 6, zr 6, zr 36, zr 6, .inr (9, [.ref (n + 50), .int 1, .int 0]), .inr (2, [.int 1, .ref (n + 51), .ref (n + 52)]), zr 18, zr 18] (by rfl) ?_
  exact ev_rv rfl
def ones8 : Nat → Int32 := upd (upd (upd (upd (upd (upd (upd (upd (fun _ => 0) 0 1) 1 1) 2 1) 3 1) 4 1) 5 1) 6 1) 7 1
def moC (n : Nat) : xa_H := [.inr (11, [.int 0, .ref (n + 1), .ref (n + 2), .ref (n + 3), .int 0, .int 0, .int 0, .int 0, .int 0, .int 0, .ref (n + 4), .ref (n + 5), .int 1, .int 0, .int 1, .int 0, .ref (n + 6), .int 0, .int 0, .ref (n + 7), .ref (n + 8), .ref (n + 9), .ref (n + 10), .int 1, .int 0]), zr 864, .inl (0, 8, ones8), zr 300, .inl (0, 320, upd (fun _ => 0) 0 1), zr 320, zr 64, zr 180, zr 36, zr 36, zr 36]
theorem ini_Mo (hn : g.length = n) : xa_rn xa_ms (d + 1) n_Mo_init [.ref n] (g ++ [.inr (11, xa_df 11)]) none (g ++ moC n) := by
  refine rn_in m_Mo_init rfl ⟨rfl, rfl⟩ ?_
  show ev _ t_Mo_init 0 [.ref n, .float 0] [] _ _
  repeat (refine ev_np [8] rfl rfl rfl ?_)
  refine gv_na hn (m := 1) (w := 864) rfl (by decide) (by rfl) ?_
  refine gv_pf hn 0 rfl (by rfl) (by rfl) (by rfl) ?_
  refine gv_nm [.inr (11, [.int 0, .ref (n + 1), .null, .null, .int 0, .int 0, .int 0, .int 0, .int 0, .int 0, .null, .null, .int 0, .int 0, .int 0, .int 0, .null, .int 0, .int 0, .null, .null, .null, .null, .int 0, .int 0]), zr 864] (by rfl) ?_
  repeat (refine ev_np [16] rfl rfl rfl ?_)
  refine gv_na hn (m := 2) (w := 8) rfl (by decide) (by rfl) ?_
  refine gv_pf hn 0 rfl (by rfl) (by rfl) (by rfl) ?_
  refine gv_nm [.inr (11, [.int 0, .ref (n + 1), .ref (n + 2), .null, .int 0, .int 0, .int 0, .int 0, .int 0, .int 0, .null, .null, .int 0, .int 0, .int 0, .int 0, .null, .int 0, .int 0, .null, .null, .null, .null, .int 0, .int 0]), zr 864, zr 8] (by rfl) ?_
  repeat (refine ev_np [25] rfl rfl rfl ?_)
  refine gv_na hn (m := 3) (w := 300) rfl (by decide) (by rfl) ?_
  refine gv_pf hn 0 rfl (by rfl) (by rfl) (by rfl) ?_
  refine gv_nm [.inr (11, [.int 0, .ref (n + 1), .ref (n + 2), .ref (n + 3), .int 0, .int 0, .int 0, .int 0, .int 0, .int 0, .null, .null, .int 0, .int 0, .int 0, .int 0, .null, .int 0, .int 0, .null, .null, .null, .null, .int 0, .int 0]), zr 864, zr 8, zr 300] (by rfl) ?_
  repeat (refine ev_np [34] rfl rfl rfl ?_)
  refine gv_na hn (m := 4) (w := 320) rfl (by decide) (by rfl) ?_
  refine gv_pf hn 0 rfl (by rfl) (by rfl) (by rfl) ?_
  refine gv_nm [.inr (11, [.int 0, .ref (n + 1), .ref (n + 2), .ref (n + 3), .int 0, .int 0, .int 0, .int 0, .int 0, .int 0, .ref (n + 4), .null, .int 0, .int 0, .int 0, .int 0, .null, .int 0, .int 0, .null, .null, .null, .null, .int 0, .int 0]), zr 864, zr 8, zr 300, zr 320] (by rfl) ?_
  repeat (refine ev_np [43] rfl rfl rfl ?_)
  refine gv_na hn (m := 5) (w := 320) rfl (by decide) (by rfl) ?_
  refine gv_pf hn 0 rfl (by rfl) (by rfl) (by rfl) ?_
  refine gv_nm [.inr (11, [.int 0, .ref (n + 1), .ref (n + 2), .ref (n + 3), .int 0, .int 0, .int 0, .int 0, .int 0, .int 0, .ref (n + 4), .ref (n + 5), .int 0, .int 0, .int 0, .int 0, .null, .int 0, .int 0, .null, .null, .null, .null, .int 0, .int 0]), zr 864, zr 8, zr 300, zr 320, zr 320] (by rfl) ?_
  repeat (refine ev_np [51] rfl rfl rfl ?_)
  refine gv_na hn (m := 6) (w := 64) rfl (by decide) (by rfl) ?_
  refine gv_pf hn 0 rfl (by rfl) (by rfl) (by rfl) ?_
  refine gv_nm [.inr (11, [.int 0, .ref (n + 1), .ref (n + 2), .ref (n + 3), .int 0, .int 0, .int 0, .int 0, .int 0, .int 0, .ref (n + 4), .ref (n + 5), .int 0, .int 0, .int 0, .int 0, .ref (n + 6), .int 0, .int 0, .null, .null, .null, .null, .int 0, .int 0]), zr 864, zr 8, zr 300, zr 320, zr 320, zr 64] (by rfl) ?_
  repeat (refine ev_np [60] rfl rfl rfl ?_)
  refine gv_na hn (m := 7) (w := 180) rfl (by decide) (by rfl) ?_
  refine gv_pf hn 0 rfl (by rfl) (by rfl) (by rfl) ?_
  refine gv_nm [.inr (11, [.int 0, .ref (n + 1), .ref (n + 2), .ref (n + 3), .int 0, .int 0, .int 0, .int 0, .int 0, .int 0, .ref (n + 4), .ref (n + 5), .int 0, .int 0, .int 0, .int 0, .ref (n + 6), .int 0, .int 0, .ref (n + 7), .null, .null, .null, .int 0, .int 0]), zr 864, zr 8, zr 300, zr 320, zr 320, zr 64, zr 180] (by rfl) ?_
  repeat (refine ev_np [68] rfl rfl rfl ?_)
  refine gv_na hn (m := 8) (w := 36) rfl (by decide) (by rfl) ?_
  refine gv_pf hn 0 rfl (by rfl) (by rfl) (by rfl) ?_
  refine gv_nm [.inr (11, [.int 0, .ref (n + 1), .ref (n + 2), .ref (n + 3), .int 0, .int 0, .int 0, .int 0, .int 0, .int 0, .ref (n + 4), .ref (n + 5), .int 0, .int 0, .int 0, .int 0, .ref (n + 6), .int 0, .int 0, .ref (n + 7), .ref (n + 8), .null, .null, .int 0, .int 0]), zr 864, zr 8, zr 300, zr 320, zr 320, zr 64, zr 180, zr 36] (by rfl) ?_
  repeat (refine ev_np [76] rfl rfl rfl ?_)
  refine gv_na hn (m := 9) (w := 36) rfl (by decide) (by rfl) ?_
  refine gv_pf hn 0 rfl (by rfl) (by rfl) (by rfl) ?_
  refine gv_nm [.inr (11, [.int 0, .ref (n + 1), .ref (n + 2), .ref (n + 3), .int 0, .int 0, .int 0, .int 0, .int 0, .int 0, .ref (n + 4), .ref (n + 5), .int 0, .int 0, .int 0, .int 0, .ref (n + 6), .int 0, .int 0, .ref (n + 7), .ref (n + 8), .ref (n + 9), .null, .int 0, .int 0]), zr 864, zr 8, zr 300, zr 320, zr 320, zr 64, zr 180, zr 36, zr 36] (by rfl) ?_
  repeat (refine ev_np [84] rfl rfl rfl ?_)
  refine gv_na hn (m := 10) (w := 36) rfl (by decide) (by rfl) ?_
  refine gv_pf hn 0 rfl (by rfl) (by rfl) (by rfl) ?_
  refine gv_nm [.inr (11, [.int 0, .ref (n + 1), .ref (n + 2), .ref (n + 3), .int 0, .int 0, .int 0, .int 0, .int 0, .int 0, .ref (n + 4), .ref (n + 5), .int 0, .int 0, .int 0, .int 0, .ref (n + 6), .int 0, .int 0, .ref (n + 7), .ref (n + 8), .ref (n + 9), .ref (n + 10), .int 0, .int 0]), zr 864, zr 8, zr 300, zr 320, zr 320, zr 64, zr 180, zr 36, zr 36, zr 36] (by rfl) ?_
  repeat (refine ev_np [] rfl rfl rfl ?_)
  refine gv_pf hn 0 rfl (by rfl) (by rfl) (by rfl) ?_
  refine gv_nm [.inr (11, [.int 0, .ref (n + 1), .ref (n + 2), .ref (n + 3), .int 0, .int 0, .int 0, .int 0, .int 0, .int 0, .ref (n + 4), .ref (n + 5), .int 0, .int 0, .int 0, .int 0, .ref (n + 6), .int 0, .int 0, .ref (n + 7), .ref (n + 8), .ref (n + 9), .ref (n + 10), .int 1, .int 0]), zr 864, zr 8, zr 300, zr 320, zr 320, zr 64, zr 180, zr 36, zr 36, zr 36] (by rfl) ?_
  repeat (refine ev_np [] rfl rfl rfl ?_)
  refine gv_gf hn 0 rfl (by rfl) (by rfl) ?_
  repeat (refine ev_np [] rfl rfl rfl ?_)
  refine gv_as hn 2 0 rfl (by rfl) (by decide) ?_
  refine gv_nm [.inr (11, [.int 0, .ref (n + 1), .ref (n + 2), .ref (n + 3), .int 0, .int 0, .int 0, .int 0, .int 0, .int 0, .ref (n + 4), .ref (n + 5), .int 0, .int 0, .int 0, .int 0, .ref (n + 6), .int 0, .int 0, .ref (n + 7), .ref (n + 8), .ref (n + 9), .ref (n + 10), .int 1, .int 0]), zr 864, .inl (0, 8, upd (fun _ => 0) 0 1), zr 300, zr 320, zr 320, zr 64, zr 180, zr 36, zr 36, zr 36] (by rfl) ?_
  repeat (refine ev_np [] rfl rfl rfl ?_)
  refine gv_gf hn 0 rfl (by rfl) (by rfl) ?_
  repeat (refine ev_np [] rfl rfl rfl ?_)
  refine gv_as hn 2 1 rfl (by rfl) (by decide) ?_
  refine gv_nm [.inr (11, [.int 0, .ref (n + 1), .ref (n + 2), .ref (n + 3), .int 0, .int 0, .int 0, .int 0, .int 0, .int 0, .ref (n + 4), .ref (n + 5), .int 0, .int 0, .int 0, .int 0, .ref (n + 6), .int 0, .int 0, .ref (n + 7), .ref (n + 8), .ref (n + 9), .ref (n + 10), .int 1, .int 0]), zr 864, .inl (0, 8, upd (upd (fun _ => 0) 0 1) 1 1), zr 300, zr 320, zr 320, zr 64, zr 180, zr 36, zr 36, zr 36] (by rfl) ?_
  repeat (refine ev_np [] rfl rfl rfl ?_)
  refine gv_gf hn 0 rfl (by rfl) (by rfl) ?_
  repeat (refine ev_np [] rfl rfl rfl ?_)
  refine gv_as hn 2 2 rfl (by rfl) (by decide) ?_
  refine gv_nm [.inr (11, [.int 0, .ref (n + 1), .ref (n + 2), .ref (n + 3), .int 0, .int 0, .int 0, .int 0, .int 0, .int 0, .ref (n + 4), .ref (n + 5), .int 0, .int 0, .int 0, .int 0, .ref (n + 6), .int 0, .int 0, .ref (n + 7), .ref (n + 8), .ref (n + 9), .ref (n + 10), .int 1, .int 0]), zr 864, .inl (0, 8, upd (upd (upd (fun _ => 0) 0 1) 1 1) 2 1), zr 300, zr 320, zr 320, zr 64, zr 180, zr 36, zr 36, zr 36] (by rfl) ?_
  repeat (refine ev_np [] rfl rfl rfl ?_)
  refine gv_gf hn 0 rfl (by rfl) (by rfl) ?_
  repeat (refine ev_np [] rfl rfl rfl ?_)
  refine gv_as hn 2 3 rfl (by rfl) (by decide) ?_
  refine gv_nm [.inr (11, [.int 0, .ref (n + 1), .ref (n + 2), .ref (n + 3), .int 0, .int 0, .int 0, .int 0, .int 0, .int 0, .ref (n + 4), .ref (n + 5), .int 0, .int 0, .int 0, .int 0, .ref (n + 6), .int 0, .int 0, .ref (n + 7), .ref (n + 8), .ref (n + 9), .ref (n + 10), .int 1, .int 0]), zr 864, .inl (0, 8, upd (upd (upd (upd (fun _ => 0) 0 1) 1 1) 2 1) 3 1), zr 300, zr 320, zr 320, zr 64, zr 180, zr 36, zr 36, zr 36] (by rfl) ?_
  repeat (refine ev_np [] rfl rfl rfl ?_)
  refine gv_gf hn 0 rfl (by rfl) (by rfl) ?_
  repeat (refine ev_np [] rfl rfl rfl ?_)
  refine gv_as hn 2 4 rfl (by rfl) (by decide) ?_
  refine gv_nm [.inr (11, [.int 0, .ref (n + 1), .ref (n + 2), .ref (n + 3), .int 0, .int 0, .int 0, .int 0, .int 0, .int 0, .ref (n + 4), .ref (n + 5), .int 0, .int 0, .int 0, .int 0, .ref (n + 6), .int 0, .int 0, .ref (n + 7), .ref (n + 8), .ref (n + 9), .ref (n + 10), .int 1, .int 0]), zr 864, .inl (0, 8, upd (upd (upd (upd (upd (fun _ => 0) 0 1) 1 1) 2 1) 3 1) 4 1), zr 300, zr 320, zr 320, zr 64, zr 180, zr 36, zr 36, zr 36] (by rfl) ?_
  repeat (refine ev_np [] rfl rfl rfl ?_)
  refine gv_gf hn 0 rfl (by rfl) (by rfl) ?_
  repeat (refine ev_np [] rfl rfl rfl ?_)
  refine gv_as hn 2 5 rfl (by rfl) (by decide) ?_
  refine gv_nm [.inr (11, [.int 0, .ref (n + 1), .ref (n + 2), .ref (n + 3), .int 0, .int 0, .int 0, .int 0, .int 0, .int 0, .ref (n + 4), .ref (n + 5), .int 0, .int 0, .int 0, .int 0, .ref (n + 6), .int 0, .int 0, .ref (n + 7), .ref (n + 8), .ref (n + 9), .ref (n + 10), .int 1, .int 0]), zr 864, .inl (0, 8, upd (upd (upd (upd (upd (upd (fun _ => 0) 0 1) 1 1) 2 1) 3 1) 4 1) 5 1), zr 300, zr 320, zr 320, zr 64, zr 180, zr 36, zr 36, zr 36] (by rfl) ?_
  repeat (refine ev_np [] rfl rfl rfl ?_)
  refine gv_gf hn 0 rfl (by rfl) (by rfl) ?_
  repeat (refine ev_np [] rfl rfl rfl ?_)
  refine gv_as hn 2 6 rfl (by rfl) (by decide) ?_
  refine gv_nm [.inr (11, [.int 0, .ref (n + 1), .ref (n + 2), .ref (n + 3), .int 0, .int 0, .int 0, .int 0, .int 0, .int 0, .ref (n + 4), .ref (n + 5), .int 0, .int 0, .int 0, .int 0, .ref (n + 6), .int 0, .int 0, .ref (n + 7), .ref (n + 8), .ref (n + 9), .ref (n + 10), .int 1, .int 0]), zr 864, .inl (0, 8, upd (upd (upd (upd (upd (upd (upd (fun _ => 0) 0 1) 1 1) 2 1) 3 1) 4 1) 5 1) 6 1), zr 300, zr 320, zr 320, zr 64, zr 180, zr 36, zr 36, zr 36] (by rfl) ?_
  repeat (refine ev_np [] rfl rfl rfl ?_)
  refine gv_gf hn 0 rfl (by rfl) (by rfl) ?_
  repeat (refine ev_np [] rfl rfl rfl ?_)
  refine gv_as hn 2 7 rfl (by rfl) (by decide) ?_
  refine gv_nm [.inr (11, [.int 0, .ref (n + 1), .ref (n + 2), .ref (n + 3), .int 0, .int 0, .int 0, .int 0, .int 0, .int 0, .ref (n + 4), .ref (n + 5), .int 0, .int 0, .int 0, .int 0, .ref (n + 6), .int 0, .int 0, .ref (n + 7), .ref (n + 8), .ref (n + 9), .ref (n + 10), .int 1, .int 0]), zr 864, .inl (0, 8, upd (upd (upd (upd (upd (upd (upd (upd (fun _ => 0) 0 1) 1 1) 2 1) 3 1) 4 1) 5 1) 6 1) 7 1), zr 300, zr 320, zr 320, zr 64, zr 180, zr 36, zr 36, zr 36] (by rfl) ?_
  repeat (refine ev_np [] rfl rfl rfl ?_)
  refine gv_gf hn 0 rfl (by rfl) (by rfl) ?_
  repeat (refine ev_np [] rfl rfl rfl ?_)
  refine gv_as hn 4 0 rfl (by rfl) (by decide) ?_
  repeat (refine ev_np [] rfl rfl rfl ?_)
  refine gv_pf hn 0 rfl (by rfl) (by rfl) (by rfl) ?_
  repeat (refine ev_np [] rfl rfl rfl ?_)
  refine gv_pf hn 0 rfl (by rfl) (by rfl) (by rfl) ?_
  exact ev_rv rfl
end INI2
