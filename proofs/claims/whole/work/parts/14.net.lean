/-! The network's methods. Rows laid by wip/gen/net.py. -/
theorem n_cell {X : mX} {C S : Nat} {Q : Outcome → mM → Prop} {n t : Int32} {M : mM} (hq : Q (.returned (some (.int (t * 8 + n)))) M) : Sp X 1 0 0 C S (0, [(0, .int (n)), (1, .int (t))], []) M Q := by
  refine Sp.go 5 (g := (6, [(0, .int (n)), (1, .int (t))], [.int ((t * 8) + n)])) rfl ?_
  refine Sp.iret rfl (Or.inl rfl) ?_
  exact hq
