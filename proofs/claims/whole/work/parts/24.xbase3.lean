theorem gx_new {wp wr : va_W} {q : Nat × va_E} : ((wp ++ wr) ++ [q]).Perm ((wp ++ [q]) ++ wr) := by
  rw [List.append_assoc, List.append_assoc]
  exact List.Perm.append_left wp List.perm_append_comm

