theorem pm_2_1 {b0 b1 : va_W} : (b0 ++ b1).Perm ((b1) ++ (b0)) := by
  try simp only [List.append_assoc]
  refine List.Perm.trans List.perm_append_comm ?_
  exact List.Perm.refl _
theorem pm_3_1 {b0 b1 b2 : va_W} : (b0 ++ (b1 ++ b2)).Perm ((b1) ++ (b0 ++ b2)) := by
  try simp only [List.append_assoc]
  refine List.Perm.trans (List.perm_append_comm_assoc _ _ _) ?_
  exact List.Perm.refl _
theorem pm_3_21 {b0 b1 b2 : va_W} : (b0 ++ (b1 ++ b2)).Perm ((b2 ++ b1) ++ (b0)) := by
  try simp only [List.append_assoc]
  refine List.Perm.trans (List.Perm.append_left _ List.perm_append_comm) ?_
  refine List.Perm.trans (List.perm_append_comm_assoc _ _ _) ?_
  refine List.Perm.trans (List.Perm.append_left _ List.perm_append_comm) ?_
  exact List.Perm.refl _
