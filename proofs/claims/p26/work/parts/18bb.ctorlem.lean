/-! for the constructors of the class and of the reference -/
section PMC
variable {α : Type} (c0 now sv r0 r1 r2 r3 r4 r5 tt : List α)
theorem pm_ctor : (((((((((c0 ++ now) ++ sv) ++ r0) ++ r1) ++ r2) ++ r3) ++ r4) ++ r5) ++ tt).Perm ((c0 ++ sv) ++ (tt ++ (now ++ (r0 ++ (r1 ++ (r2 ++ (r3 ++ (r4 ++ r5)))))))) := by
  classical
  exact List.perm_iff_count.mpr fun z => by simp only [List.count_append]; omega
end PMC
