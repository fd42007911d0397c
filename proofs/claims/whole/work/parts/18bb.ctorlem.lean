/-! for the constructors of the class and of the reference -/
theorem m_N0 : upd (upd (upd (upd (upd (upd (upd z0 0 12) 1 1) 2 50) 4 200) 9 60) 10 60) 11 60 = flat N0 := by
  have h9 : ∀ N : NN, upd (flat N) 9 60 = flat (up2 N 2 0 60) := fun N => flat_putW N 0 60 (by decide)
  have h10 : ∀ N : NN, upd (flat N) 10 60 = flat (up2 N 2 1 60) := fun N => flat_putW N 1 60 (by decide)
  have h11 : ∀ N : NN, upd (flat N) 11 60 = flat (up2 N 2 2 60) := fun N => flat_putW N 2 60 (by decide)
  rw [← flat_Z, flat_put0, flat_put1, flat_put2, flat_put4, h9, h10, h11]
  rfl
section PMC
variable {α : Type} (c0 now sv r0 r1 r2 r3 r4 r5 tt : List α)
theorem pm_ctor : (((((((((c0 ++ now) ++ sv) ++ r0) ++ r1) ++ r2) ++ r3) ++ r4) ++ r5) ++ tt).Perm ((c0 ++ sv) ++ (tt ++ (now ++ (r0 ++ (r1 ++ (r2 ++ (r3 ++ (r4 ++ r5)))))))) := by
  classical
  exact List.perm_iff_count.mpr fun z => by simp only [List.count_append]; omega
end PMC
