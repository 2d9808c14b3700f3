theorem zz_f3 : ((3 : Fin 4).val) = 3 := (rfl)
theorem zz_e2 : ((2 : Int32) = 0) = False := by decide
theorem zz_e8 : ((8 : Int32) = 0) = False := by decide
theorem zz_e16 : ((16 : Int32) = 0) = False := by decide
theorem zz_e50 : ((50 : Int32) = 0) = False := by decide
theorem zz_e4 : ((4 : Int32) = 0) = False := by decide
theorem za_up.up (w : za_W) (k : Nat) (c d : za_C) : za_up (za_up w k c) k d = za_up w k d := by
  unfold za_up
  congr 2
  funext j
  by_cases h : j = k <;> simp [h]
