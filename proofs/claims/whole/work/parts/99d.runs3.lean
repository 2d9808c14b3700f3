/-! PACKING: runs made short, in numbers. -/
/-- from the place a on, with n bytes in the BLOCK -/
def shP (f : Nat → Int32) (Z room : Nat) : Nat → Nat → Nat → (Nat → Int32) → Nat × Nat × (Nat → Int32)
  | 0, a, n, B => (a, n, B)
  | m + 1, a, n, B => if a < Z then (if n + (if rn_n f Z a 254 1 < 4 then rn_n f Z a 254 1 else 5) ≤ room then shP f Z room m (a + rn_n f Z a 254 1) (n + (if rn_n f Z a 254 1 < 4 then rn_n f Z a 254 1 else 5)) (if rn_n f Z a 254 1 < 4 then flB B n (rn_n f Z a 254 1) (f a) else upd (flB B n 4 (f a)) (n + 4) (by8 (rn_n f Z a 254 1 - 4))) else (a, n, B)) else (a, n, B)
theorem rn_n_le {f : Nat → Int32} {Z A : Nat} : ∀ {j k : Nat}, A + k ≤ Z → k ≤ rn_n f Z A j k ∧ rn_n f Z A j k ≤ k + j ∧ A + rn_n f Z A j k ≤ Z
  | 0, k, h => ⟨Nat.le_refl _, Nat.le_refl _, h⟩
  | j + 1, k, h => by
    unfold rn_n
    by_cases c : A + k < Z
    · rw [if_pos c]
      by_cases d : f (A + k) &&& 255 = f A &&& 255
      · rw [if_pos d]
        have := rn_n_le (f := f) (Z := Z) (A := A) (j := j) (k := k + 1) (by omega)
        omega
      · rw [if_neg d]
        omega
    · rw [if_neg c]
      omega
