/-! PACKING: the sum of a BLOCK's bytes, the class's as crF. -/
theorem sm_c (f : Nat → Int32) (A : Nat) : ∀ (j k : Nat), sm_n f j (A + k) (crF f A k) = crF f A (k + j)
  | 0, k => rfl
  | j + 1, k => by
    show sm_n f j (A + k + 1) (cr_n 8 (crF f A k ^^^ (f (A + k) &&& 255) <<< (24 &&& 31))) = _
    rw [oc_and, show cr_n 8 (crF f A k ^^^ Int32.ofNat (oc (f (A + k))) <<< (24 &&& 31)) = crF f A (k + 1) from rfl, show A + k + 1 = A + (k + 1) from rfl, sm_c f A j (k + 1), show k + 1 + j = k + (j + 1) by omega]
theorem pk_sumN {w : za_W} {Z A B : Nat} {f : Nat → Int32} {G : za_O → za_W → Prop} (h1 : w.2.2 1 = some (rowO 2 Z)) (h2 : w.2.2 2 = some (arB 1500 f)) (hAB : A ≤ B) (hB : B ≤ Z) (hZ : Z ≤ 1500) (hG : G (.inl (some (.int (crF f A (B - A) ^^^ -1)))) w) : za_T 54 [.ref 1, .int (Int32.ofNat A), .int (Int32.ofNat B)] w G := by
  refine pk_sumBetween (j := B - A) h1 h2 hB hZ (by omega) (by omega) ?_
  have e := sm_c f A (B - A) 0
  rw [Nat.zero_add] at e
  have e2 : sm_n f (B - A) A (-1) = crF f A (B - A) := e
  rw [e2]
  exact hG
