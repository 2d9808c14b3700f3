/-! THE BOND, 2: what binds the two sides between calls. -/
def md_o (V : Nat → Int32) : za_C := .inr (14, lk_f V 0 md_fs)
def bts (f : Nat → Int32) : Prop := ∀ k, fits .byte (.int (f k)) = true
/-- level, INPUT, OUT, HAD -/
def Bd (w : za_W) (V : Nat → Int32) (lv : Int32) (I O H : Nat) (fI fO fH gI gO gH : Nat → Int32) : Prop :=
  w.2.2 0 = some (.inr (12, [.int lv, .ref 1, .ref 3, .ref 5, .ref 7, .ref 34, .ref 93])) ∧ w.2.2 138 = some (md_o V) ∧
  (w.2.2 1 = some (.inr (8, [.ref 2, .int (Int32.ofNat I)])) ∧ w.2.2 2 = some (.inl (0, 1500, .inl fI)) ∧ w.2.2 140 = some (.inl (0, 1500, .inl gI)) ∧ I ≤ 1500 ∧ bts fI ∧ bts gI ∧ V 4 = Int32.ofNat I ∧ ∀ k, k < I → gI k = fI k) ∧
  (w.2.2 3 = some (.inr (8, [.ref 4, .int (Int32.ofNat O)])) ∧ w.2.2 4 = some (.inl (0, 4000, .inl fO)) ∧ w.2.2 141 = some (.inl (0, 4100, .inl gO)) ∧ O ≤ 4000 ∧ bts fO ∧ bts gO ∧ V 6 = Int32.ofNat O ∧ ∀ k, k < O → gO k = fO k) ∧
  (w.2.2 5 = some (.inr (8, [.ref 6, .int (Int32.ofNat H)])) ∧ w.2.2 6 = some (.inl (0, 1500, .inl fH)) ∧ w.2.2 142 = some (.inl (0, 1500, .inl gH)) ∧ H ≤ 1500 ∧ bts fH ∧ bts gH ∧ V 8 = Int32.ofNat H ∧ ∀ k, gH k = fH k) ∧
  V 2 = lv ∧ 1 ≤ lv ∧ lv ≤ 9
/-- the rule that was broken last -/
def Rl (w : za_W) (V : Nat → Int32) : Prop := ∃ z o l : Int32, w.2.2 93 = some (.inr (6, [.ref 3, .ref 7, .ref 29, .ref 101, .ref 94, .ref 96, .ref 98, .ref 99, .ref 100, .int z, .int o, .int l, .int (V 9)]))
/-- what is told of BLOCKS and of the last coding -/
def Td (w : za_W) (V : Nat → Int32) : Prop := ∃ (ds : Int32) (T la sp tb ch al : Nat) (fF fS gF gS c1 c2 gL : Nat → Int32) (m : Nat → Nat → Int32),
  (la = 11 ∧ sp = 20 ∨ la = 20 ∧ sp = 11) ∧ w.2.2 7 = some (.inr (10, [.ref 8, .ref 9, .ref 10, .int ds, .int (Int32.ofNat T), .ref la, .ref sp])) ∧ T ≤ 12000 ∧ V 10 = Int32.ofNat T ∧
  (w.2.2 8 = some (.inl (1, 540, .inl fF)) ∧ w.2.2 143 = some (.inl (1, 540, .inl gF)) ∧ ∀ k, k < 9 * min T 60 → gF k = fF k) ∧
  (w.2.2 9 = some (.inl (1, 60, .inl fS)) ∧ w.2.2 144 = some (.inl (1, 60, .inl gS)) ∧ ∀ k, k < min T 60 → gS k = fS k) ∧
  (w.2.2 la = some (.inr (4, [.int (Int32.ofNat tb), .int (Int32.ofNat ch), .int (Int32.ofNat al), .ref (la + 1), .ref (la + 2)])) ∧ tb ≤ 6 ∧ ch ≤ 12000 ∧ al ≤ 258 ∧ V 16 = Int32.ofNat tb ∧ V 14 = Int32.ofNat ch ∧ (0 < tb → V 17 = Int32.ofNat al)) ∧
  (w.2.2 (la + 1) = some (.inl (0, 12000, .inl c1)) ∧ w.2.2 145 = some (.inl (1, 32768, .inl c2)) ∧ ∀ k, k < ch → c2 k = c1 k) ∧
  (w.2.2 146 = some (.inl (1, 1560, .inl gL)) ∧ (∀ t, t < 6 → w.2.2 (la + 3 + t) = some (.inl (1, 258, .inl (m t)))) ∧ ∀ t v, t < tb → v < al → gL (260 * t + v) = m t v)
def Rel (_ : Nat) (w : za_W) : Prop := Sh w ∧ ∃ (V : Nat → Int32) (lv : Int32) (I O H : Nat) (fI fO fH gI gO gH : Nat → Int32), Bd w V lv I O H fI fO fH gI gO gH ∧ Rl w V ∧ Td w V
theorem md_lv1 (x : Int32) : 1 ≤ zi_mx 1 (zi_mn 9 x) ∧ zi_mx 1 (zi_mn 9 x) ≤ 9 := by
  rw [← md_lv]
  by_cases h1 : x < 1
  · rw [if_pos h1]
    exact ⟨by decide, by decide⟩
  · rw [if_neg h1]
    by_cases h2 : 9 < x
    · rw [if_pos h2]
      exact ⟨by decide, by decide⟩
    · rw [if_neg h2]
      exact ⟨Int32.not_lt.mp h1, Int32.not_lt.mp h2⟩
set_option maxRecDepth 100000 in
set_option maxHeartbeats 4000000 in
theorem Rel.start (x : Int32) : Rel 0 (zl_w x) := by
  have hb : bts (fun _ => 0) := fun _ => rfl
  refine ⟨Sh.start x, fun k => if k = 2 then zi_mx 1 (zi_mn 9 x) else 0, zi_mx 1 (zi_mn 9 x), 0, 0, 0, fun _ => 0, fun _ => 0, fun _ => 0, fun _ => 0, fun _ => 0, fun _ => 0, ⟨?_, ?_, ⟨?_, ?_, ?_, by omega, hb, hb, rfl, fun _ _ => rfl⟩, ⟨?_, ?_, ?_, by omega, hb, hb, rfl, fun _ _ => rfl⟩, ⟨?_, ?_, ?_, by omega, hb, hb, rfl, fun _ => rfl⟩, rfl, (md_lv1 x).1, (md_lv1 x).2⟩, ⟨0, 0, 0, ?_⟩, 0, 0, 11, 20, 0, 0, 0, fun _ => 0, fun _ => 0, fun _ => 0, fun _ => 0, fun _ => 0, fun _ => 0, fun _ => 0, fun _ _ => 0, Or.inl ⟨rfl, rfl⟩, ?_, by omega, rfl, ⟨?_, ?_, fun _ _ => rfl⟩, ⟨?_, ?_, fun _ _ => rfl⟩, ⟨?_, by omega, by omega, by omega, rfl, rfl, fun h => absurd h (by omega)⟩, ⟨?_, ?_, fun _ _ => rfl⟩, ⟨?_, ?_, fun _ _ _ _ => rfl⟩⟩
  all_goals (try rw [zl_w.at])
  all_goals first
    | rfl
    | (intro t ht
       rw [zl_w.at]
       match t, ht with
       | 0, _ => rfl
       | 1, _ => rfl
       | 2, _ => rfl
       | 3, _ => rfl
       | 4, _ => rfl
       | 5, _ => rfl
       | n + 6, h => exact absurd h (by omega))
