/-! OPENING, in numbers: what both sides compute. An error is (rule, bit). -/
def un (f : Nat → Nat) (k x : Nat) : Nat → Nat := fun j => if j = k then x else f j
theorem un.on (f : Nat → Nat) {k x j : Nat} (h : j = k) : un f k x j = x := if_pos h
theorem un.off (f : Nat → Nat) {k x j : Nat} (h : j ≠ k) : un f k x j = f j := if_neg h
/-- an array of a side holds these numbers, as far as n -/
def nA (g : Nat → Int32) (F : Nat → Nat) (n : Nat) : Prop := ∀ j, j < n → g j = Int32.ofNat (F j)
theorem nA.le {g : Nat → Int32} {F : Nat → Nat} {n m : Nat} (h : nA g F n) (hm : m ≤ n) : nA g F m := fun j hj => h j (by omega)
theorem nA.up {g : Nat → Int32} {F : Nat → Nat} {n k x : Nat} (h : nA g F n) : nA (upd g k (Int32.ofNat x)) (un F k x) n := fun j hj => by
  by_cases e : j = k
  · rw [wu_on _ e, un.on _ e]
  · rw [wu_off _ e, un.off _ e]
    exact h j hj
theorem nA.add {g : Nat → Int32} {F : Nat → Nat} {n x : Nat} (h : nA g F n) : nA (upd g n (Int32.ofNat x)) (un F n x) (n + 1) := fun j hj => by
  by_cases e : j = n
  · rw [wu_on _ e, un.on _ e]
  · rw [wu_off _ e, un.off _ e]
    exact h j (by omega)
/-- the map -/
def mpS (f : Nat → Int32) (a : Nat) : Nat → Nat
  | 0 => a + 16
  | k + 1 => mpS f a k + 16 * bt f (a + k)
def sgI (f : Nat → Int32) (a s : Nat) : Nat := bt f (a + s / 16) * bt f (mpS f a (s / 16) + s % 16)
def sgC (p : Nat → Nat) : Nat → Nat
  | 0 => 0
  | n + 1 => sgC p n + p n
def sgF (p : Nat → Nat) : Nat → Nat → Nat
  | 0 => fun _ => 0
  | n + 1 => if p n = 1 then un (sgF p n) (sgC p n) n else sgF p n
def mpE (f : Nat → Int32) (Z a : Nat) : Option (Nat × Nat) := if mpS f a 16 ≤ 8 * Z then (if sgC (sgI f a) 256 = 0 then some (5, mpS f a 16) else none) else some (1, 8 * Z)
theorem mpS.le (f : Nat → Int32) (a : Nat) : ∀ {j k : Nat}, j ≤ k → mpS f a j ≤ mpS f a k
  | j, 0, h => by
    obtain rfl : j = 0 := by omega
    exact Nat.le_refl _
  | j, k + 1, h => by
    by_cases e : j = k + 1
    · subst e; exact Nat.le_refl _
    · exact Nat.le_trans (mpS.le f a (by omega : j ≤ k)) (Nat.le_add_right _ _)
theorem sgI_le (f : Nat → Int32) (a s : Nat) : sgI f a s ≤ 1 := by
  unfold sgI
  have h1 := bt_le f (a + s / 16)
  have h2 := bt_le f (mpS f a (s / 16) + s % 16)
  exact Nat.le_trans (Nat.mul_le_mul h1 h2) (by omega)
theorem sgC_le (p : Nat → Nat) (h : ∀ s, p s ≤ 1) : ∀ n, sgC p n ≤ n
  | 0 => Nat.le_refl _
  | n + 1 => Nat.add_le_add (sgC_le p h n) (h n)
theorem sgF_lt (p : Nat → Nat) : ∀ n j, 0 < n → sgF p n j < n
  | 0, _, h => absurd h (by omega)
  | n + 1, j, _ => by
    show (if p n = 1 then un (sgF p n) (sgC p n) n else sgF p n) j < n + 1
    have h : ∀ j, sgF p n j < n + 1 := fun j => by
      by_cases e : n = 0
      · subst e; show 0 < 0 + 1; omega
      · have := sgF_lt p n j (by omega); omega
    split
    · by_cases e : j = sgC p n
      · rw [un.on _ e]; omega
      · rw [un.off _ e]; exact h j
    · exact h j
/-- choices -/
def unP (f : Nat → Int32) (Z : Nat) : Nat → Nat → Nat → (Nat × Nat) ⊕ (Nat × Nat)
  | 0, _, a => .inl (6, a)
  | m + 1, p, a => if a < 8 * Z then (if bt f a = 0 then .inr (p, a + 1) else unP f Z m (p + 1) (a + 1)) else .inl (1, 8 * Z)
def mtf (F : Nat → Nat) (p : Nat) : Nat → Nat := fun j => if j = 0 then F p else if j ≤ p then F (j - 1) else F j
def chL (f : Nat → Int32) (Z tb : Nat) : Nat → Nat → Nat → (Nat → Nat) → (Nat → Nat) → (Nat × Nat) ⊕ (Nat × (Nat → Nat))
  | 0, _, a, _, C => .inr (a, C)
  | j + 1, k, a, F, C => match unP f Z tb 0 a with
    | .inl e => .inl e
    | .inr (p, a') => chL f Z tb j (k + 1) a' (mtf F p) (un C k (F p))
def chP (f : Nat → Int32) (Z a : Nat) : (Nat × Nat) ⊕ (Nat × (Nat → Nat)) := if a + 3 ≤ 8 * Z then (if 2 ≤ rdN f a 3 ∧ rdN f a 3 ≤ 6 then (if a + 18 ≤ 8 * Z then (if rdN f (a + 3) 15 = 0 then .inl (6, a + 18) else chL f Z (rdN f a 3) (rdN f (a + 3) 15) 0 (a + 18) (fun j => j) (fun _ => 0)) else .inl (1, 8 * Z)) else .inl (6, a + 3)) else .inl (1, 8 * Z)
theorem unP_le {f : Nat → Int32} {Z : Nat} : ∀ {m p a q b : Nat}, unP f Z m p a = .inr (q, b) → q < p + m ∧ a < b ∧ b ≤ 8 * Z
  | 0, p, a, q, b, h => by cases h
  | m + 1, p, a, q, b, h => by
    unfold unP at h
    split at h
    · split at h
      · cases h; omega
      · have := unP_le h; omega
    · cases h
theorem mtf_lt {F : Nat → Nat} {p n : Nat} (h : ∀ j, F j < n) (j : Nat) : mtf F p j < n := by
  unfold mtf
  split
  · exact h _
  · split <;> exact h _
theorem mtf_ltn {F : Nat → Nat} {p n : Nat} (h : ∀ j, j < n → F j < n) (hp : p < n) (j : Nat) (hj : j < n) : mtf F p j < n := by
  unfold mtf
  split
  · exact h _ hp
  · split
    · exact h _ (by omega)
    · exact h _ hj
/-- lengths -/
def lnP (f : Nat → Int32) (Z : Nat) : Nat → Nat → Nat → (Nat × Nat) ⊕ (Nat × Nat)
  | 0, _, _ => .inl (0, 0)
  | m + 1, x, a => if a < 8 * Z then (if bt f a = 0 then .inr (x, a + 1) else if a + 1 < 8 * Z then (if bt f (a + 1) = 0 then (if x < 20 then lnP f Z m (x + 1) (a + 2) else .inl (7, a + 2)) else (if 1 < x then lnP f Z m (x - 1) (a + 2) else .inl (7, a + 2))) else .inl (1, 8 * Z)) else .inl (1, 8 * Z)
def lrP (f : Nat → Int32) (Z : Nat) : Nat → Nat → Nat → Nat → (Nat → Nat) → (Nat × Nat) ⊕ (Nat × (Nat → Nat))
  | 0, _, _, a, L => .inr (a, L)
  | j + 1, v, x, a, L => match lnP f Z 12000 x a with
    | .inl e => .inl e
    | .inr (y, b) => lrP f Z j (v + 1) y b (un L v y)
def uM (M : Nat → Nat → Nat) (t : Nat) (L : Nat → Nat) : Nat → Nat → Nat := fun s => if s = t then L else M s
def ltP (f : Nat → Int32) (Z al : Nat) : Nat → Nat → Nat → (Nat → Nat → Nat) → (Nat × Nat) ⊕ (Nat × (Nat → Nat → Nat))
  | 0, _, a, M => .inr (a, M)
  | j + 1, t, a, M => if a + 5 ≤ 8 * Z then (if 1 ≤ rdN f a 5 ∧ rdN f a 5 ≤ 20 then (match lrP f Z al 0 (rdN f a 5) (a + 5) (fun _ => 0) with
    | .inl e => .inl e
    | .inr (b, L) => ltP f Z al j (t + 1) b (uM M t L)) else .inl (7, a + 5)) else .inl (1, 8 * Z)
theorem lnP_le {f : Nat → Int32} {Z : Nat} : ∀ {m x a y b : Nat}, 1 ≤ x → x ≤ 20 → lnP f Z m x a = .inr (y, b) → 1 ≤ y ∧ y ≤ 20 ∧ a < b ∧ b ≤ 8 * Z
  | 0, x, a, y, b, _, _, h => by cases h
  | m + 1, x, a, y, b, h1, h2, h => by
    unfold lnP at h
    split at h
    · split at h
      · cases h; omega
      · split at h
        · split at h
          · split at h
            · have := lnP_le (by omega) (by omega) h; omega
            · cases h
          · split at h
            · have := lnP_le (by omega) (by omega) h; omega
            · cases h
        · cases h
    · cases h
def Ls (L : Nat → Nat) (n : Nat) : Prop := ∀ v, v < n → 1 ≤ L v ∧ L v ≤ 20
theorem lrP_le {f : Nat → Int32} {Z : Nat} : ∀ {j v x a b : Nat} {L L' : Nat → Nat}, 1 ≤ x → x ≤ 20 → a ≤ 8 * Z → Ls L v → lrP f Z j v x a L = .inr (b, L') → a + j ≤ b ∧ b ≤ 8 * Z ∧ Ls L' (v + j)
  | 0, v, x, a, b, L, L', _, _, ha, hL, h => by cases h; exact ⟨by omega, by omega, hL⟩
  | j + 1, v, x, a, b, L, L', h1, h2, ha, hL, h => by
    unfold lrP at h
    split at h
    · cases h
    · rename_i y c e
      have h3 := lnP_le h1 h2 e
      have h4 := lrP_le h3.1 h3.2.1 h3.2.2.2 (fun u hu => by
        by_cases e : u = v
        · rw [un.on _ e]; omega
        · rw [un.off _ e]; exact hL u (by omega)) h
      refine ⟨by omega, by omega, ?_⟩
      have := h4.2.2
      rw [show v + (j + 1) = v + 1 + j by omega]
      exact this
theorem ltP_le {f : Nat → Int32} {Z al : Nat} : ∀ {j t a b : Nat} {M M' : Nat → Nat → Nat}, a ≤ 8 * Z → (∀ s, s < t → Ls (M s) al) → ltP f Z al j t a M = .inr (b, M') → a ≤ b ∧ b ≤ 8 * Z ∧ ∀ s, s < t + j → Ls (M' s) al
  | 0, t, a, b, M, M', ha, hM, h => by cases h; exact ⟨by omega, by omega, hM⟩
  | j + 1, t, a, b, M, M', ha, hM, h => by
    unfold ltP at h
    split at h
    · split at h
      · rename_i h1 h2
        split at h
        · cases h
        · rename_i c L e
          have h3 := lrP_le (v := 0) h2.1 h2.2 h1 (fun v hv => absurd hv (by omega)) e
          have h4 := ltP_le h3.2.1 (fun s hs => by
            unfold uM
            by_cases e : s = t
            · rw [if_pos e]; have := h3.2.2; rw [Nat.zero_add] at this; exact this
            · rw [if_neg e]; exact hM s (by omega)) h
          refine ⟨by omega, by omega, fun s hs => h4.2.2 s (by omega)⟩
      · cases h
    · cases h
/-- codes -/
def cnT (L : Nat → Nat) (n : Nat) : Nat → Nat
  | 0 => 0
  | v + 1 => cnT L n v + if L v = n then 1 else 0
def fsT (L : Nat → Nat) (al : Nat) : Nat → Nat
  | 0 => 0
  | 1 => 0
  | n + 2 => 2 * (fsT L al (n + 1) + cnT L (n + 1) al)
def seT (L : Nat → Nat) (n : Nat) : Nat → Nat → Nat
  | 0, _ => 0
  | m + 1, i => if L m = n ∧ cnT L n m = i then m else seT L n m i
def rcP (f : Nat → Int32) (Z : Nat) (L : Nat → Nat) (al : Nat) : Nat → Nat → Nat → Nat → (Nat × Nat) ⊕ (Nat × Nat)
  | 0, _, _, a => .inl (8, a)
  | j + 1, n, v, a => if a < 8 * Z then (if fsT L al n ≤ 2 * v + bt f a ∧ 2 * v + bt f a < fsT L al n + cnT L n al then .inr (seT L n al (2 * v + bt f a - fsT L al n), a + 1) else rcP f Z L al j (n + 1) (2 * v + bt f a) (a + 1)) else .inl (1, 8 * Z)
theorem cnT_le (L : Nat → Nat) (n : Nat) : ∀ v, cnT L n v ≤ v
  | 0 => Nat.le_refl _
  | v + 1 => by
    have := cnT_le L n v
    show cnT L n v + (if L v = n then 1 else 0) ≤ v + 1
    split <;> omega
theorem cnT_mono (L : Nat → Nat) (n : Nat) : ∀ {u v : Nat}, u ≤ v → cnT L n u ≤ cnT L n v
  | u, 0, h => by
    obtain rfl : u = 0 := by omega
    exact Nat.le_refl _
  | u, v + 1, h => by
    by_cases e : u = v + 1
    · subst e; exact Nat.le_refl _
    · exact Nat.le_trans (cnT_mono L n (by omega : u ≤ v)) (Nat.le_add_right _ _)
theorem cnT_lt (L : Nat → Nat) (n : Nat) {u v : Nat} (h : u < v) (e : L u = n) : cnT L n u < cnT L n v := by
  have h1 : cnT L n (u + 1) = cnT L n u + 1 := by
    show cnT L n u + (if L u = n then 1 else 0) = _
    rw [if_pos e]
  have h2 := cnT_mono L n (show u + 1 ≤ v by omega)
  omega
theorem seT_eq {L : Nat → Nat} {n : Nat} : ∀ {m i v : Nat}, v < m → L v = n → cnT L n v = i → seT L n m i = v
  | 0, i, v, h, _, _ => absurd h (by omega)
  | m + 1, i, v, h, e, c => by
    unfold seT
    by_cases q : L m = n ∧ cnT L n m = i
    · rw [if_pos q]
      by_cases z : v = m
      · exact z.symm
      · have := cnT_lt L n (show v < m by omega) e
        omega
    · rw [if_neg q]
      exact seT_eq (by
        by_cases z : v = m
        · subst z; exact absurd ⟨e, c⟩ q
        · omega) e c
theorem seT_ok {L : Nat → Nat} {n : Nat} : ∀ {m i : Nat}, i < cnT L n m → seT L n m i < m ∧ L (seT L n m i) = n ∧ cnT L n (seT L n m i) = i
  | 0, i, h => absurd h (by unfold cnT; omega)
  | m + 1, i, h => by
    unfold seT
    by_cases q : L m = n ∧ cnT L n m = i
    · rw [if_pos q]
      exact ⟨by omega, q⟩
    · rw [if_neg q]
      have h9 : cnT L n (m + 1) = cnT L n m + if L m = n then 1 else 0 := rfl
      have h1 : i < cnT L n m := by
        rw [h9] at h
        split at h
        · rename_i e
          by_cases z : cnT L n m = i
          · exact absurd ⟨e, z⟩ q
          · omega
        · omega
      have := seT_ok h1
      exact ⟨by omega, this.2⟩
theorem rcP_le {f : Nat → Int32} {Z : Nat} {L : Nat → Nat} {al : Nat} : ∀ {j n v a q b : Nat}, rcP f Z L al j n v a = .inr (q, b) → q < al ∧ a < b ∧ b ≤ 8 * Z
  | 0, n, v, a, q, b, h => by cases h
  | j + 1, n, v, a, q, b, h => by
    unfold rcP at h
    split at h
    · split at h
      · rename_i h1 h2
        cases h
        exact ⟨(seT_ok (by omega)).1, by omega, by omega⟩
      · have := rcP_le h; omega
    · cases h
/-- numbers -/
def by8 (s : Nat) : Int32 := vp_nar .byte (Int32.ofNat s)
def flB (B : Nat → Int32) (n m : Nat) (x : Int32) : Nat → Int32 := fun j => if n ≤ j ∧ j < n + m then x else B j
def nmP (f : Nat → Int32) (Z ch al room : Nat) (C : Nat → Nat) (M : Nat → Nat → Nat) : Nat → Nat → Nat → Nat → Nat → (Nat → Nat) → (Nat → Int32) → Nat → (Nat × Nat) ⊕ (Nat × Nat × Nat × (Nat → Int32))
  | 0, _, _, _, _, _, _, _ => .inl (0, 0)
  | j + 1, k, n, run, unit, F, B, a => if k / 50 < ch then (match rcP f Z (M (C (k / 50))) al 20 1 0 a with
    | .inl e => .inl e
    | .inr (v, b) => if v < 2 then (if n + (run + (v + 1) * unit) ≤ room then nmP f Z ch al room C M j (k + 1) n (run + (v + 1) * unit) (2 * unit) F B b else .inl (8, b))
      else if v = al - 1 then .inr (b, k + 1, n + run, flB B n run (by8 (F 0)))
      else if n + run < room then nmP f Z ch al room C M j (k + 1) (n + run + 1) 0 1 (mtf F (v - 1)) (flB (flB B n run (by8 (F 0))) (n + run) 1 (by8 (F (v - 1)))) b
      else .inl (8, b)) else .inl (8, a)
