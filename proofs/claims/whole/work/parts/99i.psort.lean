/-! SORTING, in numbers. -/
theorem pig : ∀ (n : Nat) (f : Nat → Nat), (∀ i, i < n → f i < n) → (∀ i j, i < n → j < n → f i = f j → i = j) → ∀ p, p < n → ∃ i, i < n ∧ f i = p
  | 0, _, _, _, p, h => absurd h (by omega)
  | n + 1, f, hf, hi, p, hp => by
    have h1 : ∀ i, i < n → (if f i = n then f n else f i) < n := fun i h => by
      split
      · rename_i e
        have := hf n (by omega)
        by_cases c : f n = n
        · have := hi i n (by omega) (by omega) (e.trans c.symm)
          omega
        · omega
      · have := hf i (by omega)
        omega
    have h2 : ∀ i j, i < n → j < n → (if f i = n then f n else f i) = (if f j = n then f n else f j) → i = j := fun i j a b e => by
      by_cases c : f i = n
      · by_cases d : f j = n
        · exact hi i j (by omega) (by omega) (c.trans d.symm)
        · rw [if_pos c, if_neg d] at e
          have := hi n j (by omega) (by omega) e
          omega
      · by_cases d : f j = n
        · rw [if_neg c, if_pos d] at e
          have := hi i n (by omega) (by omega) e
          omega
        · rw [if_neg c, if_neg d] at e
          exact hi i j (by omega) (by omega) e
    have ih := pig n (fun i => if f i = n then f n else f i) h1 h2
    by_cases c : f n = p
    · exact ⟨n, by omega, c⟩
    · by_cases d : p = n
      · have hn := hf n (by omega)
        obtain ⟨i, a, e⟩ := ih (f n) (by omega)
        have e : (if f i = n then f n else f i) = f n := e
        by_cases q : f i = n
        · exact ⟨i, by omega, by omega⟩
        · rw [if_neg q] at e
          have := hi i n (by omega) (by omega) e
          omega
      · obtain ⟨i, a, e⟩ := ih p (by omega)
        have e : (if f i = n then f n else f i) = p := e
        by_cases q : f i = n
        · rw [if_pos q] at e
          exact absurd e c
        · rw [if_neg q] at e
          exact ⟨i, by omega, e⟩
/-- s bytes from i on, going round, as one number -/
def tkN (b : Nat → Nat) (n : Nat) : Nat → Nat → Nat
  | 0, _ => 0
  | s + 1, i => tkN b n s i * 256 + b ((i + s) % n)
theorem tk_lt {b : Nat → Nat} (hb : ∀ j, b j < 256) (n : Nat) : ∀ s i, tkN b n s i < 256 ^ s
  | 0, _ => by show 0 < 1; omega
  | s + 1, i => by
    have h1 := tk_lt hb n s i
    have h2 := hb ((i + s) % n)
    show tkN b n s i * 256 + b ((i + s) % n) < 256 ^ (s + 1)
    rw [Nat.pow_succ]
    omega
theorem tk_add (b : Nat → Nat) (n s : Nat) : ∀ t i, tkN b n (s + t) i = tkN b n s i * 256 ^ t + tkN b n t (i + s)
  | 0, i => by show tkN b n s i = tkN b n s i * 1 + 0; omega
  | t + 1, i => by
    show tkN b n (s + t) i * 256 + b ((i + (s + t)) % n) = tkN b n s i * 256 ^ (t + 1) + (tkN b n t (i + s) * 256 + b ((i + s + t) % n))
    rw [tk_add b n s t i, Nat.pow_succ, Nat.add_mul, Nat.mul_assoc, Nat.add_assoc i s t]
    omega
theorem tk_mod (b : Nat → Nat) (n : Nat) : ∀ s i, tkN b n s (i % n) = tkN b n s i
  | 0, _ => rfl
  | s + 1, i => by
    show tkN b n s (i % n) * 256 + b ((i % n + s) % n) = tkN b n s i * 256 + b ((i + s) % n)
    rw [tk_mod b n s i, Nat.mod_add_mod]
theorem lex_N {x y u v M : Nat} (hu : u < M) (hv : v < M) : x * M + u < y * M + v ↔ x < y ∨ (x = y ∧ u < v) := by
  constructor
  · intro h
    by_cases c : x < y
    · exact Or.inl c
    · by_cases d : x = y
      · subst d; exact Or.inr ⟨rfl, by omega⟩
      · have h1 : (y + 1) * M ≤ x * M := Nat.mul_le_mul_right _ (by omega)
        rw [Nat.add_mul] at h1
        omega
  · intro h
    rcases h with h | ⟨h, h2⟩
    · have h1 : (x + 1) * M ≤ y * M := Nat.mul_le_mul_right _ (by omega)
      rw [Nat.add_mul] at h1
      omega
    · subst h; omega
theorem tk_cmp {b : Nat → Nat} (hb : ∀ j, b j < 256) (n s t i j : Nat) : tkN b n (s + t) i < tkN b n (s + t) j ↔ tkN b n s i < tkN b n s j ∨ (tkN b n s i = tkN b n s j ∧ tkN b n t (i + s) < tkN b n t (j + s)) := by
  rw [tk_add, tk_add]
  exact lex_N (tk_lt hb n t _) (tk_lt hb n t _)
theorem tk_dig {b : Nat → Nat} (hb : ∀ j, b j < 256) {n i j : Nat} : ∀ {s : Nat}, tkN b n s i = tkN b n s j → ∀ k, k < s → b ((i + k) % n) = b ((j + k) % n)
  | 0, _, k, h => absurd h (by omega)
  | s + 1, e, k, h => by
    have e : tkN b n s i * 256 + b ((i + s) % n) = tkN b n s j * 256 + b ((j + s) % n) := e
    have h1 := hb ((i + s) % n)
    have h2 := hb ((j + s) % n)
    by_cases c : k = s
    · subst c; omega
    · exact tk_dig hb (s := s) (by omega) k (by omega)
theorem tk_of {b : Nat → Nat} {n i j : Nat} (h : ∀ k, b ((i + k) % n) = b ((j + k) % n)) : ∀ s, tkN b n s i = tkN b n s j
  | 0 => rfl
  | s + 1 => by
    show tkN b n s i * 256 + b ((i + s) % n) = tkN b n s j * 256 + b ((j + s) % n)
    rw [tk_of h s, h s]
theorem tk_per {b : Nat → Nat} (hb : ∀ j, b j < 256) {n i j : Nat} (hn : 0 < n) (e : tkN b n n i = tkN b n n j) (s : Nat) : tkN b n s i = tkN b n s j :=
  tk_of (fun k => by
    have h := tk_dig hb e (k % n) (Nat.mod_lt _ hn)
    rw [Nat.add_mod_mod, Nat.add_mod_mod] at h
    exact h) s
theorem tk_ge {b : Nat → Nat} (hb : ∀ j, b j < 256) {n s : Nat} (hn : 0 < n) (hs : n ≤ s) (i j : Nat) : tkN b n s i < tkN b n s j ↔ tkN b n n i < tkN b n n j := by
  obtain ⟨t, rfl⟩ : ∃ t, s = n + t := ⟨s - n, by omega⟩
  rw [tk_cmp hb]
  constructor
  · intro h
    rcases h with h | ⟨h1, h2⟩
    · exact h
    · exfalso
      rw [← tk_mod b n t (i + n), ← tk_mod b n t (j + n), Nat.add_mod_right, Nat.add_mod_right, tk_mod, tk_mod, tk_per hb hn h1 t] at h2
      omega
  · exact fun h => Or.inl h
/-- one turn stands ahead of another -/
def ltT (b : Nat → Nat) (n i j : Nat) : Prop := tkN b n n i < tkN b n n j ∨ (tkN b n n i = tkN b n n j ∧ i < j)
theorem ltT.asy {b : Nat → Nat} {n i j : Nat} (h : ltT b n i j) (h' : ltT b n j i) : False := by unfold ltT at *; omega
theorem ltT.tr {b : Nat → Nat} {n i j k : Nat} (h : ltT b n i j) (h' : ltT b n j k) : ltT b n i k := by unfold ltT at *; omega
theorem ltT.tot {b : Nat → Nat} {n i j : Nat} (h : ¬ ltT b n i j) (h' : i ≠ j) : ltT b n j i := by unfold ltT at *; omega
/-- an order of all turns -/
def SRT (b : Nat → Nat) (n : Nat) (O : Nat → Nat) : Prop := (∀ p, p < n → O p < n) ∧ ∀ p q, p < q → q < n → ltT b n (O p) (O q)
theorem SRT.inj {b : Nat → Nat} {n : Nat} {O : Nat → Nat} (h : SRT b n O) (p q : Nat) (hp : p < n) (hq : q < n) (e : O p = O q) : p = q := by
  by_cases c : p < q
  · have := h.2 p q c hq
    rw [e] at this
    exact (this.asy this).elim
  · by_cases d : q < p
    · have := h.2 q p d hp
      rw [e] at this
      exact (this.asy this).elim
    · omega
theorem SRT.sur {b : Nat → Nat} {n : Nat} {O : Nat → Nat} (h : SRT b n O) {i : Nat} (hi : i < n) : ∃ p, p < n ∧ O p = i := pig n O h.1 h.inj i hi
theorem SRT.un {b : Nat → Nat} {n : Nat} {O O' : Nat → Nat} (h : SRT b n O) (h' : SRT b n O') : ∀ m p, p ≤ m → p < n → O p = O' p
  | 0, p, hm, hp => by
    obtain rfl : p = 0 := by omega
    obtain ⟨r, r1, r2⟩ := h'.sur (h.1 0 hp)
    obtain ⟨s, s1, s2⟩ := h.sur (h'.1 0 hp)
    by_cases c : r = 0
    · subst c; exact r2.symm
    · by_cases d : s = 0
      · subst d; exact s2
      · have a1 := h'.2 0 r (by omega) r1
        have a2 := h.2 0 s (by omega) s1
        rw [r2] at a1
        rw [s2] at a2
        exact (a1.asy a2).elim
  | m + 1, p, hm, hp => by
    by_cases z : p ≤ m
    · exact SRT.un h h' m p z hp
    · obtain rfl : p = m + 1 := by omega
      obtain ⟨r, r1, r2⟩ := h'.sur (h.1 _ hp)
      obtain ⟨s, s1, s2⟩ := h.sur (h'.1 _ hp)
      have hr : m + 1 ≤ r := by
        by_cases c : r ≤ m
        · have e := SRT.un h h' m r c r1
          have := h.inj r (m + 1) r1 hp (e.trans r2)
          omega
        · omega
      have hs : m + 1 ≤ s := by
        by_cases c : s ≤ m
        · have e := SRT.un h h' m s c s1
          have := h'.inj s (m + 1) s1 hp (e.symm.trans s2)
          omega
        · omega
      by_cases c : r = m + 1
      · subst c; exact r2.symm
      · by_cases d : s = m + 1
        · subst d; exact s2
        · have a1 := h'.2 _ r (show m + 1 < r by omega) r1
          have a2 := h.2 _ s (show m + 1 < s by omega) s1
          rw [r2] at a1
          rw [s2] at a2
          exact (a1.asy a2).elim
theorem tk_congr {b c : Nat → Nat} {n : Nat} (hn : 0 < n) (h : ∀ j, j < n → b j = c j) : ∀ s i, tkN b n s i = tkN c n s i
  | 0, _ => rfl
  | s + 1, i => by
    show tkN b n s i * 256 + b ((i + s) % n) = tkN c n s i * 256 + c ((i + s) % n)
    rw [tk_congr hn h s i, h _ (Nat.mod_lt _ hn)]
theorem SRT.congr {b c : Nat → Nat} {n : Nat} {O : Nat → Nat} (hn : 0 < n) (h : ∀ j, j < n → b j = c j) (hS : SRT b n O) : SRT c n O := by
  refine ⟨hS.1, fun p q h1 h2 => ?_⟩
  have := hS.2 p q h1 h2
  unfold ltT at *
  rw [← tk_congr hn h, ← tk_congr hn h]
  exact this
/-- counting -/
def eqK (K : Nat → Nat) (b : Nat) : Nat → Nat
  | 0 => 0
  | n + 1 => eqK K b n + if K n = b then 1 else 0
def ltK (K : Nat → Nat) (b : Nat) : Nat → Nat
  | 0 => 0
  | n + 1 => ltK K b n + if K n < b then 1 else 0
theorem ltK_s (K : Nat → Nat) (b : Nat) : ∀ n, ltK K (b + 1) n = ltK K b n + eqK K b n
  | 0 => rfl
  | n + 1 => by
    show ltK K (b + 1) n + _ = ltK K b n + _ + (eqK K b n + _)
    rw [ltK_s K b n]
    by_cases h1 : K n < b
    · rw [if_pos (by omega), if_pos h1, if_neg (by omega)]
      omega
    · by_cases h2 : K n = b
      · rw [if_pos (by omega), if_neg h1, if_pos h2]
        omega
      · rw [if_neg (by omega), if_neg h1, if_neg h2]
        omega
theorem ltK_0 (K : Nat → Nat) : ∀ n, ltK K 0 n = 0
  | 0 => rfl
  | n + 1 => by
    show ltK K 0 n + _ = 0
    rw [ltK_0 K n, if_neg (by omega)]
theorem ltK_le (K : Nat → Nat) (b : Nat) : ∀ n, ltK K b n ≤ n
  | 0 => Nat.le_refl _
  | n + 1 => by
    have := ltK_le K b n
    show ltK K b n + (if K n < b then 1 else 0) ≤ n + 1
    split <;> omega
theorem eqK_le (K : Nat → Nat) (b : Nat) : ∀ n, eqK K b n ≤ n
  | 0 => Nat.le_refl _
  | n + 1 => by
    have := eqK_le K b n
    show eqK K b n + (if K n = b then 1 else 0) ≤ n + 1
    split <;> omega
theorem eqK_m (K : Nat → Nat) (b : Nat) : ∀ {m n : Nat}, m ≤ n → eqK K b m ≤ eqK K b n
  | m, 0, h => by obtain rfl : m = 0 := by omega
                  exact Nat.le_refl _
  | m, n + 1, h => by
    by_cases e : m = n + 1
    · subst e; exact Nat.le_refl _
    · exact Nat.le_trans (eqK_m K b (by omega : m ≤ n)) (Nat.le_add_right _ _)
theorem ltK_m (K : Nat → Nat) {b c : Nat} (h : b ≤ c) : ∀ n, ltK K b n ≤ ltK K c n
  | 0 => Nat.le_refl _
  | n + 1 => by
    have := ltK_m K h n
    show ltK K b n + (if K n < b then 1 else 0) ≤ ltK K c n + (if K n < c then 1 else 0)
    by_cases q : K n < b
    · rw [if_pos q, if_pos (by omega)]; omega
    · rw [if_neg q]; split <;> omega
theorem eqK_lt (K : Nat → Nat) {i n : Nat} (h : i < n) : eqK K (K i) i < eqK K (K i) n := by
  have h1 : eqK K (K i) (i + 1) = eqK K (K i) i + 1 := by
    show eqK K (K i) i + (if K i = K i then 1 else 0) = _
    rw [if_pos rfl]
  have := eqK_m K (K i) (show i + 1 ≤ n by omega)
  omega
def psK (K : Nat → Nat) (n i : Nat) : Nat := ltK K (K i) n + eqK K (K i) i
theorem psK_n (K : Nat → Nat) {n i : Nat} (h : i < n) : psK K n i < n := by
  unfold psK
  have h1 := eqK_lt K h
  have h2 := ltK_s K (K i) n
  have h3 := ltK_le K (K i + 1) n
  omega
theorem psK_m (K : Nat → Nat) {n i j : Nat} (hi : i < n) (hj : j < n) (h : K i < K j ∨ (K i = K j ∧ i < j)) : psK K n i < psK K n j := by
  unfold psK
  rcases h with h | ⟨h, h2⟩
  · have h1 := eqK_lt K hi
    have h2 := ltK_s K (K i) n
    have h3 := ltK_m K (show K i + 1 ≤ K j by omega) n
    omega
  · have h1 := eqK_lt K h2
    rw [← h]
    omega
theorem psK_inj (K : Nat → Nat) {n i j : Nat} (hi : i < n) (hj : j < n) (e : psK K n i = psK K n j) : i = j := by
  by_cases c : K i < K j ∨ (K i = K j ∧ i < j)
  · have := psK_m K hi hj c; omega
  · by_cases d : K j < K i ∨ (K j = K i ∧ j < i)
    · have := psK_m K hj hi d; omega
    · omega
theorem psK_sur (K : Nat → Nat) {n p : Nat} (h : p < n) : ∃ i, i < n ∧ psK K n i = p := pig n (psK K n) (fun i hi => psK_n K hi) (fun i j hi hj e => psK_inj K hi hj e) p h
theorem psK_o (K : Nat → Nat) {n i j : Nat} (hi : i < n) (hj : j < n) (h : psK K n i < psK K n j) : K i < K j ∨ (K i = K j ∧ i < j) := by
  by_cases c : K i < K j ∨ (K i = K j ∧ i < j)
  · exact c
  · by_cases d : K j < K i ∨ (K j = K i ∧ j < i)
    · have := psK_m K hj hi d; omega
    · obtain rfl : i = j := by omega
      omega
/-- the order that counting makes of a row W by the keys r -/
def CSo (W r O : Nat → Nat) (n : Nat) : Prop := ∀ i, i < n → O (psK (fun k => r (W k)) n i) = W i
theorem CSo.ex {W r O : Nat → Nat} {n p : Nat} (h : CSo W r O n) (hp : p < n) : ∃ i, i < n ∧ psK (fun k => r (W k)) n i = p ∧ O p = W i := by
  obtain ⟨i, h1, h2⟩ := psK_sur (fun k => r (W k)) hp
  exact ⟨i, h1, h2, by rw [← h2]; exact h i h1⟩
theorem CSo.o {W r O : Nat → Nat} {n p q : Nat} (h : CSo W r O n) (hp : p < q) (hq : q < n) : ∃ i j, i < n ∧ j < n ∧ O p = W i ∧ O q = W j ∧ (r (O p) < r (O q) ∨ (r (O p) = r (O q) ∧ i < j)) := by
  obtain ⟨i, h1, h2, h3⟩ := h.ex (show p < n by omega)
  obtain ⟨j, k1, k2, k3⟩ := h.ex hq
  refine ⟨i, j, h1, k1, h3, k3, ?_⟩
  rw [h3, k3]
  exact psK_o (fun k => r (W k)) h1 k1 (by omega)
/-- ranks by the first s bytes -/
def RK (b : Nat → Nat) (n : Nat) (r : Nat → Nat) (s : Nat) : Prop := (∀ i, i < n → r i < 1800) ∧ ∀ i j, i < n → j < n → (r i < r j ↔ tkN b n s i < tkN b n s j)
theorem RK.eq {b : Nat → Nat} {n : Nat} {r : Nat → Nat} {s i j : Nat} (h : RK b n r s) (hi : i < n) (hj : j < n) : r i = r j ↔ tkN b n s i = tkN b n s j := by
  have h1 := h.2 i j hi hj
  have h2 := h.2 j i hj hi
  omega
def OD (n : Nat) (O r : Nat → Nat) : Prop := (∀ p, p < n → O p < n) ∧ (∀ p q, p < n → q < n → O p = O q → p = q) ∧ ∀ p q, p < q → q < n → r (O p) ≤ r (O q)
theorem CSo.OD {W r O : Nat → Nat} {n : Nat} (h : CSo W r O n) (hW : ∀ i, i < n → W i < n) (hi : ∀ i j, i < n → j < n → W i = W j → i = j) : OD n O r := by
  refine ⟨fun p hp => ?_, fun p q hp hq e => ?_, fun p q h1 h2 => ?_⟩
  · obtain ⟨i, h1, _, h3⟩ := h.ex hp
    rw [h3]; exact hW i h1
  · obtain ⟨i, h1, h2, h3⟩ := h.ex hp
    obtain ⟨j, k1, k2, k3⟩ := h.ex hq
    have := hi i j h1 k1 (h3.symm.trans (e.trans k3))
    rw [← h2, ← k2, this]
  · obtain ⟨i, j, _, _, _, _, h9⟩ := h.o h1 h2
    omega
/-- the row that waits: each turn of the order, begun so many bytes before -/
def wtR (O : Nat → Nat) (n s : Nat) : Nat → Nat := fun i => (O i + n - s) % n
theorem wt_lt {O : Nat → Nat} {n s i : Nat} (hn : 0 < n) : wtR O n s i < n := Nat.mod_lt _ hn
theorem wt_back {O : Nat → Nat} {n s i : Nat} (hO : O i < n) (hs : s ≤ n) : (wtR O n s i + s) % n = O i := by
  unfold wtR
  rw [Nat.mod_add_mod, show O i + n - s + s = O i + n by omega, Nat.add_mod_right, Nat.mod_eq_of_lt hO]
theorem wt_inj {O r : Nat → Nat} {n s : Nat} (h : OD n O r) (hs : s ≤ n) (i j : Nat) (hi : i < n) (hj : j < n) (e : wtR O n s i = wtR O n s j) : i = j := by
  have h1 := wt_back (O := O) (s := s) (h.1 i hi) hs
  have h2 := wt_back (O := O) (s := s) (h.1 j hj) hs
  rw [e] at h1
  exact h.2.1 i j hi hj (h1.symm.trans h2)
theorem dbl {b : Nat → Nat} (hb : ∀ j, b j < 256) {n s : Nat} {r O O' : Nat → Nat} (hn : 0 < n) (hr : RK b n r s) (hO : OD n O r) (hs : s ≤ n) (h : CSo (wtR O n s) r O' n) {p q : Nat} (hp : p < q) (hq : q < n) : tkN b n (s + s) (O' p) ≤ tkN b n (s + s) (O' q) := by
  obtain ⟨i, j, h1, h2, h3, h4, h5⟩ := h.o hp hq
  have a1 : O' p < n := by rw [h3]; exact wt_lt hn
  have a2 : O' q < n := by rw [h4]; exact wt_lt hn
  have c := (tk_cmp hb n s s (O' q) (O' p))
  by_cases z : tkN b n (s + s) (O' q) < tkN b n (s + s) (O' p)
  · exfalso
    rcases c.mp z with c1 | ⟨c1, c2⟩
    · have := (hr.2 _ _ a2 a1).mpr c1
      omega
    · have e := (hr.eq a2 a1).mpr c1
      rcases h5 with h5 | ⟨_, h5⟩
      · omega
      · have u1 := wt_back (O := O) (s := s) (hO.1 i h1) hs
        have u2 := wt_back (O := O) (s := s) (hO.1 j h2) hs
        rw [← h3] at u1
        rw [← h4] at u2
        rw [← tk_mod b n s (O' q + s), ← tk_mod b n s (O' p + s), u1, u2] at c2
        have := (hr.2 _ _ (hO.1 j h2) (hO.1 i h1)).mpr c2
        have := hO.2.2 i j h5 h2
        omega
  · omega
/-- ranks anew -/
def dfT (r : Nat → Nat) (n s a c : Nat) : Nat := if r a = r c ∧ r ((a + s) % n) = r ((c + s) % n) then 0 else 1
theorem dfT_le (r : Nat → Nat) (n s a c : Nat) : dfT r n s a c ≤ 1 := by
  unfold dfT
  split <;> omega
def frR (r : Nat → Nat) (n s : Nat) (O : Nat → Nat) : Nat → Nat
  | 0 => 0
  | p + 1 => frR r n s O p + dfT r n s (O p) (O (p + 1))
theorem frR_le (r : Nat → Nat) (n s : Nat) (O : Nat → Nat) : ∀ p, frR r n s O p ≤ p
  | 0 => Nat.le_refl _
  | p + 1 => by
    have h1 := frR_le r n s O p
    have h2 := dfT_le r n s (O p) (O (p + 1))
    show frR r n s O p + dfT r n s (O p) (O (p + 1)) ≤ p + 1
    omega
theorem frR_c {r O k : Nat → Nat} {n s : Nat} (hk : ∀ p q, p < q → q < n → k (O p) ≤ k (O q)) (hd : ∀ p, p + 1 < n → (dfT r n s (O p) (O (p + 1)) = 0 ↔ k (O p) = k (O (p + 1)))) {p : Nat} : ∀ m, p + m < n → frR r n s O p ≤ frR r n s O (p + m) ∧ (frR r n s O p < frR r n s O (p + m) ↔ k (O p) < k (O (p + m)))
  | 0, _ => ⟨Nat.le_refl _, by show _ < frR r n s O p ↔ _ < k (O p); omega⟩
  | m + 1, h => by
    have ih := frR_c hk hd (p := p) m (by omega)
    have h1 := hk (p + m) (p + m + 1) (by omega) h
    have h2 := hd (p + m) h
    have h3 := dfT_le r n s (O (p + m)) (O (p + m + 1))
    have e : frR r n s O (p + (m + 1)) = frR r n s O (p + m) + dfT r n s (O (p + m)) (O (p + m + 1)) := rfl
    rw [e, show p + (m + 1) = p + m + 1 from rfl]
    have h0 : k (O p) ≤ k (O (p + m)) := by
      by_cases z : m = 0
      · subst z; exact Nat.le_refl _
      · exact hk p (p + m) (by omega) (by omega)
    omega
theorem dfT_k {b : Nat → Nat} (hb : ∀ j, b j < 256) {n s : Nat} {r : Nat → Nat} (hn : 0 < n) (hr : RK b n r s) {a c : Nat} (ha : a < n) (hc : c < n) : dfT r n s a c = 0 ↔ tkN b n (s + s) a = tkN b n (s + s) c := by
  have e1 := hr.eq ha hc
  have e2 := hr.eq (Nat.mod_lt (a + s) hn) (Nat.mod_lt (c + s) hn)
  rw [tk_mod, tk_mod] at e2
  have c1 := tk_cmp hb n s s a c
  have c2 := tk_cmp hb n s s c a
  unfold dfT
  by_cases q : r a = r c ∧ r ((a + s) % n) = r ((c + s) % n)
  · rw [if_pos q]
    have := e1.mp q.1
    have := e2.mp q.2
    omega
  · rw [if_neg q]
    have : ¬ (tkN b n s a = tkN b n s c ∧ tkN b n s (a + s) = tkN b n s (c + s)) := fun h => q ⟨e1.mpr h.1, e2.mpr h.2⟩
    omega
/-- the doubling: ranks by s bytes make ranks by s + s -/
theorem rk_dbl {b : Nat → Nat} (hb : ∀ j, b j < 256) {n s : Nat} {r O O' r' : Nat → Nat} (hn : 0 < n) (hm : n ≤ 1800) (hr : RK b n r s) (hO : OD n O r) (hs : s ≤ n) (h : CSo (wtR O n s) r O' n) (hr' : ∀ p, p < n → r' (O' p) = frR r n s O' p) : RK b n r' (s + s) ∧ OD n O' r' := by
  have hO' : OD n O' r := h.OD (fun i _ => wt_lt hn) (wt_inj hO hs)
  have hk : ∀ p q, p < q → q < n → tkN b n (s + s) (O' p) ≤ tkN b n (s + s) (O' q) := fun p q h1 h2 => dbl hb hn hr hO hs h h1 h2
  have hd : ∀ p, p + 1 < n → (dfT r n s (O' p) (O' (p + 1)) = 0 ↔ tkN b n (s + s) (O' p) = tkN b n (s + s) (O' (p + 1))) := fun p hp => dfT_k hb hn hr (hO'.1 p (by omega)) (hO'.1 _ hp)
  have su : ∀ i, i < n → ∃ p, p < n ∧ O' p = i := fun i hi => pig n O' hO'.1 hO'.2.1 i hi
  refine ⟨⟨fun i hi => ?_, fun i j hi hj => ?_⟩, hO'.1, hO'.2.1, fun p q h1 h2 => ?_⟩
  · obtain ⟨p, p1, p2⟩ := su i hi
    rw [← p2, hr' p p1]
    have := frR_le r n s O' p
    omega
  · obtain ⟨p, p1, p2⟩ := su i hi
    obtain ⟨q, q1, q2⟩ := su j hj
    rw [← p2, ← q2, hr' p p1, hr' q q1]
    by_cases c : p ≤ q
    · obtain ⟨m, rfl⟩ : ∃ m, q = p + m := ⟨q - p, by omega⟩
      exact (frR_c hk hd m q1).2
    · obtain ⟨m, rfl⟩ : ∃ m, p = q + m := ⟨p - q, by omega⟩
      have h1 := (frR_c hk hd (p := q) m p1)
      have h2 := hk q (q + m) (by omega) p1
      omega
  · rw [hr' p (by omega), hr' q h2]
    obtain ⟨m, rfl⟩ : ∃ m, q = p + m := ⟨q - p, by omega⟩
    exact (frR_c hk hd m h2).1
/-- the first ranks: the bytes -/
theorem rk_one {b : Nat → Nat} (hb : ∀ j, b j < 256) {n : Nat} : RK b n b 1 := by
  refine ⟨fun i _ => by have := hb i; omega, fun i j hi hj => ?_⟩
  show _ ↔ 0 * 256 + b ((i + 0) % n) < 0 * 256 + b ((j + 0) % n)
  rw [Nat.add_zero, Nat.add_zero, Nat.mod_eq_of_lt hi, Nat.mod_eq_of_lt hj]
  omega
/-- the end of the doubling: like turns by their places -/
theorem rk_end {b : Nat → Nat} (hb : ∀ j, b j < 256) {n s : Nat} {r O : Nat → Nat} (hn : 0 < n) (hs : n ≤ s) (hr : RK b n r s) (h : CSo (fun i => i) r O n) : SRT b n O := by
  have hO : OD n O r := h.OD (fun i hi => hi) (fun i j _ _ e => e)
  refine ⟨hO.1, fun p q h1 h2 => ?_⟩
  obtain ⟨i, j, i1, j1, e1, e2, h9⟩ := h.o h1 h2
  have g1 := tk_ge hb hn hs (O p) (O q)
  have g3 := tk_ge hb hn hs (O q) (O p)
  have g2 := hr.2 _ _ (hO.1 p (by omega)) (hO.1 q h2)
  have g4 := hr.2 _ _ (hO.1 q h2) (hO.1 p (by omega))
  have e1 : O p = i := e1
  have e2 : O q = j := e2
  unfold ltT
  omega
/-- the one order of the turns -/
noncomputable def trO (b : Nat → Nat) (n : Nat) : Nat → Nat := Classical.epsilon (fun O => SRT b n O)
theorem trO_eq {b : Nat → Nat} {n : Nat} {O : Nat → Nat} (h : SRT b n O) {p : Nat} (hp : p < n) : O p = trO b n p := SRT.un h (Classical.epsilon_spec (p := fun O => SRT b n O) ⟨O, h⟩) p p (Nat.le_refl _) hp
theorem trO_S {b : Nat → Nat} {n : Nat} {O : Nat → Nat} (h : SRT b n O) : SRT b n (trO b n) := Classical.epsilon_spec (p := fun O => SRT b n O) ⟨O, h⟩
theorem trO_congr {b c : Nat → Nat} {n : Nat} (hn : 0 < n) (h : ∀ j, j < n → b j = c j) {O : Nat → Nat} (hO : SRT b n O) {p : Nat} (hp : p < n) : trO b n p = trO c n p := by
  rw [← trO_eq hO hp, ← trO_eq (hO.congr hn h) hp]
/-- the model's merging: rows of so many are in order -/
def CH (b : Nat → Nat) (n : Nat) (T : Nat → Nat) (z : Nat) : Prop := ∀ m p, m * z ≤ p → p < m * z + z → p < n → m * z ≤ T p ∧ T p < m * z + z ∧ T p < n ∧ ∀ q, p < q → q < m * z + z → q < n → ltT b n (T p) (T q)
theorem CH.one {b : Nat → Nat} {n : Nat} : CH b n (fun p => p) 1 := fun m p h1 h2 h3 => ⟨by omega, by omega, h3, fun q a1 a2 _ => by omega⟩
theorem CH.end {b : Nat → Nat} {n : Nat} {T : Nat → Nat} {z : Nat} (h : CH b n T z) (hz : n ≤ z) : SRT b n T := by
  refine ⟨fun p hp => (h 0 p (by omega) (by omega) hp).2.2.1, fun p q h1 h2 => (h 0 p (by omega) (by omega) (by omega)).2.2.2 q h1 (by omega) h2⟩
/-- in the midst of merging two rows: A from the first, D from the second have gone -/
def MG (b : Nat → Nat) (n : Nat) (T U : Nat → Nat) (F M E A D k : Nat) : Prop := F ≤ A ∧ A ≤ M ∧ M ≤ D ∧ D ≤ E ∧ A + D = M + k ∧ (∀ p, F ≤ p → p < k → F ≤ U p ∧ U p < E ∧ (A < M → ltT b n (U p) (T A)) ∧ (D < E → ltT b n (U p) (T D)) ∧ ∀ q, p < q → q < k → ltT b n (U p) (U q))
def HF (b : Nat → Nat) (n : Nat) (T : Nat → Nat) (F M : Nat) : Prop := ∀ p, F ≤ p → p < M → F ≤ T p ∧ T p < M ∧ ∀ q, p < q → q < M → ltT b n (T p) (T q)
theorem MG.one {b : Nat → Nat} {n : Nat} {T U : Nat → Nat} {F M E : Nat} (h : F ≤ M) (h' : M ≤ E) : MG b n T U F M E F M F := ⟨by omega, h, by omega, h', by omega, fun p h1 h2 => absurd h1 (by omega)⟩
theorem MG.first {b : Nat → Nat} {n : Nat} {T U : Nat → Nat} {F M E A D k : Nat} (h : MG b n T U F M E A D k) (h1 : HF b n T F M) (h2 : HF b n T M E) (hA : A < M) (hD : D < E → ¬ ltT b n (T D) (T A)) (U' : Nat → Nat) (hU : U' k = T A) (hU' : ∀ p, p ≠ k → U' p = U p) : MG b n T U' F M E (A + 1) D (k + 1) := by
  obtain ⟨a1, a2, a3, a4, a5, a6⟩ := h
  have z := h1 A a1 hA
  refine ⟨by omega, by omega, a3, a4, by omega, fun p p1 p2 => ?_⟩
  by_cases c : p = k
  · subst c
    rw [hU]
    refine ⟨z.1, by omega, fun q => z.2.2 _ (by omega) q, fun q => ltT.tot (hD q) (fun e => ?_), fun q q1 q2 => by omega⟩
    have := h2 D a3 q
    omega
  · have y := a6 p p1 (by omega)
    rw [hU' p c]
    refine ⟨y.1, y.2.1, fun q => (y.2.2.1 hA).tr (z.2.2 _ (by omega) q), y.2.2.2.1, fun q q1 q2 => ?_⟩
    by_cases d : q = k
    · rw [d, hU]; exact y.2.2.1 hA
    · rw [hU' q d]; exact y.2.2.2.2 q q1 (by omega)
theorem MG.second {b : Nat → Nat} {n : Nat} {T U : Nat → Nat} {F M E A D k : Nat} (h : MG b n T U F M E A D k) (h1 : HF b n T F M) (h2 : HF b n T M E) (hD : D < E) (hA : A < M → ltT b n (T D) (T A)) (U' : Nat → Nat) (hU : U' k = T D) (hU' : ∀ p, p ≠ k → U' p = U p) : MG b n T U' F M E A (D + 1) (k + 1) := by
  obtain ⟨a1, a2, a3, a4, a5, a6⟩ := h
  have z := h2 D a3 hD
  refine ⟨a1, a2, by omega, by omega, by omega, fun p p1 p2 => ?_⟩
  by_cases c : p = k
  · subst c
    rw [hU]
    exact ⟨by omega, z.2.1, hA, fun q => z.2.2 _ (by omega) q, fun q q1 q2 => by omega⟩
  · have y := a6 p p1 (by omega)
    rw [hU' p c]
    refine ⟨y.1, y.2.1, y.2.2.1, fun q => (y.2.2.2.1 hD).tr (z.2.2 _ (by omega) q), fun q q1 q2 => ?_⟩
    by_cases d : q = k
    · rw [d, hU]; exact y.2.2.2.1 hD
    · rw [hU' q d]; exact y.2.2.2.2 q q1 (by omega)
theorem MG.end {b : Nat → Nat} {n : Nat} {T U : Nat → Nat} {F M E A D : Nat} (h : MG b n T U F M E A D E) : HF b n U F E := fun p h1 h2 => ⟨(h.2.2.2.2.2 p h1 h2).1, (h.2.2.2.2.2 p h1 h2).2.1, (h.2.2.2.2.2 p h1 h2).2.2.2.2⟩
/-- rows of z as halves -/
theorem CH.hf {b : Nat → Nat} {n : Nat} {T : Nat → Nat} {z : Nat} (h : CH b n T z) (m : Nat) : HF b n T (m * z) (min (m * z + z) n) := fun p h1 h2 => by
  have := h m p h1 (by omega) (by omega)
  exact ⟨this.1, by omega, fun q q1 q2 => this.2.2.2 q q1 (by omega) (by omega)⟩
theorem CH.of {b : Nat → Nat} {n : Nat} {T : Nat → Nat} {z : Nat} (h : ∀ m, m * z < n → HF b n T (m * z) (min (m * z + z) n)) : CH b n T z := fun m p h1 h2 h3 => by
  have := h m (by omega) p h1 (by omega)
  exact ⟨this.1, by omega, by omega, fun q q1 q2 q3 => this.2.2 q q1 (by omega)⟩
/-- sums -/
def smN (g : Nat → Nat) : Nat → Nat
  | 0 => 0
  | n + 1 => smN g n + g n
theorem smN_c {g h : Nat → Nat} : ∀ {n : Nat}, (∀ i, i < n → g i = h i) → smN g n = smN h n
  | 0, _ => rfl
  | n + 1, e => by
    show smN g n + g n = smN h n + h n
    rw [smN_c (fun i hi => e i (by omega)), e n (by omega)]
theorem smN_x {g h : Nat → Nat} {i : Nat} (e : ∀ j, j ≠ i → h j = g j) : ∀ {n : Nat}, i < n → smN h n + g i = smN g n + h i
  | 0, hi => absurd hi (by omega)
  | n + 1, hi => by
    show smN h n + h n + g i = smN g n + g n + h i
    by_cases c : i = n
    · subst c
      rw [smN_c (g := h) (h := g) (fun j hj => e j (by omega))]
      omega
    · have := smN_x e (show i < n by omega)
      have := e n (fun h => c h.symm)
      omega
theorem smN_p (g : Nat → Nat) : ∀ (n : Nat) (W : Nat → Nat), (∀ i, i < n → W i < n) → (∀ i j, i < n → j < n → W i = W j → i = j) → smN (fun i => g (W i)) n = smN g n
  | 0, _, _, _ => rfl
  | n + 1, W, h1, h2 => by
    show smN (fun i => g (W i)) n + g (W n) = smN g n + g n
    by_cases c : W n = n
    · rw [smN_p g n W (fun i hi => by
        have := h1 i (by omega)
        by_cases d : W i = n
        · have := h2 i n (by omega) (by omega) (d.trans c.symm); omega
        · omega) (fun i j hi hj e => h2 i j (by omega) (by omega) e), c]
    · obtain ⟨k, k1, k2⟩ := pig (n + 1) W h1 h2 n (by omega)
      have k3 : k < n := by
        by_cases d : k = n
        · subst d; exact absurd k2 c
        · omega
      have ih := smN_p g n (fun i => if i = k then W n else W i) (fun i hi => by
        show (if i = k then W n else W i) < n
        split
        · have := h1 n (by omega); omega
        · rename_i d
          have := h1 i (by omega)
          by_cases e : W i = n
          · exact absurd (h2 i k (by omega) (by omega) (e.trans k2.symm)) d
          · omega) (fun i j hi hj e => by
        have e : (if i = k then W n else W i) = (if j = k then W n else W j) := e
        by_cases a : i = k
        · by_cases b : j = k
          · omega
          · rw [if_pos a, if_neg b] at e
            have := h2 n j (by omega) (by omega) e; omega
        · by_cases b : j = k
          · rw [if_neg a, if_pos b] at e
            have := h2 i n (by omega) (by omega) e; omega
          · rw [if_neg a, if_neg b] at e
            exact h2 i j (by omega) (by omega) e)
      have x := smN_x (g := fun i => g (W i)) (h := fun i => g (if i = k then W n else W i)) (i := k) (fun j hj => by
        show g (if j = k then W n else W j) = g (W j)
        rw [if_neg hj]) k3
      rw [if_pos rfl, k2] at x
      omega
theorem eqK_sm (K : Nat → Nat) (b : Nat) : ∀ n, eqK K b n = smN (fun i => if K i = b then 1 else 0) n
  | 0 => rfl
  | n + 1 => by
    show eqK K b n + _ = smN _ n + _
    rw [eqK_sm K b n]
theorem ltK_sm (K : Nat → Nat) (b : Nat) : ∀ n, ltK K b n = smN (fun i => if K i < b then 1 else 0) n
  | 0 => rfl
  | n + 1 => by
    show ltK K b n + _ = smN _ n + _
    rw [ltK_sm K b n]
def PRM (W : Nat → Nat) (n : Nat) : Prop := (∀ i, i < n → W i < n) ∧ ∀ i j, i < n → j < n → W i = W j → i = j
theorem eqK_p {W : Nat → Nat} {n : Nat} (h : PRM W n) (r : Nat → Nat) (b : Nat) : eqK (fun k => r (W k)) b n = eqK r b n := by
  rw [eqK_sm, eqK_sm]
  exact smN_p (fun i => if r i = b then 1 else 0) n W h.1 h.2
theorem ltK_p {W : Nat → Nat} {n : Nat} (h : PRM W n) (r : Nat → Nat) (b : Nat) : ltK (fun k => r (W k)) b n = ltK r b n := by
  rw [ltK_sm, ltK_sm]
  exact smN_p (fun i => if r i < b then 1 else 0) n W h.1 h.2
