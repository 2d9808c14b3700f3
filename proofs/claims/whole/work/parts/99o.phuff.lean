/-! TABLES: two joined into one, in numbers. -/
theorem smN_2 {g h : Nat → Nat} {a b n : Nat} (ha : a < n) (hb : b < n) (hab : a ≠ b) (h1 : h a = 0) (h2 : h b = 0) (e : ∀ k, k ≠ a → k ≠ b → h k = g k) : smN h n + g a + g b = smN g n := by
  have x1 := smN_x (g := g) (h := fun k => if k = a then 0 else g k) (i := a) (fun j hj => if_neg hj) ha
  have x2 := smN_x (g := fun k => if k = a then 0 else g k) (h := h) (i := b) (fun j hj => by
    by_cases c : j = a
    · rw [if_pos c, c]; exact h1
    · rw [if_neg c]; exact e j c hj) hb
  rw [if_pos rfl] at x1
  rw [if_neg (fun h => hab h.symm), h2] at x2
  omega
theorem smN_i {g : Nat → Nat} {i : Nat} : ∀ {n : Nat}, i < n → g i ≤ smN g n
  | 0, h => absurd h (by omega)
  | n + 1, h => by
    show g i ≤ smN g n + g n
    by_cases c : i = n
    · subst c; omega
    · have := smN_i (g := g) (show i < n by omega)
      omega
theorem smN_ij {g : Nat → Nat} {i j : Nat} (hij : i < j) : ∀ {n : Nat}, j < n → g i + g j ≤ smN g n
  | 0, h => absurd h (by omega)
  | n + 1, h => by
    show g i + g j ≤ smN g n + g n
    by_cases c : j = n
    · subst c
      have := smN_i (g := g) hij
      omega
    · have := smN_ij (g := g) hij (show j < n by omega)
      omega
theorem smN_0 {g : Nat → Nat} : ∀ {n : Nat}, (∀ i, i < n → g i = 0) → smN g n = 0
  | 0, _ => rfl
  | n + 1, h => by
    show smN g n + g n = 0
    rw [smN_0 (fun i hi => h i (by omega)), h n (by omega)]
/-- the least that is free, but for one -/
def LsN (wt pa : Nat → Nat) (bt n a : Nat) : Prop := a < n ∧ pa a = 0 ∧ a ≠ bt ∧ ∀ k, k < n → pa k = 0 → k ≠ bt → wt a < wt k ∨ (wt a = wt k ∧ a ≤ k)
def lsF (wt pa : Nat → Nat) (bt : Nat) : Nat → Option Nat
  | 0 => none
  | k + 1 => match lsF wt pa bt k with
    | none => if pa k = 0 ∧ k ≠ bt then some k else none
    | some a => if (pa k = 0 ∧ k ≠ bt) ∧ wt k < wt a then some k else some a
theorem lsF_ok (wt pa : Nat → Nat) (bt : Nat) : ∀ n, (lsF wt pa bt n = none → ∀ k, k < n → ¬ (pa k = 0 ∧ k ≠ bt)) ∧ ∀ a, lsF wt pa bt n = some a → LsN wt pa bt n a
  | 0 => ⟨fun _ k h => absurd h (by omega), fun a h => by cases h⟩
  | n + 1 => by
    have ih := lsF_ok wt pa bt n
    unfold lsF
    cases e : lsF wt pa bt n with
    | none =>
      have i1 := ih.1 e
      by_cases c : pa n = 0 ∧ n ≠ bt
      · simp only [if_pos c]
        refine ⟨fun h => (by cases h), fun a h => ?_⟩
        cases h
        refine ⟨by omega, c.1, c.2, fun k hk p1 p2 => ?_⟩
        by_cases d : k = n
        · subst d; omega
        · exact absurd ⟨p1, p2⟩ (i1 k (by omega))
      · simp only [if_neg c]
        refine ⟨fun _ k hk => ?_, fun a h => by cases h⟩
        by_cases d : k = n
        · subst d; exact c
        · exact i1 k (by omega)
    | some b =>
      have i2 := ih.2 b e
      obtain ⟨b1, b2, b3, b4⟩ := i2
      by_cases c : (pa n = 0 ∧ n ≠ bt) ∧ wt n < wt b
      · simp only [if_pos c]
        refine ⟨fun h => (by cases h), fun a h => ?_⟩
        cases h
        refine ⟨by omega, c.1.1, c.1.2, fun k hk p1 p2 => ?_⟩
        by_cases d : k = n
        · subst d; omega
        · have := b4 k (by omega) p1 p2
          omega
      · simp only [if_neg c]
        refine ⟨fun h => (by cases h), fun a h => ?_⟩
        cases h
        refine ⟨by omega, b2, b3, fun k hk p1 p2 => ?_⟩
        by_cases d : k = n
        · subst d
          have : ¬ wt k < wt b := fun h => c ⟨⟨p1, p2⟩, h⟩
          omega
        · exact b4 k (by omega) p1 p2
theorem LsN.un {wt pa : Nat → Nat} {bt n a c : Nat} (h : LsN wt pa bt n a) (h' : LsN wt pa bt n c) : a = c := by
  have h1 := h.2.2.2 c h'.1 h'.2.1 h'.2.2.1
  have h2 := h'.2.2.2 a h.1 h.2.1 h.2.2.1
  omega
theorem lsF_of {wt pa : Nat → Nat} {bt n a : Nat} (h : LsN wt pa bt n a) : lsF wt pa bt n = some a := by
  have o := lsF_ok wt pa bt n
  cases e : lsF wt pa bt n with
  | none => exact absurd ⟨h.2.1, h.2.2.1⟩ (o.1 e a h.1)
  | some c => rw [h.un (o.2 c e)]
theorem lsF_ex {wt pa : Nat → Nat} {bt n k : Nat} (hk : k < n) (h1 : pa k = 0) (h2 : k ≠ bt) : ∃ a, LsN wt pa bt n a := by
  have o := lsF_ok wt pa bt n
  cases e : lsF wt pa bt n with
  | none => exact absurd ⟨h1, h2⟩ (o.1 e k hk)
  | some c => exact ⟨c, o.2 c e⟩
def hfa (s : (Nat → Nat) × (Nat → Nat)) (n : Nat) : Nat := (lsF s.1 s.2 n n).getD 0
def hfb (s : (Nat → Nat) × (Nat → Nat)) (n : Nat) : Nat := (lsF s.1 s.2 (hfa s n) n).getD 0
def hfJ (s : (Nat → Nat) × (Nat → Nat)) (n : Nat) : (Nat → Nat) × (Nat → Nat) := (un s.1 n (s.1 (hfa s n) + s.1 (hfb s n)), un (un s.2 (hfa s n) n) (hfb s n) n)
def hfS (w0 : Nat → Nat) (al : Nat) : Nat → (Nat → Nat) × (Nat → Nat)
  | 0 => (w0, fun _ => 0)
  | m + 1 => hfJ (hfS w0 al m) (al + m)
def HI (al T : Nat) (s : (Nat → Nat) × (Nat → Nat)) (n : Nat) : Prop :=
  (∀ k, k < n → 1 ≤ s.1 k) ∧ (∀ k, n ≤ k → s.2 k = 0) ∧ (∀ k, k < n → s.2 k ≠ 0 → k < s.2 k ∧ al ≤ s.2 k ∧ s.2 k < n) ∧ smN (fun k => if s.2 k = 0 then 1 else 0) n + n = 2 * al ∧ smN (fun k => if s.2 k = 0 then s.1 k else 0) n = T ∧ (∀ x t, x < n → t < n → s.2 x ≠ 0 → s.2 t = 0 → s.1 x ≤ s.1 t) ∧ (∀ j, al ≤ j → j < n → ∃ a b, a < n ∧ b < n ∧ s.2 a = j ∧ s.2 b = j ∧ s.1 j = s.1 a + s.1 b) ∧ (∀ x, x < n → s.2 x ≠ 0 → s.2 (s.2 x) ≠ 0 → s.1 x + s.1 (s.2 x) ≤ s.1 (s.2 (s.2 x))) ∧ ∀ i j, al ≤ i → i < j → j < n → s.1 i ≤ s.1 j
theorem HI.one {w0 : Nat → Nat} {al : Nat} (h : ∀ k, k < al → 1 ≤ w0 k) : HI al (smN w0 al) (w0, fun _ => 0) al := by
  refine ⟨h, fun _ _ => rfl, fun k _ h => absurd rfl h, ?_, ?_, fun x t _ _ h => absurd rfl h, fun j h1 h2 => absurd h1 (by omega), fun x _ h => absurd rfl h, fun i j h1 h2 h3 => by omega⟩
  · have e : ∀ n, smN (fun k => if (fun _ => 0 : Nat → Nat) k = 0 then 1 else 0) n = n := fun n => by
      induction n with
      | zero => rfl
      | succ n ih =>
        show smN _ n + (if (0 : Nat) = 0 then 1 else 0) = n + 1
        rw [ih, if_pos rfl]
    show smN (fun k => if (fun _ => 0 : Nat → Nat) k = 0 then 1 else 0) al + al = 2 * al
    rw [e]
    omega
  · exact smN_c (fun i _ => if_pos rfl)
theorem HI.ex {al T : Nat} {s : (Nat → Nat) × (Nat → Nat)} {n : Nat} (h : HI al T s n) (hn : n + 2 ≤ 2 * al) : ∃ a b, LsN s.1 s.2 n n a ∧ LsN s.1 s.2 a n b ∧ hfa s n = a ∧ hfb s n = b := by
  obtain ⟨-, -, -, c, -⟩ := h
  have f1 : ∃ k, k < n ∧ s.2 k = 0 := Classical.byContradiction (fun z => by
    have := smN_0 (g := fun k => if s.2 k = 0 then 1 else 0) (n := n) (fun i hi => if_neg (fun e => z ⟨i, hi, e⟩))
    omega)
  obtain ⟨k, k1, k2⟩ := f1
  obtain ⟨a, ha⟩ := lsF_ex (wt := s.1) (bt := n) k1 k2 (by omega)
  have f2 : ∃ k, k < n ∧ s.2 k = 0 ∧ k ≠ a := Classical.byContradiction (fun z => by
    have x := smN_x (g := fun k => if s.2 k = 0 then 1 else 0) (h := fun _ => 0) (i := a) (n := n)
    have y : ∀ j, j < n → j ≠ a → (if s.2 j = 0 then 1 else 0) = 0 := fun j h1 h2 => if_neg (fun e => z ⟨j, h1, e, h2⟩)
    have q : ∀ m, m ≤ n → smN (fun k => if s.2 k = 0 then 1 else 0) m ≤ 1 ∧ (m ≤ a → smN (fun k => if s.2 k = 0 then 1 else 0) m = 0) := fun m => by
      induction m with
      | zero => exact fun _ => ⟨by show 0 ≤ 1; omega, fun _ => rfl⟩
      | succ m ih =>
        intro hm
        have ih := ih (by omega)
        show smN (fun k => if s.2 k = 0 then 1 else 0) m + (if s.2 m = 0 then 1 else 0) ≤ 1 ∧ (m + 1 ≤ a → smN (fun k => if s.2 k = 0 then 1 else 0) m + (if s.2 m = 0 then 1 else 0) = 0)
        by_cases e : m = a
        · have := ih.2 (by omega)
          refine ⟨?_, fun h => by omega⟩
          split <;> omega
        · rw [y m (by omega) e]
          exact ⟨by omega, fun h => by have := ih.2 (by omega); omega⟩
    have := (q n (Nat.le_refl _)).1
    omega)
  obtain ⟨j, j1, j2, j3⟩ := f2
  obtain ⟨b, hb⟩ := lsF_ex (wt := s.1) (bt := a) j1 j2 j3
  have ea : hfa s n = a := by
    unfold hfa
    rw [lsF_of ha]
    rfl
  refine ⟨a, b, ha, hb, ea, ?_⟩
  unfold hfb
  rw [ea, lsF_of hb]
  rfl
theorem HI.step {al T : Nat} {s : (Nat → Nat) × (Nat → Nat)} {n : Nat} (h : HI al T s n) (hn : n + 2 ≤ 2 * al) (hal : al ≤ n) (h0 : 0 < al) : HI al T (hfJ s n) (n + 1) := by
  obtain ⟨a, b, ⟨a1, a2, a3, a4⟩, ⟨b1, b2, b3, b4⟩, e1, e2⟩ := h.ex hn
  obtain ⟨h1, h2, h3, h4, h5, h6, h7, h8, h9⟩ := h
  unfold hfJ
  rw [e1, e2]
  have W1 : ∀ k, k ≠ n → un s.1 n (s.1 a + s.1 b) k = s.1 k := fun k hk => un.off _ hk
  have W2 : un s.1 n (s.1 a + s.1 b) n = s.1 a + s.1 b := un.on _ rfl
  have P1 : un (un s.2 a n) b n a = n := by rw [un.off _ (fun h => b3 h.symm), un.on _ rfl]
  have P2 : un (un s.2 a n) b n b = n := un.on _ rfl
  have P3 : ∀ k, k ≠ a → k ≠ b → un (un s.2 a n) b n k = s.2 k := fun k p q => by rw [un.off _ q, un.off _ p]
  have P4 : un (un s.2 a n) b n n = 0 := by rw [P3 n (by omega) (by omega)]; exact h2 n (Nat.le_refl _)
  have wa := h1 a a1
  have wb := h1 b b1
  -- one that isn't free now was not, or is a or b
  have NF : ∀ k, un (un s.2 a n) b n k ≠ 0 → k = a ∨ k = b ∨ (k ≠ a ∧ k ≠ b ∧ un (un s.2 a n) b n k = s.2 k ∧ s.2 k ≠ 0) := fun k hk => by
    by_cases c : k = a
    · exact Or.inl c
    · by_cases d : k = b
      · exact Or.inr (Or.inl d)
      · rw [P3 k c d] at hk ⊢
        exact Or.inr (Or.inr ⟨c, d, rfl, hk⟩)
  have FR : ∀ k, k < n → un (un s.2 a n) b n k = 0 → s.2 k = 0 ∧ k ≠ a ∧ k ≠ b := fun k hk e => by
    by_cases c : k = a
    · subst c; rw [P1] at e; omega
    · by_cases d : k = b
      · subst d; rw [P2] at e; omega
      · rw [P3 k c d] at e; exact ⟨e, c, d⟩
  refine ⟨fun k hk => ?_, fun k hk => ?_, fun k hk hp => ?_, ?_, ?_, fun x t hx ht p q => ?_, fun j j1 j2 => ?_, fun x hx p q => ?_, fun i j i1 i2 i3 => ?_⟩
  · show 1 ≤ un s.1 n (s.1 a + s.1 b) k
    by_cases c : k = n
    · rw [c, W2]; omega
    · rw [W1 k c]; exact h1 k (by omega)
  · show un (un s.2 a n) b n k = 0
    rw [P3 k (by omega) (by omega)]
    exact h2 k (by omega)
  · have hp : un (un s.2 a n) b n k ≠ 0 := hp
    show k < un (un s.2 a n) b n k ∧ al ≤ un (un s.2 a n) b n k ∧ un (un s.2 a n) b n k < n + 1
    rcases NF k hp with c | c | ⟨c, d, e, f⟩
    · subst c; rw [P1]; omega
    · subst c; rw [P2]; omega
    · rw [e]
      have kn : k < n := by
        by_cases z : k = n
        · subst z; exact absurd (h2 k (Nat.le_refl _)) f
        · omega
      have := h3 k kn f
      omega
  · have x := smN_2 (g := fun k => if s.2 k = 0 then 1 else 0) (h := fun k => if un (un s.2 a n) b n k = 0 then 1 else 0) a1 b1 (fun e => b3 e.symm) (by rw [P1, if_neg (by omega)]) (by rw [P2, if_neg (by omega)]) (fun k p q => by rw [P3 k p q])
    rw [a2, b2, if_pos rfl] at x
    show smN (fun k => if un (un s.2 a n) b n k = 0 then 1 else 0) n + (if un (un s.2 a n) b n n = 0 then 1 else 0) + (n + 1) = 2 * al
    rw [P4, if_pos rfl]
    omega
  · have x := smN_2 (g := fun k => if s.2 k = 0 then s.1 k else 0) (h := fun k => if un (un s.2 a n) b n k = 0 then s.1 k else 0) a1 b1 (fun e => b3 e.symm) (by rw [P1, if_neg (by omega)]) (by rw [P2, if_neg (by omega)]) (fun k p q => by rw [P3 k p q])
    rw [if_pos a2, if_pos b2] at x
    have y : smN (fun k => if un (un s.2 a n) b n k = 0 then un s.1 n (s.1 a + s.1 b) k else 0) n = smN (fun k => if un (un s.2 a n) b n k = 0 then s.1 k else 0) n := smN_c (fun i hi => by rw [W1 i (by omega)])
    show smN (fun k => if un (un s.2 a n) b n k = 0 then un s.1 n (s.1 a + s.1 b) k else 0) n + (if un (un s.2 a n) b n n = 0 then un s.1 n (s.1 a + s.1 b) n else 0) = T
    rw [y, P4, if_pos rfl, W2]
    omega
  · have p : un (un s.2 a n) b n x ≠ 0 := p
    have q : un (un s.2 a n) b n t = 0 := q
    show un s.1 n (s.1 a + s.1 b) x ≤ un s.1 n (s.1 a + s.1 b) t
    have xn : x ≠ n := fun e => by rw [e, P4] at p; exact p rfl
    rw [W1 x xn]
    by_cases tn : t = n
    · rw [tn, W2]
      rcases NF x p with c | c | ⟨_, _, _, f⟩
      · subst c; omega
      · subst c; omega
      · have := h6 x a (by omega) a1 f a2
        omega
    · rw [W1 t tn]
      have ft := FR t (by omega) q
      rcases NF x p with c | c | ⟨_, _, _, f⟩
      · subst c
        have := a4 t (by omega) ft.1 tn
        omega
      · subst c
        have := b4 t (by omega) ft.1 ft.2.1
        omega
      · exact h6 x t (by omega) (by omega) f ft.1
  · show ∃ a' b', a' < n + 1 ∧ b' < n + 1 ∧ un (un s.2 a n) b n a' = j ∧ un (un s.2 a n) b n b' = j ∧ un s.1 n (s.1 a + s.1 b) j = un s.1 n (s.1 a + s.1 b) a' + un s.1 n (s.1 a + s.1 b) b'
    by_cases c : j = n
    · refine ⟨a, b, by omega, by omega, by rw [P1, c], by rw [P2, c], ?_⟩
      rw [c, W2, W1 a (by omega), W1 b (by omega)]
    · obtain ⟨x, y, x1, y1, x2, y2, z⟩ := h7 j j1 (by omega)
      have hx : x ≠ a ∧ x ≠ b := ⟨fun e => by rw [e, a2] at x2; omega, fun e => by rw [e, b2] at x2; omega⟩
      have hy : y ≠ a ∧ y ≠ b := ⟨fun e => by rw [e, a2] at y2; omega, fun e => by rw [e, b2] at y2; omega⟩
      refine ⟨x, y, by omega, by omega, by rw [P3 x hx.1 hx.2]; exact x2, by rw [P3 y hy.1 hy.2]; exact y2, ?_⟩
      rw [W1 j c, W1 x (by omega), W1 y (by omega)]
      exact z
  · have p : un (un s.2 a n) b n x ≠ 0 := p
    have q : un (un s.2 a n) b n (un (un s.2 a n) b n x) ≠ 0 := q
    show un s.1 n (s.1 a + s.1 b) x + un s.1 n (s.1 a + s.1 b) (un (un s.2 a n) b n x) ≤ un s.1 n (s.1 a + s.1 b) (un (un s.2 a n) b n (un (un s.2 a n) b n x))
    have xn : x ≠ n := fun e => by rw [e, P4] at p; exact p rfl
    rcases NF x p with c | c | ⟨_, _, e, f⟩
    · rw [c, P1, P4] at q; exact absurd rfl q
    · rw [c, P2, P4] at q; exact absurd rfl q
    · rw [e] at q ⊢
      have px := h3 x (by omega) f
      rw [W1 x xn, W1 (s.2 x) (by omega)]
      rcases NF (s.2 x) q with c | c | ⟨_, _, e2, f2⟩
      · rw [c, P1, W2]
        have := h6 x b (by omega) b1 f b2
        omega
      · rw [c, P2, W2]
        have := h6 x a (by omega) a1 f a2
        omega
      · rw [e2, W1 _ (by have := h3 (s.2 x) (by omega) f2; omega)]
        exact h8 x (by omega) f f2
  · show un s.1 n (s.1 a + s.1 b) i ≤ un s.1 n (s.1 a + s.1 b) j
    rw [W1 i (by omega)]
    by_cases c : j = n
    · rw [c, W2]
      obtain ⟨x, y, x1, y1, x2, y2, z⟩ := h7 i i1 (by omega)
      have f1 := h6 x a x1 a1 (by omega) a2
      have f2 := h6 y b y1 b1 (by omega) b2
      omega
    · rw [W1 j c]
      exact h9 i j i1 i2 (by omega)
theorem hfS_I {w0 : Nat → Nat} {al : Nat} (h : ∀ k, k < al → 1 ≤ w0 k) (h0 : 0 < al) : ∀ m, m + 1 ≤ al → HI al (smN w0 al) (hfS w0 al m) (al + m)
  | 0, _ => HI.one h
  | m + 1, hm => (hfS_I h h0 m (by omega)).step (by omega) (by omega) h0
/-- how far a node stands from the root -/
def dpF (pa : Nat → Nat) : Nat → Nat → Nat
  | 0, _ => 0
  | j + 1, k => if pa k = 0 then 0 else dpF pa j (pa k) + 1
def fbN : Nat → Nat
  | 0 => 1
  | 1 => 2
  | d + 2 => fbN (d + 1) + fbN d
def upN (pa : Nat → Nat) (x : Nat) : Nat → Nat
  | 0 => x
  | d + 1 => pa (upN pa x d)
theorem up_fb {al T : Nat} {s : (Nat → Nat) × (Nat → Nat)} {n : Nat} (h : HI al T s n) {x : Nat} (hx : x < n) : ∀ d, (∀ i, i < d → s.2 (upN s.2 x i) ≠ 0) → (upN s.2 x d < n ∧ fbN d ≤ s.1 (upN s.2 x d)) ∧ (1 ≤ d → fbN (d - 1) ≤ s.1 (upN s.2 x (d - 1)) ∧ upN s.2 x (d - 1) < n)
  | 0, _ => ⟨⟨hx, h.1 x hx⟩, fun h => by omega⟩
  | 1, hp => by
    have p := hp 0 (by omega)
    have p : s.2 x ≠ 0 := p
    have q := h.2.2.1 x hx p
    obtain ⟨a, b, a1, b1, _, _, e⟩ := h.2.2.2.2.2.2.1 (s.2 x) q.2.1 q.2.2
    have w1 := h.1 a a1
    have w2 := h.1 b b1
    refine ⟨⟨q.2.2, ?_⟩, fun _ => ⟨h.1 x hx, hx⟩⟩
    show 2 ≤ s.1 (s.2 x)
    omega
  | d + 2, hp => by
    have ih := up_fb h hx (d + 1) (fun i hi => hp i (by omega))
    obtain ⟨⟨i1, i2⟩, i3⟩ := ih
    have i3 := i3 (by omega)
    rw [show d + 1 - 1 = d from rfl] at i3
    have p := hp (d + 1) (by omega)
    have p0 := hp d (by omega)
    have q := h.2.2.1 _ i1 p
    have e := h.2.2.2.2.2.2.2.1 (upN s.2 x d) i3.2 p0 p
    refine ⟨⟨q.2.2, ?_⟩, fun _ => ⟨i2, i1⟩⟩
    have e : s.1 (upN s.2 x d) + s.1 (upN s.2 x (d + 1)) ≤ s.1 (upN s.2 x (d + 2)) := e
    show fbN (d + 1) + fbN d ≤ s.1 (upN s.2 x (d + 2))
    omega
theorem dp_up {pa : Nat → Nat} : ∀ {d j x : Nat}, d ≤ dpF pa j x → ∀ i, i < d → pa (upN pa x i) ≠ 0
  | 0, j, x, _, i, hi => absurd hi (by omega)
  | d + 1, 0, x, h, i, hi => absurd h (by show ¬ d + 1 ≤ 0; omega)
  | d + 1, j + 1, x, h, i, hi => by
    unfold dpF at h
    by_cases c : pa x = 0
    · rw [if_pos c] at h; omega
    · rw [if_neg c] at h
      by_cases e : i = 0
      · rw [e]; exact c
      · obtain ⟨k, rfl⟩ : ∃ k, i = k + 1 := ⟨i - 1, by omega⟩
        have sh : ∀ k, upN pa x (k + 1) = upN pa (pa x) k := fun k => by
          induction k with
          | zero => rfl
          | succ k ih => show pa (upN pa x (k + 1)) = pa (upN pa (pa x) k); rw [ih]
        rw [sh k]
        exact dp_up (d := d) (j := j) (by omega) k (by omega)
/-- what stands at the end: one alone is free -/
theorem HI.end {al T : Nat} {s : (Nat → Nat) × (Nat → Nat)} {n : Nat} (h : HI al T s n) (hn : n + 1 = 2 * al) (hal : 2 ≤ al) : s.2 (n - 1) = 0 ∧ (∀ k, k < n - 1 → s.2 k ≠ 0) ∧ ∀ k, k < n → s.1 k ≤ T := by
  obtain ⟨h1, h2, h3, h4, h5, h6, h7, h8, h9⟩ := h
  have r0 : s.2 (n - 1) = 0 := Classical.byContradiction (fun z => by
    have := h3 (n - 1) (by omega) z
    omega)
  have nf : ∀ k, k < n - 1 → s.2 k ≠ 0 := fun k hk e => by
    have := smN_ij (g := fun k => if s.2 k = 0 then 1 else 0) hk (show n - 1 < n by omega)
    rw [if_pos e, if_pos r0] at this
    omega
  refine ⟨r0, nf, fun k hk => ?_⟩
  have t := smN_i (g := fun k => if s.2 k = 0 then s.1 k else 0) (show n - 1 < n by omega)
  rw [if_pos r0] at t
  by_cases c : k = n - 1
  · subst c; omega
  · have := h6 k (n - 1) hk (by omega) (nf k (by omega)) r0
    omega
/-- no length above 17 -/
theorem dp_le {al T : Nat} {s : (Nat → Nat) × (Nat → Nat)} {n : Nat} (h : HI al T s n) (hn : n + 1 = 2 * al) (hal : 2 ≤ al) (hT : T < 6765) {j x : Nat} (hx : x < n) : dpF s.2 j x ≤ 17 := by
  by_cases c : dpF s.2 j x ≤ 17
  · exact c
  · have u := up_fb h hx 18 (dp_up (d := 18) (j := j) (by omega))
    have := (h.end hn hal).2.2 _ u.1.1
    have e : fbN 18 = 6765 := by decide
    omega
/-- the lengths of a table -/
def lnF (w0 : Nat → Nat) (al v : Nat) : Nat := dpF (hfS w0 al (al - 1)).2 600 v
/-! TABLES: two rows, the least of each first. -/
def SB (W B : Nat → Nat) (v : Nat) : Prop := (∀ p, p < v → B p < v) ∧ ∀ p q, p < q → q < v → (W (B p) < W (B q) ∨ (W (B p) = W (B q) ∧ B p < B q))
def inB (B : Nat → Nat) (p v : Nat) : Nat → Nat := fun q => if q < p then B q else if q = p then v else B (q - 1)
theorem SB.add {W B : Nat → Nat} {v p : Nat} (h : SB W B v) (hp : p ≤ v) (h1 : p = 0 ∨ W (B (p - 1)) ≤ W v) (h2 : ∀ q, p ≤ q → q < v → W v < W (B q)) : SB W (inB B p v) (v + 1) := by
  have lo : ∀ q, q < p → W (B q) ≤ W v := fun q hq => by
    rcases h1 with c | c
    · omega
    · by_cases e : q = p - 1
      · rw [e]; exact c
      · have := h.2 q (p - 1) (by omega) (by omega)
        omega
  refine ⟨fun q hq => ?_, fun q r q1 r1 => ?_⟩
  · unfold inB
    by_cases c : q < p
    · rw [if_pos c]; have := h.1 q (by omega); omega
    · rw [if_neg c]
      by_cases d : q = p
      · rw [if_pos d]; omega
      · rw [if_neg d]; have := h.1 (q - 1) (by omega); omega
  · unfold inB
    by_cases c : q < p
    · rw [if_pos c]
      have l := lo q c
      have b := h.1 q (by omega)
      by_cases d : r < p
      · rw [if_pos d]; exact h.2 q r q1 (by omega)
      · rw [if_neg d]
        by_cases e : r = p
        · rw [if_pos e]; omega
        · rw [if_neg e]
          exact h.2 q (r - 1) (by omega) (by omega)
    · rw [if_neg c, if_neg (show ¬ r < p by omega), if_neg (show ¬ r = p by omega)]
      by_cases d : q = p
      · rw [if_pos d]
        exact Or.inl (h2 (r - 1) (by omega) (by omega))
      · rw [if_neg d]
        exact h.2 (q - 1) (r - 1) (by omega) (by omega)
theorem SB.inj {W B : Nat → Nat} {v : Nat} (h : SB W B v) (p q : Nat) (hp : p < v) (hq : q < v) (e : B p = B q) : p = q := by
  by_cases c : p < q
  · have := h.2 p q c hq; rw [e] at this; omega
  · by_cases d : q < p
    · have := h.2 q p d hp; rw [e] at this; omega
    · omega
/-- those that are free: the leaves from lf on, the joined from jn on -/
def QF (B : Nat → Nat) (al n : Nat) (fr : Nat → Prop) (lf jn : Nat) : Prop := lf ≤ al ∧ al ≤ jn ∧ jn ≤ n ∧ (∀ p, p < al → (fr (B p) ↔ lf ≤ p)) ∧ ∀ j, al ≤ j → j < n → (fr j ↔ jn ≤ j)
theorem QF.leaf {W wt B : Nat → Nat} {al n : Nat} {fr : Nat → Prop} {lf jn : Nat} (h : QF B al n fr lf jn) (hB : SB W B al) (hn : al ≤ n) (hw : ∀ k, k < al → wt k = W k) (hm : ∀ i j, al ≤ i → i < j → j < n → wt i ≤ wt j) (hl : lf < al) (hj : n ≤ jn ∨ wt (B lf) ≤ wt jn) : (fr (B lf) ∧ B lf < n ∧ ∀ k, k < n → fr k → wt (B lf) < wt k ∨ (wt (B lf) = wt k ∧ B lf ≤ k)) ∧ QF B al n (fun k => fr k ∧ k ≠ B lf) (lf + 1) jn := by
  obtain ⟨h1, h2, h3, h4, h5⟩ := h
  have b0 := hB.1 lf hl
  refine ⟨⟨(h4 lf hl).mpr (Nat.le_refl _), by omega, fun k hk fk => ?_⟩, by omega, h2, h3, fun p hp => ?_, fun j j1 j2 => ?_⟩
  · by_cases c : k < al
    · obtain ⟨p, p1, p2⟩ := pig al B hB.1 hB.inj k c
      rw [← p2] at fk ⊢
      have q := (h4 p p1).mp fk
      by_cases e : p = lf
      · rw [e]; omega
      · have := hB.2 lf p (by omega) p1
        rw [hw _ b0, hw _ (hB.1 p p1)]
        omega
    · have q := (h5 k (by omega) hk).mp fk
      have z : wt (B lf) ≤ wt k := by
        rcases hj with c2 | c2
        · omega
        · by_cases e : jn = k
          · rw [← e]; exact c2
          · have := hm jn k h2 (by omega) hk
            omega
      omega
  · constructor
    · intro hh
      have := (h4 p hp).mp hh.1
      by_cases e : p = lf
      · exact absurd (by rw [e]) hh.2
      · omega
    · intro hh
      refine ⟨(h4 p hp).mpr (by omega), fun e => ?_⟩
      have := hB.inj p lf hp hl e
      omega
  · have := h5 j j1 j2
    constructor
    · exact fun hh => this.mp hh.1
    · exact fun hh => ⟨this.mpr hh, by omega⟩
theorem QF.join {W wt B : Nat → Nat} {al n : Nat} {fr : Nat → Prop} {lf jn : Nat} (h : QF B al n fr lf jn) (hB : SB W B al) (hn : al ≤ n) (hw : ∀ k, k < al → wt k = W k) (hm : ∀ i j, al ≤ i → i < j → j < n → wt i ≤ wt j) (hj : jn < n) (hl : al ≤ lf ∨ wt jn < wt (B lf)) : (fr jn ∧ jn < n ∧ ∀ k, k < n → fr k → wt jn < wt k ∨ (wt jn = wt k ∧ jn ≤ k)) ∧ QF B al n (fun k => fr k ∧ k ≠ jn) lf (jn + 1) := by
  obtain ⟨h1, h2, h3, h4, h5⟩ := h
  refine ⟨⟨(h5 jn h2 hj).mpr (Nat.le_refl _), hj, fun k hk fk => ?_⟩, h1, by omega, by omega, fun p hp => ?_, fun j j1 j2 => ?_⟩
  · by_cases c : k < al
    · obtain ⟨p, p1, p2⟩ := pig al B hB.1 hB.inj k c
      rw [← p2] at fk ⊢
      have q := (h4 p p1).mp fk
      rcases hl with d | d
      · omega
      · by_cases e : p = lf
        · rw [e]; omega
        · have x := hB.2 lf p (by omega) p1
          have y1 := hw _ (hB.1 lf (by omega))
          have y2 := hw _ (hB.1 p p1)
          omega
    · have q := (h5 k (by omega) hk).mp fk
      by_cases e : jn = k
      · rw [← e]; omega
      · have := hm jn k h2 (by omega) hk
        omega
  · have := h4 p hp
    have b0 := hB.1 p hp
    constructor
    · exact fun hh => this.mp hh.1
    · exact fun hh => ⟨this.mpr hh, by omega⟩
  · have := h5 j j1 j2
    constructor
    · intro hh
      have := this.mp hh.1
      have := hh.2
      omega
    · intro hh
      exact ⟨this.mpr (by omega), by omega⟩
theorem QF.cg {B : Nat → Nat} {al n : Nat} {fr fr' : Nat → Prop} {lf jn : Nat} (h : QF B al n fr lf jn) (hB : ∀ p, p < al → B p < n) (e : ∀ k, k < n → (fr k ↔ fr' k)) : QF B al n fr' lf jn :=
  ⟨h.1, h.2.1, h.2.2.1, fun p hp => (e _ (hB p hp)).symm.trans (h.2.2.2.1 p hp), fun j j1 j2 => (e j j2).symm.trans (h.2.2.2.2 j j1 j2)⟩
theorem HI.wl {al T : Nat} {s : (Nat → Nat) × (Nat → Nat)} {n : Nat} (h : HI al T s n) (hn : n + 1 ≤ 2 * al) {k : Nat} (hk : k < n) : s.1 k ≤ T := by
  obtain ⟨-, -, -, h4, h5, h6, -⟩ := h
  have fr : ∀ j, j < n → s.2 j = 0 → s.1 j ≤ T := fun j hj e => by
    have := smN_i (g := fun k => if s.2 k = 0 then s.1 k else 0) hj
    rw [if_pos e] at this
    omega
  by_cases c : s.2 k = 0
  · exact fr k hk c
  · have f1 : ∃ k, k < n ∧ s.2 k = 0 := Classical.byContradiction (fun z => by
      have := smN_0 (g := fun k => if s.2 k = 0 then 1 else 0) (n := n) (fun i hi => if_neg (fun e => z ⟨i, hi, e⟩))
      omega)
    obtain ⟨j, j1, j2⟩ := f1
    have := h6 k j hk j1 c j2
    have := fr j j1 j2
    omega
theorem dp_st {pa : Nat → Nat} {n : Nat} (h : ∀ k, k < n → pa k ≠ 0 → k < pa k ∧ pa k < n) : ∀ (j k : Nat), k < n → n ≤ k + j → dpF pa (j + 1) k = dpF pa j k
  | 0, k, h1, h2 => by omega
  | j + 1, k, h1, h2 => by
    show (if pa k = 0 then 0 else dpF pa (j + 1) (pa k) + 1) = (if pa k = 0 then 0 else dpF pa j (pa k) + 1)
    by_cases c : pa k = 0
    · rw [if_pos c, if_pos c]
    · rw [if_neg c, if_neg c]
      have := h k h1 c
      rw [dp_st h j (pa k) this.2 (by omega)]
theorem dp_s {pa : Nat → Nat} {n : Nat} (h : ∀ k, k < n → pa k ≠ 0 → k < pa k ∧ pa k < n) (hn : n ≤ 599) {k : Nat} (hk : k < n) (c : pa k ≠ 0) : dpF pa 600 k = dpF pa 600 (pa k) + 1 := by
  have q := h k hk c
  rw [dp_st h 599 (pa k) q.2 (by omega)]
  show (if pa k = 0 then 0 else dpF pa 599 (pa k) + 1) = _
  rw [if_neg c]
/-- sums of weights that are one at least -/
theorem smN_mx {f : Nat → Nat} : ∀ n, smN (fun v => max 1 (f v)) n ≤ smN f n + n
  | 0 => Nat.le_refl _
  | n + 1 => by
    have := smN_mx (f := f) n
    show smN (fun v => max 1 (f v)) n + max 1 (f n) ≤ smN f n + f n + (n + 1)
    omega
