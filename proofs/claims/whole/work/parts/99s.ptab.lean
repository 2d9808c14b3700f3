/-! TABLES, in numbers: first costs, choices, rounds. -/
def wlF (c : Nat → Nat) (al : Nat) (wa : Int32) : Nat → Nat → Int32 → Nat × Int32
  | 0, to, s => (to, s)
  | j + 1, to, s => if to < al ∧ s < wa then wlF c al wa j (to + 1) (s + Int32.ofNat (c to)) else (to, s)
theorem wlF_le {c : Nat → Nat} {al : Nat} {wa : Int32} : ∀ (j to : Nat) (s : Int32), to ≤ al → to ≤ (wlF c al wa j to s).1 ∧ (wlF c al wa j to s).1 ≤ al
  | 0, to, s, h => ⟨Nat.le_refl _, h⟩
  | j + 1, to, s, h => by
    unfold wlF
    by_cases q : to < al ∧ s < wa
    · rw [if_pos q]
      have := wlF_le (c := c) (wa := wa) j (to + 1) (s + Int32.ofNat (c to)) (by omega : to + 1 ≤ al)
      omega
    · rw [if_neg q]
      exact ⟨Nat.le_refl _, h⟩
def fcT (c : Nat → Nat) (al last t : Nat) (left : Int32) (fr : Nat) : Nat × Int32 := if 1 < (wlF c al (left / Int32.ofNat (t + 1)) al fr 0).1 - fr ∧ t ≠ last ∧ t ≠ 0 ∧ (last - t) % 2 = 1 then ((wlF c al (left / Int32.ofNat (t + 1)) al fr 0).1 - 1, (wlF c al (left / Int32.ofNat (t + 1)) al fr 0).2 - Int32.ofNat (c ((wlF c al (left / Int32.ofNat (t + 1)) al fr 0).1 - 1))) else wlF c al (left / Int32.ofNat (t + 1)) al fr 0
theorem fcT_le {c : Nat → Nat} {al last t : Nat} {left : Int32} {fr : Nat} (h : fr ≤ al) : fr ≤ (fcT c al last t left fr).1 ∧ (fcT c al last t left fr).1 ≤ al := by
  have q := wlF_le (c := c) (wa := left / Int32.ofNat (t + 1)) al fr 0 h
  unfold fcT
  split
  · rename_i z
    refine ⟨?_, ?_⟩
    · show fr ≤ (wlF c al (left / Int32.ofNat (t + 1)) al fr 0).1 - 1
      omega
    · show (wlF c al (left / Int32.ofNat (t + 1)) al fr 0).1 - 1 ≤ al
      omega
  · exact q
def fcR (fr to v : Nat) : Nat := if fr ≤ v ∧ v < to then 0 else 15
def fcM (c : Nat → Nat) (al last : Nat) : Nat → Int32 → Nat → (Nat → Nat → Nat) → (Nat → Nat → Nat)
  | 0, _, _, M => M
  | t + 1, left, fr, M => fcM c al last t (left - (fcT c al last t left fr).2) (fcT c al last t left fr).1 (uM M t (fcR fr (fcT c al last t left fr).1))
theorem fcM_le {c : Nat → Nat} {al last : Nat} : ∀ (t : Nat) (left : Int32) (fr : Nat) (M : Nat → Nat → Nat), (∀ s v, M s v ≤ 15) → ∀ s v, fcM c al last t left fr M s v ≤ 15
  | 0, _, _, M, h, s, v => h s v
  | t + 1, left, fr, M, h, s, v => by
    refine fcM_le t _ _ _ (fun s v => ?_) s v
    unfold uM
    split
    · unfold fcR
      split <;> omega
    · exact h s v
/-- what a group of fifty costs with a table -/
def csN (L N : Nat → Nat) (a : Nat) : Nat → Nat
  | 0 => 0
  | j + 1 => csN L N a j + L (N (a + j))
theorem csN_le {L N : Nat → Nat} {a b : Nat} : ∀ {j : Nat}, (∀ i, i < j → L (N (a + i)) ≤ b) → csN L N a j ≤ b * j
  | 0, _ => Nat.le_refl _
  | j + 1, h => by
    have := csN_le (L := L) (N := N) (a := a) (b := b) (j := j) (fun i hi => h i (by omega))
    have h2 := h j (by omega)
    show csN L N a j + L (N (a + j)) ≤ b * (j + 1)
    rw [Nat.mul_add]
    omega
def beF (q : Nat → Nat) : Nat → Nat × Nat
  | 0 => (0, 0)
  | t + 1 => if t = 0 ∨ q t < (beF q t).2 then (t, q t) else beF q t
theorem beF_lt (q : Nat → Nat) : ∀ {t : Nat}, 0 < t → (beF q t).1 < t
  | 0, h => absurd h (by omega)
  | t + 1, _ => by
    unfold beF
    by_cases c : t = 0 ∨ q t < (beF q t).2
    · rw [if_pos c]
      show t < t + 1
      omega
    · rw [if_neg c]
      have := beF_lt q (t := t) (by omega)
      omega
theorem beF_q (q : Nat → Nat) : ∀ {t : Nat}, 0 < t → (beF q t).2 = q (beF q t).1
  | 0, h => absurd h (by omega)
  | t + 1, _ => by
    unfold beF
    by_cases c : t = 0 ∨ q t < (beF q t).2
    · rw [if_pos c]
    · rw [if_neg c]
      exact beF_q q (by omega)
def grN (n k : Nat) : Nat := min n (50 * k + 50) - 50 * k
def chF (M : Nat → Nat → Nat) (N : Nat → Nat) (n tb k : Nat) : Nat := (beF (fun t => csN (M t) N (50 * k) (grN n k)) tb).1
def ofN (C N : Nat → Nat) (t v : Nat) : Nat → Nat
  | 0 => 0
  | i + 1 => ofN C N t v i + if C (i / 50) = t ∧ N i = v then 1 else 0
theorem ofN_le (C N : Nat → Nat) (t v : Nat) : ∀ m, ofN C N t v m ≤ m
  | 0 => Nat.le_refl _
  | m + 1 => by
    have := ofN_le C N t v m
    show ofN C N t v m + (if C (m / 50) = t ∧ N m = v then 1 else 0) ≤ m + 1
    split <;> omega
theorem smN_ad (g h : Nat → Nat) : ∀ n, smN (fun v => g v + h v) n = smN g n + smN h n
  | 0 => rfl
  | n + 1 => by
    show smN (fun v => g v + h v) n + (g n + h n) = smN g n + g n + (smN h n + h n)
    rw [smN_ad g h n]
    omega
theorem smN_in (P : Prop) [Decidable P] (x : Nat) : ∀ n, smN (fun v => if P ∧ x = v then 1 else 0) n ≤ if x < n then 1 else 0
  | 0 => by
    show 0 ≤ _
    omega
  | n + 1 => by
    have := smN_in P x n
    show smN (fun v => if P ∧ x = v then 1 else 0) n + (if P ∧ x = n then 1 else 0) ≤ _
    by_cases c : x = n
    · rw [if_neg (show ¬ x < n by omega)] at this
      rw [if_pos (show x < n + 1 by omega)]
      split <;> omega
    · rw [if_neg (fun h => c h.2)]
      by_cases d : x < n
      · rw [if_pos d] at this
        rw [if_pos (show x < n + 1 by omega)]
        omega
      · rw [if_neg d] at this
        omega
theorem ofN_sm (C N : Nat → Nat) (t al : Nat) : ∀ m, smN (fun v => ofN C N t v m) al ≤ m
  | 0 => by
    have : smN (fun v => ofN C N t v 0) al = 0 := smN_0 (fun i _ => rfl)
    omega
  | m + 1 => by
    have h := ofN_sm C N t al m
    have e : smN (fun v => ofN C N t v (m + 1)) al = smN (fun v => ofN C N t v m) al + smN (fun v => if C (m / 50) = t ∧ N m = v then 1 else 0) al := smN_ad (fun v => ofN C N t v m) (fun v => if C (m / 50) = t ∧ N m = v then 1 else 0) al
    have f := smN_in (C (m / 50) = t) (N m) al
    have f2 : (if N m < al then 1 else 0) ≤ 1 := by split <;> omega
    omega
theorem ofN_c {C D N : Nat → Nat} {t v : Nat} : ∀ {m : Nat}, (∀ k, k < (m + 49) / 50 → C k = D k) → ofN C N t v m = ofN D N t v m
  | 0, _ => rfl
  | m + 1, h => by
    show ofN C N t v m + (if C (m / 50) = t ∧ N m = v then 1 else 0) = ofN D N t v m + (if D (m / 50) = t ∧ N m = v then 1 else 0)
    rw [ofN_c (fun k hk => h k (by omega)), h (m / 50) (by omega)]
def rdM (N : Nat → Nat) (n tb al : Nat) (M : Nat → Nat → Nat) : Nat → Nat → Nat := fun t => lnF (fun v => max 1 (ofN (chF M N n tb) N t v n)) al
def tbF (n : Nat) : Nat := if n < 200 then 2 else if n < 600 then 3 else if n < 1200 then 4 else 5
theorem tbF_b (n : Nat) : 2 ≤ tbF n ∧ tbF n ≤ 5 := by
  unfold tbF
  split
  · omega
  · split
    · omega
    · split <;> omega
def mkM (N : Nat → Nat) (n al : Nat) : Nat → Nat → Nat → Nat
  | 0 => fcM (fun v => eqK N v n) al (tbF n - 1) (tbF n) (Int32.ofNat n) 0 (fun _ _ => 0)
  | r + 1 => rdM N n (tbF n) al (mkM N n al r)
theorem lnF_b {w0 : Nat → Nat} {al v : Nat} (h1 : ∀ k, k < al → 1 ≤ w0 k) (hT : smN w0 al < 6765) (hal : al ≤ 258) (hal2 : 2 ≤ al) (hv : v < al) : 1 ≤ lnF w0 al v ∧ lnF w0 al v ≤ 17 := by
  have I := hfS_I h1 (by omega) (al - 1) (by omega)
  have E := I.end (by omega) hal2
  refine ⟨?_, dp_le I (by omega) hal2 hT (by omega)⟩
  have q := E.2.1 v (by omega)
  have st : ∀ i, i < al + (al - 1) → (hfS w0 al (al - 1)).2 i ≠ 0 → i < (hfS w0 al (al - 1)).2 i ∧ (hfS w0 al (al - 1)).2 i < al + (al - 1) := fun i i1 i2 => ⟨(I.2.2.1 i i1 i2).1, (I.2.2.1 i i1 i2).2.2⟩
  have := dp_s st (by omega) (show v < al + (al - 1) by omega) q
  unfold lnF
  omega
theorem ofW_b {C N : Nat → Nat} {t n al : Nat} (hn : n ≤ 1801) (hal : al ≤ 258) : (∀ v, v < al → 1 ≤ (fun v => max 1 (ofN C N t v n)) v) ∧ smN (fun v => max 1 (ofN C N t v n)) al < 6765 := by
  have h1 := smN_mx (f := fun v => ofN C N t v n) al
  have h2 := ofN_sm C N t al n
  exact ⟨fun v _ => by show 1 ≤ max 1 (ofN C N t v n); omega, by omega⟩
theorem rdM_b {N : Nat → Nat} {n tb al t v : Nat} {M : Nat → Nat → Nat} (hn : n ≤ 1801) (hal : al ≤ 258) (hal2 : 2 ≤ al) (hv : v < al) : 1 ≤ rdM N n tb al M t v ∧ rdM N n tb al M t v ≤ 17 := by
  have h := ofW_b (C := chF M N n tb) (N := N) (t := t) hn hal
  exact lnF_b h.1 h.2 hal hal2 hv
theorem mkM_b {N : Nat → Nat} {n al : Nat} (hn : n ≤ 1801) (hal : al ≤ 258) (hal2 : 2 ≤ al) : ∀ r t v, v < al → mkM N n al r t v ≤ 17
  | 0, t, v, _ => by
    have := fcM_le (c := fun v => eqK N v n) (al := al) (last := tbF n - 1) (tbF n) (Int32.ofNat n) 0 (fun _ _ => 0) (fun _ _ => by show 0 ≤ 15; omega) t v
    show fcM (fun v => eqK N v n) al (tbF n - 1) (tbF n) (Int32.ofNat n) 0 (fun _ _ => 0) t v ≤ 17
    omega
  | r + 1, t, v, hv => (rdM_b hn hal hal2 hv).2
