/-! FROM THE ABSTRACT MACHINE TO THE MACHINE, 5: the call rows. -/
section ZC
variable {p : Program} {L : Launch} {e : Env} {R : Room} {s : State} {m : MethodId} {args : Array Value} {below : List Frame} {meth : Method} {c : Code} {me : Nat} {D : va_G} {cA : Nat → ClassId} {A : Nat → Prop} {ad0 : Nat → Nat} {w0 wz : za_W} {v : Option Value} {X : za_S → Prop}
/-- behind a call that has come back -/
theorem za_back {H : Heap} {locs : List Loc} {cells slots mc ms pc : Nat} {ls : Array Slot} {st0 rest : List Value} {Q : State → Prop} {ad : Nat → Nat} {w w1 : za_W} {v1 : Option Value} {a : Array Value} {A1 : Nat → Prop} {H0 : Heap}
    (hr : va_Run p L e R s m args below meth c H locs cells slots mc ms (F0 m pc ls st0) rest (za_Q D cA A1 ad w v1 w1 a) A1) (hS : va_S A H0 H locs) (hA : ∀ q, A1 q → A q)
    (kk : ∀ (ad1 : Nat → Nat) (H1 : Heap) (locs1 : List Loc), (∀ k, k < w.1 → ad1 k = ad k) → va_P D vwCl (za_l ad1 cA w1) H1 → va_D A (za_l ad1 cA w1) → za_kw w1 → (∀ x, v1 = some x → za_k w1.1 x) → va_S A H0 H1 locs1 → W p L e R s m args below meth c H1 locs1 (cells + mc) (slots + ms) Q (F0 m (pc + 3) ls ((v1.map (za_v ad1)).toList ++ rest))) : W p L e R s m args below meth c H locs cells slots Q (F0 m pc ls st0) := by
  intro T hT X
  obtain ⟨u, st₀, t, T', L9, h0, X', hL, e1, e2, ⟨⟨ad1, ha, hv, hp, hd, hk, hx⟩, hz, hkp⟩, st⟩ := hr T hT X
  cases hv
  rw [h0] at hz hkp
  obtain ⟨t2, a1, b1⟩ := kk ad1 T'.heap (locs ++ L9) ha (by rw [e1]; exact hp) (hd.weaken (fun _ _ _ h => hA _ h)) hk hx
    ⟨Nat.le_trans hS.1 (by rw [e1]; exact hz), fun q h1 h2 => by rw [e1, hkp q (Nat.lt_of_lt_of_le h1 hS.1) (fun z => h2 (hA q z))]; exact hS.2.1 q h1 h2, fun q hq => by
      rcases List.mem_append.mp hq with h | h
      · exact hS.2.2 q h
      · exact hA _ (hL q h)⟩ T' rfl X'
  exact ⟨t2, st t2 a1, b1⟩
/-- a call, in any way that runs it: the state behind it -/
theorem za_Z.call {pc mj : Nat} {l : za_L} {st r as : List Value} {w w1 : za_W} {v1 : Option Value} (hF : za_F me D cA p R s m args meth c w0 wz) (hm : mj < zt_mp0.length) (haw : za_aw as ≤ za_mx mj) (hY : za_M L mj as w (.inl v1) w1) (hz : za_Z p L e R s m args below meth c me D cA A ad0 w0 wz v (pc + 3) l (v1.toList ++ r) w1) (hk : (∀ v ∈ st, za_k w.1 v) → (∀ v ∈ r, za_k w.1 v) ∧ ∀ v ∈ as, za_k w.1 v)
    (kk : ∀ (ad : Nat → Nat) (H : Heap) (locs : List Loc) (ls : Array Slot) (cells slots : Nat), za_I D cA A s.heap H locs ls (za_mx me) ad l st w → cells + (w1.1 - w.1) ≤ R.cells ∧ slots + (w1.2.1 - w.2.1) ≤ R.slots →
      Met L (za_y mj) (za_wq mj) (za_room mj w w1) (za_Pre D cA ad as w H.size) (za_Q D cA (va_A (za_l ad cA w) H.size) ad w v1 w1) (w1.1 - w.1) (w1.2.1 - w.2.1) (va_A (za_l ad cA w) H.size) →
      (∀ U : State, U.heap = H → s.WarmedH U.vm → za_Pre D cA ad as w H.size (as.map (za_v ad)).toArray U) →
      ∃ a, va_Run p L e R s m args below meth c H locs cells slots (w1.1 - w.1) (w1.2.1 - w.2.1) (F0 m pc ls (st.map (za_v ad))) (r.map (za_v ad)) (za_Q D cA (va_A (za_l ad cA w) H.size) ad w v1 w1 a) (va_A (za_l ad cA w) H.size)) :
    za_Z p L e R s m args below meth c me D cA A ad0 w0 wz v pc l st w := by
  obtain ⟨hx, hb, hml, hown, hts, hr, hlk, hK, hnw, him, hRf, hRl, hRc, hRs⟩ := hF
  obtain ⟨y1, y2, y3⟩ := hY hm haw v1 rfl
  refine ⟨⟨Nat.le_trans y1 hz.1.1, Nat.le_trans y2 hz.1.2⟩, fun ad H locs ls cells slots I hag hc hs => ?_⟩
  have I' := I
  obtain ⟨h1, h2, h3, h4, h5, h6, h7, h8⟩ := I'
  obtain ⟨k1, k2⟩ := hk h7
  have z1 := hz.1.1
  have z2 := hz.1.2
  obtain ⟨a, hrun⟩ := kk ad H locs ls cells slots I ⟨by omega, by omega⟩ (y3 h5 k2 D cA ad H.size) (fun U hU hW => ⟨rfl, by rw [hU], by rw [hU]; exact h1, va_K.moved hW.alike hK, h2.weaken (fun _ _ _ _ => trivial), za_nw.warm hW hnw⟩)
  refine za_back hrun h3 (fun q hq => ?_) (fun ad1 H1 locs1 g1 g2 g3 g4 g5 g6 => ?_)
  · rcases hq with ⟨k, x, hkx⟩ | hq
    · exact h2.2 k (q, x) hkx
    · exact h4 q (Nat.le_trans h3.1 hq)
  · have g7 : ∀ u ∈ v1.toList, za_k w1.1 u := fun u hu => g5 u (by cases v1 with | none => cases hu | some x => rw [List.mem_singleton.mp hu])
    have h9 := hz.2 ad1 H1 locs1 ls (cells + (w1.1 - w.1)) (slots + (w1.2.1 - w.2.1)) ⟨g2, g3, g6, h4, g4, fun q hq => (h6 q hq).mono y1, fun u hu => (List.mem_append.mp hu).elim (g7 u) (fun h => (k1 u h).mono y1), by rw [za_ls.agree g1 h6]; exact h8⟩ (fun k hk9 => by rw [g1 k (by omega)]; exact hag k hk9) (by omega) (by omega)
    have e1 : (v1.toList ++ r).map (za_v ad1) = (v1.map (za_v ad1)).toList ++ r.map (za_v ad) := by
      rw [List.map_append, za_vs.agree g1 k1]
      cases v1 <;> rfl
    rw [e1] at h9
    exact h9
end ZC
theorem za_take {st r : List Value} {a : Value} {n : Nat} (h : st.drop n = a :: r) : st = st.take n ++ a :: r ∧ (st.take n).length = n := by
  constructor
  · rw [← h, List.take_append_drop]
  · have h1 : (st.drop n).length = st.length - n := List.length_drop
    rw [h] at h1
    rw [List.length_take]
    simp at h1
    omega
theorem za_asr (ad : Nat → Nat) (t : List Value) : ((t.reverse).map (za_v ad)).reverse = t.map (za_v ad) := by rw [List.map_reverse, List.reverse_reverse]
