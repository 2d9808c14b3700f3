/-! CALLS, 11: length, both sides. -/
theorem op_length {k : Nat} {w : za_W} (h : Rel k w) (x y : Int32) : zl_H 122 147 [.int x, .int y] 138 w (Rel (k + 1)) := by
  obtain ⟨hS, V, lv, I, O, H, fI, fO, fH, gI, gO, gH, hB, hR, hT⟩ := h
  have hT' := hT
  obtain ⟨ds, T, la, sp, tb, ch, al, fF, fS, gF, gS, c1, c2, gL, m, t1, t2, t3, t4, -, -, ⟨t11, t12, t13, t14, t15, t16, t17⟩, -, ⟨t21, t22, t23⟩⟩ := hT'
  have hr := Sh.rows hS (la := la) (by omega)
  by_cases hx : (¬ x < 0 ∧ x < Int32.ofNat tb) ∧ (¬ y < 0 ∧ y < Int32.ofNat al)
  · have hx' := hx
    obtain ⟨p, hp, rfl⟩ := i3_of hx.1.1
    obtain ⟨q, hq, rfl⟩ := i3_of hx.2.1
    have hp2 := hx.1.2
    have hq2 := hx.2.2
    rw [i3_lt (by omega) (by omega)] at hp2 hq2
    exact ⟨⟨_, hB.1⟩, m p q, w, za_T.eq fun G hG => sp_lengthY hB.1 t2 t11 hr (t22 p (by omega)) hp2 hq2 t12 t14 hG, rfl, rfl, ⟨_, hB.2.1⟩, za_up w 138 (md_o (upd V 0 0)), za_T.eq fun G hG => mo_length hB.2.1 t15 t17 t21 t12 t14 (by rw [if_pos hx', i3_n (by omega), i3_n (by omega), t23 p q hp2 hq2]; exact hG), rfl, rfl, Rel.th hS hB hR hT 0⟩
  · exact ⟨⟨_, hB.1⟩, -1, w, za_T.eq fun G hG => sp_lengthN hB.1 t2 t11 hx hG, rfl, rfl, ⟨_, hB.2.1⟩, za_up w 138 (md_o (upd V 0 0)), za_T.eq fun G hG => mo_length hB.2.1 t15 t17 t21 t12 t14 (by rw [if_neg hx]; exact hG), rfl, rfl, Rel.th hS hB hR hT 0⟩
