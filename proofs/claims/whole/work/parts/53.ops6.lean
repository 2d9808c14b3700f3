/-! CALLS, 6: out, the bond. -/
theorem op_out {k : Nat} {w : za_W} (h : Rel k w) (x : Int32) : zo_O 138 167 x w (Rel (k + 1)) := by
  obtain ⟨hS, V, lv, I, O, H, fI, fO, fH, gI, gO, gH, hB, hR, hT⟩ := h
  have hB' := hB
  obtain ⟨b0, b138, -, ⟨o1, o2, o3, o4, o5, o6, o7, o8⟩, -⟩ := hB'
  refine ⟨⟨_, b0, rfl⟩, ?_⟩
  by_cases hx : ¬ x < 0 ∧ x < Int32.ofNat O
  · left
    obtain ⟨p, hp, rfl⟩ := i3_of hx.1
    have hpO := hx.2
    rw [i3_lt (by omega) (by omega)] at hpO
    have hc : (zl_c 0)[167]? = some (.inl (2, 1, .inr (.inl fun _ => 0))) := by rfl
    obtain ⟨f, hf⟩ := hS.al hc (by decide)
    have hS2 : Sh (za_up w 167 (.inl (2, 1, .inr (.inl (vp_updL f 0 (fO p &&& 255).toInt64))))) := hS.up (fun c hc2 _ => by cases hc.symm.trans hc2; exact ⟨rfl, rfl⟩)
    have hB2 := hB.off (j := 167) (d := .inl (2, 1, .inr (.inl (vp_updL f 0 (fO p &&& 255).toInt64)))) (by decide)
    have hR2 := hR.off (j := 167) (d := .inl (2, 1, .inr (.inl (vp_updL f 0 (fO p &&& 255).toInt64)))) (by decide)
    have hT2 := hT.off (j := 167) (d := .inl (2, 1, .inr (.inl (vp_updL f 0 (fO p &&& 255).toInt64)))) (by omega)
    have e : gO p &&& 255 = fO p &&& 255 := by rw [o8 p hpO]
    refine ⟨fO p &&& 255, w, za_up (za_up w 167 (.inl (2, 1, .inr (.inl (vp_updL f 0 (fO p &&& 255).toInt64))))) 138 (md_o (upd V 0 0)), za_up (za_up w 167 (.inl (2, 1, .inr (.inl (vp_updL f 0 (fO p &&& 255).toInt64))))) 138 (md_o (upd V 0 0)), f, za_T.eq fun G hG => sp_out b0 o1 o2 o4 hpO hG, rfl, rfl, hf, ⟨_, b138⟩, za_T.eq fun G hG => mo_outY hB2.2.1 o7 (by rw [za_up.off (by decide)]; exact o3) o4 hpO (by rw [e]; exact hG), rfl, rfl, ⟨_, za_up.on _ _ _⟩, za_T.eq fun G hG => mo_thrown (za_up.on _ _ _) hG, rfl, rfl, by rw [za_up.off (by decide)]; exact za_up.on _ _ _, Rel.th hS2 hB2 hR2 hT2 0⟩
  · right
    have hno : x < 0 ∨ Int32.ofNat O ≤ x := by
      by_cases h1 : x < 0
      · exact Or.inl h1
      · exact Or.inr (Int32.not_lt.mp (fun h2 => hx ⟨h1, h2⟩))
    exact ⟨4, Int32.ofNat O, 0, za_up w 138 (md_o (upd V 0 1)), za_up w 138 (md_o (upd V 0 1)), o1, hno, ⟨_, b138⟩, za_T.eq fun G hG => mo_outN b138 o7 o4 hx hG, rfl, rfl, ⟨_, za_up.on _ _ _⟩, za_T.eq fun G hG => mo_thrown (za_up.on _ _ _) hG, rfl, rfl, Rel.th hS hB hR hT 1⟩
