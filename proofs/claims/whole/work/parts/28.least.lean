/-! TableMaker.takeLeast: the lighter of the next leaf and the next joined one, the leaf where they are alike. -/
theorem i3_10 : ((1 : Int32) = 0) = False := by decide
set_option maxRecDepth 100000 in
set_option maxHeartbeats 4000000 in
theorem tm_takeLeast {w : za_W} {i m_often m_counts m_byWeight m_weight m_parent m_depth nB nW L J M X : Nat} {g : Nat → Nat} {fB fW : Nat → Int32} {G : za_O → za_W → Prop} (h1 : w.2.2 i = some (.inr (9, [.ref m_often, .ref m_counts, .ref m_byWeight, .ref m_weight, .ref m_parent, .ref m_depth, .int (Int32.ofNat L), .int (Int32.ofNat J), .int (Int32.ofNat M)]))) (h2 : w.2.2 m_byWeight = some (.inl (1, nB, .inl fB))) (h3 : w.2.2 m_weight = some (.inl (1, nW, .inl fW))) (e1 : ¬ m_byWeight = i) (e2 : ¬ m_weight = i) (hX : X ≤ nB) (hM : M ≤ nW) (hL : L ≤ X) (hJ : J ≤ M) (hB : nB < 2147483648) (hW : nW < 2147483648) (hg : ∀ p, p < X → fB p = Int32.ofNat (g p) ∧ g p < nW)
    (gL : L < X → (M ≤ J ∨ ¬ fW J < fW (g L)) → G (.inl (some (.int (Int32.ofNat (g L))))) (za_up w i (.inr (9, [.ref m_often, .ref m_counts, .ref m_byWeight, .ref m_weight, .ref m_parent, .ref m_depth, .int (Int32.ofNat (L + 1)), .int (Int32.ofNat J), .int (Int32.ofNat M)]))))
    (gJ : J < M → (X ≤ L ∨ fW J < fW (g L)) → G (.inl (some (.int (Int32.ofNat J)))) (za_up w i (.inr (9, [.ref m_often, .ref m_counts, .ref m_byWeight, .ref m_weight, .ref m_parent, .ref m_depth, .int (Int32.ofNat L), .int (Int32.ofNat (J + 1)), .int (Int32.ofNat M)]))))
    (g0 : X ≤ L → M ≤ J → G (.inl (some (.int 0))) w) : za_T 88 [.ref i, .int (Int32.ofNat X)] w G := by
  have a1 : (Int32.ofNat X ≤ Int32.ofNat L) = (X ≤ L) := i3_le (by omega) (by omega)
  have a2 : (Int32.ofNat M ≤ Int32.ofNat J) = (M ≤ J) := i3_le (by omega) (by omega)
  have a3 : Int32.ofNat L + 1 - 1 = Int32.ofNat L := Int32.add_sub_cancel _ _
  have a4 : Int32.ofNat J + 1 - 1 = Int32.ofNat J := Int32.add_sub_cancel _ _
  have a5 : (Int32.ofNat L).toNatClampNeg = L := i3_n (by omega)
  have a6 : (Int32.ofNat J).toNatClampNeg = J := i3_n (by omega)
  have a7 : ¬ Int32.ofNat L < 0 := i3_z0 (by omega)
  have a8 : ¬ Int32.ofNat J < 0 := i3_z0 (by omega)
  have a9 : Int32.ofNat L + 1 = Int32.ofNat (L + 1) := i3_s L
  have a10 : Int32.ofNat J + 1 = Int32.ofNat (J + 1) := i3_s J
  refine za_T.of (za_g.of (n := [(), (), (), (), (), (), (), (), (), (), (), (), (), (), (), (), (), (), (), (), (), (), (), (), (), (), (), (), (), (), (), (), (), (), (), (), (), (), (), (), (), (), (), (), (), (), (), (), (), (), (), (), (), (), (), (), (), (), (), ()]) ?_)
  simp only [Option.map_some, Option.getD_some, Option.isSome_some, za_N.ite, za_N.go, za_N.rt, za_N.cl, za_g.nil, za_g.cons, za_K.go, za_K.ite, za_K.rt, za_K.cl, za_p1r, za_oi, za_ol, za_or, za_ov, za_ai, za_al, za_aq, za_ar, za_ob, za_if, za_ix, za_jp, za_br, za_cv, za_cs, za_ci, za_ld, za_s1, za_s2, za_aw, za_nk, zy_iconst, zy_bipush, zy_sipush, zy_lconst, zy_null, zy_ldc, zy_ldc2, zy_iload_n, zy_iload, zy_lload_n, zy_lload, zy_aload_n, zy_aload, zy_istore_n, zy_istore, zy_lstore_n, zy_lstore, zy_astore_n, zy_iinc, zy_iadd, zy_isub, zy_imul, zy_iand, zy_ior, zy_ixor, zy_ishl, zy_ishr, zy_iushr, zy_idiv, zy_irem, zy_ladd, zy_land, zy_lor, zy_ldiv, zy_lshl, zy_lshr, zy_lushr, zy_lcmp, zy_i2l, zy_l2i, zy_i2b, zy_dup, zy_pop, zy_dup2, zy_goto, zy_if_eq, zy_icmp_eq, zy_if_ne, zy_icmp_ne, zy_if_lt, zy_icmp_lt, zy_if_ge, zy_icmp_ge, zy_if_gt, zy_icmp_gt, zy_if_le, zy_icmp_le, zy_tsw, zy_getf, zy_putf, zy_alen, zy_iald, zy_bald, zy_lald, zy_aald, zy_iast, zy_bast, zy_last, zy_aast, zy_new, zy_newa, zy_newq, zy_newm, zy_invv, zy_iret, zy_lret, zy_vret, zy_athrow, za_K.no, za_N.no, zz_fi, zz_fl, zz_fo, zz_fa, zz_ni, zz_nfw, zz_t0, zz_t1, zz_os, zz_on, zz_itf, zz_ft, zz_nb0, zz_nb1, zz_f3, zz_e2, zz_e4, zz_e8, zz_e16, zz_e50, za_up.up, implies_true, true_or, or_true, or_false, false_or, or_self, Int32.reduceLT, Int32.reduceLE, not_true_eq_false, Int32.reduceToNatClampNeg, Int32.reduceOfInt, Int8.reduceOfInt, Int16.reduceOfInt, Nat.reduceLT, Bool.false_eq_true, false_implies, if_false_left, List.find?_cons, List.filter_cons, List.filter_nil, List.drop_succ_cons, List.drop_zero, List.take_succ_cons, List.take_zero, List.reverse_cons, List.reverse_nil, List.nil_append, List.cons_append, List.map_cons, List.map_nil, List.sum_cons, List.sum_nil, Value.category, lv_args, Nat.reduceAdd, Nat.reduceEqDiff, Nat.reduceBEq, Nat.reduceLeDiff, BEq.rfl, beq_self_eq_true, Nat.beq_eq_true_eq, Bool.not_true, Bool.not_false, Bool.and_true, Bool.and_false, Bool.true_and, Bool.false_and, Bool.and_self, if_true, if_false, ↓reduceIte, List.getElem?_cons_zero, List.getElem?_cons_succ, Fin.isValue, Fin.val_zero, Fin.val_one, Fin.val_two, Nat.zero_add, Int.reduceAdd, Int.reduceNeg, Int.reduceToNat, Int.reduceLE, Int.cast_ofNat_Int, eq_self, and_self, and_true, true_and, not_false_eq_true, List.length_cons, List.length_nil, List.set_cons_zero, List.set_cons_succ, ite_true, ite_false, zow_88, zmx_88, zre_88, zfr_88, f_88_0, f_88_1, zf_9_96, f_88_4, f_88_5, f_88_8, f_88_9, f_88_12, f_88_13, f_88_14, f_88_15, zf_9_99, f_88_18, f_88_19, zf_9_102, f_88_22, f_88_25, f_88_26, f_88_29, f_88_30, f_88_31, f_88_32, f_88_35, f_88_36, f_88_39, f_88_40, zf_9_23, f_88_43, f_88_44, zf_9_20, f_88_47, f_88_48, f_88_51, f_88_52, f_88_53, f_88_54, f_88_57, f_88_58, f_88_61, f_88_62, f_88_65, f_88_66, f_88_67, f_88_70, f_88_71, f_88_72, zl_9_6, f_88_75, f_88_76, f_88_79, f_88_80, f_88_83, f_88_84, f_88_85, f_88_86, f_88_87, f_88_88, f_88_91, f_88_92, f_88_93, f_88_96, f_88_97, f_88_98, zl_9_7, f_88_101, f_88_102, f_88_105, f_88_106, f_88_107, f_88_108, f_88_109, h1, h2, h3, e1, e2, i3_10, a1, a2, a3, a4, a5, a6, a7, a8, za_up.at]
  by_cases c1 : X ≤ L
  · rw [if_pos c1]
    by_cases c2 : M ≤ J
    · rw [if_pos c2]
      exact g0 c1 c2
    · rw [if_neg c2, a10]
      exact gJ (by omega) (Or.inl c1)
  · rw [if_neg c1]
    obtain ⟨b1, b2⟩ := hg L (by omega)
    have b3 : (Int32.ofNat (g L)).toNatClampNeg = g L := i3_n (by omega)
    have b4 : ¬ Int32.ofNat (g L) < 0 := i3_z0 (by omega)
    by_cases c2 : M ≤ J
    · rw [if_pos c2, a9, b1]
      exact ⟨by omega, gL (by omega) (Or.inl c2)⟩
    · rw [if_neg c2, a9, a10, b1, b3]
      refine ⟨by omega, fun h => h.elim b4 (by omega), by omega, ?_⟩
      by_cases c3 : fW J < fW (g L)
      · rw [if_pos c3]
        exact gJ (by omega) (Or.inr c3)
      · rw [if_neg c3]
        exact ⟨by omega, gL (by omega) (Or.inr c3)⟩
