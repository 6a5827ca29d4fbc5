/-! the class's own methods: texts, events -/
theorem putf_td (I F : zI) : putf 17 (((getC 17 I F).1, (-1, cli (getC 17 I F), cwa (getC 17 I F), cmd (getC 17 I F), cmp (getC 17 I F))) : zC).2 F = zu2 F 17 1 (-1) := by
  funext q j
  unfold putf zu2 va_up upd getC cli cwa cmd cmp
  by_cases h : q = 17
  · subst h
    simp only [if_true]
    by_cases h1 : j = 1
    · simp [h1]
    · by_cases h2 : j = 2
      · simp [h2]
      · by_cases h3 : j = 3
        · simp [h3]
        · by_cases h4 : j = 4
          · simp [h4]
          · by_cases h5 : j = 5
            · simp [h5]
            · simp [h1, h2, h3, h4, h5]
  · simp [h]
theorem sl_restart0 {I F : zI} : sp_restart [.ref 17] zSH 77 I F = (True, none, zSH, 77, I, zu2 F 17 1 (-1)) := by
  rw [sl_restart, putf_td]
  show (_, none, zSH, 77, putC 17 (getC 17 I F).1 I, zu2 F 17 1 (-1)) = _
  rw [putC_get]
  simp
def x_forg (F : zI) : zI := zu2 (zu2 F 17 1 (-1)) 0 5 1
theorem g_forg {E : zE} {k : Nat} {Post : zPo} {I F : zI}  (h : True) (hp : Post (none) zSH 77 (I) (x_forg F)) : zG E 5 cX5_forgetCourses 1 none false 0 0 (k + 1) 0 0 Post 0 [some (.ref 0)] [] zSH 77 I F 0 0 := by
  refine zgo1 (S := [(2, 0, 0, sp_restart)]) 80 [] (List.forall_mem_cons.mpr ⟨v_restart E k, fun _ h => absurd h List.not_mem_nil⟩) ?_
  simp only [zk_m9_m1, zk_m9_0, zk_m9_1, zk_m9_2, zk_m9_3, zk_m9_4, zk_m1_m9, zk_m1_0, zk_m1_1, zk_m1_2, zk_m1_3, zk_m1_4, zk_0_m9, zk_0_m1, zk_0_1, zk_0_2, zk_0_3, zk_0_4, zk_1_m9, zk_1_m1, zk_1_0, zk_1_2, zk_1_3, zk_1_4, zk_2_m9, zk_2_m1, zk_2_0, zk_2_1, zk_2_3, zk_2_4, zk_3_m9, zk_3_m1, zk_3_0, zk_3_1, zk_3_2, zk_3_4, zk_4_m9, zk_4_m1, zk_4_0, zk_4_1, zk_4_2, zk_4_3, List.mem_cons, List.not_mem_nil, or_false, or_self, false_or, true_or, or_true, true_and, and_true, and_self, not_false_eq_true, not_true_eq_false, List.length_cons, List.length_nil, zpok, Bool.false_eq_true, Bool.true_eq_false, reduceCtorEq, Option.some.injEq, Nat.reduceAdd, Nat.reduceSub, Nat.reduceMul, Nat.reduceDiv, Nat.reduceLT, Nat.reduceLeDiff, Nat.reduceEqDiff, ↓reduceIte, Nat.zero_add, Nat.add_zero, Nat.le_refl, Nat.zero_le, Nat.zero_lt_succ, eq_self, ne_eq, Nat.succ_ne_zero, Nat.zero_ne_one, Nat.one_ne_zero, zu_ne, zu_eq, pk_us, Classical.not_not, zif, zx_iconst, zx_bipush, zx_sipush, zx_lconst0, zx_lconst1, zx_ldc, zx_ldcw, zx_ldc2, zx_iload, zx_istore, zx_iload0, zx_istore0, zx_iload1, zx_istore1, zx_iload2, zx_istore2, zx_iload3, zx_istore3, zx_lload, zx_lstore, zx_lload0, zx_lstore0, zx_lload1, zx_lstore1, zx_lload2, zx_lstore2, zx_lload3, zx_lstore3, zx_aload, zx_astore, zx_aload0, zx_astore0, zx_aload1, zx_astore1, zx_aload2, zx_astore2, zx_aload3, zx_astore3, zx_iinc, zx_iadd, zx_isub, zx_imul, zx_iand, zx_ior, zx_ixor, zx_ishl, zx_ishr, zx_iushr, zx_ladd, zx_lsub, zx_lmul, zx_land, zx_idiv, zx_irem, zx_ldiv, zx_lrem, zx_lshl, zx_lshr, zx_lcmp, zx_i2l, zx_i2b, zx_i2s, zx_pop_int, zx_dup_int, zx_pop_ref, zx_dup_ref, zx_dup2, zx_goto, zx_if_eq, zx_if_ne, zx_if_lt, zx_if_ge, zx_if_gt, zx_if_le, zx_icmp_eq, zx_icmp_ne, zx_icmp_lt, zx_icmp_ge, zx_icmp_gt, zx_icmp_le, zx_ireturn, zx_lreturn, zx_return, zx_getstatic, zx_getfield, zx_putfield, zx_putfieldR, zx_iaload, zx_iastore, zx_aaload, zx_arraylength, zx_invokevirtual, zx_invokestatic, zx_invokespecial, zx_newarray, zy_ldI, zy_ldL, zy_ldA, zy_kcI, zy_kcL, zy_inc, zy_gf2, zy_gf1, zy_pf2, zy_pf1, zy_pr2, zy_pr1, zy_ia1, zy_is1, zy_aa1, zy_ln1, zy_ca0, zy_ca1x, zy_rc1, zy_ca2, zy_rc2, zy_ca3, zy_rc3, zy_ca4, zy_rc4, zy_ca5, zy_rc5, zy_ca6, zy_rc6, zy_cal2, zy_cv1, zy_cs0, zy_cs5, zy_cs6, zy_cs7, zy_cs4, zy_cy1, zy_ci3, zy_ci2, zrun_s, zl_g0, zl_gs, zl_s0, zl_ss, zl_l0, zl_ls, zl_kn, zl_ki, zl_kr, zl_k0, zl_ks, zl_fn, zl_fr, zl_rs, zl_lk, zl_ct0, zl_cti, zl_ctr, zl_ctl, zl_tl0, zl_tl1, zl_sl0, zl_sli, zl_slr, zl_sll, zl_p0, zl_p1, zl_p2, zl_lkn, zn_im1, zn_i0, zn_i1, zn_i2, zn_i3, zn_i4, zn_i5, zn_i6, zn_bm10, zn_bm9, zn_bm4, zn_bm3, zn_bm2, zn_b6, zn_b7, zn_b8, zn_b9, zn_b10, zn_b12, zn_b16, zn_b17, zn_b18, zn_b20, zn_b23, zn_b24, zn_b25, zn_b31, zn_b32, zn_b48, zn_b49, zn_b55, zn_b57, zn_b59, zn_b60, zn_b63, zn_b64, zn_b96, zn_b97, zn_b99, zn_b104, zn_b109, zn_b120, zn_s192, zn_s240, zn_s256, zn_s999, zn_s12345, dX5_forgetCourses_0, dX5_forgetCourses_1, dX5_forgetCourses_4, dX5_forgetCourses_7, dX5_forgetCourses_8, dX5_forgetCourses_9, dX5_forgetCourses_12, zt_f5_30, zt_f5_41, zt_m5_375, zf_0_0, zf_0_1, zf_0_2, zf_0_3, zf_0_4, zf_0_5, zf_0_6, zf_0_7, zf_0_8, zf_0_9, zo_0, zr_1, zf_2_0, zf_2_1, zf_2_2, zf_2_3, zf_2_4, zo_2, zp_3, zq_3, zf_4_0, zf_4_1, zf_4_2, zf_4_3, zf_4_4, zo_4, zp_5, zq_5, zf_6_0, zf_6_1, zf_6_2, zf_6_3, zf_6_4, zo_6, zp_7, zq_7, zf_8_0, zf_8_1, zf_8_2, zf_8_3, zf_8_4, zf_8_5, zf_8_6, zf_8_7, zf_8_8, zf_8_9, zf_8_10, zf_8_11, zf_8_12, zo_8, zp_9, zq_9, zp_10, zq_10, zp_11, zq_11, zp_12, zq_12, zp_13, zq_13, zp_14, zq_14, zp_15, zq_15, zp_16, zq_16, zf_17_0, zf_17_1, zf_17_2, zf_17_3, zf_17_4, zf_17_5, zf_17_6, zf_17_7, zf_17_8, zf_17_9, zf_17_10, zf_17_11, zf_17_12, zf_17_13, zo_17, zp_18, zq_18, zp_19, zq_19, zp_20, zq_20, zp_21, zq_21, zp_22, zq_22, zp_23, zq_23, zp_24, zq_24, zp_25, zq_25, zf_26_0, zf_26_1, zf_26_2, zf_26_3, zf_26_4, zf_26_5, zf_26_6, zf_26_7, zf_26_8, zf_26_9, zf_26_10, zf_26_11, zf_26_12, zf_26_13, zo_26, zp_27, zq_27, zp_28, zq_28, zp_29, zq_29, zp_30, zq_30, zp_31, zq_31, zp_32, zq_32, zp_33, zq_33, zp_34, zq_34, zp_35, zq_35, zf_36_0, zf_36_1, zf_36_2, zf_36_3, zo_36, zp_37, zq_37, zp_38, zq_38, zp_39, zq_39, zp_40, zq_40, zr_41, zf_42_0, zf_42_1, zf_42_2, zo_42, zp_43, zq_43, zf_44_0, zf_44_1, zf_44_2, zo_44, zp_45, zq_45, zf_46_0, zf_46_1, zf_46_2, zo_46, zp_47, zq_47, zf_48_0, zf_48_1, zf_48_2, zo_48, zp_49, zq_49, zf_50_0, zf_50_1, zf_50_2, zf_50_3, zf_50_4, zf_50_5, zf_50_6, zf_50_7, zf_50_8, zf_50_9, zf_50_10, zf_50_11, zf_50_12, zf_50_13, zf_50_14, zf_50_15, zf_50_16, zf_50_17, zf_50_18, zf_50_19, zf_50_20, zf_50_21, zf_50_22, zf_50_23, zf_50_24, zf_50_25, zf_50_26, zf_50_27, zf_50_28, zf_50_29, zf_50_30, zf_50_31, zf_50_32, zf_50_33, zf_50_34, zf_50_35, zf_50_36, zo_50, zp_51, zq_51, zp_52, zq_52, zp_53, zq_53, zp_54, zq_54, zp_55, zq_55, zp_56, zq_56, zp_57, zq_57, zp_58, zq_58, zp_59, zq_59, zp_60, zq_60, zp_61, zq_61, zp_62, zq_62, zp_63, zq_63, zp_64, zq_64, zp_65, zq_65, zp_66, zq_66, zp_67, zq_67, zp_68, zq_68, zp_69, zq_69, zp_70, zq_70, zp_71, zq_71, zp_72, zq_72, zp_73, zq_73, zp_74, zq_74, zp_75, zq_75, zp_76, zq_76, zp_1000, zp_1001, sl_restart0]
  exact hp
noncomputable def sp_forg : zSp := fun as sh n I F => match as with
  | [.ref 0] => ((sh = zSH ∧ n = 77 ∧ (True)), none, sh, n, I, x_forg F)
  | _ => (False, none, sh, n, I, F)
theorem sl_forg  {I F : zI} : sp_forg [.ref 0] zSH 77 I F = (True, none, zSH, 77, I, x_forg F) := Prod.ext (propext ⟨fun h => h.2.2, fun h => ⟨rfl, rfl, h⟩⟩) rfl
theorem v_forg (E : zE) (k : Nat) : zV E (k + 2) 545 0 0 sp_forg := by
  intro as sh n I F h
  have ha : as = [.ref 0] := by
    unfold sp_forg at h
    split at h
    · exact rfl
    · exact h.elim
  obtain rfl := ha
  have h1 : sh = zSH := h.1
  have h2 : n = 77 := h.2.1
  subst h1
  subst h2
  have h : True := h.2.2
  exact zOk_of 5 cX5_forgetCourses 1 none zm_545 (by rw [zi_545]; rfl) (by rw [zi_545]) false (fun h => by cases h) (Nat.le_of_ble_eq_true rfl) (g_forg (k := k) h ⟨rfl, rfl, rfl, rfl, rfl⟩)
theorem g_found {E : zE} {k : Nat} {Post : zPo} {I F : zI} (x : Int32) (h : True) (hp : Post (some (.int (-10 - x))) zSH 77 (I) (zu2 F 0 9 x)) : zG E 5 cX5_found 2 (some .int) false 0 0 k 0 0 Post 0 [some (.ref 0), some (.int x)] [] zSH 77 I F 0 0 := by
  refine zgo1 (S := []) 80 [] (fun _ h => absurd h List.not_mem_nil) ?_
  simp only [zk_m9_m1, zk_m9_0, zk_m9_1, zk_m9_2, zk_m9_3, zk_m9_4, zk_m1_m9, zk_m1_0, zk_m1_1, zk_m1_2, zk_m1_3, zk_m1_4, zk_0_m9, zk_0_m1, zk_0_1, zk_0_2, zk_0_3, zk_0_4, zk_1_m9, zk_1_m1, zk_1_0, zk_1_2, zk_1_3, zk_1_4, zk_2_m9, zk_2_m1, zk_2_0, zk_2_1, zk_2_3, zk_2_4, zk_3_m9, zk_3_m1, zk_3_0, zk_3_1, zk_3_2, zk_3_4, zk_4_m9, zk_4_m1, zk_4_0, zk_4_1, zk_4_2, zk_4_3, List.mem_cons, List.not_mem_nil, or_false, or_self, false_or, true_or, or_true, true_and, and_true, and_self, not_false_eq_true, not_true_eq_false, List.length_cons, List.length_nil, zpok, Bool.false_eq_true, Bool.true_eq_false, reduceCtorEq, Option.some.injEq, Nat.reduceAdd, Nat.reduceSub, Nat.reduceMul, Nat.reduceDiv, Nat.reduceLT, Nat.reduceLeDiff, Nat.reduceEqDiff, ↓reduceIte, Nat.zero_add, Nat.add_zero, Nat.le_refl, Nat.zero_le, Nat.zero_lt_succ, eq_self, ne_eq, Nat.succ_ne_zero, Nat.zero_ne_one, Nat.one_ne_zero, zu_ne, zu_eq, pk_us, Classical.not_not, zif, zx_iconst, zx_bipush, zx_sipush, zx_lconst0, zx_lconst1, zx_ldc, zx_ldcw, zx_ldc2, zx_iload, zx_istore, zx_iload0, zx_istore0, zx_iload1, zx_istore1, zx_iload2, zx_istore2, zx_iload3, zx_istore3, zx_lload, zx_lstore, zx_lload0, zx_lstore0, zx_lload1, zx_lstore1, zx_lload2, zx_lstore2, zx_lload3, zx_lstore3, zx_aload, zx_astore, zx_aload0, zx_astore0, zx_aload1, zx_astore1, zx_aload2, zx_astore2, zx_aload3, zx_astore3, zx_iinc, zx_iadd, zx_isub, zx_imul, zx_iand, zx_ior, zx_ixor, zx_ishl, zx_ishr, zx_iushr, zx_ladd, zx_lsub, zx_lmul, zx_land, zx_idiv, zx_irem, zx_ldiv, zx_lrem, zx_lshl, zx_lshr, zx_lcmp, zx_i2l, zx_i2b, zx_i2s, zx_pop_int, zx_dup_int, zx_pop_ref, zx_dup_ref, zx_dup2, zx_goto, zx_if_eq, zx_if_ne, zx_if_lt, zx_if_ge, zx_if_gt, zx_if_le, zx_icmp_eq, zx_icmp_ne, zx_icmp_lt, zx_icmp_ge, zx_icmp_gt, zx_icmp_le, zx_ireturn, zx_lreturn, zx_return, zx_getstatic, zx_getfield, zx_putfield, zx_putfieldR, zx_iaload, zx_iastore, zx_aaload, zx_arraylength, zx_invokevirtual, zx_invokestatic, zx_invokespecial, zx_newarray, zy_ldI, zy_ldL, zy_ldA, zy_kcI, zy_kcL, zy_inc, zy_gf2, zy_gf1, zy_pf2, zy_pf1, zy_pr2, zy_pr1, zy_ia1, zy_is1, zy_aa1, zy_ln1, zy_ca0, zy_ca1x, zy_rc1, zy_ca2, zy_rc2, zy_ca3, zy_rc3, zy_ca4, zy_rc4, zy_ca5, zy_rc5, zy_ca6, zy_rc6, zy_cal2, zy_cv1, zy_cs0, zy_cs5, zy_cs6, zy_cs7, zy_cs4, zy_cy1, zy_ci3, zy_ci2, zrun_s, zl_g0, zl_gs, zl_s0, zl_ss, zl_l0, zl_ls, zl_kn, zl_ki, zl_kr, zl_k0, zl_ks, zl_fn, zl_fr, zl_rs, zl_lk, zl_ct0, zl_cti, zl_ctr, zl_ctl, zl_tl0, zl_tl1, zl_sl0, zl_sli, zl_slr, zl_sll, zl_p0, zl_p1, zl_p2, zl_lkn, zn_im1, zn_i0, zn_i1, zn_i2, zn_i3, zn_i4, zn_i5, zn_i6, zn_bm10, zn_bm9, zn_bm4, zn_bm3, zn_bm2, zn_b6, zn_b7, zn_b8, zn_b9, zn_b10, zn_b12, zn_b16, zn_b17, zn_b18, zn_b20, zn_b23, zn_b24, zn_b25, zn_b31, zn_b32, zn_b48, zn_b49, zn_b55, zn_b57, zn_b59, zn_b60, zn_b63, zn_b64, zn_b96, zn_b97, zn_b99, zn_b104, zn_b109, zn_b120, zn_s192, zn_s240, zn_s256, zn_s999, zn_s12345, dX5_found_0, dX5_found_1, dX5_found_2, dX5_found_5, dX5_found_7, dX5_found_8, dX5_found_9, zt_f5_62, zf_0_0, zf_0_1, zf_0_2, zf_0_3, zf_0_4, zf_0_5, zf_0_6, zf_0_7, zf_0_8, zf_0_9, zo_0, zr_1, zf_2_0, zf_2_1, zf_2_2, zf_2_3, zf_2_4, zo_2, zp_3, zq_3, zf_4_0, zf_4_1, zf_4_2, zf_4_3, zf_4_4, zo_4, zp_5, zq_5, zf_6_0, zf_6_1, zf_6_2, zf_6_3, zf_6_4, zo_6, zp_7, zq_7, zf_8_0, zf_8_1, zf_8_2, zf_8_3, zf_8_4, zf_8_5, zf_8_6, zf_8_7, zf_8_8, zf_8_9, zf_8_10, zf_8_11, zf_8_12, zo_8, zp_9, zq_9, zp_10, zq_10, zp_11, zq_11, zp_12, zq_12, zp_13, zq_13, zp_14, zq_14, zp_15, zq_15, zp_16, zq_16, zf_17_0, zf_17_1, zf_17_2, zf_17_3, zf_17_4, zf_17_5, zf_17_6, zf_17_7, zf_17_8, zf_17_9, zf_17_10, zf_17_11, zf_17_12, zf_17_13, zo_17, zp_18, zq_18, zp_19, zq_19, zp_20, zq_20, zp_21, zq_21, zp_22, zq_22, zp_23, zq_23, zp_24, zq_24, zp_25, zq_25, zf_26_0, zf_26_1, zf_26_2, zf_26_3, zf_26_4, zf_26_5, zf_26_6, zf_26_7, zf_26_8, zf_26_9, zf_26_10, zf_26_11, zf_26_12, zf_26_13, zo_26, zp_27, zq_27, zp_28, zq_28, zp_29, zq_29, zp_30, zq_30, zp_31, zq_31, zp_32, zq_32, zp_33, zq_33, zp_34, zq_34, zp_35, zq_35, zf_36_0, zf_36_1, zf_36_2, zf_36_3, zo_36, zp_37, zq_37, zp_38, zq_38, zp_39, zq_39, zp_40, zq_40, zr_41, zf_42_0, zf_42_1, zf_42_2, zo_42, zp_43, zq_43, zf_44_0, zf_44_1, zf_44_2, zo_44, zp_45, zq_45, zf_46_0, zf_46_1, zf_46_2, zo_46, zp_47, zq_47, zf_48_0, zf_48_1, zf_48_2, zo_48, zp_49, zq_49, zf_50_0, zf_50_1, zf_50_2, zf_50_3, zf_50_4, zf_50_5, zf_50_6, zf_50_7, zf_50_8, zf_50_9, zf_50_10, zf_50_11, zf_50_12, zf_50_13, zf_50_14, zf_50_15, zf_50_16, zf_50_17, zf_50_18, zf_50_19, zf_50_20, zf_50_21, zf_50_22, zf_50_23, zf_50_24, zf_50_25, zf_50_26, zf_50_27, zf_50_28, zf_50_29, zf_50_30, zf_50_31, zf_50_32, zf_50_33, zf_50_34, zf_50_35, zf_50_36, zo_50, zp_51, zq_51, zp_52, zq_52, zp_53, zq_53, zp_54, zq_54, zp_55, zq_55, zp_56, zq_56, zp_57, zq_57, zp_58, zq_58, zp_59, zq_59, zp_60, zq_60, zp_61, zq_61, zp_62, zq_62, zp_63, zq_63, zp_64, zq_64, zp_65, zq_65, zp_66, zq_66, zp_67, zq_67, zp_68, zq_68, zp_69, zq_69, zp_70, zq_70, zp_71, zq_71, zp_72, zq_72, zp_73, zq_73, zp_74, zq_74, zp_75, zq_75, zp_76, zq_76, zp_1000, zp_1001]
  exact hp
noncomputable def sp_found : zSp := fun as sh n I F => match as with
  | [.ref 0, .int x] => ((sh = zSH ∧ n = 77 ∧ (True)), some (.int (-10 - x)), sh, n, I, zu2 F 0 9 x)
  | _ => (False, none, sh, n, I, F)
theorem sl_found (x : Int32) {I F : zI} : sp_found [.ref 0, .int x] zSH 77 I F = (True, some (.int (-10 - x)), zSH, 77, I, zu2 F 0 9 x) := Prod.ext (propext ⟨fun h => h.2.2, fun h => ⟨rfl, rfl, h⟩⟩) rfl
theorem v_found (E : zE) (k : Nat) : zV E (k + 1) 543 0 0 sp_found := by
  intro as sh n I F h
  have ha : ∃ x, as = [.ref 0, .int x] := by
    unfold sp_found at h
    split at h
    · exact ⟨_, rfl⟩
    · exact h.elim
  obtain ⟨x, rfl⟩ := ha
  have h1 : sh = zSH := h.1
  have h2 : n = 77 := h.2.1
  subst h1
  subst h2
  have h : True := h.2.2
  exact zOk_of 5 cX5_found 2 (some .int) zm_543 (by rw [zi_543]; rfl) (by rw [zi_543]) false (fun h => by cases h) (Nat.le_of_ble_eq_true rfl) (g_found (k := k) x h ⟨rfl, rfl, rfl, rfl, rfl⟩)
/-- what texts keep -/
def tok1 (t : Nat) (F : zI) : Prop := F t 0 = zkd t ∧ F t 1 = zsd t ∧ vp_in (F t 3) (zcap t + 1)
def tok (F : zI) : Prop := tok1 2 F ∧ tok1 4 F ∧ tok1 6 F
def x_tk (t : Nat) (I F : zI) : zI × zI := if t = 2 then (x_tpI ((p_sl 2 F + 1) / 3) I, zu2 F 8 0 (nI ((p_sl 2 F + 1) / 3))) else if t = 4 then (x_tqI ((p_sl 4 F + 1) / 4) I, zu2 F 8 3 (nI ((p_sl 4 F + 1) / 4))) else (va_up I 14 (p_rG 24 (p_sl 6 F) (I 7) (I 14)), F)
def z_tn (x : Int32) : Nat := 2 + 2 * x.toNatClampNeg
theorem vp_if {c : Prop} [Decidable c] {x : Int32} {n : Nat} (h : vp_in x n) (hn : 0 < n) : vp_in (if c then x else 0) n := by
  split
  · exact h
  · intro q
    rcases q with q | q
    · exact absurd q (by decide)
    · rw [show (0 : Int32).toNatClampNeg = 0 from rfl] at q
      omega
theorem vp3 {x : Int32} (h : vp_in x 3) : x = 0 ∨ x = 1 ∨ x = 2 := by
  obtain ⟨j, hj, rfl⟩ := vp_in_of h (by decide)
  match j, hj with
  | 0, _ => exact Or.inl rfl
  | 1, _ => exact Or.inr (Or.inl rfl)
  | 2, _ => exact Or.inr (Or.inr rfl)
theorem vp_iff {x : Int32} {n : Nat} (hn : n < 2 ^ 31) : (0 ≤ x ∧ x < nI n) = vp_in x n := by
  apply propext
  constructor
  · intro ⟨h1, h2⟩ q
    rcases q with q | q
    · exact absurd q (Int32.not_lt.mpr h1)
    · obtain ⟨j, hj, rfl⟩ := nI_of (Int32.not_lt.mpr h1)
      rw [nI_clamp hj] at q
      rw [nI_ltI hj hn] at h2
      omega
  · intro h
    obtain ⟨j, hj, rfl⟩ := vp_in_of h hn
    exact ⟨nI_pos' (by omega), nI_lt hj hn⟩
theorem g_takeIn {E : zE} {k : Nat} {Post : zPo} {I F : zI} (x : Int32) (h : vp_in x 3 ∧ tok F) (hp : Post (none) zSH 77 ((x_tk (z_tn x) I F).1) (x_forg (x_tk (z_tn x) I F).2)) : zG E 5 cX5_takeIn 2 none false 0 0 (k + 2) 0 0 Post 0 [some (.ref 0), some (.int x)] [] zSH 77 I F 0 0 := by
  obtain ⟨h1, ⟨⟨a1, a2, a3⟩, ⟨b1, b2, b3⟩, ⟨c1, c2, c3⟩⟩⟩ := h
  have g1 : F 2 1 = 3 := a2
  have g2 : vp_in (if F 2 4 = -1 then F 2 3 else 0) 24 := vp_if a3 (by decide)
  have g3 : F 4 1 = 4 := b2
  have g4 : vp_in (if F 4 4 = -1 then F 4 3 else 0) 32 := vp_if b3 (by decide)
  have g5 : vp_in (if F 6 4 = -1 then F 6 3 else 0) 25 := vp_if c3 (by decide)
  have j0 : vp_in 0 3 := vp_in_nI (n := 0) (by decide) (by decide)
  have j1 : vp_in 1 3 := vp_in_nI (n := 1) (by decide) (by decide)
  have j2 : vp_in 2 3 := vp_in_nI (n := 2) (by decide) (by decide)
  have d0 : ([some 2, some 4, some 6] : List (Option Nat)).getD (0 : Int32).toNatClampNeg none = some 2 := rfl
  have d1 : ([some 2, some 4, some 6] : List (Option Nat)).getD (1 : Int32).toNatClampNeg none = some 4 := rfl
  have d2 : ([some 2, some 4, some 6] : List (Option Nat)).getD (2 : Int32).toNatClampNeg none = some 6 := rfl
  rcases vp3 h1 with rfl | rfl | rfl
  all_goals
    refine zgo1 (S := [(102, 0, 0, sp_takePeople), (103, 0, 0, sp_takeQuarrels), (104, 0, 0, sp_takeGlass), (545, 0, 0, sp_forg)]) 80 [] (List.forall_mem_cons.mpr ⟨v_takePeople E k, List.forall_mem_cons.mpr ⟨v_takeQuarrels E k, List.forall_mem_cons.mpr ⟨v_takeGlass E k, List.forall_mem_cons.mpr ⟨v_forg E k, fun _ h => absurd h List.not_mem_nil⟩⟩⟩⟩) ?_
    simp only [zk_m9_m1, zk_m9_0, zk_m9_1, zk_m9_2, zk_m9_3, zk_m9_4, zk_m1_m9, zk_m1_0, zk_m1_1, zk_m1_2, zk_m1_3, zk_m1_4, zk_0_m9, zk_0_m1, zk_0_1, zk_0_2, zk_0_3, zk_0_4, zk_1_m9, zk_1_m1, zk_1_0, zk_1_2, zk_1_3, zk_1_4, zk_2_m9, zk_2_m1, zk_2_0, zk_2_1, zk_2_3, zk_2_4, zk_3_m9, zk_3_m1, zk_3_0, zk_3_1, zk_3_2, zk_3_4, zk_4_m9, zk_4_m1, zk_4_0, zk_4_1, zk_4_2, zk_4_3, List.mem_cons, List.not_mem_nil, or_false, or_self, false_or, true_or, or_true, true_and, and_true, and_self, not_false_eq_true, not_true_eq_false, List.length_cons, List.length_nil, zpok, Bool.false_eq_true, Bool.true_eq_false, reduceCtorEq, Option.some.injEq, Nat.reduceAdd, Nat.reduceSub, Nat.reduceMul, Nat.reduceDiv, Nat.reduceLT, Nat.reduceLeDiff, Nat.reduceEqDiff, ↓reduceIte, Nat.zero_add, Nat.add_zero, Nat.le_refl, Nat.zero_le, Nat.zero_lt_succ, eq_self, ne_eq, Nat.succ_ne_zero, Nat.zero_ne_one, Nat.one_ne_zero, zu_ne, zu_eq, pk_us, Classical.not_not, zif, zx_iconst, zx_bipush, zx_sipush, zx_lconst0, zx_lconst1, zx_ldc, zx_ldcw, zx_ldc2, zx_iload, zx_istore, zx_iload0, zx_istore0, zx_iload1, zx_istore1, zx_iload2, zx_istore2, zx_iload3, zx_istore3, zx_lload, zx_lstore, zx_lload0, zx_lstore0, zx_lload1, zx_lstore1, zx_lload2, zx_lstore2, zx_lload3, zx_lstore3, zx_aload, zx_astore, zx_aload0, zx_astore0, zx_aload1, zx_astore1, zx_aload2, zx_astore2, zx_aload3, zx_astore3, zx_iinc, zx_iadd, zx_isub, zx_imul, zx_iand, zx_ior, zx_ixor, zx_ishl, zx_ishr, zx_iushr, zx_ladd, zx_lsub, zx_lmul, zx_land, zx_idiv, zx_irem, zx_ldiv, zx_lrem, zx_lshl, zx_lshr, zx_lcmp, zx_i2l, zx_i2b, zx_i2s, zx_pop_int, zx_dup_int, zx_pop_ref, zx_dup_ref, zx_dup2, zx_goto, zx_if_eq, zx_if_ne, zx_if_lt, zx_if_ge, zx_if_gt, zx_if_le, zx_icmp_eq, zx_icmp_ne, zx_icmp_lt, zx_icmp_ge, zx_icmp_gt, zx_icmp_le, zx_ireturn, zx_lreturn, zx_return, zx_getstatic, zx_getfield, zx_putfield, zx_putfieldR, zx_iaload, zx_iastore, zx_aaload, zx_arraylength, zx_invokevirtual, zx_invokestatic, zx_invokespecial, zx_newarray, zy_ldI, zy_ldL, zy_ldA, zy_kcI, zy_kcL, zy_inc, zy_gf2, zy_gf1, zy_pf2, zy_pf1, zy_pr2, zy_pr1, zy_ia1, zy_is1, zy_aa1, zy_ln1, zy_ca0, zy_ca1x, zy_rc1, zy_ca2, zy_rc2, zy_ca3, zy_rc3, zy_ca4, zy_rc4, zy_ca5, zy_rc5, zy_ca6, zy_rc6, zy_cal2, zy_cv1, zy_cs0, zy_cs5, zy_cs6, zy_cs7, zy_cs4, zy_cy1, zy_ci3, zy_ci2, zrun_s, zl_g0, zl_gs, zl_s0, zl_ss, zl_l0, zl_ls, zl_kn, zl_ki, zl_kr, zl_k0, zl_ks, zl_fn, zl_fr, zl_rs, zl_lk, zl_ct0, zl_cti, zl_ctr, zl_ctl, zl_tl0, zl_tl1, zl_sl0, zl_sli, zl_slr, zl_sll, zl_p0, zl_p1, zl_p2, zl_lkn, zn_im1, zn_i0, zn_i1, zn_i2, zn_i3, zn_i4, zn_i5, zn_i6, zn_bm10, zn_bm9, zn_bm4, zn_bm3, zn_bm2, zn_b6, zn_b7, zn_b8, zn_b9, zn_b10, zn_b12, zn_b16, zn_b17, zn_b18, zn_b20, zn_b23, zn_b24, zn_b25, zn_b31, zn_b32, zn_b48, zn_b49, zn_b55, zn_b57, zn_b59, zn_b60, zn_b63, zn_b64, zn_b96, zn_b97, zn_b99, zn_b104, zn_b109, zn_b120, zn_s192, zn_s240, zn_s256, zn_s999, zn_s12345, dX5_takeIn_0, dX5_takeIn_1, dX5_takeIn_4, dX5_takeIn_5, dX5_takeIn_8, dX5_takeIn_9, dX5_takeIn_12, dX5_takeIn_13, dX5_takeIn_14, dX5_takeIn_17, dX5_takeIn_20, dX5_takeIn_21, dX5_takeIn_22, dX5_takeIn_25, dX5_takeIn_26, dX5_takeIn_29, dX5_takeIn_30, dX5_takeIn_33, dX5_takeIn_34, dX5_takeIn_35, dX5_takeIn_38, dX5_takeIn_41, dX5_takeIn_42, dX5_takeIn_45, dX5_takeIn_46, dX5_takeIn_49, dX5_takeIn_50, dX5_takeIn_51, dX5_takeIn_54, dX5_takeIn_55, dX5_takeIn_58, zja_17_37, zja_1_19, zja_22_19, zja_38_16, zjb_17_37, zjb_1_19, zjb_22_19, zjb_38_16, zt_f5_11, zt_f5_21, zt_m5_124, zt_m5_253, zt_m5_369, zt_m5_372, zf_0_0, zf_0_1, zf_0_2, zf_0_3, zf_0_4, zf_0_5, zf_0_6, zf_0_7, zf_0_8, zf_0_9, zo_0, zr_1, zf_2_0, zf_2_1, zf_2_2, zf_2_3, zf_2_4, zo_2, zp_3, zq_3, zf_4_0, zf_4_1, zf_4_2, zf_4_3, zf_4_4, zo_4, zp_5, zq_5, zf_6_0, zf_6_1, zf_6_2, zf_6_3, zf_6_4, zo_6, zp_7, zq_7, zf_8_0, zf_8_1, zf_8_2, zf_8_3, zf_8_4, zf_8_5, zf_8_6, zf_8_7, zf_8_8, zf_8_9, zf_8_10, zf_8_11, zf_8_12, zo_8, zp_9, zq_9, zp_10, zq_10, zp_11, zq_11, zp_12, zq_12, zp_13, zq_13, zp_14, zq_14, zp_15, zq_15, zp_16, zq_16, zf_17_0, zf_17_1, zf_17_2, zf_17_3, zf_17_4, zf_17_5, zf_17_6, zf_17_7, zf_17_8, zf_17_9, zf_17_10, zf_17_11, zf_17_12, zf_17_13, zo_17, zp_18, zq_18, zp_19, zq_19, zp_20, zq_20, zp_21, zq_21, zp_22, zq_22, zp_23, zq_23, zp_24, zq_24, zp_25, zq_25, zf_26_0, zf_26_1, zf_26_2, zf_26_3, zf_26_4, zf_26_5, zf_26_6, zf_26_7, zf_26_8, zf_26_9, zf_26_10, zf_26_11, zf_26_12, zf_26_13, zo_26, zp_27, zq_27, zp_28, zq_28, zp_29, zq_29, zp_30, zq_30, zp_31, zq_31, zp_32, zq_32, zp_33, zq_33, zp_34, zq_34, zp_35, zq_35, zf_36_0, zf_36_1, zf_36_2, zf_36_3, zo_36, zp_37, zq_37, zp_38, zq_38, zp_39, zq_39, zp_40, zq_40, zr_41, zf_42_0, zf_42_1, zf_42_2, zo_42, zp_43, zq_43, zf_44_0, zf_44_1, zf_44_2, zo_44, zp_45, zq_45, zf_46_0, zf_46_1, zf_46_2, zo_46, zp_47, zq_47, zf_48_0, zf_48_1, zf_48_2, zo_48, zp_49, zq_49, zf_50_0, zf_50_1, zf_50_2, zf_50_3, zf_50_4, zf_50_5, zf_50_6, zf_50_7, zf_50_8, zf_50_9, zf_50_10, zf_50_11, zf_50_12, zf_50_13, zf_50_14, zf_50_15, zf_50_16, zf_50_17, zf_50_18, zf_50_19, zf_50_20, zf_50_21, zf_50_22, zf_50_23, zf_50_24, zf_50_25, zf_50_26, zf_50_27, zf_50_28, zf_50_29, zf_50_30, zf_50_31, zf_50_32, zf_50_33, zf_50_34, zf_50_35, zf_50_36, zo_50, zp_51, zq_51, zp_52, zq_52, zp_53, zq_53, zp_54, zq_54, zp_55, zq_55, zp_56, zq_56, zp_57, zq_57, zp_58, zq_58, zp_59, zq_59, zp_60, zq_60, zp_61, zq_61, zp_62, zq_62, zp_63, zq_63, zp_64, zq_64, zp_65, zq_65, zp_66, zq_66, zp_67, zq_67, zp_68, zq_68, zp_69, zq_69, zp_70, zq_70, zp_71, zq_71, zp_72, zq_72, zp_73, zq_73, zp_74, zq_74, zp_75, zq_75, zp_76, zq_76, zp_1000, zp_1001, j0, j1, j2, d0, d1, d2, sl_takePeople, sl_takeQuarrels, sl_takeGlass, sl_forg, g1, g2, g3, g4, g5]
    exact hp
noncomputable def sp_takeIn : zSp := fun as sh n I F => match as with
  | [.ref 0, .int x] => ((sh = zSH ∧ n = 77 ∧ (vp_in x 3 ∧ tok F)), none, sh, n, (x_tk (z_tn x) I F).1, x_forg (x_tk (z_tn x) I F).2)
  | _ => (False, none, sh, n, I, F)
theorem sl_takeIn (x : Int32) {I F : zI} : sp_takeIn [.ref 0, .int x] zSH 77 I F = (vp_in x 3 ∧ tok F, none, zSH, 77, (x_tk (z_tn x) I F).1, x_forg (x_tk (z_tn x) I F).2) := Prod.ext (propext ⟨fun h => h.2.2, fun h => ⟨rfl, rfl, h⟩⟩) rfl
theorem v_takeIn (E : zE) (k : Nat) : zV E (k + 3) 544 0 0 sp_takeIn := by
  intro as sh n I F h
  have ha : ∃ x, as = [.ref 0, .int x] := by
    unfold sp_takeIn at h
    split at h
    · exact ⟨_, rfl⟩
    · exact h.elim
  obtain ⟨x, rfl⟩ := ha
  have h1 : sh = zSH := h.1
  have h2 : n = 77 := h.2.1
  subst h1
  subst h2
  have h : vp_in x 3 ∧ tok F := h.2.2
  exact zOk_of 5 cX5_takeIn 2 none zm_544 (by rw [zi_544]; rfl) (by rw [zi_544]) false (fun h => by cases h) (Nat.le_of_ble_eq_true rfl) (g_takeIn (k := k) x h ⟨rfl, rfl, rfl, rfl, rfl⟩)
