set_option maxHeartbeats 4000000 in
set_option maxRecDepth 100000 in
theorem h9_put_3 {d : Nat} {Th : mT} {Q : mM → Prop} {a0 : Nat} {x1 : Int32} {x2 : Int32} {M : mM} (h : if x2 < 0 then (Q M) else (Th.2.2 a0 = some (.inl 9) ∧ (if ((M).1 a0 1) < 0 then (H9_put_3 (d + 1) Th Q a0 x1 (x2 + (-8)) M) else (∃ r2 : Nat, M.2.2 a0 0 = some r2 ∧ (∃ (ty : FieldType) (fz : Bool) (n4 : Nat), Th.2.2 r2 = some (.inr (ty, fz, n4)) ∧ (if (nI n4) ≤ ((M).1 a0 1) then (H9_put_3 (d + 1) Th Q a0 x1 (x2 + (-8)) M) else (m_okw Th r2 .int (((M).1 a0 1)) ∧ (∀ M7 : mM, M7 = m_ui M r2 (Int32.toNatClampNeg (((M).1 a0 1))) ((((x1).toUInt32 >>> ((x2 : Int32).toUInt32 &&& Int32.toUInt32 31)).toInt32 &&& 255)) → H9_put_3 (d + 1) Th Q a0 x1 (x2 + (-8)) (m_ui M7 a0 1 ((((M7).1 a0 1) + 1))))))))))) : H9_put_3 (d + 1) Th Q a0 x1 x2 M := by
  show m_W (d + 1) 0 0 yX9_put cX9_put 3 none (m_qv Th Q) 3 [(0, .ref a0), (1, .int x1), (2, .int x2)] [] Th M 0 0
  refine m_iload_n dX9_put_3 rfl 2 rfl ?_
  refine m_if_lt (tgt := 58) dX9_put_4 (by decide) (fun c1 => ?_) (fun c1 => ?_)
  · rw [if_pos c1] at h
    exact m_return dX9_put_58 rfl ⟨rfl, rfl, h⟩
  · rw [if_neg c1] at h
    refine m_aload_n dX9_put_7 rfl 0 rfl ?_
    obtain ⟨q1, h⟩ := h
    refine m_geti f_X9_15 rfl dX9_put_8 q1 ?_
    refine m_if_lt (tgt := 52) dX9_put_11 (by decide) (fun c1 => ?_) (fun c1 => ?_)
    · rw [if_pos c1] at h
      refine m_iinc (v := x2 + (-8)) (lv' := [(2, .int (x2 + (-8))), (0, .ref a0), (1, .int x1)]) dX9_put_52 2 rfl rfl (by decide) rfl ?_
      refine m_goto (tgt := 3) dX9_put_55 (by decide) ?_
      exact m_sub [1, 2, 0] rfl h
    · rw [if_neg c1] at h
      refine m_aload_n dX9_put_14 rfl 0 rfl ?_
      refine m_geti f_X9_15 rfl dX9_put_15 q1 ?_
      refine m_aload_n dX9_put_18 rfl 0 rfl ?_
      obtain ⟨r2, q3, h⟩ := h
      refine m_getr f_X9_9 rfl dX9_put_19 q1 q3 ?_
      obtain ⟨_, _, n4, q5, h⟩ := h
      refine m_alen dX9_put_22 q5 ?_
      refine m_icmp_ge (tgt := 52) dX9_put_23 (by decide) (fun c1 => ?_) (fun c1 => ?_)
      · rw [if_pos c1] at h
        refine m_iinc (v := x2 + (-8)) (lv' := [(2, .int (x2 + (-8))), (0, .ref a0), (1, .int x1)]) dX9_put_52 2 rfl rfl (by decide) rfl ?_
        refine m_goto (tgt := 3) dX9_put_55 (by decide) ?_
        exact m_sub [1, 2, 0] rfl h
      · rw [if_neg c1] at h
        refine m_aload_n dX9_put_26 rfl 0 rfl ?_
        refine m_getr f_X9_9 rfl dX9_put_27 q1 q3 ?_
        refine m_aload_n dX9_put_30 rfl 0 rfl ?_
        refine m_geti f_X9_15 rfl dX9_put_31 q1 ?_
        refine m_iload_n dX9_put_34 rfl 1 rfl ?_
        refine m_iload_n dX9_put_35 rfl 2 rfl ?_
        refine m_iushr dX9_put_36 ?_
        refine m_sipush (v := 255) dX9_put_37 (by decide) ?_
        refine m_iand dX9_put_40 ?_
        obtain ⟨q6, h⟩ := h
        refine m_iast dX9_put_41 q6 ?_
        refine m_aload_n dX9_put_42 rfl 0 rfl ?_
        refine m_dup dX9_put_43 rfl ?_
        obtain ⟨M7, e_M7⟩ : ∃ M7 : mM, M7 = m_ui M r2 (Int32.toNatClampNeg (((M).1 a0 1))) ((((x1).toUInt32 >>> ((x2 : Int32).toUInt32 &&& Int32.toUInt32 31)).toInt32 &&& 255)) := ⟨_, rfl⟩
        have h := h M7 e_M7
        rw [← e_M7]
        refine m_geti f_X9_15 rfl dX9_put_44 q1 ?_
        refine m_iconst (v := 1) dX9_put_47 (by decide) ?_
        refine m_iadd dX9_put_48 ?_
        refine m_puti f_X9_15 rfl (Or.inl rfl) dX9_put_49 q1 ⟨rfl, rfl⟩ ?_
        refine m_iinc (v := x2 + (-8)) (lv' := [(2, .int (x2 + (-8))), (0, .ref a0), (1, .int x1)]) dX9_put_52 2 rfl rfl (by decide) rfl ?_
        refine m_goto (tgt := 3) dX9_put_55 (by decide) ?_
        exact m_sub [1, 2, 0] rfl h
set_option maxHeartbeats 4000000 in
set_option maxRecDepth 100000 in
theorem e9_put {d : Nat} {Th : mT} {Q : mM → Prop} {a0 : Nat} {x1 : Int32} {M : mM} (h : H9_put_3 (d + 1) Th Q a0 x1 24 M) : P9_put (d + 1) Th a0 x1 M Q := by
  refine m_C.of (by decide +kernel) (Nat.le_of_ble_eq_true rfl) ?_
  show m_W (d + 1) 0 0 yX9_put cX9_put 3 none (m_qv Th Q) 0 [(0, .ref a0), (1, .int x1)] [] Th M 0 0
  refine m_bipush (v := 24) dX9_put_0 (by decide) ?_
  refine m_istore_n (lv' := [(2, .int 24), (0, .ref a0), (1, .int x1)]) dX9_put_2 rfl (by decide) rfl ?_
  exact m_sub [1, 2, 0] rfl h
set_option maxHeartbeats 4000000 in
set_option maxRecDepth 100000 in
theorem e9_byteAt {d : Nat} {Th : mT} {Q : Int32 → mM → Prop} {a0 : Nat} {x1 : Int32} {M : mM} (h : if x1 < 0 then (Q (-1) M) else (Th.2.2 a0 = some (.inl 9) ∧ (if ((M).1 a0 1) ≤ x1 then (Q (-1) M) else (∃ r2 : Nat, M.2.2 a0 0 = some r2 ∧ (∃ (ty : FieldType) (fz : Bool) (n4 : Nat), Th.2.2 r2 = some (.inr (ty, fz, n4)) ∧ (if (nI n4) ≤ x1 then (Q (-1) M) else (m_ok Th r2 .int x1 ∧ (Q (((M).1 r2 (Int32.toNatClampNeg x1))) M)))))))) : P9_byteAt (d + 1) Th a0 x1 M Q := by
  refine m_C.of (by decide +kernel) (Nat.le_of_ble_eq_true rfl) ?_
  show m_W (d + 1) 0 0 yX9_byteAt cX9_byteAt 2 (some .int) (m_qi Th Q) 0 [(0, .ref a0), (1, .int x1)] [] Th M 0 0
  refine m_iload_n dX9_byteAt_0 rfl 1 rfl ?_
  refine m_if_lt (tgt := 30) dX9_byteAt_1 (by decide) (fun c1 => ?_) (fun c1 => ?_)
  · rw [if_pos c1] at h
    refine m_iconst (v := (-1)) dX9_byteAt_30 (by decide) ?_
    exact m_ireturn dX9_byteAt_31 rfl rfl ⟨rfl, _, rfl, h⟩
  · rw [if_neg c1] at h
    refine m_iload_n dX9_byteAt_4 rfl 1 rfl ?_
    refine m_aload_n dX9_byteAt_5 rfl 0 rfl ?_
    obtain ⟨q1, h⟩ := h
    refine m_geti f_X9_15 rfl dX9_byteAt_6 q1 ?_
    refine m_icmp_ge (tgt := 30) dX9_byteAt_9 (by decide) (fun c1 => ?_) (fun c1 => ?_)
    · rw [if_pos c1] at h
      refine m_iconst (v := (-1)) dX9_byteAt_30 (by decide) ?_
      exact m_ireturn dX9_byteAt_31 rfl rfl ⟨rfl, _, rfl, h⟩
    · rw [if_neg c1] at h
      refine m_iload_n dX9_byteAt_12 rfl 1 rfl ?_
      refine m_aload_n dX9_byteAt_13 rfl 0 rfl ?_
      obtain ⟨r2, q3, h⟩ := h
      refine m_getr f_X9_9 rfl dX9_byteAt_14 q1 q3 ?_
      obtain ⟨_, _, n4, q5, h⟩ := h
      refine m_alen dX9_byteAt_17 q5 ?_
      refine m_icmp_ge (tgt := 30) dX9_byteAt_18 (by decide) (fun c1 => ?_) (fun c1 => ?_)
      · rw [if_pos c1] at h
        refine m_iconst (v := (-1)) dX9_byteAt_30 (by decide) ?_
        exact m_ireturn dX9_byteAt_31 rfl rfl ⟨rfl, _, rfl, h⟩
      · rw [if_neg c1] at h
        refine m_aload_n dX9_byteAt_21 rfl 0 rfl ?_
        refine m_getr f_X9_9 rfl dX9_byteAt_22 q1 q3 ?_
        refine m_iload_n dX9_byteAt_25 rfl 1 rfl ?_
        obtain ⟨q6, h⟩ := h
        refine m_iald dX9_byteAt_26 q6 ?_
        refine m_goto (tgt := 31) dX9_byteAt_27 (by decide) ?_
        exact m_ireturn dX9_byteAt_31 rfl rfl ⟨rfl, _, rfl, h⟩
set_option maxHeartbeats 4000000 in
set_option maxRecDepth 100000 in
theorem h9_numberAt_4 {d : Nat} {Th : mT} {Q : Int32 → mM → Prop} {a0 : Nat} {x1 : Int32} {x2 : Int32} {x3 : Int32} {M : mM} (h : if 4 ≤ x3 then (Q x2 M) else (Th.2.2 a0 = some (.inl 9) ∧ (P9_byteAt d Th a0 (((4 * x1) + x3)) M (fun (v2 : Int32) (M1 : mM) => ∀ xv4 : Int32, xv4 = ((x2 <<< (8 &&& 31)) ||| (v2 &&& 255)) → H9_numberAt_4 (d + 1) Th Q a0 x1 xv4 (x3 + 1) M1)))) : H9_numberAt_4 (d + 1) Th Q a0 x1 x2 x3 M := by
  show m_W (d + 1) 0 0 yX9_numberAt cX9_numberAt 4 (some .int) (m_qi Th Q) 4 [(0, .ref a0), (1, .int x1), (2, .int x2), (3, .int x3)] [] Th M 0 0
  refine m_iload_n dX9_numberAt_4 rfl 3 rfl ?_
  refine m_iconst (v := 4) dX9_numberAt_5 (by decide) ?_
  refine m_icmp_ge (tgt := 34) dX9_numberAt_6 (by decide) (fun c1 => ?_) (fun c1 => ?_)
  · rw [if_pos c1] at h
    refine m_iload_n dX9_numberAt_34 rfl 2 rfl ?_
    exact m_ireturn dX9_numberAt_35 rfl rfl ⟨rfl, _, rfl, h⟩
  · rw [if_neg c1] at h
    refine m_iload_n dX9_numberAt_9 rfl 2 rfl ?_
    refine m_bipush (v := 8) dX9_numberAt_10 (by decide) ?_
    refine m_ishl dX9_numberAt_12 ?_
    refine m_aload_n dX9_numberAt_13 rfl 0 rfl ?_
    refine m_iconst (v := 4) dX9_numberAt_14 (by decide) ?_
    refine m_iload_n dX9_numberAt_15 rfl 1 rfl ?_
    refine m_imul dX9_numberAt_16 ?_
    refine m_iload_n dX9_numberAt_17 rfl 3 rfl ?_
    refine m_iadd dX9_numberAt_18 ?_
    obtain ⟨q3, h⟩ := h
    refine m_invV (ci := 9) (As := [.int (((4 * x1) + x3))]) (d' := d) (mc' := 0) (ms' := 0) (rest := [.int ((x2 <<< (8 &&& 31)))]) i_9_byteAt v_9_byteAt t_9_byteAt l_X9_19 ⟨_, _, rfl⟩ dX9_numberAt_19 rfl rfl q3 (Nat.le_of_ble_eq_true rfl) (Nat.le_refl _) ⟨Nat.le_refl _, Nat.le_refl _⟩ (m_Ci h (fun v2 M1 h => ?_))
    show m_W (d + 1) 0 0 yX9_numberAt cX9_numberAt 4 (some .int) (m_qi Th Q) 22 [(0, .ref a0), (1, .int x1), (2, .int x2), (3, .int x3)] [.int v2, .int ((x2 <<< (8 &&& 31)))] Th M1 0 0
    refine m_sipush (v := 255) dX9_numberAt_22 (by decide) ?_
    refine m_iand dX9_numberAt_25 ?_
    refine m_ior dX9_numberAt_26 ?_
    obtain ⟨xv4, e_xv4⟩ : ∃ xv4 : Int32, xv4 = ((x2 <<< (8 &&& 31)) ||| (v2 &&& 255)) := ⟨_, rfl⟩
    have h := h xv4 e_xv4
    rw [← e_xv4]
    refine m_istore_n (lv' := [(2, .int xv4), (0, .ref a0), (1, .int x1), (3, .int x3)]) dX9_numberAt_27 rfl (by decide) rfl ?_
    refine m_iinc (v := x3 + 1) (lv' := [(3, .int (x3 + 1)), (2, .int xv4), (0, .ref a0), (1, .int x1)]) dX9_numberAt_28 3 rfl rfl (by decide) rfl ?_
    refine m_goto (tgt := 4) dX9_numberAt_31 (by decide) ?_
    exact m_sub [2, 3, 1, 0] rfl h
set_option maxHeartbeats 4000000 in
set_option maxRecDepth 100000 in
theorem e9_numberAt {d : Nat} {Th : mT} {Q : Int32 → mM → Prop} {a0 : Nat} {x1 : Int32} {M : mM} (h : H9_numberAt_4 (d + 1) Th Q a0 x1 0 0 M) : P9_numberAt (d + 1) Th a0 x1 M Q := by
  refine m_C.of (by decide +kernel) (Nat.le_of_ble_eq_true rfl) ?_
  show m_W (d + 1) 0 0 yX9_numberAt cX9_numberAt 4 (some .int) (m_qi Th Q) 0 [(0, .ref a0), (1, .int x1)] [] Th M 0 0
  refine m_iconst (v := 0) dX9_numberAt_0 (by decide) ?_
  refine m_istore_n (lv' := [(2, .int 0), (0, .ref a0), (1, .int x1)]) dX9_numberAt_1 rfl (by decide) rfl ?_
  refine m_iconst (v := 0) dX9_numberAt_2 (by decide) ?_
  refine m_istore_n (lv' := [(3, .int 0), (2, .int 0), (0, .ref a0), (1, .int x1)]) dX9_numberAt_3 rfl (by decide) rfl ?_
  exact m_sub [2, 3, 1, 0] rfl h
set_option maxHeartbeats 4000000 in
set_option maxRecDepth 100000 in
theorem e9_drop {d : Nat} {Th : mT} {Q : mM → Prop} {a0 : Nat} {M : mM} (h : Th.2.2 a0 = some (.inl 9) ∧ (Q (m_ui M a0 1 0))) : P9_drop (d + 1) Th a0 M Q := by
  refine m_C.of (by decide +kernel) (Nat.le_of_ble_eq_true rfl) ?_
  show m_W (d + 1) 0 0 yX9_drop cX9_drop 1 none (m_qv Th Q) 0 [(0, .ref a0)] [] Th M 0 0
  refine m_aload_n dX9_drop_0 rfl 0 rfl ?_
  refine m_iconst (v := 0) dX9_drop_1 (by decide) ?_
  obtain ⟨q1, h⟩ := h
  refine m_puti f_X9_15 rfl (Or.inl rfl) dX9_drop_2 q1 ⟨rfl, rfl⟩ ?_
  exact m_return dX9_drop_5 rfl ⟨rfl, rfl, h⟩
