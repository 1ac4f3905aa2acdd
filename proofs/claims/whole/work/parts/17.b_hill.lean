set_option maxHeartbeats 4000000 in
set_option maxRecDepth 100000 in
theorem e2_addRiddle {d : Nat} {Th : mT} {Q : Int32 → mM → Prop} {a0 : Nat} {x1 : Int32} {x2 : Int32} {x3 : Int32} {M : mM} (h : Th.2.2 a0 = some (.inl 2) ∧ (if ((M).1 a0 0) < 0 then (Q (-1) M) else (if ((M).1 a0 0) < 5 then (∃ r2 : Nat, M.2.2 a0 7 = some r2 ∧ (m_okw Th r2 .int (((M).1 a0 0)) ∧ (∃ r5 : Nat, M.2.2 a0 8 = some r5 ∧ (∀ M7 : mM, M7 = m_ui M r2 (Int32.toNatClampNeg (((M).1 a0 0))) x1 → m_okw Th r5 .int ((((M7).1 a0 0) + 1)) ∧ (∃ r9 : Nat, M.2.2 a0 9 = some r9 ∧ (∀ M11 : mM, M11 = m_ui M7 r5 (Int32.toNatClampNeg ((((M7).1 a0 0) + 1))) x2 → m_okw Th r9 .int ((((M11).1 a0 0) + 1)) ∧ (∀ M13 : mM, M13 = m_ui M11 r9 (Int32.toNatClampNeg ((((M11).1 a0 0) + 1))) x3 → ∀ M14 : mM, M14 = m_ui M13 a0 0 ((((M13).1 a0 0) + 1)) → ∀ M15 : mM, M15 = m_ui M14 a0 4 ((((M14).1 a0 4) + 1)) → Q ((((M15).1 a0 0) - 1)) M15))))))) else (Q (-1) M)))) : P2_addRiddle (d + 1) Th a0 x1 x2 x3 M Q := by
  refine m_C.of (by decide +kernel) (Nat.le_of_ble_eq_true rfl) ?_
  show m_W (d + 1) 0 0 yX2_addRiddle cX2_addRiddle 4 (some .int) (m_qi Th Q) 0 [(0, .ref a0), (1, .int x1), (2, .int x2), (3, .int x3)] [] Th M 0 0
  refine m_aload_n dX2_addRiddle_0 rfl 0 rfl ?_
  obtain ⟨q1, h⟩ := h
  refine m_geti f_X2_48 rfl dX2_addRiddle_1 q1 ?_
  refine m_if_lt (tgt := 15) dX2_addRiddle_4 (by decide) (fun c1 => ?_) (fun c1 => ?_)
  · rw [if_pos c1] at h
    refine m_iconst (v := (-1)) dX2_addRiddle_15 (by decide) ?_
    exact m_ireturn dX2_addRiddle_16 rfl rfl ⟨rfl, _, rfl, h⟩
  · rw [if_neg c1] at h
    refine m_aload_n dX2_addRiddle_7 rfl 0 rfl ?_
    refine m_geti f_X2_48 rfl dX2_addRiddle_8 q1 ?_
    refine m_iconst (v := 5) dX2_addRiddle_11 (by decide) ?_
    refine m_icmp_lt (tgt := 17) dX2_addRiddle_12 (by decide) (fun c1 => ?_) (fun c1 => ?_)
    · rw [if_pos c1] at h
      refine m_aload_n dX2_addRiddle_17 rfl 0 rfl ?_
      obtain ⟨r2, q3, h⟩ := h
      refine m_getr f_X2_28 rfl dX2_addRiddle_18 q1 q3 ?_
      refine m_aload_n dX2_addRiddle_21 rfl 0 rfl ?_
      refine m_geti f_X2_48 rfl dX2_addRiddle_22 q1 ?_
      refine m_iload_n dX2_addRiddle_25 rfl 1 rfl ?_
      obtain ⟨q4, h⟩ := h
      refine m_iast dX2_addRiddle_26 q4 ?_
      refine m_aload_n dX2_addRiddle_27 rfl 0 rfl ?_
      obtain ⟨r5, q6, h⟩ := h
      refine m_getr f_X2_32 rfl dX2_addRiddle_28 q1 q6 ?_
      refine m_aload_n dX2_addRiddle_31 rfl 0 rfl ?_
      obtain ⟨M7, e_M7⟩ : ∃ M7 : mM, M7 = m_ui M r2 (Int32.toNatClampNeg (((M).1 a0 0))) x1 := ⟨_, rfl⟩
      have h := h M7 e_M7
      rw [← e_M7]
      refine m_geti f_X2_48 rfl dX2_addRiddle_32 q1 ?_
      refine m_iconst (v := 1) dX2_addRiddle_35 (by decide) ?_
      refine m_iadd dX2_addRiddle_36 ?_
      refine m_iload_n dX2_addRiddle_37 rfl 2 rfl ?_
      obtain ⟨q8, h⟩ := h
      refine m_iast dX2_addRiddle_38 q8 ?_
      refine m_aload_n dX2_addRiddle_39 rfl 0 rfl ?_
      obtain ⟨r9, q10, h⟩ := h
      refine m_getr f_X2_35 rfl dX2_addRiddle_40 q1 (by rw [e_M7]; exact q10) ?_
      refine m_aload_n dX2_addRiddle_43 rfl 0 rfl ?_
      obtain ⟨M11, e_M11⟩ : ∃ M11 : mM, M11 = m_ui M7 r5 (Int32.toNatClampNeg ((((M7).1 a0 0) + 1))) x2 := ⟨_, rfl⟩
      have h := h M11 e_M11
      rw [← e_M11]
      refine m_geti f_X2_48 rfl dX2_addRiddle_44 q1 ?_
      refine m_iconst (v := 1) dX2_addRiddle_47 (by decide) ?_
      refine m_iadd dX2_addRiddle_48 ?_
      refine m_iload_n dX2_addRiddle_49 rfl 3 rfl ?_
      obtain ⟨q12, h⟩ := h
      refine m_iast dX2_addRiddle_50 q12 ?_
      refine m_aload_n dX2_addRiddle_51 rfl 0 rfl ?_
      refine m_dup dX2_addRiddle_52 rfl ?_
      obtain ⟨M13, e_M13⟩ : ∃ M13 : mM, M13 = m_ui M11 r9 (Int32.toNatClampNeg ((((M11).1 a0 0) + 1))) x3 := ⟨_, rfl⟩
      have h := h M13 e_M13
      rw [← e_M13]
      refine m_geti f_X2_48 rfl dX2_addRiddle_53 q1 ?_
      refine m_iconst (v := 1) dX2_addRiddle_56 (by decide) ?_
      refine m_iadd dX2_addRiddle_57 ?_
      refine m_puti f_X2_48 rfl (Or.inl rfl) dX2_addRiddle_58 q1 ⟨rfl, rfl⟩ ?_
      refine m_aload_n dX2_addRiddle_61 rfl 0 rfl ?_
      refine m_dup dX2_addRiddle_62 rfl ?_
      obtain ⟨M14, e_M14⟩ : ∃ M14 : mM, M14 = m_ui M13 a0 0 ((((M13).1 a0 0) + 1)) := ⟨_, rfl⟩
      have h := h M14 e_M14
      rw [← e_M14]
      refine m_geti f_X2_51 rfl dX2_addRiddle_63 q1 ?_
      refine m_iconst (v := 1) dX2_addRiddle_66 (by decide) ?_
      refine m_iadd dX2_addRiddle_67 ?_
      refine m_puti f_X2_51 rfl (Or.inl rfl) dX2_addRiddle_68 q1 ⟨rfl, rfl⟩ ?_
      refine m_aload_n dX2_addRiddle_71 rfl 0 rfl ?_
      obtain ⟨M15, e_M15⟩ : ∃ M15 : mM, M15 = m_ui M14 a0 4 ((((M14).1 a0 4) + 1)) := ⟨_, rfl⟩
      have h := h M15 e_M15
      rw [← e_M15]
      refine m_geti f_X2_48 rfl dX2_addRiddle_72 q1 ?_
      refine m_iconst (v := 1) dX2_addRiddle_75 (by decide) ?_
      refine m_isub dX2_addRiddle_76 ?_
      exact m_ireturn dX2_addRiddle_77 rfl rfl ⟨rfl, _, rfl, h⟩
    · rw [if_neg c1] at h
      refine m_iconst (v := (-1)) dX2_addRiddle_15 (by decide) ?_
      exact m_ireturn dX2_addRiddle_16 rfl rfl ⟨rfl, _, rfl, h⟩
set_option maxHeartbeats 4000000 in
set_option maxRecDepth 100000 in
theorem e2_addBand {d : Nat} {Th : mT} {Q : Int32 → mM → Prop} {a0 : Nat} {x1 : Int32} {x2 : Int32} {x3 : Int32} {M : mM} (h : Th.2.2 a0 = some (.inl 2) ∧ (if ((M).1 a0 1) < 0 then (Q (-1) M) else (if ((M).1 a0 1) < 5 then (∃ r2 : Nat, M.2.2 a0 10 = some r2 ∧ (m_okw Th r2 .int (((M).1 a0 1)) ∧ (∃ r5 : Nat, M.2.2 a0 11 = some r5 ∧ (∀ M7 : mM, M7 = m_ui M r2 (Int32.toNatClampNeg (((M).1 a0 1))) x1 → m_okw Th r5 .int (((M7).1 a0 1)) ∧ (∃ r9 : Nat, M.2.2 a0 12 = some r9 ∧ (∀ M11 : mM, M11 = m_ui M7 r5 (Int32.toNatClampNeg (((M7).1 a0 1))) x2 → m_okw Th r9 .int (((M11).1 a0 1)) ∧ (∀ M13 : mM, M13 = m_ui M11 r9 (Int32.toNatClampNeg (((M11).1 a0 1))) x3 → ∀ M14 : mM, M14 = m_ui M13 a0 1 ((((M13).1 a0 1) + 1)) → ∀ M15 : mM, M15 = m_ui M14 a0 4 ((((M14).1 a0 4) + 1)) → Q ((((M15).1 a0 1) - 1)) M15))))))) else (Q (-1) M)))) : P2_addBand (d + 1) Th a0 x1 x2 x3 M Q := by
  refine m_C.of (by decide +kernel) (Nat.le_of_ble_eq_true rfl) ?_
  show m_W (d + 1) 0 0 yX2_addBand cX2_addBand 4 (some .int) (m_qi Th Q) 0 [(0, .ref a0), (1, .int x1), (2, .int x2), (3, .int x3)] [] Th M 0 0
  refine m_aload_n dX2_addBand_0 rfl 0 rfl ?_
  obtain ⟨q1, h⟩ := h
  refine m_geti f_X2_54 rfl dX2_addBand_1 q1 ?_
  refine m_if_lt (tgt := 15) dX2_addBand_4 (by decide) (fun c1 => ?_) (fun c1 => ?_)
  · rw [if_pos c1] at h
    refine m_iconst (v := (-1)) dX2_addBand_15 (by decide) ?_
    exact m_ireturn dX2_addBand_16 rfl rfl ⟨rfl, _, rfl, h⟩
  · rw [if_neg c1] at h
    refine m_aload_n dX2_addBand_7 rfl 0 rfl ?_
    refine m_geti f_X2_54 rfl dX2_addBand_8 q1 ?_
    refine m_iconst (v := 5) dX2_addBand_11 (by decide) ?_
    refine m_icmp_lt (tgt := 17) dX2_addBand_12 (by decide) (fun c1 => ?_) (fun c1 => ?_)
    · rw [if_pos c1] at h
      refine m_aload_n dX2_addBand_17 rfl 0 rfl ?_
      obtain ⟨r2, q3, h⟩ := h
      refine m_getr f_X2_38 rfl dX2_addBand_18 q1 q3 ?_
      refine m_aload_n dX2_addBand_21 rfl 0 rfl ?_
      refine m_geti f_X2_54 rfl dX2_addBand_22 q1 ?_
      refine m_iload_n dX2_addBand_25 rfl 1 rfl ?_
      obtain ⟨q4, h⟩ := h
      refine m_iast dX2_addBand_26 q4 ?_
      refine m_aload_n dX2_addBand_27 rfl 0 rfl ?_
      obtain ⟨r5, q6, h⟩ := h
      refine m_getr f_X2_41 rfl dX2_addBand_28 q1 q6 ?_
      refine m_aload_n dX2_addBand_31 rfl 0 rfl ?_
      obtain ⟨M7, e_M7⟩ : ∃ M7 : mM, M7 = m_ui M r2 (Int32.toNatClampNeg (((M).1 a0 1))) x1 := ⟨_, rfl⟩
      have h := h M7 e_M7
      rw [← e_M7]
      refine m_geti f_X2_54 rfl dX2_addBand_32 q1 ?_
      refine m_iload_n dX2_addBand_35 rfl 2 rfl ?_
      obtain ⟨q8, h⟩ := h
      refine m_iast dX2_addBand_36 q8 ?_
      refine m_aload_n dX2_addBand_37 rfl 0 rfl ?_
      obtain ⟨r9, q10, h⟩ := h
      refine m_getr f_X2_44 rfl dX2_addBand_38 q1 (by rw [e_M7]; exact q10) ?_
      refine m_aload_n dX2_addBand_41 rfl 0 rfl ?_
      obtain ⟨M11, e_M11⟩ : ∃ M11 : mM, M11 = m_ui M7 r5 (Int32.toNatClampNeg (((M7).1 a0 1))) x2 := ⟨_, rfl⟩
      have h := h M11 e_M11
      rw [← e_M11]
      refine m_geti f_X2_54 rfl dX2_addBand_42 q1 ?_
      refine m_iload_n dX2_addBand_45 rfl 3 rfl ?_
      obtain ⟨q12, h⟩ := h
      refine m_iast dX2_addBand_46 q12 ?_
      refine m_aload_n dX2_addBand_47 rfl 0 rfl ?_
      refine m_dup dX2_addBand_48 rfl ?_
      obtain ⟨M13, e_M13⟩ : ∃ M13 : mM, M13 = m_ui M11 r9 (Int32.toNatClampNeg (((M11).1 a0 1))) x3 := ⟨_, rfl⟩
      have h := h M13 e_M13
      rw [← e_M13]
      refine m_geti f_X2_54 rfl dX2_addBand_49 q1 ?_
      refine m_iconst (v := 1) dX2_addBand_52 (by decide) ?_
      refine m_iadd dX2_addBand_53 ?_
      refine m_puti f_X2_54 rfl (Or.inl rfl) dX2_addBand_54 q1 ⟨rfl, rfl⟩ ?_
      refine m_aload_n dX2_addBand_57 rfl 0 rfl ?_
      refine m_dup dX2_addBand_58 rfl ?_
      obtain ⟨M14, e_M14⟩ : ∃ M14 : mM, M14 = m_ui M13 a0 1 ((((M13).1 a0 1) + 1)) := ⟨_, rfl⟩
      have h := h M14 e_M14
      rw [← e_M14]
      refine m_geti f_X2_51 rfl dX2_addBand_59 q1 ?_
      refine m_iconst (v := 1) dX2_addBand_62 (by decide) ?_
      refine m_iadd dX2_addBand_63 ?_
      refine m_puti f_X2_51 rfl (Or.inl rfl) dX2_addBand_64 q1 ⟨rfl, rfl⟩ ?_
      refine m_aload_n dX2_addBand_67 rfl 0 rfl ?_
      obtain ⟨M15, e_M15⟩ : ∃ M15 : mM, M15 = m_ui M14 a0 4 ((((M14).1 a0 4) + 1)) := ⟨_, rfl⟩
      have h := h M15 e_M15
      rw [← e_M15]
      refine m_geti f_X2_54 rfl dX2_addBand_68 q1 ?_
      refine m_iconst (v := 1) dX2_addBand_71 (by decide) ?_
      refine m_isub dX2_addBand_72 ?_
      exact m_ireturn dX2_addBand_73 rfl rfl ⟨rfl, _, rfl, h⟩
    · rw [if_neg c1] at h
      refine m_iconst (v := (-1)) dX2_addBand_15 (by decide) ?_
      exact m_ireturn dX2_addBand_16 rfl rfl ⟨rfl, _, rfl, h⟩
set_option maxHeartbeats 4000000 in
set_option maxRecDepth 100000 in
theorem e2_setWeather {d : Nat} {Th : mT} {Q : mM → Prop} {a0 : Nat} {x1 : Int32} {x2 : Int32} {M : mM} (h : Th.2.2 a0 = some (.inl 2) ∧ (∀ M2 : mM, M2 = m_ui M a0 2 x1 → ∀ M3 : mM, M3 = m_ui M2 a0 3 x2 → Q (m_ui M3 a0 4 ((((M3).1 a0 4) + 1))))) : P2_setWeather (d + 1) Th a0 x1 x2 M Q := by
  refine m_C.of (by decide +kernel) (Nat.le_of_ble_eq_true rfl) ?_
  show m_W (d + 1) 0 0 yX2_setWeather cX2_setWeather 3 none (m_qv Th Q) 0 [(0, .ref a0), (1, .int x1), (2, .int x2)] [] Th M 0 0
  refine m_aload_n dX2_setWeather_0 rfl 0 rfl ?_
  refine m_iload_n dX2_setWeather_1 rfl 1 rfl ?_
  obtain ⟨q1, h⟩ := h
  refine m_puti f_X2_9 rfl (Or.inl rfl) dX2_setWeather_2 q1 ⟨rfl, rfl⟩ ?_
  refine m_aload_n dX2_setWeather_5 rfl 0 rfl ?_
  refine m_iload_n dX2_setWeather_6 rfl 2 rfl ?_
  obtain ⟨M2, e_M2⟩ : ∃ M2 : mM, M2 = m_ui M a0 2 x1 := ⟨_, rfl⟩
  have h := h M2 e_M2
  rw [← e_M2]
  refine m_puti f_X2_57 rfl (Or.inl rfl) dX2_setWeather_7 q1 ⟨rfl, rfl⟩ ?_
  refine m_aload_n dX2_setWeather_10 rfl 0 rfl ?_
  refine m_dup dX2_setWeather_11 rfl ?_
  obtain ⟨M3, e_M3⟩ : ∃ M3 : mM, M3 = m_ui M2 a0 3 x2 := ⟨_, rfl⟩
  have h := h M3 e_M3
  rw [← e_M3]
  refine m_geti f_X2_51 rfl dX2_setWeather_12 q1 ?_
  refine m_iconst (v := 1) dX2_setWeather_15 (by decide) ?_
  refine m_iadd dX2_setWeather_16 ?_
  refine m_puti f_X2_51 rfl (Or.inl rfl) dX2_setWeather_17 q1 ⟨rfl, rfl⟩ ?_
  exact m_return dX2_setWeather_20 rfl ⟨rfl, rfl, h⟩
set_option maxHeartbeats 4000000 in
set_option maxRecDepth 100000 in
theorem e2_hasBand {d : Nat} {Th : mT} {Q : Int32 → mM → Prop} {a0 : Nat} {x1 : Int32} {M : mM} (h : if x1 < 0 then (Q 0 M) else (Th.2.2 a0 = some (.inl 2) ∧ (m_bool ((if ((M).1 a0 1) ≤ x1 then 0 else (if 5 ≤ x1 then 0 else 1))) ∧ Q ((if ((M).1 a0 1) ≤ x1 then 0 else (if 5 ≤ x1 then 0 else 1))) M))) : P2_hasBand (d + 1) Th a0 x1 M Q := by
  refine m_C.of (by decide +kernel) (Nat.le_of_ble_eq_true rfl) ?_
  show m_W (d + 1) 0 0 yX2_hasBand cX2_hasBand 2 (some .boolean) (m_qi Th Q) 0 [(0, .ref a0), (1, .int x1)] [] Th M 0 0
  refine m_iload_n dX2_hasBand_0 rfl 1 rfl ?_
  refine m_if_lt (tgt := 21) dX2_hasBand_1 (by decide) (fun c1 => ?_) (fun c1 => ?_)
  · rw [if_pos c1] at h
    refine m_iconst (v := 0) dX2_hasBand_21 (by decide) ?_
    exact m_ireturn dX2_hasBand_22 rfl (by decide) ⟨rfl, _, rfl, h⟩
  · rw [if_neg c1] at h
    refine m_iload_n dX2_hasBand_4 rfl 1 rfl ?_
    refine m_aload_n dX2_hasBand_5 rfl 0 rfl ?_
    obtain ⟨q1, h⟩ := h
    refine m_geti f_X2_54 rfl dX2_hasBand_6 q1 ?_
    have hJ : m_W (d + 1) 0 0 yX2_hasBand cX2_hasBand 2 (some .boolean) (m_qi Th Q) 22 [(0, .ref a0), (1, .int x1)] [.int ((if ((M).1 a0 1) ≤ x1 then 0 else (if 5 ≤ x1 then 0 else 1)))] Th M 0 0 := by
      exact m_ireturn dX2_hasBand_22 rfl h.1 ⟨rfl, _, rfl, h.2⟩
    refine m_icmp_ge (tgt := 21) dX2_hasBand_9 (by decide) (fun c1 => ?_) (fun c1 => ?_)
    · simp only [if_pos c1] at hJ
      refine m_iconst (v := 0) dX2_hasBand_21 (by decide) ?_
      exact hJ
    · simp only [if_neg c1] at hJ
      refine m_iload_n dX2_hasBand_12 rfl 1 rfl ?_
      refine m_iconst (v := 5) dX2_hasBand_13 (by decide) ?_
      refine m_icmp_ge (tgt := 21) dX2_hasBand_14 (by decide) (fun c2 => ?_) (fun c2 => ?_)
      · simp only [if_pos c2] at hJ
        refine m_iconst (v := 0) dX2_hasBand_21 (by decide) ?_
        exact hJ
      · simp only [if_neg c2] at hJ
        refine m_iconst (v := 1) dX2_hasBand_17 (by decide) ?_
        refine m_goto (tgt := 22) dX2_hasBand_18 (by decide) ?_
        exact hJ
set_option maxHeartbeats 4000000 in
set_option maxRecDepth 100000 in
theorem e2_hasRiddle {d : Nat} {Th : mT} {Q : Int32 → mM → Prop} {a0 : Nat} {x1 : Int32} {M : mM} (h : if x1 < 0 then (Q 0 M) else (Th.2.2 a0 = some (.inl 2) ∧ (m_bool ((if ((M).1 a0 0) ≤ x1 then 0 else (if 5 ≤ x1 then 0 else 1))) ∧ Q ((if ((M).1 a0 0) ≤ x1 then 0 else (if 5 ≤ x1 then 0 else 1))) M))) : P2_hasRiddle (d + 1) Th a0 x1 M Q := by
  refine m_C.of (by decide +kernel) (Nat.le_of_ble_eq_true rfl) ?_
  show m_W (d + 1) 0 0 yX2_hasRiddle cX2_hasRiddle 2 (some .boolean) (m_qi Th Q) 0 [(0, .ref a0), (1, .int x1)] [] Th M 0 0
  refine m_iload_n dX2_hasRiddle_0 rfl 1 rfl ?_
  refine m_if_lt (tgt := 21) dX2_hasRiddle_1 (by decide) (fun c1 => ?_) (fun c1 => ?_)
  · rw [if_pos c1] at h
    refine m_iconst (v := 0) dX2_hasRiddle_21 (by decide) ?_
    exact m_ireturn dX2_hasRiddle_22 rfl (by decide) ⟨rfl, _, rfl, h⟩
  · rw [if_neg c1] at h
    refine m_iload_n dX2_hasRiddle_4 rfl 1 rfl ?_
    refine m_aload_n dX2_hasRiddle_5 rfl 0 rfl ?_
    obtain ⟨q1, h⟩ := h
    refine m_geti f_X2_48 rfl dX2_hasRiddle_6 q1 ?_
    have hJ : m_W (d + 1) 0 0 yX2_hasRiddle cX2_hasRiddle 2 (some .boolean) (m_qi Th Q) 22 [(0, .ref a0), (1, .int x1)] [.int ((if ((M).1 a0 0) ≤ x1 then 0 else (if 5 ≤ x1 then 0 else 1)))] Th M 0 0 := by
      exact m_ireturn dX2_hasRiddle_22 rfl h.1 ⟨rfl, _, rfl, h.2⟩
    refine m_icmp_ge (tgt := 21) dX2_hasRiddle_9 (by decide) (fun c1 => ?_) (fun c1 => ?_)
    · simp only [if_pos c1] at hJ
      refine m_iconst (v := 0) dX2_hasRiddle_21 (by decide) ?_
      exact hJ
    · simp only [if_neg c1] at hJ
      refine m_iload_n dX2_hasRiddle_12 rfl 1 rfl ?_
      refine m_iconst (v := 5) dX2_hasRiddle_13 (by decide) ?_
      refine m_icmp_ge (tgt := 21) dX2_hasRiddle_14 (by decide) (fun c2 => ?_) (fun c2 => ?_)
      · simp only [if_pos c2] at hJ
        refine m_iconst (v := 0) dX2_hasRiddle_21 (by decide) ?_
        exact hJ
      · simp only [if_neg c2] at hJ
        refine m_iconst (v := 1) dX2_hasRiddle_17 (by decide) ?_
        refine m_goto (tgt := 22) dX2_hasRiddle_18 (by decide) ?_
        exact hJ
set_option maxHeartbeats 4000000 in
set_option maxRecDepth 100000 in
theorem e2_followsSeen {d : Nat} {Th : mT} {Q : Int32 → mM → Prop} {a0 : Nat} {x1 : Int32} {M : mM} (h : Th.2.2 a0 = some (.inl 2) ∧ (P2_hasBand d Th a0 x1 M (fun (v2 : Int32) (M1 : mM) => if v2 = 0 then (Q 0 M1) else (∃ r4 : Nat, M1.2.2 a0 12 = some r4 ∧ (m_ok Th r4 .int x1 ∧ (if ((M1).1 r4 (Int32.toNatClampNeg x1)) = 1 then (m_bool ((if ((M1).1 a0 3) = 0 then 1 else 0)) ∧ Q ((if ((M1).1 a0 3) = 0 then 1 else 0)) M1) else (Q 0 M1))))))) : P2_followsSeen (d + 1) Th a0 x1 M Q := by
  refine m_C.of (by decide +kernel) (Nat.le_of_ble_eq_true rfl) ?_
  show m_W (d + 1) 0 0 yX2_followsSeen cX2_followsSeen 2 (some .boolean) (m_qi Th Q) 0 [(0, .ref a0), (1, .int x1)] [] Th M 0 0
  refine m_aload_n dX2_followsSeen_0 rfl 0 rfl ?_
  refine m_iload_n dX2_followsSeen_1 rfl 1 rfl ?_
  obtain ⟨q3, h⟩ := h
  refine m_invV (ci := 2) (As := [.int x1]) (d' := d) (mc' := 0) (ms' := 0) (rest := []) i_2_hasBand v_2_hasBand t_2_hasBand l_X2_60 ⟨_, _, rfl⟩ dX2_followsSeen_2 rfl rfl q3 (Nat.le_of_ble_eq_true rfl) (Nat.le_refl _) ⟨Nat.le_refl _, Nat.le_refl _⟩ (m_Ci h (fun v2 M1 h => ?_))
  show m_W (d + 1) 0 0 yX2_followsSeen cX2_followsSeen 2 (some .boolean) (m_qi Th Q) 5 [(0, .ref a0), (1, .int x1)] [.int v2] Th M1 0 0
  refine m_if_eq (tgt := 29) dX2_followsSeen_5 (by decide) (fun c1 => ?_) (fun c1 => ?_)
  · rw [if_pos c1] at h
    refine m_iconst (v := 0) dX2_followsSeen_29 (by decide) ?_
    exact m_ireturn dX2_followsSeen_30 rfl (by decide) ⟨rfl, _, rfl, h⟩
  · rw [if_neg c1] at h
    refine m_aload_n dX2_followsSeen_8 rfl 0 rfl ?_
    obtain ⟨r4, q5, h⟩ := h
    refine m_getr f_X2_44 rfl dX2_followsSeen_9 q3 q5 ?_
    refine m_iload_n dX2_followsSeen_12 rfl 1 rfl ?_
    obtain ⟨q6, h⟩ := h
    refine m_iald dX2_followsSeen_13 q6 ?_
    refine m_iconst (v := 1) dX2_followsSeen_14 (by decide) ?_
    refine m_icmp_ne (tgt := 29) dX2_followsSeen_15 (by decide) (fun c1 => ?_) (fun c1 => ?_)
    · rw [if_neg c1] at h
      refine m_iconst (v := 0) dX2_followsSeen_29 (by decide) ?_
      exact m_ireturn dX2_followsSeen_30 rfl (by decide) ⟨rfl, _, rfl, h⟩
    · rw [if_pos c1] at h
      refine m_aload_n dX2_followsSeen_18 rfl 0 rfl ?_
      refine m_geti f_X2_57 rfl dX2_followsSeen_19 q3 ?_
      have hJ : m_W (d + 1) 0 0 yX2_followsSeen cX2_followsSeen 2 (some .boolean) (m_qi Th Q) 30 [(0, .ref a0), (1, .int x1)] [.int ((if ((M1).1 a0 3) = 0 then 1 else 0))] Th M1 0 0 := by
        exact m_ireturn dX2_followsSeen_30 rfl h.1 ⟨rfl, _, rfl, h.2⟩
      refine m_if_ne (tgt := 29) dX2_followsSeen_22 (by decide) (fun c1 => ?_) (fun c1 => ?_)
      · simp only [if_neg c1] at hJ
        refine m_iconst (v := 0) dX2_followsSeen_29 (by decide) ?_
        exact hJ
      · simp only [if_pos c1] at hJ
        refine m_iconst (v := 1) dX2_followsSeen_25 (by decide) ?_
        refine m_goto (tgt := 30) dX2_followsSeen_26 (by decide) ?_
        exact hJ
set_option maxHeartbeats 4000000 in
set_option maxRecDepth 100000 in
theorem e2_steps {d : Nat} {Th : mT} {Q : Int32 → mM → Prop} {a0 : Nat} {x1 : Int32} {x2 : Int32} {M : mM} (h : Th.2.2 a0 = some (.inl 2) ∧ (P2_hasBand d Th a0 x1 M (fun (v2 : Int32) (M1 : mM) => if v2 = 0 then (Q (-1) M1) else (P2_hasRiddle d Th a0 x2 M1 (fun (v5 : Int32) (M4 : mM) => if v5 = 0 then (Q (-1) M4) else (∃ r6 : Nat, M4.2.2 a0 8 = some r6 ∧ (m_ok Th r6 .int ((x2 + 1)) ∧ (m_ok Th r6 .int x2 ∧ (∃ r10 : Nat, M4.2.2 a0 9 = some r10 ∧ (m_ok Th r10 .int ((x2 + 1)) ∧ (m_ok Th r10 .int x2 ∧ (∀ xv14 : Int32, xv14 = ((if 0 ≤ (((M4).1 r6 (Int32.toNatClampNeg ((x2 + 1)))) - ((M4).1 r6 (Int32.toNatClampNeg x2))) then (((M4).1 r6 (Int32.toNatClampNeg ((x2 + 1)))) - ((M4).1 r6 (Int32.toNatClampNeg x2))) else 0 - (((M4).1 r6 (Int32.toNatClampNeg ((x2 + 1)))) - ((M4).1 r6 (Int32.toNatClampNeg x2)))) + (if 0 ≤ (((M4).1 r10 (Int32.toNatClampNeg ((x2 + 1)))) - ((M4).1 r10 (Int32.toNatClampNeg x2))) then (((M4).1 r10 (Int32.toNatClampNeg ((x2 + 1)))) - ((M4).1 r10 (Int32.toNatClampNeg x2))) else 0 - (((M4).1 r10 (Int32.toNatClampNeg ((x2 + 1)))) - ((M4).1 r10 (Int32.toNatClampNeg x2))))) → ∃ r15 : Nat, M4.2.2 a0 11 = some r15 ∧ (m_ok Th r15 .int x1 ∧ (∀ xv18 : Int32, xv18 = (if 1 < ((M4).1 r15 (Int32.toNatClampNeg x1)) then ((M4).1 r15 (Int32.toNatClampNeg x1)) else 1) → ¬ (xv18 = 0) ∧ (Q ((if 1 < (if (((xv14 + xv18) - 1) / xv18) < 6 then (((xv14 + xv18) - 1) / xv18) else 6) then (if (((xv14 + xv18) - 1) / xv18) < 6 then (((xv14 + xv18) - 1) / xv18) else 6) else 1)) M4))))))))))))))) : P2_steps (d + 1) Th a0 x1 x2 M Q := by
  refine m_C.of (by decide +kernel) (Nat.le_of_ble_eq_true rfl) ?_
  show m_W (d + 1) 0 0 yX2_steps cX2_steps 5 (some .int) (m_qi Th Q) 0 [(0, .ref a0), (1, .int x1), (2, .int x2)] [] Th M 0 0
  refine m_aload_n dX2_steps_0 rfl 0 rfl ?_
  refine m_iload_n dX2_steps_1 rfl 1 rfl ?_
  obtain ⟨q3, h⟩ := h
  refine m_invV (ci := 2) (As := [.int x1]) (d' := d) (mc' := 0) (ms' := 0) (rest := []) i_2_hasBand v_2_hasBand t_2_hasBand l_X2_60 ⟨_, _, rfl⟩ dX2_steps_2 rfl rfl q3 (Nat.le_of_ble_eq_true rfl) (Nat.le_refl _) ⟨Nat.le_refl _, Nat.le_refl _⟩ (m_Ci h (fun v2 M1 h => ?_))
  show m_W (d + 1) 0 0 yX2_steps cX2_steps 5 (some .int) (m_qi Th Q) 5 [(0, .ref a0), (1, .int x1), (2, .int x2)] [.int v2] Th M1 0 0
  refine m_if_eq (tgt := 16) dX2_steps_5 (by decide) (fun c1 => ?_) (fun c1 => ?_)
  · rw [if_pos c1] at h
    refine m_iconst (v := (-1)) dX2_steps_16 (by decide) ?_
    exact m_ireturn dX2_steps_17 rfl rfl ⟨rfl, _, rfl, h⟩
  · rw [if_neg c1] at h
    refine m_aload_n dX2_steps_8 rfl 0 rfl ?_
    refine m_iload_n dX2_steps_9 rfl 2 rfl ?_
    refine m_invV (ci := 2) (As := [.int x2]) (d' := d) (mc' := 0) (ms' := 0) (rest := []) i_2_hasRiddle v_2_hasRiddle t_2_hasRiddle l_X2_64 ⟨_, _, rfl⟩ dX2_steps_10 rfl rfl q3 (Nat.le_of_ble_eq_true rfl) (Nat.le_refl _) ⟨Nat.le_refl _, Nat.le_refl _⟩ (m_Ci h (fun v5 M4 h => ?_))
    show m_W (d + 1) 0 0 yX2_steps cX2_steps 5 (some .int) (m_qi Th Q) 13 [(0, .ref a0), (1, .int x1), (2, .int x2)] [.int v5] Th M4 0 0
    refine m_if_ne (tgt := 18) dX2_steps_13 (by decide) (fun c1 => ?_) (fun c1 => ?_)
    · rw [if_neg c1] at h
      refine m_aload_n dX2_steps_18 rfl 0 rfl ?_
      obtain ⟨r6, q7, h⟩ := h
      refine m_getr f_X2_32 rfl dX2_steps_19 q3 q7 ?_
      refine m_iload_n dX2_steps_22 rfl 2 rfl ?_
      refine m_iconst (v := 1) dX2_steps_23 (by decide) ?_
      refine m_iadd dX2_steps_24 ?_
      obtain ⟨q8, h⟩ := h
      refine m_iald dX2_steps_25 q8 ?_
      refine m_aload_n dX2_steps_26 rfl 0 rfl ?_
      refine m_getr f_X2_32 rfl dX2_steps_27 q3 q7 ?_
      refine m_iload_n dX2_steps_30 rfl 2 rfl ?_
      obtain ⟨q9, h⟩ := h
      refine m_iald dX2_steps_31 q9 ?_
      refine m_isub dX2_steps_32 ?_
      refine m_abs l_X2_67 dX2_steps_33 (Nat.le_of_ble_eq_true rfl) (Nat.le_add_left _ _) (Nat.le_refl _) (Nat.le_refl _) ?_
      refine m_aload_n dX2_steps_36 rfl 0 rfl ?_
      obtain ⟨r10, q11, h⟩ := h
      refine m_getr f_X2_35 rfl dX2_steps_37 q3 q11 ?_
      refine m_iload_n dX2_steps_40 rfl 2 rfl ?_
      refine m_iconst (v := 1) dX2_steps_41 (by decide) ?_
      refine m_iadd dX2_steps_42 ?_
      obtain ⟨q12, h⟩ := h
      refine m_iald dX2_steps_43 q12 ?_
      refine m_aload_n dX2_steps_44 rfl 0 rfl ?_
      refine m_getr f_X2_35 rfl dX2_steps_45 q3 q11 ?_
      refine m_iload_n dX2_steps_48 rfl 2 rfl ?_
      obtain ⟨q13, h⟩ := h
      refine m_iald dX2_steps_49 q13 ?_
      refine m_isub dX2_steps_50 ?_
      refine m_abs l_X2_67 dX2_steps_51 (Nat.le_of_ble_eq_true rfl) (Nat.le_add_left _ _) (Nat.le_refl _) (Nat.le_refl _) ?_
      refine m_iadd dX2_steps_54 ?_
      obtain ⟨xv14, e_xv14⟩ : ∃ xv14 : Int32, xv14 = ((if 0 ≤ (((M4).1 r6 (Int32.toNatClampNeg ((x2 + 1)))) - ((M4).1 r6 (Int32.toNatClampNeg x2))) then (((M4).1 r6 (Int32.toNatClampNeg ((x2 + 1)))) - ((M4).1 r6 (Int32.toNatClampNeg x2))) else 0 - (((M4).1 r6 (Int32.toNatClampNeg ((x2 + 1)))) - ((M4).1 r6 (Int32.toNatClampNeg x2)))) + (if 0 ≤ (((M4).1 r10 (Int32.toNatClampNeg ((x2 + 1)))) - ((M4).1 r10 (Int32.toNatClampNeg x2))) then (((M4).1 r10 (Int32.toNatClampNeg ((x2 + 1)))) - ((M4).1 r10 (Int32.toNatClampNeg x2))) else 0 - (((M4).1 r10 (Int32.toNatClampNeg ((x2 + 1)))) - ((M4).1 r10 (Int32.toNatClampNeg x2))))) := ⟨_, rfl⟩
      have h := h xv14 e_xv14
      rw [← e_xv14]
      refine m_istore_n (lv' := [(3, .int xv14), (0, .ref a0), (1, .int x1), (2, .int x2)]) dX2_steps_55 rfl (by decide) rfl ?_
      refine m_iconst (v := 1) dX2_steps_56 (by decide) ?_
      refine m_aload_n dX2_steps_57 rfl 1 rfl ?_
      obtain ⟨r15, q16, h⟩ := h
      refine m_getr f_X2_41 rfl dX2_steps_58 q3 q16 ?_
      refine m_iload_n dX2_steps_61 rfl 2 rfl ?_
      obtain ⟨q17, h⟩ := h
      refine m_iald dX2_steps_62 q17 ?_
      refine m_max l_X2_73 dX2_steps_63 (Nat.le_of_ble_eq_true rfl) (Nat.le_add_left _ _) (Nat.le_refl _) (Nat.le_refl _) ?_
      obtain ⟨xv18, e_xv18⟩ : ∃ xv18 : Int32, xv18 = (if 1 < ((M4).1 r15 (Int32.toNatClampNeg x1)) then ((M4).1 r15 (Int32.toNatClampNeg x1)) else 1) := ⟨_, rfl⟩
      have h := h xv18 e_xv18
      rw [← e_xv18]
      refine m_istore (lv' := [(4, .int xv18), (3, .int xv14), (0, .ref a0), (1, .int x1), (2, .int x2)]) dX2_steps_66 (by decide) rfl ?_
      refine m_iconst (v := 1) dX2_steps_68 (by decide) ?_
      refine m_bipush (v := 6) dX2_steps_69 (by decide) ?_
      refine m_iload_n dX2_steps_71 rfl 1 rfl ?_
      refine m_iload dX2_steps_72 0 rfl ?_
      refine m_iadd dX2_steps_74 ?_
      refine m_iconst (v := 1) dX2_steps_75 (by decide) ?_
      refine m_isub dX2_steps_76 ?_
      refine m_iload dX2_steps_77 0 rfl ?_
      obtain ⟨q19, h⟩ := h
      refine m_idiv dX2_steps_79 q19 ?_
      refine m_min l_X2_77 dX2_steps_80 (Nat.le_of_ble_eq_true rfl) (Nat.le_add_left _ _) (Nat.le_refl _) (Nat.le_refl _) ?_
      refine m_max l_X2_73 dX2_steps_83 (Nat.le_of_ble_eq_true rfl) (Nat.le_add_left _ _) (Nat.le_refl _) (Nat.le_refl _) ?_
      exact m_ireturn dX2_steps_86 rfl rfl ⟨rfl, _, rfl, h⟩
    · rw [if_pos c1] at h
      refine m_iconst (v := (-1)) dX2_steps_16 (by decide) ?_
      exact m_ireturn dX2_steps_17 rfl rfl ⟨rfl, _, rfl, h⟩
set_option maxHeartbeats 4000000 in
set_option maxRecDepth 100000 in
theorem e2_skill {d : Nat} {Th : mT} {Q : Nat → mM → Prop} {a0 : Nat} {x1 : Int32} {M : mM} (h : Th.2.2 a0 = some (.inl 2) ∧ (P2_hasBand d Th a0 x1 M (fun (v2 : Int32) (M1 : mM) => ∀ xv4 : Int32, xv4 = (if v2 = 0 then 0 else x1) → ∃ r5 : Nat, M1.2.2 a0 6 = some r5 ∧ (m_ok Th r5 (.object "RunHunt$Skill") xv4 ∧ (∃ r8 : Nat, M1.2.2 r5 (Int32.toNatClampNeg xv4) = some r8 ∧ (Th.2.2 r8 = some (.inl 8) ∧ (if ((M1).1 r8 3) = ((M1).1 a0 4) then (Q r8 M1) else (∃ r11 : Nat, M1.2.2 a0 10 = some r11 ∧ (m_ok Th r11 .int xv4 ∧ (P2_load d Th a0 r8 xv4 (((M1).1 r11 (Int32.toNatClampNeg xv4))) M1 (fun M14 : mM => Q r8 (m_ui M14 r8 3 (((M14).1 a0 4)))))))))))))) : P2_skill (d + 1) Th a0 x1 M Q := by
  refine m_C.of (by decide +kernel) (Nat.le_of_ble_eq_true rfl) ?_
  show m_W (d + 1) 0 0 yX2_skill cX2_skill 4 (some (.object "RunHunt$Skill")) (m_qr Th Q) 0 [(0, .ref a0), (1, .int x1)] [] Th M 0 0
  refine m_aload_n dX2_skill_0 rfl 0 rfl ?_
  refine m_iload_n dX2_skill_1 rfl 1 rfl ?_
  obtain ⟨q3, h⟩ := h
  refine m_invV (ci := 2) (As := [.int x1]) (d' := d) (mc' := 0) (ms' := 0) (rest := []) i_2_hasBand v_2_hasBand t_2_hasBand l_X2_60 ⟨_, _, rfl⟩ dX2_skill_2 rfl rfl q3 (Nat.le_of_ble_eq_true rfl) (Nat.le_refl _) ⟨Nat.le_refl _, Nat.le_refl _⟩ (m_Ci h (fun v2 M1 h => ?_))
  show m_W (d + 1) 0 0 yX2_skill cX2_skill 4 (some (.object "RunHunt$Skill")) (m_qr Th Q) 5 [(0, .ref a0), (1, .int x1)] [.int v2] Th M1 0 0
  have hJ : m_W (d + 1) 0 0 yX2_skill cX2_skill 4 (some (.object "RunHunt$Skill")) (m_qr Th Q) 13 [(0, .ref a0), (1, .int x1)] [.int ((if v2 = 0 then 0 else x1))] Th M1 0 0 := by
    obtain ⟨xv4, e_xv4⟩ : ∃ xv4 : Int32, xv4 = (if v2 = 0 then 0 else x1) := ⟨_, rfl⟩
    have h := h xv4 e_xv4
    rw [← e_xv4]
    refine m_istore_n (lv' := [(2, .int xv4), (0, .ref a0), (1, .int x1)]) dX2_skill_13 rfl (by decide) rfl ?_
    refine m_aload_n dX2_skill_14 rfl 1 rfl ?_
    obtain ⟨r5, q6, h⟩ := h
    refine m_getr f_X2_24 rfl dX2_skill_15 q3 q6 ?_
    refine m_iload_n dX2_skill_18 rfl 0 rfl ?_
    obtain ⟨q7, h⟩ := h
    obtain ⟨r8, q9, h⟩ := h
    refine m_aald (ty := (.object "RunHunt$Skill")) rfl dX2_skill_19 q7 q9 ?_
    refine m_astore_n (lv' := [(3, .ref r8), (2, .int xv4), (0, .ref a0), (1, .int x1)]) dX2_skill_20 rfl (by decide) rfl ?_
    refine m_aload_n dX2_skill_21 rfl 0 rfl ?_
    obtain ⟨q10, h⟩ := h
    refine m_geti f_X2_80 rfl dX2_skill_22 q10 ?_
    refine m_aload_n dX2_skill_25 rfl 2 rfl ?_
    refine m_geti f_X2_51 rfl dX2_skill_26 q3 ?_
    refine m_icmp_eq (tgt := 52) dX2_skill_29 (by decide) (fun c1 => ?_) (fun c1 => ?_)
    · rw [if_pos c1] at h
      refine m_aload_n dX2_skill_52 rfl 0 rfl ?_
      exact m_areturn dX2_skill_53 rfl ⟨rfl, _, rfl, h⟩
    · rw [if_neg c1] at h
      refine m_aload_n dX2_skill_32 rfl 2 rfl ?_
      refine m_aload_n dX2_skill_33 rfl 0 rfl ?_
      refine m_iload_n dX2_skill_34 rfl 1 rfl ?_
      refine m_aload_n dX2_skill_35 rfl 2 rfl ?_
      obtain ⟨r11, q12, h⟩ := h
      refine m_getr f_X2_38 rfl dX2_skill_36 q3 q12 ?_
      refine m_iload_n dX2_skill_39 rfl 1 rfl ?_
      obtain ⟨q13, h⟩ := h
      refine m_iald dX2_skill_40 q13 ?_
      refine m_invV (ci := 2) (As := [.ref r8, .int xv4, .int (((M1).1 r11 (Int32.toNatClampNeg xv4)))]) (d' := d) (mc' := 0) (ms' := 0) (rest := []) i_2_load v_2_load t_2_load l_X2_81 ⟨_, _, rfl⟩ dX2_skill_41 rfl rfl q3 (Nat.le_of_ble_eq_true rfl) (Nat.le_refl _) ⟨Nat.le_refl _, Nat.le_refl _⟩ (m_Cv h (fun M14 h => ?_))
      show m_W (d + 1) 0 0 yX2_skill cX2_skill 4 (some (.object "RunHunt$Skill")) (m_qr Th Q) 44 [(3, .ref r8), (2, .int xv4), (0, .ref a0), (1, .int x1)] [] Th M14 0 0
      refine m_aload_n dX2_skill_44 rfl 0 rfl ?_
      refine m_aload_n dX2_skill_45 rfl 2 rfl ?_
      refine m_geti f_X2_51 rfl dX2_skill_46 q3 ?_
      refine m_puti f_X2_80 rfl (Or.inl rfl) dX2_skill_49 q10 ⟨rfl, rfl⟩ ?_
      refine m_aload_n dX2_skill_52 rfl 0 rfl ?_
      exact m_areturn dX2_skill_53 rfl ⟨rfl, _, rfl, h⟩
  refine m_if_eq (tgt := 12) dX2_skill_5 (by decide) (fun c1 => ?_) (fun c1 => ?_)
  · simp only [if_pos c1] at hJ
    refine m_iconst (v := 0) dX2_skill_12 (by decide) ?_
    exact hJ
  · simp only [if_neg c1] at hJ
    refine m_iload_n dX2_skill_8 rfl 1 rfl ?_
    refine m_goto (tgt := 13) dX2_skill_9 (by decide) ?_
    exact hJ
set_option maxHeartbeats 4000000 in
set_option maxRecDepth 100000 in
theorem h2_load_42 {d : Nat} {Th : mT} {Q : mM → Prop} {a0 : Nat} {a1 : Nat} {x2 : Int32} {x4 : Int32} {M : mM} (h : Th.2.2 a0 = some (.inl 2) ∧ (if ((M).1 a0 0) ≤ x4 then (Q M) else (if 5 ≤ x4 then (Q M) else (Th.2.2 a1 = some (.inl 8) ∧ (∃ r3 : Nat, M.2.2 a1 2 = some r3 ∧ (P2_steps d Th a0 x2 x4 M (fun (v6 : Int32) (M5 : mM) => m_okw Th r3 .int x4 ∧ (H2_load_74 (d + 1) Th Q a0 a1 x2 x4 0 (m_ui M5 r3 (Int32.toNatClampNeg x4) v6))))))))) : H2_load_42 (d + 1) Th Q a0 a1 x2 x4 M := by
  show m_W (d + 1) 0 0 yX2_load cX2_load 7 none (m_qv Th Q) 42 [(0, .ref a0), (1, .ref a1), (2, .int x2), (4, .int x4)] [] Th M 0 0
  refine m_iload dX2_load_42 3 rfl ?_
  refine m_aload_n dX2_load_44 rfl 0 rfl ?_
  obtain ⟨q1, h⟩ := h
  refine m_geti f_X2_48 rfl dX2_load_45 q1 ?_
  refine m_icmp_ge (tgt := 180) dX2_load_48 (by decide) (fun c1 => ?_) (fun c1 => ?_)
  · rw [if_pos c1] at h
    exact m_return dX2_load_180 rfl ⟨rfl, rfl, h⟩
  · rw [if_neg c1] at h
    refine m_iload dX2_load_51 3 rfl ?_
    refine m_iconst (v := 5) dX2_load_53 (by decide) ?_
    refine m_icmp_ge (tgt := 180) dX2_load_54 (by decide) (fun c1 => ?_) (fun c1 => ?_)
    · rw [if_pos c1] at h
      exact m_return dX2_load_180 rfl ⟨rfl, rfl, h⟩
    · rw [if_neg c1] at h
      refine m_aload_n dX2_load_57 rfl 1 rfl ?_
      obtain ⟨q2, h⟩ := h
      obtain ⟨r3, q4, h⟩ := h
      refine m_getr f_X2_93 rfl dX2_load_58 q2 q4 ?_
      refine m_iload dX2_load_61 3 rfl ?_
      refine m_aload_n dX2_load_63 rfl 0 rfl ?_
      refine m_iload_n dX2_load_64 rfl 2 rfl ?_
      refine m_iload dX2_load_65 3 rfl ?_
      refine m_invV (ci := 2) (As := [.int x2, .int x4]) (d' := d) (mc' := 0) (ms' := 0) (rest := [.int x4, .ref r3]) i_2_steps v_2_steps t_2_steps l_X2_96 ⟨_, _, rfl⟩ dX2_load_67 rfl rfl q1 (Nat.le_of_ble_eq_true rfl) (Nat.le_refl _) ⟨Nat.le_refl _, Nat.le_refl _⟩ (m_Ci h (fun v6 M5 h => ?_))
      show m_W (d + 1) 0 0 yX2_load cX2_load 7 none (m_qv Th Q) 70 [(0, .ref a0), (1, .ref a1), (2, .int x2), (4, .int x4)] [.int v6, .int x4, .ref r3] Th M5 0 0
      obtain ⟨q7, h⟩ := h
      refine m_iast dX2_load_70 q7 ?_
      refine m_iconst (v := 0) dX2_load_71 (by decide) ?_
      refine m_istore (lv' := [(5, .int 0), (0, .ref a0), (1, .ref a1), (2, .int x2), (4, .int x4)]) dX2_load_72 (by decide) rfl ?_
      exact m_sub [1, 2, 3, 4, 0] rfl h
set_option maxHeartbeats 4000000 in
set_option maxRecDepth 100000 in
theorem h2_load_74 {d : Nat} {Th : mT} {Q : mM → Prop} {a0 : Nat} {a1 : Nat} {x2 : Int32} {x4 : Int32} {x5 : Int32} {M : mM} (h : if 6 ≤ x5 then (H2_load_42 (d + 1) Th Q a0 a1 x2 (x4 + 1) M) else (Th.2.2 a0 = some (.inl 2) ∧ (∃ r2 : Nat, M.2.2 a0 5 = some r2 ∧ (∃ r4 : Nat, M.2.2 a0 7 = some r4 ∧ (m_ok Th r4 .int x4 ∧ (Th.2.2 r2 = some (.inl 4) ∧ (P4_tellRiddle d Th r2 (((M).1 r4 (Int32.toNatClampNeg x4))) x4 x5 M (fun M7 : mM => ∃ r10 : Nat, M7.2.2 a0 5 = some r10 ∧ (Th.2.2 r10 = some (.inl 4) ∧ (P4_eighths d Th r10 115 M7 (fun (v13 : Int32) (M12 : mM) => ∀ xv15 : Int32, xv15 = (if 0 < (if v13 < 8 then v13 else 8) then (if v13 < 8 then v13 else 8) else 0) → Th.2.2 a1 = some (.inl 8) ∧ (∃ r17 : Nat, M12.2.2 a1 0 = some r17 ∧ (m_okw Th r17 .int (((x4 * 6) + x5)) ∧ (∃ r20 : Nat, M12.2.2 a1 1 = some r20 ∧ (∃ r22 : Nat, M12.2.2 a0 5 = some r22 ∧ (Th.2.2 r22 = some (.inl 4) ∧ (P4_eighths d Th r22 101 (m_ui M12 r17 (Int32.toNatClampNeg (((x4 * 6) + x5))) xv15) (fun (v25 : Int32) (M24 : mM) => m_okw Th r20 .int (((x4 * 6) + x5)) ∧ (H2_load_74 (d + 1) Th Q a0 a1 x2 x4 (x5 + 1) (m_ui M24 r20 (Int32.toNatClampNeg (((x4 * 6) + x5))) ((if 0 < (if v25 < (8 - xv15) then v25 else (8 - xv15)) then (if v25 < (8 - xv15) then v25 else (8 - xv15)) else 0)))))))))))))))))))))) : H2_load_74 (d + 1) Th Q a0 a1 x2 x4 x5 M := by
  show m_W (d + 1) 0 0 yX2_load cX2_load 7 none (m_qv Th Q) 74 [(0, .ref a0), (1, .ref a1), (2, .int x2), (4, .int x4), (5, .int x5)] [] Th M 0 0
  refine m_iload dX2_load_74 4 rfl ?_
  refine m_bipush (v := 6) dX2_load_76 (by decide) ?_
  refine m_icmp_ge (tgt := 174) dX2_load_78 (by decide) (fun c1 => ?_) (fun c1 => ?_)
  · rw [if_pos c1] at h
    refine m_iinc (v := x4 + 1) (lv' := [(4, .int (x4 + 1)), (0, .ref a0), (1, .ref a1), (2, .int x2), (5, .int x5)]) dX2_load_174 3 rfl rfl (by decide) rfl ?_
    refine m_goto (tgt := 42) dX2_load_177 (by decide) ?_
    exact m_sub [1, 2, 3, 0] rfl h
  · rw [if_neg c1] at h
    refine m_aload_n dX2_load_81 rfl 0 rfl ?_
    obtain ⟨q1, h⟩ := h
    obtain ⟨r2, q3, h⟩ := h
    refine m_getr f_X2_18 rfl dX2_load_82 q1 q3 ?_
    refine m_aload_n dX2_load_85 rfl 0 rfl ?_
    obtain ⟨r4, q5, h⟩ := h
    refine m_getr f_X2_28 rfl dX2_load_86 q1 q5 ?_
    refine m_iload dX2_load_89 3 rfl ?_
    obtain ⟨q6, h⟩ := h
    refine m_iald dX2_load_91 q6 ?_
    refine m_iload dX2_load_92 3 rfl ?_
    refine m_iload dX2_load_94 4 rfl ?_
    obtain ⟨q9, h⟩ := h
    refine m_invV (ci := 4) (As := [.int (((M).1 r4 (Int32.toNatClampNeg x4))), .int x4, .int x5]) (d' := d) (mc' := 0) (ms' := 0) (rest := []) i_4_tellRiddle v_4_tellRiddle t_4_tellRiddle l_X2_98 ⟨_, _, rfl⟩ dX2_load_96 rfl rfl q9 (Nat.le_of_ble_eq_true rfl) (Nat.le_refl _) ⟨Nat.le_refl _, Nat.le_refl _⟩ (m_Cv h (fun M7 h => ?_))
    show m_W (d + 1) 0 0 yX2_load cX2_load 7 none (m_qv Th Q) 99 [(0, .ref a0), (1, .ref a1), (2, .int x2), (4, .int x4), (5, .int x5)] [] Th M7 0 0
    refine m_iconst (v := 0) dX2_load_99 (by decide) ?_
    refine m_bipush (v := 8) dX2_load_100 (by decide) ?_
    refine m_aload_n dX2_load_102 rfl 0 rfl ?_
    obtain ⟨r10, q11, h⟩ := h
    refine m_getr f_X2_18 rfl dX2_load_103 q1 q11 ?_
    refine m_bipush (v := 115) dX2_load_106 (by decide) ?_
    obtain ⟨q14, h⟩ := h
    refine m_invV (ci := 4) (As := [.int 115]) (d' := d) (mc' := 0) (ms' := 0) (rest := [.int 8, .int 0]) i_4_eighths v_4_eighths t_4_eighths l_X2_101 ⟨_, _, rfl⟩ dX2_load_108 rfl rfl q14 (Nat.le_of_ble_eq_true rfl) (Nat.le_refl _) ⟨Nat.le_refl _, Nat.le_refl _⟩ (m_Ci h (fun v13 M12 h => ?_))
    show m_W (d + 1) 0 0 yX2_load cX2_load 7 none (m_qv Th Q) 111 [(0, .ref a0), (1, .ref a1), (2, .int x2), (4, .int x4), (5, .int x5)] [.int v13, .int 8, .int 0] Th M12 0 0
    refine m_min l_X2_77 dX2_load_111 (Nat.le_of_ble_eq_true rfl) (Nat.le_add_left _ _) (Nat.le_refl _) (Nat.le_refl _) ?_
    refine m_max l_X2_73 dX2_load_114 (Nat.le_of_ble_eq_true rfl) (Nat.le_add_left _ _) (Nat.le_refl _) (Nat.le_refl _) ?_
    obtain ⟨xv15, e_xv15⟩ : ∃ xv15 : Int32, xv15 = (if 0 < (if v13 < 8 then v13 else 8) then (if v13 < 8 then v13 else 8) else 0) := ⟨_, rfl⟩
    have h := h xv15 e_xv15
    rw [← e_xv15]
    refine m_istore (lv' := [(6, .int xv15), (0, .ref a0), (1, .ref a1), (2, .int x2), (4, .int x4), (5, .int x5)]) dX2_load_117 (by decide) rfl ?_
    refine m_aload_n dX2_load_119 rfl 2 rfl ?_
    obtain ⟨q16, h⟩ := h
    obtain ⟨r17, q18, h⟩ := h
    refine m_getr f_X2_104 rfl dX2_load_120 q16 q18 ?_
    refine m_iload dX2_load_123 4 rfl ?_
    refine m_bipush (v := 6) dX2_load_125 (by decide) ?_
    refine m_imul dX2_load_127 ?_
    refine m_iload dX2_load_128 5 rfl ?_
    refine m_iadd dX2_load_130 ?_
    refine m_iload dX2_load_131 0 rfl ?_
    obtain ⟨q19, h⟩ := h
    refine m_iast dX2_load_133 q19 ?_
    refine m_aload_n dX2_load_134 rfl 2 rfl ?_
    obtain ⟨r20, q21, h⟩ := h
    refine m_getr f_X2_107 rfl dX2_load_135 q16 q21 ?_
    refine m_iload dX2_load_138 4 rfl ?_
    refine m_bipush (v := 6) dX2_load_140 (by decide) ?_
    refine m_imul dX2_load_142 ?_
    refine m_iload dX2_load_143 5 rfl ?_
    refine m_iadd dX2_load_145 ?_
    refine m_iconst (v := 0) dX2_load_146 (by decide) ?_
    refine m_bipush (v := 8) dX2_load_147 (by decide) ?_
    refine m_iload dX2_load_149 0 rfl ?_
    refine m_isub dX2_load_151 ?_
    refine m_aload_n dX2_load_152 rfl 1 rfl ?_
    obtain ⟨r22, q23, h⟩ := h
    refine m_getr f_X2_18 rfl dX2_load_153 q1 q23 ?_
    refine m_bipush (v := 101) dX2_load_156 (by decide) ?_
    obtain ⟨q26, h⟩ := h
    refine m_invV (ci := 4) (As := [.int 101]) (d' := d) (mc' := 0) (ms' := 0) (rest := [.int ((8 - xv15)), .int 0, .int (((x4 * 6) + x5)), .ref r20]) i_4_eighths v_4_eighths t_4_eighths l_X2_101 ⟨_, _, rfl⟩ dX2_load_158 rfl rfl q26 (Nat.le_of_ble_eq_true rfl) (Nat.le_refl _) ⟨Nat.le_refl _, Nat.le_refl _⟩ (m_Ci h (fun v25 M24 h => ?_))
    show m_W (d + 1) 0 0 yX2_load cX2_load 7 none (m_qv Th Q) 161 [(6, .int xv15), (0, .ref a0), (1, .ref a1), (2, .int x2), (4, .int x4), (5, .int x5)] [.int v25, .int ((8 - xv15)), .int 0, .int (((x4 * 6) + x5)), .ref r20] Th M24 0 0
    refine m_min l_X2_77 dX2_load_161 (Nat.le_of_ble_eq_true rfl) (Nat.le_add_left _ _) (Nat.le_refl _) (Nat.le_refl _) ?_
    refine m_max l_X2_73 dX2_load_164 (Nat.le_of_ble_eq_true rfl) (Nat.le_add_left _ _) (Nat.le_refl _) (Nat.le_refl _) ?_
    obtain ⟨q27, h⟩ := h
    refine m_iast dX2_load_167 q27 ?_
    refine m_iinc (v := x5 + 1) (lv' := [(5, .int (x5 + 1)), (6, .int xv15), (0, .ref a0), (1, .ref a1), (2, .int x2), (4, .int x4)]) dX2_load_168 5 rfl rfl (by decide) rfl ?_
    refine m_goto (tgt := 74) dX2_load_171 (by decide) ?_
    exact m_sub [2, 3, 4, 5, 0] rfl h
set_option maxHeartbeats 4000000 in
set_option maxRecDepth 100000 in
theorem e2_load {d : Nat} {Th : mT} {Q : mM → Prop} {a0 : Nat} {a1 : Nat} {x2 : Int32} {x3 : Int32} {M : mM} (h : Th.2.2 a0 = some (.inl 2) ∧ (P2_hasBand d Th a0 x2 M (fun (v2 : Int32) (M1 : mM) => if v2 = 0 then (Q M1) else (∃ r4 : Nat, M1.2.2 a0 5 = some r4 ∧ (∃ r6 : Nat, M1.2.2 a0 11 = some r6 ∧ (m_ok Th r6 .int x2 ∧ (Th.2.2 r4 = some (.inl 4) ∧ (P4_tellBand d Th r4 x3 x2 (((M1).1 r6 (Int32.toNatClampNeg x2))) M1 (fun M9 : mM => ∃ r12 : Nat, M9.2.2 a0 5 = some r12 ∧ (Th.2.2 r12 = some (.inl 4) ∧ (P4_tellHill d Th r12 (((M9).1 a0 0)) (((M9).1 a0 3)) M9 (fun M14 : mM => H2_load_42 (d + 1) Th Q a0 a1 x2 0 M14)))))))))))) : P2_load (d + 1) Th a0 a1 x2 x3 M Q := by
  refine m_C.of (by decide +kernel) (Nat.le_of_ble_eq_true rfl) ?_
  show m_W (d + 1) 0 0 yX2_load cX2_load 7 none (m_qv Th Q) 0 [(0, .ref a0), (1, .ref a1), (2, .int x2), (3, .int x3)] [] Th M 0 0
  refine m_aload_n dX2_load_0 rfl 0 rfl ?_
  refine m_iload_n dX2_load_1 rfl 2 rfl ?_
  obtain ⟨q3, h⟩ := h
  refine m_invV (ci := 2) (As := [.int x2]) (d' := d) (mc' := 0) (ms' := 0) (rest := []) i_2_hasBand v_2_hasBand t_2_hasBand l_X2_60 ⟨_, _, rfl⟩ dX2_load_2 rfl rfl q3 (Nat.le_of_ble_eq_true rfl) (Nat.le_refl _) ⟨Nat.le_refl _, Nat.le_refl _⟩ (m_Ci h (fun v2 M1 h => ?_))
  show m_W (d + 1) 0 0 yX2_load cX2_load 7 none (m_qv Th Q) 5 [(0, .ref a0), (1, .ref a1), (2, .int x2), (3, .int x3)] [.int v2] Th M1 0 0
  refine m_if_ne (tgt := 9) dX2_load_5 (by decide) (fun c1 => ?_) (fun c1 => ?_)
  · rw [if_neg c1] at h
    refine m_aload_n dX2_load_9 rfl 0 rfl ?_
    obtain ⟨r4, q5, h⟩ := h
    refine m_getr f_X2_18 rfl dX2_load_10 q3 q5 ?_
    refine m_iload_n dX2_load_13 rfl 3 rfl ?_
    refine m_iload_n dX2_load_14 rfl 2 rfl ?_
    refine m_aload_n dX2_load_15 rfl 0 rfl ?_
    obtain ⟨r6, q7, h⟩ := h
    refine m_getr f_X2_41 rfl dX2_load_16 q3 q7 ?_
    refine m_iload_n dX2_load_19 rfl 2 rfl ?_
    obtain ⟨q8, h⟩ := h
    refine m_iald dX2_load_20 q8 ?_
    obtain ⟨q11, h⟩ := h
    refine m_invV (ci := 4) (As := [.int x3, .int x2, .int (((M1).1 r6 (Int32.toNatClampNeg x2)))]) (d' := d) (mc' := 0) (ms' := 0) (rest := []) i_4_tellBand v_4_tellBand t_4_tellBand l_X2_85 ⟨_, _, rfl⟩ dX2_load_21 rfl rfl q11 (Nat.le_of_ble_eq_true rfl) (Nat.le_refl _) ⟨Nat.le_refl _, Nat.le_refl _⟩ (m_Cv h (fun M9 h => ?_))
    show m_W (d + 1) 0 0 yX2_load cX2_load 7 none (m_qv Th Q) 24 [(0, .ref a0), (1, .ref a1), (2, .int x2), (3, .int x3)] [] Th M9 0 0
    refine m_aload_n dX2_load_24 rfl 0 rfl ?_
    obtain ⟨r12, q13, h⟩ := h
    refine m_getr f_X2_18 rfl dX2_load_25 q3 q13 ?_
    refine m_aload_n dX2_load_28 rfl 0 rfl ?_
    refine m_geti f_X2_48 rfl dX2_load_29 q3 ?_
    refine m_aload_n dX2_load_32 rfl 0 rfl ?_
    refine m_geti f_X2_57 rfl dX2_load_33 q3 ?_
    obtain ⟨q16, h⟩ := h
    refine m_invV (ci := 4) (As := [.int (((M9).1 a0 0)), .int (((M9).1 a0 3))]) (d' := d) (mc' := 0) (ms' := 0) (rest := []) i_4_tellHill v_4_tellHill t_4_tellHill l_X2_89 ⟨_, _, rfl⟩ dX2_load_36 rfl rfl q16 (Nat.le_of_ble_eq_true rfl) (Nat.le_refl _) ⟨Nat.le_refl _, Nat.le_refl _⟩ (m_Cv h (fun M14 h => ?_))
    show m_W (d + 1) 0 0 yX2_load cX2_load 7 none (m_qv Th Q) 39 [(0, .ref a0), (1, .ref a1), (2, .int x2), (3, .int x3)] [] Th M14 0 0
    refine m_iconst (v := 0) dX2_load_39 (by decide) ?_
    refine m_istore (lv' := [(4, .int 0), (0, .ref a0), (1, .ref a1), (2, .int x2), (3, .int x3)]) dX2_load_40 (by decide) rfl ?_
    exact m_sub [1, 2, 3, 0] rfl h
  · rw [if_pos c1] at h
    exact m_return dX2_load_8 rfl ⟨rfl, rfl, h⟩
