set_option maxHeartbeats 4000000 in
set_option maxRecDepth 100000 in
theorem e10_riddle {d : Nat} {Th : mT} {Q : Int32 → mM → Prop} {a0 : Nat} {x1 : Int32} {x2 : Int32} {x3 : Int32} {M : mM} (h : P10_within d Th x1 0 9 M (fun (v2 : Int32) (M1 : mM) => if v2 = 0 then (Q (-1) M1) else (P10_within d Th x2 0 30 M1 (fun (v4 : Int32) (M3 : mM) => if v4 = 0 then (Q (-1) M3) else (P10_within d Th x3 0 30 M3 (fun (v6 : Int32) (M5 : mM) => if v6 = 0 then (Q (-1) M5) else (Th.2.2 a0 = some (.inl 10) ∧ (∃ r8 : Nat, M5.2.2 a0 1 = some r8 ∧ (Th.2.2 r8 = some (.inl 2) ∧ (if ((M5).1 r8 0) < 5 then (∃ r11 : Nat, M5.2.2 a0 7 = some r11 ∧ (Th.2.2 r11 = some (.inl 6) ∧ (P6_fall d Th r11 M5 (fun M13 : mM => P10_logFalls d Th a0 M13 (fun M16 : mM => ∃ r18 : Nat, M16.2.2 a0 1 = some r18 ∧ (Th.2.2 r18 = some (.inl 2) ∧ (P2_addRiddle d Th r18 x1 x2 x3 M16 (fun (v21 : Int32) (M20 : mM) => Q v21 M20)))))))) else (Q (-1) M5))))))))))) : P10_riddle (d + 1) Th a0 x1 x2 x3 M Q := by
  refine m_C.of (by decide +kernel) (Nat.le_of_ble_eq_true rfl) ?_
  show m_W (d + 1) 0 0 yX10_riddle cX10_riddle 4 (some .int) (m_qi Th Q) 0 [(0, .ref a0), (1, .int x1), (2, .int x2), (3, .int x3)] [] Th M 0 0
  refine m_iload_n dX10_riddle_0 rfl 1 rfl ?_
  refine m_iconst (v := 0) dX10_riddle_1 (by decide) ?_
  refine m_bipush (v := 9) dX10_riddle_2 (by decide) ?_
  refine m_invS (As := [.int x1, .int 0, .int 9]) (d' := d) (mc' := 0) (ms' := 0) (rest := []) i_10_within s_10_within l_X10_79 dX10_riddle_4 rfl rfl (Nat.le_of_ble_eq_true rfl) (Nat.le_refl _) ⟨Nat.le_refl _, Nat.le_refl _⟩ (m_Ci h (fun v2 M1 h => ?_))
  show m_W (d + 1) 0 0 yX10_riddle cX10_riddle 4 (some .int) (m_qi Th Q) 7 [(0, .ref a0), (1, .int x1), (2, .int x2), (3, .int x3)] [.int v2] Th M1 0 0
  refine m_if_eq (tgt := 30) dX10_riddle_7 (by decide) (fun c1 => ?_) (fun c1 => ?_)
  · rw [if_pos c1] at h
    refine m_iconst (v := (-1)) dX10_riddle_30 (by decide) ?_
    exact m_ireturn dX10_riddle_31 rfl rfl ⟨rfl, _, rfl, h⟩
  · rw [if_neg c1] at h
    refine m_iload_n dX10_riddle_10 rfl 2 rfl ?_
    refine m_iconst (v := 0) dX10_riddle_11 (by decide) ?_
    refine m_bipush (v := 30) dX10_riddle_12 (by decide) ?_
    refine m_invS (As := [.int x2, .int 0, .int 30]) (d' := d) (mc' := 0) (ms' := 0) (rest := []) i_10_within s_10_within l_X10_79 dX10_riddle_14 rfl rfl (Nat.le_of_ble_eq_true rfl) (Nat.le_refl _) ⟨Nat.le_refl _, Nat.le_refl _⟩ (m_Ci h (fun v4 M3 h => ?_))
    show m_W (d + 1) 0 0 yX10_riddle cX10_riddle 4 (some .int) (m_qi Th Q) 17 [(0, .ref a0), (1, .int x1), (2, .int x2), (3, .int x3)] [.int v4] Th M3 0 0
    refine m_if_eq (tgt := 30) dX10_riddle_17 (by decide) (fun c1 => ?_) (fun c1 => ?_)
    · rw [if_pos c1] at h
      refine m_iconst (v := (-1)) dX10_riddle_30 (by decide) ?_
      exact m_ireturn dX10_riddle_31 rfl rfl ⟨rfl, _, rfl, h⟩
    · rw [if_neg c1] at h
      refine m_iload_n dX10_riddle_20 rfl 3 rfl ?_
      refine m_iconst (v := 0) dX10_riddle_21 (by decide) ?_
      refine m_bipush (v := 30) dX10_riddle_22 (by decide) ?_
      refine m_invS (As := [.int x3, .int 0, .int 30]) (d' := d) (mc' := 0) (ms' := 0) (rest := []) i_10_within s_10_within l_X10_79 dX10_riddle_24 rfl rfl (Nat.le_of_ble_eq_true rfl) (Nat.le_refl _) ⟨Nat.le_refl _, Nat.le_refl _⟩ (m_Ci h (fun v6 M5 h => ?_))
      show m_W (d + 1) 0 0 yX10_riddle cX10_riddle 4 (some .int) (m_qi Th Q) 27 [(0, .ref a0), (1, .int x1), (2, .int x2), (3, .int x3)] [.int v6] Th M5 0 0
      refine m_if_ne (tgt := 32) dX10_riddle_27 (by decide) (fun c1 => ?_) (fun c1 => ?_)
      · rw [if_neg c1] at h
        refine m_aload_n dX10_riddle_32 rfl 0 rfl ?_
        obtain ⟨q7, h⟩ := h
        obtain ⟨r8, q9, h⟩ := h
        refine m_getr f_X10_19 rfl dX10_riddle_33 q7 q9 ?_
        obtain ⟨q10, h⟩ := h
        refine m_geti f_X10_83 rfl dX10_riddle_36 q10 ?_
        refine m_iconst (v := 5) dX10_riddle_39 (by decide) ?_
        refine m_icmp_lt (tgt := 45) dX10_riddle_40 (by decide) (fun c1 => ?_) (fun c1 => ?_)
        · rw [if_pos c1] at h
          refine m_aload_n dX10_riddle_45 rfl 0 rfl ?_
          obtain ⟨r11, q12, h⟩ := h
          refine m_getr f_X10_59 rfl dX10_riddle_46 q7 q12 ?_
          obtain ⟨q15, h⟩ := h
          refine m_invV (ci := 6) (As := []) (d' := d) (mc' := 0) (ms' := 0) (rest := []) i_6_fall v_6_fall t_6_fall l_X10_87 ⟨_, _, rfl⟩ dX10_riddle_49 rfl rfl q15 (Nat.le_of_ble_eq_true rfl) (Nat.le_refl _) ⟨Nat.le_refl _, Nat.le_refl _⟩ (m_Cv h (fun M13 h => ?_))
          show m_W (d + 1) 0 0 yX10_riddle cX10_riddle 4 (some .int) (m_qi Th Q) 52 [(0, .ref a0), (1, .int x1), (2, .int x2), (3, .int x3)] [] Th M13 0 0
          refine m_aload_n dX10_riddle_52 rfl 0 rfl ?_
          refine m_invV (ci := 10) (As := []) (d' := d) (mc' := 0) (ms' := 0) (rest := []) i_10_logFalls v_10_logFalls t_10_logFalls l_X10_90 ⟨_, _, rfl⟩ dX10_riddle_53 rfl rfl q7 (Nat.le_of_ble_eq_true rfl) (Nat.le_refl _) ⟨Nat.le_refl _, Nat.le_refl _⟩ (m_Cv h (fun M16 h => ?_))
          show m_W (d + 1) 0 0 yX10_riddle cX10_riddle 4 (some .int) (m_qi Th Q) 56 [(0, .ref a0), (1, .int x1), (2, .int x2), (3, .int x3)] [] Th M16 0 0
          refine m_aload_n dX10_riddle_56 rfl 0 rfl ?_
          obtain ⟨r18, q19, h⟩ := h
          refine m_getr f_X10_19 rfl dX10_riddle_57 q7 q19 ?_
          refine m_iload_n dX10_riddle_60 rfl 1 rfl ?_
          refine m_iload_n dX10_riddle_61 rfl 2 rfl ?_
          refine m_iload_n dX10_riddle_62 rfl 3 rfl ?_
          obtain ⟨q22, h⟩ := h
          refine m_invV (ci := 2) (As := [.int x1, .int x2, .int x3]) (d' := d) (mc' := 0) (ms' := 0) (rest := []) i_2_addRiddle v_2_addRiddle t_2_addRiddle l_X10_93 ⟨_, _, rfl⟩ dX10_riddle_63 rfl rfl q22 (Nat.le_of_ble_eq_true rfl) (Nat.le_refl _) ⟨Nat.le_refl _, Nat.le_refl _⟩ (m_Ci h (fun v21 M20 h => ?_))
          show m_W (d + 1) 0 0 yX10_riddle cX10_riddle 4 (some .int) (m_qi Th Q) 66 [(0, .ref a0), (1, .int x1), (2, .int x2), (3, .int x3)] [.int v21] Th M20 0 0
          exact m_ireturn dX10_riddle_66 rfl rfl ⟨rfl, _, rfl, h⟩
        · rw [if_neg c1] at h
          refine m_iconst (v := (-1)) dX10_riddle_43 (by decide) ?_
          exact m_ireturn dX10_riddle_44 rfl rfl ⟨rfl, _, rfl, h⟩
      · rw [if_pos c1] at h
        refine m_iconst (v := (-1)) dX10_riddle_30 (by decide) ?_
        exact m_ireturn dX10_riddle_31 rfl rfl ⟨rfl, _, rfl, h⟩
set_option maxHeartbeats 4000000 in
set_option maxRecDepth 100000 in
theorem e10_band {d : Nat} {Th : mT} {Q : Int32 → mM → Prop} {a0 : Nat} {x1 : Int32} {x2 : Int32} {x3 : Int32} {M : mM} (h : P10_within d Th x1 0 9 M (fun (v2 : Int32) (M1 : mM) => if v2 = 0 then (Q (-1) M1) else (P10_within d Th x2 1 9 M1 (fun (v4 : Int32) (M3 : mM) => if v4 = 0 then (Q (-1) M3) else (P10_within d Th x3 0 1 M3 (fun (v6 : Int32) (M5 : mM) => if v6 = 0 then (Q (-1) M5) else (Th.2.2 a0 = some (.inl 10) ∧ (∃ r8 : Nat, M5.2.2 a0 1 = some r8 ∧ (Th.2.2 r8 = some (.inl 2) ∧ (if ((M5).1 r8 1) < 5 then (P10_logFalls d Th a0 M5 (fun M11 : mM => ∃ r13 : Nat, M11.2.2 a0 1 = some r13 ∧ (Th.2.2 r13 = some (.inl 2) ∧ (P2_addBand d Th r13 x1 x2 x3 M11 (fun (v16 : Int32) (M15 : mM) => Q v16 M15))))) else (Q (-1) M5))))))))))) : P10_band (d + 1) Th a0 x1 x2 x3 M Q := by
  refine m_C.of (by decide +kernel) (Nat.le_of_ble_eq_true rfl) ?_
  show m_W (d + 1) 0 0 yX10_band cX10_band 4 (some .int) (m_qi Th Q) 0 [(0, .ref a0), (1, .int x1), (2, .int x2), (3, .int x3)] [] Th M 0 0
  refine m_iload_n dX10_band_0 rfl 1 rfl ?_
  refine m_iconst (v := 0) dX10_band_1 (by decide) ?_
  refine m_bipush (v := 9) dX10_band_2 (by decide) ?_
  refine m_invS (As := [.int x1, .int 0, .int 9]) (d' := d) (mc' := 0) (ms' := 0) (rest := []) i_10_within s_10_within l_X10_79 dX10_band_4 rfl rfl (Nat.le_of_ble_eq_true rfl) (Nat.le_refl _) ⟨Nat.le_refl _, Nat.le_refl _⟩ (m_Ci h (fun v2 M1 h => ?_))
  show m_W (d + 1) 0 0 yX10_band cX10_band 4 (some .int) (m_qi Th Q) 7 [(0, .ref a0), (1, .int x1), (2, .int x2), (3, .int x3)] [.int v2] Th M1 0 0
  refine m_if_eq (tgt := 29) dX10_band_7 (by decide) (fun c1 => ?_) (fun c1 => ?_)
  · rw [if_pos c1] at h
    refine m_iconst (v := (-1)) dX10_band_29 (by decide) ?_
    exact m_ireturn dX10_band_30 rfl rfl ⟨rfl, _, rfl, h⟩
  · rw [if_neg c1] at h
    refine m_iload_n dX10_band_10 rfl 2 rfl ?_
    refine m_iconst (v := 1) dX10_band_11 (by decide) ?_
    refine m_bipush (v := 9) dX10_band_12 (by decide) ?_
    refine m_invS (As := [.int x2, .int 1, .int 9]) (d' := d) (mc' := 0) (ms' := 0) (rest := []) i_10_within s_10_within l_X10_79 dX10_band_14 rfl rfl (Nat.le_of_ble_eq_true rfl) (Nat.le_refl _) ⟨Nat.le_refl _, Nat.le_refl _⟩ (m_Ci h (fun v4 M3 h => ?_))
    show m_W (d + 1) 0 0 yX10_band cX10_band 4 (some .int) (m_qi Th Q) 17 [(0, .ref a0), (1, .int x1), (2, .int x2), (3, .int x3)] [.int v4] Th M3 0 0
    refine m_if_eq (tgt := 29) dX10_band_17 (by decide) (fun c1 => ?_) (fun c1 => ?_)
    · rw [if_pos c1] at h
      refine m_iconst (v := (-1)) dX10_band_29 (by decide) ?_
      exact m_ireturn dX10_band_30 rfl rfl ⟨rfl, _, rfl, h⟩
    · rw [if_neg c1] at h
      refine m_iload_n dX10_band_20 rfl 3 rfl ?_
      refine m_iconst (v := 0) dX10_band_21 (by decide) ?_
      refine m_iconst (v := 1) dX10_band_22 (by decide) ?_
      refine m_invS (As := [.int x3, .int 0, .int 1]) (d' := d) (mc' := 0) (ms' := 0) (rest := []) i_10_within s_10_within l_X10_79 dX10_band_23 rfl rfl (Nat.le_of_ble_eq_true rfl) (Nat.le_refl _) ⟨Nat.le_refl _, Nat.le_refl _⟩ (m_Ci h (fun v6 M5 h => ?_))
      show m_W (d + 1) 0 0 yX10_band cX10_band 4 (some .int) (m_qi Th Q) 26 [(0, .ref a0), (1, .int x1), (2, .int x2), (3, .int x3)] [.int v6] Th M5 0 0
      refine m_if_ne (tgt := 31) dX10_band_26 (by decide) (fun c1 => ?_) (fun c1 => ?_)
      · rw [if_neg c1] at h
        refine m_aload_n dX10_band_31 rfl 0 rfl ?_
        obtain ⟨q7, h⟩ := h
        obtain ⟨r8, q9, h⟩ := h
        refine m_getr f_X10_19 rfl dX10_band_32 q7 q9 ?_
        obtain ⟨q10, h⟩ := h
        refine m_geti f_X10_97 rfl dX10_band_35 q10 ?_
        refine m_iconst (v := 5) dX10_band_38 (by decide) ?_
        refine m_icmp_lt (tgt := 44) dX10_band_39 (by decide) (fun c1 => ?_) (fun c1 => ?_)
        · rw [if_pos c1] at h
          refine m_aload_n dX10_band_44 rfl 0 rfl ?_
          refine m_invV (ci := 10) (As := []) (d' := d) (mc' := 0) (ms' := 0) (rest := []) i_10_logFalls v_10_logFalls t_10_logFalls l_X10_90 ⟨_, _, rfl⟩ dX10_band_45 rfl rfl q7 (Nat.le_of_ble_eq_true rfl) (Nat.le_refl _) ⟨Nat.le_refl _, Nat.le_refl _⟩ (m_Cv h (fun M11 h => ?_))
          show m_W (d + 1) 0 0 yX10_band cX10_band 4 (some .int) (m_qi Th Q) 48 [(0, .ref a0), (1, .int x1), (2, .int x2), (3, .int x3)] [] Th M11 0 0
          refine m_aload_n dX10_band_48 rfl 0 rfl ?_
          obtain ⟨r13, q14, h⟩ := h
          refine m_getr f_X10_19 rfl dX10_band_49 q7 q14 ?_
          refine m_iload_n dX10_band_52 rfl 1 rfl ?_
          refine m_iload_n dX10_band_53 rfl 2 rfl ?_
          refine m_iload_n dX10_band_54 rfl 3 rfl ?_
          obtain ⟨q17, h⟩ := h
          refine m_invV (ci := 2) (As := [.int x1, .int x2, .int x3]) (d' := d) (mc' := 0) (ms' := 0) (rest := []) i_2_addBand v_2_addBand t_2_addBand l_X10_100 ⟨_, _, rfl⟩ dX10_band_55 rfl rfl q17 (Nat.le_of_ble_eq_true rfl) (Nat.le_refl _) ⟨Nat.le_refl _, Nat.le_refl _⟩ (m_Ci h (fun v16 M15 h => ?_))
          show m_W (d + 1) 0 0 yX10_band cX10_band 4 (some .int) (m_qi Th Q) 58 [(0, .ref a0), (1, .int x1), (2, .int x2), (3, .int x3)] [.int v16] Th M15 0 0
          exact m_ireturn dX10_band_58 rfl rfl ⟨rfl, _, rfl, h⟩
        · rw [if_neg c1] at h
          refine m_iconst (v := (-1)) dX10_band_42 (by decide) ?_
          exact m_ireturn dX10_band_43 rfl rfl ⟨rfl, _, rfl, h⟩
      · rw [if_pos c1] at h
        refine m_iconst (v := (-1)) dX10_band_29 (by decide) ?_
        exact m_ireturn dX10_band_30 rfl rfl ⟨rfl, _, rfl, h⟩
set_option maxHeartbeats 4000000 in
set_option maxRecDepth 100000 in
theorem e10_weather {d : Nat} {Th : mT} {Q : Int32 → mM → Prop} {a0 : Nat} {x1 : Int32} {x2 : Int32} {M : mM} (h : P10_within d Th x1 1 4 M (fun (v2 : Int32) (M1 : mM) => if v2 = 0 then (Q 0 M1) else (P10_within d Th x2 0 1 M1 (fun (v4 : Int32) (M3 : mM) => if v4 = 0 then (Q 0 M3) else (Th.2.2 a0 = some (.inl 10) ∧ (∃ r6 : Nat, M3.2.2 a0 1 = some r6 ∧ (Th.2.2 r6 = some (.inl 2) ∧ (P2_setWeather d Th r6 x1 x2 M3 (fun M8 : mM => Q 1 M8))))))))) : P10_weather (d + 1) Th a0 x1 x2 M Q := by
  refine m_C.of (by decide +kernel) (Nat.le_of_ble_eq_true rfl) ?_
  show m_W (d + 1) 0 0 yX10_weather cX10_weather 3 (some .boolean) (m_qi Th Q) 0 [(0, .ref a0), (1, .int x1), (2, .int x2)] [] Th M 0 0
  refine m_iload_n dX10_weather_0 rfl 1 rfl ?_
  refine m_iconst (v := 1) dX10_weather_1 (by decide) ?_
  refine m_iconst (v := 4) dX10_weather_2 (by decide) ?_
  refine m_invS (As := [.int x1, .int 1, .int 4]) (d' := d) (mc' := 0) (ms' := 0) (rest := []) i_10_within s_10_within l_X10_79 dX10_weather_3 rfl rfl (Nat.le_of_ble_eq_true rfl) (Nat.le_refl _) ⟨Nat.le_refl _, Nat.le_refl _⟩ (m_Ci h (fun v2 M1 h => ?_))
  show m_W (d + 1) 0 0 yX10_weather cX10_weather 3 (some .boolean) (m_qi Th Q) 6 [(0, .ref a0), (1, .int x1), (2, .int x2)] [.int v2] Th M1 0 0
  refine m_if_eq (tgt := 18) dX10_weather_6 (by decide) (fun c1 => ?_) (fun c1 => ?_)
  · rw [if_pos c1] at h
    refine m_iconst (v := 0) dX10_weather_18 (by decide) ?_
    exact m_ireturn dX10_weather_19 rfl (by decide) ⟨rfl, _, rfl, h⟩
  · rw [if_neg c1] at h
    refine m_iload_n dX10_weather_9 rfl 2 rfl ?_
    refine m_iconst (v := 0) dX10_weather_10 (by decide) ?_
    refine m_iconst (v := 1) dX10_weather_11 (by decide) ?_
    refine m_invS (As := [.int x2, .int 0, .int 1]) (d' := d) (mc' := 0) (ms' := 0) (rest := []) i_10_within s_10_within l_X10_79 dX10_weather_12 rfl rfl (Nat.le_of_ble_eq_true rfl) (Nat.le_refl _) ⟨Nat.le_refl _, Nat.le_refl _⟩ (m_Ci h (fun v4 M3 h => ?_))
    show m_W (d + 1) 0 0 yX10_weather cX10_weather 3 (some .boolean) (m_qi Th Q) 15 [(0, .ref a0), (1, .int x1), (2, .int x2)] [.int v4] Th M3 0 0
    refine m_if_ne (tgt := 20) dX10_weather_15 (by decide) (fun c1 => ?_) (fun c1 => ?_)
    · rw [if_neg c1] at h
      refine m_aload_n dX10_weather_20 rfl 0 rfl ?_
      obtain ⟨q5, h⟩ := h
      obtain ⟨r6, q7, h⟩ := h
      refine m_getr f_X10_19 rfl dX10_weather_21 q5 q7 ?_
      refine m_iload_n dX10_weather_24 rfl 1 rfl ?_
      refine m_iload_n dX10_weather_25 rfl 2 rfl ?_
      obtain ⟨q10, h⟩ := h
      refine m_invV (ci := 2) (As := [.int x1, .int x2]) (d' := d) (mc' := 0) (ms' := 0) (rest := []) i_2_setWeather v_2_setWeather t_2_setWeather l_X10_103 ⟨_, _, rfl⟩ dX10_weather_26 rfl rfl q10 (Nat.le_of_ble_eq_true rfl) (Nat.le_refl _) ⟨Nat.le_refl _, Nat.le_refl _⟩ (m_Cv h (fun M8 h => ?_))
      show m_W (d + 1) 0 0 yX10_weather cX10_weather 3 (some .boolean) (m_qi Th Q) 29 [(0, .ref a0), (1, .int x1), (2, .int x2)] [] Th M8 0 0
      refine m_iconst (v := 1) dX10_weather_29 (by decide) ?_
      exact m_ireturn dX10_weather_30 rfl (by decide) ⟨rfl, _, rfl, h⟩
    · rw [if_pos c1] at h
      refine m_iconst (v := 0) dX10_weather_18 (by decide) ?_
      exact m_ireturn dX10_weather_19 rfl (by decide) ⟨rfl, _, rfl, h⟩
set_option maxHeartbeats 4000000 in
set_option maxRecDepth 100000 in
theorem e10_feed {d : Nat} {Th : mT} {Q : Int32 → mM → Prop} {a0 : Nat} {x1 : Int32} {x2 : Int32} {x3 : Int32} {x4 : Int32} {x5 : Int32} {M : mM} (h : Th.2.2 a0 = some (.inl 10) ∧ (∃ r2 : Nat, M.2.2 a0 0 = some r2 ∧ (Th.2.2 r2 = some (.inl 9) ∧ (if ((M).1 r2 1) ≤ 200 then (P9_put d Th r2 x1 M (fun M5 : mM => ∃ r7 : Nat, M5.2.2 a0 0 = some r7 ∧ (Th.2.2 r7 = some (.inl 9) ∧ (P9_put d Th r7 x2 M5 (fun M9 : mM => ∃ r12 : Nat, M9.2.2 a0 0 = some r12 ∧ (Th.2.2 r12 = some (.inl 9) ∧ (P9_put d Th r12 x3 M9 (fun M14 : mM => ∃ r17 : Nat, M14.2.2 a0 0 = some r17 ∧ (Th.2.2 r17 = some (.inl 9) ∧ (P9_put d Th r17 x4 M14 (fun M19 : mM => ∃ r22 : Nat, M19.2.2 a0 0 = some r22 ∧ (Th.2.2 r22 = some (.inl 9) ∧ (P9_put d Th r22 x5 M19 (fun M24 : mM => ∃ r27 : Nat, M24.2.2 a0 0 = some r27 ∧ (Th.2.2 r27 = some (.inl 9) ∧ (Q (((M24).1 r27 1)) M24)))))))))))))))) else (Q (-1) M))))) : P10_feed (d + 1) Th a0 x1 x2 x3 x4 x5 M Q := by
  refine m_C.of (by decide +kernel) (Nat.le_of_ble_eq_true rfl) ?_
  show m_W (d + 1) 0 0 yX10_feed cX10_feed 6 (some .int) (m_qi Th Q) 0 [(0, .ref a0), (1, .int x1), (2, .int x2), (3, .int x3), (4, .int x4), (5, .int x5)] [] Th M 0 0
  refine m_aload_n dX10_feed_0 rfl 0 rfl ?_
  obtain ⟨q1, h⟩ := h
  obtain ⟨r2, q3, h⟩ := h
  refine m_getr f_X10_10 rfl dX10_feed_1 q1 q3 ?_
  obtain ⟨q4, h⟩ := h
  refine m_geti f_X10_107 rfl dX10_feed_4 q4 ?_
  refine m_sipush (v := 200) dX10_feed_7 (by decide) ?_
  refine m_icmp_le (tgt := 15) dX10_feed_10 (by decide) (fun c1 => ?_) (fun c1 => ?_)
  · rw [if_pos c1] at h
    refine m_aload_n dX10_feed_15 rfl 0 rfl ?_
    refine m_getr f_X10_10 rfl dX10_feed_16 q1 q3 ?_
    refine m_iload_n dX10_feed_19 rfl 1 rfl ?_
    refine m_invV (ci := 9) (As := [.int x1]) (d' := d) (mc' := 0) (ms' := 0) (rest := []) i_9_put v_9_put t_9_put l_X10_110 ⟨_, _, rfl⟩ dX10_feed_20 rfl rfl q4 (Nat.le_of_ble_eq_true rfl) (Nat.le_refl _) ⟨Nat.le_refl _, Nat.le_refl _⟩ (m_Cv h (fun M5 h => ?_))
    show m_W (d + 1) 0 0 yX10_feed cX10_feed 6 (some .int) (m_qi Th Q) 23 [(0, .ref a0), (1, .int x1), (2, .int x2), (3, .int x3), (4, .int x4), (5, .int x5)] [] Th M5 0 0
    refine m_aload_n dX10_feed_23 rfl 0 rfl ?_
    obtain ⟨r7, q8, h⟩ := h
    refine m_getr f_X10_10 rfl dX10_feed_24 q1 q8 ?_
    refine m_iload_n dX10_feed_27 rfl 2 rfl ?_
    obtain ⟨q11, h⟩ := h
    refine m_invV (ci := 9) (As := [.int x2]) (d' := d) (mc' := 0) (ms' := 0) (rest := []) i_9_put v_9_put t_9_put l_X10_110 ⟨_, _, rfl⟩ dX10_feed_28 rfl rfl q11 (Nat.le_of_ble_eq_true rfl) (Nat.le_refl _) ⟨Nat.le_refl _, Nat.le_refl _⟩ (m_Cv h (fun M9 h => ?_))
    show m_W (d + 1) 0 0 yX10_feed cX10_feed 6 (some .int) (m_qi Th Q) 31 [(0, .ref a0), (1, .int x1), (2, .int x2), (3, .int x3), (4, .int x4), (5, .int x5)] [] Th M9 0 0
    refine m_aload_n dX10_feed_31 rfl 0 rfl ?_
    obtain ⟨r12, q13, h⟩ := h
    refine m_getr f_X10_10 rfl dX10_feed_32 q1 q13 ?_
    refine m_iload_n dX10_feed_35 rfl 3 rfl ?_
    obtain ⟨q16, h⟩ := h
    refine m_invV (ci := 9) (As := [.int x3]) (d' := d) (mc' := 0) (ms' := 0) (rest := []) i_9_put v_9_put t_9_put l_X10_110 ⟨_, _, rfl⟩ dX10_feed_36 rfl rfl q16 (Nat.le_of_ble_eq_true rfl) (Nat.le_refl _) ⟨Nat.le_refl _, Nat.le_refl _⟩ (m_Cv h (fun M14 h => ?_))
    show m_W (d + 1) 0 0 yX10_feed cX10_feed 6 (some .int) (m_qi Th Q) 39 [(0, .ref a0), (1, .int x1), (2, .int x2), (3, .int x3), (4, .int x4), (5, .int x5)] [] Th M14 0 0
    refine m_aload_n dX10_feed_39 rfl 0 rfl ?_
    obtain ⟨r17, q18, h⟩ := h
    refine m_getr f_X10_10 rfl dX10_feed_40 q1 q18 ?_
    refine m_iload dX10_feed_43 4 rfl ?_
    obtain ⟨q21, h⟩ := h
    refine m_invV (ci := 9) (As := [.int x4]) (d' := d) (mc' := 0) (ms' := 0) (rest := []) i_9_put v_9_put t_9_put l_X10_110 ⟨_, _, rfl⟩ dX10_feed_45 rfl rfl q21 (Nat.le_of_ble_eq_true rfl) (Nat.le_refl _) ⟨Nat.le_refl _, Nat.le_refl _⟩ (m_Cv h (fun M19 h => ?_))
    show m_W (d + 1) 0 0 yX10_feed cX10_feed 6 (some .int) (m_qi Th Q) 48 [(0, .ref a0), (1, .int x1), (2, .int x2), (3, .int x3), (4, .int x4), (5, .int x5)] [] Th M19 0 0
    refine m_aload_n dX10_feed_48 rfl 0 rfl ?_
    obtain ⟨r22, q23, h⟩ := h
    refine m_getr f_X10_10 rfl dX10_feed_49 q1 q23 ?_
    refine m_iload dX10_feed_52 5 rfl ?_
    obtain ⟨q26, h⟩ := h
    refine m_invV (ci := 9) (As := [.int x5]) (d' := d) (mc' := 0) (ms' := 0) (rest := []) i_9_put v_9_put t_9_put l_X10_110 ⟨_, _, rfl⟩ dX10_feed_54 rfl rfl q26 (Nat.le_of_ble_eq_true rfl) (Nat.le_refl _) ⟨Nat.le_refl _, Nat.le_refl _⟩ (m_Cv h (fun M24 h => ?_))
    show m_W (d + 1) 0 0 yX10_feed cX10_feed 6 (some .int) (m_qi Th Q) 57 [(0, .ref a0), (1, .int x1), (2, .int x2), (3, .int x3), (4, .int x4), (5, .int x5)] [] Th M24 0 0
    refine m_aload_n dX10_feed_57 rfl 0 rfl ?_
    obtain ⟨r27, q28, h⟩ := h
    refine m_getr f_X10_10 rfl dX10_feed_58 q1 q28 ?_
    obtain ⟨q29, h⟩ := h
    refine m_geti f_X10_107 rfl dX10_feed_61 q29 ?_
    exact m_ireturn dX10_feed_64 rfl rfl ⟨rfl, _, rfl, h⟩
  · rw [if_neg c1] at h
    refine m_iconst (v := (-1)) dX10_feed_13 (by decide) ?_
    exact m_ireturn dX10_feed_14 rfl rfl ⟨rfl, _, rfl, h⟩
set_option maxHeartbeats 4000000 in
set_option maxRecDepth 100000 in
theorem e10_law {d : Nat} {Th : mT} {Q : Int32 → mM → Prop} {a0 : Nat} {x1 : Int32} {M : mM} (h : P10_within d Th x1 1 200 M (fun (v2 : Int32) (M1 : mM) => if v2 = 0 then (Q (-1) M1) else (Th.2.2 a0 = some (.inl 10) ∧ (∃ r4 : Nat, M1.2.2 a0 0 = some r4 ∧ (Th.2.2 r4 = some (.inl 9) ∧ (if x1 ≤ ((M1).1 r4 1) then (∃ r7 : Nat, M1.2.2 a0 1 = some r7 ∧ (Th.2.2 r7 = some (.inl 2) ∧ (∃ r10 : Nat, M1.2.2 r7 5 = some r10 ∧ (Th.2.2 r10 = some (.inl 4) ∧ (P4_replace d Th r10 r4 x1 M1 (fun (v13 : Int32) (M12 : mM) => ∃ r15 : Nat, M12.2.2 a0 1 = some r15 ∧ (Th.2.2 r15 = some (.inl 2) ∧ (∃ r18 : Nat, M12.2.2 a0 0 = some r18 ∧ (Th.2.2 r18 = some (.inl 9) ∧ (P9_drop d Th r18 (m_ui M12 r15 4 ((((M12).1 r15 4) + 1))) (fun M20 : mM => Q v13 M20))))))))))) else (Q (-1) M1))))))) : P10_law (d + 1) Th a0 x1 M Q := by
  refine m_C.of (by decide +kernel) (Nat.le_of_ble_eq_true rfl) ?_
  show m_W (d + 1) 0 0 yX10_law cX10_law 3 (some .int) (m_qi Th Q) 0 [(0, .ref a0), (1, .int x1)] [] Th M 0 0
  refine m_iload_n dX10_law_0 rfl 1 rfl ?_
  refine m_iconst (v := 1) dX10_law_1 (by decide) ?_
  refine m_sipush (v := 200) dX10_law_2 (by decide) ?_
  refine m_invS (As := [.int x1, .int 1, .int 200]) (d' := d) (mc' := 0) (ms' := 0) (rest := []) i_10_within s_10_within l_X10_79 dX10_law_5 rfl rfl (Nat.le_of_ble_eq_true rfl) (Nat.le_refl _) ⟨Nat.le_refl _, Nat.le_refl _⟩ (m_Ci h (fun v2 M1 h => ?_))
  show m_W (d + 1) 0 0 yX10_law cX10_law 3 (some .int) (m_qi Th Q) 8 [(0, .ref a0), (1, .int x1)] [.int v2] Th M1 0 0
  refine m_if_eq (tgt := 22) dX10_law_8 (by decide) (fun c1 => ?_) (fun c1 => ?_)
  · rw [if_pos c1] at h
    refine m_iconst (v := (-1)) dX10_law_22 (by decide) ?_
    exact m_ireturn dX10_law_23 rfl rfl ⟨rfl, _, rfl, h⟩
  · rw [if_neg c1] at h
    refine m_iload_n dX10_law_11 rfl 1 rfl ?_
    refine m_aload_n dX10_law_12 rfl 0 rfl ?_
    obtain ⟨q3, h⟩ := h
    obtain ⟨r4, q5, h⟩ := h
    refine m_getr f_X10_10 rfl dX10_law_13 q3 q5 ?_
    obtain ⟨q6, h⟩ := h
    refine m_geti f_X10_107 rfl dX10_law_16 q6 ?_
    refine m_icmp_le (tgt := 24) dX10_law_19 (by decide) (fun c1 => ?_) (fun c1 => ?_)
    · rw [if_pos c1] at h
      refine m_aload_n dX10_law_24 rfl 0 rfl ?_
      obtain ⟨r7, q8, h⟩ := h
      refine m_getr f_X10_19 rfl dX10_law_25 q3 q8 ?_
      obtain ⟨q9, h⟩ := h
      obtain ⟨r10, q11, h⟩ := h
      refine m_getr f_X10_114 rfl dX10_law_28 q9 q11 ?_
      refine m_aload_n dX10_law_31 rfl 0 rfl ?_
      refine m_getr f_X10_10 rfl dX10_law_32 q3 q5 ?_
      refine m_iload_n dX10_law_35 rfl 1 rfl ?_
      obtain ⟨q14, h⟩ := h
      refine m_invV (ci := 4) (As := [.ref r4, .int x1]) (d' := d) (mc' := 0) (ms' := 0) (rest := []) i_4_replace v_4_replace t_4_replace l_X10_118 ⟨_, _, rfl⟩ dX10_law_36 rfl rfl q14 (Nat.le_of_ble_eq_true rfl) (Nat.le_refl _) ⟨Nat.le_refl _, Nat.le_refl _⟩ (m_Ci h (fun v13 M12 h => ?_))
      show m_W (d + 1) 0 0 yX10_law cX10_law 3 (some .int) (m_qi Th Q) 39 [(0, .ref a0), (1, .int x1)] [.int v13] Th M12 0 0
      refine m_istore_n (lv' := [(2, .int v13), (0, .ref a0), (1, .int x1)]) dX10_law_39 rfl (by decide) rfl ?_
      refine m_aload_n dX10_law_40 rfl 1 rfl ?_
      obtain ⟨r15, q16, h⟩ := h
      refine m_getr f_X10_19 rfl dX10_law_41 q3 q16 ?_
      refine m_dup dX10_law_44 rfl ?_
      obtain ⟨q17, h⟩ := h
      refine m_geti f_X10_124 rfl dX10_law_45 q17 ?_
      refine m_iconst (v := 1) dX10_law_48 (by decide) ?_
      refine m_iadd dX10_law_49 ?_
      refine m_puti f_X10_124 rfl (Or.inl rfl) dX10_law_50 q17 ⟨rfl, rfl⟩ ?_
      refine m_aload_n dX10_law_53 rfl 1 rfl ?_
      obtain ⟨r18, q19, h⟩ := h
      refine m_getr f_X10_10 rfl dX10_law_54 q3 q19 ?_
      obtain ⟨q22, h⟩ := h
      refine m_invV (ci := 9) (As := []) (d' := d) (mc' := 0) (ms' := 0) (rest := []) i_9_drop v_9_drop t_9_drop l_X10_127 ⟨_, _, rfl⟩ dX10_law_57 rfl rfl q22 (Nat.le_of_ble_eq_true rfl) (Nat.le_refl _) ⟨Nat.le_refl _, Nat.le_refl _⟩ (m_Cv h (fun M20 h => ?_))
      show m_W (d + 1) 0 0 yX10_law cX10_law 3 (some .int) (m_qi Th Q) 60 [(2, .int v13), (0, .ref a0), (1, .int x1)] [] Th M20 0 0
      refine m_iload_n dX10_law_60 rfl 0 rfl ?_
      exact m_ireturn dX10_law_61 rfl rfl ⟨rfl, _, rfl, h⟩
    · rw [if_neg c1] at h
      refine m_iconst (v := (-1)) dX10_law_22 (by decide) ?_
      exact m_ireturn dX10_law_23 rfl rfl ⟨rfl, _, rfl, h⟩
set_option maxHeartbeats 4000000 in
set_option maxRecDepth 100000 in
theorem e10_chance {d : Nat} {Th : mT} {Q : Int32 → mM → Prop} {a0 : Nat} {x1 : Int32} {x2 : Int32} {x3 : Int32} {x4 : Int32} {M : mM} (h : Th.2.2 a0 = some (.inl 10) ∧ (∃ r2 : Nat, M.2.2 a0 1 = some r2 ∧ (Th.2.2 r2 = some (.inl 2) ∧ (P2_hasBand d Th r2 x1 M (fun (v5 : Int32) (M4 : mM) => if v5 = 0 then (Q (-1) M4) else (∃ r7 : Nat, M4.2.2 a0 1 = some r7 ∧ (Th.2.2 r7 = some (.inl 2) ∧ (P2_hasRiddle d Th r7 x2 M4 (fun (v10 : Int32) (M9 : mM) => if v10 = 0 then (Q (-1) M9) else (P10_within d Th x3 0 5 M9 (fun (v13 : Int32) (M12 : mM) => if v13 = 0 then (Q (-1) M12) else (P10_within d Th x4 0 1 M12 (fun (v15 : Int32) (M14 : mM) => if v15 = 0 then (Q (-1) M14) else (∃ r16 : Nat, M14.2.2 a0 1 = some r16 ∧ (Th.2.2 r16 = some (.inl 2) ∧ (P2_skill d Th r16 x1 M14 (fun (v19 : Nat) (M18 : mM) => if x4 = 0 then (Th.2.2 v19 = some (.inl 8) ∧ (P8_goodAt d Th v19 x2 x3 M18 (fun (v22 : Int32) (M21 : mM) => Q v22 M21))) else (Th.2.2 v19 = some (.inl 8) ∧ (P8_badAt d Th v19 x2 x3 M18 (fun (v25 : Int32) (M24 : mM) => Q v25 M24)))))))))))))))))))) : P10_chance (d + 1) Th a0 x1 x2 x3 x4 M Q := by
  refine m_C.of (by decide +kernel) (Nat.le_of_ble_eq_true rfl) ?_
  show m_W (d + 1) 0 0 yX10_chance cX10_chance 6 (some .int) (m_qi Th Q) 0 [(0, .ref a0), (1, .int x1), (2, .int x2), (3, .int x3), (4, .int x4)] [] Th M 0 0
  refine m_aload_n dX10_chance_0 rfl 0 rfl ?_
  obtain ⟨q1, h⟩ := h
  obtain ⟨r2, q3, h⟩ := h
  refine m_getr f_X10_19 rfl dX10_chance_1 q1 q3 ?_
  refine m_iload_n dX10_chance_4 rfl 1 rfl ?_
  obtain ⟨q6, h⟩ := h
  refine m_invV (ci := 2) (As := [.int x1]) (d' := d) (mc' := 0) (ms' := 0) (rest := []) i_2_hasBand v_2_hasBand t_2_hasBand l_X10_130 ⟨_, _, rfl⟩ dX10_chance_5 rfl rfl q6 (Nat.le_of_ble_eq_true rfl) (Nat.le_refl _) ⟨Nat.le_refl _, Nat.le_refl _⟩ (m_Ci h (fun v5 M4 h => ?_))
  show m_W (d + 1) 0 0 yX10_chance cX10_chance 6 (some .int) (m_qi Th Q) 8 [(0, .ref a0), (1, .int x1), (2, .int x2), (3, .int x3), (4, .int x4)] [.int v5] Th M4 0 0
  refine m_if_eq (tgt := 22) dX10_chance_8 (by decide) (fun c1 => ?_) (fun c1 => ?_)
  · rw [if_pos c1] at h
    refine m_iconst (v := (-1)) dX10_chance_22 (by decide) ?_
    exact m_ireturn dX10_chance_23 rfl rfl ⟨rfl, _, rfl, h⟩
  · rw [if_neg c1] at h
    refine m_aload_n dX10_chance_11 rfl 0 rfl ?_
    obtain ⟨r7, q8, h⟩ := h
    refine m_getr f_X10_19 rfl dX10_chance_12 q1 q8 ?_
    refine m_iload_n dX10_chance_15 rfl 2 rfl ?_
    obtain ⟨q11, h⟩ := h
    refine m_invV (ci := 2) (As := [.int x2]) (d' := d) (mc' := 0) (ms' := 0) (rest := []) i_2_hasRiddle v_2_hasRiddle t_2_hasRiddle l_X10_134 ⟨_, _, rfl⟩ dX10_chance_16 rfl rfl q11 (Nat.le_of_ble_eq_true rfl) (Nat.le_refl _) ⟨Nat.le_refl _, Nat.le_refl _⟩ (m_Ci h (fun v10 M9 h => ?_))
    show m_W (d + 1) 0 0 yX10_chance cX10_chance 6 (some .int) (m_qi Th Q) 19 [(0, .ref a0), (1, .int x1), (2, .int x2), (3, .int x3), (4, .int x4)] [.int v10] Th M9 0 0
    refine m_if_ne (tgt := 24) dX10_chance_19 (by decide) (fun c1 => ?_) (fun c1 => ?_)
    · rw [if_neg c1] at h
      refine m_iload_n dX10_chance_24 rfl 3 rfl ?_
      refine m_iconst (v := 0) dX10_chance_25 (by decide) ?_
      refine m_iconst (v := 5) dX10_chance_26 (by decide) ?_
      refine m_invS (As := [.int x3, .int 0, .int 5]) (d' := d) (mc' := 0) (ms' := 0) (rest := []) i_10_within s_10_within l_X10_79 dX10_chance_27 rfl rfl (Nat.le_of_ble_eq_true rfl) (Nat.le_refl _) ⟨Nat.le_refl _, Nat.le_refl _⟩ (m_Ci h (fun v13 M12 h => ?_))
      show m_W (d + 1) 0 0 yX10_chance cX10_chance 6 (some .int) (m_qi Th Q) 30 [(0, .ref a0), (1, .int x1), (2, .int x2), (3, .int x3), (4, .int x4)] [.int v13] Th M12 0 0
      refine m_if_eq (tgt := 43) dX10_chance_30 (by decide) (fun c1 => ?_) (fun c1 => ?_)
      · rw [if_pos c1] at h
        refine m_iconst (v := (-1)) dX10_chance_43 (by decide) ?_
        exact m_ireturn dX10_chance_44 rfl rfl ⟨rfl, _, rfl, h⟩
      · rw [if_neg c1] at h
        refine m_iload dX10_chance_33 4 rfl ?_
        refine m_iconst (v := 0) dX10_chance_35 (by decide) ?_
        refine m_iconst (v := 1) dX10_chance_36 (by decide) ?_
        refine m_invS (As := [.int x4, .int 0, .int 1]) (d' := d) (mc' := 0) (ms' := 0) (rest := []) i_10_within s_10_within l_X10_79 dX10_chance_37 rfl rfl (Nat.le_of_ble_eq_true rfl) (Nat.le_refl _) ⟨Nat.le_refl _, Nat.le_refl _⟩ (m_Ci h (fun v15 M14 h => ?_))
        show m_W (d + 1) 0 0 yX10_chance cX10_chance 6 (some .int) (m_qi Th Q) 40 [(0, .ref a0), (1, .int x1), (2, .int x2), (3, .int x3), (4, .int x4)] [.int v15] Th M14 0 0
        refine m_if_ne (tgt := 45) dX10_chance_40 (by decide) (fun c1 => ?_) (fun c1 => ?_)
        · rw [if_neg c1] at h
          refine m_aload_n dX10_chance_45 rfl 0 rfl ?_
          obtain ⟨r16, q17, h⟩ := h
          refine m_getr f_X10_19 rfl dX10_chance_46 q1 q17 ?_
          refine m_iload_n dX10_chance_49 rfl 1 rfl ?_
          obtain ⟨q20, h⟩ := h
          refine m_invV (ci := 2) (As := [.int x1]) (d' := d) (mc' := 0) (ms' := 0) (rest := []) i_2_skill v_2_skill t_2_skill l_X10_137 ⟨_, _, rfl⟩ dX10_chance_50 rfl rfl q20 (Nat.le_of_ble_eq_true rfl) (Nat.le_refl _) ⟨Nat.le_refl _, Nat.le_refl _⟩ (m_Cr h (fun v19 M18 h => ?_))
          show m_W (d + 1) 0 0 yX10_chance cX10_chance 6 (some .int) (m_qi Th Q) 53 [(0, .ref a0), (1, .int x1), (2, .int x2), (3, .int x3), (4, .int x4)] [.ref v19] Th M18 0 0
          refine m_astore (lv' := [(5, .ref v19), (0, .ref a0), (1, .int x1), (2, .int x2), (3, .int x3), (4, .int x4)]) dX10_chance_53 (by decide) rfl ?_
          refine m_iload dX10_chance_55 5 rfl ?_
          refine m_if_ne (tgt := 70) dX10_chance_57 (by decide) (fun c1 => ?_) (fun c1 => ?_)
          · rw [if_neg c1] at h
            refine m_aload dX10_chance_70 0 rfl ?_
            refine m_iload_n dX10_chance_72 rfl 3 rfl ?_
            refine m_iload_n dX10_chance_73 rfl 4 rfl ?_
            obtain ⟨q26, h⟩ := h
            refine m_invV (ci := 8) (As := [.int x2, .int x3]) (d' := d) (mc' := 0) (ms' := 0) (rest := []) i_8_badAt v_8_badAt t_8_badAt l_X10_145 ⟨_, _, rfl⟩ dX10_chance_74 rfl rfl q26 (Nat.le_of_ble_eq_true rfl) (Nat.le_refl _) ⟨Nat.le_refl _, Nat.le_refl _⟩ (m_Ci h (fun v25 M24 h => ?_))
            show m_W (d + 1) 0 0 yX10_chance cX10_chance 6 (some .int) (m_qi Th Q) 77 [(5, .ref v19), (0, .ref a0), (1, .int x1), (2, .int x2), (3, .int x3), (4, .int x4)] [.int v25] Th M24 0 0
            exact m_ireturn dX10_chance_77 rfl rfl ⟨rfl, _, rfl, h⟩
          · rw [if_pos c1] at h
            refine m_aload dX10_chance_60 0 rfl ?_
            refine m_iload_n dX10_chance_62 rfl 3 rfl ?_
            refine m_iload_n dX10_chance_63 rfl 4 rfl ?_
            obtain ⟨q23, h⟩ := h
            refine m_invV (ci := 8) (As := [.int x2, .int x3]) (d' := d) (mc' := 0) (ms' := 0) (rest := []) i_8_goodAt v_8_goodAt t_8_goodAt l_X10_141 ⟨_, _, rfl⟩ dX10_chance_64 rfl rfl q23 (Nat.le_of_ble_eq_true rfl) (Nat.le_refl _) ⟨Nat.le_refl _, Nat.le_refl _⟩ (m_Ci h (fun v22 M21 h => ?_))
            show m_W (d + 1) 0 0 yX10_chance cX10_chance 6 (some .int) (m_qi Th Q) 67 [(5, .ref v19), (0, .ref a0), (1, .int x1), (2, .int x2), (3, .int x3), (4, .int x4)] [.int v22] Th M21 0 0
            refine m_goto (tgt := 77) dX10_chance_67 (by decide) ?_
            exact m_ireturn dX10_chance_77 rfl rfl ⟨rfl, _, rfl, h⟩
        · rw [if_pos c1] at h
          refine m_iconst (v := (-1)) dX10_chance_43 (by decide) ?_
          exact m_ireturn dX10_chance_44 rfl rfl ⟨rfl, _, rfl, h⟩
    · rw [if_pos c1] at h
      refine m_iconst (v := (-1)) dX10_chance_22 (by decide) ?_
      exact m_ireturn dX10_chance_23 rfl rfl ⟨rfl, _, rfl, h⟩
set_option maxHeartbeats 4000000 in
set_option maxRecDepth 100000 in
theorem e10_walk {d : Nat} {Th : mT} {Q : Int32 → mM → Prop} {a0 : Nat} {x1 : Int32} {x2 : Int32} {M : mM} (h : Th.2.2 a0 = some (.inl 10) ∧ (∃ r2 : Nat, M.2.2 a0 1 = some r2 ∧ (Th.2.2 r2 = some (.inl 2) ∧ (P2_steps d Th r2 x1 x2 M (fun (v5 : Int32) (M4 : mM) => Q v5 M4))))) : P10_walk (d + 1) Th a0 x1 x2 M Q := by
  refine m_C.of (by decide +kernel) (Nat.le_of_ble_eq_true rfl) ?_
  show m_W (d + 1) 0 0 yX10_walk cX10_walk 3 (some .int) (m_qi Th Q) 0 [(0, .ref a0), (1, .int x1), (2, .int x2)] [] Th M 0 0
  refine m_aload_n dX10_walk_0 rfl 0 rfl ?_
  obtain ⟨q1, h⟩ := h
  obtain ⟨r2, q3, h⟩ := h
  refine m_getr f_X10_19 rfl dX10_walk_1 q1 q3 ?_
  refine m_iload_n dX10_walk_4 rfl 1 rfl ?_
  refine m_iload_n dX10_walk_5 rfl 2 rfl ?_
  obtain ⟨q6, h⟩ := h
  refine m_invV (ci := 2) (As := [.int x1, .int x2]) (d' := d) (mc' := 0) (ms' := 0) (rest := []) i_2_steps v_2_steps t_2_steps l_X10_148 ⟨_, _, rfl⟩ dX10_walk_6 rfl rfl q6 (Nat.le_of_ble_eq_true rfl) (Nat.le_refl _) ⟨Nat.le_refl _, Nat.le_refl _⟩ (m_Ci h (fun v5 M4 h => ?_))
  show m_W (d + 1) 0 0 yX10_walk cX10_walk 3 (some .int) (m_qi Th Q) 9 [(0, .ref a0), (1, .int x1), (2, .int x2)] [.int v5] Th M4 0 0
  exact m_ireturn dX10_walk_9 rfl rfl ⟨rfl, _, rfl, h⟩
set_option maxHeartbeats 4000000 in
set_option maxRecDepth 100000 in
theorem h10_ways_65 {d : Nat} {Th : mT} {Q : Int64 → mM → Prop} {a0 : Nat} {x1 : Int32} {x2 : Int32} {x3 : Int32} {M : mM} (h : Th.2.2 a0 = some (.inl 10) ∧ (∃ r2 : Nat, M.2.2 a0 3 = some r2 ∧ (∃ r4 : Nat, M.2.2 a0 1 = some r4 ∧ (Th.2.2 r4 = some (.inl 2) ∧ (P2_skill d Th r4 x1 M (fun (v7 : Nat) (M6 : mM) => P10_goAlone d Th a0 r2 v7 M6 (fun M9 : mM => if 5 ≤ x3 then (if x3 = 5 then (∃ r11 : Nat, M9.2.2 a0 3 = some r11 ∧ (∃ r13 : Nat, M9.2.2 a0 1 = some r13 ∧ (Th.2.2 r13 = some (.inl 2) ∧ (Th.2.2 r11 = some (.inl 7) ∧ (P7_comeBy d Th r11 (((M9).1 r13 0)) x2 M9 (fun (v17 : Int64) (M16 : mM) => Q v17 M16)))))) else (∃ r19 : Nat, M9.2.2 a0 3 = some r19 ∧ (∃ r21 : Nat, M9.2.2 a0 1 = some r21 ∧ (Th.2.2 r21 = some (.inl 2) ∧ (Th.2.2 r19 = some (.inl 7) ∧ (P7_comeAt d Th r19 (((M9).1 r21 0)) x2 M9 (fun (v25 : Int64) (M24 : mM) => Q v25 M24))))))) else (∃ r27 : Nat, M9.2.2 a0 3 = some r27 ∧ (Th.2.2 r27 = some (.inl 7) ∧ (P7_comeBy d Th r27 x3 x2 M9 (fun (v30 : Int64) (M29 : mM) => Q v30 M29))))))))))) : H10_ways_65 (d + 1) Th Q a0 x1 x2 x3 M := by
  show m_W (d + 1) 0 0 yX10_ways cX10_ways 4 (some .long) (m_ql Th Q) 65 [(0, .ref a0), (1, .int x1), (2, .int x2), (3, .int x3)] [] Th M 0 0
  refine m_aload_n dX10_ways_65 rfl 0 rfl ?_
  refine m_aload_n dX10_ways_66 rfl 0 rfl ?_
  obtain ⟨q1, h⟩ := h
  obtain ⟨r2, q3, h⟩ := h
  refine m_getr f_X10_33 rfl dX10_ways_67 q1 q3 ?_
  refine m_aload_n dX10_ways_70 rfl 0 rfl ?_
  obtain ⟨r4, q5, h⟩ := h
  refine m_getr f_X10_19 rfl dX10_ways_71 q1 q5 ?_
  refine m_iload_n dX10_ways_74 rfl 1 rfl ?_
  obtain ⟨q8, h⟩ := h
  refine m_invV (ci := 2) (As := [.int x1]) (d' := d) (mc' := 0) (ms' := 0) (rest := [.ref r2, .ref a0]) i_2_skill v_2_skill t_2_skill l_X10_137 ⟨_, _, rfl⟩ dX10_ways_75 rfl rfl q8 (Nat.le_of_ble_eq_true rfl) (Nat.le_refl _) ⟨Nat.le_refl _, Nat.le_refl _⟩ (m_Cr h (fun v7 M6 h => ?_))
  show m_W (d + 1) 0 0 yX10_ways cX10_ways 4 (some .long) (m_ql Th Q) 78 [(0, .ref a0), (1, .int x1), (2, .int x2), (3, .int x3)] [.ref v7, .ref r2, .ref a0] Th M6 0 0
  refine m_invV (ci := 10) (As := [.ref r2, .ref v7]) (d' := d) (mc' := 0) (ms' := 0) (rest := []) i_10_goAlone v_10_goAlone t_10_goAlone l_X10_153 ⟨_, _, rfl⟩ dX10_ways_78 rfl rfl q1 (Nat.le_of_ble_eq_true rfl) (Nat.le_refl _) ⟨Nat.le_refl _, Nat.le_refl _⟩ (m_Cv h (fun M9 h => ?_))
  show m_W (d + 1) 0 0 yX10_ways cX10_ways 4 (some .long) (m_ql Th Q) 81 [(0, .ref a0), (1, .int x1), (2, .int x2), (3, .int x3)] [] Th M9 0 0
  refine m_iload_n dX10_ways_81 rfl 3 rfl ?_
  refine m_iconst (v := 5) dX10_ways_82 (by decide) ?_
  refine m_icmp_ge (tgt := 96) dX10_ways_83 (by decide) (fun c1 => ?_) (fun c1 => ?_)
  · rw [if_pos c1] at h
    refine m_iload_n dX10_ways_96 rfl 3 rfl ?_
    refine m_iconst (v := 5) dX10_ways_97 (by decide) ?_
    refine m_icmp_ne (tgt := 119) dX10_ways_98 (by decide) (fun c1 => ?_) (fun c1 => ?_)
    · rw [if_neg c1] at h
      refine m_aload_n dX10_ways_119 rfl 0 rfl ?_
      obtain ⟨r19, q20, h⟩ := h
      refine m_getr f_X10_33 rfl dX10_ways_120 q1 q20 ?_
      refine m_aload_n dX10_ways_123 rfl 0 rfl ?_
      obtain ⟨r21, q22, h⟩ := h
      refine m_getr f_X10_19 rfl dX10_ways_124 q1 q22 ?_
      obtain ⟨q23, h⟩ := h
      refine m_geti f_X10_83 rfl dX10_ways_127 q23 ?_
      refine m_iload_n dX10_ways_130 rfl 2 rfl ?_
      obtain ⟨q26, h⟩ := h
      refine m_invV (ci := 7) (As := [.int (((M9).1 r21 0)), .int x2]) (d' := d) (mc' := 0) (ms' := 0) (rest := []) i_7_comeAt v_7_comeAt t_7_comeAt l_X10_161 ⟨_, _, rfl⟩ dX10_ways_131 rfl rfl q26 (Nat.le_of_ble_eq_true rfl) (Nat.le_refl _) ⟨Nat.le_refl _, Nat.le_refl _⟩ (m_Cl h (fun v25 M24 h => ?_))
      show m_W (d + 1) 0 0 yX10_ways cX10_ways 4 (some .long) (m_ql Th Q) 134 [(0, .ref a0), (1, .int x1), (2, .int x2), (3, .int x3)] [.long v25] Th M24 0 0
      exact m_lreturn dX10_ways_134 rfl ⟨rfl, _, rfl, h⟩
    · rw [if_pos c1] at h
      refine m_aload_n dX10_ways_101 rfl 0 rfl ?_
      obtain ⟨r11, q12, h⟩ := h
      refine m_getr f_X10_33 rfl dX10_ways_102 q1 q12 ?_
      refine m_aload_n dX10_ways_105 rfl 0 rfl ?_
      obtain ⟨r13, q14, h⟩ := h
      refine m_getr f_X10_19 rfl dX10_ways_106 q1 q14 ?_
      obtain ⟨q15, h⟩ := h
      refine m_geti f_X10_83 rfl dX10_ways_109 q15 ?_
      refine m_iload_n dX10_ways_112 rfl 2 rfl ?_
      obtain ⟨q18, h⟩ := h
      refine m_invV (ci := 7) (As := [.int (((M9).1 r13 0)), .int x2]) (d' := d) (mc' := 0) (ms' := 0) (rest := []) i_7_comeBy v_7_comeBy t_7_comeBy l_X10_157 ⟨_, _, rfl⟩ dX10_ways_113 rfl rfl q18 (Nat.le_of_ble_eq_true rfl) (Nat.le_refl _) ⟨Nat.le_refl _, Nat.le_refl _⟩ (m_Cl h (fun v17 M16 h => ?_))
      show m_W (d + 1) 0 0 yX10_ways cX10_ways 4 (some .long) (m_ql Th Q) 116 [(0, .ref a0), (1, .int x1), (2, .int x2), (3, .int x3)] [.long v17] Th M16 0 0
      refine m_goto (tgt := 134) dX10_ways_116 (by decide) ?_
      exact m_lreturn dX10_ways_134 rfl ⟨rfl, _, rfl, h⟩
  · rw [if_neg c1] at h
    refine m_aload_n dX10_ways_86 rfl 0 rfl ?_
    obtain ⟨r27, q28, h⟩ := h
    refine m_getr f_X10_33 rfl dX10_ways_87 q1 q28 ?_
    refine m_iload_n dX10_ways_90 rfl 3 rfl ?_
    refine m_iload_n dX10_ways_91 rfl 2 rfl ?_
    obtain ⟨q31, h⟩ := h
    refine m_invV (ci := 7) (As := [.int x3, .int x2]) (d' := d) (mc' := 0) (ms' := 0) (rest := []) i_7_comeBy v_7_comeBy t_7_comeBy l_X10_157 ⟨_, _, rfl⟩ dX10_ways_92 rfl rfl q31 (Nat.le_of_ble_eq_true rfl) (Nat.le_refl _) ⟨Nat.le_refl _, Nat.le_refl _⟩ (m_Cl h (fun v30 M29 h => ?_))
    show m_W (d + 1) 0 0 yX10_ways cX10_ways 4 (some .long) (m_ql Th Q) 95 [(0, .ref a0), (1, .int x1), (2, .int x2), (3, .int x3)] [.long v30] Th M29 0 0
    exact m_lreturn dX10_ways_95 rfl ⟨rfl, _, rfl, h⟩
set_option maxHeartbeats 4000000 in
set_option maxRecDepth 100000 in
theorem e10_ways {d : Nat} {Th : mT} {Q : Int64 → mM → Prop} {a0 : Nat} {x1 : Int32} {x2 : Int32} {x3 : Int32} {M : mM} (h : Th.2.2 a0 = some (.inl 10) ∧ (∃ r2 : Nat, M.2.2 a0 1 = some r2 ∧ (Th.2.2 r2 = some (.inl 2) ∧ (P2_hasBand d Th r2 x1 M (fun (v5 : Int32) (M4 : mM) => if v5 = 0 then (Q (-1) M4) else (∃ r7 : Nat, M4.2.2 a0 1 = some r7 ∧ (Th.2.2 r7 = some (.inl 2) ∧ (if ((M4).1 r7 0) = 0 then (Q (-1) M4) else (P10_within d Th x2 1 10 M4 (fun (v11 : Int32) (M10 : mM) => if v11 = 0 then (Q (-1) M10) else (P10_within d Th x3 0 6 M10 (fun (v13 : Int32) (M12 : mM) => if v13 = 0 then (Q (-1) M12) else (if 5 ≤ x3 then (H10_ways_65 (d + 1) Th Q a0 x1 x2 x3 M12) else (∃ r14 : Nat, M12.2.2 a0 1 = some r14 ∧ (Th.2.2 r14 = some (.inl 2) ∧ (P2_hasRiddle d Th r14 x3 M12 (fun (v17 : Int32) (M16 : mM) => if v17 = 0 then (Q (-1) M16) else (H10_ways_65 (d + 1) Th Q a0 x1 x2 x3 M16)))))))))))))))))) : P10_ways (d + 1) Th a0 x1 x2 x3 M Q := by
  refine m_C.of (by decide +kernel) (Nat.le_of_ble_eq_true rfl) ?_
  show m_W (d + 1) 0 0 yX10_ways cX10_ways 4 (some .long) (m_ql Th Q) 0 [(0, .ref a0), (1, .int x1), (2, .int x2), (3, .int x3)] [] Th M 0 0
  refine m_aload_n dX10_ways_0 rfl 0 rfl ?_
  obtain ⟨q1, h⟩ := h
  obtain ⟨r2, q3, h⟩ := h
  refine m_getr f_X10_19 rfl dX10_ways_1 q1 q3 ?_
  refine m_iload_n dX10_ways_4 rfl 1 rfl ?_
  obtain ⟨q6, h⟩ := h
  refine m_invV (ci := 2) (As := [.int x1]) (d' := d) (mc' := 0) (ms' := 0) (rest := []) i_2_hasBand v_2_hasBand t_2_hasBand l_X10_130 ⟨_, _, rfl⟩ dX10_ways_5 rfl rfl q6 (Nat.le_of_ble_eq_true rfl) (Nat.le_refl _) ⟨Nat.le_refl _, Nat.le_refl _⟩ (m_Ci h (fun v5 M4 h => ?_))
  show m_W (d + 1) 0 0 yX10_ways cX10_ways 4 (some .long) (m_ql Th Q) 8 [(0, .ref a0), (1, .int x1), (2, .int x2), (3, .int x3)] [.int v5] Th M4 0 0
  refine m_if_eq (tgt := 41) dX10_ways_8 (by decide) (fun c1 => ?_) (fun c1 => ?_)
  · rw [if_pos c1] at h
    refine m_ldc2 k_X10_151 dX10_ways_41 ?_
    exact m_lreturn dX10_ways_44 rfl ⟨rfl, _, rfl, h⟩
  · rw [if_neg c1] at h
    refine m_aload_n dX10_ways_11 rfl 0 rfl ?_
    obtain ⟨r7, q8, h⟩ := h
    refine m_getr f_X10_19 rfl dX10_ways_12 q1 q8 ?_
    obtain ⟨q9, h⟩ := h
    refine m_geti f_X10_83 rfl dX10_ways_15 q9 ?_
    refine m_if_eq (tgt := 41) dX10_ways_18 (by decide) (fun c1 => ?_) (fun c1 => ?_)
    · rw [if_pos c1] at h
      refine m_ldc2 k_X10_151 dX10_ways_41 ?_
      exact m_lreturn dX10_ways_44 rfl ⟨rfl, _, rfl, h⟩
    · rw [if_neg c1] at h
      refine m_iload_n dX10_ways_21 rfl 2 rfl ?_
      refine m_iconst (v := 1) dX10_ways_22 (by decide) ?_
      refine m_bipush (v := 10) dX10_ways_23 (by decide) ?_
      refine m_invS (As := [.int x2, .int 1, .int 10]) (d' := d) (mc' := 0) (ms' := 0) (rest := []) i_10_within s_10_within l_X10_79 dX10_ways_25 rfl rfl (Nat.le_of_ble_eq_true rfl) (Nat.le_refl _) ⟨Nat.le_refl _, Nat.le_refl _⟩ (m_Ci h (fun v11 M10 h => ?_))
      show m_W (d + 1) 0 0 yX10_ways cX10_ways 4 (some .long) (m_ql Th Q) 28 [(0, .ref a0), (1, .int x1), (2, .int x2), (3, .int x3)] [.int v11] Th M10 0 0
      refine m_if_eq (tgt := 41) dX10_ways_28 (by decide) (fun c1 => ?_) (fun c1 => ?_)
      · rw [if_pos c1] at h
        refine m_ldc2 k_X10_151 dX10_ways_41 ?_
        exact m_lreturn dX10_ways_44 rfl ⟨rfl, _, rfl, h⟩
      · rw [if_neg c1] at h
        refine m_iload_n dX10_ways_31 rfl 3 rfl ?_
        refine m_iconst (v := 0) dX10_ways_32 (by decide) ?_
        refine m_bipush (v := 6) dX10_ways_33 (by decide) ?_
        refine m_invS (As := [.int x3, .int 0, .int 6]) (d' := d) (mc' := 0) (ms' := 0) (rest := []) i_10_within s_10_within l_X10_79 dX10_ways_35 rfl rfl (Nat.le_of_ble_eq_true rfl) (Nat.le_refl _) ⟨Nat.le_refl _, Nat.le_refl _⟩ (m_Ci h (fun v13 M12 h => ?_))
        show m_W (d + 1) 0 0 yX10_ways cX10_ways 4 (some .long) (m_ql Th Q) 38 [(0, .ref a0), (1, .int x1), (2, .int x2), (3, .int x3)] [.int v13] Th M12 0 0
        refine m_if_ne (tgt := 45) dX10_ways_38 (by decide) (fun c1 => ?_) (fun c1 => ?_)
        · rw [if_neg c1] at h
          refine m_iload_n dX10_ways_45 rfl 3 rfl ?_
          refine m_iconst (v := 5) dX10_ways_46 (by decide) ?_
          refine m_icmp_ge (tgt := 65) dX10_ways_47 (by decide) (fun c1 => ?_) (fun c1 => ?_)
          · rw [if_pos c1] at h
            exact h
          · rw [if_neg c1] at h
            refine m_aload_n dX10_ways_50 rfl 0 rfl ?_
            obtain ⟨r14, q15, h⟩ := h
            refine m_getr f_X10_19 rfl dX10_ways_51 q1 q15 ?_
            refine m_iload_n dX10_ways_54 rfl 3 rfl ?_
            obtain ⟨q18, h⟩ := h
            refine m_invV (ci := 2) (As := [.int x3]) (d' := d) (mc' := 0) (ms' := 0) (rest := []) i_2_hasRiddle v_2_hasRiddle t_2_hasRiddle l_X10_134 ⟨_, _, rfl⟩ dX10_ways_55 rfl rfl q18 (Nat.le_of_ble_eq_true rfl) (Nat.le_refl _) ⟨Nat.le_refl _, Nat.le_refl _⟩ (m_Ci h (fun v17 M16 h => ?_))
            show m_W (d + 1) 0 0 yX10_ways cX10_ways 4 (some .long) (m_ql Th Q) 58 [(0, .ref a0), (1, .int x1), (2, .int x2), (3, .int x3)] [.int v17] Th M16 0 0
            refine m_if_ne (tgt := 65) dX10_ways_58 (by decide) (fun c1 => ?_) (fun c1 => ?_)
            · rw [if_neg c1] at h
              exact h
            · rw [if_pos c1] at h
              refine m_ldc2 k_X10_151 dX10_ways_61 ?_
              exact m_lreturn dX10_ways_64 rfl ⟨rfl, _, rfl, h⟩
        · rw [if_pos c1] at h
          refine m_ldc2 k_X10_151 dX10_ways_41 ?_
          exact m_lreturn dX10_ways_44 rfl ⟨rfl, _, rfl, h⟩
set_option maxHeartbeats 4000000 in
set_option maxRecDepth 100000 in
theorem h10_ahead_98 {d : Nat} {Th : mT} {Q : Int64 → mM → Prop} {x3 : Int32} {s0 : Int64} {M : mM} (h : P10_ofFraction d Th s0 1152921504606846976 ((x3 - x3 / 2 * 2)) M (fun (v2 : Int64) (M1 : mM) => Q v2 M1)) : H10_ahead_98 (d + 1) Th Q x3 s0 M := by
  show m_W (d + 1) 0 0 yX10_ahead cX10_ahead 6 (some .long) (m_ql Th Q) 98 [(3, .int x3)] [.long s0] Th M 0 0
  refine m_lstore (lv' := [(4, .long s0), (3, .int x3)]) dX10_ahead_98 (by decide) rfl ?_
  refine m_lload dX10_ahead_100 0 rfl ?_
  refine m_ldc2 k_X10_175 dX10_ahead_102 ?_
  refine m_iload_n dX10_ahead_105 rfl 1 rfl ?_
  refine m_iconst (v := 2) dX10_ahead_106 (by decide) ?_
  refine m_irem dX10_ahead_107 (by decide) ?_
  refine m_invS (As := [.long s0, .long 1152921504606846976, .int ((x3 - x3 / 2 * 2))]) (d' := d) (mc' := 0) (ms' := 0) (rest := []) i_10_ofFraction s_10_ofFraction l_X10_177 dX10_ahead_108 rfl rfl (Nat.le_of_ble_eq_true rfl) (Nat.le_refl _) ⟨Nat.le_refl _, Nat.le_refl _⟩ (m_Cl h (fun v2 M1 h => ?_))
  show m_W (d + 1) 0 0 yX10_ahead cX10_ahead 6 (some .long) (m_ql Th Q) 111 [(4, .long s0), (3, .int x3)] [.long v2] Th M1 0 0
  exact m_lreturn dX10_ahead_111 rfl ⟨rfl, _, rfl, h⟩
set_option maxHeartbeats 4000000 in
set_option maxRecDepth 100000 in
theorem e10_ahead {d : Nat} {Th : mT} {Q : Int64 → mM → Prop} {a0 : Nat} {x1 : Int32} {x2 : Int32} {x3 : Int32} {M : mM} (h : Th.2.2 a0 = some (.inl 10) ∧ (P10_canHunt d Th a0 x1 x2 M (fun (v2 : Int32) (M1 : mM) => if v2 = 0 then (Q (-1) M1) else (P10_within d Th x3 0 3 M1 (fun (v5 : Int32) (M4 : mM) => if v5 = 0 then (Q (-1) M4) else (∃ r6 : Nat, M4.2.2 a0 3 = some r6 ∧ (∃ r8 : Nat, M4.2.2 a0 1 = some r8 ∧ (Th.2.2 r8 = some (.inl 2) ∧ (P2_skill d Th r8 x1 M4 (fun (v11 : Nat) (M10 : mM) => P10_goAlone d Th a0 r6 v11 M10 (fun M13 : mM => ∃ r15 : Nat, M13.2.2 a0 4 = some r15 ∧ (∃ r17 : Nat, M13.2.2 a0 1 = some r17 ∧ (Th.2.2 r17 = some (.inl 2) ∧ (P2_skill d Th r17 x2 M13 (fun (v20 : Nat) (M19 : mM) => P10_goAlone d Th a0 r15 v20 M19 (fun M22 : mM => if 2 ≤ x3 then (∃ r24 : Nat, M22.2.2 a0 3 = some r24 ∧ (∃ r26 : Nat, M22.2.2 a0 4 = some r26 ∧ (∃ r28 : Nat, M22.2.2 a0 1 = some r28 ∧ (Th.2.2 r28 = some (.inl 2) ∧ (Th.2.2 r24 = some (.inl 7) ∧ (P7_likeAs d Th r24 r26 (((M22).1 r28 0)) M22 (fun (v32 : Int64) (M31 : mM) => H10_ahead_98 (d + 1) Th Q x3 v32 M31))))))) else (∃ r34 : Nat, M22.2.2 a0 3 = some r34 ∧ (∃ r36 : Nat, M22.2.2 a0 4 = some r36 ∧ (∃ r38 : Nat, M22.2.2 a0 1 = some r38 ∧ (Th.2.2 r38 = some (.inl 2) ∧ (Th.2.2 r34 = some (.inl 7) ∧ (P7_aheadOf d Th r34 r36 (((M22).1 r38 0)) M22 (fun (v42 : Int64) (M41 : mM) => H10_ahead_98 (d + 1) Th Q x3 v42 M41))))))))))))))))))))))) : P10_ahead (d + 1) Th a0 x1 x2 x3 M Q := by
  refine m_C.of (by decide +kernel) (Nat.le_of_ble_eq_true rfl) ?_
  show m_W (d + 1) 0 0 yX10_ahead cX10_ahead 6 (some .long) (m_ql Th Q) 0 [(0, .ref a0), (1, .int x1), (2, .int x2), (3, .int x3)] [] Th M 0 0
  refine m_aload_n dX10_ahead_0 rfl 0 rfl ?_
  refine m_iload_n dX10_ahead_1 rfl 1 rfl ?_
  refine m_iload_n dX10_ahead_2 rfl 2 rfl ?_
  obtain ⟨q3, h⟩ := h
  refine m_invV (ci := 10) (As := [.int x1, .int x2]) (d' := d) (mc' := 0) (ms' := 0) (rest := []) i_10_canHunt v_10_canHunt t_10_canHunt l_X10_164 ⟨_, _, rfl⟩ dX10_ahead_3 rfl rfl q3 (Nat.le_of_ble_eq_true rfl) (Nat.le_refl _) ⟨Nat.le_refl _, Nat.le_refl _⟩ (m_Ci h (fun v2 M1 h => ?_))
  show m_W (d + 1) 0 0 yX10_ahead cX10_ahead 6 (some .long) (m_ql Th Q) 6 [(0, .ref a0), (1, .int x1), (2, .int x2), (3, .int x3)] [.int v2] Th M1 0 0
  refine m_if_eq (tgt := 18) dX10_ahead_6 (by decide) (fun c1 => ?_) (fun c1 => ?_)
  · rw [if_pos c1] at h
    refine m_ldc2 k_X10_151 dX10_ahead_18 ?_
    exact m_lreturn dX10_ahead_21 rfl ⟨rfl, _, rfl, h⟩
  · rw [if_neg c1] at h
    refine m_iload_n dX10_ahead_9 rfl 3 rfl ?_
    refine m_iconst (v := 0) dX10_ahead_10 (by decide) ?_
    refine m_iconst (v := 3) dX10_ahead_11 (by decide) ?_
    refine m_invS (As := [.int x3, .int 0, .int 3]) (d' := d) (mc' := 0) (ms' := 0) (rest := []) i_10_within s_10_within l_X10_79 dX10_ahead_12 rfl rfl (Nat.le_of_ble_eq_true rfl) (Nat.le_refl _) ⟨Nat.le_refl _, Nat.le_refl _⟩ (m_Ci h (fun v5 M4 h => ?_))
    show m_W (d + 1) 0 0 yX10_ahead cX10_ahead 6 (some .long) (m_ql Th Q) 15 [(0, .ref a0), (1, .int x1), (2, .int x2), (3, .int x3)] [.int v5] Th M4 0 0
    refine m_if_ne (tgt := 22) dX10_ahead_15 (by decide) (fun c1 => ?_) (fun c1 => ?_)
    · rw [if_neg c1] at h
      refine m_aload_n dX10_ahead_22 rfl 0 rfl ?_
      refine m_aload_n dX10_ahead_23 rfl 0 rfl ?_
      obtain ⟨r6, q7, h⟩ := h
      refine m_getr f_X10_33 rfl dX10_ahead_24 q3 q7 ?_
      refine m_aload_n dX10_ahead_27 rfl 0 rfl ?_
      obtain ⟨r8, q9, h⟩ := h
      refine m_getr f_X10_19 rfl dX10_ahead_28 q3 q9 ?_
      refine m_iload_n dX10_ahead_31 rfl 1 rfl ?_
      obtain ⟨q12, h⟩ := h
      refine m_invV (ci := 2) (As := [.int x1]) (d' := d) (mc' := 0) (ms' := 0) (rest := [.ref r6, .ref a0]) i_2_skill v_2_skill t_2_skill l_X10_137 ⟨_, _, rfl⟩ dX10_ahead_32 rfl rfl q12 (Nat.le_of_ble_eq_true rfl) (Nat.le_refl _) ⟨Nat.le_refl _, Nat.le_refl _⟩ (m_Cr h (fun v11 M10 h => ?_))
      show m_W (d + 1) 0 0 yX10_ahead cX10_ahead 6 (some .long) (m_ql Th Q) 35 [(0, .ref a0), (1, .int x1), (2, .int x2), (3, .int x3)] [.ref v11, .ref r6, .ref a0] Th M10 0 0
      refine m_invV (ci := 10) (As := [.ref r6, .ref v11]) (d' := d) (mc' := 0) (ms' := 0) (rest := []) i_10_goAlone v_10_goAlone t_10_goAlone l_X10_153 ⟨_, _, rfl⟩ dX10_ahead_35 rfl rfl q3 (Nat.le_of_ble_eq_true rfl) (Nat.le_refl _) ⟨Nat.le_refl _, Nat.le_refl _⟩ (m_Cv h (fun M13 h => ?_))
      show m_W (d + 1) 0 0 yX10_ahead cX10_ahead 6 (some .long) (m_ql Th Q) 38 [(0, .ref a0), (1, .int x1), (2, .int x2), (3, .int x3)] [] Th M13 0 0
      refine m_aload_n dX10_ahead_38 rfl 0 rfl ?_
      refine m_aload_n dX10_ahead_39 rfl 0 rfl ?_
      obtain ⟨r15, q16, h⟩ := h
      refine m_getr f_X10_37 rfl dX10_ahead_40 q3 q16 ?_
      refine m_aload_n dX10_ahead_43 rfl 0 rfl ?_
      obtain ⟨r17, q18, h⟩ := h
      refine m_getr f_X10_19 rfl dX10_ahead_44 q3 q18 ?_
      refine m_iload_n dX10_ahead_47 rfl 2 rfl ?_
      obtain ⟨q21, h⟩ := h
      refine m_invV (ci := 2) (As := [.int x2]) (d' := d) (mc' := 0) (ms' := 0) (rest := [.ref r15, .ref a0]) i_2_skill v_2_skill t_2_skill l_X10_137 ⟨_, _, rfl⟩ dX10_ahead_48 rfl rfl q21 (Nat.le_of_ble_eq_true rfl) (Nat.le_refl _) ⟨Nat.le_refl _, Nat.le_refl _⟩ (m_Cr h (fun v20 M19 h => ?_))
      show m_W (d + 1) 0 0 yX10_ahead cX10_ahead 6 (some .long) (m_ql Th Q) 51 [(0, .ref a0), (1, .int x1), (2, .int x2), (3, .int x3)] [.ref v20, .ref r15, .ref a0] Th M19 0 0
      refine m_invV (ci := 10) (As := [.ref r15, .ref v20]) (d' := d) (mc' := 0) (ms' := 0) (rest := []) i_10_goAlone v_10_goAlone t_10_goAlone l_X10_153 ⟨_, _, rfl⟩ dX10_ahead_51 rfl rfl q3 (Nat.le_of_ble_eq_true rfl) (Nat.le_refl _) ⟨Nat.le_refl _, Nat.le_refl _⟩ (m_Cv h (fun M22 h => ?_))
      show m_W (d + 1) 0 0 yX10_ahead cX10_ahead 6 (some .long) (m_ql Th Q) 54 [(0, .ref a0), (1, .int x1), (2, .int x2), (3, .int x3)] [] Th M22 0 0
      refine m_iload_n dX10_ahead_54 rfl 3 rfl ?_
      refine m_iconst (v := 2) dX10_ahead_55 (by decide) ?_
      refine m_icmp_ge (tgt := 80) dX10_ahead_56 (by decide) (fun c1 => ?_) (fun c1 => ?_)
      · rw [if_pos c1] at h
        refine m_aload_n dX10_ahead_80 rfl 0 rfl ?_
        obtain ⟨r24, q25, h⟩ := h
        refine m_getr f_X10_33 rfl dX10_ahead_81 q3 q25 ?_
        refine m_aload_n dX10_ahead_84 rfl 0 rfl ?_
        obtain ⟨r26, q27, h⟩ := h
        refine m_getr f_X10_37 rfl dX10_ahead_85 q3 q27 ?_
        refine m_aload_n dX10_ahead_88 rfl 0 rfl ?_
        obtain ⟨r28, q29, h⟩ := h
        refine m_getr f_X10_19 rfl dX10_ahead_89 q3 q29 ?_
        obtain ⟨q30, h⟩ := h
        refine m_geti f_X10_83 rfl dX10_ahead_92 q30 ?_
        obtain ⟨q33, h⟩ := h
        refine m_invV (ci := 7) (As := [.ref r26, .int (((M22).1 r28 0))]) (d' := d) (mc' := 0) (ms' := 0) (rest := []) i_7_likeAs v_7_likeAs t_7_likeAs l_X10_172 ⟨_, _, rfl⟩ dX10_ahead_95 rfl rfl q33 (Nat.le_of_ble_eq_true rfl) (Nat.le_refl _) ⟨Nat.le_refl _, Nat.le_refl _⟩ (m_Cl h (fun v32 M31 h => ?_))
        show m_W (d + 1) 0 0 yX10_ahead cX10_ahead 6 (some .long) (m_ql Th Q) 98 [(0, .ref a0), (1, .int x1), (2, .int x2), (3, .int x3)] [.long v32] Th M31 0 0
        exact m_sub [3] rfl h
      · rw [if_neg c1] at h
        refine m_aload_n dX10_ahead_59 rfl 0 rfl ?_
        obtain ⟨r34, q35, h⟩ := h
        refine m_getr f_X10_33 rfl dX10_ahead_60 q3 q35 ?_
        refine m_aload_n dX10_ahead_63 rfl 0 rfl ?_
        obtain ⟨r36, q37, h⟩ := h
        refine m_getr f_X10_37 rfl dX10_ahead_64 q3 q37 ?_
        refine m_aload_n dX10_ahead_67 rfl 0 rfl ?_
        obtain ⟨r38, q39, h⟩ := h
        refine m_getr f_X10_19 rfl dX10_ahead_68 q3 q39 ?_
        obtain ⟨q40, h⟩ := h
        refine m_geti f_X10_83 rfl dX10_ahead_71 q40 ?_
        obtain ⟨q43, h⟩ := h
        refine m_invV (ci := 7) (As := [.ref r36, .int (((M22).1 r38 0))]) (d' := d) (mc' := 0) (ms' := 0) (rest := []) i_7_aheadOf v_7_aheadOf t_7_aheadOf l_X10_168 ⟨_, _, rfl⟩ dX10_ahead_74 rfl rfl q43 (Nat.le_of_ble_eq_true rfl) (Nat.le_refl _) ⟨Nat.le_refl _, Nat.le_refl _⟩ (m_Cl h (fun v42 M41 h => ?_))
        show m_W (d + 1) 0 0 yX10_ahead cX10_ahead 6 (some .long) (m_ql Th Q) 77 [(0, .ref a0), (1, .int x1), (2, .int x2), (3, .int x3)] [.long v42] Th M41 0 0
        refine m_goto (tgt := 98) dX10_ahead_77 (by decide) ?_
        exact m_sub [3] rfl h
    · rw [if_pos c1] at h
      refine m_ldc2 k_X10_151 dX10_ahead_18 ?_
      exact m_lreturn dX10_ahead_21 rfl ⟨rfl, _, rfl, h⟩
set_option maxHeartbeats 4000000 in
set_option maxRecDepth 100000 in
theorem e10_share {d : Nat} {Th : mT} {Q : Int64 → mM → Prop} {a0 : Nat} {x1 : Int32} {x2 : Int32} {x3 : Int32} {M : mM} (h : Th.2.2 a0 = some (.inl 10) ∧ (P10_canHunt d Th a0 x1 x2 M (fun (v2 : Int32) (M1 : mM) => if v2 = 0 then (Q (-1) M1) else (P10_within d Th x3 1 10 M1 (fun (v5 : Int32) (M4 : mM) => if v5 = 0 then (Q (-1) M4) else (∃ r6 : Nat, M4.2.2 a0 2 = some r6 ∧ (∃ r8 : Nat, M4.2.2 a0 1 = some r8 ∧ (Th.2.2 r8 = some (.inl 2) ∧ (P2_skill d Th r8 x1 M4 (fun (v11 : Nat) (M10 : mM) => ∃ r13 : Nat, M10.2.2 a0 1 = some r13 ∧ (Th.2.2 r13 = some (.inl 2) ∧ (P2_skill d Th r13 x2 M10 (fun (v16 : Nat) (M15 : mM) => Th.2.2 r6 = some (.inl 8) ∧ (P8_join d Th r6 v11 v16 M15 (fun M18 : mM => ∃ r21 : Nat, M18.2.2 a0 3 = some r21 ∧ (∃ r23 : Nat, M18.2.2 a0 2 = some r23 ∧ (∃ r25 : Nat, M18.2.2 a0 1 = some r25 ∧ (Th.2.2 r25 = some (.inl 2) ∧ (Th.2.2 r21 = some (.inl 7) ∧ (P7_reckon d Th r21 r23 6 (((M18).1 r25 0)) (((M18).1 r25 2)) M18 (fun M28 : mM => ∃ r31 : Nat, M28.2.2 a0 3 = some r31 ∧ (∃ r33 : Nat, M28.2.2 a0 1 = some r33 ∧ (Th.2.2 r33 = some (.inl 2) ∧ (Th.2.2 r31 = some (.inl 7) ∧ (P7_comeBy d Th r31 (((M28).1 r33 0)) x3 M28 (fun (v37 : Int64) (M36 : mM) => Q v37 M36)))))))))))))))))))))))))) : P10_share (d + 1) Th a0 x1 x2 x3 M Q := by
  refine m_C.of (by decide +kernel) (Nat.le_of_ble_eq_true rfl) ?_
  show m_W (d + 1) 0 0 yX10_share cX10_share 4 (some .long) (m_ql Th Q) 0 [(0, .ref a0), (1, .int x1), (2, .int x2), (3, .int x3)] [] Th M 0 0
  refine m_aload_n dX10_share_0 rfl 0 rfl ?_
  refine m_iload_n dX10_share_1 rfl 1 rfl ?_
  refine m_iload_n dX10_share_2 rfl 2 rfl ?_
  obtain ⟨q3, h⟩ := h
  refine m_invV (ci := 10) (As := [.int x1, .int x2]) (d' := d) (mc' := 0) (ms' := 0) (rest := []) i_10_canHunt v_10_canHunt t_10_canHunt l_X10_164 ⟨_, _, rfl⟩ dX10_share_3 rfl rfl q3 (Nat.le_of_ble_eq_true rfl) (Nat.le_refl _) ⟨Nat.le_refl _, Nat.le_refl _⟩ (m_Ci h (fun v2 M1 h => ?_))
  show m_W (d + 1) 0 0 yX10_share cX10_share 4 (some .long) (m_ql Th Q) 6 [(0, .ref a0), (1, .int x1), (2, .int x2), (3, .int x3)] [.int v2] Th M1 0 0
  refine m_if_eq (tgt := 19) dX10_share_6 (by decide) (fun c1 => ?_) (fun c1 => ?_)
  · rw [if_pos c1] at h
    refine m_ldc2 k_X10_151 dX10_share_19 ?_
    exact m_lreturn dX10_share_22 rfl ⟨rfl, _, rfl, h⟩
  · rw [if_neg c1] at h
    refine m_iload_n dX10_share_9 rfl 3 rfl ?_
    refine m_iconst (v := 1) dX10_share_10 (by decide) ?_
    refine m_bipush (v := 10) dX10_share_11 (by decide) ?_
    refine m_invS (As := [.int x3, .int 1, .int 10]) (d' := d) (mc' := 0) (ms' := 0) (rest := []) i_10_within s_10_within l_X10_79 dX10_share_13 rfl rfl (Nat.le_of_ble_eq_true rfl) (Nat.le_refl _) ⟨Nat.le_refl _, Nat.le_refl _⟩ (m_Ci h (fun v5 M4 h => ?_))
    show m_W (d + 1) 0 0 yX10_share cX10_share 4 (some .long) (m_ql Th Q) 16 [(0, .ref a0), (1, .int x1), (2, .int x2), (3, .int x3)] [.int v5] Th M4 0 0
    refine m_if_ne (tgt := 23) dX10_share_16 (by decide) (fun c1 => ?_) (fun c1 => ?_)
    · rw [if_neg c1] at h
      refine m_aload_n dX10_share_23 rfl 0 rfl ?_
      obtain ⟨r6, q7, h⟩ := h
      refine m_getr f_X10_26 rfl dX10_share_24 q3 q7 ?_
      refine m_aload_n dX10_share_27 rfl 0 rfl ?_
      obtain ⟨r8, q9, h⟩ := h
      refine m_getr f_X10_19 rfl dX10_share_28 q3 q9 ?_
      refine m_iload_n dX10_share_31 rfl 1 rfl ?_
      obtain ⟨q12, h⟩ := h
      refine m_invV (ci := 2) (As := [.int x1]) (d' := d) (mc' := 0) (ms' := 0) (rest := [.ref r6]) i_2_skill v_2_skill t_2_skill l_X10_137 ⟨_, _, rfl⟩ dX10_share_32 rfl rfl q12 (Nat.le_of_ble_eq_true rfl) (Nat.le_refl _) ⟨Nat.le_refl _, Nat.le_refl _⟩ (m_Cr h (fun v11 M10 h => ?_))
      show m_W (d + 1) 0 0 yX10_share cX10_share 4 (some .long) (m_ql Th Q) 35 [(0, .ref a0), (1, .int x1), (2, .int x2), (3, .int x3)] [.ref v11, .ref r6] Th M10 0 0
      refine m_aload_n dX10_share_35 rfl 0 rfl ?_
      obtain ⟨r13, q14, h⟩ := h
      refine m_getr f_X10_19 rfl dX10_share_36 q3 q14 ?_
      refine m_iload_n dX10_share_39 rfl 2 rfl ?_
      obtain ⟨q17, h⟩ := h
      refine m_invV (ci := 2) (As := [.int x2]) (d' := d) (mc' := 0) (ms' := 0) (rest := [.ref v11, .ref r6]) i_2_skill v_2_skill t_2_skill l_X10_137 ⟨_, _, rfl⟩ dX10_share_40 rfl rfl q17 (Nat.le_of_ble_eq_true rfl) (Nat.le_refl _) ⟨Nat.le_refl _, Nat.le_refl _⟩ (m_Cr h (fun v16 M15 h => ?_))
      show m_W (d + 1) 0 0 yX10_share cX10_share 4 (some .long) (m_ql Th Q) 43 [(0, .ref a0), (1, .int x1), (2, .int x2), (3, .int x3)] [.ref v16, .ref v11, .ref r6] Th M15 0 0
      obtain ⟨q20, h⟩ := h
      refine m_invV (ci := 8) (As := [.ref v11, .ref v16]) (d' := d) (mc' := 0) (ms' := 0) (rest := []) i_8_join v_8_join t_8_join l_X10_181 ⟨_, _, rfl⟩ dX10_share_43 rfl rfl q20 (Nat.le_of_ble_eq_true rfl) (Nat.le_refl _) ⟨Nat.le_refl _, Nat.le_refl _⟩ (m_Cv h (fun M18 h => ?_))
      show m_W (d + 1) 0 0 yX10_share cX10_share 4 (some .long) (m_ql Th Q) 46 [(0, .ref a0), (1, .int x1), (2, .int x2), (3, .int x3)] [] Th M18 0 0
      refine m_aload_n dX10_share_46 rfl 0 rfl ?_
      obtain ⟨r21, q22, h⟩ := h
      refine m_getr f_X10_33 rfl dX10_share_47 q3 q22 ?_
      refine m_aload_n dX10_share_50 rfl 0 rfl ?_
      obtain ⟨r23, q24, h⟩ := h
      refine m_getr f_X10_26 rfl dX10_share_51 q3 q24 ?_
      refine m_bipush (v := 6) dX10_share_54 (by decide) ?_
      refine m_aload_n dX10_share_56 rfl 0 rfl ?_
      obtain ⟨r25, q26, h⟩ := h
      refine m_getr f_X10_19 rfl dX10_share_57 q3 q26 ?_
      obtain ⟨q27, h⟩ := h
      refine m_geti f_X10_83 rfl dX10_share_60 q27 ?_
      refine m_aload_n dX10_share_63 rfl 0 rfl ?_
      refine m_getr f_X10_19 rfl dX10_share_64 q3 q26 ?_
      refine m_geti f_X10_185 rfl dX10_share_67 q27 ?_
      obtain ⟨q30, h⟩ := h
      refine m_invV (ci := 7) (As := [.ref r23, .int 6, .int (((M18).1 r25 0)), .int (((M18).1 r25 2))]) (d' := d) (mc' := 0) (ms' := 0) (rest := []) i_7_reckon v_7_reckon t_7_reckon l_X10_188 ⟨_, _, rfl⟩ dX10_share_70 rfl rfl q30 (Nat.le_of_ble_eq_true rfl) (Nat.le_refl _) ⟨Nat.le_refl _, Nat.le_refl _⟩ (m_Cv h (fun M28 h => ?_))
      show m_W (d + 1) 0 0 yX10_share cX10_share 4 (some .long) (m_ql Th Q) 73 [(0, .ref a0), (1, .int x1), (2, .int x2), (3, .int x3)] [] Th M28 0 0
      refine m_aload_n dX10_share_73 rfl 0 rfl ?_
      obtain ⟨r31, q32, h⟩ := h
      refine m_getr f_X10_33 rfl dX10_share_74 q3 q32 ?_
      refine m_aload_n dX10_share_77 rfl 0 rfl ?_
      obtain ⟨r33, q34, h⟩ := h
      refine m_getr f_X10_19 rfl dX10_share_78 q3 q34 ?_
      obtain ⟨q35, h⟩ := h
      refine m_geti f_X10_83 rfl dX10_share_81 q35 ?_
      refine m_iload_n dX10_share_84 rfl 3 rfl ?_
      obtain ⟨q38, h⟩ := h
      refine m_invV (ci := 7) (As := [.int (((M28).1 r33 0)), .int x3]) (d' := d) (mc' := 0) (ms' := 0) (rest := []) i_7_comeBy v_7_comeBy t_7_comeBy l_X10_157 ⟨_, _, rfl⟩ dX10_share_85 rfl rfl q38 (Nat.le_of_ble_eq_true rfl) (Nat.le_refl _) ⟨Nat.le_refl _, Nat.le_refl _⟩ (m_Cl h (fun v37 M36 h => ?_))
      show m_W (d + 1) 0 0 yX10_share cX10_share 4 (some .long) (m_ql Th Q) 88 [(0, .ref a0), (1, .int x1), (2, .int x2), (3, .int x3)] [.long v37] Th M36 0 0
      exact m_lreturn dX10_share_88 rfl ⟨rfl, _, rfl, h⟩
    · rw [if_pos c1] at h
      refine m_ldc2 k_X10_151 dX10_share_19 ?_
      exact m_lreturn dX10_share_22 rfl ⟨rfl, _, rfl, h⟩
set_option maxHeartbeats 4000000 in
set_option maxRecDepth 100000 in
theorem e10_after {d : Nat} {Th : mT} {Q : Int64 → mM → Prop} {a0 : Nat} {x1 : Int32} {x2 : Int32} {x3 : Int32} {x4 : Int32} {M : mM} (h : Th.2.2 a0 = some (.inl 10) ∧ (P10_canHunt d Th a0 x1 x2 M (fun (v2 : Int32) (M1 : mM) => if v2 = 0 then (Q (-1) M1) else (P10_within d Th x3 1 10 M1 (fun (v5 : Int32) (M4 : mM) => if v5 = 0 then (Q (-1) M4) else (P10_within d Th x4 0 1 M4 (fun (v7 : Int32) (M6 : mM) => if v7 = 0 then (Q (-1) M6) else (P10_followed d Th a0 x1 x2 x3 ((if x4 = 1 then 1 else 0)) M6 (fun (v9 : Int64) (M8 : mM) => Q v9 M8))))))))) : P10_after (d + 1) Th a0 x1 x2 x3 x4 M Q := by
  refine m_C.of (by decide +kernel) (Nat.le_of_ble_eq_true rfl) ?_
  show m_W (d + 1) 0 0 yX10_after cX10_after 5 (some .long) (m_ql Th Q) 0 [(0, .ref a0), (1, .int x1), (2, .int x2), (3, .int x3), (4, .int x4)] [] Th M 0 0
  refine m_aload_n dX10_after_0 rfl 0 rfl ?_
  refine m_iload_n dX10_after_1 rfl 1 rfl ?_
  refine m_iload_n dX10_after_2 rfl 2 rfl ?_
  obtain ⟨q3, h⟩ := h
  refine m_invV (ci := 10) (As := [.int x1, .int x2]) (d' := d) (mc' := 0) (ms' := 0) (rest := []) i_10_canHunt v_10_canHunt t_10_canHunt l_X10_164 ⟨_, _, rfl⟩ dX10_after_3 rfl rfl q3 (Nat.le_of_ble_eq_true rfl) (Nat.le_refl _) ⟨Nat.le_refl _, Nat.le_refl _⟩ (m_Ci h (fun v2 M1 h => ?_))
  show m_W (d + 1) 0 0 yX10_after cX10_after 5 (some .long) (m_ql Th Q) 6 [(0, .ref a0), (1, .int x1), (2, .int x2), (3, .int x3), (4, .int x4)] [.int v2] Th M1 0 0
  refine m_if_eq (tgt := 29) dX10_after_6 (by decide) (fun c1 => ?_) (fun c1 => ?_)
  · rw [if_pos c1] at h
    refine m_ldc2 k_X10_151 dX10_after_29 ?_
    exact m_lreturn dX10_after_32 rfl ⟨rfl, _, rfl, h⟩
  · rw [if_neg c1] at h
    refine m_iload_n dX10_after_9 rfl 3 rfl ?_
    refine m_iconst (v := 1) dX10_after_10 (by decide) ?_
    refine m_bipush (v := 10) dX10_after_11 (by decide) ?_
    refine m_invS (As := [.int x3, .int 1, .int 10]) (d' := d) (mc' := 0) (ms' := 0) (rest := []) i_10_within s_10_within l_X10_79 dX10_after_13 rfl rfl (Nat.le_of_ble_eq_true rfl) (Nat.le_refl _) ⟨Nat.le_refl _, Nat.le_refl _⟩ (m_Ci h (fun v5 M4 h => ?_))
    show m_W (d + 1) 0 0 yX10_after cX10_after 5 (some .long) (m_ql Th Q) 16 [(0, .ref a0), (1, .int x1), (2, .int x2), (3, .int x3), (4, .int x4)] [.int v5] Th M4 0 0
    refine m_if_eq (tgt := 29) dX10_after_16 (by decide) (fun c1 => ?_) (fun c1 => ?_)
    · rw [if_pos c1] at h
      refine m_ldc2 k_X10_151 dX10_after_29 ?_
      exact m_lreturn dX10_after_32 rfl ⟨rfl, _, rfl, h⟩
    · rw [if_neg c1] at h
      refine m_iload dX10_after_19 4 rfl ?_
      refine m_iconst (v := 0) dX10_after_21 (by decide) ?_
      refine m_iconst (v := 1) dX10_after_22 (by decide) ?_
      refine m_invS (As := [.int x4, .int 0, .int 1]) (d' := d) (mc' := 0) (ms' := 0) (rest := []) i_10_within s_10_within l_X10_79 dX10_after_23 rfl rfl (Nat.le_of_ble_eq_true rfl) (Nat.le_refl _) ⟨Nat.le_refl _, Nat.le_refl _⟩ (m_Ci h (fun v7 M6 h => ?_))
      show m_W (d + 1) 0 0 yX10_after cX10_after 5 (some .long) (m_ql Th Q) 26 [(0, .ref a0), (1, .int x1), (2, .int x2), (3, .int x3), (4, .int x4)] [.int v7] Th M6 0 0
      refine m_if_ne (tgt := 33) dX10_after_26 (by decide) (fun c1 => ?_) (fun c1 => ?_)
      · rw [if_neg c1] at h
        refine m_aload_n dX10_after_33 rfl 0 rfl ?_
        refine m_iload_n dX10_after_34 rfl 1 rfl ?_
        refine m_iload_n dX10_after_35 rfl 2 rfl ?_
        refine m_iload_n dX10_after_36 rfl 3 rfl ?_
        refine m_iload dX10_after_37 4 rfl ?_
        refine m_iconst (v := 1) dX10_after_39 (by decide) ?_
        have hJ : m_W (d + 1) 0 0 yX10_after cX10_after 5 (some .long) (m_ql Th Q) 48 [(0, .ref a0), (1, .int x1), (2, .int x2), (3, .int x3), (4, .int x4)] [.int ((if x4 = 1 then 1 else 0)), .int x3, .int x2, .int x1, .ref a0] Th M6 0 0 := by
          refine m_invV (ci := 10) (As := [.int x1, .int x2, .int x3, .int ((if x4 = 1 then 1 else 0))]) (d' := d) (mc' := 0) (ms' := 0) (rest := []) i_10_followed v_10_followed t_10_followed l_X10_192 ⟨_, _, rfl⟩ dX10_after_48 rfl rfl q3 (Nat.le_of_ble_eq_true rfl) (Nat.le_refl _) ⟨Nat.le_refl _, Nat.le_refl _⟩ (m_Cl h (fun v9 M8 h => ?_))
          show m_W (d + 1) 0 0 yX10_after cX10_after 5 (some .long) (m_ql Th Q) 51 [(0, .ref a0), (1, .int x1), (2, .int x2), (3, .int x3), (4, .int x4)] [.long v9] Th M8 0 0
          exact m_lreturn dX10_after_51 rfl ⟨rfl, _, rfl, h⟩
        refine m_icmp_ne (tgt := 47) dX10_after_40 (by decide) (fun c1 => ?_) (fun c1 => ?_)
        · simp only [if_neg c1] at hJ
          refine m_iconst (v := 0) dX10_after_47 (by decide) ?_
          exact hJ
        · simp only [if_pos c1] at hJ
          refine m_iconst (v := 1) dX10_after_43 (by decide) ?_
          refine m_goto (tgt := 48) dX10_after_44 (by decide) ?_
          exact hJ
      · rw [if_pos c1] at h
        refine m_ldc2 k_X10_151 dX10_after_29 ?_
        exact m_lreturn dX10_after_32 rfl ⟨rfl, _, rfl, h⟩
set_option maxHeartbeats 4000000 in
set_option maxRecDepth 100000 in
theorem h10_edge_24 {d : Nat} {Th : mT} {Q : Int32 → mM → Prop} {a0 : Nat} {x1 : Int32} {l3 : Int64} {x5 : Int32} {M : mM} (h : if 9 < x5 then (Q 10 M) else (Th.2.2 a0 = some (.inl 10) ∧ (∃ r2 : Nat, M.2.2 a0 1 = some r2 ∧ (∃ r4 : Nat, M.2.2 a0 2 = some r4 ∧ (Th.2.2 r2 = some (.inl 2) ∧ (P2_load d Th r2 r4 x1 x5 M (fun M6 : mM => ∃ r9 : Nat, M6.2.2 a0 3 = some r9 ∧ (∃ r11 : Nat, M6.2.2 a0 2 = some r11 ∧ (P10_goAlone d Th a0 r9 r11 M6 (fun M13 : mM => ∃ r15 : Nat, M13.2.2 a0 3 = some r15 ∧ (∃ r17 : Nat, M13.2.2 a0 1 = some r17 ∧ (Th.2.2 r17 = some (.inl 2) ∧ (Th.2.2 r15 = some (.inl 7) ∧ (P7_comeBy d Th r15 (((M13).1 r17 0)) 10 M13 (fun (v21 : Int64) (M20 : mM) => if (lg_cmp v21 l3) ≤ 0 then (H10_edge_24 (d + 1) Th Q a0 x1 l3 (x5 + 1) M20) else (Q x5 M20)))))))))))))))) : H10_edge_24 (d + 1) Th Q a0 x1 l3 x5 M := by
  show m_W (d + 1) 0 0 yX10_edge cX10_edge 6 (some .int) (m_qi Th Q) 24 [(0, .ref a0), (1, .int x1), (3, .long l3), (5, .int x5)] [] Th M 0 0
  refine m_iload dX10_edge_24 3 rfl ?_
  refine m_bipush (v := 9) dX10_edge_26 (by decide) ?_
  refine m_icmp_gt (tgt := 87) dX10_edge_28 (by decide) (fun c1 => ?_) (fun c1 => ?_)
  · rw [if_pos c1] at h
    refine m_bipush (v := 10) dX10_edge_87 (by decide) ?_
    exact m_ireturn dX10_edge_89 rfl rfl ⟨rfl, _, rfl, h⟩
  · rw [if_neg c1] at h
    refine m_aload_n dX10_edge_31 rfl 0 rfl ?_
    obtain ⟨q1, h⟩ := h
    obtain ⟨r2, q3, h⟩ := h
    refine m_getr f_X10_19 rfl dX10_edge_32 q1 q3 ?_
    refine m_aload_n dX10_edge_35 rfl 0 rfl ?_
    obtain ⟨r4, q5, h⟩ := h
    refine m_getr f_X10_26 rfl dX10_edge_36 q1 q5 ?_
    refine m_iload_n dX10_edge_39 rfl 1 rfl ?_
    refine m_iload dX10_edge_40 3 rfl ?_
    obtain ⟨q8, h⟩ := h
    refine m_invV (ci := 2) (As := [.ref r4, .int x1, .int x5]) (d' := d) (mc' := 0) (ms' := 0) (rest := []) i_2_load v_2_load t_2_load l_X10_196 ⟨_, _, rfl⟩ dX10_edge_42 rfl rfl q8 (Nat.le_of_ble_eq_true rfl) (Nat.le_refl _) ⟨Nat.le_refl _, Nat.le_refl _⟩ (m_Cv h (fun M6 h => ?_))
    show m_W (d + 1) 0 0 yX10_edge cX10_edge 6 (some .int) (m_qi Th Q) 45 [(0, .ref a0), (1, .int x1), (3, .long l3), (5, .int x5)] [] Th M6 0 0
    refine m_aload_n dX10_edge_45 rfl 0 rfl ?_
    refine m_aload_n dX10_edge_46 rfl 0 rfl ?_
    obtain ⟨r9, q10, h⟩ := h
    refine m_getr f_X10_33 rfl dX10_edge_47 q1 q10 ?_
    refine m_aload_n dX10_edge_50 rfl 0 rfl ?_
    obtain ⟨r11, q12, h⟩ := h
    refine m_getr f_X10_26 rfl dX10_edge_51 q1 q12 ?_
    refine m_invV (ci := 10) (As := [.ref r9, .ref r11]) (d' := d) (mc' := 0) (ms' := 0) (rest := []) i_10_goAlone v_10_goAlone t_10_goAlone l_X10_153 ⟨_, _, rfl⟩ dX10_edge_54 rfl rfl q1 (Nat.le_of_ble_eq_true rfl) (Nat.le_refl _) ⟨Nat.le_refl _, Nat.le_refl _⟩ (m_Cv h (fun M13 h => ?_))
    show m_W (d + 1) 0 0 yX10_edge cX10_edge 6 (some .int) (m_qi Th Q) 57 [(0, .ref a0), (1, .int x1), (3, .long l3), (5, .int x5)] [] Th M13 0 0
    refine m_aload_n dX10_edge_57 rfl 0 rfl ?_
    obtain ⟨r15, q16, h⟩ := h
    refine m_getr f_X10_33 rfl dX10_edge_58 q1 q16 ?_
    refine m_aload_n dX10_edge_61 rfl 0 rfl ?_
    obtain ⟨r17, q18, h⟩ := h
    refine m_getr f_X10_19 rfl dX10_edge_62 q1 q18 ?_
    obtain ⟨q19, h⟩ := h
    refine m_geti f_X10_83 rfl dX10_edge_65 q19 ?_
    refine m_bipush (v := 10) dX10_edge_68 (by decide) ?_
    obtain ⟨q22, h⟩ := h
    refine m_invV (ci := 7) (As := [.int (((M13).1 r17 0)), .int 10]) (d' := d) (mc' := 0) (ms' := 0) (rest := []) i_7_comeBy v_7_comeBy t_7_comeBy l_X10_157 ⟨_, _, rfl⟩ dX10_edge_70 rfl rfl q22 (Nat.le_of_ble_eq_true rfl) (Nat.le_refl _) ⟨Nat.le_refl _, Nat.le_refl _⟩ (m_Cl h (fun v21 M20 h => ?_))
    show m_W (d + 1) 0 0 yX10_edge cX10_edge 6 (some .int) (m_qi Th Q) 73 [(0, .ref a0), (1, .int x1), (3, .long l3), (5, .int x5)] [.long v21] Th M20 0 0
    refine m_lload_n dX10_edge_73 rfl 2 rfl ?_
    refine m_lcmp dX10_edge_74 ?_
    refine m_if_le (tgt := 81) dX10_edge_75 (by decide) (fun c1 => ?_) (fun c1 => ?_)
    · rw [if_pos c1] at h
      refine m_iinc (v := x5 + 1) (lv' := [(5, .int (x5 + 1)), (0, .ref a0), (1, .int x1), (3, .long l3)]) dX10_edge_81 3 rfl rfl (by decide) rfl ?_
      refine m_goto (tgt := 24) dX10_edge_84 (by decide) ?_
      exact m_sub [1, 2, 3, 0] rfl h
    · rw [if_neg c1] at h
      refine m_iload dX10_edge_78 3 rfl ?_
      exact m_ireturn dX10_edge_80 rfl rfl ⟨rfl, _, rfl, h⟩
set_option maxHeartbeats 4000000 in
set_option maxRecDepth 100000 in
theorem e10_edge {d : Nat} {Th : mT} {Q : Int32 → mM → Prop} {a0 : Nat} {x1 : Int32} {x2 : Int32} {M : mM} (h : Th.2.2 a0 = some (.inl 10) ∧ (P10_canHunt d Th a0 x1 x2 M (fun (v2 : Int32) (M1 : mM) => if v2 = 0 then (Q (-1) M1) else (P10_followed d Th a0 x1 x2 10 0 M1 (fun (v5 : Int64) (M4 : mM) => H10_edge_24 (d + 1) Th Q a0 x1 v5 0 M4))))) : P10_edge (d + 1) Th a0 x1 x2 M Q := by
  refine m_C.of (by decide +kernel) (Nat.le_of_ble_eq_true rfl) ?_
  show m_W (d + 1) 0 0 yX10_edge cX10_edge 6 (some .int) (m_qi Th Q) 0 [(0, .ref a0), (1, .int x1), (2, .int x2)] [] Th M 0 0
  refine m_aload_n dX10_edge_0 rfl 0 rfl ?_
  refine m_iload_n dX10_edge_1 rfl 1 rfl ?_
  refine m_iload_n dX10_edge_2 rfl 2 rfl ?_
  obtain ⟨q3, h⟩ := h
  refine m_invV (ci := 10) (As := [.int x1, .int x2]) (d' := d) (mc' := 0) (ms' := 0) (rest := []) i_10_canHunt v_10_canHunt t_10_canHunt l_X10_164 ⟨_, _, rfl⟩ dX10_edge_3 rfl rfl q3 (Nat.le_of_ble_eq_true rfl) (Nat.le_refl _) ⟨Nat.le_refl _, Nat.le_refl _⟩ (m_Ci h (fun v2 M1 h => ?_))
  show m_W (d + 1) 0 0 yX10_edge cX10_edge 6 (some .int) (m_qi Th Q) 6 [(0, .ref a0), (1, .int x1), (2, .int x2)] [.int v2] Th M1 0 0
  refine m_if_ne (tgt := 11) dX10_edge_6 (by decide) (fun c1 => ?_) (fun c1 => ?_)
  · rw [if_neg c1] at h
    refine m_aload_n dX10_edge_11 rfl 0 rfl ?_
    refine m_iload_n dX10_edge_12 rfl 1 rfl ?_
    refine m_iload_n dX10_edge_13 rfl 2 rfl ?_
    refine m_bipush (v := 10) dX10_edge_14 (by decide) ?_
    refine m_iconst (v := 0) dX10_edge_16 (by decide) ?_
    refine m_invV (ci := 10) (As := [.int x1, .int x2, .int 10, .int 0]) (d' := d) (mc' := 0) (ms' := 0) (rest := []) i_10_followed v_10_followed t_10_followed l_X10_192 ⟨_, _, rfl⟩ dX10_edge_17 rfl rfl q3 (Nat.le_of_ble_eq_true rfl) (Nat.le_refl _) ⟨Nat.le_refl _, Nat.le_refl _⟩ (m_Cl h (fun v5 M4 h => ?_))
    show m_W (d + 1) 0 0 yX10_edge cX10_edge 6 (some .int) (m_qi Th Q) 20 [(0, .ref a0), (1, .int x1), (2, .int x2)] [.long v5] Th M4 0 0
    refine m_lstore_n (lv' := [(3, .long v5), (0, .ref a0), (1, .int x1), (2, .int x2)]) dX10_edge_20 rfl (by decide) rfl ?_
    refine m_iconst (v := 0) dX10_edge_21 (by decide) ?_
    refine m_istore (lv' := [(5, .int 0), (3, .long v5), (0, .ref a0), (1, .int x1), (2, .int x2)]) dX10_edge_22 (by decide) rfl ?_
    exact m_sub [2, 3, 1, 0] rfl h
  · rw [if_pos c1] at h
    refine m_iconst (v := (-1)) dX10_edge_9 (by decide) ?_
    exact m_ireturn dX10_edge_10 rfl rfl ⟨rfl, _, rfl, h⟩
set_option maxHeartbeats 4000000 in
set_option maxRecDepth 100000 in
theorem e10_best {d : Nat} {Th : mT} {Q : Int64 → mM → Prop} {a0 : Nat} {x1 : Int32} {x2 : Int32} {x3 : Int32} {x4 : Int32} {x5 : Int32} {x6 : Int32} {x7 : Int32} {M : mM} (h : Th.2.2 a0 = some (.inl 10) ∧ (P10_canHunt d Th a0 x1 x2 M (fun (v2 : Int32) (M1 : mM) => if v2 = 0 then (Q (-1) M1) else (P10_within d Th x3 0 10 M1 (fun (v5 : Int32) (M4 : mM) => if v5 = 0 then (Q (-1) M4) else (P10_within d Th x6 0 2 M4 (fun (v7 : Int32) (M6 : mM) => if v7 = 0 then (Q (-1) M6) else (P10_within d Th x7 0 1 M6 (fun (v9 : Int32) (M8 : mM) => if v9 = 0 then (Q (-1) M8) else (∃ r10 : Nat, M8.2.2 a0 6 = some r10 ∧ (Th.2.2 r10 = some (.inl 1) ∧ (P1_begin d Th r10 x1 x2 0 M8 (fun M12 : mM => ∃ r15 : Nat, M12.2.2 a0 6 = some r15 ∧ (Th.2.2 r15 = some (.inl 1) ∧ (P1_stateOfX d Th r15 x4 M12 (fun (v18 : Int32) (M17 : mM) => ∃ r20 : Nat, M17.2.2 a0 6 = some r20 ∧ (Th.2.2 r20 = some (.inl 1) ∧ (P1_stateOfY d Th r20 x5 x6 M17 (fun (v23 : Int32) (M22 : mM) => if v18 = (-1) then (Q (-1) M22) else (if v23 = (-1) then (Q (-1) M22) else (if x7 = 0 then (∃ r25 : Nat, M22.2.2 a0 6 = some r25 ∧ (Th.2.2 r25 = some (.inl 1) ∧ (P1_worthOf d Th r25 x3 v18 v23 M22 (fun (v28 : Int64) (M27 : mM) => Q v28 M27)))) else (∃ r30 : Nat, M22.2.2 a0 6 = some r30 ∧ (Th.2.2 r30 = some (.inl 1) ∧ (P1_choice d Th r30 x3 v18 v23 M22 (fun (v33 : Int32) (M32 : mM) => Q ((v33 : Int32).toInt64) M32))))))))))))))))))))))))) : P10_best (d + 1) Th a0 x1 x2 x3 x4 x5 x6 x7 M Q := by
  refine m_C.of (by decide +kernel) (Nat.le_of_ble_eq_true rfl) ?_
  show m_W (d + 1) 0 0 yX10_best cX10_best 10 (some .long) (m_ql Th Q) 0 [(0, .ref a0), (1, .int x1), (2, .int x2), (3, .int x3), (4, .int x4), (5, .int x5), (6, .int x6), (7, .int x7)] [] Th M 0 0
  refine m_aload_n dX10_best_0 rfl 0 rfl ?_
  refine m_iload_n dX10_best_1 rfl 1 rfl ?_
  refine m_iload_n dX10_best_2 rfl 2 rfl ?_
  obtain ⟨q3, h⟩ := h
  refine m_invV (ci := 10) (As := [.int x1, .int x2]) (d' := d) (mc' := 0) (ms' := 0) (rest := []) i_10_canHunt v_10_canHunt t_10_canHunt l_X10_164 ⟨_, _, rfl⟩ dX10_best_3 rfl rfl q3 (Nat.le_of_ble_eq_true rfl) (Nat.le_refl _) ⟨Nat.le_refl _, Nat.le_refl _⟩ (m_Ci h (fun v2 M1 h => ?_))
  show m_W (d + 1) 0 0 yX10_best cX10_best 10 (some .long) (m_ql Th Q) 6 [(0, .ref a0), (1, .int x1), (2, .int x2), (3, .int x3), (4, .int x4), (5, .int x5), (6, .int x6), (7, .int x7)] [.int v2] Th M1 0 0
  refine m_if_eq (tgt := 39) dX10_best_6 (by decide) (fun c1 => ?_) (fun c1 => ?_)
  · rw [if_pos c1] at h
    refine m_ldc2 k_X10_151 dX10_best_39 ?_
    exact m_lreturn dX10_best_42 rfl ⟨rfl, _, rfl, h⟩
  · rw [if_neg c1] at h
    refine m_iload_n dX10_best_9 rfl 3 rfl ?_
    refine m_iconst (v := 0) dX10_best_10 (by decide) ?_
    refine m_bipush (v := 10) dX10_best_11 (by decide) ?_
    refine m_invS (As := [.int x3, .int 0, .int 10]) (d' := d) (mc' := 0) (ms' := 0) (rest := []) i_10_within s_10_within l_X10_79 dX10_best_13 rfl rfl (Nat.le_of_ble_eq_true rfl) (Nat.le_refl _) ⟨Nat.le_refl _, Nat.le_refl _⟩ (m_Ci h (fun v5 M4 h => ?_))
    show m_W (d + 1) 0 0 yX10_best cX10_best 10 (some .long) (m_ql Th Q) 16 [(0, .ref a0), (1, .int x1), (2, .int x2), (3, .int x3), (4, .int x4), (5, .int x5), (6, .int x6), (7, .int x7)] [.int v5] Th M4 0 0
    refine m_if_eq (tgt := 39) dX10_best_16 (by decide) (fun c1 => ?_) (fun c1 => ?_)
    · rw [if_pos c1] at h
      refine m_ldc2 k_X10_151 dX10_best_39 ?_
      exact m_lreturn dX10_best_42 rfl ⟨rfl, _, rfl, h⟩
    · rw [if_neg c1] at h
      refine m_iload dX10_best_19 6 rfl ?_
      refine m_iconst (v := 0) dX10_best_21 (by decide) ?_
      refine m_iconst (v := 2) dX10_best_22 (by decide) ?_
      refine m_invS (As := [.int x6, .int 0, .int 2]) (d' := d) (mc' := 0) (ms' := 0) (rest := []) i_10_within s_10_within l_X10_79 dX10_best_23 rfl rfl (Nat.le_of_ble_eq_true rfl) (Nat.le_refl _) ⟨Nat.le_refl _, Nat.le_refl _⟩ (m_Ci h (fun v7 M6 h => ?_))
      show m_W (d + 1) 0 0 yX10_best cX10_best 10 (some .long) (m_ql Th Q) 26 [(0, .ref a0), (1, .int x1), (2, .int x2), (3, .int x3), (4, .int x4), (5, .int x5), (6, .int x6), (7, .int x7)] [.int v7] Th M6 0 0
      refine m_if_eq (tgt := 39) dX10_best_26 (by decide) (fun c1 => ?_) (fun c1 => ?_)
      · rw [if_pos c1] at h
        refine m_ldc2 k_X10_151 dX10_best_39 ?_
        exact m_lreturn dX10_best_42 rfl ⟨rfl, _, rfl, h⟩
      · rw [if_neg c1] at h
        refine m_iload dX10_best_29 7 rfl ?_
        refine m_iconst (v := 0) dX10_best_31 (by decide) ?_
        refine m_iconst (v := 1) dX10_best_32 (by decide) ?_
        refine m_invS (As := [.int x7, .int 0, .int 1]) (d' := d) (mc' := 0) (ms' := 0) (rest := []) i_10_within s_10_within l_X10_79 dX10_best_33 rfl rfl (Nat.le_of_ble_eq_true rfl) (Nat.le_refl _) ⟨Nat.le_refl _, Nat.le_refl _⟩ (m_Ci h (fun v9 M8 h => ?_))
        show m_W (d + 1) 0 0 yX10_best cX10_best 10 (some .long) (m_ql Th Q) 36 [(0, .ref a0), (1, .int x1), (2, .int x2), (3, .int x3), (4, .int x4), (5, .int x5), (6, .int x6), (7, .int x7)] [.int v9] Th M8 0 0
        refine m_if_ne (tgt := 43) dX10_best_36 (by decide) (fun c1 => ?_) (fun c1 => ?_)
        · rw [if_neg c1] at h
          refine m_aload_n dX10_best_43 rfl 0 rfl ?_
          obtain ⟨r10, q11, h⟩ := h
          refine m_getr f_X10_52 rfl dX10_best_44 q3 q11 ?_
          refine m_iload_n dX10_best_47 rfl 1 rfl ?_
          refine m_iload_n dX10_best_48 rfl 2 rfl ?_
          refine m_iconst (v := 0) dX10_best_49 (by decide) ?_
          obtain ⟨q14, h⟩ := h
          refine m_invV (ci := 1) (As := [.int x1, .int x2, .int 0]) (d' := d) (mc' := 0) (ms' := 0) (rest := []) i_1_begin v_1_begin t_1_begin l_X10_200 ⟨_, _, rfl⟩ dX10_best_50 rfl rfl q14 (Nat.le_of_ble_eq_true rfl) (Nat.le_refl _) ⟨Nat.le_refl _, Nat.le_refl _⟩ (m_Cv h (fun M12 h => ?_))
          show m_W (d + 1) 0 0 yX10_best cX10_best 10 (some .long) (m_ql Th Q) 53 [(0, .ref a0), (1, .int x1), (2, .int x2), (3, .int x3), (4, .int x4), (5, .int x5), (6, .int x6), (7, .int x7)] [] Th M12 0 0
          refine m_aload_n dX10_best_53 rfl 0 rfl ?_
          obtain ⟨r15, q16, h⟩ := h
          refine m_getr f_X10_52 rfl dX10_best_54 q3 q16 ?_
          refine m_iload dX10_best_57 4 rfl ?_
          obtain ⟨q19, h⟩ := h
          refine m_invV (ci := 1) (As := [.int x4]) (d' := d) (mc' := 0) (ms' := 0) (rest := []) i_1_stateOfX v_1_stateOfX t_1_stateOfX l_X10_204 ⟨_, _, rfl⟩ dX10_best_59 rfl rfl q19 (Nat.le_of_ble_eq_true rfl) (Nat.le_refl _) ⟨Nat.le_refl _, Nat.le_refl _⟩ (m_Ci h (fun v18 M17 h => ?_))
          show m_W (d + 1) 0 0 yX10_best cX10_best 10 (some .long) (m_ql Th Q) 62 [(0, .ref a0), (1, .int x1), (2, .int x2), (3, .int x3), (4, .int x4), (5, .int x5), (6, .int x6), (7, .int x7)] [.int v18] Th M17 0 0
          refine m_istore (lv' := [(8, .int v18), (0, .ref a0), (1, .int x1), (2, .int x2), (3, .int x3), (4, .int x4), (5, .int x5), (6, .int x6), (7, .int x7)]) dX10_best_62 (by decide) rfl ?_
          refine m_aload_n dX10_best_64 rfl 1 rfl ?_
          obtain ⟨r20, q21, h⟩ := h
          refine m_getr f_X10_52 rfl dX10_best_65 q3 q21 ?_
          refine m_iload dX10_best_68 6 rfl ?_
          refine m_iload dX10_best_70 7 rfl ?_
          obtain ⟨q24, h⟩ := h
          refine m_invV (ci := 1) (As := [.int x5, .int x6]) (d' := d) (mc' := 0) (ms' := 0) (rest := []) i_1_stateOfY v_1_stateOfY t_1_stateOfY l_X10_208 ⟨_, _, rfl⟩ dX10_best_72 rfl rfl q24 (Nat.le_of_ble_eq_true rfl) (Nat.le_refl _) ⟨Nat.le_refl _, Nat.le_refl _⟩ (m_Ci h (fun v23 M22 h => ?_))
          show m_W (d + 1) 0 0 yX10_best cX10_best 10 (some .long) (m_ql Th Q) 75 [(8, .int v18), (0, .ref a0), (1, .int x1), (2, .int x2), (3, .int x3), (4, .int x4), (5, .int x5), (6, .int x6), (7, .int x7)] [.int v23] Th M22 0 0
          refine m_istore (lv' := [(9, .int v23), (8, .int v18), (0, .ref a0), (1, .int x1), (2, .int x2), (3, .int x3), (4, .int x4), (5, .int x5), (6, .int x6), (7, .int x7)]) dX10_best_75 (by decide) rfl ?_
          refine m_iload dX10_best_77 1 rfl ?_
          refine m_iconst (v := (-1)) dX10_best_79 (by decide) ?_
          refine m_icmp_eq (tgt := 89) dX10_best_80 (by decide) (fun c1 => ?_) (fun c1 => ?_)
          · rw [if_pos c1] at h
            refine m_ldc2 k_X10_151 dX10_best_89 ?_
            exact m_lreturn dX10_best_92 rfl ⟨rfl, _, rfl, h⟩
          · rw [if_neg c1] at h
            refine m_iload dX10_best_83 0 rfl ?_
            refine m_iconst (v := (-1)) dX10_best_85 (by decide) ?_
            refine m_icmp_ne (tgt := 93) dX10_best_86 (by decide) (fun c1 => ?_) (fun c1 => ?_)
            · rw [if_neg c1] at h
              refine m_iload dX10_best_93 9 rfl ?_
              refine m_if_ne (tgt := 113) dX10_best_95 (by decide) (fun c1 => ?_) (fun c1 => ?_)
              · rw [if_neg c1] at h
                refine m_aload_n dX10_best_113 rfl 2 rfl ?_
                obtain ⟨r30, q31, h⟩ := h
                refine m_getr f_X10_52 rfl dX10_best_114 q3 q31 ?_
                refine m_iload_n dX10_best_117 rfl 5 rfl ?_
                refine m_iload dX10_best_118 1 rfl ?_
                refine m_iload dX10_best_120 0 rfl ?_
                obtain ⟨q34, h⟩ := h
                refine m_invV (ci := 1) (As := [.int x3, .int v18, .int v23]) (d' := d) (mc' := 0) (ms' := 0) (rest := []) i_1_choice v_1_choice t_1_choice l_X10_215 ⟨_, _, rfl⟩ dX10_best_122 rfl rfl q34 (Nat.le_of_ble_eq_true rfl) (Nat.le_refl _) ⟨Nat.le_refl _, Nat.le_refl _⟩ (m_Ci h (fun v33 M32 h => ?_))
                show m_W (d + 1) 0 0 yX10_best cX10_best 10 (some .long) (m_ql Th Q) 125 [(9, .int v23), (8, .int v18), (0, .ref a0), (1, .int x1), (2, .int x2), (3, .int x3), (4, .int x4), (5, .int x5), (6, .int x6), (7, .int x7)] [.int v33] Th M32 0 0
                refine m_i2l dX10_best_125 ?_
                exact m_lreturn dX10_best_126 rfl ⟨rfl, _, rfl, h⟩
              · rw [if_pos c1] at h
                refine m_aload_n dX10_best_98 rfl 2 rfl ?_
                obtain ⟨r25, q26, h⟩ := h
                refine m_getr f_X10_52 rfl dX10_best_99 q3 q26 ?_
                refine m_iload_n dX10_best_102 rfl 5 rfl ?_
                refine m_iload dX10_best_103 1 rfl ?_
                refine m_iload dX10_best_105 0 rfl ?_
                obtain ⟨q29, h⟩ := h
                refine m_invV (ci := 1) (As := [.int x3, .int v18, .int v23]) (d' := d) (mc' := 0) (ms' := 0) (rest := []) i_1_worthOf v_1_worthOf t_1_worthOf l_X10_211 ⟨_, _, rfl⟩ dX10_best_107 rfl rfl q29 (Nat.le_of_ble_eq_true rfl) (Nat.le_refl _) ⟨Nat.le_refl _, Nat.le_refl _⟩ (m_Cl h (fun v28 M27 h => ?_))
                show m_W (d + 1) 0 0 yX10_best cX10_best 10 (some .long) (m_ql Th Q) 110 [(9, .int v23), (8, .int v18), (0, .ref a0), (1, .int x1), (2, .int x2), (3, .int x3), (4, .int x4), (5, .int x5), (6, .int x6), (7, .int x7)] [.long v28] Th M27 0 0
                refine m_goto (tgt := 126) dX10_best_110 (by decide) ?_
                exact m_lreturn dX10_best_126 rfl ⟨rfl, _, rfl, h⟩
            · rw [if_pos c1] at h
              refine m_ldc2 k_X10_151 dX10_best_89 ?_
              exact m_lreturn dX10_best_92 rfl ⟨rfl, _, rfl, h⟩
        · rw [if_pos c1] at h
          refine m_ldc2 k_X10_151 dX10_best_39 ?_
          exact m_lreturn dX10_best_42 rfl ⟨rfl, _, rfl, h⟩
set_option maxHeartbeats 4000000 in
set_option maxRecDepth 100000 in
theorem e10_without {d : Nat} {Th : mT} {Q : Int64 → mM → Prop} {a0 : Nat} {x1 : Int32} {x2 : Int32} {x3 : Int32} {M : mM} (h : Th.2.2 a0 = some (.inl 10) ∧ (P10_canHunt d Th a0 x1 x2 M (fun (v2 : Int32) (M1 : mM) => if v2 = 0 then (Q 1 M1) else (P10_within d Th x3 1 7 M1 (fun (v5 : Int32) (M4 : mM) => if v5 = 0 then (Q 1 M4) else (∃ r6 : Nat, M4.2.2 a0 6 = some r6 ∧ (Th.2.2 r6 = some (.inl 1) ∧ (P1_begin d Th r6 x1 x2 0 M4 (fun M8 : mM => ∃ r11 : Nat, M8.2.2 a0 6 = some r11 ∧ (Th.2.2 r11 = some (.inl 1) ∧ (P1_worthOf d Th r11 10 0 0 M8 (fun (v14 : Int64) (M13 : mM) => ∃ r16 : Nat, M13.2.2 a0 6 = some r16 ∧ (Th.2.2 r16 = some (.inl 1) ∧ (P1_begin d Th r16 x1 x2 x3 M13 (fun M18 : mM => ∃ r21 : Nat, M18.2.2 a0 6 = some r21 ∧ (Th.2.2 r21 = some (.inl 1) ∧ (P1_worthOf d Th r21 10 0 0 M18 (fun (v24 : Int64) (M23 : mM) => Q ((v24 - v14)) M23)))))))))))))))))) : P10_without (d + 1) Th a0 x1 x2 x3 M Q := by
  refine m_C.of (by decide +kernel) (Nat.le_of_ble_eq_true rfl) ?_
  show m_W (d + 1) 0 0 yX10_without cX10_without 6 (some .long) (m_ql Th Q) 0 [(0, .ref a0), (1, .int x1), (2, .int x2), (3, .int x3)] [] Th M 0 0
  refine m_aload_n dX10_without_0 rfl 0 rfl ?_
  refine m_iload_n dX10_without_1 rfl 1 rfl ?_
  refine m_iload_n dX10_without_2 rfl 2 rfl ?_
  obtain ⟨q3, h⟩ := h
  refine m_invV (ci := 10) (As := [.int x1, .int x2]) (d' := d) (mc' := 0) (ms' := 0) (rest := []) i_10_canHunt v_10_canHunt t_10_canHunt l_X10_164 ⟨_, _, rfl⟩ dX10_without_3 rfl rfl q3 (Nat.le_of_ble_eq_true rfl) (Nat.le_refl _) ⟨Nat.le_refl _, Nat.le_refl _⟩ (m_Ci h (fun v2 M1 h => ?_))
  show m_W (d + 1) 0 0 yX10_without cX10_without 6 (some .long) (m_ql Th Q) 6 [(0, .ref a0), (1, .int x1), (2, .int x2), (3, .int x3)] [.int v2] Th M1 0 0
  refine m_if_eq (tgt := 19) dX10_without_6 (by decide) (fun c1 => ?_) (fun c1 => ?_)
  · rw [if_pos c1] at h
    refine m_lconst (v := 1) dX10_without_19 (by decide) ?_
    exact m_lreturn dX10_without_20 rfl ⟨rfl, _, rfl, h⟩
  · rw [if_neg c1] at h
    refine m_iload_n dX10_without_9 rfl 3 rfl ?_
    refine m_iconst (v := 1) dX10_without_10 (by decide) ?_
    refine m_bipush (v := 7) dX10_without_11 (by decide) ?_
    refine m_invS (As := [.int x3, .int 1, .int 7]) (d' := d) (mc' := 0) (ms' := 0) (rest := []) i_10_within s_10_within l_X10_79 dX10_without_13 rfl rfl (Nat.le_of_ble_eq_true rfl) (Nat.le_refl _) ⟨Nat.le_refl _, Nat.le_refl _⟩ (m_Ci h (fun v5 M4 h => ?_))
    show m_W (d + 1) 0 0 yX10_without cX10_without 6 (some .long) (m_ql Th Q) 16 [(0, .ref a0), (1, .int x1), (2, .int x2), (3, .int x3)] [.int v5] Th M4 0 0
    refine m_if_ne (tgt := 21) dX10_without_16 (by decide) (fun c1 => ?_) (fun c1 => ?_)
    · rw [if_neg c1] at h
      refine m_aload_n dX10_without_21 rfl 0 rfl ?_
      obtain ⟨r6, q7, h⟩ := h
      refine m_getr f_X10_52 rfl dX10_without_22 q3 q7 ?_
      refine m_iload_n dX10_without_25 rfl 1 rfl ?_
      refine m_iload_n dX10_without_26 rfl 2 rfl ?_
      refine m_iconst (v := 0) dX10_without_27 (by decide) ?_
      obtain ⟨q10, h⟩ := h
      refine m_invV (ci := 1) (As := [.int x1, .int x2, .int 0]) (d' := d) (mc' := 0) (ms' := 0) (rest := []) i_1_begin v_1_begin t_1_begin l_X10_200 ⟨_, _, rfl⟩ dX10_without_28 rfl rfl q10 (Nat.le_of_ble_eq_true rfl) (Nat.le_refl _) ⟨Nat.le_refl _, Nat.le_refl _⟩ (m_Cv h (fun M8 h => ?_))
      show m_W (d + 1) 0 0 yX10_without cX10_without 6 (some .long) (m_ql Th Q) 31 [(0, .ref a0), (1, .int x1), (2, .int x2), (3, .int x3)] [] Th M8 0 0
      refine m_aload_n dX10_without_31 rfl 0 rfl ?_
      obtain ⟨r11, q12, h⟩ := h
      refine m_getr f_X10_52 rfl dX10_without_32 q3 q12 ?_
      refine m_bipush (v := 10) dX10_without_35 (by decide) ?_
      refine m_iconst (v := 0) dX10_without_37 (by decide) ?_
      refine m_iconst (v := 0) dX10_without_38 (by decide) ?_
      obtain ⟨q15, h⟩ := h
      refine m_invV (ci := 1) (As := [.int 10, .int 0, .int 0]) (d' := d) (mc' := 0) (ms' := 0) (rest := []) i_1_worthOf v_1_worthOf t_1_worthOf l_X10_211 ⟨_, _, rfl⟩ dX10_without_39 rfl rfl q15 (Nat.le_of_ble_eq_true rfl) (Nat.le_refl _) ⟨Nat.le_refl _, Nat.le_refl _⟩ (m_Cl h (fun v14 M13 h => ?_))
      show m_W (d + 1) 0 0 yX10_without cX10_without 6 (some .long) (m_ql Th Q) 42 [(0, .ref a0), (1, .int x1), (2, .int x2), (3, .int x3)] [.long v14] Th M13 0 0
      refine m_lstore (lv' := [(4, .long v14), (0, .ref a0), (1, .int x1), (2, .int x2), (3, .int x3)]) dX10_without_42 (by decide) rfl ?_
      refine m_aload_n dX10_without_44 rfl 1 rfl ?_
      obtain ⟨r16, q17, h⟩ := h
      refine m_getr f_X10_52 rfl dX10_without_45 q3 q17 ?_
      refine m_iload_n dX10_without_48 rfl 2 rfl ?_
      refine m_iload_n dX10_without_49 rfl 3 rfl ?_
      refine m_iload_n dX10_without_50 rfl 4 rfl ?_
      obtain ⟨q20, h⟩ := h
      refine m_invV (ci := 1) (As := [.int x1, .int x2, .int x3]) (d' := d) (mc' := 0) (ms' := 0) (rest := []) i_1_begin v_1_begin t_1_begin l_X10_200 ⟨_, _, rfl⟩ dX10_without_51 rfl rfl q20 (Nat.le_of_ble_eq_true rfl) (Nat.le_refl _) ⟨Nat.le_refl _, Nat.le_refl _⟩ (m_Cv h (fun M18 h => ?_))
      show m_W (d + 1) 0 0 yX10_without cX10_without 6 (some .long) (m_ql Th Q) 54 [(4, .long v14), (0, .ref a0), (1, .int x1), (2, .int x2), (3, .int x3)] [] Th M18 0 0
      refine m_aload_n dX10_without_54 rfl 1 rfl ?_
      obtain ⟨r21, q22, h⟩ := h
      refine m_getr f_X10_52 rfl dX10_without_55 q3 q22 ?_
      refine m_bipush (v := 10) dX10_without_58 (by decide) ?_
      refine m_iconst (v := 0) dX10_without_60 (by decide) ?_
      refine m_iconst (v := 0) dX10_without_61 (by decide) ?_
      obtain ⟨q25, h⟩ := h
      refine m_invV (ci := 1) (As := [.int 10, .int 0, .int 0]) (d' := d) (mc' := 0) (ms' := 0) (rest := []) i_1_worthOf v_1_worthOf t_1_worthOf l_X10_211 ⟨_, _, rfl⟩ dX10_without_62 rfl rfl q25 (Nat.le_of_ble_eq_true rfl) (Nat.le_refl _) ⟨Nat.le_refl _, Nat.le_refl _⟩ (m_Cl h (fun v24 M23 h => ?_))
      show m_W (d + 1) 0 0 yX10_without cX10_without 6 (some .long) (m_ql Th Q) 65 [(4, .long v14), (0, .ref a0), (1, .int x1), (2, .int x2), (3, .int x3)] [.long v24] Th M23 0 0
      refine m_lload dX10_without_65 0 rfl ?_
      refine m_lsub dX10_without_67 ?_
      exact m_lreturn dX10_without_68 rfl ⟨rfl, _, rfl, h⟩
    · rw [if_pos c1] at h
      refine m_lconst (v := 1) dX10_without_19 (by decide) ?_
      exact m_lreturn dX10_without_20 rfl ⟨rfl, _, rfl, h⟩
set_option maxHeartbeats 4000000 in
set_option maxRecDepth 100000 in
theorem e10_waits {d : Nat} {Th : mT} {Q : Int32 → mM → Prop} {a0 : Nat} {x1 : Int32} {x2 : Int32} {x3 : Int32} {x4 : Int32} {x5 : Int32} {M : mM} (h : Th.2.2 a0 = some (.inl 10) ∧ (P10_canHunt d Th a0 x1 x2 M (fun (v2 : Int32) (M1 : mM) => if v2 = 0 then (Q (-1) M1) else (∃ r4 : Nat, M1.2.2 a0 1 = some r4 ∧ (Th.2.2 r4 = some (.inl 2) ∧ (P2_hasRiddle d Th r4 x3 M1 (fun (v7 : Int32) (M6 : mM) => if v7 = 0 then (Q (-1) M6) else (P10_within d Th x4 1 10 M6 (fun (v10 : Int32) (M9 : mM) => if v10 = 0 then (Q (-1) M9) else (P10_within d Th x5 0 5 M9 (fun (v12 : Int32) (M11 : mM) => if v12 = 0 then (Q (-1) M11) else (∃ r13 : Nat, M11.2.2 a0 6 = some r13 ∧ (Th.2.2 r13 = some (.inl 1) ∧ (P1_begin d Th r13 x1 x2 0 M11 (fun M15 : mM => ∃ r18 : Nat, M15.2.2 a0 6 = some r18 ∧ (Th.2.2 r18 = some (.inl 1) ∧ (P1_waitsFrom d Th r18 x3 x4 x5 M15 (fun (v21 : Int32) (M20 : mM) => Q v21 M20)))))))))))))))))) : P10_waits (d + 1) Th a0 x1 x2 x3 x4 x5 M Q := by
  refine m_C.of (by decide +kernel) (Nat.le_of_ble_eq_true rfl) ?_
  show m_W (d + 1) 0 0 yX10_waits cX10_waits 6 (some .int) (m_qi Th Q) 0 [(0, .ref a0), (1, .int x1), (2, .int x2), (3, .int x3), (4, .int x4), (5, .int x5)] [] Th M 0 0
  refine m_aload_n dX10_waits_0 rfl 0 rfl ?_
  refine m_iload_n dX10_waits_1 rfl 1 rfl ?_
  refine m_iload_n dX10_waits_2 rfl 2 rfl ?_
  obtain ⟨q3, h⟩ := h
  refine m_invV (ci := 10) (As := [.int x1, .int x2]) (d' := d) (mc' := 0) (ms' := 0) (rest := []) i_10_canHunt v_10_canHunt t_10_canHunt l_X10_164 ⟨_, _, rfl⟩ dX10_waits_3 rfl rfl q3 (Nat.le_of_ble_eq_true rfl) (Nat.le_refl _) ⟨Nat.le_refl _, Nat.le_refl _⟩ (m_Ci h (fun v2 M1 h => ?_))
  show m_W (d + 1) 0 0 yX10_waits cX10_waits 6 (some .int) (m_qi Th Q) 6 [(0, .ref a0), (1, .int x1), (2, .int x2), (3, .int x3), (4, .int x4), (5, .int x5)] [.int v2] Th M1 0 0
  refine m_if_eq (tgt := 20) dX10_waits_6 (by decide) (fun c1 => ?_) (fun c1 => ?_)
  · rw [if_pos c1] at h
    refine m_iconst (v := (-1)) dX10_waits_20 (by decide) ?_
    exact m_ireturn dX10_waits_21 rfl rfl ⟨rfl, _, rfl, h⟩
  · rw [if_neg c1] at h
    refine m_aload_n dX10_waits_9 rfl 0 rfl ?_
    obtain ⟨r4, q5, h⟩ := h
    refine m_getr f_X10_19 rfl dX10_waits_10 q3 q5 ?_
    refine m_iload_n dX10_waits_13 rfl 3 rfl ?_
    obtain ⟨q8, h⟩ := h
    refine m_invV (ci := 2) (As := [.int x3]) (d' := d) (mc' := 0) (ms' := 0) (rest := []) i_2_hasRiddle v_2_hasRiddle t_2_hasRiddle l_X10_134 ⟨_, _, rfl⟩ dX10_waits_14 rfl rfl q8 (Nat.le_of_ble_eq_true rfl) (Nat.le_refl _) ⟨Nat.le_refl _, Nat.le_refl _⟩ (m_Ci h (fun v7 M6 h => ?_))
    show m_W (d + 1) 0 0 yX10_waits cX10_waits 6 (some .int) (m_qi Th Q) 17 [(0, .ref a0), (1, .int x1), (2, .int x2), (3, .int x3), (4, .int x4), (5, .int x5)] [.int v7] Th M6 0 0
    refine m_if_ne (tgt := 22) dX10_waits_17 (by decide) (fun c1 => ?_) (fun c1 => ?_)
    · rw [if_neg c1] at h
      refine m_iload dX10_waits_22 4 rfl ?_
      refine m_iconst (v := 1) dX10_waits_24 (by decide) ?_
      refine m_bipush (v := 10) dX10_waits_25 (by decide) ?_
      refine m_invS (As := [.int x4, .int 1, .int 10]) (d' := d) (mc' := 0) (ms' := 0) (rest := []) i_10_within s_10_within l_X10_79 dX10_waits_27 rfl rfl (Nat.le_of_ble_eq_true rfl) (Nat.le_refl _) ⟨Nat.le_refl _, Nat.le_refl _⟩ (m_Ci h (fun v10 M9 h => ?_))
      show m_W (d + 1) 0 0 yX10_waits cX10_waits 6 (some .int) (m_qi Th Q) 30 [(0, .ref a0), (1, .int x1), (2, .int x2), (3, .int x3), (4, .int x4), (5, .int x5)] [.int v10] Th M9 0 0
      refine m_if_eq (tgt := 43) dX10_waits_30 (by decide) (fun c1 => ?_) (fun c1 => ?_)
      · rw [if_pos c1] at h
        refine m_iconst (v := (-1)) dX10_waits_43 (by decide) ?_
        exact m_ireturn dX10_waits_44 rfl rfl ⟨rfl, _, rfl, h⟩
      · rw [if_neg c1] at h
        refine m_iload dX10_waits_33 5 rfl ?_
        refine m_iconst (v := 0) dX10_waits_35 (by decide) ?_
        refine m_iconst (v := 5) dX10_waits_36 (by decide) ?_
        refine m_invS (As := [.int x5, .int 0, .int 5]) (d' := d) (mc' := 0) (ms' := 0) (rest := []) i_10_within s_10_within l_X10_79 dX10_waits_37 rfl rfl (Nat.le_of_ble_eq_true rfl) (Nat.le_refl _) ⟨Nat.le_refl _, Nat.le_refl _⟩ (m_Ci h (fun v12 M11 h => ?_))
        show m_W (d + 1) 0 0 yX10_waits cX10_waits 6 (some .int) (m_qi Th Q) 40 [(0, .ref a0), (1, .int x1), (2, .int x2), (3, .int x3), (4, .int x4), (5, .int x5)] [.int v12] Th M11 0 0
        refine m_if_ne (tgt := 45) dX10_waits_40 (by decide) (fun c1 => ?_) (fun c1 => ?_)
        · rw [if_neg c1] at h
          refine m_aload_n dX10_waits_45 rfl 0 rfl ?_
          obtain ⟨r13, q14, h⟩ := h
          refine m_getr f_X10_52 rfl dX10_waits_46 q3 q14 ?_
          refine m_iload_n dX10_waits_49 rfl 1 rfl ?_
          refine m_iload_n dX10_waits_50 rfl 2 rfl ?_
          refine m_iconst (v := 0) dX10_waits_51 (by decide) ?_
          obtain ⟨q17, h⟩ := h
          refine m_invV (ci := 1) (As := [.int x1, .int x2, .int 0]) (d' := d) (mc' := 0) (ms' := 0) (rest := []) i_1_begin v_1_begin t_1_begin l_X10_200 ⟨_, _, rfl⟩ dX10_waits_52 rfl rfl q17 (Nat.le_of_ble_eq_true rfl) (Nat.le_refl _) ⟨Nat.le_refl _, Nat.le_refl _⟩ (m_Cv h (fun M15 h => ?_))
          show m_W (d + 1) 0 0 yX10_waits cX10_waits 6 (some .int) (m_qi Th Q) 55 [(0, .ref a0), (1, .int x1), (2, .int x2), (3, .int x3), (4, .int x4), (5, .int x5)] [] Th M15 0 0
          refine m_aload_n dX10_waits_55 rfl 0 rfl ?_
          obtain ⟨r18, q19, h⟩ := h
          refine m_getr f_X10_52 rfl dX10_waits_56 q3 q19 ?_
          refine m_iload_n dX10_waits_59 rfl 3 rfl ?_
          refine m_iload dX10_waits_60 4 rfl ?_
          refine m_iload dX10_waits_62 5 rfl ?_
          obtain ⟨q22, h⟩ := h
          refine m_invV (ci := 1) (As := [.int x3, .int x4, .int x5]) (d' := d) (mc' := 0) (ms' := 0) (rest := []) i_1_waitsFrom v_1_waitsFrom t_1_waitsFrom l_X10_218 ⟨_, _, rfl⟩ dX10_waits_64 rfl rfl q22 (Nat.le_of_ble_eq_true rfl) (Nat.le_refl _) ⟨Nat.le_refl _, Nat.le_refl _⟩ (m_Ci h (fun v21 M20 h => ?_))
          show m_W (d + 1) 0 0 yX10_waits cX10_waits 6 (some .int) (m_qi Th Q) 67 [(0, .ref a0), (1, .int x1), (2, .int x2), (3, .int x3), (4, .int x4), (5, .int x5)] [.int v21] Th M20 0 0
          exact m_ireturn dX10_waits_67 rfl rfl ⟨rfl, _, rfl, h⟩
        · rw [if_pos c1] at h
          refine m_iconst (v := (-1)) dX10_waits_43 (by decide) ?_
          exact m_ireturn dX10_waits_44 rfl rfl ⟨rfl, _, rfl, h⟩
    · rw [if_pos c1] at h
      refine m_iconst (v := (-1)) dX10_waits_20 (by decide) ?_
      exact m_ireturn dX10_waits_21 rfl rfl ⟨rfl, _, rfl, h⟩
set_option maxHeartbeats 4000000 in
set_option maxRecDepth 100000 in
theorem e10_order {d : Nat} {Th : mT} {Q : Int32 → mM → Prop} {a0 : Nat} {M : mM} (h : Th.2.2 a0 = some (.inl 10) ∧ (∃ r2 : Nat, M.2.2 a0 1 = some r2 ∧ (Th.2.2 r2 = some (.inl 2) ∧ (if ((M).1 r2 0) = 0 then (Q (-1) M) else (∃ r5 : Nat, M.2.2 a0 7 = some r5 ∧ (Th.2.2 r5 = some (.inl 6) ∧ (if 5 ≤ ((M).1 r5 5) then (Q (-1) M) else (∃ r8 : Nat, M.2.2 a0 0 = some r8 ∧ (Th.2.2 r8 = some (.inl 9) ∧ (if ((M).1 r2 0) ≤ ((M).1 r8 1) then (P6_add d Th r5 r8 (((M).1 r2 0)) M (fun (v12 : Int32) (M11 : mM) => ∃ r13 : Nat, M11.2.2 a0 0 = some r13 ∧ (Th.2.2 r13 = some (.inl 9) ∧ (P9_drop d Th r13 M11 (fun M15 : mM => Q v12 M15))))) else (Q (-1) M))))))))))) : P10_order (d + 1) Th a0 M Q := by
  refine m_C.of (by decide +kernel) (Nat.le_of_ble_eq_true rfl) ?_
  show m_W (d + 1) 0 0 yX10_order cX10_order 2 (some .int) (m_qi Th Q) 0 [(0, .ref a0)] [] Th M 0 0
  refine m_aload_n dX10_order_0 rfl 0 rfl ?_
  obtain ⟨q1, h⟩ := h
  obtain ⟨r2, q3, h⟩ := h
  refine m_getr f_X10_19 rfl dX10_order_1 q1 q3 ?_
  obtain ⟨q4, h⟩ := h
  refine m_geti f_X10_83 rfl dX10_order_4 q4 ?_
  refine m_if_eq (tgt := 38) dX10_order_7 (by decide) (fun c1 => ?_) (fun c1 => ?_)
  · rw [if_pos c1] at h
    refine m_iconst (v := (-1)) dX10_order_38 (by decide) ?_
    exact m_ireturn dX10_order_39 rfl rfl ⟨rfl, _, rfl, h⟩
  · rw [if_neg c1] at h
    refine m_aload_n dX10_order_10 rfl 0 rfl ?_
    obtain ⟨r5, q6, h⟩ := h
    refine m_getr f_X10_59 rfl dX10_order_11 q1 q6 ?_
    obtain ⟨q7, h⟩ := h
    refine m_geti f_X10_221 rfl dX10_order_14 q7 ?_
    refine m_iconst (v := 5) dX10_order_17 (by decide) ?_
    refine m_icmp_ge (tgt := 38) dX10_order_18 (by decide) (fun c1 => ?_) (fun c1 => ?_)
    · rw [if_pos c1] at h
      refine m_iconst (v := (-1)) dX10_order_38 (by decide) ?_
      exact m_ireturn dX10_order_39 rfl rfl ⟨rfl, _, rfl, h⟩
    · rw [if_neg c1] at h
      refine m_aload_n dX10_order_21 rfl 0 rfl ?_
      obtain ⟨r8, q9, h⟩ := h
      refine m_getr f_X10_10 rfl dX10_order_22 q1 q9 ?_
      obtain ⟨q10, h⟩ := h
      refine m_geti f_X10_107 rfl dX10_order_25 q10 ?_
      refine m_aload_n dX10_order_28 rfl 0 rfl ?_
      refine m_getr f_X10_19 rfl dX10_order_29 q1 q3 ?_
      refine m_geti f_X10_83 rfl dX10_order_32 q4 ?_
      refine m_icmp_ge (tgt := 40) dX10_order_35 (by decide) (fun c1 => ?_) (fun c1 => ?_)
      · rw [if_pos c1] at h
        refine m_aload_n dX10_order_40 rfl 0 rfl ?_
        refine m_getr f_X10_59 rfl dX10_order_41 q1 q6 ?_
        refine m_aload_n dX10_order_44 rfl 0 rfl ?_
        refine m_getr f_X10_10 rfl dX10_order_45 q1 q9 ?_
        refine m_aload_n dX10_order_48 rfl 0 rfl ?_
        refine m_getr f_X10_19 rfl dX10_order_49 q1 q3 ?_
        refine m_geti f_X10_83 rfl dX10_order_52 q4 ?_
        refine m_invV (ci := 6) (As := [.ref r8, .int (((M).1 r2 0))]) (d' := d) (mc' := 0) (ms' := 0) (rest := []) i_6_add v_6_add t_6_add l_X10_222 ⟨_, _, rfl⟩ dX10_order_55 rfl rfl q7 (Nat.le_of_ble_eq_true rfl) (Nat.le_refl _) ⟨Nat.le_refl _, Nat.le_refl _⟩ (m_Ci h (fun v12 M11 h => ?_))
        show m_W (d + 1) 0 0 yX10_order cX10_order 2 (some .int) (m_qi Th Q) 58 [(0, .ref a0)] [.int v12] Th M11 0 0
        refine m_istore_n (lv' := [(1, .int v12), (0, .ref a0)]) dX10_order_58 rfl (by decide) rfl ?_
        refine m_aload_n dX10_order_59 rfl 1 rfl ?_
        obtain ⟨r13, q14, h⟩ := h
        refine m_getr f_X10_10 rfl dX10_order_60 q1 q14 ?_
        obtain ⟨q17, h⟩ := h
        refine m_invV (ci := 9) (As := []) (d' := d) (mc' := 0) (ms' := 0) (rest := []) i_9_drop v_9_drop t_9_drop l_X10_127 ⟨_, _, rfl⟩ dX10_order_63 rfl rfl q17 (Nat.le_of_ble_eq_true rfl) (Nat.le_refl _) ⟨Nat.le_refl _, Nat.le_refl _⟩ (m_Cv h (fun M15 h => ?_))
        show m_W (d + 1) 0 0 yX10_order cX10_order 2 (some .int) (m_qi Th Q) 66 [(1, .int v12), (0, .ref a0)] [] Th M15 0 0
        refine m_iload_n dX10_order_66 rfl 0 rfl ?_
        exact m_ireturn dX10_order_67 rfl rfl ⟨rfl, _, rfl, h⟩
      · rw [if_neg c1] at h
        refine m_iconst (v := (-1)) dX10_order_38 (by decide) ?_
        exact m_ireturn dX10_order_39 rfl rfl ⟨rfl, _, rfl, h⟩
set_option maxHeartbeats 4000000 in
set_option maxRecDepth 100000 in
theorem e10_given {d : Nat} {Th : mT} {Q : Int32 → mM → Prop} {a0 : Nat} {x1 : Int32} {x2 : Int32} {M : mM} (h : P10_within d Th x1 2 5 M (fun (v2 : Int32) (M1 : mM) => if v2 = 0 then (Q (-1) M1) else (P10_within d Th x2 (-1) ((x1 - 1)) M1 (fun (v4 : Int32) (M3 : mM) => if v4 = 0 then (Q (-1) M3) else (Th.2.2 a0 = some (.inl 10) ∧ (∃ r6 : Nat, M3.2.2 a0 7 = some r6 ∧ (Th.2.2 r6 = some (.inl 6) ∧ (if ((M3).1 r6 5) = 0 then (Q (-1) M3) else (P6_giveTo d Th r6 x1 M3 (fun M9 : mM => if x2 = (-1) then (∃ r11 : Nat, M9.2.2 a0 7 = some r11 ∧ (Th.2.2 r11 = some (.inl 6) ∧ (Q (((M9).1 r11 6)) M9))) else (∃ r14 : Nat, M9.2.2 a0 7 = some r14 ∧ (Th.2.2 r14 = some (.inl 6) ∧ (P6_rowOf d Th r14 x2 M9 (fun (v17 : Int32) (M16 : mM) => Q v17 M16)))))))))))))) : P10_given (d + 1) Th a0 x1 x2 M Q := by
  refine m_C.of (by decide +kernel) (Nat.le_of_ble_eq_true rfl) ?_
  show m_W (d + 1) 0 0 yX10_given cX10_given 3 (some .int) (m_qi Th Q) 0 [(0, .ref a0), (1, .int x1), (2, .int x2)] [] Th M 0 0
  refine m_iload_n dX10_given_0 rfl 1 rfl ?_
  refine m_iconst (v := 2) dX10_given_1 (by decide) ?_
  refine m_iconst (v := 5) dX10_given_2 (by decide) ?_
  refine m_invS (As := [.int x1, .int 2, .int 5]) (d' := d) (mc' := 0) (ms' := 0) (rest := []) i_10_within s_10_within l_X10_79 dX10_given_3 rfl rfl (Nat.le_of_ble_eq_true rfl) (Nat.le_refl _) ⟨Nat.le_refl _, Nat.le_refl _⟩ (m_Ci h (fun v2 M1 h => ?_))
  show m_W (d + 1) 0 0 yX10_given cX10_given 3 (some .int) (m_qi Th Q) 6 [(0, .ref a0), (1, .int x1), (2, .int x2)] [.int v2] Th M1 0 0
  refine m_if_eq (tgt := 30) dX10_given_6 (by decide) (fun c1 => ?_) (fun c1 => ?_)
  · rw [if_pos c1] at h
    refine m_iconst (v := (-1)) dX10_given_30 (by decide) ?_
    exact m_ireturn dX10_given_31 rfl rfl ⟨rfl, _, rfl, h⟩
  · rw [if_neg c1] at h
    refine m_iload_n dX10_given_9 rfl 2 rfl ?_
    refine m_iconst (v := (-1)) dX10_given_10 (by decide) ?_
    refine m_iload_n dX10_given_11 rfl 1 rfl ?_
    refine m_iconst (v := 1) dX10_given_12 (by decide) ?_
    refine m_isub dX10_given_13 ?_
    refine m_invS (As := [.int x2, .int (-1), .int ((x1 - 1))]) (d' := d) (mc' := 0) (ms' := 0) (rest := []) i_10_within s_10_within l_X10_79 dX10_given_14 rfl rfl (Nat.le_of_ble_eq_true rfl) (Nat.le_refl _) ⟨Nat.le_refl _, Nat.le_refl _⟩ (m_Ci h (fun v4 M3 h => ?_))
    show m_W (d + 1) 0 0 yX10_given cX10_given 3 (some .int) (m_qi Th Q) 17 [(0, .ref a0), (1, .int x1), (2, .int x2)] [.int v4] Th M3 0 0
    refine m_if_eq (tgt := 30) dX10_given_17 (by decide) (fun c1 => ?_) (fun c1 => ?_)
    · rw [if_pos c1] at h
      refine m_iconst (v := (-1)) dX10_given_30 (by decide) ?_
      exact m_ireturn dX10_given_31 rfl rfl ⟨rfl, _, rfl, h⟩
    · rw [if_neg c1] at h
      refine m_aload_n dX10_given_20 rfl 0 rfl ?_
      obtain ⟨q5, h⟩ := h
      obtain ⟨r6, q7, h⟩ := h
      refine m_getr f_X10_59 rfl dX10_given_21 q5 q7 ?_
      obtain ⟨q8, h⟩ := h
      refine m_geti f_X10_221 rfl dX10_given_24 q8 ?_
      refine m_if_ne (tgt := 32) dX10_given_27 (by decide) (fun c1 => ?_) (fun c1 => ?_)
      · rw [if_neg c1] at h
        refine m_aload_n dX10_given_32 rfl 0 rfl ?_
        refine m_getr f_X10_59 rfl dX10_given_33 q5 q7 ?_
        refine m_iload_n dX10_given_36 rfl 1 rfl ?_
        refine m_invV (ci := 6) (As := [.int x1]) (d' := d) (mc' := 0) (ms' := 0) (rest := []) i_6_giveTo v_6_giveTo t_6_giveTo l_X10_225 ⟨_, _, rfl⟩ dX10_given_37 rfl rfl q8 (Nat.le_of_ble_eq_true rfl) (Nat.le_refl _) ⟨Nat.le_refl _, Nat.le_refl _⟩ (m_Cv h (fun M9 h => ?_))
        show m_W (d + 1) 0 0 yX10_given cX10_given 3 (some .int) (m_qi Th Q) 40 [(0, .ref a0), (1, .int x1), (2, .int x2)] [] Th M9 0 0
        refine m_iload_n dX10_given_40 rfl 2 rfl ?_
        refine m_iconst (v := (-1)) dX10_given_41 (by decide) ?_
        refine m_icmp_ne (tgt := 55) dX10_given_42 (by decide) (fun c1 => ?_) (fun c1 => ?_)
        · rw [if_neg c1] at h
          refine m_aload_n dX10_given_55 rfl 0 rfl ?_
          obtain ⟨r14, q15, h⟩ := h
          refine m_getr f_X10_59 rfl dX10_given_56 q5 q15 ?_
          refine m_iload_n dX10_given_59 rfl 2 rfl ?_
          obtain ⟨q18, h⟩ := h
          refine m_invV (ci := 6) (As := [.int x2]) (d' := d) (mc' := 0) (ms' := 0) (rest := []) i_6_rowOf v_6_rowOf t_6_rowOf l_X10_231 ⟨_, _, rfl⟩ dX10_given_60 rfl rfl q18 (Nat.le_of_ble_eq_true rfl) (Nat.le_refl _) ⟨Nat.le_refl _, Nat.le_refl _⟩ (m_Ci h (fun v17 M16 h => ?_))
          show m_W (d + 1) 0 0 yX10_given cX10_given 3 (some .int) (m_qi Th Q) 63 [(0, .ref a0), (1, .int x1), (2, .int x2)] [.int v17] Th M16 0 0
          exact m_ireturn dX10_given_63 rfl rfl ⟨rfl, _, rfl, h⟩
        · rw [if_pos c1] at h
          refine m_aload_n dX10_given_45 rfl 0 rfl ?_
          obtain ⟨r11, q12, h⟩ := h
          refine m_getr f_X10_59 rfl dX10_given_46 q5 q12 ?_
          obtain ⟨q13, h⟩ := h
          refine m_geti f_X10_228 rfl dX10_given_49 q13 ?_
          refine m_goto (tgt := 63) dX10_given_52 (by decide) ?_
          exact m_ireturn dX10_given_63 rfl rfl ⟨rfl, _, rfl, h⟩
      · rw [if_pos c1] at h
        refine m_iconst (v := (-1)) dX10_given_30 (by decide) ?_
        exact m_ireturn dX10_given_31 rfl rfl ⟨rfl, _, rfl, h⟩
set_option maxHeartbeats 4000000 in
set_option maxRecDepth 100000 in
theorem h10_cleverest_74 {d : Nat} {Th : mT} {Q : Int64 → mM → Prop} {a0 : Nat} {x3 : Int32} {x4 : Int32} {l5 : Int64} {x7 : Int32} {M : mM} (h : Th.2.2 a0 = some (.inl 10) ∧ (∃ r2 : Nat, M.2.2 a0 1 = some r2 ∧ (Th.2.2 r2 = some (.inl 2) ∧ (if ((M).1 r2 0) < x7 then (if x3 = 0 then (Q ((x4 : Int32).toInt64) M) else (P10_ofFraction d Th l5 1152921504606846976 ((x3 - 1)) M (fun (v6 : Int64) (M5 : mM) => Q v6 M5))) else (∃ r7 : Nat, M.2.2 a0 3 = some r7 ∧ (∃ r9 : Nat, M.2.2 a0 4 = some r9 ∧ (Th.2.2 r7 = some (.inl 7) ∧ (P7_aheadOf d Th r7 r9 x7 M (fun (v12 : Int64) (M11 : mM) => if (lg_cmp v12 l5) ≤ 0 then (H10_cleverest_74 (d + 1) Th Q a0 x3 x4 l5 (x7 + 1) M11) else (H10_cleverest_74 (d + 1) Th Q a0 x3 x7 v12 (x7 + 1) M11)))))))))) : H10_cleverest_74 (d + 1) Th Q a0 x3 x4 l5 x7 M := by
  show m_W (d + 1) 0 0 yX10_cleverest cX10_cleverest 10 (some .long) (m_ql Th Q) 74 [(0, .ref a0), (3, .int x3), (4, .int x4), (5, .long l5), (7, .int x7)] [] Th M 0 0
  refine m_iload dX10_cleverest_74 4 rfl ?_
  refine m_aload_n dX10_cleverest_76 rfl 0 rfl ?_
  obtain ⟨q1, h⟩ := h
  obtain ⟨r2, q3, h⟩ := h
  refine m_getr f_X10_19 rfl dX10_cleverest_77 q1 q3 ?_
  obtain ⟨q4, h⟩ := h
  refine m_geti f_X10_83 rfl dX10_cleverest_80 q4 ?_
  refine m_icmp_gt (tgt := 123) dX10_cleverest_83 (by decide) (fun c1 => ?_) (fun c1 => ?_)
  · rw [if_pos c1] at h
    refine m_iload_n dX10_cleverest_123 rfl 1 rfl ?_
    refine m_if_ne (tgt := 133) dX10_cleverest_124 (by decide) (fun c1 => ?_) (fun c1 => ?_)
    · rw [if_neg c1] at h
      refine m_lload dX10_cleverest_133 3 rfl ?_
      refine m_ldc2 k_X10_175 dX10_cleverest_135 ?_
      refine m_iload_n dX10_cleverest_138 rfl 1 rfl ?_
      refine m_iconst (v := 1) dX10_cleverest_139 (by decide) ?_
      refine m_isub dX10_cleverest_140 ?_
      refine m_invS (As := [.long l5, .long 1152921504606846976, .int ((x3 - 1))]) (d' := d) (mc' := 0) (ms' := 0) (rest := []) i_10_ofFraction s_10_ofFraction l_X10_177 dX10_cleverest_141 rfl rfl (Nat.le_of_ble_eq_true rfl) (Nat.le_refl _) ⟨Nat.le_refl _, Nat.le_refl _⟩ (m_Cl h (fun v6 M5 h => ?_))
      show m_W (d + 1) 0 0 yX10_cleverest cX10_cleverest 10 (some .long) (m_ql Th Q) 144 [(0, .ref a0), (3, .int x3), (4, .int x4), (5, .long l5), (7, .int x7)] [.long v6] Th M5 0 0
      exact m_lreturn dX10_cleverest_144 rfl ⟨rfl, _, rfl, h⟩
    · rw [if_pos c1] at h
      refine m_iload dX10_cleverest_127 2 rfl ?_
      refine m_i2l dX10_cleverest_129 ?_
      refine m_goto (tgt := 144) dX10_cleverest_130 (by decide) ?_
      exact m_lreturn dX10_cleverest_144 rfl ⟨rfl, _, rfl, h⟩
  · rw [if_neg c1] at h
    refine m_aload_n dX10_cleverest_86 rfl 0 rfl ?_
    obtain ⟨r7, q8, h⟩ := h
    refine m_getr f_X10_33 rfl dX10_cleverest_87 q1 q8 ?_
    refine m_aload_n dX10_cleverest_90 rfl 0 rfl ?_
    obtain ⟨r9, q10, h⟩ := h
    refine m_getr f_X10_37 rfl dX10_cleverest_91 q1 q10 ?_
    refine m_iload dX10_cleverest_94 4 rfl ?_
    obtain ⟨q13, h⟩ := h
    refine m_invV (ci := 7) (As := [.ref r9, .int x7]) (d' := d) (mc' := 0) (ms' := 0) (rest := []) i_7_aheadOf v_7_aheadOf t_7_aheadOf l_X10_168 ⟨_, _, rfl⟩ dX10_cleverest_96 rfl rfl q13 (Nat.le_of_ble_eq_true rfl) (Nat.le_refl _) ⟨Nat.le_refl _, Nat.le_refl _⟩ (m_Cl h (fun v12 M11 h => ?_))
    show m_W (d + 1) 0 0 yX10_cleverest cX10_cleverest 10 (some .long) (m_ql Th Q) 99 [(0, .ref a0), (3, .int x3), (4, .int x4), (5, .long l5), (7, .int x7)] [.long v12] Th M11 0 0
    refine m_lstore (lv' := [(8, .long v12), (0, .ref a0), (3, .int x3), (4, .int x4), (5, .long l5), (7, .int x7)]) dX10_cleverest_99 (by decide) rfl ?_
    refine m_lload dX10_cleverest_101 0 rfl ?_
    refine m_lload dX10_cleverest_103 4 rfl ?_
    refine m_lcmp dX10_cleverest_105 ?_
    refine m_if_le (tgt := 117) dX10_cleverest_106 (by decide) (fun c1 => ?_) (fun c1 => ?_)
    · rw [if_pos c1] at h
      refine m_iinc (v := x7 + 1) (lv' := [(7, .int (x7 + 1)), (8, .long v12), (0, .ref a0), (3, .int x3), (4, .int x4), (5, .long l5)]) dX10_cleverest_117 5 rfl rfl (by decide) rfl ?_
      refine m_goto (tgt := 74) dX10_cleverest_120 (by decide) ?_
      exact m_sub [2, 3, 4, 5, 0] rfl h
    · rw [if_neg c1] at h
      refine m_lload dX10_cleverest_109 0 rfl ?_
      refine m_lstore (lv' := [(5, .long v12), (8, .long v12), (0, .ref a0), (3, .int x3), (4, .int x4), (7, .int x7)]) dX10_cleverest_111 (by decide) rfl ?_
      refine m_iload dX10_cleverest_113 5 rfl ?_
      refine m_istore (lv' := [(4, .int x7), (5, .long v12), (8, .long v12), (0, .ref a0), (3, .int x3), (7, .int x7)]) dX10_cleverest_115 (by decide) rfl ?_
      refine m_iinc (v := x7 + 1) (lv' := [(7, .int (x7 + 1)), (4, .int x7), (5, .long v12), (8, .long v12), (0, .ref a0), (3, .int x3)]) dX10_cleverest_117 5 rfl rfl (by decide) rfl ?_
      refine m_goto (tgt := 74) dX10_cleverest_120 (by decide) ?_
      exact m_sub [4, 5, 1, 2, 0] rfl h
set_option maxHeartbeats 4000000 in
set_option maxRecDepth 100000 in
theorem e10_cleverest {d : Nat} {Th : mT} {Q : Int64 → mM → Prop} {a0 : Nat} {x1 : Int32} {x2 : Int32} {x3 : Int32} {M : mM} (h : Th.2.2 a0 = some (.inl 10) ∧ (P10_canHunt d Th a0 x1 x2 M (fun (v2 : Int32) (M1 : mM) => if v2 = 0 then (Q (-1) M1) else (P10_within d Th x3 0 2 M1 (fun (v5 : Int32) (M4 : mM) => if v5 = 0 then (Q (-1) M4) else (∃ r6 : Nat, M4.2.2 a0 3 = some r6 ∧ (∃ r8 : Nat, M4.2.2 a0 1 = some r8 ∧ (Th.2.2 r8 = some (.inl 2) ∧ (P2_skill d Th r8 x1 M4 (fun (v11 : Nat) (M10 : mM) => P10_goAlone d Th a0 r6 v11 M10 (fun M13 : mM => ∃ r15 : Nat, M13.2.2 a0 4 = some r15 ∧ (∃ r17 : Nat, M13.2.2 a0 1 = some r17 ∧ (Th.2.2 r17 = some (.inl 2) ∧ (P2_skill d Th r17 x2 M13 (fun (v20 : Nat) (M19 : mM) => P10_goAlone d Th a0 r15 v20 M19 (fun M22 : mM => ∃ r24 : Nat, M22.2.2 a0 3 = some r24 ∧ (∃ r26 : Nat, M22.2.2 a0 4 = some r26 ∧ (Th.2.2 r24 = some (.inl 7) ∧ (P7_aheadOf d Th r24 r26 1 M22 (fun (v29 : Int64) (M28 : mM) => H10_cleverest_74 (d + 1) Th Q a0 x3 1 v29 2 M28)))))))))))))))))))) : P10_cleverest (d + 1) Th a0 x1 x2 x3 M Q := by
  refine m_C.of (by decide +kernel) (Nat.le_of_ble_eq_true rfl) ?_
  show m_W (d + 1) 0 0 yX10_cleverest cX10_cleverest 10 (some .long) (m_ql Th Q) 0 [(0, .ref a0), (1, .int x1), (2, .int x2), (3, .int x3)] [] Th M 0 0
  refine m_aload_n dX10_cleverest_0 rfl 0 rfl ?_
  refine m_iload_n dX10_cleverest_1 rfl 1 rfl ?_
  refine m_iload_n dX10_cleverest_2 rfl 2 rfl ?_
  obtain ⟨q3, h⟩ := h
  refine m_invV (ci := 10) (As := [.int x1, .int x2]) (d' := d) (mc' := 0) (ms' := 0) (rest := []) i_10_canHunt v_10_canHunt t_10_canHunt l_X10_164 ⟨_, _, rfl⟩ dX10_cleverest_3 rfl rfl q3 (Nat.le_of_ble_eq_true rfl) (Nat.le_refl _) ⟨Nat.le_refl _, Nat.le_refl _⟩ (m_Ci h (fun v2 M1 h => ?_))
  show m_W (d + 1) 0 0 yX10_cleverest cX10_cleverest 10 (some .long) (m_ql Th Q) 6 [(0, .ref a0), (1, .int x1), (2, .int x2), (3, .int x3)] [.int v2] Th M1 0 0
  refine m_if_eq (tgt := 18) dX10_cleverest_6 (by decide) (fun c1 => ?_) (fun c1 => ?_)
  · rw [if_pos c1] at h
    refine m_ldc2 k_X10_151 dX10_cleverest_18 ?_
    exact m_lreturn dX10_cleverest_21 rfl ⟨rfl, _, rfl, h⟩
  · rw [if_neg c1] at h
    refine m_iload_n dX10_cleverest_9 rfl 3 rfl ?_
    refine m_iconst (v := 0) dX10_cleverest_10 (by decide) ?_
    refine m_iconst (v := 2) dX10_cleverest_11 (by decide) ?_
    refine m_invS (As := [.int x3, .int 0, .int 2]) (d' := d) (mc' := 0) (ms' := 0) (rest := []) i_10_within s_10_within l_X10_79 dX10_cleverest_12 rfl rfl (Nat.le_of_ble_eq_true rfl) (Nat.le_refl _) ⟨Nat.le_refl _, Nat.le_refl _⟩ (m_Ci h (fun v5 M4 h => ?_))
    show m_W (d + 1) 0 0 yX10_cleverest cX10_cleverest 10 (some .long) (m_ql Th Q) 15 [(0, .ref a0), (1, .int x1), (2, .int x2), (3, .int x3)] [.int v5] Th M4 0 0
    refine m_if_ne (tgt := 22) dX10_cleverest_15 (by decide) (fun c1 => ?_) (fun c1 => ?_)
    · rw [if_neg c1] at h
      refine m_aload_n dX10_cleverest_22 rfl 0 rfl ?_
      refine m_aload_n dX10_cleverest_23 rfl 0 rfl ?_
      obtain ⟨r6, q7, h⟩ := h
      refine m_getr f_X10_33 rfl dX10_cleverest_24 q3 q7 ?_
      refine m_aload_n dX10_cleverest_27 rfl 0 rfl ?_
      obtain ⟨r8, q9, h⟩ := h
      refine m_getr f_X10_19 rfl dX10_cleverest_28 q3 q9 ?_
      refine m_iload_n dX10_cleverest_31 rfl 1 rfl ?_
      obtain ⟨q12, h⟩ := h
      refine m_invV (ci := 2) (As := [.int x1]) (d' := d) (mc' := 0) (ms' := 0) (rest := [.ref r6, .ref a0]) i_2_skill v_2_skill t_2_skill l_X10_137 ⟨_, _, rfl⟩ dX10_cleverest_32 rfl rfl q12 (Nat.le_of_ble_eq_true rfl) (Nat.le_refl _) ⟨Nat.le_refl _, Nat.le_refl _⟩ (m_Cr h (fun v11 M10 h => ?_))
      show m_W (d + 1) 0 0 yX10_cleverest cX10_cleverest 10 (some .long) (m_ql Th Q) 35 [(0, .ref a0), (1, .int x1), (2, .int x2), (3, .int x3)] [.ref v11, .ref r6, .ref a0] Th M10 0 0
      refine m_invV (ci := 10) (As := [.ref r6, .ref v11]) (d' := d) (mc' := 0) (ms' := 0) (rest := []) i_10_goAlone v_10_goAlone t_10_goAlone l_X10_153 ⟨_, _, rfl⟩ dX10_cleverest_35 rfl rfl q3 (Nat.le_of_ble_eq_true rfl) (Nat.le_refl _) ⟨Nat.le_refl _, Nat.le_refl _⟩ (m_Cv h (fun M13 h => ?_))
      show m_W (d + 1) 0 0 yX10_cleverest cX10_cleverest 10 (some .long) (m_ql Th Q) 38 [(0, .ref a0), (1, .int x1), (2, .int x2), (3, .int x3)] [] Th M13 0 0
      refine m_aload_n dX10_cleverest_38 rfl 0 rfl ?_
      refine m_aload_n dX10_cleverest_39 rfl 0 rfl ?_
      obtain ⟨r15, q16, h⟩ := h
      refine m_getr f_X10_37 rfl dX10_cleverest_40 q3 q16 ?_
      refine m_aload_n dX10_cleverest_43 rfl 0 rfl ?_
      obtain ⟨r17, q18, h⟩ := h
      refine m_getr f_X10_19 rfl dX10_cleverest_44 q3 q18 ?_
      refine m_iload_n dX10_cleverest_47 rfl 2 rfl ?_
      obtain ⟨q21, h⟩ := h
      refine m_invV (ci := 2) (As := [.int x2]) (d' := d) (mc' := 0) (ms' := 0) (rest := [.ref r15, .ref a0]) i_2_skill v_2_skill t_2_skill l_X10_137 ⟨_, _, rfl⟩ dX10_cleverest_48 rfl rfl q21 (Nat.le_of_ble_eq_true rfl) (Nat.le_refl _) ⟨Nat.le_refl _, Nat.le_refl _⟩ (m_Cr h (fun v20 M19 h => ?_))
      show m_W (d + 1) 0 0 yX10_cleverest cX10_cleverest 10 (some .long) (m_ql Th Q) 51 [(0, .ref a0), (1, .int x1), (2, .int x2), (3, .int x3)] [.ref v20, .ref r15, .ref a0] Th M19 0 0
      refine m_invV (ci := 10) (As := [.ref r15, .ref v20]) (d' := d) (mc' := 0) (ms' := 0) (rest := []) i_10_goAlone v_10_goAlone t_10_goAlone l_X10_153 ⟨_, _, rfl⟩ dX10_cleverest_51 rfl rfl q3 (Nat.le_of_ble_eq_true rfl) (Nat.le_refl _) ⟨Nat.le_refl _, Nat.le_refl _⟩ (m_Cv h (fun M22 h => ?_))
      show m_W (d + 1) 0 0 yX10_cleverest cX10_cleverest 10 (some .long) (m_ql Th Q) 54 [(0, .ref a0), (1, .int x1), (2, .int x2), (3, .int x3)] [] Th M22 0 0
      refine m_iconst (v := 1) dX10_cleverest_54 (by decide) ?_
      refine m_istore (lv' := [(4, .int 1), (0, .ref a0), (1, .int x1), (2, .int x2), (3, .int x3)]) dX10_cleverest_55 (by decide) rfl ?_
      refine m_aload_n dX10_cleverest_57 rfl 1 rfl ?_
      obtain ⟨r24, q25, h⟩ := h
      refine m_getr f_X10_33 rfl dX10_cleverest_58 q3 q25 ?_
      refine m_aload_n dX10_cleverest_61 rfl 1 rfl ?_
      obtain ⟨r26, q27, h⟩ := h
      refine m_getr f_X10_37 rfl dX10_cleverest_62 q3 q27 ?_
      refine m_iconst (v := 1) dX10_cleverest_65 (by decide) ?_
      obtain ⟨q30, h⟩ := h
      refine m_invV (ci := 7) (As := [.ref r26, .int 1]) (d' := d) (mc' := 0) (ms' := 0) (rest := []) i_7_aheadOf v_7_aheadOf t_7_aheadOf l_X10_168 ⟨_, _, rfl⟩ dX10_cleverest_66 rfl rfl q30 (Nat.le_of_ble_eq_true rfl) (Nat.le_refl _) ⟨Nat.le_refl _, Nat.le_refl _⟩ (m_Cl h (fun v29 M28 h => ?_))
      show m_W (d + 1) 0 0 yX10_cleverest cX10_cleverest 10 (some .long) (m_ql Th Q) 69 [(4, .int 1), (0, .ref a0), (1, .int x1), (2, .int x2), (3, .int x3)] [.long v29] Th M28 0 0
      refine m_lstore (lv' := [(5, .long v29), (4, .int 1), (0, .ref a0), (1, .int x1), (2, .int x2), (3, .int x3)]) dX10_cleverest_69 (by decide) rfl ?_
      refine m_iconst (v := 2) dX10_cleverest_71 (by decide) ?_
      refine m_istore (lv' := [(7, .int 2), (5, .long v29), (4, .int 1), (0, .ref a0), (1, .int x1), (2, .int x2), (3, .int x3)]) dX10_cleverest_72 (by decide) rfl ?_
      exact m_sub [3, 6, 2, 1, 0] rfl h
    · rw [if_pos c1] at h
      refine m_ldc2 k_X10_151 dX10_cleverest_18 ?_
      exact m_lreturn dX10_cleverest_21 rfl ⟨rfl, _, rfl, h⟩
set_option maxHeartbeats 4000000 in
set_option maxRecDepth 100000 in
theorem e10_went {d : Nat} {Th : mT} {Q : Int32 → mM → Prop} {a0 : Nat} {x1 : Int32} {x2 : Int32} {x3 : Int32} {M : mM} (h : Th.2.2 a0 = some (.inl 10) ∧ (∃ r2 : Nat, M.2.2 a0 1 = some r2 ∧ (Th.2.2 r2 = some (.inl 2) ∧ (P2_hasBand d Th r2 x1 M (fun (v5 : Int32) (M4 : mM) => if v5 = 0 then (Q (-1) M4) else (∃ r7 : Nat, M4.2.2 a0 1 = some r7 ∧ (Th.2.2 r7 = some (.inl 2) ∧ (P2_hasRiddle d Th r7 x2 M4 (fun (v10 : Int32) (M9 : mM) => if v10 = 0 then (Q (-1) M9) else (P10_within d Th x3 1 10 M9 (fun (v13 : Int32) (M12 : mM) => if v13 = 0 then (Q (-1) M12) else (∃ r14 : Nat, M12.2.2 a0 8 = some r14 ∧ (Th.2.2 r14 = some (.inl 5) ∧ (if 40 ≤ ((M12).1 r14 1) then (Q (-1) M12) else (P5_lastTick d Th r14 M12 (fun (v18 : Int32) (M17 : mM) => if x3 < v18 then (Q (-1) M17) else (∃ r19 : Nat, M17.2.2 a0 8 = some r19 ∧ (Th.2.2 r19 = some (.inl 5) ∧ (P5_tells d Th r19 x1 x2 M17 (fun (v22 : Int32) (M21 : mM) => if v22 = 0 then (∃ r24 : Nat, M21.2.2 a0 8 = some r24 ∧ (Th.2.2 r24 = some (.inl 5) ∧ (P5_add d Th r24 x1 x2 x3 M21 (fun M26 : mM => ∃ r29 : Nat, M26.2.2 a0 8 = some r29 ∧ (Th.2.2 r29 = some (.inl 5) ∧ (Q (((M26).1 r29 1)) M26)))))) else (Q (-1) M21))))))))))))))))))))) : P10_went (d + 1) Th a0 x1 x2 x3 M Q := by
  refine m_C.of (by decide +kernel) (Nat.le_of_ble_eq_true rfl) ?_
  show m_W (d + 1) 0 0 yX10_went cX10_went 4 (some .int) (m_qi Th Q) 0 [(0, .ref a0), (1, .int x1), (2, .int x2), (3, .int x3)] [] Th M 0 0
  refine m_aload_n dX10_went_0 rfl 0 rfl ?_
  obtain ⟨q1, h⟩ := h
  obtain ⟨r2, q3, h⟩ := h
  refine m_getr f_X10_19 rfl dX10_went_1 q1 q3 ?_
  refine m_iload_n dX10_went_4 rfl 1 rfl ?_
  obtain ⟨q6, h⟩ := h
  refine m_invV (ci := 2) (As := [.int x1]) (d' := d) (mc' := 0) (ms' := 0) (rest := []) i_2_hasBand v_2_hasBand t_2_hasBand l_X10_130 ⟨_, _, rfl⟩ dX10_went_5 rfl rfl q6 (Nat.le_of_ble_eq_true rfl) (Nat.le_refl _) ⟨Nat.le_refl _, Nat.le_refl _⟩ (m_Ci h (fun v5 M4 h => ?_))
  show m_W (d + 1) 0 0 yX10_went cX10_went 4 (some .int) (m_qi Th Q) 8 [(0, .ref a0), (1, .int x1), (2, .int x2), (3, .int x3)] [.int v5] Th M4 0 0
  refine m_if_eq (tgt := 32) dX10_went_8 (by decide) (fun c1 => ?_) (fun c1 => ?_)
  · rw [if_pos c1] at h
    refine m_iconst (v := (-1)) dX10_went_32 (by decide) ?_
    exact m_ireturn dX10_went_33 rfl rfl ⟨rfl, _, rfl, h⟩
  · rw [if_neg c1] at h
    refine m_aload_n dX10_went_11 rfl 0 rfl ?_
    obtain ⟨r7, q8, h⟩ := h
    refine m_getr f_X10_19 rfl dX10_went_12 q1 q8 ?_
    refine m_iload_n dX10_went_15 rfl 2 rfl ?_
    obtain ⟨q11, h⟩ := h
    refine m_invV (ci := 2) (As := [.int x2]) (d' := d) (mc' := 0) (ms' := 0) (rest := []) i_2_hasRiddle v_2_hasRiddle t_2_hasRiddle l_X10_134 ⟨_, _, rfl⟩ dX10_went_16 rfl rfl q11 (Nat.le_of_ble_eq_true rfl) (Nat.le_refl _) ⟨Nat.le_refl _, Nat.le_refl _⟩ (m_Ci h (fun v10 M9 h => ?_))
    show m_W (d + 1) 0 0 yX10_went cX10_went 4 (some .int) (m_qi Th Q) 19 [(0, .ref a0), (1, .int x1), (2, .int x2), (3, .int x3)] [.int v10] Th M9 0 0
    refine m_if_eq (tgt := 32) dX10_went_19 (by decide) (fun c1 => ?_) (fun c1 => ?_)
    · rw [if_pos c1] at h
      refine m_iconst (v := (-1)) dX10_went_32 (by decide) ?_
      exact m_ireturn dX10_went_33 rfl rfl ⟨rfl, _, rfl, h⟩
    · rw [if_neg c1] at h
      refine m_iload_n dX10_went_22 rfl 3 rfl ?_
      refine m_iconst (v := 1) dX10_went_23 (by decide) ?_
      refine m_bipush (v := 10) dX10_went_24 (by decide) ?_
      refine m_invS (As := [.int x3, .int 1, .int 10]) (d' := d) (mc' := 0) (ms' := 0) (rest := []) i_10_within s_10_within l_X10_79 dX10_went_26 rfl rfl (Nat.le_of_ble_eq_true rfl) (Nat.le_refl _) ⟨Nat.le_refl _, Nat.le_refl _⟩ (m_Ci h (fun v13 M12 h => ?_))
      show m_W (d + 1) 0 0 yX10_went cX10_went 4 (some .int) (m_qi Th Q) 29 [(0, .ref a0), (1, .int x1), (2, .int x2), (3, .int x3)] [.int v13] Th M12 0 0
      refine m_if_ne (tgt := 34) dX10_went_29 (by decide) (fun c1 => ?_) (fun c1 => ?_)
      · rw [if_neg c1] at h
        refine m_aload_n dX10_went_34 rfl 0 rfl ?_
        obtain ⟨r14, q15, h⟩ := h
        refine m_getr f_X10_66 rfl dX10_went_35 q1 q15 ?_
        obtain ⟨q16, h⟩ := h
        refine m_geti f_X10_234 rfl dX10_went_38 q16 ?_
        refine m_bipush (v := 40) dX10_went_41 (by decide) ?_
        refine m_icmp_ge (tgt := 69) dX10_went_43 (by decide) (fun c1 => ?_) (fun c1 => ?_)
        · rw [if_pos c1] at h
          refine m_iconst (v := (-1)) dX10_went_69 (by decide) ?_
          exact m_ireturn dX10_went_70 rfl rfl ⟨rfl, _, rfl, h⟩
        · rw [if_neg c1] at h
          refine m_iload_n dX10_went_46 rfl 3 rfl ?_
          refine m_aload_n dX10_went_47 rfl 0 rfl ?_
          refine m_getr f_X10_66 rfl dX10_went_48 q1 q15 ?_
          refine m_invV (ci := 5) (As := []) (d' := d) (mc' := 0) (ms' := 0) (rest := [.int x3]) i_5_lastTick v_5_lastTick t_5_lastTick l_X10_235 ⟨_, _, rfl⟩ dX10_went_51 rfl rfl q16 (Nat.le_of_ble_eq_true rfl) (Nat.le_refl _) ⟨Nat.le_refl _, Nat.le_refl _⟩ (m_Ci h (fun v18 M17 h => ?_))
          show m_W (d + 1) 0 0 yX10_went cX10_went 4 (some .int) (m_qi Th Q) 54 [(0, .ref a0), (1, .int x1), (2, .int x2), (3, .int x3)] [.int v18, .int x3] Th M17 0 0
          refine m_icmp_lt (tgt := 69) dX10_went_54 (by decide) (fun c1 => ?_) (fun c1 => ?_)
          · rw [if_pos c1] at h
            refine m_iconst (v := (-1)) dX10_went_69 (by decide) ?_
            exact m_ireturn dX10_went_70 rfl rfl ⟨rfl, _, rfl, h⟩
          · rw [if_neg c1] at h
            refine m_aload_n dX10_went_57 rfl 0 rfl ?_
            obtain ⟨r19, q20, h⟩ := h
            refine m_getr f_X10_66 rfl dX10_went_58 q1 q20 ?_
            refine m_iload_n dX10_went_61 rfl 1 rfl ?_
            refine m_iload_n dX10_went_62 rfl 2 rfl ?_
            obtain ⟨q23, h⟩ := h
            refine m_invV (ci := 5) (As := [.int x1, .int x2]) (d' := d) (mc' := 0) (ms' := 0) (rest := []) i_5_tells v_5_tells t_5_tells l_X10_239 ⟨_, _, rfl⟩ dX10_went_63 rfl rfl q23 (Nat.le_of_ble_eq_true rfl) (Nat.le_refl _) ⟨Nat.le_refl _, Nat.le_refl _⟩ (m_Ci h (fun v22 M21 h => ?_))
            show m_W (d + 1) 0 0 yX10_went cX10_went 4 (some .int) (m_qi Th Q) 66 [(0, .ref a0), (1, .int x1), (2, .int x2), (3, .int x3)] [.int v22] Th M21 0 0
            refine m_if_eq (tgt := 71) dX10_went_66 (by decide) (fun c1 => ?_) (fun c1 => ?_)
            · rw [if_pos c1] at h
              refine m_aload_n dX10_went_71 rfl 0 rfl ?_
              obtain ⟨r24, q25, h⟩ := h
              refine m_getr f_X10_66 rfl dX10_went_72 q1 q25 ?_
              refine m_iload_n dX10_went_75 rfl 1 rfl ?_
              refine m_iload_n dX10_went_76 rfl 2 rfl ?_
              refine m_iload_n dX10_went_77 rfl 3 rfl ?_
              obtain ⟨q28, h⟩ := h
              refine m_invV (ci := 5) (As := [.int x1, .int x2, .int x3]) (d' := d) (mc' := 0) (ms' := 0) (rest := []) i_5_add v_5_add t_5_add l_X10_242 ⟨_, _, rfl⟩ dX10_went_78 rfl rfl q28 (Nat.le_of_ble_eq_true rfl) (Nat.le_refl _) ⟨Nat.le_refl _, Nat.le_refl _⟩ (m_Cv h (fun M26 h => ?_))
              show m_W (d + 1) 0 0 yX10_went cX10_went 4 (some .int) (m_qi Th Q) 81 [(0, .ref a0), (1, .int x1), (2, .int x2), (3, .int x3)] [] Th M26 0 0
              refine m_aload_n dX10_went_81 rfl 0 rfl ?_
              obtain ⟨r29, q30, h⟩ := h
              refine m_getr f_X10_66 rfl dX10_went_82 q1 q30 ?_
              obtain ⟨q31, h⟩ := h
              refine m_geti f_X10_234 rfl dX10_went_85 q31 ?_
              exact m_ireturn dX10_went_88 rfl rfl ⟨rfl, _, rfl, h⟩
            · rw [if_neg c1] at h
              refine m_iconst (v := (-1)) dX10_went_69 (by decide) ?_
              exact m_ireturn dX10_went_70 rfl rfl ⟨rfl, _, rfl, h⟩
      · rw [if_pos c1] at h
        refine m_iconst (v := (-1)) dX10_went_32 (by decide) ?_
        exact m_ireturn dX10_went_33 rfl rfl ⟨rfl, _, rfl, h⟩
set_option maxHeartbeats 4000000 in
set_option maxRecDepth 100000 in
theorem e10_logged {d : Nat} {Th : mT} {Q : Int32 → mM → Prop} {a0 : Nat} {x1 : Int32} {x2 : Int32} {M : mM} (h : Th.2.2 a0 = some (.inl 10) ∧ (∃ r2 : Nat, M.2.2 a0 8 = some r2 ∧ (Th.2.2 r2 = some (.inl 5) ∧ (P5_entry d Th r2 x1 x2 M (fun (v5 : Int32) (M4 : mM) => Q v5 M4))))) : P10_logged (d + 1) Th a0 x1 x2 M Q := by
  refine m_C.of (by decide +kernel) (Nat.le_of_ble_eq_true rfl) ?_
  show m_W (d + 1) 0 0 yX10_logged cX10_logged 3 (some .int) (m_qi Th Q) 0 [(0, .ref a0), (1, .int x1), (2, .int x2)] [] Th M 0 0
  refine m_aload_n dX10_logged_0 rfl 0 rfl ?_
  obtain ⟨q1, h⟩ := h
  obtain ⟨r2, q3, h⟩ := h
  refine m_getr f_X10_66 rfl dX10_logged_1 q1 q3 ?_
  refine m_iload_n dX10_logged_4 rfl 1 rfl ?_
  refine m_iload_n dX10_logged_5 rfl 2 rfl ?_
  obtain ⟨q6, h⟩ := h
  refine m_invV (ci := 5) (As := [.int x1, .int x2]) (d' := d) (mc' := 0) (ms' := 0) (rest := []) i_5_entry v_5_entry t_5_entry l_X10_244 ⟨_, _, rfl⟩ dX10_logged_6 rfl rfl q6 (Nat.le_of_ble_eq_true rfl) (Nat.le_refl _) ⟨Nat.le_refl _, Nat.le_refl _⟩ (m_Ci h (fun v5 M4 h => ?_))
  show m_W (d + 1) 0 0 yX10_logged cX10_logged 3 (some .int) (m_qi Th Q) 9 [(0, .ref a0), (1, .int x1), (2, .int x2)] [.int v5] Th M4 0 0
  exact m_ireturn dX10_logged_9 rfl rfl ⟨rfl, _, rfl, h⟩
set_option maxHeartbeats 4000000 in
set_option maxRecDepth 100000 in
theorem h10_knew_92 {d : Nat} {Th : mT} {Q : Int32 → mM → Prop} {x2 : Int32} {x3 : Int32} {x5 : Int32} {s0 : Int32} {M : mM} (h : if s0 = 0 then (H10_knew_117 (d + 1) Th Q x3 (((x5 + x2) : Int32).toInt64) ((x5 : Int32).toInt64) M) else (H10_knew_117 (d + 1) Th Q x3 (((if 1 < x5 then x5 else 1) : Int32).toInt64) ((x5 : Int32).toInt64) M)) : H10_knew_92 (d + 1) Th Q x2 x3 x5 s0 M := by
  show m_W (d + 1) 0 0 yX10_knew cX10_knew 7 (some .int) (m_qi Th Q) 92 [(2, .int x2), (3, .int x3), (5, .int x5)] [.int s0] Th M 0 0
  refine m_istore (lv' := [(6, .int s0), (2, .int x2), (3, .int x3), (5, .int x5)]) dX10_knew_92 (by decide) rfl ?_
  refine m_iload dX10_knew_94 3 rfl ?_
  refine m_i2l dX10_knew_96 ?_
  refine m_iload dX10_knew_97 0 rfl ?_
  refine m_if_eq (tgt := 112) dX10_knew_99 (by decide) (fun c1 => ?_) (fun c1 => ?_)
  · rw [if_pos c1] at h
    refine m_iload dX10_knew_112 3 rfl ?_
    refine m_iload_n dX10_knew_114 rfl 1 rfl ?_
    refine m_iadd dX10_knew_115 ?_
    refine m_i2l dX10_knew_116 ?_
    exact m_sub [2] rfl h
  · rw [if_neg c1] at h
    refine m_iconst (v := 1) dX10_knew_102 (by decide) ?_
    refine m_iload dX10_knew_103 3 rfl ?_
    refine m_max l_X10_256 dX10_knew_105 (Nat.le_of_ble_eq_true rfl) (Nat.le_add_left _ _) (Nat.le_refl _) (Nat.le_refl _) ?_
    refine m_i2l dX10_knew_108 ?_
    refine m_goto (tgt := 117) dX10_knew_109 (by decide) ?_
    exact m_sub [2] rfl h
set_option maxHeartbeats 4000000 in
set_option maxRecDepth 100000 in
theorem h10_knew_117 {d : Nat} {Th : mT} {Q : Int32 → mM → Prop} {x3 : Int32} {s0 : Int64} {s1 : Int64} {M : mM} (h : P10_ofFraction d Th s1 s0 x3 M (fun (v2 : Int64) (M1 : mM) => Q ((v2 : Int64).toInt32) M1)) : H10_knew_117 (d + 1) Th Q x3 s0 s1 M := by
  show m_W (d + 1) 0 0 yX10_knew cX10_knew 7 (some .int) (m_qi Th Q) 117 [(3, .int x3)] [.long s0, .long s1] Th M 0 0
  refine m_iload_n dX10_knew_117 rfl 0 rfl ?_
  refine m_invS (As := [.long s1, .long s0, .int x3]) (d' := d) (mc' := 0) (ms' := 0) (rest := []) i_10_ofFraction s_10_ofFraction l_X10_177 dX10_knew_118 rfl rfl (Nat.le_of_ble_eq_true rfl) (Nat.le_refl _) ⟨Nat.le_refl _, Nat.le_refl _⟩ (m_Cl h (fun v2 M1 h => ?_))
  show m_W (d + 1) 0 0 yX10_knew cX10_knew 7 (some .int) (m_qi Th Q) 121 [(3, .int x3)] [.long v2] Th M1 0 0
  refine m_l2i dX10_knew_121 ?_
  exact m_ireturn dX10_knew_122 rfl rfl ⟨rfl, _, rfl, h⟩
set_option maxHeartbeats 4000000 in
set_option maxRecDepth 100000 in
theorem e10_knew {d : Nat} {Th : mT} {Q : Int32 → mM → Prop} {a0 : Nat} {x1 : Int32} {x2 : Int32} {x3 : Int32} {M : mM} (h : Th.2.2 a0 = some (.inl 10) ∧ (∃ r2 : Nat, M.2.2 a0 8 = some r2 ∧ (Th.2.2 r2 = some (.inl 5) ∧ (P5_has d Th r2 x1 M (fun (v5 : Int32) (M4 : mM) => if v5 = 0 then (Q (-1) M4) else (P10_within d Th x2 1 8 M4 (fun (v8 : Int32) (M7 : mM) => if v8 = 0 then (Q (-1) M7) else (P10_within d Th x3 0 1 M7 (fun (v10 : Int32) (M9 : mM) => if v10 = 0 then (Q (-1) M9) else (∃ r11 : Nat, M9.2.2 a0 1 = some r11 ∧ (∃ r13 : Nat, M9.2.2 a0 8 = some r13 ∧ (Th.2.2 r13 = some (.inl 5) ∧ (P5_entry d Th r13 x1 0 M9 (fun (v16 : Int32) (M15 : mM) => Th.2.2 r11 = some (.inl 2) ∧ (P2_skill d Th r11 v16 M15 (fun (v19 : Nat) (M18 : mM) => ∃ r21 : Nat, M18.2.2 a0 8 = some r21 ∧ (Th.2.2 r21 = some (.inl 5) ∧ (P5_entry d Th r21 x1 1 M18 (fun (v24 : Int32) (M23 : mM) => P10_thoughtBefore d Th a0 x1 M23 (fun (v27 : Int32) (M26 : mM) => Th.2.2 v19 = some (.inl 8) ∧ (P8_goodAt d Th v19 v24 v27 M26 (fun (v29 : Int32) (M28 : mM) => if v29 = 0 then (H10_knew_92 (d + 1) Th Q x2 x3 v29 1 M28) else (∃ r31 : Nat, M28.2.2 a0 8 = some r31 ∧ (Th.2.2 r31 = some (.inl 5) ∧ (P5_seesGoing d Th r31 x1 M28 (fun (v34 : Int32) (M33 : mM) => if v34 = 0 then (H10_knew_92 (d + 1) Th Q x2 x3 v29 1 M33) else (H10_knew_92 (d + 1) Th Q x2 x3 v29 0 M33))))))))))))))))))))))))))) : P10_knew (d + 1) Th a0 x1 x2 x3 M Q := by
  refine m_C.of (by decide +kernel) (Nat.le_of_ble_eq_true rfl) ?_
  show m_W (d + 1) 0 0 yX10_knew cX10_knew 7 (some .int) (m_qi Th Q) 0 [(0, .ref a0), (1, .int x1), (2, .int x2), (3, .int x3)] [] Th M 0 0
  refine m_aload_n dX10_knew_0 rfl 0 rfl ?_
  obtain ⟨q1, h⟩ := h
  obtain ⟨r2, q3, h⟩ := h
  refine m_getr f_X10_66 rfl dX10_knew_1 q1 q3 ?_
  refine m_iload_n dX10_knew_4 rfl 1 rfl ?_
  obtain ⟨q6, h⟩ := h
  refine m_invV (ci := 5) (As := [.int x1]) (d' := d) (mc' := 0) (ms' := 0) (rest := []) i_5_has v_5_has t_5_has l_X10_247 ⟨_, _, rfl⟩ dX10_knew_5 rfl rfl q6 (Nat.le_of_ble_eq_true rfl) (Nat.le_refl _) ⟨Nat.le_refl _, Nat.le_refl _⟩ (m_Ci h (fun v5 M4 h => ?_))
  show m_W (d + 1) 0 0 yX10_knew cX10_knew 7 (some .int) (m_qi Th Q) 8 [(0, .ref a0), (1, .int x1), (2, .int x2), (3, .int x3)] [.int v5] Th M4 0 0
  refine m_if_eq (tgt := 30) dX10_knew_8 (by decide) (fun c1 => ?_) (fun c1 => ?_)
  · rw [if_pos c1] at h
    refine m_iconst (v := (-1)) dX10_knew_30 (by decide) ?_
    exact m_ireturn dX10_knew_31 rfl rfl ⟨rfl, _, rfl, h⟩
  · rw [if_neg c1] at h
    refine m_iload_n dX10_knew_11 rfl 2 rfl ?_
    refine m_iconst (v := 1) dX10_knew_12 (by decide) ?_
    refine m_bipush (v := 8) dX10_knew_13 (by decide) ?_
    refine m_invS (As := [.int x2, .int 1, .int 8]) (d' := d) (mc' := 0) (ms' := 0) (rest := []) i_10_within s_10_within l_X10_79 dX10_knew_15 rfl rfl (Nat.le_of_ble_eq_true rfl) (Nat.le_refl _) ⟨Nat.le_refl _, Nat.le_refl _⟩ (m_Ci h (fun v8 M7 h => ?_))
    show m_W (d + 1) 0 0 yX10_knew cX10_knew 7 (some .int) (m_qi Th Q) 18 [(0, .ref a0), (1, .int x1), (2, .int x2), (3, .int x3)] [.int v8] Th M7 0 0
    refine m_if_eq (tgt := 30) dX10_knew_18 (by decide) (fun c1 => ?_) (fun c1 => ?_)
    · rw [if_pos c1] at h
      refine m_iconst (v := (-1)) dX10_knew_30 (by decide) ?_
      exact m_ireturn dX10_knew_31 rfl rfl ⟨rfl, _, rfl, h⟩
    · rw [if_neg c1] at h
      refine m_iload_n dX10_knew_21 rfl 3 rfl ?_
      refine m_iconst (v := 0) dX10_knew_22 (by decide) ?_
      refine m_iconst (v := 1) dX10_knew_23 (by decide) ?_
      refine m_invS (As := [.int x3, .int 0, .int 1]) (d' := d) (mc' := 0) (ms' := 0) (rest := []) i_10_within s_10_within l_X10_79 dX10_knew_24 rfl rfl (Nat.le_of_ble_eq_true rfl) (Nat.le_refl _) ⟨Nat.le_refl _, Nat.le_refl _⟩ (m_Ci h (fun v10 M9 h => ?_))
      show m_W (d + 1) 0 0 yX10_knew cX10_knew 7 (some .int) (m_qi Th Q) 27 [(0, .ref a0), (1, .int x1), (2, .int x2), (3, .int x3)] [.int v10] Th M9 0 0
      refine m_if_ne (tgt := 32) dX10_knew_27 (by decide) (fun c1 => ?_) (fun c1 => ?_)
      · rw [if_neg c1] at h
        refine m_aload_n dX10_knew_32 rfl 0 rfl ?_
        obtain ⟨r11, q12, h⟩ := h
        refine m_getr f_X10_19 rfl dX10_knew_33 q1 q12 ?_
        refine m_aload_n dX10_knew_36 rfl 0 rfl ?_
        obtain ⟨r13, q14, h⟩ := h
        refine m_getr f_X10_66 rfl dX10_knew_37 q1 q14 ?_
        refine m_iload_n dX10_knew_40 rfl 1 rfl ?_
        refine m_iconst (v := 0) dX10_knew_41 (by decide) ?_
        obtain ⟨q17, h⟩ := h
        refine m_invV (ci := 5) (As := [.int x1, .int 0]) (d' := d) (mc' := 0) (ms' := 0) (rest := [.ref r11]) i_5_entry v_5_entry t_5_entry l_X10_244 ⟨_, _, rfl⟩ dX10_knew_42 rfl rfl q17 (Nat.le_of_ble_eq_true rfl) (Nat.le_refl _) ⟨Nat.le_refl _, Nat.le_refl _⟩ (m_Ci h (fun v16 M15 h => ?_))
        show m_W (d + 1) 0 0 yX10_knew cX10_knew 7 (some .int) (m_qi Th Q) 45 [(0, .ref a0), (1, .int x1), (2, .int x2), (3, .int x3)] [.int v16, .ref r11] Th M15 0 0
        obtain ⟨q20, h⟩ := h
        refine m_invV (ci := 2) (As := [.int v16]) (d' := d) (mc' := 0) (ms' := 0) (rest := []) i_2_skill v_2_skill t_2_skill l_X10_137 ⟨_, _, rfl⟩ dX10_knew_45 rfl rfl q20 (Nat.le_of_ble_eq_true rfl) (Nat.le_refl _) ⟨Nat.le_refl _, Nat.le_refl _⟩ (m_Cr h (fun v19 M18 h => ?_))
        show m_W (d + 1) 0 0 yX10_knew cX10_knew 7 (some .int) (m_qi Th Q) 48 [(0, .ref a0), (1, .int x1), (2, .int x2), (3, .int x3)] [.ref v19] Th M18 0 0
        refine m_astore (lv' := [(4, .ref v19), (0, .ref a0), (1, .int x1), (2, .int x2), (3, .int x3)]) dX10_knew_48 (by decide) rfl ?_
        refine m_aload dX10_knew_50 0 rfl ?_
        refine m_aload_n dX10_knew_52 rfl 1 rfl ?_
        obtain ⟨r21, q22, h⟩ := h
        refine m_getr f_X10_66 rfl dX10_knew_53 q1 q22 ?_
        refine m_iload_n dX10_knew_56 rfl 2 rfl ?_
        refine m_iconst (v := 1) dX10_knew_57 (by decide) ?_
        obtain ⟨q25, h⟩ := h
        refine m_invV (ci := 5) (As := [.int x1, .int 1]) (d' := d) (mc' := 0) (ms' := 0) (rest := [.ref v19]) i_5_entry v_5_entry t_5_entry l_X10_244 ⟨_, _, rfl⟩ dX10_knew_58 rfl rfl q25 (Nat.le_of_ble_eq_true rfl) (Nat.le_refl _) ⟨Nat.le_refl _, Nat.le_refl _⟩ (m_Ci h (fun v24 M23 h => ?_))
        show m_W (d + 1) 0 0 yX10_knew cX10_knew 7 (some .int) (m_qi Th Q) 61 [(4, .ref v19), (0, .ref a0), (1, .int x1), (2, .int x2), (3, .int x3)] [.int v24, .ref v19] Th M23 0 0
        refine m_aload_n dX10_knew_61 rfl 1 rfl ?_
        refine m_iload_n dX10_knew_62 rfl 2 rfl ?_
        refine m_invV (ci := 10) (As := [.int x1]) (d' := d) (mc' := 0) (ms' := 0) (rest := [.int v24, .ref v19]) i_10_thoughtBefore v_10_thoughtBefore t_10_thoughtBefore l_X10_250 ⟨_, _, rfl⟩ dX10_knew_63 rfl rfl q1 (Nat.le_of_ble_eq_true rfl) (Nat.le_refl _) ⟨Nat.le_refl _, Nat.le_refl _⟩ (m_Ci h (fun v27 M26 h => ?_))
        show m_W (d + 1) 0 0 yX10_knew cX10_knew 7 (some .int) (m_qi Th Q) 66 [(4, .ref v19), (0, .ref a0), (1, .int x1), (2, .int x2), (3, .int x3)] [.int v27, .int v24, .ref v19] Th M26 0 0
        obtain ⟨q30, h⟩ := h
        refine m_invV (ci := 8) (As := [.int v24, .int v27]) (d' := d) (mc' := 0) (ms' := 0) (rest := []) i_8_goodAt v_8_goodAt t_8_goodAt l_X10_141 ⟨_, _, rfl⟩ dX10_knew_66 rfl rfl q30 (Nat.le_of_ble_eq_true rfl) (Nat.le_refl _) ⟨Nat.le_refl _, Nat.le_refl _⟩ (m_Ci h (fun v29 M28 h => ?_))
        show m_W (d + 1) 0 0 yX10_knew cX10_knew 7 (some .int) (m_qi Th Q) 69 [(4, .ref v19), (0, .ref a0), (1, .int x1), (2, .int x2), (3, .int x3)] [.int v29] Th M28 0 0
        refine m_istore (lv' := [(5, .int v29), (4, .ref v19), (0, .ref a0), (1, .int x1), (2, .int x2), (3, .int x3)]) dX10_knew_69 (by decide) rfl ?_
        refine m_iload dX10_knew_71 0 rfl ?_
        refine m_if_eq (tgt := 87) dX10_knew_73 (by decide) (fun c1 => ?_) (fun c1 => ?_)
        · rw [if_pos c1] at h
          refine m_iconst (v := 1) dX10_knew_87 (by decide) ?_
          refine m_goto (tgt := 92) dX10_knew_88 (by decide) ?_
          exact m_sub [4, 5, 0] rfl h
        · rw [if_neg c1] at h
          refine m_aload_n dX10_knew_76 rfl 2 rfl ?_
          obtain ⟨r31, q32, h⟩ := h
          refine m_getr f_X10_66 rfl dX10_knew_77 q1 q32 ?_
          refine m_iload_n dX10_knew_80 rfl 3 rfl ?_
          obtain ⟨q35, h⟩ := h
          refine m_invV (ci := 5) (As := [.int x1]) (d' := d) (mc' := 0) (ms' := 0) (rest := []) i_5_seesGoing v_5_seesGoing t_5_seesGoing l_X10_253 ⟨_, _, rfl⟩ dX10_knew_81 rfl rfl q35 (Nat.le_of_ble_eq_true rfl) (Nat.le_refl _) ⟨Nat.le_refl _, Nat.le_refl _⟩ (m_Ci h (fun v34 M33 h => ?_))
          show m_W (d + 1) 0 0 yX10_knew cX10_knew 7 (some .int) (m_qi Th Q) 84 [(5, .int v29), (4, .ref v19), (0, .ref a0), (1, .int x1), (2, .int x2), (3, .int x3)] [.int v34] Th M33 0 0
          refine m_if_ne (tgt := 91) dX10_knew_84 (by decide) (fun c1 => ?_) (fun c1 => ?_)
          · rw [if_neg c1] at h
            refine m_iconst (v := 0) dX10_knew_91 (by decide) ?_
            exact m_sub [4, 5, 0] rfl h
          · rw [if_pos c1] at h
            refine m_iconst (v := 1) dX10_knew_87 (by decide) ?_
            refine m_goto (tgt := 92) dX10_knew_88 (by decide) ?_
            exact m_sub [4, 5, 0] rfl h
      · rw [if_pos c1] at h
        refine m_iconst (v := (-1)) dX10_knew_30 (by decide) ?_
        exact m_ireturn dX10_knew_31 rfl rfl ⟨rfl, _, rfl, h⟩
set_option maxHeartbeats 4000000 in
set_option maxRecDepth 100000 in
theorem e10_seed {d : Nat} {Th : mT} {Q : Int32 → mM → Prop} {a0 : Nat} {x1 : Int32} {M : mM} (h : P10_within d Th x1 0 65535 M (fun (v2 : Int32) (M1 : mM) => if v2 = 0 then (Q 0 M1) else (Th.2.2 a0 = some (.inl 10) ∧ (∃ r4 : Nat, M1.2.2 a0 9 = some r4 ∧ (Th.2.2 r4 = some (.inl 3) ∧ (Q 1 (m_ui M1 r4 8 x1))))))) : P10_seed (d + 1) Th a0 x1 M Q := by
  refine m_C.of (by decide +kernel) (Nat.le_of_ble_eq_true rfl) ?_
  show m_W (d + 1) 0 0 yX10_seed cX10_seed 2 (some .boolean) (m_qi Th Q) 0 [(0, .ref a0), (1, .int x1)] [] Th M 0 0
  refine m_iload_n dX10_seed_0 rfl 1 rfl ?_
  refine m_iconst (v := 0) dX10_seed_1 (by decide) ?_
  refine m_ldc_w k_X10_261 dX10_seed_2 ?_
  refine m_invS (As := [.int x1, .int 0, .int 65535]) (d' := d) (mc' := 0) (ms' := 0) (rest := []) i_10_within s_10_within l_X10_79 dX10_seed_5 rfl rfl (Nat.le_of_ble_eq_true rfl) (Nat.le_refl _) ⟨Nat.le_refl _, Nat.le_refl _⟩ (m_Ci h (fun v2 M1 h => ?_))
  show m_W (d + 1) 0 0 yX10_seed cX10_seed 2 (some .boolean) (m_qi Th Q) 8 [(0, .ref a0), (1, .int x1)] [.int v2] Th M1 0 0
  refine m_if_ne (tgt := 13) dX10_seed_8 (by decide) (fun c1 => ?_) (fun c1 => ?_)
  · rw [if_neg c1] at h
    refine m_aload_n dX10_seed_13 rfl 0 rfl ?_
    obtain ⟨q3, h⟩ := h
    obtain ⟨r4, q5, h⟩ := h
    refine m_getr f_X10_75 rfl dX10_seed_14 q3 q5 ?_
    refine m_iload_n dX10_seed_17 rfl 1 rfl ?_
    obtain ⟨q6, h⟩ := h
    refine m_puti f_X10_262 rfl (Or.inl rfl) dX10_seed_18 q6 ⟨rfl, rfl⟩ ?_
    refine m_iconst (v := 1) dX10_seed_21 (by decide) ?_
    exact m_ireturn dX10_seed_22 rfl (by decide) ⟨rfl, _, rfl, h⟩
  · rw [if_pos c1] at h
    refine m_iconst (v := 0) dX10_seed_11 (by decide) ?_
    exact m_ireturn dX10_seed_12 rfl (by decide) ⟨rfl, _, rfl, h⟩
set_option maxHeartbeats 4000000 in
set_option maxRecDepth 100000 in
theorem e10_draw {d : Nat} {Th : mT} {Q : Int32 → mM → Prop} {a0 : Nat} {M : mM} (h : Th.2.2 a0 = some (.inl 10) ∧ (∃ r2 : Nat, M.2.2 a0 1 = some r2 ∧ (Th.2.2 r2 = some (.inl 2) ∧ (if ((M).1 r2 1) = 0 then (Q (-1) M) else (if ((M).1 r2 0) = 0 then (Q (-1) M) else (∃ r5 : Nat, M.2.2 a0 9 = some r5 ∧ (Th.2.2 r5 = some (.inl 3) ∧ (P3_play d Th r5 M (fun (v8 : Int32) (M7 : mM) => Q v8 M7))))))))) : P10_draw (d + 1) Th a0 M Q := by
  refine m_C.of (by decide +kernel) (Nat.le_of_ble_eq_true rfl) ?_
  show m_W (d + 1) 0 0 yX10_draw cX10_draw 1 (some .int) (m_qi Th Q) 0 [(0, .ref a0)] [] Th M 0 0
  refine m_aload_n dX10_draw_0 rfl 0 rfl ?_
  obtain ⟨q1, h⟩ := h
  obtain ⟨r2, q3, h⟩ := h
  refine m_getr f_X10_19 rfl dX10_draw_1 q1 q3 ?_
  obtain ⟨q4, h⟩ := h
  refine m_geti f_X10_97 rfl dX10_draw_4 q4 ?_
  refine m_if_eq (tgt := 20) dX10_draw_7 (by decide) (fun c1 => ?_) (fun c1 => ?_)
  · rw [if_pos c1] at h
    refine m_iconst (v := (-1)) dX10_draw_20 (by decide) ?_
    exact m_ireturn dX10_draw_21 rfl rfl ⟨rfl, _, rfl, h⟩
  · rw [if_neg c1] at h
    refine m_aload_n dX10_draw_10 rfl 0 rfl ?_
    refine m_getr f_X10_19 rfl dX10_draw_11 q1 q3 ?_
    refine m_geti f_X10_83 rfl dX10_draw_14 q4 ?_
    refine m_if_ne (tgt := 22) dX10_draw_17 (by decide) (fun c1 => ?_) (fun c1 => ?_)
    · rw [if_neg c1] at h
      refine m_aload_n dX10_draw_22 rfl 0 rfl ?_
      obtain ⟨r5, q6, h⟩ := h
      refine m_getr f_X10_75 rfl dX10_draw_23 q1 q6 ?_
      obtain ⟨q9, h⟩ := h
      refine m_invV (ci := 3) (As := []) (d' := d) (mc' := 0) (ms' := 0) (rest := []) i_3_play v_3_play t_3_play l_X10_265 ⟨_, _, rfl⟩ dX10_draw_26 rfl rfl q9 (Nat.le_of_ble_eq_true rfl) (Nat.le_refl _) ⟨Nat.le_refl _, Nat.le_refl _⟩ (m_Ci h (fun v8 M7 h => ?_))
      show m_W (d + 1) 0 0 yX10_draw cX10_draw 1 (some .int) (m_qi Th Q) 29 [(0, .ref a0)] [.int v8] Th M7 0 0
      exact m_ireturn dX10_draw_29 rfl rfl ⟨rfl, _, rfl, h⟩
    · rw [if_pos c1] at h
      refine m_iconst (v := (-1)) dX10_draw_20 (by decide) ?_
      exact m_ireturn dX10_draw_21 rfl rfl ⟨rfl, _, rfl, h⟩
set_option maxHeartbeats 4000000 in
set_option maxRecDepth 100000 in
theorem e10_had {d : Nat} {Th : mT} {Q : Int32 → mM → Prop} {a0 : Nat} {x1 : Int32} {M : mM} (h : Th.2.2 a0 = some (.inl 10) ∧ (∃ r2 : Nat, M.2.2 a0 1 = some r2 ∧ (Th.2.2 r2 = some (.inl 2) ∧ (P2_hasBand d Th r2 x1 M (fun (v5 : Int32) (M4 : mM) => if v5 = 0 then (Q (-1) M4) else (∃ r7 : Nat, M4.2.2 a0 9 = some r7 ∧ (Th.2.2 r7 = some (.inl 3) ∧ (if ((M4).1 r7 9) = 0 then (Q (-1) M4) else (P3_boxTick d Th r7 x1 M4 (fun (v11 : Int32) (M10 : mM) => Q v11 M10)))))))))) : P10_had (d + 1) Th a0 x1 M Q := by
  refine m_C.of (by decide +kernel) (Nat.le_of_ble_eq_true rfl) ?_
  show m_W (d + 1) 0 0 yX10_had cX10_had 2 (some .int) (m_qi Th Q) 0 [(0, .ref a0), (1, .int x1)] [] Th M 0 0
  refine m_aload_n dX10_had_0 rfl 0 rfl ?_
  obtain ⟨q1, h⟩ := h
  obtain ⟨r2, q3, h⟩ := h
  refine m_getr f_X10_19 rfl dX10_had_1 q1 q3 ?_
  refine m_iload_n dX10_had_4 rfl 1 rfl ?_
  obtain ⟨q6, h⟩ := h
  refine m_invV (ci := 2) (As := [.int x1]) (d' := d) (mc' := 0) (ms' := 0) (rest := []) i_2_hasBand v_2_hasBand t_2_hasBand l_X10_130 ⟨_, _, rfl⟩ dX10_had_5 rfl rfl q6 (Nat.le_of_ble_eq_true rfl) (Nat.le_refl _) ⟨Nat.le_refl _, Nat.le_refl _⟩ (m_Ci h (fun v5 M4 h => ?_))
  show m_W (d + 1) 0 0 yX10_had cX10_had 2 (some .int) (m_qi Th Q) 8 [(0, .ref a0), (1, .int x1)] [.int v5] Th M4 0 0
  refine m_if_eq (tgt := 32) dX10_had_8 (by decide) (fun c1 => ?_) (fun c1 => ?_)
  · rw [if_pos c1] at h
    refine m_iconst (v := (-1)) dX10_had_32 (by decide) ?_
    exact m_ireturn dX10_had_33 rfl rfl ⟨rfl, _, rfl, h⟩
  · rw [if_neg c1] at h
    refine m_aload_n dX10_had_11 rfl 0 rfl ?_
    obtain ⟨r7, q8, h⟩ := h
    refine m_getr f_X10_75 rfl dX10_had_12 q1 q8 ?_
    obtain ⟨q9, h⟩ := h
    refine m_geti f_X10_268 rfl dX10_had_15 q9 ?_
    refine m_if_eq (tgt := 32) dX10_had_18 (by decide) (fun c1 => ?_) (fun c1 => ?_)
    · rw [if_pos c1] at h
      refine m_iconst (v := (-1)) dX10_had_32 (by decide) ?_
      exact m_ireturn dX10_had_33 rfl rfl ⟨rfl, _, rfl, h⟩
    · rw [if_neg c1] at h
      refine m_aload_n dX10_had_21 rfl 0 rfl ?_
      refine m_getr f_X10_75 rfl dX10_had_22 q1 q8 ?_
      refine m_iload_n dX10_had_25 rfl 1 rfl ?_
      refine m_invV (ci := 3) (As := [.int x1]) (d' := d) (mc' := 0) (ms' := 0) (rest := []) i_3_boxTick v_3_boxTick t_3_boxTick l_X10_272 ⟨_, _, rfl⟩ dX10_had_26 rfl rfl q9 (Nat.le_of_ble_eq_true rfl) (Nat.le_refl _) ⟨Nat.le_refl _, Nat.le_refl _⟩ (m_Ci h (fun v11 M10 h => ?_))
      show m_W (d + 1) 0 0 yX10_had cX10_had 2 (some .int) (m_qi Th Q) 29 [(0, .ref a0), (1, .int x1)] [.int v11] Th M10 0 0
      refine m_goto (tgt := 33) dX10_had_29 (by decide) ?_
      exact m_ireturn dX10_had_33 rfl rfl ⟨rfl, _, rfl, h⟩
set_option maxHeartbeats 4000000 in
set_option maxRecDepth 100000 in
theorem e10_clear {d : Nat} {Th : mT} {Q : Int32 → mM → Prop} {a0 : Nat} {M : mM} (h : Th.2.2 a0 = some (.inl 10) ∧ (∃ r2 : Nat, M.2.2 a0 8 = some r2 ∧ (Th.2.2 r2 = some (.inl 5) ∧ (∀ xv5 : Int32, xv5 = ((M).1 r2 1) → P10_logFalls d Th a0 M (fun M6 : mM => Q xv5 M6))))) : P10_clear (d + 1) Th a0 M Q := by
  refine m_C.of (by decide +kernel) (Nat.le_of_ble_eq_true rfl) ?_
  show m_W (d + 1) 0 0 yX10_clear cX10_clear 2 (some .int) (m_qi Th Q) 0 [(0, .ref a0)] [] Th M 0 0
  refine m_aload_n dX10_clear_0 rfl 0 rfl ?_
  obtain ⟨q1, h⟩ := h
  obtain ⟨r2, q3, h⟩ := h
  refine m_getr f_X10_66 rfl dX10_clear_1 q1 q3 ?_
  obtain ⟨q4, h⟩ := h
  refine m_geti f_X10_234 rfl dX10_clear_4 q4 ?_
  obtain ⟨xv5, e_xv5⟩ : ∃ xv5 : Int32, xv5 = ((M).1 r2 1) := ⟨_, rfl⟩
  have h := h xv5 e_xv5
  rw [← e_xv5]
  refine m_istore_n (lv' := [(1, .int xv5), (0, .ref a0)]) dX10_clear_7 rfl (by decide) rfl ?_
  refine m_aload_n dX10_clear_8 rfl 1 rfl ?_
  refine m_invV (ci := 10) (As := []) (d' := d) (mc' := 0) (ms' := 0) (rest := []) i_10_logFalls v_10_logFalls t_10_logFalls l_X10_90 ⟨_, _, rfl⟩ dX10_clear_9 rfl rfl q1 (Nat.le_of_ble_eq_true rfl) (Nat.le_refl _) ⟨Nat.le_refl _, Nat.le_refl _⟩ (m_Cv h (fun M6 h => ?_))
  show m_W (d + 1) 0 0 yX10_clear cX10_clear 2 (some .int) (m_qi Th Q) 12 [(1, .int xv5), (0, .ref a0)] [] Th M6 0 0
  refine m_iload_n dX10_clear_12 rfl 0 rfl ?_
  exact m_ireturn dX10_clear_13 rfl rfl ⟨rfl, _, rfl, h⟩
set_option maxHeartbeats 4000000 in
set_option maxRecDepth 100000 in
theorem e10_check {d : Nat} {Th : mT} {Q : Int32 → mM → Prop} {a0 : Nat} {x1 : Int32} {M : mM} (h : P10_within d Th x1 0 220 M (fun (v2 : Int32) (M1 : mM) => if v2 = 0 then (Q (-2) M1) else (Th.2.2 a0 = some (.inl 10) ∧ (∃ r4 : Nat, M1.2.2 a0 0 = some r4 ∧ (Th.2.2 r4 = some (.inl 9) ∧ (if (12 * x1) ≤ ((M1).1 r4 1) then (∃ r7 : Nat, M1.2.2 a0 8 = some r7 ∧ (Th.2.2 r7 = some (.inl 5) ∧ (P5_firstWrong d Th r7 r4 x1 M1 (fun (v10 : Int32) (M9 : mM) => ∃ r12 : Nat, M9.2.2 a0 0 = some r12 ∧ (Th.2.2 r12 = some (.inl 9) ∧ (P9_drop d Th r12 M9 (fun M14 : mM => Q v10 M14))))))) else (Q (-2) M1))))))) : P10_check (d + 1) Th a0 x1 M Q := by
  refine m_C.of (by decide +kernel) (Nat.le_of_ble_eq_true rfl) ?_
  show m_W (d + 1) 0 0 yX10_check cX10_check 3 (some .int) (m_qi Th Q) 0 [(0, .ref a0), (1, .int x1)] [] Th M 0 0
  refine m_iload_n dX10_check_0 rfl 1 rfl ?_
  refine m_iconst (v := 0) dX10_check_1 (by decide) ?_
  refine m_sipush (v := 220) dX10_check_2 (by decide) ?_
  refine m_invS (As := [.int x1, .int 0, .int 220]) (d' := d) (mc' := 0) (ms' := 0) (rest := []) i_10_within s_10_within l_X10_79 dX10_check_5 rfl rfl (Nat.le_of_ble_eq_true rfl) (Nat.le_refl _) ⟨Nat.le_refl _, Nat.le_refl _⟩ (m_Ci h (fun v2 M1 h => ?_))
  show m_W (d + 1) 0 0 yX10_check cX10_check 3 (some .int) (m_qi Th Q) 8 [(0, .ref a0), (1, .int x1)] [.int v2] Th M1 0 0
  refine m_if_eq (tgt := 25) dX10_check_8 (by decide) (fun c1 => ?_) (fun c1 => ?_)
  · rw [if_pos c1] at h
    refine m_bipush (v := (-2)) dX10_check_25 (by decide) ?_
    exact m_ireturn dX10_check_27 rfl rfl ⟨rfl, _, rfl, h⟩
  · rw [if_neg c1] at h
    refine m_bipush (v := 12) dX10_check_11 (by decide) ?_
    refine m_iload_n dX10_check_13 rfl 1 rfl ?_
    refine m_imul dX10_check_14 ?_
    refine m_aload_n dX10_check_15 rfl 0 rfl ?_
    obtain ⟨q3, h⟩ := h
    obtain ⟨r4, q5, h⟩ := h
    refine m_getr f_X10_10 rfl dX10_check_16 q3 q5 ?_
    obtain ⟨q6, h⟩ := h
    refine m_geti f_X10_107 rfl dX10_check_19 q6 ?_
    refine m_icmp_le (tgt := 28) dX10_check_22 (by decide) (fun c1 => ?_) (fun c1 => ?_)
    · rw [if_pos c1] at h
      refine m_aload_n dX10_check_28 rfl 0 rfl ?_
      obtain ⟨r7, q8, h⟩ := h
      refine m_getr f_X10_66 rfl dX10_check_29 q3 q8 ?_
      refine m_aload_n dX10_check_32 rfl 0 rfl ?_
      refine m_getr f_X10_10 rfl dX10_check_33 q3 q5 ?_
      refine m_iload_n dX10_check_36 rfl 1 rfl ?_
      obtain ⟨q11, h⟩ := h
      refine m_invV (ci := 5) (As := [.ref r4, .int x1]) (d' := d) (mc' := 0) (ms' := 0) (rest := []) i_5_firstWrong v_5_firstWrong t_5_firstWrong l_X10_275 ⟨_, _, rfl⟩ dX10_check_37 rfl rfl q11 (Nat.le_of_ble_eq_true rfl) (Nat.le_refl _) ⟨Nat.le_refl _, Nat.le_refl _⟩ (m_Ci h (fun v10 M9 h => ?_))
      show m_W (d + 1) 0 0 yX10_check cX10_check 3 (some .int) (m_qi Th Q) 40 [(0, .ref a0), (1, .int x1)] [.int v10] Th M9 0 0
      refine m_istore_n (lv' := [(2, .int v10), (0, .ref a0), (1, .int x1)]) dX10_check_40 rfl (by decide) rfl ?_
      refine m_aload_n dX10_check_41 rfl 1 rfl ?_
      obtain ⟨r12, q13, h⟩ := h
      refine m_getr f_X10_10 rfl dX10_check_42 q3 q13 ?_
      obtain ⟨q16, h⟩ := h
      refine m_invV (ci := 9) (As := []) (d' := d) (mc' := 0) (ms' := 0) (rest := []) i_9_drop v_9_drop t_9_drop l_X10_127 ⟨_, _, rfl⟩ dX10_check_45 rfl rfl q16 (Nat.le_of_ble_eq_true rfl) (Nat.le_refl _) ⟨Nat.le_refl _, Nat.le_refl _⟩ (m_Cv h (fun M14 h => ?_))
      show m_W (d + 1) 0 0 yX10_check cX10_check 3 (some .int) (m_qi Th Q) 48 [(2, .int v10), (0, .ref a0), (1, .int x1)] [] Th M14 0 0
      refine m_iload_n dX10_check_48 rfl 0 rfl ?_
      exact m_ireturn dX10_check_49 rfl rfl ⟨rfl, _, rfl, h⟩
    · rw [if_neg c1] at h
      refine m_bipush (v := (-2)) dX10_check_25 (by decide) ?_
      exact m_ireturn dX10_check_27 rfl rfl ⟨rfl, _, rfl, h⟩
set_option maxHeartbeats 4000000 in
set_option maxRecDepth 100000 in
theorem e10_count {d : Nat} {Th : mT} {Q : Int32 → mM → Prop} {a0 : Nat} {x1 : Int32} {M : mM} (h : if x1 = 0 then (Th.2.2 a0 = some (.inl 10) ∧ (∃ r2 : Nat, M.2.2 a0 1 = some r2 ∧ (Th.2.2 r2 = some (.inl 2) ∧ (Q (((M).1 r2 0)) M)))) else (if x1 = 1 then (Th.2.2 a0 = some (.inl 10) ∧ (∃ r6 : Nat, M.2.2 a0 1 = some r6 ∧ (Th.2.2 r6 = some (.inl 2) ∧ (Q (((M).1 r6 1)) M)))) else (if x1 = 2 then (Th.2.2 a0 = some (.inl 10) ∧ (∃ r10 : Nat, M.2.2 a0 1 = some r10 ∧ (Th.2.2 r10 = some (.inl 2) ∧ (∃ r13 : Nat, M.2.2 r10 5 = some r13 ∧ (Th.2.2 r13 = some (.inl 4) ∧ (Q (((M).1 r13 4)) M)))))) else (if x1 = 3 then (Th.2.2 a0 = some (.inl 10) ∧ (∃ r17 : Nat, M.2.2 a0 0 = some r17 ∧ (Th.2.2 r17 = some (.inl 9) ∧ (Q (((M).1 r17 1)) M)))) else (if x1 = 4 then (Th.2.2 a0 = some (.inl 10) ∧ (∃ r21 : Nat, M.2.2 a0 7 = some r21 ∧ (Th.2.2 r21 = some (.inl 6) ∧ (Q (((M).1 r21 5)) M)))) else (if x1 = 5 then (Th.2.2 a0 = some (.inl 10) ∧ (∃ r25 : Nat, M.2.2 a0 8 = some r25 ∧ (Th.2.2 r25 = some (.inl 5) ∧ (Q (((M).1 r25 1)) M)))) else (if x1 = 6 then (Th.2.2 a0 = some (.inl 10) ∧ (∃ r29 : Nat, M.2.2 a0 9 = some r29 ∧ (Th.2.2 r29 = some (.inl 3) ∧ (Q (((M).1 r29 8)) M)))) else (if x1 = 7 then (Th.2.2 a0 = some (.inl 10) ∧ (∃ r33 : Nat, M.2.2 a0 1 = some r33 ∧ (Th.2.2 r33 = some (.inl 2) ∧ (Q (((M).1 r33 2)) M)))) else (if x1 = 8 then (Th.2.2 a0 = some (.inl 10) ∧ (∃ r37 : Nat, M.2.2 a0 1 = some r37 ∧ (Th.2.2 r37 = some (.inl 2) ∧ (Q (((M).1 r37 3)) M)))) else (Q (-1) M)))))))))) : P10_count (d + 1) Th a0 x1 M Q := by
  refine m_C.of (by decide +kernel) (Nat.le_of_ble_eq_true rfl) ?_
  show m_W (d + 1) 0 0 yX10_count cX10_count 2 (some .int) (m_qi Th Q) 0 [(0, .ref a0), (1, .int x1)] [] Th M 0 0
  refine m_iload_n dX10_count_0 rfl 1 rfl ?_
  by_cases c0 : x1 = 0
  · rw [if_pos c0] at h
    refine m_tableIn (off := 51) (tgt := 52) dX10_count_1 (by rw [c0]; decide) (by rw [c0]; decide) (by rw [c0]; decide) (by decide) ?_
    refine m_aload_n dX10_count_52 rfl 0 rfl ?_
    obtain ⟨q1, h⟩ := h
    obtain ⟨r2, q3, h⟩ := h
    refine m_getr f_X10_19 rfl dX10_count_53 q1 q3 ?_
    obtain ⟨q4, h⟩ := h
    refine m_geti f_X10_83 rfl dX10_count_56 q4 ?_
    exact m_ireturn dX10_count_59 rfl rfl ⟨rfl, _, rfl, h⟩
  rw [if_neg c0] at h
  by_cases c1 : x1 = 1
  · rw [if_pos c1] at h
    refine m_tableIn (off := 59) (tgt := 60) dX10_count_1 (by rw [c1]; decide) (by rw [c1]; decide) (by rw [c1]; decide) (by decide) ?_
    refine m_aload_n dX10_count_60 rfl 0 rfl ?_
    obtain ⟨q5, h⟩ := h
    obtain ⟨r6, q7, h⟩ := h
    refine m_getr f_X10_19 rfl dX10_count_61 q5 q7 ?_
    obtain ⟨q8, h⟩ := h
    refine m_geti f_X10_97 rfl dX10_count_64 q8 ?_
    exact m_ireturn dX10_count_67 rfl rfl ⟨rfl, _, rfl, h⟩
  rw [if_neg c1] at h
  by_cases c2 : x1 = 2
  · rw [if_pos c2] at h
    refine m_tableIn (off := 67) (tgt := 68) dX10_count_1 (by rw [c2]; decide) (by rw [c2]; decide) (by rw [c2]; decide) (by decide) ?_
    refine m_aload_n dX10_count_68 rfl 0 rfl ?_
    obtain ⟨q9, h⟩ := h
    obtain ⟨r10, q11, h⟩ := h
    refine m_getr f_X10_19 rfl dX10_count_69 q9 q11 ?_
    obtain ⟨q12, h⟩ := h
    obtain ⟨r13, q14, h⟩ := h
    refine m_getr f_X10_114 rfl dX10_count_72 q12 q14 ?_
    obtain ⟨q15, h⟩ := h
    refine m_geti f_X10_278 rfl dX10_count_75 q15 ?_
    exact m_ireturn dX10_count_78 rfl rfl ⟨rfl, _, rfl, h⟩
  rw [if_neg c2] at h
  by_cases c3 : x1 = 3
  · rw [if_pos c3] at h
    refine m_tableIn (off := 78) (tgt := 79) dX10_count_1 (by rw [c3]; decide) (by rw [c3]; decide) (by rw [c3]; decide) (by decide) ?_
    refine m_aload_n dX10_count_79 rfl 0 rfl ?_
    obtain ⟨q16, h⟩ := h
    obtain ⟨r17, q18, h⟩ := h
    refine m_getr f_X10_10 rfl dX10_count_80 q16 q18 ?_
    obtain ⟨q19, h⟩ := h
    refine m_geti f_X10_107 rfl dX10_count_83 q19 ?_
    exact m_ireturn dX10_count_86 rfl rfl ⟨rfl, _, rfl, h⟩
  rw [if_neg c3] at h
  by_cases c4 : x1 = 4
  · rw [if_pos c4] at h
    refine m_tableIn (off := 86) (tgt := 87) dX10_count_1 (by rw [c4]; decide) (by rw [c4]; decide) (by rw [c4]; decide) (by decide) ?_
    refine m_aload_n dX10_count_87 rfl 0 rfl ?_
    obtain ⟨q20, h⟩ := h
    obtain ⟨r21, q22, h⟩ := h
    refine m_getr f_X10_59 rfl dX10_count_88 q20 q22 ?_
    obtain ⟨q23, h⟩ := h
    refine m_geti f_X10_221 rfl dX10_count_91 q23 ?_
    exact m_ireturn dX10_count_94 rfl rfl ⟨rfl, _, rfl, h⟩
  rw [if_neg c4] at h
  by_cases c5 : x1 = 5
  · rw [if_pos c5] at h
    refine m_tableIn (off := 94) (tgt := 95) dX10_count_1 (by rw [c5]; decide) (by rw [c5]; decide) (by rw [c5]; decide) (by decide) ?_
    refine m_aload_n dX10_count_95 rfl 0 rfl ?_
    obtain ⟨q24, h⟩ := h
    obtain ⟨r25, q26, h⟩ := h
    refine m_getr f_X10_66 rfl dX10_count_96 q24 q26 ?_
    obtain ⟨q27, h⟩ := h
    refine m_geti f_X10_234 rfl dX10_count_99 q27 ?_
    exact m_ireturn dX10_count_102 rfl rfl ⟨rfl, _, rfl, h⟩
  rw [if_neg c5] at h
  by_cases c6 : x1 = 6
  · rw [if_pos c6] at h
    refine m_tableIn (off := 102) (tgt := 103) dX10_count_1 (by rw [c6]; decide) (by rw [c6]; decide) (by rw [c6]; decide) (by decide) ?_
    refine m_aload_n dX10_count_103 rfl 0 rfl ?_
    obtain ⟨q28, h⟩ := h
    obtain ⟨r29, q30, h⟩ := h
    refine m_getr f_X10_75 rfl dX10_count_104 q28 q30 ?_
    obtain ⟨q31, h⟩ := h
    refine m_geti f_X10_262 rfl dX10_count_107 q31 ?_
    exact m_ireturn dX10_count_110 rfl rfl ⟨rfl, _, rfl, h⟩
  rw [if_neg c6] at h
  by_cases c7 : x1 = 7
  · rw [if_pos c7] at h
    refine m_tableIn (off := 110) (tgt := 111) dX10_count_1 (by rw [c7]; decide) (by rw [c7]; decide) (by rw [c7]; decide) (by decide) ?_
    refine m_aload_n dX10_count_111 rfl 0 rfl ?_
    obtain ⟨q32, h⟩ := h
    obtain ⟨r33, q34, h⟩ := h
    refine m_getr f_X10_19 rfl dX10_count_112 q32 q34 ?_
    obtain ⟨q35, h⟩ := h
    refine m_geti f_X10_185 rfl dX10_count_115 q35 ?_
    exact m_ireturn dX10_count_118 rfl rfl ⟨rfl, _, rfl, h⟩
  rw [if_neg c7] at h
  by_cases c8 : x1 = 8
  · rw [if_pos c8] at h
    refine m_tableIn (off := 118) (tgt := 119) dX10_count_1 (by rw [c8]; decide) (by rw [c8]; decide) (by rw [c8]; decide) (by decide) ?_
    refine m_aload_n dX10_count_119 rfl 0 rfl ?_
    obtain ⟨q36, h⟩ := h
    obtain ⟨r37, q38, h⟩ := h
    refine m_getr f_X10_19 rfl dX10_count_120 q36 q38 ?_
    obtain ⟨q39, h⟩ := h
    refine m_geti f_X10_281 rfl dX10_count_123 q39 ?_
    exact m_ireturn dX10_count_126 rfl rfl ⟨rfl, _, rfl, h⟩
  rw [if_neg c8] at h
  refine m_tableOut (tgt := 127) dX10_count_1 (m_sw 0 8 (fun k h1 h2 => by have hk : k = 0 ∨ k = 1 ∨ k = 2 ∨ k = 3 ∨ k = 4 ∨ k = 5 ∨ k = 6 ∨ k = 7 ∨ k = 8 := (by omega); rcases hk with rfl | rfl | rfl | rfl | rfl | rfl | rfl | rfl | rfl <;> first | exact c0 | exact c1 | exact c2 | exact c3 | exact c4 | exact c5 | exact c6 | exact c7 | exact c8)) (by decide) ?_
  refine m_iconst (v := (-1)) dX10_count_127 (by decide) ?_
  exact m_ireturn dX10_count_128 rfl rfl ⟨rfl, _, rfl, h⟩
set_option maxHeartbeats 4000000 in
set_option maxRecDepth 100000 in
theorem e10_logFalls {d : Nat} {Th : mT} {Q : mM → Prop} {a0 : Nat} {M : mM} (h : Th.2.2 a0 = some (.inl 10) ∧ (∃ r2 : Nat, M.2.2 a0 8 = some r2 ∧ (Th.2.2 r2 = some (.inl 5) ∧ (P5_fall d Th r2 M (fun M4 : mM => ∃ r7 : Nat, M4.2.2 a0 9 = some r7 ∧ (Th.2.2 r7 = some (.inl 3) ∧ (Q (m_ui M4 r7 9 0)))))))) : P10_logFalls (d + 1) Th a0 M Q := by
  refine m_C.of (by decide +kernel) (Nat.le_of_ble_eq_true rfl) ?_
  show m_W (d + 1) 0 0 yX10_logFalls cX10_logFalls 1 none (m_qv Th Q) 0 [(0, .ref a0)] [] Th M 0 0
  refine m_aload_n dX10_logFalls_0 rfl 0 rfl ?_
  obtain ⟨q1, h⟩ := h
  obtain ⟨r2, q3, h⟩ := h
  refine m_getr f_X10_66 rfl dX10_logFalls_1 q1 q3 ?_
  obtain ⟨q6, h⟩ := h
  refine m_invV (ci := 5) (As := []) (d' := d) (mc' := 0) (ms' := 0) (rest := []) i_5_fall v_5_fall t_5_fall l_X10_284 ⟨_, _, rfl⟩ dX10_logFalls_4 rfl rfl q6 (Nat.le_of_ble_eq_true rfl) (Nat.le_refl _) ⟨Nat.le_refl _, Nat.le_refl _⟩ (m_Cv h (fun M4 h => ?_))
  show m_W (d + 1) 0 0 yX10_logFalls cX10_logFalls 1 none (m_qv Th Q) 7 [(0, .ref a0)] [] Th M4 0 0
  refine m_aload_n dX10_logFalls_7 rfl 0 rfl ?_
  obtain ⟨r7, q8, h⟩ := h
  refine m_getr f_X10_75 rfl dX10_logFalls_8 q1 q8 ?_
  refine m_iconst (v := 0) dX10_logFalls_11 (by decide) ?_
  obtain ⟨q9, h⟩ := h
  refine m_puti f_X10_268 rfl (Or.inl rfl) dX10_logFalls_12 q9 ⟨by decide, by decide⟩ ?_
  exact m_return dX10_logFalls_15 rfl ⟨rfl, rfl, h⟩
set_option maxHeartbeats 4000000 in
set_option maxRecDepth 100000 in
theorem e10_canHunt {d : Nat} {Th : mT} {Q : Int32 → mM → Prop} {a0 : Nat} {x1 : Int32} {x2 : Int32} {M : mM} (h : Th.2.2 a0 = some (.inl 10) ∧ (∃ r2 : Nat, M.2.2 a0 1 = some r2 ∧ (Th.2.2 r2 = some (.inl 2) ∧ (P2_hasBand d Th r2 x1 M (fun (v5 : Int32) (M4 : mM) => if v5 = 0 then (Q 0 M4) else (∃ r7 : Nat, M4.2.2 a0 1 = some r7 ∧ (Th.2.2 r7 = some (.inl 2) ∧ (P2_hasBand d Th r7 x2 M4 (fun (v10 : Int32) (M9 : mM) => if v10 = 0 then (Q 0 M9) else (if x1 = x2 then (Q 0 M9) else (∃ r12 : Nat, M9.2.2 a0 1 = some r12 ∧ (Th.2.2 r12 = some (.inl 2) ∧ (m_bool ((if ((M9).1 r12 0) ≤ 0 then 0 else 1)) ∧ Q ((if ((M9).1 r12 0) ≤ 0 then 0 else 1)) M9))))))))))))) : P10_canHunt (d + 1) Th a0 x1 x2 M Q := by
  refine m_C.of (by decide +kernel) (Nat.le_of_ble_eq_true rfl) ?_
  show m_W (d + 1) 0 0 yX10_canHunt cX10_canHunt 3 (some .boolean) (m_qi Th Q) 0 [(0, .ref a0), (1, .int x1), (2, .int x2)] [] Th M 0 0
  refine m_aload_n dX10_canHunt_0 rfl 0 rfl ?_
  obtain ⟨q1, h⟩ := h
  obtain ⟨r2, q3, h⟩ := h
  refine m_getr f_X10_19 rfl dX10_canHunt_1 q1 q3 ?_
  refine m_iload_n dX10_canHunt_4 rfl 1 rfl ?_
  obtain ⟨q6, h⟩ := h
  refine m_invV (ci := 2) (As := [.int x1]) (d' := d) (mc' := 0) (ms' := 0) (rest := []) i_2_hasBand v_2_hasBand t_2_hasBand l_X10_130 ⟨_, _, rfl⟩ dX10_canHunt_5 rfl rfl q6 (Nat.le_of_ble_eq_true rfl) (Nat.le_refl _) ⟨Nat.le_refl _, Nat.le_refl _⟩ (m_Ci h (fun v5 M4 h => ?_))
  show m_W (d + 1) 0 0 yX10_canHunt cX10_canHunt 3 (some .boolean) (m_qi Th Q) 8 [(0, .ref a0), (1, .int x1), (2, .int x2)] [.int v5] Th M4 0 0
  refine m_if_eq (tgt := 41) dX10_canHunt_8 (by decide) (fun c1 => ?_) (fun c1 => ?_)
  · rw [if_pos c1] at h
    refine m_iconst (v := 0) dX10_canHunt_41 (by decide) ?_
    exact m_ireturn dX10_canHunt_42 rfl (by decide) ⟨rfl, _, rfl, h⟩
  · rw [if_neg c1] at h
    refine m_aload_n dX10_canHunt_11 rfl 0 rfl ?_
    obtain ⟨r7, q8, h⟩ := h
    refine m_getr f_X10_19 rfl dX10_canHunt_12 q1 q8 ?_
    refine m_iload_n dX10_canHunt_15 rfl 2 rfl ?_
    obtain ⟨q11, h⟩ := h
    refine m_invV (ci := 2) (As := [.int x2]) (d' := d) (mc' := 0) (ms' := 0) (rest := []) i_2_hasBand v_2_hasBand t_2_hasBand l_X10_130 ⟨_, _, rfl⟩ dX10_canHunt_16 rfl rfl q11 (Nat.le_of_ble_eq_true rfl) (Nat.le_refl _) ⟨Nat.le_refl _, Nat.le_refl _⟩ (m_Ci h (fun v10 M9 h => ?_))
    show m_W (d + 1) 0 0 yX10_canHunt cX10_canHunt 3 (some .boolean) (m_qi Th Q) 19 [(0, .ref a0), (1, .int x1), (2, .int x2)] [.int v10] Th M9 0 0
    refine m_if_eq (tgt := 41) dX10_canHunt_19 (by decide) (fun c1 => ?_) (fun c1 => ?_)
    · rw [if_pos c1] at h
      refine m_iconst (v := 0) dX10_canHunt_41 (by decide) ?_
      exact m_ireturn dX10_canHunt_42 rfl (by decide) ⟨rfl, _, rfl, h⟩
    · rw [if_neg c1] at h
      refine m_iload_n dX10_canHunt_22 rfl 1 rfl ?_
      refine m_iload_n dX10_canHunt_23 rfl 2 rfl ?_
      refine m_icmp_eq (tgt := 41) dX10_canHunt_24 (by decide) (fun c1 => ?_) (fun c1 => ?_)
      · rw [if_pos c1] at h
        refine m_iconst (v := 0) dX10_canHunt_41 (by decide) ?_
        exact m_ireturn dX10_canHunt_42 rfl (by decide) ⟨rfl, _, rfl, h⟩
      · rw [if_neg c1] at h
        refine m_aload_n dX10_canHunt_27 rfl 0 rfl ?_
        obtain ⟨r12, q13, h⟩ := h
        refine m_getr f_X10_19 rfl dX10_canHunt_28 q1 q13 ?_
        obtain ⟨q14, h⟩ := h
        refine m_geti f_X10_83 rfl dX10_canHunt_31 q14 ?_
        have hJ : m_W (d + 1) 0 0 yX10_canHunt cX10_canHunt 3 (some .boolean) (m_qi Th Q) 42 [(0, .ref a0), (1, .int x1), (2, .int x2)] [.int ((if ((M9).1 r12 0) ≤ 0 then 0 else 1))] Th M9 0 0 := by
          exact m_ireturn dX10_canHunt_42 rfl h.1 ⟨rfl, _, rfl, h.2⟩
        refine m_if_le (tgt := 41) dX10_canHunt_34 (by decide) (fun c1 => ?_) (fun c1 => ?_)
        · simp only [if_pos c1] at hJ
          refine m_iconst (v := 0) dX10_canHunt_41 (by decide) ?_
          exact hJ
        · simp only [if_neg c1] at hJ
          refine m_iconst (v := 1) dX10_canHunt_37 (by decide) ?_
          refine m_goto (tgt := 42) dX10_canHunt_38 (by decide) ?_
          exact hJ
set_option maxHeartbeats 4000000 in
set_option maxRecDepth 100000 in
theorem e10_goAlone {d : Nat} {Th : mT} {Q : mM → Prop} {a0 : Nat} {a1 : Nat} {a2 : Nat} {M : mM} (h : Th.2.2 a0 = some (.inl 10) ∧ (∃ r2 : Nat, M.2.2 a0 1 = some r2 ∧ (Th.2.2 r2 = some (.inl 2) ∧ (Th.2.2 a1 = some (.inl 7) ∧ (P7_reckon d Th a1 a2 3 (((M).1 r2 0)) (((M).1 r2 2)) M (fun M5 : mM => Q M5)))))) : P10_goAlone (d + 1) Th a0 a1 a2 M Q := by
  refine m_C.of (by decide +kernel) (Nat.le_of_ble_eq_true rfl) ?_
  show m_W (d + 1) 0 0 yX10_goAlone cX10_goAlone 3 none (m_qv Th Q) 0 [(0, .ref a0), (1, .ref a1), (2, .ref a2)] [] Th M 0 0
  refine m_aload_n dX10_goAlone_0 rfl 1 rfl ?_
  refine m_aload_n dX10_goAlone_1 rfl 2 rfl ?_
  refine m_iconst (v := 3) dX10_goAlone_2 (by decide) ?_
  refine m_aload_n dX10_goAlone_3 rfl 0 rfl ?_
  obtain ⟨q1, h⟩ := h
  obtain ⟨r2, q3, h⟩ := h
  refine m_getr f_X10_19 rfl dX10_goAlone_4 q1 q3 ?_
  obtain ⟨q4, h⟩ := h
  refine m_geti f_X10_83 rfl dX10_goAlone_7 q4 ?_
  refine m_aload_n dX10_goAlone_10 rfl 0 rfl ?_
  refine m_getr f_X10_19 rfl dX10_goAlone_11 q1 q3 ?_
  refine m_geti f_X10_185 rfl dX10_goAlone_14 q4 ?_
  obtain ⟨q7, h⟩ := h
  refine m_invV (ci := 7) (As := [.ref a2, .int 3, .int (((M).1 r2 0)), .int (((M).1 r2 2))]) (d' := d) (mc' := 0) (ms' := 0) (rest := []) i_7_reckon v_7_reckon t_7_reckon l_X10_188 ⟨_, _, rfl⟩ dX10_goAlone_17 rfl rfl q7 (Nat.le_of_ble_eq_true rfl) (Nat.le_refl _) ⟨Nat.le_refl _, Nat.le_refl _⟩ (m_Cv h (fun M5 h => ?_))
  show m_W (d + 1) 0 0 yX10_goAlone cX10_goAlone 3 none (m_qv Th Q) 20 [(0, .ref a0), (1, .ref a1), (2, .ref a2)] [] Th M5 0 0
  exact m_return dX10_goAlone_20 rfl ⟨rfl, rfl, h⟩
set_option maxHeartbeats 4000000 in
set_option maxRecDepth 100000 in
theorem e10_followed {d : Nat} {Th : mT} {Q : Int64 → mM → Prop} {a0 : Nat} {x1 : Int32} {x2 : Int32} {x3 : Int32} {x4 : Int32} {M : mM} (h : Th.2.2 a0 = some (.inl 10) ∧ (∃ r2 : Nat, M.2.2 a0 4 = some r2 ∧ (∃ r4 : Nat, M.2.2 a0 1 = some r4 ∧ (Th.2.2 r4 = some (.inl 2) ∧ (P2_skill d Th r4 x2 M (fun (v7 : Nat) (M6 : mM) => P10_goAlone d Th a0 r2 v7 M6 (fun M9 : mM => ∃ r11 : Nat, M9.2.2 a0 5 = some r11 ∧ (∃ r13 : Nat, M9.2.2 a0 1 = some r13 ∧ (Th.2.2 r13 = some (.inl 2) ∧ (P2_skill d Th r13 x1 M9 (fun (v16 : Nat) (M15 : mM) => ∃ r18 : Nat, M15.2.2 a0 1 = some r18 ∧ (Th.2.2 r18 = some (.inl 2) ∧ (P2_skill d Th r18 x2 M15 (fun (v21 : Nat) (M20 : mM) => ∃ r23 : Nat, M20.2.2 a0 4 = some r23 ∧ (Th.2.2 r11 = some (.inl 0) ∧ (P0_reckon d Th r11 v16 v21 r23 x3 x4 M20 (fun (v26 : Int64) (M25 : mM) => Q v26 M25))))))))))))))))) : P10_followed (d + 1) Th a0 x1 x2 x3 x4 M Q := by
  refine m_C.of (by decide +kernel) (Nat.le_of_ble_eq_true rfl) ?_
  show m_W (d + 1) 0 0 yX10_followed cX10_followed 5 (some .long) (m_ql Th Q) 0 [(0, .ref a0), (1, .int x1), (2, .int x2), (3, .int x3), (4, .int x4)] [] Th M 0 0
  refine m_aload_n dX10_followed_0 rfl 0 rfl ?_
  refine m_aload_n dX10_followed_1 rfl 0 rfl ?_
  obtain ⟨q1, h⟩ := h
  obtain ⟨r2, q3, h⟩ := h
  refine m_getr f_X10_37 rfl dX10_followed_2 q1 q3 ?_
  refine m_aload_n dX10_followed_5 rfl 0 rfl ?_
  obtain ⟨r4, q5, h⟩ := h
  refine m_getr f_X10_19 rfl dX10_followed_6 q1 q5 ?_
  refine m_iload_n dX10_followed_9 rfl 2 rfl ?_
  obtain ⟨q8, h⟩ := h
  refine m_invV (ci := 2) (As := [.int x2]) (d' := d) (mc' := 0) (ms' := 0) (rest := [.ref r2, .ref a0]) i_2_skill v_2_skill t_2_skill l_X10_137 ⟨_, _, rfl⟩ dX10_followed_10 rfl rfl q8 (Nat.le_of_ble_eq_true rfl) (Nat.le_refl _) ⟨Nat.le_refl _, Nat.le_refl _⟩ (m_Cr h (fun v7 M6 h => ?_))
  show m_W (d + 1) 0 0 yX10_followed cX10_followed 5 (some .long) (m_ql Th Q) 13 [(0, .ref a0), (1, .int x1), (2, .int x2), (3, .int x3), (4, .int x4)] [.ref v7, .ref r2, .ref a0] Th M6 0 0
  refine m_invV (ci := 10) (As := [.ref r2, .ref v7]) (d' := d) (mc' := 0) (ms' := 0) (rest := []) i_10_goAlone v_10_goAlone t_10_goAlone l_X10_153 ⟨_, _, rfl⟩ dX10_followed_13 rfl rfl q1 (Nat.le_of_ble_eq_true rfl) (Nat.le_refl _) ⟨Nat.le_refl _, Nat.le_refl _⟩ (m_Cv h (fun M9 h => ?_))
  show m_W (d + 1) 0 0 yX10_followed cX10_followed 5 (some .long) (m_ql Th Q) 16 [(0, .ref a0), (1, .int x1), (2, .int x2), (3, .int x3), (4, .int x4)] [] Th M9 0 0
  refine m_aload_n dX10_followed_16 rfl 0 rfl ?_
  obtain ⟨r11, q12, h⟩ := h
  refine m_getr f_X10_43 rfl dX10_followed_17 q1 q12 ?_
  refine m_aload_n dX10_followed_20 rfl 0 rfl ?_
  obtain ⟨r13, q14, h⟩ := h
  refine m_getr f_X10_19 rfl dX10_followed_21 q1 q14 ?_
  refine m_iload_n dX10_followed_24 rfl 1 rfl ?_
  obtain ⟨q17, h⟩ := h
  refine m_invV (ci := 2) (As := [.int x1]) (d' := d) (mc' := 0) (ms' := 0) (rest := [.ref r11]) i_2_skill v_2_skill t_2_skill l_X10_137 ⟨_, _, rfl⟩ dX10_followed_25 rfl rfl q17 (Nat.le_of_ble_eq_true rfl) (Nat.le_refl _) ⟨Nat.le_refl _, Nat.le_refl _⟩ (m_Cr h (fun v16 M15 h => ?_))
  show m_W (d + 1) 0 0 yX10_followed cX10_followed 5 (some .long) (m_ql Th Q) 28 [(0, .ref a0), (1, .int x1), (2, .int x2), (3, .int x3), (4, .int x4)] [.ref v16, .ref r11] Th M15 0 0
  refine m_aload_n dX10_followed_28 rfl 0 rfl ?_
  obtain ⟨r18, q19, h⟩ := h
  refine m_getr f_X10_19 rfl dX10_followed_29 q1 q19 ?_
  refine m_iload_n dX10_followed_32 rfl 2 rfl ?_
  obtain ⟨q22, h⟩ := h
  refine m_invV (ci := 2) (As := [.int x2]) (d' := d) (mc' := 0) (ms' := 0) (rest := [.ref v16, .ref r11]) i_2_skill v_2_skill t_2_skill l_X10_137 ⟨_, _, rfl⟩ dX10_followed_33 rfl rfl q22 (Nat.le_of_ble_eq_true rfl) (Nat.le_refl _) ⟨Nat.le_refl _, Nat.le_refl _⟩ (m_Cr h (fun v21 M20 h => ?_))
  show m_W (d + 1) 0 0 yX10_followed cX10_followed 5 (some .long) (m_ql Th Q) 36 [(0, .ref a0), (1, .int x1), (2, .int x2), (3, .int x3), (4, .int x4)] [.ref v21, .ref v16, .ref r11] Th M20 0 0
  refine m_aload_n dX10_followed_36 rfl 0 rfl ?_
  obtain ⟨r23, q24, h⟩ := h
  refine m_getr f_X10_37 rfl dX10_followed_37 q1 q24 ?_
  refine m_iload_n dX10_followed_40 rfl 3 rfl ?_
  refine m_iload dX10_followed_41 4 rfl ?_
  obtain ⟨q27, h⟩ := h
  refine m_invV (ci := 0) (As := [.ref v16, .ref v21, .ref r23, .int x3, .int x4]) (d' := d) (mc' := 0) (ms' := 0) (rest := []) i_0_reckon v_0_reckon t_0_reckon l_X10_285 ⟨_, _, rfl⟩ dX10_followed_43 rfl rfl q27 (Nat.le_of_ble_eq_true rfl) (Nat.le_refl _) ⟨Nat.le_refl _, Nat.le_refl _⟩ (m_Cl h (fun v26 M25 h => ?_))
  show m_W (d + 1) 0 0 yX10_followed cX10_followed 5 (some .long) (m_ql Th Q) 46 [(0, .ref a0), (1, .int x1), (2, .int x2), (3, .int x3), (4, .int x4)] [.long v26] Th M25 0 0
  exact m_lreturn dX10_followed_46 rfl ⟨rfl, _, rfl, h⟩
set_option maxHeartbeats 4000000 in
set_option maxRecDepth 100000 in
theorem h10_thoughtBefore_53 {d : Nat} {Th : mT} {Q : Int32 → mM → Prop} {a0 : Nat} {x1 : Int32} {s0 : Int32} {M : mM} (h : Th.2.2 a0 = some (.inl 10) ∧ (∃ r2 : Nat, M.2.2 a0 8 = some r2 ∧ (Th.2.2 r2 = some (.inl 5) ∧ (P5_entry d Th r2 x1 2 M (fun (v5 : Int32) (M4 : mM) => Q ((if 0 < (if ((v5 - 1) - s0) < 5 then ((v5 - 1) - s0) else 5) then (if ((v5 - 1) - s0) < 5 then ((v5 - 1) - s0) else 5) else 0)) M4))))) : H10_thoughtBefore_53 (d + 1) Th Q a0 x1 s0 M := by
  show m_W (d + 1) 0 0 yX10_thoughtBefore cX10_thoughtBefore 4 (some .int) (m_qi Th Q) 53 [(0, .ref a0), (1, .int x1)] [.int s0] Th M 0 0
  refine m_istore_n (lv' := [(3, .int s0), (0, .ref a0), (1, .int x1)]) dX10_thoughtBefore_53 rfl (by decide) rfl ?_
  refine m_iconst (v := 0) dX10_thoughtBefore_54 (by decide) ?_
  refine m_iconst (v := 5) dX10_thoughtBefore_55 (by decide) ?_
  refine m_aload_n dX10_thoughtBefore_56 rfl 1 rfl ?_
  obtain ⟨q1, h⟩ := h
  obtain ⟨r2, q3, h⟩ := h
  refine m_getr f_X10_66 rfl dX10_thoughtBefore_57 q1 q3 ?_
  refine m_iload_n dX10_thoughtBefore_60 rfl 2 rfl ?_
  refine m_iconst (v := 2) dX10_thoughtBefore_61 (by decide) ?_
  obtain ⟨q6, h⟩ := h
  refine m_invV (ci := 5) (As := [.int x1, .int 2]) (d' := d) (mc' := 0) (ms' := 0) (rest := [.int 5, .int 0]) i_5_entry v_5_entry t_5_entry l_X10_244 ⟨_, _, rfl⟩ dX10_thoughtBefore_62 rfl rfl q6 (Nat.le_of_ble_eq_true rfl) (Nat.le_refl _) ⟨Nat.le_refl _, Nat.le_refl _⟩ (m_Ci h (fun v5 M4 h => ?_))
  show m_W (d + 1) 0 0 yX10_thoughtBefore cX10_thoughtBefore 4 (some .int) (m_qi Th Q) 65 [(3, .int s0), (0, .ref a0), (1, .int x1)] [.int v5, .int 5, .int 0] Th M4 0 0
  refine m_iconst (v := 1) dX10_thoughtBefore_65 (by decide) ?_
  refine m_isub dX10_thoughtBefore_66 ?_
  refine m_iload_n dX10_thoughtBefore_67 rfl 0 rfl ?_
  refine m_isub dX10_thoughtBefore_68 ?_
  refine m_min l_X10_291 dX10_thoughtBefore_69 (Nat.le_of_ble_eq_true rfl) (Nat.le_add_left _ _) (Nat.le_refl _) (Nat.le_refl _) ?_
  refine m_max l_X10_256 dX10_thoughtBefore_72 (Nat.le_of_ble_eq_true rfl) (Nat.le_add_left _ _) (Nat.le_refl _) (Nat.le_refl _) ?_
  exact m_ireturn dX10_thoughtBefore_75 rfl rfl ⟨rfl, _, rfl, h⟩
set_option maxHeartbeats 4000000 in
set_option maxRecDepth 100000 in
theorem e10_thoughtBefore {d : Nat} {Th : mT} {Q : Int32 → mM → Prop} {a0 : Nat} {x1 : Int32} {M : mM} (h : Th.2.2 a0 = some (.inl 10) ∧ (∃ r2 : Nat, M.2.2 a0 8 = some r2 ∧ (Th.2.2 r2 = some (.inl 5) ∧ (P5_goingBefore d Th r2 x1 M (fun (v5 : Int32) (M4 : mM) => if v5 = (-1) then (H10_thoughtBefore_53 (d + 1) Th Q a0 x1 0 M4) else (∃ r7 : Nat, M4.2.2 a0 8 = some r7 ∧ (Th.2.2 r7 = some (.inl 5) ∧ (P5_entry d Th r7 v5 2 M4 (fun (v10 : Int32) (M9 : mM) => ∃ r12 : Nat, M9.2.2 a0 1 = some r12 ∧ (∃ r14 : Nat, M9.2.2 a0 8 = some r14 ∧ (Th.2.2 r14 = some (.inl 5) ∧ (P5_entry d Th r14 x1 0 M9 (fun (v17 : Int32) (M16 : mM) => ∃ r19 : Nat, M16.2.2 a0 8 = some r19 ∧ (Th.2.2 r19 = some (.inl 5) ∧ (P5_entry d Th r19 v5 1 M16 (fun (v22 : Int32) (M21 : mM) => Th.2.2 r12 = some (.inl 2) ∧ (P2_steps d Th r12 v17 v22 M21 (fun (v25 : Int32) (M24 : mM) => H10_thoughtBefore_53 (d + 1) Th Q a0 x1 ((v10 + v25)) M24)))))))))))))))))) : P10_thoughtBefore (d + 1) Th a0 x1 M Q := by
  refine m_C.of (by decide +kernel) (Nat.le_of_ble_eq_true rfl) ?_
  show m_W (d + 1) 0 0 yX10_thoughtBefore cX10_thoughtBefore 4 (some .int) (m_qi Th Q) 0 [(0, .ref a0), (1, .int x1)] [] Th M 0 0
  refine m_aload_n dX10_thoughtBefore_0 rfl 0 rfl ?_
  obtain ⟨q1, h⟩ := h
  obtain ⟨r2, q3, h⟩ := h
  refine m_getr f_X10_66 rfl dX10_thoughtBefore_1 q1 q3 ?_
  refine m_iload_n dX10_thoughtBefore_4 rfl 1 rfl ?_
  obtain ⟨q6, h⟩ := h
  refine m_invV (ci := 5) (As := [.int x1]) (d' := d) (mc' := 0) (ms' := 0) (rest := []) i_5_goingBefore v_5_goingBefore t_5_goingBefore l_X10_288 ⟨_, _, rfl⟩ dX10_thoughtBefore_5 rfl rfl q6 (Nat.le_of_ble_eq_true rfl) (Nat.le_refl _) ⟨Nat.le_refl _, Nat.le_refl _⟩ (m_Ci h (fun v5 M4 h => ?_))
  show m_W (d + 1) 0 0 yX10_thoughtBefore cX10_thoughtBefore 4 (some .int) (m_qi Th Q) 8 [(0, .ref a0), (1, .int x1)] [.int v5] Th M4 0 0
  refine m_istore_n (lv' := [(2, .int v5), (0, .ref a0), (1, .int x1)]) dX10_thoughtBefore_8 rfl (by decide) rfl ?_
  refine m_iload_n dX10_thoughtBefore_9 rfl 0 rfl ?_
  refine m_iconst (v := (-1)) dX10_thoughtBefore_10 (by decide) ?_
  refine m_icmp_ne (tgt := 18) dX10_thoughtBefore_11 (by decide) (fun c1 => ?_) (fun c1 => ?_)
  · rw [if_neg c1] at h
    refine m_aload_n dX10_thoughtBefore_18 rfl 1 rfl ?_
    obtain ⟨r7, q8, h⟩ := h
    refine m_getr f_X10_66 rfl dX10_thoughtBefore_19 q1 q8 ?_
    refine m_iload_n dX10_thoughtBefore_22 rfl 0 rfl ?_
    refine m_iconst (v := 2) dX10_thoughtBefore_23 (by decide) ?_
    obtain ⟨q11, h⟩ := h
    refine m_invV (ci := 5) (As := [.int v5, .int 2]) (d' := d) (mc' := 0) (ms' := 0) (rest := []) i_5_entry v_5_entry t_5_entry l_X10_244 ⟨_, _, rfl⟩ dX10_thoughtBefore_24 rfl rfl q11 (Nat.le_of_ble_eq_true rfl) (Nat.le_refl _) ⟨Nat.le_refl _, Nat.le_refl _⟩ (m_Ci h (fun v10 M9 h => ?_))
    show m_W (d + 1) 0 0 yX10_thoughtBefore cX10_thoughtBefore 4 (some .int) (m_qi Th Q) 27 [(2, .int v5), (0, .ref a0), (1, .int x1)] [.int v10] Th M9 0 0
    refine m_aload_n dX10_thoughtBefore_27 rfl 1 rfl ?_
    obtain ⟨r12, q13, h⟩ := h
    refine m_getr f_X10_19 rfl dX10_thoughtBefore_28 q1 q13 ?_
    refine m_aload_n dX10_thoughtBefore_31 rfl 1 rfl ?_
    obtain ⟨r14, q15, h⟩ := h
    refine m_getr f_X10_66 rfl dX10_thoughtBefore_32 q1 q15 ?_
    refine m_iload_n dX10_thoughtBefore_35 rfl 2 rfl ?_
    refine m_iconst (v := 0) dX10_thoughtBefore_36 (by decide) ?_
    obtain ⟨q18, h⟩ := h
    refine m_invV (ci := 5) (As := [.int x1, .int 0]) (d' := d) (mc' := 0) (ms' := 0) (rest := [.ref r12, .int v10]) i_5_entry v_5_entry t_5_entry l_X10_244 ⟨_, _, rfl⟩ dX10_thoughtBefore_37 rfl rfl q18 (Nat.le_of_ble_eq_true rfl) (Nat.le_refl _) ⟨Nat.le_refl _, Nat.le_refl _⟩ (m_Ci h (fun v17 M16 h => ?_))
    show m_W (d + 1) 0 0 yX10_thoughtBefore cX10_thoughtBefore 4 (some .int) (m_qi Th Q) 40 [(2, .int v5), (0, .ref a0), (1, .int x1)] [.int v17, .ref r12, .int v10] Th M16 0 0
    refine m_aload_n dX10_thoughtBefore_40 rfl 1 rfl ?_
    obtain ⟨r19, q20, h⟩ := h
    refine m_getr f_X10_66 rfl dX10_thoughtBefore_41 q1 q20 ?_
    refine m_iload_n dX10_thoughtBefore_44 rfl 0 rfl ?_
    refine m_iconst (v := 1) dX10_thoughtBefore_45 (by decide) ?_
    obtain ⟨q23, h⟩ := h
    refine m_invV (ci := 5) (As := [.int v5, .int 1]) (d' := d) (mc' := 0) (ms' := 0) (rest := [.int v17, .ref r12, .int v10]) i_5_entry v_5_entry t_5_entry l_X10_244 ⟨_, _, rfl⟩ dX10_thoughtBefore_46 rfl rfl q23 (Nat.le_of_ble_eq_true rfl) (Nat.le_refl _) ⟨Nat.le_refl _, Nat.le_refl _⟩ (m_Ci h (fun v22 M21 h => ?_))
    show m_W (d + 1) 0 0 yX10_thoughtBefore cX10_thoughtBefore 4 (some .int) (m_qi Th Q) 49 [(2, .int v5), (0, .ref a0), (1, .int x1)] [.int v22, .int v17, .ref r12, .int v10] Th M21 0 0
    obtain ⟨q26, h⟩ := h
    refine m_invV (ci := 2) (As := [.int v17, .int v22]) (d' := d) (mc' := 0) (ms' := 0) (rest := [.int v10]) i_2_steps v_2_steps t_2_steps l_X10_148 ⟨_, _, rfl⟩ dX10_thoughtBefore_49 rfl rfl q26 (Nat.le_of_ble_eq_true rfl) (Nat.le_refl _) ⟨Nat.le_refl _, Nat.le_refl _⟩ (m_Ci h (fun v25 M24 h => ?_))
    show m_W (d + 1) 0 0 yX10_thoughtBefore cX10_thoughtBefore 4 (some .int) (m_qi Th Q) 52 [(2, .int v5), (0, .ref a0), (1, .int x1)] [.int v25, .int v10] Th M24 0 0
    refine m_iadd dX10_thoughtBefore_52 ?_
    exact m_sub [1, 2] rfl h
  · rw [if_pos c1] at h
    refine m_iconst (v := 0) dX10_thoughtBefore_14 (by decide) ?_
    refine m_goto (tgt := 53) dX10_thoughtBefore_15 (by decide) ?_
    exact m_sub [1, 2] rfl h
set_option maxHeartbeats 4000000 in
set_option maxRecDepth 100000 in
theorem e10_within {d : Nat} {Th : mT} {Q : Int32 → mM → Prop} {x0 : Int32} {x1 : Int32} {x2 : Int32} {M : mM} (h : m_bool ((if x0 < x1 then 0 else (if x2 < x0 then 0 else 1))) ∧ Q ((if x0 < x1 then 0 else (if x2 < x0 then 0 else 1))) M) : P10_within (d + 1) Th x0 x1 x2 M Q := by
  refine m_C.of (by decide +kernel) (Nat.le_of_ble_eq_true rfl) ?_
  show m_W (d + 1) 0 0 yX10_within cX10_within 3 (some .boolean) (m_qi Th Q) 0 [(0, .int x0), (1, .int x1), (2, .int x2)] [] Th M 0 0
  refine m_iload_n dX10_within_0 rfl 0 rfl ?_
  refine m_iload_n dX10_within_1 rfl 1 rfl ?_
  have hJ : m_W (d + 1) 0 0 yX10_within cX10_within 3 (some .boolean) (m_qi Th Q) 15 [(0, .int x0), (1, .int x1), (2, .int x2)] [.int ((if x0 < x1 then 0 else (if x2 < x0 then 0 else 1)))] Th M 0 0 := by
    exact m_ireturn dX10_within_15 rfl h.1 ⟨rfl, _, rfl, h.2⟩
  refine m_icmp_lt (tgt := 14) dX10_within_2 (by decide) (fun c1 => ?_) (fun c1 => ?_)
  · simp only [if_pos c1] at hJ
    refine m_iconst (v := 0) dX10_within_14 (by decide) ?_
    exact hJ
  · simp only [if_neg c1] at hJ
    refine m_iload_n dX10_within_5 rfl 0 rfl ?_
    refine m_iload_n dX10_within_6 rfl 2 rfl ?_
    refine m_icmp_gt (tgt := 14) dX10_within_7 (by decide) (fun c2 => ?_) (fun c2 => ?_)
    · simp only [if_pos c2] at hJ
      refine m_iconst (v := 0) dX10_within_14 (by decide) ?_
      exact hJ
    · simp only [if_neg c2] at hJ
      refine m_iconst (v := 1) dX10_within_10 (by decide) ?_
      refine m_goto (tgt := 15) dX10_within_11 (by decide) ?_
      exact hJ
set_option maxHeartbeats 4000000 in
set_option maxRecDepth 100000 in
theorem h10_ofFraction_9 {d : Nat} {Th : mT} {Q : Int64 → mM → Prop} {l0 : Int64} {l2 : Int64} {x4 : Int32} {l5 : Int64} {l7 : Int64} {x9 : Int32} {M : mM} (h : if 100 ≤ x9 then (H10_ofFraction_44 (d + 1) Th Q l0 l2 x4 l5 M) else (if (lg_cmp l7 0) = 0 then (H10_ofFraction_44 (d + 1) Th Q l0 l2 x4 l5 M) else (¬ (l7 = 0) ∧ (∀ lv2 : Int64, lv2 = (l5 - l5 / l7 * l7) → H10_ofFraction_9 (d + 1) Th Q l0 l2 x4 l7 lv2 (x9 + 1) M)))) : H10_ofFraction_9 (d + 1) Th Q l0 l2 x4 l5 l7 x9 M := by
  show m_W (d + 1) 0 0 yX10_ofFraction cX10_ofFraction 12 (some .long) (m_ql Th Q) 9 [(0, .long l0), (2, .long l2), (4, .int x4), (5, .long l5), (7, .long l7), (9, .int x9)] [] Th M 0 0
  refine m_iload dX10_ofFraction_9 5 rfl ?_
  refine m_bipush (v := 100) dX10_ofFraction_11 (by decide) ?_
  refine m_icmp_ge (tgt := 44) dX10_ofFraction_13 (by decide) (fun c1 => ?_) (fun c1 => ?_)
  · rw [if_pos c1] at h
    exact m_sub [0, 1, 2, 3] rfl h
  · rw [if_neg c1] at h
    refine m_lload dX10_ofFraction_16 4 rfl ?_
    refine m_lconst (v := 0) dX10_ofFraction_18 (by decide) ?_
    refine m_lcmp dX10_ofFraction_19 ?_
    refine m_if_eq (tgt := 44) dX10_ofFraction_20 (by decide) (fun c1 => ?_) (fun c1 => ?_)
    · rw [if_pos c1] at h
      exact m_sub [0, 1, 2, 3] rfl h
    · rw [if_neg c1] at h
      refine m_lload dX10_ofFraction_23 3 rfl ?_
      refine m_lload dX10_ofFraction_25 4 rfl ?_
      obtain ⟨q1, h⟩ := h
      refine m_lrem dX10_ofFraction_27 q1 ?_
      obtain ⟨lv2, e_lv2⟩ : ∃ lv2 : Int64, lv2 = (l5 - l5 / l7 * l7) := ⟨_, rfl⟩
      have h := h lv2 e_lv2
      rw [← e_lv2]
      refine m_lstore (lv' := [(10, .long lv2), (0, .long l0), (2, .long l2), (4, .int x4), (5, .long l5), (7, .long l7), (9, .int x9)]) dX10_ofFraction_28 (by decide) rfl ?_
      refine m_lload dX10_ofFraction_30 5 rfl ?_
      refine m_lstore (lv' := [(5, .long l7), (10, .long lv2), (0, .long l0), (2, .long l2), (4, .int x4), (7, .long l7), (9, .int x9)]) dX10_ofFraction_32 (by decide) rfl ?_
      refine m_lload dX10_ofFraction_34 1 rfl ?_
      refine m_lstore (lv' := [(7, .long lv2), (5, .long l7), (10, .long lv2), (0, .long l0), (2, .long l2), (4, .int x4), (9, .int x9)]) dX10_ofFraction_36 (by decide) rfl ?_
      refine m_iinc (v := x9 + 1) (lv' := [(9, .int (x9 + 1)), (7, .long lv2), (5, .long l7), (10, .long lv2), (0, .long l0), (2, .long l2), (4, .int x4)]) dX10_ofFraction_38 6 rfl rfl (by decide) rfl ?_
      refine m_goto (tgt := 9) dX10_ofFraction_41 (by decide) ?_
      exact m_sub [4, 5, 6, 2, 1, 0] rfl h
set_option maxHeartbeats 4000000 in
set_option maxRecDepth 100000 in
theorem h10_ofFraction_44 {d : Nat} {Th : mT} {Q : Int64 → mM → Prop} {l0 : Int64} {l2 : Int64} {x4 : Int32} {l5 : Int64} {M : mM} (h : if (lg_cmp l5 0) = 0 then (Q 0 M) else (if x4 = 0 then (¬ (l5 = 0) ∧ (Q ((l0 / l5)) M)) else (¬ (l5 = 0) ∧ (Q ((l2 / l5)) M)))) : H10_ofFraction_44 (d + 1) Th Q l0 l2 x4 l5 M := by
  show m_W (d + 1) 0 0 yX10_ofFraction cX10_ofFraction 12 (some .long) (m_ql Th Q) 44 [(0, .long l0), (2, .long l2), (4, .int x4), (5, .long l5)] [] Th M 0 0
  refine m_lload dX10_ofFraction_44 3 rfl ?_
  refine m_lconst (v := 0) dX10_ofFraction_46 (by decide) ?_
  refine m_lcmp dX10_ofFraction_47 ?_
  refine m_if_ne (tgt := 53) dX10_ofFraction_48 (by decide) (fun c1 => ?_) (fun c1 => ?_)
  · rw [if_neg c1] at h
    refine m_iload dX10_ofFraction_53 2 rfl ?_
    refine m_if_ne (tgt := 65) dX10_ofFraction_55 (by decide) (fun c1 => ?_) (fun c1 => ?_)
    · rw [if_neg c1] at h
      refine m_lload_n dX10_ofFraction_65 rfl 1 rfl ?_
      refine m_lload dX10_ofFraction_66 3 rfl ?_
      obtain ⟨q2, h⟩ := h
      refine m_ldiv dX10_ofFraction_68 q2 ?_
      exact m_lreturn dX10_ofFraction_69 rfl ⟨rfl, _, rfl, h⟩
    · rw [if_pos c1] at h
      refine m_lload_n dX10_ofFraction_58 rfl 0 rfl ?_
      refine m_lload dX10_ofFraction_59 3 rfl ?_
      obtain ⟨q1, h⟩ := h
      refine m_ldiv dX10_ofFraction_61 q1 ?_
      refine m_goto (tgt := 69) dX10_ofFraction_62 (by decide) ?_
      exact m_lreturn dX10_ofFraction_69 rfl ⟨rfl, _, rfl, h⟩
  · rw [if_pos c1] at h
    refine m_lconst (v := 0) dX10_ofFraction_51 (by decide) ?_
    exact m_lreturn dX10_ofFraction_52 rfl ⟨rfl, _, rfl, h⟩
set_option maxHeartbeats 4000000 in
set_option maxRecDepth 100000 in
theorem e10_ofFraction {d : Nat} {Th : mT} {Q : Int64 → mM → Prop} {l0 : Int64} {l2 : Int64} {x4 : Int32} {M : mM} (h : H10_ofFraction_9 (d + 1) Th Q l0 l2 x4 l2 l0 0 M) : P10_ofFraction (d + 1) Th l0 l2 x4 M Q := by
  refine m_C.of (by decide +kernel) (Nat.le_of_ble_eq_true rfl) ?_
  show m_W (d + 1) 0 0 yX10_ofFraction cX10_ofFraction 12 (some .long) (m_ql Th Q) 0 [(0, .long l0), (2, .long l2), (4, .int x4)] [] Th M 0 0
  refine m_lload_n dX10_ofFraction_0 rfl 1 rfl ?_
  refine m_lstore (lv' := [(5, .long l2), (0, .long l0), (2, .long l2), (4, .int x4)]) dX10_ofFraction_1 (by decide) rfl ?_
  refine m_lload_n dX10_ofFraction_3 rfl 1 rfl ?_
  refine m_lstore (lv' := [(7, .long l0), (5, .long l2), (0, .long l0), (2, .long l2), (4, .int x4)]) dX10_ofFraction_4 (by decide) rfl ?_
  refine m_iconst (v := 0) dX10_ofFraction_6 (by decide) ?_
  refine m_istore (lv' := [(9, .int 0), (7, .long l0), (5, .long l2), (0, .long l0), (2, .long l2), (4, .int x4)]) dX10_ofFraction_7 (by decide) rfl ?_
  exact m_sub [3, 4, 5, 2, 1, 0] rfl h
