/-! ===== THE START ===== -/
def lw_let : Nat → Int32 := fun k => match k with | 0 => 99 | 1 => 98 | 2 => 113 | 3 => 104 | 4 => 114 | 5 => 116 | 6 => 110 | _ => 102
def lw_Th (n0 la b L : Nat) : mT := (n0, la, fun q => if q = b then some (.inr (.int, true, L)) else if q = la then some (.inr (.char, true, 8)) else none)
def lw_M (la b : Nat) (xs : Nat → Int32) : mM := (fun q k => if q = b then xs k else if q = la then lw_let k else 0, fun _ _ => 0, fun _ _ => none)
/-- behind both constructors -/
def lw_Th1 (n0 la b L : Nat) : mT := m_ap (lw_Th n0 la b L) ([.inl 10] ++ ks_10 ++ [.inl 11] ++ ks_11)
def lw_M1 (n0 la b : Nat) (xs : Nat → Int32) : mM := mk_11 (mk_10 (lw_M la b xs) n0) (n0 + 113)
set_option maxHeartbeats 4000000 in
set_option maxRecDepth 100000 in
theorem lw_enter {n0 la b L : Nat} {xs : Nat → Int32} (h1 : b < n0) (h2 : la < n0) (h3 : la ≠ b) (hloop : HL_law_18 (lw_Th1 n0 la b L) b n0 (n0 + 113) 0 (lw_M1 n0 la b xs)) : m_W 2048 600000 7302250 yL_law cL_law 4 (some .boolean) QL 0 [(0, .ref b)] [] (lw_Th n0 la b L) (lw_M la b xs) 0 0 := by
  have hz : m_Zr (lw_Th n0 la b L) (lw_M la b xs) := fun q k hq => by
    have hq' : n0 ≤ q := hq
    refine ⟨?_, rfl, rfl⟩
    show (if q = b then xs k else if q = la then lw_let k else 0) = 0
    rw [if_neg (by omega), if_neg (by omega)]
  have hlet : (lw_Th n0 la b L).2.2 (lw_Th n0 la b L).2.1 = some (.inr (.char, true, 8)) ∧ (lw_Th n0 la b L).2.1 < (lw_Th n0 la b L).1 := by
    refine ⟨?_, h2⟩
    show (if la = b then (some (.inr (.int, true, L)) : Option mK) else if la = la then some (.inr (.char, true, 8)) else none) = _
    rw [if_neg h3, if_pos rfl]
  refine m_new (c := 10) rfl u_X10 tyX10_ok zt_X10 cl_L_7 in_X10 ini_X10 (Nat.le_of_ble_eq_true rfl) (Nat.le_of_ble_eq_true rfl) hz dL_law_0 ?_
  have hz1 := hz.al (t := .inl 10)
  refine m_dup dL_law_3 rfl ?_
  refine m_invI (As := []) (d' := 2047) (mc' := 112) (ms' := 96469) (rest := [.ref n0]) i_10_init v_10_init rfl l_L_9 dL_law_4 rfl rfl (Nat.le_of_ble_eq_true rfl) (Nat.le_refl _) ⟨Nat.le_of_ble_eq_true rfl, Nat.le_of_ble_eq_true rfl⟩ (c_10_init (d := 2044) (Th := m_al (lw_Th n0 la b L) (.inl 10)) (a := n0) rfl (if_pos rfl) ?_ hz1 (fun hzz => ?_))
  · refine ⟨(if_neg (by show la ≠ n0; omega)).trans hlet.1, Nat.lt_succ_of_lt h2⟩
  have e1 : m_ap (m_al (lw_Th n0 la b L) (.inl 10)) ks_10 = m_ap (lw_Th n0 la b L) ([.inl 10] ++ ks_10) := by
    rw [← m_ap_ap, ← m_ap_nil (lw_Th n0 la b L), m_ap_al, m_ap_nil]
    rfl
  rw [e1] at hzz ⊢
  show m_W 2048 600000 7302250 yL_law cL_law 4 (some .boolean) QL 7 [(0, .ref b)] [.ref n0] (m_ap (lw_Th n0 la b L) ([.inl 10] ++ ks_10)) (mk_10 (lw_M la b xs) n0) 113 96479
  refine m_astore_n (lv' := [(1, .ref n0), (0, .ref b)]) dL_law_7 rfl (by decide) rfl ?_
  refine m_new (c := 11) rfl u_X11 tyX11_ok zt_X11 cl_L_10 in_X11 ini_X11 (Nat.le_of_ble_eq_true rfl) (Nat.le_of_ble_eq_true rfl) hzz dL_law_8 ?_
  have hz2 := hzz.al (t := .inl 11)
  have e2 : (m_ap (lw_Th n0 la b L) ([.inl 10] ++ ks_10)).1 = n0 + 113 := rfl
  rw [e2, m_ap_al]
  rw [m_ap_al] at hz2
  refine m_dup dL_law_11 rfl ?_
  refine m_invI (As := []) (d' := 2047) (mc' := 39) (ms' := 835157) (rest := [.ref (n0 + 113)]) i_11_init v_11_init rfl l_L_12 dL_law_12 rfl rfl (Nat.le_of_ble_eq_true rfl) (Nat.le_refl _) ⟨Nat.le_of_ble_eq_true rfl, Nat.le_of_ble_eq_true rfl⟩ (c_11_init (d := 2046) (a := n0 + 113) rfl (m_ap_at 113 rfl rfl) hz2 (fun hzz2 => ?_))
  rw [m_ap_ap]
  show m_W 2048 600000 7302250 yL_law cL_law 4 (some .boolean) QL 15 [(1, .ref n0), (0, .ref b)] [.ref (n0 + 113)] (lw_Th1 n0 la b L) (lw_M1 n0 la b xs) 153 931703
  refine m_astore_n (lv' := [(2, .ref (n0 + 113)), (1, .ref n0), (0, .ref b)]) dL_law_15 rfl (by decide) rfl ?_
  refine m_iconst (v := 0) dL_law_16 (by decide) ?_
  refine m_istore_n (lv' := [(3, .int 0), (2, .ref (n0 + 113)), (1, .ref n0), (0, .ref b)]) dL_law_17 rfl (by decide) rfl ?_
  exact m_sub [3, 2, 1, 0] rfl hloop
theorem lw_rm : m_rm 2048 600000 7302250 = room_1 := rfl
set_option maxHeartbeats 4000000 in
set_option maxRecDepth 100000 in
/-- the walk of the law, if its loop goes from every start -/
theorem lw_whole {p : Program} {e : Env} {s : State} {m : MethodId} {below : List Frame} {meth : Method} {c : Code} (l : Launch) {b L : Nat} {xs : Nat → Int32} (hL : L ≤ 4096) (C0 : lw_At p s m meth c b L xs) (hloop : ∀ n0 la : Nat, b < n0 → la < n0 → la ≠ b → HL_law_18 (lw_Th1 n0 la b L) b n0 (n0 + 113) 0 (lw_M1 n0 la b xs)) : W p l e room_1 s m #[Value.ref b] below meth c s.heap [] 0 0 (lw_Z below #[Value.ref b] s) (entryFrame m ([Value.ref b] : List Value).toArray 4) := by
  obtain ⟨hx, hb, hr, hml, hown, hts, hX, hbl, hlocks, hgv⟩ := id C0
  have hs := flat_of_before _ hgv
  have hA : ∀ a : Nat, a < s.heap.size → ¬ (fun q => s.heap.size ≤ q) a := fun a h => Nat.not_le.mpr h
  obtain ⟨la, hla, hT⟩ := va_Tof (args := #[Value.ref b]) (s := s) (tm := .static "RunHunt$Law" "LETTERS" "[C") (ty := .char) (N := 8) (f := fun j => .int (lw_let j)) (by decide) (hs _ (by decide +kernel)) (va_eqt (z := 8) (hs _ (by decide +kernel))) (fun j hj => by
    match j, hj with
    | 0, _ => exact va_eqt (z := 99) (hs _ (by decide +kernel))
    | 1, _ => exact va_eqt (z := 98) (hs _ (by decide +kernel))
    | 2, _ => exact va_eqt (z := 113) (hs _ (by decide +kernel))
    | 3, _ => exact va_eqt (z := 104) (hs _ (by decide +kernel))
    | 4, _ => exact va_eqt (z := 114) (hs _ (by decide +kernel))
    | 5, _ => exact va_eqt (z := 116) (hs _ (by decide +kernel))
    | 6, _ => exact va_eqt (z := 110) (hs _ (by decide +kernel))
    | 7, _ => exact va_eqt (z := 102) (hs _ (by decide +kernel))) hA
  have hZ : va_Z RX4 "LETTERS" "[C" (.ref la) (fun q => s.heap.size ≤ q) s s.heap := va_Zref (hts _ (List.mem_of_getElem? (i := 148) (by decide +kernel))) (hts _ (List.mem_of_getElem? (i := 102) (by decide +kernel))) hla hA
  obtain ⟨c0, iS0, hKn0⟩ := u_known (C := RX0) (T := TX0) (N := 2) (n := 2) hts (fun w hw => (List.mem_filter.mp (u_X0 w hw)).1) (hts _ (List.mem_filter.mp in_X0).1)
  obtain ⟨c1, iS1, hKn1⟩ := u_known (C := RX1) (T := TX1) (N := 9) (n := 9) hts (fun w hw => (List.mem_filter.mp (u_X1 w hw)).1) (hts _ (List.mem_filter.mp in_X1).1)
  obtain ⟨c2, iS2, hKn2⟩ := u_known (C := RX2) (T := TX2) (N := 13) (n := 13) hts (fun w hw => (List.mem_filter.mp (u_X2 w hw)).1) (hts _ (List.mem_filter.mp in_X2).1)
  obtain ⟨c3, iS3, hKn3⟩ := u_known (C := RX3) (T := TX3) (N := 10) (n := 10) hts (fun w hw => (List.mem_filter.mp (u_X3 w hw)).1) (hts _ (List.mem_filter.mp in_X3).1)
  obtain ⟨c4, iS4, hKn4⟩ := u_known (C := RX4) (T := TX4) (N := 11) (n := 11) hts (fun w hw => (List.mem_filter.mp (u_X4 w hw)).1) (hts _ (List.mem_filter.mp in_X4).1)
  obtain ⟨c5, iS5, hKn5⟩ := u_known (C := RX5) (T := TX5) (N := 2) (n := 2) hts (fun w hw => (List.mem_filter.mp (u_X5 w hw)).1) (hts _ (List.mem_filter.mp in_X5).1)
  obtain ⟨c6, iS6, hKn6⟩ := u_known (C := RX6) (T := TX6) (N := 7) (n := 7) hts (fun w hw => (List.mem_filter.mp (u_X6 w hw)).1) (hts _ (List.mem_filter.mp in_X6).1)
  obtain ⟨c7, iS7, hKn7⟩ := u_known (C := RX7) (T := TX7) (N := 5) (n := 5) hts (fun w hw => (List.mem_filter.mp (u_X7 w hw)).1) (hts _ (List.mem_filter.mp in_X7).1)
  obtain ⟨c8, iS8, hKn8⟩ := u_known (C := RX8) (T := TX8) (N := 4) (n := 4) hts (fun w hw => (List.mem_filter.mp (u_X8 w hw)).1) (hts _ (List.mem_filter.mp in_X8).1)
  obtain ⟨c9, iS9, hKn9⟩ := u_known (C := RX9) (T := TX9) (N := 2) (n := 2) hts (fun w hw => (List.mem_filter.mp (u_X9 w hw)).1) (hts _ (List.mem_filter.mp in_X9).1)
  obtain ⟨c10, iS10, hKn10⟩ := u_known (C := RX10) (T := TX10) (N := 10) (n := 10) hts (fun w hw => (List.mem_filter.mp (u_X10 w hw)).1) (hts _ (List.mem_filter.mp in_X10).1)
  obtain ⟨c11, iS11, hKn11⟩ := u_known (C := RX11) (T := TX11) (N := 67) (n := 67) hts (fun w hw => (List.mem_filter.mp (u_X11 w hw)).1) (hts _ (List.mem_filter.mp in_X11).1)
  obtain ⟨dC, dI, hKc⟩ : ∃ (dC : Nat → ClassId) (dI : Nat → Nat → Nat), ∀ (k : Nat) (q : vw_C), vwCl[k]? = some q → u_Kn s q.1 q.2.1 q.2.2 (dC k) (dI k) := by
    refine ⟨fun k => if k = 0 then c0 else if k = 1 then c1 else if k = 2 then c2 else if k = 3 then c3 else if k = 4 then c4 else if k = 5 then c5 else if k = 6 then c6 else if k = 7 then c7 else if k = 8 then c8 else if k = 9 then c9 else if k = 10 then c10 else c11, fun k => if k = 0 then iS0 else if k = 1 then iS1 else if k = 2 then iS2 else if k = 3 then iS3 else if k = 4 then iS4 else if k = 5 then iS5 else if k = 6 then iS6 else if k = 7 then iS7 else if k = 8 then iS8 else if k = 9 then iS9 else if k = 10 then iS10 else iS11, ?_⟩
    intro k q hq
    match k, hq with
    | 0, hq => cases hq; exact hKn0
    | 1, hq => cases hq; exact hKn1
    | 2, hq => cases hq; exact hKn2
    | 3, hq => cases hq; exact hKn3
    | 4, hq => cases hq; exact hKn4
    | 5, hq => cases hq; exact hKn5
    | 6, hq => cases hq; exact hKn6
    | 7, hq => cases hq; exact hKn7
    | 8, hq => cases hq; exact hKn8
    | 9, hq => cases hq; exact hKn9
    | 10, hq => cases hq; exact hKn10
    | 11, hq => cases hq; exact hKn11
    | k + 12, hq => simp [vwCl] at hq
  have hKn : m_Kn (dC, dI) s := ⟨⟨hKc, fun k q h => by simp at h⟩, va_AO.of (hts _ (List.mem_of_getElem? (i := 185) (by decide +kernel))), (show (Cond.arrayOver (.array .long)).before #[Value.ref b] s = true from hts _ (List.mem_of_getElem? (i := 270) (by decide +kernel)))⟩
  obtain ⟨cel, t1, t2, t3, t4, t5, t6, t7⟩ := hT
  obtain ⟨scr, x1, x2, x3, x4, x5⟩ := hX
  have hlt : la < s.heap.size := (Array.getElem?_eq_some_iff.mp t1).1
  have hne : la ≠ b := by
    rintro rfl
    have hc : cel = scr := Option.some.inj (t1.symm.trans x1)
    subst hc
    obtain ⟨-, k1, a1, a2, a3⟩ := t2
    obtain ⟨-, k2, b1, b2, b3⟩ := x2
    have hk : k1 = k2 := Option.some.inj (a1.symm.trans b1)
    subst hk
    have := a3.symm.trans b3
    cases this
  have hR : m_R (dC, dI) s s.heap.size (lw_Th s.heap.size la b L) (lw_M la b xs) s.heap := by
    refine ⟨rfl, Nat.le_refl _, hZ, fun q t ht => ?_⟩
    by_cases e : q = b
    · subst e
      have h0 : (lw_Th s.heap.size la q L).2.2 q = some (.inr (.int, true, L)) := if_pos rfl
      cases h0.symm.trans ht
      exact ⟨hbl, scr, x1, x2, x3, Nat.le_of_eq x4.symm, by (rw [x4]; try rfl), fun j hj => by
        rw [x5 j hj]
        show _ = some (Value.int (if q = q then xs j else _))
        rw [if_pos rfl]⟩
    · by_cases e2 : q = la
      · subst e2
        have h0 : (lw_Th s.heap.size q b L).2.2 q = some (.inr (.char, true, 8)) := (if_neg e).trans (if_pos rfl)
        cases h0.symm.trans ht
        exact ⟨hlt, cel, t1, t2, t3, t4, t5, fun j hj => by
          rw [t6 j hj]
          show _ = some (Value.int (if q = b then xs j else if q = q then lw_let j else 0))
          rw [if_neg e, if_pos rfl]⟩
      · have h0 : (lw_Th s.heap.size la b L).2.2 q = none := (if_neg e).trans (if_neg e2)
        cases h0.symm.trans ht
  have hl := lv_entry ([.ref b]) (n := 4) (Nat.le_of_ble_eq_true rfl)
  have K : W p l e (m_rm 2048 600000 7302250) s m #[Value.ref b] below meth c s.heap [] 0 0 (MQ below (m_Qc (dC, dI) s.heap.size QL) #[Value.ref b] s 600000 7302250 (fun q => s.heap.size ≤ q)) (entryFrame m ([Value.ref b] : List Value).toArray 4) := by
    rw [lg_entry_eq]
    exact lw_enter (xs := xs) hbl hlt hne (hloop s.heap.size la hbl hlt hne) p l e s m #[Value.ref b] below meth c (dC, dI) s.heap.size s.heap [] _ ⟨hx, hb, hr, hml, hown, fun w hw => hts w (List.mem_filter.mp hw).1, hlocks, fun h => absurd h (by decide), hKn⟩ (Nat.le_refl _) hR va_S.rf hl
  intro T hT0 X
  obtain ⟨t, a1, o, b1, b2, ⟨⟨v, Th', M', q1, q2, -⟩, -⟩, Lc, f1, f2⟩ := K T hT0 X
  have q3 : v = some (.int 1) := q2
  subst q3
  subst q1
  exact ⟨t, a1, _, b1, b2, rfl, f1.1, f1.2.1, f1.2.2.weaken (fun y hy hlt2 => absurd hlt2 (Nat.not_lt.mpr (f2 y hy))) (Nat.le_refl _) (Nat.le_refl _)⟩
