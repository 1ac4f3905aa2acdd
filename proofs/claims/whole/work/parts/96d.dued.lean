/-! ===== BEST in the class: the value, whole; the choice; how long it waits ===== -/
section UE
variable {d : Nat} {Th : mT} {A : Nat → Nat → Int32} {B : Nat → Nat → Option Nat} {V0 : Nat → Nat → Int64} {n : Nat} {s : mS} {x y nv : Nat}
theorem p64_2 (l : Nat) (h : l ≤ 10) : (2 : Int) ^ (6 * l) = 64 ^ l := by
  have : ∀ k : Fin 11, (2 : Int) ^ (6 * k.val) = 64 ^ k.val := by decide +kernel
  exact this ⟨l, by omega⟩
theorem jL_sh6 (z : Int) (l : Nat) (h : l ≤ 10) : jL z <<< (((6 * jI (l : Int)) : Int32).toInt64 &&& 63) = jL (z * 64 ^ l) := by
  rw [kI6, jI_mul, jL_shl _ (by omega) (by omega), jL_mul, show ((6 : Int) * (l : Int)).toNat = 6 * l by omega, p64_2 l h]
theorem uV_box {l zy : Nat} : uV s x y nv l 105 zy = if zy = 105 then 64 ^ l else 2 * 64 ^ l := by
  cases l with
  | zero => rw [uV, if_pos rfl]; rfl
  | succ l => rw [uV, if_pos rfl]
theorem uV_boy {l zx : Nat} (h : zx ≠ 105) : uV s x y nv l zx 105 = 0 := by
  cases l with
  | zero => rw [uV, if_neg h, if_pos rfl]
  | succ l => rw [uV, if_neg h, if_pos rfl]
theorem uV_0 {zx zy : Nat} (h : zx ≠ 105) (h2 : zy ≠ 105) : uV s x y nv 0 zx zy = 1 := by
  rw [uV, if_neg h, if_neg h2]
theorem u1_box {Q : Int64 → mM → Prop} {V : Nat → Nat → Int64} {l zx zy : Nat} (hl : l ≤ 10) (hx : zx ≤ 105) (hy : zy ≤ 105) (hb : zx = 105 ∨ zy = 105 ∨ l = 0) (k : Q (jL (uV s x y nv l zx zy)) (A, V, B)) : P1_value (d + 1) Th (n + 94) (jI l) (jI zx) (jI zy) (A, V, B) Q := by
  refine e1_value ?_
  simp only [jq105 (z := (zx : Int)) (rI_nat (by omega)), jq105 (z := (zy : Int)) (rI_nat (by omega)), jg0 (z := (l : Int)) (rI_nat (by omega))]
  by_cases cx : zx = 105
  · subst cx
    rw [uV_box] at k
    rw [if_pos (show ((105 : Nat) : Int) = 105 from rfl)]
    by_cases cy : zy = 105
    · rw [if_pos cy] at k
      rw [if_pos (by omega), show (1 : Int64) = jL 1 from rfl, jL_sh6 _ _ hl, Int.one_mul]
      exact k
    · rw [if_neg cy] at k
      rw [if_neg (by omega), show (2 : Int64) = jL 2 from rfl, jL_sh6 _ _ hl]
      exact k
  rw [if_neg (by omega)]
  by_cases cy : zy = 105
  · subst cy
    rw [uV_boy cx] at k
    rw [if_pos (show ((105 : Nat) : Int) = 105 from rfl)]
    refine h1_value_35 ?_
    rw [if_pos (by rfl)]
    exact k
  rw [if_neg (by omega)]
  have l0 : l = 0 := by omega
  subst l0
  rw [uV_0 cx cy] at k
  rw [if_neg (by omega)]
  refine h1_value_35 ?_
  rw [if_neg (by rw [jq105 (rI_nat (by omega))]; omega)]
  exact k
theorem uVal_put {V : Nat → Nat → Int64} {l zx zy : Nat} (hR5 : uR s ≤ 5) (hV : uVal n s x y nv V0 V) (hx : zx < 21 * uR s) (hy : zy < 21 * uR s) (h17 : zy % 21 ≤ 17) : uVal n s x y nv V0 (m_u V (n + 95) (uIx (uR s) l zx zy) (jL (uV s x y nv (l + 1) zx zy))) := by
  refine ⟨fun q k hq => ?_, fun l' zx' zy' hl' hx' hy' h17' => ?_⟩
  · rw [m_u_ne hq]; exact hV.1 q k hq
  · by_cases c : uIx (uR s) l' zx' zy' = uIx (uR s) l zx zy
    · obtain ⟨c1, c2, c3⟩ := uIx_inj hR5 hx' hy' h17' hx hy h17 c
      subst c1 c2 c3
      exact Or.inr m_u_eq
    · rw [m_u_nk c]
      exact hV.2 l' zx' zy' hl' hx' hy' h17'
set_option maxHeartbeats 2000000 in
theorem u1_value (h : uOk Th n s x y nv A B) : ∀ l, l ≤ 10 → ∀ D, 5 * l + 2 ≤ D → uHV Th n s x y nv A B V0 l D := by
  obtain ⟨e0, eR, eD, eD1, eD4⟩ := uOk_R h
  obtain ⟨hT, hG, hxy, ⟨b0, b1, b2, b3⟩, ⟨a0, a2, a3, a6, a8⟩, hS⟩ := id h
  intro l
  induction l with
  | zero =>
    intro hl D hD Q V zx zy hx hy hV K
    obtain ⟨d, rfl⟩ : ∃ d, D = d + 1 := ⟨D - 1, by omega⟩
    exact u1_box (d := d) (by omega) (by unfold uX at hx; omega) (by unfold uY at hy; omega) (Or.inr (Or.inr rfl)) (K V hV)
  | succ l ih =>
    intro hl D hD Q V zx zy hx hy hV K
    obtain ⟨d1, rfl⟩ : ∃ d1, D = d1 + 6 + 1 := ⟨D - 7, by omega⟩
    have ih := fun D' (h' : d1 + 2 ≤ D') => ih (by omega) D' (by omega)
    by_cases hbx : zx = 105 ∨ zy = 105
    · exact u1_box (d := d1 + 6) hl (by unfold uX at hx; omega) (by unfold uY at hy; omega) (by omega) (K V hV)
    have hx' : zx < 21 * uR s := by unfold uX at hx; omega
    have hy' : zy < 21 * uR s := by unfold uY at hy; omega
    have h17 : zy % 21 ≤ 17 := by unfold uY at hy; omega
    have hix := uIx_b eR (show l < 10 by omega) hx' hy' h17
    refine e1_value ?_
    rw [if_neg (by rw [jq105 (rI_nat (by omega))]; omega), if_neg (by rw [jq105 (rI_nat (by omega))]; omega), if_pos (by rw [jg0 (rI_nat (by omega))]; omega)]
    refine ⟨hT 94 _ rfl, n + 3, b0, hT 3 _ rfl, ?_⟩
    intro xv5 h5 xv6 h6
    have h5' : xv5 = (jI ((l + 1 : Nat) : Int) - 1) * A (n + 3) 0 * 21 + jI (zx : Int) := h5
    have h6' : xv6 = (xv5 * A (n + 3) 0 + jI (zy : Int) / 21) * 18 + (jI (zy : Int) - jI (zy : Int) / 21 * 21) := h6
    rw [jI_p, a0, e0, show (21 : Int32) = jI 21 from rfl, jI_mul, jI_mul, jI_add] at h5'
    rw [h5', jI_mod21 (by omega), jI_div21 (by omega), a0, e0, kI18, jI_mul, jI_add, jI_mul, jI_add] at h6'
    have eix : xv6 = jI ((uIx (uR s) l zx zy : Nat) : Int) := by
      rw [h6']
      unfold uIx
      congr 1
    clear h5 h5' h6 h6'
    subst eix
    have rix : rI ((uIx (uR s) l zx zy : Nat) : Int) := rI_nat (by omega)
    rw [if_neg (by rw [jl0 rix]; omega)]
    refine ⟨n + 95, b3, .long, false, 94500, hT 95 _ rfl, ?_⟩
    rw [if_pos (by rw [jI_nI, jIlt rix (rI_nat (by omega))]; omega)]
    refine ⟨m_ok_jI (hT 95 _ rfl) (by omega) (by omega) (by omega), ?_⟩
    rw [jInatN _ (by omega)]
    show (if lg_cmp (V (n + 95) (uIx (uR s) l zx zy)) (-1) = 0 then _ else Q (V (n + 95) (uIx (uR s) l zx zy)) (A, V, B))
    simp only [lc_eq]
    by_cases hm : V (n + 95) (uIx (uR s) l zx zy) = -1
    rotate_left
    · rw [if_neg hm]
      rcases hV.2 l zx zy (by omega) hx' hy' h17 with q | q
      · exact absurd q hm
      · rw [q]; exact K V hV
    rw [if_pos hm]
    have fb := fun k => uDo_r s x y nv l k zx zy (by omega)
    have eV : uV s x y nv (l + 1) zx zy = if 7 ≤ zx % 21 then uDo s x y (fun a b => uV s x y nv l a b) 5 zx zy else uMx (fun k => uDo s x y (fun a b => uV s x y nv l a b) k zx zy) (fun k => uCan s nv k zx zy) 5 := by
      rw [uV, if_neg (by omega), if_neg (by omega)]
    generalize hf : (fun k => uDo s x y (fun a b => uV s x y nv l a b) k zx zy) = f at eV
    have fb' : ∀ k, 0 ≤ f k ∧ f k ≤ 2305843009213693952 := fun k => by rw [← hf]; exact fb k
    have ef : ∀ k, uDo s x y (fun a b => uV s x y nv l a b) k zx zy = f k := fun k => by rw [← hf]
    rw [ef] at eV
    generalize hc : (fun k => uCan s nv k zx zy) = cc at eV
    have ec : ∀ k, uCan s nv k zx zy = cc k := fun k => by rw [← hc]
    -- the greatest so far
    obtain ⟨mo, hmo⟩ : ∃ mo : Nat → Int, mo = fun k => if 7 ≤ zx % 21 then f 5 else if uMx f cc k < 0 then 0 else uMx f cc k := ⟨_, rfl⟩
    have mb : ∀ k, 0 ≤ mo k ∧ mo k ≤ 2305843009213693952 := fun k => by
      have := uMx_b (c := cc) (by omega) fb' k
      have := fb' 5
      rw [hmo]
      show 0 ≤ (if 7 ≤ zx % 21 then f 5 else if uMx f cc k < 0 then 0 else uMx f cc k) ∧ (if 7 ≤ zx % 21 then f 5 else if uMx f cc k < 0 then 0 else uMx f cc k) ≤ _
      split
      · omega
      · split <;> omega
    have m5 : mo 5 = uV s x y nv (l + 1) zx zy := by
      rw [eV, hmo]
      show (if 7 ≤ zx % 21 then f 5 else if uMx f cc 5 < 0 then 0 else uMx f cc 5) = _
      split
      · rfl
      · obtain ⟨k, hk, hck⟩ := uCan_some s nv zx zy
        have := uMx_pos (c := cc) (fun k => (fb' k).1) hk (by rw [← ec]; exact hck)
        rw [if_neg (by omega)]
    have loop : ∀ u k (V : Nat → Nat → Int64), k + u = 5 → uVal n s x y nv V0 V → H1_value_135 (d1 + 7) Th Q (n + 94) (jI ((l + 1 : Nat) : Int)) (jI (zx : Int)) (jI (zy : Int)) (jI ((uIx (uR s) l zx zy : Nat) : Int)) (jL (mo k)) (jI (k : Int)) (A, V, B) := by
      intro u
      induction u with
      | zero =>
        intro k V hk hV
        have k5 : k = 5 := by omega
        subst k5
        refine h1_value_135 ?_
        rw [if_pos (by decide), m5]
        refine ⟨hT 94 _ rfl, n + 95, b3, m_okw_jI (hT 95 _ rfl) (by omega) (by omega) (by omega), ?_⟩
        rw [jInatN _ (by omega)]
        exact K _ (uVal_put eR hV hx' hy' h17)
      | succ u ihu =>
        intro k V hk hV
        refine h1_value_135 ?_
        rw [if_neg (by rw [jg4 (rI_nat (by omega))]; omega)]
        refine ⟨hT 94 _ rfl, ?_⟩
        refine u1_can (d := d1 + 4) h hx' (by omega) (by omega) ?_
        rw [ec, jI_s]
        by_cases c6 : zx % 21 ≤ 6
        rotate_left
        · rw [decide_eq_false c6, Bool.false_and, if_pos jBf]
          have : mo k = mo (k + 1) := by
            rw [hmo]
            show (if 7 ≤ zx % 21 then _ else _) = (if 7 ≤ zx % 21 then _ else _)
            rw [if_pos (by omega), if_pos (by omega)]
          rw [this]
          exact ihu (k + 1) V (by omega) hV
        rw [decide_eq_true c6, Bool.true_and]
        have mk : ∀ j, mo j = if uMx f cc j < 0 then 0 else uMx f cc j := fun j => by
          rw [hmo]
          show (if 7 ≤ zx % 21 then _ else _) = _
          rw [if_neg (by omega)]
        cases hck : cc k
        · rw [if_pos jBf]
          have : mo k = mo (k + 1) := by
            rw [mk, mk, uMx, if_neg (show ¬ (cc k = true ∧ uMx f cc k < f k) from fun q => absurd q.1 (by rw [hck]; decide))]
          rw [this]
          exact ihu (k + 1) V (by omega) hV
        · rw [if_neg (by decide)]
          have edk : jI (k : Int) = jI (uDk k) := by unfold uDk; rw [if_neg (by omega)]
          rw [edk]
          refine u1_doing (d := d1) h ih hV hx' hy' h17 (Or.inl ⟨by omega, c6, fun k0 => ?_⟩) (fun V' q => ?_)
          · have : uCan s nv k zx zy = true := by rw [ec]; exact hck
            subst k0
            unfold uCan at this
            rw [if_pos rfl] at this
            have h6' : zx % 21 ≠ 6 := by
              intro z
              rw [decide_eq_false (by omega), Bool.and_false] at this
              exact absurd this (by decide)
            omega
          · intro lv10 h10
            have := fb' k
            have := mb k
            rw [ef] at h10
            simp only [jL_lt (a := f k) (b := mo k) (by omega) (by omega) (by omega) (by omega)] at h10
            have e : lv10 = jL (mo (k + 1)) := by
              rw [h10, mk (k + 1), uMx]
              have mkk := mk k
              by_cases q : uMx f cc k < f k
              · rw [if_pos (show cc k = true ∧ uMx f cc k < f k from ⟨hck, q⟩)]
                rw [if_neg (show ¬ f k < mo k by rw [mkk]; split <;> omega), if_neg (by omega)]
              · rw [if_neg (show ¬ (cc k = true ∧ uMx f cc k < f k) from fun z => q z.2)]
                rw [if_neg (show ¬ uMx f cc k < 0 by omega)] at mkk ⊢
                by_cases q2 : f k < mo k
                · rw [if_pos q2, mkk]
                · rw [if_neg q2]; congr 1; omega
            rw [e]
            exact ihu (k + 1) V' (by omega) q
    refine h1_value_135 ?_
    rw [if_neg (by decide)]
    refine ⟨hT 94 _ rfl, ?_⟩
    refine u1_canN (d := d1 + 4) (by omega) ?_
    rw [show (-1 : Int32) + 1 = jI ((0 : Nat) : Int) from rfl]
    by_cases c7 : 7 ≤ zx % 21
    · rw [decide_eq_true c7, if_neg (by decide)]
      rw [show (-1 : Int32) = jI (uDk 5) from rfl]
      refine u1_doing (d := d1) (k := 5) h ih hV hx' hy' h17 (Or.inr ⟨rfl, c7⟩) (fun V' q => ?_)
      intro lv10 h10
      have := fb' 5
      rw [ef, jLz] at h10
      simp only [jL_lt (a := f 5) (b := 0) (by omega) (by omega) (by omega) (by omega)] at h10
      rw [if_neg (by omega)] at h10
      have e : lv10 = jL (mo 0) := by
        rw [h10, hmo]
        show _ = jL (if 7 ≤ zx % 21 then _ else _)
        rw [if_pos c7]
      rw [e]
      exact loop 5 0 V' rfl q
    · rw [decide_eq_false c7, if_pos jBf]
      have e : (0 : Int64) = jL (mo 0) := by
        rw [hmo]
        show _ = jL (if 7 ≤ zx % 21 then _ else if (-1 : Int) < 0 then 0 else _)
        rw [if_neg c7, if_pos (by decide)]
        rfl
      rw [e]
      exact loop 5 0 V rfl hV
set_option maxHeartbeats 1000000 in
theorem u1_choice {Q : Int32 → mM → Prop} {V : Nat → Nat → Int64} {l zx zy d1 : Nat} (h : uOk Th n s x y nv A B) (hl : l < 10) (hd : 5 * l ≤ d1) (hV : uVal n s x y nv V0 V) (hx : zx < 21 * uR s) (hy : zy < 21 * uR s) (h17 : zy % 21 ≤ 17)
    (K : ∀ V', uVal n s x y nv V0 V' → Q (jI (uAct s x y nv l zx zy)) (A, V', B)) : P1_choice (d1 + 7) Th (n + 94) (jI ((l + 1 : Nat) : Int)) (jI zx) (jI zy) (A, V, B) Q := by
  obtain ⟨e0, eR, eD, eD1, eD4⟩ := uOk_R h
  have hT := h.1
  have ih := fun D' (h' : d1 + 2 ≤ D') => u1_value (V0 := V0) h l (by omega) D' (by omega)
  have fb := fun k => uDo_r s x y nv l k zx zy (by omega)
  unfold uAct at K
  generalize hf : (fun k => uDo s x y (fun a b => uV s x y nv l a b) k zx zy) = f at K
  have fb' : ∀ k, 0 ≤ f k ∧ f k ≤ 2305843009213693952 := fun k => by rw [← hf]; exact fb k
  have ef : ∀ k, uDo s x y (fun a b => uV s x y nv l a b) k zx zy = f k := fun k => by rw [← hf]
  generalize hc : (fun k => uCan s nv k zx zy) = cc at K
  have ec : ∀ k, uCan s nv k zx zy = cc k := fun k => by rw [← hc]
  obtain ⟨mo, hmo⟩ : ∃ mo : Nat → Int, mo = fun k => if 7 ≤ zx % 21 then -1 else uMx f cc k := ⟨_, rfl⟩
  obtain ⟨ch, hch⟩ : ∃ ch : Nat → Int, ch = fun k => if 7 ≤ zx % 21 then -1 else uCh f cc k := ⟨_, rfl⟩
  have mb : ∀ k, -1 ≤ mo k ∧ mo k ≤ 2305843009213693952 := fun k => by
    have := uMx_b (c := cc) (by omega) fb' k
    rw [hmo]
    show -1 ≤ (if 7 ≤ zx % 21 then -1 else uMx f cc k) ∧ (if 7 ≤ zx % 21 then -1 else uMx f cc k) ≤ _
    split <;> omega
  have loop : ∀ u k (V : Nat → Nat → Int64), k + u = 5 → uVal n s x y nv V0 V → H1_choice_11 (d1 + 7) Th Q (n + 94) (jI ((l + 1 : Nat) : Int)) (jI (zx : Int)) (jI (zy : Int)) (jI (ch k)) (jL (mo k)) (jI (k : Int)) (A, V, B) := by
    intro u
    induction u with
    | zero =>
      intro k V hk hV
      have k5 : k = 5 := by omega
      subst k5
      refine h1_choice_11 ?_
      rw [if_pos (by decide), hch]
      exact K V hV
    | succ u ihu =>
      intro k V hk hV
      refine h1_choice_11 ?_
      rw [if_neg (by rw [jg4 (rI_nat (by omega))]; omega), if_neg (by rw [je0 (rI_nat (by omega))]; omega)]
      refine ⟨hT 94 _ rfl, ?_⟩
      refine u1_can (d := d1 + 4) h hx (by omega) (by omega) ?_
      rw [ec, jI_s]
      by_cases c6 : zx % 21 ≤ 6
      rotate_left
      · rw [decide_eq_false c6, Bool.false_and, if_pos jBf]
        have e1 : mo k = mo (k + 1) := by
          rw [hmo]
          show (if 7 ≤ zx % 21 then _ else _) = (if 7 ≤ zx % 21 then _ else _)
          rw [if_pos (by omega), if_pos (by omega)]
        have e2 : ch k = ch (k + 1) := by
          rw [hch]
          show (if 7 ≤ zx % 21 then _ else _) = (if 7 ≤ zx % 21 then _ else _)
          rw [if_pos (by omega), if_pos (by omega)]
        rw [e1, e2]
        exact ihu (k + 1) V (by omega) hV
      rw [decide_eq_true c6, Bool.true_and]
      have mk : ∀ j, mo j = uMx f cc j := fun j => by
        rw [hmo]
        show (if 7 ≤ zx % 21 then _ else _) = _
        rw [if_neg (by omega)]
      have ck : ∀ j, ch j = uCh f cc j := fun j => by
        rw [hch]
        show (if 7 ≤ zx % 21 then _ else _) = _
        rw [if_neg (by omega)]
      cases hck : cc k
      · rw [if_pos jBf]
        have e1 : mo k = mo (k + 1) := by
          rw [mk, mk, uMx, if_neg (show ¬ (cc k = true ∧ uMx f cc k < f k) from fun q => absurd q.1 (by rw [hck]; decide))]
        have e2 : ch k = ch (k + 1) := by
          rw [ck, ck, uCh, if_neg (show ¬ (cc k = true ∧ uMx f cc k < f k) from fun q => absurd q.1 (by rw [hck]; decide))]
        rw [e1, e2]
        exact ihu (k + 1) V (by omega) hV
      · rw [if_neg (by decide)]
        have edk : jI (k : Int) = jI (uDk k) := by unfold uDk; rw [if_neg (by omega)]
        have go := u1_doing (d := d1) (Q := fun (v5 : Int64) (M4 : mM) => ∀ xv6 : Int32, xv6 = (if (lg_cmp v5 (jL (mo k))) ≤ 0 then jI (ch k) else jI (k : Int)) → ∀ lv7 : Int64, lv7 = (if v5 < jL (mo k) then jL (mo k) else v5) → H1_choice_11 (d1 + 7) Th Q (n + 94) (jI ((l + 1 : Nat) : Int)) (jI (zx : Int)) (jI (zy : Int)) xv6 lv7 (jI ((k + 1 : Nat) : Int)) M4) (k := k) h ih hV hx hy h17 (Or.inl ⟨by omega, c6, fun k0 => ?_⟩) (fun V' q => ?_)
        · rw [← edk] at go
          exact go
        · have : uCan s nv k zx zy = true := by rw [ec]; exact hck
          subst k0
          unfold uCan at this
          rw [if_pos rfl] at this
          have h6' : zx % 21 ≠ 6 := by
            intro z
            rw [decide_eq_false (by omega), Bool.and_false] at this
            exact absurd this (by decide)
          omega
        · intro xv6 h6 lv10 h10
          have := fb' k
          have := mb k
          rw [ef] at h10 h6
          simp only [jL_lt (a := f k) (b := mo k) (by omega) (by omega) (by omega) (by omega)] at h10
          simp only [lc_le, jL_le (a := f k) (b := mo k) (by omega) (by omega) (by omega) (by omega)] at h6
          have e : lv10 = jL (mo (k + 1)) ∧ xv6 = jI (ch (k + 1)) := by
            rw [h10, h6, mk (k + 1), ck (k + 1), uMx, uCh]
            have mkk := mk k
            by_cases q : uMx f cc k < f k
            · rw [if_pos (show cc k = true ∧ uMx f cc k < f k from ⟨hck, q⟩), if_pos (show cc k = true ∧ uMx f cc k < f k from ⟨hck, q⟩), if_neg (show ¬ f k < mo k by omega), if_neg (show ¬ f k ≤ mo k by omega)]
              exact ⟨rfl, rfl⟩
            · rw [if_neg (show ¬ (cc k = true ∧ uMx f cc k < f k) from fun z => q z.2), if_neg (show ¬ (cc k = true ∧ uMx f cc k < f k) from fun z => q z.2), if_pos (show f k ≤ mo k by omega), ck k]
              refine ⟨?_, rfl⟩
              by_cases q2 : f k < mo k
              · rw [if_pos q2, mkk]
              · rw [if_neg q2]; congr 1; omega
          rw [e.1, e.2]
          exact ihu (k + 1) V' (by omega) q
  refine e1_choice ?_
  have z1 : mo 0 = -1 := by rw [hmo]; show (if 7 ≤ zx % 21 then (-1 : Int) else -1) = -1; split <;> rfl
  have z2 : ch 0 = -1 := by rw [hch]; show (if 7 ≤ zx % 21 then (-1 : Int) else -1) = -1; split <;> rfl
  have := loop 5 0 V rfl hV
  rw [z1, z2] at this
  exact this
theorem u1_choice0 {Q : Int32 → mM → Prop} {M : mM} {zx zy : Int32} (K : Q (-1) M) : P1_choice (d + 1) Th (n + 94) (jI ((0 : Nat) : Int)) zx zy M Q := by
  refine e1_choice (h1_choice_11 ?_)
  rw [if_neg (by decide), if_pos (by decide)]
  exact K
/-- how long it waits: k already, u left -/
def uWt (s : mS) (x y r t : Nat) : Nat → Nat → Nat
  | 0, k => k
  | u + 1, k => if uAct s x y 0 u (21 * r + 6) (21 * r + (if t + k < 5 then t + k else 5)) = 2 then uWt s x y r t u (k + 1) else k
theorem uCh_b {f : Nat → Int} {c : Nat → Bool} (k : Nat) : -1 ≤ uCh f c k ∧ uCh f c k < k + 1 := by
  induction k with
  | zero => exact ⟨by show (-1 : Int) ≤ -1; omega, by show (-1 : Int) < _; omega⟩
  | succ k ih => rw [uCh]; split <;> omega
theorem uAct_b (s : mS) (x y nv l zx zy : Nat) : -1 ≤ uAct s x y nv l zx zy ∧ uAct s x y nv l zx zy ≤ 5 := by
  unfold uAct
  split
  · omega
  · have := uCh_b (f := fun k => uDo s x y (fun a b => uV s x y nv l a b) k zx zy) (c := fun k => uCan s nv k zx zy) 5
    omega
theorem u1_waitsFrom {Q : Int32 → mM → Prop} {V : Nat → Nat → Int64} {r left t : Nat} (h : uOk Th n s x y 0 A B) (hV : uVal n s x y 0 V0 V) (hr : r < uR s) (hl : left ≤ 10) (ht : t ≤ 5)
    (K : ∀ V', uVal n s x y 0 V0 V' → Q (jI (uWt s x y r t left 0 : Nat)) (A, V', B)) : P1_waitsFrom (d + 58) Th (n + 94) (jI r) (jI left) (jI t) (A, V, B) Q := by
  obtain ⟨e0, eR, eD, eD1, eD4⟩ := uOk_R h
  refine e1_waitsFrom ?_
  intro xv1 h1
  rw [show (21 : Int32) = jI 21 from rfl, jI_mul] at h1
  subst h1
  have loop : ∀ u k (V : Nat → Nat → Int64), k + u = left → uVal n s x y 0 V0 V → (∀ V', uVal n s x y 0 V0 V' → Q (jI (uWt s x y r t u k : Nat)) (A, V', B)) → H1_waitsFrom_12 (d + 58) Th Q (n + 94) (jI left) (jI t) (jI ((r : Int) * 21)) (jI k) (jI k) (A, V, B) := by
    intro u
    induction u with
    | zero =>
      intro k V hk hV K
      refine h1_waitsFrom_12 ?_
      rw [if_pos (by rw [jIle (rI_nat (by omega)) (rI_nat (by omega))]; omega)]
      exact K V hV
    | succ u ih =>
      intro k V hk hV K
      refine h1_waitsFrom_12 ?_
      rw [if_neg (by rw [jIle (rI_nat (by omega)) (rI_nat (by omega))]; omega), if_neg (by rw [jh10 (rI_nat (by omega))]; omega)]
      refine ⟨h.1 94 _ rfl, ?_⟩
      have emin : (if jI (t : Int) + jI (k : Int) < 5 then jI (t : Int) + jI (k : Int) else 5) = jI ((if t + k < 5 then t + k else 5 : Nat) : Int) := by
        rw [jI_add]
        simp only [jl5 (z := (t : Int) + (k : Int)) (rI_of (by omega) (by omega))]
        by_cases c : t + k < 5
        · rw [if_pos (by omega), if_pos c]; congr 1
        · rw [if_neg (by omega), if_neg c]; rfl
      have bmin : (if t + k < 5 then t + k else 5) ≤ 5 := by split <;> omega
      rw [emin, jI_add, kI6, jI_add, jI_sub]
      unfold uWt at K
      generalize (if t + k < 5 then t + k else 5) = tk at bmin K ⊢
      rw [show (left : Int) - (k : Int) = ((u + 1 : Nat) : Int) by omega, show (r : Int) * 21 + 6 = ((21 * r + 6 : Nat) : Int) by omega, show (r : Int) * 21 + (tk : Int) = ((21 * r + tk : Nat) : Int) by omega]
      refine u1_choice (d1 := d + 50) (V0 := V0) h (by omega) (by omega) hV (by omega) (by omega) (by omega) (fun V' q => ?_)
      have ab := uAct_b s x y 0 u (21 * r + 6) (21 * r + tk)
      simp only [jq2 (z := uAct s x y 0 u (21 * r + 6) (21 * r + tk)) (rI_of (by omega) (by omega))]
      by_cases c : uAct s x y 0 u (21 * r + 6) (21 * r + tk) = 2
      · rw [if_pos c] at K
        rw [if_pos c, jI_s]
        exact ih (k + 1) V' (by omega) q K
      · rw [if_neg c] at K
        rw [if_neg c]
        exact K V' q
  exact loop left 0 V (by omega) hV K
end UE
