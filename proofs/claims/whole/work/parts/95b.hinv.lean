/-! ===== DRAW: what holds all the time ===== -/
def hcnt (s : mS) (z : Nat) : Nat := if z = 80 then (s 0 0).toNat else z / 16 + (if 6 ≤ z % 16 ∧ z % 16 ≤ 11 then 1 else 0)
def hInv (s : mS) (st : Nat → Nat) : Prop := rG s ∧ rLw s ∧ rLg s ∧ rLh s ∧ rLt s ∧ (∀ b : Nat, (b : Int) < s 0 1 → st b = 80 ∨ ((st b / 16 : Nat) : Int) < s 0 0) ∧ s 0 6 = (sumN (fun b => hcnt s (st b)) (s 0 1).toNat : Nat)
theorem sumN_ext {f g : Nat → Nat} {k : Nat} (h : ∀ i, i < k → f i = g i) : sumN f k = sumN g k := by
  induction k with
  | zero => rfl
  | succ k ih =>
    show sumN f k + f k = sumN g k + g k
    rw [ih (fun i hi => h i (by omega)), h k (by omega)]
theorem sumN_set {f g : Nat → Nat} {k b : Nat} (hb : b < k) (h : ∀ i, i ≠ b → f i = g i) : sumN f k + g b = sumN g k + f b := by
  induction k with
  | zero => omega
  | succ k ih =>
    show sumN f k + f k + g b = sumN g k + g k + f b
    by_cases c : b = k
    · rw [c, sumN_ext (f := f) (g := g) (fun i hi => h i (by omega))]; omega
    · have := ih (by omega)
      have := h k (fun q => c q.symm)
      omega
theorem hInv_lt {s : mS} {st : Nat → Nat} (h : hInv s st) : s 0 6 ≤ 25 := by
  obtain ⟨hG, -, -, -, -, hz, hc⟩ := h
  have g0 := hG.1
  have g1 := hG.2.1
  have : sumN (fun b => hcnt s (st b)) (s 0 1).toNat ≤ 25 := by
    have e : ∀ k, k ≤ (s 0 1).toNat → sumN (fun b => hcnt s (st b)) k ≤ k * 5 := by
      intro k
      induction k with
      | zero => intro _; exact Nat.zero_le _
      | succ k ih =>
        intro hk
        show sumN (fun b => hcnt s (st b)) k + hcnt s (st k) ≤ _
        have i1 := ih (by omega)
        have : hcnt s (st k) ≤ 5 := by
          unfold hcnt
          rcases hz k (by omega) with q | q
          · rw [if_pos q]; omega
          · split
            · omega
            · split <;> omega
        omega
    have := e (s 0 1).toNat (Nat.le_refl _)
    omega
  omega
theorem rG_add {s : mS} {b r t : Nat} (hG : rG s) (hl : s 0 6 < 40) : rG (sAdd s b r t) := by
  obtain ⟨h1, h2, h3, h4, h5, h6, h7, h8⟩ := hG
  exact ⟨h1, h2, h3, h4, h5, h6, ⟨by show 0 ≤ s 0 6 + 1; omega, by show s 0 6 + 1 ≤ 40; omega⟩, h8⟩
theorem rG_dic {s : mS} (hG : rG s) : rG (sDic s) := by
  obtain ⟨h1, h2, h3, h4, h5, h6, h7, h8, h9⟩ := hG
  exact ⟨h1, h2, h3, h4, h5, h6, h7, ⟨by show 0 ≤ (25173 * s 0 7 + 13849) % 65536; omega, by show (25173 * s 0 7 + 13849) % 65536 ≤ 65535; omega⟩, h9⟩
theorem sAdd_9 (s : mS) (b r t : Nat) (k : Nat) : sAdd s b r t 9 k = if k = 3 * (s 0 6).toNat then (b : Int) else if k = 3 * (s 0 6).toNat + 1 then (r : Int) else if k = 3 * (s 0 6).toNat + 2 then (t : Int) else s 9 k := by
  show (if (9 : Nat) = 9 then _ else _) = _
  rw [if_pos rfl]
/-- one more: all still holds -/
theorem logs_add {s : mS} {b r t : Nat} (hG : rG s) (hl : s 0 6 < 40) (hL : rLg s) (hLh : rLh s) (hLt : rLt s) (hb : (b : Int) < s 0 1) (hr : (r : Int) < s 0 0) (ht : 1 ≤ t ∧ t ≤ 10) : rG (sAdd s b r t) ∧ rLg (sAdd s b r t) ∧ rLh (sAdd s b r t) ∧ rLt (sAdd s b r t) := by
  have g0 := hG.1
  have g1 := hG.2.1
  have g6 := hG.2.2.2.2.2.2.1
  refine ⟨rG_add hG hl, fun k => ?_, fun i hi => ?_, fun i hi => ?_⟩
  · rw [sAdd_9]
    have := hL k
    split
    · omega
    · split
      · omega
      · split <;> omega
  · have hi' : (i : Int) < s 0 6 + 1 := hi
    show sAdd s b r t 9 (3 * i) < s 0 1 ∧ sAdd s b r t 9 (3 * i + 1) < s 0 0
    rw [sAdd_9, sAdd_9]
    by_cases c : i = (s 0 6).toNat
    · rw [if_pos (by omega), if_neg (by omega), if_pos (by omega)]
      exact ⟨hb, hr⟩
    · rw [if_neg (by omega), if_neg (by omega), if_neg (by omega), if_neg (by omega), if_neg (by omega), if_neg (by omega)]
      exact hLh i (by omega)
  · have hi' : (i : Int) < s 0 6 + 1 := hi
    rw [sAdd_9]
    by_cases c : i = (s 0 6).toNat
    · rw [if_neg (by omega), if_neg (by omega), if_pos (by omega)]; omega
    · rw [if_neg (by omega), if_neg (by omega), if_neg (by omega)]
      exact hLt i (by omega)
/-- what a tick of a band does -/
theorem hmP_ok {s : mS} {z b t : Nat} (hG : rG s) (hO : rLw s) (hL : rLg s) (hLh : rLh s) (hLt : rLt s) (hl : s 0 6 < 40) (hb : (b : Int) < s 0 1) (ht : 1 ≤ t ∧ t ≤ 10) (h80 : z ≠ 80) (hz : ((z / 16 : Nat) : Int) < s 0 0) :
    (rG (hmP s z b t).1 ∧ rLw (hmP s z b t).1 ∧ rLg (hmP s z b t).1 ∧ rLh (hmP s z b t).1 ∧ rLt (hmP s z b t).1) ∧ (hmP s z b t).1 0 0 = s 0 0 ∧ (hmP s z b t).1 0 1 = s 0 1 ∧ ((hmP s z b t).2 = 80 ∨ (((hmP s z b t).2 / 16 : Nat) : Int) < s 0 0) ∧ (hmP s z b t).1 0 6 + (hcnt s z : Int) = s 0 6 + (hcnt s (hmP s z b t).2 : Int) := by
  have g0 := hG.1
  have g2 := hG.2.2.1
  have wb := wK_b s b (z / 16)
  obtain ⟨r, hr⟩ : ∃ r, z / 16 = r := ⟨_, rfl⟩
  obtain ⟨e, he⟩ : ∃ e, z % 16 = e := ⟨_, rfl⟩
  have hA := logs_add (b := b) (r := r) (t := t) hG hl hL hLh hLt hb (by omega) ht
  have hD := logs_add (s := sDic s) (b := b) (r := r) (t := t) (rG_dic hG) hl hL hLh hLt hb (by rw [← hr]; exact hz) ht
  unfold hmP
  rw [hr, he]
  rw [hr] at wb hz
  by_cases c5 : 5 < e
  · rw [if_pos c5]
    refine ⟨⟨hG, hO, hL, hLh, hLt⟩, rfl, rfl, ?_, ?_⟩
    · show hGo s z = 80 ∨ ((hGo s z / 16 : Nat) : Int) < s 0 0
      unfold hGo
      by_cases q : ((kgo z : Nat) : Int) = 16 * s 0 0
      · rw [if_pos q]; exact Or.inl rfl
      · rw [if_neg q]
        unfold kgo at q ⊢
        by_cases q6 : z % 16 = 6
        · rw [if_pos q6] at q ⊢; omega
        · rw [if_neg q6] at q ⊢
          by_cases q12 : z % 16 = 12
          · rw [if_pos q12] at q ⊢; omega
          · rw [if_neg q12] at q ⊢; omega
    · show s 0 6 + (hcnt s z : Int) = s 0 6 + (hcnt s (hGo s z) : Int)
      have : hcnt s z = hcnt s (hGo s z) := by
        unfold hGo
        by_cases q : ((kgo z : Nat) : Int) = 16 * s 0 0
        · rw [if_pos q]
          unfold hcnt
          rw [if_neg h80, if_pos rfl]
          unfold kgo at q
          by_cases q6 : z % 16 = 6
          · rw [if_pos q6] at q; rw [if_pos (by omega)]; omega
          · rw [if_neg q6] at q
            by_cases q12 : z % 16 = 12
            · rw [if_pos q12] at q; omega
            · rw [if_neg q12] at q; omega
        · rw [if_neg q]
          unfold hcnt
          rw [if_neg h80]
          unfold kgo at q ⊢
          by_cases q6 : z % 16 = 6
          · rw [if_pos q6] at q ⊢
            rw [if_pos (show 6 ≤ z % 16 ∧ z % 16 ≤ 11 by omega), if_neg (show ¬ 16 * (z / 16 + 1) = 80 by omega), if_neg (by omega)]; omega
          · rw [if_neg q6] at q ⊢
            by_cases q12 : z % 16 = 12
            · rw [if_pos q12] at q ⊢
              rw [if_neg (by omega), if_neg (by omega), if_neg (by omega)]; omega
            · rw [if_neg q12] at q ⊢
              rw [if_neg (show ¬ z - 1 = 80 by omega)]
              by_cases q11 : z % 16 ≤ 11
              · rw [if_pos (by omega), if_pos (by omega)]; omega
              · rw [if_neg (by omega), if_neg (by omega)]; omega
      rw [this]
  · rw [if_neg c5]
    have c0 : hcnt s z = r := by unfold hcnt; rw [if_neg h80, if_neg (by omega), hr]; rfl
    rw [c0]
    have walk : ∀ w : Nat, 1 ≤ w ∧ w ≤ 6 → ((16 * r + 5 + w = 80 ∨ (((16 * r + 5 + w) / 16 : Nat) : Int) < s 0 0) ∧ hcnt s (16 * r + 5 + w) = r + 1) := by
      intro w hw
      refine ⟨Or.inr (by omega), ?_⟩
      unfold hcnt
      rw [if_neg (by omega), if_pos (by omega)]; omega
    by_cases c1 : s 6 b = 1 ∧ s 0 3 = 0 ∧ hSeB s b r ((t : Int) - 1) (s 0 6).toNat = true
    · rw [if_pos c1]
      refine ⟨⟨hA.1, hO, hA.2.1, hA.2.2.1, hA.2.2.2⟩, rfl, rfl, ?_⟩
      show (hYw s r (wK s b r - 1).toNat = 80 ∨ ((hYw s r (wK s b r - 1).toNat / 16 : Nat) : Int) < s 0 0) ∧ s 0 6 + 1 + (r : Int) = s 0 6 + (hcnt s (hYw s r (wK s b r - 1).toNat) : Int)
      unfold hYw
      by_cases w0 : (wK s b r - 1).toNat = 0
      · rw [if_pos w0]
        by_cases q : ((r + 1 : Nat) : Int) = s 0 0
        · rw [if_pos q]
          refine ⟨Or.inl rfl, ?_⟩
          unfold hcnt
          rw [if_pos rfl]; omega
        · rw [if_neg q]
          refine ⟨Or.inr (by omega), ?_⟩
          unfold hcnt
          rw [if_neg (by omega), if_neg (by omega)]; omega
      · rw [if_neg w0]
        obtain ⟨w1, w2⟩ := walk (wK s b r - 1).toNat (by omega)
        exact ⟨w1, by rw [w2]; omega⟩
    rw [if_neg c1]
    by_cases c2 : sDic s 0 7 % 8 < gK s (s 4 b) b r e
    · rw [if_pos c2]
      refine ⟨⟨hD.1, hO, hD.2.1, hD.2.2.1, hD.2.2.2⟩, rfl, rfl, ?_⟩
      obtain ⟨w1, w2⟩ := walk (wK s b r).toNat (by omega)
      refine ⟨w1, ?_⟩
      show s 0 6 + 1 + (r : Int) = s 0 6 + (hcnt s (16 * r + 5 + (wK s b r).toNat) : Int)
      rw [w2]; omega
    rw [if_neg c2]
    by_cases c3 : sDic s 0 7 % 8 < gK s (s 4 b) b r e + eK s (s 4 b) b r e
    · rw [if_pos c3]
      refine ⟨⟨rG_dic hG, hO, hL, hLh, hLt⟩, rfl, rfl, ?_⟩
      show (16 * r + 11 + (s 0 2).toNat = 80 ∨ (((16 * r + 11 + (s 0 2).toNat) / 16 : Nat) : Int) < s 0 0) ∧ s 0 6 + (r : Int) = s 0 6 + (hcnt s (16 * r + 11 + (s 0 2).toNat) : Int)
      refine ⟨Or.inr (by omega), ?_⟩
      unfold hcnt
      rw [if_neg (by omega), if_neg (by omega)]; omega
    · rw [if_neg c3]
      refine ⟨⟨rG_dic hG, hO, hL, hLh, hLt⟩, rfl, rfl, ?_⟩
      show (16 * r + kmo e = 80 ∨ (((16 * r + kmo e) / 16 : Nat) : Int) < s 0 0) ∧ s 0 6 + (r : Int) = s 0 6 + (hcnt s (16 * r + kmo e) : Int)
      have mb : kmo e ≤ 5 := by unfold kmo; split <;> omega
      refine ⟨Or.inr (by omega), ?_⟩
      unfold hcnt
      rw [if_neg (by omega), if_neg (by omega)]; omega
theorem hInv_mv {s : mS} {st : Nat → Nat} {b t : Nat} (h : hInv s st) (hb : (b : Int) < s 0 1) (ht : 1 ≤ t ∧ t ≤ 10) : hInv (hmv s st b t).1 (hmv s st b t).2 ∧ (hmv s st b t).1 0 0 = s 0 0 ∧ (hmv s st b t).1 0 1 = s 0 1 := by
  have hl := hInv_lt h
  obtain ⟨hG, hO, hL, hLh, hLt, hz, hc⟩ := id h
  have g0 := hG.1
  have g1 := hG.2.1
  unfold hmv
  by_cases c80 : st b = 80
  · rw [if_pos c80]; exact ⟨h, rfl, rfl⟩
  rw [if_neg c80]
  have hzb : ((st b / 16 : Nat) : Int) < s 0 0 := by have := hz b hb; omega
  obtain ⟨⟨p1, p2, p3, p4, p5⟩, p6, p7, p8, p9⟩ := hmP_ok (z := st b) hG hO hL hLh hLt (by omega) hb ht c80 hzb
  generalize hmP s (st b) b t = P at p1 p2 p3 p4 p5 p6 p7 p8 p9 ⊢
  obtain ⟨s', z'⟩ := P
  simp only at p1 p2 p3 p4 p5 p6 p7 p8 p9 ⊢
  have base : hInv s' (fun k => if k = b then z' else st k) := by
    refine ⟨p1, p2, p3, p4, p5, fun k hk => ?_, ?_⟩
    · show (if k = b then z' else st k) = 80 ∨ (((if k = b then z' else st k) / 16 : Nat) : Int) < s' 0 0
      rw [p6]
      by_cases c : k = b
      · rw [if_pos c]; exact p8
      · rw [if_neg c]; exact hz k (by omega)
    · rw [p7]
      have e : ∀ x, hcnt s' x = hcnt s x := fun x => by unfold hcnt; rw [p6]
      have := sumN_set (f := fun k => hcnt s' (if k = b then z' else st k)) (g := fun k => hcnt s (st k)) (k := (s 0 1).toNat) (b := b) (by omega) (fun i hi => by show hcnt s' (if i = b then z' else st i) = _; rw [if_neg hi, e])
      simp only [if_pos] at this
      rw [e] at this
      show s' 0 6 = ((sumN (fun k => hcnt s' (if k = b then z' else st k)) (s 0 1).toNat : Nat) : Int)
      omega
  by_cases c : z' = 80
  · rw [if_pos c]; exact ⟨base, p6, p7⟩
  · rw [if_neg c]; exact ⟨base, p6, p7⟩
