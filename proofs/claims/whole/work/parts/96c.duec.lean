/-! ===== BEST in the class: the value ===== -/
section UD
variable {d : Nat} {Th : mT} {A : Nat → Nat → Int32} {B : Nat → Nat → Option Nat} {V0 : Nat → Nat → Int64} {n : Nat} {s : mS} {x y nv : Nat}
/-- the value with l left is right at this depth -/
def uHV (Th : mT) (n : Nat) (s : mS) (x y nv : Nat) (A : Nat → Nat → Int32) (B : Nat → Nat → Option Nat) (V0 : Nat → Nat → Int64) (l D : Nat) : Prop :=
  ∀ (Q : Int64 → mM → Prop) (V : Nat → Nat → Int64) (zx zy : Nat), uX (uR s) zx → uY (uR s) zy → uVal n s x y nv V0 V → (∀ V', uVal n s x y nv V0 V' → Q (jL (uV s x y nv l zx zy)) (A, V', B)) → P1_value D Th (n + 94) (jI (l : Int)) (jI (zx : Int)) (jI (zy : Int)) (A, V, B) Q
theorem u1_seen {Q : Int64 → mM → Prop} {V : Nat → Nat → Int64} {l nx r ny bg : Nat} (h : uOk Th n s x y nv A B) (hv : uHV Th n s x y nv A B V0 l (d + 1)) (hV : uVal n s x y nv V0 V) (hx : uX (uR s) nx) (hy : uY (uR s) ny) (hr : r ≤ 5) (hb : bg ≤ 2)
    (k : ∀ V', uVal n s x y nv V0 V' → Q (jL (uSn (uCp s y) (uV s x y nv l nx) r ny bg)) (A, V', B)) : P1_seen (d + 2) Th (n + 94) (jI ((l + 1 : Nat) : Int)) (jI nx) (jI r) (jI ny) (jI bg) (A, V, B) Q := by
  obtain ⟨e0, eR, eD, eD1, eD4⟩ := uOk_R h
  have hny : ny ≤ 105 := by unfold uY at hy; omega
  refine e1_seen ?_
  intro xv1 h1
  rw [jI_div21 (by omega)] at h1
  simp only [jIeq (rI_nat (k := ny / 21) (by omega)) (rI_nat (k := r) (by omega))] at h1
  unfold uSn at k
  by_cases c : ny / 21 = r
  · rw [if_pos c] at k
    rw [if_pos (by omega)] at h1
    subst h1
    rw [if_neg (by decide)]
    refine ⟨h.1 94 _ rfl, ?_⟩
    refine u1_seeing (d := d) h hny hb ?_
    rw [jI_p]
    exact hv _ V _ _ hx (uSee_v eR hy) hV (fun V' q => k V' q)
  · rw [if_neg c] at k
    rw [if_neg (by omega)] at h1
    subst h1
    rw [if_pos rfl]
    refine ⟨h.1 94 _ rfl, ?_⟩
    rw [jI_p]
    exact hv _ V _ _ hx hy hV (fun V' q => k V' q)
theorem jLz : (0 : Int64) = jL 0 := rfl
theorem jL_8 : (8 : Int64) = jL 8 := rfl
set_option maxHeartbeats 1000000 in
theorem u1_against {Q : Int64 → mM → Prop} {V : Nat → Nat → Int64} {l nx zy bg : Nat} (h : uOk Th n s x y nv A B) (hv : uHV Th n s x y nv A B V0 l (d + 2)) (hV : uVal n s x y nv V0 V) (hx : uX (uR s) nx) (hy : zy < 21 * uR s) (h17 : zy % 21 ≤ 17) (hb : bg ≤ 2)
    (k : ∀ V', uVal n s x y nv V0 V' → Q (jL (uAg s y (uV s x y nv l nx) zy bg)) (A, V', B)) : P1_against (d + 4) Th (n + 94) (jI ((l + 1 : Nat) : Int)) (jI nx) (jI zy) (jI bg) (A, V, B) Q := by
  obtain ⟨e0, eR, eD, eD1, eD4⟩ := uOk_R h
  obtain ⟨hT, hG, hxy, ⟨b0, b1, b2, b3⟩, ⟨a0, a2, a3, a6, a8⟩, hS⟩ := id h
  have hr : zy / 21 < uR s := by omega
  refine e1_against ?_
  intro xv1 h1 xv2 h2
  rw [jI_div21 (by omega)] at h1
  rw [jI_mod21 (by omega)] at h2
  subst h1 h2
  simp only [jl6 (z := ((zy % 21 : Nat) : Int)) (rI_nat (by omega))]
  unfold uAg at k
  by_cases c : 6 ≤ zy % 21
  · rw [if_pos c] at k
    rw [if_neg (by omega)]
    refine ⟨hT 94 _ rfl, ?_⟩
    refine u1_movedY (d := d) h hy c h17 ?_
    refine u1_seen (d := d + 1) (bg := bg) h hv hV hx (uMv_v eD4 hy c h17) (by omega) hb (fun V' q => ?_)
    rw [jL_8, jL_mul]
    exact k V' q
  rw [if_neg c] at k
  rw [if_pos (by omega)]
  generalize hg : gK s (s 4 y) y (zy / 21) (zy % 21) = g at k
  generalize he : eK s (s 4 y) y (zy / 21) (zy % 21) = e at k
  have gb := gK_b s (s 4 y) y (zy / 21) (zy % 21)
  have eb := eK_b s (s 4 y) y (zy / 21) (zy % 21)
  rw [hg] at gb eb
  rw [he] at eb
  generalize ha : uSn (uCp s y) (uV s x y nv l nx) (zy / 21) (uWk (uR s) (zy / 21) (wN s y (zy / 21))) bg = a at k
  generalize hbb : uSn (uCp s y) (uV s x y nv l nx) (zy / 21) (uSt (zy / 21) (dN s) false) bg = b at k
  generalize hc : uSn (uCp s y) (uV s x y nv l nx) (zy / 21) (21 * (zy / 21) + kmo (zy % 21)) bg = c' at k
  have hw := wN_b s y (zy / 21)
  refine ⟨hT 94 _ rfl, aSk n y, b2, (hS V).2.1.1.1, ?_⟩
  refine s8_goodAt (d := d + 1) (r := zy / 21) (t := zy % 21) (hS V).2.1 (hS V).2.2.2 (by omega) (by omega) (by omega) ?_
  refine ⟨aSk n y, b2, (hS V).2.1.1.1, ?_⟩
  refine s8_badAt (d := d + 1) (r := zy / 21) (t := zy % 21) (hS V).2.1 (hS V).2.2.2 (by omega) (by omega) (by omega) ?_
  rw [hg, he]
  simp only [je0 (z := g) (rI_of (by omega) (by omega))]
  have t144 : ∀ (S : Int) (V : Nat → Nat → Int64), uVal n s x y nv V0 V → S = g * a + e * b → H1_against_144 (d + 4) Th Q (n + 94) (jI ((l + 1 : Nat) : Int)) (jI nx) (jI bg) (jI ((zy / 21 : Nat) : Int)) (jI ((zy % 21 : Nat) : Int)) (jI g) (jI e) (jL S) (A, V, B) := by
    intro S V hV hS'
    refine h1_against_144 ?_
    simp only [jI_add, jh8 (z := g + e) (rI_of (by omega) (by omega))]
    unfold u3 at k
    by_cases q : 8 ≤ g + e
    · rw [if_pos q]
      have := k V hV
      rw [show (8 - g - e) * c' = 0 by rw [show 8 - g - e = 0 by omega]; omega, Int.add_zero, ← hS'] at this
      exact this
    · rw [if_neg q]
      refine u1_thoughtOn (d := d + 2) (by omega) (by omega) ?_
      refine ⟨hT 94 _ rfl, ?_⟩
      refine u1_seen (d := d + 1) (bg := bg) h hv hV hx (uTh_v hy) (by omega) hb (fun V' q' => ?_)
      intro lv6 h6
      rw [hc, kI8, jI_sub, jI_sub, jI_long (by omega) (by omega), jL_mul, jL_add, hS'] at h6
      rw [h6]
      exact k V' q'
  have t107 : ∀ (S : Int) (V : Nat → Nat → Int64), uVal n s x y nv V0 V → S = g * a → H1_against_107 (d + 4) Th Q (n + 94) (jI ((l + 1 : Nat) : Int)) (jI nx) (jI bg) (jI ((zy / 21 : Nat) : Int)) (jI ((zy % 21 : Nat) : Int)) (jI g) (jI e) (jL S) (A, V, B) := by
    intro S V hV hS'
    refine h1_against_107 ?_
    simp only [je0 (z := e) (rI_of (by omega) (by omega))]
    by_cases q : e ≤ 0
    · rw [if_pos q]
      refine t144 S V hV ?_
      rw [show e = 0 by omega]; omega
    · rw [if_neg q]
      refine ⟨hT 94 _ rfl, n + 3, b0, hT 3 _ rfl, ?_⟩
      show P1_strayOn _ _ _ (A (n + 3) 2) 0 _ _
      rw [a2, eD]
      refine u1_strayOn (d := d + 2) (kn := false) (by omega) (by omega) ?_
      refine u1_seen (d := d + 1) (bg := bg) h hv hV hx (uSt_w (by omega) (by omega)) (by omega) hb (fun V' q' => ?_)
      intro lv9 h9
      rw [hbb, jI_long (by omega) (by omega), jL_mul, jL_add] at h9
      rw [h9]
      exact t144 _ V' q' (by rw [hS'])
  by_cases q : g ≤ 0
  · rw [if_pos q, jLz]
    refine t107 0 V hV ?_
    rw [show g = 0 by omega]; omega
  · rw [if_neg q]
    refine ⟨aSk n y, b2, (hS V).2.1.1.1, ?_⟩
    refine u1_steps (d := d + 2) e0 eR (hS V).2.1 (hS V).2.2.2 (by omega) ?_
    refine u1_walkOn (d := d + 2) h hr (by omega) ?_
    refine u1_seen (d := d + 1) (bg := bg) h hv hV hx (uWk_v hr (by omega)) (by omega) hb (fun V' q' => ?_)
    intro lv23 h23
    rw [ha, jI_long (by omega) (by omega), jL_mul, jLz, jL_add] at h23
    rw [h23]
    exact t107 _ V' q' (by omega)
set_option maxHeartbeats 1000000 in
theorem u1_thinking {Q : Int64 → mM → Prop} {V : Nat → Nat → Int64} {l zx zy : Nat} (h : uOk Th n s x y nv A B) (hv : uHV Th n s x y nv A B V0 l (d + 2)) (hV : uVal n s x y nv V0 V) (hx : zx < 21 * uR s) (hx5 : zx % 21 ≤ 5) (hy : zy < 21 * uR s) (h17 : zy % 21 ≤ 17)
    (k : ∀ V', uVal n s x y nv V0 V' → Q (jL (uDo s x y (fun a b => uV s x y nv l a b) 0 zx zy)) (A, V', B)) : P1_thinking (d + 5) Th (n + 94) (jI ((l + 1 : Nat) : Int)) (jI zx) (jI zy) (A, V, B) Q := by
  obtain ⟨e0, eR, eD, eD1, eD4⟩ := uOk_R h
  obtain ⟨hT, hG, hxy, ⟨b0, b1, b2, b3⟩, ⟨a0, a2, a3, a6, a8⟩, hS⟩ := id h
  have hr : zx / 21 < uR s := by omega
  refine e1_thinking ?_
  intro xv1 h1 xv2 h2
  rw [jI_div21 (by omega)] at h1
  rw [jI_mod21 (by omega)] at h2
  subst h1 h2
  unfold uDo at k
  rw [if_pos rfl] at k
  generalize hg : gK s (s 4 x) x (zx / 21) (zx % 21) = g at k
  generalize he : eK s (s 4 x) x (zx / 21) (zx % 21) = e at k
  have gb := gK_b s (s 4 x) x (zx / 21) (zx % 21)
  have eb := eK_b s (s 4 x) x (zx / 21) (zx % 21)
  rw [hg] at gb eb
  rw [he] at eb
  have ha : ∀ w, uAg s y ((fun a b => uV s x y nv l a b) w) zy 0 = uAg s y (uV s x y nv l w) zy 0 := fun _ => rfl
  rw [ha, ha, ha] at k
  generalize ha : uAg s y (uV s x y nv l (21 * (zx / 21) + 6)) zy 0 = a at k
  generalize hbb : uAg s y (uV s x y nv l (uSt (zx / 21) (dN s) false)) zy 0 = b at k
  generalize hc : uAg s y (uV s x y nv l (21 * (zx / 21) + kmo (zx % 21))) zy 0 = c' at k
  refine ⟨hT 94 _ rfl, aSk n x, b1, (hS V).1.1.1, ?_⟩
  refine s8_goodAt (d := d + 2) (r := zx / 21) (t := zx % 21) (hS V).1 (hS V).2.2.1 (by omega) (by omega) (by omega) ?_
  refine ⟨aSk n x, b1, (hS V).1.1.1, ?_⟩
  refine s8_badAt (d := d + 2) (r := zx / 21) (t := zx % 21) (hS V).1 (hS V).2.2.1 (by omega) (by omega) (by omega) ?_
  rw [hg, he]
  simp only [je0 (z := g) (rI_of (by omega) (by omega))]
  have t144 : ∀ (S : Int) (V : Nat → Nat → Int64), uVal n s x y nv V0 V → S = g * a + e * b → H1_thinking_104 (d + 5) Th Q (n + 94) (jI ((l + 1 : Nat) : Int)) (jI zy) (jI ((zx / 21 : Nat) : Int)) (jI ((zx % 21 : Nat) : Int)) (jI g) (jI e) (jL S) (A, V, B) := by
    intro S V hV hS'
    refine h1_thinking_104 ?_
    simp only [jI_add, jh8 (z := g + e) (rI_of (by omega) (by omega))]
    unfold u3 at k
    by_cases q : 8 ≤ g + e
    · rw [if_pos q]
      have := k V hV
      rw [show (8 - g - e) * c' = 0 by rw [show 8 - g - e = 0 by omega]; omega, Int.add_zero, ← hS'] at this
      exact this
    · rw [if_neg q]
      refine u1_thoughtOn (d := d + 3) (by omega) (by omega) ?_
      refine ⟨hT 94 _ rfl, ?_⟩
      refine u1_against (d := d) (bg := 0) h hv hV (uY_x (uTh_v hx)) hy h17 (by omega) (fun V' q' => ?_)
      intro lv6 h6
      rw [hc, kI8, jI_sub, jI_sub, jI_long (by omega) (by omega), jL_mul, jL_add, hS'] at h6
      rw [h6]
      exact k V' q'
  have t107 : ∀ (S : Int) (V : Nat → Nat → Int64), uVal n s x y nv V0 V → S = g * a → H1_thinking_70 (d + 5) Th Q (n + 94) (jI ((l + 1 : Nat) : Int)) (jI zy) (jI ((zx / 21 : Nat) : Int)) (jI ((zx % 21 : Nat) : Int)) (jI g) (jI e) (jL S) (A, V, B) := by
    intro S V hV hS'
    refine h1_thinking_70 ?_
    simp only [je0 (z := e) (rI_of (by omega) (by omega))]
    by_cases q : e ≤ 0
    · rw [if_pos q]
      refine t144 S V hV ?_
      rw [show e = 0 by omega]; omega
    · rw [if_neg q]
      refine ⟨hT 94 _ rfl, n + 3, b0, hT 3 _ rfl, ?_⟩
      show P1_strayOn _ _ _ (A (n + 3) 2) 0 _ _
      rw [a2, eD]
      refine u1_strayOn (d := d + 3) (kn := false) (by omega) (by omega) ?_
      refine u1_against (d := d) (bg := 0) h hv hV (uSt_v (by omega) (by omega)) hy h17 (by omega) (fun V' q' => ?_)
      intro lv9 h9
      rw [hbb, jI_long (by omega) (by omega), jL_mul, jL_add] at h9
      rw [h9]
      exact t144 _ V' q' (by rw [hS'])
  by_cases q : g ≤ 0
  · rw [if_pos q, jLz]
    refine t107 0 V hV ?_
    rw [show g = 0 by omega]; omega
  · rw [if_neg q]
    rw [show jI ((zx / 21 : Nat) : Int) * 21 + 6 = jI ((21 * (zx / 21) + 6 : Nat) : Int) by rw [show (21 : Int32) = jI 21 from rfl, kI6, jI_mul, jI_add]; congr 1; omega]
    refine u1_against (d := d) (bg := 0) h hv hV (by right; omega) hy h17 (by omega) (fun V' q' => ?_)
    intro lv23 h23
    rw [ha, jI_long (by omega) (by omega), jL_mul, jLz, jL_add] at h23
    rw [h23]
    exact t107 _ V' q' (by omega)
theorem uBg_b {k zx zy : Nat} : uBg k zx zy ≤ 2 := by
  unfold uBg
  split
  · split
    · omega
    · split <;> omega
  · omega
/-- a deed's number in the class -/
def uDk (k : Nat) : Int := if k = 5 then -1 else k
set_option maxHeartbeats 1000000 in
theorem u1_doing {Q : Int64 → mM → Prop} {V : Nat → Nat → Int64} {l zx zy k : Nat} (h : uOk Th n s x y nv A B) (hv : ∀ D, d + 2 ≤ D → uHV Th n s x y nv A B V0 l D) (hV : uVal n s x y nv V0 V) (hx : zx < 21 * uR s) (hy : zy < 21 * uR s) (h17 : zy % 21 ≤ 17) (hk : (k < 5 ∧ zx % 21 ≤ 6 ∧ (k = 0 → zx % 21 ≤ 5)) ∨ (k = 5 ∧ 7 ≤ zx % 21))
    (K : ∀ V', uVal n s x y nv V0 V' → Q (jL (uDo s x y (fun a b => uV s x y nv l a b) k zx zy)) (A, V', B)) : P1_doing (d + 6) Th (n + 94) (jI (uDk k)) (jI ((l + 1 : Nat) : Int)) (jI zx) (jI zy) (A, V, B) Q := by
  obtain ⟨e0, eR, eD, eD1, eD4⟩ := uOk_R h
  obtain ⟨hT, hG, hxy, ⟨b0, b1, b2, b3⟩, ⟨a0, a2, a3, a6, a8⟩, hS⟩ := id h
  have hr : zx / 21 < uR s := by omega
  have hw := wN_b s x (zx / 21)
  have hdk : -1 ≤ uDk k ∧ uDk k ≤ 4 := by unfold uDk; split <;> omega
  refine e1_doing ?_
  intro xv1 h1 xv2 h2 xv3 h3
  rw [jI_div21 (by omega)] at h1
  rw [jI_mod21 (by omega)] at h2
  rw [h1, jI_div21 (by omega)] at h3
  simp only [jIeq (rI_nat (k := zx / 21) (by omega)) (rI_nat (k := zy / 21) (by omega))] at h3
  subst h1 h2
  simp only [jqN (z := uDk k) (rI_of (by omega) (by omega)), jq0 (z := uDk k) (rI_of (by omega) (by omega)), jq1 (z := uDk k) (rI_of (by omega) (by omega)), jq3 (z := uDk k) (rI_of (by omega) (by omega)), jq4 (z := uDk k) (rI_of (by omega) (by omega))]
  have go : ∀ (w bg : Nat) (V : Nat → Nat → Int64), uVal n s x y nv V0 V → k ≠ 0 → w = uNx s x k zx → bg = uBg k zx zy → P1_against (d + 5) Th (n + 94) (jI ((l + 1 : Nat) : Int)) (jI w) (jI zy) (jI bg) (A, V, B) (fun (v8 : Int64) (M7 : mM) => Q ((8 * v8)) M7) := by
    intro w bg V hV k0 hw' hbg
    have bg2 : bg ≤ 2 := by rw [hbg]; exact uBg_b
    refine u1_against (d := d + 1) (bg := bg) h (hv _ (by omega)) hV ?_ hy h17 bg2 (fun V' q => ?_)
    · rw [hw']; exact uNx_v eD4 hx (by omega)
    · rw [jL_8, jL_mul]
      have := K V' q
      unfold uDo at this
      rw [if_neg k0, ← hw', ← hbg] at this
      exact this
  have h111 : ∀ (w bg : Nat) (V : Nat → Nat → Int64), uVal n s x y nv V0 V → k ≠ 0 → w = uNx s x k zx → bg = uBg k zx zy → H1_doing_111 (d + 6) Th Q (jI bg) (jI zy) (jI w) (jI ((l + 1 : Nat) : Int)) (n + 94) 8 (A, V, B) := fun w bg V hV k0 hw' hbg => h1_doing_111 ⟨hT 94 _ rfl, go w bg V hV k0 hw' hbg⟩
  have here : ∀ w V, uVal n s x y nv V0 V → w = uNx s x k zx → (k = 1 ∨ k = 3) → (if xv3 = 0 then H1_doing_111 (d + 6) Th Q 0 (jI zy) (jI (w : Nat)) (jI ((l + 1 : Nat) : Int)) (n + 94) 8 (A, V, B) else H1_doing_111 (d + 6) Th Q 1 (jI zy) (jI (w : Nat)) (jI ((l + 1 : Nat) : Int)) (n + 94) 8 (A, V, B)) := by
    intro w V hV hw' hk13
    by_cases c : zx / 21 = zy / 21
    · rw [if_pos (by omega)] at h3
      subst h3
      rw [if_neg (by decide)]
      exact h111 w 1 V hV (by omega) hw' (by unfold uBg; rw [if_pos c, if_pos hk13])
    · rw [if_neg (by omega)] at h3
      subst h3
      rw [if_pos rfl]
      exact h111 w 0 V hV (by omega) hw' (by unfold uBg; rw [if_neg c])
  rcases hk with ⟨hk, hx6, hk0⟩ | ⟨hk5, hx7⟩
  rotate_left
  · have ek : uDk k = -1 := by unfold uDk; rw [if_pos hk5]
    rw [if_pos ek]
    refine ⟨hT 94 _ rfl, ?_⟩
    refine u1_goOn (d := d + 3) h hx hx7 ?_
    refine go _ 0 V hV (by omega) ?_ ?_
    · unfold uNx; rw [if_neg (by omega), if_neg (by omega), if_neg (by omega)]
    · unfold uBg; rw [if_neg (show ¬ (k = 1 ∨ k = 3) by omega), if_neg (show ¬ k = 4 by omega)]; split <;> rfl
  have ek : uDk k = (k : Int) := by unfold uDk; rw [if_neg (by omega)]
  rw [if_neg (by rw [ek]; omega)]
  by_cases k0 : k = 0
  · rw [if_pos (by rw [ek]; omega)]
    subst k0
    exact ⟨hT 94 _ rfl, u1_thinking (d := d) h (hv _ (by omega)) hV hx (hk0 rfl) hy h17 K⟩
  rw [if_neg (by rw [ek]; omega)]
  obtain ⟨w, hw'⟩ : ∃ w, wN s x (zx / 21) = w + 1 := ⟨wN s x (zx / 21) - 1, by omega⟩
  by_cases k1 : k = 1
  · rw [if_pos (by rw [ek]; omega)]
    refine ⟨hT 94 _ rfl, aSk n x, b1, (hS V).1.1.1, ?_⟩
    refine u1_steps (d := d + 4) e0 eR (hS V).1 (hS V).2.2.1 hr ?_
    rw [hw', jI_p]
    refine u1_walkOn (d := d + 4) h hr (by omega) ?_
    exact here _ V hV (by unfold uNx; rw [if_pos (Or.inl k1), hw', Nat.add_sub_cancel]) (Or.inl k1)
  rw [if_neg (by rw [ek]; omega)]
  by_cases k3 : k = 3
  · rw [if_pos (by rw [ek]; omega)]
    refine ⟨hT 94 _ rfl, aSk n x, b1, (hS V).1.1.1, ?_⟩
    refine u1_steps (d := d + 4) e0 eR (hS V).1 (hS V).2.2.1 hr ?_
    rw [hw', jI_p]
    refine u1_walkOn (d := d + 4) h hr (by omega) ?_
    exact here _ V hV (by unfold uNx; rw [if_pos (Or.inr k3), hw', Nat.add_sub_cancel]) (Or.inr k3)
  rw [if_neg (by rw [ek]; omega)]
  by_cases k4 : k = 4
  · rw [if_pos (by rw [ek]; omega)]
    refine ⟨hT 94 _ rfl, n + 3, b0, hT 3 _ rfl, ?_⟩
    show P1_strayOn _ _ _ (A (n + 3) 2 - 1) _ _ _
    obtain ⟨D, hD⟩ : ∃ D, dN s = D + 1 := ⟨dN s - 1, by omega⟩
    have ekn : (if jI ((zx % 21 : Nat) : Int) = 6 then (1 : Int32) else 0) = jB (decide (zx % 21 = 6)) := by
      simp only [jq6 (z := ((zx % 21 : Nat) : Int)) (rI_nat (by omega))]
      by_cases c : zx % 21 = 6
      · rw [if_pos (by omega), decide_eq_true c]; rfl
      · rw [if_neg (by omega), decide_eq_false c]; rfl
    rw [a2, eD, hD, jI_p, ekn]
    refine u1_strayOn (d := d + 4) (by omega) (by omega) ?_
    have ew : uSt (zx / 21) D (decide (zx % 21 = 6)) = uNx s x k zx := by
      unfold uNx; rw [if_neg (by omega), if_pos k4, hD, Nat.add_sub_cancel]
    by_cases c : zx / 21 = zy / 21
    · rw [if_pos (by omega)] at h3
      subst h3
      rw [if_neg (by decide)]
      exact go _ 2 V hV k0 ew (by unfold uBg; rw [if_pos c, if_neg (by omega), if_pos k4])
    · rw [if_neg (by omega)] at h3
      subst h3
      rw [if_pos rfl]
      exact go _ 0 V hV k0 ew (by unfold uBg; rw [if_neg c])
  · rw [if_neg (by rw [ek]; omega)]
    refine ⟨hT 94 _ rfl, ?_⟩
    refine go zx 0 V hV k0 ?_ ?_
    · unfold uNx; rw [if_neg (by omega), if_neg k4, if_pos (by omega)]
    · unfold uBg; rw [if_neg (show ¬ (k = 1 ∨ k = 3) by omega), if_neg k4]; split <;> rfl
end UD
