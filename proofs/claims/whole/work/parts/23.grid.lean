/-! ===== ROWS OF ROWS: new long[N][K] ===== -/
/-- the outer array at the heap's end, its N rows of K longs behind it -/
def m_gr (Th : mT) (N K : Nat) : mT := (Th.1 + 1 + N, Th.2.1, fun q => if q = Th.1 then some (.inr (.array .long, false, N)) else if Th.1 < q ∧ q < Th.1 + 1 + N then some (.inr (.long, false, K)) else Th.2.2 q)
def m_gM (M : mM) (a N : Nat) : mM := (M.1, M.2.1, fun q k => if q = a ∧ k < N then some (a + 1 + k) else M.2.2 q k)
theorem m_grZ {Th : mT} {M : mM} {N K : Nat} (h : m_Zr Th M) : m_Zr (m_gr Th N K) (m_gM M Th.1 N) := fun q k hq => by
  have hq' : Th.1 + 1 + N ≤ q := hq
  have := h q k (by omega)
  exact ⟨this.1, this.2.1, by show (if q = Th.1 ∧ k < N then _ else _) = _; rw [if_neg (by omega)]; exact this.2.2⟩
theorem m_outer (c : ClassId) (N h0 : Nat) : ∀ i : Nat, Jvm.Free.Multi.outerC c N h0 i = arrV c N (fun j => va_rf (if j < i then some (h0 + 1 + j) else none))
  | 0 => by
    show ({ cls := c, slots := Array.replicate N .null, vm := .none } : Cell) = _
    rw [arrV_new]
    refine congrArg (arrV c N) (funext fun j => ?_)
    simp [va_rf]
  | i + 1 => by
    show (Jvm.Free.Multi.outerC c N h0 i).setSlot i (.ref (h0 + 1 + i)) = _
    rw [m_outer c N h0 i, arrV_store]
    refine congrArg (arrV c N) (funext fun j => ?_)
    by_cases e : j = i
    · subst e
      simp [updV, va_rf]
    · by_cases h : j < i
      · simp [updV, e, h, Nat.lt_succ_of_lt h]
      · simp [updV, e, h, show ¬ j < i + 1 by omega]
section MG
variable {d mc ms : Nat} {yy : MethodName} {cc : ByteArray} {nL : Nat} {ret : Option FieldType} {Q : mQ} {pc : Nat} {lv : List (Nat × Value)} {rest : List Value} {Th : mT} {M : mM} {cells slots : Nat}
theorem m_mna {index N K : Nat} {n k : Int32} (hcl : Cond.classLink yy.cls index "[[J" ∈ lw_ok) (hn : ¬ n < 0) (hk : ¬ k < 0) (hN : n.toNatClampNeg = N) (hM : k.toNatClampNeg = K) (hb1 : N * 4 ≤ 536870912) (hb2 : K * componentBytes .long ≤ 536870912) (hb3 : K ≤ 536870912) (hcells : cells + (1 + N) ≤ mc) (hslots : slots + (N + N * K) ≤ ms) (hz : m_Zr Th M) (hd : decode cc pc = .ok (.multianewarray index 2, 4))
    (kk : m_W d mc ms yy cc nL ret Q (pc + 4) lv (.ref Th.1 :: rest) (m_gr Th N K) (m_gM M Th.1 N) (cells + 1 + N) (slots + N + N * K)) : m_W d mc ms yy cc nL ret Q pc lv (.int k :: .int n :: rest) Th M cells slots := by
  intro p l e s m args below meth c0 D b H locs ls X hb R S hl
  obtain ⟨hx, hby, hret, hml, hown, hts, hlocks, hname, hK⟩ := id X
  subst hN
  subst hM
  intro T hT Xs
  have hJ : ("[" ++ (FieldType.array .long).toString) = "[[J" := by decide +kernel
  obtain ⟨vm₁, cA, cy, hW1, fA, fC, hO, hI, X', step⟩ := Xs.multianewarray2F hx hown (by rw [hJ]; exact hts _ hcl) hK.2.2 (hts _ (by decide +kernel)) (g := F0 m pc ls (.int k :: .int n :: rest)) rfl (by rw [hby]; exact hd) rfl hn hk hb1 hb2 hb3 rfl rfl hcells hslots
  generalize hF : Jvm.Free.Multi.fill (T.setVm vm₁) cA cy n.toNatClampNeg k.toNatClampNeg (defaultValue .long) n.toNatClampNeg = F at X' step
  have hTh : (T.setVm vm₁).heap = H := hT
  obtain ⟨f1, f2, -, -⟩ := Jvm.Free.Multi.fill_facts (T.setVm vm₁) cA cy n.toNatClampNeg k.toNatClampNeg (defaultValue .long) n.toNatClampNeg
  rw [hF, hTh] at f1 f2
  have hold : ∀ x : Nat, x < H.size → F.heap[x]? = H[x]? := fun x hx => by
    have := Jvm.Free.Multi.fill_old (T.setVm vm₁) cA cy n.toNatClampNeg k.toNatClampNeg (defaultValue .long) (a := x) (by rw [hTh]; exact hx) n.toNatClampNeg
    rw [hF, hTh] at this
    exact this
  have hrow : ∀ j : Nat, j < n.toNatClampNeg → F.heap[H.size + 1 + j]? = some (Jvm.Free.Multi.innerC cy k.toNatClampNeg (defaultValue .long)) := fun j hj => by
    have := Jvm.Free.Multi.fill_inner (T.setVm vm₁) cA cy n.toNatClampNeg k.toNatClampNeg (defaultValue .long) n.toNatClampNeg j hj
    rw [hF, hTh] at this
    exact this
  rw [m_outer] at f2
  have hAr : ArrOfT s cA (.array .long) := fun N9 z9 => by
    obtain ⟨-, k9, hk9, cm9, hkk9⟩ := (hO 0 0 0).1
    exact ⟨(fun q hq => by cases hq), k9, hk9, cm9, hkk9⟩
  have hAr2 : ArrOfT s cy .long := fun N9 z9 => by
    obtain ⟨-, k9, hk9, cm9, hkk9⟩ := (hI 0 .null).1
    exact ⟨(fun q hq => by cases hq), k9, hk9, cm9, hkk9⟩
  have hz1 : F.heap.size = H.size + 1 + n.toNatClampNeg := by rw [f1]
  have eTh : T.heap.size = Th.1 := by rw [hT]; exact R.1
  have hR1 : m_R D s b (m_gr Th n.toNatClampNeg k.toNatClampNeg) (m_gM M Th.1 n.toNatClampNeg) F.heap := by
    refine ⟨by (rw [hz1, R.1]; try rfl), by rw [hz1]; have := R.2.1; omega, R.2.2.1.kept (fun q hq _ => hold q hq), fun q t ht => ?_⟩
    have hTh1 := R.1
    by_cases q1 : q = Th.1
    · subst q1
      have : t = .inr (.array .long, false, n.toNatClampNeg) := by
        have h1 : (m_gr Th n.toNatClampNeg k.toNatClampNeg).2.2 Th.1 = some (.inr (.array .long, false, n.toNatClampNeg)) := if_pos rfl
        exact Option.some.inj (ht.symm.trans h1)
      subst this
      refine ⟨by rw [← R.1]; exact R.2.1, cA, hAr, fA, ?_⟩
      rw [← R.1, f2]
      congr 2
      funext j
      show va_rf _ = va_rf (if H.size = H.size ∧ j < n.toNatClampNeg then some (H.size + 1 + j) else M.2.2 H.size j)
      by_cases hj : j < n.toNatClampNeg
      · rw [if_pos hj, if_pos ⟨rfl, hj⟩]
      · rw [if_neg hj, if_neg (fun h => hj h.2), (hz H.size j (by omega)).2.2]
    · by_cases q2 : Th.1 < q ∧ q < Th.1 + 1 + n.toNatClampNeg
      · have : t = .inr (.long, false, k.toNatClampNeg) := by
          have h1 : (m_gr Th n.toNatClampNeg k.toNatClampNeg).2.2 q = some (.inr (.long, false, k.toNatClampNeg)) := (if_neg q1).trans (if_pos q2)
          exact Option.some.inj (ht.symm.trans h1)
        subst this
        refine ⟨by have := R.2.1; omega, cy, hAr2, fC, ?_⟩
        have h3 := hrow (q - Th.1 - 1) (by omega)
        rw [show H.size + 1 + (q - Th.1 - 1) = q by omega] at h3
        rw [h3]
        show some ({ cls := cy, slots := Array.replicate k.toNatClampNeg (defaultValue .long), vm := .none } : Cell) = _
        rw [arrV_new]
        congr 2
        funext j
        show defaultValue .long = Value.long (M.2.1 q j)
        rw [(hz q j (by omega)).2.1]
        rfl
      · have h1 : Th.2.2 q = some t := by
          have h2 : (m_gr Th n.toNatClampNeg k.toNatClampNeg).2.2 q = Th.2.2 q := (if_neg q1).trans (if_neg q2)
          exact h2.symm.trans ht
        have h2 := R.2.2.2 q t h1
        refine h2.kept (hold q h2.lt) (fun ty j => ?_)
        have : (m_gM M Th.1 n.toNatClampNeg).2.2 q j = M.2.2 q j := if_neg (fun h => q1 h.1)
        cases ty <;> simp [m_val, this] <;> rfl
  obtain ⟨t, a1, b1⟩ := kk p l e s m args below meth c0 D b F.heap locs ls X hb hR1 ⟨by rw [hz1]; have := S.1; omega, fun x h1 h2 => (hold x (Nat.lt_of_lt_of_le h1 S.1)).trans (S.2.1 x h1 h2), S.2.2⟩ hl F rfl X'
  refine ⟨t, step t ?_, b1⟩
  rw [eTh]
  exact a1
end MG
