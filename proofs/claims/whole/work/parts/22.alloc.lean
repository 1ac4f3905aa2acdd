/-! ===== WHAT IS MADE ===== -/
def m_al (Th : mT) (t : mK) : mT := (Th.1 + 1, Th.2.1, fun q => if q = Th.1 then some t else Th.2.2 q)
/-- from the heap's end on, nothing but noughts -/
def m_Zr (Th : mT) (M : mM) : Prop := ∀ q k, Th.1 ≤ q → M.1 q k = 0 ∧ M.2.1 q k = 0 ∧ M.2.2 q k = none
theorem m_Zr.al {Th : mT} {t : mK} {M : mM} (h : m_Zr Th M) : m_Zr (m_al Th t) M := fun q k hq => h q k (Nat.le_of_succ_le hq)
theorem m_Zr.ui {Th : mT} {M : mM} {a k : Nat} {x : Int32} (h : m_Zr Th M) (ha : a < Th.1) : m_Zr Th (m_ui M a k x) := fun q j hq => by
  have := h q j hq
  exact ⟨by show m_u _ _ _ _ _ _ = _; rw [m_u_ne (by omega)]; exact this.1, this.2.1, this.2.2⟩
theorem m_Zr.ur {Th : mT} {M : mM} {a k : Nat} {x : Option Nat} (h : m_Zr Th M) (ha : a < Th.1) : m_Zr Th (m_ur M a k x) := fun q j hq => by
  have := h q j hq
  exact ⟨this.1, this.2.1, by show m_u _ _ _ _ _ _ = _; rw [m_u_ne (by omega)]; exact this.2.2⟩
def m_zt (ty : FieldType) : Bool := match ty with | .float => false | .double => false | _ => true
theorem m_zval {ty : FieldType} (h : m_zt ty = true) {M : mM} {a k : Nat} (hz : M.1 a k = 0 ∧ M.2.1 a k = 0 ∧ M.2.2 a k = none) : defaultValue ty = m_val ty M a k := by
  obtain ⟨h1, h2, h3⟩ := hz
  cases ty <;> first | (simp [m_val, defaultValue, h1, h2, h3, va_rf]; done) | cases h
/-- a new cell at the heap's end -/
theorem m_R.al {D : va_G} {s : State} {b : Nat} {Th : mT} {M : mM} {H H1 : Heap} {t : mK} (h : m_R D s b Th M H) (hz : H1.size = H.size + 1) (hq : ∀ q, q < H.size → H1[q]? = H[q]?) (hat : m_at D s b M H1 Th.1 t) : m_R D s b (m_al Th t) M H1 := by
  refine ⟨by rw [hz, h.1]; rfl, by rw [hz]; exact Nat.le_succ_of_le h.2.1, h.2.2.1.kept (fun q hl _ => hq q hl), fun q t' ht => ?_⟩
  by_cases e : q = Th.1
  · subst e
    have : t' = t := by
      have h1 : (m_al Th t).2.2 Th.1 = some t := if_pos rfl
      exact Option.some.inj (ht.symm.trans h1)
    subst this
    exact hat
  · have h1 : Th.2.2 q = some t' := by
      have h2 : (m_al Th t).2.2 q = Th.2.2 q := if_neg e
      exact h2.symm.trans ht
    have h2 := h.2.2.2 q t' h1
    exact h2.kept (hq q h2.lt) (fun _ _ => rfl)
theorem va_S.al {A : Nat → Prop} {H0 H H1 : Heap} {locs : List Loc} (S : va_S A H0 H locs) (hz : H1.size = H.size + 1) (hq : ∀ q, q < H.size → H1[q]? = H[q]?) : va_S A H0 H1 locs :=
  ⟨Nat.le_trans S.1 (by omega), fun q h1 h2 => (hq q (Nat.lt_of_lt_of_le h1 S.1)).trans (S.2.1 q h1 h2), S.2.2⟩
section MA
variable {d mc ms : Nat} {yy : MethodName} {cc : ByteArray} {nL : Nat} {ret : Option FieldType} {Q : mQ} {pc : Nat} {lv : List (Nat × Value)} {rest : List Value} {Th : mT} {M : mM} {cells slots : Nat}
theorem m_new {index c N : Nat} {C : String} {T : u_T} (hc : vwCl[c]? = some (C, T, N)) (hin : ∀ w ∈ u_ws C T N, w ∈ lw_ok) (hty : ∀ k, k < N → parseFieldDescriptor (T k).2.2.1 = some (m_ty c k)) (hk : ∀ k, k < N → m_zt (m_ty c k) = true) (hcl : Cond.classLink yy.cls index C ∈ lw_ok) (hinst : Cond.instantiable C N ∈ lw_ok) (hini : Cond.initialized C ∈ lw_ok) (hcells : cells + 1 ≤ mc) (hslots : slots + N ≤ ms) (hz : m_Zr Th M) (hd : decode cc pc = .ok (.new index, 3))
    (kk : m_W d mc ms yy cc nL ret Q (pc + 3) lv (.ref Th.1 :: rest) (m_al Th (.inl c)) M (cells + 1) (slots + N)) : m_W d mc ms yy cc nL ret Q pc lv rest Th M cells slots := by
  intro p l e s m args below meth c0 D b H locs ls X hb R S hl
  obtain ⟨hx, hbytes, hret, hml, hown, hts, hlocks, hname, hK⟩ := id X
  have hKn := hK.1.1 c _ hc
  refine W.newcK hx hbytes hown (hts _ hcl) (hts _ hinst) (hts _ hini) rfl hd hcells hslots hKn.2.1 R.1 fun H1 kC hkC e1 z1 o1 => ?_
  have hz1 : H1.size = H.size + 1 := by rw [z1, R.1]
  have ho1 : ∀ q, q < H.size → H1[q]? = H[q]? := fun q hq => o1 q (by rw [← R.1]; exact hq)
  refine kk _ _ _ _ _ _ _ _ _ _ _ _ _ _ X hb (R.al hz1 ho1 ?_) (S.al hz1 ho1) hl
  refine ⟨by rw [← R.1]; exact R.2.1, _, hc, (u_born (m_ty c) hts hin hKn hkC e1 hty).to (fun k hk' => ?_)⟩
  exact m_zval (hk k hk') (hz _ _ (Nat.le_refl _))
theorem m_newa {atype : ArrayType} {ty : FieldType} {n : Int32} {N : Nat} (harr : Cond.arrayClass (newarray.typeOf atype) ∈ lw_ok) (hty : newarray.typeOf atype = ty) (hk : m_zt ty = true) (hn : ¬ n < 0) (hN : n.toNatClampNeg = N) (hbytes : N * componentBytes ty ≤ 536870912) (hcells : cells + 1 ≤ mc) (hslots : slots + N ≤ ms) (hz : m_Zr Th M) (hd : decode cc pc = .ok (.newarray atype, 2))
    (kk : m_W d mc ms yy cc nL ret Q (pc + 2) lv (.ref Th.1 :: rest) (m_al Th (.inr (ty, false, N))) M (cells + 1) (slots + N)) : m_W d mc ms yy cc nL ret Q pc lv (.int n :: rest) Th M cells slots := by
  intro p l e s m args below meth c0 D b H locs ls X hb R S hl
  obtain ⟨hx, hby, hret, hml, hown, hts, hlocks, hname, hK⟩ := id X
  subst hty
  refine va_newaK hx hby (hts _ harr) rfl hd rfl hn hN hbytes hcells hslots R.1 fun H1 cA e1 z1 o1 hAr hNm => ?_
  have hz1 : H1.size = H.size + 1 := by rw [z1, R.1]
  have ho1 : ∀ q, q < H.size → H1[q]? = H[q]? := fun q hq => o1 q (by rw [← R.1]; exact hq)
  refine kk _ _ _ _ _ _ _ _ _ _ _ _ _ _ X hb (R.al hz1 ho1 ?_) (S.al hz1 ho1) hl
  refine ⟨by rw [← R.1]; exact R.2.1, cA, hAr, by cases atype <;> exact hNm, ?_⟩
  rw [e1]
  congr 2
  funext j
  exact m_zval hk (hz _ _ (Nat.le_refl _))
theorem m_anew {index N : Nat} {n : Int32} (hcl : Cond.classLink yy.cls index RX8 ∈ lw_ok) (hn : ¬ n < 0) (hN : n.toNatClampNeg = N) (hbytes : N * 4 ≤ 536870912) (hcells : cells + 1 ≤ mc) (hslots : slots + N ≤ ms) (hz : m_Zr Th M) (hd : decode cc pc = .ok (.anewarray index, 3))
    (kk : m_W d mc ms yy cc nL ret Q (pc + 3) lv (.ref Th.1 :: rest) (m_al Th (.inr (.object RX8, false, N))) M (cells + 1) (slots + N)) : m_W d mc ms yy cc nL ret Q pc lv (.int n :: rest) Th M cells slots := by
  intro p l e s m args below meth c0 D b H locs ls X hb R S hl
  obtain ⟨hx, hby, hret, hml, hown, hts, hlocks, hname, hK⟩ := id X
  subst hN
  refine W.anew hx hby hown (hts _ hcl) (va_AO.use hK.2.1) rfl hd rfl hn hbytes hcells hslots fun cA kA comp f1 f2 f3 f4 => ?_
  generalize hH1 : H.push ({ cls := cA, slots := Array.replicate n.toNatClampNeg .null, vm := .none } : Cell) = H1
  have hz1 : H1.size = H.size + 1 := by rw [← hH1, Array.size_push]
  have e1 : H1[H.size]? = some (arrV cA n.toNatClampNeg (fun _ => .null)) := by rw [← hH1, Array.getElem?_push_size, ← arrV_new]
  have ho1 : ∀ q : Nat, q < H.size → H1[q]? = H[q]? := fun q hq => by rw [← hH1, Array.getElem?_push, if_neg (Nat.ne_of_lt hq)]
  have hAr : ArrOfT s cA (.object RX8) := fun N z => ⟨(fun k h => by cases h), kA, f2, comp, f3⟩
  rw [R.1] at e1 ⊢
  refine kk _ _ _ _ _ _ _ _ _ _ _ _ _ _ X hb (R.al hz1 ho1 ?_) (S.al hz1 ho1) hl
  refine ⟨by rw [← R.1]; exact R.2.1, cA, hAr, ⟨kA, comp, f2, f3, f4, f1⟩, ?_⟩
  rw [e1]
  congr 2
  funext j
  exact m_zval (ty := .object RX8) rfl (hz _ _ (Nat.le_refl _))
theorem m_obj {index : Nat} {a : Nat} (hlink : Cond.methodLink yy.cls index Lib.objectInit ∈ lw_ok) (hrest : (rest.map fun v => v.category).sum ≤ 14) (hdd : 1 ≤ d) (hd : decode cc pc = .ok (.invokespecial index, 3)) (kk : m_W d mc ms yy cc nL ret Q (pc + 3) lv rest Th M cells slots) : m_W d mc ms yy cc nL ret Q pc lv (.ref a :: rest) Th M cells slots := by
  intro p l e s m args below meth c0 D b H locs ls X hb R S hl
  obtain ⟨hx, hby, hret, hml, hown, hts, hlocks, hname, hK⟩ := id X
  exact W.objInit hx hby hown (hts _ hlink) (hts _ (by decide +kernel)) (hts _ (by decide +kernel)) rfl (by rw [hml]; exact hl.1) rfl hd hdd (by show 2 * 0 + _ + 12 ≤ 41 * d + 32; omega) (kk _ _ _ _ _ _ _ _ _ _ _ _ _ _ X hb R S hl)
end MA
