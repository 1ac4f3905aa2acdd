/-! ===== THE MEMORY: ints, longs and references by address and place (a field's number, an array's index); what stands where ===== -/
abbrev mM : Type := (Nat → Nat → Int32) × (Nat → Nat → Int64) × (Nat → Nat → Option Nat)
/-- an object of a class's number; or an array: its elements' type, read only, its length -/
abbrev mK : Type := Nat ⊕ (FieldType × Bool × Nat)
/-- the heap's size, where the letters stand, what stands where -/
abbrev mT : Type := Nat × Nat × (Nat → Option mK)
def m_val (ty : FieldType) (M : mM) (a k : Nat) : Value := match ty with
  | .long => .long (M.2.1 a k)
  | .object _ => va_rf (M.2.2 a k)
  | .array _ => va_rf (M.2.2 a k)
  | _ => .int (M.1 a k)
def m_u {α : Type} (f : Nat → Nat → α) (a k : Nat) (x : α) : Nat → Nat → α := fun a' k' => if a' = a ∧ k' = k then x else f a' k'
theorem m_u_eq {α : Type} {f : Nat → Nat → α} {a k : Nat} {x : α} : m_u f a k x a k = x := if_pos ⟨rfl, rfl⟩
theorem m_u_ne {α : Type} {f : Nat → Nat → α} {a k a' k' : Nat} {x : α} (h : a' ≠ a) : m_u f a k x a' k' = f a' k' := if_neg fun q => h q.1
theorem m_u_nk {α : Type} {f : Nat → Nat → α} {a k a' k' : Nat} {x : α} (h : k' ≠ k) : m_u f a k x a' k' = f a' k' := if_neg fun q => h q.2
abbrev m_ui (M : mM) (a k : Nat) (x : Int32) : mM := (m_u M.1 a k x, M.2.1, M.2.2)
abbrev m_ul (M : mM) (a k : Nat) (x : Int64) : mM := (M.1, m_u M.2.1 a k x, M.2.2)
abbrev m_ur (M : mM) (a k : Nat) (x : Option Nat) : mM := (M.1, M.2.1, m_u M.2.2 a k x)
def m_at (D : va_G) (s : State) (b : Nat) (M : mM) (H : Heap) (q : Nat) (t : mK) : Prop := match t with
  | .inl c => b ≤ q ∧ ∃ r : vw_C, vwCl[c]? = some r ∧ t_OB q (D.1 c) r.2.2 (D.2 c) H (fun k => m_val (m_ty c k) M q k)
  | .inr (ty, true, n) => q < b ∧ ∃ cell : Cell, H[q]? = some cell ∧ s.isArrayOf cell ty ∧ cell.vm ≠ .unknown ∧ n ≤ cell.slots.size ∧ cell.slots.size.toInt32 = Int32.ofNat n ∧ ∀ j : Nat, j < n → cell.slots[j]? = some (m_val ty M q j)
  | .inr (ty, false, n) => b ≤ q ∧ ∃ cA : ClassId, ArrOfT s cA ty ∧ va_RA s cA ty ∧ H[q]? = some (arrV cA n (fun j => m_val ty M q j))
theorem m_at.lt {D : va_G} {s : State} {b : Nat} {M : mM} {H : Heap} {q : Nat} {t : mK} (h : m_at D s b M H q t) : q < H.size := by
  match t, h with
  | .inl c, ⟨_, _, _, _, h, _⟩ => exact (Array.getElem?_eq_some_iff.mp h).1
  | .inr (ty, true, n), ⟨_, _, h, _⟩ => exact (Array.getElem?_eq_some_iff.mp h).1
  | .inr (ty, false, n), ⟨_, _, _, _, h⟩ => exact (Array.getElem?_eq_some_iff.mp h).1
theorem m_at.moved {D : va_G} {s U : State} {b : Nat} {M : mM} {H : Heap} {q : Nat} {t : mK} (hvm : s.vm.Alike U.vm) (h : m_at D s b M H q t) : m_at D U b M H q t := by
  match t, h with
  | .inl c, h => exact h
  | .inr (ty, true, n), ⟨h0, cel, h1, h2, h3⟩ => exact ⟨h0, cel, h1, State.isArrayOf_alike hvm h2, h3⟩
  | .inr (ty, false, n), ⟨h0, cA, h1, h2, h3⟩ => exact ⟨h0, cA, arrOfT_moved hvm h1, h2.moved hvm, h3⟩
/-- a cell that stays, whose numbers stay -/
theorem m_at.kept {D : va_G} {s : State} {b : Nat} {M M1 : mM} {H H1 : Heap} {q : Nat} {t : mK} (h : m_at D s b M H q t) (hH : H1[q]? = H[q]?) (hM : ∀ ty k, m_val ty M1 q k = m_val ty M q k) : m_at D s b M1 H1 q t := by
  match t, h with
  | .inl c, ⟨h0, r, h1, h2⟩ => exact ⟨h0, r, h1, (h2.kept hH).to (fun k _ => (hM _ k).symm)⟩
  | .inr (ty, true, n), ⟨h0, cel, h1, h2, h3, h4, h6, h5⟩ => exact ⟨h0, cel, hH.trans h1, h2, h3, h4, h6, fun j hj => by rw [hM]; exact h5 j hj⟩
  | .inr (ty, false, n), ⟨h0, cA, h1, h2, h3⟩ => exact ⟨h0, cA, h1, h2, by rw [hH, h3]; congr 2; funext j; exact (hM _ j).symm⟩
def m_R (D : va_G) (s : State) (b : Nat) (Th : mT) (M : mM) (H : Heap) : Prop :=
  H.size = Th.1 ∧ b ≤ H.size ∧ va_Z RX4 "LETTERS" "[C" (.ref Th.2.1) (fun q => b ≤ q) s H ∧ ∀ (q : Nat) (t : mK), Th.2.2 q = some t → m_at D s b M H q t
theorem m_R.moved {D : va_G} {s U : State} {b : Nat} {Th : mT} {M : mM} {H : Heap} (hvm : s.vm.Alike U.vm) (h : m_R D s b Th M H) : m_R D U b Th M H :=
  ⟨h.1, h.2.1, h.2.2.1.moved hvm, fun q t ht => (h.2.2.2 q t ht).moved hvm⟩
/-- one cell is written -/
theorem m_R.put {D : va_G} {s : State} {b : Nat} {Th : mT} {M M1 : mM} {H H1 : Heap} {a : Nat} (h : m_R D s b Th M H) (ha : b ≤ a) (hz : H1.size = H.size) (hq : ∀ q, q ≠ a → H1[q]? = H[q]?) (hM : ∀ q, q ≠ a → ∀ ty k, m_val ty M1 q k = m_val ty M q k) (hat : ∀ t, Th.2.2 a = some t → m_at D s b M1 H1 a t) : m_R D s b Th M1 H1 := by
  refine ⟨hz.trans h.1, by rw [hz]; exact h.2.1, h.2.2.1.kept (fun q _ hb => hq q (fun e => hb (e ▸ ha))), fun q t ht => ?_⟩
  by_cases e : q = a
  · subst e; exact hat t ht
  · exact (h.2.2.2 q t ht).kept (hq q e) (hM q e)
theorem m_val_ui {M : mM} {a k : Nat} {x : Int32} : ∀ q, q ≠ a → ∀ ty j, m_val ty (m_ui M a k x) q j = m_val ty M q j := by
  intro q h ty j
  cases ty <;> simp [m_val, m_u_ne h]
theorem m_val_ul {M : mM} {a k : Nat} {x : Int64} : ∀ q, q ≠ a → ∀ ty j, m_val ty (m_ul M a k x) q j = m_val ty M q j := by
  intro q h ty j
  cases ty <;> simp [m_val, m_u_ne h]
theorem m_val_ur {M : mM} {a k : Nat} {x : Option Nat} : ∀ q, q ≠ a → ∀ ty j, m_val ty (m_ur M a k x) q j = m_val ty M q j := by
  intro q h ty j
  cases ty <;> simp [m_val, m_u_ne h]
/-- kinds: what a type's values are -/
def m_isI (ty : FieldType) : Bool := match ty with | .long => false | .object _ => false | .array _ => false | _ => true
def m_isR (ty : FieldType) : Bool := match ty with | .object _ => true | .array _ => true | _ => false
theorem m_valI {ty : FieldType} (h : m_isI ty = true) (M : mM) (a k : Nat) : m_val ty M a k = .int (M.1 a k) := by
  cases ty <;> first | rfl | cases h
theorem m_valR {ty : FieldType} (h : m_isR ty = true) (M : mM) (a k : Nat) : m_val ty M a k = va_rf (M.2.2 a k) := by
  cases ty <;> first | rfl | cases h
theorem m_updI {ty : FieldType} (h : m_isI ty = true) (M : mM) (a k : Nat) (x : Int32) : updV (fun j => m_val ty M a j) k (.int x) = fun j => m_val ty (m_ui M a k x) a j := by
  funext j
  by_cases e : j = k
  · subst e; simp [updV, m_valI h, m_u_eq]
  · simp [updV, m_valI h, e, m_u_nk e]
theorem m_updL (M : mM) (a k : Nat) (x : Int64) : updV (fun j => m_val .long M a j) k (.long x) = fun j => m_val .long (m_ul M a k x) a j := by
  funext j
  by_cases e : j = k
  · subst e; simp [updV, m_val, m_u_eq]
  · simp [updV, m_val, e, m_u_nk e]
theorem m_updR {ty : FieldType} (h : m_isR ty = true) (M : mM) (a k : Nat) (x : Option Nat) : updV (fun j => m_val ty M a j) k (va_rf x) = fun j => m_val ty (m_ur M a k x) a j := by
  funext j
  by_cases e : j = k
  · subst e; simp [updV, m_valR h, m_u_eq]
  · simp [updV, m_valR h, e, m_u_nk e]
