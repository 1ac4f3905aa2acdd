/-! ===== THE LAW, READ: from a place on (and a number of codes already there): the place behind, a fault; the codes, what they mean ===== -/
/-- what the letters mean, by the class's places: c b q h r t n f -/
abbrev lE : Type := Nat → Int32
/-- a value, and whether it is refused -/
abbrev lD : Type := lE → Int32 × Bool
abbrev lR : Type := (Nat × Nat) × (List Int × lD)
def lsg (w : Nat → Int) (L i : Nat) : Int := if i < L then w i else -1
def lbad (i f : Nat) : lR := ((i, f), ([], fun _ => (0, false)))
/-- a letter: its place in the class, in the model -/
def llt (g : Int) : Option (Nat × Nat) := if g = 99 then some (0, 0) else if g = 98 then some (1, 4) else if g = 113 then some (2, 7) else if g = 104 then some (3, 1) else if g = 114 then some (4, 3) else if g = 116 then some (5, 2) else if g = 110 then some (6, 5) else if g = 102 then some (7, 6) else none
def isD (g : Int) : Bool := decide (48 ≤ g) && decide (g ≤ 57)
def ldig (w : Nat → Int) (L : Nat) : Nat → Nat → Int → Nat × Int
  | 0, i, v => (i, v)
  | n + 1, i, v => if isD (lsg w L i) then ldig w L n (i + 1) (10 * v + lsg w L i - 48) else (i, v)
def lfac (w : Nat → Int) (L : Nat) (sub : Option (Nat → Nat → lR)) (i c : Nat) : lR :=
  if isD (lsg w L i) then
    (if isD (lsg w L (ldig w L 5 i 0).1) then lbad (ldig w L 5 i 0).1 2 else (((ldig w L 5 i 0).1, 0), ([(ldig w L 5 i 0).2], fun _ => (jI (ldig w L 5 i 0).2, false))))
  else if lsg w L i = 91 then
    (match sub with
    | none => lbad i 5
    | some S => if (S (i + 1) c).1.2 ≠ 0 then S (i + 1) c else if lsg w L (S (i + 1) c).1.1 = 93 then (((S (i + 1) c).1.1 + 1, 0), (S (i + 1) c).2) else lbad (S (i + 1) c).1.1 1)
  else
    (match llt (lsg w L i) with
    | some (k, kk) => ((i + 1, 0), ([1048576 + (kk : Int)], fun e => (e k, false)))
    | none => lbad i 1)
/-- a sign's number in the code -/
def lop (g : Int) : Int := if g = 43 then 2 else if g = 45 then 3 else if g = 42 then 4 else if g = 47 then 5 else if g = 37 then 6 else if g = 60 then 7 else if g = 62 then 8 else 9
/-- two values by a sign -/
def lcb (g : Int) (x y : Int32) : Int32 × Bool :=
  if g = 43 then (x + y, false) else if g = 45 then (x - y, false) else if g = 42 then (x * y, false)
  else if g = 47 ∨ g = 37 then (if y = 0 then (0, true) else if g = 47 then (x / y, false) else (x - x / y * y, false))
  else if g = 60 then (if y ≤ x then 0 else 1, false) else if g = 62 then (if x ≤ y then 0 else 1, false) else (if x = y then 1 else 0, false)
/-- what follows joined to what stands: numbers -/
def ljn (g : Int) (a r : lR) : lR := if r.1.2 ≠ 0 then r else (r.1, (a.2.1 ++ r.2.1 ++ [1048576 * lop g], fun e => ((lcb g (a.2.2 e).1 (r.2.2 e).1).1, (a.2.2 e).2 || (r.2.2 e).2 || (lcb g (a.2.2 e).1 (r.2.2 e).1).2)))
/-- likewise: truths; by a jump to behind -/
def ljb (orr : Bool) (c : Nat) (a r : lR) : lR := if r.1.2 ≠ 0 then r else (r.1, (a.2.1 ++ [1048576 * (if orr then 12 else 11) + ((c + a.2.1.length + 1 + r.2.1.length : Nat) : Int)] ++ r.2.1,
  fun e => (if ((a.2.2 e).1 = 0 ↔ orr = false) then (a.2.2 e).1 else (r.2.2 e).1, (a.2.2 e).2 || (if ((a.2.2 e).1 = 0 ↔ orr = false) then false else (r.2.2 e).2))))
def isS (g : Int) : Bool := decide (g = 43) || decide (g = 45)
def isP (g : Int) : Bool := decide (g = 42) || decide (g = 47) || decide (g = 37)
def lloop (w : Nat → Int) (L : Nat) (T : Int → Bool) (p : Nat) (F : Nat → Nat → lR) (J : Int → lR → lR → lR) (c : Nat) : Nat → lR → lR
  | 0, a => a
  | n + 1, a => if a.1.2 = 0 ∧ T (lsg w L a.1.1) = true then lloop w L T p F J c n (J (lsg w L a.1.1) a (F (a.1.1 + 1) (c + a.2.1.length + p))) else a
def lprd (w : Nat → Int) (L : Nat) (sub : Option (Nat → Nat → lR)) (i c : Nat) : lR := lloop w L isP 0 (lfac w L sub) ljn c 200 (lfac w L sub i c)
def lsmo (w : Nat → Int) (L : Nat) (sub : Option (Nat → Nat → lR)) (i c : Nat) : lR := lloop w L isS 0 (lprd w L sub) ljn c 200 (lprd w L sub i c)
/-- a sum with so many that may still be opened -/
def lsum (w : Nat → Int) (L : Nat) : Nat → Nat → Nat → lR
  | 0 => lsmo w L none
  | k + 1 => lsmo w L (some (lsum w L k))
def lsub (w : Nat → Int) (L : Nat) (k : Nat) : Option (Nat → Nat → lR) := match k with | 0 => none | k + 1 => some (lsum w L k)
theorem lsum_eq (w : Nat → Int) (L k : Nat) : lsum w L k = lsmo w L (lsub w L k) := by cases k <;> rfl
def isC (g : Int) : Bool := decide (g = 60) || decide (g = 62) || decide (g = 61)
def lcmp (w : Nat → Int) (L k i c : Nat) : lR :=
  if (lsum w L k i c).1.2 ≠ 0 then lsum w L k i c
  else if isC (lsg w L (lsum w L k i c).1.1) then ljn (lsg w L (lsum w L k i c).1.1) (lsum w L k i c) (lsum w L k ((lsum w L k i c).1.1 + 1) (c + (lsum w L k i c).2.1.length))
  else lbad (lsum w L k i c).1.1 1
def lnot (r : lR) : lR := if r.1.2 ≠ 0 then r else (r.1, (r.2.1 ++ [1048576 * 10], fun e => (if (r.2.2 e).1 = 0 then 1 else 0, (r.2.2 e).2)))
def lpar (w : Nat → Int) (L : Nat) (r : lR) : lR := if r.1.2 ≠ 0 then r else if lsg w L r.1.1 = 41 then ((r.1.1 + 1, 0), r.2) else lbad r.1.1 1
def lallo (w : Nat → Int) (L : Nat) (P : Nat → Nat → lR) (i c : Nat) : lR := lloop w L (fun g => decide (g = 38)) 1 P (fun _ => ljb false c) c 200 (P i c)
def lanyo (w : Nat → Int) (L : Nat) (P : Nat → Nat → lR) (i c : Nat) : lR := lloop w L (fun g => decide (g = 124)) 1 (lallo w L P) (fun _ => ljb true c) c 200 (lallo w L P i c)
def lpie (w : Nat → Int) (L : Nat) : Nat → Nat → Nat → lR
  | 0 => fun i c => if lsg w L i = 33 ∨ lsg w L i = 40 then lbad i 5 else lcmp w L 0 i c
  | k + 1 => fun i c => if lsg w L i = 33 then lnot (lpie w L k (i + 1) c) else if lsg w L i = 40 then lpar w L (lanyo w L (lpie w L k) (i + 1) c) else lcmp w L (k + 1) i c
/-- a clause: place behind, fault; its letter; E; C -/
abbrev lC : Type := (Nat × Nat) × Int × (List Int × lD) × (List Int × lD)
def lcbad (i f : Nat) : lC := ((i, f), 0, ([], fun _ => (0, false)), ([], fun _ => (0, false)))
def lcE (w : Nat → Int) (L i c : Nat) : lR := lsum w L 6 (i + 1) c
def lcC (w : Nat → Int) (L i c : Nat) : lR := lanyo w L (lpie w L 5) ((lcE w L i c).1.1 + 1) (c + (lcE w L i c).2.1.length)
def lcl (w : Nat → Int) (L i n c : Nat) : lC :=
  if ¬ (lsg w L i = 115 ∨ lsg w L i = 101) then lcbad i 1
  else if 14 ≤ n then lcbad i 4
  else if (lcE w L i c).1.2 ≠ 0 then lcbad (lcE w L i c).1.1 (lcE w L i c).1.2
  else if lsg w L (lcE w L i c).1.1 ≠ 40 then lcbad (lcE w L i c).1.1 1
  else if (lcC w L i c).1.2 ≠ 0 then lcbad (lcC w L i c).1.1 (lcC w L i c).1.2
  else if lsg w L (lcC w L i c).1.1 ≠ 41 then lcbad (lcC w L i c).1.1 1
  else (((lcC w L i c).1.1 + 1, 0), lsg w L i, (lcE w L i c).2, (lcC w L i c).2)
/-- how many codes a clause has -/
def lcn (a : lC) : Nat := a.2.2.1.1.length + a.2.2.2.1.length
/-- all clauses from a place on: place behind, fault, the clauses -/
def lall (w : Nat → Int) (L : Nat) : Nat → Nat → Nat → Nat → (Nat × Nat) × List lC
  | 0, i, _, _ => ((i, 1), [])
  | u + 1, i, n, c => if (lcl w L i n c).1.2 ≠ 0 then ((lcl w L i n c).1, [])
    else if lsg w L (lcl w L i n c).1.1 = 59 then ((lall w L u ((lcl w L i n c).1.1 + 1) (n + 1) (c + lcn (lcl w L i n c))).1, lcl w L i n c :: (lall w L u ((lcl w L i n c).1.1 + 1) (n + 1) (c + lcn (lcl w L i n c))).2)
    else if (lcl w L i n c).1.1 < L then (((lcl w L i n c).1.1, 1), [])
    else (((lcl w L i n c).1.1, 0), [lcl w L i n c])
/-- the whole text -/
def ltx (w : Nat → Int) (L : Nat) : (Nat × Nat) × List lC := lall w L 15 0 0 0
/-- the E of the first clause of a letter whose C holds -/
def lval (g : Int) (e : lE) : List lC → Int32
  | [] => 0
  | a :: t => if a.2.1 = g ∧ (a.2.2.2.2 e).1 ≠ 0 ∧ (a.2.2.2.2 e).2 = false then (if (a.2.2.1.2 e).2 then 0 else (a.2.2.1.2 e).1) else lval g e t
/-! places and faults -/
theorem lbad_f {i f : Nat} : (lbad i f).1 = (i, f) := rfl
theorem ljn_f {g : Int} {a r : lR} : (ljn g a r).1 = r.1 := by unfold ljn; split <;> rfl
theorem ljb_f {o : Bool} {c : Nat} {a r : lR} : (ljb o c a r).1 = r.1 := by unfold ljb; split <;> rfl
theorem lnot_f {r : lR} : (lnot r).1 = r.1 := by unfold lnot; split <;> rfl
theorem lloop_bad {w : Nat → Int} {L p c n : Nat} {T : Int → Bool} {F : Nat → Nat → lR} {J : Int → lR → lR → lR} {a : lR} (h : a.1.2 ≠ 0) : lloop w L T p F J c n a = a := by
  cases n with
  | zero => rfl
  | succ n => unfold lloop; rw [if_neg (fun q => h q.1)]
theorem lloop_stop {w : Nat → Int} {L p c n : Nat} {T : Int → Bool} {F : Nat → Nat → lR} {J : Int → lR → lR → lR} {a : lR} (h : T (lsg w L a.1.1) = false) : lloop w L T p F J c n a = a := by
  cases n with
  | zero => rfl
  | succ n => unfold lloop; rw [if_neg (fun q => by rw [h] at q; cases q.2)]
theorem lloop_step {w : Nat → Int} {L p c n : Nat} {T : Int → Bool} {F : Nat → Nat → lR} {J : Int → lR → lR → lR} {a : lR} (h0 : a.1.2 = 0) (h : T (lsg w L a.1.1) = true) : lloop w L T p F J c (n + 1) a = lloop w L T p F J c n (J (lsg w L a.1.1) a (F (a.1.1 + 1) (c + a.2.1.length + p))) := by
  rw [lloop]; rw [if_pos ⟨h0, h⟩]
