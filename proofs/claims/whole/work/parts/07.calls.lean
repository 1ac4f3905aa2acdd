/-! ===== CALLS ===== -/
theorem m_gw_ok : ∀ w ∈ lw_ok, m_gw w = true := fun _ h => (List.mem_filter.mp h).2
theorem m_pay {args : Array Value} {s : State} (hts : ∀ w ∈ lw_ok, w.before args s = true) : ∀ w ∈ lw_ok, ∀ (a' : Array Value) (U : State), s.WarmedH U.vm → w.before a' U = true := by
  intro w hw a' U hW
  have h1 := m_gw_ok w hw
  by_cases hn : ∃ a i x h, w = .methodLinkNest a i x h
  · obtain ⟨a, i, x, h, rfl⟩ := hn
    exact va_Nw.use rfl (va_Nw.warmM hW (va_Nw.of rfl (hts _ hw)))
  · have h2 : goodWord w = true := by
      unfold m_gw at h1
      split at h1
      · exact absurd ⟨_, _, _, _, rfl⟩ hn
      · exact h1
    exact word_at hW (good_of_word h2) (hts w hw)
/-- answers: nothing is made -/
abbrev m_qi (Th : mT) (Q : Int32 → mM → Prop) : mQ := fun v Th' M' => Th' = Th ∧ ∃ r, v = some (.int r) ∧ Q r M'
abbrev m_ql (Th : mT) (Q : Int64 → mM → Prop) : mQ := fun v Th' M' => Th' = Th ∧ ∃ r, v = some (.long r) ∧ Q r M'
abbrev m_qr (Th : mT) (Q : Nat → mM → Prop) : mQ := fun v Th' M' => Th' = Th ∧ ∃ r, v = some (.ref r) ∧ Q r M'
abbrev m_qv (Th : mT) (Q : mM → Prop) : mQ := fun v Th' M' => Th' = Th ∧ v = none ∧ Q M'
section MRUN
variable {p : Program} {l : Launch} {e : Env} {R : Room} {s : State} {m : MethodId} {args : Array Value} {below : List Frame} {meth : Method} {c : Code} {H : Heap} {locs : List Loc} {cells slots : Nat}
variable {y : MethodName} {bytes cc : ByteArray} {maxL nL mc ms n index : Nat} {ret : Option FieldType} {ws : List Cond} {rm : Room} {Pc : Array Value → State → Prop} {Qc : Array Value → State → Outcome → State → Prop} {free : Addr → Prop} {Ts : List Cond} {own C host : String} {b : Addr} {As rest : List Value} {g : JFrame}
abbrev m_CB (R : Room) (s : State) (args : Array Value) (y : MethodName) (bytes : ByteArray) (maxL : Nat) (ret : Option FieldType) (ws : List Cond) (rm : Room) (mc ms n : Nat) : Prop :=
  (rm.cells = mc ∧ rm.slots = ms ∧ rm.frames + 1 ≤ R.frames ∧ 14 + (maxL + 11) + rm.locals ≤ R.locals ∧ (∀ w ∈ ws, ∀ (a' : Array Value) (U : State), s.WarmedH U.vm → w.before a' U = true) ∧ Cond.code y bytes maxL ret ∈ ws) ∧
    (Cond.code y bytes maxL ret).before args s = true ∧ (Cond.initialized y.cls).before args s = true ∧ (y.cls ≠ "java/lang/invoke/MethodHandle" ∧ y.cls ≠ "java/lang/invoke/VarHandle") ∧ (∀ sig, parseMethodDescriptor y.desc = some sig → n = sig.parameters.length)
theorem m_runV (S : CallFix p m c cc nL s args Ts own) (hM : Met l y ws rm Pc Qc mc ms free) (cw : m_CB R s args y bytes maxL ret ws rm mc ms n) (hl : (Cond.methodLink own index y).before args s = true) (hin : (Cond.instanceMethod y).before args s = true) (hse : (Cond.selects C y y).before args s = true) (hp : PreV s H C b Pc As)
    (hg : g.method = m) (hn : As.length = n) (hsize : g.locals.size = nL) (hstack : g.stack = As.reverse ++ .ref b :: rest) (hW : 2 * g.monitorRoom + (rest.map fun v => v.category).sum ≤ 14) (hdg : decode cc g.pc = .ok (.invokevirtual index, 3)) (hf : cells + mc ≤ R.cells ∧ slots + ms ≤ R.slots) :
    va_Run p l e R s m args below meth c H locs cells slots mc ms g rest (Qc (Value.ref b :: As).toArray) (free) := by
  obtain ⟨⟨hrc, hrs, hfr, hlo, hws, hcw⟩, hcode, hini, hy, hlen⟩ := cw
  have hK : Back l R p e below s args y 3 14 (PreOf R mc ms Pc) (PostOf Qc mc ms free) := back_of (bytes := bytes) (maxL := maxL) (ret := ret) hM hp.1 hrc hrs hfr hlo hws hcw (fun a' U hW => word_at hW (Or.inl (by first | rfl | simp [Cond.onTables, Cond.keeps, Cond.steady])) hini)
  obtain ⟨hx, hb, hml, ho, -⟩ := S
  obtain ⟨-, ⟨cellB, hcB, hoB, hclB⟩, hPc⟩ := hp
  intro T hT X
  obtain ⟨v, vm₁, ⟨U', l2, c2, s2⟩, hW₁, X', ⟨g', mk, t, L, e1, e2, hq, h1, hL, h2, h3⟩, st⟩ := callV X hx (C := C) (bytes := bytes) (maxL := maxL) (ret := ret) ho hl hin hse hcode hy hK (by rw [hT]; exact hcB) hoB hclB hg (hsize.trans hml.symm) (argsL := As) (rest := rest) (fun sig h => hn.trans (hlen sig h)) hstack hW (by rw [hb]; exact hdg)
    (fun vm₁ hW₁ => ⟨hf.1, hf.2, hPc (T.setVm vm₁) hT hW₁⟩)
  dsimp only [Pt.U, Pt.locs, Pt.cells, Pt.slots] at X' e1 e2 h1 h2 h3 st
  subst h1; subst h2; subst h3
  exact ⟨v, (T.setVm vm₁).calling g' mk (Value.ref b :: As).toArray, t, U', L, hT, X', hL, e1, e2, hq, st⟩
theorem m_runS (S : CallFix p m c cc nL s args Ts own) (hM : Met l y ws rm Pc Qc mc ms free) (cw : m_CB R s args y bytes maxL ret ws rm mc ms n) (hl : (Cond.methodLink own index y).before args s = true) (hin : (Cond.static y).before args s = true) (hp : PreS s H Pc As)
    (hg : g.method = m) (hn : As.length = n) (hsize : g.locals.size = nL) (hstack : g.stack = As.reverse ++ rest) (hW : 2 * g.monitorRoom + (rest.map fun v => v.category).sum ≤ 14) (hdg : decode cc g.pc = .ok (.invokestatic index, 3)) (hf : cells + mc ≤ R.cells ∧ slots + ms ≤ R.slots) :
    va_Run p l e R s m args below meth c H locs cells slots mc ms g rest (Qc As.toArray) (free) := by
  obtain ⟨⟨hrc, hrs, hfr, hlo, hws, hcw⟩, hcode, hini, hy, hlen⟩ := cw
  have hK : Back l R p e below s args y 3 14 (PreOf R mc ms Pc) (PostOf Qc mc ms free) := back_of (bytes := bytes) (maxL := maxL) (ret := ret) hM hp.1 hrc hrs hfr hlo hws hcw (fun a' U hW => word_at hW (Or.inl (by first | rfl | simp [Cond.onTables, Cond.keeps, Cond.steady])) hini)
  obtain ⟨hx, hb, hml, ho, -⟩ := S
  have hPc := hp.2
  intro T hT X
  obtain ⟨v, vm₁, ⟨U', l2, c2, s2⟩, hW₁, X', ⟨g', mk, t, L, e1, e2, hq, h1, hL, h2, h3⟩, st⟩ := callS X hx (bytes := bytes) (maxL := maxL) (ret := ret) ho hl hin hini hcode hy hK hg (hsize.trans hml.symm) (argsL := As) (rest := rest) (fun sig h => hn.trans (hlen sig h)) hstack hW (by rw [hb]; exact hdg)
    (fun vm₁ hW₁ => ⟨hf.1, hf.2, hPc (T.setVm vm₁) hT hW₁⟩)
  dsimp only [Pt.U, Pt.locs, Pt.cells, Pt.slots] at X' e1 e2 h1 h2 h3 st
  subst h1; subst h2; subst h3
  exact ⟨v, (T.setVm vm₁).calling g' mk As.toArray, t, U', L, hT, X', hL, e1, e2, hq, st⟩
theorem m_runSN (S : CallFix p m c cc nL s args Ts own) (hM : Met l y ws rm Pc Qc mc ms free) (cw : m_CB R s args y bytes maxL ret ws rm mc ms n) (hl : (Cond.methodLinkNest own index y host).before args s = true) (hin : (Cond.static y).before args s = true) (hp : PreS s H Pc As)
    (hg : g.method = m) (hn : As.length = n) (hsize : g.locals.size = nL) (hstack : g.stack = As.reverse ++ rest) (hW : 2 * g.monitorRoom + (rest.map fun v => v.category).sum ≤ 14) (hdg : decode cc g.pc = .ok (.invokestatic index, 3)) (hf : cells + mc ≤ R.cells ∧ slots + ms ≤ R.slots) :
    va_Run p l e R s m args below meth c H locs cells slots mc ms g rest (Qc As.toArray) (free) := by
  obtain ⟨⟨hrc, hrs, hfr, hlo, hws, hcw⟩, hcode, hini, hy, hlen⟩ := cw
  have hK : Back l R p e below s args y 3 14 (PreOf R mc ms Pc) (PostOf Qc mc ms free) := back_of (bytes := bytes) (maxL := maxL) (ret := ret) hM hp.1 hrc hrs hfr hlo hws hcw (fun a' U hW => word_at hW (Or.inl (by first | rfl | simp [Cond.onTables, Cond.keeps, Cond.steady])) hini)
  obtain ⟨hx, hb, hml, ho, -⟩ := S
  have hPc := hp.2
  intro T hT X
  obtain ⟨v, vm₁, ⟨U', l2, c2, s2⟩, hW₁, X', ⟨g', mk, t, L, e1, e2, hq, h1, hL, h2, h3⟩, st⟩ := va_callSN X hx (bytes := bytes) (maxL := maxL) (ret := ret) ho hl hin hini hcode hy hK hg (hsize.trans hml.symm) (argsL := As) (rest := rest) (fun sig h => hn.trans (hlen sig h)) hstack hW (by rw [hb]; exact hdg)
    (fun vm₁ hW₁ => ⟨hf.1, hf.2, hPc (T.setVm vm₁) hT hW₁⟩)
  dsimp only [Pt.U, Pt.locs, Pt.cells, Pt.slots] at X' e1 e2 h1 h2 h3 st
  subst h1; subst h2; subst h3
  exact ⟨v, (T.setVm vm₁).calling g' mk As.toArray, t, U', L, hT, X', hL, e1, e2, hq, st⟩
end MRUN
section MC
variable {d mc ms : Nat} {yy : MethodName} {cc : ByteArray} {nL : Nat} {ret : Option FieldType} {Q : mQ} {pc : Nat} {lv : List (Nat × Value)} {rest st0 : List Value} {Th : mT} {M : mM} {cells slots : Nat}
variable {d' mc' ms' n index nL2 b2 ci : Nat} {y2 : MethodName} {cc2 : ByteArray} {ret2 : Option FieldType} {As : List Value} {host : String}
theorem m_blind {D : va_G} {b : Nat} {av : List Value} : FrameBlind (m_Pc D b av Th M) := by
  intro a U g mk ⟨h1, h2, h3⟩
  exact ⟨h1, m_Kn.moved (u := U) (U := U.calling g mk a) (Vm.Alike.refl U.vm) h2, m_R.moved (s := U) (U := U.calling g mk a) (Vm.Alike.refl U.vm) h3⟩
theorem m_start {D : va_G} {s : State} {b : Nat} {H : Heap} {av : List Value} (hK : m_Kn D s) (R : m_R D s b Th M H) : ∀ U : State, U.heap = H → s.WarmedH U.vm → m_Pc D b av Th M av.toArray U := by
  intro U hU hW
  exact ⟨rfl, m_Kn.moved hW.alike hK, by rw [hU]; exact R.moved hW.alike⟩
/-- behind a call -/
theorem m_go {p : Program} {l : Launch} {e : Env} {s : State} {m : MethodId} {args : Array Value} {below : List Frame} {meth : Method} {c0 : Code} {D : va_G} {b : Nat} {H : Heap} {locs : List Loc} {ls : Array Slot} {a : Array Value} {QQ : State → Prop}
    (run : va_Run p l e (m_rm d mc ms) s m args below meth c0 H locs cells slots mc' ms' (F0 m pc ls st0) rest (m_Qc D b Q a) (fun q => b ≤ q)) (hb : b ≤ s.heap.size) (S : va_S (fun q => b ≤ q) s.heap H locs)
    (kk : ∀ (v : Option Value) (Th' : mT) (M' : mM) (H1 : Heap) (locs1 : List Loc), Q v Th' M' → m_R D s b Th' M' H1 → va_S (fun q => b ≤ q) s.heap H1 locs1 → W p l e (m_rm d mc ms) s m args below meth c0 H1 locs1 (cells + mc') (slots + ms') QQ (F0 m (pc + 3) ls (v.toList ++ rest))) :
    W p l e (m_rm d mc ms) s m args below meth c0 H locs cells slots QQ (F0 m pc ls st0) := by
  intro T hT Xs
  obtain ⟨v, st₀, t, T', L, h0, X', hL, e1, e2, ⟨⟨v', Th', M', hv, hq, hK', hR'⟩, hz, hk⟩, st⟩ := run T hT Xs
  cases hv
  rw [h0] at hz hk
  have hal : s.vm.Alike t.vm := by rw [← e2]; exact X'.warmed.alike
  obtain ⟨t2, a1, b1⟩ := kk v Th' M' T'.heap (locs ++ L) hq (by rw [e1]; exact hR'.moved hal.symm)
    ⟨Nat.le_trans S.1 (by rw [e1]; exact hz), fun q h1 h2 => by rw [e1, hk q (Nat.lt_of_lt_of_le h1 S.1) h2]; exact S.2.1 q h1 h2, fun q hq => by
      rcases List.mem_append.mp hq with h | h
      · exact S.2.2 q h
      · exact hL q h⟩ T' rfl X'
  exact ⟨t2, st t2 a1, b1⟩
theorem m_cb {s : State} {args : Array Value} (hts : ∀ w ∈ lw_ok, w.before args s = true) (hI : m_I y2 cc2 nL2 ret2 n) (hdd : d' + 1 ≤ d) : m_CB (m_rm d mc ms) s args y2 cc2 nL2 ret2 (Cond.code y2 cc2 nL2 ret2 :: lw_ok) (m_rm d' mc' ms') mc' ms' n := by
  obtain ⟨h1, h2, h3, h4, h5⟩ := hI
  refine ⟨⟨rfl, rfl, hdd, ?_, fun w hw => ?_, List.mem_cons_self⟩, hts _ h1, hts _ h2, h3, fun sig h => ?_⟩
  · show 14 + (nL2 + 11) + (41 * d' + 32) ≤ 41 * d + 32
    omega
  · rcases List.mem_cons.mp hw with rfl | hw
    · exact m_pay hts _ h1
    · exact m_pay hts w hw
  · rw [h] at h4
    exact (Option.some.inj h4).symm
theorem m_invV (hI : m_I y2 cc2 nL2 ret2 n) (hin : Cond.instanceMethod y2 ∈ lw_ok) (hsel : Cond.selects y2.cls y2 y2 ∈ lw_ok) (hlink : Cond.methodLink yy.cls index y2 ∈ lw_ok) (hci : ∃ T N, vwCl[ci]? = some (y2.cls, T, N)) (hd : decode cc pc = .ok (.invokevirtual index, 3)) (hn : As.length = n) (hst : st0 = As.reverse ++ .ref b2 :: rest) (hT : Th.2.2 b2 = some (.inl ci)) (hrest : (rest.map fun v => v.category).sum ≤ 14) (hdd : d' + 1 ≤ d) (hf : cells + mc' ≤ mc ∧ slots + ms' ≤ ms)
    (hC : m_C d' mc' ms' y2 cc2 nL2 ret2 (.ref b2 :: As) Th M (fun v Th' M' => m_W d mc ms yy cc nL ret Q (pc + 3) lv (v.toList ++ rest) Th' M' (cells + mc') (slots + ms'))) : m_W d mc ms yy cc nL ret Q pc lv st0 Th M cells slots := by
  intro p l e s m args below meth c0 D b H locs ls X hb R S hl
  obtain ⟨hx, hbytes, hret, hml, hown, hts, hlocks, hname, hK⟩ := id X
  obtain ⟨T, N, hci⟩ := hci
  obtain ⟨-, r', hr', cellV, g1, g2, g3, -⟩ := R.2.2.2 b2 _ hT
  have hcls := (hK.1.1 ci _ hci).2
  obtain ⟨q1, q2, q3, q4, q5⟩ := m_cb (d := d) (d' := d') (mc := mc) (ms := ms) (mc' := mc') (ms' := ms') hts hI hdd
  exact m_go (m_runV (As := As) (rest := rest) (own := yy.cls) (Ts := lw_ok) (C := y2.cls) (b := b2) ⟨hx, hbytes, hml, hown, hts⟩ (hC l D b) ⟨q1, q2, q3, q4, q5⟩ (hts _ hlink) (hts _ hin) (hts _ hsel) ⟨m_blind, ⟨cellV, g1, by rw [g3]; rfl, by rw [g2]; exact hcls.1⟩, m_start hK R⟩ rfl hn hl.1 hst (by show 2 * 0 + _ ≤ _; omega) hd hf) hb S
    (fun v Th' M' H1 locs1 hq R1 S1 => hq _ _ _ _ _ _ _ _ _ _ _ _ _ _ X hb R1 S1 hl)
theorem m_invS (hI : m_I y2 cc2 nL2 ret2 n) (hstat : Cond.static y2 ∈ lw_ok) (hlink : Cond.methodLink yy.cls index y2 ∈ lw_ok) (hd : decode cc pc = .ok (.invokestatic index, 3)) (hn : As.length = n) (hst : st0 = As.reverse ++ rest) (hrest : (rest.map fun v => v.category).sum ≤ 14) (hdd : d' + 1 ≤ d) (hf : cells + mc' ≤ mc ∧ slots + ms' ≤ ms)
    (hC : m_C d' mc' ms' y2 cc2 nL2 ret2 As Th M (fun v Th' M' => m_W d mc ms yy cc nL ret Q (pc + 3) lv (v.toList ++ rest) Th' M' (cells + mc') (slots + ms'))) : m_W d mc ms yy cc nL ret Q pc lv st0 Th M cells slots := by
  intro p l e s m args below meth c0 D b H locs ls X hb R S hl
  obtain ⟨hx, hbytes, hret, hml, hown, hts, hlocks, hname, hK⟩ := id X
  obtain ⟨q1, q2, q3, q4, q5⟩ := m_cb (d := d) (d' := d') (mc := mc) (ms := ms) (mc' := mc') (ms' := ms') hts hI hdd
  exact m_go (m_runS (As := As) (rest := rest) (own := yy.cls) (Ts := lw_ok) ⟨hx, hbytes, hml, hown, hts⟩ (hC l D b) ⟨q1, q2, q3, q4, q5⟩ (hts _ hlink) (hts _ hstat) ⟨m_blind, m_start hK R⟩ rfl hn hl.1 hst (by show 2 * 0 + _ ≤ _; omega) hd hf) hb S
    (fun v Th' M' H1 locs1 hq R1 S1 => hq _ _ _ _ _ _ _ _ _ _ _ _ _ _ X hb R1 S1 hl)
theorem m_invSN (hI : m_I y2 cc2 nL2 ret2 n) (hstat : Cond.static y2 ∈ lw_ok) (hlink : Cond.methodLinkNest yy.cls index y2 host ∈ lw_ok) (hd : decode cc pc = .ok (.invokestatic index, 3)) (hn : As.length = n) (hst : st0 = As.reverse ++ rest) (hrest : (rest.map fun v => v.category).sum ≤ 14) (hdd : d' + 1 ≤ d) (hf : cells + mc' ≤ mc ∧ slots + ms' ≤ ms)
    (hC : m_C d' mc' ms' y2 cc2 nL2 ret2 As Th M (fun v Th' M' => m_W d mc ms yy cc nL ret Q (pc + 3) lv (v.toList ++ rest) Th' M' (cells + mc') (slots + ms'))) : m_W d mc ms yy cc nL ret Q pc lv st0 Th M cells slots := by
  intro p l e s m args below meth c0 D b H locs ls X hb R S hl
  obtain ⟨hx, hbytes, hret, hml, hown, hts, hlocks, hname, hK⟩ := id X
  obtain ⟨q1, q2, q3, q4, q5⟩ := m_cb (d := d) (d' := d') (mc := mc) (ms := ms) (mc' := mc') (ms' := ms') hts hI hdd
  exact m_go (m_runSN (As := As) (rest := rest) (own := yy.cls) (Ts := lw_ok) ⟨hx, hbytes, hml, hown, hts⟩ (hC l D b) ⟨q1, q2, q3, q4, q5⟩ (hts _ hlink) (hts _ hstat) ⟨m_blind, m_start hK R⟩ rfl hn hl.1 hst (by show 2 * 0 + _ ≤ _; omega) hd hf) hb S
    (fun v Th' M' H1 locs1 hq R1 S1 => hq _ _ _ _ _ _ _ _ _ _ _ _ _ _ X hb R1 S1 hl)
theorem m_invI (hI : m_I y2 cc2 nL2 none n) (hin : Cond.instanceMethod y2 ∈ lw_ok) (hy : y2.name = "<init>") (hlink : Cond.methodLink yy.cls index y2 ∈ lw_ok) (hd : decode cc pc = .ok (.invokespecial index, 3)) (hn : As.length = n) (hst : st0 = As.reverse ++ .ref b2 :: rest) (hrest : (rest.map fun v => v.category).sum ≤ 8) (hdd : d' + 1 ≤ d) (hf : cells + mc' ≤ mc ∧ slots + ms' ≤ ms)
    (hC : m_C d' mc' ms' y2 cc2 nL2 none (.ref b2 :: As) Th M (fun v Th' M' => m_W d mc ms yy cc nL ret Q (pc + 3) lv (v.toList ++ rest) Th' M' (cells + mc') (slots + ms'))) : m_W d mc ms yy cc nL ret Q pc lv st0 Th M cells slots := by
  intro p l e s m args below meth c0 D b H locs ls X hb R S hl
  obtain ⟨hx, hbytes, hret, hml, hown, hts, hlocks, hname, hK⟩ := id X
  obtain ⟨q1, q2, q3, q4, q5⟩ := m_cb (d := d) (d' := d') (mc := mc) (ms := ms) (mc' := mc') (ms' := ms') hts hI hdd
  exact m_go (va_runI (As := As) (rest := rest) (own := yy.cls) (Ts := lw_ok) (b := b2) ⟨hx, hbytes, hml, hown, hts⟩ (hC l D b) ⟨⟨q1.1, q1.2.1, q1.2.2.1, by have := q1.2.2.2.1; omega, q1.2.2.2.2.1, q1.2.2.2.2.2, q2, q3, q4, q5, hts _ hlink⟩, hy, hts _ hin⟩ ⟨m_blind, m_start hK R⟩ rfl hn hl.1 hst (by show 2 * 0 + _ ≤ _; omega) hd hf) hb S
    (fun v Th' M' H1 locs1 hq R1 S1 => hq _ _ _ _ _ _ _ _ _ _ _ _ _ _ X hb R1 S1 hl)
theorem m_invIN (hI : m_I y2 cc2 nL2 none n) (hin : Cond.instanceMethod y2 ∈ lw_ok) (hy : y2.name = "<init>") (hlink : Cond.methodLinkNest yy.cls index y2 host ∈ lw_ok) (hd : decode cc pc = .ok (.invokespecial index, 3)) (hn : As.length = n) (hst : st0 = As.reverse ++ .ref b2 :: rest) (hrest : (rest.map fun v => v.category).sum ≤ 8) (hdd : d' + 1 ≤ d) (hf : cells + mc' ≤ mc ∧ slots + ms' ≤ ms)
    (hC : m_C d' mc' ms' y2 cc2 nL2 none (.ref b2 :: As) Th M (fun v Th' M' => m_W d mc ms yy cc nL ret Q (pc + 3) lv (v.toList ++ rest) Th' M' (cells + mc') (slots + ms'))) : m_W d mc ms yy cc nL ret Q pc lv st0 Th M cells slots := by
  intro p l e s m args below meth c0 D b H locs ls X hb R S hl
  obtain ⟨hx, hbytes, hret, hml, hown, hts, hlocks, hname, hK⟩ := id X
  obtain ⟨q1, q2, q3, q4, q5⟩ := m_cb (d := d) (d' := d') (mc := mc) (ms := ms) (mc' := mc') (ms' := ms') hts hI hdd
  exact m_go (va_runIN (As := As) (rest := rest) (own := yy.cls) (Ts := lw_ok) (b := b2) ⟨hx, hbytes, hml, hown, hts⟩ (hC l D b) ⟨⟨⟨q1.1, q1.2.1, q1.2.2.1, by have := q1.2.2.2.1; omega, q1.2.2.2.2⟩, q2, q3, q4, q5, hts _ hlink⟩, hy, hts _ hin⟩ ⟨m_blind, m_start hK R⟩ rfl hn hl.1 hst (by show 2 * 0 + _ ≤ _; omega) hd hf) hb S
    (fun v Th' M' H1 locs1 hq R1 S1 => hq _ _ _ _ _ _ _ _ _ _ _ _ _ _ X hb R1 S1 hl)
/-- answers by kind, nothing made -/
theorem m_Ci {av : List Value} {k : Int32 → mM → Prop} {Q2 : mQ} (h : m_C d' 0 0 y2 cc2 nL2 ret2 av Th M (m_qi Th k)) (hk : ∀ r M', k r M' → Q2 (some (.int r)) Th M') : m_C d' 0 0 y2 cc2 nL2 ret2 av Th M Q2 :=
  h.mono (fun v Th' M' q => by obtain ⟨rfl, r, rfl, q⟩ := q; exact hk r M' q)
theorem m_Cl {av : List Value} {k : Int64 → mM → Prop} {Q2 : mQ} (h : m_C d' 0 0 y2 cc2 nL2 ret2 av Th M (m_ql Th k)) (hk : ∀ r M', k r M' → Q2 (some (.long r)) Th M') : m_C d' 0 0 y2 cc2 nL2 ret2 av Th M Q2 :=
  h.mono (fun v Th' M' q => by obtain ⟨rfl, r, rfl, q⟩ := q; exact hk r M' q)
theorem m_Cr {av : List Value} {k : Nat → mM → Prop} {Q2 : mQ} (h : m_C d' 0 0 y2 cc2 nL2 ret2 av Th M (m_qr Th k)) (hk : ∀ r M', k r M' → Q2 (some (.ref r)) Th M') : m_C d' 0 0 y2 cc2 nL2 ret2 av Th M Q2 :=
  h.mono (fun v Th' M' q => by obtain ⟨rfl, r, rfl, q⟩ := q; exact hk r M' q)
theorem m_Cv {av : List Value} {k : mM → Prop} {Q2 : mQ} (h : m_C d' 0 0 y2 cc2 nL2 ret2 av Th M (m_qv Th k)) (hk : ∀ M', k M' → Q2 none Th M') : m_C d' 0 0 y2 cc2 nL2 ret2 av Th M Q2 :=
  h.mono (fun v Th' M' q => by obtain ⟨rfl, rfl, q⟩ := q; exact hk M' q)
/-- Math -/
theorem m_max {x z : Int32} (hlink : Cond.methodLink yy.cls index Lib.Math.max.name ∈ lw_ok) (hd : decode cc pc = .ok (.invokestatic index, 3)) (hrest : (rest.map fun v => v.category).sum ≤ 8) (hdd : 1 ≤ d) (hc : cells ≤ mc) (hs : slots ≤ ms) (k : m_W d mc ms yy cc nL ret Q (pc + 3) lv (.int (if x < z then z else x) :: rest) Th M cells slots) : m_W d mc ms yy cc nL ret Q pc lv (.int z :: .int x :: rest) Th M cells slots := by
  intro p l e s m args below meth c0 D b H locs ls X hb R S hl
  exact va_mmax X.1 X.2.1 (X.2.2.2.1.trans hl.1.symm) X.2.2.2.2.1 (X.2.2.2.2.2.1 _ hlink) (X.2.2.2.2.2.1 _ (by decide +kernel)) (X.2.2.2.2.2.1 _ (by decide +kernel)) (X.2.2.2.2.2.1 _ (by decide +kernel)) hdd (by show _ ≤ 41 * d + 32; omega) hc hs hd (k _ _ _ _ _ _ _ _ _ _ _ _ _ _ X hb R S hl)
theorem m_min {x z : Int32} (hlink : Cond.methodLink yy.cls index Lib.Math.min.name ∈ lw_ok) (hd : decode cc pc = .ok (.invokestatic index, 3)) (hrest : (rest.map fun v => v.category).sum ≤ 8) (hdd : 1 ≤ d) (hc : cells ≤ mc) (hs : slots ≤ ms) (k : m_W d mc ms yy cc nL ret Q (pc + 3) lv (.int (if z < x then z else x) :: rest) Th M cells slots) : m_W d mc ms yy cc nL ret Q pc lv (.int z :: .int x :: rest) Th M cells slots := by
  intro p l e s m args below meth c0 D b H locs ls X hb R S hl
  exact va_mmin X.1 X.2.1 (X.2.2.2.1.trans hl.1.symm) X.2.2.2.2.1 (X.2.2.2.2.2.1 _ hlink) (X.2.2.2.2.2.1 _ (by decide +kernel)) (X.2.2.2.2.2.1 _ (by decide +kernel)) (X.2.2.2.2.2.1 _ (by decide +kernel)) hdd (by show _ ≤ 41 * d + 32; omega) hc hs hd (k _ _ _ _ _ _ _ _ _ _ _ _ _ _ X hb R S hl)
theorem m_abs {x : Int32} (hlink : Cond.methodLink yy.cls index Lib.Math.abs.name ∈ lw_ok) (hd : decode cc pc = .ok (.invokestatic index, 3)) (hrest : (rest.map fun v => v.category).sum ≤ 8) (hdd : 1 ≤ d) (hc : cells ≤ mc) (hs : slots ≤ ms) (k : m_W d mc ms yy cc nL ret Q (pc + 3) lv (.int (if 0 ≤ x then x else 0 - x) :: rest) Th M cells slots) : m_W d mc ms yy cc nL ret Q pc lv (.int x :: rest) Th M cells slots := by
  intro p l e s m args below meth c0 D b H locs ls X hb R S hl
  exact va_mabs X.1 X.2.1 (X.2.2.2.1.trans hl.1.symm) X.2.2.2.2.1 (X.2.2.2.2.2.1 _ hlink) (X.2.2.2.2.2.1 _ (by decide +kernel)) (X.2.2.2.2.2.1 _ (by decide +kernel)) (X.2.2.2.2.2.1 _ (by decide +kernel)) hdd (by show _ ≤ 41 * d + 32; omega) hc hs hd (k _ _ _ _ _ _ _ _ _ _ _ _ _ _ X hb R S hl)
theorem m_maxl {x z : Int64} (hlink : Cond.methodLink yy.cls index Lib.MathLoose.max_long.x ∈ lw_ok) (hd : decode cc pc = .ok (.invokestatic index, 3)) (hrest : (rest.map fun v => v.category).sum ≤ 8) (hdd : 1 ≤ d) (hc : cells ≤ mc) (hs : slots ≤ ms) (k : m_W d mc ms yy cc nL ret Q (pc + 3) lv (.long (if z < x then x else z) :: rest) Th M cells slots) : m_W d mc ms yy cc nL ret Q pc lv (.long z :: .long x :: rest) Th M cells slots := by
  intro p l e s m args below meth c0 D b H locs ls X hb R S hl
  exact va_mmax_long X.1 X.2.1 (X.2.2.2.1.trans hl.1.symm) X.2.2.2.2.1 (X.2.2.2.2.2.1 _ hlink) (X.2.2.2.2.2.1 _ (by decide +kernel)) (X.2.2.2.2.2.1 _ (by decide +kernel)) (X.2.2.2.2.2.1 _ (by decide +kernel)) hdd (by show _ ≤ 41 * d + 32; omega) hc hs hd (k _ _ _ _ _ _ _ _ _ _ _ _ _ _ X hb R S hl)
end MC
