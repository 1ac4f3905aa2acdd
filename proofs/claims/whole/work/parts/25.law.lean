/-! ===== THE LAW: its loop ===== -/
def QL : mQ := fun v _ _ => v = some (.int 1)
theorem m_wid {d mc ms : Nat} {yy : MethodName} {cc : ByteArray} {nL : Nat} {ret : Option FieldType} {Q : mQ} {pc : Nat} {lv : List (Nat × Value)} {rest : List Value} {Th : mT} {M : mM} {cells slots : Nat} (k n : Nat) (h1 : cells ≤ k) (h2 : slots ≤ n) (h : m_W d mc ms yy cc nL ret Q pc lv rest Th M k n) : m_W d mc ms yy cc nL ret Q pc lv rest Th M cells slots :=
  fun _ _ _ _ _ _ _ _ _ _ _ _ _ _ X hb R S hl => W.widen h1 h2 (h _ _ _ _ _ _ _ _ _ _ _ _ _ _ X hb R S hl)
def HL_law_18 (Th : mT) (a0 a1 a2 : Nat) (x3 : Int32) (M : mM) : Prop := m_W 2048 600000 7302250 yL_law cL_law 4 (some .boolean) QL 18 [(0, .ref a0), (1, .ref a1), (2, .ref a2), (3, .int x3)] [] Th M 153 931703
set_option maxHeartbeats 16000000 in
set_option maxRecDepth 100000 in
theorem hL_law_18 {Th : mT} {a0 a1 a2 : Nat} {x3 : Int32} {M : mM} (h : ∃ (ty : FieldType) (fz : Bool) (n1 : Nat), Th.2.2 a0 = some (.inr (ty, fz, n1)) ∧ (if ((nI n1) - 8) < x3 then (True) else (m_ok Th a0 .int x3 ∧ (if (((M).1 a0 (Int32.toNatClampNeg x3)) &&& 31) = 0 then (m_ok Th a0 .int ((x3 + 1)) ∧ (m_ok Th a0 .int ((x3 + 2)) ∧ (m_ok Th a0 .int ((x3 + 3)) ∧ (Th.2.2 a1 = some (.inl 10) ∧ (P10_riddle 2047 Th a1 (((M).1 a0 (Int32.toNatClampNeg ((x3 + 1))))) (((M).1 a0 (Int32.toNatClampNeg ((x3 + 2))))) (((M).1 a0 (Int32.toNatClampNeg ((x3 + 3))))) M (fun (v8 : Int32) (M7 : mM) => Th.2.2 a2 = some (.inl 11) ∧ (P11_riddle 2047 Th a2 (((M7).1 a0 (Int32.toNatClampNeg ((x3 + 1))))) (((M7).1 a0 (Int32.toNatClampNeg ((x3 + 2))))) (((M7).1 a0 (Int32.toNatClampNeg ((x3 + 3))))) M7 (fun (v11 : Int32) (M10 : mM) => if v8 = v11 then (HL_law_18 Th a0 a1 a2 (x3 + 8) M10) else (False))))))))) else (if (((M).1 a0 (Int32.toNatClampNeg x3)) &&& 31) = 1 then (m_ok Th a0 .int ((x3 + 1)) ∧ (m_ok Th a0 .int ((x3 + 2)) ∧ (m_ok Th a0 .int ((x3 + 3)) ∧ (Th.2.2 a1 = some (.inl 10) ∧ (P10_band 2047 Th a1 (((M).1 a0 (Int32.toNatClampNeg ((x3 + 1))))) (((M).1 a0 (Int32.toNatClampNeg ((x3 + 2))))) (((M).1 a0 (Int32.toNatClampNeg ((x3 + 3))))) M (fun (v17 : Int32) (M16 : mM) => Th.2.2 a2 = some (.inl 11) ∧ (P11_band 2047 Th a2 (((M16).1 a0 (Int32.toNatClampNeg ((x3 + 1))))) (((M16).1 a0 (Int32.toNatClampNeg ((x3 + 2))))) (((M16).1 a0 (Int32.toNatClampNeg ((x3 + 3))))) M16 (fun (v20 : Int32) (M19 : mM) => if v17 = v20 then (HL_law_18 Th a0 a1 a2 (x3 + 8) M19) else (False))))))))) else (if (((M).1 a0 (Int32.toNatClampNeg x3)) &&& 31) = 2 then (m_ok Th a0 .int ((x3 + 1)) ∧ (m_ok Th a0 .int ((x3 + 2)) ∧ (Th.2.2 a1 = some (.inl 10) ∧ (P10_weather 2047 Th a1 (((M).1 a0 (Int32.toNatClampNeg ((x3 + 1))))) (((M).1 a0 (Int32.toNatClampNeg ((x3 + 2))))) M (fun (v25 : Int32) (M24 : mM) => Th.2.2 a2 = some (.inl 11) ∧ (P11_weather 2047 Th a2 (((M24).1 a0 (Int32.toNatClampNeg ((x3 + 1))))) (((M24).1 a0 (Int32.toNatClampNeg ((x3 + 2))))) M24 (fun (v28 : Int32) (M27 : mM) => if v25 = v28 then (HL_law_18 Th a0 a1 a2 (x3 + 8) M27) else (False)))))))) else (if (((M).1 a0 (Int32.toNatClampNeg x3)) &&& 31) = 3 then (m_ok Th a0 .int ((x3 + 1)) ∧ (m_ok Th a0 .int ((x3 + 2)) ∧ (m_ok Th a0 .int ((x3 + 3)) ∧ (m_ok Th a0 .int ((x3 + 4)) ∧ (m_ok Th a0 .int ((x3 + 5)) ∧ (Th.2.2 a1 = some (.inl 10) ∧ (P10_feed 2047 Th a1 (((M).1 a0 (Int32.toNatClampNeg ((x3 + 1))))) (((M).1 a0 (Int32.toNatClampNeg ((x3 + 2))))) (((M).1 a0 (Int32.toNatClampNeg ((x3 + 3))))) (((M).1 a0 (Int32.toNatClampNeg ((x3 + 4))))) (((M).1 a0 (Int32.toNatClampNeg ((x3 + 5))))) M (fun (v36 : Int32) (M35 : mM) => Th.2.2 a2 = some (.inl 11) ∧ (P11_feed 2047 Th a2 (((M35).1 a0 (Int32.toNatClampNeg ((x3 + 1))))) (((M35).1 a0 (Int32.toNatClampNeg ((x3 + 2))))) (((M35).1 a0 (Int32.toNatClampNeg ((x3 + 3))))) (((M35).1 a0 (Int32.toNatClampNeg ((x3 + 4))))) (((M35).1 a0 (Int32.toNatClampNeg ((x3 + 5))))) M35 (fun (v39 : Int32) (M38 : mM) => if v36 = v39 then (HL_law_18 Th a0 a1 a2 (x3 + 8) M38) else (False))))))))))) else (if (((M).1 a0 (Int32.toNatClampNeg x3)) &&& 31) = 4 then (m_ok Th a0 .int ((x3 + 1)) ∧ (Th.2.2 a1 = some (.inl 10) ∧ (P10_law 2047 Th a1 (((M).1 a0 (Int32.toNatClampNeg ((x3 + 1))))) M (fun (v43 : Int32) (M42 : mM) => Th.2.2 a2 = some (.inl 11) ∧ (P11_law 2047 Th a2 (((M42).1 a0 (Int32.toNatClampNeg ((x3 + 1))))) M42 (fun (v46 : Int32) (M45 : mM) => if v43 = v46 then (HL_law_18 Th a0 a1 a2 (x3 + 8) M45) else (False))))))) else (if (((M).1 a0 (Int32.toNatClampNeg x3)) &&& 31) = 5 then (m_ok Th a0 .int ((x3 + 1)) ∧ (m_ok Th a0 .int ((x3 + 2)) ∧ (m_ok Th a0 .int ((x3 + 3)) ∧ (m_ok Th a0 .int ((x3 + 4)) ∧ (Th.2.2 a1 = some (.inl 10) ∧ (P10_chance 2047 Th a1 (((M).1 a0 (Int32.toNatClampNeg ((x3 + 1))))) (((M).1 a0 (Int32.toNatClampNeg ((x3 + 2))))) (((M).1 a0 (Int32.toNatClampNeg ((x3 + 3))))) (((M).1 a0 (Int32.toNatClampNeg ((x3 + 4))))) M (fun (v53 : Int32) (M52 : mM) => Th.2.2 a2 = some (.inl 11) ∧ (P11_chance 2047 Th a2 (((M52).1 a0 (Int32.toNatClampNeg ((x3 + 1))))) (((M52).1 a0 (Int32.toNatClampNeg ((x3 + 2))))) (((M52).1 a0 (Int32.toNatClampNeg ((x3 + 3))))) (((M52).1 a0 (Int32.toNatClampNeg ((x3 + 4))))) M52 (fun (v56 : Int32) (M55 : mM) => if v53 = v56 then (HL_law_18 Th a0 a1 a2 (x3 + 8) M55) else (False)))))))))) else (if (((M).1 a0 (Int32.toNatClampNeg x3)) &&& 31) = 6 then (m_ok Th a0 .int ((x3 + 1)) ∧ (m_ok Th a0 .int ((x3 + 2)) ∧ (Th.2.2 a1 = some (.inl 10) ∧ (P10_walk 2047 Th a1 (((M).1 a0 (Int32.toNatClampNeg ((x3 + 1))))) (((M).1 a0 (Int32.toNatClampNeg ((x3 + 2))))) M (fun (v61 : Int32) (M60 : mM) => Th.2.2 a2 = some (.inl 11) ∧ (P11_walk 2047 Th a2 (((M60).1 a0 (Int32.toNatClampNeg ((x3 + 1))))) (((M60).1 a0 (Int32.toNatClampNeg ((x3 + 2))))) M60 (fun (v64 : Int32) (M63 : mM) => if v61 = v64 then (HL_law_18 Th a0 a1 a2 (x3 + 8) M63) else (False)))))))) else (if (((M).1 a0 (Int32.toNatClampNeg x3)) &&& 31) = 7 then (m_ok Th a0 .int ((x3 + 1)) ∧ (m_ok Th a0 .int ((x3 + 2)) ∧ (m_ok Th a0 .int ((x3 + 3)) ∧ (Th.2.2 a1 = some (.inl 10) ∧ (P10_ways 2047 Th a1 (((M).1 a0 (Int32.toNatClampNeg ((x3 + 1))))) (((M).1 a0 (Int32.toNatClampNeg ((x3 + 2))))) (((M).1 a0 (Int32.toNatClampNeg ((x3 + 3))))) M (fun (v70 : Int64) (M69 : mM) => Th.2.2 a2 = some (.inl 11) ∧ (P11_ways 2047 Th a2 (((M69).1 a0 (Int32.toNatClampNeg ((x3 + 1))))) (((M69).1 a0 (Int32.toNatClampNeg ((x3 + 2))))) (((M69).1 a0 (Int32.toNatClampNeg ((x3 + 3))))) M69 (fun (v73 : Int64) (M72 : mM) => if (lg_cmp v70 v73) = 0 then (HL_law_18 Th a0 a1 a2 (x3 + 8) M72) else (False))))))))) else (if (((M).1 a0 (Int32.toNatClampNeg x3)) &&& 31) = 8 then (m_ok Th a0 .int ((x3 + 1)) ∧ (m_ok Th a0 .int ((x3 + 2)) ∧ (m_ok Th a0 .int ((x3 + 3)) ∧ (Th.2.2 a1 = some (.inl 10) ∧ (P10_ahead 2047 Th a1 (((M).1 a0 (Int32.toNatClampNeg ((x3 + 1))))) (((M).1 a0 (Int32.toNatClampNeg ((x3 + 2))))) (((M).1 a0 (Int32.toNatClampNeg ((x3 + 3))))) M (fun (v79 : Int64) (M78 : mM) => Th.2.2 a2 = some (.inl 11) ∧ (P11_ahead 2047 Th a2 (((M78).1 a0 (Int32.toNatClampNeg ((x3 + 1))))) (((M78).1 a0 (Int32.toNatClampNeg ((x3 + 2))))) (((M78).1 a0 (Int32.toNatClampNeg ((x3 + 3))))) M78 (fun (v82 : Int64) (M81 : mM) => if (lg_cmp v79 v82) = 0 then (HL_law_18 Th a0 a1 a2 (x3 + 8) M81) else (False))))))))) else (if (((M).1 a0 (Int32.toNatClampNeg x3)) &&& 31) = 9 then (m_ok Th a0 .int ((x3 + 1)) ∧ (m_ok Th a0 .int ((x3 + 2)) ∧ (m_ok Th a0 .int ((x3 + 3)) ∧ (Th.2.2 a1 = some (.inl 10) ∧ (P10_share 2047 Th a1 (((M).1 a0 (Int32.toNatClampNeg ((x3 + 1))))) (((M).1 a0 (Int32.toNatClampNeg ((x3 + 2))))) (((M).1 a0 (Int32.toNatClampNeg ((x3 + 3))))) M (fun (v88 : Int64) (M87 : mM) => Th.2.2 a2 = some (.inl 11) ∧ (P11_share 2047 Th a2 (((M87).1 a0 (Int32.toNatClampNeg ((x3 + 1))))) (((M87).1 a0 (Int32.toNatClampNeg ((x3 + 2))))) (((M87).1 a0 (Int32.toNatClampNeg ((x3 + 3))))) M87 (fun (v91 : Int64) (M90 : mM) => if (lg_cmp v88 v91) = 0 then (HL_law_18 Th a0 a1 a2 (x3 + 8) M90) else (False))))))))) else (if (((M).1 a0 (Int32.toNatClampNeg x3)) &&& 31) = 10 then (m_ok Th a0 .int ((x3 + 1)) ∧ (m_ok Th a0 .int ((x3 + 2)) ∧ (m_ok Th a0 .int ((x3 + 3)) ∧ (m_ok Th a0 .int ((x3 + 4)) ∧ (Th.2.2 a1 = some (.inl 10) ∧ (P10_after 2047 Th a1 (((M).1 a0 (Int32.toNatClampNeg ((x3 + 1))))) (((M).1 a0 (Int32.toNatClampNeg ((x3 + 2))))) (((M).1 a0 (Int32.toNatClampNeg ((x3 + 3))))) (((M).1 a0 (Int32.toNatClampNeg ((x3 + 4))))) M (fun (v98 : Int64) (M97 : mM) => Th.2.2 a2 = some (.inl 11) ∧ (P11_after 2047 Th a2 (((M97).1 a0 (Int32.toNatClampNeg ((x3 + 1))))) (((M97).1 a0 (Int32.toNatClampNeg ((x3 + 2))))) (((M97).1 a0 (Int32.toNatClampNeg ((x3 + 3))))) (((M97).1 a0 (Int32.toNatClampNeg ((x3 + 4))))) M97 (fun (v101 : Int64) (M100 : mM) => if (lg_cmp v98 v101) = 0 then (HL_law_18 Th a0 a1 a2 (x3 + 8) M100) else (False)))))))))) else (if (((M).1 a0 (Int32.toNatClampNeg x3)) &&& 31) = 11 then (m_ok Th a0 .int ((x3 + 1)) ∧ (m_ok Th a0 .int ((x3 + 2)) ∧ (Th.2.2 a1 = some (.inl 10) ∧ (P10_edge 2047 Th a1 (((M).1 a0 (Int32.toNatClampNeg ((x3 + 1))))) (((M).1 a0 (Int32.toNatClampNeg ((x3 + 2))))) M (fun (v106 : Int32) (M105 : mM) => Th.2.2 a2 = some (.inl 11) ∧ (P11_edge 2047 Th a2 (((M105).1 a0 (Int32.toNatClampNeg ((x3 + 1))))) (((M105).1 a0 (Int32.toNatClampNeg ((x3 + 2))))) M105 (fun (v109 : Int32) (M108 : mM) => if v106 = v109 then (HL_law_18 Th a0 a1 a2 (x3 + 8) M108) else (False)))))))) else (if (((M).1 a0 (Int32.toNatClampNeg x3)) &&& 31) = 12 then (m_ok Th a0 .int ((x3 + 1)) ∧ (m_ok Th a0 .int ((x3 + 2)) ∧ (m_ok Th a0 .int ((x3 + 3)) ∧ (m_ok Th a0 .int ((x3 + 4)) ∧ (m_ok Th a0 .int ((x3 + 5)) ∧ (m_ok Th a0 .int ((x3 + 6)) ∧ (m_ok Th a0 .int ((x3 + 7)) ∧ (Th.2.2 a1 = some (.inl 10) ∧ (P10_best 2047 Th a1 (((M).1 a0 (Int32.toNatClampNeg ((x3 + 1))))) (((M).1 a0 (Int32.toNatClampNeg ((x3 + 2))))) (((M).1 a0 (Int32.toNatClampNeg ((x3 + 3))))) (((M).1 a0 (Int32.toNatClampNeg ((x3 + 4))))) (((M).1 a0 (Int32.toNatClampNeg ((x3 + 5))))) (((M).1 a0 (Int32.toNatClampNeg ((x3 + 6))))) (((M).1 a0 (Int32.toNatClampNeg ((x3 + 7))))) M (fun (v119 : Int64) (M118 : mM) => Th.2.2 a2 = some (.inl 11) ∧ (P11_best 2047 Th a2 (((M118).1 a0 (Int32.toNatClampNeg ((x3 + 1))))) (((M118).1 a0 (Int32.toNatClampNeg ((x3 + 2))))) (((M118).1 a0 (Int32.toNatClampNeg ((x3 + 3))))) (((M118).1 a0 (Int32.toNatClampNeg ((x3 + 4))))) (((M118).1 a0 (Int32.toNatClampNeg ((x3 + 5))))) (((M118).1 a0 (Int32.toNatClampNeg ((x3 + 6))))) (((M118).1 a0 (Int32.toNatClampNeg ((x3 + 7))))) M118 (fun (v122 : Int64) (M121 : mM) => if (lg_cmp v119 v122) = 0 then (HL_law_18 Th a0 a1 a2 (x3 + 8) M121) else (False))))))))))))) else (if (((M).1 a0 (Int32.toNatClampNeg x3)) &&& 31) = 13 then (m_ok Th a0 .int ((x3 + 1)) ∧ (m_ok Th a0 .int ((x3 + 2)) ∧ (m_ok Th a0 .int ((x3 + 3)) ∧ (Th.2.2 a1 = some (.inl 10) ∧ (P10_without 2047 Th a1 (((M).1 a0 (Int32.toNatClampNeg ((x3 + 1))))) (((M).1 a0 (Int32.toNatClampNeg ((x3 + 2))))) (((M).1 a0 (Int32.toNatClampNeg ((x3 + 3))))) M (fun (v128 : Int64) (M127 : mM) => Th.2.2 a2 = some (.inl 11) ∧ (P11_without 2047 Th a2 (((M127).1 a0 (Int32.toNatClampNeg ((x3 + 1))))) (((M127).1 a0 (Int32.toNatClampNeg ((x3 + 2))))) (((M127).1 a0 (Int32.toNatClampNeg ((x3 + 3))))) M127 (fun (v131 : Int64) (M130 : mM) => if (lg_cmp v128 v131) = 0 then (HL_law_18 Th a0 a1 a2 (x3 + 8) M130) else (False))))))))) else (if (((M).1 a0 (Int32.toNatClampNeg x3)) &&& 31) = 14 then (m_ok Th a0 .int ((x3 + 1)) ∧ (m_ok Th a0 .int ((x3 + 2)) ∧ (m_ok Th a0 .int ((x3 + 3)) ∧ (m_ok Th a0 .int ((x3 + 4)) ∧ (m_ok Th a0 .int ((x3 + 5)) ∧ (Th.2.2 a1 = some (.inl 10) ∧ (P10_waits 2047 Th a1 (((M).1 a0 (Int32.toNatClampNeg ((x3 + 1))))) (((M).1 a0 (Int32.toNatClampNeg ((x3 + 2))))) (((M).1 a0 (Int32.toNatClampNeg ((x3 + 3))))) (((M).1 a0 (Int32.toNatClampNeg ((x3 + 4))))) (((M).1 a0 (Int32.toNatClampNeg ((x3 + 5))))) M (fun (v139 : Int32) (M138 : mM) => Th.2.2 a2 = some (.inl 11) ∧ (P11_waits 2047 Th a2 (((M138).1 a0 (Int32.toNatClampNeg ((x3 + 1))))) (((M138).1 a0 (Int32.toNatClampNeg ((x3 + 2))))) (((M138).1 a0 (Int32.toNatClampNeg ((x3 + 3))))) (((M138).1 a0 (Int32.toNatClampNeg ((x3 + 4))))) (((M138).1 a0 (Int32.toNatClampNeg ((x3 + 5))))) M138 (fun (v142 : Int32) (M141 : mM) => if v139 = v142 then (HL_law_18 Th a0 a1 a2 (x3 + 8) M141) else (False))))))))))) else (if (((M).1 a0 (Int32.toNatClampNeg x3)) &&& 31) = 15 then (Th.2.2 a1 = some (.inl 10) ∧ (P10_order 2047 Th a1 M (fun (v145 : Int32) (M144 : mM) => Th.2.2 a2 = some (.inl 11) ∧ (P11_order 2047 Th a2 M144 (fun (v148 : Int32) (M147 : mM) => if v145 = v148 then (HL_law_18 Th a0 a1 a2 (x3 + 8) M147) else (False)))))) else (if (((M).1 a0 (Int32.toNatClampNeg x3)) &&& 31) = 16 then (m_ok Th a0 .int ((x3 + 1)) ∧ (m_ok Th a0 .int ((x3 + 2)) ∧ (Th.2.2 a1 = some (.inl 10) ∧ (P10_given 2047 Th a1 (((M).1 a0 (Int32.toNatClampNeg ((x3 + 1))))) (((M).1 a0 (Int32.toNatClampNeg ((x3 + 2))))) M (fun (v153 : Int32) (M152 : mM) => Th.2.2 a2 = some (.inl 11) ∧ (P11_given 2047 Th a2 (((M152).1 a0 (Int32.toNatClampNeg ((x3 + 1))))) (((M152).1 a0 (Int32.toNatClampNeg ((x3 + 2))))) M152 (fun (v156 : Int32) (M155 : mM) => if v153 = v156 then (HL_law_18 Th a0 a1 a2 (x3 + 8) M155) else (False)))))))) else (if (((M).1 a0 (Int32.toNatClampNeg x3)) &&& 31) = 17 then (m_ok Th a0 .int ((x3 + 1)) ∧ (m_ok Th a0 .int ((x3 + 2)) ∧ (m_ok Th a0 .int ((x3 + 3)) ∧ (Th.2.2 a1 = some (.inl 10) ∧ (P10_cleverest 2047 Th a1 (((M).1 a0 (Int32.toNatClampNeg ((x3 + 1))))) (((M).1 a0 (Int32.toNatClampNeg ((x3 + 2))))) (((M).1 a0 (Int32.toNatClampNeg ((x3 + 3))))) M (fun (v162 : Int64) (M161 : mM) => Th.2.2 a2 = some (.inl 11) ∧ (P11_cleverest 2047 Th a2 (((M161).1 a0 (Int32.toNatClampNeg ((x3 + 1))))) (((M161).1 a0 (Int32.toNatClampNeg ((x3 + 2))))) (((M161).1 a0 (Int32.toNatClampNeg ((x3 + 3))))) M161 (fun (v165 : Int64) (M164 : mM) => if (lg_cmp v162 v165) = 0 then (HL_law_18 Th a0 a1 a2 (x3 + 8) M164) else (False))))))))) else (if (((M).1 a0 (Int32.toNatClampNeg x3)) &&& 31) = 18 then (m_ok Th a0 .int ((x3 + 1)) ∧ (m_ok Th a0 .int ((x3 + 2)) ∧ (m_ok Th a0 .int ((x3 + 3)) ∧ (Th.2.2 a1 = some (.inl 10) ∧ (P10_went 2047 Th a1 (((M).1 a0 (Int32.toNatClampNeg ((x3 + 1))))) (((M).1 a0 (Int32.toNatClampNeg ((x3 + 2))))) (((M).1 a0 (Int32.toNatClampNeg ((x3 + 3))))) M (fun (v171 : Int32) (M170 : mM) => Th.2.2 a2 = some (.inl 11) ∧ (P11_went 2047 Th a2 (((M170).1 a0 (Int32.toNatClampNeg ((x3 + 1))))) (((M170).1 a0 (Int32.toNatClampNeg ((x3 + 2))))) (((M170).1 a0 (Int32.toNatClampNeg ((x3 + 3))))) M170 (fun (v174 : Int32) (M173 : mM) => if v171 = v174 then (HL_law_18 Th a0 a1 a2 (x3 + 8) M173) else (False))))))))) else (if (((M).1 a0 (Int32.toNatClampNeg x3)) &&& 31) = 19 then (m_ok Th a0 .int ((x3 + 1)) ∧ (m_ok Th a0 .int ((x3 + 2)) ∧ (Th.2.2 a1 = some (.inl 10) ∧ (P10_logged 2047 Th a1 (((M).1 a0 (Int32.toNatClampNeg ((x3 + 1))))) (((M).1 a0 (Int32.toNatClampNeg ((x3 + 2))))) M (fun (v179 : Int32) (M178 : mM) => Th.2.2 a2 = some (.inl 11) ∧ (P11_logged 2047 Th a2 (((M178).1 a0 (Int32.toNatClampNeg ((x3 + 1))))) (((M178).1 a0 (Int32.toNatClampNeg ((x3 + 2))))) M178 (fun (v182 : Int32) (M181 : mM) => if v179 = v182 then (HL_law_18 Th a0 a1 a2 (x3 + 8) M181) else (False)))))))) else (if (((M).1 a0 (Int32.toNatClampNeg x3)) &&& 31) = 20 then (m_ok Th a0 .int ((x3 + 1)) ∧ (m_ok Th a0 .int ((x3 + 2)) ∧ (m_ok Th a0 .int ((x3 + 3)) ∧ (Th.2.2 a1 = some (.inl 10) ∧ (P10_knew 2047 Th a1 (((M).1 a0 (Int32.toNatClampNeg ((x3 + 1))))) (((M).1 a0 (Int32.toNatClampNeg ((x3 + 2))))) (((M).1 a0 (Int32.toNatClampNeg ((x3 + 3))))) M (fun (v188 : Int32) (M187 : mM) => Th.2.2 a2 = some (.inl 11) ∧ (P11_knew 2047 Th a2 (((M187).1 a0 (Int32.toNatClampNeg ((x3 + 1))))) (((M187).1 a0 (Int32.toNatClampNeg ((x3 + 2))))) (((M187).1 a0 (Int32.toNatClampNeg ((x3 + 3))))) M187 (fun (v191 : Int32) (M190 : mM) => if v188 = v191 then (HL_law_18 Th a0 a1 a2 (x3 + 8) M190) else (False))))))))) else (if (((M).1 a0 (Int32.toNatClampNeg x3)) &&& 31) = 21 then (m_ok Th a0 .int ((x3 + 1)) ∧ (Th.2.2 a1 = some (.inl 10) ∧ (P10_seed 2047 Th a1 (((M).1 a0 (Int32.toNatClampNeg ((x3 + 1))))) M (fun (v195 : Int32) (M194 : mM) => Th.2.2 a2 = some (.inl 11) ∧ (P11_seed 2047 Th a2 (((M194).1 a0 (Int32.toNatClampNeg ((x3 + 1))))) M194 (fun (v198 : Int32) (M197 : mM) => if v195 = v198 then (HL_law_18 Th a0 a1 a2 (x3 + 8) M197) else (False))))))) else (if (((M).1 a0 (Int32.toNatClampNeg x3)) &&& 31) = 22 then (Th.2.2 a1 = some (.inl 10) ∧ (P10_draw 2047 Th a1 M (fun (v201 : Int32) (M200 : mM) => Th.2.2 a2 = some (.inl 11) ∧ (P11_draw 2047 Th a2 M200 (fun (v204 : Int32) (M203 : mM) => if v201 = v204 then (HL_law_18 Th a0 a1 a2 (x3 + 8) M203) else (False)))))) else (if (((M).1 a0 (Int32.toNatClampNeg x3)) &&& 31) = 23 then (m_ok Th a0 .int ((x3 + 1)) ∧ (Th.2.2 a1 = some (.inl 10) ∧ (P10_had 2047 Th a1 (((M).1 a0 (Int32.toNatClampNeg ((x3 + 1))))) M (fun (v208 : Int32) (M207 : mM) => Th.2.2 a2 = some (.inl 11) ∧ (P11_had 2047 Th a2 (((M207).1 a0 (Int32.toNatClampNeg ((x3 + 1))))) M207 (fun (v211 : Int32) (M210 : mM) => if v208 = v211 then (HL_law_18 Th a0 a1 a2 (x3 + 8) M210) else (False))))))) else (if (((M).1 a0 (Int32.toNatClampNeg x3)) &&& 31) = 24 then (Th.2.2 a1 = some (.inl 10) ∧ (P10_clear 2047 Th a1 M (fun (v214 : Int32) (M213 : mM) => Th.2.2 a2 = some (.inl 11) ∧ (P11_clear 2047 Th a2 M213 (fun (v217 : Int32) (M216 : mM) => if v214 = v217 then (HL_law_18 Th a0 a1 a2 (x3 + 8) M216) else (False)))))) else (if (((M).1 a0 (Int32.toNatClampNeg x3)) &&& 31) = 25 then (m_ok Th a0 .int ((x3 + 1)) ∧ (Th.2.2 a1 = some (.inl 10) ∧ (P10_check 2047 Th a1 (((M).1 a0 (Int32.toNatClampNeg ((x3 + 1))))) M (fun (v221 : Int32) (M220 : mM) => Th.2.2 a2 = some (.inl 11) ∧ (P11_check 2047 Th a2 (((M220).1 a0 (Int32.toNatClampNeg ((x3 + 1))))) M220 (fun (v224 : Int32) (M223 : mM) => if v221 = v224 then (HL_law_18 Th a0 a1 a2 (x3 + 8) M223) else (False))))))) else (if (((M).1 a0 (Int32.toNatClampNeg x3)) &&& 31) = 26 then (m_ok Th a0 .int ((x3 + 1)) ∧ (Th.2.2 a1 = some (.inl 10) ∧ (P10_count 2047 Th a1 (((M).1 a0 (Int32.toNatClampNeg ((x3 + 1))))) M (fun (v228 : Int32) (M227 : mM) => Th.2.2 a2 = some (.inl 11) ∧ (P11_count 2047 Th a2 (((M227).1 a0 (Int32.toNatClampNeg ((x3 + 1))))) M227 (fun (v231 : Int32) (M230 : mM) => if v228 = v231 then (HL_law_18 Th a0 a1 a2 (x3 + 8) M230) else (False))))))) else (HL_law_18 Th a0 a1 a2 (x3 + 8) M))))))))))))))))))))))))))))))) : HL_law_18 Th a0 a1 a2 x3 M := by
  show m_W 2048 600000 7302250 yL_law cL_law 4 (some .boolean) QL 18 [(0, .ref a0), (1, .ref a1), (2, .ref a2), (3, .int x3)] [] Th M 153 931703
  refine m_iload_n dL_law_18 rfl 3 rfl ?_
  refine m_aload_n dL_law_19 rfl 0 rfl ?_
  obtain ⟨_, _, n1, q2, h⟩ := h
  refine m_alen dL_law_20 q2 ?_
  refine m_bipush (v := 8) dL_law_21 (by decide) ?_
  refine m_isub dL_law_23 ?_
  refine m_icmp_gt (tgt := 1194) dL_law_24 (by decide) (fun c1 => ?_) (fun c1 => ?_)
  · rw [if_pos c1] at h
    refine m_iconst (v := 1) dL_law_1194 (by decide) ?_
    first | exact h.elim | exact m_wid 600000 7302250 (Nat.le_of_ble_eq_true rfl) (Nat.le_of_ble_eq_true rfl) (m_ireturn dL_law_1195 rfl (by decide) rfl)
  · rw [if_neg c1] at h
    refine m_aload_n dL_law_27 rfl 0 rfl ?_
    refine m_iload_n dL_law_28 rfl 3 rfl ?_
    obtain ⟨q3, h⟩ := h
    refine m_iald dL_law_29 q3 ?_
    refine m_bipush (v := 31) dL_law_30 (by decide) ?_
    refine m_iand dL_law_32 ?_
    by_cases c0 : (((M).1 a0 (Int32.toNatClampNeg x3)) &&& 31) = 0
    · rw [if_pos c0] at h
      refine m_tableIn (off := 123) (tgt := 156) dL_law_33 (by rw [c0]; decide) (by rw [c0]; decide) (by rw [c0]; decide) (by decide) ?_
      refine m_aload_n dL_law_156 rfl 1 rfl ?_
      refine m_aload_n dL_law_157 rfl 0 rfl ?_
      refine m_iload_n dL_law_158 rfl 3 rfl ?_
      refine m_iconst (v := 1) dL_law_159 (by decide) ?_
      refine m_iadd dL_law_160 ?_
      obtain ⟨q4, h⟩ := h
      refine m_iald dL_law_161 q4 ?_
      refine m_aload_n dL_law_162 rfl 0 rfl ?_
      refine m_iload_n dL_law_163 rfl 3 rfl ?_
      refine m_iconst (v := 2) dL_law_164 (by decide) ?_
      refine m_iadd dL_law_165 ?_
      obtain ⟨q5, h⟩ := h
      refine m_iald dL_law_166 q5 ?_
      refine m_aload_n dL_law_167 rfl 0 rfl ?_
      refine m_iload_n dL_law_168 rfl 3 rfl ?_
      refine m_iconst (v := 3) dL_law_169 (by decide) ?_
      refine m_iadd dL_law_170 ?_
      obtain ⟨q6, h⟩ := h
      refine m_iald dL_law_171 q6 ?_
      obtain ⟨q9, h⟩ := h
      refine m_invV (ci := 10) (As := [.int (((M).1 a0 (Int32.toNatClampNeg ((x3 + 1))))), .int (((M).1 a0 (Int32.toNatClampNeg ((x3 + 2))))), .int (((M).1 a0 (Int32.toNatClampNeg ((x3 + 3)))))]) (d' := 2047) (mc' := 0) (ms' := 0) (rest := []) i_10_riddle v_10_riddle t_10_riddle l_L_13 ⟨_, _, rfl⟩ dL_law_172 rfl rfl q9 (Nat.le_of_ble_eq_true rfl) (Nat.le_refl _) ⟨Nat.le_of_ble_eq_true rfl, Nat.le_of_ble_eq_true rfl⟩ (m_Ci h (fun v8 M7 h => ?_))
      show m_W 2048 600000 7302250 yL_law cL_law 4 (some .boolean) QL 175 [(0, .ref a0), (1, .ref a1), (2, .ref a2), (3, .int x3)] [.int v8] Th M7 153 931703
      refine m_aload_n dL_law_175 rfl 2 rfl ?_
      refine m_aload_n dL_law_176 rfl 0 rfl ?_
      refine m_iload_n dL_law_177 rfl 3 rfl ?_
      refine m_iconst (v := 1) dL_law_178 (by decide) ?_
      refine m_iadd dL_law_179 ?_
      refine m_iald dL_law_180 q4 ?_
      refine m_aload_n dL_law_181 rfl 0 rfl ?_
      refine m_iload_n dL_law_182 rfl 3 rfl ?_
      refine m_iconst (v := 2) dL_law_183 (by decide) ?_
      refine m_iadd dL_law_184 ?_
      refine m_iald dL_law_185 q5 ?_
      refine m_aload_n dL_law_186 rfl 0 rfl ?_
      refine m_iload_n dL_law_187 rfl 3 rfl ?_
      refine m_iconst (v := 3) dL_law_188 (by decide) ?_
      refine m_iadd dL_law_189 ?_
      refine m_iald dL_law_190 q6 ?_
      obtain ⟨q12, h⟩ := h
      refine m_invV (ci := 11) (As := [.int (((M7).1 a0 (Int32.toNatClampNeg ((x3 + 1))))), .int (((M7).1 a0 (Int32.toNatClampNeg ((x3 + 2))))), .int (((M7).1 a0 (Int32.toNatClampNeg ((x3 + 3)))))]) (d' := 2047) (mc' := 0) (ms' := 0) (rest := [.int v8]) i_11_riddle v_11_riddle t_11_riddle l_L_17 ⟨_, _, rfl⟩ dL_law_191 rfl rfl q12 (Nat.le_of_ble_eq_true rfl) (Nat.le_refl _) ⟨Nat.le_of_ble_eq_true rfl, Nat.le_of_ble_eq_true rfl⟩ (m_Ci h (fun v11 M10 h => ?_))
      show m_W 2048 600000 7302250 yL_law cL_law 4 (some .boolean) QL 194 [(0, .ref a0), (1, .ref a1), (2, .ref a2), (3, .int x3)] [.int v11, .int v8] Th M10 153 931703
      refine m_icmp_eq (tgt := 1188) dL_law_194 (by decide) (fun c1 => ?_) (fun c1 => ?_)
      · rw [if_pos c1] at h
        refine m_iinc (v := x3 + 8) (lv' := [(3, .int (x3 + 8)), (0, .ref a0), (1, .ref a1), (2, .ref a2)]) dL_law_1188 3 rfl rfl (by decide) rfl ?_
        refine m_goto (tgt := 18) dL_law_1191 (by decide) ?_
        exact m_sub [1, 2, 3, 0] rfl h
      · rw [if_neg c1] at h
        refine m_iconst (v := 0) dL_law_197 (by decide) ?_
        first | exact h.elim | exact m_wid 600000 7302250 (Nat.le_of_ble_eq_true rfl) (Nat.le_of_ble_eq_true rfl) (m_ireturn dL_law_198 rfl (by decide) rfl)
    rw [if_neg c0] at h
    by_cases c1 : (((M).1 a0 (Int32.toNatClampNeg x3)) &&& 31) = 1
    · rw [if_pos c1] at h
      refine m_tableIn (off := 166) (tgt := 199) dL_law_33 (by rw [c1]; decide) (by rw [c1]; decide) (by rw [c1]; decide) (by decide) ?_
      refine m_aload_n dL_law_199 rfl 1 rfl ?_
      refine m_aload_n dL_law_200 rfl 0 rfl ?_
      refine m_iload_n dL_law_201 rfl 3 rfl ?_
      refine m_iconst (v := 1) dL_law_202 (by decide) ?_
      refine m_iadd dL_law_203 ?_
      obtain ⟨q13, h⟩ := h
      refine m_iald dL_law_204 q13 ?_
      refine m_aload_n dL_law_205 rfl 0 rfl ?_
      refine m_iload_n dL_law_206 rfl 3 rfl ?_
      refine m_iconst (v := 2) dL_law_207 (by decide) ?_
      refine m_iadd dL_law_208 ?_
      obtain ⟨q14, h⟩ := h
      refine m_iald dL_law_209 q14 ?_
      refine m_aload_n dL_law_210 rfl 0 rfl ?_
      refine m_iload_n dL_law_211 rfl 3 rfl ?_
      refine m_iconst (v := 3) dL_law_212 (by decide) ?_
      refine m_iadd dL_law_213 ?_
      obtain ⟨q15, h⟩ := h
      refine m_iald dL_law_214 q15 ?_
      obtain ⟨q18, h⟩ := h
      refine m_invV (ci := 10) (As := [.int (((M).1 a0 (Int32.toNatClampNeg ((x3 + 1))))), .int (((M).1 a0 (Int32.toNatClampNeg ((x3 + 2))))), .int (((M).1 a0 (Int32.toNatClampNeg ((x3 + 3)))))]) (d' := 2047) (mc' := 0) (ms' := 0) (rest := []) i_10_band v_10_band t_10_band l_L_18 ⟨_, _, rfl⟩ dL_law_215 rfl rfl q18 (Nat.le_of_ble_eq_true rfl) (Nat.le_refl _) ⟨Nat.le_of_ble_eq_true rfl, Nat.le_of_ble_eq_true rfl⟩ (m_Ci h (fun v17 M16 h => ?_))
      show m_W 2048 600000 7302250 yL_law cL_law 4 (some .boolean) QL 218 [(0, .ref a0), (1, .ref a1), (2, .ref a2), (3, .int x3)] [.int v17] Th M16 153 931703
      refine m_aload_n dL_law_218 rfl 2 rfl ?_
      refine m_aload_n dL_law_219 rfl 0 rfl ?_
      refine m_iload_n dL_law_220 rfl 3 rfl ?_
      refine m_iconst (v := 1) dL_law_221 (by decide) ?_
      refine m_iadd dL_law_222 ?_
      refine m_iald dL_law_223 q13 ?_
      refine m_aload_n dL_law_224 rfl 0 rfl ?_
      refine m_iload_n dL_law_225 rfl 3 rfl ?_
      refine m_iconst (v := 2) dL_law_226 (by decide) ?_
      refine m_iadd dL_law_227 ?_
      refine m_iald dL_law_228 q14 ?_
      refine m_aload_n dL_law_229 rfl 0 rfl ?_
      refine m_iload_n dL_law_230 rfl 3 rfl ?_
      refine m_iconst (v := 3) dL_law_231 (by decide) ?_
      refine m_iadd dL_law_232 ?_
      refine m_iald dL_law_233 q15 ?_
      obtain ⟨q21, h⟩ := h
      refine m_invV (ci := 11) (As := [.int (((M16).1 a0 (Int32.toNatClampNeg ((x3 + 1))))), .int (((M16).1 a0 (Int32.toNatClampNeg ((x3 + 2))))), .int (((M16).1 a0 (Int32.toNatClampNeg ((x3 + 3)))))]) (d' := 2047) (mc' := 0) (ms' := 0) (rest := [.int v17]) i_11_band v_11_band t_11_band l_L_21 ⟨_, _, rfl⟩ dL_law_234 rfl rfl q21 (Nat.le_of_ble_eq_true rfl) (Nat.le_refl _) ⟨Nat.le_of_ble_eq_true rfl, Nat.le_of_ble_eq_true rfl⟩ (m_Ci h (fun v20 M19 h => ?_))
      show m_W 2048 600000 7302250 yL_law cL_law 4 (some .boolean) QL 237 [(0, .ref a0), (1, .ref a1), (2, .ref a2), (3, .int x3)] [.int v20, .int v17] Th M19 153 931703
      refine m_icmp_eq (tgt := 1188) dL_law_237 (by decide) (fun c1 => ?_) (fun c1 => ?_)
      · rw [if_pos c1] at h
        refine m_iinc (v := x3 + 8) (lv' := [(3, .int (x3 + 8)), (0, .ref a0), (1, .ref a1), (2, .ref a2)]) dL_law_1188 3 rfl rfl (by decide) rfl ?_
        refine m_goto (tgt := 18) dL_law_1191 (by decide) ?_
        exact m_sub [1, 2, 3, 0] rfl h
      · rw [if_neg c1] at h
        refine m_iconst (v := 0) dL_law_240 (by decide) ?_
        first | exact h.elim | exact m_wid 600000 7302250 (Nat.le_of_ble_eq_true rfl) (Nat.le_of_ble_eq_true rfl) (m_ireturn dL_law_241 rfl (by decide) rfl)
    rw [if_neg c1] at h
    by_cases c2 : (((M).1 a0 (Int32.toNatClampNeg x3)) &&& 31) = 2
    · rw [if_pos c2] at h
      refine m_tableIn (off := 209) (tgt := 242) dL_law_33 (by rw [c2]; decide) (by rw [c2]; decide) (by rw [c2]; decide) (by decide) ?_
      refine m_aload_n dL_law_242 rfl 1 rfl ?_
      refine m_aload_n dL_law_243 rfl 0 rfl ?_
      refine m_iload_n dL_law_244 rfl 3 rfl ?_
      refine m_iconst (v := 1) dL_law_245 (by decide) ?_
      refine m_iadd dL_law_246 ?_
      obtain ⟨q22, h⟩ := h
      refine m_iald dL_law_247 q22 ?_
      refine m_aload_n dL_law_248 rfl 0 rfl ?_
      refine m_iload_n dL_law_249 rfl 3 rfl ?_
      refine m_iconst (v := 2) dL_law_250 (by decide) ?_
      refine m_iadd dL_law_251 ?_
      obtain ⟨q23, h⟩ := h
      refine m_iald dL_law_252 q23 ?_
      obtain ⟨q26, h⟩ := h
      refine m_invV (ci := 10) (As := [.int (((M).1 a0 (Int32.toNatClampNeg ((x3 + 1))))), .int (((M).1 a0 (Int32.toNatClampNeg ((x3 + 2)))))]) (d' := 2047) (mc' := 0) (ms' := 0) (rest := []) i_10_weather v_10_weather t_10_weather l_L_22 ⟨_, _, rfl⟩ dL_law_253 rfl rfl q26 (Nat.le_of_ble_eq_true rfl) (Nat.le_refl _) ⟨Nat.le_of_ble_eq_true rfl, Nat.le_of_ble_eq_true rfl⟩ (m_Ci h (fun v25 M24 h => ?_))
      show m_W 2048 600000 7302250 yL_law cL_law 4 (some .boolean) QL 256 [(0, .ref a0), (1, .ref a1), (2, .ref a2), (3, .int x3)] [.int v25] Th M24 153 931703
      refine m_aload_n dL_law_256 rfl 2 rfl ?_
      refine m_aload_n dL_law_257 rfl 0 rfl ?_
      refine m_iload_n dL_law_258 rfl 3 rfl ?_
      refine m_iconst (v := 1) dL_law_259 (by decide) ?_
      refine m_iadd dL_law_260 ?_
      refine m_iald dL_law_261 q22 ?_
      refine m_aload_n dL_law_262 rfl 0 rfl ?_
      refine m_iload_n dL_law_263 rfl 3 rfl ?_
      refine m_iconst (v := 2) dL_law_264 (by decide) ?_
      refine m_iadd dL_law_265 ?_
      refine m_iald dL_law_266 q23 ?_
      obtain ⟨q29, h⟩ := h
      refine m_invV (ci := 11) (As := [.int (((M24).1 a0 (Int32.toNatClampNeg ((x3 + 1))))), .int (((M24).1 a0 (Int32.toNatClampNeg ((x3 + 2)))))]) (d' := 2047) (mc' := 0) (ms' := 0) (rest := [.int v25]) i_11_weather v_11_weather t_11_weather l_L_26 ⟨_, _, rfl⟩ dL_law_267 rfl rfl q29 (Nat.le_of_ble_eq_true rfl) (Nat.le_refl _) ⟨Nat.le_of_ble_eq_true rfl, Nat.le_of_ble_eq_true rfl⟩ (m_Ci h (fun v28 M27 h => ?_))
      show m_W 2048 600000 7302250 yL_law cL_law 4 (some .boolean) QL 270 [(0, .ref a0), (1, .ref a1), (2, .ref a2), (3, .int x3)] [.int v28, .int v25] Th M27 153 931703
      refine m_icmp_eq (tgt := 1188) dL_law_270 (by decide) (fun c1 => ?_) (fun c1 => ?_)
      · rw [if_pos c1] at h
        refine m_iinc (v := x3 + 8) (lv' := [(3, .int (x3 + 8)), (0, .ref a0), (1, .ref a1), (2, .ref a2)]) dL_law_1188 3 rfl rfl (by decide) rfl ?_
        refine m_goto (tgt := 18) dL_law_1191 (by decide) ?_
        exact m_sub [1, 2, 3, 0] rfl h
      · rw [if_neg c1] at h
        refine m_iconst (v := 0) dL_law_273 (by decide) ?_
        first | exact h.elim | exact m_wid 600000 7302250 (Nat.le_of_ble_eq_true rfl) (Nat.le_of_ble_eq_true rfl) (m_ireturn dL_law_274 rfl (by decide) rfl)
    rw [if_neg c2] at h
    by_cases c3 : (((M).1 a0 (Int32.toNatClampNeg x3)) &&& 31) = 3
    · rw [if_pos c3] at h
      refine m_tableIn (off := 242) (tgt := 275) dL_law_33 (by rw [c3]; decide) (by rw [c3]; decide) (by rw [c3]; decide) (by decide) ?_
      refine m_aload_n dL_law_275 rfl 1 rfl ?_
      refine m_aload_n dL_law_276 rfl 0 rfl ?_
      refine m_iload_n dL_law_277 rfl 3 rfl ?_
      refine m_iconst (v := 1) dL_law_278 (by decide) ?_
      refine m_iadd dL_law_279 ?_
      obtain ⟨q30, h⟩ := h
      refine m_iald dL_law_280 q30 ?_
      refine m_aload_n dL_law_281 rfl 0 rfl ?_
      refine m_iload_n dL_law_282 rfl 3 rfl ?_
      refine m_iconst (v := 2) dL_law_283 (by decide) ?_
      refine m_iadd dL_law_284 ?_
      obtain ⟨q31, h⟩ := h
      refine m_iald dL_law_285 q31 ?_
      refine m_aload_n dL_law_286 rfl 0 rfl ?_
      refine m_iload_n dL_law_287 rfl 3 rfl ?_
      refine m_iconst (v := 3) dL_law_288 (by decide) ?_
      refine m_iadd dL_law_289 ?_
      obtain ⟨q32, h⟩ := h
      refine m_iald dL_law_290 q32 ?_
      refine m_aload_n dL_law_291 rfl 0 rfl ?_
      refine m_iload_n dL_law_292 rfl 3 rfl ?_
      refine m_iconst (v := 4) dL_law_293 (by decide) ?_
      refine m_iadd dL_law_294 ?_
      obtain ⟨q33, h⟩ := h
      refine m_iald dL_law_295 q33 ?_
      refine m_aload_n dL_law_296 rfl 0 rfl ?_
      refine m_iload_n dL_law_297 rfl 3 rfl ?_
      refine m_iconst (v := 5) dL_law_298 (by decide) ?_
      refine m_iadd dL_law_299 ?_
      obtain ⟨q34, h⟩ := h
      refine m_iald dL_law_300 q34 ?_
      obtain ⟨q37, h⟩ := h
      refine m_invV (ci := 10) (As := [.int (((M).1 a0 (Int32.toNatClampNeg ((x3 + 1))))), .int (((M).1 a0 (Int32.toNatClampNeg ((x3 + 2))))), .int (((M).1 a0 (Int32.toNatClampNeg ((x3 + 3))))), .int (((M).1 a0 (Int32.toNatClampNeg ((x3 + 4))))), .int (((M).1 a0 (Int32.toNatClampNeg ((x3 + 5)))))]) (d' := 2047) (mc' := 0) (ms' := 0) (rest := []) i_10_feed v_10_feed t_10_feed l_L_27 ⟨_, _, rfl⟩ dL_law_301 rfl rfl q37 (Nat.le_of_ble_eq_true rfl) (Nat.le_refl _) ⟨Nat.le_of_ble_eq_true rfl, Nat.le_of_ble_eq_true rfl⟩ (m_Ci h (fun v36 M35 h => ?_))
      show m_W 2048 600000 7302250 yL_law cL_law 4 (some .boolean) QL 304 [(0, .ref a0), (1, .ref a1), (2, .ref a2), (3, .int x3)] [.int v36] Th M35 153 931703
      refine m_aload_n dL_law_304 rfl 2 rfl ?_
      refine m_aload_n dL_law_305 rfl 0 rfl ?_
      refine m_iload_n dL_law_306 rfl 3 rfl ?_
      refine m_iconst (v := 1) dL_law_307 (by decide) ?_
      refine m_iadd dL_law_308 ?_
      refine m_iald dL_law_309 q30 ?_
      refine m_aload_n dL_law_310 rfl 0 rfl ?_
      refine m_iload_n dL_law_311 rfl 3 rfl ?_
      refine m_iconst (v := 2) dL_law_312 (by decide) ?_
      refine m_iadd dL_law_313 ?_
      refine m_iald dL_law_314 q31 ?_
      refine m_aload_n dL_law_315 rfl 0 rfl ?_
      refine m_iload_n dL_law_316 rfl 3 rfl ?_
      refine m_iconst (v := 3) dL_law_317 (by decide) ?_
      refine m_iadd dL_law_318 ?_
      refine m_iald dL_law_319 q32 ?_
      refine m_aload_n dL_law_320 rfl 0 rfl ?_
      refine m_iload_n dL_law_321 rfl 3 rfl ?_
      refine m_iconst (v := 4) dL_law_322 (by decide) ?_
      refine m_iadd dL_law_323 ?_
      refine m_iald dL_law_324 q33 ?_
      refine m_aload_n dL_law_325 rfl 0 rfl ?_
      refine m_iload_n dL_law_326 rfl 3 rfl ?_
      refine m_iconst (v := 5) dL_law_327 (by decide) ?_
      refine m_iadd dL_law_328 ?_
      refine m_iald dL_law_329 q34 ?_
      obtain ⟨q40, h⟩ := h
      refine m_invV (ci := 11) (As := [.int (((M35).1 a0 (Int32.toNatClampNeg ((x3 + 1))))), .int (((M35).1 a0 (Int32.toNatClampNeg ((x3 + 2))))), .int (((M35).1 a0 (Int32.toNatClampNeg ((x3 + 3))))), .int (((M35).1 a0 (Int32.toNatClampNeg ((x3 + 4))))), .int (((M35).1 a0 (Int32.toNatClampNeg ((x3 + 5)))))]) (d' := 2047) (mc' := 0) (ms' := 0) (rest := [.int v36]) i_11_feed v_11_feed t_11_feed l_L_31 ⟨_, _, rfl⟩ dL_law_330 rfl rfl q40 (Nat.le_of_ble_eq_true rfl) (Nat.le_refl _) ⟨Nat.le_of_ble_eq_true rfl, Nat.le_of_ble_eq_true rfl⟩ (m_Ci h (fun v39 M38 h => ?_))
      show m_W 2048 600000 7302250 yL_law cL_law 4 (some .boolean) QL 333 [(0, .ref a0), (1, .ref a1), (2, .ref a2), (3, .int x3)] [.int v39, .int v36] Th M38 153 931703
      refine m_icmp_eq (tgt := 1188) dL_law_333 (by decide) (fun c1 => ?_) (fun c1 => ?_)
      · rw [if_pos c1] at h
        refine m_iinc (v := x3 + 8) (lv' := [(3, .int (x3 + 8)), (0, .ref a0), (1, .ref a1), (2, .ref a2)]) dL_law_1188 3 rfl rfl (by decide) rfl ?_
        refine m_goto (tgt := 18) dL_law_1191 (by decide) ?_
        exact m_sub [1, 2, 3, 0] rfl h
      · rw [if_neg c1] at h
        refine m_iconst (v := 0) dL_law_336 (by decide) ?_
        first | exact h.elim | exact m_wid 600000 7302250 (Nat.le_of_ble_eq_true rfl) (Nat.le_of_ble_eq_true rfl) (m_ireturn dL_law_337 rfl (by decide) rfl)
    rw [if_neg c3] at h
    by_cases c4 : (((M).1 a0 (Int32.toNatClampNeg x3)) &&& 31) = 4
    · rw [if_pos c4] at h
      refine m_tableIn (off := 305) (tgt := 338) dL_law_33 (by rw [c4]; decide) (by rw [c4]; decide) (by rw [c4]; decide) (by decide) ?_
      refine m_aload_n dL_law_338 rfl 1 rfl ?_
      refine m_aload_n dL_law_339 rfl 0 rfl ?_
      refine m_iload_n dL_law_340 rfl 3 rfl ?_
      refine m_iconst (v := 1) dL_law_341 (by decide) ?_
      refine m_iadd dL_law_342 ?_
      obtain ⟨q41, h⟩ := h
      refine m_iald dL_law_343 q41 ?_
      obtain ⟨q44, h⟩ := h
      refine m_invV (ci := 10) (As := [.int (((M).1 a0 (Int32.toNatClampNeg ((x3 + 1)))))]) (d' := 2047) (mc' := 0) (ms' := 0) (rest := []) i_10_law v_10_law t_10_law l_L_32 ⟨_, _, rfl⟩ dL_law_344 rfl rfl q44 (Nat.le_of_ble_eq_true rfl) (Nat.le_refl _) ⟨Nat.le_of_ble_eq_true rfl, Nat.le_of_ble_eq_true rfl⟩ (m_Ci h (fun v43 M42 h => ?_))
      show m_W 2048 600000 7302250 yL_law cL_law 4 (some .boolean) QL 347 [(0, .ref a0), (1, .ref a1), (2, .ref a2), (3, .int x3)] [.int v43] Th M42 153 931703
      refine m_aload_n dL_law_347 rfl 2 rfl ?_
      refine m_aload_n dL_law_348 rfl 0 rfl ?_
      refine m_iload_n dL_law_349 rfl 3 rfl ?_
      refine m_iconst (v := 1) dL_law_350 (by decide) ?_
      refine m_iadd dL_law_351 ?_
      refine m_iald dL_law_352 q41 ?_
      obtain ⟨q47, h⟩ := h
      refine m_invV (ci := 11) (As := [.int (((M42).1 a0 (Int32.toNatClampNeg ((x3 + 1)))))]) (d' := 2047) (mc' := 0) (ms' := 0) (rest := [.int v43]) i_11_law v_11_law t_11_law l_L_36 ⟨_, _, rfl⟩ dL_law_353 rfl rfl q47 (Nat.le_of_ble_eq_true rfl) (Nat.le_refl _) ⟨Nat.le_of_ble_eq_true rfl, Nat.le_of_ble_eq_true rfl⟩ (m_Ci h (fun v46 M45 h => ?_))
      show m_W 2048 600000 7302250 yL_law cL_law 4 (some .boolean) QL 356 [(0, .ref a0), (1, .ref a1), (2, .ref a2), (3, .int x3)] [.int v46, .int v43] Th M45 153 931703
      refine m_icmp_eq (tgt := 1188) dL_law_356 (by decide) (fun c1 => ?_) (fun c1 => ?_)
      · rw [if_pos c1] at h
        refine m_iinc (v := x3 + 8) (lv' := [(3, .int (x3 + 8)), (0, .ref a0), (1, .ref a1), (2, .ref a2)]) dL_law_1188 3 rfl rfl (by decide) rfl ?_
        refine m_goto (tgt := 18) dL_law_1191 (by decide) ?_
        exact m_sub [1, 2, 3, 0] rfl h
      · rw [if_neg c1] at h
        refine m_iconst (v := 0) dL_law_359 (by decide) ?_
        first | exact h.elim | exact m_wid 600000 7302250 (Nat.le_of_ble_eq_true rfl) (Nat.le_of_ble_eq_true rfl) (m_ireturn dL_law_360 rfl (by decide) rfl)
    rw [if_neg c4] at h
    by_cases c5 : (((M).1 a0 (Int32.toNatClampNeg x3)) &&& 31) = 5
    · rw [if_pos c5] at h
      refine m_tableIn (off := 328) (tgt := 361) dL_law_33 (by rw [c5]; decide) (by rw [c5]; decide) (by rw [c5]; decide) (by decide) ?_
      refine m_aload_n dL_law_361 rfl 1 rfl ?_
      refine m_aload_n dL_law_362 rfl 0 rfl ?_
      refine m_iload_n dL_law_363 rfl 3 rfl ?_
      refine m_iconst (v := 1) dL_law_364 (by decide) ?_
      refine m_iadd dL_law_365 ?_
      obtain ⟨q48, h⟩ := h
      refine m_iald dL_law_366 q48 ?_
      refine m_aload_n dL_law_367 rfl 0 rfl ?_
      refine m_iload_n dL_law_368 rfl 3 rfl ?_
      refine m_iconst (v := 2) dL_law_369 (by decide) ?_
      refine m_iadd dL_law_370 ?_
      obtain ⟨q49, h⟩ := h
      refine m_iald dL_law_371 q49 ?_
      refine m_aload_n dL_law_372 rfl 0 rfl ?_
      refine m_iload_n dL_law_373 rfl 3 rfl ?_
      refine m_iconst (v := 3) dL_law_374 (by decide) ?_
      refine m_iadd dL_law_375 ?_
      obtain ⟨q50, h⟩ := h
      refine m_iald dL_law_376 q50 ?_
      refine m_aload_n dL_law_377 rfl 0 rfl ?_
      refine m_iload_n dL_law_378 rfl 3 rfl ?_
      refine m_iconst (v := 4) dL_law_379 (by decide) ?_
      refine m_iadd dL_law_380 ?_
      obtain ⟨q51, h⟩ := h
      refine m_iald dL_law_381 q51 ?_
      obtain ⟨q54, h⟩ := h
      refine m_invV (ci := 10) (As := [.int (((M).1 a0 (Int32.toNatClampNeg ((x3 + 1))))), .int (((M).1 a0 (Int32.toNatClampNeg ((x3 + 2))))), .int (((M).1 a0 (Int32.toNatClampNeg ((x3 + 3))))), .int (((M).1 a0 (Int32.toNatClampNeg ((x3 + 4)))))]) (d' := 2047) (mc' := 0) (ms' := 0) (rest := []) i_10_chance v_10_chance t_10_chance l_L_37 ⟨_, _, rfl⟩ dL_law_382 rfl rfl q54 (Nat.le_of_ble_eq_true rfl) (Nat.le_refl _) ⟨Nat.le_of_ble_eq_true rfl, Nat.le_of_ble_eq_true rfl⟩ (m_Ci h (fun v53 M52 h => ?_))
      show m_W 2048 600000 7302250 yL_law cL_law 4 (some .boolean) QL 385 [(0, .ref a0), (1, .ref a1), (2, .ref a2), (3, .int x3)] [.int v53] Th M52 153 931703
      refine m_aload_n dL_law_385 rfl 2 rfl ?_
      refine m_aload_n dL_law_386 rfl 0 rfl ?_
      refine m_iload_n dL_law_387 rfl 3 rfl ?_
      refine m_iconst (v := 1) dL_law_388 (by decide) ?_
      refine m_iadd dL_law_389 ?_
      refine m_iald dL_law_390 q48 ?_
      refine m_aload_n dL_law_391 rfl 0 rfl ?_
      refine m_iload_n dL_law_392 rfl 3 rfl ?_
      refine m_iconst (v := 2) dL_law_393 (by decide) ?_
      refine m_iadd dL_law_394 ?_
      refine m_iald dL_law_395 q49 ?_
      refine m_aload_n dL_law_396 rfl 0 rfl ?_
      refine m_iload_n dL_law_397 rfl 3 rfl ?_
      refine m_iconst (v := 3) dL_law_398 (by decide) ?_
      refine m_iadd dL_law_399 ?_
      refine m_iald dL_law_400 q50 ?_
      refine m_aload_n dL_law_401 rfl 0 rfl ?_
      refine m_iload_n dL_law_402 rfl 3 rfl ?_
      refine m_iconst (v := 4) dL_law_403 (by decide) ?_
      refine m_iadd dL_law_404 ?_
      refine m_iald dL_law_405 q51 ?_
      obtain ⟨q57, h⟩ := h
      refine m_invV (ci := 11) (As := [.int (((M52).1 a0 (Int32.toNatClampNeg ((x3 + 1))))), .int (((M52).1 a0 (Int32.toNatClampNeg ((x3 + 2))))), .int (((M52).1 a0 (Int32.toNatClampNeg ((x3 + 3))))), .int (((M52).1 a0 (Int32.toNatClampNeg ((x3 + 4)))))]) (d' := 2047) (mc' := 0) (ms' := 0) (rest := [.int v53]) i_11_chance v_11_chance t_11_chance l_L_41 ⟨_, _, rfl⟩ dL_law_406 rfl rfl q57 (Nat.le_of_ble_eq_true rfl) (Nat.le_refl _) ⟨Nat.le_of_ble_eq_true rfl, Nat.le_of_ble_eq_true rfl⟩ (m_Ci h (fun v56 M55 h => ?_))
      show m_W 2048 600000 7302250 yL_law cL_law 4 (some .boolean) QL 409 [(0, .ref a0), (1, .ref a1), (2, .ref a2), (3, .int x3)] [.int v56, .int v53] Th M55 153 931703
      refine m_icmp_eq (tgt := 1188) dL_law_409 (by decide) (fun c1 => ?_) (fun c1 => ?_)
      · rw [if_pos c1] at h
        refine m_iinc (v := x3 + 8) (lv' := [(3, .int (x3 + 8)), (0, .ref a0), (1, .ref a1), (2, .ref a2)]) dL_law_1188 3 rfl rfl (by decide) rfl ?_
        refine m_goto (tgt := 18) dL_law_1191 (by decide) ?_
        exact m_sub [1, 2, 3, 0] rfl h
      · rw [if_neg c1] at h
        refine m_iconst (v := 0) dL_law_412 (by decide) ?_
        first | exact h.elim | exact m_wid 600000 7302250 (Nat.le_of_ble_eq_true rfl) (Nat.le_of_ble_eq_true rfl) (m_ireturn dL_law_413 rfl (by decide) rfl)
    rw [if_neg c5] at h
    by_cases c6 : (((M).1 a0 (Int32.toNatClampNeg x3)) &&& 31) = 6
    · rw [if_pos c6] at h
      refine m_tableIn (off := 381) (tgt := 414) dL_law_33 (by rw [c6]; decide) (by rw [c6]; decide) (by rw [c6]; decide) (by decide) ?_
      refine m_aload_n dL_law_414 rfl 1 rfl ?_
      refine m_aload_n dL_law_415 rfl 0 rfl ?_
      refine m_iload_n dL_law_416 rfl 3 rfl ?_
      refine m_iconst (v := 1) dL_law_417 (by decide) ?_
      refine m_iadd dL_law_418 ?_
      obtain ⟨q58, h⟩ := h
      refine m_iald dL_law_419 q58 ?_
      refine m_aload_n dL_law_420 rfl 0 rfl ?_
      refine m_iload_n dL_law_421 rfl 3 rfl ?_
      refine m_iconst (v := 2) dL_law_422 (by decide) ?_
      refine m_iadd dL_law_423 ?_
      obtain ⟨q59, h⟩ := h
      refine m_iald dL_law_424 q59 ?_
      obtain ⟨q62, h⟩ := h
      refine m_invV (ci := 10) (As := [.int (((M).1 a0 (Int32.toNatClampNeg ((x3 + 1))))), .int (((M).1 a0 (Int32.toNatClampNeg ((x3 + 2)))))]) (d' := 2047) (mc' := 0) (ms' := 0) (rest := []) i_10_walk v_10_walk t_10_walk l_L_42 ⟨_, _, rfl⟩ dL_law_425 rfl rfl q62 (Nat.le_of_ble_eq_true rfl) (Nat.le_refl _) ⟨Nat.le_of_ble_eq_true rfl, Nat.le_of_ble_eq_true rfl⟩ (m_Ci h (fun v61 M60 h => ?_))
      show m_W 2048 600000 7302250 yL_law cL_law 4 (some .boolean) QL 428 [(0, .ref a0), (1, .ref a1), (2, .ref a2), (3, .int x3)] [.int v61] Th M60 153 931703
      refine m_aload_n dL_law_428 rfl 2 rfl ?_
      refine m_aload_n dL_law_429 rfl 0 rfl ?_
      refine m_iload_n dL_law_430 rfl 3 rfl ?_
      refine m_iconst (v := 1) dL_law_431 (by decide) ?_
      refine m_iadd dL_law_432 ?_
      refine m_iald dL_law_433 q58 ?_
      refine m_aload_n dL_law_434 rfl 0 rfl ?_
      refine m_iload_n dL_law_435 rfl 3 rfl ?_
      refine m_iconst (v := 2) dL_law_436 (by decide) ?_
      refine m_iadd dL_law_437 ?_
      refine m_iald dL_law_438 q59 ?_
      obtain ⟨q65, h⟩ := h
      refine m_invV (ci := 11) (As := [.int (((M60).1 a0 (Int32.toNatClampNeg ((x3 + 1))))), .int (((M60).1 a0 (Int32.toNatClampNeg ((x3 + 2)))))]) (d' := 2047) (mc' := 0) (ms' := 0) (rest := [.int v61]) i_11_walk v_11_walk t_11_walk l_L_46 ⟨_, _, rfl⟩ dL_law_439 rfl rfl q65 (Nat.le_of_ble_eq_true rfl) (Nat.le_refl _) ⟨Nat.le_of_ble_eq_true rfl, Nat.le_of_ble_eq_true rfl⟩ (m_Ci h (fun v64 M63 h => ?_))
      show m_W 2048 600000 7302250 yL_law cL_law 4 (some .boolean) QL 442 [(0, .ref a0), (1, .ref a1), (2, .ref a2), (3, .int x3)] [.int v64, .int v61] Th M63 153 931703
      refine m_icmp_eq (tgt := 1188) dL_law_442 (by decide) (fun c1 => ?_) (fun c1 => ?_)
      · rw [if_pos c1] at h
        refine m_iinc (v := x3 + 8) (lv' := [(3, .int (x3 + 8)), (0, .ref a0), (1, .ref a1), (2, .ref a2)]) dL_law_1188 3 rfl rfl (by decide) rfl ?_
        refine m_goto (tgt := 18) dL_law_1191 (by decide) ?_
        exact m_sub [1, 2, 3, 0] rfl h
      · rw [if_neg c1] at h
        refine m_iconst (v := 0) dL_law_445 (by decide) ?_
        first | exact h.elim | exact m_wid 600000 7302250 (Nat.le_of_ble_eq_true rfl) (Nat.le_of_ble_eq_true rfl) (m_ireturn dL_law_446 rfl (by decide) rfl)
    rw [if_neg c6] at h
    by_cases c7 : (((M).1 a0 (Int32.toNatClampNeg x3)) &&& 31) = 7
    · rw [if_pos c7] at h
      refine m_tableIn (off := 414) (tgt := 447) dL_law_33 (by rw [c7]; decide) (by rw [c7]; decide) (by rw [c7]; decide) (by decide) ?_
      refine m_aload_n dL_law_447 rfl 1 rfl ?_
      refine m_aload_n dL_law_448 rfl 0 rfl ?_
      refine m_iload_n dL_law_449 rfl 3 rfl ?_
      refine m_iconst (v := 1) dL_law_450 (by decide) ?_
      refine m_iadd dL_law_451 ?_
      obtain ⟨q66, h⟩ := h
      refine m_iald dL_law_452 q66 ?_
      refine m_aload_n dL_law_453 rfl 0 rfl ?_
      refine m_iload_n dL_law_454 rfl 3 rfl ?_
      refine m_iconst (v := 2) dL_law_455 (by decide) ?_
      refine m_iadd dL_law_456 ?_
      obtain ⟨q67, h⟩ := h
      refine m_iald dL_law_457 q67 ?_
      refine m_aload_n dL_law_458 rfl 0 rfl ?_
      refine m_iload_n dL_law_459 rfl 3 rfl ?_
      refine m_iconst (v := 3) dL_law_460 (by decide) ?_
      refine m_iadd dL_law_461 ?_
      obtain ⟨q68, h⟩ := h
      refine m_iald dL_law_462 q68 ?_
      obtain ⟨q71, h⟩ := h
      refine m_invV (ci := 10) (As := [.int (((M).1 a0 (Int32.toNatClampNeg ((x3 + 1))))), .int (((M).1 a0 (Int32.toNatClampNeg ((x3 + 2))))), .int (((M).1 a0 (Int32.toNatClampNeg ((x3 + 3)))))]) (d' := 2047) (mc' := 0) (ms' := 0) (rest := []) i_10_ways v_10_ways t_10_ways l_L_47 ⟨_, _, rfl⟩ dL_law_463 rfl rfl q71 (Nat.le_of_ble_eq_true rfl) (Nat.le_refl _) ⟨Nat.le_of_ble_eq_true rfl, Nat.le_of_ble_eq_true rfl⟩ (m_Cl h (fun v70 M69 h => ?_))
      show m_W 2048 600000 7302250 yL_law cL_law 4 (some .boolean) QL 466 [(0, .ref a0), (1, .ref a1), (2, .ref a2), (3, .int x3)] [.long v70] Th M69 153 931703
      refine m_aload_n dL_law_466 rfl 2 rfl ?_
      refine m_aload_n dL_law_467 rfl 0 rfl ?_
      refine m_iload_n dL_law_468 rfl 3 rfl ?_
      refine m_iconst (v := 1) dL_law_469 (by decide) ?_
      refine m_iadd dL_law_470 ?_
      refine m_iald dL_law_471 q66 ?_
      refine m_aload_n dL_law_472 rfl 0 rfl ?_
      refine m_iload_n dL_law_473 rfl 3 rfl ?_
      refine m_iconst (v := 2) dL_law_474 (by decide) ?_
      refine m_iadd dL_law_475 ?_
      refine m_iald dL_law_476 q67 ?_
      refine m_aload_n dL_law_477 rfl 0 rfl ?_
      refine m_iload_n dL_law_478 rfl 3 rfl ?_
      refine m_iconst (v := 3) dL_law_479 (by decide) ?_
      refine m_iadd dL_law_480 ?_
      refine m_iald dL_law_481 q68 ?_
      obtain ⟨q74, h⟩ := h
      refine m_invV (ci := 11) (As := [.int (((M69).1 a0 (Int32.toNatClampNeg ((x3 + 1))))), .int (((M69).1 a0 (Int32.toNatClampNeg ((x3 + 2))))), .int (((M69).1 a0 (Int32.toNatClampNeg ((x3 + 3)))))]) (d' := 2047) (mc' := 0) (ms' := 0) (rest := [.long v70]) i_11_ways v_11_ways t_11_ways l_L_51 ⟨_, _, rfl⟩ dL_law_482 rfl rfl q74 (Nat.le_of_ble_eq_true rfl) (Nat.le_refl _) ⟨Nat.le_of_ble_eq_true rfl, Nat.le_of_ble_eq_true rfl⟩ (m_Cl h (fun v73 M72 h => ?_))
      show m_W 2048 600000 7302250 yL_law cL_law 4 (some .boolean) QL 485 [(0, .ref a0), (1, .ref a1), (2, .ref a2), (3, .int x3)] [.long v73, .long v70] Th M72 153 931703
      refine m_lcmp dL_law_485 ?_
      refine m_if_eq (tgt := 1188) dL_law_486 (by decide) (fun c1 => ?_) (fun c1 => ?_)
      · rw [if_pos c1] at h
        refine m_iinc (v := x3 + 8) (lv' := [(3, .int (x3 + 8)), (0, .ref a0), (1, .ref a1), (2, .ref a2)]) dL_law_1188 3 rfl rfl (by decide) rfl ?_
        refine m_goto (tgt := 18) dL_law_1191 (by decide) ?_
        exact m_sub [1, 2, 3, 0] rfl h
      · rw [if_neg c1] at h
        refine m_iconst (v := 0) dL_law_489 (by decide) ?_
        first | exact h.elim | exact m_wid 600000 7302250 (Nat.le_of_ble_eq_true rfl) (Nat.le_of_ble_eq_true rfl) (m_ireturn dL_law_490 rfl (by decide) rfl)
    rw [if_neg c7] at h
    by_cases c8 : (((M).1 a0 (Int32.toNatClampNeg x3)) &&& 31) = 8
    · rw [if_pos c8] at h
      refine m_tableIn (off := 458) (tgt := 491) dL_law_33 (by rw [c8]; decide) (by rw [c8]; decide) (by rw [c8]; decide) (by decide) ?_
      refine m_aload_n dL_law_491 rfl 1 rfl ?_
      refine m_aload_n dL_law_492 rfl 0 rfl ?_
      refine m_iload_n dL_law_493 rfl 3 rfl ?_
      refine m_iconst (v := 1) dL_law_494 (by decide) ?_
      refine m_iadd dL_law_495 ?_
      obtain ⟨q75, h⟩ := h
      refine m_iald dL_law_496 q75 ?_
      refine m_aload_n dL_law_497 rfl 0 rfl ?_
      refine m_iload_n dL_law_498 rfl 3 rfl ?_
      refine m_iconst (v := 2) dL_law_499 (by decide) ?_
      refine m_iadd dL_law_500 ?_
      obtain ⟨q76, h⟩ := h
      refine m_iald dL_law_501 q76 ?_
      refine m_aload_n dL_law_502 rfl 0 rfl ?_
      refine m_iload_n dL_law_503 rfl 3 rfl ?_
      refine m_iconst (v := 3) dL_law_504 (by decide) ?_
      refine m_iadd dL_law_505 ?_
      obtain ⟨q77, h⟩ := h
      refine m_iald dL_law_506 q77 ?_
      obtain ⟨q80, h⟩ := h
      refine m_invV (ci := 10) (As := [.int (((M).1 a0 (Int32.toNatClampNeg ((x3 + 1))))), .int (((M).1 a0 (Int32.toNatClampNeg ((x3 + 2))))), .int (((M).1 a0 (Int32.toNatClampNeg ((x3 + 3)))))]) (d' := 2047) (mc' := 0) (ms' := 0) (rest := []) i_10_ahead v_10_ahead t_10_ahead l_L_52 ⟨_, _, rfl⟩ dL_law_507 rfl rfl q80 (Nat.le_of_ble_eq_true rfl) (Nat.le_refl _) ⟨Nat.le_of_ble_eq_true rfl, Nat.le_of_ble_eq_true rfl⟩ (m_Cl h (fun v79 M78 h => ?_))
      show m_W 2048 600000 7302250 yL_law cL_law 4 (some .boolean) QL 510 [(0, .ref a0), (1, .ref a1), (2, .ref a2), (3, .int x3)] [.long v79] Th M78 153 931703
      refine m_aload_n dL_law_510 rfl 2 rfl ?_
      refine m_aload_n dL_law_511 rfl 0 rfl ?_
      refine m_iload_n dL_law_512 rfl 3 rfl ?_
      refine m_iconst (v := 1) dL_law_513 (by decide) ?_
      refine m_iadd dL_law_514 ?_
      refine m_iald dL_law_515 q75 ?_
      refine m_aload_n dL_law_516 rfl 0 rfl ?_
      refine m_iload_n dL_law_517 rfl 3 rfl ?_
      refine m_iconst (v := 2) dL_law_518 (by decide) ?_
      refine m_iadd dL_law_519 ?_
      refine m_iald dL_law_520 q76 ?_
      refine m_aload_n dL_law_521 rfl 0 rfl ?_
      refine m_iload_n dL_law_522 rfl 3 rfl ?_
      refine m_iconst (v := 3) dL_law_523 (by decide) ?_
      refine m_iadd dL_law_524 ?_
      refine m_iald dL_law_525 q77 ?_
      obtain ⟨q83, h⟩ := h
      refine m_invV (ci := 11) (As := [.int (((M78).1 a0 (Int32.toNatClampNeg ((x3 + 1))))), .int (((M78).1 a0 (Int32.toNatClampNeg ((x3 + 2))))), .int (((M78).1 a0 (Int32.toNatClampNeg ((x3 + 3)))))]) (d' := 2047) (mc' := 0) (ms' := 0) (rest := [.long v79]) i_11_ahead v_11_ahead t_11_ahead l_L_55 ⟨_, _, rfl⟩ dL_law_526 rfl rfl q83 (Nat.le_of_ble_eq_true rfl) (Nat.le_refl _) ⟨Nat.le_of_ble_eq_true rfl, Nat.le_of_ble_eq_true rfl⟩ (m_Cl h (fun v82 M81 h => ?_))
      show m_W 2048 600000 7302250 yL_law cL_law 4 (some .boolean) QL 529 [(0, .ref a0), (1, .ref a1), (2, .ref a2), (3, .int x3)] [.long v82, .long v79] Th M81 153 931703
      refine m_lcmp dL_law_529 ?_
      refine m_if_eq (tgt := 1188) dL_law_530 (by decide) (fun c1 => ?_) (fun c1 => ?_)
      · rw [if_pos c1] at h
        refine m_iinc (v := x3 + 8) (lv' := [(3, .int (x3 + 8)), (0, .ref a0), (1, .ref a1), (2, .ref a2)]) dL_law_1188 3 rfl rfl (by decide) rfl ?_
        refine m_goto (tgt := 18) dL_law_1191 (by decide) ?_
        exact m_sub [1, 2, 3, 0] rfl h
      · rw [if_neg c1] at h
        refine m_iconst (v := 0) dL_law_533 (by decide) ?_
        first | exact h.elim | exact m_wid 600000 7302250 (Nat.le_of_ble_eq_true rfl) (Nat.le_of_ble_eq_true rfl) (m_ireturn dL_law_534 rfl (by decide) rfl)
    rw [if_neg c8] at h
    by_cases c9 : (((M).1 a0 (Int32.toNatClampNeg x3)) &&& 31) = 9
    · rw [if_pos c9] at h
      refine m_tableIn (off := 502) (tgt := 535) dL_law_33 (by rw [c9]; decide) (by rw [c9]; decide) (by rw [c9]; decide) (by decide) ?_
      refine m_aload_n dL_law_535 rfl 1 rfl ?_
      refine m_aload_n dL_law_536 rfl 0 rfl ?_
      refine m_iload_n dL_law_537 rfl 3 rfl ?_
      refine m_iconst (v := 1) dL_law_538 (by decide) ?_
      refine m_iadd dL_law_539 ?_
      obtain ⟨q84, h⟩ := h
      refine m_iald dL_law_540 q84 ?_
      refine m_aload_n dL_law_541 rfl 0 rfl ?_
      refine m_iload_n dL_law_542 rfl 3 rfl ?_
      refine m_iconst (v := 2) dL_law_543 (by decide) ?_
      refine m_iadd dL_law_544 ?_
      obtain ⟨q85, h⟩ := h
      refine m_iald dL_law_545 q85 ?_
      refine m_aload_n dL_law_546 rfl 0 rfl ?_
      refine m_iload_n dL_law_547 rfl 3 rfl ?_
      refine m_iconst (v := 3) dL_law_548 (by decide) ?_
      refine m_iadd dL_law_549 ?_
      obtain ⟨q86, h⟩ := h
      refine m_iald dL_law_550 q86 ?_
      obtain ⟨q89, h⟩ := h
      refine m_invV (ci := 10) (As := [.int (((M).1 a0 (Int32.toNatClampNeg ((x3 + 1))))), .int (((M).1 a0 (Int32.toNatClampNeg ((x3 + 2))))), .int (((M).1 a0 (Int32.toNatClampNeg ((x3 + 3)))))]) (d' := 2047) (mc' := 0) (ms' := 0) (rest := []) i_10_share v_10_share t_10_share l_L_56 ⟨_, _, rfl⟩ dL_law_551 rfl rfl q89 (Nat.le_of_ble_eq_true rfl) (Nat.le_refl _) ⟨Nat.le_of_ble_eq_true rfl, Nat.le_of_ble_eq_true rfl⟩ (m_Cl h (fun v88 M87 h => ?_))
      show m_W 2048 600000 7302250 yL_law cL_law 4 (some .boolean) QL 554 [(0, .ref a0), (1, .ref a1), (2, .ref a2), (3, .int x3)] [.long v88] Th M87 153 931703
      refine m_aload_n dL_law_554 rfl 2 rfl ?_
      refine m_aload_n dL_law_555 rfl 0 rfl ?_
      refine m_iload_n dL_law_556 rfl 3 rfl ?_
      refine m_iconst (v := 1) dL_law_557 (by decide) ?_
      refine m_iadd dL_law_558 ?_
      refine m_iald dL_law_559 q84 ?_
      refine m_aload_n dL_law_560 rfl 0 rfl ?_
      refine m_iload_n dL_law_561 rfl 3 rfl ?_
      refine m_iconst (v := 2) dL_law_562 (by decide) ?_
      refine m_iadd dL_law_563 ?_
      refine m_iald dL_law_564 q85 ?_
      refine m_aload_n dL_law_565 rfl 0 rfl ?_
      refine m_iload_n dL_law_566 rfl 3 rfl ?_
      refine m_iconst (v := 3) dL_law_567 (by decide) ?_
      refine m_iadd dL_law_568 ?_
      refine m_iald dL_law_569 q86 ?_
      obtain ⟨q92, h⟩ := h
      refine m_invV (ci := 11) (As := [.int (((M87).1 a0 (Int32.toNatClampNeg ((x3 + 1))))), .int (((M87).1 a0 (Int32.toNatClampNeg ((x3 + 2))))), .int (((M87).1 a0 (Int32.toNatClampNeg ((x3 + 3)))))]) (d' := 2047) (mc' := 0) (ms' := 0) (rest := [.long v88]) i_11_share v_11_share t_11_share l_L_59 ⟨_, _, rfl⟩ dL_law_570 rfl rfl q92 (Nat.le_of_ble_eq_true rfl) (Nat.le_refl _) ⟨Nat.le_of_ble_eq_true rfl, Nat.le_of_ble_eq_true rfl⟩ (m_Cl h (fun v91 M90 h => ?_))
      show m_W 2048 600000 7302250 yL_law cL_law 4 (some .boolean) QL 573 [(0, .ref a0), (1, .ref a1), (2, .ref a2), (3, .int x3)] [.long v91, .long v88] Th M90 153 931703
      refine m_lcmp dL_law_573 ?_
      refine m_if_eq (tgt := 1188) dL_law_574 (by decide) (fun c1 => ?_) (fun c1 => ?_)
      · rw [if_pos c1] at h
        refine m_iinc (v := x3 + 8) (lv' := [(3, .int (x3 + 8)), (0, .ref a0), (1, .ref a1), (2, .ref a2)]) dL_law_1188 3 rfl rfl (by decide) rfl ?_
        refine m_goto (tgt := 18) dL_law_1191 (by decide) ?_
        exact m_sub [1, 2, 3, 0] rfl h
      · rw [if_neg c1] at h
        refine m_iconst (v := 0) dL_law_577 (by decide) ?_
        first | exact h.elim | exact m_wid 600000 7302250 (Nat.le_of_ble_eq_true rfl) (Nat.le_of_ble_eq_true rfl) (m_ireturn dL_law_578 rfl (by decide) rfl)
    rw [if_neg c9] at h
    by_cases c10 : (((M).1 a0 (Int32.toNatClampNeg x3)) &&& 31) = 10
    · rw [if_pos c10] at h
      refine m_tableIn (off := 546) (tgt := 579) dL_law_33 (by rw [c10]; decide) (by rw [c10]; decide) (by rw [c10]; decide) (by decide) ?_
      refine m_aload_n dL_law_579 rfl 1 rfl ?_
      refine m_aload_n dL_law_580 rfl 0 rfl ?_
      refine m_iload_n dL_law_581 rfl 3 rfl ?_
      refine m_iconst (v := 1) dL_law_582 (by decide) ?_
      refine m_iadd dL_law_583 ?_
      obtain ⟨q93, h⟩ := h
      refine m_iald dL_law_584 q93 ?_
      refine m_aload_n dL_law_585 rfl 0 rfl ?_
      refine m_iload_n dL_law_586 rfl 3 rfl ?_
      refine m_iconst (v := 2) dL_law_587 (by decide) ?_
      refine m_iadd dL_law_588 ?_
      obtain ⟨q94, h⟩ := h
      refine m_iald dL_law_589 q94 ?_
      refine m_aload_n dL_law_590 rfl 0 rfl ?_
      refine m_iload_n dL_law_591 rfl 3 rfl ?_
      refine m_iconst (v := 3) dL_law_592 (by decide) ?_
      refine m_iadd dL_law_593 ?_
      obtain ⟨q95, h⟩ := h
      refine m_iald dL_law_594 q95 ?_
      refine m_aload_n dL_law_595 rfl 0 rfl ?_
      refine m_iload_n dL_law_596 rfl 3 rfl ?_
      refine m_iconst (v := 4) dL_law_597 (by decide) ?_
      refine m_iadd dL_law_598 ?_
      obtain ⟨q96, h⟩ := h
      refine m_iald dL_law_599 q96 ?_
      obtain ⟨q99, h⟩ := h
      refine m_invV (ci := 10) (As := [.int (((M).1 a0 (Int32.toNatClampNeg ((x3 + 1))))), .int (((M).1 a0 (Int32.toNatClampNeg ((x3 + 2))))), .int (((M).1 a0 (Int32.toNatClampNeg ((x3 + 3))))), .int (((M).1 a0 (Int32.toNatClampNeg ((x3 + 4)))))]) (d' := 2047) (mc' := 0) (ms' := 0) (rest := []) i_10_after v_10_after t_10_after l_L_60 ⟨_, _, rfl⟩ dL_law_600 rfl rfl q99 (Nat.le_of_ble_eq_true rfl) (Nat.le_refl _) ⟨Nat.le_of_ble_eq_true rfl, Nat.le_of_ble_eq_true rfl⟩ (m_Cl h (fun v98 M97 h => ?_))
      show m_W 2048 600000 7302250 yL_law cL_law 4 (some .boolean) QL 603 [(0, .ref a0), (1, .ref a1), (2, .ref a2), (3, .int x3)] [.long v98] Th M97 153 931703
      refine m_aload_n dL_law_603 rfl 2 rfl ?_
      refine m_aload_n dL_law_604 rfl 0 rfl ?_
      refine m_iload_n dL_law_605 rfl 3 rfl ?_
      refine m_iconst (v := 1) dL_law_606 (by decide) ?_
      refine m_iadd dL_law_607 ?_
      refine m_iald dL_law_608 q93 ?_
      refine m_aload_n dL_law_609 rfl 0 rfl ?_
      refine m_iload_n dL_law_610 rfl 3 rfl ?_
      refine m_iconst (v := 2) dL_law_611 (by decide) ?_
      refine m_iadd dL_law_612 ?_
      refine m_iald dL_law_613 q94 ?_
      refine m_aload_n dL_law_614 rfl 0 rfl ?_
      refine m_iload_n dL_law_615 rfl 3 rfl ?_
      refine m_iconst (v := 3) dL_law_616 (by decide) ?_
      refine m_iadd dL_law_617 ?_
      refine m_iald dL_law_618 q95 ?_
      refine m_aload_n dL_law_619 rfl 0 rfl ?_
      refine m_iload_n dL_law_620 rfl 3 rfl ?_
      refine m_iconst (v := 4) dL_law_621 (by decide) ?_
      refine m_iadd dL_law_622 ?_
      refine m_iald dL_law_623 q96 ?_
      obtain ⟨q102, h⟩ := h
      refine m_invV (ci := 11) (As := [.int (((M97).1 a0 (Int32.toNatClampNeg ((x3 + 1))))), .int (((M97).1 a0 (Int32.toNatClampNeg ((x3 + 2))))), .int (((M97).1 a0 (Int32.toNatClampNeg ((x3 + 3))))), .int (((M97).1 a0 (Int32.toNatClampNeg ((x3 + 4)))))]) (d' := 2047) (mc' := 0) (ms' := 0) (rest := [.long v98]) i_11_after v_11_after t_11_after l_L_64 ⟨_, _, rfl⟩ dL_law_624 rfl rfl q102 (Nat.le_of_ble_eq_true rfl) (Nat.le_refl _) ⟨Nat.le_of_ble_eq_true rfl, Nat.le_of_ble_eq_true rfl⟩ (m_Cl h (fun v101 M100 h => ?_))
      show m_W 2048 600000 7302250 yL_law cL_law 4 (some .boolean) QL 627 [(0, .ref a0), (1, .ref a1), (2, .ref a2), (3, .int x3)] [.long v101, .long v98] Th M100 153 931703
      refine m_lcmp dL_law_627 ?_
      refine m_if_eq (tgt := 1188) dL_law_628 (by decide) (fun c1 => ?_) (fun c1 => ?_)
      · rw [if_pos c1] at h
        refine m_iinc (v := x3 + 8) (lv' := [(3, .int (x3 + 8)), (0, .ref a0), (1, .ref a1), (2, .ref a2)]) dL_law_1188 3 rfl rfl (by decide) rfl ?_
        refine m_goto (tgt := 18) dL_law_1191 (by decide) ?_
        exact m_sub [1, 2, 3, 0] rfl h
      · rw [if_neg c1] at h
        refine m_iconst (v := 0) dL_law_631 (by decide) ?_
        first | exact h.elim | exact m_wid 600000 7302250 (Nat.le_of_ble_eq_true rfl) (Nat.le_of_ble_eq_true rfl) (m_ireturn dL_law_632 rfl (by decide) rfl)
    rw [if_neg c10] at h
    by_cases c11 : (((M).1 a0 (Int32.toNatClampNeg x3)) &&& 31) = 11
    · rw [if_pos c11] at h
      refine m_tableIn (off := 600) (tgt := 633) dL_law_33 (by rw [c11]; decide) (by rw [c11]; decide) (by rw [c11]; decide) (by decide) ?_
      refine m_aload_n dL_law_633 rfl 1 rfl ?_
      refine m_aload_n dL_law_634 rfl 0 rfl ?_
      refine m_iload_n dL_law_635 rfl 3 rfl ?_
      refine m_iconst (v := 1) dL_law_636 (by decide) ?_
      refine m_iadd dL_law_637 ?_
      obtain ⟨q103, h⟩ := h
      refine m_iald dL_law_638 q103 ?_
      refine m_aload_n dL_law_639 rfl 0 rfl ?_
      refine m_iload_n dL_law_640 rfl 3 rfl ?_
      refine m_iconst (v := 2) dL_law_641 (by decide) ?_
      refine m_iadd dL_law_642 ?_
      obtain ⟨q104, h⟩ := h
      refine m_iald dL_law_643 q104 ?_
      obtain ⟨q107, h⟩ := h
      refine m_invV (ci := 10) (As := [.int (((M).1 a0 (Int32.toNatClampNeg ((x3 + 1))))), .int (((M).1 a0 (Int32.toNatClampNeg ((x3 + 2)))))]) (d' := 2047) (mc' := 0) (ms' := 0) (rest := []) i_10_edge v_10_edge t_10_edge l_L_65 ⟨_, _, rfl⟩ dL_law_644 rfl rfl q107 (Nat.le_of_ble_eq_true rfl) (Nat.le_refl _) ⟨Nat.le_of_ble_eq_true rfl, Nat.le_of_ble_eq_true rfl⟩ (m_Ci h (fun v106 M105 h => ?_))
      show m_W 2048 600000 7302250 yL_law cL_law 4 (some .boolean) QL 647 [(0, .ref a0), (1, .ref a1), (2, .ref a2), (3, .int x3)] [.int v106] Th M105 153 931703
      refine m_aload_n dL_law_647 rfl 2 rfl ?_
      refine m_aload_n dL_law_648 rfl 0 rfl ?_
      refine m_iload_n dL_law_649 rfl 3 rfl ?_
      refine m_iconst (v := 1) dL_law_650 (by decide) ?_
      refine m_iadd dL_law_651 ?_
      refine m_iald dL_law_652 q103 ?_
      refine m_aload_n dL_law_653 rfl 0 rfl ?_
      refine m_iload_n dL_law_654 rfl 3 rfl ?_
      refine m_iconst (v := 2) dL_law_655 (by decide) ?_
      refine m_iadd dL_law_656 ?_
      refine m_iald dL_law_657 q104 ?_
      obtain ⟨q110, h⟩ := h
      refine m_invV (ci := 11) (As := [.int (((M105).1 a0 (Int32.toNatClampNeg ((x3 + 1))))), .int (((M105).1 a0 (Int32.toNatClampNeg ((x3 + 2)))))]) (d' := 2047) (mc' := 0) (ms' := 0) (rest := [.int v106]) i_11_edge v_11_edge t_11_edge l_L_68 ⟨_, _, rfl⟩ dL_law_658 rfl rfl q110 (Nat.le_of_ble_eq_true rfl) (Nat.le_refl _) ⟨Nat.le_of_ble_eq_true rfl, Nat.le_of_ble_eq_true rfl⟩ (m_Ci h (fun v109 M108 h => ?_))
      show m_W 2048 600000 7302250 yL_law cL_law 4 (some .boolean) QL 661 [(0, .ref a0), (1, .ref a1), (2, .ref a2), (3, .int x3)] [.int v109, .int v106] Th M108 153 931703
      refine m_icmp_eq (tgt := 1188) dL_law_661 (by decide) (fun c1 => ?_) (fun c1 => ?_)
      · rw [if_pos c1] at h
        refine m_iinc (v := x3 + 8) (lv' := [(3, .int (x3 + 8)), (0, .ref a0), (1, .ref a1), (2, .ref a2)]) dL_law_1188 3 rfl rfl (by decide) rfl ?_
        refine m_goto (tgt := 18) dL_law_1191 (by decide) ?_
        exact m_sub [1, 2, 3, 0] rfl h
      · rw [if_neg c1] at h
        refine m_iconst (v := 0) dL_law_664 (by decide) ?_
        first | exact h.elim | exact m_wid 600000 7302250 (Nat.le_of_ble_eq_true rfl) (Nat.le_of_ble_eq_true rfl) (m_ireturn dL_law_665 rfl (by decide) rfl)
    rw [if_neg c11] at h
    by_cases c12 : (((M).1 a0 (Int32.toNatClampNeg x3)) &&& 31) = 12
    · rw [if_pos c12] at h
      refine m_tableIn (off := 633) (tgt := 666) dL_law_33 (by rw [c12]; decide) (by rw [c12]; decide) (by rw [c12]; decide) (by decide) ?_
      refine m_aload_n dL_law_666 rfl 1 rfl ?_
      refine m_aload_n dL_law_667 rfl 0 rfl ?_
      refine m_iload_n dL_law_668 rfl 3 rfl ?_
      refine m_iconst (v := 1) dL_law_669 (by decide) ?_
      refine m_iadd dL_law_670 ?_
      obtain ⟨q111, h⟩ := h
      refine m_iald dL_law_671 q111 ?_
      refine m_aload_n dL_law_672 rfl 0 rfl ?_
      refine m_iload_n dL_law_673 rfl 3 rfl ?_
      refine m_iconst (v := 2) dL_law_674 (by decide) ?_
      refine m_iadd dL_law_675 ?_
      obtain ⟨q112, h⟩ := h
      refine m_iald dL_law_676 q112 ?_
      refine m_aload_n dL_law_677 rfl 0 rfl ?_
      refine m_iload_n dL_law_678 rfl 3 rfl ?_
      refine m_iconst (v := 3) dL_law_679 (by decide) ?_
      refine m_iadd dL_law_680 ?_
      obtain ⟨q113, h⟩ := h
      refine m_iald dL_law_681 q113 ?_
      refine m_aload_n dL_law_682 rfl 0 rfl ?_
      refine m_iload_n dL_law_683 rfl 3 rfl ?_
      refine m_iconst (v := 4) dL_law_684 (by decide) ?_
      refine m_iadd dL_law_685 ?_
      obtain ⟨q114, h⟩ := h
      refine m_iald dL_law_686 q114 ?_
      refine m_aload_n dL_law_687 rfl 0 rfl ?_
      refine m_iload_n dL_law_688 rfl 3 rfl ?_
      refine m_iconst (v := 5) dL_law_689 (by decide) ?_
      refine m_iadd dL_law_690 ?_
      obtain ⟨q115, h⟩ := h
      refine m_iald dL_law_691 q115 ?_
      refine m_aload_n dL_law_692 rfl 0 rfl ?_
      refine m_iload_n dL_law_693 rfl 3 rfl ?_
      refine m_bipush (v := 6) dL_law_694 (by decide) ?_
      refine m_iadd dL_law_696 ?_
      obtain ⟨q116, h⟩ := h
      refine m_iald dL_law_697 q116 ?_
      refine m_aload_n dL_law_698 rfl 0 rfl ?_
      refine m_iload_n dL_law_699 rfl 3 rfl ?_
      refine m_bipush (v := 7) dL_law_700 (by decide) ?_
      refine m_iadd dL_law_702 ?_
      obtain ⟨q117, h⟩ := h
      refine m_iald dL_law_703 q117 ?_
      obtain ⟨q120, h⟩ := h
      refine m_invV (ci := 10) (As := [.int (((M).1 a0 (Int32.toNatClampNeg ((x3 + 1))))), .int (((M).1 a0 (Int32.toNatClampNeg ((x3 + 2))))), .int (((M).1 a0 (Int32.toNatClampNeg ((x3 + 3))))), .int (((M).1 a0 (Int32.toNatClampNeg ((x3 + 4))))), .int (((M).1 a0 (Int32.toNatClampNeg ((x3 + 5))))), .int (((M).1 a0 (Int32.toNatClampNeg ((x3 + 6))))), .int (((M).1 a0 (Int32.toNatClampNeg ((x3 + 7)))))]) (d' := 2047) (mc' := 0) (ms' := 0) (rest := []) i_10_best v_10_best t_10_best l_L_69 ⟨_, _, rfl⟩ dL_law_704 rfl rfl q120 (Nat.le_of_ble_eq_true rfl) (Nat.le_refl _) ⟨Nat.le_of_ble_eq_true rfl, Nat.le_of_ble_eq_true rfl⟩ (m_Cl h (fun v119 M118 h => ?_))
      show m_W 2048 600000 7302250 yL_law cL_law 4 (some .boolean) QL 707 [(0, .ref a0), (1, .ref a1), (2, .ref a2), (3, .int x3)] [.long v119] Th M118 153 931703
      refine m_aload_n dL_law_707 rfl 2 rfl ?_
      refine m_aload_n dL_law_708 rfl 0 rfl ?_
      refine m_iload_n dL_law_709 rfl 3 rfl ?_
      refine m_iconst (v := 1) dL_law_710 (by decide) ?_
      refine m_iadd dL_law_711 ?_
      refine m_iald dL_law_712 q111 ?_
      refine m_aload_n dL_law_713 rfl 0 rfl ?_
      refine m_iload_n dL_law_714 rfl 3 rfl ?_
      refine m_iconst (v := 2) dL_law_715 (by decide) ?_
      refine m_iadd dL_law_716 ?_
      refine m_iald dL_law_717 q112 ?_
      refine m_aload_n dL_law_718 rfl 0 rfl ?_
      refine m_iload_n dL_law_719 rfl 3 rfl ?_
      refine m_iconst (v := 3) dL_law_720 (by decide) ?_
      refine m_iadd dL_law_721 ?_
      refine m_iald dL_law_722 q113 ?_
      refine m_aload_n dL_law_723 rfl 0 rfl ?_
      refine m_iload_n dL_law_724 rfl 3 rfl ?_
      refine m_iconst (v := 4) dL_law_725 (by decide) ?_
      refine m_iadd dL_law_726 ?_
      refine m_iald dL_law_727 q114 ?_
      refine m_aload_n dL_law_728 rfl 0 rfl ?_
      refine m_iload_n dL_law_729 rfl 3 rfl ?_
      refine m_iconst (v := 5) dL_law_730 (by decide) ?_
      refine m_iadd dL_law_731 ?_
      refine m_iald dL_law_732 q115 ?_
      refine m_aload_n dL_law_733 rfl 0 rfl ?_
      refine m_iload_n dL_law_734 rfl 3 rfl ?_
      refine m_bipush (v := 6) dL_law_735 (by decide) ?_
      refine m_iadd dL_law_737 ?_
      refine m_iald dL_law_738 q116 ?_
      refine m_aload_n dL_law_739 rfl 0 rfl ?_
      refine m_iload_n dL_law_740 rfl 3 rfl ?_
      refine m_bipush (v := 7) dL_law_741 (by decide) ?_
      refine m_iadd dL_law_743 ?_
      refine m_iald dL_law_744 q117 ?_
      obtain ⟨q123, h⟩ := h
      refine m_invV (ci := 11) (As := [.int (((M118).1 a0 (Int32.toNatClampNeg ((x3 + 1))))), .int (((M118).1 a0 (Int32.toNatClampNeg ((x3 + 2))))), .int (((M118).1 a0 (Int32.toNatClampNeg ((x3 + 3))))), .int (((M118).1 a0 (Int32.toNatClampNeg ((x3 + 4))))), .int (((M118).1 a0 (Int32.toNatClampNeg ((x3 + 5))))), .int (((M118).1 a0 (Int32.toNatClampNeg ((x3 + 6))))), .int (((M118).1 a0 (Int32.toNatClampNeg ((x3 + 7)))))]) (d' := 2047) (mc' := 0) (ms' := 0) (rest := [.long v119]) i_11_best v_11_best t_11_best l_L_73 ⟨_, _, rfl⟩ dL_law_745 rfl rfl q123 (Nat.le_of_ble_eq_true rfl) (Nat.le_refl _) ⟨Nat.le_of_ble_eq_true rfl, Nat.le_of_ble_eq_true rfl⟩ (m_Cl h (fun v122 M121 h => ?_))
      show m_W 2048 600000 7302250 yL_law cL_law 4 (some .boolean) QL 748 [(0, .ref a0), (1, .ref a1), (2, .ref a2), (3, .int x3)] [.long v122, .long v119] Th M121 153 931703
      refine m_lcmp dL_law_748 ?_
      refine m_if_eq (tgt := 1188) dL_law_749 (by decide) (fun c1 => ?_) (fun c1 => ?_)
      · rw [if_pos c1] at h
        refine m_iinc (v := x3 + 8) (lv' := [(3, .int (x3 + 8)), (0, .ref a0), (1, .ref a1), (2, .ref a2)]) dL_law_1188 3 rfl rfl (by decide) rfl ?_
        refine m_goto (tgt := 18) dL_law_1191 (by decide) ?_
        exact m_sub [1, 2, 3, 0] rfl h
      · rw [if_neg c1] at h
        refine m_iconst (v := 0) dL_law_752 (by decide) ?_
        first | exact h.elim | exact m_wid 600000 7302250 (Nat.le_of_ble_eq_true rfl) (Nat.le_of_ble_eq_true rfl) (m_ireturn dL_law_753 rfl (by decide) rfl)
    rw [if_neg c12] at h
    by_cases c13 : (((M).1 a0 (Int32.toNatClampNeg x3)) &&& 31) = 13
    · rw [if_pos c13] at h
      refine m_tableIn (off := 721) (tgt := 754) dL_law_33 (by rw [c13]; decide) (by rw [c13]; decide) (by rw [c13]; decide) (by decide) ?_
      refine m_aload_n dL_law_754 rfl 1 rfl ?_
      refine m_aload_n dL_law_755 rfl 0 rfl ?_
      refine m_iload_n dL_law_756 rfl 3 rfl ?_
      refine m_iconst (v := 1) dL_law_757 (by decide) ?_
      refine m_iadd dL_law_758 ?_
      obtain ⟨q124, h⟩ := h
      refine m_iald dL_law_759 q124 ?_
      refine m_aload_n dL_law_760 rfl 0 rfl ?_
      refine m_iload_n dL_law_761 rfl 3 rfl ?_
      refine m_iconst (v := 2) dL_law_762 (by decide) ?_
      refine m_iadd dL_law_763 ?_
      obtain ⟨q125, h⟩ := h
      refine m_iald dL_law_764 q125 ?_
      refine m_aload_n dL_law_765 rfl 0 rfl ?_
      refine m_iload_n dL_law_766 rfl 3 rfl ?_
      refine m_iconst (v := 3) dL_law_767 (by decide) ?_
      refine m_iadd dL_law_768 ?_
      obtain ⟨q126, h⟩ := h
      refine m_iald dL_law_769 q126 ?_
      obtain ⟨q129, h⟩ := h
      refine m_invV (ci := 10) (As := [.int (((M).1 a0 (Int32.toNatClampNeg ((x3 + 1))))), .int (((M).1 a0 (Int32.toNatClampNeg ((x3 + 2))))), .int (((M).1 a0 (Int32.toNatClampNeg ((x3 + 3)))))]) (d' := 2047) (mc' := 0) (ms' := 0) (rest := []) i_10_without v_10_without t_10_without l_L_74 ⟨_, _, rfl⟩ dL_law_770 rfl rfl q129 (Nat.le_of_ble_eq_true rfl) (Nat.le_refl _) ⟨Nat.le_of_ble_eq_true rfl, Nat.le_of_ble_eq_true rfl⟩ (m_Cl h (fun v128 M127 h => ?_))
      show m_W 2048 600000 7302250 yL_law cL_law 4 (some .boolean) QL 773 [(0, .ref a0), (1, .ref a1), (2, .ref a2), (3, .int x3)] [.long v128] Th M127 153 931703
      refine m_aload_n dL_law_773 rfl 2 rfl ?_
      refine m_aload_n dL_law_774 rfl 0 rfl ?_
      refine m_iload_n dL_law_775 rfl 3 rfl ?_
      refine m_iconst (v := 1) dL_law_776 (by decide) ?_
      refine m_iadd dL_law_777 ?_
      refine m_iald dL_law_778 q124 ?_
      refine m_aload_n dL_law_779 rfl 0 rfl ?_
      refine m_iload_n dL_law_780 rfl 3 rfl ?_
      refine m_iconst (v := 2) dL_law_781 (by decide) ?_
      refine m_iadd dL_law_782 ?_
      refine m_iald dL_law_783 q125 ?_
      refine m_aload_n dL_law_784 rfl 0 rfl ?_
      refine m_iload_n dL_law_785 rfl 3 rfl ?_
      refine m_iconst (v := 3) dL_law_786 (by decide) ?_
      refine m_iadd dL_law_787 ?_
      refine m_iald dL_law_788 q126 ?_
      obtain ⟨q132, h⟩ := h
      refine m_invV (ci := 11) (As := [.int (((M127).1 a0 (Int32.toNatClampNeg ((x3 + 1))))), .int (((M127).1 a0 (Int32.toNatClampNeg ((x3 + 2))))), .int (((M127).1 a0 (Int32.toNatClampNeg ((x3 + 3)))))]) (d' := 2047) (mc' := 0) (ms' := 0) (rest := [.long v128]) i_11_without v_11_without t_11_without l_L_77 ⟨_, _, rfl⟩ dL_law_789 rfl rfl q132 (Nat.le_of_ble_eq_true rfl) (Nat.le_refl _) ⟨Nat.le_of_ble_eq_true rfl, Nat.le_of_ble_eq_true rfl⟩ (m_Cl h (fun v131 M130 h => ?_))
      show m_W 2048 600000 7302250 yL_law cL_law 4 (some .boolean) QL 792 [(0, .ref a0), (1, .ref a1), (2, .ref a2), (3, .int x3)] [.long v131, .long v128] Th M130 153 931703
      refine m_lcmp dL_law_792 ?_
      refine m_if_eq (tgt := 1188) dL_law_793 (by decide) (fun c1 => ?_) (fun c1 => ?_)
      · rw [if_pos c1] at h
        refine m_iinc (v := x3 + 8) (lv' := [(3, .int (x3 + 8)), (0, .ref a0), (1, .ref a1), (2, .ref a2)]) dL_law_1188 3 rfl rfl (by decide) rfl ?_
        refine m_goto (tgt := 18) dL_law_1191 (by decide) ?_
        exact m_sub [1, 2, 3, 0] rfl h
      · rw [if_neg c1] at h
        refine m_iconst (v := 0) dL_law_796 (by decide) ?_
        first | exact h.elim | exact m_wid 600000 7302250 (Nat.le_of_ble_eq_true rfl) (Nat.le_of_ble_eq_true rfl) (m_ireturn dL_law_797 rfl (by decide) rfl)
    rw [if_neg c13] at h
    by_cases c14 : (((M).1 a0 (Int32.toNatClampNeg x3)) &&& 31) = 14
    · rw [if_pos c14] at h
      refine m_tableIn (off := 765) (tgt := 798) dL_law_33 (by rw [c14]; decide) (by rw [c14]; decide) (by rw [c14]; decide) (by decide) ?_
      refine m_aload_n dL_law_798 rfl 1 rfl ?_
      refine m_aload_n dL_law_799 rfl 0 rfl ?_
      refine m_iload_n dL_law_800 rfl 3 rfl ?_
      refine m_iconst (v := 1) dL_law_801 (by decide) ?_
      refine m_iadd dL_law_802 ?_
      obtain ⟨q133, h⟩ := h
      refine m_iald dL_law_803 q133 ?_
      refine m_aload_n dL_law_804 rfl 0 rfl ?_
      refine m_iload_n dL_law_805 rfl 3 rfl ?_
      refine m_iconst (v := 2) dL_law_806 (by decide) ?_
      refine m_iadd dL_law_807 ?_
      obtain ⟨q134, h⟩ := h
      refine m_iald dL_law_808 q134 ?_
      refine m_aload_n dL_law_809 rfl 0 rfl ?_
      refine m_iload_n dL_law_810 rfl 3 rfl ?_
      refine m_iconst (v := 3) dL_law_811 (by decide) ?_
      refine m_iadd dL_law_812 ?_
      obtain ⟨q135, h⟩ := h
      refine m_iald dL_law_813 q135 ?_
      refine m_aload_n dL_law_814 rfl 0 rfl ?_
      refine m_iload_n dL_law_815 rfl 3 rfl ?_
      refine m_iconst (v := 4) dL_law_816 (by decide) ?_
      refine m_iadd dL_law_817 ?_
      obtain ⟨q136, h⟩ := h
      refine m_iald dL_law_818 q136 ?_
      refine m_aload_n dL_law_819 rfl 0 rfl ?_
      refine m_iload_n dL_law_820 rfl 3 rfl ?_
      refine m_iconst (v := 5) dL_law_821 (by decide) ?_
      refine m_iadd dL_law_822 ?_
      obtain ⟨q137, h⟩ := h
      refine m_iald dL_law_823 q137 ?_
      obtain ⟨q140, h⟩ := h
      refine m_invV (ci := 10) (As := [.int (((M).1 a0 (Int32.toNatClampNeg ((x3 + 1))))), .int (((M).1 a0 (Int32.toNatClampNeg ((x3 + 2))))), .int (((M).1 a0 (Int32.toNatClampNeg ((x3 + 3))))), .int (((M).1 a0 (Int32.toNatClampNeg ((x3 + 4))))), .int (((M).1 a0 (Int32.toNatClampNeg ((x3 + 5)))))]) (d' := 2047) (mc' := 0) (ms' := 0) (rest := []) i_10_waits v_10_waits t_10_waits l_L_78 ⟨_, _, rfl⟩ dL_law_824 rfl rfl q140 (Nat.le_of_ble_eq_true rfl) (Nat.le_refl _) ⟨Nat.le_of_ble_eq_true rfl, Nat.le_of_ble_eq_true rfl⟩ (m_Ci h (fun v139 M138 h => ?_))
      show m_W 2048 600000 7302250 yL_law cL_law 4 (some .boolean) QL 827 [(0, .ref a0), (1, .ref a1), (2, .ref a2), (3, .int x3)] [.int v139] Th M138 153 931703
      refine m_aload_n dL_law_827 rfl 2 rfl ?_
      refine m_aload_n dL_law_828 rfl 0 rfl ?_
      refine m_iload_n dL_law_829 rfl 3 rfl ?_
      refine m_iconst (v := 1) dL_law_830 (by decide) ?_
      refine m_iadd dL_law_831 ?_
      refine m_iald dL_law_832 q133 ?_
      refine m_aload_n dL_law_833 rfl 0 rfl ?_
      refine m_iload_n dL_law_834 rfl 3 rfl ?_
      refine m_iconst (v := 2) dL_law_835 (by decide) ?_
      refine m_iadd dL_law_836 ?_
      refine m_iald dL_law_837 q134 ?_
      refine m_aload_n dL_law_838 rfl 0 rfl ?_
      refine m_iload_n dL_law_839 rfl 3 rfl ?_
      refine m_iconst (v := 3) dL_law_840 (by decide) ?_
      refine m_iadd dL_law_841 ?_
      refine m_iald dL_law_842 q135 ?_
      refine m_aload_n dL_law_843 rfl 0 rfl ?_
      refine m_iload_n dL_law_844 rfl 3 rfl ?_
      refine m_iconst (v := 4) dL_law_845 (by decide) ?_
      refine m_iadd dL_law_846 ?_
      refine m_iald dL_law_847 q136 ?_
      refine m_aload_n dL_law_848 rfl 0 rfl ?_
      refine m_iload_n dL_law_849 rfl 3 rfl ?_
      refine m_iconst (v := 5) dL_law_850 (by decide) ?_
      refine m_iadd dL_law_851 ?_
      refine m_iald dL_law_852 q137 ?_
      obtain ⟨q143, h⟩ := h
      refine m_invV (ci := 11) (As := [.int (((M138).1 a0 (Int32.toNatClampNeg ((x3 + 1))))), .int (((M138).1 a0 (Int32.toNatClampNeg ((x3 + 2))))), .int (((M138).1 a0 (Int32.toNatClampNeg ((x3 + 3))))), .int (((M138).1 a0 (Int32.toNatClampNeg ((x3 + 4))))), .int (((M138).1 a0 (Int32.toNatClampNeg ((x3 + 5)))))]) (d' := 2047) (mc' := 0) (ms' := 0) (rest := [.int v139]) i_11_waits v_11_waits t_11_waits l_L_81 ⟨_, _, rfl⟩ dL_law_853 rfl rfl q143 (Nat.le_of_ble_eq_true rfl) (Nat.le_refl _) ⟨Nat.le_of_ble_eq_true rfl, Nat.le_of_ble_eq_true rfl⟩ (m_Ci h (fun v142 M141 h => ?_))
      show m_W 2048 600000 7302250 yL_law cL_law 4 (some .boolean) QL 856 [(0, .ref a0), (1, .ref a1), (2, .ref a2), (3, .int x3)] [.int v142, .int v139] Th M141 153 931703
      refine m_icmp_eq (tgt := 1188) dL_law_856 (by decide) (fun c1 => ?_) (fun c1 => ?_)
      · rw [if_pos c1] at h
        refine m_iinc (v := x3 + 8) (lv' := [(3, .int (x3 + 8)), (0, .ref a0), (1, .ref a1), (2, .ref a2)]) dL_law_1188 3 rfl rfl (by decide) rfl ?_
        refine m_goto (tgt := 18) dL_law_1191 (by decide) ?_
        exact m_sub [1, 2, 3, 0] rfl h
      · rw [if_neg c1] at h
        refine m_iconst (v := 0) dL_law_859 (by decide) ?_
        first | exact h.elim | exact m_wid 600000 7302250 (Nat.le_of_ble_eq_true rfl) (Nat.le_of_ble_eq_true rfl) (m_ireturn dL_law_860 rfl (by decide) rfl)
    rw [if_neg c14] at h
    by_cases c15 : (((M).1 a0 (Int32.toNatClampNeg x3)) &&& 31) = 15
    · rw [if_pos c15] at h
      refine m_tableIn (off := 828) (tgt := 861) dL_law_33 (by rw [c15]; decide) (by rw [c15]; decide) (by rw [c15]; decide) (by decide) ?_
      refine m_aload_n dL_law_861 rfl 1 rfl ?_
      obtain ⟨q146, h⟩ := h
      refine m_invV (ci := 10) (As := []) (d' := 2047) (mc' := 0) (ms' := 0) (rest := []) i_10_order v_10_order t_10_order l_L_82 ⟨_, _, rfl⟩ dL_law_862 rfl rfl q146 (Nat.le_of_ble_eq_true rfl) (Nat.le_refl _) ⟨Nat.le_of_ble_eq_true rfl, Nat.le_of_ble_eq_true rfl⟩ (m_Ci h (fun v145 M144 h => ?_))
      show m_W 2048 600000 7302250 yL_law cL_law 4 (some .boolean) QL 865 [(0, .ref a0), (1, .ref a1), (2, .ref a2), (3, .int x3)] [.int v145] Th M144 153 931703
      refine m_aload_n dL_law_865 rfl 2 rfl ?_
      obtain ⟨q149, h⟩ := h
      refine m_invV (ci := 11) (As := []) (d' := 2047) (mc' := 0) (ms' := 0) (rest := [.int v145]) i_11_order v_11_order t_11_order l_L_86 ⟨_, _, rfl⟩ dL_law_866 rfl rfl q149 (Nat.le_of_ble_eq_true rfl) (Nat.le_refl _) ⟨Nat.le_of_ble_eq_true rfl, Nat.le_of_ble_eq_true rfl⟩ (m_Ci h (fun v148 M147 h => ?_))
      show m_W 2048 600000 7302250 yL_law cL_law 4 (some .boolean) QL 869 [(0, .ref a0), (1, .ref a1), (2, .ref a2), (3, .int x3)] [.int v148, .int v145] Th M147 153 931703
      refine m_icmp_eq (tgt := 1188) dL_law_869 (by decide) (fun c1 => ?_) (fun c1 => ?_)
      · rw [if_pos c1] at h
        refine m_iinc (v := x3 + 8) (lv' := [(3, .int (x3 + 8)), (0, .ref a0), (1, .ref a1), (2, .ref a2)]) dL_law_1188 3 rfl rfl (by decide) rfl ?_
        refine m_goto (tgt := 18) dL_law_1191 (by decide) ?_
        exact m_sub [1, 2, 3, 0] rfl h
      · rw [if_neg c1] at h
        refine m_iconst (v := 0) dL_law_872 (by decide) ?_
        first | exact h.elim | exact m_wid 600000 7302250 (Nat.le_of_ble_eq_true rfl) (Nat.le_of_ble_eq_true rfl) (m_ireturn dL_law_873 rfl (by decide) rfl)
    rw [if_neg c15] at h
    by_cases c16 : (((M).1 a0 (Int32.toNatClampNeg x3)) &&& 31) = 16
    · rw [if_pos c16] at h
      refine m_tableIn (off := 841) (tgt := 874) dL_law_33 (by rw [c16]; decide) (by rw [c16]; decide) (by rw [c16]; decide) (by decide) ?_
      refine m_aload_n dL_law_874 rfl 1 rfl ?_
      refine m_aload_n dL_law_875 rfl 0 rfl ?_
      refine m_iload_n dL_law_876 rfl 3 rfl ?_
      refine m_iconst (v := 1) dL_law_877 (by decide) ?_
      refine m_iadd dL_law_878 ?_
      obtain ⟨q150, h⟩ := h
      refine m_iald dL_law_879 q150 ?_
      refine m_aload_n dL_law_880 rfl 0 rfl ?_
      refine m_iload_n dL_law_881 rfl 3 rfl ?_
      refine m_iconst (v := 2) dL_law_882 (by decide) ?_
      refine m_iadd dL_law_883 ?_
      obtain ⟨q151, h⟩ := h
      refine m_iald dL_law_884 q151 ?_
      obtain ⟨q154, h⟩ := h
      refine m_invV (ci := 10) (As := [.int (((M).1 a0 (Int32.toNatClampNeg ((x3 + 1))))), .int (((M).1 a0 (Int32.toNatClampNeg ((x3 + 2)))))]) (d' := 2047) (mc' := 0) (ms' := 0) (rest := []) i_10_given v_10_given t_10_given l_L_87 ⟨_, _, rfl⟩ dL_law_885 rfl rfl q154 (Nat.le_of_ble_eq_true rfl) (Nat.le_refl _) ⟨Nat.le_of_ble_eq_true rfl, Nat.le_of_ble_eq_true rfl⟩ (m_Ci h (fun v153 M152 h => ?_))
      show m_W 2048 600000 7302250 yL_law cL_law 4 (some .boolean) QL 888 [(0, .ref a0), (1, .ref a1), (2, .ref a2), (3, .int x3)] [.int v153] Th M152 153 931703
      refine m_aload_n dL_law_888 rfl 2 rfl ?_
      refine m_aload_n dL_law_889 rfl 0 rfl ?_
      refine m_iload_n dL_law_890 rfl 3 rfl ?_
      refine m_iconst (v := 1) dL_law_891 (by decide) ?_
      refine m_iadd dL_law_892 ?_
      refine m_iald dL_law_893 q150 ?_
      refine m_aload_n dL_law_894 rfl 0 rfl ?_
      refine m_iload_n dL_law_895 rfl 3 rfl ?_
      refine m_iconst (v := 2) dL_law_896 (by decide) ?_
      refine m_iadd dL_law_897 ?_
      refine m_iald dL_law_898 q151 ?_
      obtain ⟨q157, h⟩ := h
      refine m_invV (ci := 11) (As := [.int (((M152).1 a0 (Int32.toNatClampNeg ((x3 + 1))))), .int (((M152).1 a0 (Int32.toNatClampNeg ((x3 + 2)))))]) (d' := 2047) (mc' := 0) (ms' := 0) (rest := [.int v153]) i_11_given v_11_given t_11_given l_L_90 ⟨_, _, rfl⟩ dL_law_899 rfl rfl q157 (Nat.le_of_ble_eq_true rfl) (Nat.le_refl _) ⟨Nat.le_of_ble_eq_true rfl, Nat.le_of_ble_eq_true rfl⟩ (m_Ci h (fun v156 M155 h => ?_))
      show m_W 2048 600000 7302250 yL_law cL_law 4 (some .boolean) QL 902 [(0, .ref a0), (1, .ref a1), (2, .ref a2), (3, .int x3)] [.int v156, .int v153] Th M155 153 931703
      refine m_icmp_eq (tgt := 1188) dL_law_902 (by decide) (fun c1 => ?_) (fun c1 => ?_)
      · rw [if_pos c1] at h
        refine m_iinc (v := x3 + 8) (lv' := [(3, .int (x3 + 8)), (0, .ref a0), (1, .ref a1), (2, .ref a2)]) dL_law_1188 3 rfl rfl (by decide) rfl ?_
        refine m_goto (tgt := 18) dL_law_1191 (by decide) ?_
        exact m_sub [1, 2, 3, 0] rfl h
      · rw [if_neg c1] at h
        refine m_iconst (v := 0) dL_law_905 (by decide) ?_
        first | exact h.elim | exact m_wid 600000 7302250 (Nat.le_of_ble_eq_true rfl) (Nat.le_of_ble_eq_true rfl) (m_ireturn dL_law_906 rfl (by decide) rfl)
    rw [if_neg c16] at h
    by_cases c17 : (((M).1 a0 (Int32.toNatClampNeg x3)) &&& 31) = 17
    · rw [if_pos c17] at h
      refine m_tableIn (off := 874) (tgt := 907) dL_law_33 (by rw [c17]; decide) (by rw [c17]; decide) (by rw [c17]; decide) (by decide) ?_
      refine m_aload_n dL_law_907 rfl 1 rfl ?_
      refine m_aload_n dL_law_908 rfl 0 rfl ?_
      refine m_iload_n dL_law_909 rfl 3 rfl ?_
      refine m_iconst (v := 1) dL_law_910 (by decide) ?_
      refine m_iadd dL_law_911 ?_
      obtain ⟨q158, h⟩ := h
      refine m_iald dL_law_912 q158 ?_
      refine m_aload_n dL_law_913 rfl 0 rfl ?_
      refine m_iload_n dL_law_914 rfl 3 rfl ?_
      refine m_iconst (v := 2) dL_law_915 (by decide) ?_
      refine m_iadd dL_law_916 ?_
      obtain ⟨q159, h⟩ := h
      refine m_iald dL_law_917 q159 ?_
      refine m_aload_n dL_law_918 rfl 0 rfl ?_
      refine m_iload_n dL_law_919 rfl 3 rfl ?_
      refine m_iconst (v := 3) dL_law_920 (by decide) ?_
      refine m_iadd dL_law_921 ?_
      obtain ⟨q160, h⟩ := h
      refine m_iald dL_law_922 q160 ?_
      obtain ⟨q163, h⟩ := h
      refine m_invV (ci := 10) (As := [.int (((M).1 a0 (Int32.toNatClampNeg ((x3 + 1))))), .int (((M).1 a0 (Int32.toNatClampNeg ((x3 + 2))))), .int (((M).1 a0 (Int32.toNatClampNeg ((x3 + 3)))))]) (d' := 2047) (mc' := 0) (ms' := 0) (rest := []) i_10_cleverest v_10_cleverest t_10_cleverest l_L_91 ⟨_, _, rfl⟩ dL_law_923 rfl rfl q163 (Nat.le_of_ble_eq_true rfl) (Nat.le_refl _) ⟨Nat.le_of_ble_eq_true rfl, Nat.le_of_ble_eq_true rfl⟩ (m_Cl h (fun v162 M161 h => ?_))
      show m_W 2048 600000 7302250 yL_law cL_law 4 (some .boolean) QL 926 [(0, .ref a0), (1, .ref a1), (2, .ref a2), (3, .int x3)] [.long v162] Th M161 153 931703
      refine m_aload_n dL_law_926 rfl 2 rfl ?_
      refine m_aload_n dL_law_927 rfl 0 rfl ?_
      refine m_iload_n dL_law_928 rfl 3 rfl ?_
      refine m_iconst (v := 1) dL_law_929 (by decide) ?_
      refine m_iadd dL_law_930 ?_
      refine m_iald dL_law_931 q158 ?_
      refine m_aload_n dL_law_932 rfl 0 rfl ?_
      refine m_iload_n dL_law_933 rfl 3 rfl ?_
      refine m_iconst (v := 2) dL_law_934 (by decide) ?_
      refine m_iadd dL_law_935 ?_
      refine m_iald dL_law_936 q159 ?_
      refine m_aload_n dL_law_937 rfl 0 rfl ?_
      refine m_iload_n dL_law_938 rfl 3 rfl ?_
      refine m_iconst (v := 3) dL_law_939 (by decide) ?_
      refine m_iadd dL_law_940 ?_
      refine m_iald dL_law_941 q160 ?_
      obtain ⟨q166, h⟩ := h
      refine m_invV (ci := 11) (As := [.int (((M161).1 a0 (Int32.toNatClampNeg ((x3 + 1))))), .int (((M161).1 a0 (Int32.toNatClampNeg ((x3 + 2))))), .int (((M161).1 a0 (Int32.toNatClampNeg ((x3 + 3)))))]) (d' := 2047) (mc' := 0) (ms' := 0) (rest := [.long v162]) i_11_cleverest v_11_cleverest t_11_cleverest l_L_94 ⟨_, _, rfl⟩ dL_law_942 rfl rfl q166 (Nat.le_of_ble_eq_true rfl) (Nat.le_refl _) ⟨Nat.le_of_ble_eq_true rfl, Nat.le_of_ble_eq_true rfl⟩ (m_Cl h (fun v165 M164 h => ?_))
      show m_W 2048 600000 7302250 yL_law cL_law 4 (some .boolean) QL 945 [(0, .ref a0), (1, .ref a1), (2, .ref a2), (3, .int x3)] [.long v165, .long v162] Th M164 153 931703
      refine m_lcmp dL_law_945 ?_
      refine m_if_eq (tgt := 1188) dL_law_946 (by decide) (fun c1 => ?_) (fun c1 => ?_)
      · rw [if_pos c1] at h
        refine m_iinc (v := x3 + 8) (lv' := [(3, .int (x3 + 8)), (0, .ref a0), (1, .ref a1), (2, .ref a2)]) dL_law_1188 3 rfl rfl (by decide) rfl ?_
        refine m_goto (tgt := 18) dL_law_1191 (by decide) ?_
        exact m_sub [1, 2, 3, 0] rfl h
      · rw [if_neg c1] at h
        refine m_iconst (v := 0) dL_law_949 (by decide) ?_
        first | exact h.elim | exact m_wid 600000 7302250 (Nat.le_of_ble_eq_true rfl) (Nat.le_of_ble_eq_true rfl) (m_ireturn dL_law_950 rfl (by decide) rfl)
    rw [if_neg c17] at h
    by_cases c18 : (((M).1 a0 (Int32.toNatClampNeg x3)) &&& 31) = 18
    · rw [if_pos c18] at h
      refine m_tableIn (off := 918) (tgt := 951) dL_law_33 (by rw [c18]; decide) (by rw [c18]; decide) (by rw [c18]; decide) (by decide) ?_
      refine m_aload_n dL_law_951 rfl 1 rfl ?_
      refine m_aload_n dL_law_952 rfl 0 rfl ?_
      refine m_iload_n dL_law_953 rfl 3 rfl ?_
      refine m_iconst (v := 1) dL_law_954 (by decide) ?_
      refine m_iadd dL_law_955 ?_
      obtain ⟨q167, h⟩ := h
      refine m_iald dL_law_956 q167 ?_
      refine m_aload_n dL_law_957 rfl 0 rfl ?_
      refine m_iload_n dL_law_958 rfl 3 rfl ?_
      refine m_iconst (v := 2) dL_law_959 (by decide) ?_
      refine m_iadd dL_law_960 ?_
      obtain ⟨q168, h⟩ := h
      refine m_iald dL_law_961 q168 ?_
      refine m_aload_n dL_law_962 rfl 0 rfl ?_
      refine m_iload_n dL_law_963 rfl 3 rfl ?_
      refine m_iconst (v := 3) dL_law_964 (by decide) ?_
      refine m_iadd dL_law_965 ?_
      obtain ⟨q169, h⟩ := h
      refine m_iald dL_law_966 q169 ?_
      obtain ⟨q172, h⟩ := h
      refine m_invV (ci := 10) (As := [.int (((M).1 a0 (Int32.toNatClampNeg ((x3 + 1))))), .int (((M).1 a0 (Int32.toNatClampNeg ((x3 + 2))))), .int (((M).1 a0 (Int32.toNatClampNeg ((x3 + 3)))))]) (d' := 2047) (mc' := 0) (ms' := 0) (rest := []) i_10_went v_10_went t_10_went l_L_95 ⟨_, _, rfl⟩ dL_law_967 rfl rfl q172 (Nat.le_of_ble_eq_true rfl) (Nat.le_refl _) ⟨Nat.le_of_ble_eq_true rfl, Nat.le_of_ble_eq_true rfl⟩ (m_Ci h (fun v171 M170 h => ?_))
      show m_W 2048 600000 7302250 yL_law cL_law 4 (some .boolean) QL 970 [(0, .ref a0), (1, .ref a1), (2, .ref a2), (3, .int x3)] [.int v171] Th M170 153 931703
      refine m_aload_n dL_law_970 rfl 2 rfl ?_
      refine m_aload_n dL_law_971 rfl 0 rfl ?_
      refine m_iload_n dL_law_972 rfl 3 rfl ?_
      refine m_iconst (v := 1) dL_law_973 (by decide) ?_
      refine m_iadd dL_law_974 ?_
      refine m_iald dL_law_975 q167 ?_
      refine m_aload_n dL_law_976 rfl 0 rfl ?_
      refine m_iload_n dL_law_977 rfl 3 rfl ?_
      refine m_iconst (v := 2) dL_law_978 (by decide) ?_
      refine m_iadd dL_law_979 ?_
      refine m_iald dL_law_980 q168 ?_
      refine m_aload_n dL_law_981 rfl 0 rfl ?_
      refine m_iload_n dL_law_982 rfl 3 rfl ?_
      refine m_iconst (v := 3) dL_law_983 (by decide) ?_
      refine m_iadd dL_law_984 ?_
      refine m_iald dL_law_985 q169 ?_
      obtain ⟨q175, h⟩ := h
      refine m_invV (ci := 11) (As := [.int (((M170).1 a0 (Int32.toNatClampNeg ((x3 + 1))))), .int (((M170).1 a0 (Int32.toNatClampNeg ((x3 + 2))))), .int (((M170).1 a0 (Int32.toNatClampNeg ((x3 + 3)))))]) (d' := 2047) (mc' := 0) (ms' := 0) (rest := [.int v171]) i_11_went v_11_went t_11_went l_L_98 ⟨_, _, rfl⟩ dL_law_986 rfl rfl q175 (Nat.le_of_ble_eq_true rfl) (Nat.le_refl _) ⟨Nat.le_of_ble_eq_true rfl, Nat.le_of_ble_eq_true rfl⟩ (m_Ci h (fun v174 M173 h => ?_))
      show m_W 2048 600000 7302250 yL_law cL_law 4 (some .boolean) QL 989 [(0, .ref a0), (1, .ref a1), (2, .ref a2), (3, .int x3)] [.int v174, .int v171] Th M173 153 931703
      refine m_icmp_eq (tgt := 1188) dL_law_989 (by decide) (fun c1 => ?_) (fun c1 => ?_)
      · rw [if_pos c1] at h
        refine m_iinc (v := x3 + 8) (lv' := [(3, .int (x3 + 8)), (0, .ref a0), (1, .ref a1), (2, .ref a2)]) dL_law_1188 3 rfl rfl (by decide) rfl ?_
        refine m_goto (tgt := 18) dL_law_1191 (by decide) ?_
        exact m_sub [1, 2, 3, 0] rfl h
      · rw [if_neg c1] at h
        refine m_iconst (v := 0) dL_law_992 (by decide) ?_
        first | exact h.elim | exact m_wid 600000 7302250 (Nat.le_of_ble_eq_true rfl) (Nat.le_of_ble_eq_true rfl) (m_ireturn dL_law_993 rfl (by decide) rfl)
    rw [if_neg c18] at h
    by_cases c19 : (((M).1 a0 (Int32.toNatClampNeg x3)) &&& 31) = 19
    · rw [if_pos c19] at h
      refine m_tableIn (off := 961) (tgt := 994) dL_law_33 (by rw [c19]; decide) (by rw [c19]; decide) (by rw [c19]; decide) (by decide) ?_
      refine m_aload_n dL_law_994 rfl 1 rfl ?_
      refine m_aload_n dL_law_995 rfl 0 rfl ?_
      refine m_iload_n dL_law_996 rfl 3 rfl ?_
      refine m_iconst (v := 1) dL_law_997 (by decide) ?_
      refine m_iadd dL_law_998 ?_
      obtain ⟨q176, h⟩ := h
      refine m_iald dL_law_999 q176 ?_
      refine m_aload_n dL_law_1000 rfl 0 rfl ?_
      refine m_iload_n dL_law_1001 rfl 3 rfl ?_
      refine m_iconst (v := 2) dL_law_1002 (by decide) ?_
      refine m_iadd dL_law_1003 ?_
      obtain ⟨q177, h⟩ := h
      refine m_iald dL_law_1004 q177 ?_
      obtain ⟨q180, h⟩ := h
      refine m_invV (ci := 10) (As := [.int (((M).1 a0 (Int32.toNatClampNeg ((x3 + 1))))), .int (((M).1 a0 (Int32.toNatClampNeg ((x3 + 2)))))]) (d' := 2047) (mc' := 0) (ms' := 0) (rest := []) i_10_logged v_10_logged t_10_logged l_L_99 ⟨_, _, rfl⟩ dL_law_1005 rfl rfl q180 (Nat.le_of_ble_eq_true rfl) (Nat.le_refl _) ⟨Nat.le_of_ble_eq_true rfl, Nat.le_of_ble_eq_true rfl⟩ (m_Ci h (fun v179 M178 h => ?_))
      show m_W 2048 600000 7302250 yL_law cL_law 4 (some .boolean) QL 1008 [(0, .ref a0), (1, .ref a1), (2, .ref a2), (3, .int x3)] [.int v179] Th M178 153 931703
      refine m_aload_n dL_law_1008 rfl 2 rfl ?_
      refine m_aload_n dL_law_1009 rfl 0 rfl ?_
      refine m_iload_n dL_law_1010 rfl 3 rfl ?_
      refine m_iconst (v := 1) dL_law_1011 (by decide) ?_
      refine m_iadd dL_law_1012 ?_
      refine m_iald dL_law_1013 q176 ?_
      refine m_aload_n dL_law_1014 rfl 0 rfl ?_
      refine m_iload_n dL_law_1015 rfl 3 rfl ?_
      refine m_iconst (v := 2) dL_law_1016 (by decide) ?_
      refine m_iadd dL_law_1017 ?_
      refine m_iald dL_law_1018 q177 ?_
      obtain ⟨q183, h⟩ := h
      refine m_invV (ci := 11) (As := [.int (((M178).1 a0 (Int32.toNatClampNeg ((x3 + 1))))), .int (((M178).1 a0 (Int32.toNatClampNeg ((x3 + 2)))))]) (d' := 2047) (mc' := 0) (ms' := 0) (rest := [.int v179]) i_11_logged v_11_logged t_11_logged l_L_102 ⟨_, _, rfl⟩ dL_law_1019 rfl rfl q183 (Nat.le_of_ble_eq_true rfl) (Nat.le_refl _) ⟨Nat.le_of_ble_eq_true rfl, Nat.le_of_ble_eq_true rfl⟩ (m_Ci h (fun v182 M181 h => ?_))
      show m_W 2048 600000 7302250 yL_law cL_law 4 (some .boolean) QL 1022 [(0, .ref a0), (1, .ref a1), (2, .ref a2), (3, .int x3)] [.int v182, .int v179] Th M181 153 931703
      refine m_icmp_eq (tgt := 1188) dL_law_1022 (by decide) (fun c1 => ?_) (fun c1 => ?_)
      · rw [if_pos c1] at h
        refine m_iinc (v := x3 + 8) (lv' := [(3, .int (x3 + 8)), (0, .ref a0), (1, .ref a1), (2, .ref a2)]) dL_law_1188 3 rfl rfl (by decide) rfl ?_
        refine m_goto (tgt := 18) dL_law_1191 (by decide) ?_
        exact m_sub [1, 2, 3, 0] rfl h
      · rw [if_neg c1] at h
        refine m_iconst (v := 0) dL_law_1025 (by decide) ?_
        first | exact h.elim | exact m_wid 600000 7302250 (Nat.le_of_ble_eq_true rfl) (Nat.le_of_ble_eq_true rfl) (m_ireturn dL_law_1026 rfl (by decide) rfl)
    rw [if_neg c19] at h
    by_cases c20 : (((M).1 a0 (Int32.toNatClampNeg x3)) &&& 31) = 20
    · rw [if_pos c20] at h
      refine m_tableIn (off := 994) (tgt := 1027) dL_law_33 (by rw [c20]; decide) (by rw [c20]; decide) (by rw [c20]; decide) (by decide) ?_
      refine m_aload_n dL_law_1027 rfl 1 rfl ?_
      refine m_aload_n dL_law_1028 rfl 0 rfl ?_
      refine m_iload_n dL_law_1029 rfl 3 rfl ?_
      refine m_iconst (v := 1) dL_law_1030 (by decide) ?_
      refine m_iadd dL_law_1031 ?_
      obtain ⟨q184, h⟩ := h
      refine m_iald dL_law_1032 q184 ?_
      refine m_aload_n dL_law_1033 rfl 0 rfl ?_
      refine m_iload_n dL_law_1034 rfl 3 rfl ?_
      refine m_iconst (v := 2) dL_law_1035 (by decide) ?_
      refine m_iadd dL_law_1036 ?_
      obtain ⟨q185, h⟩ := h
      refine m_iald dL_law_1037 q185 ?_
      refine m_aload_n dL_law_1038 rfl 0 rfl ?_
      refine m_iload_n dL_law_1039 rfl 3 rfl ?_
      refine m_iconst (v := 3) dL_law_1040 (by decide) ?_
      refine m_iadd dL_law_1041 ?_
      obtain ⟨q186, h⟩ := h
      refine m_iald dL_law_1042 q186 ?_
      obtain ⟨q189, h⟩ := h
      refine m_invV (ci := 10) (As := [.int (((M).1 a0 (Int32.toNatClampNeg ((x3 + 1))))), .int (((M).1 a0 (Int32.toNatClampNeg ((x3 + 2))))), .int (((M).1 a0 (Int32.toNatClampNeg ((x3 + 3)))))]) (d' := 2047) (mc' := 0) (ms' := 0) (rest := []) i_10_knew v_10_knew t_10_knew l_L_103 ⟨_, _, rfl⟩ dL_law_1043 rfl rfl q189 (Nat.le_of_ble_eq_true rfl) (Nat.le_refl _) ⟨Nat.le_of_ble_eq_true rfl, Nat.le_of_ble_eq_true rfl⟩ (m_Ci h (fun v188 M187 h => ?_))
      show m_W 2048 600000 7302250 yL_law cL_law 4 (some .boolean) QL 1046 [(0, .ref a0), (1, .ref a1), (2, .ref a2), (3, .int x3)] [.int v188] Th M187 153 931703
      refine m_aload_n dL_law_1046 rfl 2 rfl ?_
      refine m_aload_n dL_law_1047 rfl 0 rfl ?_
      refine m_iload_n dL_law_1048 rfl 3 rfl ?_
      refine m_iconst (v := 1) dL_law_1049 (by decide) ?_
      refine m_iadd dL_law_1050 ?_
      refine m_iald dL_law_1051 q184 ?_
      refine m_aload_n dL_law_1052 rfl 0 rfl ?_
      refine m_iload_n dL_law_1053 rfl 3 rfl ?_
      refine m_iconst (v := 2) dL_law_1054 (by decide) ?_
      refine m_iadd dL_law_1055 ?_
      refine m_iald dL_law_1056 q185 ?_
      refine m_aload_n dL_law_1057 rfl 0 rfl ?_
      refine m_iload_n dL_law_1058 rfl 3 rfl ?_
      refine m_iconst (v := 3) dL_law_1059 (by decide) ?_
      refine m_iadd dL_law_1060 ?_
      refine m_iald dL_law_1061 q186 ?_
      obtain ⟨q192, h⟩ := h
      refine m_invV (ci := 11) (As := [.int (((M187).1 a0 (Int32.toNatClampNeg ((x3 + 1))))), .int (((M187).1 a0 (Int32.toNatClampNeg ((x3 + 2))))), .int (((M187).1 a0 (Int32.toNatClampNeg ((x3 + 3)))))]) (d' := 2047) (mc' := 0) (ms' := 0) (rest := [.int v188]) i_11_knew v_11_knew t_11_knew l_L_106 ⟨_, _, rfl⟩ dL_law_1062 rfl rfl q192 (Nat.le_of_ble_eq_true rfl) (Nat.le_refl _) ⟨Nat.le_of_ble_eq_true rfl, Nat.le_of_ble_eq_true rfl⟩ (m_Ci h (fun v191 M190 h => ?_))
      show m_W 2048 600000 7302250 yL_law cL_law 4 (some .boolean) QL 1065 [(0, .ref a0), (1, .ref a1), (2, .ref a2), (3, .int x3)] [.int v191, .int v188] Th M190 153 931703
      refine m_icmp_eq (tgt := 1188) dL_law_1065 (by decide) (fun c1 => ?_) (fun c1 => ?_)
      · rw [if_pos c1] at h
        refine m_iinc (v := x3 + 8) (lv' := [(3, .int (x3 + 8)), (0, .ref a0), (1, .ref a1), (2, .ref a2)]) dL_law_1188 3 rfl rfl (by decide) rfl ?_
        refine m_goto (tgt := 18) dL_law_1191 (by decide) ?_
        exact m_sub [1, 2, 3, 0] rfl h
      · rw [if_neg c1] at h
        refine m_iconst (v := 0) dL_law_1068 (by decide) ?_
        first | exact h.elim | exact m_wid 600000 7302250 (Nat.le_of_ble_eq_true rfl) (Nat.le_of_ble_eq_true rfl) (m_ireturn dL_law_1069 rfl (by decide) rfl)
    rw [if_neg c20] at h
    by_cases c21 : (((M).1 a0 (Int32.toNatClampNeg x3)) &&& 31) = 21
    · rw [if_pos c21] at h
      refine m_tableIn (off := 1037) (tgt := 1070) dL_law_33 (by rw [c21]; decide) (by rw [c21]; decide) (by rw [c21]; decide) (by decide) ?_
      refine m_aload_n dL_law_1070 rfl 1 rfl ?_
      refine m_aload_n dL_law_1071 rfl 0 rfl ?_
      refine m_iload_n dL_law_1072 rfl 3 rfl ?_
      refine m_iconst (v := 1) dL_law_1073 (by decide) ?_
      refine m_iadd dL_law_1074 ?_
      obtain ⟨q193, h⟩ := h
      refine m_iald dL_law_1075 q193 ?_
      obtain ⟨q196, h⟩ := h
      refine m_invV (ci := 10) (As := [.int (((M).1 a0 (Int32.toNatClampNeg ((x3 + 1)))))]) (d' := 2047) (mc' := 0) (ms' := 0) (rest := []) i_10_seed v_10_seed t_10_seed l_L_107 ⟨_, _, rfl⟩ dL_law_1076 rfl rfl q196 (Nat.le_of_ble_eq_true rfl) (Nat.le_refl _) ⟨Nat.le_of_ble_eq_true rfl, Nat.le_of_ble_eq_true rfl⟩ (m_Ci h (fun v195 M194 h => ?_))
      show m_W 2048 600000 7302250 yL_law cL_law 4 (some .boolean) QL 1079 [(0, .ref a0), (1, .ref a1), (2, .ref a2), (3, .int x3)] [.int v195] Th M194 153 931703
      refine m_aload_n dL_law_1079 rfl 2 rfl ?_
      refine m_aload_n dL_law_1080 rfl 0 rfl ?_
      refine m_iload_n dL_law_1081 rfl 3 rfl ?_
      refine m_iconst (v := 1) dL_law_1082 (by decide) ?_
      refine m_iadd dL_law_1083 ?_
      refine m_iald dL_law_1084 q193 ?_
      obtain ⟨q199, h⟩ := h
      refine m_invV (ci := 11) (As := [.int (((M194).1 a0 (Int32.toNatClampNeg ((x3 + 1)))))]) (d' := 2047) (mc' := 0) (ms' := 0) (rest := [.int v195]) i_11_seed v_11_seed t_11_seed l_L_111 ⟨_, _, rfl⟩ dL_law_1085 rfl rfl q199 (Nat.le_of_ble_eq_true rfl) (Nat.le_refl _) ⟨Nat.le_of_ble_eq_true rfl, Nat.le_of_ble_eq_true rfl⟩ (m_Ci h (fun v198 M197 h => ?_))
      show m_W 2048 600000 7302250 yL_law cL_law 4 (some .boolean) QL 1088 [(0, .ref a0), (1, .ref a1), (2, .ref a2), (3, .int x3)] [.int v198, .int v195] Th M197 153 931703
      refine m_icmp_eq (tgt := 1188) dL_law_1088 (by decide) (fun c1 => ?_) (fun c1 => ?_)
      · rw [if_pos c1] at h
        refine m_iinc (v := x3 + 8) (lv' := [(3, .int (x3 + 8)), (0, .ref a0), (1, .ref a1), (2, .ref a2)]) dL_law_1188 3 rfl rfl (by decide) rfl ?_
        refine m_goto (tgt := 18) dL_law_1191 (by decide) ?_
        exact m_sub [1, 2, 3, 0] rfl h
      · rw [if_neg c1] at h
        refine m_iconst (v := 0) dL_law_1091 (by decide) ?_
        first | exact h.elim | exact m_wid 600000 7302250 (Nat.le_of_ble_eq_true rfl) (Nat.le_of_ble_eq_true rfl) (m_ireturn dL_law_1092 rfl (by decide) rfl)
    rw [if_neg c21] at h
    by_cases c22 : (((M).1 a0 (Int32.toNatClampNeg x3)) &&& 31) = 22
    · rw [if_pos c22] at h
      refine m_tableIn (off := 1060) (tgt := 1093) dL_law_33 (by rw [c22]; decide) (by rw [c22]; decide) (by rw [c22]; decide) (by decide) ?_
      refine m_aload_n dL_law_1093 rfl 1 rfl ?_
      obtain ⟨q202, h⟩ := h
      refine m_invV (ci := 10) (As := []) (d' := 2047) (mc' := 0) (ms' := 0) (rest := []) i_10_draw v_10_draw t_10_draw l_L_112 ⟨_, _, rfl⟩ dL_law_1094 rfl rfl q202 (Nat.le_of_ble_eq_true rfl) (Nat.le_refl _) ⟨Nat.le_of_ble_eq_true rfl, Nat.le_of_ble_eq_true rfl⟩ (m_Ci h (fun v201 M200 h => ?_))
      show m_W 2048 600000 7302250 yL_law cL_law 4 (some .boolean) QL 1097 [(0, .ref a0), (1, .ref a1), (2, .ref a2), (3, .int x3)] [.int v201] Th M200 153 931703
      refine m_aload_n dL_law_1097 rfl 2 rfl ?_
      obtain ⟨q205, h⟩ := h
      refine m_invV (ci := 11) (As := []) (d' := 2047) (mc' := 0) (ms' := 0) (rest := [.int v201]) i_11_draw v_11_draw t_11_draw l_L_115 ⟨_, _, rfl⟩ dL_law_1098 rfl rfl q205 (Nat.le_of_ble_eq_true rfl) (Nat.le_refl _) ⟨Nat.le_of_ble_eq_true rfl, Nat.le_of_ble_eq_true rfl⟩ (m_Ci h (fun v204 M203 h => ?_))
      show m_W 2048 600000 7302250 yL_law cL_law 4 (some .boolean) QL 1101 [(0, .ref a0), (1, .ref a1), (2, .ref a2), (3, .int x3)] [.int v204, .int v201] Th M203 153 931703
      refine m_icmp_eq (tgt := 1188) dL_law_1101 (by decide) (fun c1 => ?_) (fun c1 => ?_)
      · rw [if_pos c1] at h
        refine m_iinc (v := x3 + 8) (lv' := [(3, .int (x3 + 8)), (0, .ref a0), (1, .ref a1), (2, .ref a2)]) dL_law_1188 3 rfl rfl (by decide) rfl ?_
        refine m_goto (tgt := 18) dL_law_1191 (by decide) ?_
        exact m_sub [1, 2, 3, 0] rfl h
      · rw [if_neg c1] at h
        refine m_iconst (v := 0) dL_law_1104 (by decide) ?_
        first | exact h.elim | exact m_wid 600000 7302250 (Nat.le_of_ble_eq_true rfl) (Nat.le_of_ble_eq_true rfl) (m_ireturn dL_law_1105 rfl (by decide) rfl)
    rw [if_neg c22] at h
    by_cases c23 : (((M).1 a0 (Int32.toNatClampNeg x3)) &&& 31) = 23
    · rw [if_pos c23] at h
      refine m_tableIn (off := 1073) (tgt := 1106) dL_law_33 (by rw [c23]; decide) (by rw [c23]; decide) (by rw [c23]; decide) (by decide) ?_
      refine m_aload_n dL_law_1106 rfl 1 rfl ?_
      refine m_aload_n dL_law_1107 rfl 0 rfl ?_
      refine m_iload_n dL_law_1108 rfl 3 rfl ?_
      refine m_iconst (v := 1) dL_law_1109 (by decide) ?_
      refine m_iadd dL_law_1110 ?_
      obtain ⟨q206, h⟩ := h
      refine m_iald dL_law_1111 q206 ?_
      obtain ⟨q209, h⟩ := h
      refine m_invV (ci := 10) (As := [.int (((M).1 a0 (Int32.toNatClampNeg ((x3 + 1)))))]) (d' := 2047) (mc' := 0) (ms' := 0) (rest := []) i_10_had v_10_had t_10_had l_L_116 ⟨_, _, rfl⟩ dL_law_1112 rfl rfl q209 (Nat.le_of_ble_eq_true rfl) (Nat.le_refl _) ⟨Nat.le_of_ble_eq_true rfl, Nat.le_of_ble_eq_true rfl⟩ (m_Ci h (fun v208 M207 h => ?_))
      show m_W 2048 600000 7302250 yL_law cL_law 4 (some .boolean) QL 1115 [(0, .ref a0), (1, .ref a1), (2, .ref a2), (3, .int x3)] [.int v208] Th M207 153 931703
      refine m_aload_n dL_law_1115 rfl 2 rfl ?_
      refine m_aload_n dL_law_1116 rfl 0 rfl ?_
      refine m_iload_n dL_law_1117 rfl 3 rfl ?_
      refine m_iconst (v := 1) dL_law_1118 (by decide) ?_
      refine m_iadd dL_law_1119 ?_
      refine m_iald dL_law_1120 q206 ?_
      obtain ⟨q212, h⟩ := h
      refine m_invV (ci := 11) (As := [.int (((M207).1 a0 (Int32.toNatClampNeg ((x3 + 1)))))]) (d' := 2047) (mc' := 0) (ms' := 0) (rest := [.int v208]) i_11_had v_11_had t_11_had l_L_119 ⟨_, _, rfl⟩ dL_law_1121 rfl rfl q212 (Nat.le_of_ble_eq_true rfl) (Nat.le_refl _) ⟨Nat.le_of_ble_eq_true rfl, Nat.le_of_ble_eq_true rfl⟩ (m_Ci h (fun v211 M210 h => ?_))
      show m_W 2048 600000 7302250 yL_law cL_law 4 (some .boolean) QL 1124 [(0, .ref a0), (1, .ref a1), (2, .ref a2), (3, .int x3)] [.int v211, .int v208] Th M210 153 931703
      refine m_icmp_eq (tgt := 1188) dL_law_1124 (by decide) (fun c1 => ?_) (fun c1 => ?_)
      · rw [if_pos c1] at h
        refine m_iinc (v := x3 + 8) (lv' := [(3, .int (x3 + 8)), (0, .ref a0), (1, .ref a1), (2, .ref a2)]) dL_law_1188 3 rfl rfl (by decide) rfl ?_
        refine m_goto (tgt := 18) dL_law_1191 (by decide) ?_
        exact m_sub [1, 2, 3, 0] rfl h
      · rw [if_neg c1] at h
        refine m_iconst (v := 0) dL_law_1127 (by decide) ?_
        first | exact h.elim | exact m_wid 600000 7302250 (Nat.le_of_ble_eq_true rfl) (Nat.le_of_ble_eq_true rfl) (m_ireturn dL_law_1128 rfl (by decide) rfl)
    rw [if_neg c23] at h
    by_cases c24 : (((M).1 a0 (Int32.toNatClampNeg x3)) &&& 31) = 24
    · rw [if_pos c24] at h
      refine m_tableIn (off := 1096) (tgt := 1129) dL_law_33 (by rw [c24]; decide) (by rw [c24]; decide) (by rw [c24]; decide) (by decide) ?_
      refine m_aload_n dL_law_1129 rfl 1 rfl ?_
      obtain ⟨q215, h⟩ := h
      refine m_invV (ci := 10) (As := []) (d' := 2047) (mc' := 0) (ms' := 0) (rest := []) i_10_clear v_10_clear t_10_clear l_L_120 ⟨_, _, rfl⟩ dL_law_1130 rfl rfl q215 (Nat.le_of_ble_eq_true rfl) (Nat.le_refl _) ⟨Nat.le_of_ble_eq_true rfl, Nat.le_of_ble_eq_true rfl⟩ (m_Ci h (fun v214 M213 h => ?_))
      show m_W 2048 600000 7302250 yL_law cL_law 4 (some .boolean) QL 1133 [(0, .ref a0), (1, .ref a1), (2, .ref a2), (3, .int x3)] [.int v214] Th M213 153 931703
      refine m_aload_n dL_law_1133 rfl 2 rfl ?_
      obtain ⟨q218, h⟩ := h
      refine m_invV (ci := 11) (As := []) (d' := 2047) (mc' := 0) (ms' := 0) (rest := [.int v214]) i_11_clear v_11_clear t_11_clear l_L_123 ⟨_, _, rfl⟩ dL_law_1134 rfl rfl q218 (Nat.le_of_ble_eq_true rfl) (Nat.le_refl _) ⟨Nat.le_of_ble_eq_true rfl, Nat.le_of_ble_eq_true rfl⟩ (m_Ci h (fun v217 M216 h => ?_))
      show m_W 2048 600000 7302250 yL_law cL_law 4 (some .boolean) QL 1137 [(0, .ref a0), (1, .ref a1), (2, .ref a2), (3, .int x3)] [.int v217, .int v214] Th M216 153 931703
      refine m_icmp_eq (tgt := 1188) dL_law_1137 (by decide) (fun c1 => ?_) (fun c1 => ?_)
      · rw [if_pos c1] at h
        refine m_iinc (v := x3 + 8) (lv' := [(3, .int (x3 + 8)), (0, .ref a0), (1, .ref a1), (2, .ref a2)]) dL_law_1188 3 rfl rfl (by decide) rfl ?_
        refine m_goto (tgt := 18) dL_law_1191 (by decide) ?_
        exact m_sub [1, 2, 3, 0] rfl h
      · rw [if_neg c1] at h
        refine m_iconst (v := 0) dL_law_1140 (by decide) ?_
        first | exact h.elim | exact m_wid 600000 7302250 (Nat.le_of_ble_eq_true rfl) (Nat.le_of_ble_eq_true rfl) (m_ireturn dL_law_1141 rfl (by decide) rfl)
    rw [if_neg c24] at h
    by_cases c25 : (((M).1 a0 (Int32.toNatClampNeg x3)) &&& 31) = 25
    · rw [if_pos c25] at h
      refine m_tableIn (off := 1109) (tgt := 1142) dL_law_33 (by rw [c25]; decide) (by rw [c25]; decide) (by rw [c25]; decide) (by decide) ?_
      refine m_aload_n dL_law_1142 rfl 1 rfl ?_
      refine m_aload_n dL_law_1143 rfl 0 rfl ?_
      refine m_iload_n dL_law_1144 rfl 3 rfl ?_
      refine m_iconst (v := 1) dL_law_1145 (by decide) ?_
      refine m_iadd dL_law_1146 ?_
      obtain ⟨q219, h⟩ := h
      refine m_iald dL_law_1147 q219 ?_
      obtain ⟨q222, h⟩ := h
      refine m_invV (ci := 10) (As := [.int (((M).1 a0 (Int32.toNatClampNeg ((x3 + 1)))))]) (d' := 2047) (mc' := 0) (ms' := 0) (rest := []) i_10_check v_10_check t_10_check l_L_124 ⟨_, _, rfl⟩ dL_law_1148 rfl rfl q222 (Nat.le_of_ble_eq_true rfl) (Nat.le_refl _) ⟨Nat.le_of_ble_eq_true rfl, Nat.le_of_ble_eq_true rfl⟩ (m_Ci h (fun v221 M220 h => ?_))
      show m_W 2048 600000 7302250 yL_law cL_law 4 (some .boolean) QL 1151 [(0, .ref a0), (1, .ref a1), (2, .ref a2), (3, .int x3)] [.int v221] Th M220 153 931703
      refine m_aload_n dL_law_1151 rfl 2 rfl ?_
      refine m_aload_n dL_law_1152 rfl 0 rfl ?_
      refine m_iload_n dL_law_1153 rfl 3 rfl ?_
      refine m_iconst (v := 1) dL_law_1154 (by decide) ?_
      refine m_iadd dL_law_1155 ?_
      refine m_iald dL_law_1156 q219 ?_
      obtain ⟨q225, h⟩ := h
      refine m_invV (ci := 11) (As := [.int (((M220).1 a0 (Int32.toNatClampNeg ((x3 + 1)))))]) (d' := 2047) (mc' := 0) (ms' := 0) (rest := [.int v221]) i_11_check v_11_check t_11_check l_L_127 ⟨_, _, rfl⟩ dL_law_1157 rfl rfl q225 (Nat.le_of_ble_eq_true rfl) (Nat.le_refl _) ⟨Nat.le_of_ble_eq_true rfl, Nat.le_of_ble_eq_true rfl⟩ (m_Ci h (fun v224 M223 h => ?_))
      show m_W 2048 600000 7302250 yL_law cL_law 4 (some .boolean) QL 1160 [(0, .ref a0), (1, .ref a1), (2, .ref a2), (3, .int x3)] [.int v224, .int v221] Th M223 153 931703
      refine m_icmp_eq (tgt := 1188) dL_law_1160 (by decide) (fun c1 => ?_) (fun c1 => ?_)
      · rw [if_pos c1] at h
        refine m_iinc (v := x3 + 8) (lv' := [(3, .int (x3 + 8)), (0, .ref a0), (1, .ref a1), (2, .ref a2)]) dL_law_1188 3 rfl rfl (by decide) rfl ?_
        refine m_goto (tgt := 18) dL_law_1191 (by decide) ?_
        exact m_sub [1, 2, 3, 0] rfl h
      · rw [if_neg c1] at h
        refine m_iconst (v := 0) dL_law_1163 (by decide) ?_
        first | exact h.elim | exact m_wid 600000 7302250 (Nat.le_of_ble_eq_true rfl) (Nat.le_of_ble_eq_true rfl) (m_ireturn dL_law_1164 rfl (by decide) rfl)
    rw [if_neg c25] at h
    by_cases c26 : (((M).1 a0 (Int32.toNatClampNeg x3)) &&& 31) = 26
    · rw [if_pos c26] at h
      refine m_tableIn (off := 1132) (tgt := 1165) dL_law_33 (by rw [c26]; decide) (by rw [c26]; decide) (by rw [c26]; decide) (by decide) ?_
      refine m_aload_n dL_law_1165 rfl 1 rfl ?_
      refine m_aload_n dL_law_1166 rfl 0 rfl ?_
      refine m_iload_n dL_law_1167 rfl 3 rfl ?_
      refine m_iconst (v := 1) dL_law_1168 (by decide) ?_
      refine m_iadd dL_law_1169 ?_
      obtain ⟨q226, h⟩ := h
      refine m_iald dL_law_1170 q226 ?_
      obtain ⟨q229, h⟩ := h
      refine m_invV (ci := 10) (As := [.int (((M).1 a0 (Int32.toNatClampNeg ((x3 + 1)))))]) (d' := 2047) (mc' := 0) (ms' := 0) (rest := []) i_10_count v_10_count t_10_count l_L_128 ⟨_, _, rfl⟩ dL_law_1171 rfl rfl q229 (Nat.le_of_ble_eq_true rfl) (Nat.le_refl _) ⟨Nat.le_of_ble_eq_true rfl, Nat.le_of_ble_eq_true rfl⟩ (m_Ci h (fun v228 M227 h => ?_))
      show m_W 2048 600000 7302250 yL_law cL_law 4 (some .boolean) QL 1174 [(0, .ref a0), (1, .ref a1), (2, .ref a2), (3, .int x3)] [.int v228] Th M227 153 931703
      refine m_aload_n dL_law_1174 rfl 2 rfl ?_
      refine m_aload_n dL_law_1175 rfl 0 rfl ?_
      refine m_iload_n dL_law_1176 rfl 3 rfl ?_
      refine m_iconst (v := 1) dL_law_1177 (by decide) ?_
      refine m_iadd dL_law_1178 ?_
      refine m_iald dL_law_1179 q226 ?_
      obtain ⟨q232, h⟩ := h
      refine m_invV (ci := 11) (As := [.int (((M227).1 a0 (Int32.toNatClampNeg ((x3 + 1)))))]) (d' := 2047) (mc' := 0) (ms' := 0) (rest := [.int v228]) i_11_count v_11_count t_11_count l_L_131 ⟨_, _, rfl⟩ dL_law_1180 rfl rfl q232 (Nat.le_of_ble_eq_true rfl) (Nat.le_refl _) ⟨Nat.le_of_ble_eq_true rfl, Nat.le_of_ble_eq_true rfl⟩ (m_Ci h (fun v231 M230 h => ?_))
      show m_W 2048 600000 7302250 yL_law cL_law 4 (some .boolean) QL 1183 [(0, .ref a0), (1, .ref a1), (2, .ref a2), (3, .int x3)] [.int v231, .int v228] Th M230 153 931703
      refine m_icmp_eq (tgt := 1188) dL_law_1183 (by decide) (fun c1 => ?_) (fun c1 => ?_)
      · rw [if_pos c1] at h
        refine m_iinc (v := x3 + 8) (lv' := [(3, .int (x3 + 8)), (0, .ref a0), (1, .ref a1), (2, .ref a2)]) dL_law_1188 3 rfl rfl (by decide) rfl ?_
        refine m_goto (tgt := 18) dL_law_1191 (by decide) ?_
        exact m_sub [1, 2, 3, 0] rfl h
      · rw [if_neg c1] at h
        refine m_iconst (v := 0) dL_law_1186 (by decide) ?_
        first | exact h.elim | exact m_wid 600000 7302250 (Nat.le_of_ble_eq_true rfl) (Nat.le_of_ble_eq_true rfl) (m_ireturn dL_law_1187 rfl (by decide) rfl)
    rw [if_neg c26] at h
    refine m_tableOut (tgt := 1188) dL_law_33 (m_sw 0 26 (fun k h1 h2 => by have hk : k = 0 ∨ k = 1 ∨ k = 2 ∨ k = 3 ∨ k = 4 ∨ k = 5 ∨ k = 6 ∨ k = 7 ∨ k = 8 ∨ k = 9 ∨ k = 10 ∨ k = 11 ∨ k = 12 ∨ k = 13 ∨ k = 14 ∨ k = 15 ∨ k = 16 ∨ k = 17 ∨ k = 18 ∨ k = 19 ∨ k = 20 ∨ k = 21 ∨ k = 22 ∨ k = 23 ∨ k = 24 ∨ k = 25 ∨ k = 26 := (by omega); rcases hk with rfl | rfl | rfl | rfl | rfl | rfl | rfl | rfl | rfl | rfl | rfl | rfl | rfl | rfl | rfl | rfl | rfl | rfl | rfl | rfl | rfl | rfl | rfl | rfl | rfl | rfl | rfl <;> first | exact c0 | exact c1 | exact c2 | exact c3 | exact c4 | exact c5 | exact c6 | exact c7 | exact c8 | exact c9 | exact c10 | exact c11 | exact c12 | exact c13 | exact c14 | exact c15 | exact c16 | exact c17 | exact c18 | exact c19 | exact c20 | exact c21 | exact c22 | exact c23 | exact c24 | exact c25 | exact c26)) (by decide) ?_
    refine m_iinc (v := x3 + 8) (lv' := [(3, .int (x3 + 8)), (0, .ref a0), (1, .ref a1), (2, .ref a2)]) dL_law_1188 3 rfl rfl (by decide) rfl ?_
    refine m_goto (tgt := 18) dL_law_1191 (by decide) ?_
    exact m_sub [1, 2, 3, 0] rfl h
