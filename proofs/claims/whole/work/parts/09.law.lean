/-! THE CLAIM OUT OF ONE WALK OF THE LAW'S BODY. Your part is whole_start (and what it stands on); all else here is the same for every law, but numbers. -/
def R_law : String := "LawWorldsLaw"
def lw_P (b : Addr) (xs : List Int32) (args : Array Value) (s : State) : Prop := args = #[.ref b] ∧ s.IntsAt b xs ∧ xs.length ≤ 2048 ∧ (Jvm.Cond.and given_1 narrow_1).before args s = true
def lw_Q (_ : Array Value) (s : State) (o : Outcome) (t : State) : Prop := o = .returned (some (.int 1)) ∧ Framed s o t [] 600000 7302250
def lw_Z (below : List Frame) (a : Array Value) (s : State) : State → Prop := fun t => ∃ o, t.status = .running ∧ Ended t below o ∧ lw_Q a s o t
/-- the law's own end, with 1 on the stack, nothing written that was there before, its room as the claim has it -/
theorem lw_ret {p : Program} {l : Launch} {e : Env} {s : State} {m : MethodId} {below : List Frame} {meth : Method} {c : Code} {b : Nat} (hx : p.tables.exec = Jvm.exec) (hb : c.code = code) (hr : meth.sig.returnType = ret) (hlocks : meth.locks = false) {pc : Nat} {H : Heap} {ls : Array Slot} (hdg : decode code pc = .ok (.ireturn, 1)) : W p l e room_1 s m #[Value.ref b] below meth c H [] 600000 7302250 (lw_Z below #[Value.ref b] s) (F0 m pc ls [.int 1]) := by
  intro T hT X
  obtain ⟨fs, hret, hrun, hended, hW, hframe⟩ := X.leave (v := some (.int 1)) (hlocks := hlocks) (fun h => by rw [hr] at h; cases h)
  have hmeth' : T.vm.method? m = some meth := X.method'
  refine ⟨T.setFrames fs, ?_, .returned (some (.int 1)), hrun, hended, rfl, ⟨_, rfl⟩, hW, hframe⟩
  jvm_step X.here [X.here.top, hx, hb, hdg, hmeth', hr, ret, narrow_b1]
  (try refine ⟨rfl, ?_⟩); (try refine ⟨rfl, ?_⟩)
  first | (intro acts; rw [hret _ acts rfl rfl rfl]) | rw [hret _ _ rfl rfl rfl]
  exact Steps.refl _
/-- what holds at the law's entry: the machine, the code, the tables' words (any of lw_tbl by 'hts w (by decide +kernel)'), the script of L ints xs at the cell b, what the Statement gives of the start (any of its parts by flat_of_before) -/
def lw_At (p : Program) (s : State) (m : MethodId) (meth : Method) (c : Code) (b L : Nat) (xs : Nat → Int32) : Prop :=
  p.tables.exec = Jvm.exec ∧ c.code = code ∧ meth.sig.returnType = ret ∧ c.maxLocals = 4 ∧ s.vm.findClass R_law = some m.cls ∧ (∀ w ∈ lw_tbl, w.before #[Value.ref b] s = true) ∧ va_X b L xs s s.heap ∧ b < s.heap.size ∧ meth.locks = false ∧ (Jvm.Cond.and given_1 narrow_1).before #[Value.ref b] s = true
/-! the law: its picture, and the walk of its body -/
def P_law (L : Nat) (xs : Nat → Int32) (σ : St) (mc ms : Nat) (Q : Int32 → St → Prop) : Prop :=
  ∀ (K18 : Option Nat → Option Nat → Int32 → St → Nat → Nat → Prop) (K582 : Option Nat → Option Nat → Int32 → Option Nat → Int32 → Int32 → St → Nat → Nat → Prop) (K856 : Option Nat → Option Nat → Int32 → St → Nat → Nat → Prop),
    (∀ (o1 : Option Nat) (o2 : Option Nat) (x3 : Int32) (σ : St) (ca : Nat) (cb : Nat), ((((nI L) - (nI 4)) < x3 → Q (nI 1) σ) ∧ (¬ ((nI L) - (nI 4)) < x3 → st' L x3 (fun j1 => (((xs j1) &&& (nI 31)) = nI 0 → st' L (x3 + (nI 1)) (fun j2 => st' L (x3 + (nI 2)) (fun j3 => nn o1 (fun q4 => P_X_take q4 (xs j2) (xs j3) σ (fun r6 σ5 => st' L (x3 + (nI 1)) (fun j7 => st' L (x3 + (nI 2)) (fun j8 => nn o2 (fun q9 => P_M_take q9 (xs j7) (xs j8) σ5 (fun r11 σ10 => (r6 = r11 → K856 o1 o2 x3 σ10 ca cb) ∧ (¬ r6 = r11 → Q (nI 0) σ10)))))))))) ∧ (¬ ((xs j1) &&& (nI 31)) = nI 0 → (((xs j1) &&& (nI 31)) = nI 1 → st' L (x3 + (nI 1)) (fun j12 => st' L (x3 + (nI 2)) (fun j13 => st' L (x3 + (nI 3)) (fun j14 => nn o1 (fun q15 => P_X_put q15 (xs j12) (xs j13) (xs j14) σ (fun r17 σ16 => st' L (x3 + (nI 1)) (fun j18 => st' L (x3 + (nI 2)) (fun j19 => st' L (x3 + (nI 3)) (fun j20 => nn o2 (fun q21 => P_M_put q21 (xs j18) (xs j19) (xs j20) σ16 (fun r23 σ22 => (r17 = r23 → K856 o1 o2 x3 σ22 ca cb) ∧ (¬ r17 = r23 → Q (nI 0) σ22)))))))))))) ∧ (¬ ((xs j1) &&& (nI 31)) = nI 1 → (((xs j1) &&& (nI 31)) = nI 2 → st' L (x3 + (nI 1)) (fun j24 => st' L (x3 + (nI 2)) (fun j25 => nn o1 (fun q26 => P_X_rename q26 (xs j24) (xs j25) σ (fun r28 σ27 => st' L (x3 + (nI 1)) (fun j29 => st' L (x3 + (nI 2)) (fun j30 => nn o2 (fun q31 => P_M_rename q31 (xs j29) (xs j30) σ27 (fun r33 σ32 => (r28 = r33 → K856 o1 o2 x3 σ32 ca cb) ∧ (¬ r28 = r33 → Q (nI 0) σ32)))))))))) ∧ (¬ ((xs j1) &&& (nI 31)) = nI 2 → (((xs j1) &&& (nI 31)) = nI 3 → nn o1 (fun q34 => P_X_mirror q34 σ (fun r36 σ35 => nn o2 (fun q37 => P_M_mirror q37 σ35 (fun r39 σ38 => (r36 = r39 → K856 o1 o2 x3 σ38 ca cb) ∧ (¬ r36 = r39 → Q (nI 0) σ38)))))) ∧ (¬ ((xs j1) &&& (nI 31)) = nI 3 → (((xs j1) &&& (nI 31)) = nI 4 → nn o1 (fun q40 => P_X_addLaws q40 σ (fun r42 σ41 => nn o2 (fun q43 => P_M_addLaws q43 σ41 (fun r45 σ44 => (r42 = r45 → K856 o1 o2 x3 σ44 ca cb) ∧ (¬ r42 = r45 → Q (nI 0) σ44)))))) ∧ (¬ ((xs j1) &&& (nI 31)) = nI 4 → (((xs j1) &&& (nI 31)) = nI 5 → st' L (x3 + (nI 1)) (fun j46 => nn o1 (fun q47 => P_X_removeLaw q47 (xs j46) σ (fun r49 σ48 => st' L (x3 + (nI 1)) (fun j50 => nn o2 (fun q51 => P_M_removeLaw q51 (xs j50) σ48 (fun r53 σ52 => (r49 = r53 → K856 o1 o2 x3 σ52 ca cb) ∧ (¬ r49 = r53 → Q (nI 0) σ52)))))))) ∧ (¬ ((xs j1) &&& (nI 31)) = nI 5 → (((xs j1) &&& (nI 31)) = nI 6 → st' L (x3 + (nI 1)) (fun j54 => st' L (x3 + (nI 2)) (fun j55 => ((xs j55) = 0 → nn o1 (fun q56 => P_X_turnLaw q56 (xs j54) (nI 0) σ (fun r58 σ57 => st' L (x3 + (nI 1)) (fun j59 => st' L (x3 + (nI 2)) (fun j60 => ((xs j60) = 0 → nn o2 (fun q61 => P_M_turnLaw q61 (xs j59) (nI 0) σ57 (fun r63 σ62 => (r58 = r63 → K856 o1 o2 x3 σ62 ca cb) ∧ (¬ r58 = r63 → Q (nI 0) σ62)))) ∧ (¬ (xs j60) = 0 → nn o2 (fun q64 => P_M_turnLaw q64 (xs j59) (nI 1) σ57 (fun r66 σ65 => (r58 = r66 → K856 o1 o2 x3 σ65 ca cb) ∧ (¬ r58 = r66 → Q (nI 0) σ65))))))))) ∧ (¬ (xs j55) = 0 → nn o1 (fun q67 => P_X_turnLaw q67 (xs j54) (nI 1) σ (fun r69 σ68 => st' L (x3 + (nI 1)) (fun j70 => st' L (x3 + (nI 2)) (fun j71 => ((xs j71) = 0 → nn o2 (fun q72 => P_M_turnLaw q72 (xs j70) (nI 0) σ68 (fun r74 σ73 => (r69 = r74 → K856 o1 o2 x3 σ73 ca cb) ∧ (¬ r69 = r74 → Q (nI 0) σ73)))) ∧ (¬ (xs j71) = 0 → nn o2 (fun q75 => P_M_turnLaw q75 (xs j70) (nI 1) σ68 (fun r77 σ76 => (r69 = r77 → K856 o1 o2 x3 σ76 ca cb) ∧ (¬ r69 = r77 → Q (nI 0) σ76)))))))))))) ∧ (¬ ((xs j1) &&& (nI 31)) = nI 6 → (((xs j1) &&& (nI 31)) = nI 7 → st' L (x3 + (nI 1)) (fun j78 => nn o1 (fun q79 => ∃ c80 d81, ca + c80 ≤ mc ∧ cb + d81 ≤ ms ∧ (P_X_refute q79 (xs j78) σ c80 d81 (fun r83 σ82 => st' L (x3 + (nI 1)) (fun j84 => nn o2 (fun q85 => P_M_refute q85 (xs j84) σ82 (fun r87 σ86 => (r83 = r87 → K856 o1 o2 x3 σ86 (ca + c80) (cb + d81)) ∧ (¬ r83 = r87 → Q (nI 0) σ86))))))))) ∧ (¬ ((xs j1) &&& (nI 31)) = nI 7 → (((xs j1) &&& (nI 31)) = nI 8 → st' L (x3 + (nI 1)) (fun j88 => nn o1 (fun q89 => P_X_type q89 (chr (xs j88)) σ (fun r91 σ90 => st' L (x3 + (nI 1)) (fun j92 => nn o2 (fun q93 => P_M_type q93 (chr (xs j92)) σ90 (fun r95 σ94 => (r91 = r95 → K856 o1 o2 x3 σ94 ca cb) ∧ (¬ r91 = r95 → Q (nI 0) σ94)))))))) ∧ (¬ ((xs j1) &&& (nI 31)) = nI 8 → (((xs j1) &&& (nI 31)) = nI 9 → nn o1 (fun q96 => P_X_clearText q96 σ (fun r98 σ97 => nn o2 (fun q99 => P_M_clearText q99 σ97 (fun r101 σ100 => (r98 = r101 → K856 o1 o2 x3 σ100 ca cb) ∧ (¬ r98 = r101 → Q (nI 0) σ100)))))) ∧ (¬ ((xs j1) &&& (nI 31)) = nI 9 → (((xs j1) &&& (nI 31)) = nI 10 → nn o1 (fun q102 => P_X_undo q102 σ (fun r104 σ103 => nn o2 (fun q105 => P_M_undo q105 σ103 (fun r107 σ106 => (r104 = r107 → K856 o1 o2 x3 σ106 ca cb) ∧ (¬ r104 = r107 → Q (nI 0) σ106)))))) ∧ (¬ ((xs j1) &&& (nI 31)) = nI 10 → (((xs j1) &&& (nI 31)) = nI 11 → nn o1 (fun q108 => P_X_keep q108 σ (fun r110 σ109 => nn o2 (fun q111 => P_M_keep q111 σ109 (fun r113 σ112 => (r110 = r113 → K856 o1 o2 x3 σ112 ca cb) ∧ (¬ r110 = r113 → Q (nI 0) σ112)))))) ∧ (¬ ((xs j1) &&& (nI 31)) = nI 11 → (((xs j1) &&& (nI 31)) = nI 12 → nn o1 (fun q114 => P_X_restore q114 σ (fun r116 σ115 => nn o2 (fun q117 => P_M_restore q117 σ115 (fun r119 σ118 => (r116 = r119 → K856 o1 o2 x3 σ118 ca cb) ∧ (¬ r116 = r119 → Q (nI 0) σ118)))))) ∧ (¬ ((xs j1) &&& (nI 31)) = nI 12 → (((xs j1) &&& (nI 31)) = nI 13 → st' L (x3 + (nI 1)) (fun j120 => st' L (x3 + (nI 2)) (fun j121 => nn o1 (fun q122 => P_X_of q122 (xs j120) (xs j121) σ (fun r124 σ123 => st' L (x3 + (nI 1)) (fun j125 => st' L (x3 + (nI 2)) (fun j126 => nn o2 (fun q127 => P_M_of q127 (xs j125) (xs j126) σ123 (fun r129 σ128 => (r124 = r129 → K856 o1 o2 x3 σ128 ca cb) ∧ (¬ r124 = r129 → Q (nI 0) σ128)))))))))) ∧ (¬ ((xs j1) &&& (nI 31)) = nI 13 → (((xs j1) &&& (nI 31)) = nI 14 → st' L (x3 + (nI 1)) (fun j130 => nn o1 (fun q131 => P_X_world q131 (xs j130) σ (fun r133 σ132 => st' L (x3 + (nI 1)) (fun j134 => nn o2 (fun q135 => P_M_world q135 (xs j134) σ132 (fun r137 σ136 => (r133 = r137 → K856 o1 o2 x3 σ136 ca cb) ∧ (¬ r133 = r137 → Q (nI 0) σ136)))))))) ∧ (¬ ((xs j1) &&& (nI 31)) = nI 14 → (((xs j1) &&& (nI 31)) = nI 15 → st' L (x3 + (nI 1)) (fun j138 => nn o1 (fun q139 => P_X_closed q139 (xs j138) σ (fun r141 σ140 => st' L (x3 + (nI 1)) (fun j142 => nn o2 (fun q143 => P_M_closed q143 (xs j142) σ140 (fun r145 σ144 => (r141 = r145 → K856 o1 o2 x3 σ144 ca cb) ∧ (¬ r141 = r145 → Q (nI 0) σ144)))))))) ∧ (¬ ((xs j1) &&& (nI 31)) = nI 15 → (((xs j1) &&& (nI 31)) = nI 16 → st' L (x3 + (nI 1)) (fun j146 => st' L (x3 + (nI 2)) (fun j147 => nn o1 (fun q148 => ∃ c149 d150, ca + c149 ≤ mc ∧ cb + d150 ≤ ms ∧ (P_X_law q148 (xs j146) (xs j147) σ c149 d150 (fun r152 σ151 => st' L (x3 + (nI 1)) (fun j153 => st' L (x3 + (nI 2)) (fun j154 => nn o2 (fun q155 => P_M_law q155 (xs j153) (xs j154) σ151 (fun r157 σ156 => (r152 = r157 → K856 o1 o2 x3 σ156 (ca + c149) (cb + d150)) ∧ (¬ r152 = r157 → Q (nI 0) σ156))))))))))) ∧ (¬ ((xs j1) &&& (nI 31)) = nI 16 → (((xs j1) &&& (nI 31)) = nI 17 → st' L (x3 + (nI 1)) (fun j158 => st' L (x3 + (nI 2)) (fun j159 => ((xs j159) = 0 → K582 o1 o2 x3 o1 (xs j158) (nI 0) σ ca cb) ∧ (¬ (xs j159) = 0 → K582 o1 o2 x3 o1 (xs j158) (nI 1) σ ca cb)))) ∧ (¬ ((xs j1) &&& (nI 31)) = nI 17 → (((xs j1) &&& (nI 31)) = nI 18 → st' L (x3 + (nI 1)) (fun j160 => st' L (x3 + (nI 2)) (fun j161 => st' L (x3 + (nI 3)) (fun j162 => nn o1 (fun q163 => ∃ c164 d165, ca + c164 ≤ mc ∧ cb + d165 ≤ ms ∧ (P_X_witness q163 (xs j160) (xs j161) (xs j162) σ c164 d165 (fun r167 σ166 => st' L (x3 + (nI 1)) (fun j168 => st' L (x3 + (nI 2)) (fun j169 => st' L (x3 + (nI 3)) (fun j170 => nn o2 (fun q171 => P_M_witness q171 (xs j168) (xs j169) (xs j170) σ166 (fun r173 σ172 => (r167 = r173 → K856 o1 o2 x3 σ172 (ca + c164) (cb + d165)) ∧ (¬ r167 = r173 → Q (nI 0) σ172))))))))))))) ∧ (¬ ((xs j1) &&& (nI 31)) = nI 18 → (((xs j1) &&& (nI 31)) = nI 19 → st' L (x3 + (nI 1)) (fun j174 => st' L (x3 + (nI 2)) (fun j175 => nn o1 (fun q176 => ∃ c177 d178, ca + c177 ≤ mc ∧ cb + d178 ≤ ms ∧ (P_X_model q176 (xs j174) (xs j175) σ c177 d178 (fun r180 σ179 => st' L (x3 + (nI 1)) (fun j181 => st' L (x3 + (nI 2)) (fun j182 => nn o2 (fun q183 => P_M_model q183 (xs j181) (xs j182) σ179 (fun r185 σ184 => (r180 = r185 → K856 o1 o2 x3 σ184 (ca + c177) (cb + d178)) ∧ (¬ r180 = r185 → Q (nI 0) σ184))))))))))) ∧ (¬ ((xs j1) &&& (nI 31)) = nI 19 → (((xs j1) &&& (nI 31)) = nI 20 → st' L (x3 + (nI 1)) (fun j186 => st' L (x3 + (nI 2)) (fun j187 => ((xs j187) = 0 → nn o1 (fun q188 => ∃ c189 d190, ca + c189 ≤ mc ∧ cb + d190 ≤ ms ∧ (P_X_models q188 (xs j186) (nI 0) σ c189 d190 (fun r192 σ191 => st' L (x3 + (nI 1)) (fun j193 => st' L (x3 + (nI 2)) (fun j194 => ((xs j194) = 0 → nn o2 (fun q195 => P_M_models q195 (xs j193) (nI 0) σ191 (fun r197 σ196 => (r192 = r197 → K856 o1 o2 x3 σ196 (ca + c189) (cb + d190)) ∧ (¬ r192 = r197 → Q (nI 0) σ196)))) ∧ (¬ (xs j194) = 0 → nn o2 (fun q198 => P_M_models q198 (xs j193) (nI 1) σ191 (fun r200 σ199 => (r192 = r200 → K856 o1 o2 x3 σ199 (ca + c189) (cb + d190)) ∧ (¬ r192 = r200 → Q (nI 0) σ199)))))))))) ∧ (¬ (xs j187) = 0 → nn o1 (fun q201 => ∃ c202 d203, ca + c202 ≤ mc ∧ cb + d203 ≤ ms ∧ (P_X_models q201 (xs j186) (nI 1) σ c202 d203 (fun r205 σ204 => st' L (x3 + (nI 1)) (fun j206 => st' L (x3 + (nI 2)) (fun j207 => ((xs j207) = 0 → nn o2 (fun q208 => P_M_models q208 (xs j206) (nI 0) σ204 (fun r210 σ209 => (r205 = r210 → K856 o1 o2 x3 σ209 (ca + c202) (cb + d203)) ∧ (¬ r205 = r210 → Q (nI 0) σ209)))) ∧ (¬ (xs j207) = 0 → nn o2 (fun q211 => P_M_models q211 (xs j206) (nI 1) σ204 (fun r213 σ212 => (r205 = r213 → K856 o1 o2 x3 σ212 (ca + c202) (cb + d203)) ∧ (¬ r205 = r213 → Q (nI 0) σ212))))))))))))) ∧ (¬ ((xs j1) &&& (nI 31)) = nI 20 → (((xs j1) &&& (nI 31)) = nI 21 → st' L (x3 + (nI 1)) (fun j214 => st' L (x3 + (nI 2)) (fun j215 => st' L (x3 + (nI 3)) (fun j216 => nn o1 (fun q217 => P_X_paired q217 (xs j214) (xs j215) (xs j216) σ (fun r219 σ218 => st' L (x3 + (nI 1)) (fun j220 => st' L (x3 + (nI 2)) (fun j221 => st' L (x3 + (nI 3)) (fun j222 => nn o2 (fun q223 => P_M_paired q223 (xs j220) (xs j221) (xs j222) σ218 (fun r225 σ224 => (r219 = r225 → K856 o1 o2 x3 σ224 ca cb) ∧ (¬ r219 = r225 → Q (nI 0) σ224)))))))))))) ∧ (¬ ((xs j1) &&& (nI 31)) = nI 21 → (((xs j1) &&& (nI 31)) = nI 22 → st' L (x3 + (nI 1)) (fun j226 => st' L (x3 + (nI 2)) (fun j227 => st' L (x3 + (nI 3)) (fun j228 => nn o1 (fun q229 => P_X_alike q229 (xs j226) (xs j227) (xs j228) σ (fun r231 σ230 => st' L (x3 + (nI 1)) (fun j232 => st' L (x3 + (nI 2)) (fun j233 => st' L (x3 + (nI 3)) (fun j234 => nn o2 (fun q235 => P_M_alike q235 (xs j232) (xs j233) (xs j234) σ230 (fun r237 σ236 => (r231 = r237 → K856 o1 o2 x3 σ236 ca cb) ∧ (¬ r231 = r237 → Q (nI 0) σ236)))))))))))) ∧ (¬ ((xs j1) &&& (nI 31)) = nI 22 → (((xs j1) &&& (nI 31)) = nI 23 → st' L (x3 + (nI 1)) (fun j238 => nn o1 (fun q239 => ∃ c240 d241, ca + c240 ≤ mc ∧ cb + d241 ≤ ms ∧ (P_X_count q239 (xs j238) σ c240 d241 (fun r243 σ242 => st' L (x3 + (nI 1)) (fun j244 => nn o2 (fun q245 => P_M_count q245 (xs j244) σ242 (fun r247 σ246 => (r243 = r247 → K856 o1 o2 x3 σ246 (ca + c240) (cb + d241)) ∧ (¬ r243 = r247 → Q (nI 0) σ246))))))))) ∧ (¬ ((xs j1) &&& (nI 31)) = nI 23 → K856 o1 o2 x3 σ ca cb))))))))))))))))))))))))))) → K18 o1 o2 x3 σ ca cb) →
    (∀ (o1 : Option Nat) (o2 : Option Nat) (x3 : Int32) (u0 : Option Nat) (y1 : Int32) (y2 : Int32) (σ : St) (ca : Nat) (cb : Nat), (st' L (x3 + (nI 3)) (fun j248 => nn u0 (fun q249 => P_X_side q249 y1 y2 (xs j248) σ (fun r251 σ250 => st' L (x3 + (nI 1)) (fun j252 => st' L (x3 + (nI 2)) (fun j253 => ((xs j253) = 0 → st' L (x3 + (nI 3)) (fun j254 => nn o2 (fun q255 => P_M_side q255 (xs j252) (nI 0) (xs j254) σ250 (fun r257 σ256 => (r251 = r257 → K856 o1 o2 x3 σ256 ca cb) ∧ (¬ r251 = r257 → Q (nI 0) σ256))))) ∧ (¬ (xs j253) = 0 → st' L (x3 + (nI 3)) (fun j258 => nn o2 (fun q259 => P_M_side q259 (xs j252) (nI 1) (xs j258) σ250 (fun r261 σ260 => (r251 = r261 → K856 o1 o2 x3 σ260 ca cb) ∧ (¬ r251 = r261 → Q (nI 0) σ260))))))))))) → K582 o1 o2 x3 u0 y1 y2 σ ca cb) →
    (∀ (o1 : Option Nat) (o2 : Option Nat) (x3 : Int32) (σ : St) (ca : Nat) (cb : Nat), (K18 o1 o2 (x3 + nI 4) σ ca cb) → K856 o1 o2 x3 σ ca cb) →
    (0 + 1 ≤ mc ∧ 0 + 8 ≤ ms ∧ nw σ (.inl 0) (fun q262 σ263 => ∃ c264 d265, 0 + 1 + c264 ≤ mc ∧ 0 + 8 + d265 ≤ ms ∧ (P_X_init q262 σ263 c264 d265 (fun σ266 => 0 + 1 + c264 + 1 ≤ mc ∧ 0 + 8 + d265 + 23 ≤ ms ∧ nw σ266 (.inl 9) (fun q267 σ268 => ∃ c269 d270, 0 + 1 + c264 + 1 + c269 ≤ mc ∧ 0 + 8 + d265 + 23 + d270 ≤ ms ∧ (P_M_init q267 σ268 c269 d270 (fun σ271 => K18 (some q262) (some q267) (nI 0) σ271 (0 + 1 + c264 + 1 + c269) (0 + 8 + d265 + 23 + d270))))))))
theorem lw_done {p : Program} {l : Launch} {e : Env} {s : State} {m : MethodId} {below : List Frame} {meth : Method} {c : Code} {b : Nat} {v : Int32} {locs : List Loc} {ca cb : Nat} (hx : p.tables.exec = Jvm.exec) (hb : c.code = code) (hr : meth.sig.returnType = ret) (hlocks : meth.locks = false) {pc : Nat} {H : Heap} {ls : Array Slot} (hv : v = 1) (hS : va_S (zA s.heap.size) s.heap H locs) (ha1 : ca ≤ 600000) (ha2 : cb ≤ 7302250) (hdg : decode code pc = .ok (.ireturn, 1)) : W p l e room_1 s m #[Value.ref b] below meth c H locs ca cb (lw_Z below #[Value.ref b] s) (F0 m pc ls [.int v]) := by
  subst hv
  refine va_forget (fun q hq => hS.2.2 q hq) ?_
  refine W.widen (k := 600000) (n := 7302250) ha1 ha2 ?_
  exact lw_ret hx hb hr hlocks hdg
set_option maxHeartbeats 8000000 in
set_option maxRecDepth 100000 in
theorem c_law {p : Program} {l : Launch} {e : Env} {s : State} {m : MethodId} {below : List Frame} {meth : Method} {c : Code} {b0 L : Nat} {xs : Nat → Int32} {D : va_G} (B : Nat) (eB : B = s.heap.size) (σ : St) (h : P_law L xs σ 600000 7302250 (fun r _ => r = 1)) (hx : p.tables.exec = Jvm.exec) (hb : c.code = code) (hml : c.maxLocals = 4) (hr : meth.sig.returnType = ret) (hlocks : meth.locks = false) (hC : zC D s m #[Value.ref b0] "LawWorldsLaw") (hwk : wk D B s) (hw : wh D B σ s s.heap) (hX : va_X b0 L xs s s.heap) (hbl : b0 < s.heap.size) : W p l e room_1 s m #[Value.ref b0] below meth c s.heap [] 0 0 (lw_Z below #[Value.ref b0] s) (entryFrame m ([Value.ref b0] : List Value).toArray 4) := by
  subst eB
  have hbA : ¬ zA s.heap.size b0 := Nat.not_le.mpr hbl
  have hS : va_S (zA s.heap.size) s.heap s.heap [] := va_S.rf
  have hl := lv_entry ([.ref b0]) (n := 4) (Nat.le_of_ble_eq_true rfl)
  rw [lg_entry_eq]
  generalize (lg_sl ([.ref b0]) ++ List.replicate (4 - (lg_sl ([.ref b0])).length) Slot.unset).toArray = ls at hl ⊢
  have hl : lv_has ls 4 [(0, .ref b0)] := hl
  obtain ⟨σ0, eσ⟩ : ∃ z, z = σ := ⟨_, rfl⟩
  obtain ⟨mc, emc⟩ : ∃ z, z = 600000 := ⟨_, rfl⟩
  obtain ⟨ms, ems⟩ : ∃ z, z = 7302250 := ⟨_, rfl⟩
  have hg : gr σ0 σ := by rw [eσ]; exact gr.rf
  have hB := h
  have ha1 : 0 ≤ 600000 := Nat.zero_le _
  have ha2 : 0 ≤ 7302250 := Nat.zero_le _
  obtain ⟨K18, hK18⟩ : ∃ K : Option Nat → Option Nat → Int32 → St → Nat → Nat → Prop, K = (fun (o1 : Option Nat) (o2 : Option Nat) (x3 : Int32) (σ : St) (ca : Nat) (cb : Nat) => ∀ (H : Heap) (locs : List Loc) (ls : Array Slot), gr σ0 σ → wh D s.heap.size σ s H → va_S (zA s.heap.size) s.heap H locs → lv_has ls 4 [(0, .ref b0), (1, va_rf o1), (2, va_rf o2), (3, .int x3)] → ca ≤ 600000 → cb ≤ 7302250 → W p l e room_1 s m #[Value.ref b0] below meth c H locs ca cb (lw_Z below #[Value.ref b0] s) (F0 m 18 ls [])) := ⟨_, rfl⟩
  obtain ⟨K582, hK582⟩ : ∃ K : Option Nat → Option Nat → Int32 → Option Nat → Int32 → Int32 → St → Nat → Nat → Prop, K = (fun (o1 : Option Nat) (o2 : Option Nat) (x3 : Int32) (u0 : Option Nat) (y1 : Int32) (y2 : Int32) (σ : St) (ca : Nat) (cb : Nat) => ∀ (H : Heap) (locs : List Loc) (ls : Array Slot), gr σ0 σ → wh D s.heap.size σ s H → va_S (zA s.heap.size) s.heap H locs → lv_has ls 4 [(0, .ref b0), (1, va_rf o1), (2, va_rf o2), (3, .int x3)] → ca ≤ 600000 → cb ≤ 7302250 → W p l e room_1 s m #[Value.ref b0] below meth c H locs ca cb (lw_Z below #[Value.ref b0] s) (F0 m 582 ls [.int y2, .int y1, va_rf u0])) := ⟨_, rfl⟩
  obtain ⟨K856, hK856⟩ : ∃ K : Option Nat → Option Nat → Int32 → St → Nat → Nat → Prop, K = (fun (o1 : Option Nat) (o2 : Option Nat) (x3 : Int32) (σ : St) (ca : Nat) (cb : Nat) => ∀ (H : Heap) (locs : List Loc) (ls : Array Slot), gr σ0 σ → wh D s.heap.size σ s H → va_S (zA s.heap.size) s.heap H locs → lv_has ls 4 [(0, .ref b0), (1, va_rf o1), (2, va_rf o2), (3, .int x3)] → ca ≤ 600000 → cb ≤ 7302250 → W p l e room_1 s m #[Value.ref b0] below meth c H locs ca cb (lw_Z below #[Value.ref b0] s) (F0 m 856 ls [])) := ⟨_, rfl⟩
  refine (fun hB => ?_) (hB K18 K582 K856 ?_ ?_ ?_)
  · skip
    obtain ⟨hc1, hc2, hB⟩ := hB
    obtain ⟨q262, eqq262⟩ : ∃ z, z = s_n σ := ⟨_, rfl⟩
    obtain ⟨σ263, eσ263⟩ : ∃ z, z = w_new σ (.inl 0) := ⟨_, rfl⟩
    have hB := hB q262 σ263 eqq262 eσ263
    have hgn := hw.gnew (.inl 0)
    refine zr_new (ci := 0) hx hb hC hwk.1 hw hS (by decide) kl_law_7 in_X mk_X_init.2.1 hc1 hc2 d_law_0 (fun H hw hS => ?_)
    rw [← eσ263] at hw hgn
    rw [← eqq262]
    have hg := hg.tr hgn
    have ha1 := hc1
    have ha2 := hc2
    refine lv_dup hx hb d_law_3 (va_rf_cat _) ?_
    obtain ⟨c264, d265, hc1, hc2, hB⟩ := hB
    refine zr_callI (As := []) (rest := [va_rf (some q262)]) hx hb hml hC hwk hw hS hl.1 (c_X_init l D s.heap.size q262 σ263 c264 d265 _ hB) mk_X_init mi_X_init rfl ml_law_9 ⟨Nat.le_of_ble_eq_true rfl, Nat.le_of_ble_eq_true rfl⟩ rfl rfl (cat_8 (cat_c (va_rf_cat _) cat_n) (Nat.le_of_ble_eq_true rfl)) d_law_4 ⟨hc1, hc2⟩ rfl (fun v σ266 H locs hp hgn hw hS => ?_)
    have hg := hg.tr hgn
    have ha1 := hc1
    have ha2 := hc2
    obtain ⟨rfl, hB⟩ := hp
    refine W.eq (g2 := F0 m 7 ls [va_rf (some q262)]) rfl ?_
    refine zr_astore_n (lv' := [(1, va_rf (some q262)), (0, .ref b0)]) hx hb d_law_7 rfl hl (by decide) rfl (fun ls hl => ?_)
    obtain ⟨hc1, hc2, hB⟩ := hB
    obtain ⟨q267, eqq267⟩ : ∃ z, z = s_n σ266 := ⟨_, rfl⟩
    obtain ⟨σ268, eσ268⟩ : ∃ z, z = w_new σ266 (.inl 9) := ⟨_, rfl⟩
    have hB := hB q267 σ268 eqq267 eσ268
    have hgn := hw.gnew (.inl 9)
    refine zr_new (ci := 9) hx hb hC hwk.1 hw hS (by decide) kl_law_10 in_M mk_M_init.2.1 hc1 hc2 d_law_8 (fun H hw hS => ?_)
    rw [← eσ268] at hw hgn
    rw [← eqq267]
    have hg := hg.tr hgn
    have ha1 := hc1
    have ha2 := hc2
    refine lv_dup hx hb d_law_11 (va_rf_cat _) ?_
    obtain ⟨c269, d270, hc1, hc2, hB⟩ := hB
    refine zr_callI (As := []) (rest := [va_rf (some q267)]) hx hb hml hC hwk hw hS hl.1 (c_M_init l D s.heap.size q267 σ268 c269 d270 _ hB) mk_M_init mi_M_init rfl ml_law_12 ⟨Nat.le_of_ble_eq_true rfl, Nat.le_of_ble_eq_true rfl⟩ rfl rfl (cat_8 (cat_c (va_rf_cat _) cat_n) (Nat.le_of_ble_eq_true rfl)) d_law_12 ⟨hc1, hc2⟩ rfl (fun v σ271 H locs hp hgn hw hS => ?_)
    have hg := hg.tr hgn
    have ha1 := hc1
    have ha2 := hc2
    obtain ⟨rfl, hB⟩ := hp
    refine W.eq (g2 := F0 m 15 ls [va_rf (some q267)]) rfl ?_
    refine zr_astore_n (lv' := [(2, va_rf (some q267)), (1, va_rf (some q262)), (0, .ref b0)]) hx hb d_law_15 rfl hl (by decide) rfl (fun ls hl => ?_)
    refine lv_iconst (v := nI 0) hx hb d_law_16 (by decide) ?_
    refine lv_istore_n (lv' := [(3, .int (nI 0)), (2, va_rf (some q267)), (1, va_rf (some q262)), (0, .ref b0)]) hx hb d_law_17 rfl hl (by decide) rfl (fun ls hl => ?_)
    rw [hK18] at hB
    exact hB _ _ _ hg hw hS (lv_sub hl [3, 2, 1, 0] rfl) ha1 ha2
  · intro o1 o2 x3 σ ca cb hB
    rw [hK18]
    intro H locs ls hg hw hS hl ha1 ha2
    refine lv_iload_n hx hb d_law_18 rfl (lv_at hl 3 rfl) ?_
    refine lv_aload_n hx hb d_law_19 rfl (lv_at hl 0 rfl) ?_
    refine va_slen hx hb hX hbl hbA hS d_law_20 ?_
    refine lv_iconst (v := nI 4) hx hb d_law_21 (by decide) ?_
    refine lv_isub hx hb d_law_22 ?_
    refine lv_icmp_gt (tgt := 862) hx hb d_law_23 (by decide) (fun cd => ?_) (fun cd => ?_)
    · have hB := hB.1 cd
      refine lv_iconst (v := nI 1) hx hb d_law_862 (by decide) ?_
      exact lw_done hx hb hr hlocks hB hS ha1 ha2 d_law_863
    · have hB := hB.2 cd
      refine lv_aload_n hx hb d_law_26 rfl (lv_at hl 0 rfl) ?_
      refine lv_iload_n hx hb d_law_27 rfl (lv_at hl 3 rfl) ?_
      obtain ⟨j1, hin, hj, hB⟩ := hB
      subst hj
      generalize hj1 : Int32.toNatClampNeg x3 = j1 at hB
      refine va_sld hx hb hX hbl hbA hS hin d_law_28 ?_
      rw [hj1]
      refine lv_bipush (v := nI 31) hx hb d_law_29 (by decide) ?_
      refine lv_iand hx hb d_law_31 ?_
      by_cases c0 : ((xs j1) &&& (nI 31)) = nI 0
      · have hB := hB.1 c0
        refine lv_tableIn (tgt := 144) (off := 112) hx hb d_law_32 (by rw [c0]; decide) (by rw [c0]; decide) (by rw [c0]; decide) (by decide) ?_
        refine zr_aload_n (o := o1) hx hb d_law_144 rfl (lv_at hl 1 rfl) ?_
        refine lv_aload_n hx hb d_law_145 rfl (lv_at hl 0 rfl) ?_
        refine lv_iload_n hx hb d_law_146 rfl (lv_at hl 3 rfl) ?_
        refine lv_iconst (v := nI 1) hx hb d_law_147 (by decide) ?_
        refine lv_iadd hx hb d_law_148 ?_
        obtain ⟨j2, hin, hj, hB⟩ := hB
        subst hj
        generalize hj2 : Int32.toNatClampNeg (x3 + (nI 1)) = j2 at hB
        refine va_sld hx hb hX hbl hbA hS hin d_law_149 ?_
        rw [hj2]
        refine lv_aload_n hx hb d_law_150 rfl (lv_at hl 0 rfl) ?_
        refine lv_iload_n hx hb d_law_151 rfl (lv_at hl 3 rfl) ?_
        refine lv_iconst (v := nI 2) hx hb d_law_152 (by decide) ?_
        refine lv_iadd hx hb d_law_153 ?_
        obtain ⟨j3, hin, hj, hB⟩ := hB
        subst hj
        generalize hj3 : Int32.toNatClampNeg (x3 + (nI 2)) = j3 at hB
        refine va_sld hx hb hX hbl hbA hS hin d_law_154 ?_
        rw [hj3]
        obtain ⟨q4, ho4, hB⟩ := hB
        have hsr := And.left hB
        refine zr_callV (ci := 0) (As := [.int (xs j2), .int (xs j3)]) (rest := []) hx hb hml hC hwk hw hS hl.1 (c_X_take l D s.heap.size q4 (xs j2) (xs j3) σ _ hB) mk_X_take mi_X_take ms_X_take ml_law_13 ⟨Nat.le_of_ble_eq_true rfl, Nat.le_of_ble_eq_true rfl⟩ ho4 hsr rfl (cat_8 cat_n (Nat.le_of_ble_eq_true rfl)) d_law_155 ⟨ha1, ha2⟩ rfl (fun v σ5 H locs hp hgn hw hS => ?_)
        have hg := hg.tr hgn
        obtain ⟨r6, rfl, hB⟩ := hp
        refine W.eq (g2 := F0 m 158 ls [.int r6]) rfl ?_
        refine zr_aload_n (o := o2) hx hb d_law_158 rfl (lv_at hl 2 rfl) ?_
        refine lv_aload_n hx hb d_law_159 rfl (lv_at hl 0 rfl) ?_
        refine lv_iload_n hx hb d_law_160 rfl (lv_at hl 3 rfl) ?_
        refine lv_iconst (v := nI 1) hx hb d_law_161 (by decide) ?_
        refine lv_iadd hx hb d_law_162 ?_
        obtain ⟨j7, hin, hj, hB⟩ := hB
        subst hj
        generalize hj7 : Int32.toNatClampNeg (x3 + (nI 1)) = j7 at hB
        refine va_sld hx hb hX hbl hbA hS hin d_law_163 ?_
        rw [hj7]
        refine lv_aload_n hx hb d_law_164 rfl (lv_at hl 0 rfl) ?_
        refine lv_iload_n hx hb d_law_165 rfl (lv_at hl 3 rfl) ?_
        refine lv_iconst (v := nI 2) hx hb d_law_166 (by decide) ?_
        refine lv_iadd hx hb d_law_167 ?_
        obtain ⟨j8, hin, hj, hB⟩ := hB
        subst hj
        generalize hj8 : Int32.toNatClampNeg (x3 + (nI 2)) = j8 at hB
        refine va_sld hx hb hX hbl hbA hS hin d_law_168 ?_
        rw [hj8]
        obtain ⟨q9, ho9, hB⟩ := hB
        have hsr := And.left hB
        refine zr_callV (ci := 9) (As := [.int (xs j7), .int (xs j8)]) (rest := [.int r6]) hx hb hml hC hwk hw hS hl.1 (c_M_take l D s.heap.size q9 (xs j7) (xs j8) σ5 _ hB) mk_M_take mi_M_take ms_M_take ml_law_17 ⟨Nat.le_of_ble_eq_true rfl, Nat.le_of_ble_eq_true rfl⟩ ho9 hsr rfl (cat_8 (cat_c rfl cat_n) (Nat.le_of_ble_eq_true rfl)) d_law_169 ⟨ha1, ha2⟩ rfl (fun v σ10 H locs hp hgn hw hS => ?_)
        have hg := hg.tr hgn
        obtain ⟨r11, rfl, hB⟩ := hp
        refine W.eq (g2 := F0 m 172 ls [.int r11, .int r6]) rfl ?_
        refine lv_icmp_eq (tgt := 856) hx hb d_law_172 (by decide) (fun cd => ?_) (fun cd => ?_)
        · have hB := hB.1 cd
          rw [hK856] at hB
          exact hB _ _ _ hg hw hS (lv_sub hl [0, 1, 2, 3] rfl) ha1 ha2
        · have hB := hB.2 cd
          refine lv_iconst (v := nI 0) hx hb d_law_175 (by decide) ?_
          exact lw_done hx hb hr hlocks hB hS ha1 ha2 d_law_176
      · have hB := hB.2 c0
        by_cases c1 : ((xs j1) &&& (nI 31)) = nI 1
        · have hB := hB.1 c1
          refine lv_tableIn (tgt := 177) (off := 145) hx hb d_law_32 (by rw [c1]; decide) (by rw [c1]; decide) (by rw [c1]; decide) (by decide) ?_
          refine zr_aload_n (o := o1) hx hb d_law_177 rfl (lv_at hl 1 rfl) ?_
          refine lv_aload_n hx hb d_law_178 rfl (lv_at hl 0 rfl) ?_
          refine lv_iload_n hx hb d_law_179 rfl (lv_at hl 3 rfl) ?_
          refine lv_iconst (v := nI 1) hx hb d_law_180 (by decide) ?_
          refine lv_iadd hx hb d_law_181 ?_
          obtain ⟨j12, hin, hj, hB⟩ := hB
          subst hj
          generalize hj12 : Int32.toNatClampNeg (x3 + (nI 1)) = j12 at hB
          refine va_sld hx hb hX hbl hbA hS hin d_law_182 ?_
          rw [hj12]
          refine lv_aload_n hx hb d_law_183 rfl (lv_at hl 0 rfl) ?_
          refine lv_iload_n hx hb d_law_184 rfl (lv_at hl 3 rfl) ?_
          refine lv_iconst (v := nI 2) hx hb d_law_185 (by decide) ?_
          refine lv_iadd hx hb d_law_186 ?_
          obtain ⟨j13, hin, hj, hB⟩ := hB
          subst hj
          generalize hj13 : Int32.toNatClampNeg (x3 + (nI 2)) = j13 at hB
          refine va_sld hx hb hX hbl hbA hS hin d_law_187 ?_
          rw [hj13]
          refine lv_aload_n hx hb d_law_188 rfl (lv_at hl 0 rfl) ?_
          refine lv_iload_n hx hb d_law_189 rfl (lv_at hl 3 rfl) ?_
          refine lv_iconst (v := nI 3) hx hb d_law_190 (by decide) ?_
          refine lv_iadd hx hb d_law_191 ?_
          obtain ⟨j14, hin, hj, hB⟩ := hB
          subst hj
          generalize hj14 : Int32.toNatClampNeg (x3 + (nI 3)) = j14 at hB
          refine va_sld hx hb hX hbl hbA hS hin d_law_192 ?_
          rw [hj14]
          obtain ⟨q15, ho15, hB⟩ := hB
          have hsr := And.left hB
          refine zr_callV (ci := 0) (As := [.int (xs j12), .int (xs j13), .int (xs j14)]) (rest := []) hx hb hml hC hwk hw hS hl.1 (c_X_put l D s.heap.size q15 (xs j12) (xs j13) (xs j14) σ _ hB) mk_X_put mi_X_put ms_X_put ml_law_18 ⟨Nat.le_of_ble_eq_true rfl, Nat.le_of_ble_eq_true rfl⟩ ho15 hsr rfl (cat_8 cat_n (Nat.le_of_ble_eq_true rfl)) d_law_193 ⟨ha1, ha2⟩ rfl (fun v σ16 H locs hp hgn hw hS => ?_)
          have hg := hg.tr hgn
          obtain ⟨r17, rfl, hB⟩ := hp
          refine W.eq (g2 := F0 m 196 ls [.int r17]) rfl ?_
          refine zr_aload_n (o := o2) hx hb d_law_196 rfl (lv_at hl 2 rfl) ?_
          refine lv_aload_n hx hb d_law_197 rfl (lv_at hl 0 rfl) ?_
          refine lv_iload_n hx hb d_law_198 rfl (lv_at hl 3 rfl) ?_
          refine lv_iconst (v := nI 1) hx hb d_law_199 (by decide) ?_
          refine lv_iadd hx hb d_law_200 ?_
          obtain ⟨j18, hin, hj, hB⟩ := hB
          subst hj
          generalize hj18 : Int32.toNatClampNeg (x3 + (nI 1)) = j18 at hB
          refine va_sld hx hb hX hbl hbA hS hin d_law_201 ?_
          rw [hj18]
          refine lv_aload_n hx hb d_law_202 rfl (lv_at hl 0 rfl) ?_
          refine lv_iload_n hx hb d_law_203 rfl (lv_at hl 3 rfl) ?_
          refine lv_iconst (v := nI 2) hx hb d_law_204 (by decide) ?_
          refine lv_iadd hx hb d_law_205 ?_
          obtain ⟨j19, hin, hj, hB⟩ := hB
          subst hj
          generalize hj19 : Int32.toNatClampNeg (x3 + (nI 2)) = j19 at hB
          refine va_sld hx hb hX hbl hbA hS hin d_law_206 ?_
          rw [hj19]
          refine lv_aload_n hx hb d_law_207 rfl (lv_at hl 0 rfl) ?_
          refine lv_iload_n hx hb d_law_208 rfl (lv_at hl 3 rfl) ?_
          refine lv_iconst (v := nI 3) hx hb d_law_209 (by decide) ?_
          refine lv_iadd hx hb d_law_210 ?_
          obtain ⟨j20, hin, hj, hB⟩ := hB
          subst hj
          generalize hj20 : Int32.toNatClampNeg (x3 + (nI 3)) = j20 at hB
          refine va_sld hx hb hX hbl hbA hS hin d_law_211 ?_
          rw [hj20]
          obtain ⟨q21, ho21, hB⟩ := hB
          have hsr := And.left hB
          refine zr_callV (ci := 9) (As := [.int (xs j18), .int (xs j19), .int (xs j20)]) (rest := [.int r17]) hx hb hml hC hwk hw hS hl.1 (c_M_put l D s.heap.size q21 (xs j18) (xs j19) (xs j20) σ16 _ hB) mk_M_put mi_M_put ms_M_put ml_law_22 ⟨Nat.le_of_ble_eq_true rfl, Nat.le_of_ble_eq_true rfl⟩ ho21 hsr rfl (cat_8 (cat_c rfl cat_n) (Nat.le_of_ble_eq_true rfl)) d_law_212 ⟨ha1, ha2⟩ rfl (fun v σ22 H locs hp hgn hw hS => ?_)
          have hg := hg.tr hgn
          obtain ⟨r23, rfl, hB⟩ := hp
          refine W.eq (g2 := F0 m 215 ls [.int r23, .int r17]) rfl ?_
          refine lv_icmp_eq (tgt := 856) hx hb d_law_215 (by decide) (fun cd => ?_) (fun cd => ?_)
          · have hB := hB.1 cd
            rw [hK856] at hB
            exact hB _ _ _ hg hw hS (lv_sub hl [0, 1, 2, 3] rfl) ha1 ha2
          · have hB := hB.2 cd
            refine lv_iconst (v := nI 0) hx hb d_law_218 (by decide) ?_
            exact lw_done hx hb hr hlocks hB hS ha1 ha2 d_law_219
        · have hB := hB.2 c1
          by_cases c2 : ((xs j1) &&& (nI 31)) = nI 2
          · have hB := hB.1 c2
            refine lv_tableIn (tgt := 220) (off := 188) hx hb d_law_32 (by rw [c2]; decide) (by rw [c2]; decide) (by rw [c2]; decide) (by decide) ?_
            refine zr_aload_n (o := o1) hx hb d_law_220 rfl (lv_at hl 1 rfl) ?_
            refine lv_aload_n hx hb d_law_221 rfl (lv_at hl 0 rfl) ?_
            refine lv_iload_n hx hb d_law_222 rfl (lv_at hl 3 rfl) ?_
            refine lv_iconst (v := nI 1) hx hb d_law_223 (by decide) ?_
            refine lv_iadd hx hb d_law_224 ?_
            obtain ⟨j24, hin, hj, hB⟩ := hB
            subst hj
            generalize hj24 : Int32.toNatClampNeg (x3 + (nI 1)) = j24 at hB
            refine va_sld hx hb hX hbl hbA hS hin d_law_225 ?_
            rw [hj24]
            refine lv_aload_n hx hb d_law_226 rfl (lv_at hl 0 rfl) ?_
            refine lv_iload_n hx hb d_law_227 rfl (lv_at hl 3 rfl) ?_
            refine lv_iconst (v := nI 2) hx hb d_law_228 (by decide) ?_
            refine lv_iadd hx hb d_law_229 ?_
            obtain ⟨j25, hin, hj, hB⟩ := hB
            subst hj
            generalize hj25 : Int32.toNatClampNeg (x3 + (nI 2)) = j25 at hB
            refine va_sld hx hb hX hbl hbA hS hin d_law_230 ?_
            rw [hj25]
            obtain ⟨q26, ho26, hB⟩ := hB
            have hsr := And.left hB
            refine zr_callV (ci := 0) (As := [.int (xs j24), .int (xs j25)]) (rest := []) hx hb hml hC hwk hw hS hl.1 (c_X_rename l D s.heap.size q26 (xs j24) (xs j25) σ _ hB) mk_X_rename mi_X_rename ms_X_rename ml_law_23 ⟨Nat.le_of_ble_eq_true rfl, Nat.le_of_ble_eq_true rfl⟩ ho26 hsr rfl (cat_8 cat_n (Nat.le_of_ble_eq_true rfl)) d_law_231 ⟨ha1, ha2⟩ rfl (fun v σ27 H locs hp hgn hw hS => ?_)
            have hg := hg.tr hgn
            obtain ⟨r28, rfl, hB⟩ := hp
            refine W.eq (g2 := F0 m 234 ls [.int r28]) rfl ?_
            refine zr_aload_n (o := o2) hx hb d_law_234 rfl (lv_at hl 2 rfl) ?_
            refine lv_aload_n hx hb d_law_235 rfl (lv_at hl 0 rfl) ?_
            refine lv_iload_n hx hb d_law_236 rfl (lv_at hl 3 rfl) ?_
            refine lv_iconst (v := nI 1) hx hb d_law_237 (by decide) ?_
            refine lv_iadd hx hb d_law_238 ?_
            obtain ⟨j29, hin, hj, hB⟩ := hB
            subst hj
            generalize hj29 : Int32.toNatClampNeg (x3 + (nI 1)) = j29 at hB
            refine va_sld hx hb hX hbl hbA hS hin d_law_239 ?_
            rw [hj29]
            refine lv_aload_n hx hb d_law_240 rfl (lv_at hl 0 rfl) ?_
            refine lv_iload_n hx hb d_law_241 rfl (lv_at hl 3 rfl) ?_
            refine lv_iconst (v := nI 2) hx hb d_law_242 (by decide) ?_
            refine lv_iadd hx hb d_law_243 ?_
            obtain ⟨j30, hin, hj, hB⟩ := hB
            subst hj
            generalize hj30 : Int32.toNatClampNeg (x3 + (nI 2)) = j30 at hB
            refine va_sld hx hb hX hbl hbA hS hin d_law_244 ?_
            rw [hj30]
            obtain ⟨q31, ho31, hB⟩ := hB
            have hsr := And.left hB
            refine zr_callV (ci := 9) (As := [.int (xs j29), .int (xs j30)]) (rest := [.int r28]) hx hb hml hC hwk hw hS hl.1 (c_M_rename l D s.heap.size q31 (xs j29) (xs j30) σ27 _ hB) mk_M_rename mi_M_rename ms_M_rename ml_law_26 ⟨Nat.le_of_ble_eq_true rfl, Nat.le_of_ble_eq_true rfl⟩ ho31 hsr rfl (cat_8 (cat_c rfl cat_n) (Nat.le_of_ble_eq_true rfl)) d_law_245 ⟨ha1, ha2⟩ rfl (fun v σ32 H locs hp hgn hw hS => ?_)
            have hg := hg.tr hgn
            obtain ⟨r33, rfl, hB⟩ := hp
            refine W.eq (g2 := F0 m 248 ls [.int r33, .int r28]) rfl ?_
            refine lv_icmp_eq (tgt := 856) hx hb d_law_248 (by decide) (fun cd => ?_) (fun cd => ?_)
            · have hB := hB.1 cd
              rw [hK856] at hB
              exact hB _ _ _ hg hw hS (lv_sub hl [0, 1, 2, 3] rfl) ha1 ha2
            · have hB := hB.2 cd
              refine lv_iconst (v := nI 0) hx hb d_law_251 (by decide) ?_
              exact lw_done hx hb hr hlocks hB hS ha1 ha2 d_law_252
          · have hB := hB.2 c2
            by_cases c3 : ((xs j1) &&& (nI 31)) = nI 3
            · have hB := hB.1 c3
              refine lv_tableIn (tgt := 253) (off := 221) hx hb d_law_32 (by rw [c3]; decide) (by rw [c3]; decide) (by rw [c3]; decide) (by decide) ?_
              refine zr_aload_n (o := o1) hx hb d_law_253 rfl (lv_at hl 1 rfl) ?_
              obtain ⟨q34, ho34, hB⟩ := hB
              have hsr := And.left hB
              refine zr_callV (ci := 0) (As := []) (rest := []) hx hb hml hC hwk hw hS hl.1 (c_X_mirror l D s.heap.size q34 σ _ hB) mk_X_mirror mi_X_mirror ms_X_mirror ml_law_27 ⟨Nat.le_of_ble_eq_true rfl, Nat.le_of_ble_eq_true rfl⟩ ho34 hsr rfl (cat_8 cat_n (Nat.le_of_ble_eq_true rfl)) d_law_254 ⟨ha1, ha2⟩ rfl (fun v σ35 H locs hp hgn hw hS => ?_)
              have hg := hg.tr hgn
              obtain ⟨r36, rfl, hB⟩ := hp
              refine W.eq (g2 := F0 m 257 ls [.int r36]) rfl ?_
              refine zr_aload_n (o := o2) hx hb d_law_257 rfl (lv_at hl 2 rfl) ?_
              obtain ⟨q37, ho37, hB⟩ := hB
              have hsr := And.left hB
              refine zr_callV (ci := 9) (As := []) (rest := [.int r36]) hx hb hml hC hwk hw hS hl.1 (c_M_mirror l D s.heap.size q37 σ35 _ hB) mk_M_mirror mi_M_mirror ms_M_mirror ml_law_31 ⟨Nat.le_of_ble_eq_true rfl, Nat.le_of_ble_eq_true rfl⟩ ho37 hsr rfl (cat_8 (cat_c rfl cat_n) (Nat.le_of_ble_eq_true rfl)) d_law_258 ⟨ha1, ha2⟩ rfl (fun v σ38 H locs hp hgn hw hS => ?_)
              have hg := hg.tr hgn
              obtain ⟨r39, rfl, hB⟩ := hp
              refine W.eq (g2 := F0 m 261 ls [.int r39, .int r36]) rfl ?_
              refine lv_icmp_eq (tgt := 856) hx hb d_law_261 (by decide) (fun cd => ?_) (fun cd => ?_)
              · have hB := hB.1 cd
                rw [hK856] at hB
                exact hB _ _ _ hg hw hS (lv_sub hl [0, 1, 2, 3] rfl) ha1 ha2
              · have hB := hB.2 cd
                refine lv_iconst (v := nI 0) hx hb d_law_264 (by decide) ?_
                exact lw_done hx hb hr hlocks hB hS ha1 ha2 d_law_265
            · have hB := hB.2 c3
              by_cases c4 : ((xs j1) &&& (nI 31)) = nI 4
              · have hB := hB.1 c4
                refine lv_tableIn (tgt := 266) (off := 234) hx hb d_law_32 (by rw [c4]; decide) (by rw [c4]; decide) (by rw [c4]; decide) (by decide) ?_
                refine zr_aload_n (o := o1) hx hb d_law_266 rfl (lv_at hl 1 rfl) ?_
                obtain ⟨q40, ho40, hB⟩ := hB
                have hsr := And.left hB
                refine zr_callV (ci := 0) (As := []) (rest := []) hx hb hml hC hwk hw hS hl.1 (c_X_addLaws l D s.heap.size q40 σ _ hB) mk_X_addLaws mi_X_addLaws ms_X_addLaws ml_law_32 ⟨Nat.le_of_ble_eq_true rfl, Nat.le_of_ble_eq_true rfl⟩ ho40 hsr rfl (cat_8 cat_n (Nat.le_of_ble_eq_true rfl)) d_law_267 ⟨ha1, ha2⟩ rfl (fun v σ41 H locs hp hgn hw hS => ?_)
                have hg := hg.tr hgn
                obtain ⟨r42, rfl, hB⟩ := hp
                refine W.eq (g2 := F0 m 270 ls [.int r42]) rfl ?_
                refine zr_aload_n (o := o2) hx hb d_law_270 rfl (lv_at hl 2 rfl) ?_
                obtain ⟨q43, ho43, hB⟩ := hB
                have hsr := And.left hB
                refine zr_callV (ci := 9) (As := []) (rest := [.int r42]) hx hb hml hC hwk hw hS hl.1 (c_M_addLaws l D s.heap.size q43 σ41 _ hB) mk_M_addLaws mi_M_addLaws ms_M_addLaws ml_law_35 ⟨Nat.le_of_ble_eq_true rfl, Nat.le_of_ble_eq_true rfl⟩ ho43 hsr rfl (cat_8 (cat_c rfl cat_n) (Nat.le_of_ble_eq_true rfl)) d_law_271 ⟨ha1, ha2⟩ rfl (fun v σ44 H locs hp hgn hw hS => ?_)
                have hg := hg.tr hgn
                obtain ⟨r45, rfl, hB⟩ := hp
                refine W.eq (g2 := F0 m 274 ls [.int r45, .int r42]) rfl ?_
                refine lv_icmp_eq (tgt := 856) hx hb d_law_274 (by decide) (fun cd => ?_) (fun cd => ?_)
                · have hB := hB.1 cd
                  rw [hK856] at hB
                  exact hB _ _ _ hg hw hS (lv_sub hl [0, 1, 2, 3] rfl) ha1 ha2
                · have hB := hB.2 cd
                  refine lv_iconst (v := nI 0) hx hb d_law_277 (by decide) ?_
                  exact lw_done hx hb hr hlocks hB hS ha1 ha2 d_law_278
              · have hB := hB.2 c4
                by_cases c5 : ((xs j1) &&& (nI 31)) = nI 5
                · have hB := hB.1 c5
                  refine lv_tableIn (tgt := 279) (off := 247) hx hb d_law_32 (by rw [c5]; decide) (by rw [c5]; decide) (by rw [c5]; decide) (by decide) ?_
                  refine zr_aload_n (o := o1) hx hb d_law_279 rfl (lv_at hl 1 rfl) ?_
                  refine lv_aload_n hx hb d_law_280 rfl (lv_at hl 0 rfl) ?_
                  refine lv_iload_n hx hb d_law_281 rfl (lv_at hl 3 rfl) ?_
                  refine lv_iconst (v := nI 1) hx hb d_law_282 (by decide) ?_
                  refine lv_iadd hx hb d_law_283 ?_
                  obtain ⟨j46, hin, hj, hB⟩ := hB
                  subst hj
                  generalize hj46 : Int32.toNatClampNeg (x3 + (nI 1)) = j46 at hB
                  refine va_sld hx hb hX hbl hbA hS hin d_law_284 ?_
                  rw [hj46]
                  obtain ⟨q47, ho47, hB⟩ := hB
                  have hsr := And.left hB
                  refine zr_callV (ci := 0) (As := [.int (xs j46)]) (rest := []) hx hb hml hC hwk hw hS hl.1 (c_X_removeLaw l D s.heap.size q47 (xs j46) σ _ hB) mk_X_removeLaw mi_X_removeLaw ms_X_removeLaw ml_law_36 ⟨Nat.le_of_ble_eq_true rfl, Nat.le_of_ble_eq_true rfl⟩ ho47 hsr rfl (cat_8 cat_n (Nat.le_of_ble_eq_true rfl)) d_law_285 ⟨ha1, ha2⟩ rfl (fun v σ48 H locs hp hgn hw hS => ?_)
                  have hg := hg.tr hgn
                  obtain ⟨r49, rfl, hB⟩ := hp
                  refine W.eq (g2 := F0 m 288 ls [.int r49]) rfl ?_
                  refine zr_aload_n (o := o2) hx hb d_law_288 rfl (lv_at hl 2 rfl) ?_
                  refine lv_aload_n hx hb d_law_289 rfl (lv_at hl 0 rfl) ?_
                  refine lv_iload_n hx hb d_law_290 rfl (lv_at hl 3 rfl) ?_
                  refine lv_iconst (v := nI 1) hx hb d_law_291 (by decide) ?_
                  refine lv_iadd hx hb d_law_292 ?_
                  obtain ⟨j50, hin, hj, hB⟩ := hB
                  subst hj
                  generalize hj50 : Int32.toNatClampNeg (x3 + (nI 1)) = j50 at hB
                  refine va_sld hx hb hX hbl hbA hS hin d_law_293 ?_
                  rw [hj50]
                  obtain ⟨q51, ho51, hB⟩ := hB
                  have hsr := And.left hB
                  refine zr_callV (ci := 9) (As := [.int (xs j50)]) (rest := [.int r49]) hx hb hml hC hwk hw hS hl.1 (c_M_removeLaw l D s.heap.size q51 (xs j50) σ48 _ hB) mk_M_removeLaw mi_M_removeLaw ms_M_removeLaw ml_law_40 ⟨Nat.le_of_ble_eq_true rfl, Nat.le_of_ble_eq_true rfl⟩ ho51 hsr rfl (cat_8 (cat_c rfl cat_n) (Nat.le_of_ble_eq_true rfl)) d_law_294 ⟨ha1, ha2⟩ rfl (fun v σ52 H locs hp hgn hw hS => ?_)
                  have hg := hg.tr hgn
                  obtain ⟨r53, rfl, hB⟩ := hp
                  refine W.eq (g2 := F0 m 297 ls [.int r53, .int r49]) rfl ?_
                  refine lv_icmp_eq (tgt := 856) hx hb d_law_297 (by decide) (fun cd => ?_) (fun cd => ?_)
                  · have hB := hB.1 cd
                    rw [hK856] at hB
                    exact hB _ _ _ hg hw hS (lv_sub hl [0, 1, 2, 3] rfl) ha1 ha2
                  · have hB := hB.2 cd
                    refine lv_iconst (v := nI 0) hx hb d_law_300 (by decide) ?_
                    exact lw_done hx hb hr hlocks hB hS ha1 ha2 d_law_301
                · have hB := hB.2 c5
                  by_cases c6 : ((xs j1) &&& (nI 31)) = nI 6
                  · have hB := hB.1 c6
                    refine lv_tableIn (tgt := 302) (off := 270) hx hb d_law_32 (by rw [c6]; decide) (by rw [c6]; decide) (by rw [c6]; decide) (by decide) ?_
                    refine zr_aload_n (o := o1) hx hb d_law_302 rfl (lv_at hl 1 rfl) ?_
                    refine lv_aload_n hx hb d_law_303 rfl (lv_at hl 0 rfl) ?_
                    refine lv_iload_n hx hb d_law_304 rfl (lv_at hl 3 rfl) ?_
                    refine lv_iconst (v := nI 1) hx hb d_law_305 (by decide) ?_
                    refine lv_iadd hx hb d_law_306 ?_
                    obtain ⟨j54, hin, hj, hB⟩ := hB
                    subst hj
                    generalize hj54 : Int32.toNatClampNeg (x3 + (nI 1)) = j54 at hB
                    refine va_sld hx hb hX hbl hbA hS hin d_law_307 ?_
                    rw [hj54]
                    refine lv_aload_n hx hb d_law_308 rfl (lv_at hl 0 rfl) ?_
                    refine lv_iload_n hx hb d_law_309 rfl (lv_at hl 3 rfl) ?_
                    refine lv_iconst (v := nI 2) hx hb d_law_310 (by decide) ?_
                    refine lv_iadd hx hb d_law_311 ?_
                    obtain ⟨j55, hin, hj, hB⟩ := hB
                    subst hj
                    generalize hj55 : Int32.toNatClampNeg (x3 + (nI 2)) = j55 at hB
                    refine va_sld hx hb hX hbl hbA hS hin d_law_312 ?_
                    rw [hj55]
                    refine lv_if_eq (tgt := 320) hx hb d_law_313 (by decide) (fun cd => ?_) (fun cd => ?_)
                    · have hB := hB.1 cd
                      refine lv_iconst (v := nI 0) hx hb d_law_320 (by decide) ?_
                      obtain ⟨q56, ho56, hB⟩ := hB
                      have hsr := And.left hB
                      refine zr_callV (ci := 0) (As := [.int (xs j54), .int (nI 0)]) (rest := []) hx hb hml hC hwk hw hS hl.1 (c_X_turnLaw l D s.heap.size q56 (xs j54) (nI 0) σ _ hB) mk_X_turnLaw mi_X_turnLaw ms_X_turnLaw ml_law_41 ⟨Nat.le_of_ble_eq_true rfl, Nat.le_of_ble_eq_true rfl⟩ ho56 hsr rfl (cat_8 cat_n (Nat.le_of_ble_eq_true rfl)) d_law_321 ⟨ha1, ha2⟩ rfl (fun v σ57 H locs hp hgn hw hS => ?_)
                      have hg := hg.tr hgn
                      obtain ⟨r58, rfl, hB⟩ := hp
                      refine W.eq (g2 := F0 m 324 ls [.int r58]) rfl ?_
                      refine zr_aload_n (o := o2) hx hb d_law_324 rfl (lv_at hl 2 rfl) ?_
                      refine lv_aload_n hx hb d_law_325 rfl (lv_at hl 0 rfl) ?_
                      refine lv_iload_n hx hb d_law_326 rfl (lv_at hl 3 rfl) ?_
                      refine lv_iconst (v := nI 1) hx hb d_law_327 (by decide) ?_
                      refine lv_iadd hx hb d_law_328 ?_
                      obtain ⟨j59, hin, hj, hB⟩ := hB
                      subst hj
                      generalize hj59 : Int32.toNatClampNeg (x3 + (nI 1)) = j59 at hB
                      refine va_sld hx hb hX hbl hbA hS hin d_law_329 ?_
                      rw [hj59]
                      refine lv_aload_n hx hb d_law_330 rfl (lv_at hl 0 rfl) ?_
                      refine lv_iload_n hx hb d_law_331 rfl (lv_at hl 3 rfl) ?_
                      refine lv_iconst (v := nI 2) hx hb d_law_332 (by decide) ?_
                      refine lv_iadd hx hb d_law_333 ?_
                      obtain ⟨j60, hin, hj, hB⟩ := hB
                      subst hj
                      generalize hj60 : Int32.toNatClampNeg (x3 + (nI 2)) = j60 at hB
                      refine va_sld hx hb hX hbl hbA hS hin d_law_334 ?_
                      rw [hj60]
                      refine lv_if_eq (tgt := 342) hx hb d_law_335 (by decide) (fun cd => ?_) (fun cd => ?_)
                      · have hB := hB.1 cd
                        refine lv_iconst (v := nI 0) hx hb d_law_342 (by decide) ?_
                        obtain ⟨q61, ho61, hB⟩ := hB
                        have hsr := And.left hB
                        refine zr_callV (ci := 9) (As := [.int (xs j59), .int (nI 0)]) (rest := [.int r58]) hx hb hml hC hwk hw hS hl.1 (c_M_turnLaw l D s.heap.size q61 (xs j59) (nI 0) σ57 _ hB) mk_M_turnLaw mi_M_turnLaw ms_M_turnLaw ml_law_45 ⟨Nat.le_of_ble_eq_true rfl, Nat.le_of_ble_eq_true rfl⟩ ho61 hsr rfl (cat_8 (cat_c rfl cat_n) (Nat.le_of_ble_eq_true rfl)) d_law_343 ⟨ha1, ha2⟩ rfl (fun v σ62 H locs hp hgn hw hS => ?_)
                        have hg := hg.tr hgn
                        obtain ⟨r63, rfl, hB⟩ := hp
                        refine W.eq (g2 := F0 m 346 ls [.int r63, .int r58]) rfl ?_
                        refine lv_icmp_eq (tgt := 856) hx hb d_law_346 (by decide) (fun cd => ?_) (fun cd => ?_)
                        · have hB := hB.1 cd
                          rw [hK856] at hB
                          exact hB _ _ _ hg hw hS (lv_sub hl [0, 1, 2, 3] rfl) ha1 ha2
                        · have hB := hB.2 cd
                          refine lv_iconst (v := nI 0) hx hb d_law_349 (by decide) ?_
                          exact lw_done hx hb hr hlocks hB hS ha1 ha2 d_law_350
                      · have hB := hB.2 cd
                        refine lv_iconst (v := nI 1) hx hb d_law_338 (by decide) ?_
                        refine lv_goto (tgt := 343) hx hb d_law_339 (by decide) ?_
                        obtain ⟨q64, ho64, hB⟩ := hB
                        have hsr := And.left hB
                        refine zr_callV (ci := 9) (As := [.int (xs j59), .int (nI 1)]) (rest := [.int r58]) hx hb hml hC hwk hw hS hl.1 (c_M_turnLaw l D s.heap.size q64 (xs j59) (nI 1) σ57 _ hB) mk_M_turnLaw mi_M_turnLaw ms_M_turnLaw ml_law_45 ⟨Nat.le_of_ble_eq_true rfl, Nat.le_of_ble_eq_true rfl⟩ ho64 hsr rfl (cat_8 (cat_c rfl cat_n) (Nat.le_of_ble_eq_true rfl)) d_law_343 ⟨ha1, ha2⟩ rfl (fun v σ65 H locs hp hgn hw hS => ?_)
                        have hg := hg.tr hgn
                        obtain ⟨r66, rfl, hB⟩ := hp
                        refine W.eq (g2 := F0 m 346 ls [.int r66, .int r58]) rfl ?_
                        refine lv_icmp_eq (tgt := 856) hx hb d_law_346 (by decide) (fun cd => ?_) (fun cd => ?_)
                        · have hB := hB.1 cd
                          rw [hK856] at hB
                          exact hB _ _ _ hg hw hS (lv_sub hl [0, 1, 2, 3] rfl) ha1 ha2
                        · have hB := hB.2 cd
                          refine lv_iconst (v := nI 0) hx hb d_law_349 (by decide) ?_
                          exact lw_done hx hb hr hlocks hB hS ha1 ha2 d_law_350
                    · have hB := hB.2 cd
                      refine lv_iconst (v := nI 1) hx hb d_law_316 (by decide) ?_
                      refine lv_goto (tgt := 321) hx hb d_law_317 (by decide) ?_
                      obtain ⟨q67, ho67, hB⟩ := hB
                      have hsr := And.left hB
                      refine zr_callV (ci := 0) (As := [.int (xs j54), .int (nI 1)]) (rest := []) hx hb hml hC hwk hw hS hl.1 (c_X_turnLaw l D s.heap.size q67 (xs j54) (nI 1) σ _ hB) mk_X_turnLaw mi_X_turnLaw ms_X_turnLaw ml_law_41 ⟨Nat.le_of_ble_eq_true rfl, Nat.le_of_ble_eq_true rfl⟩ ho67 hsr rfl (cat_8 cat_n (Nat.le_of_ble_eq_true rfl)) d_law_321 ⟨ha1, ha2⟩ rfl (fun v σ68 H locs hp hgn hw hS => ?_)
                      have hg := hg.tr hgn
                      obtain ⟨r69, rfl, hB⟩ := hp
                      refine W.eq (g2 := F0 m 324 ls [.int r69]) rfl ?_
                      refine zr_aload_n (o := o2) hx hb d_law_324 rfl (lv_at hl 2 rfl) ?_
                      refine lv_aload_n hx hb d_law_325 rfl (lv_at hl 0 rfl) ?_
                      refine lv_iload_n hx hb d_law_326 rfl (lv_at hl 3 rfl) ?_
                      refine lv_iconst (v := nI 1) hx hb d_law_327 (by decide) ?_
                      refine lv_iadd hx hb d_law_328 ?_
                      obtain ⟨j70, hin, hj, hB⟩ := hB
                      subst hj
                      generalize hj70 : Int32.toNatClampNeg (x3 + (nI 1)) = j70 at hB
                      refine va_sld hx hb hX hbl hbA hS hin d_law_329 ?_
                      rw [hj70]
                      refine lv_aload_n hx hb d_law_330 rfl (lv_at hl 0 rfl) ?_
                      refine lv_iload_n hx hb d_law_331 rfl (lv_at hl 3 rfl) ?_
                      refine lv_iconst (v := nI 2) hx hb d_law_332 (by decide) ?_
                      refine lv_iadd hx hb d_law_333 ?_
                      obtain ⟨j71, hin, hj, hB⟩ := hB
                      subst hj
                      generalize hj71 : Int32.toNatClampNeg (x3 + (nI 2)) = j71 at hB
                      refine va_sld hx hb hX hbl hbA hS hin d_law_334 ?_
                      rw [hj71]
                      refine lv_if_eq (tgt := 342) hx hb d_law_335 (by decide) (fun cd => ?_) (fun cd => ?_)
                      · have hB := hB.1 cd
                        refine lv_iconst (v := nI 0) hx hb d_law_342 (by decide) ?_
                        obtain ⟨q72, ho72, hB⟩ := hB
                        have hsr := And.left hB
                        refine zr_callV (ci := 9) (As := [.int (xs j70), .int (nI 0)]) (rest := [.int r69]) hx hb hml hC hwk hw hS hl.1 (c_M_turnLaw l D s.heap.size q72 (xs j70) (nI 0) σ68 _ hB) mk_M_turnLaw mi_M_turnLaw ms_M_turnLaw ml_law_45 ⟨Nat.le_of_ble_eq_true rfl, Nat.le_of_ble_eq_true rfl⟩ ho72 hsr rfl (cat_8 (cat_c rfl cat_n) (Nat.le_of_ble_eq_true rfl)) d_law_343 ⟨ha1, ha2⟩ rfl (fun v σ73 H locs hp hgn hw hS => ?_)
                        have hg := hg.tr hgn
                        obtain ⟨r74, rfl, hB⟩ := hp
                        refine W.eq (g2 := F0 m 346 ls [.int r74, .int r69]) rfl ?_
                        refine lv_icmp_eq (tgt := 856) hx hb d_law_346 (by decide) (fun cd => ?_) (fun cd => ?_)
                        · have hB := hB.1 cd
                          rw [hK856] at hB
                          exact hB _ _ _ hg hw hS (lv_sub hl [0, 1, 2, 3] rfl) ha1 ha2
                        · have hB := hB.2 cd
                          refine lv_iconst (v := nI 0) hx hb d_law_349 (by decide) ?_
                          exact lw_done hx hb hr hlocks hB hS ha1 ha2 d_law_350
                      · have hB := hB.2 cd
                        refine lv_iconst (v := nI 1) hx hb d_law_338 (by decide) ?_
                        refine lv_goto (tgt := 343) hx hb d_law_339 (by decide) ?_
                        obtain ⟨q75, ho75, hB⟩ := hB
                        have hsr := And.left hB
                        refine zr_callV (ci := 9) (As := [.int (xs j70), .int (nI 1)]) (rest := [.int r69]) hx hb hml hC hwk hw hS hl.1 (c_M_turnLaw l D s.heap.size q75 (xs j70) (nI 1) σ68 _ hB) mk_M_turnLaw mi_M_turnLaw ms_M_turnLaw ml_law_45 ⟨Nat.le_of_ble_eq_true rfl, Nat.le_of_ble_eq_true rfl⟩ ho75 hsr rfl (cat_8 (cat_c rfl cat_n) (Nat.le_of_ble_eq_true rfl)) d_law_343 ⟨ha1, ha2⟩ rfl (fun v σ76 H locs hp hgn hw hS => ?_)
                        have hg := hg.tr hgn
                        obtain ⟨r77, rfl, hB⟩ := hp
                        refine W.eq (g2 := F0 m 346 ls [.int r77, .int r69]) rfl ?_
                        refine lv_icmp_eq (tgt := 856) hx hb d_law_346 (by decide) (fun cd => ?_) (fun cd => ?_)
                        · have hB := hB.1 cd
                          rw [hK856] at hB
                          exact hB _ _ _ hg hw hS (lv_sub hl [0, 1, 2, 3] rfl) ha1 ha2
                        · have hB := hB.2 cd
                          refine lv_iconst (v := nI 0) hx hb d_law_349 (by decide) ?_
                          exact lw_done hx hb hr hlocks hB hS ha1 ha2 d_law_350
                  · have hB := hB.2 c6
                    by_cases c7 : ((xs j1) &&& (nI 31)) = nI 7
                    · have hB := hB.1 c7
                      refine lv_tableIn (tgt := 351) (off := 319) hx hb d_law_32 (by rw [c7]; decide) (by rw [c7]; decide) (by rw [c7]; decide) (by decide) ?_
                      refine zr_aload_n (o := o1) hx hb d_law_351 rfl (lv_at hl 1 rfl) ?_
                      refine lv_aload_n hx hb d_law_352 rfl (lv_at hl 0 rfl) ?_
                      refine lv_iload_n hx hb d_law_353 rfl (lv_at hl 3 rfl) ?_
                      refine lv_iconst (v := nI 1) hx hb d_law_354 (by decide) ?_
                      refine lv_iadd hx hb d_law_355 ?_
                      obtain ⟨j78, hin, hj, hB⟩ := hB
                      subst hj
                      generalize hj78 : Int32.toNatClampNeg (x3 + (nI 1)) = j78 at hB
                      refine va_sld hx hb hX hbl hbA hS hin d_law_356 ?_
                      rw [hj78]
                      obtain ⟨q79, ho79, hB⟩ := hB
                      obtain ⟨c80, d81, hc1, hc2, hB⟩ := hB
                      have hsr := And.left hB
                      refine zr_callV (ci := 0) (As := [.int (xs j78)]) (rest := []) hx hb hml hC hwk hw hS hl.1 (c_X_refute l D s.heap.size q79 (xs j78) σ c80 d81 _ hB) mk_X_refute mi_X_refute ms_X_refute ml_law_46 ⟨Nat.le_of_ble_eq_true rfl, Nat.le_of_ble_eq_true rfl⟩ ho79 hsr rfl (cat_8 cat_n (Nat.le_of_ble_eq_true rfl)) d_law_357 ⟨hc1, hc2⟩ rfl (fun v σ82 H locs hp hgn hw hS => ?_)
                      have hg := hg.tr hgn
                      have ha1 := hc1
                      have ha2 := hc2
                      obtain ⟨r83, rfl, hB⟩ := hp
                      refine W.eq (g2 := F0 m 360 ls [.int r83]) rfl ?_
                      refine zr_aload_n (o := o2) hx hb d_law_360 rfl (lv_at hl 2 rfl) ?_
                      refine lv_aload_n hx hb d_law_361 rfl (lv_at hl 0 rfl) ?_
                      refine lv_iload_n hx hb d_law_362 rfl (lv_at hl 3 rfl) ?_
                      refine lv_iconst (v := nI 1) hx hb d_law_363 (by decide) ?_
                      refine lv_iadd hx hb d_law_364 ?_
                      obtain ⟨j84, hin, hj, hB⟩ := hB
                      subst hj
                      generalize hj84 : Int32.toNatClampNeg (x3 + (nI 1)) = j84 at hB
                      refine va_sld hx hb hX hbl hbA hS hin d_law_365 ?_
                      rw [hj84]
                      obtain ⟨q85, ho85, hB⟩ := hB
                      have hsr := And.left hB
                      refine zr_callV (ci := 9) (As := [.int (xs j84)]) (rest := [.int r83]) hx hb hml hC hwk hw hS hl.1 (c_M_refute l D s.heap.size q85 (xs j84) σ82 _ hB) mk_M_refute mi_M_refute ms_M_refute ml_law_49 ⟨Nat.le_of_ble_eq_true rfl, Nat.le_of_ble_eq_true rfl⟩ ho85 hsr rfl (cat_8 (cat_c rfl cat_n) (Nat.le_of_ble_eq_true rfl)) d_law_366 ⟨ha1, ha2⟩ rfl (fun v σ86 H locs hp hgn hw hS => ?_)
                      have hg := hg.tr hgn
                      obtain ⟨r87, rfl, hB⟩ := hp
                      refine W.eq (g2 := F0 m 369 ls [.int r87, .int r83]) rfl ?_
                      refine lv_icmp_eq (tgt := 856) hx hb d_law_369 (by decide) (fun cd => ?_) (fun cd => ?_)
                      · have hB := hB.1 cd
                        rw [hK856] at hB
                        exact hB _ _ _ hg hw hS (lv_sub hl [0, 1, 2, 3] rfl) ha1 ha2
                      · have hB := hB.2 cd
                        refine lv_iconst (v := nI 0) hx hb d_law_372 (by decide) ?_
                        exact lw_done hx hb hr hlocks hB hS ha1 ha2 d_law_373
                    · have hB := hB.2 c7
                      by_cases c8 : ((xs j1) &&& (nI 31)) = nI 8
                      · have hB := hB.1 c8
                        refine lv_tableIn (tgt := 374) (off := 342) hx hb d_law_32 (by rw [c8]; decide) (by rw [c8]; decide) (by rw [c8]; decide) (by decide) ?_
                        refine zr_aload_n (o := o1) hx hb d_law_374 rfl (lv_at hl 1 rfl) ?_
                        refine lv_aload_n hx hb d_law_375 rfl (lv_at hl 0 rfl) ?_
                        refine lv_iload_n hx hb d_law_376 rfl (lv_at hl 3 rfl) ?_
                        refine lv_iconst (v := nI 1) hx hb d_law_377 (by decide) ?_
                        refine lv_iadd hx hb d_law_378 ?_
                        obtain ⟨j88, hin, hj, hB⟩ := hB
                        subst hj
                        generalize hj88 : Int32.toNatClampNeg (x3 + (nI 1)) = j88 at hB
                        refine va_sld hx hb hX hbl hbA hS hin d_law_379 ?_
                        rw [hj88]
                        refine lv_i2c (v := chr (xs j88)) hx hb d_law_380 rfl ?_
                        obtain ⟨q89, ho89, hB⟩ := hB
                        have hsr := And.left hB
                        refine zr_callV (ci := 0) (As := [.int (chr (xs j88))]) (rest := []) hx hb hml hC hwk hw hS hl.1 (c_X_type l D s.heap.size q89 (chr (xs j88)) σ _ hB) mk_X_type mi_X_type ms_X_type ml_law_50 ⟨Nat.le_of_ble_eq_true rfl, Nat.le_of_ble_eq_true rfl⟩ ho89 hsr rfl (cat_8 cat_n (Nat.le_of_ble_eq_true rfl)) d_law_381 ⟨ha1, ha2⟩ rfl (fun v σ90 H locs hp hgn hw hS => ?_)
                        have hg := hg.tr hgn
                        obtain ⟨r91, rfl, hB⟩ := hp
                        refine W.eq (g2 := F0 m 384 ls [.int r91]) rfl ?_
                        refine zr_aload_n (o := o2) hx hb d_law_384 rfl (lv_at hl 2 rfl) ?_
                        refine lv_aload_n hx hb d_law_385 rfl (lv_at hl 0 rfl) ?_
                        refine lv_iload_n hx hb d_law_386 rfl (lv_at hl 3 rfl) ?_
                        refine lv_iconst (v := nI 1) hx hb d_law_387 (by decide) ?_
                        refine lv_iadd hx hb d_law_388 ?_
                        obtain ⟨j92, hin, hj, hB⟩ := hB
                        subst hj
                        generalize hj92 : Int32.toNatClampNeg (x3 + (nI 1)) = j92 at hB
                        refine va_sld hx hb hX hbl hbA hS hin d_law_389 ?_
                        rw [hj92]
                        refine lv_i2c (v := chr (xs j92)) hx hb d_law_390 rfl ?_
                        obtain ⟨q93, ho93, hB⟩ := hB
                        have hsr := And.left hB
                        refine zr_callV (ci := 9) (As := [.int (chr (xs j92))]) (rest := [.int r91]) hx hb hml hC hwk hw hS hl.1 (c_M_type l D s.heap.size q93 (chr (xs j92)) σ90 _ hB) mk_M_type mi_M_type ms_M_type ml_law_54 ⟨Nat.le_of_ble_eq_true rfl, Nat.le_of_ble_eq_true rfl⟩ ho93 hsr rfl (cat_8 (cat_c rfl cat_n) (Nat.le_of_ble_eq_true rfl)) d_law_391 ⟨ha1, ha2⟩ rfl (fun v σ94 H locs hp hgn hw hS => ?_)
                        have hg := hg.tr hgn
                        obtain ⟨r95, rfl, hB⟩ := hp
                        refine W.eq (g2 := F0 m 394 ls [.int r95, .int r91]) rfl ?_
                        refine lv_icmp_eq (tgt := 856) hx hb d_law_394 (by decide) (fun cd => ?_) (fun cd => ?_)
                        · have hB := hB.1 cd
                          rw [hK856] at hB
                          exact hB _ _ _ hg hw hS (lv_sub hl [0, 1, 2, 3] rfl) ha1 ha2
                        · have hB := hB.2 cd
                          refine lv_iconst (v := nI 0) hx hb d_law_397 (by decide) ?_
                          exact lw_done hx hb hr hlocks hB hS ha1 ha2 d_law_398
                      · have hB := hB.2 c8
                        by_cases c9 : ((xs j1) &&& (nI 31)) = nI 9
                        · have hB := hB.1 c9
                          refine lv_tableIn (tgt := 399) (off := 367) hx hb d_law_32 (by rw [c9]; decide) (by rw [c9]; decide) (by rw [c9]; decide) (by decide) ?_
                          refine zr_aload_n (o := o1) hx hb d_law_399 rfl (lv_at hl 1 rfl) ?_
                          obtain ⟨q96, ho96, hB⟩ := hB
                          have hsr := And.left hB
                          refine zr_callV (ci := 0) (As := []) (rest := []) hx hb hml hC hwk hw hS hl.1 (c_X_clearText l D s.heap.size q96 σ _ hB) mk_X_clearText mi_X_clearText ms_X_clearText ml_law_55 ⟨Nat.le_of_ble_eq_true rfl, Nat.le_of_ble_eq_true rfl⟩ ho96 hsr rfl (cat_8 cat_n (Nat.le_of_ble_eq_true rfl)) d_law_400 ⟨ha1, ha2⟩ rfl (fun v σ97 H locs hp hgn hw hS => ?_)
                          have hg := hg.tr hgn
                          obtain ⟨r98, rfl, hB⟩ := hp
                          refine W.eq (g2 := F0 m 403 ls [.int r98]) rfl ?_
                          refine zr_aload_n (o := o2) hx hb d_law_403 rfl (lv_at hl 2 rfl) ?_
                          obtain ⟨q99, ho99, hB⟩ := hB
                          have hsr := And.left hB
                          refine zr_callV (ci := 9) (As := []) (rest := [.int r98]) hx hb hml hC hwk hw hS hl.1 (c_M_clearText l D s.heap.size q99 σ97 _ hB) mk_M_clearText mi_M_clearText ms_M_clearText ml_law_58 ⟨Nat.le_of_ble_eq_true rfl, Nat.le_of_ble_eq_true rfl⟩ ho99 hsr rfl (cat_8 (cat_c rfl cat_n) (Nat.le_of_ble_eq_true rfl)) d_law_404 ⟨ha1, ha2⟩ rfl (fun v σ100 H locs hp hgn hw hS => ?_)
                          have hg := hg.tr hgn
                          obtain ⟨r101, rfl, hB⟩ := hp
                          refine W.eq (g2 := F0 m 407 ls [.int r101, .int r98]) rfl ?_
                          refine lv_icmp_eq (tgt := 856) hx hb d_law_407 (by decide) (fun cd => ?_) (fun cd => ?_)
                          · have hB := hB.1 cd
                            rw [hK856] at hB
                            exact hB _ _ _ hg hw hS (lv_sub hl [0, 1, 2, 3] rfl) ha1 ha2
                          · have hB := hB.2 cd
                            refine lv_iconst (v := nI 0) hx hb d_law_410 (by decide) ?_
                            exact lw_done hx hb hr hlocks hB hS ha1 ha2 d_law_411
                        · have hB := hB.2 c9
                          by_cases c10 : ((xs j1) &&& (nI 31)) = nI 10
                          · have hB := hB.1 c10
                            refine lv_tableIn (tgt := 412) (off := 380) hx hb d_law_32 (by rw [c10]; decide) (by rw [c10]; decide) (by rw [c10]; decide) (by decide) ?_
                            refine zr_aload_n (o := o1) hx hb d_law_412 rfl (lv_at hl 1 rfl) ?_
                            obtain ⟨q102, ho102, hB⟩ := hB
                            have hsr := And.left hB
                            refine zr_callV (ci := 0) (As := []) (rest := []) hx hb hml hC hwk hw hS hl.1 (c_X_undo l D s.heap.size q102 σ _ hB) mk_X_undo mi_X_undo ms_X_undo ml_law_59 ⟨Nat.le_of_ble_eq_true rfl, Nat.le_of_ble_eq_true rfl⟩ ho102 hsr rfl (cat_8 cat_n (Nat.le_of_ble_eq_true rfl)) d_law_413 ⟨ha1, ha2⟩ rfl (fun v σ103 H locs hp hgn hw hS => ?_)
                            have hg := hg.tr hgn
                            obtain ⟨r104, rfl, hB⟩ := hp
                            refine W.eq (g2 := F0 m 416 ls [.int r104]) rfl ?_
                            refine zr_aload_n (o := o2) hx hb d_law_416 rfl (lv_at hl 2 rfl) ?_
                            obtain ⟨q105, ho105, hB⟩ := hB
                            have hsr := And.left hB
                            refine zr_callV (ci := 9) (As := []) (rest := [.int r104]) hx hb hml hC hwk hw hS hl.1 (c_M_undo l D s.heap.size q105 σ103 _ hB) mk_M_undo mi_M_undo ms_M_undo ml_law_62 ⟨Nat.le_of_ble_eq_true rfl, Nat.le_of_ble_eq_true rfl⟩ ho105 hsr rfl (cat_8 (cat_c rfl cat_n) (Nat.le_of_ble_eq_true rfl)) d_law_417 ⟨ha1, ha2⟩ rfl (fun v σ106 H locs hp hgn hw hS => ?_)
                            have hg := hg.tr hgn
                            obtain ⟨r107, rfl, hB⟩ := hp
                            refine W.eq (g2 := F0 m 420 ls [.int r107, .int r104]) rfl ?_
                            refine lv_icmp_eq (tgt := 856) hx hb d_law_420 (by decide) (fun cd => ?_) (fun cd => ?_)
                            · have hB := hB.1 cd
                              rw [hK856] at hB
                              exact hB _ _ _ hg hw hS (lv_sub hl [0, 1, 2, 3] rfl) ha1 ha2
                            · have hB := hB.2 cd
                              refine lv_iconst (v := nI 0) hx hb d_law_423 (by decide) ?_
                              exact lw_done hx hb hr hlocks hB hS ha1 ha2 d_law_424
                          · have hB := hB.2 c10
                            by_cases c11 : ((xs j1) &&& (nI 31)) = nI 11
                            · have hB := hB.1 c11
                              refine lv_tableIn (tgt := 425) (off := 393) hx hb d_law_32 (by rw [c11]; decide) (by rw [c11]; decide) (by rw [c11]; decide) (by decide) ?_
                              refine zr_aload_n (o := o1) hx hb d_law_425 rfl (lv_at hl 1 rfl) ?_
                              obtain ⟨q108, ho108, hB⟩ := hB
                              have hsr := And.left hB
                              refine zr_callV (ci := 0) (As := []) (rest := []) hx hb hml hC hwk hw hS hl.1 (c_X_keep l D s.heap.size q108 σ _ hB) mk_X_keep mi_X_keep ms_X_keep ml_law_63 ⟨Nat.le_of_ble_eq_true rfl, Nat.le_of_ble_eq_true rfl⟩ ho108 hsr rfl (cat_8 cat_n (Nat.le_of_ble_eq_true rfl)) d_law_426 ⟨ha1, ha2⟩ rfl (fun v σ109 H locs hp hgn hw hS => ?_)
                              have hg := hg.tr hgn
                              obtain ⟨r110, rfl, hB⟩ := hp
                              refine W.eq (g2 := F0 m 429 ls [.int r110]) rfl ?_
                              refine zr_aload_n (o := o2) hx hb d_law_429 rfl (lv_at hl 2 rfl) ?_
                              obtain ⟨q111, ho111, hB⟩ := hB
                              have hsr := And.left hB
                              refine zr_callV (ci := 9) (As := []) (rest := [.int r110]) hx hb hml hC hwk hw hS hl.1 (c_M_keep l D s.heap.size q111 σ109 _ hB) mk_M_keep mi_M_keep ms_M_keep ml_law_66 ⟨Nat.le_of_ble_eq_true rfl, Nat.le_of_ble_eq_true rfl⟩ ho111 hsr rfl (cat_8 (cat_c rfl cat_n) (Nat.le_of_ble_eq_true rfl)) d_law_430 ⟨ha1, ha2⟩ rfl (fun v σ112 H locs hp hgn hw hS => ?_)
                              have hg := hg.tr hgn
                              obtain ⟨r113, rfl, hB⟩ := hp
                              refine W.eq (g2 := F0 m 433 ls [.int r113, .int r110]) rfl ?_
                              refine lv_icmp_eq (tgt := 856) hx hb d_law_433 (by decide) (fun cd => ?_) (fun cd => ?_)
                              · have hB := hB.1 cd
                                rw [hK856] at hB
                                exact hB _ _ _ hg hw hS (lv_sub hl [0, 1, 2, 3] rfl) ha1 ha2
                              · have hB := hB.2 cd
                                refine lv_iconst (v := nI 0) hx hb d_law_436 (by decide) ?_
                                exact lw_done hx hb hr hlocks hB hS ha1 ha2 d_law_437
                            · have hB := hB.2 c11
                              by_cases c12 : ((xs j1) &&& (nI 31)) = nI 12
                              · have hB := hB.1 c12
                                refine lv_tableIn (tgt := 438) (off := 406) hx hb d_law_32 (by rw [c12]; decide) (by rw [c12]; decide) (by rw [c12]; decide) (by decide) ?_
                                refine zr_aload_n (o := o1) hx hb d_law_438 rfl (lv_at hl 1 rfl) ?_
                                obtain ⟨q114, ho114, hB⟩ := hB
                                have hsr := And.left hB
                                refine zr_callV (ci := 0) (As := []) (rest := []) hx hb hml hC hwk hw hS hl.1 (c_X_restore l D s.heap.size q114 σ _ hB) mk_X_restore mi_X_restore ms_X_restore ml_law_67 ⟨Nat.le_of_ble_eq_true rfl, Nat.le_of_ble_eq_true rfl⟩ ho114 hsr rfl (cat_8 cat_n (Nat.le_of_ble_eq_true rfl)) d_law_439 ⟨ha1, ha2⟩ rfl (fun v σ115 H locs hp hgn hw hS => ?_)
                                have hg := hg.tr hgn
                                obtain ⟨r116, rfl, hB⟩ := hp
                                refine W.eq (g2 := F0 m 442 ls [.int r116]) rfl ?_
                                refine zr_aload_n (o := o2) hx hb d_law_442 rfl (lv_at hl 2 rfl) ?_
                                obtain ⟨q117, ho117, hB⟩ := hB
                                have hsr := And.left hB
                                refine zr_callV (ci := 9) (As := []) (rest := [.int r116]) hx hb hml hC hwk hw hS hl.1 (c_M_restore l D s.heap.size q117 σ115 _ hB) mk_M_restore mi_M_restore ms_M_restore ml_law_70 ⟨Nat.le_of_ble_eq_true rfl, Nat.le_of_ble_eq_true rfl⟩ ho117 hsr rfl (cat_8 (cat_c rfl cat_n) (Nat.le_of_ble_eq_true rfl)) d_law_443 ⟨ha1, ha2⟩ rfl (fun v σ118 H locs hp hgn hw hS => ?_)
                                have hg := hg.tr hgn
                                obtain ⟨r119, rfl, hB⟩ := hp
                                refine W.eq (g2 := F0 m 446 ls [.int r119, .int r116]) rfl ?_
                                refine lv_icmp_eq (tgt := 856) hx hb d_law_446 (by decide) (fun cd => ?_) (fun cd => ?_)
                                · have hB := hB.1 cd
                                  rw [hK856] at hB
                                  exact hB _ _ _ hg hw hS (lv_sub hl [0, 1, 2, 3] rfl) ha1 ha2
                                · have hB := hB.2 cd
                                  refine lv_iconst (v := nI 0) hx hb d_law_449 (by decide) ?_
                                  exact lw_done hx hb hr hlocks hB hS ha1 ha2 d_law_450
                              · have hB := hB.2 c12
                                by_cases c13 : ((xs j1) &&& (nI 31)) = nI 13
                                · have hB := hB.1 c13
                                  refine lv_tableIn (tgt := 451) (off := 419) hx hb d_law_32 (by rw [c13]; decide) (by rw [c13]; decide) (by rw [c13]; decide) (by decide) ?_
                                  refine zr_aload_n (o := o1) hx hb d_law_451 rfl (lv_at hl 1 rfl) ?_
                                  refine lv_aload_n hx hb d_law_452 rfl (lv_at hl 0 rfl) ?_
                                  refine lv_iload_n hx hb d_law_453 rfl (lv_at hl 3 rfl) ?_
                                  refine lv_iconst (v := nI 1) hx hb d_law_454 (by decide) ?_
                                  refine lv_iadd hx hb d_law_455 ?_
                                  obtain ⟨j120, hin, hj, hB⟩ := hB
                                  subst hj
                                  generalize hj120 : Int32.toNatClampNeg (x3 + (nI 1)) = j120 at hB
                                  refine va_sld hx hb hX hbl hbA hS hin d_law_456 ?_
                                  rw [hj120]
                                  refine lv_aload_n hx hb d_law_457 rfl (lv_at hl 0 rfl) ?_
                                  refine lv_iload_n hx hb d_law_458 rfl (lv_at hl 3 rfl) ?_
                                  refine lv_iconst (v := nI 2) hx hb d_law_459 (by decide) ?_
                                  refine lv_iadd hx hb d_law_460 ?_
                                  obtain ⟨j121, hin, hj, hB⟩ := hB
                                  subst hj
                                  generalize hj121 : Int32.toNatClampNeg (x3 + (nI 2)) = j121 at hB
                                  refine va_sld hx hb hX hbl hbA hS hin d_law_461 ?_
                                  rw [hj121]
                                  obtain ⟨q122, ho122, hB⟩ := hB
                                  have hsr := And.left hB
                                  refine zr_callV (ci := 0) (As := [.int (xs j120), .int (xs j121)]) (rest := []) hx hb hml hC hwk hw hS hl.1 (c_X_of l D s.heap.size q122 (xs j120) (xs j121) σ _ hB) mk_X_of mi_X_of ms_X_of ml_law_71 ⟨Nat.le_of_ble_eq_true rfl, Nat.le_of_ble_eq_true rfl⟩ ho122 hsr rfl (cat_8 cat_n (Nat.le_of_ble_eq_true rfl)) d_law_462 ⟨ha1, ha2⟩ rfl (fun v σ123 H locs hp hgn hw hS => ?_)
                                  have hg := hg.tr hgn
                                  obtain ⟨r124, rfl, hB⟩ := hp
                                  refine W.eq (g2 := F0 m 465 ls [.int r124]) rfl ?_
                                  refine zr_aload_n (o := o2) hx hb d_law_465 rfl (lv_at hl 2 rfl) ?_
                                  refine lv_aload_n hx hb d_law_466 rfl (lv_at hl 0 rfl) ?_
                                  refine lv_iload_n hx hb d_law_467 rfl (lv_at hl 3 rfl) ?_
                                  refine lv_iconst (v := nI 1) hx hb d_law_468 (by decide) ?_
                                  refine lv_iadd hx hb d_law_469 ?_
                                  obtain ⟨j125, hin, hj, hB⟩ := hB
                                  subst hj
                                  generalize hj125 : Int32.toNatClampNeg (x3 + (nI 1)) = j125 at hB
                                  refine va_sld hx hb hX hbl hbA hS hin d_law_470 ?_
                                  rw [hj125]
                                  refine lv_aload_n hx hb d_law_471 rfl (lv_at hl 0 rfl) ?_
                                  refine lv_iload_n hx hb d_law_472 rfl (lv_at hl 3 rfl) ?_
                                  refine lv_iconst (v := nI 2) hx hb d_law_473 (by decide) ?_
                                  refine lv_iadd hx hb d_law_474 ?_
                                  obtain ⟨j126, hin, hj, hB⟩ := hB
                                  subst hj
                                  generalize hj126 : Int32.toNatClampNeg (x3 + (nI 2)) = j126 at hB
                                  refine va_sld hx hb hX hbl hbA hS hin d_law_475 ?_
                                  rw [hj126]
                                  obtain ⟨q127, ho127, hB⟩ := hB
                                  have hsr := And.left hB
                                  refine zr_callV (ci := 9) (As := [.int (xs j125), .int (xs j126)]) (rest := [.int r124]) hx hb hml hC hwk hw hS hl.1 (c_M_of l D s.heap.size q127 (xs j125) (xs j126) σ123 _ hB) mk_M_of mi_M_of ms_M_of ml_law_74 ⟨Nat.le_of_ble_eq_true rfl, Nat.le_of_ble_eq_true rfl⟩ ho127 hsr rfl (cat_8 (cat_c rfl cat_n) (Nat.le_of_ble_eq_true rfl)) d_law_476 ⟨ha1, ha2⟩ rfl (fun v σ128 H locs hp hgn hw hS => ?_)
                                  have hg := hg.tr hgn
                                  obtain ⟨r129, rfl, hB⟩ := hp
                                  refine W.eq (g2 := F0 m 479 ls [.int r129, .int r124]) rfl ?_
                                  refine lv_icmp_eq (tgt := 856) hx hb d_law_479 (by decide) (fun cd => ?_) (fun cd => ?_)
                                  · have hB := hB.1 cd
                                    rw [hK856] at hB
                                    exact hB _ _ _ hg hw hS (lv_sub hl [0, 1, 2, 3] rfl) ha1 ha2
                                  · have hB := hB.2 cd
                                    refine lv_iconst (v := nI 0) hx hb d_law_482 (by decide) ?_
                                    exact lw_done hx hb hr hlocks hB hS ha1 ha2 d_law_483
                                · have hB := hB.2 c13
                                  by_cases c14 : ((xs j1) &&& (nI 31)) = nI 14
                                  · have hB := hB.1 c14
                                    refine lv_tableIn (tgt := 484) (off := 452) hx hb d_law_32 (by rw [c14]; decide) (by rw [c14]; decide) (by rw [c14]; decide) (by decide) ?_
                                    refine zr_aload_n (o := o1) hx hb d_law_484 rfl (lv_at hl 1 rfl) ?_
                                    refine lv_aload_n hx hb d_law_485 rfl (lv_at hl 0 rfl) ?_
                                    refine lv_iload_n hx hb d_law_486 rfl (lv_at hl 3 rfl) ?_
                                    refine lv_iconst (v := nI 1) hx hb d_law_487 (by decide) ?_
                                    refine lv_iadd hx hb d_law_488 ?_
                                    obtain ⟨j130, hin, hj, hB⟩ := hB
                                    subst hj
                                    generalize hj130 : Int32.toNatClampNeg (x3 + (nI 1)) = j130 at hB
                                    refine va_sld hx hb hX hbl hbA hS hin d_law_489 ?_
                                    rw [hj130]
                                    obtain ⟨q131, ho131, hB⟩ := hB
                                    have hsr := And.left hB
                                    refine zr_callV (ci := 0) (As := [.int (xs j130)]) (rest := []) hx hb hml hC hwk hw hS hl.1 (c_X_world l D s.heap.size q131 (xs j130) σ _ hB) mk_X_world mi_X_world ms_X_world ml_law_75 ⟨Nat.le_of_ble_eq_true rfl, Nat.le_of_ble_eq_true rfl⟩ ho131 hsr rfl (cat_8 cat_n (Nat.le_of_ble_eq_true rfl)) d_law_490 ⟨ha1, ha2⟩ rfl (fun v σ132 H locs hp hgn hw hS => ?_)
                                    have hg := hg.tr hgn
                                    obtain ⟨r133, rfl, hB⟩ := hp
                                    refine W.eq (g2 := F0 m 493 ls [.int r133]) rfl ?_
                                    refine zr_aload_n (o := o2) hx hb d_law_493 rfl (lv_at hl 2 rfl) ?_
                                    refine lv_aload_n hx hb d_law_494 rfl (lv_at hl 0 rfl) ?_
                                    refine lv_iload_n hx hb d_law_495 rfl (lv_at hl 3 rfl) ?_
                                    refine lv_iconst (v := nI 1) hx hb d_law_496 (by decide) ?_
                                    refine lv_iadd hx hb d_law_497 ?_
                                    obtain ⟨j134, hin, hj, hB⟩ := hB
                                    subst hj
                                    generalize hj134 : Int32.toNatClampNeg (x3 + (nI 1)) = j134 at hB
                                    refine va_sld hx hb hX hbl hbA hS hin d_law_498 ?_
                                    rw [hj134]
                                    obtain ⟨q135, ho135, hB⟩ := hB
                                    have hsr := And.left hB
                                    refine zr_callV (ci := 9) (As := [.int (xs j134)]) (rest := [.int r133]) hx hb hml hC hwk hw hS hl.1 (c_M_world l D s.heap.size q135 (xs j134) σ132 _ hB) mk_M_world mi_M_world ms_M_world ml_law_78 ⟨Nat.le_of_ble_eq_true rfl, Nat.le_of_ble_eq_true rfl⟩ ho135 hsr rfl (cat_8 (cat_c rfl cat_n) (Nat.le_of_ble_eq_true rfl)) d_law_499 ⟨ha1, ha2⟩ rfl (fun v σ136 H locs hp hgn hw hS => ?_)
                                    have hg := hg.tr hgn
                                    obtain ⟨r137, rfl, hB⟩ := hp
                                    refine W.eq (g2 := F0 m 502 ls [.int r137, .int r133]) rfl ?_
                                    refine lv_icmp_eq (tgt := 856) hx hb d_law_502 (by decide) (fun cd => ?_) (fun cd => ?_)
                                    · have hB := hB.1 cd
                                      rw [hK856] at hB
                                      exact hB _ _ _ hg hw hS (lv_sub hl [0, 1, 2, 3] rfl) ha1 ha2
                                    · have hB := hB.2 cd
                                      refine lv_iconst (v := nI 0) hx hb d_law_505 (by decide) ?_
                                      exact lw_done hx hb hr hlocks hB hS ha1 ha2 d_law_506
                                  · have hB := hB.2 c14
                                    by_cases c15 : ((xs j1) &&& (nI 31)) = nI 15
                                    · have hB := hB.1 c15
                                      refine lv_tableIn (tgt := 507) (off := 475) hx hb d_law_32 (by rw [c15]; decide) (by rw [c15]; decide) (by rw [c15]; decide) (by decide) ?_
                                      refine zr_aload_n (o := o1) hx hb d_law_507 rfl (lv_at hl 1 rfl) ?_
                                      refine lv_aload_n hx hb d_law_508 rfl (lv_at hl 0 rfl) ?_
                                      refine lv_iload_n hx hb d_law_509 rfl (lv_at hl 3 rfl) ?_
                                      refine lv_iconst (v := nI 1) hx hb d_law_510 (by decide) ?_
                                      refine lv_iadd hx hb d_law_511 ?_
                                      obtain ⟨j138, hin, hj, hB⟩ := hB
                                      subst hj
                                      generalize hj138 : Int32.toNatClampNeg (x3 + (nI 1)) = j138 at hB
                                      refine va_sld hx hb hX hbl hbA hS hin d_law_512 ?_
                                      rw [hj138]
                                      obtain ⟨q139, ho139, hB⟩ := hB
                                      have hsr := And.left hB
                                      refine zr_callV (ci := 0) (As := [.int (xs j138)]) (rest := []) hx hb hml hC hwk hw hS hl.1 (c_X_closed l D s.heap.size q139 (xs j138) σ _ hB) mk_X_closed mi_X_closed ms_X_closed ml_law_79 ⟨Nat.le_of_ble_eq_true rfl, Nat.le_of_ble_eq_true rfl⟩ ho139 hsr rfl (cat_8 cat_n (Nat.le_of_ble_eq_true rfl)) d_law_513 ⟨ha1, ha2⟩ rfl (fun v σ140 H locs hp hgn hw hS => ?_)
                                      have hg := hg.tr hgn
                                      obtain ⟨r141, rfl, hB⟩ := hp
                                      refine W.eq (g2 := F0 m 516 ls [.int r141]) rfl ?_
                                      refine zr_aload_n (o := o2) hx hb d_law_516 rfl (lv_at hl 2 rfl) ?_
                                      refine lv_aload_n hx hb d_law_517 rfl (lv_at hl 0 rfl) ?_
                                      refine lv_iload_n hx hb d_law_518 rfl (lv_at hl 3 rfl) ?_
                                      refine lv_iconst (v := nI 1) hx hb d_law_519 (by decide) ?_
                                      refine lv_iadd hx hb d_law_520 ?_
                                      obtain ⟨j142, hin, hj, hB⟩ := hB
                                      subst hj
                                      generalize hj142 : Int32.toNatClampNeg (x3 + (nI 1)) = j142 at hB
                                      refine va_sld hx hb hX hbl hbA hS hin d_law_521 ?_
                                      rw [hj142]
                                      obtain ⟨q143, ho143, hB⟩ := hB
                                      have hsr := And.left hB
                                      refine zr_callV (ci := 9) (As := [.int (xs j142)]) (rest := [.int r141]) hx hb hml hC hwk hw hS hl.1 (c_M_closed l D s.heap.size q143 (xs j142) σ140 _ hB) mk_M_closed mi_M_closed ms_M_closed ml_law_82 ⟨Nat.le_of_ble_eq_true rfl, Nat.le_of_ble_eq_true rfl⟩ ho143 hsr rfl (cat_8 (cat_c rfl cat_n) (Nat.le_of_ble_eq_true rfl)) d_law_522 ⟨ha1, ha2⟩ rfl (fun v σ144 H locs hp hgn hw hS => ?_)
                                      have hg := hg.tr hgn
                                      obtain ⟨r145, rfl, hB⟩ := hp
                                      refine W.eq (g2 := F0 m 525 ls [.int r145, .int r141]) rfl ?_
                                      refine lv_icmp_eq (tgt := 856) hx hb d_law_525 (by decide) (fun cd => ?_) (fun cd => ?_)
                                      · have hB := hB.1 cd
                                        rw [hK856] at hB
                                        exact hB _ _ _ hg hw hS (lv_sub hl [0, 1, 2, 3] rfl) ha1 ha2
                                      · have hB := hB.2 cd
                                        refine lv_iconst (v := nI 0) hx hb d_law_528 (by decide) ?_
                                        exact lw_done hx hb hr hlocks hB hS ha1 ha2 d_law_529
                                    · have hB := hB.2 c15
                                      by_cases c16 : ((xs j1) &&& (nI 31)) = nI 16
                                      · have hB := hB.1 c16
                                        refine lv_tableIn (tgt := 530) (off := 498) hx hb d_law_32 (by rw [c16]; decide) (by rw [c16]; decide) (by rw [c16]; decide) (by decide) ?_
                                        refine zr_aload_n (o := o1) hx hb d_law_530 rfl (lv_at hl 1 rfl) ?_
                                        refine lv_aload_n hx hb d_law_531 rfl (lv_at hl 0 rfl) ?_
                                        refine lv_iload_n hx hb d_law_532 rfl (lv_at hl 3 rfl) ?_
                                        refine lv_iconst (v := nI 1) hx hb d_law_533 (by decide) ?_
                                        refine lv_iadd hx hb d_law_534 ?_
                                        obtain ⟨j146, hin, hj, hB⟩ := hB
                                        subst hj
                                        generalize hj146 : Int32.toNatClampNeg (x3 + (nI 1)) = j146 at hB
                                        refine va_sld hx hb hX hbl hbA hS hin d_law_535 ?_
                                        rw [hj146]
                                        refine lv_aload_n hx hb d_law_536 rfl (lv_at hl 0 rfl) ?_
                                        refine lv_iload_n hx hb d_law_537 rfl (lv_at hl 3 rfl) ?_
                                        refine lv_iconst (v := nI 2) hx hb d_law_538 (by decide) ?_
                                        refine lv_iadd hx hb d_law_539 ?_
                                        obtain ⟨j147, hin, hj, hB⟩ := hB
                                        subst hj
                                        generalize hj147 : Int32.toNatClampNeg (x3 + (nI 2)) = j147 at hB
                                        refine va_sld hx hb hX hbl hbA hS hin d_law_540 ?_
                                        rw [hj147]
                                        obtain ⟨q148, ho148, hB⟩ := hB
                                        obtain ⟨c149, d150, hc1, hc2, hB⟩ := hB
                                        have hsr := And.left hB
                                        refine zr_callV (ci := 0) (As := [.int (xs j146), .int (xs j147)]) (rest := []) hx hb hml hC hwk hw hS hl.1 (c_X_law l D s.heap.size q148 (xs j146) (xs j147) σ c149 d150 _ hB) mk_X_law mi_X_law ms_X_law ml_law_83 ⟨Nat.le_of_ble_eq_true rfl, Nat.le_of_ble_eq_true rfl⟩ ho148 hsr rfl (cat_8 cat_n (Nat.le_of_ble_eq_true rfl)) d_law_541 ⟨hc1, hc2⟩ rfl (fun v σ151 H locs hp hgn hw hS => ?_)
                                        have hg := hg.tr hgn
                                        have ha1 := hc1
                                        have ha2 := hc2
                                        obtain ⟨r152, rfl, hB⟩ := hp
                                        refine W.eq (g2 := F0 m 544 ls [.int r152]) rfl ?_
                                        refine zr_aload_n (o := o2) hx hb d_law_544 rfl (lv_at hl 2 rfl) ?_
                                        refine lv_aload_n hx hb d_law_545 rfl (lv_at hl 0 rfl) ?_
                                        refine lv_iload_n hx hb d_law_546 rfl (lv_at hl 3 rfl) ?_
                                        refine lv_iconst (v := nI 1) hx hb d_law_547 (by decide) ?_
                                        refine lv_iadd hx hb d_law_548 ?_
                                        obtain ⟨j153, hin, hj, hB⟩ := hB
                                        subst hj
                                        generalize hj153 : Int32.toNatClampNeg (x3 + (nI 1)) = j153 at hB
                                        refine va_sld hx hb hX hbl hbA hS hin d_law_549 ?_
                                        rw [hj153]
                                        refine lv_aload_n hx hb d_law_550 rfl (lv_at hl 0 rfl) ?_
                                        refine lv_iload_n hx hb d_law_551 rfl (lv_at hl 3 rfl) ?_
                                        refine lv_iconst (v := nI 2) hx hb d_law_552 (by decide) ?_
                                        refine lv_iadd hx hb d_law_553 ?_
                                        obtain ⟨j154, hin, hj, hB⟩ := hB
                                        subst hj
                                        generalize hj154 : Int32.toNatClampNeg (x3 + (nI 2)) = j154 at hB
                                        refine va_sld hx hb hX hbl hbA hS hin d_law_554 ?_
                                        rw [hj154]
                                        obtain ⟨q155, ho155, hB⟩ := hB
                                        have hsr := And.left hB
                                        refine zr_callV (ci := 9) (As := [.int (xs j153), .int (xs j154)]) (rest := [.int r152]) hx hb hml hC hwk hw hS hl.1 (c_M_law l D s.heap.size q155 (xs j153) (xs j154) σ151 _ hB) mk_M_law mi_M_law ms_M_law ml_law_86 ⟨Nat.le_of_ble_eq_true rfl, Nat.le_of_ble_eq_true rfl⟩ ho155 hsr rfl (cat_8 (cat_c rfl cat_n) (Nat.le_of_ble_eq_true rfl)) d_law_555 ⟨ha1, ha2⟩ rfl (fun v σ156 H locs hp hgn hw hS => ?_)
                                        have hg := hg.tr hgn
                                        obtain ⟨r157, rfl, hB⟩ := hp
                                        refine W.eq (g2 := F0 m 558 ls [.int r157, .int r152]) rfl ?_
                                        refine lv_icmp_eq (tgt := 856) hx hb d_law_558 (by decide) (fun cd => ?_) (fun cd => ?_)
                                        · have hB := hB.1 cd
                                          rw [hK856] at hB
                                          exact hB _ _ _ hg hw hS (lv_sub hl [0, 1, 2, 3] rfl) ha1 ha2
                                        · have hB := hB.2 cd
                                          refine lv_iconst (v := nI 0) hx hb d_law_561 (by decide) ?_
                                          exact lw_done hx hb hr hlocks hB hS ha1 ha2 d_law_562
                                      · have hB := hB.2 c16
                                        by_cases c17 : ((xs j1) &&& (nI 31)) = nI 17
                                        · have hB := hB.1 c17
                                          refine lv_tableIn (tgt := 563) (off := 531) hx hb d_law_32 (by rw [c17]; decide) (by rw [c17]; decide) (by rw [c17]; decide) (by decide) ?_
                                          refine zr_aload_n (o := o1) hx hb d_law_563 rfl (lv_at hl 1 rfl) ?_
                                          refine lv_aload_n hx hb d_law_564 rfl (lv_at hl 0 rfl) ?_
                                          refine lv_iload_n hx hb d_law_565 rfl (lv_at hl 3 rfl) ?_
                                          refine lv_iconst (v := nI 1) hx hb d_law_566 (by decide) ?_
                                          refine lv_iadd hx hb d_law_567 ?_
                                          obtain ⟨j158, hin, hj, hB⟩ := hB
                                          subst hj
                                          generalize hj158 : Int32.toNatClampNeg (x3 + (nI 1)) = j158 at hB
                                          refine va_sld hx hb hX hbl hbA hS hin d_law_568 ?_
                                          rw [hj158]
                                          refine lv_aload_n hx hb d_law_569 rfl (lv_at hl 0 rfl) ?_
                                          refine lv_iload_n hx hb d_law_570 rfl (lv_at hl 3 rfl) ?_
                                          refine lv_iconst (v := nI 2) hx hb d_law_571 (by decide) ?_
                                          refine lv_iadd hx hb d_law_572 ?_
                                          obtain ⟨j159, hin, hj, hB⟩ := hB
                                          subst hj
                                          generalize hj159 : Int32.toNatClampNeg (x3 + (nI 2)) = j159 at hB
                                          refine va_sld hx hb hX hbl hbA hS hin d_law_573 ?_
                                          rw [hj159]
                                          refine lv_if_eq (tgt := 581) hx hb d_law_574 (by decide) (fun cd => ?_) (fun cd => ?_)
                                          · have hB := hB.1 cd
                                            refine lv_iconst (v := nI 0) hx hb d_law_581 (by decide) ?_
                                            rw [hK582] at hB
                                            exact hB _ _ _ hg hw hS (lv_sub hl [0, 1, 2, 3] rfl) ha1 ha2
                                          · have hB := hB.2 cd
                                            refine lv_iconst (v := nI 1) hx hb d_law_577 (by decide) ?_
                                            refine lv_goto (tgt := 582) hx hb d_law_578 (by decide) ?_
                                            rw [hK582] at hB
                                            exact hB _ _ _ hg hw hS (lv_sub hl [0, 1, 2, 3] rfl) ha1 ha2
                                        · have hB := hB.2 c17
                                          by_cases c18 : ((xs j1) &&& (nI 31)) = nI 18
                                          · have hB := hB.1 c18
                                            refine lv_tableIn (tgt := 622) (off := 590) hx hb d_law_32 (by rw [c18]; decide) (by rw [c18]; decide) (by rw [c18]; decide) (by decide) ?_
                                            refine zr_aload_n (o := o1) hx hb d_law_622 rfl (lv_at hl 1 rfl) ?_
                                            refine lv_aload_n hx hb d_law_623 rfl (lv_at hl 0 rfl) ?_
                                            refine lv_iload_n hx hb d_law_624 rfl (lv_at hl 3 rfl) ?_
                                            refine lv_iconst (v := nI 1) hx hb d_law_625 (by decide) ?_
                                            refine lv_iadd hx hb d_law_626 ?_
                                            obtain ⟨j160, hin, hj, hB⟩ := hB
                                            subst hj
                                            generalize hj160 : Int32.toNatClampNeg (x3 + (nI 1)) = j160 at hB
                                            refine va_sld hx hb hX hbl hbA hS hin d_law_627 ?_
                                            rw [hj160]
                                            refine lv_aload_n hx hb d_law_628 rfl (lv_at hl 0 rfl) ?_
                                            refine lv_iload_n hx hb d_law_629 rfl (lv_at hl 3 rfl) ?_
                                            refine lv_iconst (v := nI 2) hx hb d_law_630 (by decide) ?_
                                            refine lv_iadd hx hb d_law_631 ?_
                                            obtain ⟨j161, hin, hj, hB⟩ := hB
                                            subst hj
                                            generalize hj161 : Int32.toNatClampNeg (x3 + (nI 2)) = j161 at hB
                                            refine va_sld hx hb hX hbl hbA hS hin d_law_632 ?_
                                            rw [hj161]
                                            refine lv_aload_n hx hb d_law_633 rfl (lv_at hl 0 rfl) ?_
                                            refine lv_iload_n hx hb d_law_634 rfl (lv_at hl 3 rfl) ?_
                                            refine lv_iconst (v := nI 3) hx hb d_law_635 (by decide) ?_
                                            refine lv_iadd hx hb d_law_636 ?_
                                            obtain ⟨j162, hin, hj, hB⟩ := hB
                                            subst hj
                                            generalize hj162 : Int32.toNatClampNeg (x3 + (nI 3)) = j162 at hB
                                            refine va_sld hx hb hX hbl hbA hS hin d_law_637 ?_
                                            rw [hj162]
                                            obtain ⟨q163, ho163, hB⟩ := hB
                                            obtain ⟨c164, d165, hc1, hc2, hB⟩ := hB
                                            have hsr := And.left hB
                                            refine zr_callV (ci := 0) (As := [.int (xs j160), .int (xs j161), .int (xs j162)]) (rest := []) hx hb hml hC hwk hw hS hl.1 (c_X_witness l D s.heap.size q163 (xs j160) (xs j161) (xs j162) σ c164 d165 _ hB) mk_X_witness mi_X_witness ms_X_witness ml_law_92 ⟨Nat.le_of_ble_eq_true rfl, Nat.le_of_ble_eq_true rfl⟩ ho163 hsr rfl (cat_8 cat_n (Nat.le_of_ble_eq_true rfl)) d_law_638 ⟨hc1, hc2⟩ rfl (fun v σ166 H locs hp hgn hw hS => ?_)
                                            have hg := hg.tr hgn
                                            have ha1 := hc1
                                            have ha2 := hc2
                                            obtain ⟨r167, rfl, hB⟩ := hp
                                            refine W.eq (g2 := F0 m 641 ls [.int r167]) rfl ?_
                                            refine zr_aload_n (o := o2) hx hb d_law_641 rfl (lv_at hl 2 rfl) ?_
                                            refine lv_aload_n hx hb d_law_642 rfl (lv_at hl 0 rfl) ?_
                                            refine lv_iload_n hx hb d_law_643 rfl (lv_at hl 3 rfl) ?_
                                            refine lv_iconst (v := nI 1) hx hb d_law_644 (by decide) ?_
                                            refine lv_iadd hx hb d_law_645 ?_
                                            obtain ⟨j168, hin, hj, hB⟩ := hB
                                            subst hj
                                            generalize hj168 : Int32.toNatClampNeg (x3 + (nI 1)) = j168 at hB
                                            refine va_sld hx hb hX hbl hbA hS hin d_law_646 ?_
                                            rw [hj168]
                                            refine lv_aload_n hx hb d_law_647 rfl (lv_at hl 0 rfl) ?_
                                            refine lv_iload_n hx hb d_law_648 rfl (lv_at hl 3 rfl) ?_
                                            refine lv_iconst (v := nI 2) hx hb d_law_649 (by decide) ?_
                                            refine lv_iadd hx hb d_law_650 ?_
                                            obtain ⟨j169, hin, hj, hB⟩ := hB
                                            subst hj
                                            generalize hj169 : Int32.toNatClampNeg (x3 + (nI 2)) = j169 at hB
                                            refine va_sld hx hb hX hbl hbA hS hin d_law_651 ?_
                                            rw [hj169]
                                            refine lv_aload_n hx hb d_law_652 rfl (lv_at hl 0 rfl) ?_
                                            refine lv_iload_n hx hb d_law_653 rfl (lv_at hl 3 rfl) ?_
                                            refine lv_iconst (v := nI 3) hx hb d_law_654 (by decide) ?_
                                            refine lv_iadd hx hb d_law_655 ?_
                                            obtain ⟨j170, hin, hj, hB⟩ := hB
                                            subst hj
                                            generalize hj170 : Int32.toNatClampNeg (x3 + (nI 3)) = j170 at hB
                                            refine va_sld hx hb hX hbl hbA hS hin d_law_656 ?_
                                            rw [hj170]
                                            obtain ⟨q171, ho171, hB⟩ := hB
                                            have hsr := And.left hB
                                            refine zr_callV (ci := 9) (As := [.int (xs j168), .int (xs j169), .int (xs j170)]) (rest := [.int r167]) hx hb hml hC hwk hw hS hl.1 (c_M_witness l D s.heap.size q171 (xs j168) (xs j169) (xs j170) σ166 _ hB) mk_M_witness mi_M_witness ms_M_witness ml_law_95 ⟨Nat.le_of_ble_eq_true rfl, Nat.le_of_ble_eq_true rfl⟩ ho171 hsr rfl (cat_8 (cat_c rfl cat_n) (Nat.le_of_ble_eq_true rfl)) d_law_657 ⟨ha1, ha2⟩ rfl (fun v σ172 H locs hp hgn hw hS => ?_)
                                            have hg := hg.tr hgn
                                            obtain ⟨r173, rfl, hB⟩ := hp
                                            refine W.eq (g2 := F0 m 660 ls [.int r173, .int r167]) rfl ?_
                                            refine lv_icmp_eq (tgt := 856) hx hb d_law_660 (by decide) (fun cd => ?_) (fun cd => ?_)
                                            · have hB := hB.1 cd
                                              rw [hK856] at hB
                                              exact hB _ _ _ hg hw hS (lv_sub hl [0, 1, 2, 3] rfl) ha1 ha2
                                            · have hB := hB.2 cd
                                              refine lv_iconst (v := nI 0) hx hb d_law_663 (by decide) ?_
                                              exact lw_done hx hb hr hlocks hB hS ha1 ha2 d_law_664
                                          · have hB := hB.2 c18
                                            by_cases c19 : ((xs j1) &&& (nI 31)) = nI 19
                                            · have hB := hB.1 c19
                                              refine lv_tableIn (tgt := 665) (off := 633) hx hb d_law_32 (by rw [c19]; decide) (by rw [c19]; decide) (by rw [c19]; decide) (by decide) ?_
                                              refine zr_aload_n (o := o1) hx hb d_law_665 rfl (lv_at hl 1 rfl) ?_
                                              refine lv_aload_n hx hb d_law_666 rfl (lv_at hl 0 rfl) ?_
                                              refine lv_iload_n hx hb d_law_667 rfl (lv_at hl 3 rfl) ?_
                                              refine lv_iconst (v := nI 1) hx hb d_law_668 (by decide) ?_
                                              refine lv_iadd hx hb d_law_669 ?_
                                              obtain ⟨j174, hin, hj, hB⟩ := hB
                                              subst hj
                                              generalize hj174 : Int32.toNatClampNeg (x3 + (nI 1)) = j174 at hB
                                              refine va_sld hx hb hX hbl hbA hS hin d_law_670 ?_
                                              rw [hj174]
                                              refine lv_aload_n hx hb d_law_671 rfl (lv_at hl 0 rfl) ?_
                                              refine lv_iload_n hx hb d_law_672 rfl (lv_at hl 3 rfl) ?_
                                              refine lv_iconst (v := nI 2) hx hb d_law_673 (by decide) ?_
                                              refine lv_iadd hx hb d_law_674 ?_
                                              obtain ⟨j175, hin, hj, hB⟩ := hB
                                              subst hj
                                              generalize hj175 : Int32.toNatClampNeg (x3 + (nI 2)) = j175 at hB
                                              refine va_sld hx hb hX hbl hbA hS hin d_law_675 ?_
                                              rw [hj175]
                                              obtain ⟨q176, ho176, hB⟩ := hB
                                              obtain ⟨c177, d178, hc1, hc2, hB⟩ := hB
                                              have hsr := And.left hB
                                              refine zr_callV (ci := 0) (As := [.int (xs j174), .int (xs j175)]) (rest := []) hx hb hml hC hwk hw hS hl.1 (c_X_model l D s.heap.size q176 (xs j174) (xs j175) σ c177 d178 _ hB) mk_X_model mi_X_model ms_X_model ml_law_96 ⟨Nat.le_of_ble_eq_true rfl, Nat.le_of_ble_eq_true rfl⟩ ho176 hsr rfl (cat_8 cat_n (Nat.le_of_ble_eq_true rfl)) d_law_676 ⟨hc1, hc2⟩ rfl (fun v σ179 H locs hp hgn hw hS => ?_)
                                              have hg := hg.tr hgn
                                              have ha1 := hc1
                                              have ha2 := hc2
                                              obtain ⟨r180, rfl, hB⟩ := hp
                                              refine W.eq (g2 := F0 m 679 ls [.int r180]) rfl ?_
                                              refine zr_aload_n (o := o2) hx hb d_law_679 rfl (lv_at hl 2 rfl) ?_
                                              refine lv_aload_n hx hb d_law_680 rfl (lv_at hl 0 rfl) ?_
                                              refine lv_iload_n hx hb d_law_681 rfl (lv_at hl 3 rfl) ?_
                                              refine lv_iconst (v := nI 1) hx hb d_law_682 (by decide) ?_
                                              refine lv_iadd hx hb d_law_683 ?_
                                              obtain ⟨j181, hin, hj, hB⟩ := hB
                                              subst hj
                                              generalize hj181 : Int32.toNatClampNeg (x3 + (nI 1)) = j181 at hB
                                              refine va_sld hx hb hX hbl hbA hS hin d_law_684 ?_
                                              rw [hj181]
                                              refine lv_aload_n hx hb d_law_685 rfl (lv_at hl 0 rfl) ?_
                                              refine lv_iload_n hx hb d_law_686 rfl (lv_at hl 3 rfl) ?_
                                              refine lv_iconst (v := nI 2) hx hb d_law_687 (by decide) ?_
                                              refine lv_iadd hx hb d_law_688 ?_
                                              obtain ⟨j182, hin, hj, hB⟩ := hB
                                              subst hj
                                              generalize hj182 : Int32.toNatClampNeg (x3 + (nI 2)) = j182 at hB
                                              refine va_sld hx hb hX hbl hbA hS hin d_law_689 ?_
                                              rw [hj182]
                                              obtain ⟨q183, ho183, hB⟩ := hB
                                              have hsr := And.left hB
                                              refine zr_callV (ci := 9) (As := [.int (xs j181), .int (xs j182)]) (rest := [.int r180]) hx hb hml hC hwk hw hS hl.1 (c_M_model l D s.heap.size q183 (xs j181) (xs j182) σ179 _ hB) mk_M_model mi_M_model ms_M_model ml_law_99 ⟨Nat.le_of_ble_eq_true rfl, Nat.le_of_ble_eq_true rfl⟩ ho183 hsr rfl (cat_8 (cat_c rfl cat_n) (Nat.le_of_ble_eq_true rfl)) d_law_690 ⟨ha1, ha2⟩ rfl (fun v σ184 H locs hp hgn hw hS => ?_)
                                              have hg := hg.tr hgn
                                              obtain ⟨r185, rfl, hB⟩ := hp
                                              refine W.eq (g2 := F0 m 693 ls [.int r185, .int r180]) rfl ?_
                                              refine lv_icmp_eq (tgt := 856) hx hb d_law_693 (by decide) (fun cd => ?_) (fun cd => ?_)
                                              · have hB := hB.1 cd
                                                rw [hK856] at hB
                                                exact hB _ _ _ hg hw hS (lv_sub hl [0, 1, 2, 3] rfl) ha1 ha2
                                              · have hB := hB.2 cd
                                                refine lv_iconst (v := nI 0) hx hb d_law_696 (by decide) ?_
                                                exact lw_done hx hb hr hlocks hB hS ha1 ha2 d_law_697
                                            · have hB := hB.2 c19
                                              by_cases c20 : ((xs j1) &&& (nI 31)) = nI 20
                                              · have hB := hB.1 c20
                                                refine lv_tableIn (tgt := 698) (off := 666) hx hb d_law_32 (by rw [c20]; decide) (by rw [c20]; decide) (by rw [c20]; decide) (by decide) ?_
                                                refine zr_aload_n (o := o1) hx hb d_law_698 rfl (lv_at hl 1 rfl) ?_
                                                refine lv_aload_n hx hb d_law_699 rfl (lv_at hl 0 rfl) ?_
                                                refine lv_iload_n hx hb d_law_700 rfl (lv_at hl 3 rfl) ?_
                                                refine lv_iconst (v := nI 1) hx hb d_law_701 (by decide) ?_
                                                refine lv_iadd hx hb d_law_702 ?_
                                                obtain ⟨j186, hin, hj, hB⟩ := hB
                                                subst hj
                                                generalize hj186 : Int32.toNatClampNeg (x3 + (nI 1)) = j186 at hB
                                                refine va_sld hx hb hX hbl hbA hS hin d_law_703 ?_
                                                rw [hj186]
                                                refine lv_aload_n hx hb d_law_704 rfl (lv_at hl 0 rfl) ?_
                                                refine lv_iload_n hx hb d_law_705 rfl (lv_at hl 3 rfl) ?_
                                                refine lv_iconst (v := nI 2) hx hb d_law_706 (by decide) ?_
                                                refine lv_iadd hx hb d_law_707 ?_
                                                obtain ⟨j187, hin, hj, hB⟩ := hB
                                                subst hj
                                                generalize hj187 : Int32.toNatClampNeg (x3 + (nI 2)) = j187 at hB
                                                refine va_sld hx hb hX hbl hbA hS hin d_law_708 ?_
                                                rw [hj187]
                                                refine lv_if_eq (tgt := 716) hx hb d_law_709 (by decide) (fun cd => ?_) (fun cd => ?_)
                                                · have hB := hB.1 cd
                                                  refine lv_iconst (v := nI 0) hx hb d_law_716 (by decide) ?_
                                                  obtain ⟨q188, ho188, hB⟩ := hB
                                                  obtain ⟨c189, d190, hc1, hc2, hB⟩ := hB
                                                  have hsr := And.left hB
                                                  refine zr_callV (ci := 0) (As := [.int (xs j186), .int (nI 0)]) (rest := []) hx hb hml hC hwk hw hS hl.1 (c_X_models l D s.heap.size q188 (xs j186) (nI 0) σ c189 d190 _ hB) mk_X_models mi_X_models ms_X_models ml_law_100 ⟨Nat.le_of_ble_eq_true rfl, Nat.le_of_ble_eq_true rfl⟩ ho188 hsr rfl (cat_8 cat_n (Nat.le_of_ble_eq_true rfl)) d_law_717 ⟨hc1, hc2⟩ rfl (fun v σ191 H locs hp hgn hw hS => ?_)
                                                  have hg := hg.tr hgn
                                                  have ha1 := hc1
                                                  have ha2 := hc2
                                                  obtain ⟨r192, rfl, hB⟩ := hp
                                                  refine W.eq (g2 := F0 m 720 ls [.int r192]) rfl ?_
                                                  refine zr_aload_n (o := o2) hx hb d_law_720 rfl (lv_at hl 2 rfl) ?_
                                                  refine lv_aload_n hx hb d_law_721 rfl (lv_at hl 0 rfl) ?_
                                                  refine lv_iload_n hx hb d_law_722 rfl (lv_at hl 3 rfl) ?_
                                                  refine lv_iconst (v := nI 1) hx hb d_law_723 (by decide) ?_
                                                  refine lv_iadd hx hb d_law_724 ?_
                                                  obtain ⟨j193, hin, hj, hB⟩ := hB
                                                  subst hj
                                                  generalize hj193 : Int32.toNatClampNeg (x3 + (nI 1)) = j193 at hB
                                                  refine va_sld hx hb hX hbl hbA hS hin d_law_725 ?_
                                                  rw [hj193]
                                                  refine lv_aload_n hx hb d_law_726 rfl (lv_at hl 0 rfl) ?_
                                                  refine lv_iload_n hx hb d_law_727 rfl (lv_at hl 3 rfl) ?_
                                                  refine lv_iconst (v := nI 2) hx hb d_law_728 (by decide) ?_
                                                  refine lv_iadd hx hb d_law_729 ?_
                                                  obtain ⟨j194, hin, hj, hB⟩ := hB
                                                  subst hj
                                                  generalize hj194 : Int32.toNatClampNeg (x3 + (nI 2)) = j194 at hB
                                                  refine va_sld hx hb hX hbl hbA hS hin d_law_730 ?_
                                                  rw [hj194]
                                                  refine lv_if_eq (tgt := 738) hx hb d_law_731 (by decide) (fun cd => ?_) (fun cd => ?_)
                                                  · have hB := hB.1 cd
                                                    refine lv_iconst (v := nI 0) hx hb d_law_738 (by decide) ?_
                                                    obtain ⟨q195, ho195, hB⟩ := hB
                                                    have hsr := And.left hB
                                                    refine zr_callV (ci := 9) (As := [.int (xs j193), .int (nI 0)]) (rest := [.int r192]) hx hb hml hC hwk hw hS hl.1 (c_M_models l D s.heap.size q195 (xs j193) (nI 0) σ191 _ hB) mk_M_models mi_M_models ms_M_models ml_law_103 ⟨Nat.le_of_ble_eq_true rfl, Nat.le_of_ble_eq_true rfl⟩ ho195 hsr rfl (cat_8 (cat_c rfl cat_n) (Nat.le_of_ble_eq_true rfl)) d_law_739 ⟨ha1, ha2⟩ rfl (fun v σ196 H locs hp hgn hw hS => ?_)
                                                    have hg := hg.tr hgn
                                                    obtain ⟨r197, rfl, hB⟩ := hp
                                                    refine W.eq (g2 := F0 m 742 ls [.int r197, .int r192]) rfl ?_
                                                    refine lv_icmp_eq (tgt := 856) hx hb d_law_742 (by decide) (fun cd => ?_) (fun cd => ?_)
                                                    · have hB := hB.1 cd
                                                      rw [hK856] at hB
                                                      exact hB _ _ _ hg hw hS (lv_sub hl [0, 1, 2, 3] rfl) ha1 ha2
                                                    · have hB := hB.2 cd
                                                      refine lv_iconst (v := nI 0) hx hb d_law_745 (by decide) ?_
                                                      exact lw_done hx hb hr hlocks hB hS ha1 ha2 d_law_746
                                                  · have hB := hB.2 cd
                                                    refine lv_iconst (v := nI 1) hx hb d_law_734 (by decide) ?_
                                                    refine lv_goto (tgt := 739) hx hb d_law_735 (by decide) ?_
                                                    obtain ⟨q198, ho198, hB⟩ := hB
                                                    have hsr := And.left hB
                                                    refine zr_callV (ci := 9) (As := [.int (xs j193), .int (nI 1)]) (rest := [.int r192]) hx hb hml hC hwk hw hS hl.1 (c_M_models l D s.heap.size q198 (xs j193) (nI 1) σ191 _ hB) mk_M_models mi_M_models ms_M_models ml_law_103 ⟨Nat.le_of_ble_eq_true rfl, Nat.le_of_ble_eq_true rfl⟩ ho198 hsr rfl (cat_8 (cat_c rfl cat_n) (Nat.le_of_ble_eq_true rfl)) d_law_739 ⟨ha1, ha2⟩ rfl (fun v σ199 H locs hp hgn hw hS => ?_)
                                                    have hg := hg.tr hgn
                                                    obtain ⟨r200, rfl, hB⟩ := hp
                                                    refine W.eq (g2 := F0 m 742 ls [.int r200, .int r192]) rfl ?_
                                                    refine lv_icmp_eq (tgt := 856) hx hb d_law_742 (by decide) (fun cd => ?_) (fun cd => ?_)
                                                    · have hB := hB.1 cd
                                                      rw [hK856] at hB
                                                      exact hB _ _ _ hg hw hS (lv_sub hl [0, 1, 2, 3] rfl) ha1 ha2
                                                    · have hB := hB.2 cd
                                                      refine lv_iconst (v := nI 0) hx hb d_law_745 (by decide) ?_
                                                      exact lw_done hx hb hr hlocks hB hS ha1 ha2 d_law_746
                                                · have hB := hB.2 cd
                                                  refine lv_iconst (v := nI 1) hx hb d_law_712 (by decide) ?_
                                                  refine lv_goto (tgt := 717) hx hb d_law_713 (by decide) ?_
                                                  obtain ⟨q201, ho201, hB⟩ := hB
                                                  obtain ⟨c202, d203, hc1, hc2, hB⟩ := hB
                                                  have hsr := And.left hB
                                                  refine zr_callV (ci := 0) (As := [.int (xs j186), .int (nI 1)]) (rest := []) hx hb hml hC hwk hw hS hl.1 (c_X_models l D s.heap.size q201 (xs j186) (nI 1) σ c202 d203 _ hB) mk_X_models mi_X_models ms_X_models ml_law_100 ⟨Nat.le_of_ble_eq_true rfl, Nat.le_of_ble_eq_true rfl⟩ ho201 hsr rfl (cat_8 cat_n (Nat.le_of_ble_eq_true rfl)) d_law_717 ⟨hc1, hc2⟩ rfl (fun v σ204 H locs hp hgn hw hS => ?_)
                                                  have hg := hg.tr hgn
                                                  have ha1 := hc1
                                                  have ha2 := hc2
                                                  obtain ⟨r205, rfl, hB⟩ := hp
                                                  refine W.eq (g2 := F0 m 720 ls [.int r205]) rfl ?_
                                                  refine zr_aload_n (o := o2) hx hb d_law_720 rfl (lv_at hl 2 rfl) ?_
                                                  refine lv_aload_n hx hb d_law_721 rfl (lv_at hl 0 rfl) ?_
                                                  refine lv_iload_n hx hb d_law_722 rfl (lv_at hl 3 rfl) ?_
                                                  refine lv_iconst (v := nI 1) hx hb d_law_723 (by decide) ?_
                                                  refine lv_iadd hx hb d_law_724 ?_
                                                  obtain ⟨j206, hin, hj, hB⟩ := hB
                                                  subst hj
                                                  generalize hj206 : Int32.toNatClampNeg (x3 + (nI 1)) = j206 at hB
                                                  refine va_sld hx hb hX hbl hbA hS hin d_law_725 ?_
                                                  rw [hj206]
                                                  refine lv_aload_n hx hb d_law_726 rfl (lv_at hl 0 rfl) ?_
                                                  refine lv_iload_n hx hb d_law_727 rfl (lv_at hl 3 rfl) ?_
                                                  refine lv_iconst (v := nI 2) hx hb d_law_728 (by decide) ?_
                                                  refine lv_iadd hx hb d_law_729 ?_
                                                  obtain ⟨j207, hin, hj, hB⟩ := hB
                                                  subst hj
                                                  generalize hj207 : Int32.toNatClampNeg (x3 + (nI 2)) = j207 at hB
                                                  refine va_sld hx hb hX hbl hbA hS hin d_law_730 ?_
                                                  rw [hj207]
                                                  refine lv_if_eq (tgt := 738) hx hb d_law_731 (by decide) (fun cd => ?_) (fun cd => ?_)
                                                  · have hB := hB.1 cd
                                                    refine lv_iconst (v := nI 0) hx hb d_law_738 (by decide) ?_
                                                    obtain ⟨q208, ho208, hB⟩ := hB
                                                    have hsr := And.left hB
                                                    refine zr_callV (ci := 9) (As := [.int (xs j206), .int (nI 0)]) (rest := [.int r205]) hx hb hml hC hwk hw hS hl.1 (c_M_models l D s.heap.size q208 (xs j206) (nI 0) σ204 _ hB) mk_M_models mi_M_models ms_M_models ml_law_103 ⟨Nat.le_of_ble_eq_true rfl, Nat.le_of_ble_eq_true rfl⟩ ho208 hsr rfl (cat_8 (cat_c rfl cat_n) (Nat.le_of_ble_eq_true rfl)) d_law_739 ⟨ha1, ha2⟩ rfl (fun v σ209 H locs hp hgn hw hS => ?_)
                                                    have hg := hg.tr hgn
                                                    obtain ⟨r210, rfl, hB⟩ := hp
                                                    refine W.eq (g2 := F0 m 742 ls [.int r210, .int r205]) rfl ?_
                                                    refine lv_icmp_eq (tgt := 856) hx hb d_law_742 (by decide) (fun cd => ?_) (fun cd => ?_)
                                                    · have hB := hB.1 cd
                                                      rw [hK856] at hB
                                                      exact hB _ _ _ hg hw hS (lv_sub hl [0, 1, 2, 3] rfl) ha1 ha2
                                                    · have hB := hB.2 cd
                                                      refine lv_iconst (v := nI 0) hx hb d_law_745 (by decide) ?_
                                                      exact lw_done hx hb hr hlocks hB hS ha1 ha2 d_law_746
                                                  · have hB := hB.2 cd
                                                    refine lv_iconst (v := nI 1) hx hb d_law_734 (by decide) ?_
                                                    refine lv_goto (tgt := 739) hx hb d_law_735 (by decide) ?_
                                                    obtain ⟨q211, ho211, hB⟩ := hB
                                                    have hsr := And.left hB
                                                    refine zr_callV (ci := 9) (As := [.int (xs j206), .int (nI 1)]) (rest := [.int r205]) hx hb hml hC hwk hw hS hl.1 (c_M_models l D s.heap.size q211 (xs j206) (nI 1) σ204 _ hB) mk_M_models mi_M_models ms_M_models ml_law_103 ⟨Nat.le_of_ble_eq_true rfl, Nat.le_of_ble_eq_true rfl⟩ ho211 hsr rfl (cat_8 (cat_c rfl cat_n) (Nat.le_of_ble_eq_true rfl)) d_law_739 ⟨ha1, ha2⟩ rfl (fun v σ212 H locs hp hgn hw hS => ?_)
                                                    have hg := hg.tr hgn
                                                    obtain ⟨r213, rfl, hB⟩ := hp
                                                    refine W.eq (g2 := F0 m 742 ls [.int r213, .int r205]) rfl ?_
                                                    refine lv_icmp_eq (tgt := 856) hx hb d_law_742 (by decide) (fun cd => ?_) (fun cd => ?_)
                                                    · have hB := hB.1 cd
                                                      rw [hK856] at hB
                                                      exact hB _ _ _ hg hw hS (lv_sub hl [0, 1, 2, 3] rfl) ha1 ha2
                                                    · have hB := hB.2 cd
                                                      refine lv_iconst (v := nI 0) hx hb d_law_745 (by decide) ?_
                                                      exact lw_done hx hb hr hlocks hB hS ha1 ha2 d_law_746
                                              · have hB := hB.2 c20
                                                by_cases c21 : ((xs j1) &&& (nI 31)) = nI 21
                                                · have hB := hB.1 c21
                                                  refine lv_tableIn (tgt := 747) (off := 715) hx hb d_law_32 (by rw [c21]; decide) (by rw [c21]; decide) (by rw [c21]; decide) (by decide) ?_
                                                  refine zr_aload_n (o := o1) hx hb d_law_747 rfl (lv_at hl 1 rfl) ?_
                                                  refine lv_aload_n hx hb d_law_748 rfl (lv_at hl 0 rfl) ?_
                                                  refine lv_iload_n hx hb d_law_749 rfl (lv_at hl 3 rfl) ?_
                                                  refine lv_iconst (v := nI 1) hx hb d_law_750 (by decide) ?_
                                                  refine lv_iadd hx hb d_law_751 ?_
                                                  obtain ⟨j214, hin, hj, hB⟩ := hB
                                                  subst hj
                                                  generalize hj214 : Int32.toNatClampNeg (x3 + (nI 1)) = j214 at hB
                                                  refine va_sld hx hb hX hbl hbA hS hin d_law_752 ?_
                                                  rw [hj214]
                                                  refine lv_aload_n hx hb d_law_753 rfl (lv_at hl 0 rfl) ?_
                                                  refine lv_iload_n hx hb d_law_754 rfl (lv_at hl 3 rfl) ?_
                                                  refine lv_iconst (v := nI 2) hx hb d_law_755 (by decide) ?_
                                                  refine lv_iadd hx hb d_law_756 ?_
                                                  obtain ⟨j215, hin, hj, hB⟩ := hB
                                                  subst hj
                                                  generalize hj215 : Int32.toNatClampNeg (x3 + (nI 2)) = j215 at hB
                                                  refine va_sld hx hb hX hbl hbA hS hin d_law_757 ?_
                                                  rw [hj215]
                                                  refine lv_aload_n hx hb d_law_758 rfl (lv_at hl 0 rfl) ?_
                                                  refine lv_iload_n hx hb d_law_759 rfl (lv_at hl 3 rfl) ?_
                                                  refine lv_iconst (v := nI 3) hx hb d_law_760 (by decide) ?_
                                                  refine lv_iadd hx hb d_law_761 ?_
                                                  obtain ⟨j216, hin, hj, hB⟩ := hB
                                                  subst hj
                                                  generalize hj216 : Int32.toNatClampNeg (x3 + (nI 3)) = j216 at hB
                                                  refine va_sld hx hb hX hbl hbA hS hin d_law_762 ?_
                                                  rw [hj216]
                                                  obtain ⟨q217, ho217, hB⟩ := hB
                                                  have hsr := And.left hB
                                                  refine zr_callV (ci := 0) (As := [.int (xs j214), .int (xs j215), .int (xs j216)]) (rest := []) hx hb hml hC hwk hw hS hl.1 (c_X_paired l D s.heap.size q217 (xs j214) (xs j215) (xs j216) σ _ hB) mk_X_paired mi_X_paired ms_X_paired ml_law_104 ⟨Nat.le_of_ble_eq_true rfl, Nat.le_of_ble_eq_true rfl⟩ ho217 hsr rfl (cat_8 cat_n (Nat.le_of_ble_eq_true rfl)) d_law_763 ⟨ha1, ha2⟩ rfl (fun v σ218 H locs hp hgn hw hS => ?_)
                                                  have hg := hg.tr hgn
                                                  obtain ⟨r219, rfl, hB⟩ := hp
                                                  refine W.eq (g2 := F0 m 766 ls [.int r219]) rfl ?_
                                                  refine zr_aload_n (o := o2) hx hb d_law_766 rfl (lv_at hl 2 rfl) ?_
                                                  refine lv_aload_n hx hb d_law_767 rfl (lv_at hl 0 rfl) ?_
                                                  refine lv_iload_n hx hb d_law_768 rfl (lv_at hl 3 rfl) ?_
                                                  refine lv_iconst (v := nI 1) hx hb d_law_769 (by decide) ?_
                                                  refine lv_iadd hx hb d_law_770 ?_
                                                  obtain ⟨j220, hin, hj, hB⟩ := hB
                                                  subst hj
                                                  generalize hj220 : Int32.toNatClampNeg (x3 + (nI 1)) = j220 at hB
                                                  refine va_sld hx hb hX hbl hbA hS hin d_law_771 ?_
                                                  rw [hj220]
                                                  refine lv_aload_n hx hb d_law_772 rfl (lv_at hl 0 rfl) ?_
                                                  refine lv_iload_n hx hb d_law_773 rfl (lv_at hl 3 rfl) ?_
                                                  refine lv_iconst (v := nI 2) hx hb d_law_774 (by decide) ?_
                                                  refine lv_iadd hx hb d_law_775 ?_
                                                  obtain ⟨j221, hin, hj, hB⟩ := hB
                                                  subst hj
                                                  generalize hj221 : Int32.toNatClampNeg (x3 + (nI 2)) = j221 at hB
                                                  refine va_sld hx hb hX hbl hbA hS hin d_law_776 ?_
                                                  rw [hj221]
                                                  refine lv_aload_n hx hb d_law_777 rfl (lv_at hl 0 rfl) ?_
                                                  refine lv_iload_n hx hb d_law_778 rfl (lv_at hl 3 rfl) ?_
                                                  refine lv_iconst (v := nI 3) hx hb d_law_779 (by decide) ?_
                                                  refine lv_iadd hx hb d_law_780 ?_
                                                  obtain ⟨j222, hin, hj, hB⟩ := hB
                                                  subst hj
                                                  generalize hj222 : Int32.toNatClampNeg (x3 + (nI 3)) = j222 at hB
                                                  refine va_sld hx hb hX hbl hbA hS hin d_law_781 ?_
                                                  rw [hj222]
                                                  obtain ⟨q223, ho223, hB⟩ := hB
                                                  have hsr := And.left hB
                                                  refine zr_callV (ci := 9) (As := [.int (xs j220), .int (xs j221), .int (xs j222)]) (rest := [.int r219]) hx hb hml hC hwk hw hS hl.1 (c_M_paired l D s.heap.size q223 (xs j220) (xs j221) (xs j222) σ218 _ hB) mk_M_paired mi_M_paired ms_M_paired ml_law_107 ⟨Nat.le_of_ble_eq_true rfl, Nat.le_of_ble_eq_true rfl⟩ ho223 hsr rfl (cat_8 (cat_c rfl cat_n) (Nat.le_of_ble_eq_true rfl)) d_law_782 ⟨ha1, ha2⟩ rfl (fun v σ224 H locs hp hgn hw hS => ?_)
                                                  have hg := hg.tr hgn
                                                  obtain ⟨r225, rfl, hB⟩ := hp
                                                  refine W.eq (g2 := F0 m 785 ls [.int r225, .int r219]) rfl ?_
                                                  refine lv_icmp_eq (tgt := 856) hx hb d_law_785 (by decide) (fun cd => ?_) (fun cd => ?_)
                                                  · have hB := hB.1 cd
                                                    rw [hK856] at hB
                                                    exact hB _ _ _ hg hw hS (lv_sub hl [0, 1, 2, 3] rfl) ha1 ha2
                                                  · have hB := hB.2 cd
                                                    refine lv_iconst (v := nI 0) hx hb d_law_788 (by decide) ?_
                                                    exact lw_done hx hb hr hlocks hB hS ha1 ha2 d_law_789
                                                · have hB := hB.2 c21
                                                  by_cases c22 : ((xs j1) &&& (nI 31)) = nI 22
                                                  · have hB := hB.1 c22
                                                    refine lv_tableIn (tgt := 790) (off := 758) hx hb d_law_32 (by rw [c22]; decide) (by rw [c22]; decide) (by rw [c22]; decide) (by decide) ?_
                                                    refine zr_aload_n (o := o1) hx hb d_law_790 rfl (lv_at hl 1 rfl) ?_
                                                    refine lv_aload_n hx hb d_law_791 rfl (lv_at hl 0 rfl) ?_
                                                    refine lv_iload_n hx hb d_law_792 rfl (lv_at hl 3 rfl) ?_
                                                    refine lv_iconst (v := nI 1) hx hb d_law_793 (by decide) ?_
                                                    refine lv_iadd hx hb d_law_794 ?_
                                                    obtain ⟨j226, hin, hj, hB⟩ := hB
                                                    subst hj
                                                    generalize hj226 : Int32.toNatClampNeg (x3 + (nI 1)) = j226 at hB
                                                    refine va_sld hx hb hX hbl hbA hS hin d_law_795 ?_
                                                    rw [hj226]
                                                    refine lv_aload_n hx hb d_law_796 rfl (lv_at hl 0 rfl) ?_
                                                    refine lv_iload_n hx hb d_law_797 rfl (lv_at hl 3 rfl) ?_
                                                    refine lv_iconst (v := nI 2) hx hb d_law_798 (by decide) ?_
                                                    refine lv_iadd hx hb d_law_799 ?_
                                                    obtain ⟨j227, hin, hj, hB⟩ := hB
                                                    subst hj
                                                    generalize hj227 : Int32.toNatClampNeg (x3 + (nI 2)) = j227 at hB
                                                    refine va_sld hx hb hX hbl hbA hS hin d_law_800 ?_
                                                    rw [hj227]
                                                    refine lv_aload_n hx hb d_law_801 rfl (lv_at hl 0 rfl) ?_
                                                    refine lv_iload_n hx hb d_law_802 rfl (lv_at hl 3 rfl) ?_
                                                    refine lv_iconst (v := nI 3) hx hb d_law_803 (by decide) ?_
                                                    refine lv_iadd hx hb d_law_804 ?_
                                                    obtain ⟨j228, hin, hj, hB⟩ := hB
                                                    subst hj
                                                    generalize hj228 : Int32.toNatClampNeg (x3 + (nI 3)) = j228 at hB
                                                    refine va_sld hx hb hX hbl hbA hS hin d_law_805 ?_
                                                    rw [hj228]
                                                    obtain ⟨q229, ho229, hB⟩ := hB
                                                    have hsr := And.left hB
                                                    refine zr_callV (ci := 0) (As := [.int (xs j226), .int (xs j227), .int (xs j228)]) (rest := []) hx hb hml hC hwk hw hS hl.1 (c_X_alike l D s.heap.size q229 (xs j226) (xs j227) (xs j228) σ _ hB) mk_X_alike mi_X_alike ms_X_alike ml_law_108 ⟨Nat.le_of_ble_eq_true rfl, Nat.le_of_ble_eq_true rfl⟩ ho229 hsr rfl (cat_8 cat_n (Nat.le_of_ble_eq_true rfl)) d_law_806 ⟨ha1, ha2⟩ rfl (fun v σ230 H locs hp hgn hw hS => ?_)
                                                    have hg := hg.tr hgn
                                                    obtain ⟨r231, rfl, hB⟩ := hp
                                                    refine W.eq (g2 := F0 m 809 ls [.int r231]) rfl ?_
                                                    refine zr_aload_n (o := o2) hx hb d_law_809 rfl (lv_at hl 2 rfl) ?_
                                                    refine lv_aload_n hx hb d_law_810 rfl (lv_at hl 0 rfl) ?_
                                                    refine lv_iload_n hx hb d_law_811 rfl (lv_at hl 3 rfl) ?_
                                                    refine lv_iconst (v := nI 1) hx hb d_law_812 (by decide) ?_
                                                    refine lv_iadd hx hb d_law_813 ?_
                                                    obtain ⟨j232, hin, hj, hB⟩ := hB
                                                    subst hj
                                                    generalize hj232 : Int32.toNatClampNeg (x3 + (nI 1)) = j232 at hB
                                                    refine va_sld hx hb hX hbl hbA hS hin d_law_814 ?_
                                                    rw [hj232]
                                                    refine lv_aload_n hx hb d_law_815 rfl (lv_at hl 0 rfl) ?_
                                                    refine lv_iload_n hx hb d_law_816 rfl (lv_at hl 3 rfl) ?_
                                                    refine lv_iconst (v := nI 2) hx hb d_law_817 (by decide) ?_
                                                    refine lv_iadd hx hb d_law_818 ?_
                                                    obtain ⟨j233, hin, hj, hB⟩ := hB
                                                    subst hj
                                                    generalize hj233 : Int32.toNatClampNeg (x3 + (nI 2)) = j233 at hB
                                                    refine va_sld hx hb hX hbl hbA hS hin d_law_819 ?_
                                                    rw [hj233]
                                                    refine lv_aload_n hx hb d_law_820 rfl (lv_at hl 0 rfl) ?_
                                                    refine lv_iload_n hx hb d_law_821 rfl (lv_at hl 3 rfl) ?_
                                                    refine lv_iconst (v := nI 3) hx hb d_law_822 (by decide) ?_
                                                    refine lv_iadd hx hb d_law_823 ?_
                                                    obtain ⟨j234, hin, hj, hB⟩ := hB
                                                    subst hj
                                                    generalize hj234 : Int32.toNatClampNeg (x3 + (nI 3)) = j234 at hB
                                                    refine va_sld hx hb hX hbl hbA hS hin d_law_824 ?_
                                                    rw [hj234]
                                                    obtain ⟨q235, ho235, hB⟩ := hB
                                                    have hsr := And.left hB
                                                    refine zr_callV (ci := 9) (As := [.int (xs j232), .int (xs j233), .int (xs j234)]) (rest := [.int r231]) hx hb hml hC hwk hw hS hl.1 (c_M_alike l D s.heap.size q235 (xs j232) (xs j233) (xs j234) σ230 _ hB) mk_M_alike mi_M_alike ms_M_alike ml_law_111 ⟨Nat.le_of_ble_eq_true rfl, Nat.le_of_ble_eq_true rfl⟩ ho235 hsr rfl (cat_8 (cat_c rfl cat_n) (Nat.le_of_ble_eq_true rfl)) d_law_825 ⟨ha1, ha2⟩ rfl (fun v σ236 H locs hp hgn hw hS => ?_)
                                                    have hg := hg.tr hgn
                                                    obtain ⟨r237, rfl, hB⟩ := hp
                                                    refine W.eq (g2 := F0 m 828 ls [.int r237, .int r231]) rfl ?_
                                                    refine lv_icmp_eq (tgt := 856) hx hb d_law_828 (by decide) (fun cd => ?_) (fun cd => ?_)
                                                    · have hB := hB.1 cd
                                                      rw [hK856] at hB
                                                      exact hB _ _ _ hg hw hS (lv_sub hl [0, 1, 2, 3] rfl) ha1 ha2
                                                    · have hB := hB.2 cd
                                                      refine lv_iconst (v := nI 0) hx hb d_law_831 (by decide) ?_
                                                      exact lw_done hx hb hr hlocks hB hS ha1 ha2 d_law_832
                                                  · have hB := hB.2 c22
                                                    by_cases c23 : ((xs j1) &&& (nI 31)) = nI 23
                                                    · have hB := hB.1 c23
                                                      refine lv_tableIn (tgt := 833) (off := 801) hx hb d_law_32 (by rw [c23]; decide) (by rw [c23]; decide) (by rw [c23]; decide) (by decide) ?_
                                                      refine zr_aload_n (o := o1) hx hb d_law_833 rfl (lv_at hl 1 rfl) ?_
                                                      refine lv_aload_n hx hb d_law_834 rfl (lv_at hl 0 rfl) ?_
                                                      refine lv_iload_n hx hb d_law_835 rfl (lv_at hl 3 rfl) ?_
                                                      refine lv_iconst (v := nI 1) hx hb d_law_836 (by decide) ?_
                                                      refine lv_iadd hx hb d_law_837 ?_
                                                      obtain ⟨j238, hin, hj, hB⟩ := hB
                                                      subst hj
                                                      generalize hj238 : Int32.toNatClampNeg (x3 + (nI 1)) = j238 at hB
                                                      refine va_sld hx hb hX hbl hbA hS hin d_law_838 ?_
                                                      rw [hj238]
                                                      obtain ⟨q239, ho239, hB⟩ := hB
                                                      obtain ⟨c240, d241, hc1, hc2, hB⟩ := hB
                                                      have hsr := And.left hB
                                                      refine zr_callV (ci := 0) (As := [.int (xs j238)]) (rest := []) hx hb hml hC hwk hw hS hl.1 (c_X_count l D s.heap.size q239 (xs j238) σ c240 d241 _ hB) mk_X_count mi_X_count ms_X_count ml_law_112 ⟨Nat.le_of_ble_eq_true rfl, Nat.le_of_ble_eq_true rfl⟩ ho239 hsr rfl (cat_8 cat_n (Nat.le_of_ble_eq_true rfl)) d_law_839 ⟨hc1, hc2⟩ rfl (fun v σ242 H locs hp hgn hw hS => ?_)
                                                      have hg := hg.tr hgn
                                                      have ha1 := hc1
                                                      have ha2 := hc2
                                                      obtain ⟨r243, rfl, hB⟩ := hp
                                                      refine W.eq (g2 := F0 m 842 ls [.int r243]) rfl ?_
                                                      refine zr_aload_n (o := o2) hx hb d_law_842 rfl (lv_at hl 2 rfl) ?_
                                                      refine lv_aload_n hx hb d_law_843 rfl (lv_at hl 0 rfl) ?_
                                                      refine lv_iload_n hx hb d_law_844 rfl (lv_at hl 3 rfl) ?_
                                                      refine lv_iconst (v := nI 1) hx hb d_law_845 (by decide) ?_
                                                      refine lv_iadd hx hb d_law_846 ?_
                                                      obtain ⟨j244, hin, hj, hB⟩ := hB
                                                      subst hj
                                                      generalize hj244 : Int32.toNatClampNeg (x3 + (nI 1)) = j244 at hB
                                                      refine va_sld hx hb hX hbl hbA hS hin d_law_847 ?_
                                                      rw [hj244]
                                                      obtain ⟨q245, ho245, hB⟩ := hB
                                                      have hsr := And.left hB
                                                      refine zr_callV (ci := 9) (As := [.int (xs j244)]) (rest := [.int r243]) hx hb hml hC hwk hw hS hl.1 (c_M_count l D s.heap.size q245 (xs j244) σ242 _ hB) mk_M_count mi_M_count ms_M_count ml_law_115 ⟨Nat.le_of_ble_eq_true rfl, Nat.le_of_ble_eq_true rfl⟩ ho245 hsr rfl (cat_8 (cat_c rfl cat_n) (Nat.le_of_ble_eq_true rfl)) d_law_848 ⟨ha1, ha2⟩ rfl (fun v σ246 H locs hp hgn hw hS => ?_)
                                                      have hg := hg.tr hgn
                                                      obtain ⟨r247, rfl, hB⟩ := hp
                                                      refine W.eq (g2 := F0 m 851 ls [.int r247, .int r243]) rfl ?_
                                                      refine lv_icmp_eq (tgt := 856) hx hb d_law_851 (by decide) (fun cd => ?_) (fun cd => ?_)
                                                      · have hB := hB.1 cd
                                                        rw [hK856] at hB
                                                        exact hB _ _ _ hg hw hS (lv_sub hl [0, 1, 2, 3] rfl) ha1 ha2
                                                      · have hB := hB.2 cd
                                                        refine lv_iconst (v := nI 0) hx hb d_law_854 (by decide) ?_
                                                        exact lw_done hx hb hr hlocks hB hS ha1 ha2 d_law_855
                                                    · have hB := hB.2 c23
                                                      refine lv_tableOut (tgt := 856) hx hb d_law_32 (sw_out (n := 24) (by decide) (fun k hk => ?_)) (by decide) ?_
                                                      · match k, hk with
                                                        | 0, _ => exact c0
                                                        | 1, _ => exact c1
                                                        | 2, _ => exact c2
                                                        | 3, _ => exact c3
                                                        | 4, _ => exact c4
                                                        | 5, _ => exact c5
                                                        | 6, _ => exact c6
                                                        | 7, _ => exact c7
                                                        | 8, _ => exact c8
                                                        | 9, _ => exact c9
                                                        | 10, _ => exact c10
                                                        | 11, _ => exact c11
                                                        | 12, _ => exact c12
                                                        | 13, _ => exact c13
                                                        | 14, _ => exact c14
                                                        | 15, _ => exact c15
                                                        | 16, _ => exact c16
                                                        | 17, _ => exact c17
                                                        | 18, _ => exact c18
                                                        | 19, _ => exact c19
                                                        | 20, _ => exact c20
                                                        | 21, _ => exact c21
                                                        | 22, _ => exact c22
                                                        | 23, _ => exact c23
                                                        | k + 24, h => exact absurd h (by omega)
                                                      · skip
                                                        rw [hK856] at hB
                                                        exact hB _ _ _ hg hw hS (lv_sub hl [0, 1, 2, 3] rfl) ha1 ha2
  · intro o1 o2 x3 u0 y1 y2 σ ca cb hB
    rw [hK582]
    intro H locs ls hg hw hS hl ha1 ha2
    refine lv_aload_n hx hb d_law_582 rfl (lv_at hl 0 rfl) ?_
    refine lv_iload_n hx hb d_law_583 rfl (lv_at hl 3 rfl) ?_
    refine lv_iconst (v := nI 3) hx hb d_law_584 (by decide) ?_
    refine lv_iadd hx hb d_law_585 ?_
    obtain ⟨j248, hin, hj, hB⟩ := hB
    subst hj
    generalize hj248 : Int32.toNatClampNeg (x3 + (nI 3)) = j248 at hB
    refine va_sld hx hb hX hbl hbA hS hin d_law_586 ?_
    rw [hj248]
    obtain ⟨q249, ho249, hB⟩ := hB
    have hsr := And.left hB
    refine zr_callV (ci := 0) (As := [.int y1, .int y2, .int (xs j248)]) (rest := []) hx hb hml hC hwk hw hS hl.1 (c_X_side l D s.heap.size q249 y1 y2 (xs j248) σ _ hB) mk_X_side mi_X_side ms_X_side ml_law_87 ⟨Nat.le_of_ble_eq_true rfl, Nat.le_of_ble_eq_true rfl⟩ ho249 hsr rfl (cat_8 cat_n (Nat.le_of_ble_eq_true rfl)) d_law_587 ⟨ha1, ha2⟩ rfl (fun v σ250 H locs hp hgn hw hS => ?_)
    have hg := hg.tr hgn
    obtain ⟨r251, rfl, hB⟩ := hp
    refine W.eq (g2 := F0 m 590 ls [.int r251]) rfl ?_
    refine zr_aload_n (o := o2) hx hb d_law_590 rfl (lv_at hl 2 rfl) ?_
    refine lv_aload_n hx hb d_law_591 rfl (lv_at hl 0 rfl) ?_
    refine lv_iload_n hx hb d_law_592 rfl (lv_at hl 3 rfl) ?_
    refine lv_iconst (v := nI 1) hx hb d_law_593 (by decide) ?_
    refine lv_iadd hx hb d_law_594 ?_
    obtain ⟨j252, hin, hj, hB⟩ := hB
    subst hj
    generalize hj252 : Int32.toNatClampNeg (x3 + (nI 1)) = j252 at hB
    refine va_sld hx hb hX hbl hbA hS hin d_law_595 ?_
    rw [hj252]
    refine lv_aload_n hx hb d_law_596 rfl (lv_at hl 0 rfl) ?_
    refine lv_iload_n hx hb d_law_597 rfl (lv_at hl 3 rfl) ?_
    refine lv_iconst (v := nI 2) hx hb d_law_598 (by decide) ?_
    refine lv_iadd hx hb d_law_599 ?_
    obtain ⟨j253, hin, hj, hB⟩ := hB
    subst hj
    generalize hj253 : Int32.toNatClampNeg (x3 + (nI 2)) = j253 at hB
    refine va_sld hx hb hX hbl hbA hS hin d_law_600 ?_
    rw [hj253]
    refine lv_if_eq (tgt := 608) hx hb d_law_601 (by decide) (fun cd => ?_) (fun cd => ?_)
    · have hB := hB.1 cd
      refine lv_iconst (v := nI 0) hx hb d_law_608 (by decide) ?_
      refine lv_aload_n hx hb d_law_609 rfl (lv_at hl 0 rfl) ?_
      refine lv_iload_n hx hb d_law_610 rfl (lv_at hl 3 rfl) ?_
      refine lv_iconst (v := nI 3) hx hb d_law_611 (by decide) ?_
      refine lv_iadd hx hb d_law_612 ?_
      obtain ⟨j254, hin, hj, hB⟩ := hB
      subst hj
      generalize hj254 : Int32.toNatClampNeg (x3 + (nI 3)) = j254 at hB
      refine va_sld hx hb hX hbl hbA hS hin d_law_613 ?_
      rw [hj254]
      obtain ⟨q255, ho255, hB⟩ := hB
      have hsr := And.left hB
      refine zr_callV (ci := 9) (As := [.int (xs j252), .int (nI 0), .int (xs j254)]) (rest := [.int r251]) hx hb hml hC hwk hw hS hl.1 (c_M_side l D s.heap.size q255 (xs j252) (nI 0) (xs j254) σ250 _ hB) mk_M_side mi_M_side ms_M_side ml_law_91 ⟨Nat.le_of_ble_eq_true rfl, Nat.le_of_ble_eq_true rfl⟩ ho255 hsr rfl (cat_8 (cat_c rfl cat_n) (Nat.le_of_ble_eq_true rfl)) d_law_614 ⟨ha1, ha2⟩ rfl (fun v σ256 H locs hp hgn hw hS => ?_)
      have hg := hg.tr hgn
      obtain ⟨r257, rfl, hB⟩ := hp
      refine W.eq (g2 := F0 m 617 ls [.int r257, .int r251]) rfl ?_
      refine lv_icmp_eq (tgt := 856) hx hb d_law_617 (by decide) (fun cd => ?_) (fun cd => ?_)
      · have hB := hB.1 cd
        rw [hK856] at hB
        exact hB _ _ _ hg hw hS (lv_sub hl [0, 1, 2, 3] rfl) ha1 ha2
      · have hB := hB.2 cd
        refine lv_iconst (v := nI 0) hx hb d_law_620 (by decide) ?_
        exact lw_done hx hb hr hlocks hB hS ha1 ha2 d_law_621
    · have hB := hB.2 cd
      refine lv_iconst (v := nI 1) hx hb d_law_604 (by decide) ?_
      refine lv_goto (tgt := 609) hx hb d_law_605 (by decide) ?_
      refine lv_aload_n hx hb d_law_609 rfl (lv_at hl 0 rfl) ?_
      refine lv_iload_n hx hb d_law_610 rfl (lv_at hl 3 rfl) ?_
      refine lv_iconst (v := nI 3) hx hb d_law_611 (by decide) ?_
      refine lv_iadd hx hb d_law_612 ?_
      obtain ⟨j258, hin, hj, hB⟩ := hB
      subst hj
      generalize hj258 : Int32.toNatClampNeg (x3 + (nI 3)) = j258 at hB
      refine va_sld hx hb hX hbl hbA hS hin d_law_613 ?_
      rw [hj258]
      obtain ⟨q259, ho259, hB⟩ := hB
      have hsr := And.left hB
      refine zr_callV (ci := 9) (As := [.int (xs j252), .int (nI 1), .int (xs j258)]) (rest := [.int r251]) hx hb hml hC hwk hw hS hl.1 (c_M_side l D s.heap.size q259 (xs j252) (nI 1) (xs j258) σ250 _ hB) mk_M_side mi_M_side ms_M_side ml_law_91 ⟨Nat.le_of_ble_eq_true rfl, Nat.le_of_ble_eq_true rfl⟩ ho259 hsr rfl (cat_8 (cat_c rfl cat_n) (Nat.le_of_ble_eq_true rfl)) d_law_614 ⟨ha1, ha2⟩ rfl (fun v σ260 H locs hp hgn hw hS => ?_)
      have hg := hg.tr hgn
      obtain ⟨r261, rfl, hB⟩ := hp
      refine W.eq (g2 := F0 m 617 ls [.int r261, .int r251]) rfl ?_
      refine lv_icmp_eq (tgt := 856) hx hb d_law_617 (by decide) (fun cd => ?_) (fun cd => ?_)
      · have hB := hB.1 cd
        rw [hK856] at hB
        exact hB _ _ _ hg hw hS (lv_sub hl [0, 1, 2, 3] rfl) ha1 ha2
      · have hB := hB.2 cd
        refine lv_iconst (v := nI 0) hx hb d_law_620 (by decide) ?_
        exact lw_done hx hb hr hlocks hB hS ha1 ha2 d_law_621
  · intro o1 o2 x3 σ ca cb hB
    rw [hK856]
    intro H locs ls hg hw hS hl ha1 ha2
    refine lv_iinc (v := x3 + nI 4) (lv' := [(3, .int (x3 + nI 4)), (0, .ref b0), (1, va_rf o1), (2, va_rf o2)]) hx hb d_law_856 hl (k := 3) rfl rfl (by decide) (congrArg (List.cons _) (fl_k rfl rfl (fl_k rfl (va_rf_cat _) (fl_k rfl (va_rf_cat _) (fl_d rfl fl_n))))) (fun ls hl => ?_)
    refine lv_goto (tgt := 18) hx hb d_law_859 (by decide) ?_
    rw [hK18] at hB
    exact hB _ _ _ hg hw hS (lv_sub hl [1, 2, 3, 0] rfl) ha1 ha2
