/-! Births, static tables, calls, ends. -/
/-- shapes stay -/
def gr (σ σ' : St) : Prop := ∀ (q : Nat) (sp : Shp), s_s σ q = some sp → s_s σ' q = some sp
theorem gr.rf {σ : St} : gr σ σ := fun _ _ h => h
theorem gr.tr {a b c : St} (h : gr a b) (k : gr b c) : gr a c := fun q sp g => k q sp (h q sp g)
theorem wh.gnew {D : va_G} {B : Nat} {σ : St} {U : State} {H : Heap} (h : wh D B σ U H) (sp : Shp) : gr σ (w_new σ sp) := by
  intro q sq hq
  show (if q = s_n σ then some sp else s_s σ q) = some sq
  rw [if_neg, hq]
  have := h.lt hq
  rw [h.1] at this
  omega
def zQ (D : va_G) (B : Nat) (σ0 : St) (post : Option Value → St → Prop) : Array Value → State → Outcome → State → Prop := fun _ st oc t => (∃ (v : Option Value) (σ' : St), oc = .returned v ∧ post v σ' ∧ gr σ0 σ' ∧ wh D B σ' t t.heap) ∧ va_F (zA B) st t
def zQi (Q : Int32 → St → Prop) : Option Value → St → Prop := fun v σ => ∃ r, v = some (.int r) ∧ Q r σ
def zQv (Q : St → Prop) : Option Value → St → Prop := fun v σ => v = none ∧ Q σ
def zQr (Q : Option Nat → St → Prop) : Option Value → St → Prop := fun v σ => ∃ o, v = some (va_rf o) ∧ Q o σ
/-- a method's contract -/
def zM (l : Launch) (y : MethodName) (b : ByteArray) (maxL : Nat) (ret : Option FieldType) (rm : Room) (D : va_G) (B : Nat) (av : List Value) (σ : St) (post : Option Value → St → Prop) : Prop :=
  Met l y (Cond.code y b maxL ret :: zT) rm (va_Pc av (zP D B σ)) (zQ D B σ post) rm.cells rm.slots (zA B)
theorem zT_good {w : Cond} (h : w ∈ zT) : (w.onTables && w.keeps) = true ∨ ∃ ty, w = .arrayClass ty := good_of_word (List.mem_filter.mp h).2
theorem zT_goodIn {w : Cond} (h : w ∈ zT) : GoodIn zT (w :: zT) := by
  intro x hx
  rcases List.mem_cons.mp hx with rfl | hx
  · exact ⟨h, zT_good h⟩
  · exact ⟨hx, zT_good hx⟩
def fpl (ty : FieldType) : Bool := match ty with | .float => false | .double => false | _ => true
theorem fY_pl : ∀ ci, ci < 10 → ∀ k, k < fN ci → fpl (fY ci k) = true := by decide +kernel
theorem dv_vy {ty : FieldType} (h : fpl ty = true) : defaultValue ty = vy ty 0 none 0 := by
  cases ty <;> first | rfl | (simp [fpl] at h)
def mn (x y : Int32) : Int32 := if y < x then y else x
def mx (x y : Int32) : Int32 := if x < y then y else x
section ZC
variable {p : Program} {l : Launch} {e : Env} {R : Room} {s : State} {m : MethodId} {args : Array Value} {below : List Frame} {meth : Method} {c : Code} {H : Heap} {locs : List Loc} {cells slots : Nat} {Q : State → Prop}
variable {cc : ByteArray} {pc : Nat} {ls : Array Slot} {rest : List Value} {D : va_G} {B : Nat} {σ : St} {own : String}
theorem zr_new {ci index : Nat} (hexec : p.tables.exec = Jvm.exec) (hb : c.code = cc) (hC : zC D s m args own) (hB : B ≤ s.heap.size) (hw : wh D B σ s H) (hS : va_S (zA B) s.heap H locs) (hci : ci < 10) (hcl : Cond.classLink own index (fC ci) ∈ zT) (hinst : Cond.instantiable (fC ci) (fN ci) ∈ zT) (hini : Cond.initialized (fC ci) ∈ zT)
    (hcells : cells + 1 ≤ R.cells) (hslots : slots + fN ci ≤ R.slots) (hdg : decode cc pc = .ok (.new index, 3))
    (kk : ∀ H1 : Heap, wh D B (w_new σ (.inl ci)) s H1 → va_S (zA B) s.heap H1 locs → W p l e R s m args below meth c H1 locs (cells + 1) (slots + fN ci) Q (F0 m (pc + 3) ls (va_rf (some (s_n σ)) :: rest))) : W p l e R s m args below meth c H locs cells slots Q (F0 m pc ls rest) := by
  obtain ⟨hown, hts, hK⟩ := hC
  obtain ⟨hin, hty, hnm⟩ := cl_ok ci hci
  have hKn := hK.1 ci _ (fc_ok ci hci)
  refine W.newcK hexec hb hown (hts _ hcl) (hts _ hinst) (hts _ hini) rfl hdg hcells hslots hKn.2.1 hw.1 fun H1 kC hkC e1 z1 o1 => ?_
  refine kk H1 (hw.new (Nat.le_trans hB hS.1) (by rw [z1, ← hw.1]) (fun a ha => o1 a (by rw [← hw.1]; exact ha)) ⟨hci, ?_⟩) ⟨Nat.le_trans hS.1 (by rw [z1, ← hw.1]; omega), fun x h1 h2 => (o1 x (by rw [← hw.1]; exact Nat.lt_of_lt_of_le h1 hS.1)).trans (hS.2.1 x h1 h2), hS.2.2⟩
  rw [← hw.1] at e1
  refine (u_born (fY ci) hts hin hKn hkC e1 hty).to (fun k hk => ?_)
  rw [dv_vy (fY_pl ci hci k hk)]
  show _ = vy _ (if H.size = s_n σ then 0 else _) (if H.size = s_n σ then none else _) (if H.size = s_n σ then 0 else _)
  rw [if_pos hw.1, if_pos hw.1, if_pos hw.1]
theorem zr_newa {t : Nat} {atype : ArrayType} {n : Int32} {N : Nat} (hexec : p.tables.exec = Jvm.exec) (hb : c.code = cc) (hC : zC D s m args own) (hB : B ≤ s.heap.size) (hw : wh D B σ s H) (hS : va_S (zA B) s.heap H locs) (hac : Cond.arrayClass (newarray.typeOf atype) ∈ zT) (ht : newarray.typeOf atype = aty t) (hpl : fpl (newarray.typeOf atype) = true)
    (hn : n = nI N) (hN : N ≤ 16777216) (hcells : cells + 1 ≤ R.cells) (hslots : slots + N ≤ R.slots) (hdg : decode cc pc = .ok (.newarray atype, 2))
    (kk : ∀ H1 : Heap, wh D B (w_new σ (.inr (t, N))) s H1 → va_S (zA B) s.heap H1 locs → W p l e R s m args below meth c H1 locs (cells + 1) (slots + N) Q (F0 m (pc + 2) ls (va_rf (some (s_n σ)) :: rest))) : W p l e R s m args below meth c H locs cells slots Q (F0 m pc ls (.int n :: rest)) := by
  obtain ⟨hown, hts, hK⟩ := hC
  subst hn
  have hbytes : N * componentBytes (newarray.typeOf atype) ≤ 536870912 := by
    have : componentBytes (newarray.typeOf atype) ≤ 8 := by cases atype <;> exact Nat.le_of_ble_eq_true rfl
    calc N * componentBytes (newarray.typeOf atype) ≤ 16777216 * 8 := Nat.mul_le_mul hN this
      _ ≤ 536870912 := by decide
  refine va_newaK hexec hb (hts _ hac) rfl hdg rfl (nI_pos (by omega)) (nI_clamp (by omega)) hbytes hcells hslots hw.1 fun H1 cA e1 z1 o1 hAr hNm => ?_
  refine kk H1 (hw.new (Nat.le_trans hB hS.1) (by rw [z1, ← hw.1]) (fun a ha => o1 a (by rw [← hw.1]; exact ha)) ⟨cA, ?_, by rw [← ht]; exact hAr, by rw [← ht]; cases atype <;> exact hNm⟩) ⟨Nat.le_trans hS.1 (by rw [z1, ← hw.1]; omega), fun x h1 h2 => (o1 x (by rw [← hw.1]; exact Nat.lt_of_lt_of_le h1 hS.1)).trans (hS.2.1 x h1 h2), hS.2.2⟩
  rw [hw.1, e1]
  congr 2
  funext j
  rw [dv_vy hpl, ht]
  show _ = vy _ (if s_n σ = s_n σ then 0 else _) (if s_n σ = s_n σ then none else _) (if s_n σ = s_n σ then 0 else _)
  rw [if_pos rfl, if_pos rfl, if_pos rfl]
theorem zr_newq {t index : Nat} {C : String} {n : Int32} {N : Nat} (hexec : p.tables.exec = Jvm.exec) (hb : c.code = cc) (hC : zC D s m args own) (hB : B ≤ s.heap.size) (hw : wh D B σ s H) (hS : va_S (zA B) s.heap H locs) (hcl : Cond.classLink own index C ∈ zT) (hover : va_AO C s) (ht : aty t = .object C)
    (hn : n = nI N) (hN : N ≤ 16777216) (hcells : cells + 1 ≤ R.cells) (hslots : slots + N ≤ R.slots) (hdg : decode cc pc = .ok (.anewarray index, 3))
    (kk : ∀ H1 : Heap, wh D B (w_new σ (.inr (t, N))) s H1 → va_S (zA B) s.heap H1 locs → W p l e R s m args below meth c H1 locs (cells + 1) (slots + N) Q (F0 m (pc + 3) ls (va_rf (some (s_n σ)) :: rest))) : W p l e R s m args below meth c H locs cells slots Q (F0 m pc ls (.int n :: rest)) := by
  obtain ⟨hown, hts, hK⟩ := hC
  subst hn
  have hcl2 : (nI N).toNatClampNeg = N := nI_clamp (by omega)
  refine W.anew hexec hb hown (hts _ hcl) (va_AO.use hover) rfl hdg rfl (nI_pos (by omega)) (by rw [hcl2]; omega) hcells (by rw [hcl2]; exact hslots) fun cA kA comp f1 f2 f3 f4 => ?_
  rw [hcl2]
  generalize hH1 : H.push ({ cls := cA, slots := Array.replicate N .null, vm := .none } : Cell) = H1
  have z1 : H1.size = H.size + 1 := by rw [← hH1, Array.size_push]
  have e1 : H1[H.size]? = some (arrV cA N (fun _ => .null)) := by rw [← hH1, Array.getElem?_push_size, ← arrV_new]
  have o1 : ∀ q : Nat, q < H.size → H1[q]? = H[q]? := fun q hq => by rw [← hH1, Array.getElem?_push, if_neg (Nat.ne_of_lt hq)]
  have hAr : ArrOfT s cA (.object C) := fun N z => ⟨(fun k h => by cases h), kA, f2, comp, f3⟩
  rw [hw.1]
  refine kk H1 (hw.new (Nat.le_trans hB hS.1) z1 o1 ⟨cA, ?_, by rw [ht]; exact hAr, by rw [ht]; exact ⟨kA, comp, f2, f3, f4, f1⟩⟩) ⟨Nat.le_trans hS.1 (by omega), fun x h1 h2 => (o1 x (Nat.lt_of_lt_of_le h1 hS.1)).trans (hS.2.1 x h1 h2), hS.2.2⟩
  rw [e1]
  congr 2
  funext j
  unfold ev
  rw [ht]
  show Value.null = va_rf (if H.size = s_n σ then none else _)
  rw [if_pos hw.1]
  rfl
/-! the static tables -/
theorem zr_getsP {tP tR index : Nat} (hexec : p.tables.exec = Jvm.exec) (hb : c.code = cc) (hC : zC D s m args own) (hZ : zs B tP tR s s.heap) (hS : va_S (zA B) s.heap H locs) (hl : Cond.fieldLink own index "LawWorlds$Codes" "POWERS_OF_THREE" "[I" ∈ zT) (hdg : decode cc pc = .ok (.getstatic index, 3))
    (kk : W p l e R s m args below meth c H locs cells slots Q (F0 m (pc + 3) ls (.ref tP :: rest))) : W p l e R s m args below meth c H locs cells slots Q (F0 m pc ls rest) := va_gets hexec hb hZ.1 hS hC.1 (hC.2.1 _ hl) (fun _ h => h) hdg kk
theorem zr_getsR {tP tR index : Nat} (hexec : p.tables.exec = Jvm.exec) (hb : c.code = cc) (hC : zC D s m args own) (hZ : zs B tP tR s s.heap) (hS : va_S (zA B) s.heap H locs) (hl : Cond.fieldLink own index "LawWorlds$Codes" "RENAMINGS" "[I" ∈ zT) (hdg : decode cc pc = .ok (.getstatic index, 3))
    (kk : W p l e R s m args below meth c H locs cells slots Q (F0 m (pc + 3) ls (.ref tR :: rest))) : W p l e R s m args below meth c H locs cells slots Q (F0 m pc ls rest) := va_gets hexec hb hZ.2.2.1 hS hC.1 (hC.2.1 _ hl) (fun _ h => h) hdg kk
theorem zr_tiP {tP tR : Nat} {i : Int32} (hexec : p.tables.exec = Jvm.exec) (hb : c.code = cc) (hZ : zs B tP tR s s.heap) (hS : va_S (zA B) s.heap H locs) (hin : vp_in i 9) (hdg : decode cc pc = .ok (.iaload, 1))
    (kk : W p l e R s m args below meth c H locs cells slots Q (F0 m (pc + 1) ls (.int (pw3 i.toNatClampNeg) :: rest))) : W p l e R s m args below meth c H locs cells slots Q (F0 m pc ls (.int i :: .ref tP :: rest)) := va_ti hexec hb hZ.2.1 hS hin rfl hdg kk
theorem zr_tiR {tP tR : Nat} {i : Int32} (hexec : p.tables.exec = Jvm.exec) (hb : c.code = cc) (hZ : zs B tP tR s s.heap) (hS : va_S (zA B) s.heap H locs) (hin : vp_in i 18) (hdg : decode cc pc = .ok (.iaload, 1))
    (kk : W p l e R s m args below meth c H locs cells slots Q (F0 m (pc + 1) ls (.int (rnm i.toNatClampNeg) :: rest))) : W p l e R s m args below meth c H locs cells slots Q (F0 m pc ls (.int i :: .ref tR :: rest)) := va_ti hexec hb hZ.2.2.2 hS hin rfl hdg kk
theorem zr_tlP {tP tR : Nat} (hexec : p.tables.exec = Jvm.exec) (hb : c.code = cc) (hZ : zs B tP tR s s.heap) (hS : va_S (zA B) s.heap H locs) (hdg : decode cc pc = .ok (.arraylength, 1))
    (kk : W p l e R s m args below meth c H locs cells slots Q (F0 m (pc + 1) ls (.int (nI 9) :: rest))) : W p l e R s m args below meth c H locs cells slots Q (F0 m pc ls (.ref tP :: rest)) := va_tlen hexec hb hZ.2.1 hS rfl hdg kk
theorem zr_tlR {tP tR : Nat} (hexec : p.tables.exec = Jvm.exec) (hb : c.code = cc) (hZ : zs B tP tR s s.heap) (hS : va_S (zA B) s.heap H locs) (hdg : decode cc pc = .ok (.arraylength, 1))
    (kk : W p l e R s m args below meth c H locs cells slots Q (F0 m (pc + 1) ls (.int (nI 18) :: rest))) : W p l e R s m args below meth c H locs cells slots Q (F0 m pc ls (.ref tR :: rest)) := va_tlen hexec hb hZ.2.2.2 hS rfl hdg kk
/-! ends -/
theorem zr_iret {σ0 : St} {Q' : Int32 → St → Prop} {v : Int32} (hexec : p.tables.exec = Jvm.exec) (hb : c.code = cc) (hr : meth.sig.returnType = some .int) (hlocks : meth.locks = false) (hq : Q' v σ) (hg : gr σ0 σ) (hw : wh D B σ s H) (hS : va_S (zA B) s.heap H locs) (hdg : decode cc pc = .ok (.ireturn, 1)) :
    W p l e R s m args below meth c H locs cells slots (MQ below (zQ D B σ0 (zQi Q')) args s cells slots (zA B)) (F0 m pc ls [.int v]) :=
  W.iret hexec hb hr (fun t ht hW => ⟨⟨_, σ, rfl, ⟨v, rfl, hq⟩, hg, by rw [ht]; exact hw.moved hW.alike⟩, hS.F ht⟩) hS.2.2 hdg hlocks
theorem zr_zret {σ0 : St} {Q' : Int32 → St → Prop} {v : Int32} (hexec : p.tables.exec = Jvm.exec) (hb : c.code = cc) (hr : meth.sig.returnType = some .boolean) (hlocks : meth.locks = false) (hv : v = 0 ∨ v = 1) (hq : Q' v σ) (hg : gr σ0 σ) (hw : wh D B σ s H) (hS : va_S (zA B) s.heap H locs) (hdg : decode cc pc = .ok (.ireturn, 1)) :
    W p l e R s m args below meth c H locs cells slots (MQ below (zQ D B σ0 (zQi Q')) args s cells slots (zA B)) (F0 m pc ls [.int v]) :=
  W.zret hexec hb hr (by rcases hv with rfl | rfl <;> rfl) (fun t ht hW => ⟨⟨_, σ, rfl, ⟨v, rfl, hq⟩, hg, by rw [ht]; exact hw.moved hW.alike⟩, hS.F ht⟩) hS.2.2 hdg hlocks
theorem zr_vret {σ0 : St} {Q' : St → Prop} (hexec : p.tables.exec = Jvm.exec) (hb : c.code = cc) (hr : meth.sig.returnType = none) (hlocks : meth.locks = false) (hq : Q' σ) (hg : gr σ0 σ) (hw : wh D B σ s H) (hS : va_S (zA B) s.heap H locs) (hdg : decode cc pc = .ok (.return_, 1)) :
    W p l e R s m args below meth c H locs cells slots (MQ below (zQ D B σ0 (zQv Q')) args s cells slots (zA B)) (F0 m pc ls []) :=
  W.vret hexec hb hr (fun t ht hW => ⟨⟨_, σ, rfl, ⟨rfl, hq⟩, hg, by rw [ht]; exact hw.moved hW.alike⟩, hS.F ht⟩) hS.2.2 hdg hlocks
theorem zr_aret {σ0 : St} {Q' : Option Nat → St → Prop} {o : Option Nat} {rt : FieldType} (hexec : p.tables.exec = Jvm.exec) (hb : c.code = cc) (hr : meth.sig.returnType = some rt) (hrt : (∃ n, rt = .object n) ∨ ∃ t, rt = .array t) (hlocks : meth.locks = false) (hq : Q' o σ) (hg : gr σ0 σ) (hw : wh D B σ s H) (hS : va_S (zA B) s.heap H locs) (hdg : decode cc pc = .ok (.areturn, 1)) :
    W p l e R s m args below meth c H locs cells slots (MQ below (zQ D B σ0 (zQr Q')) args s cells slots (zA B)) (F0 m pc ls [va_rf o]) :=
  W.aret hexec hb hr hrt (by cases o <;> first | exact Or.inl rfl | exact Or.inr ⟨_, rfl⟩) (fun t ht hW => ⟨⟨_, σ, rfl, ⟨o, rfl, hq⟩, hg, by rw [ht]; exact hw.moved hW.alike⟩, hS.F ht⟩) hS.2.2 hdg hlocks
/-! calls -/
theorem zr_back {post : Option Value → St → Prop} {st0 : List Value} {a : Array Value} {mc ms : Nat} (hr : va_Run p l e R s m args below meth c H locs cells slots mc ms (F0 m pc ls st0) rest (zQ D B σ post a) (zA B)) (hS : va_S (zA B) s.heap H locs)
    (kk : ∀ (v : Option Value) (σ' : St) (H1 : Heap) (locs1 : List Loc), post v σ' → gr σ σ' → wh D B σ' s H1 → va_S (zA B) s.heap H1 locs1 → W p l e R s m args below meth c H1 locs1 (cells + mc) (slots + ms) Q (F0 m (pc + 3) ls (v.toList ++ rest))) : W p l e R s m args below meth c H locs cells slots Q (F0 m pc ls st0) := by
  intro T hT X
  obtain ⟨v, st₀, t, T', L, h0, X', hL, e1, e2, ⟨⟨v', u, hv, hp, hgr, hb⟩, hz, hk⟩, st⟩ := hr T hT X
  cases hv
  rw [h0] at hz hk
  have hal : s.vm.Alike t.vm := by rw [← e2]; exact X'.warmed.alike
  have hb' : wh D B u s T'.heap := by rw [e1]; exact hb.moved hal.symm
  obtain ⟨t2, a1, b1⟩ := kk _ u T'.heap (locs ++ L) hp hgr hb'
    ⟨Nat.le_trans hS.1 (by rw [e1]; exact hz), fun q h1 h2 => by rw [e1, hk q (Nat.lt_of_lt_of_le h1 hS.1) h2]; exact hS.2.1 q h1 h2, fun q hq => by
      rcases List.mem_append.mp hq with h | h
      · exact hS.2.2 q h
      · exact hL q h⟩ T' rfl X'
  exact ⟨t2, st t2 a1, b1⟩
variable {y : MethodName} {bb : ByteArray} {maxL n index ci q nL : Nat} {ret : Option FieldType} {rm : Room} {As : List Value} {st : List Value} {o : Option Nat} {post : Option Value → St → Prop}
theorem zr_recv (hC : zC D s m args own) (hw : wh D B σ s H) (hs : s_s σ q = some (.inl ci)) : ∃ cell : Cell, H[q]? = some cell ∧ cell.vm.isStatics = false ∧ s.vm.findClass (fC ci) = some cell.cls := by
  obtain ⟨hci, cell, g1, g2, g3, -⟩ := hw.obj hs
  exact ⟨cell, g1, by rw [g3]; rfl, by rw [g2]; exact (hC.2.2.1 ci _ (fc_ok ci hci)).2.1⟩
theorem zr_cb (hC : zC D s m args own) (hk : Mk y bb maxL ret n) (hl : Cond.methodLink own index y ∈ zT) (hR : rm.frames + 1 ≤ R.frames ∧ 8 + (maxL + 11) + rm.locals ≤ R.locals) : CallB R s args own index y bb maxL ret (Cond.code y bb maxL ret :: zT) rm rm.cells rm.slots n :=
  callB_of n hC.2.1 (zT_goodIn hk.1) rfl rfl rfl (hC.2.1 _ hk.2.1) (hC.2.1 _ hl) hk.2.2 hR
theorem zr_callV (hexec : p.tables.exec = Jvm.exec) (hb : c.code = cc) (hml : c.maxLocals = nL) (hC : zC D s m args own) (hwk : wk D B s) (hw : wh D B σ s H) (hS : va_S (zA B) s.heap H locs) (hsz : ls.size = nL)
    (hM : zM l y bb maxL ret rm D B (.ref q :: As) σ post) (hk : Mk y bb maxL ret n) (hi : Cond.instanceMethod y ∈ zT) (hsel : Cond.selects (fC ci) y y ∈ zT) (hl : Cond.methodLink own index y ∈ zT) (hR : rm.frames + 1 ≤ R.frames ∧ 8 + (maxL + 11) + rm.locals ≤ R.locals)
    (ho : o = some q) (hs : s_s σ q = some (.inl ci)) (hn : As.length = n) (hcat : (rest.map fun v => v.category).sum ≤ 8) (hdg : decode cc pc = .ok (.invokevirtual index, 3)) (hf : cells + rm.cells ≤ R.cells ∧ slots + rm.slots ≤ R.slots) (hst : st = As.reverse ++ va_rf o :: rest)
    (kk : ∀ (v : Option Value) (σ' : St) (H1 : Heap) (locs1 : List Loc), post v σ' → gr σ σ' → wh D B σ' s H1 → va_S (zA B) s.heap H1 locs1 → W p l e R s m args below meth c H1 locs1 (cells + rm.cells) (slots + rm.slots) Q (F0 m (pc + 3) ls (v.toList ++ rest))) : W p l e R s m args below meth c H locs cells slots Q (F0 m pc ls st) := by
  subst hst
  subst ho
  exact zr_back (va_runV (nL := nL) (C := fC ci) ⟨hexec, hb, hml, hC.1, hC.2.1⟩ hM ⟨zr_cb hC hk hl hR, hC.2.1 _ hi, hC.2.1 _ hsel⟩ ⟨zP.blind, zr_recv hC hw hs, fun U hU hW => ⟨rfl, zP.enter hwk hw hS hU hW⟩⟩ rfl hn hsz rfl (lv_room hcat) hdg hf) hS kk
theorem zr_callS (hexec : p.tables.exec = Jvm.exec) (hb : c.code = cc) (hml : c.maxLocals = nL) (hC : zC D s m args own) (hwk : wk D B s) (hw : wh D B σ s H) (hS : va_S (zA B) s.heap H locs) (hsz : ls.size = nL)
    (hM : zM l y bb maxL ret rm D B As σ post) (hk : Mk y bb maxL ret n) (hi : Cond.static y ∈ zT) (hl : Cond.methodLink own index y ∈ zT) (hR : rm.frames + 1 ≤ R.frames ∧ 8 + (maxL + 11) + rm.locals ≤ R.locals)
    (hn : As.length = n) (hcat : (rest.map fun v => v.category).sum ≤ 8) (hdg : decode cc pc = .ok (.invokestatic index, 3)) (hf : cells + rm.cells ≤ R.cells ∧ slots + rm.slots ≤ R.slots) (hst : st = As.reverse ++ rest)
    (kk : ∀ (v : Option Value) (σ' : St) (H1 : Heap) (locs1 : List Loc), post v σ' → gr σ σ' → wh D B σ' s H1 → va_S (zA B) s.heap H1 locs1 → W p l e R s m args below meth c H1 locs1 (cells + rm.cells) (slots + rm.slots) Q (F0 m (pc + 3) ls (v.toList ++ rest))) : W p l e R s m args below meth c H locs cells slots Q (F0 m pc ls st) := by
  subst hst
  exact zr_back (va_runS (nL := nL) ⟨hexec, hb, hml, hC.1, hC.2.1⟩ hM ⟨zr_cb hC hk hl hR, hC.2.1 _ hi⟩ ⟨zP.blind, fun U hU hW => ⟨rfl, zP.enter hwk hw hS hU hW⟩⟩ rfl hn hsz rfl (lv_room hcat) hdg hf) hS kk
theorem zr_callI (hexec : p.tables.exec = Jvm.exec) (hb : c.code = cc) (hml : c.maxLocals = nL) (hC : zC D s m args own) (hwk : wk D B s) (hw : wh D B σ s H) (hS : va_S (zA B) s.heap H locs) (hsz : ls.size = nL)
    (hM : zM l y bb maxL none rm D B (.ref q :: As) σ post) (hk : Mk y bb maxL none n) (hi : Cond.instanceMethod y ∈ zT) (hy1 : y.name = "<init>") (hl : Cond.methodLink own index y ∈ zT) (hR : rm.frames + 1 ≤ R.frames ∧ 8 + (maxL + 11) + rm.locals ≤ R.locals)
    (ho : o = some q) (hn : As.length = n) (hcat : (rest.map fun v => v.category).sum ≤ 8) (hdg : decode cc pc = .ok (.invokespecial index, 3)) (hf : cells + rm.cells ≤ R.cells ∧ slots + rm.slots ≤ R.slots) (hst : st = As.reverse ++ va_rf o :: rest)
    (kk : ∀ (v : Option Value) (σ' : St) (H1 : Heap) (locs1 : List Loc), post v σ' → gr σ σ' → wh D B σ' s H1 → va_S (zA B) s.heap H1 locs1 → W p l e R s m args below meth c H1 locs1 (cells + rm.cells) (slots + rm.slots) Q (F0 m (pc + 3) ls (v.toList ++ rest))) : W p l e R s m args below meth c H locs cells slots Q (F0 m pc ls st) := by
  subst hst
  subst ho
  exact zr_back (va_runI (nL := nL) ⟨hexec, hb, hml, hC.1, hC.2.1⟩ hM ⟨zr_cb hC hk hl hR, hy1, hC.2.1 _ hi⟩ ⟨zP.blind, fun U hU hW => ⟨rfl, zP.enter hwk hw hS hU hW⟩⟩ rfl hn hsz rfl (lv_room hcat) hdg hf) hS kk
theorem zr_callN (hexec : p.tables.exec = Jvm.exec) (hb : c.code = cc) (hml : c.maxLocals = nL) (hC : zC D s m args own) (hwk : wk D B s) (hw : wh D B σ s H) (hS : va_S (zA B) s.heap H locs) (hsz : ls.size = nL)
    (hM : zM l y bb maxL none rm D B (.ref q :: As) σ post) (hk : Mk y bb maxL none n) (hi : Cond.instanceMethod y ∈ zT) (hy1 : y.name = "<init>") (hl : Cond.methodLinkNest own index y "LawWorlds" ∈ zN) (hR : rm.frames + 1 ≤ R.frames ∧ 8 + (maxL + 11) + rm.locals ≤ R.locals)
    (ho : o = some q) (hn : As.length = n) (hcat : (rest.map fun v => v.category).sum ≤ 8) (hdg : decode cc pc = .ok (.invokespecial index, 3)) (hf : cells + rm.cells ≤ R.cells ∧ slots + rm.slots ≤ R.slots) (hst : st = As.reverse ++ va_rf o :: rest)
    (kk : ∀ (v : Option Value) (σ' : St) (H1 : Heap) (locs1 : List Loc), post v σ' → gr σ σ' → wh D B σ' s H1 → va_S (zA B) s.heap H1 locs1 → W p l e R s m args below meth c H1 locs1 (cells + rm.cells) (slots + rm.slots) Q (F0 m (pc + 3) ls (v.toList ++ rest))) : W p l e R s m args below meth c H locs cells slots Q (F0 m pc ls st) := by
  subst hst
  subst ho
  exact zr_back (va_runIN (nL := nL) ⟨hexec, hb, hml, hC.1, hC.2.1⟩ hM ⟨va_cnB n hC.2.1 (zT_goodIn hk.1) rfl rfl rfl (hwk.2.2.1 _ hl) (hC.2.1 _ hk.2.1) hk.2.2 hR, hy1, hC.2.1 _ hi⟩ ⟨zP.blind, fun U hU hW => ⟨rfl, zP.enter hwk hw hS hU hW⟩⟩ rfl hn hsz rfl (lv_room hcat) hdg hf) hS kk
theorem zr_min (hexec : p.tables.exec = Jvm.exec) (hb : c.code = cc) (hml : c.maxLocals = ls.size) (hC : zC D s m args own) {index : Nat} (hl : Cond.methodLink own index y_J_min ∈ zT) (hframes : 1 ≤ R.frames) (hlocals : 21 ≤ R.locals) (hcat : (rest.map fun v => v.category).sum ≤ 8) (hc : cells ≤ R.cells) (hs : slots ≤ R.slots) {x y : Int32} (hdg : decode cc pc = .ok (.invokestatic index, 3))
    (kk : W p l e R s m args below meth c H locs cells slots Q (F0 m (pc + 3) ls (.int (mn x y) :: rest))) : W p l e R s m args below meth c H locs cells slots Q (F0 m pc ls (.int y :: .int x :: rest)) :=
  va_mmin hexec hb hml hC.1 (hC.2.1 _ hl) (hC.2.1 _ mt_J_min) (hC.2.1 _ mk_J_min.2.1) (hC.2.1 _ mk_J_min.1) hframes (by omega) hc hs hdg kk
theorem zr_max (hexec : p.tables.exec = Jvm.exec) (hb : c.code = cc) (hml : c.maxLocals = ls.size) (hC : zC D s m args own) {index : Nat} (hl : Cond.methodLink own index y_J_max ∈ zT) (hframes : 1 ≤ R.frames) (hlocals : 21 ≤ R.locals) (hcat : (rest.map fun v => v.category).sum ≤ 8) (hc : cells ≤ R.cells) (hs : slots ≤ R.slots) {x y : Int32} (hdg : decode cc pc = .ok (.invokestatic index, 3))
    (kk : W p l e R s m args below meth c H locs cells slots Q (F0 m (pc + 3) ls (.int (mx x y) :: rest))) : W p l e R s m args below meth c H locs cells slots Q (F0 m pc ls (.int y :: .int x :: rest)) :=
  va_mmax hexec hb hml hC.1 (hC.2.1 _ hl) (hC.2.1 _ mt_J_max) (hC.2.1 _ mk_J_max.2.1) (hC.2.1 _ mk_J_max.1) hframes (by omega) hc hs hdg kk
end ZC
/-- a contract out of a walk -/
theorem zM.ofW {l : Launch} {y : MethodName} {b : ByteArray} {maxL : Nat} {ret : Option FieldType} {rm : Room} {D : va_G} {B : Nat} {av : List Value} {σ : St} {post : Option Value → St → Prop} {own : String} (hy : plainName y.cls = true) (hcl : y.cls = own) (hlen : (lg_sl av).length ≤ maxL)
    (body : ∀ (p : Program) (e : Env) (s : State) (m : MethodId) (args : Array Value) (below : List Frame) (meth : Method) (c : Code) (ls : Array Slot), p.tables.exec = Jvm.exec → c.code = b → c.maxLocals = maxL → meth.sig.returnType = ret → meth.locks = false → meth.name = y.name → zC D s m args own → wk D B s → wh D B σ s s.heap → va_S (zA B) s.heap s.heap [] → lv_has ls maxL (lv_args 0 av) →
      W p l e rm s m args below meth c s.heap [] 0 0 (MQ below (zQ D B σ post) args s rm.cells rm.slots (zA B)) (F0 m 0 ls [])) : zM l y b maxL ret rm D B av σ post := by
  refine Met.ofW (cc := b) (maxL := maxL) (ret := ret) hy rfl ?_
  intro p e s m args below meth c s₁ Bd hml hv
  obtain ⟨rfl, hwk, hw⟩ := hv
  have hts : ∀ w ∈ zT, w.before av.toArray s = true := fun w hw => atoms_spec (ws := Cond.code y b maxL ret :: zT) Bd.pre w (List.mem_cons_of_mem _ hw)
  rw [lg_entry_eq]
  refine body p e s m av.toArray below meth c _ Bd.exec Bd.bytes hml Bd.returns Bd.notSynchronized (name_of_methodNamed Bd.named Bd.method).1 ⟨?_, hts, hwk.2.1⟩ hwk hw va_S.rf (lv_entry av hlen)
  rw [← hcl]
  exact findClass_of_methodNamed Bd.named
/-! forms of the pictures of methods -/
/-- a place of an array of kind t is used -/
def ar (t : Nat) (σ : St) (o : Option Nat) (i : Int32) (P : Nat → Nat → Prop) : Prop := ∃ q n j, o = some q ∧ s_s σ q = some (.inr (t, n)) ∧ vp_in i n ∧ i.toNatClampNeg = j ∧ P q j
/-- an array's length is asked -/
def al (σ : St) (o : Option Nat) (P : Nat → Prop) : Prop := ∃ q t n, o = some q ∧ s_s σ q = some (.inr (t, n)) ∧ P n
/-- an object of class ci is used -/
def ob (ci : Nat) (σ : St) (o : Option Nat) (P : Nat → Prop) : Prop := ∃ q, o = some q ∧ s_s σ q = some (.inl ci) ∧ P q
/-- a reference that isn't null -/
def nn (o : Option Nat) (P : Nat → Prop) : Prop := ∃ q, o = some q ∧ P q
/-- a cell is made: it lies at the end -/
def nw (σ : St) (sp : Shp) (P : Nat → St → Prop) : Prop := ∀ q σ', q = s_n σ → σ' = w_new σ sp → P q σ'
/-- a place of one of the static tables -/
def st' (n : Nat) (i : Int32) (P : Nat → Prop) : Prop := ∃ j, vp_in i n ∧ i.toNatClampNeg = j ∧ P j
theorem va_rf_cat (o : Option Nat) : (va_rf o).category = 1 := by cases o <;> rfl
theorem cat_n : (([] : List Value).map fun v => v.category).sum ≤ 0 := Nat.le_refl 0
theorem cat_c {v : Value} {r : List Value} {n : Nat} (h : v.category = 1) (k : (r.map fun v => v.category).sum ≤ n) : ((v :: r).map fun v => v.category).sum ≤ n + 1 := by
  rw [List.map_cons, List.sum_cons, h]; omega
theorem cat_d {v : Value} {r : List Value} {n : Nat} (h : v.category = 2) (k : (r.map fun v => v.category).sum ≤ n) : ((v :: r).map fun v => v.category).sum ≤ n + 2 := by
  rw [List.map_cons, List.sum_cons, h]; omega
theorem cat_8 {r : List Value} {n : Nat} (k : (r.map fun v => v.category).sum ≤ n) (h : n ≤ 8) : (r.map fun v => v.category).sum ≤ 8 := Nat.le_trans k h
theorem nI_intlt {x : Int32} {n : Nat} (h1 : 0 ≤ x.toInt) (h2 : x.toInt < n) (hn : n < 2 ^ 31) : ∃ j, j < n ∧ x = nI j := by
  have h0 : ¬ x < 0 := by
    intro h
    have := Int32.lt_iff_toInt_lt.mp h
    simp at this
    omega
  obtain ⟨j, hj, rfl⟩ := nI_of h0
  rw [nI_toInt hj] at h2
  exact ⟨j, by omega, rfl⟩
/-- a switch's default -/
theorem sw_out {x : Int32} {n : Nat} (hn : n < 2 ^ 31) (h : ∀ k, k < n → ¬ x = nI k) : x.toInt < 0 ∨ ((n : Int) - 1) < x.toInt := by
  rcases Int.lt_or_le x.toInt 0 with h0 | h0
  · exact Or.inl h0
  · rcases Int.lt_or_le ((n : Int) - 1) x.toInt with h1 | h1
    · exact Or.inr h1
    · obtain ⟨j, hj, e⟩ := nI_intlt (n := n) h0 (by omega) hn
      exact absurd e (h j hj)
theorem lv_args_c {v : Value} {vs : List Value} {i : Nat} (h : v.category = 1) : lv_args i (v :: vs) = (i, v) :: lv_args (i + 1) vs := by
  rw [lv_args, if_neg (by rw [h]; decide)]
theorem lg_0 {n : Nat} : (lg_sl []).length ≤ n := Nat.zero_le _
theorem lg_c {v : Value} {vs : List Value} {n : Nat} (h : v.category = 1) (k : (lg_sl vs).length ≤ n) : (lg_sl (v :: vs)).length ≤ n + 1 := by
  have e : lg_sl (v :: vs) = Slot.val v :: lg_sl vs := by
    simp [lg_sl, h]
  rw [e, List.length_cons]
  omega
theorem fl_n {i : Nat} : ([] : List (Nat × Value)).filter (fun q => !(q.1 == i) && !(q.1 + 1 == i && q.2.category == 2)) = [] := rfl
theorem fl_k {j i : Nat} {v : Value} {r r' : List (Nat × Value)} (h : (j == i) = false) (hc : v.category = 1) (k : r.filter (fun q => !(q.1 == i) && !(q.1 + 1 == i && q.2.category == 2)) = r') : ((j, v) :: r).filter (fun q => !(q.1 == i) && !(q.1 + 1 == i && q.2.category == 2)) = (j, v) :: r' := by
  rw [List.filter_cons, if_pos (by simp [h, hc]), k]
theorem fl_d {j i : Nat} {v : Value} {r r' : List (Nat × Value)} (h : (j == i) = true) (k : r.filter (fun q => !(q.1 == i) && !(q.1 + 1 == i && q.2.category == 2)) = r') : ((j, v) :: r).filter (fun q => !(q.1 == i) && !(q.1 + 1 == i && q.2.category == 2)) = r' := by
  rw [List.filter_cons, if_neg (by simp [h]), k]
