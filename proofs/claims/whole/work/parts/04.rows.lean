/-! Rows over the abstract state. -/
/-- what stays the same in a method -/
def zC (D : va_G) (s : State) (m : MethodId) (args : Array Value) (own : String) : Prop := s.vm.findClass own = some m.cls ∧ (∀ w ∈ zT, w.before args s = true) ∧ va_K D classes [] s
def irem (x y : Int32) : Int32 := x - x / y * y
def shl (x y : Int32) : Int32 := x <<< (y &&& 31)
def shr (x y : Int32) : Int32 := x >>> (y &&& 31)
def ushr (x y : Int32) : Int32 := (x.toUInt32 >>> (y.toUInt32 &&& Int32.toUInt32 31)).toInt32
def lshl (x : Int64) (y : Int32) : Int64 := x <<< (y.toInt64 &&& 63)
def chr (x : Int32) : Int32 := (x.toUInt32 % 65536).toInt32
def byt (x : Int32) : Int32 := x.toInt8.toInt32
section ZR
variable {p : Program} {l : Launch} {e : Env} {R : Room} {s : State} {m : MethodId} {args : Array Value} {below : List Frame} {meth : Method} {c : Code} {H : Heap} {locs : List Loc} {cells slots : Nat} {Q : State → Prop}
variable {cc : ByteArray} {pc : Nat} {ls : Array Slot} {rest : List Value} {D : va_G} {B : Nat} {σ : St} {own : String}
theorem zr_aload_n (hexec : p.tables.exec = Jvm.exec) (hb : c.code = cc) {k : Fin 4} {i : Nat} {o : Option Nat} (hdg : decode cc pc = .ok (.aload_n k, 1)) (hi : (k : Nat) = i) (hl : ls[i]? = some (.val (va_rf o)))
    (kk : W p l e R s m args below meth c H locs cells slots Q (F0 m (pc + 1) ls (va_rf o :: rest))) : W p l e R s m args below meth c H locs cells slots Q (F0 m pc ls rest) := by
  cases o with
  | none => exact lv_aload_nN hexec hb hdg hi hl kk
  | some x => exact lv_aload_n hexec hb hdg hi hl kk
theorem zr_aload (hexec : p.tables.exec = Jvm.exec) (hb : c.code = cc) {i : Nat} {o : Option Nat} (hdg : decode cc pc = .ok (.aload i, 2)) (hl : ls[i]? = some (.val (va_rf o)))
    (kk : W p l e R s m args below meth c H locs cells slots Q (F0 m (pc + 2) ls (va_rf o :: rest))) : W p l e R s m args below meth c H locs cells slots Q (F0 m pc ls rest) := by
  cases o with
  | none => exact lv_aloadN hexec hb hdg hl kk
  | some x => exact lv_aload hexec hb hdg hl kk
theorem zr_astore_n (hexec : p.tables.exec = Jvm.exec) (hb : c.code = cc) {k : Fin 4} {i nL : Nat} {o : Option Nat} {lv lv' : List (Nat × Value)} (hdg : decode cc pc = .ok (.astore_n k, 1)) (hi : (k : Nat) = i) (h : lv_has ls nL lv) (hn : i < nL) (hl : (i, va_rf o) :: lv.filter (fun q => !(q.1 == i) && !(q.1 + 1 == i && q.2.category == 2)) = lv')
    (kk : ∀ ls' : Array Slot, lv_has ls' nL lv' → W p l e R s m args below meth c H locs cells slots Q (F0 m (pc + 1) ls' rest)) : W p l e R s m args below meth c H locs cells slots Q (F0 m pc ls (va_rf o :: rest)) := by
  cases o with
  | none => exact lv_astore_nN hexec hb hdg hi h hn hl kk
  | some x => exact lv_astore_n hexec hb hdg hi h hn hl kk
theorem zr_astore (hexec : p.tables.exec = Jvm.exec) (hb : c.code = cc) {i nL : Nat} {o : Option Nat} {lv lv' : List (Nat × Value)} (hdg : decode cc pc = .ok (.astore i, 2)) (h : lv_has ls nL lv) (hn : i < nL) (hl : (i, va_rf o) :: lv.filter (fun q => !(q.1 == i) && !(q.1 + 1 == i && q.2.category == 2)) = lv')
    (kk : ∀ ls' : Array Slot, lv_has ls' nL lv' → W p l e R s m args below meth c H locs cells slots Q (F0 m (pc + 2) ls' rest)) : W p l e R s m args below meth c H locs cells slots Q (F0 m pc ls (va_rf o :: rest)) := by
  cases o with
  | none => exact lv_astoreN hexec hb hdg h hn hl kk
  | some x => exact lv_astore hexec hb hdg h hn hl kk
theorem zr_null (hexec : p.tables.exec = Jvm.exec) (hb : c.code = cc) (hdg : decode cc pc = .ok (.aconst_null, 1)) (kk : W p l e R s m args below meth c H locs cells slots Q (F0 m (pc + 1) ls (va_rf none :: rest))) : W p l e R s m args below meth c H locs cells slots Q (F0 m pc ls rest) := lv_null hexec hb hdg kk
theorem zr_ifnull (hexec : p.tables.exec = Jvm.exec) (hb : c.code = cc) {o : Option Nat} {off : Int} {tgt : Nat} (hdg : decode cc pc = .ok (.ifnull off, 3)) (ht : (pc : Int) + off = (tgt : Int))
    (kt : o = none → W p l e R s m args below meth c H locs cells slots Q (F0 m tgt ls rest)) (kf : ¬ o = none → W p l e R s m args below meth c H locs cells slots Q (F0 m (pc + 3) ls rest)) : W p l e R s m args below meth c H locs cells slots Q (F0 m pc ls (va_rf o :: rest)) := by
  cases o with
  | none => exact lv_ifnullN hexec hb hdg ht (kt rfl)
  | some x => exact lv_ifnull hexec hb hdg (kf (fun h => by cases h))
theorem zr_ifnonnull (hexec : p.tables.exec = Jvm.exec) (hb : c.code = cc) {o : Option Nat} {off : Int} {tgt : Nat} (hdg : decode cc pc = .ok (.ifnonnull off, 3)) (ht : (pc : Int) + off = (tgt : Int))
    (kt : ¬ o = none → W p l e R s m args below meth c H locs cells slots Q (F0 m tgt ls rest)) (kf : o = none → W p l e R s m args below meth c H locs cells slots Q (F0 m (pc + 3) ls rest)) : W p l e R s m args below meth c H locs cells slots Q (F0 m pc ls (va_rf o :: rest)) := by
  cases o with
  | none => exact lv_ifnonnullN hexec hb hdg (kf rfl)
  | some x => exact lv_ifnonnull hexec hb hdg ht (kt (fun h => by cases h))
theorem zr_irem (hexec : p.tables.exec = Jvm.exec) (hb : c.code = cc) {x y : Int32} (hdg : decode cc pc = .ok (.irem, 1)) (hne : ¬ y = 0)
    (k : W p l e R s m args below meth c H locs cells slots Q (F0 m (pc + 1) ls (.int (irem x y) :: rest))) : W p l e R s m args below meth c H locs cells slots Q (F0 m pc ls (.int y :: .int x :: rest)) := lv_irem hexec hb hdg hne k
theorem zr_ishl (hexec : p.tables.exec = Jvm.exec) (hb : c.code = cc) {x y : Int32} (hdg : decode cc pc = .ok (.ishl, 1))
    (k : W p l e R s m args below meth c H locs cells slots Q (F0 m (pc + 1) ls (.int (shl x y) :: rest))) : W p l e R s m args below meth c H locs cells slots Q (F0 m pc ls (.int y :: .int x :: rest)) := lv_ishl hexec hb hdg k
theorem zr_ishr (hexec : p.tables.exec = Jvm.exec) (hb : c.code = cc) {x y : Int32} (hdg : decode cc pc = .ok (.ishr, 1))
    (k : W p l e R s m args below meth c H locs cells slots Q (F0 m (pc + 1) ls (.int (shr x y) :: rest))) : W p l e R s m args below meth c H locs cells slots Q (F0 m pc ls (.int y :: .int x :: rest)) := lv_ishr hexec hb hdg k
theorem zr_iushr (hexec : p.tables.exec = Jvm.exec) (hb : c.code = cc) {x y : Int32} (hdg : decode cc pc = .ok (.iushr, 1))
    (k : W p l e R s m args below meth c H locs cells slots Q (F0 m (pc + 1) ls (.int (ushr x y) :: rest))) : W p l e R s m args below meth c H locs cells slots Q (F0 m pc ls (.int y :: .int x :: rest)) := lv_iushr hexec hb hdg rfl k
theorem zr_lshl (hexec : p.tables.exec = Jvm.exec) (hb : c.code = cc) {x : Int64} {y : Int32} (hdg : decode cc pc = .ok (.lshl, 1))
    (k : W p l e R s m args below meth c H locs cells slots Q (F0 m (pc + 1) ls (.long (lshl x y) :: rest))) : W p l e R s m args below meth c H locs cells slots Q (F0 m pc ls (.int y :: .long x :: rest)) := lv_lshl hexec hb hdg rfl k
/-- a field is read -/
theorem zr_get {index ci k q : Nat} {o : Option Nat} {v : Value} (hexec : p.tables.exec = Jvm.exec) (hb : c.code = cc) (hC : zC D s m args own) (hw : wh D B σ s H) (ho : o = some q) (hs : s_s σ q = some (.inl ci)) (hF : Fdk own index ci k) (hv : fv ci σ q k = v) (hdg : decode cc pc = .ok (.getfield index, 3))
    (kk : W p l e R s m args below meth c H locs cells slots Q (F0 m (pc + 3) ls (v :: rest))) : W p l e R s m args below meth c H locs cells slots Q (F0 m pc ls (va_rf o :: rest)) := by
  subst ho
  obtain ⟨hci, hk, hcn, hlink⟩ := hF
  obtain ⟨hown, hts, hK⟩ := hC
  obtain ⟨hin, hty, hnm⟩ := cl_ok ci hci
  obtain ⟨-, cell, q1, q2, q3, q4⟩ := hw.obj hs
  have hc := fc_ok ci hci
  obtain ⟨hS, hfc, kC, hkC, hkind⟩ := hK.1 ci _ hc
  obtain ⟨cf, kf, fi, f, hi, hsl⟩ := hS k hk
  dsimp only at hi
  refine W.getf hexec hb hown (hts _ hlink) (by rw [← hcn]; exact hi) (u_facts hfc hkC (u_lays hts hin hk) hi).1 q1 (by rw [q3]; exact fun h => by cases h) (v := v) ?_ rfl rfl hdg kk
  rw [hsl, q4 k hk, hv]
/-- a field is written (not a final one) -/
theorem zr_putX {index ci k q : Nat} {o : Option Nat} {v : Value} {σ' : St} (hexec : p.tables.exec = Jvm.exec) (hb : c.code = cc) (hC : zC D s m args own) (hw : wh D B σ s H) (hS : va_S (zA B) s.heap H locs) (ho : o = some q) (hs : s_s σ q = some (.inl ci)) (hF : Fdk own index ci k) (hfin : (fT ci k).2.2.2 = false)
    (hnar : narrow (fY ci k) v = v) (hfit : fits (fY ci k) v = true) (hn : s_n σ' = s_n σ) (hss : s_s σ' = s_s σ) (hoo : ∀ a, a ≠ q → s_i σ' a = s_i σ a ∧ s_r σ' a = s_r σ a ∧ s_l σ' a = s_l σ a) (hv : ∀ b, fv ci σ' q b = updV (fv ci σ q) k v b) (hdg : decode cc pc = .ok (.putfield index, 3))
    (kk : ∀ (H1 : Heap) (locs1 : List Loc), wh D B σ' s H1 → va_S (zA B) s.heap H1 locs1 → W p l e R s m args below meth c H1 locs1 cells slots Q (F0 m (pc + 3) ls rest)) : W p l e R s m args below meth c H locs cells slots Q (F0 m pc ls (v :: va_rf o :: rest)) := by
  subst ho
  obtain ⟨hci, hk, hcn, hlink⟩ := hF
  obtain ⟨hown, hts, hK⟩ := hC
  obtain ⟨hin, hty, hnm⟩ := cl_ok ci hci
  obtain ⟨-, cell, q1, q2, q3, q4⟩ := hw.obj hs
  have hc := fc_ok ci hci
  have hap := va_apart (own := own) hts hin (fY ci) hty hnm hK hc
  obtain ⟨hSl, hfc, kC, hkC, hkind⟩ := hK.1 ci _ hc
  obtain ⟨cf, kf, fi, f, hi, hsl⟩ := hSl k hk
  dsimp only at hi
  have hlay := hts _ (hin _ (u_in_lay hk))
  unfold u_lay at hlay
  rw [if_neg (by rw [hfin]; decide)] at hlay
  have hst := (u_facts hfc hkC (u_lays hts hin hk) hi).1
  have h6 := u_store hfc hkC hkind hlay hi (hty k hk) hnar hfit
  refine W.putK hexec hb (f := f) ⟨hown, hts _ hlink, ⟨_, _, _, by rw [← hcn]; exact hi⟩, hst⟩ (by rw [q2]; exact h6) q1 q3 (by rw [hsl]; exact k2_hasslot (q4 k hk)) rfl rfl hdg fun H' e1 e2 e3 => ?_
  rw [hsl] at e1 ⊢
  exact kk H' _ (hw.setf hs hn hss hoo ⟨_, e1, q2, q3, t_set q4 hap hk v⟩ hv e2 e3) (hS.put e2 e3 (hw.2 _ _ hs).1)
/-- a final field is written, in a constructor -/
theorem zr_putF {index ci k q : Nat} {o : Option Nat} {v : Value} {σ' : St} (hexec : p.tables.exec = Jvm.exec) (hb : c.code = cc) (hC : zC D s m args own) (hin2 : meth.name = "<init>") (hw : wh D B σ s H) (hS : va_S (zA B) s.heap H locs) (ho : o = some q) (hs : s_s σ q = some (.inl ci)) (hF : Fdk own index ci k) (hfin : (fT ci k).2.2.2 = true) (hdecl : fC ci = own)
    (hnar : narrow (fY ci k) v = v) (hfit : fits (fY ci k) v = true) (hn : s_n σ' = s_n σ) (hss : s_s σ' = s_s σ) (hoo : ∀ a, a ≠ q → s_i σ' a = s_i σ a ∧ s_r σ' a = s_r σ a ∧ s_l σ' a = s_l σ a) (hv : ∀ b, fv ci σ' q b = updV (fv ci σ q) k v b) (hdg : decode cc pc = .ok (.putfield index, 3))
    (kk : ∀ (H1 : Heap) (locs1 : List Loc), wh D B σ' s H1 → va_S (zA B) s.heap H1 locs1 → W p l e R s m args below meth c H1 locs1 cells slots Q (F0 m (pc + 3) ls rest)) : W p l e R s m args below meth c H locs cells slots Q (F0 m pc ls (v :: va_rf o :: rest)) := by
  subst ho
  obtain ⟨hci, hk, hcn, hlink⟩ := hF
  obtain ⟨hown, hts, hK⟩ := hC
  obtain ⟨hin, hty, hnm⟩ := cl_ok ci hci
  obtain ⟨-, cell, q1, q2, q3, q4⟩ := hw.obj hs
  have hc := fc_ok ci hci
  have hap := va_apart (own := own) hts hin (fY ci) hty hnm hK hc
  obtain ⟨hSl, hfc, kC, hkC, hkind⟩ := hK.1 ci _ hc
  obtain ⟨cf, kf, fi, f, hi, hsl⟩ := hSl k hk
  dsimp only at hi
  have hlay := hts _ (hin _ (u_in_lay hk))
  unfold u_lay at hlay
  rw [if_pos hfin] at hlay
  have hst := (u_facts hfc hkC (u_lays hts hin hk) hi).1
  have hcf : m.cls = cf := by
    obtain ⟨_, _, c', _, _, _, -, -, hf', -, -, -, hown2, -⟩ := Cond.laysFinal_spec hlay
    have e1 : c' = cf := by have := hi.symm.trans hf'; simp at this; exact this.1.symm
    rw [hcn, hdecl] at hown2
    rw [← e1]; exact Option.some.inj (hown.symm.trans hown2)
  have h6 := u_fits hfc hkC hkind (Or.inr hlay) hi (hty k hk) hnar hfit
  refine W.putFinK hexec hb hown (hts _ hlink) (by rw [← hcn]; exact hi) hst hcf hin2 (by rw [q2]; exact h6) q1 q3 (by rw [hsl]; exact k2_hasslot (q4 k hk)) rfl rfl hdg fun H' e1 e2 e3 => ?_
  rw [hsl] at e1 ⊢
  exact kk H' _ (hw.setf hs hn hss hoo ⟨_, e1, q2, q3, t_set q4 hap hk v⟩ hv e2 e3) (hS.put e2 e3 (hw.2 _ _ hs).1)
theorem zr_putI {index ci k q : Nat} {o : Option Nat} {x : Int32} (hexec : p.tables.exec = Jvm.exec) (hb : c.code = cc) (hC : zC D s m args own) (hw : wh D B σ s H) (hS : va_S (zA B) s.heap H locs) (ho : o = some q) (hs : s_s σ q = some (.inl ci)) (hF : Fdk own index ci k) (hfin : (fT ci k).2.2.2 = false) (hy : fY ci k = .int) (hdg : decode cc pc = .ok (.putfield index, 3))
    (kk : ∀ (H1 : Heap) (locs1 : List Loc), wh D B (w_i σ q k x) s H1 → va_S (zA B) s.heap H1 locs1 → W p l e R s m args below meth c H1 locs1 cells slots Q (F0 m (pc + 3) ls rest)) : W p l e R s m args below meth c H locs cells slots Q (F0 m pc ls (.int x :: va_rf o :: rest)) :=
  zr_putX (σ' := w_i σ q k x) hexec hb hC hw hS ho hs hF hfin (by rw [hy]; rfl) (by rw [hy]; rfl) rfl rfl (wi_o σ q k x) (fv_wi (by rw [hy]; exact fun _ _ _ => rfl) σ q x) hdg kk
theorem zr_putZ {index ci k q : Nat} {o : Option Nat} {x : Int32} (hexec : p.tables.exec = Jvm.exec) (hb : c.code = cc) (hC : zC D s m args own) (hw : wh D B σ s H) (hS : va_S (zA B) s.heap H locs) (ho : o = some q) (hs : s_s σ q = some (.inl ci)) (hF : Fdk own index ci k) (hfin : (fT ci k).2.2.2 = false) (hy : fY ci k = .boolean) (hx : x = 0 ∨ x = 1) (hdg : decode cc pc = .ok (.putfield index, 3))
    (kk : ∀ (H1 : Heap) (locs1 : List Loc), wh D B (w_i σ q k x) s H1 → va_S (zA B) s.heap H1 locs1 → W p l e R s m args below meth c H1 locs1 cells slots Q (F0 m (pc + 3) ls rest)) : W p l e R s m args below meth c H locs cells slots Q (F0 m pc ls (.int x :: va_rf o :: rest)) :=
  zr_putX (σ' := w_i σ q k x) hexec hb hC hw hS ho hs hF hfin (by rw [hy]; rcases hx with rfl | rfl <;> rfl) (by rw [hy]; rcases hx with rfl | rfl <;> rfl) rfl rfl (wi_o σ q k x) (fv_wi (by rw [hy]; exact fun _ _ _ => rfl) σ q x) hdg kk
theorem vy_ref {ty : FieldType} (hy : (∃ C, ty = .object C) ∨ ∃ t, ty = .array t) (i : Int32) (r : Option Nat) (l : Int64) : vy ty i r l = va_rf r := by
  rcases hy with ⟨C, rfl⟩ | ⟨t, rfl⟩ <;> rfl
theorem nar_ref {ty : FieldType} (hy : (∃ C, ty = .object C) ∨ ∃ t, ty = .array t) (o : Option Nat) : narrow ty (va_rf o) = va_rf o ∧ fits ty (va_rf o) = true := by
  rcases hy with ⟨C, rfl⟩ | ⟨t, rfl⟩ <;> cases o <;> exact ⟨rfl, rfl⟩
theorem zr_putR {index ci k q : Nat} {o x : Option Nat} (hexec : p.tables.exec = Jvm.exec) (hb : c.code = cc) (hC : zC D s m args own) (hw : wh D B σ s H) (hS : va_S (zA B) s.heap H locs) (ho : o = some q) (hs : s_s σ q = some (.inl ci)) (hF : Fdk own index ci k) (hfin : (fT ci k).2.2.2 = false) (hy : (∃ C, fY ci k = .object C) ∨ ∃ t, fY ci k = .array t) (hdg : decode cc pc = .ok (.putfield index, 3))
    (kk : ∀ (H1 : Heap) (locs1 : List Loc), wh D B (w_r σ q k x) s H1 → va_S (zA B) s.heap H1 locs1 → W p l e R s m args below meth c H1 locs1 cells slots Q (F0 m (pc + 3) ls rest)) : W p l e R s m args below meth c H locs cells slots Q (F0 m pc ls (va_rf x :: va_rf o :: rest)) :=
  zr_putX (σ' := w_r σ q k x) hexec hb hC hw hS ho hs hF hfin (nar_ref hy x).1 (nar_ref hy x).2 rfl rfl (wr_o σ q k x) (fv_wr (vy_ref hy) σ q x) hdg kk
theorem zr_putRF {index ci k q : Nat} {o x : Option Nat} (hexec : p.tables.exec = Jvm.exec) (hb : c.code = cc) (hC : zC D s m args own) (hin2 : meth.name = "<init>") (hw : wh D B σ s H) (hS : va_S (zA B) s.heap H locs) (ho : o = some q) (hs : s_s σ q = some (.inl ci)) (hF : Fdk own index ci k) (hfin : (fT ci k).2.2.2 = true) (hdecl : fC ci = own) (hy : (∃ C, fY ci k = .object C) ∨ ∃ t, fY ci k = .array t) (hdg : decode cc pc = .ok (.putfield index, 3))
    (kk : ∀ (H1 : Heap) (locs1 : List Loc), wh D B (w_r σ q k x) s H1 → va_S (zA B) s.heap H1 locs1 → W p l e R s m args below meth c H1 locs1 cells slots Q (F0 m (pc + 3) ls rest)) : W p l e R s m args below meth c H locs cells slots Q (F0 m pc ls (va_rf x :: va_rf o :: rest)) :=
  zr_putF (σ' := w_r σ q k x) hexec hb hC hin2 hw hS ho hs hF hfin hdecl (nar_ref hy x).1 (nar_ref hy x).2 rfl rfl (wr_o σ q k x) (fv_wr (vy_ref hy) σ q x) hdg kk
/-! arrays -/
theorem vp_lt {i : Int32} {n : Nat} (hin : vp_in i n) : i.toNatClampNeg < n := Nat.not_le.mp fun q => hin (Or.inr q)
theorem zr_iald {q n : Nat} {o : Option Nat} {i : Int32} (hexec : p.tables.exec = Jvm.exec) (hb : c.code = cc) (hw : wh D B σ s H) (ho : o = some q) (hs : s_s σ q = some (.inr (0, n))) {j : Nat} (hin : vp_in i n) (hj : i.toNatClampNeg = j) (hdg : decode cc pc = .ok (.iaload, 1))
    (kk : W p l e R s m args below meth c H locs cells slots Q (F0 m (pc + 1) ls (.int (s_i σ q j) :: rest))) : W p l e R s m args below meth c H locs cells slots Q (F0 m pc ls (.int i :: va_rf o :: rest)) := by
  subst ho
  subst hj
  obtain ⟨cA, h1, h2, h3⟩ := hw.cell hs
  exact W.iald (v := .int (s_i σ q i.toNatClampNeg)) hexec hb h1 (h2 n _) (fun q => by cases q) (by rw [arrV_size]; exact hin) (by rw [arrV_read _ _ (vp_lt hin)]; rfl) rfl rfl hdg kk
theorem zr_bald {q n : Nat} {o : Option Nat} {i : Int32} (hexec : p.tables.exec = Jvm.exec) (hb : c.code = cc) (hw : wh D B σ s H) (ho : o = some q) (hs : s_s σ q = some (.inr (2, n))) {j : Nat} (hin : vp_in i n) (hj : i.toNatClampNeg = j) (hdg : decode cc pc = .ok (.baload, 1))
    (kk : W p l e R s m args below meth c H locs cells slots Q (F0 m (pc + 1) ls (.int (s_i σ q j) :: rest))) : W p l e R s m args below meth c H locs cells slots Q (F0 m pc ls (.int i :: va_rf o :: rest)) := by
  subst ho
  subst hj
  obtain ⟨cA, h1, h2, h3⟩ := hw.cell hs
  exact W.bald (v := .int (s_i σ q i.toNatClampNeg)) hexec hb h1 (h2 n _) (fun q => by cases q) (by rw [arrV_size]; exact hin) (by rw [arrV_read _ _ (vp_lt hin)]; rfl) rfl rfl hdg kk
theorem zr_zald {q n : Nat} {o : Option Nat} {i : Int32} (hexec : p.tables.exec = Jvm.exec) (hb : c.code = cc) (hw : wh D B σ s H) (ho : o = some q) (hs : s_s σ q = some (.inr (1, n))) {j : Nat} (hin : vp_in i n) (hj : i.toNatClampNeg = j) (hdg : decode cc pc = .ok (.baload, 1))
    (kk : W p l e R s m args below meth c H locs cells slots Q (F0 m (pc + 1) ls (.int (s_i σ q j) :: rest))) : W p l e R s m args below meth c H locs cells slots Q (F0 m pc ls (.int i :: va_rf o :: rest)) := by
  subst ho
  subst hj
  obtain ⟨cA, h1, h2, h3⟩ := hw.cell hs
  exact W.zald (v := .int (s_i σ q i.toNatClampNeg)) hexec hb h1 (h2 n _) (fun q => by cases q) (by rw [arrV_size]; exact hin) (by rw [arrV_read _ _ (vp_lt hin)]; rfl) rfl rfl hdg kk
theorem zr_cald {q n : Nat} {o : Option Nat} {i : Int32} (hexec : p.tables.exec = Jvm.exec) (hb : c.code = cc) (hw : wh D B σ s H) (ho : o = some q) (hs : s_s σ q = some (.inr (3, n))) {j : Nat} (hin : vp_in i n) (hj : i.toNatClampNeg = j) (hdg : decode cc pc = .ok (.caload, 1))
    (kk : W p l e R s m args below meth c H locs cells slots Q (F0 m (pc + 1) ls (.int (s_i σ q j) :: rest))) : W p l e R s m args below meth c H locs cells slots Q (F0 m pc ls (.int i :: va_rf o :: rest)) := by
  subst ho
  subst hj
  obtain ⟨cA, h1, h2, h3⟩ := hw.cell hs
  exact W.cald (v := .int (s_i σ q i.toNatClampNeg)) hexec hb h1 (h2 n _) (fun q => by cases q) (by rw [arrV_size]; exact hin) (by rw [arrV_read _ _ (vp_lt hin)]; rfl) rfl rfl hdg kk
theorem zr_lald {q n : Nat} {o : Option Nat} {i : Int32} (hexec : p.tables.exec = Jvm.exec) (hb : c.code = cc) (hw : wh D B σ s H) (ho : o = some q) (hs : s_s σ q = some (.inr (4, n))) {j : Nat} (hin : vp_in i n) (hj : i.toNatClampNeg = j) (hdg : decode cc pc = .ok (.laload, 1))
    (kk : W p l e R s m args below meth c H locs cells slots Q (F0 m (pc + 1) ls (.long (s_l σ q j) :: rest))) : W p l e R s m args below meth c H locs cells slots Q (F0 m pc ls (.int i :: va_rf o :: rest)) := by
  subst ho
  subst hj
  obtain ⟨cA, h1, h2, h3⟩ := hw.cell hs
  exact W.lald (v := .long (s_l σ q i.toNatClampNeg)) hexec hb h1 (h2 n _) (fun q => by cases q) (by rw [arrV_size]; exact hin) (by rw [arrV_read _ _ (vp_lt hin)]; rfl) rfl rfl hdg kk
theorem zr_aald {q n t : Nat} {o : Option Nat} {i : Int32} (hexec : p.tables.exec = Jvm.exec) (hb : c.code = cc) (hw : wh D B σ s H) (ho : o = some q) (hs : s_s σ q = some (.inr (t, n))) (ht : ∃ C, aty t = .object C) {j : Nat} (hin : vp_in i n) (hj : i.toNatClampNeg = j) (hdg : decode cc pc = .ok (.aaload, 1))
    (kk : W p l e R s m args below meth c H locs cells slots Q (F0 m (pc + 1) ls (va_rf (s_r σ q j) :: rest))) : W p l e R s m args below meth c H locs cells slots Q (F0 m pc ls (.int i :: va_rf o :: rest)) := by
  subst ho
  subst hj
  obtain ⟨C, ht⟩ := ht
  obtain ⟨cA, h1, h2, h3⟩ := hw.cell hs
  exact W.aald (v := va_rf (s_r σ q i.toNatClampNeg)) (ty := aty t) hexec hb h1 (h2 n _) (by rw [ht]; rfl) (fun q => by cases q) (by rw [arrV_size]; exact hin) (by rw [arrV_read _ _ (vp_lt hin)]; unfold ev; rw [ht]; rfl) rfl rfl hdg kk
theorem zr_iast {q n : Nat} {o : Option Nat} {i x : Int32} (hexec : p.tables.exec = Jvm.exec) (hb : c.code = cc) (hw : wh D B σ s H) (hS : va_S (zA B) s.heap H locs) (ho : o = some q) (hs : s_s σ q = some (.inr (0, n))) {j : Nat} (hin : vp_in i n) (hj : i.toNatClampNeg = j) (hdg : decode cc pc = .ok (.iastore, 1))
    (kk : ∀ (H1 : Heap) (locs1 : List Loc), wh D B (w_i σ q j x) s H1 → va_S (zA B) s.heap H1 locs1 → W p l e R s m args below meth c H1 locs1 cells slots Q (F0 m (pc + 1) ls rest)) : W p l e R s m args below meth c H locs cells slots Q (F0 m pc ls (.int x :: .int i :: va_rf o :: rest)) := by
  subst ho
  subst hj
  obtain ⟨cA, h1, h2, h3⟩ := hw.cell hs
  exact W.iast hexec hb h1 (h2 n _) (fun q => by cases q) (by rw [arrV_size]; exact hin) rfl rfl hdg fun H1 e1 z oq => kk H1 _ (hw.seta hs rfl rfl (wi_o σ q _ x) ⟨h2, h3⟩ e1 (ev_wi (fun _ _ _ => rfl) σ q _ x) z oq) (hS.put z oq (hw.2 _ _ hs).1)
theorem zr_bast {q n : Nat} {o : Option Nat} {i x : Int32} (hexec : p.tables.exec = Jvm.exec) (hb : c.code = cc) (hw : wh D B σ s H) (hS : va_S (zA B) s.heap H locs) (ho : o = some q) (hs : s_s σ q = some (.inr (2, n))) {j : Nat} (hin : vp_in i n) (hj : i.toNatClampNeg = j) (hdg : decode cc pc = .ok (.bastore, 1))
    (kk : ∀ (H1 : Heap) (locs1 : List Loc), wh D B (w_i σ q j (vp_nar .byte x)) s H1 → va_S (zA B) s.heap H1 locs1 → W p l e R s m args below meth c H1 locs1 cells slots Q (F0 m (pc + 1) ls rest)) : W p l e R s m args below meth c H locs cells slots Q (F0 m pc ls (.int x :: .int i :: va_rf o :: rest)) := by
  subst ho
  subst hj
  obtain ⟨cA, h1, h2, h3⟩ := hw.cell hs
  exact W.bast hexec hb h1 (h2 n _) (fun q => by cases q) (by rw [arrV_size]; exact hin) rfl rfl hdg fun H1 e1 z oq => kk H1 _ (hw.seta hs rfl rfl (wi_o σ q _ _) ⟨h2, h3⟩ e1 (ev_wi (fun _ _ _ => rfl) σ q _ (vp_nar .byte x)) z oq) (hS.put z oq (hw.2 _ _ hs).1)
theorem zr_zast {q n : Nat} {o : Option Nat} {i x : Int32} (hexec : p.tables.exec = Jvm.exec) (hb : c.code = cc) (hw : wh D B σ s H) (hS : va_S (zA B) s.heap H locs) (ho : o = some q) (hs : s_s σ q = some (.inr (1, n))) {j : Nat} (hin : vp_in i n) (hj : i.toNatClampNeg = j) (hdg : decode cc pc = .ok (.bastore, 1))
    (kk : ∀ (H1 : Heap) (locs1 : List Loc), wh D B (w_i σ q j (vp_nar .boolean x)) s H1 → va_S (zA B) s.heap H1 locs1 → W p l e R s m args below meth c H1 locs1 cells slots Q (F0 m (pc + 1) ls rest)) : W p l e R s m args below meth c H locs cells slots Q (F0 m pc ls (.int x :: .int i :: va_rf o :: rest)) := by
  subst ho
  subst hj
  obtain ⟨cA, h1, h2, h3⟩ := hw.cell hs
  exact W.zast hexec hb h1 (h2 n _) (fun q => by cases q) (by rw [arrV_size]; exact hin) rfl rfl hdg fun H1 e1 z oq => kk H1 _ (hw.seta hs rfl rfl (wi_o σ q _ _) ⟨h2, h3⟩ e1 (ev_wi (fun _ _ _ => rfl) σ q _ (vp_nar .boolean x)) z oq) (hS.put z oq (hw.2 _ _ hs).1)
theorem zr_cast {q n : Nat} {o : Option Nat} {i x : Int32} (hexec : p.tables.exec = Jvm.exec) (hb : c.code = cc) (hw : wh D B σ s H) (hS : va_S (zA B) s.heap H locs) (ho : o = some q) (hs : s_s σ q = some (.inr (3, n))) {j : Nat} (hin : vp_in i n) (hj : i.toNatClampNeg = j) (hdg : decode cc pc = .ok (.castore, 1))
    (kk : ∀ (H1 : Heap) (locs1 : List Loc), wh D B (w_i σ q j (vp_nar .char x)) s H1 → va_S (zA B) s.heap H1 locs1 → W p l e R s m args below meth c H1 locs1 cells slots Q (F0 m (pc + 1) ls rest)) : W p l e R s m args below meth c H locs cells slots Q (F0 m pc ls (.int x :: .int i :: va_rf o :: rest)) := by
  subst ho
  subst hj
  obtain ⟨cA, h1, h2, h3⟩ := hw.cell hs
  exact W.cast hexec hb h1 (h2 n _) (fun q => by cases q) (by rw [arrV_size]; exact hin) rfl rfl hdg fun H1 e1 z oq => kk H1 _ (hw.seta hs rfl rfl (wi_o σ q _ _) ⟨h2, h3⟩ e1 (ev_wi (fun _ _ _ => rfl) σ q _ (vp_nar .char x)) z oq) (hS.put z oq (hw.2 _ _ hs).1)
theorem zr_last {q n : Nat} {o : Option Nat} {i : Int32} {x : Int64} (hexec : p.tables.exec = Jvm.exec) (hb : c.code = cc) (hw : wh D B σ s H) (hS : va_S (zA B) s.heap H locs) (ho : o = some q) (hs : s_s σ q = some (.inr (4, n))) {j : Nat} (hin : vp_in i n) (hj : i.toNatClampNeg = j) (hdg : decode cc pc = .ok (.lastore, 1))
    (kk : ∀ (H1 : Heap) (locs1 : List Loc), wh D B (w_l σ q j x) s H1 → va_S (zA B) s.heap H1 locs1 → W p l e R s m args below meth c H1 locs1 cells slots Q (F0 m (pc + 1) ls rest)) : W p l e R s m args below meth c H locs cells slots Q (F0 m pc ls (.long x :: .int i :: va_rf o :: rest)) := by
  subst ho
  subst hj
  obtain ⟨cA, h1, h2, h3⟩ := hw.cell hs
  exact W.last hexec hb h1 (h2 n _) (fun q => by cases q) (by rw [arrV_size]; exact hin) rfl rfl hdg fun H1 e1 z oq => kk H1 _ (hw.seta hs rfl rfl (wl_o σ q _ x) ⟨h2, h3⟩ e1 (ev_wl (fun _ _ _ => rfl) σ q _ x) z oq) (hS.put z oq (hw.2 _ _ hs).1)
/-- the class of the objects that an array of references holds -/
def cix : Nat → Nat := fun t => match t with
  | 5 => 4
  | _ => 1
theorem zr_aast {q n t : Nat} {o x : Option Nat} {i : Int32} (hexec : p.tables.exec = Jvm.exec) (hb : c.code = cc) (hC : zC D s m args own) (hw : wh D B σ s H) (hS : va_S (zA B) s.heap H locs) (ho : o = some q) (hs : s_s σ q = some (.inr (t, n))) (ht : aty t = .object (fC (cix t))) (hx : ∀ y, x = some y → s_s σ y = some (.inl (cix t))) {j : Nat} (hin : vp_in i n) (hj : i.toNatClampNeg = j) (hdg : decode cc pc = .ok (.aastore, 1))
    (kk : ∀ (H1 : Heap) (locs1 : List Loc), wh D B (w_r σ q j x) s H1 → va_S (zA B) s.heap H1 locs1 → W p l e R s m args below meth c H1 locs1 cells slots Q (F0 m (pc + 1) ls rest)) : W p l e R s m args below meth c H locs cells slots Q (F0 m pc ls (va_rf x :: .int i :: va_rf o :: rest)) := by
  subst ho
  subst hj
  obtain ⟨cA, h1, h2, h3⟩ := hw.cell hs
  have hvy : ∀ i r l, vy (aty t) i r l = va_rf r := vy_ref (Or.inl ⟨_, ht⟩)
  cases x with
  | none =>
    refine va_WaastN (C := fC (cix t)) hexec hb h1 (by rw [← ht]; exact h2 n _) (fun h => by cases h) (by rw [arrV_size]; exact hin) rfl rfl hdg fun H1 e1 z oq => ?_
    exact kk H1 _ (hw.seta hs rfl rfl (wr_o σ q _ none) ⟨h2, h3⟩ e1 (ev_wr hvy σ q _ none) z oq) (hS.put z oq (hw.2 _ _ hs).1)
  | some v =>
    have hv := hx v rfl
    obtain ⟨hci, cellV, g1, g2, g3, -⟩ := hw.obj hv
    have hcls := (hC.2.2.1 (cix t) _ (fc_ok _ hci)).2
    have h3' := h3
    rw [ht] at h3'
    obtain ⟨kA, comp, k1, k2, k3, -⟩ := h3'
    have hcomp : comp = D.1 (cix t) := Option.some.inj (k3.symm.trans hcls.1)
    subst hcomp
    obtain ⟨kC, hkC, -⟩ := hcls.2
    have h0 : ¬ i < 0 := fun q => hin (Or.inl q)
    refine W.aast hexec hb h1 (fun q h => by cases h) (fun h => by cases h) k1 k2 rfl hkC ⟨h0, by rw [arrV_size]; exact vp_lt hin⟩ g1 (fun q h => by rw [g3] at h; cases h) (by rw [g2]; exact hkC) (by rw [g2]; exact va_assign hcls) rfl rfl hdg fun H1 e1 z oq => ?_
    exact kk H1 _ (hw.seta hs rfl rfl (wr_o σ q _ (some v)) ⟨h2, h3⟩ e1 (ev_wr hvy σ q _ (some v)) z oq) (hS.put z oq (hw.2 _ _ hs).1)
theorem zr_alen {q t n : Nat} {o : Option Nat} {v : Int32} (hexec : p.tables.exec = Jvm.exec) (hb : c.code = cc) (hw : wh D B σ s H) (ho : o = some q) (hs : s_s σ q = some (.inr (t, n))) (hv : nI n = v) (hdg : decode cc pc = .ok (.arraylength, 1))
    (kk : W p l e R s m args below meth c H locs cells slots Q (F0 m (pc + 1) ls (.int v :: rest))) : W p l e R s m args below meth c H locs cells slots Q (F0 m pc ls (va_rf o :: rest)) := by
  subst ho
  subst hv
  obtain ⟨cA, h1, h2, h3⟩ := hw.cell hs
  exact W.alen (n := nI n) hexec hb h1 (h2 n _) (by rw [arrV_size] <;> rfl) rfl rfl hdg kk
end ZR
