/-! The abstract state: cells by address, with a shape each; ints, references and longs by address and place; and the rows over it. -/
abbrev Shp : Type := Nat ⊕ (Nat × Nat)
abbrev St : Type := Nat × (Nat → Option Shp) × (Nat → Nat → Int32) × (Nat → Nat → Option Nat) × (Nat → Nat → Int64)
def s_n (σ : St) : Nat := σ.1
def s_s (σ : St) : Nat → Option Shp := σ.2.1
def s_i (σ : St) : Nat → Nat → Int32 := σ.2.2.1
def s_r (σ : St) : Nat → Nat → Option Nat := σ.2.2.2.1
def s_l (σ : St) : Nat → Nat → Int64 := σ.2.2.2.2
def up2 {α : Type} (f : Nat → Nat → α) (q k : Nat) (v : α) : Nat → Nat → α := fun a b => if a = q ∧ b = k then v else f a b
def w_i (σ : St) (q k : Nat) (v : Int32) : St := (σ.1, σ.2.1, up2 σ.2.2.1 q k v, σ.2.2.2.1, σ.2.2.2.2)
def w_r (σ : St) (q k : Nat) (v : Option Nat) : St := (σ.1, σ.2.1, σ.2.2.1, up2 σ.2.2.2.1 q k v, σ.2.2.2.2)
def w_l (σ : St) (q k : Nat) (v : Int64) : St := (σ.1, σ.2.1, σ.2.2.1, σ.2.2.2.1, up2 σ.2.2.2.2 q k v)
def w_new (σ : St) (sp : Shp) : St := (σ.1 + 1, fun a => if a = σ.1 then some sp else σ.2.1 a, fun a b => if a = σ.1 then 0 else σ.2.2.1 a b, fun a b => if a = σ.1 then none else σ.2.2.2.1 a b, fun a b => if a = σ.1 then 0 else σ.2.2.2.2 a b)
/-- the kinds of arrays -/
def aty : Nat → FieldType := fun t => match t with
  | 0 => .int
  | 1 => .boolean
  | 2 => .byte
  | 3 => .char
  | 4 => .long
  | 5 => .object "LawWorlds$Law"
  | _ => .object "LawWorlds$State"
def vy (ty : FieldType) (i : Int32) (r : Option Nat) (l : Int64) : Value := match ty with
  | .object _ => va_rf r
  | .array _ => va_rf r
  | .long => .long l
  | _ => .int i
def ev (t : Nat) (σ : St) (q j : Nat) : Value := vy (aty t) (s_i σ q j) (s_r σ q j) (s_l σ q j)
def fv (ci : Nat) (σ : St) (q k : Nat) : Value := vy (fY ci k) (s_i σ q k) (s_r σ q k) (s_l σ q k)
def wc (D : va_G) (σ : St) (U : State) (H : Heap) (q : Nat) (sp : Shp) : Prop := match sp with
  | .inl ci => ci < 10 ∧ t_OB q (D.1 ci) (fN ci) (D.2 ci) H (fv ci σ q)
  | .inr (t, n) => ∃ cA, H[q]? = some (arrV cA n (ev t σ q)) ∧ ArrOfT U cA (aty t) ∧ va_RA U cA (aty t)
def wh (D : va_G) (B : Nat) (σ : St) (U : State) (H : Heap) : Prop := H.size = s_n σ ∧ ∀ (q : Nat) (sp : Shp), s_s σ q = some sp → B ≤ q ∧ wc D σ U H q sp
def zA (B : Nat) : Nat → Prop := fun q => B ≤ q
def zE (D : va_G) (B : Nat) : St → State → Prop := fun σ t => wh D B σ t t.heap
/-- the two static tables -/
def pw3 : Nat → Int32 := fun j => nI (3 ^ j)
def rnm : Nat → Int32 := fun j => nI ([0, 1, 2, 1, 0, 2, 2, 1, 0, 0, 2, 1, 1, 2, 0, 2, 0, 1].getD j 0)
def zs (B tP tR : Nat) (U : State) (H : Heap) : Prop := va_Z "LawWorlds$Codes" "POWERS_OF_THREE" "[I" (.ref tP) (zA B) U H ∧ va_T .int tP 9 (fun j => .int (pw3 j)) (zA B) U H ∧ va_Z "LawWorlds$Codes" "RENAMINGS" "[I" (.ref tR) (zA B) U H ∧ va_T .int tR 18 (fun j => .int (rnm j)) (zA B) U H
def wk (D : va_G) (B : Nat) (U : State) : Prop := B ≤ U.heap.size ∧ va_K D classes [] U ∧ (∀ w ∈ zN, va_Nw w U) ∧ va_AO "LawWorlds$Law" U ∧ va_AO "LawWorlds$State" U ∧ ∃ tP tR, zs B tP tR U U.heap
def zP (D : va_G) (B : Nat) (σ : St) (U : State) : Prop := wk D B U ∧ wh D B σ U U.heap
theorem wc.moved {D : va_G} {σ : St} {u U : State} {H : Heap} {q : Nat} {sp : Shp} (hvm : u.vm.Alike U.vm) (h : wc D σ u H q sp) : wc D σ U H q sp := by
  rcases sp with ci | ⟨t, n⟩
  · exact h
  · obtain ⟨cA, h1, h2, h3⟩ := h
    exact ⟨cA, h1, arrOfT_moved hvm h2, h3.moved hvm⟩
theorem wh.moved {D : va_G} {B : Nat} {σ : St} {u U : State} {H : Heap} (hvm : u.vm.Alike U.vm) (h : wh D B σ u H) : wh D B σ U H := ⟨h.1, fun q sp hq => ⟨(h.2 q sp hq).1, (h.2 q sp hq).2.moved hvm⟩⟩
theorem zN_ok : ∀ w ∈ zN, w.onTables = true := by
  have h : zN.all (fun w => w.onTables) = true := by decide +kernel
  exact List.all_eq_true.mp h
theorem wk.blind {D : va_G} {B : Nat} {U : State} {g : JFrame} {mk : MethodId} {a : Array Value} (h : wk D B U) : wk D B (U.calling g mk a) := by
  obtain ⟨h1, h2, h3, h4, h5, tP, tR, h6, h7, h8, h9⟩ := h
  have hv : U.vm.Alike (U.calling g mk a).vm := Vm.Alike.refl U.vm
  exact ⟨h1, va_K.moved hv h2, fun w hw => va_Nw.same (zN_ok w hw) (rfl : U.vm = (U.calling g mk a).vm) (h3 w hw), va_AO.moved hv h4, va_AO.moved hv h5, tP, tR, h6.moved hv, h7.moved hv, h8.moved hv, h9.moved hv⟩
theorem zP.blind {D : va_G} {B : Nat} {σ : St} {av : List Value} : FrameBlind (va_Pc av (zP D B σ)) := fun _ U _ _ q => ⟨q.1, q.2.1.blind, q.2.2.moved (Vm.Alike.refl U.vm)⟩
theorem zN_warm {s U : State} (hW : s.WarmedH U.vm) (h : ∀ w ∈ zN, va_Nw w s) : ∀ w ∈ zN, va_Nw w U := by
  intro w hw
  have h0 := h w hw
  simp only [zN, List.mem_cons, List.not_mem_nil, or_false] at hw
  rcases hw with rfl | rfl | rfl | rfl | rfl | rfl | rfl | rfl | rfl <;> exact va_Nw.warmM hW h0
theorem zs.kept {B tP tR : Nat} {U : State} {H H1 : Heap} (h : zs B tP tR U H) (hq : ∀ a : Nat, a < H.size → ¬ zA B a → H1[a]? = H[a]?) : zs B tP tR U H1 := ⟨h.1.kept hq, h.2.1.kept hq, h.2.2.1.kept hq, h.2.2.2.kept hq⟩
theorem zs.moved {B tP tR : Nat} {u U : State} {H : Heap} (hvm : u.vm.Alike U.vm) (h : zs B tP tR u H) : zs B tP tR U H := ⟨h.1.moved hvm, h.2.1.moved hvm, h.2.2.1.moved hvm, h.2.2.2.moved hvm⟩
theorem zP.enter {D : va_G} {B : Nat} {σ : St} {s U : State} {H : Heap} {locs : List Loc} (hk : wk D B s) (hw : wh D B σ s H) (hS : va_S (zA B) s.heap H locs) (hU : U.heap = H) (hW : s.WarmedH U.vm) : zP D B σ U := by
  obtain ⟨h1, h2, h3, h4, h5, tP, tR, h6⟩ := hk
  have hv := hW.alike
  refine ⟨⟨by rw [hU]; exact Nat.le_trans h1 hS.1, va_K.moved hv h2, zN_warm hW h3, va_AO.moved hv h4, va_AO.moved hv h5, tP, tR, ?_⟩, by rw [hU]; exact hw.moved hv⟩
  rw [hU]
  exact (h6.kept (fun a h1 h2 => hS.2.1 a h1 h2)).moved hv
/-! what a step does to the world -/
theorem wc.congr {D : va_G} {σ σ' : St} {U : State} {H H' : Heap} {q : Nat} {sp : Shp} (h : wc D σ U H q sp) (hi : s_i σ' q = s_i σ q) (hr : s_r σ' q = s_r σ q) (hl : s_l σ' q = s_l σ q) (hq : H'[q]? = H[q]?) : wc D σ' U H' q sp := by
  rcases sp with ci | ⟨t, n⟩
  · exact ⟨h.1, (h.2.kept hq).to (fun k _ => by unfold fv; rw [hi, hr, hl])⟩
  · obtain ⟨cA, h1, h2⟩ := h
    refine ⟨cA, ?_, h2⟩
    rw [hq, h1]
    congr 2
    funext j
    unfold ev
    rw [hi, hr, hl]
theorem up2_ne {α : Type} {f : Nat → Nat → α} {q k : Nat} {v : α} {a : Nat} (h : a ≠ q) : up2 f q k v a = f a := by
  funext b
  simp [up2, h]
theorem up2_eq {α : Type} {f : Nat → Nat → α} {q k : Nat} {v : α} : up2 f q k v q = fun b => if b = k then v else f q b := by
  funext b
  simp [up2]
theorem wh.set {D : va_G} {B : Nat} {σ σ' : St} {U : State} {H H' : Heap} {q : Nat} {sp : Shp} (h : wh D B σ U H) (hs : s_s σ q = some sp) (hn : s_n σ' = s_n σ) (hss : s_s σ' = s_s σ) (ho : ∀ a, a ≠ q → s_i σ' a = s_i σ a ∧ s_r σ' a = s_r σ a ∧ s_l σ' a = s_l σ a) (hz : H'.size = H.size) (hq : ∀ a, a ≠ q → H'[a]? = H[a]?) (hc : wc D σ' U H' q sp) : wh D B σ' U H' := by
  refine ⟨by rw [hz, hn]; exact h.1, fun a sp' ha => ?_⟩
  rw [hss] at ha
  by_cases e : a = q
  · subst e
    cases hs.symm.trans ha
    exact ⟨(h.2 _ _ hs).1, hc⟩
  · exact ⟨(h.2 a sp' ha).1, (h.2 a sp' ha).2.congr (ho a e).1 (ho a e).2.1 (ho a e).2.2 (hq a e)⟩
/-- an array's place is written -/
theorem wh.seta {D : va_G} {B : Nat} {σ σ' : St} {U : State} {H H' : Heap} {q t n j : Nat} {v : Value} {cA : ClassId} (h : wh D B σ U H) (hs : s_s σ q = some (.inr (t, n))) (hn : s_n σ' = s_n σ) (hss : s_s σ' = s_s σ) (ho : ∀ a, a ≠ q → s_i σ' a = s_i σ a ∧ s_r σ' a = s_r σ a ∧ s_l σ' a = s_l σ a)
    (hA : ArrOfT U cA (aty t) ∧ va_RA U cA (aty t)) (he : H'[q]? = some ((arrV cA n (ev t σ q)).setSlot j v)) (hv : ∀ b, ev t σ' q b = updV (ev t σ q) j v b) (hz : H'.size = H.size) (hq : ∀ a, a ≠ q → H'[a]? = H[a]?) : wh D B σ' U H' := by
  refine h.set hs hn hss ho hz hq ⟨cA, ?_, hA⟩
  rw [he, arrV_store]
  congr 2
  funext b
  exact (hv b).symm
theorem ev_wi {t : Nat} (ht : ∀ i r l, vy (aty t) i r l = .int i) (σ : St) (q j : Nat) (x : Int32) (b : Nat) : ev t (w_i σ q j x) q b = updV (ev t σ q) j (.int x) b := by
  unfold ev
  rw [ht, updV, ht]
  show Value.int (up2 σ.2.2.1 q j x q b) = _
  rw [up2_eq]
  by_cases h : b = j
  · simp [h]
  · simp [h, s_i]
theorem ev_wr {t : Nat} (ht : ∀ i r l, vy (aty t) i r l = va_rf r) (σ : St) (q j : Nat) (x : Option Nat) (b : Nat) : ev t (w_r σ q j x) q b = updV (ev t σ q) j (va_rf x) b := by
  unfold ev
  rw [ht, updV, ht]
  show va_rf (up2 σ.2.2.2.1 q j x q b) = _
  rw [up2_eq]
  by_cases h : b = j
  · simp [h]
  · simp [h, s_r]
theorem ev_wl {t : Nat} (ht : ∀ i r l, vy (aty t) i r l = .long l) (σ : St) (q j : Nat) (x : Int64) (b : Nat) : ev t (w_l σ q j x) q b = updV (ev t σ q) j (.long x) b := by
  unfold ev
  rw [ht, updV, ht]
  show Value.long (up2 σ.2.2.2.2 q j x q b) = _
  rw [up2_eq]
  by_cases h : b = j
  · simp [h]
  · simp [h, s_l]
theorem wi_o (σ : St) (q j : Nat) (x : Int32) : ∀ a, a ≠ q → s_i (w_i σ q j x) a = s_i σ a ∧ s_r (w_i σ q j x) a = s_r σ a ∧ s_l (w_i σ q j x) a = s_l σ a := fun _ h => ⟨up2_ne h, rfl, rfl⟩
theorem wr_o (σ : St) (q j : Nat) (x : Option Nat) : ∀ a, a ≠ q → s_i (w_r σ q j x) a = s_i σ a ∧ s_r (w_r σ q j x) a = s_r σ a ∧ s_l (w_r σ q j x) a = s_l σ a := fun _ h => ⟨rfl, up2_ne h, rfl⟩
theorem wl_o (σ : St) (q j : Nat) (x : Int64) : ∀ a, a ≠ q → s_i (w_l σ q j x) a = s_i σ a ∧ s_r (w_l σ q j x) a = s_r σ a ∧ s_l (w_l σ q j x) a = s_l σ a := fun _ h => ⟨rfl, rfl, up2_ne h⟩
theorem wh.cell {D : va_G} {B : Nat} {σ : St} {U : State} {H : Heap} {q : Nat} {t n : Nat} (h : wh D B σ U H) (hs : s_s σ q = some (.inr (t, n))) : ∃ cA, H[q]? = some (arrV cA n (ev t σ q)) ∧ ArrOfT U cA (aty t) ∧ va_RA U cA (aty t) := (h.2 q _ hs).2
theorem wh.obj {D : va_G} {B : Nat} {σ : St} {U : State} {H : Heap} {q : Nat} {ci : Nat} (h : wh D B σ U H) (hs : s_s σ q = some (.inl ci)) : ci < 10 ∧ t_OB q (D.1 ci) (fN ci) (D.2 ci) H (fv ci σ q) := (h.2 q _ hs).2
theorem wh.lt {D : va_G} {B : Nat} {σ : St} {U : State} {H : Heap} {q : Nat} {sp : Shp} (h : wh D B σ U H) (hs : s_s σ q = some sp) : q < H.size := by
  have h1 := (h.2 q sp hs).2
  rcases sp with ci | ⟨t, n⟩
  · obtain ⟨-, cell, h2, -⟩ := h1
    exact (Array.getElem?_eq_some_iff.mp h2).1
  · obtain ⟨cA, h2, -⟩ := h1
    exact (Array.getElem?_eq_some_iff.mp h2).1
/-- a field is written -/
theorem wh.setf {D : va_G} {B : Nat} {σ σ' : St} {U : State} {H H' : Heap} {q ci k : Nat} {v : Value} (h : wh D B σ U H) (hs : s_s σ q = some (.inl ci)) (hn : s_n σ' = s_n σ) (hss : s_s σ' = s_s σ) (ho : ∀ a, a ≠ q → s_i σ' a = s_i σ a ∧ s_r σ' a = s_r σ a ∧ s_l σ' a = s_l σ a)
    (he : t_OB q (D.1 ci) (fN ci) (D.2 ci) H' (updV (fv ci σ q) k v)) (hv : ∀ b, fv ci σ' q b = updV (fv ci σ q) k v b) (hz : H'.size = H.size) (hq : ∀ a, a ≠ q → H'[a]? = H[a]?) : wh D B σ' U H' :=
  h.set hs hn hss ho hz hq ⟨(h.obj hs).1, he.to (fun b _ => (hv b).symm)⟩
theorem fv_wi {ci k : Nat} (ht : ∀ i r l, vy (fY ci k) i r l = .int i) (σ : St) (q : Nat) (x : Int32) (b : Nat) : fv ci (w_i σ q k x) q b = updV (fv ci σ q) k (.int x) b := by
  unfold fv
  rw [updV]
  by_cases h : b = k
  · subst h
    rw [if_pos rfl, ht]
    show Value.int (up2 σ.2.2.1 q b x q b) = _
    simp [up2]
  · rw [if_neg h]
    show vy _ (up2 σ.2.2.1 q k x q b) _ _ = _
    rw [up2_eq]
    simp only [h, if_false]
    rfl
theorem fv_wr {ci k : Nat} (ht : ∀ i r l, vy (fY ci k) i r l = va_rf r) (σ : St) (q : Nat) (x : Option Nat) (b : Nat) : fv ci (w_r σ q k x) q b = updV (fv ci σ q) k (va_rf x) b := by
  unfold fv
  rw [updV]
  by_cases h : b = k
  · subst h
    rw [if_pos rfl, ht]
    show va_rf (up2 σ.2.2.2.1 q b x q b) = _
    simp [up2]
  · rw [if_neg h]
    show vy _ _ (up2 σ.2.2.2.1 q k x q b) _ = _
    rw [up2_eq]
    simp only [h, if_false]
    rfl
/-- a cell is born -/
theorem wh.new {D : va_G} {B : Nat} {σ : St} {U : State} {H H' : Heap} {sp : Shp} (h : wh D B σ U H) (hB : B ≤ H.size) (hz : H'.size = H.size + 1) (hq : ∀ a, a < H.size → H'[a]? = H[a]?) (hc : wc D (w_new σ sp) U H' H.size sp) : wh D B (w_new σ sp) U H' := by
  have e : s_n σ = H.size := h.1.symm
  refine ⟨by rw [hz, ← e]; rfl, fun a sp' ha => ?_⟩
  have ha' : (if a = s_n σ then some sp else s_s σ a) = some sp' := ha
  by_cases g : a = s_n σ
  · rw [if_pos g] at ha'
    cases ha'
    rw [g, e]
    exact ⟨hB, hc⟩
  · rw [if_neg g] at ha'
    have hlt := h.lt ha'
    refine ⟨(h.2 a sp' ha').1, (h.2 a sp' ha').2.congr ?_ ?_ ?_ (hq a hlt)⟩
    · funext b
      show (if a = s_n σ then _ else _) = _
      rw [if_neg g]; rfl
    · funext b
      show (if a = s_n σ then _ else _) = _
      rw [if_neg g]; rfl
    · funext b
      show (if a = s_n σ then _ else _) = _
      rw [if_neg g]; rfl
