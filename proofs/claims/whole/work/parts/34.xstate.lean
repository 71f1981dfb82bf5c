/-! The class: its cells, and what is in them. -/
/-- what a run may change, cells that are made aside -/
def cx (SI SR : Nat → Nat → Prop) (σ σ' : St) : Prop := s_n σ ≤ s_n σ' ∧ ∀ q, q < s_n σ → s_s σ' q = s_s σ q ∧ (∀ k, ¬ SI q k → s_i σ' q k = s_i σ q k) ∧ ∀ k, ¬ SR q k → s_r σ' q k = s_r σ q k
theorem chg.x {SI SR : Nat → Nat → Prop} {σ σ' : St} (h : chg SI SR σ σ') : cx SI SR σ σ' := ⟨by rw [h.n]; exact Nat.le_refl _, fun q _ => ⟨by rw [h.s], fun k n => h.i n, fun k n => h.r n⟩⟩
theorem cx.rf {SI SR : Nat → Nat → Prop} {σ : St} : cx SI SR σ σ := chg.rf.x
theorem cx.n {SI SR : Nat → Nat → Prop} {σ σ' : St} (h : cx SI SR σ σ') : s_n σ ≤ s_n σ' := h.1
theorem cx.s {SI SR : Nat → Nat → Prop} {σ σ' : St} (h : cx SI SR σ σ') {q : Nat} (hq : q < s_n σ) : s_s σ' q = s_s σ q := (h.2 q hq).1
theorem cx.i {SI SR : Nat → Nat → Prop} {σ σ' : St} (h : cx SI SR σ σ') {q k : Nat} (hq : q < s_n σ) (n : ¬ SI q k) : s_i σ' q k = s_i σ q k := (h.2 q hq).2.1 k n
theorem cx.r {SI SR : Nat → Nat → Prop} {σ σ' : St} (h : cx SI SR σ σ') {q k : Nat} (hq : q < s_n σ) (n : ¬ SR q k) : s_r σ' q k = s_r σ q k := (h.2 q hq).2.2 k n
theorem cx.tr {SI SR : Nat → Nat → Prop} {σ σ' σ'' : St} (h : cx SI SR σ σ') (k : cx SI SR σ' σ'') : cx SI SR σ σ'' := ⟨Nat.le_trans h.1 k.1, fun q hq => ⟨(k.s (Nat.lt_of_lt_of_le hq h.1)).trans (h.s hq), fun j n => (k.i (Nat.lt_of_lt_of_le hq h.1) n).trans (h.i hq n), fun j n => (k.r (Nat.lt_of_lt_of_le hq h.1) n).trans (h.r hq n)⟩⟩
theorem cx.up {SI SR TI TR : Nat → Nat → Prop} {σ σ' : St} (h : cx SI SR σ σ') (hi : ∀ q k, SI q k → TI q k) (hr : ∀ q k, SR q k → TR q k) : cx TI TR σ σ' := ⟨h.1, fun q hq => ⟨h.s hq, fun k n => h.i hq (fun z => n (hi q k z)), fun k n => h.r hq (fun z => n (hr q k z))⟩⟩
theorem cx.wn {SI SR : Nat → Nat → Prop} {σ0 σ : St} {sp : Shp} (h : cx SI SR σ0 σ) : cx SI SR σ0 (w_new σ sp) := ⟨Nat.le_succ_of_le h.1, fun q hq => by
  have hne : q ≠ s_n σ := by have := h.1; omega
  exact ⟨by rw [s_s_wn, if_neg hne]; exact h.s hq, fun k n => by rw [s_i_wn, if_neg hne]; exact h.i hq n, fun k n => by rw [s_r_wn, if_neg hne]; exact h.r hq n⟩⟩
theorem cx.wi {SI SR : Nat → Nat → Prop} {σ0 σ : St} {q k : Nat} {v : Int32} (h : cx SI SR σ0 σ) (hs : SI q k ∨ s_n σ0 ≤ q) : cx SI SR σ0 (w_i σ q k v) := ⟨h.1, fun a ha => ⟨h.s ha, fun c n => by
  rw [s_i_wi, if_neg (fun z => by
    rcases hs with hs | hs
    · exact n (by rw [z.1, z.2]; exact hs)
    · have := z.1; omega)]
  exact h.i ha n, fun c n => h.r ha n⟩⟩
theorem cx.wr {SI SR : Nat → Nat → Prop} {σ0 σ : St} {q k : Nat} {v : Option Nat} (h : cx SI SR σ0 σ) (hs : SR q k ∨ s_n σ0 ≤ q) : cx SI SR σ0 (w_r σ q k v) := ⟨h.1, fun a ha => ⟨h.s ha, fun c n => h.i ha n, fun c n => by
  rw [s_r_wr, if_neg (fun z => by
    rcases hs with hs | hs
    · exact n (by rw [z.1, z.2]; exact hs)
    · have := z.1; omega)]
  exact h.r ha n⟩⟩
theorem cx.wl {SI SR : Nat → Nat → Prop} {σ0 σ : St} {q k : Nat} {v : Int64} (h : cx SI SR σ0 σ) : cx SI SR σ0 (w_l σ q k v) := h
/-- where references may change -/
def XR (b q k : Nat) : Prop := q = b + 2 ∨ q = b + 5 ∨ (∃ t, t < 5 ∧ q = b + 7 + 3 * t) ∨ q = b + 98 ∨ (k = 4 ∧ ∃ i, i < 30 ∧ q = b + 23 + 2 * i)
theorem XR.not {b q k : Nat} (h : q ≠ b + 2 ∧ q ≠ b + 5 ∧ (∀ t, t < 5 → q ≠ b + 7 + 3 * t) ∧ q ≠ b + 98 ∧ (k = 4 → ∀ i, i < 30 → q ≠ b + 23 + 2 * i)) : ¬ XR b q k := by
  rintro (z | z | ⟨t, h1, z⟩ | z | ⟨h1, i, h2, z⟩)
  · exact h.1 z
  · exact h.2.1 z
  · exact h.2.2.1 t h1 z
  · exact h.2.2.2.1 z
  · exact h.2.2.2.2 h1 i h2 z
def XLa (b : Nat) (σ : St) : Prop := s_s σ b = some (.inl 0) ∧ s_r σ b 0 = some (b + 1) ∧ s_r σ b 1 = some (b + 4) ∧ s_r σ b 2 = some (b + 21) ∧ s_r σ b 3 = some (b + 83) ∧ s_r σ b 4 = some (b + 88) ∧ s_r σ b 5 = some (b + 101) ∧ s_r σ b 6 = some (b + 105) ∧ s_s σ (b + 105) = some (.inr (3, 60)) ∧ s_s σ (b + 4) = some (.inl 2) ∧ s_r σ (b + 4) 0 = some (b + 5) ∧ s_r σ (b + 4) 1 = some (b + 18) ∧ s_s σ (b + 5) = some (.inr (6, 4)) ∧ s_s σ (b + 21) = some (.inl 3) ∧ s_r σ (b + 21) 0 = some (b + 22) ∧ s_s σ (b + 22) = some (.inr (5, 30)) ∧ s_s σ (b + 88) = some (.inl 6) ∧ s_r σ (b + 88) 0 = some (b + 89) ∧ s_r σ (b + 88) 1 = some (b + 94) ∧ s_r σ (b + 88) 2 = some (b + 98) ∧ s_r σ (b + 88) 4 = some (b + 99) ∧ s_r σ (b + 88) 5 = some (b + 100) ∧ s_s σ (b + 98) = some (.inr (5, 5)) ∧ s_s σ (b + 99) = some (.inr (0, 12)) ∧ s_s σ (b + 100) = some (.inr (0, 12)) ∧ s_s σ (b + 94) = some (.inl 7) ∧ s_r σ (b + 94) 0 = some (b + 95) ∧ s_r σ (b + 94) 1 = some (b + 96) ∧ s_r σ (b + 94) 2 = some (b + 97) ∧ s_s σ (b + 95) = some (.inr (0, 3341)) ∧ s_s σ (b + 96) = some (.inr (2, 3341)) ∧ s_s σ (b + 97) = some (.inr (0, 5)) ∧ s_s σ (b + 101) = some (.inl 8) ∧ s_r σ (b + 101) 0 = some (b + 102) ∧ s_r σ (b + 101) 2 = some (b + 103) ∧ s_r σ (b + 101) 3 = some (b + 104) ∧ s_s σ (b + 102) = some (.inr (0, 120)) ∧ s_s σ (b + 103) = some (.inr (0, 60)) ∧ s_s σ (b + 104) = some (.inr (1, 4))
theorem XLa.o {b : Nat} {σ : St} (h : XLa b σ) : s_s σ b = some (.inl 0) := h.1
theorem XLa.o0 {b : Nat} {σ : St} (h : XLa b σ) : s_r σ b 0 = some (b + 1) := h.2.1
theorem XLa.o1 {b : Nat} {σ : St} (h : XLa b σ) : s_r σ b 1 = some (b + 4) := h.2.2.1
theorem XLa.o2 {b : Nat} {σ : St} (h : XLa b σ) : s_r σ b 2 = some (b + 21) := h.2.2.2.1
theorem XLa.o3 {b : Nat} {σ : St} (h : XLa b σ) : s_r σ b 3 = some (b + 83) := h.2.2.2.2.1
theorem XLa.o4 {b : Nat} {σ : St} (h : XLa b σ) : s_r σ b 4 = some (b + 88) := h.2.2.2.2.2.1
theorem XLa.o5 {b : Nat} {σ : St} (h : XLa b σ) : s_r σ b 5 = some (b + 101) := h.2.2.2.2.2.2.1
theorem XLa.o6 {b : Nat} {σ : St} (h : XLa b σ) : s_r σ b 6 = some (b + 105) := h.2.2.2.2.2.2.2.1
theorem XLa.tx {b : Nat} {σ : St} (h : XLa b σ) : s_s σ (b + 105) = some (.inr (3, 60)) := h.2.2.2.2.2.2.2.2.1
theorem XLa.h {b : Nat} {σ : St} (h : XLa b σ) : s_s σ (b + 4) = some (.inl 2) := h.2.2.2.2.2.2.2.2.2.1
theorem XLa.h0 {b : Nat} {σ : St} (h : XLa b σ) : s_r σ (b + 4) 0 = some (b + 5) := h.2.2.2.2.2.2.2.2.2.2.1
theorem XLa.h1 {b : Nat} {σ : St} (h : XLa b σ) : s_r σ (b + 4) 1 = some (b + 18) := h.2.2.2.2.2.2.2.2.2.2.2.1
theorem XLa.ha {b : Nat} {σ : St} (h : XLa b σ) : s_s σ (b + 5) = some (.inr (6, 4)) := h.2.2.2.2.2.2.2.2.2.2.2.2.1
theorem XLa.f {b : Nat} {σ : St} (h : XLa b σ) : s_s σ (b + 21) = some (.inl 3) := h.2.2.2.2.2.2.2.2.2.2.2.2.2.1
theorem XLa.f0 {b : Nat} {σ : St} (h : XLa b σ) : s_r σ (b + 21) 0 = some (b + 22) := h.2.2.2.2.2.2.2.2.2.2.2.2.2.2.1
theorem XLa.fa {b : Nat} {σ : St} (h : XLa b σ) : s_s σ (b + 22) = some (.inr (5, 30)) := h.2.2.2.2.2.2.2.2.2.2.2.2.2.2.2.1
theorem XLa.e {b : Nat} {σ : St} (h : XLa b σ) : s_s σ (b + 88) = some (.inl 6) := h.2.2.2.2.2.2.2.2.2.2.2.2.2.2.2.2.1
theorem XLa.e0 {b : Nat} {σ : St} (h : XLa b σ) : s_r σ (b + 88) 0 = some (b + 89) := h.2.2.2.2.2.2.2.2.2.2.2.2.2.2.2.2.2.1
theorem XLa.e1 {b : Nat} {σ : St} (h : XLa b σ) : s_r σ (b + 88) 1 = some (b + 94) := h.2.2.2.2.2.2.2.2.2.2.2.2.2.2.2.2.2.2.1
theorem XLa.e2 {b : Nat} {σ : St} (h : XLa b σ) : s_r σ (b + 88) 2 = some (b + 98) := h.2.2.2.2.2.2.2.2.2.2.2.2.2.2.2.2.2.2.2.1
theorem XLa.e4 {b : Nat} {σ : St} (h : XLa b σ) : s_r σ (b + 88) 4 = some (b + 99) := h.2.2.2.2.2.2.2.2.2.2.2.2.2.2.2.2.2.2.2.2.1
theorem XLa.e5 {b : Nat} {σ : St} (h : XLa b σ) : s_r σ (b + 88) 5 = some (b + 100) := h.2.2.2.2.2.2.2.2.2.2.2.2.2.2.2.2.2.2.2.2.2.1
theorem XLa.ea {b : Nat} {σ : St} (h : XLa b σ) : s_s σ (b + 98) = some (.inr (5, 5)) := h.2.2.2.2.2.2.2.2.2.2.2.2.2.2.2.2.2.2.2.2.2.2.1
theorem XLa.eb {b : Nat} {σ : St} (h : XLa b σ) : s_s σ (b + 99) = some (.inr (0, 12)) := h.2.2.2.2.2.2.2.2.2.2.2.2.2.2.2.2.2.2.2.2.2.2.2.1
theorem XLa.ec {b : Nat} {σ : St} (h : XLa b σ) : s_s σ (b + 100) = some (.inr (0, 12)) := h.2.2.2.2.2.2.2.2.2.2.2.2.2.2.2.2.2.2.2.2.2.2.2.2.1
theorem XLa.p {b : Nat} {σ : St} (h : XLa b σ) : s_s σ (b + 94) = some (.inl 7) := h.2.2.2.2.2.2.2.2.2.2.2.2.2.2.2.2.2.2.2.2.2.2.2.2.2.1
theorem XLa.p0 {b : Nat} {σ : St} (h : XLa b σ) : s_r σ (b + 94) 0 = some (b + 95) := h.2.2.2.2.2.2.2.2.2.2.2.2.2.2.2.2.2.2.2.2.2.2.2.2.2.2.1
theorem XLa.p1 {b : Nat} {σ : St} (h : XLa b σ) : s_r σ (b + 94) 1 = some (b + 96) := h.2.2.2.2.2.2.2.2.2.2.2.2.2.2.2.2.2.2.2.2.2.2.2.2.2.2.2.1
theorem XLa.p2 {b : Nat} {σ : St} (h : XLa b σ) : s_r σ (b + 94) 2 = some (b + 97) := h.2.2.2.2.2.2.2.2.2.2.2.2.2.2.2.2.2.2.2.2.2.2.2.2.2.2.2.2.1
theorem XLa.pa {b : Nat} {σ : St} (h : XLa b σ) : s_s σ (b + 95) = some (.inr (0, 3341)) := h.2.2.2.2.2.2.2.2.2.2.2.2.2.2.2.2.2.2.2.2.2.2.2.2.2.2.2.2.2.1
theorem XLa.pb {b : Nat} {σ : St} (h : XLa b σ) : s_s σ (b + 96) = some (.inr (2, 3341)) := h.2.2.2.2.2.2.2.2.2.2.2.2.2.2.2.2.2.2.2.2.2.2.2.2.2.2.2.2.2.2.1
theorem XLa.pc {b : Nat} {σ : St} (h : XLa b σ) : s_s σ (b + 97) = some (.inr (0, 5)) := h.2.2.2.2.2.2.2.2.2.2.2.2.2.2.2.2.2.2.2.2.2.2.2.2.2.2.2.2.2.2.2.1
theorem XLa.d {b : Nat} {σ : St} (h : XLa b σ) : s_s σ (b + 101) = some (.inl 8) := h.2.2.2.2.2.2.2.2.2.2.2.2.2.2.2.2.2.2.2.2.2.2.2.2.2.2.2.2.2.2.2.2.1
theorem XLa.d0 {b : Nat} {σ : St} (h : XLa b σ) : s_r σ (b + 101) 0 = some (b + 102) := h.2.2.2.2.2.2.2.2.2.2.2.2.2.2.2.2.2.2.2.2.2.2.2.2.2.2.2.2.2.2.2.2.2.1
theorem XLa.d2 {b : Nat} {σ : St} (h : XLa b σ) : s_r σ (b + 101) 2 = some (b + 103) := h.2.2.2.2.2.2.2.2.2.2.2.2.2.2.2.2.2.2.2.2.2.2.2.2.2.2.2.2.2.2.2.2.2.2.1
theorem XLa.d3 {b : Nat} {σ : St} (h : XLa b σ) : s_r σ (b + 101) 3 = some (b + 104) := h.2.2.2.2.2.2.2.2.2.2.2.2.2.2.2.2.2.2.2.2.2.2.2.2.2.2.2.2.2.2.2.2.2.2.2.1
theorem XLa.da {b : Nat} {σ : St} (h : XLa b σ) : s_s σ (b + 102) = some (.inr (0, 120)) := h.2.2.2.2.2.2.2.2.2.2.2.2.2.2.2.2.2.2.2.2.2.2.2.2.2.2.2.2.2.2.2.2.2.2.2.2.1
theorem XLa.db {b : Nat} {σ : St} (h : XLa b σ) : s_s σ (b + 103) = some (.inr (0, 60)) := h.2.2.2.2.2.2.2.2.2.2.2.2.2.2.2.2.2.2.2.2.2.2.2.2.2.2.2.2.2.2.2.2.2.2.2.2.2.1
theorem XLa.dc {b : Nat} {σ : St} (h : XLa b σ) : s_s σ (b + 104) = some (.inr (1, 4)) := h.2.2.2.2.2.2.2.2.2.2.2.2.2.2.2.2.2.2.2.2.2.2.2.2.2.2.2.2.2.2.2.2.2.2.2.2.2.2
theorem XLa.g {b : Nat} {SI SR : Nat → Nat → Prop} {σ σ' : St} (h : XLa b σ) (c : cx SI SR σ σ') (hN : b + 106 ≤ s_n σ) (hR : ∀ q k, SR q k → XR b q k) : XLa b σ' := by
  have nr : ∀ q k, (q ≠ b + 2 ∧ q ≠ b + 5 ∧ (∀ t, t < 5 → q ≠ b + 7 + 3 * t) ∧ q ≠ b + 98 ∧ (k = 4 → ∀ i, i < 30 → q ≠ b + 23 + 2 * i)) → ¬ SR q k := fun q k z w => XR.not z (hR q k w)
  exact ⟨(c.s (by omega)).trans h.o, (c.r (by omega) (nr _ _ ⟨by omega, by omega, fun t ht => by omega, by omega, fun hk i hi => by omega⟩)).trans h.o0, (c.r (by omega) (nr _ _ ⟨by omega, by omega, fun t ht => by omega, by omega, fun hk i hi => by omega⟩)).trans h.o1, (c.r (by omega) (nr _ _ ⟨by omega, by omega, fun t ht => by omega, by omega, fun hk i hi => by omega⟩)).trans h.o2, (c.r (by omega) (nr _ _ ⟨by omega, by omega, fun t ht => by omega, by omega, fun hk i hi => by omega⟩)).trans h.o3, (c.r (by omega) (nr _ _ ⟨by omega, by omega, fun t ht => by omega, by omega, fun hk i hi => by omega⟩)).trans h.o4, (c.r (by omega) (nr _ _ ⟨by omega, by omega, fun t ht => by omega, by omega, fun hk i hi => by omega⟩)).trans h.o5, (c.r (by omega) (nr _ _ ⟨by omega, by omega, fun t ht => by omega, by omega, fun hk i hi => by omega⟩)).trans h.o6, (c.s (by omega)).trans h.tx, (c.s (by omega)).trans h.h, (c.r (by omega) (nr _ _ ⟨by omega, by omega, fun t ht => by omega, by omega, fun hk i hi => by omega⟩)).trans h.h0, (c.r (by omega) (nr _ _ ⟨by omega, by omega, fun t ht => by omega, by omega, fun hk i hi => by omega⟩)).trans h.h1, (c.s (by omega)).trans h.ha, (c.s (by omega)).trans h.f, (c.r (by omega) (nr _ _ ⟨by omega, by omega, fun t ht => by omega, by omega, fun hk i hi => by omega⟩)).trans h.f0, (c.s (by omega)).trans h.fa, (c.s (by omega)).trans h.e, (c.r (by omega) (nr _ _ ⟨by omega, by omega, fun t ht => by omega, by omega, fun hk i hi => by omega⟩)).trans h.e0, (c.r (by omega) (nr _ _ ⟨by omega, by omega, fun t ht => by omega, by omega, fun hk i hi => by omega⟩)).trans h.e1, (c.r (by omega) (nr _ _ ⟨by omega, by omega, fun t ht => by omega, by omega, fun hk i hi => by omega⟩)).trans h.e2, (c.r (by omega) (nr _ _ ⟨by omega, by omega, fun t ht => by omega, by omega, fun hk i hi => by omega⟩)).trans h.e4, (c.r (by omega) (nr _ _ ⟨by omega, by omega, fun t ht => by omega, by omega, fun hk i hi => by omega⟩)).trans h.e5, (c.s (by omega)).trans h.ea, (c.s (by omega)).trans h.eb, (c.s (by omega)).trans h.ec, (c.s (by omega)).trans h.p, (c.r (by omega) (nr _ _ ⟨by omega, by omega, fun t ht => by omega, by omega, fun hk i hi => by omega⟩)).trans h.p0, (c.r (by omega) (nr _ _ ⟨by omega, by omega, fun t ht => by omega, by omega, fun hk i hi => by omega⟩)).trans h.p1, (c.r (by omega) (nr _ _ ⟨by omega, by omega, fun t ht => by omega, by omega, fun hk i hi => by omega⟩)).trans h.p2, (c.s (by omega)).trans h.pa, (c.s (by omega)).trans h.pb, (c.s (by omega)).trans h.pc, (c.s (by omega)).trans h.d, (c.r (by omega) (nr _ _ ⟨by omega, by omega, fun t ht => by omega, by omega, fun hk i hi => by omega⟩)).trans h.d0, (c.r (by omega) (nr _ _ ⟨by omega, by omega, fun t ht => by omega, by omega, fun hk i hi => by omega⟩)).trans h.d2, (c.r (by omega) (nr _ _ ⟨by omega, by omega, fun t ht => by omega, by omega, fun hk i hi => by omega⟩)).trans h.d3, (c.s (by omega)).trans h.da, (c.s (by omega)).trans h.db, (c.s (by omega)).trans h.dc⟩
def SLt (s : Nat) (σ : St) : Prop := s_s σ s = some (.inl 1) ∧ (s_s σ (s + 1) = some (.inr (5, 5)) ∧ s_r σ s 0 = some (s + 1)) ∧ (s_s σ (s + 2) = some (.inr (1, 5)) ∧ s_r σ s 1 = some (s + 2))
def FLt (b i : Nat) (σ : St) : Prop := s_s σ (b + 23 + 2 * i) = some (.inl 4) ∧ s_r σ (b + 23 + 2 * i) 0 = some (b + 23 + 2 * i + 1) ∧ s_s σ (b + 23 + 2 * i + 1) = some (.inr (0, 30)) ∧ s_r σ (b + 22) i = some (b + 23 + 2 * i)
theorem SLt.s {s : Nat} {σ : St} (h : SLt s σ) : s_s σ s = some (.inl 1) := h.1
theorem SLt.a1 {s : Nat} {σ : St} (h : SLt s σ) : s_s σ (s + 1) = some (.inr (5, 5)) := h.2.1.1
theorem SLt.r1 {s : Nat} {σ : St} (h : SLt s σ) : s_r σ s 0 = some (s + 1) := h.2.1.2
theorem SLt.a2 {s : Nat} {σ : St} (h : SLt s σ) : s_s σ (s + 2) = some (.inr (1, 5)) := h.2.2.1
theorem SLt.r2 {s : Nat} {σ : St} (h : SLt s σ) : s_r σ s 1 = some (s + 2) := h.2.2.2
theorem SLt.g {s : Nat} {SI SR : Nat → Nat → Prop} {σ σ' : St} (h : SLt s σ) (c : cx SI SR σ σ') (hN : s + 2 < s_n σ) (hR : ∀ k, ¬ SR s k) : SLt s σ' := ⟨(c.s (by omega)).trans h.s, ⟨(c.s (by omega)).trans h.a1, (c.r (by omega) (hR 0)).trans h.r1⟩, (c.s (by omega)).trans h.a2, (c.r (by omega) (hR 1)).trans h.r2⟩
theorem BL.x {c : Nat} {SI SR : Nat → Nat → Prop} {σ σ' : St} (h : BL c σ) (k : cx SI SR σ σ') (hN : c + 4 < s_n σ) (hR : ∀ k, ¬ SR c k) : BL c σ' := ⟨(k.s (by omega)).trans h.s, ⟨(k.s (by omega)).trans h.a1, (k.r (by omega) (hR 0)).trans h.r1⟩, ⟨(k.s (by omega)).trans h.a2, (k.r (by omega) (hR 1)).trans h.r2⟩, ⟨(k.s (by omega)).trans h.a3, (k.r (by omega) (hR 2)).trans h.r3⟩, (k.s (by omega)).trans h.a4, (k.r (by omega) (hR 3)).trans h.r4⟩
def XL (b : Nat) (σ : St) : Prop := XLa b σ ∧ SLt (b + 1) σ ∧ (∀ t, t < 5 → SLt (b + 6 + 3 * t) σ) ∧ (∀ i, i < 30 → FLt b i σ) ∧ BL (b + 83) σ ∧ BL (b + 89) σ
theorem XL.g {b : Nat} {SI SR : Nat → Nat → Prop} {σ σ' : St} (h : XL b σ) (c : cx SI SR σ σ') (hN : b + 106 ≤ s_n σ) (hR : ∀ q k, SR q k → XR b q k) : XL b σ' := by
  have nr : ∀ q k, (q ≠ b + 2 ∧ q ≠ b + 5 ∧ (∀ t, t < 5 → q ≠ b + 7 + 3 * t) ∧ q ≠ b + 98 ∧ (k = 4 → ∀ i, i < 30 → q ≠ b + 23 + 2 * i)) → ¬ SR q k := fun q k z w => XR.not z (hR q k w)
  obtain ⟨h1, h2, h3, h4, h5, h6⟩ := h
  refine ⟨h1.g c hN hR, h2.g c (by omega) (fun k => nr _ _ ⟨by omega, by omega, fun t ht => by omega, by omega, fun hk i hi => by omega⟩), fun t ht => (h3 t ht).g c (by omega) (fun k => nr _ _ ⟨by omega, by omega, fun t ht => by omega, by omega, fun hk i hi => by omega⟩), fun i hi => ?_, h5.x c (by omega) (fun k => nr _ _ ⟨by omega, by omega, fun t ht => by omega, by omega, fun hk i hi => by omega⟩), h6.x c (by omega) (fun k => nr _ _ ⟨by omega, by omega, fun t ht => by omega, by omega, fun hk i hi => by omega⟩)⟩
  obtain ⟨f1, f2, f3, f4⟩ := h4 i hi
  exact ⟨(c.s (by omega)).trans f1, (c.r (by omega) (nr _ _ ⟨by omega, by omega, fun t ht => by omega, by omega, fun hk i hi => by omega⟩)).trans f2, (c.s (by omega)).trans f3, (c.r (by omega) (nr _ _ ⟨by omega, by omega, fun t ht => by omega, by omega, fun hk i hi => by omega⟩)).trans f4⟩
/-! the content -/
def bcS (n c : Nat) (S : List Nat) : Nat := ct (fun k => (run n c k [] S).getD 1 0 != (run n c k [] S).getD 0 0) (n * n * n)
theorem bcS_law {n c : Nat} {w : Lw} (h : okL w) : bcS n c (w.1 ++ w.2) = bc n c w := by
  unfold bcS bc
  refine ct_cong (fun k hk => ?_)
  rw [run_law h]
  rfl
/-- a place's law: its steps -/
def PlC (b i : Nat) (S : List Nat) (σ : St) : Prop := (S.length ≤ 30 ∧ ∀ v ∈ S, v ≤ 3) ∧ s_i σ (b + 23 + 2 * i) 1 = nI S.length ∧ (∀ k, k < S.length → s_i σ (b + 23 + 2 * i + 1) k = nI (S.getD k 0)) ∧ s_i σ (b + 23 + 2 * i) 2 = nI (S.countP isLet) ∧ s_i σ (b + 23 + 2 * i) 3 = nI (lets S)
/-- what is kept of it -/
def CtC (b i : Nat) (S : List Nat) (σ : St) : Prop := (∀ q, s_r σ (b + 23 + 2 * i) 4 = some q → b + 121 ≤ q ∧ q < s_n σ ∧ s_s σ q = some (.inr (2, 3341)) ∧ ∀ j, j < 30 → j ≠ i → s_r σ (b + 23 + 2 * j) 4 ≠ some q) ∧ ∃ cnt : Bool, s_i σ (b + 23 + 2 * i) 5 = bI cnt ∧ (cnt = true → ∃ q, s_r σ (b + 23 + 2 * i) 4 = some q ∧ ∀ w, w < 3341 → s_i σ q w = nI (bcS (pws w) (pwc w) S))
def LR (b : Nat) (o : Option Nat) : Prop := ∀ y, o = some y → ∃ j, j < 30 ∧ y = b + 23 + 2 * j
def WT (b s : Nat) (σ : St) : Prop := ∀ i, i < 5 → LR b (s_r σ (s + 1) i)
def StC (b : Nat) (sp : Nat → List Nat) (s : Nat) (w : Ws) (σ : St) : Prop := s_i σ s 2 = nI w.2.2.length ∧ s_i σ s 3 = nI w.1 ∧ s_i σ s 4 = nI w.2.1 ∧ ∀ i, i < w.2.2.length → s_i σ (s + 2) i = bI (lwg w.2.2 i).1 ∧ ∃ j, j < 30 ∧ s_r σ (s + 1) i = some (b + 23 + 2 * j) ∧ sp j = (lwg w.2.2 i).2.1 ++ (lwg w.2.2 i).2.2
def HiC (b : Nat) (sp : Nat → List Nat) (h : List Ws) (σ : St) : Prop := s_i σ (b + 4) 2 = nI h.length ∧ ∃ r, r < 4 ∧ (∀ k, k < 4 → s_r σ (b + 5) k = some (b + 6 + 3 * ((r + k) % 4))) ∧ ∀ k, k < h.length → StC b sp (b + 6 + 3 * ((r + k) % 4)) (h.getD k wz) σ
def SnC (b : Nat) (sp : Nat → List Nat) (o : Option Ws) (σ : St) : Prop := match o with
  | none => s_i σ (b + 4) 3 = nI 0
  | some w => s_i σ (b + 4) 3 = nI 1 ∧ StC b sp (b + 18) w σ
def TxC (b : Nat) (t : List Nat) (σ : St) : Prop := s_i σ b 7 = nI t.length ∧ ∀ k, k < t.length → s_i σ (b + 105) k = nI (t.getD k 0)
def PwR (b : Nat) (σ : St) : Prop := (∀ w, w < 3341 → s_i σ (b + 95) w = nI (pwc w) ∧ s_i σ (b + 96) w = nI (oc (pws w) (pwc w))) ∧ ∀ n, 1 ≤ n → n ≤ 4 → s_i σ (b + 97) n = nI (fo n)
def PwC (b : Nat) (σ : St) : Prop := s_i σ (b + 94) 3 = nI 0 ∨ (s_i σ (b + 94) 3 = nI 3341 ∧ PwR b σ)
def ShC (b : Nat) (sp : Nat → List Nat) (σ : St) : Prop := ∀ i, i < 30 → PlC b i (sp i) σ ∧ CtC b i (sp i) σ
def XI (b : Nat) (σ : St) (a : As) : Prop := XL b σ ∧ b + 106 ≤ s_n σ ∧ ∃ sp : Nat → List Nat, ShC b sp σ ∧ (WT b (b + 1) σ ∧ ∀ t, t < 5 → WT b (b + 6 + 3 * t) σ) ∧ StC b sp (b + 1) a.1 σ ∧ HiC b sp a.2.1 σ ∧ SnC b sp a.2.2.1 σ ∧ TxC b a.2.2.2 σ ∧ (BV (b + 83) σ ∧ BV (b + 89) σ) ∧ PwC b σ
/-! frames -/
theorem PlC.g {b i : Nat} {S : List Nat} {SI SR : Nat → Nat → Prop} {σ σ' : St} (h : PlC b i S σ) (c : cx SI SR σ σ') (hN : b + 23 + 2 * i + 1 < s_n σ) (h1 : ∀ k, 1 ≤ k → k ≤ 3 → ¬ SI (b + 23 + 2 * i) k) (h2 : ∀ k, ¬ SI (b + 23 + 2 * i + 1) k) : PlC b i S σ' := ⟨h.1, (c.i (by omega) (h1 1 (by decide) (by decide))).trans h.2.1, fun k hk => (c.i hN (h2 k)).trans (h.2.2.1 k hk), (c.i (by omega) (h1 2 (by decide) (by decide))).trans h.2.2.2.1, (c.i (by omega) (h1 3 (by decide) (by decide))).trans h.2.2.2.2⟩
theorem CtC.g {b i : Nat} {S : List Nat} {SI SR : Nat → Nat → Prop} {σ σ' : St} (h : CtC b i S σ) (c : cx SI SR σ σ') (hN : b + 106 ≤ s_n σ) (hi : i < 30) (h5 : ¬ SI (b + 23 + 2 * i) 5) (hr : ∀ j, j < 30 → ¬ SR (b + 23 + 2 * j) 4) (hq : ∀ q k, b + 121 ≤ q → ¬ SI q k) : CtC b i S σ' := by
  have e : ∀ j, j < 30 → s_r σ' (b + 23 + 2 * j) 4 = s_r σ (b + 23 + 2 * j) 4 := fun j hj => c.r (by omega) (hr j hj)
  have hn := c.n
  obtain ⟨h1, cnt, h2, h3⟩ := h
  refine ⟨fun q hqq => ?_, cnt, (c.i (by omega) h5).trans h2, fun z => ?_⟩
  · rw [e i hi] at hqq
    obtain ⟨g1, g2, g3, g4⟩ := h1 q hqq
    exact ⟨g1, by omega, (c.s g2).trans g3, fun j hj hne => by rw [e j hj]; exact g4 j hj hne⟩
  · obtain ⟨q, g1, g2⟩ := h3 z
    obtain ⟨f1, f2, -⟩ := h1 q g1
    exact ⟨q, (e i hi).trans g1, fun w hw => (c.i f2 (hq q w f1)).trans (g2 w hw)⟩
theorem ShC.g {b : Nat} {sp : Nat → List Nat} {SI SR : Nat → Nat → Prop} {σ σ' : St} (h : ShC b sp σ) (c : cx SI SR σ σ') (hN : b + 106 ≤ s_n σ) (h1 : ∀ q k, (b + 23 ≤ q ∧ q ≤ b + 82) ∨ b + 121 ≤ q → ¬ SI q k) (hr : ∀ j, j < 30 → ¬ SR (b + 23 + 2 * j) 4) : ShC b sp σ' := fun i hi => ⟨(h i hi).1.g c (by omega) (fun k _ _ => h1 _ _ (by omega)) (fun k => h1 _ _ (by omega)), (h i hi).2.g c hN hi (h1 _ _ (by omega)) hr (fun q k z => h1 q k (by omega))⟩
theorem WT.g {b s : Nat} {SI SR : Nat → Nat → Prop} {σ σ' : St} (h : WT b s σ) (c : cx SI SR σ σ') (hN : s + 1 < s_n σ) (hR : ∀ k, ¬ SR (s + 1) k) : WT b s σ' := fun i hi => by rw [c.r hN (hR i)]; exact h i hi
theorem StC.g {b s : Nat} {sp : Nat → List Nat} {w : Ws} {SI SR : Nat → Nat → Prop} {σ σ' : St} (h : StC b sp s w σ) (c : cx SI SR σ σ') (hN : s + 2 < s_n σ) (h1 : ∀ k, 2 ≤ k → k ≤ 4 → ¬ SI s k) (h2 : ∀ k, ¬ SI (s + 2) k) (hR : ∀ k, ¬ SR (s + 1) k) : StC b sp s w σ' := by
  obtain ⟨a1, a2, a3, a4⟩ := h
  refine ⟨(c.i (by omega) (h1 2 (by decide) (by decide))).trans a1, (c.i (by omega) (h1 3 (by decide) (by decide))).trans a2, (c.i (by omega) (h1 4 (by decide) (by decide))).trans a3, fun i hi => ?_⟩
  obtain ⟨f1, j, f2, f3, f4⟩ := a4 i hi
  exact ⟨(c.i hN (h2 i)).trans f1, j, f2, (c.r (by omega) (hR i)).trans f3, f4⟩
theorem HiC.g {b : Nat} {sp : Nat → List Nat} {h : List Ws} {SI SR : Nat → Nat → Prop} {σ σ' : St} (hh : HiC b sp h σ) (c : cx SI SR σ σ') (hN : b + 106 ≤ s_n σ) (h1 : ∀ q k, (q = b + 4 ∧ k = 2) ∨ (b + 6 ≤ q ∧ q ≤ b + 17) → ¬ SI q k) (hR : ∀ q k, b + 5 ≤ q ∧ q ≤ b + 17 → ¬ SR q k) : HiC b sp h σ' := by
  obtain ⟨a1, r, a2, a3, a4⟩ := hh
  refine ⟨(c.i (by omega) (h1 _ _ (by omega))).trans a1, r, a2, fun k hk => (c.r (by omega) (hR _ _ (by omega))).trans (a3 k hk), fun k hk => (a4 k hk).g c (by omega) (fun j _ _ => h1 _ _ (by omega)) (fun j => h1 _ _ (by omega)) (fun j => hR _ _ (by omega))⟩
theorem SnC.g {b : Nat} {sp : Nat → List Nat} {o : Option Ws} {SI SR : Nat → Nat → Prop} {σ σ' : St} (h : SnC b sp o σ) (c : cx SI SR σ σ') (hN : b + 106 ≤ s_n σ) (h1 : ∀ q k, (q = b + 4 ∧ k = 3) ∨ (b + 18 ≤ q ∧ q ≤ b + 20) → ¬ SI q k) (hR : ∀ k, ¬ SR (b + 19) k) : SnC b sp o σ' := by
  cases o with
  | none => exact (c.i (by omega) (h1 _ _ (by omega))).trans h
  | some w => exact ⟨(c.i (by omega) (h1 _ _ (by omega))).trans h.1, h.2.g c (by omega) (fun j _ _ => h1 _ _ (by omega)) (fun j => h1 _ _ (by omega)) (fun j => hR j)⟩
theorem TxC.g {b : Nat} {t : List Nat} {SI SR : Nat → Nat → Prop} {σ σ' : St} (h : TxC b t σ) (c : cx SI SR σ σ') (hN : b + 106 ≤ s_n σ) (h1 : ¬ SI b 7) (h2 : ∀ k, ¬ SI (b + 105) k) : TxC b t σ' := ⟨(c.i (by omega) h1).trans h.1, fun k hk => (c.i (by omega) (h2 k)).trans (h.2 k hk)⟩
theorem BV.g {c : Nat} {SI SR : Nat → Nat → Prop} {σ σ' : St} (h : BV c σ) (k : cx SI SR σ σ') (hN : c + 4 < s_n σ) (h1 : ¬ SI c 4) (h2 : ∀ j, ¬ SI (c + 2) j) (h3 : ∀ j, ¬ SI (c + 4) j) : BV c σ' := by
  obtain ⟨a1, n, a2, a3, a4⟩ := h
  exact ⟨fun t ht => (k.i hN (h3 t)).trans (a1 t ht), n, a2, (k.i (by omega) h1).trans a3, fun hn s hs t ht => (k.i (by omega) (h2 _)).trans (a4 hn s hs t ht)⟩
theorem PwR.g {b : Nat} {SI SR : Nat → Nat → Prop} {σ σ' : St} (h : PwR b σ) (c : cx SI SR σ σ') (hN : b + 106 ≤ s_n σ) (h1 : ∀ q k, b + 95 ≤ q ∧ q ≤ b + 97 → ¬ SI q k) : PwR b σ' := ⟨fun w hw => ⟨(c.i (by omega) (h1 _ _ (by omega))).trans (h.1 w hw).1, (c.i (by omega) (h1 _ _ (by omega))).trans (h.1 w hw).2⟩, fun n a1 a2 => (c.i (by omega) (h1 _ _ (by omega))).trans (h.2 n a1 a2)⟩
theorem PwC.g {b : Nat} {SI SR : Nat → Nat → Prop} {σ σ' : St} (h : PwC b σ) (c : cx SI SR σ σ') (hN : b + 106 ≤ s_n σ) (h0 : ¬ SI (b + 94) 3) (h1 : ∀ q k, b + 95 ≤ q ∧ q ≤ b + 97 → ¬ SI q k) : PwC b σ' := by
  rcases h with h | ⟨h, h2⟩
  · exact Or.inl ((c.i (by omega) h0).trans h)
  · exact Or.inr ⟨(c.i (by omega) h0).trans h, h2.g c hN h1⟩
