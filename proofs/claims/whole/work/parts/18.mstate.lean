/-! The reference: its state. -/
def wz : Ws := (0, 0, [])
def LawAt (f : Nat → Int32) (p : Nat) (x : Bool × Lw) : Prop := f p = bI x.1 ∧ SideAt f (p + 1) x.2.1 ∧ SideAt f (p + 17) x.2.2
def RowAt (f : Nat → Int32) (o : Nat) (w : Ws) : Prop := f o = nI w.1 ∧ f (o + 1) = nI w.2.1 ∧ f (o + 2) = nI w.2.2.length ∧ ∀ i, i < w.2.2.length → LawAt f (o + 3 + 33 * i) (lwg w.2.2 i)
theorem SideAt.copy {f g : Nat → Int32} {p p' : Nat} {l : List Nat} (h : SideAt f p l) (hl : l.length ≤ 15) (e : ∀ k, k < 16 → g (p' + k) = f (p + k)) : SideAt g p' l := by
  refine ⟨(e 0 (by decide)).trans h.1, fun k hk => ?_⟩
  have := e (1 + k) (by omega)
  rw [← Nat.add_assoc, ← Nat.add_assoc] at this
  exact this.trans (h.2 k hk)
theorem lwg_mem {ls : List (Bool × Lw)} {i : Nat} (h : i < ls.length) : lwg ls i ∈ ls := by
  unfold lwg
  rw [List.getD_eq_getElem?_getD, List.getElem?_eq_getElem h]
  exact List.getElem_mem h
theorem LawAt.copy {f g : Nat → Int32} {p p' : Nat} {x : Bool × Lw} (h : LawAt f p x) (hx : okL x.2) (e : ∀ k, k < 33 → g (p' + k) = f (p + k)) : LawAt g p' x := by
  refine ⟨(e 0 (by decide)).trans h.1, h.2.1.copy hx.1.2 (fun k hk => ?_), h.2.2.copy hx.2.2 (fun k hk => ?_)⟩
  · have := e (1 + k) (by omega)
    rwa [← Nat.add_assoc, ← Nat.add_assoc] at this
  · have := e (17 + k) (by omega)
    rwa [← Nat.add_assoc, ← Nat.add_assoc] at this
theorem RowAt.copy {f g : Nat → Int32} {o o' : Nat} {w : Ws} (h : RowAt f o w) (hw : wsok w) (e : ∀ k, k < 176 → g (o' + k) = f (o + k)) : RowAt g o' w := by
  refine ⟨(e 0 (by decide)).trans h.1, (e 1 (by decide)).trans h.2.1, (e 2 (by decide)).trans h.2.2.1, fun i hi => ?_⟩
  have h5 := hw.2.1
  refine (h.2.2.2 i hi).copy (hw.2.2 _ (lwg_mem hi)) (fun k hk => ?_)
  have := e (3 + 33 * i + k) (by omega)
  rw [show o' + 3 + 33 * i + k = o' + (3 + 33 * i + k) by omega, show o + 3 + 33 * i + k = o + (3 + 33 * i + k) by omega]
  exact this
def MH (m : Nat) (h : List Ws) (σ : St) : Prop := s_i σ m 3 = nI h.length ∧ ∀ j, j < h.length → RowAt (s_i σ (m + 3)) (176 * j) (h.getD j wz)
def MS (m : Nat) (o : Option Ws) (σ : St) : Prop := match o with
  | none => s_i σ m 5 = nI 0
  | some w => s_i σ m 5 = nI 1 ∧ RowAt (s_i σ (m + 4)) 0 w
def MT (m : Nat) (t : List Nat) (σ : St) : Prop := s_i σ m 16 = nI t.length ∧ ∀ k, k < t.length → s_i σ (m + 12) k = nI (t.getD k 0)
def MP (m : Nat) (σ : St) : Prop := (∀ w, w < 3341 → s_i σ (m + 5) w = nI (pwc w)) ∧ s_i σ (m + 6) 1 = nI 0 ∧ s_i σ (m + 6) 2 = nI 1 ∧ s_i σ (m + 6) 3 = nI 11 ∧ s_i σ (m + 6) 4 = nI 3341
def MK (m : Nat) (σ : St) : Prop := ∃ kl, kl ≤ 5 ∧ s_i σ m 12 = nI kl ∧ ∀ i, i < kl → ∃ lw, okL lw ∧ SideAt (s_i σ (m + 10)) (33 * i + 1) lw.1 ∧ SideAt (s_i σ (m + 10)) (33 * i + 17) lw.2 ∧ ∀ w, w < 3341 → s_i σ (m + 9) (3341 * i + w) = nI (bc (pws w) (pwc w) lw)
def MR (m : Nat) (σ : St) (a : As) : Prop := MH m a.2.1 σ ∧ MS m a.2.2.1 σ ∧ MT m a.2.2.2 σ ∧ MP m σ ∧ MK m σ
def MI (m : Nat) (σ : St) (a : As) : Prop := ML m σ ∧ RowAt (s_i σ (m + 1)) 0 a.1 ∧ MR m σ a
def MM (m : Nat) : Nat → Nat → Prop := fun q _ => m ≤ q ∧ q ≤ m + 14
theorem RowAt.eq {f g : Nat → Int32} {o : Nat} {w : Ws} (h : RowAt f o w) (e : g = f) : RowAt g o w := by rw [e]; exact h
/-- what the rest of the state lies in -/
def restM (m q k : Nat) : Prop := q = m + 3 ∨ q = m + 4 ∨ q = m + 5 ∨ q = m + 6 ∨ q = m + 9 ∨ q = m + 10 ∨ q = m + 12 ∨ (q = m ∧ (k = 3 ∨ k = 5 ∨ k = 12 ∨ k = 16))
theorem MR.g {m : Nat} {SI : Nat → Nat → Prop} {σ σ' : St} {a : As} (h : MR m σ a) (c : chg SI no σ σ') (hs : ∀ q k, restM m q k → ¬ SI q k) : MR m σ' a := by
  have e3 : s_i σ' (m + 3) = s_i σ (m + 3) := by funext k; exact c.i (hs _ _ (by unfold restM; omega))
  have e4 : s_i σ' (m + 4) = s_i σ (m + 4) := by funext k; exact c.i (hs _ _ (by unfold restM; omega))
  have e5 : s_i σ' (m + 5) = s_i σ (m + 5) := by funext k; exact c.i (hs _ _ (by unfold restM; omega))
  have e6 : s_i σ' (m + 6) = s_i σ (m + 6) := by funext k; exact c.i (hs _ _ (by unfold restM; omega))
  have e9 : s_i σ' (m + 9) = s_i σ (m + 9) := by funext k; exact c.i (hs _ _ (by unfold restM; omega))
  have e10 : s_i σ' (m + 10) = s_i σ (m + 10) := by funext k; exact c.i (hs _ _ (by unfold restM; omega))
  have e12 : s_i σ' (m + 12) = s_i σ (m + 12) := by funext k; exact c.i (hs _ _ (by unfold restM; omega))
  have f3 : s_i σ' m 3 = s_i σ m 3 := c.i (hs _ _ (by unfold restM; omega))
  have f5 : s_i σ' m 5 = s_i σ m 5 := c.i (hs _ _ (by unfold restM; omega))
  have f12 : s_i σ' m 12 = s_i σ m 12 := c.i (hs _ _ (by unfold restM; omega))
  have f16 : s_i σ' m 16 = s_i σ m 16 := c.i (hs _ _ (by unfold restM; omega))
  obtain ⟨h1, h2, h3, h4, h5⟩ := h
  refine ⟨?_, ?_, ?_, ?_, ?_⟩
  · unfold MH; rw [f3, e3]; exact h1
  · unfold MS; rw [f5, e4]; exact h2
  · unfold MT; rw [f16, e12]; exact h3
  · unfold MP; rw [e5, e6]; exact h4
  · unfold MK; rw [f12, e9, e10]; exact h5
theorem MI.L {m : Nat} {σ : St} {a : As} (h : MI m σ a) : ML m σ := h.1
theorem MI.g {m : Nat} {SI : Nat → Nat → Prop} {σ σ' : St} {a : As} (h : MI m σ a) (c : chg SI no σ σ') (h1 : ∀ k, ¬ SI (m + 1) k) (hs : ∀ q k, restM m q k → ¬ SI q k) : MI m σ' a := by
  refine ⟨h.1.g c, h.2.1.eq ?_, h.2.2.g c hs⟩
  funext k
  exact c.i (h1 k)
theorem lN_m1' {a : Nat} (h : a < 2 ^ 31) : (lN a - lN 1).toInt = (a : Int) - 1 := by
  rcases Nat.eq_zero_or_pos a with e | e
  · subst e; decide
  · exact lN_m1 e h
theorem M_isThing_ok {m n : Nat} {x : Int32} {σ : St} {Q : Int32 → St → Prop} (hL : ML m σ) (h0 : s_i σ (m + 1) 0 = nI n) (hn : nok n) (k : Q (bI (isN n x)) σ) : P_M_isThing m x σ Q := by
  have h2 := hn.2
  refine ⟨hL.s, ar_mk (m + 1) 176 0 hL.r1 hL.a1 rfl (by decide) (by decide) ?_⟩
  rw [h0, i64_nI (by omega)]
  refine M_in_ok (lo := 0) (hi := (n : Int) - 1) rfl (lN_m1' (by omega)) ?_
  rw [isN_wthn]
  exact ⟨bI_01 _, k⟩
theorem M_isLaw_ok {m len : Nat} {x : Int32} {σ : St} {Q : Int32 → St → Prop} (hL : ML m σ) (h0 : s_i σ (m + 1) 2 = nI len) (hn : len ≤ 5) (k : Q (bI (isN len x)) σ) : P_M_isLaw m x σ Q := by
  refine ⟨hL.s, ar_mk (m + 1) 176 2 hL.r1 hL.a1 rfl (by decide) (by decide) ?_⟩
  rw [h0, i64_nI (by omega)]
  refine M_in_ok (lo := 0) (hi := (len : Int) - 1) rfl (lN_m1' (by omega)) ?_
  rw [isN_wthn]
  exact ⟨bI_01 _, k⟩
theorem M_remember_ok {m : Nat} {σ : St} {Q : St → Prop} (hL : ML m σ) (k : ∀ σ', chg (fun q _ => q = m + 2) no σ σ' → (∀ j, j < 176 → s_i σ' (m + 2) j = s_i σ (m + 1) j) → Q σ') : P_M_remember m σ Q := by
  refine ⟨hL.s, fun K2 h2 => ?_⟩
  refine loopU (P := fun i σ' => chg (fun q _ => q = m + 2) no σ σ' ∧ ∀ j, j < i → s_i σ' (m + 2) j = s_i σ (m + 1) j) (G := fun i σ' => K2 (nI i) σ') 176 ?_ ?_ 0 σ (Nat.zero_le _) ⟨chg.rf, fun j hj => absurd hj (Nat.not_lt_zero j)⟩
  · rintro σ' ⟨hc, hj⟩
    exact h2 _ _ (b_tt (nI_le (Nat.le_refl _) (by decide)) (k σ' hc hj))
  · rintro i σ' hi ⟨hc, hj⟩ ih
    have hL' := hL.g hc
    refine h2 _ _ (b_ff (nI_ge hi (by decide)) (ar_mk (m + 1) 176 i hL'.r1 hL'.a1 rfl hi (by decide) (ar_mk (m + 2) 176 i hL'.r2 hL'.a2 rfl hi (by decide) ?_)))
    rw [nI_add]
    refine ih _ ⟨hc.wi rfl, fun j hj' => ?_⟩
    rw [s_i_wi]
    by_cases e : j = i
    · rw [if_pos ⟨rfl, e⟩, e]; exact hc.i (by omega)
    · rw [if_neg (fun z => e z.2)]
      exact hj j (by omega)
theorem getD_push {h : List Ws} {w : Ws} {j : Nat} (hj : j < h.length) : (h ++ [w]).getD j wz = h.getD j wz := by
  simp [List.getD_eq_getElem?_getD, List.getElem?_append_left hj]
theorem getD_last {h : List Ws} {w : Ws} : (h ++ [w]).getD h.length wz = w := by
  simp [List.getD_eq_getElem?_getD]
theorem getD_mem {h : List Ws} {j : Nat} (hj : j < h.length) : h.getD j wz ∈ h := by
  rw [List.getD_eq_getElem?_getD, List.getElem?_eq_getElem hj]
  exact List.getElem_mem hj
/-- the history gets one more, behind what it has -/
theorem M_acted_end {m : Nat} {x : Int32} {h : List Ws} {w : Ws} {σ : St} {Q : Int32 → St → Prop} {K51 : Int32 → Int32 → St → Prop} (hL : ML m σ) (hH : MH m h σ) (hl : h.length ≤ 3) (hok : ∀ x ∈ h, wsok x) (hw : wsok w) (hR : RowAt (s_i σ (m + 2)) 0 w)
    (h51 : ∀ (x1 x2 : Int32) (σ : St), ((nI 176 ≤ x2 → Q x1 (w_i σ m 3 ((s_i σ m 3) + nI 1))) ∧ (¬ nI 176 ≤ x2 → ar 0 σ (s_r σ m 1) x2 (fun q5 j6 => ar 0 σ (s_r σ m 2) ((nI 176 * s_i σ m 3) + x2) (fun q7 j8 => K51 x1 (x2 + nI 1) (w_i σ q7 j8 (s_i σ q5 j6)))))) → K51 x1 x2 σ)
    (k : ∀ σ', chg (fun q k => q = m + 3 ∨ (q = m ∧ k = 3)) no σ σ' → MH m (h ++ [w]) σ' → Q x σ') : K51 x (nI 0) σ := by
  refine loopU (P := fun i σ' => chg (fun q _ => q = m + 3) no σ σ' ∧ (∀ j, j < 176 * h.length → s_i σ' (m + 3) j = s_i σ (m + 3) j) ∧ ∀ j, j < i → s_i σ' (m + 3) (176 * h.length + j) = s_i σ (m + 2) j) (G := fun i σ' => K51 x (nI i) σ') 176 ?_ ?_ 0 σ (Nat.zero_le _) ⟨chg.rf, fun _ _ => rfl, fun j hj => absurd hj (Nat.not_lt_zero j)⟩
  · rintro σ' ⟨hc, ho, hj⟩
    refine h51 _ _ _ (b_tt (nI_le (Nat.le_refl _) (by decide)) (k _ ?_ ?_))
    · exact (hc.mono (fun q k z => Or.inl z) (fun _ _ z => z)).wi (Or.inr ⟨rfl, rfl⟩)
    · have e3 : s_i σ' m 3 = nI h.length := (hc.i (by omega)).trans hH.1
      refine ⟨?_, fun j hj' => ?_⟩
      · rw [s_i_wi, if_pos ⟨rfl, rfl⟩, e3, nI_add, List.length_append]; rfl
      · rw [List.length_append, List.length_singleton] at hj'
        have ee : s_i (w_i σ' m 3 ((s_i σ' m 3) + nI 1)) (m + 3) = s_i σ' (m + 3) := by
          funext k; rw [s_i_wi, if_neg (fun z => by omega)]
        rw [ee]
        rcases Nat.lt_or_ge j h.length with q | q
        · rw [getD_push q]
          exact (hH.2 j q).copy (hok _ (getD_mem q)) (fun k hk => ho _ (by omega))
        · have : j = h.length := by omega
          subst this
          rw [getD_last]
          exact hR.copy hw (fun k hk => by rw [hj k hk, Nat.zero_add])
  · rintro i σ' hi ⟨hc, ho, hj⟩ ih
    have hL' := hL.g hc
    have e3 : s_i σ' m 3 = nI h.length := (hc.i (by omega)).trans hH.1
    refine h51 _ _ _ (b_ff (nI_ge hi (by decide)) (ar_mk (m + 2) 176 i hL'.r2 hL'.a2 rfl hi (by decide) (ar_mk (m + 3) 704 (176 * h.length + i) hL'.r3 hL'.a3 (by rw [e3, nI_mul, nI_add]) (by omega) (by decide) ?_)))
    rw [nI_add]
    refine ih _ ⟨hc.wi rfl, fun j hj' => ?_, fun j hj' => ?_⟩
    · rw [s_i_wi, if_neg (fun z => by omega)]; exact ho j hj'
    · rw [s_i_wi]
      by_cases e : j = i
      · rw [if_pos ⟨rfl, by omega⟩, e]; exact hc.i (by omega)
      · rw [if_neg (fun z => by omega)]; exact hj j (by omega)
theorem M_acted_h {m : Nat} {x : Int32} {h : List Ws} {w : Ws} {σ : St} {Q : Int32 → St → Prop} (hL : ML m σ) (hH : MH m h σ) (hl : h.length ≤ 4) (hok : ∀ x ∈ h, wsok x) (hw : wsok w) (hR : RowAt (s_i σ (m + 2)) 0 w)
    (k : ∀ σ', chg (fun q k => q = m + 3 ∨ (q = m ∧ k = 3)) no σ σ' → MH m (push4 h w) σ' → Q x σ') : P_M_acted m x σ Q := by
  refine ⟨hL.s, fun K10 K51 h10 h51 => ?_⟩
  refine b_eq h.length 4 hH.1 rfl (by omega) (by decide) (fun e4 => ?_) (fun e4 => ?_)
  · -- the oldest is dropped
    refine loopU (P := fun i σ' => chg (fun q _ => q = m + 3) no σ σ' ∧ (∀ j, j < i → s_i σ' (m + 3) j = s_i σ (m + 3) (j + 176)) ∧ ∀ j, i ≤ j → s_i σ' (m + 3) j = s_i σ (m + 3) j) (G := fun i σ' => K10 x (nI i) σ') 528 ?_ ?_ 0 σ (Nat.zero_le _) ⟨chg.rf, fun j hj => absurd hj (Nat.not_lt_zero j), fun _ _ => rfl⟩
    · rintro σ' ⟨hc, hj, ho⟩
      refine h10 _ _ _ (b_tt (nI_le (Nat.le_refl _) (by decide)) ?_)
      have e3 : s_i σ' m 3 = nI 4 := (hc.i (by omega)).trans (by rw [hH.1, e4])
      have hc2 : chg (fun q k => q = m + 3 ∨ (q = m ∧ k = 3)) no σ (w_i σ' m 3 ((s_i σ' m 3) - nI 1)) := (hc.mono (fun q k z => Or.inl z) (fun _ _ z => z)).wi (Or.inr ⟨rfl, rfl⟩)
      have ee : ∀ q, q ≠ m → s_i (w_i σ' m 3 ((s_i σ' m 3) - nI 1)) q = s_i σ' q := fun q hq => by
        funext k; rw [s_i_wi, if_neg (fun z => hq z.1)]
      have ht : h.tail.length = 3 := by simp [e4]
      refine M_acted_end (h := h.tail) (w := w) (hL.g hc2) ⟨?_, fun j hj' => ?_⟩ (by omega) (fun x hx => hok x (List.mem_of_mem_tail hx)) hw ?_ h51 (fun σ'' hc3 hm => ?_)
      · rw [s_i_wi, if_pos ⟨rfl, rfl⟩, e3, ht]; rfl
      · have eg : h.tail.getD j wz = h.getD (j + 1) wz := by cases h <;> simp [List.getD_eq_getElem?_getD]
        rw [ee (m + 3) (by omega), eg]
        refine (hH.2 (j + 1) (by omega)).copy (hok _ (getD_mem (by omega))) (fun k hk => ?_)
        rw [hj (176 * j + k) (by omega), show 176 * j + k + 176 = 176 * (j + 1) + k by omega]
      · rw [ee (m + 2) (by omega)]
        exact hR.eq (by funext k; exact hc.i (by omega))
      · refine k σ'' (hc2.tr hc3) ?_
        rw [push4, if_pos e4]
        exact hm
    · rintro i σ' hi ⟨hc, hj, ho⟩ ih
      have hL' := hL.g hc
      refine h10 _ _ _ (b_ff (nI_ge hi (by decide)) (ar_mk (m + 3) 704 (i + 176) hL'.r3 hL'.a3 (by rw [nI_add]) (by omega) (by decide) (ar_mk (m + 3) 704 i hL'.r3 hL'.a3 rfl (by omega) (by decide) ?_)))
      rw [nI_add]
      refine ih _ ⟨hc.wi rfl, fun j hj' => ?_, fun j hj' => ?_⟩
      · rw [s_i_wi]
        by_cases e : j = i
        · rw [if_pos ⟨rfl, e⟩, e]; exact ho _ (by omega)
        · rw [if_neg (fun z => e z.2)]; exact hj j (by omega)
      · rw [s_i_wi, if_neg (fun z => by omega)]; exact ho j (by omega)
  · refine M_acted_end hL hH (by omega) hok hw hR h51 (fun σ' hc hm => k σ' hc ?_)
    rw [push4, if_neg e4]
    exact hm
/-- the end of an act: what was remembered comes into the history -/
theorem M_acted_ok {m : Nat} {x : Int32} {a : As} {w : Ws} {σ : St} {Q : Int32 → St → Prop} (hL : ML m σ) (hR : MR m σ a) (ha : asok a) (hk : RowAt (s_i σ (m + 2)) 0 a.1) (hA : RowAt (s_i σ (m + 1)) 0 w)
    (k : ∀ σ', chg (MM m) no σ σ' → MI m σ' (act a w) → Q x σ') : P_M_acted m x σ Q := by
  refine M_acted_h hL hR.1 ha.2.1.1 ha.2.1.2 ha.1 hk (fun σ' hc hm => k σ' (hc.mono (fun q j z => by unfold MM; omega) (fun _ _ z => z)) ⟨hL.g hc, hA.eq (by funext j; exact hc.i (by omega)), hm, ?_⟩)
  -- the parts beside the history
  have e4 : s_i σ' (m + 4) = s_i σ (m + 4) := by funext k; exact hc.i (by omega)
  have e5 : s_i σ' (m + 5) = s_i σ (m + 5) := by funext k; exact hc.i (by omega)
  have e6 : s_i σ' (m + 6) = s_i σ (m + 6) := by funext k; exact hc.i (by omega)
  have e9 : s_i σ' (m + 9) = s_i σ (m + 9) := by funext k; exact hc.i (by omega)
  have e10 : s_i σ' (m + 10) = s_i σ (m + 10) := by funext k; exact hc.i (by omega)
  have e12 : s_i σ' (m + 12) = s_i σ (m + 12) := by funext k; exact hc.i (by omega)
  have f5 : s_i σ' m 5 = s_i σ m 5 := hc.i (by omega)
  have f12 : s_i σ' m 12 = s_i σ m 12 := hc.i (by omega)
  have f16 : s_i σ' m 16 = s_i σ m 16 := hc.i (by omega)
  obtain ⟨h1, h2, h3, h4, h5⟩ := hR
  refine ⟨?_, ?_, ?_, ?_⟩
  · show MS m a.2.2.1 σ'
    unfold MS; rw [f5, e4]; exact h2
  · show MT m a.2.2.2 σ'
    unfold MT; rw [f16, e12]; exact h3
  · unfold MP; rw [e5, e6]; exact h4
  · unfold MK; rw [f12, e9, e10]; exact h5
