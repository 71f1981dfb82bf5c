/-! The reference: what it keeps of laws in all plain worlds; witnesses. -/
def rest2 (m q k : Nat) : Prop := q = m + 3 ∨ q = m + 4 ∨ q = m + 5 ∨ q = m + 6 ∨ q = m + 12 ∨ (q = m ∧ (k = 3 ∨ k = 5 ∨ k = 16))
theorem MR.g2 {m : Nat} {SI : Nat → Nat → Prop} {σ σ' : St} {a : As} (h : MR m σ a) (c : chg SI no σ σ') (hs : ∀ q k, rest2 m q k → ¬ SI q k) (hk : MK m σ') : MR m σ' a := by
  have e3 : s_i σ' (m + 3) = s_i σ (m + 3) := by funext k; exact c.i (hs _ _ (by unfold rest2; omega))
  have e4 : s_i σ' (m + 4) = s_i σ (m + 4) := by funext k; exact c.i (hs _ _ (by unfold rest2; omega))
  have e5 : s_i σ' (m + 5) = s_i σ (m + 5) := by funext k; exact c.i (hs _ _ (by unfold rest2; omega))
  have e6 : s_i σ' (m + 6) = s_i σ (m + 6) := by funext k; exact c.i (hs _ _ (by unfold rest2; omega))
  have e12 : s_i σ' (m + 12) = s_i σ (m + 12) := by funext k; exact c.i (hs _ _ (by unfold rest2; omega))
  have f3 : s_i σ' m 3 = s_i σ m 3 := c.i (hs _ _ (by unfold rest2; omega))
  have f5 : s_i σ' m 5 = s_i σ m 5 := c.i (hs _ _ (by unfold rest2; omega))
  have f16 : s_i σ' m 16 = s_i σ m 16 := c.i (hs _ _ (by unfold rest2; omega))
  obtain ⟨h1, h2, h3, h4, h5⟩ := h
  refine ⟨?_, ?_, ?_, ?_, hk⟩
  · unfold MH; rw [f3, e3]; exact h1
  · unfold MS; rw [f5, e4]; exact h2
  · unfold MT; rw [f16, e12]; exact h3
  · unfold MP; rw [e5, e6]; exact h4
theorem M_sizeAt_ok {m w : Nat} {o : Option Nat} {σ : St} {Q : Int32 → St → Prop} (hL : ML m σ) (hP : MP m σ) (ho : o = some (m + 6)) (hw : w < 3341) (k : Q (nI (pws w)) σ) : P_M_sizeAt o (nI w) σ Q := by
  refine ar_mk (m + 6) 5 2 ho hL.a6 rfl (by decide) (by decide) ?_
  rw [hP.2.2.1]
  refine b_le 1 w rfl rfl (by decide) (by omega) (fun h1 => ?_) (fun h1 => ?_)
  · refine ar_mk (m + 6) 5 3 ho hL.a6 rfl (by decide) (by decide) ?_
    rw [hP.2.2.2.1]
    refine b_le 11 w rfl rfl (by decide) (by omega) (fun h2 => ?_) (fun h2 => ?_)
    · have e : pws w = 3 := by simp [pws, show ¬ w < 1 by omega, show ¬ w < 11 by omega]
      rw [e] at k; exact k
    · have e : pws w = 2 := by simp [pws, show ¬ w < 1 by omega, h2]
      rw [e] at k; exact k
  · have e : pws w = 1 := by simp [pws, h1]
    rw [e] at k; exact k
theorem okE_small : ∀ (l : List Nat) (h : Nat), hg h l = some 1 → ∀ s ∈ l, s ≤ 3
  | [], _, _, s, hs => by simp at hs
  | t :: l, h, e, s, hs => by
    rcases hg_l e with ⟨q1, q2, q3⟩ | ⟨q1, q2, q3⟩
    · rcases List.mem_cons.mp hs with rfl | hs
      · omega
      · exact okE_small l _ q3 s hs
    · rcases List.mem_cons.mp hs with rfl | hs
      · omega
      · exact okE_small l _ q3 s hs
theorem getD_memN {l : List Nat} {k : Nat} (h : k < l.length) : l.getD k 0 ∈ l := by
  rw [List.getD_eq_getElem?_getD, List.getElem?_eq_getElem h]
  exact List.getElem_mem h
theorem SideAt.inj {f g : Nat → Int32} {p p' : Nat} {l l' : List Nat} (h : SideAt f p l) (h' : SideAt g p' l') (hl : okE l) (hl' : okE l') (e : ∀ k, k < 16 → g (p' + k) = f (p + k)) : l = l' := by
  have h1 := h'.copy hl'.2 (g := f) (p' := p) (fun k hk => (e k hk).symm)
  have a1 := hl.2
  have a2 := hl'.2
  have hlen : l.length = l'.length := by
    have := h.1.symm.trans h1.1
    exact (nI_eq (by omega) (by omega)).mp this
  apply List.ext_getElem? 
  intro k
  rcases Nat.lt_or_ge k l.length with q | q
  · have e1 := (h.2 k q).symm.trans (h1.2 k (by omega))
    have s1 := okE_small l 0 hl.1 _ (getD_memN q)
    have s2 := okE_small l' 0 hl'.1 _ (getD_memN (show k < l'.length by omega))
    have e2 := (nI_eq (by omega) (by omega)).mp e1
    rw [List.getD_eq_getElem?_getD, List.getD_eq_getElem?_getD] at e2
    rw [List.getElem?_eq_getElem q, List.getElem?_eq_getElem (show k < l'.length by omega)] at e2 ⊢
    simp at e2
    rw [e2]
  · rw [List.getElem?_eq_none q, List.getElem?_eq_none (by omega)]
def MKl (m : Nat) (σ : St) (kl : Nat) : Prop := kl ≤ 5 ∧ s_i σ m 12 = nI kl ∧ ∀ i, i < kl → ∃ lw, okL lw ∧ SideAt (s_i σ (m + 10)) (33 * i + 1) lw.1 ∧ SideAt (s_i σ (m + 10)) (33 * i + 17) lw.2 ∧ ∀ w, w < 3341 → s_i σ (m + 9) (3341 * i + w) = nI (bc (pws w) (pwc w) lw)
/-- what is kept of the first laws is right -/
def CK (m : Nat) (σ : St) (ls : List (Bool × Lw)) (n : Nat) : Prop := ∀ i, i < n → ∀ w, w < 3341 → s_i σ (m + 9) (3341 * i + w) = nI (bc (pws w) (pwc w) (lwg ls i).2)
theorem M_isKnown_ok {m i kl : Nat} {σ : St} {Q : Int32 → St → Prop} (hL : ML m σ) (hi : i < 5) (hkl : kl ≤ 5) (h12 : s_i σ m 12 = nI kl) (k : ∀ b : Bool, (b = true → i < kl ∧ ∀ j, 1 ≤ j → j < 33 → s_i σ (m + 10) (33 * i + j) = s_i σ (m + 1) (3 + 33 * i + j)) → Q (bI b) σ) : P_M_isKnown m (nI i) σ Q := by
  refine ⟨hL.s, fun K16 h16 => ?_⟩
  have key : ∀ (d j : Nat) (b : Bool), j + d = 33 → 1 ≤ j → (b = true → i < kl ∧ ∀ t, 1 ≤ t → t < j → s_i σ (m + 10) (33 * i + t) = s_i σ (m + 1) (3 + 33 * i + t)) → K16 (nI i) (bI b) (nI j) σ := by
    intro d
    induction d with
    | zero =>
      intro j b hj _ hb
      have : j = 33 := by omega
      subst this
      exact h16 _ _ _ _ (b_tt (nI_le (Nat.le_refl _) (by decide)) ⟨bI_01 _, k b hb⟩)
    | succ d ih =>
      intro j b hj h1 hb
      refine h16 _ _ _ _ (b_ff (nI_ge (by omega) (by decide)) (b_b b rfl (fun e => ?_) (fun e => ?_)))
      · exact ⟨bI_01 _, k b (fun z => by rw [e] at z; cases z)⟩
      · obtain ⟨hik, ht⟩ := hb e
        refine ar_mk (m + 10) 165 (33 * i + j) hL.r10 hL.a10 (by rw [nI_mul, nI_add]) (by omega) (by decide) (M_lawAt_ok (ar_mk (m + 1) 176 (3 + 33 * i + j) hL.r1 hL.a1 (by rw [nI_add]) (by omega) (by decide) ?_))
        rw [nI_add]
        refine b_or (fun ec => ?_) (fun ec => ?_)
        · exact ih (j + 1) true (by omega) (by omega) (fun _ => ⟨hik, fun t h1 h2 => by
            rcases Nat.lt_or_ge t j with q | q
            · exact ht t h1 q
            · have : t = j := by omega
              subst this; exact ec⟩)
        · exact ih (j + 1) false (by omega) (by omega) (fun z => by cases z)
  refine b_le kl i h12 rfl (by omega) (by omega) (fun h => ?_) (fun h => ?_)
  · exact key 32 1 false rfl (Nat.le_refl _) (fun z => by cases z)
  · exact key 32 1 true rfl (Nat.le_refl _) (fun _ => ⟨h, fun t h1 h2 => by omega⟩)
def lrn (m : Nat) : Nat → Nat → Prop := fun q k => q = m + 7 ∨ q = m + 8 ∨ q = m + 9 ∨ q = m + 10 ∨ (q = m ∧ k = 12)
theorem MI.learn {m : Nat} {σ σ' : St} {a : As} (h : MI m σ a) (c : chg (lrn m) no σ σ') (hk : MK m σ') : MI m σ' a :=
  ⟨h.1.g c, h.2.1.eq (by funext k; exact c.i (by unfold lrn; omega)), h.2.2.g2 c (fun q k z => by unfold rest2 at z; unfold lrn; omega) hk⟩
theorem M_learns_ok {m : Nat} {a : As} {σ : St} {Q : St → Prop} (h : MI m σ a) (ha : asok a) (k : ∀ σ', chg (lrn m) no σ σ' → MI m σ' a → CK m σ' a.1.2.2 a.1.2.2.length → Q σ') : P_M_learns m σ Q := by
  have h5 := ha.1.2.1
  have hP := h.2.2.2.2.2.1
  refine ⟨h.1.s, fun K2 K22 K68 h2 h22 h68 => ?_⟩
  refine loopU (P := fun i s' => chg (lrn m) no σ s' ∧ (∃ kl, MKl m s' kl ∧ i ≤ kl) ∧ CK m s' a.1.2.2 i) (G := fun i s' => K2 (nI i) s') a.1.2.2.length ?_ ?_ 0 σ (Nat.zero_le _) ⟨chg.rf, by obtain ⟨kl, q1, q2, q3⟩ := h.2.2.2.2.2.2; exact ⟨kl, ⟨q1, q2, q3⟩, Nat.zero_le _⟩, fun i hi => absurd hi (Nat.not_lt_zero i)⟩
  · rintro s' ⟨hc, ⟨kl, hk, _⟩, hck⟩
    have h' := h.learn hc ⟨kl, hk.1, hk.2.1, hk.2.2⟩
    refine h2 _ _ (ar_mk (m + 1) 176 2 h'.1.r1 h'.1.a1 rfl (by decide) (by decide) ?_)
    rw [h'.k]
    exact b_tt (nI_le (Nat.le_refl _) (by omega)) (k s' hc h' hck)
  · rintro i s' hi ⟨hc, ⟨kl, hk, hik⟩, hck⟩ ih
    have h' := h.learn hc ⟨kl, hk.1, hk.2.1, hk.2.2⟩
    refine h2 _ _ (ar_mk (m + 1) 176 2 h'.1.r1 h'.1.a1 rfl (by decide) (by decide) ?_)
    rw [h'.k]
    have hok := ha.1.2.2 _ (lwg_mem hi)
    obtain ⟨hs1, hs2⟩ := h'.side hi
    refine b_ff (nI_ge hi (by omega)) (M_isKnown_ok h'.1 (by omega) hk.1 hk.2.1 (fun b hb => b_b b rfl (fun eb => ?_) (fun eb => ?_)))
    · -- it is learned anew
      refine loopU (P := fun w s2 => chg (fun q k => q = m + 7 ∨ q = m + 8 ∨ (q = m + 9 ∧ 3341 * i ≤ k ∧ k < 3341 * i + 3341)) no s' s2 ∧ ∀ v, v < w → s_i s2 (m + 9) (3341 * i + v) = nI (bc (pws v) (pwc v) (lwg a.1.2.2 i).2)) (G := fun w s2 => K22 (nI i) (nI w) s2) 3341 ?_ ?_ 0 s' (Nat.zero_le _) ⟨chg.rf, fun v hv => absurd hv (Nat.not_lt_zero v)⟩
      · rintro s2 ⟨hc2, hv2⟩
        refine h22 _ _ _ (b_tt (nI_le (Nat.le_refl _) (by decide)) ?_)
        have h2L := h'.1.g hc2
        refine loopU (P := fun t s3 => chg (fun q k => q = m + 10 ∧ 33 * i ≤ k ∧ k < 33 * i + 33) no s2 s3 ∧ ∀ v, v < t → s_i s3 (m + 10) (33 * i + v) = s_i s' (m + 1) (3 + 33 * i + v)) (G := fun t s3 => K68 (nI i) (nI t) s3) 33 ?_ ?_ 0 s2 (Nat.zero_le _) ⟨chg.rf, fun v hv => absurd hv (Nat.not_lt_zero v)⟩
        · rintro s3 ⟨hc3, hv3⟩
          have hc23 : chg (lrn m) no s' s3 := (hc2.up (fun q k z => by unfold lrn; omega)).tr (hc3.up (fun q k z => by unfold lrn; omega))
          have e12 : s_i s3 m 12 = nI kl := by rw [hc3.i (by omega), hc2.i (by omega)]; exact hk.2.1
          have fin : ∀ kl', (kl' = kl ∧ i < kl ∨ kl' = i + 1 ∧ kl = i) → K2 (nI i + nI 1) (w_i s3 m 12 (nI kl')) := by
            intro kl' hkl'
            rw [nI_add]
            have hc4 : chg (lrn m) no s' (w_i s3 m 12 (nI kl')) := hc23.wi (by unfold lrn; omega)
            have f9 : ∀ v, s_i (w_i s3 m 12 (nI kl')) (m + 9) v = s_i s2 (m + 9) v := fun v => by
              rw [s_i_wi, if_neg (fun z => by omega)]; exact hc3.i (by omega)
            have f10 : ∀ v, s_i (w_i s3 m 12 (nI kl')) (m + 10) v = s_i s3 (m + 10) v := fun v => by
              rw [s_i_wi, if_neg (fun z => by omega)]
            refine ih _ ⟨hc.tr hc4, ⟨kl', ⟨by rcases hkl' with z | z <;> have := hk.1 <;> omega, by rw [s_i_wi, if_pos ⟨rfl, rfl⟩], fun j hj => ?_⟩, by omega⟩, fun j hj v hv => ?_⟩
            · by_cases ej : j = i
              · subst ej
                refine ⟨(lwg a.1.2.2 j).2, hok, ?_, ?_, fun v hv => ?_⟩
                · refine hs1.copy hok.1.2 (fun t ht => ?_)
                  rw [f10, show 33 * j + 1 + t = 33 * j + (1 + t) by omega, hv3 (1 + t) (by omega)]
                  congr 1
                  omega
                · refine hs2.copy hok.2.2 (fun t ht => ?_)
                  rw [f10, show 33 * j + 17 + t = 33 * j + (17 + t) by omega, hv3 (17 + t) (by omega)]
                  congr 1
                  omega
                · rw [f9]; exact hv2 v hv
              · obtain ⟨lw, q1, q2, q3, q4⟩ := hk.2.2 j (by omega)
                refine ⟨lw, q1, q2.copy q1.1.2 (fun t ht => ?_), q3.copy q1.2.2 (fun t ht => ?_), fun v hv => ?_⟩
                · rw [f10, hc3.i (by omega), hc2.i (by omega)]
                · rw [f10, hc3.i (by omega), hc2.i (by omega)]
                · rw [f9, hc2.i (by omega)]; exact q4 v hv
            · rw [f9]
              by_cases ej : j = i
              · subst ej; exact hv2 v hv
              · rw [hc2.i (by omega)]; exact hck j (by omega) v hv
          refine h68 _ _ _ (b_tt (nI_le (Nat.le_refl _) (by decide)) (b_le kl i e12 rfl (by have := hk.1; omega) (by omega) (fun q => ?_) (fun q => ?_)))
          · have := fin (i + 1) (Or.inr ⟨rfl, by omega⟩)
            rwa [← nI_add] at this
          · rw [e12]
            exact fin kl (Or.inl ⟨rfl, q⟩)
        · rintro t s3 ht ⟨hc3, hv3⟩ ih3
          have h3L := h2L.g hc3
          refine h68 _ _ _ (b_ff (nI_ge ht (by decide)) (M_lawAt_ok (ar_mk (m + 1) 176 (3 + 33 * i + t) h3L.r1 h3L.a1 (by rw [nI_add]) (by omega) (by decide) (ar_mk (m + 10) 165 (33 * i + t) h3L.r10 h3L.a10 (by rw [nI_mul, nI_add]) (by omega) (by decide) ?_))))
          rw [nI_add]
          refine ih3 _ ⟨hc3.wi ⟨rfl, by omega, by omega⟩, fun v hv => ?_⟩
          rw [s_i_wi]
          by_cases ev : v = t
          · rw [if_pos ⟨rfl, by omega⟩, ev, hc3.i (by omega), hc2.i (by omega)]
          · rw [if_neg (fun z => by omega)]; exact hv3 v (by omega)
      · rintro w s2 hw ⟨hc2, hv2⟩ ih2
        have h2L := h'.1.g hc2
        have hP2 : MP m s2 := by
          have hP' := h'.2.2.2.2.2.1
          have e5 : s_i s2 (m + 5) = s_i s' (m + 5) := by funext t; exact hc2.i (by omega)
          have e6 : s_i s2 (m + 6) = s_i s' (m + 6) := by funext t; exact hc2.i (by omega)
          unfold MP; rw [e5, e6]; exact hP'
        obtain ⟨-, hwok, -⟩ := pw_ok hw
        refine h22 _ _ _ (b_ff (nI_ge hw (by decide)) (M_sizeAt_ok h2L hP2 h2L.r6 hw (ar_mk (m + 5) 3341 w h2L.r5 h2L.a5 rfl hw (by decide) ?_)))
        rw [hP2.1 w hw]
        refine M_brokenIn_ok h2L hwok (by omega) (hs1.copy hok.1.2 (fun t ht => hc2.i (by omega))) (hs2.copy hok.2.2 (fun t ht => hc2.i (by omega))) hok (fun s3 hc3 => ?_)
        have h3L := h2L.g hc3
        refine ar_mk (m + 9) 16705 (3341 * i + w) (by rw [← hc3.r (fun z => z)]; exact h3L.r9) h3L.a9 (by rw [nI_mul, nI_add]) (by omega) (by decide) ?_
        rw [nI_add]
        refine ih2 _ ⟨(hc2.tr (hc3.up (fun q k z => by unfold ts at z; omega))).wi (by omega), fun v hv => ?_⟩
        rw [s_i_wi]
        by_cases ev : v = w
        · rw [if_pos ⟨rfl, by omega⟩, ev]
        · rw [if_neg (fun z => by omega), hc3.i (by unfold ts; omega)]; exact hv2 v (by omega)
    · -- it is known
      obtain ⟨hik2, hsame⟩ := hb eb
      rw [nI_add]
      refine ih s' ⟨hc, ⟨kl, hk, by omega⟩, fun j hj v hv => ?_⟩
      by_cases ej : j = i
      · subst ej
        obtain ⟨lw, q1, q2, q3, q4⟩ := hk.2.2 j hik2
        have e1 : (lwg a.1.2.2 j).2.1 = lw.1 := hs1.inj q2 hok.1 q1.1 (fun t ht => by
          have := hsame (1 + t) (by omega) (by omega)
          rw [show 33 * j + 1 + t = 33 * j + (1 + t) by omega, this, show 3 + 33 * j + (1 + t) = 3 + 33 * j + 1 + t by omega])
        have e2 : (lwg a.1.2.2 j).2.2 = lw.2 := hs2.inj q3 hok.2 q1.2 (fun t ht => by
          have := hsame (17 + t) (by omega) (by omega)
          rw [show 33 * j + 17 + t = 33 * j + (17 + t) by omega, this, show 3 + 33 * j + (17 + t) = 3 + 33 * j + 17 + t by omega])
        have e3 : (lwg a.1.2.2 j).2 = lw := Prod.ext e1 e2
        rw [e3]; exact q4 v hv
      · exact hck j (by omega) v hv
theorem all_prefix {p : Nat → Bool} {i n : Nat} (h : (List.range i).all p = false) (hi : i ≤ n) : (List.range n).all p = false := by
  induction hi with
  | refl => exact h
  | step hi ih => rw [all_range_succ, ih]; rfl
theorem M_hold_ok {m w but : Nat} {x : Int32} {a : As} {σ : St} {Q : Int32 → St → Prop} (h : MI m σ a) (ha : asok a) (hck : CK m σ a.1.2.2 a.1.2.2.length) (hw : w < 3341) (hx : ∀ i, i < 5 → (nI i = x ↔ i = but)) (k : Q (bI (holdb a.1.2.2 (pws w) (pwc w) but)) σ) : P_M_hold m (nI w) x σ Q := by
  have h5 := ha.1.2.1
  refine ⟨h.1.s, fun K5 h5' => ?_⟩
  obtain ⟨f, ef⟩ : ∃ f : Nat → Bool, f = fun i => i == but || !(lwg a.1.2.2 i).1 || bc (pws w) (pwc w) (lwg a.1.2.2 i).2 == 0 := ⟨_, rfl⟩
  have eh : holdb a.1.2.2 (pws w) (pwc w) but = (List.range a.1.2.2.length).all f := by rw [ef]; rfl
  refine loopU (P := fun _ s' => s' = σ) (G := fun i s' => K5 (nI w) x (bI ((List.range i).all f)) (nI i) s') a.1.2.2.length ?_ ?_ 0 σ (Nat.zero_le _) rfl
  · rintro s' rfl
    refine h5' _ _ _ _ _ (ar_mk (m + 1) 176 2 h.1.r1 h.1.a1 rfl (by decide) (by decide) ?_)
    rw [h.k, ← eh]
    exact b_tt (nI_le (Nat.le_refl _) (by omega)) ⟨bI_01 _, k⟩
  · rintro i s' hi rfl ih
    refine h5' _ _ _ _ _ (ar_mk (m + 1) 176 2 h.1.r1 h.1.a1 rfl (by decide) (by decide) ?_)
    rw [h.k]
    refine b_ff (nI_ge hi (by omega)) (b_b _ rfl (fun e => ?_) (fun e => ?_))
    · have := all_prefix e (Nat.le_of_lt hi)
      rw [← eh] at this
      rw [this] at k
      rw [e]
      exact ⟨bI_01 _, k⟩
    · have go : ∀ b : Bool, f i = b → K5 (nI w) x (bI b) (nI i + nI 1) s' := by
        intro b hb
        have := ih s' rfl
        rw [all_range_succ, e, hb, Bool.true_and] at this
        rw [nI_add]; exact this
      by_cases eb : i = but
      · exact b_tt ((hx i (by omega)).mpr eb) (go true (by rw [ef]; simp [eb]))
      · refine b_ff (fun z => eb ((hx i (by omega)).mp z)) (M_isOn_ok h.1 (by omega) (row_on h.2.1 i hi) (b_b _ rfl (fun eo => ?_) (fun eo => ?_)))
        · exact go true (by rw [ef]; simp [eo])
        · refine ar_mk (m + 9) 16705 (3341 * i + w) h.1.r9 h.1.a9 (by rw [nI_mul, nI_add]) (by omega) (by decide) ?_
          rw [hck i hi w hw]
          have hb := bc_le (c := pwc w) (w := (lwg a.1.2.2 i).2) (pws_nok w)
          refine b_z _ rfl (by omega) (fun e0 => ?_) (fun e0 => ?_)
          · exact go true (by rw [ef]; simp [e0])
          · exact go false (by rw [ef]; simp [e0, eb, eo])
/-! witnesses -/
def FW (m : Nat) (σ : St) (l : List Nat) : Prop := s_i σ m 14 = nI l.length ∧ ∀ k, k < l.length → s_i σ (m + 11) k = nI (l.getD k 0)
def fws (m : Nat) : Nat → Nat → Prop := fun q k => lrn m q k ∨ q = m + 11 ∨ (q = m ∧ k = 14)
theorem wgrp_succ (ls : List (Bool × Lw)) (i cs w : Nat) : wgrp ls i cs (w + 1) = wgrp ls i cs w ++ (if keyw ls i w == cs && holdb ls (pws w) (pwc w) i then [w] else []) := by
  unfold wgrp
  rw [List.range_succ, List.filter_append, List.filter_cons, List.filter_nil]
theorem wgrp_pre (ls : List (Bool × Lw)) (i cs : Nat) {w N : Nat} (h : w ≤ N) : wgrp ls i cs w <+: wgrp ls i cs N := by
  induction h with
  | refl => exact List.prefix_rfl
  | step h ih => rw [wgrp_succ]; exact ih.trans (List.prefix_append _ _)
theorem wlst_pre (ls : List (Bool × Lw)) (i : Nat) {c d : Nat} (h : c ≤ d) : wlst ls i c <+: wlst ls i d := by
  induction h with
  | refl => exact List.prefix_rfl
  | step h ih => exact ih.trans (List.prefix_append _ _)
theorem pre_take {l L : List Nat} (h : l <+: L) (hl : l.length = 12) : L.take 12 = l := by
  obtain ⟨t, rfl⟩ := h
  rw [List.take_append_of_le_length (by omega), ← hl, List.take_length]
theorem M_findsWitnesses_ok {m i : Nat} {a : As} {σ : St} {Q : St → Prop} (h : MI m σ a) (ha : asok a) (hi : i < a.1.2.2.length) (k : ∀ σ', chg (fws m) no σ σ' → MI m σ' a → CK m σ' a.1.2.2 a.1.2.2.length → FW m σ' (wit a.1.2.2 i) → Q σ') : P_M_findsWitnesses m (nI i) σ Q := by
  have h5 := ha.1.2.1
  refine ⟨h.1.s, fun K11 K28 h11 h28 => M_learns_ok h ha (fun σ1 hc1 h1 hck1 => ?_)⟩
  obtain ⟨ls, els⟩ : ∃ ls, ls = a.1.2.2 := ⟨_, rfl⟩
  rw [← els] at hck1 k hi
  have hls5 : ls.length ≤ 5 := by rw [els]; exact h5
  have fw : ∀ s' : St, chg (fun q k => q = m + 11 ∨ (q = m ∧ k = 14)) no σ1 s' → chg (fws m) no σ s' ∧ MI m s' a ∧ CK m s' ls ls.length := by
    intro s' hc
    refine ⟨(hc1.up (fun q k z => Or.inl z)).tr (hc.up (fun q k z => Or.inr z)), h1.scr (hc.up (fun q k z => by unfold scr; omega)), fun j hj v hv => ?_⟩
    rw [hc.i (by omega)]
    exact hck1 j hj v hv
  have key := loopU (P := fun cs s' => chg (fun q k => q = m + 11 ∨ (q = m ∧ k = 14)) no σ1 s' ∧ ((wlst ls i cs).length ≤ 12 ∧ FW m s' (wlst ls i cs) ∨ FW m s' (wit ls i) ∧ (wit ls i).length = 12)) (G := fun cs s' => K11 (nI i) (nI (cs + 1)) s') 27 ?_ ?_ 0 (w_i σ1 m 14 (nI 0)) (Nat.zero_le _) ⟨chg.rf.wi (Or.inr ⟨rfl, rfl⟩), Or.inl ⟨by simp [wlst], by rw [s_i_wi, if_pos ⟨rfl, rfl⟩]; rfl, fun k hk => by simp [wlst] at hk⟩⟩
  · exact key
  · rintro s' ⟨hc, hor⟩
    refine h11 _ _ _ (b_tt (nI_lt (by decide) (by decide)) ?_)
    obtain ⟨q1, q2, q3⟩ := fw s' hc
    rcases hor with ⟨hl, hf⟩ | ⟨hf, hl⟩
    · have : wit ls i = wlst ls i 27 := by unfold wit; exact List.take_of_length_le hl
      rw [← this] at hf
      exact k s' q1 q2 q3 hf
    · exact k s' q1 q2 q3 hf
  · rintro cs s' hcs ⟨hc, hor⟩ ih
    refine h11 _ _ _ (b_ff (nI_nlt (by omega) (by decide)) ?_)
    obtain ⟨q1, q2, q3⟩ := fw s' hc
    have stop : FW m s' (wit ls i) → (wit ls i).length = 12 → K11 (nI i) (nI (cs + 1)) s' ∧ ((nI 12 ≤ s_i s' m 14 → Q s') ∧ (¬ nI 12 ≤ s_i s' m 14 → K28 (nI i) (nI (cs + 1)) (nI 0) s')) := by
      intro hf hl
      have hb : (nI 12 ≤ s_i s' m 14 → Q s') ∧ (¬ nI 12 ≤ s_i s' m 14 → K28 (nI i) (nI (cs + 1)) (nI 0) s') := by
        rw [hf.1, hl]
        exact b_tt (nI_le (Nat.le_refl _) (by decide)) (k s' q1 q2 q3 hf)
      exact ⟨h11 _ _ _ (b_ff (nI_nlt (by omega) (by decide)) hb), hb⟩
    rcases hor with ⟨hl, hf⟩ | ⟨hf, hl⟩
    · rw [hf.1]
      refine b_le 12 (wlst ls i cs).length rfl rfl (by decide) (by omega) (fun q => ?_) (fun q => ?_)
      · have hl12 : (wlst ls i cs).length = 12 := by omega
        have hw : wit ls i = wlst ls i cs := pre_take (wlst_pre ls i (by omega)) hl12
        rw [← hw] at hf
        exact k s' q1 q2 q3 hf
      · -- the worlds one by one
        refine loopU (P := fun w s2 => chg (fun q k => q = m + 11 ∨ (q = m ∧ k = 14)) no σ1 s2 ∧ (wlst ls i cs ++ wgrp ls i (cs + 1) w).length ≤ 12 ∧ FW m s2 (wlst ls i cs ++ wgrp ls i (cs + 1) w)) (G := fun w s2 => K28 (nI i) (nI (cs + 1)) (nI w) s2) 3341 ?_ ?_ 0 s' (Nat.zero_le _) ⟨hc, by simp [wgrp]; omega, by simpa [wgrp] using hf⟩
        · rintro s2 ⟨hc2, hl2, hf2⟩
          refine h28 _ _ _ _ (b_tt (nI_le (Nat.le_refl _) (by decide)) ?_)
          rw [nI_add]
          exact ih s2 ⟨hc2, Or.inl ⟨hl2, hf2⟩⟩
        · rintro w s2 hw ⟨hc2, hl2, hf2⟩ ih2
          obtain ⟨p1, p2, p3⟩ := fw s2 hc2
          refine h28 _ _ _ _ (b_ff (nI_ge hw (by decide)) ?_)
          rw [hf2.1]
          refine b_le 12 _ rfl rfl (by decide) (by omega) (fun q12 => ?_) (fun q12 => ?_)
          · have hl12 : (wlst ls i cs ++ wgrp ls i (cs + 1) w).length = 12 := by omega
            have hpre : wlst ls i cs ++ wgrp ls i (cs + 1) w <+: wlst ls i 27 := by
              refine List.IsPrefix.trans ?_ (wlst_pre ls i (show cs + 1 ≤ 27 by omega))
              exact List.prefix_append_right_inj _ |>.mpr (wgrp_pre ls i (cs + 1) (by omega))
            have hwit : wit ls i = _ := pre_take hpre hl12
            rw [nI_add]
            refine ih s2 ⟨hc2, Or.inr ⟨by rw [hwit]; exact hf2, by rw [hwit]; exact hl12⟩⟩
          · refine ar_mk (m + 9) 16705 (3341 * i + w) p2.1.r9 p2.1.a9 (by rw [nI_mul, nI_add]) (by omega) (by decide) ?_
            rw [p3 i hi w hw]
            have hkb := bc_le (c := pwc w) (w := (lwg ls i).2) (pws_nok w)
            have skip : ∀ s3, s3 = s2 → (keyw ls i w == cs + 1 && holdb ls (pws w) (pwc w) i) = false → K28 (nI i) (nI (cs + 1)) (nI w + nI 1) s3 := by
              rintro s3 rfl hz
              have e := wgrp_succ ls i (cs + 1) w
              rw [hz] at e
              simp at e
              rw [nI_add]
              exact ih2 s3 ⟨hc2, by rw [e]; exact hl2, by rw [e]; exact hf2⟩
            refine b_eq _ (cs + 1) rfl rfl (by omega) (by omega) (fun e1 => ?_) (fun e1 => ?_)
            · have ek : (keyw ls i w == cs + 1) = true := by rw [beq_iff_eq]; exact e1
              refine M_hold_ok (but := i) p2 ha (by rw [← els]; exact p3) hw (fun j hj => nI_eq (by omega) (by omega)) ?_
              rw [← els]
              refine b_b _ rfl (fun eh => ?_) (fun eh => ?_)
              · exact skip s2 rfl (by rw [eh, Bool.and_false])
              · have e := wgrp_succ ls i (cs + 1) w
                rw [ek, eh] at e
                simp at e
                obtain ⟨L, eL⟩ : ∃ L, L = wlst ls i cs ++ wgrp ls i (cs + 1) w := ⟨_, rfl⟩
                rw [← eL] at hf2 hl2 q12
                refine ar_mk (m + 11) 12 L.length p2.1.r11 p2.1.a11 hf2.1 (by omega) (by decide) ?_
                have e14 : s_i (w_i s2 (m + 11) L.length (nI w)) m 14 = nI L.length := by
                  rw [s_i_wi, if_neg (fun z => by omega)]; exact hf2.1
                rw [e14, nI_add, nI_add]
                have eL2 : wlst ls i cs ++ wgrp ls i (cs + 1) (w + 1) = L ++ [w] := by rw [e, eL, List.append_assoc]
                refine ih2 _ ⟨(hc2.wi (Or.inl rfl)).wi (Or.inr ⟨rfl, rfl⟩), by rw [eL2]; simp; omega, ?_⟩
                rw [eL2]
                refine ⟨by rw [s_i_wi, if_pos ⟨rfl, rfl⟩, List.length_append]; rfl, fun t ht => ?_⟩
                rw [List.length_append, List.length_singleton] at ht
                rw [s_i_wi, if_neg (fun z => by omega), s_i_wi]
                by_cases et : t = L.length
                · rw [if_pos ⟨rfl, et⟩, et]
                  simp [List.getD_eq_getElem?_getD]
                · rw [if_neg (fun z => et z.2), hf2.2 t (by omega)]
                  simp [List.getD_eq_getElem?_getD, List.getElem?_append_left (show t < L.length by omega)]
            · have ek : (keyw ls i w == cs + 1) = false := by rw [beq_eq_false_iff_ne]; exact e1
              exact skip s2 rfl (by rw [ek, Bool.false_and])
    · exact (stop hf hl).2
