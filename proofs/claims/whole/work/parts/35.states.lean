/-! The class: states. -/
theorem SLt.c {s : Nat} {SI SR : Nat → Nat → Prop} {σ σ' : St} (h : SLt s σ) (c : chg SI SR σ σ') (hR : ∀ k, ¬ SR s k) : SLt s σ' := ⟨by rw [c.s]; exact h.s, ⟨by rw [c.s]; exact h.a1, (c.r (hR 0)).trans h.r1⟩, by rw [c.s]; exact h.a2, (c.r (hR 1)).trans h.r2⟩
theorem LR.cls {b : Nat} {o : Option Nat} {σ : St} (h : LR b o) (hX : XL b σ) : ∀ y, o = some y → s_s σ y = some (.inl (cix 5)) := by
  intro y hy
  obtain ⟨j, hj, rfl⟩ := h y hy
  exact (hX.2.2.2.1 j hj).1
theorem nar_b (v : Bool) : vp_nar .boolean (bI v) = bI v := by cases v <;> decide
theorem S_hasLaw_ok {s len : Nat} {x : Int32} {σ : St} {Q : Int32 → St → Prop} (hL : SLt s σ) (h2 : s_i σ s 2 = nI len) (h5 : len ≤ 5) (k : Q (bI (isN len x)) σ) : P_S_hasLaw s x σ Q := by
  refine ⟨hL.s, b_lt' (fun h => ?_) (fun h => ?_)⟩
  · have : isN len x = false := by
      simp at h
      simp [isN]; omega
    rw [this] at k; exact k
  · have hx : ¬ x < 0 := fun z => by
      have := Int32.lt_iff_toInt_lt.mp z
      omega
    obtain ⟨i, hi, rfl⟩ := nI_of hx
    rw [isN_nI hi] at k
    refine b_le len i h2 rfl (by omega) hi (fun q => ?_) (fun q => ?_)
    · rw [decide_eq_false (by omega)] at k; exact k
    · rw [decide_eq_true q] at k
      exact b_ff (nI_ge (by omega) (by decide)) k
theorem S_lawAt_ok {s len : Nat} {x : Int32} {σ : St} {Q : Option Nat → St → Prop} (hL : SLt s σ) (h2 : s_i σ s 2 = nI len) (h5 : len ≤ 5) (k0 : isN len x = false → Q none σ) (k1 : ∀ i, i < len → x = nI i → Q (s_r σ (s + 1) i) σ) : P_S_lawAt s x σ Q := by
  refine ⟨hL.s, S_hasLaw_ok hL h2 h5 (b_b _ rfl (fun e => k0 e) (fun e => ?_))⟩
  obtain ⟨i, hi, rfl⟩ := isN_ex e (by omega)
  exact ar_mk (s + 1) 5 i hL.r1 hL.a1 rfl (by omega) (by decide) (k1 i hi rfl)
theorem S_onCount_ok {s : Nat} {ls : List (Bool × Lw)} {σ : St} {Q : Int32 → St → Prop} (hL : SLt s σ) (h2 : s_i σ s 2 = nI ls.length) (h5 : ls.length ≤ 5) (hf : ∀ i, i < ls.length → s_i σ (s + 2) i = bI (lwg ls i).1) (k : Q (nI (lawsOn ls)) σ) : P_S_onCount s σ Q := by
  refine ⟨hL.s, fun K4 h4 => ?_⟩
  refine loopU (P := fun _ s' => s' = σ) (G := fun i s' => K4 (nI (ct (fun i => (lwg ls i).1) i)) (nI i) s') ls.length ?_ ?_ 0 σ (Nat.zero_le _) rfl
  · rintro s' rfl
    exact h4 _ _ _ (b_tt (by rw [h2]; exact nI_le (Nat.le_refl _) (by omega)) k)
  · rintro i s' hi rfl ih
    refine h4 _ _ _ (b_ff (by rw [h2]; exact nI_ge hi (by omega)) (ar_mk (s + 2) 5 i hL.r2 hL.a2 rfl (by omega) (by decide) ?_))
    rw [hf i hi]
    have := ih s' rfl
    rw [ct] at this
    refine b_b _ rfl (fun e => ?_) (fun e => ?_)
    · rw [e] at this
      rw [nI_add]; exact this
    · rw [e] at this
      rw [nI_add, nI_add]; exact this
theorem S_uses_ok {s len : Nat} {o : Option Nat} {σ : St} {Q : Int32 → St → Prop} (hL : SLt s σ) (h2 : s_i σ s 2 = nI len) (h5 : len ≤ 5) (k : ∀ u : Bool, (u = true ↔ ∃ i, i < len ∧ s_r σ (s + 1) i = o) → Q (bI u) σ) : P_S_uses s o σ Q := by
  refine ⟨hL.s, fun K2 hk2 => ?_⟩
  refine loopU (P := fun i s' => s' = σ ∧ ∀ j, j < i → s_r σ (s + 1) j ≠ o) (G := fun i s' => K2 o (nI i) s') len ?_ ?_ 0 σ (Nat.zero_le _) ⟨rfl, fun j hj => absurd hj (Nat.not_lt_zero j)⟩
  · rintro s' ⟨rfl, hn⟩
    refine hk2 _ _ _ (b_tt (by rw [h2]; exact nI_le (Nat.le_refl _) (by omega)) (k false ⟨fun z => (by cases z), fun z => ?_⟩))
    obtain ⟨i, hi, e⟩ := z
    exact absurd e (hn i hi)
  · rintro i s' hi ⟨rfl, hn⟩ ih
    refine hk2 _ _ _ (b_ff (by rw [h2]; exact nI_ge hi (by omega)) (ar_mk (s + 1) 5 i hL.r1 hL.a1 rfl (by omega) (by decide) (b_or (fun e => ?_) (fun e => ?_))))
    · exact k true ⟨fun _ => ⟨i, hi, e⟩, fun _ => rfl⟩
    · rw [nI_add]
      refine ih s' ⟨rfl, fun j hj => ?_⟩
      by_cases ej : j = i
      · rw [ej]; exact e
      · exact hn j (by omega)
def cpI (d : Nat) : Nat → Nat → Prop := fun q k => (q = d ∧ 2 ≤ k ∧ k ≤ 4) ∨ q = d + 2
def cpR (d : Nat) : Nat → Nat → Prop := fun q _ => q = d + 1
theorem S_copyFrom_ok {b d s : Nat} {sp : Nat → List Nat} {w : Ws} {σ : St} {Q : St → Prop} (hX : XL b σ) (hd : SLt d σ) (hs : SLt s σ) (hW : WT b s σ) (hS : StC b sp s w σ) (h5 : w.2.2.length ≤ 5) (hds : d + 2 < s ∨ s + 2 < d) (k : ∀ σ', chg (cpI d) (cpR d) σ σ' → WT b d σ' → StC b sp d w σ' → Q σ') : P_S_copyFrom d (some s) σ Q := by
  obtain ⟨w1, w2, w3, w4⟩ := hS
  refine ⟨hd.s, fun K26 h26 => ?_⟩
  refine ob_mk s rfl hs.s (ob_mk s rfl hs.s (ob_mk s rfl hs.s ?_))
  have e3 : s_i σ s 3 = nI w.1 := w2
  have e4 : s_i (w_i σ d 3 (s_i σ s 3)) s 4 = nI w.2.1 := by rw [s_i_wi, if_neg (fun z => by omega)]; exact w3
  have e2 : s_i (w_i (w_i σ d 3 (s_i σ s 3)) d 4 (s_i (w_i σ d 3 (s_i σ s 3)) s 4)) s 2 = nI w.2.2.length := by rw [s_i_wi, if_neg (fun z => by omega), s_i_wi, if_neg (fun z => by omega)]; exact w1
  rw [e2, e4, e3]
  have c3 : chg (cpI d) (cpR d) σ (w_i (w_i (w_i σ d 3 (nI w.1)) d 4 (nI w.2.1)) d 2 (nI w.2.2.length)) := ((chg.rf.wi (Or.inl ⟨rfl, by decide, by decide⟩)).wi (Or.inl ⟨rfl, by decide, by decide⟩)).wi (Or.inl ⟨rfl, by decide, by decide⟩)
  refine loopU (P := fun i s' => chg (cpI d) (cpR d) σ s' ∧ (s_i s' d 2 = nI w.2.2.length ∧ s_i s' d 3 = nI w.1 ∧ s_i s' d 4 = nI w.2.1) ∧ ∀ j, j < i → s_r s' (d + 1) j = s_r σ (s + 1) j ∧ s_i s' (d + 2) j = vp_nar .boolean (s_i σ (s + 2) j)) (G := fun i s' => K26 (some s) (nI i) s') 5 ?_ ?_ 0 _ (Nat.zero_le _) ⟨c3, ⟨?_, ?_, ?_⟩, fun j hj => absurd hj (Nat.not_lt_zero j)⟩
  · rintro s' ⟨hc, ⟨f2, f3, f4⟩, hv⟩
    refine h26 _ _ _ (b_tt (nI_le (Nat.le_refl _) (by decide)) (k s' hc (fun i hi => ?_) ⟨f2, f3, f4, fun i hi => ?_⟩))
    · rw [(hv i hi).1]; exact hW i hi
    · obtain ⟨g1, j, g2, g3, g4⟩ := w4 i hi
      obtain ⟨v1, v2⟩ := hv i (by omega)
      refine ⟨by rw [v2, g1, nar_b], j, g2, by rw [v1]; exact g3, g4⟩
  · rintro i s' hi ⟨hc, ⟨f2, f3, f4⟩, hv⟩ ih
    have hd' := hd.c hc (fun k => by unfold cpR; omega)
    have hs' := hs.c hc (fun k => by unfold cpR; omega)
    have er : s_r s' (s + 1) i = s_r σ (s + 1) i := hc.r (by unfold cpR; omega)
    refine h26 _ _ _ (b_ff (nI_ge hi (by decide)) (ob_mk s rfl hs'.s (ar_mk (s + 1) 5 i hs'.r1 hs'.a1 rfl hi (by decide) (ar_mk (d + 1) 5 i hd'.r1 hd'.a1 rfl hi (by decide) ⟨fun y hy => ?_, ?_⟩))))
    · rw [hc.s]
      rw [er] at hy
      exact (hW i hi).cls hX y hy
    · rw [er]
      obtain ⟨A, eA⟩ : ∃ A, A = w_r s' (d + 1) i (s_r σ (s + 1) i) := ⟨_, rfl⟩
      rw [← eA]
      have cA : chg (cpI d) (cpR d) σ A := by rw [eA]; exact hc.wr rfl
      have dA := hd.c cA (fun k => by unfold cpR; omega)
      have sA := hs.c cA (fun k => by unfold cpR; omega)
      have ei : s_i A (s + 2) i = s_i σ (s + 2) i := cA.i (by unfold cpI; omega)
      have fA : ∀ q k, s_i A q k = s_i s' q k := fun q k => by rw [eA]; rfl
      refine ob_mk s rfl sA.s (ar_mk (s + 2) 5 i sA.r2 sA.a2 rfl hi (by decide) (ar_mk (d + 2) 5 i dA.r2 dA.a2 rfl hi (by decide) ?_))
      rw [ei, nI_add]
      refine ih _ ⟨cA.wi (Or.inr rfl), ⟨?_, ?_, ?_⟩, fun j hj => ?_⟩
      · rw [s_i_wi, if_neg (fun z => by omega), fA]; exact f2
      · rw [s_i_wi, if_neg (fun z => by omega), fA]; exact f3
      · rw [s_i_wi, if_neg (fun z => by omega), fA]; exact f4
      · rw [s_i_wi, s_r_wi]
        by_cases e : j = i
        · subst e
          refine ⟨?_, by rw [if_pos ⟨rfl, rfl⟩]⟩
          rw [eA, s_r_wr, if_pos ⟨rfl, rfl⟩]
        · rw [if_neg (fun z => e z.2), fA]
          refine ⟨?_, (hv j (by omega)).2⟩
          rw [eA, s_r_wr, if_neg (fun z => e z.2)]
          exact (hv j (by omega)).1
  · rw [s_i_wi, if_pos ⟨rfl, rfl⟩]
  · rw [s_i_wi, if_neg (fun z => by omega), s_i_wi, if_neg (fun z => by omega), s_i_wi, if_pos ⟨rfl, rfl⟩]
  · rw [s_i_wi, if_neg (fun z => by omega), s_i_wi, if_pos ⟨rfl, rfl⟩]
def adI (s : Nat) : Nat → Nat → Prop := fun q k => (q = s ∧ k = 2) ∨ q = s + 2
theorem S_add_ok {b s j : Nat} {sp : Nat → List Nat} {w : Ws} {v : Lw} {σ : St} {Q : St → Prop} (hX : XL b σ) (hs : SLt s σ) (hW : WT b s σ) (hS : StC b sp s w σ) (h5 : w.2.2.length < 5) (hj : j < 30) (hv : sp j = v.1 ++ v.2) (k : ∀ σ', chg (adI s) (cpR s) σ σ' → WT b s σ' → StC b sp s (w.1, w.2.1, w.2.2 ++ [(true, v)]) σ' → Q σ') : P_S_add s (some (b + 23 + 2 * j)) σ Q := by
  obtain ⟨w1, w2, w3, w4⟩ := hS
  refine ⟨hs.s, b_ff (fun z => by cases z) (b_ff (by rw [w1]; exact nI_ge h5 (by decide)) (ar_mk (s + 1) 5 w.2.2.length hs.r1 hs.a1 w1 h5 (by decide) ⟨fun y hy => ?_, ?_⟩))⟩
  · cases hy
    exact (hX.2.2.2.1 j hj).1
  · obtain ⟨A, eA⟩ : ∃ A, A = w_r σ (s + 1) w.2.2.length (some (b + 23 + 2 * j)) := ⟨_, rfl⟩
    rw [← eA]
    have cA : chg (adI s) (cpR s) σ A := by rw [eA]; exact chg.rf.wr rfl
    have sA := hs.c cA (fun k => by unfold cpR; omega)
    have fA : ∀ q k, s_i A q k = s_i σ q k := fun q k => by rw [eA]; rfl
    have rA : ∀ k, s_r A (s + 1) k = if k = w.2.2.length then some (b + 23 + 2 * j) else s_r σ (s + 1) k := fun k => by
      rw [eA, s_r_wr]
      by_cases e : k = w.2.2.length
      · rw [if_pos ⟨rfl, e⟩, if_pos e]
      · rw [if_neg (fun z => e z.2), if_neg e]
    refine ar_mk (s + 2) 5 w.2.2.length sA.r2 sA.a2 (by rw [fA]; exact w1) h5 (by decide) ?_
    have eb : vp_nar .boolean (nI 1) = bI true := nar_b true
    rw [eb]
    have e2 : s_i (w_i A (s + 2) w.2.2.length (bI true)) s 2 = nI w.2.2.length := by rw [s_i_wi, if_neg (fun z => by omega), fA]; exact w1
    rw [e2, nI_add]
    refine k _ ((cA.wi (Or.inr rfl)).wi (Or.inl ⟨rfl, rfl⟩)) (fun i hi => ?_) ⟨?_, ?_, ?_, fun i hi => ?_⟩
    · rw [s_r_wi, s_r_wi, rA]
      by_cases e : i = w.2.2.length
      · rw [if_pos e]
        intro y hy
        cases hy
        exact ⟨j, hj, rfl⟩
      · rw [if_neg e]; exact hW i hi
    · rw [s_i_wi, if_pos ⟨rfl, rfl⟩]
      show nI _ = nI (w.2.2 ++ _).length
      rw [List.length_append]; rfl
    · rw [s_i_wi, if_neg (fun z => by omega), s_i_wi, if_neg (fun z => by omega), fA]; exact w2
    · rw [s_i_wi, if_neg (fun z => by omega), s_i_wi, if_neg (fun z => by omega), fA]; exact w3
    · have hi' : i < w.2.2.length + 1 := by
        have : i < (w.2.2 ++ [(true, v)]).length := hi
        rwa [List.length_append] at this
      show s_i _ (s + 2) i = bI (lwg (w.2.2 ++ [(true, v)]) i).1 ∧ ∃ j, j < 30 ∧ _ ∧ sp j = (lwg (w.2.2 ++ [(true, v)]) i).2.1 ++ (lwg (w.2.2 ++ [(true, v)]) i).2.2
      rw [s_i_wi, if_neg (fun z => by omega), s_i_wi]
      by_cases e : i = w.2.2.length
      · have el : lwg (w.2.2 ++ [(true, v)]) i = (true, v) := by
          rw [e]
          simp [lwg, List.getD_eq_getElem?_getD]
        rw [el, if_pos ⟨rfl, e⟩]
        exact ⟨rfl, j, hj, by rw [s_r_wi, s_r_wi, rA, if_pos e], hv⟩
      · rw [lwg_app1 (show i < w.2.2.length by omega), if_neg (fun z => e z.2), fA]
        obtain ⟨g1, j', g2, g3, g4⟩ := w4 i (by omega)
        exact ⟨g1, j', g2, by rw [s_r_wi, s_r_wi, rA, if_neg e]; exact g3, g4⟩
theorem S_remove_ok {b s i : Nat} {sp : Nat → List Nat} {w : Ws} {σ : St} {Q : St → Prop} (hX : XL b σ) (hs : SLt s σ) (hW : WT b s σ) (hS : StC b sp s w σ) (h5 : w.2.2.length ≤ 5) (hi : i < w.2.2.length) (k : ∀ σ', chg (adI s) (cpR s) σ σ' → WT b s σ' → StC b sp s (w.1, w.2.1, w.2.2.eraseIdx i) σ' → Q σ') : P_S_remove s (nI i) σ Q := by
  obtain ⟨w1, w2, w3, w4⟩ := hS
  refine ⟨hs.s, fun K21 h21 => S_hasLaw_ok hs w1 h5 (b_b _ rfl (fun e => ?_) (fun e => ?_))⟩
  · rw [isN_nI (by omega), decide_eq_true hi] at e; cases e
  · obtain ⟨N, eN⟩ : ∃ N, w.2.2.length = N + 1 := ⟨w.2.2.length - 1, by omega⟩
    rw [w1, eN, nI_sub (by omega), Nat.add_sub_cancel]
    have c0 : chg (adI s) (cpR s) σ (w_i σ s 2 (nI N)) := chg.rf.wi (Or.inl ⟨rfl, rfl⟩)
    have key := loopU (P := fun t s' => chg (adI s) (cpR s) σ s' ∧ s_i s' s 2 = nI N ∧ (∀ j, j < 5 → s_r s' (s + 1) j = (if i ≤ j ∧ j < i + t then s_r σ (s + 1) (j + 1) else s_r σ (s + 1) j)) ∧ ∀ j, j < w.2.2.length → s_i s' (s + 2) j = (if i ≤ j ∧ j < i + t then bI (lwg w.2.2 (j + 1)).1 else bI (lwg w.2.2 j).1)) (G := fun t s' => K21 (nI (i + t)) s') (N - i) ?_ ?_ 0 (w_i σ s 2 (nI N)) (Nat.zero_le _) ⟨c0, by rw [s_i_wi, if_pos ⟨rfl, rfl⟩], fun j hj => by rw [if_neg (by omega), s_r_wi], fun j hj => by rw [if_neg (by omega), s_i_wi, if_neg (fun z => by omega)]; exact (w4 j hj).1⟩
    · exact key
    · rintro s' ⟨hc, f2, hr, hv⟩
      refine h21 _ _ (b_tt (by rw [f2]; exact nI_le (by omega) (by omega)) (k s' hc (fun j hj => ?_) ⟨?_, ?_, ?_, fun j hj => ?_⟩))
      · rw [hr j hj]
        split
        · exact hW _ (by omega)
        · exact hW _ hj
      · show _ = nI (w.2.2.eraseIdx i).length
        rw [f2, List.length_eraseIdx, if_pos hi, eN]; rfl
      · exact (hc.i (by unfold adI; omega)).trans w2
      · exact (hc.i (by unfold adI; omega)).trans w3
      · have hj' : j < N := by
          have : j < (w.2.2.eraseIdx i).length := hj
          rw [List.length_eraseIdx, if_pos hi, eN] at this
          omega
        show s_i s' (s + 2) j = bI (lwg (w.2.2.eraseIdx i) j).1 ∧ ∃ j', j' < 30 ∧ _ ∧ sp j' = (lwg (w.2.2.eraseIdx i) j).2.1 ++ (lwg (w.2.2.eraseIdx i) j).2.2
        rw [lwg_erase, hr j (by omega), hv j (by omega)]
        by_cases e : j < i
        · rw [if_pos e, if_neg (by omega), if_neg (by omega)]
          obtain ⟨g1, g2⟩ := w4 j (by omega)
          exact ⟨rfl, g2⟩
        · rw [if_neg e, if_pos (by omega), if_pos (by omega)]
          obtain ⟨g1, g2⟩ := w4 (j + 1) (by omega)
          exact ⟨rfl, g2⟩
    · rintro t s' ht ⟨hc, f2, hr, hv⟩ ih
      have hs' := hs.c hc (fun k => by unfold cpR; omega)
      have r1 : s_r s' (s + 1) (i + t + 1) = s_r σ (s + 1) (i + t + 1) := by rw [hr _ (by omega), if_neg (by omega)]
      refine h21 _ _ (b_ff (by rw [f2]; exact nI_ge (by omega) (by omega)) (ar_mk (s + 1) 5 (i + t + 1) hs'.r1 hs'.a1 (by rw [nI_add]) (by omega) (by decide) (ar_mk (s + 1) 5 (i + t) hs'.r1 hs'.a1 rfl (by omega) (by decide) ⟨fun y hy => ?_, ?_⟩)))
      · rw [hc.s]
        rw [r1] at hy
        exact (hW _ (by omega)).cls hX y hy
      · rw [r1]
        obtain ⟨A, eA⟩ : ∃ A, A = w_r s' (s + 1) (i + t) (s_r σ (s + 1) (i + t + 1)) := ⟨_, rfl⟩
        rw [← eA]
        have cA : chg (adI s) (cpR s) σ A := by rw [eA]; exact hc.wr rfl
        have sA := hs.c cA (fun k => by unfold cpR; omega)
        have fA : ∀ q k, s_i A q k = s_i s' q k := fun q k => by rw [eA]; rfl
        have v1 : s_i A (s + 2) (i + t + 1) = bI (lwg w.2.2 (i + t + 1)).1 := by rw [fA, hv _ (by omega), if_neg (by omega)]
        refine ar_mk (s + 2) 5 (i + t + 1) sA.r2 sA.a2 (by rw [nI_add]) (by omega) (by decide) (ar_mk (s + 2) 5 (i + t) sA.r2 sA.a2 rfl (by omega) (by decide) ?_)
        rw [v1, nar_b, nI_add]
        refine ih _ ⟨cA.wi (Or.inr rfl), by rw [s_i_wi, if_neg (fun z => by omega), fA]; exact f2, fun j hj => ?_, fun j hj => ?_⟩
        · rw [s_r_wi, eA, s_r_wr]
          by_cases e : j = i + t
          · subst e
            rw [if_pos ⟨rfl, rfl⟩, if_pos (by omega)]
          · rw [if_neg (fun z => e z.2), hr j hj]
            by_cases e2 : i ≤ j ∧ j < i + t
            · rw [if_pos e2, if_pos (by omega)]
            · rw [if_neg e2, if_neg (by omega)]
        · rw [s_i_wi]
          by_cases e : j = i + t
          · subst e
            rw [if_pos ⟨rfl, rfl⟩, if_pos (by omega)]
          · rw [if_neg (fun z => e z.2), fA, hv j hj]
            by_cases e2 : i ≤ j ∧ j < i + t
            · rw [if_pos e2, if_pos (by omega)]
            · rw [if_neg e2, if_neg (by omega)]
