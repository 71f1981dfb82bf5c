/-! The class: history. -/
theorem XR.mk {b q k : Nat} (h : q = b + 2 ∨ q = b + 5 ∨ q = b + 7 ∨ q = b + 10 ∨ q = b + 13 ∨ q = b + 16 ∨ q = b + 19 ∨ q = b + 98) : XR b q k := by
  rcases h with h | h | h | h | h | h | h | h
  · exact Or.inl h
  · exact Or.inr (Or.inl h)
  · exact Or.inr (Or.inr (Or.inl ⟨0, by decide, h⟩))
  · exact Or.inr (Or.inr (Or.inl ⟨1, by decide, h⟩))
  · exact Or.inr (Or.inr (Or.inl ⟨2, by decide, h⟩))
  · exact Or.inr (Or.inr (Or.inl ⟨3, by decide, h⟩))
  · exact Or.inr (Or.inr (Or.inl ⟨4, by decide, h⟩))
  · exact Or.inr (Or.inr (Or.inr (Or.inl h)))
theorem XL.now {b : Nat} {σ : St} (h : XL b σ) : SLt (b + 1) σ := h.2.1
theorem XL.past {b : Nat} {σ : St} (h : XL b σ) (t : Nat) (ht : t < 5) : SLt (b + 6 + 3 * t) σ := h.2.2.1 t ht
def rcI (b : Nat) : Nat → Nat → Prop := fun q k => (q = b + 4 ∧ k = 2) ∨ (b + 6 ≤ q ∧ q ≤ b + 17)
def rcR (b : Nat) : Nat → Nat → Prop := fun q _ => q = b + 5 ∨ q = b + 7 ∨ q = b + 10 ∨ q = b + 13 ∨ q = b + 16
theorem rcR_X {b q k : Nat} (h : rcR b q k) : XR b q k := XR.mk (by unfold rcR at h; omega)
theorem HiC.len {b : Nat} {sp : Nat → List Nat} {h : List Ws} {σ : St} (hh : HiC b sp h σ) : s_i σ (b + 4) 2 = nI h.length := hh.1
theorem record_end {b : Nat} {sp : Nat → List Nat} {h : List Ws} {w : Ws} {σ : St} {Q : St → Prop} (hX : XL b σ) (hN : b + 106 ≤ s_n σ) (hW0 : WT b (b + 1) σ) (hW : ∀ t, t < 5 → WT b (b + 6 + 3 * t) σ) (hS : StC b sp (b + 1) w σ) (h5 : w.2.2.length ≤ 5) (hH : HiC b sp h σ) (hl : h.length ≤ 3)
    (k : ∀ σ', chg (rcI b) (rcR b) σ σ' → (∀ t, t < 5 → WT b (b + 6 + 3 * t) σ') → HiC b sp (h ++ [w]) σ' → Q σ') : ar 6 σ (s_r σ (b + 4) 0) (s_i σ (b + 4) 2) (fun q1 j2 => nn (s_r σ q1 j2) (fun q3 => P_S_copyFrom q3 (some (b + 1)) σ (fun σ4 => Q (w_i σ4 (b + 4) 2 ((s_i σ4 (b + 4) 2) + (nI 1)))))) := by
  obtain ⟨h1, r, h2, h3, h4⟩ := hH
  obtain ⟨t, et, ht⟩ : ∃ t, t = (r + h.length) % 4 ∧ t < 4 := ⟨_, rfl, by omega⟩
  refine ar_mk (b + 5) 4 h.length hX.1.h0 hX.1.ha h1 (by omega) (by decide) (nn_mk (b + 6 + 3 * t) (by rw [h3 _ (by omega), et]) ?_)
  refine S_copyFrom_ok hX (hX.past t (by omega)) hX.now hW0 hS h5 (by omega) (fun σ1 hc hWd hSd => ?_)
  have e2 : s_i σ1 (b + 4) 2 = nI h.length := (hc.i (by unfold cpI; omega)).trans h1
  rw [e2, nI_add]
  have hc2 : chg (rcI b) (rcR b) σ σ1 := hc.mono (fun q k z => by unfold cpI at z; unfold rcI; omega) (fun q k z => by unfold cpR at z; unfold rcR; omega)
  have c3 : chg (fun q k => q = b + 4 ∧ k = 2) no σ1 (w_i σ1 (b + 4) 2 (nI (h.length + 1))) := chg.rf.wi ⟨rfl, rfl⟩
  have hN1 : b + 106 ≤ s_n σ1 := by rw [hc.n]; exact hN
  have c3' : cx (fun q k => q = b + 4 ∧ k = 2) no σ1 (w_i σ1 (b + 4) 2 (nI (h.length + 1))) := c3.x
  refine k _ (hc2.tr (c3.mono (fun q k z => by unfold rcI; omega) (fun _ _ z => z.elim))) (fun u hu => ?_) ⟨?_, r, h2, fun j hj => ?_, fun j hj => ?_⟩
  · by_cases e : u = t
    · subst e; exact hWd.g c3' (by omega) (fun _ z => z)
    · exact ((hW u hu).g hc.x (by omega) (fun k => by unfold cpR; omega)).g c3' (by omega) (fun _ z => z)
  · rw [s_i_wi, if_pos ⟨rfl, rfl⟩, List.length_append]; rfl
  · rw [s_r_wi, hc.r (by unfold cpR; omega)]; exact h3 j hj
  · rw [List.length_append, List.length_singleton] at hj
    by_cases e : j = h.length
    · subst e
      rw [getD_last, ← et]
      exact hSd.g c3' (by omega) (fun k _ _ => by omega) (fun k => by omega) (fun _ z => z)
    · rw [getD_push (show j < h.length by omega)]
      exact ((h4 j (by omega)).g hc.x (by omega) (fun k _ _ => by unfold cpI; omega) (fun k => by unfold cpI; omega) (fun k => by unfold cpR; omega)).g c3' (by omega) (fun k _ _ => by omega) (fun k => by omega) (fun _ z => z)
theorem H_dropOldest_ok {b : Nat} {sp : Nat → List Nat} {h : List Ws} {σ : St} {Q : St → Prop} (hX : XL b σ) (hN : b + 106 ≤ s_n σ) (hH : HiC b sp h σ) (hl : h.length = 4) (k : ∀ σ', chg (fun q k => q = b + 4 ∧ k = 2) (fun q _ => q = b + 5) σ σ' → HiC b sp h.tail σ' → Q σ') : P_H_dropOldest (b + 4) σ Q := by
  obtain ⟨h1, r, h2, h3, h4⟩ := hH
  refine ⟨hX.1.h, fun K9 h9 => ar_mk (b + 5) 4 0 hX.1.h0 hX.1.ha rfl (by decide) (by decide) ?_⟩
  rw [h3 0 (by decide)]
  have cls : ∀ k, k < 4 → s_s σ (b + 6 + 3 * ((r + k) % 4)) = some (.inl (cix 6)) := fun k hk => (hX.past ((r + k) % 4) (by omega)).s
  refine loopU (P := fun i s' => chg no (fun q _ => q = b + 5) σ s' ∧ ∀ j, j < 4 → s_r s' (b + 5) j = some (b + 6 + 3 * ((r + (if j < i then j + 1 else j)) % 4))) (G := fun i s' => K9 (some (b + 6 + 3 * ((r + 0) % 4))) (nI (i + 1)) s') 3 ?_ ?_ 0 σ (Nat.zero_le _) ⟨chg.rf, fun j hj => by rw [if_neg (by omega)]; exact h3 j hj⟩
  · rintro s' ⟨hc, hv⟩
    have e0 : s_r s' (b + 4) 0 = some (b + 5) := (hc.r (by omega)).trans hX.1.h0
    have ea : s_s s' (b + 5) = some (.inr (6, 4)) := by rw [hc.s]; exact hX.1.ha
    refine h9 _ _ _ (b_tt (nI_le (by decide) (by decide)) (ar_mk (b + 5) 4 3 e0 ea rfl (by decide) (by decide) ⟨fun y hy => ?_, ?_⟩))
    · cases hy
      rw [hc.s]; exact cls 0 (by decide)
    · have e2 : s_i (w_r s' (b + 5) 3 (some (b + 6 + 3 * ((r + 0) % 4)))) (b + 4) 2 = nI h.length := (hc.i (fun z => z)).trans h1
      rw [e2, hl, nI_sub (by decide)]
      have c2 : chg (fun q k => q = b + 4 ∧ k = 2) (fun q _ => q = b + 5) σ (w_i (w_r s' (b + 5) 3 (some (b + 6 + 3 * ((r + 0) % 4)))) (b + 4) 2 (nI (4 - 1))) := ((hc.mono (fun _ _ z => z.elim) (fun _ _ z => z)).wr rfl).wi ⟨rfl, rfl⟩
      refine k _ c2 ⟨?_, (r + 1) % 4, by omega, fun j hj => ?_, fun j hj => ?_⟩
      · rw [s_i_wi, if_pos ⟨rfl, rfl⟩, List.length_tail, hl]
      · rw [s_r_wi, s_r_wr]
        by_cases e : j = 3
        · rw [if_pos ⟨rfl, e⟩, e]
          congr 1
          omega
        · rw [if_neg (fun z => e z.2), hv j hj, if_pos (by omega)]
          congr 1
          omega
      · rw [List.length_tail, hl] at hj
        have eg : h.tail.getD j wz = h.getD (j + 1) wz := by cases h <;> simp [List.getD_eq_getElem?_getD]
        rw [eg, show ((r + 1) % 4 + j) % 4 = (r + (j + 1)) % 4 by omega]
        exact (h4 (j + 1) (by omega)).g c2.x (by omega) (fun k _ _ => by omega) (fun k => by omega) (fun k => by omega)
  · rintro i s' hi ⟨hc, hv⟩ ih
    have e0 : s_r s' (b + 4) 0 = some (b + 5) := (hc.r (by omega)).trans hX.1.h0
    have ea : s_s s' (b + 5) = some (.inr (6, 4)) := by rw [hc.s]; exact hX.1.ha
    have v1 : s_r s' (b + 5) (i + 1) = some (b + 6 + 3 * ((r + (i + 1)) % 4)) := by rw [hv (i + 1) (by omega), if_neg (by omega)]
    refine h9 _ _ _ (b_ff (nI_ge (by omega) (by decide)) (ar_mk (b + 5) 4 (i + 1) e0 ea rfl (by omega) (by decide) (ar_mk (b + 5) 4 i e0 ea (by rw [nI_sub (by omega), Nat.add_sub_cancel]) (by omega) (by decide) ⟨fun y hy => ?_, ?_⟩)))
    · rw [v1] at hy
      cases hy
      rw [hc.s]; exact cls (i + 1) (by omega)
    · rw [v1, nI_add]
      refine ih _ ⟨hc.wr rfl, fun j hj => ?_⟩
      rw [s_r_wr]
      by_cases e : j = i
      · rw [if_pos ⟨rfl, e⟩, if_pos (by omega), e]
      · rw [if_neg (fun z => e z.2), hv j hj]
        by_cases e2 : j < i
        · rw [if_pos e2, if_pos (by omega)]
        · rw [if_neg e2, if_neg (by omega)]
theorem H_record_ok {b : Nat} {sp : Nat → List Nat} {h : List Ws} {w : Ws} {σ : St} {Q : St → Prop} (hX : XL b σ) (hN : b + 106 ≤ s_n σ) (hW0 : WT b (b + 1) σ) (hW : ∀ t, t < 5 → WT b (b + 6 + 3 * t) σ) (hS : StC b sp (b + 1) w σ) (h5 : w.2.2.length ≤ 5) (hH : HiC b sp h σ) (hl : h.length ≤ 4)
    (k : ∀ σ', chg (rcI b) (rcR b) σ σ' → (∀ t, t < 5 → WT b (b + 6 + 3 * t) σ') → HiC b sp (push4 h w) σ' → Q σ') : P_H_record (b + 4) (some (b + 1)) σ Q := by
  refine ⟨hX.1.h, b_lt h.length 4 hH.1 rfl (by omega) (by decide) (fun e => ?_) (fun e => ?_)⟩
  · refine record_end hX hN hW0 hW hS h5 hH (by omega) (fun σ' hc hw hh => k σ' hc hw ?_)
    rw [push4, if_neg (by omega)]; exact hh
  · refine H_dropOldest_ok hX hN hH (by omega) (fun σ1 hc1 hH1 => ?_)
    have hX1 := hX.g hc1.x hN (fun q k z => XR.mk (by omega))
    have hN1 : b + 106 ≤ s_n σ1 := by rw [hc1.n]; exact hN
    refine record_end hX1 hN1 (hW0.g hc1.x (by omega) (fun k => by omega)) (fun t ht => (hW t ht).g hc1.x (by omega) (fun k => by omega)) (hS.g hc1.x (by omega) (fun k _ _ => by omega) (fun k => by omega) (fun k => by omega)) h5 hH1 (by rw [List.length_tail]; omega) (fun σ' hc hw hh => k σ' ((hc1.mono (fun q k z => by unfold rcI; omega) (fun q k z => by unfold rcR; omega)).tr hc) hw ?_)
    rw [push4, if_pos (by omega)]; exact hh
def gbI (b : Nat) : Nat → Nat → Prop := fun q k => (q = b + 4 ∧ k = 2) ∨ (q = b + 1 ∧ 2 ≤ k ∧ k ≤ 4) ∨ q = b + 3
theorem H_goBack_ok {b : Nat} {sp : Nat → List Nat} {h : List Ws} {σ : St} {Q : Int32 → St → Prop} (hX : XL b σ) (hN : b + 106 ≤ s_n σ) (hW : ∀ t, t < 5 → WT b (b + 6 + 3 * t) σ) (hH : HiC b sp h σ) (hl : h.length ≤ 4) (h5 : ∀ w ∈ h, w.2.2.length ≤ 5) (k0 : h.length = 0 → Q (nI 0) σ)
    (k1 : ∀ σ', h.length ≠ 0 → chg (gbI b) (fun q _ => q = b + 2) σ σ' → WT b (b + 1) σ' → StC b sp (b + 1) (h.getD (h.length - 1) wz) σ' → HiC b sp (h.take (h.length - 1)) σ' → Q (nI 1) σ') : P_H_goBack (b + 4) (some (b + 1)) σ Q := by
  have hH' := hH
  obtain ⟨h1, r, h2, h3, h4⟩ := hH'
  refine ⟨hX.1.h, b_eq h.length 0 h1 nI_0.symm (by omega) (by decide) (fun e => k0 e) (fun e => ?_)⟩
  rw [h1, nI_sub (by omega)]
  obtain ⟨t, et⟩ : ∃ t, t = h.length - 1 := ⟨_, rfl⟩
  rw [← et]
  have c1 : chg (fun q k => q = b + 4 ∧ k = 2) no σ (w_i σ (b + 4) 2 (nI t)) := chg.rf.wi ⟨rfl, rfl⟩
  have hX1 := hX.g c1.x hN (fun q k z => z.elim)
  have hN1 : b + 106 ≤ s_n (w_i σ (b + 4) 2 (nI t)) := by rw [c1.n]; exact hN
  obtain ⟨u, eu, hu⟩ : ∃ u, u = (r + t) % 4 ∧ u < 4 := ⟨_, rfl, by omega⟩
  refine ar_mk (b + 5) 4 t hX1.1.h0 hX1.1.ha (by rw [s_i_wi, if_pos ⟨rfl, rfl⟩]) (by omega) (by decide) (nn_mk (b + 1) rfl ?_)
  rw [s_r_wi, h3 t (by omega), ← eu]
  have hSt := h4 t (by omega)
  rw [← eu] at hSt
  refine S_copyFrom_ok hX1 hX1.now (hX1.past u (by omega)) ((hW u (by omega)).g c1.x (by omega) (fun _ z => z)) (hSt.g c1.x (by omega) (fun k _ _ => by omega) (fun k => by omega) (fun _ z => z)) (h5 _ (getD_mem (by omega))) (by omega) (fun σ2 hc hWd hSd => ?_)
  have ct2 : chg (gbI b) (fun q _ => q = b + 2) σ σ2 := (c1.mono (fun q k z => by unfold gbI; omega) (fun _ _ z => z.elim)).tr (hc.mono (fun q k z => by unfold cpI at z; unfold gbI; omega) (fun q k z => by unfold cpR at z; omega))
  refine k1 σ2 e ct2 hWd (by rw [← et]; exact hSd) ⟨?_, r, h2, fun j hj => ?_, fun j hj => ?_⟩
  · rw [← et, List.length_take, Nat.min_eq_left (by omega), hc.i (by unfold cpI; omega), s_i_wi, if_pos ⟨rfl, rfl⟩]
  · exact (ct2.r (by omega)).trans (h3 j hj)
  · rw [← et] at hj ⊢
    rw [List.length_take, Nat.min_eq_left (by omega)] at hj
    have eg : (h.take t).getD j wz = h.getD j wz := by
      rw [List.getD_eq_getElem?_getD, List.getD_eq_getElem?_getD, List.getElem?_take, if_pos hj]
    rw [eg]
    exact (h4 j (by omega)).g ct2.x (by omega) (fun k _ _ => by unfold gbI; omega) (fun k => by unfold gbI; omega) (fun k => by omega)
def snI (b : Nat) : Nat → Nat → Prop := fun q k => (q = b + 4 ∧ k = 3) ∨ (b + 18 ≤ q ∧ q ≤ b + 20)
theorem H_takeSnapshot_ok {b : Nat} {sp : Nat → List Nat} {w : Ws} {σ : St} {Q : St → Prop} (hX : XL b σ) (hN : b + 106 ≤ s_n σ) (hW0 : WT b (b + 1) σ) (hS : StC b sp (b + 1) w σ) (h5 : w.2.2.length ≤ 5) (k : ∀ σ', chg (snI b) (fun q _ => q = b + 19) σ σ' → WT b (b + 18) σ' → SnC b sp (some w) σ' → Q σ') : P_H_takeSnapshot (b + 4) (some (b + 1)) σ Q := by
  refine ⟨hX.1.h, nn_mk (b + 18) hX.1.h1 ?_⟩
  refine S_copyFrom_ok hX (hX.past 4 (by decide)) hX.now hW0 hS h5 (by omega) (fun σ2 hc hWd hSd => ?_)
  have c2 : chg (fun q k => q = b + 4 ∧ k = 3) no σ2 (w_i σ2 (b + 4) 3 (nI 1)) := chg.rf.wi ⟨rfl, rfl⟩
  have hN2 : b + 106 ≤ s_n σ2 := by rw [hc.n]; exact hN
  refine k _ ((hc.mono (fun q k z => by unfold cpI at z; unfold snI; omega) (fun q k z => by unfold cpR at z; omega)).tr (c2.mono (fun q k z => by unfold snI; omega) (fun _ _ z => z.elim))) ?_ ⟨by rw [s_i_wi, if_pos ⟨rfl, rfl⟩], ?_⟩
  · exact WT.g (s := b + 18) hWd c2.x (by omega) (fun _ z => z)
  · exact StC.g (s := b + 18) hSd c2.x (by omega) (fun k _ _ => by omega) (fun k => by omega) (fun _ z => z)
theorem H_bringSnapshot_ok {b : Nat} {sp : Nat → List Nat} {w : Ws} {σ : St} {Q : St → Prop} (hX : XL b σ) (hN : b + 106 ≤ s_n σ) (hW : WT b (b + 18) σ) (hS : SnC b sp (some w) σ) (h5 : w.2.2.length ≤ 5) (k : ∀ σ', chg (cpI (b + 1)) (cpR (b + 1)) σ σ' → WT b (b + 1) σ' → StC b sp (b + 1) w σ' → Q σ') : P_H_bringSnapshot (b + 4) (some (b + 1)) σ Q := by
  refine ⟨hX.1.h, nn_mk (b + 1) rfl ?_⟩
  rw [hX.1.h1]
  exact S_copyFrom_ok (s := b + 18) hX hX.now (hX.past 4 (by decide)) hW hS.2 h5 (by omega) k
/-! which laws are in use -/
def refs (s len : Nat) (σ : St) : List (Option Nat) := (List.range len).map (fun i => s_r σ (s + 1) i)
theorem mem_refs {s len : Nat} {σ : St} {o : Option Nat} : o ∈ refs s len σ ↔ ∃ i, i < len ∧ s_r σ (s + 1) i = o := by
  unfold refs
  rw [List.mem_map]
  constructor
  · rintro ⟨i, hi, e⟩; exact ⟨i, List.mem_range.mp hi, e⟩
  · rintro ⟨i, hi, e⟩; exact ⟨i, List.mem_range.mpr hi, e⟩
def pastU (b r : Nat) (h : List Ws) (σ : St) : Nat → List (Option Nat)
  | 0 => []
  | k + 1 => pastU b r h σ k ++ refs (b + 6 + 3 * ((r + k) % 4)) (h.getD k wz).2.2.length σ
def snU (b : Nat) (o : Option Ws) (σ : St) : List (Option Nat) := match o with
  | none => []
  | some w => refs (b + 18) w.2.2.length σ
theorem pastU_len {b r : Nat} {h : List Ws} {σ : St} (h5 : ∀ w ∈ h, w.2.2.length ≤ 5) : ∀ k, k ≤ h.length → (pastU b r h σ k).length ≤ 5 * k
  | 0, _ => Nat.le_refl _
  | k + 1, hk => by
    have := pastU_len (b := b) (r := r) (σ := σ) h5 k (by omega)
    have h2 := h5 _ (getD_mem (show k < h.length by omega))
    unfold pastU
    rw [List.length_append]
    unfold refs
    rw [List.length_map, List.length_range]
    omega
theorem H_uses_ok {b : Nat} {sp : Nat → List Nat} {h : List Ws} {sn : Option Ws} {o : Option Nat} {σ : St} {Q : Int32 → St → Prop} (hX : XL b σ) (hH : HiC b sp h σ) (hl : h.length ≤ 4) (h5 : ∀ w ∈ h, w.2.2.length ≤ 5) (hS : SnC b sp sn σ) (hs5 : ∀ w, sn = some w → w.2.2.length ≤ 5)
    (k : ∀ r, r < 4 → (∀ k, k < 4 → s_r σ (b + 5) k = some (b + 6 + 3 * ((r + k) % 4))) → (∀ k, k < h.length → StC b sp (b + 6 + 3 * ((r + k) % 4)) (h.getD k wz) σ) → ∀ u : Bool, (u = true ↔ o ∈ pastU b r h σ h.length ++ snU b sn σ) → Q (bI u) σ) : P_H_uses (b + 4) o σ Q := by
  obtain ⟨h1, r, h2, h3, h4⟩ := hH
  have kk := k r h2 h3 h4
  refine ⟨hX.1.h, fun K2 hk2 => ?_⟩
  refine loopU (P := fun i s' => s' = σ ∧ o ∉ pastU b r h σ i) (G := fun i s' => K2 o (nI i) s') h.length ?_ ?_ 0 σ (Nat.zero_le _) ⟨rfl, by simp [pastU]⟩
  · rintro s' ⟨rfl, hn⟩
    refine hk2 _ _ _ (b_tt (by rw [h1]; exact nI_le (Nat.le_refl _) (by omega)) ?_)
    cases sn with
    | none =>
      have e : s_i s' (b + 4) 3 = nI 0 := hS
      rw [e]
      refine b_tt rfl (kk false ⟨fun z => (by cases z), fun z => ?_⟩)
      rcases List.mem_append.mp z with z | z
      · exact absurd z hn
      · simp [snU] at z
    | some w =>
      rw [hS.1]
      refine b_ff (by decide) (nn_mk (b + 18) hX.1.h1 (S_uses_ok (len := w.2.2.length) (hX.past 4 (by decide)) hS.2.1 (hs5 w rfl) (fun u hu => ?_)))
      have hu' : u = true ↔ o ∈ pastU b r h s' h.length ++ snU b (some w) s' := by
        rw [List.mem_append]
        unfold snU
        rw [mem_refs]
        constructor
        · intro z; exact Or.inr (hu.mp z)
        · rintro (z | z)
          · exact absurd z hn
          · exact hu.mpr z
      have := kk u hu'
      refine b_b u rfl (fun e => ?_) (fun e => ?_)
      · rw [e] at this; exact this
      · rw [e] at this; exact this
  · rintro i s' hi ⟨rfl, hn⟩ ih
    refine hk2 _ _ _ (b_ff (by rw [h1]; exact nI_ge hi (by omega)) (ar_mk (b + 5) 4 i hX.1.h0 hX.1.ha rfl (by omega) (by decide) (nn_mk (b + 6 + 3 * ((r + i) % 4)) (h3 i (by omega)) ?_)))
    refine S_uses_ok (len := (h.getD i wz).2.2.length) (hX.past _ (by omega)) (h4 i hi).1 (h5 _ (getD_mem hi)) (fun u hu => b_b u rfl (fun e => ?_) (fun e => ?_))
    · rw [nI_add]
      refine ih s' ⟨rfl, fun z => ?_⟩
      rcases List.mem_append.mp z with z | z
      · exact hn z
      · have := hu.mpr (mem_refs.mp z)
        rw [e] at this; cases this
    · refine kk true ⟨fun _ => ?_, fun _ => rfl⟩
      refine List.mem_append_left _ ?_
      have hm : o ∈ pastU b r h s' (i + 1) := List.mem_append_right _ (mem_refs.mpr (hu.mp e))
      have mono : ∀ j, i + 1 ≤ j → o ∈ pastU b r h s' j := by
        intro j hj
        induction hj with
        | refl => exact hm
        | step _ ih => exact List.mem_append_left _ ih
      exact mono _ hi
