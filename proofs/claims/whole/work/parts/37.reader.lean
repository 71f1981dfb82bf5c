/-! The class: the reader. -/
def flat : List Lw → List Nat
  | [] => []
  | w :: r => (w.1 ++ w.2) ++ flat r
theorem flat_app : ∀ a c : List Lw, flat (a ++ c) = flat a ++ flat c
  | [], c => rfl
  | w :: a, c => by
    show (w.1 ++ w.2) ++ flat (a ++ c) = ((w.1 ++ w.2) ++ flat a) ++ flat c
    rw [flat_app a c]
    simp only [List.append_assoc]
theorem flat_one (w : Lw) : flat [w] = w.1 ++ w.2 := by simp [flat]
def ST (s : Ps) : List Nat := flat s.1 ++ (if s.2.1 then s.2.2.1 else []) ++ s.2.2.2.1
def StepsAt (d : Nat) (S : List Nat) (σ : St) : Prop := s_i σ d 4 = nI S.length ∧ ∀ k, k < S.length → s_i σ (d + 1) k = nI (S.getD k 0)
def EndsAt (d : Nat) (L : List Lw) (σ : St) : Prop := s_i σ d 1 = nI L.length ∧ ∀ j, j < L.length → s_i σ (d + 2) j = nI (flat (L.take (j + 1))).length
def DL (d : Nat) (σ : St) : Prop := s_s σ d = some (.inl 8) ∧ (s_s σ (d + 1) = some (.inr (0, 120)) ∧ s_r σ d 0 = some (d + 1)) ∧ (s_s σ (d + 2) = some (.inr (0, 60)) ∧ s_r σ d 2 = some (d + 2)) ∧ (s_s σ (d + 3) = some (.inr (1, 4)) ∧ s_r σ d 3 = some (d + 3))
theorem DL.s {d : Nat} {σ : St} (h : DL d σ) : s_s σ d = some (.inl 8) := h.1
theorem DL.a1 {d : Nat} {σ : St} (h : DL d σ) : s_s σ (d + 1) = some (.inr (0, 120)) := h.2.1.1
theorem DL.r1 {d : Nat} {σ : St} (h : DL d σ) : s_r σ d 0 = some (d + 1) := h.2.1.2
theorem DL.a2 {d : Nat} {σ : St} (h : DL d σ) : s_s σ (d + 2) = some (.inr (0, 60)) := h.2.2.1.1
theorem DL.r2 {d : Nat} {σ : St} (h : DL d σ) : s_r σ d 2 = some (d + 2) := h.2.2.1.2
theorem DL.a3 {d : Nat} {σ : St} (h : DL d σ) : s_s σ (d + 3) = some (.inr (1, 4)) := h.2.2.2.1
theorem DL.r3 {d : Nat} {σ : St} (h : DL d σ) : s_r σ d 3 = some (d + 3) := h.2.2.2.2
theorem DL.g {d : Nat} {SI : Nat → Nat → Prop} {σ σ' : St} (h : DL d σ) (c : chg SI no σ σ') : DL d σ' := by
  unfold DL at *
  simp only [c.s, show ∀ k, s_r σ' d k = s_r σ d k from fun k => c.r (fun z => z)]
  exact h
theorem XL.D {b : Nat} {σ : St} (h : XL b σ) : DL (b + 101) σ := ⟨h.1.d, ⟨h.1.da, h.1.d0⟩, ⟨h.1.db, h.1.d2⟩, h.1.dc, h.1.d3⟩
def DF (d : Nat) (s : Ps) (σ : St) : Prop := StepsAt d (ST s) σ ∧ EndsAt d s.1 σ ∧ s_i σ d 5 = nI (s.2.2.2.2.2.length - 1) ∧ BG (s_i σ (d + 3)) s.2.2.2.2.2 ∧ s_i σ d 6 = nI s.2.2.2.2.1 ∧ s_i σ d 7 = bI s.2.1
def rdr (d : Nat) : Nat → Nat → Prop := fun q _ => d ≤ q ∧ q ≤ d + 3
theorem D_addStep_ok {d v : Nat} {S : List Nat} {σ : St} {Q : St → Prop} (hL : DL d σ) (hS : StepsAt d S σ) (hl : S.length < 120) (k : ∀ σ', chg (fun q k => (q = d ∧ k = 4) ∨ q = d + 1) no σ σ' → StepsAt d (S ++ [v]) σ' → Q σ') : P_D_addStep d (nI v) σ Q := by
  refine ⟨hL.s, b_ff (by rw [hS.1]; exact nI_ge hl (by decide)) (ar_mk (d + 1) 120 S.length hL.r1 hL.a1 hS.1 hl (by decide) ?_)⟩
  have e4 : s_i (w_i σ (d + 1) S.length (nI v)) d 4 = nI S.length := by rw [s_i_wi, if_neg (fun z => by omega)]; exact hS.1
  rw [e4, nI_add]
  refine k _ ((chg.rf.wi (Or.inr rfl)).wi (Or.inl ⟨rfl, rfl⟩)) ⟨by rw [s_i_wi, if_pos ⟨rfl, rfl⟩, List.length_append]; rfl, fun j hj => ?_⟩
  rw [List.length_append, List.length_singleton] at hj
  rw [s_i_wi, if_neg (fun z => by omega), s_i_wi]
  by_cases e : j = S.length
  · rw [if_pos ⟨rfl, e⟩, e]
    simp [List.getD_eq_getElem?_getD]
  · rw [if_neg (fun z => e z.2), hS.2 j (by omega)]
    simp [List.getD_eq_getElem?_getD, List.getElem?_append_left (show j < S.length by omega)]
def ex3 (bg : List Bool) : List Nat := if bg.headD false then [3] else []
theorem epart_ex {cur : List Nat} {bg : List Bool} (hb : bg ≠ []) : (epart cur bg).1 = cur ++ ex3 bg := by
  match bg, hb with
  | true :: r, _ => rfl
  | false :: r, _ => simp [epart, ex3]
theorem D_endPart_ok {d : Nat} {S cur : List Nat} {bg : List Bool} {σ : St} {Q : St → Prop} (hL : DL d σ) (hS : StepsAt d S σ) (hl : S.length < 120) (h5 : s_i σ d 5 = nI (bg.length - 1)) (hb : bg ≠ []) (hb4 : bg.length ≤ 4) (hB : BG (s_i σ (d + 3)) bg) (k : ∀ σ', chg (fun q k => (q = d ∧ k = 4) ∨ q = d + 1 ∨ q = d + 3) no σ σ' → StepsAt d (S ++ ex3 bg) σ' → BG (s_i σ' (d + 3)) (epart cur bg).2 → Q σ') : P_D_endPart d σ Q := by
  match bg, hb, hb4, hB, h5, k with
  | true :: r, _, hb4, hB, h5, k =>
    have h5' : s_i σ d 5 = nI r.length := h5
    simp only [List.length_cons] at hb4
    refine ⟨hL.s, ar_mk (d + 3) 4 r.length hL.r3 hL.a3 h5' (by omega) (by decide) (b_ff (by rw [hB.1]; decide) ?_)⟩
    refine D_addStep_ok hL hS hl (fun σ1 c1 hS1 => ?_)
    have L1 := hL.g c1
    have e5 : s_i σ1 d 5 = nI r.length := (c1.i (by omega)).trans h5'
    have eb : vp_nar .boolean (nI 1) = bI true := nar_b true
    rw [eb]
    refine ar_mk (d + 3) 4 r.length L1.r3 L1.a3 e5 (by omega) (by decide) (k _ ((c1.up (fun q k z => by omega)).wi (Or.inr (Or.inr rfl))) ⟨?_, fun j hj => ?_⟩ ⟨?_, ?_⟩)
    · rw [s_i_wi, if_neg (fun z => by omega)]; exact hS1.1
    · rw [s_i_wi, if_neg (fun z => by omega)]; exact hS1.2 j hj
    · rw [s_i_wi, if_pos ⟨rfl, rfl⟩]
    · refine hB.2.keep (fun j hj => ?_)
      rw [s_i_wi, if_neg (fun z => by omega)]
      exact c1.i (by omega)
  | false :: r, _, hb4, hB, h5, k =>
    have h5' : s_i σ d 5 = nI r.length := h5
    simp only [List.length_cons] at hb4
    have eb : vp_nar .boolean (nI 1) = bI true := nar_b true
    have ee : S ++ ex3 (false :: r) = S := by simp [ex3]
    rw [ee] at k
    refine ⟨hL.s, ar_mk (d + 3) 4 r.length hL.r3 hL.a3 h5' (by omega) (by decide) (b_tt (by rw [hB.1]; rfl) (ar_mk (d + 3) 4 r.length hL.r3 hL.a3 h5' (by omega) (by decide) ?_))⟩
    rw [eb]
    refine k _ (chg.rf.wi (Or.inr (Or.inr rfl))) ⟨?_, fun j hj => ?_⟩ ⟨?_, ?_⟩
    · rw [s_i_wi, if_neg (fun z => by omega)]; exact hS.1
    · rw [s_i_wi, if_neg (fun z => by omega)]; exact hS.2 j hj
    · rw [s_i_wi, if_pos ⟨rfl, rfl⟩]
    · refine hB.2.keep (fun j hj => ?_)
      rw [s_i_wi, if_neg (fun z => by omega)]
theorem StepsAt.g {d : Nat} {S : List Nat} {SI : Nat → Nat → Prop} {σ σ' : St} (h : StepsAt d S σ) (c : chg SI no σ σ') (h1 : ¬ SI d 4) (h2 : ∀ k, ¬ SI (d + 1) k) : StepsAt d S σ' := ⟨(c.i h1).trans h.1, fun k hk => (c.i (h2 k)).trans (h.2 k hk)⟩
theorem EndsAt.g {d : Nat} {L : List Lw} {SI : Nat → Nat → Prop} {σ σ' : St} (h : EndsAt d L σ) (c : chg SI no σ σ') (h1 : ¬ SI d 1) (h2 : ∀ k, ¬ SI (d + 2) k) : EndsAt d L σ' := ⟨(c.i h1).trans h.1, fun k hk => (c.i (h2 k)).trans (h.2 k hk)⟩
theorem ST_cur (s : Ps) (x : List Nat) (l : Nat) (bg : List Bool) : ST (s.1, s.2.1, s.2.2.1, s.2.2.2.1 ++ x, l, bg) = ST s ++ x := by
  unfold ST
  rw [List.append_assoc, List.append_assoc, List.append_assoc]
theorem D_beginSide_ok {d : Nat} {v : Bool} {σ : St} {Q : St → Prop} (hL : DL d σ) (k : ∀ σ', chg (fun q k => (q = d ∧ (k = 6 ∨ k = 7)) ∨ q = d + 3) no σ σ' → s_i σ' d 7 = bI v → s_i σ' d 6 = nI 0 → s_i σ' (d + 3) 0 = bI false → Q σ') : P_D_beginSide d (bI v) σ Q := by
  have c1 : chg (fun q k => (q = d ∧ (k = 6 ∨ k = 7)) ∨ q = d + 3) no σ (w_i (w_i σ d 7 (bI v)) d 6 (nI 0)) := (chg.rf.wi (Or.inl ⟨rfl, Or.inr rfl⟩)).wi (Or.inl ⟨rfl, Or.inl rfl⟩)
  have L1 := hL.g c1
  have eb : vp_nar .boolean (nI 0) = bI false := nar_b false
  refine ⟨hL.s, bI_01 v, ar_mk (d + 3) 4 0 L1.r3 L1.a3 rfl (by decide) (by decide) ?_⟩
  rw [eb]
  refine k _ (c1.wi (Or.inr rfl)) ?_ ?_ ?_
  · rw [s_i_wi, if_neg (fun z => by omega), s_i_wi, if_neg (fun z => by omega), s_i_wi, if_pos ⟨rfl, rfl⟩]
  · rw [s_i_wi, if_neg (fun z => by omega), s_i_wi, if_pos ⟨rfl, rfl⟩]
  · rw [s_i_wi, if_pos ⟨rfl, rfl⟩]
theorem D_isSideWhole_ok {d i : Nat} {s : Ps} {σ : St} {Q : Int32 → St → Prop} (hL : DL d σ) (h : DF d s σ) (g : PG s i) (k1 : s.2.2.2.2.2 = [true] → Q (nI 1) σ) (k0 : s.2.2.2.2.2 ≠ [true] → Q (nI 0) σ) : P_D_isSideWhole d σ Q := by
  obtain ⟨a1, a2, a3, a4, a5, a6⟩ := h
  have g2 := g.2.1
  refine ⟨hL.s, ?_⟩
  match hbg : s.2.2.2.2.2 with
  | [] => rw [hbg] at g2; simp at g2
  | [v] =>
    rw [hbg] at a3 a4
    refine b_tt (a3.trans nI_0.symm) (ar_mk (d + 3) 4 0 hL.r3 hL.a3 rfl (by decide) (by decide) ?_)
    have e0 : s_i σ (d + 3) 0 = bI v := a4.1
    rw [e0]
    cases v with
    | true => exact b_ff (by decide) (k1 hbg)
    | false => exact b_tt rfl (k0 (by rw [hbg]; simp))
  | v :: v2 :: r =>
    rw [hbg] at a3 g2
    have a3' : s_i σ d 5 = nI (r.length + 1) := a3
    simp only [List.length_cons] at g2
    refine b_ff ?_ (k0 (by rw [hbg]; simp))
    rw [a3']
    exact nI_ne0 (by omega) (by omega)
theorem D_addLetter_ok {d i v : Nat} {s : Ps} {σ : St} {Q : Int32 → St → Prop} (hL : DL d σ) (h : DF d s σ) (g : PG s i) (hl : (ST s).length < 119) (k0 : ¬ s.2.2.2.2.1 < 8 → Q (nI 0) σ) (k1 : ∀ σ', s.2.2.2.2.1 < 8 → chg (rdr d) no σ σ' → DF d (s.1, s.2.1, s.2.2.1, (epart (s.2.2.2.1 ++ [v]) s.2.2.2.2.2).1, s.2.2.2.2.1 + 1, (epart (s.2.2.2.1 ++ [v]) s.2.2.2.2.2).2) σ' → Q (nI 1) σ') : P_D_addLetter d (nI v) σ Q := by
  obtain ⟨a1, a2, a3, a4, a5, a6⟩ := h
  obtain ⟨g1, g2, -⟩ := g
  have hb : s.2.2.2.2.2 ≠ [] := fun z => by rw [z] at g2; simp at g2
  refine ⟨hL.s, b_lt s.2.2.2.2.1 8 a5 rfl (by omega) (by decide) (fun e => ?_) (fun e => k0 (by omega))⟩
  rw [a5, nI_add]
  have c1 : chg (fun q k => q = d ∧ k = 6) no σ (w_i σ d 6 (nI (s.2.2.2.2.1 + 1))) := chg.rf.wi ⟨rfl, rfl⟩
  refine D_addStep_ok (hL.g c1) (a1.g c1 (by omega) (fun k => by omega)) (by omega) (fun σ2 c2 hS2 => ?_)
  have c12 := (c1.up (TI := rdr d) (fun q k z => by unfold rdr; omega)).tr (c2.up (fun q k z => by unfold rdr; omega))
  refine D_endPart_ok (cur := s.2.2.2.1 ++ [v]) (bg := s.2.2.2.2.2) (hL.g c12) hS2 (by rw [List.length_append, List.length_singleton]; omega) ?_ hb g2.2 ?_ (fun σ3 c3 hS3 hB3 => ?_)
  · rw [c2.i (by omega), c1.i (by omega)]; exact a3
  · refine a4.keep (fun j hj => ?_)
    rw [c2.i (by omega), c1.i (by omega)]
  · have c13 := c12.tr (c3.up (TI := rdr d) (fun q k z => by unfold rdr; omega))
    have g2' : (epart (s.2.2.2.1 ++ [v]) s.2.2.2.2.2).2.length = s.2.2.2.2.2.length := by
      match s.2.2.2.2.2, hb with
      | true :: r, _ => rfl
      | false :: r, _ => rfl
    refine k1 σ3 e c13 ⟨?_, ?_, ?_, hB3, ?_, ?_⟩
    · have : ST (s.1, s.2.1, s.2.2.1, (epart (s.2.2.2.1 ++ [v]) s.2.2.2.2.2).1, s.2.2.2.2.1 + 1, (epart (s.2.2.2.1 ++ [v]) s.2.2.2.2.2).2) = ST s ++ [v] ++ ex3 s.2.2.2.2.2 := by
        rw [epart_ex hb, List.append_assoc, ST_cur, List.append_assoc]
      rw [this]; exact hS3
    · exact ((a2.g c1 (by omega) (fun k => by omega)).g c2 (by omega) (fun k => by omega)).g c3 (by omega) (fun k => by omega)
    · show _ = nI ((epart _ _).2.length - 1)
      rw [g2', c3.i (by omega), c2.i (by omega), c1.i (by omega)]; exact a3
    · show _ = nI (s.2.2.2.2.1 + 1)
      rw [c3.i (by omega), c2.i (by omega), s_i_wi, if_pos ⟨rfl, rfl⟩]
    · rw [c3.i (by omega), c2.i (by omega), c1.i (by omega)]; exact a6
theorem D_openBracket_ok {d i : Nat} {s : Ps} {σ : St} {Q : Int32 → St → Prop} (hL : DL d σ) (h : DF d s σ) (g : PG s i) (k0 : ¬ s.2.2.2.2.2.length < 4 → Q (nI 0) σ) (k1 : ∀ σ', s.2.2.2.2.2.length < 4 → chg (rdr d) no σ σ' → DF d (s.1, s.2.1, s.2.2.1, s.2.2.2.1, s.2.2.2.2.1, false :: s.2.2.2.2.2) σ' → Q (nI 1) σ') : P_D_openBracket d σ Q := by
  obtain ⟨a1, a2, a3, a4, a5, a6⟩ := h
  obtain ⟨g1, g2, -⟩ := g
  refine ⟨hL.s, b_lt (s.2.2.2.2.2.length - 1) 3 a3 rfl (by omega) (by decide) (fun e => ?_) (fun e => k0 (by omega))⟩
  rw [a3, nI_add]
  have eb : s.2.2.2.2.2.length - 1 + 1 = s.2.2.2.2.2.length := by omega
  rw [eb]
  have c1 : chg (rdr d) no σ (w_i σ d 5 (nI s.2.2.2.2.2.length)) := chg.rf.wi (by unfold rdr; omega)
  have L1 := hL.g c1
  have ef : vp_nar .boolean (nI 0) = bI false := nar_b false
  refine ar_mk (d + 3) 4 s.2.2.2.2.2.length L1.r3 L1.a3 (by rw [s_i_wi, if_pos ⟨rfl, rfl⟩]) (by omega) (by decide) ?_
  rw [ef]
  have c2 : chg (fun q k => (q = d ∧ k = 5) ∨ (q = d + 3 ∧ k = s.2.2.2.2.2.length)) no σ (w_i (w_i σ d 5 (nI s.2.2.2.2.2.length)) (d + 3) s.2.2.2.2.2.length (bI false)) := (chg.rf.wi (Or.inl ⟨rfl, rfl⟩)).wi (Or.inr ⟨rfl, rfl⟩)
  refine k1 _ (by omega) (c2.up (fun q k z => by unfold rdr; omega)) ⟨?_, a2.g c2 (by omega) (fun k => by omega), ?_, ⟨?_, ?_⟩, ?_, ?_⟩
  · exact StepsAt.g (S := ST s) a1 c2 (by omega) (fun k => by omega)
  · rw [s_i_wi, if_neg (fun z => by omega), s_i_wi, if_pos ⟨rfl, rfl⟩, List.length_cons, Nat.add_sub_cancel]
  · rw [s_i_wi, if_pos ⟨rfl, rfl⟩]
  · exact a4.keep (fun j hj => c2.i (by omega))
  · exact (c2.i (by omega)).trans a5
  · exact (c2.i (by omega)).trans a6
theorem D_closeBracket_ok {d i : Nat} {s : Ps} {σ : St} {Q : Int32 → St → Prop} (hL : DL d σ) (h : DF d s σ) (g : PG s i) (hl : (ST s).length < 119) (k0 : (∀ b2 r, s.2.2.2.2.2 ≠ true :: b2 :: r) → Q (nI 0) σ) (k1 : ∀ b2 r σ', s.2.2.2.2.2 = true :: b2 :: r → chg (rdr d) no σ σ' → DF d (s.1, s.2.1, s.2.2.1, (epart s.2.2.2.1 (b2 :: r)).1, s.2.2.2.2.1, (epart s.2.2.2.1 (b2 :: r)).2) σ' → Q (nI 1) σ') : P_D_closeBracket d σ Q := by
  obtain ⟨a1, a2, a3, a4, a5, a6⟩ := h
  obtain ⟨g1, g2, -⟩ := g
  refine ⟨hL.s, b_le (s.2.2.2.2.2.length - 1) 0 a3 nI_0.symm (by omega) (by decide) (fun e => ?_) (fun e => ?_)⟩
  · refine k0 (fun b2 r z => ?_)
    rw [z] at e
    simp at e
  · match hbg : s.2.2.2.2.2 with
    | [] => rw [hbg] at g2; simp at g2
    | [v] => rw [hbg] at e; simp at e
    | b1 :: b2 :: r =>
      rw [hbg] at a3 a4 g2
      simp only [List.length_cons] at g2
      have a3' : s_i σ d 5 = nI (r.length + 1) := a3
      refine ar_mk (d + 3) 4 (r.length + 1) hL.r3 hL.a3 a3' (by omega) (by decide) ?_
      have a41 : s_i σ (d + 3) (r.length + 1) = bI b1 := a4.1
      rw [a41, a3', nI_sub (by omega), Nat.add_sub_cancel]
      match b1, a4, hbg with
      | false, a4, hbg =>
        refine b_tt rfl (k0 (fun b2 r z => ?_))
        rw [hbg] at z
        cases z
      | true, a4, hbg =>
        refine b_ff (by decide) ?_
        have c1 : chg (fun q k => q = d ∧ k = 5) no σ (w_i σ d 5 (nI r.length)) := chg.rf.wi ⟨rfl, rfl⟩
        refine D_endPart_ok (cur := s.2.2.2.1) (bg := b2 :: r) (hL.g c1) (a1.g c1 (by omega) (fun k => by omega)) (by omega) (by rw [s_i_wi, if_pos ⟨rfl, rfl⟩]; rfl) (by simp) (by simp; omega) (a4.2.keep (fun j hj => c1.i (by omega))) (fun σ2 c2 hS2 hB2 => ?_)
        have c12 := (c1.up (TI := rdr d) (fun q k z => by unfold rdr; omega)).tr (c2.up (fun q k z => by unfold rdr; omega))
        have g2' : (epart s.2.2.2.1 (b2 :: r)).2.length = (b2 :: r).length := by cases b2 <;> rfl
        refine k1 b2 r σ2 hbg c12 ⟨?_, ?_, ?_, hB2, ?_, ?_⟩
        · rw [epart_ex (by simp), ST_cur]; exact hS2
        · exact (a2.g c1 (by omega) (fun k => by omega)).g c2 (by omega) (fun k => by omega)
        · show _ = nI ((epart _ _).2.length - 1)
          rw [g2', c2.i (by omega), s_i_wi, if_pos ⟨rfl, rfl⟩]; rfl
        · rw [c2.i (by omega), c1.i (by omega)]; exact a5
        · rw [c2.i (by omega), c1.i (by omega)]; exact a6
theorem D_endLeft_ok {d i : Nat} {s : Ps} {σ : St} {Q : Int32 → St → Prop} (hL : DL d σ) (h : DF d s σ) (g : PG s i) (k0 : ¬ (s.2.1 = false ∧ s.2.2.2.2.2 = [true]) → Q (nI 0) σ) (k1 : ∀ σ', s.2.1 = false → s.2.2.2.2.2 = [true] → chg (rdr d) no σ σ' → DF d (s.1, true, s.2.2.2.1, [], 0, [false]) σ' → Q (nI 1) σ') : P_D_endLeft d σ Q := by
  refine ⟨hL.s, b_b s.2.1 h.2.2.2.2.2 (fun e => D_isSideWhole_ok hL h g (fun eb => b_ff (by decide) ?_) (fun eb => b_tt rfl (k0 (fun z => eb z.2)))) (fun e => k0 (fun z => by rw [e] at z; cases z.1))⟩
  obtain ⟨a1, a2, a3, a4, a5, a6⟩ := h
  refine D_beginSide_ok (v := true) hL (fun σ2 c b7 b6 b0 => k1 σ2 e eb (c.up (fun q k z => by unfold rdr; omega)) ⟨?_, a2.g c (by omega) (fun k => by omega), ?_, ⟨b0, trivial⟩, b6, b7⟩)
  · have es : ST (s.1, true, s.2.2.2.1, [], 0, [false]) = ST s := by
      unfold ST
      rw [e]
      simp
    rw [es]
    exact a1.g c (by omega) (fun k => by omega)
  · rw [c.i (by omega), a3, eb]; rfl
theorem D_endLaw_ok {d i : Nat} {s : Ps} {σ : St} {Q : Int32 → St → Prop} (hL : DL d σ) (h : DF d s σ) (g : PG s i) (hi : i ≤ 60) (k0 : ¬ (s.2.1 = true ∧ s.2.2.2.2.2 = [true]) → Q (nI 0) σ) (k1 : ∀ σ', s.2.1 = true → s.2.2.2.2.2 = [true] → chg (rdr d) no σ σ' → DF d (s.1 ++ [(s.2.2.1, s.2.2.2.1)], false, [], [], 0, [false]) σ' → Q (nI 1) σ') : P_D_endLaw d σ Q := by
  refine ⟨hL.s, b_b s.2.1 h.2.2.2.2.2 (fun e => k0 (fun z => by rw [e] at z; cases z.1)) (fun e => D_isSideWhole_ok hL h g (fun eb => b_ff (by decide) ?_) (fun eb => b_tt rfl (k0 (fun z => eb z.2))))⟩
  have h1 := g.one eb
  obtain ⟨a1, a2, a3, a4, a5, a6⟩ := h
  have hd := g.2.2.2.2.2.2.2
  rw [e, if_neg h1] at hd
  simp only [if_true] at hd
  have hdl : s.1.length < 60 := by omega
  refine al_mk (d + 2) 0 60 hL.r2 hL.a2 (b_lt s.1.length 60 a2.1 rfl (by omega) (by decide) (fun _ => ?_) (fun z => absurd hdl (by omega)))
  refine ar_mk (d + 2) 60 s.1.length hL.r2 hL.a2 a2.1 hdl (by decide) ?_
  have e1 : s_i (w_i σ (d + 2) s.1.length (s_i σ d 4)) d 1 = nI s.1.length := by rw [s_i_wi, if_neg (fun z => by omega)]; exact a2.1
  rw [e1, nI_add, a1.1]
  have c1 : chg (fun q k => (q = d ∧ k = 1) ∨ (q = d + 2 ∧ k = s.1.length)) no σ (w_i (w_i σ (d + 2) s.1.length (nI (ST s).length)) d 1 (nI (s.1.length + 1))) := (chg.rf.wi (Or.inr ⟨rfl, rfl⟩)).wi (Or.inl ⟨rfl, rfl⟩)
  refine D_beginSide_ok (v := false) (hL.g c1) (fun σ2 c b7 b6 b0 => ?_)
  have c12 := (c1.up (TI := rdr d) (fun q k z => by unfold rdr; omega)).tr (c.up (fun q k z => by unfold rdr; omega))
  have es : flat (s.1 ++ [(s.2.2.1, s.2.2.2.1)]) = ST s := by
    rw [flat_app, flat_one]
    unfold ST
    rw [e]
    simp
  refine k1 σ2 e eb c12 ⟨?_, ⟨?_, fun j hj => ?_⟩, ?_, ⟨b0, trivial⟩, b6, b7⟩
  · have es2 : ST (s.1 ++ [(s.2.2.1, s.2.2.2.1)], false, [], [], 0, [false]) = ST s := by
      rw [← es]
      simp [ST]
    rw [es2]
    exact (a1.g c1 (by omega) (fun k => by omega)).g c (by omega) (fun k => by omega)
  · show _ = nI (s.1 ++ _).length
    rw [c.i (by omega), s_i_wi, if_pos ⟨rfl, rfl⟩, List.length_append]; rfl
  · have hj' : j < s.1.length + 1 := by
      have : j < (s.1 ++ [(s.2.2.1, s.2.2.2.1)]).length := hj
      rwa [List.length_append] at this
    show _ = nI (flat ((s.1 ++ [(s.2.2.1, s.2.2.2.1)]).take (j + 1))).length
    rw [c.i (by omega), s_i_wi, if_neg (fun z => by omega), s_i_wi]
    by_cases ej : j = s.1.length
    · rw [if_pos ⟨rfl, ej⟩, ej, List.take_of_length_le (by simp), es]
    · rw [if_neg (fun z => ej z.2), List.take_append_of_le_length (by omega)]
      exact a2.2 j (by omega)
  · rw [c.i (by omega), s_i_wi, if_neg (fun z => by omega), s_i_wi, if_neg (fun z => by omega), a3, eb]; rfl

theorem D_accept_ok {d i ch : Nat} {s : Ps} {σ : St} {Q : Int32 → St → Prop} (hL : DL d σ) (h : DF d s σ) (g : PG s i) (hi : i ≤ 60) (hl : (ST s).length < 119) (hch : ch < 65536) (k0 : pstep s ch = none → Q (nI 0) σ) (k1 : ∀ s' σ', pstep s ch = some s' → chg (rdr d) no σ σ' → DF d s' σ' → (ST s').length ≤ (ST s).length + 2 → Q (nI 1) σ') : P_D_accept d (nI ch) σ Q := by
  have hb : s.2.2.2.2.2 ≠ [] := fun z => by have := g.2.1; rw [z] at this; simp at this
  have i0 : (nI 0 = 0 ∨ nI 0 = 1) := Or.inl rfl
  have i1 : (nI 1 = 0 ∨ nI 1 = 1) := Or.inr rfl
  have rest : ¬ (120 ≤ ch ∧ ch ≤ 122) → (nI ch = nI 40 → P_D_openBracket d σ (fun r8 σ7 => (r8 = 0 ∨ r8 = 1) ∧ Q r8 σ7)) ∧ (¬ nI ch = nI 40 → (nI ch = nI 41 → P_D_closeBracket d σ (fun r6 σ5 => (r6 = 0 ∨ r6 = 1) ∧ Q r6 σ5)) ∧ (¬ nI ch = nI 41 → (nI ch = nI 61 → P_D_endLeft d σ (fun r4 σ3 => (r4 = 0 ∨ r4 = 1) ∧ Q r4 σ3)) ∧ (¬ nI ch = nI 61 → (nI ch = nI 59 → P_D_endLaw d σ (fun r2 σ1 => (r2 = 0 → Q (nI 0) σ1) ∧ (¬ r2 = 0 → Q (nI 1) σ1))) ∧ (¬ nI ch = nI 59 → Q (nI 0) σ)))) := by
    intro hnl
    refine b_eq ch 40 rfl rfl (by omega) (by decide) (fun e => ?_) (fun e1 => b_eq ch 41 rfl rfl (by omega) (by decide) (fun e => ?_) (fun e2 => b_eq ch 61 rfl rfl (by omega) (by decide) (fun e => ?_) (fun e3 => b_eq ch 59 rfl rfl (by omega) (by decide) (fun e => ?_) (fun e4 => ?_))))
    · have ep : pstep s ch = (if s.2.2.2.2.2.length < 4 then some (s.1, s.2.1, s.2.2.1, s.2.2.2.1, s.2.2.2.2.1, false :: s.2.2.2.2.2) else none) := by
        unfold pstep
        rw [if_neg hnl, if_pos e]
      refine D_openBracket_ok hL h g (fun z => ?_) (fun σ' z c hD => ?_)
      · rw [if_neg z] at ep
        exact ⟨i0, k0 ep⟩
      · rw [if_pos z] at ep
        exact ⟨i1, k1 _ σ' ep c hD (Nat.le_add_right _ _)⟩
    · have ep : pstep s ch = (match s.2.2.2.2.2 with
        | true :: b2 :: r => some (s.1, s.2.1, s.2.2.1, (epart s.2.2.2.1 (b2 :: r)).1, s.2.2.2.2.1, (epart s.2.2.2.1 (b2 :: r)).2)
        | _ => none) := by
        unfold pstep
        rw [if_neg hnl, if_neg e1, if_pos e]
        generalize s.2.2.2.2.2 = bg
        rcases bg with _ | ⟨_ | _, _ | ⟨_, _⟩⟩ <;> rfl
      refine D_closeBracket_ok hL h g hl (fun z => ?_) (fun b2 r σ' z c hD => ?_)
      · refine ⟨i0, k0 ?_⟩
        rw [ep]
        match hbg : s.2.2.2.2.2 with
        | [] => rfl
        | [v] => rcases v <;> rfl
        | true :: b2 :: r => exact absurd hbg (z b2 r)
        | false :: b2 :: r => rfl
      · rw [z] at ep
        refine ⟨i1, k1 _ σ' ep c hD ?_⟩
        rw [epart_ex (by simp), ST_cur, List.length_append]
        unfold ex3
        split <;> simp
    · have ep : pstep s ch = (if s.2.1 = false ∧ s.2.2.2.2.2 = [true] then some (s.1, true, s.2.2.2.1, [], 0, [false]) else none) := by
        unfold pstep
        rw [if_neg hnl, if_neg e1, if_neg e2, if_pos e]
      refine D_endLeft_ok hL h g (fun z => ?_) (fun σ' z1 z2 c hD => ?_)
      · rw [if_neg z] at ep
        exact ⟨i0, k0 ep⟩
      · rw [if_pos ⟨z1, z2⟩] at ep
        refine ⟨i1, k1 _ σ' ep c hD ?_⟩
        unfold ST
        rw [z1]
        simp
    · have ep : pstep s ch = (if s.2.1 = true ∧ s.2.2.2.2.2 = [true] then some (s.1 ++ [(s.2.2.1, s.2.2.2.1)], false, [], [], 0, [false]) else none) := by
        unfold pstep
        rw [if_neg hnl, if_neg e1, if_neg e2, if_neg e3, if_pos e]
      refine D_endLaw_ok hL h g hi (fun z => ?_) (fun σ' z1 z2 c hD => ?_)
      · rw [if_neg z] at ep
        exact b_tt rfl (k0 ep)
      · rw [if_pos ⟨z1, z2⟩] at ep
        refine b_ff (by decide) (k1 _ σ' ep c hD ?_)
        unfold ST
        rw [z1, flat_app, flat_one]
        simp
    · have ep : pstep s ch = none := by
        unfold pstep
        rw [if_neg hnl, if_neg e1, if_neg e2, if_neg e3, if_neg e4]
      exact k0 ep
  refine ⟨hL.s, b_lt ch 120 rfl rfl (by omega) (by decide) (fun e => rest (by omega)) (fun e => b_lt 122 ch rfl rfl (by decide) (by omega) (fun f => rest (by omega)) (fun f => ?_))⟩
  rw [nI_sub e]
  have ep : pstep s ch = (if s.2.2.2.2.1 < 8 then some (s.1, s.2.1, s.2.2.1, (epart (s.2.2.2.1 ++ [ch - 120]) s.2.2.2.2.2).1, s.2.2.2.2.1 + 1, (epart (s.2.2.2.1 ++ [ch - 120]) s.2.2.2.2.2).2) else none) := by
    unfold pstep
    rw [if_pos ⟨e, f⟩]
  refine D_addLetter_ok hL h g hl (fun z => ?_) (fun σ' z c hD => ?_)
  · rw [if_neg z] at ep
    exact ⟨i0, k0 ep⟩
  · rw [if_pos z] at ep
    refine ⟨i1, k1 _ σ' ep c hD ?_⟩
    rw [epart_ex hb, List.append_assoc, ST_cur, List.length_append, List.length_append]
    unfold ex3
    split <;> simp
def RdC (d : Nat) (L : List Lw) (σ : St) : Prop := EndsAt d L σ ∧ ∀ k, k < (flat L).length → s_i σ (d + 1) k = nI ((flat L).getD k 0)
theorem D_read_ok {b : Nat} {t : List Nat} {σ : St} {Q : Int32 → St → Prop} (hX : XL b σ) (hT : TxC b t σ) (ht : t.length ≤ 60) (hch : ∀ x ∈ t, x < 65536)
    (k0 : ∀ i σ', parse t = .inl i → chg (rdr (b + 101)) no σ σ' → Q (nI i) σ') (k1 : ∀ L σ', parse t = .inr L → chg (rdr (b + 101)) no σ σ' → RdC (b + 101) L σ' → (flat L).length ≤ 120 → Q (-1) σ') : P_D_read (b + 101) (some (b + 105)) (nI t.length) σ Q := by
  have hL := hX.D
  refine ⟨hL.s, fun K22 h22 => ?_⟩
  have key : ∀ (rest : List Nat) (i : Nat) (s : Ps) (σ' : St), chg (rdr (b + 101)) no σ σ' → i + rest.length = t.length → (∀ j, j < rest.length → t.getD (i + j) 0 = rest.getD j 0) → DF (b + 101) s σ' → PG s i → (ST s).length ≤ 2 * i → parse t = pfin t.length (prun s i rest) → K22 (some (b + 105)) (nI t.length) (nI i) σ' := by
    intro rest
    induction rest with
    | nil =>
      intro i s σ' hc hi hget hD hg hs hp
      simp at hi
      have hL' := hL.g hc
      refine h22 _ _ _ _ (b_tt (nI_le (by omega) (by omega)) ?_)
      have hp' : parse t = if s.2.1 = true ∧ s.2.2.2.2.2 = [true] then .inr (s.1 ++ [(s.2.2.1, s.2.2.2.1)]) else .inl t.length := hp
      refine D_endLaw_ok hL' hD hg (by omega) (fun z => ?_) (fun σ2 z1 z2 c hD2 => ?_)
      · rw [if_neg z] at hp'
        exact b_tt rfl (k0 _ σ' hp' hc)
      · rw [if_pos ⟨z1, z2⟩] at hp'
        refine b_ff (by decide) ?_
        have es : ST (s.1 ++ [(s.2.2.1, s.2.2.2.1)], false, [], [], 0, [false]) = flat (s.1 ++ [(s.2.2.1, s.2.2.2.1)]) := by simp [ST]
        have es2 : flat (s.1 ++ [(s.2.2.1, s.2.2.2.1)]) = ST s := by
          rw [flat_app, flat_one]
          unfold ST
          rw [z1]
          simp
        obtain ⟨q1, q2, -⟩ := hD2
        rw [es] at q1
        exact k1 _ σ2 hp' (hc.tr c) ⟨q2, q1.2⟩ (by rw [es2]; omega)
    | cons ch rest ih =>
      intro i s σ' hc hi hget hD hg hs hp
      simp at hi
      have hL' := hL.g hc
      have eg : t.getD i 0 = ch := by simpa using hget 0 (by simp)
      have hmem : ch < 65536 := by rw [← eg]; exact hch _ (getD_memN (by omega))
      have hrest : ∀ j, j < rest.length → t.getD (i + 1 + j) 0 = rest.getD j 0 := fun j hj => by
        have := hget (j + 1) (by simp; omega)
        rw [show i + (j + 1) = i + 1 + j by omega] at this
        simpa using this
      have ea : s_s σ' (b + 105) = some (.inr (3, 60)) := by rw [hc.s]; exact hX.1.tx
      have hst : s_i σ' (b + 105) i = nI ch := by rw [hc.i (by unfold rdr; omega), hT.2 i (by omega), eg]
      rw [prun] at hp
      refine h22 _ _ _ _ (b_ff (nI_ge (by omega) (by omega)) (al_mk (b + 105) 3 60 rfl ea (b_ff (nI_ge (by omega) (by decide)) (ar_mk (b + 105) 60 i rfl ea rfl (by omega) (by decide) ?_))))
      rw [hst]
      refine D_accept_ok hL' hD hg (by omega) (by omega) hmem (fun en => ?_) (fun s2 σ2 es c hD2 hlen => ?_)
      · rw [en] at hp
        exact b_tt rfl (k0 i σ' hp hc)
      · rw [es] at hp
        refine b_ff (by decide) ?_
        rw [nI_add]
        exact ih (i + 1) s2 σ2 (hc.tr c) (by omega) hrest hD2 (pstep_PG hg es) (by omega) hp
  have c1 : chg (rdr (b + 101)) no σ (w_i (w_i (w_i σ (b + 101) 1 (nI 0)) (b + 101) 4 (nI 0)) (b + 101) 5 (nI 0)) := ((chg.rf.wi (by unfold rdr; omega)).wi (by unfold rdr; omega)).wi (by unfold rdr; omega)
  refine D_beginSide_ok (v := false) (hL.g c1) (fun σ2 c b7 b6 b0 => ?_)
  refine key t 0 pinit σ2 (c1.tr (c.up (fun q k z => by unfold rdr; omega))) (by omega) (fun j hj => by simp) ⟨⟨?_, fun k hk => absurd hk (Nat.not_lt_zero k)⟩, ⟨?_, fun j hj => absurd hj (Nat.not_lt_zero j)⟩, ?_, ⟨b0, trivial⟩, b6, b7⟩ PG0 (Nat.le_refl 0) (parse_eq t)
  · rw [c.i (by omega), s_i_wi, if_neg (fun z => by omega), s_i_wi, if_pos ⟨rfl, rfl⟩]; rfl
  · rw [c.i (by omega), s_i_wi, if_neg (fun z => by omega), s_i_wi, if_neg (fun z => by omega), s_i_wi, if_pos ⟨rfl, rfl⟩]; rfl
  · rw [c.i (by omega), s_i_wi, if_pos ⟨rfl, rfl⟩]; rfl
theorem D_lawEnd_ok {d i : Nat} {L : List Lw} {σ : St} {Q : Int32 → St → Prop} (hL : DL d σ) (h : EndsAt d L σ) (hl : L.length ≤ 60) (hi : i < L.length) (k : Q (nI (flat (L.take (i + 1))).length) σ) : P_D_lawEnd d (nI i) σ Q := by
  refine ⟨hL.s, b_lt i 0 rfl nI_0.symm (by omega) (by decide) (fun z => absurd z (Nat.not_lt_zero i)) (fun _ => b_ff (by rw [h.1]; exact nI_ge hi (by omega)) (ar_mk (d + 2) 60 i hL.r2 hL.a2 rfl (by omega) (by decide) ?_))⟩
  rw [h.2 i hi]; exact k
theorem D_lawStart_ok {d i : Nat} {L : List Lw} {σ : St} {Q : Int32 → St → Prop} (hL : DL d σ) (h : EndsAt d L σ) (hl : L.length ≤ 60) (hi : i < L.length) (k : Q (nI (flat (L.take i)).length) σ) : P_D_lawStart d (nI i) σ Q := by
  refine ⟨hL.s, b_lt 0 i nI_0.symm rfl (by decide) (by omega) (fun z => ?_) (fun z => ?_)⟩
  · rw [nI_sub z]
    refine D_lawEnd_ok hL h hl (by omega) ?_
    rw [show i - 1 + 1 = i by omega]; exact k
  · have : i = 0 := by omega
    subst this
    exact k
