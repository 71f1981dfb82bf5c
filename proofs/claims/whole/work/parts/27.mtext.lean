/-! The reference: texts. -/
def sd (s : Ps) : Nat := 33 * s.1.length + (if s.2.1 then 17 else 1)
def BG (f : Nat → Int32) : List Bool → Prop
  | [] => True
  | b :: r => f r.length = bI b ∧ BG f r
theorem BG.keep {f g : Nat → Int32} : ∀ {l : List Bool}, BG f l → (∀ k, k < l.length → g k = f k) → BG g l
  | [], _, _ => trivial
  | b :: r, h, e => ⟨(e r.length (by simp)).trans h.1, h.2.keep (fun k hk => e k (by simp; omega))⟩
def lz : Lw := ([], [])
def DoneAt (f : Nat → Int32) (L : List Lw) : Prop := ∀ j, j < L.length → LawAt f (33 * j) (true, L.getD j lz)
def MF (m : Nat) (s : Ps) (σ : St) : Prop :=
  (s_i σ m 18 = nI s.1.length ∧ s_i σ m 19 = nI (sd s)) ∧ s_i σ m 20 = nI s.2.2.2.2.1 ∧ s_i σ m 21 = nI (s.2.2.2.2.2.length - 1) ∧ BG (s_i σ (m + 14)) s.2.2.2.2.2 ∧ SideAt (s_i σ (m + 13)) (sd s) s.2.2.2.1 ∧ (s.2.1 = true → SideAt (s_i σ (m + 13)) (33 * s.1.length + 1) s.2.2.1) ∧ s_i σ (m + 13) (33 * s.1.length) = nI 1 ∧ DoneAt (s_i σ (m + 13)) s.1
def sdr (m p : Nat) : Nat → Nat → Prop := fun q k => q = m + 13 ∧ p ≤ k ∧ k < p + 16
def hpr (m p : Nat) : Nat → Nat → Prop := fun q k => (q = m + 13 ∧ p ≤ k ∧ k < p + 16) ∨ q = m + 14
def fl (m p : Nat) : Nat → Nat → Prop := fun q k => (q = m + 13 ∧ p ≤ k ∧ k < p + 16) ∨ q = m + 14 ∨ (q = m ∧ (k = 20 ∨ k = 21))
def flt (m : Nat) : Nat → Nat → Prop := fun q k => q = m + 13 ∨ q = m + 14 ∨ (q = m ∧ 18 ≤ k)
theorem lw_mem {L : List Lw} {j : Nat} (h : j < L.length) : L.getD j lz ∈ L := by
  rw [List.getD_eq_getElem?_getD, List.getElem?_eq_getElem h]
  exact List.getElem_mem h
theorem sd_le {s : Ps} {i : Nat} (g : PG s i) (hi : i ≤ 60) : 33 * s.1.length + 1 ≤ sd s ∧ sd s + 16 ≤ 660 ∧ sd s ≤ 33 * s.1.length + 17 := by
  have := g.2.2.2.2.2.2.2
  have h2 : 4 * s.1.length ≤ i := by omega
  unfold sd
  split <;> omega
theorem M_adds_ok {m p v : Nat} {cur : List Nat} {σ : St} {Q : St → Prop} (hL : ML m σ) (h19 : s_i σ m 19 = nI p) (hp : p + 16 ≤ 660) (hS : SideAt (s_i σ (m + 13)) p cur) (hc : cur.length ≤ 14) (k : ∀ σ', chg (sdr m p) no σ σ' → SideAt (s_i σ' (m + 13)) p (cur ++ [v]) → Q σ') : P_M_adds m (nI v) σ Q := by
  refine ⟨hL.s, ar_mk (m + 13) 660 p hL.r13 hL.a13 h19 (by omega) (by decide) (ar_mk (m + 13) 660 p hL.r13 hL.a13 h19 (by omega) (by decide) ?_)⟩
  rw [hS.1, nI_add]
  have g1 : chg (sdr m p) no σ (w_i σ (m + 13) p (nI (cur.length + 1))) := chg.rf.wi ⟨rfl, by omega, by omega⟩
  have l1 := hL.g g1
  have e19 : s_i (w_i σ (m + 13) p (nI (cur.length + 1))) m 19 = nI p := (g1.i (by unfold sdr; omega)).trans h19
  have ep : s_i (w_i σ (m + 13) p (nI (cur.length + 1))) (m + 13) p = nI (cur.length + 1) := by rw [s_i_wi, if_pos ⟨rfl, rfl⟩]
  refine ar_mk (m + 13) 660 p l1.r13 l1.a13 e19 (by omega) (by decide) (ar_mk (m + 13) 660 (p + (cur.length + 1)) l1.r13 l1.a13 (by rw [e19, ep, nI_add]) (by omega) (by decide) (k _ (g1.wi ⟨rfl, by omega, by omega⟩) ⟨?_, fun t ht => ?_⟩))
  · rw [s_i_wi, if_neg (fun z => by omega), ep, List.length_append]; rfl
  · rw [List.length_append, List.length_singleton] at ht
    rw [s_i_wi]
    by_cases et : t = cur.length
    · rw [if_pos ⟨rfl, by omega⟩, et]
      simp [List.getD_eq_getElem?_getD]
    · rw [if_neg (fun z => by omega), s_i_wi, if_neg (fun z => by omega), hS.2 t (by omega)]
      simp [List.getD_eq_getElem?_getD, List.getElem?_append_left (show t < cur.length by omega)]
theorem M_hasPart_ok {m p : Nat} {cur : List Nat} {bg : List Bool} {σ : St} {Q : St → Prop} (hL : ML m σ) (h19 : s_i σ m 19 = nI p) (hp : p + 16 ≤ 660) (hS : SideAt (s_i σ (m + 13)) p cur) (h21 : s_i σ m 21 = nI (bg.length - 1)) (hb : bg ≠ []) (hb4 : bg.length ≤ 4) (hB : BG (s_i σ (m + 14)) bg) (hc : bg.headD false = true → cur.length ≤ 14)
    (k : ∀ σ', chg (hpr m p) no σ σ' → SideAt (s_i σ' (m + 13)) p (epart cur bg).1 → BG (s_i σ' (m + 14)) (epart cur bg).2 → Q σ') : P_M_hasPart m σ Q := by
  match bg, hb, hb4, hB, hc, h21, k with
  | true :: r, _, hb4, hB, hc, h21, k =>
    have h21' : s_i σ m 21 = nI r.length := h21
    simp only [List.length_cons] at hb4
    refine ⟨hL.s, ar_mk (m + 14) 5 r.length hL.r14 hL.a14 h21' (by omega) (by decide) (b_tt hB.1 ?_)⟩
    refine M_adds_ok hL h19 hp hS (hc rfl) (fun σ1 h1 hS1 => ?_)
    have l1 := hL.g h1
    have e21 : s_i σ1 m 21 = nI r.length := (h1.i (by unfold sdr; omega)).trans h21'
    refine ar_mk (m + 14) 5 r.length l1.r14 l1.a14 e21 (by omega) (by decide) (k _ ((h1.up (fun q k z => Or.inl z)).wi (Or.inr rfl)) ?_ ⟨by rw [s_i_wi, if_pos ⟨rfl, rfl⟩]; rfl, ?_⟩)
    · refine ⟨?_, fun t ht => ?_⟩
      · rw [s_i_wi, if_neg (fun z => by omega)]; exact hS1.1
      · rw [s_i_wi, if_neg (fun z => by omega)]; exact hS1.2 t ht
    · refine hB.2.keep (fun t ht => ?_)
      rw [s_i_wi, if_neg (fun z => by omega)]
      exact h1.i (by unfold sdr; omega)
  | false :: r, _, hb4, hB, hc, h21, k =>
    have h21' : s_i σ m 21 = nI r.length := h21
    simp only [List.length_cons] at hb4
    refine ⟨hL.s, ar_mk (m + 14) 5 r.length hL.r14 hL.a14 h21' (by omega) (by decide) (b_ff (by rw [hB.1]; decide) (ar_mk (m + 14) 5 r.length hL.r14 hL.a14 h21' (by omega) (by decide) (k _ (chg.rf.wi (Or.inr rfl)) ?_ ⟨by rw [s_i_wi, if_pos ⟨rfl, rfl⟩]; rfl, ?_⟩)))⟩
    · refine ⟨?_, fun t ht => ?_⟩
      · rw [s_i_wi, if_neg (fun z => by omega)]; exact hS.1
      · rw [s_i_wi, if_neg (fun z => by omega)]; exact hS.2 t ht
    · refine hB.2.keep (fun t ht => ?_)
      rw [s_i_wi, if_neg (fun z => by omega)]
theorem MF.up {m i lets' : Nat} {cur' : List Nat} {bg' : List Bool} {s : Ps} {σ σ' : St} (h : MF m s σ) (g : PG s i) (c : chg (fl m (sd s)) no σ σ') (h20 : s_i σ' m 20 = nI lets') (h21 : s_i σ' m 21 = nI (bg'.length - 1)) (hB : BG (s_i σ' (m + 14)) bg') (hS : SideAt (s_i σ' (m + 13)) (sd s) cur') : MF m (s.1, s.2.1, s.2.2.1, cur', lets', bg') σ' := by
  obtain ⟨⟨a1, a2⟩, a3, a4, a5, a6, a7, a8, a9⟩ := h
  have hs : 33 * s.1.length + 1 ≤ sd s := by unfold sd; split <;> omega
  have hr : s.2.1 = true → sd s = 33 * s.1.length + 17 := fun z => by unfold sd; rw [z]; rfl
  refine ⟨⟨(c.i (by unfold fl; omega)).trans a1, (c.i (by unfold fl; omega)).trans a2⟩, h20, h21, hB, hS, fun z => ?_, Eq.trans (c.i (q := m + 13) (k := 33 * s.1.length) (by unfold fl; omega)) a8, fun j hj => ?_⟩
  · have e := hr z
    exact (a7 z).copy (g.2.2.2.2.2.2.1 z).2 (fun t ht => c.i (by unfold fl; omega))
  · have hj' : j < s.1.length := hj
    exact (a9 j hj).copy (g.2.2.2.2.2.1 _ (lw_mem hj)) (fun t ht => c.i (by unfold fl; omega))
theorem M_takesInSide_ok {m i ch : Nat} {s : Ps} {σ : St} {Q : Int32 → St → Prop} (hL : ML m σ) (h : MF m s σ) (g : PG s i) (hi : i ≤ 60) (hch : ch < 65536) (k0 : tis s ch = none → Q (nI 0) σ) (k1 : ∀ s' σ', tis s ch = some s' → chg (flt m) no σ σ' → MF m s' σ' → Q (nI 1) σ') : P_M_takesInSide m (nI ch) σ Q := by
  obtain ⟨hs1, hs2, hs3⟩ := sd_le g hi
  have hg := g
  obtain ⟨g1, g2, g3, g4, g5, g6, g7, g8⟩ := hg
  have hh := h
  obtain ⟨⟨a1, a2⟩, a3, a4, a5, a6, a7, a8, a9⟩ := hh
  have hb : s.2.2.2.2.2 ≠ [] := fun z => by rw [z] at g2; simp at g2
  have fu : ∀ q k, fl m (sd s) q k → flt m q k := fun q k z => by unfold fl at z; unfold flt; omega
  refine ⟨hL.s, M_in_ok (lo := (120 : Nat)) (hi := (122 : Nat)) rfl rfl ?_⟩
  rw [wthn_nI (by omega)]
  refine b_b _ rfl (fun e => ?_) (fun e => ?_)
  · have e' : ¬ (120 ≤ ch ∧ ch ≤ 122) := of_decide_eq_false e
    have et : tis s ch = (if ch = 40 then (if s.2.2.2.2.2.length < 4 then some (s.1, s.2.1, s.2.2.1, s.2.2.2.1, s.2.2.2.2.1, false :: s.2.2.2.2.2) else none) else if ch = 41 then (match s.2.2.2.2.2 with
      | true :: b2 :: r => some (s.1, s.2.1, s.2.2.1, (epart s.2.2.2.1 (b2 :: r)).1, s.2.2.2.2.1, (epart s.2.2.2.1 (b2 :: r)).2)
      | _ => none) else none) := by
      unfold tis
      rw [if_neg e']
      split <;> try rfl
    -- a closing bracket
    have cl : ch ≠ 40 → (nI ch = nI 41 → (s_i σ m 21 ≤ 0 → Q (nI 0) σ) ∧ (¬ s_i σ m 21 ≤ 0 → ar 0 σ (s_r σ m 22) (s_i σ m 21) (fun q3 j4 => ((s_i σ q3 j4) = (nI 1) → P_M_hasPart m (w_i σ m 21 ((s_i σ m 21) - (nI 1))) (fun σ5 => Q (nI 1) σ5)) ∧ (¬ (s_i σ q3 j4) = (nI 1) → Q (nI 0) σ)))) ∧ (¬ nI ch = nI 41 → Q (nI 0) σ) := by
      intro n40
      rw [if_neg n40] at et
      refine b_eq ch 41 rfl rfl (by omega) (by decide) (fun e1 => ?_) (fun e1 => ?_)
      · rw [if_pos e1] at et
        refine b_le (s.2.2.2.2.2.length - 1) 0 a4 nI_0.symm (by omega) (by decide) (fun e2 => ?_) (fun e2 => ?_)
        · refine k0 ?_
          rw [et]
          match hbg : s.2.2.2.2.2, hb with
          | [b], _ => rcases b <;> rfl
          | b1 :: b2 :: r, _ => rw [hbg] at e2; simp at e2
        · match hbg : s.2.2.2.2.2 with
          | [] => exact absurd hbg hb
          | [b] => rw [hbg] at e2; simp at e2
          | b1 :: b2 :: r =>
            rw [hbg] at et a4 a5 g2
            simp only [List.length_cons] at g2
            have a4' : s_i σ m 21 = nI (r.length + 1) := a4
            refine ar_mk (m + 14) 5 (r.length + 1) hL.r14 hL.a14 a4' (by omega) (by decide) ?_
            have a51 : s_i σ (m + 14) (r.length + 1) = bI b1 := a5.1
            rw [a51, a4', nI_sub (by omega), Nat.add_sub_cancel]
            match b1, et, a5, g3, g4 with
            | true, et, a5, g3, g4 =>
              refine b_tt rfl ?_
              have c1 : chg (fl m (sd s)) no σ (w_i σ m 21 (nI r.length)) := chg.rf.wi (Or.inr (Or.inr ⟨rfl, Or.inr rfl⟩))
              have l1 := hL.g c1
              have hcur : (b2 :: r).headD false = true → s.2.2.2.1.length ≤ 14 := by
                intro z
                have : b2 = true := z
                subst this
                rw [hbg] at g4
                simp [nt] at g4
                omega
              refine M_hasPart_ok (cur := s.2.2.2.1) (bg := b2 :: r) l1 ((c1.i (by unfold fl; omega)).trans a2) hs2 ?_ ?_ (by simp) (by simp; omega) ?_ hcur (fun σ2 c2 hS2 hB2 => ?_)
              · exact a6.copy g.cur (fun t ht => by rw [s_i_wi, if_neg (fun z => by omega)])
              · rw [s_i_wi, if_pos ⟨rfl, rfl⟩]; rfl
              · exact a5.2.keep (fun t ht => by rw [s_i_wi, if_neg (fun z => by omega)])
              · have c12 : chg (fl m (sd s)) no σ σ2 := c1.tr (c2.up (fun q k z => by unfold hpr at z; unfold fl; omega))
                have g2' : (epart s.2.2.2.1 (b2 :: r)).2.length = (b2 :: r).length := by cases b2 <;> rfl
                refine k1 _ σ2 et (c12.up fu) (h.up g c12 ?_ ?_ hB2 hS2)
                · rw [c2.i (by unfold hpr; omega), s_i_wi, if_neg (fun z => by omega)]; exact a3
                · rw [g2', c2.i (by unfold hpr; omega), s_i_wi, if_pos ⟨rfl, rfl⟩]; rfl
            | false, et, a5, g3, g4 =>
              exact b_ff (by decide) (k0 et)
      · rw [if_neg e1] at et
        exact k0 et
    refine b_eq ch 40 rfl rfl (by omega) (by decide) (fun e1 => ?_) (fun e1 => ?_)
    · rw [if_pos e1] at et
      refine b_le 3 (s.2.2.2.2.2.length - 1) rfl a4 (by decide) (by omega) (fun e2 => ?_) (fun e2 => ?_)
      · rw [if_neg (by omega)] at et
        refine b_ff ?_ (k0 et)
        rw [e1]; decide
      · rw [if_pos (by omega)] at et
        rw [a4, nI_add]
        have eb : s.2.2.2.2.2.length - 1 + 1 = s.2.2.2.2.2.length := by omega
        rw [eb]
        have c1 : chg (fl m (sd s)) no σ (w_i σ m 21 (nI s.2.2.2.2.2.length)) := chg.rf.wi (Or.inr (Or.inr ⟨rfl, Or.inr rfl⟩))
        have l1 := hL.g c1
        have e21 : s_i (w_i σ m 21 (nI s.2.2.2.2.2.length)) m 21 = nI s.2.2.2.2.2.length := by rw [s_i_wi, if_pos ⟨rfl, rfl⟩]
        refine ar_mk (m + 14) 5 s.2.2.2.2.2.length l1.r14 l1.a14 e21 (by omega) (by decide) ?_
        have c2 := c1.wi (q := m + 14) (k := s.2.2.2.2.2.length) (v := nI 0) (Or.inr (Or.inl rfl))
        refine k1 _ _ et (c2.up fu) (h.up g c2 ?_ ?_ ?_ ?_)
        · rw [s_i_wi, if_neg (fun z => by omega), s_i_wi, if_neg (fun z => by omega)]; exact a3
        · rw [s_i_wi, if_neg (fun z => by omega), e21, List.length_cons, Nat.add_sub_cancel]
        · refine ⟨by rw [s_i_wi, if_pos ⟨rfl, rfl⟩]; rfl, a5.keep (fun t ht => ?_)⟩
          rw [s_i_wi, if_neg (fun z => by omega), s_i_wi, if_neg (fun z => by omega)]
        · refine ⟨?_, fun t ht => ?_⟩
          · rw [s_i_wi, if_neg (fun z => by omega), s_i_wi, if_neg (fun z => by omega)]; exact a6.1
          · rw [s_i_wi, if_neg (fun z => by omega), s_i_wi, if_neg (fun z => by omega)]; exact a6.2 t ht
    · exact cl e1
  · have e' : 120 ≤ ch ∧ ch ≤ 122 := of_decide_eq_true e
    have et : tis s ch = (if s.2.2.2.2.1 < 8 then some (s.1, s.2.1, s.2.2.1, (epart (s.2.2.2.1 ++ [ch - 120]) s.2.2.2.2.2).1, s.2.2.2.2.1 + 1, (epart (s.2.2.2.1 ++ [ch - 120]) s.2.2.2.2.2).2) else none) := by
      unfold tis
      rw [if_pos e']
    refine b_eq s.2.2.2.2.1 8 a3 rfl (by omega) (by decide) (fun e2 => ?_) (fun e2 => ?_)
    · rw [if_neg (by omega)] at et
      exact k0 et
    · have h8 : s.2.2.2.2.1 < 8 := by omega
      rw [if_pos h8] at et
      rw [a3, nI_add, nI_sub (show 120 ≤ ch by omega)]
      have c1 : chg (fl m (sd s)) no σ (w_i σ m 20 (nI (s.2.2.2.2.1 + 1))) := chg.rf.wi (Or.inr (Or.inr ⟨rfl, Or.inl rfl⟩))
      have l1 := hL.g c1
      have hn := nt_le s.2.2.2.2.2
      have gl := g.letter e' h8
      have hcl : s.2.2.2.1.length ≤ 14 := by omega
      refine M_adds_ok (cur := s.2.2.2.1) l1 ((c1.i (by unfold fl; omega)).trans a2) hs2 (a6.copy (by omega) (fun t ht => by rw [s_i_wi, if_neg (fun z => by omega)])) hcl (fun σ2 c2 hS2 => ?_)
      have l2 := l1.g c2
      have e21 : s_i σ2 m 21 = nI (s.2.2.2.2.2.length - 1) := by
        rw [c2.i (by unfold sdr; omega), s_i_wi, if_neg (fun z => by omega)]; exact a4
      refine M_hasPart_ok (cur := s.2.2.2.1 ++ [ch - 120]) (bg := s.2.2.2.2.2) l2 ?_ hs2 hS2 e21 hb g2.2 ?_ ?_ (fun σ3 c3 hS3 hB3 => ?_)
      · rw [c2.i (by unfold sdr; omega), s_i_wi, if_neg (fun z => by omega)]; exact a2
      · refine a5.keep (fun t ht => ?_)
        rw [c2.i (by unfold sdr; omega), s_i_wi, if_neg (fun z => by omega)]
      · intro z
        rw [List.length_append, List.length_singleton]
        have : 1 ≤ nt s.2.2.2.2.2 := by
          match hbg : s.2.2.2.2.2 with
          | [] => exact absurd hbg hb
          | b :: r =>
            rw [hbg] at z
            have : b = true := z
            subst this
            simp [nt]
        omega
      · have c23 : chg (fl m (sd s)) no σ σ3 := (c1.tr (c2.up (fun q k z => by unfold sdr at z; unfold fl; omega))).tr (c3.up (fun q k z => by unfold hpr at z; unfold fl; omega))
        have g2' : (epart (s.2.2.2.1 ++ [ch - 120]) s.2.2.2.2.2).2.length = s.2.2.2.2.2.length := by
          match s.2.2.2.2.2, hb with
          | true :: r, _ => rfl
          | false :: r, _ => rfl
        refine k1 _ σ3 et (c23.up fu) (h.up g c23 ?_ ?_ hB3 hS3)
        · rw [c3.i (by unfold hpr; omega), c2.i (by unfold sdr; omega), s_i_wi, if_pos ⟨rfl, rfl⟩]
        · rw [g2', c3.i (by unfold hpr; omega)]; exact e21

def fb (m p : Nat) : Nat → Nat → Prop := fun q k => (q = m + 13 ∧ k = p) ∨ (q = m + 14 ∧ k = 0) ∨ (q = m ∧ (k = 19 ∨ k = 20 ∨ k = 21))
theorem M_beginsSide_ok {m p : Nat} {σ : St} {Q : St → Prop} (hL : ML m σ) (hp : p + 16 ≤ 660) (k : ∀ σ', chg (fb m p) no σ σ' → s_i σ' m 19 = nI p → s_i σ' m 20 = nI 0 → s_i σ' m 21 = nI 0 → s_i σ' (m + 14) 0 = nI 0 → s_i σ' (m + 13) p = nI 0 → Q σ') : P_M_beginsSide m (nI p) σ Q := by
  have c1 : chg (fb m p) no σ (w_i σ m 19 (nI p)) := chg.rf.wi (Or.inr (Or.inr ⟨rfl, Or.inl rfl⟩))
  have l1 := hL.g c1
  have c2 := c1.wi (q := m + 13) (k := p) (v := nI 0) (Or.inl ⟨rfl, rfl⟩)
  have c3 := c2.wi (q := m) (k := 20) (v := nI 0) (Or.inr (Or.inr ⟨rfl, Or.inr (Or.inl rfl)⟩))
  have c4 := c3.wi (q := m) (k := 21) (v := nI 0) (Or.inr (Or.inr ⟨rfl, Or.inr (Or.inr rfl)⟩))
  have l4 := hL.g c4
  have c5 := c4.wi (q := m + 14) (k := 0) (v := nI 0) (Or.inr (Or.inl ⟨rfl, rfl⟩))
  refine ⟨hL.s, ar_mk (m + 13) 660 p l1.r13 l1.a13 rfl (by omega) (by decide) (ar_mk (m + 14) 5 0 l4.r14 l4.a14 rfl (by decide) (by decide) (k _ c5 ?_ ?_ ?_ ?_ ?_))⟩
  · rw [s_i_wi, if_neg (fun z => by omega), s_i_wi, if_neg (fun z => by omega), s_i_wi, if_neg (fun z => by omega), s_i_wi, if_neg (fun z => by omega), s_i_wi, if_pos ⟨rfl, rfl⟩]
  · rw [s_i_wi, if_neg (fun z => by omega), s_i_wi, if_neg (fun z => by omega), s_i_wi, if_pos ⟨rfl, rfl⟩]
  · rw [s_i_wi, if_neg (fun z => by omega), s_i_wi, if_pos ⟨rfl, rfl⟩]
  · rw [s_i_wi, if_pos ⟨rfl, rfl⟩]
  · rw [s_i_wi, if_neg (fun z => by omega), s_i_wi, if_neg (fun z => by omega), s_i_wi, if_neg (fun z => by omega), s_i_wi, if_pos ⟨rfl, rfl⟩]
theorem M_isWhole_ok {m : Nat} {s : Ps} {i : Nat} {σ : St} {Q : Int32 → St → Prop} (hL : ML m σ) (h : MF m s σ) (g : PG s i) (k1 : s.2.2.2.2.2 = [true] → Q (nI 1) σ) (k0 : s.2.2.2.2.2 ≠ [true] → Q (nI 0) σ) : P_M_isWhole m σ Q := by
  obtain ⟨⟨a1, a2⟩, a3, a4, a5, a6, a7, a8, a9⟩ := h
  have g2 := g.2.1
  refine ⟨hL.s, ?_⟩
  match hbg : s.2.2.2.2.2 with
  | [] => rw [hbg] at g2; simp at g2
  | [b] =>
    rw [hbg] at a4 a5
    refine b_tt (a4.trans nI_0.symm) (ar_mk (m + 14) 5 0 hL.r14 hL.a14 rfl (by decide) (by decide) ?_)
    have e0 : s_i σ (m + 14) 0 = bI b := a5.1
    rw [e0]
    cases b with
    | true => exact b_tt rfl (k1 hbg)
    | false => exact b_ff (by decide) (k0 (by rw [hbg]; simp))
  | b :: b2 :: r =>
    rw [hbg] at a4 g2
    have a4' : s_i σ m 21 = nI (r.length + 1) := a4
    simp only [List.length_cons] at g2
    refine b_ff ?_ (k0 (by rw [hbg]; simp))
    rw [a4']
    exact nI_ne0 (by omega) (by omega)
theorem DoneAt.snoc {f : Nat → Int32} {L : List Lw} {w : Lw} (h : DoneAt f L) (hw : LawAt f (33 * L.length) (true, w)) : DoneAt f (L ++ [w]) := by
  intro j hj
  rw [List.length_append, List.length_singleton] at hj
  by_cases e : j = L.length
  · subst e
    have : (L ++ [w]).getD L.length lz = w := by simp [List.getD_eq_getElem?_getD]
    rw [this]; exact hw
  · have : (L ++ [w]).getD j lz = L.getD j lz := by simp [List.getD_eq_getElem?_getD, List.getElem?_append_left (show j < L.length by omega)]
    rw [this]; exact h j (by omega)
theorem flt_scr {m q k : Nat} (h : flt m q k) : scr m q k := by unfold flt at h; unfold scr; omega
theorem MT.g {m : Nat} {t : List Nat} {σ σ' : St} (h : MT m t σ) (c : chg (flt m) no σ σ') : MT m t σ' := by
  refine ⟨(c.i (by unfold flt; omega)).trans h.1, fun k hk => (c.i (by unfold flt; omega)).trans (h.2 k hk)⟩
theorem M_fault_ok {m : Nat} {t : List Nat} {σ : St} {Q : Int32 → St → Prop} (hL : ML m σ) (hT : MT m t σ) (ht : t.length ≤ 60) (hch : ∀ x ∈ t, x < 65536)
    (k0 : ∀ i σ', parse t = .inl i → chg (flt m) no σ σ' → Q (nI i) σ') (k1 : ∀ L σ', parse t = .inr L → chg (flt m) no σ σ' → s_i σ' m 18 = nI L.length → DoneAt (s_i σ' (m + 13)) L → Q (-5) σ') : P_M_fault m σ Q := by
  refine ⟨hL.s, fun K21 K72 h21 h72 => ?_⟩
  have key : ∀ (rest : List Nat) (i : Nat) (s : Ps) (σ' : St), chg (flt m) no σ σ' → i + rest.length = t.length → (∀ j, j < rest.length → t.getD (i + j) 0 = rest.getD j 0) → MF m s σ' → PG s i → parse t = pfin t.length (prun s i rest) → K21 (bI s.2.1) (nI i) σ' := by
    intro rest
    induction rest with
    | nil =>
      intro i s σ' hc hi hget hM hg hp
      simp at hi
      have hL' := hL.g hc
      have hT' := hT.g hc
      refine h21 _ _ _ (b_tt (by rw [hT'.1]; exact nI_le (by omega) (by omega)) ?_)
      have hp' : parse t = if s.2.1 = true ∧ s.2.2.2.2.2 = [true] then .inr (s.1 ++ [(s.2.2.1, s.2.2.2.1)]) else .inl t.length := hp
      refine b_b _ rfl (fun er => ?_) (fun er => ?_)
      · rw [if_neg (fun z => by rw [er] at z; cases z.1)] at hp'
        rw [hT'.1]
        exact k0 _ σ' hp' hc
      · refine M_isWhole_ok hL' hM hg (fun eb => ?_) (fun eb => ?_)
        · rw [if_pos ⟨er, eb⟩] at hp'
          refine b_ff (by decide) ?_
          obtain ⟨⟨a1, a2⟩, a3, a4, a5, a6, a7, a8, a9⟩ := hM
          have hl := hg.okL er eb
          have hlast := hl (s.2.2.1, s.2.2.2.1) (by simp)
          have hsd : sd s = 33 * s.1.length + 17 := by unfold sd; rw [er]; rfl
          refine k1 _ _ hp' (hc.wi (Or.inr (Or.inr ⟨rfl, by decide⟩))) ?_ ?_
          · rw [s_i_wi, if_pos ⟨rfl, rfl⟩, a1, nI_add, List.length_append]; rfl
          · have e : s_i (w_i σ' m 18 ((s_i σ' m 18) + (nI 1))) (m + 13) = s_i σ' (m + 13) := by
              funext q; rw [s_i_wi, if_neg (fun z => by omega)]
            rw [e]
            refine a9.snoc ⟨a8, a7 er, ?_⟩
            rw [hsd] at a6; exact a6
        · rw [if_neg (fun z => eb z.2)] at hp'
          refine b_tt rfl ?_
          rw [hT'.1]
          exact k0 _ σ' hp' hc
    | cons ch rest ih =>
      intro i s σ' hc hi hget hM hg hp
      simp at hi
      have hL' := hL.g hc
      have hT' := hT.g hc
      have eg : t.getD i 0 = ch := by simpa using hget 0 (by simp)
      have hmem : ch < 65536 := by rw [← eg]; exact hch _ (getD_memN (by omega))
      have hrest : ∀ j, j < rest.length → t.getD (i + 1 + j) 0 = rest.getD j 0 := fun j hj => by
        have := hget (j + 1) (by simp; omega)
        rw [show i + (j + 1) = i + 1 + j by omega] at this
        simpa using this
      rw [prun] at hp
      obtain ⟨hs1, hs2, hs3⟩ := sd_le hg (by omega)
      have hst : s_i σ' (m + 12) i = nI ch := by rw [hT'.2 i (by omega), eg]
      -- a character within a side
      have inside : ¬ (ch = 61 ∧ s.2.1 = false ∧ s.2.2.2.2.2 = [true]) → ¬ (ch = 59 ∧ s.2.1 = true ∧ s.2.2.2.2.2 = [true]) → P_M_takesInSide m (nI ch) σ' (fun r9 σ8 => (r9 = 0 → Q (nI i) σ8) ∧ (¬ r9 = 0 → K21 (bI s.2.1) (nI i + nI 1) σ8)) := by
        intro n1 n2
        rw [pstep_tis n1 n2] at hp
        refine M_takesInSide_ok hL' hM hg (by omega) hmem (fun en => ?_) (fun s2 σ2 es hc2 hM2 => ?_)
        · rw [en] at hp
          exact b_tt rfl (k0 i σ' hp hc)
        · rw [es] at hp
          refine b_ff (by decide) ?_
          rw [nI_add]
          have e1 : s2.2.1 = s.2.1 := by
            unfold tis at es
            split at es
            · split at es
              · cases es; rfl
              · cases es
            · split at es
              · split at es
                · cases es; rfl
                · cases es
              · split at es
                · split at es
                  · cases es; rfl
                  · cases es
                · cases es
          have := ih (i + 1) s2 σ2 (hc.tr hc2) (by omega) hrest hM2 (tis_PG hg es) hp
          rwa [e1] at this
      refine h21 _ _ _ (b_ff (by rw [hT'.1]; exact nI_ge (by omega) (by omega)) (ar_mk (m + 12) 60 i hL'.r12 hL'.a12 rfl (by omega) (by decide) ?_))
      rw [hst]
      refine b_b _ rfl (fun er => ?_) (fun er => ?_)
      · have n2 : ¬ (ch = 59 ∧ s.2.1 = true ∧ s.2.2.2.2.2 = [true]) := fun z => by rw [er] at z; cases z.2.1
        refine b_eq ch 61 rfl rfl (by omega) (by decide) (fun e61 => ?_) (fun e61 => ?_)
        · refine M_isWhole_ok hL' hM hg (fun eb => ?_) (fun eb => ?_)
          · -- the right side begins
            refine b_ff (by decide) ?_
            rw [e61, pstep_eq er eb] at hp
            obtain ⟨⟨a1, a2⟩, a3, a4, a5, a6, a7, a8, a9⟩ := hM
            rw [a1, nI_mul, nI_add, nI_add]
            have hsd : sd s = 33 * s.1.length + 1 := by unfold sd; rw [er]; rfl
            refine M_beginsSide_ok hL' (by omega) (fun σ2 hc2 b19 b20 b21 b14 b13 => ?_)
            have hcur := hg.cur
            refine ih (i + 1) (s.1, true, s.2.2.2.1, [], 0, [false]) σ2 (hc.tr (hc2.up (fun q k z => by unfold fb at z; unfold flt; omega))) (by omega) hrest ⟨⟨?_, b19⟩, b20, b21, ⟨b14, trivial⟩, ⟨b13, fun k hk => absurd hk (Nat.not_lt_zero k)⟩, fun _ => ?_, ?_, fun j hj => ?_⟩ (hg.equals er eb) hp
            · exact (hc2.i (by unfold fb; omega)).trans a1
            · show SideAt (s_i σ2 (m + 13)) (33 * s.1.length + 1) s.2.2.2.1
              rw [hsd] at a6
              exact a6.copy hcur (fun k hk => hc2.i (by unfold fb; omega))
            · exact Eq.trans (hc2.i (q := m + 13) (k := 33 * s.1.length) (by unfold fb; omega)) a8
            · have hj' : j < s.1.length := hj
              show LawAt _ (33 * j) (true, s.1.getD j lz)
              exact (a9 j hj).copy (hg.2.2.2.2.2.1 _ (lw_mem hj)) (fun k hk => hc2.i (by unfold fb; omega))
          · exact b_tt rfl (h72 _ _ _ _ (b_tt (by rw [er]; rfl) (inside (fun z => eb z.2.2) n2)))
        · exact h72 _ _ _ _ (b_tt (by rw [er]; rfl) (inside (fun z => e61 z.1) n2))
      · have n1 : ¬ (ch = 61 ∧ s.2.1 = false ∧ s.2.2.2.2.2 = [true]) := fun z => by rw [er] at z; cases z.2.1
        refine h72 _ _ _ _ (b_ff (by rw [er]; decide) ?_)
        refine b_eq ch 59 rfl rfl (by omega) (by decide) (fun e59 => ?_) (fun e59 => ?_)
        · refine M_isWhole_ok hL' hM hg (fun eb => ?_) (fun eb => ?_)
          · -- the next law begins
            refine b_ff (by decide) ?_
            rw [e59, pstep_sc er eb] at hp
            have hgn := hg.next er eb
            obtain ⟨⟨a1, a2⟩, a3, a4, a5, a6, a7, a8, a9⟩ := hM
            have hsd : sd s = 33 * s.1.length + 17 := by unfold sd; rw [er]; rfl
            have hd := hgn.2.2.2.2.2.2.2
            simp only [List.length_append, List.length_singleton] at hd
            have hd' : 4 * (s.1.length + 1) ≤ i + 1 := by omega
            rw [a1, nI_add]
            have c1 : chg (fun q k => q = m ∧ k = 18) no σ' (w_i σ' m 18 (nI (s.1.length + 1))) := chg.rf.wi ⟨rfl, rfl⟩
            have l1 := hL'.g c1
            have e18 : s_i (w_i σ' m 18 (nI (s.1.length + 1))) m 18 = nI (s.1.length + 1) := by rw [s_i_wi, if_pos ⟨rfl, rfl⟩]
            have c2 : chg (fun q k => (q = m ∧ k = 18) ∨ (q = m + 13 ∧ k = 33 * (s.1.length + 1))) no σ' (w_i (w_i σ' m 18 (nI (s.1.length + 1))) (m + 13) (33 * (s.1.length + 1)) (nI 1)) := (c1.up (fun q k z => Or.inl z)).wi (Or.inr ⟨rfl, rfl⟩)
            have l2 := hL'.g c2
            have e18' : s_i (w_i (w_i σ' m 18 (nI (s.1.length + 1))) (m + 13) (33 * (s.1.length + 1)) (nI 1)) m 18 = nI (s.1.length + 1) := by rw [s_i_wi, if_neg (fun z => by omega)]; exact e18
            refine ar_mk (m + 13) 660 (33 * (s.1.length + 1)) l1.r13 l1.a13 (by rw [e18, nI_mul]) (by omega) (by decide) ?_
            rw [e18', nI_mul, nI_add, nI_add]
            refine M_beginsSide_ok l2 (by omega) (fun σ2 hc2 b19 b20 b21 b14 b13 => ?_)
            have hcur := hg.cur
            have el : (s.1 ++ [(s.2.2.1, s.2.2.2.1)]).length = s.1.length + 1 := by simp
            have hlft := hg.2.2.2.2.2.2.1 er
            have hcc : chg (fun q k => q = m ∨ q = m + 14 ∨ (q = m + 13 ∧ 33 * s.1.length + 33 ≤ k)) no σ' σ2 := (c2.up (fun q k z => by omega)).tr (hc2.up (fun q k z => by unfold fb at z; omega))
            refine ih (i + 1) (s.1 ++ [(s.2.2.1, s.2.2.2.1)], false, [], [], 0, [false]) σ2 ((hc.tr (c2.up (fun q k z => by unfold flt; omega))).tr (hc2.up (fun q k z => by unfold fb at z; unfold flt; omega))) (by omega) hrest ⟨⟨?_, ?_⟩, b20, b21, ⟨b14, trivial⟩, ⟨?_, fun k hk => absurd hk (Nat.not_lt_zero k)⟩, fun z => (by cases z), ?_, ?_⟩ hgn hp
            · show s_i σ2 m 18 = nI (s.1 ++ _).length
              rw [el]
              exact (hc2.i (by unfold fb; omega)).trans e18'
            · show s_i σ2 m 19 = nI (33 * (s.1 ++ _).length + 1)
              rw [el]; exact b19
            · show s_i σ2 (m + 13) (33 * (s.1 ++ _).length + 1) = nI 0
              rw [el]; exact b13
            · show s_i σ2 (m + 13) (33 * (s.1 ++ _).length) = nI 1
              rw [el]
              rw [hc2.i (by unfold fb; omega), s_i_wi, if_pos ⟨rfl, rfl⟩]
            · show DoneAt _ (s.1 ++ [_])
              have ed : DoneAt (s_i σ2 (m + 13)) s.1 := fun j hj => (a9 j hj).copy (hg.2.2.2.2.2.1 _ (lw_mem hj)) (fun k hk => hcc.i (by omega))
              refine ed.snoc ⟨?_, ?_, ?_⟩
              · exact Eq.trans (hcc.i (q := m + 13) (k := 33 * s.1.length) (by omega)) a8
              · exact (a7 er).copy hlft.2 (fun k hk => hcc.i (by omega))
              · rw [hsd] at a6
                exact a6.copy hcur (fun k hk => hcc.i (by omega))
          · exact b_tt rfl (inside n1 (fun z => eb z.2.2))
        · exact inside n1 (fun z => e59 z.1)
  -- the beginning
  have c1 : chg (fun q k => q = m ∧ k = 18) no σ (w_i σ m 18 (nI 0)) := chg.rf.wi ⟨rfl, rfl⟩
  have l1 := hL.g c1
  have c2 : chg (fun q k => (q = m ∧ k = 18) ∨ (q = m + 13 ∧ k = 0)) no σ (w_i (w_i σ m 18 (nI 0)) (m + 13) 0 (nI 1)) := (c1.up (fun q k z => Or.inl z)).wi (Or.inr ⟨rfl, rfl⟩)
  refine ar_mk (m + 13) 660 0 l1.r13 l1.a13 rfl (by decide) (by decide) (M_beginsSide_ok (hL.g c2) (by decide) (fun σ2 hc2 b19 b20 b21 b14 b13 => ?_))
  refine key t 0 pinit σ2 ((c2.up (fun q k z => by unfold flt; omega)).tr (hc2.up (fun q k z => by unfold fb at z; unfold flt; omega))) (by omega) (fun j hj => by simp) ⟨⟨?_, b19⟩, b20, b21, ⟨b14, trivial⟩, ⟨b13, fun k hk => absurd hk (Nat.not_lt_zero k)⟩, fun z => (by cases z), ?_, fun j hj => absurd hj (Nat.not_lt_zero j)⟩ PG0 (parse_eq t)
  · rw [hc2.i (by unfold fb; omega), s_i_wi, if_neg (fun z => by omega), s_i_wi, if_pos ⟨rfl, rfl⟩]; rfl
  · show s_i σ2 (m + 13) 0 = nI 1
    rw [hc2.i (by unfold fb; omega), s_i_wi, if_pos ⟨rfl, rfl⟩]
