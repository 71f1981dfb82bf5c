/-! The reference: how it is made. -/
theorem s_n_wn (σ : St) (sp : Shp) : s_n (w_new σ sp) = s_n σ + 1 := rfl
theorem s_s_wn (σ : St) (sp : Shp) (q : Nat) : s_s (w_new σ sp) q = if q = s_n σ then some sp else s_s σ q := rfl
theorem s_i_wn (σ : St) (sp : Shp) (q k : Nat) : s_i (w_new σ sp) q k = if q = s_n σ then 0 else s_i σ q k := rfl
theorem s_r_wn (σ : St) (sp : Shp) (q k : Nat) : s_r (w_new σ sp) q k = if q = s_n σ then none else s_r σ q k := rfl
theorem s_l_wn (σ : St) (sp : Shp) (q k : Nat) : s_l (w_new σ sp) q k = if q = s_n σ then 0 else s_l σ q k := rfl
/-- a cell is as it was -/
def same (σ σ' : St) (q : Nat) : Prop := s_s σ' q = s_s σ q ∧ (∀ k, s_i σ' q k = s_i σ q k) ∧ (∀ k, s_r σ' q k = s_r σ q k) ∧ ∀ k, s_l σ' q k = s_l σ q k
theorem same.rf {σ : St} {q : Nat} : same σ σ q := ⟨rfl, fun _ => rfl, fun _ => rfl, fun _ => rfl⟩
theorem same.tr {σ σ' σ'' : St} {q : Nat} (h : same σ σ' q) (k : same σ' σ'' q) : same σ σ'' q := ⟨k.1.trans h.1, fun j => (k.2.1 j).trans (h.2.1 j), fun j => (k.2.2.1 j).trans (h.2.2.1 j), fun j => (k.2.2.2 j).trans (h.2.2.2 j)⟩
theorem same.wn {σ : St} {sp : Shp} {q : Nat} (h : q < s_n σ) : same σ (w_new σ sp) q := by
  have hne : q ≠ s_n σ := by omega
  exact ⟨by rw [s_s_wn, if_neg hne], fun k => by rw [s_i_wn, if_neg hne], fun k => by rw [s_r_wn, if_neg hne], fun k => by rw [s_l_wn, if_neg hne]⟩
theorem same.wr {σ : St} {p j q : Nat} {v : Option Nat} (h : q ≠ p) : same σ (w_r σ p j v) q := ⟨rfl, fun _ => rfl, fun k => by rw [s_r_wr, if_neg (fun z => h z.1)], fun _ => rfl⟩
theorem same.wi {σ : St} {p j q : Nat} {v : Int32} (h : q ≠ p) : same σ (w_i σ p j v) q := ⟨rfl, fun k => by rw [s_i_wi, if_neg (fun z => h z.1)], fun _ => rfl, fun _ => rfl⟩
theorem same.chg {SI SR : Nat → Nat → Prop} {σ σ' : St} {q : Nat} (c : chg SI SR σ σ') (h : ∀ k, ¬ SI q k) (h2 : ∀ k, ¬ SR q k) : same σ σ' q := ⟨by rw [c.s], fun k => c.i (h k), fun k => c.r (h2 k), fun k => by rw [c.2.2.1]⟩
def szM (t : Nat) : Nat := ([176, 176, 704, 176, 3341, 5, 9, 16, 16705, 165, 12, 60, 660, 5] : List Nat).getD t 0
def fdM (t : Nat) : Nat := ([0, 1, 2, 4, 6, 7, 8, 9, 10, 11, 13, 15, 17, 22] : List Nat).getD t 0
def MA (m j : Nat) (σ σ' : St) : Prop := s_n σ' = m + 1 + j ∧ s_s σ' m = some (.inl 9) ∧ (∀ k, s_i σ' m k = s_i σ m k) ∧ (∀ q, q < m → same σ σ' q) ∧ ∀ t, t < j → s_s σ' (m + 1 + t) = some (.inr (0, szM t)) ∧ s_r σ' m (fdM t) = some (m + 1 + t) ∧ ∀ k, s_i σ' (m + 1 + t) k = 0
theorem fdM_inj : ∀ j, j < 14 → ∀ t, t < j → fdM t ≠ fdM j := by decide
theorem MA.step {m j : Nat} {σ σ' : St} (h : MA m j σ σ') (hj : j < 14) : MA m (j + 1) σ (w_r (w_new σ' (.inr (0, szM j))) m (fdM j) (some (s_n σ'))) := by
  obtain ⟨h1, h2, h3, h4, h5⟩ := h
  refine ⟨by rw [s_n_wr, s_n_wn, h1]; omega, ?_, fun k => ?_, fun q hq => ?_, fun t ht => ?_⟩
  · rw [s_s_wr, s_s_wn, if_neg (by omega)]; exact h2
  · rw [s_i_wr, s_i_wn, if_neg (by omega)]; exact h3 k
  · exact ((h4 q hq).tr (same.wn (by omega))).tr (same.wr (by omega))
  · by_cases e : t = j
    · subst e
      refine ⟨?_, ?_, fun k => ?_⟩
      · rw [s_s_wr, s_s_wn, if_pos (by omega)]
      · rw [s_r_wr, if_pos ⟨rfl, rfl⟩, h1]
      · rw [s_i_wr, s_i_wn, if_pos (by omega)]
    · obtain ⟨g1, g2, g3⟩ := h5 t (by omega)
      refine ⟨?_, ?_, fun k => ?_⟩
      · rw [s_s_wr, s_s_wn, if_neg (by omega)]; exact g1
      · rw [s_r_wr, if_neg (fun z => fdM_inj j hj t (by omega) z.2), s_r_wn, if_neg (by omega)]; exact g2
      · rw [s_i_wr, s_i_wn, if_neg (by omega)]; exact g3 k
theorem MA.L {m : Nat} {σ σ' : St} (h : MA m 14 σ σ') : ML m σ' := by
  obtain ⟨h1, h2, h3, h4, h5⟩ := h
  have g : ∀ t, t < 14 → s_s σ' (m + (t + 1)) = some (.inr (0, szM t)) ∧ s_r σ' m (fdM t) = some (m + (t + 1)) := fun t ht => by
    obtain ⟨a, b, -⟩ := h5 t ht
    rw [show m + (t + 1) = m + 1 + t by omega]
    exact ⟨a, b⟩
  exact ⟨h2, g 0 (by decide), g 1 (by decide), g 2 (by decide), g 3 (by decide), g 4 (by decide), g 5 (by decide), g 6 (by decide), g 7 (by decide), g 8 (by decide), g 9 (by decide), g 10 (by decide), g 11 (by decide), g 12 (by decide), g 13 (by decide)⟩
def a0 : As := ((2, 0, []), [], none, [])
theorem asok0 : asok a0 := by
  refine ⟨⟨⟨⟨by decide, by decide⟩, by decide⟩, by decide, fun x hx => by simp [a0] at hx⟩, ⟨by decide, fun x hx => by simp [a0] at hx⟩, fun w hw => by simp [a0] at hw, by decide, fun x hx => by simp [a0] at hx⟩
def ini (m : Nat) : Nat → Nat → Prop := fun q _ => q = m + 5 ∨ q = m + 6 ∨ q = m + 7
theorem M_init_ok {m mc ms : Nat} {σ : St} {Q : St → Prop} (hs : s_s σ m = some (.inl 9)) (hn : s_n σ = m + 1) (hz : ∀ k, s_i σ m k = 0) (hmc : 14 ≤ mc) (hms : 22210 ≤ ms) (k : ∀ σ', s_n σ' = m + 15 → (∀ q, q < m → same σ σ' q) → MI m σ' a0 → Q σ') : P_M_init m σ mc ms Q := by
  refine ⟨hs, fun K133 K147 h133 h147 => ?_⟩
  have fin : ∀ (σ1 : St) (ca cb : Nat), MA m 14 σ σ1 → ar 0 σ1 (s_r σ1 m 0) (nI 0) (fun q39 j40 => K133 (nI 0) (nI 1) (w_i σ1 q39 j40 (nI 2)) ca cb) := by
    intro σ1 ca cb A
    have hL := A.L
    obtain ⟨b1, b2, b3, b4, b5⟩ := A
    have z : ∀ t, t < 14 → ∀ k, s_i σ1 (m + 1 + t) k = 0 := fun t ht => (b5 t ht).2.2
    refine ar_mk (m + 1) 176 0 hL.r1 hL.a1 rfl (by decide) (by decide) ?_
    have c0 : chg (fun q k => q = m + 1 ∧ k = 0) no σ1 (w_i σ1 (m + 1) 0 (nI 2)) := chg.rf.wi ⟨rfl, rfl⟩
    obtain ⟨σ2, e2⟩ : ∃ σ2, σ2 = w_i σ1 (m + 1) 0 (nI 2) := ⟨_, rfl⟩
    rw [← e2] at c0 ⊢
    have hL2 := hL.g c0
    have e20 : s_i σ2 (m + 1) 0 = nI 2 := by rw [e2, s_i_wi, if_pos ⟨rfl, rfl⟩]
    have e2k : ∀ k, k ≠ 0 → s_i σ2 (m + 1) k = 0 := fun k hk => (c0.i (by omega)).trans (z 0 (by decide) k)
    -- by sizes
    refine loopU (P := fun i s' => chg (ini m) no σ2 s' ∧ (∀ w, w < fo (i + 1) → s_i s' (m + 5) w = nI (pwc w)) ∧ ∀ j, 1 ≤ j → j ≤ i → s_i s' (m + 6) j = nI (fo j)) (G := fun i s' => K133 (nI (fo (i + 1))) (nI (i + 1)) s' ca cb) 3 ?_ ?_ 0 σ2 (Nat.zero_le _) ⟨chg.rf, fun w hw => absurd hw (Nat.not_lt_zero w), fun j h1 h2 => by omega⟩
    · rintro s' ⟨hc, hw, hf⟩
      have hL' := hL2.g hc
      refine h133 _ _ _ _ _ (b_tt (nI_lt (by decide) (by decide)) (ar_mk (m + 6) 5 4 hL'.r6 hL'.a6 rfl (by decide) (by decide) ?_))
      have c4 := hc.wi (q := m + 6) (k := 4) (v := nI (fo 4)) (Or.inr (Or.inl rfl))
      have L4 := hL2.g c4
      have ez : ∀ q k, q ≠ m + 5 → q ≠ m + 6 → q ≠ m + 7 → s_i (w_i s' (m + 6) 4 (nI (fo 4))) q k = s_i σ2 q k := fun q k h1 h2 h3 => c4.i (by unfold ini; omega)
      have mz : ∀ k, s_i (w_i s' (m + 6) 4 (nI (fo 4))) m k = 0 := fun k => by
        rw [ez m k (by omega) (by omega) (by omega), c0.i (by omega), b3 k]
        exact hz k
      have g6 : ∀ j, 1 ≤ j → j ≤ 3 → s_i (w_i s' (m + 6) 4 (nI (fo 4))) (m + 6) j = nI (fo j) := fun j h1 h2 => by
        rw [s_i_wi, if_neg (fun z => by omega)]; exact hf j h1 h2
      refine k _ (by rw [s_n_wi, hc.n, c0.n, b1]) (fun q hq => ?_) ⟨L4, ⟨?_, ?_, ?_, fun i hi => absurd hi (Nat.not_lt_zero i)⟩, ⟨mz 3, fun j hj => absurd hj (Nat.not_lt_zero j)⟩, mz 5, ⟨mz 16, fun j hj => absurd hj (Nat.not_lt_zero j)⟩, ⟨fun w hw' => ?_, g6 1 (by decide) (by decide), g6 2 (by decide) (by decide), g6 3 (by decide) (by decide), by rw [s_i_wi, if_pos ⟨rfl, rfl⟩]; rfl⟩, ⟨0, Nat.zero_le _, mz 12, fun i hi => absurd hi (Nat.not_lt_zero i)⟩⟩
      · exact ((b4 q hq).tr (same.chg c0 (fun k => by omega) (fun k z => z))).tr (same.chg c4 (fun k => by unfold ini; omega) (fun k z => z))
      · exact (ez (m + 1) 0 (by omega) (by omega) (by omega)).trans e20
      · exact (ez (m + 1) 1 (by omega) (by omega) (by omega)).trans (e2k 1 (by decide))
      · exact (ez (m + 1) 2 (by omega) (by omega) (by omega)).trans (e2k 2 (by decide))
      · rw [s_i_wi, if_neg (fun z => by omega)]; exact hw w hw'
    · rintro i s' hi ⟨hc, hw, hf⟩ ih
      have hL' := hL2.g hc
      have hnok : nok (i + 1) := ⟨by omega, by omega⟩
      obtain ⟨f1, f2⟩ := fo_mono hnok
      refine h133 _ _ _ _ _ (b_ff (nI_nlt (by omega) (by decide)) (ar_mk (m + 6) 5 (i + 1) hL'.r6 hL'.a6 rfl (by omega) (by decide) ?_))
      have c1 := hc.wi (q := m + 6) (k := i + 1) (v := nI (fo (i + 1))) (Or.inr (Or.inl rfl))
      have hl := wc_le hnok
      refine loopU (P := fun c s2 => chg (ini m) no σ2 s2 ∧ (∀ w, w < fo (i + 1) + ct (isP (i + 1)) c → s_i s2 (m + 5) w = nI (pwc w)) ∧ ∀ j, 1 ≤ j → j ≤ i + 1 → s_i s2 (m + 6) j = nI (fo j)) (G := fun c s2 => K147 (nI (fo (i + 1) + ct (isP (i + 1)) c)) (nI (i + 1)) (nI c) s2 ca cb) ((i + 1) ^ ((i + 1) * (i + 1))) ?_ ?_ 0 _ (Nat.zero_le _) ⟨c1, fun w hw' => ?_, fun j h1 h2 => ?_⟩
      · rintro s2 ⟨hc2, hw2, hf2⟩
        refine h147 _ _ _ _ _ _ (M_codes_ok hnok (b_tt (nI_le (Nat.le_refl _) (by omega)) ?_))
        rw [cnt_n hnok] at hw2 ⊢
        rw [nI_add]
        exact ih s2 ⟨hc2, hw2, hf2⟩
      · rintro c s2 hc' ⟨hc2, hw2, hf2⟩ ih2
        have L2 := hL2.g hc2
        have hwok : wok (i + 1) c := ⟨hnok, hc'⟩
        refine h147 _ _ _ _ _ _ (M_codes_ok hnok (b_ff (nI_ge hc' (by omega)) (M_plainOf_ok L2 hwok (fun s3 hc3 _ => ?_))))
        have hp := plain_le_self hwok
        have hc23 : chg (ini m) no σ2 s3 := hc2.tr (hc3.up (fun q k z => Or.inr (Or.inr z)))
        have hw3 : ∀ w, w < fo (i + 1) + ct (isP (i + 1)) c → s_i s3 (m + 5) w = nI (pwc w) := fun w hw' => by
          rw [hc3.i (by unfold tab; omega)]; exact hw2 w hw'
        have hf3 : ∀ j, 1 ≤ j → j ≤ i + 1 → s_i s3 (m + 6) j = nI (fo j) := fun j h1 h2 => by
          rw [hc3.i (by unfold tab; omega)]; exact hf2 j h1 h2
        have L3 := hL2.g hc23
        have hct : ct (isP (i + 1)) (c + 1) = ct (isP (i + 1)) c + (if isP (i + 1) c then 1 else 0) := rfl
        refine b_eq (plain (i + 1) c) c rfl rfl (by omega) (by omega) (fun e => ?_) (fun e => ?_)
        · have hP : isP (i + 1) c = true := by unfold isP; rw [e]; simp
          rw [hP, if_pos rfl] at hct
          obtain ⟨p1, p2⟩ := pidx_lt hwok hP
          have hpe : pidx (i + 1) c = fo (i + 1) + ct (isP (i + 1)) c := rfl
          refine ar_mk (m + 5) 3341 (fo (i + 1) + ct (isP (i + 1)) c) L3.r5 L3.a5 rfl (by omega) (by decide) ?_
          rw [nI_add, nI_add, Nat.add_assoc, ← hct]
          refine ih2 _ ⟨hc23.wi (Or.inl rfl), fun w hw' => ?_, fun j h1 h2 => ?_⟩
          · rw [s_i_wi]
            by_cases ew : w = fo (i + 1) + ct (isP (i + 1)) c
            · rw [if_pos ⟨rfl, ew⟩, ew, ← hpe, pwc_pidx hwok hP]
            · rw [if_neg (fun z => ew z.2)]
              exact hw3 w (by omega)
          · rw [s_i_wi, if_neg (fun z => by omega)]; exact hf3 j h1 h2
        · have hP : isP (i + 1) c = false := by unfold isP; simpa using e
          rw [hP] at hct
          have hct' : ct (isP (i + 1)) (c + 1) = ct (isP (i + 1)) c := hct
          have := ih2 s3 ⟨hc23, by rw [hct']; exact hw3, hf3⟩
          rw [hct'] at this
          rw [nI_add]
          exact this
      · rw [s_i_wi, if_neg (fun z => by omega)]
        exact hw w hw'
      · rw [s_i_wi]
        by_cases ej : j = i + 1
        · rw [if_pos ⟨rfl, ej⟩, ej]
        · rw [if_neg (fun z => ej z.2)]
          exact hf j h1 (by omega)
  have A0 : MA m 0 σ σ := ⟨hn, hs, fun _ => rfl, fun _ _ => same.rf, fun t ht => absurd ht (Nat.not_lt_zero t)⟩
  refine ⟨by omega, by omega, nw_mk ?_⟩
  have A1 := A0.step (by decide)
  refine ⟨by omega, by omega, nw_mk ?_⟩
  have A2 := A1.step (by decide)
  refine ⟨by omega, by omega, nw_mk ?_⟩
  have A3 := A2.step (by decide)
  refine ⟨by omega, by omega, nw_mk ?_⟩
  have A4 := A3.step (by decide)
  refine ⟨by omega, by omega, nw_mk ?_⟩
  have A5 := A4.step (by decide)
  refine ⟨by omega, by omega, nw_mk ?_⟩
  have A6 := A5.step (by decide)
  refine ⟨by omega, by omega, nw_mk ?_⟩
  have A7 := A6.step (by decide)
  refine ⟨by omega, by omega, nw_mk ?_⟩
  have A8 := A7.step (by decide)
  refine ⟨by omega, by omega, nw_mk ?_⟩
  have A9 := A8.step (by decide)
  refine ⟨by omega, by omega, nw_mk ?_⟩
  have A10 := A9.step (by decide)
  refine ⟨by omega, by omega, nw_mk ?_⟩
  have A11 := A10.step (by decide)
  refine ⟨by omega, by omega, nw_mk ?_⟩
  have A12 := A11.step (by decide)
  refine ⟨by omega, by omega, nw_mk ?_⟩
  have A13 := A12.step (by decide)
  refine ⟨by omega, by omega, nw_mk ?_⟩
  have A14 := A13.step (by decide)
  exact fin _ _ _ A14
