/-! The class: how it is made. -/
/-- a state that is fresh -/
def SF (s : Nat) (σ : St) : Prop := SLt s σ ∧ (∀ k, k ≠ 3 → s_i σ s k = 0) ∧ s_i σ s 3 = nI 2 ∧ (∀ k, s_r σ (s + 1) k = none) ∧ ∀ k, s_i σ (s + 2) k = 0
theorem SF.g {s : Nat} {σ σ' : St} (h : SF s σ) (c : ∀ q, s ≤ q → q ≤ s + 2 → same σ σ' q) : SF s σ' := by
  obtain ⟨⟨h1, ⟨h2, h3⟩, h4, h5⟩, h6, h7, h8, h9⟩ := h
  have c0 := c s (by omega) (by omega)
  have c1 := c (s + 1) (by omega) (by omega)
  have c2 := c (s + 2) (by omega) (by omega)
  exact ⟨⟨c0.1.trans h1, ⟨c1.1.trans h2, (c0.2.2.1 0).trans h3⟩, c2.1.trans h4, (c0.2.2.1 1).trans h5⟩, fun k hk => (c0.2.1 k).trans (h6 k hk), (c0.2.1 3).trans h7, fun k => (c1.2.2.1 k).trans (h8 k), fun k => (c2.2.1 k).trans (h9 k)⟩
theorem S_init_ok {b mc ms : Nat} {σ : St} {Q : St → Prop} (hs : s_s σ b = some (.inl 1)) (hn : s_n σ = b + 1) (hz : ∀ k, s_i σ b k = 0) (hmc : 2 ≤ mc) (hms : 10 ≤ ms) (k : ∀ σ', s_n σ' = b + 3 → (∀ q, q < b → same σ σ' q) → SF b σ' → Q σ') : P_S_init b σ mc ms Q := by
  refine ⟨hs, by omega, by omega, nw_mk ⟨by omega, by omega, nw_mk (k _ ?_ (fun q hq => ?_) ⟨⟨?_, ⟨?_, ?_⟩, ?_, ?_⟩, fun k hk => ?_, ?_, fun k => ?_, fun k => ?_⟩)⟩⟩
  · simp only [s_n_wi, s_n_wr, s_n_wn, hn]
  · exact ((((same.wn (by omega)).tr (same.wr (by omega))).tr (same.wn (by rw [s_n_wr, s_n_wn]; omega))).tr (same.wr (by omega))).tr (same.wi (by omega))
  all_goals simp [s_n_wi, s_n_wr, s_n_wn, s_s_wi, s_s_wr, s_s_wn, s_i_wr, s_i_wi, s_i_wn, s_r_wi, s_r_wr, s_r_wn, hn, hs, hz, Nat.add_assoc]
  · intro h3
    exact absurd h3 hk
theorem S_make {p A B mc ms : Nat} {σ : St} {R : Nat → St → Nat → Nat → Prop} (hn : s_n σ = p) (hA : A + 2 ≤ mc) (hB : B + 10 ≤ ms) (k : ∀ σ', s_n σ' = p + 3 → (∀ q, q < p → same σ σ' q) → SF p σ' → R p σ' 2 10) : nw σ (.inl 1) (fun q3 σ4 => ∃ c5 d6, A + c5 ≤ mc ∧ B + d6 ≤ ms ∧ (P_S_init q3 σ4 c5 d6 (fun σ7 => R q3 σ7 c5 d6))) := by
  subst hn
  refine nw_mk ⟨2, 10, hA, hB, S_init_ok (by rw [s_s_wn, if_pos rfl]) (by rw [s_n_wn]) (fun k => by rw [s_i_wn, if_pos rfl]) (Nat.le_refl _) (Nat.le_refl _) (fun σ' h1 h2 h3 => k σ' h1 (fun q hq => (same.wn hq).tr (h2 q hq)) h3)⟩
def HP (b t : Nat) (σ0 σ : St) : Prop := s_n σ = b + 2 + 3 * t ∧ s_s σ b = some (.inl 2) ∧ (∀ k, s_i σ b k = 0) ∧ s_s σ (b + 1) = some (.inr (6, 4)) ∧ (∀ u, u < t → s_r σ (b + 1) u = some (b + 2 + 3 * u) ∧ SF (b + 2 + 3 * u) σ) ∧ ∀ q, q < b → same σ0 σ q
theorem HP.step {b t A B mc ms : Nat} {σ0 σ : St} {R : Nat → St → Nat → Nat → Nat → Nat → Prop} (h : HP b t σ0 σ) (ht : t < 4) (hA : A + 2 ≤ mc) (hB : B + 10 ≤ ms) (k : ∀ σ7, HP b (t + 1) σ0 (w_r σ7 (b + 1) t (some (b + 2 + 3 * t))) → R (b + 2 + 3 * t) σ7 (b + 1) t 2 10) : nw σ (.inl 1) (fun q3 σ4 => ∃ c5 d6, A + c5 ≤ mc ∧ B + d6 ≤ ms ∧ (P_S_init q3 σ4 c5 d6 (fun σ7 => ar 6 σ7 (some (b + 1)) (nI t) (fun q8 j9 => (∀ y, some q3 = some y → s_s σ7 y = some (.inl (cix 6))) ∧ R q3 σ7 q8 j9 c5 d6)))) := by
  obtain ⟨h1, h2, h3, h4, h5, h6⟩ := h
  refine S_make h1 hA hB (fun σ7 g1 g2 g3 => ?_)
  have gb := g2 b (by omega)
  have gb1 := g2 (b + 1) (by omega)
  refine ar_mk (b + 1) 4 t rfl (gb1.1.trans h4) rfl ht (by decide) ⟨fun y hy => ?_, k σ7 ⟨by rw [s_n_wr, g1]; omega, gb.1.trans h2, fun k => (gb.2.1 k).trans (h3 k), gb1.1.trans h4, fun u hu => ?_, fun q hq => ((h6 q hq).tr (g2 q (by omega))).tr (same.wr (by omega))⟩⟩
  · cases hy
    exact g3.1.s
  · by_cases e : u = t
    · subst e
      exact ⟨by rw [s_r_wr, if_pos ⟨rfl, rfl⟩], g3.g (fun q h1 h2 => same.wr (by omega))⟩
    · obtain ⟨p1, p2⟩ := h5 u (by omega)
      exact ⟨by rw [s_r_wr, if_neg (fun z => e z.2)]; exact (gb1.2.2.1 u).trans p1, (p2.g (fun q h1 h2 => g2 q (by omega))).g (fun q h1 h2 => same.wr (by omega))⟩
def HF (b : Nat) (σ : St) : Prop := s_s σ b = some (.inl 2) ∧ s_r σ b 0 = some (b + 1) ∧ s_r σ b 1 = some (b + 14) ∧ (∀ k, s_i σ b k = 0) ∧ s_s σ (b + 1) = some (.inr (6, 4)) ∧ (∀ u, u < 4 → s_r σ (b + 1) u = some (b + 2 + 3 * u)) ∧ ∀ u, u < 5 → SF (b + 2 + 3 * u) σ
theorem HF.g {b : Nat} {σ σ' : St} (h : HF b σ) (c : ∀ q, b ≤ q → q ≤ b + 16 → same σ σ' q) : HF b σ' := by
  obtain ⟨h1, h2, h3, h4, h5, h6, h7⟩ := h
  have c0 := c b (by omega) (by omega)
  have c1 := c (b + 1) (by omega) (by omega)
  exact ⟨c0.1.trans h1, (c0.2.2.1 0).trans h2, (c0.2.2.1 1).trans h3, fun k => (c0.2.1 k).trans (h4 k), c1.1.trans h5, fun u hu => (c1.2.2.1 u).trans (h6 u hu), fun u hu => (h7 u hu).g (fun q h1 h2 => c q (by omega) (by omega))⟩
theorem H_init_ok {b mc ms : Nat} {σ : St} {Q : St → Prop} (hs : s_s σ b = some (.inl 2)) (hn : s_n σ = b + 1) (hz : ∀ k, s_i σ b k = 0) (hmc : 16 ≤ mc) (hms : 79 ≤ ms) (k : ∀ σ', s_n σ' = b + 17 → (∀ q, q < b → same σ σ' q) → HF b σ' → Q σ') : P_H_init b σ mc ms Q := by
  refine ⟨hs, by omega, by omega, nw_mk ?_⟩
  rw [hn]
  have H0 : HP b 0 σ (w_new σ (.inr (6, 4))) := ⟨by rw [s_n_wn, hn], by rw [s_s_wn, if_neg (by omega)]; exact hs, fun k => by rw [s_i_wn, if_neg (by omega)]; exact hz k, by rw [s_s_wn, if_pos hn.symm], fun u hu => absurd hu (Nat.not_lt_zero u), fun q hq => same.wn (by omega)⟩
  refine ⟨by omega, by omega, H0.step (by decide) (by omega) (by omega) (fun s1 H1 => ?_)⟩
  refine ⟨by omega, by omega, H1.step (by decide) (by omega) (by omega) (fun s2 H2 => ?_)⟩
  refine ⟨by omega, by omega, H2.step (by decide) (by omega) (by omega) (fun s3 H3 => ?_)⟩
  refine ⟨by omega, by omega, H3.step (by decide) (by omega) (by omega) (fun s4 H4 => ?_)⟩
  obtain ⟨h1, h2, h3, h4, h5, h6⟩ := H4
  refine ⟨by omega, by omega, S_make (p := b + 14) (by rw [s_n_wr, h1]) (by omega) (by omega) (fun s5 g1 g2 g3 => ?_)⟩
  have gb := g2 b (by omega)
  have gb1 := g2 (b + 1) (by omega)
  refine k _ (by rw [s_n_wr, g1]) (fun q hq => (((h6 q hq).tr (same.wr (by omega))).tr (g2 q (by omega))).tr (same.wr (by omega))) ⟨gb.1.trans h2, ?_, ?_, fun k => (gb.2.1 k).trans (h3 k), gb1.1.trans h4, fun u hu => ?_, fun u hu => ?_⟩
  · rw [s_r_wr, if_neg (fun z => by omega)]
    refine (gb.2.2.1 0).trans ?_
    rw [s_r_wr, if_pos ⟨rfl, rfl⟩]
  · rw [s_r_wr, if_pos ⟨rfl, rfl⟩]
  · rw [s_r_wr, if_neg (fun z => by omega)]
    refine (gb1.2.2.1 u).trans ?_
    rw [s_r_wr, if_neg (fun z => by omega)]
    exact (h5 u hu).1
  · by_cases e : u = 4
    · subst e
      exact g3.g (fun q h1 h2 => same.wr (by omega))
    · exact (((h5 u (by omega)).2.g (fun q h1 h2 => same.wr (by omega))).g (fun q h1 h2 => g2 q (by omega))).g (fun q h1 h2 => same.wr (by omega))
/-- a law's place that is fresh -/
def LF (o : Nat) (σ : St) : Prop := s_s σ o = some (.inl 4) ∧ s_r σ o 0 = some (o + 1) ∧ s_r σ o 4 = none ∧ (∀ k, s_i σ o k = 0) ∧ s_s σ (o + 1) = some (.inr (0, 30))
theorem LF.g {o : Nat} {σ σ' : St} (h : LF o σ) (c : ∀ q, o ≤ q → q ≤ o + 1 → same σ σ' q) : LF o σ' := by
  obtain ⟨h1, h2, h3, h4, h5⟩ := h
  have c0 := c o (by omega) (by omega)
  have c1 := c (o + 1) (by omega) (by omega)
  exact ⟨c0.1.trans h1, (c0.2.2.1 0).trans h2, (c0.2.2.1 4).trans h3, fun k => (c0.2.1 k).trans (h4 k), c1.1.trans h5⟩
theorem L_make {p A B mc ms : Nat} {σ : St} {R : Nat → St → Nat → Nat → Prop} (hn : s_n σ = p) (hA : A + 1 ≤ mc) (hB : B + 30 ≤ ms) (k : ∀ σ', s_n σ' = p + 2 → (∀ q, q < p → same σ σ' q) → LF p σ' → R p σ' 1 30) : nw σ (.inl 4) (fun q3 σ4 => ∃ c5 d6, A + c5 ≤ mc ∧ B + d6 ≤ ms ∧ (P_L_init q3 σ4 c5 d6 (fun σ7 => R q3 σ7 c5 d6))) := by
  subst hn
  refine nw_mk ⟨1, 30, hA, hB, by rw [s_s_wn, if_pos rfl], Nat.le_refl _, Nat.le_refl _, nw_mk (k _ ?_ (fun q hq => ?_) ⟨?_, ?_, ?_, fun k => ?_, ?_⟩)⟩
  · simp only [s_n_wi, s_n_wr, s_n_wn]
  · exact ((same.wn hq).tr (same.wn (by rw [s_n_wn]; omega))).tr (same.wr (by omega))
  all_goals simp [s_n_wi, s_n_wr, s_n_wn, s_s_wi, s_s_wr, s_s_wn, s_i_wr, s_i_wi, s_i_wn, s_r_wi, s_r_wr, s_r_wn, Nat.add_assoc]
def FF (b : Nat) (σ : St) : Prop := s_s σ b = some (.inl 3) ∧ s_r σ b 0 = some (b + 1) ∧ s_s σ (b + 1) = some (.inr (5, 30)) ∧ ∀ i, i < 30 → s_r σ (b + 1) i = some (b + 2 + 2 * i) ∧ LF (b + 2 + 2 * i) σ
theorem FF.g {b : Nat} {σ σ' : St} (h : FF b σ) (c : ∀ q, b ≤ q → q ≤ b + 61 → same σ σ' q) : FF b σ' := by
  obtain ⟨h1, h2, h3, h4⟩ := h
  have c0 := c b (by omega) (by omega)
  have c1 := c (b + 1) (by omega) (by omega)
  exact ⟨c0.1.trans h1, (c0.2.2.1 0).trans h2, c1.1.trans h3, fun i hi => ⟨(c1.2.2.1 i).trans (h4 i hi).1, (h4 i hi).2.g (fun q h1 h2 => c q (by omega) (by omega))⟩⟩
theorem F_init_ok {b mc ms : Nat} {σ : St} {Q : St → Prop} (hs : s_s σ b = some (.inl 3)) (hn : s_n σ = b + 1) (hmc : 61 ≤ mc) (hms : 1110 ≤ ms) (k : ∀ σ', s_n σ' = b + 62 → (∀ q, q < b → same σ σ' q) → FF b σ' → Q σ') : P_F_init b σ mc ms Q := by
  refine ⟨hs, fun K15 h15 => ⟨by omega, by omega, nw_mk ?_⟩⟩
  rw [hn]
  have key := loopU (P := fun i s' => s_n s' = b + 2 + 2 * i ∧ (∀ q, q < b → same σ s' q) ∧ s_s s' b = some (.inl 3) ∧ s_r s' b 0 = some (b + 1) ∧ s_s s' (b + 1) = some (.inr (5, 30)) ∧ ∀ u, u < i → s_r s' (b + 1) u = some (b + 2 + 2 * u) ∧ LF (b + 2 + 2 * u) s') (G := fun i s' => K15 (nI i) s' (1 + 2 * i) (30 + 36 * i)) 30 ?_ ?_ 0 (w_r (w_new σ (.inr (5, 30))) b 0 (some (b + 1))) (Nat.zero_le _) ⟨by rw [s_n_wr, s_n_wn, hn], fun q hq => (same.wn (by omega)).tr (same.wr (by omega)), by rw [s_s_wr, s_s_wn, if_neg (by omega)]; exact hs, by rw [s_r_wr, if_pos ⟨rfl, rfl⟩], by rw [s_s_wr, s_s_wn, if_pos hn.symm], fun u hu => absurd hu (Nat.not_lt_zero u)⟩
  · exact key
  · rintro s' ⟨h1, h2, h3, h4, h5, h6⟩
    exact h15 _ _ _ _ (b_tt (nI_le (Nat.le_refl _) (by decide)) (k s' h1 h2 ⟨h3, h4, h5, h6⟩))
  · rintro i s' hi ⟨h1, h2, h3, h4, h5, h6⟩ ih
    refine h15 _ _ _ _ (b_ff (nI_ge hi (by decide)) ⟨by omega, by omega, L_make h1 (by omega) (by omega) (fun s2 g1 g2 g3 => ?_)⟩)
    have gb := g2 b (by omega)
    have gb1 := g2 (b + 1) (by omega)
    rw [h4]
    refine ar_mk (b + 1) 30 i rfl (gb1.1.trans h5) rfl hi (by decide) ⟨fun y hy => ?_, ?_⟩
    · cases hy
      exact g3.1
    · rw [nI_add]
      have := ih (w_r s2 (b + 1) i (some (b + 2 + 2 * i))) ⟨by rw [s_n_wr, g1]; omega, fun q hq => ((h2 q hq).tr (g2 q (by omega))).tr (same.wr (by omega)), gb.1.trans h3, by rw [s_r_wr, if_neg (fun z => by omega)]; exact (gb.2.2.1 0).trans h4, gb1.1.trans h5, fun u hu => ?_⟩
      · rw [show 1 + 2 * (i + 1) = 1 + 2 * i + 1 + 1 by omega, show 30 + 36 * (i + 1) = 30 + 36 * i + 6 + 30 by omega] at this
        exact this
      · by_cases e : u = i
        · subst e
          exact ⟨by rw [s_r_wr, if_pos ⟨rfl, rfl⟩], g3.g (fun q h1 h2 => same.wr (by omega))⟩
        · obtain ⟨p1, p2⟩ := h6 u (by omega)
          exact ⟨by rw [s_r_wr, if_neg (fun z => e z.2)]; exact (gb1.2.2.1 u).trans p1, (p2.g (fun q h1 h2 => g2 q (by omega))).g (fun q h1 h2 => same.wr (by omega))⟩
