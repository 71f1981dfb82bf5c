/-! The class: how it is made, further. -/
def BF (b : Nat) (σ : St) : Prop := BL b σ ∧ ∀ q, b ≤ q → q ≤ b + 4 → ∀ k, s_i σ q k = 0
theorem BF.g {b : Nat} {σ σ' : St} (h : BF b σ) (c : ∀ q, b ≤ q → q ≤ b + 4 → same σ σ' q) : BF b σ' := by
  obtain ⟨⟨h1, ⟨h2, h3⟩, ⟨h4, h5⟩, ⟨h6, h7⟩, h8, h9⟩, hz⟩ := h
  have c0 := c b (by omega) (by omega)
  exact ⟨⟨c0.1.trans h1, ⟨(c _ (by omega) (by omega)).1.trans h2, (c0.2.2.1 _).trans h3⟩, ⟨(c _ (by omega) (by omega)).1.trans h4, (c0.2.2.1 _).trans h5⟩, ⟨(c _ (by omega) (by omega)).1.trans h6, (c0.2.2.1 _).trans h7⟩, (c _ (by omega) (by omega)).1.trans h8, (c0.2.2.1 _).trans h9⟩, fun q h1 h2 k => ((c q h1 h2).2.1 k).trans (hz q h1 h2 k)⟩
theorem B_init_ok {b mc ms : Nat} {σ : St} {Q : St → Prop} (hs : s_s σ b = some (.inl 5)) (hn : s_n σ = b + 1) (hz : ∀ k, s_i σ b k = 0) (hmc : 4 ≤ mc) (hms : 39 ≤ ms) (k : ∀ σ', s_n σ' = b + 5 → (∀ q, q < b → same σ σ' q) → BF b σ' → Q σ') : P_B_init b σ mc ms Q := by
  refine ⟨hs, by omega, by omega, nw_mk ⟨by omega, by omega, nw_mk ⟨by omega, by omega, nw_mk ⟨by omega, by omega, nw_mk (k _ ?_ (fun q hq => ?_) ⟨⟨?_, ⟨?_, ?_⟩, ⟨?_, ?_⟩, ⟨?_, ?_⟩, ?_, ?_⟩, fun q h1 h2 k => ?_⟩)⟩⟩⟩⟩
  · simp only [s_n_wr, s_n_wn, hn]
  · exact (((((((same.wn (by omega)).tr (same.wr (by omega))).tr (same.wn (by simp only [s_n_wr, s_n_wn]; omega))).tr (same.wr (by omega))).tr (same.wn (by simp only [s_n_wr, s_n_wn]; omega))).tr (same.wr (by omega))).tr (same.wn (by simp only [s_n_wr, s_n_wn]; omega))).tr (same.wr (by omega))
  case refine_3 => simp [s_n_wr, s_n_wn, s_s_wr, s_s_wn, s_r_wr, s_r_wn, hn, hs, Nat.add_assoc]
  case refine_4 => simp [s_n_wr, s_n_wn, s_s_wr, s_s_wn, s_r_wr, s_r_wn, hn, hs, Nat.add_assoc]
  case refine_5 => simp [s_n_wr, s_n_wn, s_s_wr, s_s_wn, s_r_wr, s_r_wn, hn, hs, Nat.add_assoc]
  case refine_6 => simp [s_n_wr, s_n_wn, s_s_wr, s_s_wn, s_r_wr, s_r_wn, hn, hs, Nat.add_assoc]
  case refine_7 => simp [s_n_wr, s_n_wn, s_s_wr, s_s_wn, s_r_wr, s_r_wn, hn, hs, Nat.add_assoc]
  case refine_8 => simp [s_n_wr, s_n_wn, s_s_wr, s_s_wn, s_r_wr, s_r_wn, hn, hs, Nat.add_assoc]
  case refine_9 => simp [s_n_wr, s_n_wn, s_s_wr, s_s_wn, s_r_wr, s_r_wn, hn, hs, Nat.add_assoc]
  case refine_10 => simp [s_n_wr, s_n_wn, s_s_wr, s_s_wn, s_r_wr, s_r_wn, hn, hs, Nat.add_assoc]
  case refine_11 => simp [s_n_wr, s_n_wn, s_s_wr, s_s_wn, s_r_wr, s_r_wn, hn, hs, Nat.add_assoc]
  · simp only [s_i_wr, s_i_wn, s_n_wr, s_n_wn, hn]
    split
    · rfl
    · split
      · rfl
      · split
        · rfl
        · split
          · rfl
          · have : q = b := by omega
            rw [this]; exact hz k
def PF (b : Nat) (σ : St) : Prop := s_s σ b = some (.inl 7) ∧ s_r σ b 0 = some (b + 1) ∧ s_r σ b 1 = some (b + 2) ∧ s_r σ b 2 = some (b + 3) ∧ s_s σ (b + 1) = some (.inr (0, 3341)) ∧ s_s σ (b + 2) = some (.inr (2, 3341)) ∧ s_s σ (b + 3) = some (.inr (0, 5)) ∧ ∀ k, s_i σ b k = 0
theorem PF.g {b : Nat} {σ σ' : St} (h : PF b σ) (c : ∀ q, b ≤ q → q ≤ b + 3 → same σ σ' q) : PF b σ' := by
  obtain ⟨h1, h2, h3, h4, h5, h6, h7, h8⟩ := h
  have c0 := c b (by omega) (by omega)
  exact ⟨c0.1.trans h1, (c0.2.2.1 _).trans h2, (c0.2.2.1 _).trans h3, (c0.2.2.1 _).trans h4, (c _ (by omega) (by omega)).1.trans h5, (c _ (by omega) (by omega)).1.trans h6, (c _ (by omega) (by omega)).1.trans h7, fun k => (c0.2.1 k).trans (h8 k)⟩
theorem P_init_ok {b mc ms : Nat} {σ : St} {Q : St → Prop} (hs : s_s σ b = some (.inl 7)) (hn : s_n σ = b + 1) (hz : ∀ k, s_i σ b k = 0) (hmc : 3 ≤ mc) (hms : 6687 ≤ ms) (k : ∀ σ', s_n σ' = b + 4 → (∀ q, q < b → same σ σ' q) → PF b σ' → Q σ') : P_P_init b σ mc ms Q := by
  refine ⟨hs, by omega, by omega, nw_mk ⟨by omega, by omega, nw_mk ⟨by omega, by omega, nw_mk (k _ ?_ (fun q hq => ?_) ⟨?_, ?_, ?_, ?_, ?_, ?_, ?_, fun k => ?_⟩)⟩⟩⟩
  · simp only [s_n_wr, s_n_wn, hn]
  · exact (((((same.wn (by omega)).tr (same.wr (by omega))).tr (same.wn (by simp only [s_n_wr, s_n_wn]; omega))).tr (same.wr (by omega))).tr (same.wn (by simp only [s_n_wr, s_n_wn]; omega))).tr (same.wr (by omega))
  all_goals simp [s_n_wr, s_n_wn, s_s_wr, s_s_wn, s_i_wr, s_i_wn, s_r_wr, s_r_wn, hn, hs, hz, Nat.add_assoc]
def DFr (b : Nat) (σ : St) : Prop := s_s σ b = some (.inl 8) ∧ s_r σ b 0 = some (b + 1) ∧ s_r σ b 2 = some (b + 2) ∧ s_r σ b 3 = some (b + 3) ∧ s_s σ (b + 1) = some (.inr (0, 120)) ∧ s_s σ (b + 2) = some (.inr (0, 60)) ∧ s_s σ (b + 3) = some (.inr (1, 4))
theorem DFr.g {b : Nat} {σ σ' : St} (h : DFr b σ) (c : ∀ q, b ≤ q → q ≤ b + 3 → same σ σ' q) : DFr b σ' := by
  obtain ⟨h1, h2, h3, h4, h5, h6, h7⟩ := h
  have c0 := c b (by omega) (by omega)
  exact ⟨c0.1.trans h1, (c0.2.2.1 _).trans h2, (c0.2.2.1 _).trans h3, (c0.2.2.1 _).trans h4, (c _ (by omega) (by omega)).1.trans h5, (c _ (by omega) (by omega)).1.trans h6, (c _ (by omega) (by omega)).1.trans h7⟩
theorem D_init_ok {b mc ms : Nat} {σ : St} {Q : St → Prop} (hs : s_s σ b = some (.inl 8)) (hn : s_n σ = b + 1) (hmc : 3 ≤ mc) (hms : 184 ≤ ms) (k : ∀ σ', s_n σ' = b + 4 → (∀ q, q < b → same σ σ' q) → DFr b σ' → Q σ') : P_D_init b σ mc ms Q := by
  refine ⟨hs, by omega, by omega, nw_mk ⟨by omega, by omega, nw_mk ⟨by omega, by omega, nw_mk (k _ ?_ (fun q hq => ?_) ⟨?_, ?_, ?_, ?_, ?_, ?_, ?_⟩)⟩⟩⟩
  · simp only [s_n_wr, s_n_wn, hn]
  · exact (((((same.wn (by omega)).tr (same.wr (by omega))).tr (same.wn (by simp only [s_n_wr, s_n_wn]; omega))).tr (same.wr (by omega))).tr (same.wn (by simp only [s_n_wr, s_n_wn]; omega))).tr (same.wr (by omega))
  all_goals simp [s_n_wr, s_n_wn, s_s_wr, s_s_wn, s_i_wr, s_i_wn, s_r_wr, s_r_wn, hn, hs, Nat.add_assoc]
def EF (b : Nat) (σ : St) : Prop := s_s σ b = some (.inl 6) ∧ (s_r σ b 0 = some (b + 1) ∧ s_r σ b 1 = some (b + 6) ∧ s_r σ b 2 = some (b + 10) ∧ s_r σ b 4 = some (b + 11) ∧ s_r σ b 5 = some (b + 12)) ∧ (s_s σ (b + 10) = some (.inr (5, 5)) ∧ s_s σ (b + 11) = some (.inr (0, 12)) ∧ s_s σ (b + 12) = some (.inr (0, 12))) ∧ BF (b + 1) σ ∧ PF (b + 6) σ
theorem EF.g {b : Nat} {σ σ' : St} (h : EF b σ) (c : ∀ q, b ≤ q → q ≤ b + 12 → same σ σ' q) : EF b σ' := by
  obtain ⟨h1, ⟨h2, h3, h4, h5, h6⟩, ⟨h7, h8, h9⟩, hB, hP⟩ := h
  have c0 := c b (by omega) (by omega)
  exact ⟨c0.1.trans h1, ⟨(c0.2.2.1 _).trans h2, (c0.2.2.1 _).trans h3, (c0.2.2.1 _).trans h4, (c0.2.2.1 _).trans h5, (c0.2.2.1 _).trans h6⟩, ⟨(c _ (by omega) (by omega)).1.trans h7, (c _ (by omega) (by omega)).1.trans h8, (c _ (by omega) (by omega)).1.trans h9⟩, hB.g (fun q h1 h2 => c q (by omega) (by omega)), hP.g (fun q h1 h2 => c q (by omega) (by omega))⟩
theorem E_init_ok {b mc ms : Nat} {σ : St} {Q : St → Prop} (hs : s_s σ b = some (.inl 6)) (hn : s_n σ = b + 1) (hmc : 12 ≤ mc) (hms : 6764 ≤ ms) (k : ∀ σ', s_n σ' = b + 13 → (∀ q, q < b → same σ σ' q) → EF b σ' → Q σ') : P_E_init b σ mc ms Q := by
  refine ⟨hs, by omega, by omega, nw_mk ⟨4, 39, by omega, by omega, ?_⟩⟩
  rw [hn]
  refine B_init_ok (by rw [s_s_wn, if_pos hn.symm]) (by rw [s_n_wn, hn]) (fun k => by rw [s_i_wn, if_pos hn.symm]) (Nat.le_refl _) (Nat.le_refl _) (fun s1 n1 g1 f1 => ⟨by omega, by omega, nw_mk ⟨3, 6687, by omega, by omega, ?_⟩⟩)
  have e1 : s_n (w_r s1 b 0 (some (b + 1))) = b + 6 := by rw [s_n_wr, n1]
  rw [e1]
  refine P_init_ok (by rw [s_s_wn, if_pos e1.symm]) (by rw [s_n_wn, e1]) (fun k => by rw [s_i_wn, if_pos e1.symm]) (Nat.le_refl _) (Nat.le_refl _) (fun s2 n2 g2 f2 => ?_)
  refine ⟨by omega, by omega, nw_mk ⟨by omega, by omega, nw_mk ⟨by omega, by omega, nw_mk ?_⟩⟩⟩
  have a1 : ∀ q, q < b + 1 → same σ s1 q := fun q hq => (same.wn (by omega)).tr (g1 q hq)
  have a2 : ∀ q, q < b + 6 → same (w_r s1 b 0 (some (b + 1))) s2 q := fun q hq => (same.wn (by omega)).tr (g2 q hq)
  obtain ⟨F, eF⟩ : ∃ F, F = w_r (w_new (w_r (w_new (w_r (w_new (w_r s2 b 1 (some (b + 6))) (.inr (5, 5))) b 2 (some (s_n (w_r s2 b 1 (some (b + 6)))))) (.inr (0, 12))) b 4 (some (s_n (w_r (w_new (w_r s2 b 1 (some (b + 6))) (.inr (5, 5))) b 2 (some (s_n (w_r s2 b 1 (some (b + 6))))))))) (.inr (0, 12))) b 5 (some (s_n (w_r (w_new (w_r (w_new (w_r s2 b 1 (some (b + 6))) (.inr (5, 5))) b 2 (some (s_n (w_r s2 b 1 (some (b + 6)))))) (.inr (0, 12))) b 4 (some (s_n (w_r (w_new (w_r s2 b 1 (some (b + 6))) (.inr (5, 5))) b 2 (some (s_n (w_r s2 b 1 (some (b + 6))))))))))) := ⟨_, rfl⟩
  rw [← eF]
  have a3 : ∀ q, q ≠ b → q < b + 10 → same s2 F q := fun q h1 h2 => by
    rw [eF]
    exact ((((((same.wr h1).tr (same.wn (by simp only [s_n_wr, s_n_wn]; omega))).tr (same.wr h1)).tr (same.wn (by simp only [s_n_wr, s_n_wn]; omega))).tr (same.wr h1)).tr (same.wn (by simp only [s_n_wr, s_n_wn]; omega))).tr (same.wr h1)
  have r0 : s_r s2 b 0 = some (b + 1) := ((a2 b (by omega)).2.2.1 0).trans (by rw [s_r_wr, if_pos ⟨rfl, rfl⟩])
  have sb : s_s s2 b = some (.inl 6) := ((a2 b (by omega)).1.trans (a1 b (by omega)).1).trans hs
  refine k F (by rw [eF]; simp only [s_n_wr, s_n_wn, n2]) (fun q hq => (((a1 q (by omega)).tr (same.wr (by omega))).tr (a2 q (by omega))).tr (a3 q (by omega) (by omega))) ⟨?_, ⟨?_, ?_, ?_, ?_, ?_⟩, ⟨?_, ?_, ?_⟩, ((f1.g (fun q h1 h2 => same.wr (by omega))).g (fun q h1 h2 => a2 q (by omega))).g (fun q h1 h2 => a3 q (by omega) (by omega)), f2.g (fun q h1 h2 => a3 q (by omega) (by omega))⟩
  all_goals rw [eF]
  all_goals simp [s_n_wr, s_n_wn, s_s_wr, s_s_wn, s_r_wr, s_r_wn, n2, r0, sb, Nat.add_assoc]
