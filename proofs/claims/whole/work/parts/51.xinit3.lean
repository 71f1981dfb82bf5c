/-! The class: a new object. -/
theorem xstep {b p j : Nat} {v : Option Nat} {s s' : St} {sp : Shp} (hn : s_n s = p) (hbp : b < p) (g : ∀ q, q < p → same (w_new (w_r s b j v) sp) s' q) : (∀ q, q ≠ b → q < p → same s s' q) ∧ s_s s' b = s_s s b ∧ (∀ k, s_i s' b k = s_i s b k) ∧ ∀ k, s_r s' b k = if k = j then v else s_r s b k := by
  have a : ∀ q, q < p → same (w_r s b j v) s' q := fun q hq => (same.wn (by rw [s_n_wr]; omega)).tr (g q hq)
  refine ⟨fun q h1 h2 => (same.wr h1).tr (a q h2), (a b hbp).1, fun k => (a b hbp).2.1 k, fun k => ?_⟩
  rw [(a b hbp).2.2.1 k, s_r_wr]
  by_cases e : k = j
  · rw [if_pos ⟨rfl, e⟩, if_pos e]
  · rw [if_neg (fun z => e z.2), if_neg e]
theorem X_assemble {b : Nat} {F : St} (F1 : SF (b + 1) F) (F2 : HF (b + 4) F) (F3 : FF (b + 21) F) (F4 : BF (b + 83) F) (F5 : EF (b + 88) F) (F6 : DFr (b + 101) F) (sF : s_s F b = some (.inl 0)) (iF : ∀ k, s_i F b k = 0) (r0 : s_r F b 0 = some (b + 1)) (r1 : s_r F b 1 = some (b + 4)) (r2 : s_r F b 2 = some (b + 21)) (r3 : s_r F b 3 = some (b + 83)) (r4 : s_r F b 4 = some (b + 88)) (r5 : s_r F b 5 = some (b + 101)) (r6 : s_r F b 6 = some (b + 105)) (tF : s_s F (b + 105) = some (.inr (3, 60))) (nF : s_n F = b + 106) : XI b F a0 := by
  obtain ⟨p1, p2, p3, p4, p5⟩ := F1
  obtain ⟨h1, h2, h3, h4, h5, h6, h7⟩ := F2
  obtain ⟨m1, m2, m3, m4⟩ := F3
  obtain ⟨b1, b2⟩ := F4
  obtain ⟨q1, ⟨q2, q3, q4, q5, q6⟩, ⟨q7, q8, q9⟩, ⟨B1, B2⟩, P1, P2, P3, P4, P5, P6, P7, P8⟩ := F5
  obtain ⟨D1, D2, D3, D4, D5, D6, D7⟩ := F6
  have S5 : ∀ u, u < 5 → SF (b + 6 + 3 * u) F := fun u hu => by
    have := h7 u hu
    rwa [show b + 4 + 2 + 3 * u = b + 6 + 3 * u by omega] at this
  have L30 : ∀ i, i < 30 → s_r F (b + 22) i = some (b + 23 + 2 * i) ∧ LF (b + 23 + 2 * i) F := fun i hi => by
    have := m4 i hi
    rwa [show b + 21 + 2 + 2 * i = b + 23 + 2 * i by omega] at this
  have hXL : XL b F := ⟨⟨sF, r0, r1, r2, r3, r4, r5, r6, tF, h1, h2, h3, h5, m1, m2, m3, q1, q2, q3, q4, q5, q6, q7, q8, q9, P1, P2, P3, P4, P5, P6, P7, D1, D2, D3, D4, D5, D6, D7⟩, p1, fun t ht => (S5 t ht).1, fun i hi => ⟨(L30 i hi).2.1, (L30 i hi).2.2.1, (L30 i hi).2.2.2.2.2, (L30 i hi).1⟩, b1, B1⟩
  refine ⟨hXL, by omega, fun _ => [], fun i hi => ⟨⟨⟨Nat.zero_le _, fun v hv => by simp at hv⟩, (L30 i hi).2.2.2.2.1 1, fun k hk => absurd hk (Nat.not_lt_zero k), (L30 i hi).2.2.2.2.1 2, (L30 i hi).2.2.2.2.1 3⟩, fun q hq => ?_, false, (L30 i hi).2.2.2.2.1 5, fun z => by cases z⟩, ⟨fun i hi y hy => ?_, fun t ht i hi y hy => ?_⟩, ⟨p2 2 (by decide), p3, p2 4 (by decide), fun i hi => absurd hi (Nat.not_lt_zero i)⟩, ⟨h4 2, 0, by decide, fun k hk => ?_, fun k hk => absurd hk (Nat.not_lt_zero k)⟩, h4 3, ⟨iF 7, fun k hk => absurd hk (Nat.not_lt_zero k)⟩, ⟨⟨fun t ht => b2 _ (by omega) (by omega) t, 0, by decide, b2 _ (by omega) (by omega) 4, fun z => absurd z (by decide)⟩, ⟨fun t ht => B2 _ (by omega) (by omega) t, 0, by decide, B2 _ (by omega) (by omega) 4, fun z => absurd z (by decide)⟩⟩, Or.inl (P8 3)⟩
  · rw [(L30 i hi).2.2.2.1] at hq
    cases hq
  · have z : s_r F (b + 1 + 1) i = none := p4 i
    rw [z] at hy
    cases hy
  · have z := (S5 t ht).2.2.2.1 i
    rw [z] at hy
    cases hy
  · have z := h6 k hk
    have e : (0 + k) % 4 = k := by omega
    rw [e]
    rwa [show b + 4 + 2 + 3 * k = b + 6 + 3 * k by omega] at z
set_option maxHeartbeats 8000000 in
theorem X_init_ok {b mc ms : Nat} {σ : St} {Q : St → Prop} (hs : s_s σ b = some (.inl 0)) (hn : s_n σ = b + 1) (hz : ∀ k, s_i σ b k = 0) (hmc : 105 ≤ mc) (hms : 8276 ≤ ms) (k : ∀ σ', s_n σ' = b + 106 → (∀ q, q < b → same σ σ' q) → XI b σ' a0 → Q σ') : P_X_init b σ mc ms Q := by
  refine ⟨hs, by omega, by omega, nw_mk ⟨2, 10, by omega, by omega, ?_⟩⟩
  rw [hn]
  refine S_init_ok (by rw [s_s_wn, if_pos hn.symm]) (by rw [s_n_wn, hn]) (fun k => by rw [s_i_wn, if_pos hn.symm]) (Nat.le_refl _) (Nat.le_refl _) (fun s1 n1 g1 f1 => ⟨by omega, by omega, nw_mk ⟨16, 79, by omega, by omega, ?_⟩⟩)
  have e1 : s_n (w_r s1 b 0 (some (b + 1))) = b + 4 := by rw [s_n_wr, n1]
  rw [e1]
  refine H_init_ok (by rw [s_s_wn, if_pos e1.symm]) (by rw [s_n_wn, e1]) (fun k => by rw [s_i_wn, if_pos e1.symm]) (Nat.le_refl _) (Nat.le_refl _) (fun s2 n2 g2 f2 => ⟨by omega, by omega, nw_mk ⟨61, 1110, by omega, by omega, ?_⟩⟩)
  have e2 : s_n (w_r s2 b 1 (some (b + 4))) = b + 21 := by rw [s_n_wr, n2]
  rw [e2]
  refine F_init_ok (by rw [s_s_wn, if_pos e2.symm]) (by rw [s_n_wn, e2]) (Nat.le_refl _) (Nat.le_refl _) (fun s3 n3 g3 f3 => ⟨by omega, by omega, nw_mk ⟨4, 39, by omega, by omega, ?_⟩⟩)
  have e3 : s_n (w_r s3 b 2 (some (b + 21))) = b + 83 := by rw [s_n_wr, n3]
  rw [e3]
  refine B_init_ok (by rw [s_s_wn, if_pos e3.symm]) (by rw [s_n_wn, e3]) (fun k => by rw [s_i_wn, if_pos e3.symm]) (Nat.le_refl _) (Nat.le_refl _) (fun s4 n4 g4 f4 => ⟨by omega, by omega, nw_mk ⟨12, 6764, by omega, by omega, ?_⟩⟩)
  have e4 : s_n (w_r s4 b 3 (some (b + 83))) = b + 88 := by rw [s_n_wr, n4]
  rw [e4]
  refine E_init_ok (by rw [s_s_wn, if_pos e4.symm]) (by rw [s_n_wn, e4]) (Nat.le_refl _) (Nat.le_refl _) (fun s5 n5 g5 f5 => ⟨by omega, by omega, nw_mk ⟨3, 184, by omega, by omega, ?_⟩⟩)
  have e5 : s_n (w_r s5 b 4 (some (b + 88))) = b + 101 := by rw [s_n_wr, n5]
  rw [e5]
  refine D_init_ok (by rw [s_s_wn, if_pos e5.symm]) (by rw [s_n_wn, e5]) (Nat.le_refl _) (Nat.le_refl _) (fun s6 n6 g6 f6 => ⟨by omega, by omega, nw_mk ?_⟩)
  have e6 : s_n (w_r s6 b 5 (some (b + 101))) = b + 105 := by rw [s_n_wr, n6]
  rw [e6]
  -- what became of each cell
  have a1 : ∀ q, q < b + 1 → same σ s1 q := fun q hq => (same.wn (by omega)).tr (g1 q hq)
  obtain ⟨c2, d2, i2, r2⟩ := xstep (p := b + 4) (by rw [n1]) (by omega) g2
  obtain ⟨c3, d3, i3, r3⟩ := xstep (p := b + 21) (by rw [n2]) (by omega) g3
  obtain ⟨c4, d4, i4, r4⟩ := xstep (p := b + 83) (by rw [n3]) (by omega) g4
  obtain ⟨c5, d5, i5, r5⟩ := xstep (p := b + 88) (by rw [n4]) (by omega) g5
  obtain ⟨c6, d6, i6, r6⟩ := xstep (p := b + 101) (by rw [n5]) (by omega) g6
  obtain ⟨c7, d7, i7, r7⟩ := xstep (p := b + 105) (s' := w_new (w_r s6 b 5 (some (b + 101))) (.inr (3, 60))) (by rw [n6]) (by omega) (fun q hq => same.rf)
  obtain ⟨F, eF⟩ : ∃ F, F = w_r (w_new (w_r s6 b 5 (some (b + 101))) (.inr (3, 60))) b 6 (some (b + 105)) := ⟨_, rfl⟩
  rw [← eF]
  have c8 : ∀ q, q ≠ b → same (w_new (w_r s6 b 5 (some (b + 101))) (.inr (3, 60))) F q := fun q hq => by rw [eF]; exact same.wr hq
  have sF : s_s F b = some (.inl 0) := by
    rw [eF, s_s_wr, d7, d6, d5, d4, d3, d2, (a1 b (by omega)).1]
    exact hs
  have iF : ∀ k, s_i F b k = 0 := fun k => by
    rw [eF, s_i_wr, i7, i6, i5, i4, i3, i2, (a1 b (by omega)).2.1]
    exact hz k
  have rF : ∀ k, s_r F b k = if k = 6 then some (b + 105) else if k = 5 then some (b + 101) else if k = 4 then some (b + 88) else if k = 3 then some (b + 83) else if k = 2 then some (b + 21) else if k = 1 then some (b + 4) else if k = 0 then some (b + 1) else s_r s1 b k := fun k => by
    rw [eF, s_r_wr]
    by_cases e : k = 6
    · rw [if_pos ⟨rfl, e⟩, if_pos e]
    · rw [if_neg (fun z => e z.2), if_neg e, r7, r6, r5, r4, r3, r2]
  have tF : s_s F (b + 105) = some (.inr (3, 60)) := by
    rw [eF, s_s_wr, s_s_wn, if_pos e6.symm]
  have nF : s_n F = b + 106 := by rw [eF, s_n_wr, s_n_wn, e6]
  have a1' : ∀ q, q < b → same σ s1 q := fun q hq => a1 q (by omega)
  clear g1 g2 g3 g4 g5 g6 d2 d3 d4 d5 d6 d7 i2 i3 i4 i5 i6 i7 r2 r3 r4 r5 r6 r7
  clear e1 e2 e3 e4 e5 e6 n1 n2 n3 n4 n5 n6 eF hmc hms hn hs hz a1
  have k6 : ∀ q, q ≠ b → q < b + 105 → same s6 F q := fun q h1 h2 => (c7 q h1 h2).tr (c8 q h1)
  have k5 : ∀ q, q ≠ b → q < b + 101 → same s5 F q := fun q h1 h2 => (c6 q h1 h2).tr (k6 q h1 (by omega))
  have k4 : ∀ q, q ≠ b → q < b + 88 → same s4 F q := fun q h1 h2 => (c5 q h1 h2).tr (k5 q h1 (by omega))
  have k3 : ∀ q, q ≠ b → q < b + 83 → same s3 F q := fun q h1 h2 => (c4 q h1 h2).tr (k4 q h1 (by omega))
  have k2 : ∀ q, q ≠ b → q < b + 21 → same s2 F q := fun q h1 h2 => (c3 q h1 h2).tr (k3 q h1 (by omega))
  have k1 : ∀ q, q ≠ b → q < b + 4 → same s1 F q := fun q h1 h2 => (c2 q h1 h2).tr (k2 q h1 (by omega))
  have F1 := f1.g (fun q h1 h2 => k1 q (by omega) (by omega))
  have F2 := f2.g (fun q h1 h2 => k2 q (by omega) (by omega))
  have F3 := f3.g (fun q h1 h2 => k3 q (by omega) (by omega))
  have F4 := f4.g (fun q h1 h2 => k4 q (by omega) (by omega))
  have F5 := f5.g (fun q h1 h2 => k5 q (by omega) (by omega))
  have F6 := f6.g (fun q h1 h2 => k6 q (by omega) (by omega))
  exact k F nF (fun q hq => (a1' q hq).tr (k1 q (by omega) (by omega))) (X_assemble F1 F2 F3 F4 F5 F6 sF iF (rF 0) (rF 1) (rF 2) (rF 3) (rF 4) (rF 5) (rF 6) tF nF)
