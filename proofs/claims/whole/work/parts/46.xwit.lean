/-! The class: witnesses are found; worlds in which all laws hold. -/
theorem XI.P {b : Nat} {σ : St} {a : As} (h : XI b σ a) : PwC b σ := by
  obtain ⟨-, -, sp, -, -, -, -, -, -, -, hP⟩ := h
  exact hP
theorem XI.pw {b : Nat} {σ σ' : St} {a : As} (h : XI b σ a) (c : cx (pwI b) no σ σ') (h3 : s_i σ' (b + 94) 3 = nI 3341) (hR : PwR b σ') : XI b σ' a := by
  obtain ⟨hX, hN, sp, hSh, ⟨hW0, hW⟩, hS, hH, hSn, hT, ⟨hB1, hB2⟩, hP⟩ := h
  have hn := c.n
  exact ⟨hX.g c hN (fun q k z => z.elim), by omega, sp, hSh.g c hN (fun q k z => by unfold pwI; omega) (fun j hj z => z), ⟨hW0.g c (by omega) (fun k z => z), fun t ht => (hW t ht).g c (by omega) (fun k z => z)⟩, hS.g c (by omega) (fun k _ _ => by unfold pwI; omega) (fun k => by unfold pwI; omega) (fun k z => z), hH.g c hN (fun q k z => by unfold pwI; omega) (fun q k z z2 => z2), hSn.g c hN (fun q k z => by unfold pwI; omega) (fun k z => z), hT.g c hN (by unfold pwI; omega) (fun k => by unfold pwI; omega), ⟨hB1.g c (by omega) (by unfold pwI; omega) (fun k => by unfold pwI; omega) (fun k => by unfold pwI; omega), hB2.g c (by omega) (by unfold pwI; omega) (fun k => by unfold pwI; omega) (fun k => by unfold pwI; omega)⟩, Or.inr ⟨h3, hR⟩⟩
def fwU (ls : List (Bool × Lw)) (i y : Nat) : Bool := dmx ls i y || y == i
def sfI (b : Nat) : Nat → Nat → Prop := fun q k => dcI b q k ∨ tdI b q k ∨ pwI b q k
theorem need_nz {b j : Nat} {σ1 σ2 : St} {M M' : Nat → Bool} (hj : j < 30) (he : emp b σ2 j = true → emp b σ1 j = true ∧ M' j = false) (hM : ∀ i, i < 30 → M' i = true → M i = true) (hMj : M j = true) : need σ2 (some (b + 23 + 2 * j)) + nz b σ1 M' ≤ nz b σ1 M := by
  have n1 : need σ2 (some (b + 23 + 2 * j)) = if (emp b σ2 j) = true then 1 else 0 := rfl
  rw [n1]
  by_cases e : emp b σ2 j = true
  · obtain ⟨e1, e2⟩ := he e
    rw [if_pos e]
    have := ct_drop (p := fun j => emp b σ1 j && M' j) (q := fun j => emp b σ1 j && M j) (j := j) (by rw [e2, Bool.and_false]) (by rw [e1, hMj]; rfl) hj (fun i hi h => by
      rw [Bool.and_eq_true] at h ⊢
      exact ⟨h.1, hM i hi h.2⟩)
    unfold nz
    omega
  · rw [if_neg e, Nat.zero_add]
    exact nz_mono (fun _ _ z => z) hM
theorem bI_or {u v : Bool} (h : (u || v) = true) : u = true ∨ v = true := by
  cases u
  · exact Or.inr h
  · exact Or.inl rfl
theorem E_findWitnesses_ok {b i mc ms : Nat} {a : As} {σ : St} {Q : Int32 → St → Prop} (h : XI b σ a) (ha : asok a) (hN : b + 121 ≤ s_n σ) (hi : i < a.1.2.2.length) (hmc : Lz b σ + nz b σ (pls b (s_r σ (b + 2)) (fwU a.1.2.2 i)) ≤ mc) (hms : 308 * Lz b σ + 3341 * nz b σ (pls b (s_r σ (b + 2)) (fwU a.1.2.2 i)) ≤ ms)
    (k : ∀ σ', cx (sfI b) (dcR b) σ σ' → XI b σ' a → s_i σ' (b + 94) 3 = nI 3341 → TD b (wit a.1.2.2 i) (keyw a.1.2.2 i) σ' → (∀ j, j < 30 → emp b σ' j = true → emp b σ j = true ∧ pls b (s_r σ (b + 2)) (fwU a.1.2.2 i) j = false) → Q (nI (wit a.1.2.2 i).length) σ') : P_E_findWitnesses (b + 88) (some (b + 1)) (nI i) σ mc ms Q := by
  have h5 := ha.1.2.1
  obtain ⟨ls, els⟩ : ∃ ls, ls = a.1.2.2 := ⟨_, rfl⟩
  obtain ⟨R, eR⟩ : ∃ R, R = s_r σ (b + 2) := ⟨_, rfl⟩
  have hls5 : ls.length ≤ 5 := by rw [els]; exact h5
  have hils : i < ls.length := by rw [els]; exact hi
  rw [← els, ← eR] at hmc hms k
  refine ⟨h.1.1.e, fun K38 h38 => nn_mk (b + 1) rfl ?_⟩
  have c0 : chg (srI b) (srR b) σ (w_i σ (b + 88) 6 (nI 0)) := chg.rf.wi (show srI b (b + 88) 6 by unfold srI; omega)
  have c0' : chg (sfI b) (dcR b) σ (w_i σ (b + 88) 6 (nI 0)) := chg.rf.wi (show sfI b (b + 88) 6 from Or.inr (Or.inl (Or.inl ⟨rfl, rfl⟩)))
  have e60 : s_i (w_i σ (b + 88) 6 (nI 0)) (b + 88) 6 = nI 0 := by rw [s_i_wi, if_pos ⟨rfl, rfl⟩]
  have r0 : ∀ q y, s_r (w_i σ (b + 88) 6 (nI 0)) q y = s_r σ q y := fun q y => rfl
  obtain ⟨A, eA⟩ : ∃ A, A = w_i σ (b + 88) 6 (nI 0) := ⟨_, rfl⟩
  rw [← eA] at c0 c0' e60 r0 ⊢
  have hA := h.sr c0
  have LzA : Lz b A = Lz b σ := by
    unfold Lz
    rw [c0.i (by unfold srI; omega)]
  refine S_lawAt_ok hA.1.now hA.len h5 (fun e => ?_) (fun i' hi' ei => ?_)
  · rw [isN_nI (by omega), decide_eq_true hi] at e; cases e
  have : i' = i := ((nI_eq (by omega) (by omega)).mp ei).symm
  subst this
  obtain ⟨j, hj, hr, -, -, -⟩ := hA.law hi
  have eat : s_r A (b + 1 + 1) i' = some (b + 23 + 2 * j) := hr
  rw [eat]
  have hRj : R i' = some (b + 23 + 2 * j) := by rw [eR, ← r0]; exact hr
  have nA := c0.n
  refine b_ff (fun z => by cases z) (nn_mk (b + 94) hA.1.1.e1 ⟨Lz b A, 308 * Lz b A, by omega, by omega, ?_⟩)
  refine P_list_ok hA.1 (by omega) hA.P (Nat.le_refl _) (Nat.le_refl _) (fun s1 c1 hl1 hR1 => ?_)
  have hi1 := hA.pw c1 hl1 hR1
  have n1 := c1.n
  have r1 : s_r s1 (b + 2) = R := by
    funext y
    rw [c1.r (by omega) (fun z => z), r0, eR]
  have em1 : ∀ y, y < 30 → emp b s1 y = emp b σ y := fun y hy => by
    unfold emp
    rw [c1.r (by omega) (fun z => z), r0]
  have hfw : ∀ y, dmx ls i' y = true → fwU ls i' y = true := fun y hy => by unfold fwU; rw [hy]; rfl
  have hfi : fwU ls i' i' = true := by unfold fwU; simp
  have m1 : nz b s1 (pls b R (dmx ls i')) ≤ nz b σ (pls b R (fwU ls i')) := nz_mono (fun y hy z => by rw [em1 y hy] at z; exact z) (fun y _ z => pls_m z (fun i _ hI => hfw i hI))
  have m13 := Nat.mul_le_mul_left 3341 m1
  refine ⟨nz b s1 (pls b (s_r s1 (b + 2)) (dmx a.1.2.2 i')), 3341 * nz b s1 (pls b (s_r s1 (b + 2)) (dmx a.1.2.2 i')), by rw [r1, ← els]; omega, by rw [r1, ← els]; omega, E_demand_ok (but := i') hi1 ha hl1 (by omega) (fun j hj => nI_eq (by omega) (by omega)) (Nat.le_refl _) (Nat.le_refl _) (fun s2 c2 hi2 hl2 hD2 hE2 => ?_)⟩
  rw [r1, ← els] at hE2 ⊢
  rw [← els] at hD2
  have n2 := c2.n
  have r2 : ∀ y, s_r s2 (b + 2) y = R y := fun y => by rw [c2.r (by omega) (by unfold dcR cnR; omega), r1]
  have m2 := need_nz (b := b) (σ1 := s1) (σ2 := s2) (M := pls b R (fwU ls i')) (M' := pls b R (dmx ls i')) hj (fun z => hE2 j hj z) (fun y _ z => pls_m z (fun i _ hI => hfw i hI)) (pls_t.mpr ⟨i', by omega, hfi, hRj⟩)
  have m22 : nz b s1 (pls b R (fwU ls i')) ≤ nz b σ (pls b R (fwU ls i')) := nz_mono (fun y hy z => by rw [em1 y hy] at z; exact z) (fun _ _ z => z)
  have m3 : need s2 (some (b + 23 + 2 * j)) + nz b s1 (pls b R (dmx ls i')) ≤ nz b σ (pls b R (fwU ls i')) := Nat.le_trans m2 m22
  have m33 := Nat.mul_le_mul_left 3341 m3
  rw [Nat.mul_add] at m33
  refine ⟨need s2 (some (b + 23 + 2 * j)), 3341 * need s2 (some (b + 23 + 2 * j)), by omega, by omega, E_countBroken_ok (i := i') hi2 ha hl2 (by omega) hi ((r2 i').trans hRj).symm (Nat.le_refl _) (Nat.le_refl _) (fun s3 c3 hi3 hl3 hCn hkeep hE3 => ?_)⟩
  rw [← els] at hCn hkeep
  have n3 := c3.n
  have hD3 : DM b (dml ls i' ls.length) s3 ls := by
    refine ⟨(c3.i (by omega) (by unfold cnI bq; omega)).trans hD2.1, fun t ht => ?_⟩
    obtain ⟨q1, q2⟩ := hD2.2 t ht
    refine ⟨?_, hkeep _ q2⟩
    rw [c3.r (by omega) (by unfold cnR; omega), c3.r (by omega) (by unfold cnR; omega)]
    exact q1
  have e63 : s_i s3 (b + 88) 6 = nI 0 := by
    rw [c3.i (by omega) (by unfold cnI bq; omega), c2.i (by omega) (by unfold dcI cnI bq; omega), c1.i (by omega) (by unfold pwI; omega)]
    exact e60
  have c03 : cx (sfI b) (dcR b) σ s3 := ((c0'.x.tr (c1.up (fun q k z => Or.inr (Or.inr z)) (fun q k z => z.elim))).tr (c2.up (fun q k z => Or.inl z) (fun q k z => z))).tr (c3.up (fun q k z => Or.inl (Or.inl z)) (fun q k z => Or.inl z))
  obtain ⟨-, jj, q, f1, f2, f3, f4, f5, f6, f7, f8⟩ := hCn
  have ejj : jj = j := by
    rw [c3.r (by omega) (by unfold cnR; omega), r2, hRj] at f2
    simp at f2
    omega
  subst ejj
  obtain ⟨P, eP⟩ : ∃ P : Nat → Bool, P = fun w => holdb ls (pws w) (pwc w) i' := ⟨_, rfl⟩
  obtain ⟨f, ef⟩ : ∃ f : Nat → Nat, f = keyw ls i' := ⟨_, rfl⟩
  have hf27 : ∀ v, f v ≤ 27 := fun v => by rw [ef]; exact bc_le (pws_nok v)
  have ewit : wit ls i' = (wl P f 3341 27).take 12 := by
    unfold wit
    rw [wlst_wl, eP, ef]
  rw [← ef] at k f8
  have wl0 : ∀ c, wl P f 0 c = [] := by
    intro c
    induction c with
    | zero => rfl
    | succ c ih => rw [wl, ih]; rfl
  refine (?_ : ∀ ca cb, K38 (some (b + 23 + 2 * jj)) (nI 0) s3 ca cb) _ _
  intro ca cb
  refine loopU (P := fun w s' => chg (tdI b) no s3 s' ∧ TD b ((wl P f w 27).take 12) f s') (G := fun w s' => K38 (some (b + 23 + 2 * jj)) (nI w) s' ca cb) 3341 ?_ ?_ 0 s3 (Nat.zero_le _) ⟨chg.rf, ?_⟩
  · rintro s' ⟨hc, hT⟩
    rw [← ewit] at hT
    refine h38 _ _ _ _ _ (b_tt (nI_le (Nat.le_refl _) (by decide)) ?_)
    rw [hT.1]
    refine k s' (c03.tr (hc.x.up (fun q k z => Or.inr (Or.inl z)) (fun q k z => z.elim))) (hi3.sr (hc.mono (fun q k z => by unfold tdI at z; unfold srI; omega) (fun q k z => z.elim))) ((hc.i (by unfold tdI; omega)).trans hl3) hT (fun y hy he => ?_)
    have he3 : emp b s3 y = true := by
      have e3 : s_r s' (b + 23 + 2 * y) 4 = s_r s3 (b + 23 + 2 * y) 4 := hc.r (fun z => z)
      unfold emp at he ⊢
      rw [e3] at he
      exact he
    obtain ⟨p1, p2⟩ := hE3 y hy he3
    obtain ⟨p3, p4⟩ := hE2 y hy p1
    refine ⟨by rw [em1 y hy] at p3; exact p3, ?_⟩
    cases ez : pls b R (fwU ls i') y with
    | false => rfl
    | true =>
      obtain ⟨i, g1, g2, g3⟩ := pls_t.mp ez
      unfold fwU at g2
      rcases bI_or g2 with g | g
      · have := pls_t.mpr ⟨i, g1, g, g3⟩
        rw [p4] at this
        cases this
      · rw [beq_iff_eq] at g
        rw [g, hRj] at g3
        exact absurd g3 p2
  · rintro w s' hw ⟨hc, hT⟩ ih
    have hiS := hi3.sr (hc.mono (fun q k z => by unfold tdI at z; unfold srI; omega) (fun q k z => z.elim))
    have tl : ((wl P f w 27).take 12).length ≤ 12 := by rw [List.length_take]; omega
    have hDs : DM b (dml ls i' ls.length) s' ls := by
      refine ⟨(hc.i (by unfold tdI; omega)).trans hD3.1, fun t ht => ?_⟩
      obtain ⟨q1, q2⟩ := hD3.2 t ht
      refine ⟨?_, q2.g hc.x (by omega) (fun k z => z) (fun j hj z => z) (fun q k z => by unfold tdI; omega)⟩
      rw [hc.r (fun z => z), hc.r (fun z => z)]
      exact q1
    have next : (wl P f (w + 1) 27).take 12 = (wl P f w 27).take 12 → K38 (some (b + 23 + 2 * jj)) (nI w + nI 1) s' ca cb := by
      intro e
      have := ih s' ⟨hc, by rw [e]; exact hT⟩
      rw [nI_add]; exact this
    refine h38 _ _ _ _ _ (b_ff (nI_ge hw (by decide)) (nn_mk (b + 23 + 2 * jj) rfl (L_brokenAt_ok (v := f w) (by rw [hc.s]; exact f7) ((hc.r (fun z => z)).trans f3) (by rw [hc.s]; exact f6) ((hc.i (by unfold tdI; omega)).trans (f8 w hw)) hw ?_)))
    have hfw27 := hf27 w
    refine b_le (f w) 0 rfl nI_0.symm (by omega) (by decide) (fun e0 => next (by rw [wl_same (fun _ z => by omega)])) (fun e0 => ?_)
    refine E_isAmongFirst_ok hiS.1 hT tl hf27 hfw27 (fun hor => b_ff (by decide) ?_) (fun h12 hle => b_tt rfl (next ?_))
    · refine E_isModel_ok (but := i') hiS.1 hDs hls5 hw (b_b _ rfl (fun eh => next ?_) (fun eh => ?_))
      · have eh' : P w = false := by rw [eP]; exact eh
        rw [wl_same (fun z _ => by rw [eh'] at z; cases z)]
      · have eh' : P w = true := by rw [eP]; exact eh
        rcases wl_step (c := 27) eh' e0 hfw27 with ⟨g1, g2, g3⟩ | ⟨p, g1, g2, g3, g4, g5⟩
        · omega
        · refine E_tell_ok hiS.1 hT tl hf27 rfl hw g1 g2 g3 g4 (fun s4 c4 hT4 => ?_)
          rw [← g5] at hT4
          rw [nI_add]
          exact ih s4 ⟨hc.tr c4, hT4⟩
    · cases eh' : P w with
      | false => rw [wl_same (fun z _ => by rw [eh'] at z; cases z)]
      | true =>
        rcases wl_step (c := 27) eh' e0 hfw27 with ⟨g1, g2, g3⟩ | ⟨p, g1, g2, g3, g4, g5⟩
        · exact g3
        · have := g4 11 g2 (by omega)
          omega
  · rw [wl0]
    exact ⟨e63, fun p hp => absurd hp (Nat.not_lt_zero p)⟩
theorem E_witnessNumber_ok {b r t : Nat} {T : List Nat} {f : Nat → Nat} {σ : St} {Q : Int32 → St → Prop} (hX : XL b σ) (hR : PwR b σ) (hT : TD b T f σ) (hl : T.length ≤ 12) (hTw : ∀ v ∈ T, v < 3341) (hr : r < 2 ^ 31) (ht : t < 3) (k0 : T.length ≤ r → Q (-5) σ) (k1 : r < T.length → Q (match t with
    | 0 => nI (pws (T.getD r 0))
    | 1 => nI (pwc (T.getD r 0))
    | _ => nI (f (T.getD r 0))) σ) : P_E_witnessNumber (b + 88) (nI r) (nI t) σ Q := by
  refine ⟨hX.1.e, b_lt r 0 rfl nI_0.symm hr (by decide) (fun g => absurd g (Nat.not_lt_zero r)) (fun _ => b_lt r T.length rfl hT.1 hr (by omega) (fun g => ?_) (fun g => k0 g))⟩
  have k2 := k1 g
  obtain ⟨v1, v2⟩ := hT.2 r g
  have hv := hTw _ (getD_memN g)
  have h7 : t = 0 ∨ t = 1 ∨ t = 2 := by omega
  rcases h7 with rfl | rfl | rfl
  · refine b_ff (by decide) (b_ff (by decide) (ar_mk (b + 99) 12 r hX.1.e4 hX.1.eb rfl (by omega) (by decide) (nn_mk (b + 94) hX.1.e1 ?_)))
    rw [v1]
    exact P_sizeAt_ok hX hR hv k2
  · refine b_ff (by decide) (b_tt rfl (ar_mk (b + 99) 12 r hX.1.e4 hX.1.eb rfl (by omega) (by decide) (nn_mk (b + 94) hX.1.e1 ?_)))
    rw [v1]
    exact P_codeAt_ok hX hR hv k2
  · refine b_tt rfl (ar_mk (b + 100) 12 r hX.1.e5 hX.1.ec rfl (by omega) (by decide) ?_)
    rw [v2]
    exact k2
theorem butm : ∀ i, i < 5 → (nI i = -1 ↔ i = 5) := by decide
/-- what both askings for models begin with -/
theorem models_begin {b n mc ms : Nat} {a : As} {σ : St} {Q : Int32 → St → Nat → Nat → Prop} (h : XI b σ a) (ha : asok a) (hN : b + 121 ≤ s_n σ) (hn : nok n) (hmc : Lz b σ + nz b σ (pls b (s_r σ (b + 2)) (dmx a.1.2.2 5)) ≤ mc) (hms : 308 * Lz b σ + 3341 * nz b σ (pls b (s_r σ (b + 2)) (dmx a.1.2.2 5)) ≤ ms)
    (k : ∀ σ' ca cb, cx (sfI b) (dcR b) σ σ' → XI b σ' a → s_i σ' (b + 94) 3 = nI 3341 → DM b (dml a.1.2.2 5 a.1.2.2.length) σ' a.1.2.2 → (∀ j, j < 30 → emp b σ' j = true → emp b σ j = true ∧ pls b (s_r σ (b + 2)) (dmx a.1.2.2 5) j = false) → Q (nI (fo n)) σ' ca cb) :
    nn (s_r σ (b + 88) 1) (fun q9 => ∃ c10 d11, 0 + c10 ≤ mc ∧ 0 + d11 ≤ ms ∧ (P_P_list q9 σ c10 d11 (fun σ12 => ∃ c13 d14, 0 + c10 + c13 ≤ mc ∧ 0 + d11 + d14 ≤ ms ∧ (P_E_demand (b + 88) (some (b + 1)) (-1) σ12 c13 d14 (fun σ15 => nn (s_r σ15 (b + 88) 1) (fun q16 => P_P_start q16 (nI n) σ15 (fun r18 σ17 => Q r18 σ17 (0 + c10 + c13) (0 + d11 + d14)))))))) := by
  refine nn_mk (b + 94) h.1.1.e1 ⟨Lz b σ, 308 * Lz b σ, by omega, by omega, P_list_ok h.1 hN h.P (Nat.le_refl _) (Nat.le_refl _) (fun s1 c1 hl1 hR1 => ?_)⟩
  have hi1 := h.pw c1 hl1 hR1
  have n1 := c1.n
  have r1 : s_r s1 (b + 2) = s_r σ (b + 2) := by
    funext y
    rw [c1.r (by omega) (fun z => z)]
  have em1 : ∀ y, y < 30 → emp b s1 y = emp b σ y := fun y hy => by
    unfold emp
    rw [c1.r (by omega) (fun z => z)]
  have m1 : nz b s1 (pls b (s_r σ (b + 2)) (dmx a.1.2.2 5)) ≤ nz b σ (pls b (s_r σ (b + 2)) (dmx a.1.2.2 5)) := nz_mono (fun y hy z => by rw [em1 y hy] at z; exact z) (fun y _ z => z)
  have m13 := Nat.mul_le_mul_left 3341 m1
  refine ⟨nz b s1 (pls b (s_r σ (b + 2)) (dmx a.1.2.2 5)), 3341 * nz b s1 (pls b (s_r σ (b + 2)) (dmx a.1.2.2 5)), by omega, by omega, E_demand_ok (but := 5) hi1 ha hl1 (by omega) butm (by rw [r1]; exact Nat.le_refl _) (by rw [r1]; exact Nat.le_refl _) (fun s2 c2 hi2 hl2 hD2 hE2 => ?_)⟩
  rw [r1] at hE2
  refine nn_mk (b + 94) hi2.1.1.e1 (P_start_ok hi2.1 (hi2.R hl2) hn (k s2 _ _ ((c1.up (fun q k z => Or.inr (Or.inr z)) (fun q k z => z.elim)).tr (c2.up (fun q k z => Or.inl z) (fun q k z => z))) hi2 hl2 hD2 (fun j hj he => ?_)))
  obtain ⟨p1, p2⟩ := hE2 j hj he
  rw [em1 j hj] at p1
  exact ⟨p1, p2⟩
