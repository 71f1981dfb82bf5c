/-! The class: the last calls. -/
theorem wit_lt' {ls : List (Bool × Lw)} {i : Nat} : ∀ v ∈ wit ls i, v < 3341 := fun _ hv => wit_lt hv
theorem keyw_27 (ls : List (Bool × Lw)) (i v : Nat) : keyw ls i v ≤ 27 := bc_le (pws_nok v)
theorem qWitness_eq {a : As} {i r : Nat} (e : isN a.1.2.2.length (nI i) = true) (hi : i < a.1.2.2.length) (h5 : a.1.2.2.length ≤ 5) (hr : r < 2 ^ 31) (hlt : r < (wit a.1.2.2 i).length) : ∀ t, t < 3 → isN 3 (nI t) = true → qWitness a (nI i) (nI r) (nI t) = (match t with
    | 0 => nI (pws ((wit a.1.2.2 i).getD r 0))
    | 1 => nI (pwc ((wit a.1.2.2 i).getD r 0))
    | _ => nI (keyw a.1.2.2 i ((wit a.1.2.2 i).getD r 0))) := by
  intro t ht g2
  have hy0 : 0 ≤ (nI r).toInt := by rw [nI_toInt hr]; omega
  unfold qWitness
  rw [if_pos e, if_pos ⟨hy0, g2⟩, tn_nI (show i < 2 ^ 31 by omega), tn_nI hr, if_pos hlt, tn_nI (show t < 2 ^ 31 by omega)]
  have h7 : t = 0 ∨ t = 1 ∨ t = 2 := by omega
  rcases h7 with rfl | rfl | rfl <;> rfl
theorem X_witness_ok {b : Nat} {a : As} {x y z : Int32} {σ : St} (h : XI b σ a) (ha : asok a) (hN : b + 121 ≤ s_n σ) : ∃ c d, c ≤ Tz b σ ∧ d ≤ Ts b σ ∧ ∀ Q : Int32 → St → Prop, (∀ σ', yk b σ σ' → XI b σ' a → c + Tz b σ' ≤ Tz b σ → d + Ts b σ' ≤ Ts b σ → Q (qWitness a x y z) σ') → P_X_witness b x y z σ c d Q := by
  have h5 := ha.1.2.1
  by_cases e : isN a.1.2.2.length x = true
  · obtain ⟨i, hi, rfl⟩ := isN_ex e (by omega)
    have t1 := tn_nI (show i < 2 ^ 31 by omega)
    by_cases e2 : ¬ y < 0 ∧ isN 3 z = true
    · obtain ⟨g1, g2⟩ := e2
      obtain ⟨r, hr, rfl⟩ := nI_of g1
      obtain ⟨t, ht, rfl⟩ := isN_ex g2 (by decide)
      have hy0 : 0 ≤ (nI r).toInt := by rw [nI_toInt hr]; omega
      refine ⟨Lz b σ + nz b σ (pls b (s_r σ (b + 2)) (fwU a.1.2.2 i)), 308 * Lz b σ + 3341 * nz b σ (pls b (s_r σ (b + 2)) (fwU a.1.2.2 i)), Tz_c _, Ts_c _, fun Q k => ?_⟩
      refine ⟨h.1.1.o, nn_mk (b + 1) h.1.1.o0 (S_hasLaw_ok h.1.now h.len h5 (b_b _ rfl (fun z => by rw [e] at z; cases z) (fun _ => b_ff g1 (b_lt t 0 rfl nI_0.symm (by omega) (by decide) (fun z => absurd z (Nat.not_lt_zero t)) (fun _ => b_tt (nI_le (by omega) (by decide)) (nn_mk (b + 88) h.1.1.o4 ⟨Lz b σ + nz b σ (pls b (s_r σ (b + 2)) (fwU a.1.2.2 i)), 308 * Lz b σ + 3341 * nz b σ (pls b (s_r σ (b + 2)) (fwU a.1.2.2 i)), by omega, by omega, ?_⟩))))))⟩
      rw [h.1.1.o0]
      refine E_findWitnesses_ok h ha hN hi (Nat.le_refl _) (Nat.le_refl _) (fun s1 c1 h1 hl1 hT1 hE1 => ?_)
      obtain ⟨u1, u2⟩ := Tz_le hE1 hl1
      have kq := k s1 (sf_y c1) h1 u1 u2
      refine nn_mk (b + 88) h1.1.1.o4 (E_witnessNumber_ok h1.1 (h1.R hl1) hT1 (wit_len _ _) wit_lt' hr ht (fun hle => ?_) (fun hlt => ?_))
      · have eo : qWitness a (nI i) (nI r) (nI t) = (-5) := by
          unfold qWitness
          rw [if_pos e, t1, if_pos ⟨hy0, g2⟩, tn_nI hr, if_neg (by omega)]
        rw [eo] at kq; exact kq
      · have eo := qWitness_eq e hi (by omega) hr hlt t ht g2
        rw [eo] at kq; exact kq
    · refine ⟨0, 0, Nat.zero_le _, Nat.zero_le _, fun Q k => ?_⟩
      have eo : qWitness a (nI i) y z = (-2) := by
        unfold qWitness
        rw [if_pos e, if_neg]
        rintro ⟨z1, z2⟩
        refine e2 ⟨fun w => ?_, z2⟩
        have := Int32.lt_iff_toInt_lt.mp w
        simp at this
        omega
      have kq := k σ cx.rf h (by omega) (by omega)
      rw [eo] at kq
      refine ⟨h.1.1.o, nn_mk (b + 1) h.1.1.o0 (S_hasLaw_ok h.1.now h.len h5 (b_b _ rfl (fun z => by rw [e] at z; cases z) (fun _ => b_or (fun _ => kq) (fun g1 => b_or (fun _ => kq) (fun g2 => b_or (fun g3 => ?_) (fun _ => kq))))))⟩
      exfalso
      obtain ⟨t, ht, rfl⟩ := nI_of g2
      have := (nI_leI (a := t) (b := 2) ht (by decide)).mp g3
      exact e2 ⟨g1, by rw [isN_nI ht]; simp; omega⟩
  · refine ⟨0, 0, Nat.zero_le _, Nat.zero_le _, fun Q k => ?_⟩
    have eo : qWitness a x y z = (-1) := by
      unfold qWitness
      rw [if_neg e]
    have kq := k σ cx.rf h (by omega) (by omega)
    rw [eo] at kq
    exact ⟨h.1.1.o, nn_mk (b + 1) h.1.1.o0 (S_hasLaw_ok h.1.now h.len h5 (b_b _ rfl (fun _ => kq) (fun z => absurd z e)))⟩
theorem TD.x {b : Nat} {T : List Nat} {f : Nat → Nat} {SI SR : Nat → Nat → Prop} {σ σ' : St} (h : TD b T f σ) (c : chg SI SR σ σ') (h6 : ¬ SI (b + 88) 6) (h99 : ∀ k, ¬ SI (b + 99) k) (h100 : ∀ k, ¬ SI (b + 100) k) : TD b T f σ' := ⟨(c.i h6).trans h.1, fun p hp => ⟨(c.i (h99 p)).trans (h.2 p hp).1, (c.i (h100 p)).trans (h.2 p hp).2⟩⟩
theorem X_refute_ok {b : Nat} {a : As} {x : Int32} {σ : St} (h : XI b σ a) (ha : asok a) (hN : b + 121 ≤ s_n σ) : ∃ c d, c ≤ Tz b σ ∧ d ≤ Ts b σ ∧ ∀ Q : Int32 → St → Prop, (∀ σ', yk b σ σ' → XI b σ' (opRefute a x).2 → c + Tz b σ' ≤ Tz b σ → d + Ts b σ' ≤ Ts b σ → Q (opRefute a x).1 σ') → P_X_refute b x σ c d Q := by
  have h5 := ha.1.2.1
  by_cases e : isN a.1.2.2.length x = true
  · obtain ⟨i, hi, rfl⟩ := isN_ex e (by omega)
    have t1 := tn_nI (show i < 2 ^ 31 by omega)
    refine ⟨Lz b σ + nz b σ (pls b (s_r σ (b + 2)) (fwU a.1.2.2 i)), 308 * Lz b σ + 3341 * nz b σ (pls b (s_r σ (b + 2)) (fwU a.1.2.2 i)), Tz_c _, Ts_c _, fun Q k => ?_⟩
    refine ⟨h.1.1.o, nn_mk (b + 1) h.1.1.o0 (S_hasLaw_ok h.1.now h.len h5 (b_b _ rfl (fun z => by rw [e] at z; cases z) (fun _ => nn_mk (b + 88) h.1.1.o4 ⟨Lz b σ + nz b σ (pls b (s_r σ (b + 2)) (fwU a.1.2.2 i)), 308 * Lz b σ + 3341 * nz b σ (pls b (s_r σ (b + 2)) (fwU a.1.2.2 i)), by omega, by omega, ?_⟩)))⟩
    rw [h.1.1.o0]
    refine E_findWitnesses_ok h ha hN hi (Nat.le_refl _) (Nat.le_refl _) (fun s1 c1 h1 hl1 hT1 hE1 => ?_)
    obtain ⟨u1, u2⟩ := Tz_le hE1 hl1
    have hl := wit_len a.1.2.2 i
    have hwl := wit_lt' (ls := a.1.2.2) (i := i)
    obtain ⟨T, eT⟩ : ∃ T, T = wit a.1.2.2 i := ⟨_, rfl⟩
    rw [← eT] at hT1 hl hwl ⊢
    cases T with
    | nil =>
      have eo : opRefute a (nI i) = (-5, a) := by simp only [opRefute, e, t1, if_true, ← eT]
      rw [eo] at k
      exact b_tt rfl (k s1 (sf_y c1) h1 u1 u2)
    | cons w ws =>
      have eo : opRefute a (nI i) = (nI (pwc w), act a (pws w, pwc w, a.1.2.2)) := by simp only [opRefute, e, t1, if_true, ← eT]
      rw [eo] at k
      have hw : w < 3341 := hwl w (by simp)
      refine b_ff (fun z => ?_) (nn_mk (b + 4) h1.1.1.o1 ?_)
      · have := (nI_eq (a := (w :: ws).length) (b := 0) (by omega) (by decide)).mp z
        simp at this
      rw [h1.1.1.o0]
      refine h1.rec ha (fun s2 c2 h2 => ?_)
      have hT2 := hT1.x c2 (by unfold rcI; omega) (fun k => by unfold rcI; omega) (fun k => by unfold rcI; omega)
      have hl2 : s_i s2 (b + 94) 3 = nI 3341 := (c2.i (by unfold rcI; omega)).trans hl1
      have hR2 := h2.R hl2
      refine nn_mk (b + 88) h2.1.1.o4 (E_witnessNumber_ok (r := 0) (t := 0) h2.1 hR2 hT2 hl hwl (by decide) (by decide) (fun z => absurd z (by simp)) (fun _ => ?_))
      have eg : (w :: ws).getD 0 0 = w := rfl
      simp only [eg]
      have cA : chg (fun q k => q = b + 1 ∧ (k = 3 ∨ k = 4)) no s2 (w_i s2 (b + 1) 3 (nI (pws w))) := chg.rf.wi ⟨rfl, Or.inl rfl⟩
      refine ob_mk (b + 1) h2.1.1.o0 h2.1.now.s ?_
      have hXA := h2.1.g cA.x h2.2.1 (fun q k z => z.elim)
      have hRA : PwR b (w_i s2 (b + 1) 3 (nI (pws w))) := hR2.g cA.x h2.2.1 (fun q k z => by omega)
      have hTA := hT2.x cA (by omega) (fun k => by omega) (fun k => by omega)
      refine nn_mk (b + 88) hXA.1.o4 (E_witnessNumber_ok (r := 0) (t := 1) hXA hRA hTA hl hwl (by decide) (by decide) (fun z => absurd z (by simp)) (fun _ => ?_))
      simp only [eg]
      have cB : chg (fun q k => q = b + 1 ∧ (k = 3 ∨ k = 4)) no s2 (w_i (w_i s2 (b + 1) 3 (nI (pws w))) (b + 1) 4 (nI (pwc w))) := cA.wi ⟨rfl, Or.inr rfl⟩
      have hXB := h2.1.g cB.x h2.2.1 (fun q k z => z.elim)
      refine ob_mk (b + 1) hXA.1.o0 hXA.now.s (ob_mk (b + 1) hXB.1.o0 hXB.now.s ?_)
      have v4 : s_i (w_i (w_i s2 (b + 1) 3 (nI (pws w))) (b + 1) 4 (nI (pwc w))) (b + 1) 4 = nI (pwc w) := by rw [s_i_wi, if_pos ⟨rfl, rfl⟩]
      have v3 : s_i (w_i (w_i s2 (b + 1) 3 (nI (pws w))) (b + 1) 4 (nI (pwc w))) (b + 1) 3 = nI (pws w) := by rw [s_i_wi, if_neg (fun z => by omega), s_i_wi, if_pos ⟨rfl, rfl⟩]
      rw [v4]
      have hB := h2.setC cB v3 v4
      have kB : xk b s1 (w_i (w_i s2 (b + 1) 3 (nI (pws w))) (b + 1) 4 (nI (pwc w))) := (rec_k c2).tr (cB.k (fun q k z => by omega) (fun q k z => z.elim))
      obtain ⟨w1, w2⟩ := xk_T kB
      exact k _ ((sf_y c1).tr kB.1) hB (by rw [w1]; exact u1) (by rw [w2]; exact u2)
  · refine ⟨0, 0, Nat.zero_le _, Nat.zero_le _, fun Q k => ?_⟩
    have eo : opRefute a x = (-1, a) := by
      unfold opRefute
      rw [if_neg e]
    rw [eo] at k
    have kq := k σ cx.rf h (by omega) (by omega)
    exact ⟨h.1.1.o, nn_mk (b + 1) h.1.1.o0 (S_hasLaw_ok h.1.now h.len h5 (b_b _ rfl (fun _ => kq) (fun z => absurd z e)))⟩
theorem X_law_ok {b : Nat} {a : As} {x y : Int32} {σ : St} (h : XI b σ a) (ha : asok a) (hN : b + 121 ≤ s_n σ) : ∃ c d, c ≤ Tz b σ ∧ d ≤ Ts b σ ∧ ∀ Q : Int32 → St → Prop, (∀ σ', yk b σ σ' → XI b σ' a → c + Tz b σ' ≤ Tz b σ → d + Ts b σ' ≤ Ts b σ → Q (qLaw a x y) σ') → P_X_law b x y σ c d Q := by
  have h5 := ha.1.2.1
  by_cases e : isN a.1.2.2.length x = true
  · obtain ⟨i, hi, rfl⟩ := isN_ex e (by omega)
    have t1 := tn_nI (show i < 2 ^ 31 by omega)
    have hok := ha.1.2.2 _ (lwg_mem hi)
    obtain ⟨j, hj, hr, hLw, hl2, hl3⟩ := h.law hi
    have eat : s_r σ (b + 1 + 1) i = some (b + 23 + 2 * j) := hr
    have eq0 : ∀ t, t < 7 → y = nI t → qLaw a (nI i) y = (match t with
      | 0 => bI (lwg a.1.2.2 i).1
      | 1 => nI (bc a.1.1 a.1.2.1 (lwg a.1.2.2 i).2)
      | 2 => nI (letn (lwg a.1.2.2 i).2)
      | 3 => nI (lets ((lwg a.1.2.2 i).2.1 ++ (lwg a.1.2.2 i).2.2))
      | 4 => bI ((wit a.1.2.2 i).length == 0)
      | 5 => nI (wit a.1.2.2 i).length
      | _ => fbr a.1.1 a.1.2.1 (lwg a.1.2.2 i).2 (a.1.1 * a.1.1 * a.1.1)) := by
      intro t ht ey
      subst ey
      unfold qLaw
      rw [if_pos e, if_pos (by rw [isN_nI (by omega)]; simpa using ht), tn_nI (show t < 2 ^ 31 by omega), t1]
      have h7 : t = 0 ∨ t = 1 ∨ t = 2 ∨ t = 3 ∨ t = 4 ∨ t = 5 ∨ t = 6 := by omega
      rcases h7 with rfl | rfl | rfl | rfl | rfl | rfl | rfl <;> rfl
    have hlw : ∀ (c d : Nat) (Q : Int32 → St → Prop), (isN a.1.2.2.length (nI i) = false → Q (-1) σ) → ∀ Z : Option Nat → St → Prop, Z (some (b + 23 + 2 * j)) σ → P_S_lawAt (b + 1) (nI i) σ Z := by
      intro _ _ _ _ Z hZ
      refine S_lawAt_ok h.1.now h.len h5 (fun z => by rw [e] at z; cases z) (fun i' hi' ei => ?_)
      have : i' = i := ((nI_eq (by omega) (by omega)).mp ei).symm
      subst this
      rw [eat]
      exact hZ
    by_cases e45 : y = nI 4 ∨ y = nI 5
    · refine ⟨Lz b σ + nz b σ (pls b (s_r σ (b + 2)) (fwU a.1.2.2 i)), 308 * Lz b σ + 3341 * nz b σ (pls b (s_r σ (b + 2)) (fwU a.1.2.2 i)), Tz_c _, Ts_c _, fun Q k => ?_⟩
      refine ⟨h.1.1.o, nn_mk (b + 1) h.1.1.o0 (hlw 0 0 (fun _ _ => True) (fun _ => trivial) _ (b_ff (fun z => by cases z) ?_))⟩
      have hl := wit_len a.1.2.2 i
      rcases e45 with rfl | rfl
      · refine b_ff (by decide) (b_ff (by decide) (b_ff (by decide) (b_ff (by decide) (b_tt rfl (nn_mk (b + 88) h.1.1.o4 ⟨Lz b σ + nz b σ (pls b (s_r σ (b + 2)) (fwU a.1.2.2 i)), 308 * Lz b σ + 3341 * nz b σ (pls b (s_r σ (b + 2)) (fwU a.1.2.2 i)), by omega, by omega, ?_⟩)))))
        rw [h.1.1.o0]
        refine E_findWitnesses_ok h ha hN hi (Nat.le_refl _) (Nat.le_refl _) (fun s1 c1 h1 hl1 hT1 hE1 => ?_)
        obtain ⟨u1, u2⟩ := Tz_le hE1 hl1
        have kq := k s1 (sf_y c1) h1 u1 u2
        rw [eq0 4 (by decide) rfl] at kq
        have kq : Q (bI ((wit a.1.2.2 i).length == 0)) s1 := kq
        refine b_z _ rfl (by omega) (fun e0 => ?_) (fun e0 => ?_)
        · rw [e0] at kq; exact kq
        · have : ((wit a.1.2.2 i).length == 0) = false := by rw [beq_eq_false_iff_ne]; exact e0
          rw [this] at kq; exact kq
      · refine b_ff (by decide) (b_ff (by decide) (b_ff (by decide) (b_ff (by decide) (b_ff (by decide) (b_tt rfl (nn_mk (b + 88) h.1.1.o4 ⟨Lz b σ + nz b σ (pls b (s_r σ (b + 2)) (fwU a.1.2.2 i)), 308 * Lz b σ + 3341 * nz b σ (pls b (s_r σ (b + 2)) (fwU a.1.2.2 i)), by omega, by omega, ?_⟩))))))
        rw [h.1.1.o0]
        refine E_findWitnesses_ok h ha hN hi (Nat.le_refl _) (Nat.le_refl _) (fun s1 c1 h1 hl1 hT1 hE1 => ?_)
        obtain ⟨u1, u2⟩ := Tz_le hE1 hl1
        have kq := k s1 (sf_y c1) h1 u1 u2
        rw [eq0 5 (by decide) rfl] at kq
        exact kq
    · refine ⟨0, 0, Nat.zero_le _, Nat.zero_le _, fun Q k0 => ?_⟩
      have k : ∀ σ', xk b σ σ' → XI b σ' a → Q (qLaw a (nI i) y) σ' := fun s1 c1 h1 => by
        obtain ⟨w1, w2⟩ := xk_T c1
        exact k0 s1 c1.1 h1 (by omega) (by omega)
      refine ⟨h.1.1.o, nn_mk (b + 1) h.1.1.o0 (hlw 0 0 (fun _ _ => True) (fun _ => trivial) _ (b_ff (fun z => by cases z) ?_))⟩
      refine b_or (fun ey => ?_) (fun n0 => b_or (fun ey => ?_) (fun n1 => b_or (fun ey => ?_) (fun n2 => b_or (fun ey => ?_) (fun n3 => b_or (fun ey => ?_) (fun n4 => b_or (fun ey => ?_) (fun n5 => b_or (fun ey => ?_) (fun n6 => ?_)))))))
      · have kq := k σ xk.rf h
        rw [eq0 0 (by decide) ey] at kq
        have kq : Q (bI (lwg a.1.2.2 i).1) σ := kq
        refine ob_mk (b + 1) h.1.1.o0 h.1.now.s (ar_mk (b + 3) 5 i h.1.now.r2 h.1.now.a2 rfl (by omega) (by decide) ?_)
        rw [h.on i hi]
        refine b_b _ rfl (fun eb => ?_) (fun eb => ?_)
        · rw [eb] at kq; exact kq
        · rw [eb] at kq; exact kq
      · refine X_brokenNow_ok h ha hi hj rfl hLw (fun s1 k1 h1 => I_bitCount_ok (bset27 ha.1.1.1 _) ?_)
        have kq := k s1 k1 h1
        rw [eq0 1 (by decide) ey] at kq
        have h27 := n27 ha.1.1.1
        rw [pop_bset (by omega)]
        exact kq
      · have kq := k σ xk.rf h
        rw [eq0 2 (by decide) ey] at kq
        refine ob_mk (b + 23 + 2 * j) rfl (h.1.2.2.2.1 j hj).1 ?_
        rw [hl2]; exact kq
      · have kq := k σ xk.rf h
        rw [eq0 3 (by decide) ey] at kq
        refine ob_mk (b + 23 + 2 * j) rfl (h.1.2.2.2.1 j hj).1 ?_
        rw [hl3]; exact kq
      · exact absurd (Or.inl ey) e45
      · exact absurd (Or.inr ey) e45
      · refine X_brokenNow_ok h ha hi hj rfl hLw (fun s1 k1 h1 => X_firstCase_ok (n27 ha.1.1.1) ?_)
        have kq := k s1 k1 h1
        rw [eq0 6 (by decide) ey] at kq
        exact kq
      · have eo : qLaw a (nI i) y = (-2) := by
          unfold qLaw
          rw [if_pos e, if_neg]
          intro hy
          obtain ⟨t, ht, rfl⟩ := isN_ex hy (by decide)
          have h7 : t = 0 ∨ t = 1 ∨ t = 2 ∨ t = 3 ∨ t = 4 ∨ t = 5 ∨ t = 6 := by omega
          rcases h7 with rfl | rfl | rfl | rfl | rfl | rfl | rfl
          · exact n0 rfl
          · exact n1 rfl
          · exact n2 rfl
          · exact n3 rfl
          · exact n4 rfl
          · exact n5 rfl
          · exact n6 rfl
        have kq := k σ xk.rf h
        rw [eo] at kq; exact kq
  · refine ⟨0, 0, Nat.zero_le _, Nat.zero_le _, fun Q k => ?_⟩
    have eo : qLaw a x y = (-1) := by
      unfold qLaw
      rw [if_neg e]
    have kq := k σ cx.rf h (by omega) (by omega)
    rw [eo] at kq
    refine ⟨h.1.1.o, nn_mk (b + 1) h.1.1.o0 (S_lawAt_ok h.1.now h.len h5 (fun _ => b_tt rfl kq) (fun i hi ei => absurd ?_ e))⟩
    rw [ei, isN_nI (by omega)]
    simpa using hi
theorem X_countFollowing_ok {b mc ms : Nat} {a : As} {σ : St} {Q : Int32 → St → Prop} (h : XI b σ a) (ha : asok a) (hN : b + 121 ≤ s_n σ) (hlen : 0 < a.1.2.2.length) (hmc : Lz b σ + nz b σ (pls b (s_r σ (b + 2)) (fun y => decide (y < a.1.2.2.length))) ≤ mc) (hms : 308 * Lz b σ + 3341 * nz b σ (pls b (s_r σ (b + 2)) (fun y => decide (y < a.1.2.2.length))) ≤ ms)
    (k : ∀ σ', yk b σ σ' → XI b σ' a → s_i σ' (b + 94) 3 = nI 3341 → (∀ j, j < 30 → emp b σ' j = true → emp b σ j = true ∧ pls b (s_r σ (b + 2)) (fun y => decide (y < a.1.2.2.length)) j = false) → Q (nI (ct (fun i => (wit a.1.2.2 i).length == 0) a.1.2.2.length)) σ') : P_X_countFollowing b σ mc ms Q := by
  have h5 := ha.1.2.1
  obtain ⟨ls, els⟩ : ∃ ls, ls = a.1.2.2 := ⟨_, rfl⟩
  obtain ⟨R, eR⟩ : ∃ R, R = s_r σ (b + 2) := ⟨_, rfl⟩
  rw [← els] at h5 hlen
  rw [← els, ← eR] at hmc hms k
  refine ⟨h.1.1.o, fun K4 h4 => ?_⟩
  have key := loopU (P := fun x s' => XI b s' a ∧ cx (sfI b) (dcR b) σ s' ∧ (0 < x → s_i s' (b + 94) 3 = nI 3341) ∧ ∀ j, j < 30 → emp b s' j = true → emp b σ j = true ∧ pls b R (fun y => decide (y < x)) j = false) (G := fun x s' => ∀ ca cb, ca + (Lz b s' + nz b s' (pls b R (fun y => decide (y < ls.length)))) ≤ mc → cb + (308 * Lz b s' + 3341 * nz b s' (pls b R (fun y => decide (y < ls.length)))) ≤ ms → K4 (nI (ct (fun i => (wit ls i).length == 0) x)) (nI x) s' ca cb) ls.length ?_ ?_ 0 σ (Nat.zero_le _) ⟨h, cx.rf, fun z => absurd z (Nat.lt_irrefl 0), fun j _ he => ⟨he, ?_⟩⟩
  · exact key 0 0 (by omega) (by omega)
  · rintro s' ⟨hi, hc, hl, hE⟩ ca cb _ _
    refine h4 _ _ _ _ _ (ob_mk (b + 1) hi.1.1.o0 hi.1.now.s ?_)
    rw [hi.len, ← els]
    exact b_tt (nI_le (Nat.le_refl _) (by omega)) (k s' (sf_y hc) hi (hl hlen) hE)
  · rintro x s' hx ⟨hi, hc, hl, hE⟩ ih ca cb h1 h2
    have hn := hc.n
    have hix : x < a.1.2.2.length := by rw [← els]; exact hx
    have eRs : s_r s' (b + 2) = R := by
      funext y
      rw [hc.r (by omega) (by unfold dcR cnR; omega), eR]
    refine h4 _ _ _ _ _ (ob_mk (b + 1) hi.1.1.o0 hi.1.now.s ?_)
    rw [hi.len, ← els]
    have hU : ∀ i, i < 5 → fwU ls x i = true → decide (i < ls.length) = true := fun i _ hI => by
      unfold fwU dmx at hI
      rw [decide_eq_true_eq]
      rcases bI_or hI with g | g
      · rw [Bool.and_eq_true, decide_eq_true_eq] at g
        exact g.1
      · rw [beq_iff_eq] at g
        omega
    have hm : nz b s' (pls b R (fwU ls x)) ≤ nz b s' (pls b R (fun y => decide (y < ls.length))) := nz_mono (fun _ _ z => z) (fun y _ z => pls_m z hU)
    have hm3 := Nat.mul_le_mul_left 3341 hm
    refine b_ff (nI_ge hx (by omega)) (nn_mk (b + 88) hi.1.1.o4 ⟨Lz b s' + nz b s' (pls b R (fwU ls x)), 308 * Lz b s' + 3341 * nz b s' (pls b R (fwU ls x)), by omega, by omega, ?_⟩)
    rw [hi.1.1.o0]
    refine E_findWitnesses_ok hi ha (by omega) hix (by rw [eRs, ← els]; exact Nat.le_refl _) (by rw [eRs, ← els]; exact Nat.le_refl _) (fun s2 c2 hi2 hl2 hT2 hE2 => ?_)
    rw [eRs, ← els] at hE2
    rw [← els]
    have hw := wit_len ls x
    have hsum : nz b s' (pls b R (fwU ls x)) + nz b s2 (pls b R (fun y => decide (y < ls.length))) ≤ nz b s' (pls b R (fun y => decide (y < ls.length))) := ct_two (fun y hy => ⟨fun z => by
      rw [Bool.and_eq_true] at z ⊢
      exact ⟨z.1, pls_m z.2 hU⟩, fun z => by
      rw [Bool.and_eq_true] at z
      obtain ⟨z1, z2⟩ := hE2 y hy z.1
      exact ⟨by rw [z1, z.2]; rfl, by rw [z2, Bool.and_false]⟩⟩)
    have hsum3 := Nat.mul_le_mul_left 3341 hsum
    rw [Nat.mul_add] at hsum3
    have L0 := Lz0 hl2
    have := ih s2 ⟨hi2, hc.tr c2, fun _ => hl2, fun y hy he => by
      obtain ⟨p1, p2⟩ := hE2 y hy he
      obtain ⟨p3, p4⟩ := hE y hy p1
      refine ⟨p3, ?_⟩
      cases ez : pls b R (fun i => decide (i < x + 1)) y with
      | false => rfl
      | true =>
        obtain ⟨i, g1, g2, g3⟩ := pls_t.mp ez
        rw [decide_eq_true_eq] at g2
        rcases Nat.lt_or_ge i x with g | g
        · have := (pls_t (I := fun y => decide (y < x))).mpr ⟨i, g1, decide_eq_true g, g3⟩
          rw [p4] at this
          cases this
        · have ei : i = x := by omega
          have := (pls_t (I := fwU ls x)).mpr ⟨i, g1, by rw [ei]; unfold fwU; simp, g3⟩
          rw [p2] at this
          cases this⟩ (ca + (Lz b s' + nz b s' (pls b R (fwU ls x)))) (cb + (308 * Lz b s' + 3341 * nz b s' (pls b R (fwU ls x)))) (by rw [L0]; omega) (by rw [L0]; omega)
    rw [ct] at this
    refine b_z _ rfl (by omega) (fun e0 => ?_) (fun e0 => ?_)
    · rw [if_pos (by rw [e0]; rfl)] at this
      rw [nI_add, nI_add]; exact this
    · rw [if_neg (by simpa using e0)] at this
      rw [nI_add]; exact this
  · cases ez : pls b R (fun y => decide (y < 0)) j with
    | false => rfl
    | true =>
      obtain ⟨i, -, hI, -⟩ := pls_t.mp ez
      simp at hI
theorem X_count_ok {b : Nat} {a : As} {x : Int32} {σ : St} (h : XI b σ a) (ha : asok a) (hN : b + 121 ≤ s_n σ) : ∃ c d, c ≤ Tz b σ ∧ d ≤ Ts b σ ∧ ∀ Q : Int32 → St → Prop, (∀ σ', yk b σ σ' → XI b σ' a → c + Tz b σ' ≤ Tz b σ → d + Ts b σ' ≤ Ts b σ → Q (qCount a x) σ') → P_X_count b x σ c d Q := by
  have h5 := ha.1.2.1
  have h4 := ha.2.1.1
  have h60 := ha.2.2.2.1
  have eq0 : ∀ t, t < 6 → x = nI t → qCount a x = (match t with
    | 0 => nI a.1.2.2.length
    | 1 => nI (lawsOn a.1.2.2)
    | 2 => nI (holdNow a.1 false)
    | 3 => nI (ct (fun i => (wit a.1.2.2 i).length == 0) a.1.2.2.length)
    | 4 => nI a.2.1.length
    | _ => nI a.2.2.2.length) := by
    intro t ht ey
    subst ey
    unfold qCount
    rw [if_pos (by rw [isN_nI (by omega)]; simpa using ht), tn_nI (show t < 2 ^ 31 by omega)]
    have h7 : t = 0 ∨ t = 1 ∨ t = 2 ∨ t = 3 ∨ t = 4 ∨ t = 5 := by omega
    rcases h7 with rfl | rfl | rfl | rfl | rfl | rfl <;> rfl
  by_cases e3 : x = nI 3 ∧ 0 < a.1.2.2.length
  · obtain ⟨rfl, hlen⟩ := e3
    refine ⟨Lz b σ + nz b σ (pls b (s_r σ (b + 2)) (fun y => decide (y < a.1.2.2.length))), 308 * Lz b σ + 3341 * nz b σ (pls b (s_r σ (b + 2)) (fun y => decide (y < a.1.2.2.length))), Tz_c _, Ts_c _, fun Q k => ?_⟩
    refine ⟨h.1.1.o, b_ff (by decide) (b_ff (by decide) (b_ff (by decide) (b_tt rfl ⟨Lz b σ + nz b σ (pls b (s_r σ (b + 2)) (fun y => decide (y < a.1.2.2.length))), 308 * Lz b σ + 3341 * nz b σ (pls b (s_r σ (b + 2)) (fun y => decide (y < a.1.2.2.length))), by omega, by omega, ?_⟩)))⟩
    refine X_countFollowing_ok h ha hN hlen (Nat.le_refl _) (Nat.le_refl _) (fun s1 c1 h1 hl1 hE1 => ?_)
    obtain ⟨u1, u2⟩ := Tz_le hE1 hl1
    have kq := k s1 c1 h1 u1 u2
    rw [eq0 3 (by decide) rfl] at kq
    exact kq
  · refine ⟨0, 0, Nat.zero_le _, Nat.zero_le _, fun Q k0 => ?_⟩
    have k : ∀ σ', xk b σ σ' → XI b σ' a → Q (qCount a x) σ' := fun s1 c1 h1 => by
      obtain ⟨w1, w2⟩ := xk_T c1
      exact k0 s1 c1.1 h1 (by omega) (by omega)
    refine ⟨h.1.1.o, b_or (fun ey => ?_) (fun n0 => b_or (fun ey => ?_) (fun n1 => b_or (fun ey => ?_) (fun n2 => b_or (fun ey => ?_) (fun n3 => b_or (fun ey => ?_) (fun n4 => b_or (fun ey => ?_) (fun n5 => ?_))))))⟩
    · have kq := k σ xk.rf h
      rw [eq0 0 (by decide) ey] at kq
      refine ob_mk (b + 1) h.1.1.o0 h.1.now.s ?_
      rw [h.len]; exact kq
    · have kq := k σ xk.rf h
      rw [eq0 1 (by decide) ey] at kq
      exact nn_mk (b + 1) h.1.1.o0 (S_onCount_ok h.1.now h.len h5 h.on kq)
    · refine X_countHolding_ok (on := false) h ha rfl (fun s1 k1 h1 => ?_)
      have kq := k s1 k1 h1
      rw [eq0 2 (by decide) ey] at kq
      exact kq
    · have hz : a.1.2.2.length = 0 := by
        rcases Nat.eq_zero_or_pos a.1.2.2.length with z | z
        · exact z
        · exact absurd ⟨ey, z⟩ e3
      have kq := k σ xk.rf h
      rw [eq0 3 (by decide) ey] at kq
      have kq : Q (nI (ct (fun i => (wit a.1.2.2 i).length == 0) a.1.2.2.length)) σ := kq
      rw [hz] at kq
      refine ⟨0, 0, by omega, by omega, h.1.1.o, fun K4 hk4 => hk4 _ _ _ _ _ (ob_mk (b + 1) h.1.1.o0 h.1.now.s ?_)⟩
      rw [h.len, hz]
      exact b_tt (nI_le (Nat.le_refl _) (by decide)) kq
    · have kq := k σ xk.rf h
      rw [eq0 4 (by decide) ey] at kq
      obtain ⟨hX, -, sp, -, -, -, hH, -⟩ := h
      refine ob_mk (b + 4) hX.1.o1 hX.1.h ?_
      rw [hH.1]; exact kq
    · have kq := k σ xk.rf h
      rw [eq0 5 (by decide) ey] at kq
      obtain ⟨-, -, sp, -, -, -, -, -, hT, -⟩ := h
      rw [hT.1]; exact kq
    · have eo : qCount a x = (-2) := by
        unfold qCount
        rw [if_neg]
        intro hy
        obtain ⟨t, ht, rfl⟩ := isN_ex hy (by decide)
        have h7 : t = 0 ∨ t = 1 ∨ t = 2 ∨ t = 3 ∨ t = 4 ∨ t = 5 := by omega
        rcases h7 with rfl | rfl | rfl | rfl | rfl | rfl
        · exact n0 rfl
        · exact n1 rfl
        · exact n2 rfl
        · exact n3 rfl
        · exact n4 rfl
        · exact n5 rfl
      have kq := k σ xk.rf h
      rw [eo] at kq; exact kq
