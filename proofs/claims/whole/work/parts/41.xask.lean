/-! The class: what is told of the world of now. -/
theorem XI.law {b i : Nat} {a : As} {σ : St} (h : XI b σ a) (hi : i < a.1.2.2.length) : ∃ j, j < 30 ∧ s_r σ (b + 2) i = some (b + 23 + 2 * j) ∧ LawC (b + 23 + 2 * j) ((lwg a.1.2.2 i).2.1 ++ (lwg a.1.2.2 i).2.2) σ ∧ s_i σ (b + 23 + 2 * j) 2 = nI (letn (lwg a.1.2.2 i).2) ∧ s_i σ (b + 23 + 2 * j) 3 = nI (lets ((lwg a.1.2.2 i).2.1 ++ (lwg a.1.2.2 i).2.2)) := by
  obtain ⟨hX, hN, sp, hSh, hW, hS, hR⟩ := h
  obtain ⟨g1, j, g2, g3, g4⟩ := hS.2.2.2 i hi
  have hp := (hSh j g2).1
  rw [g4] at hp
  exact ⟨j, g2, g3, (hX.2.2.2.1 j g2).lawC hp, hp.2.2.2.1, hp.2.2.2.2⟩
theorem XI.bn {b : Nat} {σ σ' : St} {a : As} (h : XI b σ a) (c : chg (bq (b + 83)) no σ σ') (hV : BV (b + 83) σ') : XI b σ' a := by
  obtain ⟨hX, hN, sp, hSh, ⟨hW0, hW⟩, hS, hH, hSn, hT, ⟨hB1, hB2⟩, hP⟩ := h
  exact ⟨hX.g c.x hN (fun q k z => z.elim), by rw [c.n]; exact hN, sp, hSh.g c.x hN (fun q k z => by unfold bq; omega) (fun j hj z => z), ⟨hW0.g c.x (by omega) (fun k z => z), fun t ht => (hW t ht).g c.x (by omega) (fun k z => z)⟩, hS.g c.x (by omega) (fun k _ _ => by unfold bq; omega) (fun k => by unfold bq; omega) (fun k z => z), hH.g c.x hN (fun q k z => by unfold bq; omega) (fun q k z z2 => z2), hSn.g c.x hN (fun q k z => by unfold bq; omega) (fun k z => z), hT.g c.x hN (by unfold bq; omega) (fun k => by unfold bq; omega), ⟨hV, hB2.g c.x (by omega) (by unfold bq; omega) (fun k => by unfold bq; omega) (fun k => by unfold bq; omega)⟩, hP.g c.x hN (by unfold bq; omega) (fun q k z => by unfold bq; omega)⟩
theorem XI.b1 {b : Nat} {a : As} {σ : St} (h : XI b σ a) : BV (b + 83) σ := by
  obtain ⟨-, -, sp, -, -, -, -, -, -, ⟨hB, -⟩, -⟩ := h
  exact hB
theorem bn_k {b : Nat} {σ σ' : St} (c : chg (bq (b + 83)) no σ σ') : xk b σ σ' := c.k (fun q k z => by unfold bq at z; omega) (fun q k z => z.elim)
theorem bj_bq {c q k : Nat} (h : bj c q k) : bq c q k := by unfold bj at h; unfold bq; omega
/-- a law worked out in a world -/
theorem bench_law {b j n code : Nat} {w : Lw} {a : As} {σ : St} {Q : St → Prop} (h : XI b σ a) (hw : wok n code) (hj : j < 30) (hL : LawC (b + 23 + 2 * j) (w.1 ++ w.2) σ) (ho : okL w)
    (k : ∀ σ', xk b σ σ' → XI b σ' a → BL (b + 83) σ' → s_i σ' (b + 83) 4 = nI n → PA (b + 83) (n * n * n) (fun k => run n code k [] (w.1 ++ w.2)) 2 σ' → GV n (n * n * n) (fun k => run n code k [] (w.1 ++ w.2)) 2 → s_r σ' b 3 = some (b + 83) → LawC (b + 23 + 2 * j) (w.1 ++ w.2) σ' → Q σ') : P_B_open (b + 83) (nI n) (nI code) σ (fun σ4 => nn (s_r σ4 b 3) (fun q5 => P_B_run q5 (some (b + 23 + 2 * j)) σ4 (fun σ6 => Q σ6))) := by
  refine B_open_ok h.1.2.2.2.2.1 h.b1 hw (fun σ1 c1 hO => ?_)
  have h1 := h.bn c1 (hO.V hw.1)
  refine nn_mk (b + 83) h1.1.1.o3 ?_
  have hL1 := hL.g c1 (by unfold bq; omega) (fun k hk => by unfold bq; omega)
  refine B_run_ok h1.1.2.2.2.2.1 hO hw.1 hL1 (okL_steps ho).1 (okL_hx ho) (by omega) (by omega) (fun σ2 c2 hO2 hP hG => ?_)
  have c2' : chg (bq (b + 83)) no σ1 σ2 := c2.up (fun q k z => bj_bq z)
  have h2 := h1.bn c2' (hO2.V hw.1)
  exact k σ2 ((bn_k c1).tr (bn_k c2')) h2 h2.1.2.2.2.2.1 hO2.2.1 hP hG h2.1.1.o3 (hL1.g c2' (by unfold bq; omega) (fun k hk => by unfold bq; omega))
theorem brk_run {n c : Nat} {w : Lw} (ho : okL w) : (fun k => (run n c k [] (w.1 ++ w.2)).getD 1 0 != (run n c k [] (w.1 ++ w.2)).getD 0 0) = fun k => brk n c k w := by
  funext k
  rw [run_law ho]
  rfl
theorem X_brokenNow_ok {b i j : Nat} {o : Option Nat} {a : As} {σ : St} {Q : Int32 → St → Prop} (h : XI b σ a) (ha : asok a) (hi : i < a.1.2.2.length) (hj : j < 30) (ho : o = some (b + 23 + 2 * j)) (hL : LawC (b + 23 + 2 * j) ((lwg a.1.2.2 i).2.1 ++ (lwg a.1.2.2 i).2.2) σ) (k : ∀ σ', xk b σ σ' → XI b σ' a → Q (nI (bset (a.1.1 * a.1.1 * a.1.1) (fun k => brk a.1.1 a.1.2.1 k (lwg a.1.2.2 i).2))) σ') : P_X_brokenNow b o σ Q := by
  subst ho
  have hok := ha.1.2.2 _ (lwg_mem hi)
  refine ⟨h.1.1.o, ob_mk (b + 1) h.1.1.o0 h.1.now.s (ob_mk (b + 1) h.1.1.o0 h.1.now.s (nn_mk (b + 83) h.1.1.o3 ?_))⟩
  rw [h.n, h.c]
  refine bench_law h ha.1.1 hj hL hok (fun σ2 hk h2 hB h4 hP hG hr _ => nn_mk (b + 83) hr ?_)
  refine B_brokenCases_ok hB h4 rfl ha.1.1.1 hP hG ?_
  rw [brk_run hok]
  exact k σ2 hk h2
theorem bset_ct0 (p : Nat → Bool) (N : Nat) : bset N p = 0 ↔ ct p N = 0 := by
  constructor
  · intro h
    exact ct_zero p (bset_none h)
  · intro h
    induction N with
    | zero => rfl
    | succ N ih =>
      rw [ct] at h
      have h1 : ct p N = 0 := by omega
      have h2 : ¬ p N = true := fun z => by rw [z] at h; simp at h
      rw [← bset_or, ih h1, if_neg h2]; rfl
theorem bset27 {n : Nat} (hn : nok n) (p : Nat → Bool) : bset (n * n * n) p < 2 ^ 31 := by
  have h1 := bset_lt p (n * n * n)
  have h2 : 2 ^ (n * n * n) ≤ 2 ^ 27 := Nat.pow_le_pow_right (by decide) (n27 hn)
  omega
theorem X_countHolding_ok {b : Nat} {x : Int32} {on : Bool} {a : As} {σ : St} {Q : Int32 → St → Prop} (h : XI b σ a) (ha : asok a) (hx : x = bI on) (k : ∀ σ', xk b σ σ' → XI b σ' a → Q (nI (holdNow a.1 on)) σ') : P_X_countHolding b x σ Q := by
  have h5 := ha.1.2.1
  refine ⟨h.1.1.o, fun K4 h4 => ?_⟩
  refine loopU (P := fun _ s' => xk b σ s' ∧ XI b s' a) (G := fun i s' => K4 x (nI (ct (fun i => (!on || (lwg a.1.2.2 i).1) && bc a.1.1 a.1.2.1 (lwg a.1.2.2 i).2 == 0) i)) (nI i) s') a.1.2.2.length ?_ ?_ 0 σ (Nat.zero_le _) ⟨xk.rf, h⟩
  · rintro s' ⟨hk, h'⟩
    refine h4 _ _ _ _ (ob_mk (b + 1) h'.1.1.o0 h'.1.now.s ?_)
    rw [h'.len]
    exact b_tt (nI_le (Nat.le_refl _) (by omega)) (k s' hk h')
  · rintro i s' hi ⟨hk, h'⟩ ih
    refine h4 _ _ _ _ (ob_mk (b + 1) h'.1.1.o0 h'.1.now.s ?_)
    rw [h'.len]
    refine b_ff (nI_ge hi (by omega)) (nn_mk (b + 1) h'.1.1.o0 (S_lawAt_ok h'.1.now h'.len h5 (fun e => by rw [isN_nI (by omega), decide_eq_true hi] at e; cases e) (fun i' hi' ei => ?_)))
    have : i' = i := ((nI_eq (by omega) (by omega)).mp ei).symm
    subst this
    obtain ⟨j, hj, hr, hL, -, -⟩ := h'.law hi
    have eat : s_r s' (b + 1 + 1) i' = some (b + 23 + 2 * j) := hr
    rw [eat]
    refine b_ff (fun z => by cases z) (ob_mk (b + 1) h'.1.1.o0 h'.1.now.s (ar_mk (b + 3) 5 i' h'.1.now.r2 h'.1.now.a2 rfl (by omega) (by decide) ?_))
    rw [h'.on i' hi]
    have fin : ∀ s2, xk b s' s2 → XI b s2 a → (if ((!on || (lwg a.1.2.2 i').1) && bc a.1.1 a.1.2.1 (lwg a.1.2.2 i').2 == 0) = true then K4 x (nI (ct (fun i => (!on || (lwg a.1.2.2 i).1) && bc a.1.1 a.1.2.1 (lwg a.1.2.2 i).2 == 0) i') + nI 1) (nI i' + nI 1) s2 else K4 x (nI (ct (fun i => (!on || (lwg a.1.2.2 i).1) && bc a.1.1 a.1.2.1 (lwg a.1.2.2 i).2 == 0) i')) (nI i' + nI 1) s2) := by
      intro s2 k2 h2
      have := ih s2 ⟨hk.tr k2, h2⟩
      rw [ct] at this
      split
      · rename_i e
        rw [if_pos e] at this
        rw [nI_add, nI_add]; exact this
      · rename_i e
        rw [if_neg e] at this
        rw [nI_add]; exact this
    have ask : (!on || (lwg a.1.2.2 i').1) = true → P_X_brokenNow b (some (b + 23 + 2 * j)) s' (fun r11 σ10 => (r11 = 0 → K4 x (nI (ct (fun i => (!on || (lwg a.1.2.2 i).1) && bc a.1.1 a.1.2.1 (lwg a.1.2.2 i).2 == 0) i') + nI 1) (nI i' + nI 1) σ10) ∧ (¬ r11 = 0 → K4 x (nI (ct (fun i => (!on || (lwg a.1.2.2 i).1) && bc a.1.1 a.1.2.1 (lwg a.1.2.2 i).2 == 0) i')) (nI i' + nI 1) σ10)) := by
      intro hon
      refine X_brokenNow_ok h' ha hi hj rfl hL (fun s2 k2 h2 => ?_)
      have f := fin s2 k2 h2
      rw [hon, Bool.true_and] at f
      have hz := bset_ct0 (fun k => brk a.1.1 a.1.2.1 k (lwg a.1.2.2 i').2) (a.1.1 * a.1.1 * a.1.1)
      have hbc : bc a.1.1 a.1.2.1 (lwg a.1.2.2 i').2 = ct (fun k => brk a.1.1 a.1.2.1 k (lwg a.1.2.2 i').2) (a.1.1 * a.1.1 * a.1.1) := rfl
      refine b_z _ rfl (bset27 ha.1.1.1 _) (fun e => ?_) (fun e => ?_)
      · rw [if_pos (by rw [hbc, hz.mp e]; rfl)] at f; exact f
      · rw [if_neg (by rw [hbc]; simp; exact fun z => e (hz.mpr z))] at f; exact f
    refine b_b _ rfl (fun e => b_b on hx (fun eo => ask (by rw [eo]; rfl)) (fun eo => ?_)) (fun e => ask (by rw [e]; simp))
    have f := fin s' xk.rf h'
    rw [if_neg (by rw [e, eo]; simp)] at f
    exact f
theorem X_closed_ok {b : Nat} {x : Int32} {a : As} {σ : St} {Q : Int32 → St → Prop} (h : XI b σ a) (ha : asok a) (k : Q (qClosed a x) σ) : P_X_closed b x σ Q := by
  have hwa := ha.1.1
  have q1 := hwa.1.1
  have q3 := hwa.1.2
  have h8 : 2 ^ a.1.1 ≤ 2 ^ 3 := Nat.pow_le_pow_right (by decide) q3
  refine ⟨h.1.1.o, fun K24 h24 => b_lt' (fun g => ?_) (fun g => ?_)⟩
  · have : isN (2 ^ a.1.1) x = false := by
      simp at g
      unfold isN
      apply decide_eq_false
      omega
    have eo : qClosed a x = (-2) := by simp [qClosed, this]
    rw [eo] at k; exact k
  · have hx : ¬ x < 0 := fun z => by
      have := Int32.lt_iff_toInt_lt.mp z
      omega
    obtain ⟨S, hS, rfl⟩ := nI_of hx
    refine ob_mk (b + 1) h.1.1.o0 h.1.now.s ?_
    rw [h.n, shl_1 _ (by omega)]
    refine b_lt S (2 ^ a.1.1) rfl rfl hS (by omega) (fun e => ?_) (fun e => ?_)
    · have eo : qClosed a (nI S) = nI (clo a.1.1 a.1.2.1 S a.1.1) := by
        unfold qClosed
        rw [if_pos (by rw [isN_nI hS, decide_eq_true e]), tn_nI hS]
      rw [eo] at k
      refine loopU (P := fun _ s' => s' = σ) (G := fun r s' => K24 (nI (clo a.1.1 a.1.2.1 S r)) (nI r) s') a.1.1 ?_ ?_ 0 σ (Nat.zero_le _) rfl
      · rintro s' rfl
        refine h24 _ _ _ (ob_mk (b + 1) h.1.1.o0 h.1.now.s ?_)
        rw [h.n]
        exact b_tt (nI_le (Nat.le_refl _) (by omega)) k
      · rintro r s' hr rfl ih
        refine h24 _ _ _ (ob_mk (b + 1) h.1.1.o0 h.1.now.s ?_)
        rw [h.n]
        refine b_ff (nI_ge hr (by omega)) (ob_mk (b + 1) h.1.1.o0 h.1.now.s (ob_mk (b + 1) h.1.1.o0 h.1.now.s ?_))
        rw [h.n, h.c]
        refine C_withProducts_ok hwa (clo_lt q1 e r) ?_
        rw [nI_add]
        exact ih s' rfl
    · have eo : qClosed a (nI S) = (-2) := by
        unfold qClosed
        rw [if_neg (by rw [isN_nI hS, decide_eq_false (by omega)]; decide)]
      rw [eo] at k; exact k
theorem X_world_ok {b : Nat} {a : As} {x : Int32} {σ : St} {Q : Int32 → St → Prop} (h : XI b σ a) (ha : asok a) (kk : ∀ σ', xk b σ σ' → XI b σ' a → Q (qWorld a x) σ') : P_X_world b x σ Q := by
  have h5 := ha.1.2.1
  have hwa := ha.1.1
  have eq0 : ∀ t, t < 8 → x = nI t → qWorld a x = (match t with
    | 0 => nI a.1.1
    | 1 => nI a.1.2.1
    | 2 => nI (plain a.1.1 a.1.2.1)
    | 3 => nI (ways a.1.1 / stb a.1.1 a.1.2.1)
    | 4 => nI (things a.1.1 a.1.2.1 4)
    | 5 => nI (things a.1.1 a.1.2.1 5)
    | 6 => nI (things a.1.1 a.1.2.1 6)
    | _ => bI (holdNow a.1 true == lawsOn a.1.2.2)) := by
    intro t ht ey
    subst ey
    unfold qWorld
    rw [if_pos (by rw [isN_nI (by omega)]; simpa using ht), tn_nI (by omega)]
    have h7 : t = 0 ∨ t = 1 ∨ t = 2 ∨ t = 3 ∨ t = 4 ∨ t = 5 ∨ t = 6 ∨ t = 7 := by omega
    rcases h7 with rfl | rfl | rfl | rfl | rfl | rfl | rfl | rfl <;> rfl
  have nw := h.1.now.s
  have o0 := h.1.1.o0
  refine ⟨h.1.1.o, b_or (fun ey => ?_) (fun n0 => b_or (fun ey => ?_) (fun n1 => b_or (fun ey => ?_) (fun n2 => b_or (fun ey => ?_) (fun n3 => b_or (fun ey => ?_) (fun n4 => b_or (fun ey => ?_) (fun n5 => b_or (fun ey => ?_) (fun n6 => b_or (fun ey => ?_) (fun n7 => ?_))))))))⟩
  · rw [eq0 0 (by decide) ey] at kk
    refine ob_mk (b + 1) o0 nw ?_
    rw [h.n]; exact kk σ xk.rf h
  · rw [eq0 1 (by decide) ey] at kk
    refine ob_mk (b + 1) o0 nw ?_
    rw [h.c]; exact kk σ xk.rf h
  · rw [eq0 2 (by decide) ey] at kk
    refine ob_mk (b + 1) o0 nw (ob_mk (b + 1) o0 nw ?_)
    rw [h.n, h.c]
    exact C_plainCode_ok hwa (kk σ xk.rf h)
  · rw [eq0 3 (by decide) ey] at kk
    refine ob_mk (b + 1) o0 nw (ob_mk (b + 1) o0 nw ?_)
    rw [h.n, h.c]
    exact C_alikeCount_ok hwa (kk σ xk.rf h)
  · rw [eq0 4 (by decide) ey] at kk
    refine ob_mk (b + 1) o0 nw (ob_mk (b + 1) o0 nw ?_)
    rw [h.n, h.c]
    exact C_stayingThings_ok hwa (kk σ xk.rf h)
  · rw [eq0 5 (by decide) ey] at kk
    refine ob_mk (b + 1) o0 nw (ob_mk (b + 1) o0 nw ?_)
    rw [h.n, h.c]
    exact C_leftLeavers_ok hwa (kk σ xk.rf h)
  · rw [eq0 6 (by decide) ey] at kk
    refine ob_mk (b + 1) o0 nw (ob_mk (b + 1) o0 nw (ob_mk (b + 1) o0 nw ?_))
    rw [h.n, h.c]
    refine C_mirrored_ok hwa (C_leftLeavers_ok ⟨hwa.1, mir_lt hwa.1⟩ ?_)
    rw [things_mir hwa.1]
    exact kk σ xk.rf h
  · rw [eq0 7 (by decide) ey] at kk
    refine X_countHolding_ok (on := true) h ha rfl (fun s1 k1 h1 => nn_mk (b + 1) h1.1.1.o0 (S_onCount_ok h1.1.now h1.len h5 h1.on ?_))
    have kq : Q (bI (holdNow a.1 true == lawsOn a.1.2.2)) s1 := kk s1 k1 h1
    have l1 : holdNow a.1 true ≤ a.1.2.2.length := ct_le _ _
    have l2 : lawsOn a.1.2.2 ≤ a.1.2.2.length := ct_le _ _
    refine b_eq _ _ rfl rfl (by omega) (by omega) (fun e4 => ?_) (fun e4 => ?_)
    · have e5 : (holdNow a.1 true == lawsOn a.1.2.2) = true := by rw [e4]; simp
      rw [e5] at kq; exact kq
    · have e5 : (holdNow a.1 true == lawsOn a.1.2.2) = false := by simpa using e4
      rw [e5] at kq; exact kq
  · have eo : qWorld a x = (-2) := by
      unfold qWorld
      rw [if_neg]
      intro hy
      obtain ⟨t, ht, rfl⟩ := isN_ex hy (by decide)
      have h7 : t = 0 ∨ t = 1 ∨ t = 2 ∨ t = 3 ∨ t = 4 ∨ t = 5 ∨ t = 6 ∨ t = 7 := by omega
      rcases h7 with rfl | rfl | rfl | rfl | rfl | rfl | rfl | rfl
      · exact n0 rfl
      · exact n1 rfl
      · exact n2 rfl
      · exact n3 rfl
      · exact n4 rfl
      · exact n5 rfl
      · exact n6 rfl
      · exact n7 rfl
    rw [eo] at kk; exact kk σ xk.rf h
theorem X_side_ok {b : Nat} {a : As} {x y z : Int32} {right : Bool} {σ : St} {Q : Int32 → St → Prop} (h : XI b σ a) (ha : asok a) (hz : z = bI right) (kk : ∀ σ', xk b σ σ' → XI b σ' a → Q (qSide a x right y) σ') : P_X_side b x z y σ Q := by
  subst hz
  have hwa := ha.1.1
  have h5 := ha.1.2.1
  have h27 := n27 hwa.1
  refine ⟨h.1.1.o, nn_mk (b + 1) h.1.1.o0 (S_lawAt_ok h.1.now h.len h5 (fun e => ?_) (fun i hi ei => ?_))⟩
  · have eo : qSide a x right y = (-1) := by simp [qSide, e]
    rw [eo] at kk; exact b_tt rfl (kk σ xk.rf h)
  subst ei
  have t1 := tn_nI (show i < 2 ^ 31 by omega)
  have e : isN a.1.2.2.length (nI i) = true := by rw [isN_nI (by omega)]; simpa using hi
  obtain ⟨j, hj, hr, hL, -, -⟩ := h.law hi
  have hok := ha.1.2.2 _ (lwg_mem hi)
  have eat : s_r σ (b + 1 + 1) i = some (b + 23 + 2 * j) := hr
  rw [eat]
  refine b_ff (fun z => by cases z) (b_lt' (fun g => ?_) (fun g => ?_))
  · have e2 : isN (a.1.1 * a.1.1 * a.1.1) y = false := by
      simp at g
      unfold isN
      apply decide_eq_false
      omega
    have eo : qSide a (nI i) right y = (-2) := by simp [qSide, e, e2]
    rw [eo] at kk; exact kk σ xk.rf h
  · have hy : ¬ y < 0 := fun z => by
      have := Int32.lt_iff_toInt_lt.mp z
      omega
    obtain ⟨r, hr2, rfl⟩ := nI_of hy
    refine ob_mk (b + 1) h.1.1.o0 h.1.now.s (ob_mk (b + 1) h.1.1.o0 h.1.now.s (ob_mk (b + 1) h.1.1.o0 h.1.now.s ?_))
    rw [h.n, nI_mul, nI_mul]
    refine b_lt r (a.1.1 * a.1.1 * a.1.1) rfl rfl hr2 (by omega) (fun e2 => ?_) (fun e2 => ?_)
    · have e3 : isN (a.1.1 * a.1.1 * a.1.1) (nI r) = true := by rw [isN_nI hr2, decide_eq_true e2]
      have eo : qSide a (nI i) right (nI r) = nI (evl a.1.1 a.1.2.1 r (if right then (lwg a.1.2.2 i).2.2 else (lwg a.1.2.2 i).2.1)) := by
        simp only [qSide, e, e3, if_true, t1, tn_nI hr2]
      rw [eo] at kk
      refine ob_mk (b + 1) h.1.1.o0 h.1.now.s (ob_mk (b + 1) h.1.1.o0 h.1.now.s (nn_mk (b + 83) h.1.1.o3 ?_))
      rw [h.n, h.c]
      refine bench_law h hwa hj hL hok (fun σ2 hk h2 hB h4 hP hG hr3 _ => nn_mk (b + 83) hr3 ?_)
      refine B_thingOf_ok hB h27 hwa.1 e2 hP hG ?_
      have ev : (if right = true then (run a.1.1 a.1.2.1 r [] ((lwg a.1.2.2 i).2.1 ++ (lwg a.1.2.2 i).2.2)).getD 0 0 else (run a.1.1 a.1.2.1 r [] ((lwg a.1.2.2 i).2.1 ++ (lwg a.1.2.2 i).2.2)).getD 1 0) = evl a.1.1 a.1.2.1 r (if right then (lwg a.1.2.2 i).2.2 else (lwg a.1.2.2 i).2.1) := by
        rw [run_law hok]
        cases right <;> rfl
      rw [ev]
      exact kk σ2 hk h2
    · have e3 : isN (a.1.1 * a.1.1 * a.1.1) (nI r) = false := by rw [isN_nI hr2, decide_eq_false (by omega)]
      have eo : qSide a (nI i) right (nI r) = (-2) := by simp [qSide, e, e3]
      rw [eo] at kk; exact kk σ xk.rf h
theorem X_sameCases_ok {b i j n c : Nat} {o : Option Nat} {a : As} {σ : St} {Q : Int32 → St → Prop} (h : XI b σ a) (ha : asok a) (hw : wok n c) (hi : i < a.1.2.2.length) (hj : j < 30) (ho : o = some (b + 23 + 2 * j)) (hL : LawC (b + 23 + 2 * j) ((lwg a.1.2.2 i).2.1 ++ (lwg a.1.2.2 i).2.2) σ) (k : ∀ σ', xk b σ σ' → XI b σ' a → LawC (b + 23 + 2 * j) ((lwg a.1.2.2 i).2.1 ++ (lwg a.1.2.2 i).2.2) σ' → Q (nI (n * n * n - bc n c (lwg a.1.2.2 i).2)) σ') : P_X_sameCases b (nI n) (nI c) o σ Q := by
  subst ho
  have hok := ha.1.2.2 _ (lwg_mem hi)
  have h27 := n27 hw.1
  refine ⟨h.1.1.o, nn_mk (b + 83) h.1.1.o3 ?_⟩
  refine bench_law h hw hj hL hok (fun σ2 hk h2 hB h4 hP hG hr hL2 => nn_mk (b + 83) hr ?_)
  refine B_brokenCases_ok hB h4 rfl hw.1 hP hG (I_bitCount_ok (bset27 hw.1 _) ?_)
  rw [brk_run hok, pop_bset (by omega), nI_mul, nI_mul, nI_sub (ct_le _ _)]
  exact k σ2 hk h2 hL2
theorem X_paired_ok {b : Nat} {a : As} {x y z : Int32} {σ : St} {Q : Int32 → St → Prop} (h : XI b σ a) (ha : asok a) (kk : ∀ σ', xk b σ σ' → XI b σ' a → Q (qPaired a x y z) σ') : P_X_paired b x y z σ Q := by
  have hwa := ha.1.1
  have h5 := ha.1.2.1
  refine ⟨h.1.1.o, C_isCode_ok (b_b _ rfl (fun e => ?_) (fun e => ?_))⟩
  · have eo : qPaired a x y z = (-2) := by simp [qPaired, e]
    rw [eo] at kk; exact kk σ xk.rf h
  obtain ⟨n, c, rfl, rfl, hw, t1, t2⟩ := isW_tn e
  refine nn_mk (b + 1) h.1.1.o0 (S_lawAt_ok h.1.now h.len h5 (fun e2 => ?_) (fun i hi ei => ?_))
  · have eo : qPaired a (nI n) (nI c) z = (-1) := by simp [qPaired, e, e2]
    rw [eo] at kk; exact b_tt rfl (kk σ xk.rf h)
  subst ei
  have t3 := tn_nI (show i < 2 ^ 31 by omega)
  have e2 : isN a.1.2.2.length (nI i) = true := by rw [isN_nI (by omega)]; simpa using hi
  have eo : qPaired a (nI n) (nI c) (nI i) = nI ((a.1.1 * a.1.1 * a.1.1) * (n * n * n) - (a.1.1 * a.1.1 * a.1.1 - bc a.1.1 a.1.2.1 (lwg a.1.2.2 i).2) * (n * n * n - bc n c (lwg a.1.2.2 i).2)) := by
    simp only [qPaired, e, e2, if_true, t1, t2, t3]
  rw [eo] at kk
  obtain ⟨j, hj, hr, hL, -, -⟩ := h.law hi
  have eat : s_r σ (b + 1 + 1) i = some (b + 23 + 2 * j) := hr
  rw [eat]
  refine b_ff (fun z => by cases z) (ob_mk (b + 1) h.1.1.o0 h.1.now.s (ob_mk (b + 1) h.1.1.o0 h.1.now.s (ob_mk (b + 1) h.1.1.o0 h.1.now.s ?_)))
  rw [h.n, h.c]
  refine X_sameCases_ok h ha hwa hi hj rfl hL (fun s1 k1 h1 hL1 => X_sameCases_ok h1 ha hw hi hj rfl hL1 (fun s2 k2 h2 _ => ?_))
  have l3 := Nat.mul_le_mul (Nat.sub_le (a.1.1 * a.1.1 * a.1.1) (bc a.1.1 a.1.2.1 (lwg a.1.2.2 i).2)) (Nat.sub_le (n * n * n) (bc n c (lwg a.1.2.2 i).2))
  have em : a.1.1 * n * (a.1.1 * n) * (a.1.1 * n) = a.1.1 * a.1.1 * a.1.1 * (n * n * n) := by
    simp only [Nat.mul_assoc, Nat.mul_comm, Nat.mul_left_comm]
  rw [nI_mul, nI_mul, nI_mul, nI_mul, em, nI_sub l3]
  exact kk s2 (k1.tr k2) h2
theorem X_alike_ok {b : Nat} {a : As} {x y z : Int32} {σ : St} {Q : Int32 → St → Prop} (h : XI b σ a) (k : Q (qAlike x y z) σ) : P_X_alike b x y z σ Q := by
  refine ⟨h.1.1.o, C_isCode_ok (b_b _ rfl (fun e => ?_) (fun e => C_isCode_ok (b_b _ rfl (fun e2 => ?_) (fun e2 => ?_))))⟩
  · have eo : qAlike x y z = (-2) := by simp [qAlike, e]
    rw [eo] at k; exact k
  · have eo : qAlike x y z = (-2) := by simp [qAlike, e2]
    rw [eo] at k; exact k
  · obtain ⟨n, c, rfl, rfl, hw, t1, t2⟩ := isW_tn e
    obtain ⟨n', d, e3, rfl, hw', t3, t4⟩ := isW_tn e2
    have en : n' = n := t3.symm.trans t1
    subst en
    have eo : qAlike (nI n') (nI c) (nI d) = bI (plain n' c == plain n' d) := by simp [qAlike, e, e2, t1, t2, t4]
    rw [eo] at k
    refine C_plainCode_ok hw (C_plainCode_ok hw' (b_eq _ _ rfl rfl (plain_lt' hw) (plain_lt' hw') (fun e4 => ?_) (fun e4 => ?_)))
    · have e5 : (plain n' c == plain n' d) = true := by rw [e4]; simp
      rw [e5] at k; exact k
    · have e5 : (plain n' c == plain n' d) = false := by simpa using e4
      rw [e5] at k; exact k
