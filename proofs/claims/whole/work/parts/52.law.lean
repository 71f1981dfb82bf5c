/-! The law: both sides together. -/
theorem MI.x {m : Nat} {SI SR : Nat → Nat → Prop} {σ σ' : St} {a : As} (h : MI m σ a) (c : cx SI SR σ σ') (hN : m + 15 ≤ s_n σ) (hI : ∀ q k, m ≤ q → q ≤ m + 14 → ¬ SI q k) (hR : ∀ q k, m ≤ q → q ≤ m + 14 → ¬ SR q k) : MI m σ' a := by
  have es : ∀ t, t ≤ 14 → s_s σ' (m + t) = s_s σ (m + t) := fun t ht => c.s (by omega)
  have ei : ∀ t, t ≤ 14 → s_i σ' (m + t) = s_i σ (m + t) := fun t ht => by
    funext k
    exact c.i (by omega) (hI _ _ (by omega) (by omega))
  have er : ∀ t, t ≤ 14 → s_r σ' (m + t) = s_r σ (m + t) := fun t ht => by
    funext k
    exact c.r (by omega) (hR _ _ (by omega) (by omega))
  have s0 : s_s σ' m = s_s σ m := es 0 (by decide)
  have i0 : s_i σ' m = s_i σ m := ei 0 (by decide)
  have r0 : s_r σ' m = s_r σ m := er 0 (by decide)
  unfold MI MR ML MH MS MT MP MK at *
  rw [s0, i0, r0, es 1 (by decide), es 2 (by decide), es 3 (by decide), es 4 (by decide), es 5 (by decide), es 6 (by decide), es 7 (by decide), es 8 (by decide), es 9 (by decide), es 10 (by decide), es 11 (by decide), es 12 (by decide), es 13 (by decide), es 14 (by decide), ei 1 (by decide), ei 3 (by decide), ei 4 (by decide), ei 5 (by decide), ei 6 (by decide), ei 9 (by decide), ei 10 (by decide), ei 12 (by decide)]
  exact h
theorem XI.mm {b : Nat} {SI : Nat → Nat → Prop} {σ σ' : St} {a : As} (h : XI b σ a) (c : cx SI no σ σ') (hI : ∀ q k, (q < b + 106 ∨ b + 121 ≤ q) → ¬ SI q k) : XI b σ' a := by
  obtain ⟨hX, hN, sp, hSh, ⟨hW0, hW⟩, hS, hH, hSn, hT, ⟨hB1, hB2⟩, hP⟩ := h
  have hn := c.n
  exact ⟨hX.g c hN (fun q k z => z.elim), by omega, sp, hSh.g c hN (fun q k z => hI _ _ (by omega)) (fun j hj z => z), ⟨hW0.g c (by omega) (fun k z => z), fun t ht => (hW t ht).g c (by omega) (fun k z => z)⟩, hS.g c (by omega) (fun k _ _ => hI _ _ (by omega)) (fun k => hI _ _ (by omega)) (fun k z => z), hH.g c hN (fun q k z => hI _ _ (by omega)) (fun q k z z2 => z2), hSn.g c hN (fun q k z => hI _ _ (by omega)) (fun k z => z), hT.g c hN (hI _ _ (by omega)) (fun k => hI _ _ (by omega)), ⟨hB1.g c (by omega) (hI _ _ (by omega)) (fun k => hI _ _ (by omega)) (fun k => hI _ _ (by omega)), hB2.g c (by omega) (hI _ _ (by omega)) (fun k => hI _ _ (by omega)) (fun k => hI _ _ (by omega))⟩, hP.g c hN (hI _ _ (by omega)) (fun q k z => hI _ _ (by omega))⟩
theorem Tz_eq {b : Nat} {σ σ' : St} (hr : ∀ j, j < 30 → s_r σ' (b + 23 + 2 * j) 4 = s_r σ (b + 23 + 2 * j) 4) (hi : s_i σ' (b + 94) 3 = s_i σ (b + 94) 3) : Tz b σ' = Tz b σ ∧ Ts b σ' = Ts b σ := by
  have e1 : Lz b σ' = Lz b σ := by
    unfold Lz
    rw [hi]
  have e2 : nz b σ' (fun _ => true) = nz b σ (fun _ => true) := ct_cong (fun j hj => by
    unfold emp
    rw [hr j hj])
  unfold Tz Ts
  rw [e1, e2]
  exact ⟨rfl, rfl⟩
/-- what holds between two calls -/
def LI (b : Nat) (σ : St) (a : As) (ca cb : Nat) : Prop := XI b σ a ∧ MI (b + 106) σ a ∧ asok a ∧ b + 121 ≤ s_n σ ∧ ca + Tz b σ ≤ 600000 ∧ cb + Ts b σ ≤ 7302250
theorem LI.actc {b ca cb : Nat} {σ s1 : St} {a : As} (h : LI b σ a ca cb) (y : yk b σ s1) : MI (b + 106) s1 a := h.2.1.x y h.2.2.2.1 (fun q k h1 h2 => by unfold xs; omega) (fun q k h1 h2 => by unfold xs; omega)
theorem LI.act {b ca cb : Nat} {σ s1 : St} {a : As} (h : LI b σ a ca cb) (k : xk b σ s1) : MI (b + 106) s1 a := h.actc k.1
theorem LI.finc {b ca cb c d : Nat} {σ s1 s2 : St} {a a' : As} (h : LI b σ a ca cb) (y : yk b σ s1) (h1 : XI b s1 a') (t1 : c + Tz b s1 ≤ Tz b σ) (t2 : d + Ts b s1 ≤ Ts b σ) (c2 : chg (MM (b + 106)) no s1 s2) (h2 : MI (b + 106) s2 a') (ok : asok a') : LI b s2 a' (ca + c) (cb + d) := by
  obtain ⟨g1, g2, g3, g4, g5, g6⟩ := h
  have n1 := y.n
  have n2 := c2.n
  obtain ⟨e1, e2⟩ := Tz_eq (b := b) (σ := s1) (σ' := s2) (fun j hj => c2.r (fun z => z)) (c2.i (by unfold MM; omega))
  exact ⟨h1.mm c2.x (fun q k z => by unfold MM; omega), h2, ok, by omega, by omega, by omega⟩
theorem LI.fin {b ca cb : Nat} {σ s1 s2 : St} {a a' : As} (h : LI b σ a ca cb) (k : xk b σ s1) (h1 : XI b s1 a') (c2 : chg (MM (b + 106)) no s1 s2) (h2 : MI (b + 106) s2 a') (ok : asok a') : LI b s2 a' ca cb := by
  obtain ⟨e1, e2⟩ := xk_T k
  exact h.finc (c := 0) (d := 0) k.1 h1 (by omega) (by omega) c2 h2 ok
theorem end_lt {L x : Nat} (hL : L ≤ 2048) (hx : x ≤ 4096) (h : L < x + 4) : nI L - nI 4 < nI x := by
  rcases Nat.lt_or_ge L 4 with q | q
  · have h4 : L = 0 ∨ L = 1 ∨ L = 2 ∨ L = 3 := by omega
    rw [Int32.lt_iff_toInt_lt, nI_toInt (show x < 2 ^ 31 by omega)]
    rcases h4 with rfl | rfl | rfl | rfl
    · have e : (nI 0 - nI 4).toInt = -4 := by decide
      omega
    · have e : (nI 1 - nI 4).toInt = -3 := by decide
      omega
    · have e : (nI 2 - nI 4).toInt = -2 := by decide
      omega
    · have e : (nI 3 - nI 4).toInt = -1 := by decide
      omega
  · rw [nI_sub q]
    exact nI_lt (by omega) (by omega)
set_option maxHeartbeats 8000000 in
theorem P_law_ok {L : Nat} {xs : Nat → Int32} {σ : St} (hL : L ≤ 2048) : P_law L xs σ 600000 7302250 (fun r _ => r = 1) := by
  intro K18 K582 K856 h18 h582 h856
  have main : ∀ (b d i : Nat) (σ : St) (a : As) (ca cb : Nat), L ≤ 4 * i + 4 * d → 4 * i ≤ 2048 → LI b σ a ca cb → K18 (some b) (some (b + 106)) (nI (4 * i)) σ ca cb := by
    intro b d
    induction d with
    | zero =>
      intro i σ a ca cb hd hi hI
      exact h18 _ _ _ _ _ _ (b_tt (end_lt hL (by omega) (by omega)) rfl)
    | succ d ih =>
      intro i σ a ca cb hd hi hI
      rcases Nat.lt_or_ge L (4 * i + 4) with q | q
      · exact h18 _ _ _ _ _ _ (b_tt (end_lt hL (by omega) q) rfl)
      have go : ∀ (a' : As) (s' : St) (ca' cb' : Nat), LI b s' a' ca' cb' → K856 (some b) (some (b + 106)) (nI (4 * i)) s' ca' cb' := fun a' s' ca' cb' h' => h856 _ _ _ _ _ _ (by
        rw [nI_add]
        exact ih (i + 1) s' a' ca' cb' (by omega) (by omega) h')
      clear ih h856 hd
      have s1 : ∀ P : Nat → Prop, P (4 * i + 1) → st' L (nI (4 * i) + nI 1) P := fun P h => st_mk (4 * i + 1) (by rw [nI_add]) (by omega) (by omega) h
      have s2 : ∀ P : Nat → Prop, P (4 * i + 2) → st' L (nI (4 * i) + nI 2) P := fun P h => st_mk (4 * i + 2) (by rw [nI_add]) (by omega) (by omega) h
      have s3 : ∀ P : Nat → Prop, P (4 * i + 3) → st' L (nI (4 * i) + nI 3) P := fun P h => st_mk (4 * i + 3) (by rw [nI_add]) (by omega) (by omega) h
      obtain ⟨hX, hM, ha, hN, hca, hcb⟩ := id hI
      refine h18 _ _ _ _ _ _ (b_or (fun _ => rfl) (fun _ => st_mk (4 * i) rfl (by omega) (by omega) ?_))
      clear h18
      refine b_or (fun _ => ?_) (fun _ => b_or (fun _ => ?_) (fun _ => b_or (fun _ => ?_) (fun _ => b_or (fun _ => ?_) (fun _ => b_or (fun _ => ?_) (fun _ => b_or (fun _ => ?_) (fun _ => b_or (fun _ => ?_) (fun _ => b_or (fun _ => ?_) (fun _ => b_or (fun _ => ?_) (fun _ => b_or (fun _ => ?_) (fun _ => b_or (fun _ => ?_) (fun _ => b_or (fun _ => ?_) (fun _ => b_or (fun _ => ?_) (fun _ => b_or (fun _ => ?_) (fun _ => b_or (fun _ => ?_) (fun _ => b_or (fun _ => ?_) (fun _ => b_or (fun _ => ?_) (fun _ => b_or (fun _ => ?_) (fun _ => b_or (fun _ => ?_) (fun _ => b_or (fun _ => ?_) (fun _ => b_or (fun _ => ?_) (fun _ => b_or (fun _ => ?_) (fun _ => b_or (fun _ => ?_) (fun _ => b_or (fun _ => ?_) (fun _ => go _ _ _ _ hI))))))))))))))))))))))))
      · exact s1 _ (s2 _ (nn_mk b rfl (X_take_ok hX ha (fun t1 k1 x1 => s1 _ (s2 _ (nn_mk (b + 106) rfl (M_take_ok (hI.act k1) ha (fun t2 c2 m2 => b_tt rfl (go _ _ _ _ (hI.fin k1 x1 c2 m2 (opTake_ok ha)))))))))))
      · exact s1 _ (s2 _ (s3 _ (nn_mk b rfl (X_put_ok hX ha (fun t1 k1 x1 => s1 _ (s2 _ (s3 _ (nn_mk (b + 106) rfl (M_put_ok (hI.act k1) ha (fun t2 c2 m2 => b_tt rfl (go _ _ _ _ (hI.fin k1 x1 c2 m2 (opPut_ok ha)))))))))))))
      · exact s1 _ (s2 _ (nn_mk b rfl (X_rename_ok hX ha (fun t1 k1 x1 => s1 _ (s2 _ (nn_mk (b + 106) rfl (M_rename_ok (hI.act k1) ha (fun t2 c2 m2 => b_tt rfl (go _ _ _ _ (hI.fin k1 x1 c2 m2 (opRename_ok ha)))))))))))
      · exact nn_mk b rfl (X_mirror_ok hX ha (fun t1 k1 x1 => nn_mk (b + 106) rfl (M_mirror_ok (hI.act k1) ha (fun t2 c2 m2 => b_tt rfl (go _ _ _ _ (hI.fin k1 x1 c2 m2 (opMirror_ok ha)))))))
      · exact nn_mk b rfl (X_addLaws_ok hX ha (fun t1 k1 x1 => nn_mk (b + 106) rfl (M_addLaws_ok (hI.act k1) ha (fun t2 c2 m2 => b_tt rfl (go _ _ _ _ (hI.fin k1 x1 c2 m2 (opAdd_ok ha)))))))
      · exact s1 _ (nn_mk b rfl (X_removeLaw_ok hX ha (fun t1 k1 x1 => s1 _ (nn_mk (b + 106) rfl (M_removeLaw_ok (hI.act k1) ha (fun t2 c2 m2 => b_tt rfl (go _ _ _ _ (hI.fin k1 x1 c2 m2 (opRemove_ok ha)))))))))
      · exact s1 _ (s2 _ (b_or (fun z => nn_mk b rfl (X_turnLaw_ok (on := false) hX ha rfl (fun t1 k1 x1 => s1 _ (s2 _ (b_tt z (nn_mk (b + 106) rfl (M_turnLaw_ok (on := false) (hI.act k1) ha (fun t2 c2 m2 => b_tt rfl (go _ _ _ _ (hI.fin k1 x1 c2 m2 (opTurn_ok ha))))))))))) (fun z => nn_mk b rfl (X_turnLaw_ok (on := true) hX ha rfl (fun t1 k1 x1 => s1 _ (s2 _ (b_ff z (nn_mk (b + 106) rfl (M_turnLaw_ok (on := true) (hI.act k1) ha (fun t2 c2 m2 => b_tt rfl (go _ _ _ _ (hI.fin k1 x1 c2 m2 (opTurn_ok ha)))))))))))))
      · obtain ⟨c, d, hc, hd, hk⟩ := X_refute_ok (x := xs (4 * i + 1)) hX ha hN
        exact s1 _ (nn_mk b rfl ⟨c, d, by omega, by omega, hk _ (fun t1 y1 x1 u1 u2 => s1 _ (nn_mk (b + 106) rfl (M_refute_ok (hI.actc y1) ha (fun t2 c2 m2 => b_tt rfl (go _ _ _ _ (hI.finc y1 x1 u1 u2 c2 m2 (opRefute_ok ha)))))))⟩)
      · obtain ⟨ch, hch, ech⟩ := chr_nI (xs (4 * i + 1))
        refine s1 _ (nn_mk b rfl ?_)
        rw [ech]
        refine X_type_ok hX ha hch (fun t1 k1 x1 => s1 _ (nn_mk (b + 106) rfl ?_))
        rw [ech]
        exact M_type_ok (hI.act k1) ha (fun t2 c2 m2 => b_tt rfl (go _ _ _ _ (hI.fin k1 x1 c2 m2 (opType_ok ha hch))))
      · exact nn_mk b rfl (X_clearText_ok hX (fun t1 k1 x1 => nn_mk (b + 106) rfl (M_clearText_ok (hI.act k1) (fun t2 c2 m2 => b_tt rfl (go _ _ _ _ (hI.fin k1 x1 c2 m2 (opClear_ok ha)))))))
      · exact nn_mk b rfl (X_undo_ok hX ha (fun t1 k1 x1 => nn_mk (b + 106) rfl (M_undo_ok (hI.act k1) ha (fun t2 c2 m2 => b_tt rfl (go _ _ _ _ (hI.fin k1 x1 c2 m2 (opUndo_ok ha)))))))
      · exact nn_mk b rfl (X_keep_ok hX ha (fun t1 k1 x1 => nn_mk (b + 106) rfl (M_keep_ok (hI.act k1) ha (fun t2 c2 m2 => b_tt rfl (go _ _ _ _ (hI.fin k1 x1 c2 m2 (opKeep_ok ha)))))))
      · exact nn_mk b rfl (X_restore_ok hX ha (fun t1 k1 x1 => nn_mk (b + 106) rfl (M_restore_ok (hI.act k1) ha (fun t2 c2 m2 => b_tt rfl (go _ _ _ _ (hI.fin k1 x1 c2 m2 (opRestore_ok ha)))))))
      · exact s1 _ (s2 _ (nn_mk b rfl (X_of_ok hX ha (s1 _ (s2 _ (nn_mk (b + 106) rfl (M_of_ok hM ha (b_tt rfl (go _ _ _ _ hI)))))))))
      · exact s1 _ (nn_mk b rfl (X_world_ok hX ha (fun t1 k1 x1 => s1 _ (nn_mk (b + 106) rfl (M_world_ok (hI.act k1) ha (fun t2 c2 m2 => b_tt rfl (go _ _ _ _ (hI.fin k1 x1 c2 m2 ha))))))))
      · exact s1 _ (nn_mk b rfl (X_closed_ok hX ha (s1 _ (nn_mk (b + 106) rfl (M_closed_ok hM ha (fun t2 c2 => b_tt rfl (go _ _ _ _ (hI.fin xk.rf hX (c2.up (fun _ _ => tab_MM)) (hM.scr (c2.up (fun _ _ => tab_scr))) ha))))))))
      · obtain ⟨c, d, hc, hd, hk⟩ := X_law_ok (x := xs (4 * i + 1)) (y := xs (4 * i + 2)) hX ha hN
        exact s1 _ (s2 _ (nn_mk b rfl ⟨c, d, by omega, by omega, hk _ (fun t1 y1 x1 u1 u2 => s1 _ (s2 _ (nn_mk (b + 106) rfl (M_law_ok (hI.actc y1) ha (fun t2 c2 m2 => b_tt rfl (go _ _ _ _ (hI.finc y1 x1 u1 u2 c2 m2 ha)))))))⟩))
      · exact s1 _ (s2 _ (b_or (fun z => h582 _ _ _ _ _ _ _ _ _ (s3 _ (nn_mk b rfl (X_side_ok (right := false) hX ha rfl (fun t1 k1 x1 => s1 _ (s2 _ (b_tt z (s3 _ (nn_mk (b + 106) rfl (M_side_ok (right := false) (hI.act k1) ha (fun t2 c2 m2 => b_tt rfl (go _ _ _ _ (hI.fin k1 x1 c2 m2 ha))))))))))))) (fun z => h582 _ _ _ _ _ _ _ _ _ (s3 _ (nn_mk b rfl (X_side_ok (right := true) hX ha rfl (fun t1 k1 x1 => s1 _ (s2 _ (b_ff z (s3 _ (nn_mk (b + 106) rfl (M_side_ok (right := true) (hI.act k1) ha (fun t2 c2 m2 => b_tt rfl (go _ _ _ _ (hI.fin k1 x1 c2 m2 ha)))))))))))))))
      · obtain ⟨c, d, hc, hd, hk⟩ := X_witness_ok (x := xs (4 * i + 1)) (y := xs (4 * i + 2)) (z := xs (4 * i + 3)) hX ha hN
        exact s1 _ (s2 _ (s3 _ (nn_mk b rfl ⟨c, d, by omega, by omega, hk _ (fun t1 y1 x1 u1 u2 => s1 _ (s2 _ (s3 _ (nn_mk (b + 106) rfl (M_witness_ok (hI.actc y1) ha (fun t2 c2 m2 => b_tt rfl (go _ _ _ _ (hI.finc y1 x1 u1 u2 c2 m2 ha))))))))⟩)))
      · obtain ⟨c, d, hc, hd, hk⟩ := X_model_ok (x := xs (4 * i + 1)) (y := xs (4 * i + 2)) hX ha hN
        exact s1 _ (s2 _ (nn_mk b rfl ⟨c, d, by omega, by omega, hk _ (fun t1 y1 x1 u1 u2 => s1 _ (s2 _ (nn_mk (b + 106) rfl (M_model_ok (hI.actc y1) ha (fun t2 c2 m2 => b_tt rfl (go _ _ _ _ (hI.finc y1 x1 u1 u2 c2 m2 ha)))))))⟩))
      · exact s1 _ (s2 _ (b_or (fun z => by
          obtain ⟨c, d, hc, hd, hk⟩ := X_models_ok (x := xs (4 * i + 1)) (all := false) hX ha hN rfl
          exact nn_mk b rfl ⟨c, d, by omega, by omega, hk _ (fun t1 y1 x1 u1 u2 => s1 _ (s2 _ (b_tt z (nn_mk (b + 106) rfl (M_models_ok (all := false) (hI.actc y1) ha rfl (fun t2 c2 m2 => b_tt rfl (go _ _ _ _ (hI.finc y1 x1 u1 u2 c2 m2 ha))))))))⟩) (fun z => by
          obtain ⟨c, d, hc, hd, hk⟩ := X_models_ok (x := xs (4 * i + 1)) (all := true) hX ha hN rfl
          exact nn_mk b rfl ⟨c, d, by omega, by omega, hk _ (fun t1 y1 x1 u1 u2 => s1 _ (s2 _ (b_ff z (nn_mk (b + 106) rfl (M_models_ok (all := true) (hI.actc y1) ha rfl (fun t2 c2 m2 => b_tt rfl (go _ _ _ _ (hI.finc y1 x1 u1 u2 c2 m2 ha))))))))⟩)))
      · exact s1 _ (s2 _ (s3 _ (nn_mk b rfl (X_paired_ok hX ha (fun t1 k1 x1 => s1 _ (s2 _ (s3 _ (nn_mk (b + 106) rfl (M_paired_ok (hI.act k1) ha (fun t2 c2 m2 => b_tt rfl (go _ _ _ _ (hI.fin k1 x1 c2 m2 ha))))))))))))
      · exact s1 _ (s2 _ (s3 _ (nn_mk b rfl (X_alike_ok hX (s1 _ (s2 _ (s3 _ (nn_mk (b + 106) rfl (M_alike_ok hM (fun t2 c2 m2 => b_tt rfl (go _ _ _ _ (hI.fin xk.rf hX c2 m2 ha))))))))))))
      · obtain ⟨c, d, hc, hd, hk⟩ := X_count_ok (x := xs (4 * i + 1)) hX ha hN
        exact s1 _ (nn_mk b rfl ⟨c, d, by omega, by omega, hk _ (fun t1 y1 x1 u1 u2 => s1 _ (nn_mk (b + 106) rfl (M_count_ok (hI.actc y1) ha (fun t2 c2 m2 => b_tt rfl (go _ _ _ _ (hI.finc y1 x1 u1 u2 c2 m2 ha))))))⟩)
  obtain ⟨b, eb⟩ : ∃ b, b = s_n σ := ⟨_, rfl⟩
  refine ⟨by omega, by omega, nw_mk ⟨105, 8276, by omega, by omega, ?_⟩⟩
  rw [← eb]
  refine X_init_ok (by rw [s_s_wn, if_pos eb]) (by rw [s_n_wn, eb]) (fun k => by rw [s_i_wn, if_pos eb]) (Nat.le_refl _) (Nat.le_refl _) (fun s1 n1 g1 h1 => ⟨by omega, by omega, nw_mk ⟨14, 22210, by omega, by omega, ?_⟩⟩)
  rw [n1]
  refine M_init_ok (by rw [s_s_wn, if_pos n1.symm]) (by rw [s_n_wn, n1]) (fun k => by rw [s_i_wn, if_pos n1.symm]) (Nat.le_refl _) (Nat.le_refl _) (fun s2 n2 g2 h2 => ?_)
  have c : cx no no s1 s2 := ⟨by omega, fun q hq => by
    have e := (same.wn (sp := .inl 9) hq).tr (g2 q (by omega))
    exact ⟨e.1, fun k _ => e.2.1 k, fun k _ => e.2.2.1 k⟩⟩
  have hz : nz b s2 (fun _ => true) ≤ 30 := ct_le _ _
  have hl : Lz b s2 ≤ 1 := by
    unfold Lz
    split <;> omega
  exact main b 512 0 s2 a0 _ _ (by omega) (by omega) ⟨h1.mm c (fun q k _ z => z), h2, asok0, by omega, by unfold Tz; omega, by unfold Ts; omega⟩
