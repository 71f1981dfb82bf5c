/-! The class: laws of a text are added. -/
theorem XI.rd {b : Nat} {σ σ' : St} {a : As} (h : XI b σ a) (c : chg (rdr (b + 101)) no σ σ') : XI b σ' a := by
  obtain ⟨hX, hN, sp, hSh, ⟨hW0, hW⟩, hS, hH, hSn, hT, ⟨hB1, hB2⟩, hP⟩ := h
  exact ⟨hX.g c.x hN (fun q k z => z.elim), by rw [c.n]; exact hN, sp, hSh.g c.x hN (fun q k z => by unfold rdr; omega) (fun j hj z => z), ⟨hW0.g c.x (by omega) (fun k z => z), fun t ht => (hW t ht).g c.x (by omega) (fun k z => z)⟩, hS.g c.x (by omega) (fun k _ _ => by unfold rdr; omega) (fun k => by unfold rdr; omega) (fun k z => z), hH.g c.x hN (fun q k z => by unfold rdr; omega) (fun q k z z2 => z2), hSn.g c.x hN (fun q k z => by unfold rdr; omega) (fun k z => z), hT.g c.x hN (by unfold rdr; omega) (fun k => by unfold rdr; omega), ⟨hB1.g c.x (by omega) (by unfold rdr; omega) (fun k => by unfold rdr; omega) (fun k => by unfold rdr; omega), hB2.g c.x (by omega) (by unfold rdr; omega) (fun k => by unfold rdr; omega) (fun k => by unfold rdr; omega)⟩, hP.g c.x hN (by unfold rdr; omega) (fun q k z => by unfold rdr; omega)⟩
theorem RdC.x {b : Nat} {L : List Lw} {SI SR : Nat → Nat → Prop} {σ σ' : St} (h : RdC (b + 101) L σ) (c : cx SI SR σ σ') (hN : b + 106 ≤ s_n σ) (h1 : ∀ q k, b + 101 ≤ q → q ≤ b + 103 → ¬ SI q k) : RdC (b + 101) L σ' :=
  ⟨⟨(c.i (by omega) (h1 _ _ (by omega) (by omega))).trans h.1.1, fun j hj => (c.i (by omega) (h1 _ _ (by omega) (by omega))).trans (h.1.2 j hj)⟩, fun k hk => (c.i (by omega) (h1 _ _ (by omega) (by omega))).trans (h.2 k hk)⟩
theorem take_map_succ {L : List Lw} {i : Nat} (h : i < L.length) : (L.take (i + 1)).map (fun w => (true, w)) = (L.take i).map (fun w => (true, w)) ++ [(true, L.getD i lz)] := by
  rw [List.take_succ, List.getElem?_eq_getElem h, List.getD_eq_getElem?_getD, List.getElem?_eq_getElem h, List.map_append]
  rfl
theorem X_addLaws_ok {b : Nat} {a : As} {σ : St} {Q : Int32 → St → Prop} (h : XI b σ a) (ha : asok a) (k : ∀ σ', xk b σ σ' → XI b σ' (opAdd a).2 → Q (opAdd a).1 σ') : P_X_addLaws b σ Q := by
  have h5 := ha.1.2.1
  have h60 := ha.2.2.2.1
  have hT := h.t
  have rk : ∀ σ', chg (rdr (b + 101)) no σ σ' → xk b σ σ' := fun σ' c => c.k (fun q k z => by unfold rdr at z; omega) (fun q k z => z.elim)
  refine ⟨h.1.1.o, fun K61 h61 => nn_mk (b + 101) h.1.1.o5 ?_⟩
  rw [h.1.1.o6, hT.1]
  refine D_read_ok h.1 hT h60 ha.2.2.2.2 (fun i σ1 ep c => ?_) (fun L σ1 ep c hRd hf => ?_)
  · have eo : opAdd a = (-100 - nI i, a) := by simp only [opAdd, ep]
    rw [eo] at k
    have hi := parse_lt ep
    refine b_ff (fun z => ?_) (k σ1 (rk σ1 c) (h.rd c))
    have z2 : nI i < 0 := by rw [z]; decide
    have z3 := Int32.lt_iff_toInt_lt.mp z2
    rw [nI_toInt (by omega)] at z3
    simp at z3
    omega
  · obtain ⟨hL1, hL2, hL3⟩ := parse_ok ep
    have h1 := h.rd c
    refine b_tt rfl (ob_mk (b + 1) h1.1.1.o0 h1.1.now.s (ob_mk (b + 101) h1.1.1.o5 h1.1.1.d ?_))
    rw [h1.len, hRd.1.1, nI_add]
    refine b_le (a.1.2.2.length + L.length) 5 rfl rfl (by omega) (by decide) (fun hle => ?_) (fun hgt => ?_)
    · have eo : opAdd a = (nI L.length, act a (a.1.1, a.1.2.1, a.1.2.2 ++ L.map (fun w => (true, w)))) := by simp only [opAdd, ep, if_pos hle]
      rw [eo] at k
      refine nn_mk (b + 4) h1.1.1.o1 ?_
      rw [h1.1.1.o0]
      refine h1.rec ha (fun σ2 c2 h2 => ?_)
      have hRd2 := hRd.x c2.x h1.2.1 (fun q k _ _ => by unfold rcI; omega)
      refine loopU (P := fun i s' => XI b s' ((a.1.1, a.1.2.1, a.1.2.2 ++ (L.take i).map (fun w => (true, w))), (act a a.1).2) ∧ RdC (b + 101) L s' ∧ xk b σ s') (G := fun i s' => K61 (nI i) s') L.length ?_ ?_ 0 σ2 (Nat.zero_le _) ⟨?_, hRd2, (rk σ1 c).tr (rec_k c2)⟩
      · rintro s' ⟨hi, hr, hk⟩
        rw [List.take_length] at hi
        refine h61 _ _ (ob_mk (b + 101) hi.1.1.o5 hi.1.1.d ?_)
        rw [hr.1.1]
        refine b_tt (nI_le (Nat.le_refl _) (by omega)) (ob_mk (b + 101) hi.1.1.o5 hi.1.1.d ?_)
        rw [hr.1.1]
        exact k s' hk hi
      · rintro i s' hil ⟨hi, hr, hk⟩ ih
        have elen : (a.1.2.2 ++ (L.take i).map (fun w => (true, w))).length = a.1.2.2.length + i := by
          rw [List.length_append, List.length_map, List.length_take, Nat.min_eq_left (by omega)]
        refine h61 _ _ (ob_mk (b + 101) hi.1.1.o5 hi.1.1.d ?_)
        rw [hr.1.1]
        refine b_ff (nI_ge hil (by omega)) (nn_mk (b + 21) hi.1.1.o2 ?_)
        rw [hi.1.1.o0, hi.1.1.o1, hi.1.1.o5]
        obtain ⟨hX, hN, sp, hSh, ⟨hW0, hW⟩, hS, hH, hSn, hTx, ⟨hB1, hB2⟩, hP⟩ := hi
        have ha' : asok (act a a.1) := ha.act ha.1
        refine F_bring_ok hX hN hSh hS (by show (a.1.2.2 ++ _).length ≤ 4; rw [elen]; omega) hH ha'.2.1.1 (fun w hw => (ha'.2.1.2 w hw).2.1) hSn (fun w hw => (ha'.2.2.1 w hw).2.1) hr hf (by omega) hL1 hil (fun j sp' s1 hj hsp c3 hSh1 hS1 hH1 hSn1 => ?_)
        have hX1 := hX.g c3.x hN (fun q k z => z.elim)
        have hN1 : b + 106 ≤ s_n s1 := by rw [c3.n]; exact hN
        have hC1 : XC b sp' s1 ((a.1.1, a.1.2.1, a.1.2.2 ++ (L.take i).map (fun w => (true, w))), (act a a.1).2) :=
          ⟨hSh1, ⟨hW0.g c3.x (by omega) (fun k z => z), fun t ht => (hW t ht).g c3.x (by omega) (fun k z => z)⟩, hS1, hH1, hSn1, hTx.g c3.x hN (by unfold brI; omega) (fun k => by unfold brI; omega), ⟨hB1.g c3.x (by omega) (by unfold brI; omega) (fun k => by unfold brI; omega) (fun k => by unfold brI; omega), hB2.g c3.x (by omega) (by unfold brI; omega) (fun k => by unfold brI; omega) (fun k => by unfold brI; omega)⟩, hP.g c3.x hN (by unfold brI; omega) (fun q k z => by unfold brI; omega)⟩
        refine nn_mk (b + 1) rfl ?_
        refine S_add_ok (v := L.getD i lz) hX1 hX1.now hC1.2.1.1 hS1 (by show (a.1.2.2 ++ _).length < 5; rw [elen]; omega) hj hsp (fun s2 c4 hW4 hS4 => ?_)
        have c4' : chg (nwI b) (nwR b) s1 s2 := c4.mono (fun q k z => by unfold adI at z; unfold nwI; omega) (fun q k z => by unfold cpR at z; unfold nwR; omega)
        rw [nI_add]
        refine ih s2 ⟨?_, ?_, ?_⟩
        · have e := XC.now hX1 hN1 hC1 c4' hS4 hW4
          rw [take_map_succ hil, ← List.append_assoc]
          exact e
        · exact (hr.x c3.x hN (fun q k _ _ => by unfold brI; omega)).x c4'.x hN1 (fun q k _ _ => by unfold nwI; omega)
        · exact (hk.tr (c3.k (fun q k z => by unfold brI at z; omega) (fun q k z => z.elim))).tr (now_k c4')
      · rw [List.take_zero, List.map_nil, List.append_nil]
        exact h2
    · have eo : opAdd a = (-3, a) := by simp only [opAdd, ep, if_neg (show ¬ a.1.2.2.length + L.length ≤ 5 by omega)]
      rw [eo] at k
      exact k σ1 (rk σ1 c) h1
