/-! The reference: laws of a text are added; the state stays sound. -/
theorem lwg_app1 {a b : List (Bool × Lw)} {i : Nat} (h : i < a.length) : lwg (a ++ b) i = lwg a i := by
  unfold lwg
  rw [List.getD_eq_getElem?_getD, List.getD_eq_getElem?_getD, List.getElem?_append_left h]
theorem lwg_app2 {a : List (Bool × Lw)} {L : List Lw} {j : Nat} (h : j < L.length) : lwg (a ++ L.map (fun w => (true, w))) (a.length + j) = (true, L.getD j lz) := by
  unfold lwg
  rw [List.getD_eq_getElem?_getD, List.getElem?_append_right (by omega), Nat.add_sub_cancel_left, List.getElem?_map, List.getElem?_eq_getElem h, List.getD_eq_getElem?_getD, List.getElem?_eq_getElem h]
  rfl
theorem nI_m100 {i : Nat} (h : i < 1000) : (-100 : Int32) - nI i = -100 - nI i := rfl
theorem M_addLaws_ok {m : Nat} {a : As} {σ : St} {Q : Int32 → St → Prop} (h : MI m σ a) (ha : asok a) (k : ∀ σ', chg (MM m) no σ σ' → MI m σ' (opAdd a).2 → Q (opAdd a).1 σ') : P_M_addLaws m σ Q := by
  have h5 := ha.1.2.1
  have hT := h.2.2.2.2.1
  refine ⟨h.1.s, fun K40 h40 => M_fault_ok h.1 hT ha.2.2.2.1 ha.2.2.2.2 (fun i σ1 ep hc => ?_) (fun L σ1 ep hc e18 hD => ?_)⟩
  · have h1 := h.scr (hc.up (fun _ _ => flt_scr))
    have hi := parse_lt ep
    have h60 := ha.2.2.2.1
    have eo : opAdd a = (-100 - nI i, a) := by simp only [opAdd, ep]
    rw [eo] at k
    refine b_ff (fun z => ?_) (k σ1 (hc.up (fun q k z => scr_MM (flt_scr z))) h1)
    have z2 : nI i < 0 := by rw [z]; decide
    have z3 := Int32.lt_iff_toInt_lt.mp z2
    rw [nI_toInt (by omega)] at z3
    simp at z3
    omega
  · have h1 := h.scr (hc.up (fun _ _ => flt_scr))
    obtain ⟨hL1, hL2, hL3⟩ := parse_ok ep
    have h60 := ha.2.2.2.1
    refine b_tt rfl (ar_mk (m + 1) 176 2 h1.1.r1 h1.1.a1 rfl (by decide) (by decide) ?_)
    rw [h1.k, e18, nI_add]
    refine b_le (a.1.2.2.length + L.length) 5 rfl rfl (by omega) (by decide) (fun hle => ?_) (fun hgt => ?_)
    · have eo : opAdd a = (nI L.length, act a (a.1.1, a.1.2.1, a.1.2.2 ++ L.map (fun w => (true, w)))) := by simp only [opAdd, ep, if_pos hle]
      rw [eo] at k
      refine M_remember_ok h1.1 (fun σ2 hc2 hj => ?_)
      have h2 := h1.scr (hc2.up (fun q k z => Or.inl z))
      have e18' : s_i σ2 m 18 = nI L.length := (hc2.i (by omega)).trans e18
      have hD2 : DoneAt (s_i σ2 (m + 13)) L := fun j hj => (hD j hj).copy (hL1 _ (lw_mem hj)) (fun k hk => hc2.i (by omega))
      refine loopU (P := fun i s' => chg (fun q _ => q = m + 1) no σ2 s' ∧ (∀ j, j < 3 + 33 * a.1.2.2.length → s_i s' (m + 1) j = s_i σ2 (m + 1) j) ∧ ∀ j, j < i → s_i s' (m + 1) (3 + 33 * a.1.2.2.length + j) = s_i σ2 (m + 13) j) (G := fun i s' => K40 (nI i) s') (33 * L.length) ?_ ?_ 0 σ2 (Nat.zero_le _) ⟨chg.rf, fun _ _ => rfl, fun j hj => absurd hj (Nat.not_lt_zero j)⟩
      · rintro s' ⟨hc3, ho, hn⟩
        have hL' := h2.1.g hc3
        have f18 : s_i s' m 18 = nI L.length := (hc3.i (by omega)).trans e18'
        have f2 : s_i s' (m + 1) 2 = nI a.1.2.2.length := (ho 2 (by omega)).trans h2.k
        refine h40 _ _ (b_tt (by rw [f18, nI_mul]; exact nI_le (Nat.le_refl _) (by omega)) (ar_mk (m + 1) 176 2 hL'.r1 hL'.a1 rfl (by decide) (by decide) (ar_mk (m + 1) 176 2 hL'.r1 hL'.a1 rfl (by decide) (by decide) ?_)))
        rw [f18, f2, nI_add]
        have hcw : chg (fun q _ => q = m + 1) no s' (w_i s' (m + 1) 2 (nI (a.1.2.2.length + L.length))) := chg.rf.wi rfl
        have g18 : s_i (w_i s' (m + 1) 2 (nI (a.1.2.2.length + L.length))) m 18 = nI L.length := by rw [s_i_wi, if_neg (fun z => by omega)]; exact f18
        rw [g18]
        have hct := hc3.tr hcw
        have wv : ∀ j, j ≠ 2 → s_i (w_i s' (m + 1) 2 (nI (a.1.2.2.length + L.length))) (m + 1) j = s_i s' (m + 1) j := fun j hj => by rw [s_i_wi, if_neg (fun z => hj z.2)]
        refine M_acted_ok (a := a) (w := (a.1.1, a.1.2.1, a.1.2.2 ++ L.map (fun w => (true, w)))) (hL'.g hcw) (h2.2.2.g hct (fun q k z => by unfold restM at z; omega)) ha ?_ ?_ (fun σ3 hc4 hm => k σ3 ?_ hm)
        · refine h1.2.1.copy ha.1 (fun k hk => ?_)
          rw [hct.i (by omega), Nat.zero_add]
          exact hj k hk
        · obtain ⟨r1, r2, r3, r4⟩ := h2.2.1
          refine ⟨?_, ?_, ?_, fun i hi => ?_⟩
          · rw [Nat.zero_add] at *
            rw [wv 0 (by decide), ho 0 (by omega)]; exact r1
          · rw [Nat.zero_add] at *
            rw [wv 1 (by decide), ho 1 (by omega)]; exact r2
          · rw [Nat.zero_add, s_i_wi, if_pos ⟨rfl, rfl⟩]
            show nI _ = nI (a.1.2.2 ++ _).length
            rw [List.length_append, List.length_map]
          · have hi' : i < a.1.2.2.length + L.length := by
              have : i < (a.1.2.2 ++ L.map (fun w => (true, w))).length := hi
              rwa [List.length_append, List.length_map] at this
            show LawAt _ (0 + 3 + 33 * i) (lwg (a.1.2.2 ++ L.map (fun w => (true, w))) i)
            rcases Nat.lt_or_ge i a.1.2.2.length with q | q
            · rw [lwg_app1 q]
              refine (r4 i q).copy (ha.1.2.2 _ (lwg_mem q)) (fun k hk => ?_)
              rw [wv _ (by omega), ho _ (by omega)]
            · obtain ⟨j, rfl⟩ : ∃ j, i = a.1.2.2.length + j := ⟨i - a.1.2.2.length, by omega⟩
              have hjL : j < L.length := by omega
              rw [lwg_app2 hjL]
              refine (hD2 j hjL).copy (hL1 _ (lw_mem hjL)) (fun k hk => ?_)
              rw [wv _ (by omega), show 0 + 3 + 33 * (a.1.2.2.length + j) + k = 3 + 33 * a.1.2.2.length + (33 * j + k) by omega, hn _ (by omega)]
        · exact (((hc.up (fun q k z => scr_MM (flt_scr z))).tr (hc2.up (fun q k z => by unfold MM; omega))).tr (hct.up (fun q k z => by unfold MM; omega))).tr hc4
      · rintro i s' hi ⟨hc3, ho, hn⟩ ih
        have hL' := h2.1.g hc3
        have f18 : s_i s' m 18 = nI L.length := (hc3.i (by omega)).trans e18'
        have f2 : s_i s' (m + 1) 2 = nI a.1.2.2.length := (ho 2 (by omega)).trans h2.k
        refine h40 _ _ (b_ff (by rw [f18, nI_mul]; exact nI_ge hi (by omega)) (ar_mk (m + 1) 176 2 hL'.r1 hL'.a1 rfl (by decide) (by decide) ?_))
        rw [f2]
        refine M_lawAt_ok ?_
        refine ar_mk (m + 13) 660 i hL'.r13 hL'.a13 rfl (by omega) (by decide) (ar_mk (m + 1) 176 (3 + 33 * a.1.2.2.length + i) hL'.r1 hL'.a1 (by rw [nI_add]) (by omega) (by decide) ?_)
        rw [nI_add]
        refine ih _ ⟨hc3.wi rfl, fun j hj => ?_, fun j hj => ?_⟩
        · rw [s_i_wi, if_neg (fun z => by omega)]; exact ho j hj
        · rw [s_i_wi]
          by_cases e : j = i
          · rw [if_pos ⟨rfl, by omega⟩, e]; exact hc3.i (by omega)
          · rw [if_neg (fun z => by omega)]; exact hn j (by omega)
    · have eo : opAdd a = (-3, a) := by simp only [opAdd, ep, if_neg (show ¬ a.1.2.2.length + L.length ≤ 5 by omega)]
      rw [eo] at k
      exact k σ1 (hc.up (fun q k z => scr_MM (flt_scr z))) h1
/-! the state stays sound -/
theorem asok.act {a : As} {w : Ws} (ha : asok a) (hw : wsok w) : asok (act a w) := by
  obtain ⟨h1, ⟨h2, h3⟩, h4, h5, h6⟩ := ha
  refine ⟨hw, ⟨?_, ?_⟩, h4, h5, h6⟩
  · show (push4 a.2.1 a.1).length ≤ 4
    unfold push4
    split
    · simp; omega
    · simp; omega
  · show ∀ w ∈ push4 a.2.1 a.1, wsok w
    intro w hw
    unfold push4 at hw
    split at hw
    · rcases List.mem_append.mp hw with g | g
      · exact h3 w (List.mem_of_mem_tail g)
      · have : w = a.1 := by simpa using g
        rw [this]; exact h1
    · rcases List.mem_append.mp hw with g | g
      · exact h3 w g
      · have : w = a.1 := by simpa using g
        rw [this]; exact h1
theorem opTake_ok {a : As} {x y : Int32} (ha : asok a) : asok (opTake a x y).2 := by
  unfold opTake
  split
  · rename_i e
    obtain ⟨n, c, rfl, rfl, hw, t1, t2⟩ := isW_tn e
    split
    · exact ha
    · rw [t1, t2]
      exact ha.act ⟨hw, ha.1.2⟩
  · exact ha
theorem becm_ok {a : As} {c : Nat} (ha : asok a) (hc : c < a.1.1 ^ (a.1.1 * a.1.1)) : asok (becm a c).2 := by
  unfold becm
  split
  · exact ha
  · exact ha.act ⟨⟨ha.1.1.1, hc⟩, ha.1.2⟩
theorem opPut_ok {a : As} {x y v : Int32} (ha : asok a) : asok (opPut a x y v).2 := by
  have h2 := ha.1.1.1.2
  unfold opPut
  split
  · rename_i e
    simp only [Bool.and_eq_true] at e
    obtain ⟨i, hi, rfl⟩ := isN_ex e.1.1 (by omega)
    obtain ⟨j, hj, rfl⟩ := isN_ex e.1.2 (by omega)
    obtain ⟨t, ht, rfl⟩ := isN_ex e.2 (by omega)
    rw [tn_nI (by omega), tn_nI (by omega), tn_nI (by omega)]
    exact becm_ok ha (cput_lt ha.1.1.1.1 ha.1.1.2 (nab hi hj) ht)
  · exact ha
theorem opRename_ok {a : As} {x y : Int32} (ha : asok a) : asok (opRename a x y).2 := by
  have h2 := ha.1.1.1.2
  unfold opRename
  split
  · rename_i e
    simp only [Bool.and_eq_true] at e
    obtain ⟨i, hi, rfl⟩ := isN_ex e.1 (by omega)
    obtain ⟨j, hj, rfl⟩ := isN_ex e.2 (by omega)
    rw [tn_nI (by omega), tn_nI (by omega)]
    split
    · exact ha
    · rename_i hne
      exact becm_ok ha (rcode_lt ha.1.1.1 (exch_ways ha.1.1.1 hi hj hne))
  · exact ha
theorem opMirror_ok {a : As} (ha : asok a) : asok (opMirror a).2 := becm_ok ha (mir_lt ha.1.1.1)
theorem opAdd_ok {a : As} (ha : asok a) : asok (opAdd a).2 := by
  unfold opAdd
  split
  · exact ha
  · rename_i L ep
    split
    · rename_i hle
      refine ha.act ⟨ha.1.1, ?_, fun x hx => ?_⟩
      · show (a.1.2.2 ++ _).length ≤ 5
        simpa using hle
      · rcases List.mem_append.mp hx with g | g
        · exact ha.1.2.2 x g
        · obtain ⟨w, hw, rfl⟩ := List.mem_map.mp g
          exact (parse_ok ep).1 w hw
    · exact ha
theorem opRemove_ok {a : As} {x : Int32} (ha : asok a) : asok (opRemove a x).2 := by
  unfold opRemove
  split
  · refine ha.act ⟨ha.1.1, ?_, fun x hx => ha.1.2.2 x (List.mem_of_mem_eraseIdx hx)⟩
    exact Nat.le_trans (List.length_eraseIdx_le _ _) ha.1.2.1
  · exact ha
theorem opTurn_ok {a : As} {x : Int32} {on : Bool} (ha : asok a) : asok (opTurn a x on).2 := by
  have h5 := ha.1.2.1
  unfold opTurn
  split
  · rename_i e
    obtain ⟨i, hi, rfl⟩ := isN_ex e (by omega)
    split
    · exact ha
    · refine ha.act ⟨ha.1.1, ?_, fun x hx => ?_⟩
      · show (List.set _ _ _).length ≤ 5
        rw [List.length_set]; exact h5
      · rcases List.mem_or_eq_of_mem_set hx with g | g
        · exact ha.1.2.2 x g
        · rw [g, tn_nI (by omega)]
          exact ha.1.2.2 (lwg a.1.2.2 i) (lwg_mem hi)
  · exact ha
theorem opRefute_ok {a : As} {x : Int32} (ha : asok a) : asok (opRefute a x).2 := by
  unfold opRefute
  split
  · split
    · exact ha
    · rename_i w ws ew
      have hw : w < 3341 := wit_lt (ls := a.1.2.2) (i := tn x) (by rw [ew]; simp)
      exact ha.act ⟨(pw_ok hw).2.1, ha.1.2⟩
  · exact ha
theorem opType_ok {a : As} {ch : Nat} (ha : asok a) (hch : ch < 65536) : asok (opType a ch).2 := by
  unfold opType
  split
  · obtain ⟨h1, h2, h4, h5, h6⟩ := ha
    refine ⟨h1, h2, h4, by simp; omega, fun x hx => ?_⟩
    rcases List.mem_append.mp hx with g | g
    · exact h6 x g
    · have : x = ch := by simpa using g
      rw [this]; exact hch
  · exact ha
theorem opClear_ok {a : As} (ha : asok a) : asok (opClear a).2 := by
  obtain ⟨h1, h2, h4, h5, h6⟩ := ha
  exact ⟨h1, h2, h4, by simp [opClear], fun x hx => by simp [opClear] at hx⟩
theorem opUndo_ok {a : As} (ha : asok a) : asok (opUndo a).2 := by
  unfold opUndo
  split
  · exact ha
  · rename_i hl
    obtain ⟨h1, ⟨h2, h3⟩, h4, h5, h6⟩ := ha
    refine ⟨?_, ⟨?_, fun w hw => h3 w (List.mem_of_mem_take hw)⟩, h4, h5, h6⟩
    · show wsok (a.2.1.getD _ a.1)
      rw [List.getD_eq_getElem?_getD, List.getElem?_eq_getElem (show a.2.1.length - 1 < a.2.1.length by omega)]
      exact h3 _ (List.getElem_mem _)
    · show (List.take _ _).length ≤ 4
      rw [List.length_take]; omega
theorem opKeep_ok {a : As} (ha : asok a) : asok (opKeep a).2 := by
  obtain ⟨h1, h2, h4, h5, h6⟩ := ha
  refine ⟨h1, h2, fun w hw => ?_, h5, h6⟩
  have : a.1 = w := by simpa [opKeep] using hw
  rw [← this]; exact h1
theorem opRestore_ok {a : As} (ha : asok a) : asok (opRestore a).2 := by
  unfold opRestore
  split
  · exact ha
  · rename_i w ew
    exact ha.act (ha.2.2.1 w ew)
