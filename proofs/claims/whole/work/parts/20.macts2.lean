/-! The reference: the other acts that need no witnesses. -/
theorem wi_chg {σ : St} {q k : Nat} {v : Int32} : chg (fun a b => a = q ∧ b = k) no σ (w_i σ q k v) := chg.rf.wi ⟨rfl, rfl⟩
theorem M_type_ok {m : Nat} {a : As} {ch : Nat} {σ : St} {Q : Int32 → St → Prop} (h : MI m σ a) (ha : asok a) (k : ∀ σ', chg (MM m) no σ σ' → MI m σ' (opType a ch).2 → Q (opType a ch).1 σ') : P_M_type m (nI ch) σ Q := by
  obtain ⟨hL, hA, hH, hS, hT, hP, hK⟩ := h
  have hl := ha.2.2.2.1
  refine ⟨hL.s, b_eq a.2.2.2.length 60 hT.1 rfl (by omega) (by decide) (fun e => ?_) (fun e => ?_)⟩
  · have eo : opType a ch = (-3, a) := by simp [opType, e]
    rw [eo] at k
    exact k σ chg.rf ⟨hL, hA, hH, hS, hT, hP, hK⟩
  · have eo : opType a ch = (nI (a.2.2.2.length + 1), (a.1, a.2.1, a.2.2.1, a.2.2.2 ++ [ch])) := by simp [opType, show a.2.2.2.length < 60 by omega]
    rw [eo] at k
    refine ar_mk (m + 12) 60 a.2.2.2.length hL.r12 hL.a12 hT.1 (by omega) (by decide) ?_
    have e16 : s_i (w_i σ (m + 12) a.2.2.2.length (nI ch)) m 16 = nI a.2.2.2.length := by
      rw [s_i_wi, if_neg (fun z => by omega)]; exact hT.1
    rw [e16, nI_add, s_i_wi, if_pos ⟨rfl, rfl⟩]
    have hc : chg (fun q k => q = m + 12 ∨ (q = m ∧ k = 16)) no σ (w_i (w_i σ (m + 12) a.2.2.2.length (nI ch)) m 16 (nI (a.2.2.2.length + 1))) := (chg.rf.wi (Or.inl rfl)).wi (Or.inr ⟨rfl, rfl⟩)
    have fe : ∀ q, q ≠ m → q ≠ m + 12 → s_i (w_i (w_i σ (m + 12) a.2.2.2.length (nI ch)) m 16 (nI (a.2.2.2.length + 1))) q = s_i σ q := fun q h1 h2 => by
      funext j; exact hc.i (by omega)
    have fm : ∀ j, j ≠ 16 → s_i (w_i (w_i σ (m + 12) a.2.2.2.length (nI ch)) m 16 (nI (a.2.2.2.length + 1))) m j = s_i σ m j := fun j hj => hc.i (by omega)
    refine k _ (hc.up (fun q k z => by unfold MM; omega)) ⟨hL.g hc, hA.eq (fe _ (by omega) (by omega)), ?_, ?_, ?_, ?_, ?_⟩
    · unfold MH; rw [fm 3 (by decide), fe (m + 3) (by omega) (by omega)]; exact hH
    · unfold MS; rw [fm 5 (by decide), fe (m + 4) (by omega) (by omega)]; exact hS
    · refine ⟨by rw [s_i_wi, if_pos ⟨rfl, rfl⟩, List.length_append]; rfl, fun j hj => ?_⟩
      rw [List.length_append, List.length_singleton] at hj
      rw [s_i_wi, if_neg (fun z => by omega), s_i_wi]
      by_cases ej : j = a.2.2.2.length
      · rw [if_pos ⟨rfl, ej⟩, ej]
        simp [List.getD_eq_getElem?_getD]
      · rw [if_neg (fun z => ej z.2), hT.2 j (by omega)]
        simp [List.getD_eq_getElem?_getD, List.getElem?_append_left (show j < a.2.2.2.length by omega)]
    · unfold MP; rw [fe (m + 5) (by omega) (by omega), fe (m + 6) (by omega) (by omega)]; exact hP
    · unfold MK; rw [fm 12 (by decide), fe (m + 9) (by omega) (by omega), fe (m + 10) (by omega) (by omega)]; exact hK
theorem M_clearText_ok {m : Nat} {a : As} {σ : St} {Q : Int32 → St → Prop} (h : MI m σ a) (k : ∀ σ', chg (MM m) no σ σ' → MI m σ' (opClear a).2 → Q (opClear a).1 σ') : P_M_clearText m σ Q := by
  obtain ⟨hL, hA, hH, hS, hT, hP, hK⟩ := h
  refine ⟨hL.s, ?_⟩
  rw [hT.1]
  have hc : chg (fun q k => q = m ∧ k = 16) no σ (w_i σ m 16 (nI 0)) := wi_chg
  have fe : ∀ q, q ≠ m → s_i (w_i σ m 16 (nI 0)) q = s_i σ q := fun q h1 => by
    funext j; exact hc.i (by omega)
  have fm : ∀ j, j ≠ 16 → s_i (w_i σ m 16 (nI 0)) m j = s_i σ m j := fun j hj => hc.i (by omega)
  refine k _ (hc.up (fun q k z => by unfold MM; omega)) ⟨hL.g hc, hA.eq (fe _ (by omega)), ?_, ?_, ?_, ?_, ?_⟩
  · unfold MH; rw [fm 3 (by decide), fe (m + 3) (by omega)]; exact hH
  · unfold MS; rw [fm 5 (by decide), fe (m + 4) (by omega)]; exact hS
  · refine ⟨by rw [s_i_wi, if_pos ⟨rfl, rfl⟩]; rfl, fun j hj => absurd hj (Nat.not_lt_zero j)⟩
  · unfold MP; rw [fe (m + 5) (by omega), fe (m + 6) (by omega)]; exact hP
  · unfold MK; rw [fm 12 (by decide), fe (m + 9) (by omega), fe (m + 10) (by omega)]; exact hK
theorem M_lawAt_ok {i : Nat} {σ : St} {Q : Int32 → St → Prop} (k : Q (nI (3 + 33 * i)) σ) : P_M_lawAt (nI i) σ Q := by
  unfold P_M_lawAt
  rw [nI_mul, nI_add]
  exact k
theorem M_isOn_ok {m i : Nat} {on : Bool} {σ : St} {Q : Int32 → St → Prop} (hL : ML m σ) (hi : i < 5) (h : s_i σ (m + 1) (3 + 33 * i) = bI on) (k : Q (bI on) σ) : P_M_isOn m (nI i) σ Q := by
  refine ⟨hL.s, M_lawAt_ok (ar_mk (m + 1) 176 (3 + 33 * i) hL.r1 hL.a1 rfl (by omega) (by decide) ?_)⟩
  rw [h]
  cases on
  · exact b_ff (by decide) k
  · exact b_tt rfl k
theorem M_lawsOn_ok {m : Nat} {ls : List (Bool × Lw)} {σ : St} {Q : Int32 → St → Prop} (hL : ML m σ) (hl : ls.length ≤ 5) (h2 : s_i σ (m + 1) 2 = nI ls.length) (h : ∀ i, i < ls.length → s_i σ (m + 1) (3 + 33 * i) = bI (lwg ls i).1) (k : Q (nI (lawsOn ls)) σ) : P_M_lawsOn m σ Q := by
  refine ⟨hL.s, fun K4 h4 => ?_⟩
  refine loopU (P := fun _ s' => s' = σ) (G := fun i s' => K4 (nI (ct (fun i => (lwg ls i).1) i)) (nI i) s') ls.length ?_ ?_ 0 σ (Nat.zero_le _) rfl
  · rintro s' rfl
    refine h4 _ _ _ (ar_mk (m + 1) 176 2 hL.r1 hL.a1 rfl (by decide) (by decide) ?_)
    rw [h2]
    exact b_tt (nI_le (Nat.le_refl _) (by omega)) k
  · rintro i s' hi rfl ih
    refine h4 _ _ _ (ar_mk (m + 1) 176 2 hL.r1 hL.a1 rfl (by decide) (by decide) ?_)
    rw [h2]
    refine b_ff (nI_ge hi (by omega)) (M_lawAt_ok (ar_mk (m + 1) 176 (3 + 33 * i) hL.r1 hL.a1 rfl (by omega) (by decide) ?_))
    rw [h i hi, bI_n, nI_add, nI_add]
    exact ih s' rfl
theorem row_on {f : Nat → Int32} {w : Ws} (h : RowAt f 0 w) : ∀ i, i < w.2.2.length → f (3 + 33 * i) = bI (lwg w.2.2 i).1 := fun i hi => by
  have := (h.2.2.2 i hi).1
  simpa using this
theorem lwg_set {ls : List (Bool × Lw)} {i j : Nat} {x : Bool × Lw} (hi : i < ls.length) : lwg (ls.set i x) j = if j = i then x else lwg ls j := by
  unfold lwg
  simp only [List.getD_eq_getElem?_getD, List.getElem?_set]
  by_cases e : j = i
  · subst e; simp [hi]
  · simp [e, Ne.symm e]
theorem M_turnLaw_ok {m : Nat} {a : As} {x : Int32} {on : Bool} {σ : St} {Q : Int32 → St → Prop} (h : MI m σ a) (ha : asok a) (k : ∀ σ', chg (MM m) no σ σ' → MI m σ' (opTurn a x on).2 → Q (opTurn a x on).1 σ') : P_M_turnLaw m x (bI on) σ Q := by
  have h5 := ha.1.2.1
  refine ⟨h.1.s, M_isLaw_ok h.1 h.k h5 (b_b _ rfl (fun e => ?_) (fun e => ?_))⟩
  · have eo : opTurn a x on = (-1, a) := by simp [opTurn, e]
    rw [eo] at k; exact k σ chg.rf h
  obtain ⟨i, hi, rfl⟩ := isN_ex e (by omega)
  have t1 := tn_nI (show i < 2 ^ 31 by omega)
  refine M_isOn_ok h.1 (by omega) (row_on h.2.1 i hi) ?_
  have hb : ∀ c d : Bool, bI c = bI d ↔ c = d := by decide
  by_cases e2 : (lwg a.1.2.2 i).1 = on
  · have eo : opTurn a (nI i) on = (-5, a) := by simp [opTurn, e, t1, e2]
    rw [eo] at k
    exact b_tt ((hb _ _).mpr e2) (k σ chg.rf h)
  · obtain ⟨ls', els⟩ : ∃ z, z = a.1.2.2.set i (on, (lwg a.1.2.2 i).2) := ⟨_, rfl⟩
    have eo : opTurn a (nI i) on = (nI (lawsOn ls'), act a (a.1.1, a.1.2.1, ls')) := by simp [opTurn, e, t1, e2, els]
    rw [eo] at k
    refine b_ff (fun z => e2 ((hb _ _).mp z)) (M_remember_ok h.1 (fun σ1 hc hj => M_lawAt_ok ?_))
    have h1 := h.scr (hc.up (fun q k z => Or.inl z))
    have hlen : ls'.length = a.1.2.2.length := by rw [els, List.length_set]
    have hgo : ∀ v : Int32, v = bI on → ar 0 σ1 (s_r σ1 m 0) (nI (3 + 33 * i)) (fun q8 j9 => P_M_lawsOn m (w_i σ1 q8 j9 v) (fun r11 σ10 => P_M_acted m r11 σ10 (fun r13 σ12 => Q r13 σ12))) := by
      intro v hv
      subst hv
      refine ar_mk (m + 1) 176 (3 + 33 * i) h1.1.r1 h1.1.a1 rfl (by omega) (by decide) ?_
      have hcw : chg (fun q k => q = m + 1 ∧ k = 3 + 33 * i) no σ1 (w_i σ1 (m + 1) (3 + 33 * i) (bI on)) := wi_chg
      have hA : RowAt (s_i (w_i σ1 (m + 1) (3 + 33 * i) (bI on)) (m + 1)) 0 (a.1.1, a.1.2.1, ls') := by
        refine ⟨(hcw.i (by omega)).trans h1.2.1.1, (hcw.i (by omega)).trans h1.2.1.2.1, (hcw.i (by omega)).trans (h1.2.1.2.2.1.trans (by rw [hlen])), fun j hj' => ?_⟩
        have hj2 : j < a.1.2.2.length := by rw [← hlen]; exact hj'
        obtain ⟨b1, b2, b3⟩ := h1.2.1.2.2.2 j hj2
        have hsl := ha.1.2.2 _ (lwg_mem hj2)
        have hsi : (lwg ls' j).2 = (lwg a.1.2.2 j).2 := by
          rw [els, lwg_set hi]
          by_cases ej : j = i
          · rw [if_pos ej, ej]
          · rw [if_neg ej]
        refine ⟨?_, ?_, ?_⟩
        · rw [s_i_wi]
          by_cases ej : j = i
          · rw [if_pos ⟨rfl, by omega⟩, els, lwg_set hi, if_pos ej]
          · rw [if_neg (fun z => by omega), els, lwg_set hi, if_neg ej]; exact b1
        · show SideAt _ _ (lwg ls' j).2.1
          rw [hsi]
          exact b2.copy hsl.1.2 (fun k hk => hcw.i (by omega))
        · show SideAt _ _ (lwg ls' j).2.2
          rw [hsi]
          exact b3.copy hsl.2.2 (fun k hk => hcw.i (by omega))
      have hLw := h1.1.g hcw
      refine M_lawsOn_ok (ls := ls') hLw (by omega) hA.2.2.1 (row_on hA) ?_
      refine M_acted_ok (a := a) (w := (a.1.1, a.1.2.1, ls')) hLw (h1.2.2.g hcw (fun q k z => by unfold restM at z; omega)) ha ?_ hA (fun σ2 hc2 hm => k σ2 ?_ hm)
      · refine h.2.1.copy ha.1 (fun k hk => ?_)
        rw [hcw.i (by omega), Nat.zero_add]
        exact hj k hk
      · exact ((hc.up (fun q k z => by unfold MM; omega)).tr (hcw.up (fun q k z => by unfold MM; omega))).tr hc2
    exact b_b on rfl (fun eo => hgo _ (by rw [eo]; rfl)) (fun eo => hgo _ (by rw [eo]; rfl))
theorem lwg_erase {ls : List (Bool × Lw)} {i j : Nat} : lwg (ls.eraseIdx i) j = if j < i then lwg ls j else lwg ls (j + 1) := by
  unfold lwg
  simp only [List.getD_eq_getElem?_getD, List.getElem?_eraseIdx]
  by_cases e : j < i
  · rw [if_pos e, if_pos e]
  · rw [if_neg e, if_neg e]
theorem M_removeLaw_ok {m : Nat} {a : As} {x : Int32} {σ : St} {Q : Int32 → St → Prop} (h : MI m σ a) (ha : asok a) (k : ∀ σ', chg (MM m) no σ σ' → MI m σ' (opRemove a x).2 → Q (opRemove a x).1 σ') : P_M_removeLaw m x σ Q := by
  have h5 := ha.1.2.1
  refine ⟨h.1.s, fun K29 h29 => M_isLaw_ok h.1 h.k h5 (b_b _ rfl (fun e => ?_) (fun e => ?_))⟩
  · have eo : opRemove a x = (-1, a) := by simp [opRemove, e]
    rw [eo] at k; exact k σ chg.rf h
  obtain ⟨i, hi, rfl⟩ := isN_ex e (by omega)
  have t1 := tn_nI (show i < 2 ^ 31 by omega)
  obtain ⟨ls', els⟩ : ∃ z, z = a.1.2.2.eraseIdx i := ⟨_, rfl⟩
  have hlen : ls'.length = a.1.2.2.length - 1 := by rw [els, List.length_eraseIdx, if_pos hi]
  have eo : opRemove a (nI i) = (nI (a.1.2.2.length - 1), act a (a.1.1, a.1.2.1, ls')) := by simp [opRemove, e, t1, els]
  rw [eo] at k
  refine M_remember_ok h.1 (fun σ1 hc hj => ?_)
  have h1 := h.scr (hc.up (fun q k z => Or.inl z))
  refine ar_mk (m + 1) 176 2 h1.1.r1 h1.1.a1 rfl (by decide) (by decide) (ar_mk (m + 1) 176 2 h1.1.r1 h1.1.a1 rfl (by decide) (by decide) ?_)
  rw [h1.k, nI_sub (by omega)]
  refine M_lawAt_ok ?_
  obtain ⟨n', en⟩ : ∃ z, z = a.1.2.2.length - 1 := ⟨_, rfl⟩
  rw [← en]
  have key := loopU (P := fun t s' => chg (fun q k => q = m + 1 ∧ (k = 2 ∨ 3 + 33 * i ≤ k)) no σ1 s' ∧ s_i s' (m + 1) 2 = nI n' ∧ (∀ j, 3 + 33 * i ≤ j → j < 3 + 33 * i + t → s_i s' (m + 1) j = s_i σ1 (m + 1) (j + 33)) ∧ ∀ j, 3 + 33 * i + t ≤ j → s_i s' (m + 1) j = s_i σ1 (m + 1) j) (G := fun t s' => K29 (nI (3 + 33 * i + t)) s') (33 * (n' - i)) ?_ ?_ 0 (w_i σ1 (m + 1) 2 (nI n')) (Nat.zero_le _) ⟨chg.rf.wi ⟨rfl, Or.inl rfl⟩, by rw [s_i_wi, if_pos ⟨rfl, rfl⟩], fun j h1 h2 => by omega, fun j hj => by rw [s_i_wi, if_neg (fun z => by omega)]⟩
  · exact key
  · rintro s' ⟨hcs, h2s, hjs, hos⟩
    have hLs := h1.1.g hcs
    refine h29 _ _ (ar_mk (m + 1) 176 2 hLs.r1 hLs.a1 rfl (by decide) (by decide) ?_)
    rw [h2s]
    refine M_lawAt_ok (b_tt (nI_le (by omega) (by omega)) (ar_mk (m + 1) 176 2 hLs.r1 hLs.a1 rfl (by decide) (by decide) ?_))
    rw [h2s, en]
    refine M_acted_ok (a := a) (w := (a.1.1, a.1.2.1, ls')) hLs (h1.2.2.g hcs (fun q k z => by unfold restM at z; omega)) ha ?_ ?_ (fun σ2 hc2 hm => k σ2 ?_ hm)
    · refine h.2.1.copy ha.1 (fun k hk => ?_)
      rw [hcs.i (by omega), Nat.zero_add]
      exact hj k hk
    · refine ⟨(hcs.i (by omega)).trans h1.2.1.1, (hcs.i (by omega)).trans h1.2.1.2.1, by rw [h2s, hlen, en], fun j hj' => ?_⟩
      simp only at hj'
      rw [els, lwg_erase]
      by_cases ej : j < i
      · rw [if_pos ej]
        exact (h1.2.1.2.2.2 j (by omega)).copy (ha.1.2.2 _ (lwg_mem (by omega))) (fun k hk => hcs.i (by omega))
      · rw [if_neg ej]
        refine (h1.2.1.2.2.2 (j + 1) (by omega)).copy (ha.1.2.2 _ (lwg_mem (by omega))) (fun k hk => ?_)
        rw [hjs (0 + 3 + 33 * j + k) (by omega) (by omega), show 0 + 3 + 33 * j + k + 33 = 0 + 3 + 33 * (j + 1) + k by omega]
    · exact ((hc.up (fun q k z => by unfold MM; omega)).tr (hcs.up (fun q k z => by unfold MM; omega))).tr hc2
  · rintro t s' ht ⟨hcs, h2s, hjs, hos⟩ ih
    have hLs := h1.1.g hcs
    refine h29 _ _ (ar_mk (m + 1) 176 2 hLs.r1 hLs.a1 rfl (by decide) (by decide) ?_)
    rw [h2s]
    refine M_lawAt_ok (b_ff (nI_ge (by omega) (by omega)) (ar_mk (m + 1) 176 (3 + 33 * i + t + 33) hLs.r1 hLs.a1 (by rw [nI_add]) (by omega) (by decide) (ar_mk (m + 1) 176 (3 + 33 * i + t) hLs.r1 hLs.a1 rfl (by omega) (by decide) ?_)))
    rw [nI_add, show 3 + 33 * i + t + 1 = 3 + 33 * i + (t + 1) by omega]
    refine ih _ ⟨hcs.wi ⟨rfl, Or.inr (by omega)⟩, ?_, fun j h1 h2 => ?_, fun j hj => ?_⟩
    · rw [s_i_wi, if_neg (fun z => by omega)]; exact h2s
    · rw [s_i_wi]
      by_cases ej : j = 3 + 33 * i + t
      · rw [if_pos ⟨rfl, ej⟩, ej]; exact hos _ (by omega)
      · rw [if_neg (fun z => ej z.2)]; exact hjs j h1 (by omega)
    · rw [s_i_wi, if_neg (fun z => by omega)]; exact hos j (by omega)
theorem M_undo_ok {m : Nat} {a : As} {σ : St} {Q : Int32 → St → Prop} (h : MI m σ a) (ha : asok a) (k : ∀ σ', chg (MM m) no σ σ' → MI m σ' (opUndo a).2 → Q (opUndo a).1 σ') : P_M_undo m σ Q := by
  obtain ⟨hL, hA, hH, hS, hT, hP, hK⟩ := h
  have hl := ha.2.1.1
  refine ⟨hL.s, fun K22 h22 => b_eq a.2.1.length 0 hH.1 nI_0.symm (by omega) (by decide) (fun e => ?_) (fun e => ?_)⟩
  · have eo : opUndo a = (-5, a) := by simp [opUndo, e]
    rw [eo] at k
    exact k σ chg.rf ⟨hL, hA, hH, hS, hT, hP, hK⟩
  · obtain ⟨t, et⟩ : ∃ t, t = a.2.1.length - 1 := ⟨_, rfl⟩
    have eo : opUndo a = (nI t, (a.2.1.getD t wz, a.2.1.take t, a.2.2.1, a.2.2.2)) := by
      simp only [opUndo, if_neg e, ← et]
      have : a.2.1.getD t a.1 = a.2.1.getD t wz := by
        rw [List.getD_eq_getElem?_getD, List.getD_eq_getElem?_getD, List.getElem?_eq_getElem (show t < a.2.1.length by omega)]
        rfl
      rw [this]
    rw [eo] at k
    rw [hH.1, nI_sub (by omega), ← et]
    refine loopU (P := fun i s' => chg (fun q k => q = m + 1 ∨ (q = m ∧ k = 3)) no σ s' ∧ s_i s' m 3 = nI t ∧ ∀ j, j < i → s_i s' (m + 1) j = s_i σ (m + 3) (176 * t + j)) (G := fun i s' => K22 (nI i) s') 176 ?_ ?_ 0 _ (Nat.zero_le _) ⟨chg.rf.wi (Or.inr ⟨rfl, rfl⟩), by rw [s_i_wi, if_pos ⟨rfl, rfl⟩], fun j hj => absurd hj (Nat.not_lt_zero j)⟩
    · rintro s' ⟨hc, e3, hj⟩
      refine h22 _ _ (b_tt (nI_le (Nat.le_refl _) (by decide)) ?_)
      rw [e3]
      have fe : ∀ q, q ≠ m → q ≠ m + 1 → s_i s' q = s_i σ q := fun q h1 h2 => by
        funext j; exact hc.i (by omega)
      have fm : ∀ j, j ≠ 3 → s_i s' m j = s_i σ m j := fun j hj => hc.i (by omega)
      refine k s' (hc.up (fun q k z => by unfold MM; omega)) ⟨hL.g hc, ?_, ?_, ?_, ?_, ?_, ?_⟩
      · exact (hH.2 t (by omega)).copy (ha.2.1.2 _ (getD_mem (by omega))) (fun k hk => by rw [Nat.zero_add]; exact hj k hk)
      · refine ⟨by rw [e3, List.length_take, Nat.min_eq_left (by omega)], fun j hj' => ?_⟩
        rw [List.length_take, Nat.min_eq_left (by omega)] at hj'
        have eg : (a.2.1.take t).getD j wz = a.2.1.getD j wz := by
          rw [List.getD_eq_getElem?_getD, List.getD_eq_getElem?_getD, List.getElem?_take, if_pos hj']
        rw [eg, fe (m + 3) (by omega) (by omega)]
        exact hH.2 j (by omega)
      · unfold MS; rw [fm 5 (by decide), fe (m + 4) (by omega) (by omega)]; exact hS
      · unfold MT; rw [fm 16 (by decide), fe (m + 12) (by omega) (by omega)]; exact hT
      · unfold MP; rw [fe (m + 5) (by omega) (by omega), fe (m + 6) (by omega) (by omega)]; exact hP
      · unfold MK; rw [fm 12 (by decide), fe (m + 9) (by omega) (by omega), fe (m + 10) (by omega) (by omega)]; exact hK
    · rintro i s' hi ⟨hc, e3, hj⟩ ih
      have hL' := hL.g hc
      refine h22 _ _ (b_ff (nI_ge hi (by decide)) (ar_mk (m + 3) 704 (176 * t + i) hL'.r3 hL'.a3 (by rw [e3, nI_mul, nI_add]) (by omega) (by decide) (ar_mk (m + 1) 176 i hL'.r1 hL'.a1 rfl hi (by decide) ?_)))
      rw [nI_add]
      refine ih _ ⟨hc.wi (Or.inl rfl), by rw [s_i_wi, if_neg (fun z => by omega)]; exact e3, fun j hj' => ?_⟩
      rw [s_i_wi]
      by_cases ej : j = i
      · rw [if_pos ⟨rfl, ej⟩, ej]; exact hc.i (by omega)
      · rw [if_neg (fun z => ej z.2)]; exact hj j (by omega)
theorem M_keep_ok {m : Nat} {a : As} {σ : St} {Q : Int32 → St → Prop} (h : MI m σ a) (ha : asok a) (k : ∀ σ', chg (MM m) no σ σ' → MI m σ' (opKeep a).2 → Q (opKeep a).1 σ') : P_M_keep m σ Q := by
  obtain ⟨hL, hA, hH, hS, hT, hP, hK⟩ := h
  refine ⟨hL.s, fun K2 h2 => ?_⟩
  refine loopU (P := fun i s' => chg (fun q k => q = m + 4) no σ s' ∧ ∀ j, j < i → s_i s' (m + 4) j = s_i σ (m + 1) j) (G := fun i s' => K2 (nI i) s') 176 ?_ ?_ 0 σ (Nat.zero_le _) ⟨chg.rf, fun j hj => absurd hj (Nat.not_lt_zero j)⟩
  · rintro s' ⟨hc, hj⟩
    have hc2 : chg (fun q k => q = m + 4 ∨ (q = m ∧ k = 5)) no σ (w_i s' m 5 (nI 1)) := (hc.up (fun q k z => Or.inl z)).wi (Or.inr ⟨rfl, rfl⟩)
    have hL2 := hL.g hc2
    refine h2 _ _ (b_tt (nI_le (Nat.le_refl _) (by decide)) (ar_mk (m + 1) 176 2 hL2.r1 hL2.a1 rfl (by decide) (by decide) ?_))
    have fe : ∀ q, q ≠ m → q ≠ m + 4 → s_i (w_i s' m 5 (nI 1)) q = s_i σ q := fun q h1 h2 => by
      funext j; exact hc2.i (by omega)
    have fm : ∀ j, j ≠ 5 → s_i (w_i s' m 5 (nI 1)) m j = s_i σ m j := fun j hj => hc2.i (by omega)
    have e2 : s_i (w_i s' m 5 (nI 1)) (m + 1) 2 = nI a.1.2.2.length := by rw [fe (m + 1) (by omega) (by omega)]; exact hA.2.2.1
    rw [e2]
    refine k _ (hc2.up (fun q k z => by unfold MM; omega)) ⟨hL2, hA.eq (fe _ (by omega) (by omega)), ?_, ?_, ?_, ?_, ?_⟩
    · unfold MH; rw [fm 3 (by decide), fe (m + 3) (by omega) (by omega)]; exact hH
    · refine ⟨by rw [s_i_wi, if_pos ⟨rfl, rfl⟩], hA.copy ha.1 (fun k hk => ?_)⟩
      rw [s_i_wi, if_neg (fun z => by omega), Nat.zero_add]
      exact hj k hk
    · unfold MT; rw [fm 16 (by decide), fe (m + 12) (by omega) (by omega)]; exact hT
    · unfold MP; rw [fe (m + 5) (by omega) (by omega), fe (m + 6) (by omega) (by omega)]; exact hP
    · unfold MK; rw [fm 12 (by decide), fe (m + 9) (by omega) (by omega), fe (m + 10) (by omega) (by omega)]; exact hK
  · rintro i s' hi ⟨hc, hj⟩ ih
    have hL' := hL.g hc
    refine h2 _ _ (b_ff (nI_ge hi (by decide)) (ar_mk (m + 1) 176 i hL'.r1 hL'.a1 rfl hi (by decide) (ar_mk (m + 4) 176 i hL'.r4 hL'.a4 rfl hi (by decide) ?_)))
    rw [nI_add]
    refine ih _ ⟨hc.wi rfl, fun j hj' => ?_⟩
    rw [s_i_wi]
    by_cases ej : j = i
    · rw [if_pos ⟨rfl, ej⟩, ej]; exact hc.i (by omega)
    · rw [if_neg (fun z => ej z.2)]; exact hj j (by omega)
theorem M_restore_ok {m : Nat} {a : As} {σ : St} {Q : Int32 → St → Prop} (h : MI m σ a) (ha : asok a) (k : ∀ σ', chg (MM m) no σ σ' → MI m σ' (opRestore a).2 → Q (opRestore a).1 σ') : P_M_restore m σ Q := by
  refine ⟨h.1.s, fun K16 h16 => ?_⟩
  have hS := h.2.2.2.1
  cases es : a.2.2.1 with
  | none =>
    rw [es] at hS
    have eo : opRestore a = (-5, a) := by simp [opRestore, es]
    rw [eo] at k
    exact b_tt (by rw [hS]; rfl) (k σ chg.rf h)
  | some w =>
    rw [es] at hS
    have hw := ha.2.2.1 w es
    have eo : opRestore a = (nI w.2.2.length, act a w) := by simp [opRestore, es]
    rw [eo] at k
    refine b_ff (by rw [hS.1]; decide) (M_remember_ok h.1 (fun σ1 hc hj => ?_))
    have h1 := h.scr (hc.up (fun q k z => Or.inl z))
    refine loopU (P := fun i s' => chg (fun q k => q = m + 1) no σ1 s' ∧ ∀ j, j < i → s_i s' (m + 1) j = s_i σ1 (m + 4) j) (G := fun i s' => K16 (nI i) s') 176 ?_ ?_ 0 σ1 (Nat.zero_le _) ⟨chg.rf, fun j hj => absurd hj (Nat.not_lt_zero j)⟩
    · rintro s' ⟨hcs, hjs⟩
      have hLs := h1.1.g hcs
      have hA : RowAt (s_i s' (m + 1)) 0 w := by
        refine hS.2.copy hw (fun k hk => ?_)
        rw [Nat.zero_add, hjs k hk]
        exact hc.i (by omega)
      refine h16 _ _ (b_tt (nI_le (Nat.le_refl _) (by decide)) (ar_mk (m + 1) 176 2 hLs.r1 hLs.a1 rfl (by decide) (by decide) ?_))
      rw [hA.2.2.1]
      refine M_acted_ok (a := a) (w := w) hLs (h1.2.2.g hcs (fun q k z => by unfold restM at z; omega)) ha ?_ hA (fun σ2 hc2 hm => k σ2 ?_ hm)
      · refine h.2.1.copy ha.1 (fun k hk => ?_)
        rw [hcs.i (by omega), Nat.zero_add]
        exact hj k hk
      · exact ((hc.up (fun q k z => by unfold MM; omega)).tr (hcs.up (fun q k z => by unfold MM; omega))).tr hc2
    · rintro i s' hi ⟨hcs, hjs⟩ ih
      have hL' := h1.1.g hcs
      refine h16 _ _ (b_ff (nI_ge hi (by decide)) (ar_mk (m + 4) 176 i hL'.r4 hL'.a4 rfl hi (by decide) (ar_mk (m + 1) 176 i hL'.r1 hL'.a1 rfl hi (by decide) ?_)))
      rw [nI_add]
      refine ih _ ⟨hcs.wi rfl, fun j hj' => ?_⟩
      rw [s_i_wi]
      by_cases ej : j = i
      · rw [if_pos ⟨rfl, ej⟩, ej]; exact hcs.i (by omega)
      · rw [if_neg (fun z => ej z.2)]; exact hjs j (by omega)
