/-! The reference: acts. -/
theorem MI.n {m : Nat} {σ : St} {a : As} (h : MI m σ a) : s_i σ (m + 1) 0 = nI a.1.1 := h.2.1.1
theorem MI.c {m : Nat} {σ : St} {a : As} (h : MI m σ a) : s_i σ (m + 1) 1 = nI a.1.2.1 := h.2.1.2.1
theorem MI.k {m : Nat} {σ : St} {a : As} (h : MI m σ a) : s_i σ (m + 1) 2 = nI a.1.2.2.length := h.2.1.2.2.1
theorem RowAt.cng {f : Nat → Int32} {w : Ws} {n c : Nat} {g : Nat → Int32} (h : RowAt f 0 w) (h0 : g 0 = nI n) (h1 : g 1 = nI c) (e : ∀ k, 2 ≤ k → g k = f k) : RowAt g 0 (n, c, w.2.2) := by
  refine ⟨h0, h1, (e 2 (by decide)).trans h.2.2.1, fun i hi => ?_⟩
  obtain ⟨a1, a2, a3⟩ := h.2.2.2 i hi
  refine ⟨(e _ (by omega)).trans a1, ⟨(e _ (by omega)).trans a2.1, fun k hk => (e _ (by omega)).trans (a2.2 k hk)⟩, ⟨(e _ (by omega)).trans a3.1, fun k hk => (e _ (by omega)).trans (a3.2 k hk)⟩⟩
def scr (m : Nat) : Nat → Nat → Prop := fun q k => q = m + 2 ∨ q = m + 7 ∨ q = m + 8 ∨ q = m + 11 ∨ q = m + 13 ∨ q = m + 14 ∨ (q = m ∧ (k = 14 ∨ 18 ≤ k))
theorem scr_ok {m : Nat} : (∀ k, ¬ scr m (m + 1) k) ∧ ∀ q k, restM m q k → ¬ scr m q k := ⟨fun k => by unfold scr; omega, fun q k h => by unfold restM at h; unfold scr; omega⟩
theorem scr_MM {m q k : Nat} (h : scr m q k) : MM m q k := by unfold scr at h; unfold MM; omega
theorem MI.scr {m : Nat} {σ σ' : St} {a : As} (h : MI m σ a) (c : chg (scr m) no σ σ') : MI m σ' a := h.g c scr_ok.1 scr_ok.2
theorem chg.up {SI TI : Nat → Nat → Prop} {σ σ' : St} (h : chg SI no σ σ') (hi : ∀ q k, SI q k → TI q k) : chg TI no σ σ' := h.mono hi (fun _ _ z => z)
theorem M_becomes_ok {m c : Nat} {a : As} {x : Int32} {σ : St} {Q : Int32 → St → Prop} (h : MI m σ a) (ha : asok a) (hx : x = nI c) (k : ∀ σ', chg (MM m) no σ σ' → MI m σ' (act a (a.1.1, c, a.1.2.2)) → Q (nI c) σ') : P_M_becomes m x σ Q := by
  subst hx
  refine ⟨h.1.s, M_remember_ok h.1 (fun σ1 hc hj => ?_)⟩
  have h1 := h.scr (hc.up (fun q k z => Or.inl z))
  refine ar_mk (m + 1) 176 1 h1.1.r1 h1.1.a1 rfl (by decide) (by decide) ?_
  have hcw : chg (fun q k => q = m + 1 ∧ k = 1) no σ1 (w_i σ1 (m + 1) 1 (nI c)) := chg.rf.wi ⟨rfl, rfl⟩
  refine M_acted_ok (a := a) (w := (a.1.1, c, a.1.2.2)) (h1.1.g hcw) (h1.2.2.g hcw (fun q k z => by unfold restM at z; omega)) ha ?_ ?_ (fun σ2 hc2 hm => k σ2 ?_ hm)
  · refine h.2.1.copy ha.1 (fun k hk => ?_)
    rw [s_i_wi, if_neg (fun z => by omega), Nat.zero_add]
    exact hj k hk
  · refine h1.2.1.cng ?_ ?_ (fun k hk => ?_)
    · rw [s_i_wi, if_neg (fun z => by omega)]; exact h1.2.1.1
    · rw [s_i_wi, if_pos ⟨rfl, rfl⟩]
    · rw [s_i_wi, if_neg (fun z => by omega)]
  · exact ((hc.up (fun q k z => by unfold MM; omega)).tr (hcw.up (fun q k z => by unfold MM; omega))).tr hc2
theorem isW_tn {x y : Int32} (h : isW x y = true) : ∃ n c, x = nI n ∧ y = nI c ∧ wok n c ∧ tn x = n ∧ tn y = c := by
  obtain ⟨n, c, rfl, rfl, hw⟩ := isW_ex h
  have := wc_le hw.1
  have := hw.1.2
  have := hw.2
  exact ⟨n, c, rfl, rfl, hw, tn_nI (by omega), tn_nI (by omega)⟩
theorem M_take_ok {m : Nat} {a : As} {x y : Int32} {σ : St} {Q : Int32 → St → Prop} (h : MI m σ a) (ha : asok a) (k : ∀ σ', chg (MM m) no σ σ' → MI m σ' (opTake a x y).2 → Q (opTake a x y).1 σ') : P_M_take m x y σ Q := by
  refine ⟨h.1.s, M_isWorld_ok (b_b _ rfl (fun e => ?_) (fun e => ?_))⟩
  · have eo : opTake a x y = (-2, a) := by simp [opTake, e]
    rw [eo] at k
    exact k σ chg.rf h
  · obtain ⟨n, c, rfl, rfl, hw, t1, t2⟩ := isW_tn e
    have hl := wc_le hw.1
    have hwa := ha.1.1
    have hla := wc_le hwa.1
    have q1 := hw.1.2
    have q2 := hw.2
    have q3 := hwa.1.2
    have q4 := hwa.2
    have hact : ∀ (P : Prop), ¬ (n = a.1.1 ∧ c = a.1.2.1) → (P_M_remember m σ (fun σ16 => ar 0 σ16 (s_r σ16 m 0) (nI 0) (fun q17 j18 => ar 0 (w_i σ16 q17 j18 (nI n)) (s_r (w_i σ16 q17 j18 (nI n)) m 0) (nI 1) (fun q19 j20 => ar 0 (w_i (w_i σ16 q17 j18 (nI n)) q19 j20 (nI c)) (s_r (w_i (w_i σ16 q17 j18 (nI n)) q19 j20 (nI c)) m 1) (nI 1) (fun q21 j22 => P_M_acted m (s_i (w_i (w_i σ16 q17 j18 (nI n)) q19 j20 (nI c)) q21 j22) (w_i (w_i σ16 q17 j18 (nI n)) q19 j20 (nI c)) (fun r24 σ23 => Q r24 σ23)))))) := by
      intro _ hne
      have eo : opTake a (nI n) (nI c) = (nI a.1.2.1, act a (n, c, a.1.2.2)) := by simp only [opTake, e, t1, t2, if_true, if_neg hne]
      rw [eo] at k
      refine M_remember_ok h.1 (fun σ1 hc hj => ?_)
      have h1 := h.scr (hc.up (fun q k z => Or.inl z))
      refine ar_mk (m + 1) 176 0 h1.1.r1 h1.1.a1 rfl (by decide) (by decide) (ar_mk (m + 1) 176 1 h1.1.r1 h1.1.a1 rfl (by decide) (by decide) (ar_mk (m + 2) 176 1 h1.1.r2 h1.1.a2 rfl (by decide) (by decide) ?_))
      have hcw : chg (fun q k => q = m + 1 ∧ (k = 0 ∨ k = 1)) no σ1 (w_i (w_i σ1 (m + 1) 0 (nI n)) (m + 1) 1 (nI c)) := (chg.rf.wi ⟨rfl, Or.inl rfl⟩).wi ⟨rfl, Or.inr rfl⟩
      have ek : s_i (w_i (w_i σ1 (m + 1) 0 (nI n)) (m + 1) 1 (nI c)) (m + 2) 1 = nI a.1.2.1 := by
        rw [s_i_wi, if_neg (fun z => by omega), s_i_wi, if_neg (fun z => by omega), hj 1 (by decide)]
        exact h.c
      rw [ek]
      refine M_acted_ok (a := a) (w := (n, c, a.1.2.2)) (h1.1.g hcw) (h1.2.2.g hcw (fun q k z => by unfold restM at z; omega)) ha ?_ ?_ (fun σ2 hc2 hm => k σ2 ?_ hm)
      · refine h.2.1.copy ha.1 (fun k hk => ?_)
        rw [hcw.i (by omega), Nat.zero_add]
        exact hj k hk
      · refine h1.2.1.cng ?_ ?_ (fun k hk => ?_)
        · rw [s_i_wi, if_neg (fun z => by omega), s_i_wi, if_pos ⟨rfl, rfl⟩]
        · rw [s_i_wi, if_pos ⟨rfl, rfl⟩]
        · exact hcw.i (by omega)
      · exact ((hc.up (fun q k z => by unfold MM; omega)).tr (hcw.up (fun q k z => by unfold MM; omega))).tr hc2
    refine ar_mk (m + 1) 176 0 h.1.r1 h.1.a1 rfl (by decide) (by decide) ?_
    rw [h.n]
    refine b_eq a.1.1 n rfl rfl (by omega) (by omega) (fun e1 => ?_) (fun e1 => ?_)
    · refine ar_mk (m + 1) 176 1 h.1.r1 h.1.a1 rfl (by decide) (by decide) ?_
      rw [h.c]
      refine b_eq a.1.2.1 c rfl rfl (by omega) (by omega) (fun e2 => ?_) (fun e2 => ?_)
      · have eo : opTake a (nI n) (nI c) = (-5, a) := by simp only [opTake, e, t1, t2, if_true, if_pos (⟨e1.symm, e2.symm⟩ : n = a.1.1 ∧ c = a.1.2.1)]
        rw [eo] at k
        exact k σ chg.rf h
      · exact hact True (fun z => e2 z.2.symm)
    · exact hact True (fun z => e1 z.1.symm)
theorem M_of_ok {m : Nat} {a : As} {x y : Int32} {σ : St} {Q : Int32 → St → Prop} (h : MI m σ a) (ha : asok a) (k : Q (qOf a x y) σ) : P_M_of m x y σ Q := by
  have hwa := ha.1.1
  have hla := wc_le hwa.1
  have q3 := hwa.1.2
  have q4 := hwa.2
  refine ⟨h.1.s, M_isThing_ok h.1 h.n hwa.1 (b_b _ rfl (fun e => ?_) (fun e => ?_))⟩
  · have eo : qOf a x y = (-1) := by simp [qOf, e]
    rw [eo] at k; exact k
  · refine M_isThing_ok h.1 h.n hwa.1 (b_b _ rfl (fun e2 => ?_) (fun e2 => ?_))
    · have eo : qOf a x y = (-1) := by simp [qOf, e2]
      rw [eo] at k; exact k
    · obtain ⟨i, hi, rfl⟩ := isN_ex e (by omega)
      obtain ⟨j, hj, rfl⟩ := isN_ex e2 (by omega)
      refine ar_mk (m + 1) 176 0 h.1.r1 h.1.a1 rfl (by decide) (by decide) (ar_mk (m + 1) 176 1 h.1.r1 h.1.a1 rfl (by decide) (by decide) ?_)
      rw [h.n, h.c]
      refine M_comes_ok hwa hi hj ?_
      have eo : qOf a (nI i) (nI j) = nI (dig a.1.1 a.1.2.1 (a.1.1 * i + j)) := by
        simp [qOf, e, e2, tn_nI (show i < 2 ^ 31 by omega), tn_nI (show j < 2 ^ 31 by omega)]
      rw [eo] at k; exact k
/-- a digit is put in place of another -/
theorem dig_le {n c k : Nat} (h : 0 < n) : dig n c k * n ^ k ≤ c := by
  unfold dig
  calc c / n ^ k % n * n ^ k ≤ c / n ^ k * n ^ k := Nat.mul_le_mul_right _ (Nat.mod_le _ _)
    _ ≤ c := Nat.div_mul_le_self _ _
theorem cput_nI {n c k v d p : Nat} (h : 0 < n) (hd : d = dig n c k) (hp : p = n ^ k) : nI c + (nI v - nI d) * nI p = nI (cput n c k v) := by
  subst hd; subst hp
  have hle := dig_le (c := c) (k := k) h
  unfold cput
  rw [← nI_add, ← nI_sub hle, ← nI_mul, ← nI_mul, Int32.sub_mul]
  rw [Int32.sub_eq_add_neg, Int32.sub_eq_add_neg]
  rw [Int32.add_assoc, Int32.add_comm (-(nI (dig n c k) * nI (n ^ k)))]
theorem cput_eq {n c k v : Nat} (h : 0 < n) : cput n c k v = c ↔ dig n c k = v := by
  have hle := dig_le (c := c) (k := k) h
  unfold cput
  have hp : 0 < n ^ k := Nat.pow_pos h
  constructor
  · intro e
    have : v * n ^ k = dig n c k * n ^ k := by omega
    exact (Nat.eq_of_mul_eq_mul_right hp this).symm
  · intro e
    rw [e] at hle ⊢
    omega
theorem cput_lt {n c k v m : Nat} (h : 0 < n) (hc : c < n ^ m) (hk : k < m) (hv : v < n) : cput n c k v < n ^ m := by
  have e : cput n c k v = cd n (fun j => if j = k then v else dig n c j) m := by
    have h1 : ∀ m, k < m → cd n (fun j => if j = k then v else dig n c j) m + dig n c k * n ^ k = cd n (dig n c) m + v * n ^ k := by
      intro m
      induction m with
      | zero => intro h; exact absurd h (Nat.not_lt_zero k)
      | succ m ih =>
        intro hk
        show cd n _ m + (if m = k then v else dig n c m) * n ^ m + _ = cd n (dig n c) m + dig n c m * n ^ m + _
        by_cases e : m = k
        · subst e
          have : cd n (fun j => if j = m then v else dig n c j) m = cd n (dig n c) m := sm_cong (fun j hj => by simp [show j ≠ m by omega])
          rw [this, if_pos rfl]
          omega
        · have := ih (by omega)
          rw [if_neg e]
          omega
    have h2 := h1 m hk
    rw [dig_cd' h hc] at h2
    have := dig_le (c := c) (k := k) h
    unfold cput
    omega
  rw [e]
  refine cd_lt h (fun j _ => ?_)
  by_cases e : j = k
  · simp [e, hv]
  · simp [e, dig_lt h]
theorem M_put_ok {m : Nat} {a : As} {x y v : Int32} {σ : St} {Q : Int32 → St → Prop} (h : MI m σ a) (ha : asok a) (k : ∀ σ', chg (MM m) no σ σ' → MI m σ' (opPut a x y v).2 → Q (opPut a x y v).1 σ') : P_M_put m x y v σ Q := by
  have hwa := ha.1.1
  have hla := wc_le hwa.1
  have q1 := hwa.1.1
  have q3 := hwa.1.2
  have q4 := hwa.2
  have h9 := nn9 hwa.1
  refine ⟨h.1.s, M_isThing_ok h.1 h.n hwa.1 (b_b _ rfl (fun e => ?_) (fun e => ?_))⟩
  · have eo : opPut a x y v = (-1, a) := by simp [opPut, e]
    rw [eo] at k; exact k σ chg.rf h
  refine M_isThing_ok h.1 h.n hwa.1 (b_b _ rfl (fun e2 => ?_) (fun e2 => ?_))
  · have eo : opPut a x y v = (-1, a) := by simp [opPut, e2]
    rw [eo] at k; exact k σ chg.rf h
  refine M_isThing_ok h.1 h.n hwa.1 (b_b _ rfl (fun e3 => ?_) (fun e3 => ?_))
  · have eo : opPut a x y v = (-1, a) := by simp [opPut, e3]
    rw [eo] at k; exact k σ chg.rf h
  obtain ⟨i, hi, rfl⟩ := isN_ex e (by omega)
  obtain ⟨j, hj, rfl⟩ := isN_ex e2 (by omega)
  obtain ⟨t, ht, rfl⟩ := isN_ex e3 (by omega)
  have hd := dig_lt (c := a.1.2.1) (k := a.1.1 * i + j) q1
  have hab := nab hi hj
  have eo : opPut a (nI i) (nI j) (nI t) = becm a (cput a.1.1 a.1.2.1 (a.1.1 * i + j) t) := by
    simp [opPut, e, e2, e3, tn_nI (show i < 2 ^ 31 by omega), tn_nI (show j < 2 ^ 31 by omega), tn_nI (show t < 2 ^ 31 by omega)]
  rw [eo] at k
  refine ar_mk (m + 1) 176 0 h.1.r1 h.1.a1 rfl (by decide) (by decide) (ar_mk (m + 1) 176 1 h.1.r1 h.1.a1 rfl (by decide) (by decide) ?_)
  rw [h.n, h.c]
  refine M_comes_ok hwa hi hj (b_eq (dig a.1.1 a.1.2.1 (a.1.1 * i + j)) t rfl rfl (by omega) (by omega) (fun e4 => ?_) (fun e4 => ?_))
  · rw [becm, if_pos ((cput_eq q1).mpr e4)] at k
    exact k σ chg.rf h
  · rw [becm, if_neg (fun z => e4 ((cput_eq q1).mp z))] at k
    refine ar_mk (m + 1) 176 1 h.1.r1 h.1.a1 rfl (by decide) (by decide) (ar_mk (m + 1) 176 0 h.1.r1 h.1.a1 rfl (by decide) (by decide) (ar_mk (m + 1) 176 0 h.1.r1 h.1.a1 rfl (by decide) (by decide) ?_))
    rw [h.n, h.c, nI_mul, nI_add]
    refine M_power_ok (by omega) ?_
    exact M_becomes_ok h ha (cput_nI q1 rfl rfl) k
theorem M_exchanged_ok {t i j : Nat} {σ : St} {Q : Int32 → St → Prop} (ht : t < 3) (hi : i < 3) (hj : j < 3) (hne : i ≠ j) (k : Q (nI (rho (i + j) t)) σ) : P_M_exchanged (nI t) (nI i) (nI j) σ Q := by
  unfold P_M_exchanged
  have tb : ∀ i, i < 3 → ∀ j, j < 3 → i ≠ j → ∀ t, t < 3 → rho (i + j) t = if t = i then j else if t = j then i else t := by decide +kernel
  rw [tb i hi j hj hne t ht] at k
  refine b_eq t i rfl rfl (by omega) (by omega) (fun e => ?_) (fun e => ?_)
  · rw [if_pos e] at k; exact k
  · rw [if_neg e] at k
    refine b_eq t j rfl rfl (by omega) (by omega) (fun e => ?_) (fun e => ?_)
    · rw [if_pos e] at k; exact k
    · rw [if_neg e] at k; exact k
theorem exch_ways {n i j : Nat} (hn : nok n) (hi : i < n) (hj : j < n) (hne : i ≠ j) : i + j < ways n := by
  rcases nok3 hn with rfl | rfl | rfl
  · omega
  · simp [ways]; omega
  · simp [ways]; omega
theorem M_rename_ok {m : Nat} {a : As} {x y : Int32} {σ : St} {Q : Int32 → St → Prop} (h : MI m σ a) (ha : asok a) (k : ∀ σ', chg (MM m) no σ σ' → MI m σ' (opRename a x y).2 → Q (opRename a x y).1 σ') : P_M_rename m x y σ Q := by
  have hwa := ha.1.1
  have hla := wc_le hwa.1
  have q1 := hwa.1.1
  have q3 := hwa.1.2
  have q4 := hwa.2
  have h9 := nn9 hwa.1
  refine ⟨h.1.s, fun K50 h50 => M_isThing_ok h.1 h.n hwa.1 (b_b _ rfl (fun e => ?_) (fun e => ?_))⟩
  · have eo : opRename a x y = (-1, a) := by simp [opRename, e]
    rw [eo] at k; exact k σ chg.rf h
  refine M_isThing_ok h.1 h.n hwa.1 (b_b _ rfl (fun e2 => ?_) (fun e2 => ?_))
  · have eo : opRename a x y = (-1, a) := by simp [opRename, e2]
    rw [eo] at k; exact k σ chg.rf h
  obtain ⟨i, hi, rfl⟩ := isN_ex e (by omega)
  obtain ⟨j, hj, rfl⟩ := isN_ex e2 (by omega)
  have t1 := tn_nI (show i < 2 ^ 31 by omega)
  have t2 := tn_nI (show j < 2 ^ 31 by omega)
  refine b_eq i j rfl rfl (by omega) (by omega) (fun e3 => ?_) (fun e3 => ?_)
  · have eo : opRename a (nI i) (nI j) = (-2, a) := by simp [opRename, e, e2, t1, t2, e3]
    rw [eo] at k; exact k σ chg.rf h
  have eo : opRename a (nI i) (nI j) = becm a (rcode a.1.1 a.1.2.1 (i + j)) := by simp [opRename, e, e2, t1, t2, e3]
  rw [eo] at k
  refine ar_mk (m + 1) 176 0 h.1.r1 h.1.a1 rfl (by decide) (by decide) (ar_mk (m + 1) 176 1 h.1.r1 h.1.a1 rfl (by decide) (by decide) ?_)
  rw [h.n, h.c]
  have hij := exch_ways hwa.1 hi hj e3
  refine M_unfolds_ok h.1 hwa (fun σ1 hc hT => ?_)
  have h1 := h.scr (hc.up (fun q k z => Or.inr (Or.inl z)))
  have hrl := rcode_lt (c := a.1.2.1) hwa.1 hij
  refine loopU (P := fun _ s' => s' = σ1) (G := fun t s' => K50 (nI i) (nI j) (nI a.1.1) (nI (sm (fun k => rho (i + j) (dig a.1.1 a.1.2.1 k) * a.1.1 ^ pos a.1.1 (i + j) k) t)) (nI t) s') (a.1.1 * a.1.1) ?_ ?_ 0 σ1 (Nat.zero_le _) rfl
  · rintro s' rfl
    refine h50 _ _ _ _ _ _ (b_tt (by rw [nI_mul]; exact nI_le (Nat.le_refl _) (by omega)) (ar_mk (m + 1) 176 1 h1.1.r1 h1.1.a1 rfl (by decide) (by decide) ?_))
    rw [h1.c]
    have es : sm (fun k => rho (i + j) (dig a.1.1 a.1.2.1 k) * a.1.1 ^ pos a.1.1 (i + j) k) (a.1.1 * a.1.1) = rcode a.1.1 a.1.2.1 (i + j) := rfl
    rw [es]
    refine b_eq (rcode a.1.1 a.1.2.1 (i + j)) a.1.2.1 rfl rfl (by omega) (by omega) (fun e4 => ?_) (fun e4 => ?_)
    · rw [becm, if_pos e4] at k
      exact k s' (hc.up (fun q k z => by unfold MM; omega)) h1
    · rw [becm, if_neg e4] at k
      exact M_becomes_ok h1 ha rfl (fun σ2 hc2 hm => k σ2 ((hc.up (fun q k z => by unfold MM; omega)).tr hc2) hm)
  · rintro t s' ht rfl ih
    refine h50 _ _ _ _ _ _ (b_ff (by rw [nI_mul]; exact nI_ge ht (by omega)) (ar_mk (m + 7) 9 t h1.1.r7 h1.1.a7 rfl (by omega) (by decide) ?_))
    have hd := dig_lt (c := a.1.2.1) (k := t) q1
    have hdiv : t / a.1.1 < a.1.1 := Nat.div_lt_of_lt_mul ht
    have hmod : t % a.1.1 < a.1.1 := Nat.mod_lt _ q1
    rw [hT t ht]
    refine M_exchanged_ok (by omega) (by omega) (by omega) e3 ⟨nI_ne0 q1 (by omega), ?_⟩
    rw [nI_div (by omega) q1 (by omega)]
    refine M_exchanged_ok (by omega) (by omega) (by omega) e3 ⟨nI_ne0 q1 (by omega), ?_⟩
    rw [irem_nI (by omega) q1 (by omega)]
    refine M_exchanged_ok (by omega) (by omega) (by omega) e3 ?_
    have hp := pos_lt hwa.1 hij ht
    rw [nI_mul, nI_add]
    refine M_power_ok (by unfold pos at hp; omega) ?_
    rw [nI_mul, nI_add, nI_add]
    exact ih s' rfl
theorem mir_lt {n c : Nat} (hn : nok n) : mir n c < n ^ (n * n) := by
  have e : mir n c = cd n (fun k => dig n c (n * (k % n) + k / n)) (n * n) := by
    rcases nok3 hn with rfl | rfl | rfl
    · rfl
    · simp only [mir, cd, sm, show (2 * 2 : Nat) = 4 from rfl, Nat.reduceMod, Nat.reduceDiv, Nat.reduceMul, Nat.reduceAdd]; omega
    · simp only [mir, cd, sm, show (3 * 3 : Nat) = 9 from rfl, Nat.reduceMod, Nat.reduceDiv, Nat.reduceMul, Nat.reduceAdd]; omega
  rw [e]
  exact cd_lt hn.1 (fun k _ => dig_lt hn.1)
theorem M_mirror_ok {m : Nat} {a : As} {σ : St} {Q : Int32 → St → Prop} (h : MI m σ a) (ha : asok a) (k : ∀ σ', chg (MM m) no σ σ' → MI m σ' (opMirror a).2 → Q (opMirror a).1 σ') : P_M_mirror m σ Q := by
  have hwa := ha.1.1
  have hla := wc_le hwa.1
  have q1 := hwa.1.1
  have q3 := hwa.1.2
  have q4 := hwa.2
  have h9 := nn9 hwa.1
  refine ⟨h.1.s, fun K22 h22 => ?_⟩
  have eo : opMirror a = becm a (mir a.1.1 a.1.2.1) := rfl
  rw [eo] at k
  refine ar_mk (m + 1) 176 0 h.1.r1 h.1.a1 rfl (by decide) (by decide) (ar_mk (m + 1) 176 1 h.1.r1 h.1.a1 rfl (by decide) (by decide) ?_)
  rw [h.n, h.c]
  refine M_unfolds_ok h.1 hwa (fun σ1 hc hT => ?_)
  have h1 := h.scr (hc.up (fun q k z => Or.inr (Or.inl z)))
  have hrl := mir_lt (c := a.1.2.1) hwa.1
  refine loopU (P := fun _ s' => s' = σ1) (G := fun t s' => K22 (nI a.1.1) (nI (sm (fun k => dig a.1.1 a.1.2.1 k * a.1.1 ^ (a.1.1 * (k % a.1.1) + k / a.1.1)) t)) (nI t) s') (a.1.1 * a.1.1) ?_ ?_ 0 σ1 (Nat.zero_le _) rfl
  · rintro s' rfl
    refine h22 _ _ _ _ (b_tt (by rw [nI_mul]; exact nI_le (Nat.le_refl _) (by omega)) (ar_mk (m + 1) 176 1 h1.1.r1 h1.1.a1 rfl (by decide) (by decide) ?_))
    rw [h1.c]
    have es : sm (fun k => dig a.1.1 a.1.2.1 k * a.1.1 ^ (a.1.1 * (k % a.1.1) + k / a.1.1)) (a.1.1 * a.1.1) = mir a.1.1 a.1.2.1 := rfl
    rw [es]
    refine b_eq (mir a.1.1 a.1.2.1) a.1.2.1 rfl rfl (by omega) (by omega) (fun e4 => ?_) (fun e4 => ?_)
    · rw [becm, if_pos e4] at k
      exact k s' (hc.up (fun q k z => by unfold MM; omega)) h1
    · rw [becm, if_neg e4] at k
      exact M_becomes_ok h1 ha rfl (fun σ2 hc2 hm => k σ2 ((hc.up (fun q k z => by unfold MM; omega)).tr hc2) hm)
  · rintro t s' ht rfl ih
    refine h22 _ _ _ _ (b_ff (by rw [nI_mul]; exact nI_ge ht (by omega)) (ar_mk (m + 7) 9 t h1.1.r7 h1.1.a7 rfl (by omega) (by decide) ⟨nI_ne0 q1 (by omega), nI_ne0 q1 (by omega), ?_⟩))
    have hdiv : t / a.1.1 < a.1.1 := Nat.div_lt_of_lt_mul ht
    have hmod : t % a.1.1 < a.1.1 := Nat.mod_lt _ q1
    have hb := nab hmod hdiv
    rw [hT t ht, nI_div (by omega) q1 (by omega), irem_nI (by omega) q1 (by omega), nI_mul, nI_add]
    refine M_power_ok (by omega) ?_
    rw [nI_mul, nI_add, nI_add]
    exact ih s' rfl
