/-! The class: the plain worlds are listed. -/
theorem lshl_1 : ∀ t, t < 64 → (lshl (lN 1) (nI t)).toBitVec = BitVec.twoPow 64 t := by decide +kernel
def lbit (x : Int64) (t : Nat) : Bool := x.toBitVec.getLsbD t
theorem lcmp0 (a c : Int64) : lg_cmp a c = 0 ↔ a = c := by
  unfold lg_cmp
  by_cases h : c < a
  · rw [if_pos h]
    refine ⟨fun z => absurd z (by decide), fun z => ?_⟩
    subst z
    have := Int64.lt_iff_toInt_lt.mp h
    omega
  · rw [if_neg h]
    by_cases e : a = c
    · rw [if_pos e]; exact ⟨fun _ => e, fun _ => rfl⟩
    · rw [if_neg e]; exact ⟨fun z => absurd z (by decide), fun z => absurd z e⟩
theorem lbit_and {x : Int64} {t : Nat} (ht : t < 64) : x &&& lshl (lN 1) (nI t) = lN 0 ↔ lbit x t = false := by
  have e1 : (x &&& lshl (lN 1) (nI t)).toBitVec = x.toBitVec &&& BitVec.twoPow 64 t := by
    rw [← lshl_1 t ht]; rfl
  have e0 : (lN 0).toBitVec = 0#64 := rfl
  rw [← Int64.toBitVec_inj, e1, e0, BitVec.and_twoPow]
  unfold lbit
  cases x.toBitVec.getLsbD t with
  | true =>
    rw [if_pos rfl]
    refine ⟨fun z => ?_, fun z => by cases z⟩
    have : (BitVec.twoPow 64 t).getLsbD t = (0#64).getLsbD t := by rw [z]
    rw [BitVec.getLsbD_twoPow] at this
    simp [ht] at this
  | false =>
    rw [if_neg (by decide)]
    exact ⟨fun _ => rfl, fun _ => rfl⟩
theorem lbit_or {x : Int64} {s t : Nat} (hs : s < 64) (ht : t < 64) : lbit (x ||| lshl (lN 1) (nI s)) t = (lbit x t || decide (t = s)) := by
  have e1 : (x ||| lshl (lN 1) (nI s)).toBitVec = x.toBitVec ||| BitVec.twoPow 64 s := by
    rw [← lshl_1 s hs]; rfl
  unfold lbit
  rw [e1, BitVec.getLsbD_or, BitVec.getLsbD_twoPow]
  congr 1
  by_cases e : t = s
  · subst e; simp [ht]
  · have : ¬ s = t := fun z => e z.symm
    simp [e, this]
theorem lbit_0 (t : Nat) : lbit (lN 0) t = false := by
  unfold lbit
  have : (lN 0).toBitVec = 0#64 := rfl
  rw [this, BitVec.getLsbD_zero]
/-- a set of codes, in longs -/
def Seen (q : Nat) (P : Nat → Bool) (σ : St) : Prop := s_s σ q = some (.inr (4, 308)) ∧ ∀ d, d < 19712 → lbit (s_l σ q (d / 64)) (d % 64) = P d
theorem P_isIn_ok {q d : Nat} {P : Nat → Bool} {σ : St} {Q : Int32 → St → Prop} (h : Seen q P σ) (hd : d < 19712) (k : Q (bI (P d)) σ) : P_P_isIn (some q) (nI d) σ Q := by
  have h1 : d / 64 < 308 := by omega
  have h2 : d % 64 < 64 := Nat.mod_lt _ (by decide)
  unfold P_P_isIn
  rw [nI_div (by omega) (by decide) (by decide), irem_nI (by omega) (by decide) (by decide)]
  refine b_lt (d / 64) 0 rfl nI_0.symm (by omega) (by decide) (fun z => absurd z (Nat.not_lt_zero _)) (fun _ => al_mk q 4 308 rfl h.1 (b_ff (nI_ge h1 (by decide)) (ar_mk q 308 (d / 64) rfl h.1 rfl h1 (by decide) ?_)))
  have e := h.2 d hd
  refine b_or (fun z => ?_) (fun z => ?_)
  · rw [(lbit_and h2).mp ((lcmp0 _ _).mp z)] at e
    rw [← e] at k; exact k
  · have : lbit (s_l σ q (d / 64)) (d % 64) = true := by
      cases hb : lbit (s_l σ q (d / 64)) (d % 64) with
      | true => rfl
      | false => exact absurd ((lcmp0 _ _).mpr ((lbit_and h2).mpr hb)) z
    rw [this] at e
    rw [← e] at k; exact k
theorem Seen.set {q d : Nat} {P : Nat → Bool} {σ : St} (h : Seen q P σ) (hd : d < 19712) : Seen q (fun x => P x || decide (x = d)) (w_l σ q (d / 64) ((s_l σ q (d / 64)) ||| (lshl (lN 1) (nI (d % 64))))) := by
  refine ⟨h.1, fun x hx => ?_⟩
  rw [s_l_wl]
  by_cases e : x / 64 = d / 64
  · rw [if_pos ⟨rfl, e⟩, lbit_or (Nat.mod_lt _ (by decide)) (Nat.mod_lt _ (by decide)), ← e, h.2 x hx]
    congr 1
    apply decide_eq_decide.mpr
    omega
  · rw [if_neg (fun z => e z.2), h.2 x hx]
    have : decide (x = d) = false := by simp; omega
    show P x = (P x || decide (x = d))
    rw [this, Bool.or_false]
theorem Seen.wi {q a k : Nat} {v : Int32} {P : Nat → Bool} {σ : St} (h : Seen q P σ) : Seen q P (w_i σ a k v) := h
theorem nar_y : ∀ k, k < 128 → vp_nar .byte (byt (nI k)) = nI k := by decide +kernel
def pwI (b : Nat) : Nat → Nat → Prop := fun q k => (b + 95 ≤ q ∧ q ≤ b + 97) ∨ (q = b + 94 ∧ k = 3)
/-- the first plain worlds are listed -/
def Lst (b L : Nat) (σ : St) : Prop := s_i σ (b + 94) 3 = nI L ∧ ∀ w, w < L → s_i σ (b + 95) w = nI (pwc w) ∧ s_i σ (b + 96) w = nI (oc (pws w) (pwc w))
theorem P_add_ok {b q n c : Nat} {P : Nat → Bool} {σ0 σ : St} {Q : St → Prop} (hX : XL b σ0) (hN : b + 121 ≤ s_n σ0) (hx : cx (pwI b) no σ0 σ) (hq : s_n σ0 ≤ q) (hw : wok n c) (hp : isP n c = true) (hL : Lst b (pidx n c) σ) (hS : Seen q P σ) (hP : ∀ d, d < n ^ (n * n) → P d = decide (plain n d < c))
    (hst : ∀ j, 1 ≤ j → j ≤ n → s_i σ (b + 97) j = nI (fo j))
    (k : ∀ σ' P', cx (pwI b) no σ0 σ' → Lst b (pidx n c + 1) σ' → Seen q P' σ' → (∀ d, d < n ^ (n * n) → P' d = decide (plain n d < c + 1)) → (∀ j, 1 ≤ j → j ≤ n → s_i σ' (b + 97) j = nI (fo j)) → Q σ') : P_P_add (b + 94) (nI n) (nI c) (some q) σ Q := by
  have hn := hw.1
  have hl := wc_le hn
  have hc := hw.2
  obtain ⟨p1, p2⟩ := pidx_lt hw hp
  obtain ⟨f1, f2⟩ := fo_mono hn
  have hL3 : pidx n c < 3341 := by omega
  have w6 := ways_le (n := n)
  have w0 := ways_pos n
  have hpl : plain n c = c := by unfold isP at hp; simpa using hp
  have sh : ∀ σ', cx (pwI b) no σ0 σ' → s_s σ' (b + 94) = some (.inl 7) ∧ s_s σ' (b + 95) = some (.inr (0, 3341)) ∧ s_s σ' (b + 96) = some (.inr (2, 3341)) ∧ s_r σ' (b + 94) 0 = some (b + 95) ∧ s_r σ' (b + 94) 1 = some (b + 96) := fun σ' c => ⟨(c.s (by omega)).trans hX.1.p, (c.s (by omega)).trans hX.1.pa, (c.s (by omega)).trans hX.1.pb, (c.r (by omega) (fun z => z)).trans hX.1.p0, (c.r (by omega) (fun z => z)).trans hX.1.p1⟩
  obtain ⟨t1, t2, t3, t4, t5⟩ := sh σ hx
  refine ⟨t1, fun K27 h27 => b_lt (pidx n c) 3341 hL.1 rfl (by omega) (by decide) (fun _ => ?_) (fun z => absurd hL3 (by omega))⟩
  rw [hL.1]
  refine ar_mk (b + 95) 3341 (pidx n c) t4 t2 rfl hL3 (by decide) ?_
  have cx1 : cx (pwI b) no σ0 (w_i σ (b + 95) (pidx n c) (nI c)) := hx.wi (Or.inl (by unfold pwI; omega))
  -- the worlds that are alike
  refine loopU (P := fun i s' => cx (pwI b) no σ0 s' ∧ Seen q (fun d => P d || (List.range i).any (fun j => rcode n c j == d)) s' ∧ (s_i s' (b + 94) 3 = nI (pidx n c) ∧ (∀ w, w < pidx n c → s_i s' (b + 95) w = nI (pwc w) ∧ s_i s' (b + 96) w = nI (oc (pws w) (pwc w))) ∧ s_i s' (b + 95) (pidx n c) = nI c ∧ ∀ j, 1 ≤ j → j ≤ n → s_i s' (b + 97) j = nI (fo j))) (G := fun i s' => K27 (nI n) (nI c) (some q) (nI (ct (fun i => (List.range i).all (fun j => !(rcode n c j == rcode n c i))) i)) (nI i) s') (ways n) ?_ ?_ 0 _ (Nat.zero_le _) ⟨cx1, ⟨hS.1, fun d hd => by
    have := hS.2 d hd
    show lbit (s_l σ q (d / 64)) (d % 64) = _
    simpa using this⟩, ⟨?_, fun w hw' => ?_, ?_, fun j h1 h2 => ?_⟩⟩
  · rintro s' ⟨hx', hS', e3, ev, ec, est⟩
    obtain ⟨u1, u2, u3, u4, u5⟩ := sh s' hx'
    have hoc : oc n c ≤ 6 := Nat.le_trans (ct_le _ _) w6
    refine h27 _ _ _ _ _ _ (C_renamingCount_ok hn (b_tt (nI_le (Nat.le_refl _) (by omega)) ?_))
    rw [e3]
    refine ar_mk (b + 96) 3341 (pidx n c) u5 u3 rfl hL3 (by decide) ?_
    have eo : ct (fun i => (List.range i).all (fun j => !(rcode n c j == rcode n c i))) (ways n) = oc n c := rfl
    rw [eo, nar_y _ (by omega)]
    have e3' : s_i (w_i s' (b + 96) (pidx n c) (nI (oc n c))) (b + 94) 3 = nI (pidx n c) := by rw [s_i_wi, if_neg (fun z => by omega)]; exact e3
    rw [e3', nI_add]
    refine k _ _ ((hx'.wi (Or.inl (by unfold pwI; omega))).wi (Or.inl (by unfold pwI; omega))) ⟨?_, fun w hw' => ?_⟩ hS'.wi.wi (fun d hd => ?_) (fun j h1 h2 => ?_)
    · rw [s_i_wi, if_pos ⟨rfl, rfl⟩]
    · rw [s_i_wi, if_neg (fun z => by omega), s_i_wi, if_neg (fun z => by omega), s_i_wi, if_neg (fun z => by omega), s_i_wi]
      by_cases e : w = pidx n c
      · subst e
        rw [if_pos ⟨rfl, rfl⟩, pws_pidx hw hp, pwc_pidx hw hp]
        exact ⟨ec, rfl⟩
      · rw [if_neg (fun z => e z.2)]
        exact ev w (by omega)
    · have hd' : wok n d := ⟨hn, hd⟩
      show (P d || (List.range (ways n)).any (fun j => rcode n c j == d)) = _
      rw [hP d hd, Bool.eq_iff_iff]
      simp only [Bool.or_eq_true, decide_eq_true_eq, List.any_eq_true, List.mem_range, beq_iff_eq]
      have := plain_eq_iff hw hd'
      rw [hpl] at this
      constructor
      · rintro (z | ⟨j, hj, z⟩)
        · omega
        · have := this.mpr ⟨j, hj, z⟩
          omega
      · intro z
        rcases Nat.lt_or_ge (plain n d) c with y | y
        · exact Or.inl y
        · have e : c = plain n d := by omega
          obtain ⟨j, hj, z⟩ := this.mp e
          exact Or.inr ⟨j, hj, z⟩
    · rw [s_i_wi, if_neg (fun z => by omega), s_i_wi, if_neg (fun z => by omega)]
      exact est j h1 h2
  · rintro i s' hi ⟨hx', hS', e3, ev, ec, est⟩ ih
    refine h27 _ _ _ _ _ _ (C_renamingCount_ok hn (b_ff (nI_ge hi (by omega)) (C_renamed_ok hw hi ?_)))
    have hr := rcode_lt (c := c) hn hi
    have hr' : wok n (rcode n c i) := rcode_wok hn hi
    have hpr : plain n (rcode n c i) = c := by rw [plain_rcode hw hi, hpl]
    have h64 : rcode n c i / 64 < 308 := by omega
    rw [nI_div (by omega) (by decide) (by decide)]
    refine b_lt (rcode n c i / 64) 0 rfl nI_0.symm (by omega) (by decide) (fun z => absurd z (Nat.not_lt_zero _)) (fun _ => al_mk q 4 308 rfl hS'.1 (b_ff (nI_ge h64 (by decide)) (P_isIn_ok hS' (by omega) ?_)))
    have ePr : P (rcode n c i) = false := by rw [hP _ hr, hpr]; simp
    rw [ePr, Bool.false_or]
    have hct : ct (fun i => (List.range i).all (fun j => !(rcode n c j == rcode n c i))) (i + 1) = ct (fun i => (List.range i).all (fun j => !(rcode n c j == rcode n c i))) i + (if (List.range i).all (fun j => !(rcode n c j == rcode n c i)) then 1 else 0) := rfl
    have hall : (List.range i).all (fun j => !(rcode n c j == rcode n c i)) = !((List.range i).any (fun j => rcode n c j == rcode n c i)) := by
      rw [List.not_any_eq_all_not]
    rw [hall] at hct
    refine b_b _ rfl (fun e => ?_) (fun e => ?_)
    · rw [e] at hct
      simp at hct
      rw [irem_nI (by omega) (by decide) (by decide)]
      refine ar_mk q 308 (rcode n c i / 64) rfl hS'.1 rfl h64 (by decide) (ar_mk q 308 (rcode n c i / 64) rfl hS'.1 rfl h64 (by decide) ?_)
      rw [nI_add, nI_add, ← hct]
      refine ih _ ⟨hx'.wl, ?_, e3, ev, ec, est⟩
      have hset := hS'.set (d := rcode n c i) (by omega)
      refine ⟨hset.1, fun d hd => ?_⟩
      rw [hset.2 d hd]
      show ((P d || (List.range i).any (fun j => rcode n c j == d)) || decide (d = rcode n c i)) = (P d || (List.range (i + 1)).any (fun j => rcode n c j == d))
      rw [List.range_succ, List.any_append, ← Bool.or_assoc]
      congr 1
      simp only [List.any_cons, List.any_nil, Bool.or_false]
      rw [Bool.eq_iff_iff]
      simp only [decide_eq_true_eq, beq_iff_eq]
      exact ⟨fun z => z.symm, fun z => z.symm⟩
    · rw [e] at hct
      simp at hct
      rw [nI_add, ← hct]
      refine ih s' ⟨hx', ?_, e3, ev, ec, est⟩
      refine ⟨hS'.1, fun d hd => ?_⟩
      rw [hS'.2 d hd]
      show (P d || (List.range i).any (fun j => rcode n c j == d)) = (P d || (List.range (i + 1)).any (fun j => rcode n c j == d))
      rw [List.range_succ, List.any_append, ← Bool.or_assoc]
      by_cases ed : rcode n c i = d
      · rw [← ed, e, Bool.or_true, Bool.true_or]
      · have : ([i].any (fun j => rcode n c j == d)) = false := by simp [ed]
        rw [this, Bool.or_false]
  · rw [s_i_wi, if_neg (fun z => by omega)]; exact hL.1
  · rw [s_i_wi, if_neg (fun z => by omega), s_i_wi, if_neg (fun z => by omega)]; exact hL.2 w hw'
  · rw [s_i_wi, if_pos ⟨rfl, rfl⟩]
  · rw [s_i_wi, if_neg (fun z => by omega)]; exact hst j h1 h2
def Lz (b : Nat) (σ : St) : Nat := if s_i σ (b + 94) 3 = 0 then 1 else 0
theorem P_list_ok {b mc ms : Nat} {σ : St} {Q : St → Prop} (hX : XL b σ) (hN : b + 121 ≤ s_n σ) (hP : PwC b σ) (hmc : Lz b σ ≤ mc) (hms : 308 * Lz b σ ≤ ms) (k : ∀ σ', cx (pwI b) no σ σ' → s_i σ' (b + 94) 3 = nI 3341 → PwR b σ' → Q σ') : P_P_list (b + 94) σ mc ms Q := by
  refine ⟨hX.1.p, fun K22 K39 K57 h22 h39 h57 => ?_⟩
  rcases hP with h0 | ⟨h0, hR⟩
  · have eL : Lz b σ = 1 := by unfold Lz; rw [h0]; rfl
    rw [eL] at hmc hms
    rw [h0]
    have h3 : nok 3 := ⟨by decide, by decide⟩
    refine b_tt (by decide) (C_worldCount_ok h3 ?_)
    refine ⟨308, by decide, by decide, by omega, by omega, nw_mk ?_⟩
    obtain ⟨q, eq⟩ : ∃ q, q = s_n σ := ⟨_, rfl⟩
    rw [← eq]
    have c1 : cx (pwI b) no σ (w_new σ (.inr (4, 308))) := cx.rf.wn
    have qs : s_s (w_new σ (.inr (4, 308))) q = some (.inr (4, 308)) := by rw [s_s_wn, if_pos eq]
    have sh : ∀ σ', cx (pwI b) no σ σ' → s_s σ' (b + 97) = some (.inr (0, 5)) ∧ s_r σ' (b + 94) 2 = some (b + 97) := fun σ' c => ⟨(c.s (by omega)).trans hX.1.pc, (c.r (by omega) (fun z => z)).trans hX.1.p2⟩
    refine loopU (P := fun i s' => cx (pwI b) no σ s' ∧ s_s s' q = some (.inr (4, 308)) ∧ Lst b (fo (i + 1)) s' ∧ ∀ j, 1 ≤ j → j ≤ i → s_i s' (b + 97) j = nI (fo j)) (G := fun i s' => K22 (some q) (nI (i + 1)) s' (0 + 1) (0 + 308)) 3 ?_ ?_ 0 _ (Nat.zero_le _) ⟨c1, qs, ⟨?_, fun w hw => absurd hw (Nat.not_lt_zero w)⟩, fun j h1 h2 => by omega⟩
    · rintro s' ⟨hx, hq, hL, hst⟩
      obtain ⟨u1, u2⟩ := sh s' hx
      refine h22 _ _ _ _ _ (b_tt (nI_lt (by decide) (by decide)) (ar_mk (b + 97) 5 4 u2 u1 rfl (by decide) (by decide) ?_))
      rw [hL.1]
      refine k _ (hx.wi (Or.inl (by unfold pwI; omega))) ?_ ⟨fun w hw => ?_, fun n h1 h4 => ?_⟩
      · rw [s_i_wi, if_neg (fun z => by omega)]; exact hL.1
      · rw [s_i_wi, if_neg (fun z => by omega), s_i_wi, if_neg (fun z => by omega)]; exact hL.2 w hw
      · rw [s_i_wi]
        by_cases e : n = 4
        · rw [if_pos ⟨rfl, e⟩, e]
        · rw [if_neg (fun z => e z.2)]; exact hst n h1 (by omega)
    · rintro i s' hi ⟨hx, hq, hL, hst⟩ ih
      obtain ⟨u1, u2⟩ := sh s' hx
      have hn : nok (i + 1) := ⟨by omega, by omega⟩
      have hl := wc_le hn
      obtain ⟨f1, f2⟩ := fo_mono hn
      refine h22 _ _ _ _ _ (b_ff (nI_nlt (by omega) (by decide)) (ar_mk (b + 97) 5 (i + 1) u2 u1 rfl (by omega) (by decide) ?_))
      rw [hL.1]
      have hx1 : cx (pwI b) no σ (w_i s' (b + 97) (i + 1) (nI (fo (i + 1)))) := hx.wi (Or.inl (by unfold pwI; omega))
      have hL1 : Lst b (fo (i + 1)) (w_i s' (b + 97) (i + 1) (nI (fo (i + 1)))) := by
        refine ⟨?_, fun w hw => ?_⟩
        · rw [s_i_wi, if_neg (fun z => by omega)]; exact hL.1
        · rw [s_i_wi, if_neg (fun z => by omega), s_i_wi, if_neg (fun z => by omega)]; exact hL.2 w hw
      have hst1 : ∀ j, 1 ≤ j → j ≤ i + 1 → s_i (w_i s' (b + 97) (i + 1) (nI (fo (i + 1)))) (b + 97) j = nI (fo j) := fun j h1 h2 => by
        rw [s_i_wi]
        by_cases e : j = i + 1
        · rw [if_pos ⟨rfl, e⟩, e]
        · rw [if_neg (fun z => e z.2)]; exact hst j h1 (by omega)
      -- no code is seen yet
      refine loopU (P := fun t s2 => (cx (pwI b) no σ s2 ∧ s_s s2 q = some (.inr (4, 308)) ∧ Lst b (fo (i + 1)) s2 ∧ ∀ j, 1 ≤ j → j ≤ i + 1 → s_i s2 (b + 97) j = nI (fo j)) ∧ ∀ j, j < t → s_l s2 q j = lN 0) (G := fun t s2 => K39 (some q) (nI (i + 1)) (nI t) s2 (0 + 1) (0 + 308)) 308 ?_ ?_ 0 _ (Nat.zero_le _) ⟨⟨hx1, hq, hL1, hst1⟩, fun j hj => absurd hj (Nat.not_lt_zero j)⟩
      · rintro s2 ⟨⟨hx2, hq2, hL2, hst2⟩, hz⟩
        refine h39 _ _ _ _ _ _ (al_mk q 4 308 rfl hq2 (b_tt (nI_le (Nat.le_refl _) (by decide)) ?_))
        have hct0 : fo (i + 1) + ct (isP (i + 1)) 0 = fo (i + 1) := rfl
        refine loopU (P := fun c s3 => cx (pwI b) no σ s3 ∧ (∃ P, Seen q P s3 ∧ ∀ d, d < (i + 1) ^ ((i + 1) * (i + 1)) → P d = decide (plain (i + 1) d < c)) ∧ Lst b (fo (i + 1) + ct (isP (i + 1)) c) s3 ∧ ∀ j, 1 ≤ j → j ≤ i + 1 → s_i s3 (b + 97) j = nI (fo j)) (G := fun c s3 => K57 (some q) (nI (i + 1)) (nI c) s3 (0 + 1) (0 + 308)) ((i + 1) ^ ((i + 1) * (i + 1))) ?_ ?_ 0 s2 (Nat.zero_le _) ⟨hx2, ⟨fun _ => false, ⟨hq2, fun d hd => by rw [hz _ (by omega), lbit_0]⟩, fun d hd => by simp⟩, hL2, hst2⟩
        · rintro s3 ⟨hx3, ⟨P, hS, hP⟩, hL3, hst3⟩
          refine h57 _ _ _ _ _ _ (C_worldCount_ok hn (b_tt (nI_le (Nat.le_refl _) (by omega)) ?_))
          rw [cnt_n hn] at hL3
          rw [nI_add]
          exact ih s3 ⟨hx3, hS.1, hL3, hst3⟩
        · rintro c s3 hc ⟨hx3, ⟨P, hS, hP⟩, hL3, hst3⟩ ih3
          have hw : wok (i + 1) c := ⟨hn, hc⟩
          have hple := plain_le_self hw
          refine h57 _ _ _ _ _ _ (C_worldCount_ok hn (b_ff (nI_ge hc (by omega)) (P_isIn_ok hS (by omega) ?_)))
          rw [hP c hc]
          have hct : ct (isP (i + 1)) (c + 1) = ct (isP (i + 1)) c + (if isP (i + 1) c then 1 else 0) := rfl
          refine b_b _ rfl (fun e => ?_) (fun e => ?_)
          · have e' : plain (i + 1) c = c := by
              have := of_decide_eq_false e
              omega
            have hp : isP (i + 1) c = true := by unfold isP; rw [e']; simp
            rw [hp, if_pos rfl] at hct
            refine P_add_ok hX hN hx3 (by omega) hw hp hL3 hS hP hst3 (fun s4 P' hx4 hL4 hS4 hP4 hst4 => ?_)
            rw [nI_add]
            refine ih3 s4 ⟨hx4, ⟨P', hS4, hP4⟩, ?_, hst4⟩
            rw [hct, ← Nat.add_assoc]
            exact hL4
          · have e' : plain (i + 1) c < c := of_decide_eq_true e
            have hp : isP (i + 1) c = false := by unfold isP; simp; omega
            rw [hp] at hct
            have hct' : ct (isP (i + 1)) (c + 1) = ct (isP (i + 1)) c := hct
            rw [nI_add]
            refine ih3 s3 ⟨hx3, ⟨P, hS, fun d hd => ?_⟩, by rw [hct']; exact hL3, hst3⟩
            rw [hP d hd]
            apply decide_eq_decide.mpr
            constructor
            · intro z; omega
            · intro z
              have hne : plain (i + 1) d ≠ c := by
                intro y
                have hd' : wok (i + 1) d := ⟨hn, hd⟩
                have h2 := plain_plain hd'
                rw [y] at h2
                omega
              omega
      · rintro t s2 ht ⟨⟨hx2, hq2, hL2, hst2⟩, hz⟩ ih2
        refine h39 _ _ _ _ _ _ (al_mk q 4 308 rfl hq2 (b_ff (nI_ge ht (by decide)) (ar_mk q 308 t rfl hq2 rfl ht (by decide) ?_)))
        rw [nI_add]
        refine ih2 _ ⟨⟨hx2.wl, hq2, hL2, hst2⟩, fun j hj => ?_⟩
        rw [s_l_wl]
        by_cases e : j = t
        · rw [if_pos ⟨rfl, e⟩]
        · rw [if_neg (fun z => e z.2)]; exact hz j (by omega)
    · rw [s_i_wn, if_neg (by omega)]; exact h0
  · rw [h0]
    exact b_ff (by decide) (k σ cx.rf h0 hR)
