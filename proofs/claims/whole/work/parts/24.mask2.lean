/-! The reference: what is told, the rest. -/
theorem lets_app : ∀ a b : List Nat, lets (a ++ b) = lets a ||| lets b
  | [], b => by simp [lets]
  | s :: a, b => by
    show _ ||| lets (a ++ b) = (_ ||| lets a) ||| lets b
    rw [lets_app a b, Nat.or_assoc]
theorem countP_l (p : Nat → Bool) (s : Nat) (l : List Nat) : (s :: l).countP p = (if p s then 1 else 0) + l.countP p := by
  rw [List.countP_cons]; omega
def isLet (s : Nat) : Bool := decide (s < 3)
theorem M_lettersOf_ok {m i : Nat} {w : Lw} {asSet : Bool} {x : Int32} {σ : St} {Q : Int32 → St → Prop} (hL : ML m σ) (hi : i < 5) (hx : x = bI asSet) (h1 : SideAt (s_i σ (m + 1)) (3 + 33 * i + 1) w.1) (h2 : SideAt (s_i σ (m + 1)) (3 + 33 * i + 17) w.2) (ho : okL w) (k : Q (nI (if asSet then lets (w.1 ++ w.2) else letn w)) σ) : P_M_lettersOf m (nI i) x σ Q := by
  refine ⟨hL.s, fun K13 K28 K59 h13 h28 h59 => ?_⟩
  have side : ∀ (p cnt st : Nat) (l : List Nat), p + 16 ≤ 176 → SideAt (s_i σ (m + 1)) p l → okE l → K13 (nI i) x (nI (cnt + l.countP isLet)) (nI (st ||| lets l)) (nI (p + 16)) σ → K28 (nI i) x (nI cnt) (nI st) (nI p) (nI 1) σ := by
    intro p cnt st l hp hS ho hk
    have hlen := ho.2
    have key : ∀ (rest : List Nat) (j cnt st : Nat), j + rest.length = l.length → (∀ t, t < rest.length → l.getD (j + t) 0 = rest.getD t 0) → (∀ s ∈ rest, s ≤ 3) → K13 (nI i) x (nI (cnt + rest.countP isLet)) (nI (st ||| lets rest)) (nI (p + 16)) σ → K28 (nI i) x (nI cnt) (nI st) (nI p) (nI (j + 1)) σ := by
      intro rest
      induction rest with
      | nil =>
        intro j cnt st hj _ _ hk
        simp at hj
        refine h28 _ _ _ _ _ _ _ (ar_mk (m + 1) 176 p hL.r1 hL.a1 rfl (by omega) (by decide) ?_)
        rw [hS.1]
        refine b_tt (nI_lt (by omega) (by omega)) ?_
        rw [nI_add]
        simpa [lets] using hk
      | cons s rest ih =>
        intro j cnt st hj hget hs3 hk
        simp at hj
        have hs := hs3 s (by simp)
        have eg : l.getD j 0 = s := by simpa using hget 0 (by simp)
        have es : s_i σ (m + 1) (p + (j + 1)) = nI s := by rw [show p + (j + 1) = p + 1 + j by omega, hS.2 j (by omega), eg]
        have hrest : ∀ t, t < rest.length → l.getD (j + 1 + t) 0 = rest.getD t 0 := fun t ht => by
          have := hget (t + 1) (by simp; omega)
          rw [show j + (t + 1) = j + 1 + t by omega] at this
          simpa using this
        rw [countP_l, ← Nat.add_assoc] at hk
        have hl : lets (s :: rest) = (if s < 3 then 2 ^ s else 0) ||| lets rest := rfl
        rw [hl, ← Nat.or_assoc] at hk
        have hn := ih (j + 1) _ _ (by omega) hrest (fun t ht => hs3 t (by simp [ht])) hk
        refine h28 _ _ _ _ _ _ _ (ar_mk (m + 1) 176 p hL.r1 hL.a1 rfl (by omega) (by decide) ?_)
        rw [hS.1]
        refine b_ff (nI_nlt (by omega) (by omega)) (ar_mk (m + 1) 176 (p + (j + 1)) hL.r1 hL.a1 (by rw [nI_add]) (by omega) (by decide) ?_)
        rw [es]
        refine b_eq s 3 rfl rfl (by omega) (by decide) (fun e => ?_) (fun e => ?_)
        · refine h59 _ _ _ _ _ _ _ _ (b_tt rfl (b_tt rfl ?_))
          rw [nI_add, nI_or, nI_add]
          have e1 : isLet s = false := by rw [e]; rfl
          rw [e1, if_neg (show ¬ s < 3 by omega)] at hn
          simpa using hn
        · refine h59 _ _ _ _ _ _ _ _ (b_ff (by decide) (b_ff (by decide) (ar_mk (m + 1) 176 (p + (j + 1)) hL.r1 hL.a1 (by rw [nI_add]) (by omega) (by decide) ?_)))
          rw [es, shl_1 s (by omega), nI_add, nI_or, nI_add]
          have hs' : s < 3 := by omega
          have e1 : isLet s = true := by simp [isLet, hs']
          rw [e1, if_pos hs'] at hn
          simpa using hn
    exact key l 0 cnt st (by omega) (fun t ht => by simp) (fun s hs => okE_small l 0 ho.1 s hs) hk
  refine M_lawAt_ok ?_
  rw [nI_add]
  refine h13 _ _ _ _ _ _ (M_lawAt_ok ?_)
  rw [nI_add]
  refine b_ff (nI_nlt (by omega) (by omega)) (side _ 0 0 w.1 (by omega) h1 ho.1 (h13 _ _ _ _ _ _ (M_lawAt_ok ?_)))
  rw [nI_add]
  refine b_ff (nI_nlt (by omega) (by omega)) ?_
  rw [show 3 + 33 * i + 1 + 16 = 3 + 33 * i + 17 by omega]
  refine side _ _ _ w.2 (by omega) h2 ho.2 (h13 _ _ _ _ _ _ (M_lawAt_ok ?_))
  rw [nI_add]
  refine b_tt (nI_lt (by omega) (by omega)) ?_
  have e1 : 0 + List.countP isLet w.1 + List.countP isLet w.2 = letn w := by
    unfold letn
    rw [List.countP_append, Nat.zero_add]
    rfl
  have e2 : 0 ||| lets w.1 ||| lets w.2 = lets (w.1 ++ w.2) := by rw [lets_app, Nat.zero_or]
  rw [e1, e2]
  refine b_b asSet hx (fun e => ?_) (fun e => ?_)
  · rw [e] at k; exact k
  · rw [e] at k; exact k
theorem find_range (p : Nat → Bool) : ∀ N, (∀ i, i < N → p i = true → (∀ j, j < i → p j = false) → (List.range N).find? p = some i) ∧ ((∀ j, j < N → p j = false) → (List.range N).find? p = none)
  | 0 => ⟨fun i hi => absurd hi (Nat.not_lt_zero i), fun _ => rfl⟩
  | N + 1 => by
    obtain ⟨h1, h2⟩ := find_range p N
    rw [List.range_succ, List.find?_append]
    refine ⟨fun i hi hp hj => ?_, fun hj => ?_⟩
    · rcases Nat.lt_or_ge i N with q | q
      · rw [h1 i q hp hj]; rfl
      · have : i = N := by omega
        subst this
        rw [h2 hj]
        simp [hp]
    · rw [h2 (fun j hj' => hj j (by omega))]
      simp [hj N (by omega)]
theorem M_firstBroken_ok {m i : Nat} {a : As} {σ : St} {Q : Int32 → St → Prop} (h : MI m σ a) (ha : asok a) (hi : i < a.1.2.2.length) (kk : ∀ σ', chg (ts m) no σ σ' → Q (fbr a.1.1 a.1.2.1 (lwg a.1.2.2 i).2 (a.1.1 * a.1.1 * a.1.1)) σ') : P_M_firstBroken m (nI i) σ Q := by
  have hwa := ha.1.1
  have h5 := ha.1.2.1
  have h27 := n27 hwa.1
  have ho := ha.1.2.2 _ (lwg_mem hi)
  refine ⟨h.1.s, fun K18 h18 => ar_mk (m + 1) 176 0 h.1.r1 h.1.a1 rfl (by decide) (by decide) (ar_mk (m + 1) 176 1 h.1.r1 h.1.a1 rfl (by decide) (by decide) ?_)⟩
  rw [h.n, h.c]
  refine M_unfolds_ok h.1 hwa (fun σ1 hc hT => ?_)
  refine loopU (P := fun j s' => chg (ts m) no σ s' ∧ TB m a.1.1 a.1.2.1 s' ∧ ∀ t, t < j → brk a.1.1 a.1.2.1 t (lwg a.1.2.2 i).2 = false) (G := fun j s' => K18 (nI i) (nI j) s') (a.1.1 * a.1.1 * a.1.1) ?_ ?_ 0 σ1 (Nat.zero_le _) ⟨hc.up (fun q k z => Or.inl z), hT, fun t ht => absurd ht (Nat.not_lt_zero t)⟩
  · rintro s' ⟨hcs, hTs, hf⟩
    have h' := h.scr (hcs.up (fun _ _ => ts_scr))
    refine h18 _ _ _ (ar_mk (m + 1) 176 0 h'.1.r1 h'.1.a1 rfl (by decide) (by decide) (ar_mk (m + 1) 176 0 h'.1.r1 h'.1.a1 rfl (by decide) (by decide) (ar_mk (m + 1) 176 0 h'.1.r1 h'.1.a1 rfl (by decide) (by decide) ?_)))
    rw [h'.n, nI_mul, nI_mul]
    refine b_tt (nI_le (Nat.le_refl _) (by omega)) ?_
    have e := (find_range (fun k => brk a.1.1 a.1.2.1 k (lwg a.1.2.2 i).2) (a.1.1 * a.1.1 * a.1.1)).2 hf
    have := kk s' hcs
    unfold fbr at this
    rw [e] at this
    exact this
  · rintro j s' hj ⟨hcs, hTs, hf⟩ ih
    have h' := h.scr (hcs.up (fun _ _ => ts_scr))
    refine h18 _ _ _ (ar_mk (m + 1) 176 0 h'.1.r1 h'.1.a1 rfl (by decide) (by decide) (ar_mk (m + 1) 176 0 h'.1.r1 h'.1.a1 rfl (by decide) (by decide) (ar_mk (m + 1) 176 0 h'.1.r1 h'.1.a1 rfl (by decide) (by decide) ?_)))
    rw [h'.n, nI_mul, nI_mul]
    refine b_ff (nI_ge hj (by omega)) (ar_mk (m + 1) 176 0 h'.1.r1 h'.1.a1 rfl (by decide) (by decide) ?_)
    rw [h'.n]
    refine M_isBroken_ok h'.1 hTs hwa.1 (by omega) hj (h'.side hi).1 (h'.side hi).2 ho (fun s2 hc2 => b_b _ rfl (fun e => ?_) (fun e => ?_))
    · rw [nI_add]
      refine ih s2 ⟨hcs.tr (hc2.up (fun q k z => Or.inr z)), hTs.g hc2 (fun _ => by unfold stk; omega), fun t ht => ?_⟩
      rcases Nat.lt_or_ge t j with q | q
      · exact hf t q
      · have : t = j := by omega
        subst this; exact e
    · have ef := (find_range (fun k => brk a.1.1 a.1.2.1 k (lwg a.1.2.2 i).2) (a.1.1 * a.1.1 * a.1.1)).1 j hj e hf
      have := kk s2 (hcs.tr (hc2.up (fun q k z => Or.inr z)))
      unfold fbr at this
      rw [ef] at this
      exact this
theorem fws_MM {m q k : Nat} (h : fws m q k) : MM m q k := by unfold fws lrn at h; unfold MM; omega
theorem ts_MM {m q k : Nat} (h : ts m q k) : MM m q k := by unfold ts at h; unfold MM; omega
theorem wit_len (ls : List (Bool × Lw)) (i : Nat) : (wit ls i).length ≤ 12 := by unfold wit; rw [List.length_take]; omega
theorem wgrp_lt {ls : List (Bool × Lw)} {i cs w : Nat} (h : w ∈ wgrp ls i cs 3341) : w < 3341 := by
  unfold wgrp at h
  exact List.mem_range.mp (List.mem_filter.mp h).1
theorem wlst_lt {ls : List (Bool × Lw)} {i : Nat} : ∀ {cs w : Nat}, w ∈ wlst ls i cs → w < 3341
  | 0, w, h => by simp [wlst] at h
  | cs + 1, w, h => by
    rcases List.mem_append.mp h with g | g
    · exact wlst_lt g
    · exact wgrp_lt g
theorem wit_lt {ls : List (Bool × Lw)} {i w : Nat} (h : w ∈ wit ls i) : w < 3341 := wlst_lt (List.mem_of_mem_take h)
theorem M_follows_ok {m i : Nat} {a : As} {σ : St} {Q : Int32 → St → Prop} (h : MI m σ a) (ha : asok a) (hi : i < a.1.2.2.length) (kk : ∀ σ', chg (fws m) no σ σ' → MI m σ' a → Q (bI ((wit a.1.2.2 i).length == 0)) σ') : P_M_follows m (nI i) σ Q := by
  refine ⟨h.1.s, M_findsWitnesses_ok h ha hi (fun σ1 hc h1 hck hf => ?_)⟩
  have hl := wit_len a.1.2.2 i
  have kq := kk σ1 hc h1
  rw [hf.1]
  refine b_z _ rfl (by omega) (fun e => ?_) (fun e => ?_)
  · rw [e] at kq; exact kq
  · have : ((wit a.1.2.2 i).length == 0) = false := by simpa using e
    rw [this] at kq; exact kq
theorem M_law_ok {m : Nat} {a : As} {x y : Int32} {σ : St} {Q : Int32 → St → Prop} (h : MI m σ a) (ha : asok a) (kk : ∀ σ', chg (MM m) no σ σ' → MI m σ' a → Q (qLaw a x y) σ') : P_M_law m x y σ Q := by
  have h5 := ha.1.2.1
  refine ⟨h.1.s, M_isLaw_ok h.1 h.k h5 (b_b _ rfl (fun e => ?_) (fun e => ?_))⟩
  · have eo : qLaw a x y = (-1) := by simp [qLaw, e]
    rw [eo] at kk; exact kk σ chg.rf h
  obtain ⟨i, hi, rfl⟩ := isN_ex e (by omega)
  have t1 := tn_nI (show i < 2 ^ 31 by omega)
  have eq0 : ∀ t, t < 7 → y = nI t → qLaw a (nI i) y = (match t with
    | 0 => bI (lwg a.1.2.2 i).1
    | 1 => nI (bc a.1.1 a.1.2.1 (lwg a.1.2.2 i).2)
    | 2 => nI (letn (lwg a.1.2.2 i).2)
    | 3 => nI (lets ((lwg a.1.2.2 i).2.1 ++ (lwg a.1.2.2 i).2.2))
    | 4 => bI ((wit a.1.2.2 i).length == 0)
    | 5 => nI (wit a.1.2.2 i).length
    | _ => fbr a.1.1 a.1.2.1 (lwg a.1.2.2 i).2 (a.1.1 * a.1.1 * a.1.1)) := by
    intro t ht ey
    subst ey
    unfold qLaw
    rw [if_pos e, if_pos (by rw [isN_nI (by omega)]; simpa using ht), tn_nI (by omega), t1]
    have h7 : t = 0 ∨ t = 1 ∨ t = 2 ∨ t = 3 ∨ t = 4 ∨ t = 5 ∨ t = 6 := by omega
    rcases h7 with rfl | rfl | rfl | rfl | rfl | rfl | rfl <;> rfl
  have hsd := h.side hi
  have ho := ha.1.2.2 _ (lwg_mem hi)
  refine b_or (fun ey => ?_) (fun n0 => b_or (fun ey => ?_) (fun n1 => b_or (fun ey => ?_) (fun n2 => b_or (fun ey => ?_) (fun n3 => b_or (fun ey => ?_) (fun n4 => b_or (fun ey => ?_) (fun n5 => b_or (fun ey => ?_) (fun n6 => ?_)))))))
  · rw [eq0 0 (by decide) ey] at kk
    refine M_lawAt_ok (ar_mk (m + 1) 176 (3 + 33 * i) h.1.r1 h.1.a1 rfl (by omega) (by decide) ?_)
    rw [row_on h.2.1 i hi]
    exact kk σ chg.rf h
  · rw [eq0 1 (by decide) ey] at kk
    exact M_brokenNow_ok h ha hi (fun s2 hc => kk s2 (hc.up (fun _ _ => ts_MM)) (h.scr (hc.up (fun _ _ => ts_scr))))
  · rw [eq0 2 (by decide) ey] at kk
    exact M_lettersOf_ok (asSet := false) h.1 (by omega) rfl hsd.1 hsd.2 ho (kk σ chg.rf h)
  · rw [eq0 3 (by decide) ey] at kk
    exact M_lettersOf_ok (asSet := true) h.1 (by omega) rfl hsd.1 hsd.2 ho (kk σ chg.rf h)
  · rw [eq0 4 (by decide) ey] at kk
    refine M_follows_ok h ha hi (fun s2 hc h2 => ?_)
    have kq := kk s2 (hc.up (fun _ _ => fws_MM)) h2
    refine b_b _ rfl (fun eb => ?_) (fun eb => ?_)
    · have kq : Q (bI ((wit a.1.2.2 i).length == 0)) s2 := kq
      rw [eb] at kq; exact kq
    · have kq : Q (bI ((wit a.1.2.2 i).length == 0)) s2 := kq
      rw [eb] at kq; exact kq
  · rw [eq0 5 (by decide) ey] at kk
    refine ⟨h.1.s, M_findsWitnesses_ok h ha hi (fun s2 hc h2 hck hf => ?_)⟩
    rw [hf.1]
    exact kk s2 (hc.up (fun _ _ => fws_MM)) h2
  · rw [eq0 6 (by decide) ey] at kk
    exact M_firstBroken_ok h ha hi (fun s2 hc => kk s2 (hc.up (fun _ _ => ts_MM)) (h.scr (hc.up (fun _ _ => ts_scr))))
  · have eo : qLaw a (nI i) y = (-2) := by
      unfold qLaw
      rw [if_pos e, if_neg]
      intro hy
      obtain ⟨t, ht, rfl⟩ := isN_ex hy (by decide)
      have h7 : t = 0 ∨ t = 1 ∨ t = 2 ∨ t = 3 ∨ t = 4 ∨ t = 5 ∨ t = 6 := by omega
      rcases h7 with rfl | rfl | rfl | rfl | rfl | rfl | rfl
      · exact n0 rfl
      · exact n1 rfl
      · exact n2 rfl
      · exact n3 rfl
      · exact n4 rfl
      · exact n5 rfl
      · exact n6 rfl
    rw [eo] at kk; exact kk σ chg.rf h
theorem M_side_ok {m : Nat} {a : As} {x y : Int32} {right : Bool} {σ : St} {Q : Int32 → St → Prop} (h : MI m σ a) (ha : asok a) (kk : ∀ σ', chg (MM m) no σ σ' → MI m σ' a → Q (qSide a x right y) σ') : P_M_side m x (bI right) y σ Q := by
  have hwa := ha.1.1
  have h5 := ha.1.2.1
  have h27 := n27 hwa.1
  have q1 := hwa.1.1
  refine ⟨h.1.s, M_isLaw_ok h.1 h.k h5 (b_b _ rfl (fun e => ?_) (fun e => ?_))⟩
  · have eo : qSide a x right y = (-1) := by simp [qSide, e]
    rw [eo] at kk; exact kk σ chg.rf h
  obtain ⟨i, hi, rfl⟩ := isN_ex e (by omega)
  have t1 := tn_nI (show i < 2 ^ 31 by omega)
  refine ar_mk (m + 1) 176 0 h.1.r1 h.1.a1 rfl (by decide) (by decide) ?_
  have hp1 : 1 ≤ a.1.1 * a.1.1 * a.1.1 := Nat.mul_pos (Nat.mul_pos q1 q1) q1
  rw [h.n, nI_mul, nI_mul, nI_sub hp1]
  refine M_in_ok (lo := 0) (hi := ((a.1.1 * a.1.1 * a.1.1 : Nat) : Int) - 1) rfl (by rw [i64T, nI_toInt (by omega)]; omega) ?_
  rw [isN_wthn]
  refine b_b _ rfl (fun e2 => ?_) (fun e2 => ?_)
  · have eo : qSide a (nI i) right y = (-2) := by simp [qSide, e, e2]
    rw [eo] at kk; exact kk σ chg.rf h
  obtain ⟨j, hj, rfl⟩ := isN_ex e2 (by omega)
  have eo : qSide a (nI i) right (nI j) = nI (evl a.1.1 a.1.2.1 j (if right then (lwg a.1.2.2 i).2.2 else (lwg a.1.2.2 i).2.1)) := by
    simp only [qSide, e, e2, if_true, t1, tn_nI (show j < 2 ^ 31 by omega)]
  rw [eo] at kk
  refine ar_mk (m + 1) 176 1 h.1.r1 h.1.a1 rfl (by decide) (by decide) ?_
  rw [h.c]
  refine M_unfolds_ok h.1 hwa (fun σ1 hc hT => M_lawAt_ok ?_)
  have h1 := h.scr (hc.up (fun q k z => Or.inr (Or.inl z)))
  have ho := ha.1.2.2 _ (lwg_mem hi)
  have fin : ∀ s2, chg (stk m) no σ1 s2 → chg (MM m) no σ s2 ∧ MI m s2 a := fun s2 hc2 => ⟨(hc.up (fun q k z => by unfold MM; omega)).tr (hc2.up (fun q k z => by unfold stk at z; unfold MM; omega)), h1.scr (hc2.up (fun q k z => by unfold stk at z; unfold scr; omega))⟩
  rw [nI_add, nI_add]
  refine b_b right rfl (fun er => ?_) (fun er => ?_)
  · rw [er] at kk
    exact M_comesOf_ok h1.1 hT hwa.1 hj (by omega) (h1.side hi).1 ho.1 (fun s2 hc2 => kk s2 (fin s2 hc2).1 (fin s2 hc2).2)
  · rw [er] at kk
    exact M_comesOf_ok h1.1 hT hwa.1 hj (by omega) (h1.side hi).2 ho.2 (fun s2 hc2 => kk s2 (fin s2 hc2).1 (fin s2 hc2).2)
theorem M_paired_ok {m : Nat} {a : As} {x y z : Int32} {σ : St} {Q : Int32 → St → Prop} (h : MI m σ a) (ha : asok a) (kk : ∀ σ', chg (MM m) no σ σ' → MI m σ' a → Q (qPaired a x y z) σ') : P_M_paired m x y z σ Q := by
  have hwa := ha.1.1
  have h5 := ha.1.2.1
  refine ⟨h.1.s, M_isWorld_ok (b_b _ rfl (fun e => ?_) (fun e => ?_))⟩
  · have eo : qPaired a x y z = (-2) := by simp [qPaired, e]
    rw [eo] at kk; exact kk σ chg.rf h
  obtain ⟨n, c, rfl, rfl, hw, t1, t2⟩ := isW_tn e
  refine M_isLaw_ok h.1 h.k h5 (b_b _ rfl (fun e2 => ?_) (fun e2 => ?_))
  · have eo : qPaired a (nI n) (nI c) z = (-1) := by simp [qPaired, e, e2]
    rw [eo] at kk; exact kk σ chg.rf h
  obtain ⟨i, hi, rfl⟩ := isN_ex e2 (by omega)
  have t3 := tn_nI (show i < 2 ^ 31 by omega)
  have eo : qPaired a (nI n) (nI c) (nI i) = nI ((a.1.1 * a.1.1 * a.1.1) * (n * n * n) - (a.1.1 * a.1.1 * a.1.1 - bc a.1.1 a.1.2.1 (lwg a.1.2.2 i).2) * (n * n * n - bc n c (lwg a.1.2.2 i).2)) := by
    simp only [qPaired, e, e2, if_true, t1, t2, t3]
  rw [eo] at kk
  have ho := ha.1.2.2 _ (lwg_mem hi)
  refine ar_mk (m + 1) 176 0 h.1.r1 h.1.a1 rfl (by decide) (by decide) (ar_mk (m + 1) 176 0 h.1.r1 h.1.a1 rfl (by decide) (by decide) (ar_mk (m + 1) 176 0 h.1.r1 h.1.a1 rfl (by decide) (by decide) ?_))
  refine M_brokenNow_ok h ha hi (fun s1 hc1 => ?_)
  have h1 := h.scr (hc1.up (fun _ _ => ts_scr))
  refine M_brokenIn_ok h1.1 hw (by omega) (h1.side hi).1 (h1.side hi).2 ho (fun s2 hc2 => ?_)
  have l1 : bc a.1.1 a.1.2.1 (lwg a.1.2.2 i).2 ≤ a.1.1 * a.1.1 * a.1.1 := ct_le _ _
  have l2 : bc n c (lwg a.1.2.2 i).2 ≤ n * n * n := ct_le _ _
  have l3 := Nat.mul_le_mul (Nat.sub_le (a.1.1 * a.1.1 * a.1.1) (bc a.1.1 a.1.2.1 (lwg a.1.2.2 i).2)) (Nat.sub_le (n * n * n) (bc n c (lwg a.1.2.2 i).2))
  rw [h.n, nI_mul, nI_mul, nI_mul, nI_mul, nI_mul, nI_sub l1, nI_sub l2, nI_mul, nI_sub l3]
  exact kk s2 ((hc1.up (fun _ _ => ts_MM)).tr (hc2.up (fun _ _ => ts_MM))) (h1.scr (hc2.up (fun _ _ => ts_scr)))
theorem plain_lt' {n c : Nat} (h : wok n c) : plain n c < 2 ^ 31 := by
  have := plain_le_self h
  have := wc_le h.1
  have := h.2
  omega
theorem tab_MM {m q k : Nat} (h : tab m q k) : MM m q k := by unfold tab at h; unfold MM; omega
theorem tab_scr {m q k : Nat} (h : tab m q k) : scr m q k := by unfold tab at h; unfold scr; omega
theorem M_alike_ok {m : Nat} {a : As} {x y z : Int32} {σ : St} {Q : Int32 → St → Prop} (h : MI m σ a) (kk : ∀ σ', chg (MM m) no σ σ' → MI m σ' a → Q (qAlike x y z) σ') : P_M_alike m x y z σ Q := by
  refine ⟨h.1.s, M_isWorld_ok (b_b _ rfl (fun e => ?_) (fun e => M_isWorld_ok (b_b _ rfl (fun e2 => ?_) (fun e2 => ?_))))⟩
  · have eo : qAlike x y z = (-2) := by simp [qAlike, e]
    rw [eo] at kk; exact kk σ chg.rf h
  · have eo : qAlike x y z = (-2) := by simp [qAlike, e2]
    rw [eo] at kk; exact kk σ chg.rf h
  · obtain ⟨n, c, rfl, rfl, hw, t1, t2⟩ := isW_tn e
    obtain ⟨n', d, e3, rfl, hw', t3, t4⟩ := isW_tn e2
    have en : n' = n := t3.symm.trans t1
    subst en
    have eo : qAlike (nI n') (nI c) (nI d) = bI (plain n' c == plain n' d) := by simp [qAlike, e, e2, t1, t2, t4]
    rw [eo] at kk
    refine M_plainOf_ok h.1 hw (fun s1 hc1 _ => ?_)
    have h1 := h.scr (hc1.up (fun _ _ => tab_scr))
    refine M_plainOf_ok h1.1 hw' (fun s2 hc2 _ => ?_)
    have kq := kk s2 ((hc1.up (fun _ _ => tab_MM)).tr (hc2.up (fun _ _ => tab_MM))) (h1.scr (hc2.up (fun _ _ => tab_scr)))
    refine b_eq _ _ rfl rfl (plain_lt' hw) (plain_lt' hw') (fun e4 => ?_) (fun e4 => ?_)
    · have e5 : (plain n' c == plain n' d) = true := by rw [e4]; simp
      rw [e5] at kq; exact kq
    · have : (plain n' c == plain n' d) = false := by simpa using e4
      rw [this] at kq; exact kq
theorem M_world_ok {m : Nat} {a : As} {x : Int32} {σ : St} {Q : Int32 → St → Prop} (h : MI m σ a) (ha : asok a) (kk : ∀ σ', chg (MM m) no σ σ' → MI m σ' a → Q (qWorld a x) σ') : P_M_world m x σ Q := by
  have h5 := ha.1.2.1
  have hwa := ha.1.1
  have eq0 : ∀ t, t < 8 → x = nI t → qWorld a x = (match t with
    | 0 => nI a.1.1
    | 1 => nI a.1.2.1
    | 2 => nI (plain a.1.1 a.1.2.1)
    | 3 => nI (ways a.1.1 / stb a.1.1 a.1.2.1)
    | 4 => nI (things a.1.1 a.1.2.1 4)
    | 5 => nI (things a.1.1 a.1.2.1 5)
    | 6 => nI (things a.1.1 a.1.2.1 6)
    | _ => bI (holdNow a.1 true == lawsOn a.1.2.2)) := by
    intro t ht ey
    subst ey
    unfold qWorld
    rw [if_pos (by rw [isN_nI (by omega)]; simpa using ht), tn_nI (by omega)]
    have h7 : t = 0 ∨ t = 1 ∨ t = 2 ∨ t = 3 ∨ t = 4 ∨ t = 5 ∨ t = 6 ∨ t = 7 := by omega
    rcases h7 with rfl | rfl | rfl | rfl | rfl | rfl | rfl | rfl <;> rfl
  refine ⟨h.1.s, b_or (fun ey => ?_) (fun n0 => b_or (fun ey => ?_) (fun n1 => b_or (fun ey => ?_) (fun n2 => b_or (fun ey => ?_) (fun n3 => b_or (fun ey => ?_) (fun n4 => b_or (fun ey => ?_) (fun n5 => b_or (fun ey => ?_) (fun n6 => b_or (fun ey => ?_) (fun n7 => ?_))))))))⟩
  · rw [eq0 0 (by decide) ey] at kk
    refine ar_mk (m + 1) 176 0 h.1.r1 h.1.a1 rfl (by decide) (by decide) ?_
    rw [h.n]; exact kk σ chg.rf h
  · rw [eq0 1 (by decide) ey] at kk
    refine ar_mk (m + 1) 176 1 h.1.r1 h.1.a1 rfl (by decide) (by decide) ?_
    rw [h.c]; exact kk σ chg.rf h
  · rw [eq0 2 (by decide) ey] at kk
    refine ar_mk (m + 1) 176 0 h.1.r1 h.1.a1 rfl (by decide) (by decide) (ar_mk (m + 1) 176 1 h.1.r1 h.1.a1 rfl (by decide) (by decide) ?_)
    rw [h.n, h.c]
    exact M_plainOf_ok h.1 hwa (fun s1 hc1 _ => kk s1 (hc1.up (fun _ _ => tab_MM)) (h.scr (hc1.up (fun _ _ => tab_scr))))
  · rw [eq0 3 (by decide) ey] at kk
    refine ar_mk (m + 1) 176 0 h.1.r1 h.1.a1 rfl (by decide) (by decide) (ar_mk (m + 1) 176 1 h.1.r1 h.1.a1 rfl (by decide) (by decide) ?_)
    rw [h.n, h.c]
    exact M_alikeTo_ok h.1 hwa (fun s1 hc1 => kk s1 (hc1.up (fun _ _ => tab_MM)) (h.scr (hc1.up (fun _ _ => tab_scr))))
  · rw [eq0 4 (by decide) ey] at kk
    rw [ey]
    exact M_things_ok h ha (Or.inl rfl) (fun s1 hc1 => kk s1 (hc1.up (fun _ _ => tab_MM)) (h.scr (hc1.up (fun _ _ => tab_scr))))
  · rw [eq0 5 (by decide) ey] at kk
    rw [ey]
    exact M_things_ok h ha (Or.inr (Or.inl rfl)) (fun s1 hc1 => kk s1 (hc1.up (fun _ _ => tab_MM)) (h.scr (hc1.up (fun _ _ => tab_scr))))
  · rw [eq0 6 (by decide) ey] at kk
    rw [ey]
    exact M_things_ok h ha (Or.inr (Or.inr rfl)) (fun s1 hc1 => kk s1 (hc1.up (fun _ _ => tab_MM)) (h.scr (hc1.up (fun _ _ => tab_scr))))
  · rw [eq0 7 (by decide) ey] at kk
    refine M_lawsThatHold_ok (on := true) h ha rfl (fun s1 hc1 => ?_)
    have h1 := h.scr (hc1.up (fun _ _ => ts_scr))
    refine M_lawsOn_ok h1.1 h5 h1.k (row_on h1.2.1) ?_
    have kq : Q (bI (holdNow a.1 true == lawsOn a.1.2.2)) s1 := kk s1 (hc1.up (fun _ _ => ts_MM)) h1
    have l1 : holdNow a.1 true ≤ a.1.2.2.length := ct_le _ _
    have l2 : lawsOn a.1.2.2 ≤ a.1.2.2.length := ct_le _ _
    refine b_eq _ _ rfl rfl (by omega) (by omega) (fun e4 => ?_) (fun e4 => ?_)
    · have e5 : (holdNow a.1 true == lawsOn a.1.2.2) = true := by rw [e4]; simp
      rw [e5] at kq; exact kq
    · have : (holdNow a.1 true == lawsOn a.1.2.2) = false := by simpa using e4
      rw [this] at kq; exact kq
  · have eo : qWorld a x = (-2) := by
      unfold qWorld
      rw [if_neg]
      intro hy
      obtain ⟨t, ht, rfl⟩ := isN_ex hy (by decide)
      have h7 : t = 0 ∨ t = 1 ∨ t = 2 ∨ t = 3 ∨ t = 4 ∨ t = 5 ∨ t = 6 ∨ t = 7 := by omega
      rcases h7 with rfl | rfl | rfl | rfl | rfl | rfl | rfl | rfl
      · exact n0 rfl
      · exact n1 rfl
      · exact n2 rfl
      · exact n3 rfl
      · exact n4 rfl
      · exact n5 rfl
      · exact n6 rfl
      · exact n7 rfl
    rw [eo] at kk; exact kk σ chg.rf h
theorem M_lawsThatFollow_ok {m : Nat} {a : As} {σ : St} {Q : Int32 → St → Prop} (h : MI m σ a) (ha : asok a) (kk : ∀ σ', chg (fws m) no σ σ' → MI m σ' a → Q (nI (ct (fun i => (wit a.1.2.2 i).length == 0) a.1.2.2.length)) σ') : P_M_lawsThatFollow m σ Q := by
  have h5 := ha.1.2.1
  refine ⟨h.1.s, fun K4 h4 => ?_⟩
  refine loopU (P := fun _ s' => chg (fws m) no σ s' ∧ MI m s' a) (G := fun i s' => K4 (nI (ct (fun i => (wit a.1.2.2 i).length == 0) i)) (nI i) s') a.1.2.2.length ?_ ?_ 0 σ (Nat.zero_le _) ⟨chg.rf, h⟩
  · rintro s' ⟨hc, h'⟩
    refine h4 _ _ _ (ar_mk (m + 1) 176 2 h'.1.r1 h'.1.a1 rfl (by decide) (by decide) ?_)
    rw [h'.k]
    exact b_tt (nI_le (Nat.le_refl _) (by omega)) (kk s' hc h')
  · rintro i s' hi ⟨hc, h'⟩ ih
    refine h4 _ _ _ (ar_mk (m + 1) 176 2 h'.1.r1 h'.1.a1 rfl (by decide) (by decide) ?_)
    rw [h'.k]
    refine b_ff (nI_ge hi (by omega)) (M_follows_ok h' ha hi (fun s2 hc2 h2 => b_b _ rfl (fun eb => ?_) (fun eb => ?_)))
    · have := ih s2 ⟨hc.tr hc2, h2⟩
      rw [ct, eb] at this
      rw [nI_add, nI_add]; exact this
    · have := ih s2 ⟨hc.tr hc2, h2⟩
      rw [ct, eb] at this
      rw [nI_add, nI_add]; exact this
theorem M_count_ok {m : Nat} {a : As} {x : Int32} {σ : St} {Q : Int32 → St → Prop} (h : MI m σ a) (ha : asok a) (kk : ∀ σ', chg (MM m) no σ σ' → MI m σ' a → Q (qCount a x) σ') : P_M_count m x σ Q := by
  have h5 := ha.1.2.1
  have eq0 : ∀ t, t < 6 → x = nI t → qCount a x = (match t with
    | 0 => nI a.1.2.2.length
    | 1 => nI (lawsOn a.1.2.2)
    | 2 => nI (holdNow a.1 false)
    | 3 => nI (ct (fun i => (wit a.1.2.2 i).length == 0) a.1.2.2.length)
    | 4 => nI a.2.1.length
    | _ => nI a.2.2.2.length) := by
    intro t ht ey
    subst ey
    unfold qCount
    rw [if_pos (by rw [isN_nI (by omega)]; simpa using ht), tn_nI (by omega)]
    have h7 : t = 0 ∨ t = 1 ∨ t = 2 ∨ t = 3 ∨ t = 4 ∨ t = 5 := by omega
    rcases h7 with rfl | rfl | rfl | rfl | rfl | rfl <;> rfl
  refine ⟨h.1.s, b_or (fun ey => ?_) (fun n0 => b_or (fun ey => ?_) (fun n1 => b_or (fun ey => ?_) (fun n2 => b_or (fun ey => ?_) (fun n3 => b_or (fun ey => ?_) (fun n4 => b_or (fun ey => ?_) (fun n5 => ?_))))))⟩
  · rw [eq0 0 (by decide) ey] at kk
    refine ar_mk (m + 1) 176 2 h.1.r1 h.1.a1 rfl (by decide) (by decide) ?_
    rw [h.k]; exact kk σ chg.rf h
  · rw [eq0 1 (by decide) ey] at kk
    exact M_lawsOn_ok h.1 h5 h.k (row_on h.2.1) (kk σ chg.rf h)
  · rw [eq0 2 (by decide) ey] at kk
    exact M_lawsThatHold_ok (on := false) h ha rfl (fun s1 hc1 => kk s1 (hc1.up (fun _ _ => ts_MM)) (h.scr (hc1.up (fun _ _ => ts_scr))))
  · rw [eq0 3 (by decide) ey] at kk
    exact M_lawsThatFollow_ok h ha (fun s1 hc1 h1 => kk s1 (hc1.up (fun _ _ => fws_MM)) h1)
  · rw [eq0 4 (by decide) ey] at kk
    rw [h.2.2.1.1]; exact kk σ chg.rf h
  · rw [eq0 5 (by decide) ey] at kk
    rw [h.2.2.2.2.1.1]; exact kk σ chg.rf h
  · have eo : qCount a x = (-2) := by
      unfold qCount
      rw [if_neg]
      intro hy
      obtain ⟨t, ht, rfl⟩ := isN_ex hy (by decide)
      have h7 : t = 0 ∨ t = 1 ∨ t = 2 ∨ t = 3 ∨ t = 4 ∨ t = 5 := by omega
      rcases h7 with rfl | rfl | rfl | rfl | rfl | rfl
      · exact n0 rfl
      · exact n1 rfl
      · exact n2 rfl
      · exact n3 rfl
      · exact n4 rfl
      · exact n5 rfl
    rw [eo] at kk; exact kk σ chg.rf h
