/-! The class: the laws that a model has to keep. -/
def dm (ls : List (Bool × Lw)) (but i : Nat) : Bool := (lwg ls i).1 && !(i == but)
def dml (ls : List (Bool × Lw)) (but x : Nat) : List Nat := (List.range x).filter (dm ls but)
def dmx (ls : List (Bool × Lw)) (but i : Nat) : Bool := decide (i < ls.length) && dm ls but i
theorem dml_succ (ls : List (Bool × Lw)) (but x : Nat) : dml ls but (x + 1) = dml ls but x ++ (if dm ls but x then [x] else []) := by
  unfold dml
  rw [List.range_succ, List.filter_append, List.filter_cons, List.filter_nil]
theorem dml_len (ls : List (Bool × Lw)) (but x : Nat) : (dml ls but x).length ≤ x := by
  have := List.length_filter_le (dm ls but) (List.range x)
  rwa [List.length_range] at this
theorem holdb_dml (ls : List (Bool × Lw)) (n c but : Nat) : holdb ls n c but = (dml ls but ls.length).all (fun i => bc n c (lwg ls i).2 == 0) := by
  unfold holdb dml
  rw [Bool.eq_iff_iff, List.all_eq_true, List.all_eq_true]
  constructor
  · intro h i hi
    rw [List.mem_filter] at hi
    have h1 : (i == but || !(lwg ls i).1 || bc n c (lwg ls i).2 == 0) = true := h i hi.1
    have hd := hi.2
    unfold dm at hd
    simp only [Bool.and_eq_true, Bool.not_eq_true'] at hd
    rw [hd.1, hd.2] at h1
    simpa using h1
  · intro h i hi
    show (i == but || !(lwg ls i).1 || bc n c (lwg ls i).2 == 0) = true
    cases hd : dm ls but i with
    | true =>
      have h1 : (bc n c (lwg ls i).2 == 0) = true := h i (List.mem_filter.mpr ⟨hi, hd⟩)
      rw [h1, Bool.or_true]
    | false =>
      unfold dm at hd
      cases h1 : (lwg ls i).1 with
      | false => simp
      | true =>
        rw [h1] at hd
        have h2 : (i == but) = true := by simpa using hd
        rw [h2]; rfl
/-! room, by places -/
theorem ct_if {p q : Bool} (h : p = true → q = true) : (if p = true then 1 else 0) ≤ (if q = true then 1 else (0 : Nat)) := by
  by_cases hp : p = true
  · rw [if_pos hp, if_pos (h hp)]; exact Nat.le_refl _
  · rw [if_neg hp]; exact Nat.zero_le _
theorem ct_le_of {p q : Nat → Bool} : ∀ {n : Nat}, (∀ i, i < n → p i = true → q i = true) → ct p n ≤ ct q n
  | 0, _ => Nat.le_refl _
  | n + 1, h => by
    have ih := ct_le_of (n := n) (fun i hi => h i (by omega))
    have e1 := ct_if (h n (by omega))
    rw [ct, ct]
    omega
theorem ct_drop {p q : Nat → Bool} {j : Nat} (hp : p j = false) (hq : q j = true) : ∀ {n : Nat}, j < n → (∀ i, i < n → p i = true → q i = true) → ct p n + 1 ≤ ct q n
  | 0, h, _ => absurd h (Nat.not_lt_zero j)
  | n + 1, h, hpq => by
    rw [ct, ct]
    rcases Nat.lt_or_ge j n with g | g
    · have ih := ct_drop hp hq g (fun i hi => hpq i (by omega))
      have e1 := ct_if (hpq n (by omega))
      omega
    · have e : j = n := by omega
      subst e
      have h2 := ct_le_of (n := j) (fun i hi => hpq i (by omega))
      rw [if_neg (by rw [hp]; decide), if_pos hq]
      omega
theorem ct_two {p q r : Nat → Bool} : ∀ {n : Nat}, (∀ i, i < n → (p i = true → r i = true) ∧ (q i = true → r i = true ∧ p i = false)) → ct p n + ct q n ≤ ct r n
  | 0, _ => Nat.le_refl _
  | n + 1, h => by
    have ih := ct_two (n := n) (fun i hi => h i (by omega))
    obtain ⟨h1, h2⟩ := h n (by omega)
    rw [ct, ct, ct]
    by_cases hq : q n = true
    · obtain ⟨g1, g2⟩ := h2 hq
      rw [if_pos hq, if_pos g1, if_neg (by rw [g2]; decide)]
      omega
    · have e1 := ct_if h1
      rw [if_neg hq]
      omega
def pls (b : Nat) (R : Nat → Option Nat) (I : Nat → Bool) (j : Nat) : Bool := (List.range 5).any (fun i => I i && decide (R i = some (b + 23 + 2 * j)))
theorem pls_t {b j : Nat} {R : Nat → Option Nat} {I : Nat → Bool} : pls b R I j = true ↔ ∃ i, i < 5 ∧ I i = true ∧ R i = some (b + 23 + 2 * j) := by
  unfold pls
  rw [List.any_eq_true]
  constructor
  · rintro ⟨i, h1, h2⟩
    rw [List.mem_range] at h1
    simp only [Bool.and_eq_true, decide_eq_true_eq] at h2
    exact ⟨i, h1, h2⟩
  · rintro ⟨i, h1, h2, h3⟩
    exact ⟨i, List.mem_range.mpr h1, by simp [h2, h3]⟩
theorem pls_f {b j : Nat} {R : Nat → Option Nat} {I J : Nat → Bool} (h : pls b R J j = false) (hI : ∀ i, i < 5 → I i = true → R i = some (b + 23 + 2 * j) → J i = true) : pls b R I j = false := by
  cases e : pls b R I j with
  | false => rfl
  | true =>
    obtain ⟨i, h1, h2, h3⟩ := pls_t.mp e
    have := pls_t.mpr ⟨i, h1, hI i h1 h2 h3, h3⟩
    rw [h] at this
    cases this
theorem pls_m {b j : Nat} {R : Nat → Option Nat} {I J : Nat → Bool} (h : pls b R I j = true) (hI : ∀ i, i < 5 → I i = true → J i = true) : pls b R J j = true := by
  obtain ⟨i, h1, h2, h3⟩ := pls_t.mp h
  exact pls_t.mpr ⟨i, h1, hI i h1 h2, h3⟩
def nz (b : Nat) (σ : St) (M : Nat → Bool) : Nat := ct (fun j => emp b σ j && M j) 30
theorem nz_mono {b : Nat} {σ σ' : St} {M M' : Nat → Bool} (he : ∀ j, j < 30 → emp b σ' j = true → emp b σ j = true) (hM : ∀ j, j < 30 → M' j = true → M j = true) : nz b σ' M' ≤ nz b σ M := ct_le_of (fun i hi h => by
  rw [Bool.and_eq_true] at h ⊢
  exact ⟨he i hi h.1, hM i hi h.2⟩)
theorem need_le {b j : Nat} {σ : St} {M : Nat → Bool} (hj : j < 30) (hM : M j = true) : need σ (some (b + 23 + 2 * j)) ≤ nz b σ M := by
  have n1 : need σ (some (b + 23 + 2 * j)) = if (emp b σ j) = true then 1 else 0 := rfl
  rw [n1]
  by_cases e : emp b σ j = true
  · rw [if_pos e]
    have := ct_drop (p := fun _ => false) (q := fun j => emp b σ j && M j) (j := j) rfl (by rw [e, hM]; rfl) hj (fun i _ z => by cases z)
    unfold nz
    omega
  · rw [if_neg e]; exact Nat.zero_le _
theorem nz_step {b j : Nat} {σ σ' : St} {M M' : Nat → Bool} (hj : j < 30) (he : ∀ i, i < 30 → emp b σ' i = true → emp b σ i = true ∧ some (b + 23 + 2 * j) ≠ some (b + 23 + 2 * i)) (hM : ∀ i, i < 30 → M' i = true → M i = true) (hMj : emp b σ j = true → M j = true) : need σ (some (b + 23 + 2 * j)) + nz b σ' M' ≤ nz b σ M := by
  have n1 : need σ (some (b + 23 + 2 * j)) = if (emp b σ j) = true then 1 else 0 := rfl
  have e0 : emp b σ' j = false := by
    cases h : emp b σ' j with
    | false => rfl
    | true => exact absurd rfl (he j hj h).2
  rw [n1]
  by_cases e : emp b σ j = true
  · rw [if_pos e]
    have := ct_drop (p := fun j => emp b σ' j && M' j) (q := fun j => emp b σ j && M j) (j := j) (by rw [e0]; rfl) (by rw [e, hMj e]; rfl) hj (fun i hi h => by
      rw [Bool.and_eq_true] at h ⊢
      exact ⟨(he i hi h.1).1, hM i hi h.2⟩)
    unfold nz
    omega
  · rw [if_neg e, Nat.zero_add]
    exact nz_mono (fun i hi h => (he i hi h).1) hM
/-! the search's own cells -/
def srI (b : Nat) : Nat → Nat → Prop := fun q k => (q = b + 88 ∧ (k = 3 ∨ k = 6)) ∨ q = b + 99 ∨ q = b + 100
def srR (b : Nat) : Nat → Nat → Prop := fun q _ => q = b + 98
theorem XI.sr {b : Nat} {σ σ' : St} {a : As} (h : XI b σ a) (c : chg (srI b) (srR b) σ σ') : XI b σ' a := by
  obtain ⟨hX, hN, sp, hSh, ⟨hW0, hW⟩, hS, hH, hSn, hT, ⟨hB1, hB2⟩, hP⟩ := h
  exact ⟨hX.g c.x hN (fun q k z => XR.mk (by unfold srR at z; omega)), by rw [c.n]; exact hN, sp, hSh.g c.x hN (fun q k z => by unfold srI; omega) (fun j hj => by unfold srR; omega), ⟨hW0.g c.x (by omega) (fun k => by unfold srR; omega), fun t ht => (hW t ht).g c.x (by omega) (fun k => by unfold srR; omega)⟩, hS.g c.x (by omega) (fun k _ _ => by unfold srI; omega) (fun k => by unfold srI; omega) (fun k => by unfold srR; omega), hH.g c.x hN (fun q k z => by unfold srI; omega) (fun q k z => by unfold srR; omega), hSn.g c.x hN (fun q k z => by unfold srI; omega) (fun k => by unfold srR; omega), hT.g c.x hN (by unfold srI; omega) (fun k => by unfold srI; omega), ⟨hB1.g c.x (by omega) (by unfold srI; omega) (fun k => by unfold srI; omega) (fun k => by unfold srI; omega), hB2.g c.x (by omega) (by unfold srI; omega) (fun k => by unfold srI; omega) (fun k => by unfold srI; omega)⟩, hP.g c.x hN (by unfold srI; omega) (fun q k z => by unfold srI; omega)⟩
theorem Cn.g {b i : Nat} {ls : List (Bool × Lw)} {SI SR : Nat → Nat → Prop} {σ σ' : St} (h : Cn b i σ ls) (c : cx SI SR σ σ') (hN : b + 121 ≤ s_n σ) (h2 : ∀ k, ¬ SR (b + 2) k) (h4 : ∀ j, j < 30 → ¬ SR (b + 23 + 2 * j) 4) (hq : ∀ q k, b + 121 ≤ q → ¬ SI q k) : Cn b i σ' ls := by
  obtain ⟨hi, j, q, f1, f2, f3, f4, f5, f6, f7, f8⟩ := h
  have hn := c.n
  exact ⟨hi, j, q, f1, (c.r (by omega) (h2 i)).trans f2, (c.r (by omega) (h4 j f1)).trans f3, f4, by omega, (c.s f5).trans f6, (c.s (by omega)).trans f7, fun w hw => (c.i f5 (hq q w f4)).trans (f8 w hw)⟩
/-- the laws that are demanded -/
def DM (b : Nat) (D : List Nat) (σ : St) (ls : List (Bool × Lw)) : Prop := s_i σ (b + 88) 3 = nI D.length ∧ ∀ t, t < D.length → s_r σ (b + 98) t = s_r σ (b + 2) (D.getD t 0) ∧ Cn b (D.getD t 0) σ ls
def dcI (b : Nat) : Nat → Nat → Prop := fun q k => cnI b q k ∨ (q = b + 88 ∧ k = 3)
def dcR (b : Nat) : Nat → Nat → Prop := fun q k => cnR b q k ∨ q = b + 98
theorem E_demand_ok {b but : Nat} {x : Int32} {mc ms : Nat} {a : As} {σ : St} {Q : St → Prop} (h : XI b σ a) (ha : asok a) (hL : s_i σ (b + 94) 3 = nI 3341) (hN : b + 121 ≤ s_n σ) (hx : ∀ i, i < 5 → (nI i = x ↔ i = but)) (hmc : nz b σ (pls b (s_r σ (b + 2)) (dmx a.1.2.2 but)) ≤ mc) (hms : 3341 * nz b σ (pls b (s_r σ (b + 2)) (dmx a.1.2.2 but)) ≤ ms)
    (k : ∀ σ', cx (dcI b) (dcR b) σ σ' → XI b σ' a → s_i σ' (b + 94) 3 = nI 3341 → DM b (dml a.1.2.2 but a.1.2.2.length) σ' a.1.2.2 → (∀ j, j < 30 → emp b σ' j = true → emp b σ j = true ∧ pls b (s_r σ (b + 2)) (dmx a.1.2.2 but) j = false) → Q σ') : P_E_demand (b + 88) (some (b + 1)) x σ mc ms Q := by
  have h5 := ha.1.2.1
  obtain ⟨ls, els⟩ : ∃ ls, ls = a.1.2.2 := ⟨_, rfl⟩
  obtain ⟨R, eR⟩ : ∃ R, R = s_r σ (b + 2) := ⟨_, rfl⟩
  rw [← els] at h5
  rw [← els, ← eR] at hmc hms k
  refine ⟨h.1.1.e, fun K7 h7 => ?_⟩
  have c0 : chg (srI b) (srR b) σ (w_i σ (b + 88) 3 (nI 0)) := chg.rf.wi (by unfold srI; omega)
  have key := loopU (P := fun x' s' => XI b s' a ∧ s_i s' (b + 94) 3 = nI 3341 ∧ (∀ y, s_r s' (b + 2) y = R y) ∧ cx (dcI b) (dcR b) σ s' ∧ DM b (dml ls but x') s' ls ∧ ∀ j, j < 30 → emp b s' j = true → emp b σ j = true ∧ pls b R (fun i => decide (i < x') && dmx ls but i) j = false) (G := fun x' s' => ∀ ca cb, ca + nz b s' (pls b R (fun i => decide (x' ≤ i) && dmx ls but i)) ≤ mc → cb + 3341 * nz b s' (pls b R (fun i => decide (x' ≤ i) && dmx ls but i)) ≤ ms → K7 (some (b + 1)) x (nI x') s' ca cb) ls.length ?_ ?_ 0 (w_i σ (b + 88) 3 (nI 0)) (Nat.zero_le _) ⟨h.sr c0, (c0.i (by unfold srI; omega)).trans hL, fun y => by rw [eR]; exact c0.r (by unfold srR; omega), (chg.rf.wi (Or.inr ⟨rfl, rfl⟩) : chg (dcI b) (dcR b) σ _).x, ⟨by rw [s_i_wi, if_pos ⟨rfl, rfl⟩]; rfl, fun t ht => absurd ht (by simp [dml])⟩, fun j hj he => ⟨he, ?_⟩⟩
  · refine key 0 0 ?_ ?_
    · rw [Nat.zero_add]
      exact Nat.le_trans (nz_mono (fun j _ z => z) (fun j _ z => pls_m z (fun i _ hI => by
        rw [Bool.and_eq_true] at hI; exact hI.2))) hmc
    · rw [Nat.zero_add]
      exact Nat.le_trans (Nat.mul_le_mul_left _ (nz_mono (fun j _ z => z) (fun j _ z => pls_m z (fun i _ hI => by
        rw [Bool.and_eq_true] at hI; exact hI.2)))) hms
  · rintro s' ⟨hi, hl, hR, hc, hD, hE⟩ ca cb _ _
    refine h7 _ _ _ _ _ _ (ob_mk (b + 1) rfl hi.1.now.s ?_)
    rw [hi.len, ← els]
    refine b_tt (nI_le (Nat.le_refl _) (by omega)) (k s' hc hi hl hD (fun j hj he => ⟨(hE j hj he).1, pls_f (hE j hj he).2 (fun i _ hI _ => ?_)⟩))
    have hI' := hI
    unfold dmx at hI'
    rw [Bool.and_eq_true] at hI' ⊢
    exact ⟨hI'.1, hI⟩
  · rintro x' s' hx' ⟨hi, hl, hR, hc, hD, hE⟩ ih ca cb h1 h2
    refine h7 _ _ _ _ _ _ (ob_mk (b + 1) rfl hi.1.now.s ?_)
    rw [hi.len, ← els]
    have hn := hc.n
    have e := dml_succ ls but x'
    have hpl1 : ∀ (d : Bool) (i : Nat), dm ls but x' = d → (d = true → i ≠ x') → (decide (i < x' + 1) && dmx ls but i) = true → (decide (i < x') && dmx ls but i) = true := by
      intro d i hd hne hI
      rw [Bool.and_eq_true, decide_eq_true_eq] at hI ⊢
      refine ⟨?_, hI.2⟩
      rcases Nat.lt_or_ge i x' with g | g
      · exact g
      · have ei : i = x' := by omega
        exfalso
        have h3 := hI.2
        unfold dmx at h3
        rw [ei, hd, Bool.and_eq_true] at h3
        exact hne h3.2 ei
    have skip : dm ls but x' = false → K7 (some (b + 1)) x (nI x' + nI 1) s' ca cb := by
      intro hd
      have e' := e
      rw [hd] at e'
      simp at e'
      rw [nI_add]
      have hm : nz b s' (pls b R (fun i => decide (x' + 1 ≤ i) && dmx ls but i)) ≤ nz b s' (pls b R (fun i => decide (x' ≤ i) && dmx ls but i)) := nz_mono (fun j _ z => z) (fun j _ z => pls_m z (fun i _ hI => by
        rw [Bool.and_eq_true, decide_eq_true_eq] at hI ⊢
        exact ⟨by omega, hI.2⟩))
      have hm3 := Nat.mul_le_mul_left 3341 hm
      exact ih s' ⟨hi, hl, hR, hc, by rw [e']; exact hD, fun j hj he => ⟨(hE j hj he).1, pls_f (hE j hj he).2 (fun i _ hI _ => hpl1 false i hd (fun z => by cases z) hI)⟩⟩ ca cb (by omega) (by omega)
    refine b_ff (nI_ge hx' (by omega)) (nn_mk (b + 1) rfl (S_lawAt_ok hi.1.now hi.len (by rw [← els]; exact h5) (fun e => ?_) (fun i' hi' ei => ?_)))
    · rw [← els, isN_nI (by omega), decide_eq_true hx'] at e; cases e
    have : i' = x' := ((nI_eq (by omega) (by rw [← els] at hi'; omega)).mp ei).symm
    subst this
    obtain ⟨j, hj, hr, hLw, -, -⟩ := hi.law hi'
    have eat : s_r s' (b + 1 + 1) i' = some (b + 23 + 2 * j) := hr
    rw [eat]
    refine b_ff (fun z => by cases z) (b_or (fun ex => ?_) (fun ex => ?_))
    · have eb : i' = but := (hx i' (by omega)).mp ex
      exact skip (by unfold dm; simp [eb])
    · refine ob_mk (b + 1) rfl hi.1.now.s (ar_mk (b + 3) 5 i' hi.1.now.r2 hi.1.now.a2 rfl (by omega) (by decide) ?_)
      rw [hi.on i' hi', ← els]
      refine b_b _ rfl (fun eo => skip (by unfold dm; simp [eo])) (fun eo => ?_)
      have hdm : dm ls but i' = true := by
        unfold dm
        rw [eo]
        have : (i' == but) = false := by
          rw [beq_eq_false_iff_ne]
          exact fun z => ex ((hx i' (by omega)).mpr z)
        rw [this]; rfl
      rw [hdm, if_pos rfl] at e
      have hdl := dml_len ls but i'
      have hRj : R i' = some (b + 23 + 2 * j) := (hR i').symm.trans hr
      have hdx : dmx ls but i' = true := by unfold dmx; rw [hdm, decide_eq_true hx']; rfl
      have hMj : pls b R (fun i => decide (i' ≤ i) && dmx ls but i) j = true := pls_t.mpr ⟨i', by omega, by rw [hdx]; simp, hRj⟩
      have hnd := need_le (b := b) (σ := s') hj hMj
      have hnd3 := Nat.mul_le_mul_left 3341 hnd
      rw [hD.1]
      refine b_ff (nI_ge (by omega) (by decide)) ⟨need s' (some (b + 23 + 2 * j)), 3341 * need s' (some (b + 23 + 2 * j)), by omega, by omega, ?_⟩
      refine E_countBroken_ok (i := i') hi ha hl (by omega) hi' hr.symm (Nat.le_refl _) (Nat.le_refl _) (fun s2 c2 hi2 hl2 hCn hkeep hE2 => ?_)
      rw [← els] at hCn hkeep
      have hn2 := c2.n
      obtain ⟨D, eD⟩ : ∃ D, D = dml ls but i' := ⟨_, rfl⟩
      rw [← eD] at hD hdl e
      have e3 : s_i s2 (b + 88) 3 = nI D.length := (c2.i (by omega) (by unfold cnI bq; omega)).trans hD.1
      have hst := nz_step (M := pls b R (fun i => decide (i' ≤ i) && dmx ls but i)) (M' := pls b R (fun i => decide (i' + 1 ≤ i) && dmx ls but i)) hj hE2 (fun i _ z => pls_m z (fun y _ hI => by
        rw [Bool.and_eq_true, decide_eq_true_eq] at hI ⊢
        exact ⟨by omega, hI.2⟩)) (fun _ => hMj)
      have hst3 := Nat.mul_le_mul_left 3341 hst
      rw [Nat.mul_add] at hst3
      refine ar_mk (b + 98) 5 D.length hi2.1.1.e2 hi2.1.1.ea e3 (by omega) (by decide) ⟨fun y hy => ?_, ?_⟩
      · cases hy
        exact (hi2.1.2.2.2.1 j hj).1
      · show K7 (some (b + 1)) x (nI i' + nI 1) (w_i (w_r s2 (b + 98) D.length (some (b + 23 + 2 * j))) (b + 88) 3 (s_i s2 (b + 88) 3 + nI 1)) _ _
        rw [e3, nI_add, nI_add]
        obtain ⟨A, eA⟩ : ∃ A, A = w_i (w_r s2 (b + 98) D.length (some (b + 23 + 2 * j))) (b + 88) 3 (nI (D.length + 1)) := ⟨_, rfl⟩
        rw [← eA]
        have cA : chg (srI b) (srR b) s2 A := by rw [eA]; exact (chg.rf.wr (show srR b (b + 98) D.length from rfl)).wi (show srI b (b + 88) 3 from Or.inl ⟨rfl, Or.inl rfl⟩)
        have cA2 : chg (dcI b) (dcR b) s2 A := by rw [eA]; exact (chg.rf.wr (show dcR b (b + 98) D.length from Or.inr rfl)).wi (show dcI b (b + 88) 3 from Or.inr ⟨rfl, rfl⟩)
        have r2 : ∀ y, s_r A (b + 2) y = s_r s2 (b + 2) y := fun y => cA.r (by unfold srR; omega)
        have r22 : ∀ y, s_r s2 (b + 2) y = s_r s' (b + 2) y := fun y => c2.r (by omega) (by unfold cnR; omega)
        have emA : ∀ y, emp b A y = emp b s2 y := fun y => by
          unfold emp
          rw [eA]
          show (s_r (w_r s2 (b + 98) D.length (some (b + 23 + 2 * j))) (b + 23 + 2 * y) 4).isNone = _
          rw [s_r_wr]
          by_cases ey : b + 23 + 2 * y = b + 98
          · omega
          · rw [if_neg (fun z => ey z.1)]
        have cng : ∀ y, Cn b y s2 ls → Cn b y A ls := fun y hy => hy.g cA.x (by omega) (fun k => by unfold srR; omega) (fun j hj => by unfold srR; omega) (fun q k z => by unfold srI; omega)
        have hnzA : nz b A (pls b R (fun i => decide (i' + 1 ≤ i) && dmx ls but i)) = nz b s2 (pls b R (fun i => decide (i' + 1 ≤ i) && dmx ls but i)) := ct_cong (fun y _ => by rw [emA y])
        refine ih A ⟨hi2.sr cA, (cA.i (by unfold srI; omega)).trans hl2, fun y => ((r2 y).trans (r22 y)).trans (hR y), (hc.tr (c2.up (fun q k z => Or.inl z) (fun q k z => Or.inl z))).tr cA2.x, ?_, fun y hy he => ?_⟩ _ _ (by rw [hnzA]; omega) (by rw [hnzA]; omega)
        · rw [e]
          refine ⟨by rw [eA, s_i_wi, if_pos ⟨rfl, rfl⟩, List.length_append]; rfl, fun t ht => ?_⟩
          rw [List.length_append, List.length_singleton] at ht
          by_cases et : t = D.length
          · have eg : (D ++ [i']).getD t 0 = i' := by rw [et]; simp [List.getD_eq_getElem?_getD]
            rw [eg]
            refine ⟨?_, cng i' hCn⟩
            rw [r2, r22, hr, eA, s_r_wi, s_r_wr, if_pos ⟨rfl, et⟩]
          · have eg : (D ++ [i']).getD t 0 = D.getD t 0 := by
              simp [List.getD_eq_getElem?_getD, List.getElem?_append_left (show t < D.length by omega)]
            rw [eg]
            obtain ⟨q1, q2⟩ := hD.2 t (by omega)
            refine ⟨?_, cng _ (hkeep _ q2)⟩
            rw [r2, r22, ← q1, eA, s_r_wi, s_r_wr, if_neg (fun z => et z.2)]
            exact c2.r (by omega) (by unfold cnR; omega)
        · rw [emA] at he
          obtain ⟨p1, p2⟩ := hE2 y hy he
          obtain ⟨p3, p4⟩ := hE y hy p1
          refine ⟨p3, pls_f p4 (fun i _ hI hRi => ?_)⟩
          refine hpl1 true i hdm (fun _ z => ?_) hI
          subst z
          rw [hRj] at hRi
          exact p2 hRi
  · cases ez : pls b R (fun i => decide (i < 0) && dmx ls but i) j with
    | false => rfl
    | true =>
      obtain ⟨i, -, hI, -⟩ := pls_t.mp ez
      simp at hI
theorem E_isModel_ok {b w but : Nat} {ls : List (Bool × Lw)} {σ : St} {Q : Int32 → St → Prop} (hX : XL b σ) (hD : DM b (dml ls but ls.length) σ ls) (h5 : ls.length ≤ 5) (hw : w < 3341) (k : Q (bI (holdb ls (pws w) (pwc w) but)) σ) : P_E_isModel (b + 88) (nI w) σ Q := by
  have hl := dml_len ls but ls.length
  have eh : holdb ls (pws w) (pwc w) but = (dml ls but ls.length).all (fun i => keyw ls i w == 0) := holdb_dml ls (pws w) (pwc w) but
  obtain ⟨D, eD⟩ : ∃ D, D = dml ls but ls.length := ⟨_, rfl⟩
  rw [← eD] at hD hl eh
  refine ⟨hX.1.e, fun K2 h2 => ?_⟩
  refine loopU (P := fun t s' => s' = σ ∧ ∀ u, u < t → keyw ls (D.getD u 0) w = 0) (G := fun t s' => K2 (nI w) (nI t) s') D.length ?_ ?_ 0 σ (Nat.zero_le _) ⟨rfl, fun u hu => absurd hu (Nat.not_lt_zero u)⟩
  · rintro s' ⟨rfl, hz⟩
    refine h2 _ _ _ (b_tt (by rw [hD.1]; exact nI_le (Nat.le_refl _) (by omega)) ?_)
    have : holdb ls (pws w) (pwc w) but = true := by
      rw [eh, List.all_eq_true]
      intro i hi
      obtain ⟨u, hu, e⟩ := List.getElem_of_mem hi
      have eg : D.getD u 0 = i := by
        rw [List.getD_eq_getElem?_getD, List.getElem?_eq_getElem hu, e]; rfl
      have := hz u hu
      rw [eg] at this
      rw [this]; rfl
    rw [this] at k
    exact k
  · rintro t s' ht ⟨rfl, hz⟩ ih
    obtain ⟨q1, hi, j, q, f1, f2, f3, f4, f5, f6, f7, f8⟩ := hD.2 t ht
    have er : s_r s' (b + 98) t = some (b + 23 + 2 * j) := q1.trans f2
    refine h2 _ _ _ (b_ff (by rw [hD.1]; exact nI_ge ht (by omega)) (ar_mk (b + 98) 5 t hX.1.e2 hX.1.ea rfl (by omega) (by decide) ?_))
    rw [er]
    have hk27 : keyw ls (D.getD t 0) w ≤ 27 := bc_le (pws_nok w)
    refine b_ff (fun z => by cases z) (nn_mk (b + 23 + 2 * j) rfl (L_brokenAt_ok f7 f3 f6 (f8 w hw) hw (b_le _ 0 rfl nI_0.symm (by omega) (by decide) (fun e => ?_) (fun e => ?_))))
    · rw [nI_add]
      refine ih s' ⟨rfl, fun u hu => ?_⟩
      by_cases eu : u = t
      · rw [eu]; omega
      · exact hz u (by omega)
    · have : holdb ls (pws w) (pwc w) but = false := by
        rw [eh]
        cases hall : D.all (fun i => keyw ls i w == 0) with
        | false => rfl
        | true =>
          have h3 := List.all_eq_true.mp hall _ (getD_memN ht)
          rw [beq_iff_eq] at h3
          omega
      rw [this] at k
      exact k
