/-! The reference: what is told of the world of now and of laws in it. -/
def ts (m : Nat) : Nat → Nat → Prop := fun q _ => q = m + 7 ∨ q = m + 8
theorem ts_scr {m q k : Nat} (h : ts m q k) : scr m q k := by unfold ts at h; unfold scr; omega
theorem M_isBroken_ok {m n c i k : Nat} {w : Lw} {σ : St} {Q : Int32 → St → Prop} (hL : ML m σ) (hT : TB m n c σ) (hn : nok n) (hi : i < 5) (hk : k < n * n * n) (h1 : SideAt (s_i σ (m + 1)) (3 + 33 * i + 1) w.1) (h2 : SideAt (s_i σ (m + 1)) (3 + 33 * i + 17) w.2) (ho : okL w) (kk : ∀ σ', chg (stk m) no σ σ' → Q (bI (brk n c k w)) σ') : P_M_isBroken m (nI n) (nI i) (nI k) σ Q := by
  have hv : ∀ l, evl n c k l < 2 ^ 31 → True := fun _ _ => trivial
  refine ⟨hL.s, M_lawAt_ok ?_⟩
  rw [nI_add]
  refine M_comesOf_ok hL hT hn hk (by omega) h1 ho.1 (fun σ1 hc1 => M_lawAt_ok ?_)
  rw [nI_add]
  have hT1 := hT.g hc1 (fun _ => by unfold stk; omega)
  refine M_comesOf_ok (hL.g hc1) hT1 hn hk (by omega) (h2.copy ho.2.2 (fun k hk => hc1.i (by unfold stk; omega))) ho.2 (fun σ2 hc2 => ?_)
  have hlt : ∀ l : List Nat, okE l → evl n c k l < n := by
    intro l hl
    have gen : ∀ (r st : List Nat), hg st.length r = some 1 → (∀ v ∈ st, v < n) → ∀ v ∈ run n c k st r, v < n := by
      intro r
      induction r with
      | nil => intro st _ hv; exact hv
      | cons s r ih =>
        intro st hh hv
        obtain ⟨e1, e2, e3⟩ := lett_lt hn hk
        rcases hg_l hh with ⟨q1, q2, q3⟩ | ⟨q1, q2, q3⟩
        · have hs3 : s = 0 ∨ s = 1 ∨ s = 2 := by omega
          rcases hs3 with rfl | rfl | rfl
          · refine ih (k % n :: st) q3 (fun v hv' => ?_)
            rcases List.mem_cons.mp hv' with rfl | hv'
            · exact e1
            · exact hv v hv'
          · refine ih (k / n % n :: st) q3 (fun v hv' => ?_)
            rcases List.mem_cons.mp hv' with rfl | hv'
            · exact e2
            · exact hv v hv'
          · refine ih (k / (n * n) :: st) q3 (fun v hv' => ?_)
            rcases List.mem_cons.mp hv' with rfl | hv'
            · exact e3
            · exact hv v hv'
        · subst q1
          match st, q2, q3, hv with
          | b :: a :: t, q2, q3, hv =>
            refine ih (dig n c (n * a + b) :: t) (by simpa using q3) (fun v hv' => ?_)
            rcases List.mem_cons.mp hv' with rfl | hv'
            · exact dig_lt hn.1
            · exact hv v (by simp [hv'])
    have hne : ∀ (r st : List Nat), hg st.length r = some 1 → (run n c k st r).length = 1 := by
      intro r
      induction r with
      | nil => intro st hh; simpa [hg, run] using hh
      | cons s r ih =>
        intro st hh
        rcases hg_l hh with ⟨q1, q2, q3⟩ | ⟨q1, q2, q3⟩
        · have hs3 : s = 0 ∨ s = 1 ∨ s = 2 := by omega
          rcases hs3 with rfl | rfl | rfl
          · exact ih (k % n :: st) q3
          · exact ih (k / n % n :: st) q3
          · exact ih (k / (n * n) :: st) q3
        · subst q1
          match st, q2, q3 with
          | b :: a :: t, q2, q3 => exact ih (dig n c (n * a + b) :: t) (by simpa using q3)
    have h1 := hne l [] hl.1
    have h2 := gen l [] hl.1 (by simp)
    unfold evl
    cases hr : run n c k [] l with
    | nil => rw [hr] at h1; simp at h1
    | cons v r => exact h2 v (by rw [hr]; simp)
  have n3 := hn.2
  have a1 := hlt _ ho.1
  have a2 := hlt _ ho.2
  have kq := kk σ2 (hc1.tr hc2)
  refine b_eq (evl n c k w.1) (evl n c k w.2) rfl rfl (by omega) (by omega) (fun e => ?_) (fun e => ?_)
  · have eb : brk n c k w = false := by simp [brk, e]
    rw [eb] at kq; exact kq
  · have eb : brk n c k w = true := by simp [brk, e]
    rw [eb] at kq; exact kq
theorem M_brokenIn_ok {m n c i : Nat} {w : Lw} {σ : St} {Q : Int32 → St → Prop} (hL : ML m σ) (hw : wok n c) (hi : i < 5) (h1 : SideAt (s_i σ (m + 1)) (3 + 33 * i + 1) w.1) (h2 : SideAt (s_i σ (m + 1)) (3 + 33 * i + 17) w.2) (ho : okL w) (kk : ∀ σ', chg (ts m) no σ σ' → Q (nI (bc n c w)) σ') : P_M_brokenIn m (nI n) (nI c) (nI i) σ Q := by
  have h27 := n27 hw.1
  refine ⟨hL.s, fun K12 h12 => M_unfolds_ok hL hw (fun σ1 hc hT => ?_)⟩
  refine loopU (P := fun _ s' => chg (ts m) no σ s' ∧ TB m n c s') (G := fun j s' => K12 (nI n) (nI i) (nI (ct (fun k => brk n c k w) j)) (nI j) s') (n * n * n) ?_ ?_ 0 σ1 (Nat.zero_le _) ⟨hc.up (fun q k z => Or.inl z), hT⟩
  · rintro s' ⟨hcs, _⟩
    refine h12 _ _ _ _ _ (b_tt (by rw [nI_mul, nI_mul]; exact nI_le (Nat.le_refl _) (by omega)) ?_)
    exact kk s' hcs
  · rintro j s' hj ⟨hcs, hTs⟩ ih
    refine h12 _ _ _ _ _ (b_ff (by rw [nI_mul, nI_mul]; exact nI_ge hj (by omega)) ?_)
    refine M_isBroken_ok (hL.g hcs) hTs hw.1 hi hj (h1.copy ho.1.2 (fun k hk => hcs.i (by unfold ts; omega))) (h2.copy ho.2.2 (fun k hk => hcs.i (by unfold ts; omega))) ho (fun s2 hc2 => ?_)
    have hn : chg (ts m) no σ s2 ∧ TB m n c s2 := ⟨hcs.tr (hc2.up (fun q k z => Or.inr z)), hTs.g hc2 (fun _ => by unfold stk; omega)⟩
    rw [nI_add, nI_add, nI_add]
    refine b_b (brk n c j w) rfl (fun e => ?_) (fun e => ?_)
    · have := ih s2 hn
      rw [ct, e] at this
      exact this
    · have := ih s2 hn
      rw [ct, e] at this
      exact this
theorem MI.side {m : Nat} {σ : St} {a : As} (h : MI m σ a) {i : Nat} (hi : i < a.1.2.2.length) : SideAt (s_i σ (m + 1)) (3 + 33 * i + 1) (lwg a.1.2.2 i).2.1 ∧ SideAt (s_i σ (m + 1)) (3 + 33 * i + 17) (lwg a.1.2.2 i).2.2 := by
  have := h.2.1.2.2.2 i hi
  simp only [Nat.zero_add] at this
  exact ⟨this.2.1, this.2.2⟩
theorem M_brokenNow_ok {m i : Nat} {a : As} {σ : St} {Q : Int32 → St → Prop} (h : MI m σ a) (ha : asok a) (hi : i < a.1.2.2.length) (kk : ∀ σ', chg (ts m) no σ σ' → Q (nI (bc a.1.1 a.1.2.1 (lwg a.1.2.2 i).2)) σ') : P_M_brokenNow m (nI i) σ Q := by
  have h5 := ha.1.2.1
  refine ⟨h.1.s, ar_mk (m + 1) 176 0 h.1.r1 h.1.a1 rfl (by decide) (by decide) (ar_mk (m + 1) 176 1 h.1.r1 h.1.a1 rfl (by decide) (by decide) ?_)⟩
  rw [h.n, h.c]
  exact M_brokenIn_ok h.1 ha.1.1 (by omega) (h.side hi).1 (h.side hi).2 (ha.1.2.2 _ (lwg_mem hi)) kk
theorem bc_le {n c : Nat} {w : Lw} (hn : nok n) : bc n c w ≤ 27 := Nat.le_trans (ct_le _ _) (n27 hn)
theorem M_lawsThatHold_ok {m : Nat} {a : As} {on : Bool} {x : Int32} {σ : St} {Q : Int32 → St → Prop} (h : MI m σ a) (ha : asok a) (hx : x = bI on) (kk : ∀ σ', chg (ts m) no σ σ' → Q (nI (holdNow a.1 on)) σ') : P_M_lawsThatHold m x σ Q := by
  have h5 := ha.1.2.1
  have hbn := fun i => bc_le (c := a.1.2.1) (w := (lwg a.1.2.2 i).2) ha.1.1.1
  refine ⟨h.1.s, fun K4 h4 => ?_⟩
  refine loopU (P := fun _ s' => chg (ts m) no σ s') (G := fun i s' => K4 x (nI (ct (fun i => (!on || (lwg a.1.2.2 i).1) && bc a.1.1 a.1.2.1 (lwg a.1.2.2 i).2 == 0) i)) (nI i) s') a.1.2.2.length ?_ ?_ 0 σ (Nat.zero_le _) chg.rf
  · intro s' hc
    have h' := h.scr (hc.up (fun _ _ => ts_scr))
    refine h4 _ _ _ _ (ar_mk (m + 1) 176 2 h'.1.r1 h'.1.a1 rfl (by decide) (by decide) ?_)
    rw [h'.k]
    exact b_tt (nI_le (Nat.le_refl _) (by omega)) (kk s' hc)
  · intro i s' hi hc ih
    have h' := h.scr (hc.up (fun _ _ => ts_scr))
    refine h4 _ _ _ _ (ar_mk (m + 1) 176 2 h'.1.r1 h'.1.a1 rfl (by decide) (by decide) ?_)
    rw [h'.k]
    refine b_ff (nI_ge hi (by omega)) ?_
    have fin : ∀ s2, chg (ts m) no s' s2 → ∀ v : Nat, v = (if ((!on || (lwg a.1.2.2 i).1) && bc a.1.1 a.1.2.1 (lwg a.1.2.2 i).2 == 0) = true then 1 else 0) → K4 x (nI (ct (fun i => (!on || (lwg a.1.2.2 i).1) && bc a.1.1 a.1.2.1 (lwg a.1.2.2 i).2 == 0) i) + nI v) (nI i + nI 1) s2 := by
      intro s2 hc2 v hv
      rw [hv, nI_add, nI_add]
      exact ih s2 (hc.tr hc2)
    have now : ∀ s2, chg (ts m) no s' s2 → (on = false ∨ (lwg a.1.2.2 i).1 = true) → P_M_brokenNow m (nI i) s2 (fun r4 σ3 => (r4 = 0 → K4 x (nI (ct (fun i => (!on || (lwg a.1.2.2 i).1) && bc a.1.1 a.1.2.1 (lwg a.1.2.2 i).2 == 0) i) + nI 1) (nI i + nI 1) σ3) ∧ (¬ r4 = 0 → K4 x (nI (ct (fun i => (!on || (lwg a.1.2.2 i).1) && bc a.1.1 a.1.2.1 (lwg a.1.2.2 i).2 == 0) i) + nI 0) (nI i + nI 1) σ3)) := by
      intro s2 hc2 hor
      have h2 := h'.scr (hc2.up (fun _ _ => ts_scr))
      have hfl : (!on || (lwg a.1.2.2 i).1) = true := by
        rcases hor with e | e <;> simp [e]
      refine M_brokenNow_ok h2 ha hi (fun s3 hc3 => b_z _ rfl (by have := hbn i; omega) (fun e => ?_) (fun e => ?_))
      · exact fin s3 (hc2.tr hc3) 1 (by simp [hfl, e])
      · exact fin s3 (hc2.tr hc3) 0 (by simp [e])
    refine b_b on hx (fun eo => ?_) (fun eo => ?_)
    · exact now s' chg.rf (Or.inl eo)
    · refine M_isOn_ok h'.1 (by omega) (row_on h'.2.1 i hi) (b_b _ rfl (fun e => ?_) (fun e => ?_))
      · exact fin s' chg.rf 0 (by simp [eo, e])
      · exact now s' chg.rf (Or.inr e)
/-! sets as bits -/
theorem bset_lt (p : Nat → Bool) : ∀ N, bset N p < 2 ^ N
  | 0 => by simp [bset, sm]
  | N + 1 => by
    have := bset_lt p N
    show bset N p + (if p N then 2 ^ N else 0) < 2 ^ (N + 1)
    rw [Nat.pow_succ]
    split <;> omega
theorem or_fresh {x k : Nat} (h : x < 2 ^ k) : x ||| 2 ^ k = x + 2 ^ k := by
  have := Nat.two_pow_add_eq_or_of_lt h 1
  rw [Nat.mul_one] at this
  rw [Nat.or_comm, Nat.add_comm, this]
theorem bset_or (p : Nat → Bool) (N : Nat) : bset N p ||| (if p N then 2 ^ N else 0) = bset (N + 1) p := by
  show _ = bset N p + (if p N then 2 ^ N else 0)
  by_cases e : p N = true
  · rw [if_pos e]; exact or_fresh (bset_lt p N)
  · rw [if_neg e]; simp
theorem all_range_succ (p : Nat → Bool) (n : Nat) : (List.range (n + 1)).all p = ((List.range n).all p && p n) := by
  rw [List.range_succ, List.all_append]
  simp
theorem M_things_ok {m : Nat} {a : As} {what : Nat} {σ : St} {Q : Int32 → St → Prop} (h : MI m σ a) (ha : asok a) (hwh : what = 4 ∨ what = 5 ∨ what = 6) (kk : ∀ σ', chg (tab m) no σ σ' → Q (nI (things a.1.1 a.1.2.1 what)) σ') : P_M_things m (nI what) σ Q := by
  have hwa := ha.1.1
  have q1 := hwa.1.1
  have q3 := hwa.1.2
  have h9 := nn9 hwa.1
  obtain ⟨n, en⟩ : ∃ n, n = a.1.1 := ⟨_, rfl⟩
  obtain ⟨c, ec⟩ : ∃ c, c = a.1.2.1 := ⟨_, rfl⟩
  refine ⟨h.1.s, fun K23 K35 h23 h35 => ar_mk (m + 1) 176 0 h.1.r1 h.1.a1 rfl (by decide) (by decide) (ar_mk (m + 1) 176 1 h.1.r1 h.1.a1 rfl (by decide) (by decide) ?_)⟩
  rw [h.n, h.c]
  refine M_unfolds_ok h.1 hwa (fun σ1 hc hT => ?_)
  have hL1 := h.1.g hc
  rw [← en, ← ec] at hT
  rw [← en] at q1 q3 h9
  rw [← en, ← ec] at kk
  rw [← en]
  obtain ⟨f, ef⟩ : ∃ f : Nat → Nat → Bool, f = fun x y => if what = 4 then dig n c (n * x + x) == x else if what = 5 then dig n c (n * x + y) == y else dig n c (n * y + x) == y := ⟨_, rfl⟩
  have eth : things n c what = bset n (fun x => (List.range n).all (fun y => f x y)) := by rw [ef]; rfl
  refine loopU (P := fun _ s' => s' = σ1) (G := fun x s' => K23 (nI what) (nI n) (nI (bset x (fun x => (List.range n).all (fun y => f x y)))) (nI x) s') n ?_ ?_ 0 σ1 (Nat.zero_le _) rfl
  · rintro s' rfl
    rw [← eth]
    exact h23 _ _ _ _ _ (b_tt (nI_le (Nat.le_refl _) (by omega)) (kk s' hc))
  · rintro x s' hx rfl ih
    refine h23 _ _ _ _ _ (b_ff (nI_ge hx (by omega)) ?_)
    refine loopU (P := fun _ s2 => s2 = s') (G := fun y s2 => K35 (nI what) (nI n) (nI (bset x (fun x => (List.range n).all (fun y => f x y)))) (nI x) (bI ((List.range y).all (fun y => f x y))) (nI y) s2) n ?_ ?_ 0 s' (Nat.zero_le _) rfl
    · rintro s2 rfl
      refine h35 _ _ _ _ _ _ _ (b_tt (nI_le (Nat.le_refl _) (by omega)) ?_)
      have e := bset_or (fun x => (List.range n).all (fun y => f x y)) x
      refine b_b _ rfl (fun eb => ?_) (fun eb => ?_)
      · rw [if_neg (by simp only [eb]; decide)] at e
        rw [nI_or, e, nI_add]
        exact ih s2 rfl
      · rw [if_pos eb] at e
        rw [shl_1 x (by omega), nI_or, e, nI_add]
        exact ih s2 rfl
    · rintro y s2 hy rfl ih2
      refine h35 _ _ _ _ _ _ _ (b_ff (nI_ge hy (by omega)) ?_)
      have go : ∀ b : Bool, ((List.range y).all (fun y => f x y) && f x y) = b → K35 (nI what) (nI n) (nI (bset x (fun x => (List.range n).all (fun y => f x y)))) (nI x) (bI b) (nI y + nI 1) s2 := by
        intro b hb
        rw [← hb, ← all_range_succ, nI_add]
        exact ih2 s2 rfl
      refine b_b _ rfl (fun eb => ?_) (fun eb => ?_)
      · exact go false (by rw [eb]; rfl)
      · have hxy := nab hx hy
        have hyx := nab hy hx
        have hxx := nab hx hx
        have d1 := dig_lt (c := c) (k := n * x + x) q1
        have d2 := dig_lt (c := c) (k := n * x + y) q1
        have d3 := dig_lt (c := c) (k := n * y + x) q1
        rcases hwh with rfl | rfl | rfl
        · refine b_tt rfl (ar_mk (m + 7) 9 (n * x + x) hL1.r7 hL1.a7 (by rw [nI_mul, nI_add]) (by omega) (by decide) ?_)
          rw [hT _ hxx]
          have ef4 : f x y = (dig n c (n * x + x) == x) := by rw [ef]; rfl
          refine b_eq _ _ rfl rfl (by omega) (by omega) (fun e => ?_) (fun e => ?_)
          · exact go true (by rw [eb, ef4]; simp [e])
          · exact go false (by rw [eb, ef4]; simp [e])
        · refine b_ff (by decide) (b_tt rfl (ar_mk (m + 7) 9 (n * x + y) hL1.r7 hL1.a7 (by rw [nI_mul, nI_add]) (by omega) (by decide) ?_))
          rw [hT _ hxy]
          have ef4 : f x y = (dig n c (n * x + y) == y) := by rw [ef]; rfl
          refine b_eq _ _ rfl rfl (by omega) (by omega) (fun e => ?_) (fun e => ?_)
          · exact go true (by rw [eb, ef4]; simp [e])
          · exact go false (by rw [eb, ef4]; simp [e])
        · refine b_ff (by decide) (b_ff (by decide) (ar_mk (m + 7) 9 (n * y + x) hL1.r7 hL1.a7 (by rw [nI_mul, nI_add]) (by omega) (by decide) ?_))
          rw [hT _ hyx]
          have ef4 : f x y = (dig n c (n * y + x) == y) := by rw [ef]; rfl
          refine b_eq _ _ rfl rfl (by omega) (by omega) (fun e => ?_) (fun e => ?_)
          · exact go true (by rw [eb, ef4]; simp [e])
          · exact go false (by rw [eb, ef4]; simp [e])
