/-! Basics of the pure part. -/
theorem s_s_wi (σ : St) (q k : Nat) (v : Int32) : s_s (w_i σ q k v) = s_s σ := rfl
theorem s_r_wi (σ : St) (q k : Nat) (v : Int32) : s_r (w_i σ q k v) = s_r σ := rfl
theorem s_l_wi (σ : St) (q k : Nat) (v : Int32) : s_l (w_i σ q k v) = s_l σ := rfl
theorem s_n_wi (σ : St) (q k : Nat) (v : Int32) : s_n (w_i σ q k v) = s_n σ := rfl
theorem s_i_wi (σ : St) (q k : Nat) (v : Int32) (a c : Nat) : s_i (w_i σ q k v) a c = if a = q ∧ c = k then v else s_i σ a c := rfl
theorem s_s_wr (σ : St) (q k : Nat) (v : Option Nat) : s_s (w_r σ q k v) = s_s σ := rfl
theorem s_i_wr (σ : St) (q k : Nat) (v : Option Nat) : s_i (w_r σ q k v) = s_i σ := rfl
theorem s_l_wr (σ : St) (q k : Nat) (v : Option Nat) : s_l (w_r σ q k v) = s_l σ := rfl
theorem s_n_wr (σ : St) (q k : Nat) (v : Option Nat) : s_n (w_r σ q k v) = s_n σ := rfl
theorem s_r_wr (σ : St) (q k : Nat) (v : Option Nat) (a c : Nat) : s_r (w_r σ q k v) a c = if a = q ∧ c = k then v else s_r σ a c := rfl
theorem s_s_wl (σ : St) (q k : Nat) (v : Int64) : s_s (w_l σ q k v) = s_s σ := rfl
theorem s_i_wl (σ : St) (q k : Nat) (v : Int64) : s_i (w_l σ q k v) = s_i σ := rfl
theorem s_r_wl (σ : St) (q k : Nat) (v : Int64) : s_r (w_l σ q k v) = s_r σ := rfl
theorem s_n_wl (σ : St) (q k : Nat) (v : Int64) : s_n (w_l σ q k v) = s_n σ := rfl
theorem s_l_wl (σ : St) (q k : Nat) (v : Int64) (a c : Nat) : s_l (w_l σ q k v) a c = if a = q ∧ c = k then v else s_l σ a c := rfl
/-! using the forms -/
theorem ar_mk {t : Nat} {σ : St} {o : Option Nat} {i : Int32} {P : Nat → Nat → Prop} (q n j : Nat) (ho : o = some q) (hs : s_s σ q = some (.inr (t, n))) (hi : i = nI j) (hj : j < n) (hn : n < 2 ^ 31) (h : P q j) : ar t σ o i P :=
  ⟨q, n, j, ho, hs, by rw [hi]; exact vp_in_nI hj hn, by rw [hi]; exact nI_clamp (by omega), h⟩
theorem ob_mk {ci : Nat} {σ : St} {o : Option Nat} {P : Nat → Prop} (q : Nat) (ho : o = some q) (hs : s_s σ q = some (.inl ci)) (h : P q) : ob ci σ o P := ⟨q, ho, hs, h⟩
theorem nn_mk {o : Option Nat} {P : Nat → Prop} (q : Nat) (ho : o = some q) (h : P q) : nn o P := ⟨q, ho, h⟩
theorem al_mk {σ : St} {o : Option Nat} {P : Nat → Prop} (q t n : Nat) (ho : o = some q) (hs : s_s σ q = some (.inr (t, n))) (h : P n) : al σ o P := ⟨q, t, n, ho, hs, h⟩
theorem nw_mk {σ : St} {sp : Shp} {P : Nat → St → Prop} (h : P (s_n σ) (w_new σ sp)) : nw σ sp P := by
  intro q σ' e1 e2
  rw [e1, e2]; exact h
theorem st_mk {n : Nat} {i : Int32} {P : Nat → Prop} (j : Nat) (hi : i = nI j) (hj : j < n) (hn : n < 2 ^ 31) (h : P j) : st' n i P := ⟨j, by rw [hi]; exact vp_in_nI hj hn, by rw [hi]; exact nI_clamp (by omega), h⟩
/-! branches over numbers -/
theorem b_le {x y : Int32} {A B : Prop} (a b : Nat) (hx : x = nI a) (hy : y = nI b) (ha : a < 2 ^ 31) (hb : b < 2 ^ 31) (f : a ≤ b → A) (g : b < a → B) : (x ≤ y → A) ∧ (¬ x ≤ y → B) := by
  rw [hx, hy, nI_leI ha hb]
  exact ⟨f, fun h => g (by omega)⟩
theorem b_lt {x y : Int32} {A B : Prop} (a b : Nat) (hx : x = nI a) (hy : y = nI b) (ha : a < 2 ^ 31) (hb : b < 2 ^ 31) (f : a < b → A) (g : b ≤ a → B) : (x < y → A) ∧ (¬ x < y → B) := by
  rw [hx, hy, nI_ltI ha hb]
  exact ⟨f, fun h => g (by omega)⟩
theorem b_eq {x y : Int32} {A B : Prop} (a b : Nat) (hx : x = nI a) (hy : y = nI b) (ha : a < 2 ^ 31) (hb : b < 2 ^ 31) (f : a = b → A) (g : a ≠ b → B) : (x = y → A) ∧ (¬ x = y → B) := by
  rw [hx, hy, nI_eq ha hb]
  exact ⟨f, g⟩
theorem b_z {x : Int32} {A B : Prop} (a : Nat) (hx : x = nI a) (ha : a < 2 ^ 31) (f : a = 0 → A) (g : a ≠ 0 → B) : (x = 0 → A) ∧ (¬ x = 0 → B) := b_eq a 0 hx nI_0.symm ha (by decide) f g
/-- a truth value -/
def bI (c : Bool) : Int32 := if c then 1 else 0
theorem bI_01 (c : Bool) : bI c = 0 ∨ bI c = 1 := by cases c <;> simp [bI]
theorem bI_n (c : Bool) : bI c = nI (if c then 1 else 0) := by cases c <;> rfl
theorem b_b {x : Int32} {A B : Prop} (c : Bool) (hx : x = bI c) (f : c = false → A) (g : c = true → B) : (x = 0 → A) ∧ (¬ x = 0 → B) := by
  subst hx
  cases c
  · exact ⟨fun _ => f rfl, fun h => absurd rfl h⟩
  · exact ⟨fun h => absurd h (by decide), fun _ => g rfl⟩
theorem b_tt {c A B : Prop} (h : c) (f : A) : (c → A) ∧ (¬ c → B) := ⟨fun _ => f, fun g => absurd h g⟩
theorem b_ff {c A B : Prop} (h : ¬ c) (g : B) : (c → A) ∧ (¬ c → B) := ⟨fun f => absurd f h, fun _ => g⟩
theorem b_or {c A B : Prop} (f : c → A) (g : ¬ c → B) : (c → A) ∧ (¬ c → B) := ⟨f, g⟩
/-! arithmetic of small numbers -/
theorem nI_sub {a b : Nat} (h : b ≤ a) : nI a - nI b = nI (a - b) := pk_sub h
theorem nI_mul (a b : Nat) : nI a * nI b = nI (a * b) := pk_mul a b
theorem nI_m1 {a : Nat} (h : 1 ≤ a) : nI a + (-1) = nI (a - 1) := by
  obtain ⟨k, rfl⟩ : ∃ k, a = k + 1 := ⟨a - 1, by omega⟩
  exact pk_m1 k
theorem nI_div {a d : Nat} (ha : a < 2 ^ 31) (h0 : 0 < d) (hd : d < 2 ^ 31) : nI a / nI d = nI (a / d) := pk_div ha h0 hd
theorem irem_nI {a d : Nat} (ha : a < 2 ^ 31) (h0 : 0 < d) (hd : d < 2 ^ 31) : irem (nI a) (nI d) = nI (a % d) := pk_rem ha h0 hd
theorem nI_bv (n : Nat) : (nI n).toBitVec = BitVec.ofNat 32 n := rfl
theorem i32_inj {a b : Int32} (h : a.toBitVec = b.toBitVec) : a = b := Int32.toBitVec_inj.mp h
theorem nI_and {a b : Nat} : nI a &&& nI b = nI (a &&& b) := i32_inj (by
  show (nI a).toBitVec &&& (nI b).toBitVec = _
  rw [nI_bv, nI_bv, nI_bv]
  apply BitVec.eq_of_getLsbD_eq
  intro i hi
  simp [BitVec.getLsbD_ofNat, hi])
theorem nI_or {a b : Nat} : nI a ||| nI b = nI (a ||| b) := i32_inj (by
  show (nI a).toBitVec ||| (nI b).toBitVec = _
  rw [nI_bv, nI_bv, nI_bv]
  apply BitVec.eq_of_getLsbD_eq
  intro i hi
  simp [BitVec.getLsbD_ofNat, hi])
theorem nI_xor {a b : Nat} : nI a ^^^ nI b = nI (a ^^^ b) := i32_inj (by
  show (nI a).toBitVec ^^^ (nI b).toBitVec = _
  rw [nI_bv, nI_bv, nI_bv]
  apply BitVec.eq_of_getLsbD_eq
  intro i hi
  simp [BitVec.getLsbD_ofNat, hi])
theorem shl_1 : ∀ k, k < 31 → shl (nI 1) (nI k) = nI (2 ^ k) := by decide +kernel
theorem shr_k : ∀ k, k < 32 → ((nI k &&& 31).toBitVec.smod 32).toNat = k := by decide +kernel
theorem shr_nI {a k : Nat} (ha : a < 2 ^ 31) (hk : k < 32) : shr (nI a) (nI k) = nI (a / 2 ^ k) := pk_shrN ha _ k (shr_k k hk)
theorem i64_nI {a : Nat} (h : a < 2 ^ 31) : (nI a).toInt64 = lN a := nI_l h
theorem lg_cmp_lN {a b : Nat} (ha : a < 2 ^ 31) (hb : b < 2 ^ 31) : lg_cmp (lN a) (lN b) = if a < b then (-1) else if a = b then 0 else 1 := by
  unfold lg_cmp
  simp only [lN_lt ha hb, lN_lt hb ha, lN_eq ha hb]
  rcases Nat.lt_trichotomy a b with h | h | h
  · simp [h, Nat.not_lt.mpr (Nat.le_of_lt h), Nat.ne_of_lt h]
  · simp [h]
  · simp [h, Nat.not_lt.mpr (Nat.le_of_lt h), Nat.ne_of_gt h]
/-! what a run may change -/
def chg (SI SR : Nat → Nat → Prop) (σ σ' : St) : Prop := s_n σ' = s_n σ ∧ s_s σ' = s_s σ ∧ s_l σ' = s_l σ ∧ (∀ q k, ¬ SI q k → s_i σ' q k = s_i σ q k) ∧ ∀ q k, ¬ SR q k → s_r σ' q k = s_r σ q k
def no : Nat → Nat → Prop := fun _ _ => False
theorem chg.rf {SI SR : Nat → Nat → Prop} {σ : St} : chg SI SR σ σ := ⟨rfl, rfl, rfl, fun _ _ _ => rfl, fun _ _ _ => rfl⟩
theorem chg.tr {SI SR : Nat → Nat → Prop} {σ σ' σ'' : St} (h : chg SI SR σ σ') (k : chg SI SR σ' σ'') : chg SI SR σ σ'' := ⟨k.1.trans h.1, k.2.1.trans h.2.1, k.2.2.1.trans h.2.2.1, fun q j n => (k.2.2.2.1 q j n).trans (h.2.2.2.1 q j n), fun q j n => (k.2.2.2.2 q j n).trans (h.2.2.2.2 q j n)⟩
theorem chg.mono {SI SR TI TR : Nat → Nat → Prop} {σ σ' : St} (h : chg SI SR σ σ') (hi : ∀ q k, SI q k → TI q k) (hr : ∀ q k, SR q k → TR q k) : chg TI TR σ σ' := ⟨h.1, h.2.1, h.2.2.1, fun q k n => h.2.2.2.1 q k (fun z => n (hi q k z)), fun q k n => h.2.2.2.2 q k (fun z => n (hr q k z))⟩
theorem chg.wi {SI SR : Nat → Nat → Prop} {σ0 σ : St} {q k : Nat} {v : Int32} (h : chg SI SR σ0 σ) (hs : SI q k) : chg SI SR σ0 (w_i σ q k v) := ⟨h.1, h.2.1, h.2.2.1, fun a c n => by
  rw [s_i_wi, if_neg (fun z => n (by rw [z.1, z.2]; exact hs))]; exact h.2.2.2.1 a c n, h.2.2.2.2⟩
theorem chg.wr {SI SR : Nat → Nat → Prop} {σ0 σ : St} {q k : Nat} {v : Option Nat} (h : chg SI SR σ0 σ) (hs : SR q k) : chg SI SR σ0 (w_r σ q k v) := ⟨h.1, h.2.1, h.2.2.1, h.2.2.2.1, fun a c n => by
  rw [s_r_wr, if_neg (fun z => n (by rw [z.1, z.2]; exact hs))]; exact h.2.2.2.2 a c n⟩
theorem chg.n {SI SR : Nat → Nat → Prop} {σ σ' : St} (h : chg SI SR σ σ') : s_n σ' = s_n σ := h.1
theorem chg.s {SI SR : Nat → Nat → Prop} {σ σ' : St} (h : chg SI SR σ σ') : s_s σ' = s_s σ := h.2.1
theorem chg.i {SI SR : Nat → Nat → Prop} {σ σ' : St} (h : chg SI SR σ σ') {q k : Nat} (n : ¬ SI q k) : s_i σ' q k = s_i σ q k := h.2.2.2.1 q k n
theorem chg.r {SI SR : Nat → Nat → Prop} {σ σ' : St} (h : chg SI SR σ σ') {q k : Nat} (n : ¬ SR q k) : s_r σ' q k = s_r σ q k := h.2.2.2.2 q k n
/-! loops that count up -/
theorem up_loop {P : Nat → Prop} {Goal : Nat → Prop} (e : Nat) (hend : P e → Goal e) (hstep : ∀ i, i < e → P i → (P (i + 1) → Goal (i + 1)) → Goal i) : ∀ i, i ≤ e → P i → Goal i := by
  intro i
  obtain ⟨d, hd⟩ : ∃ d, d = e - i := ⟨_, rfl⟩
  induction d generalizing i with
  | zero =>
    intro h hp
    have : i = e := by omega
    subst this
    exact hend hp
  | succ d ih =>
    intro h hp
    exact hstep i (by omega) hp (fun hp' => ih (i + 1) (by omega) (by omega) hp')
