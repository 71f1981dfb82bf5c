/-! The reference: worlds. -/
def TB (m n c : Nat) (σ : St) : Prop := ∀ j, j < n * n → s_i σ (m + 7) j = nI (dig n c j)
def tab (m : Nat) : Nat → Nat → Prop := fun q _ => q = m + 7
theorem TB.g {m n c : Nat} {SI : Nat → Nat → Prop} {σ σ' : St} (h : TB m n c σ) (g : chg SI no σ σ') (hs : ∀ k, ¬ SI (m + 7) k) : TB m n c σ' := fun j hj => (g.i (hs j)).trans (h j hj)
theorem nab {n a b : Nat} (ha : a < n) (hb : b < n) : n * a + b < n * n := by
  calc n * a + b < n * a + n := by omega
    _ = n * (a + 1) := by rw [Nat.mul_succ]
    _ ≤ n * n := Nat.mul_le_mul_left _ ha
theorem nab_d {n a b : Nat} (hb : b < n) : (n * a + b) / n = a ∧ (n * a + b) % n = b := by
  have h0 : 0 < n := by omega
  rw [Nat.mul_add_div h0, Nat.div_eq_of_lt hb, Nat.mul_add_mod, Nat.mod_eq_of_lt hb]
  exact ⟨rfl, rfl⟩
theorem M_codeBy_ok {m n c w : Nat} {σ : St} {Q : Int32 → St → Prop} (hL : ML m σ) (hT : TB m n c σ) (hn : nok n) (hw : w < ways n) (k : Q (nI (rcode n c w)) σ) : P_M_codeBy m (nI n) (nI w) σ Q := by
  have h9 := nn9 hn
  have h1 := hn.1
  have h2 := hn.2
  have w6 := ways_le (n := n)
  refine ⟨hL.s, fun K5 K14 h5 h14 => ?_⟩
  have key := loopU (P := fun _ σ' => σ' = σ) (G := fun a σ' => K5 (nI n) (nI w) (nI (sm (fun k => rho w (dig n c k) * n ^ pos n w k) (n * a))) (nI a) σ') n ?_ ?_ 0 σ (Nat.zero_le _) rfl
  · simpa [sm] using key
  · rintro σ' rfl
    exact h5 _ _ _ _ _ (b_tt (nI_le (Nat.le_refl _) (by omega)) k)
  · rintro a σ' ha rfl ih
    refine h5 _ _ _ _ _ (b_ff (nI_ge ha (by omega)) ?_)
    have key2 := loopU (P := fun _ s' => s' = σ') (G := fun b s' => K14 (nI n) (nI w) (nI (sm (fun k => rho w (dig n c k) * n ^ pos n w k) (n * a + b))) (nI a) (nI b) s') n ?_ ?_ 0 σ' (Nat.zero_le _) rfl
    · simpa using key2
    · rintro s' rfl
      refine h14 _ _ _ _ _ _ (b_tt (nI_le (Nat.le_refl _) (by omega)) ?_)
      rw [nI_add, show n * a + n = n * (a + 1) from (Nat.mul_succ n a).symm]
      exact ih s' rfl
    · rintro b s' hb rfl ih2
      refine h14 _ _ _ _ _ _ (b_ff (nI_ge hb (by omega)) ?_)
      have hk := nab ha hb
      obtain ⟨e1, e2⟩ := nab_d (a := a) hb
      have hd := dig_lt (c := c) (k := n * a + b) h1
      refine ar_mk (m + 7) 9 (n * a + b) hL.r7 hL.a7 (by rw [nI_mul, nI_add]) (by omega) (by decide) ?_
      rw [hT _ hk]
      refine M_renamed_ok (by omega) (by omega) (M_renamed_ok (by omega) (by omega) (M_renamed_ok (by omega) (by omega) ?_))
      rw [nI_mul, nI_add]
      have hp := pos_lt hn hw hk
      have ep : n * rho w a + rho w b = pos n w (n * a + b) := by unfold pos; rw [e1, e2]
      rw [ep]
      refine M_power_ok (by omega) ?_
      rw [nI_mul, nI_add, nI_add]
      exact ih2 s' rfl
theorem M_plainOf_ok {m n c : Nat} {σ : St} {Q : Int32 → St → Prop} (hL : ML m σ) (hw : wok n c) (k : ∀ σ', chg (tab m) no σ σ' → TB m n c σ' → Q (nI (plain n c)) σ') : P_M_plainOf m (nI n) (nI c) σ Q := by
  have h9 := nn9 hw.1
  have h1 := hw.1.1
  have h2 := hw.1.2
  have w6 := ways_le (n := n)
  have w0 := ways_pos n
  have hl := wc_le hw.1
  refine ⟨hL.s, fun K11 h11 => ?_⟩
  refine M_unfolds_ok hL hw (fun σ1 hc hT => ?_)
  have hL1 := hL.g hc
  refine loopU (P := fun _ s' => s' = σ1) (G := fun i s' => K11 (nI n) (nI (pln n c i)) (nI (i + 1)) s') (ways n - 1) ?_ ?_ 0 σ1 (Nat.zero_le _) rfl
  · rintro s' rfl
    refine h11 _ _ _ _ (M_waysOf_ok hw.1 (b_tt (nI_le (by omega) (by omega)) (k s' hc hT)))
  · rintro i s' hi rfl ih
    refine h11 _ _ _ _ (M_waysOf_ok hw.1 (b_ff (nI_ge (by omega) (by omega)) ?_))
    refine M_codeBy_ok hL1 hT hw.1 (by omega) ?_
    have q1 := pln_le hw i 0 (Nat.zero_le _)
    rw [rcode_0 hw] at q1
    have q2 := rcode_lt (c := c) hw.1 (show i + 1 < ways n by omega)
    have q3 := hw.2
    refine b_le (pln n c i) (rcode n c (i + 1)) rfl rfl (by omega) (by omega) (fun h => ?_) (fun h => ?_)
    · rw [nI_add]
      have e : pln n c (i + 1) = pln n c i := Nat.min_eq_left h
      rw [← e]
      exact ih s' rfl
    · rw [nI_add]
      have e : pln n c (i + 1) = rcode n c (i + 1) := Nat.min_eq_right (Nat.le_of_lt h)
      rw [← e]
      exact ih s' rfl
theorem M_alikeTo_ok {m n c : Nat} {σ : St} {Q : Int32 → St → Prop} (hL : ML m σ) (hw : wok n c) (k : ∀ σ', chg (tab m) no σ σ' → Q (nI (ways n / stb n c)) σ') : P_M_alikeTo m (nI n) (nI c) σ Q := by
  have h9 := nn9 hw.1
  have h1 := hw.1.1
  have h2 := hw.1.2
  have w6 := ways_le (n := n)
  have w0 := ways_pos n
  have hl := wc_le hw.1
  have hs := (oc_ways hw).2
  have hs2 : stb n c ≤ ways n := ct_le _ _
  refine ⟨hL.s, fun K11 h11 => ?_⟩
  refine M_unfolds_ok hL hw (fun σ1 hc hT => ?_)
  have hL1 := hL.g hc
  refine loopU (P := fun _ s' => s' = σ1) (G := fun i s' => K11 (nI n) (nI c) (nI (ct (fun w => rcode n c w == c) i)) (nI i) s') (ways n) ?_ ?_ 0 σ1 (Nat.zero_le _) rfl
  · rintro s' rfl
    refine h11 _ _ _ _ _ (M_waysOf_ok hw.1 (b_tt (nI_le (by omega) (by omega)) ?_))
    refine M_waysOf_ok hw.1 ⟨nI_ne0 hs (Nat.lt_of_le_of_lt hs2 (by omega)), ?_⟩
    have e : ct (fun w => rcode n c w == c) (ways n) = stb n c := rfl
    rw [e, nI_div (by omega) hs (by omega)]
    exact k s' hc
  · rintro i s' hi rfl ih
    refine h11 _ _ _ _ _ (M_waysOf_ok hw.1 (b_ff (nI_ge (by omega) (by omega)) ?_))
    refine M_codeBy_ok hL1 hT hw.1 hi ?_
    have q2 := rcode_lt (c := c) hw.1 hi
    have q3 := hw.2
    refine b_eq (rcode n c i) c rfl rfl (by omega) (by omega) (fun h => ?_) (fun h => ?_)
    · rw [nI_add, nI_add]
      have e : ct (fun w => rcode n c w == c) (i + 1) = ct (fun w => rcode n c w == c) i + 1 := by simp [ct, h]
      rw [← e]
      exact ih s' rfl
    · rw [nI_add, nI_add]
      have e : ct (fun w => rcode n c w == c) (i + 1) = ct (fun w => rcode n c w == c) i + 0 := by simp [ct, h]
      rw [← e]
      exact ih s' rfl
/-! laws: sides as rows of letters and puttings together, operands first -/
abbrev Lw : Type := List Nat × List Nat
def stp (n c k : Nat) (st : List Nat) (s : Nat) : List Nat := match s with
  | 0 => k % n :: st
  | 1 => k / n % n :: st
  | 2 => k / (n * n) :: st
  | _ => match st with
    | b :: a :: r => dig n c (n * a + b) :: r
    | r => r
def run (n c k : Nat) : List Nat → List Nat → List Nat
  | st, [] => st
  | st, s :: l => run n c k (stp n c k st s) l
def evl (n c k : Nat) (l : List Nat) : Nat := (run n c k [] l).headD 0
/-- how many wait, behind a row: at most 5, never too few -/
def hg : Nat → List Nat → Option Nat
  | h, [] => some h
  | h, s :: l => if s < 3 then (if h < 5 then hg (h + 1) l else none) else if s = 3 ∧ 2 ≤ h then hg (h - 1) l else none
def okE (l : List Nat) : Prop := hg 0 l = some 1 ∧ l.length ≤ 15
def okL (w : Lw) : Prop := okE w.1 ∧ okE w.2
def brk (n c k : Nat) (w : Lw) : Bool := evl n c k w.1 != evl n c k w.2
def bc (n c : Nat) (w : Lw) : Nat := ct (fun k => brk n c k w) (n * n * n)
/-- a side in a row of numbers -/
def SideAt (f : Nat → Int32) (p : Nat) (l : List Nat) : Prop := f p = nI l.length ∧ ∀ k, k < l.length → f (p + 1 + k) = nI (l.getD k 0)
def StkAt (f : Nat → Int32) : List Nat → Prop
  | [] => True
  | a :: r => f r.length = nI a ∧ StkAt f r
theorem StkAt.keep {f g : Nat → Int32} : ∀ {st : List Nat}, StkAt f st → (∀ k, k < st.length → g k = f k) → StkAt g st
  | [], _, _ => trivial
  | a :: r, h, e => ⟨(e r.length (by simp)).trans h.1, h.2.keep (fun k hk => e k (by simp; omega))⟩
theorem lett_lt {n k : Nat} (hn : nok n) (hk : k < n * n * n) : k % n < n ∧ k / n % n < n ∧ k / (n * n) < n := by
  have h1 := hn.1
  refine ⟨Nat.mod_lt _ h1, Nat.mod_lt _ h1, Nat.div_lt_of_lt_mul ?_⟩
  rw [Nat.mul_comm]
  rw [Nat.mul_comm] at hk
  exact hk
theorem n27 {n : Nat} (hn : nok n) : n * n * n ≤ 27 := Nat.mul_le_mul (nn9 hn) hn.2
def stk (m : Nat) : Nat → Nat → Prop := fun q _ => q = m + 8
theorem hg_l {h s : Nat} {l : List Nat} (e : hg h (s :: l) = some 1) : (s < 3 ∧ h < 5 ∧ hg (h + 1) l = some 1) ∨ (s = 3 ∧ 2 ≤ h ∧ hg (h - 1) l = some 1) := by
  rw [hg] at e
  by_cases a : s < 3
  · rw [if_pos a] at e
    by_cases b : h < 5
    · rw [if_pos b] at e; exact Or.inl ⟨a, b, e⟩
    · rw [if_neg b] at e; cases e
  · rw [if_neg a] at e
    by_cases b : s = 3 ∧ 2 ≤ h
    · rw [if_pos b] at e; exact Or.inr ⟨b.1, b.2, e⟩
    · rw [if_neg b] at e; cases e
theorem M_comesOf_ok {m n c k p : Nat} {l : List Nat} {σ : St} {Q : Int32 → St → Prop} (hL : ML m σ) (hT : TB m n c σ) (hn : nok n) (hk : k < n * n * n) (hp : p + 16 ≤ 176) (hS : SideAt (s_i σ (m + 1)) p l) (ho : okE l) (kk : ∀ σ', chg (stk m) no σ σ' → Q (nI (evl n c k l)) σ') : P_M_comesOf m (nI n) (nI p) (nI k) σ Q := by
  have h1 := hn.1
  have h2 := hn.2
  have h9 := nn9 hn
  have h27 := n27 hn
  obtain ⟨hg0, hlen⟩ := ho
  obtain ⟨e1, e2, e3⟩ := lett_lt hn hk
  refine ⟨hL.s, fun K6 h6 => ?_⟩
  have key : ∀ (rest : List Nat) (j : Nat) (st : List Nat) (σ' : St), chg (stk m) no σ σ' → j + rest.length = l.length → (∀ i, i < rest.length → l.getD (j + i) 0 = rest.getD i 0) → hg st.length rest = some 1 → st.length ≤ 5 → (∀ v ∈ st, v < n) → StkAt (s_i σ' (m + 8)) st → run n c k st rest = run n c k [] l → K6 (nI n) (nI p) (nI k) (nI st.length) (nI (j + 1)) σ' := by
    intro rest
    induction rest with
    | nil =>
      intro j st σ' hc hj _ hh h5 hv hs hr
      have hL' := hL.g hc
      refine h6 _ _ _ _ _ _ (ar_mk (m + 1) 176 p hL'.r1 hL'.a1 rfl (by omega) (by decide) ?_)
      have es : s_i σ' (m + 1) p = nI l.length := (hc.i (by unfold stk; omega)).trans hS.1
      rw [es]
      simp at hj
      refine b_tt (nI_lt (by omega) (by omega)) (ar_mk (m + 8) 16 0 hL'.r8 hL'.a8 rfl (by decide) (by decide) ?_)
      have hh1 : st.length = 1 := by simpa [hg] using hh
      match st, hh1, hs, hr with
      | [v], _, hs, hr =>
        have e : evl n c k l = v := by unfold evl; rw [← hr]; rfl
        have e' : s_i σ' (m + 8) 0 = nI v := hs.1
        rw [e', ← e]
        exact kk σ' hc
    | cons s rest ih =>
      intro j st σ' hc hj hget hh h5 hv hs hr
      have hL' := hL.g hc
      simp at hj
      refine h6 _ _ _ _ _ _ (ar_mk (m + 1) 176 p hL'.r1 hL'.a1 rfl (by omega) (by decide) ?_)
      have es : s_i σ' (m + 1) p = nI l.length := (hc.i (by unfold stk; omega)).trans hS.1
      rw [es]
      refine b_ff (nI_nlt (by omega) (by omega)) (ar_mk (m + 1) 176 (p + (j + 1)) hL'.r1 hL'.a1 (by rw [nI_add]) (by omega) (by decide) ?_)
      have eg : l.getD j 0 = s := by simpa using hget 0 (by simp)
      have es2 : s_i σ' (m + 1) (p + (j + 1)) = nI s := by
        rw [hc.i (by unfold stk; omega), show p + (j + 1) = p + 1 + j by omega, hS.2 j (by omega), eg]
      rw [es2]
      have hT' := hT.g hc (fun _ => by unfold stk; omega)
      have hrest : ∀ i, i < rest.length → l.getD (j + 1 + i) 0 = rest.getD i 0 := fun i hi => by
        have := hget (i + 1) (by simp; omega)
        rw [show j + (i + 1) = j + 1 + i by omega] at this
        simpa using this
      -- a letter
      have push : ∀ v, v < n → s < 3 → stp n c k st s = v :: st → K6 (nI n) (nI p) (nI k) (nI st.length + nI 1) (nI (j + 1) + nI 1) (w_i σ' (m + 8) st.length (nI v)) := by
        intro v hvn hs3 hst
        rcases hg_l hh with ⟨q1, q2, q3⟩ | ⟨q1, q2, q3⟩
        · rw [nI_add, nI_add]
          refine ih (j + 1) (v :: st) _ (hc.wi rfl) (by omega) hrest q3 (by simp; omega) ?_ ?_ ?_
          · intro x hx
            rcases List.mem_cons.mp hx with rfl | hx
            · exact hvn
            · exact hv x hx
          · refine ⟨by rw [s_i_wi, if_pos ⟨rfl, rfl⟩], hs.keep (fun i hi => ?_)⟩
            rw [s_i_wi, if_neg (fun z => by omega)]
          · rw [← hr, run, hst]
        · omega
      rcases hg_l hh with ⟨q1, q2, q3⟩ | ⟨q1, q2, q3⟩
      · refine b_ff (fun z => ?_) ?_
        · have := (nI_eq (by omega) (by decide)).mp z
          omega
        · have hs3 : s = 0 ∨ s = 1 ∨ s = 2 := by omega
          have ln : st.length < 16 := by omega
          rcases hs3 with rfl | rfl | rfl
          · refine b_tt nI_0 ⟨nI_ne0 h1 (by omega), ar_mk (m + 8) 16 st.length hL'.r8 hL'.a8 rfl ln (by decide) ?_⟩
            rw [irem_nI (by omega) h1 (by omega)]
            exact push _ e1 (by decide) rfl
          · refine b_ff (by decide) (b_tt rfl ⟨nI_ne0 h1 (by omega), nI_ne0 h1 (by omega), ar_mk (m + 8) 16 st.length hL'.r8 hL'.a8 rfl ln (by decide) ?_⟩)
            have : k / n ≤ k := Nat.div_le_self _ _
            rw [nI_div (by omega) h1 (by omega), irem_nI (by omega) h1 (by omega)]
            exact push _ e2 (by decide) rfl
          · have hnn : 0 < n * n := Nat.mul_pos h1 h1
            refine b_ff (by decide) (b_ff (by decide) ⟨by rw [nI_mul]; exact nI_ne0 hnn (by omega), ar_mk (m + 8) 16 st.length hL'.r8 hL'.a8 rfl ln (by decide) ?_⟩)
            rw [nI_mul, nI_div (by omega) hnn (by omega)]
            exact push _ e3 (by decide) rfl
      · subst q1
        refine b_tt rfl ?_
        match st, q2, q3, h5, hv, hs, hr with
        | b :: a :: r, q2, q3, h5, hv, hs, hr =>
          simp only [List.length_cons] at h5 q3 ⊢
          have ha : a < n := hv a (by simp)
          have hb : b < n := hv b (by simp)
          have hd := nab ha hb
          have sa : s_i σ' (m + 8) r.length = nI a := hs.2.1
          have sb : s_i σ' (m + 8) (r.length + 1) = nI b := by simpa using hs.1
          have em1 : nI (r.length + 1 + 1) + (-1) = nI (r.length + 1) := nI_m1 (by omega)
          have em2 : nI (r.length + 1) - nI 1 = nI r.length := nI_sub (by omega)
          rw [em1, em2]
          refine ar_mk (m + 8) 16 r.length hL'.r8 hL'.a8 rfl (by omega) (by decide) (ar_mk (m + 8) 16 (r.length + 1) hL'.r8 hL'.a8 rfl (by omega) (by decide) ?_)
          refine ar_mk (m + 7) 9 (n * a + b) hL'.r7 hL'.a7 (by rw [sa, sb, nI_mul, nI_add]) (by omega) (by decide) (ar_mk (m + 8) 16 r.length hL'.r8 hL'.a8 rfl (by omega) (by decide) ?_)
          rw [hT' _ hd, nI_add]
          refine ih (j + 1) (dig n c (n * a + b) :: r) _ (hc.wi rfl) (by omega) hrest (by simpa using q3) (by simp; omega) ?_ ?_ ?_
          · intro x hx
            rcases List.mem_cons.mp hx with rfl | hx
            · exact dig_lt h1
            · exact hv x (by simp [hx])
          · refine ⟨by rw [s_i_wi, if_pos ⟨rfl, rfl⟩], hs.2.2.keep (fun i hi => ?_)⟩
            rw [s_i_wi, if_neg (fun z => by omega)]
          · rw [← hr]; rfl
  exact key l 0 [] σ chg.rf (by simp) (fun i hi => by simp) hg0 (by simp) (by simp) trivial rfl
