/-! The class: acts. -/
def xs (b : Nat) : Nat → Nat → Prop := fun q _ => q < b + 106 ∨ b + 121 ≤ q
/-- what a call that makes no cell keeps -/
def xk (b : Nat) (σ σ' : St) : Prop := cx (xs b) (xs b) σ σ' ∧ (∀ j, j < 30 → s_r σ' (b + 23 + 2 * j) 4 = s_r σ (b + 23 + 2 * j) 4) ∧ s_i σ' (b + 94) 3 = s_i σ (b + 94) 3
theorem xk.rf {b : Nat} {σ : St} : xk b σ σ := ⟨cx.rf, fun _ _ => rfl, rfl⟩
theorem xk.tr {b : Nat} {σ σ' σ'' : St} (h : xk b σ σ') (k : xk b σ' σ'') : xk b σ σ'' := ⟨h.1.tr k.1, fun j hj => (k.2.1 j hj).trans (h.2.1 j hj), k.2.2.trans h.2.2⟩
theorem chg.k {b : Nat} {SI SR : Nat → Nat → Prop} {σ σ' : St} (c : chg SI SR σ σ') (hI : ∀ q k, SI q k → (q < b + 106 ∨ b + 121 ≤ q) ∧ ¬ (q = b + 94 ∧ k = 3)) (hR : ∀ q k, SR q k → q < b + 106 ∧ ¬ (k = 4 ∧ b + 23 ≤ q ∧ q ≤ b + 82)) : xk b σ σ' :=
  ⟨c.x.up (fun q k z => (hI q k z).1) (fun q k z => Or.inl (hR q k z).1), fun j hj => c.r (fun z => (hR _ _ z).2 ⟨rfl, by omega, by omega⟩), c.i (fun z => (hI _ _ z).2 ⟨rfl, rfl⟩)⟩
theorem XI.L {b : Nat} {σ : St} {a : As} (h : XI b σ a) : XL b σ := h.1
theorem XI.N {b : Nat} {σ : St} {a : As} (h : XI b σ a) : b + 106 ≤ s_n σ := h.2.1
theorem XI.len {b : Nat} {σ : St} {a : As} (h : XI b σ a) : s_i σ (b + 1) 2 = nI a.1.2.2.length := by
  obtain ⟨-, -, sp, -, -, hS, -⟩ := h
  exact hS.1
theorem XI.n {b : Nat} {σ : St} {a : As} (h : XI b σ a) : s_i σ (b + 1) 3 = nI a.1.1 := by
  obtain ⟨-, -, sp, -, -, hS, -⟩ := h
  exact hS.2.1
theorem XI.c {b : Nat} {σ : St} {a : As} (h : XI b σ a) : s_i σ (b + 1) 4 = nI a.1.2.1 := by
  obtain ⟨-, -, sp, -, -, hS, -⟩ := h
  exact hS.2.2.1
theorem XI.on {b : Nat} {σ : St} {a : As} (h : XI b σ a) : ∀ i, i < a.1.2.2.length → s_i σ (b + 3) i = bI (lwg a.1.2.2 i).1 := by
  obtain ⟨-, -, sp, -, -, hS, -⟩ := h
  exact fun i hi => (hS.2.2.2 i hi).1
theorem XI.rec {b : Nat} {σ : St} {a : As} {Q : St → Prop} (h : XI b σ a) (ha : asok a) (k : ∀ σ', chg (rcI b) (rcR b) σ σ' → XI b σ' (act a a.1) → Q σ') : P_H_record (b + 4) (some (b + 1)) σ Q := by
  obtain ⟨hX, hN, sp, hSh, ⟨hW0, hW⟩, hS, hH, hSn, hT, ⟨hB1, hB2⟩, hP⟩ := h
  refine H_record_ok hX hN hW0 hW hS ha.1.2.1 hH ha.2.1.1 (fun σ' c hW' hH' => k σ' c ⟨hX.g c.x hN (fun q k z => rcR_X z), by rw [c.n]; exact hN, sp, hSh.g c.x hN (fun q k z => by unfold rcI; omega) (fun j hj => by unfold rcR; omega), ⟨hW0.g c.x (by omega) (fun k => by unfold rcR; omega), hW'⟩, hS.g c.x (by omega) (fun k _ _ => by unfold rcI; omega) (fun k => by unfold rcI; omega) (fun k => by unfold rcR; omega), hH', hSn.g c.x hN (fun q k z => by unfold rcI; omega) (fun k => by unfold rcR; omega), hT.g c.x hN (by unfold rcI; omega) (fun k => by unfold rcI; omega), ⟨hB1.g c.x (by omega) (by unfold rcI; omega) (fun k => by unfold rcI; omega) (fun k => by unfold rcI; omega), hB2.g c.x (by omega) (by unfold rcI; omega) (fun k => by unfold rcI; omega) (fun k => by unfold rcI; omega)⟩, hP.g c.x hN (by unfold rcI; omega) (fun q k z => by unfold rcI; omega)⟩)
theorem rec_k {b : Nat} {σ σ' : St} (c : chg (rcI b) (rcR b) σ σ') : xk b σ σ' := c.k (fun q k z => by unfold rcI at z; omega) (fun q k z => by unfold rcR at z; omega)
def nwI (b : Nat) : Nat → Nat → Prop := fun q _ => q = b + 1 ∨ q = b + 3
def nwR (b : Nat) : Nat → Nat → Prop := fun q _ => q = b + 2
def XC (b : Nat) (sp : Nat → List Nat) (σ : St) (a : As) : Prop := ShC b sp σ ∧ (WT b (b + 1) σ ∧ ∀ t, t < 5 → WT b (b + 6 + 3 * t) σ) ∧ StC b sp (b + 1) a.1 σ ∧ HiC b sp a.2.1 σ ∧ SnC b sp a.2.2.1 σ ∧ TxC b a.2.2.2 σ ∧ (BV (b + 83) σ ∧ BV (b + 89) σ) ∧ PwC b σ
theorem XC.now {b : Nat} {sp : Nat → List Nat} {σ σ' : St} {a : As} {w : Ws} (hX : XL b σ) (hN : b + 106 ≤ s_n σ) (h : XC b sp σ a) (c : chg (nwI b) (nwR b) σ σ') (hS' : StC b sp (b + 1) w σ') (hW' : WT b (b + 1) σ') : XI b σ' (w, a.2) := by
  obtain ⟨hSh, ⟨hW0, hW⟩, hS, hH, hSn, hT, ⟨hB1, hB2⟩, hP⟩ := h
  exact ⟨hX.g c.x hN (fun q k z => XR.mk (by unfold nwR at z; omega)), by rw [c.n]; exact hN, sp, hSh.g c.x hN (fun q k z => by unfold nwI; omega) (fun j hj => by unfold nwR; omega), ⟨hW', fun t ht => (hW t ht).g c.x (by omega) (fun k => by unfold nwR; omega)⟩, hS', hH.g c.x hN (fun q k z => by unfold nwI; omega) (fun q k z => by unfold nwR; omega), hSn.g c.x hN (fun q k z => by unfold nwI; omega) (fun k => by unfold nwR; omega), hT.g c.x hN (by unfold nwI; omega) (fun k => by unfold nwI; omega), ⟨hB1.g c.x (by omega) (by unfold nwI; omega) (fun k => by unfold nwI; omega) (fun k => by unfold nwI; omega), hB2.g c.x (by omega) (by unfold nwI; omega) (fun k => by unfold nwI; omega) (fun k => by unfold nwI; omega)⟩, hP.g c.x hN (by unfold nwI; omega) (fun q k z => by unfold nwI; omega)⟩
theorem XI.now {b : Nat} {σ σ' : St} {a : As} {w : Ws} (h : XI b σ a) (c : chg (nwI b) (nwR b) σ σ') (hS' : ∀ sp, StC b sp (b + 1) a.1 σ → StC b sp (b + 1) w σ') (hW' : WT b (b + 1) σ → WT b (b + 1) σ') : XI b σ' (w, a.2) := by
  obtain ⟨hX, hN, sp, hC⟩ := h
  exact XC.now hX hN hC c (hS' sp hC.2.2.1) (hW' hC.2.1.1)
theorem now_k {b : Nat} {σ σ' : St} (c : chg (nwI b) (nwR b) σ σ') : xk b σ σ' := c.k (fun q k z => by unfold nwI at z; omega) (fun q k z => by unfold nwR at z; omega)
theorem XI.setC {b n c : Nat} {σ σ' : St} {a : As} (h : XI b σ a) (k : chg (fun q k => q = b + 1 ∧ (k = 3 ∨ k = 4)) no σ σ') (e3 : s_i σ' (b + 1) 3 = nI n) (e4 : s_i σ' (b + 1) 4 = nI c) : XI b σ' ((n, c, a.1.2.2), a.2) := by
  refine h.now (k.mono (fun q k z => by unfold nwI; omega) (fun _ _ z => z.elim)) (fun sp hS => ⟨(k.i (by omega)).trans hS.1, e3, e4, fun i hi => ?_⟩) (fun hW i hi => ?_)
  · obtain ⟨g1, j, g2, g3, g4⟩ := hS.2.2.2 i hi
    exact ⟨(k.i (by omega)).trans g1, j, g2, (k.r (fun z => z)).trans g3, g4⟩
  · rw [k.r (fun z => z)]; exact hW i hi
theorem X_isThing_ok {b : Nat} {x : Int32} {a : As} {σ : St} {Q : Int32 → St → Prop} (h : XI b σ a) (ha : asok a) (k : Q (bI (isN a.1.1 x)) σ) : P_X_isThing b x σ Q := by
  have h2 := ha.1.1.1.2
  refine ⟨h.1.1.o, b_lt' (fun g => ?_) (fun g => ob_mk (b + 1) h.1.1.o0 h.1.now.s ?_)⟩
  · have : isN a.1.1 x = false := by
      simp at g
      simp [isN]; omega
    rw [this] at k; exact k
  · have hx : ¬ x < 0 := fun z => by
      have := Int32.lt_iff_toInt_lt.mp z
      omega
    obtain ⟨i, hi, rfl⟩ := nI_of hx
    rw [isN_nI hi] at k
    refine b_le a.1.1 i h.n rfl (by omega) hi (fun q => ?_) (fun q => ?_)
    · rw [decide_eq_false (by omega)] at k; exact k
    · rw [decide_eq_true q] at k; exact k
theorem X_changeTo_ok {b c : Nat} {a : As} {x : Int32} {σ : St} {Q : Int32 → St → Prop} (h : XI b σ a) (ha : asok a) (hx : x = nI c) (hc : c < 2 ^ 31) (k : ∀ σ', xk b σ σ' → XI b σ' (becm a c).2 → Q (becm a c).1 σ') : P_X_changeTo b x σ Q := by
  subst hx
  have hla := wc_le ha.1.1.1
  have q4 := ha.1.1.2
  refine ⟨h.1.1.o, ob_mk (b + 1) h.1.1.o0 h.1.now.s ?_⟩
  rw [h.c]
  refine b_eq c a.1.2.1 rfl rfl hc (by omega) (fun e => ?_) (fun e => nn_mk (b + 4) h.1.1.o1 ?_)
  · rw [becm, if_pos e] at k
    exact k σ xk.rf h
  · rw [becm, if_neg e] at k
    rw [h.1.1.o0]
    refine h.rec ha (fun σ1 c1 h1 => ob_mk (b + 1) h1.1.1.o0 h1.1.now.s ?_)
    have cw : chg (fun q k => q = b + 1 ∧ (k = 3 ∨ k = 4)) no σ1 (w_i σ1 (b + 1) 4 (nI c)) := chg.rf.wi ⟨rfl, Or.inr rfl⟩
    exact k _ ((rec_k c1).tr (now_k (cw.mono (fun q k z => by unfold nwI; omega) (fun _ _ z => z.elim)))) (h1.setC (n := a.1.1) cw (by rw [s_i_wi, if_neg (fun z => by omega)]; exact h1.n) (by rw [s_i_wi, if_pos ⟨rfl, rfl⟩]))
theorem X_take_ok {b : Nat} {a : As} {x y : Int32} {σ : St} {Q : Int32 → St → Prop} (h : XI b σ a) (ha : asok a) (k : ∀ σ', xk b σ σ' → XI b σ' (opTake a x y).2 → Q (opTake a x y).1 σ') : P_X_take b x y σ Q := by
  refine ⟨h.1.1.o, C_isCode_ok (b_b _ rfl (fun e => ?_) (fun e => ?_))⟩
  · have eo : opTake a x y = (-2, a) := by simp [opTake, e]
    rw [eo] at k
    exact k σ xk.rf h
  · obtain ⟨n, c, rfl, rfl, hw, t1, t2⟩ := isW_tn e
    have hl := wc_le hw.1
    have hwa := ha.1.1
    have hla := wc_le hwa.1
    have q1 := hw.1.2
    have q2 := hw.2
    have q3 := hwa.1.2
    have q4 := hwa.2
    have hact : ¬ (n = a.1.1 ∧ c = a.1.2.1) → ob 1 σ (s_r σ b 0) (fun q10 => nn (s_r σ b 1) (fun q11 => P_H_record q11 (s_r σ b 0) σ (fun σ12 => ob 1 σ12 (s_r σ12 b 0) (fun q13 => ob 1 (w_i σ12 q13 3 (nI n)) (s_r (w_i σ12 q13 3 (nI n)) b 0) (fun q14 => Q (s_i σ q10 4) (w_i (w_i σ12 q13 3 (nI n)) q14 4 (nI c))))))) := by
      intro hne
      have eo : opTake a (nI n) (nI c) = (nI a.1.2.1, act a (n, c, a.1.2.2)) := by simp only [opTake, e, t1, t2, if_true, if_neg hne]
      rw [eo] at k
      refine ob_mk (b + 1) h.1.1.o0 h.1.now.s (nn_mk (b + 4) h.1.1.o1 ?_)
      rw [h.1.1.o0, h.c]
      refine h.rec ha (fun σ1 c1 h1 => ob_mk (b + 1) h1.1.1.o0 h1.1.now.s (ob_mk (b + 1) h1.1.1.o0 h1.1.now.s ?_))
      have cw : chg (fun q k => q = b + 1 ∧ (k = 3 ∨ k = 4)) no σ1 (w_i (w_i σ1 (b + 1) 3 (nI n)) (b + 1) 4 (nI c)) := (chg.rf.wi ⟨rfl, Or.inl rfl⟩).wi ⟨rfl, Or.inr rfl⟩
      exact k _ ((rec_k c1).tr (now_k (cw.mono (fun q k z => by unfold nwI; omega) (fun _ _ z => z.elim)))) (h1.setC (n := n) cw (by rw [s_i_wi, if_neg (fun z => by omega), s_i_wi, if_pos ⟨rfl, rfl⟩]) (by rw [s_i_wi, if_pos ⟨rfl, rfl⟩]))
    refine ob_mk (b + 1) h.1.1.o0 h.1.now.s ?_
    rw [h.n]
    refine b_eq n a.1.1 rfl rfl (by omega) (by omega) (fun e1 => ?_) (fun e1 => ?_)
    · refine ob_mk (b + 1) h.1.1.o0 h.1.now.s ?_
      rw [h.c]
      refine b_eq c a.1.2.1 rfl rfl (by omega) (by omega) (fun e2 => ?_) (fun e2 => ?_)
      · have eo : opTake a (nI n) (nI c) = (-5, a) := by simp only [opTake, e, t1, t2, if_true, if_pos (⟨e1, e2⟩ : n = a.1.1 ∧ c = a.1.2.1)]
        rw [eo] at k
        exact k σ xk.rf h
      · exact hact (fun z => e2 z.2)
    · exact hact (fun z => e1 z.1)
theorem X_put_ok {b : Nat} {a : As} {x y v : Int32} {σ : St} {Q : Int32 → St → Prop} (h : XI b σ a) (ha : asok a) (k : ∀ σ', xk b σ σ' → XI b σ' (opPut a x y v).2 → Q (opPut a x y v).1 σ') : P_X_put b x y v σ Q := by
  have hwa := ha.1.1
  have hla := wc_le hwa.1
  have q1 := hwa.1.1
  have q3 := hwa.1.2
  have q4 := hwa.2
  have h9 := nn9 hwa.1
  refine ⟨h.1.1.o, X_isThing_ok h ha (b_b _ rfl (fun e => ?_) (fun e => X_isThing_ok h ha (b_b _ rfl (fun e2 => ?_) (fun e2 => X_isThing_ok h ha (b_b _ rfl (fun e3 => ?_) (fun e3 => ?_))))))⟩
  · have eo : opPut a x y v = (-1, a) := by simp [opPut, e]
    rw [eo] at k; exact k σ xk.rf h
  · have eo : opPut a x y v = (-1, a) := by simp [opPut, e2]
    rw [eo] at k; exact k σ xk.rf h
  · have eo : opPut a x y v = (-1, a) := by simp [opPut, e3]
    rw [eo] at k; exact k σ xk.rf h
  obtain ⟨i, hi, rfl⟩ := isN_ex e (by omega)
  obtain ⟨j, hj, rfl⟩ := isN_ex e2 (by omega)
  obtain ⟨t, ht, rfl⟩ := isN_ex e3 (by omega)
  have hd := dig_lt (c := a.1.2.1) (k := a.1.1 * i + j) q1
  have hab := nab hi hj
  have eo : opPut a (nI i) (nI j) (nI t) = becm a (cput a.1.1 a.1.2.1 (a.1.1 * i + j) t) := by
    simp [opPut, e, e2, e3, tn_nI (show i < 2 ^ 31 by omega), tn_nI (show j < 2 ^ 31 by omega), tn_nI (show t < 2 ^ 31 by omega)]
  rw [eo] at k
  refine ob_mk (b + 1) h.1.1.o0 h.1.now.s (ob_mk (b + 1) h.1.1.o0 h.1.now.s ?_)
  rw [h.n, h.c]
  refine C_product_ok hwa hi hj (ob_mk (b + 1) h.1.1.o0 h.1.now.s (ob_mk (b + 1) h.1.1.o0 h.1.now.s (ob_mk (b + 1) h.1.1.o0 h.1.now.s ?_)))
  rw [h.n, h.c, nI_mul, nI_add]
  refine C_power_ok hwa.1 (by omega) ?_
  have hlt := cput_lt q1 hwa.2 hab ht
  exact X_changeTo_ok h ha (cput_nI q1 rfl rfl) (by omega) k
theorem X_rename_ok {b : Nat} {a : As} {x y : Int32} {σ : St} {Q : Int32 → St → Prop} (h : XI b σ a) (ha : asok a) (k : ∀ σ', xk b σ σ' → XI b σ' (opRename a x y).2 → Q (opRename a x y).1 σ') : P_X_rename b x y σ Q := by
  have hwa := ha.1.1
  have hla := wc_le hwa.1
  have q3 := hwa.1.2
  refine ⟨h.1.1.o, X_isThing_ok h ha (b_b _ rfl (fun e => ?_) (fun e => X_isThing_ok h ha (b_b _ rfl (fun e2 => ?_) (fun e2 => ?_))))⟩
  · have eo : opRename a x y = (-1, a) := by simp [opRename, e]
    rw [eo] at k; exact k σ xk.rf h
  · have eo : opRename a x y = (-1, a) := by simp [opRename, e2]
    rw [eo] at k; exact k σ xk.rf h
  obtain ⟨i, hi, rfl⟩ := isN_ex e (by omega)
  obtain ⟨j, hj, rfl⟩ := isN_ex e2 (by omega)
  have t1 := tn_nI (show i < 2 ^ 31 by omega)
  have t2 := tn_nI (show j < 2 ^ 31 by omega)
  refine b_eq i j rfl rfl (by omega) (by omega) (fun e3 => ?_) (fun e3 => ?_)
  · have eo : opRename a (nI i) (nI j) = (-2, a) := by
      simp only [opRename, e, e2, t1, t2, Bool.and_self, if_true, if_pos e3]
    rw [eo] at k; exact k σ xk.rf h
  · have eo : opRename a (nI i) (nI j) = becm a (rcode a.1.1 a.1.2.1 (i + j)) := by
      simp only [opRename, e, e2, t1, t2, Bool.and_self, if_true, if_neg e3]
    rw [eo] at k
    have hij := exch_ways hwa.1 hi hj e3
    refine ob_mk (b + 1) h.1.1.o0 h.1.now.s (ob_mk (b + 1) h.1.1.o0 h.1.now.s ?_)
    unfold P_C_exchange
    rw [h.n, h.c, nI_add]
    have hr := rcode_lt (c := a.1.2.1) hwa.1 hij
    exact C_renamed_ok hwa hij (X_changeTo_ok h ha rfl (by omega) k)
theorem X_mirror_ok {b : Nat} {a : As} {σ : St} {Q : Int32 → St → Prop} (h : XI b σ a) (ha : asok a) (k : ∀ σ', xk b σ σ' → XI b σ' (opMirror a).2 → Q (opMirror a).1 σ') : P_X_mirror b σ Q := by
  have hwa := ha.1.1
  have hla := wc_le hwa.1
  have hm := mir_lt (c := a.1.2.1) hwa.1
  refine ⟨h.1.1.o, ob_mk (b + 1) h.1.1.o0 h.1.now.s (ob_mk (b + 1) h.1.1.o0 h.1.now.s ?_)⟩
  rw [h.n, h.c]
  exact C_mirrored_ok hwa (X_changeTo_ok h ha rfl (by omega) k)
theorem X_removeLaw_ok {b : Nat} {a : As} {x : Int32} {σ : St} {Q : Int32 → St → Prop} (h : XI b σ a) (ha : asok a) (k : ∀ σ', xk b σ σ' → XI b σ' (opRemove a x).2 → Q (opRemove a x).1 σ') : P_X_removeLaw b x σ Q := by
  have h5 := ha.1.2.1
  refine ⟨h.1.1.o, nn_mk (b + 1) h.1.1.o0 (S_hasLaw_ok h.1.now h.len h5 (b_b _ rfl (fun e => ?_) (fun e => ?_)))⟩
  · have eo : opRemove a x = (-1, a) := by simp [opRemove, e]
    rw [eo] at k; exact k σ xk.rf h
  obtain ⟨i, hi, rfl⟩ := isN_ex e (by omega)
  have t1 := tn_nI (show i < 2 ^ 31 by omega)
  have eo : opRemove a (nI i) = (nI (a.1.2.2.length - 1), act a (a.1.1, a.1.2.1, a.1.2.2.eraseIdx i)) := by simp only [opRemove, e, t1, if_true]
  rw [eo] at k
  refine nn_mk (b + 4) h.1.1.o1 ?_
  rw [h.1.1.o0]
  refine h.rec ha (fun σ1 c1 h1 => nn_mk (b + 1) h1.1.1.o0 ?_)
  obtain ⟨hX1, hN1, sp, hC⟩ := h1
  refine S_remove_ok (w := a.1) hX1 hX1.now hC.2.1.1 hC.2.2.1 h5 hi (fun σ2 c2 hW2 hS2 => ?_)
  have c2' : chg (nwI b) (nwR b) σ1 σ2 := c2.mono (fun q k z => by unfold adI at z; unfold nwI; omega) (fun q k z => by unfold cpR at z; unfold nwR; omega)
  have h2 : XI b σ2 (act a (a.1.1, a.1.2.1, a.1.2.2.eraseIdx i)) := XC.now hX1 hN1 hC c2' hS2 hW2
  refine ob_mk (b + 1) h2.1.1.o0 h2.1.now.s ?_
  rw [h2.len]
  have el : (act a (a.1.1, a.1.2.1, a.1.2.2.eraseIdx i)).1.2.2.length = a.1.2.2.length - 1 := by
    show (a.1.2.2.eraseIdx i).length = _
    rw [List.length_eraseIdx, if_pos hi]
  rw [el]
  exact k σ2 ((rec_k c1).tr (now_k c2')) h2

theorem X_turnLaw_ok {b : Nat} {a : As} {x z : Int32} {on : Bool} {σ : St} {Q : Int32 → St → Prop} (h : XI b σ a) (ha : asok a) (hz : z = bI on) (k : ∀ σ', xk b σ σ' → XI b σ' (opTurn a x on).2 → Q (opTurn a x on).1 σ') : P_X_turnLaw b x z σ Q := by
  subst hz
  have h5 := ha.1.2.1
  refine ⟨h.1.1.o, nn_mk (b + 1) h.1.1.o0 (S_hasLaw_ok h.1.now h.len h5 (b_b _ rfl (fun e => ?_) (fun e => ?_)))⟩
  · have eo : opTurn a x on = (-1, a) := by simp [opTurn, e]
    rw [eo] at k; exact k σ xk.rf h
  obtain ⟨i, hi, rfl⟩ := isN_ex e (by omega)
  have t1 := tn_nI (show i < 2 ^ 31 by omega)
  refine ob_mk (b + 1) h.1.1.o0 h.1.now.s (ar_mk (b + 3) 5 i h.1.now.r2 h.1.now.a2 rfl (by omega) (by decide) ?_)
  rw [h.on i hi]
  have bb : ∀ u v : Bool, bI u = bI v ↔ u = v := by decide
  refine b_or (fun e2 => ?_) (fun e2 => ?_)
  · have e3 := (bb _ _).mp e2
    have eo : opTurn a (nI i) on = (-5, a) := by simp only [opTurn, e, t1, if_true, if_pos e3]
    rw [eo] at k; exact k σ xk.rf h
  have e3 : ¬ (lwg a.1.2.2 i).1 = on := fun z => e2 ((bb _ _).mpr z)
  obtain ⟨ls, els⟩ : ∃ ls, ls = a.1.2.2.set i (on, (lwg a.1.2.2 i).2) := ⟨_, rfl⟩
  have eo : opTurn a (nI i) on = (nI (lawsOn ls), act a (a.1.1, a.1.2.1, ls)) := by simp only [opTurn, e, t1, if_true, if_neg e3, ← els]
  rw [eo] at k
  refine nn_mk (b + 4) h.1.1.o1 ?_
  rw [h.1.1.o0]
  refine h.rec ha (fun σ1 c1 h1 => ob_mk (b + 1) h1.1.1.o0 h1.1.now.s (ar_mk (b + 3) 5 i h1.1.now.r2 h1.1.now.a2 rfl (by omega) (by decide) ?_))
  rw [nar_b]
  have cw : chg (nwI b) (nwR b) σ1 (w_i σ1 (b + 3) i (bI on)) := chg.rf.wi (Or.inr rfl)
  have ell : ls.length = a.1.2.2.length := by rw [els, List.length_set]
  have h2 : XI b (w_i σ1 (b + 3) i (bI on)) (act a (a.1.1, a.1.2.1, ls)) := by
    refine h1.now (w := (a.1.1, a.1.2.1, ls)) cw (fun sp hS => ⟨?_, ?_, ?_, fun j hj => ?_⟩) (fun hW j hj => ?_)
    · rw [s_i_wi, if_neg (fun z => by omega)]
      show _ = nI ls.length
      rw [ell]; exact hS.1
    · rw [s_i_wi, if_neg (fun z => by omega)]; exact hS.2.1
    · rw [s_i_wi, if_neg (fun z => by omega)]; exact hS.2.2.1
    · have hj' : j < a.1.2.2.length := by
        have : j < ls.length := hj
        omega
      obtain ⟨g1, j', g2, g3, g4⟩ := hS.2.2.2 j hj'
      show s_i _ (b + 3) j = bI (lwg ls j).1 ∧ ∃ j', j' < 30 ∧ _ ∧ sp j' = (lwg ls j).2.1 ++ (lwg ls j).2.2
      rw [els, lwg_set hi, s_i_wi]
      by_cases ej : j = i
      · subst ej
        rw [if_pos rfl, if_pos ⟨rfl, rfl⟩]
        exact ⟨rfl, j', g2, g3, g4⟩
      · rw [if_neg ej, if_neg (fun z => ej z.2)]
        exact ⟨g1, j', g2, g3, g4⟩
    · exact hW j hj
  refine nn_mk (b + 1) h2.1.1.o0 (S_onCount_ok (ls := ls) h2.1.now h2.len (by omega) (fun j hj => h2.on j hj) ?_)
  exact k _ ((rec_k c1).tr (now_k cw)) h2
theorem chr_nI (x : Int32) : ∃ c, c < 65536 ∧ chr x = nI c := by
  refine ⟨x.toUInt32.toNat % 65536, Nat.mod_lt _ (by decide), ?_⟩
  apply i32_inj
  apply BitVec.eq_of_toNat_eq
  rw [nI_bv, BitVec.toNat_ofNat]
  have e : (chr x).toBitVec.toNat = (x.toUInt32 % 65536).toNat := rfl
  rw [e, UInt32.toNat_mod, Nat.mod_eq_of_lt (a := x.toUInt32.toNat % 65536)]
  · rfl
  · have := Nat.mod_lt x.toUInt32.toNat (show 65536 > 0 by decide)
    omega
theorem nar_c {c : Nat} (h : c < 65536) : vp_nar .char (nI c) = nI c := by
  rw [vp_nar_char]
  apply i32_inj
  apply BitVec.eq_of_toNat_eq
  have e2 : (nI c).toUInt32.toNat = c := by
    show (nI c).toBitVec.toNat = c
    rw [nI_bv, BitVec.toNat_ofNat, Nat.mod_eq_of_lt (by omega)]
  have e1 : ((nI c).toUInt32.toUInt16.toUInt32.toInt32).toBitVec.toNat = (nI c).toUInt32.toNat % 65536 := by
    show ((nI c).toUInt32.toUInt16.toUInt32).toNat = _
    rw [UInt16.toNat_toUInt32, UInt32.toNat_toUInt16]
  rw [e1, e2, nI_bv, BitVec.toNat_ofNat, Nat.mod_eq_of_lt h, Nat.mod_eq_of_lt (by omega)]
def txI (b : Nat) : Nat → Nat → Prop := fun q k => (q = b ∧ k = 7) ∨ q = b + 105
theorem XI.text {b : Nat} {σ σ' : St} {a : As} {t : List Nat} (h : XI b σ a) (c : chg (txI b) no σ σ') (hT' : TxC b t σ') : XI b σ' (a.1, a.2.1, a.2.2.1, t) := by
  obtain ⟨hX, hN, sp, hSh, ⟨hW0, hW⟩, hS, hH, hSn, hT, ⟨hB1, hB2⟩, hP⟩ := h
  exact ⟨hX.g c.x hN (fun q k z => z.elim), by rw [c.n]; exact hN, sp, hSh.g c.x hN (fun q k z => by unfold txI; omega) (fun j hj z => z), ⟨hW0.g c.x (by omega) (fun k z => z), fun t ht => (hW t ht).g c.x (by omega) (fun k z => z)⟩, hS.g c.x (by omega) (fun k _ _ => by unfold txI; omega) (fun k => by unfold txI; omega) (fun k z => z), hH.g c.x hN (fun q k z => by unfold txI; omega) (fun q k z z2 => z2), hSn.g c.x hN (fun q k z => by unfold txI; omega) (fun k z => z), hT', ⟨hB1.g c.x (by omega) (by unfold txI; omega) (fun k => by unfold txI; omega) (fun k => by unfold txI; omega), hB2.g c.x (by omega) (by unfold txI; omega) (fun k => by unfold txI; omega) (fun k => by unfold txI; omega)⟩, hP.g c.x hN (by unfold txI; omega) (fun q k z => by unfold txI; omega)⟩
theorem XI.t {b : Nat} {σ : St} {a : As} (h : XI b σ a) : TxC b a.2.2.2 σ := by
  obtain ⟨-, -, sp, -, -, -, -, -, hT, -⟩ := h
  exact hT
theorem X_type_ok {b ch : Nat} {a : As} {σ : St} {Q : Int32 → St → Prop} (h : XI b σ a) (ha : asok a) (hch : ch < 65536) (k : ∀ σ', xk b σ σ' → XI b σ' (opType a ch).2 → Q (opType a ch).1 σ') : P_X_type b (nI ch) σ Q := by
  have h60 := ha.2.2.2.1
  have hT := h.t
  refine ⟨h.1.1.o, b_lt a.2.2.2.length 60 hT.1 rfl (by omega) (by decide) (fun e => ?_) (fun e => ?_)⟩
  · have eo : opType a ch = (nI (a.2.2.2.length + 1), (a.1, a.2.1, a.2.2.1, a.2.2.2 ++ [ch])) := by simp only [opType, if_pos e]
    rw [eo] at k
    refine ar_mk (b + 105) 60 a.2.2.2.length h.1.1.o6 h.1.1.tx hT.1 e (by decide) ?_
    rw [nar_c hch]
    have e7 : s_i (w_i σ (b + 105) a.2.2.2.length (nI ch)) b 7 = nI a.2.2.2.length := by rw [s_i_wi, if_neg (fun z => by omega)]; exact hT.1
    rw [e7, nI_add]
    have cw : chg (txI b) no σ (w_i (w_i σ (b + 105) a.2.2.2.length (nI ch)) b 7 (nI (a.2.2.2.length + 1))) := (chg.rf.wi (Or.inr rfl)).wi (Or.inl ⟨rfl, rfl⟩)
    rw [show s_i (w_i (w_i σ (b + 105) a.2.2.2.length (nI ch)) b 7 (nI (a.2.2.2.length + 1))) b 7 = nI (a.2.2.2.length + 1) by rw [s_i_wi, if_pos ⟨rfl, rfl⟩]]
    refine k _ (cw.k (fun q k z => by unfold txI at z; omega) (fun q k z => z.elim)) (h.text cw ⟨?_, fun j hj => ?_⟩)
    · rw [s_i_wi, if_pos ⟨rfl, rfl⟩, List.length_append]; rfl
    · rw [List.length_append, List.length_singleton] at hj
      rw [s_i_wi, if_neg (fun z => by omega), s_i_wi]
      by_cases ej : j = a.2.2.2.length
      · rw [if_pos ⟨rfl, ej⟩, ej]
        simp [List.getD_eq_getElem?_getD]
      · rw [if_neg (fun z => ej z.2), hT.2 j (by omega)]
        simp [List.getD_eq_getElem?_getD, List.getElem?_append_left (show j < a.2.2.2.length by omega)]
  · have eo : opType a ch = (-3, a) := by simp only [opType, if_neg (show ¬ a.2.2.2.length < 60 by omega)]
    rw [eo] at k; exact k σ xk.rf h
theorem X_clearText_ok {b : Nat} {a : As} {σ : St} {Q : Int32 → St → Prop} (h : XI b σ a) (k : ∀ σ', xk b σ σ' → XI b σ' (opClear a).2 → Q (opClear a).1 σ') : P_X_clearText b σ Q := by
  have hT := h.t
  refine ⟨h.1.1.o, ?_⟩
  rw [hT.1]
  have cw : chg (txI b) no σ (w_i σ b 7 (nI 0)) := chg.rf.wi (Or.inl ⟨rfl, rfl⟩)
  exact k _ (cw.k (fun q k z => by unfold txI at z; omega) (fun q k z => z.elim)) (h.text cw ⟨by rw [s_i_wi, if_pos ⟨rfl, rfl⟩]; rfl, fun j hj => absurd hj (Nat.not_lt_zero j)⟩)
theorem X_undo_ok {b : Nat} {a : As} {σ : St} {Q : Int32 → St → Prop} (h : XI b σ a) (ha : asok a) (k : ∀ σ', xk b σ σ' → XI b σ' (opUndo a).2 → Q (opUndo a).1 σ') : P_X_undo b σ Q := by
  have hl := ha.2.1.1
  have hX := h.1
  have hN := h.2.1
  have h5 : ∀ w ∈ a.2.1, w.2.2.length ≤ 5 := fun w hw => (ha.2.1.2 w hw).2.1
  refine ⟨h.1.1.o, nn_mk (b + 4) h.1.1.o1 ?_⟩
  rw [h.1.1.o0]
  have hc := h
  obtain ⟨-, -, sp, hSh, ⟨hW0, hW⟩, hS, hH, hSn, hT, ⟨hB1, hB2⟩, hP⟩ := hc
  refine H_goBack_ok hX hN hW hH hl h5 (fun e => ?_) (fun σ2 e c hW2 hS2 hH2 => ?_)
  · have eo : opUndo a = (-5, a) := by simp [opUndo, e]
    rw [eo] at k
    exact b_tt rfl (k σ xk.rf h)
  · have eg : a.2.1.getD (a.2.1.length - 1) a.1 = a.2.1.getD (a.2.1.length - 1) wz := by
      rw [List.getD_eq_getElem?_getD, List.getD_eq_getElem?_getD, List.getElem?_eq_getElem (show a.2.1.length - 1 < a.2.1.length by omega)]
      rfl
    have eo : opUndo a = (nI (a.2.1.length - 1), (a.2.1.getD (a.2.1.length - 1) wz, a.2.1.take (a.2.1.length - 1), a.2.2.1, a.2.2.2)) := by
      simp only [opUndo, if_neg e, eg]
    rw [eo] at k
    have h2 : XI b σ2 (a.2.1.getD (a.2.1.length - 1) wz, a.2.1.take (a.2.1.length - 1), a.2.2.1, a.2.2.2) :=
      ⟨hX.g c.x hN (fun q k z => XR.mk (by omega)), by rw [c.n]; exact hN, sp, hSh.g c.x hN (fun q k z => by unfold gbI; omega) (fun j hj => by omega), ⟨hW2, fun t ht => (hW t ht).g c.x (by omega) (fun k => by omega)⟩, hS2, hH2, hSn.g c.x hN (fun q k z => by unfold gbI; omega) (fun k => by omega), hT.g c.x hN (by unfold gbI; omega) (fun k => by unfold gbI; omega), ⟨hB1.g c.x (by omega) (by unfold gbI; omega) (fun k => by unfold gbI; omega) (fun k => by unfold gbI; omega), hB2.g c.x (by omega) (by unfold gbI; omega) (fun k => by unfold gbI; omega) (fun k => by unfold gbI; omega)⟩, hP.g c.x hN (by unfold gbI; omega) (fun q k z => by unfold gbI; omega)⟩
    refine b_ff (by decide) (ob_mk (b + 4) h2.1.1.o1 h2.1.1.h ?_)
    rw [hH2.1, List.length_take, Nat.min_eq_left (by omega)]
    exact k σ2 (c.k (fun q k z => by unfold gbI at z; omega) (fun q k z => by omega)) h2
theorem X_keep_ok {b : Nat} {a : As} {σ : St} {Q : Int32 → St → Prop} (h : XI b σ a) (ha : asok a) (k : ∀ σ', xk b σ σ' → XI b σ' (opKeep a).2 → Q (opKeep a).1 σ') : P_X_keep b σ Q := by
  have hX := h.1
  have hN := h.2.1
  refine ⟨h.1.1.o, nn_mk (b + 4) h.1.1.o1 ?_⟩
  rw [h.1.1.o0]
  obtain ⟨-, -, sp, hSh, ⟨hW0, hW⟩, hS, hH, hSn, hT, ⟨hB1, hB2⟩, hP⟩ := h
  refine H_takeSnapshot_ok hX hN hW0 hS ha.1.2.1 (fun σ2 c hW2 hS2 => ?_)
  have h2 : XI b σ2 (opKeep a).2 :=
    ⟨hX.g c.x hN (fun q k z => XR.mk (by omega)), by rw [c.n]; exact hN, sp, hSh.g c.x hN (fun q k z => by unfold snI; omega) (fun j hj => by omega), ⟨hW0.g c.x (by omega) (fun k => by omega), fun t ht => by
      by_cases e : t = 4
      · subst e; exact hW2
      · exact (hW t ht).g c.x (by omega) (fun k => by omega)⟩, hS.g c.x (by omega) (fun k _ _ => by unfold snI; omega) (fun k => by unfold snI; omega) (fun k => by omega), hH.g c.x hN (fun q k z => by unfold snI; omega) (fun q k z => by omega), hS2, hT.g c.x hN (by unfold snI; omega) (fun k => by unfold snI; omega), ⟨hB1.g c.x (by omega) (by unfold snI; omega) (fun k => by unfold snI; omega) (fun k => by unfold snI; omega), hB2.g c.x (by omega) (by unfold snI; omega) (fun k => by unfold snI; omega) (fun k => by unfold snI; omega)⟩, hP.g c.x hN (by unfold snI; omega) (fun q k z => by unfold snI; omega)⟩
  refine ob_mk (b + 1) h2.1.1.o0 h2.1.now.s ?_
  rw [h2.len]
  exact k σ2 (c.k (fun q k z => by unfold snI at z; omega) (fun q k z => by omega)) h2
theorem X_restore_ok {b : Nat} {a : As} {σ : St} {Q : Int32 → St → Prop} (h : XI b σ a) (ha : asok a) (k : ∀ σ', xk b σ σ' → XI b σ' (opRestore a).2 → Q (opRestore a).1 σ') : P_X_restore b σ Q := by
  refine ⟨h.1.1.o, ob_mk (b + 4) h.1.1.o1 h.1.1.h ?_⟩
  have hsn : ∃ sp, SnC b sp a.2.2.1 σ := by
    obtain ⟨-, -, sp, -, -, -, -, hSn, -⟩ := h
    exact ⟨sp, hSn⟩
  obtain ⟨sp0, hsn⟩ := hsn
  cases es : a.2.2.1 with
  | none =>
    rw [es] at hsn
    have eo : opRestore a = (-5, a) := by simp [opRestore, es]
    rw [eo] at k
    have e3 : s_i σ (b + 4) 3 = nI 0 := hsn
    rw [e3]
    exact b_tt rfl (k σ xk.rf h)
  | some w =>
    rw [es] at hsn
    have hw := ha.2.2.1 w es
    have eo : opRestore a = (nI w.2.2.length, act a w) := by simp [opRestore, es]
    rw [eo] at k
    rw [hsn.1]
    refine b_ff (by decide) (nn_mk (b + 4) h.1.1.o1 ?_)
    rw [h.1.1.o0]
    refine h.rec ha (fun σ1 c1 h1 => nn_mk (b + 4) h1.1.1.o1 ?_)
    rw [h1.1.1.o0]
    obtain ⟨hX1, hN1, sp, hC⟩ := h1
    have hSn1 : SnC b sp (some w) σ1 := by
      have := hC.2.2.2.2.1
      have e : (act a a.1).2.2.1 = some w := es
      rw [e] at this; exact this
    refine H_bringSnapshot_ok hX1 hN1 (hC.2.1.2 4 (by decide)) hSn1 hw.2.1 (fun σ2 c2 hW2 hS2 => ?_)
    have c2' : chg (nwI b) (nwR b) σ1 σ2 := c2.mono (fun q k z => by unfold cpI at z; unfold nwI; omega) (fun q k z => by unfold cpR at z; unfold nwR; omega)
    have h2 : XI b σ2 (act a w) := XC.now hX1 hN1 hC c2' hS2 hW2
    refine ob_mk (b + 1) h2.1.1.o0 h2.1.now.s ?_
    rw [h2.len]
    exact k σ2 ((rec_k c1).tr (now_k c2')) h2
theorem X_of_ok {b : Nat} {a : As} {x y : Int32} {σ : St} {Q : Int32 → St → Prop} (h : XI b σ a) (ha : asok a) (k : Q (qOf a x y) σ) : P_X_of b x y σ Q := by
  have hwa := ha.1.1
  have q3 := hwa.1.2
  refine ⟨h.1.1.o, X_isThing_ok h ha (b_b _ rfl (fun e => ?_) (fun e => X_isThing_ok h ha (b_b _ rfl (fun e2 => ?_) (fun e2 => ?_))))⟩
  · have eo : qOf a x y = (-1) := by simp [qOf, e]
    rw [eo] at k; exact k
  · have eo : qOf a x y = (-1) := by simp [qOf, e2]
    rw [eo] at k; exact k
  · obtain ⟨i, hi, rfl⟩ := isN_ex e (by omega)
    obtain ⟨j, hj, rfl⟩ := isN_ex e2 (by omega)
    refine ob_mk (b + 1) h.1.1.o0 h.1.now.s (ob_mk (b + 1) h.1.1.o0 h.1.now.s ?_)
    rw [h.n, h.c]
    refine C_product_ok hwa hi hj ?_
    have eo : qOf a (nI i) (nI j) = nI (dig a.1.1 a.1.2.1 (a.1.1 * i + j)) := by
      simp [qOf, e, e2, tn_nI (show i < 2 ^ 31 by omega), tn_nI (show j < 2 ^ 31 by omega)]
    rw [eo] at k; exact k
