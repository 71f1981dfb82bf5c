set_option maxHeartbeats 4000000 in
set_option maxRecDepth 100000 in
theorem c_S_init (l : Launch) (D : va_G) (B : Nat) (b : Nat) (σ : St) (mc : Nat) (ms : Nat) (Q : St → Prop) (h : P_S_init b σ mc ms Q) : zM l y_S_init b_S_init 1 none (rm_S_init mc ms) D B [.ref b] σ (zQv Q) := by
  refine zM.ofW (own := "LawWorlds$State") (by decide +kernel) rfl (Nat.le_of_ble_eq_true rfl) ?_
  intro p e s m args below meth c ls hx hb hml hr hlocks hname hC hwk hw hS hl
  obtain ⟨σ0, eσ⟩ : ∃ z, z = σ := ⟨_, rfl⟩
  have hg : gr σ0 σ := by rw [eσ]; exact gr.rf
  have hl : lv_has ls 1 [(0, va_rf (some b))] := hl
  have ha1 : 0 ≤ mc := Nat.zero_le _
  have ha2 : 0 ≤ ms := Nat.zero_le _
  obtain ⟨hsb, hB⟩ := h
  have hsb0 : s_s σ0 b = some (.inl 1) := by rw [eσ]; exact hsb
  rw [← eσ]
  skip
  refine zr_aload_n (o := some b) hx hb d_S_init_0 rfl (lv_at hl 0 rfl) ?_
  refine W.objInit hx hb hC.1 (hC.2.1 _ ml_S_3) (hC.2.1 _ k_oi) (hC.2.1 _ k_oc) rfl (by rw [hml]; exact hl.1) rfl d_S_init_1 (Nat.le_of_ble_eq_true rfl) (Nat.le_of_ble_eq_true rfl) ?_
  refine W.eq (g2 := F0 m 4 ls []) rfl ?_
  refine zr_aload_n (o := some b) hx hb d_S_init_4 rfl (lv_at hl 0 rfl) ?_
  refine lv_iconst (v := nI 5) hx hb d_S_init_5 (by decide) ?_
  obtain ⟨hc1, hc2, hB⟩ := hB
  obtain ⟨q1, eqq1⟩ : ∃ z, z = s_n σ := ⟨_, rfl⟩
  obtain ⟨σ2, eσ2⟩ : ∃ z, z = w_new σ (.inr (5, 5)) := ⟨_, rfl⟩
  have hB := hB q1 σ2 eqq1 eσ2
  have hgn := hw.gnew (.inr (5, 5))
  refine zr_newq (t := 5) (N := 5) hx hb hC hwk.1 hw hS kl_S_9 hwk.2.2.2.1 rfl rfl (Nat.le_of_ble_eq_true rfl) hc1 hc2 d_S_init_6 (fun H hw hS => ?_)
  rw [← eσ2] at hw hgn
  rw [← eqq1]
  have hg := hg.tr hgn
  have hsb := hgn _ _ hsb
  have ha1 := hc1
  have ha2 := hc2
  refine zr_putRF hx hb hC hname hw hS rfl hsb fl_S_11 rfl rfl (Or.inr ⟨_, rfl⟩) d_S_init_9 (fun H locs hw hS => ?_)
  refine zr_aload_n (o := some b) hx hb d_S_init_12 rfl (lv_at hl 0 rfl) ?_
  refine lv_iconst (v := nI 5) hx hb d_S_init_13 (by decide) ?_
  obtain ⟨hc1, hc2, hB⟩ := hB
  obtain ⟨q3, eqq3⟩ : ∃ z, z = s_n (w_r σ2 b 0 (some q1)) := ⟨_, rfl⟩
  obtain ⟨σ4, eσ4⟩ : ∃ z, z = w_new (w_r σ2 b 0 (some q1)) (.inr (1, 5)) := ⟨_, rfl⟩
  have hB := hB q3 σ4 eqq3 eσ4
  have hgn := hw.gnew (.inr (1, 5))
  refine zr_newa (t := 1) (atype := .boolean) (N := 5) hx hb hC hwk.1 hw hS ac_boolean rfl rfl rfl (Nat.le_of_ble_eq_true rfl) hc1 hc2 d_S_init_14 (fun H hw hS => ?_)
  rw [← eσ4] at hw hgn
  rw [← eqq3]
  have hg := hg.tr hgn
  have hsb := hgn _ _ hsb
  have ha1 := hc1
  have ha2 := hc2
  refine zr_putRF hx hb hC hname hw hS rfl hsb fl_S_17 rfl rfl (Or.inr ⟨_, rfl⟩) d_S_init_16 (fun H locs hw hS => ?_)
  refine zr_aload_n (o := some b) hx hb d_S_init_19 rfl (lv_at hl 0 rfl) ?_
  refine lv_iconst (v := nI 2) hx hb d_S_init_20 (by decide) ?_
  refine zr_putI hx hb hC hw hS rfl hsb fl_S_21 rfl rfl d_S_init_21 (fun H locs hw hS => ?_)
  refine W.widen (k := mc) (n := ms) ha1 ha2 ?_
  exact zr_vret hx hb hr hlocks hB hg hw hS d_S_init_24

set_option maxHeartbeats 4000000 in
set_option maxRecDepth 100000 in
theorem c_L_init (l : Launch) (D : va_G) (B : Nat) (b : Nat) (σ : St) (mc : Nat) (ms : Nat) (Q : St → Prop) (h : P_L_init b σ mc ms Q) : zM l y_L_init b_L_init 1 none (rm_L_init mc ms) D B [.ref b] σ (zQv Q) := by
  refine zM.ofW (own := "LawWorlds$Law") (by decide +kernel) rfl (Nat.le_of_ble_eq_true rfl) ?_
  intro p e s m args below meth c ls hx hb hml hr hlocks hname hC hwk hw hS hl
  obtain ⟨σ0, eσ⟩ : ∃ z, z = σ := ⟨_, rfl⟩
  have hg : gr σ0 σ := by rw [eσ]; exact gr.rf
  have hl : lv_has ls 1 [(0, va_rf (some b))] := hl
  have ha1 : 0 ≤ mc := Nat.zero_le _
  have ha2 : 0 ≤ ms := Nat.zero_le _
  obtain ⟨hsb, hB⟩ := h
  have hsb0 : s_s σ0 b = some (.inl 4) := by rw [eσ]; exact hsb
  rw [← eσ]
  skip
  refine zr_aload_n (o := some b) hx hb d_L_init_0 rfl (lv_at hl 0 rfl) ?_
  refine W.objInit hx hb hC.1 (hC.2.1 _ ml_L_3) (hC.2.1 _ k_oi) (hC.2.1 _ k_oc) rfl (by rw [hml]; exact hl.1) rfl d_L_init_1 (Nat.le_of_ble_eq_true rfl) (Nat.le_of_ble_eq_true rfl) ?_
  refine W.eq (g2 := F0 m 4 ls []) rfl ?_
  refine zr_aload_n (o := some b) hx hb d_L_init_4 rfl (lv_at hl 0 rfl) ?_
  refine lv_bipush (v := nI 30) hx hb d_L_init_5 (by decide) ?_
  obtain ⟨hc1, hc2, hB⟩ := hB
  obtain ⟨q1, eqq1⟩ : ∃ z, z = s_n σ := ⟨_, rfl⟩
  obtain ⟨σ2, eσ2⟩ : ∃ z, z = w_new σ (.inr (0, 30)) := ⟨_, rfl⟩
  have hB := hB q1 σ2 eqq1 eσ2
  have hgn := hw.gnew (.inr (0, 30))
  refine zr_newa (t := 0) (atype := .int) (N := 30) hx hb hC hwk.1 hw hS ac_int rfl rfl rfl (Nat.le_of_ble_eq_true rfl) hc1 hc2 d_L_init_7 (fun H hw hS => ?_)
  rw [← eσ2] at hw hgn
  rw [← eqq1]
  have hg := hg.tr hgn
  have hsb := hgn _ _ hsb
  have ha1 := hc1
  have ha2 := hc2
  refine zr_putRF hx hb hC hname hw hS rfl hsb fl_L_11 rfl rfl (Or.inr ⟨_, rfl⟩) d_L_init_9 (fun H locs hw hS => ?_)
  refine W.widen (k := mc) (n := ms) ha1 ha2 ?_
  exact zr_vret hx hb hr hlocks hB hg hw hS d_L_init_12

set_option maxHeartbeats 4000000 in
set_option maxRecDepth 100000 in
theorem c_B_init (l : Launch) (D : va_G) (B : Nat) (b : Nat) (σ : St) (mc : Nat) (ms : Nat) (Q : St → Prop) (h : P_B_init b σ mc ms Q) : zM l y_B_init b_B_init 1 none (rm_B_init mc ms) D B [.ref b] σ (zQv Q) := by
  refine zM.ofW (own := "LawWorlds$Bench") (by decide +kernel) rfl (Nat.le_of_ble_eq_true rfl) ?_
  intro p e s m args below meth c ls hx hb hml hr hlocks hname hC hwk hw hS hl
  obtain ⟨σ0, eσ⟩ : ∃ z, z = σ := ⟨_, rfl⟩
  have hg : gr σ0 σ := by rw [eσ]; exact gr.rf
  have hl : lv_has ls 1 [(0, va_rf (some b))] := hl
  have ha1 : 0 ≤ mc := Nat.zero_le _
  have ha2 : 0 ≤ ms := Nat.zero_le _
  obtain ⟨hsb, hB⟩ := h
  have hsb0 : s_s σ0 b = some (.inl 5) := by rw [eσ]; exact hsb
  rw [← eσ]
  skip
  refine zr_aload_n (o := some b) hx hb d_B_init_0 rfl (lv_at hl 0 rfl) ?_
  refine W.objInit hx hb hC.1 (hC.2.1 _ ml_B_3) (hC.2.1 _ k_oi) (hC.2.1 _ k_oc) rfl (by rw [hml]; exact hl.1) rfl d_B_init_1 (Nat.le_of_ble_eq_true rfl) (Nat.le_of_ble_eq_true rfl) ?_
  refine W.eq (g2 := F0 m 4 ls []) rfl ?_
  refine zr_aload_n (o := some b) hx hb d_B_init_4 rfl (lv_at hl 0 rfl) ?_
  refine lv_bipush (v := nI 9) hx hb d_B_init_5 (by decide) ?_
  obtain ⟨hc1, hc2, hB⟩ := hB
  obtain ⟨q1, eqq1⟩ : ∃ z, z = s_n σ := ⟨_, rfl⟩
  obtain ⟨σ2, eσ2⟩ : ∃ z, z = w_new σ (.inr (0, 9)) := ⟨_, rfl⟩
  have hB := hB q1 σ2 eqq1 eσ2
  have hgn := hw.gnew (.inr (0, 9))
  refine zr_newa (t := 0) (atype := .int) (N := 9) hx hb hC hwk.1 hw hS ac_int rfl rfl rfl (Nat.le_of_ble_eq_true rfl) hc1 hc2 d_B_init_7 (fun H hw hS => ?_)
  rw [← eσ2] at hw hgn
  rw [← eqq1]
  have hg := hg.tr hgn
  have hsb := hgn _ _ hsb
  have ha1 := hc1
  have ha2 := hc2
  refine zr_putRF hx hb hC hname hw hS rfl hsb fl_B_9 rfl rfl (Or.inr ⟨_, rfl⟩) d_B_init_9 (fun H locs hw hS => ?_)
  refine zr_aload_n (o := some b) hx hb d_B_init_12 rfl (lv_at hl 0 rfl) ?_
  refine lv_bipush (v := nI 9) hx hb d_B_init_13 (by decide) ?_
  obtain ⟨hc1, hc2, hB⟩ := hB
  obtain ⟨q3, eqq3⟩ : ∃ z, z = s_n (w_r σ2 b 0 (some q1)) := ⟨_, rfl⟩
  obtain ⟨σ4, eσ4⟩ : ∃ z, z = w_new (w_r σ2 b 0 (some q1)) (.inr (0, 9)) := ⟨_, rfl⟩
  have hB := hB q3 σ4 eqq3 eσ4
  have hgn := hw.gnew (.inr (0, 9))
  refine zr_newa (t := 0) (atype := .int) (N := 9) hx hb hC hwk.1 hw hS ac_int rfl rfl rfl (Nat.le_of_ble_eq_true rfl) hc1 hc2 d_B_init_15 (fun H hw hS => ?_)
  rw [← eσ4] at hw hgn
  rw [← eqq3]
  have hg := hg.tr hgn
  have hsb := hgn _ _ hsb
  have ha1 := hc1
  have ha2 := hc2
  refine zr_putRF hx hb hC hname hw hS rfl hsb fl_B_15 rfl rfl (Or.inr ⟨_, rfl⟩) d_B_init_17 (fun H locs hw hS => ?_)
  refine zr_aload_n (o := some b) hx hb d_B_init_20 rfl (lv_at hl 0 rfl) ?_
  refine lv_bipush (v := nI 18) hx hb d_B_init_21 (by decide) ?_
  obtain ⟨hc1, hc2, hB⟩ := hB
  obtain ⟨q5, eqq5⟩ : ∃ z, z = s_n (w_r σ4 b 1 (some q3)) := ⟨_, rfl⟩
  obtain ⟨σ6, eσ6⟩ : ∃ z, z = w_new (w_r σ4 b 1 (some q3)) (.inr (0, 18)) := ⟨_, rfl⟩
  have hB := hB q5 σ6 eqq5 eσ6
  have hgn := hw.gnew (.inr (0, 18))
  refine zr_newa (t := 0) (atype := .int) (N := 18) hx hb hC hwk.1 hw hS ac_int rfl rfl rfl (Nat.le_of_ble_eq_true rfl) hc1 hc2 d_B_init_23 (fun H hw hS => ?_)
  rw [← eσ6] at hw hgn
  rw [← eqq5]
  have hg := hg.tr hgn
  have hsb := hgn _ _ hsb
  have ha1 := hc1
  have ha2 := hc2
  refine zr_putRF hx hb hC hname hw hS rfl hsb fl_B_18 rfl rfl (Or.inr ⟨_, rfl⟩) d_B_init_25 (fun H locs hw hS => ?_)
  refine zr_aload_n (o := some b) hx hb d_B_init_28 rfl (lv_at hl 0 rfl) ?_
  refine lv_iconst (v := nI 3) hx hb d_B_init_29 (by decide) ?_
  obtain ⟨hc1, hc2, hB⟩ := hB
  obtain ⟨q7, eqq7⟩ : ∃ z, z = s_n (w_r σ6 b 2 (some q5)) := ⟨_, rfl⟩
  obtain ⟨σ8, eσ8⟩ : ∃ z, z = w_new (w_r σ6 b 2 (some q5)) (.inr (0, 3)) := ⟨_, rfl⟩
  have hB := hB q7 σ8 eqq7 eσ8
  have hgn := hw.gnew (.inr (0, 3))
  refine zr_newa (t := 0) (atype := .int) (N := 3) hx hb hC hwk.1 hw hS ac_int rfl rfl rfl (Nat.le_of_ble_eq_true rfl) hc1 hc2 d_B_init_30 (fun H hw hS => ?_)
  rw [← eσ8] at hw hgn
  rw [← eqq7]
  have hg := hg.tr hgn
  have hsb := hgn _ _ hsb
  have ha1 := hc1
  have ha2 := hc2
  refine zr_putRF hx hb hC hname hw hS rfl hsb fl_B_21 rfl rfl (Or.inr ⟨_, rfl⟩) d_B_init_32 (fun H locs hw hS => ?_)
  refine W.widen (k := mc) (n := ms) ha1 ha2 ?_
  exact zr_vret hx hb hr hlocks hB hg hw hS d_B_init_35

set_option maxHeartbeats 4000000 in
set_option maxRecDepth 100000 in
theorem c_S_copyFrom (l : Launch) (D : va_G) (B : Nat) (b : Nat) (o1 : Option Nat) (σ : St) (Q : St → Prop) (h : P_S_copyFrom b o1 σ Q) : zM l y_S_copyFrom b_S_copyFrom 3 none (rm_S_copyFrom) D B [.ref b, va_rf o1] σ (zQv Q) := by
  refine zM.ofW (own := "LawWorlds$State") (by decide +kernel) rfl (lg_c rfl (lg_c (va_rf_cat _) lg_0)) ?_
  intro p e s m args below meth c ls hx hb hml hr hlocks hname hC hwk hw hS hl
  obtain ⟨σ0, eσ⟩ : ∃ z, z = σ := ⟨_, rfl⟩
  have hg : gr σ0 σ := by rw [eσ]; exact gr.rf
  rw [lv_args_c rfl, lv_args_c (va_rf_cat _)] at hl
  have hl : lv_has ls 3 [(0, va_rf (some b)), (1, va_rf o1)] := hl
  obtain ⟨hsb, hB⟩ := h
  have hsb0 : s_s σ0 b = some (.inl 1) := by rw [eσ]; exact hsb
  rw [← eσ]
  skip
  obtain ⟨K26, hK26⟩ : ∃ K : Option Nat → Int32 → St → Prop, K = (fun (o1 : Option Nat) (x2 : Int32) (σ : St) => ∀ (H : Heap) (locs : List Loc) (ls : Array Slot), gr σ0 σ → wh D B σ s H → va_S (zA B) s.heap H locs → lv_has ls 3 [(0, va_rf (some b)), (1, va_rf o1), (2, .int x2)] → W p l e (rm_S_copyFrom) s m args below meth c H locs 0 0 (MQ below (zQ D B σ0 (zQv Q)) args s (rm_S_copyFrom).cells (rm_S_copyFrom).slots (zA B)) (F0 m 26 ls [])) := ⟨_, rfl⟩
  refine (fun hB => ?_) (hB K26 ?_)
  · skip
    refine zr_aload_n (o := some b) hx hb d_S_copyFrom_0 rfl (lv_at hl 0 rfl) ?_
    refine zr_aload_n (o := o1) hx hb d_S_copyFrom_1 rfl (lv_at hl 1 rfl) ?_
    obtain ⟨q11, ho11, hs11, hB⟩ := hB
    refine zr_get (v := .int (s_i σ q11 3)) hx hb hC hw ho11 hs11 fl_S_21 rfl d_S_copyFrom_2 ?_
    refine zr_putI hx hb hC hw hS rfl hsb fl_S_21 rfl rfl d_S_copyFrom_5 (fun H locs hw hS => ?_)
    refine zr_aload_n (o := some b) hx hb d_S_copyFrom_8 rfl (lv_at hl 0 rfl) ?_
    refine zr_aload_n (o := o1) hx hb d_S_copyFrom_9 rfl (lv_at hl 1 rfl) ?_
    obtain ⟨q12, ho12, hs12, hB⟩ := hB
    refine zr_get (v := .int (s_i (w_i σ b 3 (s_i σ q11 3)) q12 4)) hx hb hC hw ho12 hs12 fl_S_25 rfl d_S_copyFrom_10 ?_
    refine zr_putI hx hb hC hw hS rfl hsb fl_S_25 rfl rfl d_S_copyFrom_13 (fun H locs hw hS => ?_)
    refine zr_aload_n (o := some b) hx hb d_S_copyFrom_16 rfl (lv_at hl 0 rfl) ?_
    refine zr_aload_n (o := o1) hx hb d_S_copyFrom_17 rfl (lv_at hl 1 rfl) ?_
    obtain ⟨q13, ho13, hs13, hB⟩ := hB
    refine zr_get (v := .int (s_i (w_i (w_i σ b 3 (s_i σ q11 3)) b 4 (s_i (w_i σ b 3 (s_i σ q11 3)) q12 4)) q13 2)) hx hb hC hw ho13 hs13 fl_S_28 rfl d_S_copyFrom_18 ?_
    refine zr_putI hx hb hC hw hS rfl hsb fl_S_28 rfl rfl d_S_copyFrom_21 (fun H locs hw hS => ?_)
    refine lv_iconst (v := nI 0) hx hb d_S_copyFrom_24 (by decide) ?_
    refine lv_istore_n (lv' := [(2, .int (nI 0)), (0, va_rf (some b)), (1, va_rf o1)]) hx hb d_S_copyFrom_25 rfl hl (by decide) (congrArg (List.cons _) (fl_k rfl (va_rf_cat _) (fl_k rfl (va_rf_cat _) fl_n))) (fun ls hl => ?_)
    rw [hK26] at hB
    exact hB _ _ _ hg hw hS (lv_sub hl [1, 2, 0] rfl)
  · intro o1 x2 σ hB
    rw [hK26]
    intro H locs ls hg hw hS hl
    have hsb := hg _ _ hsb0
    refine lv_iload_n hx hb d_S_copyFrom_26 rfl (lv_at hl 2 rfl) ?_
    refine lv_iconst (v := nI 5) hx hb d_S_copyFrom_27 (by decide) ?_
    refine lv_icmp_ge (tgt := 61) hx hb d_S_copyFrom_28 (by decide) (fun cd => ?_) (fun cd => ?_)
    · have hB := hB.1 cd
      exact zr_vret hx hb hr hlocks hB hg hw hS d_S_copyFrom_61
    · have hB := hB.2 cd
      refine zr_aload_n (o := some b) hx hb d_S_copyFrom_31 rfl (lv_at hl 0 rfl) ?_
      refine zr_get (v := va_rf (s_r σ b 0)) hx hb hC hw rfl hsb fl_S_11 rfl d_S_copyFrom_32 ?_
      refine lv_iload_n hx hb d_S_copyFrom_35 rfl (lv_at hl 2 rfl) ?_
      refine zr_aload_n (o := o1) hx hb d_S_copyFrom_36 rfl (lv_at hl 1 rfl) ?_
      obtain ⟨q1, ho1, hs1, hB⟩ := hB
      refine zr_get (v := va_rf (s_r σ q1 0)) hx hb hC hw ho1 hs1 fl_S_11 rfl d_S_copyFrom_37 ?_
      refine lv_iload_n hx hb d_S_copyFrom_40 rfl (lv_at hl 2 rfl) ?_
      obtain ⟨q2, n2, j3, ho, hs, hin, hj, hB⟩ := hB
      refine zr_aald hx hb hw ho hs ⟨_, rfl⟩ hin hj d_S_copyFrom_41 ?_
      obtain ⟨q4, n4, j5, ho, hs, hin, hj, hB⟩ := hB
      refine zr_aast hx hb hC hw hS ho hs rfl hB.1 hin hj d_S_copyFrom_42 (fun H locs hw hS => ?_)
      have hB := hB.2
      refine zr_aload_n (o := some b) hx hb d_S_copyFrom_43 rfl (lv_at hl 0 rfl) ?_
      refine zr_get (v := va_rf (s_r (w_r σ q4 j5 (s_r σ q2 j3)) b 1)) hx hb hC hw rfl hsb fl_S_17 rfl d_S_copyFrom_44 ?_
      refine lv_iload_n hx hb d_S_copyFrom_47 rfl (lv_at hl 2 rfl) ?_
      refine zr_aload_n (o := o1) hx hb d_S_copyFrom_48 rfl (lv_at hl 1 rfl) ?_
      obtain ⟨q6, ho6, hs6, hB⟩ := hB
      refine zr_get (v := va_rf (s_r (w_r σ q4 j5 (s_r σ q2 j3)) q6 1)) hx hb hC hw ho6 hs6 fl_S_17 rfl d_S_copyFrom_49 ?_
      refine lv_iload_n hx hb d_S_copyFrom_52 rfl (lv_at hl 2 rfl) ?_
      obtain ⟨q7, n7, j8, ho, hs, hin, hj, hB⟩ := hB
      refine zr_zald hx hb hw ho hs hin hj d_S_copyFrom_53 ?_
      obtain ⟨q9, n9, j10, ho, hs, hin, hj, hB⟩ := hB
      refine zr_zast hx hb hw hS ho hs hin hj d_S_copyFrom_54 (fun H locs hw hS => ?_)
      refine lv_iinc (v := x2 + nI 1) (lv' := [(2, .int (x2 + nI 1)), (0, va_rf (some b)), (1, va_rf o1)]) hx hb d_S_copyFrom_55 hl (k := 2) rfl rfl (by decide) (congrArg (List.cons _) (fl_k rfl (va_rf_cat _) (fl_k rfl (va_rf_cat _) (fl_d rfl fl_n)))) (fun ls hl => ?_)
      refine lv_goto (tgt := 26) hx hb d_S_copyFrom_58 (by decide) ?_
      rw [hK26] at hB
      exact hB _ _ _ hg hw hS (lv_sub hl [1, 2, 0] rfl)

set_option maxHeartbeats 4000000 in
set_option maxRecDepth 100000 in
theorem c_L_hasSteps (l : Launch) (D : va_G) (B : Nat) (b : Nat) (o1 : Option Nat) (x2 : Int32) (x3 : Int32) (σ : St) (Q : Int32 → St → Prop) (h : P_L_hasSteps b o1 x2 x3 σ Q) : zM l y_L_hasSteps b_L_hasSteps 5 (some (.boolean)) (rm_L_hasSteps) D B [.ref b, va_rf o1, .int x2, .int x3] σ (zQi Q) := by
  refine zM.ofW (own := "LawWorlds$Law") (by decide +kernel) rfl (lg_c rfl (lg_c (va_rf_cat _) (lg_c rfl (lg_c rfl lg_0)))) ?_
  intro p e s m args below meth c ls hx hb hml hr hlocks hname hC hwk hw hS hl
  obtain ⟨σ0, eσ⟩ : ∃ z, z = σ := ⟨_, rfl⟩
  have hg : gr σ0 σ := by rw [eσ]; exact gr.rf
  rw [lv_args_c rfl, lv_args_c (va_rf_cat _), lv_args_c rfl, lv_args_c rfl] at hl
  have hl : lv_has ls 5 [(0, va_rf (some b)), (1, va_rf o1), (2, .int x2), (3, .int x3)] := hl
  obtain ⟨hsb, hB⟩ := h
  have hsb0 : s_s σ0 b = some (.inl 4) := by rw [eσ]; exact hsb
  rw [← eσ]
  skip
  obtain ⟨K25, hK25⟩ : ∃ K : Option Nat → Int32 → Int32 → St → Prop, K = (fun (o1 : Option Nat) (x2 : Int32) (x4 : Int32) (σ : St) => ∀ (H : Heap) (locs : List Loc) (ls : Array Slot), gr σ0 σ → wh D B σ s H → va_S (zA B) s.heap H locs → lv_has ls 5 [(0, va_rf (some b)), (1, va_rf o1), (2, .int x2), (4, .int x4)] → W p l e (rm_L_hasSteps) s m args below meth c H locs 0 0 (MQ below (zQ D B σ0 (zQi Q)) args s (rm_L_hasSteps).cells (rm_L_hasSteps).slots (zA B)) (F0 m 25 ls [])) := ⟨_, rfl⟩
  refine (fun hB => ?_) (hB K25 ?_)
  · skip
    refine lv_iload_n hx hb d_L_hasSteps_0 rfl (lv_at hl 2 rfl) ?_
    refine lv_if_lt (tgt := 20) hx hb d_L_hasSteps_1 (by decide) (fun cd => ?_) (fun cd => ?_)
    · have hB := hB.1 cd
      refine lv_iconst (v := nI 0) hx hb d_L_hasSteps_20 (by decide) ?_
      exact zr_zret hx hb hr hlocks (Or.inl rfl) hB hg hw hS d_L_hasSteps_21
    · have hB := hB.2 cd
      refine lv_iload_n hx hb d_L_hasSteps_4 rfl (lv_at hl 3 rfl) ?_
      refine zr_aload_n (o := o1) hx hb d_L_hasSteps_5 rfl (lv_at hl 1 rfl) ?_
      obtain ⟨q, t, n5, ho, hs, hB⟩ := hB
      refine zr_alen (v := nI n5) hx hb hw ho hs rfl d_L_hasSteps_6 ?_
      refine lv_icmp_gt (tgt := 20) hx hb d_L_hasSteps_7 (by decide) (fun cd => ?_) (fun cd => ?_)
      · have hB := hB.1 cd
        refine lv_iconst (v := nI 0) hx hb d_L_hasSteps_20 (by decide) ?_
        exact zr_zret hx hb hr hlocks (Or.inl rfl) hB hg hw hS d_L_hasSteps_21
      · have hB := hB.2 cd
        refine zr_aload_n (o := some b) hx hb d_L_hasSteps_10 rfl (lv_at hl 0 rfl) ?_
        refine zr_get (v := .int (s_i σ b 1)) hx hb hC hw rfl hsb fl_L_15 rfl d_L_hasSteps_11 ?_
        refine lv_iload_n hx hb d_L_hasSteps_14 rfl (lv_at hl 3 rfl) ?_
        refine lv_iload_n hx hb d_L_hasSteps_15 rfl (lv_at hl 2 rfl) ?_
        refine lv_isub hx hb d_L_hasSteps_16 ?_
        refine lv_icmp_eq (tgt := 22) hx hb d_L_hasSteps_17 (by decide) (fun cd => ?_) (fun cd => ?_)
        · have hB := hB.1 cd
          refine lv_iconst (v := nI 0) hx hb d_L_hasSteps_22 (by decide) ?_
          refine lv_istore (lv' := [(4, .int (nI 0)), (0, va_rf (some b)), (1, va_rf o1), (2, .int x2), (3, .int x3)]) hx hb d_L_hasSteps_23 hl (by decide) rfl (fun ls hl => ?_)
          rw [hK25] at hB
          exact hB _ _ _ hg hw hS (lv_sub hl [1, 2, 3, 0] rfl)
        · have hB := hB.2 cd
          refine lv_iconst (v := nI 0) hx hb d_L_hasSteps_20 (by decide) ?_
          exact zr_zret hx hb hr hlocks (Or.inl rfl) hB hg hw hS d_L_hasSteps_21
  · intro o1 x2 x4 σ hB
    rw [hK25]
    intro H locs ls hg hw hS hl
    have hsb := hg _ _ hsb0
    refine lv_iload hx hb d_L_hasSteps_25 (lv_at hl 3 rfl) ?_
    refine zr_aload_n (o := some b) hx hb d_L_hasSteps_27 rfl (lv_at hl 0 rfl) ?_
    refine zr_get (v := .int (s_i σ b 1)) hx hb hC hw rfl hsb fl_L_15 rfl d_L_hasSteps_28 ?_
    refine lv_icmp_ge (tgt := 58) hx hb d_L_hasSteps_31 (by decide) (fun cd => ?_) (fun cd => ?_)
    · have hB := hB.1 cd
      refine lv_iconst (v := nI 1) hx hb d_L_hasSteps_58 (by decide) ?_
      exact zr_zret hx hb hr hlocks (Or.inr rfl) hB hg hw hS d_L_hasSteps_59
    · have hB := hB.2 cd
      refine zr_aload_n (o := some b) hx hb d_L_hasSteps_34 rfl (lv_at hl 0 rfl) ?_
      refine zr_get (v := va_rf (s_r σ b 0)) hx hb hC hw rfl hsb fl_L_11 rfl d_L_hasSteps_35 ?_
      refine lv_iload hx hb d_L_hasSteps_38 (lv_at hl 3 rfl) ?_
      obtain ⟨q1, n1, j2, ho, hs, hin, hj, hB⟩ := hB
      refine zr_iald hx hb hw ho hs hin hj d_L_hasSteps_40 ?_
      refine zr_aload_n (o := o1) hx hb d_L_hasSteps_41 rfl (lv_at hl 1 rfl) ?_
      refine lv_iload_n hx hb d_L_hasSteps_42 rfl (lv_at hl 2 rfl) ?_
      refine lv_iload hx hb d_L_hasSteps_43 (lv_at hl 3 rfl) ?_
      refine lv_iadd hx hb d_L_hasSteps_45 ?_
      obtain ⟨q3, n3, j4, ho, hs, hin, hj, hB⟩ := hB
      refine zr_iald hx hb hw ho hs hin hj d_L_hasSteps_46 ?_
      refine lv_icmp_eq (tgt := 52) hx hb d_L_hasSteps_47 (by decide) (fun cd => ?_) (fun cd => ?_)
      · have hB := hB.1 cd
        refine lv_iinc (v := x4 + nI 1) (lv' := [(4, .int (x4 + nI 1)), (0, va_rf (some b)), (1, va_rf o1), (2, .int x2)]) hx hb d_L_hasSteps_52 hl (k := 3) rfl rfl (by decide) rfl (fun ls hl => ?_)
        refine lv_goto (tgt := 25) hx hb d_L_hasSteps_55 (by decide) ?_
        rw [hK25] at hB
        exact hB _ _ _ hg hw hS (lv_sub hl [1, 2, 3, 0] rfl)
      · have hB := hB.2 cd
        refine lv_iconst (v := nI 0) hx hb d_L_hasSteps_50 (by decide) ?_
        exact zr_zret hx hb hr hlocks (Or.inl rfl) hB hg hw hS d_L_hasSteps_51

set_option maxHeartbeats 4000000 in
set_option maxRecDepth 100000 in
theorem c_S_uses (l : Launch) (D : va_G) (B : Nat) (b : Nat) (o1 : Option Nat) (σ : St) (Q : Int32 → St → Prop) (h : P_S_uses b o1 σ Q) : zM l y_S_uses b_S_uses 3 (some (.boolean)) (rm_S_uses) D B [.ref b, va_rf o1] σ (zQi Q) := by
  refine zM.ofW (own := "LawWorlds$State") (by decide +kernel) rfl (lg_c rfl (lg_c (va_rf_cat _) lg_0)) ?_
  intro p e s m args below meth c ls hx hb hml hr hlocks hname hC hwk hw hS hl
  obtain ⟨σ0, eσ⟩ : ∃ z, z = σ := ⟨_, rfl⟩
  have hg : gr σ0 σ := by rw [eσ]; exact gr.rf
  rw [lv_args_c rfl, lv_args_c (va_rf_cat _)] at hl
  have hl : lv_has ls 3 [(0, va_rf (some b)), (1, va_rf o1)] := hl
  obtain ⟨hsb, hB⟩ := h
  have hsb0 : s_s σ0 b = some (.inl 1) := by rw [eσ]; exact hsb
  rw [← eσ]
  skip
  obtain ⟨K2, hK2⟩ : ∃ K : Option Nat → Int32 → St → Prop, K = (fun (o1 : Option Nat) (x2 : Int32) (σ : St) => ∀ (H : Heap) (locs : List Loc) (ls : Array Slot), gr σ0 σ → wh D B σ s H → va_S (zA B) s.heap H locs → lv_has ls 3 [(0, va_rf (some b)), (1, va_rf o1), (2, .int x2)] → W p l e (rm_S_uses) s m args below meth c H locs 0 0 (MQ below (zQ D B σ0 (zQi Q)) args s (rm_S_uses).cells (rm_S_uses).slots (zA B)) (F0 m 2 ls [])) := ⟨_, rfl⟩
  refine (fun hB => ?_) (hB K2 ?_)
  · skip
    refine lv_iconst (v := nI 0) hx hb d_S_uses_0 (by decide) ?_
    refine lv_istore_n (lv' := [(2, .int (nI 0)), (0, va_rf (some b)), (1, va_rf o1)]) hx hb d_S_uses_1 rfl hl (by decide) (congrArg (List.cons _) (fl_k rfl (va_rf_cat _) (fl_k rfl (va_rf_cat _) fl_n))) (fun ls hl => ?_)
    rw [hK2] at hB
    exact hB _ _ _ hg hw hS (lv_sub hl [1, 2, 0] rfl)
  · intro o1 x2 σ hB
    rw [hK2]
    intro H locs ls hg hw hS hl
    have hsb := hg _ _ hsb0
    refine lv_iload_n hx hb d_S_uses_2 rfl (lv_at hl 2 rfl) ?_
    refine zr_aload_n (o := some b) hx hb d_S_uses_3 rfl (lv_at hl 0 rfl) ?_
    refine zr_get (v := .int (s_i σ b 2)) hx hb hC hw rfl hsb fl_S_28 rfl d_S_uses_4 ?_
    refine lv_icmp_ge (tgt := 28) hx hb d_S_uses_7 (by decide) (fun cd => ?_) (fun cd => ?_)
    · have hB := hB.1 cd
      refine lv_iconst (v := nI 0) hx hb d_S_uses_28 (by decide) ?_
      exact zr_zret hx hb hr hlocks (Or.inl rfl) hB hg hw hS d_S_uses_29
    · have hB := hB.2 cd
      refine zr_aload_n (o := some b) hx hb d_S_uses_10 rfl (lv_at hl 0 rfl) ?_
      refine zr_get (v := va_rf (s_r σ b 0)) hx hb hC hw rfl hsb fl_S_11 rfl d_S_uses_11 ?_
      refine lv_iload_n hx hb d_S_uses_14 rfl (lv_at hl 2 rfl) ?_
      obtain ⟨q1, n1, j2, ho, hs, hin, hj, hB⟩ := hB
      refine zr_aald hx hb hw ho hs ⟨_, rfl⟩ hin hj d_S_uses_15 ?_
      refine zr_aload_n (o := o1) hx hb d_S_uses_16 rfl (lv_at hl 1 rfl) ?_
      refine lv_acmp_ne (tgt := 22) hx hb d_S_uses_17 (by decide) (fun cd => ?_) (fun cd => ?_)
      · have hB := hB.2 cd
        refine lv_iinc (v := x2 + nI 1) (lv' := [(2, .int (x2 + nI 1)), (0, va_rf (some b)), (1, va_rf o1)]) hx hb d_S_uses_22 hl (k := 2) rfl rfl (by decide) (congrArg (List.cons _) (fl_k rfl (va_rf_cat _) (fl_k rfl (va_rf_cat _) (fl_d rfl fl_n)))) (fun ls hl => ?_)
        refine lv_goto (tgt := 2) hx hb d_S_uses_25 (by decide) ?_
        rw [hK2] at hB
        exact hB _ _ _ hg hw hS (lv_sub hl [1, 2, 0] rfl)
      · have hB := hB.1 cd
        refine lv_iconst (v := nI 1) hx hb d_S_uses_20 (by decide) ?_
        exact zr_zret hx hb hr hlocks (Or.inr rfl) hB hg hw hS d_S_uses_21

set_option maxHeartbeats 4000000 in
set_option maxRecDepth 100000 in
theorem c_L_isLetter (l : Launch) (D : va_G) (B : Nat) (x0 : Int32) (σ : St) (Q : Int32 → St → Prop) (h : P_L_isLetter x0 σ Q) : zM l y_L_isLetter b_L_isLetter 1 (some (.boolean)) (rm_L_isLetter) D B [.int x0] σ (zQi Q) := by
  refine zM.ofW (own := "LawWorlds$Law") (by decide +kernel) rfl (Nat.le_of_ble_eq_true rfl) ?_
  intro p e s m args below meth c ls hx hb hml hr hlocks hname hC hwk hw hS hl
  obtain ⟨σ0, eσ⟩ : ∃ z, z = σ := ⟨_, rfl⟩
  have hg : gr σ0 σ := by rw [eσ]; exact gr.rf
  have hl : lv_has ls 1 [(0, .int x0)] := hl
  have hB := h
  rw [← eσ]
  skip
  refine lv_iload_n hx hb d_L_isLetter_0 rfl (lv_at hl 0 rfl) ?_
  refine lv_if_lt (tgt := 13) hx hb d_L_isLetter_1 (by decide) (fun cd => ?_) (fun cd => ?_)
  · have hB := hB.1 cd
    refine lv_iconst (v := nI 0) hx hb d_L_isLetter_13 (by decide) ?_
    exact zr_zret hx hb hr hlocks (Or.inl rfl) hB hg hw hS d_L_isLetter_14
  · have hB := hB.2 cd
    refine lv_iload_n hx hb d_L_isLetter_4 rfl (lv_at hl 0 rfl) ?_
    refine lv_iconst (v := nI 3) hx hb d_L_isLetter_5 (by decide) ?_
    refine lv_icmp_ge (tgt := 13) hx hb d_L_isLetter_6 (by decide) (fun cd => ?_) (fun cd => ?_)
    · have hB := hB.1 cd
      refine lv_iconst (v := nI 0) hx hb d_L_isLetter_13 (by decide) ?_
      exact zr_zret hx hb hr hlocks (Or.inl rfl) hB hg hw hS d_L_isLetter_14
    · have hB := hB.2 cd
      refine lv_iconst (v := nI 1) hx hb d_L_isLetter_9 (by decide) ?_
      refine lv_goto (tgt := 14) hx hb d_L_isLetter_10 (by decide) ?_
      exact zr_zret hx hb hr hlocks (Or.inr rfl) hB hg hw hS d_L_isLetter_14

set_option maxHeartbeats 4000000 in
set_option maxRecDepth 100000 in
theorem c_L_become (l : Launch) (D : va_G) (B : Nat) (b : Nat) (o1 : Option Nat) (x2 : Int32) (x3 : Int32) (σ : St) (Q : St → Prop) (h : P_L_become b o1 x2 x3 σ Q) : zM l y_L_become b_L_become 6 none (rm_L_become) D B [.ref b, va_rf o1, .int x2, .int x3] σ (zQv Q) := by
  refine zM.ofW (own := "LawWorlds$Law") (by decide +kernel) rfl (lg_c rfl (lg_c (va_rf_cat _) (lg_c rfl (lg_c rfl lg_0)))) ?_
  intro p e s m args below meth c ls hx hb hml hr hlocks hname hC hwk hw hS hl
  obtain ⟨σ0, eσ⟩ : ∃ z, z = σ := ⟨_, rfl⟩
  have hg : gr σ0 σ := by rw [eσ]; exact gr.rf
  rw [lv_args_c rfl, lv_args_c (va_rf_cat _), lv_args_c rfl, lv_args_c rfl] at hl
  have hl : lv_has ls 6 [(0, va_rf (some b)), (1, va_rf o1), (2, .int x2), (3, .int x3)] := hl
  obtain ⟨hsb, hB⟩ := h
  have hsb0 : s_s σ0 b = some (.inl 4) := by rw [eσ]; exact hsb
  rw [← eσ]
  skip
  obtain ⟨K35, hK35⟩ : ∃ K : Option Nat → Int32 → Int32 → St → Prop, K = (fun (o1 : Option Nat) (x4 : Int32) (x5 : Int32) (σ : St) => ∀ (H : Heap) (locs : List Loc) (ls : Array Slot), gr σ0 σ → wh D B σ s H → va_S (zA B) s.heap H locs → lv_has ls 6 [(0, va_rf (some b)), (1, va_rf o1), (4, .int x4), (5, .int x5)] → W p l e (rm_L_become) s m args below meth c H locs 0 0 (MQ below (zQ D B σ0 (zQv Q)) args s (rm_L_become).cells (rm_L_become).slots (zA B)) (F0 m 35 ls [])) := ⟨_, rfl⟩
  refine (fun hB => ?_) (hB K35 ?_)
  · skip
    refine zr_aload_n (o := some b) hx hb d_L_become_0 rfl (lv_at hl 0 rfl) ?_
    refine lv_iconst (v := nI 0) hx hb d_L_become_1 (by decide) ?_
    refine zr_putI hx hb hC hw hS rfl hsb fl_L_15 rfl rfl d_L_become_2 (fun H locs hw hS => ?_)
    refine zr_aload_n (o := some b) hx hb d_L_become_5 rfl (lv_at hl 0 rfl) ?_
    refine lv_iconst (v := nI 0) hx hb d_L_become_6 (by decide) ?_
    refine zr_putI hx hb hC hw hS rfl hsb fl_L_19 rfl rfl d_L_become_7 (fun H locs hw hS => ?_)
    refine zr_aload_n (o := some b) hx hb d_L_become_10 rfl (lv_at hl 0 rfl) ?_
    refine lv_iconst (v := nI 0) hx hb d_L_become_11 (by decide) ?_
    refine zr_putI hx hb hC hw hS rfl hsb fl_L_22 rfl rfl d_L_become_12 (fun H locs hw hS => ?_)
    refine zr_aload_n (o := some b) hx hb d_L_become_15 rfl (lv_at hl 0 rfl) ?_
    refine lv_iconst (v := nI 0) hx hb d_L_become_16 (by decide) ?_
    refine zr_putZ hx hb hC hw hS rfl hsb fl_L_25 rfl rfl (Or.inl rfl) d_L_become_17 (fun H locs hw hS => ?_)
    refine lv_iload_n hx hb d_L_become_20 rfl (lv_at hl 3 rfl) ?_
    refine zr_aload_n (o := o1) hx hb d_L_become_21 rfl (lv_at hl 1 rfl) ?_
    obtain ⟨q, t, n11, ho, hs, hB⟩ := hB
    refine zr_alen (v := nI n11) hx hb hw ho hs rfl d_L_become_22 ?_
    refine zr_min hx hb (hml.trans hl.1.symm) hC ml_L_29 (Nat.le_of_ble_eq_true rfl) (Nat.le_of_ble_eq_true rfl) (cat_8 cat_n (Nat.le_of_ble_eq_true rfl)) (Nat.zero_le _) (Nat.zero_le _) d_L_become_23 ?_
    refine lv_istore (lv' := [(4, .int (mn x3 (nI n11))), (0, va_rf (some b)), (1, va_rf o1), (2, .int x2), (3, .int x3)]) hx hb d_L_become_26 hl (by decide) rfl (fun ls hl => ?_)
    refine lv_iload_n hx hb d_L_become_28 rfl (lv_at hl 3 rfl) ?_
    refine lv_iconst (v := nI 0) hx hb d_L_become_29 (by decide) ?_
    refine zr_max hx hb (hml.trans hl.1.symm) hC ml_L_35 (Nat.le_of_ble_eq_true rfl) (Nat.le_of_ble_eq_true rfl) (cat_8 cat_n (Nat.le_of_ble_eq_true rfl)) (Nat.zero_le _) (Nat.zero_le _) d_L_become_30 ?_
    refine lv_istore (lv' := [(5, .int (mx x2 (nI 0))), (4, .int (mn x3 (nI n11))), (0, va_rf (some b)), (1, va_rf o1), (2, .int x2), (3, .int x3)]) hx hb d_L_become_33 hl (by decide) rfl (fun ls hl => ?_)
    rw [hK35] at hB
    exact hB _ _ _ hg hw hS (lv_sub hl [2, 3, 1, 0] rfl)
  · intro o1 x4 x5 σ hB
    rw [hK35]
    intro H locs ls hg hw hS hl
    have hsb := hg _ _ hsb0
    refine lv_iload hx hb d_L_become_35 (lv_at hl 3 rfl) ?_
    refine lv_iload hx hb d_L_become_37 (lv_at hl 2 rfl) ?_
    refine lv_icmp_ge (tgt := 115) hx hb d_L_become_39 (by decide) (fun cd => ?_) (fun cd => ?_)
    · have hB := hB.1 cd
      exact zr_vret hx hb hr hlocks hB hg hw hS d_L_become_115
    · have hB := hB.2 cd
      refine zr_aload_n (o := some b) hx hb d_L_become_42 rfl (lv_at hl 0 rfl) ?_
      refine zr_get (v := .int (s_i σ b 1)) hx hb hC hw rfl hsb fl_L_15 rfl d_L_become_43 ?_
      refine lv_bipush (v := nI 30) hx hb d_L_become_46 (by decide) ?_
      refine lv_icmp_ge (tgt := 115) hx hb d_L_become_48 (by decide) (fun cd => ?_) (fun cd => ?_)
      · have hB := hB.1 cd
        exact zr_vret hx hb hr hlocks hB hg hw hS d_L_become_115
      · have hB := hB.2 cd
        refine zr_aload_n (o := some b) hx hb d_L_become_51 rfl (lv_at hl 0 rfl) ?_
        refine zr_get (v := va_rf (s_r σ b 0)) hx hb hC hw rfl hsb fl_L_11 rfl d_L_become_52 ?_
        refine zr_aload_n (o := some b) hx hb d_L_become_55 rfl (lv_at hl 0 rfl) ?_
        refine zr_get (v := .int (s_i σ b 1)) hx hb hC hw rfl hsb fl_L_15 rfl d_L_become_56 ?_
        refine zr_aload_n (o := o1) hx hb d_L_become_59 rfl (lv_at hl 1 rfl) ?_
        refine lv_iload hx hb d_L_become_60 (lv_at hl 3 rfl) ?_
        obtain ⟨q1, n1, j2, ho, hs, hin, hj, hB⟩ := hB
        refine zr_iald hx hb hw ho hs hin hj d_L_become_62 ?_
        obtain ⟨q3, n3, j4, ho, hs, hin, hj, hB⟩ := hB
        refine zr_iast hx hb hw hS ho hs hin hj d_L_become_63 (fun H locs hw hS => ?_)
        refine zr_aload_n (o := some b) hx hb d_L_become_64 rfl (lv_at hl 0 rfl) ?_
        refine lv_dup hx hb d_L_become_65 (va_rf_cat _) ?_
        refine zr_get (v := .int (s_i (w_i σ q3 j4 (s_i σ q1 j2)) b 1)) hx hb hC hw rfl hsb fl_L_15 rfl d_L_become_66 ?_
        refine lv_iconst (v := nI 1) hx hb d_L_become_69 (by decide) ?_
        refine lv_iadd hx hb d_L_become_70 ?_
        refine zr_putI hx hb hC hw hS rfl hsb fl_L_15 rfl rfl d_L_become_71 (fun H locs hw hS => ?_)
        refine zr_aload_n (o := o1) hx hb d_L_become_74 rfl (lv_at hl 1 rfl) ?_
        refine lv_iload hx hb d_L_become_75 (lv_at hl 3 rfl) ?_
        obtain ⟨q5, n5, j6, ho, hs, hin, hj, hB⟩ := hB
        refine zr_iald hx hb hw ho hs hin hj d_L_become_77 ?_
        refine zr_callS (As := [.int (s_i (w_i (w_i σ q3 j4 (s_i σ q1 j2)) b 1 ((s_i (w_i σ q3 j4 (s_i σ q1 j2)) b 1) + (nI 1))) q5 j6)]) (rest := []) hx hb hml hC hwk hw hS hl.1 (c_L_isLetter l D B (s_i (w_i (w_i σ q3 j4 (s_i σ q1 j2)) b 1 ((s_i (w_i σ q3 j4 (s_i σ q1 j2)) b 1) + (nI 1))) q5 j6) (w_i (w_i σ q3 j4 (s_i σ q1 j2)) b 1 ((s_i (w_i σ q3 j4 (s_i σ q1 j2)) b 1) + (nI 1))) _ hB) mk_L_isLetter mt_L_isLetter ml_L_38 ⟨Nat.le_of_ble_eq_true rfl, Nat.le_of_ble_eq_true rfl⟩ rfl (cat_8 cat_n (Nat.le_of_ble_eq_true rfl)) d_L_become_78 ⟨Nat.le_refl _, Nat.le_refl _⟩ rfl (fun v σ7 H locs hp hgn hw hS => ?_)
        have hg := hg.tr hgn
        have hsb := hgn _ _ hsb
        obtain ⟨r8, rfl, hB⟩ := hp
        refine W.eq (g2 := F0 m 81 ls [.int r8]) rfl ?_
        refine lv_if_eq (tgt := 109) hx hb d_L_become_81 (by decide) (fun cd => ?_) (fun cd => ?_)
        · have hB := hB.1 cd
          refine lv_iinc (v := x5 + nI 1) (lv' := [(5, .int (x5 + nI 1)), (0, va_rf (some b)), (1, va_rf o1), (4, .int x4)]) hx hb d_L_become_109 hl (k := 3) rfl rfl (by decide) rfl (fun ls hl => ?_)
          refine lv_goto (tgt := 35) hx hb d_L_become_112 (by decide) ?_
          rw [hK35] at hB
          exact hB _ _ _ hg hw hS (lv_sub hl [1, 2, 3, 0] rfl)
        · have hB := hB.2 cd
          refine zr_aload_n (o := some b) hx hb d_L_become_84 rfl (lv_at hl 0 rfl) ?_
          refine lv_dup hx hb d_L_become_85 (va_rf_cat _) ?_
          refine zr_get (v := .int (s_i σ7 b 2)) hx hb hC hw rfl hsb fl_L_19 rfl d_L_become_86 ?_
          refine lv_iconst (v := nI 1) hx hb d_L_become_89 (by decide) ?_
          refine lv_iadd hx hb d_L_become_90 ?_
          refine zr_putI hx hb hC hw hS rfl hsb fl_L_19 rfl rfl d_L_become_91 (fun H locs hw hS => ?_)
          refine zr_aload_n (o := some b) hx hb d_L_become_94 rfl (lv_at hl 0 rfl) ?_
          refine lv_dup hx hb d_L_become_95 (va_rf_cat _) ?_
          refine zr_get (v := .int (s_i (w_i σ7 b 2 ((s_i σ7 b 2) + (nI 1))) b 3)) hx hb hC hw rfl hsb fl_L_22 rfl d_L_become_96 ?_
          refine lv_iconst (v := nI 1) hx hb d_L_become_99 (by decide) ?_
          refine zr_aload_n (o := o1) hx hb d_L_become_100 rfl (lv_at hl 1 rfl) ?_
          refine lv_iload hx hb d_L_become_101 (lv_at hl 3 rfl) ?_
          obtain ⟨q9, n9, j10, ho, hs, hin, hj, hB⟩ := hB
          refine zr_iald hx hb hw ho hs hin hj d_L_become_103 ?_
          refine zr_ishl hx hb d_L_become_104 ?_
          refine lv_ior hx hb d_L_become_105 ?_
          refine zr_putI hx hb hC hw hS rfl hsb fl_L_22 rfl rfl d_L_become_106 (fun H locs hw hS => ?_)
          refine lv_iinc (v := x5 + nI 1) (lv' := [(5, .int (x5 + nI 1)), (0, va_rf (some b)), (1, va_rf o1), (4, .int x4)]) hx hb d_L_become_109 hl (k := 3) rfl rfl (by decide) rfl (fun ls hl => ?_)
          refine lv_goto (tgt := 35) hx hb d_L_become_112 (by decide) ?_
          rw [hK35] at hB
          exact hB _ _ _ hg hw hS (lv_sub hl [1, 2, 3, 0] rfl)

set_option maxHeartbeats 4000000 in
set_option maxRecDepth 100000 in
theorem c_S_add (l : Launch) (D : va_G) (B : Nat) (b : Nat) (o1 : Option Nat) (σ : St) (Q : St → Prop) (h : P_S_add b o1 σ Q) : zM l y_S_add b_S_add 2 none (rm_S_add) D B [.ref b, va_rf o1] σ (zQv Q) := by
  refine zM.ofW (own := "LawWorlds$State") (by decide +kernel) rfl (lg_c rfl (lg_c (va_rf_cat _) lg_0)) ?_
  intro p e s m args below meth c ls hx hb hml hr hlocks hname hC hwk hw hS hl
  obtain ⟨σ0, eσ⟩ : ∃ z, z = σ := ⟨_, rfl⟩
  have hg : gr σ0 σ := by rw [eσ]; exact gr.rf
  rw [lv_args_c rfl, lv_args_c (va_rf_cat _)] at hl
  have hl : lv_has ls 2 [(0, va_rf (some b)), (1, va_rf o1)] := hl
  obtain ⟨hsb, hB⟩ := h
  have hsb0 : s_s σ0 b = some (.inl 1) := by rw [eσ]; exact hsb
  rw [← eσ]
  skip
  refine zr_aload_n (o := o1) hx hb d_S_add_0 rfl (lv_at hl 1 rfl) ?_
  refine zr_ifnull (tgt := 42) hx hb d_S_add_1 (by decide) (fun cd => ?_) (fun cd => ?_)
  · have hB := hB.1 cd
    exact zr_vret hx hb hr hlocks hB hg hw hS d_S_add_42
  · have hB := hB.2 cd
    refine zr_aload_n (o := some b) hx hb d_S_add_4 rfl (lv_at hl 0 rfl) ?_
    refine zr_get (v := .int (s_i σ b 2)) hx hb hC hw rfl hsb fl_S_28 rfl d_S_add_5 ?_
    refine lv_iconst (v := nI 5) hx hb d_S_add_8 (by decide) ?_
    refine lv_icmp_ge (tgt := 42) hx hb d_S_add_9 (by decide) (fun cd => ?_) (fun cd => ?_)
    · have hB := hB.1 cd
      exact zr_vret hx hb hr hlocks hB hg hw hS d_S_add_42
    · have hB := hB.2 cd
      refine zr_aload_n (o := some b) hx hb d_S_add_12 rfl (lv_at hl 0 rfl) ?_
      refine zr_get (v := va_rf (s_r σ b 0)) hx hb hC hw rfl hsb fl_S_11 rfl d_S_add_13 ?_
      refine zr_aload_n (o := some b) hx hb d_S_add_16 rfl (lv_at hl 0 rfl) ?_
      refine zr_get (v := .int (s_i σ b 2)) hx hb hC hw rfl hsb fl_S_28 rfl d_S_add_17 ?_
      refine zr_aload_n (o := o1) hx hb d_S_add_20 rfl (lv_at hl 1 rfl) ?_
      obtain ⟨q1, n1, j2, ho, hs, hin, hj, hB⟩ := hB
      refine zr_aast hx hb hC hw hS ho hs rfl hB.1 hin hj d_S_add_21 (fun H locs hw hS => ?_)
      have hB := hB.2
      refine zr_aload_n (o := some b) hx hb d_S_add_22 rfl (lv_at hl 0 rfl) ?_
      refine zr_get (v := va_rf (s_r (w_r σ q1 j2 o1) b 1)) hx hb hC hw rfl hsb fl_S_17 rfl d_S_add_23 ?_
      refine zr_aload_n (o := some b) hx hb d_S_add_26 rfl (lv_at hl 0 rfl) ?_
      refine zr_get (v := .int (s_i (w_r σ q1 j2 o1) b 2)) hx hb hC hw rfl hsb fl_S_28 rfl d_S_add_27 ?_
      refine lv_iconst (v := nI 1) hx hb d_S_add_30 (by decide) ?_
      obtain ⟨q3, n3, j4, ho, hs, hin, hj, hB⟩ := hB
      refine zr_zast hx hb hw hS ho hs hin hj d_S_add_31 (fun H locs hw hS => ?_)
      refine zr_aload_n (o := some b) hx hb d_S_add_32 rfl (lv_at hl 0 rfl) ?_
      refine lv_dup hx hb d_S_add_33 (va_rf_cat _) ?_
      refine zr_get (v := .int (s_i (w_i (w_r σ q1 j2 o1) q3 j4 (vp_nar .boolean (nI 1))) b 2)) hx hb hC hw rfl hsb fl_S_28 rfl d_S_add_34 ?_
      refine lv_iconst (v := nI 1) hx hb d_S_add_37 (by decide) ?_
      refine lv_iadd hx hb d_S_add_38 ?_
      refine zr_putI hx hb hC hw hS rfl hsb fl_S_28 rfl rfl d_S_add_39 (fun H locs hw hS => ?_)
      exact zr_vret hx hb hr hlocks hB hg hw hS d_S_add_42

set_option maxHeartbeats 4000000 in
set_option maxRecDepth 100000 in
theorem c_S_hasLaw (l : Launch) (D : va_G) (B : Nat) (b : Nat) (x1 : Int32) (σ : St) (Q : Int32 → St → Prop) (h : P_S_hasLaw b x1 σ Q) : zM l y_S_hasLaw b_S_hasLaw 2 (some (.boolean)) (rm_S_hasLaw) D B [.ref b, .int x1] σ (zQi Q) := by
  refine zM.ofW (own := "LawWorlds$State") (by decide +kernel) rfl (Nat.le_of_ble_eq_true rfl) ?_
  intro p e s m args below meth c ls hx hb hml hr hlocks hname hC hwk hw hS hl
  obtain ⟨σ0, eσ⟩ : ∃ z, z = σ := ⟨_, rfl⟩
  have hg : gr σ0 σ := by rw [eσ]; exact gr.rf
  have hl : lv_has ls 2 [(0, va_rf (some b)), (1, .int x1)] := hl
  obtain ⟨hsb, hB⟩ := h
  have hsb0 : s_s σ0 b = some (.inl 1) := by rw [eσ]; exact hsb
  rw [← eσ]
  skip
  refine lv_iload_n hx hb d_S_hasLaw_0 rfl (lv_at hl 1 rfl) ?_
  refine lv_if_lt (tgt := 21) hx hb d_S_hasLaw_1 (by decide) (fun cd => ?_) (fun cd => ?_)
  · have hB := hB.1 cd
    refine lv_iconst (v := nI 0) hx hb d_S_hasLaw_21 (by decide) ?_
    exact zr_zret hx hb hr hlocks (Or.inl rfl) hB hg hw hS d_S_hasLaw_22
  · have hB := hB.2 cd
    refine lv_iload_n hx hb d_S_hasLaw_4 rfl (lv_at hl 1 rfl) ?_
    refine zr_aload_n (o := some b) hx hb d_S_hasLaw_5 rfl (lv_at hl 0 rfl) ?_
    refine zr_get (v := .int (s_i σ b 2)) hx hb hC hw rfl hsb fl_S_28 rfl d_S_hasLaw_6 ?_
    refine lv_icmp_ge (tgt := 21) hx hb d_S_hasLaw_9 (by decide) (fun cd => ?_) (fun cd => ?_)
    · have hB := hB.1 cd
      refine lv_iconst (v := nI 0) hx hb d_S_hasLaw_21 (by decide) ?_
      exact zr_zret hx hb hr hlocks (Or.inl rfl) hB hg hw hS d_S_hasLaw_22
    · have hB := hB.2 cd
      refine lv_iload_n hx hb d_S_hasLaw_12 rfl (lv_at hl 1 rfl) ?_
      refine lv_iconst (v := nI 5) hx hb d_S_hasLaw_13 (by decide) ?_
      refine lv_icmp_ge (tgt := 21) hx hb d_S_hasLaw_14 (by decide) (fun cd => ?_) (fun cd => ?_)
      · have hB := hB.1 cd
        refine lv_iconst (v := nI 0) hx hb d_S_hasLaw_21 (by decide) ?_
        exact zr_zret hx hb hr hlocks (Or.inl rfl) hB hg hw hS d_S_hasLaw_22
      · have hB := hB.2 cd
        refine lv_iconst (v := nI 1) hx hb d_S_hasLaw_17 (by decide) ?_
        refine lv_goto (tgt := 22) hx hb d_S_hasLaw_18 (by decide) ?_
        exact zr_zret hx hb hr hlocks (Or.inr rfl) hB hg hw hS d_S_hasLaw_22

set_option maxHeartbeats 4000000 in
set_option maxRecDepth 100000 in
theorem c_S_remove (l : Launch) (D : va_G) (B : Nat) (b : Nat) (x1 : Int32) (σ : St) (Q : St → Prop) (h : P_S_remove b x1 σ Q) : zM l y_S_remove b_S_remove 3 none (rm_S_remove) D B [.ref b, .int x1] σ (zQv Q) := by
  refine zM.ofW (own := "LawWorlds$State") (by decide +kernel) rfl (Nat.le_of_ble_eq_true rfl) ?_
  intro p e s m args below meth c ls hx hb hml hr hlocks hname hC hwk hw hS hl
  obtain ⟨σ0, eσ⟩ : ∃ z, z = σ := ⟨_, rfl⟩
  have hg : gr σ0 σ := by rw [eσ]; exact gr.rf
  have hl : lv_has ls 3 [(0, va_rf (some b)), (1, .int x1)] := hl
  obtain ⟨hsb, hB⟩ := h
  have hsb0 : s_s σ0 b = some (.inl 1) := by rw [eσ]; exact hsb
  rw [← eσ]
  skip
  obtain ⟨K21, hK21⟩ : ∃ K : Int32 → St → Prop, K = (fun (x2 : Int32) (σ : St) => ∀ (H : Heap) (locs : List Loc) (ls : Array Slot), gr σ0 σ → wh D B σ s H → va_S (zA B) s.heap H locs → lv_has ls 3 [(0, va_rf (some b)), (2, .int x2)] → W p l e (rm_S_remove) s m args below meth c H locs 0 0 (MQ below (zQ D B σ0 (zQv Q)) args s (rm_S_remove).cells (rm_S_remove).slots (zA B)) (F0 m 21 ls [])) := ⟨_, rfl⟩
  refine (fun hB => ?_) (hB K21 ?_)
  · skip
    refine zr_aload_n (o := some b) hx hb d_S_remove_0 rfl (lv_at hl 0 rfl) ?_
    refine lv_iload_n hx hb d_S_remove_1 rfl (lv_at hl 1 rfl) ?_
    have hsr := And.left hB
    refine zr_callV (ci := 1) (As := [.int x1]) (rest := []) hx hb hml hC hwk hw hS hl.1 (c_S_hasLaw l D B b x1 σ _ hB) mk_S_hasLaw mi_S_hasLaw ms_S_hasLaw ml_S_31 ⟨Nat.le_of_ble_eq_true rfl, Nat.le_of_ble_eq_true rfl⟩ rfl hsr rfl (cat_8 cat_n (Nat.le_of_ble_eq_true rfl)) d_S_remove_2 ⟨Nat.le_refl _, Nat.le_refl _⟩ rfl (fun v σ9 H locs hp hgn hw hS => ?_)
    have hg := hg.tr hgn
    have hsb := hgn _ _ hsb
    obtain ⟨r10, rfl, hB⟩ := hp
    refine W.eq (g2 := F0 m 5 ls [.int r10]) rfl ?_
    refine lv_if_ne (tgt := 9) hx hb d_S_remove_5 (by decide) (fun cd => ?_) (fun cd => ?_)
    · have hB := hB.2 cd
      refine zr_aload_n (o := some b) hx hb d_S_remove_9 rfl (lv_at hl 0 rfl) ?_
      refine lv_dup hx hb d_S_remove_10 (va_rf_cat _) ?_
      refine zr_get (v := .int (s_i σ9 b 2)) hx hb hC hw rfl hsb fl_S_28 rfl d_S_remove_11 ?_
      refine lv_iconst (v := nI 1) hx hb d_S_remove_14 (by decide) ?_
      refine lv_isub hx hb d_S_remove_15 ?_
      refine zr_putI hx hb hC hw hS rfl hsb fl_S_28 rfl rfl d_S_remove_16 (fun H locs hw hS => ?_)
      refine lv_iload_n hx hb d_S_remove_19 rfl (lv_at hl 1 rfl) ?_
      refine lv_istore_n (lv' := [(2, .int x1), (0, va_rf (some b)), (1, .int x1)]) hx hb d_S_remove_20 rfl hl (by decide) rfl (fun ls hl => ?_)
      rw [hK21] at hB
      exact hB _ _ _ hg hw hS (lv_sub hl [1, 0] rfl)
    · have hB := hB.1 cd
      exact zr_vret hx hb hr hlocks hB hg hw hS d_S_remove_8
  · intro x2 σ hB
    rw [hK21]
    intro H locs ls hg hw hS hl
    have hsb := hg _ _ hsb0
    refine lv_iload_n hx hb d_S_remove_21 rfl (lv_at hl 1 rfl) ?_
    refine zr_aload_n (o := some b) hx hb d_S_remove_22 rfl (lv_at hl 0 rfl) ?_
    refine zr_get (v := .int (s_i σ b 2)) hx hb hC hw rfl hsb fl_S_28 rfl d_S_remove_23 ?_
    refine lv_icmp_ge (tgt := 63) hx hb d_S_remove_26 (by decide) (fun cd => ?_) (fun cd => ?_)
    · have hB := hB.1 cd
      exact zr_vret hx hb hr hlocks hB hg hw hS d_S_remove_63
    · have hB := hB.2 cd
      refine zr_aload_n (o := some b) hx hb d_S_remove_29 rfl (lv_at hl 0 rfl) ?_
      refine zr_get (v := va_rf (s_r σ b 0)) hx hb hC hw rfl hsb fl_S_11 rfl d_S_remove_30 ?_
      refine lv_iload_n hx hb d_S_remove_33 rfl (lv_at hl 1 rfl) ?_
      refine zr_aload_n (o := some b) hx hb d_S_remove_34 rfl (lv_at hl 0 rfl) ?_
      refine zr_get (v := va_rf (s_r σ b 0)) hx hb hC hw rfl hsb fl_S_11 rfl d_S_remove_35 ?_
      refine lv_iload_n hx hb d_S_remove_38 rfl (lv_at hl 1 rfl) ?_
      refine lv_iconst (v := nI 1) hx hb d_S_remove_39 (by decide) ?_
      refine lv_iadd hx hb d_S_remove_40 ?_
      obtain ⟨q1, n1, j2, ho, hs, hin, hj, hB⟩ := hB
      refine zr_aald hx hb hw ho hs ⟨_, rfl⟩ hin hj d_S_remove_41 ?_
      obtain ⟨q3, n3, j4, ho, hs, hin, hj, hB⟩ := hB
      refine zr_aast hx hb hC hw hS ho hs rfl hB.1 hin hj d_S_remove_42 (fun H locs hw hS => ?_)
      have hB := hB.2
      refine zr_aload_n (o := some b) hx hb d_S_remove_43 rfl (lv_at hl 0 rfl) ?_
      refine zr_get (v := va_rf (s_r (w_r σ q3 j4 (s_r σ q1 j2)) b 1)) hx hb hC hw rfl hsb fl_S_17 rfl d_S_remove_44 ?_
      refine lv_iload_n hx hb d_S_remove_47 rfl (lv_at hl 1 rfl) ?_
      refine zr_aload_n (o := some b) hx hb d_S_remove_48 rfl (lv_at hl 0 rfl) ?_
      refine zr_get (v := va_rf (s_r (w_r σ q3 j4 (s_r σ q1 j2)) b 1)) hx hb hC hw rfl hsb fl_S_17 rfl d_S_remove_49 ?_
      refine lv_iload_n hx hb d_S_remove_52 rfl (lv_at hl 1 rfl) ?_
      refine lv_iconst (v := nI 1) hx hb d_S_remove_53 (by decide) ?_
      refine lv_iadd hx hb d_S_remove_54 ?_
      obtain ⟨q5, n5, j6, ho, hs, hin, hj, hB⟩ := hB
      refine zr_zald hx hb hw ho hs hin hj d_S_remove_55 ?_
      obtain ⟨q7, n7, j8, ho, hs, hin, hj, hB⟩ := hB
      refine zr_zast hx hb hw hS ho hs hin hj d_S_remove_56 (fun H locs hw hS => ?_)
      refine lv_iinc (v := x2 + nI 1) (lv' := [(2, .int (x2 + nI 1)), (0, va_rf (some b))]) hx hb d_S_remove_57 hl (k := 1) rfl rfl (by decide) rfl (fun ls hl => ?_)
      refine lv_goto (tgt := 21) hx hb d_S_remove_60 (by decide) ?_
      rw [hK21] at hB
      exact hB _ _ _ hg hw hS (lv_sub hl [1, 0] rfl)

set_option maxHeartbeats 4000000 in
set_option maxRecDepth 100000 in
theorem c_S_onCount (l : Launch) (D : va_G) (B : Nat) (b : Nat) (σ : St) (Q : Int32 → St → Prop) (h : P_S_onCount b σ Q) : zM l y_S_onCount b_S_onCount 3 (some (.int)) (rm_S_onCount) D B [.ref b] σ (zQi Q) := by
  refine zM.ofW (own := "LawWorlds$State") (by decide +kernel) rfl (Nat.le_of_ble_eq_true rfl) ?_
  intro p e s m args below meth c ls hx hb hml hr hlocks hname hC hwk hw hS hl
  obtain ⟨σ0, eσ⟩ : ∃ z, z = σ := ⟨_, rfl⟩
  have hg : gr σ0 σ := by rw [eσ]; exact gr.rf
  have hl : lv_has ls 3 [(0, va_rf (some b))] := hl
  obtain ⟨hsb, hB⟩ := h
  have hsb0 : s_s σ0 b = some (.inl 1) := by rw [eσ]; exact hsb
  rw [← eσ]
  skip
  obtain ⟨K4, hK4⟩ : ∃ K : Int32 → Int32 → St → Prop, K = (fun (x1 : Int32) (x2 : Int32) (σ : St) => ∀ (H : Heap) (locs : List Loc) (ls : Array Slot), gr σ0 σ → wh D B σ s H → va_S (zA B) s.heap H locs → lv_has ls 3 [(0, va_rf (some b)), (1, .int x1), (2, .int x2)] → W p l e (rm_S_onCount) s m args below meth c H locs 0 0 (MQ below (zQ D B σ0 (zQi Q)) args s (rm_S_onCount).cells (rm_S_onCount).slots (zA B)) (F0 m 4 ls [])) := ⟨_, rfl⟩
  refine (fun hB => ?_) (hB K4 ?_)
  · skip
    refine lv_iconst (v := nI 0) hx hb d_S_onCount_0 (by decide) ?_
    refine lv_istore_n (lv' := [(1, .int (nI 0)), (0, va_rf (some b))]) hx hb d_S_onCount_1 rfl hl (by decide) rfl (fun ls hl => ?_)
    refine lv_iconst (v := nI 0) hx hb d_S_onCount_2 (by decide) ?_
    refine lv_istore_n (lv' := [(2, .int (nI 0)), (1, .int (nI 0)), (0, va_rf (some b))]) hx hb d_S_onCount_3 rfl hl (by decide) rfl (fun ls hl => ?_)
    rw [hK4] at hB
    exact hB _ _ _ hg hw hS (lv_sub hl [2, 1, 0] rfl)
  · intro x1 x2 σ hB
    rw [hK4]
    intro H locs ls hg hw hS hl
    have hsb := hg _ _ hsb0
    refine lv_iload_n hx hb d_S_onCount_4 rfl (lv_at hl 2 rfl) ?_
    refine zr_aload_n (o := some b) hx hb d_S_onCount_5 rfl (lv_at hl 0 rfl) ?_
    refine zr_get (v := .int (s_i σ b 2)) hx hb hC hw rfl hsb fl_S_28 rfl d_S_onCount_6 ?_
    refine lv_icmp_ge (tgt := 30) hx hb d_S_onCount_9 (by decide) (fun cd => ?_) (fun cd => ?_)
    · have hB := hB.1 cd
      refine lv_iload_n hx hb d_S_onCount_30 rfl (lv_at hl 1 rfl) ?_
      exact zr_iret hx hb hr hlocks hB hg hw hS d_S_onCount_31
    · have hB := hB.2 cd
      refine zr_aload_n (o := some b) hx hb d_S_onCount_12 rfl (lv_at hl 0 rfl) ?_
      refine zr_get (v := va_rf (s_r σ b 1)) hx hb hC hw rfl hsb fl_S_17 rfl d_S_onCount_13 ?_
      refine lv_iload_n hx hb d_S_onCount_16 rfl (lv_at hl 2 rfl) ?_
      obtain ⟨q1, n1, j2, ho, hs, hin, hj, hB⟩ := hB
      refine zr_zald hx hb hw ho hs hin hj d_S_onCount_17 ?_
      refine lv_if_eq (tgt := 24) hx hb d_S_onCount_18 (by decide) (fun cd => ?_) (fun cd => ?_)
      · have hB := hB.1 cd
        refine lv_iinc (v := x2 + nI 1) (lv' := [(2, .int (x2 + nI 1)), (0, va_rf (some b)), (1, .int x1)]) hx hb d_S_onCount_24 hl (k := 2) rfl rfl (by decide) rfl (fun ls hl => ?_)
        refine lv_goto (tgt := 4) hx hb d_S_onCount_27 (by decide) ?_
        rw [hK4] at hB
        exact hB _ _ _ hg hw hS (lv_sub hl [1, 2, 0] rfl)
      · have hB := hB.2 cd
        refine lv_iinc (v := x1 + nI 1) (lv' := [(1, .int (x1 + nI 1)), (0, va_rf (some b)), (2, .int x2)]) hx hb d_S_onCount_21 hl (k := 1) rfl rfl (by decide) rfl (fun ls hl => ?_)
        refine lv_iinc (v := x2 + nI 1) (lv' := [(2, .int (x2 + nI 1)), (1, .int (x1 + nI 1)), (0, va_rf (some b))]) hx hb d_S_onCount_24 hl (k := 2) rfl rfl (by decide) rfl (fun ls hl => ?_)
        refine lv_goto (tgt := 4) hx hb d_S_onCount_27 (by decide) ?_
        rw [hK4] at hB
        exact hB _ _ _ hg hw hS (lv_sub hl [2, 1, 0] rfl)

set_option maxHeartbeats 4000000 in
set_option maxRecDepth 100000 in
theorem c_S_lawAt (l : Launch) (D : va_G) (B : Nat) (b : Nat) (x1 : Int32) (σ : St) (Q : Option Nat → St → Prop) (h : P_S_lawAt b x1 σ Q) : zM l y_S_lawAt b_S_lawAt 2 (some (.object "LawWorlds$Law")) (rm_S_lawAt) D B [.ref b, .int x1] σ (zQr Q) := by
  refine zM.ofW (own := "LawWorlds$State") (by decide +kernel) rfl (Nat.le_of_ble_eq_true rfl) ?_
  intro p e s m args below meth c ls hx hb hml hr hlocks hname hC hwk hw hS hl
  obtain ⟨σ0, eσ⟩ : ∃ z, z = σ := ⟨_, rfl⟩
  have hg : gr σ0 σ := by rw [eσ]; exact gr.rf
  have hl : lv_has ls 2 [(0, va_rf (some b)), (1, .int x1)] := hl
  obtain ⟨hsb, hB⟩ := h
  have hsb0 : s_s σ0 b = some (.inl 1) := by rw [eσ]; exact hsb
  rw [← eσ]
  skip
  refine zr_aload_n (o := some b) hx hb d_S_lawAt_0 rfl (lv_at hl 0 rfl) ?_
  refine lv_iload_n hx hb d_S_lawAt_1 rfl (lv_at hl 1 rfl) ?_
  have hsr := And.left hB
  refine zr_callV (ci := 1) (As := [.int x1]) (rest := []) hx hb hml hC hwk hw hS hl.1 (c_S_hasLaw l D B b x1 σ _ hB) mk_S_hasLaw mi_S_hasLaw ms_S_hasLaw ml_S_31 ⟨Nat.le_of_ble_eq_true rfl, Nat.le_of_ble_eq_true rfl⟩ rfl hsr rfl (cat_8 cat_n (Nat.le_of_ble_eq_true rfl)) d_S_lawAt_2 ⟨Nat.le_refl _, Nat.le_refl _⟩ rfl (fun v σ1 H locs hp hgn hw hS => ?_)
  have hg := hg.tr hgn
  have hsb := hgn _ _ hsb
  obtain ⟨r2, rfl, hB⟩ := hp
  refine W.eq (g2 := F0 m 5 ls [.int r2]) rfl ?_
  refine lv_if_eq (tgt := 17) hx hb d_S_lawAt_5 (by decide) (fun cd => ?_) (fun cd => ?_)
  · have hB := hB.1 cd
    refine zr_null hx hb d_S_lawAt_17 ?_
    exact zr_aret hx hb hr (Or.inl ⟨_, rfl⟩) hlocks hB hg hw hS d_S_lawAt_18
  · have hB := hB.2 cd
    refine zr_aload_n (o := some b) hx hb d_S_lawAt_8 rfl (lv_at hl 0 rfl) ?_
    refine zr_get (v := va_rf (s_r σ1 b 0)) hx hb hC hw rfl hsb fl_S_11 rfl d_S_lawAt_9 ?_
    refine lv_iload_n hx hb d_S_lawAt_12 rfl (lv_at hl 1 rfl) ?_
    obtain ⟨q3, n3, j4, ho, hs, hin, hj, hB⟩ := hB
    refine zr_aald hx hb hw ho hs ⟨_, rfl⟩ hin hj d_S_lawAt_13 ?_
    refine lv_goto (tgt := 18) hx hb d_S_lawAt_14 (by decide) ?_
    exact zr_aret hx hb hr (Or.inl ⟨_, rfl⟩) hlocks hB hg hw hS d_S_lawAt_18

set_option maxHeartbeats 4000000 in
set_option maxRecDepth 100000 in
theorem c_B_fillLetters (l : Launch) (D : va_G) (B : Nat) (b : Nat) (σ : St) (Q : St → Prop) (h : P_B_fillLetters b σ Q) : zM l y_B_fillLetters b_B_fillLetters 3 none (rm_B_fillLetters) D B [.ref b] σ (zQv Q) := by
  refine zM.ofW (own := "LawWorlds$Bench") (by decide +kernel) rfl (Nat.le_of_ble_eq_true rfl) ?_
  intro p e s m args below meth c ls hx hb hml hr hlocks hname hC hwk hw hS hl
  obtain ⟨σ0, eσ⟩ : ∃ z, z = σ := ⟨_, rfl⟩
  have hg : gr σ0 σ := by rw [eσ]; exact gr.rf
  have hl : lv_has ls 3 [(0, va_rf (some b))] := hl
  obtain ⟨hsb, hB⟩ := h
  have hsb0 : s_s σ0 b = some (.inl 5) := by rw [eσ]; exact hsb
  rw [← eσ]
  skip
  obtain ⟨K2, hK2⟩ : ∃ K : Int32 → St → Prop, K = (fun (x1 : Int32) (σ : St) => ∀ (H : Heap) (locs : List Loc) (ls : Array Slot), gr σ0 σ → wh D B σ s H → va_S (zA B) s.heap H locs → lv_has ls 3 [(0, va_rf (some b)), (1, .int x1)] → W p l e (rm_B_fillLetters) s m args below meth c H locs 0 0 (MQ below (zQ D B σ0 (zQv Q)) args s (rm_B_fillLetters).cells (rm_B_fillLetters).slots (zA B)) (F0 m 2 ls [])) := ⟨_, rfl⟩
  obtain ⟨K41, hK41⟩ : ∃ K : Int32 → Int32 → St → Prop, K = (fun (x1 : Int32) (x2 : Int32) (σ : St) => ∀ (H : Heap) (locs : List Loc) (ls : Array Slot), gr σ0 σ → wh D B σ s H → va_S (zA B) s.heap H locs → lv_has ls 3 [(0, va_rf (some b)), (1, .int x1), (2, .int x2)] → W p l e (rm_B_fillLetters) s m args below meth c H locs 0 0 (MQ below (zQ D B σ0 (zQv Q)) args s (rm_B_fillLetters).cells (rm_B_fillLetters).slots (zA B)) (F0 m 41 ls [])) := ⟨_, rfl⟩
  refine (fun hB => ?_) (hB K2 K41 ?_ ?_)
  · skip
    refine lv_iconst (v := nI 0) hx hb d_B_fillLetters_0 (by decide) ?_
    refine lv_istore_n (lv' := [(1, .int (nI 0)), (0, va_rf (some b))]) hx hb d_B_fillLetters_1 rfl hl (by decide) rfl (fun ls hl => ?_)
    rw [hK2] at hB
    exact hB _ _ _ hg hw hS (lv_sub hl [1, 0] rfl)
  · intro x1 σ hB
    rw [hK2]
    intro H locs ls hg hw hS hl
    have hsb := hg _ _ hsb0
    refine lv_iload_n hx hb d_B_fillLetters_2 rfl (lv_at hl 1 rfl) ?_
    refine zr_aload_n (o := some b) hx hb d_B_fillLetters_3 rfl (lv_at hl 0 rfl) ?_
    refine zr_get (v := va_rf (s_r σ b 1)) hx hb hC hw rfl hsb fl_B_15 rfl d_B_fillLetters_4 ?_
    obtain ⟨q, t, n1, ho, hs, hB⟩ := hB
    refine zr_alen (v := nI n1) hx hb hw ho hs rfl d_B_fillLetters_7 ?_
    refine lv_icmp_ge (tgt := 24) hx hb d_B_fillLetters_8 (by decide) (fun cd => ?_) (fun cd => ?_)
    · have hB := hB.1 cd
      refine zr_aload_n (o := some b) hx hb d_B_fillLetters_24 rfl (lv_at hl 0 rfl) ?_
      refine zr_get (v := .int (s_i σ b 4)) hx hb hC hw rfl hsb fl_B_30 rfl d_B_fillLetters_25 ?_
      refine zr_aload_n (o := some b) hx hb d_B_fillLetters_28 rfl (lv_at hl 0 rfl) ?_
      refine zr_get (v := .int (s_i σ b 4)) hx hb hC hw rfl hsb fl_B_30 rfl d_B_fillLetters_29 ?_
      refine lv_imul hx hb d_B_fillLetters_32 ?_
      refine zr_aload_n (o := some b) hx hb d_B_fillLetters_33 rfl (lv_at hl 0 rfl) ?_
      refine zr_get (v := .int (s_i σ b 4)) hx hb hC hw rfl hsb fl_B_30 rfl d_B_fillLetters_34 ?_
      refine lv_imul hx hb d_B_fillLetters_37 ?_
      refine lv_istore_n (lv' := [(1, .int (((s_i σ b 4) * (s_i σ b 4)) * (s_i σ b 4))), (0, va_rf (some b))]) hx hb d_B_fillLetters_38 rfl hl (by decide) rfl (fun ls hl => ?_)
      refine lv_iconst (v := nI 0) hx hb d_B_fillLetters_39 (by decide) ?_
      refine lv_istore_n (lv' := [(2, .int (nI 0)), (1, .int (((s_i σ b 4) * (s_i σ b 4)) * (s_i σ b 4))), (0, va_rf (some b))]) hx hb d_B_fillLetters_40 rfl hl (by decide) rfl (fun ls hl => ?_)
      rw [hK41] at hB
      exact hB _ _ _ hg hw hS (lv_sub hl [2, 1, 0] rfl)
    · have hB := hB.2 cd
      refine zr_aload_n (o := some b) hx hb d_B_fillLetters_11 rfl (lv_at hl 0 rfl) ?_
      refine zr_get (v := va_rf (s_r σ b 1)) hx hb hC hw rfl hsb fl_B_15 rfl d_B_fillLetters_12 ?_
      refine lv_iload_n hx hb d_B_fillLetters_15 rfl (lv_at hl 1 rfl) ?_
      refine lv_iconst (v := nI 0) hx hb d_B_fillLetters_16 (by decide) ?_
      obtain ⟨q2, n2, j3, ho, hs, hin, hj, hB⟩ := hB
      refine zr_iast hx hb hw hS ho hs hin hj d_B_fillLetters_17 (fun H locs hw hS => ?_)
      refine lv_iinc (v := x1 + nI 1) (lv' := [(1, .int (x1 + nI 1)), (0, va_rf (some b))]) hx hb d_B_fillLetters_18 hl (k := 1) rfl rfl (by decide) rfl (fun ls hl => ?_)
      refine lv_goto (tgt := 2) hx hb d_B_fillLetters_21 (by decide) ?_
      rw [hK2] at hB
      exact hB _ _ _ hg hw hS (lv_sub hl [1, 0] rfl)
  · intro x1 x2 σ hB
    rw [hK41]
    intro H locs ls hg hw hS hl
    have hsb := hg _ _ hsb0
    refine lv_iload_n hx hb d_B_fillLetters_41 rfl (lv_at hl 2 rfl) ?_
    refine lv_iload_n hx hb d_B_fillLetters_42 rfl (lv_at hl 1 rfl) ?_
    refine lv_icmp_ge (tgt := 125) hx hb d_B_fillLetters_43 (by decide) (fun cd => ?_) (fun cd => ?_)
    · have hB := hB.1 cd
      exact zr_vret hx hb hr hlocks hB hg hw hS d_B_fillLetters_125
    · have hB := hB.2 cd
      refine zr_aload_n (o := some b) hx hb d_B_fillLetters_46 rfl (lv_at hl 0 rfl) ?_
      refine zr_get (v := .int (s_i σ b 4)) hx hb hC hw rfl hsb fl_B_30 rfl d_B_fillLetters_47 ?_
      refine lv_if_le (tgt := 125) hx hb d_B_fillLetters_50 (by decide) (fun cd => ?_) (fun cd => ?_)
      · have hB := hB.1 cd
        exact zr_vret hx hb hr hlocks hB hg hw hS d_B_fillLetters_125
      · have hB := hB.2 cd
        refine zr_aload_n (o := some b) hx hb d_B_fillLetters_53 rfl (lv_at hl 0 rfl) ?_
        refine zr_get (v := va_rf (s_r σ b 1)) hx hb hC hw rfl hsb fl_B_15 rfl d_B_fillLetters_54 ?_
        refine lv_iload_n hx hb d_B_fillLetters_57 rfl (lv_at hl 2 rfl) ?_
        refine zr_aload_n (o := some b) hx hb d_B_fillLetters_58 rfl (lv_at hl 0 rfl) ?_
        refine zr_get (v := .int (s_i σ b 4)) hx hb hC hw rfl hsb fl_B_30 rfl d_B_fillLetters_59 ?_
        refine zr_irem hx hb d_B_fillLetters_62 hB.1 ?_
        have hB := hB.2
        refine lv_dup2_11 hx hb d_B_fillLetters_63 rfl (va_rf_cat _) ?_
        obtain ⟨q4, n4, j5, ho, hs, hin, hj, hB⟩ := hB
        refine zr_iald hx hb hw ho hs hin hj d_B_fillLetters_64 ?_
        refine lv_iconst (v := nI 1) hx hb d_B_fillLetters_65 (by decide) ?_
        refine lv_iload_n hx hb d_B_fillLetters_66 rfl (lv_at hl 2 rfl) ?_
        refine zr_ishl hx hb d_B_fillLetters_67 ?_
        refine lv_ior hx hb d_B_fillLetters_68 ?_
        obtain ⟨q6, n6, j7, ho, hs, hin, hj, hB⟩ := hB
        refine zr_iast hx hb hw hS ho hs hin hj d_B_fillLetters_69 (fun H locs hw hS => ?_)
        refine zr_aload_n (o := some b) hx hb d_B_fillLetters_70 rfl (lv_at hl 0 rfl) ?_
        refine zr_get (v := va_rf (s_r (w_i σ q6 j7 ((s_i σ q4 j5) ||| (shl (nI 1) x2))) b 1)) hx hb hC hw rfl hsb fl_B_15 rfl d_B_fillLetters_71 ?_
        refine lv_iconst (v := nI 3) hx hb d_B_fillLetters_74 (by decide) ?_
        refine lv_iload_n hx hb d_B_fillLetters_75 rfl (lv_at hl 2 rfl) ?_
        refine zr_aload_n (o := some b) hx hb d_B_fillLetters_76 rfl (lv_at hl 0 rfl) ?_
        refine zr_get (v := .int (s_i (w_i σ q6 j7 ((s_i σ q4 j5) ||| (shl (nI 1) x2))) b 4)) hx hb hC hw rfl hsb fl_B_30 rfl d_B_fillLetters_77 ?_
        refine lv_idiv hx hb d_B_fillLetters_80 hB.1 ?_
        have hB := hB.2
        refine zr_aload_n (o := some b) hx hb d_B_fillLetters_81 rfl (lv_at hl 0 rfl) ?_
        refine zr_get (v := .int (s_i (w_i σ q6 j7 ((s_i σ q4 j5) ||| (shl (nI 1) x2))) b 4)) hx hb hC hw rfl hsb fl_B_30 rfl d_B_fillLetters_82 ?_
        refine zr_irem hx hb d_B_fillLetters_85 hB.1 ?_
        have hB := hB.2
        refine lv_iadd hx hb d_B_fillLetters_86 ?_
        refine lv_dup2_11 hx hb d_B_fillLetters_87 rfl (va_rf_cat _) ?_
        obtain ⟨q8, n8, j9, ho, hs, hin, hj, hB⟩ := hB
        refine zr_iald hx hb hw ho hs hin hj d_B_fillLetters_88 ?_
        refine lv_iconst (v := nI 1) hx hb d_B_fillLetters_89 (by decide) ?_
        refine lv_iload_n hx hb d_B_fillLetters_90 rfl (lv_at hl 2 rfl) ?_
        refine zr_ishl hx hb d_B_fillLetters_91 ?_
        refine lv_ior hx hb d_B_fillLetters_92 ?_
        obtain ⟨q10, n10, j11, ho, hs, hin, hj, hB⟩ := hB
        refine zr_iast hx hb hw hS ho hs hin hj d_B_fillLetters_93 (fun H locs hw hS => ?_)
        refine zr_aload_n (o := some b) hx hb d_B_fillLetters_94 rfl (lv_at hl 0 rfl) ?_
        refine zr_get (v := va_rf (s_r (w_i (w_i σ q6 j7 ((s_i σ q4 j5) ||| (shl (nI 1) x2))) q10 j11 ((s_i (w_i σ q6 j7 ((s_i σ q4 j5) ||| (shl (nI 1) x2))) q8 j9) ||| (shl (nI 1) x2))) b 1)) hx hb hC hw rfl hsb fl_B_15 rfl d_B_fillLetters_95 ?_
        refine lv_bipush (v := nI 6) hx hb d_B_fillLetters_98 (by decide) ?_
        refine lv_iload_n hx hb d_B_fillLetters_100 rfl (lv_at hl 2 rfl) ?_
        refine zr_aload_n (o := some b) hx hb d_B_fillLetters_101 rfl (lv_at hl 0 rfl) ?_
        refine zr_get (v := .int (s_i (w_i (w_i σ q6 j7 ((s_i σ q4 j5) ||| (shl (nI 1) x2))) q10 j11 ((s_i (w_i σ q6 j7 ((s_i σ q4 j5) ||| (shl (nI 1) x2))) q8 j9) ||| (shl (nI 1) x2))) b 4)) hx hb hC hw rfl hsb fl_B_30 rfl d_B_fillLetters_102 ?_
        refine zr_aload_n (o := some b) hx hb d_B_fillLetters_105 rfl (lv_at hl 0 rfl) ?_
        refine zr_get (v := .int (s_i (w_i (w_i σ q6 j7 ((s_i σ q4 j5) ||| (shl (nI 1) x2))) q10 j11 ((s_i (w_i σ q6 j7 ((s_i σ q4 j5) ||| (shl (nI 1) x2))) q8 j9) ||| (shl (nI 1) x2))) b 4)) hx hb hC hw rfl hsb fl_B_30 rfl d_B_fillLetters_106 ?_
        refine lv_imul hx hb d_B_fillLetters_109 ?_
        refine lv_idiv hx hb d_B_fillLetters_110 hB.1 ?_
        have hB := hB.2
        refine lv_iadd hx hb d_B_fillLetters_111 ?_
        refine lv_dup2_11 hx hb d_B_fillLetters_112 rfl (va_rf_cat _) ?_
        obtain ⟨q12, n12, j13, ho, hs, hin, hj, hB⟩ := hB
        refine zr_iald hx hb hw ho hs hin hj d_B_fillLetters_113 ?_
        refine lv_iconst (v := nI 1) hx hb d_B_fillLetters_114 (by decide) ?_
        refine lv_iload_n hx hb d_B_fillLetters_115 rfl (lv_at hl 2 rfl) ?_
        refine zr_ishl hx hb d_B_fillLetters_116 ?_
        refine lv_ior hx hb d_B_fillLetters_117 ?_
        obtain ⟨q14, n14, j15, ho, hs, hin, hj, hB⟩ := hB
        refine zr_iast hx hb hw hS ho hs hin hj d_B_fillLetters_118 (fun H locs hw hS => ?_)
        refine lv_iinc (v := x2 + nI 1) (lv' := [(2, .int (x2 + nI 1)), (0, va_rf (some b)), (1, .int x1)]) hx hb d_B_fillLetters_119 hl (k := 2) rfl rfl (by decide) rfl (fun ls hl => ?_)
        refine lv_goto (tgt := 41) hx hb d_B_fillLetters_122 (by decide) ?_
        rw [hK41] at hB
        exact hB _ _ _ hg hw hS (lv_sub hl [1, 2, 0] rfl)

set_option maxHeartbeats 4000000 in
set_option maxRecDepth 100000 in
theorem c_B_open (l : Launch) (D : va_G) (B : Nat) (b : Nat) (x1 : Int32) (x2 : Int32) (σ : St) (Q : St → Prop) (h : P_B_open b x1 x2 σ Q) : zM l y_B_open b_B_open 5 none (rm_B_open) D B [.ref b, .int x1, .int x2] σ (zQv Q) := by
  refine zM.ofW (own := "LawWorlds$Bench") (by decide +kernel) rfl (Nat.le_of_ble_eq_true rfl) ?_
  intro p e s m args below meth c ls hx hb hml hr hlocks hname hC hwk hw hS hl
  obtain ⟨σ0, eσ⟩ : ∃ z, z = σ := ⟨_, rfl⟩
  have hg : gr σ0 σ := by rw [eσ]; exact gr.rf
  have hl : lv_has ls 5 [(0, va_rf (some b)), (1, .int x1), (2, .int x2)] := hl
  obtain ⟨hsb, hB⟩ := h
  have hsb0 : s_s σ0 b = some (.inl 5) := by rw [eσ]; exact hsb
  rw [← eσ]
  skip
  obtain ⟨K34, hK34⟩ : ∃ K : Int32 → Int32 → Int32 → St → Prop, K = (fun (x1 : Int32) (x3 : Int32) (x4 : Int32) (σ : St) => ∀ (H : Heap) (locs : List Loc) (ls : Array Slot), gr σ0 σ → wh D B σ s H → va_S (zA B) s.heap H locs → lv_has ls 5 [(0, va_rf (some b)), (1, .int x1), (3, .int x3), (4, .int x4)] → W p l e (rm_B_open) s m args below meth c H locs 0 0 (MQ below (zQ D B σ0 (zQv Q)) args s (rm_B_open).cells (rm_B_open).slots (zA B)) (F0 m 34 ls [])) := ⟨_, rfl⟩
  refine (fun hB => ?_) (hB K34 ?_)
  · skip
    refine lv_iload_n hx hb d_B_open_0 rfl (lv_at hl 1 rfl) ?_
    refine zr_callS (As := [.int x1]) (rest := []) hx hb hml hC hwk hw hS hl.1 (c_C_isSize l D B x1 σ _ hB) mk_C_isSize mt_C_isSize ml_B_24 ⟨Nat.le_of_ble_eq_true rfl, Nat.le_of_ble_eq_true rfl⟩ rfl (cat_8 cat_n (Nat.le_of_ble_eq_true rfl)) d_B_open_1 ⟨Nat.le_refl _, Nat.le_refl _⟩ rfl (fun v σ3 H locs hp hgn hw hS => ?_)
    have hg := hg.tr hgn
    have hsb := hgn _ _ hsb
    obtain ⟨r4, rfl, hB⟩ := hp
    refine W.eq (g2 := F0 m 4 ls [.int r4]) rfl ?_
    refine lv_if_eq (tgt := 11) hx hb d_B_open_4 (by decide) (fun cd => ?_) (fun cd => ?_)
    · have hB := hB.1 cd
      exact zr_vret hx hb hr hlocks hB hg hw hS d_B_open_11
    · have hB := hB.2 cd
      refine lv_iload_n hx hb d_B_open_7 rfl (lv_at hl 2 rfl) ?_
      refine lv_if_ge (tgt := 12) hx hb d_B_open_8 (by decide) (fun cd => ?_) (fun cd => ?_)
      · have hB := hB.1 cd
        refine zr_aload_n (o := some b) hx hb d_B_open_12 rfl (lv_at hl 0 rfl) ?_
        refine zr_get (v := .int (s_i σ3 b 4)) hx hb hC hw rfl hsb fl_B_30 rfl d_B_open_13 ?_
        refine lv_iload_n hx hb d_B_open_16 rfl (lv_at hl 1 rfl) ?_
        refine lv_icmp_eq (tgt := 29) hx hb d_B_open_17 (by decide) (fun cd => ?_) (fun cd => ?_)
        · have hB := hB.1 cd
          refine lv_iload_n hx hb d_B_open_29 rfl (lv_at hl 2 rfl) ?_
          refine lv_istore_n (lv' := [(3, .int x2), (0, va_rf (some b)), (1, .int x1), (2, .int x2)]) hx hb d_B_open_30 rfl hl (by decide) rfl (fun ls hl => ?_)
          refine lv_iconst (v := nI 0) hx hb d_B_open_31 (by decide) ?_
          refine lv_istore (lv' := [(4, .int (nI 0)), (3, .int x2), (0, va_rf (some b)), (1, .int x1), (2, .int x2)]) hx hb d_B_open_32 hl (by decide) rfl (fun ls hl => ?_)
          rw [hK34] at hB
          exact hB _ _ _ hg hw hS (lv_sub hl [2, 3, 1, 0] rfl)
        · have hB := hB.2 cd
          refine zr_aload_n (o := some b) hx hb d_B_open_20 rfl (lv_at hl 0 rfl) ?_
          refine lv_iload_n hx hb d_B_open_21 rfl (lv_at hl 1 rfl) ?_
          refine zr_putI hx hb hC hw hS rfl hsb fl_B_30 rfl rfl d_B_open_22 (fun H locs hw hS => ?_)
          refine zr_aload_n (o := some b) hx hb d_B_open_25 rfl (lv_at hl 0 rfl) ?_
          have hsr := And.left hB
          refine zr_callV (ci := 5) (As := []) (rest := []) hx hb hml hC hwk hw hS hl.1 (c_B_fillLetters l D B b (w_i σ3 b 4 x1) _ hB) mk_B_fillLetters mi_B_fillLetters ms_B_fillLetters ml_B_34 ⟨Nat.le_of_ble_eq_true rfl, Nat.le_of_ble_eq_true rfl⟩ rfl hsr rfl (cat_8 cat_n (Nat.le_of_ble_eq_true rfl)) d_B_open_26 ⟨Nat.le_refl _, Nat.le_refl _⟩ rfl (fun v σ5 H locs hp hgn hw hS => ?_)
          have hg := hg.tr hgn
          have hsb := hgn _ _ hsb
          obtain ⟨rfl, hB⟩ := hp
          refine W.eq (g2 := F0 m 29 ls []) rfl ?_
          refine lv_iload_n hx hb d_B_open_29 rfl (lv_at hl 2 rfl) ?_
          refine lv_istore_n (lv' := [(3, .int x2), (0, va_rf (some b)), (1, .int x1), (2, .int x2)]) hx hb d_B_open_30 rfl hl (by decide) rfl (fun ls hl => ?_)
          refine lv_iconst (v := nI 0) hx hb d_B_open_31 (by decide) ?_
          refine lv_istore (lv' := [(4, .int (nI 0)), (3, .int x2), (0, va_rf (some b)), (1, .int x1), (2, .int x2)]) hx hb d_B_open_32 hl (by decide) rfl (fun ls hl => ?_)
          rw [hK34] at hB
          exact hB _ _ _ hg hw hS (lv_sub hl [2, 3, 1, 0] rfl)
      · have hB := hB.2 cd
        exact zr_vret hx hb hr hlocks hB hg hw hS d_B_open_11
  · intro x1 x3 x4 σ hB
    rw [hK34]
    intro H locs ls hg hw hS hl
    have hsb := hg _ _ hsb0
    refine lv_iload hx hb d_B_open_34 (lv_at hl 3 rfl) ?_
    refine lv_iload_n hx hb d_B_open_36 rfl (lv_at hl 1 rfl) ?_
    refine lv_iload_n hx hb d_B_open_37 rfl (lv_at hl 1 rfl) ?_
    refine lv_imul hx hb d_B_open_38 ?_
    refine lv_icmp_ge (tgt := 62) hx hb d_B_open_39 (by decide) (fun cd => ?_) (fun cd => ?_)
    · have hB := hB.1 cd
      exact zr_vret hx hb hr hlocks hB hg hw hS d_B_open_62
    · have hB := hB.2 cd
      refine zr_aload_n (o := some b) hx hb d_B_open_42 rfl (lv_at hl 0 rfl) ?_
      refine zr_get (v := va_rf (s_r σ b 0)) hx hb hC hw rfl hsb fl_B_9 rfl d_B_open_43 ?_
      refine lv_iload hx hb d_B_open_46 (lv_at hl 3 rfl) ?_
      refine lv_iload_n hx hb d_B_open_48 rfl (lv_at hl 2 rfl) ?_
      refine lv_iload_n hx hb d_B_open_49 rfl (lv_at hl 1 rfl) ?_
      refine zr_irem hx hb d_B_open_50 hB.1 ?_
      have hB := hB.2
      obtain ⟨q1, n1, j2, ho, hs, hin, hj, hB⟩ := hB
      refine zr_iast hx hb hw hS ho hs hin hj d_B_open_51 (fun H locs hw hS => ?_)
      refine lv_iload_n hx hb d_B_open_52 rfl (lv_at hl 2 rfl) ?_
      refine lv_iload_n hx hb d_B_open_53 rfl (lv_at hl 1 rfl) ?_
      refine lv_idiv hx hb d_B_open_54 hB.1 ?_
      have hB := hB.2
      refine lv_istore_n (lv' := [(3, .int (x3 / x1)), (0, va_rf (some b)), (1, .int x1), (4, .int x4)]) hx hb d_B_open_55 rfl hl (by decide) rfl (fun ls hl => ?_)
      refine lv_iinc (v := x4 + nI 1) (lv' := [(4, .int (x4 + nI 1)), (3, .int (x3 / x1)), (0, va_rf (some b)), (1, .int x1)]) hx hb d_B_open_56 hl (k := 3) rfl rfl (by decide) rfl (fun ls hl => ?_)
      refine lv_goto (tgt := 34) hx hb d_B_open_59 (by decide) ?_
      rw [hK34] at hB
      exact hB _ _ _ hg hw hS (lv_sub hl [2, 3, 1, 0] rfl)

set_option maxHeartbeats 4000000 in
set_option maxRecDepth 100000 in
theorem c_B_join (l : Launch) (D : va_G) (B : Nat) (b : Nat) (x1 : Int32) (x2 : Int32) (σ : St) (Q : St → Prop) (h : P_B_join b x1 x2 σ Q) : zM l y_B_join b_B_join 6 none (rm_B_join) D B [.ref b, .int x1, .int x2] σ (zQv Q) := by
  refine zM.ofW (own := "LawWorlds$Bench") (by decide +kernel) rfl (Nat.le_of_ble_eq_true rfl) ?_
  intro p e s m args below meth c ls hx hb hml hr hlocks hname hC hwk hw hS hl
  obtain ⟨σ0, eσ⟩ : ∃ z, z = σ := ⟨_, rfl⟩
  have hg : gr σ0 σ := by rw [eσ]; exact gr.rf
  have hl : lv_has ls 6 [(0, va_rf (some b)), (1, .int x1), (2, .int x2)] := hl
  obtain ⟨hsb, hB⟩ := h
  have hsb0 : s_s σ0 b = some (.inl 5) := by rw [eσ]; exact hsb
  rw [← eσ]
  skip
  obtain ⟨K2, hK2⟩ : ∃ K : Int32 → Int32 → Int32 → St → Prop, K = (fun (x1 : Int32) (x2 : Int32) (x3 : Int32) (σ : St) => ∀ (H : Heap) (locs : List Loc) (ls : Array Slot), gr σ0 σ → wh D B σ s H → va_S (zA B) s.heap H locs → lv_has ls 6 [(0, va_rf (some b)), (1, .int x1), (2, .int x2), (3, .int x3)] → W p l e (rm_B_join) s m args below meth c H locs 0 0 (MQ below (zQ D B σ0 (zQv Q)) args s (rm_B_join).cells (rm_B_join).slots (zA B)) (F0 m 2 ls [])) := ⟨_, rfl⟩
  obtain ⟨K23, hK23⟩ : ∃ K : Int32 → Int32 → Int32 → Int32 → Int32 → St → Prop, K = (fun (x1 : Int32) (x2 : Int32) (x3 : Int32) (x4 : Int32) (x5 : Int32) (σ : St) => ∀ (H : Heap) (locs : List Loc) (ls : Array Slot), gr σ0 σ → wh D B σ s H → va_S (zA B) s.heap H locs → lv_has ls 6 [(0, va_rf (some b)), (1, .int x1), (2, .int x2), (3, .int x3), (4, .int x4), (5, .int x5)] → W p l e (rm_B_join) s m args below meth c H locs 0 0 (MQ below (zQ D B σ0 (zQv Q)) args s (rm_B_join).cells (rm_B_join).slots (zA B)) (F0 m 23 ls [])) := ⟨_, rfl⟩
  obtain ⟨K85, hK85⟩ : ∃ K : Int32 → Int32 → St → Prop, K = (fun (x1 : Int32) (x3 : Int32) (σ : St) => ∀ (H : Heap) (locs : List Loc) (ls : Array Slot), gr σ0 σ → wh D B σ s H → va_S (zA B) s.heap H locs → lv_has ls 6 [(0, va_rf (some b)), (1, .int x1), (3, .int x3)] → W p l e (rm_B_join) s m args below meth c H locs 0 0 (MQ below (zQ D B σ0 (zQv Q)) args s (rm_B_join).cells (rm_B_join).slots (zA B)) (F0 m 85 ls [])) := ⟨_, rfl⟩
  refine (fun hB => ?_) (hB K2 K23 K85 ?_ ?_ ?_)
  · skip
    refine lv_iconst (v := nI 0) hx hb d_B_join_0 (by decide) ?_
    refine lv_istore_n (lv' := [(3, .int (nI 0)), (0, va_rf (some b)), (1, .int x1), (2, .int x2)]) hx hb d_B_join_1 rfl hl (by decide) rfl (fun ls hl => ?_)
    rw [hK2] at hB
    exact hB _ _ _ hg hw hS (lv_sub hl [1, 2, 3, 0] rfl)
  · intro x1 x2 x3 σ hB
    rw [hK2]
    intro H locs ls hg hw hS hl
    have hsb := hg _ _ hsb0
    refine lv_iload_n hx hb d_B_join_2 rfl (lv_at hl 3 rfl) ?_
    refine zr_aload_n (o := some b) hx hb d_B_join_3 rfl (lv_at hl 0 rfl) ?_
    refine zr_get (v := .int (s_i σ b 4)) hx hb hC hw rfl hsb fl_B_30 rfl d_B_join_4 ?_
    refine lv_icmp_ge (tgt := 83) hx hb d_B_join_7 (by decide) (fun cd => ?_) (fun cd => ?_)
    · have hB := hB.1 cd
      refine lv_iconst (v := nI 0) hx hb d_B_join_83 (by decide) ?_
      refine lv_istore_n (lv' := [(3, .int (nI 0)), (0, va_rf (some b)), (1, .int x1), (2, .int x2)]) hx hb d_B_join_84 rfl hl (by decide) rfl (fun ls hl => ?_)
      rw [hK85] at hB
      exact hB _ _ _ hg hw hS (lv_sub hl [1, 2, 0] rfl)
    · have hB := hB.2 cd
      refine zr_aload_n (o := some b) hx hb d_B_join_10 rfl (lv_at hl 0 rfl) ?_
      refine zr_get (v := va_rf (s_r σ b 2)) hx hb hC hw rfl hsb fl_B_18 rfl d_B_join_11 ?_
      refine lv_iload_n hx hb d_B_join_14 rfl (lv_at hl 1 rfl) ?_
      refine lv_iload_n hx hb d_B_join_15 rfl (lv_at hl 3 rfl) ?_
      refine lv_iadd hx hb d_B_join_16 ?_
      obtain ⟨q1, n1, j2, ho, hs, hin, hj, hB⟩ := hB
      refine zr_iald hx hb hw ho hs hin hj d_B_join_17 ?_
      refine lv_istore (lv' := [(4, .int (s_i σ q1 j2)), (0, va_rf (some b)), (1, .int x1), (2, .int x2), (3, .int x3)]) hx hb d_B_join_18 hl (by decide) rfl (fun ls hl => ?_)
      refine lv_iconst (v := nI 0) hx hb d_B_join_20 (by decide) ?_
      refine lv_istore (lv' := [(5, .int (nI 0)), (4, .int (s_i σ q1 j2)), (0, va_rf (some b)), (1, .int x1), (2, .int x2), (3, .int x3)]) hx hb d_B_join_21 hl (by decide) rfl (fun ls hl => ?_)
      rw [hK23] at hB
      exact hB _ _ _ hg hw hS (lv_sub hl [2, 3, 4, 5, 1, 0] rfl)
  · intro x1 x2 x3 x4 x5 σ hB
    rw [hK23]
    intro H locs ls hg hw hS hl
    have hsb := hg _ _ hsb0
    refine lv_iload hx hb d_B_join_23 (lv_at hl 5 rfl) ?_
    refine zr_aload_n (o := some b) hx hb d_B_join_25 rfl (lv_at hl 0 rfl) ?_
    refine zr_get (v := .int (s_i σ b 4)) hx hb hC hw rfl hsb fl_B_30 rfl d_B_join_26 ?_
    refine lv_icmp_ge (tgt := 77) hx hb d_B_join_29 (by decide) (fun cd => ?_) (fun cd => ?_)
    · have hB := hB.1 cd
      refine lv_iinc (v := x3 + nI 1) (lv' := [(3, .int (x3 + nI 1)), (0, va_rf (some b)), (1, .int x1), (2, .int x2), (4, .int x4), (5, .int x5)]) hx hb d_B_join_77 hl (k := 3) rfl rfl (by decide) rfl (fun ls hl => ?_)
      refine lv_goto (tgt := 2) hx hb d_B_join_80 (by decide) ?_
      rw [hK2] at hB
      exact hB _ _ _ hg hw hS (lv_sub hl [1, 2, 3, 0] rfl)
    · have hB := hB.2 cd
      refine lv_iload hx hb d_B_join_32 (lv_at hl 4 rfl) ?_
      refine lv_if_eq (tgt := 77) hx hb d_B_join_34 (by decide) (fun cd => ?_) (fun cd => ?_)
      · have hB := hB.1 cd
        refine lv_iinc (v := x3 + nI 1) (lv' := [(3, .int (x3 + nI 1)), (0, va_rf (some b)), (1, .int x1), (2, .int x2), (4, .int x4), (5, .int x5)]) hx hb d_B_join_77 hl (k := 3) rfl rfl (by decide) rfl (fun ls hl => ?_)
        refine lv_goto (tgt := 2) hx hb d_B_join_80 (by decide) ?_
        rw [hK2] at hB
        exact hB _ _ _ hg hw hS (lv_sub hl [1, 2, 3, 0] rfl)
      · have hB := hB.2 cd
        refine zr_aload_n (o := some b) hx hb d_B_join_37 rfl (lv_at hl 0 rfl) ?_
        refine zr_get (v := va_rf (s_r σ b 3)) hx hb hC hw rfl hsb fl_B_21 rfl d_B_join_38 ?_
        refine zr_aload_n (o := some b) hx hb d_B_join_41 rfl (lv_at hl 0 rfl) ?_
        refine zr_get (v := va_rf (s_r σ b 0)) hx hb hC hw rfl hsb fl_B_9 rfl d_B_join_42 ?_
        refine zr_aload_n (o := some b) hx hb d_B_join_45 rfl (lv_at hl 0 rfl) ?_
        refine zr_get (v := .int (s_i σ b 4)) hx hb hC hw rfl hsb fl_B_30 rfl d_B_join_46 ?_
        refine lv_iload_n hx hb d_B_join_49 rfl (lv_at hl 3 rfl) ?_
        refine lv_imul hx hb d_B_join_50 ?_
        refine lv_iload hx hb d_B_join_51 (lv_at hl 5 rfl) ?_
        refine lv_iadd hx hb d_B_join_53 ?_
        obtain ⟨q3, n3, j4, ho, hs, hin, hj, hB⟩ := hB
        refine zr_iald hx hb hw ho hs hin hj d_B_join_54 ?_
        refine lv_dup2_11 hx hb d_B_join_55 rfl (va_rf_cat _) ?_
        obtain ⟨q5, n5, j6, ho, hs, hin, hj, hB⟩ := hB
        refine zr_iald hx hb hw ho hs hin hj d_B_join_56 ?_
        refine lv_iload hx hb d_B_join_57 (lv_at hl 4 rfl) ?_
        refine zr_aload_n (o := some b) hx hb d_B_join_59 rfl (lv_at hl 0 rfl) ?_
        refine zr_get (v := va_rf (s_r σ b 2)) hx hb hC hw rfl hsb fl_B_18 rfl d_B_join_60 ?_
        refine lv_iload_n hx hb d_B_join_63 rfl (lv_at hl 2 rfl) ?_
        refine lv_iload hx hb d_B_join_64 (lv_at hl 5 rfl) ?_
        refine lv_iadd hx hb d_B_join_66 ?_
        obtain ⟨q7, n7, j8, ho, hs, hin, hj, hB⟩ := hB
        refine zr_iald hx hb hw ho hs hin hj d_B_join_67 ?_
        refine lv_iand hx hb d_B_join_68 ?_
        refine lv_ior hx hb d_B_join_69 ?_
        obtain ⟨q9, n9, j10, ho, hs, hin, hj, hB⟩ := hB
        refine zr_iast hx hb hw hS ho hs hin hj d_B_join_70 (fun H locs hw hS => ?_)
        refine lv_iinc (v := x5 + nI 1) (lv' := [(5, .int (x5 + nI 1)), (0, va_rf (some b)), (1, .int x1), (2, .int x2), (3, .int x3), (4, .int x4)]) hx hb d_B_join_71 hl (k := 5) rfl rfl (by decide) rfl (fun ls hl => ?_)
        refine lv_goto (tgt := 23) hx hb d_B_join_74 (by decide) ?_
        rw [hK23] at hB
        exact hB _ _ _ hg hw hS (lv_sub hl [1, 2, 3, 4, 5, 0] rfl)
  · intro x1 x3 σ hB
    rw [hK85]
    intro H locs ls hg hw hS hl
    have hsb := hg _ _ hsb0
    refine lv_iload_n hx hb d_B_join_85 rfl (lv_at hl 2 rfl) ?_
    refine lv_iconst (v := nI 3) hx hb d_B_join_86 (by decide) ?_
    refine lv_icmp_ge (tgt := 117) hx hb d_B_join_87 (by decide) (fun cd => ?_) (fun cd => ?_)
    · have hB := hB.1 cd
      exact zr_vret hx hb hr hlocks hB hg hw hS d_B_join_117
    · have hB := hB.2 cd
      refine zr_aload_n (o := some b) hx hb d_B_join_90 rfl (lv_at hl 0 rfl) ?_
      refine zr_get (v := va_rf (s_r σ b 2)) hx hb hC hw rfl hsb fl_B_18 rfl d_B_join_91 ?_
      refine lv_iload_n hx hb d_B_join_94 rfl (lv_at hl 1 rfl) ?_
      refine lv_iload_n hx hb d_B_join_95 rfl (lv_at hl 2 rfl) ?_
      refine lv_iadd hx hb d_B_join_96 ?_
      refine zr_aload_n (o := some b) hx hb d_B_join_97 rfl (lv_at hl 0 rfl) ?_
      refine zr_get (v := va_rf (s_r σ b 3)) hx hb hC hw rfl hsb fl_B_21 rfl d_B_join_98 ?_
      refine lv_iload_n hx hb d_B_join_101 rfl (lv_at hl 2 rfl) ?_
      obtain ⟨q11, n11, j12, ho, hs, hin, hj, hB⟩ := hB
      refine zr_iald hx hb hw ho hs hin hj d_B_join_102 ?_
      obtain ⟨q13, n13, j14, ho, hs, hin, hj, hB⟩ := hB
      refine zr_iast hx hb hw hS ho hs hin hj d_B_join_103 (fun H locs hw hS => ?_)
      refine zr_aload_n (o := some b) hx hb d_B_join_104 rfl (lv_at hl 0 rfl) ?_
      refine zr_get (v := va_rf (s_r (w_i σ q13 j14 (s_i σ q11 j12)) b 3)) hx hb hC hw rfl hsb fl_B_21 rfl d_B_join_105 ?_
      refine lv_iload_n hx hb d_B_join_108 rfl (lv_at hl 2 rfl) ?_
      refine lv_iconst (v := nI 0) hx hb d_B_join_109 (by decide) ?_
      obtain ⟨q15, n15, j16, ho, hs, hin, hj, hB⟩ := hB
      refine zr_iast hx hb hw hS ho hs hin hj d_B_join_110 (fun H locs hw hS => ?_)
      refine lv_iinc (v := x3 + nI 1) (lv' := [(3, .int (x3 + nI 1)), (0, va_rf (some b)), (1, .int x1)]) hx hb d_B_join_111 hl (k := 2) rfl rfl (by decide) rfl (fun ls hl => ?_)
      refine lv_goto (tgt := 85) hx hb d_B_join_114 (by decide) ?_
      rw [hK85] at hB
      exact hB _ _ _ hg hw hS (lv_sub hl [1, 2, 0] rfl)

set_option maxHeartbeats 4000000 in
set_option maxRecDepth 100000 in
theorem c_B_run (l : Launch) (D : va_G) (B : Nat) (b : Nat) (o1 : Option Nat) (σ : St) (Q : St → Prop) (h : P_B_run b o1 σ Q) : zM l y_B_run b_B_run 6 none (rm_B_run) D B [.ref b, va_rf o1] σ (zQv Q) := by
  refine zM.ofW (own := "LawWorlds$Bench") (by decide +kernel) rfl (lg_c rfl (lg_c (va_rf_cat _) lg_0)) ?_
  intro p e s m args below meth c ls hx hb hml hr hlocks hname hC hwk hw hS hl
  obtain ⟨σ0, eσ⟩ : ∃ z, z = σ := ⟨_, rfl⟩
  have hg : gr σ0 σ := by rw [eσ]; exact gr.rf
  rw [lv_args_c rfl, lv_args_c (va_rf_cat _)] at hl
  have hl : lv_has ls 6 [(0, va_rf (some b)), (1, va_rf o1)] := hl
  obtain ⟨hsb, hB⟩ := h
  have hsb0 : s_s σ0 b = some (.inl 5) := by rw [eσ]; exact hsb
  rw [← eσ]
  skip
  obtain ⟨K4, hK4⟩ : ∃ K : Option Nat → Int32 → Int32 → St → Prop, K = (fun (o1 : Option Nat) (x2 : Int32) (x3 : Int32) (σ : St) => ∀ (H : Heap) (locs : List Loc) (ls : Array Slot), gr σ0 σ → wh D B σ s H → va_S (zA B) s.heap H locs → lv_has ls 6 [(0, va_rf (some b)), (1, va_rf o1), (2, .int x2), (3, .int x3)] → W p l e (rm_B_run) s m args below meth c H locs 0 0 (MQ below (zQ D B σ0 (zQv Q)) args s (rm_B_run).cells (rm_B_run).slots (zA B)) (F0 m 4 ls [])) := ⟨_, rfl⟩
  obtain ⟨K66, hK66⟩ : ∃ K : Option Nat → Int32 → Int32 → Int32 → Int32 → St → Prop, K = (fun (o1 : Option Nat) (x2 : Int32) (x3 : Int32) (x4 : Int32) (x5 : Int32) (σ : St) => ∀ (H : Heap) (locs : List Loc) (ls : Array Slot), gr σ0 σ → wh D B σ s H → va_S (zA B) s.heap H locs → lv_has ls 6 [(0, va_rf (some b)), (1, va_rf o1), (2, .int x2), (3, .int x3), (4, .int x4), (5, .int x5)] → W p l e (rm_B_run) s m args below meth c H locs 0 0 (MQ below (zQ D B σ0 (zQv Q)) args s (rm_B_run).cells (rm_B_run).slots (zA B)) (F0 m 66 ls [])) := ⟨_, rfl⟩
  refine (fun hB => ?_) (hB K4 K66 ?_ ?_)
  · skip
    refine lv_iconst (v := nI 0) hx hb d_B_run_0 (by decide) ?_
    refine lv_istore_n (lv' := [(2, .int (nI 0)), (0, va_rf (some b)), (1, va_rf o1)]) hx hb d_B_run_1 rfl hl (by decide) (congrArg (List.cons _) (fl_k rfl (va_rf_cat _) (fl_k rfl (va_rf_cat _) fl_n))) (fun ls hl => ?_)
    refine lv_iconst (v := nI 0) hx hb d_B_run_2 (by decide) ?_
    refine lv_istore_n (lv' := [(3, .int (nI 0)), (2, .int (nI 0)), (0, va_rf (some b)), (1, va_rf o1)]) hx hb d_B_run_3 rfl hl (by decide) rfl (fun ls hl => ?_)
    rw [hK4] at hB
    exact hB _ _ _ hg hw hS (lv_sub hl [2, 3, 1, 0] rfl)
  · intro o1 x2 x3 σ hB
    rw [hK4]
    intro H locs ls hg hw hS hl
    have hsb := hg _ _ hsb0
    refine lv_iload_n hx hb d_B_run_4 rfl (lv_at hl 3 rfl) ?_
    refine zr_aload_n (o := o1) hx hb d_B_run_5 rfl (lv_at hl 1 rfl) ?_
    obtain ⟨q1, ho1, hs1, hB⟩ := hB
    refine zr_get (v := .int (s_i σ q1 1)) hx hb hC hw ho1 hs1 fl_B_37 rfl d_B_run_6 ?_
    refine lv_icmp_ge (tgt := 110) hx hb d_B_run_9 (by decide) (fun cd => ?_) (fun cd => ?_)
    · have hB := hB.1 cd
      exact zr_vret hx hb hr hlocks hB hg hw hS d_B_run_110
    · have hB := hB.2 cd
      refine zr_aload_n (o := o1) hx hb d_B_run_12 rfl (lv_at hl 1 rfl) ?_
      obtain ⟨q2, ho2, hs2, hB⟩ := hB
      refine zr_get (v := va_rf (s_r σ q2 0)) hx hb hC hw ho2 hs2 fl_B_42 rfl d_B_run_13 ?_
      refine lv_iload_n hx hb d_B_run_16 rfl (lv_at hl 3 rfl) ?_
      obtain ⟨q3, n3, j4, ho, hs, hin, hj, hB⟩ := hB
      refine zr_iald hx hb hw ho hs hin hj d_B_run_17 ?_
      refine lv_istore (lv' := [(4, .int (s_i σ q3 j4)), (0, va_rf (some b)), (1, va_rf o1), (2, .int x2), (3, .int x3)]) hx hb d_B_run_18 hl (by decide) rfl (fun ls hl => ?_)
      refine lv_iload hx hb d_B_run_20 (lv_at hl 0 rfl) ?_
      refine lv_iconst (v := nI 3) hx hb d_B_run_22 (by decide) ?_
      refine lv_icmp_ne (tgt := 49) hx hb d_B_run_23 (by decide) (fun cd => ?_) (fun cd => ?_)
      · have hB := hB.2 cd
        refine lv_iload hx hb d_B_run_49 (lv_at hl 0 rfl) ?_
        refine zr_callS (As := [.int (s_i σ q3 j4)]) (rest := []) hx hb hml hC hwk hw hS hl.1 (c_L_isLetter l D B (s_i σ q3 j4) σ _ hB) mk_L_isLetter mt_L_isLetter ml_B_49 ⟨Nat.le_of_ble_eq_true rfl, Nat.le_of_ble_eq_true rfl⟩ rfl (cat_8 cat_n (Nat.le_of_ble_eq_true rfl)) d_B_run_51 ⟨Nat.le_refl _, Nat.le_refl _⟩ rfl (fun v σ5 H locs hp hgn hw hS => ?_)
        have hg := hg.tr hgn
        have hsb := hgn _ _ hsb
        have hs1 := hgn _ _ hs1
        have hs2 := hgn _ _ hs2
        obtain ⟨r6, rfl, hB⟩ := hp
        refine W.eq (g2 := F0 m 54 ls [.int r6]) rfl ?_
        refine lv_if_eq (tgt := 104) hx hb d_B_run_54 (by decide) (fun cd => ?_) (fun cd => ?_)
        · have hB := hB.1 cd
          refine lv_iinc (v := x3 + nI 1) (lv' := [(3, .int (x3 + nI 1)), (4, .int (s_i σ q3 j4)), (0, va_rf (some b)), (1, va_rf o1), (2, .int x2)]) hx hb d_B_run_104 hl (k := 4) rfl rfl (by decide) rfl (fun ls hl => ?_)
          refine lv_goto (tgt := 4) hx hb d_B_run_107 (by decide) ?_
          rw [hK4] at hB
          exact hB _ _ _ hg hw hS (lv_sub hl [2, 3, 4, 0] rfl)
        · have hB := hB.2 cd
          refine lv_iload_n hx hb d_B_run_57 rfl (lv_at hl 3 rfl) ?_
          refine lv_bipush (v := nI 6) hx hb d_B_run_58 (by decide) ?_
          refine lv_icmp_ge (tgt := 104) hx hb d_B_run_60 (by decide) (fun cd => ?_) (fun cd => ?_)
          · have hB := hB.1 cd
            refine lv_iinc (v := x3 + nI 1) (lv' := [(3, .int (x3 + nI 1)), (4, .int (s_i σ q3 j4)), (0, va_rf (some b)), (1, va_rf o1), (2, .int x2)]) hx hb d_B_run_104 hl (k := 4) rfl rfl (by decide) rfl (fun ls hl => ?_)
            refine lv_goto (tgt := 4) hx hb d_B_run_107 (by decide) ?_
            rw [hK4] at hB
            exact hB _ _ _ hg hw hS (lv_sub hl [2, 3, 4, 0] rfl)
          · have hB := hB.2 cd
            refine lv_iconst (v := nI 0) hx hb d_B_run_63 (by decide) ?_
            refine lv_istore (lv' := [(5, .int (nI 0)), (4, .int (s_i σ q3 j4)), (0, va_rf (some b)), (1, va_rf o1), (2, .int x2), (3, .int x3)]) hx hb d_B_run_64 hl (by decide) rfl (fun ls hl => ?_)
            rw [hK66] at hB
            exact hB _ _ _ hg hw hS (lv_sub hl [2, 3, 4, 5, 1, 0] rfl)
      · have hB := hB.1 cd
        refine lv_iload_n hx hb d_B_run_26 rfl (lv_at hl 3 rfl) ?_
        refine lv_iconst (v := nI 2) hx hb d_B_run_27 (by decide) ?_
        refine lv_icmp_lt (tgt := 49) hx hb d_B_run_28 (by decide) (fun cd => ?_) (fun cd => ?_)
        · have hB := hB.1 cd
          refine lv_iload hx hb d_B_run_49 (lv_at hl 0 rfl) ?_
          refine zr_callS (As := [.int (s_i σ q3 j4)]) (rest := []) hx hb hml hC hwk hw hS hl.1 (c_L_isLetter l D B (s_i σ q3 j4) σ _ hB) mk_L_isLetter mt_L_isLetter ml_B_49 ⟨Nat.le_of_ble_eq_true rfl, Nat.le_of_ble_eq_true rfl⟩ rfl (cat_8 cat_n (Nat.le_of_ble_eq_true rfl)) d_B_run_51 ⟨Nat.le_refl _, Nat.le_refl _⟩ rfl (fun v σ7 H locs hp hgn hw hS => ?_)
          have hg := hg.tr hgn
          have hsb := hgn _ _ hsb
          have hs1 := hgn _ _ hs1
          have hs2 := hgn _ _ hs2
          obtain ⟨r8, rfl, hB⟩ := hp
          refine W.eq (g2 := F0 m 54 ls [.int r8]) rfl ?_
          refine lv_if_eq (tgt := 104) hx hb d_B_run_54 (by decide) (fun cd => ?_) (fun cd => ?_)
          · have hB := hB.1 cd
            refine lv_iinc (v := x3 + nI 1) (lv' := [(3, .int (x3 + nI 1)), (4, .int (s_i σ q3 j4)), (0, va_rf (some b)), (1, va_rf o1), (2, .int x2)]) hx hb d_B_run_104 hl (k := 4) rfl rfl (by decide) rfl (fun ls hl => ?_)
            refine lv_goto (tgt := 4) hx hb d_B_run_107 (by decide) ?_
            rw [hK4] at hB
            exact hB _ _ _ hg hw hS (lv_sub hl [2, 3, 4, 0] rfl)
          · have hB := hB.2 cd
            refine lv_iload_n hx hb d_B_run_57 rfl (lv_at hl 3 rfl) ?_
            refine lv_bipush (v := nI 6) hx hb d_B_run_58 (by decide) ?_
            refine lv_icmp_ge (tgt := 104) hx hb d_B_run_60 (by decide) (fun cd => ?_) (fun cd => ?_)
            · have hB := hB.1 cd
              refine lv_iinc (v := x3 + nI 1) (lv' := [(3, .int (x3 + nI 1)), (4, .int (s_i σ q3 j4)), (0, va_rf (some b)), (1, va_rf o1), (2, .int x2)]) hx hb d_B_run_104 hl (k := 4) rfl rfl (by decide) rfl (fun ls hl => ?_)
              refine lv_goto (tgt := 4) hx hb d_B_run_107 (by decide) ?_
              rw [hK4] at hB
              exact hB _ _ _ hg hw hS (lv_sub hl [2, 3, 4, 0] rfl)
            · have hB := hB.2 cd
              refine lv_iconst (v := nI 0) hx hb d_B_run_63 (by decide) ?_
              refine lv_istore (lv' := [(5, .int (nI 0)), (4, .int (s_i σ q3 j4)), (0, va_rf (some b)), (1, va_rf o1), (2, .int x2), (3, .int x3)]) hx hb d_B_run_64 hl (by decide) rfl (fun ls hl => ?_)
              rw [hK66] at hB
              exact hB _ _ _ hg hw hS (lv_sub hl [2, 3, 4, 5, 1, 0] rfl)
        · have hB := hB.2 cd
          refine lv_iinc (v := x2 + (-1)) (lv' := [(2, .int (x2 + (-1))), (4, .int (s_i σ q3 j4)), (0, va_rf (some b)), (1, va_rf o1), (3, .int x3)]) hx hb d_B_run_31 hl (k := 3) rfl rfl (by decide) (congrArg (List.cons _) (fl_k rfl rfl (fl_k rfl (va_rf_cat _) (fl_k rfl (va_rf_cat _) (fl_d rfl (fl_k rfl rfl fl_n)))))) (fun ls hl => ?_)
          refine zr_aload_n (o := some b) hx hb d_B_run_34 rfl (lv_at hl 2 rfl) ?_
          refine lv_iconst (v := nI 3) hx hb d_B_run_35 (by decide) ?_
          refine lv_iload_n hx hb d_B_run_36 rfl (lv_at hl 0 rfl) ?_
          refine lv_iconst (v := nI 1) hx hb d_B_run_37 (by decide) ?_
          refine lv_isub hx hb d_B_run_38 ?_
          refine lv_imul hx hb d_B_run_39 ?_
          refine lv_iconst (v := nI 3) hx hb d_B_run_40 (by decide) ?_
          refine lv_iload_n hx hb d_B_run_41 rfl (lv_at hl 0 rfl) ?_
          refine lv_imul hx hb d_B_run_42 ?_
          have hsr := And.left hB
          refine zr_callV (ci := 5) (As := [.int ((nI 3) * ((x2 + (-1)) - (nI 1))), .int ((nI 3) * (x2 + (-1)))]) (rest := []) hx hb hml hC hwk hw hS hl.1 (c_B_join l D B b ((nI 3) * ((x2 + (-1)) - (nI 1))) ((nI 3) * (x2 + (-1))) σ _ hB) mk_B_join mi_B_join ms_B_join ml_B_45 ⟨Nat.le_of_ble_eq_true rfl, Nat.le_of_ble_eq_true rfl⟩ rfl hsr rfl (cat_8 cat_n (Nat.le_of_ble_eq_true rfl)) d_B_run_43 ⟨Nat.le_refl _, Nat.le_refl _⟩ rfl (fun v σ9 H locs hp hgn hw hS => ?_)
          have hg := hg.tr hgn
          have hsb := hgn _ _ hsb
          have hs1 := hgn _ _ hs1
          have hs2 := hgn _ _ hs2
          obtain ⟨rfl, hB⟩ := hp
          refine W.eq (g2 := F0 m 46 ls []) rfl ?_
          refine lv_goto (tgt := 104) hx hb d_B_run_46 (by decide) ?_
          refine lv_iinc (v := x3 + nI 1) (lv' := [(3, .int (x3 + nI 1)), (2, .int (x2 + (-1))), (4, .int (s_i σ q3 j4)), (0, va_rf (some b)), (1, va_rf o1)]) hx hb d_B_run_104 hl (k := 4) rfl rfl (by decide) rfl (fun ls hl => ?_)
          refine lv_goto (tgt := 4) hx hb d_B_run_107 (by decide) ?_
          rw [hK4] at hB
          exact hB _ _ _ hg hw hS (lv_sub hl [3, 4, 1, 0] rfl)
  · intro o1 x2 x3 x4 x5 σ hB
    rw [hK66]
    intro H locs ls hg hw hS hl
    have hsb := hg _ _ hsb0
    refine lv_iload hx hb d_B_run_66 (lv_at hl 5 rfl) ?_
    refine lv_iconst (v := nI 3) hx hb d_B_run_68 (by decide) ?_
    refine lv_icmp_ge (tgt := 101) hx hb d_B_run_69 (by decide) (fun cd => ?_) (fun cd => ?_)
    · have hB := hB.1 cd
      refine lv_iinc (v := x2 + nI 1) (lv' := [(2, .int (x2 + nI 1)), (0, va_rf (some b)), (1, va_rf o1), (3, .int x3), (4, .int x4), (5, .int x5)]) hx hb d_B_run_101 hl (k := 2) rfl rfl (by decide) (congrArg (List.cons _) (fl_k rfl (va_rf_cat _) (fl_k rfl (va_rf_cat _) (fl_d rfl (fl_k rfl rfl (fl_k rfl rfl (fl_k rfl rfl fl_n))))))) (fun ls hl => ?_)
      refine lv_iinc (v := x3 + nI 1) (lv' := [(3, .int (x3 + nI 1)), (2, .int (x2 + nI 1)), (0, va_rf (some b)), (1, va_rf o1), (4, .int x4), (5, .int x5)]) hx hb d_B_run_104 hl (k := 3) rfl rfl (by decide) rfl (fun ls hl => ?_)
      refine lv_goto (tgt := 4) hx hb d_B_run_107 (by decide) ?_
      rw [hK4] at hB
      exact hB _ _ _ hg hw hS (lv_sub hl [2, 3, 1, 0] rfl)
    · have hB := hB.2 cd
      refine zr_aload_n (o := some b) hx hb d_B_run_72 rfl (lv_at hl 0 rfl) ?_
      refine zr_get (v := va_rf (s_r σ b 2)) hx hb hC hw rfl hsb fl_B_18 rfl d_B_run_73 ?_
      refine lv_iconst (v := nI 3) hx hb d_B_run_76 (by decide) ?_
      refine lv_iload_n hx hb d_B_run_77 rfl (lv_at hl 2 rfl) ?_
      refine lv_imul hx hb d_B_run_78 ?_
      refine lv_iload hx hb d_B_run_79 (lv_at hl 5 rfl) ?_
      refine lv_iadd hx hb d_B_run_81 ?_
      refine zr_aload_n (o := some b) hx hb d_B_run_82 rfl (lv_at hl 0 rfl) ?_
      refine zr_get (v := va_rf (s_r σ b 1)) hx hb hC hw rfl hsb fl_B_15 rfl d_B_run_83 ?_
      refine lv_iconst (v := nI 3) hx hb d_B_run_86 (by decide) ?_
      refine lv_iload hx hb d_B_run_87 (lv_at hl 4 rfl) ?_
      refine lv_imul hx hb d_B_run_89 ?_
      refine lv_iload hx hb d_B_run_90 (lv_at hl 5 rfl) ?_
      refine lv_iadd hx hb d_B_run_92 ?_
      obtain ⟨q10, n10, j11, ho, hs, hin, hj, hB⟩ := hB
      refine zr_iald hx hb hw ho hs hin hj d_B_run_93 ?_
      obtain ⟨q12, n12, j13, ho, hs, hin, hj, hB⟩ := hB
      refine zr_iast hx hb hw hS ho hs hin hj d_B_run_94 (fun H locs hw hS => ?_)
      refine lv_iinc (v := x5 + nI 1) (lv' := [(5, .int (x5 + nI 1)), (0, va_rf (some b)), (1, va_rf o1), (2, .int x2), (3, .int x3), (4, .int x4)]) hx hb d_B_run_95 hl (k := 5) rfl rfl (by decide) rfl (fun ls hl => ?_)
      refine lv_goto (tgt := 66) hx hb d_B_run_98 (by decide) ?_
      rw [hK66] at hB
      exact hB _ _ _ hg hw hS (lv_sub hl [1, 2, 3, 4, 5, 0] rfl)

set_option maxHeartbeats 4000000 in
set_option maxRecDepth 100000 in
theorem c_B_brokenCases (l : Launch) (D : va_G) (B : Nat) (b : Nat) (σ : St) (Q : Int32 → St → Prop) (h : P_B_brokenCases b σ Q) : zM l y_B_brokenCases b_B_brokenCases 3 (some (.int)) (rm_B_brokenCases) D B [.ref b] σ (zQi Q) := by
  refine zM.ofW (own := "LawWorlds$Bench") (by decide +kernel) rfl (Nat.le_of_ble_eq_true rfl) ?_
  intro p e s m args below meth c ls hx hb hml hr hlocks hname hC hwk hw hS hl
  obtain ⟨σ0, eσ⟩ : ∃ z, z = σ := ⟨_, rfl⟩
  have hg : gr σ0 σ := by rw [eσ]; exact gr.rf
  have hl : lv_has ls 3 [(0, va_rf (some b))] := hl
  obtain ⟨hsb, hB⟩ := h
  have hsb0 : s_s σ0 b = some (.inl 5) := by rw [eσ]; exact hsb
  rw [← eσ]
  skip
  obtain ⟨K4, hK4⟩ : ∃ K : Int32 → Int32 → St → Prop, K = (fun (x1 : Int32) (x2 : Int32) (σ : St) => ∀ (H : Heap) (locs : List Loc) (ls : Array Slot), gr σ0 σ → wh D B σ s H → va_S (zA B) s.heap H locs → lv_has ls 3 [(0, va_rf (some b)), (1, .int x1), (2, .int x2)] → W p l e (rm_B_brokenCases) s m args below meth c H locs 0 0 (MQ below (zQ D B σ0 (zQi Q)) args s (rm_B_brokenCases).cells (rm_B_brokenCases).slots (zA B)) (F0 m 4 ls [])) := ⟨_, rfl⟩
  refine (fun hB => ?_) (hB K4 ?_)
  · skip
    refine lv_iconst (v := nI 0) hx hb d_B_brokenCases_0 (by decide) ?_
    refine lv_istore_n (lv' := [(1, .int (nI 0)), (0, va_rf (some b))]) hx hb d_B_brokenCases_1 rfl hl (by decide) rfl (fun ls hl => ?_)
    refine lv_iconst (v := nI 0) hx hb d_B_brokenCases_2 (by decide) ?_
    refine lv_istore_n (lv' := [(2, .int (nI 0)), (1, .int (nI 0)), (0, va_rf (some b))]) hx hb d_B_brokenCases_3 rfl hl (by decide) rfl (fun ls hl => ?_)
    rw [hK4] at hB
    exact hB _ _ _ hg hw hS (lv_sub hl [2, 1, 0] rfl)
  · intro x1 x2 σ hB
    rw [hK4]
    intro H locs ls hg hw hS hl
    have hsb := hg _ _ hsb0
    refine lv_iload_n hx hb d_B_brokenCases_4 rfl (lv_at hl 2 rfl) ?_
    refine lv_iconst (v := nI 3) hx hb d_B_brokenCases_5 (by decide) ?_
    refine lv_icmp_ge (tgt := 33) hx hb d_B_brokenCases_6 (by decide) (fun cd => ?_) (fun cd => ?_)
    · have hB := hB.1 cd
      refine lv_iconst (v := nI 1) hx hb d_B_brokenCases_33 (by decide) ?_
      refine zr_aload_n (o := some b) hx hb d_B_brokenCases_34 rfl (lv_at hl 0 rfl) ?_
      refine zr_get (v := .int (s_i σ b 4)) hx hb hC hw rfl hsb fl_B_30 rfl d_B_brokenCases_35 ?_
      refine zr_aload_n (o := some b) hx hb d_B_brokenCases_38 rfl (lv_at hl 0 rfl) ?_
      refine zr_get (v := .int (s_i σ b 4)) hx hb hC hw rfl hsb fl_B_30 rfl d_B_brokenCases_39 ?_
      refine lv_imul hx hb d_B_brokenCases_42 ?_
      refine zr_aload_n (o := some b) hx hb d_B_brokenCases_43 rfl (lv_at hl 0 rfl) ?_
      refine zr_get (v := .int (s_i σ b 4)) hx hb hC hw rfl hsb fl_B_30 rfl d_B_brokenCases_44 ?_
      refine lv_imul hx hb d_B_brokenCases_47 ?_
      refine zr_ishl hx hb d_B_brokenCases_48 ?_
      refine lv_iconst (v := nI 1) hx hb d_B_brokenCases_49 (by decide) ?_
      refine lv_isub hx hb d_B_brokenCases_50 ?_
      refine lv_istore_n (lv' := [(2, .int ((shl (nI 1) (((s_i σ b 4) * (s_i σ b 4)) * (s_i σ b 4))) - (nI 1))), (0, va_rf (some b)), (1, .int x1)]) hx hb d_B_brokenCases_51 rfl hl (by decide) rfl (fun ls hl => ?_)
      refine lv_iload_n hx hb d_B_brokenCases_52 rfl (lv_at hl 0 rfl) ?_
      refine lv_iload_n hx hb d_B_brokenCases_53 rfl (lv_at hl 2 rfl) ?_
      refine lv_iconst (v := (-1)) hx hb d_B_brokenCases_54 (by decide) ?_
      refine lv_ixor hx hb d_B_brokenCases_55 ?_
      refine lv_iand hx hb d_B_brokenCases_56 ?_
      exact zr_iret hx hb hr hlocks hB hg hw hS d_B_brokenCases_57
    · have hB := hB.2 cd
      refine lv_iload_n hx hb d_B_brokenCases_9 rfl (lv_at hl 1 rfl) ?_
      refine zr_aload_n (o := some b) hx hb d_B_brokenCases_10 rfl (lv_at hl 0 rfl) ?_
      refine zr_get (v := va_rf (s_r σ b 2)) hx hb hC hw rfl hsb fl_B_18 rfl d_B_brokenCases_11 ?_
      refine lv_iload_n hx hb d_B_brokenCases_14 rfl (lv_at hl 2 rfl) ?_
      obtain ⟨q1, n1, j2, ho, hs, hin, hj, hB⟩ := hB
      refine zr_iald hx hb hw ho hs hin hj d_B_brokenCases_15 ?_
      refine zr_aload_n (o := some b) hx hb d_B_brokenCases_16 rfl (lv_at hl 0 rfl) ?_
      refine zr_get (v := va_rf (s_r σ b 2)) hx hb hC hw rfl hsb fl_B_18 rfl d_B_brokenCases_17 ?_
      refine lv_iconst (v := nI 3) hx hb d_B_brokenCases_20 (by decide) ?_
      refine lv_iload_n hx hb d_B_brokenCases_21 rfl (lv_at hl 2 rfl) ?_
      refine lv_iadd hx hb d_B_brokenCases_22 ?_
      obtain ⟨q3, n3, j4, ho, hs, hin, hj, hB⟩ := hB
      refine zr_iald hx hb hw ho hs hin hj d_B_brokenCases_23 ?_
      refine lv_iand hx hb d_B_brokenCases_24 ?_
      refine lv_ior hx hb d_B_brokenCases_25 ?_
      refine lv_istore_n (lv' := [(1, .int (x1 ||| ((s_i σ q1 j2) &&& (s_i σ q3 j4)))), (0, va_rf (some b)), (2, .int x2)]) hx hb d_B_brokenCases_26 rfl hl (by decide) rfl (fun ls hl => ?_)
      refine lv_iinc (v := x2 + nI 1) (lv' := [(2, .int (x2 + nI 1)), (1, .int (x1 ||| ((s_i σ q1 j2) &&& (s_i σ q3 j4)))), (0, va_rf (some b))]) hx hb d_B_brokenCases_27 hl (k := 2) rfl rfl (by decide) rfl (fun ls hl => ?_)
      refine lv_goto (tgt := 4) hx hb d_B_brokenCases_30 (by decide) ?_
      rw [hK4] at hB
      exact hB _ _ _ hg hw hS (lv_sub hl [2, 1, 0] rfl)

set_option maxHeartbeats 4000000 in
set_option maxRecDepth 100000 in
theorem c_L_brokenAt (l : Launch) (D : va_G) (B : Nat) (b : Nat) (x1 : Int32) (σ : St) (Q : Int32 → St → Prop) (h : P_L_brokenAt b x1 σ Q) : zM l y_L_brokenAt b_L_brokenAt 2 (some (.int)) (rm_L_brokenAt) D B [.ref b, .int x1] σ (zQi Q) := by
  refine zM.ofW (own := "LawWorlds$Law") (by decide +kernel) rfl (Nat.le_of_ble_eq_true rfl) ?_
  intro p e s m args below meth c ls hx hb hml hr hlocks hname hC hwk hw hS hl
  obtain ⟨σ0, eσ⟩ : ∃ z, z = σ := ⟨_, rfl⟩
  have hg : gr σ0 σ := by rw [eσ]; exact gr.rf
  have hl : lv_has ls 2 [(0, va_rf (some b)), (1, .int x1)] := hl
  obtain ⟨hsb, hB⟩ := h
  have hsb0 : s_s σ0 b = some (.inl 4) := by rw [eσ]; exact hsb
  rw [← eσ]
  skip
  refine zr_aload_n (o := some b) hx hb d_L_brokenAt_0 rfl (lv_at hl 0 rfl) ?_
  refine zr_get (v := va_rf (s_r σ b 4)) hx hb hC hw rfl hsb fl_L_42 rfl d_L_brokenAt_1 ?_
  refine zr_ifnull (tgt := 20) hx hb d_L_brokenAt_4 (by decide) (fun cd => ?_) (fun cd => ?_)
  · have hB := hB.1 cd
    refine lv_iconst (v := nI 0) hx hb d_L_brokenAt_20 (by decide) ?_
    exact zr_iret hx hb hr hlocks hB hg hw hS d_L_brokenAt_21
  · have hB := hB.2 cd
    refine lv_iload_n hx hb d_L_brokenAt_7 rfl (lv_at hl 1 rfl) ?_
    refine lv_if_lt (tgt := 20) hx hb d_L_brokenAt_8 (by decide) (fun cd => ?_) (fun cd => ?_)
    · have hB := hB.1 cd
      refine lv_iconst (v := nI 0) hx hb d_L_brokenAt_20 (by decide) ?_
      exact zr_iret hx hb hr hlocks hB hg hw hS d_L_brokenAt_21
    · have hB := hB.2 cd
      refine lv_iload_n hx hb d_L_brokenAt_11 rfl (lv_at hl 1 rfl) ?_
      refine zr_aload_n (o := some b) hx hb d_L_brokenAt_12 rfl (lv_at hl 0 rfl) ?_
      refine zr_get (v := va_rf (s_r σ b 4)) hx hb hC hw rfl hsb fl_L_42 rfl d_L_brokenAt_13 ?_
      obtain ⟨q, t, n1, ho, hs, hB⟩ := hB
      refine zr_alen (v := nI n1) hx hb hw ho hs rfl d_L_brokenAt_16 ?_
      refine lv_icmp_lt (tgt := 22) hx hb d_L_brokenAt_17 (by decide) (fun cd => ?_) (fun cd => ?_)
      · have hB := hB.1 cd
        refine zr_aload_n (o := some b) hx hb d_L_brokenAt_22 rfl (lv_at hl 0 rfl) ?_
        refine zr_get (v := va_rf (s_r σ b 4)) hx hb hC hw rfl hsb fl_L_42 rfl d_L_brokenAt_23 ?_
        refine lv_iload_n hx hb d_L_brokenAt_26 rfl (lv_at hl 1 rfl) ?_
        obtain ⟨q2, n2, j3, ho, hs, hin, hj, hB⟩ := hB
        refine zr_bald hx hb hw ho hs hin hj d_L_brokenAt_27 ?_
        exact zr_iret hx hb hr hlocks hB hg hw hS d_L_brokenAt_28
      · have hB := hB.2 cd
        refine lv_iconst (v := nI 0) hx hb d_L_brokenAt_20 (by decide) ?_
        exact zr_iret hx hb hr hlocks hB hg hw hS d_L_brokenAt_21

set_option maxHeartbeats 4000000 in
set_option maxRecDepth 100000 in
theorem c_B_thingOf (l : Launch) (D : va_G) (B : Nat) (b : Nat) (x1 : Int32) (x2 : Int32) (σ : St) (Q : Int32 → St → Prop) (h : P_B_thingOf b x1 x2 σ Q) : zM l y_B_thingOf b_B_thingOf 5 (some (.int)) (rm_B_thingOf) D B [.ref b, .int x1, .int x2] σ (zQi Q) := by
  refine zM.ofW (own := "LawWorlds$Bench") (by decide +kernel) rfl (Nat.le_of_ble_eq_true rfl) ?_
  intro p e s m args below meth c ls hx hb hml hr hlocks hname hC hwk hw hS hl
  obtain ⟨σ0, eσ⟩ : ∃ z, z = σ := ⟨_, rfl⟩
  have hg : gr σ0 σ := by rw [eσ]; exact gr.rf
  have hl : lv_has ls 5 [(0, va_rf (some b)), (1, .int x1), (2, .int x2)] := hl
  obtain ⟨hsb, hB⟩ := h
  have hsb0 : s_s σ0 b = some (.inl 5) := by rw [eσ]; exact hsb
  rw [← eσ]
  skip
  obtain ⟨K13, hK13⟩ : ∃ K : Int32 → Int32 → Int32 → St → Prop, K = (fun (x2 : Int32) (x3 : Int32) (x4 : Int32) (σ : St) => ∀ (H : Heap) (locs : List Loc) (ls : Array Slot), gr σ0 σ → wh D B σ s H → va_S (zA B) s.heap H locs → lv_has ls 5 [(0, va_rf (some b)), (2, .int x2), (3, .int x3), (4, .int x4)] → W p l e (rm_B_thingOf) s m args below meth c H locs 0 0 (MQ below (zQ D B σ0 (zQi Q)) args s (rm_B_thingOf).cells (rm_B_thingOf).slots (zA B)) (F0 m 13 ls [])) := ⟨_, rfl⟩
  refine (fun hB => ?_) (hB K13 ?_)
  · skip
    refine lv_iload_n hx hb d_B_thingOf_0 rfl (lv_at hl 1 rfl) ?_
    refine lv_if_eq (tgt := 8) hx hb d_B_thingOf_1 (by decide) (fun cd => ?_) (fun cd => ?_)
    · have hB := hB.1 cd
      refine lv_iconst (v := nI 0) hx hb d_B_thingOf_8 (by decide) ?_
      refine lv_istore_n (lv' := [(3, .int (nI 0)), (0, va_rf (some b)), (1, .int x1), (2, .int x2)]) hx hb d_B_thingOf_9 rfl hl (by decide) rfl (fun ls hl => ?_)
      refine lv_iconst (v := nI 1) hx hb d_B_thingOf_10 (by decide) ?_
      refine lv_istore (lv' := [(4, .int (nI 1)), (3, .int (nI 0)), (0, va_rf (some b)), (1, .int x1), (2, .int x2)]) hx hb d_B_thingOf_11 hl (by decide) rfl (fun ls hl => ?_)
      rw [hK13] at hB
      exact hB _ _ _ hg hw hS (lv_sub hl [2, 4, 1, 0] rfl)
    · have hB := hB.2 cd
      refine lv_iconst (v := nI 3) hx hb d_B_thingOf_4 (by decide) ?_
      refine lv_goto (tgt := 9) hx hb d_B_thingOf_5 (by decide) ?_
      refine lv_istore_n (lv' := [(3, .int (nI 3)), (0, va_rf (some b)), (1, .int x1), (2, .int x2)]) hx hb d_B_thingOf_9 rfl hl (by decide) rfl (fun ls hl => ?_)
      refine lv_iconst (v := nI 1) hx hb d_B_thingOf_10 (by decide) ?_
      refine lv_istore (lv' := [(4, .int (nI 1)), (3, .int (nI 3)), (0, va_rf (some b)), (1, .int x1), (2, .int x2)]) hx hb d_B_thingOf_11 hl (by decide) rfl (fun ls hl => ?_)
      rw [hK13] at hB
      exact hB _ _ _ hg hw hS (lv_sub hl [2, 4, 1, 0] rfl)
  · intro x2 x3 x4 σ hB
    rw [hK13]
    intro H locs ls hg hw hS hl
    have hsb := hg _ _ hsb0
    refine lv_iload hx hb d_B_thingOf_13 (lv_at hl 3 rfl) ?_
    refine lv_iconst (v := nI 3) hx hb d_B_thingOf_15 (by decide) ?_
    refine lv_icmp_ge (tgt := 44) hx hb d_B_thingOf_16 (by decide) (fun cd => ?_) (fun cd => ?_)
    · have hB := hB.1 cd
      refine lv_iconst (v := nI 0) hx hb d_B_thingOf_44 (by decide) ?_
      exact zr_iret hx hb hr hlocks hB hg hw hS d_B_thingOf_45
    · have hB := hB.2 cd
      refine zr_aload_n (o := some b) hx hb d_B_thingOf_19 rfl (lv_at hl 0 rfl) ?_
      refine zr_get (v := va_rf (s_r σ b 2)) hx hb hC hw rfl hsb fl_B_18 rfl d_B_thingOf_20 ?_
      refine lv_iload_n hx hb d_B_thingOf_23 rfl (lv_at hl 2 rfl) ?_
      refine lv_iload hx hb d_B_thingOf_24 (lv_at hl 3 rfl) ?_
      refine lv_iadd hx hb d_B_thingOf_26 ?_
      obtain ⟨q1, n1, j2, ho, hs, hin, hj, hB⟩ := hB
      refine zr_iald hx hb hw ho hs hin hj d_B_thingOf_27 ?_
      refine lv_iload_n hx hb d_B_thingOf_28 rfl (lv_at hl 1 rfl) ?_
      refine zr_callS (As := [.int (s_i σ q1 j2), .int x2]) (rest := []) hx hb hml hC hwk hw hS hl.1 (c_C_isIn l D B (s_i σ q1 j2) x2 σ _ hB) mk_C_isIn mt_C_isIn ml_B_52 ⟨Nat.le_of_ble_eq_true rfl, Nat.le_of_ble_eq_true rfl⟩ rfl (cat_8 cat_n (Nat.le_of_ble_eq_true rfl)) d_B_thingOf_29 ⟨Nat.le_refl _, Nat.le_refl _⟩ rfl (fun v σ3 H locs hp hgn hw hS => ?_)
      have hg := hg.tr hgn
      have hsb := hgn _ _ hsb
      obtain ⟨r4, rfl, hB⟩ := hp
      refine W.eq (g2 := F0 m 32 ls [.int r4]) rfl ?_
      refine lv_if_eq (tgt := 38) hx hb d_B_thingOf_32 (by decide) (fun cd => ?_) (fun cd => ?_)
      · have hB := hB.1 cd
        refine lv_iinc (v := x4 + nI 1) (lv' := [(4, .int (x4 + nI 1)), (0, va_rf (some b)), (2, .int x2), (3, .int x3)]) hx hb d_B_thingOf_38 hl (k := 3) rfl rfl (by decide) rfl (fun ls hl => ?_)
        refine lv_goto (tgt := 13) hx hb d_B_thingOf_41 (by decide) ?_
        rw [hK13] at hB
        exact hB _ _ _ hg hw hS (lv_sub hl [1, 2, 3, 0] rfl)
      · have hB := hB.2 cd
        refine lv_iload hx hb d_B_thingOf_35 (lv_at hl 3 rfl) ?_
        exact zr_iret hx hb hr hlocks hB hg hw hS d_B_thingOf_37
