set_option maxHeartbeats 4000000 in
set_option maxRecDepth 100000 in
theorem c_P_init (l : Launch) (D : va_G) (B : Nat) (b : Nat) (σ : St) (mc : Nat) (ms : Nat) (Q : St → Prop) (h : P_P_init b σ mc ms Q) : zM l y_P_init b_P_init 1 none (rm_P_init mc ms) D B [.ref b] σ (zQv Q) := by
  refine zM.ofW (own := "LawWorlds$PlainWorlds") (by decide +kernel) rfl (Nat.le_of_ble_eq_true rfl) ?_
  intro p e s m args below meth c ls hx hb hml hr hlocks hname hC hwk hw hS hl
  obtain ⟨σ0, eσ⟩ : ∃ z, z = σ := ⟨_, rfl⟩
  have hg : gr σ0 σ := by rw [eσ]; exact gr.rf
  have hl : lv_has ls 1 [(0, va_rf (some b))] := hl
  have ha1 : 0 ≤ mc := Nat.zero_le _
  have ha2 : 0 ≤ ms := Nat.zero_le _
  obtain ⟨hsb, hB⟩ := h
  have hsb0 : s_s σ0 b = some (.inl 7) := by rw [eσ]; exact hsb
  rw [← eσ]
  skip
  refine zr_aload_n (o := some b) hx hb d_P_init_0 rfl (lv_at hl 0 rfl) ?_
  refine W.objInit hx hb hC.1 (hC.2.1 _ ml_P_3) (hC.2.1 _ k_oi) (hC.2.1 _ k_oc) rfl (by rw [hml]; exact hl.1) rfl d_P_init_1 (Nat.le_of_ble_eq_true rfl) (Nat.le_of_ble_eq_true rfl) ?_
  refine W.eq (g2 := F0 m 4 ls []) rfl ?_
  refine zr_aload_n (o := some b) hx hb d_P_init_4 rfl (lv_at hl 0 rfl) ?_
  refine lv_sipush (v := nI 3341) hx hb d_P_init_5 (by decide) ?_
  obtain ⟨hc1, hc2, hB⟩ := hB
  obtain ⟨q1, eqq1⟩ : ∃ z, z = s_n σ := ⟨_, rfl⟩
  obtain ⟨σ2, eσ2⟩ : ∃ z, z = w_new σ (.inr (0, 3341)) := ⟨_, rfl⟩
  have hB := hB q1 σ2 eqq1 eσ2
  have hgn := hw.gnew (.inr (0, 3341))
  refine zr_newa (t := 0) (atype := .int) (N := 3341) hx hb hC hwk.1 hw hS ac_int rfl rfl rfl (Nat.le_of_ble_eq_true rfl) hc1 hc2 d_P_init_8 (fun H hw hS => ?_)
  rw [← eσ2] at hw hgn
  rw [← eqq1]
  have hg := hg.tr hgn
  have hsb := hgn _ _ hsb
  have ha1 := hc1
  have ha2 := hc2
  refine zr_putRF hx hb hC hname hw hS rfl hsb fl_P_9 rfl rfl (Or.inr ⟨_, rfl⟩) d_P_init_10 (fun H locs hw hS => ?_)
  refine zr_aload_n (o := some b) hx hb d_P_init_13 rfl (lv_at hl 0 rfl) ?_
  refine lv_sipush (v := nI 3341) hx hb d_P_init_14 (by decide) ?_
  obtain ⟨hc1, hc2, hB⟩ := hB
  obtain ⟨q3, eqq3⟩ : ∃ z, z = s_n (w_r σ2 b 0 (some q1)) := ⟨_, rfl⟩
  obtain ⟨σ4, eσ4⟩ : ∃ z, z = w_new (w_r σ2 b 0 (some q1)) (.inr (2, 3341)) := ⟨_, rfl⟩
  have hB := hB q3 σ4 eqq3 eσ4
  have hgn := hw.gnew (.inr (2, 3341))
  refine zr_newa (t := 2) (atype := .byte) (N := 3341) hx hb hC hwk.1 hw hS ac_byte rfl rfl rfl (Nat.le_of_ble_eq_true rfl) hc1 hc2 d_P_init_17 (fun H hw hS => ?_)
  rw [← eσ4] at hw hgn
  rw [← eqq3]
  have hg := hg.tr hgn
  have hsb := hgn _ _ hsb
  have ha1 := hc1
  have ha2 := hc2
  refine zr_putRF hx hb hC hname hw hS rfl hsb fl_P_15 rfl rfl (Or.inr ⟨_, rfl⟩) d_P_init_19 (fun H locs hw hS => ?_)
  refine zr_aload_n (o := some b) hx hb d_P_init_22 rfl (lv_at hl 0 rfl) ?_
  refine lv_iconst (v := nI 5) hx hb d_P_init_23 (by decide) ?_
  obtain ⟨hc1, hc2, hB⟩ := hB
  obtain ⟨q5, eqq5⟩ : ∃ z, z = s_n (w_r σ4 b 1 (some q3)) := ⟨_, rfl⟩
  obtain ⟨σ6, eσ6⟩ : ∃ z, z = w_new (w_r σ4 b 1 (some q3)) (.inr (0, 5)) := ⟨_, rfl⟩
  have hB := hB q5 σ6 eqq5 eσ6
  have hgn := hw.gnew (.inr (0, 5))
  refine zr_newa (t := 0) (atype := .int) (N := 5) hx hb hC hwk.1 hw hS ac_int rfl rfl rfl (Nat.le_of_ble_eq_true rfl) hc1 hc2 d_P_init_24 (fun H hw hS => ?_)
  rw [← eσ6] at hw hgn
  rw [← eqq5]
  have hg := hg.tr hgn
  have hsb := hgn _ _ hsb
  have ha1 := hc1
  have ha2 := hc2
  refine zr_putRF hx hb hC hname hw hS rfl hsb fl_P_19 rfl rfl (Or.inr ⟨_, rfl⟩) d_P_init_26 (fun H locs hw hS => ?_)
  refine W.widen (k := mc) (n := ms) ha1 ha2 ?_
  exact zr_vret hx hb hr hlocks hB hg hw hS d_P_init_29

set_option maxHeartbeats 4000000 in
set_option maxRecDepth 100000 in
theorem c_D_init (l : Launch) (D : va_G) (B : Nat) (b : Nat) (σ : St) (mc : Nat) (ms : Nat) (Q : St → Prop) (h : P_D_init b σ mc ms Q) : zM l y_D_init b_D_init 1 none (rm_D_init mc ms) D B [.ref b] σ (zQv Q) := by
  refine zM.ofW (own := "LawWorlds$Reader") (by decide +kernel) rfl (Nat.le_of_ble_eq_true rfl) ?_
  intro p e s m args below meth c ls hx hb hml hr hlocks hname hC hwk hw hS hl
  obtain ⟨σ0, eσ⟩ : ∃ z, z = σ := ⟨_, rfl⟩
  have hg : gr σ0 σ := by rw [eσ]; exact gr.rf
  have hl : lv_has ls 1 [(0, va_rf (some b))] := hl
  have ha1 : 0 ≤ mc := Nat.zero_le _
  have ha2 : 0 ≤ ms := Nat.zero_le _
  obtain ⟨hsb, hB⟩ := h
  have hsb0 : s_s σ0 b = some (.inl 8) := by rw [eσ]; exact hsb
  rw [← eσ]
  skip
  refine zr_aload_n (o := some b) hx hb d_D_init_0 rfl (lv_at hl 0 rfl) ?_
  refine W.objInit hx hb hC.1 (hC.2.1 _ ml_D_3) (hC.2.1 _ k_oi) (hC.2.1 _ k_oc) rfl (by rw [hml]; exact hl.1) rfl d_D_init_1 (Nat.le_of_ble_eq_true rfl) (Nat.le_of_ble_eq_true rfl) ?_
  refine W.eq (g2 := F0 m 4 ls []) rfl ?_
  refine zr_aload_n (o := some b) hx hb d_D_init_4 rfl (lv_at hl 0 rfl) ?_
  refine lv_bipush (v := nI 120) hx hb d_D_init_5 (by decide) ?_
  obtain ⟨hc1, hc2, hB⟩ := hB
  obtain ⟨q1, eqq1⟩ : ∃ z, z = s_n σ := ⟨_, rfl⟩
  obtain ⟨σ2, eσ2⟩ : ∃ z, z = w_new σ (.inr (0, 120)) := ⟨_, rfl⟩
  have hB := hB q1 σ2 eqq1 eσ2
  have hgn := hw.gnew (.inr (0, 120))
  refine zr_newa (t := 0) (atype := .int) (N := 120) hx hb hC hwk.1 hw hS ac_int rfl rfl rfl (Nat.le_of_ble_eq_true rfl) hc1 hc2 d_D_init_7 (fun H hw hS => ?_)
  rw [← eσ2] at hw hgn
  rw [← eqq1]
  have hg := hg.tr hgn
  have hsb := hgn _ _ hsb
  have ha1 := hc1
  have ha2 := hc2
  refine zr_putRF hx hb hC hname hw hS rfl hsb fl_D_11 rfl rfl (Or.inr ⟨_, rfl⟩) d_D_init_9 (fun H locs hw hS => ?_)
  refine zr_aload_n (o := some b) hx hb d_D_init_12 rfl (lv_at hl 0 rfl) ?_
  refine lv_bipush (v := nI 60) hx hb d_D_init_13 (by decide) ?_
  obtain ⟨hc1, hc2, hB⟩ := hB
  obtain ⟨q3, eqq3⟩ : ∃ z, z = s_n (w_r σ2 b 0 (some q1)) := ⟨_, rfl⟩
  obtain ⟨σ4, eσ4⟩ : ∃ z, z = w_new (w_r σ2 b 0 (some q1)) (.inr (0, 60)) := ⟨_, rfl⟩
  have hB := hB q3 σ4 eqq3 eσ4
  have hgn := hw.gnew (.inr (0, 60))
  refine zr_newa (t := 0) (atype := .int) (N := 60) hx hb hC hwk.1 hw hS ac_int rfl rfl rfl (Nat.le_of_ble_eq_true rfl) hc1 hc2 d_D_init_15 (fun H hw hS => ?_)
  rw [← eσ4] at hw hgn
  rw [← eqq3]
  have hg := hg.tr hgn
  have hsb := hgn _ _ hsb
  have ha1 := hc1
  have ha2 := hc2
  refine zr_putRF hx hb hC hname hw hS rfl hsb fl_D_15 rfl rfl (Or.inr ⟨_, rfl⟩) d_D_init_17 (fun H locs hw hS => ?_)
  refine zr_aload_n (o := some b) hx hb d_D_init_20 rfl (lv_at hl 0 rfl) ?_
  refine lv_iconst (v := nI 4) hx hb d_D_init_21 (by decide) ?_
  obtain ⟨hc1, hc2, hB⟩ := hB
  obtain ⟨q5, eqq5⟩ : ∃ z, z = s_n (w_r σ4 b 2 (some q3)) := ⟨_, rfl⟩
  obtain ⟨σ6, eσ6⟩ : ∃ z, z = w_new (w_r σ4 b 2 (some q3)) (.inr (1, 4)) := ⟨_, rfl⟩
  have hB := hB q5 σ6 eqq5 eσ6
  have hgn := hw.gnew (.inr (1, 4))
  refine zr_newa (t := 1) (atype := .boolean) (N := 4) hx hb hC hwk.1 hw hS ac_boolean rfl rfl rfl (Nat.le_of_ble_eq_true rfl) hc1 hc2 d_D_init_22 (fun H hw hS => ?_)
  rw [← eσ6] at hw hgn
  rw [← eqq5]
  have hg := hg.tr hgn
  have hsb := hgn _ _ hsb
  have ha1 := hc1
  have ha2 := hc2
  refine zr_putRF hx hb hC hname hw hS rfl hsb fl_D_18 rfl rfl (Or.inr ⟨_, rfl⟩) d_D_init_24 (fun H locs hw hS => ?_)
  refine W.widen (k := mc) (n := ms) ha1 ha2 ?_
  exact zr_vret hx hb hr hlocks hB hg hw hS d_D_init_27

set_option maxHeartbeats 4000000 in
set_option maxRecDepth 100000 in
theorem c_D_beginSide (l : Launch) (D : va_G) (B : Nat) (b : Nat) (x1 : Int32) (σ : St) (Q : St → Prop) (h : P_D_beginSide b x1 σ Q) : zM l y_D_beginSide b_D_beginSide 2 none (rm_D_beginSide) D B [.ref b, .int x1] σ (zQv Q) := by
  refine zM.ofW (own := "LawWorlds$Reader") (by decide +kernel) rfl (Nat.le_of_ble_eq_true rfl) ?_
  intro p e s m args below meth c ls hx hb hml hr hlocks hname hC hwk hw hS hl
  obtain ⟨σ0, eσ⟩ : ∃ z, z = σ := ⟨_, rfl⟩
  have hg : gr σ0 σ := by rw [eσ]; exact gr.rf
  have hl : lv_has ls 2 [(0, va_rf (some b)), (1, .int x1)] := hl
  obtain ⟨hsb, hB⟩ := h
  have hsb0 : s_s σ0 b = some (.inl 8) := by rw [eσ]; exact hsb
  rw [← eσ]
  skip
  refine zr_aload_n (o := some b) hx hb d_D_beginSide_0 rfl (lv_at hl 0 rfl) ?_
  refine lv_iload_n hx hb d_D_beginSide_1 rfl (lv_at hl 1 rfl) ?_
  refine zr_putZ hx hb hC hw hS rfl hsb fl_D_61 rfl rfl hB.1 d_D_beginSide_2 (fun H locs hw hS => ?_)
  have hB := hB.2
  refine zr_aload_n (o := some b) hx hb d_D_beginSide_5 rfl (lv_at hl 0 rfl) ?_
  refine lv_iconst (v := nI 0) hx hb d_D_beginSide_6 (by decide) ?_
  refine zr_putI hx hb hC hw hS rfl hsb fl_D_65 rfl rfl d_D_beginSide_7 (fun H locs hw hS => ?_)
  refine zr_aload_n (o := some b) hx hb d_D_beginSide_10 rfl (lv_at hl 0 rfl) ?_
  refine zr_get (v := va_rf (s_r (w_i (w_i σ b 7 x1) b 6 (nI 0)) b 3)) hx hb hC hw rfl hsb fl_D_18 rfl d_D_beginSide_11 ?_
  refine lv_iconst (v := nI 0) hx hb d_D_beginSide_14 (by decide) ?_
  refine lv_iconst (v := nI 0) hx hb d_D_beginSide_15 (by decide) ?_
  obtain ⟨q1, n1, j2, ho, hs, hin, hj, hB⟩ := hB
  refine zr_zast hx hb hw hS ho hs hin hj d_D_beginSide_16 (fun H locs hw hS => ?_)
  exact zr_vret hx hb hr hlocks hB hg hw hS d_D_beginSide_17

set_option maxHeartbeats 4000000 in
set_option maxRecDepth 100000 in
theorem c_D_addStep (l : Launch) (D : va_G) (B : Nat) (b : Nat) (x1 : Int32) (σ : St) (Q : St → Prop) (h : P_D_addStep b x1 σ Q) : zM l y_D_addStep b_D_addStep 2 none (rm_D_addStep) D B [.ref b, .int x1] σ (zQv Q) := by
  refine zM.ofW (own := "LawWorlds$Reader") (by decide +kernel) rfl (Nat.le_of_ble_eq_true rfl) ?_
  intro p e s m args below meth c ls hx hb hml hr hlocks hname hC hwk hw hS hl
  obtain ⟨σ0, eσ⟩ : ∃ z, z = σ := ⟨_, rfl⟩
  have hg : gr σ0 σ := by rw [eσ]; exact gr.rf
  have hl : lv_has ls 2 [(0, va_rf (some b)), (1, .int x1)] := hl
  obtain ⟨hsb, hB⟩ := h
  have hsb0 : s_s σ0 b = some (.inl 8) := by rw [eσ]; exact hsb
  rw [← eσ]
  skip
  refine zr_aload_n (o := some b) hx hb d_D_addStep_0 rfl (lv_at hl 0 rfl) ?_
  refine zr_get (v := .int (s_i σ b 4)) hx hb hC hw rfl hsb fl_D_26 rfl d_D_addStep_1 ?_
  refine lv_bipush (v := nI 120) hx hb d_D_addStep_4 (by decide) ?_
  refine lv_icmp_ge (tgt := 29) hx hb d_D_addStep_6 (by decide) (fun cd => ?_) (fun cd => ?_)
  · have hB := hB.1 cd
    exact zr_vret hx hb hr hlocks hB hg hw hS d_D_addStep_29
  · have hB := hB.2 cd
    refine zr_aload_n (o := some b) hx hb d_D_addStep_9 rfl (lv_at hl 0 rfl) ?_
    refine zr_get (v := va_rf (s_r σ b 0)) hx hb hC hw rfl hsb fl_D_11 rfl d_D_addStep_10 ?_
    refine zr_aload_n (o := some b) hx hb d_D_addStep_13 rfl (lv_at hl 0 rfl) ?_
    refine zr_get (v := .int (s_i σ b 4)) hx hb hC hw rfl hsb fl_D_26 rfl d_D_addStep_14 ?_
    refine lv_iload_n hx hb d_D_addStep_17 rfl (lv_at hl 1 rfl) ?_
    obtain ⟨q1, n1, j2, ho, hs, hin, hj, hB⟩ := hB
    refine zr_iast hx hb hw hS ho hs hin hj d_D_addStep_18 (fun H locs hw hS => ?_)
    refine zr_aload_n (o := some b) hx hb d_D_addStep_19 rfl (lv_at hl 0 rfl) ?_
    refine lv_dup hx hb d_D_addStep_20 (va_rf_cat _) ?_
    refine zr_get (v := .int (s_i (w_i σ q1 j2 x1) b 4)) hx hb hC hw rfl hsb fl_D_26 rfl d_D_addStep_21 ?_
    refine lv_iconst (v := nI 1) hx hb d_D_addStep_24 (by decide) ?_
    refine lv_iadd hx hb d_D_addStep_25 ?_
    refine zr_putI hx hb hC hw hS rfl hsb fl_D_26 rfl rfl d_D_addStep_26 (fun H locs hw hS => ?_)
    exact zr_vret hx hb hr hlocks hB hg hw hS d_D_addStep_29

set_option maxHeartbeats 4000000 in
set_option maxRecDepth 100000 in
theorem c_D_endPart (l : Launch) (D : va_G) (B : Nat) (b : Nat) (σ : St) (Q : St → Prop) (h : P_D_endPart b σ Q) : zM l y_D_endPart b_D_endPart 1 none (rm_D_endPart) D B [.ref b] σ (zQv Q) := by
  refine zM.ofW (own := "LawWorlds$Reader") (by decide +kernel) rfl (Nat.le_of_ble_eq_true rfl) ?_
  intro p e s m args below meth c ls hx hb hml hr hlocks hname hC hwk hw hS hl
  obtain ⟨σ0, eσ⟩ : ∃ z, z = σ := ⟨_, rfl⟩
  have hg : gr σ0 σ := by rw [eσ]; exact gr.rf
  have hl : lv_has ls 1 [(0, va_rf (some b))] := hl
  obtain ⟨hsb, hB⟩ := h
  have hsb0 : s_s σ0 b = some (.inl 8) := by rw [eσ]; exact hsb
  rw [← eσ]
  skip
  refine zr_aload_n (o := some b) hx hb d_D_endPart_0 rfl (lv_at hl 0 rfl) ?_
  refine zr_get (v := va_rf (s_r σ b 3)) hx hb hC hw rfl hsb fl_D_18 rfl d_D_endPart_1 ?_
  refine zr_aload_n (o := some b) hx hb d_D_endPart_4 rfl (lv_at hl 0 rfl) ?_
  refine zr_get (v := .int (s_i σ b 5)) hx hb hC hw rfl hsb fl_D_29 rfl d_D_endPart_5 ?_
  obtain ⟨q1, n1, j2, ho, hs, hin, hj, hB⟩ := hB
  refine zr_zald hx hb hw ho hs hin hj d_D_endPart_8 ?_
  refine lv_if_eq (tgt := 17) hx hb d_D_endPart_9 (by decide) (fun cd => ?_) (fun cd => ?_)
  · have hB := hB.1 cd
    refine zr_aload_n (o := some b) hx hb d_D_endPart_17 rfl (lv_at hl 0 rfl) ?_
    refine zr_get (v := va_rf (s_r σ b 3)) hx hb hC hw rfl hsb fl_D_18 rfl d_D_endPart_18 ?_
    refine zr_aload_n (o := some b) hx hb d_D_endPart_21 rfl (lv_at hl 0 rfl) ?_
    refine zr_get (v := .int (s_i σ b 5)) hx hb hC hw rfl hsb fl_D_29 rfl d_D_endPart_22 ?_
    refine lv_iconst (v := nI 1) hx hb d_D_endPart_25 (by decide) ?_
    obtain ⟨q3, n3, j4, ho, hs, hin, hj, hB⟩ := hB
    refine zr_zast hx hb hw hS ho hs hin hj d_D_endPart_26 (fun H locs hw hS => ?_)
    exact zr_vret hx hb hr hlocks hB hg hw hS d_D_endPart_27
  · have hB := hB.2 cd
    refine zr_aload_n (o := some b) hx hb d_D_endPart_12 rfl (lv_at hl 0 rfl) ?_
    refine lv_iconst (v := nI 3) hx hb d_D_endPart_13 (by decide) ?_
    have hsr := And.left hB
    refine zr_callV (ci := 8) (As := [.int (nI 3)]) (rest := []) hx hb hml hC hwk hw hS hl.1 (c_D_addStep l D B b (nI 3) σ _ hB) mk_D_addStep mi_D_addStep ms_D_addStep ml_D_68 ⟨Nat.le_of_ble_eq_true rfl, Nat.le_of_ble_eq_true rfl⟩ rfl hsr rfl (cat_8 cat_n (Nat.le_of_ble_eq_true rfl)) d_D_endPart_14 ⟨Nat.le_refl _, Nat.le_refl _⟩ rfl (fun v σ5 H locs hp hgn hw hS => ?_)
    have hg := hg.tr hgn
    have hsb := hgn _ _ hsb
    obtain ⟨rfl, hB⟩ := hp
    refine W.eq (g2 := F0 m 17 ls []) rfl ?_
    refine zr_aload_n (o := some b) hx hb d_D_endPart_17 rfl (lv_at hl 0 rfl) ?_
    refine zr_get (v := va_rf (s_r σ5 b 3)) hx hb hC hw rfl hsb fl_D_18 rfl d_D_endPart_18 ?_
    refine zr_aload_n (o := some b) hx hb d_D_endPart_21 rfl (lv_at hl 0 rfl) ?_
    refine zr_get (v := .int (s_i σ5 b 5)) hx hb hC hw rfl hsb fl_D_29 rfl d_D_endPart_22 ?_
    refine lv_iconst (v := nI 1) hx hb d_D_endPart_25 (by decide) ?_
    obtain ⟨q6, n6, j7, ho, hs, hin, hj, hB⟩ := hB
    refine zr_zast hx hb hw hS ho hs hin hj d_D_endPart_26 (fun H locs hw hS => ?_)
    exact zr_vret hx hb hr hlocks hB hg hw hS d_D_endPart_27

set_option maxHeartbeats 4000000 in
set_option maxRecDepth 100000 in
theorem c_D_addLetter (l : Launch) (D : va_G) (B : Nat) (b : Nat) (x1 : Int32) (σ : St) (Q : Int32 → St → Prop) (h : P_D_addLetter b x1 σ Q) : zM l y_D_addLetter b_D_addLetter 2 (some (.boolean)) (rm_D_addLetter) D B [.ref b, .int x1] σ (zQi Q) := by
  refine zM.ofW (own := "LawWorlds$Reader") (by decide +kernel) rfl (Nat.le_of_ble_eq_true rfl) ?_
  intro p e s m args below meth c ls hx hb hml hr hlocks hname hC hwk hw hS hl
  obtain ⟨σ0, eσ⟩ : ∃ z, z = σ := ⟨_, rfl⟩
  have hg : gr σ0 σ := by rw [eσ]; exact gr.rf
  have hl : lv_has ls 2 [(0, va_rf (some b)), (1, .int x1)] := hl
  obtain ⟨hsb, hB⟩ := h
  have hsb0 : s_s σ0 b = some (.inl 8) := by rw [eσ]; exact hsb
  rw [← eσ]
  skip
  refine zr_aload_n (o := some b) hx hb d_D_addLetter_0 rfl (lv_at hl 0 rfl) ?_
  refine zr_get (v := .int (s_i σ b 6)) hx hb hC hw rfl hsb fl_D_65 rfl d_D_addLetter_1 ?_
  refine lv_bipush (v := nI 8) hx hb d_D_addLetter_4 (by decide) ?_
  refine lv_icmp_lt (tgt := 11) hx hb d_D_addLetter_6 (by decide) (fun cd => ?_) (fun cd => ?_)
  · have hB := hB.1 cd
    refine zr_aload_n (o := some b) hx hb d_D_addLetter_11 rfl (lv_at hl 0 rfl) ?_
    refine lv_dup hx hb d_D_addLetter_12 (va_rf_cat _) ?_
    refine zr_get (v := .int (s_i σ b 6)) hx hb hC hw rfl hsb fl_D_65 rfl d_D_addLetter_13 ?_
    refine lv_iconst (v := nI 1) hx hb d_D_addLetter_16 (by decide) ?_
    refine lv_iadd hx hb d_D_addLetter_17 ?_
    refine zr_putI hx hb hC hw hS rfl hsb fl_D_65 rfl rfl d_D_addLetter_18 (fun H locs hw hS => ?_)
    refine zr_aload_n (o := some b) hx hb d_D_addLetter_21 rfl (lv_at hl 0 rfl) ?_
    refine lv_iload_n hx hb d_D_addLetter_22 rfl (lv_at hl 1 rfl) ?_
    have hsr := And.left hB
    refine zr_callV (ci := 8) (As := [.int x1]) (rest := []) hx hb hml hC hwk hw hS hl.1 (c_D_addStep l D B b x1 (w_i σ b 6 ((s_i σ b 6) + (nI 1))) _ hB) mk_D_addStep mi_D_addStep ms_D_addStep ml_D_68 ⟨Nat.le_of_ble_eq_true rfl, Nat.le_of_ble_eq_true rfl⟩ rfl hsr rfl (cat_8 cat_n (Nat.le_of_ble_eq_true rfl)) d_D_addLetter_23 ⟨Nat.le_refl _, Nat.le_refl _⟩ rfl (fun v σ1 H locs hp hgn hw hS => ?_)
    have hg := hg.tr hgn
    have hsb := hgn _ _ hsb
    obtain ⟨rfl, hB⟩ := hp
    refine W.eq (g2 := F0 m 26 ls []) rfl ?_
    refine zr_aload_n (o := some b) hx hb d_D_addLetter_26 rfl (lv_at hl 0 rfl) ?_
    have hsr := And.left hB
    refine zr_callV (ci := 8) (As := []) (rest := []) hx hb hml hC hwk hw hS hl.1 (c_D_endPart l D B b σ1 _ hB) mk_D_endPart mi_D_endPart ms_D_endPart ml_D_72 ⟨Nat.le_of_ble_eq_true rfl, Nat.le_of_ble_eq_true rfl⟩ rfl hsr rfl (cat_8 cat_n (Nat.le_of_ble_eq_true rfl)) d_D_addLetter_27 ⟨Nat.le_refl _, Nat.le_refl _⟩ rfl (fun v σ2 H locs hp hgn hw hS => ?_)
    have hg := hg.tr hgn
    have hsb := hgn _ _ hsb
    obtain ⟨rfl, hB⟩ := hp
    refine W.eq (g2 := F0 m 30 ls []) rfl ?_
    refine lv_iconst (v := nI 1) hx hb d_D_addLetter_30 (by decide) ?_
    exact zr_zret hx hb hr hlocks (Or.inr rfl) hB hg hw hS d_D_addLetter_31
  · have hB := hB.2 cd
    refine lv_iconst (v := nI 0) hx hb d_D_addLetter_9 (by decide) ?_
    exact zr_zret hx hb hr hlocks (Or.inl rfl) hB hg hw hS d_D_addLetter_10

set_option maxHeartbeats 4000000 in
set_option maxRecDepth 100000 in
theorem c_D_openBracket (l : Launch) (D : va_G) (B : Nat) (b : Nat) (σ : St) (Q : Int32 → St → Prop) (h : P_D_openBracket b σ Q) : zM l y_D_openBracket b_D_openBracket 1 (some (.boolean)) (rm_D_openBracket) D B [.ref b] σ (zQi Q) := by
  refine zM.ofW (own := "LawWorlds$Reader") (by decide +kernel) rfl (Nat.le_of_ble_eq_true rfl) ?_
  intro p e s m args below meth c ls hx hb hml hr hlocks hname hC hwk hw hS hl
  obtain ⟨σ0, eσ⟩ : ∃ z, z = σ := ⟨_, rfl⟩
  have hg : gr σ0 σ := by rw [eσ]; exact gr.rf
  have hl : lv_has ls 1 [(0, va_rf (some b))] := hl
  obtain ⟨hsb, hB⟩ := h
  have hsb0 : s_s σ0 b = some (.inl 8) := by rw [eσ]; exact hsb
  rw [← eσ]
  skip
  refine zr_aload_n (o := some b) hx hb d_D_openBracket_0 rfl (lv_at hl 0 rfl) ?_
  refine zr_get (v := .int (s_i σ b 5)) hx hb hC hw rfl hsb fl_D_29 rfl d_D_openBracket_1 ?_
  refine lv_iconst (v := nI 3) hx hb d_D_openBracket_4 (by decide) ?_
  refine lv_icmp_lt (tgt := 10) hx hb d_D_openBracket_5 (by decide) (fun cd => ?_) (fun cd => ?_)
  · have hB := hB.1 cd
    refine zr_aload_n (o := some b) hx hb d_D_openBracket_10 rfl (lv_at hl 0 rfl) ?_
    refine lv_dup hx hb d_D_openBracket_11 (va_rf_cat _) ?_
    refine zr_get (v := .int (s_i σ b 5)) hx hb hC hw rfl hsb fl_D_29 rfl d_D_openBracket_12 ?_
    refine lv_iconst (v := nI 1) hx hb d_D_openBracket_15 (by decide) ?_
    refine lv_iadd hx hb d_D_openBracket_16 ?_
    refine zr_putI hx hb hC hw hS rfl hsb fl_D_29 rfl rfl d_D_openBracket_17 (fun H locs hw hS => ?_)
    refine zr_aload_n (o := some b) hx hb d_D_openBracket_20 rfl (lv_at hl 0 rfl) ?_
    refine zr_get (v := va_rf (s_r (w_i σ b 5 ((s_i σ b 5) + (nI 1))) b 3)) hx hb hC hw rfl hsb fl_D_18 rfl d_D_openBracket_21 ?_
    refine zr_aload_n (o := some b) hx hb d_D_openBracket_24 rfl (lv_at hl 0 rfl) ?_
    refine zr_get (v := .int (s_i (w_i σ b 5 ((s_i σ b 5) + (nI 1))) b 5)) hx hb hC hw rfl hsb fl_D_29 rfl d_D_openBracket_25 ?_
    refine lv_iconst (v := nI 0) hx hb d_D_openBracket_28 (by decide) ?_
    obtain ⟨q1, n1, j2, ho, hs, hin, hj, hB⟩ := hB
    refine zr_zast hx hb hw hS ho hs hin hj d_D_openBracket_29 (fun H locs hw hS => ?_)
    refine lv_iconst (v := nI 1) hx hb d_D_openBracket_30 (by decide) ?_
    exact zr_zret hx hb hr hlocks (Or.inr rfl) hB hg hw hS d_D_openBracket_31
  · have hB := hB.2 cd
    refine lv_iconst (v := nI 0) hx hb d_D_openBracket_8 (by decide) ?_
    exact zr_zret hx hb hr hlocks (Or.inl rfl) hB hg hw hS d_D_openBracket_9

set_option maxHeartbeats 4000000 in
set_option maxRecDepth 100000 in
theorem c_D_closeBracket (l : Launch) (D : va_G) (B : Nat) (b : Nat) (σ : St) (Q : Int32 → St → Prop) (h : P_D_closeBracket b σ Q) : zM l y_D_closeBracket b_D_closeBracket 1 (some (.boolean)) (rm_D_closeBracket) D B [.ref b] σ (zQi Q) := by
  refine zM.ofW (own := "LawWorlds$Reader") (by decide +kernel) rfl (Nat.le_of_ble_eq_true rfl) ?_
  intro p e s m args below meth c ls hx hb hml hr hlocks hname hC hwk hw hS hl
  obtain ⟨σ0, eσ⟩ : ∃ z, z = σ := ⟨_, rfl⟩
  have hg : gr σ0 σ := by rw [eσ]; exact gr.rf
  have hl : lv_has ls 1 [(0, va_rf (some b))] := hl
  obtain ⟨hsb, hB⟩ := h
  have hsb0 : s_s σ0 b = some (.inl 8) := by rw [eσ]; exact hsb
  rw [← eσ]
  skip
  refine zr_aload_n (o := some b) hx hb d_D_closeBracket_0 rfl (lv_at hl 0 rfl) ?_
  refine zr_get (v := .int (s_i σ b 5)) hx hb hC hw rfl hsb fl_D_29 rfl d_D_closeBracket_1 ?_
  refine lv_if_le (tgt := 19) hx hb d_D_closeBracket_4 (by decide) (fun cd => ?_) (fun cd => ?_)
  · have hB := hB.1 cd
    refine lv_iconst (v := nI 0) hx hb d_D_closeBracket_19 (by decide) ?_
    exact zr_zret hx hb hr hlocks (Or.inl rfl) hB hg hw hS d_D_closeBracket_20
  · have hB := hB.2 cd
    refine zr_aload_n (o := some b) hx hb d_D_closeBracket_7 rfl (lv_at hl 0 rfl) ?_
    refine zr_get (v := va_rf (s_r σ b 3)) hx hb hC hw rfl hsb fl_D_18 rfl d_D_closeBracket_8 ?_
    refine zr_aload_n (o := some b) hx hb d_D_closeBracket_11 rfl (lv_at hl 0 rfl) ?_
    refine zr_get (v := .int (s_i σ b 5)) hx hb hC hw rfl hsb fl_D_29 rfl d_D_closeBracket_12 ?_
    obtain ⟨q1, n1, j2, ho, hs, hin, hj, hB⟩ := hB
    refine zr_zald hx hb hw ho hs hin hj d_D_closeBracket_15 ?_
    refine lv_if_ne (tgt := 21) hx hb d_D_closeBracket_16 (by decide) (fun cd => ?_) (fun cd => ?_)
    · have hB := hB.2 cd
      refine zr_aload_n (o := some b) hx hb d_D_closeBracket_21 rfl (lv_at hl 0 rfl) ?_
      refine lv_dup hx hb d_D_closeBracket_22 (va_rf_cat _) ?_
      refine zr_get (v := .int (s_i σ b 5)) hx hb hC hw rfl hsb fl_D_29 rfl d_D_closeBracket_23 ?_
      refine lv_iconst (v := nI 1) hx hb d_D_closeBracket_26 (by decide) ?_
      refine lv_isub hx hb d_D_closeBracket_27 ?_
      refine zr_putI hx hb hC hw hS rfl hsb fl_D_29 rfl rfl d_D_closeBracket_28 (fun H locs hw hS => ?_)
      refine zr_aload_n (o := some b) hx hb d_D_closeBracket_31 rfl (lv_at hl 0 rfl) ?_
      have hsr := And.left hB
      refine zr_callV (ci := 8) (As := []) (rest := []) hx hb hml hC hwk hw hS hl.1 (c_D_endPart l D B b (w_i σ b 5 ((s_i σ b 5) - (nI 1))) _ hB) mk_D_endPart mi_D_endPart ms_D_endPart ml_D_72 ⟨Nat.le_of_ble_eq_true rfl, Nat.le_of_ble_eq_true rfl⟩ rfl hsr rfl (cat_8 cat_n (Nat.le_of_ble_eq_true rfl)) d_D_closeBracket_32 ⟨Nat.le_refl _, Nat.le_refl _⟩ rfl (fun v σ3 H locs hp hgn hw hS => ?_)
      have hg := hg.tr hgn
      have hsb := hgn _ _ hsb
      obtain ⟨rfl, hB⟩ := hp
      refine W.eq (g2 := F0 m 35 ls []) rfl ?_
      refine lv_iconst (v := nI 1) hx hb d_D_closeBracket_35 (by decide) ?_
      exact zr_zret hx hb hr hlocks (Or.inr rfl) hB hg hw hS d_D_closeBracket_36
    · have hB := hB.1 cd
      refine lv_iconst (v := nI 0) hx hb d_D_closeBracket_19 (by decide) ?_
      exact zr_zret hx hb hr hlocks (Or.inl rfl) hB hg hw hS d_D_closeBracket_20

set_option maxHeartbeats 4000000 in
set_option maxRecDepth 100000 in
theorem c_D_isSideWhole (l : Launch) (D : va_G) (B : Nat) (b : Nat) (σ : St) (Q : Int32 → St → Prop) (h : P_D_isSideWhole b σ Q) : zM l y_D_isSideWhole b_D_isSideWhole 1 (some (.boolean)) (rm_D_isSideWhole) D B [.ref b] σ (zQi Q) := by
  refine zM.ofW (own := "LawWorlds$Reader") (by decide +kernel) rfl (Nat.le_of_ble_eq_true rfl) ?_
  intro p e s m args below meth c ls hx hb hml hr hlocks hname hC hwk hw hS hl
  obtain ⟨σ0, eσ⟩ : ∃ z, z = σ := ⟨_, rfl⟩
  have hg : gr σ0 σ := by rw [eσ]; exact gr.rf
  have hl : lv_has ls 1 [(0, va_rf (some b))] := hl
  obtain ⟨hsb, hB⟩ := h
  have hsb0 : s_s σ0 b = some (.inl 8) := by rw [eσ]; exact hsb
  rw [← eσ]
  skip
  refine zr_aload_n (o := some b) hx hb d_D_isSideWhole_0 rfl (lv_at hl 0 rfl) ?_
  refine zr_get (v := .int (s_i σ b 5)) hx hb hC hw rfl hsb fl_D_29 rfl d_D_isSideWhole_1 ?_
  refine lv_if_ne (tgt := 20) hx hb d_D_isSideWhole_4 (by decide) (fun cd => ?_) (fun cd => ?_)
  · have hB := hB.2 cd
    refine lv_iconst (v := nI 0) hx hb d_D_isSideWhole_20 (by decide) ?_
    exact zr_zret hx hb hr hlocks (Or.inl rfl) hB hg hw hS d_D_isSideWhole_21
  · have hB := hB.1 cd
    refine zr_aload_n (o := some b) hx hb d_D_isSideWhole_7 rfl (lv_at hl 0 rfl) ?_
    refine zr_get (v := va_rf (s_r σ b 3)) hx hb hC hw rfl hsb fl_D_18 rfl d_D_isSideWhole_8 ?_
    refine lv_iconst (v := nI 0) hx hb d_D_isSideWhole_11 (by decide) ?_
    obtain ⟨q1, n1, j2, ho, hs, hin, hj, hB⟩ := hB
    refine zr_zald hx hb hw ho hs hin hj d_D_isSideWhole_12 ?_
    refine lv_if_eq (tgt := 20) hx hb d_D_isSideWhole_13 (by decide) (fun cd => ?_) (fun cd => ?_)
    · have hB := hB.1 cd
      refine lv_iconst (v := nI 0) hx hb d_D_isSideWhole_20 (by decide) ?_
      exact zr_zret hx hb hr hlocks (Or.inl rfl) hB hg hw hS d_D_isSideWhole_21
    · have hB := hB.2 cd
      refine lv_iconst (v := nI 1) hx hb d_D_isSideWhole_16 (by decide) ?_
      refine lv_goto (tgt := 21) hx hb d_D_isSideWhole_17 (by decide) ?_
      exact zr_zret hx hb hr hlocks (Or.inr rfl) hB hg hw hS d_D_isSideWhole_21

set_option maxHeartbeats 4000000 in
set_option maxRecDepth 100000 in
theorem c_D_endLeft (l : Launch) (D : va_G) (B : Nat) (b : Nat) (σ : St) (Q : Int32 → St → Prop) (h : P_D_endLeft b σ Q) : zM l y_D_endLeft b_D_endLeft 1 (some (.boolean)) (rm_D_endLeft) D B [.ref b] σ (zQi Q) := by
  refine zM.ofW (own := "LawWorlds$Reader") (by decide +kernel) rfl (Nat.le_of_ble_eq_true rfl) ?_
  intro p e s m args below meth c ls hx hb hml hr hlocks hname hC hwk hw hS hl
  obtain ⟨σ0, eσ⟩ : ∃ z, z = σ := ⟨_, rfl⟩
  have hg : gr σ0 σ := by rw [eσ]; exact gr.rf
  have hl : lv_has ls 1 [(0, va_rf (some b))] := hl
  obtain ⟨hsb, hB⟩ := h
  have hsb0 : s_s σ0 b = some (.inl 8) := by rw [eσ]; exact hsb
  rw [← eσ]
  skip
  refine zr_aload_n (o := some b) hx hb d_D_endLeft_0 rfl (lv_at hl 0 rfl) ?_
  refine zr_get (v := .int (s_i σ b 7)) hx hb hC hw rfl hsb fl_D_61 rfl d_D_endLeft_1 ?_
  refine lv_if_ne (tgt := 14) hx hb d_D_endLeft_4 (by decide) (fun cd => ?_) (fun cd => ?_)
  · have hB := hB.2 cd
    refine lv_iconst (v := nI 0) hx hb d_D_endLeft_14 (by decide) ?_
    exact zr_zret hx hb hr hlocks (Or.inl rfl) hB hg hw hS d_D_endLeft_15
  · have hB := hB.1 cd
    refine zr_aload_n (o := some b) hx hb d_D_endLeft_7 rfl (lv_at hl 0 rfl) ?_
    have hsr := And.left hB
    refine zr_callV (ci := 8) (As := []) (rest := []) hx hb hml hC hwk hw hS hl.1 (c_D_isSideWhole l D B b σ _ hB) mk_D_isSideWhole mi_D_isSideWhole ms_D_isSideWhole ml_D_75 ⟨Nat.le_of_ble_eq_true rfl, Nat.le_of_ble_eq_true rfl⟩ rfl hsr rfl (cat_8 cat_n (Nat.le_of_ble_eq_true rfl)) d_D_endLeft_8 ⟨Nat.le_refl _, Nat.le_refl _⟩ rfl (fun v σ1 H locs hp hgn hw hS => ?_)
    have hg := hg.tr hgn
    have hsb := hgn _ _ hsb
    obtain ⟨r2, rfl, hB⟩ := hp
    refine W.eq (g2 := F0 m 11 ls [.int r2]) rfl ?_
    refine lv_if_ne (tgt := 16) hx hb d_D_endLeft_11 (by decide) (fun cd => ?_) (fun cd => ?_)
    · have hB := hB.2 cd
      refine zr_aload_n (o := some b) hx hb d_D_endLeft_16 rfl (lv_at hl 0 rfl) ?_
      refine lv_iconst (v := nI 1) hx hb d_D_endLeft_17 (by decide) ?_
      have hsr := And.left hB
      refine zr_callV (ci := 8) (As := [.int (nI 1)]) (rest := []) hx hb hml hC hwk hw hS hl.1 (c_D_beginSide l D B b (nI 1) σ1 _ hB) mk_D_beginSide mi_D_beginSide ms_D_beginSide ml_D_32 ⟨Nat.le_of_ble_eq_true rfl, Nat.le_of_ble_eq_true rfl⟩ rfl hsr rfl (cat_8 cat_n (Nat.le_of_ble_eq_true rfl)) d_D_endLeft_18 ⟨Nat.le_refl _, Nat.le_refl _⟩ rfl (fun v σ3 H locs hp hgn hw hS => ?_)
      have hg := hg.tr hgn
      have hsb := hgn _ _ hsb
      obtain ⟨rfl, hB⟩ := hp
      refine W.eq (g2 := F0 m 21 ls []) rfl ?_
      refine lv_iconst (v := nI 1) hx hb d_D_endLeft_21 (by decide) ?_
      exact zr_zret hx hb hr hlocks (Or.inr rfl) hB hg hw hS d_D_endLeft_22
    · have hB := hB.1 cd
      refine lv_iconst (v := nI 0) hx hb d_D_endLeft_14 (by decide) ?_
      exact zr_zret hx hb hr hlocks (Or.inl rfl) hB hg hw hS d_D_endLeft_15

set_option maxHeartbeats 4000000 in
set_option maxRecDepth 100000 in
theorem c_D_endLaw (l : Launch) (D : va_G) (B : Nat) (b : Nat) (σ : St) (Q : Int32 → St → Prop) (h : P_D_endLaw b σ Q) : zM l y_D_endLaw b_D_endLaw 1 (some (.boolean)) (rm_D_endLaw) D B [.ref b] σ (zQi Q) := by
  refine zM.ofW (own := "LawWorlds$Reader") (by decide +kernel) rfl (Nat.le_of_ble_eq_true rfl) ?_
  intro p e s m args below meth c ls hx hb hml hr hlocks hname hC hwk hw hS hl
  obtain ⟨σ0, eσ⟩ : ∃ z, z = σ := ⟨_, rfl⟩
  have hg : gr σ0 σ := by rw [eσ]; exact gr.rf
  have hl : lv_has ls 1 [(0, va_rf (some b))] := hl
  obtain ⟨hsb, hB⟩ := h
  have hsb0 : s_s σ0 b = some (.inl 8) := by rw [eσ]; exact hsb
  rw [← eσ]
  skip
  refine zr_aload_n (o := some b) hx hb d_D_endLaw_0 rfl (lv_at hl 0 rfl) ?_
  refine zr_get (v := .int (s_i σ b 7)) hx hb hC hw rfl hsb fl_D_61 rfl d_D_endLaw_1 ?_
  refine lv_if_eq (tgt := 26) hx hb d_D_endLaw_4 (by decide) (fun cd => ?_) (fun cd => ?_)
  · have hB := hB.1 cd
    refine lv_iconst (v := nI 0) hx hb d_D_endLaw_26 (by decide) ?_
    exact zr_zret hx hb hr hlocks (Or.inl rfl) hB hg hw hS d_D_endLaw_27
  · have hB := hB.2 cd
    refine zr_aload_n (o := some b) hx hb d_D_endLaw_7 rfl (lv_at hl 0 rfl) ?_
    have hsr := And.left hB
    refine zr_callV (ci := 8) (As := []) (rest := []) hx hb hml hC hwk hw hS hl.1 (c_D_isSideWhole l D B b σ _ hB) mk_D_isSideWhole mi_D_isSideWhole ms_D_isSideWhole ml_D_75 ⟨Nat.le_of_ble_eq_true rfl, Nat.le_of_ble_eq_true rfl⟩ rfl hsr rfl (cat_8 cat_n (Nat.le_of_ble_eq_true rfl)) d_D_endLaw_8 ⟨Nat.le_refl _, Nat.le_refl _⟩ rfl (fun v σ1 H locs hp hgn hw hS => ?_)
    have hg := hg.tr hgn
    have hsb := hgn _ _ hsb
    obtain ⟨r2, rfl, hB⟩ := hp
    refine W.eq (g2 := F0 m 11 ls [.int r2]) rfl ?_
    refine lv_if_eq (tgt := 26) hx hb d_D_endLaw_11 (by decide) (fun cd => ?_) (fun cd => ?_)
    · have hB := hB.1 cd
      refine lv_iconst (v := nI 0) hx hb d_D_endLaw_26 (by decide) ?_
      exact zr_zret hx hb hr hlocks (Or.inl rfl) hB hg hw hS d_D_endLaw_27
    · have hB := hB.2 cd
      refine zr_aload_n (o := some b) hx hb d_D_endLaw_14 rfl (lv_at hl 0 rfl) ?_
      refine zr_get (v := .int (s_i σ1 b 1)) hx hb hC hw rfl hsb fl_D_22 rfl d_D_endLaw_15 ?_
      refine zr_aload_n (o := some b) hx hb d_D_endLaw_18 rfl (lv_at hl 0 rfl) ?_
      refine zr_get (v := va_rf (s_r σ1 b 2)) hx hb hC hw rfl hsb fl_D_15 rfl d_D_endLaw_19 ?_
      obtain ⟨q, t, n3, ho, hs, hB⟩ := hB
      refine zr_alen (v := nI n3) hx hb hw ho hs rfl d_D_endLaw_22 ?_
      refine lv_icmp_lt (tgt := 28) hx hb d_D_endLaw_23 (by decide) (fun cd => ?_) (fun cd => ?_)
      · have hB := hB.1 cd
        refine zr_aload_n (o := some b) hx hb d_D_endLaw_28 rfl (lv_at hl 0 rfl) ?_
        refine zr_get (v := va_rf (s_r σ1 b 2)) hx hb hC hw rfl hsb fl_D_15 rfl d_D_endLaw_29 ?_
        refine zr_aload_n (o := some b) hx hb d_D_endLaw_32 rfl (lv_at hl 0 rfl) ?_
        refine zr_get (v := .int (s_i σ1 b 1)) hx hb hC hw rfl hsb fl_D_22 rfl d_D_endLaw_33 ?_
        refine zr_aload_n (o := some b) hx hb d_D_endLaw_36 rfl (lv_at hl 0 rfl) ?_
        refine zr_get (v := .int (s_i σ1 b 4)) hx hb hC hw rfl hsb fl_D_26 rfl d_D_endLaw_37 ?_
        obtain ⟨q4, n4, j5, ho, hs, hin, hj, hB⟩ := hB
        refine zr_iast hx hb hw hS ho hs hin hj d_D_endLaw_40 (fun H locs hw hS => ?_)
        refine zr_aload_n (o := some b) hx hb d_D_endLaw_41 rfl (lv_at hl 0 rfl) ?_
        refine lv_dup hx hb d_D_endLaw_42 (va_rf_cat _) ?_
        refine zr_get (v := .int (s_i (w_i σ1 q4 j5 (s_i σ1 b 4)) b 1)) hx hb hC hw rfl hsb fl_D_22 rfl d_D_endLaw_43 ?_
        refine lv_iconst (v := nI 1) hx hb d_D_endLaw_46 (by decide) ?_
        refine lv_iadd hx hb d_D_endLaw_47 ?_
        refine zr_putI hx hb hC hw hS rfl hsb fl_D_22 rfl rfl d_D_endLaw_48 (fun H locs hw hS => ?_)
        refine zr_aload_n (o := some b) hx hb d_D_endLaw_51 rfl (lv_at hl 0 rfl) ?_
        refine lv_iconst (v := nI 0) hx hb d_D_endLaw_52 (by decide) ?_
        have hsr := And.left hB
        refine zr_callV (ci := 8) (As := [.int (nI 0)]) (rest := []) hx hb hml hC hwk hw hS hl.1 (c_D_beginSide l D B b (nI 0) (w_i (w_i σ1 q4 j5 (s_i σ1 b 4)) b 1 ((s_i (w_i σ1 q4 j5 (s_i σ1 b 4)) b 1) + (nI 1))) _ hB) mk_D_beginSide mi_D_beginSide ms_D_beginSide ml_D_32 ⟨Nat.le_of_ble_eq_true rfl, Nat.le_of_ble_eq_true rfl⟩ rfl hsr rfl (cat_8 cat_n (Nat.le_of_ble_eq_true rfl)) d_D_endLaw_53 ⟨Nat.le_refl _, Nat.le_refl _⟩ rfl (fun v σ6 H locs hp hgn hw hS => ?_)
        have hg := hg.tr hgn
        have hsb := hgn _ _ hsb
        obtain ⟨rfl, hB⟩ := hp
        refine W.eq (g2 := F0 m 56 ls []) rfl ?_
        refine lv_iconst (v := nI 1) hx hb d_D_endLaw_56 (by decide) ?_
        exact zr_zret hx hb hr hlocks (Or.inr rfl) hB hg hw hS d_D_endLaw_57
      · have hB := hB.2 cd
        refine lv_iconst (v := nI 0) hx hb d_D_endLaw_26 (by decide) ?_
        exact zr_zret hx hb hr hlocks (Or.inl rfl) hB hg hw hS d_D_endLaw_27

set_option maxHeartbeats 4000000 in
set_option maxRecDepth 100000 in
theorem c_D_accept (l : Launch) (D : va_G) (B : Nat) (b : Nat) (x1 : Int32) (σ : St) (Q : Int32 → St → Prop) (h : P_D_accept b x1 σ Q) : zM l y_D_accept b_D_accept 2 (some (.boolean)) (rm_D_accept) D B [.ref b, .int x1] σ (zQi Q) := by
  refine zM.ofW (own := "LawWorlds$Reader") (by decide +kernel) rfl (Nat.le_of_ble_eq_true rfl) ?_
  intro p e s m args below meth c ls hx hb hml hr hlocks hname hC hwk hw hS hl
  obtain ⟨σ0, eσ⟩ : ∃ z, z = σ := ⟨_, rfl⟩
  have hg : gr σ0 σ := by rw [eσ]; exact gr.rf
  have hl : lv_has ls 2 [(0, va_rf (some b)), (1, .int x1)] := hl
  obtain ⟨hsb, hB⟩ := h
  have hsb0 : s_s σ0 b = some (.inl 8) := by rw [eσ]; exact hsb
  rw [← eσ]
  skip
  refine lv_iload_n hx hb d_D_accept_0 rfl (lv_at hl 1 rfl) ?_
  refine lv_bipush (v := nI 120) hx hb d_D_accept_1 (by decide) ?_
  refine lv_icmp_lt (tgt := 21) hx hb d_D_accept_3 (by decide) (fun cd => ?_) (fun cd => ?_)
  · have hB := hB.1 cd
    refine lv_iload_n hx hb d_D_accept_21 rfl (lv_at hl 1 rfl) ?_
    refine lv_bipush (v := nI 40) hx hb d_D_accept_22 (by decide) ?_
    refine lv_icmp_ne (tgt := 32) hx hb d_D_accept_24 (by decide) (fun cd => ?_) (fun cd => ?_)
    · have hB := hB.2 cd
      refine lv_iload_n hx hb d_D_accept_32 rfl (lv_at hl 1 rfl) ?_
      refine lv_bipush (v := nI 41) hx hb d_D_accept_33 (by decide) ?_
      refine lv_icmp_ne (tgt := 43) hx hb d_D_accept_35 (by decide) (fun cd => ?_) (fun cd => ?_)
      · have hB := hB.2 cd
        refine lv_iload_n hx hb d_D_accept_43 rfl (lv_at hl 1 rfl) ?_
        refine lv_bipush (v := nI 61) hx hb d_D_accept_44 (by decide) ?_
        refine lv_icmp_ne (tgt := 54) hx hb d_D_accept_46 (by decide) (fun cd => ?_) (fun cd => ?_)
        · have hB := hB.2 cd
          refine lv_iload_n hx hb d_D_accept_54 rfl (lv_at hl 1 rfl) ?_
          refine lv_bipush (v := nI 59) hx hb d_D_accept_55 (by decide) ?_
          refine lv_icmp_ne (tgt := 71) hx hb d_D_accept_57 (by decide) (fun cd => ?_) (fun cd => ?_)
          · have hB := hB.2 cd
            refine lv_iconst (v := nI 0) hx hb d_D_accept_71 (by decide) ?_
            exact zr_zret hx hb hr hlocks (Or.inl rfl) hB hg hw hS d_D_accept_72
          · have hB := hB.1 cd
            refine zr_aload_n (o := some b) hx hb d_D_accept_60 rfl (lv_at hl 0 rfl) ?_
            have hsr := And.left hB
            refine zr_callV (ci := 8) (As := []) (rest := []) hx hb hml hC hwk hw hS hl.1 (c_D_endLaw l D B b σ _ hB) mk_D_endLaw mi_D_endLaw ms_D_endLaw ml_D_40 ⟨Nat.le_of_ble_eq_true rfl, Nat.le_of_ble_eq_true rfl⟩ rfl hsr rfl (cat_8 cat_n (Nat.le_of_ble_eq_true rfl)) d_D_accept_61 ⟨Nat.le_refl _, Nat.le_refl _⟩ rfl (fun v σ1 H locs hp hgn hw hS => ?_)
            have hg := hg.tr hgn
            have hsb := hgn _ _ hsb
            obtain ⟨r2, rfl, hB⟩ := hp
            refine W.eq (g2 := F0 m 64 ls [.int r2]) rfl ?_
            refine lv_if_eq (tgt := 71) hx hb d_D_accept_64 (by decide) (fun cd => ?_) (fun cd => ?_)
            · have hB := hB.1 cd
              refine lv_iconst (v := nI 0) hx hb d_D_accept_71 (by decide) ?_
              exact zr_zret hx hb hr hlocks (Or.inl rfl) hB hg hw hS d_D_accept_72
            · have hB := hB.2 cd
              refine lv_iconst (v := nI 1) hx hb d_D_accept_67 (by decide) ?_
              refine lv_goto (tgt := 72) hx hb d_D_accept_68 (by decide) ?_
              exact zr_zret hx hb hr hlocks (Or.inr rfl) hB hg hw hS d_D_accept_72
        · have hB := hB.1 cd
          refine zr_aload_n (o := some b) hx hb d_D_accept_49 rfl (lv_at hl 0 rfl) ?_
          have hsr := And.left hB
          refine zr_callV (ci := 8) (As := []) (rest := []) hx hb hml hC hwk hw hS hl.1 (c_D_endLeft l D B b σ _ hB) mk_D_endLeft mi_D_endLeft ms_D_endLeft ml_D_58 ⟨Nat.le_of_ble_eq_true rfl, Nat.le_of_ble_eq_true rfl⟩ rfl hsr rfl (cat_8 cat_n (Nat.le_of_ble_eq_true rfl)) d_D_accept_50 ⟨Nat.le_refl _, Nat.le_refl _⟩ rfl (fun v σ3 H locs hp hgn hw hS => ?_)
          have hg := hg.tr hgn
          have hsb := hgn _ _ hsb
          obtain ⟨r4, rfl, hB⟩ := hp
          refine W.eq (g2 := F0 m 53 ls [.int r4]) rfl ?_
          exact zr_zret hx hb hr hlocks hB.1 hB.2 hg hw hS d_D_accept_53
      · have hB := hB.1 cd
        refine zr_aload_n (o := some b) hx hb d_D_accept_38 rfl (lv_at hl 0 rfl) ?_
        have hsr := And.left hB
        refine zr_callV (ci := 8) (As := []) (rest := []) hx hb hml hC hwk hw hS hl.1 (c_D_closeBracket l D B b σ _ hB) mk_D_closeBracket mi_D_closeBracket ms_D_closeBracket ml_D_55 ⟨Nat.le_of_ble_eq_true rfl, Nat.le_of_ble_eq_true rfl⟩ rfl hsr rfl (cat_8 cat_n (Nat.le_of_ble_eq_true rfl)) d_D_accept_39 ⟨Nat.le_refl _, Nat.le_refl _⟩ rfl (fun v σ5 H locs hp hgn hw hS => ?_)
        have hg := hg.tr hgn
        have hsb := hgn _ _ hsb
        obtain ⟨r6, rfl, hB⟩ := hp
        refine W.eq (g2 := F0 m 42 ls [.int r6]) rfl ?_
        exact zr_zret hx hb hr hlocks hB.1 hB.2 hg hw hS d_D_accept_42
    · have hB := hB.1 cd
      refine zr_aload_n (o := some b) hx hb d_D_accept_27 rfl (lv_at hl 0 rfl) ?_
      have hsr := And.left hB
      refine zr_callV (ci := 8) (As := []) (rest := []) hx hb hml hC hwk hw hS hl.1 (c_D_openBracket l D B b σ _ hB) mk_D_openBracket mi_D_openBracket ms_D_openBracket ml_D_52 ⟨Nat.le_of_ble_eq_true rfl, Nat.le_of_ble_eq_true rfl⟩ rfl hsr rfl (cat_8 cat_n (Nat.le_of_ble_eq_true rfl)) d_D_accept_28 ⟨Nat.le_refl _, Nat.le_refl _⟩ rfl (fun v σ7 H locs hp hgn hw hS => ?_)
      have hg := hg.tr hgn
      have hsb := hgn _ _ hsb
      obtain ⟨r8, rfl, hB⟩ := hp
      refine W.eq (g2 := F0 m 31 ls [.int r8]) rfl ?_
      exact zr_zret hx hb hr hlocks hB.1 hB.2 hg hw hS d_D_accept_31
  · have hB := hB.2 cd
    refine lv_iload_n hx hb d_D_accept_6 rfl (lv_at hl 1 rfl) ?_
    refine lv_bipush (v := nI 122) hx hb d_D_accept_7 (by decide) ?_
    refine lv_icmp_gt (tgt := 21) hx hb d_D_accept_9 (by decide) (fun cd => ?_) (fun cd => ?_)
    · have hB := hB.1 cd
      refine lv_iload_n hx hb d_D_accept_21 rfl (lv_at hl 1 rfl) ?_
      refine lv_bipush (v := nI 40) hx hb d_D_accept_22 (by decide) ?_
      refine lv_icmp_ne (tgt := 32) hx hb d_D_accept_24 (by decide) (fun cd => ?_) (fun cd => ?_)
      · have hB := hB.2 cd
        refine lv_iload_n hx hb d_D_accept_32 rfl (lv_at hl 1 rfl) ?_
        refine lv_bipush (v := nI 41) hx hb d_D_accept_33 (by decide) ?_
        refine lv_icmp_ne (tgt := 43) hx hb d_D_accept_35 (by decide) (fun cd => ?_) (fun cd => ?_)
        · have hB := hB.2 cd
          refine lv_iload_n hx hb d_D_accept_43 rfl (lv_at hl 1 rfl) ?_
          refine lv_bipush (v := nI 61) hx hb d_D_accept_44 (by decide) ?_
          refine lv_icmp_ne (tgt := 54) hx hb d_D_accept_46 (by decide) (fun cd => ?_) (fun cd => ?_)
          · have hB := hB.2 cd
            refine lv_iload_n hx hb d_D_accept_54 rfl (lv_at hl 1 rfl) ?_
            refine lv_bipush (v := nI 59) hx hb d_D_accept_55 (by decide) ?_
            refine lv_icmp_ne (tgt := 71) hx hb d_D_accept_57 (by decide) (fun cd => ?_) (fun cd => ?_)
            · have hB := hB.2 cd
              refine lv_iconst (v := nI 0) hx hb d_D_accept_71 (by decide) ?_
              exact zr_zret hx hb hr hlocks (Or.inl rfl) hB hg hw hS d_D_accept_72
            · have hB := hB.1 cd
              refine zr_aload_n (o := some b) hx hb d_D_accept_60 rfl (lv_at hl 0 rfl) ?_
              have hsr := And.left hB
              refine zr_callV (ci := 8) (As := []) (rest := []) hx hb hml hC hwk hw hS hl.1 (c_D_endLaw l D B b σ _ hB) mk_D_endLaw mi_D_endLaw ms_D_endLaw ml_D_40 ⟨Nat.le_of_ble_eq_true rfl, Nat.le_of_ble_eq_true rfl⟩ rfl hsr rfl (cat_8 cat_n (Nat.le_of_ble_eq_true rfl)) d_D_accept_61 ⟨Nat.le_refl _, Nat.le_refl _⟩ rfl (fun v σ9 H locs hp hgn hw hS => ?_)
              have hg := hg.tr hgn
              have hsb := hgn _ _ hsb
              obtain ⟨r10, rfl, hB⟩ := hp
              refine W.eq (g2 := F0 m 64 ls [.int r10]) rfl ?_
              refine lv_if_eq (tgt := 71) hx hb d_D_accept_64 (by decide) (fun cd => ?_) (fun cd => ?_)
              · have hB := hB.1 cd
                refine lv_iconst (v := nI 0) hx hb d_D_accept_71 (by decide) ?_
                exact zr_zret hx hb hr hlocks (Or.inl rfl) hB hg hw hS d_D_accept_72
              · have hB := hB.2 cd
                refine lv_iconst (v := nI 1) hx hb d_D_accept_67 (by decide) ?_
                refine lv_goto (tgt := 72) hx hb d_D_accept_68 (by decide) ?_
                exact zr_zret hx hb hr hlocks (Or.inr rfl) hB hg hw hS d_D_accept_72
          · have hB := hB.1 cd
            refine zr_aload_n (o := some b) hx hb d_D_accept_49 rfl (lv_at hl 0 rfl) ?_
            have hsr := And.left hB
            refine zr_callV (ci := 8) (As := []) (rest := []) hx hb hml hC hwk hw hS hl.1 (c_D_endLeft l D B b σ _ hB) mk_D_endLeft mi_D_endLeft ms_D_endLeft ml_D_58 ⟨Nat.le_of_ble_eq_true rfl, Nat.le_of_ble_eq_true rfl⟩ rfl hsr rfl (cat_8 cat_n (Nat.le_of_ble_eq_true rfl)) d_D_accept_50 ⟨Nat.le_refl _, Nat.le_refl _⟩ rfl (fun v σ11 H locs hp hgn hw hS => ?_)
            have hg := hg.tr hgn
            have hsb := hgn _ _ hsb
            obtain ⟨r12, rfl, hB⟩ := hp
            refine W.eq (g2 := F0 m 53 ls [.int r12]) rfl ?_
            exact zr_zret hx hb hr hlocks hB.1 hB.2 hg hw hS d_D_accept_53
        · have hB := hB.1 cd
          refine zr_aload_n (o := some b) hx hb d_D_accept_38 rfl (lv_at hl 0 rfl) ?_
          have hsr := And.left hB
          refine zr_callV (ci := 8) (As := []) (rest := []) hx hb hml hC hwk hw hS hl.1 (c_D_closeBracket l D B b σ _ hB) mk_D_closeBracket mi_D_closeBracket ms_D_closeBracket ml_D_55 ⟨Nat.le_of_ble_eq_true rfl, Nat.le_of_ble_eq_true rfl⟩ rfl hsr rfl (cat_8 cat_n (Nat.le_of_ble_eq_true rfl)) d_D_accept_39 ⟨Nat.le_refl _, Nat.le_refl _⟩ rfl (fun v σ13 H locs hp hgn hw hS => ?_)
          have hg := hg.tr hgn
          have hsb := hgn _ _ hsb
          obtain ⟨r14, rfl, hB⟩ := hp
          refine W.eq (g2 := F0 m 42 ls [.int r14]) rfl ?_
          exact zr_zret hx hb hr hlocks hB.1 hB.2 hg hw hS d_D_accept_42
      · have hB := hB.1 cd
        refine zr_aload_n (o := some b) hx hb d_D_accept_27 rfl (lv_at hl 0 rfl) ?_
        have hsr := And.left hB
        refine zr_callV (ci := 8) (As := []) (rest := []) hx hb hml hC hwk hw hS hl.1 (c_D_openBracket l D B b σ _ hB) mk_D_openBracket mi_D_openBracket ms_D_openBracket ml_D_52 ⟨Nat.le_of_ble_eq_true rfl, Nat.le_of_ble_eq_true rfl⟩ rfl hsr rfl (cat_8 cat_n (Nat.le_of_ble_eq_true rfl)) d_D_accept_28 ⟨Nat.le_refl _, Nat.le_refl _⟩ rfl (fun v σ15 H locs hp hgn hw hS => ?_)
        have hg := hg.tr hgn
        have hsb := hgn _ _ hsb
        obtain ⟨r16, rfl, hB⟩ := hp
        refine W.eq (g2 := F0 m 31 ls [.int r16]) rfl ?_
        exact zr_zret hx hb hr hlocks hB.1 hB.2 hg hw hS d_D_accept_31
    · have hB := hB.2 cd
      refine zr_aload_n (o := some b) hx hb d_D_accept_12 rfl (lv_at hl 0 rfl) ?_
      refine lv_iload_n hx hb d_D_accept_13 rfl (lv_at hl 1 rfl) ?_
      refine lv_bipush (v := nI 120) hx hb d_D_accept_14 (by decide) ?_
      refine lv_isub hx hb d_D_accept_16 ?_
      have hsr := And.left hB
      refine zr_callV (ci := 8) (As := [.int (x1 - (nI 120))]) (rest := []) hx hb hml hC hwk hw hS hl.1 (c_D_addLetter l D B b (x1 - (nI 120)) σ _ hB) mk_D_addLetter mi_D_addLetter ms_D_addLetter ml_D_48 ⟨Nat.le_of_ble_eq_true rfl, Nat.le_of_ble_eq_true rfl⟩ rfl hsr rfl (cat_8 cat_n (Nat.le_of_ble_eq_true rfl)) d_D_accept_17 ⟨Nat.le_refl _, Nat.le_refl _⟩ rfl (fun v σ17 H locs hp hgn hw hS => ?_)
      have hg := hg.tr hgn
      have hsb := hgn _ _ hsb
      obtain ⟨r18, rfl, hB⟩ := hp
      refine W.eq (g2 := F0 m 20 ls [.int r18]) rfl ?_
      exact zr_zret hx hb hr hlocks hB.1 hB.2 hg hw hS d_D_accept_20

set_option maxHeartbeats 4000000 in
set_option maxRecDepth 100000 in
theorem c_D_read (l : Launch) (D : va_G) (B : Nat) (b : Nat) (o1 : Option Nat) (x2 : Int32) (σ : St) (Q : Int32 → St → Prop) (h : P_D_read b o1 x2 σ Q) : zM l y_D_read b_D_read 4 (some (.int)) (rm_D_read) D B [.ref b, va_rf o1, .int x2] σ (zQi Q) := by
  refine zM.ofW (own := "LawWorlds$Reader") (by decide +kernel) rfl (lg_c rfl (lg_c (va_rf_cat _) (lg_c rfl lg_0))) ?_
  intro p e s m args below meth c ls hx hb hml hr hlocks hname hC hwk hw hS hl
  obtain ⟨σ0, eσ⟩ : ∃ z, z = σ := ⟨_, rfl⟩
  have hg : gr σ0 σ := by rw [eσ]; exact gr.rf
  rw [lv_args_c rfl, lv_args_c (va_rf_cat _), lv_args_c rfl] at hl
  have hl : lv_has ls 4 [(0, va_rf (some b)), (1, va_rf o1), (2, .int x2)] := hl
  obtain ⟨hsb, hB⟩ := h
  have hsb0 : s_s σ0 b = some (.inl 8) := by rw [eσ]; exact hsb
  rw [← eσ]
  skip
  obtain ⟨K22, hK22⟩ : ∃ K : Option Nat → Int32 → Int32 → St → Prop, K = (fun (o1 : Option Nat) (x2 : Int32) (x3 : Int32) (σ : St) => ∀ (H : Heap) (locs : List Loc) (ls : Array Slot), gr σ0 σ → wh D B σ s H → va_S (zA B) s.heap H locs → lv_has ls 4 [(0, va_rf (some b)), (1, va_rf o1), (2, .int x2), (3, .int x3)] → W p l e (rm_D_read) s m args below meth c H locs 0 0 (MQ below (zQ D B σ0 (zQi Q)) args s (rm_D_read).cells (rm_D_read).slots (zA B)) (F0 m 22 ls [])) := ⟨_, rfl⟩
  refine (fun hB => ?_) (hB K22 ?_)
  · skip
    refine zr_aload_n (o := some b) hx hb d_D_read_0 rfl (lv_at hl 0 rfl) ?_
    refine lv_iconst (v := nI 0) hx hb d_D_read_1 (by decide) ?_
    refine zr_putI hx hb hC hw hS rfl hsb fl_D_22 rfl rfl d_D_read_2 (fun H locs hw hS => ?_)
    refine zr_aload_n (o := some b) hx hb d_D_read_5 rfl (lv_at hl 0 rfl) ?_
    refine lv_iconst (v := nI 0) hx hb d_D_read_6 (by decide) ?_
    refine zr_putI hx hb hC hw hS rfl hsb fl_D_26 rfl rfl d_D_read_7 (fun H locs hw hS => ?_)
    refine zr_aload_n (o := some b) hx hb d_D_read_10 rfl (lv_at hl 0 rfl) ?_
    refine lv_iconst (v := nI 0) hx hb d_D_read_11 (by decide) ?_
    refine zr_putI hx hb hC hw hS rfl hsb fl_D_29 rfl rfl d_D_read_12 (fun H locs hw hS => ?_)
    refine zr_aload_n (o := some b) hx hb d_D_read_15 rfl (lv_at hl 0 rfl) ?_
    refine lv_iconst (v := nI 0) hx hb d_D_read_16 (by decide) ?_
    have hsr := And.left hB
    refine zr_callV (ci := 8) (As := [.int (nI 0)]) (rest := []) hx hb hml hC hwk hw hS hl.1 (c_D_beginSide l D B b (nI 0) (w_i (w_i (w_i σ b 1 (nI 0)) b 4 (nI 0)) b 5 (nI 0)) _ hB) mk_D_beginSide mi_D_beginSide ms_D_beginSide ml_D_32 ⟨Nat.le_of_ble_eq_true rfl, Nat.le_of_ble_eq_true rfl⟩ rfl hsr rfl (cat_8 cat_n (Nat.le_of_ble_eq_true rfl)) d_D_read_17 ⟨Nat.le_refl _, Nat.le_refl _⟩ rfl (fun v σ10 H locs hp hgn hw hS => ?_)
    have hg := hg.tr hgn
    have hsb := hgn _ _ hsb
    obtain ⟨rfl, hB⟩ := hp
    refine W.eq (g2 := F0 m 20 ls []) rfl ?_
    refine lv_iconst (v := nI 0) hx hb d_D_read_20 (by decide) ?_
    refine lv_istore_n (lv' := [(3, .int (nI 0)), (0, va_rf (some b)), (1, va_rf o1), (2, .int x2)]) hx hb d_D_read_21 rfl hl (by decide) rfl (fun ls hl => ?_)
    rw [hK22] at hB
    exact hB _ _ _ hg hw hS (lv_sub hl [1, 2, 3, 0] rfl)
  · intro o1 x2 x3 σ hB
    rw [hK22]
    intro H locs ls hg hw hS hl
    have hsb := hg _ _ hsb0
    refine lv_iload_n hx hb d_D_read_22 rfl (lv_at hl 3 rfl) ?_
    refine lv_iload_n hx hb d_D_read_23 rfl (lv_at hl 2 rfl) ?_
    refine lv_icmp_ge (tgt := 51) hx hb d_D_read_24 (by decide) (fun cd => ?_) (fun cd => ?_)
    · have hB := hB.1 cd
      refine zr_aload_n (o := some b) hx hb d_D_read_51 rfl (lv_at hl 0 rfl) ?_
      have hsr := And.left hB
      refine zr_callV (ci := 8) (As := []) (rest := []) hx hb hml hC hwk hw hS hl.1 (c_D_endLaw l D B b σ _ hB) mk_D_endLaw mi_D_endLaw ms_D_endLaw ml_D_40 ⟨Nat.le_of_ble_eq_true rfl, Nat.le_of_ble_eq_true rfl⟩ rfl hsr rfl (cat_8 cat_n (Nat.le_of_ble_eq_true rfl)) d_D_read_52 ⟨Nat.le_refl _, Nat.le_refl _⟩ rfl (fun v σ1 H locs hp hgn hw hS => ?_)
      have hg := hg.tr hgn
      have hsb := hgn _ _ hsb
      obtain ⟨r2, rfl, hB⟩ := hp
      refine W.eq (g2 := F0 m 55 ls [.int r2]) rfl ?_
      refine lv_if_eq (tgt := 62) hx hb d_D_read_55 (by decide) (fun cd => ?_) (fun cd => ?_)
      · have hB := hB.1 cd
        refine lv_iload_n hx hb d_D_read_62 rfl (lv_at hl 2 rfl) ?_
        exact zr_iret hx hb hr hlocks hB hg hw hS d_D_read_63
      · have hB := hB.2 cd
        refine lv_iconst (v := (-1)) hx hb d_D_read_58 (by decide) ?_
        refine lv_goto (tgt := 63) hx hb d_D_read_59 (by decide) ?_
        exact zr_iret hx hb hr hlocks hB hg hw hS d_D_read_63
    · have hB := hB.2 cd
      refine lv_iload_n hx hb d_D_read_27 rfl (lv_at hl 3 rfl) ?_
      refine zr_aload_n (o := o1) hx hb d_D_read_28 rfl (lv_at hl 1 rfl) ?_
      obtain ⟨q, t, n3, ho, hs, hB⟩ := hB
      refine zr_alen (v := nI n3) hx hb hw ho hs rfl d_D_read_29 ?_
      refine lv_icmp_ge (tgt := 51) hx hb d_D_read_30 (by decide) (fun cd => ?_) (fun cd => ?_)
      · have hB := hB.1 cd
        refine zr_aload_n (o := some b) hx hb d_D_read_51 rfl (lv_at hl 0 rfl) ?_
        have hsr := And.left hB
        refine zr_callV (ci := 8) (As := []) (rest := []) hx hb hml hC hwk hw hS hl.1 (c_D_endLaw l D B b σ _ hB) mk_D_endLaw mi_D_endLaw ms_D_endLaw ml_D_40 ⟨Nat.le_of_ble_eq_true rfl, Nat.le_of_ble_eq_true rfl⟩ rfl hsr rfl (cat_8 cat_n (Nat.le_of_ble_eq_true rfl)) d_D_read_52 ⟨Nat.le_refl _, Nat.le_refl _⟩ rfl (fun v σ4 H locs hp hgn hw hS => ?_)
        have hg := hg.tr hgn
        have hsb := hgn _ _ hsb
        obtain ⟨r5, rfl, hB⟩ := hp
        refine W.eq (g2 := F0 m 55 ls [.int r5]) rfl ?_
        refine lv_if_eq (tgt := 62) hx hb d_D_read_55 (by decide) (fun cd => ?_) (fun cd => ?_)
        · have hB := hB.1 cd
          refine lv_iload_n hx hb d_D_read_62 rfl (lv_at hl 2 rfl) ?_
          exact zr_iret hx hb hr hlocks hB hg hw hS d_D_read_63
        · have hB := hB.2 cd
          refine lv_iconst (v := (-1)) hx hb d_D_read_58 (by decide) ?_
          refine lv_goto (tgt := 63) hx hb d_D_read_59 (by decide) ?_
          exact zr_iret hx hb hr hlocks hB hg hw hS d_D_read_63
      · have hB := hB.2 cd
        refine zr_aload_n (o := some b) hx hb d_D_read_33 rfl (lv_at hl 0 rfl) ?_
        refine zr_aload_n (o := o1) hx hb d_D_read_34 rfl (lv_at hl 1 rfl) ?_
        refine lv_iload_n hx hb d_D_read_35 rfl (lv_at hl 3 rfl) ?_
        obtain ⟨q6, n6, j7, ho, hs, hin, hj, hB⟩ := hB
        refine zr_cald hx hb hw ho hs hin hj d_D_read_36 ?_
        have hsr := And.left hB
        refine zr_callV (ci := 8) (As := [.int (s_i σ q6 j7)]) (rest := []) hx hb hml hC hwk hw hS hl.1 (c_D_accept l D B b (s_i σ q6 j7) σ _ hB) mk_D_accept mi_D_accept ms_D_accept ml_D_36 ⟨Nat.le_of_ble_eq_true rfl, Nat.le_of_ble_eq_true rfl⟩ rfl hsr rfl (cat_8 cat_n (Nat.le_of_ble_eq_true rfl)) d_D_read_37 ⟨Nat.le_refl _, Nat.le_refl _⟩ rfl (fun v σ8 H locs hp hgn hw hS => ?_)
        have hg := hg.tr hgn
        have hsb := hgn _ _ hsb
        obtain ⟨r9, rfl, hB⟩ := hp
        refine W.eq (g2 := F0 m 40 ls [.int r9]) rfl ?_
        refine lv_if_ne (tgt := 45) hx hb d_D_read_40 (by decide) (fun cd => ?_) (fun cd => ?_)
        · have hB := hB.2 cd
          refine lv_iinc (v := x3 + nI 1) (lv' := [(3, .int (x3 + nI 1)), (0, va_rf (some b)), (1, va_rf o1), (2, .int x2)]) hx hb d_D_read_45 hl (k := 3) rfl rfl (by decide) rfl (fun ls hl => ?_)
          refine lv_goto (tgt := 22) hx hb d_D_read_48 (by decide) ?_
          rw [hK22] at hB
          exact hB _ _ _ hg hw hS (lv_sub hl [1, 2, 3, 0] rfl)
        · have hB := hB.1 cd
          refine lv_iload_n hx hb d_D_read_43 rfl (lv_at hl 3 rfl) ?_
          exact zr_iret hx hb hr hlocks hB hg hw hS d_D_read_44

set_option maxHeartbeats 4000000 in
set_option maxRecDepth 100000 in
theorem c_D_lawEnd (l : Launch) (D : va_G) (B : Nat) (b : Nat) (x1 : Int32) (σ : St) (Q : Int32 → St → Prop) (h : P_D_lawEnd b x1 σ Q) : zM l y_D_lawEnd b_D_lawEnd 2 (some (.int)) (rm_D_lawEnd) D B [.ref b, .int x1] σ (zQi Q) := by
  refine zM.ofW (own := "LawWorlds$Reader") (by decide +kernel) rfl (Nat.le_of_ble_eq_true rfl) ?_
  intro p e s m args below meth c ls hx hb hml hr hlocks hname hC hwk hw hS hl
  obtain ⟨σ0, eσ⟩ : ∃ z, z = σ := ⟨_, rfl⟩
  have hg : gr σ0 σ := by rw [eσ]; exact gr.rf
  have hl : lv_has ls 2 [(0, va_rf (some b)), (1, .int x1)] := hl
  obtain ⟨hsb, hB⟩ := h
  have hsb0 : s_s σ0 b = some (.inl 8) := by rw [eσ]; exact hsb
  rw [← eσ]
  skip
  refine lv_iload_n hx hb d_D_lawEnd_0 rfl (lv_at hl 1 rfl) ?_
  refine lv_if_lt (tgt := 21) hx hb d_D_lawEnd_1 (by decide) (fun cd => ?_) (fun cd => ?_)
  · have hB := hB.1 cd
    refine lv_iconst (v := nI 0) hx hb d_D_lawEnd_21 (by decide) ?_
    exact zr_iret hx hb hr hlocks hB hg hw hS d_D_lawEnd_22
  · have hB := hB.2 cd
    refine lv_iload_n hx hb d_D_lawEnd_4 rfl (lv_at hl 1 rfl) ?_
    refine zr_aload_n (o := some b) hx hb d_D_lawEnd_5 rfl (lv_at hl 0 rfl) ?_
    refine zr_get (v := .int (s_i σ b 1)) hx hb hC hw rfl hsb fl_D_22 rfl d_D_lawEnd_6 ?_
    refine lv_icmp_ge (tgt := 21) hx hb d_D_lawEnd_9 (by decide) (fun cd => ?_) (fun cd => ?_)
    · have hB := hB.1 cd
      refine lv_iconst (v := nI 0) hx hb d_D_lawEnd_21 (by decide) ?_
      exact zr_iret hx hb hr hlocks hB hg hw hS d_D_lawEnd_22
    · have hB := hB.2 cd
      refine zr_aload_n (o := some b) hx hb d_D_lawEnd_12 rfl (lv_at hl 0 rfl) ?_
      refine zr_get (v := va_rf (s_r σ b 2)) hx hb hC hw rfl hsb fl_D_15 rfl d_D_lawEnd_13 ?_
      refine lv_iload_n hx hb d_D_lawEnd_16 rfl (lv_at hl 1 rfl) ?_
      obtain ⟨q1, n1, j2, ho, hs, hin, hj, hB⟩ := hB
      refine zr_iald hx hb hw ho hs hin hj d_D_lawEnd_17 ?_
      refine lv_goto (tgt := 22) hx hb d_D_lawEnd_18 (by decide) ?_
      exact zr_iret hx hb hr hlocks hB hg hw hS d_D_lawEnd_22

set_option maxHeartbeats 4000000 in
set_option maxRecDepth 100000 in
theorem c_D_lawStart (l : Launch) (D : va_G) (B : Nat) (b : Nat) (x1 : Int32) (σ : St) (Q : Int32 → St → Prop) (h : P_D_lawStart b x1 σ Q) : zM l y_D_lawStart b_D_lawStart 2 (some (.int)) (rm_D_lawStart) D B [.ref b, .int x1] σ (zQi Q) := by
  refine zM.ofW (own := "LawWorlds$Reader") (by decide +kernel) rfl (Nat.le_of_ble_eq_true rfl) ?_
  intro p e s m args below meth c ls hx hb hml hr hlocks hname hC hwk hw hS hl
  obtain ⟨σ0, eσ⟩ : ∃ z, z = σ := ⟨_, rfl⟩
  have hg : gr σ0 σ := by rw [eσ]; exact gr.rf
  have hl : lv_has ls 2 [(0, va_rf (some b)), (1, .int x1)] := hl
  obtain ⟨hsb, hB⟩ := h
  have hsb0 : s_s σ0 b = some (.inl 8) := by rw [eσ]; exact hsb
  rw [← eσ]
  skip
  refine lv_iload_n hx hb d_D_lawStart_0 rfl (lv_at hl 1 rfl) ?_
  refine lv_if_gt (tgt := 8) hx hb d_D_lawStart_1 (by decide) (fun cd => ?_) (fun cd => ?_)
  · have hB := hB.1 cd
    refine zr_aload_n (o := some b) hx hb d_D_lawStart_8 rfl (lv_at hl 0 rfl) ?_
    refine lv_iload_n hx hb d_D_lawStart_9 rfl (lv_at hl 1 rfl) ?_
    refine lv_iconst (v := nI 1) hx hb d_D_lawStart_10 (by decide) ?_
    refine lv_isub hx hb d_D_lawStart_11 ?_
    have hsr := And.left hB
    refine zr_callV (ci := 8) (As := [.int (x1 - (nI 1))]) (rest := []) hx hb hml hC hwk hw hS hl.1 (c_D_lawEnd l D B b (x1 - (nI 1)) σ _ hB) mk_D_lawEnd mi_D_lawEnd ms_D_lawEnd ml_D_44 ⟨Nat.le_of_ble_eq_true rfl, Nat.le_of_ble_eq_true rfl⟩ rfl hsr rfl (cat_8 cat_n (Nat.le_of_ble_eq_true rfl)) d_D_lawStart_12 ⟨Nat.le_refl _, Nat.le_refl _⟩ rfl (fun v σ1 H locs hp hgn hw hS => ?_)
    have hg := hg.tr hgn
    have hsb := hgn _ _ hsb
    obtain ⟨r2, rfl, hB⟩ := hp
    refine W.eq (g2 := F0 m 15 ls [.int r2]) rfl ?_
    exact zr_iret hx hb hr hlocks hB hg hw hS d_D_lawStart_15
  · have hB := hB.2 cd
    refine lv_iconst (v := nI 0) hx hb d_D_lawStart_4 (by decide) ?_
    refine lv_goto (tgt := 15) hx hb d_D_lawStart_5 (by decide) ?_
    exact zr_iret hx hb hr hlocks hB hg hw hS d_D_lawStart_15

set_option maxHeartbeats 4000000 in
set_option maxRecDepth 100000 in
theorem c_P_isIn (l : Launch) (D : va_G) (B : Nat) (o0 : Option Nat) (x1 : Int32) (σ : St) (Q : Int32 → St → Prop) (h : P_P_isIn o0 x1 σ Q) : zM l y_P_isIn b_P_isIn 3 (some (.boolean)) (rm_P_isIn) D B [va_rf o0, .int x1] σ (zQi Q) := by
  refine zM.ofW (own := "LawWorlds$PlainWorlds") (by decide +kernel) rfl (lg_c (va_rf_cat _) (lg_c rfl lg_0)) ?_
  intro p e s m args below meth c ls hx hb hml hr hlocks hname hC hwk hw hS hl
  obtain ⟨σ0, eσ⟩ : ∃ z, z = σ := ⟨_, rfl⟩
  have hg : gr σ0 σ := by rw [eσ]; exact gr.rf
  rw [lv_args_c (va_rf_cat _), lv_args_c rfl] at hl
  have hl : lv_has ls 3 [(0, va_rf o0), (1, .int x1)] := hl
  have hB := h
  rw [← eσ]
  skip
  refine lv_iload_n hx hb d_P_isIn_0 rfl (lv_at hl 1 rfl) ?_
  refine lv_bipush (v := nI 64) hx hb d_P_isIn_1 (by decide) ?_
  refine lv_idiv hx hb d_P_isIn_3 (by decide) ?_
  refine lv_istore_n (lv' := [(2, .int (x1 / (nI 64))), (0, va_rf o0), (1, .int x1)]) hx hb d_P_isIn_4 rfl hl (by decide) rfl (fun ls hl => ?_)
  refine lv_iload_n hx hb d_P_isIn_5 rfl (lv_at hl 0 rfl) ?_
  refine lv_if_lt (tgt := 34) hx hb d_P_isIn_6 (by decide) (fun cd => ?_) (fun cd => ?_)
  · have hB := hB.1 cd
    refine lv_iconst (v := nI 0) hx hb d_P_isIn_34 (by decide) ?_
    exact zr_zret hx hb hr hlocks (Or.inl rfl) hB hg hw hS d_P_isIn_35
  · have hB := hB.2 cd
    refine lv_iload_n hx hb d_P_isIn_9 rfl (lv_at hl 0 rfl) ?_
    refine zr_aload_n (o := o0) hx hb d_P_isIn_10 rfl (lv_at hl 1 rfl) ?_
    obtain ⟨q, t, n1, ho, hs, hB⟩ := hB
    refine zr_alen (v := nI n1) hx hb hw ho hs rfl d_P_isIn_11 ?_
    refine lv_icmp_ge (tgt := 34) hx hb d_P_isIn_12 (by decide) (fun cd => ?_) (fun cd => ?_)
    · have hB := hB.1 cd
      refine lv_iconst (v := nI 0) hx hb d_P_isIn_34 (by decide) ?_
      exact zr_zret hx hb hr hlocks (Or.inl rfl) hB hg hw hS d_P_isIn_35
    · have hB := hB.2 cd
      refine zr_aload_n (o := o0) hx hb d_P_isIn_15 rfl (lv_at hl 1 rfl) ?_
      refine lv_iload_n hx hb d_P_isIn_16 rfl (lv_at hl 0 rfl) ?_
      obtain ⟨q2, n2, j3, ho, hs, hin, hj, hB⟩ := hB
      refine zr_lald hx hb hw ho hs hin hj d_P_isIn_17 ?_
      refine lv_lconst (v := lN 1) hx hb d_P_isIn_18 (by decide) ?_
      refine lv_iload_n hx hb d_P_isIn_19 rfl (lv_at hl 2 rfl) ?_
      refine lv_bipush (v := nI 64) hx hb d_P_isIn_20 (by decide) ?_
      refine zr_irem hx hb d_P_isIn_22 (by decide) ?_
      refine zr_lshl hx hb d_P_isIn_23 ?_
      refine lv_land hx hb d_P_isIn_24 ?_
      refine lv_lconst (v := lN 0) hx hb d_P_isIn_25 (by decide) ?_
      refine W.lcmp hx hb d_P_isIn_26 ?_
      refine lv_if_eq (tgt := 34) hx hb d_P_isIn_27 (by decide) (fun cd => ?_) (fun cd => ?_)
      · have hB := hB.1 cd
        refine lv_iconst (v := nI 0) hx hb d_P_isIn_34 (by decide) ?_
        exact zr_zret hx hb hr hlocks (Or.inl rfl) hB hg hw hS d_P_isIn_35
      · have hB := hB.2 cd
        refine lv_iconst (v := nI 1) hx hb d_P_isIn_30 (by decide) ?_
        refine lv_goto (tgt := 35) hx hb d_P_isIn_31 (by decide) ?_
        exact zr_zret hx hb hr hlocks (Or.inr rfl) hB hg hw hS d_P_isIn_35

set_option maxHeartbeats 4000000 in
set_option maxRecDepth 100000 in
theorem c_P_add (l : Launch) (D : va_G) (B : Nat) (b : Nat) (x1 : Int32) (x2 : Int32) (o3 : Option Nat) (σ : St) (Q : St → Prop) (h : P_P_add b x1 x2 o3 σ Q) : zM l y_P_add b_P_add 8 none (rm_P_add) D B [.ref b, .int x1, .int x2, va_rf o3] σ (zQv Q) := by
  refine zM.ofW (own := "LawWorlds$PlainWorlds") (by decide +kernel) rfl (lg_c rfl (lg_c rfl (lg_c rfl (lg_c (va_rf_cat _) lg_0)))) ?_
  intro p e s m args below meth c ls hx hb hml hr hlocks hname hC hwk hw hS hl
  obtain ⟨σ0, eσ⟩ : ∃ z, z = σ := ⟨_, rfl⟩
  have hg : gr σ0 σ := by rw [eσ]; exact gr.rf
  rw [lv_args_c rfl, lv_args_c rfl, lv_args_c rfl, lv_args_c (va_rf_cat _)] at hl
  have hl : lv_has ls 8 [(0, va_rf (some b)), (1, .int x1), (2, .int x2), (3, va_rf o3)] := hl
  obtain ⟨hsb, hB⟩ := h
  have hsb0 : s_s σ0 b = some (.inl 7) := by rw [eσ]; exact hsb
  rw [← eσ]
  skip
  obtain ⟨K27, hK27⟩ : ∃ K : Int32 → Int32 → Option Nat → Int32 → Int32 → St → Prop, K = (fun (x1 : Int32) (x2 : Int32) (o3 : Option Nat) (x4 : Int32) (x5 : Int32) (σ : St) => ∀ (H : Heap) (locs : List Loc) (ls : Array Slot), gr σ0 σ → wh D B σ s H → va_S (zA B) s.heap H locs → lv_has ls 8 [(0, va_rf (some b)), (1, .int x1), (2, .int x2), (3, va_rf o3), (4, .int x4), (5, .int x5)] → W p l e (rm_P_add) s m args below meth c H locs 0 0 (MQ below (zQ D B σ0 (zQv Q)) args s (rm_P_add).cells (rm_P_add).slots (zA B)) (F0 m 27 ls [])) := ⟨_, rfl⟩
  refine (fun hB => ?_) (hB K27 ?_)
  · skip
    refine zr_aload_n (o := some b) hx hb d_P_add_0 rfl (lv_at hl 0 rfl) ?_
    refine zr_get (v := .int (s_i σ b 3)) hx hb hC hw rfl hsb fl_P_22 rfl d_P_add_1 ?_
    refine lv_sipush (v := nI 3341) hx hb d_P_add_4 (by decide) ?_
    refine lv_icmp_lt (tgt := 11) hx hb d_P_add_7 (by decide) (fun cd => ?_) (fun cd => ?_)
    · have hB := hB.1 cd
      refine zr_aload_n (o := some b) hx hb d_P_add_11 rfl (lv_at hl 0 rfl) ?_
      refine zr_get (v := va_rf (s_r σ b 0)) hx hb hC hw rfl hsb fl_P_9 rfl d_P_add_12 ?_
      refine zr_aload_n (o := some b) hx hb d_P_add_15 rfl (lv_at hl 0 rfl) ?_
      refine zr_get (v := .int (s_i σ b 3)) hx hb hC hw rfl hsb fl_P_22 rfl d_P_add_16 ?_
      refine lv_iload_n hx hb d_P_add_19 rfl (lv_at hl 2 rfl) ?_
      obtain ⟨q14, n14, j15, ho, hs, hin, hj, hB⟩ := hB
      refine zr_iast hx hb hw hS ho hs hin hj d_P_add_20 (fun H locs hw hS => ?_)
      refine lv_iconst (v := nI 0) hx hb d_P_add_21 (by decide) ?_
      refine lv_istore (lv' := [(4, .int (nI 0)), (0, va_rf (some b)), (1, .int x1), (2, .int x2), (3, va_rf o3)]) hx hb d_P_add_22 hl (by decide) (congrArg (List.cons _) (fl_k rfl (va_rf_cat _) (fl_k rfl rfl (fl_k rfl rfl (fl_k rfl (va_rf_cat _) fl_n))))) (fun ls hl => ?_)
      refine lv_iconst (v := nI 0) hx hb d_P_add_24 (by decide) ?_
      refine lv_istore (lv' := [(5, .int (nI 0)), (4, .int (nI 0)), (0, va_rf (some b)), (1, .int x1), (2, .int x2), (3, va_rf o3)]) hx hb d_P_add_25 hl (by decide) rfl (fun ls hl => ?_)
      rw [hK27] at hB
      exact hB _ _ _ hg hw hS (lv_sub hl [2, 3, 4, 5, 1, 0] rfl)
    · have hB := hB.2 cd
      exact zr_vret hx hb hr hlocks hB hg hw hS d_P_add_10
  · intro x1 x2 o3 x4 x5 σ hB
    rw [hK27]
    intro H locs ls hg hw hS hl
    have hsb := hg _ _ hsb0
    refine lv_iload hx hb d_P_add_27 (lv_at hl 5 rfl) ?_
    refine lv_iload_n hx hb d_P_add_29 rfl (lv_at hl 1 rfl) ?_
    refine zr_callS (As := [.int x1]) (rest := [.int x5]) hx hb hml hC hwk hw hS hl.1 (c_C_renamingCount l D B x1 σ _ hB) mk_C_renamingCount mt_C_renamingCount ml_P_40 ⟨Nat.le_of_ble_eq_true rfl, Nat.le_of_ble_eq_true rfl⟩ rfl (cat_8 (cat_c rfl cat_n) (Nat.le_of_ble_eq_true rfl)) d_P_add_30 ⟨Nat.le_refl _, Nat.le_refl _⟩ rfl (fun v σ1 H locs hp hgn hw hS => ?_)
    have hg := hg.tr hgn
    have hsb := hgn _ _ hsb
    obtain ⟨r2, rfl, hB⟩ := hp
    refine W.eq (g2 := F0 m 33 ls [.int r2, .int x5]) rfl ?_
    refine lv_icmp_ge (tgt := 96) hx hb d_P_add_33 (by decide) (fun cd => ?_) (fun cd => ?_)
    · have hB := hB.1 cd
      refine zr_aload_n (o := some b) hx hb d_P_add_96 rfl (lv_at hl 0 rfl) ?_
      refine zr_get (v := va_rf (s_r σ1 b 1)) hx hb hC hw rfl hsb fl_P_15 rfl d_P_add_97 ?_
      refine zr_aload_n (o := some b) hx hb d_P_add_100 rfl (lv_at hl 0 rfl) ?_
      refine zr_get (v := .int (s_i σ1 b 3)) hx hb hC hw rfl hsb fl_P_22 rfl d_P_add_101 ?_
      refine lv_iload hx hb d_P_add_104 (lv_at hl 4 rfl) ?_
      refine lv_i2b (v := byt x4) hx hb d_P_add_106 rfl ?_
      obtain ⟨q3, n3, j4, ho, hs, hin, hj, hB⟩ := hB
      refine zr_bast hx hb hw hS ho hs hin hj d_P_add_107 (fun H locs hw hS => ?_)
      refine zr_aload_n (o := some b) hx hb d_P_add_108 rfl (lv_at hl 0 rfl) ?_
      refine lv_dup hx hb d_P_add_109 (va_rf_cat _) ?_
      refine zr_get (v := .int (s_i (w_i σ1 q3 j4 (vp_nar .byte (byt x4))) b 3)) hx hb hC hw rfl hsb fl_P_22 rfl d_P_add_110 ?_
      refine lv_iconst (v := nI 1) hx hb d_P_add_113 (by decide) ?_
      refine lv_iadd hx hb d_P_add_114 ?_
      refine zr_putI hx hb hC hw hS rfl hsb fl_P_22 rfl rfl d_P_add_115 (fun H locs hw hS => ?_)
      exact zr_vret hx hb hr hlocks hB hg hw hS d_P_add_118
    · have hB := hB.2 cd
      refine lv_iload_n hx hb d_P_add_36 rfl (lv_at hl 1 rfl) ?_
      refine lv_iload_n hx hb d_P_add_37 rfl (lv_at hl 2 rfl) ?_
      refine lv_iload hx hb d_P_add_38 (lv_at hl 5 rfl) ?_
      refine zr_callS (As := [.int x1, .int x2, .int x5]) (rest := []) hx hb hml hC hwk hw hS hl.1 (c_C_renamed l D B x1 x2 x5 σ1 _ hB) mk_C_renamed mt_C_renamed ml_P_43 ⟨Nat.le_of_ble_eq_true rfl, Nat.le_of_ble_eq_true rfl⟩ rfl (cat_8 cat_n (Nat.le_of_ble_eq_true rfl)) d_P_add_40 ⟨Nat.le_refl _, Nat.le_refl _⟩ rfl (fun v σ5 H locs hp hgn hw hS => ?_)
      have hg := hg.tr hgn
      have hsb := hgn _ _ hsb
      obtain ⟨r6, rfl, hB⟩ := hp
      refine W.eq (g2 := F0 m 43 ls [.int r6]) rfl ?_
      refine lv_istore (lv' := [(6, .int r6), (0, va_rf (some b)), (1, .int x1), (2, .int x2), (3, va_rf o3), (4, .int x4), (5, .int x5)]) hx hb d_P_add_43 hl (by decide) rfl (fun ls hl => ?_)
      refine lv_iload hx hb d_P_add_45 (lv_at hl 0 rfl) ?_
      refine lv_bipush (v := nI 64) hx hb d_P_add_47 (by decide) ?_
      refine lv_idiv hx hb d_P_add_49 (by decide) ?_
      refine lv_istore (lv' := [(7, .int (r6 / (nI 64))), (6, .int r6), (0, va_rf (some b)), (1, .int x1), (2, .int x2), (3, va_rf o3), (4, .int x4), (5, .int x5)]) hx hb d_P_add_50 hl (by decide) rfl (fun ls hl => ?_)
      refine lv_iload hx hb d_P_add_52 (lv_at hl 0 rfl) ?_
      refine lv_if_lt (tgt := 90) hx hb d_P_add_54 (by decide) (fun cd => ?_) (fun cd => ?_)
      · have hB := hB.1 cd
        refine lv_iinc (v := x5 + nI 1) (lv' := [(5, .int (x5 + nI 1)), (7, .int (r6 / (nI 64))), (6, .int r6), (0, va_rf (some b)), (1, .int x1), (2, .int x2), (3, va_rf o3), (4, .int x4)]) hx hb d_P_add_90 hl (k := 7) rfl rfl (by decide) rfl (fun ls hl => ?_)
        refine lv_goto (tgt := 27) hx hb d_P_add_93 (by decide) ?_
        rw [hK27] at hB
        exact hB _ _ _ hg hw hS (lv_sub hl [3, 4, 5, 6, 7, 0] rfl)
      · have hB := hB.2 cd
        refine lv_iload hx hb d_P_add_57 (lv_at hl 0 rfl) ?_
        refine zr_aload_n (o := o3) hx hb d_P_add_59 rfl (lv_at hl 5 rfl) ?_
        obtain ⟨q, t, n7, ho, hs, hB⟩ := hB
        refine zr_alen (v := nI n7) hx hb hw ho hs rfl d_P_add_60 ?_
        refine lv_icmp_ge (tgt := 90) hx hb d_P_add_61 (by decide) (fun cd => ?_) (fun cd => ?_)
        · have hB := hB.1 cd
          refine lv_iinc (v := x5 + nI 1) (lv' := [(5, .int (x5 + nI 1)), (7, .int (r6 / (nI 64))), (6, .int r6), (0, va_rf (some b)), (1, .int x1), (2, .int x2), (3, va_rf o3), (4, .int x4)]) hx hb d_P_add_90 hl (k := 7) rfl rfl (by decide) rfl (fun ls hl => ?_)
          refine lv_goto (tgt := 27) hx hb d_P_add_93 (by decide) ?_
          rw [hK27] at hB
          exact hB _ _ _ hg hw hS (lv_sub hl [3, 4, 5, 6, 7, 0] rfl)
        · have hB := hB.2 cd
          refine zr_aload_n (o := o3) hx hb d_P_add_64 rfl (lv_at hl 5 rfl) ?_
          refine lv_iload hx hb d_P_add_65 (lv_at hl 1 rfl) ?_
          refine zr_callS (As := [va_rf o3, .int r6]) (rest := []) hx hb hml hC hwk hw hS hl.1 (c_P_isIn l D B o3 r6 σ5 _ hB) mk_P_isIn mt_P_isIn ml_P_32 ⟨Nat.le_of_ble_eq_true rfl, Nat.le_of_ble_eq_true rfl⟩ rfl (cat_8 cat_n (Nat.le_of_ble_eq_true rfl)) d_P_add_67 ⟨Nat.le_refl _, Nat.le_refl _⟩ rfl (fun v σ8 H locs hp hgn hw hS => ?_)
          have hg := hg.tr hgn
          have hsb := hgn _ _ hsb
          obtain ⟨r9, rfl, hB⟩ := hp
          refine W.eq (g2 := F0 m 70 ls [.int r9]) rfl ?_
          refine lv_if_ne (tgt := 90) hx hb d_P_add_70 (by decide) (fun cd => ?_) (fun cd => ?_)
          · have hB := hB.2 cd
            refine lv_iinc (v := x5 + nI 1) (lv' := [(5, .int (x5 + nI 1)), (7, .int (r6 / (nI 64))), (6, .int r6), (0, va_rf (some b)), (1, .int x1), (2, .int x2), (3, va_rf o3), (4, .int x4)]) hx hb d_P_add_90 hl (k := 7) rfl rfl (by decide) rfl (fun ls hl => ?_)
            refine lv_goto (tgt := 27) hx hb d_P_add_93 (by decide) ?_
            rw [hK27] at hB
            exact hB _ _ _ hg hw hS (lv_sub hl [3, 4, 5, 6, 7, 0] rfl)
          · have hB := hB.1 cd
            refine zr_aload_n (o := o3) hx hb d_P_add_73 rfl (lv_at hl 5 rfl) ?_
            refine lv_iload hx hb d_P_add_74 (lv_at hl 0 rfl) ?_
            refine lv_dup2_11 hx hb d_P_add_76 rfl (va_rf_cat _) ?_
            obtain ⟨q10, n10, j11, ho, hs, hin, hj, hB⟩ := hB
            refine zr_lald hx hb hw ho hs hin hj d_P_add_77 ?_
            refine lv_lconst (v := lN 1) hx hb d_P_add_78 (by decide) ?_
            refine lv_iload hx hb d_P_add_79 (lv_at hl 1 rfl) ?_
            refine lv_bipush (v := nI 64) hx hb d_P_add_81 (by decide) ?_
            refine zr_irem hx hb d_P_add_83 (by decide) ?_
            refine zr_lshl hx hb d_P_add_84 ?_
            refine lv_lor hx hb d_P_add_85 ?_
            obtain ⟨q12, n12, j13, ho, hs, hin, hj, hB⟩ := hB
            refine zr_last hx hb hw hS ho hs hin hj d_P_add_86 (fun H locs hw hS => ?_)
            refine lv_iinc (v := x4 + nI 1) (lv' := [(4, .int (x4 + nI 1)), (7, .int (r6 / (nI 64))), (6, .int r6), (0, va_rf (some b)), (1, .int x1), (2, .int x2), (3, va_rf o3), (5, .int x5)]) hx hb d_P_add_87 hl (k := 6) rfl rfl (by decide) (congrArg (List.cons _) (fl_k rfl rfl (fl_k rfl rfl (fl_k rfl (va_rf_cat _) (fl_k rfl rfl (fl_k rfl rfl (fl_k rfl (va_rf_cat _) (fl_d rfl (fl_k rfl rfl fl_n))))))))) (fun ls hl => ?_)
            refine lv_iinc (v := x5 + nI 1) (lv' := [(5, .int (x5 + nI 1)), (4, .int (x4 + nI 1)), (7, .int (r6 / (nI 64))), (6, .int r6), (0, va_rf (some b)), (1, .int x1), (2, .int x2), (3, va_rf o3)]) hx hb d_P_add_90 hl (k := 7) rfl rfl (by decide) rfl (fun ls hl => ?_)
            refine lv_goto (tgt := 27) hx hb d_P_add_93 (by decide) ?_
            rw [hK27] at hB
            exact hB _ _ _ hg hw hS (lv_sub hl [4, 5, 6, 7, 1, 0] rfl)

set_option maxHeartbeats 4000000 in
set_option maxRecDepth 100000 in
theorem c_P_list (l : Launch) (D : va_G) (B : Nat) (b : Nat) (σ : St) (mc : Nat) (ms : Nat) (Q : St → Prop) (h : P_P_list b σ mc ms Q) : zM l y_P_list b_P_list 4 none (rm_P_list mc ms) D B [.ref b] σ (zQv Q) := by
  refine zM.ofW (own := "LawWorlds$PlainWorlds") (by decide +kernel) rfl (Nat.le_of_ble_eq_true rfl) ?_
  intro p e s m args below meth c ls hx hb hml hr hlocks hname hC hwk hw hS hl
  obtain ⟨σ0, eσ⟩ : ∃ z, z = σ := ⟨_, rfl⟩
  have hg : gr σ0 σ := by rw [eσ]; exact gr.rf
  have hl : lv_has ls 4 [(0, va_rf (some b))] := hl
  have ha1 : 0 ≤ mc := Nat.zero_le _
  have ha2 : 0 ≤ ms := Nat.zero_le _
  obtain ⟨hsb, hB⟩ := h
  have hsb0 : s_s σ0 b = some (.inl 7) := by rw [eσ]; exact hsb
  rw [← eσ]
  skip
  obtain ⟨K22, hK22⟩ : ∃ K : Option Nat → Int32 → St → Nat → Nat → Prop, K = (fun (o1 : Option Nat) (x2 : Int32) (σ : St) (ca : Nat) (cb : Nat) => ∀ (H : Heap) (locs : List Loc) (ls : Array Slot), gr σ0 σ → wh D B σ s H → va_S (zA B) s.heap H locs → lv_has ls 4 [(0, va_rf (some b)), (1, va_rf o1), (2, .int x2)] → ca ≤ mc → cb ≤ ms → W p l e (rm_P_list mc ms) s m args below meth c H locs ca cb (MQ below (zQ D B σ0 (zQv Q)) args s (rm_P_list mc ms).cells (rm_P_list mc ms).slots (zA B)) (F0 m 22 ls [])) := ⟨_, rfl⟩
  obtain ⟨K39, hK39⟩ : ∃ K : Option Nat → Int32 → Int32 → St → Nat → Nat → Prop, K = (fun (o1 : Option Nat) (x2 : Int32) (x3 : Int32) (σ : St) (ca : Nat) (cb : Nat) => ∀ (H : Heap) (locs : List Loc) (ls : Array Slot), gr σ0 σ → wh D B σ s H → va_S (zA B) s.heap H locs → lv_has ls 4 [(0, va_rf (some b)), (1, va_rf o1), (2, .int x2), (3, .int x3)] → ca ≤ mc → cb ≤ ms → W p l e (rm_P_list mc ms) s m args below meth c H locs ca cb (MQ below (zQ D B σ0 (zQv Q)) args s (rm_P_list mc ms).cells (rm_P_list mc ms).slots (zA B)) (F0 m 39 ls [])) := ⟨_, rfl⟩
  obtain ⟨K57, hK57⟩ : ∃ K : Option Nat → Int32 → Int32 → St → Nat → Nat → Prop, K = (fun (o1 : Option Nat) (x2 : Int32) (x3 : Int32) (σ : St) (ca : Nat) (cb : Nat) => ∀ (H : Heap) (locs : List Loc) (ls : Array Slot), gr σ0 σ → wh D B σ s H → va_S (zA B) s.heap H locs → lv_has ls 4 [(0, va_rf (some b)), (1, va_rf o1), (2, .int x2), (3, .int x3)] → ca ≤ mc → cb ≤ ms → W p l e (rm_P_list mc ms) s m args below meth c H locs ca cb (MQ below (zQ D B σ0 (zQv Q)) args s (rm_P_list mc ms).cells (rm_P_list mc ms).slots (zA B)) (F0 m 57 ls [])) := ⟨_, rfl⟩
  refine (fun hB => ?_) (hB K22 K39 K57 ?_ ?_ ?_)
  · skip
    refine zr_aload_n (o := some b) hx hb d_P_list_0 rfl (lv_at hl 0 rfl) ?_
    refine zr_get (v := .int (s_i σ b 3)) hx hb hC hw rfl hsb fl_P_22 rfl d_P_list_1 ?_
    refine lv_if_le (tgt := 8) hx hb d_P_list_4 (by decide) (fun cd => ?_) (fun cd => ?_)
    · have hB := hB.1 cd
      refine lv_iconst (v := nI 3) hx hb d_P_list_8 (by decide) ?_
      refine zr_callS (As := [.int (nI 3)]) (rest := []) hx hb hml hC hwk hw hS hl.1 (c_C_worldCount l D B (nI 3) σ _ hB) mk_C_worldCount mt_C_worldCount ml_P_26 ⟨Nat.le_of_ble_eq_true rfl, Nat.le_of_ble_eq_true rfl⟩ rfl (cat_8 cat_n (Nat.le_of_ble_eq_true rfl)) d_P_list_9 ⟨ha1, ha2⟩ rfl (fun v σ13 H locs hp hgn hw hS => ?_)
      have hg := hg.tr hgn
      have hsb := hgn _ _ hsb
      obtain ⟨r14, rfl, hB⟩ := hp
      refine W.eq (g2 := F0 m 12 ls [.int r14]) rfl ?_
      refine lv_bipush (v := nI 64) hx hb d_P_list_12 (by decide) ?_
      refine lv_idiv hx hb d_P_list_14 (by decide) ?_
      refine lv_iconst (v := nI 1) hx hb d_P_list_15 (by decide) ?_
      refine lv_iadd hx hb d_P_list_16 ?_
      obtain ⟨n17, en, hN, hB⟩ := hB
      obtain ⟨hc1, hc2, hB⟩ := hB
      obtain ⟨q15, eqq15⟩ : ∃ z, z = s_n σ13 := ⟨_, rfl⟩
      obtain ⟨σ16, eσ16⟩ : ∃ z, z = w_new σ13 (.inr (4, n17)) := ⟨_, rfl⟩
      have hB := hB q15 σ16 eqq15 eσ16
      have hgn := hw.gnew (.inr (4, n17))
      refine zr_newa (t := 4) (atype := .long) (N := n17) hx hb hC hwk.1 hw hS ac_long rfl rfl en hN hc1 hc2 d_P_list_17 (fun H hw hS => ?_)
      rw [← eσ16] at hw hgn
      rw [← eqq15]
      have hg := hg.tr hgn
      have hsb := hgn _ _ hsb
      have ha1 := hc1
      have ha2 := hc2
      refine zr_astore_n (lv' := [(1, va_rf (some q15)), (0, va_rf (some b))]) hx hb d_P_list_19 rfl hl (by decide) rfl (fun ls hl => ?_)
      refine lv_iconst (v := nI 1) hx hb d_P_list_20 (by decide) ?_
      refine lv_istore_n (lv' := [(2, .int (nI 1)), (1, va_rf (some q15)), (0, va_rf (some b))]) hx hb d_P_list_21 rfl hl (by decide) rfl (fun ls hl => ?_)
      rw [hK22] at hB
      exact hB _ _ _ hg hw hS (lv_sub hl [2, 1, 0] rfl) ha1 ha2
    · have hB := hB.2 cd
      refine W.widen (k := mc) (n := ms) ha1 ha2 ?_
      exact zr_vret hx hb hr hlocks hB hg hw hS d_P_list_7
  · intro o1 x2 σ ca cb hB
    rw [hK22]
    intro H locs ls hg hw hS hl ha1 ha2
    have hsb := hg _ _ hsb0
    refine lv_iload_n hx hb d_P_list_22 rfl (lv_at hl 2 rfl) ?_
    refine lv_iconst (v := nI 3) hx hb d_P_list_23 (by decide) ?_
    refine lv_icmp_gt (tgt := 92) hx hb d_P_list_24 (by decide) (fun cd => ?_) (fun cd => ?_)
    · have hB := hB.1 cd
      refine zr_aload_n (o := some b) hx hb d_P_list_92 rfl (lv_at hl 0 rfl) ?_
      refine zr_get (v := va_rf (s_r σ b 2)) hx hb hC hw rfl hsb fl_P_19 rfl d_P_list_93 ?_
      refine lv_iconst (v := nI 4) hx hb d_P_list_96 (by decide) ?_
      refine zr_aload_n (o := some b) hx hb d_P_list_97 rfl (lv_at hl 0 rfl) ?_
      refine zr_get (v := .int (s_i σ b 3)) hx hb hC hw rfl hsb fl_P_22 rfl d_P_list_98 ?_
      obtain ⟨q1, n1, j2, ho, hs, hin, hj, hB⟩ := hB
      refine zr_iast hx hb hw hS ho hs hin hj d_P_list_101 (fun H locs hw hS => ?_)
      refine W.widen (k := mc) (n := ms) ha1 ha2 ?_
      exact zr_vret hx hb hr hlocks hB hg hw hS d_P_list_102
    · have hB := hB.2 cd
      refine zr_aload_n (o := some b) hx hb d_P_list_27 rfl (lv_at hl 0 rfl) ?_
      refine zr_get (v := va_rf (s_r σ b 2)) hx hb hC hw rfl hsb fl_P_19 rfl d_P_list_28 ?_
      refine lv_iload_n hx hb d_P_list_31 rfl (lv_at hl 2 rfl) ?_
      refine zr_aload_n (o := some b) hx hb d_P_list_32 rfl (lv_at hl 0 rfl) ?_
      refine zr_get (v := .int (s_i σ b 3)) hx hb hC hw rfl hsb fl_P_22 rfl d_P_list_33 ?_
      obtain ⟨q3, n3, j4, ho, hs, hin, hj, hB⟩ := hB
      refine zr_iast hx hb hw hS ho hs hin hj d_P_list_36 (fun H locs hw hS => ?_)
      refine lv_iconst (v := nI 0) hx hb d_P_list_37 (by decide) ?_
      refine lv_istore_n (lv' := [(3, .int (nI 0)), (0, va_rf (some b)), (1, va_rf o1), (2, .int x2)]) hx hb d_P_list_38 rfl hl (by decide) rfl (fun ls hl => ?_)
      rw [hK39] at hB
      exact hB _ _ _ hg hw hS (lv_sub hl [1, 2, 3, 0] rfl) ha1 ha2
  · intro o1 x2 x3 σ ca cb hB
    rw [hK39]
    intro H locs ls hg hw hS hl ha1 ha2
    have hsb := hg _ _ hsb0
    refine lv_iload_n hx hb d_P_list_39 rfl (lv_at hl 3 rfl) ?_
    refine zr_aload_n (o := o1) hx hb d_P_list_40 rfl (lv_at hl 1 rfl) ?_
    obtain ⟨q, t, n5, ho, hs, hB⟩ := hB
    refine zr_alen (v := nI n5) hx hb hw ho hs rfl d_P_list_41 ?_
    refine lv_icmp_ge (tgt := 55) hx hb d_P_list_42 (by decide) (fun cd => ?_) (fun cd => ?_)
    · have hB := hB.1 cd
      refine lv_iconst (v := nI 0) hx hb d_P_list_55 (by decide) ?_
      refine lv_istore_n (lv' := [(3, .int (nI 0)), (0, va_rf (some b)), (1, va_rf o1), (2, .int x2)]) hx hb d_P_list_56 rfl hl (by decide) rfl (fun ls hl => ?_)
      rw [hK57] at hB
      exact hB _ _ _ hg hw hS (lv_sub hl [1, 2, 3, 0] rfl) ha1 ha2
    · have hB := hB.2 cd
      refine zr_aload_n (o := o1) hx hb d_P_list_45 rfl (lv_at hl 1 rfl) ?_
      refine lv_iload_n hx hb d_P_list_46 rfl (lv_at hl 3 rfl) ?_
      refine lv_lconst (v := lN 0) hx hb d_P_list_47 (by decide) ?_
      obtain ⟨q6, n6, j7, ho, hs, hin, hj, hB⟩ := hB
      refine zr_last hx hb hw hS ho hs hin hj d_P_list_48 (fun H locs hw hS => ?_)
      refine lv_iinc (v := x3 + nI 1) (lv' := [(3, .int (x3 + nI 1)), (0, va_rf (some b)), (1, va_rf o1), (2, .int x2)]) hx hb d_P_list_49 hl (k := 3) rfl rfl (by decide) rfl (fun ls hl => ?_)
      refine lv_goto (tgt := 39) hx hb d_P_list_52 (by decide) ?_
      rw [hK39] at hB
      exact hB _ _ _ hg hw hS (lv_sub hl [1, 2, 3, 0] rfl) ha1 ha2
  · intro o1 x2 x3 σ ca cb hB
    rw [hK57]
    intro H locs ls hg hw hS hl ha1 ha2
    have hsb := hg _ _ hsb0
    refine lv_iload_n hx hb d_P_list_57 rfl (lv_at hl 3 rfl) ?_
    refine lv_iload_n hx hb d_P_list_58 rfl (lv_at hl 2 rfl) ?_
    refine zr_callS (As := [.int x2]) (rest := [.int x3]) hx hb hml hC hwk hw hS hl.1 (c_C_worldCount l D B x2 σ _ hB) mk_C_worldCount mt_C_worldCount ml_P_26 ⟨Nat.le_of_ble_eq_true rfl, Nat.le_of_ble_eq_true rfl⟩ rfl (cat_8 (cat_c rfl cat_n) (Nat.le_of_ble_eq_true rfl)) d_P_list_59 ⟨ha1, ha2⟩ rfl (fun v σ8 H locs hp hgn hw hS => ?_)
    have hg := hg.tr hgn
    have hsb := hgn _ _ hsb
    obtain ⟨r9, rfl, hB⟩ := hp
    refine W.eq (g2 := F0 m 62 ls [.int r9, .int x3]) rfl ?_
    refine lv_icmp_ge (tgt := 86) hx hb d_P_list_62 (by decide) (fun cd => ?_) (fun cd => ?_)
    · have hB := hB.1 cd
      refine lv_iinc (v := x2 + nI 1) (lv' := [(2, .int (x2 + nI 1)), (0, va_rf (some b)), (1, va_rf o1), (3, .int x3)]) hx hb d_P_list_86 hl (k := 2) rfl rfl (by decide) (congrArg (List.cons _) (fl_k rfl (va_rf_cat _) (fl_k rfl (va_rf_cat _) (fl_d rfl (fl_k rfl rfl fl_n))))) (fun ls hl => ?_)
      refine lv_goto (tgt := 22) hx hb d_P_list_89 (by decide) ?_
      rw [hK22] at hB
      exact hB _ _ _ hg hw hS (lv_sub hl [1, 2, 0] rfl) ha1 ha2
    · have hB := hB.2 cd
      refine zr_aload_n (o := o1) hx hb d_P_list_65 rfl (lv_at hl 1 rfl) ?_
      refine lv_iload_n hx hb d_P_list_66 rfl (lv_at hl 3 rfl) ?_
      refine zr_callS (As := [va_rf o1, .int x3]) (rest := []) hx hb hml hC hwk hw hS hl.1 (c_P_isIn l D B o1 x3 σ8 _ hB) mk_P_isIn mt_P_isIn ml_P_32 ⟨Nat.le_of_ble_eq_true rfl, Nat.le_of_ble_eq_true rfl⟩ rfl (cat_8 cat_n (Nat.le_of_ble_eq_true rfl)) d_P_list_67 ⟨ha1, ha2⟩ rfl (fun v σ10 H locs hp hgn hw hS => ?_)
      have hg := hg.tr hgn
      have hsb := hgn _ _ hsb
      obtain ⟨r11, rfl, hB⟩ := hp
      refine W.eq (g2 := F0 m 70 ls [.int r11]) rfl ?_
      refine lv_if_ne (tgt := 80) hx hb d_P_list_70 (by decide) (fun cd => ?_) (fun cd => ?_)
      · have hB := hB.2 cd
        refine lv_iinc (v := x3 + nI 1) (lv' := [(3, .int (x3 + nI 1)), (0, va_rf (some b)), (1, va_rf o1), (2, .int x2)]) hx hb d_P_list_80 hl (k := 3) rfl rfl (by decide) rfl (fun ls hl => ?_)
        refine lv_goto (tgt := 57) hx hb d_P_list_83 (by decide) ?_
        rw [hK57] at hB
        exact hB _ _ _ hg hw hS (lv_sub hl [1, 2, 3, 0] rfl) ha1 ha2
      · have hB := hB.1 cd
        refine zr_aload_n (o := some b) hx hb d_P_list_73 rfl (lv_at hl 0 rfl) ?_
        refine lv_iload_n hx hb d_P_list_74 rfl (lv_at hl 2 rfl) ?_
        refine lv_iload_n hx hb d_P_list_75 rfl (lv_at hl 3 rfl) ?_
        refine zr_aload_n (o := o1) hx hb d_P_list_76 rfl (lv_at hl 1 rfl) ?_
        have hsr := And.left hB
        refine zr_callV (ci := 7) (As := [.int x2, .int x3, va_rf o1]) (rest := []) hx hb hml hC hwk hw hS hl.1 (c_P_add l D B b x2 x3 o1 σ10 _ hB) mk_P_add mi_P_add ms_P_add ml_P_36 ⟨Nat.le_of_ble_eq_true rfl, Nat.le_of_ble_eq_true rfl⟩ rfl hsr rfl (cat_8 cat_n (Nat.le_of_ble_eq_true rfl)) d_P_list_77 ⟨ha1, ha2⟩ rfl (fun v σ12 H locs hp hgn hw hS => ?_)
        have hg := hg.tr hgn
        have hsb := hgn _ _ hsb
        obtain ⟨rfl, hB⟩ := hp
        refine W.eq (g2 := F0 m 80 ls []) rfl ?_
        refine lv_iinc (v := x3 + nI 1) (lv' := [(3, .int (x3 + nI 1)), (0, va_rf (some b)), (1, va_rf o1), (2, .int x2)]) hx hb d_P_list_80 hl (k := 3) rfl rfl (by decide) rfl (fun ls hl => ?_)
        refine lv_goto (tgt := 57) hx hb d_P_list_83 (by decide) ?_
        rw [hK57] at hB
        exact hB _ _ _ hg hw hS (lv_sub hl [1, 2, 3, 0] rfl) ha1 ha2

set_option maxHeartbeats 4000000 in
set_option maxRecDepth 100000 in
theorem c_P_sizeAt (l : Launch) (D : va_G) (B : Nat) (b : Nat) (x1 : Int32) (σ : St) (Q : Int32 → St → Prop) (h : P_P_sizeAt b x1 σ Q) : zM l y_P_sizeAt b_P_sizeAt 2 (some (.int)) (rm_P_sizeAt) D B [.ref b, .int x1] σ (zQi Q) := by
  refine zM.ofW (own := "LawWorlds$PlainWorlds") (by decide +kernel) rfl (Nat.le_of_ble_eq_true rfl) ?_
  intro p e s m args below meth c ls hx hb hml hr hlocks hname hC hwk hw hS hl
  obtain ⟨σ0, eσ⟩ : ∃ z, z = σ := ⟨_, rfl⟩
  have hg : gr σ0 σ := by rw [eσ]; exact gr.rf
  have hl : lv_has ls 2 [(0, va_rf (some b)), (1, .int x1)] := hl
  obtain ⟨hsb, hB⟩ := h
  have hsb0 : s_s σ0 b = some (.inl 7) := by rw [eσ]; exact hsb
  rw [← eσ]
  skip
  refine lv_iload_n hx hb d_P_sizeAt_0 rfl (lv_at hl 1 rfl) ?_
  refine zr_aload_n (o := some b) hx hb d_P_sizeAt_1 rfl (lv_at hl 0 rfl) ?_
  refine zr_get (v := va_rf (s_r σ b 2)) hx hb hC hw rfl hsb fl_P_19 rfl d_P_sizeAt_2 ?_
  refine lv_iconst (v := nI 3) hx hb d_P_sizeAt_5 (by decide) ?_
  obtain ⟨q1, n1, j2, ho, hs, hin, hj, hB⟩ := hB
  refine zr_iald hx hb hw ho hs hin hj d_P_sizeAt_6 ?_
  refine lv_icmp_lt (tgt := 14) hx hb d_P_sizeAt_7 (by decide) (fun cd => ?_) (fun cd => ?_)
  · have hB := hB.1 cd
    refine lv_iload_n hx hb d_P_sizeAt_14 rfl (lv_at hl 1 rfl) ?_
    refine zr_aload_n (o := some b) hx hb d_P_sizeAt_15 rfl (lv_at hl 0 rfl) ?_
    refine zr_get (v := va_rf (s_r σ b 2)) hx hb hC hw rfl hsb fl_P_19 rfl d_P_sizeAt_16 ?_
    refine lv_iconst (v := nI 2) hx hb d_P_sizeAt_19 (by decide) ?_
    obtain ⟨q3, n3, j4, ho, hs, hin, hj, hB⟩ := hB
    refine zr_iald hx hb hw ho hs hin hj d_P_sizeAt_20 ?_
    refine lv_icmp_lt (tgt := 28) hx hb d_P_sizeAt_21 (by decide) (fun cd => ?_) (fun cd => ?_)
    · have hB := hB.1 cd
      refine lv_iconst (v := nI 1) hx hb d_P_sizeAt_28 (by decide) ?_
      exact zr_iret hx hb hr hlocks hB hg hw hS d_P_sizeAt_29
    · have hB := hB.2 cd
      refine lv_iconst (v := nI 2) hx hb d_P_sizeAt_24 (by decide) ?_
      refine lv_goto (tgt := 29) hx hb d_P_sizeAt_25 (by decide) ?_
      exact zr_iret hx hb hr hlocks hB hg hw hS d_P_sizeAt_29
  · have hB := hB.2 cd
    refine lv_iconst (v := nI 3) hx hb d_P_sizeAt_10 (by decide) ?_
    refine lv_goto (tgt := 29) hx hb d_P_sizeAt_11 (by decide) ?_
    exact zr_iret hx hb hr hlocks hB hg hw hS d_P_sizeAt_29

set_option maxHeartbeats 4000000 in
set_option maxRecDepth 100000 in
theorem c_P_codeAt (l : Launch) (D : va_G) (B : Nat) (b : Nat) (x1 : Int32) (σ : St) (Q : Int32 → St → Prop) (h : P_P_codeAt b x1 σ Q) : zM l y_P_codeAt b_P_codeAt 2 (some (.int)) (rm_P_codeAt) D B [.ref b, .int x1] σ (zQi Q) := by
  refine zM.ofW (own := "LawWorlds$PlainWorlds") (by decide +kernel) rfl (Nat.le_of_ble_eq_true rfl) ?_
  intro p e s m args below meth c ls hx hb hml hr hlocks hname hC hwk hw hS hl
  obtain ⟨σ0, eσ⟩ : ∃ z, z = σ := ⟨_, rfl⟩
  have hg : gr σ0 σ := by rw [eσ]; exact gr.rf
  have hl : lv_has ls 2 [(0, va_rf (some b)), (1, .int x1)] := hl
  obtain ⟨hsb, hB⟩ := h
  have hsb0 : s_s σ0 b = some (.inl 7) := by rw [eσ]; exact hsb
  rw [← eσ]
  skip
  refine lv_iload_n hx hb d_P_codeAt_0 rfl (lv_at hl 1 rfl) ?_
  refine lv_if_lt (tgt := 20) hx hb d_P_codeAt_1 (by decide) (fun cd => ?_) (fun cd => ?_)
  · have hB := hB.1 cd
    refine lv_iconst (v := nI 0) hx hb d_P_codeAt_20 (by decide) ?_
    exact zr_iret hx hb hr hlocks hB hg hw hS d_P_codeAt_21
  · have hB := hB.2 cd
    refine lv_iload_n hx hb d_P_codeAt_4 rfl (lv_at hl 1 rfl) ?_
    refine lv_sipush (v := nI 3341) hx hb d_P_codeAt_5 (by decide) ?_
    refine lv_icmp_ge (tgt := 20) hx hb d_P_codeAt_8 (by decide) (fun cd => ?_) (fun cd => ?_)
    · have hB := hB.1 cd
      refine lv_iconst (v := nI 0) hx hb d_P_codeAt_20 (by decide) ?_
      exact zr_iret hx hb hr hlocks hB hg hw hS d_P_codeAt_21
    · have hB := hB.2 cd
      refine zr_aload_n (o := some b) hx hb d_P_codeAt_11 rfl (lv_at hl 0 rfl) ?_
      refine zr_get (v := va_rf (s_r σ b 0)) hx hb hC hw rfl hsb fl_P_9 rfl d_P_codeAt_12 ?_
      refine lv_iload_n hx hb d_P_codeAt_15 rfl (lv_at hl 1 rfl) ?_
      obtain ⟨q1, n1, j2, ho, hs, hin, hj, hB⟩ := hB
      refine zr_iald hx hb hw ho hs hin hj d_P_codeAt_16 ?_
      refine lv_goto (tgt := 21) hx hb d_P_codeAt_17 (by decide) ?_
      exact zr_iret hx hb hr hlocks hB hg hw hS d_P_codeAt_21

set_option maxHeartbeats 4000000 in
set_option maxRecDepth 100000 in
theorem c_P_start (l : Launch) (D : va_G) (B : Nat) (b : Nat) (x1 : Int32) (σ : St) (Q : Int32 → St → Prop) (h : P_P_start b x1 σ Q) : zM l y_P_start b_P_start 2 (some (.int)) (rm_P_start) D B [.ref b, .int x1] σ (zQi Q) := by
  refine zM.ofW (own := "LawWorlds$PlainWorlds") (by decide +kernel) rfl (Nat.le_of_ble_eq_true rfl) ?_
  intro p e s m args below meth c ls hx hb hml hr hlocks hname hC hwk hw hS hl
  obtain ⟨σ0, eσ⟩ : ∃ z, z = σ := ⟨_, rfl⟩
  have hg : gr σ0 σ := by rw [eσ]; exact gr.rf
  have hl : lv_has ls 2 [(0, va_rf (some b)), (1, .int x1)] := hl
  obtain ⟨hsb, hB⟩ := h
  have hsb0 : s_s σ0 b = some (.inl 7) := by rw [eσ]; exact hsb
  rw [← eσ]
  skip
  refine lv_iload_n hx hb d_P_start_0 rfl (lv_at hl 1 rfl) ?_
  refine zr_callS (As := [.int x1]) (rest := []) hx hb hml hC hwk hw hS hl.1 (c_C_isSize l D B x1 σ _ hB) mk_C_isSize mt_C_isSize ml_P_47 ⟨Nat.le_of_ble_eq_true rfl, Nat.le_of_ble_eq_true rfl⟩ rfl (cat_8 cat_n (Nat.le_of_ble_eq_true rfl)) d_P_start_1 ⟨Nat.le_refl _, Nat.le_refl _⟩ rfl (fun v σ1 H locs hp hgn hw hS => ?_)
  have hg := hg.tr hgn
  have hsb := hgn _ _ hsb
  obtain ⟨r2, rfl, hB⟩ := hp
  refine W.eq (g2 := F0 m 4 ls [.int r2]) rfl ?_
  refine lv_if_eq (tgt := 16) hx hb d_P_start_4 (by decide) (fun cd => ?_) (fun cd => ?_)
  · have hB := hB.1 cd
    refine lv_iconst (v := nI 0) hx hb d_P_start_16 (by decide) ?_
    exact zr_iret hx hb hr hlocks hB hg hw hS d_P_start_17
  · have hB := hB.2 cd
    refine zr_aload_n (o := some b) hx hb d_P_start_7 rfl (lv_at hl 0 rfl) ?_
    refine zr_get (v := va_rf (s_r σ1 b 2)) hx hb hC hw rfl hsb fl_P_19 rfl d_P_start_8 ?_
    refine lv_iload_n hx hb d_P_start_11 rfl (lv_at hl 1 rfl) ?_
    obtain ⟨q3, n3, j4, ho, hs, hin, hj, hB⟩ := hB
    refine zr_iald hx hb hw ho hs hin hj d_P_start_12 ?_
    refine lv_goto (tgt := 17) hx hb d_P_start_13 (by decide) ?_
    exact zr_iret hx hb hr hlocks hB hg hw hS d_P_start_17

set_option maxHeartbeats 4000000 in
set_option maxRecDepth 100000 in
theorem c_P_end (l : Launch) (D : va_G) (B : Nat) (b : Nat) (x1 : Int32) (σ : St) (Q : Int32 → St → Prop) (h : P_P_end b x1 σ Q) : zM l y_P_end b_P_end 2 (some (.int)) (rm_P_end) D B [.ref b, .int x1] σ (zQi Q) := by
  refine zM.ofW (own := "LawWorlds$PlainWorlds") (by decide +kernel) rfl (Nat.le_of_ble_eq_true rfl) ?_
  intro p e s m args below meth c ls hx hb hml hr hlocks hname hC hwk hw hS hl
  obtain ⟨σ0, eσ⟩ : ∃ z, z = σ := ⟨_, rfl⟩
  have hg : gr σ0 σ := by rw [eσ]; exact gr.rf
  have hl : lv_has ls 2 [(0, va_rf (some b)), (1, .int x1)] := hl
  obtain ⟨hsb, hB⟩ := h
  have hsb0 : s_s σ0 b = some (.inl 7) := by rw [eσ]; exact hsb
  rw [← eσ]
  skip
  refine lv_iload_n hx hb d_P_end_0 rfl (lv_at hl 1 rfl) ?_
  refine zr_callS (As := [.int x1]) (rest := []) hx hb hml hC hwk hw hS hl.1 (c_C_isSize l D B x1 σ _ hB) mk_C_isSize mt_C_isSize ml_P_47 ⟨Nat.le_of_ble_eq_true rfl, Nat.le_of_ble_eq_true rfl⟩ rfl (cat_8 cat_n (Nat.le_of_ble_eq_true rfl)) d_P_end_1 ⟨Nat.le_refl _, Nat.le_refl _⟩ rfl (fun v σ1 H locs hp hgn hw hS => ?_)
  have hg := hg.tr hgn
  have hsb := hgn _ _ hsb
  obtain ⟨r2, rfl, hB⟩ := hp
  refine W.eq (g2 := F0 m 4 ls [.int r2]) rfl ?_
  refine lv_if_eq (tgt := 18) hx hb d_P_end_4 (by decide) (fun cd => ?_) (fun cd => ?_)
  · have hB := hB.1 cd
    refine lv_iconst (v := nI 0) hx hb d_P_end_18 (by decide) ?_
    exact zr_iret hx hb hr hlocks hB hg hw hS d_P_end_19
  · have hB := hB.2 cd
    refine zr_aload_n (o := some b) hx hb d_P_end_7 rfl (lv_at hl 0 rfl) ?_
    refine zr_get (v := va_rf (s_r σ1 b 2)) hx hb hC hw rfl hsb fl_P_19 rfl d_P_end_8 ?_
    refine lv_iload_n hx hb d_P_end_11 rfl (lv_at hl 1 rfl) ?_
    refine lv_iconst (v := nI 1) hx hb d_P_end_12 (by decide) ?_
    refine lv_iadd hx hb d_P_end_13 ?_
    obtain ⟨q3, n3, j4, ho, hs, hin, hj, hB⟩ := hB
    refine zr_iald hx hb hw ho hs hin hj d_P_end_14 ?_
    refine lv_goto (tgt := 19) hx hb d_P_end_15 (by decide) ?_
    exact zr_iret hx hb hr hlocks hB hg hw hS d_P_end_19

set_option maxHeartbeats 4000000 in
set_option maxRecDepth 100000 in
theorem c_P_alikesAt (l : Launch) (D : va_G) (B : Nat) (b : Nat) (x1 : Int32) (σ : St) (Q : Int32 → St → Prop) (h : P_P_alikesAt b x1 σ Q) : zM l y_P_alikesAt b_P_alikesAt 2 (some (.int)) (rm_P_alikesAt) D B [.ref b, .int x1] σ (zQi Q) := by
  refine zM.ofW (own := "LawWorlds$PlainWorlds") (by decide +kernel) rfl (Nat.le_of_ble_eq_true rfl) ?_
  intro p e s m args below meth c ls hx hb hml hr hlocks hname hC hwk hw hS hl
  obtain ⟨σ0, eσ⟩ : ∃ z, z = σ := ⟨_, rfl⟩
  have hg : gr σ0 σ := by rw [eσ]; exact gr.rf
  have hl : lv_has ls 2 [(0, va_rf (some b)), (1, .int x1)] := hl
  obtain ⟨hsb, hB⟩ := h
  have hsb0 : s_s σ0 b = some (.inl 7) := by rw [eσ]; exact hsb
  rw [← eσ]
  skip
  refine lv_iload_n hx hb d_P_alikesAt_0 rfl (lv_at hl 1 rfl) ?_
  refine lv_if_lt (tgt := 20) hx hb d_P_alikesAt_1 (by decide) (fun cd => ?_) (fun cd => ?_)
  · have hB := hB.1 cd
    refine lv_iconst (v := nI 0) hx hb d_P_alikesAt_20 (by decide) ?_
    exact zr_iret hx hb hr hlocks hB hg hw hS d_P_alikesAt_21
  · have hB := hB.2 cd
    refine lv_iload_n hx hb d_P_alikesAt_4 rfl (lv_at hl 1 rfl) ?_
    refine lv_sipush (v := nI 3341) hx hb d_P_alikesAt_5 (by decide) ?_
    refine lv_icmp_ge (tgt := 20) hx hb d_P_alikesAt_8 (by decide) (fun cd => ?_) (fun cd => ?_)
    · have hB := hB.1 cd
      refine lv_iconst (v := nI 0) hx hb d_P_alikesAt_20 (by decide) ?_
      exact zr_iret hx hb hr hlocks hB hg hw hS d_P_alikesAt_21
    · have hB := hB.2 cd
      refine zr_aload_n (o := some b) hx hb d_P_alikesAt_11 rfl (lv_at hl 0 rfl) ?_
      refine zr_get (v := va_rf (s_r σ b 1)) hx hb hC hw rfl hsb fl_P_15 rfl d_P_alikesAt_12 ?_
      refine lv_iload_n hx hb d_P_alikesAt_15 rfl (lv_at hl 1 rfl) ?_
      obtain ⟨q1, n1, j2, ho, hs, hin, hj, hB⟩ := hB
      refine zr_bald hx hb hw ho hs hin hj d_P_alikesAt_16 ?_
      refine lv_goto (tgt := 21) hx hb d_P_alikesAt_17 (by decide) ?_
      exact zr_iret hx hb hr hlocks hB hg hw hS d_P_alikesAt_21
