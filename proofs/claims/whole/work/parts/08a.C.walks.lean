set_option maxHeartbeats 4000000 in
set_option maxRecDepth 100000 in
theorem c_C_isSize (l : Launch) (D : va_G) (B : Nat) (x0 : Int32) (σ : St) (Q : Int32 → St → Prop) (h : P_C_isSize x0 σ Q) : zM l y_C_isSize b_C_isSize 1 (some (.boolean)) (rm_C_isSize) D B [.int x0] σ (zQi Q) := by
  refine zM.ofW (own := "LawWorlds$Codes") (by decide +kernel) rfl (Nat.le_of_ble_eq_true rfl) ?_
  intro p e s m args below meth c ls hx hb hml hr hlocks hname hC hwk hw hS hl
  obtain ⟨σ0, eσ⟩ : ∃ z, z = σ := ⟨_, rfl⟩
  have hg : gr σ0 σ := by rw [eσ]; exact gr.rf
  have hl : lv_has ls 1 [(0, .int x0)] := hl
  have hB := h
  rw [← eσ]
  skip
  refine lv_iload_n hx hb d_C_isSize_0 rfl (lv_at hl 0 rfl) ?_
  refine lv_iconst (v := nI 1) hx hb d_C_isSize_1 (by decide) ?_
  refine lv_icmp_lt (tgt := 14) hx hb d_C_isSize_2 (by decide) (fun cd => ?_) (fun cd => ?_)
  · have hB := hB.1 cd
    refine lv_iconst (v := nI 0) hx hb d_C_isSize_14 (by decide) ?_
    exact zr_zret hx hb hr hlocks (Or.inl rfl) hB hg hw hS d_C_isSize_15
  · have hB := hB.2 cd
    refine lv_iload_n hx hb d_C_isSize_5 rfl (lv_at hl 0 rfl) ?_
    refine lv_iconst (v := nI 3) hx hb d_C_isSize_6 (by decide) ?_
    refine lv_icmp_gt (tgt := 14) hx hb d_C_isSize_7 (by decide) (fun cd => ?_) (fun cd => ?_)
    · have hB := hB.1 cd
      refine lv_iconst (v := nI 0) hx hb d_C_isSize_14 (by decide) ?_
      exact zr_zret hx hb hr hlocks (Or.inl rfl) hB hg hw hS d_C_isSize_15
    · have hB := hB.2 cd
      refine lv_iconst (v := nI 1) hx hb d_C_isSize_10 (by decide) ?_
      refine lv_goto (tgt := 15) hx hb d_C_isSize_11 (by decide) ?_
      exact zr_zret hx hb hr hlocks (Or.inr rfl) hB hg hw hS d_C_isSize_15

set_option maxHeartbeats 4000000 in
set_option maxRecDepth 100000 in
theorem c_C_worldCount (l : Launch) (D : va_G) (B : Nat) (x0 : Int32) (σ : St) (Q : Int32 → St → Prop) (h : P_C_worldCount x0 σ Q) : zM l y_C_worldCount b_C_worldCount 1 (some (.int)) (rm_C_worldCount) D B [.int x0] σ (zQi Q) := by
  refine zM.ofW (own := "LawWorlds$Codes") (by decide +kernel) rfl (Nat.le_of_ble_eq_true rfl) ?_
  intro p e s m args below meth c ls hx hb hml hr hlocks hname hC hwk hw hS hl
  obtain ⟨σ0, eσ⟩ : ∃ z, z = σ := ⟨_, rfl⟩
  have hg : gr σ0 σ := by rw [eσ]; exact gr.rf
  have hl : lv_has ls 1 [(0, .int x0)] := hl
  have hB := h
  rw [← eσ]
  skip
  refine lv_iload_n hx hb d_C_worldCount_0 rfl (lv_at hl 0 rfl) ?_
  refine lv_iconst (v := nI 3) hx hb d_C_worldCount_1 (by decide) ?_
  refine lv_icmp_ne (tgt := 11) hx hb d_C_worldCount_2 (by decide) (fun cd => ?_) (fun cd => ?_)
  · have hB := hB.2 cd
    refine lv_iload_n hx hb d_C_worldCount_11 rfl (lv_at hl 0 rfl) ?_
    refine lv_iconst (v := nI 2) hx hb d_C_worldCount_12 (by decide) ?_
    refine lv_icmp_ne (tgt := 21) hx hb d_C_worldCount_13 (by decide) (fun cd => ?_) (fun cd => ?_)
    · have hB := hB.2 cd
      refine lv_iconst (v := nI 1) hx hb d_C_worldCount_21 (by decide) ?_
      exact zr_iret hx hb hr hlocks hB hg hw hS d_C_worldCount_22
    · have hB := hB.1 cd
      refine lv_bipush (v := nI 16) hx hb d_C_worldCount_16 (by decide) ?_
      refine lv_goto (tgt := 22) hx hb d_C_worldCount_18 (by decide) ?_
      exact zr_iret hx hb hr hlocks hB hg hw hS d_C_worldCount_22
  · have hB := hB.1 cd
    refine lv_sipush (v := nI 19683) hx hb d_C_worldCount_5 (by decide) ?_
    refine lv_goto (tgt := 22) hx hb d_C_worldCount_8 (by decide) ?_
    exact zr_iret hx hb hr hlocks hB hg hw hS d_C_worldCount_22

set_option maxHeartbeats 4000000 in
set_option maxRecDepth 100000 in
theorem c_C_isCode (l : Launch) (D : va_G) (B : Nat) (x0 : Int32) (x1 : Int32) (σ : St) (Q : Int32 → St → Prop) (h : P_C_isCode x0 x1 σ Q) : zM l y_C_isCode b_C_isCode 2 (some (.boolean)) (rm_C_isCode) D B [.int x0, .int x1] σ (zQi Q) := by
  refine zM.ofW (own := "LawWorlds$Codes") (by decide +kernel) rfl (Nat.le_of_ble_eq_true rfl) ?_
  intro p e s m args below meth c ls hx hb hml hr hlocks hname hC hwk hw hS hl
  obtain ⟨σ0, eσ⟩ : ∃ z, z = σ := ⟨_, rfl⟩
  have hg : gr σ0 σ := by rw [eσ]; exact gr.rf
  have hl : lv_has ls 2 [(0, .int x0), (1, .int x1)] := hl
  have hB := h
  rw [← eσ]
  skip
  refine lv_iload_n hx hb d_C_isCode_0 rfl (lv_at hl 0 rfl) ?_
  refine zr_callS (As := [.int x0]) (rest := []) hx hb hml hC hwk hw hS hl.1 (c_C_isSize l D B x0 σ _ hB) mk_C_isSize mt_C_isSize ml_C_9 ⟨Nat.le_of_ble_eq_true rfl, Nat.le_of_ble_eq_true rfl⟩ rfl (cat_8 cat_n (Nat.le_of_ble_eq_true rfl)) d_C_isCode_1 ⟨Nat.le_refl _, Nat.le_refl _⟩ rfl (fun v σ1 H locs hp hgn hw hS => ?_)
  have hg := hg.tr hgn
  obtain ⟨r2, rfl, hB⟩ := hp
  refine W.eq (g2 := F0 m 4 ls [.int r2]) rfl ?_
  refine lv_if_eq (tgt := 23) hx hb d_C_isCode_4 (by decide) (fun cd => ?_) (fun cd => ?_)
  · have hB := hB.1 cd
    refine lv_iconst (v := nI 0) hx hb d_C_isCode_23 (by decide) ?_
    exact zr_zret hx hb hr hlocks (Or.inl rfl) hB hg hw hS d_C_isCode_24
  · have hB := hB.2 cd
    refine lv_iload_n hx hb d_C_isCode_7 rfl (lv_at hl 1 rfl) ?_
    refine lv_if_lt (tgt := 23) hx hb d_C_isCode_8 (by decide) (fun cd => ?_) (fun cd => ?_)
    · have hB := hB.1 cd
      refine lv_iconst (v := nI 0) hx hb d_C_isCode_23 (by decide) ?_
      exact zr_zret hx hb hr hlocks (Or.inl rfl) hB hg hw hS d_C_isCode_24
    · have hB := hB.2 cd
      refine lv_iload_n hx hb d_C_isCode_11 rfl (lv_at hl 1 rfl) ?_
      refine lv_iload_n hx hb d_C_isCode_12 rfl (lv_at hl 0 rfl) ?_
      refine zr_callS (As := [.int x0]) (rest := [.int x1]) hx hb hml hC hwk hw hS hl.1 (c_C_worldCount l D B x0 σ1 _ hB) mk_C_worldCount mt_C_worldCount ml_C_15 ⟨Nat.le_of_ble_eq_true rfl, Nat.le_of_ble_eq_true rfl⟩ rfl (cat_8 (cat_c rfl cat_n) (Nat.le_of_ble_eq_true rfl)) d_C_isCode_13 ⟨Nat.le_refl _, Nat.le_refl _⟩ rfl (fun v σ3 H locs hp hgn hw hS => ?_)
      have hg := hg.tr hgn
      obtain ⟨r4, rfl, hB⟩ := hp
      refine W.eq (g2 := F0 m 16 ls [.int r4, .int x1]) rfl ?_
      refine lv_icmp_ge (tgt := 23) hx hb d_C_isCode_16 (by decide) (fun cd => ?_) (fun cd => ?_)
      · have hB := hB.1 cd
        refine lv_iconst (v := nI 0) hx hb d_C_isCode_23 (by decide) ?_
        exact zr_zret hx hb hr hlocks (Or.inl rfl) hB hg hw hS d_C_isCode_24
      · have hB := hB.2 cd
        refine lv_iconst (v := nI 1) hx hb d_C_isCode_19 (by decide) ?_
        refine lv_goto (tgt := 24) hx hb d_C_isCode_20 (by decide) ?_
        exact zr_zret hx hb hr hlocks (Or.inr rfl) hB hg hw hS d_C_isCode_24

set_option maxHeartbeats 4000000 in
set_option maxRecDepth 100000 in
theorem c_C_power (l : Launch) (D : va_G) (B : Nat) (x0 : Int32) (x1 : Int32) (σ : St) (Q : Int32 → St → Prop) (h : P_C_power x0 x1 σ Q) : zM l y_C_power b_C_power 2 (some (.int)) (rm_C_power) D B [.int x0, .int x1] σ (zQi Q) := by
  refine zM.ofW (own := "LawWorlds$Codes") (by decide +kernel) rfl (Nat.le_of_ble_eq_true rfl) ?_
  intro p e s m args below meth c ls hx hb hml hr hlocks hname hC hwk hw hS hl
  obtain ⟨tP, tR, hZ⟩ := hwk.2.2.2.2.2
  obtain ⟨σ0, eσ⟩ : ∃ z, z = σ := ⟨_, rfl⟩
  have hg : gr σ0 σ := by rw [eσ]; exact gr.rf
  have hl : lv_has ls 2 [(0, .int x0), (1, .int x1)] := hl
  have hB := h
  rw [← eσ]
  skip
  refine lv_iload_n hx hb d_C_power_0 rfl (lv_at hl 1 rfl) ?_
  refine lv_if_lt (tgt := 12) hx hb d_C_power_1 (by decide) (fun cd => ?_) (fun cd => ?_)
  · have hB := hB.1 cd
    refine lv_iconst (v := nI 1) hx hb d_C_power_12 (by decide) ?_
    exact zr_iret hx hb hr hlocks hB hg hw hS d_C_power_13
  · have hB := hB.2 cd
    refine lv_iload_n hx hb d_C_power_4 rfl (lv_at hl 1 rfl) ?_
    refine zr_getsP hx hb hC hZ hS fl_C_19 d_C_power_5 ?_
    refine zr_tlP hx hb hZ hS d_C_power_8 ?_
    refine lv_icmp_lt (tgt := 14) hx hb d_C_power_9 (by decide) (fun cd => ?_) (fun cd => ?_)
    · have hB := hB.1 cd
      refine lv_iload_n hx hb d_C_power_14 rfl (lv_at hl 0 rfl) ?_
      refine lv_iconst (v := nI 3) hx hb d_C_power_15 (by decide) ?_
      refine lv_icmp_ne (tgt := 27) hx hb d_C_power_16 (by decide) (fun cd => ?_) (fun cd => ?_)
      · have hB := hB.2 cd
        refine lv_iload_n hx hb d_C_power_27 rfl (lv_at hl 0 rfl) ?_
        refine lv_iconst (v := nI 2) hx hb d_C_power_28 (by decide) ?_
        refine lv_icmp_ne (tgt := 38) hx hb d_C_power_29 (by decide) (fun cd => ?_) (fun cd => ?_)
        · have hB := hB.2 cd
          refine lv_iconst (v := nI 1) hx hb d_C_power_38 (by decide) ?_
          exact zr_iret hx hb hr hlocks hB hg hw hS d_C_power_39
        · have hB := hB.1 cd
          refine lv_iconst (v := nI 1) hx hb d_C_power_32 (by decide) ?_
          refine lv_iload_n hx hb d_C_power_33 rfl (lv_at hl 1 rfl) ?_
          refine zr_ishl hx hb d_C_power_34 ?_
          refine lv_goto (tgt := 39) hx hb d_C_power_35 (by decide) ?_
          exact zr_iret hx hb hr hlocks hB hg hw hS d_C_power_39
      · have hB := hB.1 cd
        refine zr_getsP hx hb hC hZ hS fl_C_19 d_C_power_19 ?_
        refine lv_iload_n hx hb d_C_power_22 rfl (lv_at hl 1 rfl) ?_
        obtain ⟨j1, hin, hj, hB⟩ := hB
        subst hj
        generalize hj1 : Int32.toNatClampNeg x1 = j1 at hB
        refine zr_tiP hx hb hZ hS hin d_C_power_23 ?_
        rw [hj1]
        refine lv_goto (tgt := 39) hx hb d_C_power_24 (by decide) ?_
        exact zr_iret hx hb hr hlocks hB hg hw hS d_C_power_39
    · have hB := hB.2 cd
      refine lv_iconst (v := nI 1) hx hb d_C_power_12 (by decide) ?_
      exact zr_iret hx hb hr hlocks hB hg hw hS d_C_power_13

set_option maxHeartbeats 4000000 in
set_option maxRecDepth 100000 in
theorem c_C_product (l : Launch) (D : va_G) (B : Nat) (x0 : Int32) (x1 : Int32) (x2 : Int32) (x3 : Int32) (σ : St) (Q : Int32 → St → Prop) (h : P_C_product x0 x1 x2 x3 σ Q) : zM l y_C_product b_C_product 5 (some (.int)) (rm_C_product) D B [.int x0, .int x1, .int x2, .int x3] σ (zQi Q) := by
  refine zM.ofW (own := "LawWorlds$Codes") (by decide +kernel) rfl (Nat.le_of_ble_eq_true rfl) ?_
  intro p e s m args below meth c ls hx hb hml hr hlocks hname hC hwk hw hS hl
  obtain ⟨σ0, eσ⟩ : ∃ z, z = σ := ⟨_, rfl⟩
  have hg : gr σ0 σ := by rw [eσ]; exact gr.rf
  have hl : lv_has ls 5 [(0, .int x0), (1, .int x1), (2, .int x2), (3, .int x3)] := hl
  have hB := h
  rw [← eσ]
  skip
  refine lv_iload_n hx hb d_C_product_0 rfl (lv_at hl 0 rfl) ?_
  refine zr_callS (As := [.int x0]) (rest := []) hx hb hml hC hwk hw hS hl.1 (c_C_isSize l D B x0 σ _ hB) mk_C_isSize mt_C_isSize ml_C_9 ⟨Nat.le_of_ble_eq_true rfl, Nat.le_of_ble_eq_true rfl⟩ rfl (cat_8 cat_n (Nat.le_of_ble_eq_true rfl)) d_C_product_1 ⟨Nat.le_refl _, Nat.le_refl _⟩ rfl (fun v σ1 H locs hp hgn hw hS => ?_)
  have hg := hg.tr hgn
  obtain ⟨r2, rfl, hB⟩ := hp
  refine W.eq (g2 := F0 m 4 ls [.int r2]) rfl ?_
  refine lv_if_ne (tgt := 9) hx hb d_C_product_4 (by decide) (fun cd => ?_) (fun cd => ?_)
  · have hB := hB.2 cd
    refine lv_iload_n hx hb d_C_product_9 rfl (lv_at hl 0 rfl) ?_
    refine lv_iload_n hx hb d_C_product_10 rfl (lv_at hl 0 rfl) ?_
    refine lv_iload_n hx hb d_C_product_11 rfl (lv_at hl 2 rfl) ?_
    refine lv_imul hx hb d_C_product_12 ?_
    refine lv_iload_n hx hb d_C_product_13 rfl (lv_at hl 3 rfl) ?_
    refine lv_iadd hx hb d_C_product_14 ?_
    refine zr_callS (As := [.int x0, .int ((x0 * x2) + x3)]) (rest := []) hx hb hml hC hwk hw hS hl.1 (c_C_power l D B x0 ((x0 * x2) + x3) σ1 _ hB) mk_C_power mt_C_power ml_C_23 ⟨Nat.le_of_ble_eq_true rfl, Nat.le_of_ble_eq_true rfl⟩ rfl (cat_8 cat_n (Nat.le_of_ble_eq_true rfl)) d_C_product_15 ⟨Nat.le_refl _, Nat.le_refl _⟩ rfl (fun v σ3 H locs hp hgn hw hS => ?_)
    have hg := hg.tr hgn
    obtain ⟨r4, rfl, hB⟩ := hp
    refine W.eq (g2 := F0 m 18 ls [.int r4]) rfl ?_
    refine lv_istore (lv' := [(4, .int r4), (0, .int x0), (1, .int x1), (2, .int x2), (3, .int x3)]) hx hb d_C_product_18 hl (by decide) rfl (fun ls hl => ?_)
    refine lv_iload hx hb d_C_product_20 (lv_at hl 0 rfl) ?_
    refine lv_if_ne (tgt := 29) hx hb d_C_product_22 (by decide) (fun cd => ?_) (fun cd => ?_)
    · have hB := hB.2 cd
      refine lv_iload_n hx hb d_C_product_29 rfl (lv_at hl 2 rfl) ?_
      refine lv_iload hx hb d_C_product_30 (lv_at hl 0 rfl) ?_
      refine lv_idiv hx hb d_C_product_32 hB.1 ?_
      have hB := hB.2
      refine lv_iload_n hx hb d_C_product_33 rfl (lv_at hl 1 rfl) ?_
      refine zr_irem hx hb d_C_product_34 hB.1 ?_
      have hB := hB.2
      exact zr_iret hx hb hr hlocks hB hg hw hS d_C_product_35
    · have hB := hB.1 cd
      refine lv_iconst (v := nI 0) hx hb d_C_product_25 (by decide) ?_
      refine lv_goto (tgt := 35) hx hb d_C_product_26 (by decide) ?_
      exact zr_iret hx hb hr hlocks hB hg hw hS d_C_product_35
  · have hB := hB.1 cd
    refine lv_iconst (v := nI 0) hx hb d_C_product_7 (by decide) ?_
    exact zr_iret hx hb hr hlocks hB hg hw hS d_C_product_8

set_option maxHeartbeats 4000000 in
set_option maxRecDepth 100000 in
theorem c_C_exchange (l : Launch) (D : va_G) (B : Nat) (x0 : Int32) (x1 : Int32) (σ : St) (Q : Int32 → St → Prop) (h : P_C_exchange x0 x1 σ Q) : zM l y_C_exchange b_C_exchange 2 (some (.int)) (rm_C_exchange) D B [.int x0, .int x1] σ (zQi Q) := by
  refine zM.ofW (own := "LawWorlds$Codes") (by decide +kernel) rfl (Nat.le_of_ble_eq_true rfl) ?_
  intro p e s m args below meth c ls hx hb hml hr hlocks hname hC hwk hw hS hl
  obtain ⟨σ0, eσ⟩ : ∃ z, z = σ := ⟨_, rfl⟩
  have hg : gr σ0 σ := by rw [eσ]; exact gr.rf
  have hl : lv_has ls 2 [(0, .int x0), (1, .int x1)] := hl
  have hB := h
  rw [← eσ]
  skip
  refine lv_iload_n hx hb d_C_exchange_0 rfl (lv_at hl 0 rfl) ?_
  refine lv_iload_n hx hb d_C_exchange_1 rfl (lv_at hl 1 rfl) ?_
  refine lv_iadd hx hb d_C_exchange_2 ?_
  exact zr_iret hx hb hr hlocks hB hg hw hS d_C_exchange_3

set_option maxHeartbeats 4000000 in
set_option maxRecDepth 100000 in
theorem c_C_newName (l : Launch) (D : va_G) (B : Nat) (x0 : Int32) (x1 : Int32) (σ : St) (Q : Int32 → St → Prop) (h : P_C_newName x0 x1 σ Q) : zM l y_C_newName b_C_newName 3 (some (.int)) (rm_C_newName) D B [.int x0, .int x1] σ (zQi Q) := by
  refine zM.ofW (own := "LawWorlds$Codes") (by decide +kernel) rfl (Nat.le_of_ble_eq_true rfl) ?_
  intro p e s m args below meth c ls hx hb hml hr hlocks hname hC hwk hw hS hl
  obtain ⟨tP, tR, hZ⟩ := hwk.2.2.2.2.2
  obtain ⟨σ0, eσ⟩ : ∃ z, z = σ := ⟨_, rfl⟩
  have hg : gr σ0 σ := by rw [eσ]; exact gr.rf
  have hl : lv_has ls 3 [(0, .int x0), (1, .int x1)] := hl
  have hB := h
  rw [← eσ]
  skip
  refine lv_iconst (v := nI 3) hx hb d_C_newName_0 (by decide) ?_
  refine lv_iload_n hx hb d_C_newName_1 rfl (lv_at hl 0 rfl) ?_
  refine lv_imul hx hb d_C_newName_2 ?_
  refine lv_iload_n hx hb d_C_newName_3 rfl (lv_at hl 1 rfl) ?_
  refine lv_iadd hx hb d_C_newName_4 ?_
  refine lv_istore_n (lv' := [(2, .int (((nI 3) * x0) + x1)), (0, .int x0), (1, .int x1)]) hx hb d_C_newName_5 rfl hl (by decide) rfl (fun ls hl => ?_)
  refine lv_iload_n hx hb d_C_newName_6 rfl (lv_at hl 0 rfl) ?_
  refine lv_if_lt (tgt := 26) hx hb d_C_newName_7 (by decide) (fun cd => ?_) (fun cd => ?_)
  · have hB := hB.1 cd
    refine lv_iload_n hx hb d_C_newName_26 rfl (lv_at hl 2 rfl) ?_
    exact zr_iret hx hb hr hlocks hB hg hw hS d_C_newName_27
  · have hB := hB.2 cd
    refine lv_iload_n hx hb d_C_newName_10 rfl (lv_at hl 0 rfl) ?_
    refine zr_getsR hx hb hC hZ hS fl_C_27 d_C_newName_11 ?_
    refine zr_tlR hx hb hZ hS d_C_newName_14 ?_
    refine lv_icmp_ge (tgt := 26) hx hb d_C_newName_15 (by decide) (fun cd => ?_) (fun cd => ?_)
    · have hB := hB.1 cd
      refine lv_iload_n hx hb d_C_newName_26 rfl (lv_at hl 2 rfl) ?_
      exact zr_iret hx hb hr hlocks hB hg hw hS d_C_newName_27
    · have hB := hB.2 cd
      refine zr_getsR hx hb hC hZ hS fl_C_27 d_C_newName_18 ?_
      refine lv_iload_n hx hb d_C_newName_21 rfl (lv_at hl 0 rfl) ?_
      obtain ⟨j1, hin, hj, hB⟩ := hB
      subst hj
      generalize hj1 : Int32.toNatClampNeg (((nI 3) * x0) + x1) = j1 at hB
      refine zr_tiR hx hb hZ hS hin d_C_newName_22 ?_
      rw [hj1]
      refine lv_goto (tgt := 27) hx hb d_C_newName_23 (by decide) ?_
      exact zr_iret hx hb hr hlocks hB hg hw hS d_C_newName_27

set_option maxHeartbeats 4000000 in
set_option maxRecDepth 100000 in
theorem c_C_renamed (l : Launch) (D : va_G) (B : Nat) (x0 : Int32) (x1 : Int32) (x2 : Int32) (σ : St) (Q : Int32 → St → Prop) (h : P_C_renamed x0 x1 x2 σ Q) : zM l y_C_renamed b_C_renamed 9 (some (.int)) (rm_C_renamed) D B [.int x0, .int x1, .int x2] σ (zQi Q) := by
  refine zM.ofW (own := "LawWorlds$Codes") (by decide +kernel) rfl (Nat.le_of_ble_eq_true rfl) ?_
  intro p e s m args below meth c ls hx hb hml hr hlocks hname hC hwk hw hS hl
  obtain ⟨σ0, eσ⟩ : ∃ z, z = σ := ⟨_, rfl⟩
  have hg : gr σ0 σ := by rw [eσ]; exact gr.rf
  have hl : lv_has ls 9 [(0, .int x0), (1, .int x1), (2, .int x2)] := hl
  have hB := h
  rw [← eσ]
  skip
  obtain ⟨K17, hK17⟩ : ∃ K : Int32 → Int32 → Int32 → Int32 → Int32 → St → Prop, K = (fun (x0 : Int32) (x2 : Int32) (x3 : Int32) (x4 : Int32) (x5 : Int32) (σ : St) => ∀ (H : Heap) (locs : List Loc) (ls : Array Slot), gr σ0 σ → wh D B σ s H → va_S (zA B) s.heap H locs → lv_has ls 9 [(0, .int x0), (2, .int x2), (3, .int x3), (4, .int x4), (5, .int x5)] → W p l e (rm_C_renamed) s m args below meth c H locs 0 0 (MQ below (zQ D B σ0 (zQi Q)) args s (rm_C_renamed).cells (rm_C_renamed).slots (zA B)) (F0 m 17 ls [])) := ⟨_, rfl⟩
  obtain ⟨K36, hK36⟩ : ∃ K : Int32 → Int32 → Int32 → Int32 → Int32 → Int32 → Int32 → St → Prop, K = (fun (x0 : Int32) (x2 : Int32) (x3 : Int32) (x4 : Int32) (x5 : Int32) (x6 : Int32) (x7 : Int32) (σ : St) => ∀ (H : Heap) (locs : List Loc) (ls : Array Slot), gr σ0 σ → wh D B σ s H → va_S (zA B) s.heap H locs → lv_has ls 9 [(0, .int x0), (2, .int x2), (3, .int x3), (4, .int x4), (5, .int x5), (6, .int x6), (7, .int x7)] → W p l e (rm_C_renamed) s m args below meth c H locs 0 0 (MQ below (zQ D B σ0 (zQi Q)) args s (rm_C_renamed).cells (rm_C_renamed).slots (zA B)) (F0 m 36 ls [])) := ⟨_, rfl⟩
  refine (fun hB => ?_) (hB K17 K36 ?_ ?_)
  · skip
    refine lv_iload_n hx hb d_C_renamed_0 rfl (lv_at hl 0 rfl) ?_
    refine zr_callS (As := [.int x0]) (rest := []) hx hb hml hC hwk hw hS hl.1 (c_C_isSize l D B x0 σ _ hB) mk_C_isSize mt_C_isSize ml_C_9 ⟨Nat.le_of_ble_eq_true rfl, Nat.le_of_ble_eq_true rfl⟩ rfl (cat_8 cat_n (Nat.le_of_ble_eq_true rfl)) d_C_renamed_1 ⟨Nat.le_refl _, Nat.le_refl _⟩ rfl (fun v σ9 H locs hp hgn hw hS => ?_)
    have hg := hg.tr hgn
    obtain ⟨r10, rfl, hB⟩ := hp
    refine W.eq (g2 := F0 m 4 ls [.int r10]) rfl ?_
    refine lv_if_ne (tgt := 9) hx hb d_C_renamed_4 (by decide) (fun cd => ?_) (fun cd => ?_)
    · have hB := hB.2 cd
      refine lv_iconst (v := nI 0) hx hb d_C_renamed_9 (by decide) ?_
      refine lv_istore_n (lv' := [(3, .int (nI 0)), (0, .int x0), (1, .int x1), (2, .int x2)]) hx hb d_C_renamed_10 rfl hl (by decide) rfl (fun ls hl => ?_)
      refine lv_iload_n hx hb d_C_renamed_11 rfl (lv_at hl 2 rfl) ?_
      refine lv_istore (lv' := [(4, .int x1), (3, .int (nI 0)), (0, .int x0), (1, .int x1), (2, .int x2)]) hx hb d_C_renamed_12 hl (by decide) rfl (fun ls hl => ?_)
      refine lv_iconst (v := nI 0) hx hb d_C_renamed_14 (by decide) ?_
      refine lv_istore (lv' := [(5, .int (nI 0)), (4, .int x1), (3, .int (nI 0)), (0, .int x0), (1, .int x1), (2, .int x2)]) hx hb d_C_renamed_15 hl (by decide) rfl (fun ls hl => ?_)
      rw [hK17] at hB
      exact hB _ _ _ hg hw hS (lv_sub hl [3, 5, 2, 1, 0] rfl)
    · have hB := hB.1 cd
      refine lv_iload_n hx hb d_C_renamed_7 rfl (lv_at hl 1 rfl) ?_
      exact zr_iret hx hb hr hlocks hB hg hw hS d_C_renamed_8
  · intro x0 x2 x3 x4 x5 σ hB
    rw [hK17]
    intro H locs ls hg hw hS hl
    refine lv_iload hx hb d_C_renamed_17 (lv_at hl 4 rfl) ?_
    refine lv_iload_n hx hb d_C_renamed_19 rfl (lv_at hl 0 rfl) ?_
    refine lv_icmp_ge (tgt := 89) hx hb d_C_renamed_20 (by decide) (fun cd => ?_) (fun cd => ?_)
    · have hB := hB.1 cd
      refine lv_iload_n hx hb d_C_renamed_89 rfl (lv_at hl 2 rfl) ?_
      exact zr_iret hx hb hr hlocks hB hg hw hS d_C_renamed_90
    · have hB := hB.2 cd
      refine lv_iload_n hx hb d_C_renamed_23 rfl (lv_at hl 0 rfl) ?_
      refine lv_iload_n hx hb d_C_renamed_24 rfl (lv_at hl 1 rfl) ?_
      refine lv_iload hx hb d_C_renamed_25 (lv_at hl 4 rfl) ?_
      refine zr_callS (As := [.int x2, .int x5]) (rest := [.int x0]) hx hb hml hC hwk hw hS hl.1 (c_C_newName l D B x2 x5 σ _ hB) mk_C_newName mt_C_newName ml_C_30 ⟨Nat.le_of_ble_eq_true rfl, Nat.le_of_ble_eq_true rfl⟩ rfl (cat_8 (cat_c rfl cat_n) (Nat.le_of_ble_eq_true rfl)) d_C_renamed_27 ⟨Nat.le_refl _, Nat.le_refl _⟩ rfl (fun v σ1 H locs hp hgn hw hS => ?_)
      have hg := hg.tr hgn
      obtain ⟨r2, rfl, hB⟩ := hp
      refine W.eq (g2 := F0 m 30 ls [.int r2, .int x0]) rfl ?_
      refine lv_imul hx hb d_C_renamed_30 ?_
      refine lv_istore (lv' := [(6, .int (x0 * r2)), (0, .int x0), (2, .int x2), (3, .int x3), (4, .int x4), (5, .int x5)]) hx hb d_C_renamed_31 hl (by decide) rfl (fun ls hl => ?_)
      refine lv_iconst (v := nI 0) hx hb d_C_renamed_33 (by decide) ?_
      refine lv_istore (lv' := [(7, .int (nI 0)), (6, .int (x0 * r2)), (0, .int x0), (2, .int x2), (3, .int x3), (4, .int x4), (5, .int x5)]) hx hb d_C_renamed_34 hl (by decide) rfl (fun ls hl => ?_)
      rw [hK36] at hB
      exact hB _ _ _ hg hw hS (lv_sub hl [2, 3, 4, 5, 6, 1, 0] rfl)
  · intro x0 x2 x3 x4 x5 x6 x7 σ hB
    rw [hK36]
    intro H locs ls hg hw hS hl
    refine lv_iload hx hb d_C_renamed_36 (lv_at hl 6 rfl) ?_
    refine lv_iload_n hx hb d_C_renamed_38 rfl (lv_at hl 0 rfl) ?_
    refine lv_icmp_ge (tgt := 83) hx hb d_C_renamed_39 (by decide) (fun cd => ?_) (fun cd => ?_)
    · have hB := hB.1 cd
      refine lv_iinc (v := x5 + nI 1) (lv' := [(5, .int (x5 + nI 1)), (0, .int x0), (2, .int x2), (3, .int x3), (4, .int x4), (6, .int x6), (7, .int x7)]) hx hb d_C_renamed_83 hl (k := 4) rfl rfl (by decide) rfl (fun ls hl => ?_)
      refine lv_goto (tgt := 17) hx hb d_C_renamed_86 (by decide) ?_
      rw [hK17] at hB
      exact hB _ _ _ hg hw hS (lv_sub hl [1, 2, 3, 4, 0] rfl)
    · have hB := hB.2 cd
      refine lv_iload_n hx hb d_C_renamed_42 rfl (lv_at hl 1 rfl) ?_
      refine lv_iload hx hb d_C_renamed_43 (lv_at hl 3 rfl) ?_
      refine lv_iload_n hx hb d_C_renamed_45 rfl (lv_at hl 0 rfl) ?_
      refine zr_irem hx hb d_C_renamed_46 hB.1 ?_
      have hB := hB.2
      refine zr_callS (As := [.int x2, .int (irem x4 x0)]) (rest := []) hx hb hml hC hwk hw hS hl.1 (c_C_newName l D B x2 (irem x4 x0) σ _ hB) mk_C_newName mt_C_newName ml_C_30 ⟨Nat.le_of_ble_eq_true rfl, Nat.le_of_ble_eq_true rfl⟩ rfl (cat_8 cat_n (Nat.le_of_ble_eq_true rfl)) d_C_renamed_47 ⟨Nat.le_refl _, Nat.le_refl _⟩ rfl (fun v σ3 H locs hp hgn hw hS => ?_)
      have hg := hg.tr hgn
      obtain ⟨r4, rfl, hB⟩ := hp
      refine W.eq (g2 := F0 m 50 ls [.int r4]) rfl ?_
      refine lv_istore (lv' := [(8, .int r4), (0, .int x0), (2, .int x2), (3, .int x3), (4, .int x4), (5, .int x5), (6, .int x6), (7, .int x7)]) hx hb d_C_renamed_50 hl (by decide) rfl (fun ls hl => ?_)
      refine lv_iload hx hb d_C_renamed_52 (lv_at hl 4 rfl) ?_
      refine lv_iload_n hx hb d_C_renamed_54 rfl (lv_at hl 1 rfl) ?_
      refine lv_idiv hx hb d_C_renamed_55 hB.1 ?_
      have hB := hB.2
      refine lv_istore (lv' := [(4, .int (x4 / x0)), (8, .int r4), (0, .int x0), (2, .int x2), (3, .int x3), (5, .int x5), (6, .int x6), (7, .int x7)]) hx hb d_C_renamed_56 hl (by decide) rfl (fun ls hl => ?_)
      refine lv_iload_n hx hb d_C_renamed_58 rfl (lv_at hl 4 rfl) ?_
      refine lv_iload hx hb d_C_renamed_59 (lv_at hl 1 rfl) ?_
      refine lv_iload_n hx hb d_C_renamed_61 rfl (lv_at hl 2 rfl) ?_
      refine lv_iload hx hb d_C_renamed_62 (lv_at hl 6 rfl) ?_
      refine lv_iload_n hx hb d_C_renamed_64 rfl (lv_at hl 3 rfl) ?_
      refine lv_iload hx hb d_C_renamed_65 (lv_at hl 7 rfl) ?_
      refine zr_callS (As := [.int x2, .int x7]) (rest := [.int x6, .int x0, .int r4, .int x3]) hx hb hml hC hwk hw hS hl.1 (c_C_newName l D B x2 x7 σ3 _ hB) mk_C_newName mt_C_newName ml_C_30 ⟨Nat.le_of_ble_eq_true rfl, Nat.le_of_ble_eq_true rfl⟩ rfl (cat_8 (cat_c rfl (cat_c rfl (cat_c rfl (cat_c rfl cat_n)))) (Nat.le_of_ble_eq_true rfl)) d_C_renamed_67 ⟨Nat.le_refl _, Nat.le_refl _⟩ rfl (fun v σ5 H locs hp hgn hw hS => ?_)
      have hg := hg.tr hgn
      obtain ⟨r6, rfl, hB⟩ := hp
      refine W.eq (g2 := F0 m 70 ls [.int r6, .int x6, .int x0, .int r4, .int x3]) rfl ?_
      refine lv_iadd hx hb d_C_renamed_70 ?_
      refine zr_callS (As := [.int x0, .int (x6 + r6)]) (rest := [.int r4, .int x3]) hx hb hml hC hwk hw hS hl.1 (c_C_power l D B x0 (x6 + r6) σ5 _ hB) mk_C_power mt_C_power ml_C_23 ⟨Nat.le_of_ble_eq_true rfl, Nat.le_of_ble_eq_true rfl⟩ rfl (cat_8 (cat_c rfl (cat_c rfl cat_n)) (Nat.le_of_ble_eq_true rfl)) d_C_renamed_71 ⟨Nat.le_refl _, Nat.le_refl _⟩ rfl (fun v σ7 H locs hp hgn hw hS => ?_)
      have hg := hg.tr hgn
      obtain ⟨r8, rfl, hB⟩ := hp
      refine W.eq (g2 := F0 m 74 ls [.int r8, .int r4, .int x3]) rfl ?_
      refine lv_imul hx hb d_C_renamed_74 ?_
      refine lv_iadd hx hb d_C_renamed_75 ?_
      refine lv_istore_n (lv' := [(3, .int (x3 + (r4 * r8))), (4, .int (x4 / x0)), (8, .int r4), (0, .int x0), (2, .int x2), (5, .int x5), (6, .int x6), (7, .int x7)]) hx hb d_C_renamed_76 rfl hl (by decide) rfl (fun ls hl => ?_)
      refine lv_iinc (v := x7 + nI 1) (lv' := [(7, .int (x7 + nI 1)), (3, .int (x3 + (r4 * r8))), (4, .int (x4 / x0)), (8, .int r4), (0, .int x0), (2, .int x2), (5, .int x5), (6, .int x6)]) hx hb d_C_renamed_77 hl (k := 7) rfl rfl (by decide) rfl (fun ls hl => ?_)
      refine lv_goto (tgt := 36) hx hb d_C_renamed_80 (by decide) ?_
      rw [hK36] at hB
      exact hB _ _ _ hg hw hS (lv_sub hl [4, 5, 1, 2, 6, 7, 0] rfl)

set_option maxHeartbeats 4000000 in
set_option maxRecDepth 100000 in
theorem c_C_mirrored (l : Launch) (D : va_G) (B : Nat) (x0 : Int32) (x1 : Int32) (σ : St) (Q : Int32 → St → Prop) (h : P_C_mirrored x0 x1 σ Q) : zM l y_C_mirrored b_C_mirrored 5 (some (.int)) (rm_C_mirrored) D B [.int x0, .int x1] σ (zQi Q) := by
  refine zM.ofW (own := "LawWorlds$Codes") (by decide +kernel) rfl (Nat.le_of_ble_eq_true rfl) ?_
  intro p e s m args below meth c ls hx hb hml hr hlocks hname hC hwk hw hS hl
  obtain ⟨σ0, eσ⟩ : ∃ z, z = σ := ⟨_, rfl⟩
  have hg : gr σ0 σ := by rw [eσ]; exact gr.rf
  have hl : lv_has ls 5 [(0, .int x0), (1, .int x1)] := hl
  have hB := h
  rw [← eσ]
  skip
  obtain ⟨K4, hK4⟩ : ∃ K : Int32 → Int32 → Int32 → Int32 → St → Prop, K = (fun (x0 : Int32) (x1 : Int32) (x2 : Int32) (x3 : Int32) (σ : St) => ∀ (H : Heap) (locs : List Loc) (ls : Array Slot), gr σ0 σ → wh D B σ s H → va_S (zA B) s.heap H locs → lv_has ls 5 [(0, .int x0), (1, .int x1), (2, .int x2), (3, .int x3)] → W p l e (rm_C_mirrored) s m args below meth c H locs 0 0 (MQ below (zQ D B σ0 (zQi Q)) args s (rm_C_mirrored).cells (rm_C_mirrored).slots (zA B)) (F0 m 4 ls [])) := ⟨_, rfl⟩
  obtain ⟨K12, hK12⟩ : ∃ K : Int32 → Int32 → Int32 → Int32 → Int32 → St → Prop, K = (fun (x0 : Int32) (x1 : Int32) (x2 : Int32) (x3 : Int32) (x4 : Int32) (σ : St) => ∀ (H : Heap) (locs : List Loc) (ls : Array Slot), gr σ0 σ → wh D B σ s H → va_S (zA B) s.heap H locs → lv_has ls 5 [(0, .int x0), (1, .int x1), (2, .int x2), (3, .int x3), (4, .int x4)] → W p l e (rm_C_mirrored) s m args below meth c H locs 0 0 (MQ below (zQ D B σ0 (zQi Q)) args s (rm_C_mirrored).cells (rm_C_mirrored).slots (zA B)) (F0 m 12 ls [])) := ⟨_, rfl⟩
  refine (fun hB => ?_) (hB K4 K12 ?_ ?_)
  · skip
    refine lv_iconst (v := nI 0) hx hb d_C_mirrored_0 (by decide) ?_
    refine lv_istore_n (lv' := [(2, .int (nI 0)), (0, .int x0), (1, .int x1)]) hx hb d_C_mirrored_1 rfl hl (by decide) rfl (fun ls hl => ?_)
    refine lv_iconst (v := nI 0) hx hb d_C_mirrored_2 (by decide) ?_
    refine lv_istore_n (lv' := [(3, .int (nI 0)), (2, .int (nI 0)), (0, .int x0), (1, .int x1)]) hx hb d_C_mirrored_3 rfl hl (by decide) rfl (fun ls hl => ?_)
    rw [hK4] at hB
    exact hB _ _ _ hg hw hS (lv_sub hl [2, 3, 1, 0] rfl)
  · intro x0 x1 x2 x3 σ hB
    rw [hK4]
    intro H locs ls hg hw hS hl
    refine lv_iload_n hx hb d_C_mirrored_4 rfl (lv_at hl 3 rfl) ?_
    refine lv_iload_n hx hb d_C_mirrored_5 rfl (lv_at hl 0 rfl) ?_
    refine lv_icmp_ge (tgt := 52) hx hb d_C_mirrored_6 (by decide) (fun cd => ?_) (fun cd => ?_)
    · have hB := hB.1 cd
      refine lv_iload_n hx hb d_C_mirrored_52 rfl (lv_at hl 2 rfl) ?_
      exact zr_iret hx hb hr hlocks hB hg hw hS d_C_mirrored_53
    · have hB := hB.2 cd
      refine lv_iconst (v := nI 0) hx hb d_C_mirrored_9 (by decide) ?_
      refine lv_istore (lv' := [(4, .int (nI 0)), (0, .int x0), (1, .int x1), (2, .int x2), (3, .int x3)]) hx hb d_C_mirrored_10 hl (by decide) rfl (fun ls hl => ?_)
      rw [hK12] at hB
      exact hB _ _ _ hg hw hS (lv_sub hl [1, 2, 3, 4, 0] rfl)
  · intro x0 x1 x2 x3 x4 σ hB
    rw [hK12]
    intro H locs ls hg hw hS hl
    refine lv_iload hx hb d_C_mirrored_12 (lv_at hl 4 rfl) ?_
    refine lv_iload_n hx hb d_C_mirrored_14 rfl (lv_at hl 0 rfl) ?_
    refine lv_icmp_ge (tgt := 46) hx hb d_C_mirrored_15 (by decide) (fun cd => ?_) (fun cd => ?_)
    · have hB := hB.1 cd
      refine lv_iinc (v := x3 + nI 1) (lv' := [(3, .int (x3 + nI 1)), (0, .int x0), (1, .int x1), (2, .int x2), (4, .int x4)]) hx hb d_C_mirrored_46 hl (k := 3) rfl rfl (by decide) rfl (fun ls hl => ?_)
      refine lv_goto (tgt := 4) hx hb d_C_mirrored_49 (by decide) ?_
      rw [hK4] at hB
      exact hB _ _ _ hg hw hS (lv_sub hl [1, 2, 3, 0] rfl)
    · have hB := hB.2 cd
      refine lv_iload_n hx hb d_C_mirrored_18 rfl (lv_at hl 2 rfl) ?_
      refine lv_iload_n hx hb d_C_mirrored_19 rfl (lv_at hl 0 rfl) ?_
      refine lv_iload_n hx hb d_C_mirrored_20 rfl (lv_at hl 1 rfl) ?_
      refine lv_iload_n hx hb d_C_mirrored_21 rfl (lv_at hl 3 rfl) ?_
      refine lv_iload hx hb d_C_mirrored_22 (lv_at hl 4 rfl) ?_
      refine zr_callS (As := [.int x0, .int x1, .int x3, .int x4]) (rest := [.int x2]) hx hb hml hC hwk hw hS hl.1 (c_C_product l D B x0 x1 x3 x4 σ _ hB) mk_C_product mt_C_product ml_C_33 ⟨Nat.le_of_ble_eq_true rfl, Nat.le_of_ble_eq_true rfl⟩ rfl (cat_8 (cat_c rfl cat_n) (Nat.le_of_ble_eq_true rfl)) d_C_mirrored_24 ⟨Nat.le_refl _, Nat.le_refl _⟩ rfl (fun v σ1 H locs hp hgn hw hS => ?_)
      have hg := hg.tr hgn
      obtain ⟨r2, rfl, hB⟩ := hp
      refine W.eq (g2 := F0 m 27 ls [.int r2, .int x2]) rfl ?_
      refine lv_iload_n hx hb d_C_mirrored_27 rfl (lv_at hl 0 rfl) ?_
      refine lv_iload_n hx hb d_C_mirrored_28 rfl (lv_at hl 0 rfl) ?_
      refine lv_iload hx hb d_C_mirrored_29 (lv_at hl 4 rfl) ?_
      refine lv_imul hx hb d_C_mirrored_31 ?_
      refine lv_iload_n hx hb d_C_mirrored_32 rfl (lv_at hl 3 rfl) ?_
      refine lv_iadd hx hb d_C_mirrored_33 ?_
      refine zr_callS (As := [.int x0, .int ((x0 * x4) + x3)]) (rest := [.int r2, .int x2]) hx hb hml hC hwk hw hS hl.1 (c_C_power l D B x0 ((x0 * x4) + x3) σ1 _ hB) mk_C_power mt_C_power ml_C_23 ⟨Nat.le_of_ble_eq_true rfl, Nat.le_of_ble_eq_true rfl⟩ rfl (cat_8 (cat_c rfl (cat_c rfl cat_n)) (Nat.le_of_ble_eq_true rfl)) d_C_mirrored_34 ⟨Nat.le_refl _, Nat.le_refl _⟩ rfl (fun v σ3 H locs hp hgn hw hS => ?_)
      have hg := hg.tr hgn
      obtain ⟨r4, rfl, hB⟩ := hp
      refine W.eq (g2 := F0 m 37 ls [.int r4, .int r2, .int x2]) rfl ?_
      refine lv_imul hx hb d_C_mirrored_37 ?_
      refine lv_iadd hx hb d_C_mirrored_38 ?_
      refine lv_istore_n (lv' := [(2, .int (x2 + (r2 * r4))), (0, .int x0), (1, .int x1), (3, .int x3), (4, .int x4)]) hx hb d_C_mirrored_39 rfl hl (by decide) rfl (fun ls hl => ?_)
      refine lv_iinc (v := x4 + nI 1) (lv' := [(4, .int (x4 + nI 1)), (2, .int (x2 + (r2 * r4))), (0, .int x0), (1, .int x1), (3, .int x3)]) hx hb d_C_mirrored_40 hl (k := 4) rfl rfl (by decide) rfl (fun ls hl => ?_)
      refine lv_goto (tgt := 12) hx hb d_C_mirrored_43 (by decide) ?_
      rw [hK12] at hB
      exact hB _ _ _ hg hw hS (lv_sub hl [2, 3, 1, 4, 0] rfl)

set_option maxHeartbeats 4000000 in
set_option maxRecDepth 100000 in
theorem c_C_renamingCount (l : Launch) (D : va_G) (B : Nat) (x0 : Int32) (σ : St) (Q : Int32 → St → Prop) (h : P_C_renamingCount x0 σ Q) : zM l y_C_renamingCount b_C_renamingCount 1 (some (.int)) (rm_C_renamingCount) D B [.int x0] σ (zQi Q) := by
  refine zM.ofW (own := "LawWorlds$Codes") (by decide +kernel) rfl (Nat.le_of_ble_eq_true rfl) ?_
  intro p e s m args below meth c ls hx hb hml hr hlocks hname hC hwk hw hS hl
  obtain ⟨σ0, eσ⟩ : ∃ z, z = σ := ⟨_, rfl⟩
  have hg : gr σ0 σ := by rw [eσ]; exact gr.rf
  have hl : lv_has ls 1 [(0, .int x0)] := hl
  have hB := h
  rw [← eσ]
  skip
  refine lv_iload_n hx hb d_C_renamingCount_0 rfl (lv_at hl 0 rfl) ?_
  refine lv_iconst (v := nI 3) hx hb d_C_renamingCount_1 (by decide) ?_
  refine lv_icmp_ne (tgt := 10) hx hb d_C_renamingCount_2 (by decide) (fun cd => ?_) (fun cd => ?_)
  · have hB := hB.2 cd
    refine lv_iload_n hx hb d_C_renamingCount_10 rfl (lv_at hl 0 rfl) ?_
    refine lv_iconst (v := nI 2) hx hb d_C_renamingCount_11 (by decide) ?_
    refine lv_icmp_ne (tgt := 19) hx hb d_C_renamingCount_12 (by decide) (fun cd => ?_) (fun cd => ?_)
    · have hB := hB.2 cd
      refine lv_iconst (v := nI 1) hx hb d_C_renamingCount_19 (by decide) ?_
      exact zr_iret hx hb hr hlocks hB hg hw hS d_C_renamingCount_20
    · have hB := hB.1 cd
      refine lv_iconst (v := nI 2) hx hb d_C_renamingCount_15 (by decide) ?_
      refine lv_goto (tgt := 20) hx hb d_C_renamingCount_16 (by decide) ?_
      exact zr_iret hx hb hr hlocks hB hg hw hS d_C_renamingCount_20
  · have hB := hB.1 cd
    refine lv_bipush (v := nI 6) hx hb d_C_renamingCount_5 (by decide) ?_
    refine lv_goto (tgt := 20) hx hb d_C_renamingCount_7 (by decide) ?_
    exact zr_iret hx hb hr hlocks hB hg hw hS d_C_renamingCount_20

set_option maxHeartbeats 4000000 in
set_option maxRecDepth 100000 in
theorem c_I_bitCount (l : Launch) (D : va_G) (B : Nat) (x0 : Int32) (σ : St) (Q : Int32 → St → Prop) (h : P_I_bitCount x0 σ Q) : zM l y_I_bitCount b_I_bitCount 1 (some (.int)) (rm_I_bitCount) D B [.int x0] σ (zQi Q) := by
  refine zM.ofW (own := "java/lang/Integer") (by decide +kernel) rfl (Nat.le_of_ble_eq_true rfl) ?_
  intro p e s m args below meth c ls hx hb hml hr hlocks hname hC hwk hw hS hl
  obtain ⟨σ0, eσ⟩ : ∃ z, z = σ := ⟨_, rfl⟩
  have hg : gr σ0 σ := by rw [eσ]; exact gr.rf
  have hl : lv_has ls 1 [(0, .int x0)] := hl
  have hB := h
  rw [← eσ]
  skip
  refine lv_iload_n hx hb d_I_bitCount_0 rfl (lv_at hl 0 rfl) ?_
  refine lv_iload_n hx hb d_I_bitCount_1 rfl (lv_at hl 0 rfl) ?_
  refine lv_iconst (v := nI 1) hx hb d_I_bitCount_2 (by decide) ?_
  refine zr_iushr hx hb d_I_bitCount_3 ?_
  refine lv_ldcw (v := nI 1431655765) hx hb hC.1 (hC.2.1 _ kc_I_265) d_I_bitCount_4 ?_
  refine lv_iand hx hb d_I_bitCount_7 ?_
  refine lv_isub hx hb d_I_bitCount_8 ?_
  refine lv_istore_n (lv' := [(0, .int (x0 - ((ushr x0 (nI 1)) &&& (nI 1431655765))))]) hx hb d_I_bitCount_9 rfl hl (by decide) rfl (fun ls hl => ?_)
  refine lv_iload_n hx hb d_I_bitCount_10 rfl (lv_at hl 0 rfl) ?_
  refine lv_ldcw (v := nI 858993459) hx hb hC.1 (hC.2.1 _ kc_I_266) d_I_bitCount_11 ?_
  refine lv_iand hx hb d_I_bitCount_14 ?_
  refine lv_iload_n hx hb d_I_bitCount_15 rfl (lv_at hl 0 rfl) ?_
  refine lv_iconst (v := nI 2) hx hb d_I_bitCount_16 (by decide) ?_
  refine zr_iushr hx hb d_I_bitCount_17 ?_
  refine lv_ldcw (v := nI 858993459) hx hb hC.1 (hC.2.1 _ kc_I_266) d_I_bitCount_18 ?_
  refine lv_iand hx hb d_I_bitCount_21 ?_
  refine lv_iadd hx hb d_I_bitCount_22 ?_
  refine lv_istore_n (lv' := [(0, .int (((x0 - ((ushr x0 (nI 1)) &&& (nI 1431655765))) &&& (nI 858993459)) + ((ushr (x0 - ((ushr x0 (nI 1)) &&& (nI 1431655765))) (nI 2)) &&& (nI 858993459))))]) hx hb d_I_bitCount_23 rfl hl (by decide) rfl (fun ls hl => ?_)
  refine lv_iload_n hx hb d_I_bitCount_24 rfl (lv_at hl 0 rfl) ?_
  refine lv_iload_n hx hb d_I_bitCount_25 rfl (lv_at hl 0 rfl) ?_
  refine lv_iconst (v := nI 4) hx hb d_I_bitCount_26 (by decide) ?_
  refine zr_iushr hx hb d_I_bitCount_27 ?_
  refine lv_iadd hx hb d_I_bitCount_28 ?_
  refine lv_ldcw (v := nI 252645135) hx hb hC.1 (hC.2.1 _ kc_I_267) d_I_bitCount_29 ?_
  refine lv_iand hx hb d_I_bitCount_32 ?_
  refine lv_istore_n (lv' := [(0, .int (((((x0 - ((ushr x0 (nI 1)) &&& (nI 1431655765))) &&& (nI 858993459)) + ((ushr (x0 - ((ushr x0 (nI 1)) &&& (nI 1431655765))) (nI 2)) &&& (nI 858993459))) + (ushr (((x0 - ((ushr x0 (nI 1)) &&& (nI 1431655765))) &&& (nI 858993459)) + ((ushr (x0 - ((ushr x0 (nI 1)) &&& (nI 1431655765))) (nI 2)) &&& (nI 858993459))) (nI 4))) &&& (nI 252645135)))]) hx hb d_I_bitCount_33 rfl hl (by decide) rfl (fun ls hl => ?_)
  refine lv_iload_n hx hb d_I_bitCount_34 rfl (lv_at hl 0 rfl) ?_
  refine lv_iload_n hx hb d_I_bitCount_35 rfl (lv_at hl 0 rfl) ?_
  refine lv_bipush (v := nI 8) hx hb d_I_bitCount_36 (by decide) ?_
  refine zr_iushr hx hb d_I_bitCount_38 ?_
  refine lv_iadd hx hb d_I_bitCount_39 ?_
  refine lv_istore_n (lv' := [(0, .int ((((((x0 - ((ushr x0 (nI 1)) &&& (nI 1431655765))) &&& (nI 858993459)) + ((ushr (x0 - ((ushr x0 (nI 1)) &&& (nI 1431655765))) (nI 2)) &&& (nI 858993459))) + (ushr (((x0 - ((ushr x0 (nI 1)) &&& (nI 1431655765))) &&& (nI 858993459)) + ((ushr (x0 - ((ushr x0 (nI 1)) &&& (nI 1431655765))) (nI 2)) &&& (nI 858993459))) (nI 4))) &&& (nI 252645135)) + (ushr (((((x0 - ((ushr x0 (nI 1)) &&& (nI 1431655765))) &&& (nI 858993459)) + ((ushr (x0 - ((ushr x0 (nI 1)) &&& (nI 1431655765))) (nI 2)) &&& (nI 858993459))) + (ushr (((x0 - ((ushr x0 (nI 1)) &&& (nI 1431655765))) &&& (nI 858993459)) + ((ushr (x0 - ((ushr x0 (nI 1)) &&& (nI 1431655765))) (nI 2)) &&& (nI 858993459))) (nI 4))) &&& (nI 252645135)) (nI 8))))]) hx hb d_I_bitCount_40 rfl hl (by decide) rfl (fun ls hl => ?_)
  refine lv_iload_n hx hb d_I_bitCount_41 rfl (lv_at hl 0 rfl) ?_
  refine lv_iload_n hx hb d_I_bitCount_42 rfl (lv_at hl 0 rfl) ?_
  refine lv_bipush (v := nI 16) hx hb d_I_bitCount_43 (by decide) ?_
  refine zr_iushr hx hb d_I_bitCount_45 ?_
  refine lv_iadd hx hb d_I_bitCount_46 ?_
  refine lv_istore_n (lv' := [(0, .int (((((((x0 - ((ushr x0 (nI 1)) &&& (nI 1431655765))) &&& (nI 858993459)) + ((ushr (x0 - ((ushr x0 (nI 1)) &&& (nI 1431655765))) (nI 2)) &&& (nI 858993459))) + (ushr (((x0 - ((ushr x0 (nI 1)) &&& (nI 1431655765))) &&& (nI 858993459)) + ((ushr (x0 - ((ushr x0 (nI 1)) &&& (nI 1431655765))) (nI 2)) &&& (nI 858993459))) (nI 4))) &&& (nI 252645135)) + (ushr (((((x0 - ((ushr x0 (nI 1)) &&& (nI 1431655765))) &&& (nI 858993459)) + ((ushr (x0 - ((ushr x0 (nI 1)) &&& (nI 1431655765))) (nI 2)) &&& (nI 858993459))) + (ushr (((x0 - ((ushr x0 (nI 1)) &&& (nI 1431655765))) &&& (nI 858993459)) + ((ushr (x0 - ((ushr x0 (nI 1)) &&& (nI 1431655765))) (nI 2)) &&& (nI 858993459))) (nI 4))) &&& (nI 252645135)) (nI 8))) + (ushr ((((((x0 - ((ushr x0 (nI 1)) &&& (nI 1431655765))) &&& (nI 858993459)) + ((ushr (x0 - ((ushr x0 (nI 1)) &&& (nI 1431655765))) (nI 2)) &&& (nI 858993459))) + (ushr (((x0 - ((ushr x0 (nI 1)) &&& (nI 1431655765))) &&& (nI 858993459)) + ((ushr (x0 - ((ushr x0 (nI 1)) &&& (nI 1431655765))) (nI 2)) &&& (nI 858993459))) (nI 4))) &&& (nI 252645135)) + (ushr (((((x0 - ((ushr x0 (nI 1)) &&& (nI 1431655765))) &&& (nI 858993459)) + ((ushr (x0 - ((ushr x0 (nI 1)) &&& (nI 1431655765))) (nI 2)) &&& (nI 858993459))) + (ushr (((x0 - ((ushr x0 (nI 1)) &&& (nI 1431655765))) &&& (nI 858993459)) + ((ushr (x0 - ((ushr x0 (nI 1)) &&& (nI 1431655765))) (nI 2)) &&& (nI 858993459))) (nI 4))) &&& (nI 252645135)) (nI 8))) (nI 16))))]) hx hb d_I_bitCount_47 rfl hl (by decide) rfl (fun ls hl => ?_)
  refine lv_iload_n hx hb d_I_bitCount_48 rfl (lv_at hl 0 rfl) ?_
  refine lv_bipush (v := nI 63) hx hb d_I_bitCount_49 (by decide) ?_
  refine lv_iand hx hb d_I_bitCount_51 ?_
  exact zr_iret hx hb hr hlocks hB hg hw hS d_I_bitCount_52

set_option maxHeartbeats 4000000 in
set_option maxRecDepth 100000 in
theorem c_C_plainCode (l : Launch) (D : va_G) (B : Nat) (x0 : Int32) (x1 : Int32) (σ : St) (Q : Int32 → St → Prop) (h : P_C_plainCode x0 x1 σ Q) : zM l y_C_plainCode b_C_plainCode 4 (some (.int)) (rm_C_plainCode) D B [.int x0, .int x1] σ (zQi Q) := by
  refine zM.ofW (own := "LawWorlds$Codes") (by decide +kernel) rfl (Nat.le_of_ble_eq_true rfl) ?_
  intro p e s m args below meth c ls hx hb hml hr hlocks hname hC hwk hw hS hl
  obtain ⟨σ0, eσ⟩ : ∃ z, z = σ := ⟨_, rfl⟩
  have hg : gr σ0 σ := by rw [eσ]; exact gr.rf
  have hl : lv_has ls 4 [(0, .int x0), (1, .int x1)] := hl
  have hB := h
  rw [← eσ]
  skip
  obtain ⟨K4, hK4⟩ : ∃ K : Int32 → Int32 → Int32 → Int32 → St → Prop, K = (fun (x0 : Int32) (x1 : Int32) (x2 : Int32) (x3 : Int32) (σ : St) => ∀ (H : Heap) (locs : List Loc) (ls : Array Slot), gr σ0 σ → wh D B σ s H → va_S (zA B) s.heap H locs → lv_has ls 4 [(0, .int x0), (1, .int x1), (2, .int x2), (3, .int x3)] → W p l e (rm_C_plainCode) s m args below meth c H locs 0 0 (MQ below (zQ D B σ0 (zQi Q)) args s (rm_C_plainCode).cells (rm_C_plainCode).slots (zA B)) (F0 m 4 ls [])) := ⟨_, rfl⟩
  refine (fun hB => ?_) (hB K4 ?_)
  · skip
    refine lv_iload_n hx hb d_C_plainCode_0 rfl (lv_at hl 1 rfl) ?_
    refine lv_istore_n (lv' := [(2, .int x1), (0, .int x0), (1, .int x1)]) hx hb d_C_plainCode_1 rfl hl (by decide) rfl (fun ls hl => ?_)
    refine lv_iconst (v := nI 1) hx hb d_C_plainCode_2 (by decide) ?_
    refine lv_istore_n (lv' := [(3, .int (nI 1)), (2, .int x1), (0, .int x0), (1, .int x1)]) hx hb d_C_plainCode_3 rfl hl (by decide) rfl (fun ls hl => ?_)
    rw [hK4] at hB
    exact hB _ _ _ hg hw hS (lv_sub hl [2, 3, 1, 0] rfl)
  · intro x0 x1 x2 x3 σ hB
    rw [hK4]
    intro H locs ls hg hw hS hl
    refine lv_iload_n hx hb d_C_plainCode_4 rfl (lv_at hl 3 rfl) ?_
    refine lv_iload_n hx hb d_C_plainCode_5 rfl (lv_at hl 0 rfl) ?_
    refine zr_callS (As := [.int x0]) (rest := [.int x3]) hx hb hml hC hwk hw hS hl.1 (c_C_renamingCount l D B x0 σ _ hB) mk_C_renamingCount mt_C_renamingCount ml_C_37 ⟨Nat.le_of_ble_eq_true rfl, Nat.le_of_ble_eq_true rfl⟩ rfl (cat_8 (cat_c rfl cat_n) (Nat.le_of_ble_eq_true rfl)) d_C_plainCode_6 ⟨Nat.le_refl _, Nat.le_refl _⟩ rfl (fun v σ1 H locs hp hgn hw hS => ?_)
    have hg := hg.tr hgn
    obtain ⟨r2, rfl, hB⟩ := hp
    refine W.eq (g2 := F0 m 9 ls [.int r2, .int x3]) rfl ?_
    refine lv_icmp_ge (tgt := 29) hx hb d_C_plainCode_9 (by decide) (fun cd => ?_) (fun cd => ?_)
    · have hB := hB.1 cd
      refine lv_iload_n hx hb d_C_plainCode_29 rfl (lv_at hl 2 rfl) ?_
      exact zr_iret hx hb hr hlocks hB hg hw hS d_C_plainCode_30
    · have hB := hB.2 cd
      refine lv_iload_n hx hb d_C_plainCode_12 rfl (lv_at hl 2 rfl) ?_
      refine lv_iload_n hx hb d_C_plainCode_13 rfl (lv_at hl 0 rfl) ?_
      refine lv_iload_n hx hb d_C_plainCode_14 rfl (lv_at hl 1 rfl) ?_
      refine lv_iload_n hx hb d_C_plainCode_15 rfl (lv_at hl 3 rfl) ?_
      refine zr_callS (As := [.int x0, .int x1, .int x3]) (rest := [.int x2]) hx hb hml hC hwk hw hS hl.1 (c_C_renamed l D B x0 x1 x3 σ1 _ hB) mk_C_renamed mt_C_renamed ml_C_40 ⟨Nat.le_of_ble_eq_true rfl, Nat.le_of_ble_eq_true rfl⟩ rfl (cat_8 (cat_c rfl cat_n) (Nat.le_of_ble_eq_true rfl)) d_C_plainCode_16 ⟨Nat.le_refl _, Nat.le_refl _⟩ rfl (fun v σ3 H locs hp hgn hw hS => ?_)
      have hg := hg.tr hgn
      obtain ⟨r4, rfl, hB⟩ := hp
      refine W.eq (g2 := F0 m 19 ls [.int r4, .int x2]) rfl ?_
      refine zr_min hx hb (hml.trans hl.1.symm) hC ml_C_44 (Nat.le_of_ble_eq_true rfl) (Nat.le_of_ble_eq_true rfl) (cat_8 cat_n (Nat.le_of_ble_eq_true rfl)) (Nat.zero_le _) (Nat.zero_le _) d_C_plainCode_19 ?_
      refine lv_istore_n (lv' := [(2, .int (mn x2 r4)), (0, .int x0), (1, .int x1), (3, .int x3)]) hx hb d_C_plainCode_22 rfl hl (by decide) rfl (fun ls hl => ?_)
      refine lv_iinc (v := x3 + nI 1) (lv' := [(3, .int (x3 + nI 1)), (2, .int (mn x2 r4)), (0, .int x0), (1, .int x1)]) hx hb d_C_plainCode_23 hl (k := 3) rfl rfl (by decide) rfl (fun ls hl => ?_)
      refine lv_goto (tgt := 4) hx hb d_C_plainCode_26 (by decide) ?_
      rw [hK4] at hB
      exact hB _ _ _ hg hw hS (lv_sub hl [2, 3, 1, 0] rfl)

set_option maxHeartbeats 4000000 in
set_option maxRecDepth 100000 in
theorem c_C_alikeCount (l : Launch) (D : va_G) (B : Nat) (x0 : Int32) (x1 : Int32) (σ : St) (Q : Int32 → St → Prop) (h : P_C_alikeCount x0 x1 σ Q) : zM l y_C_alikeCount b_C_alikeCount 4 (some (.int)) (rm_C_alikeCount) D B [.int x0, .int x1] σ (zQi Q) := by
  refine zM.ofW (own := "LawWorlds$Codes") (by decide +kernel) rfl (Nat.le_of_ble_eq_true rfl) ?_
  intro p e s m args below meth c ls hx hb hml hr hlocks hname hC hwk hw hS hl
  obtain ⟨σ0, eσ⟩ : ∃ z, z = σ := ⟨_, rfl⟩
  have hg : gr σ0 σ := by rw [eσ]; exact gr.rf
  have hl : lv_has ls 4 [(0, .int x0), (1, .int x1)] := hl
  have hB := h
  rw [← eσ]
  skip
  obtain ⟨K4, hK4⟩ : ∃ K : Int32 → Int32 → Int32 → Int32 → St → Prop, K = (fun (x0 : Int32) (x1 : Int32) (x2 : Int32) (x3 : Int32) (σ : St) => ∀ (H : Heap) (locs : List Loc) (ls : Array Slot), gr σ0 σ → wh D B σ s H → va_S (zA B) s.heap H locs → lv_has ls 4 [(0, .int x0), (1, .int x1), (2, .int x2), (3, .int x3)] → W p l e (rm_C_alikeCount) s m args below meth c H locs 0 0 (MQ below (zQ D B σ0 (zQi Q)) args s (rm_C_alikeCount).cells (rm_C_alikeCount).slots (zA B)) (F0 m 4 ls [])) := ⟨_, rfl⟩
  refine (fun hB => ?_) (hB K4 ?_)
  · skip
    refine lv_iconst (v := nI 1) hx hb d_C_alikeCount_0 (by decide) ?_
    refine lv_istore_n (lv' := [(2, .int (nI 1)), (0, .int x0), (1, .int x1)]) hx hb d_C_alikeCount_1 rfl hl (by decide) rfl (fun ls hl => ?_)
    refine lv_iconst (v := nI 1) hx hb d_C_alikeCount_2 (by decide) ?_
    refine lv_istore_n (lv' := [(3, .int (nI 1)), (2, .int (nI 1)), (0, .int x0), (1, .int x1)]) hx hb d_C_alikeCount_3 rfl hl (by decide) rfl (fun ls hl => ?_)
    rw [hK4] at hB
    exact hB _ _ _ hg hw hS (lv_sub hl [2, 3, 1, 0] rfl)
  · intro x0 x1 x2 x3 σ hB
    rw [hK4]
    intro H locs ls hg hw hS hl
    refine lv_iload_n hx hb d_C_alikeCount_4 rfl (lv_at hl 3 rfl) ?_
    refine lv_iload_n hx hb d_C_alikeCount_5 rfl (lv_at hl 0 rfl) ?_
    refine zr_callS (As := [.int x0]) (rest := [.int x3]) hx hb hml hC hwk hw hS hl.1 (c_C_renamingCount l D B x0 σ _ hB) mk_C_renamingCount mt_C_renamingCount ml_C_37 ⟨Nat.le_of_ble_eq_true rfl, Nat.le_of_ble_eq_true rfl⟩ rfl (cat_8 (cat_c rfl cat_n) (Nat.le_of_ble_eq_true rfl)) d_C_alikeCount_6 ⟨Nat.le_refl _, Nat.le_refl _⟩ rfl (fun v σ1 H locs hp hgn hw hS => ?_)
    have hg := hg.tr hgn
    obtain ⟨r2, rfl, hB⟩ := hp
    refine W.eq (g2 := F0 m 9 ls [.int r2, .int x3]) rfl ?_
    refine lv_icmp_ge (tgt := 31) hx hb d_C_alikeCount_9 (by decide) (fun cd => ?_) (fun cd => ?_)
    · have hB := hB.1 cd
      refine lv_iload_n hx hb d_C_alikeCount_31 rfl (lv_at hl 2 rfl) ?_
      refine lv_if_ne (tgt := 39) hx hb d_C_alikeCount_32 (by decide) (fun cd => ?_) (fun cd => ?_)
      · have hB := hB.2 cd
        refine lv_iload_n hx hb d_C_alikeCount_39 rfl (lv_at hl 0 rfl) ?_
        refine zr_callS (As := [.int x0]) (rest := []) hx hb hml hC hwk hw hS hl.1 (c_C_renamingCount l D B x0 σ1 _ hB) mk_C_renamingCount mt_C_renamingCount ml_C_37 ⟨Nat.le_of_ble_eq_true rfl, Nat.le_of_ble_eq_true rfl⟩ rfl (cat_8 cat_n (Nat.le_of_ble_eq_true rfl)) d_C_alikeCount_40 ⟨Nat.le_refl _, Nat.le_refl _⟩ rfl (fun v σ3 H locs hp hgn hw hS => ?_)
        have hg := hg.tr hgn
        obtain ⟨r4, rfl, hB⟩ := hp
        refine W.eq (g2 := F0 m 43 ls [.int r4]) rfl ?_
        refine lv_iload_n hx hb d_C_alikeCount_43 rfl (lv_at hl 2 rfl) ?_
        refine lv_idiv hx hb d_C_alikeCount_44 hB.1 ?_
        have hB := hB.2
        exact zr_iret hx hb hr hlocks hB hg hw hS d_C_alikeCount_45
      · have hB := hB.1 cd
        refine lv_iconst (v := nI 0) hx hb d_C_alikeCount_35 (by decide) ?_
        refine lv_goto (tgt := 45) hx hb d_C_alikeCount_36 (by decide) ?_
        exact zr_iret hx hb hr hlocks hB hg hw hS d_C_alikeCount_45
    · have hB := hB.2 cd
      refine lv_iload_n hx hb d_C_alikeCount_12 rfl (lv_at hl 0 rfl) ?_
      refine lv_iload_n hx hb d_C_alikeCount_13 rfl (lv_at hl 1 rfl) ?_
      refine lv_iload_n hx hb d_C_alikeCount_14 rfl (lv_at hl 3 rfl) ?_
      refine zr_callS (As := [.int x0, .int x1, .int x3]) (rest := []) hx hb hml hC hwk hw hS hl.1 (c_C_renamed l D B x0 x1 x3 σ1 _ hB) mk_C_renamed mt_C_renamed ml_C_40 ⟨Nat.le_of_ble_eq_true rfl, Nat.le_of_ble_eq_true rfl⟩ rfl (cat_8 cat_n (Nat.le_of_ble_eq_true rfl)) d_C_alikeCount_15 ⟨Nat.le_refl _, Nat.le_refl _⟩ rfl (fun v σ5 H locs hp hgn hw hS => ?_)
      have hg := hg.tr hgn
      obtain ⟨r6, rfl, hB⟩ := hp
      refine W.eq (g2 := F0 m 18 ls [.int r6]) rfl ?_
      refine lv_iload_n hx hb d_C_alikeCount_18 rfl (lv_at hl 1 rfl) ?_
      refine lv_icmp_ne (tgt := 25) hx hb d_C_alikeCount_19 (by decide) (fun cd => ?_) (fun cd => ?_)
      · have hB := hB.2 cd
        refine lv_iinc (v := x3 + nI 1) (lv' := [(3, .int (x3 + nI 1)), (0, .int x0), (1, .int x1), (2, .int x2)]) hx hb d_C_alikeCount_25 hl (k := 3) rfl rfl (by decide) rfl (fun ls hl => ?_)
        refine lv_goto (tgt := 4) hx hb d_C_alikeCount_28 (by decide) ?_
        rw [hK4] at hB
        exact hB _ _ _ hg hw hS (lv_sub hl [1, 2, 3, 0] rfl)
      · have hB := hB.1 cd
        refine lv_iinc (v := x2 + nI 1) (lv' := [(2, .int (x2 + nI 1)), (0, .int x0), (1, .int x1), (3, .int x3)]) hx hb d_C_alikeCount_22 hl (k := 2) rfl rfl (by decide) rfl (fun ls hl => ?_)
        refine lv_iinc (v := x3 + nI 1) (lv' := [(3, .int (x3 + nI 1)), (2, .int (x2 + nI 1)), (0, .int x0), (1, .int x1)]) hx hb d_C_alikeCount_25 hl (k := 3) rfl rfl (by decide) rfl (fun ls hl => ?_)
        refine lv_goto (tgt := 4) hx hb d_C_alikeCount_28 (by decide) ?_
        rw [hK4] at hB
        exact hB _ _ _ hg hw hS (lv_sub hl [2, 3, 1, 0] rfl)

set_option maxHeartbeats 4000000 in
set_option maxRecDepth 100000 in
theorem c_C_stayingThings (l : Launch) (D : va_G) (B : Nat) (x0 : Int32) (x1 : Int32) (σ : St) (Q : Int32 → St → Prop) (h : P_C_stayingThings x0 x1 σ Q) : zM l y_C_stayingThings b_C_stayingThings 4 (some (.int)) (rm_C_stayingThings) D B [.int x0, .int x1] σ (zQi Q) := by
  refine zM.ofW (own := "LawWorlds$Codes") (by decide +kernel) rfl (Nat.le_of_ble_eq_true rfl) ?_
  intro p e s m args below meth c ls hx hb hml hr hlocks hname hC hwk hw hS hl
  obtain ⟨σ0, eσ⟩ : ∃ z, z = σ := ⟨_, rfl⟩
  have hg : gr σ0 σ := by rw [eσ]; exact gr.rf
  have hl : lv_has ls 4 [(0, .int x0), (1, .int x1)] := hl
  have hB := h
  rw [← eσ]
  skip
  obtain ⟨K4, hK4⟩ : ∃ K : Int32 → Int32 → Int32 → Int32 → St → Prop, K = (fun (x0 : Int32) (x1 : Int32) (x2 : Int32) (x3 : Int32) (σ : St) => ∀ (H : Heap) (locs : List Loc) (ls : Array Slot), gr σ0 σ → wh D B σ s H → va_S (zA B) s.heap H locs → lv_has ls 4 [(0, .int x0), (1, .int x1), (2, .int x2), (3, .int x3)] → W p l e (rm_C_stayingThings) s m args below meth c H locs 0 0 (MQ below (zQ D B σ0 (zQi Q)) args s (rm_C_stayingThings).cells (rm_C_stayingThings).slots (zA B)) (F0 m 4 ls [])) := ⟨_, rfl⟩
  refine (fun hB => ?_) (hB K4 ?_)
  · skip
    refine lv_iconst (v := nI 0) hx hb d_C_stayingThings_0 (by decide) ?_
    refine lv_istore_n (lv' := [(2, .int (nI 0)), (0, .int x0), (1, .int x1)]) hx hb d_C_stayingThings_1 rfl hl (by decide) rfl (fun ls hl => ?_)
    refine lv_iconst (v := nI 0) hx hb d_C_stayingThings_2 (by decide) ?_
    refine lv_istore_n (lv' := [(3, .int (nI 0)), (2, .int (nI 0)), (0, .int x0), (1, .int x1)]) hx hb d_C_stayingThings_3 rfl hl (by decide) rfl (fun ls hl => ?_)
    rw [hK4] at hB
    exact hB _ _ _ hg hw hS (lv_sub hl [2, 3, 1, 0] rfl)
  · intro x0 x1 x2 x3 σ hB
    rw [hK4]
    intro H locs ls hg hw hS hl
    refine lv_iload_n hx hb d_C_stayingThings_4 rfl (lv_at hl 3 rfl) ?_
    refine lv_iload_n hx hb d_C_stayingThings_5 rfl (lv_at hl 0 rfl) ?_
    refine lv_icmp_ge (tgt := 32) hx hb d_C_stayingThings_6 (by decide) (fun cd => ?_) (fun cd => ?_)
    · have hB := hB.1 cd
      refine lv_iload_n hx hb d_C_stayingThings_32 rfl (lv_at hl 2 rfl) ?_
      exact zr_iret hx hb hr hlocks hB hg hw hS d_C_stayingThings_33
    · have hB := hB.2 cd
      refine lv_iload_n hx hb d_C_stayingThings_9 rfl (lv_at hl 0 rfl) ?_
      refine lv_iload_n hx hb d_C_stayingThings_10 rfl (lv_at hl 1 rfl) ?_
      refine lv_iload_n hx hb d_C_stayingThings_11 rfl (lv_at hl 3 rfl) ?_
      refine lv_iload_n hx hb d_C_stayingThings_12 rfl (lv_at hl 3 rfl) ?_
      refine zr_callS (As := [.int x0, .int x1, .int x3, .int x3]) (rest := []) hx hb hml hC hwk hw hS hl.1 (c_C_product l D B x0 x1 x3 x3 σ _ hB) mk_C_product mt_C_product ml_C_33 ⟨Nat.le_of_ble_eq_true rfl, Nat.le_of_ble_eq_true rfl⟩ rfl (cat_8 cat_n (Nat.le_of_ble_eq_true rfl)) d_C_stayingThings_13 ⟨Nat.le_refl _, Nat.le_refl _⟩ rfl (fun v σ1 H locs hp hgn hw hS => ?_)
      have hg := hg.tr hgn
      obtain ⟨r2, rfl, hB⟩ := hp
      refine W.eq (g2 := F0 m 16 ls [.int r2]) rfl ?_
      refine lv_iload_n hx hb d_C_stayingThings_16 rfl (lv_at hl 3 rfl) ?_
      refine lv_icmp_ne (tgt := 26) hx hb d_C_stayingThings_17 (by decide) (fun cd => ?_) (fun cd => ?_)
      · have hB := hB.2 cd
        refine lv_iinc (v := x3 + nI 1) (lv' := [(3, .int (x3 + nI 1)), (0, .int x0), (1, .int x1), (2, .int x2)]) hx hb d_C_stayingThings_26 hl (k := 3) rfl rfl (by decide) rfl (fun ls hl => ?_)
        refine lv_goto (tgt := 4) hx hb d_C_stayingThings_29 (by decide) ?_
        rw [hK4] at hB
        exact hB _ _ _ hg hw hS (lv_sub hl [1, 2, 3, 0] rfl)
      · have hB := hB.1 cd
        refine lv_iload_n hx hb d_C_stayingThings_20 rfl (lv_at hl 2 rfl) ?_
        refine lv_iconst (v := nI 1) hx hb d_C_stayingThings_21 (by decide) ?_
        refine lv_iload_n hx hb d_C_stayingThings_22 rfl (lv_at hl 3 rfl) ?_
        refine zr_ishl hx hb d_C_stayingThings_23 ?_
        refine lv_ior hx hb d_C_stayingThings_24 ?_
        refine lv_istore_n (lv' := [(2, .int (x2 ||| (shl (nI 1) x3))), (0, .int x0), (1, .int x1), (3, .int x3)]) hx hb d_C_stayingThings_25 rfl hl (by decide) rfl (fun ls hl => ?_)
        refine lv_iinc (v := x3 + nI 1) (lv' := [(3, .int (x3 + nI 1)), (2, .int (x2 ||| (shl (nI 1) x3))), (0, .int x0), (1, .int x1)]) hx hb d_C_stayingThings_26 hl (k := 3) rfl rfl (by decide) rfl (fun ls hl => ?_)
        refine lv_goto (tgt := 4) hx hb d_C_stayingThings_29 (by decide) ?_
        rw [hK4] at hB
        exact hB _ _ _ hg hw hS (lv_sub hl [2, 3, 1, 0] rfl)

set_option maxHeartbeats 4000000 in
set_option maxRecDepth 100000 in
theorem c_C_leftLeavers (l : Launch) (D : va_G) (B : Nat) (x0 : Int32) (x1 : Int32) (σ : St) (Q : Int32 → St → Prop) (h : P_C_leftLeavers x0 x1 σ Q) : zM l y_C_leftLeavers b_C_leftLeavers 6 (some (.int)) (rm_C_leftLeavers) D B [.int x0, .int x1] σ (zQi Q) := by
  refine zM.ofW (own := "LawWorlds$Codes") (by decide +kernel) rfl (Nat.le_of_ble_eq_true rfl) ?_
  intro p e s m args below meth c ls hx hb hml hr hlocks hname hC hwk hw hS hl
  obtain ⟨σ0, eσ⟩ : ∃ z, z = σ := ⟨_, rfl⟩
  have hg : gr σ0 σ := by rw [eσ]; exact gr.rf
  have hl : lv_has ls 6 [(0, .int x0), (1, .int x1)] := hl
  have hB := h
  rw [← eσ]
  skip
  obtain ⟨K4, hK4⟩ : ∃ K : Int32 → Int32 → Int32 → Int32 → St → Prop, K = (fun (x0 : Int32) (x1 : Int32) (x2 : Int32) (x3 : Int32) (σ : St) => ∀ (H : Heap) (locs : List Loc) (ls : Array Slot), gr σ0 σ → wh D B σ s H → va_S (zA B) s.heap H locs → lv_has ls 6 [(0, .int x0), (1, .int x1), (2, .int x2), (3, .int x3)] → W p l e (rm_C_leftLeavers) s m args below meth c H locs 0 0 (MQ below (zQ D B σ0 (zQi Q)) args s (rm_C_leftLeavers).cells (rm_C_leftLeavers).slots (zA B)) (F0 m 4 ls [])) := ⟨_, rfl⟩
  obtain ⟨K15, hK15⟩ : ∃ K : Int32 → Int32 → Int32 → Int32 → Int32 → Int32 → St → Prop, K = (fun (x0 : Int32) (x1 : Int32) (x2 : Int32) (x3 : Int32) (x4 : Int32) (x5 : Int32) (σ : St) => ∀ (H : Heap) (locs : List Loc) (ls : Array Slot), gr σ0 σ → wh D B σ s H → va_S (zA B) s.heap H locs → lv_has ls 6 [(0, .int x0), (1, .int x1), (2, .int x2), (3, .int x3), (4, .int x4), (5, .int x5)] → W p l e (rm_C_leftLeavers) s m args below meth c H locs 0 0 (MQ below (zQ D B σ0 (zQi Q)) args s (rm_C_leftLeavers).cells (rm_C_leftLeavers).slots (zA B)) (F0 m 15 ls [])) := ⟨_, rfl⟩
  refine (fun hB => ?_) (hB K4 K15 ?_ ?_)
  · skip
    refine lv_iconst (v := nI 0) hx hb d_C_leftLeavers_0 (by decide) ?_
    refine lv_istore_n (lv' := [(2, .int (nI 0)), (0, .int x0), (1, .int x1)]) hx hb d_C_leftLeavers_1 rfl hl (by decide) rfl (fun ls hl => ?_)
    refine lv_iconst (v := nI 0) hx hb d_C_leftLeavers_2 (by decide) ?_
    refine lv_istore_n (lv' := [(3, .int (nI 0)), (2, .int (nI 0)), (0, .int x0), (1, .int x1)]) hx hb d_C_leftLeavers_3 rfl hl (by decide) rfl (fun ls hl => ?_)
    rw [hK4] at hB
    exact hB _ _ _ hg hw hS (lv_sub hl [2, 3, 1, 0] rfl)
  · intro x0 x1 x2 x3 σ hB
    rw [hK4]
    intro H locs ls hg hw hS hl
    refine lv_iload_n hx hb d_C_leftLeavers_4 rfl (lv_at hl 3 rfl) ?_
    refine lv_iload_n hx hb d_C_leftLeavers_5 rfl (lv_at hl 0 rfl) ?_
    refine lv_icmp_ge (tgt := 61) hx hb d_C_leftLeavers_6 (by decide) (fun cd => ?_) (fun cd => ?_)
    · have hB := hB.1 cd
      refine lv_iload_n hx hb d_C_leftLeavers_61 rfl (lv_at hl 2 rfl) ?_
      exact zr_iret hx hb hr hlocks hB hg hw hS d_C_leftLeavers_62
    · have hB := hB.2 cd
      refine lv_iconst (v := nI 0) hx hb d_C_leftLeavers_9 (by decide) ?_
      refine lv_istore (lv' := [(4, .int (nI 0)), (0, .int x0), (1, .int x1), (2, .int x2), (3, .int x3)]) hx hb d_C_leftLeavers_10 hl (by decide) rfl (fun ls hl => ?_)
      refine lv_iconst (v := nI 0) hx hb d_C_leftLeavers_12 (by decide) ?_
      refine lv_istore (lv' := [(5, .int (nI 0)), (4, .int (nI 0)), (0, .int x0), (1, .int x1), (2, .int x2), (3, .int x3)]) hx hb d_C_leftLeavers_13 hl (by decide) rfl (fun ls hl => ?_)
      rw [hK15] at hB
      exact hB _ _ _ hg hw hS (lv_sub hl [2, 3, 4, 5, 1, 0] rfl)
  · intro x0 x1 x2 x3 x4 x5 σ hB
    rw [hK15]
    intro H locs ls hg hw hS hl
    refine lv_iload hx hb d_C_leftLeavers_15 (lv_at hl 5 rfl) ?_
    refine lv_iload_n hx hb d_C_leftLeavers_17 rfl (lv_at hl 0 rfl) ?_
    refine lv_icmp_ge (tgt := 43) hx hb d_C_leftLeavers_18 (by decide) (fun cd => ?_) (fun cd => ?_)
    · have hB := hB.1 cd
      refine lv_iload hx hb d_C_leftLeavers_43 (lv_at hl 4 rfl) ?_
      refine lv_iload_n hx hb d_C_leftLeavers_45 rfl (lv_at hl 0 rfl) ?_
      refine lv_icmp_ne (tgt := 55) hx hb d_C_leftLeavers_46 (by decide) (fun cd => ?_) (fun cd => ?_)
      · have hB := hB.2 cd
        refine lv_iinc (v := x3 + nI 1) (lv' := [(3, .int (x3 + nI 1)), (0, .int x0), (1, .int x1), (2, .int x2), (4, .int x4), (5, .int x5)]) hx hb d_C_leftLeavers_55 hl (k := 3) rfl rfl (by decide) rfl (fun ls hl => ?_)
        refine lv_goto (tgt := 4) hx hb d_C_leftLeavers_58 (by decide) ?_
        rw [hK4] at hB
        exact hB _ _ _ hg hw hS (lv_sub hl [1, 2, 3, 0] rfl)
      · have hB := hB.1 cd
        refine lv_iload_n hx hb d_C_leftLeavers_49 rfl (lv_at hl 2 rfl) ?_
        refine lv_iconst (v := nI 1) hx hb d_C_leftLeavers_50 (by decide) ?_
        refine lv_iload_n hx hb d_C_leftLeavers_51 rfl (lv_at hl 3 rfl) ?_
        refine zr_ishl hx hb d_C_leftLeavers_52 ?_
        refine lv_ior hx hb d_C_leftLeavers_53 ?_
        refine lv_istore_n (lv' := [(2, .int (x2 ||| (shl (nI 1) x3))), (0, .int x0), (1, .int x1), (3, .int x3), (4, .int x4), (5, .int x5)]) hx hb d_C_leftLeavers_54 rfl hl (by decide) rfl (fun ls hl => ?_)
        refine lv_iinc (v := x3 + nI 1) (lv' := [(3, .int (x3 + nI 1)), (2, .int (x2 ||| (shl (nI 1) x3))), (0, .int x0), (1, .int x1), (4, .int x4), (5, .int x5)]) hx hb d_C_leftLeavers_55 hl (k := 3) rfl rfl (by decide) rfl (fun ls hl => ?_)
        refine lv_goto (tgt := 4) hx hb d_C_leftLeavers_58 (by decide) ?_
        rw [hK4] at hB
        exact hB _ _ _ hg hw hS (lv_sub hl [2, 3, 1, 0] rfl)
    · have hB := hB.2 cd
      refine lv_iload_n hx hb d_C_leftLeavers_21 rfl (lv_at hl 0 rfl) ?_
      refine lv_iload_n hx hb d_C_leftLeavers_22 rfl (lv_at hl 1 rfl) ?_
      refine lv_iload_n hx hb d_C_leftLeavers_23 rfl (lv_at hl 3 rfl) ?_
      refine lv_iload hx hb d_C_leftLeavers_24 (lv_at hl 5 rfl) ?_
      refine zr_callS (As := [.int x0, .int x1, .int x3, .int x5]) (rest := []) hx hb hml hC hwk hw hS hl.1 (c_C_product l D B x0 x1 x3 x5 σ _ hB) mk_C_product mt_C_product ml_C_33 ⟨Nat.le_of_ble_eq_true rfl, Nat.le_of_ble_eq_true rfl⟩ rfl (cat_8 cat_n (Nat.le_of_ble_eq_true rfl)) d_C_leftLeavers_26 ⟨Nat.le_refl _, Nat.le_refl _⟩ rfl (fun v σ1 H locs hp hgn hw hS => ?_)
      have hg := hg.tr hgn
      obtain ⟨r2, rfl, hB⟩ := hp
      refine W.eq (g2 := F0 m 29 ls [.int r2]) rfl ?_
      refine lv_iload hx hb d_C_leftLeavers_29 (lv_at hl 5 rfl) ?_
      refine lv_icmp_ne (tgt := 37) hx hb d_C_leftLeavers_31 (by decide) (fun cd => ?_) (fun cd => ?_)
      · have hB := hB.2 cd
        refine lv_iinc (v := x5 + nI 1) (lv' := [(5, .int (x5 + nI 1)), (0, .int x0), (1, .int x1), (2, .int x2), (3, .int x3), (4, .int x4)]) hx hb d_C_leftLeavers_37 hl (k := 5) rfl rfl (by decide) rfl (fun ls hl => ?_)
        refine lv_goto (tgt := 15) hx hb d_C_leftLeavers_40 (by decide) ?_
        rw [hK15] at hB
        exact hB _ _ _ hg hw hS (lv_sub hl [1, 2, 3, 4, 5, 0] rfl)
      · have hB := hB.1 cd
        refine lv_iinc (v := x4 + nI 1) (lv' := [(4, .int (x4 + nI 1)), (0, .int x0), (1, .int x1), (2, .int x2), (3, .int x3), (5, .int x5)]) hx hb d_C_leftLeavers_34 hl (k := 4) rfl rfl (by decide) rfl (fun ls hl => ?_)
        refine lv_iinc (v := x5 + nI 1) (lv' := [(5, .int (x5 + nI 1)), (4, .int (x4 + nI 1)), (0, .int x0), (1, .int x1), (2, .int x2), (3, .int x3)]) hx hb d_C_leftLeavers_37 hl (k := 5) rfl rfl (by decide) rfl (fun ls hl => ?_)
        refine lv_goto (tgt := 15) hx hb d_C_leftLeavers_40 (by decide) ?_
        rw [hK15] at hB
        exact hB _ _ _ hg hw hS (lv_sub hl [2, 3, 4, 5, 1, 0] rfl)

set_option maxHeartbeats 4000000 in
set_option maxRecDepth 100000 in
theorem c_C_isIn (l : Launch) (D : va_G) (B : Nat) (x0 : Int32) (x1 : Int32) (σ : St) (Q : Int32 → St → Prop) (h : P_C_isIn x0 x1 σ Q) : zM l y_C_isIn b_C_isIn 2 (some (.boolean)) (rm_C_isIn) D B [.int x0, .int x1] σ (zQi Q) := by
  refine zM.ofW (own := "LawWorlds$Codes") (by decide +kernel) rfl (Nat.le_of_ble_eq_true rfl) ?_
  intro p e s m args below meth c ls hx hb hml hr hlocks hname hC hwk hw hS hl
  obtain ⟨σ0, eσ⟩ : ∃ z, z = σ := ⟨_, rfl⟩
  have hg : gr σ0 σ := by rw [eσ]; exact gr.rf
  have hl : lv_has ls 2 [(0, .int x0), (1, .int x1)] := hl
  have hB := h
  rw [← eσ]
  skip
  refine lv_iload_n hx hb d_C_isIn_0 rfl (lv_at hl 0 rfl) ?_
  refine lv_iload_n hx hb d_C_isIn_1 rfl (lv_at hl 1 rfl) ?_
  refine zr_ishr hx hb d_C_isIn_2 ?_
  refine lv_iconst (v := nI 1) hx hb d_C_isIn_3 (by decide) ?_
  refine lv_iand hx hb d_C_isIn_4 ?_
  refine lv_iconst (v := nI 1) hx hb d_C_isIn_5 (by decide) ?_
  refine lv_icmp_ne (tgt := 13) hx hb d_C_isIn_6 (by decide) (fun cd => ?_) (fun cd => ?_)
  · have hB := hB.2 cd
    refine lv_iconst (v := nI 0) hx hb d_C_isIn_13 (by decide) ?_
    exact zr_zret hx hb hr hlocks (Or.inl rfl) hB hg hw hS d_C_isIn_14
  · have hB := hB.1 cd
    refine lv_iconst (v := nI 1) hx hb d_C_isIn_9 (by decide) ?_
    refine lv_goto (tgt := 14) hx hb d_C_isIn_10 (by decide) ?_
    exact zr_zret hx hb hr hlocks (Or.inr rfl) hB hg hw hS d_C_isIn_14

set_option maxHeartbeats 4000000 in
set_option maxRecDepth 100000 in
theorem c_C_withProducts (l : Launch) (D : va_G) (B : Nat) (x0 : Int32) (x1 : Int32) (x2 : Int32) (σ : St) (Q : Int32 → St → Prop) (h : P_C_withProducts x0 x1 x2 σ Q) : zM l y_C_withProducts b_C_withProducts 6 (some (.int)) (rm_C_withProducts) D B [.int x0, .int x1, .int x2] σ (zQi Q) := by
  refine zM.ofW (own := "LawWorlds$Codes") (by decide +kernel) rfl (Nat.le_of_ble_eq_true rfl) ?_
  intro p e s m args below meth c ls hx hb hml hr hlocks hname hC hwk hw hS hl
  obtain ⟨σ0, eσ⟩ : ∃ z, z = σ := ⟨_, rfl⟩
  have hg : gr σ0 σ := by rw [eσ]; exact gr.rf
  have hl : lv_has ls 6 [(0, .int x0), (1, .int x1), (2, .int x2)] := hl
  have hB := h
  rw [← eσ]
  skip
  obtain ⟨K5, hK5⟩ : ∃ K : Int32 → Int32 → Int32 → Int32 → Int32 → St → Prop, K = (fun (x0 : Int32) (x1 : Int32) (x2 : Int32) (x3 : Int32) (x4 : Int32) (σ : St) => ∀ (H : Heap) (locs : List Loc) (ls : Array Slot), gr σ0 σ → wh D B σ s H → va_S (zA B) s.heap H locs → lv_has ls 6 [(0, .int x0), (1, .int x1), (2, .int x2), (3, .int x3), (4, .int x4)] → W p l e (rm_C_withProducts) s m args below meth c H locs 0 0 (MQ below (zQ D B σ0 (zQi Q)) args s (rm_C_withProducts).cells (rm_C_withProducts).slots (zA B)) (F0 m 5 ls [])) := ⟨_, rfl⟩
  obtain ⟨K14, hK14⟩ : ∃ K : Int32 → Int32 → Int32 → Int32 → Int32 → Int32 → St → Prop, K = (fun (x0 : Int32) (x1 : Int32) (x2 : Int32) (x3 : Int32) (x4 : Int32) (x5 : Int32) (σ : St) => ∀ (H : Heap) (locs : List Loc) (ls : Array Slot), gr σ0 σ → wh D B σ s H → va_S (zA B) s.heap H locs → lv_has ls 6 [(0, .int x0), (1, .int x1), (2, .int x2), (3, .int x3), (4, .int x4), (5, .int x5)] → W p l e (rm_C_withProducts) s m args below meth c H locs 0 0 (MQ below (zQ D B σ0 (zQi Q)) args s (rm_C_withProducts).cells (rm_C_withProducts).slots (zA B)) (F0 m 14 ls [])) := ⟨_, rfl⟩
  refine (fun hB => ?_) (hB K5 K14 ?_ ?_)
  · skip
    refine lv_iload_n hx hb d_C_withProducts_0 rfl (lv_at hl 2 rfl) ?_
    refine lv_istore_n (lv' := [(3, .int x2), (0, .int x0), (1, .int x1), (2, .int x2)]) hx hb d_C_withProducts_1 rfl hl (by decide) rfl (fun ls hl => ?_)
    refine lv_iconst (v := nI 0) hx hb d_C_withProducts_2 (by decide) ?_
    refine lv_istore (lv' := [(4, .int (nI 0)), (3, .int x2), (0, .int x0), (1, .int x1), (2, .int x2)]) hx hb d_C_withProducts_3 hl (by decide) rfl (fun ls hl => ?_)
    rw [hK5] at hB
    exact hB _ _ _ hg hw hS (lv_sub hl [2, 3, 4, 1, 0] rfl)
  · intro x0 x1 x2 x3 x4 σ hB
    rw [hK5]
    intro H locs ls hg hw hS hl
    refine lv_iload hx hb d_C_withProducts_5 (lv_at hl 4 rfl) ?_
    refine lv_iload_n hx hb d_C_withProducts_7 rfl (lv_at hl 0 rfl) ?_
    refine lv_icmp_ge (tgt := 64) hx hb d_C_withProducts_8 (by decide) (fun cd => ?_) (fun cd => ?_)
    · have hB := hB.1 cd
      refine lv_iload_n hx hb d_C_withProducts_64 rfl (lv_at hl 3 rfl) ?_
      exact zr_iret hx hb hr hlocks hB hg hw hS d_C_withProducts_65
    · have hB := hB.2 cd
      refine lv_iconst (v := nI 0) hx hb d_C_withProducts_11 (by decide) ?_
      refine lv_istore (lv' := [(5, .int (nI 0)), (0, .int x0), (1, .int x1), (2, .int x2), (3, .int x3), (4, .int x4)]) hx hb d_C_withProducts_12 hl (by decide) rfl (fun ls hl => ?_)
      rw [hK14] at hB
      exact hB _ _ _ hg hw hS (lv_sub hl [1, 2, 3, 4, 5, 0] rfl)
  · intro x0 x1 x2 x3 x4 x5 σ hB
    rw [hK14]
    intro H locs ls hg hw hS hl
    refine lv_iload hx hb d_C_withProducts_14 (lv_at hl 5 rfl) ?_
    refine lv_iload_n hx hb d_C_withProducts_16 rfl (lv_at hl 0 rfl) ?_
    refine lv_icmp_ge (tgt := 58) hx hb d_C_withProducts_17 (by decide) (fun cd => ?_) (fun cd => ?_)
    · have hB := hB.1 cd
      refine lv_iinc (v := x4 + nI 1) (lv' := [(4, .int (x4 + nI 1)), (0, .int x0), (1, .int x1), (2, .int x2), (3, .int x3), (5, .int x5)]) hx hb d_C_withProducts_58 hl (k := 4) rfl rfl (by decide) rfl (fun ls hl => ?_)
      refine lv_goto (tgt := 5) hx hb d_C_withProducts_61 (by decide) ?_
      rw [hK5] at hB
      exact hB _ _ _ hg hw hS (lv_sub hl [1, 2, 3, 4, 0] rfl)
    · have hB := hB.2 cd
      refine lv_iload_n hx hb d_C_withProducts_20 rfl (lv_at hl 2 rfl) ?_
      refine lv_iload hx hb d_C_withProducts_21 (lv_at hl 4 rfl) ?_
      refine zr_callS (As := [.int x2, .int x4]) (rest := []) hx hb hml hC hwk hw hS hl.1 (c_C_isIn l D B x2 x4 σ _ hB) mk_C_isIn mt_C_isIn ml_C_49 ⟨Nat.le_of_ble_eq_true rfl, Nat.le_of_ble_eq_true rfl⟩ rfl (cat_8 cat_n (Nat.le_of_ble_eq_true rfl)) d_C_withProducts_23 ⟨Nat.le_refl _, Nat.le_refl _⟩ rfl (fun v σ1 H locs hp hgn hw hS => ?_)
      have hg := hg.tr hgn
      obtain ⟨r2, rfl, hB⟩ := hp
      refine W.eq (g2 := F0 m 26 ls [.int r2]) rfl ?_
      refine lv_if_eq (tgt := 52) hx hb d_C_withProducts_26 (by decide) (fun cd => ?_) (fun cd => ?_)
      · have hB := hB.1 cd
        refine lv_iinc (v := x5 + nI 1) (lv' := [(5, .int (x5 + nI 1)), (0, .int x0), (1, .int x1), (2, .int x2), (3, .int x3), (4, .int x4)]) hx hb d_C_withProducts_52 hl (k := 5) rfl rfl (by decide) rfl (fun ls hl => ?_)
        refine lv_goto (tgt := 14) hx hb d_C_withProducts_55 (by decide) ?_
        rw [hK14] at hB
        exact hB _ _ _ hg hw hS (lv_sub hl [1, 2, 3, 4, 5, 0] rfl)
      · have hB := hB.2 cd
        refine lv_iload_n hx hb d_C_withProducts_29 rfl (lv_at hl 2 rfl) ?_
        refine lv_iload hx hb d_C_withProducts_30 (lv_at hl 5 rfl) ?_
        refine zr_callS (As := [.int x2, .int x5]) (rest := []) hx hb hml hC hwk hw hS hl.1 (c_C_isIn l D B x2 x5 σ1 _ hB) mk_C_isIn mt_C_isIn ml_C_49 ⟨Nat.le_of_ble_eq_true rfl, Nat.le_of_ble_eq_true rfl⟩ rfl (cat_8 cat_n (Nat.le_of_ble_eq_true rfl)) d_C_withProducts_32 ⟨Nat.le_refl _, Nat.le_refl _⟩ rfl (fun v σ3 H locs hp hgn hw hS => ?_)
        have hg := hg.tr hgn
        obtain ⟨r4, rfl, hB⟩ := hp
        refine W.eq (g2 := F0 m 35 ls [.int r4]) rfl ?_
        refine lv_if_eq (tgt := 52) hx hb d_C_withProducts_35 (by decide) (fun cd => ?_) (fun cd => ?_)
        · have hB := hB.1 cd
          refine lv_iinc (v := x5 + nI 1) (lv' := [(5, .int (x5 + nI 1)), (0, .int x0), (1, .int x1), (2, .int x2), (3, .int x3), (4, .int x4)]) hx hb d_C_withProducts_52 hl (k := 5) rfl rfl (by decide) rfl (fun ls hl => ?_)
          refine lv_goto (tgt := 14) hx hb d_C_withProducts_55 (by decide) ?_
          rw [hK14] at hB
          exact hB _ _ _ hg hw hS (lv_sub hl [1, 2, 3, 4, 5, 0] rfl)
        · have hB := hB.2 cd
          refine lv_iload_n hx hb d_C_withProducts_38 rfl (lv_at hl 3 rfl) ?_
          refine lv_iconst (v := nI 1) hx hb d_C_withProducts_39 (by decide) ?_
          refine lv_iload_n hx hb d_C_withProducts_40 rfl (lv_at hl 0 rfl) ?_
          refine lv_iload_n hx hb d_C_withProducts_41 rfl (lv_at hl 1 rfl) ?_
          refine lv_iload hx hb d_C_withProducts_42 (lv_at hl 4 rfl) ?_
          refine lv_iload hx hb d_C_withProducts_44 (lv_at hl 5 rfl) ?_
          refine zr_callS (As := [.int x0, .int x1, .int x4, .int x5]) (rest := [.int (nI 1), .int x3]) hx hb hml hC hwk hw hS hl.1 (c_C_product l D B x0 x1 x4 x5 σ3 _ hB) mk_C_product mt_C_product ml_C_33 ⟨Nat.le_of_ble_eq_true rfl, Nat.le_of_ble_eq_true rfl⟩ rfl (cat_8 (cat_c rfl (cat_c rfl cat_n)) (Nat.le_of_ble_eq_true rfl)) d_C_withProducts_46 ⟨Nat.le_refl _, Nat.le_refl _⟩ rfl (fun v σ5 H locs hp hgn hw hS => ?_)
          have hg := hg.tr hgn
          obtain ⟨r6, rfl, hB⟩ := hp
          refine W.eq (g2 := F0 m 49 ls [.int r6, .int (nI 1), .int x3]) rfl ?_
          refine zr_ishl hx hb d_C_withProducts_49 ?_
          refine lv_ior hx hb d_C_withProducts_50 ?_
          refine lv_istore_n (lv' := [(3, .int (x3 ||| (shl (nI 1) r6))), (0, .int x0), (1, .int x1), (2, .int x2), (4, .int x4), (5, .int x5)]) hx hb d_C_withProducts_51 rfl hl (by decide) rfl (fun ls hl => ?_)
          refine lv_iinc (v := x5 + nI 1) (lv' := [(5, .int (x5 + nI 1)), (3, .int (x3 ||| (shl (nI 1) r6))), (0, .int x0), (1, .int x1), (2, .int x2), (4, .int x4)]) hx hb d_C_withProducts_52 hl (k := 5) rfl rfl (by decide) rfl (fun ls hl => ?_)
          refine lv_goto (tgt := 14) hx hb d_C_withProducts_55 (by decide) ?_
          rw [hK14] at hB
          exact hB _ _ _ hg hw hS (lv_sub hl [2, 3, 4, 1, 5, 0] rfl)
