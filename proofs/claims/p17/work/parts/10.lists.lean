def wp_X6_forget (σ : io_M) (post : io_M → Prop) : Prop := (∀ s2, s2 = io_up σ 103 1 0 → post s2)
set_option maxHeartbeats 4000000 in
set_option maxRecDepth 100000 in
theorem io_c_X6_forget (l : Launch) (D : va_G) (ca : Nat → ClassId) (ad : Nat → Nat) (A : Nat → Prop) (σ : io_M) (post : io_M → Prop) (hw : wp_X6_forget σ post) : Met l yX6_forget (.code yX6_forget cX6_forget 1 none :: io_tb) (io_rm 0) (va_Pc [.ref (ad 103)] (io_W D ca ad A σ)) (va_Qv post (io_W D ca ad A) A) 0 0 A := by
  refine Met.ofW (cc := cX6_forget) (maxL := 1) (ret := none) (by decide) rfl ?_
  intro p e s m args below meth c s₁ Bd hml hv
  obtain ⟨rfl, hW0⟩ := hv
  have Z := io_Z.start hW0
  have B : CallFix p m c cX6_forget 1 s _ io_tb RX6 := ⟨Bd.exec, Bd.bytes, hml, findClass_of_methodNamed Bd.named, fun w hw => atoms_spec (ws := (.code yX6_forget cX6_forget 1 none :: io_tb)) Bd.pre w (List.mem_cons_of_mem _ hw)⟩
  have hr := Bd.returns
  have hlk := Bd.notSynchronized
  have hl := lv_entry ([.ref (ad 103)]) (n := 1) (Nat.le_of_ble_eq_true rfl)
  rw [lg_entry_eq]
  generalize (lg_sl ([.ref (ad 103)]) ++ List.replicate (1 - (lg_sl ([.ref (ad 103)])).length) Slot.unset).toArray = ls at hl ⊢
  have hl : lv_has ls 1 [(0, .ref (ad 103))] := hl
  show W p l e (io_rm 0) s m _ below meth c s.heap [] 0 0 _ (F0 m 0 ls [])
  unfold wp_X6_forget at hw
  refine lv_aload_n B.1 B.2.1 dX6_forget_0 rfl (lv_at hl 0 rfl) ?_
  refine lv_iconst (v := 0) B.1 B.2.1 dX6_forget_1 (by decide) ?_
  refine io_p_6_1 B Z dX6_forget_2 (fun s2 H locs e3 Z => ?_)
  have hw := hw s2 e3
  exact io_ret_v B Z hr hlk hw dX6_forget_5
def wp_X5_begin (σ : io_M) (j : Nat) (k1 : Nat) (post : io_M → Prop) : Prop := (∀ s2, s2 = io_up σ (40 + j) 1 (nI k1) → (∀ s4, s4 = io_up s2 (40 + j) 2 0 → post s4))
set_option maxHeartbeats 4000000 in
set_option maxRecDepth 100000 in
theorem io_c_X5_begin (l : Launch) (D : va_G) (ca : Nat → ClassId) (ad : Nat → Nat) (A : Nat → Prop) (σ : io_M) (j : Nat) (k1 : Nat) (hj : j < 20) (hk1 : k1 < 20) (post : io_M → Prop) (hw : wp_X5_begin σ j k1 post) : Met l yX5_begin (.code yX5_begin cX5_begin 2 none :: io_tb) (io_rm 0) (va_Pc [.ref (ad (40 + j)), .ref (ad k1)] (io_W D ca ad A σ)) (va_Qv post (io_W D ca ad A) A) 0 0 A := by
  refine Met.ofW (cc := cX5_begin) (maxL := 2) (ret := none) (by decide) rfl ?_
  intro p e s m args below meth c s₁ Bd hml hv
  obtain ⟨rfl, hW0⟩ := hv
  have Z := io_Z.start hW0
  have B : CallFix p m c cX5_begin 2 s _ io_tb RX5 := ⟨Bd.exec, Bd.bytes, hml, findClass_of_methodNamed Bd.named, fun w hw => atoms_spec (ws := (.code yX5_begin cX5_begin 2 none :: io_tb)) Bd.pre w (List.mem_cons_of_mem _ hw)⟩
  have hr := Bd.returns
  have hlk := Bd.notSynchronized
  have hl := lv_entry ([.ref (ad (40 + j)), .ref (ad k1)]) (n := 2) (Nat.le_of_ble_eq_true rfl)
  rw [lg_entry_eq]
  generalize (lg_sl ([.ref (ad (40 + j)), .ref (ad k1)]) ++ List.replicate (2 - (lg_sl ([.ref (ad (40 + j)), .ref (ad k1)])).length) Slot.unset).toArray = ls at hl ⊢
  have hl : lv_has ls 2 [(0, .ref (ad (40 + j))), (1, .ref (ad k1))] := hl
  show W p l e (io_rm 0) s m _ below meth c s.heap [] 0 0 _ (F0 m 0 ls [])
  unfold wp_X5_begin at hw
  refine lv_aload_n B.1 B.2.1 dX5_begin_0 rfl (lv_at hl 0 rfl) ?_
  refine lv_aload_n B.1 B.2.1 dX5_begin_1 rfl (lv_at hl 1 rfl) ?_
  refine io_p_5_1 B Z hj hk1 dX5_begin_2 (fun s2 H locs e3 Z => ?_)
  have hw := hw s2 e3
  refine lv_aload_n B.1 B.2.1 dX5_begin_5 rfl (lv_at hl 0 rfl) ?_
  refine lv_iconst (v := 0) B.1 B.2.1 dX5_begin_6 (by decide) ?_
  refine io_p_5_2 B Z hj dX5_begin_7 (fun s4 H locs e5 Z => ?_)
  have hw := hw s4 e5
  exact io_ret_v B Z hr hlk hw dX5_begin_10
def wp_X6_begin (σ : io_M) (k1 : Nat) (post : Int32 → io_M → Prop) : Prop := ((20 ≤ (σ 103 1) → (wp_X9_turned σ 4 (fun r3 s4 => post r3 s4))) ∧ (¬ (20 ≤ (σ 103 1)) → (wp_X2_becomeHalf σ k1 (fun r5 s6 => ((r5 = 0 → (wp_X9_turned s6 4 (fun r14 s15 => post r14 s15))) ∧ (¬ (r5 = 0) → (vp_in (s6 103 1) 20 ∧ (wp_X5_begin s6 (((s6 103 1)).toNatClampNeg) k1 (fun s11 => (∀ s12, s12 = io_up s11 103 1 ((s11 103 1) + 1) → post ((s12 103 1) - 1) s12))))))))))
set_option maxHeartbeats 4000000 in
set_option maxRecDepth 100000 in
theorem io_c_X6_begin (l : Launch) (D : va_G) (ca : Nat → ClassId) (ad : Nat → Nat) (A : Nat → Prop) (σ : io_M) (k1 : Nat) (hk1 : k1 < 20) (post : Int32 → io_M → Prop) (hw : wp_X6_begin σ k1 post) : Met l yX6_begin (.code yX6_begin cX6_begin 2 (some .int) :: io_tb) (io_rm 1) (va_Pc [.ref (ad 103), .ref (ad k1)] (io_W D ca ad A σ)) (va_Qi post (io_W D ca ad A) A) 0 0 A := by
  refine Met.ofW (cc := cX6_begin) (maxL := 2) (ret := (some .int)) (by decide) rfl ?_
  intro p e s m args below meth c s₁ Bd hml hv
  obtain ⟨rfl, hW0⟩ := hv
  have Z := io_Z.start hW0
  have B : CallFix p m c cX6_begin 2 s _ io_tb RX6 := ⟨Bd.exec, Bd.bytes, hml, findClass_of_methodNamed Bd.named, fun w hw => atoms_spec (ws := (.code yX6_begin cX6_begin 2 (some .int) :: io_tb)) Bd.pre w (List.mem_cons_of_mem _ hw)⟩
  have hr := Bd.returns
  have hlk := Bd.notSynchronized
  have hl := lv_entry ([.ref (ad 103), .ref (ad k1)]) (n := 2) (Nat.le_of_ble_eq_true rfl)
  rw [lg_entry_eq]
  generalize (lg_sl ([.ref (ad 103), .ref (ad k1)]) ++ List.replicate (2 - (lg_sl ([.ref (ad 103), .ref (ad k1)])).length) Slot.unset).toArray = ls at hl ⊢
  have hl : lv_has ls 2 [(0, .ref (ad 103)), (1, .ref (ad k1))] := hl
  show W p l e (io_rm 1) s m _ below meth c s.heap [] 0 0 _ (F0 m 0 ls [])
  unfold wp_X6_begin at hw
  refine lv_aload_n B.1 B.2.1 dX6_begin_0 rfl (lv_at hl 0 rfl) ?_
  refine io_g_6_1 B Z dX6_begin_1 ?_
  refine lv_bipush (v := 20) B.1 B.2.1 dX6_begin_4 (by decide) ?_
  refine lv_icmp_ge (tgt := 16) B.1 B.2.1 dX6_begin_6 (by decide) (fun k2 => ?_) (fun k2 => ?_)
  · have hw := hw.1 k2
    refine lv_iconst (v := 4) B.1 B.2.1 dX6_begin_16 (by decide) ?_
    refine io_call_i Z (io_runN [.int 4] [] B Z (io_c_X9_turned l D ca ad A _ 4 _ hw) io_k_6_32 (io_hR (by decide) (by decide)) rfl hl.1 (Nat.le_of_ble_eq_true rfl) dX6_begin_17 ⟨Nat.le_refl _, Nat.le_refl _⟩) (fun r3 s4 H locs hw Z => ?_)
    exact io_ret_i B Z hr hlk hw dX6_begin_20
  · have hw := hw.2 k2
    refine lv_aload_n B.1 B.2.1 dX6_begin_9 rfl (lv_at hl 1 rfl) ?_
    refine io_call_i Z (io_runV (ci := 2) (k := k1) [] [] B Z (io_c_X2_becomeHalf l D ca ad A _ k1 hk1 _ hw) io_k_6_26 (io_hR (by decide) (by decide)) rfl (Nat.lt_trans hk1 (by decide)) (io_e2 hk1 _) rfl hl.1 (Nat.le_of_ble_eq_true rfl) dX6_begin_10 ⟨Nat.le_refl _, Nat.le_refl _⟩) (fun r5 s6 H locs hw Z => ?_)
    obtain ⟨b7, hw⟩ := hw
    refine lv_if_ne (tgt := 21) B.1 B.2.1 dX6_begin_13 (by decide) (fun k8 => ?_) (fun k8 => ?_)
    · have hw := hw.2 k8
      refine lv_aload_n B.1 B.2.1 dX6_begin_21 rfl (lv_at hl 0 rfl) ?_
      refine io_g_6_0 B Z dX6_begin_22 ?_
      refine lv_aload_n B.1 B.2.1 dX6_begin_25 rfl (lv_at hl 0 rfl) ?_
      refine io_g_6_1 B Z dX6_begin_26 ?_
      have h9 := io_lt hw.1
      refine io_aldL B Z hw.1 dX6_begin_29 ?_
      have hw := hw.2
      refine lv_aload_n B.1 B.2.1 dX6_begin_30 rfl (lv_at hl 1 rfl) ?_
      refine io_call_v Z (io_runV (ci := 5) (k := (40 + ((s6 103 1)).toNatClampNeg)) [.ref (ad k1)] [] B Z (io_c_X5_begin l D ca ad A _ (((s6 103 1)).toNatClampNeg) k1 h9 hk1 _ hw) io_k_6_36 (io_hR (by decide) (by decide)) rfl (by have := h9; omega) (io_e5 h9 _) rfl hl.1 (Nat.le_of_ble_eq_true rfl) dX6_begin_31 ⟨Nat.le_refl _, Nat.le_refl _⟩) (fun s11 H locs hw Z => ?_)
      refine lv_aload_n B.1 B.2.1 dX6_begin_34 rfl (lv_at hl 0 rfl) ?_
      refine lv_dup B.1 B.2.1 dX6_begin_35 rfl ?_
      refine io_g_6_1 B Z dX6_begin_36 ?_
      refine lv_iconst (v := 1) B.1 B.2.1 dX6_begin_39 (by decide) ?_
      refine lv_iadd B.1 B.2.1 dX6_begin_40 ?_
      refine io_p_6_1 B Z dX6_begin_41 (fun s12 H locs e13 Z => ?_)
      have hw := hw s12 e13
      refine lv_aload_n B.1 B.2.1 dX6_begin_44 rfl (lv_at hl 0 rfl) ?_
      refine io_g_6_1 B Z dX6_begin_45 ?_
      refine lv_iconst (v := 1) B.1 B.2.1 dX6_begin_48 (by decide) ?_
      refine lv_isub B.1 B.2.1 dX6_begin_49 ?_
      exact io_ret_i B Z hr hlk hw dX6_begin_50
    · have hw := hw.1 k8
      refine lv_iconst (v := 4) B.1 B.2.1 dX6_begin_16 (by decide) ?_
      refine io_call_i Z (io_runN [.int 4] [] B Z (io_c_X9_turned l D ca ad A _ 4 _ hw) io_k_6_32 (io_hR (by decide) (by decide)) rfl hl.1 (Nat.le_of_ble_eq_true rfl) dX6_begin_17 ⟨Nat.le_refl _, Nat.le_refl _⟩) (fun r14 s15 H locs hw Z => ?_)
      exact io_ret_i B Z hr hlk hw dX6_begin_20
def wp_X5_item (σ : io_M) (j : Nat) (p1 : Int32) (post : Int32 → io_M → Prop) : Prop := (wp_X9_within σ p1 (σ (40 + j) 2) (fun r2 s3 => ((r2 = 0 → post (-1) s3) ∧ (¬ (r2 = 0) → (vp_in p1 40 ∧ post (s3 (20 + (40 + j)) (p1).toNatClampNeg) s3)))))
set_option maxHeartbeats 4000000 in
set_option maxRecDepth 100000 in
theorem io_c_X5_item (l : Launch) (D : va_G) (ca : Nat → ClassId) (ad : Nat → Nat) (A : Nat → Prop) (σ : io_M) (j : Nat) (p1 : Int32) (hj : j < 20) (post : Int32 → io_M → Prop) (hw : wp_X5_item σ j p1 post) : Met l yX5_item (.code yX5_item cX5_item 2 (some .int) :: io_tb) (io_rm 1) (va_Pc [.ref (ad (40 + j)), .int p1] (io_W D ca ad A σ)) (va_Qi post (io_W D ca ad A) A) 0 0 A := by
  refine Met.ofW (cc := cX5_item) (maxL := 2) (ret := (some .int)) (by decide) rfl ?_
  intro p e s m args below meth c s₁ Bd hml hv
  obtain ⟨rfl, hW0⟩ := hv
  have Z := io_Z.start hW0
  have B : CallFix p m c cX5_item 2 s _ io_tb RX5 := ⟨Bd.exec, Bd.bytes, hml, findClass_of_methodNamed Bd.named, fun w hw => atoms_spec (ws := (.code yX5_item cX5_item 2 (some .int) :: io_tb)) Bd.pre w (List.mem_cons_of_mem _ hw)⟩
  have hr := Bd.returns
  have hlk := Bd.notSynchronized
  have hl := lv_entry ([.ref (ad (40 + j)), .int p1]) (n := 2) (Nat.le_of_ble_eq_true rfl)
  rw [lg_entry_eq]
  generalize (lg_sl ([.ref (ad (40 + j)), .int p1]) ++ List.replicate (2 - (lg_sl ([.ref (ad (40 + j)), .int p1])).length) Slot.unset).toArray = ls at hl ⊢
  have hl : lv_has ls 2 [(0, .ref (ad (40 + j))), (1, .int p1)] := hl
  show W p l e (io_rm 1) s m _ below meth c s.heap [] 0 0 _ (F0 m 0 ls [])
  unfold wp_X5_item at hw
  refine lv_iload_n B.1 B.2.1 dX5_item_0 rfl (lv_at hl 1 rfl) ?_
  refine lv_aload_n B.1 B.2.1 dX5_item_1 rfl (lv_at hl 0 rfl) ?_
  refine io_g_5_2 B Z hj dX5_item_2 ?_
  refine io_call_i Z (io_runN [.int p1, .int (σ (40 + j) 2)] [] B Z (io_c_X9_within l D ca ad A _ p1 (σ (40 + j) 2) _ hw) io_k_5_23 (io_hR (by decide) (by decide)) rfl hl.1 (Nat.le_of_ble_eq_true rfl) dX5_item_5 ⟨Nat.le_refl _, Nat.le_refl _⟩) (fun r2 s3 H locs hw Z => ?_)
  obtain ⟨b4, hw⟩ := hw
  refine lv_if_eq (tgt := 20) B.1 B.2.1 dX5_item_8 (by decide) (fun k5 => ?_) (fun k5 => ?_)
  · have hw := hw.1 k5
    refine lv_iconst (v := (-1)) B.1 B.2.1 dX5_item_20 (by decide) ?_
    exact io_ret_i B Z hr hlk hw dX5_item_21
  · have hw := hw.2 k5
    refine lv_aload_n B.1 B.2.1 dX5_item_11 rfl (lv_at hl 0 rfl) ?_
    refine io_g_5_0 B Z hj dX5_item_12 ?_
    refine lv_iload_n B.1 B.2.1 dX5_item_15 rfl (lv_at hl 1 rfl) ?_
    refine io_iald B Z (20 + (40 + j)) (by have := hj; omega) (io_eI hj) hw.1 dX5_item_16 ?_
    have hw := hw.2
    refine lv_goto (tgt := 21) B.1 B.2.1 dX5_item_17 (by decide) ?_
    exact io_ret_i B Z hr hlk hw dX5_item_21
def wp_X5_grow (σ : io_M) (j : Nat) (post : Int32 → io_M → Prop) : Prop := ((σ (40 + j) 1 < 0 → post 0 σ) ∧ (¬ (σ (40 + j) 1 < 0) → (σ (40 + j) 1).toNatClampNeg < 20 ∧ (wp_X2_isHalf σ ((σ (40 + j) 1).toNatClampNeg) (fun r4 s5 => ((r4 = 0 → post 0 s5) ∧ (¬ (r4 = 0) → ((s5 (40 + j) 1 < 0 → False) ∧ (¬ (s5 (40 + j) 1 < 0) → (s5 (40 + j) 1).toNatClampNeg < 20 ∧ (wp_X2_nextByte s5 ((s5 (40 + j) 1).toNatClampNeg) (fun r10 s11 => ((r10 = (-1) → ((s11 (40 + j) 1 < 0 → False) ∧ (¬ (s11 (40 + j) 1 < 0) → (s11 (40 + j) 1).toNatClampNeg < 20 ∧ (wp_X2_endReading s11 ((s11 (40 + j) 1).toNatClampNeg) (fun s16 => post 0 s16))))) ∧ (¬ (r10 = (-1)) → (((s11 (40 + j) 2) < 40 → (vp_in (s11 (40 + j) 2) 40 ∧ ∀ s18, s18 = io_up s11 (20 + (40 + j)) ((s11 (40 + j) 2)).toNatClampNeg (r10) → (∀ s20, s20 = io_up s18 (40 + j) 2 ((s18 (40 + j) 2) + 1) → post 1 s20))) ∧ (¬ ((s11 (40 + j) 2) < 40) → ((s11 (40 + j) 1 < 0 → False) ∧ (¬ (s11 (40 + j) 1 < 0) → (s11 (40 + j) 1).toNatClampNeg < 20 ∧ (wp_X2_endReading s11 ((s11 (40 + j) 1).toNatClampNeg) (fun s25 => post 0 s25))))))))))))))))))
set_option maxHeartbeats 4000000 in
set_option maxRecDepth 100000 in
theorem io_c_X5_grow (l : Launch) (D : va_G) (ca : Nat → ClassId) (ad : Nat → Nat) (A : Nat → Prop) (σ : io_M) (j : Nat) (hj : j < 20) (post : Int32 → io_M → Prop) (hw : wp_X5_grow σ j post) : Met l yX5_grow (.code yX5_grow cX5_grow 2 (some .boolean) :: io_tb) (io_rm 2) (va_Pc [.ref (ad (40 + j))] (io_W D ca ad A σ)) (va_Qi (fun r u => io_bl r ∧ post r u) (io_W D ca ad A) A) 0 0 A := by
  refine Met.ofW (cc := cX5_grow) (maxL := 2) (ret := (some .boolean)) (by decide) rfl ?_
  intro p e s m args below meth c s₁ Bd hml hv
  obtain ⟨rfl, hW0⟩ := hv
  have Z := io_Z.start hW0
  have B : CallFix p m c cX5_grow 2 s _ io_tb RX5 := ⟨Bd.exec, Bd.bytes, hml, findClass_of_methodNamed Bd.named, fun w hw => atoms_spec (ws := (.code yX5_grow cX5_grow 2 (some .boolean) :: io_tb)) Bd.pre w (List.mem_cons_of_mem _ hw)⟩
  have hr := Bd.returns
  have hlk := Bd.notSynchronized
  have hl := lv_entry ([.ref (ad (40 + j))]) (n := 2) (Nat.le_of_ble_eq_true rfl)
  rw [lg_entry_eq]
  generalize (lg_sl ([.ref (ad (40 + j))]) ++ List.replicate (2 - (lg_sl ([.ref (ad (40 + j))])).length) Slot.unset).toArray = ls at hl ⊢
  have hl : lv_has ls 2 [(0, .ref (ad (40 + j)))] := hl
  show W p l e (io_rm 2) s m _ below meth c s.heap [] 0 0 _ (F0 m 0 ls [])
  unfold wp_X5_grow at hw
  refine lv_aload_n B.1 B.2.1 dX5_grow_0 rfl (lv_at hl 0 rfl) ?_
  refine io_g_5_1 B Z hj dX5_grow_1 ?_
  rcases Classical.em (σ (40 + j) 1 < 0) with k2 | k2
  · have hw := hw.1 k2
    rw [io_src_neg k2]
    show W _ _ _ _ _ _ _ _ _ _ _ _ _ _ _ (F0 _ _ _ (Value.null :: _))
    refine lv_ifnullN (tgt := 17) B.1 B.2.1 dX5_grow_4 (by decide) ?_
    refine lv_iconst (v := 0) B.1 B.2.1 dX5_grow_17 (by decide) ?_
    exact io_ret_z B Z hr hlk (Or.inl rfl) hw dX5_grow_18
  · obtain ⟨h3, hw⟩ := hw.2 k2
    rw [io_src_pos k2]
    show W _ _ _ _ _ _ _ _ _ _ _ _ _ _ _ (F0 _ _ _ (Value.ref _ :: _))
    refine lv_ifnull B.1 B.2.1 dX5_grow_4 ?_
    refine lv_aload_n B.1 B.2.1 dX5_grow_7 rfl (lv_at hl 0 rfl) ?_
    refine io_g_5_1 B Z hj dX5_grow_8 ?_
    rw [io_src_pos k2]
    show W _ _ _ _ _ _ _ _ _ _ _ _ _ _ _ (F0 _ _ _ (Value.ref _ :: _))
    refine io_call_i Z (io_runV (ci := 2) (k := (σ (40 + j) 1).toNatClampNeg) [] [] B Z (io_c_X2_isHalf l D ca ad A _ ((σ (40 + j) 1).toNatClampNeg) h3 _ hw) io_k_5_37 (io_hR (by decide) (by decide)) rfl (Nat.lt_trans h3 (by decide)) (io_e2 h3 _) rfl hl.1 (Nat.le_of_ble_eq_true rfl) dX5_grow_11 ⟨Nat.le_refl _, Nat.le_refl _⟩) (fun r4 s5 H locs hw Z => ?_)
    obtain ⟨b6, hw⟩ := hw
    refine lv_if_ne (tgt := 19) B.1 B.2.1 dX5_grow_14 (by decide) (fun k7 => ?_) (fun k7 => ?_)
    · have hw := hw.2 k7
      refine lv_aload_n B.1 B.2.1 dX5_grow_19 rfl (lv_at hl 0 rfl) ?_
      refine io_g_5_1 B Z hj dX5_grow_20 ?_
      rcases Classical.em (s5 (40 + j) 1 < 0) with k8 | k8
      · have hw := hw.1 k8
        rw [io_src_neg k8]
        show W _ _ _ _ _ _ _ _ _ _ _ _ _ _ _ (F0 _ _ _ (Value.null :: _))
        exact hw.elim
      · obtain ⟨h9, hw⟩ := hw.2 k8
        rw [io_src_pos k8]
        show W _ _ _ _ _ _ _ _ _ _ _ _ _ _ _ (F0 _ _ _ (Value.ref _ :: _))
        refine io_call_i Z (io_runV (ci := 2) (k := (s5 (40 + j) 1).toNatClampNeg) [] [] B Z (io_c_X2_nextByte l D ca ad A _ ((s5 (40 + j) 1).toNatClampNeg) h9 _ hw) io_k_5_42 (io_hR (by decide) (by decide)) rfl (Nat.lt_trans h9 (by decide)) (io_e2 h9 _) rfl hl.1 (Nat.le_of_ble_eq_true rfl) dX5_grow_23 ⟨Nat.le_refl _, Nat.le_refl _⟩) (fun r10 s11 H locs hw Z => ?_)
        refine lv_istore_n (lv' := [(1, .int r10), (0, .ref (ad (40 + j)))]) B.1 B.2.1 dX5_grow_26 rfl hl (by decide) rfl (fun ls hl => ?_)
        refine lv_iload_n B.1 B.2.1 dX5_grow_27 rfl (lv_at hl 0 rfl) ?_
        refine lv_iconst (v := (-1)) B.1 B.2.1 dX5_grow_28 (by decide) ?_
        refine lv_icmp_eq (tgt := 41) B.1 B.2.1 dX5_grow_29 (by decide) (fun k12 => ?_) (fun k12 => ?_)
        · have hw := hw.1 k12
          refine lv_aload_n B.1 B.2.1 dX5_grow_41 rfl (lv_at hl 1 rfl) ?_
          refine io_g_5_1 B Z hj dX5_grow_42 ?_
          rcases Classical.em (s11 (40 + j) 1 < 0) with k13 | k13
          · have hw := hw.1 k13
            rw [io_src_neg k13]
            show W _ _ _ _ _ _ _ _ _ _ _ _ _ _ _ (F0 _ _ _ (Value.null :: _))
            exact hw.elim
          · obtain ⟨h14, hw⟩ := hw.2 k13
            rw [io_src_pos k13]
            show W _ _ _ _ _ _ _ _ _ _ _ _ _ _ _ (F0 _ _ _ (Value.ref _ :: _))
            refine io_call_v Z (io_runV (ci := 2) (k := (s11 (40 + j) 1).toNatClampNeg) [] [] B Z (io_c_X2_endReading l D ca ad A _ ((s11 (40 + j) 1).toNatClampNeg) h14 _ hw) io_k_5_46 (io_hR (by decide) (by decide)) rfl (Nat.lt_trans h14 (by decide)) (io_e2 h14 _) rfl hl.1 (Nat.le_of_ble_eq_true rfl) dX5_grow_45 ⟨Nat.le_refl _, Nat.le_refl _⟩) (fun s16 H locs hw Z => ?_)
            refine lv_iconst (v := 0) B.1 B.2.1 dX5_grow_48 (by decide) ?_
            exact io_ret_z B Z hr hlk (Or.inl rfl) hw dX5_grow_49
        · have hw := hw.2 k12
          refine lv_aload_n B.1 B.2.1 dX5_grow_32 rfl (lv_at hl 1 rfl) ?_
          refine io_g_5_2 B Z hj dX5_grow_33 ?_
          refine lv_bipush (v := 40) B.1 B.2.1 dX5_grow_36 (by decide) ?_
          refine lv_icmp_lt (tgt := 50) B.1 B.2.1 dX5_grow_38 (by decide) (fun k17 => ?_) (fun k17 => ?_)
          · have hw := hw.1 k17
            refine lv_aload_n B.1 B.2.1 dX5_grow_50 rfl (lv_at hl 1 rfl) ?_
            refine io_g_5_0 B Z hj dX5_grow_51 ?_
            refine lv_aload_n B.1 B.2.1 dX5_grow_54 rfl (lv_at hl 1 rfl) ?_
            refine io_g_5_2 B Z hj dX5_grow_55 ?_
            refine lv_iload_n B.1 B.2.1 dX5_grow_58 rfl (lv_at hl 0 rfl) ?_
            refine io_iast B Z (20 + (40 + j)) (by have := hj; omega) (io_eI hj) hw.1 dX5_grow_59 (fun s18 H locs e19 Z => ?_)
            have hw := hw.2 s18 e19
            refine lv_aload_n B.1 B.2.1 dX5_grow_60 rfl (lv_at hl 1 rfl) ?_
            refine lv_dup B.1 B.2.1 dX5_grow_61 rfl ?_
            refine io_g_5_2 B Z hj dX5_grow_62 ?_
            refine lv_iconst (v := 1) B.1 B.2.1 dX5_grow_65 (by decide) ?_
            refine lv_iadd B.1 B.2.1 dX5_grow_66 ?_
            refine io_p_5_2 B Z hj dX5_grow_67 (fun s20 H locs e21 Z => ?_)
            have hw := hw s20 e21
            refine lv_iconst (v := 1) B.1 B.2.1 dX5_grow_70 (by decide) ?_
            exact io_ret_z B Z hr hlk (Or.inr rfl) hw dX5_grow_71
          · have hw := hw.2 k17
            refine lv_aload_n B.1 B.2.1 dX5_grow_41 rfl (lv_at hl 1 rfl) ?_
            refine io_g_5_1 B Z hj dX5_grow_42 ?_
            rcases Classical.em (s11 (40 + j) 1 < 0) with k22 | k22
            · have hw := hw.1 k22
              rw [io_src_neg k22]
              show W _ _ _ _ _ _ _ _ _ _ _ _ _ _ _ (F0 _ _ _ (Value.null :: _))
              exact hw.elim
            · obtain ⟨h23, hw⟩ := hw.2 k22
              rw [io_src_pos k22]
              show W _ _ _ _ _ _ _ _ _ _ _ _ _ _ _ (F0 _ _ _ (Value.ref _ :: _))
              refine io_call_v Z (io_runV (ci := 2) (k := (s11 (40 + j) 1).toNatClampNeg) [] [] B Z (io_c_X2_endReading l D ca ad A _ ((s11 (40 + j) 1).toNatClampNeg) h23 _ hw) io_k_5_46 (io_hR (by decide) (by decide)) rfl (Nat.lt_trans h23 (by decide)) (io_e2 h23 _) rfl hl.1 (Nat.le_of_ble_eq_true rfl) dX5_grow_45 ⟨Nat.le_refl _, Nat.le_refl _⟩) (fun s25 H locs hw Z => ?_)
              refine lv_iconst (v := 0) B.1 B.2.1 dX5_grow_48 (by decide) ?_
              exact io_ret_z B Z hr hlk (Or.inl rfl) hw dX5_grow_49
    · have hw := hw.1 k7
      refine lv_iconst (v := 0) B.1 B.2.1 dX5_grow_17 (by decide) ?_
      exact io_ret_z B Z hr hlk (Or.inl rfl) hw dX5_grow_18
def wl_X5_reach_18 : Nat → Nat → io_M → Int32 → Int32 → Int32 → Int32 → (Int32 → io_M → Prop) → Prop
  | 0, _, _, _, _, _, _, _ => False
  | n + 1, j, σ, x2, x3, x4, x5, post => ((x4 = 0 → post ((σ (40 + j) 2) - x2) σ) ∧ (¬ (x4 = 0) → ((x3 < x5 → post ((σ (40 + j) 2) - x2) σ) ∧ (¬ (x3 < x5) → (wp_X5_grow σ j (fun r103 s104 => wl_X5_reach_18 n j s104 x2 x3 r103 (x5 + 1) post))))))
def wp_X5_reach (σ : io_M) (j : Nat) (p1 : Int32) (post : Int32 → io_M → Prop) : Prop := (∃ n, wl_X5_reach_18 n j σ (σ (40 + j) 2) (if 40 < p1 then 40 else p1) 1 (σ (40 + j) 2) post)
set_option maxHeartbeats 4000000 in
set_option maxRecDepth 100000 in
theorem io_c_X5_reach (l : Launch) (D : va_G) (ca : Nat → ClassId) (ad : Nat → Nat) (A : Nat → Prop) (σ : io_M) (j : Nat) (p1 : Int32) (hj : j < 20) (post : Int32 → io_M → Prop) (hw : wp_X5_reach σ j p1 post) : Met l yX5_reach (.code yX5_reach cX5_reach 6 (some .int) :: io_tb) (io_rm 3) (va_Pc [.ref (ad (40 + j)), .int p1] (io_W D ca ad A σ)) (va_Qi post (io_W D ca ad A) A) 0 0 A := by
  refine Met.ofW (cc := cX5_reach) (maxL := 6) (ret := (some .int)) (by decide) rfl ?_
  intro p e s m args below meth c s₁ Bd hml hv
  obtain ⟨rfl, hW0⟩ := hv
  have Z := io_Z.start hW0
  have B : CallFix p m c cX5_reach 6 s _ io_tb RX5 := ⟨Bd.exec, Bd.bytes, hml, findClass_of_methodNamed Bd.named, fun w hw => atoms_spec (ws := (.code yX5_reach cX5_reach 6 (some .int) :: io_tb)) Bd.pre w (List.mem_cons_of_mem _ hw)⟩
  have hr := Bd.returns
  have hlk := Bd.notSynchronized
  have hl := lv_entry ([.ref (ad (40 + j)), .int p1]) (n := 6) (Nat.le_of_ble_eq_true rfl)
  rw [lg_entry_eq]
  generalize (lg_sl ([.ref (ad (40 + j)), .int p1]) ++ List.replicate (6 - (lg_sl ([.ref (ad (40 + j)), .int p1])).length) Slot.unset).toArray = ls at hl ⊢
  have hl : lv_has ls 6 [(0, .ref (ad (40 + j))), (1, .int p1)] := hl
  show W p l e (io_rm 3) s m _ below meth c s.heap [] 0 0 _ (F0 m 0 ls [])
  have LP18 : ∀ (n : Nat) (σ : io_M) (x2 : Int32) (x3 : Int32) (x4 : Int32) (x5 : Int32), wl_X5_reach_18 n j σ x2 x3 x4 x5 post → ∀ (H : Heap) (locs : List Loc), io_Z D ca ad A s H locs σ → ∀ ls : Array Slot, lv_has ls 6 [(0, .ref (ad (40 + j))), (2, .int x2), (3, .int x3), (4, .int x4), (5, .int x5)] → W p l e (io_rm 3) s m ([.ref (ad (40 + j)), .int p1] : List Value).toArray below meth c H locs 0 0 (MQ below (va_Qi post (io_W D ca ad A) A) ([.ref (ad (40 + j)), .int p1] : List Value).toArray s 0 0 A) (F0 m 18 ls []) := by
    intro n
    induction n with
    | zero =>
      intro σ x2 x3 x4 x5 hw
      exact hw.elim
    | succ n IH18 =>
      intro σ x2 x3 x4 x5 hw H locs Z ls hl
      unfold wl_X5_reach_18 at hw
      refine lv_iload B.1 B.2.1 dX5_reach_18 (lv_at hl 3 rfl) ?_
      refine lv_if_eq (tgt := 41) B.1 B.2.1 dX5_reach_20 (by decide) (fun k101 => ?_) (fun k101 => ?_)
      · have hw := hw.1 k101
        refine lv_aload_n B.1 B.2.1 dX5_reach_41 rfl (lv_at hl 0 rfl) ?_
        refine io_g_5_2 B Z hj dX5_reach_42 ?_
        refine lv_iload_n B.1 B.2.1 dX5_reach_45 rfl (lv_at hl 1 rfl) ?_
        refine lv_isub B.1 B.2.1 dX5_reach_46 ?_
        exact io_ret_i B Z hr hlk hw dX5_reach_47
      · have hw := hw.2 k101
        refine lv_iload B.1 B.2.1 dX5_reach_23 (lv_at hl 4 rfl) ?_
        refine lv_iload_n B.1 B.2.1 dX5_reach_25 rfl (lv_at hl 2 rfl) ?_
        refine lv_icmp_gt (tgt := 41) B.1 B.2.1 dX5_reach_26 (by decide) (fun k102 => ?_) (fun k102 => ?_)
        · have hw := hw.1 k102
          refine lv_aload_n B.1 B.2.1 dX5_reach_41 rfl (lv_at hl 0 rfl) ?_
          refine io_g_5_2 B Z hj dX5_reach_42 ?_
          refine lv_iload_n B.1 B.2.1 dX5_reach_45 rfl (lv_at hl 1 rfl) ?_
          refine lv_isub B.1 B.2.1 dX5_reach_46 ?_
          exact io_ret_i B Z hr hlk hw dX5_reach_47
        · have hw := hw.2 k102
          refine lv_aload_n B.1 B.2.1 dX5_reach_29 rfl (lv_at hl 0 rfl) ?_
          refine io_call_i Z (io_runV (ci := 5) (k := (40 + j)) [] [] B Z (io_c_X5_grow l D ca ad A _ j hj _ hw) io_k_5_33 (io_hR (by decide) (by decide)) rfl (by have := hj; omega) (io_e5 hj _) rfl hl.1 (Nat.le_of_ble_eq_true rfl) dX5_reach_30 ⟨Nat.le_refl _, Nat.le_refl _⟩) (fun r103 s104 H locs hw Z => ?_)
          obtain ⟨b105, hw⟩ := hw
          refine lv_istore (lv' := [(4, .int r103), (0, .ref (ad (40 + j))), (2, .int x2), (3, .int x3), (5, .int x5)]) B.1 B.2.1 dX5_reach_33 hl (by decide) rfl (fun ls hl => ?_)
          refine lv_iinc (v := (x5 + 1)) (lv' := [(5, .int (x5 + 1)), (4, .int r103), (0, .ref (ad (40 + j))), (2, .int x2), (3, .int x3)]) B.1 B.2.1 dX5_reach_35 hl (k := 4) rfl rfl (by decide) rfl (fun ls hl => ?_)
          refine lv_goto (tgt := 18) B.1 B.2.1 dX5_reach_38 (by decide) ?_
          exact IH18 _ x2 x3 r103 (x5 + 1) hw _ _ Z _ (lv_sub (l' := [(0, .ref (ad (40 + j))), (2, .int x2), (3, .int x3), (4, .int r103), (5, .int (x5 + 1))]) hl [2, 3, 4, 1, 0] rfl)
  unfold wp_X5_reach at hw
  refine lv_aload_n B.1 B.2.1 dX5_reach_0 rfl (lv_at hl 0 rfl) ?_
  refine io_g_5_2 B Z hj dX5_reach_1 ?_
  refine lv_istore_n (lv' := [(2, .int (σ (40 + j) 2)), (0, .ref (ad (40 + j))), (1, .int p1)]) B.1 B.2.1 dX5_reach_4 rfl hl (by decide) rfl (fun ls hl => ?_)
  refine lv_iload_n B.1 B.2.1 dX5_reach_5 rfl (lv_at hl 2 rfl) ?_
  refine lv_bipush (v := 40) B.1 B.2.1 dX5_reach_6 (by decide) ?_
  refine va_mmin B.1 B.2.1 (B.2.2.1.trans hl.1.symm) B.2.2.2.1 (B.2.2.2.2 _ (io_of 550 (by decide +kernel) (by decide +kernel))) (B.2.2.2.2 _ (io_of 551 (by decide +kernel) (by decide +kernel))) (B.2.2.2.2 _ (io_of 77 (by decide +kernel) (by decide +kernel))) (B.2.2.2.2 _ (io_of 552 (by decide +kernel) (by decide +kernel))) (by simp only [io_rm]; omega) (Nat.le_trans (m := 40) (Nat.le_of_ble_eq_true rfl) (by simp only [io_rm]; omega)) (Nat.le_refl _) (Nat.le_refl _) dX5_reach_8 ?_
  refine lv_istore_n (lv' := [(3, .int (if 40 < p1 then 40 else p1)), (2, .int (σ (40 + j) 2)), (0, .ref (ad (40 + j))), (1, .int p1)]) B.1 B.2.1 dX5_reach_11 rfl hl (by decide) rfl (fun ls hl => ?_)
  refine lv_iconst (v := 1) B.1 B.2.1 dX5_reach_12 (by decide) ?_
  refine lv_istore (lv' := [(4, .int 1), (3, .int (if 40 < p1 then 40 else p1)), (2, .int (σ (40 + j) 2)), (0, .ref (ad (40 + j))), (1, .int p1)]) B.1 B.2.1 dX5_reach_13 hl (by decide) rfl (fun ls hl => ?_)
  refine lv_iload_n B.1 B.2.1 dX5_reach_15 rfl (lv_at hl 2 rfl) ?_
  refine lv_istore (lv' := [(5, .int (σ (40 + j) 2)), (4, .int 1), (3, .int (if 40 < p1 then 40 else p1)), (2, .int (σ (40 + j) 2)), (0, .ref (ad (40 + j))), (1, .int p1)]) B.1 B.2.1 dX5_reach_16 hl (by decide) rfl (fun ls hl => ?_)
  obtain ⟨n, hw⟩ := hw
  exact LP18 n _ (σ (40 + j) 2) (if 40 < p1 then 40 else p1) 1 (σ (40 + j) 2) hw _ _ Z _ (lv_sub (l' := [(0, .ref (ad (40 + j))), (2, .int (σ (40 + j) 2)), (3, .int (if 40 < p1 then 40 else p1)), (4, .int 1), (5, .int (σ (40 + j) 2))]) hl [4, 3, 2, 1, 0] rfl)
def wp_X6_pick (σ : io_M) (p1 : Int32) (post : Option Nat → io_M → Prop) : Prop := (wp_X9_within σ p1 (σ 103 1) (fun r2 s3 => ((r2 = 0 → post none s3) ∧ (¬ (r2 = 0) → (vp_in p1 20 ∧ (post (some ((p1).toNatClampNeg)) s3))))))
set_option maxHeartbeats 4000000 in
set_option maxRecDepth 100000 in
theorem io_c_X6_pick (l : Launch) (D : va_G) (ca : Nat → ClassId) (ad : Nat → Nat) (A : Nat → Prop) (σ : io_M) (p1 : Int32) (post : Option Nat → io_M → Prop) (hw : wp_X6_pick σ p1 post) : Met l yX6_pick (.code yX6_pick cX6_pick 2 (some (.object "InputOutput$LazyList")) :: io_tb) (io_rm 1) (va_Pc [.ref (ad 103), .int p1] (io_W D ca ad A σ)) (va_Qq (fun r u => ∃ o : Option Nat, r = o.map (fun i => ad (40 + i)) ∧ (∀ i, o = some i → i < 20) ∧ post o u) (io_W D ca ad A) A) 0 0 A := by
  refine Met.ofW (cc := cX6_pick) (maxL := 2) (ret := (some (.object "InputOutput$LazyList"))) (by decide) rfl ?_
  intro p e s m args below meth c s₁ Bd hml hv
  obtain ⟨rfl, hW0⟩ := hv
  have Z := io_Z.start hW0
  have B : CallFix p m c cX6_pick 2 s _ io_tb RX6 := ⟨Bd.exec, Bd.bytes, hml, findClass_of_methodNamed Bd.named, fun w hw => atoms_spec (ws := (.code yX6_pick cX6_pick 2 (some (.object "InputOutput$LazyList")) :: io_tb)) Bd.pre w (List.mem_cons_of_mem _ hw)⟩
  have hr := Bd.returns
  have hlk := Bd.notSynchronized
  have hl := lv_entry ([.ref (ad 103), .int p1]) (n := 2) (Nat.le_of_ble_eq_true rfl)
  rw [lg_entry_eq]
  generalize (lg_sl ([.ref (ad 103), .int p1]) ++ List.replicate (2 - (lg_sl ([.ref (ad 103), .int p1])).length) Slot.unset).toArray = ls at hl ⊢
  have hl : lv_has ls 2 [(0, .ref (ad 103)), (1, .int p1)] := hl
  show W p l e (io_rm 1) s m _ below meth c s.heap [] 0 0 _ (F0 m 0 ls [])
  unfold wp_X6_pick at hw
  refine lv_iload_n B.1 B.2.1 dX6_pick_0 rfl (lv_at hl 1 rfl) ?_
  refine lv_aload_n B.1 B.2.1 dX6_pick_1 rfl (lv_at hl 0 rfl) ?_
  refine io_g_6_1 B Z dX6_pick_2 ?_
  refine io_call_i Z (io_runN [.int p1, .int (σ 103 1)] [] B Z (io_c_X9_within l D ca ad A _ p1 (σ 103 1) _ hw) io_k_6_22 (io_hR (by decide) (by decide)) rfl hl.1 (Nat.le_of_ble_eq_true rfl) dX6_pick_5 ⟨Nat.le_refl _, Nat.le_refl _⟩) (fun r2 s3 H locs hw Z => ?_)
  obtain ⟨b4, hw⟩ := hw
  refine lv_if_eq (tgt := 20) B.1 B.2.1 dX6_pick_8 (by decide) (fun k5 => ?_) (fun k5 => ?_)
  · have hw := hw.1 k5
    refine lv_null B.1 B.2.1 dX6_pick_20 ?_
    exact io_ret_n B Z hr hlk hw dX6_pick_21
  · have hw := hw.2 k5
    refine lv_aload_n B.1 B.2.1 dX6_pick_11 rfl (lv_at hl 0 rfl) ?_
    refine io_g_6_0 B Z dX6_pick_12 ?_
    refine lv_iload_n B.1 B.2.1 dX6_pick_15 rfl (lv_at hl 1 rfl) ?_
    have h6 := io_lt hw.1
    refine io_aldL B Z hw.1 dX6_pick_16 ?_
    have hw := hw.2
    refine lv_goto (tgt := 21) B.1 B.2.1 dX6_pick_17 (by decide) ?_
    exact io_ret_r B Z hr hlk h6 hw dX6_pick_21
def wp_X5_length (σ : io_M) (j : Nat) (post : Int32 → io_M → Prop) : Prop := post (σ (40 + j) 2) σ
set_option maxHeartbeats 4000000 in
set_option maxRecDepth 100000 in
theorem io_c_X5_length (l : Launch) (D : va_G) (ca : Nat → ClassId) (ad : Nat → Nat) (A : Nat → Prop) (σ : io_M) (j : Nat) (hj : j < 20) (post : Int32 → io_M → Prop) (hw : wp_X5_length σ j post) : Met l yX5_length (.code yX5_length cX5_length 1 (some .int) :: io_tb) (io_rm 0) (va_Pc [.ref (ad (40 + j))] (io_W D ca ad A σ)) (va_Qi post (io_W D ca ad A) A) 0 0 A := by
  refine Met.ofW (cc := cX5_length) (maxL := 1) (ret := (some .int)) (by decide) rfl ?_
  intro p e s m args below meth c s₁ Bd hml hv
  obtain ⟨rfl, hW0⟩ := hv
  have Z := io_Z.start hW0
  have B : CallFix p m c cX5_length 1 s _ io_tb RX5 := ⟨Bd.exec, Bd.bytes, hml, findClass_of_methodNamed Bd.named, fun w hw => atoms_spec (ws := (.code yX5_length cX5_length 1 (some .int) :: io_tb)) Bd.pre w (List.mem_cons_of_mem _ hw)⟩
  have hr := Bd.returns
  have hlk := Bd.notSynchronized
  have hl := lv_entry ([.ref (ad (40 + j))]) (n := 1) (Nat.le_of_ble_eq_true rfl)
  rw [lg_entry_eq]
  generalize (lg_sl ([.ref (ad (40 + j))]) ++ List.replicate (1 - (lg_sl ([.ref (ad (40 + j))])).length) Slot.unset).toArray = ls at hl ⊢
  have hl : lv_has ls 1 [(0, .ref (ad (40 + j)))] := hl
  show W p l e (io_rm 0) s m _ below meth c s.heap [] 0 0 _ (F0 m 0 ls [])
  unfold wp_X5_length at hw
  refine lv_aload_n B.1 B.2.1 dX5_length_0 rfl (lv_at hl 0 rfl) ?_
  refine io_g_5_2 B Z hj dX5_length_1 ?_
  exact io_ret_i B Z hr hlk hw dX5_length_4
def wp_X6_count (σ : io_M) (post : Int32 → io_M → Prop) : Prop := post (σ 103 1) σ
set_option maxHeartbeats 4000000 in
set_option maxRecDepth 100000 in
theorem io_c_X6_count (l : Launch) (D : va_G) (ca : Nat → ClassId) (ad : Nat → Nat) (A : Nat → Prop) (σ : io_M) (post : Int32 → io_M → Prop) (hw : wp_X6_count σ post) : Met l yX6_count (.code yX6_count cX6_count 1 (some .int) :: io_tb) (io_rm 0) (va_Pc [.ref (ad 103)] (io_W D ca ad A σ)) (va_Qi post (io_W D ca ad A) A) 0 0 A := by
  refine Met.ofW (cc := cX6_count) (maxL := 1) (ret := (some .int)) (by decide) rfl ?_
  intro p e s m args below meth c s₁ Bd hml hv
  obtain ⟨rfl, hW0⟩ := hv
  have Z := io_Z.start hW0
  have B : CallFix p m c cX6_count 1 s _ io_tb RX6 := ⟨Bd.exec, Bd.bytes, hml, findClass_of_methodNamed Bd.named, fun w hw => atoms_spec (ws := (.code yX6_count cX6_count 1 (some .int) :: io_tb)) Bd.pre w (List.mem_cons_of_mem _ hw)⟩
  have hr := Bd.returns
  have hlk := Bd.notSynchronized
  have hl := lv_entry ([.ref (ad 103)]) (n := 1) (Nat.le_of_ble_eq_true rfl)
  rw [lg_entry_eq]
  generalize (lg_sl ([.ref (ad 103)]) ++ List.replicate (1 - (lg_sl ([.ref (ad 103)])).length) Slot.unset).toArray = ls at hl ⊢
  have hl : lv_has ls 1 [(0, .ref (ad 103))] := hl
  show W p l e (io_rm 0) s m _ below meth c s.heap [] 0 0 _ (F0 m 0 ls [])
  unfold wp_X6_count at hw
  refine lv_aload_n B.1 B.2.1 dX6_count_0 rfl (lv_at hl 0 rfl) ?_
  refine io_g_6_1 B Z dX6_count_1 ?_
  exact io_ret_i B Z hr hlk hw dX6_count_4
